theorem pr_st {σ : am_S} (h : R0 σ) : ∃ tl, σ 22 2 = nI tl ∧ σ 85 22 = nI tl ∧ tl ≤ 50 ∧ σ 23 = σ 102 ∧ σ 21 6 = σ 85 25 ∧ σ 0 12 = σ 85 0 ∧ rXp (σ 21 4) (σ 104 0) (σ 26) (σ 27) (σ 25) (σ 103) 0 ∧ rXp (σ 21 5) (σ 104 1) (σ 29) (σ 30) (σ 28) (σ 103) 50 ∧ rXt (σ 104 2) (σ 32) (σ 33) (σ 31) (σ 103) 100 := by
  obtain ⟨n, e, p, pe, th, ti, wa, ca, ta, dd, wt, tl, cn, ce, cp, cpe, cth, cti, cwa, cca, cta, cdy, cwt, ctl, f1_11, f1_12, f1_13, f13_7, f22_2, f21_6, f34_6, f34_7, f47_2, f47_3, f48_4, f73_4, f78_4, f0_11, f0_12, f47_0, f47_1, r2, r3, r4, r5, r6, r7, r8, r9, r10, r11, r14, r15, r18, r19, r20, r23, r35, r36, r37, r38, r39, r40, r49, r50, r74, r75, r76, r77, r79, r80, r84, hM, hL, hP, hE, hW, hG, hC, hT, hD, hX0, hX1, hX2, hK⟩ := h
  exact ⟨tl, ctl, by rw [← f22_2]; exact ctl, hD.2.2, r23, f21_6, f0_12, hX0, hX1, hX2⟩
theorem rXp_01 {fl L : Int32} {b gr o mb : Nat → Int32} {mo : Nat} (h : rXp fl L b gr o mb mo) : fl = 0 ∨ fl = 1 := by
  rcases h with z | z
  · exact Or.inl z.1
  · exact Or.inr z.1
/-- the reference reads the tape -/
theorem pr_rd {N tl : Nat} {θ : am_S} (hN : 20000 ≤ N) (ht : tl ≤ 50) : ∃ ρ, fm_read_85_102 N 0 (nI tl) (am_up θ 85 22 0) = some ((if (rs_all (θ 102) tl).1 = true then -1 else nI (rs_all (θ 102) tl).2.1), ρ) ∧ (∀ c, c ≠ 85 → c ≠ 125 → ρ c = θ c) ∧ (∀ k, k < 55 ∨ 60 < k → k ≠ 22 → ρ 85 k = θ 85 k) ∧ ρ 85 22 = 0 := by
  obtain ⟨ρ, e1, e2, e3⟩ := sm_rd2 (N := N) (σ := am_up θ 85 22 0) (fr := 0) hN ht (by omega)
  have er : rs_rows (rn_b (am_up θ 85 22 0) 0) tl 51 0 rs_F0 = rs_all (θ 102) tl := rs_all_cong (fun k hk => by
    show am_up θ 85 22 0 102 (0 + k) = θ 102 k
    rw [hb_up_ne (by decide), Nat.zero_add])
  rw [er] at e1
  refine ⟨ρ, e1, ?_, ?_, ?_⟩
  · intro c h1 h2; rw [e2.1 c h1 h2, hb_up_ne h1]
  · intro k h1 h2; rw [e2.2 k h1, hb_up_eq, hb_un h2]
  · rw [e2.2 22 (by omega), hb_up_eq, hb_us]
theorem b160_v {N a la l2 : Nat} {ρ : am_S} (hN : 20000 ≤ N) (ha : a ≤ 1) (hl : la ≤ 50) (hl2 : l2 ≤ 50) (h1 : ρ 104 a = nI la) (h2 : ρ 104 2 = nI l2) : fm_propose_b160 N (nI a) ρ = some (if un_s (fun k => ρ 103 (50 * a + k)) (fun k => ρ 103 (100 + k)) la l2 60 0 = -1 then 1 else 0, ρ) := by
  have m := mu (N := N) (x := a) (y := 2) (σ := ρ) hN (by omega) (by omega) hl hl2 h1 h2
  have m' : fm_unlike N (nI a) 2 ρ = some (un_s (fun k => ρ 103 (50 * a + k)) (fun k => ρ 103 (100 + k)) la l2 60 0) := m
  have lt := un_lt (b := fun k => ρ 103 (50 * a + k)) (b' := fun k => ρ 103 (100 + k)) hl hl2
  unfold fm_propose_b160
  rw [m', hb_bind]
  by_cases z : un_s (fun k => ρ 103 (50 * a + k)) (fun k => ρ 103 (100 + k)) la l2 60 0 = -1
  · rw [if_neg (fun u => (lt.1.1 u) z), if_pos z]
  · rw [if_pos (lt.1.2 z), if_neg z]
theorem C_en_0 {N tl ll lo : Nat} {σ τ1 : am_S} (hN : 20000 ≤ N) (h : R σ) (hr : (rs_all (σ 23) tl).1 = true) (m22 : σ 85 22 = nI tl) (t50 : tl ≤ 50) (r23 : σ 23 = σ 102) (f21 : σ 21 6 = σ 85 25) (f0 : σ 0 12 = σ 85 0)
    (k1 : fx_Houses_takeTape N 0 σ = some (-1, τ1)) (kF : ∀ c, c ≠ 21 → c ≠ 22 → c ≠ 24 → c ≠ 25 → c ≠ 26 → c ≠ 27 → τ1 c = σ c) (k22 : τ1 22 2 = 0) (kown : τ1 21 4 = 1) (koth : τ1 21 5 = σ 21 5) (kt : tx_o tl (τ1 26) (τ1 27) (τ1 25)) (kb : ∀ k, k < 50 → τ1 26 k = σ 23 k)
    (o1 : τ1 21 5 = 1) (ot : tx_o lo (τ1 29) (τ1 30) (τ1 28)) (ol : σ 104 1 = nI lo) (ob : ∀ k, k < lo → τ1 29 k = σ 103 (50 + k)) (tl2' : tx_o ll (τ1 32) (τ1 33) (τ1 31)) (el2 : σ 104 2 = nI ll) (bl2 : ∀ k, k < ll → σ 32 k = σ 103 (100 + k))
    (rd : ∀ θ : am_S, θ 85 = σ 85 → θ 102 = σ 102 → θ 103 = σ 103 → θ 104 = σ 104 → ∃ ρ2, fm_propose N 0 θ = (if ρ2 104 1 < 0 then fm_propose_b160 N 0 ρ2 else (fm_unlike N (0 : Int32) (1 : Int32) ρ2).bind fun q5 => (if 0 ≤ q5 then fm_propose_b160 N 0 ρ2 else (fm_unlike N (0 : Int32) (2 : Int32) ρ2).bind fun q7 => (if q7 < 0 then fm_propose_b160 N 0 ρ2 else fm_propose_b116 N N (nI 0) (nI tl) (nI 0) ρ2))) ∧ (∀ c, c ≠ 85 → c ≠ 125 → c ≠ 103 → c ≠ 104 → ρ2 c = θ c) ∧ (∀ k, k < 55 ∨ 60 < k → k ≠ 22 → ρ2 85 k = σ 85 k) ∧ ρ2 85 22 = 0 ∧ ρ2 104 = upd (σ 104) 0 (nI tl) ∧ (∀ j, j < 0 ∨ 0 + tl ≤ j → ρ2 103 j = σ 103 j) ∧ (∀ j, j < tl → ρ2 103 (0 + j) = σ 23 j))
    (m01 : ∀ ρ2 : am_S, ρ2 104 = upd (σ 104) 0 (nI tl) → (∀ j, j < 0 ∨ 0 + tl ≤ j → ρ2 103 j = σ 103 j) → (∀ j, j < tl → ρ2 103 (0 + j) = σ 23 j) → ¬ ρ2 104 1 < 0 ∧ fm_unlike N 0 1 ρ2 = some (un_s (τ1 26) (τ1 29) tl lo 60 0) ∧ fm_unlike N 0 2 ρ2 = some (un_s (τ1 26) (τ1 32) tl ll 60 0))
    (s1 : un_s (τ1 26) (τ1 29) tl lo 60 0 = -1) (s2 : ¬ un_s (τ1 26) (τ1 32) tl ll 60 0 = -1) (v01 : fx_Text_firstUnlike N τ1 = some (un_s (τ1 26) (τ1 29) tl lo 60 0)) (v02 : fx_Text_firstUnlike_25_31 N τ1 = some (un_s (τ1 26) (τ1 32) tl ll 60 0)) : tw (fx_propose N 0) (fm_propose N 0) σ := by
  have lo5 := ot.1
  have ll5 := tl2'.1
  have hue := un_eq (b := τ1 26) (b' := τ1 29) (l := tl) (l' := lo) (by omega) (by omega) 60 0 (by omega) (by omega) s1
  have hlo : lo = tl := by have := hue.1; omega
  subst hlo
  have sl0 : tx_o lo (τ1 26) (τ1 27) (τ1 25) := kt
  have s0 : ∀ k, k < lo → τ1 26 k = σ 23 k := by
    intro k hk
    exact kb k (by omega)
  obtain ⟨τ2, t1, t2, t3, t4, t5⟩ := tf_31 (σ := τ1) (tx_bo sl0)
  have lw : tx_o lo (τ2 32) (τ2 33) (τ2 31) := tx_cp sl0 t3 t4 t5
  obtain ⟨θ, hθ⟩ : ∃ θ, θ = am_up (am_up τ2 21 6 (τ1 0 12)) 41 5 0 := ⟨_, rfl⟩
  have fθ : ∀ c, c ≠ 21 → c ≠ 41 → θ c = τ2 c := by
    intro c b1 b2; rw [hθ, hb_up_ne b2, hb_up_ne b1]
  have gθ : ∀ c, c ≠ 21 → c ≠ 41 → c ≠ 31 → c ≠ 32 → c ≠ 33 → c ≠ 22 → c ≠ 24 → c ≠ 25 → c ≠ 26 → c ≠ 27 → θ c = σ c := by
    intro c b1 b2 b3 b4 b5 b6 b7 b8 b9 b10
    rw [fθ c b1 b2, t2 c b3 b4 b5, kF c b1 b6 b7 b8 b9 b10]
  have θ21 : ∀ k, k ≠ 6 → θ 21 k = τ1 21 k := by
    intro k hk
    rw [hθ, hb_up_ne (by decide), hb_up_eq, hb_un hk, t2 21 (by decide) (by decide) (by decide)]
  have θ216 : θ 21 6 = σ 0 12 := by
    rw [hθ, hb_up_ne (by decide), hb_up_eq, hb_us, kF 0 (by decide) (by decide) (by decide) (by decide) (by decide) (by decide)]
  obtain ⟨ρ2, w1, w2, w3, w4, w5, w6, w7⟩ := rd θ (gθ 85 (by decide) (by decide) (by decide) (by decide) (by decide) (by decide) (by decide) (by decide) (by decide) (by decide)) (gθ 102 (by decide) (by decide) (by decide) (by decide) (by decide) (by decide) (by decide) (by decide) (by decide) (by decide)) (gθ 103 (by decide) (by decide) (by decide) (by decide) (by decide) (by decide) (by decide) (by decide) (by decide) (by decide)) (gθ 104 (by decide) (by decide) (by decide) (by decide) (by decide) (by decide) (by decide) (by decide) (by decide) (by decide))
  obtain ⟨n0, n1, n2⟩ := m01 ρ2 w5 w6 w7
  have lt01 := un_lt (b := τ1 26) (b' := τ1 29) (l := lo) (l' := lo) (by omega) (by omega)
  have lt02 := un_lt (b := τ1 26) (b' := τ1 32) (l := lo) (l' := ll) (by omega) ll5
  obtain ⟨ρ3, y1, y2, y3, y4⟩ := b116_c (N := N) (a := 0) t50 lo 0 N ρ2 (by omega) (by omega)
  obtain ⟨ρ4, h4'⟩ : ∃ ρ4, ρ4 = am_up (am_up ρ3 104 2 (nI lo)) 85 25 (ρ3 85 0) := ⟨_, rfl⟩
  rw [← h4'] at y1
  have g4 : ∀ c, c ≠ 85 → c ≠ 125 → c ≠ 103 → c ≠ 104 → ρ4 c = θ c := by
    intro c b1 b2 b3 b4
    rw [h4', hb_up_ne b1, hb_up_ne b4, y2 c b3, w2 c b1 b2 b3 b4]
  have g4t : ∀ c, c ≠ 85 → c ≠ 125 → c ≠ 103 → c ≠ 104 → c ≠ 21 → c ≠ 41 → c ≠ 31 → c ≠ 32 → c ≠ 33 → ρ4 c = τ1 c := by
    intro c b1 b2 b3 b4 b5 b6 b7 b8 b9
    rw [g4 c b1 b2 b3 b4, fθ c b5 b6, t2 c b7 b8 b9]
  have e104 : ρ4 104 = upd (upd (σ 104) 0 (nI lo)) 2 (nI lo) := by
    rw [h4', hb_up_ne (by decide), hb_up_eq, y2 104 (by decide), w5]
  have e103 : ∀ j, j < 100 → ρ4 103 j = ρ2 103 j := by
    intro j hj
    rw [h4', hb_up_ne (by decide), hb_up_ne (by decide), y3 j (by omega)]
  have e103l : ∀ j, j < lo → ρ4 103 (100 + j) = σ 23 j := by
    intro j hj
    rw [h4', hb_up_ne (by decide), hb_up_ne (by decide), y4 j (by omega) hj, w2 102 (by decide) (by decide) (by decide) (by decide), gθ 102 (by decide) (by decide) (by decide) (by decide) (by decide) (by decide) (by decide) (by decide) (by decide) (by decide), r23]
  have e85 : ∀ k, k < 55 ∨ 60 < k → k ≠ 22 → k ≠ 25 → ρ4 85 k = σ 85 k := by
    intro k b1 b2 b3
    rw [h4', hb_up_eq, hb_un b3, hb_up_ne (by decide), y2 85 (by decide), w3 k b1 b2]
  have own : rXt (ρ4 104 0) (ρ4 26) (ρ4 27) (ρ4 25) (ρ4 103) 0 := by
    rw [g4t 25 (by decide) (by decide) (by decide) (by decide) (by decide) (by decide) (by decide) (by decide) (by decide), g4t 26 (by decide) (by decide) (by decide) (by decide) (by decide) (by decide) (by decide) (by decide) (by decide), g4t 27 (by decide) (by decide) (by decide) (by decide) (by decide) (by decide) (by decide) (by decide) (by decide), e104, hb_un (by decide), hb_us]
    exact tx_to kt rfl (fun k hk => by rw [kb k (by omega), e103 _ (by omega), w7 k hk])
  have oth : rXt (ρ4 104 1) (ρ4 29) (ρ4 30) (ρ4 28) (ρ4 103) 50 := by
    rw [g4t 28 (by decide) (by decide) (by decide) (by decide) (by decide) (by decide) (by decide) (by decide) (by decide), g4t 29 (by decide) (by decide) (by decide) (by decide) (by decide) (by decide) (by decide) (by decide) (by decide), g4t 30 (by decide) (by decide) (by decide) (by decide) (by decide) (by decide) (by decide) (by decide) (by decide), e104, hb_un (by decide), hb_un (by decide)]
    exact tx_to ot ol (fun k hk => by rw [ob k hk, e103 _ (by omega), w6 _ (by omega)])
  have law : rXt (ρ4 104 2) (ρ4 32) (ρ4 33) (ρ4 31) (ρ4 103) 100 := by
    rw [g4 31 (by decide) (by decide) (by decide) (by decide), g4 32 (by decide) (by decide) (by decide) (by decide), g4 33 (by decide) (by decide) (by decide) (by decide), fθ 31 (by decide) (by decide), fθ 32 (by decide) (by decide), fθ 33 (by decide) (by decide), e104, hb_us]
    exact tx_to lw rfl (fun k hk => by rw [t3 k (by omega), s0 k hk, e103l k hk])
  have θ32 : θ 32 = τ2 32 := fθ 32 (by decide) (by decide)
  have θB : θ 26 = τ1 26 := by rw [fθ 26 (by decide) (by decide), t2 26 (by decide) (by decide) (by decide)]
  have vm := b160_v (N := N) (a := 0) (la := lo) (l2 := lo) (ρ := ρ4) hN (by omega) t50 t50 (by rw [e104, hb_un (by decide), hb_us]) (by rw [e104, hb_us])
  have vx := fu__31_25 (N := N) (σ := θ) (l := lo) (l' := lo) hN t50 t50 (by rw [fθ 31 (by decide) (by decide)]; exact lw.2.1) (by rw [fθ 25 (by decide) (by decide), t2 25 (by decide) (by decide) (by decide)]; exact kt.2.1)
  have eq : un_s (θ 32) (θ 26) lo lo 60 0 = un_s (fun k => ρ4 103 (50 * 0 + k)) (fun k => ρ4 103 (100 + k)) lo lo 60 0 := by
    rw [un_sym]
    refine un_cong (fun k hk => ?_) (fun k hk => ?_) 60 0
    · rw [θB, kb k (by omega)]
      refine Eq.symm (Eq.trans (e103 _ (by omega)) (w7 k hk))
    · rw [θ32, t3 k (by omega), s0 k hk]; exact (e103l k hk).symm
  have lt := un_lt (b := θ 32) (b' := θ 26) (l := lo) (l' := lo) t50 t50
  rw [← eq] at vm
  have zz : ¬ zoE 0 = 0 := by decide
  have own0 : ¬ τ1 21 4 = 0 := by rw [kown]; decide
  have oth0 : ¬ τ1 21 5 = 0 := by rw [o1]; decide
  have ec : fx_Houses_enactFrom N (τ1 0 12) τ1 = some (1, am_up τ2 21 6 (τ1 0 12)) := by
    unfold fx_Houses_enactFrom fx_Text_isSameAs fx_Text_isSameAs_25_31
    rw [if_neg (show ¬ τ1 21 4 = 0 from own0), if_neg (show ¬ τ1 21 5 = 0 from oth0), v01, hb_bind, if_neg (fun u => (lt01.1.1 u) s1), hb_bind, if_neg (by decide), v02, hb_bind, if_pos (lt02.1.2 s2), hb_bind, if_pos rfl, t1, hb_bind]
  refine ⟨if un_s (θ 32) (θ 26) lo lo 60 0 = -1 then 1 else 0, θ, ρ4, ?_, ?_, ?_, ?_⟩
  · unfold fx_propose
    rw [zx_x, if_neg zz, k1, hb_bind]
    refine Eq.trans (if_pos (show (-1 : Int32) < 0 by decide)) ?_
    refine Eq.trans (congrArg (fun x => Option.bind x _) ec) ?_
    show fx_propose_b53 N 0 (am_up (am_up τ2 21 6 (τ1 0 12)) 41 5 0) = _
    rw [← hθ]
    unfold fx_propose_b53 fx_Houses_heldBy
    rw [if_pos (show (0 : Int32) = 0 from rfl), if_pos (show (25 : Nat) = 25 from rfl)]
    unfold fx_Text_isSameAs_31_25
    rw [vx, hb_bind]
    by_cases z : un_s (θ 32) (θ 26) lo lo 60 0 = -1
    · rw [if_neg (fun u => (lt.1.1 u) z), hb_bind, if_neg (by decide), if_pos z]
    · rw [if_pos (lt.1.2 z), hb_bind, if_pos rfl, if_neg z]
  · rw [w1, if_neg n0, n1, hb_bind, if_neg (fun u => (lt01.1.1 u) s1), n2, hb_bind, if_neg (fun u => s2 (lt02.2.1 u)), y1]
    exact vm
  · refine R0_tx (tl' := 0) h.1 ?_ ?_ (by omega) ?_ ?_ ?_ ?_ ?_ law (Or.inl ?_)
    · intro c hc
      obtain ⟨d21, d22, d24, d25, d26, d27, d28, d29, d30, d31, d32, d33, d41, d85, d103, d104, d125⟩ := tx_d hc
      rw [g4 c d85 d125 d103 d104, gθ c d21 d41 d31 d32 d33 d22 d24 (by assumption) (by assumption) (by assumption)]
    · intro k hk
      unfold tx_f at hk
      rw [Bool.and_eq_true, Bool.or_eq_true] at hk
      refine e85 k ?_ (fun z => by rw [z] at hk; exact absurd hk.1 (by decide)) (fun z => by rw [z] at hk; exact absurd hk.1 (by decide))
      rcases hk.2 with u | u
      · exact Or.inl (Nat.le_of_ble_eq_true u)
      · exact Or.inr (Nat.le_of_ble_eq_true u)
    · rw [g4t 22 (by decide) (by decide) (by decide) (by decide) (by decide) (by decide) (by decide) (by decide) (by decide)]; exact k22
    · rw [h4', hb_up_eq, hb_un (by decide), hb_up_ne (by decide), y2 85 (by decide)]; exact w4
    · rw [g4 21 (by decide) (by decide) (by decide) (by decide), θ216, h4', hb_up_eq, hb_us, y2 85 (by decide), w3 0 (by omega) (by decide)]; exact f0
    · right
      rw [g4 21 (by decide) (by decide) (by decide) (by decide), θ21 4 (by decide)]
      exact ⟨kown, own⟩
    · right
      rw [g4 21 (by decide) (by decide) (by decide) (by decide), θ21 5 (by decide)]
      exact ⟨o1, oth⟩
    · rw [g4 41 (by decide) (by decide) (by decide) (by decide), hθ, hb_up_eq, hb_us]
  · rw [g4 83 (by decide) (by decide) (by decide) (by decide), g4 123 (by decide) (by decide) (by decide) (by decide), gθ 83 (by decide) (by decide) (by decide) (by decide) (by decide) (by decide) (by decide) (by decide) (by decide) (by decide), gθ 123 (by decide) (by decide) (by decide) (by decide) (by decide) (by decide) (by decide) (by decide) (by decide) (by decide)]
    exact h.2
theorem C_prop_0 {N : Nat} {σ : am_S} (hN : 20000 ≤ N) (h : R σ) : tw (fx_propose N 0) (fm_propose N 0) σ := by
  obtain ⟨tl, c22, m22, t50, r23, f21, f0, hX0, hX1, hX2⟩ := pr_st h.1
  have h4 := rXp_01 hX0
  have h5 := rXp_01 hX1
  have zz : ¬ zoE 0 = 0 := by decide
  by_cases hr : (rs_all (σ 23) tl).1 = true
  · obtain ⟨τ1, k1, kF, k22, kown, koth, k6, kt, kb⟩ := tt_0 (N := N) hN t50 c22 hr h4 h5
    obtain ⟨ll, tl2, el2, bl2⟩ := tx_of hX2
    have tl2' : tx_o ll (τ1 32) (τ1 33) (τ1 31) := by rw [kF 31 (by decide) (by decide) (by decide) (by decide) (by decide) (by decide), kF 32 (by decide) (by decide) (by decide) (by decide) (by decide) (by decide), kF 33 (by decide) (by decide) (by decide) (by decide) (by decide) (by decide)]; exact tl2
    have c32 : τ1 32 = σ 32 := kF 32 (by decide) (by decide) (by decide) (by decide) (by decide) (by decide)
    /- the reference's side, from a state of the class's making -/
    have rd : ∀ θ : am_S, θ 85 = σ 85 → θ 102 = σ 102 → θ 103 = σ 103 → θ 104 = σ 104 → ∃ ρ2, fm_propose N 0 θ = (if ρ2 104 1 < 0 then fm_propose_b160 N 0 ρ2 else (fm_unlike N (0 : Int32) (1 : Int32) ρ2).bind fun q5 => (if 0 ≤ q5 then fm_propose_b160 N 0 ρ2 else (fm_unlike N (0 : Int32) (2 : Int32) ρ2).bind fun q7 => (if q7 < 0 then fm_propose_b160 N 0 ρ2 else fm_propose_b116 N N (nI 0) (nI tl) (nI 0) ρ2))) ∧ (∀ c, c ≠ 85 → c ≠ 125 → c ≠ 103 → c ≠ 104 → ρ2 c = θ c) ∧ (∀ k, k < 55 ∨ 60 < k → k ≠ 22 → ρ2 85 k = σ 85 k) ∧ ρ2 85 22 = 0 ∧ ρ2 104 = upd (σ 104) 0 (nI tl) ∧ (∀ j, j < 0 ∨ 0 + tl ≤ j → ρ2 103 j = σ 103 j) ∧ (∀ j, j < tl → ρ2 103 (0 + j) = σ 23 j) := by
      intro θ g85 g102 g103 g104
      obtain ⟨ρ, e1, e2, e3, e4⟩ := pr_rd (N := N) (θ := θ) hN t50
      rw [g102, ← r23, hr, if_pos rfl] at e1
      obtain ⟨ρ1, y1, y2, y3, y4⟩ := b46_c (N := N) (a := 0) (by omega) t50 tl 0 N ρ (by omega) (by omega)
      refine ⟨am_up ρ1 104 0 (nI tl), ?_, ?_, ?_, ?_, ?_, ?_, ?_⟩
      · unfold fm_propose
        rw [zx_s, if_neg zz, show θ 85 22 = nI tl by rw [g85]; exact m22, e1, hb_bind]
        refine Eq.trans (if_pos (show (-1 : Int32) < 0 by decide)) ?_
        refine Eq.trans y1 ?_
        rw [fm_propose_b46, if_pos (nI_le (Nat.le_refl _) (by omega)), hb_gt (show am_in (nI 0) 3 = true from rfl), hb_gt (show am_in ((1 : Int32) - nI 0) 3 = true by decide)]
        rfl
      · intro c b1 b2 b3 b4
        rw [hb_up_ne b4, y2 c b3, e2 c b1 b2]
      · intro k b1 b2
        rw [hb_up_ne (by decide), y2 85 (by decide), e3 k b1 b2, g85]
      · rw [hb_up_ne (by decide), y2 85 (by decide)]; exact e4
      · rw [hb_up_eq, y2 104 (by decide), e2 104 (by decide) (by decide), g104]
      · intro j hj
        rw [hb_up_ne (by decide), y3 j (by omega), e2 103 (by decide) (by decide), g103]
      · intro j hj
        have := y4 j (by omega) hj
        rw [hb_up_ne (by decide)]
        refine Eq.trans this ?_
        rw [e2 102 (by decide) (by decide), g102, ← r23]
    have hother : rXp (τ1 21 5) (σ 104 1) (τ1 29) (τ1 30) (τ1 28) (σ 103) 50 := by
      rw [koth, kF 28 (by decide) (by decide) (by decide) (by decide) (by decide) (by decide), kF 29 (by decide) (by decide) (by decide) (by decide) (by decide) (by decide), kF 30 (by decide) (by decide) (by decide) (by decide) (by decide) (by decide)]
      exact hX1
    /- nothing is enacted -/
    have non : ∀ ρ2 : am_S, (∀ c, c ≠ 85 → c ≠ 125 → c ≠ 103 → c ≠ 104 → ρ2 c = τ1 c) → (∀ k, k < 55 ∨ 60 < k → k ≠ 22 → ρ2 85 k = σ 85 k) → ρ2 85 22 = 0 → ρ2 104 = upd (σ 104) 0 (nI tl) → (∀ j, j < 0 ∨ 0 + tl ≤ j → ρ2 103 j = σ 103 j) → (∀ j, j < tl → ρ2 103 (0 + j) = σ 23 j) → fx_Houses_enactFrom N (τ1 0 12) τ1 = some (0, τ1) → fm_propose N 0 τ1 = fm_propose_b160 N 0 ρ2 → tw (fx_propose N 0) (fm_propose N 0) σ := by
      intro ρ2 z2 z85 z22 z104 z103 z103' ec em
      have own : rXt (ρ2 104 0) (ρ2 26) (ρ2 27) (ρ2 25) (ρ2 103) 0 := by
        rw [z2 25 (by decide) (by decide) (by decide) (by decide), z2 26 (by decide) (by decide) (by decide) (by decide), z2 27 (by decide) (by decide) (by decide) (by decide), z104, hb_us]
        exact tx_to kt rfl (fun k hk => by rw [kb k (by omega), z103' k hk])
      have oth : rXp (ρ2 21 5) (ρ2 104 1) (ρ2 29) (ρ2 30) (ρ2 28) (ρ2 103) 50 := by
        rw [z2 21 (by decide) (by decide) (by decide) (by decide), z2 28 (by decide) (by decide) (by decide) (by decide), z2 29 (by decide) (by decide) (by decide) (by decide), z2 30 (by decide) (by decide) (by decide) (by decide), z104, hb_un (by decide)]
        rcases hother with w | ⟨w, hw⟩
        · exact Or.inl w
        · obtain ⟨lo, o1, o2, o3⟩ := tx_of hw
          have := o1.1
          exact Or.inr ⟨w, tx_to o1 o2 (fun k hk => by rw [o3 k hk, z103 _ (by omega)])⟩
      have lw : rXt (ρ2 104 2) (ρ2 32) (ρ2 33) (ρ2 31) (ρ2 103) 100 := by
        rw [z2 31 (by decide) (by decide) (by decide) (by decide), z2 32 (by decide) (by decide) (by decide) (by decide), z2 33 (by decide) (by decide) (by decide) (by decide), z104, hb_un (by decide)]
        exact tx_to tl2' el2 (fun k hk => by rw [c32, bl2 k hk, z103 _ (by omega)])
      have vm := b160_v (N := N) (a := 0) (la := tl) (l2 := ll) (ρ := ρ2) hN (by omega) t50 tl2.1 (by rw [z104, hb_us]) (by rw [z104, hb_un (by decide)]; exact el2)
      have vx := fu__31_25 (N := N) (σ := τ1) hN tl2.1 t50 tl2'.2.1 kt.2.1
      have eq : un_s (τ1 32) (τ1 26) ll tl 60 0 = un_s (fun k => ρ2 103 (50 * 0 + k)) (fun k => ρ2 103 (100 + k)) tl ll 60 0 := by
        rw [un_sym]
        refine un_cong (fun k hk => ?_) (fun k hk => ?_) 60 0
        · rw [kb k (by omega)]; exact (z103' k hk).symm
        · have l5 := tl2.1
          rw [c32, bl2 k hk]; exact (z103 _ (by omega)).symm
      have lt := un_lt (b := τ1 32) (b' := τ1 26) tl2.1 t50
      rw [← eq] at vm
      refine ⟨if un_s (τ1 32) (τ1 26) ll tl 60 0 = -1 then 1 else 0, τ1, ρ2, ?_, ?_, ?_, ?_⟩
      · unfold fx_propose
        rw [zx_x, if_neg zz, k1, hb_bind]
        refine Eq.trans (if_pos (show (-1 : Int32) < 0 by decide)) ?_
        refine Eq.trans (congrArg (fun x => Option.bind x _) ec) ?_
        show fx_propose_b53 N 0 τ1 = _
        unfold fx_propose_b53 fx_Houses_heldBy
        rw [if_pos (show (0 : Int32) = 0 from rfl), if_pos (show (25 : Nat) = 25 from rfl)]
        unfold fx_Text_isSameAs_31_25
        rw [vx, hb_bind]
        by_cases z : un_s (τ1 32) (τ1 26) ll tl 60 0 = -1
        · rw [if_neg (fun u => (lt.1.1 u) z), hb_bind, if_neg (by decide), if_pos z]
        · rw [if_pos (lt.1.2 z), hb_bind, if_pos rfl, if_neg z]
      · rw [em]; exact vm
      · refine R0_tx (tl' := 0) h.1 ?_ ?_ (by omega) ?_ z22 ?_ ?_ ?_ lw ?_
        · intro c hc
          obtain ⟨d21, d22, d24, d25, d26, d27, d28, d29, d30, d31, d32, d33, d41, d85, d103, d104, d125⟩ := tx_d hc
          rw [z2 c d85 d125 d103 d104, kF c d21 d22 d24 (by assumption) (by assumption) (by assumption)]
        · intro k hk
          unfold tx_f at hk
          rw [Bool.and_eq_true, Bool.or_eq_true] at hk
          refine z85 k ?_ (fun z => by rw [z] at hk; exact absurd hk.1 (by decide))
          rcases hk.2 with u | u
          · exact Or.inl (Nat.le_of_ble_eq_true u)
          · exact Or.inr (Nat.le_of_ble_eq_true u)
        · rw [z2 22 (by decide) (by decide) (by decide) (by decide)]; exact k22
        · rw [z2 21 (by decide) (by decide) (by decide) (by decide), k6, z85 25 (by omega) (by decide)]; exact f21
        · exact Or.inr ⟨by rw [z2 21 (by decide) (by decide) (by decide) (by decide)]; exact kown, own⟩
        · exact oth
        · right
          rw [z2 41 (by decide) (by decide) (by decide) (by decide), z2 31 (by decide) (by decide) (by decide) (by decide), kF 41 (by decide) (by decide) (by decide) (by decide) (by decide) (by decide), kF 31 (by decide) (by decide) (by decide) (by decide) (by decide) (by decide)]
          exact ⟨rfl, rfl, rfl⟩
      · rw [z2 83 (by decide) (by decide) (by decide) (by decide), z2 123 (by decide) (by decide) (by decide) (by decide), kF 83 (by decide) (by decide) (by decide) (by decide) (by decide) (by decide), kF 123 (by decide) (by decide) (by decide) (by decide) (by decide) (by decide)]
        exact h.2
    obtain ⟨ρ2, w1, w2, w3, w4, w5, w6, w7⟩ := rd τ1 (kF 85 (by decide) (by decide) (by decide) (by decide) (by decide) (by decide)) (kF 102 (by decide) (by decide) (by decide) (by decide) (by decide) (by decide)) (kF 103 (by decide) (by decide) (by decide) (by decide) (by decide) (by decide)) (kF 104 (by decide) (by decide) (by decide) (by decide) (by decide) (by decide))
    have own0 : ¬ τ1 21 4 = 0 := by rw [kown]; decide
    rcases hother with ⟨o1, o2⟩ | ⟨o1, ho⟩
    · refine non ρ2 w2 w3 w4 w5 w6 w7 ?_ ?_
      · unfold fx_Houses_enactFrom
        rw [if_neg own0, if_pos o1]
      · rw [w1, w5, hb_un (by decide), o2, if_pos (by decide)]
    · obtain ⟨lo, ot, ol, ob⟩ := tx_of ho
      have lo5 := ot.1
      have oth0 : ¬ τ1 21 5 = 0 := by rw [o1]; decide
      have b2f : τ1 29 = σ 29 := kF 29 (by decide) (by decide) (by decide) (by decide) (by decide) (by decide)
      have v01 := fu_ (N := N) (σ := τ1) (l := tl) (l' := lo) hN (by omega) (by omega) (kt.2.1) (ot.2.1)
      have v02 := fu__25_31 (N := N) (σ := τ1) (l := tl) (l' := ll) hN (by omega) tl2.1 (kt.2.1) tl2'.2.1
      have lt01 := un_lt (b := τ1 26) (b' := τ1 29) (l := tl) (l' := lo) (by omega) (by omega)
      have lt02 := un_lt (b := τ1 26) (b' := τ1 32) (l := tl) (l' := ll) (by omega) tl2.1
      /- both sides compare the same rows -/
      have m01 : ∀ ρ2 : am_S, ρ2 104 = upd (σ 104) 0 (nI tl) → (∀ j, j < 0 ∨ 0 + tl ≤ j → ρ2 103 j = σ 103 j) → (∀ j, j < tl → ρ2 103 (0 + j) = σ 23 j) → ¬ ρ2 104 1 < 0 ∧ fm_unlike N 0 1 ρ2 = some (un_s (τ1 26) (τ1 29) tl lo 60 0) ∧ fm_unlike N 0 2 ρ2 = some (un_s (τ1 26) (τ1 32) tl ll 60 0) := by
        intro ρ2 z104 z103 z103'
        have rowO : ∀ k, k < tl → τ1 26 k = ρ2 103 (0 + k) := fun k hk => by rw [kb k (by omega), z103' k hk]
        have rowT : ∀ k, k < lo → τ1 29 k = ρ2 103 (50 + k) := fun k hk => by rw [ob k hk, z103 _ (by omega)]
        have l5 := tl2.1
        have rowL : ∀ k, k < ll → τ1 32 k = ρ2 103 (100 + k) := fun k hk => by rw [c32, bl2 k hk, z103 _ (by omega)]
        have e0 : ρ2 104 0 = nI tl := by rw [z104]; exact hb_us
        have e1 : ρ2 104 1 = nI lo := by rw [z104]; rw [hb_un (by decide)]; exact ol
        have e2 : ρ2 104 2 = nI ll := by rw [z104, hb_un (by decide)]; exact el2
        refine ⟨by rw [e1]; exact nI_pos (by omega), ?_, ?_⟩
        · have m := mu (N := N) (x := 0) (y := 1) (σ := ρ2) (l := tl) (l' := lo) hN (by omega) (by omega) (by omega) (by omega) e0 e1
          rw [un_cong (b := τ1 26) (b' := τ1 29) (c := fun k => ρ2 103 (50 * 0 + k)) (c' := fun k => ρ2 103 (50 * 1 + k)) rowO rowT 60 0]
          exact m
        · have m := mu (N := N) (x := 0) (y := 2) (σ := ρ2) (l := tl) (l' := ll) hN (by omega) (by omega) (by omega) tl2.1 e0 e2
          rw [un_cong (b := τ1 26) (b' := τ1 32) (c := fun k => ρ2 103 (50 * 0 + k)) (c' := fun k => ρ2 103 (50 * 2 + k)) rowO rowL 60 0]
          exact m
      obtain ⟨n0, n1, n2⟩ := m01 ρ2 w5 w6 w7
      by_cases s1 : un_s (τ1 26) (τ1 29) tl lo 60 0 = -1
      · by_cases s2 : un_s (τ1 26) (τ1 32) tl ll 60 0 = -1
        · refine non ρ2 w2 w3 w4 w5 w6 w7 ?_ ?_
          · unfold fx_Houses_enactFrom fx_Text_isSameAs fx_Text_isSameAs_25_31
            rw [if_neg (show ¬ τ1 21 4 = 0 from own0), if_neg (show ¬ τ1 21 5 = 0 from oth0), v01, hb_bind, if_neg (fun u => (lt01.1.1 u) s1), hb_bind, if_neg (by decide), v02, hb_bind, if_neg (fun u => (lt02.1.1 u) s2), hb_bind, if_neg (by decide)]
          · rw [w1, if_neg n0, n1, hb_bind, if_neg (fun u => (lt01.1.1 u) s1), n2, hb_bind, if_pos (lt02.2.2 s2)]
        · exact C_en_0 hN h hr m22 t50 r23 f21 f0 k1 kF k22 kown koth kt kb o1 ot ol ob tl2' el2 bl2 rd m01 s1 s2 v01 v02
      · refine non ρ2 w2 w3 w4 w5 w6 w7 ?_ ?_
        · unfold fx_Houses_enactFrom fx_Text_isSameAs
          rw [if_neg (show ¬ τ1 21 4 = 0 from own0), if_neg (show ¬ τ1 21 5 = 0 from oth0), v01, hb_bind, if_pos (lt01.1.2 s1), hb_bind, if_pos rfl]
        · rw [w1, if_neg n0, n1, hb_bind, if_pos (lt01.1.2 s1)]
  · obtain ⟨σ', e1, e2, e3⟩ := sx_read (N := N) hN t50 c22
    rw [if_neg hr] at e1
    have pb : (rs_all (σ 23) tl).2.1 ≤ 60 := rs_rows_b t50 51 0 rs_F0 (by omega)
    generalize hP : (rs_all (σ 23) tl).2.1 = P at *
    have nm : ¬ nI P = -1 := fun u => by
      have := nI_pos (n := P) (by omega)
      rw [u] at this; exact this (by decide)
    obtain ⟨ρ, y1, y2, y3, y4⟩ := pr_rd (N := N) (θ := am_up σ' 22 2 0) hN t50
    have g102 : am_up σ' 22 2 0 102 = σ 23 := by rw [hb_up_ne (by decide), e2.1 102 (by decide) (by decide), r23]
    have g85 : am_up σ' 22 2 0 85 = σ 85 := by rw [hb_up_ne (by decide), e2.1 85 (by decide) (by decide)]
    rw [g102, if_neg hr, hP] at y1
    have gg : ∀ c, c ≠ 22 → c ≠ 24 → c ≠ 85 → c ≠ 125 → ρ c = σ c := by
      intro c b1 b2 b3 b4
      rw [y2 c b3 b4, hb_up_ne b1, e2.1 c b1 b2]
    refine ⟨-10 - nI P, am_up σ' 22 2 0, ρ, ?_, ?_, ?_, ?_⟩
    · unfold fx_propose fx_Houses_takeTape fx_Houses_takeTape_b66
      rw [zx_x, if_neg zz, e1, hb_bind]
      refine Eq.trans (congrArg (fun x => Option.bind x _) (if_neg (show ¬ (nI P, σ').1 = -1 from nm))) ?_
      refine Eq.trans (if_neg (show ¬ nI P < 0 from nI_pos (by omega))) rfl
    · unfold fm_propose
      rw [zx_s, if_neg zz, show am_up σ' 22 2 0 85 22 = nI tl by rw [g85]; exact m22, y1, hb_bind]
      refine Eq.trans (if_neg (show ¬ nI P < 0 from nI_pos (by omega))) rfl
    · refine R0_tx (tl' := 0) h.1 ?_ ?_ (by omega) ?_ y4 ?_ ?_ ?_ ?_ ?_
      · intro c hc
        obtain ⟨d21, d22, d24, d25, d26, d27, d28, d29, d30, d31, d32, d33, d41, d85, d103, d104, d125⟩ := tx_d hc
        exact gg c d22 d24 d85 d125
      · intro k hk
        unfold tx_f at hk
        rw [Bool.and_eq_true, Bool.or_eq_true] at hk
        rw [y3 k ?_ (fun z => by rw [z] at hk; exact absurd hk.1 (by decide)), g85]
        rcases hk.2 with u | u
        · exact Or.inl (Nat.le_of_ble_eq_true u)
        · exact Or.inr (Nat.le_of_ble_eq_true u)
      · rw [y2 22 (by decide) (by decide), hb_up_eq, hb_us]; rfl
      · rw [gg 21 (by decide) (by decide) (by decide) (by decide), y3 25 (by omega) (by decide), g85]; exact f21
      · rw [gg 21 (by decide) (by decide) (by decide) (by decide), gg 104 (by decide) (by decide) (by decide) (by decide), gg 25 (by decide) (by decide) (by decide) (by decide), gg 26 (by decide) (by decide) (by decide) (by decide), gg 27 (by decide) (by decide) (by decide) (by decide), gg 103 (by decide) (by decide) (by decide) (by decide)]; exact hX0
      · rw [gg 21 (by decide) (by decide) (by decide) (by decide), gg 104 (by decide) (by decide) (by decide) (by decide), gg 28 (by decide) (by decide) (by decide) (by decide), gg 29 (by decide) (by decide) (by decide) (by decide), gg 30 (by decide) (by decide) (by decide) (by decide), gg 103 (by decide) (by decide) (by decide) (by decide)]; exact hX1
      · rw [gg 104 (by decide) (by decide) (by decide) (by decide), gg 31 (by decide) (by decide) (by decide) (by decide), gg 32 (by decide) (by decide) (by decide) (by decide), gg 33 (by decide) (by decide) (by decide) (by decide), gg 103 (by decide) (by decide) (by decide) (by decide)]; exact hX2
      · right
        rw [gg 41 (by decide) (by decide) (by decide) (by decide), gg 31 (by decide) (by decide) (by decide) (by decide)]
        exact ⟨rfl, rfl, rfl⟩
    · rw [gg 83 (by decide) (by decide) (by decide) (by decide), gg 123 (by decide) (by decide) (by decide) (by decide)]; exact h.2
theorem C_en_1 {N tl ll lo : Nat} {σ τ1 : am_S} (hN : 20000 ≤ N) (h : R σ) (hr : (rs_all (σ 23) tl).1 = true) (m22 : σ 85 22 = nI tl) (t50 : tl ≤ 50) (r23 : σ 23 = σ 102) (f21 : σ 21 6 = σ 85 25) (f0 : σ 0 12 = σ 85 0)
    (k1 : fx_Houses_takeTape N 1 σ = some (-1, τ1)) (kF : ∀ c, c ≠ 21 → c ≠ 22 → c ≠ 24 → c ≠ 28 → c ≠ 29 → c ≠ 30 → τ1 c = σ c) (k22 : τ1 22 2 = 0) (kown : τ1 21 5 = 1) (koth : τ1 21 4 = σ 21 4) (kt : tx_o tl (τ1 29) (τ1 30) (τ1 28)) (kb : ∀ k, k < 50 → τ1 29 k = σ 23 k)
    (o1 : τ1 21 4 = 1) (ot : tx_o lo (τ1 26) (τ1 27) (τ1 25)) (ol : σ 104 0 = nI lo) (ob : ∀ k, k < lo → τ1 26 k = σ 103 (0 + k)) (tl2' : tx_o ll (τ1 32) (τ1 33) (τ1 31)) (el2 : σ 104 2 = nI ll) (bl2 : ∀ k, k < ll → σ 32 k = σ 103 (100 + k))
    (rd : ∀ θ : am_S, θ 85 = σ 85 → θ 102 = σ 102 → θ 103 = σ 103 → θ 104 = σ 104 → ∃ ρ2, fm_propose N 1 θ = (if ρ2 104 0 < 0 then fm_propose_b160 N 1 ρ2 else (fm_unlike N (0 : Int32) (1 : Int32) ρ2).bind fun q5 => (if 0 ≤ q5 then fm_propose_b160 N 1 ρ2 else (fm_unlike N (0 : Int32) (2 : Int32) ρ2).bind fun q7 => (if q7 < 0 then fm_propose_b160 N 1 ρ2 else fm_propose_b116 N N (nI 1) (nI tl) (nI 0) ρ2))) ∧ (∀ c, c ≠ 85 → c ≠ 125 → c ≠ 103 → c ≠ 104 → ρ2 c = θ c) ∧ (∀ k, k < 55 ∨ 60 < k → k ≠ 22 → ρ2 85 k = σ 85 k) ∧ ρ2 85 22 = 0 ∧ ρ2 104 = upd (σ 104) 1 (nI tl) ∧ (∀ j, j < 50 ∨ 50 + tl ≤ j → ρ2 103 j = σ 103 j) ∧ (∀ j, j < tl → ρ2 103 (50 + j) = σ 23 j))
    (m01 : ∀ ρ2 : am_S, ρ2 104 = upd (σ 104) 1 (nI tl) → (∀ j, j < 50 ∨ 50 + tl ≤ j → ρ2 103 j = σ 103 j) → (∀ j, j < tl → ρ2 103 (50 + j) = σ 23 j) → ¬ ρ2 104 0 < 0 ∧ fm_unlike N 0 1 ρ2 = some (un_s (τ1 26) (τ1 29) lo tl 60 0) ∧ fm_unlike N 0 2 ρ2 = some (un_s (τ1 26) (τ1 32) lo ll 60 0))
    (s1 : un_s (τ1 26) (τ1 29) lo tl 60 0 = -1) (s2 : ¬ un_s (τ1 26) (τ1 32) lo ll 60 0 = -1) (v01 : fx_Text_firstUnlike N τ1 = some (un_s (τ1 26) (τ1 29) lo tl 60 0)) (v02 : fx_Text_firstUnlike_25_31 N τ1 = some (un_s (τ1 26) (τ1 32) lo ll 60 0)) : tw (fx_propose N 1) (fm_propose N 1) σ := by
  have lo5 := ot.1
  have ll5 := tl2'.1
  have hue := un_eq (b := τ1 26) (b' := τ1 29) (l := lo) (l' := tl) (by omega) (by omega) 60 0 (by omega) (by omega) s1
  have hlo : lo = tl := by have := hue.1; omega
  subst hlo
  have sl0 : tx_o lo (τ1 26) (τ1 27) (τ1 25) := ot
  have s0 : ∀ k, k < lo → τ1 26 k = σ 23 k := by
    intro k hk
    rw [hue.2 k (by omega) hk]; exact kb k (by omega)
  obtain ⟨τ2, t1, t2, t3, t4, t5⟩ := tf_31 (σ := τ1) (tx_bo sl0)
  have lw : tx_o lo (τ2 32) (τ2 33) (τ2 31) := tx_cp sl0 t3 t4 t5
  obtain ⟨θ, hθ⟩ : ∃ θ, θ = am_up (am_up τ2 21 6 (τ1 0 12)) 41 5 0 := ⟨_, rfl⟩
  have fθ : ∀ c, c ≠ 21 → c ≠ 41 → θ c = τ2 c := by
    intro c b1 b2; rw [hθ, hb_up_ne b2, hb_up_ne b1]
  have gθ : ∀ c, c ≠ 21 → c ≠ 41 → c ≠ 31 → c ≠ 32 → c ≠ 33 → c ≠ 22 → c ≠ 24 → c ≠ 28 → c ≠ 29 → c ≠ 30 → θ c = σ c := by
    intro c b1 b2 b3 b4 b5 b6 b7 b8 b9 b10
    rw [fθ c b1 b2, t2 c b3 b4 b5, kF c b1 b6 b7 b8 b9 b10]
  have θ21 : ∀ k, k ≠ 6 → θ 21 k = τ1 21 k := by
    intro k hk
    rw [hθ, hb_up_ne (by decide), hb_up_eq, hb_un hk, t2 21 (by decide) (by decide) (by decide)]
  have θ216 : θ 21 6 = σ 0 12 := by
    rw [hθ, hb_up_ne (by decide), hb_up_eq, hb_us, kF 0 (by decide) (by decide) (by decide) (by decide) (by decide) (by decide)]
  obtain ⟨ρ2, w1, w2, w3, w4, w5, w6, w7⟩ := rd θ (gθ 85 (by decide) (by decide) (by decide) (by decide) (by decide) (by decide) (by decide) (by decide) (by decide) (by decide)) (gθ 102 (by decide) (by decide) (by decide) (by decide) (by decide) (by decide) (by decide) (by decide) (by decide) (by decide)) (gθ 103 (by decide) (by decide) (by decide) (by decide) (by decide) (by decide) (by decide) (by decide) (by decide) (by decide)) (gθ 104 (by decide) (by decide) (by decide) (by decide) (by decide) (by decide) (by decide) (by decide) (by decide) (by decide))
  obtain ⟨n0, n1, n2⟩ := m01 ρ2 w5 w6 w7
  have lt01 := un_lt (b := τ1 26) (b' := τ1 29) (l := lo) (l' := lo) (by omega) (by omega)
  have lt02 := un_lt (b := τ1 26) (b' := τ1 32) (l := lo) (l' := ll) (by omega) ll5
  obtain ⟨ρ3, y1, y2, y3, y4⟩ := b116_c (N := N) (a := 1) t50 lo 0 N ρ2 (by omega) (by omega)
  obtain ⟨ρ4, h4'⟩ : ∃ ρ4, ρ4 = am_up (am_up ρ3 104 2 (nI lo)) 85 25 (ρ3 85 0) := ⟨_, rfl⟩
  rw [← h4'] at y1
  have g4 : ∀ c, c ≠ 85 → c ≠ 125 → c ≠ 103 → c ≠ 104 → ρ4 c = θ c := by
    intro c b1 b2 b3 b4
    rw [h4', hb_up_ne b1, hb_up_ne b4, y2 c b3, w2 c b1 b2 b3 b4]
  have g4t : ∀ c, c ≠ 85 → c ≠ 125 → c ≠ 103 → c ≠ 104 → c ≠ 21 → c ≠ 41 → c ≠ 31 → c ≠ 32 → c ≠ 33 → ρ4 c = τ1 c := by
    intro c b1 b2 b3 b4 b5 b6 b7 b8 b9
    rw [g4 c b1 b2 b3 b4, fθ c b5 b6, t2 c b7 b8 b9]
  have e104 : ρ4 104 = upd (upd (σ 104) 1 (nI lo)) 2 (nI lo) := by
    rw [h4', hb_up_ne (by decide), hb_up_eq, y2 104 (by decide), w5]
  have e103 : ∀ j, j < 100 → ρ4 103 j = ρ2 103 j := by
    intro j hj
    rw [h4', hb_up_ne (by decide), hb_up_ne (by decide), y3 j (by omega)]
  have e103l : ∀ j, j < lo → ρ4 103 (100 + j) = σ 23 j := by
    intro j hj
    rw [h4', hb_up_ne (by decide), hb_up_ne (by decide), y4 j (by omega) hj, w2 102 (by decide) (by decide) (by decide) (by decide), gθ 102 (by decide) (by decide) (by decide) (by decide) (by decide) (by decide) (by decide) (by decide) (by decide) (by decide), r23]
  have e85 : ∀ k, k < 55 ∨ 60 < k → k ≠ 22 → k ≠ 25 → ρ4 85 k = σ 85 k := by
    intro k b1 b2 b3
    rw [h4', hb_up_eq, hb_un b3, hb_up_ne (by decide), y2 85 (by decide), w3 k b1 b2]
  have own : rXt (ρ4 104 1) (ρ4 29) (ρ4 30) (ρ4 28) (ρ4 103) 50 := by
    rw [g4t 28 (by decide) (by decide) (by decide) (by decide) (by decide) (by decide) (by decide) (by decide) (by decide), g4t 29 (by decide) (by decide) (by decide) (by decide) (by decide) (by decide) (by decide) (by decide) (by decide), g4t 30 (by decide) (by decide) (by decide) (by decide) (by decide) (by decide) (by decide) (by decide) (by decide), e104, hb_un (by decide), hb_us]
    exact tx_to kt rfl (fun k hk => by rw [kb k (by omega), e103 _ (by omega), w7 k hk])
  have oth : rXt (ρ4 104 0) (ρ4 26) (ρ4 27) (ρ4 25) (ρ4 103) 0 := by
    rw [g4t 25 (by decide) (by decide) (by decide) (by decide) (by decide) (by decide) (by decide) (by decide) (by decide), g4t 26 (by decide) (by decide) (by decide) (by decide) (by decide) (by decide) (by decide) (by decide) (by decide), g4t 27 (by decide) (by decide) (by decide) (by decide) (by decide) (by decide) (by decide) (by decide) (by decide), e104, hb_un (by decide), hb_un (by decide)]
    exact tx_to ot ol (fun k hk => by rw [ob k hk, e103 _ (by omega), w6 _ (by omega)])
  have law : rXt (ρ4 104 2) (ρ4 32) (ρ4 33) (ρ4 31) (ρ4 103) 100 := by
    rw [g4 31 (by decide) (by decide) (by decide) (by decide), g4 32 (by decide) (by decide) (by decide) (by decide), g4 33 (by decide) (by decide) (by decide) (by decide), fθ 31 (by decide) (by decide), fθ 32 (by decide) (by decide), fθ 33 (by decide) (by decide), e104, hb_us]
    exact tx_to lw rfl (fun k hk => by rw [t3 k (by omega), s0 k hk, e103l k hk])
  have θ32 : θ 32 = τ2 32 := fθ 32 (by decide) (by decide)
  have θB : θ 29 = τ1 29 := by rw [fθ 29 (by decide) (by decide), t2 29 (by decide) (by decide) (by decide)]
  have vm := b160_v (N := N) (a := 1) (la := lo) (l2 := lo) (ρ := ρ4) hN (by omega) t50 t50 (by rw [e104, hb_un (by decide), hb_us]) (by rw [e104, hb_us])
  have vx := fu__31_28 (N := N) (σ := θ) (l := lo) (l' := lo) hN t50 t50 (by rw [fθ 31 (by decide) (by decide)]; exact lw.2.1) (by rw [fθ 28 (by decide) (by decide), t2 28 (by decide) (by decide) (by decide)]; exact kt.2.1)
  have eq : un_s (θ 32) (θ 29) lo lo 60 0 = un_s (fun k => ρ4 103 (50 * 1 + k)) (fun k => ρ4 103 (100 + k)) lo lo 60 0 := by
    rw [un_sym]
    refine un_cong (fun k hk => ?_) (fun k hk => ?_) 60 0
    · rw [θB, kb k (by omega)]
      refine Eq.symm (Eq.trans (e103 _ (by omega)) (w7 k hk))
    · rw [θ32, t3 k (by omega), s0 k hk]; exact (e103l k hk).symm
  have lt := un_lt (b := θ 32) (b' := θ 29) (l := lo) (l' := lo) t50 t50
  rw [← eq] at vm
  have zz : ¬ zoE 1 = 0 := by decide
  have own0 : ¬ τ1 21 5 = 0 := by rw [kown]; decide
  have oth0 : ¬ τ1 21 4 = 0 := by rw [o1]; decide
  have ec : fx_Houses_enactFrom N (τ1 0 12) τ1 = some (1, am_up τ2 21 6 (τ1 0 12)) := by
    unfold fx_Houses_enactFrom fx_Text_isSameAs fx_Text_isSameAs_25_31
    rw [if_neg (show ¬ τ1 21 4 = 0 from oth0), if_neg (show ¬ τ1 21 5 = 0 from own0), v01, hb_bind, if_neg (fun u => (lt01.1.1 u) s1), hb_bind, if_neg (by decide), v02, hb_bind, if_pos (lt02.1.2 s2), hb_bind, if_pos rfl, t1, hb_bind]
  refine ⟨if un_s (θ 32) (θ 29) lo lo 60 0 = -1 then 1 else 0, θ, ρ4, ?_, ?_, ?_, ?_⟩
  · unfold fx_propose
    rw [zx_x, if_neg zz, k1, hb_bind]
    refine Eq.trans (if_pos (show (-1 : Int32) < 0 by decide)) ?_
    refine Eq.trans (congrArg (fun x => Option.bind x _) ec) ?_
    show fx_propose_b53 N 1 (am_up (am_up τ2 21 6 (τ1 0 12)) 41 5 0) = _
    rw [← hθ]
    unfold fx_propose_b53 fx_Houses_heldBy
    rw [if_neg (show ¬ (1 : Int32) = 0 by decide), if_neg (show ¬ (28 : Nat) = 25 by decide), if_pos (show (28 : Nat) = 28 from rfl)]
    unfold fx_Text_isSameAs_31_28
    rw [vx, hb_bind]
    by_cases z : un_s (θ 32) (θ 29) lo lo 60 0 = -1
    · rw [if_neg (fun u => (lt.1.1 u) z), hb_bind, if_neg (by decide), if_pos z]
    · rw [if_pos (lt.1.2 z), hb_bind, if_pos rfl, if_neg z]
  · rw [w1, if_neg n0, n1, hb_bind, if_neg (fun u => (lt01.1.1 u) s1), n2, hb_bind, if_neg (fun u => s2 (lt02.2.1 u)), y1]
    exact vm
  · refine R0_tx (tl' := 0) h.1 ?_ ?_ (by omega) ?_ ?_ ?_ ?_ ?_ law (Or.inl ?_)
    · intro c hc
      obtain ⟨d21, d22, d24, d25, d26, d27, d28, d29, d30, d31, d32, d33, d41, d85, d103, d104, d125⟩ := tx_d hc
      rw [g4 c d85 d125 d103 d104, gθ c d21 d41 d31 d32 d33 d22 d24 (by assumption) (by assumption) (by assumption)]
    · intro k hk
      unfold tx_f at hk
      rw [Bool.and_eq_true, Bool.or_eq_true] at hk
      refine e85 k ?_ (fun z => by rw [z] at hk; exact absurd hk.1 (by decide)) (fun z => by rw [z] at hk; exact absurd hk.1 (by decide))
      rcases hk.2 with u | u
      · exact Or.inl (Nat.le_of_ble_eq_true u)
      · exact Or.inr (Nat.le_of_ble_eq_true u)
    · rw [g4t 22 (by decide) (by decide) (by decide) (by decide) (by decide) (by decide) (by decide) (by decide) (by decide)]; exact k22
    · rw [h4', hb_up_eq, hb_un (by decide), hb_up_ne (by decide), y2 85 (by decide)]; exact w4
    · rw [g4 21 (by decide) (by decide) (by decide) (by decide), θ216, h4', hb_up_eq, hb_us, y2 85 (by decide), w3 0 (by omega) (by decide)]; exact f0
    · right
      rw [g4 21 (by decide) (by decide) (by decide) (by decide), θ21 4 (by decide)]
      exact ⟨o1, oth⟩
    · right
      rw [g4 21 (by decide) (by decide) (by decide) (by decide), θ21 5 (by decide)]
      exact ⟨kown, own⟩
    · rw [g4 41 (by decide) (by decide) (by decide) (by decide), hθ, hb_up_eq, hb_us]
  · rw [g4 83 (by decide) (by decide) (by decide) (by decide), g4 123 (by decide) (by decide) (by decide) (by decide), gθ 83 (by decide) (by decide) (by decide) (by decide) (by decide) (by decide) (by decide) (by decide) (by decide) (by decide), gθ 123 (by decide) (by decide) (by decide) (by decide) (by decide) (by decide) (by decide) (by decide) (by decide) (by decide)]
    exact h.2
theorem C_prop_1 {N : Nat} {σ : am_S} (hN : 20000 ≤ N) (h : R σ) : tw (fx_propose N 1) (fm_propose N 1) σ := by
  obtain ⟨tl, c22, m22, t50, r23, f21, f0, hX0, hX1, hX2⟩ := pr_st h.1
  have h4 := rXp_01 hX0
  have h5 := rXp_01 hX1
  have zz : ¬ zoE 1 = 0 := by decide
  by_cases hr : (rs_all (σ 23) tl).1 = true
  · obtain ⟨τ1, k1, kF, k22, kown, koth, k6, kt, kb⟩ := tt_1 (N := N) hN t50 c22 hr h4 h5
    obtain ⟨ll, tl2, el2, bl2⟩ := tx_of hX2
    have tl2' : tx_o ll (τ1 32) (τ1 33) (τ1 31) := by rw [kF 31 (by decide) (by decide) (by decide) (by decide) (by decide) (by decide), kF 32 (by decide) (by decide) (by decide) (by decide) (by decide) (by decide), kF 33 (by decide) (by decide) (by decide) (by decide) (by decide) (by decide)]; exact tl2
    have c32 : τ1 32 = σ 32 := kF 32 (by decide) (by decide) (by decide) (by decide) (by decide) (by decide)
    /- the reference's side, from a state of the class's making -/
    have rd : ∀ θ : am_S, θ 85 = σ 85 → θ 102 = σ 102 → θ 103 = σ 103 → θ 104 = σ 104 → ∃ ρ2, fm_propose N 1 θ = (if ρ2 104 0 < 0 then fm_propose_b160 N 1 ρ2 else (fm_unlike N (0 : Int32) (1 : Int32) ρ2).bind fun q5 => (if 0 ≤ q5 then fm_propose_b160 N 1 ρ2 else (fm_unlike N (0 : Int32) (2 : Int32) ρ2).bind fun q7 => (if q7 < 0 then fm_propose_b160 N 1 ρ2 else fm_propose_b116 N N (nI 1) (nI tl) (nI 0) ρ2))) ∧ (∀ c, c ≠ 85 → c ≠ 125 → c ≠ 103 → c ≠ 104 → ρ2 c = θ c) ∧ (∀ k, k < 55 ∨ 60 < k → k ≠ 22 → ρ2 85 k = σ 85 k) ∧ ρ2 85 22 = 0 ∧ ρ2 104 = upd (σ 104) 1 (nI tl) ∧ (∀ j, j < 50 ∨ 50 + tl ≤ j → ρ2 103 j = σ 103 j) ∧ (∀ j, j < tl → ρ2 103 (50 + j) = σ 23 j) := by
      intro θ g85 g102 g103 g104
      obtain ⟨ρ, e1, e2, e3, e4⟩ := pr_rd (N := N) (θ := θ) hN t50
      rw [g102, ← r23, hr, if_pos rfl] at e1
      obtain ⟨ρ1, y1, y2, y3, y4⟩ := b46_c (N := N) (a := 1) (by omega) t50 tl 0 N ρ (by omega) (by omega)
      refine ⟨am_up ρ1 104 1 (nI tl), ?_, ?_, ?_, ?_, ?_, ?_, ?_⟩
      · unfold fm_propose
        rw [zx_s, if_neg zz, show θ 85 22 = nI tl by rw [g85]; exact m22, e1, hb_bind]
        refine Eq.trans (if_pos (show (-1 : Int32) < 0 by decide)) ?_
        refine Eq.trans y1 ?_
        rw [fm_propose_b46, if_pos (nI_le (Nat.le_refl _) (by omega)), hb_gt (show am_in (nI 1) 3 = true from rfl), hb_gt (show am_in ((1 : Int32) - nI 1) 3 = true by decide)]
        rfl
      · intro c b1 b2 b3 b4
        rw [hb_up_ne b4, y2 c b3, e2 c b1 b2]
      · intro k b1 b2
        rw [hb_up_ne (by decide), y2 85 (by decide), e3 k b1 b2, g85]
      · rw [hb_up_ne (by decide), y2 85 (by decide)]; exact e4
      · rw [hb_up_eq, y2 104 (by decide), e2 104 (by decide) (by decide), g104]
      · intro j hj
        rw [hb_up_ne (by decide), y3 j (by omega), e2 103 (by decide) (by decide), g103]
      · intro j hj
        have := y4 j (by omega) hj
        rw [hb_up_ne (by decide)]
        refine Eq.trans this ?_
        rw [e2 102 (by decide) (by decide), g102, ← r23]
    have hother : rXp (τ1 21 4) (σ 104 0) (τ1 26) (τ1 27) (τ1 25) (σ 103) 0 := by
      rw [koth, kF 25 (by decide) (by decide) (by decide) (by decide) (by decide) (by decide), kF 26 (by decide) (by decide) (by decide) (by decide) (by decide) (by decide), kF 27 (by decide) (by decide) (by decide) (by decide) (by decide) (by decide)]
      exact hX0
    /- nothing is enacted -/
    have non : ∀ ρ2 : am_S, (∀ c, c ≠ 85 → c ≠ 125 → c ≠ 103 → c ≠ 104 → ρ2 c = τ1 c) → (∀ k, k < 55 ∨ 60 < k → k ≠ 22 → ρ2 85 k = σ 85 k) → ρ2 85 22 = 0 → ρ2 104 = upd (σ 104) 1 (nI tl) → (∀ j, j < 50 ∨ 50 + tl ≤ j → ρ2 103 j = σ 103 j) → (∀ j, j < tl → ρ2 103 (50 + j) = σ 23 j) → fx_Houses_enactFrom N (τ1 0 12) τ1 = some (0, τ1) → fm_propose N 1 τ1 = fm_propose_b160 N 1 ρ2 → tw (fx_propose N 1) (fm_propose N 1) σ := by
      intro ρ2 z2 z85 z22 z104 z103 z103' ec em
      have own : rXt (ρ2 104 1) (ρ2 29) (ρ2 30) (ρ2 28) (ρ2 103) 50 := by
        rw [z2 28 (by decide) (by decide) (by decide) (by decide), z2 29 (by decide) (by decide) (by decide) (by decide), z2 30 (by decide) (by decide) (by decide) (by decide), z104, hb_us]
        exact tx_to kt rfl (fun k hk => by rw [kb k (by omega), z103' k hk])
      have oth : rXp (ρ2 21 4) (ρ2 104 0) (ρ2 26) (ρ2 27) (ρ2 25) (ρ2 103) 0 := by
        rw [z2 21 (by decide) (by decide) (by decide) (by decide), z2 25 (by decide) (by decide) (by decide) (by decide), z2 26 (by decide) (by decide) (by decide) (by decide), z2 27 (by decide) (by decide) (by decide) (by decide), z104, hb_un (by decide)]
        rcases hother with w | ⟨w, hw⟩
        · exact Or.inl w
        · obtain ⟨lo, o1, o2, o3⟩ := tx_of hw
          have := o1.1
          exact Or.inr ⟨w, tx_to o1 o2 (fun k hk => by rw [o3 k hk, z103 _ (by omega)])⟩
      have lw : rXt (ρ2 104 2) (ρ2 32) (ρ2 33) (ρ2 31) (ρ2 103) 100 := by
        rw [z2 31 (by decide) (by decide) (by decide) (by decide), z2 32 (by decide) (by decide) (by decide) (by decide), z2 33 (by decide) (by decide) (by decide) (by decide), z104, hb_un (by decide)]
        exact tx_to tl2' el2 (fun k hk => by rw [c32, bl2 k hk, z103 _ (by omega)])
      have vm := b160_v (N := N) (a := 1) (la := tl) (l2 := ll) (ρ := ρ2) hN (by omega) t50 tl2.1 (by rw [z104, hb_us]) (by rw [z104, hb_un (by decide)]; exact el2)
      have vx := fu__31_28 (N := N) (σ := τ1) hN tl2.1 t50 tl2'.2.1 kt.2.1
      have eq : un_s (τ1 32) (τ1 29) ll tl 60 0 = un_s (fun k => ρ2 103 (50 * 1 + k)) (fun k => ρ2 103 (100 + k)) tl ll 60 0 := by
        rw [un_sym]
        refine un_cong (fun k hk => ?_) (fun k hk => ?_) 60 0
        · rw [kb k (by omega)]; exact (z103' k hk).symm
        · have l5 := tl2.1
          rw [c32, bl2 k hk]; exact (z103 _ (by omega)).symm
      have lt := un_lt (b := τ1 32) (b' := τ1 29) tl2.1 t50
      rw [← eq] at vm
      refine ⟨if un_s (τ1 32) (τ1 29) ll tl 60 0 = -1 then 1 else 0, τ1, ρ2, ?_, ?_, ?_, ?_⟩
      · unfold fx_propose
        rw [zx_x, if_neg zz, k1, hb_bind]
        refine Eq.trans (if_pos (show (-1 : Int32) < 0 by decide)) ?_
        refine Eq.trans (congrArg (fun x => Option.bind x _) ec) ?_
        show fx_propose_b53 N 1 τ1 = _
        unfold fx_propose_b53 fx_Houses_heldBy
        rw [if_neg (show ¬ (1 : Int32) = 0 by decide), if_neg (show ¬ (28 : Nat) = 25 by decide), if_pos (show (28 : Nat) = 28 from rfl)]
        unfold fx_Text_isSameAs_31_28
        rw [vx, hb_bind]
        by_cases z : un_s (τ1 32) (τ1 29) ll tl 60 0 = -1
        · rw [if_neg (fun u => (lt.1.1 u) z), hb_bind, if_neg (by decide), if_pos z]
        · rw [if_pos (lt.1.2 z), hb_bind, if_pos rfl, if_neg z]
      · rw [em]; exact vm
      · refine R0_tx (tl' := 0) h.1 ?_ ?_ (by omega) ?_ z22 ?_ ?_ ?_ lw ?_
        · intro c hc
          obtain ⟨d21, d22, d24, d25, d26, d27, d28, d29, d30, d31, d32, d33, d41, d85, d103, d104, d125⟩ := tx_d hc
          rw [z2 c d85 d125 d103 d104, kF c d21 d22 d24 (by assumption) (by assumption) (by assumption)]
        · intro k hk
          unfold tx_f at hk
          rw [Bool.and_eq_true, Bool.or_eq_true] at hk
          refine z85 k ?_ (fun z => by rw [z] at hk; exact absurd hk.1 (by decide))
          rcases hk.2 with u | u
          · exact Or.inl (Nat.le_of_ble_eq_true u)
          · exact Or.inr (Nat.le_of_ble_eq_true u)
        · rw [z2 22 (by decide) (by decide) (by decide) (by decide)]; exact k22
        · rw [z2 21 (by decide) (by decide) (by decide) (by decide), k6, z85 25 (by omega) (by decide)]; exact f21
        · exact oth
        · exact Or.inr ⟨by rw [z2 21 (by decide) (by decide) (by decide) (by decide)]; exact kown, own⟩
        · right
          rw [z2 41 (by decide) (by decide) (by decide) (by decide), z2 31 (by decide) (by decide) (by decide) (by decide), kF 41 (by decide) (by decide) (by decide) (by decide) (by decide) (by decide), kF 31 (by decide) (by decide) (by decide) (by decide) (by decide) (by decide)]
          exact ⟨rfl, rfl, rfl⟩
      · rw [z2 83 (by decide) (by decide) (by decide) (by decide), z2 123 (by decide) (by decide) (by decide) (by decide), kF 83 (by decide) (by decide) (by decide) (by decide) (by decide) (by decide), kF 123 (by decide) (by decide) (by decide) (by decide) (by decide) (by decide)]
        exact h.2
    obtain ⟨ρ2, w1, w2, w3, w4, w5, w6, w7⟩ := rd τ1 (kF 85 (by decide) (by decide) (by decide) (by decide) (by decide) (by decide)) (kF 102 (by decide) (by decide) (by decide) (by decide) (by decide) (by decide)) (kF 103 (by decide) (by decide) (by decide) (by decide) (by decide) (by decide)) (kF 104 (by decide) (by decide) (by decide) (by decide) (by decide) (by decide))
    have own0 : ¬ τ1 21 5 = 0 := by rw [kown]; decide
    rcases hother with ⟨o1, o2⟩ | ⟨o1, ho⟩
    · refine non ρ2 w2 w3 w4 w5 w6 w7 ?_ ?_
      · unfold fx_Houses_enactFrom
        rw [if_pos o1]
      · rw [w1, w5, hb_un (by decide), o2, if_pos (by decide)]
    · obtain ⟨lo, ot, ol, ob⟩ := tx_of ho
      have lo5 := ot.1
      have oth0 : ¬ τ1 21 4 = 0 := by rw [o1]; decide
      have b2f : τ1 26 = σ 26 := kF 26 (by decide) (by decide) (by decide) (by decide) (by decide) (by decide)
      have v01 := fu_ (N := N) (σ := τ1) (l := lo) (l' := tl) hN (by omega) (by omega) (ot.2.1) (kt.2.1)
      have v02 := fu__25_31 (N := N) (σ := τ1) (l := lo) (l' := ll) hN (by omega) tl2.1 (ot.2.1) tl2'.2.1
      have lt01 := un_lt (b := τ1 26) (b' := τ1 29) (l := lo) (l' := tl) (by omega) (by omega)
      have lt02 := un_lt (b := τ1 26) (b' := τ1 32) (l := lo) (l' := ll) (by omega) tl2.1
      /- both sides compare the same rows -/
      have m01 : ∀ ρ2 : am_S, ρ2 104 = upd (σ 104) 1 (nI tl) → (∀ j, j < 50 ∨ 50 + tl ≤ j → ρ2 103 j = σ 103 j) → (∀ j, j < tl → ρ2 103 (50 + j) = σ 23 j) → ¬ ρ2 104 0 < 0 ∧ fm_unlike N 0 1 ρ2 = some (un_s (τ1 26) (τ1 29) lo tl 60 0) ∧ fm_unlike N 0 2 ρ2 = some (un_s (τ1 26) (τ1 32) lo ll 60 0) := by
        intro ρ2 z104 z103 z103'
        have rowO : ∀ k, k < tl → τ1 29 k = ρ2 103 (50 + k) := fun k hk => by rw [kb k (by omega), z103' k hk]
        have rowT : ∀ k, k < lo → τ1 26 k = ρ2 103 (0 + k) := fun k hk => by rw [ob k hk, z103 _ (by omega)]
        have l5 := tl2.1
        have rowL : ∀ k, k < ll → τ1 32 k = ρ2 103 (100 + k) := fun k hk => by rw [c32, bl2 k hk, z103 _ (by omega)]
        have e0 : ρ2 104 0 = nI lo := by rw [z104]; rw [hb_un (by decide)]; exact ol
        have e1 : ρ2 104 1 = nI tl := by rw [z104]; exact hb_us
        have e2 : ρ2 104 2 = nI ll := by rw [z104, hb_un (by decide)]; exact el2
        refine ⟨by rw [e0]; exact nI_pos (by omega), ?_, ?_⟩
        · have m := mu (N := N) (x := 0) (y := 1) (σ := ρ2) (l := lo) (l' := tl) hN (by omega) (by omega) (by omega) (by omega) e0 e1
          rw [un_cong (b := τ1 26) (b' := τ1 29) (c := fun k => ρ2 103 (50 * 0 + k)) (c' := fun k => ρ2 103 (50 * 1 + k)) rowT rowO 60 0]
          exact m
        · have m := mu (N := N) (x := 0) (y := 2) (σ := ρ2) (l := lo) (l' := ll) hN (by omega) (by omega) (by omega) tl2.1 e0 e2
          rw [un_cong (b := τ1 26) (b' := τ1 32) (c := fun k => ρ2 103 (50 * 0 + k)) (c' := fun k => ρ2 103 (50 * 2 + k)) rowT rowL 60 0]
          exact m
      obtain ⟨n0, n1, n2⟩ := m01 ρ2 w5 w6 w7
      by_cases s1 : un_s (τ1 26) (τ1 29) lo tl 60 0 = -1
      · by_cases s2 : un_s (τ1 26) (τ1 32) lo ll 60 0 = -1
        · refine non ρ2 w2 w3 w4 w5 w6 w7 ?_ ?_
          · unfold fx_Houses_enactFrom fx_Text_isSameAs fx_Text_isSameAs_25_31
            rw [if_neg (show ¬ τ1 21 4 = 0 from oth0), if_neg (show ¬ τ1 21 5 = 0 from own0), v01, hb_bind, if_neg (fun u => (lt01.1.1 u) s1), hb_bind, if_neg (by decide), v02, hb_bind, if_neg (fun u => (lt02.1.1 u) s2), hb_bind, if_neg (by decide)]
          · rw [w1, if_neg n0, n1, hb_bind, if_neg (fun u => (lt01.1.1 u) s1), n2, hb_bind, if_pos (lt02.2.2 s2)]
        · exact C_en_1 hN h hr m22 t50 r23 f21 f0 k1 kF k22 kown koth kt kb o1 ot ol ob tl2' el2 bl2 rd m01 s1 s2 v01 v02
      · refine non ρ2 w2 w3 w4 w5 w6 w7 ?_ ?_
        · unfold fx_Houses_enactFrom fx_Text_isSameAs
          rw [if_neg (show ¬ τ1 21 4 = 0 from oth0), if_neg (show ¬ τ1 21 5 = 0 from own0), v01, hb_bind, if_pos (lt01.1.2 s1), hb_bind, if_pos rfl]
        · rw [w1, if_neg n0, n1, hb_bind, if_pos (lt01.1.2 s1)]
  · obtain ⟨σ', e1, e2, e3⟩ := sx_read (N := N) hN t50 c22
    rw [if_neg hr] at e1
    have pb : (rs_all (σ 23) tl).2.1 ≤ 60 := rs_rows_b t50 51 0 rs_F0 (by omega)
    generalize hP : (rs_all (σ 23) tl).2.1 = P at *
    have nm : ¬ nI P = -1 := fun u => by
      have := nI_pos (n := P) (by omega)
      rw [u] at this; exact this (by decide)
    obtain ⟨ρ, y1, y2, y3, y4⟩ := pr_rd (N := N) (θ := am_up σ' 22 2 0) hN t50
    have g102 : am_up σ' 22 2 0 102 = σ 23 := by rw [hb_up_ne (by decide), e2.1 102 (by decide) (by decide), r23]
    have g85 : am_up σ' 22 2 0 85 = σ 85 := by rw [hb_up_ne (by decide), e2.1 85 (by decide) (by decide)]
    rw [g102, if_neg hr, hP] at y1
    have gg : ∀ c, c ≠ 22 → c ≠ 24 → c ≠ 85 → c ≠ 125 → ρ c = σ c := by
      intro c b1 b2 b3 b4
      rw [y2 c b3 b4, hb_up_ne b1, e2.1 c b1 b2]
    refine ⟨-10 - nI P, am_up σ' 22 2 0, ρ, ?_, ?_, ?_, ?_⟩
    · unfold fx_propose fx_Houses_takeTape fx_Houses_takeTape_b66
      rw [zx_x, if_neg zz, e1, hb_bind]
      refine Eq.trans (congrArg (fun x => Option.bind x _) (if_neg (show ¬ (nI P, σ').1 = -1 from nm))) ?_
      refine Eq.trans (if_neg (show ¬ nI P < 0 from nI_pos (by omega))) rfl
    · unfold fm_propose
      rw [zx_s, if_neg zz, show am_up σ' 22 2 0 85 22 = nI tl by rw [g85]; exact m22, y1, hb_bind]
      refine Eq.trans (if_neg (show ¬ nI P < 0 from nI_pos (by omega))) rfl
    · refine R0_tx (tl' := 0) h.1 ?_ ?_ (by omega) ?_ y4 ?_ ?_ ?_ ?_ ?_
      · intro c hc
        obtain ⟨d21, d22, d24, d25, d26, d27, d28, d29, d30, d31, d32, d33, d41, d85, d103, d104, d125⟩ := tx_d hc
        exact gg c d22 d24 d85 d125
      · intro k hk
        unfold tx_f at hk
        rw [Bool.and_eq_true, Bool.or_eq_true] at hk
        rw [y3 k ?_ (fun z => by rw [z] at hk; exact absurd hk.1 (by decide)), g85]
        rcases hk.2 with u | u
        · exact Or.inl (Nat.le_of_ble_eq_true u)
        · exact Or.inr (Nat.le_of_ble_eq_true u)
      · rw [y2 22 (by decide) (by decide), hb_up_eq, hb_us]; rfl
      · rw [gg 21 (by decide) (by decide) (by decide) (by decide), y3 25 (by omega) (by decide), g85]; exact f21
      · rw [gg 21 (by decide) (by decide) (by decide) (by decide), gg 104 (by decide) (by decide) (by decide) (by decide), gg 25 (by decide) (by decide) (by decide) (by decide), gg 26 (by decide) (by decide) (by decide) (by decide), gg 27 (by decide) (by decide) (by decide) (by decide), gg 103 (by decide) (by decide) (by decide) (by decide)]; exact hX0
      · rw [gg 21 (by decide) (by decide) (by decide) (by decide), gg 104 (by decide) (by decide) (by decide) (by decide), gg 28 (by decide) (by decide) (by decide) (by decide), gg 29 (by decide) (by decide) (by decide) (by decide), gg 30 (by decide) (by decide) (by decide) (by decide), gg 103 (by decide) (by decide) (by decide) (by decide)]; exact hX1
      · rw [gg 104 (by decide) (by decide) (by decide) (by decide), gg 31 (by decide) (by decide) (by decide) (by decide), gg 32 (by decide) (by decide) (by decide) (by decide), gg 33 (by decide) (by decide) (by decide) (by decide), gg 103 (by decide) (by decide) (by decide) (by decide)]; exact hX2
      · right
        rw [gg 41 (by decide) (by decide) (by decide) (by decide), gg 31 (by decide) (by decide) (by decide) (by decide)]
        exact ⟨rfl, rfl, rfl⟩
    · rw [gg 83 (by decide) (by decide) (by decide) (by decide), gg 123 (by decide) (by decide) (by decide) (by decide)]; exact h.2
theorem C_propose {N : Nat} {σ : am_S} (a1 : Int32) (hN : 20000 ≤ N) (h : R σ) : tw (fx_propose N a1) (fm_propose N a1) σ := by
  rcases zoE_c a1 with c1 | ⟨k1, c1⟩
  · refine tw1 h ?_ ?_
    · unfold fx_propose; rw [zx_x, if_pos c1, fx_f1]; rfl
    · unfold fm_propose; rw [zx_s, if_pos c1, fm_f1]; rfl
  · rcases k1 with z | z
    · rw [z]; exact C_prop_0 hN h
    · rw [z]; exact C_prop_1 hN h

