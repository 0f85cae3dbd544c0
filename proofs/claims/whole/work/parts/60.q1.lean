/-! ===== what is only asked: land ===== -/
def ld_ok (n e p : Nat) (σ : am_S) : Prop := σ 1 11 = nI n ∧ σ 1 12 = nI e ∧ σ 1 13 = nI p ∧ rL n e p (σ 4) (σ 5) (σ 6) (σ 7) (σ 8) (σ 11) ∧ σ 85 1 = nI n ∧ σ 85 5 = nI e ∧ σ 85 10 = nI p ∧ σ 2 = σ 86 ∧ σ 3 = σ 87 ∧ σ 4 = σ 88 ∧ σ 5 = σ 95 ∧ σ 6 = σ 89 ∧ σ 7 = σ 90 ∧ σ 8 = σ 91 ∧ σ 9 = σ 92 ∧ σ 10 = σ 93 ∧ σ 11 = σ 94
theorem R0_ld {σ : am_S} (h : R0 σ) : ∃ n e p, ld_ok n e p σ := by
  obtain ⟨n, e, p, pe, th, ti, wa, ca, ta, dd, wt, tl, cn, ce, cp, cpe, cth, cti, cwa, cca, cta, cdy, cwt, ctl, f1_11, f1_12, f1_13, f13_7, f22_2, f21_6, f34_6, f34_7, f47_2, f47_3, f48_4, f73_4, f78_4, f0_11, f0_12, f47_0, f47_1, r2, r3, r4, r5, r6, r7, r8, r9, r10, r11, r14, r15, r18, r19, r20, r23, r35, r36, r37, r38, r39, r40, r49, r50, r74, r75, r76, r77, r79, r80, r84, hM, hL, hP, hE, hW, hG, hC, hT, hD, hX0, hX1, hX2, hK⟩ := h
  exact ⟨n, e, p, cn, ce, cp, hL, by rw [← f1_11]; exact cn, by rw [← f1_12]; exact ce, by rw [← f1_13]; exact cp, r2, r3, r4, r5, r6, r7, r8, r9, r10, r11⟩
def ld_sd (p : Nat) (σ : am_S) (i : Nat) : Int32 := sp_side p (σ 10) (σ 11) (σ 2) (σ 3) (σ 4) i
theorem ld_x {N n e p i : Nat} {σ : am_S} (hN : 20000 ≤ N) (h : ld_ok n e p σ) (hi : i < 12) : fx_Land_sideOf N (nI i) σ = some (ld_sd p σ i) := by
  obtain ⟨_, _, h3, hL, _⟩ := h
  exact sx_side (by omega) hL.2.2.1 h3 hL.2.2.2.2.2.2.2 hi
theorem ld_m {N n e p i : Nat} {σ : am_S} (hN : 20000 ≤ N) (h : ld_ok n e p σ) (hi : i < 12) : fm_sideOf N (nI i) σ = some (ld_sd p σ i) := by
  obtain ⟨_, _, h3, hL, _, _, h7, r2, r3, r4, _, _, _, _, _, r10, r11⟩ := h
  have := sm_side (N := N) (σ := σ) (p := p) (i := i) (by omega) hL.2.2.1 h7 (by rw [← r11]; exact hL.2.2.2.2.2.2.2) hi
  rw [← r2, ← r3, ← r4, ← r10, ← r11] at this
  exact this
theorem ld_01 {n e p : Nat} {σ : am_S} (h : ld_ok n e p σ) (i : Nat) : ∃ s : Nat, s ≤ 1 ∧ ld_sd p σ i = nI s := sp_side01 (h.2.2.2.1.2.2.2.1 i)
theorem ld_sc {n e p : Nat} {τ σ : am_S} (hs : sc τ σ) (h : ld_ok n e p σ) : ld_ok n e p τ := by
  obtain ⟨hF, _, _, h85⟩ := hs
  unfold ld_ok at *
  rw [hF 1 (by decide), hF 2 (by decide), hF 3 (by decide), hF 4 (by decide), hF 5 (by decide), hF 6 (by decide), hF 7 (by decide), hF 8 (by decide), hF 9 (by decide), hF 10 (by decide), hF 11 (by decide), hF 86 (by decide), hF 87 (by decide), hF 88 (by decide), hF 89 (by decide), hF 90 (by decide), hF 91 (by decide), hF 92 (by decide), hF 93 (by decide), hF 94 (by decide), hF 95 (by decide), h85 1 (by decide), h85 5 (by decide), h85 10 (by decide)]
  exact h
theorem ld_f {n e p k : Nat} {σ : am_S} (h : ld_ok n e p σ) : ld_ok n e p (fnd k σ) := h
theorem sd_sc {p : Nat} {τ σ : am_S} (hs : sc τ σ) : ld_sd p τ = ld_sd p σ := by
  funext i
  unfold ld_sd
  rw [hs.1 10 (by decide), hs.1 11 (by decide), hs.1 2 (by decide), hs.1 3 (by decide), hs.1 4 (by decide)]
theorem C_side {N : Nat} {σ : am_S} (a1 : Int32) (hN : 20000 ≤ N) (h : R σ) : tw (fx_side N a1) (fm_side N a1) σ := by
  obtain ⟨n, e, p, hl⟩ := R0_ld h.1
  have l1 := hl.2.2.2.1.1
  rcases hsE_c a1 n (by omega) with c1 | ⟨j, i1, e1, c1⟩
  · refine tw1 h ?_ ?_
    · unfold fx_side; rw [hx_p a1 hl.1, if_pos c1, fx_f1]; rfl
    · unfold fm_side; rw [hm_p a1 (ld_f hl).2.2.2.2.1, if_pos c1, fm_f1]; rfl
  have d1 : ¬ hsE a1 n = 0 := by rw [c1]; decide
  refine tw_a (v := ld_sd p σ j) σ σ h (sc_refl σ) (sc_refl σ) ?_ ?_
  · unfold fx_side; rw [hx_p a1 hl.1, if_neg d1, e1, ld_x hN hl (by omega)]; rfl
  · unfold fm_side; rw [hm_p a1 hl.2.2.2.2.1, if_neg d1, e1, ld_m hN hl (by omega)]; rfl
def ld_en (n e p : Nat) (σ : am_S) (i : Nat) : Int32 := en_sp n e p (fun k => nv (σ 6 k)) (fun k => nv (σ 7 k)) (σ 10) (σ 11) (σ 2) (σ 3) (σ 4) (σ 5) i
theorem en_x {N n e p i : Nat} {σ : am_S} (hN : 20000 ≤ N) (h : ld_ok n e p σ) (hi : i < n) : fx_Land_isEnclave N (nI i) σ = some (ld_en n e p σ i) := by
  obtain ⟨h1, h2, h3, ⟨l1, l2, l3, l4, l5, l6, l7, l8⟩, _⟩ := h
  exact sx_encl (by omega) l1 l2 l3 h1 h2 h3 l8 l6 l4 l5 hi
theorem en_m {N n e p i : Nat} {σ : am_S} (hN : 20000 ≤ N) (h : ld_ok n e p σ) (hi : i < n) : fm_isEnclave N (nI i) σ = some (ld_en n e p σ i) := by
  obtain ⟨h1, h2, h3, ⟨l1, l2, l3, l4, l5, l6, l7, l8⟩, m1, m5, m10, r2, r3, r4, r5, r6, r7, r8, r9, r10, r11⟩ := h
  rw [r11] at l8
  rw [r6, r7, r8] at l6
  rw [r4] at l4
  rw [r5] at l5
  have := sm_encl (N := N) (σ := σ) (by omega) l1 l2 l3 m5 m10 l8 l6 l4 l5 hi
  unfold ld_en
  rw [r10, r11, r2, r3, r4, r5, r6, r7]
  exact this
theorem en_01 {n e p : Nat} {σ : am_S} (i : Nat) : ld_en n e p σ i = 0 ∨ ld_en n e p σ i = 1 := by
  unfold ld_en en_sp
  split
  · exact Or.inl rfl
  · exact Or.inr rfl
theorem C_enclave {N : Nat} {σ : am_S} (a1 : Int32) (hN : 20000 ≤ N) (h : R σ) : tw (fx_enclave N a1) (fm_enclave N a1) σ := by
  obtain ⟨n, e, p, hl⟩ := R0_ld h.1
  have l1 := hl.2.2.2.1.1
  rcases hsE_c a1 n (by omega) with c1 | ⟨j, i1, e1, c1⟩
  · refine tw1 h ?_ ?_
    · unfold fx_enclave; rw [hx_p a1 hl.1, if_pos c1, fx_f1]; rfl
    · unfold fm_enclave; rw [hm_p a1 (ld_f hl).2.2.2.2.1, if_pos c1, fm_f1]; rfl
  have d1 : ¬ hsE a1 n = 0 := by rw [c1]; decide
  refine tw_a (v := ld_en n e p σ j) σ σ h (sc_refl σ) (sc_refl σ) ?_ ?_
  · unfold fx_enclave; rw [hx_p a1 hl.1, if_neg d1, e1, en_x hN hl i1, hb_bind]
    rcases en_01 (n := n) (e := e) (p := p) (σ := σ) j with z | z
    · rw [z]; rfl
    · rw [z]; rfl
  · unfold fm_enclave; rw [hm_p a1 hl.2.2.2.2.1, if_neg d1, e1, en_m hN hl i1, hb_bind]
    rcases en_01 (n := n) (e := e) (p := p) (σ := σ) j with z | z
    · rw [z]; rfl
    · rw [z]; rfl
/-! distances: one table for both -/
theorem dt_m {N n e p : Nat} {σ : am_S} (x1 : Int32) (hN : 20000 ≤ N) (h : ld_ok n e p σ) : ∃ g D, fm_tellWays N x1 σ = some (am_set σ 124 g) ∧ wy_rp g D ∧ ds_D e (fun k => nv (σ 6 k)) (fun k => nv (σ 7 k)) (fun k => nv (σ 8 k)) (ds_ok x1 (σ 9)) D := by
  obtain ⟨h1, h2, h3, ⟨l1, l2, l3, l4, l5, l6, l7, l8⟩, m1, m5, m10, r2, r3, r4, r5, r6, r7, r8, r9, r10, r11⟩ := h
  rw [r6, r7, r8] at l6
  have := sm_ways (N := N) (σ := σ) x1 (by omega) l1 l2 m5 l6
  rw [r6, r7, r8, r9]
  exact this
theorem dt_x {N n e p s : Nat} {σ : am_S} {x1 : Int32} {D : Nat → Nat → Nat} (hN : 20000 ≤ N) (h : ld_ok n e p σ) (hs : s < n) (hD : ds_D e (fun k => nv (σ 6 k)) (fun k => nv (σ 7 k)) (fun k => nv (σ 8 k)) (ds_ok x1 (σ 9)) D) : ∃ g, fx_Land_measureFrom N (nI s) x1 σ = some (am_set σ 12 g) ∧ ∀ v, v < n → g v = nI (ds_x D s v) := by
  obtain ⟨h1, h2, h3, ⟨l1, l2, l3, l4, l5, l6, l7, l8⟩, _⟩ := h
  exact sx_meas (by omega) l1 l2 h1 h2 l6 hs hD
theorem dt_99 {n e p s v : Nat} {σ : am_S} {x1 : Int32} {D : Nat → Nat → Nat} (h : ld_ok n e p σ) (hD : ds_D e (fun k => nv (σ 6 k)) (fun k => nv (σ 7 k)) (fun k => nv (σ 8 k)) (ds_ok x1 (σ 9)) D) (hs : s < n) (hv : v < n) (hlt : D s v < 100000) : D s v ≤ 99 := ds_99 h.2.2.2.1.1 (eg_E h.2.2.2.1.2.2.2.2.2.1) hD hs hv hlt
theorem C_far {N : Nat} {σ : am_S} (a1 a2 a3 : Int32) (hN : 20000 ≤ N) (h : R σ) : tw (fx_far N a1 a2 a3) (fm_far N a1 a2 a3) σ := by
  obtain ⟨n, e, p, hl⟩ := R0_ld h.1
  have l1 := hl.2.2.2.1.1
  have m1 : ∀ k, fnd k σ 85 1 = nI n := fun k => hl.2.2.2.2.1
  rcases hsE_c a1 n (by omega) with c1 | ⟨j, i1, e1, c1⟩
  · refine tw1 h ?_ ?_
    · unfold fx_far fx_far_b29; rw [hx_p a1 hl.1, if_pos c1, fx_f1]; rfl
    · unfold fm_far fm_far_b25; rw [hm_p a1 (m1 1), if_pos c1, fm_f1]; rfl
  have d1 : ¬ hsE a1 n = 0 := by rw [c1]; decide
  rcases hsE_c a2 n (by omega) with c2 | ⟨j2, i2, e2, c2⟩
  · refine tw1 h ?_ ?_
    · unfold fx_far fx_far_b29; rw [hx_p a1 hl.1, if_neg d1, hx_p a2 hl.1, if_pos c2, fx_f1]; rfl
    · unfold fm_far fm_far_b25; rw [hm_p a1 (m1 1), if_neg d1, hm_p a2 (m1 1), if_pos c2, fm_f1]; rfl
  have d2 : ¬ hsE a2 n = 0 := by rw [c2]; decide
  rcases zoE_c a3 with c3 | ⟨k3, c3⟩
  · refine tw1 h ?_ ?_
    · unfold fx_far fx_far_b29; rw [hx_p a1 hl.1, if_neg d1, hx_p a2 hl.1, if_neg d2, zx_x, if_pos c3, fx_f1]; rfl
    · unfold fm_far fm_far_b25; rw [hm_p a1 (m1 1), if_neg d1, hm_p a2 (m1 1), if_neg d2, in_m, zx_i, if_pos c3, fm_f1]; rfl
  have d3 : ¬ zoE a3 = 0 := by rw [c3]; decide
  have fin : ∀ x : Int32, (∀ τ, (if a3 = 1 then fx_far_b51 N a2 1 a1 τ else fx_far_b51 N a2 0 a1 τ) = fx_far_b51 N a2 x a1 τ) → (∀ τ, (if a3 = 1 then fm_far_b42 N a1 a2 1 τ else fm_far_b42 N a1 a2 0 τ) = fm_far_b42 N a1 a2 x τ) → tw (fx_far N a1 a2 a3) (fm_far N a1 a2 a3) σ := by
    intro x y1 y2
    obtain ⟨g0, D, w1, w2, w3⟩ := dt_m (N := N) x hN hl
    obtain ⟨g, x1, x2⟩ := dt_x (N := N) hN hl i1 w3
    have s1 : sc (am_set σ 12 g) σ := sc_set (by decide) (by decide)
    have v := x2 j2 i2
    by_cases lt : D j j2 < 100000
    · have b9 := dt_99 hl w3 i1 i2 lt
      have ev : ds_x D j j2 = D j j2 := if_pos lt
      rw [ev] at v
      obtain ⟨g2, D2, u1, u2, u3⟩ := dt_m (N := N) x hN (ld_sc s1 hl)
      rw [s1.1 6 (by decide), s1.1 7 (by decide), s1.1 8 (by decide), s1.1 9 (by decide)] at u3
      obtain ⟨g3, y3, y4⟩ := dt_x (N := N) hN hl i1 u3
      have v2 := y4 j2 i2
      have eg : am_set σ 12 g = am_set σ 12 g3 := by rw [x1] at y3; exact Option.some.inj y3
      have eg2 : g = g3 := by have := congrFun eg 12; rw [hb_set_eq, hb_set_eq] at this; exact this
      rw [← eg2, v] at v2
      have D2e : D2 j j2 = D j j2 := by
        unfold ds_x at v2
        by_cases l2 : D2 j j2 < 100000
        · rw [if_pos l2, nI_eq (by omega) (by omega)] at v2; exact v2.symm
        · rw [if_neg l2, nI_eq (by omega) (by omega)] at v2; omega
      refine tw_a (v := nI (D j j2)) (am_set σ 12 g) (am_set (am_set σ 12 g) 124 g2) h s1 (sc_set (by decide) (by decide)) ?_ ?_
      · unfold fx_far; rw [hx_p a1 hl.1, if_neg d1, hx_p a2 hl.1, if_neg d2, zx_x, if_neg d3, y1]
        unfold fx_far_b51
        rw [e1, x1, hb_bind, e2, hb_g (by omega) (by decide), nI_clamp (by omega), hb_set_eq, v, if_pos (by rw [hb_L1000000]; exact nI_lt (by omega) (by decide))]
      · unfold fm_far; rw [hm_p a1 (ld_sc s1 hl).2.2.2.2.1, if_neg d1, hm_p a2 (ld_sc s1 hl).2.2.2.2.1, if_neg d2, in_m, zx_i, if_neg d3, y2]
        unfold fm_far_b42
        rw [u1, hb_bind, e1, e2, wy_ix, hb_g (by omega) (by decide), nI_clamp (by omega), hb_set_eq, u2 j j2 (by omega) (by omega), D2e, if_pos (by rw [hb_L100000]; exact nI_lt (by omega) (by decide)), hb_g (by omega) (by decide)]
    · have ev : ds_x D j j2 = 1000000 := if_neg lt
      rw [ev] at v
      have s2 : sc (am_set (fnd 2 (am_set σ 12 g)) 124 g) (fnd 2 (am_set σ 12 g)) := sc_set (by decide) (by decide)
      obtain ⟨g2, D2, u1, u2, u3⟩ := dt_m (N := N) x hN (ld_f (k := 2) (ld_sc s1 hl))
      have u3' : ds_D e (fun k => nv (σ 6 k)) (fun k => nv (σ 7 k)) (fun k => nv (σ 8 k)) (ds_ok x (σ 9)) D2 := u3
      obtain ⟨g3, y3, y4⟩ := dt_x (N := N) hN hl i1 u3'
      have v2 := y4 j2 i2
      have eg : am_set σ 12 g = am_set σ 12 g3 := by rw [x1] at y3; exact Option.some.inj y3
      have eg2 : g = g3 := by have := congrFun eg 12; rw [hb_set_eq, hb_set_eq] at this; exact this
      rw [← eg2, v] at v2
      have le := u3'.2.2.1 j j2 (by omega) (by omega)
      have D2e : D2 j j2 = 100000 := by
        unfold ds_x at v2
        by_cases l2 : D2 j j2 < 100000
        · rw [if_pos l2, nI_eq (by omega) (by omega)] at v2; omega
        · omega
      refine tw_q (v := -1000000002) (am_set σ 12 g) (am_set (fnd 2 (am_set σ 12 g)) 124 g2) 2 h s1 (sc_set (by decide) (by decide)) ?_ ?_
      · unfold fx_far; rw [hx_p a1 hl.1, if_neg d1, hx_p a2 hl.1, if_neg d2, zx_x, if_neg d3, y1]
        unfold fx_far_b51
        rw [e1, x1, hb_bind, e2, hb_g (by omega) (by decide), nI_clamp (by omega), hb_set_eq, v, if_neg (by rw [hb_L1000000]; exact nI_nlt (by omega) (by decide)), fx_f2]; rfl
      · unfold fm_far; rw [hm_p a1 (ld_f (k := 2) (ld_sc s1 hl)).2.2.2.2.1, if_neg d1, hm_p a2 (ld_f (k := 2) (ld_sc s1 hl)).2.2.2.2.1, if_neg d2, in_m, zx_i, if_neg d3, y2]
        unfold fm_far_b42
        rw [u1, hb_bind, e1, e2, wy_ix, hb_g (by omega) (by decide), nI_clamp (by omega), hb_set_eq, u2 j j2 (by omega) (by omega), D2e, if_neg (by rw [hb_L100000]; exact nI_nlt (by omega) (by decide)), fm_f2]; rfl
  rcases k3 with z | z
  · exact fin 0 (fun τ => by rw [z, if_neg (by decide)]) (fun τ => by rw [z, if_neg (by decide)])
  · exact fin 1 (fun τ => by rw [z, if_pos rfl]) (fun τ => by rw [z, if_pos rfl])

