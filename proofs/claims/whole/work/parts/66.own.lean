/-! ===== whose a person is ===== -/
def pp_ok (n pe : Nat) (σ : am_S) : Prop := σ 13 7 = nI pe ∧ σ 85 14 = nI pe ∧ rP n pe (σ 14) (σ 15) (σ 16) (σ 17) (σ 18) (σ 20) ∧ (∀ i, σ 16 i = σ 98 (2 * i) ∧ σ 17 i = σ 98 (2 * i + 1)) ∧ σ 14 = σ 96 ∧ σ 15 = σ 97 ∧ σ 18 = σ 99 ∧ σ 19 = σ 100 ∧ σ 20 = σ 101
def R_all (n e p pe : Nat) (σ : am_S) : Prop := ld_ok n e p σ ∧ pp_ok n pe σ ∧ rXp (σ 21 4) (σ 104 0) (σ 26) (σ 27) (σ 25) (σ 103) 0 ∧ rXp (σ 21 5) (σ 104 1) (σ 29) (σ 30) (σ 28) (σ 103) 50 ∧ rXt (σ 104 2) (σ 32) (σ 33) (σ 31) (σ 103) 100
theorem R0_all {σ : am_S} (h : R0 σ) : ∃ n e p pe, R_all n e p pe σ := by
  obtain ⟨n, e, p, pe, th, ti, wa, ca, ta, dd, wt, tl, cn, ce, cp, cpe, cth, cti, cwa, cca, cta, cdy, cwt, ctl, f1_11, f1_12, f1_13, f13_7, f22_2, f21_6, f34_6, f34_7, f47_2, f47_3, f48_4, f73_4, f78_4, f0_11, f0_12, f47_0, f47_1, r2, r3, r4, r5, r6, r7, r8, r9, r10, r11, r14, r15, r18, r19, r20, r23, r35, r36, r37, r38, r39, r40, r49, r50, r74, r75, r76, r77, r79, r80, r84, hM, hL, hP, hE, hW, hG, hC, hT, hD, hX0, hX1, hX2, hK⟩ := h
  exact ⟨n, e, p, pe, ⟨cn, ce, cp, hL, by rw [← f1_11]; exact cn, by rw [← f1_12]; exact ce, by rw [← f1_13]; exact cp, r2, r3, r4, r5, r6, r7, r8, r9, r10, r11⟩, ⟨cpe, by rw [← f13_7]; exact cpe, hP, hM, r14, r15, r18, r19, r20⟩, hX0, hX1, hX2⟩
theorem pp_sc {n pe : Nat} {τ σ : am_S} (hs : sc τ σ) (h : pp_ok n pe σ) : pp_ok n pe τ := by
  obtain ⟨hF, _, _, h85⟩ := hs
  unfold pp_ok at *
  rw [hF 13 (by decide), h85 14 (by decide), hF 14 (by decide), hF 15 (by decide), hF 16 (by decide), hF 17 (by decide), hF 18 (by decide), hF 19 (by decide), hF 20 (by decide), hF 96 (by decide), hF 97 (by decide), hF 98 (by decide), hF 99 (by decide), hF 100 (by decide), hF 101 (by decide)]
  exact h
theorem R_all_sc {n e p pe : Nat} {τ σ : am_S} (hs : sc τ σ) (h : R_all n e p pe σ) : R_all n e p pe τ := by
  refine ⟨ld_sc hs h.1, pp_sc hs h.2.1, ?_⟩
  have hF := hs.1
  rw [hF 21 (by decide), hF 104 (by decide), hF 26 (by decide), hF 27 (by decide), hF 25 (by decide), hF 103 (by decide), hF 29 (by decide), hF 30 (by decide), hF 28 (by decide), hF 32 (by decide), hF 33 (by decide), hF 31 (by decide)]
  exact h.2.2
def ow_g (p : Nat) (σ : am_S) (ld : Int32) (i : Nat) (g : Int32) : Int32 := if g = 98 then ld_sd p σ (nv (σ 14 i)) else if g = 99 then (if σ 19 i ≤ ld then σ 18 i else -1) else if g = 104 then ld_sd p σ (nv (σ 15 i)) else (if σ 16 i = σ 17 i then -1 else if σ 16 i ≤ σ 17 i then 1 else 0)
def ow (p : Nat) (σ : am_S) (ld : Int32) (i : Nat) : List Int32 → Int32
  | [] => -1
  | g :: gs => if ow_g p σ ld i g = -1 then ow p σ ld i gs else ow_g p σ ld i g
theorem ow_sc {p : Nat} {τ σ : am_S} {ld : Int32} {i : Nat} (hs : sc τ σ) : ∀ gs, ow p τ ld i gs = ow p σ ld i gs := by
  have hg : ∀ g, ow_g p τ ld i g = ow_g p σ ld i g := by
    intro g
    unfold ow_g
    rw [sd_sc hs, hs.1 14 (by decide), hs.1 15 (by decide), hs.1 16 (by decide), hs.1 17 (by decide), hs.1 18 (by decide), hs.1 19 (by decide)]
  intro gs
  induction gs with
  | nil => rfl
  | cons g gs ih => rw [ow, ow, hg, ih]
theorem ow_g3 {n e p pe i : Nat} {σ : am_S} {ld g : Int32} (h : R_all n e p pe σ) (hi : i < pe) : ow_g p σ ld i g = -1 ∨ ow_g p σ ld i g = 0 ∨ ow_g p σ ld i g = 1 := by
  unfold ow_g
  have s01 : ∀ j, ld_sd p σ j = 0 ∨ ld_sd p σ j = 1 := by
    intro j
    obtain ⟨s, s1, s2⟩ := ld_01 h.1 j
    have : s = 0 ∨ s = 1 := by omega
    rcases this with z | z
    · left; rw [s2, z]; rfl
    · right; rw [s2, z]; rfl
  have ch := (h.2.1.2.2.1.2.1 i hi).2.2
  split
  · exact Or.inr (s01 _)
  · split
    · split
      · exact ch
      · exact Or.inl rfl
    · split
      · exact Or.inr (s01 _)
      · split
        · exact Or.inl rfl
        · split
          · exact Or.inr (Or.inr rfl)
          · exact Or.inr (Or.inl rfl)
theorem ow_3 {n e p pe i : Nat} {σ : am_S} {ld : Int32} (h : R_all n e p pe σ) (hi : i < pe) : ∀ gs, ow p σ ld i gs = -1 ∨ ow p σ ld i gs = 0 ∨ ow p σ ld i gs = 1
  | [] => Or.inl rfl
  | g :: gs => by
    rw [ow]
    split
    · exact ow_3 h hi gs
    · exact ow_g3 h hi
theorem m1_lt {x : Int32} (h : x = -1 ∨ x = 0 ∨ x = 1) : (x < 0 ↔ x = -1) ∧ (0 ≤ x ↔ ¬ x = -1) := by
  rcases h with h | h | h <;> (subst h; decide)
theorem ow_x {N n e p pe i : Nat} {σ : am_S} {ld g : Int32} (hN : 20000 ≤ N) (h : R_all n e p pe σ) (hi : i < pe) (hg : rs_gd g = true) : fx_People_ownerOnGround N g (nI i) ld σ = some (ow_g p σ ld i g) := by
  have l1 := h.1.2.2.2.1.1
  have l2 := h.2.1.2.2.1.1
  obtain ⟨⟨b, b1, b2⟩, ⟨o, o1, o2⟩, _⟩ := h.2.1.2.2.1.2.1 i hi
  have nb : nv (nI b) = b := nI_clamp (by omega)
  have no : nv (nI o) = o := nI_clamp (by omega)
  unfold fx_People_ownerOnGround ow_g fx_People_sideOfMoreWork
  simp only [hb_g (show i < 16 by omega) (by decide), nI_clamp (show i < 2 ^ 31 by omega), b2, o2, nb, no]
  by_cases c1 : g = 98
  · rw [if_pos c1, if_pos c1, ld_x hN h.1 (by omega)]; rfl
  · rw [if_neg c1, if_neg c1]
    by_cases c2 : g = 99
    · rw [if_pos c2, if_pos c2]
      split <;> rfl
    · rw [if_neg c2, if_neg c2]
      by_cases c3 : g = 104
      · rw [if_pos c3, if_pos c3, ld_x hN h.1 (by omega)]; rfl
      · rw [if_neg c3, if_neg c3]
        have c4 : g = 119 := by
          have := of_decide_eq_true hg
          rcases this with z | z | z | z
          · exact absurd z c2
          · exact absurd z c3
          · exact absurd z c1
          · exact z
        rw [if_pos c4]
        split
        · rfl
        · split <;> rfl
theorem ob_31 {N n e p pe i : Nat} {σ : am_S} {F : rs_F} (hN : 20000 ≤ N) (h : R_all n e p pe σ) (hi : i < pe) (hF : rgF F (σ 31) (σ 33)) (hg : rs_good F) : fx_People_ownerBy N (nI i) σ = some (ow p σ F.2.1 i F.1) := by
  obtain ⟨f1, f2, f3, f4, _⟩ := hF
  have key : ∀ r k q, k + r = F.1.length → r < q → fx_People_ownerBy_b3 N q (nI i) (nI k) σ = some (ow p σ F.2.1 i (F.1.drop k)) := by
    intro r
    induction r with
    | zero =>
      intro k q a1 a2
      obtain ⟨q, rfl⟩ : ∃ m, q = m + 1 := ⟨q - 1, by omega⟩
      rw [fx_People_ownerBy_b3, f2, if_pos (nI_le (by omega) (by omega)), List.drop_eq_nil_of_le (by omega)]
      rfl
    | succ r ih =>
      intro k q a1 a2
      obtain ⟨q, rfl⟩ : ∃ m, q = m + 1 := ⟨q - 1, by omega⟩
      have hk : k < F.1.length := by omega
      rw [fx_People_ownerBy_b3, f2, if_neg (nI_ge (by omega) (by omega)), hb_g (by omega) (by decide), nI_clamp (by omega), f3 k hk, f4, ow_x hN h hi (hg.1 _ (List.getElem_mem hk)), hb_bind, List.drop_eq_getElem_cons hk, ow, nI_1, ih (k + 1) q (by omega) (by omega)]
      split <;> rfl
  have := key F.1.length 0 N (by omega) (by omega)
  rw [List.drop_zero] at this
  exact this
theorem ob_25 {N n e p pe i : Nat} {σ : am_S} {F : rs_F} (hN : 20000 ≤ N) (h : R_all n e p pe σ) (hi : i < pe) (hF : rgF F (σ 25) (σ 27)) (hg : rs_good F) : fx_People_ownerBy_13_25_1 N (nI i) σ = some (ow p σ F.2.1 i F.1) := by
  obtain ⟨f1, f2, f3, f4, _⟩ := hF
  have key : ∀ r k q, k + r = F.1.length → r < q → fx_People_ownerBy_13_25_1_b3 N q (nI i) (nI k) σ = some (ow p σ F.2.1 i (F.1.drop k)) := by
    intro r
    induction r with
    | zero =>
      intro k q a1 a2
      obtain ⟨q, rfl⟩ : ∃ m, q = m + 1 := ⟨q - 1, by omega⟩
      rw [fx_People_ownerBy_13_25_1_b3, f2, if_pos (nI_le (by omega) (by omega)), List.drop_eq_nil_of_le (by omega)]
      rfl
    | succ r ih =>
      intro k q a1 a2
      obtain ⟨q, rfl⟩ : ∃ m, q = m + 1 := ⟨q - 1, by omega⟩
      have hk : k < F.1.length := by omega
      rw [fx_People_ownerBy_13_25_1_b3, f2, if_neg (nI_ge (by omega) (by omega)), hb_g (by omega) (by decide), nI_clamp (by omega), f3 k hk, f4, ow_x hN h hi (hg.1 _ (List.getElem_mem hk)), hb_bind, List.drop_eq_getElem_cons hk, ow, nI_1, ih (k + 1) q (by omega) (by omega)]
      split <;> rfl
  have := key F.1.length 0 N (by omega) (by omega)
  rw [List.drop_zero] at this
  exact this
theorem ob_28 {N n e p pe i : Nat} {σ : am_S} {F : rs_F} (hN : 20000 ≤ N) (h : R_all n e p pe σ) (hi : i < pe) (hF : rgF F (σ 28) (σ 30)) (hg : rs_good F) : fx_People_ownerBy_13_28_1 N (nI i) σ = some (ow p σ F.2.1 i F.1) := by
  obtain ⟨f1, f2, f3, f4, _⟩ := hF
  have key : ∀ r k q, k + r = F.1.length → r < q → fx_People_ownerBy_13_28_1_b3 N q (nI i) (nI k) σ = some (ow p σ F.2.1 i (F.1.drop k)) := by
    intro r
    induction r with
    | zero =>
      intro k q a1 a2
      obtain ⟨q, rfl⟩ : ∃ m, q = m + 1 := ⟨q - 1, by omega⟩
      rw [fx_People_ownerBy_13_28_1_b3, f2, if_pos (nI_le (by omega) (by omega)), List.drop_eq_nil_of_le (by omega)]
      rfl
    | succ r ih =>
      intro k q a1 a2
      obtain ⟨q, rfl⟩ : ∃ m, q = m + 1 := ⟨q - 1, by omega⟩
      have hk : k < F.1.length := by omega
      rw [fx_People_ownerBy_13_28_1_b3, f2, if_neg (nI_ge (by omega) (by omega)), hb_g (by omega) (by decide), nI_clamp (by omega), f3 k hk, f4, ow_x hN h hi (hg.1 _ (List.getElem_mem hk)), hb_bind, List.drop_eq_getElem_cons hk, ow, nI_1, ih (k + 1) q (by omega) (by omega)]
      split <;> rfl
  have := key F.1.length 0 N (by omega) (by omega)
  rw [List.drop_zero] at this
  exact this
theorem ob_m {N n e p pe i : Nat} {σ : am_S} {F : rs_F} (hN : 20000 ≤ N) (h : R_all n e p pe σ) (hi : i < pe) (hF : rm_F F σ) (hg : rs_good F) : fm_whoseBy N (nI i) σ = some (ow p σ F.2.1 i F.1) := by
  obtain ⟨f1, f2, f3, f4, _⟩ := hF
  have l1 := h.1.2.2.2.1.1
  have l2 := h.2.1.2.2.1.1
  obtain ⟨⟨b, b1, b2⟩, ⟨o, o1, o2⟩, _⟩ := h.2.1.2.2.1.2.1 i hi
  obtain ⟨mm1, mm2⟩ := h.2.1.2.2.2.1 i
  obtain ⟨_, _, _, _, q14, q15, q18, q19, q20⟩ := h.2.1
  have nb : nv (σ 14 i) = b := by unfold nv; rw [b2, nI_clamp (by omega)]
  have no : nv (σ 15 i) = o := by unfold nv; rw [o2, nI_clamp (by omega)]
  have e2 : (2 : Int32) * nI i = nI (2 * i) := by rw [hb_L2, pk_mul]
  have e3 : (2 : Int32) * nI i + 1 = nI (2 * i + 1) := by rw [e2, nI_1]
  have key : ∀ r k q, k + r = F.1.length → r < q → fm_whoseBy_b2 N q (nI i) (nI k) σ = some (ow p σ F.2.1 i (F.1.drop k)) := by
    intro r
    induction r with
    | zero =>
      intro k q a1 a2
      obtain ⟨q, rfl⟩ : ∃ m, q = m + 1 := ⟨q - 1, by omega⟩
      rw [fm_whoseBy_b2, f2, if_pos (nI_le (by omega) (by omega)), List.drop_eq_nil_of_le (by omega)]
      rfl
    | succ r ih =>
      intro k q a1 a2
      obtain ⟨q, rfl⟩ : ∃ m, q = m + 1 := ⟨q - 1, by omega⟩
      have hk : k < F.1.length := by omega
      have nx := ih (k + 1) q (by omega) (by omega)
      have g4 := of_decide_eq_true (hg.1 _ (List.getElem_mem hk))
      have g3 := ow_g3 (ld := F.2.1) (g := F.1[k]) h hi
      have lt := m1_lt g3
      have fin : ∀ v, v = ow_g p σ F.2.1 i F.1[k] → (if v < 0 then fm_whoseBy_b2 N q (nI i) (nI (k + 1)) σ else some v) = some (ow p σ F.2.1 i (F.1.drop k)) := by
        intro v hv
        rw [List.drop_eq_getElem_cons hk, ow, hv]
        by_cases z : ow_g p σ F.2.1 i F.1[k] = -1
        · rw [if_pos (lt.1.2 z), if_pos z, nx]
        · rw [if_neg (fun u => z (lt.1.1 u)), if_neg z]
      rw [fm_whoseBy_b2, f2, if_neg (nI_ge (by omega) (by omega)), hb_g (by omega) (by decide), nI_clamp (by omega), f3 k hk]
      unfold fm_whoseBy_b49 fm_whoseBy_b147 fm_whoseBy_b149
      simp only [hb_g (show i < 16 by omega) (by decide), nI_clamp (show i < 2 ^ 31 by omega), e2, e3, hb_g (show 2 * i < 32 by omega) (by decide), hb_g (show 2 * i + 1 < 32 by omega) (by decide), nI_clamp (show 2 * i < 2 ^ 31 by omega), nI_clamp (show 2 * i + 1 < 2 ^ 31 by omega), ← mm1, ← mm2, ← q14, ← q15, ← q18, ← q19, f4, b2, o2, nI_1]
      by_cases c1 : F.1[k] = 99
      · rw [if_pos c1]
        have eg : ow_g p σ F.2.1 i F.1[k] = if σ 19 i ≤ F.2.1 then σ 18 i else -1 := by
          unfold ow_g; rw [c1, if_neg (by decide), if_pos rfl]
        by_cases z : F.2.1 < σ 19 i
        · rw [if_pos z]
          refine fin (-1) ?_
          rw [eg, if_neg (fun u => (ng.1 u) z)]
        · rw [if_neg z]
          refine fin _ ?_
          rw [eg, if_pos (ng.2 z)]
      · rw [if_neg c1]
        by_cases c2 : F.1[k] = 104
        · rw [if_pos c2, ld_m hN h.1 (by omega), hb_bind]
          refine fin _ ?_
          unfold ow_g; rw [c2, if_neg (by decide), if_neg (by decide), if_pos rfl, no]
        · rw [if_neg c2]
          by_cases c3 : F.1[k] = 98
          · rw [if_pos c3, ld_m hN h.1 (by omega), hb_bind]
            refine fin _ ?_
            unfold ow_g; rw [c3, if_pos rfl, nb]
          · rw [if_neg c3]
            have eg : ow_g p σ F.2.1 i F.1[k] = if σ 16 i = σ 17 i then -1 else if σ 16 i ≤ σ 17 i then 1 else 0 := by
              unfold ow_g; rw [if_neg c3, if_neg c1, if_neg c2]
            by_cases z : σ 16 i ≤ σ 17 i
            · rw [if_pos z]
              by_cases z2 : σ 17 i ≤ σ 16 i
              · have ee : σ 16 i = σ 17 i := (fa_eq _ _).2 (Int.le_antisymm ((fa_le _ _).1 z) ((fa_le _ _).1 z2))
                rw [if_pos z2]
                refine fin _ ?_
                rw [eg, if_pos ee]
              · have ee : ¬ σ 16 i = σ 17 i := fun u => z2 (by rw [u]; exact (fa_le _ _).2 (Int.le_refl _))
                rw [if_neg z2]
                refine fin _ ?_
                rw [eg, if_neg ee, if_pos z]
            · have ee : ¬ σ 16 i = σ 17 i := fun u => z (by rw [u]; exact (fa_le _ _).2 (Int.le_refl _))
              rw [if_neg z]
              refine fin _ ?_
              rw [eg, if_neg ee, if_neg z]
  have := key F.1.length 0 N (by omega) (by omega)
  rw [List.drop_zero] at this
  exact this
/-- the law: what the class holds of it, and the reference's reading of it -/
theorem lw_rd {N n e p pe : Nat} {σ : am_S} (hN : 20000 ≤ N) (h : R_all n e p pe σ) : ∃ F, rgF F (σ 31) (σ 33) ∧ rs_good F ∧ ∀ τ, sc τ σ ∨ (∃ k τ', sc τ' σ ∧ τ = fnd k τ') → ∃ τ2, fm_readLaw N 2 τ = some (-1, τ2) ∧ rm_fr τ2 τ ∧ rm_F F τ2 := by
  obtain ⟨len, a1, a2, a3, a4, a5, a6⟩ := h.2.2.2.2
  refine ⟨(rs_all (σ 32) len).2.2, a6, rs_all_good _ _, ?_⟩
  intro τ ht
  have e104 : τ 104 = σ 104 := by
    rcases ht with ht | ⟨k, τ', ht, e⟩
    · exact ht.1 104 (by decide)
    · subst e; unfold fnd; rw [hb_up_ne (by decide)]; exact ht.1 104 (by decide)
  have e103 : τ 103 = σ 103 := by
    rcases ht with ht | ⟨k, τ', ht, e⟩
    · exact ht.1 103 (by decide)
    · subst e; unfold fnd; rw [hb_up_ne (by decide)]; exact ht.1 103 (by decide)
  have hX : rXt (τ 104 2) (σ 32) (σ 33) (σ 31) (τ 103) (50 * 2) := by rw [e104, e103]; exact ⟨len, a1, a2, a3, a4, a5, a6⟩
  have ec : rs_all (rm_b τ 100) len = rs_all (σ 32) len := rs_all_cong (fun k hk => by
    show τ 103 (100 + k) = σ 32 k
    rw [e103]; exact (a4 k hk).symm)
  obtain ⟨σ', e1, e2, e3⟩ := sm_rd3 (N := N) (σ := τ) (fr := 100) hN a1 (by omega)
  have er : rs_rows (rm_b τ 100) len 51 0 rs_F0 = rs_all (σ 32) len := ec
  rw [er] at e1 e3
  rw [a5, if_pos rfl] at e1
  refine ⟨σ', ?_, e2, e3 a5⟩
  unfold fm_readLaw
  rw [hb_gt (show am_in 2 3 = true from rfl), hb_cl2, e104, a2]
  have ef : (50 : Int32) * 2 = nI 100 := rfl
  rw [ef, e1]
  rfl

