theorem C_found {σ : am_S} (a1 : Int32) (h : R σ) : tw (fx_found a1) (fm_found a1) σ := by
  rcases inE_c a1 1 5 with ⟨c1, k⟩ | ⟨c1, k1, k2⟩
  · refine tw1 h ?_ ?_
    · unfold fx_found fx_found_b10
      by_cases z : a1 < 1
      · rw [if_pos z, fx_f1]; rfl
      · rw [if_neg z, if_neg (fun u => (ng.1 u) (k.resolve_left z)), fx_f1]; rfl
    · unfold fm_found; rw [in_m, if_pos c1, fm_f1]; rfl
  have d1 : ¬ inE a1 1 5 = 0 := by rw [c1]; decide
  obtain ⟨c, c4, ec⟩ : okc a1 5 := in_nat (by decide) (fun z => k1 (by rw [fa_lt] at z ⊢; have : (0 : Int32).toInt = 0 := rfl; have : (1 : Int32).toInt = 1 := rfl; omega)) k2
  refine tw_a (v := σ 83 c) σ σ h (sc_refl σ) (sc_refl σ) ?_ ?_
  · unfold fx_found; rw [if_neg k1, if_pos (ng.2 k2), ec, hb_g (by omega) (by decide), nI_clamp (by omega)]
  · unfold fm_found; rw [in_m, if_neg d1, ec, hb_g (by omega) (by decide), nI_clamp (by omega), h.2]
theorem C_pension {σ : am_S} (a1 a2 a3 : Int32) (h : R σ) : tw (fx_pension a1 a2 a3) (fm_pension a1 a2 a3) σ := by
  obtain ⟨n, e, p, pe, ha⟩ := R0_all h.1
  obtain ⟨p1, p2, hP, hM, _⟩ := ha.2.1
  have l2 := hP.1
  have m14 : ∀ k, fnd k σ 85 14 = nI pe := fun k => p2
  rcases hsE_c a1 pe (by omega) with c1 | ⟨j, i1, e1, c1⟩
  · refine tw1 h ?_ ?_
    · unfold fx_pension fx_pension_b28; rw [hx_q a1 p1, if_pos c1, fx_f1]; rfl
    · unfold fm_pension fm_pension_b25; rw [hm_q a1 (m14 1), if_pos c1, fm_f1]; rfl
  have d1 : ¬ hsE a1 pe = 0 := by rw [c1]; decide
  rcases inE_c a2 0 100000 with ⟨c2, k⟩ | ⟨c2, k1, k2⟩
  · refine tw1 h ?_ ?_
    · unfold fx_pension fx_pension_b28
      rw [hx_q a1 p1, if_neg d1]
      by_cases z : a2 < 0
      · rw [if_pos z, fx_f1]; rfl
      · rw [if_neg z, if_pos (k.resolve_left z), fx_f1]; rfl
    · unfold fm_pension fm_pension_b25; rw [hm_q a1 (m14 1), if_neg d1, in_m, if_pos c2, fm_f1]; rfl
  have d2 : ¬ inE a2 0 100000 = 0 := by rw [c2]; decide
  rcases zoE_c a3 with c3 | ⟨_, c3⟩
  · refine tw1 h ?_ ?_
    · unfold fx_pension fx_pension_b28; rw [hx_q a1 p1, if_neg d1, if_neg k1, if_neg k2, zx_x, if_pos c3, fx_f1]; rfl
    · unfold fm_pension fm_pension_b25; rw [hm_q a1 (m14 1), if_neg d1, in_m, if_neg d2, zx_s, if_pos c3, fm_f1]; rfl
  have d3 : ¬ zoE a3 = 0 := by rw [c3]; decide
  obtain ⟨x, x1, x2⟩ := hP.2.2.1 j
  obtain ⟨y, y1, y2⟩ := hP.2.2.2.1 j
  obtain ⟨w1, w2⟩ := hM j
  have e2 : (2 : Int32) * nI j = nI (2 * j) := by rw [hb_L2, pk_mul]
  have e3 : (2 : Int32) * nI j + 1 = nI (2 * j + 1) := by rw [e2, nI_1]
  obtain ⟨fi, hfi⟩ : ∃ fi : Int32, fi = if x + y = 0 then a2 / 2 else a2 * nI x / nI (x + y) := ⟨_, rfl⟩
  have hx : fx_pension a1 a2 a3 σ = some (if a3 = 0 then fi else a2 - fi, σ) := by
    unfold fx_pension fx_People_firstPartOfPension
    rw [hx_q a1 p1, if_neg d1, if_neg k1, if_neg k2, zx_x, if_neg d3, e1]
    simp only [hb_g (show j < 16 by omega) (by decide), nI_clamp (show j < 2 ^ 31 by omega), x2, y2, nI_add]
    by_cases z : x + y = 0
    · rw [if_pos z] at hfi
      rw [z, if_neg (show ¬ (0 : Int32) < nI 0 by decide), hb_bind, hfi]
      split <;> rfl
    · rw [if_neg z] at hfi
      rw [if_pos (show (0 : Int32) < nI (x + y) from nI_lt (a := 0) (by omega) (by omega)), if_neg (nI_ne0 (by omega) (by omega)), hb_bind, hfi]
      split <;> rfl
  have hm : fm_pension a1 a2 a3 σ = some (if a3 = 0 then fi else a2 - fi, σ) := by
    unfold fm_pension fm_pension_b76
    rw [hm_q a1 p2, if_neg d1, in_m, if_neg d2, zx_s, if_neg d3, e1]
    simp only [e2, nI_1, hb_g (show 2 * j < 32 by omega) (by decide), hb_g (show 2 * j + 1 < 32 by omega) (by decide), nI_clamp (show 2 * j < 2 ^ 31 by omega), nI_clamp (show 2 * j + 1 < 2 ^ 31 by omega), ← w1, ← w2, x2, y2, nI_add]
    by_cases z : x + y = 0
    · rw [if_pos z] at hfi
      rw [z, if_pos (show nI 0 = (0 : Int32) from rfl), hfi]
      split <;> rfl
    · rw [if_neg z] at hfi
      rw [if_neg (nI_ne0 (by omega) (by omega)), if_neg (nI_ne0 (by omega) (by omega)), hfi]
      split <;> rfl
  exact tw_a σ σ h (sc_refl σ) (sc_refl σ) hx hm
theorem C_law {N : Nat} {σ : am_S} (a1 : Int32) (hN : 20000 ≤ N) (h : R σ) : tw (fx_law a1) (fm_law N a1) σ := by
  obtain ⟨n, e, p, pe, ha⟩ := R0_all h.1
  rcases inE_c a1 0 6 with ⟨c1, k⟩ | ⟨c1, k1, k2⟩
  · have hne : ∀ j : Nat, j ≤ 6 → ¬ a1 = nI j := by
      intro j hj z
      rcases k with k | k
      · rw [z] at k; exact nI_pos (by omega) k
      · rw [z, hb_L6] at k; exact nI_nlt (by omega) (by omega) k
    refine tw1 h ?_ ?_
    · unfold fx_law
      rw [if_neg (show ¬ a1 = 0 from hne 0 (by omega)), if_neg (show ¬ a1 = 1 from hne 1 (by omega)), if_neg (show ¬ a1 = 2 from hne 2 (by omega)), if_neg (show ¬ a1 = 3 from hne 3 (by omega)), if_neg (show ¬ a1 = 4 from hne 4 (by omega)), if_neg (show ¬ a1 = 5 from hne 5 (by omega)), if_neg (show ¬ a1 = 6 from hne 6 (by omega)), fx_f1]; rfl
    · unfold fm_law; rw [in_m, if_pos c1, fm_f1]; rfl
  have d1 : ¬ inE a1 0 6 = 0 := by rw [c1]; decide
  obtain ⟨c, c6, ec⟩ : okc a1 6 := in_nat (by decide) k1 k2
  obtain ⟨F, f1, f2, f3⟩ := lw_rd (N := N) hN ha
  obtain ⟨τ2, t1, t2, t3⟩ := f3 σ (Or.inl (sc_refl σ))
  obtain ⟨g1, g2, g3, g4, g5, g6, g7, g8⟩ := f1
  obtain ⟨u1, u2, u3, u4, u5, u6, u7, u8⟩ := t3
  have u25 : τ2 85 25 = σ 85 25 := t2.2 25 (by omega)
  have f25 : σ 21 6 = σ 85 25 := by
    obtain ⟨n, e, p, pe, th, ti, wa, ca, ta, dd, wt, tl, cn, ce, cp, cpe, cth, cti, cwa, cca, cta, cdy, cwt, ctl, f1_11, f1_12, f1_13, f13_7, f22_2, f21_6, f34_6, f34_7, f47_2, f47_3, f48_4, f73_4, f78_4, f0_11, f0_12, f47_0, f47_1, r2, r3, r4, r5, r6, r7, r8, r9, r10, r11, r14, r15, r18, r19, r20, r23, r35, r36, r37, r38, r39, r40, r49, r50, r74, r75, r76, r77, r79, r80, r84, hM, hL, hP, hE, hW, hG, hC, hT, hD, hX0, hX1, hX2, hK⟩ := h.1
    exact f21_6
  have hm : ∀ x : Int32, (if a1 = 0 then τ2 85 56 else if a1 = 1 then τ2 85 57 else if a1 = 2 then τ2 85 58 else if a1 = 3 then τ2 85 59 else if a1 = 4 then τ2 85 60 else if a1 = 5 then τ2 85 55 else τ2 85 25) = x → fm_law N a1 σ = some (x, τ2) := by
    intro x hx
    unfold fm_law
    rw [in_m, if_neg d1, t1, hb_bind, ← hx]
    split
    · rfl
    · split
      · rfl
      · split
        · rfl
        · split
          · rfl
          · split
            · rfl
            · split <;> rfl
  have fin : ∀ x : Int32, fx_law a1 σ = some (x, σ) → (if a1 = 0 then τ2 85 56 else if a1 = 1 then τ2 85 57 else if a1 = 2 then τ2 85 58 else if a1 = 3 then τ2 85 59 else if a1 = 4 then τ2 85 60 else if a1 = 5 then τ2 85 55 else τ2 85 25) = x → tw (fx_law a1) (fm_law N a1) σ := fun x hx hy => tw_a σ τ2 h (sc_refl σ) (rm_sc t2) hx (hm x hy)
  have cc : c = 0 ∨ c = 1 ∨ c = 2 ∨ c = 3 ∨ c = 4 ∨ c = 5 ∨ c = 6 := by omega
  rcases cc with z | z | z | z | z | z | z
  · subst z; subst ec; exact fin (σ 31 4) rfl (by rw [g4]; exact u4)
  · subst z; subst ec; exact fin (σ 31 5) rfl (by rw [g5]; exact u5)
  · subst z; subst ec
    refine fin (σ 31 6) ?_ (by rw [g6]; exact u6)
    show (if σ 31 6 = 0 then some (0, σ) else some (1, σ)) = some (σ 31 6, σ)
    rcases f2.2 with y | y
    · rw [g6, y, if_pos rfl]
    · rw [g6, y, if_neg (by decide)]
  · subst z; subst ec; exact fin (σ 31 7) rfl (by rw [g7]; exact u7)
  · subst z; subst ec; exact fin (σ 31 8) rfl (by rw [g8]; exact u8)
  · subst z; subst ec; exact fin (σ 31 3) rfl (by rw [g2]; exact u2)
  · subst z; subst ec; exact fin (σ 21 6) rfl (by rw [f25]; exact u25)
theorem C_differ {N : Nat} {σ : am_S} (hN : 20000 ≤ N) (h : R σ) : tw (fx_differ N) (fm_differ N) σ := by
  obtain ⟨n, e, p, pe, ha⟩ := R0_all h.1
  obtain ⟨_, _, hX0, hX1, _⟩ := ha
  have m1n : ((-1 : Int32) < 0) := by decide
  have st : (∃ v4 v5 : Int32, (v4 = 0 ∨ v4 = 1) ∧ (v5 = 0 ∨ v5 = 1) ∧ σ 21 4 = v4 ∧ σ 21 5 = v5 ∧ ((v4 = 0 ∧ σ 104 0 = -1) ∨ (v4 = 1 ∧ rXt (σ 104 0) (σ 26) (σ 27) (σ 25) (σ 103) 0)) ∧ ((v5 = 0 ∧ σ 104 1 = -1) ∨ (v5 = 1 ∧ rXt (σ 104 1) (σ 29) (σ 30) (σ 28) (σ 103) 50))) := by
    refine ⟨σ 21 4, σ 21 5, ?_, ?_, rfl, rfl, hX0, hX1⟩
    · rcases hX0 with z | z
      · exact Or.inl z.1
      · exact Or.inr z.1
    · rcases hX1 with z | z
      · exact Or.inl z.1
      · exact Or.inr z.1
  obtain ⟨v4, v5, b4, b5, w4, w5, x0, x1⟩ := st
  have hp0 : fx_Houses_hasProposed 0 σ = some v4 := by
    unfold fx_Houses_hasProposed
    rw [if_pos rfl, w4]
    refine hb_gt ?_
    rcases b4 with z | z
    · rw [z]; rfl
    · rw [z]; rfl
  have hp1 : fx_Houses_hasProposed 1 σ = some v5 := by
    unfold fx_Houses_hasProposed
    rw [if_neg (by decide), w5]
    refine hb_gt ?_
    rcases b5 with z | z
    · rw [z]; rfl
    · rw [z]; rfl
  rcases x0 with ⟨z, y⟩ | ⟨z, X0⟩
  · refine tw3 h ?_ ?_
    · unfold fx_differ fx_differ_b22; rw [hp0, hb_bind, if_pos z, fx_f3]; rfl
    · unfold fm_differ fm_differ_b18
      have y' : fnd 3 σ 104 0 = -1 := y
      rw [hb_gt (hb_in0 (by decide) (by decide)), hb_cl0, y', if_pos m1n, fm_f3]; rfl
  · obtain ⟨l0, a1, a2, a3, a4, _⟩ := X0
    have nz : ¬ v4 = 0 := by rw [z]; decide
    rcases x1 with ⟨z1, y⟩ | ⟨z1, X1⟩
    · refine tw3 h ?_ ?_
      · unfold fx_differ fx_differ_b22; rw [hp0, hb_bind, if_neg nz, hp1, hb_bind, if_pos z1, fx_f3]; rfl
      · unfold fm_differ fm_differ_b18
        have y' : fnd 3 σ 104 1 = -1 := y
        have y0 : fnd 3 σ 104 0 = nI l0 := a2
        rw [hb_gt (hb_in0 (by decide) (by decide)), hb_cl0, y0, if_neg (nI_pos (by omega)), hb_gt (show am_in 1 3 = true from rfl), hb_cl1, y', if_neg (by decide), fm_f3]; rfl
    · obtain ⟨l1, c1, c2, c3, c4, _⟩ := X1
      have nz1 : ¬ v5 = 0 := by rw [z1]; decide
      have ux := fu_ (N := N) hN a1 c1 a3 c3
      have um := mu (N := N) (x := 0) (y := 1) (σ := σ) hN (by omega) (by omega) a1 c1 a2 c2
      have ue := un_cong (b := σ 26) (b' := σ 29) (c := fun k => σ 103 (50 * 0 + k)) (c' := fun k => σ 103 (50 * 1 + k)) (l := l0) (l' := l1) a4 c4 60 0
      refine tw_a (v := un_s (σ 26) (σ 29) l0 l1 60 0) σ σ h (sc_refl σ) (sc_refl σ) ?_ ?_
      · unfold fx_differ fx_Houses_heldBy
        rw [hp0, hb_bind, if_neg nz, hp1, hb_bind, if_neg nz1, if_neg (by decide), if_pos (by decide), ux]; rfl
      · unfold fm_differ
        rw [hb_gt (hb_in0 (by decide) (by decide)), hb_cl0, a2, if_neg (nI_pos (by omega)), hb_gt (show am_in 1 3 = true from rfl), hb_cl1, c2, if_pos (nI_pos' (by omega))]
        have um' : fm_unlike N 0 1 σ = some (un_s (σ 26) (σ 29) l0 l1 60 0) := by rw [ue]; exact um
        rw [um']; rfl

