/-! ===== things ===== -/
theorem kd_3 {k : Nat} : kd_un k 3 = true ↔ 3 ≤ k := by unfold kd_un; rw [decide_eq_true_eq]; omega
theorem kd_4 {k : Nat} : kd_un k 4 = true ↔ k = 4 := by unfold kd_un; rw [decide_eq_true_eq]; omega
theorem kd_1 {k : Nat} : kd_un k 1 = true ↔ k = 1 ∨ k = 2 := by unfold kd_un; rw [decide_eq_true_eq]; omega
theorem nie {a : Nat} (b : Nat) (ha : a < 2 ^ 31) (hb : b < 2 ^ 31) : nI a = nI b ↔ a = b := nI_eq ha hb
theorem C_copy {N : Nat} {σ : am_S} (a1 : Int32) (hN : 20000 ≤ N) (h : R σ) : tw (fx_copy N a1) (fm_copy a1) σ := by
  obtain ⟨n, e, p, pe, th, ti, wa, ca, ta, dd, wt, tl, cn, ce, cp, cpe, cth, cti, cwa, cca, cta, cdy, cwt, ctl, f1_11, f1_12, f1_13, f13_7, f22_2, f21_6, f34_6, f34_7, f47_2, f47_3, f48_4, f73_4, f78_4, f0_11, f0_12, f47_0, f47_1, r2, r3, r4, r5, r6, r7, r8, r9, r10, r11, r14, r15, r18, r19, r20, r23, r35, r36, r37, r38, r39, r40, r49, r50, r74, r75, r76, r77, r79, r80, r84, hM, hL, hP, hE, hW, hG, hC, hT, hD, hX0, hX1, hX2, hK⟩ := h.1
  have m26 : σ 85 26 = nI th := by rw [← f34_6]; exact cth
  have l := hE.1.1
  rcases hsE_c a1 th (by omega) with c1 | ⟨j, i1, e1, c1⟩
  · refine tw1 h ?_ ?_
    · unfold fx_copy; rw [hx_t a1 cth, if_pos c1, fx_f1]; rfl
    · unfold fm_copy; rw [hm_t a1 (show fnd 1 σ 85 26 = nI th from m26), if_pos c1, fm_f1]; rfl
  have d1 : ¬ hsE a1 th = 0 := by rw [c1]; decide
  obtain ⟨k1, k2⟩ := es_kd hE.1 j i1
  have o4 : fx_Estate_isOf N (nI j) 4 σ = some (if kd_un (nv (σ 35 j)) 4 = true then 1 else 0) := kd_isOf (w := 4) (by omega) (by omega) k1 k2 (by decide)
  by_cases q : nv (σ 35 j) = 4
  · have k4 : σ 105 j = 4 := by rw [← r35, k1, q]; rfl
    rcases hE.2.2.1 j with z | z
    · have z' : σ 108 j = 0 := by rw [← r38]; exact z
      refine ⟨1, am_up σ 38 j 1, am_up (am_up σ 38 j 1) 108 j 1, ?_, ?_, ?_, ?_⟩
      · unfold fx_copy
        rw [hx_t a1 cth, if_neg d1, e1, o4, if_pos (kd_4.2 q), hb_bind, if_neg (by decide), hb_g (by omega) (by decide), nI_clamp (by omega), z, if_pos rfl, hb_g (by omega) (by decide)]
      · unfold fm_copy
        rw [hm_t a1 (show (am_up σ 38 j 1) 85 26 = nI th from m26), if_neg d1, e1, hb_g (by omega) (by decide), nI_clamp (by omega), show (am_up σ 38 j 1) 105 j = 4 from k4, if_pos rfl, hb_g (by omega) (by decide), show (am_up σ 38 j 1) 108 j = 0 from z', if_pos rfl, hb_g (by omega) (by decide)]
      · have hE2 : rE n th ti (σ 35) (σ 36) (σ 37) (upd (σ 38) j 1) (σ 39) (σ 40) := by
          refine ⟨hE.1, hE.2.1, fun i => ?_, fun i hi => ?_⟩
          · by_cases z : i = j
            · subst z; rw [hb_us]; exact Or.inr rfl
            · rw [hb_un z]; exact hE.2.2.1 i
          · rw [hb_un (by omega)]; exact hE.2.2.2 i hi
        exact ⟨n, e, p, pe, th, ti, wa, ca, ta, dd, wt, tl, cn, ce, cp, cpe, cth, cti, cwa, cca, cta, cdy, cwt, ctl, f1_11, f1_12, f1_13, f13_7, f22_2, f21_6, f34_6, f34_7, f47_2, f47_3, f48_4, f73_4, f78_4, f0_11, f0_12, f47_0, f47_1, r2, r3, r4, r5, r6, r7, r8, r9, r10, r11, r14, r15, r18, r19, r20, r23, r35, r36, r37, congrArg (fun f => upd f j 1) r38, r39, r40, r49, r50, r74, r75, r76, r77, r79, r80, r84, hM, hL, hP, hE2, hW, (by repeat (first | exact hG | refine rG_up (by decide) ?_)), hC, hT, hD, hX0, hX1, hX2, hK⟩
      · exact h.2
    · have z' : σ 108 j = 1 := by rw [← r38]; exact z
      refine tw3 h ?_ ?_
      · unfold fx_copy
        rw [hx_t a1 cth, if_neg d1, e1, o4, if_pos (kd_4.2 q), hb_bind, if_neg (by decide), hb_g (by omega) (by decide), nI_clamp (by omega), z, if_neg (by decide), fx_f3]; rfl
      · unfold fm_copy
        rw [hm_t a1 (show fnd 3 σ 85 26 = nI th from m26), if_neg d1, e1, hb_g (by omega) (by decide), nI_clamp (by omega), show fnd 3 σ 105 j = 4 from k4, if_pos rfl, hb_g (by omega) (by decide), show fnd 3 σ 108 j = 1 from z', if_neg (by decide), fm_f3]; rfl
  · have k4 : ¬ σ 105 j = 4 := by rw [← r35, k1, hb_L4, nie 4 (by omega) (by decide)]; exact q
    refine tw5 h ?_ ?_
    · unfold fx_copy
      rw [hx_t a1 cth, if_neg d1, e1, o4, if_neg (fun u => q (kd_4.1 u)), hb_bind, if_pos rfl, fx_f5]; rfl
    · unfold fm_copy
      rw [hm_t a1 (show fnd 5 σ 85 26 = nI th from m26), if_neg d1, e1, hb_g (by omega) (by decide), nI_clamp (by omega), if_neg (show ¬ fnd 5 σ 105 j = 4 from k4), fm_f5]; rfl
theorem as_tab {α : Type} {k w : Nat} (A B : α) (hk : k ≤ 6) (hw : w ≤ 6) : (if nI w = 0 then A else if nI k = nI w then A else if nI w = 1 then (if nI k = 2 then A else (if nI w = 3 then (if nI k ≤ 3 then B else A) else B)) else (if nI w = 3 then (if nI k ≤ 3 then B else A) else B)) = if kd_un k w = true then A else B := by
  have h1 : w = 0 ∨ w = 1 ∨ w = 2 ∨ w = 3 ∨ w = 4 ∨ w = 5 ∨ w = 6 := by omega
  have h2 : k = 0 ∨ k = 1 ∨ k = 2 ∨ k = 3 ∨ k = 4 ∨ k = 5 ∨ k = 6 := by omega
  rcases h1 with h1 | h1 | h1 | h1 | h1 | h1 | h1 <;> rcases h2 with h2 | h2 | h2 | h2 | h2 | h2 | h2 <;> (subst h1; subst h2; rfl)
theorem C_as {N : Nat} {σ : am_S} (a1 a2 : Int32) (hN : 20000 ≤ N) (h : R σ) : tw (fx_as N a1 a2) (fm_as a1 a2) σ := by
  obtain ⟨n, e, p, pe, th, ti, wa, ca, ta, dd, wt, tl, cn, ce, cp, cpe, cth, cti, cwa, cca, cta, cdy, cwt, ctl, f1_11, f1_12, f1_13, f13_7, f22_2, f21_6, f34_6, f34_7, f47_2, f47_3, f48_4, f73_4, f78_4, f0_11, f0_12, f47_0, f47_1, r2, r3, r4, r5, r6, r7, r8, r9, r10, r11, r14, r15, r18, r19, r20, r23, r35, r36, r37, r38, r39, r40, r49, r50, r74, r75, r76, r77, r79, r80, r84, hM, hL, hP, hE, hW, hG, hC, hT, hD, hX0, hX1, hX2, hK⟩ := h.1
  have m26 : σ 85 26 = nI th := by rw [← f34_6]; exact cth
  have l := hE.1.1
  rcases hsE_c a1 th (by omega) with c1 | ⟨j, i1, e1, c1⟩
  · refine tw1 h ?_ ?_
    · unfold fx_as fx_as_b18; rw [hx_t a1 cth, if_pos c1, fx_f1]; rfl
    · unfold fm_as fm_as_b18; rw [hm_t a1 (show fnd 1 σ 85 26 = nI th from m26), if_pos c1, fm_f1]; rfl
  have d1 : ¬ hsE a1 th = 0 := by rw [c1]; decide
  have g7 : ∀ τ, fx_Estate_isKind a2 τ = hsE a2 7 := fun _ => rfl
  rcases hsE_c a2 7 (by decide) with c2 | ⟨w, i2, e2, c2⟩
  · refine tw1 h ?_ ?_
    · unfold fx_as fx_as_b18; rw [hx_t a1 cth, if_neg d1, g7, if_pos c2, fx_f1]; rfl
    · have : inE a2 0 6 = 0 := by
        rcases inE_c a2 0 6 with z | ⟨_, z1, z2⟩
        · exact z.1
        · obtain ⟨y, y1, y2⟩ := in_nat (hi := 6) (by decide) z1 z2
          exfalso
          rw [y2] at c2
          unfold hsE at c2
          rw [if_neg (nI_pos (by omega)), if_neg (nI_ge (by omega) (by omega))] at c2
          exact absurd c2 (by decide)
      unfold fm_as fm_as_b18; rw [hm_t a1 (show fnd 1 σ 85 26 = nI th from m26), if_neg d1, in_m, if_pos this, fm_f1]; rfl
  have d2 : ¬ hsE a2 7 = 0 := by rw [c2]; decide
  have d3 : ¬ inE a2 0 6 = 0 := by
    rw [e2]; unfold inE
    rw [if_neg (nI_pos (by omega)), if_neg (by rw [hb_L6]; exact nI_nlt (by omega) (by omega))]; decide
  obtain ⟨k1, k2⟩ := es_kd hE.1 j i1
  have o4 : fx_Estate_isOf N (nI j) (nI w) σ = some (if kd_un (nv (σ 35 j)) w = true then 1 else 0) := kd_isOf (by omega) (by omega) k1 k2 (by omega)
  have km : ∀ τ : am_S, τ 105 = σ 105 → τ 106 = σ 106 → τ 85 26 = nI th → fm_as a1 a2 τ = if kd_un (nv (σ 35 j)) w = true then some (σ 37 j, τ) else (fm_finding 5 τ) := by
    intro τ t1 t2 t3
    have kk : τ 105 j = nI (nv (σ 35 j)) := by rw [t1, ← r35]; exact k1
    have vv : τ 106 j = σ 37 j := by rw [t2, ← r37]
    unfold fm_as fm_as_b53 fm_as_b68 fm_as_b72 fm_as_b73
    rw [hm_t a1 t3, if_neg d1, in_m, if_neg d3, e1, e2]
    simp only [hb_g (show j < 24 by omega) (by decide), nI_clamp (show j < 2 ^ 31 by omega), kk, vv]
    generalize nv (σ 35 j) = k at *
    have fb : ∀ y : Option (Int32 × am_S), (y.bind fun q2 => some (q2.1, q2.2)) = y := by intro y; cases y <;> rfl
    rw [fb]
    rw [if_neg (show ¬ (1 : Int32) = 0 by decide), if_pos trivial]
    exact as_tab _ _ k2 (by omega)
  by_cases q : kd_un (nv (σ 35 j)) w = true
  · refine tw_a (v := σ 37 j) σ σ h (sc_refl σ) (sc_refl σ) ?_ ?_
    · unfold fx_as
      rw [hx_t a1 cth, if_neg d1, g7, if_neg d2, e1, e2, o4, if_pos q, hb_bind, if_neg (by decide), hb_g (by omega) (by decide), nI_clamp (by omega)]
    · rw [km σ rfl rfl m26, if_pos q]
  · refine tw5 h ?_ ?_
    · unfold fx_as
      rw [hx_t a1 cth, if_neg d1, g7, if_neg d2, e1, e2, o4, if_neg q, hb_bind, if_pos rfl, fx_f5]; rfl
    · rw [km (fnd 5 σ) rfl rfl m26, if_neg q, fm_f5]
theorem C_tie {N : Nat} {σ : am_S} (a1 a2 : Int32) (hN : 20000 ≤ N) (h : R σ) : tw (fx_tie N a1 a2) (fm_tie a1 a2) σ := by
  obtain ⟨n, e, p, pe, th, ti, wa, ca, ta, dd, wt, tl, cn, ce, cp, cpe, cth, cti, cwa, cca, cta, cdy, cwt, ctl, f1_11, f1_12, f1_13, f13_7, f22_2, f21_6, f34_6, f34_7, f47_2, f47_3, f48_4, f73_4, f78_4, f0_11, f0_12, f47_0, f47_1, r2, r3, r4, r5, r6, r7, r8, r9, r10, r11, r14, r15, r18, r19, r20, r23, r35, r36, r37, r38, r39, r40, r49, r50, r74, r75, r76, r77, r79, r80, r84, hM, hL, hP, hE, hW, hG, hC, hT, hD, hX0, hX1, hX2, hK⟩ := h.1
  have m26 : σ 85 26 = nI th := by rw [← f34_6]; exact cth
  have m31 : σ 85 31 = nI ti := by rw [← f34_7]; exact cti
  have l := hE.1.1
  have l2 := hE.1.2.1
  rcases hsE_c a1 th (by omega) with c1 | ⟨j1, i1, e1, c1⟩
  · refine tw1 h ?_ ?_
    · unfold fx_tie fx_tie_b27; rw [hx_t a1 cth, if_pos c1, fx_f1]; rfl
    · unfold fm_tie fm_tie_b21; rw [hm_t a1 (show fnd 1 σ 85 26 = nI th from m26), if_pos c1, fm_f1]; rfl
  have d1 : ¬ hsE a1 th = 0 := by rw [c1]; decide
  rcases hsE_c a2 th (by omega) with c2 | ⟨j2, i2, e2, c2⟩
  · refine tw1 h ?_ ?_
    · unfold fx_tie fx_tie_b27; rw [hx_t a1 cth, if_neg d1, hx_t a2 cth, if_pos c2, fx_f1]; rfl
    · unfold fm_tie fm_tie_b21; rw [hm_t a1 (show fnd 1 σ 85 26 = nI th from m26), if_neg d1, hm_t a2 (show fnd 1 σ 85 26 = nI th from m26), if_pos c2, fm_f1]; rfl
  have d2 : ¬ hsE a2 th = 0 := by rw [c2]; decide
  by_cases c3 : a1 = a2
  · refine tw1 h ?_ ?_
    · unfold fx_tie fx_tie_b27; rw [hx_t a1 cth, if_neg d1, hx_t a2 cth, if_neg d2, if_pos c3, fx_f1]; rfl
    · unfold fm_tie fm_tie_b21; rw [hm_t a1 (show fnd 1 σ 85 26 = nI th from m26), if_neg d1, hm_t a2 (show fnd 1 σ 85 26 = nI th from m26), if_neg d2, if_pos c3, fm_f1]; rfl
  obtain ⟨k1, k2⟩ := es_kd hE.1 j1 i1
  obtain ⟨k3, k4⟩ := es_kd hE.1 j2 i2
  have o1 : fx_Estate_isOf N (nI j1) 3 σ = some (if kd_un (nv (σ 35 j1)) 3 = true then 1 else 0) := kd_isOf (w := 3) (by omega) (by omega) k1 k2 (by decide)
  have o2 : fx_Estate_isOf N (nI j2) 3 σ = some (if kd_un (nv (σ 35 j2)) 3 = true then 1 else 0) := kd_isOf (w := 3) (by omega) (by omega) k3 k4 (by decide)
  have mv : ∀ (j : Nat) (τ : am_S), j < th → τ 105 = σ 105 → fm_isMoved (τ 105 j) τ = if 3 ≤ nv (σ 35 j) then 1 else 0 := by
    intro j τ hj t1
    obtain ⟨k1, k2⟩ := es_kd hE.1 j hj
    unfold fm_isMoved
    rw [t1, ← r35, k1]
    by_cases z : 3 ≤ nv (σ 35 j)
    · rw [if_neg (by rw [hb_L3]; exact nI_nlt (by have : nv (nI (nv (σ 35 j))) = nv (σ 35 j) := nI_clamp (by omega); omega) (by omega)), if_pos (by have : nv (nI (nv (σ 35 j))) = nv (σ 35 j) := nI_clamp (by omega); omega)]
    · rw [if_pos (by rw [hb_L3]; exact nI_lt (by omega) (by decide)), if_neg (by have : nv (nI (nv (σ 35 j))) = nv (σ 35 j) := nI_clamp (by omega); omega)]
  by_cases q1 : 3 ≤ nv (σ 35 j1)
  · by_cases q2 : 3 ≤ nv (σ 35 j2)
    · by_cases q : ti < 12
      · have S1 : am_S := σ
        refine ⟨nI (ti + 1), am_up (am_up (am_up (am_up σ 41 5 0) 39 ti a1) 40 ti a2) 34 7 (nI (ti + 1)), am_up (am_up (am_up (am_up (am_up (am_up (am_up σ 41 5 0) 39 ti a1) 40 ti a2) 34 7 (nI (ti + 1))) 109 ti a1) 110 ti a2) 85 31 (nI (ti + 1)), ?_, ?_, ?_, ?_⟩
        · unfold fx_tie fx_Parting_forgetAll fx_Estate_addTie
          rw [hx_t a1 cth, if_neg d1, hx_t a2 cth, if_neg d2, if_neg c3, e1, o1, if_pos (kd_3.2 q1), hb_bind, if_neg (by decide), e2, o2, if_pos (kd_3.2 q2), hb_bind, if_neg (by decide), cti, if_pos (by rw [hb_L12]; exact nI_lt q (by decide)), hb_bind, show (am_up σ 41 5 0) 34 7 = nI ti from cti, hb_g q (by decide), hb_g q (by decide), hb_bind, nI_clamp (by omega), nI_1]
        · have z1 : (am_up (am_up (am_up (am_up σ 41 5 0) 39 ti a1) 40 ti a2) 34 7 (nI (ti + 1))) 85 26 = nI th := m26
          have z2 : (am_up (am_up (am_up (am_up σ 41 5 0) 39 ti a1) 40 ti a2) 34 7 (nI (ti + 1))) 85 31 = nI ti := m31
          have z3 := mv j1 (am_up (am_up (am_up (am_up σ 41 5 0) 39 ti a1) 40 ti a2) 34 7 (nI (ti + 1))) i1 rfl
          have z4 := mv j2 (am_up (am_up (am_up (am_up σ 41 5 0) 39 ti a1) 40 ti a2) 34 7 (nI (ti + 1))) i2 rfl
          unfold fm_tie
          rw [hm_t a1 z1, if_neg d1, hm_t a2 z1, if_neg d2, if_neg c3]
          generalize hτ : am_up (am_up (am_up (am_up σ 41 5 0) 39 ti a1) 40 ti a2) 34 7 (nI (ti + 1)) = τ at *
          rw [e1, hb_g (by omega) (by decide), nI_clamp (by omega), z3, if_pos q1, if_neg (by decide), e2, hb_g (by omega) (by decide), nI_clamp (by omega), z4, if_pos q2, if_neg (by decide), z2, if_neg (by rw [hb_L12, nI_eq (by omega) (by decide)]; omega), hb_g q (by decide), hb_g q (by decide), nI_clamp (by omega), nI_1]
        · subst e1; subst e2
          have hE2 : rE n th (ti + 1) (σ 35) (σ 36) (σ 37) (σ 38) (upd (σ 39) ti (nI j1)) (upd (σ 40) ti (nI j2)) := by
            refine ⟨⟨hE.1.1, by omega, hE.1.2.2.1, hE.1.2.2.2.1, fun k hk => ?_⟩, hE.2⟩
            by_cases z : k = ti
            · subst z; rw [hb_us, hb_us]; exact ⟨⟨j1, i1, rfl⟩, ⟨j2, i2, rfl⟩⟩
            · rw [hb_un z, hb_un z]; exact hE.1.2.2.2.2 k (by omega)
          exact ⟨n, e, p, pe, th, ti + 1, wa, ca, ta, dd, wt, tl, cn, ce, cp, cpe, cth, rfl, cwa, cca, cta, cdy, cwt, ctl, f1_11, f1_12, f1_13, f13_7, f22_2, f21_6, f34_6, rfl, f47_2, f47_3, f48_4, f73_4, f78_4, f0_11, f0_12, f47_0, f47_1, r2, r3, r4, r5, r6, r7, r8, r9, r10, r11, r14, r15, r18, r19, r20, r23, r35, r36, r37, r38, congrArg (fun f => upd f ti (nI j1)) r39, congrArg (fun f => upd f ti (nI j2)) r40, r49, r50, r74, r75, r76, r77, r79, r80, r84, hM, hL, hP, hE2, hW, (by repeat (first | exact hG | refine rG_up (by decide) ?_)), hC, hT, hD, hX0, hX1, hX2, Or.inl rfl⟩
        · exact h.2
      · refine tw4 h ?_ ?_
        · unfold fx_tie
          rw [hx_t a1 cth, if_neg d1, hx_t a2 cth, if_neg d2, if_neg c3, e1, o1, if_pos (kd_3.2 q1), hb_bind, if_neg (by decide), e2, o2, if_pos (kd_3.2 q2), hb_bind, if_neg (by decide), cti, if_neg (by rw [hb_L12]; exact nI_nlt (by omega) (by omega)), fx_f4]; rfl
        · unfold fm_tie
          rw [hm_t a1 (show fnd 4 σ 85 26 = nI th from m26), if_neg d1, hm_t a2 (show fnd 4 σ 85 26 = nI th from m26), if_neg d2, if_neg c3, e1, hb_g (by omega) (by decide), nI_clamp (by omega), mv j1 (fnd 4 σ) i1 rfl, if_pos q1, if_neg (by decide), e2, hb_g (by omega) (by decide), nI_clamp (by omega), mv j2 (fnd 4 σ) i2 rfl, if_pos q2, if_neg (by decide), show fnd 4 σ 85 31 = nI ti from m31, if_pos (by rw [hb_L12, nI_eq (by omega) (by decide)]; omega), fm_f4]; rfl
    · refine tw5 h ?_ ?_
      · unfold fx_tie fx_tie_b58
        rw [hx_t a1 cth, if_neg d1, hx_t a2 cth, if_neg d2, if_neg c3, e1, o1, if_pos (kd_3.2 q1), hb_bind, if_neg (by decide), e2, o2, if_neg (fun u => q2 (kd_3.1 u)), hb_bind, if_pos rfl, fx_f5]; rfl
      · unfold fm_tie fm_tie_b51
        rw [hm_t a1 (show fnd 5 σ 85 26 = nI th from m26), if_neg d1, hm_t a2 (show fnd 5 σ 85 26 = nI th from m26), if_neg d2, if_neg c3, e1, hb_g (by omega) (by decide), nI_clamp (by omega), mv j1 (fnd 5 σ) i1 rfl, if_pos q1, if_neg (by decide), e2, hb_g (by omega) (by decide), nI_clamp (by omega), mv j2 (fnd 5 σ) i2 rfl, if_neg q2, if_pos rfl, fm_f5]; rfl
  · refine tw5 h ?_ ?_
    · unfold fx_tie fx_tie_b58
      rw [hx_t a1 cth, if_neg d1, hx_t a2 cth, if_neg d2, if_neg c3, e1, o1, if_neg (fun u => q1 (kd_3.1 u)), hb_bind, if_pos rfl, fx_f5]; rfl
    · unfold fm_tie fm_tie_b51
      rw [hm_t a1 (show fnd 5 σ 85 26 = nI th from m26), if_neg d1, hm_t a2 (show fnd 5 σ 85 26 = nI th from m26), if_neg d2, if_neg c3, e1, hb_g (by omega) (by decide), nI_clamp (by omega), mv j1 (fnd 5 σ) i1 rfl, if_neg q1, if_pos rfl, fm_f5]; rfl

