theorem rL_p {n e p : Nat} {st se A B Dd py : Nat → Int32} {y : Int32} (h : rL n e p st se A B Dd py) (hp : p < 8) (hy : okc y 99) (hr : p = 0 ∨ py (p - 1) < y) : rL n e (p + 1) st se A B Dd (upd py p y) := by
  obtain ⟨a1, a2, a3, a4, a5, a6, a7, a8⟩ := h
  refine ⟨a1, a2, by omega, a4, a5, a6, fun i hi => ?_, fun i hi => ?_⟩
  · by_cases q : i = p
    · subst q; rw [hb_us]; exact hy
    · rw [hb_un q]; exact a7 i (by omega)
  · by_cases q : i + 1 = p
    · have e0 : i = p - 1 := by omega
      obtain ⟨a, b1, b2⟩ := a7 i (by omega)
      obtain ⟨b, b3, b4⟩ := hy
      have lt := hr.resolve_left (by omega)
      rw [← e0, b2, b4] at lt
      refine ⟨a, b, ?_, ?_, ?_, b3⟩
      · rw [hb_un (by omega)]; exact b2
      · rw [q, hb_us]; exact b4
      · rw [nI_ltI (by omega) (by omega)] at lt; exact lt
    · rw [hb_un (by omega), hb_un (by omega)]
      exact a8 i (by omega)
theorem C_peg {σ : am_S} (a1 a2 : Int32) (h : R σ) : tw (fx_peg a1 a2) (fm_peg a1 a2) σ := by
  have g1 : ∀ x τ, fx_Land_isOnMap x τ = inE x 0 99 := fun _ _ => rfl
  rcases inE_c a1 0 99 with ⟨c1, _⟩ | ⟨c1, _, _⟩
  · refine tw1 h ?_ ?_
    · unfold fx_peg fx_peg_b25; rw [g1, if_pos c1, fx_f1]; rfl
    · unfold fm_peg fm_peg_b42; rw [in_m, if_pos c1, fm_f1]; rfl
  have d1 : ¬ inE a1 0 99 = 0 := by rw [c1]; decide
  rcases inE_c a2 0 99 with ⟨c2, _⟩ | ⟨c2, k1, k2⟩
  · refine tw1 h ?_ ?_
    · unfold fx_peg fx_peg_b25; rw [g1, if_neg d1, g1, if_pos c2, fx_f1]; rfl
    · unfold fm_peg fm_peg_b42; rw [in_m, if_neg d1, in_m, if_pos c2, fm_f1]; rfl
  have d2 : ¬ inE a2 0 99 = 0 := by rw [c2]; decide
  obtain ⟨n, e, p, pe, th, ti, wa, ca, ta, dd, wt, tl, cn, ce, cp, cpe, cth, cti, cwa, cca, cta, cdy, cwt, ctl, f1_11, f1_12, f1_13, f13_7, f22_2, f21_6, f34_6, f34_7, f47_2, f47_3, f48_4, f73_4, f78_4, f0_11, f0_12, f47_0, f47_1, r2, r3, r4, r5, r6, r7, r8, r9, r10, r11, r14, r15, r18, r19, r20, r23, r35, r36, r37, r38, r39, r40, r49, r50, r74, r75, r76, r77, r79, r80, r84, hM, hL, hP, hE, hW, hG, hC, hT, hD, hX0, hX1, hX2, hK⟩ := h.1
  have m10 : σ 85 10 = nI p := by rw [← f1_13]; exact cp
  have l3 := hL.2.2.1
  have ok : okc a2 99 := in_nat (by decide) k1 k2
  by_cases q3 : p = 0 ∨ σ 11 (p - 1) < a2
  · have xa : fx_Land_isAbovePegs a2 σ = some 1 := by
      unfold fx_Land_isAbovePegs fx_Land_isAbovePegs_b22
      rw [cp]
      rcases q3 with z | z
      · rw [z, if_pos (show nI 0 = (0 : Int32) from rfl)]
      · by_cases z0 : p = 0
        · rw [z0, if_pos (show nI 0 = (0 : Int32) from rfl)]
        · rw [if_neg (nI_ne0 (by omega) (by omega)), hb_L1, pk_sub (by omega), hb_g (by omega) (by decide), nI_clamp (by omega), if_neg (by rw [ng]; exact fun u => u z)]
    have xm : ∀ τ : am_S, τ 85 10 = nI p → τ 94 = σ 94 → fm_peg a1 a2 τ = fm_peg_b48 a1 a2 τ := by
      intro τ t1 t2
      unfold fm_peg
      rw [in_m, if_neg d1, in_m, if_neg d2, t1]
      by_cases z0 : p = 0
      · rw [z0, if_pos (by decide)]
      · have z := q3.resolve_left z0
        rw [if_neg (nI_nle (by omega) (by omega)), hb_L1, pk_sub (by omega), hb_g (by omega) (by decide), nI_clamp (by omega), t2, ← r11, if_pos z]
    by_cases q : p < 8
    · refine ⟨nI (p + 1), am_up (am_up (am_up σ 10 p a1) 11 p a2) 1 13 (nI (p + 1)), am_up (am_up (am_up (am_up (am_up (am_up σ 10 p a1) 11 p a2) 1 13 (nI (p + 1))) 93 p a1) 94 p a2) 85 10 (nI (p + 1)), ?_, ?_, ?_, ?_⟩
      · unfold fx_peg fx_Land_addPeg
        rw [g1, if_neg d1, g1, if_neg d2, xa, hb_bind, if_neg (by decide), cp, if_pos (by rw [hb_L8]; exact nI_lt q (by decide)), hb_g q (by decide), hb_g q (by decide), hb_bind, nI_clamp (by omega), nI_1]
      · have z1 : (am_up (am_up (am_up σ 10 p a1) 11 p a2) 1 13 (nI (p + 1))) 85 10 = nI p := m10
        rw [xm _ z1 rfl]
        unfold fm_peg_b48
        rw [z1, if_neg (by rw [hb_L8, nI_eq (by omega) (by decide)]; omega), hb_g q (by decide), hb_g q (by decide), nI_clamp (by omega), nI_1]
      · exact ⟨n, e, p + 1, pe, th, ti, wa, ca, ta, dd, wt, tl, cn, ce, rfl, cpe, cth, cti, cwa, cca, cta, cdy, cwt, ctl, f1_11, f1_12, rfl, f13_7, f22_2, f21_6, f34_6, f34_7, f47_2, f47_3, f48_4, f73_4, f78_4, f0_11, f0_12, f47_0, f47_1, r2, r3, r4, r5, r6, r7, r8, r9, congrArg (fun f => upd f p a1) r10, congrArg (fun f => upd f p a2) r11, r14, r15, r18, r19, r20, r23, r35, r36, r37, r38, r39, r40, r49, r50, r74, r75, r76, r77, r79, r80, r84, hM, rL_p hL q ok q3, hP, hE, hW, (by repeat (first | exact hG | refine rG_up (by decide) ?_)), hC, hT, hD, hX0, hX1, hX2, hK⟩
      · exact h.2
    · refine tw4 h ?_ ?_
      · unfold fx_peg
        rw [g1, if_neg d1, g1, if_neg d2, xa, hb_bind, if_neg (by decide), cp, if_neg (by rw [hb_L8]; exact nI_nlt (by omega) (by omega)), fx_f4]; rfl
      · have z1 : fnd 4 σ 85 10 = nI p := m10
        rw [xm _ z1 rfl]
        unfold fm_peg_b48
        rw [z1, if_pos (by rw [hb_L8, nI_eq (by omega) (by decide)]; omega), fm_f4]; rfl
  · have z0 : p ≠ 0 := fun z => q3 (Or.inl z)
    have z : ¬ σ 11 (p - 1) < a2 := fun z => q3 (Or.inr z)
    refine tw1 h ?_ ?_
    · unfold fx_peg fx_peg_b25 fx_Land_isAbovePegs
      rw [g1, if_neg d1, g1, if_neg d2, cp, if_neg (nI_ne0 (by omega) (by omega)), hb_L1, pk_sub (by omega), hb_g (by omega) (by decide), nI_clamp (by omega), if_pos (ng.2 z), hb_bind, if_pos rfl, fx_f1]; rfl
    · have z1 : fnd 1 σ 85 10 = nI p := m10
      have z2 : fnd 1 σ 94 = σ 94 := rfl
      unfold fm_peg fm_peg_b42
      rw [in_m, if_neg d1, in_m, if_neg d2, z1, if_neg (nI_nle (by omega) (by omega)), hb_L1, pk_sub (by omega), hb_g (by omega) (by decide), nI_clamp (by omega), z2, ← r11, if_neg z]
      exact congrArg (fun x => x.bind fun q1 => some (q1.1, q1.2)) (fm_f1 _)
theorem rP_add {n pe a b : Nat} {bi ho fm sm ch hd : Nat → Int32} (h : rP n pe bi ho fm sm ch hd) (hp : pe < 16) (ha : a < n) (hb : b < n) : rP n (pe + 1) (upd bi pe (nI a)) (upd ho pe (nI b)) fm sm (upd ch pe (-1)) hd := by
  obtain ⟨a1, a2, a3⟩ := h
  refine ⟨by omega, fun i hi => ?_, a3⟩
  by_cases q : i = pe
  · subst q
    rw [hb_us, hb_us, hb_us]
    exact ⟨⟨a, ha, rfl⟩, ⟨b, hb, rfl⟩, Or.inl rfl⟩
  · rw [hb_un q, hb_un q, hb_un q]
    exact a2 i (by omega)
theorem rCa_pe {n pe th ca : Nat} {co ps pp K : Nat → Int32} (h : rCa n pe th ca co ps pp K) : rCa n (pe + 1) th ca co ps pp K := by
  obtain ⟨a1, a2⟩ := h
  refine ⟨a1, fun i hi => ?_⟩
  obtain ⟨b1, ⟨a, b2, b3⟩, b4⟩ := a2 i hi
  exact ⟨b1, ⟨a, by omega, b3⟩, b4⟩
theorem C_person {σ : am_S} (a1 a2 : Int32) (h : R σ) : tw (fx_person a1 a2) (fm_person a1 a2) σ := by
  obtain ⟨n, e, p, pe, th, ti, wa, ca, ta, dd, wt, tl, cn, ce, cp, cpe, cth, cti, cwa, cca, cta, cdy, cwt, ctl, f1_11, f1_12, f1_13, f13_7, f22_2, f21_6, f34_6, f34_7, f47_2, f47_3, f48_4, f73_4, f78_4, f0_11, f0_12, f47_0, f47_1, r2, r3, r4, r5, r6, r7, r8, r9, r10, r11, r14, r15, r18, r19, r20, r23, r35, r36, r37, r38, r39, r40, r49, r50, r74, r75, r76, r77, r79, r80, r84, hM, hL, hP, hE, hW, hG, hC, hT, hD, hX0, hX1, hX2, hK⟩ := h.1
  have m1 : σ 85 1 = nI n := by rw [← f1_11]; exact cn
  have m14 : σ 85 14 = nI pe := by rw [← f13_7]; exact cpe
  have l1 := hL.1
  have l2 := hP.1
  rcases hsE_c a1 n (by omega) with c1 | ⟨j1, i1, e1, c1⟩
  · refine tw1 h ?_ ?_
    · unfold fx_person fx_person_b22; rw [hx_p a1 cn, if_pos c1, fx_f1]; rfl
    · unfold fm_person fm_person_b16; rw [hm_p a1 (show fnd 1 σ 85 1 = nI n from m1), if_pos c1, fm_f1]; rfl
  have d1 : ¬ hsE a1 n = 0 := by rw [c1]; decide
  rcases hsE_c a2 n (by omega) with c2 | ⟨j2, i2, e2, c2⟩
  · refine tw1 h ?_ ?_
    · unfold fx_person fx_person_b22; rw [hx_p a1 cn, if_neg d1, hx_p a2 cn, if_pos c2, fx_f1]; rfl
    · unfold fm_person fm_person_b16; rw [hm_p a1 (show fnd 1 σ 85 1 = nI n from m1), if_neg d1, hm_p a2 (show fnd 1 σ 85 1 = nI n from m1), if_pos c2, fm_f1]; rfl
  have d2 : ¬ hsE a2 n = 0 := by rw [c2]; decide
  by_cases q : pe < 16
  · refine ⟨nI pe, am_up (am_up (am_up (am_up σ 14 pe a1) 15 pe a2) 18 pe (-1)) 13 7 (nI (pe + 1)), am_up (am_up (am_up (am_up (am_up (am_up (am_up (am_up σ 14 pe a1) 15 pe a2) 18 pe (-1)) 13 7 (nI (pe + 1))) 96 pe a1) 97 pe a2) 99 pe (-1)) 85 14 (nI (pe + 1)), ?_, ?_, ?_, ?_⟩
    · unfold fx_person fx_People_addPerson
      rw [hx_p a1 cn, if_neg d1, hx_p a2 cn, if_neg d2, cpe, if_pos (by rw [hb_L16]; exact nI_lt q (by decide)), hb_g q (by decide), hb_g q (by decide), hb_g q (by decide), hb_bind, nI_clamp (by omega), nI_1, nI_pred]
    · have z1 : (am_up (am_up (am_up (am_up σ 14 pe a1) 15 pe a2) 18 pe (-1)) 13 7 (nI (pe + 1))) 85 1 = nI n := m1
      have z2 : (am_up (am_up (am_up (am_up σ 14 pe a1) 15 pe a2) 18 pe (-1)) 13 7 (nI (pe + 1))) 85 14 = nI pe := m14
      unfold fm_person
      rw [hm_p a1 z1, if_neg d1, hm_p a2 z1, if_neg d2, z2, if_neg (by rw [hb_L16, nI_eq (by omega) (by decide)]; omega), hb_g q (by decide), hb_g q (by decide), hb_g q (by decide), nI_clamp (by omega), nI_1, nI_pred]
    · subst e1; subst e2
      exact ⟨n, e, p, pe + 1, th, ti, wa, ca, ta, dd, wt, tl, cn, ce, cp, rfl, cth, cti, cwa, cca, cta, cdy, cwt, ctl, f1_11, f1_12, f1_13, rfl, f22_2, f21_6, f34_6, f34_7, f47_2, f47_3, f48_4, f73_4, f78_4, f0_11, f0_12, f47_0, f47_1, r2, r3, r4, r5, r6, r7, r8, r9, r10, r11, congrArg (fun f => upd f pe (nI j1)) r14, congrArg (fun f => upd f pe (nI j2)) r15, congrArg (fun f => upd f pe (-1)) r18, r19, r20, r23, r35, r36, r37, r38, r39, r40, r49, r50, r74, r75, r76, r77, r79, r80, r84, hM, hL, rP_add hP q i1 i2, hE, hW, (by repeat (first | exact hG | refine rG_up (by decide) ?_)), rCa_pe hC, hT, hD, hX0, hX1, hX2, hK⟩
    · exact h.2
  · refine tw4 h ?_ ?_
    · unfold fx_person
      rw [hx_p a1 cn, if_neg d1, hx_p a2 cn, if_neg d2, cpe, if_neg (by rw [hb_L16]; exact nI_nlt (by omega) (by omega)), fx_f4]; rfl
    · have z1 : fnd 4 σ 85 1 = nI n := m1
      have z2 : fnd 4 σ 85 14 = nI pe := m14
      unfold fm_person
      rw [hm_p a1 z1, if_neg d1, hm_p a2 z1, if_neg d2, z2, if_pos (by rw [hb_L16, nI_eq (by omega) (by decide)]; omega), fm_f4]; rfl

