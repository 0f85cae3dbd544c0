theorem C_move {σ : am_S} (a1 a2 : Int32) (h : R σ) : tw (fx_move a1 a2) (fm_move a1 a2) σ := by
  obtain ⟨n, e, p, pe, th, ti, wa, ca, ta, dd, wt, tl, cn, ce, cp, cpe, cth, cti, cwa, cca, cta, cdy, cwt, ctl, f1_11, f1_12, f1_13, f13_7, f22_2, f21_6, f34_6, f34_7, f47_2, f47_3, f48_4, f73_4, f78_4, f0_11, f0_12, f47_0, f47_1, r2, r3, r4, r5, r6, r7, r8, r9, r10, r11, r14, r15, r18, r19, r20, r23, r35, r36, r37, r38, r39, r40, r49, r50, r74, r75, r76, r77, r79, r80, r84, hM, hL, hP, hE, hW, hG, hC, hT, hD, hX0, hX1, hX2, hK⟩ := h.1
  have m1 : σ 85 1 = nI n := by rw [← f1_11]; exact cn
  have m14 : σ 85 14 = nI pe := by rw [← f13_7]; exact cpe
  have l1 := hL.1
  have l2 := hP.1
  rcases hsE_c a1 pe (by omega) with c1 | ⟨j1, i1, e1, c1⟩
  · refine tw1 h ?_ ?_
    · unfold fx_move fx_move_b22; rw [hx_q a1 cpe, if_pos c1, fx_f1]; rfl
    · unfold fm_move fm_move_b16; rw [hm_q a1 (show fnd 1 σ 85 14 = nI pe from m14), if_pos c1, fm_f1]; rfl
  have d1 : ¬ hsE a1 pe = 0 := by rw [c1]; decide
  rcases hsE_c a2 n (by omega) with c2 | ⟨j2, i2, e2, c2⟩
  · refine tw1 h ?_ ?_
    · unfold fx_move fx_move_b22; rw [hx_q a1 cpe, if_neg d1, hx_p a2 cn, if_pos c2, fx_f1]; rfl
    · unfold fm_move fm_move_b16; rw [hm_q a1 (show fnd 1 σ 85 14 = nI pe from m14), if_neg d1, hm_p a2 (show fnd 1 σ 85 1 = nI n from m1), if_pos c2, fm_f1]; rfl
  have d2 : ¬ hsE a2 n = 0 := by rw [c2]; decide
  refine ⟨σ 15 j1, am_up σ 15 j1 a2, am_up (am_up σ 15 j1 a2) 97 j1 a2, ?_, ?_, ?_, ?_⟩
  · unfold fx_move
    rw [hx_q a1 cpe, if_neg d1, hx_p a2 cn, if_neg d2, e1, hb_g (by omega) (by decide), hb_g (by omega) (by decide), nI_clamp (by omega)]
  · unfold fm_move
    rw [hm_q a1 (show (am_up σ 15 j1 a2) 85 14 = nI pe from m14), if_neg d1, hm_p a2 (show (am_up σ 15 j1 a2) 85 1 = nI n from m1), if_neg d2, e1, hb_g (by omega) (by decide), hb_g (by omega) (by decide), nI_clamp (by omega), r15]
    rfl
  · subst e2
    have hP2 : rP n pe (σ 14) (upd (σ 15) j1 (nI j2)) (σ 16) (σ 17) (σ 18) (σ 20) := by
      refine ⟨hP.1, fun i hi => ?_, hP.2.2⟩
      obtain ⟨b1, b2, b3⟩ := hP.2.1 i hi
      refine ⟨b1, ?_, b3⟩
      by_cases q : i = j1
      · subst q; rw [hb_us]; exact ⟨j2, i2, rfl⟩
      · rw [hb_un q]; exact b2
    exact ⟨n, e, p, pe, th, ti, wa, ca, ta, dd, wt, tl, cn, ce, cp, cpe, cth, cti, cwa, cca, cta, cdy, cwt, ctl, f1_11, f1_12, f1_13, f13_7, f22_2, f21_6, f34_6, f34_7, f47_2, f47_3, f48_4, f73_4, f78_4, f0_11, f0_12, f47_0, f47_1, r2, r3, r4, r5, r6, r7, r8, r9, r10, r11, r14, congrArg (fun f => upd f j1 (nI j2)) r15, r18, r19, r20, r23, r35, r36, r37, r38, r39, r40, r49, r50, r74, r75, r76, r77, r79, r80, r84, hM, hL, hP2, hE, hW, (by repeat (first | exact hG | refine rG_up (by decide) ?_)), hC, hT, hD, hX0, hX1, hX2, hK⟩
  · exact h.2
theorem C_work {σ : am_S} (a1 a2 a3 : Int32) (h : R σ) : tw (fx_work a1 a2 a3) (fm_work a1 a2 a3) σ := by
  have g1 : ∀ x τ, fx_People_areMonths x τ = inE x 0 600 := fun _ _ => rfl
  obtain ⟨n, e, p, pe, th, ti, wa, ca, ta, dd, wt, tl, cn, ce, cp, cpe, cth, cti, cwa, cca, cta, cdy, cwt, ctl, f1_11, f1_12, f1_13, f13_7, f22_2, f21_6, f34_6, f34_7, f47_2, f47_3, f48_4, f73_4, f78_4, f0_11, f0_12, f47_0, f47_1, r2, r3, r4, r5, r6, r7, r8, r9, r10, r11, r14, r15, r18, r19, r20, r23, r35, r36, r37, r38, r39, r40, r49, r50, r74, r75, r76, r77, r79, r80, r84, hM, hL, hP, hE, hW, hG, hC, hT, hD, hX0, hX1, hX2, hK⟩ := h.1
  have m14 : σ 85 14 = nI pe := by rw [← f13_7]; exact cpe
  have l2 := hP.1
  rcases hsE_c a1 pe (by omega) with c1 | ⟨j1, i1, e1, c1⟩
  · refine tw1 h ?_ ?_
    · unfold fx_work fx_work_b25; rw [hx_q a1 cpe, if_pos c1, fx_f1]; rfl
    · unfold fm_work fm_work_b30; rw [hm_q a1 (show fnd 1 σ 85 14 = nI pe from m14), if_pos c1, fm_f1]; rfl
  have d1 : ¬ hsE a1 pe = 0 := by rw [c1]; decide
  rcases inE_c a2 0 600 with ⟨c2, _⟩ | ⟨c2, k1, k2⟩
  · refine tw1 h ?_ ?_
    · unfold fx_work fx_work_b25; rw [hx_q a1 cpe, if_neg d1, g1, if_pos c2, fx_f1]; rfl
    · unfold fm_work fm_work_b30; rw [hm_q a1 (show fnd 1 σ 85 14 = nI pe from m14), if_neg d1, in_m, if_pos c2, fm_f1]; rfl
  have d2 : ¬ inE a2 0 600 = 0 := by rw [c2]; decide
  rcases inE_c a3 0 600 with ⟨c3, _⟩ | ⟨c3, k3, k4⟩
  · refine tw1 h ?_ ?_
    · unfold fx_work fx_work_b25; rw [hx_q a1 cpe, if_neg d1, g1, if_neg d2, g1, if_pos c3, fx_f1]; rfl
    · unfold fm_work fm_work_b30; rw [hm_q a1 (show fnd 1 σ 85 14 = nI pe from m14), if_neg d1, in_m, if_neg d2, in_m, if_pos c3, fm_f1]; rfl
  have d3 : ¬ inE a3 0 600 = 0 := by rw [c3]; decide
  refine ⟨1, am_up (am_up σ 16 j1 a2) 17 j1 a3, am_up (am_up (am_up (am_up σ 16 j1 a2) 17 j1 a3) 98 (2 * j1) a2) 98 (2 * j1 + 1) a3, ?_, ?_, ?_, ?_⟩
  · unfold fx_work
    rw [hx_q a1 cpe, if_neg d1, g1, if_neg d2, g1, if_neg d3, e1, hb_g (by omega) (by decide), hb_g (by omega) (by decide), nI_clamp (by omega)]
  · unfold fm_work
    rw [hm_q a1 (show (am_up (am_up σ 16 j1 a2) 17 j1 a3) 85 14 = nI pe from m14), if_neg d1, in_m, if_neg d2, in_m, if_neg d3, e1, hb_L2, pk_mul, hb_L1, nI_add, hb_g (by omega) (by decide), hb_g (by omega) (by decide), nI_clamp (by omega), nI_clamp (by omega)]
  · have o2 : okc a2 600 := in_nat (by decide) k1 k2
    have o3 : okc a3 600 := in_nat (by decide) k3 k4
    have hP2 : rP n pe (σ 14) (σ 15) (upd (σ 16) j1 a2) (upd (σ 17) j1 a3) (σ 18) (σ 20) := by
      refine ⟨hP.1, hP.2.1, fun i => ?_, fun i => ?_, hP.2.2.2.2⟩
      · by_cases q : i = j1
        · subst q; rw [hb_us]; exact o2
        · rw [hb_un q]; exact hP.2.2.1 i
      · by_cases q : i = j1
        · subst q; rw [hb_us]; exact o3
        · rw [hb_un q]; exact hP.2.2.2.1 i
    have hM2 : ∀ i, upd (σ 16) j1 a2 i = upd (upd (σ 98) (2 * j1) a2) (2 * j1 + 1) a3 (2 * i) ∧ upd (σ 17) j1 a3 i = upd (upd (σ 98) (2 * j1) a2) (2 * j1 + 1) a3 (2 * i + 1) := by
      intro i
      by_cases q : i = j1
      · subst q
        rw [hb_us, hb_us, hb_un (show 2 * i ≠ 2 * i + 1 by omega), hb_us, hb_us]
        exact ⟨rfl, rfl⟩
      · rw [hb_un q, hb_un q, hb_un (show 2 * i ≠ 2 * j1 + 1 by omega), hb_un (show 2 * i ≠ 2 * j1 by omega), hb_un (show 2 * i + 1 ≠ 2 * j1 + 1 by omega), hb_un (show 2 * i + 1 ≠ 2 * j1 by omega)]
        exact hM i
    exact ⟨n, e, p, pe, th, ti, wa, ca, ta, dd, wt, tl, cn, ce, cp, cpe, cth, cti, cwa, cca, cta, cdy, cwt, ctl, f1_11, f1_12, f1_13, f13_7, f22_2, f21_6, f34_6, f34_7, f47_2, f47_3, f48_4, f73_4, f78_4, f0_11, f0_12, f47_0, f47_1, r2, r3, r4, r5, r6, r7, r8, r9, r10, r11, r14, r15, r18, r19, r20, r23, r35, r36, r37, r38, r39, r40, r49, r50, r74, r75, r76, r77, r79, r80, r84, hM2, hL, hP2, hE, hW, (by repeat (first | exact hG | refine rG_up (by decide) ?_)), hC, hT, hD, hX0, hX1, hX2, hK⟩
  · exact h.2
theorem C_choose {σ : am_S} (a1 a2 : Int32) (h : R σ) : tw (fx_choose a1 a2) (fm_choose a1 a2) σ := by
  obtain ⟨n, e, p, pe, th, ti, wa, ca, ta, dd, wt, tl, cn, ce, cp, cpe, cth, cti, cwa, cca, cta, cdy, cwt, ctl, f1_11, f1_12, f1_13, f13_7, f22_2, f21_6, f34_6, f34_7, f47_2, f47_3, f48_4, f73_4, f78_4, f0_11, f0_12, f47_0, f47_1, r2, r3, r4, r5, r6, r7, r8, r9, r10, r11, r14, r15, r18, r19, r20, r23, r35, r36, r37, r38, r39, r40, r49, r50, r74, r75, r76, r77, r79, r80, r84, hM, hL, hP, hE, hW, hG, hC, hT, hD, hX0, hX1, hX2, hK⟩ := h.1
  have m14 : σ 85 14 = nI pe := by rw [← f13_7]; exact cpe
  have l2 := hP.1
  rcases hsE_c a1 pe (by omega) with c1 | ⟨j1, i1, e1, c1⟩
  · refine tw1 h ?_ ?_
    · unfold fx_choose fx_choose_b21; rw [hx_q a1 cpe, if_pos c1, fx_f1]; rfl
    · unfold fm_choose fm_choose_b17; rw [hm_q a1 (show fnd 1 σ 85 14 = nI pe from m14), if_pos c1, fm_f1]; rfl
  have d1 : ¬ hsE a1 pe = 0 := by rw [c1]; decide
  rcases inE_c a2 (-1) 1 with ⟨c2, k⟩ | ⟨c2, k1, k2⟩
  · refine tw1 h ?_ ?_
    · unfold fx_choose fx_choose_b21
      rw [hx_q a1 cpe, if_neg d1]
      by_cases z : a2 < -1
      · rw [if_pos z, fx_f1]; rfl
      · rw [if_neg z, if_neg (fun u => (ng.1 u) (k.resolve_left z)), fx_f1]; rfl
    · unfold fm_choose fm_choose_b17; rw [hm_q a1 (show fnd 1 σ 85 14 = nI pe from m14), if_neg d1, in_m, if_pos c2, fm_f1]; rfl
  have d2 : ¬ inE a2 (-1) 1 = 0 := by rw [c2]; decide
  have o2 : a2 = -1 ∨ a2 = 0 ∨ a2 = 1 := by
    have r1 : ¬ a2.toInt < -1 := fun q => k1 ((fa_lt _ _).2 q)
    have r2 : ¬ 1 < a2.toInt := fun q => k2 ((fa_lt _ _).2 q)
    have : a2.toInt = -1 ∨ a2.toInt = 0 ∨ a2.toInt = 1 := by omega
    rcases this with z | z | z
    · exact Or.inl ((fa_eq _ _).2 z)
    · exact Or.inr (Or.inl ((fa_eq _ _).2 z))
    · exact Or.inr (Or.inr ((fa_eq _ _).2 z))
  refine ⟨σ 18 j1, am_up (am_up σ 18 j1 a2) 19 j1 (σ 0 12), am_up (am_up (am_up (am_up σ 18 j1 a2) 19 j1 (σ 0 12)) 99 j1 a2) 100 j1 (σ 0 12), ?_, ?_, ?_, ?_⟩
  · unfold fx_choose
    rw [hx_q a1 cpe, if_neg d1, if_neg k1, if_pos (ng.2 k2), e1, hb_g (by omega) (by decide), hb_g (by omega) (by decide), hb_g (by omega) (by decide), nI_clamp (by omega)]
  · unfold fm_choose
    rw [hm_q a1 (show (am_up (am_up σ 18 j1 a2) 19 j1 (σ 0 12)) 85 14 = nI pe from m14), if_neg d1, in_m, if_neg d2, e1, hb_g (by omega) (by decide), hb_g (by omega) (by decide), hb_g (by omega) (by decide), nI_clamp (by omega), show (am_up (am_up σ 18 j1 a2) 19 j1 (σ 0 12)) 85 0 = σ 0 12 from f0_12.symm, r18]
    rfl
  · have hP2 : rP n pe (σ 14) (σ 15) (σ 16) (σ 17) (upd (σ 18) j1 a2) (σ 20) := by
      refine ⟨hP.1, fun i hi => ?_, hP.2.2⟩
      obtain ⟨b1, b2, b3⟩ := hP.2.1 i hi
      refine ⟨b1, b2, ?_⟩
      by_cases q : i = j1
      · subst q; rw [hb_us]; exact o2
      · rw [hb_un q]; exact b3
    exact ⟨n, e, p, pe, th, ti, wa, ca, ta, dd, wt, tl, cn, ce, cp, cpe, cth, cti, cwa, cca, cta, cdy, cwt, ctl, f1_11, f1_12, f1_13, f13_7, f22_2, f21_6, f34_6, f34_7, f47_2, f47_3, f48_4, f73_4, f78_4, f0_11, f0_12, f47_0, f47_1, r2, r3, r4, r5, r6, r7, r8, r9, r10, r11, r14, r15, congrArg (fun f => upd f j1 a2) r18, congrArg (fun f => upd f j1 (σ 0 12)) r19, r20, r23, r35, r36, r37, r38, r39, r40, r49, r50, r74, r75, r76, r77, r79, r80, r84, hM, hL, hP2, hE, hW, (by repeat (first | exact hG | refine rG_up (by decide) ?_)), hC, hT, hD, hX0, hX1, hX2, hK⟩
  · exact h.2
theorem C_hoard {σ : am_S} (a1 a2 : Int32) (h : R σ) : tw (fx_hoard a1 a2) (fm_hoard a1 a2) σ := by
  obtain ⟨n, e, p, pe, th, ti, wa, ca, ta, dd, wt, tl, cn, ce, cp, cpe, cth, cti, cwa, cca, cta, cdy, cwt, ctl, f1_11, f1_12, f1_13, f13_7, f22_2, f21_6, f34_6, f34_7, f47_2, f47_3, f48_4, f73_4, f78_4, f0_11, f0_12, f47_0, f47_1, r2, r3, r4, r5, r6, r7, r8, r9, r10, r11, r14, r15, r18, r19, r20, r23, r35, r36, r37, r38, r39, r40, r49, r50, r74, r75, r76, r77, r79, r80, r84, hM, hL, hP, hE, hW, hG, hC, hT, hD, hX0, hX1, hX2, hK⟩ := h.1
  have m14 : σ 85 14 = nI pe := by rw [← f13_7]; exact cpe
  have l2 := hP.1
  rcases hsE_c a1 pe (by omega) with c1 | ⟨j1, i1, e1, c1⟩
  · refine tw1 h ?_ ?_
    · unfold fx_hoard fx_hoard_b22; rw [hx_q a1 cpe, if_pos c1, fx_f1]; rfl
    · unfold fm_hoard fm_hoard_b19; rw [hm_q a1 (show fnd 1 σ 85 14 = nI pe from m14), if_pos c1, fm_f1]; rfl
  have d1 : ¬ hsE a1 pe = 0 := by rw [c1]; decide
  rcases inE_c a2 0 9999 with ⟨c2, k⟩ | ⟨c2, k1, k2⟩
  · refine tw1 h ?_ ?_
    · unfold fx_hoard fx_hoard_b22
      rw [hx_q a1 cpe, if_neg d1]
      by_cases z : a2 < 0
      · rw [if_pos z, fx_f1]; rfl
      · rw [if_neg z, if_neg (fun u => (ng.1 u) (k.resolve_left z)), fx_f1]; rfl
    · unfold fm_hoard fm_hoard_b19; rw [hm_q a1 (show fnd 1 σ 85 14 = nI pe from m14), if_neg d1, in_m, if_pos c2, fm_f1]; rfl
  have d2 : ¬ inE a2 0 9999 = 0 := by rw [c2]; decide
  refine ⟨σ 20 j1, am_up σ 20 j1 a2, am_up (am_up σ 20 j1 a2) 101 j1 a2, ?_, ?_, ?_, ?_⟩
  · unfold fx_hoard
    rw [hx_q a1 cpe, if_neg d1, if_neg k1, if_pos (ng.2 k2), e1, hb_g (by omega) (by decide), hb_g (by omega) (by decide), nI_clamp (by omega)]
  · unfold fm_hoard
    rw [hm_q a1 (show (am_up σ 20 j1 a2) 85 14 = nI pe from m14), if_neg d1, in_m, if_neg d2, e1, hb_g (by omega) (by decide), hb_g (by omega) (by decide), nI_clamp (by omega), r20]
    rfl
  · have o2 : okc a2 9999 := in_nat (by decide) k1 k2
    have hP2 : rP n pe (σ 14) (σ 15) (σ 16) (σ 17) (σ 18) (upd (σ 20) j1 a2) := by
      refine ⟨hP.1, hP.2.1, hP.2.2.1, hP.2.2.2.1, fun i => ?_⟩
      by_cases q : i = j1
      · subst q; rw [hb_us]; exact o2
      · rw [hb_un q]; exact hP.2.2.2.2 i
    exact ⟨n, e, p, pe, th, ti, wa, ca, ta, dd, wt, tl, cn, ce, cp, cpe, cth, cti, cwa, cca, cta, cdy, cwt, ctl, f1_11, f1_12, f1_13, f13_7, f22_2, f21_6, f34_6, f34_7, f47_2, f47_3, f48_4, f73_4, f78_4, f0_11, f0_12, f47_0, f47_1, r2, r3, r4, r5, r6, r7, r8, r9, r10, r11, r14, r15, r18, r19, congrArg (fun f => upd f j1 a2) r20, r23, r35, r36, r37, r38, r39, r40, r49, r50, r74, r75, r76, r77, r79, r80, r84, hM, hL, hP2, hE, hW, (by repeat (first | exact hG | refine rG_up (by decide) ?_)), hC, hT, hD, hX0, hX1, hX2, hK⟩
  · exact h.2

