theorem wk_neg {x : Int32} (h : x < 0) : inE (x / 1000) 1 200 = 0 := by
  have e : (x / 1000).toInt = x.toInt.tdiv 1000 := Jvm.Kit.i32_div (by
    intro h
    have : (1000 : Int32).toInt = 1000 := rfl
    omega)
  have x0 : x.toInt < 0 := (fa_lt _ _).1 h
  have n1 : x.toInt.tdiv 1000 = -((-x.toInt).tdiv 1000) := by rw [Int.neg_tdiv, Int.neg_neg]
  have n2 : (-x.toInt).tdiv 1000 = (-x.toInt) / 1000 := Int.tdiv_eq_ediv_of_nonneg (by omega)
  unfold inE
  rw [if_pos]
  rw [fa_lt, e, n1, n2]
  show -(-x.toInt / 1000) < 1
  omega
theorem C_week {σ : am_S} (a1 a2 a3 : Int32) (h : R σ) : tw (fx_week a1 a2 a3) (fm_week a1 a2 a3) σ := by
  have g1 : ∀ x τ, fx_Week_isRate x τ = inE x 1 200 := fun _ _ => rfl
  by_cases c0 : a1 < 0
  · refine tw1 h ?_ ?_
    · unfold fx_week fx_week_b22; rw [g1, if_pos (wk_neg c0), fx_f1]; rfl
    · unfold fm_week fm_week_b55; rw [if_pos c0, fm_f1]; rfl
  rcases inE_c (a1 / 1000) 1 200 with ⟨c1, _⟩ | ⟨c1, u1, u2⟩
  · refine tw1 h ?_ ?_
    · unfold fx_week fx_week_b22; rw [g1, if_pos c1, fx_f1]; rfl
    · unfold fm_week fm_week_b55; rw [if_neg c0, in_m, if_pos c1, fm_f1]; rfl
  have d1 : ¬ inE (a1 / 1000) 1 200 = 0 := by rw [c1]; decide
  rcases inE_c (a1 - a1 / 1000 * 1000) 1 200 with ⟨c2, _⟩ | ⟨c2, v1, v2⟩
  · refine tw1 h ?_ ?_
    · unfold fx_week fx_week_b22; rw [g1, if_neg d1, g1, if_pos c2, fx_f1]; rfl
    · unfold fm_week fm_week_b55; rw [if_neg c0, in_m, if_neg d1, in_m, if_pos c2, fm_f1]; rfl
  have d2 : ¬ inE (a1 - a1 / 1000 * 1000) 1 200 = 0 := by rw [c2]; decide
  rcases inE_c a2 0 9999 with ⟨c3, k⟩ | ⟨c3, k1, k2⟩
  · refine tw1 h ?_ ?_
    · unfold fx_week fx_week_b50
      rw [g1, if_neg d1, g1, if_neg d2]
      by_cases z : a2 < 0
      · rw [if_pos z, fx_f1]; rfl
      · rw [if_neg z, if_pos (k.resolve_left z), fx_f1]; rfl
    · unfold fm_week fm_week_b55; rw [if_neg c0, in_m, if_neg d1, in_m, if_neg d2, in_m, if_pos c3, fm_f1]; rfl
  have d3 : ¬ inE a2 0 9999 = 0 := by rw [c3]; decide
  rcases inE_c a3 0 9 with ⟨c4, k⟩ | ⟨c4, k3, k4⟩
  · refine tw1 h ?_ ?_
    · unfold fx_week fx_week_b50
      rw [g1, if_neg d1, g1, if_neg d2, if_neg k1, if_neg k2]
      by_cases z : a3 < 0
      · rw [if_pos z, fx_f1]; rfl
      · rw [if_neg z, if_neg (fun u => (ng.1 u) (k.resolve_left z)), fx_f1]; rfl
    · unfold fm_week fm_week_b55; rw [if_neg c0, in_m, if_neg d1, in_m, if_neg d2, in_m, if_neg d3, in_m, if_pos c4, fm_f1]; rfl
  have d4 : ¬ inE a3 0 9 = 0 := by rw [c4]; decide
  obtain ⟨n, e, p, pe, th, ti, wa, ca, ta, dd, wt, tl, cn, ce, cp, cpe, cth, cti, cwa, cca, cta, cdy, cwt, ctl, f1_11, f1_12, f1_13, f13_7, f22_2, f21_6, f34_6, f34_7, f47_2, f47_3, f48_4, f73_4, f78_4, f0_11, f0_12, f47_0, f47_1, r2, r3, r4, r5, r6, r7, r8, r9, r10, r11, r14, r15, r18, r19, r20, r23, r35, r36, r37, r38, r39, r40, r49, r50, r74, r75, r76, r77, r79, r80, r84, hM, hL, hP, hE, hW, hG, hC, hT, hD, hX0, hX1, hX2, hK⟩ := h.1
  have rate : ∀ x : Int32, ¬ x < 1 → ¬ 200 < x → ∃ y : Nat, 1 ≤ y ∧ y ≤ 200 ∧ x = nI y := by
    intro x x1 x2
    obtain ⟨y, y1, y2⟩ : okc x 200 := in_nat (by decide) (fun z => x1 (by rw [fa_lt] at z ⊢; have : (0 : Int32).toInt = 0 := rfl; have : (1 : Int32).toInt = 1 := rfl; omega)) x2
    exact ⟨y, Classical.byContradiction fun z => x1 (by rw [y2]; exact nI_lt (b := 1) (by omega) (by decide)), y1, y2⟩
  refine ⟨1, am_up (am_up (am_up (am_up σ 47 0 (a1 / 1000)) 47 1 (a1 - a1 / 1000 * 1000)) 47 2 a2) 47 3 a3, am_up (am_up (am_up (am_up (am_up (am_up (am_up (am_up σ 47 0 (a1 / 1000)) 47 1 (a1 - a1 / 1000 * 1000)) 47 2 a2) 47 3 a3) 111 0 (a1 / 1000)) 111 1 (a1 - a1 / 1000 * 1000)) 85 35 a2) 85 36 a3, ?_, ?_, ?_, ?_⟩
  · unfold fx_week
    rw [g1, if_neg d1, g1, if_neg d2, if_neg k1, if_neg k2, if_neg k3, if_pos (ng.2 k4)]
  · unfold fm_week
    rw [if_neg c0, in_m, if_neg d1, in_m, if_neg d2, in_m, if_neg d3, in_m, if_neg d4]
    rfl
  · exact ⟨n, e, p, pe, th, ti, wa, ca, ta, dd, wt, tl, cn, ce, cp, cpe, cth, cti, cwa, cca, cta, cdy, cwt, ctl, f1_11, f1_12, f1_13, f13_7, f22_2, f21_6, f34_6, f34_7, rfl, rfl, f48_4, f73_4, f78_4, f0_11, f0_12, rfl, rfl, r2, r3, r4, r5, r6, r7, r8, r9, r10, r11, r14, r15, r18, r19, r20, r23, r35, r36, r37, r38, r39, r40, r49, r50, r74, r75, r76, r77, r79, r80, r84, hM, hL, hP, hE, ⟨rate _ u1 u2, rate _ v1 v2, in_nat (by decide) k1 k2, in_nat (by decide) k3 k4⟩, (by repeat (first | exact hG | refine rG_up (by decide) ?_)), hC, hT, hD, hX0, hX1, hX2, hK⟩
  · exact h.2
theorem C_day {σ : am_S} (a1 : Int32) (h : R σ) : tw (fx_day a1) (fm_day a1) σ := by
  obtain ⟨n, e, p, pe, th, ti, wa, ca, ta, dd, wt, tl, cn, ce, cp, cpe, cth, cti, cwa, cca, cta, cdy, cwt, ctl, f1_11, f1_12, f1_13, f13_7, f22_2, f21_6, f34_6, f34_7, f47_2, f47_3, f48_4, f73_4, f78_4, f0_11, f0_12, f47_0, f47_1, r2, r3, r4, r5, r6, r7, r8, r9, r10, r11, r14, r15, r18, r19, r20, r23, r35, r36, r37, r38, r39, r40, r49, r50, r74, r75, r76, r77, r79, r80, r84, hM, hL, hP, hE, hW, hG, hC, hT, hD, hX0, hX1, hX2, hK⟩ := h.1
  rcases inE_c a1 (σ 0 12) 400 with ⟨c1, k⟩ | ⟨c1, k1, k2⟩
  · refine tw1 h ?_ ?_
    · unfold fx_day fx_day_b15
      by_cases z : a1 < σ 0 12
      · rw [if_pos z, fx_f1]; rfl
      · rw [if_neg z, if_neg (fun u => (ng.1 u) (k.resolve_left z)), fx_f1]; rfl
    · unfold fm_day; rw [in_m, show fnd 1 σ 85 0 = σ 0 12 from f0_12.symm, if_pos c1, fm_f1]; rfl
  have d1 : ¬ inE a1 (σ 0 12) 400 = 0 := by rw [c1]; decide
  have hD1 := hD.1
  obtain ⟨d, q1, q2⟩ : okc a1 400 := in_nat (by decide) (fun z => k1 (by
    rw [cdy]
    have z1 : a1.toInt < 0 := (fa_lt _ _).1 z
    rw [fa_lt, nI_toInt (by omega)]
    omega)) k2
  refine ⟨a1 - σ 0 12, am_up σ 0 12 a1, am_up (am_up σ 0 12 a1) 85 0 a1, ?_, ?_, ?_, ?_⟩
  · unfold fx_day
    rw [if_neg k1, if_pos (ng.2 k2)]
  · unfold fm_day
    rw [in_m, show (am_up σ 0 12 a1) 85 0 = σ 0 12 from f0_12.symm, if_neg d1]
  · subst q2
    exact ⟨n, e, p, pe, th, ti, wa, ca, ta, d, wt, tl, cn, ce, cp, cpe, cth, cti, cwa, cca, cta, rfl, cwt, ctl, f1_11, f1_12, f1_13, f13_7, f22_2, f21_6, f34_6, f34_7, f47_2, f47_3, f48_4, f73_4, f78_4, f0_11, rfl, f47_0, f47_1, r2, r3, r4, r5, r6, r7, r8, r9, r10, r11, r14, r15, r18, r19, r20, r23, r35, r36, r37, r38, r39, r40, r49, r50, r74, r75, r76, r77, r79, r80, r84, hM, hL, hP, hE, hW, (by repeat (first | exact hG | refine rG_up (by decide) ?_)), hC, hT, ⟨q1, hD.2⟩, hX0, hX1, hX2, hK⟩
  · exact h.2
theorem C_tell {σ : am_S} (a1 : Int32) (h : R σ) : tw (fx_tell a1) (fm_tell a1) σ := by
  obtain ⟨n, e, p, pe, th, ti, wa, ca, ta, dd, wt, tl, cn, ce, cp, cpe, cth, cti, cwa, cca, cta, cdy, cwt, ctl, f1_11, f1_12, f1_13, f13_7, f22_2, f21_6, f34_6, f34_7, f47_2, f47_3, f48_4, f73_4, f78_4, f0_11, f0_12, f47_0, f47_1, r2, r3, r4, r5, r6, r7, r8, r9, r10, r11, r14, r15, r18, r19, r20, r23, r35, r36, r37, r38, r39, r40, r49, r50, r74, r75, r76, r77, r79, r80, r84, hM, hL, hP, hE, hW, hG, hC, hT, hD, hX0, hX1, hX2, hK⟩ := h.1
  have m50 : σ 85 50 = nI wt := by rw [← f0_11]; exact cwt
  have hD2 := hD.2.1
  by_cases q : wt < 16
  · refine ⟨nI (wt + 1), am_up (am_up σ 84 wt a1) 0 11 (nI (wt + 1)), am_up (am_up (am_up (am_up σ 84 wt a1) 0 11 (nI (wt + 1))) 122 wt a1) 85 50 (nI (wt + 1)), ?_, ?_, ?_, ?_⟩
    · unfold fx_tell
      rw [cwt, if_pos (by rw [hb_L16]; exact nI_lt q (by decide)), hb_g q (by decide), nI_clamp (by omega), nI_1]
    · unfold fm_tell
      rw [show (am_up (am_up σ 84 wt a1) 0 11 (nI (wt + 1))) 85 50 = nI wt from m50, if_neg (by rw [hb_L16, nI_eq (by omega) (by decide)]; omega), hb_g q (by decide), nI_clamp (by omega), nI_1]
    · exact ⟨n, e, p, pe, th, ti, wa, ca, ta, dd, wt + 1, tl, cn, ce, cp, cpe, cth, cti, cwa, cca, cta, cdy, rfl, ctl, f1_11, f1_12, f1_13, f13_7, f22_2, f21_6, f34_6, f34_7, f47_2, f47_3, f48_4, f73_4, f78_4, rfl, f0_12, f47_0, f47_1, r2, r3, r4, r5, r6, r7, r8, r9, r10, r11, r14, r15, r18, r19, r20, r23, r35, r36, r37, r38, r39, r40, r49, r50, r74, r75, r76, r77, r79, r80, congrArg (fun f => upd f wt a1) r84, hM, hL, hP, hE, hW, (by repeat (first | exact hG | refine rG_up (by decide) ?_)), hC, hT, ⟨hD.1, q, hD.2.2⟩, hX0, hX1, hX2, hK⟩
    · exact h.2
  · refine tw4 h ?_ ?_
    · unfold fx_tell
      rw [cwt, if_neg (by rw [hb_L16]; exact nI_nlt (by omega) (by omega)), fx_f4]; rfl
    · unfold fm_tell
      rw [show fnd 4 σ 85 50 = nI wt from m50, if_pos (by rw [hb_L16, nI_eq (by omega) (by decide)]; omega), fm_f4]; rfl
theorem C_task {σ : am_S} (a1 : Int32) (h : R σ) : tw (fx_task a1) (fm_task a1) σ := by
  rcases inE_c a1 1 200 with ⟨c1, k⟩ | ⟨c1, k1, k2⟩
  · refine tw1 h ?_ ?_
    · unfold fx_task fx_task_b12
      by_cases z : a1 < 1
      · rw [if_pos z, fx_f1]; rfl
      · rw [if_neg z, if_neg (fun u => (ng.1 u) (k.resolve_left z)), fx_f1]; rfl
    · unfold fm_task; rw [in_m, if_pos c1, fm_f1]; rfl
  have d1 : ¬ inE a1 1 200 = 0 := by rw [c1]; decide
  obtain ⟨n, e, p, pe, th, ti, wa, ca, ta, dd, wt, tl, cn, ce, cp, cpe, cth, cti, cwa, cca, cta, cdy, cwt, ctl, f1_11, f1_12, f1_13, f13_7, f22_2, f21_6, f34_6, f34_7, f47_2, f47_3, f48_4, f73_4, f78_4, f0_11, f0_12, f47_0, f47_1, r2, r3, r4, r5, r6, r7, r8, r9, r10, r11, r14, r15, r18, r19, r20, r23, r35, r36, r37, r38, r39, r40, r49, r50, r74, r75, r76, r77, r79, r80, r84, hM, hL, hP, hE, hW, hG, hC, hT, hD, hX0, hX1, hX2, hK⟩ := h.1
  have m47 : σ 85 47 = nI ta := by rw [← f78_4]; exact cta
  have l := hT.1
  have ok : okc a1 200 := in_nat (by decide) (fun z => k1 (by rw [fa_lt] at z ⊢; have : (0 : Int32).toInt = 0 := rfl; have : (1 : Int32).toInt = 1 := rfl; omega)) k2
  by_cases q : ta < 9
  · refine ⟨nI ta, am_up (am_up σ 79 ta a1) 78 4 (nI (ta + 1)), am_up (am_up (am_up (am_up (am_up σ 79 ta a1) 78 4 (nI (ta + 1))) 120 ta a1) 121 ta 0) 85 47 (nI (ta + 1)), ?_, ?_, ?_, ?_⟩
    · unfold fx_task fx_Tasks_addTask
      rw [if_neg k1, if_pos (ng.2 k2), cta, if_pos (by rw [hb_L9]; exact nI_lt q (by decide)), hb_g q (by decide), hb_bind, nI_clamp (by omega), nI_1, nI_pred]
    · unfold fm_task
      rw [in_m, if_neg d1, show (am_up (am_up σ 79 ta a1) 78 4 (nI (ta + 1))) 85 47 = nI ta from m47, if_neg (by rw [hb_L9, nI_eq (by omega) (by decide)]; omega), hb_g q (by decide), hb_g q (by decide), nI_clamp (by omega), nI_1, nI_pred]
    · have hT2 : rT (ta + 1) (upd (σ 79) ta a1) (σ 80) := by
        refine ⟨by omega, fun t ht => ?_, hT.2.2.1, fun t ht => hT.2.2.2 t (by omega)⟩
        by_cases z : t = ta
        · subst z; rw [hb_us]; exact ok
        · rw [hb_un z]; exact hT.2.1 t (by omega)
      have r80' : σ 80 = upd (σ 121) ta 0 := by
        rw [← r80]
        exact (fa_upd_same (hT.2.2.2 ta (Nat.le_refl _))).symm
      exact ⟨n, e, p, pe, th, ti, wa, ca, ta + 1, dd, wt, tl, cn, ce, cp, cpe, cth, cti, cwa, cca, rfl, cdy, cwt, ctl, f1_11, f1_12, f1_13, f13_7, f22_2, f21_6, f34_6, f34_7, f47_2, f47_3, f48_4, f73_4, rfl, f0_11, f0_12, f47_0, f47_1, r2, r3, r4, r5, r6, r7, r8, r9, r10, r11, r14, r15, r18, r19, r20, r23, r35, r36, r37, r38, r39, r40, r49, r50, r74, r75, r76, r77, congrArg (fun f => upd f ta a1) r79, r80', r84, hM, hL, hP, hE, hW, (by repeat (first | exact hG | refine rG_up (by decide) ?_)), hC, hT2, hD, hX0, hX1, hX2, hK⟩
    · exact h.2
  · refine tw4 h ?_ ?_
    · unfold fx_task
      rw [if_neg k1, if_pos (ng.2 k2), cta, if_neg (by rw [hb_L9]; exact nI_nlt (by omega) (by omega)), fx_f4]; rfl
    · unfold fm_task
      rw [in_m, if_neg d1, show fnd 4 σ 85 47 = nI ta from m47, if_pos (by rw [hb_L9, nI_eq (by omega) (by decide)]; omega), fm_f4]; rfl
theorem C_ahead {σ : am_S} (a1 a2 : Int32) (h : R σ) : tw (fx_ahead a1 a2) (fm_ahead a1 a2) σ := by
  obtain ⟨n, e, p, pe, th, ti, wa, ca, ta, dd, wt, tl, cn, ce, cp, cpe, cth, cti, cwa, cca, cta, cdy, cwt, ctl, f1_11, f1_12, f1_13, f13_7, f22_2, f21_6, f34_6, f34_7, f47_2, f47_3, f48_4, f73_4, f78_4, f0_11, f0_12, f47_0, f47_1, r2, r3, r4, r5, r6, r7, r8, r9, r10, r11, r14, r15, r18, r19, r20, r23, r35, r36, r37, r38, r39, r40, r49, r50, r74, r75, r76, r77, r79, r80, r84, hM, hL, hP, hE, hW, hG, hC, hT, hD, hX0, hX1, hX2, hK⟩ := h.1
  have m47 : σ 85 47 = nI ta := by rw [← f78_4]; exact cta
  have l := hT.1
  rcases hsE_c a1 ta (by omega) with c1 | ⟨j1, i1, e1, c1⟩
  · refine tw1 h ?_ ?_
    · unfold fx_ahead fx_ahead_b27; rw [hx_k a1 cta, if_pos c1, fx_f1]; rfl
    · unfold fm_ahead fm_ahead_b21; rw [hm_k a1 (show fnd 1 σ 85 47 = nI ta from m47), if_pos c1, fm_f1]; rfl
  have d1 : ¬ hsE a1 ta = 0 := by rw [c1]; decide
  rcases hsE_c a2 ta (by omega) with c2 | ⟨j2, i2, e2, c2⟩
  · refine tw1 h ?_ ?_
    · unfold fx_ahead fx_ahead_b27; rw [hx_k a1 cta, if_neg d1, hx_k a2 cta, if_pos c2, fx_f1]; rfl
    · unfold fm_ahead fm_ahead_b21; rw [hm_k a1 (show fnd 1 σ 85 47 = nI ta from m47), if_neg d1, hm_k a2 (show fnd 1 σ 85 47 = nI ta from m47), if_pos c2, fm_f1]; rfl
  have d2 : ¬ hsE a2 ta = 0 := by rw [c2]; decide
  by_cases c3 : a1 = a2
  · refine tw1 h ?_ ?_
    · unfold fx_ahead fx_ahead_b27; rw [hx_k a1 cta, if_neg d1, hx_k a2 cta, if_neg d2, if_pos c3, fx_f1]; rfl
    · unfold fm_ahead fm_ahead_b21; rw [hm_k a1 (show fnd 1 σ 85 47 = nI ta from m47), if_neg d1, hm_k a2 (show fnd 1 σ 85 47 = nI ta from m47), if_neg d2, if_pos c3, fm_f1]; rfl
  obtain ⟨m, mm1, mm2⟩ := hT.2.2.1 j2
  have p1 : 2 ^ j1 < 2 ^ 9 := Nat.pow_lt_pow_right (by decide) (by omega)
  have pm : m ||| 2 ^ j1 < 512 := Nat.or_lt_two_pow (n := 9) (by omega) p1
  have mm3 : σ 121 j2 = nI m := by rw [← r80]; exact mm2
  cases hb : m.testBit j1
  · have v80 : nI m ||| (1 : Int32) <<< (nI j1 &&& 31) = nI (m ||| 2 ^ j1) := by rw [eb_sh (by omega), fa_or]
    refine ⟨1, am_up σ 80 j2 (nI (m ||| 2 ^ j1)), am_up (am_up σ 80 j2 (nI (m ||| 2 ^ j1))) 121 j2 (nI (m ||| 2 ^ j1)), ?_, ?_, ?_, ?_⟩
    · unfold fx_ahead fx_Tasks_isAhead fx_Tasks_putAhead
      rw [hx_k a1 cta, if_neg d1, hx_k a2 cta, if_neg d2, if_neg c3, e2, e1, hb_g (by omega) (by decide), hb_g (by omega) (by decide), hb_g (by omega) (by decide), nI_clamp (by omega), mm2, v80, eb_sh (by omega), if_pos ((fa_bit (by omega)).2 hb), hb_bind, if_pos rfl, hb_bind]
    · have z1 : (am_up σ 80 j2 (nI (m ||| 2 ^ j1))) 85 47 = nI ta := m47
      have z2 : (am_up σ 80 j2 (nI (m ||| 2 ^ j1))) 121 j2 = nI m := mm3
      unfold fm_ahead
      rw [hm_k a1 z1, if_neg d1, hm_k a2 z1, if_neg d2, if_neg c3, e2, e1, hb_g (by omega) (by decide), hb_g (by omega) (by decide), hb_g (by omega) (by decide), nI_clamp (by omega), z2, v80, eb_bit (by omega) (by omega), hb, if_neg (show ¬ nI (if false = true then 1 else 0) = 1 by decide)]
    · have hT2 : rT ta (σ 79) (upd (σ 80) j2 (nI (m ||| 2 ^ j1))) := by
        refine ⟨hT.1, hT.2.1, fun t => ?_, fun t ht => ?_⟩
        · by_cases z : t = j2
          · subst z; rw [hb_us]; exact ⟨_, by omega, rfl⟩
          · rw [hb_un z]; exact hT.2.2.1 t
        · rw [hb_un (by omega)]; exact hT.2.2.2 t ht
      exact ⟨n, e, p, pe, th, ti, wa, ca, ta, dd, wt, tl, cn, ce, cp, cpe, cth, cti, cwa, cca, cta, cdy, cwt, ctl, f1_11, f1_12, f1_13, f13_7, f22_2, f21_6, f34_6, f34_7, f47_2, f47_3, f48_4, f73_4, f78_4, f0_11, f0_12, f47_0, f47_1, r2, r3, r4, r5, r6, r7, r8, r9, r10, r11, r14, r15, r18, r19, r20, r23, r35, r36, r37, r38, r39, r40, r49, r50, r74, r75, r76, r77, r79, congrArg (fun f => upd f j2 (nI (m ||| 2 ^ j1))) r80, r84, hM, hL, hP, hE, hW, (by repeat (first | exact hG | refine rG_up (by decide) ?_)), hC, hT2, hD, hX0, hX1, hX2, hK⟩
    · exact h.2
  · refine tw3 h ?_ ?_
    · unfold fx_ahead fx_Tasks_isAhead
      rw [hx_k a1 cta, if_neg d1, hx_k a2 cta, if_neg d2, if_neg c3, e2, e1, hb_g (by omega) (by decide), nI_clamp (by omega), mm2, eb_sh (by omega), if_neg (fun u => by rw [fa_bit (by omega), hb] at u; exact absurd u (by decide)), hb_bind, if_neg (by decide), fx_f3]; rfl
    · have z1 : fnd 3 σ 85 47 = nI ta := m47
      have z2 : fnd 3 σ 121 j2 = nI m := mm3
      unfold fm_ahead
      rw [hm_k a1 z1, if_neg d1, hm_k a2 z1, if_neg d2, if_neg c3, e2, e1, hb_g (by omega) (by decide), nI_clamp (by omega), z2, eb_bit (by omega) (by omega), hb, if_pos (show nI (if true = true then 1 else 0) = 1 from rfl), fm_f3]; rfl

