theorem C_open {N : Nat} {σ : am_S} (a1 a2 a3 a4 : Int32) (hN : 20000 ≤ N) (h : R σ) : tw (fx_open N a1 a2 a3 a4) (fm_open a1 a2 a3 a4) σ := by
  obtain ⟨n, e, p, pe, th, ti, wa, ca, ta, dd, wt, tl, cn, ce, cp, cpe, cth, cti, cwa, cca, cta, cdy, cwt, ctl, f1_11, f1_12, f1_13, f13_7, f22_2, f21_6, f34_6, f34_7, f47_2, f47_3, f48_4, f73_4, f78_4, f0_11, f0_12, f47_0, f47_1, r2, r3, r4, r5, r6, r7, r8, r9, r10, r11, r14, r15, r18, r19, r20, r23, r35, r36, r37, r38, r39, r40, r49, r50, r74, r75, r76, r77, r79, r80, r84, hM, hL, hP, hE, hW, hG, hC, hT, hD, hX0, hX1, hX2, hK⟩ := h.1
  have m1 : σ 85 1 = nI n := by rw [← f1_11]; exact cn
  have m14 : σ 85 14 = nI pe := by rw [← f13_7]; exact cpe
  have m26 : σ 85 26 = nI th := by rw [← f34_6]; exact cth
  have m42 : σ 85 42 = nI ca := by rw [← f73_4]; exact cca
  have l1 := hL.1
  have l2 := hP.1
  have l3 := hE.1.1
  have l4 := hC.1
  rcases hsE_c a1 n (by omega) with c1 | ⟨j1, i1, e1, c1⟩
  · refine tw1 h ?_ ?_
    · unfold fx_open fx_open_b22; rw [hx_p a1 cn, if_pos c1, fx_f1]; rfl
    · unfold fm_open fm_open_b41; rw [hm_p a1 (show fnd 1 σ 85 1 = nI n from m1), if_pos c1, fm_f1]; rfl
  have d1 : ¬ hsE a1 n = 0 := by rw [c1]; decide
  rcases hsE_c a2 pe (by omega) with c2 | ⟨j2, i2, e2, c2⟩
  · refine tw1 h ?_ ?_
    · unfold fx_open fx_open_b22; rw [hx_p a1 cn, if_neg d1, hx_q a2 cpe, if_pos c2, fx_f1]; rfl
    · unfold fm_open fm_open_b41; rw [hm_p a1 (show fnd 1 σ 85 1 = nI n from m1), if_neg d1, hm_q a2 (show fnd 1 σ 85 14 = nI pe from m14), if_pos c2, fm_f1]; rfl
  have d2 : ¬ hsE a2 pe = 0 := by rw [c2]; decide
  rcases inE_c a3 1 9 with ⟨c3, k⟩ | ⟨c3, k1, k2⟩
  · refine tw1 h ?_ ?_
    · unfold fx_open fx_open_b40
      rw [hx_p a1 cn, if_neg d1, hx_q a2 cpe, if_neg d2]
      by_cases z : a3 < 1
      · rw [if_pos z, fx_f1]; rfl
      · rw [if_neg z, if_neg (fun u => (ng.1 u) (k.resolve_left z)), fx_f1]; rfl
    · unfold fm_open fm_open_b41; rw [hm_p a1 (show fnd 1 σ 85 1 = nI n from m1), if_neg d1, hm_q a2 (show fnd 1 σ 85 14 = nI pe from m14), if_neg d2, in_m, if_pos c3, fm_f1]; rfl
  have d3 : ¬ inE a3 1 9 = 0 := by rw [c3]; decide
  -- the end, once the paper is in order
  have fin : (a4 = -1 ∨ ∃ a : Nat, a < th ∧ a4 = nI a ∧ nv (σ 35 a) = 4) → fx_open N a1 a2 a3 a4 σ = fx_open_b99 N a1 a2 a3 a4 σ → (∀ τ : am_S, τ 85 1 = nI n → τ 85 14 = nI pe → τ 85 26 = nI th → τ 105 = σ 105 → fm_open a1 a2 a3 a4 τ = fm_open_b70 a1 a2 a3 a4 τ) → tw (fx_open N a1 a2 a3 a4) (fm_open a1 a2 a3 a4) σ := by
    intro pap hx hm
    by_cases q : ca < 10
    · refine ⟨nI ca, am_up (am_up (am_up (am_up (am_up σ 74 ca a1) 75 ca a2) 76 ca a3) 77 ca a4) 73 4 (nI (ca + 1)), am_up (am_up (am_up (am_up (am_up (am_up (am_up (am_up (am_up (am_up σ 74 ca a1) 75 ca a2) 76 ca a3) 77 ca a4) 73 4 (nI (ca + 1))) 116 ca a1) 117 ca a2) 118 ca a3) 119 ca a4) 85 42 (nI (ca + 1)), ?_, ?_, ?_, ?_⟩
      · rw [hx]
        unfold fx_open_b99 fx_Cases_addCase
        rw [cca, if_pos (by rw [hb_L10]; exact nI_lt q (by decide)), hb_g q (by decide), hb_g q (by decide), hb_g q (by decide), hb_g q (by decide), hb_bind, nI_clamp (by omega), nI_1, nI_pred]
      · rw [hm (am_up (am_up (am_up (am_up (am_up σ 74 ca a1) 75 ca a2) 76 ca a3) 77 ca a4) 73 4 (nI (ca + 1))) m1 m14 m26 rfl]
        unfold fm_open_b70
        rw [show (am_up (am_up (am_up (am_up (am_up σ 74 ca a1) 75 ca a2) 76 ca a3) 77 ca a4) 73 4 (nI (ca + 1))) 85 42 = nI ca from m42, if_neg (by rw [hb_L10, nI_eq (by omega) (by decide)]; omega), hb_g q (by decide), hb_g q (by decide), hb_g q (by decide), hb_g q (by decide), nI_clamp (by omega), nI_1, nI_pred]
      · have hC2 : rCa n pe th (ca + 1) (upd (σ 74) ca a1) (upd (σ 75) ca a2) (upd (σ 77) ca a4) (σ 35) := by
          refine ⟨by omega, fun i hi => ?_⟩
          by_cases z : i = ca
          · subst z; rw [hb_us, hb_us, hb_us]; exact ⟨⟨j1, i1, e1⟩, ⟨j2, i2, e2⟩, pap⟩
          · rw [hb_un z, hb_un z, hb_un z]; exact hC.2 i (by omega)
        exact ⟨n, e, p, pe, th, ti, wa, ca + 1, ta, dd, wt, tl, cn, ce, cp, cpe, cth, cti, cwa, rfl, cta, cdy, cwt, ctl, f1_11, f1_12, f1_13, f13_7, f22_2, f21_6, f34_6, f34_7, f47_2, f47_3, f48_4, rfl, f78_4, f0_11, f0_12, f47_0, f47_1, r2, r3, r4, r5, r6, r7, r8, r9, r10, r11, r14, r15, r18, r19, r20, r23, r35, r36, r37, r38, r39, r40, r49, r50, congrArg (fun f => upd f ca a1) r74, congrArg (fun f => upd f ca a2) r75, congrArg (fun f => upd f ca a3) r76, congrArg (fun f => upd f ca a4) r77, r79, r80, r84, hM, hL, hP, hE, hW, (by repeat (first | exact hG | refine rG_up (by decide) ?_)), hC2, hT, hD, hX0, hX1, hX2, hK⟩
      · exact h.2
    · refine tw4 h ?_ ?_
      · rw [hx]
        unfold fx_open_b99
        rw [cca, if_neg (by rw [hb_L10]; exact nI_nlt (by omega) (by omega)), fx_f4]; rfl
      · rw [hm (fnd 4 σ) m1 m14 m26 rfl]
        unfold fm_open_b70
        rw [show fnd 4 σ 85 42 = nI ca from m42, if_pos (by rw [hb_L10, nI_eq (by omega) (by decide)]; omega), fm_f4]; rfl
  by_cases p1 : a4 = -1
  · refine fin (Or.inl p1) ?_ ?_
    · unfold fx_open fx_open_b72
      rw [hx_p a1 cn, if_neg d1, hx_q a2 cpe, if_neg d2, if_neg k1, if_pos (ng.2 k2), if_pos p1, if_pos p1]
    · intro τ t1 t2 t3 t4
      unfold fm_open fm_open_b47
      rw [hm_p a1 t1, if_neg d1, hm_q a2 t2, if_neg d2, in_m, if_neg d3, if_pos p1, if_pos p1]
  rcases hsE_c a4 th (by omega) with c4 | ⟨j4, i4, e4, c4⟩
  · refine tw1 h ?_ ?_
    · unfold fx_open; rw [hx_p a1 cn, if_neg d1, hx_q a2 cpe, if_neg d2, if_neg k1, if_pos (ng.2 k2), if_neg p1, hx_t a4 cth, if_pos c4, fx_f1]; rfl
    · unfold fm_open fm_open_b41; rw [hm_p a1 (show fnd 1 σ 85 1 = nI n from m1), if_neg d1, hm_q a2 (show fnd 1 σ 85 14 = nI pe from m14), if_neg d2, in_m, if_neg d3, if_neg p1, hm_t a4 (show fnd 1 σ 85 26 = nI th from m26), if_pos c4, fm_f1]; rfl
  have d4 : ¬ hsE a4 th = 0 := by rw [c4]; decide
  obtain ⟨y1, y2⟩ := es_kd hE.1 j4 i4
  have o4 : fx_Estate_isOf N (nI j4) 4 σ = some (if kd_un (nv (σ 35 j4)) 4 = true then 1 else 0) := kd_isOf (w := 4) (by omega) (by omega) y1 y2 (by decide)
  by_cases q : nv (σ 35 j4) = 4
  · have k4 : σ 105 j4 = 4 := by rw [← r35, y1, q]; rfl
    refine fin (Or.inr ⟨j4, i4, e4, q⟩) ?_ ?_
    · unfold fx_open fx_open_b72
      rw [hx_p a1 cn, if_neg d1, hx_q a2 cpe, if_neg d2, if_neg k1, if_pos (ng.2 k2), if_neg p1, hx_t a4 cth, if_neg d4, if_neg p1]
      have o4' : fx_Estate_isOf N a4 4 σ = some 1 := by rw [e4, o4, if_pos (kd_4.2 q)]
      rw [o4', hb_bind, if_neg (by decide)]
    · intro τ t1 t2 t3 t4
      have k5 : τ 105 j4 = 4 := by rw [t4]; exact k4
      unfold fm_open fm_open_b47
      rw [hm_p a1 t1, if_neg d1, hm_q a2 t2, if_neg d2, in_m, if_neg d3, if_neg p1, hm_t a4 t3, if_neg d4, if_neg p1]
      have g4 : am_in a4 24 = true := by rw [e4]; exact hb_in (by omega) (by decide)
      have v4 : a4.toNatClampNeg = j4 := by rw [e4]; exact nI_clamp (by omega)
      rw [hb_gt g4, v4, k5, if_pos rfl]
  · have k4 : ¬ σ 105 j4 = 4 := by rw [← r35, y1, hb_L4, nie 4 (by omega) (by decide)]; exact q
    refine tw5 h ?_ ?_
    · unfold fx_open fx_open_b72
      rw [hx_p a1 cn, if_neg d1, hx_q a2 cpe, if_neg d2, if_neg k1, if_pos (ng.2 k2), if_neg p1, hx_t a4 cth, if_neg d4, if_neg p1]
      have o4' : fx_Estate_isOf N a4 4 σ = some 0 := by rw [e4, o4, if_neg (fun u => q (kd_4.1 u))]
      rw [o4', hb_bind, if_pos rfl, fx_f5]; rfl
    · unfold fm_open fm_open_b47
      rw [hm_p a1 (show fnd 5 σ 85 1 = nI n from m1), if_neg d1, hm_q a2 (show fnd 5 σ 85 14 = nI pe from m14), if_neg d2, in_m, if_neg d3, if_neg p1, hm_t a4 (show fnd 5 σ 85 26 = nI th from m26), if_neg d4, if_neg p1]
      have g4 : am_in a4 24 = true := by rw [e4]; exact hb_in (by omega) (by decide)
      have v4 : a4.toNatClampNeg = j4 := by rw [e4]; exact nI_clamp (by omega)
      rw [hb_gt g4, v4, if_neg (show ¬ fnd 5 σ 105 j4 = 4 from k4), fm_f5]; rfl
/-- one thing more -/
theorem rE_add {n th ti k : Nat} {K PL W CP A B : Nat → Int32} {x w : Int32} (h : rE n th ti K PL W CP A B) (ht : th < 24) (hk : k ≤ 6) (hw : okc w 10000) (h1 : (k = 1 ∨ k = 2) → ∃ a : Nat, a < n ∧ x = nI a) (h2 : k = 5 → ∃ a : Nat, a < th ∧ x = nI a ∧ (nv (K a) = 1 ∨ nv (K a) = 2)) : rE n (th + 1) ti (upd K th (nI k)) (upd PL th x) (upd W th w) CP A B := by
  obtain ⟨⟨a1, a2, a3, a4, a5⟩, a6, a7, a8⟩ := h
  have nk : nv (upd K th (nI k) th) = k := by rw [hb_us]; exact nI_clamp (by omega)
  refine ⟨⟨by omega, a2, fun i hi => ?_, fun i hi => ?_, fun j hj => ?_⟩, fun i hi => ?_, a7, fun i hi => a8 i (by omega)⟩
  · by_cases z : i = th
    · subst z; rw [hb_us]; exact ⟨k, hk, rfl⟩
    · rw [hb_un z]; exact a3 i (by omega)
  · by_cases z : i = th
    · subst z; rw [hb_us]; exact hw
    · rw [hb_un z]; exact a4 i (by omega)
  · obtain ⟨⟨a, b1, b2⟩, ⟨b, b3, b4⟩⟩ := a5 j hj
    exact ⟨⟨a, by omega, b2⟩, ⟨b, by omega, b4⟩⟩
  · by_cases z : i = th
    · subst z
      rw [nk, hb_us]
      refine ⟨h1, fun q => ?_⟩
      obtain ⟨a, b1, b2, b3⟩ := h2 q
      exact ⟨a, by omega, b2, by rw [hb_un (by omega)]; exact b3⟩
    · rw [hb_un z, hb_un z]
      refine ⟨(a6 i (by omega)).1, fun q => ?_⟩
      obtain ⟨a, b1, b2, b3⟩ := (a6 i (by omega)).2 q
      exact ⟨a, by omega, b2, by rw [hb_un (by omega)]; exact b3⟩
theorem rCa_th {n pe th ca : Nat} {co ps pp K : Nat → Int32} {x : Int32} (h : rCa n pe th ca co ps pp K) : rCa n pe (th + 1) ca co ps pp (upd K th x) := by
  obtain ⟨a1, a2⟩ := h
  refine ⟨a1, fun i hi => ?_⟩
  obtain ⟨b1, b2, b3⟩ := a2 i hi
  refine ⟨b1, b2, ?_⟩
  rcases b3 with b3 | ⟨a, b3, b4, b5⟩
  · exact Or.inl b3
  · exact Or.inr ⟨a, by omega, b4, by rw [hb_un (by omega)]; exact b5⟩

