theorem rL_e {n e p : Nat} {st se A B Dd py : Nat → Int32} {a b d : Nat} (h : rL n e p st se A B Dd py) (he : e < 30) (ha : a < n) (hb : b < n) (hab : a ≠ b) (h1 : 1 ≤ d) (h9 : d ≤ 9) : rL n (e + 1) p st se (upd A e (nI a)) (upd B e (nI b)) (upd Dd e (nI d)) py := by
  obtain ⟨a1, a2, a3, a4, a5, a6, a7, a8⟩ := h
  refine ⟨a1, by omega, a3, a4, a5, ?_, a7, a8⟩
  intro k hk
  by_cases q : k = e
  · subst q
    have e1 : nv (upd A k (nI a) k) = a := by rw [hb_us]; exact nI_clamp (by omega)
    have e2 : nv (upd B k (nI b) k) = b := by rw [hb_us]; exact nI_clamp (by omega)
    have e3 : nv (upd Dd k (nI d) k) = d := by rw [hb_us]; exact nI_clamp (by omega)
    show upd A k (nI a) k = nI (nv (upd A k (nI a) k)) ∧ upd B k (nI b) k = nI (nv (upd B k (nI b) k)) ∧ upd Dd k (nI d) k = nI (nv (upd Dd k (nI d) k)) ∧ nv (upd A k (nI a) k) < n ∧ nv (upd B k (nI b) k) < n ∧ nv (upd A k (nI a) k) ≠ nv (upd B k (nI b) k) ∧ 1 ≤ nv (upd Dd k (nI d) k) ∧ nv (upd Dd k (nI d) k) ≤ 9
    rw [e1, e2, e3, hb_us, hb_us, hb_us]
    exact ⟨rfl, rfl, rfl, ha, hb, hab, h1, h9⟩
  · show upd A e (nI a) k = nI (nv (upd A e (nI a) k)) ∧ upd B e (nI b) k = nI (nv (upd B e (nI b) k)) ∧ upd Dd e (nI d) k = nI (nv (upd Dd e (nI d) k)) ∧ nv (upd A e (nI a) k) < n ∧ nv (upd B e (nI b) k) < n ∧ nv (upd A e (nI a) k) ≠ nv (upd B e (nI b) k) ∧ 1 ≤ nv (upd Dd e (nI d) k) ∧ nv (upd Dd e (nI d) k) ≤ 9
    rw [hb_un q, hb_un q, hb_un q]
    exact a6 k (by omega)
theorem C_edge {σ : am_S} (a1 a2 a3 a4 : Int32) (h : R σ) : tw (fx_edge a1 a2 a3 a4) (fm_edge a1 a2 a3 a4) σ := by
  obtain ⟨n, e, p, pe, th, ti, wa, ca, ta, dd, wt, tl, cn, ce, cp, cpe, cth, cti, cwa, cca, cta, cdy, cwt, ctl, f1_11, f1_12, f1_13, f13_7, f22_2, f21_6, f34_6, f34_7, f47_2, f47_3, f48_4, f73_4, f78_4, f0_11, f0_12, f47_0, f47_1, r2, r3, r4, r5, r6, r7, r8, r9, r10, r11, r14, r15, r18, r19, r20, r23, r35, r36, r37, r38, r39, r40, r49, r50, r74, r75, r76, r77, r79, r80, r84, hM, hL, hP, hE, hW, hG, hC, hT, hD, hX0, hX1, hX2, hK⟩ := h.1
  have m1 : σ 85 1 = nI n := by rw [← f1_11]; exact cn
  have m5 : σ 85 5 = nI e := by rw [← f1_12]; exact ce
  have l1 := hL.1
  have l2 := hL.2.1
  rcases hsE_c a1 n (by omega) with c1 | ⟨j1, i1, e1, c1⟩
  · refine tw1 h ?_ ?_
    · unfold fx_edge fx_edge_b27; rw [hx_p a1 cn, if_pos c1, fx_f1]; rfl
    · unfold fm_edge fm_edge_b41; rw [hm_p a1 (show fnd 1 σ 85 1 = nI n from m1), if_pos c1, fm_f1]; rfl
  have d1 : ¬ hsE a1 n = 0 := by rw [c1]; decide
  rcases hsE_c a2 n (by omega) with c2 | ⟨j2, i2, e2, c2⟩
  · refine tw1 h ?_ ?_
    · unfold fx_edge fx_edge_b27; rw [hx_p a1 cn, if_neg d1, hx_p a2 cn, if_pos c2, fx_f1]; rfl
    · unfold fm_edge fm_edge_b41; rw [hm_p a1 (show fnd 1 σ 85 1 = nI n from m1), if_neg d1, hm_p a2 (show fnd 1 σ 85 1 = nI n from m1), if_pos c2, fm_f1]; rfl
  have d2 : ¬ hsE a2 n = 0 := by rw [c2]; decide
  by_cases c3 : a1 = a2
  · refine tw1 h ?_ ?_
    · unfold fx_edge fx_edge_b27; rw [hx_p a1 cn, if_neg d1, hx_p a2 cn, if_neg d2, if_pos c3, fx_f1]; rfl
    · unfold fm_edge fm_edge_b41; rw [hm_p a1 (show fnd 1 σ 85 1 = nI n from m1), if_neg d1, hm_p a2 (show fnd 1 σ 85 1 = nI n from m1), if_neg d2, if_pos c3, fm_f1]; rfl
  rcases inE_c a3 1 9 with ⟨c4, k4⟩ | ⟨c4, k4, k5⟩
  · refine tw1 h ?_ ?_
    · unfold fx_edge fx_edge_b53
      rw [hx_p a1 cn, if_neg d1, hx_p a2 cn, if_neg d2, if_neg c3]
      by_cases z : a3 < 1
      · rw [if_pos z, fx_f1]; rfl
      · rw [if_neg z, if_pos (k4.resolve_left z), fx_f1]; rfl
    · unfold fm_edge fm_edge_b41; rw [hm_p a1 (show fnd 1 σ 85 1 = nI n from m1), if_neg d1, hm_p a2 (show fnd 1 σ 85 1 = nI n from m1), if_neg d2, if_neg c3, in_m, if_pos c4, fm_f1]; rfl
  have d4 : ¬ inE a3 1 9 = 0 := by rw [c4]; decide
  rcases zoE_c a4 with c5 | ⟨k6, c5⟩
  · refine tw1 h ?_ ?_
    · unfold fx_edge fx_edge_b53; rw [hx_p a1 cn, if_neg d1, hx_p a2 cn, if_neg d2, if_neg c3, if_neg k4, if_neg k5, zx_x, if_pos c5, fx_f1]; rfl
    · unfold fm_edge fm_edge_b41; rw [hm_p a1 (show fnd 1 σ 85 1 = nI n from m1), if_neg d1, hm_p a2 (show fnd 1 σ 85 1 = nI n from m1), if_neg d2, if_neg c3, in_m, if_neg d4, in_m, zx_i, if_pos c5, fm_f1]; rfl
  have d5 : ¬ zoE a4 = 0 := by rw [c5]; decide
  by_cases q : e < 30
  · obtain ⟨d, dd1, dd2⟩ : okc a3 9 := in_nat (by decide) (fun z => k4 (by rw [fa_lt] at z ⊢; have : (0 : Int32).toInt = 0 := rfl; have : (1 : Int32).toInt = 1 := rfl; omega)) k5
    have dd3 : 1 ≤ d := Classical.byContradiction fun z => k4 (by rw [dd2]; exact nI_lt (b := 1) (by omega) (by decide))
    have hab : j1 ≠ j2 := fun z => c3 (by rw [e1, e2, z])
    have fin : ∀ x : Int32, am_bo x = true → (∀ σ', (if a4 = 1 then fx_edge_b97 1 a3 a2 a1 σ' else fx_edge_b97 0 a3 a2 a1 σ') = fx_edge_b97 x a3 a2 a1 σ') → (∀ s1 σ', (if a4 = 1 then fm_edge_b111 1 s1 σ' else fm_edge_b111 0 s1 σ') = fm_edge_b111 x s1 σ') → tw (fx_edge a1 a2 a3 a4) (fm_edge a1 a2 a3 a4) σ := by
      intro x hx y1 y2
      refine ⟨nI (e + 1), am_up (am_up (am_up (am_up (am_up σ 6 e a1) 7 e a2) 8 e a3) 9 e x) 1 12 (nI (e + 1)), am_up (am_up (am_up (am_up (am_up (am_up (am_up (am_up (am_up (am_up σ 6 e a1) 7 e a2) 8 e a3) 9 e x) 1 12 (nI (e + 1))) 89 e a1) 90 e a2) 91 e a3) 92 e x) 85 5 (nI (e + 1)), ?_, ?_, ?_, ?_⟩
      · unfold fx_edge
        rw [hx_p a1 cn, if_neg d1, hx_p a2 cn, if_neg d2, if_neg c3, if_neg k4, if_neg k5, zx_x, if_neg d5, ce, if_pos (by rw [hb_L30]; exact nI_lt q (by decide)), y1]
        unfold fx_edge_b97 fx_Land_addEdge
        rw [ce, hb_g q (by decide), hb_g q (by decide), hb_g q (by decide), hb_gt hx, hb_g q (by decide), hb_bind, nI_clamp (by omega), nI_1]
      · unfold fm_edge
        have z1 : (am_up (am_up (am_up (am_up (am_up σ 6 e a1) 7 e a2) 8 e a3) 9 e x) 1 12 (nI (e + 1))) 85 1 = nI n := m1
        rw [hm_p a1 z1, if_neg d1, hm_p a2 z1, if_neg d2, if_neg c3, in_m, if_neg d4, in_m, zx_i, if_neg d5]
        have z5 : (am_up (am_up (am_up (am_up (am_up σ 6 e a1) 7 e a2) 8 e a3) 9 e x) 1 12 (nI (e + 1))) 85 5 = nI e := m5
        rw [z5, if_neg (by rw [hb_L30, nI_eq (by omega) (by decide)]; omega), hb_g q (by decide), hb_g q (by decide), hb_g q (by decide), y2]
        unfold fm_edge_b111
        have z6 : ∀ v1 v2 v3, (am_up (am_up (am_up (am_up (am_up (am_up (am_up (am_up σ 6 e a1) 7 e a2) 8 e a3) 9 e x) 1 12 (nI (e + 1))) 89 v1 a1) 90 v2 a2) 91 v3 a3) 85 5 = nI e := fun _ _ _ => m5
        rw [z6, hb_gt hx, hb_g q (by decide), nI_clamp (by omega), nI_1]
      · subst e1; subst e2; subst dd2
        exact ⟨n, e + 1, p, pe, th, ti, wa, ca, ta, dd, wt, tl, cn, rfl, cp, cpe, cth, cti, cwa, cca, cta, cdy, cwt, ctl, f1_11, rfl, f1_13, f13_7, f22_2, f21_6, f34_6, f34_7, f47_2, f47_3, f48_4, f73_4, f78_4, f0_11, f0_12, f47_0, f47_1, r2, r3, r4, r5, congrArg (fun f => upd f e (nI j1)) r6, congrArg (fun f => upd f e (nI j2)) r7, congrArg (fun f => upd f e (nI d)) r8, congrArg (fun f => upd f e x) r9, r10, r11, r14, r15, r18, r19, r20, r23, r35, r36, r37, r38, r39, r40, r49, r50, r74, r75, r76, r77, r79, r80, r84, hM, rL_e hL q i1 i2 hab dd3 dd1, hP, hE, hW, (by repeat (first | exact hG | refine rG_up (by decide) ?_)), hC, hT, hD, hX0, hX1, hX2, hK⟩
      · exact h.2
    rcases k6 with z | z
    · exact fin 0 rfl (fun σ' => by rw [z, if_neg (by decide)]) (fun s1 σ' => by rw [z, if_neg (by decide)])
    · exact fin 1 rfl (fun σ' => by rw [z, if_pos rfl]) (fun s1 σ' => by rw [z, if_pos rfl])
  · refine tw4 h ?_ ?_
    · unfold fx_edge; rw [hx_p a1 cn, if_neg d1, hx_p a2 cn, if_neg d2, if_neg c3, if_neg k4, if_neg k5, zx_x, if_neg d5, ce, if_neg (by rw [hb_L30]; exact nI_nlt (by omega) (by omega)), fx_f4]; rfl
    · unfold fm_edge; rw [hm_p a1 (show fnd 4 σ 85 1 = nI n from m1), if_neg d1, hm_p a2 (show fnd 4 σ 85 1 = nI n from m1), if_neg d2, if_neg c3, in_m, if_neg d4, in_m, zx_i, if_neg d5, show fnd 4 σ 85 5 = nI e from m5, if_pos (by rw [hb_L30, nI_eq (by omega) (by decide)]; omega), fm_f4]; rfl

theorem rL_s {n e p i : Nat} {st se A B Dd py : Nat → Int32} {x : Int32} (h : rL n e p st se A B Dd py) (hx : x = 0 ∨ x = 1) : rL n e p (upd st i x) se A B Dd py := by
  obtain ⟨a1, a2, a3, a4, a5⟩ := h
  refine ⟨a1, a2, a3, fun k => ?_, a5⟩
  by_cases q : k = i
  · subst q; rw [hb_us]
    rcases hx with hx | hx
    · exact ⟨0, by omega, hx⟩
    · exact ⟨1, by omega, hx⟩
  · rw [hb_un q]; exact a4 k
theorem rL_t {n e p i j : Nat} {st se A B Dd py : Nat → Int32} (h : rL n e p st se A B Dd py) (hj : j < n) : rL n e p st (upd se i (nI j)) A B Dd py := by
  obtain ⟨a1, a2, a3, a4, a5, a6⟩ := h
  refine ⟨a1, a2, a3, a4, fun k => ?_, a6⟩
  by_cases q : k = i
  · subst q; rw [hb_us]; exact ⟨j, rfl, Or.inl hj⟩
  · rw [hb_un q]; exact a5 k
theorem C_settle {σ : am_S} (a1 a2 : Int32) (h : R σ) : tw (fx_settle a1 a2) (fm_settle a1 a2) σ := by
  obtain ⟨n, e, p, pe, th, ti, wa, ca, ta, dd, wt, tl, cn, ce, cp, cpe, cth, cti, cwa, cca, cta, cdy, cwt, ctl, f1_11, f1_12, f1_13, f13_7, f22_2, f21_6, f34_6, f34_7, f47_2, f47_3, f48_4, f73_4, f78_4, f0_11, f0_12, f47_0, f47_1, r2, r3, r4, r5, r6, r7, r8, r9, r10, r11, r14, r15, r18, r19, r20, r23, r35, r36, r37, r38, r39, r40, r49, r50, r74, r75, r76, r77, r79, r80, r84, hM, hL, hP, hE, hW, hG, hC, hT, hD, hX0, hX1, hX2, hK⟩ := h.1
  have m1 : σ 85 1 = nI n := by rw [← f1_11]; exact cn
  have l1 := hL.1
  rcases hsE_c a1 n (by omega) with c1 | ⟨j, i1, e1, c1⟩
  · refine tw1 h ?_ ?_
    · unfold fx_settle fx_settle_b18; rw [hx_p a1 cn, if_pos c1, fx_f1]; rfl
    · unfold fm_settle fm_settle_b15; rw [hm_p a1 (show fnd 1 σ 85 1 = nI n from m1), if_pos c1, fm_f1]; rfl
  have d1 : ¬ hsE a1 n = 0 := by rw [c1]; decide
  rcases zoE_c a2 with c2 | ⟨k2, c2⟩
  · refine tw1 h ?_ ?_
    · unfold fx_settle fx_settle_b18; rw [hx_p a1 cn, if_neg d1, zx_x, if_pos c2, fx_f1]; rfl
    · unfold fm_settle fm_settle_b15; rw [hm_p a1 (show fnd 1 σ 85 1 = nI n from m1), if_neg d1, zx_s, if_pos c2, fm_f1]; rfl
  have d2 : ¬ zoE a2 = 0 := by rw [c2]; decide
  refine ⟨σ 4 j, am_up σ 4 j a2, am_up (am_up σ 4 j a2) 88 j a2, ?_, ?_, ?_, ?_⟩
  · unfold fx_settle
    rw [hx_p a1 cn, if_neg d1, zx_x, if_neg d2, e1, hb_g (by omega) (by decide), hb_g (by omega) (by decide), nI_clamp (by omega)]
  · unfold fm_settle
    rw [hm_p a1 (show (am_up σ 4 j a2) 85 1 = nI n from m1), if_neg d1, zx_s, if_neg d2, e1, hb_g (by omega) (by decide), hb_g (by omega) (by decide), nI_clamp (by omega), r4]
    rfl
  · exact ⟨n, e, p, pe, th, ti, wa, ca, ta, dd, wt, tl, cn, ce, cp, cpe, cth, cti, cwa, cca, cta, cdy, cwt, ctl, f1_11, f1_12, f1_13, f13_7, f22_2, f21_6, f34_6, f34_7, f47_2, f47_3, f48_4, f73_4, f78_4, f0_11, f0_12, f47_0, f47_1, r2, r3, congrArg (fun f => upd f j a2) r4, r5, r6, r7, r8, r9, r10, r11, r14, r15, r18, r19, r20, r23, r35, r36, r37, r38, r39, r40, r49, r50, r74, r75, r76, r77, r79, r80, r84, hM, rL_s hL k2, hP, hE, hW, (by repeat (first | exact hG | refine rG_up (by decide) ?_)), hC, hT, hD, hX0, hX1, hX2, hK⟩
  · exact h.2
theorem C_seat {σ : am_S} (a1 a2 : Int32) (h : R σ) : tw (fx_seat a1 a2) (fm_seat a1 a2) σ := by
  obtain ⟨n, e, p, pe, th, ti, wa, ca, ta, dd, wt, tl, cn, ce, cp, cpe, cth, cti, cwa, cca, cta, cdy, cwt, ctl, f1_11, f1_12, f1_13, f13_7, f22_2, f21_6, f34_6, f34_7, f47_2, f47_3, f48_4, f73_4, f78_4, f0_11, f0_12, f47_0, f47_1, r2, r3, r4, r5, r6, r7, r8, r9, r10, r11, r14, r15, r18, r19, r20, r23, r35, r36, r37, r38, r39, r40, r49, r50, r74, r75, r76, r77, r79, r80, r84, hM, hL, hP, hE, hW, hG, hC, hT, hD, hX0, hX1, hX2, hK⟩ := h.1
  have m1 : σ 85 1 = nI n := by rw [← f1_11]; exact cn
  have l1 := hL.1
  rcases zoE_c a1 with c2 | ⟨k2, c2⟩
  · refine tw1 h ?_ ?_
    · unfold fx_seat fx_seat_b18; rw [zx_x, if_pos c2, fx_f1]; rfl
    · unfold fm_seat fm_seat_b15; rw [zx_s, if_pos c2, fm_f1]; rfl
  have d2 : ¬ zoE a1 = 0 := by rw [c2]; decide
  rcases hsE_c a2 n (by omega) with c1 | ⟨j, i1, e1, c1⟩
  · refine tw1 h ?_ ?_
    · unfold fx_seat fx_seat_b18; rw [zx_x, if_neg d2, hx_p a2 cn, if_pos c1, fx_f1]; rfl
    · unfold fm_seat fm_seat_b15; rw [zx_s, if_neg d2, hm_p a2 (show fnd 1 σ 85 1 = nI n from m1), if_pos c1, fm_f1]; rfl
  have d1 : ¬ hsE a2 n = 0 := by rw [c1]; decide
  obtain ⟨i, i2, i3⟩ : ∃ i : Nat, i < 2 ∧ a1 = nI i := by
    rcases k2 with k2 | k2
    · exact ⟨0, by omega, k2⟩
    · exact ⟨1, by omega, k2⟩
  refine ⟨σ 5 i, am_up σ 5 i a2, am_up (am_up σ 5 i a2) 95 i a2, ?_, ?_, ?_, ?_⟩
  · unfold fx_seat
    rw [zx_x, if_neg d2, hx_p a2 cn, if_neg d1, i3, hb_g (by omega) (by decide), hb_g (by omega) (by decide), nI_clamp (by omega)]
  · unfold fm_seat
    rw [zx_s, if_neg d2, hm_p a2 (show (am_up σ 5 i a2) 85 1 = nI n from m1), if_neg d1, i3, hb_g (by omega) (by decide), hb_g (by omega) (by decide), nI_clamp (by omega), r5]
    rfl
  · subst e1
    exact ⟨n, e, p, pe, th, ti, wa, ca, ta, dd, wt, tl, cn, ce, cp, cpe, cth, cti, cwa, cca, cta, cdy, cwt, ctl, f1_11, f1_12, f1_13, f13_7, f22_2, f21_6, f34_6, f34_7, f47_2, f47_3, f48_4, f73_4, f78_4, f0_11, f0_12, f47_0, f47_1, r2, r3, r4, congrArg (fun f => upd f i (nI j)) r5, r6, r7, r8, r9, r10, r11, r14, r15, r18, r19, r20, r23, r35, r36, r37, r38, r39, r40, r49, r50, r74, r75, r76, r77, r79, r80, r84, hM, rL_t hL i1, hP, hE, hW, (by repeat (first | exact hG | refine rG_up (by decide) ?_)), hC, hT, hD, hX0, hX1, hX2, hK⟩
  · exact h.2

