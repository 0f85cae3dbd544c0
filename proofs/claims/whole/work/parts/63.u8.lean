def th_pv (k r n th : Nat) (K : Nat → Int32) : Int32 := if k = 1 ∨ k = 2 then hsE (nI r) n else if k = 5 then (if r < th ∧ (nv (K r) = 1 ∨ nv (K r) = 2) then 1 else 0) else (if r = 0 then 1 else 0)
theorem th_x {N k r n th : Nat} {σ : am_S} (hN : 20000 ≤ N) (hk : k ≤ 6) (hr : r < 1000) (hn : n ≤ 12) (hth : th ≤ 24) (cn : σ 1 11 = nI n) (cth : σ 34 6 = nI th) (hK : ∀ o, o < th → σ 35 o = nI (nv (σ 35 o)) ∧ nv (σ 35 o) ≤ 6) : fx_isPlaceOf N (nI k) (nI r) σ = some (th_pv k r n th (σ 35)) := by
  have u1 : fx_Estate_isUnder N (nI k) 1 σ = some (if kd_un k 1 = true then 1 else 0) := kd_under (w := 1) (by omega) hk (by decide)
  unfold fx_isPlaceOf th_pv
  rw [u1, hb_bind]
  by_cases z : k = 1 ∨ k = 2
  · rw [if_pos (kd_1.2 z), if_neg (by decide), if_pos z, hx_p (nI r) cn]
    refine hb_gt ?_
    rcases hsE_c (nI r) n (by omega) with q | ⟨_, _, _, q⟩
    · rw [q]; rfl
    · rw [q]; rfl
  · rw [if_neg (fun u => z (kd_1.1 u)), if_pos rfl, if_neg z]
    by_cases z5 : k = 5
    · rw [if_pos (show nI k = 5 by rw [z5]; rfl), if_pos z5, hx_t (nI r) cth]
      by_cases lt : r < th
      · have hs : hsE (nI r) th = 1 := by unfold hsE; rw [if_neg (nI_pos (by omega)), if_neg (nI_ge lt (by omega))]
        obtain ⟨y1, y2⟩ := hK r lt
        have o1 : fx_Estate_isOf N (nI r) 1 σ = some (if kd_un (nv (σ 35 r)) 1 = true then 1 else 0) := kd_isOf (w := 1) (by omega) (by omega) y1 y2 (by decide)
        rw [hs, if_neg (by decide), o1, hb_bind]
        by_cases z1 : nv (σ 35 r) = 1 ∨ nv (σ 35 r) = 2
        · rw [if_pos (kd_1.2 z1), if_neg (by decide), if_pos ⟨lt, z1⟩]
        · rw [if_neg (fun u => z1 (kd_1.1 u)), if_pos rfl, if_neg (fun u => z1 u.2)]
      · have hs : hsE (nI r) th = 0 := by unfold hsE; rw [if_neg (nI_pos (by omega)), if_pos (nI_le (by omega) (by omega))]
        rw [hs, if_pos rfl, if_neg (fun u => lt u.1)]
    · rw [if_neg (show ¬ nI k = 5 by rw [hb_L5, nI_eq (by omega) (by decide)]; exact z5), if_neg z5]
      by_cases z0 : r = 0
      · rw [if_pos (show nI r = 0 by rw [z0]; rfl), if_pos z0]
      · rw [if_neg (nI_ne0 (by omega) (by omega)), if_neg z0]
theorem th_m {A k r n th : Nat} {a2 : Int32} {τ : am_S} {K : Nat → Int32} (hA : A < 2 ^ 31) (ek : A / 1000 = k) (er : A % 1000 = r) (hk : k ≤ 6) (hn : n ≤ 12) (hth : th ≤ 24) (cn : τ 85 1 = nI n) (cth : τ 85 26 = nI th) (hK : ∀ o, o < th → K o = nI (nv (K o)) ∧ nv (K o) ≤ 6) (t5 : τ 105 = K) : fm_thing_b34 (nI A) a2 1 τ = fm_thing_b130 (nI A) a2 (th_pv k r n th K) τ := by
  have hr : r < 1000 := by omega
  have d1 : nI A / 1000 = nI k := by rw [hb_L1000, pk_div hA (by decide) (by decide), ek]
  have d2 : nI A - nI k * 1000 = nI r := by
    have := pk_rem (a := A) (d := 1000) hA (by decide) (by decide)
    rw [← hb_L1000, d1, er] at this
    exact this
  unfold fm_thing_b34 fm_thing_b65 fm_thing_b111 fm_thing_b115 fm_thing_b129 th_pv
  rw [d1, d2, if_neg (by decide)]
  by_cases z1 : k = 1
  · rw [if_pos (show nI k = 1 by rw [z1]; rfl), if_pos (Or.inl z1), hm_p (nI r) cn]
  · rw [if_neg (show ¬ nI k = 1 by rw [hb_L1, nI_eq (by omega) (by decide)]; exact z1)]
    by_cases z2 : k = 2
    · rw [if_pos (show nI k = 2 by rw [z2]; rfl), if_pos (Or.inr z2), hm_p (nI r) cn]
    · rw [if_neg (show ¬ nI k = 2 by rw [hb_L2, nI_eq (by omega) (by decide)]; exact z2), if_neg (show ¬ (k = 1 ∨ k = 2) by omega)]
      by_cases z5 : k = 5
      · rw [if_pos (show nI k = 5 by rw [z5]; rfl), if_pos z5, hm_t (nI r) cth]
        by_cases lt : r < th
        · have hs : hsE (nI r) th = 1 := by unfold hsE; rw [if_neg (nI_pos (by omega)), if_neg (nI_ge lt (by omega))]
          obtain ⟨y1, y2⟩ := hK r lt
          rw [hs, if_neg (by decide), hb_g (by omega) (by decide), nI_clamp (by omega), hb_g (by omega) (by decide), t5, y1]
          have nn : nv (nI (nv (K r))) = nv (K r) := nI_clamp (by omega)
          rw [nn]
          by_cases w1 : nv (K r) = 1
          · rw [if_pos (show nI (nv (K r)) = 1 by rw [w1]; rfl), if_pos ⟨lt, Or.inl w1⟩]
          · rw [if_neg (show ¬ nI (nv (K r)) = 1 by rw [hb_L1, nI_eq (by omega) (by decide)]; exact w1)]
            by_cases w2 : nv (K r) = 2
            · rw [if_pos (show nI (nv (K r)) = 2 by rw [w2]; rfl), if_pos ⟨lt, Or.inr w2⟩]
            · rw [if_neg (show ¬ nI (nv (K r)) = 2 by rw [hb_L2, nI_eq (by omega) (by decide)]; exact w2), if_neg (fun u => u.2.elim w1 w2)]
        · have hs : hsE (nI r) th = 0 := by unfold hsE; rw [if_neg (nI_pos (by omega)), if_pos (nI_le (by omega) (by omega))]
          rw [hs, if_pos rfl, if_neg (fun u => lt u.1)]
      · rw [if_neg (show ¬ nI k = 5 by rw [hb_L5, nI_eq (by omega) (by decide)]; exact z5), if_neg z5]
        by_cases z0 : r = 0
        · rw [if_pos (show nI r = 0 by rw [z0]; rfl), if_pos z0]
        · rw [if_neg (nI_ne0 (by omega) (by omega)), if_neg z0]
theorem C_thing {N : Nat} {σ : am_S} (a1 a2 : Int32) (hN : 20000 ≤ N) (h : R σ) : tw (fx_thing N a1 a2) (fm_thing a1 a2) σ := by
  have b0 : ∀ τ, fm_thing_b33 a1 a2 τ = (fm_finding 1 τ).bind fun q => some (q.1, q.2) := by
    intro τ
    unfold fm_thing_b33 fm_thing_b34 fm_thing_b130
    rw [if_pos rfl, if_pos rfl]
  by_cases c0 : a1 < 0
  · refine tw1 h ?_ ?_
    · unfold fx_thing fx_thing_b15; rw [if_pos c0, fx_f1]; rfl
    · unfold fm_thing; rw [if_pos c0, b0, fm_f1]; rfl
  obtain ⟨A, hA, eA⟩ := nI_of c0
  subst eA
  obtain ⟨k, ek⟩ : ∃ k, A / 1000 = k := ⟨_, rfl⟩
  obtain ⟨r, er⟩ : ∃ r, A % 1000 = r := ⟨_, rfl⟩
  have hr : r < 1000 := by omega
  have D1 : nI A / 1000 = nI k := by rw [hb_L1000, pk_div hA (by decide) (by decide), ek]
  have D2 : nI A - nI k * 1000 = nI r := by
    have := pk_rem (a := A) (d := 1000) hA (by decide) (by decide)
    rw [← hb_L1000, D1, er] at this
    exact this
  have g7 : ∀ τ, fx_Estate_isKind (nI k) τ = hsE (nI k) 7 := fun _ => rfl
  rcases inE_c a2 0 10000 with ⟨c2, kk⟩ | ⟨c2, k1, k2⟩
  · refine tw1 h ?_ ?_
    · unfold fx_thing fx_thing_b15
      rw [if_neg c0]
      by_cases z : a2 < 0
      · rw [if_pos z, fx_f1]; rfl
      · rw [if_neg z, if_neg (fun u => (ng.1 u) (kk.resolve_left z)), fx_f1]; rfl
    · unfold fm_thing
      rw [if_neg c0, in_m, in_m]
      by_cases z : inE (nI A / 1000) 0 6 = 0
      · rw [if_pos z, b0, fm_f1]; rfl
      · rw [if_neg z, if_pos c2, b0, fm_f1]; rfl
  have d2 : ¬ inE a2 0 10000 = 0 := by rw [c2]; decide
  by_cases k6 : k ≤ 6
  · have i6 : ¬ inE (nI k) 0 6 = 0 := by unfold inE; rw [if_neg (nI_pos (by omega)), if_neg (by rw [hb_L6]; exact nI_nlt (by omega) (by omega))]; decide
    have h7 : ¬ hsE (nI k) 7 = 0 := by unfold hsE; rw [if_neg (nI_pos (by omega)), if_neg (nI_ge (by omega) (by omega))]; decide
    obtain ⟨n, e, p, pe, th, ti, wa, ca, ta, dd, wt, tl, cn, ce, cp, cpe, cth, cti, cwa, cca, cta, cdy, cwt, ctl, f1_11, f1_12, f1_13, f13_7, f22_2, f21_6, f34_6, f34_7, f47_2, f47_3, f48_4, f73_4, f78_4, f0_11, f0_12, f47_0, f47_1, r2, r3, r4, r5, r6, r7, r8, r9, r10, r11, r14, r15, r18, r19, r20, r23, r35, r36, r37, r38, r39, r40, r49, r50, r74, r75, r76, r77, r79, r80, r84, hM, hL, hP, hE, hW, hG, hC, hT, hD, hX0, hX1, hX2, hK⟩ := h.1
    have m1 : σ 85 1 = nI n := by rw [← f1_11]; exact cn
    have m26 : σ 85 26 = nI th := by rw [← f34_6]; exact cth
    have l1 := hL.1
    have l3 := hE.1.1
    have kd := es_kd hE.1
    have kd2 : ∀ o, o < th → σ 105 o = nI (nv (σ 105 o)) ∧ nv (σ 105 o) ≤ 6 := by rw [← r35]; exact kd
    have px := th_x (N := N) (k := k) (r := r) (σ := σ) hN k6 hr l1 l3 cn cth kd
    have pm : ∀ τ : am_S, τ 85 1 = nI n → τ 85 26 = nI th → τ 105 = σ 105 → fm_thing (nI A) a2 τ = fm_thing_b130 (nI A) a2 (th_pv k r n th (σ 35)) τ := by
      intro τ t1 t2 t3
      unfold fm_thing
      rw [if_neg c0, in_m, D1, if_neg i6, in_m, if_neg d2, th_m hA ek er k6 l1 l3 t1 t2 kd2 t3, r35]
    by_cases pv : th_pv k r n th (σ 35) = 0
    · refine tw1 h ?_ ?_
      · unfold fx_thing fx_thing_b52; rw [if_neg c0, if_neg k1, if_pos (ng.2 k2), D1, g7, if_neg h7, D2, px, hb_bind, if_pos pv, fx_f1]; rfl
      · rw [pm (fnd 1 σ) m1 m26 rfl]; unfold fm_thing_b130; rw [if_pos pv, fm_f1]; rfl
    · by_cases q : th < 24
      · refine ⟨nI th, am_up (am_up (am_up (am_up (am_up σ 41 5 0) 35 th (nI k)) 36 th (nI r)) 37 th a2) 34 6 (nI (th + 1)), am_up (am_up (am_up (am_up (am_up (am_up (am_up (am_up (am_up (am_up σ 41 5 0) 35 th (nI k)) 36 th (nI r)) 37 th a2) 34 6 (nI (th + 1))) 105 th (nI k)) 107 th (nI r)) 106 th a2) 108 th 0) 85 26 (nI (th + 1)), ?_, ?_, ?_, ?_⟩
        · unfold fx_thing fx_Parting_forgetAll fx_Estate_addThing
          rw [if_neg c0, if_neg k1, if_pos (ng.2 k2), D1, g7, if_neg h7, D2, px, hb_bind, if_neg pv, cth, if_pos (by rw [hb_L24]; exact nI_lt q (by decide)), hb_bind, show (am_up σ 41 5 0) 34 6 = nI th from cth, hb_g q (by decide), hb_g q (by decide), hb_g q (by decide), hb_bind, nI_clamp (by omega), nI_1, nI_pred]
        · rw [pm (am_up (am_up (am_up (am_up (am_up σ 41 5 0) 35 th (nI k)) 36 th (nI r)) 37 th a2) 34 6 (nI (th + 1))) m1 m26 rfl]
          unfold fm_thing_b130
          rw [if_neg pv, show (am_up (am_up (am_up (am_up (am_up σ 41 5 0) 35 th (nI k)) 36 th (nI r)) 37 th a2) 34 6 (nI (th + 1))) 85 26 = nI th from m26, if_neg (by rw [hb_L24, nI_eq (by omega) (by decide)]; omega), hb_g q (by decide), hb_g q (by decide), hb_g q (by decide), hb_g q (by decide), nI_clamp (by omega), nI_1, nI_pred, D1, D2]
        · have hE2 : rE n (th + 1) ti (upd (σ 35) th (nI k)) (upd (σ 36) th (nI r)) (upd (σ 37) th a2) (σ 38) (σ 39) (σ 40) := by
            refine rE_add hE q k6 (in_nat (by decide) k1 k2) (fun z => ?_) (fun z => ?_)
            · unfold th_pv at pv
              rw [if_pos z] at pv
              rcases hsE_c (nI r) n (by omega) with u | ⟨j, u1, u2, _⟩
              · exact absurd u pv
              · exact ⟨j, u1, u2⟩
            · unfold th_pv at pv
              rw [if_neg (by omega), if_pos z] at pv
              by_cases u : r < th ∧ (nv (σ 35 r) = 1 ∨ nv (σ 35 r) = 2)
              · exact ⟨r, u.1, rfl, u.2⟩
              · rw [if_neg u] at pv; exact absurd rfl pv
          have r38' : σ 38 = upd (σ 108) th 0 := by
            rw [← r38]
            exact (fa_upd_same (hE.2.2.2 th (Nat.le_refl _))).symm
          exact ⟨n, e, p, pe, th + 1, ti, wa, ca, ta, dd, wt, tl, cn, ce, cp, cpe, rfl, cti, cwa, cca, cta, cdy, cwt, ctl, f1_11, f1_12, f1_13, f13_7, f22_2, f21_6, rfl, f34_7, f47_2, f47_3, f48_4, f73_4, f78_4, f0_11, f0_12, f47_0, f47_1, r2, r3, r4, r5, r6, r7, r8, r9, r10, r11, r14, r15, r18, r19, r20, r23, congrArg (fun f => upd f th (nI k)) r35, congrArg (fun f => upd f th (nI r)) r36, congrArg (fun f => upd f th a2) r37, r38', r39, r40, r49, r50, r74, r75, r76, r77, r79, r80, r84, hM, hL, hP, hE2, hW, (by repeat (first | exact hG | refine rG_up (by decide) ?_)), rCa_th hC, hT, hD, hX0, hX1, hX2, Or.inl rfl⟩
        · exact h.2
      · refine tw4 h ?_ ?_
        · unfold fx_thing; rw [if_neg c0, if_neg k1, if_pos (ng.2 k2), D1, g7, if_neg h7, D2, px, hb_bind, if_neg pv, cth, if_neg (by rw [hb_L24]; exact nI_nlt (by omega) (by omega)), fx_f4]; rfl
        · rw [pm (fnd 4 σ) m1 m26 rfl]; unfold fm_thing_b130; rw [if_neg pv, show fnd 4 σ 85 26 = nI th from m26, if_pos (by rw [hb_L24, nI_eq (by omega) (by decide)]; omega), fm_f4]; rfl
  · have i6 : inE (nI k) 0 6 = 0 := by unfold inE; rw [if_neg (nI_pos (by omega)), if_pos (by rw [hb_L6]; exact nI_lt (by omega) (by omega))]
    have h7 : hsE (nI k) 7 = 0 := by unfold hsE; rw [if_neg (nI_pos (by omega)), if_pos (nI_le (by omega) (by omega))]
    refine tw1 h ?_ ?_
    · unfold fx_thing fx_thing_b52; rw [if_neg c0, if_neg k1, if_pos (ng.2 k2), D1, g7, if_pos h7, fx_f1]; rfl
    · unfold fm_thing; rw [if_neg c0, in_m, D1, if_pos i6, b0, fm_f1]; rfl
theorem C_part {N : Nat} {σ : am_S} (a1 a2 : Int32) (hN : 20000 ≤ N) (h : R σ) : tw (fx_part N a1 a2) (fm_part a1 a2) σ := by
  obtain ⟨n, e, p, pe, th, ti, wa, ca, ta, dd, wt, tl, cn, ce, cp, cpe, cth, cti, cwa, cca, cta, cdy, cwt, ctl, f1_11, f1_12, f1_13, f13_7, f22_2, f21_6, f34_6, f34_7, f47_2, f47_3, f48_4, f73_4, f78_4, f0_11, f0_12, f47_0, f47_1, r2, r3, r4, r5, r6, r7, r8, r9, r10, r11, r14, r15, r18, r19, r20, r23, r35, r36, r37, r38, r39, r40, r49, r50, r74, r75, r76, r77, r79, r80, r84, hM, hL, hP, hE, hW, hG, hC, hT, hD, hX0, hX1, hX2, hK⟩ := h.1
  have m26 : σ 85 26 = nI th := by rw [← f34_6]; exact cth
  have l := hE.1.1
  rcases hsE_c a1 th (by omega) with c1 | ⟨j, i1, e1, c1⟩
  · refine tw1 h ?_ ?_
    · unfold fx_part fx_part_b16; rw [hx_t a1 cth, if_pos c1, fx_f1]; rfl
    · unfold fm_part fm_part_b13; rw [hm_t a1 (show fnd 1 σ 85 26 = nI th from m26), if_pos c1, fm_f1]; rfl
  have d1 : ¬ hsE a1 th = 0 := by rw [c1]; decide
  by_cases c2 : 1 ≤ a2
  · obtain ⟨kq, k2⟩ := es_kd hE.1 j i1
    obtain ⟨k, ek⟩ : ∃ k, nv (σ 35 j) = k := ⟨_, rfl⟩
    rw [ek] at kq k2
    have o1 : fx_Estate_isOf N (nI j) 3 σ = some (if kd_un k 3 = true then 1 else 0) := kd_isOf (w := 3) (by omega) (by omega) kq k2 (by decide)
    have k5 : σ 105 j = nI k := by rw [← r35]; exact kq
    obtain ⟨w, w1, w2⟩ := hE.1.2.2.2.1 j i1
    have w3 : σ 106 j = nI w := by rw [← r37]; exact w2
    by_cases q3 : 3 ≤ k
    · have mv : ∀ τ, fm_isMoved (nI k) τ = 1 := by intro τ; unfold fm_isMoved; rw [if_neg (by rw [hb_L3]; exact nI_nlt q3 (by omega))]
      by_cases c3 : a2 < nI w
      · by_cases q : th < 24
        · obtain ⟨b, b1, b2⟩ : okc a2 10000 := in_nat (by decide) (fun z => by
            rw [fa_lt] at z; rw [fa_le] at c2
            have : (0 : Int32).toInt = 0 := rfl
            have : (1 : Int32).toInt = 1 := rfl
            omega) (fun z => by
            rw [fa_lt, nI_toInt (by omega)] at z c3
            omega)
          subst b2
          have bw : b < w := by rw [nI_ltI (by omega) (by omega)] at c3; exact c3
          refine ⟨nI th, am_up (am_up (am_up (am_up (am_up (am_up σ 41 5 0) 37 j (nI (w - b))) 35 th (nI k)) 36 th (σ 36 j)) 37 th (nI b)) 34 6 (nI (th + 1)), am_up (am_up (am_up (am_up (am_up (am_up (am_up (am_up (am_up (am_up (am_up (am_up σ 41 5 0) 37 j (nI (w - b))) 35 th (nI k)) 36 th (σ 36 j)) 37 th (nI b)) 34 6 (nI (th + 1))) 105 th (nI k)) 107 th (σ 36 j)) 106 th (nI b)) 108 th 0) 106 j (nI (w - b))) 85 26 (nI (th + 1)), ?_, ?_, ?_, ?_⟩
          · unfold fx_part fx_Parting_forgetAll fx_Estate_addThing
            rw [hx_t a1 cth, if_neg d1, if_pos c2, e1, o1, if_pos (kd_3.2 q3), hb_bind, if_neg (by decide), hb_g (by omega) (by decide), nI_clamp (by omega), w2, if_pos c3, cth, if_pos (by rw [hb_L24]; exact nI_lt q (by decide)), hb_bind, show (am_up σ 41 5 0) 35 j = nI k from kq, show (am_up σ 41 5 0) 36 j = σ 36 j from rfl, show (am_up σ 41 5 0) 37 j = nI w from w2, pk_sub (by omega)]
            have z6 : (am_up (am_up σ 41 5 0) 37 j (nI (w - b))) 34 6 = nI th := cth
            rw [z6, hb_g (by omega) (by decide), hb_g (by omega) (by decide), hb_g (by omega) (by decide), hb_g (by omega) (by decide), hb_g q (by decide), hb_g q (by decide), hb_g q (by decide), hb_bind, nI_clamp (by omega), nI_1, nI_pred]
          · have z1 : (am_up (am_up (am_up (am_up (am_up (am_up σ 41 5 0) 37 j (nI (w - b))) 35 th (nI k)) 36 th (σ 36 j)) 37 th (nI b)) 34 6 (nI (th + 1))) 85 26 = nI th := m26
            have z2 : (am_up (am_up (am_up (am_up (am_up (am_up σ 41 5 0) 37 j (nI (w - b))) 35 th (nI k)) 36 th (σ 36 j)) 37 th (nI b)) 34 6 (nI (th + 1))) 105 j = nI k := k5
            have z3 : (am_up (am_up (am_up (am_up (am_up (am_up σ 41 5 0) 37 j (nI (w - b))) 35 th (nI k)) 36 th (σ 36 j)) 37 th (nI b)) 34 6 (nI (th + 1))) 106 j = nI w := w3
            have z4 : (am_up (am_up (am_up (am_up (am_up (am_up σ 41 5 0) 37 j (nI (w - b))) 35 th (nI k)) 36 th (σ 36 j)) 37 th (nI b)) 34 6 (nI (th + 1))) 107 j = σ 36 j := by show σ 107 j = σ 36 j; rw [r36]
            unfold fm_part
            generalize hτ : am_up (am_up (am_up (am_up (am_up (am_up σ 41 5 0) 37 j (nI (w - b))) 35 th (nI k)) 36 th (σ 36 j)) 37 th (nI b)) 34 6 (nI (th + 1)) = τ at *
            rw [hm_t a1 z1, if_neg d1, if_pos c2, e1, hb_g (by omega) (by decide), nI_clamp (by omega), z2, mv, if_neg (by decide), hb_g (by omega) (by decide), z3, if_pos c3, z1, if_neg (by rw [hb_L24, nI_eq (by omega) (by decide)]; omega)]
            rw [hb_g (by omega) (by decide), hb_g q (by decide), hb_g (by omega) (by decide), hb_g q (by decide), hb_g q (by decide), hb_g q (by decide), hb_g (by omega) (by decide), hb_g (by omega) (by decide), nI_clamp (by omega), z4, nI_1, nI_pred]
            have z5 : (am_up (am_up (am_up τ 105 th (nI k)) 107 th (σ 36 j)) 106 th (nI b)) 106 j = nI w := by
              rw [hb_up_eq, hb_un (by omega), hb_up_ne (by decide), hb_up_ne (by decide)]; exact z3
            rw [z5, pk_sub (by omega)]
          · have hE1 : rE n th ti (σ 35) (σ 36) (upd (σ 37) j (nI (w - b))) (σ 38) (σ 39) (σ 40) := by
              refine ⟨⟨hE.1.1, hE.1.2.1, hE.1.2.2.1, fun i hi => ?_, hE.1.2.2.2.2⟩, hE.2⟩
              by_cases z : i = j
              · subst z; rw [hb_us]; exact ⟨_, by omega, rfl⟩
              · rw [hb_un z]; exact hE.1.2.2.2.1 i hi
            have hE2 : rE n (th + 1) ti (upd (σ 35) th (nI k)) (upd (σ 36) th (σ 36 j)) (upd (upd (σ 37) j (nI (w - b))) th (nI b)) (σ 38) (σ 39) (σ 40) := by
              refine rE_add hE1 q k2 ⟨b, b1, rfl⟩ (fun z => ?_) (fun z => ?_)
              · exact (hE.2.1 j i1).1 (by omega)
              · exact (hE.2.1 j i1).2 (by omega)
            have r38' : σ 38 = upd (σ 108) th 0 := by
              rw [← r38]
              exact (fa_upd_same (hE.2.2.2 th (Nat.le_refl _))).symm
            have r37' : upd (upd (σ 37) j (nI (w - b))) th (nI b) = upd (upd (σ 106) th (nI b)) j (nI (w - b)) := by
              rw [← r37]; exact fa_upd_swap _ (by omega) _ _
            exact ⟨n, e, p, pe, th + 1, ti, wa, ca, ta, dd, wt, tl, cn, ce, cp, cpe, rfl, cti, cwa, cca, cta, cdy, cwt, ctl, f1_11, f1_12, f1_13, f13_7, f22_2, f21_6, rfl, f34_7, f47_2, f47_3, f48_4, f73_4, f78_4, f0_11, f0_12, f47_0, f47_1, r2, r3, r4, r5, r6, r7, r8, r9, r10, r11, r14, r15, r18, r19, r20, r23, congrArg (fun f => upd f th (nI k)) r35, congrArg (fun f => upd f th (σ 36 j)) r36, r37', r38', r39, r40, r49, r50, r74, r75, r76, r77, r79, r80, r84, hM, hL, hP, hE2, hW, (by repeat (first | exact hG | refine rG_up (by decide) ?_)), rCa_th hC, hT, hD, hX0, hX1, hX2, Or.inl rfl⟩
          · exact h.2
        · refine tw4 h ?_ ?_
          · unfold fx_part
            rw [hx_t a1 cth, if_neg d1, if_pos c2, e1, o1, if_pos (kd_3.2 q3), hb_bind, if_neg (by decide), hb_g (by omega) (by decide), nI_clamp (by omega), w2, if_pos c3, cth, if_neg (by rw [hb_L24]; exact nI_nlt (by omega) (by omega)), fx_f4]; rfl
          · unfold fm_part
            rw [hm_t a1 (show fnd 4 σ 85 26 = nI th from m26), if_neg d1, if_pos c2, e1, hb_g (by omega) (by decide), nI_clamp (by omega), show fnd 4 σ 105 j = nI k from k5, mv, if_neg (by decide), hb_g (by omega) (by decide), show fnd 4 σ 106 j = nI w from w3, if_pos c3, show fnd 4 σ 85 26 = nI th from m26, if_pos (by rw [hb_L24, nI_eq (by omega) (by decide)]; omega), fm_f4]; rfl
      · refine tw3 h ?_ ?_
        · unfold fx_part
          rw [hx_t a1 cth, if_neg d1, if_pos c2, e1, o1, if_pos (kd_3.2 q3), hb_bind, if_neg (by decide), hb_g (by omega) (by decide), nI_clamp (by omega), w2, if_neg c3, fx_f3]; rfl
        · unfold fm_part
          rw [hm_t a1 (show fnd 3 σ 85 26 = nI th from m26), if_neg d1, if_pos c2, e1, hb_g (by omega) (by decide), nI_clamp (by omega), show fnd 3 σ 105 j = nI k from k5, mv, if_neg (by decide), hb_g (by omega) (by decide), show fnd 3 σ 106 j = nI w from w3, if_neg c3, fm_f3]; rfl
    · have mv : ∀ τ, fm_isMoved (nI k) τ = 0 := by intro τ; unfold fm_isMoved; rw [if_pos (by rw [hb_L3]; exact nI_lt (by omega) (by decide))]
      refine tw5 h ?_ ?_
      · unfold fx_part
        rw [hx_t a1 cth, if_neg d1, if_pos c2, e1, o1, if_neg (fun u => q3 (kd_3.1 u)), hb_bind, if_pos rfl, fx_f5]; rfl
      · unfold fm_part
        rw [hm_t a1 (show fnd 5 σ 85 26 = nI th from m26), if_neg d1, if_pos c2, e1, hb_g (by omega) (by decide), nI_clamp (by omega), show fnd 5 σ 105 j = nI k from k5, mv, if_pos rfl, fm_f5]; rfl
  · refine tw1 h ?_ ?_
    · unfold fx_part fx_part_b16; rw [hx_t a1 cth, if_neg d1, if_neg c2, fx_f1]; rfl
    · unfold fm_part fm_part_b13; rw [hm_t a1 (show fnd 1 σ 85 26 = nI th from m26), if_neg d1, if_neg c2, fm_f1]; rfl

