/-! ===== wagons: a new one ===== -/
theorem wg_d {c : Nat} (h : wg_c c = true) : (c < 48 ∨ 72 < c) ∧ c ≠ 85 ∧ c ≠ 112 ∧ c ≠ 113 ∧ c ≠ 114 ∧ c ≠ 115 := by
  refine ⟨?_, ?_, ?_, ?_, ?_, ?_⟩
  · unfold wg_c at h
    rw [Bool.and_eq_true, Bool.or_eq_true] at h
    rcases h.1 with z | z
    · exact Or.inl (Nat.le_of_ble_eq_true z)
    · exact Or.inr (Nat.le_of_ble_eq_true z)
  all_goals (intro z; rw [z] at h; exact absurd h (by decide))
/-- the rows of the class's wagons and of the reference's, as one row after another -/
theorem rG_w {n wa w c : Nat} {σ τ : am_S} (hG : rG n wa σ) (hw : w < wa) (h49 : τ 49 = σ 49) (h50 : τ 50 = upd (σ 50) w (nI c)) (h52 : ∀ w', w' < 10 → w' ≠ w → τ (52 + w') = σ (52 + w') ∧ τ (63 + w') = σ (63 + w')) (h113 : ∀ j, (j < 12 * w ∨ 12 * w + 12 ≤ j) → τ 113 j = σ 113 j ∧ τ 114 j = σ 114 j) (c1 : 1 ≤ c) (c2 : c ≤ 12) (hc : ∀ k, k < c → τ (52 + w) k = τ 113 (12 * w + k) ∧ (∃ a : Nat, a < n ∧ τ (52 + w) k = nI a) ∧ (1 ≤ k → τ (63 + w) k = τ 114 (12 * w + k))) : rG n wa τ := by
  obtain ⟨g1, g2, g3⟩ := hG
  refine ⟨g1, ?_, ?_⟩
  · intro w' hw'
    rw [h49, h50]
    obtain ⟨a1, c', a2, a3, a4, a5⟩ := g2 w' hw'
    by_cases z : w' = w
    · subst z
      refine ⟨a1, c, c1, c2, hb_us, hc⟩
    · refine ⟨a1, c', a2, a3, by rw [hb_un z]; exact a4, ?_⟩
      intro k hk
      obtain ⟨e1, e2⟩ := h52 w' (by omega) z
      obtain ⟨e3, e4⟩ := h113 (12 * w' + k) (by omega)
      rw [e1, e2, e3, e4]
      exact a5 k hk
  · intro w' b1 b2
    rw [h50, hb_un (by omega)]
    exact g3 w' b1 b2
theorem C_wagon {σ : am_S} (a1 a2 : Int32) (h : R σ) : tw (fx_wagon a1 a2) (fm_wagon a1 a2) σ := by
  obtain ⟨n, e, p, wa, hl, hg⟩ := R0_wg h.1
  have l10 := hg.2.2.1.1
  have l12 := hl.2.2.2.1.1
  rcases zoE_c a1 with c1 | ⟨k1, c1⟩
  · refine tw1 h ?_ ?_
    · unfold fx_wagon fx_wagon_b18; rw [zx_x, if_pos c1, fx_f1]; rfl
    · unfold fm_wagon fm_wagon_b15; rw [zx_s, if_pos c1, fm_f1]; rfl
  have d1 : ¬ zoE a1 = 0 := by rw [c1]; decide
  rcases hsE_c a2 n (by omega) with c2 | ⟨j, j1, j2, c2⟩
  · refine tw1 h ?_ ?_
    · unfold fx_wagon fx_wagon_b18; rw [zx_x, if_neg d1, hx_p a2 hl.1, if_pos c2, fx_f1]; rfl
    · unfold fm_wagon fm_wagon_b15; rw [zx_s, if_neg d1, hm_p a2 (ld_f hl).2.2.2.2.1, if_pos c2, fm_f1]; rfl
  have d2 : ¬ hsE a2 n = 0 := by rw [c2]; decide
  obtain ⟨w1, w2, hG, h49, h50, hdy, _⟩ := hg
  by_cases q : wa < 10
  · obtain ⟨τ1, ht1⟩ : ∃ τ1, τ1 = am_up (am_up (am_up (am_up (am_up σ 49 wa a1) (52 + wa) 0 a2) (63 + wa) 0 (σ 0 12)) 50 wa 1) 48 4 (nI (wa + 1)) := ⟨_, rfl⟩
    obtain ⟨τ2, ht2⟩ : ∃ τ2, τ2 = am_up (am_up (am_up (am_up (am_up τ1 112 wa a1) 113 (12 * wa) a2) 114 (12 * wa) 0) 115 wa 1) 85 37 (nI (wa + 1)) := ⟨_, rfl⟩
    have z50 : σ 50 wa = 0 := hG.2.2 wa (by omega) q
    have f1 : ∀ c, c ≠ 49 → c ≠ 52 + wa → c ≠ 63 + wa → c ≠ 50 → c ≠ 48 → τ1 c = σ c := by
      intro c x1 x2 x3 x4 x5
      rw [ht1, hb_up_ne x5, hb_up_ne x4, hb_up_ne x3, hb_up_ne x2, hb_up_ne x1]
    have f2 : ∀ c, c ≠ 112 → c ≠ 113 → c ≠ 114 → c ≠ 115 → c ≠ 85 → τ2 c = τ1 c := by
      intro c x1 x2 x3 x4 x5
      rw [ht2, hb_up_ne x5, hb_up_ne x4, hb_up_ne x3, hb_up_ne x2, hb_up_ne x1]
    have e49 : τ2 49 = upd (σ 49) wa a1 := by
      rw [f2 49 (by decide) (by decide) (by decide) (by decide) (by decide), ht1, hb_up_ne (by decide), hb_up_ne (by decide), hb_up_ne (by omega), hb_up_ne (by omega), hb_up_eq]
    have e50 : τ2 50 = upd (σ 50) wa 1 := by
      rw [f2 50 (by decide) (by decide) (by decide) (by decide) (by decide), ht1, hb_up_ne (by decide), hb_up_eq, hb_up_ne (by omega), hb_up_ne (by omega), hb_up_ne (by decide)]
    have e112 : τ2 112 = upd (σ 112) wa a1 := by
      rw [ht2, hb_up_ne (by decide), hb_up_ne (by decide), hb_up_ne (by decide), hb_up_ne (by decide), hb_up_eq, f1 112 (by decide) (by omega) (by omega) (by decide) (by decide)]
    have e115 : τ2 115 = upd (σ 115) wa 1 := by
      rw [ht2, hb_up_ne (by decide), hb_up_eq, hb_up_ne (by decide), hb_up_ne (by decide), hb_up_ne (by decide), f1 115 (by decide) (by omega) (by omega) (by decide) (by decide)]
    have e113 : τ2 113 = upd (σ 113) (12 * wa) a2 := by
      rw [ht2, hb_up_ne (by decide), hb_up_ne (by decide), hb_up_ne (by decide), hb_up_eq, hb_up_ne (by decide), f1 113 (by decide) (by omega) (by omega) (by decide) (by decide)]
    have e114 : τ2 114 = upd (σ 114) (12 * wa) 0 := by
      rw [ht2, hb_up_ne (by decide), hb_up_ne (by decide), hb_up_eq, hb_up_ne (by decide), hb_up_ne (by decide), f1 114 (by decide) (by omega) (by omega) (by decide) (by decide)]
    have e52 : τ2 (52 + wa) = upd (σ (52 + wa)) 0 a2 := by
      rw [f2 (52 + wa) (by omega) (by omega) (by omega) (by omega) (by omega), ht1, hb_up_ne (by omega), hb_up_ne (by omega), hb_up_ne (by omega), hb_up_eq, hb_up_ne (by omega)]
    have eo : ∀ w', w' < 10 → w' ≠ wa → τ2 (52 + w') = σ (52 + w') ∧ τ2 (63 + w') = σ (63 + w') := by
      intro w' b1 b2
      constructor
      · rw [f2 _ (by omega) (by omega) (by omega) (by omega) (by omega), f1 _ (by omega) (by omega) (by omega) (by omega) (by omega)]
      · rw [f2 _ (by omega) (by omega) (by omega) (by omega) (by omega), f1 _ (by omega) (by omega) (by omega) (by omega) (by omega)]
    have e85 : τ2 85 = upd (σ 85) 37 (nI (wa + 1)) := by
      rw [ht2, hb_up_eq, hb_up_ne (by decide), hb_up_ne (by decide), hb_up_ne (by decide), hb_up_ne (by decide), f1 85 (by decide) (by omega) (by omega) (by decide) (by decide)]
    have e48 : τ2 48 4 = nI (wa + 1) := by
      rw [f2 48 (by decide) (by decide) (by decide) (by decide) (by decide), ht1, hb_up_eq, hb_us]
    have hF : ∀ c, wg_c c = true → τ2 c = σ c := by
      intro c hc
      obtain ⟨x1, x2, x3, x4, x5, x6⟩ := wg_d hc
      rw [f2 c x3 x4 x5 x6 x2, f1 c (by omega) (by omega) (by omega) (by omega) (by omega)]
    have hG2 : rG n (wa + 1) τ2 := by
      obtain ⟨g1, g2, g3⟩ := hG
      refine ⟨by omega, ?_, ?_⟩
      · intro w' hw'
        rw [e49, e50, e113, e114]
        by_cases z : w' = wa
        · subst z
          refine ⟨by rw [hb_us]; exact k1, 1, by omega, by omega, hb_us, ?_⟩
          intro k hk
          have k0 : k = 0 := by omega
          subst k0
          rw [e52]
          refine ⟨by rw [hb_us]; exact hb_us.symm, ⟨j, j1, by rw [hb_us]; exact j2⟩, fun u => absurd u (by omega)⟩
        · obtain ⟨y1, c', y2, y3, y4, y5⟩ := g2 w' (by omega)
          refine ⟨by rw [hb_un z]; exact y1, c', y2, y3, by rw [hb_un z]; exact y4, ?_⟩
          intro k hk
          obtain ⟨o1, o2⟩ := eo w' (by omega) z
          rw [o1, o2, hb_un (by omega), hb_un (by omega)]
          exact y5 k hk
      · intro w' b1 b2
        rw [e50, hb_un (by omega)]
        exact g3 w' (by omega) b2
    have pm1 : nI (wa + 1) - 1 = nI wa := by rw [hb_L1, pk_sub (by omega)]; rfl
    refine ⟨nI wa, τ1, τ2, ?_, ?_, ?_, ?_⟩
    · unfold fx_wagon fx_Wagons_addWagon
      rw [zx_x, if_neg d1, hx_p a2 hl.1, if_neg d2, w1, if_pos (by rw [hb_L10]; exact nI_lt q (by decide)), hb_g q (by decide), nI_clamp (by omega)]
      unfold fx_Wagons_addStop
      have y50 : am_up σ 49 wa a1 50 wa = nI 0 := by rw [hb_up_ne (by decide)]; exact z50
      rw [hb_g q (by decide), nI_clamp (by omega), y50, if_neg (by decide), (ar_w wa q).1, hb_bind, hb_gt (ar_c q (by omega)).1, (ar_w wa q).2, hb_bind, hb_gt (ar_c q (by omega)).2, hb_g q (by decide), hb_bind]
      have y48 : am_up (am_up (am_up (am_up σ 49 wa a1) (52 + wa) (nI 0).toNatClampNeg a2) (63 + wa) (nI 0).toNatClampNeg (σ 0 12)) 50 wa (nI 0 + 1) 48 4 = nI wa := by
        rw [hb_up_ne (by decide), hb_up_ne (by omega), hb_up_ne (by omega), hb_up_ne (by decide)]; exact w1
      rw [y48, nI_1, pm1, hb_bind, ht1]
      rfl
    · unfold fm_wagon
      have z1 : τ1 85 1 = nI n := by rw [f1 85 (by decide) (by omega) (by omega) (by decide) (by decide)]; exact hl.2.2.2.2.1
      have z37 : τ1 85 37 = nI wa := by rw [f1 85 (by decide) (by omega) (by omega) (by decide) (by decide)]; exact w2
      have e12 : (12 : Int32) * nI wa = nI (12 * wa) := by rw [hb_L12, pk_mul]
      rw [zx_s, if_neg d1, hm_p a2 z1, if_neg d2, z37, if_neg (by rw [hb_L10, nI_eq (by omega) (by decide)]; omega), hb_g q (by decide), e12, hb_g (by omega) (by decide), hb_g (by omega) (by decide), hb_g q (by decide), nI_1, pm1, nI_clamp (by omega), nI_clamp (by omega), ht2]
    · refine R0_wag h.1 hl.1 l12 hF ?_ e48 (by rw [e85, hb_us]) (by rw [e49, e112, h49]) (by rw [e50, e115, h50]) hG2
      intro k hk
      rw [e85, hb_un (fun u => by rw [u] at hk; exact absurd hk (by decide))]
    · rw [hF 83 (by decide), hF 123 (by decide)]; exact h.2
  · refine tw4 h ?_ ?_
    · unfold fx_wagon; rw [zx_x, if_neg d1, hx_p a2 hl.1, if_neg d2, w1, if_neg (by rw [hb_L10]; exact nI_nlt (by omega) (by omega)), fx_f4]; rfl
    · unfold fm_wagon
      have z37 : fnd 4 σ 85 37 = nI wa := w2
      rw [zx_s, if_neg d1, hm_p a2 (ld_f hl).2.2.2.2.1, if_neg d2, z37, if_pos (by rw [hb_L10, nI_eq (by omega) (by decide)]; omega), fm_f4]; rfl

