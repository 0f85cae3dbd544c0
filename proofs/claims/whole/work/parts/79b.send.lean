theorem ld_wg {n e p : Nat} {τ σ : am_S} (hF : ∀ c, c ≤ 11 ∨ (85 ≤ c ∧ c ≤ 95) → τ c = σ c) (h : ld_ok n e p σ) : ld_ok n e p τ := by
  unfold ld_ok at *
  rw [hF 1 (by decide), hF 2 (by decide), hF 3 (by decide), hF 4 (by decide), hF 5 (by decide), hF 6 (by decide), hF 7 (by decide), hF 8 (by decide), hF 9 (by decide), hF 10 (by decide), hF 11 (by decide), hF 86 (by decide), hF 87 (by decide), hF 88 (by decide), hF 89 (by decide), hF 90 (by decide), hF 91 (by decide), hF 92 (by decide), hF 93 (by decide), hF 94 (by decide), hF 95 (by decide), hF 85 (by decide)]
  exact h
theorem rt_m {N n e p b w c dd : Nat} {σ : am_S} {D : Nat → Nat → Nat} {P : Nat → Nat} (hN : 20000 ≤ N) (h : ld_ok n e p σ) (hD : dsD e 1 σ D) (hb : b < n) (hw : w < 10) (hp : pa n e σ D b P c) (hc : c ≤ 12) (hd : dd ≤ 400) : ∀ r k q ρ, k + r + 1 = c → r < q → ld_ok n e p ρ → ρ 6 = σ 6 → ρ 7 = σ 7 → ρ 8 = σ 8 → ρ 9 = σ 9 → (∀ i j, i < n → j < n → ρ 124 (12 * i + j) = nI (D i j)) → ρ 115 w = nI (k + 1) → ∃ ρ', fm_send_b93 N q (nI w) (nI b) (nI (P k)) (nI (dd + D b (P 0) - D b (P k))) ρ = some (nI (dd + D b (P 0)), ρ') ∧ (∀ c', c' ≠ 113 → c' ≠ 114 → c' ≠ 115 → ρ' c' = ρ c') ∧ ρ' 115 = upd (ρ 115) w (nI c) ∧ (∀ j, j < 12 * w + (k + 1) ∨ 12 * w + 12 ≤ j → ρ' 113 j = ρ 113 j ∧ ρ' 114 j = ρ 114 j) ∧ (∀ j, k + 1 ≤ j → j < c → ρ' 113 (12 * w + j) = nI (P j) ∧ ρ' 114 (12 * w + j) = nI (dd + D b (P 0) - D b (P j))) := by
  have hp' := hp
  obtain ⟨p1, p2, p3, p4⟩ := hp
  have l1 := h.2.2.2.1.1
  have d0 : D b b = 0 := hD.1 b (by omega)
  have z99 := dt_99 h hD hb (p3 0 (by omega)).1 (p3 0 (by omega)).2.1
  intro r
  induction r with
  | zero =>
    intro k q ρ a1 a2 hl h6 h7 h8 h9 h124 h115
    obtain ⟨q, rfl⟩ : ∃ m, q = m + 1 := ⟨q - 1, by omega⟩
    have ek : c - 1 = k := by omega
    rw [ek] at p2
    refine ⟨ρ, ?_, fun _ _ _ _ => rfl, ?_, fun _ _ => ⟨rfl, rfl⟩, fun j b1 b2 => absurd b1 (by omega)⟩
    · rw [fm_send_b93, p2, if_pos rfl, d0, Nat.sub_zero]
    · rw [upd_same]; rw [h115]; exact congrArg nI (by omega)
  | succ r ih =>
    intro k q ρ a1 a2 hl h6 h7 h8 h9 h124 h115
    obtain ⟨q, rfl⟩ : ∃ m, q = m + 1 := ⟨q - 1, by omega⟩
    obtain ⟨ne, nq⟩ := p4 k (by omega)
    obtain ⟨k1, k2, k3⟩ := p3 k (by omega)
    obtain ⟨q1, q2, q3⟩ := p3 (k + 1) (by omega)
    have rr := (nb_rb (u := P k) (v := P (k + 1)) h hD hb).2 nq.2.1
    have ed : nI (dd + D b (P 0) - D b (P k)) + nI (rb σ (P k) (P (k + 1)) e) = nI (dd + D b (P 0) - D b (P (k + 1))) := by
      rw [nI_add]; exact congrArg nI (by omega)
    have sn := sn_m (N := N) (K := fun x1 x2 x3 x4 σ => fm_send_b93 N q x1 x2 x3 x4 σ) (x4 := nI (dd + D b (P 0) - D b (P k))) (w := w) (cc := k + 1) hN h hD hb k1 k2 hw nq hl h6 h7 h8 h9 h124 (by omega) h115 12 N (-1) 0 (by omega) (by omega) (Or.inl (by have := nq.1; omega))
    have e11 : nI 12 - 1 = (11 : Int32) := rfl
    rw [e11, ed] at sn
    obtain ⟨ρ', y1, y2, y3, y4, y5⟩ := ih (k + 1) q (am_up (am_up (am_up ρ 113 (12 * w + (k + 1)) (nI (P (k + 1)))) 114 (12 * w + (k + 1)) (nI (dd + D b (P 0) - D b (P (k + 1))))) 115 w (nI (k + 1 + 1))) (by omega) (by omega)
      (ld_wg (fun c' hc' => by rw [hb_up_ne (by omega), hb_up_ne (by omega), hb_up_ne (by omega)]) hl) (by rw [hb_up_ne (by decide), hb_up_ne (by decide), hb_up_ne (by decide)]; exact h6) (by rw [hb_up_ne (by decide), hb_up_ne (by decide), hb_up_ne (by decide)]; exact h7) (by rw [hb_up_ne (by decide), hb_up_ne (by decide), hb_up_ne (by decide)]; exact h8) (by rw [hb_up_ne (by decide), hb_up_ne (by decide), hb_up_ne (by decide)]; exact h9) (by rw [hb_up_ne (by decide), hb_up_ne (by decide), hb_up_ne (by decide)]; exact h124) (by rw [hb_up_eq, hb_us])
    refine ⟨ρ', ?_, ?_, ?_, ?_, ?_⟩
    · rw [fm_send_b93, if_neg (fun z => ne ((nI_eq (by omega) (by omega)).1 z))]
      exact Eq.trans sn y1
    · intro c' b1 b2 b3
      rw [y2 c' b1 b2 b3, hb_up_ne b3, hb_up_ne b2, hb_up_ne b1]
    · rw [y3, hb_up_eq, upd_upd, hb_up_ne (by decide), hb_up_ne (by decide)]
    · intro j hj
      rw [(y4 j (by omega)).1, (y4 j (by omega)).2, hb_up_ne (by decide), hb_up_ne (by decide), hb_up_eq, hb_un (by omega), hb_up_ne (by decide), hb_up_eq, hb_un (by omega), hb_up_ne (by decide)]
      exact ⟨rfl, rfl⟩
    · intro j b1 b2
      by_cases z : j = k + 1
      · subst z
        rw [(y4 (12 * w + (k + 1)) (by omega)).1, (y4 (12 * w + (k + 1)) (by omega)).2, hb_up_ne (by decide), hb_up_ne (by decide), hb_up_eq, hb_us, hb_up_ne (by decide), hb_up_eq, hb_us]
        exact ⟨rfl, rfl⟩
      · exact y5 j (by omega) b2
theorem pm_c {N : Nat} {ρ σ : am_S} (x1 x2 : Int32) (h3 : ρ 113 = σ 113) (h4 : ρ 114 = σ 114) (h5 : ρ 115 = σ 115) : fm_placeOn N x1 x2 ρ = fm_placeOn N x1 x2 σ := by
  have key : ∀ q x3 x4, fm_placeOn_b13 N q x1 x2 x3 x4 ρ = fm_placeOn_b13 N q x1 x2 x3 x4 σ := by
    intro q
    induction q with
    | zero => intro x3 x4; rfl
    | succ q ih =>
      intro x3 x4
      rw [fm_placeOn_b13, fm_placeOn_b13, h3, h4, h5]
      unfold fm_placeOn_b56
      simp only [ih]
  unfold fm_placeOn
  rw [h3, key]
theorem C_send {N X : Nat} {xs : Nat → Int32} {σ : am_S} (a1 a2 : Int32) (hN : 20000 ≤ N) (h : R σ) : tw (fx_send N X xs a1 a2) (fm_send N a1 a2) σ := by
  obtain ⟨n, e, p, wa, hl, hg⟩ := R0_wg h.1
  have l10 := hg.2.2.1.1
  have l12 := hl.2.2.2.1.1
  have m37 : ∀ k, fnd k σ 85 37 = nI wa := fun k => hg.2.1
  rcases hsE_c a1 wa (by omega) with c1 | ⟨w, i1, e1, c1⟩
  · refine tw1 h ?_ ?_
    · unfold fx_send fx_send_b22; rw [hx_w a1 hg.1, if_pos c1, fx_f1]; rfl
    · unfold fm_send fm_send_b16; rw [hm_w a1 (m37 1), if_pos c1, fm_f1]; rfl
  have d1 : ¬ hsE a1 wa = 0 := by rw [c1]; decide
  rcases hsE_c a2 n (by omega) with c2 | ⟨b, hb, e2, c2⟩
  · refine tw1 h ?_ ?_
    · unfold fx_send fx_send_b22; rw [hx_w a1 hg.1, if_neg d1, hx_p a2 hl.1, if_pos c2, fx_f1]; rfl
    · unfold fm_send fm_send_b16; rw [hm_w a1 (m37 1), if_neg d1, hm_p a2 (ld_f hl).2.2.2.2.1, if_pos c2, fm_f1]; rfl
  have d2 : ¬ hsE a2 n = 0 := by rw [c2]; decide
  have w10 : w < 10 := by omega
  obtain ⟨D, hD⟩ := dt_e 1 hl
  obtain ⟨a, ha, ea⟩ := pw_in (dy := σ 0 12) hg.2.2.1 i1
  obtain ⟨g, t1, t2⟩ := dt_x (N := N) hN hl hb hD
  have s1 : sc (am_set σ 12 g) σ := sc_set (by decide) (by decide)
  have sym : D a b = D b a := hD.2.1 a b (by omega) (by omega)
  obtain ⟨dd, dd1, dd2⟩ := hg.2.2.2.2.2.2
  have ix : (12 : Int32) * nI a + nI b = nI (12 * a + b) := by rw [hb_L12, pk_mul, nI_add]
  have iw : (12 : Int32) * nI w = nI (12 * w) := by rw [hb_L12, pk_mul]
  have pcx := pw_x (N := N) (X := X) (xs := xs) (dy := σ 0 12) hN hg.2.2.1 i1
  rw [ea] at pcx
  by_cases lt : D b a < 100000
  · have ga : am_set σ 12 g 12 a = nI (D b a) := by rw [hb_set_eq, t2 a ha]; unfold ds_x; rw [if_pos lt]
    have b99 := dt_99 hl hD hb ha lt
    obtain ⟨P, c, q1, q2, hp⟩ := pa_ex hl hD hb 11 a ha lt (by have := ds_rk_n (D := D) (i := b) ha; omega)
    have hT : D b (P 0) = D b a := by rw [q2]
    obtain ⟨τb, htb⟩ : ∃ τb, τb = am_up (am_up (am_up (am_up (am_set σ 12 g) 50 w 0) (52 + w) 0 (nI a)) (63 + w) 0 (nI dd)) 50 w (nI (0 + 1)) := ⟨_, rfl⟩
    have fb : ∀ c', c' ≠ 50 → c' ≠ 52 + w → c' ≠ 63 + w → τb c' = am_set σ 12 g c' := by
      intro c' b1 b2 b3
      rw [htb, hb_up_ne b1, hb_up_ne b3, hb_up_ne b2, hb_up_ne b1]
    obtain ⟨τ', x1, x2, x3, x4, x5⟩ := rt_x (N := N) (X := X) (xs := xs) (dd := dd) hN hl hD hb w10 hp (by omega) dd1 (c - 1) 0 N τb (by have := hp.1; omega) (by omega)
      (by rw [fb 1 (by decide) (by omega) (by omega)]; exact s1.1 1 (by decide)) (by rw [fb 6 (by decide) (by omega) (by omega)]; exact s1.1 6 (by decide)) (by rw [fb 7 (by decide) (by omega) (by omega)]; exact s1.1 7 (by decide)) (by rw [fb 8 (by decide) (by omega) (by omega)]; exact s1.1 8 (by decide)) (by rw [fb 9 (by decide) (by omega) (by omega)]; exact s1.1 9 (by decide)) (by rw [fb 12 (by decide) (by omega) (by omega), hb_set_eq]; exact t2) (by rw [htb, hb_up_eq, hb_us])
    rw [hT, q2] at x1
    rw [hT] at x5
    have f1 : ∀ c', c' ≠ 12 → c' ≠ 50 → c' ≠ 52 + w → c' ≠ 63 + w → τ' c' = σ c' := by
      intro c' b0 b1 b2 b3
      rw [x2 c' b1 b2 b3, fb c' b1 b2 b3, hb_set_ne b0]
    have hl1 : ld_ok n e p τ' := ld_wg (fun c' hc' => f1 c' (by omega) (by omega) (by omega) (by omega)) hl
    obtain ⟨g2, u1, u2⟩ := dt_r (N := N) (ρ := τ') hN hl hD hl1 (f1 6 (by decide) (by decide) (by omega) (by omega)) (f1 7 (by decide) (by decide) (by omega) (by omega)) (f1 8 (by decide) (by decide) (by omega) (by omega)) (f1 9 (by decide) (by decide) (by omega) (by omega))
    have f2 : ∀ c', c' ≠ 12 → c' ≠ 124 → c' ≠ 50 → c' ≠ 52 + w → c' ≠ 63 + w → am_set τ' 124 g2 c' = σ c' := by
      intro c' b0 b4 b1 b2 b3
      rw [hb_set_ne b4, f1 c' b0 b1 b2 b3]
    obtain ⟨ρ0, hr0⟩ : ∃ ρ0, ρ0 = am_up (am_up (am_up (am_set τ' 124 g2) 113 (12 * w) (nI a)) 114 (12 * w) (nI dd)) 115 w 1 := ⟨_, rfl⟩
    have f3 : ∀ c', c' ≠ 12 → c' ≠ 124 → c' ≠ 50 → c' ≠ 52 + w → c' ≠ 63 + w → c' ≠ 113 → c' ≠ 114 → c' ≠ 115 → ρ0 c' = σ c' := by
      intro c' b0 b4 b1 b2 b3 b5 b6 b7
      rw [hr0, hb_up_ne b7, hb_up_ne b6, hb_up_ne b5, f2 c' b0 b4 b1 b2 b3]
    have hl0 : ld_ok n e p ρ0 := ld_wg (fun c' hc' => f3 c' (by omega) (by omega) (by omega) (by omega) (by omega) (by omega) (by omega) (by omega)) hl
    obtain ⟨ρ', y1, y2, y3, y4, y5⟩ := rt_m (N := N) (dd := dd) hN hl hD hb w10 hp (by omega) dd1 (c - 1) 0 N ρ0 (by have := hp.1; omega) (by omega) hl0
      (f3 6 (by decide) (by decide) (by decide) (by omega) (by omega) (by decide) (by decide) (by decide)) (f3 7 (by decide) (by decide) (by decide) (by omega) (by omega) (by decide) (by decide) (by decide)) (f3 8 (by decide) (by decide) (by decide) (by omega) (by omega) (by decide) (by decide) (by decide)) (f3 9 (by decide) (by decide) (by decide) (by omega) (by omega) (by decide) (by decide) (by decide)) (by rw [hr0, hb_up_ne (by decide), hb_up_ne (by decide), hb_up_ne (by decide), hb_set_eq]; exact u2) (by rw [hr0, hb_up_eq, hb_us]; rfl)
    rw [hT, q2, Nat.add_sub_cancel] at y1
    rw [hT] at y5
    have hF : ∀ c', c' ≠ 12 → c' ≠ 124 → c' ≠ 50 → c' ≠ 52 + w → c' ≠ 63 + w → c' ≠ 113 → c' ≠ 114 → c' ≠ 115 → ρ' c' = σ c' := by
      intro c' b0 b4 b1 b2 b3 b5 b6 b7
      rw [y2 c' b5 b6 b7, f3 c' b0 b4 b1 b2 b3 b5 b6 b7]
    have s2 : sc (am_set (am_set σ 12 g) 124 g2) σ := sc_trans (sc_set (by decide) (by decide)) s1
    have r0 : ∀ c', c' ≠ 113 → c' ≠ 114 → c' ≠ 115 → ρ' c' = am_set τ' 124 g2 c' := by
      intro c' b5 b6 b7
      rw [y2 c' b5 b6 b7, hr0, hb_up_ne b7, hb_up_ne b6, hb_up_ne b5]
    have e50 : ρ' 50 = upd (σ 50) w (nI c) := by
      rw [r0 50 (by decide) (by decide) (by decide), hb_set_ne (by decide), x3, htb, hb_up_eq, upd_upd, hb_up_ne (by omega), hb_up_ne (by omega), hb_up_eq, upd_upd, hb_set_ne (by decide)]
    have e115 : ρ' 115 = upd (σ 115) w (nI c) := by
      rw [y3, hr0, hb_up_eq, upd_upd, hb_up_ne (by decide), hb_up_ne (by decide), f2 115 (by decide) (by decide) (by decide) (by omega) (by omega)]
    have e52 : ρ' (52 + w) = τ' (52 + w) := by rw [r0 _ (by omega) (by omega) (by omega), hb_set_ne (by omega)]
    have e63 : ρ' (63 + w) = τ' (63 + w) := by rw [r0 _ (by omega) (by omega) (by omega), hb_set_ne (by omega)]
    have e12 : ρ' 12 = g := by rw [r0 12 (by decide) (by decide) (by decide), hb_set_ne (by decide), x2 12 (by decide) (by omega) (by omega), fb 12 (by decide) (by omega) (by omega), hb_set_eq]
    have e124 : ρ' 124 = g2 := by rw [r0 124 (by decide) (by decide) (by decide), hb_set_eq]
    have hs' : ∀ c', c' ≠ 12 → c' ≠ 124 → am_set (am_set σ 12 g) 124 g2 c' = σ c' := fun c' b1 b2 => by rw [hb_set_ne b2, hb_set_ne b1]
    have hG' : rG n wa ρ' := by
      refine rG_w (σ := am_set (am_set σ 12 g) 124 g2) (w := w) (c := c) (rG_set (by decide) (rG_set (by decide) hg.2.2.1)) i1 ?_ ?_ ?_ ?_ hp.1 (by omega) ?_
      · rw [hs' 49 (by decide) (by decide)]; exact hF 49 (by decide) (by decide) (by decide) (by omega) (by omega) (by decide) (by decide) (by decide)
      · rw [hs' 50 (by decide) (by decide)]; exact e50
      · intro w' b1 b2
        rw [hs' _ (by omega) (by omega), hs' _ (by omega) (by omega)]
        exact ⟨hF _ (by omega) (by omega) (by omega) (by omega) (by omega) (by omega) (by omega) (by omega), hF _ (by omega) (by omega) (by omega) (by omega) (by omega) (by omega) (by omega) (by omega)⟩
      · intro j hj
        rw [hs' 113 (by decide) (by decide), hs' 114 (by decide) (by decide), (y4 j (by omega)).1, (y4 j (by omega)).2, hr0, hb_up_ne (by decide), hb_up_ne (by decide), hb_up_eq, hb_un (by omega), hb_up_ne (by decide), hb_up_eq, hb_un (by omega), hb_up_ne (by decide), f2 113 (by decide) (by decide) (by decide) (by omega) (by omega), f2 114 (by decide) (by decide) (by decide) (by omega) (by omega)]
        exact ⟨rfl, rfl⟩
      · intro k hk
        rw [e52, e63]
        by_cases z : k = 0
        · subst z
          have r52 : τ' (52 + w) 0 = nI a := by
            rw [(x4 0 (by omega)).1, htb, hb_up_ne (by omega), hb_up_ne (by omega), hb_up_eq, hb_us]
          have r113 : ρ' 113 (12 * w + 0) = nI a := by
            rw [(y4 (12 * w + 0) (by omega)).1, hr0, hb_up_ne (by decide), hb_up_ne (by decide), hb_up_eq]; exact hb_us
          rw [r52, r113]
          exact ⟨rfl, ⟨a, ha, rfl⟩, fun v => absurd v (by omega)⟩
        · obtain ⟨v1, v2⟩ := x5 k (by omega) hk
          obtain ⟨v3, v4⟩ := y5 k (by omega) hk
          rw [v1, v2, v3, v4]
          exact ⟨rfl, ⟨P k, (hp.2.2.1 k hk).1, rfl⟩, fun _ => rfl⟩
    refine ⟨nI (dd + D b a), τ', ρ', ?_, ?_, ?_, ?_⟩
    · unfold fx_send fx_Wagons_route
      rw [hx_w a1 hg.1, if_neg d1, hx_p a2 hl.1, if_neg d2, e1, e2, pcx, hb_bind, t1, hb_bind, hb_g (by omega) (by decide), nI_clamp (by omega), ga, if_pos (by rw [hb_L1000000]; exact nI_lt (by omega) (by decide)), hb_g w10 (by decide), nI_clamp (by omega), as_x (k := 0) w10 (by omega) (by rw [hb_up_eq, hb_us]; rfl), hb_bind, dd2, ← htb]
      have x1' : fx_Wagons_route_b56 N X xs N (nI w) (nI b) (nI dd) (nI (D b a)) (nI a) 1 τb = some (nI (dd + D b a), τ') := x1
      rw [x1', hb_bind, if_pos (nI_pos' (by omega))]
    · unfold fm_send
      have z37 : τ' 85 37 = nI wa := by rw [f1 85 (by decide) (by decide) (by omega) (by omega)]; exact hg.2.1
      have z0 : am_set τ' 124 g2 85 0 = nI dd := by rw [f2 85 (by decide) (by decide) (by decide) (by omega) (by omega), ← hg.2.2.2.2.2.1]; exact dd2
      have pm : fm_placeOn N (nI w) (nI dd) (am_set τ' 124 g2) = some (nI a) := by
        rw [pm_c (σ := σ) _ _ (f2 113 (by decide) (by decide) (by decide) (by omega) (by omega)) (f2 114 (by decide) (by decide) (by decide) (by omega) (by omega)) (f2 115 (by decide) (by decide) (by decide) (by omega) (by omega)), pw_m hN hg.2.2.1 hg.2.2.2.2.1 i1, ← dd2, ea]
      rw [hm_w a1 z37, if_neg d1, hm_p a2 hl1.2.2.2.2.1, if_neg d2, u1, hb_bind, e1, e2, z0, pm, hb_bind, ix, hb_g (by omega) (by decide), nI_clamp (show 12 * a + b < 2 ^ 31 by omega), hb_set_eq, u2 a b ha hb, sym, if_pos (by rw [hb_L100000]; exact nI_lt (by omega) (by decide)), iw, hb_g (by omega) (by decide), hb_g (by omega) (by decide), hb_g w10 (by decide), nI_clamp (by omega), nI_clamp (by omega), ← hr0]
      exact y1
    · refine R0_wag (R0_sc s2 h.1) (by rw [s2.1 1 (by decide)]; exact hl.1) l12 ?_ ?_ ?_ ?_ ?_ ?_ hG'
      · intro c' hc'
        obtain ⟨v1, v2, v3, v4, v5, v6⟩ := wg_d hc'
        by_cases z : c' = 12
        · rw [z, e12, hb_set_ne (by decide), hb_set_eq]
        · by_cases z' : c' = 124
          · rw [z', e124, hb_set_eq]
          · rw [hs' c' z z', hF c' z z' (by omega) (by omega) (by omega) (by omega) (by omega) (by omega)]
      · intro k _
        rw [hs' 85 (by decide) (by decide), hF 85 (by decide) (by decide) (by decide) (by omega) (by omega) (by decide) (by decide) (by decide)]
      · rw [hF 48 (by decide) (by decide) (by decide) (by omega) (by omega) (by decide) (by decide) (by decide)]; exact hg.1
      · rw [hF 85 (by decide) (by decide) (by decide) (by omega) (by omega) (by decide) (by decide) (by decide)]; exact hg.2.1
      · rw [hF 49 (by decide) (by decide) (by decide) (by omega) (by omega) (by decide) (by decide) (by decide), hF 112 (by decide) (by decide) (by decide) (by omega) (by omega) (by decide) (by decide) (by decide)]; exact hg.2.2.2.1
      · rw [e50, e115, hg.2.2.2.2.1]
    · rw [hF 83 (by decide) (by decide) (by decide) (by omega) (by omega) (by decide) (by decide) (by decide), hF 123 (by decide) (by decide) (by decide) (by omega) (by omega) (by decide) (by decide) (by decide)]; exact h.2
  · have b100 : D b a = 100000 := by have := hD.2.2.1 b a (by omega) (by omega); omega
    have ga : am_set σ 12 g 12 a = nI 1000000 := by rw [hb_set_eq, t2 a ha]; unfold ds_x; rw [if_neg lt]
    have hl1 := ld_f (k := 2) (ld_sc s1 hl)
    have hg1 := wg_f (k := 2) (wg_sc s1 hg)
    obtain ⟨g2, u1, u2⟩ := dt_r (N := N) (ρ := fnd 2 (am_set σ 12 g)) hN hl hD hl1 (s1.1 6 (by decide)) (s1.1 7 (by decide)) (s1.1 8 (by decide)) (s1.1 9 (by decide))
    have s2 : sc (am_set (fnd 2 (am_set σ 12 g)) 124 g2) (fnd 2 (am_set σ 12 g)) := sc_set (by decide) (by decide)
    refine tw_q (v := -1000000002) (am_set σ 12 g) (am_set (fnd 2 (am_set σ 12 g)) 124 g2) 2 h s1 s2 ?_ ?_
    · unfold fx_send fx_Wagons_route
      rw [hx_w a1 hg.1, if_neg d1, hx_p a2 hl.1, if_neg d2, e1, e2, pcx, hb_bind, t1, hb_bind, hb_g (by omega) (by decide), nI_clamp (by omega), ga, if_neg (by decide), hb_bind, if_neg (show ¬ (0 : Int32) ≤ -1 by decide), fx_f2]; rfl
    · unfold fm_send
      have z0 : am_set (fnd 2 (am_set σ 12 g)) 124 g2 85 0 = σ 0 12 := hg.2.2.2.2.2.1.symm
      have pm : fm_placeOn N (nI w) (σ 0 12) (am_set (fnd 2 (am_set σ 12 g)) 124 g2) = some (nI a) := by
        rw [pm_c (ρ := am_set (fnd 2 (am_set σ 12 g)) 124 g2) (σ := σ) (nI w) (σ 0 12) rfl rfl rfl, pw_m hN hg.2.2.1 hg.2.2.2.2.1 i1, ea]
      rw [hm_w a1 hg1.2.1, if_neg d1, hm_p a2 hl1.2.2.2.2.1, if_neg d2, u1, hb_bind, e1, e2, z0, pm, hb_bind, ix, hb_g (by omega) (by decide), nI_clamp (by omega), hb_set_eq, u2 a b ha hb, sym, b100, if_neg (by decide), fm_f2]; rfl

