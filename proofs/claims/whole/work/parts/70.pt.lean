/-! ===== the parting: who gets what ===== -/
def ea (n e p pe th ti : Nat) (σ : am_S) : Prop := R_all n e p pe σ ∧ σ 34 6 = nI th ∧ σ 34 7 = nI ti ∧ σ 85 26 = nI th ∧ σ 85 31 = nI ti ∧ rE n th ti (σ 35) (σ 36) (σ 37) (σ 38) (σ 39) (σ 40) ∧ σ 35 = σ 105 ∧ σ 36 = σ 107 ∧ σ 37 = σ 106 ∧ σ 38 = σ 108 ∧ σ 39 = σ 109 ∧ σ 40 = σ 110
theorem ea_sc {n e p pe th ti : Nat} {τ σ : am_S} (hs : sc τ σ) (h : ea n e p pe th ti σ) : ea n e p pe th ti τ := by
  refine ⟨R_all_sc hs h.1, ?_⟩
  have hF := hs.1
  have h85 := hs.2.2.2
  rw [hF 34 (by decide), hF 35 (by decide), hF 36 (by decide), hF 37 (by decide), hF 38 (by decide), hF 39 (by decide), hF 40 (by decide), hF 105 (by decide), hF 106 (by decide), hF 107 (by decide), hF 108 (by decide), hF 109 (by decide), hF 110 (by decide), h85 26 (by decide), h85 31 (by decide)]
  exact h.2
theorem ra_fr {n e p pe : Nat} {τ σ : am_S} (hF : ∀ c, c < 41 ∨ 46 < c → τ c = σ c) (h : R_all n e p pe σ) : R_all n e p pe τ := by
  unfold R_all ld_ok pp_ok at *
  rw [hF 1 (by decide), hF 2 (by decide), hF 3 (by decide), hF 4 (by decide), hF 5 (by decide), hF 6 (by decide), hF 7 (by decide), hF 8 (by decide), hF 9 (by decide), hF 10 (by decide), hF 11 (by decide), hF 86 (by decide), hF 87 (by decide), hF 88 (by decide), hF 89 (by decide), hF 90 (by decide), hF 91 (by decide), hF 92 (by decide), hF 93 (by decide), hF 94 (by decide), hF 95 (by decide), hF 85 (by decide), hF 13 (by decide), hF 14 (by decide), hF 15 (by decide), hF 16 (by decide), hF 17 (by decide), hF 18 (by decide), hF 19 (by decide), hF 20 (by decide), hF 96 (by decide), hF 97 (by decide), hF 98 (by decide), hF 99 (by decide), hF 100 (by decide), hF 101 (by decide), hF 21 (by decide), hF 104 (by decide), hF 26 (by decide), hF 27 (by decide), hF 25 (by decide), hF 103 (by decide), hF 29 (by decide), hF 30 (by decide), hF 28 (by decide), hF 32 (by decide), hF 33 (by decide), hF 31 (by decide)]
  exact h
theorem R_pt {N : Nat} {σ : am_S} (hN : 20000 ≤ N) (h : R σ) : ∃ (n e p pe th ti : Nat) (dl : Bool) (τ : am_S), ea n e p pe th ti σ ∧ es_dl (σ 31 6) dl ∧ fx_partThings N σ = some τ ∧ (∀ c, c < 41 ∨ 46 < c → τ c = σ c) ∧ pt_ok th ti (σ 35) (σ 37) (σ 39) (σ 40) dl (σ 31 5) (τ 41 6) (τ 41 7) (τ 41 8) (τ 41 9) (τ 44) ∧ R τ ∧ ea n e p pe th ti τ := by
  obtain ⟨n, e, p, pe, th, ti, wa, ca, ta, dd, wt, tl, cn, ce, cp, cpe, cth, cti, cwa, cca, cta, cdy, cwt, ctl, f1_11, f1_12, f1_13, f13_7, f22_2, f21_6, f34_6, f34_7, f47_2, f47_3, f48_4, f73_4, f78_4, f0_11, f0_12, f47_0, f47_1, r2, r3, r4, r5, r6, r7, r8, r9, r10, r11, r14, r15, r18, r19, r20, r23, r35, r36, r37, r38, r39, r40, r49, r50, r74, r75, r76, r77, r79, r80, r84, hM, hL, hP, hE, hW, hG, hC, hT, hD, hX0, hX1, hX2, hK⟩ := h.1
  have ha : R_all n e p pe σ := ⟨⟨cn, ce, cp, hL, by rw [← f1_11]; exact cn, by rw [← f1_12]; exact ce, by rw [← f1_13]; exact cp, r2, r3, r4, r5, r6, r7, r8, r9, r10, r11⟩, ⟨cpe, by rw [← f13_7]; exact cpe, hP, hM, r14, r15, r18, r19, r20⟩, hX0, hX1, hX2⟩
  have he : ea n e p pe th ti σ := ⟨ha, cth, cti, by rw [← f34_6]; exact cth, by rw [← f34_7]; exact cti, hE, r35, r36, r37, r38, r39, r40⟩
  have hd : es_dl (σ 31 6) (decide (σ 31 6 = 1)) := by
    obtain ⟨len, _, _, _, _, _, hF⟩ := hX2
    have g6 := hF.2.2.2.2.2.1
    rcases (rs_all_good (σ 32) len).2 with z | z
    · left; rw [g6, z]; exact ⟨rfl, rfl⟩
    · right; rw [g6, z]; exact ⟨rfl, rfl⟩
  obtain ⟨τ, t1, hF, t3, t4⟩ := sx_parts (N := N) hN cth cti hE.1 hd hK
  refine ⟨n, e, p, pe, th, ti, decide (σ 31 6 = 1), τ, he, hd, t1, hF, t4, ⟨?_, ?_⟩, ?_⟩
  · exact ⟨n, e, p, pe, th, ti, wa, ca, ta, dd, wt, tl, (by rw [hF 1 (by decide)]; exact cn), (by rw [hF 1 (by decide)]; exact ce), (by rw [hF 1 (by decide)]; exact cp), (by rw [hF 13 (by decide)]; exact cpe), (by rw [hF 34 (by decide)]; exact cth), (by rw [hF 34 (by decide)]; exact cti), (by rw [hF 48 (by decide)]; exact cwa), (by rw [hF 73 (by decide)]; exact cca), (by rw [hF 78 (by decide)]; exact cta), (by rw [hF 0 (by decide)]; exact cdy), (by rw [hF 0 (by decide)]; exact cwt), (by rw [hF 22 (by decide)]; exact ctl), (by rw [hF 1 (by decide), hF 85 (by decide)]; exact f1_11), (by rw [hF 1 (by decide), hF 85 (by decide)]; exact f1_12), (by rw [hF 1 (by decide), hF 85 (by decide)]; exact f1_13), (by rw [hF 13 (by decide), hF 85 (by decide)]; exact f13_7), (by rw [hF 22 (by decide), hF 85 (by decide)]; exact f22_2), (by rw [hF 21 (by decide), hF 85 (by decide)]; exact f21_6), (by rw [hF 34 (by decide), hF 85 (by decide)]; exact f34_6), (by rw [hF 34 (by decide), hF 85 (by decide)]; exact f34_7), (by rw [hF 47 (by decide), hF 85 (by decide)]; exact f47_2), (by rw [hF 47 (by decide), hF 85 (by decide)]; exact f47_3), (by rw [hF 48 (by decide), hF 85 (by decide)]; exact f48_4), (by rw [hF 73 (by decide), hF 85 (by decide)]; exact f73_4), (by rw [hF 78 (by decide), hF 85 (by decide)]; exact f78_4), (by rw [hF 0 (by decide), hF 85 (by decide)]; exact f0_11), (by rw [hF 0 (by decide), hF 85 (by decide)]; exact f0_12), (by rw [hF 47 (by decide), hF 111 (by decide)]; exact f47_0), (by rw [hF 47 (by decide), hF 111 (by decide)]; exact f47_1), (by rw [hF 2 (by decide), hF 86 (by decide)]; exact r2), (by rw [hF 3 (by decide), hF 87 (by decide)]; exact r3), (by rw [hF 4 (by decide), hF 88 (by decide)]; exact r4), (by rw [hF 5 (by decide), hF 95 (by decide)]; exact r5), (by rw [hF 6 (by decide), hF 89 (by decide)]; exact r6), (by rw [hF 7 (by decide), hF 90 (by decide)]; exact r7), (by rw [hF 8 (by decide), hF 91 (by decide)]; exact r8), (by rw [hF 9 (by decide), hF 92 (by decide)]; exact r9), (by rw [hF 10 (by decide), hF 93 (by decide)]; exact r10), (by rw [hF 11 (by decide), hF 94 (by decide)]; exact r11), (by rw [hF 14 (by decide), hF 96 (by decide)]; exact r14), (by rw [hF 15 (by decide), hF 97 (by decide)]; exact r15), (by rw [hF 18 (by decide), hF 99 (by decide)]; exact r18), (by rw [hF 19 (by decide), hF 100 (by decide)]; exact r19), (by rw [hF 20 (by decide), hF 101 (by decide)]; exact r20), (by rw [hF 23 (by decide), hF 102 (by decide)]; exact r23), (by rw [hF 35 (by decide), hF 105 (by decide)]; exact r35), (by rw [hF 36 (by decide), hF 107 (by decide)]; exact r36), (by rw [hF 37 (by decide), hF 106 (by decide)]; exact r37), (by rw [hF 38 (by decide), hF 108 (by decide)]; exact r38), (by rw [hF 39 (by decide), hF 109 (by decide)]; exact r39), (by rw [hF 40 (by decide), hF 110 (by decide)]; exact r40), (by rw [hF 49 (by decide), hF 112 (by decide)]; exact r49), (by rw [hF 50 (by decide), hF 115 (by decide)]; exact r50), (by rw [hF 74 (by decide), hF 116 (by decide)]; exact r74), (by rw [hF 75 (by decide), hF 117 (by decide)]; exact r75), (by rw [hF 76 (by decide), hF 118 (by decide)]; exact r76), (by rw [hF 77 (by decide), hF 119 (by decide)]; exact r77), (by rw [hF 79 (by decide), hF 120 (by decide)]; exact r79), (by rw [hF 80 (by decide), hF 121 (by decide)]; exact r80), (by rw [hF 84 (by decide), hF 122 (by decide)]; exact r84), (by intro i; rw [hF 16 (by decide), hF 17 (by decide), hF 98 (by decide)]; exact hM i), (by rw [hF 4 (by decide), hF 5 (by decide), hF 6 (by decide), hF 7 (by decide), hF 8 (by decide), hF 11 (by decide)]; exact hL), (by rw [hF 14 (by decide), hF 15 (by decide), hF 16 (by decide), hF 17 (by decide), hF 18 (by decide), hF 20 (by decide)]; exact hP), (by rw [hF 35 (by decide), hF 36 (by decide), hF 37 (by decide), hF 38 (by decide), hF 39 (by decide), hF 40 (by decide)]; exact hE), (by rw [hF 47 (by decide)]; exact hW), (rG_fr (fun c hc => hF c (by omega)) hG), (by rw [hF 74 (by decide), hF 75 (by decide), hF 77 (by decide), hF 35 (by decide)]; exact hC), (by rw [hF 79 (by decide), hF 80 (by decide)]; exact hT), hD, (by rw [hF 21 (by decide), hF 104 (by decide), hF 26 (by decide), hF 27 (by decide), hF 25 (by decide), hF 103 (by decide)]; exact hX0), (by rw [hF 21 (by decide), hF 104 (by decide), hF 29 (by decide), hF 30 (by decide), hF 28 (by decide), hF 103 (by decide)]; exact hX1), (by rw [hF 104 (by decide), hF 32 (by decide), hF 33 (by decide), hF 31 (by decide), hF 103 (by decide)]; exact hX2), (by rw [hF 35 (by decide), hF 37 (by decide), hF 39 (by decide), hF 40 (by decide), hF 31 (by decide)]; exact Or.inr ⟨t3, t4⟩)⟩
  · rw [hF 83 (by decide), hF 123 (by decide)]; exact h.2
  · refine ⟨ra_fr hF ha, ?_⟩
    rw [hF 34 (by decide), hF 35 (by decide), hF 36 (by decide), hF 37 (by decide), hF 38 (by decide), hF 39 (by decide), hF 40 (by decide), hF 105 (by decide), hF 106 (by decide), hF 107 (by decide), hF 108 (by decide), hF 109 (by decide), hF 110 (by decide), hF 85 (by decide)]
    exact he.2
/-- the reference's groups -/
theorem pm_tell {N n e p pe th ti : Nat} {dl : Bool} {ρ : am_S} (hN : 20000 ≤ N) (h : ea n e p pe th ti ρ) (hd : es_dl (ρ 31 6) dl) : ∃ ρ', fm_tellGroups N ρ = some ρ' ∧ sc ρ' ρ ∧ ρ' 85 58 = ρ 31 6 ∧ ρ' 85 64 = nI (pt_S th ti (ρ 35) (ρ 37) (ρ 39) (ρ 40) dl).1 ∧ (∀ o, o < th → ρ' 127 o = gp_gv (pt_cn (ρ 35) dl) (pt_S th ti (ρ 35) (ρ 37) (ρ 39) (ρ 40) dl).2.1 o) ∧ ((pt_S th ti (ρ 35) (ρ 37) (ρ 39) (ρ 40) dl).1 ≤ 14 → fm_allWorth N ρ' = some (pt_tot th (ρ 35) (ρ 37) dl) ∧ fm_wanted N ρ' = some (pt_aim th (ρ 35) (ρ 37) dl (ρ 31 5)) ∧ fm_parting N ρ' = some (nI (pt_lv th ti (ρ 35) (ρ 37) (ρ 39) (ρ 40) dl (ρ 31 5))) ∧ ∀ w, w < 2 ^ 14 → fm_sumOf N (nI w) ρ' = some (nr_S (pt_S th ti (ρ 35) (ρ 37) (ρ 39) (ρ 40) dl).1 (pt_S th ti (ρ 35) (ρ 37) (ρ 39) (ρ 40) dl).2.2 w)) := by
  obtain ⟨ha, h6, h7, m26, m31, hE, r35, r36, r37, r38, r39, r40⟩ := h
  obtain ⟨F, f1, f2, f3⟩ := lw_rd (N := N) hN ha
  obtain ⟨τ2, t1, t2, t3⟩ := f3 ρ (Or.inl (sc_refl ρ))
  obtain ⟨g1, g2, g3, g4, g5, g6, g7, g8⟩ := f1
  obtain ⟨u1, u2, u3, u4, u5, u6, u7, u8⟩ := t3
  have c105 : τ2 105 = ρ 35 := by rw [t2.1 105 (by decide) (by decide)]; exact r35.symm
  have c106 : τ2 106 = ρ 37 := by rw [t2.1 106 (by decide) (by decide)]; exact r37.symm
  have c109 : τ2 109 = ρ 39 := by rw [t2.1 109 (by decide) (by decide)]; exact r39.symm
  have c110 : τ2 110 = ρ 40 := by rw [t2.1 110 (by decide) (by decide)]; exact r40.symm
  have e57 : τ2 85 57 = ρ 31 5 := by rw [u5, g5]
  have e58 : τ2 85 58 = ρ 31 6 := by rw [u6, g6]
  obtain ⟨τ3, v1, v2, v3, v4, v5, v6⟩ := sm_tell (N := N) (σ := τ2) (n := th) (t := ti) (dl := dl) hN (by rw [t2.2 26 (by omega)]; exact m26) (by rw [t2.2 31 (by omega)]; exact m31) (by rw [c105, c106, c109, c110]; exact hE.1) (by rw [e58]; exact hd)
  rw [c105, c106, c109, c110] at v4 v5 v6
  have s1 := rm_sc t2
  have s2 : sc τ3 τ2 := by
    refine ⟨?_, ?_, ?_, ?_⟩
    · intro c hc
      refine v2 c ?_ ?_ ?_ ?_
      · intro z; rw [z] at hc; exact absurd hc (by decide)
      · intro z; rw [z] at hc; exact absurd hc (by decide)
      · intro z; rw [z] at hc; exact absurd hc (by decide)
      · intro z; rw [z] at hc; exact absurd hc (by decide)
    · intro k _; rw [v2 22 (by decide) (by decide) (by decide) (by decide)]
    · intro k _; rw [v2 78 (by decide) (by decide) (by decide) (by decide)]
    · intro k hk
      exact v3 k (fun z => by rw [z] at hk; exact absurd hk (by decide))
  refine ⟨τ3, ?_, sc_trans s2 s1, ?_, v4, v5, ?_⟩
  · unfold fm_tellGroups
    rw [t1, hb_bind]
    exact v1
  · rw [v3 58 (by decide)]; exact e58
  · intro c
    have w57 : τ3 85 57 = ρ 31 5 := by rw [v3 57 (by decide)]; exact e57
    have ea1 : τ3 85 57 * sq_s (pt_S th ti (ρ 35) (ρ 37) (ρ 39) (ρ 40) dl).2.2 (pt_S th ti (ρ 35) (ρ 37) (ρ 39) (ρ 40) dl).1 / 100 = pt_aim th (ρ 35) (ρ 37) dl (ρ 31 5) := by
      unfold pt_aim
      rw [w57, Int32.mul_comm, ← pt_sum (t := ti) (A := ρ 39) (B := ρ 40)]
    obtain ⟨k1, k2⟩ := sm_near (N := N) (σ := τ3) (g := (pt_S th ti (ρ 35) (ρ 37) (ρ 39) (ρ 40) dl).1) (s := (pt_S th ti (ρ 35) (ρ 37) (ρ 39) (ρ 40) dl).2.2) hN c (pt_bd hE.1) (d100 _) v4 v6
    rw [ea1] at k1 k2
    refine ⟨?_, k1, k2, ?_⟩
    · have := cm_all (N := N) (s := (pt_S th ti (ρ 35) (ρ 37) (ρ 39) (ρ 40) dl).2.2) (by omega) v4 v6 (pt_S th ti (ρ 35) (ρ 37) (ρ 39) (ρ 40) dl).1 0 N (by omega) (by omega)
      rw [← pt_sum (t := ti) (A := ρ 39) (B := ρ 40)] at this
      exact this
    · intro w hw
      exact sm_sum (by omega) c hw v4 v6
theorem tw_b {f g : am_S → Option (Int32 × am_S)} {σ : am_S} {v : Int32} (τ1 τ2 : am_S) (h : R τ1) (h2 : sc τ2 τ1) (hf : f σ = some (v, τ1)) (hg : g τ1 = some (v, τ2)) : tw f g σ := ⟨v, τ1, τ2, hf, hg, R_sc h2 h⟩
theorem tw_c {f g : am_S → Option (Int32 × am_S)} {σ : am_S} {v : Int32} (τ1 τ2 : am_S) (k : Nat) (h : R τ1) (h2 : sc τ2 (fnd k τ1)) (hf : f σ = some (v, fnd k τ1)) (hg : g (fnd k τ1) = some (v, fmd k τ2)) : tw f g σ := by
  obtain ⟨v', σ1, σ2, a1, a2, a3⟩ := tw_q (f := fun _ => some (v, fnd k τ1)) (g := g) (σ := τ1) (v := v) τ1 τ2 k h (sc_refl τ1) h2 rfl hg
  exact ⟨v', σ1, σ2, by rw [hf]; exact a1, a2, a3⟩
theorem C_rest {N : Nat} {σ : am_S} (a1 : Int32) (hN : 20000 ≤ N) (h : R σ) : tw (fx_rest N a1) (fm_rest N a1) σ := by
  rcases inE_c a1 0 2 with ⟨c1, k⟩ | ⟨c1, k1, k2⟩
  · refine tw1 h ?_ ?_
    · unfold fx_rest fx_rest_b9
      by_cases z : a1 < 0
      · rw [if_pos z, fx_f1]; rfl
      · rw [if_neg z, if_neg (fun u => (ng.1 u) (k.resolve_left z)), fx_f1]; rfl
    · unfold fm_rest; rw [in_m, if_pos c1, fm_f1]; rfl
  have d1 : ¬ inE a1 0 2 = 0 := by rw [c1]; decide
  obtain ⟨c, c4, ec⟩ : okc a1 2 := in_nat (by decide) k1 k2
  obtain ⟨n, e, p, pe, th, ti, dl, τ, he, hd, t1, hF, ⟨p1, p2, p3, p4⟩, hR, he2⟩ := R_pt (N := N) hN h
  have hd2 : es_dl (τ 31 6) dl := by rw [hF 31 (by decide)]; exact hd
  have le := pt_le (n := th) (t := ti) (K := σ 35) (W := σ 37) (A := σ 39) (B := σ 40) (dl := dl)
  have l24 := he.2.2.2.2.2.1.1.1
  obtain ⟨ρ, q1, q2, q3, q4, q5, q6⟩ := pm_tell (N := N) hN he2 hd2
  rw [hF 35 (by decide), hF 37 (by decide), hF 39 (by decide), hF 40 (by decide)] at q4 q5 q6
  rw [hF 31 (by decide)] at q6
  by_cases z2 : a1 = 2
  · refine tw_b (v := nI (pt_S th ti (σ 35) (σ 37) (σ 39) (σ 40) dl).1) τ ρ hR q2 ?_ ?_
    · unfold fx_rest; rw [if_neg k1, if_pos (ng.2 k2), t1, hb_bind, if_pos z2, p1]
    · unfold fm_rest; rw [in_m, if_neg d1, q1, hb_bind, if_pos z2, q4]
  by_cases cg : (pt_S th ti (σ 35) (σ 37) (σ 39) (σ 40) dl).1 ≤ 14
  · have tm : fx_Parting_isTooMany τ = 0 := by
      unfold fx_Parting_isTooMany; rw [p1, if_pos (by rw [hb_L14]; exact nI_le cg (by decide))]
    have tg : ρ 85 64 ≤ 14 := by rw [q4, hb_L14]; exact nI_le cg (by decide)
    obtain ⟨w1, w2, w3, w4⟩ := q6 cg
    obtain ⟨y1, y2⟩ := p4 cg
    by_cases z0 : a1 = 0
    · have lv : pt_lv th ti (σ 35) (σ 37) (σ 39) (σ 40) dl (σ 31 5) < 2 ^ 14 := by
        unfold pt_lv
        exact Nat.lt_of_lt_of_le (se_b_lt _ (Nat.two_pow_pos _)) (Nat.pow_le_pow_right (by decide) cg)
      refine tw_b (v := pt_rest th ti (σ 35) (σ 37) (σ 39) (σ 40) dl (σ 31 5)) τ ρ hR q2 ?_ ?_
      · unfold fx_rest; rw [if_neg k1, if_pos (ng.2 k2), t1, hb_bind, if_neg z2, if_pos tm, if_pos z0, y1]
      · unfold fm_rest; rw [in_m, if_neg d1, q1, hb_bind, if_neg z2, if_pos tg, if_neg (by rw [z0]; decide), w2, hb_bind, w3, hb_bind, w4 _ lv]; rfl
    · have z1 : a1 = 1 := by
        have : c = 0 ∨ c = 1 ∨ c = 2 := by omega
        rcases this with u | u | u
        · exact absurd (by rw [ec, u]; rfl) z0
        · rw [ec, u]; rfl
        · exact absurd (by rw [ec, u]; rfl) z2
      refine tw_b (v := pt_tot th (σ 35) (σ 37) dl) τ ρ hR q2 ?_ ?_
      · unfold fx_rest; rw [if_neg k1, if_pos (ng.2 k2), t1, hb_bind, if_neg z2, if_pos tm, if_neg z0, p2]
      · unfold fm_rest; rw [in_m, if_neg d1, q1, hb_bind, if_neg z2, if_pos tg, if_pos z1, w1]; rfl
  · have he3 : ea n e p pe th ti (fnd 3 τ) := he2
    have hd3 : es_dl (fnd 3 τ 31 6) dl := hd2
    obtain ⟨ρ, q1, q2, q3, q4, q5, q6⟩ := pm_tell (N := N) hN he3 hd3
    have q4' : ρ 85 64 = nI (pt_S th ti (τ 35) (τ 37) (τ 39) (τ 40) dl).1 := q4
    rw [hF 35 (by decide), hF 37 (by decide), hF 39 (by decide), hF 40 (by decide)] at q4'
    have tm : ¬ fx_Parting_isTooMany τ = 0 := by
      unfold fx_Parting_isTooMany; rw [p1, if_neg (by rw [hb_L14]; exact nI_ge (by omega) (by omega))]; decide
    have tg : ¬ ρ 85 64 ≤ 14 := by rw [q4', hb_L14]; exact nI_ge (by omega) (by omega)
    refine tw_c (v := -1000000003) τ ρ 3 hR q2 ?_ ?_
    · unfold fx_rest; rw [if_neg k1, if_pos (ng.2 k2), t1, hb_bind, if_neg z2, if_neg tm, fx_f3]; rfl
    · unfold fm_rest; rw [in_m, if_neg d1, q1, hb_bind, if_neg z2, if_neg tg, fm_f3]; rfl

