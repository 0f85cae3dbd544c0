/-! ===== the most tasks ===== -/
theorem bs_m {N n : Nat} {dy nd : Nat → Nat} {L : Int} {bc bd : Nat} {bo : Nat → Nat} {σ : am_S} (hN : 20000 ≤ N) (h : tm_ok n dy nd L σ) (hc : tk_CB n dy nd L (2 ^ n) bc bd bo) : ∃ ρ, fm_tellTasks N σ = some ρ ∧ sc ρ σ ∧ ρ 129 0 = nI bc ∧ ρ 130 0 = nI bd ∧ ∀ j, j < bc → fm_best_b64 N N (nI j) 0 0 0 ρ = some (nI (bo j), ρ) := by
  obtain ⟨f, g, t1, t2⟩ := sm_table (N := N) hN h
  have hT : ∀ s, s < 2 ^ n → tk_B n dy nd L s (nv (f s)) (nv (g s)) := fun s hs => (t2 s (Nat.zero_le _) hs).2.2
  obtain ⟨x1, x2, x3⟩ := t2 0 (Nat.zero_le _) (Nat.two_pow_pos n)
  obtain ⟨e1, e2⟩ := tk_same hc x3
  have go := tm_go h.1 hT
  have ord := tk_ord (q := tm_q n dy nd L (fun u => nv (f u)) (fun u => nv (g u))) (mt := fun u => nv (f u)) (fd := fun u => nv (g u)) hc hT e1 e2 (by
    intro k hk
    have gk := go k (by omega)
    obtain ⟨_, _, _, _, g5⟩ := gk
    obtain ⟨g6, g7⟩ := g5 (by omega)
    rw [tm_dn]
    obtain ⟨p1, p2, p3⟩ := tm_P_t.1 g7
    refine ⟨g6, p1, by rw [e1]; exact p2, by rw [e2]; exact p3, ?_⟩
    intro t ht hh
    have : tm_P n dy nd L (fun u => nv (f u)) (fun u => nv (g u)) (tm_gs n dy nd L (fun u => nv (f u)) (fun u => nv (g u)) k) t = true := tm_P_t.2 ⟨hh.1, by rw [← e1]; exact hh.2.1, by rw [← e2]; exact hh.2.2⟩
    have mn := fa_first_no (tm_P n dy nd L (fun u => nv (f u)) (fun u => nv (g u)) (tm_gs n dy nd L (fun u => nv (f u)) (fun u => nv (g u)) k)) n t ht
    rw [this] at mn; exact absurd mn (by decide))
  refine ⟨tm_s σ f g, t1, ?_, ?_, ?_, ?_⟩
  · unfold tm_s
    exact sc_trans (sc_set (by decide) (by decide)) (sc_set (by decide) (by decide))
  · rw [tm_129, x1, e1]
  · rw [tm_130, x2, e2]
  · intro j hj
    have n9 := h.1
    have m9 : nv (f 0) ≤ 9 := by
      obtain ⟨o, K, _, q2, _⟩ := x3.1
      rw [← q2]; exact Nat.le_trans (fb_ct_le _ _) h.1
    have := tm_b64 (N := N) (σ := σ) (x1 := j) (by omega) h t2 (by omega) (j + 1) 0 N 0 (by omega) (by omega) (Or.inl rfl)
    rw [ord j hj]
    exact this
theorem C_best {N : Nat} {σ : am_S} (a1 : Int32) (hN : 20000 ≤ N) (h : R σ) : tw (fx_best N a1) (fm_best N a1) σ := by
  by_cases c2 : (-2 : Int32) ≤ a1
  · have st : ∃ ta, σ 78 4 = nI ta ∧ σ 85 47 = nI ta ∧ rT ta (σ 79) (σ 80) ∧ σ 79 = σ 120 ∧ σ 80 = σ 121 ∧ σ 0 12 = σ 85 0 := by
      obtain ⟨n, e, p, pe, th, ti, wa, ca, ta, dd, wt, tl, cn, ce, cp, cpe, cth, cti, cwa, cca, cta, cdy, cwt, ctl, f1_11, f1_12, f1_13, f13_7, f22_2, f21_6, f34_6, f34_7, f47_2, f47_3, f48_4, f73_4, f78_4, f0_11, f0_12, f47_0, f47_1, r2, r3, r4, r5, r6, r7, r8, r9, r10, r11, r14, r15, r18, r19, r20, r23, r35, r36, r37, r38, r39, r40, r49, r50, r74, r75, r76, r77, r79, r80, r84, hM, hL, hP, hE, hW, hG, hC, hT, hD, hX0, hX1, hX2, hK⟩ := h.1
      exact ⟨ta, cta, by rw [← f78_4]; exact cta, hT, r79, r80, f0_12⟩
    obtain ⟨ta, cta, m47, ⟨l9, d1, d2, d3⟩, r79, r80, f0⟩ := st
    have dyo : ∀ t, t < ta → σ 79 t = nI (nv (σ 79 t)) ∧ nv (σ 79 t) ≤ 200 := by
      intro t ht
      obtain ⟨x, x1, x2⟩ := d1 t ht
      have : nv (nI x) = x := nI_clamp (by omega)
      rw [x2, this]; exact ⟨rfl, x1⟩
    have ndo : ∀ t, t < ta → σ 80 t = nI (nv (σ 80 t)) ∧ nv (σ 80 t) < 512 := by
      intro t _
      obtain ⟨x, x1, x2⟩ := d2 t
      have : nv (nI x) = x := nI_clamp (by omega)
      rw [x2, this]; exact ⟨rfl, by omega⟩
    obtain ⟨τ, t1, t2, t3, bc, bd, bo, b1, b2, b3, b4⟩ := sx_best (N := N) (σ := σ) (x1 := 365 - σ 0 12) (n := ta) (dy := fun t => nv (σ 79 t)) (nd := fun t => nv (σ 80 t)) hN ⟨l9, cta, dyo, ndo⟩ rfl
    have bc9 : bc ≤ 9 := by
      obtain ⟨v, _, _, v3, _⟩ := b4.1
      rw [← v3]; exact Nat.le_trans (fb_ct_le _ _) l9
    have s1 : sc τ σ := by
      refine ⟨?_, ?_, ?_, ?_⟩
      · intro c hc
        refine t2 c ?_ ?_ ?_
        · intro z; rw [z] at hc; exact absurd hc (by decide)
        · intro z; rw [z] at hc; exact absurd hc (by decide)
        · intro z; rw [z] at hc; exact absurd hc (by decide)
      · intro k _; rw [t2 22 (by decide) (by decide) (by decide)]
      · intro k hk
        refine t3 k ?_ ?_
        · intro z; rw [z] at hk; exact absurd hk (by decide)
        · intro z; rw [z] at hk; exact absurd hk (by decide)
      · intro k _; rw [t2 85 (by decide) (by decide) (by decide)]
    have tm : tm_ok ta (fun t => nv (σ 79 t)) (fun t => nv (σ 80 t)) ((365 : Int32) - σ 0 12).toInt τ := by
      refine ⟨l9, ?_, ?_, ?_, ?_⟩
      · rw [s1.2.2.2 47 (by decide)]; exact m47
      · rw [s1.1 120 (by decide), ← r79]; exact dyo
      · rw [s1.1 121 (by decide), ← r80]; exact ndo
      · rw [s1.2.2.2 0 (by decide), ← f0]
    rcases hb_sp a1 with ng1 | ⟨j, j1, j2⟩
    · have np : ¬ (0 : Int32) ≤ a1 := fun u => (ng.1 u) ng1
      obtain ⟨ρ, q1, q2, q3, q4, q5⟩ := bs_m (N := N) hN tm b4
      by_cases z : a1 = -1
      · refine tw_a (v := nI bc) τ ρ h s1 q2 ?_ ?_
        · unfold fx_best; rw [if_pos c2, t1, hb_bind, if_pos z, b1]
        · unfold fm_best; rw [if_pos c2, q1, hb_bind, if_neg np, if_pos z, hb_gt (hb_in0 (by decide) (by decide)), hb_cl0, q3]
      · have z2 : a1 = -2 := by
          refine (fa_eq _ _).2 ?_
          have u1 := (fa_le _ _).1 c2
          have u2 := (fa_lt _ _).1 ng1
          have u3 : ¬ a1.toInt = -1 := fun u => z ((fa_eq _ _).2 u)
          have w1 : (-2 : Int32).toInt = -2 := rfl
          have w2 : (0 : Int32).toInt = 0 := rfl
          omega
        refine tw_a (v := nI bd) τ ρ h s1 q2 ?_ ?_
        · unfold fx_best; rw [if_pos c2, t1, hb_bind, if_neg z, if_pos z2, b2]
        · unfold fm_best; rw [if_pos c2, q1, hb_bind, if_neg np, if_neg z, hb_gt (hb_in0 (by decide) (by decide)), hb_cl0, q4]
    · have np : (0 : Int32) ≤ a1 := by rw [j2]; exact nI_pos' j1
      have zz : ∀ m : Int32, m < 0 → ¬ a1 = m := fun m hm u => by rw [← u] at hm; exact (ng.1 np) hm
      by_cases lt : j < bc
      · obtain ⟨ρ, q1, q2, q3, q4, q5⟩ := bs_m (N := N) hN tm b4
        refine tw_a (v := nI (bo j)) τ ρ h s1 q2 ?_ ?_
        · unfold fx_best; rw [if_pos c2, t1, hb_bind, if_neg (zz (-1) (by decide)), if_neg (zz (-2) (by decide)), b1, j2, if_neg (nI_ge (by omega) (by omega)), hb_g (by omega) (by decide), nI_clamp (by omega), b3 j lt]
        · unfold fm_best; rw [if_pos c2, q1, hb_bind, if_pos np, hb_gt (hb_in0 (by decide) (by decide)), hb_cl0, q3, j2, if_pos (nI_lt lt (by omega)), q5 j lt]
      · have tm2 : tm_ok ta (fun t => nv (σ 79 t)) (fun t => nv (σ 80 t)) ((365 : Int32) - σ 0 12).toInt (fnd 2 τ) := tm
        obtain ⟨ρ, q1, q2, q3, q4, q5⟩ := bs_m (N := N) hN tm2 b4
        refine tw_q (v := -1000000002) τ ρ 2 h s1 q2 ?_ ?_
        · unfold fx_best; rw [if_pos c2, t1, hb_bind, if_neg (zz (-1) (by decide)), if_neg (zz (-2) (by decide)), b1, j2, if_pos (nI_le (by omega) (by omega)), fx_f2]; rfl
        · unfold fm_best; rw [if_pos c2, q1, hb_bind, if_pos np, hb_gt (hb_in0 (by decide) (by decide)), hb_cl0, q3, j2, if_neg (nI_nlt (by omega) (by omega)), fm_f2]; rfl
  · refine tw1 h ?_ ?_
    · unfold fx_best; rw [if_neg c2, fx_f1]; rfl
    · unfold fm_best; rw [if_neg c2, fm_f1]; rfl

