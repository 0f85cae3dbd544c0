theorem ow_fnd {p k i : Nat} {σ : am_S} {ld : Int32} : ∀ gs, ow p (fnd k σ) ld i gs = ow p σ ld i gs := by
  intro gs
  induction gs with
  | nil => rfl
  | cons g gs ih => rw [ow, ow, ih]; rfl
theorem wh_fin {N n e p pe i c : Nat} {σ : am_S} {a1 a2 v : Int32} {b gr o : Nat → Int32} (hN : 20000 ≤ N) (h : R σ) (ha : R_all n e p pe σ) (hi : i < pe) (e1 : a1 = nI i) (hc : c ≤ 2) (e2 : a2 = nI c) (hX : rXt (σ 104 c) b gr o (σ 103) (50 * c)) (ho : ∀ F, rgF F o gr → rs_good F → v = ow p σ F.2.1 i F.1) (hx1 : 0 ≤ v → fx_whose N a1 a2 σ = some (v, σ)) (hx2 : ¬ 0 ≤ v → fx_whose N a1 a2 σ = some (-1000000002, fnd 2 σ)) : tw (fx_whose N a1 a2) (fm_whose N a1 a2) σ := by
  have l2 := ha.2.1.2.2.1.1
  have q1 : fm_isPerson a1 σ = 1 := by
    rw [hm_q a1 ha.2.1.2.1]
    rcases hsE_c a1 pe (by omega) with c1 | ⟨j, i1, _, c1⟩
    · exfalso
      unfold hsE at c1
      rw [e1, if_neg (nI_pos (by omega)), if_neg (nI_ge (by omega) (by omega))] at c1
      revert c1; decide
    · exact c1
  have q2 : ∀ τ, fm_isIn a2 0 2 τ = 1 := by
    intro τ
    rw [in_m]
    rcases inE_c a2 0 2 with ⟨_, k⟩ | ⟨c1, _, _⟩
    · exfalso
      rw [e2] at k
      rcases k with k | k
      · exact nI_pos (by omega) k
      · rw [hb_L2] at k; exact nI_nlt (by omega) (by omega) k
    · exact c1
  have d1 : ¬ ((1 : Int32) = 0) := by decide
  have fm : ∀ τ, fm_isPerson a1 τ = 1 → (0 : Int32) ≤ τ 104 c → ∀ τ2, fm_readLaw N (nI c) τ = some (-1, τ2) → fm_whoseBy N (nI i) τ2 = some v → fm_whose N a1 a2 τ = (if 0 ≤ v then some (v, τ2) else (fm_finding (2 : Int32) τ2).bind fun q8 => some (q8.1, q8.2)) := by
    intro τ t1 t2 τ2 t3 t4
    unfold fm_whose
    rw [t1, if_neg d1, q2, if_neg d1, e2, hb_g (by omega) (by decide), nI_clamp (by omega), if_pos t2, t3, hb_bind, e1, t4, hb_bind]
  have pos : (0 : Int32) ≤ σ 104 c := by
    obtain ⟨len, _, z, _⟩ := hX
    rw [z]; exact nI_pos' (by omega)
  by_cases z : 0 ≤ v
  · obtain ⟨F, τ2, f1, f2, f3, f4, len, f5⟩ := rd_law (N := N) (σ := σ) hN hc hX
    have gd : rs_good F := by rw [f5]; exact rs_all_good _ _
    have s2 := rm_sc f2
    have ob := ob_m (N := N) hN (R_all_sc s2 ha) hi f3 gd
    rw [ow_sc s2, ← ho F f4 gd] at ob
    refine tw_a (v := v) σ τ2 h (sc_refl σ) s2 (hx1 z) ?_
    rw [fm σ q1 pos τ2 f1 ob, if_pos z]
  · have hX' : rXt (fnd 2 σ 104 c) b gr o (fnd 2 σ 103) (50 * c) := hX
    obtain ⟨F, τ2, f1, f2, f3, f4, len, f5⟩ := rd_law (N := N) (σ := fnd 2 σ) hN hc hX'
    have gd : rs_good F := by rw [f5]; exact rs_all_good _ _
    have s2 := rm_sc f2
    have ha' : R_all n e p pe (fnd 2 σ) := ha
    have ob := ob_m (N := N) hN (R_all_sc s2 ha') hi f3 gd
    rw [ow_sc s2, ow_fnd] at ob
    have ob' : fm_whoseBy N (nI i) τ2 = some v := by rw [ho F f4 gd]; exact ob
    refine tw_q (v := -1000000002) σ τ2 2 h (sc_refl σ) s2 (hx2 z) ?_
    rw [fm (fnd 2 σ) q1 pos τ2 f1 ob', if_neg z, fm_f2]; rfl
theorem C_whose {N : Nat} {σ : am_S} (a1 a2 : Int32) (hN : 20000 ≤ N) (h : R σ) : tw (fx_whose N a1 a2) (fm_whose N a1 a2) σ := by
  obtain ⟨n, e, p, pe, ha⟩ := R0_all h.1
  have ha' := ha
  obtain ⟨_, ⟨p1, p2, hP, hM, _⟩, hX0, hX1, hX2⟩ := ha'
  have l2 := hP.1
  have m14 : ∀ k, fnd k σ 85 14 = nI pe := fun k => p2
  rcases hsE_c a1 pe (by omega) with c1 | ⟨i, i1, e1, c1⟩
  · refine tw1 h ?_ ?_
    · unfold fx_whose fx_whose_b20; rw [hx_q a1 p1, if_pos c1, fx_f1]; rfl
    · unfold fm_whose fm_whose_b17; rw [hm_q a1 (m14 1), if_pos c1, fm_f1]; rfl
  have d1 : ¬ hsE a1 pe = 0 := by rw [c1]; decide
  rcases inE_c a2 0 2 with ⟨c2, k⟩ | ⟨c2, k1, k2⟩
  · refine tw1 h ?_ ?_
    · unfold fx_whose fx_whose_b20
      rw [hx_q a1 p1, if_neg d1]
      by_cases z : a2 < 0
      · rw [if_pos z, fx_f1]; rfl
      · rw [if_neg z, if_neg (fun u => (ng.1 u) (k.resolve_left z)), fx_f1]; rfl
    · unfold fm_whose fm_whose_b17; rw [hm_q a1 (m14 1), if_neg d1, in_m, if_pos c2, fm_f1]; rfl
  have d2 : ¬ inE a2 0 2 = 0 := by rw [c2]; decide
  obtain ⟨c, c4, ec⟩ : okc a2 2 := in_nat (by decide) k1 k2
  have nof : ∀ (z : fx_Houses_hasProposed a2 σ = some 0), ¬ a2 = 2 → σ 104 c = -1 → tw (fx_whose N a1 a2) (fm_whose N a1 a2) σ := by
    intro z z2 z3
    refine tw3 h ?_ ?_
    · unfold fx_whose; rw [hx_q a1 p1, if_neg d1, if_neg k1, if_pos (ng.2 k2), if_neg z2, z, hb_bind, if_pos rfl, fx_f3]; rfl
    · unfold fm_whose
      have z3' : fnd 3 σ 104 c = -1 := z3
      rw [hm_q a1 (m14 3), if_neg d1, in_m, if_neg d2, ec, hb_g (by omega) (by decide), nI_clamp (by omega), z3', if_neg (by decide), fm_f3]; rfl
  have cc : c = 0 ∨ c = 1 ∨ c = 2 := by omega
  rcases cc with y | y | y
  · subst y
    have n2 : ¬ a2 = 2 := by rw [ec]; decide
    rcases hX0 with ⟨z, y⟩ | ⟨z, X0⟩
    · refine nof ?_ n2 y
      unfold fx_Houses_hasProposed
      rw [if_pos (show a2 = 0 from ec), z]; rfl
    · have hp : fx_Houses_hasProposed a2 σ = some 1 := by
        unfold fx_Houses_hasProposed
        rw [if_pos (show a2 = 0 from ec), z]; rfl
      obtain ⟨F, τ2, f1, f2, f3, f4, len, f5⟩ := rd_law (N := N) (h := 0) (σ := σ) hN (by omega) X0
      have gd : rs_good F := by rw [f5]; exact rs_all_good _ _
      have ob := ob_25 (N := N) hN ha i1 f4 gd
      have hh : fx_Houses_heldBy a2 σ = 25 := by unfold fx_Houses_heldBy; rw [if_pos (show a2 = 0 from ec)]
      refine wh_fin (v := ow p σ F.2.1 i F.1) hN h ha i1 e1 (by omega) ec X0 ?_ ?_ ?_
      · intro F' g1 g2
        have ob2 := ob_25 (N := N) hN ha i1 g1 g2
        rw [ob] at ob2; exact Option.some.inj ob2
      · intro u
        unfold fx_whose fx_whose_b50 fx_whose_b73
        rw [hx_q a1 p1, if_neg d1, if_neg k1, if_pos (ng.2 k2), if_neg n2, hp, hb_bind, if_neg (by decide), if_neg n2, hh, if_pos rfl, e1, ob, hb_bind, if_pos u]
      · intro u
        unfold fx_whose fx_whose_b50 fx_whose_b73
        rw [hx_q a1 p1, if_neg d1, if_neg k1, if_pos (ng.2 k2), if_neg n2, hp, hb_bind, if_neg (by decide), if_neg n2, hh, if_pos rfl, e1, ob, hb_bind, if_neg u, fx_f2]; rfl
  · subst y
    have n2 : ¬ a2 = 2 := by rw [ec]; decide
    have n0 : ¬ a2 = 0 := by rw [ec]; decide
    rcases hX1 with ⟨z, y⟩ | ⟨z, X0⟩
    · refine nof ?_ n2 y
      unfold fx_Houses_hasProposed
      rw [if_neg n0, z]; rfl
    · have hp : fx_Houses_hasProposed a2 σ = some 1 := by
        unfold fx_Houses_hasProposed
        rw [if_neg n0, z]; rfl
      obtain ⟨F, τ2, f1, f2, f3, f4, len, f5⟩ := rd_law (N := N) (h := 1) (σ := σ) hN (by omega) X0
      have gd : rs_good F := by rw [f5]; exact rs_all_good _ _
      have ob := ob_28 (N := N) hN ha i1 f4 gd
      have hh : fx_Houses_heldBy a2 σ = 28 := by unfold fx_Houses_heldBy; rw [if_neg n0]
      refine wh_fin (v := ow p σ F.2.1 i F.1) hN h ha i1 e1 (by omega) ec X0 ?_ ?_ ?_
      · intro F' g1 g2
        have ob2 := ob_28 (N := N) hN ha i1 g1 g2
        rw [ob] at ob2; exact Option.some.inj ob2
      · intro u
        unfold fx_whose fx_whose_b50 fx_whose_b73
        rw [hx_q a1 p1, if_neg d1, if_neg k1, if_pos (ng.2 k2), if_neg n2, hp, hb_bind, if_neg (by decide), if_neg n2, hh, if_neg (by decide), if_pos rfl, e1, ob, hb_bind, if_pos u]
      · intro u
        unfold fx_whose fx_whose_b50 fx_whose_b73
        rw [hx_q a1 p1, if_neg d1, if_neg k1, if_pos (ng.2 k2), if_neg n2, hp, hb_bind, if_neg (by decide), if_neg n2, hh, if_neg (by decide), if_pos rfl, e1, ob, hb_bind, if_neg u, fx_f2]; rfl
  · subst y
    have n2 : a2 = 2 := ec
    obtain ⟨F, τ2, f1, f2, f3, f4, len, f5⟩ := rd_law (N := N) (h := 2) (σ := σ) hN (by omega) hX2
    have gd : rs_good F := by rw [f5]; exact rs_all_good _ _
    have ob := ob_31 (N := N) hN ha i1 f4 gd
    refine wh_fin (v := ow p σ F.2.1 i F.1) hN h ha i1 e1 (by omega) ec hX2 ?_ ?_ ?_
    · intro F' g1 g2
      have ob2 := ob_31 (N := N) hN ha i1 g1 g2
      rw [ob] at ob2; exact Option.some.inj ob2
    · intro u
      unfold fx_whose fx_whose_b50 fx_whose_b73
      rw [hx_q a1 p1, if_neg d1, if_neg k1, if_pos (ng.2 k2), if_pos n2, if_pos n2, if_neg (by decide), if_neg (by decide), if_pos rfl, e1, ob, hb_bind, if_pos u]
    · intro u
      unfold fx_whose fx_whose_b50 fx_whose_b73
      rw [hx_q a1 p1, if_neg d1, if_neg k1, if_pos (ng.2 k2), if_pos n2, if_pos n2, if_neg (by decide), if_neg (by decide), if_pos rfl, e1, ob, hb_bind, if_neg u, fx_f2]; rfl
theorem C_court {N : Nat} {σ : am_S} (a1 : Int32) (hN : 20000 ≤ N) (h : R σ) : tw (fx_court N a1) (fm_court N a1) σ := by
  have st : ∃ n e p pe th ca : Nat, R_all n e p pe σ ∧ σ 73 4 = nI ca ∧ σ 85 42 = nI ca ∧ rCa n pe th ca (σ 74) (σ 75) (σ 77) (σ 35) ∧ σ 74 = σ 116 ∧ σ 75 = σ 117 ∧ σ 76 = σ 118 := by
    obtain ⟨n, e, p, pe, th, ti, wa, ca, ta, dd, wt, tl, cn, ce, cp, cpe, cth, cti, cwa, cca, cta, cdy, cwt, ctl, f1_11, f1_12, f1_13, f13_7, f22_2, f21_6, f34_6, f34_7, f47_2, f47_3, f48_4, f73_4, f78_4, f0_11, f0_12, f47_0, f47_1, r2, r3, r4, r5, r6, r7, r8, r9, r10, r11, r14, r15, r18, r19, r20, r23, r35, r36, r37, r38, r39, r40, r49, r50, r74, r75, r76, r77, r79, r80, r84, hM, hL, hP, hE, hW, hG, hC, hT, hD, hX0, hX1, hX2, hK⟩ := h.1
    exact ⟨n, e, p, pe, th, ca, ⟨⟨cn, ce, cp, hL, by rw [← f1_11]; exact cn, by rw [← f1_12]; exact ce, by rw [← f1_13]; exact cp, r2, r3, r4, r5, r6, r7, r8, r9, r10, r11⟩, ⟨cpe, by rw [← f13_7]; exact cpe, hP, hM, r14, r15, r18, r19, r20⟩, hX0, hX1, hX2⟩, cca, by rw [← f73_4]; exact cca, hC, r74, r75, r76⟩
  obtain ⟨n, e, p, pe, th, ca, ha, cca, m42, hC, r74, r75, r76⟩ := st
  have l1 := hC.1
  have l2 := ha.1.2.2.2.1.1
  have l3 := ha.2.1.2.2.1.1
  rcases hsE_c a1 ca (by omega) with c1 | ⟨i, i1, e1, c1⟩
  · refine tw1 h ?_ ?_
    · unfold fx_court; rw [hx_c a1 cca, if_pos c1, fx_f1]; rfl
    · unfold fm_court; rw [hm_c a1 (show fnd 1 σ 85 42 = nI ca from m42), if_pos c1, fm_f1]; rfl
  have d1 : ¬ hsE a1 ca = 0 := by rw [c1]; decide
  obtain ⟨⟨x, x1, x2⟩, ⟨y, y1, y2⟩, _⟩ := hC.2 i i1
  obtain ⟨F, f1, f2, f3⟩ := lw_rd (N := N) hN ha
  obtain ⟨τ2, t1, t2, t3⟩ := f3 σ (Or.inl (sc_refl σ))
  have s2 := rm_sc t2
  have ob := ob_31 (N := N) hN ha y1 f1 f2
  have obm := ob_m (N := N) hN (R_all_sc s2 ha) y1 t3 f2
  rw [ow_sc s2] at obm
  have sx := ld_x (N := N) hN ha.1 (i := x) (by omega)
  have sm := ld_m (N := N) hN (ld_sc s2 ha.1) (i := x) (by omega)
  rw [sd_sc s2] at sm
  obtain ⟨g1, g2, g3, g4, g5, g6, g7, g8⟩ := f1
  obtain ⟨u1, u2, u3, u4, u5, u6, u7, u8⟩ := t3
  have e116 : τ2 116 i = nI x := by rw [t2.1 116 (by decide) (by decide), ← r74]; exact x2
  have e117 : τ2 117 i = nI y := by rw [t2.1 117 (by decide) (by decide), ← r75]; exact y2
  have e118 : τ2 118 i = σ 76 i := by rw [t2.1 118 (by decide) (by decide), ← r76]
  have o3 := ow_3 (ld := F.2.1) ha y1 F.1
  have lt := m1_lt o3
  have hx : fx_court N a1 σ = some (if σ 31 7 ≤ σ 76 i then ld_sd p σ x else if ow p σ F.2.1 y F.1 = -1 then ld_sd p σ x else ow p σ F.2.1 y F.1, σ) := by
    unfold fx_court fx_Cases_sideOfCase fx_Cases_sideOfCase_b31
    rw [hx_c a1 cca, if_neg d1, e1]
    simp only [hb_g (show i < 10 by omega) (by decide), nI_clamp (show i < 2 ^ 31 by omega), x2, y2, ob, sx, hb_bind]
    by_cases z : σ 31 7 ≤ σ 76 i
    · rw [if_pos z, if_pos z, if_pos trivial, hb_bind]
    · rw [if_neg z, if_neg z]
      by_cases w : ow p σ F.2.1 y F.1 = -1
      · rw [if_pos w, if_pos w, hb_bind]
      · rw [if_neg w, if_neg w, hb_bind]
  have hm : fm_court N a1 σ = some (if σ 31 7 ≤ σ 76 i then ld_sd p σ x else if ow p σ F.2.1 y F.1 = -1 then ld_sd p σ x else ow p σ F.2.1 y F.1, τ2) := by
    unfold fm_court fm_courtOf
    rw [hm_c a1 m42, if_neg d1, t1, hb_bind, e1]
    simp only [hb_g (show i < 10 by omega) (by decide), nI_clamp (show i < 2 ^ 31 by omega), e116, e117, e118, obm, sm, hb_bind, u7, ← g7]
    by_cases z : σ 31 7 ≤ σ 76 i
    · rw [if_pos z, if_neg (ng.1 z), hb_bind]
    · rw [if_neg z, if_pos (Classical.byContradiction fun u => z (ng.2 u))]
      by_cases w : ow p σ F.2.1 y F.1 = -1
      · rw [if_pos w, if_neg (fun u => (lt.2.1 u) w), hb_bind]
      · rw [if_neg w, if_pos (lt.2.2 w), hb_bind]
  exact tw_a σ τ2 h (sc_refl σ) s2 hx hm

