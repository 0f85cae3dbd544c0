/-! ===== where a case is judged ===== -/
def co_ok (n pe th ca : Nat) (σ : am_S) : Prop := σ 73 4 = nI ca ∧ σ 85 42 = nI ca ∧ rCa n pe th ca (σ 74) (σ 75) (σ 77) (σ 35) ∧ σ 74 = σ 116 ∧ σ 75 = σ 117 ∧ σ 76 = σ 118 ∧ σ 77 = σ 119
def cv (p : Nat) (σ : am_S) (ld dy : Int32) (gs : List Int32) (i : Nat) : Int32 := if dy ≤ σ 76 i then ld_sd p σ (nv (σ 74 i)) else if ow p σ ld (nv (σ 75 i)) gs = -1 then ld_sd p σ (nv (σ 74 i)) else ow p σ ld (nv (σ 75 i)) gs
theorem rgF_eq {F F' : rs_F} {o gr : Nat → Int32} (h : rgF F o gr) (h' : rgF F' o gr) : F = F' := by
  obtain ⟨a1, a2, a3, a4, a5, a6, a7, a8⟩ := h
  obtain ⟨b1, b2, b3, b4, b5, b6, b7, b8⟩ := h'
  obtain ⟨x1, x2, x3, x4, x5, x6⟩ := F
  obtain ⟨y1, y2, y3, y4, y5, y6⟩ := F'
  dsimp only at *
  rw [a2, nI_eq (by omega) (by omega)] at b2
  have e1 : x1 = y1 := List.ext_getElem b2 (fun i h1 h2 => by rw [← a3 i h1, ← b3 i h2])
  rw [e1, ← a4, b4, ← a5, b5, ← a6, b6, ← a7, b7, ← a8, b8]
theorem co_x {N n e p pe th ca i : Nat} {σ : am_S} {F : rs_F} (hN : 20000 ≤ N) (ha : R_all n e p pe σ) (hc : co_ok n pe th ca σ) (hi : i < ca) (f1 : rgF F (σ 31) (σ 33)) (f2 : rs_good F) : fx_Cases_sideOfCase N (nI i) σ = some (cv p σ F.2.1 F.2.2.2.2.1 F.1 i) := by
  obtain ⟨cca, m42, hC, r74, r75, r76, r77⟩ := hc
  have l1 := hC.1
  have l2 := ha.1.2.2.2.1.1
  have l3 := ha.2.1.2.2.1.1
  obtain ⟨⟨x, x1, x2⟩, ⟨y, y1, y2⟩, _⟩ := hC.2 i hi
  have nx : nv (nI x) = x := nI_clamp (by omega)
  have ny : nv (nI y) = y := nI_clamp (by omega)
  have ob := ob_31 (N := N) hN ha y1 f1 f2
  have sx := ld_x (N := N) hN ha.1 (i := x) (by omega)
  obtain ⟨g1, g2, g3, g4, g5, g6, g7, g8⟩ := f1
  unfold fx_Cases_sideOfCase fx_Cases_sideOfCase_b31 cv
  rw [x2, y2, nx, ny]
  simp only [hb_g (show i < 10 by omega) (by decide), nI_clamp (show i < 2 ^ 31 by omega), x2, y2, ob, sx, hb_bind, g7]
  by_cases z : F.2.2.2.2.1 ≤ σ 76 i
  · rw [if_pos z, if_pos z, if_pos trivial]
  · rw [if_neg z, if_neg z]
    by_cases w : ow p σ F.2.1 y F.1 = -1
    · rw [if_pos w, if_pos w]
    · rw [if_neg w, if_neg w]
theorem co_m {N n e p pe th ca i : Nat} {σ : am_S} {F : rs_F} (hN : 20000 ≤ N) (ha : R_all n e p pe σ) (hc : co_ok n pe th ca σ) (hi : i < ca) (hF : rgF F (σ 31) (σ 33)) : ∃ τ, fm_courtOf N (nI i) σ = some (cv p σ F.2.1 F.2.2.2.2.1 F.1 i, τ) ∧ sc τ σ := by
  obtain ⟨cca, m42, hC, r74, r75, r76, r77⟩ := hc
  have l1 := hC.1
  have l2 := ha.1.2.2.2.1.1
  have l3 := ha.2.1.2.2.1.1
  obtain ⟨⟨x, x1, x2⟩, ⟨y, y1, y2⟩, _⟩ := hC.2 i hi
  have nx : nv (nI x) = x := nI_clamp (by omega)
  have ny : nv (nI y) = y := nI_clamp (by omega)
  obtain ⟨F', f1, f2, f3⟩ := lw_rd (N := N) hN ha
  have eF : F' = F := rgF_eq f1 hF
  rw [eF] at f1 f2 f3
  obtain ⟨τ2, t1, t2, t3⟩ := f3 σ (Or.inl (sc_refl σ))
  have s2 := rm_sc t2
  refine ⟨τ2, ?_, s2⟩
  have obm := ob_m (N := N) hN (R_all_sc s2 ha) y1 t3 f2
  rw [ow_sc s2] at obm
  have sm := ld_m (N := N) hN (ld_sc s2 ha.1) (i := x) (by omega)
  rw [sd_sc s2] at sm
  obtain ⟨u1, u2, u3, u4, u5, u6, u7, u8⟩ := t3
  have e116 : τ2 116 i = nI x := by rw [t2.1 116 (by decide) (by decide), ← r74]; exact x2
  have e117 : τ2 117 i = nI y := by rw [t2.1 117 (by decide) (by decide), ← r75]; exact y2
  have e118 : τ2 118 i = σ 76 i := by rw [t2.1 118 (by decide) (by decide), ← r76]
  have lt := m1_lt (ow_3 (ld := F.2.1) ha y1 F.1)
  unfold fm_courtOf cv
  rw [t1, hb_bind, x2, y2, nx, ny]
  simp only [hb_g (show i < 10 by omega) (by decide), nI_clamp (show i < 2 ^ 31 by omega), e116, e117, e118, obm, sm, hb_bind, u7]
  by_cases z : F.2.2.2.2.1 ≤ σ 76 i
  · rw [if_pos z, if_neg (ng.1 z)]
  · rw [if_neg z, if_pos (Classical.byContradiction fun u => z (ng.2 u))]
    by_cases w : ow p σ F.2.1 y F.1 = -1
    · rw [if_pos w, if_neg (fun u => (lt.2.1 u) w)]
    · rw [if_neg w, if_pos (lt.2.2 w)]
theorem co_of {n e p pe th ti : Nat} {σ : am_S} (h : R0 σ) (he : ea n e p pe th ti σ) : ∃ ca, co_ok n pe th ca σ := by
  have st : ∃ n' pe' th' ca : Nat, σ 1 11 = nI n' ∧ n' ≤ 12 ∧ σ 13 7 = nI pe' ∧ pe' ≤ 16 ∧ σ 34 6 = nI th' ∧ th' ≤ 24 ∧ co_ok n' pe' th' ca σ := by
    obtain ⟨n, e, p, pe, th, ti, wa, ca, ta, dd, wt, tl, cn, ce, cp, cpe, cth, cti, cwa, cca, cta, cdy, cwt, ctl, f1_11, f1_12, f1_13, f13_7, f22_2, f21_6, f34_6, f34_7, f47_2, f47_3, f48_4, f73_4, f78_4, f0_11, f0_12, f47_0, f47_1, r2, r3, r4, r5, r6, r7, r8, r9, r10, r11, r14, r15, r18, r19, r20, r23, r35, r36, r37, r38, r39, r40, r49, r50, r74, r75, r76, r77, r79, r80, r84, hM, hL, hP, hE, hW, hG, hC, hT, hD, hX0, hX1, hX2, hK⟩ := h
    exact ⟨n, pe, th, ca, cn, hL.1, cpe, hP.1, cth, hE.1.1, cca, by rw [← f73_4]; exact cca, hC, r74, r75, r76, r77⟩
  obtain ⟨n', pe', th', ca, a1, a2, a3, a4, a5, a6, a7⟩ := st
  have b1 := he.1.1.1
  have b2 := he.1.1.2.2.2.1.1
  have b3 := he.1.2.1.1
  have b4 := he.1.2.1.2.2.1.1
  have b5 := he.2.1
  have b6 := he.2.2.2.2.2.1.1.1
  rw [b1, nI_eq (by omega) (by omega)] at a1
  rw [b3, nI_eq (by omega) (by omega)] at a3
  rw [b5, nI_eq (by omega) (by omega)] at a5
  subst a1; subst a3; subst a5
  exact ⟨ca, a7⟩
theorem co_sc {n pe th ca : Nat} {τ σ : am_S} (hs : sc τ σ) (h : co_ok n pe th ca σ) : co_ok n pe th ca τ := by
  have hF := hs.1
  have h85 := hs.2.2.2
  unfold co_ok at *
  rw [hF 73 (by decide), h85 42 (by decide), hF 74 (by decide), hF 75 (by decide), hF 76 (by decide), hF 77 (by decide), hF 35 (by decide), hF 116 (by decide), hF 117 (by decide), hF 118 (by decide), hF 119 (by decide)]
  exact h
theorem co_fr {n pe th ca : Nat} {τ σ : am_S} (hF : ∀ c, c < 41 ∨ 46 < c → τ c = σ c) (h : co_ok n pe th ca σ) : co_ok n pe th ca τ := by
  unfold co_ok at *
  rw [hF 73 (by decide), hF 85 (by decide), hF 74 (by decide), hF 75 (by decide), hF 76 (by decide), hF 77 (by decide), hF 35 (by decide), hF 116 (by decide), hF 117 (by decide), hF 118 (by decide), hF 119 (by decide)]
  exact h
theorem C_waits {N : Nat} {σ : am_S} (a1 : Int32) (hN : 20000 ≤ N) (h : R σ) : tw (fx_waits N a1) (fm_waits N a1) σ := by
  obtain ⟨n, e, p, pe, th, ti, dl, τ, he, hd, t1, hF, ⟨p1, p2, p3, p4⟩, hR, he2⟩ := R_pt (N := N) hN h
  obtain ⟨ca, hco⟩ := co_of h.1 he
  have l24 := he.2.2.2.2.2.1.1.1
  have l12 := he.1.1.2.2.2.1.1
  have hE := he.2.2.2.2.2.1
  have hC := hco.2.2.1
  have l10 := hC.1
  have le := pt_le (n := th) (t := ti) (K := σ 35) (W := σ 37) (A := σ 39) (B := σ 40) (dl := dl)
  rcases hsE_c a1 ca (by omega) with c1 | ⟨i, i1, e1, c1⟩
  · refine tw1 h ?_ ?_
    · unfold fx_waits; rw [hx_c a1 hco.1, if_pos c1, fx_f1]; rfl
    · unfold fm_waits; rw [hm_c a1 (show fnd 1 σ 85 42 = nI ca from hco.2.1), if_pos c1, fm_f1]; rfl
  have d1 : ¬ hsE a1 ca = 0 := by rw [c1]; decide
  have r77 : σ 77 = σ 119 := hco.2.2.2.2.2.2
  have r38 : σ 38 = σ 108 := he.2.2.2.2.2.2.2.2.2.1
  rcases (hC.2 i i1).2.2 with z | ⟨o, o1, o2, o3⟩
  · have n1 : ¬ (0 : Int32) ≤ -1 := by decide
    refine tw2 h ?_ ?_
    · unfold fx_waits fx_waits_b51 fx_Estate_hasThing
      rw [hx_c a1 hco.1, if_neg d1, e1, hb_g (by omega) (by decide), nI_clamp (by omega), z, if_pos (show (-1 : Int32) < 0 by decide), if_pos rfl, fx_f2]; rfl
    · unfold fm_waits fm_waits_b34
      have z' : fnd 2 σ 119 i = -1 := by show σ 119 i = -1; rw [← r77]; exact z
      rw [hm_c a1 (show fnd 2 σ 85 42 = nI ca from hco.2.1), if_neg d1, e1, hb_g (by omega) (by decide), nI_clamp (by omega), z', if_pos (by decide), fm_f2]; rfl
  have ht : fx_Estate_hasThing (nI o) σ = 1 := by
    rw [hx_t _ he.2.1]
    unfold hsE
    rw [if_neg (nI_pos (by omega)), if_neg (nI_ge (by omega) (by omega))]
  have t1n : ¬ (1 : Int32) = 0 := by decide
  have kx : ∀ ρ : am_S, True → fx_waits N a1 σ = (if (σ 38 o) = 0 then (fx_partThings N σ).bind fun q7 => (if (fx_Parting_isTooMany q7) = 0 then (fx_Cases_sideOfCase N (nI i) q7).bind fun q9 => (fx_Parting_sideOfThing (nI o) q7).bind fun q10 => (if q10 = q9 then (fx_finding (-1000000002 : Int32) q7).bind fun q12 => some (q12.1, q12.2) else some (nI o, q7)) else (fx_finding (-1000000003 : Int32) q7).bind fun q13 => some (q13.1, q13.2)) else fx_waits_b51 N σ) := by
    intro _ _
    unfold fx_waits
    rw [hx_c a1 hco.1, if_neg d1, e1, hb_g (by omega) (by decide), nI_clamp (by omega), o2, ht, if_neg t1n, hb_g (by omega) (by decide), nI_clamp (by omega)]
  have km : ∀ ρ : am_S, ρ 85 42 = nI ca → ρ 119 i = nI o → fm_waits N a1 ρ = (if (ρ 108 o) = 0 then (fm_whereOf N (nI o) ρ).bind fun q7 => (if q7.1 = (-2 : Int32) then (fm_finding (3 : Int32) q7.2).bind fun q9 => some (q9.1, q9.2) else (fm_courtOf N (nI i) q7.2).bind fun q10 => (if q7.1 = q10.1 then (fm_finding (2 : Int32) q10.2).bind fun q12 => some (q12.1, q12.2) else some (nI o, q10.2))) else fm_waits_b34 N ρ) := by
    intro ρ y1 y2
    unfold fm_waits
    rw [hm_c a1 y1, if_neg d1, e1, hb_g (by omega) (by decide), nI_clamp (by omega), y2, if_neg (nI_pos (by omega)), hb_g (by omega) (by decide), nI_clamp (by omega)]
  have m119 : σ 119 i = nI o := by rw [← r77]; exact o2
  by_cases cp : σ 38 o = 0
  · have cp' : σ 108 o = 0 := by rw [← r38]; exact cp
    have k4 : pt_cn (σ 35) dl o = true := by
      unfold pt_cn gp_cn
      exact decide_eq_true ⟨(by omega : 3 ≤ nv (σ 35 o)), fun v => by have : nv (σ 35 o) = 5 := v.1; omega⟩
    have hd2 : es_dl (τ 31 6) dl := by rw [hF 31 (by decide)]; exact hd
    have wvτ : wv p th ti dl τ o = wv p th ti dl σ o := by
      unfold wv pv ld_sd
      rw [hF 35 (by decide), hF 36 (by decide), hF 37 (by decide), hF 39 (by decide), hF 40 (by decide), hF 31 (by decide), hF 10 (by decide), hF 11 (by decide), hF 2 (by decide), hF 3 (by decide), hF 4 (by decide)]
    have w119 : τ 119 i = nI o := by rw [hF 119 (by decide)]; exact m119
    have w108 : τ 108 o = 0 := by rw [hF 108 (by decide)]; exact cp'
    by_cases cg : (pt_S th ti (σ 35) (σ 37) (σ 39) (σ 40) dl).1 ≤ 14
    · obtain ⟨y1, y2⟩ := p4 cg
      have tm : fx_Parting_isTooMany τ = 0 := by
        unfold fx_Parting_isTooMany; rw [p1, if_pos (by rw [hb_L14]; exact nI_le cg (by decide))]
      have og : τ 44 o = nI ((pt_S th ti (σ 35) (σ 37) (σ 39) (σ 40) dl).2.1 o) := by rw [p3 o o1]; exact if_pos k4
      have lt : (pt_S th ti (σ 35) (σ 37) (σ 39) (σ 40) dl).2.1 o < (pt_S th ti (σ 35) (σ 37) (σ 39) (σ 40) dl).1 := (gp_inv (cn := pt_cn (σ 35) dl) th).2.1 o o1 k4
      have on : ¬ nI ((pt_S th ti (σ 35) (σ 37) (σ 39) (σ 40) dl).2.1 o) = -1 := fun u => by
        have := nI_pos (n := (pt_S th ti (σ 35) (σ 37) (σ 39) (σ 40) dl).2.1 o) (by omega)
        rw [u] at this; exact this (by decide)
      have ew : wv p th ti dl σ o = pv th ti dl σ o := by unfold wv; rw [if_neg (by omega), if_neg (by omega), if_neg (by omega), if_pos k4, if_pos cg]
      obtain ⟨v1, v2⟩ := wv_n1 (th := th) (ti := ti) (dl := dl) he.1.1 (i := o) (by omega) (Or.inl cg)
      have sx : fx_Parting_sideOfThing (nI o) τ = some (pv th ti dl σ o) := by
        unfold fx_Parting_sideOfThing
        rw [hb_g (by omega) (by decide), nI_clamp (by omega), og, if_neg on, y2, p1, pv_e o1 k4 cg]
      obtain ⟨F, f1, f2, f3⟩ := lw_rd (N := N) hN he2.1
      have cx := co_x (N := N) hN he2.1 (co_fr hF hco) i1 f1 f2
      obtain ⟨u, hu⟩ : ∃ u, u = cv p τ F.2.1 F.2.2.2.2.1 F.1 i := ⟨_, rfl⟩
      rw [← hu] at cx
      have cxm : ∀ ρ, ea n e p pe th ti ρ → co_ok n pe th ca ρ → (∀ c, sc_c c = true → Nat.beq c 83 = false → ρ c = τ c) → ∃ ρ', fm_courtOf N (nI i) ρ = some (u, ρ') ∧ sc ρ' ρ := by
        intro ρ b1 b2 b3
        have fr : rgF F (ρ 31) (ρ 33) := by rw [b3 31 (by decide) (by decide), b3 33 (by decide) (by decide)]; exact f1
        obtain ⟨ρ', g1, g2⟩ := co_m (N := N) hN b1.1 b2 i1 fr
        refine ⟨ρ', ?_, g2⟩
        rw [g1, hu]
        have ec : cv p ρ F.2.1 F.2.2.2.2.1 F.1 i = cv p τ F.2.1 F.2.2.2.2.1 F.1 i := by
          have es : ld_sd p ρ = ld_sd p τ := by
            funext j
            unfold ld_sd
            rw [b3 10 (by decide) (by decide), b3 11 (by decide) (by decide), b3 2 (by decide) (by decide), b3 3 (by decide) (by decide), b3 4 (by decide) (by decide)]
          have eg : ∀ k g, ow_g p ρ F.2.1 k g = ow_g p τ F.2.1 k g := by
            intro k g
            unfold ow_g
            rw [es, b3 14 (by decide) (by decide), b3 15 (by decide) (by decide), b3 16 (by decide) (by decide), b3 17 (by decide) (by decide), b3 18 (by decide) (by decide), b3 19 (by decide) (by decide)]
          have eo : ∀ k gs, ow p ρ F.2.1 k gs = ow p τ F.2.1 k gs := by
            intro k gs
            induction gs with
            | nil => rfl
            | cons g gs ih => rw [ow, ow, eg, ih]
          unfold cv
          rw [es, eo, b3 74 (by decide) (by decide), b3 75 (by decide) (by decide), b3 76 (by decide) (by decide)]
        rw [ec]
      by_cases q : pv th ti dl σ o = u
      · have he3 : ea n e p pe th ti (fnd 2 τ) := he2
        have hd3 : es_dl (fnd 2 τ 31 6) dl := hd2
        obtain ⟨ρ, q1, q2⟩ := pm_where (N := N) hN he3 hd3 o1
        have q1' : fm_whereOf N (nI o) (fnd 2 τ) = some (wv p th ti dl τ o, ρ) := q1
        rw [wvτ] at q1'
        have hcf : co_ok n pe th ca (fnd 2 τ) := co_fr (τ := τ) hF hco
        obtain ⟨ρ', g1, g2⟩ := cxm ρ (ea_sc q2 he3) (co_sc q2 hcf) (fun c b1 b2 => by
          rw [q2.1 c b1]
          exact hb_up_ne (fun e => by rw [e] at b2; exact absurd b2 (by decide)))
        refine tw_c (v := -1000000002) τ ρ' 2 hR (sc_trans g2 q2) ?_ ?_
        · rw [kx σ trivial, if_pos cp, t1, hb_bind, if_pos tm, cx, hb_bind, sx, hb_bind, if_pos q, fx_f2]; rfl
        · rw [km (fnd 2 τ) hcf.2.1 w119, if_pos (show fnd 2 τ 108 o = 0 from w108), q1', hb_bind]
          rw [if_neg (show ¬ ((wv p th ti dl σ o, ρ) : Int32 × am_S).1 = -2 from v2), g1, hb_bind]
          rw [if_pos (show ((wv p th ti dl σ o, ρ) : Int32 × am_S).1 = u by show wv p th ti dl σ o = u; rw [ew]; exact q), fm_f2]; rfl
      · obtain ⟨ρ, q1, q2⟩ := pm_where (N := N) hN he2 hd2 o1
        rw [wvτ] at q1
        have hcf : co_ok n pe th ca τ := co_fr hF hco
        obtain ⟨ρ', g1, g2⟩ := cxm ρ (ea_sc q2 he2) (co_sc q2 hcf) (fun c b1 b2 => q2.1 c b1)
        refine tw_b (v := nI o) τ ρ' hR (sc_trans g2 q2) ?_ ?_
        · rw [kx σ trivial, if_pos cp, t1, hb_bind, if_pos tm, cx, hb_bind, sx, hb_bind, if_neg q]
        · rw [km τ hcf.2.1 w119, if_pos w108, q1, hb_bind]
          rw [if_neg (show ¬ ((wv p th ti dl σ o, ρ) : Int32 × am_S).1 = -2 from v2), g1, hb_bind]
          rw [if_neg (show ¬ ((wv p th ti dl σ o, ρ) : Int32 × am_S).1 = u by show ¬ wv p th ti dl σ o = u; rw [ew]; exact q)]
    · have tm : ¬ fx_Parting_isTooMany τ = 0 := by
        unfold fx_Parting_isTooMany; rw [p1, if_neg (by rw [hb_L14]; exact nI_ge (by omega) (by omega))]; decide
      have he3 : ea n e p pe th ti (fnd 3 τ) := he2
      have hd3 : es_dl (fnd 3 τ 31 6) dl := hd2
      obtain ⟨ρ, q1, q2⟩ := pm_where (N := N) hN he3 hd3 o1
      have q1' : fm_whereOf N (nI o) (fnd 3 τ) = some (wv p th ti dl τ o, ρ) := q1
      rw [wvτ] at q1'
      have hcf : co_ok n pe th ca (fnd 3 τ) := co_fr (τ := τ) hF hco
      have ew : wv p th ti dl σ o = -2 := by unfold wv; rw [if_neg (by omega), if_neg (by omega), if_neg (by omega), if_pos k4, if_neg cg]
      refine tw_c (v := -1000000003) τ ρ 3 hR q2 ?_ ?_
      · rw [kx σ trivial, if_pos cp, t1, hb_bind, if_neg tm, fx_f3]; rfl
      · rw [km (fnd 3 τ) hcf.2.1 w119, if_pos (show fnd 3 τ 108 o = 0 from w108), q1', hb_bind]
        rw [if_pos (show ((wv p th ti dl σ o, ρ) : Int32 × am_S).1 = -2 from ew), fm_f3]; rfl
  · have cp' : ¬ fnd 2 σ 108 o = 0 := by show ¬ σ 108 o = 0; rw [← r38]; exact cp
    refine tw2 h ?_ ?_
    · rw [kx σ trivial, if_neg cp]; unfold fx_waits_b51; rw [fx_f2]; rfl
    · rw [km (fnd 2 σ) hco.2.1 m119, if_neg cp']; unfold fm_waits_b34; rw [fm_f2]; rfl

