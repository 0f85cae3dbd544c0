def pv (th ti : Nat) (dl : Bool) (σ : am_S) (i : Nat) : Int32 := nI (if (pt_lv th ti (σ 35) (σ 37) (σ 39) (σ 40) dl (σ 31 5)).testBit ((pt_S th ti (σ 35) (σ 37) (σ 39) (σ 40) dl).1 - 1 - (pt_S th ti (σ 35) (σ 37) (σ 39) (σ 40) dl).2.1 i) = true then 1 else 0)
theorem pv_01 (th ti : Nat) (dl : Bool) (σ : am_S) (i : Nat) : pv th ti dl σ i = 0 ∨ pv th ti dl σ i = 1 := by
  unfold pv
  split
  · exact Or.inr rfl
  · exact Or.inl rfl
theorem pv_e {th ti i : Nat} {dl : Bool} {σ : am_S} (hi : i < th) (hc : pt_cn (σ 35) dl i = true) (hg : (pt_S th ti (σ 35) (σ 37) (σ 39) (σ 40) dl).1 ≤ 14) : (nI (pt_lv th ti (σ 35) (σ 37) (σ 39) (σ 40) dl (σ 31 5)) >>> (((nI (pt_S th ti (σ 35) (σ 37) (σ 39) (σ 40) dl).1 - 1) - nI ((pt_S th ti (σ 35) (σ 37) (σ 39) (σ 40) dl).2.1 i)) &&& 31)) &&& 1 = pv th ti dl σ i := by
  have lt : (pt_S th ti (σ 35) (σ 37) (σ 39) (σ 40) dl).2.1 i < (pt_S th ti (σ 35) (σ 37) (σ 39) (σ 40) dl).1 := (gp_inv (cn := pt_cn (σ 35) dl) th).2.1 i hi hc
  have lv : (pt_lv th ti (σ 35) (σ 37) (σ 39) (σ 40) dl (σ 31 5)) < 2 ^ 14 := by
    unfold pt_lv
    exact Nat.lt_of_lt_of_le (se_b_lt _ (Nat.two_pow_pos _)) (Nat.pow_le_pow_right (by decide) hg)
  have e1 : (nI (pt_S th ti (σ 35) (σ 37) (σ 39) (σ 40) dl).1 - 1) - nI ((pt_S th ti (σ 35) (σ 37) (σ 39) (σ 40) dl).2.1 i) = nI ((pt_S th ti (σ 35) (σ 37) (σ 39) (σ 40) dl).1 - 1 - (pt_S th ti (σ 35) (σ 37) (σ 39) (σ 40) dl).2.1 i) := by
    rw [hb_L1, pk_sub (by omega), pk_sub (by omega)]
  rw [e1, eb_bit (by omega) (by omega)]
  rfl
def wv (p th ti : Nat) (dl : Bool) (σ : am_S) (i : Nat) : Int32 := if nv (σ 35 i) = 0 then -1 else if nv (σ 35 i) = 1 then ld_sd p σ (nv (σ 36 i)) else if nv (σ 35 i) = 2 then 2 else if pt_cn (σ 35) dl i = true then (if (pt_S th ti (σ 35) (σ 37) (σ 39) (σ 40) dl).1 ≤ 14 then pv th ti dl σ i else -2) else ld_sd p σ (nv (σ 36 (nv (σ 36 i))))
theorem kd_i {n e p pe th ti i : Nat} {σ : am_S} (h : ea n e p pe th ti σ) (hi : i < th) : (σ 35 i = 0 ↔ nv (σ 35 i) = 0) ∧ (σ 35 i = 1 ↔ nv (σ 35 i) = 1) ∧ (σ 35 i = 2 ↔ nv (σ 35 i) = 2) ∧ (σ 35 i = 5 ↔ nv (σ 35 i) = 5) := by
  obtain ⟨k1, k2⟩ := es_kd h.2.2.2.2.2.1.1 i hi
  have key : ∀ m : Nat, m < 7 → (σ 35 i = nI m ↔ nv (σ 35 i) = m) := by
    intro m hm
    rw [k1, nI_eq (by omega) (by omega)]
    have : nv (nI (nv (σ 35 i))) = nv (σ 35 i) := nI_clamp (by omega)
    rw [this]
  exact ⟨key 0 (by omega), key 1 (by omega), key 2 (by omega), key 5 (by omega)⟩
theorem pm_where {N n e p pe th ti i : Nat} {dl : Bool} {σ : am_S} (hN : 20000 ≤ N) (h : ea n e p pe th ti σ) (hd : es_dl (σ 31 6) dl) (hi : i < th) : ∃ ρ, fm_whereOf N (nI i) σ = some (wv p th ti dl σ i, ρ) ∧ sc ρ σ := by
  obtain ⟨ρ, q1, q2, q3, q4, q5, q6⟩ := pm_tell (N := N) hN h hd
  refine ⟨ρ, ?_, q2⟩
  have hl := ld_sc q2 h.1.1
  have l12 := h.1.1.2.2.2.1.1
  have hE := h.2.2.2.2.2.1
  have l24 := hE.1.1
  obtain ⟨k1, k2⟩ := es_kd hE.1 i hi
  have le := pt_le (n := th) (t := ti) (K := σ 35) (W := σ 37) (A := σ 39) (B := σ 40) (dl := dl)
  have c105 : ρ 105 = σ 35 := by rw [q2.1 105 (by decide)]; exact h.2.2.2.2.2.2.1.symm
  have c107 : ρ 107 = σ 36 := by rw [q2.1 107 (by decide)]; exact h.2.2.2.2.2.2.2.1.symm
  have kc : fm_counts (nI i) ρ = some (if pt_cn (σ 35) dl i = true then 1 else 0) := by
    refine gm_counts (kd := fun o => nv (σ 35 o)) (by omega) ?_ k2 ?_
    · rw [c105]; exact k1
    · rw [q3]; exact hd
  unfold fm_whereOf wv
  rw [q1, hb_bind, c105, c107, kc]
  simp only [hb_g (show i < 24 by omega) (by decide), nI_clamp (show i < 2 ^ 31 by omega), hb_bind]
  have cmp := kd_i h hi
  by_cases z0 : nv (σ 35 i) = 0
  · rw [if_pos (cmp.1.2 z0), if_pos z0]
  rw [if_neg (fun u => z0 (cmp.1.1 u)), if_neg z0]
  by_cases z1 : nv (σ 35 i) = 1
  · obtain ⟨a, a1, a2⟩ := (hE.2.1 i hi).1 (Or.inl z1)
    have na : nv (nI a) = a := nI_clamp (by omega)
    rw [if_pos (cmp.2.1.2 z1), if_pos z1, a2, ld_m hN hl (by omega), hb_bind, sd_sc q2, na]
  rw [if_neg (fun u => z1 (cmp.2.1.1 u)), if_neg z1]
  by_cases z2 : nv (σ 35 i) = 2
  · rw [if_pos (cmp.2.2.1.2 z2), if_pos z2]
  rw [if_neg (fun u => z2 (cmp.2.2.1.1 u)), if_neg z2]
  by_cases c : pt_cn (σ 35) dl i = true
  · rw [if_pos c, if_neg (by decide), if_pos c, q4]
    by_cases cg : (pt_S th ti (σ 35) (σ 37) (σ 39) (σ 40) dl).1 ≤ 14
    · obtain ⟨w1, w2, w3, w4⟩ := q6 cg
      have o : ρ 127 i = nI ((pt_S th ti (σ 35) (σ 37) (σ 39) (σ 40) dl).2.1 i) := by rw [q5 i hi]; exact if_pos c
      rw [if_pos (by rw [hb_L14]; exact nI_le cg (by decide)), if_pos cg, w3, hb_bind, o, pv_e hi c cg]
    · rw [if_neg (by rw [hb_L14]; exact nI_ge (by omega) (by omega)), if_neg cg]
  · have z5 : nv (σ 35 i) = 5 := by
      refine Classical.byContradiction fun u => c ?_
      unfold pt_cn gp_cn
      exact decide_eq_true ⟨(by omega : 3 ≤ nv (σ 35 i)), fun v => u v.1⟩
    obtain ⟨a, a1, a2, a3⟩ := (hE.2.1 i hi).2 z5
    obtain ⟨b, b1, b2⟩ := (hE.2.1 a a1).1 a3
    have na : nv (nI a) = a := nI_clamp (by omega)
    have nb : nv (nI b) = b := nI_clamp (by omega)
    rw [if_neg c, if_pos rfl, if_neg c, a2, na, b2, nb, hb_g (by omega) (by decide), nI_clamp (by omega), b2, ld_m hN hl (by omega), hb_bind, sd_sc q2]
theorem wv_n1 {p th ti i : Nat} {dl : Bool} {σ : am_S} {n e : Nat} (hl : ld_ok n e p σ) (h0 : ¬ nv (σ 35 i) = 0) (hg : (pt_S th ti (σ 35) (σ 37) (σ 39) (σ 40) dl).1 ≤ 14 ∨ nv (σ 35 i) < 3 ∨ ¬ pt_cn (σ 35) dl i = true) : ¬ wv p th ti dl σ i = -1 ∧ ¬ wv p th ti dl σ i = -2 := by
  have s01 : ∀ j, ¬ ld_sd p σ j = -1 ∧ ¬ ld_sd p σ j = -2 := by
    intro j
    obtain ⟨s, s1, s2⟩ := ld_01 hl j
    have : s = 0 ∨ s = 1 := by omega
    rw [s2]
    rcases this with z | z
    · rw [z]; decide
    · rw [z]; decide
  unfold wv
  rw [if_neg h0]
  split
  · exact s01 _
  · split
    · decide
    · split
      · split
        · rcases pv_01 th ti dl σ i with z | z <;> (rw [z]; decide)
        · rename_i _ _ _ _
          exfalso
          rcases hg with z | z | z
          · contradiction
          · omega
          · contradiction
      · exact s01 _
theorem lo_x {n e p pe th ti i : Nat} {dl : Bool} {σ : am_S} (h : ea n e p pe th ti σ) (hd : es_dl (σ 31 6) dl) (hi : i < th) (h3 : 3 ≤ nv (σ 35 i)) : fx_Estate_isLeftOut (nI i) (σ 31 6) σ = some (if pt_cn (σ 35) dl i = true then 0 else 1) := by
  have l24 := h.2.2.2.2.2.1.1.1
  have cmp := (kd_i h hi).2.2.2
  unfold fx_Estate_isLeftOut pt_cn gp_cn
  rw [hb_g (by omega) (by decide), nI_clamp (by omega)]
  rcases hd with ⟨z, y⟩ | ⟨z, y⟩
  · rw [z, if_pos rfl, if_pos (decide_eq_true ⟨h3, fun u => by rw [y] at u; exact absurd u.2 (by decide)⟩)]
  · rw [z, if_neg (by decide)]
    by_cases w : nv (σ 35 i) = 5
    · rw [if_pos (cmp.2 w), if_neg (fun u => (of_decide_eq_true u).2 ⟨w, y⟩)]
    · rw [if_neg (fun u => w (cmp.1 u)), if_pos (decide_eq_true ⟨h3, fun u => w u.1⟩)]
theorem C_goes {N : Nat} {σ : am_S} (a1 : Int32) (hN : 20000 ≤ N) (h : R σ) : tw (fx_goes N a1) (fm_goes N a1) σ := by
  obtain ⟨n, e, p, pe, th, ti, dl, τ, he, hd, t1, hF, ⟨p1, p2, p3, p4⟩, hR, he2⟩ := R_pt (N := N) hN h
  have l24 := he.2.2.2.2.2.1.1.1
  have l12 := he.1.1.2.2.2.1.1
  have hE := he.2.2.2.2.2.1
  have le := pt_le (n := th) (t := ti) (K := σ 35) (W := σ 37) (A := σ 39) (B := σ 40) (dl := dl)
  rcases hsE_c a1 th (by omega) with c1 | ⟨i, i1, e1, c1⟩
  · refine tw1 h ?_ ?_
    · unfold fx_goes; rw [hx_t a1 he.2.1, if_pos c1, fx_f1]; rfl
    · unfold fm_goes; rw [hm_t a1 (show fnd 1 σ 85 26 = nI th from he.2.2.2.1), if_pos c1, fm_f1]; rfl
  have d1 : ¬ hsE a1 th = 0 := by rw [c1]; decide
  have cm := kd_i he i1
  have hd2 : es_dl (τ 31 6) dl := by rw [hF 31 (by decide)]; exact hd
  have wvτ : wv p th ti dl τ i = wv p th ti dl σ i := by
    unfold wv pv ld_sd
    rw [hF 35 (by decide), hF 36 (by decide), hF 37 (by decide), hF 39 (by decide), hF 40 (by decide), hF 31 (by decide), hF 10 (by decide), hF 11 (by decide), hF 2 (by decide), hF 3 (by decide), hF 4 (by decide)]
  have fmg : ∀ ρ ρ', ρ 85 26 = nI th → fm_whereOf N (nI i) ρ = some (wv p th ti dl σ i, ρ') → fm_goes N a1 ρ = (if wv p th ti dl σ i = (-1 : Int32) then (fm_finding (2 : Int32) ρ').bind fun q5 => some (q5.1, q5.2) else (if wv p th ti dl σ i = (-2 : Int32) then (fm_finding (3 : Int32) ρ').bind fun q7 => some (q7.1, q7.2) else some (wv p th ti dl σ i, ρ'))) := by
    intro ρ ρ' y1 y2
    unfold fm_goes
    rw [hm_t a1 y1, if_neg d1, e1, y2, hb_bind]
  by_cases z0 : nv (σ 35 i) = 0
  · have he3 : ea n e p pe th ti (fnd 2 σ) := he
    have hd3 : es_dl (fnd 2 σ 31 6) dl := hd
    obtain ⟨ρ, q1, q2⟩ := pm_where (N := N) hN he3 hd3 i1
    have ew : wv p th ti dl σ i = -1 := by unfold wv; rw [if_pos z0]
    have q1' : fm_whereOf N (nI i) (fnd 2 σ) = some (wv p th ti dl σ i, ρ) := q1
    refine tw_q (v := -1000000002) σ ρ 2 h (sc_refl σ) q2 ?_ ?_
    · unfold fx_goes
      rw [hx_t a1 he.2.1, if_neg d1, e1, hb_g (by omega) (by decide), nI_clamp (by omega), if_pos (cm.1.2 z0), fx_f2]; rfl
    · rw [fmg (fnd 2 σ) ρ he.2.2.2.1 q1', if_pos ew, fm_f2]; rfl
  have pl : nv (σ 35 i) < 3 ∨ ¬ pt_cn (σ 35) dl i = true → fx_goes N a1 σ = some (wv p th ti dl σ i, σ) → tw (fx_goes N a1) (fm_goes N a1) σ := by
    intro y1 y2
    obtain ⟨ρ, q1, q2⟩ := pm_where (N := N) hN he hd i1
    obtain ⟨v1, v2⟩ := wv_n1 (th := th) (ti := ti) (dl := dl) he.1.1 z0 (Or.inr y1)
    refine tw_a (v := wv p th ti dl σ i) σ ρ h (sc_refl σ) q2 y2 ?_
    rw [fmg _ _ he.2.2.2.1 q1, if_neg v1, if_neg v2]
  by_cases z1 : nv (σ 35 i) = 1
  · obtain ⟨a, b1, b2⟩ := (hE.2.1 i i1).1 (Or.inl z1)
    have na : nv (nI a) = a := nI_clamp (by omega)
    refine pl (Or.inl (by omega)) ?_
    unfold fx_goes wv
    rw [hx_t a1 he.2.1, if_neg d1, e1]
    simp only [hb_g (show i < 24 by omega) (by decide), nI_clamp (show i < 2 ^ 31 by omega)]
    rw [if_neg (fun u => z0 (cm.1.1 u)), if_neg (fun u => by have := cm.2.2.1.1 u; omega), if_pos (cm.2.1.2 z1), b2, ld_x hN he.1.1 (by omega), hb_bind, if_neg z0, if_pos z1, na]
  by_cases z2 : nv (σ 35 i) = 2
  · refine pl (Or.inl (by omega)) ?_
    unfold fx_goes wv
    rw [hx_t a1 he.2.1, if_neg d1, e1]
    simp only [hb_g (show i < 24 by omega) (by decide), nI_clamp (show i < 2 ^ 31 by omega)]
    rw [if_neg (fun u => z0 (cm.1.1 u)), if_pos (cm.2.2.1.2 z2), if_neg z0, if_neg z1, if_pos z2]
  have z3 : 3 ≤ nv (σ 35 i) := by omega
  have lo := lo_x he hd i1 z3
  by_cases c : pt_cn (σ 35) dl i = true
  · rw [if_pos c] at lo
    by_cases cg : (pt_S th ti (σ 35) (σ 37) (σ 39) (σ 40) dl).1 ≤ 14
    · obtain ⟨y1, y2⟩ := p4 cg
      have tm : fx_Parting_isTooMany τ = 0 := by
        unfold fx_Parting_isTooMany; rw [p1, if_pos (by rw [hb_L14]; exact nI_le cg (by decide))]
      have o : τ 44 i = nI ((pt_S th ti (σ 35) (σ 37) (σ 39) (σ 40) dl).2.1 i) := by rw [p3 i i1]; exact if_pos c
      have lt : (pt_S th ti (σ 35) (σ 37) (σ 39) (σ 40) dl).2.1 i < (pt_S th ti (σ 35) (σ 37) (σ 39) (σ 40) dl).1 := (gp_inv (cn := pt_cn (σ 35) dl) th).2.1 i i1 c
      have on : ¬ nI ((pt_S th ti (σ 35) (σ 37) (σ 39) (σ 40) dl).2.1 i) = -1 := fun u => by
        have := nI_pos (n := (pt_S th ti (σ 35) (σ 37) (σ 39) (σ 40) dl).2.1 i) (by omega)
        rw [u] at this; exact this (by decide)
      obtain ⟨ρ, q1, q2⟩ := pm_where (N := N) hN he2 hd2 i1
      rw [wvτ] at q1
      have ew : wv p th ti dl σ i = pv th ti dl σ i := by unfold wv; rw [if_neg z0, if_neg z1, if_neg z2, if_pos c, if_pos cg]
      obtain ⟨v1, v2⟩ := wv_n1 (th := th) (ti := ti) (dl := dl) he.1.1 z0 (Or.inl cg)
      refine tw_b (v := wv p th ti dl σ i) τ ρ hR q2 ?_ ?_
      · unfold fx_goes fx_Parting_sideOfThing
        rw [hx_t a1 he.2.1, if_neg d1, e1]
        simp only [hb_g (show i < 24 by omega) (by decide), nI_clamp (show i < 2 ^ 31 by omega)]
        rw [if_neg (fun u => z0 (cm.1.1 u)), if_neg (fun u => z2 (cm.2.2.1.1 u)), if_neg (fun u => z1 (cm.2.1.1 u)), lo, hb_bind, if_pos rfl, t1, hb_bind, if_pos tm, o, if_neg on, y2, p1, pv_e i1 c cg, hb_bind, ew]
      · rw [fmg _ _ he2.2.2.2.1 q1, if_neg v1, if_neg v2]
    · have tm : ¬ fx_Parting_isTooMany τ = 0 := by
        unfold fx_Parting_isTooMany; rw [p1, if_neg (by rw [hb_L14]; exact nI_ge (by omega) (by omega))]; decide
      have he3 : ea n e p pe th ti (fnd 3 τ) := he2
      have hd3 : es_dl (fnd 3 τ 31 6) dl := hd2
      obtain ⟨ρ, q1, q2⟩ := pm_where (N := N) hN he3 hd3 i1
      have q1' : fm_whereOf N (nI i) (fnd 3 τ) = some (wv p th ti dl τ i, ρ) := q1
      rw [wvτ] at q1'
      have ew : wv p th ti dl σ i = -2 := by unfold wv; rw [if_neg z0, if_neg z1, if_neg z2, if_pos c, if_neg cg]
      refine tw_c (v := -1000000003) τ ρ 3 hR q2 ?_ ?_
      · unfold fx_goes
        rw [hx_t a1 he.2.1, if_neg d1, e1]
        simp only [hb_g (show i < 24 by omega) (by decide), nI_clamp (show i < 2 ^ 31 by omega)]
        rw [if_neg (fun u => z0 (cm.1.1 u)), if_neg (fun u => z2 (cm.2.2.1.1 u)), if_neg (fun u => z1 (cm.2.1.1 u)), lo, hb_bind, if_pos rfl, t1, hb_bind, if_neg tm, fx_f3]; rfl
      · rw [fmg (fnd 3 τ) ρ he2.2.2.2.1 q1', ew, if_neg (by decide), if_pos rfl, fm_f3]; rfl
  · rw [if_neg c] at lo
    have z5 : nv (σ 35 i) = 5 := by
      refine Classical.byContradiction fun u => c ?_
      unfold pt_cn gp_cn
      exact decide_eq_true ⟨(by omega : 3 ≤ nv (σ 35 i)), fun v => u v.1⟩
    obtain ⟨a, b1, b2, b3⟩ := (hE.2.1 i i1).2 z5
    obtain ⟨b, g1, g2⟩ := (hE.2.1 a b1).1 b3
    have na : nv (nI a) = a := nI_clamp (by omega)
    have nb : nv (nI b) = b := nI_clamp (by omega)
    refine pl (Or.inr c) ?_
    unfold fx_goes wv fx_Estate_pledgeParish
    rw [hx_t a1 he.2.1, if_neg d1, e1]
    simp only [hb_g (show i < 24 by omega) (by decide), nI_clamp (show i < 2 ^ 31 by omega)]
    rw [if_neg (fun u => z0 (cm.1.1 u)), if_neg (fun u => z2 (cm.2.2.1.1 u)), if_neg (fun u => z1 (cm.2.1.1 u)), lo, hb_bind, if_neg (by decide), if_neg z0, if_neg z1, if_neg z2, if_neg c, b2, na, g2, nb, hb_g (by omega) (by decide), nI_clamp (by omega), g2, hb_bind, ld_x hN he.1.1 (by omega), hb_bind]

