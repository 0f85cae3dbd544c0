/-! ===== one table of days; where a wagon is ===== -/
def dsD (e : Nat) (x1 : Int32) (σ : am_S) (D : Nat → Nat → Nat) : Prop := ds_D e (fun k => nv (σ 6 k)) (fun k => nv (σ 7 k)) (fun k => nv (σ 8 k)) (ds_ok x1 (σ 9)) D
theorem dt_u {n e p : Nat} {σ : am_S} {x1 : Int32} {D D' : Nat → Nat → Nat} (h : ld_ok n e p σ) (hD : dsD e x1 σ D) (hD' : dsD e x1 σ D') {s v : Nat} (hs : s < n) (hv : v < n) : D s v = D' s v := by
  have l1 := h.2.2.2.1.1
  obtain ⟨g, x1', x2⟩ := dt_x (N := 20000) (by decide) h hs hD
  obtain ⟨g', y1, y2⟩ := dt_x (N := 20000) (by decide) h hs hD'
  have eg : am_set σ 12 g = am_set σ 12 g' := by rw [x1'] at y1; exact Option.some.inj y1
  have eg2 : g = g' := by have := congrFun eg 12; rw [hb_set_eq, hb_set_eq] at this; exact this
  have e1 := x2 v hv
  have e2 := y2 v hv
  rw [← eg2, e1] at e2
  have b1 := hD.2.2.1 s v (by omega) (by omega)
  have b2 := hD'.2.2.1 s v (by omega) (by omega)
  unfold ds_x at e2
  by_cases c : D s v < 100000
  · rw [if_pos c] at e2
    by_cases c' : D' s v < 100000
    · rw [if_pos c', nI_eq (by omega) (by omega)] at e2; exact e2
    · rw [if_neg c', nI_eq (by omega) (by omega)] at e2; omega
  · rw [if_neg c] at e2
    by_cases c' : D' s v < 100000
    · rw [if_pos c', nI_eq (by omega) (by omega)] at e2; omega
    · omega
theorem dt_e {n e p : Nat} {σ : am_S} (x1 : Int32) (h : ld_ok n e p σ) : ∃ D, dsD e x1 σ D := by
  obtain ⟨g, D, w1, w2, w3⟩ := dt_m (N := 20000) x1 (by decide) h
  exact ⟨D, w3⟩
theorem dt_r {N n e p : Nat} {σ ρ : am_S} {x1 : Int32} {D : Nat → Nat → Nat} (hN : 20000 ≤ N) (h : ld_ok n e p σ) (hD : dsD e x1 σ D) (hr : ld_ok n e p ρ) (h6 : ρ 6 = σ 6) (h7 : ρ 7 = σ 7) (h8 : ρ 8 = σ 8) (h9 : ρ 9 = σ 9) : ∃ g, fm_tellWays N x1 ρ = some (am_set ρ 124 g) ∧ ∀ i j, i < n → j < n → g (12 * i + j) = nI (D i j) := by
  have l1 := h.2.2.2.1.1
  obtain ⟨g, D', w1, w2, w3⟩ := dt_m (N := N) x1 hN hr
  rw [h6, h7, h8, h9] at w3
  refine ⟨g, w1, fun i j hi hj => ?_⟩
  rw [w2 i j (by omega) (by omega), dt_u h hD w3 hi hj]
theorem dt_b {n e p : Nat} {σ : am_S} {x1 : Int32} {D : Nat → Nat → Nat} (h : ld_ok n e p σ) (hD : dsD e x1 σ D) {s v : Nat} (hs : s < n) (hv : v < n) : D s v ≤ 99 ∨ D s v = 100000 := by
  have l1 := h.2.2.2.1.1
  by_cases c : D s v < 100000
  · exact Or.inl (dt_99 h hD hs hv c)
  · exact Or.inr (by have := hD.2.2.1 s v (by omega) (by omega); omega)
/-! the rows of the class's wagons -/
theorem ar_w : ∀ w, w < 10 → am_ald am_sh 51 (nI w) = some (52 + w) ∧ am_ald am_sh 62 (nI w) = some (63 + w) := by decide
theorem ar_s : ∀ w, w < 10 → am_sh[52 + w]? = some (.inr (.inl (0, 12))) ∧ am_sh[63 + w]? = some (.inr (.inl (0, 12))) := by
  intro w hw
  have : w = 0 ∨ w = 1 ∨ w = 2 ∨ w = 3 ∨ w = 4 ∨ w = 5 ∨ w = 6 ∨ w = 7 ∨ w = 8 ∨ w = 9 := by omega
  rcases this with h | h | h | h | h | h | h | h | h | h <;> (subst h; exact ⟨rfl, rfl⟩)
theorem ar_l {w k X : Nat} {xs : Nat → Int32} {σ : am_S} (hw : w < 10) (hk : k < 12) : am_ild am_sh (am_exx X xs) σ (52 + w) (nI k) = some (σ (52 + w) k) ∧ am_ild am_sh (am_exx X xs) σ (63 + w) (nI k) = some (σ (63 + w) k) := by
  obtain ⟨s1, s2⟩ := ar_s w hw
  unfold am_ild
  rw [s1, s2]
  have i1 : am_in (nI k) 12 = true := hb_in hk (by decide)
  have e1 : (nI k).toNatClampNeg = k := nI_clamp (by omega)
  constructor
  · show (if (0 : Nat) = 0 ∧ am_in (nI k) 12 = true then some (σ (52 + w) (nI k).toNatClampNeg) else none) = _
    rw [if_pos ⟨rfl, i1⟩, e1]
  · show (if (0 : Nat) = 0 ∧ am_in (nI k) 12 = true then some (σ (63 + w) (nI k).toNatClampNeg) else none) = _
    rw [if_pos ⟨rfl, i1⟩, e1]
theorem ar_c {w k : Nat} (hw : w < 10) (hk : k < 12) : am_can am_sh 0 (52 + w) (nI k) = true ∧ am_can am_sh 0 (63 + w) (nI k) = true := by
  obtain ⟨s1, s2⟩ := ar_s w hw
  have i1 : am_in (nI k) 12 = true := hb_in hk (by decide)
  unfold am_can
  rw [s1, s2]
  constructor
  · show (decide ((0 : Nat) = 0) && am_in (nI k) 12) = true
    rw [i1]; rfl
  · show (decide ((0 : Nat) = 0) && am_in (nI k) 12) = true
    rw [i1]; rfl
def pl (P T : Nat → Int32) (dy : Int32) : Nat → Nat → Int32 → Int32
  | 0, _, x => x
  | r + 1, k, x => pl P T dy r (k + 1) (if dy < T k then x else P k)
theorem pl_cong {P P' T T' : Nat → Int32} {dy : Int32} : ∀ r k x, (∀ j, k ≤ j → j < k + r → P j = P' j ∧ T j = T' j) → pl P T dy r k x = pl P' T' dy r k x
  | 0, _, _, _ => rfl
  | r + 1, k, x, h => by
    rw [pl, pl, (h k (by omega) (by omega)).1, (h k (by omega) (by omega)).2]
    exact pl_cong r (k + 1) _ (fun j a b => h j (by omega) (by omega))
theorem pl_in {P T : Nat → Int32} {dy : Int32} {n : Nat} : ∀ r k x, (∃ a : Nat, a < n ∧ x = nI a) → (∀ j, k ≤ j → j < k + r → ∃ a : Nat, a < n ∧ P j = nI a) → ∃ a : Nat, a < n ∧ pl P T dy r k x = nI a
  | 0, _, _, h, _ => h
  | r + 1, k, x, h, hp => by
    rw [pl]
    refine pl_in r (k + 1) _ ?_ (fun j a b => hp j (by omega) (by omega))
    split
    · exact h
    · exact hp k (by omega) (by omega)
def pw (σ : am_S) (w : Nat) (dy : Int32) : Int32 := pl (σ (52 + w)) (σ (63 + w)) dy (nv (σ 50 w) - 1) 1 (σ (52 + w) 0)
theorem pw_x {N n wa w X : Nat} {xs : Nat → Int32} {dy : Int32} {σ : am_S} (hN : 20000 ≤ N) (hG : rG n wa σ) (hw : w < wa) : fx_Wagons_placeOn N X xs (nI w) dy σ = some (pw σ w dy) := by
  obtain ⟨h1, h2, _⟩ := hG
  obtain ⟨_, c, c1, c2, c3, _⟩ := h2 w hw
  have nc : nv (nI c) = c := nI_clamp (by omega)
  have w10 : w < 10 := by omega
  have key : ∀ r k q x, k + r = c → r < q → fx_Wagons_placeOn_b12 N X xs q (nI w) dy x (nI k) σ = some (pl (σ (52 + w)) (σ (63 + w)) dy r k x) := by
    intro r
    induction r with
    | zero =>
      intro k q x a1 a2
      obtain ⟨q, rfl⟩ : ∃ m, q = m + 1 := ⟨q - 1, by omega⟩
      rw [fx_Wagons_placeOn_b12, hb_g (by omega) (by decide), nI_clamp (by omega), c3, if_pos (nI_le (by omega) (by omega)), pl]
    | succ r ih =>
      intro k q x a1 a2
      obtain ⟨q, rfl⟩ : ∃ m, q = m + 1 := ⟨q - 1, by omega⟩
      rw [fx_Wagons_placeOn_b12, hb_g (by omega) (by decide), nI_clamp (by omega), c3, if_neg (nI_ge (by omega) (by omega)), (ar_w w w10).2, hb_bind, (ar_l w10 (by omega)).2, hb_bind, (ar_w w w10).1, hb_bind, (ar_l w10 (by omega)).1, hb_bind, pl]
      unfold fx_Wagons_placeOn_b46
      rw [nI_1]
      by_cases z : dy < σ (63 + w) k
      · rw [if_pos z, if_pos z]; exact ih (k + 1) q x (by omega) (by omega)
      · rw [if_neg z, if_neg z]; exact ih (k + 1) q _ (by omega) (by omega)
  unfold fx_Wagons_placeOn pw
  rw [(ar_w w w10).1, hb_bind, hb_L0, (ar_l w10 (by omega)).1, hb_bind, c3, nc]
  exact key (c - 1) 1 N _ (by omega) (by omega)
theorem pw_m {N n wa w : Nat} {dy : Int32} {σ : am_S} (hN : 20000 ≤ N) (hG : rG n wa σ) (h50 : σ 50 = σ 115) (hw : w < wa) : fm_placeOn N (nI w) dy σ = some (pw σ w dy) := by
  obtain ⟨h1, h2, _⟩ := hG
  obtain ⟨_, c, c1, c2, c3, c4⟩ := h2 w hw
  have c3' : σ 115 w = nI c := by rw [← h50]; exact c3
  have nc : nv (nI c) = c := nI_clamp (by omega)
  have w10 : w < 10 := by omega
  have ix : ∀ k : Nat, (12 : Int32) * nI w + nI k = nI (12 * w + k) := fun k => by rw [hb_L12, pk_mul, nI_add]
  have key : ∀ r k q x, k + r = c → r < q → fm_placeOn_b13 N q (nI w) dy x (nI k) σ = some (pl (fun k => σ 113 (12 * w + k)) (fun k => σ 114 (12 * w + k)) dy r k x) := by
    intro r
    induction r with
    | zero =>
      intro k q x a1 a2
      obtain ⟨q, rfl⟩ : ∃ m, q = m + 1 := ⟨q - 1, by omega⟩
      rw [fm_placeOn_b13, hb_g (by omega) (by decide), nI_clamp (by omega), c3', if_pos (nI_le (by omega) (by omega)), pl]
    | succ r ih =>
      intro k q x a1 a2
      obtain ⟨q, rfl⟩ : ∃ m, q = m + 1 := ⟨q - 1, by omega⟩
      rw [fm_placeOn_b13, hb_g (by omega) (by decide), nI_clamp (by omega), c3', if_neg (nI_ge (by omega) (by omega)), ix, hb_g (by omega) (by decide), hb_g (by omega) (by decide), nI_clamp (by omega), pl]
      unfold fm_placeOn_b56
      rw [nI_1]
      by_cases z : dy < σ 114 (12 * w + k)
      · rw [if_pos z, if_pos z]; exact ih (k + 1) q x (by omega) (by omega)
      · rw [if_neg z, if_neg z]; exact ih (k + 1) q _ (by omega) (by omega)
  have e0 : (12 : Int32) * nI w = nI (12 * w) := by rw [hb_L12, pk_mul]
  unfold fm_placeOn pw
  rw [e0, hb_g (by omega) (by decide), nI_clamp (by omega), c3, nc]
  have k0 := key c 0 N (σ 113 (12 * w)) (by omega) (by omega)
  obtain ⟨m, rfl⟩ : ∃ m, c = m + 1 := ⟨c - 1, by omega⟩
  rw [pl] at k0
  have ez : (if dy < σ 114 (12 * w + 0) then σ 113 (12 * w) else σ 113 (12 * w + 0)) = σ (52 + w) 0 := by
    rw [(c4 0 (by omega)).1]
    split <;> rfl
  rw [ez] at k0
  rw [hb_L0, k0]
  refine congrArg some (pl_cong m 1 _ ?_)
  intro j j1 j2
  have := c4 j (by omega)
  exact ⟨this.1.symm, (this.2.2 j1).symm⟩
theorem pw_in {n wa w : Nat} {dy : Int32} {σ : am_S} (hG : rG n wa σ) (hw : w < wa) : ∃ a : Nat, a < n ∧ pw σ w dy = nI a := by
  obtain ⟨h1, h2, _⟩ := hG
  obtain ⟨_, c, c1, c2, c3, c4⟩ := h2 w hw
  have nc : nv (nI c) = c := nI_clamp (by omega)
  unfold pw
  rw [c3, nc]
  exact pl_in _ _ _ (c4 0 (by omega)).2.1 (fun j a b => (c4 j (by omega)).2.1)
def wg_ok (n wa : Nat) (σ : am_S) : Prop := σ 48 4 = nI wa ∧ σ 85 37 = nI wa ∧ rG n wa σ ∧ σ 49 = σ 112 ∧ σ 50 = σ 115 ∧ σ 0 12 = σ 85 0 ∧ okc (σ 0 12) 400
theorem R0_wg {σ : am_S} (h : R0 σ) : ∃ n e p wa, ld_ok n e p σ ∧ wg_ok n wa σ := by
  obtain ⟨n, e, p, pe, th, ti, wa, ca, ta, dd, wt, tl, cn, ce, cp, cpe, cth, cti, cwa, cca, cta, cdy, cwt, ctl, f1_11, f1_12, f1_13, f13_7, f22_2, f21_6, f34_6, f34_7, f47_2, f47_3, f48_4, f73_4, f78_4, f0_11, f0_12, f47_0, f47_1, r2, r3, r4, r5, r6, r7, r8, r9, r10, r11, r14, r15, r18, r19, r20, r23, r35, r36, r37, r38, r39, r40, r49, r50, r74, r75, r76, r77, r79, r80, r84, hM, hL, hP, hE, hW, hG, hC, hT, hD, hX0, hX1, hX2, hK⟩ := h
  exact ⟨n, e, p, wa, ⟨cn, ce, cp, hL, by rw [← f1_11]; exact cn, by rw [← f1_12]; exact ce, by rw [← f1_13]; exact cp, r2, r3, r4, r5, r6, r7, r8, r9, r10, r11⟩, cwa, by rw [← f48_4]; exact cwa, hG, r49, r50, f0_12, dd, hD.1, cdy⟩
theorem wg_sc {n wa : Nat} {τ σ : am_S} (hs : sc τ σ) (h : wg_ok n wa σ) : wg_ok n wa τ := by
  obtain ⟨a1, a2, a3, a4, a5, a6, a7⟩ := h
  refine ⟨by rw [hs.1 48 (by decide)]; exact a1, by rw [hs.2.2.2 37 (by decide)]; exact a2, rG_fr (fun c hc => hs.1 c (sc_rng c (by omega) hc)) a3, by rw [hs.1 49 (by decide), hs.1 112 (by decide)]; exact a4, by rw [hs.1 50 (by decide), hs.1 115 (by decide)]; exact a5, by rw [hs.1 0 (by decide), hs.2.2.2 0 (by decide)]; exact a6, by rw [hs.1 0 (by decide)]; exact a7⟩
theorem wg_f {n wa k : Nat} {σ : am_S} (h : wg_ok n wa σ) : wg_ok n wa (fnd k σ) := by
  obtain ⟨a1, a2, a3, a4, a5, a6, a7⟩ := h
  exact ⟨a1, a2, rG_up (by decide) a3, a4, a5, a6, a7⟩
theorem pw_sc {w : Nat} {dy : Int32} {τ σ : am_S} (hs : sc τ σ) (hw : w < 10) : pw τ w dy = pw σ w dy := by
  unfold pw
  rw [hs.1 50 (by decide), hs.1 (52 + w) (sc_rng _ (by omega) (by omega)), hs.1 (63 + w) (sc_rng _ (by omega) (by omega))]
theorem C_where {N X : Nat} {xs : Nat → Int32} {σ : am_S} (a1 a2 : Int32) (hN : 20000 ≤ N) (h : R σ) : tw (fx_where N X xs a1 a2) (fm_where N a1 a2) σ := by
  obtain ⟨n, e, p, wa, hl, hg⟩ := R0_wg h.1
  have l10 := hg.2.2.1.1
  have m37 : ∀ k, fnd k σ 85 37 = nI wa := fun k => hg.2.1
  rcases hsE_c a1 wa (by omega) with c1 | ⟨w, i1, e1, c1⟩
  · refine tw1 h ?_ ?_
    · unfold fx_where fx_where_b26; rw [hx_w a1 hg.1, if_pos c1, fx_f1]; rfl
    · unfold fm_where fm_where_b22; rw [hm_w a1 (m37 1), if_pos c1, fm_f1]; rfl
  have d1 : ¬ hsE a1 wa = 0 := by rw [c1]; decide
  rcases inE_c a2 (σ 0 12) 400 with ⟨c2, k⟩ | ⟨c2, k1, k2⟩
  · refine tw1 h ?_ ?_
    · unfold fx_where fx_where_b26
      rw [hx_w a1 hg.1, if_neg d1]
      by_cases z : a2 < σ 0 12
      · rw [if_pos z, fx_f1]; rfl
      · rw [if_neg z, if_neg (fun u => (ng.1 u) (k.resolve_left z)), fx_f1]; rfl
    · unfold fm_where fm_where_b22
      have z : fnd 1 σ 85 0 = σ 0 12 := hg.2.2.2.2.2.1.symm
      rw [hm_w a1 (m37 1), if_neg d1, in_m, z, if_pos c2, fm_f1]; rfl
  have d2 : ¬ inE a2 (σ 0 12) 400 = 0 := by rw [c2]; decide
  refine tw_a (v := pw σ w a2) σ σ h (sc_refl σ) (sc_refl σ) ?_ ?_
  · unfold fx_where; rw [hx_w a1 hg.1, if_neg d1, if_neg k1, if_pos (ng.2 k2), e1, pw_x hN hg.2.2.1 i1]; rfl
  · unfold fm_where; rw [hm_w a1 hg.2.1, if_neg d1, in_m, ← hg.2.2.2.2.2.1, if_neg d2, e1, pw_m hN hg.2.2.1 hg.2.2.2.2.1 i1]; rfl
/-! the nearest parish of a side -/
def mn (sd : Nat → Int32) (x2 : Int32) (f : Nat → Nat) : Nat → Nat → Nat → Nat
  | 0, _, x => x
  | r + 1, k, x => mn sd x2 f r (k + 1) (if sd k = x2 then min x (f k) else x)
def tr (x : Nat) : Nat := if x < 100000 then x else 1000000
theorem tr_s {x : Nat} (h : x ≤ 99) : tr x = x := if_pos (by omega)
theorem tr_l : tr 100000 = 1000000 := rfl
theorem tr_lt (x : Nat) (h : x ≤ 99 ∨ x = 100000) : tr x < 2 ^ 31 := by
  rcases h with h | h
  · rw [tr_s h]; omega
  · rw [h, tr_l]; omega
theorem tr_min {x y : Nat} (hx : x ≤ 99 ∨ x = 100000) (hy : y ≤ 99 ∨ y = 100000) : tr (min x y) = min (tr x) (tr y) := by
  rcases hx with hx | hx
  · rw [tr_s hx, tr_s (show min x y ≤ 99 by omega)]
    rcases hy with hy | hy
    · rw [tr_s hy]
    · rw [hy, tr_l]; omega
  · rcases hy with hy | hy
    · rw [tr_s hy, tr_s (show min x y ≤ 99 by omega), hx, tr_l]; omega
    · rw [hx, hy]; rfl
theorem nI_min {a b : Nat} (ha : a < 2 ^ 31) (hb : b < 2 ^ 31) : (if nI a < nI b then nI a else nI b) = nI (min b a) := by
  by_cases h : a < b
  · rw [if_pos (nI_lt h hb), Nat.min_eq_right (by omega)]
  · rw [if_neg (nI_nlt (by omega) ha), Nat.min_eq_left (by omega)]
theorem mn_le {sd : Nat → Int32} {x2 : Int32} {f : Nat → Nat} : ∀ r k x, mn sd x2 f r k x ≤ x
  | 0, _, _ => Nat.le_refl _
  | r + 1, k, x => by
    rw [mn]
    refine Nat.le_trans (mn_le r (k + 1) _) ?_
    split
    · exact Nat.min_le_left _ _
    · exact Nat.le_refl _
theorem mn_b {sd : Nat → Int32} {x2 : Int32} {f : Nat → Nat} : ∀ r k x, (∀ j, k ≤ j → j < k + r → f j ≤ 99 ∨ f j = 100000) → (x ≤ 99 ∨ x = 100000) → mn sd x2 f r k x ≤ 99 ∨ mn sd x2 f r k x = 100000
  | 0, _, _, _, h => h
  | r + 1, k, x, hf, h => by
    rw [mn]
    refine mn_b r (k + 1) _ (fun j a b => hf j (by omega) (by omega)) ?_
    have := hf k (by omega) (by omega)
    split
    · omega
    · exact h
theorem mn_x {N n e p s : Nat} {σ : am_S} {x1 x2 : Int32} {D : Nat → Nat → Nat} (hN : 20000 ≤ N) (h : ld_ok n e p σ) (hs : s < n) (hD : dsD e x1 σ D) : ∃ g, fx_Land_daysToSide N (nI s) x2 x1 σ = some (nI (tr (mn (ld_sd p σ) x2 (D s) n 0 100000)), am_set σ 12 g) := by
  have l1 := h.2.2.2.1.1
  obtain ⟨g, t1, t2⟩ := dt_x (N := N) hN h hs hD
  refine ⟨g, ?_⟩
  have hl : ld_ok n e p (am_set σ 12 g) := ld_sc (sc_set (by decide) (by decide)) h
  have sds : ld_sd p (am_set σ 12 g) = ld_sd p σ := sd_sc (sc_set (by decide) (by decide))
  have key : ∀ r k q x, k + r = n → r < q → (x ≤ 99 ∨ x = 100000) → fx_Land_daysToSide_b13 N q x2 (nI (tr x)) (nI k) (am_set σ 12 g) = some (nI (tr (mn (ld_sd p σ) x2 (D s) r k x)), am_set σ 12 g) := by
    intro r
    induction r with
    | zero =>
      intro k q x a1 a2 _
      obtain ⟨q, rfl⟩ : ∃ m, q = m + 1 := ⟨q - 1, by omega⟩
      rw [fx_Land_daysToSide_b13, hl.1, if_pos (nI_le (by omega) (by omega)), mn]
    | succ r ih =>
      intro k q x a1 a2 a3
      obtain ⟨q, rfl⟩ : ∃ m, q = m + 1 := ⟨q - 1, by omega⟩
      have bk := dt_b h hD hs (v := k) (by omega)
      rw [fx_Land_daysToSide_b13, hl.1, if_neg (nI_ge (by omega) (by omega)), ld_x hN hl (by omega), hb_bind, sds, mn]
      unfold fx_Land_daysToSide_b46
      rw [nI_1, hb_g (by omega) (by decide), nI_clamp (by omega), hb_set_eq, t2 k (by omega)]
      have ex : ds_x D s k = tr (D s k) := rfl
      rw [ex]
      by_cases z : ld_sd p σ k = x2
      · rw [if_pos z, if_pos z]
        have nx := ih (k + 1) q (min x (D s k)) (by omega) (by omega) (by omega)
        have em : (if nI (tr (D s k)) < nI (tr x) then nI (tr (D s k)) else nI (tr x)) = nI (tr (min x (D s k))) := by
          rw [tr_min a3 bk]
          exact nI_min (tr_lt _ bk) (tr_lt _ a3)
        rw [em]
        exact nx
      · rw [if_neg z, if_neg z]
        exact ih (k + 1) q x (by omega) (by omega) a3
  unfold fx_Land_daysToSide
  rw [t1, hb_bind]
  exact key n 0 N 100000 (by omega) (by omega) (Or.inr rfl)

