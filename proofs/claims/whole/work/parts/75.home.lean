theorem mn_m {N n e p s w : Nat} {σ ρ : am_S} {x2 : Int32} {D : Nat → Nat → Nat} (hN : 20000 ≤ N) (hr : ld_ok n e p ρ) (sds : ld_sd p ρ = ld_sd p σ) (hs : s < n) (hw : w < 10) (h2 : ρ 112 w = x2) (h124 : ∀ i j, i < n → j < n → ρ 124 (12 * i + j) = nI (D i j)) (hb : ∀ v, v < n → D s v ≤ 99 ∨ D s v = 100000) : fm_home_b35 N N (nI w) (nI s) 100000 0 ρ = (if (365 : Int32) < ((ρ 85 0) + nI (mn (ld_sd p σ) x2 (D s) n 0 100000)) then some ((0 : Int32), ρ) else some ((1 : Int32), ρ)) := by
  have l1 := hr.2.2.2.1.1
  have ix : ∀ k : Nat, (12 : Int32) * nI s + nI k = nI (12 * s + k) := fun k => by rw [hb_L12, pk_mul, nI_add]
  have key : ∀ r k q x, k + r = n → r < q → (x ≤ 99 ∨ x = 100000) → fm_home_b35 N q (nI w) (nI s) (nI x) (nI k) ρ = (if (365 : Int32) < ((ρ 85 0) + nI (mn (ld_sd p σ) x2 (D s) r k x)) then some ((0 : Int32), ρ) else some ((1 : Int32), ρ)) := by
    intro r
    induction r with
    | zero =>
      intro k q x a1 a2 _
      obtain ⟨q, rfl⟩ : ∃ m, q = m + 1 := ⟨q - 1, by omega⟩
      rw [fm_home_b35, hr.2.2.2.2.1, if_pos (nI_le (by omega) (by omega)), mn]
    | succ r ih =>
      intro k q x a1 a2 a3
      obtain ⟨q, rfl⟩ : ∃ m, q = m + 1 := ⟨q - 1, by omega⟩
      have bk := hb k (by omega)
      rw [fm_home_b35, hr.2.2.2.2.1, if_neg (nI_ge (by omega) (by omega)), ld_m hN hr (by omega), hb_bind, sds, mn, hb_g (by omega) (by decide), nI_clamp (by omega), h2, ix, hb_g (by omega) (by decide), hb_g (by omega) (by decide), nI_clamp (by omega), h124 s k hs (by omega)]
      unfold fm_home_b90 fm_home_b91
      rw [nI_1]
      by_cases z : ld_sd p σ k = x2
      · rw [if_pos z, if_pos z]
        by_cases y : x ≤ D s k
        · rw [if_pos (nI_le y (by omega)), Nat.min_eq_left y]
          exact ih (k + 1) q x (by omega) (by omega) a3
        · rw [if_neg (nI_ge (by omega) (by omega)), Nat.min_eq_right (by omega)]
          exact ih (k + 1) q (D s k) (by omega) (by omega) bk
      · rw [if_neg z, if_neg z]
        exact ih (k + 1) q x (by omega) (by omega) a3
  exact key n 0 N 100000 (by omega) (by omega) (Or.inr rfl)
theorem C_home {N X : Nat} {xs : Nat → Int32} {σ : am_S} (a1 : Int32) (hN : 20000 ≤ N) (h : R σ) : tw (fx_home N X xs a1) (fm_home N a1) σ := by
  obtain ⟨n, e, p, wa, hl, hg⟩ := R0_wg h.1
  have l10 := hg.2.2.1.1
  have l12 := hl.2.2.2.1.1
  have m37 : ∀ k, fnd k σ 85 37 = nI wa := fun k => hg.2.1
  rcases hsE_c a1 wa (by omega) with c1 | ⟨w, i1, e1, c1⟩
  · refine tw1 h ?_ ?_
    · unfold fx_home; rw [hx_w a1 hg.1, if_pos c1, fx_f1]; rfl
    · unfold fm_home; rw [hm_w a1 (m37 1), if_pos c1, fm_f1]; rfl
  have d1 : ¬ hsE a1 wa = 0 := by rw [c1]; decide
  obtain ⟨D, hD⟩ := dt_e 1 hl
  obtain ⟨a, a1', a2⟩ := pw_in (dy := σ 0 12) hg.2.2.1 i1
  obtain ⟨g, t1⟩ := mn_x (N := N) (x2 := σ 49 w) hN hl a1' hD
  have s1 : sc (am_set σ 12 g) σ := sc_set (by decide) (by decide)
  have hl1 := ld_sc s1 hl
  obtain ⟨g2, u1, u2⟩ := dt_r (N := N) (ρ := am_set σ 12 g) hN hl hD hl1 (s1.1 6 (by decide)) (s1.1 7 (by decide)) (s1.1 8 (by decide)) (s1.1 9 (by decide))
  have s2 : sc (am_set (am_set σ 12 g) 124 g2) (am_set σ 12 g) := sc_set (by decide) (by decide)
  have s3 := sc_trans s2 s1
  have hl3 := ld_sc s3 hl
  have hg3 := wg_sc s3 hg
  have hbd : ∀ v, v < n → D a v ≤ 99 ∨ D a v = 100000 := fun v hv => dt_b hl hD a1' hv
  have mm := mn_m (N := N) (w := w) (σ := σ) (x2 := σ 49 w) (D := D) hN hl3 (sd_sc s3) a1' (by omega) (by rw [s3.1 112 (by decide), ← hg.2.2.2.1]) (by rw [hb_set_eq]; exact u2) hbd
  obtain ⟨dd, dd1, dd2⟩ := hg.2.2.2.2.2.2
  have m0 : am_set (am_set σ 12 g) 124 g2 85 0 = nI dd := by rw [s3.2.2.2 0 (by decide), ← hg.2.2.2.2.2.1]; exact dd2
  obtain ⟨m, hm⟩ : ∃ m, m = mn (ld_sd p σ) (σ 49 w) (D a) n 0 100000 := ⟨_, rfl⟩
  have bm : m ≤ 99 ∨ m = 100000 := by rw [hm]; exact mn_b _ _ _ (fun j _ b => hbd j (by omega)) (Or.inr rfl)
  rw [← hm] at t1 mm
  rw [m0] at mm
  refine tw_a (v := if 365 < dd + m then 0 else 1) (am_set σ 12 g) (am_set (am_set σ 12 g) 124 g2) h s1 s2 ?_ ?_
  · unfold fx_home
    rw [hx_w a1 hg.1, if_neg d1, e1, pw_x hN hg.2.2.1 i1, hb_bind, hb_g (by omega) (by decide), nI_clamp (by omega), a2, t1, hb_bind]
    show (if (365 : Int32) < am_set σ 12 g 0 12 + nI (tr m) then some ((0 : Int32), am_set σ 12 g) else some ((1 : Int32), am_set σ 12 g)) = _
    rw [s1.1 0 (by decide), dd2, nI_add, hb_L365]
    rcases bm with b | b
    · rw [tr_s b]
      by_cases z : 365 < dd + m
      · rw [if_pos (nI_lt z (by omega)), if_pos z]
      · rw [if_neg (nI_nlt (by omega) (by omega)), if_neg z]
    · rw [b, tr_l, if_pos (nI_lt (by omega) (by omega)), if_pos (by omega)]
  · unfold fm_home
    rw [hm_w a1 (wg_sc s1 hg).2.1, if_neg d1, u1, hb_bind, e1, pw_m hN hg3.2.2.1 hg3.2.2.2.2.1 i1, hb_bind, pw_sc s3 (by omega)]
    have m0' : am_set (am_set σ 12 g) 124 g2 85 0 = σ 0 12 := by rw [m0]; exact dd2.symm
    rw [m0', a2]
    rw [mm, nI_add, hb_L365]
    by_cases z : 365 < dd + m
    · rw [if_pos (nI_lt z (by omega)), if_pos z]
    · rw [if_neg (nI_nlt (by omega) (by omega)), if_neg z]
/-! ===== what is carried over the border ===== -/
def ab (sd : Nat → Int32) (x2 : Int32) (f : Nat → Nat) (d : Nat) : Nat → Nat → Bool → Bool
  | 0, _, y => y
  | r + 1, k, y => ab sd x2 f d r (k + 1) (y || (decide (sd k = x2) && decide (f k ≤ d)))
theorem ab_mn {sd : Nat → Int32} {x2 : Int32} {f : Nat → Nat} {d : Nat} : ∀ r k x y, (x ≤ d ↔ y = true) → (mn sd x2 f r k x ≤ d ↔ (ab sd x2 f d r k y) = true)
  | 0, _, _, _, h => h
  | r + 1, k, x, y, h => by
    rw [mn, ab]
    refine ab_mn r (k + 1) _ _ ?_
    by_cases z : sd k = x2
    · rw [if_pos z, decide_eq_true z, Bool.true_and, Bool.or_eq_true, decide_eq_true_eq, ← h]
      omega
    · rw [if_neg z, decide_eq_false z, Bool.false_and, Bool.or_false]; exact h

/-- the state's purse -/
def wk_ok (σ : am_S) : Prop := rW (σ 47 0) (σ 47 1) (σ 47 2) (σ 47 3) ∧ σ 47 2 = σ 85 35 ∧ σ 47 3 = σ 85 36 ∧ σ 47 0 = σ 111 0 ∧ σ 47 1 = σ 111 1
theorem R0_wk {σ : am_S} (h : R0 σ) : ∃ n e p pe, R_all n e p pe σ ∧ wk_ok σ := by
  obtain ⟨n, e, p, pe, th, ti, wa, ca, ta, dd, wt, tl, cn, ce, cp, cpe, cth, cti, cwa, cca, cta, cdy, cwt, ctl, f1_11, f1_12, f1_13, f13_7, f22_2, f21_6, f34_6, f34_7, f47_2, f47_3, f48_4, f73_4, f78_4, f0_11, f0_12, f47_0, f47_1, r2, r3, r4, r5, r6, r7, r8, r9, r10, r11, r14, r15, r18, r19, r20, r23, r35, r36, r37, r38, r39, r40, r49, r50, r74, r75, r76, r77, r79, r80, r84, hM, hL, hP, hE, hW, hG, hC, hT, hD, hX0, hX1, hX2, hK⟩ := h
  exact ⟨n, e, p, pe, ⟨⟨cn, ce, cp, hL, by rw [← f1_11]; exact cn, by rw [← f1_12]; exact ce, by rw [← f1_13]; exact cp, r2, r3, r4, r5, r6, r7, r8, r9, r10, r11⟩, ⟨cpe, by rw [← f13_7]; exact cpe, hP, hM, r14, r15, r18, r19, r20⟩, hX0, hX1, hX2⟩, hW, f47_2, f47_3, f47_0, f47_1⟩
theorem wk_sc {τ σ : am_S} (hs : sc τ σ) (h : wk_ok σ) : wk_ok τ := by
  unfold wk_ok at *
  rw [hs.1 47 (by decide), hs.1 111 (by decide), hs.2.2.2 35 (by decide), hs.2.2.2 36 (by decide)]
  exact h
def ot (s : Int32) : Int32 := 1 - s
def cy (n p : Nat) (σ : am_S) (D : Nat → Nat → Nat) (i : Nat) : Int32 := if fx_Week_rateOf (ld_sd p σ (nv (σ 15 i))) σ < fx_Week_rateOf (1 - ld_sd p σ (nv (σ 15 i))) σ then (if mn (ld_sd p σ) (1 - ld_sd p σ (nv (σ 15 i))) (D (nv (σ 15 i))) n 0 100000 ≤ nv (σ 47 3) then (if σ 47 2 < σ 20 i then σ 47 2 else σ 20 i) else 0) else 0
theorem cy_x {N n e p pe i : Nat} {σ τ : am_S} {D : Nat → Nat → Nat} (hN : 20000 ≤ N) (h : R_all n e p pe σ) (hk : wk_ok σ) (hD : dsD e 0 σ D) (hi : i < pe) (hs : sc τ σ) : ∃ τ', fx_Week_carriedBy N (nI i) τ = some (cy n p σ D i, τ') ∧ sc τ' σ := by
  have ht := R_all_sc hs h
  have l1 := h.1.2.2.2.1.1
  have l2 := h.2.1.2.2.1.1
  obtain ⟨_, ⟨o, o1, o2⟩, _⟩ := h.2.1.2.2.1.2.1 i hi
  have no : nv (nI o) = o := nI_clamp (by omega)
  have t15 : τ 15 i = nI o := by rw [hs.1 15 (by decide)]; exact o2
  have hD' : dsD e 0 τ D := by unfold dsD; rw [hs.1 6 (by decide), hs.1 7 (by decide), hs.1 8 (by decide), hs.1 9 (by decide)]; exact hD
  have er : ∀ x, fx_Week_rateOf x τ = fx_Week_rateOf x σ := fun x => by unfold fx_Week_rateOf; rw [hs.1 47 (by decide)]
  unfold fx_Week_carriedBy cy
  rw [hb_g (by omega) (by decide), nI_clamp (by omega), t15, ld_x hN ht.1 (by omega), hb_bind, sd_sc hs, o2, no, er, er]
  by_cases z : fx_Week_rateOf (ld_sd p σ o) σ < fx_Week_rateOf (1 - ld_sd p σ o) σ
  · rw [if_pos z, if_pos z, hb_g (by omega) (by decide)]
    obtain ⟨g, t1⟩ := mn_x (N := N) (x2 := 1 - ld_sd p σ o) hN ht.1 o1 hD'
    rw [sd_sc hs] at t1
    have s1 : sc (am_set τ 12 g) τ := sc_set (by decide) (by decide)
    have s2 := sc_trans s1 hs
    obtain ⟨dd, d1, d2⟩ := hk.1.2.2.2
    have nd : nv (nI dd) = dd := nI_clamp (by omega)
    obtain ⟨m, hm⟩ : ∃ m, m = mn (ld_sd p σ) (1 - ld_sd p σ o) (D o) n 0 100000 := ⟨_, rfl⟩
    have bm : m ≤ 99 ∨ m = 100000 := by rw [hm]; exact mn_b _ _ _ (fun j _ b => dt_b h.1 hD o1 (by omega)) (Or.inr rfl)
    rw [← hm] at t1 ⊢
    refine ⟨am_set τ 12 g, ?_, s2⟩
    rw [t1, hb_bind]
    show (if nI (tr m) ≤ am_set τ 12 g 47 3 then am_g (am_in (nI i) 16) (some ((if am_set τ 12 g 47 2 < am_set τ 12 g 20 i then am_set τ 12 g 47 2 else am_set τ 12 g 20 i), am_set τ 12 g)) else some ((0 : Int32), am_set τ 12 g)) = _
    rw [s2.1 47 (by decide), s2.1 20 (by decide), hb_g (by omega) (by decide), d2, nd]
    rcases bm with b | b
    · rw [tr_s b]
      by_cases y : m ≤ dd
      · rw [if_pos (nI_le y (by omega)), if_pos y]
      · rw [if_neg (nI_ge (by omega) (by omega)), if_neg y]
    · rw [b, tr_l, if_neg (nI_ge (by omega) (by omega)), if_neg (by omega)]
  · rw [if_neg z, if_neg z]
    exact ⟨τ, rfl, hs⟩
theorem cy_m {N n e p pe i : Nat} {σ ρ : am_S} {D : Nat → Nat → Nat} (hN : 20000 ≤ N) (h : R_all n e p pe σ) (hk : wk_ok σ) (hi : i < pe) (hs : sc ρ σ) (h124 : ∀ i j, i < n → j < n → ρ 124 (12 * i + j) = nI (D i j)) (hb : ∀ s v, s < n → v < n → D s v ≤ 99 ∨ D s v = 100000) : fm_carries N (nI i) ρ = some (cy n p σ D i) := by
  have ht := R_all_sc hs h
  have kt := wk_sc hs hk
  have l1 := h.1.2.2.2.1.1
  have l2 := h.2.1.2.2.1.1
  obtain ⟨_, ⟨o, o1, o2⟩, _⟩ := h.2.1.2.2.1.2.1 i hi
  have no : nv (nI o) = o := nI_clamp (by omega)
  have t97 : ρ 97 i = nI o := by rw [← ht.2.1.2.2.2.2.2.1, hs.1 15 (by decide)]; exact o2
  have t101 : ρ 101 i = σ 20 i := by rw [← ht.2.1.2.2.2.2.2.2.2.2, hs.1 20 (by decide)]
  have t35 : ρ 85 35 = σ 47 2 := by rw [← kt.2.1, hs.1 47 (by decide)]
  have t36 : ρ 85 36 = σ 47 3 := by rw [← kt.2.2.1, hs.1 47 (by decide)]
  have c0 : ρ 111 0 = σ 47 0 := by rw [← kt.2.2.2.1, hs.1 47 (by decide)]
  have c1 : ρ 111 1 = σ 47 1 := by rw [← kt.2.2.2.2, hs.1 47 (by decide)]
  obtain ⟨dd, d1, d2⟩ := hk.1.2.2.2
  have nd : nv (nI dd) = dd := nI_clamp (by omega)
  obtain ⟨sd, s1, s2⟩ := ld_01 h.1 o
  have ix : ∀ k : Nat, (12 : Int32) * nI o + nI k = nI (12 * o + k) := fun k => by rw [hb_L12, pk_mul, nI_add]
  have key : ∀ r k q y, k + r = n → r < q → fm_carries_b35 N q (nI i) (nI sd) (if y = true then 1 else 0) (nI k) ρ = some (if ab (ld_sd p σ) (1 - nI sd) (D o) dd r k y = true then (if σ 47 2 < σ 20 i then σ 47 2 else σ 20 i) else 0) := by
    intro r
    induction r with
    | zero =>
      intro k q y a1 a2
      obtain ⟨q, rfl⟩ : ∃ m, q = m + 1 := ⟨q - 1, by omega⟩
      rw [fm_carries_b35, ht.1.2.2.2.2.1, if_pos (nI_le (by omega) (by omega)), hb_g (by omega) (by decide), hb_g (by omega) (by decide), nI_clamp (by omega), t35, t101, ab]
      cases y with
      | true =>
        rw [if_pos rfl, if_neg (by decide), if_pos rfl]
        by_cases z : σ 47 2 < σ 20 i
        · rw [if_pos z, if_pos (by rw [fa_le]; rw [fa_lt] at z; omega)]
        · rw [if_neg z]
          by_cases u : σ 47 2 ≤ σ 20 i
          · rw [if_pos u]
            have : σ 47 2 = σ 20 i := (fa_eq _ _).2 (by rw [fa_le] at u; rw [fa_lt] at z; omega)
            rw [this]
          · rw [if_neg u]
      | false => rw [if_pos (by decide), if_neg (by decide)]
    | succ r ih =>
      intro k q y a1 a2
      obtain ⟨q, rfl⟩ : ∃ m, q = m + 1 := ⟨q - 1, by omega⟩
      have bk := hb o k o1 (by omega)
      rw [fm_carries_b35, ht.1.2.2.2.2.1, if_neg (nI_ge (by omega) (by omega)), ld_m hN ht.1 (by omega), hb_bind, sd_sc hs, hb_g (by omega) (by decide), nI_clamp (by omega), t97, ix, hb_g (by omega) (by decide), nI_clamp (by omega), h124 o k o1 (by omega), t36, d2, ab]
      unfold fm_carries_b83 fm_carries_b84
      obtain ⟨sk, k1, k2⟩ := ld_01 h.1 k
      have eo : ld_sd p σ k = 1 - nI sd ↔ ¬ ld_sd p σ k = nI sd := by
        rw [k2]
        have : (sk = 0 ∨ sk = 1) ∧ (sd = 0 ∨ sd = 1) := by omega
        obtain ⟨u | u, v | v⟩ := this <;> (subst u; subst v; decide)
      have or0 : ∀ y : Bool, (if y = true then (1 : Int32) else 0) ||| 0 = if y = true then 1 else 0 := by decide
      have or1 : ∀ y : Bool, (if y = true then (1 : Int32) else 0) ||| 1 = if (y || true) = true then 1 else 0 := by decide
      rw [nI_1, or0, or1]
      by_cases z : ld_sd p σ k = nI sd
      · rw [if_pos z, decide_eq_false (fun u => (eo.1 u) z), Bool.false_and, Bool.or_false]
        exact ih (k + 1) q y (by omega) (by omega)
      · rw [if_neg z, decide_eq_true (eo.2 z), Bool.true_and]
        by_cases v : D o k ≤ dd
        · rw [if_neg (nI_nlt v (by omega)), decide_eq_true v]
          exact ih (k + 1) q (y || true) (by omega) (by omega)
        · rw [if_pos (nI_lt (by omega) (by omega)), decide_eq_false v, Bool.or_false]
          exact ih (k + 1) q y (by omega) (by omega)
  have k0 := key n 0 N false (by omega) (by omega)
  have e01 : sd = 0 ∨ sd = 1 := by omega
  have am := ab_mn (sd := ld_sd p σ) (x2 := 1 - nI sd) (f := D o) (d := dd) n 0 100000 false ⟨fun u => by omega, fun u => absurd u (by decide)⟩
  have rate : ∀ s : Int32, (s = 0 ∨ s = 1) → ρ 111 s.toNatClampNeg = fx_Week_rateOf s σ := by
    intro s hs'
    unfold fx_Week_rateOf
    rcases hs' with u | u
    · rw [u, if_pos rfl, hb_cl0]; exact c0
    · rw [u, if_neg (by decide), hb_cl1]; exact c1
  have i01 : nI sd = 0 ∨ nI sd = 1 := by rcases e01 with u | u <;> (subst u; decide)
  have j01 : 1 - nI sd = 0 ∨ 1 - nI sd = 1 := by rcases e01 with u | u <;> (subst u; decide)
  have in1 : ∀ s : Int32, (s = 0 ∨ s = 1) → am_in s 2 = true := by
    intro s hs'
    rcases hs' with u | u <;> (subst u; decide)
  unfold fm_carries cy
  rw [hb_g (by omega) (by decide), nI_clamp (by omega), t97, ld_m hN ht.1 (by omega), hb_bind, sd_sc hs, o2, no, d2, nd, s2, hb_gt (in1 _ i01), hb_gt (in1 _ j01), rate _ i01, rate _ j01]
  by_cases z : fx_Week_rateOf (nI sd) σ < fx_Week_rateOf (1 - nI sd) σ
  · rw [if_pos z, if_pos z]
    refine Eq.trans k0 (congrArg some ?_)
    by_cases y : mn (ld_sd p σ) (1 - nI sd) (D o) n 0 100000 ≤ dd
    · rw [if_pos y, if_pos (am.1 y)]
    · rw [if_neg y, if_neg (fun u => y (am.2 u))]
  · rw [if_neg z, if_neg z]

