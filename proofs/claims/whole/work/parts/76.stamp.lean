/-! ===== stamps ===== -/
theorem cs_e {n r k : Nat} {f : Nat → Int32} {x : Int32} (h : n ≤ k) : cs n f (r + 1) k x = x := if_pos h
theorem cs_n {n r k : Nat} {f : Nat → Int32} {x : Int32} (h : ¬ n ≤ k) : cs n f (r + 1) k x = cs n f r (k + 1) (x + f k) := if_neg h
def st_c (n p : Nat) (σ : am_S) (D : Nat → Nat → Nat) (a1 : Int32) (i : Nat) : Int32 := if ld_sd p σ (nv (σ 15 i)) = a1 then σ 20 i - cy n p σ D i else cy n p σ D i
def st_b (n p : Nat) (σ : am_S) (D : Nat → Nat → Nat) (a1 : Int32) (i : Nat) : Int32 := if ld_sd p σ (nv (σ 15 i)) = a1 then 0 else cy n p σ D i
def st_s (n p : Nat) (σ : am_S) (D : Nat → Nat → Nat) (a1 : Int32) (i : Nat) : Int32 := st_c n p σ D a1 i * fx_Week_rateOf a1 σ / 100
def st_f (n p : Nat) (σ : am_S) (D : Nat → Nat → Nat) (a1 a2 : Int32) : Nat → Int32 := if a2 = 0 then st_s n p σ D a1 else if a2 = 1 then st_c n p σ D a1 else st_b n p σ D a1
theorem st_x {N n e p pe : Nat} {σ : am_S} {D : Nat → Nat → Nat} {a1 a2 : Int32} (hN : 20000 ≤ N) (h : R_all n e p pe σ) (hk : wk_ok σ) (hD : dsD e 0 σ D) (h2 : a2 = 0 ∨ a2 = 1 ∨ a2 = 2) : ∀ r k q x τ, pe ≤ k + r → k ≤ pe → r < q → sc τ σ → ∃ τ', fx_stamp_b28 N q a1 a2 x (nI k) τ = some (cs pe (st_f n p σ D a1 a2) (r + 1) k x, τ') ∧ sc τ' σ := by
  have l1 := h.1.2.2.2.1.1
  have l2 := h.2.1.2.2.1.1
  intro r
  induction r with
  | zero =>
    intro k q x τ b1 b2 b3 hs
    obtain ⟨q, rfl⟩ : ∃ m, q = m + 1 := ⟨q - 1, by omega⟩
    refine ⟨τ, ?_, hs⟩
    rw [fx_stamp_b28, (R_all_sc hs h).2.1.1, if_pos (nI_le (by omega) (by omega)), cs, if_pos (by omega)]
  | succ r ih =>
    intro k q x τ b1 b2 b3 hs
    obtain ⟨q, rfl⟩ : ∃ m, q = m + 1 := ⟨q - 1, by omega⟩
    have ht := R_all_sc hs h
    rw [fx_stamp_b28, cs, ht.2.1.1]
    by_cases z : pe ≤ k
    · rw [if_pos (nI_le (by omega) (by omega)), if_pos z]
      exact ⟨τ, rfl, hs⟩
    rw [if_neg (nI_ge (by omega) (by omega)), if_neg z]
    obtain ⟨_, ⟨o, o1, o2⟩, _⟩ := h.2.1.2.2.1.2.1 k (by omega)
    have no : nv (nI o) = o := nI_clamp (by omega)
    obtain ⟨τ1, t1, s1⟩ := cy_x (N := N) hN h hk hD (i := k) (by omega) hs
    have f15 : ∀ ρ, sc ρ σ → ρ 15 k = nI o := fun ρ hr => by rw [hr.1 15 (by decide)]; exact o2
    have fsd : ∀ ρ, sc ρ σ → fx_Land_sideOf N (nI o) ρ = some (ld_sd p σ o) := fun ρ hr => by rw [ld_x hN (ld_sc hr h.1) (by omega), sd_sc hr]
    have f20 : τ1 20 k = σ 20 k := by rw [s1.1 20 (by decide)]
    have br : fx_Week_broughtBy N (nI k) a1 τ = some (st_b n p σ D a1 k, if ld_sd p σ o = a1 then τ else τ1) := by
      unfold fx_Week_broughtBy st_b
      rw [hb_g (by omega) (by decide), nI_clamp (by omega), f15 τ hs, fsd τ hs, hb_bind, o2, no, t1]
      by_cases y : ld_sd p σ o = a1
      · rw [if_pos y, if_pos y, if_pos y]
      · rw [if_neg y, if_neg y, if_neg y]; rfl
    have co : fx_Week_coinOf N (nI k) a1 τ = some (st_c n p σ D a1 k, τ1) := by
      unfold fx_Week_coinOf st_c
      rw [t1, hb_bind, hb_g (by omega) (by decide), nI_clamp (by omega), o2, no]
      show (fx_Land_sideOf N (τ1 15 k) τ1).bind (fun q3 => (if q3 = a1 then am_g (am_in (nI k) 16) (some ((τ1 20 k) - cy n p σ D k, τ1)) else some (cy n p σ D k, τ1))) = _
      rw [f15 τ1 s1, fsd τ1 s1, hb_bind, hb_g (by omega) (by decide), f20]
      by_cases y : ld_sd p σ o = a1
      · rw [if_pos y, if_pos y]
      · rw [if_neg y, if_neg y]
    have sb : sc (if ld_sd p σ o = a1 then τ else τ1) σ := by
      split
      · exact hs
      · exact s1
    have er : fx_Week_rateOf a1 τ1 = fx_Week_rateOf a1 σ := by unfold fx_Week_rateOf; rw [s1.1 47 (by decide)]
    rcases h2 with y | y | y
    · subst y
      rw [if_neg (by decide), co, hb_bind]
      unfold fx_stamp_b84 fx_stamp_b106 fx_Week_stampedOf
      rw [if_pos rfl, hb_bind, nI_1]
      show ∃ τ', fx_stamp_b28 N q a1 0 (x + (st_c n p σ D a1 k * fx_Week_rateOf a1 τ1 / 100)) (nI (k + 1)) τ1 = _ ∧ _
      rw [er]
      exact ih (k + 1) q _ τ1 (by omega) (by omega) (by omega) s1
    · subst y
      rw [if_neg (by decide), co, hb_bind]
      unfold fx_stamp_b84 fx_stamp_b106
      rw [if_neg (by decide), nI_1]
      exact ih (k + 1) q _ τ1 (by omega) (by omega) (by omega) s1
    · subst y
      rw [if_pos rfl, br, hb_bind]
      unfold fx_stamp_b84 fx_stamp_b106
      rw [if_neg (by decide), nI_1]
      exact ih (k + 1) q _ _ (by omega) (by omega) (by omega) sb
theorem st_m {N n e p pe : Nat} {σ ρ : am_S} {D : Nat → Nat → Nat} {a1 a2 : Int32} (hN : 20000 ≤ N) (h : R_all n e p pe σ) (hk : wk_ok σ) (hs : sc ρ σ) (h124 : ∀ i j, i < n → j < n → ρ 124 (12 * i + j) = nI (D i j)) (hb : ∀ s v, s < n → v < n → D s v ≤ 99 ∨ D s v = 100000) (h1 : a1 = 0 ∨ a1 = 1) : ∀ r k q x3 x4 x5, pe ≤ k + r → k ≤ pe → r < q → fm_stamp_b38 N q a1 a2 x3 x4 x5 (nI k) ρ = some (if a2 = 0 then cs pe (st_s n p σ D a1) (r + 1) k x3 else if a2 = 1 then cs pe (st_c n p σ D a1) (r + 1) k x4 else cs pe (st_b n p σ D a1) (r + 1) k x5, ρ) := by
  have l1 := h.1.2.2.2.1.1
  have l2 := h.2.1.2.2.1.1
  have ht := R_all_sc hs h
  have kt := wk_sc hs hk
  have rate : ρ 111 a1.toNatClampNeg = fx_Week_rateOf a1 σ := by
    unfold fx_Week_rateOf
    rcases h1 with u | u
    · rw [u, if_pos rfl, hb_cl0, ← kt.2.2.2.1, hs.1 47 (by decide)]
    · rw [u, if_neg (by decide), hb_cl1, ← kt.2.2.2.2, hs.1 47 (by decide)]
  have in1 : am_in a1 2 = true := by rcases h1 with u | u <;> (subst u; decide)
  intro r
  induction r with
  | zero =>
    intro k q x3 x4 x5 b1 b2 b3
    obtain ⟨q, rfl⟩ : ∃ m, q = m + 1 := ⟨q - 1, by omega⟩
    rw [fm_stamp_b38, ht.2.1.2.1, if_pos (nI_le (by omega) (by omega)), cs_e (show pe ≤ k by omega), cs_e (show pe ≤ k by omega), cs_e (show pe ≤ k by omega)]
    split
    · rfl
    · split <;> rfl
  | succ r ih =>
    intro k q x3 x4 x5 b1 b2 b3
    obtain ⟨q, rfl⟩ : ∃ m, q = m + 1 := ⟨q - 1, by omega⟩
    rw [fm_stamp_b38, ht.2.1.2.1]
    by_cases z : pe ≤ k
    · rw [if_pos (nI_le (by omega) (by omega)), cs_e z, cs_e z, cs_e z]
      split
      · rfl
      · split <;> rfl
    rw [if_neg (nI_ge (by omega) (by omega)), cs_n z, cs_n z, cs_n z]
    obtain ⟨_, ⟨o, o1, o2⟩, _⟩ := h.2.1.2.2.1.2.1 k (by omega)
    have no : nv (nI o) = o := nI_clamp (by omega)
    have t97 : ρ 97 k = nI o := by rw [← ht.2.1.2.2.2.2.2.1, hs.1 15 (by decide)]; exact o2
    have t101 : ρ 101 k = σ 20 k := by rw [← ht.2.1.2.2.2.2.2.2.2.2, hs.1 20 (by decide)]
    have fsd : fm_sideOf N (nI o) ρ = some (ld_sd p σ o) := by rw [ld_m hN ht.1 (by omega), sd_sc hs]
    have nx := ih (k + 1) q (x3 + st_s n p σ D a1 k) (x4 + st_c n p σ D a1 k) (x5 + st_b n p σ D a1 k) (by omega) (by omega) (by omega)
    rw [← nx, cy_m (N := N) hN h hk (i := k) (by omega) hs h124 hb, hb_bind, hb_g (by omega) (by decide), nI_clamp (by omega), t97, fsd, hb_bind, hb_g (by omega) (by decide), t101]
    unfold fm_stamp_b85 fm_stamp_b132
    rw [hb_gt in1, hb_g (by omega) (by decide), nI_clamp (by omega), t97, fsd, hb_bind, hb_gt in1, hb_g (by omega) (by decide), hb_bind, rate, nI_1]
    unfold st_s st_c st_b
    rw [o2, no]
    by_cases y : ld_sd p σ o = a1
    · rw [if_pos y, if_pos y, if_pos y, if_pos y]
    · rw [if_neg y, if_neg y, if_neg y, if_neg y]
theorem C_stamp {N : Nat} {σ : am_S} (a1 a2 : Int32) (hN : 20000 ≤ N) (h : R σ) : tw (fx_stamp N a1 a2) (fm_stamp N a1 a2) σ := by
  obtain ⟨n, e, p, pe, ha, hk⟩ := R0_wk h.1
  have l1 := ha.1.2.2.2.1.1
  have l2 := ha.2.1.2.2.1.1
  rcases zoE_c a1 with c1 | ⟨k3, c1⟩
  · refine tw1 h ?_ ?_
    · unfold fx_stamp fx_stamp_b16; rw [zx_x, if_pos c1, fx_f1]; rfl
    · unfold fm_stamp fm_stamp_b16; rw [zx_s, if_pos c1, fm_f1]; rfl
  have d1 : ¬ zoE a1 = 0 := by rw [c1]; decide
  rcases inE_c a2 0 2 with ⟨c2, k⟩ | ⟨c2, k1, k2⟩
  · refine tw1 h ?_ ?_
    · unfold fx_stamp fx_stamp_b16
      rw [zx_x, if_neg d1]
      by_cases z : a2 < 0
      · rw [if_pos z, fx_f1]; rfl
      · rw [if_neg z, if_neg (fun u => (ng.1 u) (k.resolve_left z)), fx_f1]; rfl
    · unfold fm_stamp fm_stamp_b16; rw [zx_s, if_neg d1, in_m, if_pos c2, fm_f1]; rfl
  have d2 : ¬ inE a2 0 2 = 0 := by rw [c2]; decide
  obtain ⟨c, c4, ec⟩ : okc a2 2 := in_nat (by decide) k1 k2
  have h2 : a2 = 0 ∨ a2 = 1 ∨ a2 = 2 := by
    have : c = 0 ∨ c = 1 ∨ c = 2 := by omega
    rcases this with u | u | u
    · left; rw [ec, u]; rfl
    · right; left; rw [ec, u]; rfl
    · right; right; rw [ec, u]; rfl
  obtain ⟨D, hD⟩ := dt_e 0 ha.1
  obtain ⟨τ, t1, s1⟩ := st_x (N := N) (a1 := a1) hN ha hk hD h2 16 0 N 0 σ (by omega) (by omega) (by omega) (sc_refl σ)
  have hl1 := ld_sc s1 ha.1
  obtain ⟨g, u1, u2⟩ := dt_r (N := N) (ρ := τ) hN ha.1 hD hl1 (s1.1 6 (by decide)) (s1.1 7 (by decide)) (s1.1 8 (by decide)) (s1.1 9 (by decide))
  have s2 : sc (am_set τ 124 g) τ := sc_set (by decide) (by decide)
  have mm := st_m (N := N) (a2 := a2) hN ha hk (sc_trans s2 s1) (D := D) (by rw [hb_set_eq]; exact u2) (fun s v a b => dt_b ha.1 hD a b) k3 16 0 N 0 0 0 (by omega) (by omega) (by omega)
  have ef : (if a2 = 0 then cs pe (st_s n p σ D a1) 17 0 0 else if a2 = 1 then cs pe (st_c n p σ D a1) 17 0 0 else cs pe (st_b n p σ D a1) 17 0 0) = cs pe (st_f n p σ D a1 a2) 17 0 0 := by
    unfold st_f
    split
    · rfl
    · split <;> rfl
  refine tw_a (v := cs pe (st_f n p σ D a1 a2) 17 0 0) τ (am_set τ 124 g) h s1 s2 ?_ ?_
  · unfold fx_stamp; rw [zx_x, if_neg d1, if_neg k1, if_pos (ng.2 k2)]; exact t1
  · unfold fm_stamp; rw [zx_s, if_neg d1, in_m, if_neg d2, u1, hb_bind, ← ef]; exact mm

