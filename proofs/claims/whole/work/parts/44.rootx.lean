/-! ===== roots: both sides ===== -/
def rt_rp (n : Nat) (g : Nat → Int32) (f : Nat → Nat) : Prop := ∀ v, v < n → g v = nI (f v)
def tl_ok (n t : Nat) (A B : Nat → Int32) (ta tb : Nat → Nat) : Prop := ∀ k, k < t → A k = nI (ta k) ∧ B k = nI (tb k) ∧ ta k < n ∧ tb k < n
theorem rt_rp_st {n k : Nat} {g : Nat → Int32} {f : Nat → Nat} {ta tb : Nat → Nat} (h : rt_rp n g f) : rt_rp n (upd (upd g (ta k) (nI (min (f (ta k)) (f (tb k))))) (tb k) (nI (min (f (ta k)) (f (tb k))))) (rt_st ta tb k f) := by
  intro v hv
  unfold rt_st
  by_cases e2 : v = tb k
  · subst e2; rw [hb_us, if_pos (Or.inr rfl)]
  · rw [hb_un e2]
    by_cases e1 : v = ta k
    · subst e1; rw [hb_us, if_pos (Or.inl rfl)]
    · rw [hb_un e1, if_neg (by omega)]; exact h v hv
theorem rx_b35 {N n t : Nat} {ta tb : Nat → Nat} {σ : am_S} {x2 : Int32} {f : Nat → Nat} {K : Int32 → am_S → Option am_S} (hn : n ≤ 24) (ht : t ≤ 12) (h7 : σ 34 7 = nI t) (hT : tl_ok n t (σ 39) (σ 40) ta tb) (hf : ∀ v, f v ≤ v) : ∀ r m q g, m + r = t → r < q → rt_rp n g (rt_rd ta tb m f) → ∃ g', fx_Parting_findRoots_b35 N K q x2 (nI m) (am_set σ 42 g) = K (x2 + 1) (am_set σ 42 g') ∧ rt_rp n g' (rt_rd ta tb t f) := by
  intro r
  induction r with
  | zero =>
    intro m q g h1 h2 h3
    obtain ⟨q, rfl⟩ : ∃ m, q = m + 1 := ⟨q - 1, by omega⟩
    have e : m = t := by omega
    subst e
    refine ⟨g, ?_, h3⟩
    rw [fx_Parting_findRoots_b35, hb_set_ne (by decide), h7, if_pos (nI_le (Nat.le_refl _) (by omega))]
  | succ r ih =>
    intro m q g h1 h2 h3
    obtain ⟨q, rfl⟩ : ∃ m, q = m + 1 := ⟨q - 1, by omega⟩
    obtain ⟨hA, hB, ha, hb⟩ := hT m (by omega)
    have va := h3 (ta m) ha
    have vb := h3 (tb m) hb
    have la := Nat.le_trans (rt_rd_mono (ta := ta) (tb := tb) (r := f) (ta m) (Nat.zero_le m)) (hf (ta m))
    have lb := Nat.le_trans (rt_rd_mono (ta := ta) (tb := tb) (r := f) (tb m) (Nat.zero_le m)) (hf (tb m))
    obtain ⟨g', e1, e2⟩ := ih (m + 1) q _ (by omega) (by omega) (rt_rp_st h3)
    refine ⟨g', ?_, e2⟩
    refine Eq.trans ?_ e1
    rw [fx_Parting_findRoots_b35]
    generalize rt_rd ta tb m f = F at *
    have em : (if nI (F (tb m)) < nI (F (ta m)) then nI (F (tb m)) else nI (F (ta m))) = nI (min (F (ta m)) (F (tb m))) := by
      by_cases q1 : F (tb m) < F (ta m)
      · rw [if_pos (nI_lt q1 (by omega)), Nat.min_eq_right (by omega)]
      · rw [if_neg (nI_nlt (by omega) (by omega)), Nat.min_eq_left (by omega)]
    simp only [hb_set_ne (show 34 ≠ 42 by decide), hb_set_ne (show 39 ≠ 42 by decide), hb_set_ne (show 40 ≠ 42 by decide), h7, nI_clamp (show m < 2 ^ 31 by omega), hA, hB, hb_g (show m < 12 by omega) (by decide), hb_g (show ta m < 24 by omega) (by decide), hb_g (show tb m < 24 by omega) (by decide), nI_clamp (show ta m < 2 ^ 31 by omega), nI_clamp (show tb m < 2 ^ 31 by omega), hb_set_eq, va, vb, em, hb_upset, nI_1]
    rw [if_neg (nI_ge (by omega) (by omega))]
theorem rx_b25 {N n t : Nat} {ta tb : Nat → Nat} {σ : am_S} (hN : 200 ≤ N) (hn : n ≤ 24) (ht : t ≤ 12) (h7 : σ 34 7 = nI t) (hT : tl_ok n t (σ 39) (σ 40) ta tb) : ∀ r k q g, k + r = t → r < q → rt_rp n g (rt_it t ta tb k (fun v => v)) → ∃ g', fx_Parting_findRoots_b25 N q (nI k) (am_set σ 42 g) = some (am_set σ 42 g') ∧ rt_rp n g' (rt_it t ta tb t (fun v => v)) := by
  intro r
  induction r with
  | zero =>
    intro m q g h1 h2 h3
    obtain ⟨q, rfl⟩ : ∃ m, q = m + 1 := ⟨q - 1, by omega⟩
    have e : m = t := by omega
    subst e
    refine ⟨g, ?_, h3⟩
    rw [fx_Parting_findRoots_b25, hb_set_ne (by decide), h7, if_pos (nI_le (Nat.le_refl _) (by omega))]
  | succ r ih =>
    intro m q g h1 h2 h3
    obtain ⟨q, rfl⟩ : ∃ m, q = m + 1 := ⟨q - 1, by omega⟩
    obtain ⟨g1, e1, e2⟩ := rx_b35 (N := N) (x2 := nI m) (K := fun x2 σ => fx_Parting_findRoots_b25 N q x2 σ) hn ht h7 hT (fun v => rt_it_mono (t := t) (ta := ta) (tb := tb) (r := fun v => v) v (Nat.zero_le m)) t 0 N g (by omega) (by omega) h3
    obtain ⟨g2, e3, e4⟩ := ih (m + 1) q g1 (by omega) (by omega) e2
    refine ⟨g2, ?_, e4⟩
    rw [fx_Parting_findRoots_b25, hb_set_ne (by decide), h7, if_neg (nI_ge (by omega) (by omega))]
    refine Eq.trans e1 ?_
    rw [nI_1]
    exact e3
theorem rx_b2 {N n t : Nat} {ta tb : Nat → Nat} {σ : am_S} (hN : 200 ≤ N) (hn : n ≤ 24) (ht : t ≤ 12) (h6 : σ 34 6 = nI n) (h7 : σ 34 7 = nI t) (hT : tl_ok n t (σ 39) (σ 40) ta tb) : ∀ r k q g, k + r = n → r < q → (∀ v, v < k → g v = nI v) → ∃ g', fx_Parting_findRoots_b2 N q (nI k) (am_set σ 42 g) = some (am_set σ 42 g') ∧ rt_rp n g' (rt_it t ta tb t (fun v => v)) := by
  intro r
  induction r with
  | zero =>
    intro m q g h1 h2 h3
    obtain ⟨q, rfl⟩ : ∃ m, q = m + 1 := ⟨q - 1, by omega⟩
    have e : m = n := by omega
    subst e
    rw [fx_Parting_findRoots_b2, hb_set_ne (by decide), h6, if_pos (nI_le (Nat.le_refl _) (by omega))]
    exact rx_b25 hN hn ht h7 hT t 0 N g (by omega) (by omega) h3
  | succ r ih =>
    intro m q g h1 h2 h3
    obtain ⟨q, rfl⟩ : ∃ m, q = m + 1 := ⟨q - 1, by omega⟩
    rw [fx_Parting_findRoots_b2, hb_set_ne (by decide), h6, if_neg (nI_ge (by omega) (by omega)), hb_g (by omega) (by decide), nI_clamp (by omega), hb_upset, nI_1]
    refine ih (m + 1) q _ (by omega) (by omega) ?_
    intro v hv
    by_cases e : v = m
    · subst e; rw [hb_us]
    · rw [hb_un e]; exact h3 v (by omega)
theorem sx_roots {N n t : Nat} {ta tb : Nat → Nat} {σ : am_S} (hN : 200 ≤ N) (hn : n ≤ 24) (ht : t ≤ 12) (h6 : σ 34 6 = nI n) (h7 : σ 34 7 = nI t) (hT : tl_ok n t (σ 39) (σ 40) ta tb) : ∃ g, fx_Parting_findRoots N σ = some (am_set σ 42 g) ∧ rt_rp n g (rt_it t ta tb t (fun v => v)) := by
  have := rx_b2 (N := N) hN hn ht h6 h7 hT n 0 N (σ 42) (by omega) (by omega) (fun v hv => absurd hv (Nat.not_lt_zero v))
  rw [hb_set_self] at this
  exact this
/-! the reference -/
theorem rm_b39 {N n t : Nat} {ta tb : Nat → Nat} {σ : am_S} {x2 : Int32} {f : Nat → Nat} {K : Int32 → am_S → Option am_S} (hn : n ≤ 24) (ht : t ≤ 12) (h7 : σ 85 31 = nI t) (hT : tl_ok n t (σ 109) (σ 110) ta tb) (hf : ∀ v, f v ≤ v) : ∀ r m q g, m + r = t → r < q → rt_rp n g (rt_rd ta tb m f) → ∃ g', fm_tellGroups_b39 N K q x2 (nI m) (am_set σ 126 g) = K (x2 + 1) (am_set σ 126 g') ∧ rt_rp n g' (rt_rd ta tb t f) := by
  intro r
  induction r with
  | zero =>
    intro m q g h1 h2 h3
    obtain ⟨q, rfl⟩ : ∃ m, q = m + 1 := ⟨q - 1, by omega⟩
    have e : m = t := by omega
    subst e
    refine ⟨g, ?_, h3⟩
    rw [fm_tellGroups_b39, hb_set_ne (by decide), h7, if_pos (nI_le (Nat.le_refl _) (by omega))]
  | succ r ih =>
    intro m q g h1 h2 h3
    obtain ⟨q, rfl⟩ : ∃ m, q = m + 1 := ⟨q - 1, by omega⟩
    obtain ⟨hA, hB, ha, hb⟩ := hT m (by omega)
    have va := h3 (ta m) ha
    have vb := h3 (tb m) hb
    have la := Nat.le_trans (rt_rd_mono (ta := ta) (tb := tb) (r := f) (ta m) (Nat.zero_le m)) (hf (ta m))
    have lb := Nat.le_trans (rt_rd_mono (ta := ta) (tb := tb) (r := f) (tb m) (Nat.zero_le m)) (hf (tb m))
    obtain ⟨g', e1, e2⟩ := ih (m + 1) q _ (by omega) (by omega) (rt_rp_st h3)
    refine ⟨g', ?_, e2⟩
    refine Eq.trans ?_ e1
    rw [fm_tellGroups_b39]
    unfold fm_tellGroups_b97 fm_tellGroups_b122
    generalize rt_rd ta tb m f = F at *
    simp only [hb_set_ne (show 85 ≠ 126 by decide), hb_set_ne (show 109 ≠ 126 by decide), hb_set_ne (show 110 ≠ 126 by decide), h7, nI_clamp (show m < 2 ^ 31 by omega), hA, hB, hb_g (show m < 12 by omega) (by decide), hb_g (show ta m < 24 by omega) (by decide), hb_g (show tb m < 24 by omega) (by decide), nI_clamp (show ta m < 2 ^ 31 by omega), nI_clamp (show tb m < 2 ^ 31 by omega), hb_set_eq, va, vb, hb_upset, nI_1]
    rw [if_neg (nI_ge (by omega) (by omega))]
    by_cases q1 : F (tb m) ≤ F (ta m)
    · rw [if_pos (nI_le q1 (by omega)), if_pos (nI_le q1 (by omega)), Nat.min_eq_right (by omega)]
    · rw [if_neg (nI_ge (by omega) (by omega)), if_neg (nI_ge (by omega) (by omega)), Nat.min_eq_left (by omega)]
theorem rm_b31 {N n t : Nat} {ta tb : Nat → Nat} {σ : am_S} (hN : 200 ≤ N) (hn : n ≤ 24) (ht : t ≤ 12) (h7 : σ 85 31 = nI t) (hT : tl_ok n t (σ 109) (σ 110) ta tb) : ∀ r k q g, k + r = 24 → r < q → rt_rp n g (rt_it t ta tb k (fun v => v)) → ∃ g', fm_tellGroups_b31 N q (nI k) (am_set σ 126 g) = fm_tellGroups_b142 N N 0 (am_up (am_set σ 126 g') 85 64 0) ∧ rt_rp n g' (rt_it t ta tb t (fun v => v)) := by
  intro r
  induction r with
  | zero =>
    intro m q g h1 h2 h3
    obtain ⟨q, rfl⟩ : ∃ m, q = m + 1 := ⟨q - 1, by omega⟩
    have e : m = 24 := by omega
    subst e
    refine ⟨g, ?_, ?_⟩
    · rw [fm_tellGroups_b31, hb_L24, if_pos (nI_le (Nat.le_refl _) (by omega))]
    · rw [rt_24 (n := n) (fun k hk => ⟨(hT k hk).2.2.1, (hT k hk).2.2.2⟩) (by omega)] at h3
      exact h3
  | succ r ih =>
    intro m q g h1 h2 h3
    obtain ⟨q, rfl⟩ : ∃ m, q = m + 1 := ⟨q - 1, by omega⟩
    obtain ⟨g1, e1, e2⟩ := rm_b39 (N := N) (x2 := nI m) (K := fun x2 σ => fm_tellGroups_b31 N q x2 σ) hn ht h7 hT (fun v => rt_it_mono (t := t) (ta := ta) (tb := tb) (r := fun v => v) v (Nat.zero_le m)) t 0 N g (by omega) (by omega) h3
    obtain ⟨g2, e3, e4⟩ := ih (m + 1) q g1 (by omega) (by omega) e2
    refine ⟨g2, ?_, e4⟩
    rw [fm_tellGroups_b31, if_neg (by rw [hb_L24]; exact nI_ge (by omega) (by omega))]
    refine Eq.trans e1 ?_
    rw [nI_1]
    exact e3
theorem rm_b8 {N n t : Nat} {ta tb : Nat → Nat} {σ : am_S} (hN : 200 ≤ N) (hn : n ≤ 24) (ht : t ≤ 12) (h6 : σ 85 26 = nI n) (h7 : σ 85 31 = nI t) (hT : tl_ok n t (σ 109) (σ 110) ta tb) : ∀ r k q g, k + r = n → r < q → (∀ v, v < k → g v = nI v) → ∃ g', fm_tellGroups_b8 N q (nI k) (am_set σ 126 g) = fm_tellGroups_b142 N N 0 (am_up (am_set σ 126 g') 85 64 0) ∧ rt_rp n g' (rt_it t ta tb t (fun v => v)) := by
  intro r
  induction r with
  | zero =>
    intro m q g h1 h2 h3
    obtain ⟨q, rfl⟩ : ∃ m, q = m + 1 := ⟨q - 1, by omega⟩
    have e : m = n := by omega
    subst e
    rw [fm_tellGroups_b8, hb_set_ne (by decide), h6, if_pos (nI_le (Nat.le_refl _) (by omega))]
    exact rm_b31 hN hn ht h7 hT 24 0 N g (by omega) (by omega) h3
  | succ r ih =>
    intro m q g h1 h2 h3
    obtain ⟨q, rfl⟩ : ∃ m, q = m + 1 := ⟨q - 1, by omega⟩
    rw [fm_tellGroups_b8, hb_set_ne (by decide), h6, if_neg (nI_ge (by omega) (by omega)), hb_g (by omega) (by decide), nI_clamp (by omega), hb_upset, nI_1]
    refine ih (m + 1) q _ (by omega) (by omega) ?_
    intro v hv
    by_cases e : v = m
    · subst e; rw [hb_us]
    · rw [hb_un e]; exact h3 v (by omega)
theorem sm_roots {N n t : Nat} {ta tb : Nat → Nat} {σ : am_S} (hN : 200 ≤ N) (hn : n ≤ 24) (ht : t ≤ 12) (h6 : σ 85 26 = nI n) (h7 : σ 85 31 = nI t) (hT : tl_ok n t (σ 109) (σ 110) ta tb) : ∃ g, fm_tellGroups_b8 N N 0 σ = fm_tellGroups_b142 N N 0 (am_up (am_set σ 126 g) 85 64 0) ∧ rt_rp n g (rt_it t ta tb t (fun v => v)) := by
  have := rm_b8 (N := N) hN hn ht h6 h7 hT n 0 N (σ 126) (by omega) (by omega) (fun v hv => absurd hv (Nat.not_lt_zero v))
  rw [hb_set_self] at this
  exact this
