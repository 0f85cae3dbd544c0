/-! ===== the line and the sides, as plain functions ===== -/
def sp_lf (px py : Nat → Int32) (y : Int32) : Nat → Nat → Int32
  | 0, k => px (k - 1)
  | r + 1, k => if py k < y then sp_lf px py y r (k + 1) else px (k - 1) + ((px k - px (k - 1)) * (y - py (k - 1))) / (py k - py (k - 1))
def sp_line (p : Nat) (px py : Nat → Int32) (y : Int32) : Int32 := if p = 0 then 50 else if py 0 < y then sp_lf px py y (p - 1) 1 else px 0
def sp_side (p : Nat) (px py xs ys st : Nat → Int32) (i : Nat) : Int32 := if xs i = sp_line p px py (ys i) then st i else if sp_line p px py (ys i) ≤ xs i then 1 else 0
def sp_rise (p : Nat) (py : Nat → Int32) : Prop := ∀ i, i + 1 < p → ∃ a b : Nat, py i = nI a ∧ py (i + 1) = nI b ∧ a < b ∧ b ≤ 99
theorem sp_dif {a b : Nat} (h : a < b) (hb : b ≤ 99) : 0 < nI b - nI a ∧ ¬ nI b - nI a = 0 := by
  rw [pk_sub (by omega)]
  exact ⟨nI_lt (a := 0) (by omega) (by omega), nI_ne0 (by omega) (by omega)⟩
theorem sx_lf {N p : Nat} {σ : am_S} {y : Int32} (hp : p ≤ 8) (hσ : σ 1 13 = nI p) (hr : sp_rise p (σ 11)) : ∀ r k n, k + r = p → 1 ≤ k → r < n → fx_Land_lineAt_b29 N n y (nI k) σ = some (sp_lf (σ 10) (σ 11) y r k) := by
  intro r
  induction r with
  | zero =>
    intro k n h1 h2 h3
    obtain ⟨n, rfl⟩ : ∃ m, n = m + 1 := ⟨n - 1, by omega⟩
    have e : p = k := by omega
    subst e
    rw [fx_Land_lineAt_b29, hσ, if_pos (nI_le (Nat.le_refl _) (by omega)), hb_L1, pk_sub h2, hb_g (by omega) (by omega), nI_clamp (by omega)]
    rfl
  | succ r ih =>
    intro k n h1 h2 h3
    obtain ⟨n, rfl⟩ : ∃ m, n = m + 1 := ⟨n - 1, by omega⟩
    rw [fx_Land_lineAt_b29, hσ, if_neg (nI_ge (by omega) (by omega)), hb_g (by omega) (by omega), nI_clamp (by omega)]
    by_cases hc : σ 11 k < y
    · rw [if_pos hc, nI_1, ih (k + 1) n (by omega) (by omega) (by omega), sp_lf, if_pos hc]
    · rw [if_neg hc, sp_lf, if_neg hc]
      obtain ⟨a, b, ha, hb, hab, hb9⟩ := hr (k - 1) (by omega)
      have ek : k - 1 + 1 = k := by omega
      rw [ek] at hb
      have hd := sp_dif hab hb9
      rw [hb_L1, pk_sub h2, fx_Land_lineBetween]
      simp only [hb_g (show k < 8 by omega) (by decide), hb_g (show k - 1 < 8 by omega) (by decide), nI_clamp (show k < 2 ^ 31 by omega), nI_clamp (show k - 1 < 2 ^ 31 by omega)]
      rw [ha, hb, if_pos hd.1, if_neg hd.2]
      rfl
theorem sm_lf {N p : Nat} {σ : am_S} {y : Int32} (hp : p ≤ 8) (hσ : σ 85 10 = nI p) (hr : sp_rise p (σ 94)) : ∀ r k n, k + r = p → 1 ≤ k → r < n → fm_lineAt_b29 N n y (nI k) σ = some (sp_lf (σ 93) (σ 94) y r k) := by
  intro r
  induction r with
  | zero =>
    intro k n h1 h2 h3
    obtain ⟨n, rfl⟩ : ∃ m, n = m + 1 := ⟨n - 1, by omega⟩
    have e : p = k := by omega
    subst e
    rw [fm_lineAt_b29, hσ, if_pos (nI_le (Nat.le_refl _) (by omega)), hb_L1, pk_sub h2, hb_g (by omega) (by omega), nI_clamp (by omega)]
    rfl
  | succ r ih =>
    intro k n h1 h2 h3
    obtain ⟨n, rfl⟩ : ∃ m, n = m + 1 := ⟨n - 1, by omega⟩
    rw [fm_lineAt_b29, hσ, if_neg (nI_ge (by omega) (by omega)), hb_g (by omega) (by omega), nI_clamp (by omega)]
    by_cases hc : σ 94 k < y
    · rw [if_pos hc, nI_1, ih (k + 1) n (by omega) (by omega) (by omega), sp_lf, if_pos hc]
    · rw [if_neg hc, sp_lf, if_neg hc]
      obtain ⟨a, b, ha, hb, hab, hb9⟩ := hr (k - 1) (by omega)
      have ek : k - 1 + 1 = k := by omega
      rw [ek] at hb
      have hd := sp_dif hab hb9
      rw [hb_L1, pk_sub h2]
      simp only [hb_g (show k < 8 by omega) (by decide), hb_g (show k - 1 < 8 by omega) (by decide), nI_clamp (show k < 2 ^ 31 by omega), nI_clamp (show k - 1 < 2 ^ 31 by omega)]
      rw [ha, hb, if_neg hd.2]
theorem sx_line {N p : Nat} {σ : am_S} {y : Int32} (hN : 100 ≤ N) (hp : p ≤ 8) (hσ : σ 1 13 = nI p) (hr : sp_rise p (σ 11)) : fx_Land_lineAt N y σ = some (sp_line p (σ 10) (σ 11) y) := by
  unfold fx_Land_lineAt sp_line
  rw [hσ]
  by_cases h0 : p = 0
  · subst h0; rfl
  · rw [if_neg (nI_ne0 (by omega) (by omega)), if_neg h0, hb_gt (hb_in0 (by omega) (by omega)), hb_gt (hb_in0 (by omega) (by omega)), hb_cl0]
    by_cases hc : σ 11 0 < y
    · rw [if_pos hc, if_pos hc]
      exact sx_lf hp hσ hr (p - 1) 1 N (by omega) (by omega) (by omega)
    · rw [if_neg hc, if_neg hc]
theorem sm_line {N p : Nat} {σ : am_S} {y : Int32} (hN : 100 ≤ N) (hp : p ≤ 8) (hσ : σ 85 10 = nI p) (hr : sp_rise p (σ 94)) : fm_lineAt N y σ = some (sp_line p (σ 93) (σ 94) y) := by
  unfold fm_lineAt sp_line
  rw [hσ]
  by_cases h0 : p = 0
  · subst h0; rfl
  · rw [if_neg (nI_ne0 (by omega) (by omega)), if_neg h0, hb_gt (hb_in0 (by omega) (by omega)), hb_gt (hb_in0 (by omega) (by omega)), hb_cl0]
    by_cases hc : σ 94 0 < y
    · rw [if_pos hc, if_pos hc]
      exact sm_lf hp hσ hr (p - 1) 1 N (by omega) (by omega) (by omega)
    · rw [if_neg hc, if_neg hc]
theorem sx_side {N p i : Nat} {σ : am_S} (hN : 100 ≤ N) (hp : p ≤ 8) (hσ : σ 1 13 = nI p) (hr : sp_rise p (σ 11)) (hi : i < 12) : fx_Land_sideOf N (nI i) σ = some (sp_side p (σ 10) (σ 11) (σ 2) (σ 3) (σ 4) i) := by
  unfold fx_Land_sideOf sp_side
  simp only [hb_g (show i < 12 from hi) (by decide), nI_clamp (show i < 2 ^ 31 by omega), sx_line hN hp hσ hr, hb_bind]
  split
  · rfl
  · split <;> rfl
theorem sm_side {N p i : Nat} {σ : am_S} (hN : 100 ≤ N) (hp : p ≤ 8) (hσ : σ 85 10 = nI p) (hr : sp_rise p (σ 94)) (hi : i < 12) : fm_sideOf N (nI i) σ = some (sp_side p (σ 93) (σ 94) (σ 86) (σ 87) (σ 88) i) := by
  unfold fm_sideOf sp_side
  simp only [hb_g (show i < 12 from hi) (by decide), nI_clamp (show i < 2 ^ 31 by omega), sm_line hN hp hσ hr, hb_bind]
  generalize sp_line p (σ 93) (σ 94) (σ 87 i) = l
  by_cases h1 : l ≤ σ 86 i
  · rw [if_pos h1]
    by_cases h2 : σ 86 i ≤ l
    · have e : σ 86 i = l := (fa_eq _ _).2 (Int.le_antisymm ((fa_le _ _).1 h2) ((fa_le _ _).1 h1))
      rw [if_pos h2, if_pos e]
    · have e : ¬ σ 86 i = l := fun q => h2 ((fa_le _ _).2 (by rw [q]; exact Int.le_refl _))
      rw [if_neg h2, if_neg e, if_pos h1]
  · have e : ¬ σ 86 i = l := fun q => h1 ((fa_le _ _).2 (by rw [q]; exact Int.le_refl _))
    rw [if_neg h1, if_neg e, if_neg h1]
theorem sp_side01 {p : Nat} {px py xs ys st : Nat → Int32} {i : Nat} (h : okc (st i) 1) : ∃ s : Nat, s ≤ 1 ∧ sp_side p px py xs ys st i = nI s := by
  unfold sp_side
  split
  · exact h
  · split
    · exact ⟨1, by omega, rfl⟩
    · exact ⟨0, by omega, rfl⟩
