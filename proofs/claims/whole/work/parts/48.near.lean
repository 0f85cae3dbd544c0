/-! ===== the search: both sides ===== -/
theorem cx_ch {N g : Nat} {s : Nat → Int32} {σ : am_S} (hg : g ≤ 14) (h6 : σ 41 6 = nI g) (h45 : ∀ x, x < 24 → σ 45 x = s x) : ∀ r b q f, b + r = g → r < q → (∀ k, k < b → f k = sq_s (fun b => s (g - 1 - b)) k - s (g - 1 - k)) → ∃ f', fx_Parting_setChanges_b4 N q (sq_s (fun b => s (g - 1 - b)) b) (nI b) (am_set σ 46 f) = some (am_set σ 46 f') ∧ ∀ k, k < g → f' k = sq_s (fun b => s (g - 1 - b)) k - s (g - 1 - k) := by
  intro r
  induction r with
  | zero =>
    intro b q f h1 h2 h3
    obtain ⟨q, rfl⟩ : ∃ m, q = m + 1 := ⟨q - 1, by omega⟩
    have e : b = g := by omega
    subst e
    refine ⟨f, ?_, h3⟩
    rw [fx_Parting_setChanges_b4, hb_set_ne (by decide), h6, if_pos (nI_le (Nat.le_refl _) (by omega))]
  | succ r ih =>
    intro b q f h1 h2 h3
    obtain ⟨q, rfl⟩ : ∃ m, q = m + 1 := ⟨q - 1, by omega⟩
    have hst : ∀ k, k < b + 1 → upd f b (sq_s (fun b => s (g - 1 - b)) b - s (g - 1 - b)) k = sq_s (fun b => s (g - 1 - b)) k - s (g - 1 - k) := by
      intro k hk
      by_cases e : k = b
      · subst e; rw [hb_us]
      · rw [hb_un e]; exact h3 k (by omega)
    obtain ⟨f', e1, e2⟩ := ih (b + 1) q _ (by omega) (by omega) hst
    refine ⟨f', ?_, e2⟩
    rw [← e1, fx_Parting_setChanges_b4, hb_set_ne (by decide), h6, if_neg (nI_ge (by omega) (by omega)), hb_L1, pk_sub (by omega), pk_sub (by omega), hb_g (by omega) (by decide), hb_g (by omega) (by decide), nI_clamp (by omega), nI_clamp (by omega), hb_set_ne (by decide), h45 _ (by omega), hb_upset, nI_add]
    rfl
def nr_S (g : Nat) (s : Nat → Int32) (w : Nat) : Int32 := sq_s (se_f (fun b => s (g - 1 - b)) w) g
theorem nr_bd {g : Nat} {s : Nat → Int32} (hg : g ≤ 14) (hs : ∀ x, -240000 ≤ (s x).toInt ∧ (s x).toInt ≤ 240000) (w : Nat) : -8000000 ≤ (nr_S g s w).toInt ∧ (nr_S g s w).toInt ≤ 8000000 := by
  have h := sq_bd (f := se_f (fun b => s (g - 1 - b)) w) (c := 240000) (by omega) (by omega) g (by omega) (by
    intro k hk
    unfold se_f
    split
    · show (-240000 : Int) ≤ 0 ∧ (0 : Int) ≤ 240000; omega
    · exact hs _)
  unfold nr_S
  omega
def nr_at (aim : Int32) (g : Nat) (s : Nat → Int32) (w : Nat) (τ σ : am_S) : Prop := (∀ c, c ≠ 41 → τ c = σ c) ∧ (∀ k, k ≠ 8 → k ≠ 9 → τ 41 k = σ 41 k) ∧ τ 41 9 = nI (se_b (se_D aim (nr_S g s)) w) ∧ τ 41 8 = aim - nr_S g s (se_b (se_D aim (nr_S g s)) w)
theorem cx_near {N g : Nat} {s : Nat → Int32} {aim : Int32} {σ : am_S} (hg : g ≤ 14) (hs : ∀ x, -240000 ≤ (s x).toInt ∧ (s x).toInt ≤ 240000) (ha : -22000000 ≤ aim.toInt ∧ aim.toInt ≤ 22000000) (h46 : ∀ k, k < g → σ 46 k = sq_s (fun b => s (g - 1 - b)) k - s (g - 1 - k)) : ∀ r w q τ, w + r = 2 ^ g → 1 ≤ w → r < q → nr_at aim g s w τ σ → ∃ τ', fx_Parting_findNearest_b31 N q aim (nr_S g s (w - 1)) (nI (2 ^ g)) (nI w) τ = some τ' ∧ nr_at aim g s (2 ^ g) τ' σ := by
  have l14 : 2 ^ g ≤ 2 ^ 14 := Nat.pow_le_pow_right (by decide) hg
  intro r
  induction r with
  | zero =>
    intro w q τ h1 h2 h3 h4
    obtain ⟨q, rfl⟩ : ∃ m, q = m + 1 := ⟨q - 1, by omega⟩
    have e : w = 2 ^ g := by omega
    rw [fx_Parting_findNearest_b31, if_pos (nI_le (by omega) (by omega))]
    rw [e] at h4
    exact ⟨τ, rfl, h4⟩
  | succ r ih =>
    intro w q τ h1 h2 h3 h4
    obtain ⟨q, rfl⟩ : ∃ m, q = m + 1 := ⟨q - 1, by omega⟩
    obtain ⟨a1, a2, a3, a4⟩ := h4
    obtain ⟨b, hb, e1, e2, e3⟩ := nz_some (w := w) (by omega) (by omega) τ
    have hbg : b < g := by
      refine Classical.byContradiction fun q1 => ?_
      have p1 : 2 ^ g ≤ 2 ^ b := Nat.pow_le_pow_right (by decide) (by omega)
      have p2 : w / 2 ^ b = 0 := Nat.div_eq_of_lt (by omega)
      rw [p2] at e3
      exact absurd e3 (by decide)
    have bS := nr_bd (s := s) hg hs
    have dS := se_sub ha (bS (se_b (se_D aim (nr_S g s)) w))
    have dW := se_sub ha (bS w)
    have eS : nr_S g s (w - 1) + (sq_s (fun b => s (g - 1 - b)) b - s (g - 1 - b)) = nr_S g s w := by
      have := se_step (W := fun b => s (g - 1 - b)) e2 e3 (g - (b + 1))
      rw [show b + 1 + (g - (b + 1)) = g by omega] at this
      exact this.symm
    rw [fx_Parting_findNearest_b31, if_neg (nI_ge (by omega) (by omega))]
    by_cases z : τ 41 8 = 0
    · rw [if_pos z]
      refine ⟨τ, rfl, a1, a2, ?_⟩
      have z2 : se_D aim (nr_S g s) (se_b (se_D aim (nr_S g s)) w) = 0 := by
        unfold se_D at *
        rw [a4, fa_eq, dS.1] at z
        have : (0 : Int32).toInt = 0 := rfl
        omega
      have st := se_b_stop (D := se_D aim (nr_S g s)) (w := w) (by omega) z2 (2 ^ g - w)
      rw [show w + (2 ^ g - w) = 2 ^ g by omega] at st
      rw [st]
      exact ⟨a3, a4⟩
    · rw [if_neg z, e1, hb_g hb (by decide), nI_clamp (by omega), a1 46 (by decide), h46 b hbg, eS]
      unfold fx_Parting_findNearest_b86
      have c1 : ((if 0 ≤ τ 41 8 then τ 41 8 else 0 - τ 41 8) ≤ (if 0 ≤ aim - nr_S g s w then aim - nr_S g s w else 0 - (aim - nr_S g s w))) ↔ ¬ se_D aim (nr_S g s) w < se_D aim (nr_S g s) (se_b (se_D aim (nr_S g s)) w) := by
        have w1 := bS w
        have w2 := bS (se_b (se_D aim (nr_S g s)) w)
        rw [a4, fa_le, se_abs (by rw [dS.1]; omega), se_abs (by rw [dW.1]; omega), dS.1, dW.1]
        unfold se_D
        omega
      have eb : se_b (se_D aim (nr_S g s)) (w + 1) = if se_D aim (nr_S g s) w < se_D aim (nr_S g s) (se_b (se_D aim (nr_S g s)) w) then w else se_b (se_D aim (nr_S g s)) w := by
        rw [se_b, if_neg (by omega)]
      have nx := fun τ' (h : nr_at aim g s (w + 1) τ' σ) => ih (w + 1) q τ' (by omega) (by omega) (by omega) h
      rw [show w + 1 - 1 = w by omega] at nx
      by_cases lt : se_D aim (nr_S g s) w < se_D aim (nr_S g s) (se_b (se_D aim (nr_S g s)) w)
      · rw [if_neg (fun q => (c1.1 q) lt), nI_1]
        refine nx _ ⟨fun c hc => by rw [hb_up_ne hc, hb_up_ne hc]; exact a1 c hc, fun k p1 p2 => by rw [hb_up_eq, hb_un p1, hb_up_eq, hb_un p2]; exact a2 k p1 p2, ?_, ?_⟩
        · rw [hb_up_eq, hb_un (by decide), hb_up_eq, hb_us, eb, if_pos lt]
        · rw [hb_up_eq, hb_us, eb, if_pos lt]
      · rw [if_pos (c1.2 lt), nI_1]
        refine nx _ ⟨a1, a2, ?_, ?_⟩
        · rw [eb, if_neg lt]; exact a3
        · rw [eb, if_neg lt]; exact a4
theorem sx_near {N g : Nat} {s : Nat → Int32} {aim : Int32} {σ : am_S} (hN : 20000 ≤ N) (hg : g ≤ 14) (h6 : σ 41 6 = nI g) (h7 : σ 41 7 = sq_s s g) (h45 : ∀ x, x < 24 → σ 45 x = s x) (hs : ∀ x, -240000 ≤ (s x).toInt ∧ (s x).toInt ≤ 240000) (ha : -22000000 ≤ aim.toInt ∧ aim.toInt ≤ 22000000) : ∃ τ, fx_Parting_findNearest N aim σ = some τ ∧ (∀ c, c ≠ 41 → c ≠ 46 → τ c = σ c) ∧ (∀ k, k ≠ 8 → k ≠ 9 → τ 41 k = σ 41 k) ∧ τ 41 9 = nI (se_b (se_D aim (nr_S g s)) (2 ^ g)) ∧ τ 41 8 = aim - nr_S g s (se_b (se_D aim (nr_S g s)) (2 ^ g)) := by
  obtain ⟨f, e1, e2⟩ := cx_ch (N := N) (s := s) hg h6 h45 g 0 N (σ 46) (by omega) (by omega) (fun k hk => absurd hk (Nat.not_lt_zero k))
  rw [hb_set_self] at e1
  have e1' : fx_Parting_setChanges_b4 N N 0 0 σ = some (am_set σ 46 f) := e1
  have l14 : 2 ^ g ≤ 2 ^ 14 := Nat.pow_le_pow_right (by decide) hg
  have p0 : 0 < 2 ^ g := Nat.two_pow_pos g
  have es0 : nr_S g s 0 = sq_s s g := by
    unfold nr_S
    have : sq_s (se_f (fun b => s (g - 1 - b)) 0) g = sq_s (fun b => s (g - 1 - b)) g := sq_cong (fun k hk => by unfold se_f; rw [Nat.zero_testBit, if_neg (by decide)])
    rw [this]
    exact sq_rev s g
  unfold fx_Parting_findNearest fx_Parting_setChanges
  rw [e1', hb_bind, hb_set_ne (by decide), h6, h7, eb_sh (by omega), ← es0]
  obtain ⟨τ, t1, t2⟩ := cx_near (N := N) (σ := am_set σ 46 f) hg hs ha (by intro k hk; rw [hb_set_eq]; exact e2 k hk) (2 ^ g - 1) 1 N (am_up (am_up (am_set σ 46 f) 41 9 0) 41 8 (aim - nr_S g s 0)) (by omega) (by omega) (by omega) (by
    refine ⟨fun c hc => by rw [hb_up_ne hc, hb_up_ne hc], fun k p1 p2 => by rw [hb_up_eq, hb_un p1, hb_up_eq, hb_un p2], ?_, ?_⟩
    · rw [hb_up_eq, hb_un (by decide), hb_up_eq, hb_us]; rfl
    · rw [hb_up_eq, hb_us]; rfl)
  refine ⟨τ, t1, ?_, ?_, t2.2.2.1, t2.2.2.2⟩
  · intro c p1 p2
    rw [t2.1 c p1, hb_set_ne p2]
  · intro k p1 p2
    rw [t2.2.1 k p1 p2, hb_set_ne (by decide)]
/-! the reference -/
theorem cm_all {N g : Nat} {s : Nat → Int32} {σ : am_S} (hg : g ≤ 24) (h6 : σ 85 64 = nI g) (h128 : ∀ x, x < g → σ 128 x = s x) : ∀ r x q, x + r = g → r < q → fm_allWorth_b4 N q (sq_s s x) (nI x) σ = some (sq_s s g) := by
  intro r
  induction r with
  | zero =>
    intro x q h1 h2
    obtain ⟨q, rfl⟩ : ∃ m, q = m + 1 := ⟨q - 1, by omega⟩
    have e : x = g := by omega
    subst e
    rw [fm_allWorth_b4, h6, if_pos (nI_le (Nat.le_refl _) (by omega))]
  | succ r ih =>
    intro x q h1 h2
    obtain ⟨q, rfl⟩ : ∃ m, q = m + 1 := ⟨q - 1, by omega⟩
    rw [fm_allWorth_b4, h6, if_neg (nI_ge (by omega) (by omega)), hb_g (by omega) (by decide), nI_clamp (by omega), h128 x (by omega), nI_1]
    exact ih (x + 1) q (by omega) (by omega)
theorem cm_sum {N g w : Nat} {s : Nat → Int32} {σ : am_S} (hg : g ≤ 14) (hw : w < 2 ^ 14) (h6 : σ 85 64 = nI g) (h128 : ∀ x, x < g → σ 128 x = s x) : ∀ r x q, x + r = g → r < q → fm_sumOf_b4 N q (nI w) (sq_s (fun x => se_f (fun b => s (g - 1 - b)) w (g - 1 - x)) x) (nI x) σ = some (nr_S g s w) := by
  intro r
  induction r with
  | zero =>
    intro x q h1 h2
    obtain ⟨q, rfl⟩ : ∃ m, q = m + 1 := ⟨q - 1, by omega⟩
    have e : x = g := by omega
    subst e
    rw [fm_sumOf_b4, h6, if_pos (nI_le (Nat.le_refl _) (by omega)), sq_rev]
    rfl
  | succ r ih =>
    intro x q h1 h2
    obtain ⟨q, rfl⟩ : ∃ m, q = m + 1 := ⟨q - 1, by omega⟩
    have := ih (x + 1) q (by omega) (by omega)
    rw [sq_s] at this
    rw [fm_sumOf_b4, h6, if_neg (nI_ge (by omega) (by omega)), hb_L1, pk_sub (by omega), pk_sub (by omega), ← hb_L1, eb_bit (by omega) (by omega)]
    unfold fm_sumOf_b38
    rw [nI_1]
    unfold se_f at this
    simp only [show g - 1 - (g - 1 - x) = x by omega] at this
    cases ht : w.testBit (g - 1 - x)
    · rw [ht, if_neg (by decide)] at this
      rw [if_pos (show nI (if false = true then 1 else 0) = 0 from rfl), hb_g (by omega) (by decide), nI_clamp (by omega), h128 x (by omega)]
      unfold se_f
      exact this
    · rw [ht, if_pos rfl] at this
      rw [if_pos rfl, if_neg (by decide)]
      unfold se_f
      exact this
theorem sm_sum {N g w : Nat} {s : Nat → Int32} {σ : am_S} (hN : 200 ≤ N) (hg : g ≤ 14) (hw : w < 2 ^ 14) (h6 : σ 85 64 = nI g) (h128 : ∀ x, x < g → σ 128 x = s x) : fm_sumOf N (nI w) σ = some (nr_S g s w) := cm_sum (N := N) hg hw h6 h128 g 0 N (by omega) (by omega)
theorem cm_near {N g : Nat} {s : Nat → Int32} {aim : Int32} {σ : am_S} (hN : 200 ≤ N) (hg : g ≤ 14) (hs : ∀ x, -240000 ≤ (s x).toInt ∧ (s x).toInt ≤ 240000) (ha : -22000000 ≤ aim.toInt ∧ aim.toInt ≤ 22000000) (h6 : σ 85 64 = nI g) (h128 : ∀ x, x < g → σ 128 x = s x) : ∀ r w q, w + r = 2 ^ g → 1 ≤ w → r < q → fm_parting_b14 N q aim (nI (se_b (se_D aim (nr_S g s)) w)) (nI (se_D aim (nr_S g s) (se_b (se_D aim (nr_S g s)) w))) (nI w) σ = some (nI (se_b (se_D aim (nr_S g s)) (2 ^ g))) := by
  have l14 : 2 ^ g ≤ 2 ^ 14 := Nat.pow_le_pow_right (by decide) hg
  have bS := nr_bd (s := s) hg hs
  have bD : ∀ w, se_D aim (nr_S g s) w < 2 ^ 30 := by
    intro w
    have := bS w
    unfold se_D
    omega
  intro r
  induction r with
  | zero =>
    intro w q h1 h2 h3
    obtain ⟨q, rfl⟩ : ∃ m, q = m + 1 := ⟨q - 1, by omega⟩
    have e : w = 2 ^ g := by omega
    rw [fm_parting_b14, h6, eb_sh (by omega), if_pos (nI_le (by omega) (by omega)), e]
  | succ r ih =>
    intro w q h1 h2 h3
    obtain ⟨q, rfl⟩ : ∃ m, q = m + 1 := ⟨q - 1, by omega⟩
    have dW := se_sub ha (bS w)
    have bw := bS w
    have nx := ih (w + 1) q (by omega) (by omega) (by omega)
    have eb : se_b (se_D aim (nr_S g s)) (w + 1) = if se_D aim (nr_S g s) w < se_D aim (nr_S g s) (se_b (se_D aim (nr_S g s)) w) then w else se_b (se_D aim (nr_S g s)) w := by
      rw [se_b, if_neg (by omega)]
    rw [fm_parting_b14, h6, eb_sh (by omega), if_neg (nI_ge (by omega) (by omega)), sm_sum hN hg (by omega) h6 h128, hb_bind]
    unfold fm_parting_b48 fm_parting_b62
    rw [nI_1]
    have eo : (if 0 ≤ nr_S g s w - aim then nr_S g s w - aim else -(nr_S g s w - aim)) = nI (se_D aim (nr_S g s) w) := by
      rw [fa_eq, nI_toInt (by have := bD w; omega)]
      unfold se_D
      by_cases c : 0 ≤ nr_S g s w - aim
      · rw [if_pos c, dW.2]
        have : (0 : Int) ≤ (nr_S g s w - aim).toInt := (fa_le _ _).1 c
        rw [dW.2] at this
        omega
      · rw [if_neg c, fb_negI (by rw [dW.2]; omega), dW.2]
        have : ¬ (0 : Int) ≤ (nr_S g s w - aim).toInt := fun q => c ((fa_le _ _).2 q)
        rw [dW.2] at this
        omega
    have b1 := bD w
    have b2 := bD (se_b (se_D aim (nr_S g s)) w)
    have fin : (if nI (se_D aim (nr_S g s) (se_b (se_D aim (nr_S g s)) w)) ≤ nI (se_D aim (nr_S g s) w) then fm_parting_b14 N q aim (nI (se_b (se_D aim (nr_S g s)) w)) (nI (se_D aim (nr_S g s) (se_b (se_D aim (nr_S g s)) w))) (nI (w + 1)) σ else fm_parting_b14 N q aim (nI w) (nI (se_D aim (nr_S g s) w)) (nI (w + 1)) σ) = some (nI (se_b (se_D aim (nr_S g s)) (2 ^ g))) := by
      by_cases lt : se_D aim (nr_S g s) w < se_D aim (nr_S g s) (se_b (se_D aim (nr_S g s)) w)
      · rw [if_neg (nI_ge lt (by omega))]
        rw [eb, if_pos lt] at nx
        exact nx
      · rw [if_pos (nI_le (by omega) (by omega))]
        rw [eb, if_neg lt] at nx
        exact nx
    by_cases c : 0 ≤ nr_S g s w - aim
    · rw [if_pos c] at eo
      rw [if_pos c, eo]
      exact fin
    · rw [if_neg c] at eo
      rw [if_neg c, eo]
      exact fin
theorem sm_near {N g : Nat} {s : Nat → Int32} {σ : am_S} (hN : 20000 ≤ N) (hg : g ≤ 14) (hs : ∀ x, -240000 ≤ (s x).toInt ∧ (s x).toInt ≤ 240000) (ha : -22000000 ≤ (σ 85 57 * sq_s s g / 100).toInt ∧ (σ 85 57 * sq_s s g / 100).toInt ≤ 22000000) (h6 : σ 85 64 = nI g) (h128 : ∀ x, x < g → σ 128 x = s x) : fm_wanted N σ = some (σ 85 57 * sq_s s g / 100) ∧ fm_parting N σ = some (nI (se_b (se_D (σ 85 57 * sq_s s g / 100) (nr_S g s)) (2 ^ g))) := by
  have hw : fm_wanted N σ = some (σ 85 57 * sq_s s g / 100) := by
    unfold fm_wanted fm_allWorth
    have := cm_all (N := N) (s := s) (by omega) h6 h128 g 0 N (by omega) (by omega)
    have this' : fm_allWorth_b4 N N 0 0 σ = some (sq_s s g) := this
    rw [this', hb_bind]
  refine ⟨hw, ?_⟩
  unfold fm_parting
  rw [hw, hb_bind]
  generalize σ 85 57 * sq_s s g / 100 = aim at *
  have l14 : 2 ^ g ≤ 2 ^ 14 := Nat.pow_le_pow_right (by decide) hg
  have p0 : 0 < 2 ^ g := Nat.two_pow_pos g
  have bS := nr_bd (s := s) hg hs
  have b0 := bS 0
  have dW := se_sub ha b0
  obtain ⟨M, rfl⟩ : ∃ M, N = M + 1 := ⟨N - 1, by omega⟩
  have key := cm_near (N := M + 1) (by omega) hg hs ha h6 h128 (2 ^ g - 1) 1 M (by omega) (by omega) (by omega)
  have s0 := sm_sum (N := M + 1) (w := 0) (s := s) (by omega) hg (by omega) h6 h128
  have s0' : fm_sumOf (M + 1) 0 σ = some (nr_S g s 0) := s0
  have i0 : (0 : Int32) = nI 0 := rfl
  rw [fm_parting_b14, h6, eb_sh (by omega), if_neg (by rw [i0]; exact nI_ge (by omega) (by omega)), s0', hb_bind]
  unfold fm_parting_b48 fm_parting_b62
  have eo : (if 0 ≤ nr_S g s 0 - aim then nr_S g s 0 - aim else -(nr_S g s 0 - aim)) = nI (se_D aim (nr_S g s) 0) := by
    have bD : se_D aim (nr_S g s) 0 < 2 ^ 30 := by unfold se_D; omega
    rw [fa_eq, nI_toInt (by omega)]
    unfold se_D
    by_cases c : 0 ≤ nr_S g s 0 - aim
    · rw [if_pos c, dW.2]
      have : (0 : Int) ≤ (nr_S g s 0 - aim).toInt := (fa_le _ _).1 c
      rw [dW.2] at this
      omega
    · rw [if_neg c, fb_negI (by rw [dW.2]; omega), dW.2]
      have : ¬ (0 : Int) ≤ (nr_S g s 0 - aim).toInt := fun q => c ((fa_le _ _).2 q)
      rw [dW.2] at this
      omega
  have e1 : (0 : Int32) + 1 = nI 1 := rfl
  have em : ¬ (2147483647 : Int32) ≤ nI (se_D aim (nr_S g s) 0) := by
    have bD : se_D aim (nr_S g s) 0 < 2 ^ 30 := by unfold se_D; omega
    rw [fa_le, nI_toInt (by omega)]
    show ¬ (2147483647 : Int) ≤ _
    omega
  have fin : (if (2147483647 : Int32) ≤ nI (se_D aim (nr_S g s) 0) then fm_parting_b14 (M + 1) M aim 0 2147483647 (0 + 1) σ else fm_parting_b14 (M + 1) M aim 0 (nI (se_D aim (nr_S g s) 0)) (0 + 1) σ) = some (nI (se_b (se_D aim (nr_S g s)) (2 ^ g))) := by
    rw [if_neg em, e1]
    exact key
  by_cases c : 0 ≤ nr_S g s 0 - aim
  · rw [if_pos c] at eo
    rw [if_pos c, eo]
    exact fin
  · rw [if_neg c] at eo
    rw [if_neg c, eo]
    exact fin
