theorem fl_43 {N : Nat} {σ : am_S} {v : Int32} : ∀ r k n f, k + r = 24 → r < n → (∀ m, m < k → f m = v) → ∃ g, fx_Arr_fill_b5 N n v (nI k) 24 (am_set σ 43 f) = some (am_set σ 43 g) ∧ ∀ m, m < 24 → g m = v := by
  intro r
  induction r with
  | zero =>
    intro k n f h1 h2 h3
    obtain ⟨n, rfl⟩ : ∃ m, n = m + 1 := ⟨n - 1, by omega⟩
    have e : k = 24 := by omega
    subst e
    refine ⟨f, ?_, h3⟩
    rw [fx_Arr_fill_b5, hb_L24, if_pos (nI_le (Nat.le_refl _) (by decide))]
  | succ r ih =>
    intro k n f h1 h2 h3
    obtain ⟨n, rfl⟩ : ∃ m, n = m + 1 := ⟨n - 1, by omega⟩
    have hst : ∀ m, m < k + 1 → upd f k v m = v := by
      intro m hm
      by_cases e : m = k
      · subst e; rw [hb_us]
      · rw [hb_un e]; exact h3 m (by omega)
    obtain ⟨g, a, b⟩ := ih (k + 1) n _ (by omega) (by omega) hst
    refine ⟨g, ?_, b⟩
    rw [← a, fx_Arr_fill_b5, if_neg (by rw [hb_L24]; exact nI_ge (by omega) (by decide)), hb_g (by omega) (by decide), nI_clamp (by omega), hb_upset, nI_1]

theorem fl_45 {N : Nat} {σ : am_S} {v : Int32} : ∀ r k n f, k + r = 24 → r < n → (∀ m, m < k → f m = v) → ∃ g, fx_Arr_fill_45_b5 N n v (nI k) 24 (am_set σ 45 f) = some (am_set σ 45 g) ∧ ∀ m, m < 24 → g m = v := by
  intro r
  induction r with
  | zero =>
    intro k n f h1 h2 h3
    obtain ⟨n, rfl⟩ : ∃ m, n = m + 1 := ⟨n - 1, by omega⟩
    have e : k = 24 := by omega
    subst e
    refine ⟨f, ?_, h3⟩
    rw [fx_Arr_fill_45_b5, hb_L24, if_pos (nI_le (Nat.le_refl _) (by decide))]
  | succ r ih =>
    intro k n f h1 h2 h3
    obtain ⟨n, rfl⟩ : ∃ m, n = m + 1 := ⟨n - 1, by omega⟩
    have hst : ∀ m, m < k + 1 → upd f k v m = v := by
      intro m hm
      by_cases e : m = k
      · subst e; rw [hb_us]
      · rw [hb_un e]; exact h3 m (by omega)
    obtain ⟨g, a, b⟩ := ih (k + 1) n _ (by omega) (by omega) hst
    refine ⟨g, ?_, b⟩
    rw [← a, fx_Arr_fill_45_b5, if_neg (by rw [hb_L24]; exact nI_ge (by omega) (by decide)), hb_g (by omega) (by decide), nI_clamp (by omega), hb_upset, nI_1]

theorem gx_loop {N n : Nat} {kd : Nat → Nat} {dl : Bool} {x2 : Int32} {rt : Nat → Nat} {σ : am_S} (hN : 200 ≤ N) (hn : n ≤ 24) (h6 : σ 34 6 = nI n) (hk : ∀ o, o < n → σ 35 o = nI (kd o) ∧ kd o ≤ 6) (hd : (x2 = 0 ∧ dl = false) ∨ (x2 = 1 ∧ dl = true)) (hr : ∀ o, o < n → σ 42 o = nI (rt o) ∧ rt o < 24) : ∀ r i q τ, i + r = n → r < q → gx_at (gp_cn kd dl) rt (gp_cw kd (σ 37)) i τ σ → ∃ τ', fx_Parting_findGroups_b28 N q x2 (nI i) τ = some τ' ∧ gx_at (gp_cn kd dl) rt (gp_cw kd (σ 37)) n τ' σ := by
  intro r
  induction r with
  | zero =>
    intro i q τ h1 h2 h3
    obtain ⟨q, rfl⟩ : ∃ m, q = m + 1 := ⟨q - 1, by omega⟩
    have e : i = n := by omega
    subst e
    refine ⟨τ, ?_, h3⟩
    rw [fx_Parting_findGroups_b28, h3.1 34 (by decide) (by decide) (by decide) (by decide), h6, if_pos (nI_le (Nat.le_refl _) (by omega))]
  | succ r ih =>
    intro i q τ h1 h2 h3
    obtain ⟨q, rfl⟩ : ∃ m, q = m + 1 := ⟨q - 1, by omega⟩
    obtain ⟨τ1, e1, e2⟩ := gx_step (q := q) hN hn h6 hk hd hr (by omega) h3
    rw [e1]
    exact ih (i + 1) q τ1 (by omega) (by omega) e2
theorem sx_groups {N n : Nat} {kd : Nat → Nat} {dl : Bool} {x2 : Int32} {rt : Nat → Nat} {σ : am_S} (hN : 200 ≤ N) (hn : n ≤ 24) (h6 : σ 34 6 = nI n) (hk : ∀ o, o < n → σ 35 o = nI (kd o) ∧ kd o ≤ 6) (hd : (x2 = 0 ∧ dl = false) ∨ (x2 = 1 ∧ dl = true)) (hr : ∀ o, o < n → σ 42 o = nI (rt o) ∧ rt o < 24) : ∃ τ', fx_Parting_findGroups N x2 σ = some τ' ∧ gx_at (gp_cn kd dl) rt (gp_cw kd (σ 37)) n τ' σ := by
  obtain ⟨g1, a1, b1⟩ := fl_43 (N := N) (σ := am_up (am_up σ 41 6 0) 41 7 0) (v := -1) 24 0 N ((am_up (am_up σ 41 6 0) 41 7 0) 43) (by omega) (by omega) (fun m hm => absurd hm (Nat.not_lt_zero m))
  rw [hb_set_self] at a1
  obtain ⟨g2, a2, b2⟩ := fl_45 (N := N) (σ := am_set (am_up (am_up σ 41 6 0) 41 7 0) 43 g1) (v := 0) 24 0 N ((am_set (am_up (am_up σ 41 6 0) 41 7 0) 43 g1) 45) (by omega) (by omega) (fun m hm => absurd hm (Nat.not_lt_zero m))
  rw [hb_set_self] at a2
  unfold fx_Parting_findGroups fx_Arr_fill fx_Arr_fill_45
  have a1' : fx_Arr_fill_b5 N N (-1) 0 24 (am_up (am_up σ 41 6 0) 41 7 0) = some (am_set (am_up (am_up σ 41 6 0) 41 7 0) 43 g1) := a1
  have a2' : fx_Arr_fill_45_b5 N N 0 0 24 (am_set (am_up (am_up σ 41 6 0) 41 7 0) 43 g1) = some (am_set (am_set (am_up (am_up σ 41 6 0) 41 7 0) 43 g1) 45 g2) := a2
  rw [a1', hb_bind, a2', hb_bind]
  refine gx_loop hN hn h6 hk hd hr n 0 N _ (by omega) (by omega) ?_
  refine ⟨?_, ?_, ?_, ?_, ?_, ?_, ?_⟩
  · intro c p1 p2 p3 p4
    rw [hb_set_ne p4, hb_set_ne p2, hb_up_ne p1, hb_up_ne p1]
  · intro k p1 p2
    rw [hb_set_ne (by decide), hb_set_ne (by decide), hb_up_eq, hb_un p2, hb_up_eq, hb_un p1]
  · rw [hb_set_ne (by decide), hb_set_ne (by decide), hb_up_eq, hb_un (by decide), hb_up_eq, hb_us]; rfl
  · rw [hb_set_ne (by decide), hb_set_ne (by decide), hb_up_eq, hb_us]; rfl
  · intro ρ hρ
    rw [hb_set_ne (by decide), hb_set_eq, b1 ρ hρ]; rfl
  · intro o ho; exact absurd ho (Nat.not_lt_zero o)
  · intro x hx
    rw [hb_set_eq, b2 x hx]; rfl
/-! the reference -/
def gm_at (cn : Nat → Bool) (rt : Nat → Nat) (cw : Nat → Int32) (i : Nat) (τ σ : am_S) : Prop :=
  (∀ c, c ≠ 85 → c ≠ 127 → c ≠ 128 → τ c = σ c) ∧ (∀ k, k ≠ 64 → τ 85 k = σ 85 k) ∧ τ 85 64 = nI (gp_S cn rt cw i).1 ∧
  (∀ o, o < i → τ 127 o = gp_gv cn (gp_S cn rt cw i).2.1 o) ∧ (∀ x, x < (gp_S cn rt cw i).1 → τ 128 x = (gp_S cn rt cw i).2.2 x)
theorem gm_counts {i : Nat} {kd : Nat → Nat} {dl : Bool} {τ : am_S} (hi : i < 24) (hk : τ 105 i = nI (kd i)) (hk6 : kd i ≤ 6) (hd : (τ 85 58 = 0 ∧ dl = false) ∨ (τ 85 58 = 1 ∧ dl = true)) : fm_counts (nI i) τ = some (if gp_cn kd dl i = true then 1 else 0) := by
  unfold fm_counts fm_counts_b30 fm_isMoved gp_cn
  rw [hb_g hi (by decide), nI_clamp (by omega), hk]
  by_cases m3 : 3 ≤ kd i
  · rw [if_neg (show ¬ nI (kd i) < 3 by rw [hb_L3]; exact nI_nlt m3 (by omega)), if_neg (by decide), hb_g hi (by decide)]
    by_cases e5 : kd i = 5
    · rw [if_pos (show nI (kd i) = 5 by rw [e5]; rfl)]
      rcases hd with ⟨d1, d2⟩ | ⟨d1, d2⟩
      · rw [d1, if_neg (by decide), if_pos (decide_eq_true ⟨m3, fun q => by rw [d2] at q; exact absurd q.2 (by decide)⟩)]
      · rw [d1, if_pos rfl, if_neg (by rw [decide_eq_true_eq]; exact fun q => q.2 ⟨e5, d2⟩)]
    · rw [if_neg (show ¬ nI (kd i) = 5 by rw [hb_L5, nI_eq (by omega) (by decide)]; exact e5), if_pos (decide_eq_true ⟨m3, fun q => e5 q.1⟩)]
  · rw [if_pos (show nI (kd i) < 3 by rw [hb_L3]; exact nI_lt (by omega) (by decide)), if_pos rfl, if_neg (by rw [decide_eq_true_eq]; exact fun q => m3 q.1)]
theorem gm_b167 {N n i q : Nat} {cn : Nat → Bool} {rt : Nat → Nat} {cw : Nat → Int32} {kd : Nat → Nat} {σ τ : am_S} (hn : n ≤ 24) (hi : i < n) (hr : ∀ o, o < n → σ 126 o = nI (rt o) ∧ rt o < 24) (h : gm_at cn rt cw i τ σ) : ∀ r o p ρ, o + r = i → r < p → (∀ c, c ≠ 127 → ρ c = τ c) → (∀ u, u ≠ i → ρ 127 u = τ 127 u) → ρ 127 i = gp_v (gp_lk cn rt (gp_S cn rt cw i).2.1 (rt i) o) → ∃ ρ', fm_tellGroups_b167 N (fun x2 σ => fm_tellGroups_b142 N q x2 σ) p (nI i) (nI o) ρ = fm_tellGroups_b167 N (fun x2 σ => fm_tellGroups_b142 N q x2 σ) (p - r) (nI i) (nI i) ρ' ∧ (∀ c, c ≠ 127 → ρ' c = τ c) ∧ (∀ u, u ≠ i → ρ' 127 u = τ 127 u) ∧ ρ' 127 i = gp_v (gp_lk cn rt (gp_S cn rt cw i).2.1 (rt i) i) := by
  obtain ⟨i1, i2, i3⟩ := gp_inv (cn := cn) (rt := rt) (cw := cw) i
  obtain ⟨a1, a2, a3, a4, a5⟩ := h
  intro r
  induction r with
  | zero =>
    intro o p ρ h1 h2 h3 h4 h5
    have e : o = i := by omega
    subst e
    exact ⟨ρ, rfl, h3, h4, h5⟩
  | succ r ih =>
    intro o p ρ h1 h2 h3 h4 h5
    obtain ⟨p, rfl⟩ : ∃ m, p = m + 1 := ⟨p - 1, by omega⟩
    have ho : o < i := by omega
    have h126 : ρ 126 = σ 126 := by rw [h3 126 (by decide), a1 126 (by decide) (by decide) (by decide)]
    have hgo : ρ 127 o = gp_gv cn (gp_S cn rt cw i).2.1 o := by rw [h4 o (by omega), a4 o ho]
    rw [fm_tellGroups_b167, if_neg (nI_ge ho (by omega)), hb_g (by omega) (by decide), nI_clamp (show o < 2 ^ 31 by omega), hgo]
    unfold fm_tellGroups_b210 fm_tellGroups_b216
    simp only [hb_g (show i < 24 by omega) (by decide), hb_g (show o < 24 by omega) (by decide), nI_clamp (show i < 2 ^ 31 by omega), nI_1, h126, (hr o (by omega)).1, (hr i hi).1]
    rw [show p + 1 - (r + 1) = p - r by omega]
    have nxt : ∀ v, v = gp_v (gp_lk cn rt (gp_S cn rt cw i).2.1 (rt i) (o + 1)) → ∃ ρ', fm_tellGroups_b167 N (fun x2 σ => fm_tellGroups_b142 N q x2 σ) p (nI i) (nI (o + 1)) (am_up ρ 127 i v) = fm_tellGroups_b167 N (fun x2 σ => fm_tellGroups_b142 N q x2 σ) (p - r) (nI i) (nI i) ρ' ∧ (∀ c, c ≠ 127 → ρ' c = τ c) ∧ (∀ u, u ≠ i → ρ' 127 u = τ 127 u) ∧ ρ' 127 i = gp_v (gp_lk cn rt (gp_S cn rt cw i).2.1 (rt i) i) := by
      intro v hv
      refine ih (o + 1) p _ (by omega) (by omega) (fun c hc => by rw [hb_up_ne hc]; exact h3 c hc) (fun u hu => by rw [hb_up_eq, hb_un hu]; exact h4 u hu) ?_
      rw [hb_up_eq, hb_us]
      exact hv
    by_cases c : cn o = true
    · have eg : gp_gv cn (gp_S cn rt cw i).2.1 o = nI ((gp_S cn rt cw i).2.1 o) := by unfold gp_gv; rw [if_pos c]
      have lt := i2 o ho c
      rw [eg, if_neg (nI_pos (by omega))]
      by_cases e : rt o = rt i
      · rw [e, if_pos rfl]
        refine nxt _ ?_
        rw [gp_lk, if_pos ⟨c, e⟩]; rfl
      · have hro := (hr o (by omega)).2
        have hri := (hr i hi).2
        rw [if_neg (by rw [nI_eq (by omega) (by omega)]; exact e)]
        refine nxt _ ?_
        rw [h5, gp_lk, if_neg (fun q => e q.2)]
    · have eg : gp_gv cn (gp_S cn rt cw i).2.1 o = -1 := by unfold gp_gv; rw [if_neg c]
      rw [eg, if_pos (by decide)]
      refine nxt _ ?_
      rw [h5, gp_lk, if_neg (fun q => c q.1)]
theorem gm_step {N n i q : Nat} {kd : Nat → Nat} {dl : Bool} {rt : Nat → Nat} {σ τ : am_S} (hN : 200 ≤ N) (hn : n ≤ 24) (h6 : σ 85 26 = nI n) (hk : ∀ o, o < n → σ 105 o = nI (kd o) ∧ kd o ≤ 6) (hd : (σ 85 58 = 0 ∧ dl = false) ∨ (σ 85 58 = 1 ∧ dl = true)) (hr : ∀ o, o < n → σ 126 o = nI (rt o) ∧ rt o < 24) (hi : i < n) (h : gm_at (gp_cn kd dl) rt (gp_cw kd (σ 106)) i τ σ) : ∃ τ', fm_tellGroups_b142 N (q + 1) (nI i) τ = fm_tellGroups_b142 N q (nI (i + 1)) τ' ∧ gm_at (gp_cn kd dl) rt (gp_cw kd (σ 106)) (i + 1) τ' σ := by
  obtain ⟨i1, i2, i3⟩ := gp_inv (cn := gp_cn kd dl) (rt := rt) (cw := gp_cw kd (σ 106)) i
  obtain ⟨a1, a2, a3, a4, a5⟩ := h
  obtain ⟨hki, hk6⟩ := hk i hi
  have t105 : τ 105 = σ 105 := a1 105 (by decide) (by decide) (by decide)
  have t106 : τ 106 = σ 106 := a1 106 (by decide) (by decide) (by decide)
  rw [fm_tellGroups_b142, a2 26 (by decide), h6, if_neg (nI_ge (by omega) (by omega)), hb_g (by omega) (by decide), nI_clamp (by omega)]
  rw [gm_counts (kd := kd) (dl := dl) (τ := am_up τ 127 i (-1)) (by omega) (by rw [hb_up_ne (by decide), t105]; exact hki) hk6 (by rw [hb_up_ne (by decide), a2 58 (by decide)]; exact hd), hb_bind]
  by_cases c : gp_cn kd dl i = true
  · rw [if_pos c, if_neg (by decide)]
    have hat : gm_at (gp_cn kd dl) rt (gp_cw kd (σ 106)) i (am_up τ 127 i (-1)) σ := by
      refine ⟨fun c p1 p2 p3 => by rw [hb_up_ne p2]; exact a1 c p1 p2 p3, fun k p => by rw [hb_up_ne (by decide)]; exact a2 k p, by rw [hb_up_ne (by decide)]; exact a3, fun o ho => by rw [hb_up_eq, hb_un (by omega)]; exact a4 o ho, fun x hx => by rw [hb_up_ne (by decide)]; exact a5 x hx⟩
    obtain ⟨ρ, e1, e2, e3, e4⟩ := gm_b167 (N := N) (q := q) (kd := kd) hn hi hr hat i 0 N (am_up τ 127 i (-1)) (by omega) (by omega) (fun c hc => rfl) (fun u hu => rfl) (by rw [hb_up_eq, hb_us]; rfl)
    have e1' : fm_tellGroups_b167 N (fun x2 σ => fm_tellGroups_b142 N q x2 σ) N (nI i) 0 (am_up τ 127 i (-1)) = fm_tellGroups_b167 N (fun x2 σ => fm_tellGroups_b142 N q x2 σ) (N - i) (nI i) (nI i) ρ := e1
    rw [e1']
    obtain ⟨P, hP⟩ : ∃ P, N - i = P + 1 := ⟨N - i - 1, by omega⟩
    rw [hP, fm_tellGroups_b167, if_pos (nI_le (Nat.le_refl _) (by omega)), hb_g (by omega) (by decide), nI_clamp (by omega), e4]
    have r105 : ρ 105 = σ 105 := by rw [e2 105 (by decide), hb_up_ne (by decide), t105]
    have r106 : ρ 106 = σ 106 := by rw [e2 106 (by decide), hb_up_ne (by decide), t106]
    have r128 : ρ 128 = τ 128 := by rw [e2 128 (by decide), hb_up_ne (by decide)]
    have r85 : ρ 85 = τ 85 := by rw [e2 85 (by decide), hb_up_ne (by decide)]
    have fin : ∀ (x : Nat) (π : am_S), x < 24 → π 105 = σ 105 → π 106 = σ 106 → π 127 i = nI x → fm_tellGroups_b262 N (fun x2 σ => fm_tellGroups_b142 N q x2 σ) (nI i) π = fm_tellGroups_b142 N q (nI (i + 1)) (am_up π 128 x (π 128 x + gp_cw kd (σ 106) i)) := by
      intro x π hx p1 p2 p3
      unfold fm_tellGroups_b262 fm_tellGroups_b300 fm_tellGroups_b302 gp_cw
      simp only [hb_g (show i < 24 by omega) (by decide), nI_clamp (show i < 2 ^ 31 by omega), p3, hb_g hx (by decide), nI_clamp (show x < 2 ^ 31 by omega), p1, p2, hki, nI_1]
      by_cases e5 : kd i = 5
      · rw [if_pos (show nI (kd i) = 5 by rw [e5]; rfl), if_pos e5]
      · rw [if_neg (show ¬ nI (kd i) = 5 by rw [hb_L5, nI_eq (by omega) (by decide)]; exact e5), if_neg e5]
    cases hl : gp_lk (gp_cn kd dl) rt (gp_S (gp_cn kd dl) rt (gp_cw kd (σ 106)) i).2.1 (rt i) i with
    | none =>
      have ev : gp_v (none : Option Nat) = -1 := rfl
      have r64 : ρ 85 64 = nI (gp_S (gp_cn kd dl) rt (gp_cw kd (σ 106)) i).1 := by rw [r85]; exact a3
      rw [ev, if_neg (by decide), hb_g (by omega) (by decide), r64, hb_g (by omega) (by decide), nI_clamp (by omega), nI_1]
      rw [fin (gp_S (gp_cn kd dl) rt (gp_cw kd (σ 106)) i).1 _ (by omega) (by rw [hb_up_ne (by decide), hb_up_ne (by decide), hb_up_ne (by decide)]; exact r105) (by rw [hb_up_ne (by decide), hb_up_ne (by decide), hb_up_ne (by decide)]; exact r106) (by rw [hb_up_ne (by decide), hb_up_ne (by decide), hb_up_eq, hb_us])]
      refine ⟨_, rfl, ?_⟩
      unfold gm_at
      rw [gp_S, if_pos c, hl]
      generalize hS : gp_S (gp_cn kd dl) rt (gp_cw kd (σ 106)) i = S at *
      refine ⟨?_, ?_, ?_, ?_, ?_⟩
      · intro c' p1 p2 p3
        rw [hb_up_ne p3, hb_up_ne p1, hb_up_ne p3, hb_up_ne p2, e2 c' p2, hb_up_ne p2]
        exact a1 c' p1 p2 p3
      · intro k p
        rw [hb_up_ne (by decide), hb_up_eq, hb_un p, hb_up_ne (by decide), hb_up_ne (by decide), r85]
        exact a2 k p
      · rw [hb_up_ne (by decide), hb_up_eq, hb_us]
      · intro o ho
        rw [hb_up_ne (by decide), hb_up_ne (by decide), hb_up_ne (by decide), hb_up_eq]
        by_cases e : o = i
        · subst e
          rw [hb_us]
          unfold gp_gv
          rw [if_pos c]
          show nI S.1 = nI (if o = o then S.1 else S.2.1 o)
          rw [if_pos rfl]
        · rw [hb_un e, e3 o e, hb_up_eq, hb_un e, a4 o (by omega)]
          unfold gp_gv
          show (if _ then nI (S.2.1 o) else -1) = (if _ then nI (if o = i then S.1 else S.2.1 o) else -1)
          rw [if_neg e]
      · intro x hx
        have hx' : x < S.1 + 1 := hx
        rw [hb_up_eq]
        show upd _ _ _ x = upd S.2.2 S.1 (S.2.2 S.1 + gp_cw kd (σ 106) i) x
        by_cases e : x = S.1
        · subst e
          rw [hb_us, hb_us, hb_up_ne (by decide), hb_up_eq, hb_us, i3 S.1 (Nat.le_refl _)]
        · rw [hb_un e, hb_un e, hb_up_ne (by decide), hb_up_eq, hb_un e, hb_up_ne (by decide), r128]
          exact a5 x (by omega)
    | some x =>
      have hx := gp_lk_lt (g := (gp_S (gp_cn kd dl) rt (gp_cw kd (σ 106)) i).1) i2 hl
      have ev : gp_v (some x) = nI x := rfl
      rw [ev, if_pos (nI_pos' (by omega))]
      rw [fin x ρ (by omega) r105 r106 (by rw [e4, hl]; rfl)]
      refine ⟨_, rfl, ?_⟩
      unfold gm_at
      rw [gp_S, if_pos c, hl]
      generalize hS : gp_S (gp_cn kd dl) rt (gp_cw kd (σ 106)) i = S at *
      refine ⟨?_, ?_, ?_, ?_, ?_⟩
      · intro c' p1 p2 p3
        rw [hb_up_ne p3, e2 c' p2, hb_up_ne p2]
        exact a1 c' p1 p2 p3
      · intro k p
        rw [hb_up_ne (by decide), r85]
        exact a2 k p
      · rw [hb_up_ne (by decide), r85]; exact a3
      · intro o ho
        rw [hb_up_ne (by decide)]
        by_cases e : o = i
        · subst e
          rw [e4, hl]
          unfold gp_gv
          rw [if_pos c]
          show nI x = nI (if o = o then x else S.2.1 o)
          rw [if_pos rfl]
        · rw [e3 o e, hb_up_eq, hb_un e, a4 o (by omega)]
          unfold gp_gv
          show (if _ then nI (S.2.1 o) else -1) = (if _ then nI (if o = i then x else S.2.1 o) else -1)
          rw [if_neg e]
      · intro y hy
        have hy' : y < S.1 := hy
        rw [hb_up_eq]
        show upd _ _ _ y = upd S.2.2 x (S.2.2 x + gp_cw kd (σ 106) i) y
        by_cases e : y = x
        · subst e
          rw [hb_us, hb_us, r128, a5 y hy']
        · rw [hb_un e, hb_un e, r128]
          exact a5 y hy'
  · rw [if_neg c, if_pos rfl]
    unfold fm_tellGroups_b302
    rw [nI_1]
    refine ⟨_, rfl, ?_⟩
    unfold gm_at
    rw [gp_S, if_neg c]
    refine ⟨fun c' p1 p2 p3 => by rw [hb_up_ne p2]; exact a1 c' p1 p2 p3, fun k p => by rw [hb_up_ne (by decide)]; exact a2 k p, by rw [hb_up_ne (by decide)]; exact a3, ?_, fun x hx => by rw [hb_up_ne (by decide)]; exact a5 x hx⟩
    intro o ho
    rw [hb_up_eq]
    by_cases e : o = i
    · subst e; rw [hb_us]; unfold gp_gv; rw [if_neg c]
    · rw [hb_un e]; exact a4 o (by omega)
theorem sm_groups {N n : Nat} {kd : Nat → Nat} {dl : Bool} {rt : Nat → Nat} {σ : am_S} (hN : 200 ≤ N) (hn : n ≤ 24) (h6 : σ 85 26 = nI n) (hk : ∀ o, o < n → σ 105 o = nI (kd o) ∧ kd o ≤ 6) (hd : (σ 85 58 = 0 ∧ dl = false) ∨ (σ 85 58 = 1 ∧ dl = true)) (hr : ∀ o, o < n → σ 126 o = nI (rt o) ∧ rt o < 24) : ∀ r i q τ, i + r = n → r < q → gm_at (gp_cn kd dl) rt (gp_cw kd (σ 106)) i τ σ → ∃ τ', fm_tellGroups_b142 N q (nI i) τ = some τ' ∧ gm_at (gp_cn kd dl) rt (gp_cw kd (σ 106)) n τ' σ := by
  intro r
  induction r with
  | zero =>
    intro i q τ h1 h2 h3
    obtain ⟨q, rfl⟩ : ∃ m, q = m + 1 := ⟨q - 1, by omega⟩
    have e : i = n := by omega
    subst e
    refine ⟨τ, ?_, h3⟩
    rw [fm_tellGroups_b142, h3.2.1 26 (by decide), h6, if_pos (nI_le (Nat.le_refl _) (by omega))]
  | succ r ih =>
    intro i q τ h1 h2 h3
    obtain ⟨q, rfl⟩ : ∃ m, q = m + 1 := ⟨q - 1, by omega⟩
    obtain ⟨τ1, e1, e2⟩ := gm_step (q := q) hN hn h6 hk hd hr (by omega) h3
    rw [e1]
    exact ih (i + 1) q τ1 (by omega) (by omega) e2

