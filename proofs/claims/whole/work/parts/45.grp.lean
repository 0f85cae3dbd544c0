/-! ===== groups: as plain functions ===== -/
def kd_un (k w : Nat) : Bool := decide (w = 0 ∨ k = w ∨ (w = 1 ∧ k = 2) ∨ (w = 3 ∧ 3 ≤ k))
theorem kd_under {N k w : Nat} {σ : am_S} (hN : 200 ≤ N) (hk : k ≤ 6) (hw : w ≤ 6) : fx_Estate_isUnder N (nI k) (nI w) σ = some (if kd_un k w = true then 1 else 0) := by
  obtain ⟨M, rfl⟩ : ∃ M, N = M + 8 := ⟨N - 8, by omega⟩
  have h1 : k = 0 ∨ k = 1 ∨ k = 2 ∨ k = 3 ∨ k = 4 ∨ k = 5 ∨ k = 6 := by omega
  have h2 : w = 0 ∨ w = 1 ∨ w = 2 ∨ w = 3 ∨ w = 4 ∨ w = 5 ∨ w = 6 := by omega
  rcases h1 with h1 | h1 | h1 | h1 | h1 | h1 | h1 <;> rcases h2 with h2 | h2 | h2 | h2 | h2 | h2 | h2 <;> (subst h1; subst h2; rfl)
theorem kd_isOf {N i k w : Nat} {σ : am_S} (hN : 200 ≤ N) (hi : i < 24) (h : σ 35 i = nI k) (hk : k ≤ 6) (hw : w ≤ 6) : fx_Estate_isOf N (nI i) (nI w) σ = some (if kd_un k w = true then 1 else 0) := by
  unfold fx_Estate_isOf
  rw [hb_g (by omega) (by decide), nI_clamp (by omega), h, kd_under hN hk hw, hb_bind]
  refine hb_gt ?_
  split <;> rfl
def gp_cn (kd : Nat → Nat) (dl : Bool) (i : Nat) : Bool := decide (3 ≤ kd i ∧ ¬ (kd i = 5 ∧ dl = true))
def gp_cw (kd : Nat → Nat) (wo : Nat → Int32) (i : Nat) : Int32 := if kd i = 5 then -(wo i) else wo i
def gp_lk (cn : Nat → Bool) (rt go : Nat → Nat) (ρ : Nat) : Nat → Option Nat
  | 0 => none
  | o + 1 => if cn o = true ∧ rt o = ρ then some (go o) else gp_lk cn rt go ρ o
def gp_S (cn : Nat → Bool) (rt : Nat → Nat) (cw : Nat → Int32) : Nat → Nat × (Nat → Nat) × (Nat → Int32)
  | 0 => (0, fun _ => 0, fun _ => 0)
  | i + 1 => if cn i = true then
      (match gp_lk cn rt (gp_S cn rt cw i).2.1 (rt i) i with
        | some x => ((gp_S cn rt cw i).1, (fun v => if v = i then x else (gp_S cn rt cw i).2.1 v), upd (gp_S cn rt cw i).2.2 x ((gp_S cn rt cw i).2.2 x + cw i))
        | none => ((gp_S cn rt cw i).1 + 1, (fun v => if v = i then (gp_S cn rt cw i).1 else (gp_S cn rt cw i).2.1 v), upd (gp_S cn rt cw i).2.2 (gp_S cn rt cw i).1 ((gp_S cn rt cw i).2.2 (gp_S cn rt cw i).1 + cw i)))
    else gp_S cn rt cw i
def gp_tot (cn : Nat → Bool) (cw : Nat → Int32) : Nat → Int32
  | 0 => 0
  | i + 1 => if cn i = true then gp_tot cn cw i + cw i else gp_tot cn cw i
def gp_v (x : Option Nat) : Int32 := match x with
  | some a => nI a
  | none => -1
def gp_gv (cn : Nat → Bool) (go : Nat → Nat) (o : Nat) : Int32 := if cn o = true then nI (go o) else -1
theorem gp_lk_cong {cn : Nat → Bool} {rt go go' : Nat → Nat} {ρ : Nat} : ∀ {i : Nat}, (∀ o, o < i → go o = go' o) → gp_lk cn rt go ρ i = gp_lk cn rt go' ρ i
  | 0, _ => rfl
  | i + 1, h => by rw [gp_lk, gp_lk, h i (by omega), gp_lk_cong (fun o ho => h o (by omega))]
theorem gp_lk_lt {cn : Nat → Bool} {rt go : Nat → Nat} {ρ g x : Nat} : ∀ {i : Nat}, (∀ o, o < i → cn o = true → go o < g) → gp_lk cn rt go ρ i = some x → x < g
  | 0, _, h => by cases h
  | i + 1, hg, h => by
    rw [gp_lk] at h
    split at h
    · rename_i q
      cases h
      exact hg i (by omega) q.1
    · exact gp_lk_lt (fun o ho => hg o (by omega)) h
theorem gp_inv {cn : Nat → Bool} {rt : Nat → Nat} {cw : Nat → Int32} : ∀ i, (gp_S cn rt cw i).1 ≤ i ∧ (∀ o, o < i → cn o = true → (gp_S cn rt cw i).2.1 o < (gp_S cn rt cw i).1) ∧ (∀ x, (gp_S cn rt cw i).1 ≤ x → (gp_S cn rt cw i).2.2 x = 0)
  | 0 => ⟨Nat.le_refl 0, fun o ho => absurd ho (Nat.not_lt_zero o), fun _ _ => rfl⟩
  | i + 1 => by
    obtain ⟨h1, h2, h3⟩ := gp_inv (cn := cn) (rt := rt) (cw := cw) i
    rw [gp_S]
    generalize gp_S cn rt cw i = S at *
    by_cases c : cn i = true
    · rw [if_pos c]
      cases hl : gp_lk cn rt S.2.1 (rt i) i with
      | none =>
        refine ⟨by show S.1 + 1 ≤ i + 1; omega, ?_, ?_⟩
        · intro o ho hc
          show (if o = i then S.1 else S.2.1 o) < S.1 + 1
          by_cases e : o = i
          · rw [if_pos e]; omega
          · rw [if_neg e]; have := h2 o (by omega) hc; omega
        · intro x hx
          have hx' : S.1 + 1 ≤ x := hx
          show upd S.2.2 S.1 _ x = 0
          rw [hb_un (by omega)]
          exact h3 x (by omega)
      | some x =>
        have hx := gp_lk_lt (g := S.1) h2 hl
        refine ⟨by show S.1 ≤ i + 1; omega, ?_, ?_⟩
        · intro o ho hc
          show (if o = i then x else S.2.1 o) < S.1
          by_cases e : o = i
          · rw [if_pos e]; exact hx
          · rw [if_neg e]; exact h2 o (by omega) hc
        · intro y hy
          have hy' : S.1 ≤ y := hy
          show upd S.2.2 x _ y = 0
          rw [hb_un (by omega)]
          exact h3 y hy'
    · rw [if_neg c]
      refine ⟨by omega, ?_, h3⟩
      intro o ho hc
      by_cases e : o = i
      · subst e; exact absurd hc c
      · exact h2 o (by omega) hc
/-! the class -/
def gx_at (cn : Nat → Bool) (rt : Nat → Nat) (cw : Nat → Int32) (i : Nat) (τ σ : am_S) : Prop :=
  (∀ c, c ≠ 41 → c ≠ 43 → c ≠ 44 → c ≠ 45 → τ c = σ c) ∧ (∀ k, k ≠ 6 → k ≠ 7 → τ 41 k = σ 41 k) ∧ τ 41 6 = nI (gp_S cn rt cw i).1 ∧ τ 41 7 = gp_tot cn cw i ∧
  (∀ ρ, ρ < 24 → τ 43 ρ = gp_v (gp_lk cn rt (gp_S cn rt cw i).2.1 ρ i)) ∧ (∀ o, o < i → τ 44 o = gp_gv cn (gp_S cn rt cw i).2.1 o) ∧ (∀ x, x < 24 → τ 45 x = (gp_S cn rt cw i).2.2 x)
theorem gx_step {N n i q : Nat} {kd : Nat → Nat} {dl : Bool} {x2 : Int32} {rt : Nat → Nat} {σ τ : am_S} (hN : 200 ≤ N) (hn : n ≤ 24) (h6 : σ 34 6 = nI n) (hk : ∀ o, o < n → σ 35 o = nI (kd o) ∧ kd o ≤ 6) (hd : (x2 = 0 ∧ dl = false) ∨ (x2 = 1 ∧ dl = true)) (hr : ∀ o, o < n → σ 42 o = nI (rt o) ∧ rt o < 24) (hi : i < n) (h : gx_at (gp_cn kd dl) rt (gp_cw kd (σ 37)) i τ σ) : ∃ τ', fx_Parting_findGroups_b28 N (q + 1) x2 (nI i) τ = fx_Parting_findGroups_b28 N q x2 (nI (i + 1)) τ' ∧ gx_at (gp_cn kd dl) rt (gp_cw kd (σ 37)) (i + 1) τ' σ := by
  obtain ⟨i1, i2, i3⟩ := gp_inv (cn := gp_cn kd dl) (rt := rt) (cw := gp_cw kd (σ 37)) i
  obtain ⟨a1, a2, a3, a4, a5, a6, a7⟩ := h
  obtain ⟨hki, hk6⟩ := hk i hi
  obtain ⟨hri, hr24⟩ := hr i hi
  have t34 : τ 34 = σ 34 := a1 34 (by decide) (by decide) (by decide) (by decide)
  have t35 : τ 35 = σ 35 := a1 35 (by decide) (by decide) (by decide) (by decide)
  have t37 : τ 37 = σ 37 := a1 37 (by decide) (by decide) (by decide) (by decide)
  have t42 : τ 42 = σ 42 := a1 42 (by decide) (by decide) (by decide) (by decide)
  rw [fx_Parting_findGroups_b28, t34, h6, if_neg (nI_ge (by omega) (by omega)), hb_g (by omega) (by decide), nI_clamp (by omega)]
  have hof : fx_Estate_isOf N (nI i) 3 (am_up τ 44 i (-1)) = some (if kd_un (kd i) 3 = true then 1 else 0) := kd_isOf (w := 3) hN (by omega) (by rw [hb_up_ne (by decide), t35]; exact hki) hk6 (by decide)
  rw [hof, hb_bind]
  unfold fx_Parting_findGroups_b151
  have skip : ¬ gp_cn kd dl i = true → gx_at (gp_cn kd dl) rt (gp_cw kd (σ 37)) (i + 1) (am_up τ 44 i (-1)) σ := by
    intro c
    unfold gx_at
    rw [gp_S, if_neg c, gp_tot, if_neg c]
    refine ⟨fun c' p1 p2 p3 p4 => by rw [hb_up_ne p3]; exact a1 c' p1 p2 p3 p4, fun k p1 p2 => by rw [hb_up_ne (by decide)]; exact a2 k p1 p2, by rw [hb_up_ne (by decide)]; exact a3, by rw [hb_up_ne (by decide)]; exact a4, ?_, ?_, ?_⟩
    · intro ρ hρ
      rw [hb_up_ne (by decide), gp_lk, if_neg (fun q => c q.1)]
      exact a5 ρ hρ
    · intro o ho
      rw [hb_up_eq]
      by_cases e : o = i
      · subst e; rw [hb_us]; unfold gp_gv; rw [if_neg c]
      · rw [hb_un e]; exact a6 o (by omega)
    · intro x hx; rw [hb_up_ne (by decide)]; exact a7 x hx
  by_cases m3 : 3 ≤ kd i
  · have u3 : kd_un (kd i) 3 = true := decide_eq_true (Or.inr (Or.inr (Or.inr ⟨rfl, m3⟩)))
    rw [if_pos u3, if_neg (by decide)]
    have hlo : fx_Estate_isLeftOut (nI i) x2 (am_up τ 44 i (-1)) = some (if kd i = 5 ∧ dl = true then 1 else 0) := by
      unfold fx_Estate_isLeftOut
      rcases hd with ⟨d1, d2⟩ | ⟨d1, d2⟩
      · rw [if_pos d1, if_neg (fun q => by rw [d2] at q; exact absurd q.2 (by decide))]
      · rw [d1, if_neg (by decide), hb_g (by omega) (by decide), nI_clamp (by omega), hb_up_ne (by decide), t35, hki]
        by_cases e5 : kd i = 5
        · rw [if_pos (show nI (kd i) = 5 by rw [e5]; rfl), if_pos (And.intro e5 d2)]
        · rw [if_neg (show ¬ nI (kd i) = 5 by rw [hb_L5, nI_eq (by omega) (by decide)]; exact e5), if_neg (fun q => e5 q.1)]
    rw [hlo, hb_bind]
    by_cases lo : kd i = 5 ∧ dl = true
    · rw [if_pos lo, if_neg (by decide), nI_1]
      exact ⟨_, rfl, skip (by unfold gp_cn; rw [decide_eq_true_eq]; exact fun q => q.2 lo)⟩
    · have c : gp_cn kd dl i = true := decide_eq_true ⟨m3, lo⟩
      rw [if_neg lo, if_pos rfl, hb_g (by omega) (by decide), t42, hri, hb_g (by omega) (by decide), nI_clamp (by omega), a5 _ hr24]
      have hcw : ∀ ρ, ρ 35 = σ 35 → ρ 37 = σ 37 → fx_Estate_countedWorth (nI i) ρ = some (gp_cw kd (σ 37) i) := by
        intro ρ e1 e2
        unfold fx_Estate_countedWorth gp_cw
        rw [hb_g (by omega) (by decide), nI_clamp (by omega), e1, e2, hki, hb_g (by omega) (by decide), hb_g (by omega) (by decide)]
        by_cases e5 : kd i = 5
        · rw [if_pos (show nI (kd i) = 5 by rw [e5]; rfl), if_pos e5]
        · rw [if_neg (show ¬ nI (kd i) = 5 by rw [hb_L5, nI_eq (by omega) (by decide)]; exact e5), if_neg e5]
      -- the common end, for the group x
      have fin : ∀ (x g' : Nat) (ρ : am_S), x < 24 → (∀ c, c ≠ 41 → c ≠ 43 → c ≠ 44 → c ≠ 45 → ρ c = σ c) → ρ 43 (rt i) = nI x → fx_Parting_findGroups_b104 N (fun x2 x3 σ => fx_Parting_findGroups_b28 N q x2 x3 σ) x2 (nI i) (nI (rt i)) ρ = fx_Parting_findGroups_b28 N q x2 (nI (i + 1)) (am_up (am_up (am_up ρ 44 i (nI x)) 45 x (ρ 45 x + gp_cw kd (σ 37) i)) 41 7 (ρ 41 7 + gp_cw kd (σ 37) i)) := by
        intro x g' ρ hx hρ h43
        unfold fx_Parting_findGroups_b104 fx_Parting_findGroups_b151
        simp only [hb_g (show rt i < 24 from hr24) (by decide), nI_clamp (show rt i < 2 ^ 31 by omega), h43, hb_g hx (by decide), hb_g (show i < 24 by omega) (by decide), nI_clamp (show x < 2 ^ 31 by omega), nI_clamp (show i < 2 ^ 31 by omega)]
        rw [hcw _ (by rw [hb_up_ne (by decide)]; exact hρ 35 (by decide) (by decide) (by decide) (by decide)) (by rw [hb_up_ne (by decide)]; exact hρ 37 (by decide) (by decide) (by decide) (by decide)), hb_bind]
        rw [hcw _ (by rw [hb_up_ne (by decide), hb_up_ne (by decide)]; exact hρ 35 (by decide) (by decide) (by decide) (by decide)) (by rw [hb_up_ne (by decide), hb_up_ne (by decide)]; exact hρ 37 (by decide) (by decide) (by decide) (by decide)), hb_bind, nI_1]
      cases hl : gp_lk (gp_cn kd dl) rt (gp_S (gp_cn kd dl) rt (gp_cw kd (σ 37)) i).2.1 (rt i) i with
      | none =>
        have ev : gp_v (none : Option Nat) = -1 := rfl
        rw [ev, if_pos rfl, hb_g (by omega) (by decide), a3, nI_1]
        rw [fin (gp_S (gp_cn kd dl) rt (gp_cw kd (σ 37)) i).1 0 _ (by omega) (fun c p1 p2 p3 p4 => by rw [hb_up_ne p1, hb_up_ne p2, hb_up_ne p3]; exact a1 c p1 p2 p3 p4) (by rw [hb_up_ne (by decide), hb_up_eq, hb_us])]
        refine ⟨_, rfl, ?_⟩
        unfold gx_at
        rw [gp_S, if_pos c, hl, gp_tot, if_pos c]
        generalize hS : gp_S (gp_cn kd dl) rt (gp_cw kd (σ 37)) i = S at *
        refine ⟨?_, ?_, ?_, ?_, ?_, ?_, ?_⟩
        · intro c' p1 p2 p3 p4
          rw [hb_up_ne p1, hb_up_ne p4, hb_up_ne p3, hb_up_ne p1, hb_up_ne p2, hb_up_ne p3]
          exact a1 c' p1 p2 p3 p4
        · intro k p1 p2
          rw [hb_up_eq, hb_un p2, hb_up_ne (by decide), hb_up_ne (by decide), hb_up_eq, hb_un p1, hb_up_ne (by decide), hb_up_ne (by decide)]
          exact a2 k p1 p2
        · rw [hb_up_eq, hb_un (by decide), hb_up_ne (by decide), hb_up_ne (by decide), hb_up_eq, hb_us]
        · rw [hb_up_eq, hb_us, hb_up_eq, hb_un (by decide), hb_up_ne (by decide), hb_up_ne (by decide), a4]
        · intro ρ hρ
          rw [hb_up_ne (by decide), hb_up_ne (by decide), hb_up_ne (by decide), hb_up_ne (by decide), hb_up_eq, gp_lk]
          by_cases e : ρ = rt i
          · subst e
            rw [hb_us, if_pos ⟨c, rfl⟩]
            show nI S.1 = nI (if i = i then S.1 else S.2.1 i)
            rw [if_pos rfl]
          · rw [hb_un e, if_neg (fun q => e q.2.symm), hb_up_ne (by decide), a5 ρ hρ]
            exact congrArg gp_v (gp_lk_cong (fun o ho => (if_neg (show ¬ o = i by omega)).symm))
        · intro o ho
          rw [hb_up_ne (by decide), hb_up_ne (by decide), hb_up_eq]
          by_cases e : o = i
          · subst e
            rw [hb_us]
            unfold gp_gv
            rw [if_pos c]
            show nI S.1 = nI (if o = o then S.1 else S.2.1 o)
            rw [if_pos rfl]
          · rw [hb_un e, hb_up_ne (by decide), hb_up_ne (by decide), hb_up_eq, hb_un e, a6 o (by omega)]
            unfold gp_gv
            show (if _ then nI (S.2.1 o) else -1) = (if _ then nI (if o = i then S.1 else S.2.1 o) else -1)
            rw [if_neg e]
        · intro x hx
          rw [hb_up_ne (by decide), hb_up_eq]
          show upd _ _ _ x = upd S.2.2 S.1 (S.2.2 S.1 + gp_cw kd (σ 37) i) x
          have e45 : ∀ y, y < 24 → (am_up (am_up (am_up (am_up τ 44 i (-1)) 43 (rt i) (nI S.1)) 41 6 (nI (S.1 + 1))) 44 i (nI S.1)) 45 y = S.2.2 y := by
            intro y hy
            rw [hb_up_ne (by decide), hb_up_ne (by decide), hb_up_ne (by decide), hb_up_ne (by decide)]
            exact a7 y hy
          by_cases e : x = S.1
          · subst e
            rw [hb_us, hb_us]
            have := e45 S.1 hx
            rw [hb_up_ne (by decide)] at this
            rw [this]
          · rw [hb_un e, hb_un e]
            exact e45 x hx
      | some x =>
        have hx := gp_lk_lt (g := (gp_S (gp_cn kd dl) rt (gp_cw kd (σ 37)) i).1) i2 hl
        have ev : gp_v (some x) = nI x := rfl
        have en : ¬ nI x = -1 := by
          intro q
          rw [fa_eq, nI_toInt (by omega)] at q
          have : ((-1 : Int32)).toInt = -1 := rfl
          rw [this] at q
          omega
        rw [ev, if_neg en]
        rw [fin x 0 _ (by omega) (fun c p1 p2 p3 p4 => by rw [hb_up_ne p3]; exact a1 c p1 p2 p3 p4) (by rw [hb_up_ne (by decide), a5 _ hr24, hl]; rfl)]
        refine ⟨_, rfl, ?_⟩
        unfold gx_at
        rw [gp_S, if_pos c, hl, gp_tot, if_pos c]
        generalize hS : gp_S (gp_cn kd dl) rt (gp_cw kd (σ 37)) i = S at *
        refine ⟨?_, ?_, ?_, ?_, ?_, ?_, ?_⟩
        · intro c' p1 p2 p3 p4
          rw [hb_up_ne p1, hb_up_ne p4, hb_up_ne p3, hb_up_ne p3]
          exact a1 c' p1 p2 p3 p4
        · intro k p1 p2
          rw [hb_up_eq, hb_un p2, hb_up_ne (by decide), hb_up_ne (by decide), hb_up_ne (by decide)]
          exact a2 k p1 p2
        · rw [hb_up_eq, hb_un (by decide), hb_up_ne (by decide), hb_up_ne (by decide), hb_up_ne (by decide)]
          exact a3
        · rw [hb_up_eq, hb_us, hb_up_ne (by decide), a4]
        · intro ρ hρ
          rw [hb_up_ne (by decide), hb_up_ne (by decide), hb_up_ne (by decide), hb_up_ne (by decide), gp_lk, a5 ρ hρ]
          by_cases e : ρ = rt i
          · subst e
            rw [if_pos ⟨c, rfl⟩, hl]
            show nI x = nI (if i = i then x else S.2.1 i)
            rw [if_pos rfl]
          · rw [if_neg (fun q => e q.2.symm)]
            exact congrArg gp_v (gp_lk_cong (fun o ho => (if_neg (show ¬ o = i by omega)).symm))
        · intro o ho
          rw [hb_up_ne (by decide), hb_up_ne (by decide), hb_up_eq]
          by_cases e : o = i
          · subst e
            rw [hb_us]
            unfold gp_gv
            rw [if_pos c]
            show nI x = nI (if o = o then x else S.2.1 o)
            rw [if_pos rfl]
          · rw [hb_un e, hb_up_eq, hb_un e, a6 o (by omega)]
            unfold gp_gv
            show (if _ then nI (S.2.1 o) else -1) = (if _ then nI (if o = i then x else S.2.1 o) else -1)
            rw [if_neg e]
        · intro y hy
          rw [hb_up_ne (by decide), hb_up_eq]
          show upd _ _ _ y = upd S.2.2 x (S.2.2 x + gp_cw kd (σ 37) i) y
          by_cases e : y = x
          · subst e
            rw [hb_us, hb_us, hb_up_ne (by decide), a7 y hy]
          · rw [hb_un e, hb_un e, hb_up_ne (by decide), hb_up_ne (by decide)]
            exact a7 y hy
  · have u3 : ¬ kd_un (kd i) 3 = true := by
      unfold kd_un; rw [decide_eq_true_eq]; omega
    rw [if_neg u3, if_pos rfl, nI_1]
    exact ⟨_, rfl, skip (by unfold gp_cn; rw [decide_eq_true_eq]; exact fun q => m3 q.1)⟩
