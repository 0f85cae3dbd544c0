/-! ===== texts: read whole ===== -/
theorem sx_read {N len : Nat} {σ : am_S} (hN : 20000 ≤ N) (hl : len ≤ 50) (h : σ 22 2 = nI len) : ∃ σ', fx_Text_readRows N σ = some ((if (rs_all (σ 23) len).1 = true then -1 else nI (rs_all (σ 23) len).2.1), σ') ∧ rx_fr σ' σ ∧ ((rs_all (σ 23) len).1 = true → rx_F (rs_all (σ 23) len).2.2 σ') := by
  unfold fx_Text_readRows fx_Text_setDefaults
  rw [hb_gt (hb_in0 (by decide) (by decide)), hb_gt (show am_in 1 4 = true from rfl), hb_bind, hb_cl0, hb_cl1]
  have hb := rx_rows (N := N) (len := len) (τ := σ) (by omega) hl 51 0 0 N rs_F0 (am_up (am_up (am_up (am_up (am_up (am_up (am_up (am_up σ 24 0 104) 24 1 98) 22 3 2) 22 4 400) 22 5 50) 22 6 0) 22 7 9) 22 8 12) (by omega) (by omega) (by omega) (by omega) (by omega) h rfl ⟨fun c h1 h2 => by rw [hb_up_ne h1, hb_up_ne h1, hb_up_ne h1, hb_up_ne h1, hb_up_ne h1, hb_up_ne h1, hb_up_ne h2, hb_up_ne h2], rfl⟩ (by
    refine ⟨by decide, rfl, fun i hi => ?_, rfl, rfl, rfl, rfl, rfl⟩
    have hi' : i < 2 := hi
    have : i = 0 ∨ i = 1 := by omega
    rcases this with e | e
    · subst e; rfl
    · subst e; rfl)
  exact hb
theorem sm_rd3 {N len fr : Nat} {σ : am_S} (hN : 20000 ≤ N) (hl : len ≤ 50) (hfr : fr + len ≤ 150) : rm_R σ fr len 51 0 rs_F0 (fm_read N (nI fr) (nI len) σ) := by
  unfold fm_read
  rw [hb_gt (hb_in0 (by decide) (by decide)), hb_gt (show am_in 1 4 = true from rfl), hb_cl0, hb_cl1]
  exact rm_rows (N := N) (fr := fr) (len := len) (τ := σ) (by omega) hl hfr 51 0 N rs_F0 (am_up (am_up (am_up (am_up (am_up (am_up (am_up (am_up σ 125 0 104) 125 1 98) 85 55 2) 85 56 400) 85 57 50) 85 58 0) 85 59 9) 85 60 12) (by omega) (by omega) (by omega) ⟨fun c h1 h2 => by rw [hb_up_ne h1, hb_up_ne h1, hb_up_ne h1, hb_up_ne h1, hb_up_ne h1, hb_up_ne h1, hb_up_ne h2, hb_up_ne h2], fun k hk => by rw [hb_up_eq, hb_un (by omega), hb_up_eq, hb_un (by omega), hb_up_eq, hb_un (by omega), hb_up_eq, hb_un (by omega), hb_up_eq, hb_un (by omega), hb_up_eq, hb_un (by omega), hb_up_ne (by decide), hb_up_ne (by decide)]⟩ (by
    refine ⟨by decide, rfl, fun i hi => ?_, rfl, rfl, rfl, rfl, rfl⟩
    have hi' : i < 2 := hi
    have : i = 0 ∨ i = 1 := by omega
    rcases this with e | e
    · subst e; rfl
    · subst e; rfl)
theorem sm_rd2 {N len fr : Nat} {σ : am_S} (hN : 20000 ≤ N) (hl : len ≤ 50) (hfr : fr + len ≤ 50) : rn_R σ fr len 51 0 rs_F0 (fm_read_85_102 N (nI fr) (nI len) σ) := by
  unfold fm_read_85_102
  rw [hb_gt (hb_in0 (by decide) (by decide)), hb_gt (show am_in 1 4 = true from rfl), hb_cl0, hb_cl1]
  exact rn_rows (N := N) (fr := fr) (len := len) (τ := σ) (by omega) hl hfr 51 0 N rs_F0 (am_up (am_up (am_up (am_up (am_up (am_up (am_up (am_up σ 125 0 104) 125 1 98) 85 55 2) 85 56 400) 85 57 50) 85 58 0) 85 59 9) 85 60 12) (by omega) (by omega) (by omega) ⟨fun c h1 h2 => by rw [hb_up_ne h1, hb_up_ne h1, hb_up_ne h1, hb_up_ne h1, hb_up_ne h1, hb_up_ne h1, hb_up_ne h2, hb_up_ne h2], fun k hk => by rw [hb_up_eq, hb_un (by omega), hb_up_eq, hb_un (by omega), hb_up_eq, hb_un (by omega), hb_up_eq, hb_un (by omega), hb_up_eq, hb_un (by omega), hb_up_eq, hb_un (by omega), hb_up_ne (by decide), hb_up_ne (by decide)]⟩ (by
    refine ⟨by decide, rfl, fun i hi => ?_, rfl, rfl, rfl, rfl, rfl⟩
    have hi' : i < 2 := hi
    have : i = 0 ∨ i = 1 := by omega
    rcases this with e | e
    · subst e; rfl
    · subst e; rfl)
theorem rm_sc {τ σ : am_S} (h : rm_fr τ σ) : sc τ σ := by
  refine ⟨fun c p => ?_, fun k _ => by rw [h.1 22 (by decide) (by decide)], fun k _ => by rw [h.1 78 (by decide) (by decide)], fun k p => h.2 k ?_⟩
  · refine h.1 c (fun e => ?_) (fun e => ?_)
    · subst e; exact absurd p (by decide)
    · subst e; exact absurd p (by decide)
  · unfold sc_f at p
    rw [Bool.or_eq_true, Bool.and_eq_true] at p
    rcases p with p | ⟨p, _⟩
    · left; exact Nat.lt_of_lt_of_le (Nat.lt_of_lt_of_le (Nat.lt_succ_self k) (Nat.le_of_ble_eq_true p)) (Nat.le_refl _)
    · right; exact Nat.lt_of_lt_of_le (Nat.lt_succ_self 60) (Nat.le_of_ble_eq_true p)
/-- a text that the reference holds is read as the class holds it -/
theorem rd_law {N h : Nat} {σ : am_S} {b gr o : Nat → Int32} (hN : 20000 ≤ N) (hh : h ≤ 2) (hX : rXt (σ 104 h) b gr o (σ 103) (50 * h)) : ∃ F σ', fm_readLaw N (nI h) σ = some (-1, σ') ∧ rm_fr σ' σ ∧ rm_F F σ' ∧ rgF F o gr ∧ (∃ len, F = (rs_all b len).2.2) := by
  obtain ⟨len, a1, a2, a3, a4, a5, a6⟩ := hX
  have ec : rs_all (rm_b σ (50 * h)) len = rs_all b len := rs_all_cong (fun k hk => (a4 k hk).symm)
  obtain ⟨σ', e1, e2, e3⟩ := sm_rd3 (N := N) (σ := σ) (fr := 50 * h) hN a1 (by omega)
  have er : rs_rows (rm_b σ (50 * h)) len 51 0 rs_F0 = rs_all b len := ec
  rw [er] at e1 e3
  rw [a5, if_pos rfl] at e1
  refine ⟨(rs_all b len).2.2, σ', ?_, e2, e3 a5, a6, len, rfl⟩
  unfold fm_readLaw
  rw [hb_g (by omega) (by decide), nI_clamp (by omega), a2, hb_L50, pk_mul, e1]
  rfl
/-! what a read text holds -/
def rs_good (F : rs_F) : Prop := (∀ g, g ∈ F.1 → rs_gd g = true) ∧ (F.2.2.2.1 = 0 ∨ F.2.2.2.1 = 1)
theorem rs_gr_good {b : Nat → Int32} {len : Nat} : ∀ m a gs, (∀ g, g ∈ gs → rs_gd g = true) → ∀ g, g ∈ (rs_gr b len m a gs).2 → rs_gd g = true
  | 0, _, _, h => h
  | m + 1, a, gs, h => by
    rw [rs_gr]
    split
    · rename_i q
      refine rs_gr_good m (a + 1) _ (fun g hg => ?_)
      rcases List.mem_append.1 hg with hg | hg
      · exact h g hg
      · rw [List.mem_singleton.1 hg]; exact q.1
    · exact h
theorem rs_end_good {b : Nat → Int32} {len e : Nat} {F : rs_F} (h : rs_good F) : rs_good (rs_end b len e F).2.2 := by
  unfold rs_end
  split <;> exact h
theorem rs_row_good {b : Nat → Int32} {len a : Nat} {F : rs_F} (h : rs_good F) : rs_good (rs_row b len a F).2.2 := by
  have hg := rs_gr_good (b := b) (len := len) 4 (a + 1) [] (fun g hg => absurd hg List.not_mem_nil)
  unfold rs_row
  repeat' split
  all_goals first
    | exact h
    | exact rs_end_good h
    | exact rs_end_good ⟨hg, h.2⟩
    | exact rs_end_good ⟨h.1, Or.inr rfl⟩
    | exact rs_end_good ⟨h.1, Or.inl rfl⟩
theorem rs_rows_good {b : Nat → Int32} {len : Nat} : ∀ m a F, rs_good F → rs_good (rs_rows b len m a F).2.2
  | 0, _, _, h => h
  | m + 1, a, F, h => by
    rw [rs_rows]
    split
    · exact h
    · split
      · exact rs_rows_good m _ _ (rs_row_good h)
      · exact h
theorem rs_all_good (b : Nat → Int32) (len : Nat) : rs_good (rs_all b len).2.2 := rs_rows_good 51 0 rs_F0 ⟨by decide, Or.inl rfl⟩
/-! ===== where two texts differ ===== -/
def un_s (b b' : Nat → Int32) (l l' : Nat) : Nat → Nat → Int32
  | 0, _ => -1
  | r + 1, k => if k < l ∧ k < l' then (if b k = b' k then un_s b b' l l' r (k + 1) else nI k) else if l = l' then -1 else nI k
theorem un_cong {b b' c c' : Nat → Int32} {l l' : Nat} (h : ∀ k, k < l → b k = c k) (h' : ∀ k, k < l' → b' k = c' k) : ∀ r k, un_s b b' l l' r k = un_s c c' l l' r k
  | 0, _ => rfl
  | r + 1, k => by
    rw [un_s, un_s]
    by_cases q : k < l ∧ k < l'
    · rw [if_pos q, if_pos q, h k q.1, h' k q.2, un_cong h h' r]
    · rw [if_neg q, if_neg q]
theorem un_v {b b' : Nat → Int32} {l l' : Nat} (hl : l ≤ 50) (hl' : l' ≤ 50) : ∀ r k, k ≤ 50 → un_s b b' l l' r k = -1 ∨ ∃ j : Nat, j ≤ 100 ∧ un_s b b' l l' r k = nI j
  | 0, _, _ => Or.inl rfl
  | r + 1, k, hk => by
    rw [un_s]
    split
    · rename_i q
      split
      · exact un_v hl hl' r (k + 1) (by omega)
      · exact Or.inr ⟨k, by omega, rfl⟩
    · split
      · exact Or.inl rfl
      · exact Or.inr ⟨k, by omega, rfl⟩
/-- none: both are one -/
theorem un_eq {b b' : Nat → Int32} {l l' : Nat} (hl : l ≤ 50) (hl' : l' ≤ 50) : ∀ r k, l < k + r → k ≤ l → un_s b b' l l' r k = -1 → l = l' ∧ ∀ j, k ≤ j → j < l → b j = b' j
  | 0, k, h, hk, _ => by omega
  | r + 1, k, h, hk, e => by
    rw [un_s] at e
    by_cases q : k < l ∧ k < l'
    · rw [if_pos q] at e
      by_cases q2 : b k = b' k
      · rw [if_pos q2] at e
        obtain ⟨i1, i2⟩ := un_eq hl hl' r (k + 1) (by omega) (by omega) e
        refine ⟨i1, fun j hj1 hj2 => ?_⟩
        by_cases z : j = k
        · subst z; exact q2
        · exact i2 j (by omega) hj2
      · rw [if_neg q2] at e
        rw [fa_eq, nI_toInt (by omega)] at e
        have : ((-1 : Int32)).toInt = -1 := rfl
        omega
    · rw [if_neg q] at e
      by_cases q2 : l = l'
      · exact ⟨q2, fun j h1 h2 => by omega⟩
      · rw [if_neg q2] at e
        by_cases big : k < 2 ^ 31
        · rw [fa_eq, nI_toInt big] at e
          have : ((-1 : Int32)).toInt = -1 := rfl
          omega
        · omega
theorem fu_ {N l l' : Nat} {σ : am_S} (hN : 20000 ≤ N) (hl : l ≤ 50) (hl' : l' ≤ 50) (h1 : σ 25 2 = nI l) (h2 : σ 28 2 = nI l') : fx_Text_firstUnlike N σ = some (un_s (σ 26) (σ 29) l l' 60 0) := by
  have key : ∀ r k q, k + r = min l l' → r < q → fx_Text_firstUnlike_b14 N q (nI (min l l')) (nI k) σ = some (un_s (σ 26) (σ 29) l l' (60 - k) k) := by
    intro r
    induction r with
    | zero =>
      intro k q a1 a2
      obtain ⟨q, rfl⟩ : ∃ m, q = m + 1 := ⟨q - 1, by omega⟩
      obtain ⟨w, hw⟩ : ∃ w, 60 - k = w + 1 := ⟨59 - k, by omega⟩
      rw [fx_Text_firstUnlike_b14, if_pos (nI_le (by omega) (by omega)), h1, h2, hw, un_s, if_neg (show ¬ (k < l ∧ k < l') by omega)]
      by_cases z : l = l'
      · rw [if_pos (show nI l = nI l' by rw [z]), if_pos z]
      · rw [if_neg (show ¬ nI l = nI l' by rw [nI_eq (by omega) (by omega)]; exact z), if_neg z, show min l l' = k by omega]
    | succ r ih =>
      intro k q a1 a2
      obtain ⟨q, rfl⟩ : ∃ m, q = m + 1 := ⟨q - 1, by omega⟩
      obtain ⟨w, hw⟩ : ∃ w, 60 - k = w + 1 := ⟨59 - k, by omega⟩
      have nx := ih (k + 1) q (by omega) (by omega)
      rw [show 60 - (k + 1) = w by omega] at nx
      rw [fx_Text_firstUnlike_b14, if_neg (nI_ge (by omega) (by omega)), hb_g (by omega) (by decide), hb_g (by omega) (by decide), nI_clamp (by omega), hw, un_s, if_pos (show k < l ∧ k < l' by omega)]
      by_cases z : σ 26 k = σ 29 k
      · rw [if_pos z, if_pos z, nI_1, nx]
      · rw [if_neg z, if_neg z]
  unfold fx_Text_firstUnlike
  have em : (if σ 28 2 < σ 25 2 then σ 28 2 else σ 25 2) = nI (min l l') := by
    rw [h1, h2]
    by_cases z : l' < l
    · rw [if_pos (nI_lt z (by omega)), Nat.min_eq_right (by omega)]
    · rw [if_neg (nI_nlt (by omega) (by omega)), Nat.min_eq_left (by omega)]
  rw [em]
  exact key (min l l') 0 N (by omega) (by omega)
theorem fu__25_31 {N l l' : Nat} {σ : am_S} (hN : 20000 ≤ N) (hl : l ≤ 50) (hl' : l' ≤ 50) (h1 : σ 25 2 = nI l) (h2 : σ 31 2 = nI l') : fx_Text_firstUnlike_25_31 N σ = some (un_s (σ 26) (σ 32) l l' 60 0) := by
  have key : ∀ r k q, k + r = min l l' → r < q → fx_Text_firstUnlike_25_31_b14 N q (nI (min l l')) (nI k) σ = some (un_s (σ 26) (σ 32) l l' (60 - k) k) := by
    intro r
    induction r with
    | zero =>
      intro k q a1 a2
      obtain ⟨q, rfl⟩ : ∃ m, q = m + 1 := ⟨q - 1, by omega⟩
      obtain ⟨w, hw⟩ : ∃ w, 60 - k = w + 1 := ⟨59 - k, by omega⟩
      rw [fx_Text_firstUnlike_25_31_b14, if_pos (nI_le (by omega) (by omega)), h1, h2, hw, un_s, if_neg (show ¬ (k < l ∧ k < l') by omega)]
      by_cases z : l = l'
      · rw [if_pos (show nI l = nI l' by rw [z]), if_pos z]
      · rw [if_neg (show ¬ nI l = nI l' by rw [nI_eq (by omega) (by omega)]; exact z), if_neg z, show min l l' = k by omega]
    | succ r ih =>
      intro k q a1 a2
      obtain ⟨q, rfl⟩ : ∃ m, q = m + 1 := ⟨q - 1, by omega⟩
      obtain ⟨w, hw⟩ : ∃ w, 60 - k = w + 1 := ⟨59 - k, by omega⟩
      have nx := ih (k + 1) q (by omega) (by omega)
      rw [show 60 - (k + 1) = w by omega] at nx
      rw [fx_Text_firstUnlike_25_31_b14, if_neg (nI_ge (by omega) (by omega)), hb_g (by omega) (by decide), hb_g (by omega) (by decide), nI_clamp (by omega), hw, un_s, if_pos (show k < l ∧ k < l' by omega)]
      by_cases z : σ 26 k = σ 32 k
      · rw [if_pos z, if_pos z, nI_1, nx]
      · rw [if_neg z, if_neg z]
  unfold fx_Text_firstUnlike_25_31
  have em : (if σ 31 2 < σ 25 2 then σ 31 2 else σ 25 2) = nI (min l l') := by
    rw [h1, h2]
    by_cases z : l' < l
    · rw [if_pos (nI_lt z (by omega)), Nat.min_eq_right (by omega)]
    · rw [if_neg (nI_nlt (by omega) (by omega)), Nat.min_eq_left (by omega)]
  rw [em]
  exact key (min l l') 0 N (by omega) (by omega)
theorem fu__31_25 {N l l' : Nat} {σ : am_S} (hN : 20000 ≤ N) (hl : l ≤ 50) (hl' : l' ≤ 50) (h1 : σ 31 2 = nI l) (h2 : σ 25 2 = nI l') : fx_Text_firstUnlike_31_25 N σ = some (un_s (σ 32) (σ 26) l l' 60 0) := by
  have key : ∀ r k q, k + r = min l l' → r < q → fx_Text_firstUnlike_31_25_b14 N q (nI (min l l')) (nI k) σ = some (un_s (σ 32) (σ 26) l l' (60 - k) k) := by
    intro r
    induction r with
    | zero =>
      intro k q a1 a2
      obtain ⟨q, rfl⟩ : ∃ m, q = m + 1 := ⟨q - 1, by omega⟩
      obtain ⟨w, hw⟩ : ∃ w, 60 - k = w + 1 := ⟨59 - k, by omega⟩
      rw [fx_Text_firstUnlike_31_25_b14, if_pos (nI_le (by omega) (by omega)), h1, h2, hw, un_s, if_neg (show ¬ (k < l ∧ k < l') by omega)]
      by_cases z : l = l'
      · rw [if_pos (show nI l = nI l' by rw [z]), if_pos z]
      · rw [if_neg (show ¬ nI l = nI l' by rw [nI_eq (by omega) (by omega)]; exact z), if_neg z, show min l l' = k by omega]
    | succ r ih =>
      intro k q a1 a2
      obtain ⟨q, rfl⟩ : ∃ m, q = m + 1 := ⟨q - 1, by omega⟩
      obtain ⟨w, hw⟩ : ∃ w, 60 - k = w + 1 := ⟨59 - k, by omega⟩
      have nx := ih (k + 1) q (by omega) (by omega)
      rw [show 60 - (k + 1) = w by omega] at nx
      rw [fx_Text_firstUnlike_31_25_b14, if_neg (nI_ge (by omega) (by omega)), hb_g (by omega) (by decide), hb_g (by omega) (by decide), nI_clamp (by omega), hw, un_s, if_pos (show k < l ∧ k < l' by omega)]
      by_cases z : σ 32 k = σ 26 k
      · rw [if_pos z, if_pos z, nI_1, nx]
      · rw [if_neg z, if_neg z]
  unfold fx_Text_firstUnlike_31_25
  have em : (if σ 25 2 < σ 31 2 then σ 25 2 else σ 31 2) = nI (min l l') := by
    rw [h1, h2]
    by_cases z : l' < l
    · rw [if_pos (nI_lt z (by omega)), Nat.min_eq_right (by omega)]
    · rw [if_neg (nI_nlt (by omega) (by omega)), Nat.min_eq_left (by omega)]
  rw [em]
  exact key (min l l') 0 N (by omega) (by omega)
theorem fu__31_28 {N l l' : Nat} {σ : am_S} (hN : 20000 ≤ N) (hl : l ≤ 50) (hl' : l' ≤ 50) (h1 : σ 31 2 = nI l) (h2 : σ 28 2 = nI l') : fx_Text_firstUnlike_31_28 N σ = some (un_s (σ 32) (σ 29) l l' 60 0) := by
  have key : ∀ r k q, k + r = min l l' → r < q → fx_Text_firstUnlike_31_28_b14 N q (nI (min l l')) (nI k) σ = some (un_s (σ 32) (σ 29) l l' (60 - k) k) := by
    intro r
    induction r with
    | zero =>
      intro k q a1 a2
      obtain ⟨q, rfl⟩ : ∃ m, q = m + 1 := ⟨q - 1, by omega⟩
      obtain ⟨w, hw⟩ : ∃ w, 60 - k = w + 1 := ⟨59 - k, by omega⟩
      rw [fx_Text_firstUnlike_31_28_b14, if_pos (nI_le (by omega) (by omega)), h1, h2, hw, un_s, if_neg (show ¬ (k < l ∧ k < l') by omega)]
      by_cases z : l = l'
      · rw [if_pos (show nI l = nI l' by rw [z]), if_pos z]
      · rw [if_neg (show ¬ nI l = nI l' by rw [nI_eq (by omega) (by omega)]; exact z), if_neg z, show min l l' = k by omega]
    | succ r ih =>
      intro k q a1 a2
      obtain ⟨q, rfl⟩ : ∃ m, q = m + 1 := ⟨q - 1, by omega⟩
      obtain ⟨w, hw⟩ : ∃ w, 60 - k = w + 1 := ⟨59 - k, by omega⟩
      have nx := ih (k + 1) q (by omega) (by omega)
      rw [show 60 - (k + 1) = w by omega] at nx
      rw [fx_Text_firstUnlike_31_28_b14, if_neg (nI_ge (by omega) (by omega)), hb_g (by omega) (by decide), hb_g (by omega) (by decide), nI_clamp (by omega), hw, un_s, if_pos (show k < l ∧ k < l' by omega)]
      by_cases z : σ 32 k = σ 29 k
      · rw [if_pos z, if_pos z, nI_1, nx]
      · rw [if_neg z, if_neg z]
  unfold fx_Text_firstUnlike_31_28
  have em : (if σ 28 2 < σ 31 2 then σ 28 2 else σ 31 2) = nI (min l l') := by
    rw [h1, h2]
    by_cases z : l' < l
    · rw [if_pos (nI_lt z (by omega)), Nat.min_eq_right (by omega)]
    · rw [if_neg (nI_nlt (by omega) (by omega)), Nat.min_eq_left (by omega)]
  rw [em]
  exact key (min l l') 0 N (by omega) (by omega)
theorem mu {N x y l l' : Nat} {σ : am_S} (hN : 20000 ≤ N) (hx : x < 3) (hy : y < 3) (hl : l ≤ 50) (hl' : l' ≤ 50) (h1 : σ 104 x = nI l) (h2 : σ 104 y = nI l') : fm_unlike N (nI x) (nI y) σ = some (un_s (fun k => σ 103 (50 * x + k)) (fun k => σ 103 (50 * y + k)) l l' 60 0) := by
  have ix : ∀ (z k : Nat), (50 : Int32) * nI z + nI k = nI (50 * z + k) := fun z k => by rw [hb_L50, pk_mul, nI_add]
  have stop : ∀ k q, k ≤ 50 → ¬ (k < l ∧ k < l') → fm_unlike_b2 N (q + 1) (nI x) (nI y) (nI k) σ = some (if l = l' then -1 else if k < l ∨ k < l' then nI k else -1) := by
    intro k q hk hn
    rw [fm_unlike_b2, hb_g hx (by decide), nI_clamp (by omega), h1]
    unfold fm_unlike_b22
    rw [hb_g hx (by decide), nI_clamp (by omega), h1, hb_g hy (by decide), nI_clamp (by omega), h2]
    by_cases z : k < l
    · rw [if_pos (nI_lt z (by omega)), if_neg (nI_ge z (by omega)), if_pos (nI_le (by omega) (by omega)), if_neg (by omega), if_pos (Or.inl z)]
    · rw [if_neg (nI_nlt (by omega) (by omega))]
      by_cases z2 : k < l'
      · rw [if_neg (nI_ge z2 (by omega)), if_pos (nI_le (by omega) (by omega)), if_neg (by omega), if_pos (Or.inr z2), hb_g hy (by decide)]
      · rw [if_pos (nI_le (by omega) (by omega))]
        by_cases z3 : l = l'
        · rw [if_pos z3, hb_g hy (by decide)]
        · rw [if_neg z3, if_neg (by omega), hb_g hy (by decide)]
  have key : ∀ r k q, k + r = min l l' → r < q → fm_unlike_b2 N q (nI x) (nI y) (nI k) σ = some (un_s (fun k => σ 103 (50 * x + k)) (fun k => σ 103 (50 * y + k)) l l' (60 - k) k) := by
    intro r
    induction r with
    | zero =>
      intro k q a1 a2
      obtain ⟨q, rfl⟩ : ∃ m, q = m + 1 := ⟨q - 1, by omega⟩
      obtain ⟨w, hw⟩ : ∃ w, 60 - k = w + 1 := ⟨59 - k, by omega⟩
      rw [stop k q (by omega) (by omega), hw, un_s, if_neg (show ¬ (k < l ∧ k < l') by omega)]
      by_cases z : l = l'
      · rw [if_pos z, if_pos z]
      · rw [if_neg z, if_neg z, if_pos (by omega)]
    | succ r ih =>
      intro k q a1 a2
      obtain ⟨q, rfl⟩ : ∃ m, q = m + 1 := ⟨q - 1, by omega⟩
      obtain ⟨w, hw⟩ : ∃ w, 60 - k = w + 1 := ⟨59 - k, by omega⟩
      have nx := ih (k + 1) q (by omega) (by omega)
      rw [show 60 - (k + 1) = w by omega] at nx
      rw [fm_unlike_b2, hb_g hx (by decide), nI_clamp (by omega), h1, if_pos (nI_lt (by omega) (by omega))]
      unfold fm_unlike_b22
      rw [hb_g hx (by decide), nI_clamp (by omega), h1, if_neg (nI_ge (by omega) (by omega)), hb_g hy (by decide), nI_clamp (by omega), h2, if_neg (nI_ge (by omega) (by omega)), ix, ix, hb_g (by omega) (by decide), hb_g (by omega) (by decide), nI_clamp (by omega), nI_clamp (by omega), hw, un_s, if_pos (show k < l ∧ k < l' by omega)]
      by_cases z : σ 103 (50 * x + k) = σ 103 (50 * y + k)
      · rw [if_pos z, if_pos z, nI_1]
        exact nx
      · rw [if_neg z, if_neg z]
  exact key (min l l') 0 N (by omega) (by omega)

