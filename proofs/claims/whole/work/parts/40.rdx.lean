/-! ===== the class reads a text ===== -/
def rx_F (F : rs_F) (σ : am_S) : Prop := F.1.length ≤ 4 ∧ σ 22 3 = nI F.1.length ∧ (∀ i (h : i < F.1.length), σ 24 i = F.1[i]) ∧ σ 22 4 = F.2.1 ∧ σ 22 5 = F.2.2.1 ∧ σ 22 6 = F.2.2.2.1 ∧ σ 22 7 = F.2.2.2.2.1 ∧ σ 22 8 = F.2.2.2.2.2
def rx_fr (σ' σ : am_S) : Prop := (∀ c, c ≠ 22 → c ≠ 24 → σ' c = σ c) ∧ σ' 22 2 = σ 22 2
theorem rx_fr_refl (σ : am_S) : rx_fr σ σ := ⟨fun _ _ _ => rfl, rfl⟩
theorem rx_byte {σ : am_S} {len k : Nat} (hl : len ≤ 50) (h : σ 22 2 = nI len) (hk : k < 2 ^ 30) : fx_Text_byteAt (nI k) σ = some (rs_bt (σ 23) len k) := by
  unfold fx_Text_byteAt rs_bt
  rw [if_neg (nI_pos (by omega)), h]
  by_cases q : k < len
  · rw [if_neg (nI_ge q (by omega)), if_pos q, hb_g (by omega) (by decide), nI_clamp (by omega)]
  · rw [if_pos (nI_le (by omega) (by omega)), if_neg q]
theorem rx_isd {σ : am_S} {c : Int32} : fx_Text_isDigit c σ = if rs_dg c = true then 1 else 0 := by
  unfold fx_Text_isDigit rs_dg
  by_cases h1 : c < 48
  · rw [if_pos h1, if_neg (by rw [decide_eq_true_eq]; exact fun h => h.1 h1)]
  · rw [if_neg h1]
    by_cases h2 : 57 < c
    · rw [if_pos h2, if_neg (by rw [decide_eq_true_eq]; exact fun h => h.2 h2)]
    · rw [if_neg h2, if_pos (decide_eq_true ⟨h1, h2⟩)]
theorem rx_dig {N a len : Nat} {l m : Int32} {σ : am_S} (hl : len ≤ 50) (h : σ 22 2 = nI len) : ∀ r e q, r < q → e + r < 2 ^ 30 → nI a + m = nI (e + r) → fx_Text_readDigits_b3 N q (nI a) l m (nI e) σ = fx_Text_readDigits_b29 N (nI a) l (nI (e + rs_nd (σ 23) len r e)) σ := by
  intro r
  induction r with
  | zero =>
    intro e q h1 h2 h3
    obtain ⟨q, rfl⟩ : ∃ m, q = m + 1 := ⟨q - 1, by omega⟩
    rw [fx_Text_readDigits_b3, h3, if_pos (nI_le (by omega) (by omega))]
    rfl
  | succ r ih =>
    intro e q h1 h2 h3
    obtain ⟨q, rfl⟩ : ∃ m, q = m + 1 := ⟨q - 1, by omega⟩
    rw [fx_Text_readDigits_b3, h3, if_neg (nI_ge (by omega) (by omega)), rx_byte hl h (by omega), hb_bind, rx_isd, rs_nd]
    by_cases d : rs_dg (rs_bt (σ 23) len e) = true
    · rw [if_pos d, if_neg (by decide), if_pos d, nI_1, ih (e + 1) q (by omega) (by omega) (by rw [h3]; congr 1; omega)]
      congr 2
      omega
    · rw [if_neg d, if_pos rfl, if_neg d]
      rfl
theorem rx_num {N len : Nat} {σ : am_S} (hl : len ≤ 50) (h : σ 22 2 = nI len) : ∀ r k v q, r < q → k + r < 2 ^ 30 → fx_Text_numberAt_b5 N q (nI (k + r)) v (nI k) σ = some (rs_vl (σ 23) len r k v) := by
  intro r
  induction r with
  | zero =>
    intro k v q h1 h2
    obtain ⟨q, rfl⟩ : ∃ m, q = m + 1 := ⟨q - 1, by omega⟩
    rw [fx_Text_numberAt_b5, if_pos (nI_le (by omega) (by omega))]
    rfl
  | succ r ih =>
    intro k v q h1 h2
    obtain ⟨q, rfl⟩ : ∃ m, q = m + 1 := ⟨q - 1, by omega⟩
    rw [fx_Text_numberAt_b5, if_neg (nI_ge (by omega) (by omega)), rx_byte hl h (by omega), hb_bind, nI_1, show k + (r + 1) = k + 1 + r by omega, ih (k + 1) _ q (by omega) (by omega)]
    rfl
def rx_v (q : Bool × Nat × rs_F) : Int32 := if q.1 = true then nI q.2.1 else (-1) - nI q.2.1
theorem rx_end {σ : am_S} {len e : Nat} (F : rs_F) (hl : len ≤ 50) (h : σ 22 2 = nI len) (he : e < 2 ^ 30) : fx_Text_readRowEnd (nI e) σ = some (rx_v (rs_end (σ 23) len e F)) := by
  unfold fx_Text_readRowEnd rs_end rx_v fx_Text_faultAt
  rw [rx_byte hl h he, hb_bind, nI_1]
  by_cases q : rs_bt (σ 23) len e = 59
  · rw [if_pos q, if_pos q, if_pos rfl]
  · rw [if_neg q, if_neg q, if_neg Bool.noConfusion]
def rx_g (gs : List Int32) (σ1 σ : am_S) : Prop := gs.length ≤ 4 ∧ σ1 22 3 = nI gs.length ∧ (∀ i (h : i < gs.length), σ1 24 i = gs[i]) ∧ (∀ c, c ≠ 22 → c ≠ 24 → σ1 c = σ c) ∧ (∀ k, k ≠ 3 → σ1 22 k = σ 22 k)
theorem rx_new {N : Nat} {gs : List Int32} {σ1 σ : am_S} {c : Int32} (hg : rx_g gs σ1 σ) : ∀ r k q, k + r = gs.length → r < q → fx_Text_isNewGround_b2 N q c (nI k) σ1 = some (if rs_gd c = true ∧ ¬ c ∈ gs.drop k then 1 else 0) := by
  obtain ⟨g1, g2, g3, g4, g5⟩ := hg
  intro r
  induction r with
  | zero =>
    intro k q h1 h2
    obtain ⟨q, rfl⟩ : ∃ m, q = m + 1 := ⟨q - 1, by omega⟩
    rw [fx_Text_isNewGround_b2, g2, if_pos (nI_le (by omega) (by omega)), List.drop_eq_nil_of_le (by omega)]
    unfold fx_Text_isNewGround_b52 rs_gd
    by_cases c1 : c = 99
    · rw [if_pos c1, if_pos ⟨decide_eq_true (Or.inl c1), List.not_mem_nil⟩]
    · rw [if_neg c1]
      by_cases c2 : c = 104
      · rw [if_pos c2, if_pos ⟨decide_eq_true (Or.inr (Or.inl c2)), List.not_mem_nil⟩]
      · rw [if_neg c2]
        by_cases c3 : c = 98
        · rw [if_pos c3, if_pos ⟨decide_eq_true (Or.inr (Or.inr (Or.inl c3))), List.not_mem_nil⟩]
        · rw [if_neg c3]
          by_cases c4 : c = 119
          · rw [if_pos c4, if_pos ⟨decide_eq_true (Or.inr (Or.inr (Or.inr c4))), List.not_mem_nil⟩]
          · rw [if_neg c4, if_neg]
            intro h
            rw [decide_eq_true_eq] at h
            rcases h.1 with h | h | h | h
            · exact c1 h
            · exact c2 h
            · exact c3 h
            · exact c4 h
  | succ r ih =>
    intro k q h1 h2
    obtain ⟨q, rfl⟩ : ∃ m, q = m + 1 := ⟨q - 1, by omega⟩
    have hk : k < gs.length := by omega
    rw [fx_Text_isNewGround_b2, g2, if_neg (nI_ge (by omega) (by omega)), hb_g (by omega) (by decide), nI_clamp (by omega), g3 k hk, List.drop_eq_getElem_cons hk]
    by_cases c1 : gs[k] = c
    · rw [if_pos c1, if_neg (fun h => h.2 (by rw [c1]; exact List.mem_cons_self))]
    · rw [if_neg c1, nI_1, ih (k + 1) q (by omega) (by omega)]
      by_cases c2 : rs_gd c = true ∧ ¬ c ∈ gs.drop (k + 1)
      · rw [if_pos c2, if_pos]
        refine ⟨c2.1, fun h => ?_⟩
        rcases List.mem_cons.1 h with h | h
        · exact c1 h.symm
        · exact c2.2 h
      · rw [if_neg c2, if_neg]
        exact fun h => c2 ⟨h.1, fun h2 => h.2 (List.mem_cons_of_mem _ h2)⟩
theorem rx_g_add {gs : List Int32} {σ1 σ : am_S} {c : Int32} (hg : rx_g gs σ1 σ) (h4 : gs.length < 4) : rx_g (gs ++ [c]) (am_up (am_up σ1 24 gs.length c) 22 3 (nI (gs.length + 1))) σ := by
  obtain ⟨g1, g2, g3, g4, g5⟩ := hg
  refine ⟨by rw [List.length_append, List.length_singleton]; omega, ?_, ?_, ?_, ?_⟩
  · rw [hb_up_eq, hb_us, List.length_append, List.length_singleton]
  · intro i hi
    rw [List.length_append, List.length_singleton] at hi
    rw [hb_up_ne (by decide), hb_up_eq]
    by_cases e : i = gs.length
    · subst e
      rw [hb_us, List.getElem_append_right (by omega)]
      simp
    · rw [hb_un e, g3 i (by omega), List.getElem_append_left]
  · intro c' h1 h2
    rw [hb_up_ne h1, hb_up_ne h2, g4 c' h1 h2]
  · intro k hk
    rw [hb_up_eq, hb_un hk, hb_up_ne (by decide), g5 k hk]
theorem rx_gr {N len : Nat} {σ : am_S} {x1 : Int32} (hN : 200 ≤ N) (hl : len ≤ 50) (h : σ 22 2 = nI len) : ∀ r e q gs σ1, gs.length + r = 4 → r < q → e + r < 2 ^ 30 → rx_g gs σ1 σ → ∃ σ2, fx_Text_readGrounds_b7 N q x1 (nI e) σ1 = fx_Text_readGrounds_b57 N x1 (nI (rs_gr (σ 23) len r e gs).1) σ2 ∧ rx_g (rs_gr (σ 23) len r e gs).2 σ2 σ := by
  intro r
  induction r with
  | zero =>
    intro e q gs σ1 h1 h2 h3 hg
    obtain ⟨q, rfl⟩ : ∃ m, q = m + 1 := ⟨q - 1, by omega⟩
    refine ⟨σ1, ?_, hg⟩
    rw [fx_Text_readGrounds_b7, hg.2.1, if_pos (by rw [hb_L4]; exact nI_le (by omega) (by omega))]
    rfl
  | succ r ih =>
    intro e q gs σ1 h1 h2 h3 hg
    obtain ⟨q, rfl⟩ : ∃ m, q = m + 1 := ⟨q - 1, by omega⟩
    have hlen : σ1 22 2 = nI len := by rw [hg.2.2.2.2 2 (by decide), h]
    have hrow : σ1 23 = σ 23 := hg.2.2.2.1 23 (by decide) (by decide)
    have hnew := rx_new (N := N) (c := rs_bt (σ 23) len e) hg gs.length 0 N (by omega) (by omega)
    have hb := rx_byte (k := e) hl hlen (by omega)
    rw [hrow] at hb
    rw [fx_Text_readGrounds_b7, hb, hb_bind, hg.2.1, if_neg (by rw [hb_L4]; exact nI_ge (by omega) (by omega))]
    unfold fx_Text_isNewGround
    have hnew' : fx_Text_isNewGround_b2 N N (rs_bt (σ 23) len e) 0 σ1 = some (if rs_gd (rs_bt (σ 23) len e) = true ∧ ¬ rs_bt (σ 23) len e ∈ gs.drop 0 then 1 else 0) := hnew
    rw [hnew', hb_bind, List.drop_zero, rs_gr]
    by_cases c : rs_gd (rs_bt (σ 23) len e) = true ∧ ¬ rs_bt (σ 23) len e ∈ gs
    · rw [if_pos c, if_neg (by decide), hb_bind, hb_g (by omega) (by decide), nI_clamp (by omega), nI_1, nI_1, if_pos c]
      refine ih (e + 1) q _ _ ?_ (by omega) (by omega) (rx_g_add hg (by omega))
      rw [List.length_append, List.length_singleton]; omega
    · rw [if_neg c, if_pos rfl, if_neg c]
      exact ⟨σ1, rfl, hg⟩
/-- one field of the text is set -/
theorem rx_set {F : rs_F} {σ : am_S} (hF : rx_F F σ) (v : Int32) : (rx_F (F.1, v, F.2.2) (am_up σ 22 4 v)) ∧ (rx_F (F.1, F.2.1, v, F.2.2.2) (am_up σ 22 5 v)) ∧ (rx_F (F.1, F.2.1, F.2.2.1, v, F.2.2.2.2) (am_up σ 22 6 v)) ∧ (rx_F (F.1, F.2.1, F.2.2.1, F.2.2.2.1, v, F.2.2.2.2.2) (am_up σ 22 7 v)) ∧ (rx_F (F.1, F.2.1, F.2.2.1, F.2.2.2.1, F.2.2.2.2.1, v) (am_up σ 22 8 v)) := by
  obtain ⟨g1, g2, g3, g4, g5, g6, g7, g8⟩ := hF
  refine ⟨⟨g1, ?_, ?_, ?_, ?_, ?_, ?_, ?_⟩, ⟨g1, ?_, ?_, ?_, ?_, ?_, ?_, ?_⟩, ⟨g1, ?_, ?_, ?_, ?_, ?_, ?_, ?_⟩, ⟨g1, ?_, ?_, ?_, ?_, ?_, ?_, ?_⟩, ⟨g1, ?_, ?_, ?_, ?_, ?_, ?_, ?_⟩⟩
  all_goals first
    | (rw [hb_up_eq, hb_us]; done)
    | (rw [hb_up_eq, hb_un (by decide)]; assumption)
    | (intro i hi; rw [hb_up_ne (by decide)]; exact g3 i hi)
theorem rx_fr_up {σ : am_S} {k : Nat} {v : Int32} (h : k ≠ 2) : rx_fr (am_up σ 22 k v) σ := by
  refine ⟨fun c h1 h2 => hb_up_ne h1, ?_⟩
  rw [hb_up_eq, hb_un (by omega)]
