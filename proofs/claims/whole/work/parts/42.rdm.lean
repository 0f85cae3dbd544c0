/-! ===== the reference reads a text ===== -/
def rm_F (F : rs_F) (σ : am_S) : Prop := F.1.length ≤ 4 ∧ σ 85 55 = nI F.1.length ∧ (∀ i (h : i < F.1.length), σ 125 i = F.1[i]) ∧ σ 85 56 = F.2.1 ∧ σ 85 57 = F.2.2.1 ∧ σ 85 58 = F.2.2.2.1 ∧ σ 85 59 = F.2.2.2.2.1 ∧ σ 85 60 = F.2.2.2.2.2
def rm_fr (σ' σ : am_S) : Prop := (∀ c, c ≠ 85 → c ≠ 125 → σ' c = σ c) ∧ (∀ k, k < 55 ∨ 60 < k → σ' 85 k = σ 85 k)
theorem rm_fr_refl (σ : am_S) : rm_fr σ σ := ⟨fun _ _ _ => rfl, fun _ _ => rfl⟩
theorem rm_fr_trans {a b c : am_S} (h : rm_fr a b) (h2 : rm_fr b c) : rm_fr a c := ⟨fun x p q => by rw [h.1 x p q, h2.1 x p q], fun k p => by rw [h.2 k p, h2.2 k p]⟩
theorem rm_fr_up {σ : am_S} {k : Nat} {v : Int32} (h : 55 ≤ k ∧ k ≤ 60) : rm_fr (am_up σ 85 k v) σ := by
  refine ⟨fun c h1 h2 => hb_up_ne h1, fun j hj => ?_⟩
  rw [hb_up_eq, hb_un (by omega)]
theorem rm_set4 {F : rs_F} {σ : am_S} (hF : rm_F F σ) (w1 w2 w3 w4 : Int32) : rm_F (F.1, w1, w2, F.2.2.2.1, w3, w4) (am_up (am_up (am_up (am_up σ 85 56 w1) 85 57 w2) 85 59 w3) 85 60 w4) ∧ rm_fr (am_up (am_up (am_up (am_up σ 85 56 w1) 85 57 w2) 85 59 w3) 85 60 w4) σ := by
  obtain ⟨g1, g2, g3, g4, g5, g6, g7, g8⟩ := hF
  refine ⟨⟨g1, ?_, ?_, ?_, ?_, ?_, ?_, ?_⟩, rm_fr_trans (rm_fr_up (by decide)) (rm_fr_trans (rm_fr_up (by decide)) (rm_fr_trans (rm_fr_up (by decide)) (rm_fr_up (by decide))))⟩
  · rw [hb_up_eq, hb_un (by decide), hb_up_eq, hb_un (by decide), hb_up_eq, hb_un (by decide), hb_up_eq, hb_un (by decide)]; exact g2
  · intro i hi; rw [hb_up_ne (by decide), hb_up_ne (by decide), hb_up_ne (by decide), hb_up_ne (by decide)]; exact g3 i hi
  · rw [hb_up_eq, hb_un (by decide), hb_up_eq, hb_un (by decide), hb_up_eq, hb_un (by decide), hb_up_eq, hb_us]
  · rw [hb_up_eq, hb_un (by decide), hb_up_eq, hb_un (by decide), hb_up_eq, hb_us]
  · rw [hb_up_eq, hb_un (by decide), hb_up_eq, hb_un (by decide), hb_up_eq, hb_un (by decide), hb_up_eq, hb_un (by decide)]; exact g6
  · rw [hb_up_eq, hb_un (by decide), hb_up_eq, hb_us]
  · rw [hb_up_eq, hb_us]
theorem rm_set58 {F : rs_F} {σ : am_S} (hF : rm_F F σ) (v : Int32) : rm_F (F.1, F.2.1, F.2.2.1, v, F.2.2.2.2) (am_up σ 85 58 v) := by
  obtain ⟨g1, g2, g3, g4, g5, g6, g7, g8⟩ := hF
  refine ⟨g1, ?_, ?_, ?_, ?_, ?_, ?_, ?_⟩
  all_goals first
    | (rw [hb_up_eq, hb_us]; done)
    | (rw [hb_up_eq, hb_un (by decide)]; assumption)
    | (intro i hi; rw [hb_up_ne (by decide)]; exact g3 i hi)
def rm_g (gs : List Int32) (σ1 σ : am_S) : Prop := gs.length ≤ 4 ∧ σ1 85 55 = nI gs.length ∧ (∀ i (h : i < gs.length), σ1 125 i = gs[i]) ∧ (∀ c, c ≠ 85 → c ≠ 125 → σ1 c = σ c) ∧ (∀ k, k ≠ 55 → σ1 85 k = σ 85 k)
theorem rm_new {N : Nat} {gs : List Int32} {σ1 σ : am_S} {c : Int32} (hg : rm_g gs σ1 σ) : ∀ r k q (v : Int32), (v = 0 ∨ v = 1) → k + r = gs.length → r < q → fm_isGround_b32 N q c v (nI k) σ1 = some (if v = 1 ∧ ¬ c ∈ gs.drop k then 1 else 0) := by
  obtain ⟨g1, g2, g3, g4, g5⟩ := hg
  intro r
  induction r with
  | zero =>
    intro k q v hv h1 h2
    obtain ⟨q, rfl⟩ : ∃ m, q = m + 1 := ⟨q - 1, by omega⟩
    rw [fm_isGround_b32, g2, if_pos (nI_le (by omega) (by omega)), List.drop_eq_nil_of_le (by omega)]
    rcases hv with e | e
    · subst e; rfl
    · subst e; rw [if_pos (And.intro rfl List.not_mem_nil)]; rfl
  | succ r ih =>
    intro k q v hv h1 h2
    obtain ⟨q, rfl⟩ : ∃ m, q = m + 1 := ⟨q - 1, by omega⟩
    have hk : k < gs.length := by omega
    rw [fm_isGround_b32, g2, if_neg (nI_ge (by omega) (by omega)), hb_g (by omega) (by decide), nI_clamp (by omega), g3 k hk, List.drop_eq_getElem_cons hk]
    unfold fm_isGround_b56
    rw [nI_1]
    show (if gs[k] = c then fm_isGround_b32 N q c (v &&& 0) (nI (k + 1)) σ1 else fm_isGround_b32 N q c (v &&& 1) (nI (k + 1)) σ1) = _
    by_cases c1 : gs[k] = c
    · have e0 : v &&& 0 = 0 := by rcases hv with e | e <;> (subst e; rfl)
      rw [if_pos c1, e0, ih (k + 1) q 0 (Or.inl rfl) (by omega) (by omega), if_neg (fun h => absurd h.1 (by decide)), if_neg (fun h => h.2 (by rw [c1]; exact List.mem_cons_self))]
    · have e0 : v &&& 1 = v := fa_bool_and hv
      rw [if_neg c1, e0, ih (k + 1) q v hv (by omega) (by omega)]
      by_cases c2 : v = 1 ∧ ¬ c ∈ gs.drop (k + 1)
      · rw [if_pos c2, if_pos]
        refine ⟨c2.1, fun h => ?_⟩
        rcases List.mem_cons.1 h with h | h
        · exact c1 h.symm
        · exact c2.2 h
      · rw [if_neg c2, if_neg]
        exact fun h => c2 ⟨h.1, fun h2 => h.2 (List.mem_cons_of_mem _ h2)⟩
theorem rm_isg {N : Nat} {gs : List Int32} {σ1 σ : am_S} {c : Int32} (hN : 200 ≤ N) (hg : rm_g gs σ1 σ) : fm_isGround N c σ1 = some (if rs_gd c = true ∧ ¬ c ∈ gs then 1 else 0) := by
  have h0 := rm_new (N := N) (c := c) hg gs.length 0 N 0 (Or.inl rfl) (by omega) (by have := hg.1; omega)
  have h1 := rm_new (N := N) (c := c) hg gs.length 0 N 1 (Or.inr rfl) (by omega) (by have := hg.1; omega)
  rw [List.drop_zero] at h0 h1
  have h0' : fm_isGround_b32 N N c 0 0 σ1 = some 0 := by
    refine Eq.trans h0 ?_
    rw [if_neg (fun h => absurd h.1 (by decide))]
  have h1' : fm_isGround_b32 N N c 1 0 σ1 = some (if ¬ c ∈ gs then 1 else 0) := by
    refine Eq.trans h1 ?_
    by_cases q : ¬ c ∈ gs
    · rw [if_pos q, if_pos (And.intro rfl q)]
    · rw [if_neg q, if_neg (fun h => q h.2)]
  unfold fm_isGround fm_isGround_b24 fm_isGround_b29
  rw [h0', h1']
  by_cases q : rs_gd c = true
  · have e : (if rs_gd c = true ∧ ¬ c ∈ gs then (1 : Int32) else 0) = (if ¬ c ∈ gs then 1 else 0) := by
      by_cases q2 : ¬ c ∈ gs
      · rw [if_pos q2, if_pos (And.intro q q2)]
      · rw [if_neg q2, if_neg (fun h => q2 h.2)]
    rw [e]
    unfold rs_gd at q
    rw [decide_eq_true_eq] at q
    by_cases c1 : c = 99
    · rw [if_pos c1]
    · rw [if_neg c1]
      by_cases c2 : c = 104
      · rw [if_pos c2]
      · rw [if_neg c2]
        by_cases c3 : c = 98
        · rw [if_pos c3]
        · rw [if_neg c3]
          by_cases c4 : c = 119
          · rw [if_pos c4]
          · exact absurd q (fun h => h.elim c1 (fun h => h.elim c2 (fun h => h.elim c3 c4)))
  · have e9 : (if rs_gd c = true ∧ ¬ c ∈ gs then (1 : Int32) else 0) = 0 := if_neg (fun h => q h.1)
    rw [e9]
    unfold rs_gd at q
    rw [decide_eq_true_eq] at q
    rw [if_neg (fun h => q (Or.inl h)), if_neg (fun h => q (Or.inr (Or.inl h))), if_neg (fun h => q (Or.inr (Or.inr (Or.inl h)))), if_neg (fun h => q (Or.inr (Or.inr (Or.inr h))))]
theorem rm_g_add {gs : List Int32} {σ1 σ : am_S} {c : Int32} (hg : rm_g gs σ1 σ) (h4 : gs.length < 4) : rm_g (gs ++ [c]) (am_up (am_up σ1 125 gs.length c) 85 55 (nI (gs.length + 1))) σ := by
  obtain ⟨g1, g2, g3, g4, g5⟩ := hg
  refine ⟨by rw [List.length_append, List.length_singleton]; omega, ?_, ?_, ?_, ?_⟩
  · rw [hb_up_eq, hb_us, List.length_append, List.length_singleton]
  · intro i hi
    rw [List.length_append, List.length_singleton] at hi
    rw [hb_up_ne (by decide), hb_up_eq]
    by_cases e : i = gs.length
    · subst e
      rw [hb_us, List.getElem_append_right (by omega)]
      simp
    · rw [hb_un e, g3 i (by omega), List.getElem_append_left]
  · intro c' h1 h2
    rw [hb_up_ne h1, hb_up_ne h2, g4 c' h1 h2]
  · intro k hk
    rw [hb_up_eq, hb_un hk, hb_up_ne (by decide), g5 k hk]
theorem rm_isin {c : Int32} {σ : am_S} : fm_isIn c 48 57 σ = if rs_dg c = true then 1 else 0 := by
  unfold fm_isIn rs_dg
  by_cases h1 : c < 48
  · rw [if_pos h1, if_neg (by rw [decide_eq_true_eq]; exact fun h => h.1 h1)]
  · rw [if_neg h1]
    by_cases h2 : 57 < c
    · rw [if_pos h2, if_neg (by rw [decide_eq_true_eq]; exact fun h => h.2 h2)]
    · rw [if_neg h2, if_pos (decide_eq_true ⟨h1, h2⟩)]
theorem rs_bt_lt {b : Nat → Int32} {len k : Nat} (h : k < len) : rs_bt b len k = b k := if_pos h
theorem rs_bt_ge {b : Nat → Int32} {len k : Nat} (h : ¬ k < len) : rs_bt b len k = -1 := if_neg h


theorem rs_gr_mono {b : Nat → Int32} {len : Nat} : ∀ m a gs, gs.length ≤ (rs_gr b len m a gs).2.length
  | 0, _, _ => Nat.le_refl _
  | m + 1, a, gs => by
    rw [rs_gr]
    have := rs_gr_mono (b := b) (len := len) m (a + 1) (gs ++ [rs_bt b len a])
    rw [List.length_append, List.length_singleton] at this
    split
    · omega
    · exact Nat.le_refl _
theorem rs_gr_nil {b : Nat → Int32} {len a : Nat} (h : (rs_gr b len 4 a []).2 = []) : (rs_gr b len 4 a []).1 = a := by
  rw [rs_gr] at h ⊢
  split at h
  · rename_i q
    have := rs_gr_mono (b := b) (len := len) 3 (a + 1) ([] ++ [rs_bt b len a])
    rw [h] at this
    exact absurd this (by simp)
  · rename_i q
    rw [if_neg q]


def rm_b (τ : am_S) (fr : Nat) : Nat → Int32 := fun k => τ 103 (fr + k)
theorem rm_529 {N fr len e c : Nat} {σ τ : am_S} {K : Int32 → Int32 → Int32 → am_S → Option (Int32 × am_S)} (hl : len ≤ 50) (hfr : fr + len ≤ 150) (hrow : σ 103 = τ 103) (he : e < 2 ^ 20) (hc : c < 2 ^ 20) : fm_read_b529 N K (nI fr) (nI len) (nI e) (nI c) σ = if c = 0 then some (nI e, σ) else if rs_bt (rm_b τ fr) len e = 59 then K (nI fr) (nI len) (nI (e + 1)) σ else some (nI e, σ) := by
  unfold fm_read_b529
  by_cases c0 : c = 0
  · subst c0; rw [if_pos rfl, if_pos (show nI 0 = (0 : Int32) from rfl)]
  · rw [if_neg (nI_ne0 (by omega) (by omega)), if_neg c0]
    by_cases q : e < len
    · rw [if_neg (nI_ge q (by omega)), nI_add, hb_g (by omega) (by decide), nI_clamp (by omega), hrow, nI_1, rs_bt_lt q]
      rfl
    · rw [if_pos (nI_le (by omega) (by omega)), rs_bt_ge q, if_neg (by decide)]
theorem rm_322 {N fr len mo : Nat} {L : Int32} {σ τ : am_S} {K : Int32 → Int32 → Int32 → am_S → Option (Int32 × am_S)} (hl : len ≤ 50) (hfr : fr + len ≤ 150) (hrow : σ 103 = τ 103) (hL : ¬ L = 117) (hmo : mo ≤ 3) : ∀ r a c q v, c + r = mo → r < q → a < 2 ^ 20 → fm_read_b322 N K q (nI fr) (nI len) (nI a) L (nI c) v (nI mo) σ = fm_read_b413 N K (nI fr) (nI len) (nI (a + rs_nd (rm_b τ fr) len r a)) L (nI (c + rs_nd (rm_b τ fr) len r a)) (rs_vl (rm_b τ fr) len (rs_nd (rm_b τ fr) len r a) a v) σ := by
  intro r
  induction r with
  | zero =>
    intro a c q v h1 h2 h3
    obtain ⟨q, rfl⟩ : ∃ m, q = m + 1 := ⟨q - 1, by omega⟩
    rw [fm_read_b322, rs_nd, rs_vl]
    by_cases c1 : a < len
    · rw [if_neg (nI_ge c1 (by omega)), if_pos (nI_le (by omega) (by omega))]
      rfl
    · rw [if_pos (nI_le (by omega) (by omega))]
      rfl
  | succ r ih =>
    intro a c q v h1 h2 h3
    obtain ⟨q, rfl⟩ : ∃ m, q = m + 1 := ⟨q - 1, by omega⟩
    rw [fm_read_b322]
    by_cases c1 : a < len
    · rw [if_neg (nI_ge c1 (by omega)), if_neg (nI_ge (by omega) (by omega)), nI_add, hb_g (by omega) (by decide), nI_clamp (by omega), hrow, rm_isin]
      have eb : τ 103 (fr + a) = rs_bt (rm_b τ fr) len a := (rs_bt_lt (b := rm_b τ fr) c1).symm
      rw [eb]
      by_cases d : rs_dg (rs_bt (rm_b τ fr) len a) = true
      · rw [if_pos d, if_neg (by decide), if_neg hL]
        unfold fm_read_b387
        rw [nI_add, hb_g (by omega) (by decide), nI_clamp (by omega), hrow, nI_1, nI_1, eb, Int32.mul_comm]
        refine Eq.trans (ih (a + 1) (c + 1) q _ (by omega) (by omega) (by omega)) ?_
        have e1 : rs_nd (rm_b τ fr) len (r + 1) a = rs_nd (rm_b τ fr) len r (a + 1) + 1 := by rw [rs_nd, if_pos d]
        rw [e1, rs_vl, show a + (rs_nd (rm_b τ fr) len r (a + 1) + 1) = a + 1 + rs_nd (rm_b τ fr) len r (a + 1) by omega, show c + (rs_nd (rm_b τ fr) len r (a + 1) + 1) = c + 1 + rs_nd (rm_b τ fr) len r (a + 1) by omega]
      · have e1 : rs_nd (rm_b τ fr) len (r + 1) a = 0 := by rw [rs_nd, if_neg d]
        rw [if_neg d, if_pos rfl, e1]
        rfl
    · have e1 : rs_nd (rm_b τ fr) len (r + 1) a = 0 := by rw [rs_nd, rs_bt_ge c1, if_neg (by decide)]
      rw [if_pos (nI_le (by omega) (by omega)), e1]
      rfl
theorem rm_413 {N : Nat} {x2 x3 x4 L v : Int32} {c : Nat} {F : rs_F} {σ : am_S} {K : Int32 → Int32 → Int32 → am_S → Option (Int32 × am_S)} (hc : c ≤ 3) (hF : rm_F F σ) (hL : L = 107 ∨ L = 115 ∨ L = 99 ∨ L = 117) : ∃ σ', fm_read_b413 N K x2 x3 x4 L (nI c) v σ = fm_read_b529 N K x2 x3 x4 (nI (if (L = 115 ∨ L = 117) ∧ c < 2 then 0 else c)) σ' ∧ rm_fr σ' σ ∧ rm_F (F.1, (if L = 107 then v else F.2.1), (if L = 115 then v else F.2.2.1), F.2.2.2.1, (if L = 99 then v else F.2.2.2.2.1), (if L = 117 then v else F.2.2.2.2.2)) σ' := by
  have f := hF
  obtain ⟨f1, f2, f3, f4, f5, f6, f7, f8⟩ := f
  rcases hL with e | e | e | e
  · subst e
    obtain ⟨k1, k2⟩ := rm_set4 hF v (F.2.2.1) (F.2.2.2.2.1) (F.2.2.2.2.2)
    refine ⟨_, ?_, k2, k1⟩
    unfold fm_read_b413 fm_read_b437 fm_read_b439 fm_read_b458 fm_read_b478 fm_read_b498 fm_read_b518
    simp only [hb_up_eq, hb_un (show 59 ≠ 56 by decide), hb_un (show 60 ≠ 56 by decide), hb_un (show 60 ≠ 57 by decide), f5, f7, f8]
    rfl
  · subst e
    obtain ⟨k1, k2⟩ := rm_set4 hF (F.2.1) v (F.2.2.2.2.1) (F.2.2.2.2.2)
    refine ⟨_, ?_, k2, k1⟩
    unfold fm_read_b413
    rw [if_pos rfl]
    unfold fm_read_b427
    by_cases c2 : c < 2
    · rw [if_neg (by rw [hb_L2]; exact nI_ge c2 (by decide)), if_pos (And.intro (Or.inl rfl) c2)]
      unfold fm_read_b439 fm_read_b458 fm_read_b478 fm_read_b498 fm_read_b518
      simp only [hb_up_eq, hb_un (show 59 ≠ 56 by decide), hb_un (show 60 ≠ 56 by decide), hb_un (show 60 ≠ 57 by decide), f4, f7, f8]
      rfl
    · rw [if_pos (by rw [hb_L2]; exact nI_le (by omega) (by omega)), if_neg (fun h => c2 h.2)]
      unfold fm_read_b437 fm_read_b439 fm_read_b458 fm_read_b478 fm_read_b498 fm_read_b518
      simp only [hb_up_eq, hb_un (show 59 ≠ 56 by decide), hb_un (show 60 ≠ 56 by decide), hb_un (show 60 ≠ 57 by decide), f4, f7, f8]
      rfl
  · subst e
    obtain ⟨k1, k2⟩ := rm_set4 hF (F.2.1) (F.2.2.1) v (F.2.2.2.2.2)
    refine ⟨_, ?_, k2, k1⟩
    unfold fm_read_b413 fm_read_b437 fm_read_b439 fm_read_b458 fm_read_b478 fm_read_b498 fm_read_b518
    simp only [hb_up_eq, hb_un (show 59 ≠ 56 by decide), hb_un (show 60 ≠ 56 by decide), hb_un (show 60 ≠ 57 by decide), f4, f5, f8]
    rfl
  · subst e
    obtain ⟨k1, k2⟩ := rm_set4 hF (F.2.1) (F.2.2.1) (F.2.2.2.2.1) v
    refine ⟨_, ?_, k2, k1⟩
    unfold fm_read_b413
    rw [if_neg (by decide), if_pos rfl]
    unfold fm_read_b427
    by_cases c2 : c < 2
    · rw [if_neg (by rw [hb_L2]; exact nI_ge c2 (by decide)), if_pos (And.intro (Or.inr rfl) c2)]
      unfold fm_read_b439 fm_read_b458 fm_read_b478 fm_read_b498 fm_read_b518
      simp only [hb_up_eq, hb_un (show 59 ≠ 56 by decide), hb_un (show 60 ≠ 56 by decide), hb_un (show 60 ≠ 57 by decide), f4, f5, f7]
      rfl
    · rw [if_pos (by rw [hb_L2]; exact nI_le (by omega) (by omega)), if_neg (fun h => c2 h.2)]
      unfold fm_read_b437 fm_read_b439 fm_read_b458 fm_read_b478 fm_read_b498 fm_read_b518
      simp only [hb_up_eq, hb_un (show 59 ≠ 56 by decide), hb_un (show 60 ≠ 56 by decide), hb_un (show 60 ≠ 57 by decide), f4, f5, f7]
      rfl
theorem rm_173 {N fr len : Nat} {σ τ : am_S} {K : Int32 → Int32 → Int32 → am_S → Option (Int32 × am_S)} (hN : 200 ≤ N) (hl : len ≤ 50) (hfr : fr + len ≤ 150) (hrow : σ 103 = τ 103) : ∀ r e q gs σ1, gs.length + r = 4 → r < q → e < 2 ^ 19 → rm_g gs σ1 σ → ∃ σ2, fm_read_b173 N K q (nI fr) (nI len) (nI e) σ1 = fm_read_b529 N K (nI fr) (nI len) (nI (rs_gr (rm_b τ fr) len r e gs).1) (nI (rs_gr (rm_b τ fr) len r e gs).2.length) σ2 ∧ rm_g (rs_gr (rm_b τ fr) len r e gs).2 σ2 σ := by
  intro r
  induction r with
  | zero =>
    intro e q gs σ1 h1 h2 h3 hg
    obtain ⟨q, rfl⟩ : ∃ m, q = m + 1 := ⟨q - 1, by omega⟩
    refine ⟨σ1, ?_, hg⟩
    rw [fm_read_b173, rs_gr]
    unfold fm_read_b231
    rw [hg.2.1]
    by_cases c1 : e < len
    · rw [if_neg (nI_ge c1 (by omega)), if_pos (by rw [hb_L4]; exact nI_le (by omega) (by omega))]
    · rw [if_pos (nI_le (by omega) (by omega))]
  | succ r ih =>
    intro e q gs σ1 h1 h2 h3 hg
    obtain ⟨q, rfl⟩ : ∃ m, q = m + 1 := ⟨q - 1, by omega⟩
    have hrow1 : σ1 103 = τ 103 := by rw [hg.2.2.2.1 103 (by decide) (by decide), hrow]
    rw [fm_read_b173, rs_gr]
    by_cases c1 : e < len
    · have eb : τ 103 (fr + e) = rs_bt (rm_b τ fr) len e := (rs_bt_lt (b := rm_b τ fr) c1).symm
      rw [if_neg (nI_ge c1 (by omega)), hg.2.1, if_neg (by rw [hb_L4]; exact nI_ge (by omega) (by omega)), nI_add, hb_g (by omega) (by decide), nI_clamp (by omega), hrow1, eb, rm_isg hN hg, hb_bind]
      by_cases c : rs_gd (rs_bt (rm_b τ fr) len e) = true ∧ ¬ rs_bt (rm_b τ fr) len e ∈ gs
      · rw [if_pos c, if_neg (by decide), hb_g (by omega) (by decide), hb_g (by omega) (by decide), nI_clamp (by omega), nI_1, nI_1, if_pos c]
        refine ih (e + 1) q _ _ ?_ (by omega) (by omega) (rm_g_add hg (by omega))
        rw [List.length_append, List.length_singleton]; omega
      · rw [if_neg c, if_pos rfl, if_neg c]
        refine ⟨σ1, ?_, hg⟩
        unfold fm_read_b231
        rw [hg.2.1]
    · rw [if_pos (nI_le (by omega) (by omega)), rs_bt_ge c1, if_neg (fun h => absurd h.1 (by decide))]
      refine ⟨σ1, ?_, hg⟩
      unfold fm_read_b231
      rw [hg.2.1]

theorem rm_u {N q fr len a : Nat} {σ τ : am_S} {K : Int32 → Int32 → Int32 → am_S → Option (Int32 × am_S)} (hN : 200 ≤ N) (hq : 200 ≤ q) (hl : len ≤ 50) (hfr : fr + len ≤ 150) (hrow : σ 103 = τ 103) (ha : a < 2 ^ 19) : ∃ (n1 : Nat) (n2 : Int32), ((n1 = 0 ∧ ¬ (rs_dg (rs_bt (rm_b τ fr) len a) = true ∧ ¬ 50 < rs_bt (rm_b τ fr) len a)) ∨ (n1 = 1 ∧ (rs_dg (rs_bt (rm_b τ fr) len a) = true ∧ ¬ 50 < rs_bt (rm_b τ fr) len a) ∧ ¬ (rs_dg (rs_bt (rm_b τ fr) len (a + 1)) = true ∧ ¬ 24 < rs_vl (rm_b τ fr) len 2 a 0)) ∨ (n1 = 2 ∧ (rs_dg (rs_bt (rm_b τ fr) len a) = true ∧ ¬ 50 < rs_bt (rm_b τ fr) len a) ∧ (rs_dg (rs_bt (rm_b τ fr) len (a + 1)) = true ∧ ¬ 24 < rs_vl (rm_b τ fr) len 2 a 0) ∧ n2 = rs_vl (rm_b τ fr) len 2 a 0)) ∧ fm_read_b322 N K q (nI fr) (nI len) (nI a) 117 0 0 2 σ = fm_read_b413 N K (nI fr) (nI len) (nI (a + n1)) 117 (nI n1) n2 σ := by
  obtain ⟨q, rfl⟩ : ∃ m, q = m + 3 := ⟨q - 3, by omega⟩
  rw [fm_read_b322]
  by_cases c1 : a < len
  · have eb : τ 103 (fr + a) = rs_bt (rm_b τ fr) len a := (rs_bt_lt (b := rm_b τ fr) c1).symm
    rw [if_neg (nI_ge c1 (by omega)), if_neg (by decide), nI_add, hb_g (by omega) (by decide), nI_clamp (by omega), hrow, rm_isin, eb]
    by_cases d : rs_dg (rs_bt (rm_b τ fr) len a) = true
    · rw [if_pos d, if_neg (by decide), if_pos rfl, hb_g (by omega) (by decide), if_pos rfl]
      unfold fm_read_b384
      have eq0 : (10 : Int32) * 0 + rs_bt (rm_b τ fr) len a - 48 = rs_bt (rm_b τ fr) len a - 48 := by
        have : (10 : Int32) * 0 = 0 := rfl
        rw [this, Int32.zero_add]
      have h48 : ¬ rs_bt (rm_b τ fr) len a < 48 ∧ ¬ 57 < rs_bt (rm_b τ fr) len a := of_decide_eq_true d
      have i1 : ¬ (rs_bt (rm_b τ fr) len a).toInt < 48 := fun h => h48.1 ((fa_lt _ _).2 h)
      have i2 : ¬ 57 < (rs_bt (rm_b τ fr) len a).toInt := fun h => h48.2 ((fa_lt _ _).2 h)
      have i3 : (rs_bt (rm_b τ fr) len a - 48).toInt = (rs_bt (rm_b τ fr) len a).toInt - 48 := fb_subI (by show (-2147483648 : Int) ≤ (rs_bt (rm_b τ fr) len a).toInt - 48; omega) (by show (rs_bt (rm_b τ fr) len a).toInt - 48 < 2147483648; omega)
      have ec : (2 : Int32) < rs_bt (rm_b τ fr) len a - 48 ↔ 50 < rs_bt (rm_b τ fr) len a := by
        rw [fa_lt, fa_lt, i3]
        show (2 : Int) < _ - 48 ↔ (50 : Int) < _
        omega
      rw [eq0]
      by_cases g : 50 < rs_bt (rm_b τ fr) len a
      · rw [if_pos (ec.2 g)]
        exact ⟨0, 0, Or.inl ⟨rfl, fun h => h.2 g⟩, rfl⟩
      · rw [if_neg (fun h => g (ec.1 h))]
        unfold fm_read_b387
        rw [nI_add, hb_g (by omega) (by decide), nI_clamp (by omega), hrow, eb, eq0, nI_1]
        have z1 : (0 : Int32) + 1 = 1 := rfl
        rw [z1]
        show ∃ (n1 : Nat) (n2 : Int32), _ ∧ fm_read_b322 N K (q + 1 + 1) (nI fr) (nI len) (nI (a + 1)) 117 1 (rs_bt (rm_b τ fr) len a - 48) 2 σ = _
        rw [fm_read_b322]
        have ev : rs_vl (rm_b τ fr) len 2 a 0 = (10 * (rs_bt (rm_b τ fr) len a - 48)) + rs_bt (rm_b τ fr) len (a + 1) - 48 := by
          have z3 : (0 : Int32) * 10 + rs_bt (rm_b τ fr) len a - 48 = rs_bt (rm_b τ fr) len a - 48 := by
            have : (0 : Int32) * 10 = 0 := rfl
            rw [this, Int32.zero_add]
          rw [rs_vl, rs_vl, rs_vl, z3, Int32.mul_comm]
        by_cases c2 : a + 1 < len
        · have eb2 : τ 103 (fr + (a + 1)) = rs_bt (rm_b τ fr) len (a + 1) := (rs_bt_lt (b := rm_b τ fr) c2).symm
          rw [if_neg (nI_ge c2 (by omega)), if_neg (by decide), nI_add, hb_g (by omega) (by decide), nI_clamp (by omega), hrow, rm_isin, eb2]
          by_cases d2 : rs_dg (rs_bt (rm_b τ fr) len (a + 1)) = true
          · rw [if_pos d2, if_neg (by decide), if_pos rfl, hb_g (by omega) (by decide), if_neg (by decide), ← ev]
            unfold fm_read_b384
            by_cases g2 : 24 < rs_vl (rm_b τ fr) len 2 a 0
            · rw [if_pos g2]
              exact ⟨1, _, Or.inr (Or.inl ⟨rfl, ⟨d, g⟩, fun h => h.2 g2⟩), rfl⟩
            · rw [if_neg g2]
              unfold fm_read_b387
              rw [nI_add, hb_g (by omega) (by decide), nI_clamp (by omega), hrow, eb2, ← ev, nI_1]
              have z2 : (1 : Int32) + 1 = 2 := rfl
              rw [z2]
              show ∃ (n1 : Nat) (n2 : Int32), _ ∧ fm_read_b322 N K (q + 1) (nI fr) (nI len) (nI (a + 1 + 1)) 117 2 (rs_vl (rm_b τ fr) len 2 a 0) 2 σ = _
              rw [fm_read_b322]
              refine ⟨2, rs_vl (rm_b τ fr) len 2 a 0, Or.inr (Or.inr ⟨rfl, ⟨d, g⟩, ⟨d2, g2⟩, rfl⟩), ?_⟩
              by_cases c3 : a + 1 + 1 < len
              · rw [if_neg (nI_ge c3 (by omega)), if_pos (by decide)]
                rfl
              · rw [if_pos (nI_le (by omega) (by omega))]
                rfl
          · rw [if_neg d2, if_pos rfl]
            exact ⟨1, _, Or.inr (Or.inl ⟨rfl, ⟨d, g⟩, fun h => d2 h.1⟩), rfl⟩
        · rw [if_pos (nI_le (by omega) (by omega))]
          refine ⟨1, _, Or.inr (Or.inl ⟨rfl, ⟨d, g⟩, fun h => ?_⟩), rfl⟩
          rw [rs_bt_ge c2] at h
          exact absurd h.1 (by decide)
    · rw [if_neg d, if_pos rfl]
      exact ⟨0, 0, Or.inl ⟨rfl, fun h => d h.1⟩, rfl⟩
  · rw [if_pos (nI_le (by omega) (by omega))]
    refine ⟨0, 0, Or.inl ⟨rfl, fun h => ?_⟩, rfl⟩
    rw [rs_bt_ge c1] at h
    exact absurd h.1 (by decide)
/-- what reading from here on comes to -/
def rm_R (τ : am_S) (fr len m a : Nat) (F : rs_F) (x : Option (Int32 × am_S)) : Prop := ∃ σ', x = some ((if (rs_rows (rm_b τ fr) len m a F).1 = true then -1 else nI (rs_rows (rm_b τ fr) len m a F).2.1), σ') ∧ rm_fr σ' τ ∧ ((rs_rows (rm_b τ fr) len m a F).1 = true → rm_F (rs_rows (rm_b τ fr) len m a F).2.2 σ')
theorem rm_fin {N fr len e c m a : Nat} {F F' : rs_F} {σ τ : am_S} {K : Int32 → Int32 → Int32 → am_S → Option (Int32 × am_S)} (hl : len ≤ 50) (hfr : fr + len ≤ 150) (hfs : rm_fr σ τ) (he : e < 2 ^ 20) (hc : c < 2 ^ 20) (ha : a < len) (hK : ∀ e, a < e → e ≤ len → rm_F F' σ → rm_R τ fr len m e F' (K (nI fr) (nI len) (nI e) σ)) (hF' : rm_F F' σ) (hae : a < e) (hs : rs_row (rm_b τ fr) len a F = if c = 0 then (false, e, F) else rs_end (rm_b τ fr) len e F') : rm_R τ fr len (m + 1) a F (fm_read_b529 N K (nI fr) (nI len) (nI e) (nI c) σ) := by
  have hrr : rs_rows (rm_b τ fr) len (m + 1) a F = if (rs_row (rm_b τ fr) len a F).1 = true then rs_rows (rm_b τ fr) len m (rs_row (rm_b τ fr) len a F).2.1 (rs_row (rm_b τ fr) len a F).2.2 else (false, (rs_row (rm_b τ fr) len a F).2.1, F) := by
    rw [rs_rows, if_neg (by omega)]
  unfold rm_R
  rw [rm_529 (τ := τ) hl hfr (hfs.1 103 (by decide) (by decide)) he hc, hrr, hs]
  by_cases c0 : c = 0
  · simp only [if_pos c0]
    exact ⟨σ, rfl, hfs, fun q => Bool.noConfusion q⟩
  · simp only [if_neg c0]
    unfold rs_end
    by_cases q : rs_bt (rm_b τ fr) len e = 59
    · have hel : e < len := by
        refine Classical.byContradiction fun q2 => ?_
        rw [rs_bt_ge q2] at q
        exact absurd q (by decide)
      simp only [if_pos q]
      exact hK (e + 1) (by omega) (by omega) hF'
    · simp only [if_neg q]
      exact ⟨σ, rfl, hfs, fun q => Bool.noConfusion q⟩
theorem rm_rows {N fr len : Nat} {τ : am_S} (hN : 200 ≤ N) (hl : len ≤ 50) (hfr : fr + len ≤ 150) : ∀ m a q F σ, 51 ≤ m + a → a ≤ len → len - a < q → rm_fr σ τ → rm_F F σ → rm_R τ fr len m a F (fm_read_b54 N q (nI fr) (nI len) (nI a) σ) := by
  intro m
  induction m with
  | zero => intro a q F σ h1 h2; omega
  | succ m ih =>
    intro a q F σ h1 h2 h3 h4 hF
    obtain ⟨q, rfl⟩ : ∃ m, q = m + 1 := ⟨q - 1, by omega⟩
    by_cases c1 : a < len
    · have hrow : σ 103 = τ 103 := h4.1 103 (by decide) (by decide)
      have eb : ∀ k, k < len → τ 103 (fr + k) = rs_bt (rm_b τ fr) len k := fun k hk => (rs_bt_lt (b := rm_b τ fr) hk).symm
      have hK : ∀ σ1 F1, rm_fr σ1 τ → ∀ e, a < e → e ≤ len → rm_F F1 σ1 → rm_R τ fr len m e F1 (fm_read_b54 N q (nI fr) (nI len) (nI e) σ1) := fun σ1 F1 hf e he1 he2 hF1 => ih e q F1 σ1 (by omega) he2 (by omega) hf hF1
      rw [fm_read_b54, if_neg (nI_ge c1 (by omega)), nI_add, hb_g (by omega) (by decide), nI_clamp (by omega), hrow, eb a c1, nI_1]
      unfold fm_read_b320
      generalize hb : rs_bt (rm_b τ fr) len a = c at *
      by_cases k99 : c = 99
      · subst k99
        have es : rs_row (rm_b τ fr) len a F = (if rs_nd (rm_b τ fr) len 1 (a + 1) < 1 then (false, a + 1, F) else rs_end (rm_b τ fr) len (a + 1 + 1) (F.1, F.2.1, F.2.2.1, F.2.2.2.1, rs_vl (rm_b τ fr) len 1 (a + 1) 0, F.2.2.2.2.2)) := by
          unfold rs_row
          rw [hb, if_neg (by decide), if_neg (by decide), if_neg (by decide), if_neg (by decide), if_pos rfl]
        have hn := rs_nd_le (b := rm_b τ fr) (len := len) 1 (a + 1)
        rw [if_pos rfl, if_neg (by decide), if_pos rfl, hb_L0, hb_L1, rm_322 (τ := τ) hl hfr hrow (by decide) (by decide) 1 (a + 1) 0 N (nI 0) rfl (by omega) (by omega)]
        obtain ⟨σ1, e1, e2, e3⟩ := rm_413 (N := N) (x2 := nI fr) (x3 := nI len) (x4 := nI (a + 1 + rs_nd (rm_b τ fr) len 1 (a + 1))) (v := rs_vl (rm_b τ fr) len (rs_nd (rm_b τ fr) len 1 (a + 1)) (a + 1) (nI 0)) (c := 0 + rs_nd (rm_b τ fr) len 1 (a + 1)) (K := fun x2 x3 x4 σ => fm_read_b54 N q x2 x3 x4 σ) (by omega) hF (Or.inr (Or.inr (Or.inl rfl)))
        rw [e1]
        refine rm_fin hl hfr (rm_fr_trans e2 h4) (by omega) (by split <;> omega) c1 (hK σ1 _ (rm_fr_trans e2 h4)) e3 (by omega) ?_
        have ec : (if (99 = (115 : Int32) ∨ 99 = (117 : Int32)) ∧ 0 + rs_nd (rm_b τ fr) len 1 (a + 1) < 2 then 0 else 0 + rs_nd (rm_b τ fr) len 1 (a + 1)) = 0 + rs_nd (rm_b τ fr) len 1 (a + 1) := if_neg (fun h => h.1.elim (by decide) (by decide))
        rw [es, ec]
        by_cases z : rs_nd (rm_b τ fr) len 1 (a + 1) < 1
        · have z0 : rs_nd (rm_b τ fr) len 1 (a + 1) = 0 := by omega
          rw [z0]; rfl
        · have z0 : rs_nd (rm_b τ fr) len 1 (a + 1) = 1 := by omega
          rw [z0]; rfl
      · rw [if_neg k99]
        by_cases k100 : c = 100
        · subst k100
          have es : rs_row (rm_b τ fr) len a F = (if rs_bt (rm_b τ fr) len (a + 1) = 108 then rs_end (rm_b τ fr) len (a + 2) (F.1, F.2.1, F.2.2.1, 1, F.2.2.2.2) else if rs_bt (rm_b τ fr) len (a + 1) = 115 then rs_end (rm_b τ fr) len (a + 2) (F.1, F.2.1, F.2.2.1, 0, F.2.2.2.2) else (false, a + 1, F)) := by
            unfold rs_row
            rw [hb, if_neg (by decide), if_neg (by decide), if_neg (by decide), if_pos rfl]
          rw [if_pos rfl]
          by_cases c2 : a + 1 < len
          · rw [if_neg (nI_ge c2 (by omega)), nI_add, hb_g (by omega) (by decide), nI_clamp (by omega), eb _ c2]
            unfold fm_read_b268 fm_read_b285
            rw [nI_add, hb_g (by omega) (by decide), nI_clamp (by omega), hrow, eb _ c2, nI_1, hb_g (by omega) (by decide)]
            by_cases d1 : rs_bt (rm_b τ fr) len (a + 1) = 108
            · simp only [if_pos d1]
              rw [hb_L1]
              refine rm_fin hl hfr (rm_fr_trans (rm_fr_up (by decide)) h4) (by omega) (by omega) c1 (hK _ _ (rm_fr_trans (rm_fr_up (by decide)) h4)) (rm_set58 hF (nI 1)) (by omega) ?_
              rw [es, if_pos d1]; rfl
            · simp only [if_neg d1]
              by_cases d2 : rs_bt (rm_b τ fr) len (a + 1) = 115
              · simp only [if_pos d2]
                rw [hb_L1]
                refine rm_fin hl hfr (rm_fr_trans (rm_fr_up (by decide)) h4) (by omega) (by omega) c1 (hK _ _ (rm_fr_trans (rm_fr_up (by decide)) h4)) (rm_set58 hF 0) (by omega) ?_
                rw [es, if_neg d1, if_pos d2]; rfl
              · simp only [if_neg d2]
                rw [hb_L0]
                refine rm_fin hl hfr h4 (by omega) (by omega) c1 (hK _ _ h4) hF (by omega) ?_
                rw [es, if_neg d1, if_neg d2]; rfl
          · rw [if_pos (nI_le (by omega) (by omega)), hb_L0]
            refine rm_fin hl hfr h4 (by omega) (by omega) c1 (hK _ _ h4) hF (by omega) ?_
            rw [es, rs_bt_ge c2, if_neg (by decide), if_neg (by decide)]; rfl
        · rw [if_neg k100]
          by_cases k107 : c = 107
          · subst k107
            have es : rs_row (rm_b τ fr) len a F = (if rs_nd (rm_b τ fr) len 3 (a + 1) < 1 then (false, a + 1 + rs_nd (rm_b τ fr) len 3 (a + 1), F) else rs_end (rm_b τ fr) len (a + 1 + rs_nd (rm_b τ fr) len 3 (a + 1)) (F.1, rs_vl (rm_b τ fr) len (rs_nd (rm_b τ fr) len 3 (a + 1)) (a + 1) 0, F.2.2)) := by
              unfold rs_row
              rw [hb, if_neg (by decide), if_pos rfl]
            have hn := rs_nd_le (b := rm_b τ fr) (len := len) 3 (a + 1)
            rw [if_pos rfl, if_pos rfl, hb_L0, hb_L3, rm_322 (τ := τ) hl hfr hrow (by decide) (by decide) 3 (a + 1) 0 N (nI 0) rfl (by omega) (by omega)]
            obtain ⟨σ1, e1, e2, e3⟩ := rm_413 (N := N) (x2 := nI fr) (x3 := nI len) (x4 := nI (a + 1 + rs_nd (rm_b τ fr) len 3 (a + 1))) (v := rs_vl (rm_b τ fr) len (rs_nd (rm_b τ fr) len 3 (a + 1)) (a + 1) (nI 0)) (c := 0 + rs_nd (rm_b τ fr) len 3 (a + 1)) (K := fun x2 x3 x4 σ => fm_read_b54 N q x2 x3 x4 σ) (by omega) hF (Or.inl rfl)
            rw [e1]
            refine rm_fin hl hfr (rm_fr_trans e2 h4) (by omega) (by split <;> omega) c1 (hK σ1 _ (rm_fr_trans e2 h4)) e3 (by omega) ?_
            have ec : (if (107 = (115 : Int32) ∨ 107 = (117 : Int32)) ∧ 0 + rs_nd (rm_b τ fr) len 3 (a + 1) < 2 then 0 else 0 + rs_nd (rm_b τ fr) len 3 (a + 1)) = 0 + rs_nd (rm_b τ fr) len 3 (a + 1) := if_neg (fun h => h.1.elim (by decide) (by decide))
            rw [es, ec]
            by_cases z : rs_nd (rm_b τ fr) len 3 (a + 1) < 1
            · rw [if_pos z, if_pos (by omega)]
            · rw [if_neg z, if_neg (by omega)]; rfl
          · rw [if_neg k107]
            by_cases k112 : c = 112
            · subst k112
              have es : rs_row (rm_b τ fr) len a F = (if (rs_gr (rm_b τ fr) len 4 (a + 1) []).2 = [] then (false, a + 1, F) else rs_end (rm_b τ fr) len (rs_gr (rm_b τ fr) len 4 (a + 1) []).1 ((rs_gr (rm_b τ fr) len 4 (a + 1) []).2, F.2)) := by
                unfold rs_row
                rw [hb, if_pos rfl]
              have g0 : rm_g [] (am_up σ 85 55 0) σ := by
                refine ⟨by decide, ?_, fun i hi => absurd hi (Nat.not_lt_zero i), fun c h1 _ => hb_up_ne h1, fun k hk => by rw [hb_up_eq, hb_un hk]⟩
                rw [hb_up_eq, hb_us]; rfl
              rw [if_pos rfl]
              obtain ⟨σ2, hσ2, hg⟩ := rm_173 (N := N) (σ := σ) (τ := τ) (K := fun x2 x3 x4 σ => fm_read_b54 N q x2 x3 x4 σ) hN hl hfr hrow 4 (a + 1) N [] (am_up σ 85 55 0) rfl (by omega) (by omega) g0
              rw [hσ2]
              have hb9 := rs_gr_b (b := rm_b τ fr) (len := len) 4 (a + 1) []
              have hb8 := (rs_gr_le (b := rm_b τ fr) (len := len) 4 (a + 1) []).1
              obtain ⟨g1, g2, g3, g4, g5⟩ := hg
              have hfr2 : rm_fr σ2 τ := rm_fr_trans ⟨g4, fun k hk => g5 k (by omega)⟩ h4
              have hFn : rm_F ((rs_gr (rm_b τ fr) len 4 (a + 1) []).2, F.2) σ2 := by
                obtain ⟨f1, f2, f3, f4, f5, f6, f7, f8⟩ := hF
                exact ⟨g1, g2, g3, by rw [g5 56 (by decide)]; exact f4, by rw [g5 57 (by decide)]; exact f5, by rw [g5 58 (by decide)]; exact f6, by rw [g5 59 (by decide)]; exact f7, by rw [g5 60 (by decide)]; exact f8⟩
              refine rm_fin hl hfr hfr2 (by omega) (by omega) c1 (hK σ2 _ hfr2) hFn (by omega) ?_
              rw [es]
              by_cases z : (rs_gr (rm_b τ fr) len 4 (a + 1) []).2 = []
              · have z1 : (rs_gr (rm_b τ fr) len 4 (a + 1) []).1 = a + 1 := rs_gr_nil z
                rw [if_pos z, if_pos (by rw [z]; rfl), z1]
              · rw [if_neg z, if_neg (fun e => z (List.eq_nil_of_length_eq_zero e))]
            · rw [if_neg k112]
              by_cases k115 : c = 115
              · subst k115
                have es : rs_row (rm_b τ fr) len a F = (if rs_nd (rm_b τ fr) len 2 (a + 1) < 2 then (false, a + 1 + rs_nd (rm_b τ fr) len 2 (a + 1), F) else rs_end (rm_b τ fr) len (a + 1 + 2) (F.1, F.2.1, rs_vl (rm_b τ fr) len 2 (a + 1) 0, F.2.2.2)) := by
                  unfold rs_row
                  rw [hb, if_neg (by decide), if_neg (by decide), if_pos rfl]
                have hn := rs_nd_le (b := rm_b τ fr) (len := len) 2 (a + 1)
                rw [if_pos rfl, if_neg (by decide), if_neg (by decide), hb_L0, hb_L2, rm_322 (τ := τ) hl hfr hrow (by decide) (by decide) 2 (a + 1) 0 N (nI 0) rfl (by omega) (by omega)]
                obtain ⟨σ1, e1, e2, e3⟩ := rm_413 (N := N) (x2 := nI fr) (x3 := nI len) (x4 := nI (a + 1 + rs_nd (rm_b τ fr) len 2 (a + 1))) (v := rs_vl (rm_b τ fr) len (rs_nd (rm_b τ fr) len 2 (a + 1)) (a + 1) (nI 0)) (c := 0 + rs_nd (rm_b τ fr) len 2 (a + 1)) (K := fun x2 x3 x4 σ => fm_read_b54 N q x2 x3 x4 σ) (by omega) hF (Or.inr (Or.inl rfl))
                rw [e1]
                refine rm_fin hl hfr (rm_fr_trans e2 h4) (by omega) (by split <;> omega) c1 (hK σ1 _ (rm_fr_trans e2 h4)) e3 (by omega) ?_
                rw [es]
                by_cases z : rs_nd (rm_b τ fr) len 2 (a + 1) < 2
                · rw [if_pos z, if_pos (show (if (115 = (115 : Int32) ∨ 115 = (117 : Int32)) ∧ 0 + rs_nd (rm_b τ fr) len 2 (a + 1) < 2 then 0 else 0 + rs_nd (rm_b τ fr) len 2 (a + 1)) = 0 by rw [if_pos (And.intro (Or.inl rfl) (by omega))])]
                · have z0 : rs_nd (rm_b τ fr) len 2 (a + 1) = 2 := by omega
                  rw [z0]; rfl
              · rw [if_neg k115]
                by_cases k117 : c = 117
                · subst k117
                  have es : rs_row (rm_b τ fr) len a F = (if rs_dg (rs_bt (rm_b τ fr) len (a + 1)) = true ∧ ¬ 50 < rs_bt (rm_b τ fr) len (a + 1) then (if rs_dg (rs_bt (rm_b τ fr) len (a + 2)) = true ∧ ¬ 24 < rs_vl (rm_b τ fr) len 2 (a + 1) 0 then rs_end (rm_b τ fr) len (a + 3) (F.1, F.2.1, F.2.2.1, F.2.2.2.1, F.2.2.2.2.1, rs_vl (rm_b τ fr) len 2 (a + 1) 0) else (false, a + 2, F)) else (false, a + 1, F)) := by
                    unfold rs_row
                    rw [hb, if_neg (by decide), if_neg (by decide), if_neg (by decide), if_neg (by decide), if_neg (by decide), if_pos rfl]
                  rw [if_pos rfl, if_neg (by decide), if_neg (by decide)]
                  obtain ⟨n1, n2, u0, u1⟩ := rm_u (N := N) (q := N) (σ := σ) (τ := τ) (K := fun x2 x3 x4 σ => fm_read_b54 N q x2 x3 x4 σ) (a := a + 1) hN (by omega) hl hfr hrow (by omega)
                  rw [u1]
                  obtain ⟨σ1, e1, e2, e3⟩ := rm_413 (N := N) (x2 := nI fr) (x3 := nI len) (x4 := nI (a + 1 + n1)) (v := n2) (c := n1) (K := fun x2 x3 x4 σ => fm_read_b54 N q x2 x3 x4 σ) (by omega) hF (Or.inr (Or.inr (Or.inr rfl)))
                  rw [e1]
                  refine rm_fin hl hfr (rm_fr_trans e2 h4) (by omega) (by split <;> omega) c1 (hK σ1 _ (rm_fr_trans e2 h4)) e3 (by omega) ?_
                  rw [es]
                  rcases u0 with ⟨w1, w2⟩ | ⟨w1, w2, w3⟩ | ⟨w1, w2, w3, w4⟩
                  · subst w1
                    rw [if_neg w2]; rfl
                  · subst w1
                    rw [if_pos w2, if_neg w3]; rfl
                  · subst w1
                    rw [if_pos w2, if_pos w3, w4]; rfl
                · rw [if_neg k117]
                  have es : rs_row (rm_b τ fr) len a F = (false, a, F) := by
                    unfold rs_row
                    rw [hb, if_neg k112, if_neg k107, if_neg k115, if_neg k100, if_neg k99, if_neg k117]
                  have hrr : rs_rows (rm_b τ fr) len (m + 1) a F = if (rs_row (rm_b τ fr) len a F).1 = true then rs_rows (rm_b τ fr) len m (rs_row (rm_b τ fr) len a F).2.1 (rs_row (rm_b τ fr) len a F).2.2 else (false, (rs_row (rm_b τ fr) len a F).2.1, F) := by
                    rw [rs_rows, if_neg (by omega)]
                  unfold rm_R
                  rw [hrr, es]
                  refine ⟨σ, ?_, h4, fun q => Bool.noConfusion q⟩
                  rw [hb_L1, pk_sub (by omega)]
                  rfl
    · have hrr : rs_rows (rm_b τ fr) len (m + 1) a F = (true, a, F) := by rw [rs_rows, if_pos (by omega)]
      unfold rm_R
      rw [fm_read_b54, if_pos (nI_le (by omega) (by omega)), hrr]
      exact ⟨σ, rfl, h4, fun _ => hF⟩


def rn_b (τ : am_S) (fr : Nat) : Nat → Int32 := fun k => τ 102 (fr + k)
theorem rn_529 {N fr len e c : Nat} {σ τ : am_S} {K : Int32 → Int32 → Int32 → am_S → Option (Int32 × am_S)} (hl : len ≤ 50) (hfr : fr + len ≤ 50) (hrow : σ 102 = τ 102) (he : e < 2 ^ 20) (hc : c < 2 ^ 20) : fm_read_85_102_b529 N K (nI fr) (nI len) (nI e) (nI c) σ = if c = 0 then some (nI e, σ) else if rs_bt (rn_b τ fr) len e = 59 then K (nI fr) (nI len) (nI (e + 1)) σ else some (nI e, σ) := by
  unfold fm_read_85_102_b529
  by_cases c0 : c = 0
  · subst c0; rw [if_pos rfl, if_pos (show nI 0 = (0 : Int32) from rfl)]
  · rw [if_neg (nI_ne0 (by omega) (by omega)), if_neg c0]
    by_cases q : e < len
    · rw [if_neg (nI_ge q (by omega)), nI_add, hb_g (by omega) (by decide), nI_clamp (by omega), hrow, nI_1, rs_bt_lt q]
      rfl
    · rw [if_pos (nI_le (by omega) (by omega)), rs_bt_ge q, if_neg (by decide)]
theorem rn_322 {N fr len mo : Nat} {L : Int32} {σ τ : am_S} {K : Int32 → Int32 → Int32 → am_S → Option (Int32 × am_S)} (hl : len ≤ 50) (hfr : fr + len ≤ 50) (hrow : σ 102 = τ 102) (hL : ¬ L = 117) (hmo : mo ≤ 3) : ∀ r a c q v, c + r = mo → r < q → a < 2 ^ 20 → fm_read_85_102_b322 N K q (nI fr) (nI len) (nI a) L (nI c) v (nI mo) σ = fm_read_85_102_b413 N K (nI fr) (nI len) (nI (a + rs_nd (rn_b τ fr) len r a)) L (nI (c + rs_nd (rn_b τ fr) len r a)) (rs_vl (rn_b τ fr) len (rs_nd (rn_b τ fr) len r a) a v) σ := by
  intro r
  induction r with
  | zero =>
    intro a c q v h1 h2 h3
    obtain ⟨q, rfl⟩ : ∃ m, q = m + 1 := ⟨q - 1, by omega⟩
    rw [fm_read_85_102_b322, rs_nd, rs_vl]
    by_cases c1 : a < len
    · rw [if_neg (nI_ge c1 (by omega)), if_pos (nI_le (by omega) (by omega))]
      rfl
    · rw [if_pos (nI_le (by omega) (by omega))]
      rfl
  | succ r ih =>
    intro a c q v h1 h2 h3
    obtain ⟨q, rfl⟩ : ∃ m, q = m + 1 := ⟨q - 1, by omega⟩
    rw [fm_read_85_102_b322]
    by_cases c1 : a < len
    · rw [if_neg (nI_ge c1 (by omega)), if_neg (nI_ge (by omega) (by omega)), nI_add, hb_g (by omega) (by decide), nI_clamp (by omega), hrow, rm_isin]
      have eb : τ 102 (fr + a) = rs_bt (rn_b τ fr) len a := (rs_bt_lt (b := rn_b τ fr) c1).symm
      rw [eb]
      by_cases d : rs_dg (rs_bt (rn_b τ fr) len a) = true
      · rw [if_pos d, if_neg (by decide), if_neg hL]
        unfold fm_read_85_102_b387
        rw [nI_add, hb_g (by omega) (by decide), nI_clamp (by omega), hrow, nI_1, nI_1, eb, Int32.mul_comm]
        refine Eq.trans (ih (a + 1) (c + 1) q _ (by omega) (by omega) (by omega)) ?_
        have e1 : rs_nd (rn_b τ fr) len (r + 1) a = rs_nd (rn_b τ fr) len r (a + 1) + 1 := by rw [rs_nd, if_pos d]
        rw [e1, rs_vl, show a + (rs_nd (rn_b τ fr) len r (a + 1) + 1) = a + 1 + rs_nd (rn_b τ fr) len r (a + 1) by omega, show c + (rs_nd (rn_b τ fr) len r (a + 1) + 1) = c + 1 + rs_nd (rn_b τ fr) len r (a + 1) by omega]
      · have e1 : rs_nd (rn_b τ fr) len (r + 1) a = 0 := by rw [rs_nd, if_neg d]
        rw [if_neg d, if_pos rfl, e1]
        rfl
    · have e1 : rs_nd (rn_b τ fr) len (r + 1) a = 0 := by rw [rs_nd, rs_bt_ge c1, if_neg (by decide)]
      rw [if_pos (nI_le (by omega) (by omega)), e1]
      rfl
theorem rn_413 {N : Nat} {x2 x3 x4 L v : Int32} {c : Nat} {F : rs_F} {σ : am_S} {K : Int32 → Int32 → Int32 → am_S → Option (Int32 × am_S)} (hc : c ≤ 3) (hF : rm_F F σ) (hL : L = 107 ∨ L = 115 ∨ L = 99 ∨ L = 117) : ∃ σ', fm_read_85_102_b413 N K x2 x3 x4 L (nI c) v σ = fm_read_85_102_b529 N K x2 x3 x4 (nI (if (L = 115 ∨ L = 117) ∧ c < 2 then 0 else c)) σ' ∧ rm_fr σ' σ ∧ rm_F (F.1, (if L = 107 then v else F.2.1), (if L = 115 then v else F.2.2.1), F.2.2.2.1, (if L = 99 then v else F.2.2.2.2.1), (if L = 117 then v else F.2.2.2.2.2)) σ' := by
  have f := hF
  obtain ⟨f1, f2, f3, f4, f5, f6, f7, f8⟩ := f
  rcases hL with e | e | e | e
  · subst e
    obtain ⟨k1, k2⟩ := rm_set4 hF v (F.2.2.1) (F.2.2.2.2.1) (F.2.2.2.2.2)
    refine ⟨_, ?_, k2, k1⟩
    unfold fm_read_85_102_b413 fm_read_85_102_b437 fm_read_85_102_b439 fm_read_85_102_b458 fm_read_85_102_b478 fm_read_85_102_b498 fm_read_85_102_b518
    simp only [hb_up_eq, hb_un (show 59 ≠ 56 by decide), hb_un (show 60 ≠ 56 by decide), hb_un (show 60 ≠ 57 by decide), f5, f7, f8]
    rfl
  · subst e
    obtain ⟨k1, k2⟩ := rm_set4 hF (F.2.1) v (F.2.2.2.2.1) (F.2.2.2.2.2)
    refine ⟨_, ?_, k2, k1⟩
    unfold fm_read_85_102_b413
    rw [if_pos rfl]
    unfold fm_read_85_102_b427
    by_cases c2 : c < 2
    · rw [if_neg (by rw [hb_L2]; exact nI_ge c2 (by decide)), if_pos (And.intro (Or.inl rfl) c2)]
      unfold fm_read_85_102_b439 fm_read_85_102_b458 fm_read_85_102_b478 fm_read_85_102_b498 fm_read_85_102_b518
      simp only [hb_up_eq, hb_un (show 59 ≠ 56 by decide), hb_un (show 60 ≠ 56 by decide), hb_un (show 60 ≠ 57 by decide), f4, f7, f8]
      rfl
    · rw [if_pos (by rw [hb_L2]; exact nI_le (by omega) (by omega)), if_neg (fun h => c2 h.2)]
      unfold fm_read_85_102_b437 fm_read_85_102_b439 fm_read_85_102_b458 fm_read_85_102_b478 fm_read_85_102_b498 fm_read_85_102_b518
      simp only [hb_up_eq, hb_un (show 59 ≠ 56 by decide), hb_un (show 60 ≠ 56 by decide), hb_un (show 60 ≠ 57 by decide), f4, f7, f8]
      rfl
  · subst e
    obtain ⟨k1, k2⟩ := rm_set4 hF (F.2.1) (F.2.2.1) v (F.2.2.2.2.2)
    refine ⟨_, ?_, k2, k1⟩
    unfold fm_read_85_102_b413 fm_read_85_102_b437 fm_read_85_102_b439 fm_read_85_102_b458 fm_read_85_102_b478 fm_read_85_102_b498 fm_read_85_102_b518
    simp only [hb_up_eq, hb_un (show 59 ≠ 56 by decide), hb_un (show 60 ≠ 56 by decide), hb_un (show 60 ≠ 57 by decide), f4, f5, f8]
    rfl
  · subst e
    obtain ⟨k1, k2⟩ := rm_set4 hF (F.2.1) (F.2.2.1) (F.2.2.2.2.1) v
    refine ⟨_, ?_, k2, k1⟩
    unfold fm_read_85_102_b413
    rw [if_neg (by decide), if_pos rfl]
    unfold fm_read_85_102_b427
    by_cases c2 : c < 2
    · rw [if_neg (by rw [hb_L2]; exact nI_ge c2 (by decide)), if_pos (And.intro (Or.inr rfl) c2)]
      unfold fm_read_85_102_b439 fm_read_85_102_b458 fm_read_85_102_b478 fm_read_85_102_b498 fm_read_85_102_b518
      simp only [hb_up_eq, hb_un (show 59 ≠ 56 by decide), hb_un (show 60 ≠ 56 by decide), hb_un (show 60 ≠ 57 by decide), f4, f5, f7]
      rfl
    · rw [if_pos (by rw [hb_L2]; exact nI_le (by omega) (by omega)), if_neg (fun h => c2 h.2)]
      unfold fm_read_85_102_b437 fm_read_85_102_b439 fm_read_85_102_b458 fm_read_85_102_b478 fm_read_85_102_b498 fm_read_85_102_b518
      simp only [hb_up_eq, hb_un (show 59 ≠ 56 by decide), hb_un (show 60 ≠ 56 by decide), hb_un (show 60 ≠ 57 by decide), f4, f5, f7]
      rfl
theorem rn_173 {N fr len : Nat} {σ τ : am_S} {K : Int32 → Int32 → Int32 → am_S → Option (Int32 × am_S)} (hN : 200 ≤ N) (hl : len ≤ 50) (hfr : fr + len ≤ 50) (hrow : σ 102 = τ 102) : ∀ r e q gs σ1, gs.length + r = 4 → r < q → e < 2 ^ 19 → rm_g gs σ1 σ → ∃ σ2, fm_read_85_102_b173 N K q (nI fr) (nI len) (nI e) σ1 = fm_read_85_102_b529 N K (nI fr) (nI len) (nI (rs_gr (rn_b τ fr) len r e gs).1) (nI (rs_gr (rn_b τ fr) len r e gs).2.length) σ2 ∧ rm_g (rs_gr (rn_b τ fr) len r e gs).2 σ2 σ := by
  intro r
  induction r with
  | zero =>
    intro e q gs σ1 h1 h2 h3 hg
    obtain ⟨q, rfl⟩ : ∃ m, q = m + 1 := ⟨q - 1, by omega⟩
    refine ⟨σ1, ?_, hg⟩
    rw [fm_read_85_102_b173, rs_gr]
    unfold fm_read_85_102_b231
    rw [hg.2.1]
    by_cases c1 : e < len
    · rw [if_neg (nI_ge c1 (by omega)), if_pos (by rw [hb_L4]; exact nI_le (by omega) (by omega))]
    · rw [if_pos (nI_le (by omega) (by omega))]
  | succ r ih =>
    intro e q gs σ1 h1 h2 h3 hg
    obtain ⟨q, rfl⟩ : ∃ m, q = m + 1 := ⟨q - 1, by omega⟩
    have hrow1 : σ1 102 = τ 102 := by rw [hg.2.2.2.1 102 (by decide) (by decide), hrow]
    rw [fm_read_85_102_b173, rs_gr]
    by_cases c1 : e < len
    · have eb : τ 102 (fr + e) = rs_bt (rn_b τ fr) len e := (rs_bt_lt (b := rn_b τ fr) c1).symm
      rw [if_neg (nI_ge c1 (by omega)), hg.2.1, if_neg (by rw [hb_L4]; exact nI_ge (by omega) (by omega)), nI_add, hb_g (by omega) (by decide), nI_clamp (by omega), hrow1, eb, rm_isg hN hg, hb_bind]
      by_cases c : rs_gd (rs_bt (rn_b τ fr) len e) = true ∧ ¬ rs_bt (rn_b τ fr) len e ∈ gs
      · rw [if_pos c, if_neg (by decide), hb_g (by omega) (by decide), hb_g (by omega) (by decide), nI_clamp (by omega), nI_1, nI_1, if_pos c]
        refine ih (e + 1) q _ _ ?_ (by omega) (by omega) (rm_g_add hg (by omega))
        rw [List.length_append, List.length_singleton]; omega
      · rw [if_neg c, if_pos rfl, if_neg c]
        refine ⟨σ1, ?_, hg⟩
        unfold fm_read_85_102_b231
        rw [hg.2.1]
    · rw [if_pos (nI_le (by omega) (by omega)), rs_bt_ge c1, if_neg (fun h => absurd h.1 (by decide))]
      refine ⟨σ1, ?_, hg⟩
      unfold fm_read_85_102_b231
      rw [hg.2.1]

theorem rn_u {N q fr len a : Nat} {σ τ : am_S} {K : Int32 → Int32 → Int32 → am_S → Option (Int32 × am_S)} (hN : 200 ≤ N) (hq : 200 ≤ q) (hl : len ≤ 50) (hfr : fr + len ≤ 50) (hrow : σ 102 = τ 102) (ha : a < 2 ^ 19) : ∃ (n1 : Nat) (n2 : Int32), ((n1 = 0 ∧ ¬ (rs_dg (rs_bt (rn_b τ fr) len a) = true ∧ ¬ 50 < rs_bt (rn_b τ fr) len a)) ∨ (n1 = 1 ∧ (rs_dg (rs_bt (rn_b τ fr) len a) = true ∧ ¬ 50 < rs_bt (rn_b τ fr) len a) ∧ ¬ (rs_dg (rs_bt (rn_b τ fr) len (a + 1)) = true ∧ ¬ 24 < rs_vl (rn_b τ fr) len 2 a 0)) ∨ (n1 = 2 ∧ (rs_dg (rs_bt (rn_b τ fr) len a) = true ∧ ¬ 50 < rs_bt (rn_b τ fr) len a) ∧ (rs_dg (rs_bt (rn_b τ fr) len (a + 1)) = true ∧ ¬ 24 < rs_vl (rn_b τ fr) len 2 a 0) ∧ n2 = rs_vl (rn_b τ fr) len 2 a 0)) ∧ fm_read_85_102_b322 N K q (nI fr) (nI len) (nI a) 117 0 0 2 σ = fm_read_85_102_b413 N K (nI fr) (nI len) (nI (a + n1)) 117 (nI n1) n2 σ := by
  obtain ⟨q, rfl⟩ : ∃ m, q = m + 3 := ⟨q - 3, by omega⟩
  rw [fm_read_85_102_b322]
  by_cases c1 : a < len
  · have eb : τ 102 (fr + a) = rs_bt (rn_b τ fr) len a := (rs_bt_lt (b := rn_b τ fr) c1).symm
    rw [if_neg (nI_ge c1 (by omega)), if_neg (by decide), nI_add, hb_g (by omega) (by decide), nI_clamp (by omega), hrow, rm_isin, eb]
    by_cases d : rs_dg (rs_bt (rn_b τ fr) len a) = true
    · rw [if_pos d, if_neg (by decide), if_pos rfl, hb_g (by omega) (by decide), if_pos rfl]
      unfold fm_read_85_102_b384
      have eq0 : (10 : Int32) * 0 + rs_bt (rn_b τ fr) len a - 48 = rs_bt (rn_b τ fr) len a - 48 := by
        have : (10 : Int32) * 0 = 0 := rfl
        rw [this, Int32.zero_add]
      have h48 : ¬ rs_bt (rn_b τ fr) len a < 48 ∧ ¬ 57 < rs_bt (rn_b τ fr) len a := of_decide_eq_true d
      have i1 : ¬ (rs_bt (rn_b τ fr) len a).toInt < 48 := fun h => h48.1 ((fa_lt _ _).2 h)
      have i2 : ¬ 57 < (rs_bt (rn_b τ fr) len a).toInt := fun h => h48.2 ((fa_lt _ _).2 h)
      have i3 : (rs_bt (rn_b τ fr) len a - 48).toInt = (rs_bt (rn_b τ fr) len a).toInt - 48 := fb_subI (by show (-2147483648 : Int) ≤ (rs_bt (rn_b τ fr) len a).toInt - 48; omega) (by show (rs_bt (rn_b τ fr) len a).toInt - 48 < 2147483648; omega)
      have ec : (2 : Int32) < rs_bt (rn_b τ fr) len a - 48 ↔ 50 < rs_bt (rn_b τ fr) len a := by
        rw [fa_lt, fa_lt, i3]
        show (2 : Int) < _ - 48 ↔ (50 : Int) < _
        omega
      rw [eq0]
      by_cases g : 50 < rs_bt (rn_b τ fr) len a
      · rw [if_pos (ec.2 g)]
        exact ⟨0, 0, Or.inl ⟨rfl, fun h => h.2 g⟩, rfl⟩
      · rw [if_neg (fun h => g (ec.1 h))]
        unfold fm_read_85_102_b387
        rw [nI_add, hb_g (by omega) (by decide), nI_clamp (by omega), hrow, eb, eq0, nI_1]
        have z1 : (0 : Int32) + 1 = 1 := rfl
        rw [z1]
        show ∃ (n1 : Nat) (n2 : Int32), _ ∧ fm_read_85_102_b322 N K (q + 1 + 1) (nI fr) (nI len) (nI (a + 1)) 117 1 (rs_bt (rn_b τ fr) len a - 48) 2 σ = _
        rw [fm_read_85_102_b322]
        have ev : rs_vl (rn_b τ fr) len 2 a 0 = (10 * (rs_bt (rn_b τ fr) len a - 48)) + rs_bt (rn_b τ fr) len (a + 1) - 48 := by
          have z3 : (0 : Int32) * 10 + rs_bt (rn_b τ fr) len a - 48 = rs_bt (rn_b τ fr) len a - 48 := by
            have : (0 : Int32) * 10 = 0 := rfl
            rw [this, Int32.zero_add]
          rw [rs_vl, rs_vl, rs_vl, z3, Int32.mul_comm]
        by_cases c2 : a + 1 < len
        · have eb2 : τ 102 (fr + (a + 1)) = rs_bt (rn_b τ fr) len (a + 1) := (rs_bt_lt (b := rn_b τ fr) c2).symm
          rw [if_neg (nI_ge c2 (by omega)), if_neg (by decide), nI_add, hb_g (by omega) (by decide), nI_clamp (by omega), hrow, rm_isin, eb2]
          by_cases d2 : rs_dg (rs_bt (rn_b τ fr) len (a + 1)) = true
          · rw [if_pos d2, if_neg (by decide), if_pos rfl, hb_g (by omega) (by decide), if_neg (by decide), ← ev]
            unfold fm_read_85_102_b384
            by_cases g2 : 24 < rs_vl (rn_b τ fr) len 2 a 0
            · rw [if_pos g2]
              exact ⟨1, _, Or.inr (Or.inl ⟨rfl, ⟨d, g⟩, fun h => h.2 g2⟩), rfl⟩
            · rw [if_neg g2]
              unfold fm_read_85_102_b387
              rw [nI_add, hb_g (by omega) (by decide), nI_clamp (by omega), hrow, eb2, ← ev, nI_1]
              have z2 : (1 : Int32) + 1 = 2 := rfl
              rw [z2]
              show ∃ (n1 : Nat) (n2 : Int32), _ ∧ fm_read_85_102_b322 N K (q + 1) (nI fr) (nI len) (nI (a + 1 + 1)) 117 2 (rs_vl (rn_b τ fr) len 2 a 0) 2 σ = _
              rw [fm_read_85_102_b322]
              refine ⟨2, rs_vl (rn_b τ fr) len 2 a 0, Or.inr (Or.inr ⟨rfl, ⟨d, g⟩, ⟨d2, g2⟩, rfl⟩), ?_⟩
              by_cases c3 : a + 1 + 1 < len
              · rw [if_neg (nI_ge c3 (by omega)), if_pos (by decide)]
                rfl
              · rw [if_pos (nI_le (by omega) (by omega))]
                rfl
          · rw [if_neg d2, if_pos rfl]
            exact ⟨1, _, Or.inr (Or.inl ⟨rfl, ⟨d, g⟩, fun h => d2 h.1⟩), rfl⟩
        · rw [if_pos (nI_le (by omega) (by omega))]
          refine ⟨1, _, Or.inr (Or.inl ⟨rfl, ⟨d, g⟩, fun h => ?_⟩), rfl⟩
          rw [rs_bt_ge c2] at h
          exact absurd h.1 (by decide)
    · rw [if_neg d, if_pos rfl]
      exact ⟨0, 0, Or.inl ⟨rfl, fun h => d h.1⟩, rfl⟩
  · rw [if_pos (nI_le (by omega) (by omega))]
    refine ⟨0, 0, Or.inl ⟨rfl, fun h => ?_⟩, rfl⟩
    rw [rs_bt_ge c1] at h
    exact absurd h.1 (by decide)
/-- what reading from here on comes to -/
def rn_R (τ : am_S) (fr len m a : Nat) (F : rs_F) (x : Option (Int32 × am_S)) : Prop := ∃ σ', x = some ((if (rs_rows (rn_b τ fr) len m a F).1 = true then -1 else nI (rs_rows (rn_b τ fr) len m a F).2.1), σ') ∧ rm_fr σ' τ ∧ ((rs_rows (rn_b τ fr) len m a F).1 = true → rm_F (rs_rows (rn_b τ fr) len m a F).2.2 σ')
theorem rn_fin {N fr len e c m a : Nat} {F F' : rs_F} {σ τ : am_S} {K : Int32 → Int32 → Int32 → am_S → Option (Int32 × am_S)} (hl : len ≤ 50) (hfr : fr + len ≤ 50) (hfs : rm_fr σ τ) (he : e < 2 ^ 20) (hc : c < 2 ^ 20) (ha : a < len) (hK : ∀ e, a < e → e ≤ len → rm_F F' σ → rn_R τ fr len m e F' (K (nI fr) (nI len) (nI e) σ)) (hF' : rm_F F' σ) (hae : a < e) (hs : rs_row (rn_b τ fr) len a F = if c = 0 then (false, e, F) else rs_end (rn_b τ fr) len e F') : rn_R τ fr len (m + 1) a F (fm_read_85_102_b529 N K (nI fr) (nI len) (nI e) (nI c) σ) := by
  have hrr : rs_rows (rn_b τ fr) len (m + 1) a F = if (rs_row (rn_b τ fr) len a F).1 = true then rs_rows (rn_b τ fr) len m (rs_row (rn_b τ fr) len a F).2.1 (rs_row (rn_b τ fr) len a F).2.2 else (false, (rs_row (rn_b τ fr) len a F).2.1, F) := by
    rw [rs_rows, if_neg (by omega)]
  unfold rn_R
  rw [rn_529 (τ := τ) hl hfr (hfs.1 102 (by decide) (by decide)) he hc, hrr, hs]
  by_cases c0 : c = 0
  · simp only [if_pos c0]
    exact ⟨σ, rfl, hfs, fun q => Bool.noConfusion q⟩
  · simp only [if_neg c0]
    unfold rs_end
    by_cases q : rs_bt (rn_b τ fr) len e = 59
    · have hel : e < len := by
        refine Classical.byContradiction fun q2 => ?_
        rw [rs_bt_ge q2] at q
        exact absurd q (by decide)
      simp only [if_pos q]
      exact hK (e + 1) (by omega) (by omega) hF'
    · simp only [if_neg q]
      exact ⟨σ, rfl, hfs, fun q => Bool.noConfusion q⟩
theorem rn_rows {N fr len : Nat} {τ : am_S} (hN : 200 ≤ N) (hl : len ≤ 50) (hfr : fr + len ≤ 50) : ∀ m a q F σ, 51 ≤ m + a → a ≤ len → len - a < q → rm_fr σ τ → rm_F F σ → rn_R τ fr len m a F (fm_read_85_102_b54 N q (nI fr) (nI len) (nI a) σ) := by
  intro m
  induction m with
  | zero => intro a q F σ h1 h2; omega
  | succ m ih =>
    intro a q F σ h1 h2 h3 h4 hF
    obtain ⟨q, rfl⟩ : ∃ m, q = m + 1 := ⟨q - 1, by omega⟩
    by_cases c1 : a < len
    · have hrow : σ 102 = τ 102 := h4.1 102 (by decide) (by decide)
      have eb : ∀ k, k < len → τ 102 (fr + k) = rs_bt (rn_b τ fr) len k := fun k hk => (rs_bt_lt (b := rn_b τ fr) hk).symm
      have hK : ∀ σ1 F1, rm_fr σ1 τ → ∀ e, a < e → e ≤ len → rm_F F1 σ1 → rn_R τ fr len m e F1 (fm_read_85_102_b54 N q (nI fr) (nI len) (nI e) σ1) := fun σ1 F1 hf e he1 he2 hF1 => ih e q F1 σ1 (by omega) he2 (by omega) hf hF1
      rw [fm_read_85_102_b54, if_neg (nI_ge c1 (by omega)), nI_add, hb_g (by omega) (by decide), nI_clamp (by omega), hrow, eb a c1, nI_1]
      unfold fm_read_85_102_b320
      generalize hb : rs_bt (rn_b τ fr) len a = c at *
      by_cases k99 : c = 99
      · subst k99
        have es : rs_row (rn_b τ fr) len a F = (if rs_nd (rn_b τ fr) len 1 (a + 1) < 1 then (false, a + 1, F) else rs_end (rn_b τ fr) len (a + 1 + 1) (F.1, F.2.1, F.2.2.1, F.2.2.2.1, rs_vl (rn_b τ fr) len 1 (a + 1) 0, F.2.2.2.2.2)) := by
          unfold rs_row
          rw [hb, if_neg (by decide), if_neg (by decide), if_neg (by decide), if_neg (by decide), if_pos rfl]
        have hn := rs_nd_le (b := rn_b τ fr) (len := len) 1 (a + 1)
        rw [if_pos rfl, if_neg (by decide), if_pos rfl, hb_L0, hb_L1, rn_322 (τ := τ) hl hfr hrow (by decide) (by decide) 1 (a + 1) 0 N (nI 0) rfl (by omega) (by omega)]
        obtain ⟨σ1, e1, e2, e3⟩ := rn_413 (N := N) (x2 := nI fr) (x3 := nI len) (x4 := nI (a + 1 + rs_nd (rn_b τ fr) len 1 (a + 1))) (v := rs_vl (rn_b τ fr) len (rs_nd (rn_b τ fr) len 1 (a + 1)) (a + 1) (nI 0)) (c := 0 + rs_nd (rn_b τ fr) len 1 (a + 1)) (K := fun x2 x3 x4 σ => fm_read_85_102_b54 N q x2 x3 x4 σ) (by omega) hF (Or.inr (Or.inr (Or.inl rfl)))
        rw [e1]
        refine rn_fin hl hfr (rm_fr_trans e2 h4) (by omega) (by split <;> omega) c1 (hK σ1 _ (rm_fr_trans e2 h4)) e3 (by omega) ?_
        have ec : (if (99 = (115 : Int32) ∨ 99 = (117 : Int32)) ∧ 0 + rs_nd (rn_b τ fr) len 1 (a + 1) < 2 then 0 else 0 + rs_nd (rn_b τ fr) len 1 (a + 1)) = 0 + rs_nd (rn_b τ fr) len 1 (a + 1) := if_neg (fun h => h.1.elim (by decide) (by decide))
        rw [es, ec]
        by_cases z : rs_nd (rn_b τ fr) len 1 (a + 1) < 1
        · have z0 : rs_nd (rn_b τ fr) len 1 (a + 1) = 0 := by omega
          rw [z0]; rfl
        · have z0 : rs_nd (rn_b τ fr) len 1 (a + 1) = 1 := by omega
          rw [z0]; rfl
      · rw [if_neg k99]
        by_cases k100 : c = 100
        · subst k100
          have es : rs_row (rn_b τ fr) len a F = (if rs_bt (rn_b τ fr) len (a + 1) = 108 then rs_end (rn_b τ fr) len (a + 2) (F.1, F.2.1, F.2.2.1, 1, F.2.2.2.2) else if rs_bt (rn_b τ fr) len (a + 1) = 115 then rs_end (rn_b τ fr) len (a + 2) (F.1, F.2.1, F.2.2.1, 0, F.2.2.2.2) else (false, a + 1, F)) := by
            unfold rs_row
            rw [hb, if_neg (by decide), if_neg (by decide), if_neg (by decide), if_pos rfl]
          rw [if_pos rfl]
          by_cases c2 : a + 1 < len
          · rw [if_neg (nI_ge c2 (by omega)), nI_add, hb_g (by omega) (by decide), nI_clamp (by omega), eb _ c2]
            unfold fm_read_85_102_b268 fm_read_85_102_b285
            rw [nI_add, hb_g (by omega) (by decide), nI_clamp (by omega), hrow, eb _ c2, nI_1, hb_g (by omega) (by decide)]
            by_cases d1 : rs_bt (rn_b τ fr) len (a + 1) = 108
            · simp only [if_pos d1]
              rw [hb_L1]
              refine rn_fin hl hfr (rm_fr_trans (rm_fr_up (by decide)) h4) (by omega) (by omega) c1 (hK _ _ (rm_fr_trans (rm_fr_up (by decide)) h4)) (rm_set58 hF (nI 1)) (by omega) ?_
              rw [es, if_pos d1]; rfl
            · simp only [if_neg d1]
              by_cases d2 : rs_bt (rn_b τ fr) len (a + 1) = 115
              · simp only [if_pos d2]
                rw [hb_L1]
                refine rn_fin hl hfr (rm_fr_trans (rm_fr_up (by decide)) h4) (by omega) (by omega) c1 (hK _ _ (rm_fr_trans (rm_fr_up (by decide)) h4)) (rm_set58 hF 0) (by omega) ?_
                rw [es, if_neg d1, if_pos d2]; rfl
              · simp only [if_neg d2]
                rw [hb_L0]
                refine rn_fin hl hfr h4 (by omega) (by omega) c1 (hK _ _ h4) hF (by omega) ?_
                rw [es, if_neg d1, if_neg d2]; rfl
          · rw [if_pos (nI_le (by omega) (by omega)), hb_L0]
            refine rn_fin hl hfr h4 (by omega) (by omega) c1 (hK _ _ h4) hF (by omega) ?_
            rw [es, rs_bt_ge c2, if_neg (by decide), if_neg (by decide)]; rfl
        · rw [if_neg k100]
          by_cases k107 : c = 107
          · subst k107
            have es : rs_row (rn_b τ fr) len a F = (if rs_nd (rn_b τ fr) len 3 (a + 1) < 1 then (false, a + 1 + rs_nd (rn_b τ fr) len 3 (a + 1), F) else rs_end (rn_b τ fr) len (a + 1 + rs_nd (rn_b τ fr) len 3 (a + 1)) (F.1, rs_vl (rn_b τ fr) len (rs_nd (rn_b τ fr) len 3 (a + 1)) (a + 1) 0, F.2.2)) := by
              unfold rs_row
              rw [hb, if_neg (by decide), if_pos rfl]
            have hn := rs_nd_le (b := rn_b τ fr) (len := len) 3 (a + 1)
            rw [if_pos rfl, if_pos rfl, hb_L0, hb_L3, rn_322 (τ := τ) hl hfr hrow (by decide) (by decide) 3 (a + 1) 0 N (nI 0) rfl (by omega) (by omega)]
            obtain ⟨σ1, e1, e2, e3⟩ := rn_413 (N := N) (x2 := nI fr) (x3 := nI len) (x4 := nI (a + 1 + rs_nd (rn_b τ fr) len 3 (a + 1))) (v := rs_vl (rn_b τ fr) len (rs_nd (rn_b τ fr) len 3 (a + 1)) (a + 1) (nI 0)) (c := 0 + rs_nd (rn_b τ fr) len 3 (a + 1)) (K := fun x2 x3 x4 σ => fm_read_85_102_b54 N q x2 x3 x4 σ) (by omega) hF (Or.inl rfl)
            rw [e1]
            refine rn_fin hl hfr (rm_fr_trans e2 h4) (by omega) (by split <;> omega) c1 (hK σ1 _ (rm_fr_trans e2 h4)) e3 (by omega) ?_
            have ec : (if (107 = (115 : Int32) ∨ 107 = (117 : Int32)) ∧ 0 + rs_nd (rn_b τ fr) len 3 (a + 1) < 2 then 0 else 0 + rs_nd (rn_b τ fr) len 3 (a + 1)) = 0 + rs_nd (rn_b τ fr) len 3 (a + 1) := if_neg (fun h => h.1.elim (by decide) (by decide))
            rw [es, ec]
            by_cases z : rs_nd (rn_b τ fr) len 3 (a + 1) < 1
            · rw [if_pos z, if_pos (by omega)]
            · rw [if_neg z, if_neg (by omega)]; rfl
          · rw [if_neg k107]
            by_cases k112 : c = 112
            · subst k112
              have es : rs_row (rn_b τ fr) len a F = (if (rs_gr (rn_b τ fr) len 4 (a + 1) []).2 = [] then (false, a + 1, F) else rs_end (rn_b τ fr) len (rs_gr (rn_b τ fr) len 4 (a + 1) []).1 ((rs_gr (rn_b τ fr) len 4 (a + 1) []).2, F.2)) := by
                unfold rs_row
                rw [hb, if_pos rfl]
              have g0 : rm_g [] (am_up σ 85 55 0) σ := by
                refine ⟨by decide, ?_, fun i hi => absurd hi (Nat.not_lt_zero i), fun c h1 _ => hb_up_ne h1, fun k hk => by rw [hb_up_eq, hb_un hk]⟩
                rw [hb_up_eq, hb_us]; rfl
              rw [if_pos rfl]
              obtain ⟨σ2, hσ2, hg⟩ := rn_173 (N := N) (σ := σ) (τ := τ) (K := fun x2 x3 x4 σ => fm_read_85_102_b54 N q x2 x3 x4 σ) hN hl hfr hrow 4 (a + 1) N [] (am_up σ 85 55 0) rfl (by omega) (by omega) g0
              rw [hσ2]
              have hb9 := rs_gr_b (b := rn_b τ fr) (len := len) 4 (a + 1) []
              have hb8 := (rs_gr_le (b := rn_b τ fr) (len := len) 4 (a + 1) []).1
              obtain ⟨g1, g2, g3, g4, g5⟩ := hg
              have hfr2 : rm_fr σ2 τ := rm_fr_trans ⟨g4, fun k hk => g5 k (by omega)⟩ h4
              have hFn : rm_F ((rs_gr (rn_b τ fr) len 4 (a + 1) []).2, F.2) σ2 := by
                obtain ⟨f1, f2, f3, f4, f5, f6, f7, f8⟩ := hF
                exact ⟨g1, g2, g3, by rw [g5 56 (by decide)]; exact f4, by rw [g5 57 (by decide)]; exact f5, by rw [g5 58 (by decide)]; exact f6, by rw [g5 59 (by decide)]; exact f7, by rw [g5 60 (by decide)]; exact f8⟩
              refine rn_fin hl hfr hfr2 (by omega) (by omega) c1 (hK σ2 _ hfr2) hFn (by omega) ?_
              rw [es]
              by_cases z : (rs_gr (rn_b τ fr) len 4 (a + 1) []).2 = []
              · have z1 : (rs_gr (rn_b τ fr) len 4 (a + 1) []).1 = a + 1 := rs_gr_nil z
                rw [if_pos z, if_pos (by rw [z]; rfl), z1]
              · rw [if_neg z, if_neg (fun e => z (List.eq_nil_of_length_eq_zero e))]
            · rw [if_neg k112]
              by_cases k115 : c = 115
              · subst k115
                have es : rs_row (rn_b τ fr) len a F = (if rs_nd (rn_b τ fr) len 2 (a + 1) < 2 then (false, a + 1 + rs_nd (rn_b τ fr) len 2 (a + 1), F) else rs_end (rn_b τ fr) len (a + 1 + 2) (F.1, F.2.1, rs_vl (rn_b τ fr) len 2 (a + 1) 0, F.2.2.2)) := by
                  unfold rs_row
                  rw [hb, if_neg (by decide), if_neg (by decide), if_pos rfl]
                have hn := rs_nd_le (b := rn_b τ fr) (len := len) 2 (a + 1)
                rw [if_pos rfl, if_neg (by decide), if_neg (by decide), hb_L0, hb_L2, rn_322 (τ := τ) hl hfr hrow (by decide) (by decide) 2 (a + 1) 0 N (nI 0) rfl (by omega) (by omega)]
                obtain ⟨σ1, e1, e2, e3⟩ := rn_413 (N := N) (x2 := nI fr) (x3 := nI len) (x4 := nI (a + 1 + rs_nd (rn_b τ fr) len 2 (a + 1))) (v := rs_vl (rn_b τ fr) len (rs_nd (rn_b τ fr) len 2 (a + 1)) (a + 1) (nI 0)) (c := 0 + rs_nd (rn_b τ fr) len 2 (a + 1)) (K := fun x2 x3 x4 σ => fm_read_85_102_b54 N q x2 x3 x4 σ) (by omega) hF (Or.inr (Or.inl rfl))
                rw [e1]
                refine rn_fin hl hfr (rm_fr_trans e2 h4) (by omega) (by split <;> omega) c1 (hK σ1 _ (rm_fr_trans e2 h4)) e3 (by omega) ?_
                rw [es]
                by_cases z : rs_nd (rn_b τ fr) len 2 (a + 1) < 2
                · rw [if_pos z, if_pos (show (if (115 = (115 : Int32) ∨ 115 = (117 : Int32)) ∧ 0 + rs_nd (rn_b τ fr) len 2 (a + 1) < 2 then 0 else 0 + rs_nd (rn_b τ fr) len 2 (a + 1)) = 0 by rw [if_pos (And.intro (Or.inl rfl) (by omega))])]
                · have z0 : rs_nd (rn_b τ fr) len 2 (a + 1) = 2 := by omega
                  rw [z0]; rfl
              · rw [if_neg k115]
                by_cases k117 : c = 117
                · subst k117
                  have es : rs_row (rn_b τ fr) len a F = (if rs_dg (rs_bt (rn_b τ fr) len (a + 1)) = true ∧ ¬ 50 < rs_bt (rn_b τ fr) len (a + 1) then (if rs_dg (rs_bt (rn_b τ fr) len (a + 2)) = true ∧ ¬ 24 < rs_vl (rn_b τ fr) len 2 (a + 1) 0 then rs_end (rn_b τ fr) len (a + 3) (F.1, F.2.1, F.2.2.1, F.2.2.2.1, F.2.2.2.2.1, rs_vl (rn_b τ fr) len 2 (a + 1) 0) else (false, a + 2, F)) else (false, a + 1, F)) := by
                    unfold rs_row
                    rw [hb, if_neg (by decide), if_neg (by decide), if_neg (by decide), if_neg (by decide), if_neg (by decide), if_pos rfl]
                  rw [if_pos rfl, if_neg (by decide), if_neg (by decide)]
                  obtain ⟨n1, n2, u0, u1⟩ := rn_u (N := N) (q := N) (σ := σ) (τ := τ) (K := fun x2 x3 x4 σ => fm_read_85_102_b54 N q x2 x3 x4 σ) (a := a + 1) hN (by omega) hl hfr hrow (by omega)
                  rw [u1]
                  obtain ⟨σ1, e1, e2, e3⟩ := rn_413 (N := N) (x2 := nI fr) (x3 := nI len) (x4 := nI (a + 1 + n1)) (v := n2) (c := n1) (K := fun x2 x3 x4 σ => fm_read_85_102_b54 N q x2 x3 x4 σ) (by omega) hF (Or.inr (Or.inr (Or.inr rfl)))
                  rw [e1]
                  refine rn_fin hl hfr (rm_fr_trans e2 h4) (by omega) (by split <;> omega) c1 (hK σ1 _ (rm_fr_trans e2 h4)) e3 (by omega) ?_
                  rw [es]
                  rcases u0 with ⟨w1, w2⟩ | ⟨w1, w2, w3⟩ | ⟨w1, w2, w3, w4⟩
                  · subst w1
                    rw [if_neg w2]; rfl
                  · subst w1
                    rw [if_pos w2, if_neg w3]; rfl
                  · subst w1
                    rw [if_pos w2, if_pos w3, w4]; rfl
                · rw [if_neg k117]
                  have es : rs_row (rn_b τ fr) len a F = (false, a, F) := by
                    unfold rs_row
                    rw [hb, if_neg k112, if_neg k107, if_neg k115, if_neg k100, if_neg k99, if_neg k117]
                  have hrr : rs_rows (rn_b τ fr) len (m + 1) a F = if (rs_row (rn_b τ fr) len a F).1 = true then rs_rows (rn_b τ fr) len m (rs_row (rn_b τ fr) len a F).2.1 (rs_row (rn_b τ fr) len a F).2.2 else (false, (rs_row (rn_b τ fr) len a F).2.1, F) := by
                    rw [rs_rows, if_neg (by omega)]
                  unfold rn_R
                  rw [hrr, es]
                  refine ⟨σ, ?_, h4, fun q => Bool.noConfusion q⟩
                  rw [hb_L1, pk_sub (by omega)]
                  rfl
    · have hrr : rs_rows (rn_b τ fr) len (m + 1) a F = (true, a, F) := by rw [rs_rows, if_pos (by omega)]
      unfold rn_R
      rw [fm_read_85_102_b54, if_pos (nI_le (by omega) (by omega)), hrr]
      exact ⟨σ, rfl, h4, fun _ => hF⟩

