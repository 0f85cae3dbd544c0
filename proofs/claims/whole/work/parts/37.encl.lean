/-! ===== sets as bits; what is reached over edges of one side ===== -/
theorem eb_sl : ∀ n, n < 32 → ((nI n &&& 31).toBitVec.smod 32).toNat = n := by decide
theorem eb_sh {i : Nat} (h : i < 31) : (1 : Int32) <<< (nI i &&& 31) = nI (2 ^ i) := by
  have a := pk_shlN (n := 1) (nI i &&& 31) i (eb_sl i (by omega)) (by
    have : 2 ^ i < 2 ^ 31 := Nat.pow_lt_pow_right (by decide) h
    omega)
  rw [Nat.one_mul] at a
  exact a
theorem eb_bit {m i : Nat} (hm : m < 2 ^ 31) (h : i < 31) : (nI m >>> (nI i &&& 31)) &&& 1 = nI (if m.testBit i = true then 1 else 0) := by
  rw [pk_shrN hm (nI i &&& 31) i (eb_sl i (by omega))]
  have a := fa_mask (m / 2 ^ i) 1
  have e : nI (2 ^ 1 - 1) = (1 : Int32) := rfl
  rw [e] at a
  rw [a, Nat.testBit_eq_decide_div_mod_eq]
  have : m / 2 ^ i % 2 ^ 1 = m / 2 ^ i % 2 := rfl
  rw [this]
  by_cases q : m / 2 ^ i % 2 = 1
  · rw [if_pos (decide_eq_true q), q]
  · rw [if_neg (by rw [decide_eq_true_eq]; exact q)]
    have : m / 2 ^ i % 2 = 0 := by omega
    rw [this]
theorem eb_sub {a b : Nat} : nI b &&& (nI a ^^^ (-1)) = 0 ↔ ∀ j, j < 32 → b.testBit j = true → a.testBit j = true := by
  have e1 : (nI b &&& (nI a ^^^ (-1)) = 0) ↔ (BitVec.ofNat 32 b &&& (BitVec.ofNat 32 a ^^^ BitVec.allOnes 32) = 0#32) := by
    rw [← Int32.toBitVec_inj]
    exact Iff.rfl
  rw [e1]
  constructor
  · intro h j hj hb
    have q : (BitVec.ofNat 32 b &&& (BitVec.ofNat 32 a ^^^ BitVec.allOnes 32)).getLsbD j = (0#32).getLsbD j := by rw [h]
    rw [BitVec.getLsbD_and, BitVec.getLsbD_xor, BitVec.getLsbD_ofNat, BitVec.getLsbD_ofNat, BitVec.getLsbD_allOnes, BitVec.getLsbD_zero, hb, decide_eq_true hj] at q
    cases ha : a.testBit j
    · rw [ha] at q; exact absurd q (by decide)
    · rfl
  · intro h
    apply BitVec.eq_of_getLsbD_eq
    intro j hj
    rw [BitVec.getLsbD_and, BitVec.getLsbD_xor, BitVec.getLsbD_ofNat, BitVec.getLsbD_ofNat, BitVec.getLsbD_allOnes, BitVec.getLsbD_zero, decide_eq_true hj]
    cases hb : b.testBit j
    · rfl
    · rw [h j hj hb]; rfl
def cl_st (ea eb : Nat → Nat) (al : Nat → Bool) (k S : Nat) : Nat := if al k = true ∧ (S.testBit (ea k) = true ∨ S.testBit (eb k) = true) then S ||| (2 ^ ea k ||| 2 ^ eb k) else S
def cl_rd (ea eb : Nat → Nat) (al : Nat → Bool) : Nat → Nat → Nat
  | 0, S => S
  | k + 1, S => cl_st ea eb al k (cl_rd ea eb al k S)
def cl_it (e : Nat) (ea eb : Nat → Nat) (al : Nat → Bool) : Nat → Nat → Nat
  | 0, S => S
  | r + 1, S => cl_rd ea eb al e (cl_it e ea eb al r S)
theorem cl_st_sub {ea eb : Nat → Nat} {al : Nat → Bool} {k S i : Nat} (h : S.testBit i = true) : (cl_st ea eb al k S).testBit i = true := by
  unfold cl_st
  split
  · rw [Nat.testBit_or, h]; rfl
  · exact h
theorem cl_rd_sub {ea eb : Nat → Nat} {al : Nat → Bool} {S i : Nat} (h : S.testBit i = true) : ∀ m, (cl_rd ea eb al m S).testBit i = true
  | 0 => h
  | m + 1 => cl_st_sub (cl_rd_sub h m)
theorem cl_st_hi {n k : Nat} {ea eb : Nat → Nat} {al : Nat → Bool} {S i : Nat} (ha : ea k < n) (hb : eb k < n) (hi : n ≤ i) (h : S.testBit i = false) : (cl_st ea eb al k S).testBit i = false := by
  unfold cl_st
  split
  · rw [Nat.testBit_or, Nat.testBit_or, h, Nat.testBit_two_pow, Nat.testBit_two_pow, decide_eq_false (by omega), decide_eq_false (by omega)]; rfl
  · exact h
theorem cl_rd_hi {n e : Nat} {ea eb : Nat → Nat} {al : Nat → Bool} {S i : Nat} (hE : ∀ k, k < e → ea k < n ∧ eb k < n) (hi : n ≤ i) (h : S.testBit i = false) : ∀ m, m ≤ e → (cl_rd ea eb al m S).testBit i = false
  | 0, _ => h
  | m + 1, hm => cl_st_hi (hE m (by omega)).1 (hE m (by omega)).2 hi (cl_rd_hi hE hi h m (by omega))
theorem cl_it_hi {n e : Nat} {ea eb : Nat → Nat} {al : Nat → Bool} {S i : Nat} (hE : ∀ k, k < e → ea k < n ∧ eb k < n) (hi : n ≤ i) (h : S.testBit i = false) : ∀ r, (cl_it e ea eb al r S).testBit i = false
  | 0 => h
  | r + 1 => cl_rd_hi hE hi (cl_it_hi hE hi h r) e (Nat.le_refl e)
theorem cl_it_succ {e : Nat} {ea eb : Nat → Nat} {al : Nat → Bool} {S : Nat} : ∀ r, (cl_rd ea eb al e (cl_it e ea eb al r S)) = cl_it e ea eb al r S → ∀ m, cl_it e ea eb al (r + m) S = cl_it e ea eb al r S
  | r, h, 0 => rfl
  | r, h, m + 1 => by
    show cl_rd ea eb al e (cl_it e ea eb al (r + m) S) = _
    rw [cl_it_succ r h m, h]
theorem cl_grow {n e : Nat} {ea eb : Nat → Nat} {al : Nat → Bool} {S : Nat} (hE : ∀ k, k < e → ea k < n ∧ eb k < n) (hS : ∀ i, n ≤ i → S.testBit i = false) (h : ¬ cl_rd ea eb al e S = S) : fb_ct (fun i => S.testBit i) n < fb_ct (fun i => (cl_rd ea eb al e S).testBit i) n := by
  have ⟨i, hi⟩ : ∃ i, (cl_rd ea eb al e S).testBit i ≠ S.testBit i := by
    refine Classical.byContradiction fun q => h (Nat.eq_of_testBit_eq fun i => Classical.byContradiction fun q2 => q ⟨i, q2⟩)
  have hs : S.testBit i = false := by
    cases hb : S.testBit i
    · rfl
    · exact absurd (by rw [cl_rd_sub hb e, hb]) hi
  have ht : (cl_rd ea eb al e S).testBit i = true := by
    cases hb : (cl_rd ea eb al e S).testBit i
    · exact absurd (by rw [hb, hs]) hi
    · rfl
  have hin : i < n := by
    rcases Nat.lt_or_ge i n with q | q
    · exact q
    · have := cl_rd_hi (al := al) hE q (hS i q) e (Nat.le_refl e)
      rw [ht] at this
      exact absurd this (by decide)
  exact ct_lt hs ht hin (fun k _ hk => cl_rd_sub hk e)
theorem cl_cnt {n e : Nat} {ea eb : Nat → Nat} {al : Nat → Bool} {S : Nat} (hE : ∀ k, k < e → ea k < n ∧ eb k < n) (hS : ∀ i, n ≤ i → S.testBit i = false) (h1 : 1 ≤ fb_ct (fun i => S.testBit i) n) : ∀ r, (∀ m, m < r → ¬ cl_rd ea eb al e (cl_it e ea eb al m S) = cl_it e ea eb al m S) → r + 1 ≤ fb_ct (fun i => (cl_it e ea eb al r S).testBit i) n
  | 0, _ => h1
  | r + 1, h => by
    have ih := cl_cnt hE hS h1 r (fun m hm => h m (by omega))
    have := cl_grow (al := al) hE (fun i hi => cl_it_hi (al := al) hE hi (hS i hi) r) (h r (by omega))
    show r + 1 + 1 ≤ fb_ct (fun i => (cl_rd ea eb al e (cl_it e ea eb al r S)).testBit i) n
    omega
theorem cl_fix {n e : Nat} {ea eb : Nat → Nat} {al : Nat → Bool} {S : Nat} (hn : 1 ≤ n) (hE : ∀ k, k < e → ea k < n ∧ eb k < n) (hS : ∀ i, n ≤ i → S.testBit i = false) (h1 : 1 ≤ fb_ct (fun i => S.testBit i) n) : cl_rd ea eb al e (cl_it e ea eb al (n - 1) S) = cl_it e ea eb al (n - 1) S := by
  by_cases q : ∃ m, m < n - 1 ∧ cl_rd ea eb al e (cl_it e ea eb al m S) = cl_it e ea eb al m S
  · obtain ⟨m, hm, q⟩ := q
    have a := cl_it_succ m q (n - 1 - m)
    rw [show m + (n - 1 - m) = n - 1 by omega] at a
    rw [a, q]
  · have a := cl_cnt (al := al) hE hS h1 (n - 1) (fun m hm h => q ⟨m, hm, h⟩)
    have b := fb_ct_le (fun i => (cl_it e ea eb al (n - 1) S).testBit i) n
    have c := (fb_ct_all (p := fun i => (cl_it e ea eb al (n - 1) S).testBit i) (n := n)).1 (by omega)
    apply Nat.eq_of_testBit_eq
    intro i
    rcases Nat.lt_or_ge i n with r | r
    · rw [cl_rd_sub (c i r) e]; exact (c i r).symm
    · rw [cl_rd_hi (al := al) hE r (cl_it_hi (al := al) hE r (hS i r) (n - 1)) e (Nat.le_refl e), cl_it_hi (al := al) hE r (hS i r) (n - 1)]
theorem cl_lt {n S : Nat} (hn : n ≤ 12) (hS : ∀ i, n ≤ i → S.testBit i = false) : S < 2 ^ 12 := Nat.lt_pow_two_of_testBit S (fun i hi => hS i (by omega))
/-! the class -/
theorem sx_own {N n p : Nat} {σ : am_S} {c : Int32} (hN : 200 ≤ N) (hn : n ≤ 12) (hp : p ≤ 8) (h4 : σ 1 11 = nI n) (h6 : σ 1 13 = nI p) (hr : sp_rise p (σ 11)) : ∀ r k q S, k + r = n → r < q → (∀ i, S.testBit i = decide (i < k ∧ sp_side p (σ 10) (σ 11) (σ 2) (σ 3) (σ 4) i = c)) → ∃ T, fx_Land_parishesOf_b4 N q c (nI S) (nI k) σ = some (nI T) ∧ ∀ i, T.testBit i = decide (i < n ∧ sp_side p (σ 10) (σ 11) (σ 2) (σ 3) (σ 4) i = c) := by
  intro r
  induction r with
  | zero =>
    intro k q S h1 h2 h3
    obtain ⟨q, rfl⟩ : ∃ m, q = m + 1 := ⟨q - 1, by omega⟩
    have e1 : k = n := by omega
    subst e1
    exact ⟨S, by rw [fx_Land_parishesOf_b4, h4, if_pos (nI_le (Nat.le_refl _) (by omega))], h3⟩
  | succ r ih =>
    intro k q S h1 h2 h3
    obtain ⟨q, rfl⟩ : ∃ m, q = m + 1 := ⟨q - 1, by omega⟩
    rw [fx_Land_parishesOf_b4, h4, if_neg (nI_ge (by omega) (by omega)), sx_side (by omega) hp h6 hr (by omega), hb_bind]
    unfold fx_Land_parishesOf_b27
    rw [nI_1, eb_sh (by omega), fa_or]
    by_cases e1 : sp_side p (σ 10) (σ 11) (σ 2) (σ 3) (σ 4) k = c
    · rw [if_pos e1]
      refine ih (k + 1) q _ (by omega) (by omega) ?_
      intro i
      rw [Nat.testBit_or, h3 i, Nat.testBit_two_pow]
      by_cases e2 : k = i
      · subst e2; rw [decide_eq_true (rfl : k = k), Bool.or_true]
        exact (decide_eq_true ⟨by omega, e1⟩).symm
      · rw [decide_eq_false e2, Bool.or_false]
        apply decide_eq_decide.2
        constructor
        · intro ⟨a, b⟩; exact ⟨by omega, b⟩
        · intro ⟨a, b⟩; exact ⟨by omega, b⟩
    · rw [if_neg e1]
      refine ih (k + 1) q _ (by omega) (by omega) ?_
      intro i
      rw [h3 i]
      apply decide_eq_decide.2
      constructor
      · intro ⟨a, b⟩; exact ⟨by omega, b⟩
      · intro ⟨a, b⟩
        refine ⟨?_, b⟩
        rcases Nat.lt_or_ge i k with s | s
        · exact s
        · have : i = k := by omega
          subst this
          exact absurd b e1
theorem sx_b20 {N n e : Nat} {ea eb : Nat → Nat} {al : Nat → Bool} {σ : am_S} {A was rn : Int32} {K5 : Int32 → Int32 → Int32 → am_S → Option Int32} {a S : Nat} (hn : n ≤ 12) (he : e ≤ 30) (h5 : σ 1 12 = nI e) (hE : ∀ k, k < e → σ 6 k = nI (ea k) ∧ σ 7 k = nI (eb k) ∧ ea k < n ∧ eb k < n) (hA : A = nI a) (hal : ∀ k, k < e → (al k = true ↔ a.testBit (ea k) = true ∧ a.testBit (eb k) = true)) (hS : ∀ i, n ≤ i → S.testBit i = false) : ∀ r m q, m + r = e → r < q → fx_Land_reachedWithin_b20 N K5 q A (nI (cl_rd ea eb al m S)) rn was (nI m) σ = (if nI (cl_rd ea eb al e S) = was then some (nI (cl_rd ea eb al e S)) else K5 A (nI (cl_rd ea eb al e S)) (rn + 1) σ) := by
  subst hA
  intro r
  induction r with
  | zero =>
    intro m q h1 h2
    obtain ⟨q, rfl⟩ : ∃ m, q = m + 1 := ⟨q - 1, by omega⟩
    have e1 : m = e := by omega
    subst e1
    rw [fx_Land_reachedWithin_b20, h5, if_pos (nI_le (Nat.le_refl _) (by omega))]
  | succ r ih =>
    intro m q h1 h2
    obtain ⟨q, rfl⟩ : ∃ m, q = m + 1 := ⟨q - 1, by omega⟩
    obtain ⟨e1, e2, e3, e4⟩ := hE m (by omega)
    have ih' := ih (m + 1) q (by omega) (by omega)
    have hal' := hal m (by omega)
    rw [cl_rd] at ih'
    rw [fx_Land_reachedWithin_b20, h5, if_neg (nI_ge (by omega) (by omega)), hb_g (by omega) (by decide), hb_g (by omega) (by decide), nI_clamp (by omega), e1, e2, eb_sh (by omega), eb_sh (by omega), fa_or, fa_and]
    unfold fx_Land_reachedWithin_b71
    rw [nI_1, fa_or]
    generalize hT : cl_rd ea eb al m S = T at *
    have c1 : nI (2 ^ ea m ||| 2 ^ eb m) &&& (nI a ^^^ (-1)) = 0 ↔ al m = true := by
      rw [eb_sub, hal']
      constructor
      · intro h
        refine ⟨h (ea m) (by omega) ?_, h (eb m) (by omega) ?_⟩
        · rw [Nat.testBit_or, Nat.testBit_two_pow, decide_eq_true rfl]; rfl
        · rw [Nat.testBit_or, Nat.testBit_two_pow, Nat.testBit_two_pow, decide_eq_true (rfl : eb m = eb m), Bool.or_true]
      · intro ⟨ha, hb⟩ j _ hj
        rw [Nat.testBit_or, Nat.testBit_two_pow, Nat.testBit_two_pow] at hj
        by_cases q1 : ea m = j
        · rw [← q1]; exact ha
        · by_cases q2 : eb m = j
          · rw [← q2]; exact hb
          · rw [decide_eq_false q1, decide_eq_false q2] at hj
            exact absurd hj (by decide)
    have c2 : nI ((2 ^ ea m ||| 2 ^ eb m) &&& T) = 0 ↔ ¬ (T.testBit (ea m) = true ∨ T.testBit (eb m) = true) := by
      have lt : (2 ^ ea m ||| 2 ^ eb m) &&& T < 2 ^ 31 := by
        have q1 : 2 ^ ea m < 2 ^ 31 := Nat.pow_lt_pow_right (by decide) (by omega)
        have q2 : 2 ^ eb m < 2 ^ 31 := Nat.pow_lt_pow_right (by decide) (by omega)
        have q3 := Nat.or_lt_two_pow q1 q2
        exact Nat.lt_of_le_of_lt Nat.and_le_left q3
      rw [hb_L0, nI_eq lt (by decide)]
      constructor
      · intro h
        intro q3
        rcases q3 with q3 | q3
        · have := congrArg (fun x => Nat.testBit x (ea m)) h
          simp only [Nat.testBit_and, Nat.testBit_or, Nat.testBit_two_pow, q3, Nat.zero_testBit, decide_true, Bool.true_or, Bool.and_true] at this
          exact absurd this (by decide)
        · have := congrArg (fun x => Nat.testBit x (eb m)) h
          simp only [Nat.testBit_and, Nat.testBit_or, Nat.testBit_two_pow, q3, Nat.zero_testBit, decide_true, Bool.or_true, Bool.and_true] at this
          exact absurd this (by decide)
      · intro h
        apply Nat.eq_of_testBit_eq
        intro i
        rw [Nat.testBit_and, Nat.testBit_or, Nat.testBit_two_pow, Nat.testBit_two_pow, Nat.zero_testBit]
        by_cases q1 : ea m = i
        · subst q1
          have : T.testBit (ea m) = false := by
            cases hb : T.testBit (ea m)
            · rfl
            · exact absurd (Or.inl hb) h
          rw [this, Bool.and_false]
        · by_cases q2 : eb m = i
          · subst q2
            have : T.testBit (eb m) = false := by
              cases hb : T.testBit (eb m)
              · rfl
              · exact absurd (Or.inr hb) h
            rw [this, Bool.and_false]
          · rw [decide_eq_false q1, decide_eq_false q2]; rfl
    rw [← ih']
    unfold cl_st
    by_cases q1 : al m = true
    · rw [if_pos (c1.2 q1)]
      by_cases q2 : T.testBit (ea m) = true ∨ T.testBit (eb m) = true
      · rw [if_neg (fun h => (c2.1 h) q2), if_pos ⟨q1, q2⟩]
      · rw [if_pos (c2.2 q2), if_neg (fun h => q2 h.2)]
    · rw [if_neg (fun h => q1 (c1.1 h)), if_neg (fun h => q1 h.1)]
theorem sx_b5 {N n e : Nat} {ea eb : Nat → Nat} {al : Nat → Bool} {σ : am_S} {a S : Nat} (hN : 200 ≤ N) (hn : n ≤ 12) (hn1 : 1 ≤ n) (he : e ≤ 30) (h4 : σ 1 11 = nI n) (h5 : σ 1 12 = nI e) (hE : ∀ k, k < e → σ 6 k = nI (ea k) ∧ σ 7 k = nI (eb k) ∧ ea k < n ∧ eb k < n) (hal : ∀ k, k < e → (al k = true ↔ a.testBit (ea k) = true ∧ a.testBit (eb k) = true)) (hS : ∀ i, n ≤ i → S.testBit i = false) : ∀ r k q, k + r = n → 1 ≤ k → r < q → fx_Land_reachedWithin_b5 N q (nI a) (nI (cl_it e ea eb al (k - 1) S)) (nI k) σ = some (nI (cl_it e ea eb al (n - 1) S)) := by
  have hE2 : ∀ k, k < e → ea k < n ∧ eb k < n := fun k hk => ⟨(hE k hk).2.2.1, (hE k hk).2.2.2⟩
  intro r
  induction r with
  | zero =>
    intro k q h1 h2 h3
    obtain ⟨q, rfl⟩ : ∃ m, q = m + 1 := ⟨q - 1, by omega⟩
    have e1 : k = n := by omega
    subst e1
    rw [fx_Land_reachedWithin_b5, h4, if_pos (nI_le (Nat.le_refl _) (by omega))]
  | succ r ih =>
    intro k q h1 h2 h3
    obtain ⟨q, rfl⟩ : ∃ m, q = m + 1 := ⟨q - 1, by omega⟩
    have hT : ∀ i, n ≤ i → (cl_it e ea eb al (k - 1) S).testBit i = false := fun i hi => cl_it_hi hE2 hi (hS i hi) (k - 1)
    have b := sx_b20 (N := N) (al := al) (σ := σ) (was := nI (cl_it e ea eb al (k - 1) S)) (rn := nI k) (K5 := fun x1 x3 x4 σ => fx_Land_reachedWithin_b5 N q x1 x3 x4 σ) hn he h5 hE (rfl : nI a = nI a) hal hT e 0 N (by omega) (by omega)
    rw [fx_Land_reachedWithin_b5, h4, if_neg (nI_ge (by omega) (by omega)), hb_L0]
    rw [cl_rd] at b
    rw [b]
    have e2 : cl_rd ea eb al e (cl_it e ea eb al (k - 1) S) = cl_it e ea eb al k S := by
      have : k = k - 1 + 1 := by omega
      rw [this]; rfl
    have l1 := cl_lt hn hT
    have l2 := cl_lt hn (fun i hi => cl_it_hi (al := al) hE2 hi (hS i hi) k)
    rw [e2]
    by_cases q1 : cl_it e ea eb al k S = cl_it e ea eb al (k - 1) S
    · rw [if_pos (by rw [q1])]
      have f := cl_it_succ (k - 1) (by rw [e2, q1]) (n - 1 - (k - 1))
      rw [show k - 1 + (n - 1 - (k - 1)) = n - 1 by omega] at f
      rw [f, q1]
    · rw [if_neg (by rw [nI_eq (by omega) (by omega)]; exact q1), nI_1]
      have := ih (k + 1) q (by omega) (by omega) (by omega)
      rw [show k + 1 - 1 = k by omega] at this
      exact this
