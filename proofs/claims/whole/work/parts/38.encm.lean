/-! ===== enclaves: both sides ===== -/
def en_al (p : Nat) (px py xs ys st : Nat → Int32) (ea eb : Nat → Nat) (c : Int32) (k : Nat) : Bool := decide (sp_side p px py xs ys st (ea k) = c ∧ sp_side p px py xs ys st (eb k) = c)
def en_seat (p : Nat) (px py xs ys st se : Nat → Int32) (i : Nat) : Nat := (se (sp_side p px py xs ys st i).toNatClampNeg).toNatClampNeg
def en_sp (n e p : Nat) (ea eb : Nat → Nat) (px py xs ys st se : Nat → Int32) (i : Nat) : Int32 :=
  if sp_side p px py xs ys st (en_seat p px py xs ys st se i) = sp_side p px py xs ys st i ∧ (cl_it e ea eb (en_al p px py xs ys st ea eb (sp_side p px py xs ys st i)) (n - 1) (2 ^ i)).testBit (en_seat p px py xs ys st se i) = true then 0 else 1
theorem en_bits {n i : Nat} (hi : i < n) : (∀ j, n ≤ j → (2 ^ i).testBit j = false) ∧ 1 ≤ fb_ct (fun j => (2 ^ i).testBit j) n := by
  refine ⟨fun j hj => by rw [Nat.testBit_two_pow]; exact decide_eq_false (by omega), ?_⟩
  exact fb_ct_pos.2 ⟨i, hi, by rw [Nat.testBit_two_pow]; exact decide_eq_true rfl⟩
theorem sx_encl {N n e p i : Nat} {ea eb ed : Nat → Nat} {σ : am_S} (hN : 200 ≤ N) (hn : n ≤ 12) (he : e ≤ 30) (hp : p ≤ 8) (h4 : σ 1 11 = nI n) (h5 : σ 1 12 = nI e) (h6 : σ 1 13 = nI p) (hr : sp_rise p (σ 11)) (hE : eg_ok n e (σ 6) (σ 7) (σ 8) ea eb ed) (hst : ∀ i, okc (σ 4 i) 1) (hse : ∀ i, ∃ s : Nat, σ 5 i = nI s ∧ (s < n ∨ s = 0)) (hi : i < n) : fx_Land_isEnclave N (nI i) σ = some (en_sp n e p ea eb (σ 10) (σ 11) (σ 2) (σ 3) (σ 4) (σ 5) i) := by
  obtain ⟨c, hc1, hc⟩ := sp_side01 (p := p) (px := σ 10) (py := σ 11) (xs := σ 2) (ys := σ 3) (st := σ 4) (i := i) (hst i)
  obtain ⟨s, hs, hs2⟩ := hse c
  have hsn : s < n := by omega
  obtain ⟨T, hT1, hT2⟩ := sx_own (N := N) (c := nI c) hN hn hp h4 h6 hr n 0 N 0 (by omega) (by omega) (fun i => by rw [Nat.zero_testBit]; exact (decide_eq_false (by omega)).symm)
  have hTn : ∀ j, n ≤ j → T.testBit j = false := fun j hj => by rw [hT2]; exact decide_eq_false (by omega)
  have hal : ∀ k, k < e → (en_al p (σ 10) (σ 11) (σ 2) (σ 3) (σ 4) ea eb (nI c) k = true ↔ T.testBit (ea k) = true ∧ T.testBit (eb k) = true) := by
    intro k hk
    have q := hE k hk
    rw [hT2, hT2, decide_eq_true_eq, decide_eq_true_eq]
    unfold en_al
    rw [decide_eq_true_eq]
    constructor
    · intro ⟨a, b⟩; exact ⟨⟨q.2.2.2.1, a⟩, ⟨q.2.2.2.2.1, b⟩⟩
    · intro ⟨a, b⟩; exact ⟨a.2, b.2⟩
  obtain ⟨b1, b2⟩ := en_bits hi
  have hE2 : ∀ k, k < e → σ 6 k = nI (ea k) ∧ σ 7 k = nI (eb k) ∧ ea k < n ∧ eb k < n := fun k hk => ⟨(hE k hk).1, (hE k hk).2.1, (hE k hk).2.2.2.1, (hE k hk).2.2.2.2.1⟩
  have f := sx_b5 (N := N) (al := en_al p (σ 10) (σ 11) (σ 2) (σ 3) (σ 4) ea eb (nI c)) (a := T) (S := 2 ^ i) hN hn (by omega) he h4 h5 hE2 hal b1 (n - 1) 1 N (by omega) (by omega) (by omega)
  have lF := cl_lt hn (fun j hj => cl_it_hi (al := en_al p (σ 10) (σ 11) (σ 2) (σ 3) (σ 4) ea eb (nI c)) (e := e) (fun k hk => ⟨(hE2 k hk).2.2.1, (hE2 k hk).2.2.2⟩) hj (b1 j hj) (n - 1))
  have lT := cl_lt hn hTn
  have e1 : (1 : Int32) = nI 1 := rfl
  unfold fx_Land_isEnclave fx_Land_parishesOf fx_Land_reachedWithin fx_Land_isEnclave_b43 en_sp en_seat
  rw [sx_side (by omega) hp h6 hr (by omega), hb_bind, hc]
  have hT1' : fx_Land_parishesOf_b4 N N (nI c) 0 0 σ = some (nI T) := hT1
  rw [hT1', hb_bind, hb_g (by omega) (by decide), nI_clamp (show c < 2 ^ 31 by omega), hs, nI_clamp (show s < 2 ^ 31 by omega), eb_sh (show s < 31 by omega), eb_sh (show i < 31 by omega)]
  have f' : fx_Land_reachedWithin_b5 N N (nI T) (nI (2 ^ i)) 1 σ = some (nI (cl_it e ea eb (en_al p (σ 10) (σ 11) (σ 2) (σ 3) (σ 4) ea eb (nI c)) (n - 1) (2 ^ i))) := f
  rw [f', hb_bind]
  by_cases q1 : sp_side p (σ 10) (σ 11) (σ 2) (σ 3) (σ 4) s = nI c
  · have t1 : T.testBit s = true := by rw [hT2]; exact decide_eq_true ⟨hsn, q1⟩
    rw [if_neg (by rw [fa_bit (by omega), t1]; decide)]
    cases t2 : (cl_it e ea eb (en_al p (σ 10) (σ 11) (σ 2) (σ 3) (σ 4) ea eb (nI c)) (n - 1) (2 ^ i)).testBit s
    · rw [if_pos ((fa_bit (by omega)).2 t2), if_neg (fun h => absurd h.2 (by decide))]
    · rw [if_neg (by rw [fa_bit (by omega), t2]; decide), if_pos ⟨q1, rfl⟩]
  · have t1 : T.testBit s = false := by rw [hT2]; exact decide_eq_false (fun h => q1 h.2)
    rw [if_pos ((fa_bit (by omega)).2 t1), if_neg (fun h => q1 h.1)]
theorem sm_b46 {N n e p : Nat} {ea eb ed : Nat → Nat} {σ : am_S} {c st was : Int32} {K32 : Int32 → Int32 → Int32 → Int32 → am_S → Option Int32} {S : Nat} (hN : 200 ≤ N) (hn : n ≤ 12) (he : e ≤ 30) (hp : p ≤ 8) (h5 : σ 85 5 = nI e) (h6 : σ 85 10 = nI p) (hr : sp_rise p (σ 94)) (hE : eg_ok n e (σ 89) (σ 90) (σ 91) ea eb ed) (hS : ∀ i, n ≤ i → S.testBit i = false) : ∀ r m q, m + r = e → r < q → fm_isEnclave_b46 N K32 q c st (nI (cl_rd ea eb (en_al p (σ 93) (σ 94) (σ 86) (σ 87) (σ 88) ea eb c) m S)) was (nI m) σ = K32 c st (nI (cl_rd ea eb (en_al p (σ 93) (σ 94) (σ 86) (σ 87) (σ 88) ea eb c) e S)) was σ := by
  intro r
  induction r with
  | zero =>
    intro m q h1 h2
    obtain ⟨q, rfl⟩ : ∃ m, q = m + 1 := ⟨q - 1, by omega⟩
    have e1 : m = e := by omega
    subst e1
    rw [fm_isEnclave_b46, h5, if_pos (nI_le (Nat.le_refl _) (by omega))]
  | succ r ih =>
    intro m q h1 h2
    obtain ⟨q, rfl⟩ : ∃ m, q = m + 1 := ⟨q - 1, by omega⟩
    obtain ⟨hA, hB, hL, ha, hb, hne, hd1, hd9⟩ := hE m (by omega)
    have ih' := ih (m + 1) q (by omega) (by omega)
    have lT := cl_lt hn (fun j hj => cl_rd_hi (al := en_al p (σ 93) (σ 94) (σ 86) (σ 87) (σ 88) ea eb c) (e := e) (fun k hk => ⟨(hE k hk).2.2.2.1, (hE k hk).2.2.2.2.1⟩) hj (hS j hj) m (by omega))
    rw [cl_rd] at ih'
    rw [fm_isEnclave_b46, h5, if_neg (nI_ge (by omega) (by omega)), hb_g (by omega) (by decide), nI_clamp (by omega), hA, hB]
    generalize hT : cl_rd ea eb (en_al p (σ 93) (σ 94) (σ 86) (σ 87) (σ 88) ea eb c) m S = T at *
    rw [← ih']
    have one : ∀ i, i < 12 → ((nI T >>> (nI i &&& 31)) &&& 1 = 1 ↔ T.testBit i = true) := by
      intro i hi
      rw [eb_bit (by omega) (by omega)]
      cases T.testBit i
      · exact ⟨fun h => absurd h (by decide), fun h => absurd h (by decide)⟩
      · exact ⟨fun _ => rfl, fun _ => rfl⟩
    have b0 : ∀ s0 : Int32, fm_isEnclave_b92 N K32 (fun x2 x3 x4 x5 x6 σ => fm_isEnclave_b46 N K32 q x2 x3 x4 x5 x6 σ) c st (nI T) was (nI m) 0 σ = fm_isEnclave_b46 N K32 q c st (nI T) was (nI (m + 1)) σ := by
      intro _
      unfold fm_isEnclave_b92 fm_isEnclave_b153
      rw [if_pos rfl, nI_1]
    have b1 : fm_isEnclave_b92 N K32 (fun x2 x3 x4 x5 x6 σ => fm_isEnclave_b46 N K32 q x2 x3 x4 x5 x6 σ) c st (nI T) was (nI m) 1 σ = fm_isEnclave_b46 N K32 q c st (nI (if en_al p (σ 93) (σ 94) (σ 86) (σ 87) (σ 88) ea eb c m = true then T ||| (2 ^ ea m ||| 2 ^ eb m) else T)) was (nI (m + 1)) σ := by
      unfold fm_isEnclave_b92 fm_isEnclave_b153
      rw [if_neg (by decide), hb_g (by omega) (by decide), nI_clamp (by omega), hA, sm_side (by omega) hp h6 hr (by omega), hb_bind]
      by_cases q1 : sp_side p (σ 93) (σ 94) (σ 86) (σ 87) (σ 88) (ea m) = c
      · rw [if_pos q1, hb_g (by omega) (by decide), hB, sm_side (by omega) hp h6 hr (by omega), hb_bind]
        by_cases q2 : sp_side p (σ 93) (σ 94) (σ 86) (σ 87) (σ 88) (eb m) = c
        · rw [if_pos q2, hb_g (by omega) (by decide), hb_g (by omega) (by decide), eb_sh (by omega), eb_sh (by omega), fa_or, fa_or, nI_1, if_pos (by unfold en_al; exact decide_eq_true ⟨q1, q2⟩)]
        · rw [if_neg q2, nI_1, if_neg (by unfold en_al; rw [decide_eq_true_eq]; exact fun h => q2 h.2)]
      · rw [if_neg q1, nI_1, if_neg (by unfold en_al; rw [decide_eq_true_eq]; exact fun h => q1 h.1)]
    unfold cl_st fm_isEnclave_b87
    by_cases q1 : T.testBit (ea m) = true
    · rw [if_pos ((one _ (by omega)).2 q1), b1]
      by_cases q3 : en_al p (σ 93) (σ 94) (σ 86) (σ 87) (σ 88) ea eb c m = true
      · rw [if_pos q3, if_pos ⟨q3, Or.inl q1⟩]
      · rw [if_neg q3, if_neg (fun h => q3 h.1)]
    · rw [if_neg (fun h => q1 ((one _ (by omega)).1 h)), hb_g (by omega) (by decide)]
      by_cases q2 : T.testBit (eb m) = true
      · rw [if_pos ((one _ (by omega)).2 q2), b1]
        by_cases q3 : en_al p (σ 93) (σ 94) (σ 86) (σ 87) (σ 88) ea eb c m = true
        · rw [if_pos q3, if_pos ⟨q3, Or.inr q2⟩]
        · rw [if_neg q3, if_neg (fun h => q3 h.1)]
      · rw [if_neg (fun h => q2 ((one _ (by omega)).1 h)), b0 0, if_neg (fun h => h.2.elim q1 q2)]
theorem sm_b32 {N n e p s : Nat} {ea eb ed : Nat → Nat} {σ : am_S} {c : Int32} {S : Nat} (hN : 200 ≤ N) (hn : n ≤ 12) (hn1 : 1 ≤ n) (he : e ≤ 30) (hp : p ≤ 8) (h5 : σ 85 5 = nI e) (h6 : σ 85 10 = nI p) (hr : sp_rise p (σ 94)) (hE : eg_ok n e (σ 89) (σ 90) (σ 91) ea eb ed) (hs : s < 12) (hS : ∀ i, n ≤ i → S.testBit i = false) (h1 : 1 ≤ fb_ct (fun i => S.testBit i) n) : ∀ r k q, k + r = n → 1 ≤ k → r < q → fm_isEnclave_b32 N q c (nI s) (nI (cl_it e ea eb (en_al p (σ 93) (σ 94) (σ 86) (σ 87) (σ 88) ea eb c) k S)) (nI (cl_it e ea eb (en_al p (σ 93) (σ 94) (σ 86) (σ 87) (σ 88) ea eb c) (k - 1) S)) σ = some (if (cl_it e ea eb (en_al p (σ 93) (σ 94) (σ 86) (σ 87) (σ 88) ea eb c) (n - 1) S).testBit s = true then 0 else 1) := by
  have hE2 : ∀ k, k < e → ea k < n ∧ eb k < n := fun k hk => ⟨(hE k hk).2.2.2.1, (hE k hk).2.2.2.2.1⟩
  have key : ∀ k q, 1 ≤ k → k ≤ n → cl_it e ea eb (en_al p (σ 93) (σ 94) (σ 86) (σ 87) (σ 88) ea eb c) k S = cl_it e ea eb (en_al p (σ 93) (σ 94) (σ 86) (σ 87) (σ 88) ea eb c) (k - 1) S → fm_isEnclave_b32 N (q + 1) c (nI s) (nI (cl_it e ea eb (en_al p (σ 93) (σ 94) (σ 86) (σ 87) (σ 88) ea eb c) k S)) (nI (cl_it e ea eb (en_al p (σ 93) (σ 94) (σ 86) (σ 87) (σ 88) ea eb c) (k - 1) S)) σ = some (if (cl_it e ea eb (en_al p (σ 93) (σ 94) (σ 86) (σ 87) (σ 88) ea eb c) (n - 1) S).testBit s = true then 0 else 1) := by
    intro k q hk1 hkn hf
    have e2 : cl_rd ea eb (en_al p (σ 93) (σ 94) (σ 86) (σ 87) (σ 88) ea eb c) e (cl_it e ea eb (en_al p (σ 93) (σ 94) (σ 86) (σ 87) (σ 88) ea eb c) (k - 1) S) = cl_it e ea eb (en_al p (σ 93) (σ 94) (σ 86) (σ 87) (σ 88) ea eb c) k S := by
      have : k = k - 1 + 1 := by omega
      rw [this]; rfl
    have f := cl_it_succ (k - 1) (by rw [e2, hf]) (n - 1 - (k - 1))
    rw [show k - 1 + (n - 1 - (k - 1)) = n - 1 by omega] at f
    have l := cl_lt hn (fun i hi => cl_it_hi (al := en_al p (σ 93) (σ 94) (σ 86) (σ 87) (σ 88) ea eb c) hE2 hi (hS i hi) k)
    rw [fm_isEnclave_b32, if_pos (by rw [hf]), eb_bit (by omega) (by omega), f, ← hf]
    cases (cl_it e ea eb (en_al p (σ 93) (σ 94) (σ 86) (σ 87) (σ 88) ea eb c) k S).testBit s
    · rfl
    · rfl
  intro r
  induction r with
  | zero =>
    intro k q h2 h3 h4
    obtain ⟨q, rfl⟩ : ∃ m, q = m + 1 := ⟨q - 1, by omega⟩
    have e1 : k = n := by omega
    subst e1
    refine key k q h3 (Nat.le_refl _) ?_
    have := cl_fix (al := en_al p (σ 93) (σ 94) (σ 86) (σ 87) (σ 88) ea eb c) hn1 hE2 hS h1
    have e3 : cl_it e ea eb (en_al p (σ 93) (σ 94) (σ 86) (σ 87) (σ 88) ea eb c) k S = cl_rd ea eb (en_al p (σ 93) (σ 94) (σ 86) (σ 87) (σ 88) ea eb c) e (cl_it e ea eb (en_al p (σ 93) (σ 94) (σ 86) (σ 87) (σ 88) ea eb c) (k - 1) S) := by
      conv => lhs; rw [show k = k - 1 + 1 by omega]
      rfl
    rw [e3, this]
  | succ r ih =>
    intro k q h2 h3 h4
    obtain ⟨q, rfl⟩ : ∃ m, q = m + 1 := ⟨q - 1, by omega⟩
    by_cases q1 : cl_it e ea eb (en_al p (σ 93) (σ 94) (σ 86) (σ 87) (σ 88) ea eb c) k S = cl_it e ea eb (en_al p (σ 93) (σ 94) (σ 86) (σ 87) (σ 88) ea eb c) (k - 1) S
    · exact key k q h3 (by omega) q1
    · have l1 := cl_lt hn (fun i hi => cl_it_hi (al := en_al p (σ 93) (σ 94) (σ 86) (σ 87) (σ 88) ea eb c) hE2 hi (hS i hi) k)
      have l2 := cl_lt hn (fun i hi => cl_it_hi (al := en_al p (σ 93) (σ 94) (σ 86) (σ 87) (σ 88) ea eb c) hE2 hi (hS i hi) (k - 1))
      rw [fm_isEnclave_b32, if_neg (by rw [nI_eq (by omega) (by omega)]; exact fun h => q1 h.symm), hb_L0]
      have b := sm_b46 (N := N) (c := c) (st := nI s) (was := nI (cl_it e ea eb (en_al p (σ 93) (σ 94) (σ 86) (σ 87) (σ 88) ea eb c) k S)) (K32 := fun x2 x3 x4 x5 σ => fm_isEnclave_b32 N q x2 x3 x4 x5 σ) hN hn he hp h5 h6 hr hE (fun i hi => cl_it_hi (al := en_al p (σ 93) (σ 94) (σ 86) (σ 87) (σ 88) ea eb c) hE2 hi (hS i hi) k) e 0 N (by omega) (by omega)
      rw [cl_rd] at b
      rw [b]
      have := ih (k + 1) q (by omega) (by omega) (by omega)
      rw [show k + 1 - 1 = k by omega] at this
      exact this
theorem sm_encl {N n e p i : Nat} {ea eb ed : Nat → Nat} {σ : am_S} (hN : 200 ≤ N) (hn : n ≤ 12) (he : e ≤ 30) (hp : p ≤ 8) (h5 : σ 85 5 = nI e) (h6 : σ 85 10 = nI p) (hr : sp_rise p (σ 94)) (hE : eg_ok n e (σ 89) (σ 90) (σ 91) ea eb ed) (hst : ∀ i, okc (σ 88 i) 1) (hse : ∀ i, ∃ s : Nat, σ 95 i = nI s ∧ (s < n ∨ s = 0)) (hi : i < n) : fm_isEnclave N (nI i) σ = some (en_sp n e p ea eb (σ 93) (σ 94) (σ 86) (σ 87) (σ 88) (σ 95) i) := by
  obtain ⟨c, hc1, hc⟩ := sp_side01 (p := p) (px := σ 93) (py := σ 94) (xs := σ 86) (ys := σ 87) (st := σ 88) (i := i) (hst i)
  obtain ⟨s, hs, hs2⟩ := hse c
  have hsn : s < n := by omega
  obtain ⟨b1, b2⟩ := en_bits hi
  have hE2 : ∀ k, k < e → ea k < n ∧ eb k < n := fun k hk => ⟨(hE k hk).2.2.2.1, (hE k hk).2.2.2.2.1⟩
  unfold fm_isEnclave en_sp en_seat
  rw [sm_side (by omega) hp h6 hr (by omega), hb_bind, hc, hb_g (by omega) (by decide), nI_clamp (show c < 2 ^ 31 by omega), hs, nI_clamp (show s < 2 ^ 31 by omega), sm_side (by omega) hp h6 hr (by omega), hb_bind, eb_sh (show i < 31 by omega)]
  by_cases q1 : sp_side p (σ 93) (σ 94) (σ 86) (σ 87) (σ 88) s = nI c
  · rw [if_pos q1]
    obtain ⟨M, rfl⟩ : ∃ M, N = M + 1 := ⟨N - 1, by omega⟩
    have l : (2 : Nat) ^ i < 2 ^ 12 := Nat.pow_lt_pow_right (by decide) (by omega)
    have l0 : 0 < (2 : Nat) ^ i := Nat.two_pow_pos i
    have b := sm_b46 (N := M + 1) (c := nI c) (st := nI s) (was := nI (2 ^ i)) (K32 := fun x2 x3 x4 x5 σ => fm_isEnclave_b32 (M + 1) M x2 x3 x4 x5 σ) hN hn he hp h5 h6 hr hE b1 e 0 (M + 1) (by omega) (by omega)
    rw [cl_rd] at b
    have d := sm_b32 (N := M + 1) (c := nI c) (s := s) hN hn (by omega) he hp h5 h6 hr hE (by omega) b1 b2 (n - 1) 1 M (by omega) (by omega) (by omega)
    rw [fm_isEnclave_b32, if_neg (by rw [hb_L0, nI_eq (by decide) (by omega)]; omega), hb_L0, b]
    refine Eq.trans d ?_
    cases (cl_it e ea eb (en_al p (σ 93) (σ 94) (σ 86) (σ 87) (σ 88) ea eb (nI c)) (n - 1) (2 ^ i)).testBit s
    · rw [if_neg (by decide), if_neg (fun h => absurd h.2 (by decide))]
    · rw [if_pos rfl, if_pos ⟨q1, rfl⟩]; rfl
  · rw [if_neg q1, if_neg (fun h => q1 h.1)]
