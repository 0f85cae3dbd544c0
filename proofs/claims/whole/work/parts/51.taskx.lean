/-! ===== the class's best order ===== -/
theorem bc_512 : ∀ w, w < 512 → fx_Int_bitCount (nI w) (fun _ _ => 0) = nI (fb_ct (fun t => w.testBit t) 9) := by decide +kernel
theorem ct_tail {p : Nat → Bool} {n : Nat} : ∀ k, (∀ j, n ≤ j → j < n + k → p j = false) → fb_ct p (n + k) = fb_ct p n
  | 0, _ => rfl
  | k + 1, h => by
    show fb_ct p ((n + k) + 1) = _
    rw [fb_ct_succ, h (n + k) (by omega) (by omega), if_neg (by decide), ct_tail k (fun j h1 h2 => h j h1 (by omega))]
    rfl
theorem tx_bits {n w : Nat} (hw : w < 2 ^ n) : ∀ b, n ≤ b → w.testBit b = false := fun _ hb => Nat.testBit_lt_two_pow (Nat.lt_of_lt_of_le hw (Nat.pow_le_pow_right (by decide) hb))
theorem tx_512 {n w : Nat} (hn : n ≤ 9) (hw : w < 2 ^ n) : w < 512 := Nat.lt_of_lt_of_le hw (Nat.pow_le_pow_right (n := 2) (j := 9) (by decide) hn)
theorem tx_bc {n w : Nat} (hn : n ≤ 9) (hw : w < 2 ^ n) (σ : am_S) : fx_Int_bitCount (nI w) σ = nI (tk_p n w) := by
  have h := bc_512 w (tx_512 hn hw)
  have e : fb_ct (fun t => w.testBit t) 9 = tk_p n w := by
    have := ct_tail (p := fun t => w.testBit t) (n := n) (9 - n) (fun j h1 _ => tx_bits hw j h1)
    rw [show n + (9 - n) = 9 by omega] at this
    exact this
  rw [e] at h
  exact h
theorem eb_diff {a b c : Nat} (h : ∀ j, j < 32 → c.testBit j = (a.testBit j && !b.testBit j)) : nI a &&& (nI b ^^^ (-1)) = nI c := by
  apply Int32.toBitVec_inj.1
  show BitVec.ofNat 32 a &&& (BitVec.ofNat 32 b ^^^ BitVec.allOnes 32) = BitVec.ofNat 32 c
  apply BitVec.eq_of_getLsbD_eq
  intro j hj
  rw [BitVec.getLsbD_and, BitVec.getLsbD_xor, BitVec.getLsbD_ofNat, BitVec.getLsbD_ofNat, BitVec.getLsbD_ofNat, BitVec.getLsbD_allOnes, decide_eq_true hj, h j hj]
  cases a.testBit j <;> cases b.testBit j <;> rfl
theorem eb_sub2 {a b : Nat} (hb : b < 2 ^ 31) : nI b &&& (nI a ^^^ (-1)) = 0 ↔ b &&& a = b := by
  rw [eb_sub]
  constructor
  · intro h
    apply Nat.eq_of_testBit_eq
    intro j
    rw [Nat.testBit_and]
    cases hj : b.testBit j
    · rfl
    · have : j < 32 := by
        refine Classical.byContradiction fun q => ?_
        rw [Nat.testBit_lt_two_pow (Nat.lt_of_lt_of_le hb (Nat.pow_le_pow_right (by decide) (by omega)))] at hj
        exact absurd hj (by decide)
      rw [h j this hj]; rfl
  · intro h j _ hj
    have := congrArg (fun x => Nat.testBit x j) h
    simp only [Nat.testBit_and, hj, Bool.true_and] at this
    exact this
def tx_ok (n : Nat) (dy nd : Nat → Nat) (σ : am_S) : Prop := n ≤ 9 ∧ σ 78 4 = nI n ∧ (∀ t, t < n → σ 79 t = nI (dy t) ∧ dy t ≤ 200) ∧ (∀ t, t < n → σ 80 t = nI (nd t) ∧ nd t < 512)
theorem tk_d_bd {dy : Nat → Nat} {w : Nat} : ∀ n, (∀ t, t < n → dy t ≤ 200) → tk_d dy w n ≤ 200 * n
  | 0, _ => Nat.le_refl 0
  | n + 1, h => by
    have ih := tk_d_bd (dy := dy) (w := w) n (fun t ht => h t (by omega))
    have := h n (by omega)
    rw [tk_d]
    split <;> omega
theorem tx_days {N n w : Nat} {dy nd : Nat → Nat} {σ : am_S} (hN : 200 ≤ N) (h : tx_ok n dy nd σ) (hw : w < 512) : fx_Tasks_daysOf N (nI w) σ = some (nI (tk_d dy w n)) := by
  obtain ⟨hn, h4, hd, _⟩ := h
  have : ∀ r t q, t + r = n → r < q → fx_Tasks_daysOf_b4 N q (nI w) (nI (tk_d dy w t)) (nI t) σ = some (nI (tk_d dy w n)) := by
    intro r
    induction r with
    | zero =>
      intro t q h1 h2
      obtain ⟨q, rfl⟩ : ∃ m, q = m + 1 := ⟨q - 1, by omega⟩
      have e : t = n := by omega
      subst e
      rw [fx_Tasks_daysOf_b4, h4, if_pos (nI_le (Nat.le_refl _) (by omega))]
    | succ r ih =>
      intro t q h1 h2
      obtain ⟨q, rfl⟩ : ∃ m, q = m + 1 := ⟨q - 1, by omega⟩
      have nx := ih (t + 1) q (by omega) (by omega)
      rw [tk_d] at nx
      rw [fx_Tasks_daysOf_b4, h4, if_neg (nI_ge (by omega) (by omega)), eb_sh (by omega)]
      unfold fx_Tasks_daysOf_b29
      rw [nI_1]
      cases ht : w.testBit t
      · rw [if_pos ((fa_bit (by omega)).2 ht)]
        rw [ht, if_neg (by decide), Nat.add_zero] at nx
        exact nx
      · rw [if_neg (fun q => by rw [fa_bit (by omega), ht] at q; exact absurd q (by decide)), hb_g (by omega) (by decide), nI_clamp (by omega), (hd t (by omega)).1, nI_add]
        rw [ht, if_pos rfl] at nx
        exact nx
  exact this n 0 N (by omega) (by omega)
theorem tx_least {N n w D Lf : Nat} {dy nd : Nat → Nat} {σ : am_S} (hN : 200 ≤ N) (h : tx_ok n dy nd σ) (hw : w < 512) (hL : ∀ j, Lf.testBit j = (w.testBit j && !D.testBit j)) (hD : ∀ j, D.testBit j = true → w.testBit j = true) : (∃ t, t < n ∧ tk_rd nd w D t = true ∧ (∀ u, u < t → tk_rd nd w D u = false) ∧ fx_Tasks_leastReady N (nI w) (nI Lf) σ = some (nI t)) ∨ ((∀ t, t < n → tk_rd nd w D t = false) ∧ fx_Tasks_leastReady N (nI w) (nI Lf) σ = some (-1)) := by
  obtain ⟨hn, h4, _, hd⟩ := h
  have eD : nI w &&& (nI Lf ^^^ (-1)) = nI D := eb_diff (fun j _ => by
    rw [hL j]
    cases hw' : w.testBit j
    · cases hd' : D.testBit j
      · rfl
      · rw [hD j hd'] at hw'; exact absurd hw' (by decide)
    · cases D.testBit j <;> rfl)
  unfold fx_Tasks_leastReady
  rw [eD]
  have : ∀ r t q, t + r = n → r < q → (∀ u, u < t → tk_rd nd w D u = false) → (∃ t, t < n ∧ tk_rd nd w D t = true ∧ (∀ u, u < t → tk_rd nd w D u = false) ∧ fx_Tasks_leastReady_b9 N q (nI Lf) (nI D) (nI t) σ = fx_Tasks_leastReady_b9 N q (nI Lf) (nI D) (nI t) σ) ∨ True := fun _ _ _ _ _ _ => Or.inr trivial
  clear this
  have key : ∀ r t q, t + r = n → r < q → (∀ u, u < t → tk_rd nd w D u = false) → (∃ t0, t0 < n ∧ tk_rd nd w D t0 = true ∧ (∀ u, u < t0 → tk_rd nd w D u = false) ∧ fx_Tasks_leastReady_b9 N q (nI Lf) (nI D) (nI t) σ = some (nI t0)) ∨ ((∀ u, u < n → tk_rd nd w D u = false) ∧ fx_Tasks_leastReady_b9 N q (nI Lf) (nI D) (nI t) σ = some (-1)) := by
    intro r
    induction r with
    | zero =>
      intro t q h1 h2 h3
      obtain ⟨q, rfl⟩ : ∃ m, q = m + 1 := ⟨q - 1, by omega⟩
      have e : t = n := by omega
      subst e
      exact Or.inr ⟨h3, by rw [fx_Tasks_leastReady_b9, h4, if_pos (nI_le (Nat.le_refl _) (by omega))]⟩
    | succ r ih =>
      intro t q h1 h2 h3
      obtain ⟨q, rfl⟩ : ∃ m, q = m + 1 := ⟨q - 1, by omega⟩
      obtain ⟨e1, e2⟩ := hd t (by omega)
      rw [fx_Tasks_leastReady_b9, h4, if_neg (nI_ge (by omega) (by omega)), eb_sh (by omega)]
      unfold fx_Tasks_leastReady_b44
      rw [nI_1]
      have nx := fun (q0 : tk_rd nd w D t = false) => ih (t + 1) q (by omega) (by omega) (fun u hu => by
        by_cases e : u = t
        · subst e; exact q0
        · exact h3 u (by omega))
      cases ht : Lf.testBit t
      · rw [if_pos ((fa_bit (by omega)).2 ht)]
        refine nx ?_
        rw [hL t] at ht
        unfold tk_rd
        rw [ht]; rfl
      · rw [if_neg (fun q => by rw [fa_bit (by omega), ht] at q; exact absurd q (by decide)), hb_g (by omega) (by decide), nI_clamp (by omega), e1]
        rw [hL t] at ht
        by_cases c : nd t &&& D = nd t
        · rw [if_pos ((eb_sub2 (by omega)).2 c)]
          left
          refine ⟨t, by omega, ?_, h3, rfl⟩
          unfold tk_rd
          rw [ht, decide_eq_true c]; rfl
        · rw [if_neg (fun q => c ((eb_sub2 (by omega)).1 q))]
          refine nx ?_
          unfold tk_rd
          rw [ht, decide_eq_false c]; rfl
  exact key n 0 N (by omega) (by omega) (fun u hu => absurd hu (Nat.not_lt_zero u))
theorem ao_uniq {n : Nat} {nd : Nat → Nat} {w : Nat} {o o' : Nat → Nat} {K K' : Nat} (h : tk_AO n nd w o K) (h' : tk_AO n nd w o' K') : ∀ k, k < K → k < K' → o k = o' k := by
  intro k
  induction k using Nat.strongRecOn with
  | _ k ih =>
    intro hk hk'
    have ed : dn 0 o k = dn 0 o' k := dn_cong (fun j hj => ih j hj (by omega) (by omega))
    obtain ⟨a1, a2, a3⟩ := h k hk
    obtain ⟨b1, b2, b3⟩ := h' k hk'
    rw [ed] at a2 a3
    rcases Nat.lt_trichotomy (o k) (o' k) with q | q | q
    · rw [b3 _ q] at a2; exact absurd a2 (by decide)
    · exact q
    · rw [a3 _ q] at b2; exact absurd b2 (by decide)
theorem tx_arr {N n w : Nat} {dy nd : Nat → Nat} {σ : am_S} (hN : 200 ≤ N) (h : tx_ok n dy nd σ) (hw : w < 2 ^ n) : ∃ g fl, fx_Tasks_arrange N (nI w) σ = some (fl, am_set σ 81 g) ∧ ((fl = 1 ∧ ∃ o, tk_AO n nd w o (tk_p n w) ∧ ∀ j, j < tk_p n w → g j = nI (o j)) ∨ (fl = 0 ∧ ¬ ∃ o, tk_AO n nd w o (tk_p n w))) := by
  have hn := h.1
  have hw5 := tx_512 hn hw
  have hpn : tk_p n w ≤ n := fb_ct_le _ n
  have key : ∀ r k q g o Lf, k + r = tk_p n w → r < q → tk_AO n nd w o k → (∀ j, j < k → g j = nI (o j)) → (∀ j, Lf.testBit j = (w.testBit j && !(dn 0 o k).testBit j)) → ∃ g' fl, fx_Tasks_arrange_b10 N q (nI w) (nI Lf) (nI (tk_p n w)) (nI k) (am_set σ 81 g) = some (fl, am_set σ 81 g') ∧ ((fl = 1 ∧ ∃ o, tk_AO n nd w o (tk_p n w) ∧ ∀ j, j < tk_p n w → g' j = nI (o j)) ∨ (fl = 0 ∧ ¬ ∃ o, tk_AO n nd w o (tk_p n w))) := by
    intro r
    induction r with
    | zero =>
      intro k q g o Lf h1 h2 h3 h4 h5
      obtain ⟨q, rfl⟩ : ∃ m, q = m + 1 := ⟨q - 1, by omega⟩
      have e : k = tk_p n w := by omega
      refine ⟨g, 1, ?_, Or.inl ⟨rfl, o, by rw [← e]; exact h3, fun j hj => h4 j (by omega)⟩⟩
      rw [fx_Tasks_arrange_b10, if_pos (nI_le (by omega) (by omega))]
    | succ r ih =>
      intro k q g o Lf h1 h2 h3 h4 h5
      obtain ⟨q, rfl⟩ : ∃ m, q = m + 1 := ⟨q - 1, by omega⟩
      have hx : tx_ok n dy nd (am_set σ 81 g) := by
        unfold tx_ok
        rw [hb_set_ne (by decide), hb_set_ne (by decide), hb_set_ne (by decide)]
        exact h
      rw [fx_Tasks_arrange_b10, if_neg (nI_ge (by omega) (by omega))]
      rcases tx_least (N := N) (D := dn 0 o k) hN hx hw5 h5 (ao_sub h3).1 with ⟨t, t1, t2, t3, t4⟩ | ⟨t1, t2⟩
      · rw [t4, hb_bind, if_pos (nI_pos' (by omega)), hb_g (by omega) (by decide), nI_clamp (by omega), hb_upset, nI_1, eb_sh (by omega)]
        have r := rd_t.1 t2
        have ed : ∀ i, i ≤ k → dn 0 (fun j => if j = k then t else o j) i = dn 0 o i := fun i hi => dn_cong (fun u hu => if_neg (by omega))
        have ao : tk_AO n nd w (fun j => if j = k then t else o j) (k + 1) := by
          intro j hj
          rw [ed j (by omega)]
          by_cases e : j = k
          · subst e
            show (if j = j then t else o j) < n ∧ tk_rd nd w (dn 0 o j) (if j = j then t else o j) = true ∧ ∀ u, u < (if j = j then t else o j) → tk_rd nd w (dn 0 o j) u = false
            rw [if_pos rfl]
            exact ⟨t1, t2, t3⟩
          · show (if j = k then t else o j) < n ∧ tk_rd nd w (dn 0 o j) (if j = k then t else o j) = true ∧ ∀ u, u < (if j = k then t else o j) → tk_rd nd w (dn 0 o j) u = false
            rw [if_neg e]
            exact h3 j (by omega)
        -- what is left
        have hLb : Lf < 512 := by
          refine Nat.lt_pow_two_of_testBit (n := 9) Lf (fun i hi => ?_)
          rw [h5 i, tx_bits hw i (by omega)]; rfl
        obtain ⟨L2, hL2⟩ : ∃ L2 : Nat, ∀ j, L2.testBit j = (Lf.testBit j && !(2 ^ t).testBit j) := by
          refine ⟨Lf ^^^ (2 ^ t), fun j => ?_⟩
          rw [Nat.testBit_xor, Nat.testBit_two_pow]
          by_cases e : t = j
          · subst e
            have : Lf.testBit t = true := by rw [h5 t, r.1, r.2.1]; rfl
            rw [this, decide_eq_true rfl]; rfl
          · rw [decide_eq_false e]
            cases Lf.testBit j <;> rfl
        rw [eb_diff (c := L2) (fun j _ => hL2 j)]
        refine ih (k + 1) q _ (fun j => if j = k then t else o j) L2 (by omega) (by omega) ao ?_ ?_
        · intro j hj
          show upd g k (nI t) j = nI (if j = k then t else o j)
          by_cases e : j = k
          · subst e; rw [hb_us, if_pos rfl]
          · rw [hb_un e, if_neg e]; exact h4 j (by omega)
        · intro j
          rw [hL2 j, h5 j]
          show _ = (w.testBit j && !(dn 0 (fun j => if j = k then t else o j) k ||| 2 ^ (if k = k then t else o k)).testBit j)
          rw [if_pos rfl, ed k (Nat.le_refl _), Nat.testBit_or]
          cases w.testBit j <;> cases (dn 0 o k).testBit j <;> cases (2 ^ t).testBit j <;> rfl
      · rw [t2, hb_bind, if_neg (by decide)]
        refine ⟨g, 0, rfl, Or.inr ⟨rfl, ?_⟩⟩
        intro ⟨o', ho'⟩
        obtain ⟨b1, b2, b3⟩ := ho' k (by omega)
        have ed : dn 0 o' k = dn 0 o k := dn_cong (fun j hj => ao_uniq ho' h3 j (by omega) hj)
        rw [ed, t1 _ b1] at b2
        exact absurd b2 (by decide)
  unfold fx_Tasks_arrange
  rw [tx_bc hn hw]
  have := key (tk_p n w) 0 N (σ 81) (fun _ => 0) w (by omega) (by omega) (fun k hk => absurd hk (Nat.not_lt_zero k)) (fun k hk => absurd hk (Nat.not_lt_zero k)) (fun j => by rw [dn, Nat.zero_testBit]; cases w.testBit j <;> rfl)
  rw [hb_set_self] at this
  exact this
theorem tx_less {N bc : Nat} {o bo : Nat → Nat} {σ : am_S} (hN : 200 ≤ N) (hb : bc ≤ 9) (h5 : σ 78 5 = nI bc) (h1 : ∀ j, j < bc → σ 81 j = nI (o j) ∧ o j < 9) (h2 : ∀ j, j < bc → σ 82 j = nI (bo j) ∧ bo j < 9) : ∃ v, fx_Tasks_isTrialLesser N σ = some v ∧ ((v = 1 ∧ lx_lt o bo bc) ∨ (v = 0 ∧ ¬ lx_lt o bo bc)) := by
  have key : ∀ r k q, k + r = bc → r < q → (∀ i, i < k → o i = bo i) → ∃ v, fx_Tasks_isTrialLesser_b2 N q (nI k) σ = some v ∧ ((v = 1 ∧ lx_lt o bo bc) ∨ (v = 0 ∧ ¬ lx_lt o bo bc)) := by
    intro r
    induction r with
    | zero =>
      intro k q a1 a2 a3
      obtain ⟨q, rfl⟩ : ∃ m, q = m + 1 := ⟨q - 1, by omega⟩
      refine ⟨0, by rw [fx_Tasks_isTrialLesser_b2, h5, if_pos (nI_le (by omega) (by omega))], Or.inr ⟨rfl, ?_⟩⟩
      intro ⟨j, j1, j2, j3⟩
      have := a3 j (by omega)
      omega
    | succ r ih =>
      intro k q a1 a2 a3
      obtain ⟨q, rfl⟩ : ∃ m, q = m + 1 := ⟨q - 1, by omega⟩
      obtain ⟨e1, e2⟩ := h1 k (by omega)
      obtain ⟨e3, e4⟩ := h2 k (by omega)
      rw [fx_Tasks_isTrialLesser_b2, h5, if_neg (nI_ge (by omega) (by omega))]
      simp only [hb_g (show k < 9 by omega) (by decide), nI_clamp (show k < 2 ^ 31 by omega), e1, e3, nI_1]
      by_cases c : o k = bo k
      · rw [if_pos (by rw [c])]
        exact ih (k + 1) q (by omega) (by omega) (fun i hi => by
          by_cases e : i = k
          · subst e; exact c
          · exact a3 i (by omega))
      · rw [if_neg (by rw [nI_eq (by omega) (by omega)]; exact c)]
        by_cases c2 : bo k ≤ o k
        · rw [if_pos (nI_le c2 (by omega))]
          refine ⟨0, rfl, Or.inr ⟨rfl, ?_⟩⟩
          intro ⟨j, j1, j2, j3⟩
          rcases Nat.lt_trichotomy j k with q | q | q
          · have := a3 j q; omega
          · subst q; omega
          · exact c (j2 k q)
        · rw [if_neg (nI_ge (by omega) (by omega))]
          exact ⟨1, rfl, Or.inl ⟨rfl, k, by omega, a3, by omega⟩⟩
  exact key bc 0 N (by omega) (by omega) (fun i hi => absurd hi (Nat.not_lt_zero i))
theorem lx_trans {f g h : Nat → Nat} {K : Nat} (h1 : lx_lt f g K) (h2 : lx_lt g h K) : lx_lt f h K := by
  obtain ⟨i, i1, i2, i3⟩ := h1
  obtain ⟨j, j1, j2, j3⟩ := h2
  rcases Nat.lt_trichotomy i j with q | q | q
  · exact ⟨i, i1, fun k hk => by rw [i2 k hk, j2 k (by omega)], by have := j2 i q; omega⟩
  · subst q; exact ⟨i, i1, fun k hk => by rw [i2 k hk, j2 k hk], by omega⟩
  · exact ⟨j, j1, fun k hk => by rw [i2 k (by omega), j2 k hk], by have := i2 j q; omega⟩
def tb_at (n : Nat) (dy nd : Nat → Nat) (L : Int) (w : Nat) (τ σ : am_S) : Prop := (∀ c, c ≠ 78 → c ≠ 81 → c ≠ 82 → τ c = σ c) ∧ (∀ k, k ≠ 5 → k ≠ 6 → τ 78 k = σ 78 k) ∧ ∃ bc bd bo, τ 78 5 = nI bc ∧ τ 78 6 = nI bd ∧ (∀ j, j < bc → τ 82 j = nI (bo j)) ∧ tk_CB n dy nd L w bc bd bo
theorem tb_cpy : ∀ k, k < 10 → am_cpy am_sh 81 82 0 0 (nI k) = true := by decide
theorem tb_step {N n w q : Nat} {dy nd : Nat → Nat} {L : Int} {x1 : Int32} {σ τ : am_S} (hN : 200 ≤ N) (h : tx_ok n dy nd σ) (hx : x1.toInt = L) (hw : w < 2 ^ n) (hw1 : 1 ≤ w) (ht : tb_at n dy nd L w τ σ) : ∃ τ', fx_Tasks_findBest_b12 N (q + 1) x1 (nI w) τ = fx_Tasks_findBest_b12 N q x1 (nI (w + 1)) τ' ∧ tb_at n dy nd L (w + 1) τ' σ := by
  obtain ⟨f1, f2, bc, bd, bo, b1, b2, b3, ⟨v, v1, v2, v3, v4, v5⟩, hmin⟩ := ht
  have hn := h.1
  have hw5 := tx_512 hn hw
  have hτ : tx_ok n dy nd τ := by
    unfold tx_ok
    rw [f2 4 (by decide) (by decide), f1 79 (by decide) (by decide) (by decide), f1 80 (by decide) (by decide) (by decide)]
    exact h
  have hd200 : ∀ t, t < n → dy t ≤ 200 := fun t ht => (h.2.2.1 t ht).2
  have dw := tk_d_bd (dy := dy) (w := w) n hd200
  have dv := tk_d_bd (dy := dy) (w := v) n hd200
  have pw : tk_p n w ≤ n := fb_ct_le _ n
  have pv : tk_p n v ≤ n := fb_ct_le _ n
  have l9 : 2 ^ n ≤ 2 ^ 9 := Nat.pow_le_pow_right (by decide) hn
  rw [fx_Tasks_findBest_b12, hτ.2.1, eb_sh (by omega), if_neg (nI_ge hw (by omega)), tx_days hN hτ hw5, hb_bind, tx_bc hn hw]
  unfold fx_Tasks_findBest_b110
  -- nothing new
  have keep : ∀ τ1 : am_S, (∀ c, c ≠ 81 → τ1 c = τ c) → (∀ o, tk_FE n dy nd L w → tk_AO n nd w o (tk_p n w) → tk_p n w < bc ∨ (tk_p n w = bc ∧ (bd < tk_d dy w n ∨ (bd = tk_d dy w n ∧ ¬ lx_lt o bo bc)))) → tb_at n dy nd L (w + 1) τ1 σ := by
    intro τ1 g1 g2
    refine ⟨fun c p1 p2 p3 => by rw [g1 c p2]; exact f1 c p1 p2 p3, fun k p1 p2 => by rw [g1 78 (by decide)]; exact f2 k p1 p2, bc, bd, bo, by rw [g1 78 (by decide)]; exact b1, by rw [g1 78 (by decide)]; exact b2, fun j hj => by rw [g1 82 (by decide)]; exact b3 j hj, ⟨v, by omega, v2, v3, v4, v5⟩, ?_⟩
    intro u o hu hf ho
    by_cases e : u = w
    · subst e; exact g2 o hf ho
    · exact hmin u o (by omega) hf ho
  have noFE : ¬ ((tk_d dy w n : Int) ≤ L ∧ ∃ o, tk_AO n nd w o (tk_p n w)) → ∀ o, tk_FE n dy nd L w → tk_AO n nd w o (tk_p n w) → tk_p n w < bc ∨ (tk_p n w = bc ∧ (bd < tk_d dy w n ∨ (bd = tk_d dy w n ∧ ¬ lx_lt o bo bc))) := by
    intro hno o hf _
    rcases hf with e | e
    · omega
    · exact absurd e hno
  have cd : x1 < nI (tk_d dy w n) ↔ L < (tk_d dy w n : Int) := by rw [fa_lt, nI_toInt (by omega), hx]
  by_cases c1 : L < (tk_d dy w n : Int)
  · rw [if_pos (cd.2 c1), nI_1]
    exact ⟨τ, rfl, keep τ (fun c _ => rfl) (noFE (fun q => by omega))⟩
  · rw [if_neg (fun q => c1 (cd.1 q))]
    unfold fx_Tasks_canBeBest fx_Tasks_canBeBest_b24
    rw [b1, b2]
    have ccb : (if nI bc < nI (tk_p n w) then (1 : Int32) else if nI (tk_p n w) = nI bc then (if nI bd < nI (tk_d dy w n) then 0 else 1) else 0) = 0 ↔ ¬ (bc < tk_p n w ∨ (tk_p n w = bc ∧ ¬ bd < tk_d dy w n)) := by
      by_cases d1 : bc < tk_p n w
      · rw [if_pos (nI_lt d1 (by omega))]
        exact ⟨fun q => absurd q (by decide), fun q => absurd (Or.inl d1) q⟩
      · rw [if_neg (nI_nlt (by omega) (by omega))]
        by_cases d2 : tk_p n w = bc
        · rw [if_pos (by rw [d2])]
          by_cases d3 : bd < tk_d dy w n
          · rw [if_pos (nI_lt d3 (by omega))]
            exact ⟨fun _ q => q.elim d1 (fun q => q.2 d3), fun _ => rfl⟩
          · rw [if_neg (nI_nlt (by omega) (by omega))]
            exact ⟨fun q => absurd q (by decide), fun q => absurd (Or.inr ⟨d2, d3⟩) q⟩
        · rw [if_neg (by rw [nI_eq (by omega) (by omega)]; exact d2)]
          exact ⟨fun _ q => q.elim d1 (fun q => d2 q.1), fun _ => rfl⟩
    by_cases c2 : bc < tk_p n w ∨ (tk_p n w = bc ∧ ¬ bd < tk_d dy w n)
    · rw [if_neg (fun q => (ccb.1 q) c2)]
      obtain ⟨g, fl, a1, a2⟩ := tx_arr (N := N) hN hτ hw
      rw [a1, hb_bind]
      dsimp only
      rcases a2 with ⟨a2, o, a3, a4⟩ | ⟨a2, a3⟩
      · subst a2
        rw [if_neg (by decide)]
        have hob : ∀ j, j < tk_p n w → o j < 9 := fun j hj => by have := (a3 j hj).1; omega
        have hbb : ∀ j, j < bc → bo j < 9 := fun j hj => by have := (v5 j hj).1; omega
        have fe : tk_FE n dy nd L w := Or.inr ⟨by omega, o, a3⟩
        -- the new one is taken
        have take : (bc < tk_p n w ∨ (tk_p n w = bc ∧ (tk_d dy w n < bd ∨ (tk_d dy w n = bd ∧ lx_lt o bo bc)))) → ∃ τ', fx_Tasks_findBest_b84 N (fun x1 x2 σ => fx_Tasks_findBest_b12 N q x1 x2 σ) x1 (nI w) (nI (tk_d dy w n)) (nI (tk_p n w)) (am_set τ 81 g) = fx_Tasks_findBest_b12 N q x1 (nI (w + 1)) τ' ∧ tb_at n dy nd L (w + 1) τ' σ := by
          intro better
          unfold fx_Tasks_findBest_b84 fx_Tasks_findBest_b110
          rw [hb_gt (tb_cpy _ (by omega)), nI_1]
          refine ⟨_, rfl, ?_, ?_, tk_p n w, tk_d dy w n, o, ?_, ?_, ?_, ⟨w, by omega, fe, rfl, rfl, a3⟩, ?_⟩
          · intro c p1 p2 p3
            rw [hb_set_ne p3, hb_up_ne p1, hb_up_ne p1, hb_set_ne p2]
            exact f1 c p1 p2 p3
          · intro k p1 p2
            rw [hb_set_ne (by decide), hb_up_eq, hb_un p2, hb_up_eq, hb_un p1, hb_set_ne (by decide)]
            exact f2 k p1 p2
          · rw [hb_set_ne (by decide), hb_up_eq, hb_un (by decide), hb_up_eq, hb_us]
          · rw [hb_set_ne (by decide), hb_up_eq, hb_us]
          · intro j hj
            rw [hb_set_eq, hb_cl0, nI_clamp (by omega), pk_cpy_in (by omega) (by omega)]
            show (am_up (am_up (am_set τ 81 g) 78 5 (nI (tk_p n w))) 78 6 (nI (tk_d dy w n))) 81 (0 + (j - 0)) = _
            rw [hb_up_ne (by decide), hb_up_ne (by decide), hb_set_eq, show 0 + (j - 0) = j by omega]
            exact a4 j hj
          · intro u o' hu hf ho'
            by_cases e : u = w
            · subst e
              right
              refine ⟨rfl, Or.inr ⟨rfl, ?_⟩⟩
              intro ⟨j, j1, j2, j3⟩
              have := ao_uniq ho' a3 j j1 j1
              omega
            · have hm := hmin u o' (by omega) hf ho'
              rcases better with bt | ⟨bt1, bt2⟩
              · left; omega
              · rw [bt1]
                rcases hm with hm | ⟨hm1, hm2⟩
                · exact Or.inl hm
                · right
                  refine ⟨hm1, ?_⟩
                  rcases hm2 with hm2 | ⟨hm2, hm3⟩
                  · left; omega
                  · rcases bt2 with bt2 | ⟨bt2, bt3⟩
                    · left; omega
                    · right
                      exact ⟨by omega, fun q => hm3 (lx_trans q bt3)⟩
        have e5 : am_set τ 81 g 78 5 = nI bc := by rw [hb_set_ne (by decide)]; exact b1
        have e6 : am_set τ 81 g 78 6 = nI bd := by rw [hb_set_ne (by decide)]; exact b2
        by_cases d1 : bc < tk_p n w
        · rw [if_pos (by rw [e5]; exact nI_lt d1 (by omega))]
          exact take (Or.inl d1)
        · have d1' : tk_p n w = bc ∧ ¬ bd < tk_d dy w n := c2.resolve_left d1
          rw [if_neg (by rw [e5]; exact nI_nlt (by omega) (by omega))]
          by_cases d2 : tk_d dy w n < bd
          · rw [if_pos (by rw [e6]; exact nI_lt d2 (by omega))]
            exact take (Or.inr ⟨d1'.1, Or.inl d2⟩)
          · rw [if_neg (by rw [e6]; exact nI_nlt (by omega) (by omega))]
            obtain ⟨vv, l1, l2⟩ := tx_less (N := N) (σ := am_set τ 81 g) (bc := bc) (o := o) (bo := bo) hN (by omega) (by rw [hb_set_ne (by decide)]; exact b1) (fun j hj => by rw [hb_set_eq]; exact ⟨a4 j (by omega), hob j (by omega)⟩) (fun j hj => by rw [hb_set_ne (by decide)]; exact ⟨b3 j hj, hbb j hj⟩)
            rw [l1, hb_bind]
            rcases l2 with ⟨l2, l3⟩ | ⟨l2, l3⟩
            · subst l2
              rw [if_neg (by decide)]
              exact take (Or.inr ⟨d1'.1, Or.inr ⟨by omega, l3⟩⟩)
            · subst l2
              rw [if_pos rfl, nI_1]
              refine ⟨_, rfl, keep _ (fun c hc => hb_set_ne hc) ?_⟩
              intro o' _ ho'
              right
              refine ⟨d1'.1, Or.inr ⟨by omega, ?_⟩⟩
              intro ⟨j, j1, j2, j3⟩
              refine l3 ⟨j, j1, fun i hi => ?_, ?_⟩
              · rw [← ao_uniq ho' a3 i (by omega) (by omega)]; exact j2 i hi
              · rw [← ao_uniq ho' a3 j (by omega) (by omega)]; exact j3
      · subst a2
        rw [if_pos rfl, nI_1]
        exact ⟨_, rfl, keep _ (fun c hc => hb_set_ne hc) (noFE (fun q => a3 q.2))⟩
    · rw [if_pos (ccb.2 c2), nI_1]
      refine ⟨τ, rfl, keep τ (fun c _ => rfl) ?_⟩
      intro o _ _
      omega
theorem sx_best {N n : Nat} {dy nd : Nat → Nat} {L : Int} {x1 : Int32} {σ : am_S} (hN : 20000 ≤ N) (h : tx_ok n dy nd σ) (hx : x1.toInt = L) : ∃ τ, fx_Tasks_findBest N x1 σ = some τ ∧ tb_at n dy nd L (2 ^ n) τ σ := by
  have hn := h.1
  have l9 : 2 ^ n ≤ 2 ^ 9 := Nat.pow_le_pow_right (by decide) hn
  have p0 : 0 < 2 ^ n := Nat.two_pow_pos n
  have key : ∀ r w q τ, w + r = 2 ^ n → 1 ≤ w → r < q → tb_at n dy nd L w τ σ → ∃ τ', fx_Tasks_findBest_b12 N q x1 (nI w) τ = some τ' ∧ tb_at n dy nd L (2 ^ n) τ' σ := by
    intro r
    induction r with
    | zero =>
      intro w q τ h1 h2 h3 h4
      obtain ⟨q, rfl⟩ : ∃ m, q = m + 1 := ⟨q - 1, by omega⟩
      have e : w = 2 ^ n := by omega
      rw [e] at h4
      refine ⟨τ, ?_, h4⟩
      rw [fx_Tasks_findBest_b12, h4.2.1 4 (by decide) (by decide), h.2.1, eb_sh (by omega), if_pos (nI_le (by omega) (by omega))]
    | succ r ih =>
      intro w q τ h1 h2 h3 h4
      obtain ⟨q, rfl⟩ : ∃ m, q = m + 1 := ⟨q - 1, by omega⟩
      obtain ⟨τ1, e1, e2⟩ := tb_step (N := N) (q := q) (by omega) h hx (by omega) h2 h4
      rw [e1]
      exact ih (w + 1) q τ1 (by omega) (by omega) (by omega) e2
  unfold fx_Tasks_findBest
  refine key (2 ^ n - 1) 1 N _ (by omega) (by omega) (by omega) ⟨?_, ?_, 0, 0, fun _ => 0, ?_, ?_, fun j hj => absurd hj (Nat.not_lt_zero j), ⟨0, by omega, Or.inl rfl, tk_p0, ?_, fun k hk => absurd hk (Nat.not_lt_zero k)⟩, ?_⟩
  · intro c p1 p2 p3; rw [hb_up_ne p1, hb_up_ne p1]
  · intro k p1 p2; rw [hb_up_eq, hb_un p2, hb_up_eq, hb_un p1]
  · rw [hb_up_eq, hb_un (by decide), hb_up_eq, hb_us]; rfl
  · rw [hb_up_eq, hb_us]; rfl
  · have : ∀ m, tk_d dy 0 m = 0 := by
      intro m
      induction m with
      | zero => rfl
      | succ m ih => rw [tk_d, ih, Nat.zero_testBit, if_neg (by decide)]
    exact this n
  · intro v o hv _ _
    have e : v = 0 := by omega
    subst e
    right
    refine ⟨tk_p0, Or.inr ⟨?_, fun ⟨j, j1, _⟩ => absurd j1 (Nat.not_lt_zero j)⟩⟩
    have : ∀ m, tk_d dy 0 m = 0 := by
      intro m
      induction m with
      | zero => rfl
      | succ m ih => rw [tk_d, ih, Nat.zero_testBit, if_neg (by decide)]
    exact (this n).symm
