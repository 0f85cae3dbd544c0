/-! ===== tasks: orders, runs and the best, plainly ===== -/
def tk_d (dy : Nat → Nat) (w : Nat) : Nat → Nat
  | 0 => 0
  | t + 1 => tk_d dy w t + (if w.testBit t = true then dy t else 0)
def tk_p (n w : Nat) : Nat := fb_ct (fun t => w.testBit t) n
def tk_cf (n : Nat) (dy nd : Nat → Nat) (L : Int) (s t : Nat) : Bool := (!s.testBit t) && decide (nd t &&& s = nd t) && decide ((tk_d dy (s ||| 2 ^ t) n : Int) ≤ L)
def tk_rd (nd : Nat → Nat) (w D t : Nat) : Bool := w.testBit t && (!D.testBit t) && decide (nd t &&& D = nd t)
def dn (s : Nat) (o : Nat → Nat) : Nat → Nat
  | 0 => s
  | k + 1 => dn s o k ||| 2 ^ o k
def tk_RN (n : Nat) (dy nd : Nat → Nat) (L : Int) (s : Nat) (o : Nat → Nat) (K : Nat) : Prop := ∀ k, k < K → o k < n ∧ tk_cf n dy nd L (dn s o k) (o k) = true
def tk_AO (n : Nat) (nd : Nat → Nat) (w : Nat) (o : Nat → Nat) (K : Nat) : Prop := ∀ k, k < K → o k < n ∧ tk_rd nd w (dn 0 o k) (o k) = true ∧ ∀ t, t < o k → tk_rd nd w (dn 0 o k) t = false
theorem tk_d_sub {dy : Nat → Nat} {u w : Nat} : ∀ {n : Nat}, (∀ t, t < n → u.testBit t = true → w.testBit t = true) → tk_d dy u n ≤ tk_d dy w n
  | 0, _ => Nat.le_refl 0
  | n + 1, h => by
    have ih := tk_d_sub (dy := dy) (n := n) (fun t ht => h t (by omega))
    rw [tk_d, tk_d]
    by_cases q : u.testBit n = true
    · rw [if_pos q, if_pos (h n (by omega) q)]; omega
    · rw [if_neg q]; split <;> omega
theorem tk_bit {s t k : Nat} : (s ||| 2 ^ t).testBit k = if k = t then true else s.testBit k := by
  rw [Nat.testBit_or, Nat.testBit_two_pow]
  by_cases e : k = t
  · subst e; rw [if_pos rfl, decide_eq_true rfl, Bool.or_true]
  · rw [if_neg e, decide_eq_false (fun q => e q.symm), Bool.or_false]
theorem tk_p_add {n s t : Nat} (ht : t < n) (h : s.testBit t = false) : tk_p n (s ||| 2 ^ t) = tk_p n s + 1 := by
  unfold tk_p
  have := fb_ct_upd (fun k => s.testBit k) true (i := t) (n := n) ht
  rw [h, if_neg (by decide), if_pos rfl] at this
  have e : (fun k => (s ||| 2 ^ t).testBit k) = (fun k => if k = t then true else s.testBit k) := by
    funext k; exact tk_bit
  rw [e]
  omega
theorem dn_sub {s : Nat} {o : Nat → Nat} {b k : Nat} : ∀ r, (dn s o k).testBit b = true → (dn s o (k + r)).testBit b = true
  | 0, h => h
  | r + 1, h => by
    show (dn s o (k + r) ||| 2 ^ o (k + r)).testBit b = true
    rw [Nat.testBit_or, dn_sub r h, Bool.true_or]
theorem dn_bit {s : Nat} {o : Nat → Nat} {b : Nat} : ∀ K, (dn s o K).testBit b = true ↔ s.testBit b = true ∨ ∃ j, j < K ∧ o j = b
  | 0 => ⟨fun h => Or.inl h, fun h => h.elim id (fun ⟨j, hj, _⟩ => absurd hj (Nat.not_lt_zero j))⟩
  | K + 1 => by
    rw [dn, tk_bit]
    by_cases e : b = o K
    · rw [if_pos e]
      exact ⟨fun _ => Or.inr ⟨K, by omega, e.symm⟩, fun _ => rfl⟩
    · rw [if_neg e, dn_bit K]
      constructor
      · intro h
        rcases h with h | ⟨j, hj, hb⟩
        · exact Or.inl h
        · exact Or.inr ⟨j, by omega, hb⟩
      · intro h
        rcases h with h | ⟨j, hj, hb⟩
        · exact Or.inl h
        · refine Or.inr ⟨j, ?_, hb⟩
          rcases Nat.lt_or_ge j K with q | q
          · exact q
          · have : j = K := by omega
            subst this
            exact absurd hb.symm e
theorem dn_cong {s : Nat} {o o' : Nat → Nat} : ∀ {K : Nat}, (∀ k, k < K → o k = o' k) → dn s o K = dn s o' K
  | 0, _ => rfl
  | K + 1, h => by rw [dn, dn, dn_cong (fun k hk => h k (by omega)), h K (by omega)]
def tk_cs (t : Nat) (o : Nat → Nat) : Nat → Nat := fun k => if k = 0 then t else o (k - 1)
theorem dn_cs {s t : Nat} {o : Nat → Nat} : ∀ k, dn s (tk_cs t o) (k + 1) = dn (s ||| 2 ^ t) o k
  | 0 => rfl
  | k + 1 => by
    show dn s (tk_cs t o) (k + 1) ||| 2 ^ (tk_cs t o (k + 1)) = dn (s ||| 2 ^ t) o k ||| 2 ^ o k
    rw [dn_cs k]
    rfl
theorem rn_cs {n : Nat} {dy nd : Nat → Nat} {L : Int} {s t K : Nat} {o : Nat → Nat} (ht : t < n) (hc : tk_cf n dy nd L s t = true) (h : tk_RN n dy nd L (s ||| 2 ^ t) o K) : tk_RN n dy nd L s (tk_cs t o) (K + 1) := by
  intro k hk
  by_cases e : k = 0
  · subst e; exact ⟨ht, hc⟩
  · obtain ⟨j, rfl⟩ : ∃ j, k = j + 1 := ⟨k - 1, by omega⟩
    rw [dn_cs]
    exact h j (by omega)
theorem rn_tl {n : Nat} {dy nd : Nat → Nat} {L : Int} {s K : Nat} {o : Nat → Nat} (h : tk_RN n dy nd L s o (K + 1)) : o 0 < n ∧ tk_cf n dy nd L s (o 0) = true ∧ tk_RN n dy nd L (s ||| 2 ^ o 0) (fun k => o (k + 1)) K ∧ dn s o (K + 1) = dn (s ||| 2 ^ o 0) (fun k => o (k + 1)) K := by
  have e : o = tk_cs (o 0) (fun k => o (k + 1)) := by
    funext k
    unfold tk_cs
    by_cases q : k = 0
    · rw [if_pos q, q]
    · rw [if_neg q]; congr 1; omega
  have ed : ∀ k, dn s o (k + 1) = dn (s ||| 2 ^ o 0) (fun k => o (k + 1)) k := by
    intro k
    have := dn_cs (s := s) (t := o 0) (o := fun k => o (k + 1)) k
    rw [← e] at this
    exact this
  refine ⟨(h 0 (by omega)).1, (h 0 (by omega)).2, ?_, ed K⟩
  intro k hk
  have := h (k + 1) (by omega)
  rw [ed k] at this
  exact this
theorem cf_t {n : Nat} {dy nd : Nat → Nat} {L : Int} {s t : Nat} : tk_cf n dy nd L s t = true ↔ s.testBit t = false ∧ nd t &&& s = nd t ∧ (tk_d dy (s ||| 2 ^ t) n : Int) ≤ L := by
  unfold tk_cf
  rw [Bool.and_eq_true, Bool.and_eq_true, Bool.not_eq_true', decide_eq_true_eq, decide_eq_true_eq, and_assoc]
theorem rd_t {nd : Nat → Nat} {w D t : Nat} : tk_rd nd w D t = true ↔ w.testBit t = true ∧ D.testBit t = false ∧ nd t &&& D = nd t := by
  unfold tk_rd
  rw [Bool.and_eq_true, Bool.and_eq_true, Bool.not_eq_true', decide_eq_true_eq, and_assoc]
theorem rn_pop {n : Nat} {dy nd : Nat → Nat} {L : Int} {s : Nat} {o : Nat → Nat} : ∀ {K : Nat}, tk_RN n dy nd L s o K → tk_p n (dn s o K) = tk_p n s + K
  | 0, _ => rfl
  | K + 1, h => by
    have ih := rn_pop (K := K) (fun k hk => h k (by omega))
    obtain ⟨h1, h2⟩ := h K (by omega)
    rw [dn, tk_p_add h1 (cf_t.1 h2).1]
    omega
theorem tk_p0 {n : Nat} : tk_p n 0 = 0 := by
  unfold tk_p
  rw [fb_ct_zero]
  intro k _
  exact Nat.zero_testBit k
/-! orders that the class makes -/
theorem ao_sub {n : Nat} {nd : Nat → Nat} {w : Nat} {o : Nat → Nat} : ∀ {K : Nat}, tk_AO n nd w o K → (∀ b, (dn 0 o K).testBit b = true → w.testBit b = true) ∧ tk_p n (dn 0 o K) = K
  | 0, _ => ⟨fun b h => by rw [dn, Nat.zero_testBit] at h; exact absurd h (by decide), tk_p0⟩
  | K + 1, h => by
    obtain ⟨i1, i2⟩ := ao_sub (K := K) (fun k hk => h k (by omega))
    obtain ⟨h1, h2, h3⟩ := h K (by omega)
    have r := rd_t.1 h2
    refine ⟨?_, ?_⟩
    · intro b hb
      rw [dn, tk_bit] at hb
      by_cases e : b = o K
      · rw [e]; exact r.1
      · rw [if_neg e] at hb; exact i1 b hb
    · rw [dn, tk_p_add h1 r.2.1, i2]
theorem tk_eq {n u w : Nat} (hw : ∀ b, n ≤ b → w.testBit b = false) (hs : ∀ b, u.testBit b = true → w.testBit b = true) (hp : tk_p n w ≤ tk_p n u) : u = w := by
  apply Nat.eq_of_testBit_eq
  intro b
  cases hu : u.testBit b
  · cases hwb : w.testBit b
    · rfl
    · have hb : b < n := by
        rcases Nat.lt_or_ge b n with q | q
        · exact q
        · rw [hw b q] at hwb; exact absurd hwb (by decide)
      have := ct_lt (p := fun t => u.testBit t) (q := fun t => w.testBit t) hu hwb hb (fun k _ hk => hs k hk)
      unfold tk_p at hp
      omega
  · exact (hs b hu).symm
theorem ao_all {n : Nat} {nd : Nat → Nat} {w : Nat} {o : Nat → Nat} (hw : ∀ b, n ≤ b → w.testBit b = false) (h : tk_AO n nd w o (tk_p n w)) : dn 0 o (tk_p n w) = w := by
  obtain ⟨h1, h2⟩ := ao_sub h
  exact tk_eq hw h1 (by omega)
theorem ao_rn {n : Nat} {dy nd : Nat → Nat} {L : Int} {w : Nat} {o : Nat → Nat} (h : tk_AO n nd w o (tk_p n w)) (hd : (tk_d dy w n : Int) ≤ L) : tk_RN n dy nd L 0 o (tk_p n w) := by
  intro k hk
  obtain ⟨h1, h2, h3⟩ := h k hk
  have r := rd_t.1 h2
  refine ⟨h1, cf_t.2 ⟨r.2.1, r.2.2, ?_⟩⟩
  have s := ao_sub (K := k + 1) (fun j hj => h j (by omega))
  have := tk_d_sub (dy := dy) (n := n) (u := dn 0 o (k + 1)) (w := w) (fun t _ ht => s.1 t ht)
  have e : dn 0 o (k + 1) = dn 0 o k ||| 2 ^ o k := rfl
  rw [e] at this
  omega
/-- the set of a run is never stuck -/
theorem rn_ready {n : Nat} {dy nd : Nat → Nat} {L : Int} {o : Nat → Nat} {K D : Nat} (h : tk_RN n dy nd L 0 o K) (hD : ∀ b, D.testBit b = true → (dn 0 o K).testBit b = true) (hne : tk_p n D < tk_p n (dn 0 o K)) : ∃ t, t < n ∧ tk_rd nd (dn 0 o K) D t = true := by
  have ex : ∃ j, j < K ∧ D.testBit (o j) = false := by
    refine Classical.byContradiction fun q => ?_
    have : ∀ k, k < n → (dn 0 o K).testBit k = true → D.testBit k = true := by
      intro b _ hb
      rcases (dn_bit K).1 hb with hb | ⟨j, hj, e⟩
      · rw [Nat.zero_testBit] at hb; exact absurd hb (by decide)
      · cases hd : D.testBit b
        · exact absurd ⟨j, hj, by rw [e]; exact hd⟩ q
        · rfl
    have := fb_ct_sub (p := fun t => (dn 0 o K).testBit t) (q := fun t => D.testBit t) (n := n) this
    unfold tk_p at hne
    omega
  obtain ⟨j, hj, hd, hmin⟩ := fb_first (p := fun j => D.testBit (o j) = false) ex
  obtain ⟨h1, h2⟩ := h j hj
  have c := cf_t.1 h2
  refine ⟨o j, h1, rd_t.2 ⟨(dn_bit K).2 (Or.inr ⟨j, hj, rfl⟩), hd, ?_⟩⟩
  apply Nat.eq_of_testBit_eq
  intro b
  rw [Nat.testBit_and]
  cases hb : (nd (o j)).testBit b
  · rfl
  · have e1 : (nd (o j) &&& dn 0 o j).testBit b = true := by rw [c.2.1]; exact hb
    rw [Nat.testBit_and, hb, Bool.true_and] at e1
    rcases (dn_bit j).1 e1 with e1 | ⟨i, hi, e⟩
    · rw [Nat.zero_testBit] at e1; exact absurd e1 (by decide)
    · have := hmin i hi
      rw [e] at this
      cases hdb : D.testBit b
      · exact absurd hdb this
      · rfl
/-! the table -/
def tk_B (n : Nat) (dy nd : Nat → Nat) (L : Int) (s m f : Nat) : Prop := (∃ o K, tk_RN n dy nd L s o K ∧ tk_p n (dn s o K) = m ∧ tk_d dy (dn s o K) n = f) ∧ ∀ o K, tk_RN n dy nd L s o K → tk_p n (dn s o K) < m ∨ (tk_p n (dn s o K) = m ∧ f ≤ tk_d dy (dn s o K) n)
theorem tk_B_one {n : Nat} {dy nd : Nat → Nat} {L : Int} {s m f m' f' : Nat} (h : tk_B n dy nd L s m f) (h' : tk_B n dy nd L s m' f') : m = m' ∧ f = f' := by
  obtain ⟨⟨o, K, a1, a2, a3⟩, b⟩ := h
  obtain ⟨⟨o', K', a1', a2', a3'⟩, b'⟩ := h'
  have c := b _ _ a1'
  have c' := b' _ _ a1
  omega
def tk_in (n : Nat) (dy nd : Nat → Nat) (L : Int) (mt fd : Nat → Nat) (s : Nat) : Nat → Nat × Nat
  | 0 => (tk_p n s, tk_d dy s n)
  | j + 1 => if tk_cf n dy nd L s j = true ∧ ((tk_in n dy nd L mt fd s j).1 < mt (s ||| 2 ^ j) ∨ (mt (s ||| 2 ^ j) = (tk_in n dy nd L mt fd s j).1 ∧ fd (s ||| 2 ^ j) < (tk_in n dy nd L mt fd s j).2)) then (mt (s ||| 2 ^ j), fd (s ||| 2 ^ j)) else tk_in n dy nd L mt fd s j
theorem tk_in_ok {n : Nat} {dy nd : Nat → Nat} {L : Int} {mt fd : Nat → Nat} {s : Nat} (h : ∀ t, t < n → tk_cf n dy nd L s t = true → tk_B n dy nd L (s ||| 2 ^ t) (mt (s ||| 2 ^ t)) (fd (s ||| 2 ^ t))) : ∀ j, j ≤ n → (∃ o K, tk_RN n dy nd L s o K ∧ (K = 0 ∨ o 0 < j) ∧ tk_p n (dn s o K) = (tk_in n dy nd L mt fd s j).1 ∧ tk_d dy (dn s o K) n = (tk_in n dy nd L mt fd s j).2) ∧ ∀ o K, tk_RN n dy nd L s o K → (K = 0 ∨ o 0 < j) → tk_p n (dn s o K) < (tk_in n dy nd L mt fd s j).1 ∨ (tk_p n (dn s o K) = (tk_in n dy nd L mt fd s j).1 ∧ (tk_in n dy nd L mt fd s j).2 ≤ tk_d dy (dn s o K) n)
  | 0, _ => by
    refine ⟨⟨fun _ => 0, 0, fun k hk => absurd hk (Nat.not_lt_zero k), Or.inl rfl, rfl, rfl⟩, ?_⟩
    intro o K _ hK
    have : K = 0 := by omega
    subst this
    right
    exact ⟨rfl, Nat.le_refl _⟩
  | j + 1, hj => by
    obtain ⟨⟨o0, K0, a1, a2, a3, a4⟩, ih⟩ := tk_in_ok h j (by omega)
    rw [tk_in]
    generalize tk_in n dy nd L mt fd s j = I at *
    by_cases c : tk_cf n dy nd L s j = true
    · obtain ⟨⟨o1, K1, b1, b2, b3⟩, hB⟩ := h j (by omega) c
      by_cases bt : I.1 < mt (s ||| 2 ^ j) ∨ (mt (s ||| 2 ^ j) = I.1 ∧ fd (s ||| 2 ^ j) < I.2)
      · rw [if_pos ⟨c, bt⟩]
        refine ⟨⟨tk_cs j o1, K1 + 1, rn_cs (by omega) c b1, Or.inr (by show j < j + 1; omega), by rw [dn_cs]; exact b2, by rw [dn_cs]; exact b3⟩, ?_⟩
        intro o K hr hK
        show tk_p n (dn s o K) < mt (s ||| 2 ^ j) ∨ (tk_p n (dn s o K) = mt (s ||| 2 ^ j) ∧ fd (s ||| 2 ^ j) ≤ tk_d dy (dn s o K) n)
        by_cases e : K = 0 ∨ o 0 < j
        · have := ih o K hr e
          omega
        · obtain ⟨K', rfl⟩ : ∃ K', K = K' + 1 := ⟨K - 1, by omega⟩
          obtain ⟨r1, r2, r3, r4⟩ := rn_tl hr
          have e0 : o 0 = j := by omega
          rw [r4, e0]
          rw [e0] at r3
          exact hB _ _ r3
      · rw [if_neg (fun q => bt q.2)]
        refine ⟨⟨o0, K0, a1, by omega, a3, a4⟩, ?_⟩
        intro o K hr hK
        by_cases e : K = 0 ∨ o 0 < j
        · exact ih o K hr e
        · obtain ⟨K', rfl⟩ : ∃ K', K = K' + 1 := ⟨K - 1, by omega⟩
          obtain ⟨r1, r2, r3, r4⟩ := rn_tl hr
          have e0 : o 0 = j := by omega
          rw [r4, e0]
          rw [e0] at r3
          have := hB _ _ r3
          omega
    · rw [if_neg (fun q => c q.1)]
      refine ⟨⟨o0, K0, a1, by omega, a3, a4⟩, ?_⟩
      intro o K hr hK
      by_cases e : K = 0 ∨ o 0 < j
      · exact ih o K hr e
      · obtain ⟨K', rfl⟩ : ∃ K', K = K' + 1 := ⟨K - 1, by omega⟩
        obtain ⟨r1, r2, r3, r4⟩ := rn_tl hr
        have e0 : o 0 = j := by omega
        rw [e0] at r2
        exact absurd r2 c
theorem tk_in_B {n : Nat} {dy nd : Nat → Nat} {L : Int} {mt fd : Nat → Nat} {s : Nat} (h : ∀ t, t < n → tk_cf n dy nd L s t = true → tk_B n dy nd L (s ||| 2 ^ t) (mt (s ||| 2 ^ t)) (fd (s ||| 2 ^ t))) : tk_B n dy nd L s (tk_in n dy nd L mt fd s n).1 (tk_in n dy nd L mt fd s n).2 := by
  obtain ⟨⟨o0, K0, a1, a2, a3, a4⟩, ih⟩ := tk_in_ok h n (Nat.le_refl n)
  refine ⟨⟨o0, K0, a1, a3, a4⟩, ?_⟩
  intro o K hr
  refine ih o K hr ?_
  by_cases e : K = 0
  · exact Or.inl e
  · exact Or.inr (hr 0 (by omega)).1
/-! the class's best: of all sets that can be put into an order -/
def lx_lt (f g : Nat → Nat) (K : Nat) : Prop := ∃ j, j < K ∧ (∀ i, i < j → f i = g i) ∧ f j < g j
def tk_FE (n : Nat) (dy nd : Nat → Nat) (L : Int) (v : Nat) : Prop := v = 0 ∨ ((tk_d dy v n : Int) ≤ L ∧ ∃ o, tk_AO n nd v o (tk_p n v))
def tk_CB (n : Nat) (dy nd : Nat → Nat) (L : Int) (w bc bd : Nat) (bo : Nat → Nat) : Prop :=
  (∃ v, v < w ∧ tk_FE n dy nd L v ∧ tk_p n v = bc ∧ tk_d dy v n = bd ∧ tk_AO n nd v bo bc) ∧
  ∀ v o, v < w → tk_FE n dy nd L v → tk_AO n nd v o (tk_p n v) → tk_p n v < bc ∨ (tk_p n v = bc ∧ (bd < tk_d dy v n ∨ (bd = tk_d dy v n ∧ ¬ lx_lt o bo bc)))
theorem tk_run {n : Nat} {dy nd : Nat → Nat} {L : Int} {v : Nat} {o : Nat → Nat} (hv : v < 2 ^ n) (hf : tk_FE n dy nd L v) (ho : tk_AO n nd v o (tk_p n v)) : tk_RN n dy nd L 0 o (tk_p n v) ∧ dn 0 o (tk_p n v) = v := by
  have hb : ∀ b, n ≤ b → v.testBit b = false := fun b hb => Nat.testBit_lt_two_pow (Nat.lt_of_lt_of_le hv (Nat.pow_le_pow_right (by decide) hb))
  refine ⟨?_, ao_all hb ho⟩
  rcases hf with e | ⟨hd, _⟩
  · subst e
    rw [tk_p0]
    exact fun k hk => absurd hk (Nat.not_lt_zero k)
  · exact ao_rn ho hd
/-- the set of a run has an order of the class's making -/
theorem tk_order {n : Nat} {dy nd : Nat → Nat} {L : Int} {q : Nat → Nat} {K : Nat} (h : tk_RN n dy nd L 0 q K) : ∀ k, k ≤ K → ∃ o, tk_AO n nd (dn 0 q K) o k
  | 0, _ => ⟨fun _ => 0, fun k hk => absurd hk (Nat.not_lt_zero k)⟩
  | k + 1, hk => by
    obtain ⟨o, ho⟩ := tk_order h k (by omega)
    obtain ⟨s1, s2⟩ := ao_sub ho
    have hp := rn_pop h
    rw [tk_p0] at hp
    have ex := rn_ready h s1 (by omega)
    obtain ⟨t, ht, hr, hmin⟩ := fb_first (p := fun t => tk_rd nd (dn 0 q K) (dn 0 o k) t = true) ex
    refine ⟨fun j => if j = k then t else o j, ?_⟩
    intro j hj
    have ed : ∀ i, i ≤ k → dn 0 (fun j => if j = k then t else o j) i = dn 0 o i := fun i hi => dn_cong (fun u hu => if_neg (by omega))
    rw [ed j (by omega)]
    by_cases e : j = k
    · subst e
      show (if j = j then t else o j) < n ∧ tk_rd nd (dn 0 q K) (dn 0 o j) (if j = j then t else o j) = true ∧ ∀ u, u < (if j = j then t else o j) → tk_rd nd (dn 0 q K) (dn 0 o j) u = false
      rw [if_pos rfl]
      refine ⟨ht, hr, fun u hu => ?_⟩
      have := hmin u hu
      cases hx : tk_rd nd (dn 0 q K) (dn 0 o j) u
      · rfl
      · exact absurd hx this
    · show (if j = k then t else o j) < n ∧ tk_rd nd (dn 0 q K) (dn 0 o j) (if j = k then t else o j) = true ∧ ∀ u, u < (if j = k then t else o j) → tk_rd nd (dn 0 q K) (dn 0 o j) u = false
      rw [if_neg e]
      exact ho j (by omega)
theorem tk_FE_run {n : Nat} {dy nd : Nat → Nat} {L : Int} {q : Nat → Nat} {K : Nat} (h : tk_RN n dy nd L 0 q K) : tk_FE n dy nd L (dn 0 q K) := by
  by_cases e : K = 0
  · subst e; exact Or.inl rfl
  · right
    obtain ⟨J, rfl⟩ : ∃ J, K = J + 1 := ⟨K - 1, by omega⟩
    have hp := rn_pop h
    rw [tk_p0, Nat.zero_add] at hp
    refine ⟨(cf_t.1 (h J (by omega)).2).2.2, ?_⟩
    rw [hp]
    exact tk_order h (J + 1) (Nat.le_refl _)
theorem dn_lt {n : Nat} {dy nd : Nat → Nat} {L : Int} {q : Nat → Nat} {K : Nat} (h : tk_RN n dy nd L 0 q K) : dn 0 q K < 2 ^ n := by
  refine Nat.lt_pow_two_of_testBit _ (fun b hb => ?_)
  cases hx : (dn 0 q K).testBit b
  · rfl
  · rcases (dn_bit K).1 hx with e | ⟨j, hj, e⟩
    · rw [Nat.zero_testBit] at e; exact absurd e (by decide)
    · have := (h j hj).1
      omega
theorem tk_same {n : Nat} {dy nd : Nat → Nat} {L : Int} {bc bd m f : Nat} {bo : Nat → Nat} (hc : tk_CB n dy nd L (2 ^ n) bc bd bo) (hB : tk_B n dy nd L 0 m f) : bc = m ∧ bd = f := by
  obtain ⟨⟨v, v1, v2, v3, v4, v5⟩, hmin⟩ := hc
  obtain ⟨⟨o, K, a1, a2, a3⟩, b⟩ := hB
  have r := tk_run v1 v2 (by rw [v3]; exact v5)
  have c1 := b _ _ r.1
  rw [r.2] at c1
  have hp := rn_pop a1
  rw [tk_p0, Nat.zero_add] at hp
  obtain ⟨o', ho'⟩ := tk_order a1 K (Nat.le_refl K)
  have c2 := hmin (dn 0 o K) o' (dn_lt a1) (tk_FE_run a1) (by rw [hp]; exact ho')
  omega
theorem tk_ord {n : Nat} {dy nd : Nat → Nat} {L : Int} {bc bd : Nat} {bo q : Nat → Nat} {mt fd : Nat → Nat} (hc : tk_CB n dy nd L (2 ^ n) bc bd bo) (hT : ∀ s, s < 2 ^ n → tk_B n dy nd L s (mt s) (fd s)) (hbc : bc = mt 0) (hbd : bd = fd 0)
    (hq : ∀ k, k < bc → q k < n ∧ tk_cf n dy nd L (dn 0 q k) (q k) = true ∧ mt (dn 0 q k ||| 2 ^ q k) = bc ∧ fd (dn 0 q k ||| 2 ^ q k) = bd ∧ ∀ t, t < q k → ¬ (tk_cf n dy nd L (dn 0 q k) t = true ∧ mt (dn 0 q k ||| 2 ^ t) = bc ∧ fd (dn 0 q k ||| 2 ^ t) = bd)) : ∀ k, k < bc → bo k = q k := by
  obtain ⟨⟨v, v1, v2, v3, v4, v5⟩, hmin⟩ := hc
  have r := tk_run v1 v2 (by rw [v3]; exact v5)
  rw [v3] at r
  have hrq : tk_RN n dy nd L 0 q bc := fun k hk => ⟨(hq k hk).1, (hq k hk).2.1⟩
  have hpq := rn_pop hrq
  rw [tk_p0, Nat.zero_add] at hpq
  -- what follows a run up to the best has the table's best
  have run : ∀ k, k < bc → mt (dn 0 bo (k + 1)) = bc ∧ fd (dn 0 bo (k + 1)) = bd := by
    intro k hk
    have lt := dn_lt (K := k + 1) (fun j hj => r.1 j (by omega) : tk_RN n dy nd L 0 bo (k + 1))
    have hB := hT _ lt
    -- the rest of the run
    have split : ∀ i, dn (dn 0 bo (k + 1)) (fun j => bo (k + 1 + j)) i = dn 0 bo (k + 1 + i) := by
      intro i
      induction i with
      | zero => rfl
      | succ i ih => rw [dn, ih]; rfl
    have rr : tk_RN n dy nd L (dn 0 bo (k + 1)) (fun j => bo (k + 1 + j)) (bc - (k + 1)) := by
      intro j hj
      rw [split]
      exact r.1 (k + 1 + j) (by omega)
    have c1 := hB.2 _ _ rr
    rw [split, show k + 1 + (bc - (k + 1)) = bc by omega, r.2, v3, v4] at c1
    obtain ⟨⟨o2, K2, d1, d2, d3⟩, _⟩ := hB
    -- a run from there, put behind the first part, is a run from 0
    have hB0 := (hT 0 (Nat.two_pow_pos n)).2
    have glue : ∀ i, i ≤ K2 → dn 0 (fun j => if j < k + 1 then bo j else o2 (j - (k + 1))) (k + 1 + i) = dn (dn 0 bo (k + 1)) o2 i := by
      intro i
      induction i with
      | zero =>
        intro _
        exact dn_cong (fun j hj => if_pos hj)
      | succ i ih =>
        intro hi
        show dn 0 _ (k + 1 + i) ||| 2 ^ (if k + 1 + i < k + 1 then bo (k + 1 + i) else o2 (k + 1 + i - (k + 1))) = _
        rw [ih (by omega), if_neg (by omega), show k + 1 + i - (k + 1) = i by omega]
        rfl
    have rg : tk_RN n dy nd L 0 (fun j => if j < k + 1 then bo j else o2 (j - (k + 1))) (k + 1 + K2) := by
      intro j hj
      by_cases e : j < k + 1
      · have ed : dn 0 (fun j => if j < k + 1 then bo j else o2 (j - (k + 1))) j = dn 0 bo j := dn_cong (fun u hu => if_pos (by omega))
        rw [ed]
        show (if j < k + 1 then bo j else o2 (j - (k + 1))) < n ∧ tk_cf n dy nd L (dn 0 bo j) (if j < k + 1 then bo j else o2 (j - (k + 1))) = true
        rw [if_pos e]
        exact r.1 j (by omega)
      · obtain ⟨i, rfl⟩ : ∃ i, j = k + 1 + i := ⟨j - (k + 1), by omega⟩
        rw [glue i (by omega)]
        show (if k + 1 + i < k + 1 then bo (k + 1 + i) else o2 (k + 1 + i - (k + 1))) < n ∧ tk_cf n dy nd L _ (if k + 1 + i < k + 1 then bo (k + 1 + i) else o2 (k + 1 + i - (k + 1))) = true
        rw [if_neg (by omega), show k + 1 + i - (k + 1) = i by omega]
        exact d1 i (by omega)
    have c2 := hB0 _ _ rg
    rw [glue K2 (Nat.le_refl _), d2, d3, ← hbc, ← hbd] at c2
    omega
  -- the order of the reference's own set
  obtain ⟨o', ho'⟩ := tk_order hrq bc (Nat.le_refl bc)
  have dq : bc = 0 ∨ tk_d dy (dn 0 q bc) n = bd := by
    by_cases e : bc = 0
    · exact Or.inl e
    · right
      have h1 := hq (bc - 1) (by omega)
      have h2 : dn 0 q (bc - 1) ||| 2 ^ q (bc - 1) = dn 0 q bc := by
        have : bc = bc - 1 + 1 := by omega
        conv => rhs; rw [this]
        rfl
      rw [h2] at h1
      have hB := hT _ (dn_lt hrq)
      have e0 := hB.2 (fun _ => 0) 0 (fun k hk => absurd hk (Nat.not_lt_zero k))
      have e1 : dn (dn 0 q bc) (fun _ => 0) 0 = dn 0 q bc := rfl
      rw [e1, hpq, h1.2.2.1, h1.2.2.2.1] at e0
      have hB0 := (hT 0 (Nat.two_pow_pos n)).2 _ _ hrq
      obtain ⟨⟨o2, K2, d1, d2, d3⟩, _⟩ := hB
      rw [h1.2.2.1] at d2
      rw [h1.2.2.2.1] at d3
      have hp2 := rn_pop d1
      rw [hpq, d2] at hp2
      have K0 : K2 = 0 := by omega
      subst K0
      exact d3
  have notless := hmin (dn 0 q bc) o' (dn_lt hrq) (tk_FE_run hrq) (by rw [hpq]; exact ho')
  rw [hpq] at notless
  have notless' : bc = 0 ∨ ¬ lx_lt o' bo bc := by
    rcases dq with e | e
    · exact Or.inl e
    · right
      rw [e] at notless
      rcases notless with h | ⟨_, h | h⟩
      · omega
      · omega
      · exact h.2
  -- o' comes at or ahead of q where they first differ
  have ole : ∀ k, k < bc → (∀ i, i < k → o' i = q i) → o' k ≤ q k := by
    intro k hk hag
    obtain ⟨a1, a2, a3⟩ := ho' k hk
    have ed : dn 0 o' k = dn 0 q k := dn_cong hag
    rw [ed] at a2 a3
    have c := cf_t.1 (hq k hk).2.1
    refine Classical.byContradiction fun lt => ?_
    have := a3 (q k) (by omega)
    have t : tk_rd nd (dn 0 q bc) (dn 0 q k) (q k) = true := rd_t.2 ⟨(dn_bit bc).2 (Or.inr ⟨k, hk, rfl⟩), c.1, c.2.1⟩
    rw [t] at this
    exact absurd this (by decide)
  intro k
  induction k using Nat.strongRecOn with
  | _ k ih =>
    intro hk
    have ed : dn 0 bo k = dn 0 q k := dn_cong (fun j hj => ih j hj (by omega))
    obtain ⟨q1, q2, q3, q4, q5⟩ := hq k hk
    have le1 : ¬ bo k < q k := by
      intro lt
      obtain ⟨b1, b2⟩ := r.1 k hk
      rw [ed] at b2
      have b3 := run k hk
      rw [dn, ed] at b3
      exact q5 (bo k) lt ⟨b2, b3.1, b3.2⟩
    have le2 : ¬ q k < bo k := by
      intro lt
      have nl : ¬ lx_lt o' bo bc := notless'.resolve_left (by omega)
      by_cases df : ∃ j, j < k ∧ o' j ≠ q j
      · obtain ⟨j, hj, hx, hm⟩ := fb_first (p := fun j => o' j ≠ q j) df
        have ag : ∀ i, i < j → o' i = q i := fun i hi => Classical.byContradiction fun q => hm i hi q
        have := ole j (by omega) ag
        refine nl ⟨j, by omega, fun i hi => ?_, ?_⟩
        · rw [ag i hi, ih i (by omega) (by omega)]
        · rw [ih j hj (by omega)]; omega
      · have ag : ∀ i, i < k → o' i = q i := fun i hi => Classical.byContradiction fun q => df ⟨i, hi, q⟩
        have := ole k hk ag
        refine nl ⟨k, hk, fun i hi => ?_, by omega⟩
        rw [ag i hi, ih i hi (by omega)]
    omega
