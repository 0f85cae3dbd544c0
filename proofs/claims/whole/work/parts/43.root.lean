/-! ===== what is tied: rounds come to rest ===== -/
def rt_st (ta tb : Nat → Nat) (k : Nat) (r : Nat → Nat) : Nat → Nat := fun v => if v = ta k ∨ v = tb k then min (r (ta k)) (r (tb k)) else r v
def rt_rd (ta tb : Nat → Nat) : Nat → (Nat → Nat) → Nat → Nat
  | 0, r => r
  | k + 1, r => rt_st ta tb k (rt_rd ta tb k r)
def rt_it (t : Nat) (ta tb : Nat → Nat) : Nat → (Nat → Nat) → Nat → Nat
  | 0, r => r
  | j + 1, r => rt_rd ta tb t (rt_it t ta tb j r)
theorem rt_st_le {ta tb : Nat → Nat} {k : Nat} {r : Nat → Nat} (v : Nat) : rt_st ta tb k r v ≤ r v := by
  unfold rt_st
  split
  · rename_i h
    rcases h with h | h
    · rw [h]; omega
    · rw [h]; omega
  · omega
theorem rt_rd_add {ta tb : Nat → Nat} {r : Nat → Nat} (v m : Nat) : ∀ j, rt_rd ta tb (m + j) r v ≤ rt_rd ta tb m r v
  | 0 => Nat.le_refl _
  | j + 1 => Nat.le_trans (rt_st_le v) (rt_rd_add v m j)
theorem rt_rd_mono {ta tb : Nat → Nat} {r : Nat → Nat} (v : Nat) {m t : Nat} (h : m ≤ t) : rt_rd ta tb t r v ≤ rt_rd ta tb m r v := by
  have := rt_rd_add (ta := ta) (tb := tb) (r := r) v m (t - m)
  rwa [Nat.add_sub_cancel' h] at this
theorem rt_it_add {t : Nat} {ta tb : Nat → Nat} {r : Nat → Nat} (v m : Nat) : ∀ j, rt_it t ta tb (m + j) r v ≤ rt_it t ta tb m r v
  | 0 => Nat.le_refl _
  | j + 1 => Nat.le_trans (rt_rd_mono (m := 0) v (Nat.zero_le t)) (rt_it_add v m j)
theorem rt_it_mono {t : Nat} {ta tb : Nat → Nat} {r : Nat → Nat} (v : Nat) {m j : Nat} (h : m ≤ j) : rt_it t ta tb j r v ≤ rt_it t ta tb m r v := by
  have := rt_it_add (t := t) (ta := ta) (tb := tb) (r := r) v m (j - m)
  rwa [Nat.add_sub_cancel' h] at this
theorem rt_it_fix {t : Nat} {ta tb : Nat → Nat} {r : Nat → Nat} {m : Nat} (h : rt_rd ta tb t (rt_it t ta tb m r) = rt_it t ta tb m r) : ∀ j, rt_it t ta tb (m + j) r = rt_it t ta tb m r
  | 0 => rfl
  | j + 1 => by
    show rt_rd ta tb t (rt_it t ta tb (m + j) r) = _
    rw [rt_it_fix h j, h]
/-- values of a part that no tie leaves stay at or above a bound -/
theorem rt_st_lb {ta tb : Nat → Nat} {k m : Nat} {r : Nat → Nat} {C : Nat → Prop} (hC : C (ta k) ↔ C (tb k)) (h : ∀ v, C v → m ≤ r v) : ∀ v, C v → m ≤ rt_st ta tb k r v := by
  intro v hv
  unfold rt_st
  split
  · rename_i q
    have ha : C (ta k) := by
      rcases q with q | q
      · rw [← q]; exact hv
      · exact hC.2 (by rw [← q]; exact hv)
    have h1 := h _ ha
    have h2 := h _ (hC.1 ha)
    omega
  · exact h v hv
theorem rt_rd_lb {t m : Nat} {ta tb : Nat → Nat} {r : Nat → Nat} {C : Nat → Prop} (hC : ∀ k, k < t → (C (ta k) ↔ C (tb k))) (h : ∀ v, C v → m ≤ r v) : ∀ k, k ≤ t → ∀ v, C v → m ≤ rt_rd ta tb k r v
  | 0, _ => h
  | k + 1, hk => rt_st_lb (hC k (by omega)) (rt_rd_lb hC h k (by omega))
theorem rt_it_lb {t m : Nat} {ta tb : Nat → Nat} {r : Nat → Nat} {C : Nat → Prop} (hC : ∀ k, k < t → (C (ta k) ↔ C (tb k))) (h : ∀ v, C v → m ≤ r v) : ∀ j v, C v → m ≤ rt_it t ta tb j r v
  | 0 => h
  | j + 1 => rt_rd_lb hC (rt_it_lb hC h j) t (Nat.le_refl t)
theorem rt_it_it {t : Nat} {ta tb : Nat → Nat} {r : Nat → Nat} (m : Nat) : ∀ j, rt_it t ta tb j (rt_it t ta tb m r) = rt_it t ta tb (m + j) r
  | 0 => rfl
  | j + 1 => by
    show rt_rd ta tb t (rt_it t ta tb j (rt_it t ta tb m r)) = rt_rd ta tb t (rt_it t ta tb (m + j) r)
    rw [rt_it_it m j]
theorem rt_rd_out {n t : Nat} {ta tb : Nat → Nat} {r : Nat → Nat} (hT : ∀ k, k < t → ta k < n ∧ tb k < n) {v : Nat} (hv : n ≤ v) : ∀ k, k ≤ t → rt_rd ta tb k r v = r v
  | 0, _ => rfl
  | k + 1, hk => by
    have := hT k (by omega)
    show rt_st ta tb k (rt_rd ta tb k r) v = r v
    unfold rt_st
    rw [if_neg (by omega)]
    exact rt_rd_out hT hv k (by omega)
theorem rt_it_out {n t : Nat} {ta tb : Nat → Nat} {r : Nat → Nat} (hT : ∀ k, k < t → ta k < n ∧ tb k < n) {v : Nat} (hv : n ≤ v) : ∀ j, rt_it t ta tb j r v = r v
  | 0 => rfl
  | j + 1 => by
    show rt_rd ta tb t (rt_it t ta tb j r) v = r v
    rw [rt_rd_out hT hv t (Nat.le_refl t), rt_it_out hT hv j]
/-- a round that changes something makes the sum less -/
theorem rt_sum_lt {f g : Nat → Nat} {u : Nat} (hu : f u < g u) : ∀ {n : Nat}, u < n → (∀ k, f k ≤ g k) → fb_sm f n < fb_sm g n
  | 0, h, _ => absurd h (Nat.not_lt_zero u)
  | n + 1, h, hs => by
    rw [fb_sm_succ, fb_sm_succ]
    rcases Nat.lt_or_ge u n with q | q
    · have := rt_sum_lt hu q hs
      have := hs n
      omega
    · have e : u = n := by omega
      subst e
      have := fb_sm_le (n := u) (fun k _ => hs k)
      omega
theorem rt_rest {n t : Nat} {ta tb : Nat → Nat} {r : Nat → Nat} (hT : ∀ k, k < t → ta k < n ∧ tb k < n) : ∀ B j, fb_sm (rt_it t ta tb j r) n ≤ B → ∃ M, rt_rd ta tb t (rt_it t ta tb M r) = rt_it t ta tb M r := by
  intro B
  induction B with
  | zero =>
    intro j h
    refine ⟨j, ?_⟩
    funext v
    rcases Nat.lt_or_ge v n with q | q
    · have h1 := fb_sm_zero (by omega : fb_sm (rt_it t ta tb j r) n = 0) v q
      have h2 := rt_rd_mono (ta := ta) (tb := tb) (r := rt_it t ta tb j r) v (Nat.zero_le t)
      have h3 : rt_rd ta tb 0 (rt_it t ta tb j r) v = rt_it t ta tb j r v := rfl
      omega
    · exact rt_rd_out hT q t (Nat.le_refl t)
  | succ B ih =>
    intro j h
    by_cases q : rt_rd ta tb t (rt_it t ta tb j r) = rt_it t ta tb j r
    · exact ⟨j, q⟩
    · have ⟨v, hv⟩ : ∃ v, rt_rd ta tb t (rt_it t ta tb j r) v ≠ rt_it t ta tb j r v := Classical.byContradiction fun q2 => q (funext fun v => Classical.byContradiction fun q3 => q2 ⟨v, q3⟩)
      have h2 : ∀ v, rt_rd ta tb t (rt_it t ta tb j r) v ≤ rt_it t ta tb j r v := fun v => rt_rd_mono (ta := ta) (tb := tb) (r := rt_it t ta tb j r) v (Nat.zero_le t)
      have hvn : v < n := by
        rcases Nat.lt_or_ge v n with q2 | q2
        · exact q2
        · exact absurd (rt_rd_out hT q2 t (Nat.le_refl t)) hv
      have h3 := h2 v
      have := rt_sum_lt (f := rt_rd ta tb t (rt_it t ta tb j r)) (g := rt_it t ta tb j r) (u := v) (by omega) hvn h2
      exact ih (j + 1) (by show fb_sm (rt_rd ta tb t (rt_it t ta tb j r)) n ≤ B; omega)
/-- one tie whose one end has its last value gives it to the other -/
theorem rt_give {t k : Nat} {ta tb : Nat → Nat} {r ρ : Nat → Nat} (hk : k < t) (hlo : ∀ m v, m ≤ t → ρ v ≤ rt_rd ta tb m r v) (heq : ρ (ta k) = ρ (tb k)) (h : r (ta k) = ρ (ta k) ∨ r (tb k) = ρ (tb k)) : rt_rd ta tb t r (ta k) = ρ (ta k) ∧ rt_rd ta tb t r (tb k) = ρ (tb k) := by
  have a0 := rt_rd_mono (ta := ta) (tb := tb) (r := r) (ta k) (Nat.zero_le k)
  have b0 := rt_rd_mono (ta := ta) (tb := tb) (r := r) (tb k) (Nat.zero_le k)
  have ez : ∀ v, rt_rd ta tb 0 r v = r v := fun v => rfl
  have a1 := rt_rd_mono (ta := ta) (tb := tb) (r := r) (ta k) (show k + 1 ≤ t by omega)
  have b1 := rt_rd_mono (ta := ta) (tb := tb) (r := r) (tb k) (show k + 1 ≤ t by omega)
  have e1 : rt_rd ta tb (k + 1) r (ta k) = min (rt_rd ta tb k r (ta k)) (rt_rd ta tb k r (tb k)) := by
    show rt_st ta tb k (rt_rd ta tb k r) (ta k) = _
    unfold rt_st
    rw [if_pos (Or.inl rfl)]
  have e2 : rt_rd ta tb (k + 1) r (tb k) = min (rt_rd ta tb k r (ta k)) (rt_rd ta tb k r (tb k)) := by
    show rt_st ta tb k (rt_rd ta tb k r) (tb k) = _
    unfold rt_st
    rw [if_pos (Or.inr rfl)]
  have l1 := hlo t (ta k) (Nat.le_refl t)
  have l2 := hlo t (tb k) (Nat.le_refl t)
  have z1 := ez (ta k)
  have z2 := ez (tb k)
  omega
theorem rt_done {n t : Nat} {ta tb : Nat → Nat} {r : Nat → Nat} (hT : ∀ k, k < t → ta k < n ∧ tb k < n) : rt_rd ta tb t (rt_it t ta tb t r) = rt_it t ta tb t r := by
  obtain ⟨M, hM⟩ := rt_rest (r := r) hT _ 0 (Nat.le_refl _)
  -- the last values
  have hfix := rt_it_fix hM
  have hlo : ∀ j v, rt_it t ta tb M r v ≤ rt_it t ta tb j r v := by
    intro j v
    have h1 := rt_it_mono (t := t) (ta := ta) (tb := tb) (r := r) v (show j ≤ M + j by omega)
    rw [hfix j] at h1
    exact h1
  have hlo2 : ∀ j m v, m ≤ t → rt_it t ta tb M r v ≤ rt_rd ta tb m (rt_it t ta tb j r) v := by
    intro j m v hm
    have h1 := rt_rd_mono (ta := ta) (tb := tb) (r := rt_it t ta tb j r) v hm
    have h2 := hlo (j + 1) v
    have h3 : rt_it t ta tb (j + 1) r v = rt_rd ta tb t (rt_it t ta tb j r) v := rfl
    omega
  have heq : ∀ k, k < t → rt_it t ta tb M r (ta k) = rt_it t ta tb M r (tb k) := by
    intro k hk
    have a0 := rt_rd_mono (ta := ta) (tb := tb) (r := rt_it t ta tb M r) (ta k) (show k + 1 ≤ t by omega)
    have b0 := rt_rd_mono (ta := ta) (tb := tb) (r := rt_it t ta tb M r) (tb k) (show k + 1 ≤ t by omega)
    have a1 := rt_rd_mono (ta := ta) (tb := tb) (r := rt_it t ta tb M r) (ta k) (Nat.zero_le k)
    have b1 := rt_rd_mono (ta := ta) (tb := tb) (r := rt_it t ta tb M r) (tb k) (Nat.zero_le k)
    have e1 : rt_rd ta tb (k + 1) (rt_it t ta tb M r) (ta k) = min (rt_rd ta tb k (rt_it t ta tb M r) (ta k)) (rt_rd ta tb k (rt_it t ta tb M r) (tb k)) := by
      show rt_st ta tb k (rt_rd ta tb k (rt_it t ta tb M r)) (ta k) = _
      unfold rt_st
      rw [if_pos (Or.inl rfl)]
    have e2 : rt_rd ta tb (k + 1) (rt_it t ta tb M r) (tb k) = min (rt_rd ta tb k (rt_it t ta tb M r) (ta k)) (rt_rd ta tb k (rt_it t ta tb M r) (tb k)) := by
      show rt_st ta tb k (rt_rd ta tb k (rt_it t ta tb M r)) (tb k) = _
      unfold rt_st
      rw [if_pos (Or.inr rfl)]
    rw [hM] at a0 b0
    have z1 : rt_rd ta tb 0 (rt_it t ta tb M r) (ta k) = rt_it t ta tb M r (ta k) := rfl
    have z2 : rt_rd ta tb 0 (rt_it t ta tb M r) (tb k) = rt_it t ta tb M r (tb k) := rfl
    omega
  generalize hρ : rt_it t ta tb M r = ρ at *
  -- ties with both ends at rest
  have step : ∀ j, (∀ v, rt_it t ta tb j r v = ρ v) ∨ j ≤ fb_ct (fun k => decide (rt_it t ta tb j r (ta k) = ρ (ta k) ∧ rt_it t ta tb j r (tb k) = ρ (tb k))) t := by
    intro j
    induction j with
    | zero => right; omega
    | succ j ih =>
      rcases ih with ih | ih
      · left
        intro v
        have h1 := hlo (j + 1) v
        have h2 := rt_it_mono (t := t) (ta := ta) (tb := tb) (r := r) v (show j ≤ j + 1 by omega)
        have := ih v
        omega
      · by_cases all : ∀ v, rt_it t ta tb j r v = ρ v
        · left
          intro v
          have h1 := hlo (j + 1) v
          have h2 := rt_it_mono (t := t) (ta := ta) (tb := tb) (r := r) v (show j ≤ j + 1 by omega)
          have := all v
          omega
        · right
          -- a tie with one end at rest, the other not
          have ⟨k, hk, hx⟩ : ∃ k, k < t ∧ ¬ (rt_it t ta tb j r (ta k) = ρ (ta k) ↔ rt_it t ta tb j r (tb k) = ρ (tb k)) := by
            refine Classical.byContradiction fun q => all ?_
            have hC : ∀ k, k < t → (¬ rt_it t ta tb j r (ta k) = ρ (ta k) ↔ ¬ rt_it t ta tb j r (tb k) = ρ (tb k)) := by
              intro k hk
              have : (rt_it t ta tb j r (ta k) = ρ (ta k) ↔ rt_it t ta tb j r (tb k) = ρ (tb k)) := Classical.byContradiction fun q2 => q ⟨k, hk, q2⟩
              exact not_congr this
            have key : ∀ m v, rt_it t ta tb j r v = m → rt_it t ta tb j r v = ρ v := by
              intro m
              induction m using Nat.strongRecOn with
              | _ m ihm =>
                intro v hv
                refine Classical.byContradiction fun q2 => ?_
                have lb := rt_it_lb (m := m) (r := rt_it t ta tb j r) (C := fun v => ¬ rt_it t ta tb j r v = ρ v) hC (by
                  intro u hu
                  rcases Nat.lt_or_ge (rt_it t ta tb j r u) m with q3 | q3
                  · exact absurd (ihm _ q3 u rfl) hu
                  · exact q3) M v q2
                rw [rt_it_it, Nat.add_comm, hfix j] at lb
                have := hlo j v
                omega
            exact fun v => key _ v rfl
          have hone : rt_it t ta tb j r (ta k) = ρ (ta k) ∨ rt_it t ta tb j r (tb k) = ρ (tb k) := Classical.byContradiction fun q => hx ⟨fun h => absurd (Or.inl h) q, fun h => absurd (Or.inr h) q⟩
          have hg := rt_give (r := rt_it t ta tb j r) hk (hlo2 j) (heq k hk) hone
          have hct := ct_lt (p := fun k => decide (rt_it t ta tb j r (ta k) = ρ (ta k) ∧ rt_it t ta tb j r (tb k) = ρ (tb k))) (q := fun k => decide (rt_it t ta tb (j + 1) r (ta k) = ρ (ta k) ∧ rt_it t ta tb (j + 1) r (tb k) = ρ (tb k))) (u := k) (decide_eq_false (fun h => hx ⟨fun _ => h.2, fun _ => h.1⟩)) (decide_eq_true hg) hk (by
            intro i _ hi
            have h0 := of_decide_eq_true hi
            have h1 := hlo (j + 1) (ta i)
            have h2 := rt_it_mono (t := t) (ta := ta) (tb := tb) (r := r) (ta i) (show j ≤ j + 1 by omega)
            have h3 := hlo (j + 1) (tb i)
            have h4 := rt_it_mono (t := t) (ta := ta) (tb := tb) (r := r) (tb i) (show j ≤ j + 1 by omega)
            exact decide_eq_true ⟨by omega, by omega⟩)
          omega
  have fin : ∀ v, rt_it t ta tb t r v = ρ v := by
    rcases step t with h | h
    · exact h
    · have h1 := fb_ct_le (fun k => decide (rt_it t ta tb t r (ta k) = ρ (ta k) ∧ rt_it t ta tb t r (tb k) = ρ (tb k))) t
      have h2 := (fb_ct_all (n := t)).1 (Nat.le_antisymm h1 h)
      have hC : ∀ k, k < t → (¬ rt_it t ta tb t r (ta k) = ρ (ta k) ↔ ¬ rt_it t ta tb t r (tb k) = ρ (tb k)) := by
        intro k hk
        have := of_decide_eq_true (h2 k hk)
        exact ⟨fun q => absurd this.1 q, fun q => absurd this.2 q⟩
      have key : ∀ m v, rt_it t ta tb t r v = m → rt_it t ta tb t r v = ρ v := by
        intro m
        induction m using Nat.strongRecOn with
        | _ m ihm =>
          intro v hv
          refine Classical.byContradiction fun q2 => ?_
          have lb := rt_it_lb (m := m) (r := rt_it t ta tb t r) (C := fun v => ¬ rt_it t ta tb t r v = ρ v) hC (by
            intro u hu
            rcases Nat.lt_or_ge (rt_it t ta tb t r u) m with q3 | q3
            · exact absurd (ihm _ q3 u rfl) hu
            · exact q3) M v q2
          rw [rt_it_it, Nat.add_comm, hfix t] at lb
          have := hlo t v
          omega
      exact fun v => key _ v rfl
  have e : rt_it t ta tb t r = ρ := funext fin
  rw [e, hM]
theorem rt_24 {n t : Nat} {ta tb : Nat → Nat} {r : Nat → Nat} (hT : ∀ k, k < t → ta k < n ∧ tb k < n) (ht : t ≤ 24) : rt_it t ta tb 24 r = rt_it t ta tb t r := by
  have := rt_it_fix (rt_done (r := r) hT) (24 - t)
  rwa [show t + (24 - t) = 24 by omega] at this
