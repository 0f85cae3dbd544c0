/-! ===== rails: the next stop ===== -/
def rbt (σ : am_S) (u v k : Nat) : Bool := decide (((nv (σ 6 k) = u ∧ nv (σ 7 k) = v) ∨ (nv (σ 6 k) = v ∧ nv (σ 7 k) = u)) ∧ ¬ σ 9 k = 0)
def rb (σ : am_S) (u v : Nat) : Nat → Nat
  | 0 => 100000
  | m + 1 => if rbt σ u v m = true then min (rb σ u v m) (nv (σ 8 m)) else rb σ u v m
theorem eg_at {n e k : Nat} {A B L : Nat → Int32} (h : eg_ok n e A B L (fun k => nv (A k)) (fun k => nv (B k)) (fun k => nv (L k))) (hk : k < e) : A k = nI (nv (A k)) ∧ B k = nI (nv (B k)) ∧ L k = nI (nv (L k)) ∧ nv (A k) < n ∧ nv (B k) < n ∧ nv (A k) ≠ nv (B k) ∧ 1 ≤ nv (L k) ∧ nv (L k) ≤ 9 := h k hk
theorem rb_le {σ : am_S} {u v : Nat} : ∀ m, rb σ u v m ≤ 100000
  | 0 => Nat.le_refl _
  | m + 1 => by
    have := rb_le (σ := σ) (u := u) (v := v) m
    rw [rb]
    split <;> omega
theorem rb_m {N n e p u v : Nat} {ρ : am_S} (hN : 20000 ≤ N) (h : ld_ok n e p ρ) (hu : u < 12) (hv : v < 12) : fm_railBetween N (nI u) (nI v) ρ = some (nI (rb ρ u v e)) := by
  obtain ⟨h1, h2, h3, ⟨l1, l2, l3, l4, l5, l6, l7, l8⟩, m1, m5, m10, r2, r3, r4, r5, r6, r7, r8, r9, r10, r11⟩ := h
  have key : ∀ r m q, m + r = e → r < q → fm_railBetween_b6 N q (nI u) (nI v) (nI (rb ρ u v m)) (nI m) ρ = some (nI (rb ρ u v e)) := by
    intro r
    induction r with
    | zero =>
      intro m q a1 a2
      obtain ⟨q, rfl⟩ : ∃ m, q = m + 1 := ⟨q - 1, by omega⟩
      have : m = e := by omega
      subst this
      rw [fm_railBetween_b6, m5, if_pos (nI_le (by omega) (by omega))]
    | succ r ih =>
      intro m q a1 a2
      obtain ⟨q, rfl⟩ : ∃ m, q = m + 1 := ⟨q - 1, by omega⟩
      have nx := ih (m + 1) q (by omega) (by omega)
      obtain ⟨A, B, L, b1, b2, b3, b4, b5⟩ := eg_at l6 (k := m) (by omega)
      have hb := rb_le (σ := ρ) (u := u) (v := v) m
      generalize hA : nv (ρ 6 m) = a at *
      generalize hB : nv (ρ 7 m) = b at *
      generalize hL : nv (ρ 8 m) = d at *
      have eu : ∀ x y : Nat, x < 12 → y < 12 → (nI x = nI y ↔ x = y) := fun x y p q => nI_eq (by omega) (by omega)
      have i30 : m < 30 := by omega
      rw [fm_railBetween_b6, m5, if_neg (nI_ge (by omega) (by omega))]
      unfold fm_railBetween_b37 fm_railBetween_b59 fm_railBetween_b63 fm_railBetween_b64 fm_railBetween_b102 fm_railBetween_b103
      simp only [hb_g i30 (show (30 : Nat) < 2 ^ 31 by decide), nI_clamp (show m < 2 ^ 31 by omega), ← r6, ← r7, ← r8, ← r9, A, B, L, nI_1, if_true, eu a u (by omega) hu, eu b v (by omega) hv, eu a v (by omega) hv, eu b u (by omega) hu, show ¬ ((1 : Int32) = 0) from by decide, if_false]
      have fin : ∀ x, x = rb ρ u v (m + 1) → fm_railBetween_b6 N q (nI u) (nI v) (nI x) (nI (m + 1)) ρ = some (nI (rb ρ u v e)) := fun x hx => by rw [hx]; exact nx
      by_cases t : rbt ρ u v m = true
      · have t' := of_decide_eq_true t
        rw [hA, hB] at t'
        have er : rb ρ u v (m + 1) = min (rb ρ u v m) d := by rw [rb, if_pos t, hL]
        have c9 : ¬ ρ 9 m = 0 := t'.2
        have step : (if ρ 9 m = 0 then fm_railBetween_b6 N q (nI u) (nI v) (nI (rb ρ u v m)) (nI (m + 1)) ρ else if nI (rb ρ u v m) ≤ nI d then fm_railBetween_b6 N q (nI u) (nI v) (nI (rb ρ u v m)) (nI (m + 1)) ρ else fm_railBetween_b6 N q (nI u) (nI v) (nI d) (nI (m + 1)) ρ) = some (nI (rb ρ u v e)) := by
          rw [if_neg c9]
          by_cases y : rb ρ u v m ≤ d
          · rw [if_pos (nI_le y (by omega))]
            exact fin _ (by rw [er, Nat.min_eq_left y])
          · rw [if_neg (nI_ge (by omega) (by omega))]
            exact fin _ (by rw [er, Nat.min_eq_right (by omega)])
        by_cases c1 : a = u
        · rw [if_pos c1]
          by_cases c2 : b = v
          · rw [if_pos c2]; exact step
          · rw [if_neg c2]
            have c3 : a = v ∧ b = u := by
              rcases t'.1 with y | y
              · exact absurd y.2 c2
              · exact y
            rw [if_pos c3.1, if_pos c3.2]; exact step
        · rw [if_neg c1]
          have c3 : a = v ∧ b = u := by
            rcases t'.1 with y | y
            · exact absurd y.1 c1
            · exact y
          rw [if_pos c3.1, if_pos c3.2]; exact step
      · have er : rb ρ u v (m + 1) = rb ρ u v m := by rw [rb, if_neg t]
        have sk : fm_railBetween_b6 N q (nI u) (nI v) (nI (rb ρ u v m)) (nI (m + 1)) ρ = some (nI (rb ρ u v e)) := fin _ er.symm
        have step : ((a = u ∧ b = v) ∨ (a = v ∧ b = u)) → (if ρ 9 m = 0 then fm_railBetween_b6 N q (nI u) (nI v) (nI (rb ρ u v m)) (nI (m + 1)) ρ else if nI (rb ρ u v m) ≤ nI d then fm_railBetween_b6 N q (nI u) (nI v) (nI (rb ρ u v m)) (nI (m + 1)) ρ else fm_railBetween_b6 N q (nI u) (nI v) (nI d) (nI (m + 1)) ρ) = some (nI (rb ρ u v e)) := by
          intro hh
          have c9 : ρ 9 m = 0 := Classical.byContradiction fun z => t (by unfold rbt; rw [hA, hB]; exact decide_eq_true ⟨hh, z⟩)
          rw [if_pos c9]; exact sk
        by_cases c1 : a = u
        · rw [if_pos c1]
          by_cases c2 : b = v
          · rw [if_pos c2]; exact step (Or.inl ⟨c1, c2⟩)
          · rw [if_neg c2]
            by_cases c3 : a = v
            · rw [if_pos c3]
              by_cases c4 : b = u
              · rw [if_pos c4]; exact step (Or.inr ⟨c3, c4⟩)
              · rw [if_neg c4]; exact sk
            · rw [if_neg c3]; exact sk
        · rw [if_neg c1]
          by_cases c3 : a = v
          · rw [if_pos c3]
            by_cases c4 : b = u
            · rw [if_pos c4]; exact step (Or.inr ⟨c3, c4⟩)
            · rw [if_neg c4]; exact sk
          · rw [if_neg c3]; exact sk
  exact key e 0 N (by omega) (by omega)
theorem rb_sp {σ : am_S} {u v e : Nat} (h9 : ∀ k, k < e → nv (σ 8 k) ≤ 9) : ∀ m, m ≤ e → (rb σ u v m = 100000 ∧ ∀ k, k < m → rbt σ u v k = false) ∨ (rb σ u v m ≤ 9 ∧ (∃ k, k < m ∧ rbt σ u v k = true ∧ nv (σ 8 k) = rb σ u v m) ∧ ∀ k, k < m → rbt σ u v k = true → rb σ u v m ≤ nv (σ 8 k))
  | 0, _ => Or.inl ⟨rfl, fun k hk => absurd hk (Nat.not_lt_zero k)⟩
  | m + 1, hm => by
    have ih := rb_sp (u := u) (v := v) h9 m (by omega)
    have d9 := h9 m (by omega)
    rw [rb]
    by_cases t : rbt σ u v m = true
    · rw [if_pos t]
      right
      rcases ih with ⟨e1, e2⟩ | ⟨e1, ⟨k, k1, k2, k3⟩, e3⟩
      · have em : min (rb σ u v m) (nv (σ 8 m)) = nv (σ 8 m) := by omega
        rw [em]
        refine ⟨d9, ⟨m, by omega, t, rfl⟩, fun k hk ht => ?_⟩
        by_cases z : k = m
        · rw [z]; exact Nat.le_refl _
        · rw [e2 k (by omega)] at ht; exact absurd ht (by decide)
      · refine ⟨by omega, ?_, fun j hj ht => ?_⟩
        · by_cases z : rb σ u v m ≤ nv (σ 8 m)
          · exact ⟨k, by omega, k2, by rw [Nat.min_eq_left z]; exact k3⟩
          · exact ⟨m, by omega, t, by rw [Nat.min_eq_right (by omega)]⟩
        · by_cases z : j = m
          · rw [z]; exact Nat.min_le_right _ _
          · exact Nat.le_trans (Nat.min_le_left _ _) (e3 j (by omega) ht)
    · rw [if_neg t]
      have tf : rbt σ u v m = false := by cases hx : rbt σ u v m with
        | true => exact absurd hx t
        | false => rfl
      rcases ih with ⟨e1, e2⟩ | ⟨e1, ⟨k, k1, k2, k3⟩, e3⟩
      · left
        refine ⟨e1, fun k hk => ?_⟩
        by_cases z : k = m
        · rw [z]; exact tf
        · exact e2 k (by omega)
      · right
        refine ⟨e1, ⟨k, by omega, k2, k3⟩, fun j hj ht => ?_⟩
        by_cases z : j = m
        · rw [z, tf] at ht; exact absurd ht (by decide)
        · exact e3 j (by omega) ht
def nb (e : Nat) (σ : am_S) (D : Nat → Nat → Nat) (b u v : Nat) : Prop := ∃ k, k < e ∧ rbt σ u v k = true ∧ nv (σ 8 k) + D b v = D b u
def nxt (n e : Nat) (σ : am_S) (D : Nat → Nat → Nat) (b u q : Nat) : Prop := q < n ∧ nb e σ D b u q ∧ ∀ v, v < q → ¬ nb e σ D b u v
theorem nb_tri {n e p b u v k : Nat} {σ : am_S} {D : Nat → Nat → Nat} (h : ld_ok n e p σ) (hD : dsD e 1 σ D) (hb : b < n) (hk : k < e) (t : rbt σ u v k = true) : D b u ≤ D b v + nv (σ 8 k) ∧ u < n ∧ v < n := by
  have l1 := h.2.2.2.1.1
  have t' := of_decide_eq_true t
  obtain ⟨A, B, L, b1, b2, b3, b4, b5⟩ := eg_at h.2.2.2.1.2.2.2.2.2.1 hk
  have d : D b (nv (σ 7 k)) ≤ D b (nv (σ 6 k)) + nv (σ 8 k) ∧ D b (nv (σ 6 k)) ≤ D b (nv (σ 7 k)) + nv (σ 8 k) := hD.2.2.2.1 b k (by omega) hk (decide_eq_true (Or.inr t'.2))
  rcases t'.1 with y | y
  · rw [y.1] at d b1; rw [y.2] at d b2; exact ⟨d.2, b1, b2⟩
  · rw [y.1] at d b1; rw [y.2] at d b2; exact ⟨d.1, b2, b1⟩
theorem nb_rb {n e p b u v : Nat} {σ : am_S} {D : Nat → Nat → Nat} (h : ld_ok n e p σ) (hD : dsD e 1 σ D) (hb : b < n) : (rb σ u v e < 100000 ∧ rb σ u v e + D b v = D b u) ↔ nb e σ D b u v := by
  have h9 : ∀ k, k < e → nv (σ 8 k) ≤ 9 := fun k hk => (h.2.2.2.1.2.2.2.2.2.1 k hk).2.2.2.2.2.2.2
  constructor
  · intro ⟨x1, x2⟩
    rcases rb_sp (u := u) (v := v) h9 e (Nat.le_refl _) with ⟨e1, _⟩ | ⟨_, ⟨k, k1, k2, k3⟩, _⟩
    · omega
    · exact ⟨k, k1, k2, by rw [k3]; exact x2⟩
  · intro ⟨k, k1, k2, k3⟩
    rcases rb_sp (u := u) (v := v) h9 e (Nat.le_refl _) with ⟨_, e2⟩ | ⟨e1, ⟨j, j1, j2, j3⟩, e3⟩
    · rw [e2 k k1] at k2; exact absurd k2 (by decide)
    · have a := e3 k k1 k2
      have b' := (nb_tri h hD hb j1 j2).1
      rw [j3] at b'
      omega
/-- the class's choice -/
def nxi (n m : Nat) (σ : am_S) (D : Nat → Nat → Nat) (b u : Nat) (x : Int32) : Prop := (x = -1 ∧ ∀ v, ¬ nb m σ D b u v) ∨ ∃ q, q < n ∧ x = nI q ∧ nb m σ D b u q ∧ ∀ v, nb m σ D b u v → q ≤ v
theorem nx_x {N n e p b u : Nat} {σ : am_S} {D : Nat → Nat → Nat} {G : Nat → Int32} {τ : am_S} (hN : 20000 ≤ N) (h : ld_ok n e p σ) (hD : dsD e 1 σ D) (hb : b < n) (hu : u < n) (hr : D b u < 100000) (t1 : τ 1 = σ 1) (t6 : τ 6 = σ 6) (t7 : τ 7 = σ 7) (t8 : τ 8 = σ 8) (t9 : τ 9 = σ 9) (t12 : ∀ v, v < n → τ 12 v = nI (ds_x D b v)) : ∃ x, fx_Land_nextStop N (nI u) τ = some x ∧ nxi n e σ D b u x := by
  have l1 := h.2.2.2.1.1
  have le := h.2.2.2.1.2.1
  have u99 := dt_99 h hD hb hu hr
  have eu12 : τ 12 u = nI (D b u) := by rw [t12 u hu]; unfold ds_x; rw [if_pos hr]
  have key : ∀ r m q x, m + r = e → r < q → nxi n m σ D b u x → ∃ x', fx_Land_nextStop_b4 N q (nI u) x (nI m) τ = some x' ∧ nxi n e σ D b u x' := by
    intro r
    induction r with
    | zero =>
      intro m q x a1 a2 hi
      obtain ⟨q, rfl⟩ : ∃ m, q = m + 1 := ⟨q - 1, by omega⟩
      have : m = e := by omega
      subst this
      rw [fx_Land_nextStop_b4, t1, h.2.1, if_pos (nI_le (by omega) (by omega))]
      exact ⟨x, rfl, hi⟩
    | succ r ih =>
      intro m q x a1 a2 hi
      obtain ⟨q, rfl⟩ : ∃ m, q = m + 1 := ⟨q - 1, by omega⟩
      have nx := fun x' => ih (m + 1) q x' (by omega) (by omega)
      obtain ⟨A, B, L, b1, b2, b3, b4, b5⟩ := eg_at h.2.2.2.1.2.2.2.2.2.1 (k := m) (by omega)
      have i30 : m < 30 := by omega
      have skip : (∀ v, rbt σ u v m = true → ¬ nv (σ 8 m) + D b v = D b u) → nxi n (m + 1) σ D b u x := by
        intro hn
        have down : ∀ v, nb (m + 1) σ D b u v → nb m σ D b u v := by
          intro v ⟨k, k1, k2, k3⟩
          by_cases z : k = m
          · subst z; exact absurd k3 (hn v k2)
          · exact ⟨k, by omega, k2, k3⟩
        rcases hi with ⟨y1, y2⟩ | ⟨q0, y1, y2, ⟨k, k1, k2, k3⟩, y4⟩
        · exact Or.inl ⟨y1, fun v hv => y2 v (down v hv)⟩
        · exact Or.inr ⟨q0, y1, y2, ⟨k, by omega, k2, k3⟩, fun v hv => y4 v (down v hv)⟩
      generalize hA : nv (σ 6 m) = a at *
      generalize hB : nv (σ 7 m) = c at *
      generalize hL : nv (σ 8 m) = d at *
      rw [fx_Land_nextStop_b4, t1, h.2.1, if_neg (nI_ge (by omega) (by omega))]
      unfold fx_Land_otherEndOf fx_Land_nextStop_b70 fx_Land_nextStop_b73
      simp only [hb_g i30 (show (30 : Nat) < 2 ^ 31 by decide), nI_clamp (show m < 2 ^ 31 by omega), t6, t7, t8, t9, A, B, L, nI_1]
      have go : ∀ o, o < n → (∀ v, rbt σ u v m = true ↔ (v = o ∧ ¬ σ 9 m = 0)) → ∃ x', ((some (nI o)).bind fun q2 => (if σ 9 m = 0 then fx_Land_nextStop_b4 N q (nI u) x (nI (m + 1)) τ else if q2 < 0 then fx_Land_nextStop_b4 N q (nI u) x (nI (m + 1)) τ else am_g (am_in q2 12) (am_g (am_in (nI u) 12) (if τ 12 q2.toNatClampNeg + nI d = τ 12 (nI u).toNatClampNeg then (if x < 0 then fx_Land_nextStop_b4 N q (nI u) q2 (nI (m + 1)) τ else if x ≤ q2 then fx_Land_nextStop_b4 N q (nI u) x (nI (m + 1)) τ else fx_Land_nextStop_b4 N q (nI u) q2 (nI (m + 1)) τ) else fx_Land_nextStop_b4 N q (nI u) x (nI (m + 1)) τ)))) = some x' ∧ nxi n e σ D b u x' := by
        intro o ho hrb
        rw [hb_bind]
        by_cases c9 : σ 9 m = 0
        · rw [if_pos c9]
          exact nx x (skip (fun v hv => absurd c9 ((hrb v).1 hv).2))
        · rw [if_neg c9, if_neg (nI_pos (by omega)), hb_g (by omega) (by decide), hb_g (by omega) (by decide), nI_clamp (by omega), nI_clamp (by omega), eu12, t12 o ho, nI_add]
          have bo := dt_b h hD hb ho
          by_cases y : d + D b o = D b u
          · have ex : ds_x D b o = D b o := by unfold ds_x; rw [if_pos (by omega)]
            rw [ex, if_pos (by rw [Nat.add_comm]; rw [y])]
            have new : nb (m + 1) σ D b u o := ⟨m, by omega, (hrb o).2 ⟨rfl, c9⟩, by rw [hL]; exact y⟩
            have dn : ∀ v, nb (m + 1) σ D b u v → nb m σ D b u v ∨ v = o := by
              intro v ⟨k, k1, k2, k3⟩
              by_cases z : k = m
              · subst z; exact Or.inr ((hrb v).1 k2).1
              · exact Or.inl ⟨k, by omega, k2, k3⟩
            rcases hi with ⟨y1, y2⟩ | ⟨q0, y1, y2, ⟨k, k1, k2, k3⟩, y4⟩
            · rw [if_pos (by rw [y1]; decide)]
              refine nx _ (Or.inr ⟨o, ho, rfl, new, fun v hv => ?_⟩)
              rcases dn v hv with z | z
              · exact absurd z (y2 v)
              · omega
            · rw [y2, if_neg (nI_pos (by omega))]
              by_cases w : q0 ≤ o
              · rw [if_pos (nI_le w (by omega))]
                refine nx _ (Or.inr ⟨q0, y1, rfl, ⟨k, by omega, k2, k3⟩, fun v hv => ?_⟩)
                rcases dn v hv with z | z
                · exact y4 v z
                · omega
              · rw [if_neg (nI_ge (by omega) (by omega))]
                refine nx _ (Or.inr ⟨o, ho, rfl, new, fun v hv => ?_⟩)
                rcases dn v hv with z | z
                · have := y4 v z; omega
                · omega
          · rw [if_neg (fun z => y (by
              rw [nI_eq (by unfold ds_x; split <;> omega) (by omega)] at z
              unfold ds_x at z
              by_cases w : D b o < 100000
              · rw [if_pos w] at z; omega
              · rw [if_neg w] at z; omega))]
            exact nx x (skip (fun v hv => by rw [((hrb v).1 hv).1]; exact y))
      by_cases c1 : a = u
      · rw [if_pos (by rw [c1])]
        refine go c b2 (fun v => ?_)
        unfold rbt
        rw [hA, hB]
        refine ⟨fun hh => ?_, fun hh => decide_eq_true ⟨Or.inl ⟨c1, hh.1.symm⟩, hh.2⟩⟩
        have t' := of_decide_eq_true hh
        rcases t'.1 with z | z
        · exact ⟨z.2.symm, t'.2⟩
        · exact ⟨by omega, t'.2⟩
      · rw [if_neg (fun z => c1 ((nI_eq (by omega) (by omega)).1 z))]
        by_cases c2 : c = u
        · rw [if_pos (by rw [c2])]
          refine go a b1 (fun v => ?_)
          unfold rbt
          rw [hA, hB]
          refine ⟨fun hh => ?_, fun hh => decide_eq_true ⟨Or.inr ⟨hh.1.symm, c2⟩, hh.2⟩⟩
          have t' := of_decide_eq_true hh
          rcases t'.1 with z | z
          · exact ⟨by omega, t'.2⟩
          · exact ⟨z.1.symm, t'.2⟩
        · rw [if_neg (fun z => c2 ((nI_eq (by omega) (by omega)).1 z)), hb_bind]
          have sk : nxi n (m + 1) σ D b u x := skip (fun v hv => by
            have t' := of_decide_eq_true hv
            rw [hA, hB] at t'
            rcases t'.1 with z | z
            · exact absurd z.1 c1
            · exact absurd z.2 c2)
          by_cases c9 : σ 9 m = 0
          · rw [if_pos c9]; exact nx x sk
          · rw [if_neg c9, if_pos (by decide)]; exact nx x sk
  exact key e 0 N (-1) (by omega) (by omega) (Or.inl ⟨rfl, fun v ⟨k, k1, _⟩ => absurd k1 (Nat.not_lt_zero k)⟩)

