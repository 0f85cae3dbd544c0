/-! ===== reading a text: as a plain function of its bytes ===== -/
abbrev rs_F : Type := List Int32 × Int32 × Int32 × Int32 × Int32 × Int32
def rs_bt (b : Nat → Int32) (len k : Nat) : Int32 := if k < len then b k else -1
def rs_dg (c : Int32) : Bool := decide (¬ c < 48 ∧ ¬ 57 < c)
def rs_gd (c : Int32) : Bool := decide (c = 99 ∨ c = 104 ∨ c = 98 ∨ c = 119)
def rs_nd (b : Nat → Int32) (len : Nat) : Nat → Nat → Nat
  | 0, _ => 0
  | m + 1, a => if rs_dg (rs_bt b len a) = true then rs_nd b len m (a + 1) + 1 else 0
def rs_vl (b : Nat → Int32) (len : Nat) : Nat → Nat → Int32 → Int32
  | 0, _, v => v
  | k + 1, a, v => rs_vl b len k (a + 1) (v * 10 + rs_bt b len a - 48)
def rs_gr (b : Nat → Int32) (len : Nat) : Nat → Nat → List Int32 → Nat × List Int32
  | 0, a, gs => (a, gs)
  | m + 1, a, gs => if rs_gd (rs_bt b len a) = true ∧ ¬ rs_bt b len a ∈ gs then rs_gr b len m (a + 1) (gs ++ [rs_bt b len a]) else (a, gs)
def rs_end (b : Nat → Int32) (len e : Nat) (F : rs_F) : Bool × Nat × rs_F := if rs_bt b len e = 59 then (true, e + 1, F) else (false, e, F)
def rs_row (b : Nat → Int32) (len a : Nat) (F : rs_F) : Bool × Nat × rs_F :=
  if rs_bt b len a = 112 then
    (if (rs_gr b len 4 (a + 1) []).2 = [] then (false, a + 1, F) else rs_end b len (rs_gr b len 4 (a + 1) []).1 ((rs_gr b len 4 (a + 1) []).2, F.2))
  else if rs_bt b len a = 107 then
    (if rs_nd b len 3 (a + 1) < 1 then (false, a + 1 + rs_nd b len 3 (a + 1), F) else rs_end b len (a + 1 + rs_nd b len 3 (a + 1)) (F.1, rs_vl b len (rs_nd b len 3 (a + 1)) (a + 1) 0, F.2.2))
  else if rs_bt b len a = 115 then
    (if rs_nd b len 2 (a + 1) < 2 then (false, a + 1 + rs_nd b len 2 (a + 1), F) else rs_end b len (a + 1 + 2) (F.1, F.2.1, rs_vl b len 2 (a + 1) 0, F.2.2.2))
  else if rs_bt b len a = 100 then
    (if rs_bt b len (a + 1) = 108 then rs_end b len (a + 2) (F.1, F.2.1, F.2.2.1, 1, F.2.2.2.2) else if rs_bt b len (a + 1) = 115 then rs_end b len (a + 2) (F.1, F.2.1, F.2.2.1, 0, F.2.2.2.2) else (false, a + 1, F))
  else if rs_bt b len a = 99 then
    (if rs_nd b len 1 (a + 1) < 1 then (false, a + 1, F) else rs_end b len (a + 1 + 1) (F.1, F.2.1, F.2.2.1, F.2.2.2.1, rs_vl b len 1 (a + 1) 0, F.2.2.2.2.2))
  else if rs_bt b len a = 117 then
    (if rs_dg (rs_bt b len (a + 1)) = true ∧ ¬ 50 < rs_bt b len (a + 1) then
      (if rs_dg (rs_bt b len (a + 2)) = true ∧ ¬ 24 < rs_vl b len 2 (a + 1) 0 then rs_end b len (a + 3) (F.1, F.2.1, F.2.2.1, F.2.2.2.1, F.2.2.2.2.1, rs_vl b len 2 (a + 1) 0) else (false, a + 2, F))
     else (false, a + 1, F))
  else (false, a, F)
def rs_rows (b : Nat → Int32) (len : Nat) : Nat → Nat → rs_F → Bool × Nat × rs_F
  | 0, a, F => (true, a, F)
  | m + 1, a, F => if len ≤ a then (true, a, F) else if (rs_row b len a F).1 = true then rs_rows b len m (rs_row b len a F).2.1 (rs_row b len a F).2.2 else (false, (rs_row b len a F).2.1, F)
def rs_F0 : rs_F := ([104, 98], 400, 50, 0, 9, 12)
def rs_all (b : Nat → Int32) (len : Nat) : Bool × Nat × rs_F := rs_rows b len 51 0 rs_F0
/-! what it depends on -/
theorem rs_bt_cong {b b' : Nat → Int32} {len : Nat} (h : ∀ k, k < len → b k = b' k) : rs_bt b len = rs_bt b' len := by
  funext k
  unfold rs_bt
  by_cases q : k < len
  · rw [if_pos q, if_pos q, h k q]
  · rw [if_neg q, if_neg q]
theorem rs_nd_cong {b b' : Nat → Int32} {len : Nat} (h : rs_bt b len = rs_bt b' len) : ∀ m a, rs_nd b len m a = rs_nd b' len m a
  | 0, _ => rfl
  | m + 1, a => by rw [rs_nd, rs_nd, h, rs_nd_cong h m]
theorem rs_vl_cong {b b' : Nat → Int32} {len : Nat} (h : rs_bt b len = rs_bt b' len) : ∀ m a v, rs_vl b len m a v = rs_vl b' len m a v
  | 0, _, _ => rfl
  | m + 1, a, v => by rw [rs_vl, rs_vl, h, rs_vl_cong h m]
theorem rs_gr_cong {b b' : Nat → Int32} {len : Nat} (h : rs_bt b len = rs_bt b' len) : ∀ m a v, rs_gr b len m a v = rs_gr b' len m a v
  | 0, _, _ => rfl
  | m + 1, a, v => by rw [rs_gr, rs_gr, h, rs_gr_cong h m]
theorem rs_row_cong {b b' : Nat → Int32} {len : Nat} (h : rs_bt b len = rs_bt b' len) (a : Nat) (F : rs_F) : rs_row b len a F = rs_row b' len a F := by
  unfold rs_row rs_end
  simp only [rs_nd_cong h, rs_vl_cong h, rs_gr_cong h, h]
theorem rs_rows_cong {b b' : Nat → Int32} {len : Nat} (h : rs_bt b len = rs_bt b' len) : ∀ m a F, rs_rows b len m a F = rs_rows b' len m a F
  | 0, _, _ => rfl
  | m + 1, a, F => by rw [rs_rows, rs_rows, rs_row_cong h, rs_rows_cong h m]
theorem rs_all_cong {b b' : Nat → Int32} {len : Nat} (h : ∀ k, k < len → b k = b' k) : rs_all b len = rs_all b' len := rs_rows_cong (rs_bt_cong h) 51 0 rs_F0
/-! where it comes to -/
theorem rs_nd_le {b : Nat → Int32} {len : Nat} : ∀ m a, rs_nd b len m a ≤ m
  | 0, _ => Nat.le_refl 0
  | m + 1, a => by
    rw [rs_nd]
    have := rs_nd_le (b := b) (len := len) m (a + 1)
    split <;> omega
theorem rs_dg_lt {b : Nat → Int32} {len a : Nat} (h : rs_dg (rs_bt b len a) = true) : a < len := by
  unfold rs_bt at h
  by_cases q : a < len
  · exact q
  · rw [if_neg q] at h
    exact absurd h (by decide)
theorem rs_end_t {b : Nat → Int32} {len e : Nat} {F : rs_F} (h : (rs_end b len e F).1 = true) : rs_bt b len e = 59 ∧ (rs_end b len e F).2.1 = e + 1 ∧ (rs_end b len e F).2.2 = F ∧ e < len := by
  unfold rs_end at h ⊢
  by_cases q : rs_bt b len e = 59
  · rw [if_pos q]
    refine ⟨q, rfl, rfl, ?_⟩
    unfold rs_bt at q
    by_cases q2 : e < len
    · exact q2
    · rw [if_neg q2] at q
      exact absurd q (by decide)
  · rw [if_neg q] at h
    exact Bool.noConfusion h
theorem rs_gr_le {b : Nat → Int32} {len : Nat} : ∀ m a gs, a ≤ (rs_gr b len m a gs).1 ∧ (rs_gr b len m a gs).2.length ≤ gs.length + m
  | 0, _, _ => ⟨Nat.le_refl _, Nat.le_refl _⟩
  | m + 1, a, gs => by
    rw [rs_gr]
    have := rs_gr_le (b := b) (len := len) m (a + 1) (gs ++ [rs_bt b len a])
    rw [List.length_append, List.length_singleton] at this
    split
    · omega
    · exact ⟨Nat.le_refl _, Nat.le_add_right _ _⟩
theorem rs_row_c {b : Nat → Int32} {len a : Nat} {F : rs_F} : (∃ e F', a < e ∧ rs_row b len a F = rs_end b len e F') ∨ (∃ p, rs_row b len a F = (false, p, F)) := by
  have hg := (rs_gr_le (b := b) (len := len) 4 (a + 1) []).1
  unfold rs_row
  repeat' split
  all_goals first
    | exact Or.inr ⟨_, rfl⟩
    | exact Or.inl ⟨_, _, by omega, rfl⟩
theorem rs_row_t {b : Nat → Int32} {len a : Nat} {F : rs_F} (h : (rs_row b len a F).1 = true) : a < (rs_row b len a F).2.1 ∧ (rs_row b len a F).2.1 ≤ len := by
  rcases rs_row_c (b := b) (len := len) (a := a) (F := F) with ⟨e, F', q1, q2⟩ | ⟨p, q⟩
  · rw [q2] at h ⊢
    obtain ⟨h1, h2, h3, h4⟩ := rs_end_t h
    rw [h2]
    omega
  · rw [q] at h
    exact Bool.noConfusion h
