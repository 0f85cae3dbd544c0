theorem hb_L0 : (0 : Int32) = nI 0 := rfl
theorem hb_L1 : (1 : Int32) = nI 1 := rfl
theorem hb_L2 : (2 : Int32) = nI 2 := rfl
theorem hb_L3 : (3 : Int32) = nI 3 := rfl
theorem hb_L4 : (4 : Int32) = nI 4 := rfl
theorem hb_L5 : (5 : Int32) = nI 5 := rfl
theorem hb_L6 : (6 : Int32) = nI 6 := rfl
theorem hb_L7 : (7 : Int32) = nI 7 := rfl
theorem hb_L8 : (8 : Int32) = nI 8 := rfl
theorem hb_L9 : (9 : Int32) = nI 9 := rfl
theorem hb_L10 : (10 : Int32) = nI 10 := rfl
theorem hb_L11 : (11 : Int32) = nI 11 := rfl
theorem hb_L12 : (12 : Int32) = nI 12 := rfl
theorem hb_L13 : (13 : Int32) = nI 13 := rfl
theorem hb_L14 : (14 : Int32) = nI 14 := rfl
theorem hb_L15 : (15 : Int32) = nI 15 := rfl
theorem hb_L16 : (16 : Int32) = nI 16 := rfl
theorem hb_L24 : (24 : Int32) = nI 24 := rfl
theorem hb_L30 : (30 : Int32) = nI 30 := rfl
theorem hb_L31 : (31 : Int32) = nI 31 := rfl
theorem hb_L48 : (48 : Int32) = nI 48 := rfl
theorem hb_L50 : (50 : Int32) = nI 50 := rfl
theorem hb_L57 : (57 : Int32) = nI 57 := rfl
theorem hb_L63 : (63 : Int32) = nI 63 := rfl
theorem hb_L99 : (99 : Int32) = nI 99 := rfl
theorem hb_L100 : (100 : Int32) = nI 100 := rfl
theorem hb_L144 : (144 : Int32) = nI 144 := rfl
theorem hb_L200 : (200 : Int32) = nI 200 := rfl
theorem hb_L255 : (255 : Int32) = nI 255 := rfl
theorem hb_L365 : (365 : Int32) = nI 365 := rfl
theorem hb_L400 : (400 : Int32) = nI 400 := rfl
theorem hb_L600 : (600 : Int32) = nI 600 := rfl
theorem hb_L1000 : (1000 : Int32) = nI 1000 := rfl
theorem hb_L9999 : (9999 : Int32) = nI 9999 := rfl
theorem hb_L10000 : (10000 : Int32) = nI 10000 := rfl
theorem hb_L100000 : (100000 : Int32) = nI 100000 := rfl
theorem hb_L1000000 : (1000000 : Int32) = nI 1000000 := rfl

def okc (x : Int32) (m : Nat) : Prop := ∃ n : Nat, n ≤ m ∧ x = nI n
theorem hb_in {k n : Nat} (hk : k < n) (hn : n < 2 ^ 31) : am_in (nI k) n = true := by
  unfold am_in
  rw [nI_clamp (by omega), decide_eq_true (nI_pos (by omega)), decide_eq_true hk]
  rfl
theorem hb_g {α : Type} {k n : Nat} {x : Option α} (hk : k < n) (hn : n < 2 ^ 31) : am_g (am_in (nI k) n) x = x := by
  rw [hb_in hk hn]; rfl
theorem hb_gt {α : Type} {b : Bool} {x : Option α} (h : b = true) : am_g b x = x := by rw [h]; rfl
theorem hb_in0 {n : Nat} (h : 0 < n) (hn : n < 2 ^ 31) : am_in 0 n = true := hb_in (k := 0) h hn
theorem hb_up_ne {σ : am_S} {c k c' : Nat} {v : Int32} (h : c' ≠ c) : am_up σ c k v c' = σ c' := by
  unfold am_up am_set
  rw [if_neg h]
theorem hb_up_eq {σ : am_S} {c k : Nat} {v : Int32} : am_up σ c k v c = upd (σ c) k v := by
  unfold am_up am_set
  rw [if_pos rfl]
theorem hb_set_ne {σ : am_S} {c c' : Nat} {f : Nat → Int32} (h : c' ≠ c) : am_set σ c f c' = σ c' := by
  unfold am_set
  rw [if_neg h]
theorem hb_set_eq {σ : am_S} {c : Nat} {f : Nat → Int32} : am_set σ c f c = f := by
  unfold am_set
  rw [if_pos rfl]
theorem hb_us {f : Nat → Int32} {k : Nat} {v : Int32} : upd f k v k = v := if_pos rfl
theorem hb_un {f : Nat → Int32} {k j : Nat} {v : Int32} (h : j ≠ k) : upd f k v j = f j := if_neg h
theorem hb_bind {α β : Type} {a : α} {f : α → Option β} : (some a).bind f = f a := rfl
theorem hb_cl0 : (0 : Int32).toNatClampNeg = 0 := rfl
theorem hb_cl1 : (1 : Int32).toNatClampNeg = 1 := rfl
theorem hb_cl2 : (2 : Int32).toNatClampNeg = 2 := rfl
theorem hb_bo0 : am_bo 0 = true := rfl
theorem hb_bo1 : am_bo 1 = true := rfl
theorem hb_bo {x : Int32} (h : am_bo x = true) : x = 0 ∨ x = 1 := by
  unfold am_bo at h
  simp at h
  exact h
/-- every int is below 0 or a number -/
theorem hb_sp (x : Int32) : x < 0 ∨ ∃ j : Nat, j < 2 ^ 31 ∧ x = nI j := by
  by_cases h : x < 0
  · exact Or.inl h
  · exact Or.inr (nI_of h)
theorem hb_nlt0 {j : Nat} (h : j < 2 ^ 31) : ¬ nI j < 0 := nI_pos h
theorem hb_clk {x : Int32} {n : Nat} (h : x = nI n) (hn : n < 2 ^ 31) : x.toNatClampNeg = n := by rw [h, nI_clamp hn]
theorem hb_has {x c : Int32} {n : Nat} (hc : c = nI n) (hn : n < 2 ^ 31) : (if x < 0 then (0 : Int32) else (if c ≤ x then (0 : Int32) else (1 : Int32))) = 0 ∨ ∃ j, j < n ∧ x = nI j ∧ (if x < 0 then (0 : Int32) else (if c ≤ x then (0 : Int32) else (1 : Int32))) = 1 := by
  by_cases h : x < 0
  · exact Or.inl (if_pos h)
  · obtain ⟨j, hj, e⟩ := nI_of h
    subst e
    rw [if_neg h, hc]
    rcases Nat.lt_or_ge j n with q | q
    · exact Or.inr ⟨j, q, rfl, if_neg (nI_ge q (by omega))⟩
    · exact Or.inl (if_pos (nI_le q (by omega)))

