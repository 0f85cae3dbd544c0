/-! ===== trailing zeros of small numbers ===== -/
def nz_ck (w : Nat) : Bool := Nat.beq w 0 || (List.range 14).any (fun b => decide (fx_Int_numberOfTrailingZeros (nI w) (fun _ _ => 0) = nI b) && Nat.beq (w % 2 ^ b) 0 && Nat.beq (w / 2 ^ b % 2) 1)
def nz_all (k : Nat) : Bool := (List.range 512).all (fun i => nz_ck (512 * k + i))
theorem nz_0 : nz_all 0 = true := by decide +kernel
theorem nz_1 : nz_all 1 = true := by decide +kernel
theorem nz_2 : nz_all 2 = true := by decide +kernel
theorem nz_3 : nz_all 3 = true := by decide +kernel
theorem nz_4 : nz_all 4 = true := by decide +kernel
theorem nz_5 : nz_all 5 = true := by decide +kernel
theorem nz_6 : nz_all 6 = true := by decide +kernel
theorem nz_7 : nz_all 7 = true := by decide +kernel
theorem nz_8 : nz_all 8 = true := by decide +kernel
theorem nz_9 : nz_all 9 = true := by decide +kernel
theorem nz_10 : nz_all 10 = true := by decide +kernel
theorem nz_11 : nz_all 11 = true := by decide +kernel
theorem nz_12 : nz_all 12 = true := by decide +kernel
theorem nz_13 : nz_all 13 = true := by decide +kernel
theorem nz_14 : nz_all 14 = true := by decide +kernel
theorem nz_15 : nz_all 15 = true := by decide +kernel
theorem nz_16 : nz_all 16 = true := by decide +kernel
theorem nz_17 : nz_all 17 = true := by decide +kernel
theorem nz_18 : nz_all 18 = true := by decide +kernel
theorem nz_19 : nz_all 19 = true := by decide +kernel
theorem nz_20 : nz_all 20 = true := by decide +kernel
theorem nz_21 : nz_all 21 = true := by decide +kernel
theorem nz_22 : nz_all 22 = true := by decide +kernel
theorem nz_23 : nz_all 23 = true := by decide +kernel
theorem nz_24 : nz_all 24 = true := by decide +kernel
theorem nz_25 : nz_all 25 = true := by decide +kernel
theorem nz_26 : nz_all 26 = true := by decide +kernel
theorem nz_27 : nz_all 27 = true := by decide +kernel
theorem nz_28 : nz_all 28 = true := by decide +kernel
theorem nz_29 : nz_all 29 = true := by decide +kernel
theorem nz_30 : nz_all 30 = true := by decide +kernel
theorem nz_31 : nz_all 31 = true := by decide +kernel
theorem nz_some {w : Nat} (h0 : 0 < w) (h : w < 16384) (σ : am_S) : ∃ b, b < 14 ∧ fx_Int_numberOfTrailingZeros (nI w) σ = nI b ∧ w % 2 ^ b = 0 ∧ w / 2 ^ b % 2 = 1 := by
  have hk : nz_all (w / 512) = true := by
    have : w / 512 < 32 := by omega
    generalize w / 512 = k at this
    match k, this with
    | 0, _ => exact nz_0
    | 1, _ => exact nz_1
    | 2, _ => exact nz_2
    | 3, _ => exact nz_3
    | 4, _ => exact nz_4
    | 5, _ => exact nz_5
    | 6, _ => exact nz_6
    | 7, _ => exact nz_7
    | 8, _ => exact nz_8
    | 9, _ => exact nz_9
    | 10, _ => exact nz_10
    | 11, _ => exact nz_11
    | 12, _ => exact nz_12
    | 13, _ => exact nz_13
    | 14, _ => exact nz_14
    | 15, _ => exact nz_15
    | 16, _ => exact nz_16
    | 17, _ => exact nz_17
    | 18, _ => exact nz_18
    | 19, _ => exact nz_19
    | 20, _ => exact nz_20
    | 21, _ => exact nz_21
    | 22, _ => exact nz_22
    | 23, _ => exact nz_23
    | 24, _ => exact nz_24
    | 25, _ => exact nz_25
    | 26, _ => exact nz_26
    | 27, _ => exact nz_27
    | 28, _ => exact nz_28
    | 29, _ => exact nz_29
    | 30, _ => exact nz_30
    | 31, _ => exact nz_31
    | k + 32, h => exact absurd h (by omega)
  have h1 : nz_ck w = true := by
    have := List.all_eq_true.1 hk (w % 512) (List.mem_range.2 (by omega))
    rwa [show 512 * (w / 512) + w % 512 = w by omega] at this
  unfold nz_ck at h1
  rw [Bool.or_eq_true] at h1
  rcases h1 with h1 | h1
  · have := Nat.eq_of_beq_eq_true h1; omega
  · obtain ⟨b, hb, h2⟩ := List.any_eq_true.1 h1
    rw [Bool.and_eq_true, Bool.and_eq_true, decide_eq_true_eq] at h2
    exact ⟨b, List.mem_range.1 hb, h2.1.1, Nat.eq_of_beq_eq_true h2.1.2, Nat.eq_of_beq_eq_true h2.2⟩
/-! ===== sums over bits ===== -/
def sq_s (f : Nat → Int32) : Nat → Int32
  | 0 => 0
  | n + 1 => sq_s f n + f n
theorem sq_cong {f g : Nat → Int32} : ∀ {n : Nat}, (∀ k, k < n → f k = g k) → sq_s f n = sq_s g n
  | 0, _ => rfl
  | n + 1, h => by rw [sq_s, sq_s, sq_cong (fun k hk => h k (by omega)), h n (by omega)]
theorem sq_head (f : Nat → Int32) : ∀ n, sq_s f (n + 1) = f 0 + sq_s (fun k => f (k + 1)) n
  | 0 => by
    show 0 + f 0 = f 0 + 0
    rw [Int32.zero_add, Int32.add_zero]
  | n + 1 => by
    rw [sq_s, sq_head f n, sq_s, Int32.add_assoc]
theorem sq_rev (f : Nat → Int32) : ∀ n, sq_s (fun x => f (n - 1 - x)) n = sq_s f n
  | 0 => rfl
  | n + 1 => by
    rw [sq_head, sq_s]
    have e1 : (fun k => f (n + 1 - 1 - (k + 1))) = (fun k => f (n - 1 - k)) := by
      funext k
      congr 1
      omega
    rw [e1, sq_rev f n, Int32.add_comm]
    congr 1
def se_f (W : Nat → Int32) (w b : Nat) : Int32 := if w.testBit b = true then 0 else W b
theorem se_bits {w b : Nat} (h1 : w % 2 ^ b = 0) (h2 : w / 2 ^ b % 2 = 1) : (∀ j, j < b → w.testBit j = false ∧ (w - 1).testBit j = true) ∧ w.testBit b = true ∧ (w - 1).testBit b = false ∧ (∀ j, b < j → w.testBit j = (w - 1).testBit j) := by
  have hp : 0 < 2 ^ b := Nat.two_pow_pos b
  have e0 : w = 2 ^ b * (w / 2 ^ b) := by
    have := Nat.div_add_mod w (2 ^ b)
    omega
  have e1 : w / 2 ^ b = 2 * (w / 2 ^ b / 2) + 1 := by omega
  generalize w / 2 ^ b / 2 = m at e1
  rw [e1] at e0
  have e2 : w = 2 ^ (b + 1) * m + 2 ^ b := by
    rw [e0, Nat.mul_add, Nat.mul_one, ← Nat.mul_assoc, Nat.pow_succ]
  have e3 : w - 1 = 2 ^ (b + 1) * m + (2 ^ b - 1) := by omega
  have l1 : 2 ^ b < 2 ^ (b + 1) := Nat.pow_lt_pow_right (by decide) (by omega)
  have l2 : 2 ^ b - 1 < 2 ^ (b + 1) := by omega
  refine ⟨?_, ?_, ?_, ?_⟩
  · intro j hj
    rw [e3, e2, Nat.testBit_two_pow_mul_add _ l1, Nat.testBit_two_pow_mul_add _ l2, if_pos (by omega), if_pos (by omega), Nat.testBit_two_pow, Nat.testBit_two_pow_sub_one]
    exact ⟨decide_eq_false (by omega), decide_eq_true hj⟩
  · rw [e2, Nat.testBit_two_pow_mul_add _ l1, if_pos (by omega), Nat.testBit_two_pow]
    exact decide_eq_true rfl
  · rw [e3, Nat.testBit_two_pow_mul_add _ l2, if_pos (by omega), Nat.testBit_two_pow_sub_one]
    exact decide_eq_false (by omega)
  · intro j hj
    rw [e3, e2, Nat.testBit_two_pow_mul_add _ l1, Nat.testBit_two_pow_mul_add _ l2, if_neg (by omega), if_neg (by omega)]
theorem se_step {W : Nat → Int32} {w b : Nat} (h1 : w % 2 ^ b = 0) (h2 : w / 2 ^ b % 2 = 1) : ∀ r, sq_s (se_f W w) (b + 1 + r) = sq_s (se_f W (w - 1)) (b + 1 + r) + (sq_s W b - W b) := by
  obtain ⟨b1, b2, b3, b4⟩ := se_bits h1 h2
  intro r
  induction r with
  | zero =>
    show sq_s (se_f W w) b + se_f W w b = sq_s (se_f W (w - 1)) b + se_f W (w - 1) b + _
    have e1 : sq_s (se_f W w) b = sq_s W b := sq_cong (fun k hk => by unfold se_f; rw [(b1 k hk).1, if_neg (by decide)])
    have e2 : sq_s (se_f W (w - 1)) b = sq_s (fun _ => 0) b := sq_cong (fun k hk => by unfold se_f; rw [(b1 k hk).2, if_pos rfl])
    have e3 : ∀ n, sq_s (fun _ => 0) n = 0 := by
      intro n
      induction n with
      | zero => rfl
      | succ n ih => rw [sq_s, ih]; rfl
    have e4 : se_f W w b = 0 := by unfold se_f; rw [b2, if_pos rfl]
    have e5 : se_f W (w - 1) b = W b := by unfold se_f; rw [b3, if_neg (by decide)]
    rw [e1, e2, e3, e4, e5, Int32.zero_add, Int32.add_zero, Int32.sub_eq_add_neg, Int32.add_comm, Int32.add_assoc, Int32.add_left_neg, Int32.add_zero]
  | succ r ih =>
    show sq_s (se_f W w) (b + 1 + r) + se_f W w (b + 1 + r) = sq_s (se_f W (w - 1)) (b + 1 + r) + se_f W (w - 1) (b + 1 + r) + _
    have e1 : se_f W w (b + 1 + r) = se_f W (w - 1) (b + 1 + r) := by unfold se_f; rw [b4 _ (by omega)]
    rw [ih, e1, Int32.add_assoc, Int32.add_assoc, Int32.add_comm (sq_s W b - W b)]
theorem sq_bd {f : Nat → Int32} {c : Int} (hc : 0 ≤ c) (hc2 : c ≤ 300000) : ∀ n, n ≤ 24 → (∀ k, k < n → -c ≤ (f k).toInt ∧ (f k).toInt ≤ c) → -(n * c) ≤ (sq_s f n).toInt ∧ (sq_s f n).toInt ≤ n * c
  | 0, _, _ => by
    show -((0 : Nat) * c) ≤ (0 : Int) ∧ (0 : Int) ≤ (0 : Nat) * c
    omega
  | n + 1, hn, h => by
    have ih := sq_bd hc hc2 n (by omega) (fun k hk => h k (by omega))
    have h1 := h n (by omega)
    have e : ((n + 1 : Nat) : Int) * c = n * c + c := by rw [Int.natCast_add, Int.add_mul]; show _ + 1 * c = _; rw [Int.one_mul]
    have b1 : (n : Int) * c ≤ 24 * 300000 := Int.mul_le_mul (by omega) hc2 hc (by omega)
    rw [sq_s, fb_addI (by omega) (by omega)]
    omega
/-! ===== the nearest way ===== -/
def se_D (aim : Int32) (S : Nat → Int32) (w : Nat) : Nat := (aim.toInt - (S w).toInt).natAbs
def se_b (D : Nat → Nat) : Nat → Nat
  | 0 => 0
  | w + 1 => if w = 0 then 0 else if D w < D (se_b D w) then w else se_b D w
theorem se_b_lt {D : Nat → Nat} : ∀ w, 0 < w → se_b D w < w
  | 0, h => absurd h (Nat.lt_irrefl 0)
  | w + 1, _ => by
    rw [se_b]
    by_cases e : w = 0
    · rw [if_pos e]; omega
    · rw [if_neg e]
      have := se_b_lt (D := D) w (by omega)
      split <;> omega
theorem se_b_stop {D : Nat → Nat} {w : Nat} (hw : 0 < w) (h : D (se_b D w) = 0) : ∀ r, se_b D (w + r) = se_b D w
  | 0 => rfl
  | r + 1 => by
    show se_b D ((w + r) + 1) = _
    rw [se_b, if_neg (by omega), se_b_stop hw h r, h, if_neg (by omega)]
theorem se_abs {x : Int32} (h : -2147483648 < x.toInt) : (if 0 ≤ x then x else 0 - x).toInt = (x.toInt.natAbs : Int) := by
  by_cases c : 0 ≤ x
  · rw [if_pos c]
    have : (0 : Int) ≤ x.toInt := (fa_le _ _).1 c
    omega
  · rw [if_neg c]
    have c2 : ¬ (0 : Int) ≤ x.toInt := fun q => c ((fa_le _ _).2 q)
    have r := fb_rng x
    have z : (0 : Int32).toInt = 0 := rfl
    rw [fb_subI (by omega) (by omega)]
    omega
theorem se_sub {aim s : Int32} (ha : -22000000 ≤ aim.toInt ∧ aim.toInt ≤ 22000000) (hs : -8000000 ≤ s.toInt ∧ s.toInt ≤ 8000000) : (aim - s).toInt = aim.toInt - s.toInt ∧ (s - aim).toInt = s.toInt - aim.toInt := ⟨fb_subI (by omega) (by omega), fb_subI (by omega) (by omega)⟩

