/-! ===== propose: texts taken over ===== -/
theorem rs_rows_b {b : Nat → Int32} {len : Nat} (hl : len ≤ 50) : ∀ m a F, a ≤ 60 → (rs_rows b len m a F).2.1 ≤ 60
  | 0, _, _, h => h
  | m + 1, a, F, h => by
    rw [rs_rows]
    split
    · exact h
    · split
      · rename_i z
        exact rs_rows_b hl m _ _ (by have := (rs_row_t z).2; omega)
      · have := rs_row_b (b := b) (len := len) (a := a) (F := F)
        show (rs_row b len a F).2.1 ≤ 60
        omega
def tx_c (c : Nat) : Bool := !(Nat.beq c 21 || Nat.beq c 22 || Nat.beq c 24 || Nat.beq c 25 || Nat.beq c 26 || Nat.beq c 27 || Nat.beq c 28 || Nat.beq c 29 || Nat.beq c 30 || Nat.beq c 31 || Nat.beq c 32 || Nat.beq c 33 || Nat.beq c 41 || Nat.beq c 85 || Nat.beq c 103 || Nat.beq c 104 || Nat.beq c 125)
def tx_f (k : Nat) : Bool := !(Nat.beq k 22 || Nat.beq k 25) && (Nat.blt k 55 || Nat.blt 60 k)
theorem tx_rng : ∀ c, c < 131 → ((49 ≤ c ∧ c ≤ 72) ∨ c = 113 ∨ c = 114) → tx_c c = true := by decide
theorem tx_d {c : Nat} (h : tx_c c = true) : c ≠ 21 ∧ c ≠ 22 ∧ c ≠ 24 ∧ c ≠ 25 ∧ c ≠ 26 ∧ c ≠ 27 ∧ c ≠ 28 ∧ c ≠ 29 ∧ c ≠ 30 ∧ c ≠ 31 ∧ c ≠ 32 ∧ c ≠ 33 ∧ c ≠ 41 ∧ c ≠ 85 ∧ c ≠ 103 ∧ c ≠ 104 ∧ c ≠ 125 := by
  refine ⟨?_, ?_, ?_, ?_, ?_, ?_, ?_, ?_, ?_, ?_, ?_, ?_, ?_, ?_, ?_, ?_, ?_⟩
  all_goals (intro z; rw [z] at h; exact absurd h (by decide))
theorem tx_K {th ti : Nat} {τ σ : am_S} (h35 : τ 35 = σ 35) (h37 : τ 37 = σ 37) (h39 : τ 39 = σ 39) (h40 : τ 40 = σ 40) (h44 : τ 44 = σ 44) (hK' : τ 41 5 = 0 ∨ (τ 41 = σ 41 ∧ τ 31 5 = σ 31 5 ∧ τ 31 6 = σ 31 6)) (hK : rK th ti (σ 35) (σ 37) (σ 39) (σ 40) (σ 31 5) (σ 31 6) (σ 41) (σ 44)) : rK th ti (τ 35) (τ 37) (τ 39) (τ 40) (τ 31 5) (τ 31 6) (τ 41) (τ 44) := by
  rcases hK' with z | ⟨z1, z2, z3⟩
  · exact Or.inl z
  · rw [h35, h37, h39, h40, h44, z1, z2, z3]; exact hK
theorem R0_tx {τ σ : am_S} {tl' : Nat} (h : R0 σ) (hF : ∀ c, tx_c c = true → τ c = σ c) (h85 : ∀ k, tx_f k = true → τ 85 k = σ 85 k) (ht : tl' ≤ 50) (h22 : τ 22 2 = nI tl') (h22' : τ 85 22 = nI tl') (h6 : τ 21 6 = τ 85 25) (hX0' : rXp (τ 21 4) (τ 104 0) (τ 26) (τ 27) (τ 25) (τ 103) 0) (hX1' : rXp (τ 21 5) (τ 104 1) (τ 29) (τ 30) (τ 28) (τ 103) 50) (hX2' : rXt (τ 104 2) (τ 32) (τ 33) (τ 31) (τ 103) 100) (hK' : τ 41 5 = 0 ∨ (τ 41 = σ 41 ∧ τ 31 5 = σ 31 5 ∧ τ 31 6 = σ 31 6)) : R0 τ := by
  obtain ⟨n, e, p, pe, th, ti, wa, ca, ta, dd, wt, tl, cn, ce, cp, cpe, cth, cti, cwa, cca, cta, cdy, cwt, ctl, f1_11, f1_12, f1_13, f13_7, f22_2, f21_6, f34_6, f34_7, f47_2, f47_3, f48_4, f73_4, f78_4, f0_11, f0_12, f47_0, f47_1, r2, r3, r4, r5, r6, r7, r8, r9, r10, r11, r14, r15, r18, r19, r20, r23, r35, r36, r37, r38, r39, r40, r49, r50, r74, r75, r76, r77, r79, r80, r84, hM, hL, hP, hE, hW, hG, hC, hT, hD, hX0, hX1, hX2, hK⟩ := h
  exact ⟨n, e, p, pe, th, ti, wa, ca, ta, dd, wt, tl', (by rw [hF 1 (by decide)]; exact cn), (by rw [hF 1 (by decide)]; exact ce), (by rw [hF 1 (by decide)]; exact cp), (by rw [hF 13 (by decide)]; exact cpe), (by rw [hF 34 (by decide)]; exact cth), (by rw [hF 34 (by decide)]; exact cti), (by rw [hF 48 (by decide)]; exact cwa), (by rw [hF 73 (by decide)]; exact cca), (by rw [hF 78 (by decide)]; exact cta), (by rw [hF 0 (by decide)]; exact cdy), (by rw [hF 0 (by decide)]; exact cwt), h22, (by rw [hF 1 (by decide), h85 1 (by decide)]; exact f1_11), (by rw [hF 1 (by decide), h85 5 (by decide)]; exact f1_12), (by rw [hF 1 (by decide), h85 10 (by decide)]; exact f1_13), (by rw [hF 13 (by decide), h85 14 (by decide)]; exact f13_7), (by rw [h22, h22']), h6, (by rw [hF 34 (by decide), h85 26 (by decide)]; exact f34_6), (by rw [hF 34 (by decide), h85 31 (by decide)]; exact f34_7), (by rw [hF 47 (by decide), h85 35 (by decide)]; exact f47_2), (by rw [hF 47 (by decide), h85 36 (by decide)]; exact f47_3), (by rw [hF 48 (by decide), h85 37 (by decide)]; exact f48_4), (by rw [hF 73 (by decide), h85 42 (by decide)]; exact f73_4), (by rw [hF 78 (by decide), h85 47 (by decide)]; exact f78_4), (by rw [hF 0 (by decide), h85 50 (by decide)]; exact f0_11), (by rw [hF 0 (by decide), h85 0 (by decide)]; exact f0_12), (by rw [hF 47 (by decide), hF 111 (by decide)]; exact f47_0), (by rw [hF 47 (by decide), hF 111 (by decide)]; exact f47_1), (by rw [hF 2 (by decide), hF 86 (by decide)]; exact r2), (by rw [hF 3 (by decide), hF 87 (by decide)]; exact r3), (by rw [hF 4 (by decide), hF 88 (by decide)]; exact r4), (by rw [hF 5 (by decide), hF 95 (by decide)]; exact r5), (by rw [hF 6 (by decide), hF 89 (by decide)]; exact r6), (by rw [hF 7 (by decide), hF 90 (by decide)]; exact r7), (by rw [hF 8 (by decide), hF 91 (by decide)]; exact r8), (by rw [hF 9 (by decide), hF 92 (by decide)]; exact r9), (by rw [hF 10 (by decide), hF 93 (by decide)]; exact r10), (by rw [hF 11 (by decide), hF 94 (by decide)]; exact r11), (by rw [hF 14 (by decide), hF 96 (by decide)]; exact r14), (by rw [hF 15 (by decide), hF 97 (by decide)]; exact r15), (by rw [hF 18 (by decide), hF 99 (by decide)]; exact r18), (by rw [hF 19 (by decide), hF 100 (by decide)]; exact r19), (by rw [hF 20 (by decide), hF 101 (by decide)]; exact r20), (by rw [hF 23 (by decide), hF 102 (by decide)]; exact r23), (by rw [hF 35 (by decide), hF 105 (by decide)]; exact r35), (by rw [hF 36 (by decide), hF 107 (by decide)]; exact r36), (by rw [hF 37 (by decide), hF 106 (by decide)]; exact r37), (by rw [hF 38 (by decide), hF 108 (by decide)]; exact r38), (by rw [hF 39 (by decide), hF 109 (by decide)]; exact r39), (by rw [hF 40 (by decide), hF 110 (by decide)]; exact r40), (by rw [hF 49 (by decide), hF 112 (by decide)]; exact r49), (by rw [hF 50 (by decide), hF 115 (by decide)]; exact r50), (by rw [hF 74 (by decide), hF 116 (by decide)]; exact r74), (by rw [hF 75 (by decide), hF 117 (by decide)]; exact r75), (by rw [hF 76 (by decide), hF 118 (by decide)]; exact r76), (by rw [hF 77 (by decide), hF 119 (by decide)]; exact r77), (by rw [hF 79 (by decide), hF 120 (by decide)]; exact r79), (by rw [hF 80 (by decide), hF 121 (by decide)]; exact r80), (by rw [hF 84 (by decide), hF 122 (by decide)]; exact r84), (by intro i; rw [hF 16 (by decide), hF 17 (by decide), hF 98 (by decide)]; exact hM i), (by rw [hF 4 (by decide), hF 5 (by decide), hF 6 (by decide), hF 7 (by decide), hF 8 (by decide), hF 11 (by decide)]; exact hL), (by rw [hF 14 (by decide), hF 15 (by decide), hF 16 (by decide), hF 17 (by decide), hF 18 (by decide), hF 20 (by decide)]; exact hP), (by rw [hF 35 (by decide), hF 36 (by decide), hF 37 (by decide), hF 38 (by decide), hF 39 (by decide), hF 40 (by decide)]; exact hE), (by rw [hF 47 (by decide)]; exact hW), (rG_fr (fun c hc => hF c (tx_rng c (by omega) hc)) hG), (by rw [hF 74 (by decide), hF 75 (by decide), hF 77 (by decide), hF 35 (by decide)]; exact hC), (by rw [hF 79 (by decide), hF 80 (by decide)]; exact hT), ⟨hD.1, hD.2.1, ht⟩, hX0', hX1', hX2', (tx_K (hF 35 (by decide)) (hF 37 (by decide)) (hF 39 (by decide)) (hF 40 (by decide)) (hF 44 (by decide)) hK' hK)⟩
def tx_o (len : Nat) (b gr o : Nat → Int32) : Prop := len ≤ 50 ∧ o 2 = nI len ∧ (rs_all b len).1 = true ∧ rgF (rs_all b len).2.2 o gr
theorem tx_of {L : Int32} {b gr o mb : Nat → Int32} {mo : Nat} (h : rXt L b gr o mb mo) : ∃ len, tx_o len b gr o ∧ L = nI len ∧ ∀ k, k < len → b k = mb (mo + k) := by
  obtain ⟨len, a1, a2, a3, a4, a5, a6⟩ := h
  exact ⟨len, ⟨a1, a3, a5, a6⟩, a2, a4⟩
theorem tx_to {L : Int32} {b gr o mb : Nat → Int32} {mo len : Nat} (h : tx_o len b gr o) (hL : L = nI len) (hm : ∀ k, k < len → b k = mb (mo + k)) : rXt L b gr o mb mo := ⟨len, h.1, hL, h.2.1, hm, h.2.2.1, h.2.2.2⟩
theorem tx_cp {len : Nat} {b gr o b' gr' o' : Nat → Int32} (h : tx_o len b gr o) (hb : ∀ k, k < 50 → b' k = b k) (hg : ∀ k, k < 4 → gr' k = gr k) (ho : ∀ j, 2 ≤ j → j ≤ 8 → o' j = o j) : tx_o len b' gr' o' := by
  obtain ⟨a1, a2, a3, a4⟩ := h
  have e : rs_all b' len = rs_all b len := rs_all_cong (fun k hk => hb k (by omega))
  refine ⟨a1, by rw [ho 2 (by omega) (by omega)]; exact a2, by rw [e]; exact a3, ?_⟩
  rw [e]
  obtain ⟨g1, g2, g3, g4, g5, g6, g7, g8⟩ := a4
  exact ⟨g1, by rw [ho 3 (by omega) (by omega)]; exact g2, fun i hi => by rw [hg i (by omega)]; exact g3 i hi, by rw [ho 4 (by omega) (by omega)]; exact g4, by rw [ho 5 (by omega) (by omega)]; exact g5, by rw [ho 6 (by omega) (by omega)]; exact g6, by rw [ho 7 (by omega) (by omega)]; exact g7, by rw [ho 8 (by omega) (by omega)]; exact g8⟩
theorem tx_bo {len : Nat} {b gr o : Nat → Int32} (h : tx_o len b gr o) : am_bo (o 6) = true := by
  have g6 := h.2.2.2.2.2.2.2.2.1
  rcases (rs_all_good b len).2 with z | z
  · rw [g6, z]; rfl
  · rw [g6, z]; rfl
theorem un_sym {b b' : Nat → Int32} {l l' : Nat} : ∀ r k, un_s b b' l l' r k = un_s b' b l' l r k
  | 0, _ => rfl
  | r + 1, k => by
    rw [un_s, un_s]
    by_cases q : k < l ∧ k < l'
    · rw [if_pos q, if_pos (show k < l' ∧ k < l from ⟨q.2, q.1⟩)]
      by_cases z : b k = b' k
      · rw [if_pos z, if_pos z.symm, un_sym r]
      · rw [if_neg z, if_neg (fun u => z u.symm)]
    · rw [if_neg q, if_neg (show ¬ (k < l' ∧ k < l) from fun u => q ⟨u.2, u.1⟩)]
      by_cases z : l = l'
      · rw [if_pos z, if_pos z.symm]
      · rw [if_neg z, if_neg (fun u => z u.symm)]
theorem un_lt {b b' : Nat → Int32} {l l' : Nat} (hl : l ≤ 50) (hl' : l' ≤ 50) : (0 ≤ un_s b b' l l' 60 0 ↔ ¬ un_s b b' l l' 60 0 = -1) ∧ (un_s b b' l l' 60 0 < 0 ↔ un_s b b' l l' 60 0 = -1) := by
  rcases un_v (b := b) (b' := b') hl hl' 60 0 (by omega) with z | ⟨j, j1, z⟩
  · rw [z]; decide
  · rw [z]
    have n1 : ¬ nI j = -1 := fun u => by
      have := nI_pos (n := j) (by omega)
      rw [u] at this; exact this (by decide)
    exact ⟨⟨fun _ => n1, fun _ => nI_pos' (by omega)⟩, ⟨fun u => absurd u (nI_pos (by omega)), fun u => absurd u n1⟩⟩
theorem tf_25 {σ : am_S} (hb : am_bo (σ 22 6) = true) : ∃ τ, fx_Text_takeFrom σ = some τ ∧ (∀ c, c ≠ 25 → c ≠ 26 → c ≠ 27 → τ c = σ c) ∧ (∀ k, k < 50 → τ 26 k = σ 23 k) ∧ (∀ k, k < 4 → τ 27 k = σ 24 k) ∧ (∀ j, 2 ≤ j → j ≤ 8 → τ 25 j = σ 22 j) := by
  unfold fx_Text_takeFrom
  rw [hb_gt (show am_cpy am_sh 23 26 0 0 50 = true by decide), hb_gt (show am_cpy am_sh 24 27 0 0 4 = true by decide), hb_gt hb]
  refine ⟨_, rfl, ?_, ?_, ?_, ?_⟩
  · intro c h1 h2 h3
    rw [hb_up_ne h1, hb_up_ne h1, hb_up_ne h1, hb_up_ne h1, hb_up_ne h1, hb_up_ne h1, hb_up_ne h1, hb_set_ne h3, hb_set_ne h2]
  · intro k hk
    show va_cpy (σ 23) (σ 26) 0 0 50 k = σ 23 k
    rw [pk_cpy_in (by omega) (by omega), Nat.zero_add, Nat.sub_zero]
  · intro k hk
    show va_cpy (σ 24) (σ 27) 0 0 4 k = σ 24 k
    rw [pk_cpy_in (by omega) (by omega), Nat.zero_add, Nat.sub_zero]
  · intro j h1 h2
    have : j = 2 ∨ j = 3 ∨ j = 4 ∨ j = 5 ∨ j = 6 ∨ j = 7 ∨ j = 8 := by omega
    rcases this with z | z | z | z | z | z | z <;> (subst z; rfl)
theorem tf_28 {σ : am_S} (hb : am_bo (σ 22 6) = true) : ∃ τ, fx_Text_takeFrom_28_22 σ = some τ ∧ (∀ c, c ≠ 28 → c ≠ 29 → c ≠ 30 → τ c = σ c) ∧ (∀ k, k < 50 → τ 29 k = σ 23 k) ∧ (∀ k, k < 4 → τ 30 k = σ 24 k) ∧ (∀ j, 2 ≤ j → j ≤ 8 → τ 28 j = σ 22 j) := by
  unfold fx_Text_takeFrom_28_22
  rw [hb_gt (show am_cpy am_sh 23 29 0 0 50 = true by decide), hb_gt (show am_cpy am_sh 24 30 0 0 4 = true by decide), hb_gt hb]
  refine ⟨_, rfl, ?_, ?_, ?_, ?_⟩
  · intro c h1 h2 h3
    rw [hb_up_ne h1, hb_up_ne h1, hb_up_ne h1, hb_up_ne h1, hb_up_ne h1, hb_up_ne h1, hb_up_ne h1, hb_set_ne h3, hb_set_ne h2]
  · intro k hk
    show va_cpy (σ 23) (σ 29) 0 0 50 k = σ 23 k
    rw [pk_cpy_in (by omega) (by omega), Nat.zero_add, Nat.sub_zero]
  · intro k hk
    show va_cpy (σ 24) (σ 30) 0 0 4 k = σ 24 k
    rw [pk_cpy_in (by omega) (by omega), Nat.zero_add, Nat.sub_zero]
  · intro j h1 h2
    have : j = 2 ∨ j = 3 ∨ j = 4 ∨ j = 5 ∨ j = 6 ∨ j = 7 ∨ j = 8 := by omega
    rcases this with z | z | z | z | z | z | z <;> (subst z; rfl)
theorem tf_31 {σ : am_S} (hb : am_bo (σ 25 6) = true) : ∃ τ, fx_Text_takeFrom_31_25 σ = some τ ∧ (∀ c, c ≠ 31 → c ≠ 32 → c ≠ 33 → τ c = σ c) ∧ (∀ k, k < 50 → τ 32 k = σ 26 k) ∧ (∀ k, k < 4 → τ 33 k = σ 27 k) ∧ (∀ j, 2 ≤ j → j ≤ 8 → τ 31 j = σ 25 j) := by
  unfold fx_Text_takeFrom_31_25
  rw [hb_gt (show am_cpy am_sh 26 32 0 0 50 = true by decide), hb_gt (show am_cpy am_sh 27 33 0 0 4 = true by decide), hb_gt hb]
  refine ⟨_, rfl, ?_, ?_, ?_, ?_⟩
  · intro c h1 h2 h3
    rw [hb_up_ne h1, hb_up_ne h1, hb_up_ne h1, hb_up_ne h1, hb_up_ne h1, hb_up_ne h1, hb_up_ne h1, hb_set_ne h3, hb_set_ne h2]
  · intro k hk
    show va_cpy (σ 26) (σ 32) 0 0 50 k = σ 26 k
    rw [pk_cpy_in (by omega) (by omega), Nat.zero_add, Nat.sub_zero]
  · intro k hk
    show va_cpy (σ 27) (σ 33) 0 0 4 k = σ 27 k
    rw [pk_cpy_in (by omega) (by omega), Nat.zero_add, Nat.sub_zero]
  · intro j h1 h2
    have : j = 2 ∨ j = 3 ∨ j = 4 ∨ j = 5 ∨ j = 6 ∨ j = 7 ∨ j = 8 := by omega
    rcases this with z | z | z | z | z | z | z <;> (subst z; rfl)
/-! the reference's copies -/
theorem b46_c {N a tl : Nat} (ha : a ≤ 1) (ht : tl ≤ 50) : ∀ r k q ρ, k + r = tl → r < q → ∃ ρ', fm_propose_b46 N q (nI a) (nI tl) (nI k) ρ = fm_propose_b46 N 1 (nI a) (nI tl) (nI tl) ρ' ∧ (∀ c, c ≠ 103 → ρ' c = ρ c) ∧ (∀ j, j < 50 * a + k ∨ 50 * a + tl ≤ j → ρ' 103 j = ρ 103 j) ∧ (∀ j, k ≤ j → j < tl → ρ' 103 (50 * a + j) = ρ 102 j) := by
  intro r
  induction r with
  | zero =>
    intro k q ρ a1 a2
    obtain ⟨q, rfl⟩ : ∃ m, q = m + 1 := ⟨q - 1, by omega⟩
    have : k = tl := by omega
    subst this
    refine ⟨ρ, ?_, fun _ _ => rfl, fun _ _ => rfl, fun j b1 b2 => absurd b1 (by omega)⟩
    rw [fm_propose_b46, fm_propose_b46, if_pos (nI_le (Nat.le_refl _) (by omega)), if_pos (nI_le (Nat.le_refl _) (by omega))]
  | succ r ih =>
    intro k q ρ a1 a2
    obtain ⟨q, rfl⟩ : ∃ m, q = m + 1 := ⟨q - 1, by omega⟩
    have ix : (50 : Int32) * nI a + nI k = nI (50 * a + k) := by rw [hb_L50, pk_mul, nI_add]
    obtain ⟨ρ', y1, y2, y3, y4⟩ := ih (k + 1) q (am_up ρ 103 (50 * a + k) (ρ 102 k)) (by omega) (by omega)
    refine ⟨ρ', ?_, ?_, ?_, ?_⟩
    · rw [fm_propose_b46, if_neg (nI_ge (by omega) (by omega)), hb_g (by omega) (by decide), ix, hb_g (by omega) (by decide), nI_clamp (by omega), nI_clamp (by omega), nI_1]
      exact y1
    · intro c hc; rw [y2 c hc, hb_up_ne hc]
    · intro j hj; rw [y3 j (by omega), hb_up_eq, hb_un (by omega)]
    · intro j b1 b2
      by_cases z : j = k
      · subst z; rw [y3 (50 * a + j) (by omega), hb_up_eq, hb_us]
      · rw [y4 j (by omega) b2, hb_up_ne (by decide)]
theorem b116_c {N a tl : Nat} (ht : tl ≤ 50) : ∀ r k q ρ, k + r = tl → r < q → ∃ ρ', fm_propose_b116 N q (nI a) (nI tl) (nI k) ρ = fm_propose_b160 N (nI a) (am_up (am_up ρ' 104 2 (nI tl)) 85 25 (ρ' 85 0)) ∧ (∀ c, c ≠ 103 → ρ' c = ρ c) ∧ (∀ j, j < 100 + k ∨ 100 + tl ≤ j → ρ' 103 j = ρ 103 j) ∧ (∀ j, k ≤ j → j < tl → ρ' 103 (100 + j) = ρ 102 j) := by
  intro r
  induction r with
  | zero =>
    intro k q ρ a1 a2
    obtain ⟨q, rfl⟩ : ∃ m, q = m + 1 := ⟨q - 1, by omega⟩
    have : k = tl := by omega
    subst this
    refine ⟨ρ, ?_, fun _ _ => rfl, fun _ _ => rfl, fun j b1 b2 => absurd b1 (by omega)⟩
    rw [fm_propose_b116, if_pos (nI_le (Nat.le_refl _) (by omega)), hb_gt (show am_in 2 3 = true from rfl), hb_cl2]
  | succ r ih =>
    intro k q ρ a1 a2
    obtain ⟨q, rfl⟩ : ∃ m, q = m + 1 := ⟨q - 1, by omega⟩
    have ix : (100 : Int32) + nI k = nI (100 + k) := by rw [hb_L100, nI_add]
    obtain ⟨ρ', y1, y2, y3, y4⟩ := ih (k + 1) q (am_up ρ 103 (100 + k) (ρ 102 k)) (by omega) (by omega)
    refine ⟨ρ', ?_, ?_, ?_, ?_⟩
    · rw [fm_propose_b116, if_neg (nI_ge (by omega) (by omega)), hb_g (by omega) (by decide), ix, hb_g (by omega) (by decide), nI_clamp (by omega), nI_clamp (by omega), nI_1]
      exact y1
    · intro c hc; rw [y2 c hc, hb_up_ne hc]
    · intro j hj; rw [y3 j (by omega), hb_up_eq, hb_un (by omega)]
    · intro j b1 b2
      by_cases z : j = k
      · subst z; rw [y3 (100 + j) (by omega), hb_up_eq, hb_us]
      · rw [y4 j (by omega) b2, hb_up_ne (by decide)]
theorem tt_0 {N tl : Nat} {σ : am_S} (hN : 20000 ≤ N) (ht : tl ≤ 50) (h : σ 22 2 = nI tl) (hr : (rs_all (σ 23) tl).1 = true) (h4 : σ 21 4 = 0 ∨ σ 21 4 = 1) (h5 : σ 21 5 = 0 ∨ σ 21 5 = 1) : ∃ τ, fx_Houses_takeTape N 0 σ = some (-1, τ) ∧ (∀ c, c ≠ 21 → c ≠ 22 → c ≠ 24 → c ≠ 25 → c ≠ 26 → c ≠ 27 → τ c = σ c) ∧ τ 22 2 = 0 ∧ τ 21 4 = 1 ∧ τ 21 5 = σ 21 5 ∧ τ 21 6 = σ 21 6 ∧ tx_o tl (τ 26) (τ 27) (τ 25) ∧ ∀ k, k < 50 → τ 26 k = σ 23 k := by
  obtain ⟨σ', e1, e2, e3⟩ := sx_read (N := N) hN ht h
  rw [hr, if_pos rfl] at e1
  have c23 : σ' 23 = σ 23 := e2.1 23 (by decide) (by decide)
  have c21 : σ' 21 = σ 21 := e2.1 21 (by decide) (by decide)
  have tp : tx_o tl (σ' 23) (σ' 24) (σ' 22) := ⟨ht, by rw [e2.2]; exact h, by rw [c23]; exact hr, by rw [c23]; exact e3 hr⟩
  obtain ⟨τ0, t1, t2, t3, t4, t5⟩ := tf_25 (σ := σ') (tx_bo tp)
  have d21 : τ0 21 = σ 21 := by rw [t2 21 (by decide) (by decide) (by decide)]; exact c21
  refine ⟨am_up (am_up (am_up τ0 21 4 (1)) 21 5 (σ 21 5)) 22 2 0, ?_, ?_, ?_, ?_, ?_, ?_, ?_, ?_⟩
  · unfold fx_Houses_takeTape fx_Houses_heldBy
    rw [e1, hb_bind, if_pos (show ((-1 : Int32), σ').1 = -1 from rfl)]
    rw [if_pos (show (0 : Int32) = 0 from rfl), if_pos (show (25 : Nat) = 25 from rfl), t1, hb_bind]
    unfold fx_Houses_takeTape_b37 fx_Houses_takeTape_b42 fx_Houses_takeTape_b58 fx_Houses_takeTape_b63 fx_Houses_takeTape_b66
    rw [d21]
    rcases h4 with z | z
    · rcases h5 with y | y
      · rw [z, y]; rfl
      · rw [z, y]; rfl
    · rcases h5 with y | y
      · rw [z, y]; rfl
      · rw [z, y]; rfl
  · intro c x1 x2 x3 x4 x5 x6
    rw [hb_up_ne x2, hb_up_ne x1, hb_up_ne x1, t2 c x4 x5 x6, e2.1 c x2 x3]
  · rw [hb_up_eq, hb_us]
  · rw [hb_up_ne (by decide), hb_up_eq, hb_un (by decide), hb_up_eq, hb_us]
  · rw [hb_up_ne (by decide), hb_up_eq, hb_us]
  · rw [hb_up_ne (by decide), hb_up_eq, hb_un (by decide), hb_up_eq, hb_un (by decide), d21]
  · rw [hb_up_ne (by decide), hb_up_ne (by decide), hb_up_ne (by decide), hb_up_ne (by decide), hb_up_ne (by decide), hb_up_ne (by decide), hb_up_ne (by decide), hb_up_ne (by decide), hb_up_ne (by decide)]
    exact tx_cp tp t3 t4 t5
  · intro k hk
    rw [hb_up_ne (by decide), hb_up_ne (by decide), hb_up_ne (by decide), t3 k hk, c23]
theorem tt_1 {N tl : Nat} {σ : am_S} (hN : 20000 ≤ N) (ht : tl ≤ 50) (h : σ 22 2 = nI tl) (hr : (rs_all (σ 23) tl).1 = true) (h4 : σ 21 4 = 0 ∨ σ 21 4 = 1) (h5 : σ 21 5 = 0 ∨ σ 21 5 = 1) : ∃ τ, fx_Houses_takeTape N 1 σ = some (-1, τ) ∧ (∀ c, c ≠ 21 → c ≠ 22 → c ≠ 24 → c ≠ 28 → c ≠ 29 → c ≠ 30 → τ c = σ c) ∧ τ 22 2 = 0 ∧ τ 21 5 = 1 ∧ τ 21 4 = σ 21 4 ∧ τ 21 6 = σ 21 6 ∧ tx_o tl (τ 29) (τ 30) (τ 28) ∧ ∀ k, k < 50 → τ 29 k = σ 23 k := by
  obtain ⟨σ', e1, e2, e3⟩ := sx_read (N := N) hN ht h
  rw [hr, if_pos rfl] at e1
  have c23 : σ' 23 = σ 23 := e2.1 23 (by decide) (by decide)
  have c21 : σ' 21 = σ 21 := e2.1 21 (by decide) (by decide)
  have tp : tx_o tl (σ' 23) (σ' 24) (σ' 22) := ⟨ht, by rw [e2.2]; exact h, by rw [c23]; exact hr, by rw [c23]; exact e3 hr⟩
  obtain ⟨τ0, t1, t2, t3, t4, t5⟩ := tf_28 (σ := σ') (tx_bo tp)
  have d21 : τ0 21 = σ 21 := by rw [t2 21 (by decide) (by decide) (by decide)]; exact c21
  refine ⟨am_up (am_up (am_up τ0 21 4 (σ 21 4)) 21 5 (1)) 22 2 0, ?_, ?_, ?_, ?_, ?_, ?_, ?_, ?_⟩
  · unfold fx_Houses_takeTape fx_Houses_heldBy
    rw [e1, hb_bind, if_pos (show ((-1 : Int32), σ').1 = -1 from rfl)]
    rw [if_neg (show ¬ (1 : Int32) = 0 by decide), if_neg (show ¬ (28 : Nat) = 25 by decide), if_pos (show (28 : Nat) = 28 from rfl), t1, hb_bind]
    unfold fx_Houses_takeTape_b37 fx_Houses_takeTape_b42 fx_Houses_takeTape_b58 fx_Houses_takeTape_b63 fx_Houses_takeTape_b66
    rw [d21]
    rcases h4 with z | z
    · rcases h5 with y | y
      · rw [z, y]; rfl
      · rw [z, y]; rfl
    · rcases h5 with y | y
      · rw [z, y]; rfl
      · rw [z, y]; rfl
  · intro c x1 x2 x3 x4 x5 x6
    rw [hb_up_ne x2, hb_up_ne x1, hb_up_ne x1, t2 c x4 x5 x6, e2.1 c x2 x3]
  · rw [hb_up_eq, hb_us]
  · rw [hb_up_ne (by decide), hb_up_eq, hb_us]
  · rw [hb_up_ne (by decide), hb_up_eq, hb_un (by decide), hb_up_eq, hb_us]
  · rw [hb_up_ne (by decide), hb_up_eq, hb_un (by decide), hb_up_eq, hb_un (by decide), d21]
  · rw [hb_up_ne (by decide), hb_up_ne (by decide), hb_up_ne (by decide), hb_up_ne (by decide), hb_up_ne (by decide), hb_up_ne (by decide), hb_up_ne (by decide), hb_up_ne (by decide), hb_up_ne (by decide)]
    exact tx_cp tp t3 t4 t5
  · intro k hk
    rw [hb_up_ne (by decide), hb_up_ne (by decide), hb_up_ne (by decide), t3 k hk, c23]

