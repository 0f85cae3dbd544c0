/-! ===== the law's loop ===== -/
def lwQ (x : Option (Int32 × am_S)) : Prop := ∃ s', x = some (1, s')
theorem lwQ_g {b : Bool} {x : Option (Int32 × am_S)} (h : b = true) (hx : lwQ x) : lwQ (am_g b x) := by rw [hb_gt h]; exact hx
theorem lwQ_i {c : Prop} [Decidable c] {x y : Option (Int32 × am_S)} (h1 : lwQ x) (h2 : lwQ y) : lwQ (if c then x else y) := by
  split
  · exact h1
  · exact h2
theorem lwQ_p {c : Prop} [Decidable c] {x y : Option (Int32 × am_S)} (h : c) (h1 : lwQ x) : lwQ (if c then x else y) := by rw [if_pos h]; exact h1
theorem lwQ_b {o : Option (Int32 × am_S)} {p : Int32 × am_S} {F : Int32 × am_S → Option (Int32 × am_S)} (h : o = some p) (hx : lwQ (F p)) : lwQ (o.bind F) := by rw [h]; exact hx
theorem lw_st {N X i q : Nat} {xs : Nat → Int32} {σ : am_S} (hN : 20000 ≤ N) (hX : X ≤ 2560) (hi : i + 5 ≤ X) (h : R σ) (ih : ∀ σ2, R σ2 → lwQ (fx_law_1001_0_85_b18 N X xs q (nI (i + 5)) σ2)) : lwQ (fx_law_1001_0_85_b18 N X xs (q + 1) (nI i) σ) := by
  have cond : ¬ (Int32.ofNat X - 5 < nI i) := by
    rw [fa_lt, show Int32.ofNat X = nI X from rfl, hb_L5, pk_sub_toInt (by omega) (by omega), nI_toInt (by omega)]
    omega
  have e1 : nI i + 1 = nI (i + 1) := nI_1 i
  have e2 : nI i + 2 = nI (i + 2) := by rw [hb_L2, nI_add]
  have e3 : nI i + 3 = nI (i + 3) := by rw [hb_L3, nI_add]
  have e4 : nI i + 4 = nI (i + 4) := by rw [hb_L4, nI_add]
  have e5 : nI i + 5 = nI (i + 5) := by rw [hb_L5, nI_add]
  have g0 : am_in (nI i) X = true := hb_in (by omega) (by omega)
  have g1 : am_in (nI i + 1) X = true := by rw [e1]; exact hb_in (by omega) (by omega)
  have g2 : am_in (nI i + 2) X = true := by rw [e2]; exact hb_in (by omega) (by omega)
  have g3 : am_in (nI i + 3) X = true := by rw [e3]; exact hb_in (by omega) (by omega)
  have g4 : am_in (nI i + 4) X = true := by rw [e4]; exact hb_in (by omega) (by omega)
  have nx : ∀ σ2, R σ2 → lwQ (fx_law_1001_0_85_b1519 N X xs (fun x3 σ => fx_law_1001_0_85_b18 N X xs q x3 σ) (nI i) σ2) := by
    intro σ2 h2
    unfold fx_law_1001_0_85_b1519
    rw [e5]
    exact ih σ2 h2
  rw [fx_law_1001_0_85_b18, if_neg cond]
  refine lwQ_g g0 ?_
  refine lwQ_i ?_ ?_
  · obtain ⟨v, σ1, σ2, b1, b2, b3⟩ := C_parish (xs (nI i + 1).toNatClampNeg) (xs (nI i + 2).toNatClampNeg) h
    exact lwQ_g g1 (lwQ_g g2 (lwQ_b b1 (lwQ_g g1 (lwQ_g g2 (lwQ_b b2 (lwQ_p rfl (nx _ b3)))))))
  refine lwQ_i ?_ ?_
  · obtain ⟨v, σ1, σ2, b1, b2, b3⟩ := C_edge (xs (nI i + 1).toNatClampNeg) (xs (nI i + 2).toNatClampNeg) (xs (nI i + 3).toNatClampNeg) (xs (nI i + 4).toNatClampNeg) h
    exact lwQ_g g1 (lwQ_g g2 (lwQ_g g3 (lwQ_g g4 (lwQ_b b1 (lwQ_g g1 (lwQ_g g2 (lwQ_g g3 (lwQ_g g4 (lwQ_b b2 (lwQ_p rfl (nx _ b3)))))))))))
  refine lwQ_i ?_ ?_
  · obtain ⟨v, σ1, σ2, b1, b2, b3⟩ := C_peg (xs (nI i + 1).toNatClampNeg) (xs (nI i + 2).toNatClampNeg) h
    exact lwQ_g g1 (lwQ_g g2 (lwQ_b b1 (lwQ_g g1 (lwQ_g g2 (lwQ_b b2 (lwQ_p rfl (nx _ b3)))))))
  refine lwQ_i ?_ ?_
  · obtain ⟨v, σ1, σ2, b1, b2, b3⟩ := C_settle (xs (nI i + 1).toNatClampNeg) (xs (nI i + 2).toNatClampNeg) h
    exact lwQ_g g1 (lwQ_g g2 (lwQ_b b1 (lwQ_g g1 (lwQ_g g2 (lwQ_b b2 (lwQ_p rfl (nx _ b3)))))))
  refine lwQ_i ?_ ?_
  · obtain ⟨v, σ1, σ2, b1, b2, b3⟩ := C_seat (xs (nI i + 1).toNatClampNeg) (xs (nI i + 2).toNatClampNeg) h
    exact lwQ_g g1 (lwQ_g g2 (lwQ_b b1 (lwQ_g g1 (lwQ_g g2 (lwQ_b b2 (lwQ_p rfl (nx _ b3)))))))
  refine lwQ_i ?_ ?_
  · obtain ⟨v, σ1, σ2, b1, b2, b3⟩ := C_side (N := N) (xs (nI i + 1).toNatClampNeg) hN h
    exact lwQ_g g1 (lwQ_b b1 (lwQ_g g1 (lwQ_b b2 (lwQ_p rfl (nx _ b3)))))
  refine lwQ_i ?_ ?_
  · obtain ⟨v, σ1, σ2, b1, b2, b3⟩ := C_enclave (N := N) (xs (nI i + 1).toNatClampNeg) hN h
    exact lwQ_g g1 (lwQ_b b1 (lwQ_g g1 (lwQ_b b2 (lwQ_p rfl (nx _ b3)))))
  refine lwQ_i ?_ ?_
  · obtain ⟨v, σ1, σ2, b1, b2, b3⟩ := C_far (N := N) (xs (nI i + 1).toNatClampNeg) (xs (nI i + 2).toNatClampNeg) (xs (nI i + 3).toNatClampNeg) hN h
    exact lwQ_g g1 (lwQ_g g2 (lwQ_g g3 (lwQ_b b1 (lwQ_g g1 (lwQ_g g2 (lwQ_g g3 (lwQ_b b2 (lwQ_p rfl (nx _ b3)))))))))
  refine lwQ_i ?_ ?_
  · obtain ⟨v, σ1, σ2, b1, b2, b3⟩ := C_person (xs (nI i + 1).toNatClampNeg) (xs (nI i + 2).toNatClampNeg) h
    exact lwQ_g g1 (lwQ_g g2 (lwQ_b b1 (lwQ_g g1 (lwQ_g g2 (lwQ_b b2 (lwQ_p rfl (nx _ b3)))))))
  refine lwQ_i ?_ ?_
  · obtain ⟨v, σ1, σ2, b1, b2, b3⟩ := C_move (xs (nI i + 1).toNatClampNeg) (xs (nI i + 2).toNatClampNeg) h
    exact lwQ_g g1 (lwQ_g g2 (lwQ_b b1 (lwQ_g g1 (lwQ_g g2 (lwQ_b b2 (lwQ_p rfl (nx _ b3)))))))
  refine lwQ_i ?_ ?_
  · obtain ⟨v, σ1, σ2, b1, b2, b3⟩ := C_work (xs (nI i + 1).toNatClampNeg) (xs (nI i + 2).toNatClampNeg) (xs (nI i + 3).toNatClampNeg) h
    exact lwQ_g g1 (lwQ_g g2 (lwQ_g g3 (lwQ_b b1 (lwQ_g g1 (lwQ_g g2 (lwQ_g g3 (lwQ_b b2 (lwQ_p rfl (nx _ b3)))))))))
  refine lwQ_i ?_ ?_
  · obtain ⟨v, σ1, σ2, b1, b2, b3⟩ := C_choose (xs (nI i + 1).toNatClampNeg) (xs (nI i + 2).toNatClampNeg) h
    exact lwQ_g g1 (lwQ_g g2 (lwQ_b b1 (lwQ_g g1 (lwQ_g g2 (lwQ_b b2 (lwQ_p rfl (nx _ b3)))))))
  refine lwQ_i ?_ ?_
  · obtain ⟨v, σ1, σ2, b1, b2, b3⟩ := C_whose (N := N) (xs (nI i + 1).toNatClampNeg) (xs (nI i + 2).toNatClampNeg) hN h
    exact lwQ_g g1 (lwQ_g g2 (lwQ_b b1 (lwQ_g g1 (lwQ_g g2 (lwQ_b b2 (lwQ_p rfl (nx _ b3)))))))
  refine lwQ_i ?_ ?_
  · obtain ⟨v, σ1, σ2, b1, b2, b3⟩ := C_pension (xs (nI i + 1).toNatClampNeg) (xs (nI i + 2).toNatClampNeg) (xs (nI i + 3).toNatClampNeg) h
    exact lwQ_g g1 (lwQ_g g2 (lwQ_g g3 (lwQ_b b1 (lwQ_g g1 (lwQ_g g2 (lwQ_g g3 (lwQ_b b2 (lwQ_p rfl (nx _ b3)))))))))
  refine lwQ_i ?_ ?_
  · obtain ⟨v, σ1, σ2, b1, b2, b3⟩ := C_feed (N := N) (xs (nI i + 1).toNatClampNeg) (xs (nI i + 2).toNatClampNeg) hN h
    exact lwQ_g g1 (lwQ_g g2 (lwQ_b b1 (lwQ_g g1 (lwQ_g g2 (lwQ_b b2 (lwQ_p rfl (nx _ b3)))))))
  refine lwQ_i ?_ ?_
  · obtain ⟨v, σ1, σ2, b1, b2, b3⟩ := C_propose (N := N) (xs (nI i + 1).toNatClampNeg) hN h
    exact lwQ_g g1 (lwQ_b b1 (lwQ_g g1 (lwQ_b b2 (lwQ_p rfl (nx _ b3)))))
  refine lwQ_i ?_ ?_
  · obtain ⟨v, σ1, σ2, b1, b2, b3⟩ := C_law (N := N) (xs (nI i + 1).toNatClampNeg) hN h
    exact lwQ_g g1 (lwQ_b b1 (lwQ_g g1 (lwQ_b b2 (lwQ_p rfl (nx _ b3)))))
  refine lwQ_i ?_ ?_
  · obtain ⟨v, σ1, σ2, b1, b2, b3⟩ := C_differ (N := N)  hN h
    exact lwQ_b b1 (lwQ_b b2 (lwQ_p rfl (nx _ b3)))
  refine lwQ_i ?_ ?_
  · obtain ⟨v, σ1, σ2, b1, b2, b3⟩ := C_thing (N := N) (xs (nI i + 1).toNatClampNeg) (xs (nI i + 2).toNatClampNeg) hN h
    exact lwQ_g g1 (lwQ_g g2 (lwQ_b b1 (lwQ_g g1 (lwQ_g g2 (lwQ_b b2 (lwQ_p rfl (nx _ b3)))))))
  refine lwQ_i ?_ ?_
  · obtain ⟨v, σ1, σ2, b1, b2, b3⟩ := C_as (N := N) (xs (nI i + 1).toNatClampNeg) (xs (nI i + 2).toNatClampNeg) hN h
    exact lwQ_g g1 (lwQ_g g2 (lwQ_b b1 (lwQ_g g1 (lwQ_g g2 (lwQ_b b2 (lwQ_p rfl (nx _ b3)))))))
  refine lwQ_i ?_ ?_
  · obtain ⟨v, σ1, σ2, b1, b2, b3⟩ := C_tie (N := N) (xs (nI i + 1).toNatClampNeg) (xs (nI i + 2).toNatClampNeg) hN h
    exact lwQ_g g1 (lwQ_g g2 (lwQ_b b1 (lwQ_g g1 (lwQ_g g2 (lwQ_b b2 (lwQ_p rfl (nx _ b3)))))))
  refine lwQ_i ?_ ?_
  · obtain ⟨v, σ1, σ2, b1, b2, b3⟩ := C_part (N := N) (xs (nI i + 1).toNatClampNeg) (xs (nI i + 2).toNatClampNeg) hN h
    exact lwQ_g g1 (lwQ_g g2 (lwQ_b b1 (lwQ_g g1 (lwQ_g g2 (lwQ_b b2 (lwQ_p rfl (nx _ b3)))))))
  refine lwQ_i ?_ ?_
  · obtain ⟨v, σ1, σ2, b1, b2, b3⟩ := C_goes (N := N) (xs (nI i + 1).toNatClampNeg) hN h
    exact lwQ_g g1 (lwQ_b b1 (lwQ_g g1 (lwQ_b b2 (lwQ_p rfl (nx _ b3)))))
  refine lwQ_i ?_ ?_
  · obtain ⟨v, σ1, σ2, b1, b2, b3⟩ := C_rest (N := N) (xs (nI i + 1).toNatClampNeg) hN h
    exact lwQ_g g1 (lwQ_b b1 (lwQ_g g1 (lwQ_b b2 (lwQ_p rfl (nx _ b3)))))
  refine lwQ_i ?_ ?_
  · obtain ⟨v, σ1, σ2, b1, b2, b3⟩ := C_hoard (xs (nI i + 1).toNatClampNeg) (xs (nI i + 2).toNatClampNeg) h
    exact lwQ_g g1 (lwQ_g g2 (lwQ_b b1 (lwQ_g g1 (lwQ_g g2 (lwQ_b b2 (lwQ_p rfl (nx _ b3)))))))
  refine lwQ_i ?_ ?_
  · obtain ⟨v, σ1, σ2, b1, b2, b3⟩ := C_week (xs (nI i + 1).toNatClampNeg) (xs (nI i + 2).toNatClampNeg) (xs (nI i + 3).toNatClampNeg) h
    exact lwQ_g g1 (lwQ_g g2 (lwQ_g g3 (lwQ_b b1 (lwQ_g g1 (lwQ_g g2 (lwQ_g g3 (lwQ_b b2 (lwQ_p rfl (nx _ b3)))))))))
  refine lwQ_i ?_ ?_
  · obtain ⟨v, σ1, σ2, b1, b2, b3⟩ := C_stamp (N := N) (xs (nI i + 1).toNatClampNeg) (xs (nI i + 2).toNatClampNeg) hN h
    exact lwQ_g g1 (lwQ_g g2 (lwQ_b b1 (lwQ_g g1 (lwQ_g g2 (lwQ_b b2 (lwQ_p rfl (nx _ b3)))))))
  refine lwQ_i ?_ ?_
  · obtain ⟨v, σ1, σ2, b1, b2, b3⟩ := C_wagon (xs (nI i + 1).toNatClampNeg) (xs (nI i + 2).toNatClampNeg) h
    exact lwQ_g g1 (lwQ_g g2 (lwQ_b b1 (lwQ_g g1 (lwQ_g g2 (lwQ_b b2 (lwQ_p rfl (nx _ b3)))))))
  refine lwQ_i ?_ ?_
  · obtain ⟨v, σ1, σ2, b1, b2, b3⟩ := C_send (N := N) (X := X) (xs := xs) (xs (nI i + 1).toNatClampNeg) (xs (nI i + 2).toNatClampNeg) hN h
    exact lwQ_g g1 (lwQ_g g2 (lwQ_b b1 (lwQ_g g1 (lwQ_g g2 (lwQ_b b2 (lwQ_p rfl (nx _ b3)))))))
  refine lwQ_i ?_ ?_
  · obtain ⟨v, σ1, σ2, b1, b2, b3⟩ := C_where (N := N) (X := X) (xs := xs) (xs (nI i + 1).toNatClampNeg) (xs (nI i + 2).toNatClampNeg) hN h
    exact lwQ_g g1 (lwQ_g g2 (lwQ_b b1 (lwQ_g g1 (lwQ_g g2 (lwQ_b b2 (lwQ_p rfl (nx _ b3)))))))
  refine lwQ_i ?_ ?_
  · obtain ⟨v, σ1, σ2, b1, b2, b3⟩ := C_home (N := N) (X := X) (xs := xs) (xs (nI i + 1).toNatClampNeg) hN h
    exact lwQ_g g1 (lwQ_b b1 (lwQ_g g1 (lwQ_b b2 (lwQ_p rfl (nx _ b3)))))
  refine lwQ_i ?_ ?_
  · obtain ⟨v, σ1, σ2, b1, b2, b3⟩ := C_day (xs (nI i + 1).toNatClampNeg) h
    exact lwQ_g g1 (lwQ_b b1 (lwQ_g g1 (lwQ_b b2 (lwQ_p rfl (nx _ b3)))))
  refine lwQ_i ?_ ?_
  · obtain ⟨v, σ1, σ2, b1, b2, b3⟩ := C_open (N := N) (xs (nI i + 1).toNatClampNeg) (xs (nI i + 2).toNatClampNeg) (xs (nI i + 3).toNatClampNeg) (xs (nI i + 4).toNatClampNeg) hN h
    exact lwQ_g g1 (lwQ_g g2 (lwQ_g g3 (lwQ_g g4 (lwQ_b b1 (lwQ_g g1 (lwQ_g g2 (lwQ_g g3 (lwQ_g g4 (lwQ_b b2 (lwQ_p rfl (nx _ b3)))))))))))
  refine lwQ_i ?_ ?_
  · obtain ⟨v, σ1, σ2, b1, b2, b3⟩ := C_copy (N := N) (xs (nI i + 1).toNatClampNeg) hN h
    exact lwQ_g g1 (lwQ_b b1 (lwQ_g g1 (lwQ_b b2 (lwQ_p rfl (nx _ b3)))))
  refine lwQ_i ?_ ?_
  · obtain ⟨v, σ1, σ2, b1, b2, b3⟩ := C_court (N := N) (xs (nI i + 1).toNatClampNeg) hN h
    exact lwQ_g g1 (lwQ_b b1 (lwQ_g g1 (lwQ_b b2 (lwQ_p rfl (nx _ b3)))))
  refine lwQ_i ?_ ?_
  · obtain ⟨v, σ1, σ2, b1, b2, b3⟩ := C_waits (N := N) (xs (nI i + 1).toNatClampNeg) hN h
    exact lwQ_g g1 (lwQ_b b1 (lwQ_g g1 (lwQ_b b2 (lwQ_p rfl (nx _ b3)))))
  refine lwQ_i ?_ ?_
  · obtain ⟨v, σ1, σ2, b1, b2, b3⟩ := C_task (xs (nI i + 1).toNatClampNeg) h
    exact lwQ_g g1 (lwQ_b b1 (lwQ_g g1 (lwQ_b b2 (lwQ_p rfl (nx _ b3)))))
  refine lwQ_i ?_ ?_
  · obtain ⟨v, σ1, σ2, b1, b2, b3⟩ := C_ahead (xs (nI i + 1).toNatClampNeg) (xs (nI i + 2).toNatClampNeg) h
    exact lwQ_g g1 (lwQ_g g2 (lwQ_b b1 (lwQ_g g1 (lwQ_g g2 (lwQ_b b2 (lwQ_p rfl (nx _ b3)))))))
  refine lwQ_i ?_ ?_
  · obtain ⟨v, σ1, σ2, b1, b2, b3⟩ := C_best (N := N) (xs (nI i + 1).toNatClampNeg) hN h
    exact lwQ_g g1 (lwQ_b b1 (lwQ_g g1 (lwQ_b b2 (lwQ_p rfl (nx _ b3)))))
  refine lwQ_i ?_ ?_
  · obtain ⟨v, σ1, σ2, b1, b2, b3⟩ := C_tell (xs (nI i + 1).toNatClampNeg) h
    exact lwQ_g g1 (lwQ_b b1 (lwQ_g g1 (lwQ_b b2 (lwQ_p rfl (nx _ b3)))))
  refine lwQ_i ?_ ?_
  · obtain ⟨v, σ1, σ2, b1, b2, b3⟩ := C_check (N := N)  hN h
    exact lwQ_b b1 (lwQ_b b2 (lwQ_p rfl (nx _ b3)))
  refine lwQ_i ?_ ?_
  · obtain ⟨v, σ1, σ2, b1, b2, b3⟩ := C_count (N := N) (xs (nI i + 1).toNatClampNeg) hN h
    exact lwQ_g g1 (lwQ_b b1 (lwQ_g g1 (lwQ_b b2 (lwQ_p rfl (nx _ b3)))))
  refine lwQ_i ?_ ?_
  · obtain ⟨v, σ1, σ2, b1, b2, b3⟩ := C_found (xs (nI i + 1).toNatClampNeg) h
    exact lwQ_g g1 (lwQ_b b1 (lwQ_g g1 (lwQ_b b2 (lwQ_p rfl (nx _ b3)))))
  exact nx σ h
theorem lw_all {N X : Nat} {xs : Nat → Int32} (hN : 20000 ≤ N) (hX : X ≤ 2560) : ∀ r i q σ, X ≤ i + r → i ≤ 3000 → r < q → R σ → lwQ (fx_law_1001_0_85_b18 N X xs q (nI i) σ) := by
  have stop : ∀ i q σ, ¬ i + 5 ≤ X → i ≤ 3000 → lwQ (fx_law_1001_0_85_b18 N X xs (q + 1) (nI i) σ) := by
    intro i q σ h1 h2
    have cond : Int32.ofNat X - 5 < nI i := by
      rw [fa_lt, show Int32.ofNat X = nI X from rfl, hb_L5, pk_sub_toInt (by omega) (by omega), nI_toInt (by omega)]
      omega
    rw [fx_law_1001_0_85_b18, if_pos cond]
    exact ⟨σ, rfl⟩
  intro r
  induction r with
  | zero =>
    intro i q σ a1 a2 a3 _
    obtain ⟨q, rfl⟩ : ∃ m, q = m + 1 := ⟨q - 1, by omega⟩
    exact stop i q σ (by omega) a2
  | succ r ih =>
    intro i q σ a1 a2 a3 h
    obtain ⟨q, rfl⟩ : ∃ m, q = m + 1 := ⟨q - 1, by omega⟩
    by_cases c : i + 5 ≤ X
    · exact lw_st hN hX c h (fun σ2 h2 => ih (i + 5) q σ2 (by omega) (by omega) (by omega) h2)
    · exact stop i q σ c a2
/-- (B): the law's function answers 1 -/
theorem lw_one {N X : Nat} {xs : Nat → Int32} {σ : am_S} (hN : 20000 ≤ N) (hX : X ≤ 2560) (h : R σ) : ∃ s', fx_law_1001_0_85 N X xs σ = some (1, s') := lw_all hN hX X 0 N σ (by omega) (by omega) (by omega) h

