/-! ===== the store behind both constructors ===== -/
def s0_t : Nat → Int32 := fun k => bif Nat.beq k 3 then 2 else bif Nat.beq k 4 then 400 else bif Nat.beq k 5 then 50 else bif Nat.beq k 7 then 9 else bif Nat.beq k 8 then 12 else 0
def s0_g : Nat → Int32 := upd (upd (fun _ => 0) 0 (104 : Int32)) 1 (98 : Int32)
def s0 : am_S := fun c => bif Nat.beq c 22 || Nat.beq c 25 || Nat.beq c 28 || Nat.beq c 31 then s0_t else bif Nat.beq c 24 || Nat.beq c 27 || Nat.beq c 30 || Nat.beq c 33 then s0_g else bif Nat.beq c 47 then (fun k => bif Nat.beq k 0 || Nat.beq k 1 then 100 else bif Nat.beq k 2 then 9999 else bif Nat.beq k 3 then 7 else 0) else bif Nat.beq c 85 then (fun k => bif Nat.beq k 35 then 9999 else bif Nat.beq k 36 then 7 else 0) else bif Nat.beq c 104 then upd (upd (upd (fun _ => 0) 0 (-1 : Int32)) 1 (-1 : Int32)) 2 (0 : Int32) else bif Nat.beq c 111 then upd (upd (fun _ => 0) 0 (100 : Int32)) 1 (100 : Int32) else fun _ => 0
theorem s0_rise : sp_rise 0 (s0 11) := by
  unfold sp_rise
  intros
  omega
theorem s0_gr : ∀ i (h : i < (rs_all (s0 32) 0).2.2.1.length), s0 33 i = (rs_all (s0 32) 0).2.2.1[i] := by
  intro i hi
  have hi' : i < 2 := hi
  have : i = 0 ∨ i = 1 := by omega
  rcases this with z | z
  · subst z; rfl
  · subst z; rfl
theorem s0_R : R s0 := ⟨⟨0, 0, 0, 0, 0, 0, 0, 0, 0, 0, 0, 0, rfl, rfl, rfl, rfl, rfl, rfl, rfl, rfl, rfl, rfl, rfl, rfl, rfl, rfl, rfl, rfl, rfl, rfl, rfl, rfl, rfl, rfl, rfl, rfl, rfl, rfl, rfl, rfl, rfl, rfl, rfl, rfl, rfl, rfl, rfl, rfl, rfl, rfl, rfl, rfl, rfl, rfl, rfl, rfl, rfl, rfl, rfl, rfl, rfl, rfl, rfl, rfl, rfl, rfl, rfl, rfl, rfl, rfl, rfl, rfl, (fun _ => ⟨rfl, rfl⟩), ⟨by decide, by decide, by decide, fun _ => ⟨0, by decide, rfl⟩, fun _ => ⟨0, rfl, Or.inr rfl⟩, (fun k hk => absurd hk (Nat.not_lt_zero k)), (fun i hi => absurd hi (Nat.not_lt_zero i)), s0_rise⟩, ⟨by decide, (fun i hi => absurd hi (Nat.not_lt_zero i)), fun _ => ⟨0, by decide, rfl⟩, fun _ => ⟨0, by decide, rfl⟩, fun _ => ⟨0, by decide, rfl⟩⟩, ⟨⟨by decide, by decide, (fun i hi => absurd hi (Nat.not_lt_zero i)), (fun i hi => absurd hi (Nat.not_lt_zero i)), (fun k hk => absurd hk (Nat.not_lt_zero k))⟩, (fun i hi => absurd hi (Nat.not_lt_zero i)), fun _ => Or.inl rfl, fun _ _ => rfl⟩, ⟨⟨100, by decide, by decide, rfl⟩, ⟨100, by decide, by decide, rfl⟩, ⟨9999, by decide, rfl⟩, ⟨7, by decide, rfl⟩⟩, ⟨by decide, (fun w hw => absurd hw (Nat.not_lt_zero w)), fun _ _ _ => rfl⟩, ⟨by decide, (fun i hi => absurd hi (Nat.not_lt_zero i))⟩, ⟨by decide, (fun t ht => absurd ht (Nat.not_lt_zero t)), fun _ => ⟨0, by decide, rfl⟩, fun _ _ => rfl⟩, ⟨by decide, by decide, by decide⟩, (Or.inl ⟨rfl, rfl⟩), (Or.inl ⟨rfl, rfl⟩), ⟨0, by decide, rfl, rfl, fun k hk => absurd hk (Nat.not_lt_zero k), rfl, ⟨by decide, rfl, s0_gr, rfl, rfl, rfl, rfl, rfl⟩⟩, (Or.inl rfl)⟩, rfl⟩
theorem lw_s0 {N X : Nat} {xs : Nat → Int32} (hN : 20000 ≤ N) (hX : X ≤ 2560) : ∃ s', fx_law_1001_0_85 N X xs s0 = some (1, s') := lw_one hN hX s0_R

