/-! ===== the tables are as the class files say, by evaluation ===== -/
def am_mem (p : Nat) (w : Cond) : Bool := decide (lw_tbl[p]? = some w) && goodWord w
theorem am_mem_in {p : Nat} {w : Cond} (h : am_mem p w = true) : w ∈ am_tbl := by
  simp only [am_mem, Bool.and_eq_true, decide_eq_true_eq] at h
  exact List.mem_filter.mpr ⟨List.mem_of_getElem? h.1, h.2⟩
theorem am_rng {n : Nat} {f : Nat → Bool} (h : (List.range n).all f = true) : ∀ k, k < n → f k = true := fun k hk => List.all_eq_true.mp h k (List.mem_range.mpr hk)
def am_ckf (own : String) (pf : Nat → Nat) (k : Nat) (r : Option (Nat × Nat × Nat)) : Bool := match r with
  | none => true
  | some q => match am_cl[q.1]? with
    | some t => decide (q.2.1 < t.2.2) && am_mem (pf k) (Cond.fieldLink own k (t.2.1 q.2.1).1 (t.2.1 q.2.1).2.1 (t.2.1 q.2.1).2.2.1) && (decide (q.2.2 = 2) || (decide (q.2.2 = 0) && decide ((t.2.1 q.2.1).2.2.2 = false) && decide (am_ty q.1 q.2.1 = .int)) || (decide (q.2.2 = 1) && decide ((t.2.1 q.2.1).2.2.2 = false) && decide (am_ty q.1 q.2.1 = .boolean)))
    | none => false
theorem am_ckf_ok {own : String} {pf : Nat → Nat} {k : Nat} {q : Nat × Nat × Nat} (h : am_ckf own pf k (some q) = true) : am_okf own k q := by
  unfold am_ckf at h
  dsimp only at h
  split at h
  · rename_i t ht
    simp only [Bool.and_eq_true, Bool.or_eq_true, decide_eq_true_eq] at h
    obtain ⟨⟨h1, h2⟩, h3⟩ := h
    refine ⟨t.1, t.2.1, t.2.2, ht, h1, am_mem_in h2, fun hz => ?_, fun hz => ?_⟩
    · rcases h3 with (h3 | h3) | h3
      · omega
      · exact ⟨h3.1.2, h3.2⟩
      · omega
    · rcases h3 with (h3 | h3) | h3
      · omega
      · omega
      · exact ⟨h3.1.2, h3.2⟩
  · cases h
def am_ckm (own : String) (pm : Nat → Nat) (k : Nat) (r : Option Nat) : Bool := match r with
  | none => true
  | some mi => match am_P mi with
    | some M => am_mem (pm k) (Cond.methodLink own k (am_y M))
    | none => false
theorem am_ckm_ok {own : String} {pm : Nat → Nat} {k mi : Nat} (h : am_ckm own pm k (some mi) = true) : am_okm am_P own k mi := by
  unfold am_ckm at h
  dsimp only at h
  split at h
  · rename_i M hM
    exact ⟨M, hM, am_mem_in h⟩
  · cases h
def am_ckn (own : String) (pc : Nat → Nat) (k : Nat) (r : Option Int32) : Bool := match r with
  | none => true
  | some v => am_mem (pc k) (Cond.constant own k v)
def am_ckx (own : String) (px : Nat → Nat) (k : Nat) (r : Nat) : Bool := decide (r = 0) || (decide (r = 1) && am_mem (px k) (Cond.fieldLink own k "PartedLand$Estate" "ABOVE" "[I")) || (decide (r = 2) && am_mem (px k) (Cond.methodLink own k arraycopyName)) || (decide (r = 3) && am_mem (px k) (Cond.methodLink own k Lib.Math.min.name)) || (decide (r = 4) && am_mem (px k) (Cond.methodLink own k Lib.Math.abs.name))
def am_cki (M : am_M) (pc : Nat) : Bool := match am_co M pc with
  | none => true
  | some q => decide (decode (am_by M) pc = .ok q) && (decide (am_il q.1 = 0) || decide (q.2 = am_il q.1))
def am_ckc (M : am_M) (p0 p1 p2 p3 : Nat) : Bool := plainName (am_y M).cls && am_mem p0 (Cond.code (am_y M) (am_by M) (am_ml M) (am_rt M)) && decide (am_ml M ≤ 21) && decide ((am_y M).cls ≠ "java/lang/invoke/MethodHandle") && decide ((am_y M).cls ≠ "java/lang/invoke/VarHandle") && decide ((parseMethodDescriptor (am_y M).desc).map (fun d => d.parameters.length) = some (am_np M)) && am_mem p1 (Cond.initialized (am_y M).cls) && (match am_ci M with
  | some ci => (match am_cl[ci]? with
    | some t => decide (t.1 = (am_y M).cls) && am_mem p2 (Cond.instanceMethod (am_y M)) && am_mem p3 (Cond.selects (am_y M).cls (am_y M) (am_y M))
    | none => false)
  | none => am_mem p2 (Cond.static (am_y M)))
theorem am_ckc_ok {M : am_M} {p0 p1 p2 p3 : Nat} (h : am_ckc M p0 p1 p2 p3 = true) : am_okc M := by
  unfold am_ckc at h
  simp only [Bool.and_eq_true, decide_eq_true_eq] at h
  obtain ⟨⟨⟨⟨⟨⟨⟨h1, h2⟩, h3⟩, h4⟩, h5⟩, h6⟩, h7⟩, h8⟩ := h
  refine ⟨h1, am_mem_in h2, h3, ⟨h4, h5, h6⟩, am_mem_in h7, ?_⟩
  split at h8
  · rename_i ci hci
    split at h8
    · rename_i t ht
      simp only [Bool.and_eq_true, decide_eq_true_eq] at h8
      refine Or.inl ⟨ci, t.2.1, t.2.2, hci, ?_, am_mem_in h8.1.2, am_mem_in h8.2⟩
      rw [ht, ← h8.1.1]
    · cases h8
  · rename_i hci
    exact Or.inr ⟨hci, am_mem_in h8⟩
theorem am_ok_of {M : am_M} {nc nf nm nk nx : Nat} {pf pm pc px : Nat → Nat} (hc : (List.range nc).all (am_cki M) = true) (hc0 : ∀ k, nc ≤ k → am_co M k = none)
    (hf : (List.range nf).all (fun k => am_ckf (am_y M).cls pf k (am_lf M k)) = true) (hf0 : ∀ k, nf ≤ k → am_lf M k = none)
    (hm : (List.range nm).all (fun k => am_ckm (am_y M).cls pm k (am_lm M k)) = true) (hm0 : ∀ k, nm ≤ k → am_lm M k = none)
    (hk : (List.range nk).all (fun k => am_ckn (am_y M).cls pc k (am_lc M k)) = true) (hk0 : ∀ k, nk ≤ k → am_lc M k = none)
    (hx : (List.range nx).all (fun k => am_ckx (am_y M).cls px k (am_lx M k)) = true) (hx0 : ∀ k, nx ≤ k → am_lx M k = 0) : am_ok am_P M := by
  refine ⟨fun k q h => ?_, fun k q h => ?_, fun k q h => ?_, fun k q h => ?_, fun k => ?_⟩
  · by_cases hl : k < nc
    · have h1 := am_rng hc k hl
      unfold am_cki at h1
      rw [h] at h1
      simp only [Bool.and_eq_true, Bool.or_eq_true, decide_eq_true_eq] at h1
      exact h1
    · rw [hc0 k (by omega)] at h; cases h
  · by_cases hl : k < nf
    · have h1 := am_rng hf k hl
      rw [h] at h1
      exact am_ckf_ok h1
    · rw [hf0 k (by omega)] at h; cases h
  · by_cases hl : k < nm
    · have h1 := am_rng hm k hl
      rw [h] at h1
      exact am_ckm_ok h1
    · rw [hm0 k (by omega)] at h; cases h
  · by_cases hl : k < nk
    · have h1 := am_rng hk k hl
      rw [h] at h1
      exact am_mem_in h1
    · rw [hk0 k (by omega)] at h; cases h
  · by_cases hl : k < nx
    · have h1 := am_rng hx k hl
      unfold am_ckx at h1
      simp only [Bool.and_eq_true, Bool.or_eq_true, decide_eq_true_eq] at h1
      refine ⟨fun e => ?_, fun e => ?_, fun e => ?_, fun e => ?_⟩ <;> rcases h1 with (((h1 | h1) | h1) | h1) | h1 <;> first | exact am_mem_in h1.2 | omega
    · rw [hx0 k (by omega)]
      exact ⟨fun e => by omega, fun e => by omega, fun e => by omega, fun e => by omega⟩
theorem am_hi {α : Type} {n k : Nat} (a b : α) (h : n ≤ k) : (bif Nat.ble n k then a else b) = a := by
  rw [Nat.ble_eq_true_of_le h]
  rfl
theorem klf_0 : (List.range 29).all (fun k => am_ckf "PartedLand$Cases" pf_0 k (lf_0 k)) = true := by decide +kernel
theorem klm_0 : (List.range 38).all (fun k => am_ckm "PartedLand$Cases" pm_0 k (lm_0 k)) = true := by decide +kernel
theorem klc_0 : (List.range 1).all (fun k => am_ckn "PartedLand$Cases" pc_0 k (lc_0 k)) = true := by decide +kernel
theorem klx_0 : (List.range 1).all (fun k => am_ckx "PartedLand$Cases" px_0 k (lx_0 k)) = true := by decide +kernel
theorem klf_1 : (List.range 34).all (fun k => am_ckf "PartedLand$Estate" pf_1 k (lf_1 k)) = true := by decide +kernel
theorem klm_1 : (List.range 44).all (fun k => am_ckm "PartedLand$Estate" pm_1 k (lm_1 k)) = true := by decide +kernel
theorem klc_1 : (List.range 1).all (fun k => am_ckn "PartedLand$Estate" pc_1 k (lc_1 k)) = true := by decide +kernel
theorem klx_1 : (List.range 37).all (fun k => am_ckx "PartedLand$Estate" px_1 k (lx_1 k)) = true := by decide +kernel
theorem klf_2 : (List.range 49).all (fun k => am_ckf "PartedLand$Houses" pf_2 k (lf_2 k)) = true := by decide +kernel
theorem klm_2 : (List.range 52).all (fun k => am_ckm "PartedLand$Houses" pm_2 k (lm_2 k)) = true := by decide +kernel
theorem klc_2 : (List.range 1).all (fun k => am_ckn "PartedLand$Houses" pc_2 k (lc_2 k)) = true := by decide +kernel
theorem klx_2 : (List.range 1).all (fun k => am_ckx "PartedLand$Houses" px_2 k (lx_2 k)) = true := by decide +kernel
theorem klf_3 : (List.range 52).all (fun k => am_ckf "PartedLand$Land" pf_3 k (lf_3 k)) = true := by decide +kernel
theorem klm_3 : (List.range 97).all (fun k => am_ckm "PartedLand$Land" pm_3 k (lm_3 k)) = true := by decide +kernel
theorem klc_3 : (List.range 77).all (fun k => am_ckn "PartedLand$Land" pc_3 k (lc_3 k)) = true := by decide +kernel
theorem klx_3 : (List.range 92).all (fun k => am_ckx "PartedLand$Land" px_3 k (lx_3 k)) = true := by decide +kernel
theorem klf_4 : (List.range 78).all (fun k => am_ckf "PartedLand$Parting" pf_4 k (lf_4 k)) = true := by decide +kernel
theorem klm_4 : (List.range 108).all (fun k => am_ckm "PartedLand$Parting" pm_4 k (lm_4 k)) = true := by decide +kernel
theorem klc_4 : (List.range 1).all (fun k => am_ckn "PartedLand$Parting" pc_4 k (lc_4 k)) = true := by decide +kernel
theorem klx_4 : (List.range 113).all (fun k => am_ckx "PartedLand$Parting" px_4 k (lx_4 k)) = true := by decide +kernel
theorem klf_5 : (List.range 44).all (fun k => am_ckf "PartedLand$People" pf_5 k (lf_5 k)) = true := by decide +kernel
theorem klm_5 : (List.range 60).all (fun k => am_ckm "PartedLand$People" pm_5 k (lm_5 k)) = true := by decide +kernel
theorem klc_5 : (List.range 1).all (fun k => am_ckn "PartedLand$People" pc_5 k (lc_5 k)) = true := by decide +kernel
theorem klx_5 : (List.range 1).all (fun k => am_ckx "PartedLand$People" px_5 k (lx_5 k)) = true := by decide +kernel
theorem klf_6 : (List.range 30).all (fun k => am_ckf "PartedLand$Tasks" pf_6 k (lf_6 k)) = true := by decide +kernel
theorem klm_6 : (List.range 60).all (fun k => am_ckm "PartedLand$Tasks" pm_6 k (lm_6 k)) = true := by decide +kernel
theorem klc_6 : (List.range 1).all (fun k => am_ckn "PartedLand$Tasks" pc_6 k (lc_6 k)) = true := by decide +kernel
theorem klx_6 : (List.range 54).all (fun k => am_ckx "PartedLand$Tasks" px_6 k (lx_6 k)) = true := by decide +kernel
theorem klf_7 : (List.range 40).all (fun k => am_ckf "PartedLand$Text" pf_7 k (lf_7 k)) = true := by decide +kernel
theorem klm_7 : (List.range 104).all (fun k => am_ckm "PartedLand$Text" pm_7 k (lm_7 k)) = true := by decide +kernel
theorem klc_7 : (List.range 1).all (fun k => am_ckn "PartedLand$Text" pc_7 k (lc_7 k)) = true := by decide +kernel
theorem klx_7 : (List.range 53).all (fun k => am_ckx "PartedLand$Text" px_7 k (lx_7 k)) = true := by decide +kernel
theorem klf_8 : (List.range 43).all (fun k => am_ckf "PartedLand$Wagons" pf_8 k (lf_8 k)) = true := by decide +kernel
theorem klm_8 : (List.range 47).all (fun k => am_ckm "PartedLand$Wagons" pm_8 k (lm_8 k)) = true := by decide +kernel
theorem klc_8 : (List.range 46).all (fun k => am_ckn "PartedLand$Wagons" pc_8 k (lc_8 k)) = true := by decide +kernel
theorem klx_8 : (List.range 1).all (fun k => am_ckx "PartedLand$Wagons" px_8 k (lx_8 k)) = true := by decide +kernel
theorem klf_9 : (List.range 42).all (fun k => am_ckf "PartedLand$Week" pf_9 k (lf_9 k)) = true := by decide +kernel
theorem klm_9 : (List.range 45).all (fun k => am_ckm "PartedLand$Week" pm_9 k (lm_9 k)) = true := by decide +kernel
theorem klc_9 : (List.range 1).all (fun k => am_ckn "PartedLand$Week" pc_9 k (lc_9 k)) = true := by decide +kernel
theorem klx_9 : (List.range 49).all (fun k => am_ckx "PartedLand$Week" px_9 k (lx_9 k)) = true := by decide +kernel
theorem klf_10 : (List.range 416).all (fun k => am_ckf "PartedLand" pf_10 k (lf_10 k)) = true := by decide +kernel
theorem klm_10 : (List.range 419).all (fun k => am_ckm "PartedLand" pm_10 k (lm_10 k)) = true := by decide +kernel
theorem klc_10 : (List.range 412).all (fun k => am_ckn "PartedLand" pc_10 k (lc_10 k)) = true := by decide +kernel
theorem klx_10 : (List.range 1).all (fun k => am_ckx "PartedLand" px_10 k (lx_10 k)) = true := by decide +kernel
theorem klf_11 : (List.range 323).all (fun k => am_ckf "PartedLandModel" pf_11 k (lf_11 k)) = true := by decide +kernel
theorem klm_11 : (List.range 326).all (fun k => am_ckm "PartedLandModel" pm_11 k (lm_11 k)) = true := by decide +kernel
theorem klc_11 : (List.range 270).all (fun k => am_ckn "PartedLandModel" pc_11 k (lc_11 k)) = true := by decide +kernel
theorem klx_11 : (List.range 1).all (fun k => am_ckx "PartedLandModel" px_11 k (lx_11 k)) = true := by decide +kernel
theorem klf_12 : (List.range 1).all (fun k => am_ckf "PartedLandLaw" pf_12 k (lf_12 k)) = true := by decide +kernel
theorem klm_12 : (List.range 190).all (fun k => am_ckm "PartedLandLaw" pm_12 k (lm_12 k)) = true := by decide +kernel
theorem klc_12 : (List.range 1).all (fun k => am_ckn "PartedLandLaw" pc_12 k (lc_12 k)) = true := by decide +kernel
theorem klx_12 : (List.range 1).all (fun k => am_ckx "PartedLandLaw" px_12 k (lx_12 k)) = true := by decide +kernel
theorem klf_13 : (List.range 1).all (fun k => am_ckf "java/lang/Integer" pf_13 k (lf_13 k)) = true := by decide +kernel
theorem klm_13 : (List.range 1).all (fun k => am_ckm "java/lang/Integer" pm_13 k (lm_13 k)) = true := by decide +kernel
theorem klc_13 : (List.range 268).all (fun k => am_ckn "java/lang/Integer" pc_13 k (lc_13 k)) = true := by decide +kernel
theorem klx_13 : (List.range 1).all (fun k => am_ckx "java/lang/Integer" px_13 k (lx_13 k)) = true := by decide +kernel
theorem klf_14 : (List.range 1).all (fun k => am_ckf "java/util/Arrays" pf_14 k (lf_14 k)) = true := by decide +kernel
theorem klm_14 : (List.range 1).all (fun k => am_ckm "java/util/Arrays" pm_14 k (lm_14 k)) = true := by decide +kernel
theorem klc_14 : (List.range 1).all (fun k => am_ckn "java/util/Arrays" pc_14 k (lc_14 k)) = true := by decide +kernel
theorem klx_14 : (List.range 1).all (fun k => am_ckx "java/util/Arrays" px_14 k (lx_14 k)) = true := by decide +kernel
