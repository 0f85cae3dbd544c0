/-! ===== the law, from its entry ===== -/
theorem st_inst : ∀ (ci : Nat) (C : String) (T : u_T) (N : Nat), am_cl[ci]? = some (C, T, N) → Cond.instantiable C N ∈ am_tbl := by
  intro ci C T N h
  match ci, h with
  | 0, h => cases h; exact (am_mem_in (p := 372) (by decide +kernel))
  | 1, h => cases h; exact (am_mem_in (p := 241) (by decide +kernel))
  | 2, h => cases h; exact (am_mem_in (p := 158) (by decide +kernel))
  | 3, h => cases h; exact (am_mem_in (p := 60) (by decide +kernel))
  | 4, h => cases h; exact (am_mem_in (p := 282) (by decide +kernel))
  | 5, h => cases h; exact (am_mem_in (p := 118) (by decide +kernel))
  | 6, h => cases h; exact (am_mem_in (p := 396) (by decide +kernel))
  | 7, h => cases h; exact (am_mem_in (p := 164) (by decide +kernel))
  | 8, h => cases h; exact (am_mem_in (p := 346) (by decide +kernel))
  | 9, h => cases h; exact (am_mem_in (p := 323) (by decide +kernel))
  | 10, h => cases h; exact (am_mem_in (p := 52) (by decide +kernel))
  | 11, h => cases h; exact (am_mem_in (p := 1069) (by decide +kernel))
  | k + 12, h => simp [am_cl] at h
theorem st_D {s : State} {args : Array Value} (hts : ∀ w ∈ am_tbl, w.before args s = true) : ∃ D : va_G, ∀ (c : Nat) (q : vw_C), am_cl[c]? = some q → u_Kn s q.1 q.2.1 q.2.2 (D.1 c) (D.2 c) := by
  have key : ∀ c : Nat, ∃ (cC : ClassId) (iS : Nat → Nat), ∀ q : vw_C, am_cl[c]? = some q → u_Kn s q.1 q.2.1 q.2.2 cC iS := fun c => by
    cases h : am_cl[c]? with
    | none => exact ⟨(0 : Nat), fun _ => 0, fun q hq => by cases hq⟩
    | some q =>
      obtain ⟨C, T, N⟩ := q
      obtain ⟨cC, iS, hh⟩ := u_known (C := C) (T := T) (N := N) (n := N) hts (am_cl_ok c C T N h).1 (hts _ (st_inst c C T N h))
      exact ⟨cC, iS, fun q hq => by cases hq; exact hh⟩
  exact ⟨(fun c => (key c).choose, fun c => (key c).choose_spec.choose), fun c q hq => (key c).choose_spec.choose_spec q hq⟩
/-- what the tables say of int[][] -/
theorem st_over {args : Array Value} {s : State} (h : (Cond.arrayOver (.array .int)).before args s = true) : ∃ (b c : ClassId) (k : Class), s.vm.findClass "[I" = some b ∧ s.vm.classes[c]? = some k ∧ k.kind = .array b (.array .int) ∧ s.vm.findClass "[[I" = some c := by
  have h1 : (Cond.arrayOver (.array .int)).value args s none s [] = some true := by
    simpa [Cond.before, Cond.holds] using h
  simp only [Cond.value] at h1
  cases hc : s.vm.findClass (FieldType.array FieldType.int).toString with
  | none => rw [hc] at h1; simp at h1
  | some b =>
    rw [hc] at h1
    simp only [Option.bind_some, Option.bind_eq_some_iff, Option.map_eq_some_iff] at h1
    obtain ⟨c, hi, k, hk, hb⟩ := h1
    obtain ⟨hlt, hp, -⟩ := Array.findIdx?_eq_some_iff_getElem.mp hi
    rw [(Array.getElem?_eq_some_iff.mp hk).2] at hp
    cases hkind : k.kind with
    | array bb ty =>
      rw [hkind] at hb hp
      simp at hb hp
      exact ⟨b, c, k, hc, hk, by rw [hkind, hp, hb.1], hb.2⟩
    | _ => rw [hkind] at hb; simp at hb
theorem st_nw : ∀ w ∈ ct_nw, w ∈ lw_tbl := by
  intro w hw
  simp only [ct_nw, List.mem_cons, List.not_mem_nil, or_false] at hw
  rcases hw with rfl | rfl | rfl | rfl | rfl | rfl | rfl | rfl | rfl
  · exact List.mem_of_getElem? (i := 61) (by decide +kernel)
  · exact List.mem_of_getElem? (i := 119) (by decide +kernel)
  · exact List.mem_of_getElem? (i := 159) (by decide +kernel)
  · exact List.mem_of_getElem? (i := 242) (by decide +kernel)
  · exact List.mem_of_getElem? (i := 283) (by decide +kernel)
  · exact List.mem_of_getElem? (i := 324) (by decide +kernel)
  · exact List.mem_of_getElem? (i := 347) (by decide +kernel)
  · exact List.mem_of_getElem? (i := 373) (by decide +kernel)
  · exact List.mem_of_getElem? (i := 397) (by decide +kernel)
theorem st_K {s : State} {b : Nat} (hts0 : ∀ w ∈ lw_tbl, w.before #[Value.ref b] s = true) : ∃ (D : va_G) (aC : Nat → ClassId), va_K D am_cl (am_tys aC) s ∧ ct_N aC s := by
  have hts : ∀ w ∈ am_tbl, w.before #[Value.ref b] s = true := fun w hw => hts0 w (List.mem_filter.mp hw).1
  obtain ⟨D, hD⟩ := st_D hts
  obtain ⟨c0, k0, cc0, f0, g0, e0⟩ := Cond.arrayClass_spec (hts _ ct_ai)
  obtain ⟨c1, k1, cc1, f1, g1, e1⟩ := Cond.arrayClass_spec (hts _ ct_az)
  obtain ⟨b2, c2, k2, f2, g2, e2, n2⟩ := st_over (hts0 (Cond.arrayOver (.array .int)) (List.mem_of_getElem? (i := 352) (by decide +kernel)))
  obtain rfl : b2 = c0 := Option.some.inj (f2.symm.trans f0)
  refine ⟨D, fun i => bif Nat.beq i 0 then b2 else bif Nat.beq i 1 then c1 else c2, ⟨hD, fun k q hq => ?_⟩, fun w hw => ?_, ⟨k2, g2, e2⟩⟩
  · match k, hq with
    | 0, hq => cases hq; exact ⟨fun n z => ⟨fun x h => (by cases h), k0, g0, cc0, e0⟩, f0⟩
    | 1, hq => cases hq; exact ⟨fun n z => ⟨fun x h => (by cases h), k1, g1, cc1, e1⟩, f1⟩
    | 2, hq => cases hq; exact ⟨fun n z => ⟨fun x h => (by cases h), k2, g2, b2, e2⟩, n2⟩
    | k + 3, hq => simp [am_tys] at hq
  · have hm := hts0 w (st_nw w hw)
    obtain ⟨a, i, x, hh, rfl⟩ := ct_nw_form w hw
    exact va_Nw.of rfl hm
theorem st_EX {s : State} {b L : Nat} {xs : Nat → Int32} (hts0 : ∀ w ∈ lw_tbl, w.before #[Value.ref b] s = true) (hgv : (Jvm.Cond.and given_1 narrow_1).before #[Value.ref b] s = true) (hX : va_X b L xs s s.heap) (hbl : b < s.heap.size) :
    ∃ t : Nat, ∀ (adr : Nat → Nat) (A : Nat → Prop), adr 1000 = t → adr 1001 = b → (∀ q, A q → s.heap.size ≤ q) → am_EX (am_exx L xs) adr A s s.heap := by
  have hs := flat_of_before _ hgv
  have harr : (Cond.arrayOf (Term.static "PartedLand$Estate" "ABOVE" "[I") .int).before #[Value.ref b] s = true := hs _ (by decide +kernel)
  have hlen : (Cond.eq (Term.length (Term.static "PartedLand$Estate" "ABOVE" "[I")) (.int 7)).before #[Value.ref b] s = true := hs _ (by decide +kernel)
  have h0 : (Cond.eq (Term.elem (Term.static "PartedLand$Estate" "ABOVE" "[I") (.int 0)) (.int (-1))).before #[Value.ref b] s = true := hs _ (by decide +kernel)
  have h1 : (Cond.eq (Term.elem (Term.static "PartedLand$Estate" "ABOVE" "[I") (.int 1)) (.int 0)).before #[Value.ref b] s = true := hs _ (by decide +kernel)
  have h2 : (Cond.eq (Term.elem (Term.static "PartedLand$Estate" "ABOVE" "[I") (.int 2)) (.int 1)).before #[Value.ref b] s = true := hs _ (by decide +kernel)
  have h3 : (Cond.eq (Term.elem (Term.static "PartedLand$Estate" "ABOVE" "[I") (.int 3)) (.int 0)).before #[Value.ref b] s = true := hs _ (by decide +kernel)
  have h4 : (Cond.eq (Term.elem (Term.static "PartedLand$Estate" "ABOVE" "[I") (.int 4)) (.int 3)).before #[Value.ref b] s = true := hs _ (by decide +kernel)
  have h5 : (Cond.eq (Term.elem (Term.static "PartedLand$Estate" "ABOVE" "[I") (.int 5)) (.int 3)).before #[Value.ref b] s = true := hs _ (by decide +kernel)
  have h6 : (Cond.eq (Term.elem (Term.static "PartedLand$Estate" "ABOVE" "[I") (.int 6)) (.int 3)).before #[Value.ref b] s = true := hs _ (by decide +kernel)
  have hel : ∀ j : Nat, j < 7 → (Term.elem (Term.static "PartedLand$Estate" "ABOVE" "[I") (.int (Int32.ofNat j))).eval #[Value.ref b] s none [] s = some (.int (am_abv j)) := by
    intro j hj
    match j, hj with
    | 0, _ => exact va_eqt h0
    | 1, _ => exact va_eqt h1
    | 2, _ => exact va_eqt h2
    | 3, _ => exact va_eqt h3
    | 4, _ => exact va_eqt h4
    | 5, _ => exact va_eqt h5
    | 6, _ => exact va_eqt h6
    | k + 7, h => omega
  obtain ⟨t, ht, hT⟩ := va_Tof (N := 7) (f := fun j => .int (am_abv j)) (A := fun q : Nat => s.heap.size ≤ q) (by decide) harr (va_eqt hlen) hel (fun a h => Nat.not_le.mpr h)
  have hZ := va_Zref (A := fun q : Nat => s.heap.size ≤ q) (hts0 _ (List.mem_of_getElem? (i := 755) (by decide +kernel))) (hts0 _ (List.mem_of_getElem? (i := 40) (by decide +kernel))) ht (fun a h => Nat.not_le.mpr h)
  refine ⟨t, fun adr A e0 e1 hA => ⟨fun k q hq => ?_, by rw [e0]; exact hZ.narrow hA⟩⟩
  unfold am_exx at hq
  cases c0 : Nat.beq k 1000 with
  | true =>
    rw [c0] at hq
    obtain rfl := Option.some.inj hq
    rw [Nat.eq_of_beq_eq_true c0, e0]
    obtain ⟨cell, x1, x2, x3, x4, x5, x6, x7⟩ := hT
    exact ⟨cell, x1, x2, x3, x4, x5, x6, fun z => x7 (hA _ z)⟩
  | false =>
    rw [c0] at hq
    cases c1 : Nat.beq k 1001 with
    | true =>
      rw [c1] at hq
      obtain rfl := Option.some.inj hq
      rw [Nat.eq_of_beq_eq_true c1, e1]
      obtain ⟨cell, x1, x2, x3, x4, x5⟩ := hX
      refine ⟨cell, x1, x2, x3, by rw [x4]; exact Nat.le_refl _, by rw [x4], x5, fun z => ?_⟩
      exact absurd (hA _ z) (Nat.not_le.mpr hbl)
    | false =>
      rw [c1] at hq
      cases hq
