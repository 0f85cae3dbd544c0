section MNB
variable {E : CtlPost} {e : Env} {d : Bool} {acts : List Action} {s : State}
/-- a row of twelve zeros; the row of rows, of which the first i are laid -/
def mw_in (b : ClassId) : Cell := { cls := b, slots := Array.replicate 12 (.int 0), vm := .none }
def mw_out (a : ClassId) (h i : Nat) : Cell := { cls := a, slots := Array.ofFn (n := 10) (fun j => if j.val < i then .ref (h + 1 + j.val) else .null), vm := .none }
def mw_st (s : State) (a b : ClassId) : Nat → State
  | 0 => s.pushCell (mw_out a s.heap.size 0)
  | i + 1 => ((mw_st s a b i).pushCell (mw_in b)).setCell s.heap.size (mw_out a s.heap.size (i + 1))
theorem mw_set (i : Nat) (f g : Fin 10 → Value) (v : Value) (h1 : ∀ j : Fin 10, j.val ≠ i → f j = g j) (h2 : ∀ j : Fin 10, j.val = i → g j = v) : (Array.ofFn f).setIfInBounds i v = Array.ofFn g := by
  apply Array.ext
  · simp
  · intro j h3 h4
    have h5 : j < 10 := by simpa using h4
    by_cases q : i = j
    · subst q
      rw [Array.getElem_setIfInBounds_self, Array.getElem_ofFn]
      exact (h2 ⟨i, h5⟩ rfl).symm
    · rw [Array.getElem_setIfInBounds_ne (by simpa using h5) q, Array.getElem_ofFn, Array.getElem_ofFn]
      exact h1 ⟨j, h5⟩ (fun h => q h.symm)
theorem mw_out_set (a : ClassId) (h i : Nat) : (mw_out a h i).setSlot i (.ref (h + 1 + i)) = mw_out a h (i + 1) := by
  unfold mw_out Cell.setSlot
  congr 1
  refine mw_set i _ _ _ (fun j hj => ?_) (fun j hj => ?_)
  · by_cases r : j.val < i
    · rw [if_pos r, if_pos (by omega)]
    · rw [if_neg r, if_neg (by omega)]
  · rw [if_pos (by omega), hj]
theorem mw_out_0 (a : ClassId) (h : Nat) : mw_out a h 0 = { cls := a, slots := Array.replicate 10 .null, vm := .none } := by
  unfold mw_out
  congr 1
theorem mw_facts (s : State) (a b : ClassId) : ∀ i, (mw_st s a b i).heap.size = s.heap.size + 1 + i ∧ (mw_st s a b i).heap[s.heap.size]? = some (mw_out a s.heap.size i) ∧ (mw_st s a b i).vm = s.vm ∧ (mw_st s a b i).slotsUsed = s.slotsUsed + 10 + i * 12
  | 0 => ⟨by simp [mw_st], by simp [mw_st], rfl, by simp [mw_st, mw_out]⟩
  | i + 1 => by
    obtain ⟨z, o, v, u⟩ := mw_facts s a b i
    have lt : s.heap.size < (mw_st s a b i).heap.size := by omega
    have o' : ((mw_st s a b i).pushCell (mw_in b)).heap[s.heap.size]? = some (mw_out a s.heap.size i) := by rw [State.heap_pushCell_of_lt (h := lt)]; exact o
    refine ⟨?_, State.heap_setCell_self o', by simp [mw_st, v], ?_⟩
    · simp [mw_st, State.setCell, z]; omega
    · simp [mw_st, u, mw_in]; omega
theorem mw_top (s : State) (f : JFrame) (a b : ClassId) : ∀ i, mw_st (s.setTop f) a b i = (mw_st s a b i).setTop f
  | 0 => rfl
  | i + 1 => by
    show ((mw_st (s.setTop f) a b i).pushCell (mw_in b)).setCell (s.setTop f).heap.size _ = _
    rw [mw_top s f a b i, State.pushCell_setTop, State.setCell_setTop]
    rfl
/-- the heap behind it: what was there stands, the rows are new -/
theorem mw_heap (s : State) (a b : ClassId) : ∀ i q, q ≠ s.heap.size → q < s.heap.size + 1 + i → (mw_st s a b i).heap[q]? = if q < s.heap.size then s.heap[q]? else some (mw_in b)
  | 0, q, h1, h2 => by
    rw [if_pos (show q < s.heap.size by omega)]
    exact State.heap_pushCell_of_lt _ _ (show q < s.heap.size by omega)
  | i + 1, q, h1, h2 => by
    have z := (mw_facts s a b i).1
    show (((mw_st s a b i).pushCell (mw_in b)).setCell s.heap.size _).heap[q]? = _
    rw [State.heap_setCell_other (Ne.symm h1)]
    by_cases h : q < s.heap.size + 1 + i
    · rw [State.heap_pushCell_of_lt (h := (by omega : q < (mw_st s a b i).heap.size))]
      exact mw_heap s a b i q h1 h
    · rw [if_neg (by omega), show q = (mw_st s a b i).heap.size by omega]
      exact State.heap_pushCell_size _ _
theorem mw_row {b bc : ClassId} {kB : Class} (hB : s.vm.classes[b]? = some kB) (hkB : kB.kind = .array bc .int) (l1 : 12 ≤ e.platform.arrayLengthLimit) (l2 : 48 ≤ e.platform.maxHeapBytes) (hc : s.heap.size < e.platform.maxCells) (hs : s.slotsUsed + 12 ≤ e.platform.maxSlots)
    {Q : Addr → Pre} (hq : ∀ acts', Q s.heap.size d acts' (s.pushCell (mw_in b))) : wp (multianewarray.make b [12]) Q E e d acts s := by
  rw [multianewarray.make]
  simp only [wp_bind', W.ite, show ¬ ((12 : Int32) < 0) by decide, if_false, wp_pure', W.theClass, hB, hkB, Option.some.injEq, exists_eq_left']
  refine W.newArray_of (howMany := 12) hB hkB (by omega) (by show ¬ 12 * 4 > _; omega) hc hs rfl hq
theorem mw_make {a b bc : ClassId} {kA kB : Class} (hA : s.vm.classes[a]? = some kA) (hkA : kA.kind = .array b (.array .int)) (hB : s.vm.classes[b]? = some kB) (hkB : kB.kind = .array bc .int) (l1 : 12 ≤ e.platform.arrayLengthLimit) (l2 : 48 ≤ e.platform.maxHeapBytes) (hc : s.heap.size + 11 ≤ e.platform.maxCells) (hs : s.slotsUsed + 130 ≤ e.platform.maxSlots)
    {Q : Addr → Pre} (hq : ∀ d' acts', Q s.heap.size d' acts' (mw_st s a b 10)) : wp (multianewarray.make a [10, 12]) Q E e d acts s := by
  rw [multianewarray.make]
  simp only [wp_bind', W.ite, show ¬ ((10 : Int32) < 0) by decide, if_false, wp_pure', W.theClass, hA, hkA, Option.some.injEq, exists_eq_left']
  refine W.newArray_of (howMany := 10) hA hkA (by omega) (by show ¬ 10 * 4 > _; omega) (by omega) (by omega) rfl (fun acts0 => ?_)
  simp only [show (([12] : List Int32).find? (· < 0)) = none by decide]
  rw [ite_self, wp_bind', Std.Legacy.Range.forIn_eq_forIn_range']
  rw [show ([:(10 : Int32).toNatClampNeg] : Std.Legacy.Range).size = 10 by decide]
  show wp (forIn (List.range' 0 10 1) PUnit.unit _) _ E e d acts0 _
  rw [← mw_out_0 a s.heap.size]
  refine wp_forIn_inv (fun r u => ∃ i, r = List.range' i (10 - i) ∧ i ≤ 10 ∧ u = mw_st s a b i) _ _ ⟨0, rfl, by omega, rfl⟩ ?_ ?_
  · rintro x r u d1 acts1 Q1 ⟨i, hr, hi, rfl⟩ kk
    have lt : i < 10 := by
      rcases Nat.lt_or_ge i 10 with h | h
      · exact h
      · rw [show 10 - i = 0 by omega] at hr
        cases hr
    rw [show 10 - i = (10 - (i + 1)) + 1 by omega, List.range'_succ] at hr
    obtain ⟨rfl, hr2⟩ := List.cons.inj hr
    obtain ⟨z, o, v, u⟩ := mw_facts s a b x
    rw [wp_bind']
    refine mw_row (by rw [v]; exact hB) hkB l1 l2 (by omega) (by omega) (fun acts2 => ?_)
    rw [wp_bind', W.writeLoc]
    refine ⟨mw_out a s.heap.size x, ?_, by simp [mw_out], by simpa [mw_out] using lt, ?_, ?_⟩
    · rw [State.heap_pushCell_of_lt (h := (by omega : s.heap.size < (mw_st s a b x).heap.size))]
      exact o
    · show State.fitsSlot _ a .none _ _ = true
      simp [State.fitsSlot, State.slotType?, v, hA, hkA]
      rfl
    · rw [wp_pure']
      refine kk _ _ _ ⟨x + 1, hr2, lt, ?_⟩
      rw [z, mw_out_set]
      rfl
  · rintro u d1 acts1 ⟨i, hr, hi, rfl⟩
    have e : i = 10 := by
      rcases Nat.lt_or_ge i 10 with h | h
      · rw [show 10 - i = (10 - (i + 1)) + 1 by omega, List.range'_succ] at hr
        cases hr
      · omega
    subst e
    rw [wp_pure']
    exact hq _ _
end MNB
section MNC
variable {p : Program} {l : Launch} {e : Env} {R : Room} {s : State} {m : MethodId} {args : Array Value} {below : List Frame} {meth : Method} {c : Code} {T : State} {locs : List Loc} {cells slots : Nat}
theorem mw_stand (X : Stand p l e R s m args below meth c T locs cells slots) (a b : ClassId) : ∀ i, ∃ L : List Loc, (∀ x ∈ L, x.base = T.heap.size) ∧ Stand p l e R s m args below meth c (mw_st T a b i) (locs ++ L) (cells + 1 + i) (slots + 10 + i * 12)
  | 0 => by
    refine ⟨[], fun x hx => (by cases hx), ?_⟩
    have h := X.pushed (mw_out a T.heap.size 0)
    rw [show (mw_out a T.heap.size 0).slots.size = 10 by simp [mw_out]] at h
    rw [List.append_nil]
    exact h
  | i + 1 => by
    obtain ⟨L, hL, Y⟩ := mw_stand X a b i
    obtain ⟨z, o, v, u⟩ := mw_facts T a b i
    have o' : ((mw_st T a b i).pushCell (mw_in b)).heap[T.heap.size]? = some (mw_out a T.heap.size i) := by rw [State.heap_pushCell_of_lt (h := (by omega : T.heap.size < (mw_st T a b i).heap.size))]; exact o
    have h := (Y.pushed (mw_in b)).stored o' i (.ref (T.heap.size + 1 + i))
    rw [mw_out_set, show (mw_in b).slots.size = 12 by simp [mw_in], List.append_assoc] at h
    refine ⟨L ++ [⟨T.heap.size, i⟩], fun x hx => ?_, ?_⟩
    · rcases List.mem_append.mp hx with q | q
      · exact hL x q
      · rw [List.mem_singleton.mp q]
    · rw [show slots + 10 + (i + 1) * 12 = slots + 10 + i * 12 + 12 by omega]
      exact h
end MNC
section MNA
variable {p : Program} {l : Launch} {e : Env} {R : Room} {s : State} {m : MethodId} {args : Array Value} {below : List Frame} {meth : Method} {c : Code} {H : Heap} {locs : List Loc} {cells slots : Nat} {Q : State → Prop}
variable {cc : ByteArray} {pc : Nat} {ls : Array Slot} {rest : List Value} {D : va_G} {A : Nat → Prop} {a : Nat} {ws : va_W} {H0 : Heap} {aC : Nat → ClassId}
def ct_mw (aC : Nat → ClassId) (g : Nat → Nat) : va_W := [((g 0), .inl (aC 2, 10, .inr (.inr (.inr (.inr (fun k : Nat => (([1, 2, 3, 4, 5, 6, 7, 8, 9, 10] : List Nat)[k]?).map g)))))), ((g 1), .inl (aC 0, 12, .inl (fun _ => 0))), ((g 2), .inl (aC 0, 12, .inl (fun _ => 0))), ((g 3), .inl (aC 0, 12, .inl (fun _ => 0))), ((g 4), .inl (aC 0, 12, .inl (fun _ => 0))), ((g 5), .inl (aC 0, 12, .inl (fun _ => 0))), ((g 6), .inl (aC 0, 12, .inl (fun _ => 0))), ((g 7), .inl (aC 0, 12, .inl (fun _ => 0))), ((g 8), .inl (aC 0, 12, .inl (fun _ => 0))), ((g 9), .inl (aC 0, 12, .inl (fun _ => 0))), ((g 10), .inl (aC 0, 12, .inl (fun _ => 0)))]
theorem ct_mw_at {aC : Nat → ClassId} {g : Nat → Nat} {i : Nat} {q : Nat × va_E} (h : (ct_mw aC g)[i]? = some q) : i < 11 ∧ q.1 = g i ∧ (i = 0 → q.2 = .inl (aC 2, 10, .inr (.inr (.inr (.inr (fun k : Nat => (([1, 2, 3, 4, 5, 6, 7, 8, 9, 10] : List Nat)[k]?).map g)))))) ∧ (i ≠ 0 → q.2 = .inl (aC 0, 12, .inl (fun _ => 0))) := by
  rw [show ct_mw aC g = (g 0, .inl (aC 2, 10, .inr (.inr (.inr (.inr (fun k : Nat => (([1, 2, 3, 4, 5, 6, 7, 8, 9, 10] : List Nat)[k]?).map g)))))) :: (List.range 10).map (fun j => ((g (j + 1), .inl (aC 0, 12, .inl (fun _ => 0))) : Nat × va_E)) from rfl] at h
  cases i with
  | zero =>
    obtain rfl := Option.some.inj h
    exact ⟨by omega, rfl, fun _ => rfl, fun n => absurd rfl n⟩
  | succ i =>
    rw [List.getElem?_cons_succ, List.getElem?_map] at h
    obtain ⟨j, hj, rfl⟩ := Option.map_eq_some_iff.mp h
    have h1 : i < 10 := by
      have := (List.getElem?_eq_some_iff.mp hj).1
      rwa [List.length_range] at this
    rw [List.getElem?_range h1] at hj
    obtain rfl := Option.some.inj hj
    exact ⟨by omega, rfl, fun n => absurd n (Nat.succ_ne_zero _), fun _ => rfl⟩
theorem mw_in_arr (b : ClassId) : mw_in b = arrV b 12 (fun _ => .int 0) := by
  unfold mw_in arrV
  congr 1
theorem mw_out_arr (b : ClassId) (h : Nat) : mw_out b h 10 = arrV b 10 (fun j => va_rf ((([1, 2, 3, 4, 5, 6, 7, 8, 9, 10] : List Nat)[j]?).map (fun i => h + i))) := by
  have key : ∀ j : Fin 10, ([1, 2, 3, 4, 5, 6, 7, 8, 9, 10] : List Nat)[j.val]? = some (j.val + 1) := by decide
  unfold mw_out arrV
  congr 2
  funext j
  rw [if_pos j.isLt]
  show Value.ref (h + 1 + j.val) = va_rf ((([1, 2, 3, 4, 5, 6, 7, 8, 9, 10] : List Nat)[j.val]?).map (fun i => h + i))
  rw [key j]
  show Value.ref (h + 1 + j.val) = Value.ref (h + (j.val + 1))
  rw [show h + 1 + j.val = h + (j.val + 1) by omega]
/-- new int[10][12] -/
theorem ct_mna0 {cl : List vw_C} (hexec : p.tables.exec = Jvm.exec) (hb : c.code = cc) {own : String} {k : Nat} (hown : s.vm.findClass own = some m.cls) (hlink : (Cond.classLink own k "[[I").before args s = true) (hK : va_K D cl [(aC 0, .int), (aC 1, .boolean), (aC 2, .array .int)] s) (hkA : ∃ kA : Class, s.vm.classes[aC 2]? = some kA ∧ kA.kind = .array (aC 0) (.array .int)) (hP : va_P D cl ws H) (hD : va_D A ws) (hS : va_S A H0 H locs) (hA : ∀ q, H0.size ≤ q → A q) (hcells : cells + 11 ≤ R.cells) (hslots : slots + 130 ≤ R.slots) (hdg : decode cc pc = .ok (.multianewarray k 2, 4))
    (kk : ∀ (g : Nat → Nat) (H1 : Heap) (locs1 : List Loc), va_P D cl (ws ++ ct_mw aC g) H1 → va_D A (ws ++ ct_mw aC g) → va_S A H0 H1 locs1 → W p l e R s m args below meth c H1 locs1 (cells + 11) (slots + 130) Q (F0 m (pc + 4) ls (.ref (g 0) :: rest))) : W p l e R s m args below meth c H locs cells slots Q (F0 m pc ls (.int 12 :: .int 10 :: rest)) := by
  intro T hT X
  subst hT
  subst hb
  have hpl : e.platform.magicAccessors = ({} : Platform).magicAccessors := by rw [X.admits.platform]
  obtain ⟨kA, hkA, hkindA⟩ := hkA
  have nm2 : s.vm.findClass "[[I" = some (aC 2) := (hK.2 2 (aC 2, .array .int) rfl).2
  obtain ⟨-, kB, hkB, bc, hkindB⟩ := (hK.2 0 (aC 0, .int) rfl).1 12 (fun _ => .null)
  have hkB : s.vm.classes[aC 0]? = some kB := hkB
  obtain ⟨c0, hfc0, hcl⟩ := Cond.classLink_spec hown hlink e.platform hpl
  obtain rfl := Option.some.inj (nm2.symm.trans hfc0)
  obtain ⟨hg1, hwarm1, -⟩ := State.classEntry (e := e) X.warmed hcl
  generalize T.vm.noted m.cls k (.cls (aC 2)) = vm1 at hg1 hwarm1
  have hal : s.vm.Alike vm1 := hwarm1.alike
  obtain ⟨kA1, hkA1, heA⟩ := hal.2.2 _ _ hkA
  obtain ⟨kB1, hkB1, heB⟩ := hal.2.2 _ _ hkB
  have X1 := X.noted hwarm1
  obtain ⟨hr1, hr2⟩ := X.roomAbove hcells hslots
  have hsz : (T.setVm vm1).heap = T.heap := rfl
  obtain ⟨L, hL, X2⟩ := mw_stand X1 (aC 2) (aC 0) 10
  obtain ⟨z, o, v, u⟩ := mw_facts (T.setVm vm1) (aC 2) (aC 0) 10
  have old := mw_heap (T.setVm vm1) (aC 2) (aC 0) 10
  rw [hsz] at z o old
  have hnew : ∀ q, T.heap.size ≤ q → A q := fun q h => hA q (Nat.le_trans hS.1 h)
  suffices hk : ∃ t, Steps p.tables e below ((mw_st (T.setVm vm1) (aC 2) (aC 0) 10).setTop (F0 m (pc + 4) ls (.ref (T.heap.size + 0) :: rest))) t ∧ Q t by
    obtain ⟨t, a1, b1⟩ := hk
    refine ⟨t, ?_, b1⟩
    jvm_step X.here [hexec, hdg]
    simp only [multianewarray.sem, wp_bind', W.resolveClassAt_links (State.method?_setTop (F0 m pc ls (.int 12 :: .int 10 :: rest)) X.here.top) hg1]
    rw [W.popN, if_neg (by decide)]
    refine ⟨F0 m pc ls (.int 12 :: .int 10 :: rest), State.topJava?_setTop' (s := T.setVm vm1) _ X.here.top, [.int 10, .int 12], rest, rfl, rfl, ?_⟩
    simp only [List.mapM_cons, List.mapM_nil, wp_bind', wp_pure']
    refine mw_make (kA := kA1) (kB := kB1) (b := aC 0) (bc := bc) hkA1 (by rw [heA]; exact hkindA) hkB1 (by rw [heB]; exact hkindB) (by rw [Launch.admits_arrayLengthLimit X.admits]; omega) (by rw [Launch.admits_maxHeapBytes X.admits]; omega) (by show T.heap.size + 11 ≤ _; omega) (by show T.slotsUsed + 130 ≤ _; omega) (fun d1 acts1 => ?_)
    have eS : ((T.setTop (F0 m pc ls (.int 12 :: .int 10 :: rest))).setVm vm1).setTop { F0 m pc ls (.int 12 :: .int 10 :: rest) with stack := rest } = (T.setVm vm1).setTop { F0 m pc ls (.int 12 :: .int 10 :: rest) with stack := rest } := by
      show ((T.setVm vm1).setTop _).setTop _ = _
      rw [State.setTop_setTop]
    rw [eS, mw_top]
    simp only [wp_bind', W.mark, W.pushRef, State.topJava?_setTop' _ X2.here.top, Option.some.injEq, exists_eq_left', State.setTop_setTop, State.heap_setTop]
    intro acts
    simp [jvm, X2.here.top]
    exact a1
  refine kk (fun i => T.heap.size + i) (mw_st (T.setVm vm1) (aC 2) (aC 0) 10).heap (locs ++ L) ?_ ?_ ?_ _ rfl X2
  · refine (hP.kept fun i q hq => ?_).app (fun i q hq => ?_)
    · have h1 : q.1 < T.heap.size := (hP i q hq).lt
      rw [old q.1 (by omega) (by omega), if_pos h1]
    · obtain ⟨h1, h2, h3, h4⟩ := ct_mw_at hq
      obtain ⟨q1, q2⟩ := q
      by_cases h0 : i = 0
      · have h6 : q1 = T.heap.size + i := h2
        have h7 : q2 = .inl (aC 2, 10, .inr (.inr (.inr (.inr (fun k : Nat => (([1, 2, 3, 4, 5, 6, 7, 8, 9, 10] : List Nat)[k]?).map (fun i => T.heap.size + i)))))) := h3 h0
        clear hq h2 h3 h4
        subst h0
        subst h6 h7
        show (mw_st _ _ _ 10).heap[T.heap.size + 0]? = some (vp_cell _ _)
        rw [Nat.add_zero, o, mw_out_arr]
        rfl
      · have h6 : q1 = T.heap.size + i := h2
        have h7 : q2 = .inl (aC 0, 12, .inl (fun _ => 0)) := h4 h0
        clear hq h2 h3 h4
        subst h6 h7
        show (mw_st _ _ _ 10).heap[T.heap.size + i]? = some (vp_cell _ _)
        rw [old (T.heap.size + i) (by omega) (by omega), if_neg (by omega), mw_in_arr]
        rfl
  · refine hD.app ⟨fun i j q1 q2 h1 h2 h3 => ?_, fun i q hq => ?_⟩ (fun i j q1 q2 h1 h2 h3 => ?_)
    · have e1 := (ct_mw_at h1).2.1
      have e2 := (ct_mw_at h2).2.1
      rw [e1, e2] at h3
      omega
    · rw [(ct_mw_at hq).2.1]
      exact hnew _ (by omega)
    · have e1 : q1.1 < T.heap.size := (hP i q1 h1).lt
      have e2 := (ct_mw_at h2).2.1
      rw [h3, e2] at e1
      omega
  · refine ⟨?_, fun q h1 h2 => ?_, fun x hx => ?_⟩
    · rw [z]
      exact Nat.le_trans hS.1 (by omega)
    · have h3 : q < T.heap.size := Nat.lt_of_lt_of_le h1 hS.1
      rw [old q (by omega) (by omega), if_pos h3]
      exact hS.2.1 q h1 h2
    · rcases List.mem_append.mp hx with h | h
      · exact hS.2.2 x h
      · rw [hL x h]
        exact hnew _ (Nat.le_refl _)
theorem ct_mna (hexec : p.tables.exec = Jvm.exec) (hb : c.code = cc) (hts : ∀ w ∈ am_tbl, w.before args s = true) {own : String} {k : Nat} (hown : s.vm.findClass own = some m.cls) (hlink : Cond.classLink own k "[[I" ∈ am_tbl) (hK : va_K D am_cl (am_tys aC) s) (hkA : ∃ kA : Class, s.vm.classes[aC 2]? = some kA ∧ kA.kind = .array (aC 0) (.array .int)) (hP : va_P D am_cl ws H) (hD : va_D A ws) (hS : va_S A H0 H locs) (hA : ∀ q, H0.size ≤ q → A q) (hcells : cells + 11 ≤ R.cells) (hslots : slots + 130 ≤ R.slots) (hdg : decode cc pc = .ok (.multianewarray k 2, 4))
    (kk : ∀ (g : Nat → Nat) (H1 : Heap) (locs1 : List Loc), va_P D am_cl (ws ++ ct_mw aC g) H1 → va_D A (ws ++ ct_mw aC g) → va_S A H0 H1 locs1 → W p l e R s m args below meth c H1 locs1 (cells + 11) (slots + 130) Q (F0 m (pc + 4) ls (.ref (g 0) :: rest))) : W p l e R s m args below meth c H locs cells slots Q (F0 m pc ls (.int 12 :: .int 10 :: rest)) :=
  ct_mna0 hexec hb hown (hts _ hlink) hK hkA hP hD hS hA hcells hslots hdg kk
end MNA
