/-! ===== what the abstract machine does, the machine does ===== -/
def am_v (adr : Nat → Nat) : Value → Value
  | .int x => .int x
  | .ref a => .ref (adr a)
  | _ => .null
theorem am_v_cat (adr : Nat → Nat) (v : Value) : (am_v adr v).category = 1 := by cases v <;> rfl
theorem am_cat_sum (adr : Nat → Nat) (S : List Value) : ((S.map (am_v adr)).map (fun v => v.category)).sum = S.length := by
  induction S with
  | nil => rfl
  | cons v S ih => simp only [List.map_cons, List.sum_cons, am_v_cat, ih, List.length_cons]; omega
def am_fv (adr : Nat → Nat) (σ : am_S) (c k : Nat) (f : Option Nat) : Value := match f with
  | none => .int (σ c k)
  | some r => .ref (adr r)
def am_fs (adr : Nat → Nat) (σ : am_S) (c : Nat) (fl : List (Option Nat)) : List Value := fl.mapIdx (fun k f => am_fv adr σ c k f)
def am_cell (aC : Nat → ClassId) (adr : Nat → Nat) (σ : am_S) (c : Nat) (x : am_Sh) : va_E := match x with
  | .inl q => .inr (q.1, am_fs adr σ c q.2)
  | .inr (.inl q) => .inl (aC q.1, q.2, .inl (σ c))
  | .inr (.inr rs) => .inl (aC 2, rs.length, .inr (.inr (.inr (.inr (fun k => (rs[k]?).map adr)))))
def am_W (aC : Nat → ClassId) (adr : Nat → Nat) (sh : List am_Sh) (σ : am_S) : va_W := sh.mapIdx (fun c x => (adr c, am_cell aC adr σ c x))
def am_tys (aC : Nat → ClassId) : List (ClassId × FieldType) := [(aC 0, .int), (aC 1, .boolean), (aC 2, .array .int)]
def am_A (adr : Nat → Nat) (sh : List am_Sh) : Nat → Prop := fun q => ∃ c, c < sh.length ∧ adr c = q
theorem am_W_at {aC : Nat → ClassId} {adr : Nat → Nat} {sh : List am_Sh} {σ : am_S} {c : Nat} {x : am_Sh} (h : sh[c]? = some x) : (am_W aC adr sh σ)[c]? = some (adr c, am_cell aC adr σ c x) := by
  simp [am_W, List.getElem?_mapIdx, h]
theorem am_W_get {aC : Nat → ClassId} {adr : Nat → Nat} {sh : List am_Sh} {σ : am_S} {c : Nat} {q : Nat × va_E} (h : (am_W aC adr sh σ)[c]? = some q) : c < sh.length ∧ q.1 = adr c := by
  simp only [am_W, List.getElem?_mapIdx, Option.map_eq_some_iff] at h
  obtain ⟨x, hx, rfl⟩ := h
  exact ⟨(List.getElem?_eq_some_iff.mp hx).1, rfl⟩
theorem am_D {aC : Nat → ClassId} {adr : Nat → Nat} {sh : List am_Sh} (hi : ∀ i j, i < sh.length → j < sh.length → adr i = adr j → i = j) (σ : am_S) : va_D (am_A adr sh) (am_W aC adr sh σ) := by
  refine ⟨fun i j p q h1 h2 e => ?_, fun k q h => ?_⟩
  · obtain ⟨a1, b1⟩ := am_W_get h1
    obtain ⟨a2, b2⟩ := am_W_get h2
    exact hi i j a1 a2 (by rw [← b1, ← b2]; exact e)
  · obtain ⟨a1, b1⟩ := am_W_get h
    exact ⟨k, a1, b1.symm⟩
theorem am_set_eq (σ : am_S) (c : Nat) (f : Nat → Int32) : am_set σ c f c = f := if_pos rfl
theorem am_set_ne (σ : am_S) {c c' : Nat} (f : Nat → Int32) (h : c' ≠ c) : am_set σ c f c' = σ c' := if_neg h
theorem am_cell_ne {aC : Nat → ClassId} {adr : Nat → Nat} {σ : am_S} {c c' : Nat} {f : Nat → Int32} (h : c' ≠ c) (x : am_Sh) : am_cell aC adr (am_set σ c f) c' x = am_cell aC adr σ c' x := by
  unfold am_cell am_fs am_fv
  rw [am_set_ne σ f h]
theorem am_W_set {aC : Nat → ClassId} {adr : Nat → Nat} {sh : List am_Sh} {σ : am_S} {c : Nat} {q : Nat × Nat} (h : sh[c]? = some (.inr (.inl q))) (f : Nat → Int32) : (am_W aC adr sh σ).set c (adr c, .inl (aC q.1, q.2, .inl f)) = am_W aC adr sh (am_set σ c f) := by
  apply List.ext_getElem?
  intro i
  have hl : c < (am_W aC adr sh σ).length := (List.getElem?_eq_some_iff.mp (am_W_at (σ := σ) (aC := aC) (adr := adr) h)).1
  by_cases e : i = c
  · subst e
    rw [List.getElem?_set_self hl, am_W_at h]
    show _ = some (adr i, am_cell aC adr (am_set σ i f) i (.inr (.inl q)))
    unfold am_cell
    rw [am_set_eq]
  · rw [List.getElem?_set_ne (Ne.symm e)]
    simp only [am_W, List.getElem?_mapIdx]
    cases sh[i]? with
    | none => rfl
    | some x => simp only [Option.map_some]; rw [am_cell_ne e]
theorem am_fs_at {adr : Nat → Nat} {σ : am_S} {c : Nat} {fl : List (Option Nat)} {k : Nat} {f : Option Nat} (h : fl[k]? = some f) : (am_fs adr σ c fl)[k]? = some (am_fv adr σ c k f) := by
  simp only [am_fs, List.getElem?_mapIdx, h, Option.map_some]
theorem am_fs_len {adr : Nat → Nat} {σ : am_S} {c : Nat} {fl : List (Option Nat)} : (am_fs adr σ c fl).length = fl.length := by
  simp [am_fs]
theorem am_fs_set {adr : Nat → Nat} {σ : am_S} {c : Nat} {fl : List (Option Nat)} {k : Nat} {v : Int32} (h : fl[k]? = some none) : (am_fs adr σ c fl).set k (.int v) = am_fs adr (am_up σ c k v) c fl := by
  apply List.ext_getElem?
  intro i
  have hl : k < (am_fs adr σ c fl).length := by rw [am_fs_len]; exact (List.getElem?_eq_some_iff.mp h).1
  by_cases e : i = k
  · subst e
    rw [List.getElem?_set_self hl, am_fs_at h]
    simp only [am_fv, am_up, am_set_eq, upd, if_true]
  · rw [List.getElem?_set_ne (Ne.symm e)]
    simp only [am_fs, List.getElem?_mapIdx]
    cases fl[i]? with
    | none => rfl
    | some x =>
      simp only [Option.map_some]
      cases x with
      | none => simp only [am_fv, am_up, am_set_eq, upd, if_neg e]
      | some r => rfl
theorem am_W_setf {aC : Nat → ClassId} {adr : Nat → Nat} {sh : List am_Sh} {σ : am_S} {c : Nat} {q : Nat × List (Option Nat)} {k : Nat} {v : Int32} (h : sh[c]? = some (.inl q)) (hk : q.2[k]? = some none) : (am_W aC adr sh σ).set c (adr c, .inr (q.1, (am_fs adr σ c q.2).set k (.int v))) = am_W aC adr sh (am_up σ c k v) := by
  apply List.ext_getElem?
  intro i
  have hl : c < (am_W aC adr sh σ).length := (List.getElem?_eq_some_iff.mp (am_W_at (σ := σ) (aC := aC) (adr := adr) h)).1
  by_cases e : i = c
  · subst e
    rw [List.getElem?_set_self hl, am_W_at h]
    show _ = some (adr i, am_cell aC adr (am_up σ i k v) i (.inl q))
    unfold am_cell
    rw [am_fs_set hk]
  · rw [List.getElem?_set_ne (Ne.symm e)]
    simp only [am_W, List.getElem?_mapIdx]
    cases sh[i]? with
    | none => rfl
    | some x => simp only [Option.map_some]; unfold am_up; rw [am_cell_ne e]
/-! locals -/
def am_lv (adr : Nat → Nat) : Nat → List Value → List (Nat × Value)
  | _, [] => []
  | k, .int x :: L => (k, .int x) :: am_lv adr (k + 1) L
  | k, .ref a :: L => (k, .ref (adr a)) :: am_lv adr (k + 1) L
  | k, _ :: L => am_lv adr (k + 1) L
theorem am_lv_int {adr : Nat → Nat} : ∀ {L : List Value} {i k : Nat} {x : Int32}, L[i]? = some (.int x) → (k + i, Value.int x) ∈ am_lv adr k L
  | [], i, k, x, h => by simp at h
  | v :: L, 0, k, x, h => by
    simp only [List.getElem?_cons_zero, Option.some.injEq] at h
    subst h
    exact List.mem_cons_self
  | v :: L, i + 1, k, x, h => by
    rw [List.getElem?_cons_succ] at h
    have h1 := am_lv_int (adr := adr) (k := k + 1) h
    rw [show k + 1 + i = k + (i + 1) by omega] at h1
    cases v <;> first | exact List.mem_cons_of_mem _ h1 | exact h1
theorem am_lv_ref {adr : Nat → Nat} : ∀ {L : List Value} {i k : Nat} {a : Nat}, L[i]? = some (.ref a) → (k + i, Value.ref (adr a)) ∈ am_lv adr k L
  | [], i, k, x, h => by simp at h
  | v :: L, 0, k, x, h => by
    simp only [List.getElem?_cons_zero, Option.some.injEq] at h
    subst h
    exact List.mem_cons_self
  | v :: L, i + 1, k, x, h => by
    rw [List.getElem?_cons_succ] at h
    have h1 := am_lv_ref (adr := adr) (k := k + 1) h
    rw [show k + 1 + i = k + (i + 1) by omega] at h1
    cases v <;> first | exact List.mem_cons_of_mem _ h1 | exact h1
theorem am_lv_mem {adr : Nat → Nat} : ∀ {L : List Value} {k : Nat} {q : Nat × Value}, q ∈ am_lv adr k L → ∃ (i : Nat) (v : Value), q.1 = k + i ∧ L[i]? = some v ∧ q.2 = am_v adr v ∧ (∃ x, v = .int x ∨ ∃ a, v = .ref a)
  | [], k, q, h => by cases h
  | v :: L, k, q, h => by
    have tail : q ∈ am_lv adr (k + 1) L → ∃ (i : Nat) (w : Value), q.1 = k + i ∧ (v :: L)[i]? = some w ∧ q.2 = am_v adr w ∧ (∃ x, w = .int x ∨ ∃ a, w = .ref a) := fun h => by
      obtain ⟨i, w, h1, h2, h3, h4⟩ := am_lv_mem h
      exact ⟨i + 1, w, by omega, by rw [List.getElem?_cons_succ]; exact h2, h3, h4⟩
    cases v with
    | int x =>
      rcases List.mem_cons.mp h with e | e
      · subst e
        exact ⟨0, .int x, rfl, rfl, rfl, x, Or.inl rfl⟩
      · exact tail e
    | ref a =>
      rcases List.mem_cons.mp h with e | e
      · subst e
        exact ⟨0, .ref a, rfl, rfl, rfl, 0, Or.inr ⟨a, rfl⟩⟩
      · exact tail e
    | null => exact tail h
    | long _ => exact tail h
    | float _ => exact tail h
    | double _ => exact tail h
    | retAddr _ => exact tail h
theorem am_has_set {adr : Nat → Nat} {ls : Array Slot} {nL : Nat} {L : List Value} {i : Nat} {v : Value} (hv : (∃ x, v = .int x) ∨ ∃ a, v = .ref a) (h : lv_has ls nL ((i, am_v adr v) :: (am_lv adr 0 L).filter (fun q => !(q.1 == i) && !(q.1 + 1 == i && q.2.category == 2)))) : lv_has ls nL (am_lv adr 0 (L.set i v)) := by
  refine ⟨h.1, h.2.1, fun q hq => ?_⟩
  obtain ⟨j, w, h1, h2, h3, h4⟩ := am_lv_mem hq
  rw [Nat.zero_add] at h1
  by_cases e : j = i
  · subst e
    have hl : j < L.length := by
      have := (List.getElem?_eq_some_iff.mp h2).1
      rw [List.length_set] at this
      exact this
    rw [List.getElem?_set_self hl] at h2
    cases h2
    have hq' : q = (j, am_v adr v) := by rw [← h1, ← h3]
    rw [hq']
    exact h.2.2 _ List.mem_cons_self
  · rw [List.getElem?_set_ne (Ne.symm e)] at h2
    refine h.2.2 q (List.mem_cons_of_mem _ (List.mem_filter.mpr ⟨?_, ?_⟩))
    · have hq' : q = (j, am_v adr w) := by rw [← h1, ← h3]
      rw [hq']
      obtain ⟨x, hx | ⟨a, ha⟩⟩ := h4
      · subst hx
        have := am_lv_int (adr := adr) (k := 0) h2
        rw [Nat.zero_add] at this
        exact this
      · subst ha
        have := am_lv_ref (adr := adr) (k := 0) h2
        rw [Nat.zero_add] at this
        exact this
    · rw [h1, h3]
      have hc := am_v_cat adr w
      simp [hc, e]
theorem am_at_int {adr : Nat → Nat} {ls : Array Slot} {nL : Nat} {L : List Value} {i : Nat} {x : Int32} (h : lv_has ls nL (am_lv adr 0 L)) (hi : L[i]? = some (.int x)) : ls[i]? = some (.val (.int x)) := by
  have := am_lv_int (adr := adr) (k := 0) hi
  rw [Nat.zero_add] at this
  exact h.2.2 _ this
theorem am_at_ref {adr : Nat → Nat} {ls : Array Slot} {nL : Nat} {L : List Value} {i : Nat} {a : Nat} (h : lv_has ls nL (am_lv adr 0 L)) (hi : L[i]? = some (.ref a)) : ls[i]? = some (.val (.ref (adr a))) := by
  have := am_lv_ref (adr := adr) (k := 0) hi
  rw [Nat.zero_add] at this
  exact h.2.2 _ this
/-! what holds around a method of the tables -/
def am_il : Instr → Nat
  | .aload_n _ => 1
  | .aload _ => 2
  | .iload_n _ => 1
  | .iload _ => 2
  | .istore_n _ => 1
  | .istore _ => 2
  | .astore_n _ => 1
  | .iinc _ _ => 3
  | .iconst _ => 1
  | .bipush _ => 2
  | .sipush _ => 3
  | .ldc _ => 2
  | .ldc_w _ => 3
  | .getfield _ => 3
  | .putfield _ => 3
  | .getstatic _ => 3
  | .goto _ => 3
  | .ifCond _ _ => 3
  | .if_icmp _ _ => 3
  | .invokevirtual _ => 3
  | .invokestatic _ => 3
  | .tableswitch _ _ _ _ => 0
  | .lookupswitch _ _ => 0
  | _ => 1
def am_okm (P : Nat → Option am_M) (own : String) (k mi : Nat) : Prop := ∃ M', P mi = some M' ∧ Cond.methodLink own k (am_y M') ∈ am_tbl
def am_okf (own : String) (k : Nat) (q : Nat × Nat × Nat) : Prop := ∃ (C : String) (T : u_T) (N : Nat), am_cl[q.1]? = some (C, T, N) ∧ q.2.1 < N ∧ Cond.fieldLink own k (T q.2.1).1 (T q.2.1).2.1 (T q.2.1).2.2.1 ∈ am_tbl ∧ (q.2.2 = 0 → (T q.2.1).2.2.2 = false ∧ am_ty q.1 q.2.1 = .int) ∧ (q.2.2 = 1 → (T q.2.1).2.2.2 = false ∧ am_ty q.1 q.2.1 = .boolean)
/-- what a caller needs of a method -/
def am_okc (M : am_M) : Prop := plainName (am_y M).cls = true ∧ Cond.code (am_y M) (am_by M) (am_ml M) (am_rt M) ∈ am_tbl ∧ am_ml M ≤ 21 ∧ ((am_y M).cls ≠ "java/lang/invoke/MethodHandle" ∧ (am_y M).cls ≠ "java/lang/invoke/VarHandle" ∧ (parseMethodDescriptor (am_y M).desc).map (fun d => d.parameters.length) = some (am_np M)) ∧ Cond.initialized (am_y M).cls ∈ am_tbl ∧ ((∃ (ci : Nat) (T : u_T) (N : Nat), am_ci M = some ci ∧ am_cl[ci]? = some ((am_y M).cls, T, N) ∧ Cond.instanceMethod (am_y M) ∈ am_tbl ∧ Cond.selects (am_y M).cls (am_y M) (am_y M) ∈ am_tbl) ∨ (am_ci M = none ∧ Cond.static (am_y M) ∈ am_tbl))
/-- what its own instructions need -/
def am_ok (P : Nat → Option am_M) (M : am_M) : Prop :=
  (∀ (pc : Nat) (q : Instr × Nat), am_co M pc = some q → decode (am_by M) pc = .ok q ∧ (am_il q.1 = 0 ∨ q.2 = am_il q.1)) ∧
  (∀ (k : Nat) (q : Nat × Nat × Nat), am_lf M k = some q → am_okf (am_y M).cls k q) ∧
  (∀ k mi : Nat, am_lm M k = some mi → am_okm P (am_y M).cls k mi) ∧
  (∀ (k : Nat) (v : Int32), am_lc M k = some v → Cond.constant (am_y M).cls k v ∈ am_tbl) ∧
  (∀ k : Nat, (am_lx M k = 1 → Cond.fieldLink (am_y M).cls k "PartedLand$Estate" "ABOVE" "[I" ∈ am_tbl) ∧ (am_lx M k = 2 → Cond.methodLink (am_y M).cls k arraycopyName ∈ am_tbl) ∧ (am_lx M k = 3 → Cond.methodLink (am_y M).cls k Lib.Math.min.name ∈ am_tbl) ∧ (am_lx M k = 4 → Cond.methodLink (am_y M).cls k Lib.Math.abs.name ∈ am_tbl))
def am_EX (ex : am_X) (adr : Nat → Nat) (A : Nat → Prop) (U : State) (H : Heap) : Prop := (∀ (k : Nat) (q : Nat × (Nat → Int32)), ex k = some q → va_T .int (adr k) q.1 (fun j => .int (q.2 j)) A U H) ∧ va_Z "PartedLand$Estate" "ABOVE" "[I" (.ref (adr 1000)) A U H
def am_Cx (p : Program) (s : State) (m : MethodId) (args : Array Value) (c : Code) (M : am_M) (sh : List am_Sh) (ex : am_X) (aC : Nat → ClassId) (adr : Nat → Nat) (D : va_G) : Prop :=
  p.tables.exec = Jvm.exec ∧ c.code = am_by M ∧ c.maxLocals = am_ml M ∧ s.vm.findClass (am_y M).cls = some m.cls ∧ (∀ w ∈ am_tbl, w.before args s = true) ∧ va_K D am_cl (am_tys aC) s ∧ am_EX ex adr (am_A adr sh) s s.heap ∧ (∀ i j, i < sh.length → j < sh.length → adr i = adr j → i = j)
theorem am_arr : Cond.native arraycopyName ∈ am_tbl ∧ Cond.static arraycopyName ∈ am_tbl ∧ Cond.initialized "java/lang/System" ∈ am_tbl := by
  refine ⟨List.mem_filter.mpr ⟨?_, ?_⟩, List.mem_filter.mpr ⟨?_, ?_⟩, List.mem_filter.mpr ⟨?_, ?_⟩⟩ <;> decide +kernel
theorem am_mth : Cond.static Lib.Math.min.name ∈ am_tbl ∧ Cond.static Lib.Math.abs.name ∈ am_tbl ∧ Cond.initialized "java/lang/Math" ∈ am_tbl ∧ Cond.code Lib.Math.min.name Lib.Math.min.code 2 (some .int) ∈ am_tbl ∧ Cond.code Lib.Math.abs.name Lib.Math.abs.code 1 (some .int) ∈ am_tbl := by
  refine ⟨List.mem_filter.mpr ⟨?_, ?_⟩, List.mem_filter.mpr ⟨?_, ?_⟩, List.mem_filter.mpr ⟨?_, ?_⟩, List.mem_filter.mpr ⟨?_, ?_⟩, List.mem_filter.mpr ⟨?_, ?_⟩⟩ <;> decide +kernel
theorem am_bo_iff {v : Int32} : am_bo v = true ↔ v = 0 ∨ v = 1 := by
  simp [am_bo]
theorem am_bo_nar {v : Int32} (h : am_bo v = true) : narrow .boolean (.int v) = .int v ∧ fits .boolean (.int v) = true ∧ vp_nar .boolean v = v := by
  rcases am_bo_iff.mp h with rfl | rfl <;> decide +kernel
theorem am_in_vp {i : Int32} {n : Nat} (h : am_in i n = true) : vp_in i n := by
  simp only [am_in, Bool.and_eq_true, decide_eq_true_eq] at h
  rintro (q | q)
  · exact h.1 q
  · omega
theorem am_tg_eq {pc : Nat} {off : Int} (h : 0 ≤ (pc : Int) + off) : (pc : Int) + off = (am_tg pc off : Int) := by
  unfold am_tg
  omega
section AMN
variable {p : Program} {l : Launch} {e : Env} {R : Room} {s : State} {m : MethodId} {args : Array Value} {below : List Frame} {meth : Method} {c : Code} {H : Heap} {locs : List Loc} {cells slots : Nat} {Q : State → Prop}
variable {cc : ByteArray} {pc : Nat} {ls : Array Slot} {rest : List Value} {D : va_G} {cl : List vw_C} {A : Nat → Prop} {a : Nat} {tys : List (ClassId × FieldType)} {ws : va_W} {H0 : Heap}
theorem am_aald (hexec : p.tables.exec = Jvm.exec) (hb : c.code = cc) (hK : va_K D cl tys s) (hP : va_P D cl ws H) (q0 t0 : Nat) {cA : ClassId} {ty : FieldType} {n : Nat} {f : Nat → Option Nat} (ha : ws[q0]? = some (a, .inl (cA, n, .inr (.inr (.inr (.inr f)))))) (ht : tys[t0]? = some (cA, .array ty)) {i : Int32} (hin : vp_in i n) (hdg : decode cc pc = .ok (.aaload, 1))
    (kk : W p l e R s m args below meth c H locs cells slots Q (F0 m (pc + 1) ls (va_rf (f i.toNatClampNeg) :: rest))) : W p l e R s m args below meth c H locs cells slots Q (F0 m pc ls (.int i :: .ref a :: rest)) := by
  have hlt : i.toNatClampNeg < n := Nat.not_le.mp fun q => hin (Or.inr q)
  exact W.aald (v := va_rf (f i.toNatClampNeg)) (ty := .array ty) hexec hb (hP q0 _ ha) ((hK.2 t0 _ ht).1 n (fun j => va_rf (f j))) rfl (fun q => by cases q) (by show ¬ (i < 0 ∨ (arrV _ _ _).slots.size ≤ _); rw [arrV_size]; exact hin) (by show (arrV _ _ _).slots[_]? = _; rw [arrV_read _ _ hlt]) rfl rfl hdg kk
theorem am_tint (hexec : p.tables.exec = Jvm.exec) (hb : c.code = cc) {t N : Nat} {f : Nat → Value} (hT : va_T .int t N f A s s.heap) (hS : va_S A s.heap H locs) {i : Int32} (hin : vp_in i N) (hdg : decode cc pc = .ok (.iaload, 1))
    (kk : W p l e R s m args below meth c H locs cells slots Q (F0 m (pc + 1) ls (f i.toNatClampNeg :: rest))) : W p l e R s m args below meth c H locs cells slots Q (F0 m pc ls (.int i :: .ref t :: rest)) := by
  have hlt : i.toNatClampNeg < N := Nat.not_le.mp fun q => hin (Or.inr q)
  obtain ⟨cell, h1, h2, h3, h4, h5, h6, h7⟩ := hT
  have hc : H[t]? = some cell := by rw [hS.2.1 t (Array.getElem?_eq_some_iff.mp h1).1 h7]; exact h1
  exact W.iald hexec hb hc h2 h3 (fun q => by rcases q with q | q; exact hin (Or.inl q); omega) (h6 _ hlt) rfl rfl hdg kk
end AMN
