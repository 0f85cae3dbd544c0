theorem ct_o1 : Cond.instanceMethod objectInit ∈ am_tbl := am_mem_in (p := 57) (by decide +kernel)
theorem ct_o2 : Cond.code objectInit ⟨#[0xb1]⟩ 1 none ∈ am_tbl := am_mem_in (p := 58) (by decide +kernel)
def ct_nw : List Cond := [.methodLinkNest "PartedLand" 11 ⟨"PartedLand$Land", "<init>", "()V"⟩ "PartedLand", .methodLinkNest "PartedLand" 18 ⟨"PartedLand$People", "<init>", "()V"⟩ "PartedLand", .methodLinkNest "PartedLand" 25 ⟨"PartedLand$Houses", "<init>", "()V"⟩ "PartedLand", .methodLinkNest "PartedLand" 32 ⟨"PartedLand$Estate", "<init>", "()V"⟩ "PartedLand", .methodLinkNest "PartedLand" 39 ⟨"PartedLand$Parting", "<init>", "()V"⟩ "PartedLand", .methodLinkNest "PartedLand" 46 ⟨"PartedLand$Week", "<init>", "()V"⟩ "PartedLand", .methodLinkNest "PartedLand" 53 ⟨"PartedLand$Wagons", "<init>", "()V"⟩ "PartedLand", .methodLinkNest "PartedLand" 60 ⟨"PartedLand$Cases", "<init>", "()V"⟩ "PartedLand", .methodLinkNest "PartedLand" 67 ⟨"PartedLand$Tasks", "<init>", "()V"⟩ "PartedLand"]
theorem ct_nw_form : ∀ w ∈ ct_nw, ∃ (a : String) (i : Nat) (x : MethodName) (h : String), w = .methodLinkNest a i x h := by
  intro w hw
  simp only [ct_nw, List.mem_cons, List.not_mem_nil, or_false] at hw
  rcases hw with rfl | rfl | rfl | rfl | rfl | rfl | rfl | rfl | rfl <;> exact ⟨_, _, _, _, rfl⟩
/-! ===== constructors: rows for what they make ===== -/
section CTR
variable {p : Program} {l : Launch} {e : Env} {R : Room} {s : State} {m : MethodId} {args : Array Value} {below : List Frame} {meth : Method} {c : Code} {H : Heap} {locs : List Loc} {cells slots : Nat} {Q : State → Prop}
variable {cc : ByteArray} {pc : Nat} {ls : Array Slot} {rest : List Value} {D : va_G} {A : Nat → Prop} {a : Nat} {ws : va_W} {H0 : Heap} {aC : Nat → ClassId}
theorem ct_newi (hexec : p.tables.exec = Jvm.exec) (hb : c.code = cc) (harr : (Cond.arrayClass .int).before args s = true) (hK : va_K D am_cl (am_tys aC) s) (hP : va_P D am_cl ws H) (hD : va_D A ws) (hS : va_S A H0 H locs) (hA : ∀ q, H0.size ≤ q → A q)
    {n : Int32} {N' : Nat} (hn : ¬ n < 0) (hN : n.toNatClampNeg = N') (hby : N' * componentBytes .int ≤ 536870912) (hcells : cells + 1 ≤ R.cells) (hslots : slots + N' ≤ R.slots) (hdg : decode cc pc = .ok (.newarray .int, 2))
    (kk : ∀ (q : Nat) (H1 : Heap), va_P D am_cl (ws ++ [(q, .inl (aC 0, N', .inl (fun _ => 0)))]) H1 → va_D A (ws ++ [(q, .inl (aC 0, N', .inl (fun _ => 0)))]) → va_S A H0 H1 locs → W p l e R s m args below meth c H1 locs (cells + 1) (slots + N') Q (F0 m (pc + 2) ls (.ref q :: rest))) : W p l e R s m args below meth c H locs cells slots Q (F0 m pc ls (.int n :: rest)) := by
  refine va_newa (atype := .int) (ty := .int) (a0 := (N', .inl (fun _ => 0))) hexec hb harr rfl hK hP hD hS hA (fun _ => rfl) hn hN hby hcells hslots hdg (fun q cA H1 hK1 hP1 hD1 hS1 => ?_)
  have e1 : s.vm.findClass ("[" ++ FieldType.int.toString) = some cA := (hK1.2 3 (cA, .int) rfl).2
  have e2 : s.vm.findClass ("[" ++ FieldType.int.toString) = some (aC 0) := (hK.2 0 (aC 0, .int) rfl).2
  have e3 : cA = aC 0 := Option.some.inj (e1.symm.trans e2)
  subst e3
  exact kk q H1 hP1 hD1 hS1
theorem ct_newz (hexec : p.tables.exec = Jvm.exec) (hb : c.code = cc) (harr : (Cond.arrayClass .boolean).before args s = true) (hK : va_K D am_cl (am_tys aC) s) (hP : va_P D am_cl ws H) (hD : va_D A ws) (hS : va_S A H0 H locs) (hA : ∀ q, H0.size ≤ q → A q)
    {n : Int32} {N' : Nat} (hn : ¬ n < 0) (hN : n.toNatClampNeg = N') (hby : N' * componentBytes .boolean ≤ 536870912) (hcells : cells + 1 ≤ R.cells) (hslots : slots + N' ≤ R.slots) (hdg : decode cc pc = .ok (.newarray .boolean, 2))
    (kk : ∀ (q : Nat) (H1 : Heap), va_P D am_cl (ws ++ [(q, .inl (aC 1, N', .inl (fun _ => 0)))]) H1 → va_D A (ws ++ [(q, .inl (aC 1, N', .inl (fun _ => 0)))]) → va_S A H0 H1 locs → W p l e R s m args below meth c H1 locs (cells + 1) (slots + N') Q (F0 m (pc + 2) ls (.ref q :: rest))) : W p l e R s m args below meth c H locs cells slots Q (F0 m pc ls (.int n :: rest)) := by
  refine va_newa (atype := .boolean) (ty := .boolean) (a0 := (N', .inl (fun _ => 0))) hexec hb harr rfl hK hP hD hS hA (fun _ => rfl) hn hN hby hcells hslots hdg (fun q cA H1 hK1 hP1 hD1 hS1 => ?_)
  have e1 : s.vm.findClass ("[" ++ FieldType.boolean.toString) = some cA := (hK1.2 3 (cA, .boolean) rfl).2
  have e2 : s.vm.findClass ("[" ++ FieldType.boolean.toString) = some (aC 1) := (hK.2 1 (aC 1, .boolean) rfl).2
  have e3 : cA = aC 1 := Option.some.inj (e1.symm.trans e2)
  subst e3
  exact kk q H1 hP1 hD1 hS1
/-- a final field's first and only put -/
theorem ct_putF (hexec : p.tables.exec = Jvm.exec) (hb : c.code = cc) (hts : ∀ w ∈ am_tbl, w.before args s = true) {own : String} {k ci f z : Nat} (hf : am_okf own k (ci, f, z)) {C : String} {T : u_T} {N : Nat} (hc : am_cl[ci]? = some (C, T, N)) (hfin : (T f).2.2.2 = true) (hdecl : (T f).1 = own) (hin2 : meth.name = "<init>") (hown : s.vm.findClass own = some m.cls) (hK : va_K D am_cl (am_tys aC) s) (hP : va_P D am_cl ws H) (hD : va_D A ws) (hS : va_S A H0 H locs) (q0 : Nat) {fs : List Value} (he : ws[q0]? = some (a, .inr (ci, fs))) {v : Value} (hn : narrow (am_ty ci f) v = v) (hfit : fits (am_ty ci f) v = true) (hl : f < fs.length) (hdg : decode cc pc = .ok (.putfield k, 3))
    (kk : ∀ (H1 : Heap) (locs1 : List Loc), va_P D am_cl (ws.set q0 (a, .inr (ci, fs.set f v))) H1 → va_D A (ws.set q0 (a, .inr (ci, fs.set f v))) → va_S A H0 H1 locs1 → W p l e R s m args below meth c H1 locs1 cells slots Q (F0 m (pc + 3) ls rest)) : W p l e R s m args below meth c H locs cells slots Q (F0 m pc ls (v :: .ref a :: rest)) := by
  obtain ⟨C', T', N', hc', hk', hlink, -, -⟩ := hf
  have e0 := hc.symm.trans hc'
  cases e0
  obtain ⟨hin, hty, hnm⟩ := am_cl_ok _ _ _ _ hc
  exact va_putF hexec hb hts hin (am_ty ci) hty hnm hown hK hP hD hS q0 he hc f hk' (hts _ hlink) (fun _ h => h) hfin hin2 hdecl (hty f hk') hn hfit hl hdg kk
theorem ct_put (hexec : p.tables.exec = Jvm.exec) (hb : c.code = cc) (hts : ∀ w ∈ am_tbl, w.before args s = true) {own : String} {k ci f z : Nat} (hf : am_okf own k (ci, f, z)) {C : String} {T : u_T} {N : Nat} (hc : am_cl[ci]? = some (C, T, N)) (hfin : (T f).2.2.2 = false) (hown : s.vm.findClass own = some m.cls) (hK : va_K D am_cl (am_tys aC) s) (hP : va_P D am_cl ws H) (hD : va_D A ws) (hS : va_S A H0 H locs) (q0 : Nat) {fs : List Value} (he : ws[q0]? = some (a, .inr (ci, fs))) {v : Value} (hn : narrow (am_ty ci f) v = v) (hfit : fits (am_ty ci f) v = true) (hl : f < fs.length) (hdg : decode cc pc = .ok (.putfield k, 3))
    (kk : ∀ (H1 : Heap) (locs1 : List Loc), va_P D am_cl (ws.set q0 (a, .inr (ci, fs.set f v))) H1 → va_D A (ws.set q0 (a, .inr (ci, fs.set f v))) → va_S A H0 H1 locs1 → W p l e R s m args below meth c H1 locs1 cells slots Q (F0 m (pc + 3) ls rest)) : W p l e R s m args below meth c H locs cells slots Q (F0 m pc ls (v :: .ref a :: rest)) := by
  obtain ⟨C', T', N', hc', hk', hlink, -, -⟩ := hf
  have e0 := hc.symm.trans hc'
  cases e0
  obtain ⟨hin, hty, hnm⟩ := am_cl_ok _ _ _ _ hc
  exact va_put hexec hb hts hin (am_ty ci) hty hnm hown hK hP hD hS q0 he hc f hk' (hts _ hlink) (fun _ h => h) hfin (hty f hk') hn hfit hl hdg kk
theorem ct_get (hexec : p.tables.exec = Jvm.exec) (hb : c.code = cc) (hts : ∀ w ∈ am_tbl, w.before args s = true) {own : String} {k ci f z : Nat} (hf : am_okf own k (ci, f, z)) {C : String} {T : u_T} {N : Nat} (hc : am_cl[ci]? = some (C, T, N)) (hown : s.vm.findClass own = some m.cls) (hK : va_K D am_cl (am_tys aC) s) (hP : va_P D am_cl ws H) (q0 : Nat) {fs : List Value} (he : ws[q0]? = some (a, .inr (ci, fs))) {v : Value} (hv : fs[f]? = some v) (hdg : decode cc pc = .ok (.getfield k, 3))
    (kk : W p l e R s m args below meth c H locs cells slots Q (F0 m (pc + 3) ls (v :: rest))) : W p l e R s m args below meth c H locs cells slots Q (F0 m pc ls (.ref a :: rest)) := by
  obtain ⟨C', T', N', hc', hk', hlink, -, -⟩ := hf
  have e0 := hc.symm.trans hc'
  cases e0
  obtain ⟨hin, hty, hnm⟩ := am_cl_ok _ _ _ _ hc
  exact va_get hexec hb hts hin hown hK hP q0 he hc f hk' (hts _ hlink) (fun _ h => h) hv hdg kk
theorem ct_new (hexec : p.tables.exec = Jvm.exec) (hb : c.code = cc) (hts : ∀ w ∈ am_tbl, w.before args s = true) {own C : String} {T : u_T} {N ci k : Nat} (hc : am_cl[ci]? = some (C, T, N)) (hcl : Cond.classLink own k C ∈ am_tbl) (hinst : Cond.instantiable C N ∈ am_tbl) (hini : Cond.initialized C ∈ am_tbl) (hown : s.vm.findClass own = some m.cls) (hK : va_K D am_cl (am_tys aC) s) (hP : va_P D am_cl ws H) (hD : va_D A ws) (hS : va_S A H0 H locs) (hA : ∀ q, H0.size ≤ q → A q) {fs : List Value} (hfs : ∀ j, j < N → defaultValue (am_ty ci j) = vp_V fs j) (hcells : cells + 1 ≤ R.cells) (hslots : slots + N ≤ R.slots) (hdg : decode cc pc = .ok (.new k, 3))
    (kk : ∀ (q : Nat) (H1 : Heap), va_P D am_cl (ws ++ [(q, .inr (ci, fs))]) H1 → va_D A (ws ++ [(q, .inr (ci, fs))]) → va_S A H0 H1 locs → W p l e R s m args below meth c H1 locs (cells + 1) (slots + N) Q (F0 m (pc + 3) ls (.ref q :: rest))) : W p l e R s m args below meth c H locs cells slots Q (F0 m pc ls rest) := by
  obtain ⟨hin, hty, hnm⟩ := am_cl_ok _ _ _ _ hc
  exact va_new hexec hb hts hin (am_ty ci) hty hown (hts _ hcl) (hts _ hinst) (hts _ hini) hK hP hD hS hA hc hfs hcells hslots hdg kk
theorem ct_obj (hexec : p.tables.exec = Jvm.exec) (hb : c.code = cc) (hts : ∀ w ∈ am_tbl, w.before args s = true) {own : String} {k : Nat} (hown : s.vm.findClass own = some m.cls) (hlink : Cond.methodLink own k objectInit ∈ am_tbl) (hml : c.maxLocals = ls.size) (hdg : decode cc pc = .ok (.invokespecial k, 3)) (hfr : 1 ≤ R.frames) (hlo : (rest.map fun v => v.category).sum + 12 ≤ R.locals)
    (kk : W p l e R s m args below meth c H locs cells slots Q (F0 m (pc + 3) ls rest)) : W p l e R s m args below meth c H locs cells slots Q (F0 m pc ls (.ref a :: rest)) := by
  refine W.objInit hexec hb hown (hts _ hlink) (hts _ ct_o1) (hts _ ct_o2) rfl (by rw [hml]) rfl hdg hfr ?_ kk
  show 2 * 0 + _ + 12 ≤ _
  omega
end CTR
/-- a constructor's contract: from one new object to the world that it makes (ws of the new addresses), n cells and k slots more -/
def ct_Pc (D : va_G) (aC : Nat → ClassId) (N : State → Prop) (h0 sz ci : Nat) (fs : List Value) : Array Value → State → Prop := va_Pc [.ref h0] (fun U => U.heap.size = sz ∧ va_P D am_cl [(h0, .inr (ci, fs))] U.heap ∧ va_K D am_cl (am_tys aC) U ∧ N U)
def ct_Qc (D : va_G) (h0 sz ci : Nat) (fs : List Value) (F : (Nat → Nat) → va_W) : Array Value → State → Outcome → State → Prop := fun _ st oc t => (oc = .returned none ∧ ∃ g : Nat → Nat, va_P D am_cl (F g) t.heap ∧ va_D (va_A [(h0, .inr (ci, fs))] sz) (F g)) ∧ va_F (va_A [(h0, .inr (ci, fs))] sz) st t
def ct_Met (l : Launch) (D : va_G) (aC : Nat → ClassId) (N : State → Prop) (y : MethodName) (b : ByteArray) (rm : Room) (ci : Nat) (fs : List Value) (F : Nat → (Nat → Nat) → va_W) (mc ms : Nat) : Prop := ∀ h0 sz : Nat, Met l y (Cond.code y b 1 none :: am_tbl) rm (ct_Pc D aC N h0 sz ci fs) (ct_Qc D h0 sz ci fs (F h0)) mc ms (va_A [(h0, .inr (ci, fs))] sz)
theorem ct_D1 (A : Nat → Prop) {x : Nat × va_E} (h : A x.1) : va_D A [x] := by
  refine ⟨fun i j p q hi hj _ => ?_, fun k q hk => ?_⟩
  · have h1 : i < 1 := (List.getElem?_eq_some_iff.mp hi).1
    have h2 : j < 1 := (List.getElem?_eq_some_iff.mp hj).1
    omega
  · have h1 : k < 1 := (List.getElem?_eq_some_iff.mp hk).1
    rw [show k = 0 by omega] at hk
    cases hk
    exact h
section CTC
variable {p : Program} {l : Launch} {e : Env} {R : Room} {s : State} {m : MethodId} {args : Array Value} {below : List Frame} {meth : Method} {c : Code} {H : Heap} {locs : List Loc} {cells slots : Nat} {Q : State → Prop}
theorem ct_callv {D : va_G} {q0 ci mc ms pc : Nat} {fs : List Value} {F : (Nat → Nat) → va_W} {A : Nat → Prop} {H0 : Heap} {ws wr : va_W} {ls : Array Slot} {rest st0 : List Value} {a : Array Value} {isR : List Nat} {pq : Nat}
    (hr : va_Run p l e R s m args below meth c H locs cells slots mc ms (F0 m pc ls st0) rest (ct_Qc D q0 H.size ci fs F a) (va_A [(q0, .inr (ci, fs))] H.size)) (hP : va_P D am_cl ws H) (hD : va_D A ws) (hS : va_S A H0 H locs) (hA : ∀ q, H0.size ≤ q → A q)
    (hC : [pq].map (fun i => ws[i]?) = [((q0, .inr (ci, fs)) : Nat × va_E)].map some) (hR : isR.map (fun i => ws[i]?) = wr.map some) (hn : va_nd isR = true) (hdis : ∀ i ∈ isR, i ∉ [pq])
    (kk : ∀ (g : Nat → Nat) (H1 : Heap) (locs1 : List Loc), va_P D am_cl (wr ++ F g) H1 → va_D A (wr ++ F g) → va_S A H0 H1 locs1 → W p l e R s m args below meth c H1 locs1 (cells + mc) (slots + ms) Q (F0 m (pc + 3) ls rest)) : W p l e R s m args below meth c H locs cells slots Q (F0 m pc ls st0) := by
  have hF := va_free (wc := [(q0, .inr (ci, fs))]) hD hS hA [pq] hC
  intro T hT X
  obtain ⟨w, st₀, t, T', L, h0, X', hL, e1, e2, ⟨⟨hv, g, hq2, hq3⟩, hz, hk⟩, st⟩ := hr T hT X
  cases hv
  rw [h0] at hz hk
  have hk' : ∀ q : Nat, q < H.size → ¬ va_A [((q0, .inr (ci, fs)) : Nat × va_E)] H.size q → T'.heap[q]? = H[q]? := fun q h1 h2 => by rw [e1]; exact hk q h1 h2
  obtain ⟨hP', hD'⟩ := va_join (wr := wr) (w1 := F g) hP hD [pq] isR hC hR hn hdis hk' hF (by rw [e1]; exact hq2) hq3
  obtain ⟨t2, a1, b1⟩ := kk g T'.heap (locs ++ L) hP' hD'
    ⟨Nat.le_trans hS.1 (by rw [e1]; exact hz), fun q h1 h2 => by rw [e1, hk q (Nat.lt_of_lt_of_le h1 hS.1) (fun z => h2 (hF q z))]; exact hS.2.1 q h1 h2, fun q hq => by
      rcases List.mem_append.mp hq with h | h
      · exact hS.2.2 q h
      · exact hF _ (hL q h)⟩ T' rfl X'
  exact ⟨t2, st t2 a1, b1⟩
end CTC
/-! what a constructor asks beside the tables' good words: links of nest mates, the class of arrays of arrays -/
def ct_N (aC : Nat → ClassId) (U : State) : Prop := (∀ w ∈ ct_nw, va_Nw w U) ∧ ∃ kA : Class, U.vm.classes[aC 2]? = some kA ∧ kA.kind = .array (aC 0) (.array .int)
theorem ct_N.alikeK {aC : Nat → ClassId} {u U : State} (hvm : u.vm.Alike U.vm) (h : ∃ kA : Class, u.vm.classes[aC 2]? = some kA ∧ kA.kind = .array (aC 0) (.array .int)) : ∃ kA : Class, U.vm.classes[aC 2]? = some kA ∧ kA.kind = .array (aC 0) (.array .int) := by
  obtain ⟨kA, h1, h2⟩ := h
  obtain ⟨k', hk', he⟩ := hvm.2.2 _ _ h1
  exact ⟨k', hk', by rw [he]; exact h2⟩
theorem ct_N.warm {aC : Nat → ClassId} {s U : State} (hW : s.WarmedH U.vm) (h : ct_N aC s) : ct_N aC U := by
  refine ⟨fun w hw => ?_, ct_N.alikeK hW.alike h.2⟩
  obtain ⟨a, i, x, hh, rfl⟩ := ct_nw_form w hw
  exact (h.1 _ hw).warmM hW
theorem ct_N.blind {aC : Nat → ClassId} {U : State} {g : JFrame} {mk : MethodId} {a : Array Value} (h : ct_N aC U) : ct_N aC (U.calling g mk a) := by
  refine ⟨fun w hw => ?_, ct_N.alikeK (u := U) (U := U.calling g mk a) (Vm.Alike.refl U.vm) h.2⟩
  obtain ⟨a, i, x, hh, rfl⟩ := ct_nw_form w hw
  exact (h.1 _ hw).same rfl rfl
theorem ct_blind {D : va_G} {aC : Nat → ClassId} {h0 sz ci : Nat} {fs : List Value} : FrameBlind (ct_Pc D aC (ct_N aC) h0 sz ci fs) := fun a U g mk q => by
  obtain ⟨q0, q1, qP, qK, qN⟩ := q
  exact ⟨q0, q1, qP, va_K.moved (u := U) (U := U.calling g mk a) (Vm.Alike.refl U.vm) qK, qN.blind⟩
theorem ct_good {w : Cond} (h : w ∈ am_tbl) : GoodIn am_tbl (w :: am_tbl) := fun x hx => by
  rcases List.mem_cons.mp hx with q | q
  · rw [q]; exact ⟨h, am_good h⟩
  · exact ⟨q, am_good q⟩
theorem ct_refs {rs rs' : List Nat} {f f' : Nat → Nat} (h : rs.map f = rs'.map f') : (fun k : Nat => (rs[k]?).map f) = (fun k : Nat => (rs'[k]?).map f') := by
  funext k
  rw [← List.getElem?_map, ← List.getElem?_map, h]
theorem ct_ai : Cond.arrayClass .int ∈ am_tbl := am_mem_in (p := 115) (by decide +kernel)
theorem ct_az : Cond.arrayClass .boolean ∈ am_tbl := am_mem_in (p := 116) (by decide +kernel)
