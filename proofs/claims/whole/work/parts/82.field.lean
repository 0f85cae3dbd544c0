/-! ===== this.f = new K(): five instructions in one row; the world behind 'this' is a list that isn't looked into ===== -/
theorem ct_nd_range : ∀ n : Nat, va_nd (List.range n) = true := by
  have key : ∀ l : List Nat, l.Nodup → va_nd l = true := by
    intro l
    induction l with
    | nil => intro _; rfl
    | cons a l ih =>
      intro h
      rw [List.nodup_cons] at h
      simp only [va_nd, Bool.and_eq_true, decide_eq_true_eq]
      exact ⟨h.1, ih h.2⟩
  exact fun n => key _ List.nodup_range
theorem ct_range_map {α : Type} (ws : List α) (x : List α) : (List.range ws.length).map (fun i => (ws ++ x)[i]?) = ws.map some := by
  apply List.ext_getElem?
  intro i
  rw [List.getElem?_map, List.getElem?_map]
  by_cases h : i < ws.length
  · rw [List.getElem?_range h, Option.map_some, List.getElem?_append_left h, List.getElem?_eq_getElem h]
    rfl
  · rw [List.getElem?_eq_none (by rw [List.length_range]; omega), List.getElem?_eq_none (by omega)]
    rfl
section CTF
variable {p : Program} {l : Launch} {e : Env} {R : Room} {s : State} {m : MethodId} {args : Array Value} {below : List Frame} {meth : Method} {c : Code} {H : Heap} {locs : List Loc} {cells slots : Nat} {Q : State → Prop}
variable {cc : ByteArray} {ls : Array Slot} {D : va_G} {A : Nat → Prop} {aC : Nat → ClassId}
set_option maxHeartbeats 4000000 in
theorem ct_field {own K host : String} {T T' : u_T} {N N' ci cj f kn ki kp pc mc ms : Nat} {fs fs' : List Value} {b : ByteArray} {rm : Room} {F : Nat → (Nat → Nat) → va_W} {B : va_W} {h0 : Nat}
    (hx : p.tables.exec = Jvm.exec) (hb : c.code = cc) (hts : ∀ w ∈ am_tbl, w.before args s = true) (hown : s.vm.findClass own = some m.cls) (hml : c.maxLocals = 1) (hl : lv_has ls 1 [(0, .ref h0)]) (hin : meth.name = "<init>")
    (hK : va_K D am_cl (am_tys aC) s) (hN : ct_N aC s) (hP : va_P D am_cl ((h0, .inr (ci, fs)) :: B) H) (hD : va_D A ((h0, .inr (ci, fs)) :: B)) (hS : va_S A s.heap H locs) (hA : ∀ q, s.heap.size ≤ q → A q)
    (hc : am_cl[ci]? = some (own, T, N)) (hc' : am_cl[cj]? = some (K, T', N')) (hcl : Cond.classLink own kn K ∈ am_tbl) (hinst : Cond.instantiable K N' ∈ am_tbl) (hini : Cond.initialized K ∈ am_tbl) (hfs : ∀ j, j < N' → defaultValue (am_ty cj j) = vp_V fs' j)
    (hmet : ct_Met l D aC (ct_N aC) ⟨K, "<init>", "()V"⟩ b rm cj fs' F mc ms) (hrm : rm.cells = mc ∧ rm.slots = ms) (hcode : Cond.code (⟨K, "<init>", "()V"⟩ : MethodName) b 1 none ∈ am_tbl) (hnest : Cond.methodLinkNest own ki ⟨K, "<init>", "()V"⟩ host ∈ ct_nw) (him : Cond.instanceMethod (⟨K, "<init>", "()V"⟩ : MethodName) ∈ am_tbl) (hKn : K ≠ "java/lang/invoke/MethodHandle" ∧ K ≠ "java/lang/invoke/VarHandle")
    (hf : am_okf own kp (ci, f, 2)) (hfin : (T f).2.2.2 = true) (hdecl : (T f).1 = own) (hn : ∀ q, narrow (am_ty ci f) (.ref q) = .ref q) (hfit : ∀ q, fits (am_ty ci f) (.ref q) = true) (hlf : f < fs.length)
    (hroom : rm.frames + 1 ≤ R.frames ∧ 8 + (1 + 11) + rm.locals ≤ R.locals) (hcells : cells + 1 + mc ≤ R.cells) (hslots : slots + N' + ms ≤ R.slots)
    (d0 : decode cc pc = .ok (.aload_n 0, 1)) (d1 : decode cc (pc + 1) = .ok (.new kn, 3)) (d2 : decode cc (pc + 1 + 3) = .ok (.dup, 1)) (d3 : decode cc (pc + 1 + 3 + 1) = .ok (.invokespecial ki, 3)) (d4 : decode cc (pc + 1 + 3 + 1 + 3) = .ok (.putfield kp, 3))
    (kk : ∀ (q : Nat) (g : Nat → Nat) (H1 : Heap) (locs1 : List Loc), va_P D am_cl ((h0, .inr (ci, fs.set f (.ref q))) :: (B ++ F q g)) H1 → va_D A ((h0, .inr (ci, fs.set f (.ref q))) :: (B ++ F q g)) → va_S A s.heap H1 locs1 → W p l e R s m args below meth c H1 locs1 (cells + 1 + mc) (slots + N' + ms) Q (F0 m (pc + 1 + 3 + 1 + 3 + 3) ls [])) :
    W p l e R s m args below meth c H locs cells slots Q (F0 m pc ls []) := by
  refine lv_aload_n hx hb d0 rfl (lv_at hl 0 rfl) ?_
  refine ct_new hx hb hts hc' hcl hinst hini hown hK hP hD hS hA hfs (by omega) (by omega) d1 (fun q H1 hP hD hS => ?_)
  refine lv_dup hx hb d2 rfl ?_
  have hpl : (((h0, .inr (ci, fs)) :: B) ++ [((q, .inr (cj, fs')) : Nat × va_E)])[((h0, .inr (ci, fs)) :: B : va_W).length]? = some (q, .inr (cj, fs')) := by
    rw [List.getElem?_append_right (Nat.le_refl _), Nat.sub_self]
    rfl
  have hPc : va_P D am_cl [(q, .inr (cj, fs'))] H1 := hP.sub [((h0, .inr (ci, fs)) :: B : va_W).length] (by rw [List.filterMap_cons, hpl]; rfl)
  refine ct_callv (pq := ((h0, .inr (ci, fs)) :: B : va_W).length) (isR := List.range ((h0, .inr (ci, fs)) :: B : va_W).length) (wr := (h0, .inr (ci, fs)) :: B) (va_runIN (host := host) (As := []) (rest := [.ref q, .ref h0]) ⟨hx, hb, hml, hown, hts⟩ (hmet q H1.size) ⟨va_cnB 0 hts (ct_good hcode) rfl hrm.1 hrm.2 (hN.1 _ hnest) (hts _ hini) ⟨hKn.1, hKn.2, (show (parseMethodDescriptor "()V").map (fun d => d.parameters.length) = some 0 by decide +kernel)⟩ hroom, rfl, hts _ him⟩ ⟨ct_blind, fun U hU hW => ⟨rfl, by rw [hU], by rw [hU]; exact hPc, va_K.moved hW.alike hK, hN.warm hW⟩⟩ rfl rfl hl.1 rfl (lv_room (Nat.le_of_ble_eq_true rfl)) d3 ⟨by omega, by omega⟩) hP hD hS hA (by rw [List.map_cons, hpl]; rfl) (ct_range_map _ _) (ct_nd_range _) (fun i hi h => ?_) (fun g H2 locs2 hP hD hS => ?_)
  · have h1 := List.mem_range.mp hi
    have h2 := List.mem_singleton.mp h
    omega
  refine ct_putF (v := .ref q) hx hb hts hf hc hfin hdecl hin hown hK hP hD hS 0 (show (((h0, .inr (ci, fs)) :: B) ++ F q g)[0]? = some (h0, .inr (ci, fs)) from rfl) (hn q) (hfit q) hlf d4 (fun H3 locs3 hP hD hS => ?_)
  exact kk q g H3 locs3 hP hD hS
/-- this.f = a, where a is a new row: newarray came before -/
theorem ct_putL {own : String} {T : u_T} {N ci f kp pc q : Nat} {fs : List Value} {B : va_W} {h0 : Nat}
    (hx : p.tables.exec = Jvm.exec) (hb : c.code = cc) (hts : ∀ w ∈ am_tbl, w.before args s = true) (hown : s.vm.findClass own = some m.cls) (hin : meth.name = "<init>")
    (hK : va_K D am_cl (am_tys aC) s) (hP : va_P D am_cl ((h0, .inr (ci, fs)) :: B) H) (hD : va_D A ((h0, .inr (ci, fs)) :: B)) (hS : va_S A s.heap H locs) (hc : am_cl[ci]? = some (own, T, N)) (hf : am_okf own kp (ci, f, 2)) (hfin : (T f).2.2.2 = true) (hdecl : (T f).1 = own) (hn : narrow (am_ty ci f) (.ref q) = .ref q) (hfit : fits (am_ty ci f) (.ref q) = true) (hlf : f < fs.length) (d4 : decode cc pc = .ok (.putfield kp, 3))
    (kk : ∀ (H1 : Heap) (locs1 : List Loc), va_P D am_cl ((h0, .inr (ci, fs.set f (.ref q))) :: B) H1 → va_D A ((h0, .inr (ci, fs.set f (.ref q))) :: B) → va_S A s.heap H1 locs1 → W p l e R s m args below meth c H1 locs1 cells slots Q (F0 m (pc + 3) ls [])) :
    W p l e R s m args below meth c H locs cells slots Q (F0 m pc ls [.ref q, .ref h0]) :=
  ct_putF (v := .ref q) hx hb hts hf hc hfin hdecl hin hown hK hP hD hS 0 rfl hn hfit hlf d4 kk
theorem ct_putI {own : String} {T : u_T} {N ci f kp pc z : Nat} {fs : List Value} {B : va_W} {h0 : Nat} {x : Int32}
    (hx : p.tables.exec = Jvm.exec) (hb : c.code = cc) (hts : ∀ w ∈ am_tbl, w.before args s = true) (hown : s.vm.findClass own = some m.cls)
    (hK : va_K D am_cl (am_tys aC) s) (hP : va_P D am_cl ((h0, .inr (ci, fs)) :: B) H) (hD : va_D A ((h0, .inr (ci, fs)) :: B)) (hS : va_S A s.heap H locs) (hc : am_cl[ci]? = some (own, T, N)) (hf : am_okf own kp (ci, f, z)) (hfin : (T f).2.2.2 = false) (hn : narrow (am_ty ci f) (.int x) = .int x) (hfit : fits (am_ty ci f) (.int x) = true) (hlf : f < fs.length) (d4 : decode cc pc = .ok (.putfield kp, 3))
    (kk : ∀ (H1 : Heap) (locs1 : List Loc), va_P D am_cl ((h0, .inr (ci, fs.set f (.int x))) :: B) H1 → va_D A ((h0, .inr (ci, fs.set f (.int x))) :: B) → va_S A s.heap H1 locs1 → W p l e R s m args below meth c H1 locs1 cells slots Q (F0 m (pc + 3) ls [])) :
    W p l e R s m args below meth c H locs cells slots Q (F0 m pc ls [.int x, .ref h0]) :=
  ct_put (v := .int x) hx hb hts hf hc hfin hown hK hP hD hS 0 rfl hn hfit hlf d4 kk
/-- a place of the newest row -/
theorem ct_iastL {pc n q : Nat} {f : Nat → Int32} {x i : Int32} {ws : va_W} {rest : List Value} {H0 : Heap}
    (hx : p.tables.exec = Jvm.exec) (hb : c.code = cc) (hK : va_K D am_cl (am_tys aC) s) (hP : va_P D am_cl (ws ++ [(q, .inl (aC 0, n, .inl f))]) H) (hD : va_D A (ws ++ [(q, .inl (aC 0, n, .inl f))])) (hS : va_S A H0 H locs) (hi : vp_in i n) (hdg : decode cc pc = .ok (.iastore, 1))
    (kk : ∀ (H1 : Heap) (locs1 : List Loc), va_P D am_cl (ws ++ [(q, .inl (aC 0, n, .inl (upd f i.toNatClampNeg x)))]) H1 → va_D A (ws ++ [(q, .inl (aC 0, n, .inl (upd f i.toNatClampNeg x)))]) → va_S A H0 H1 locs1 → W p l e R s m args below meth c H1 locs1 cells slots Q (F0 m (pc + 1) ls rest)) :
    W p l e R s m args below meth c H locs cells slots Q (F0 m pc ls (.int x :: .int i :: .ref q :: rest)) := by
  have hpl : (ws ++ [((q, .inl (aC 0, n, .inl f)) : Nat × va_E)])[ws.length]? = some (q, .inl (aC 0, n, .inl f)) := by
    rw [List.getElem?_append_right (Nat.le_refl _), Nat.sub_self]
    rfl
  refine va_iast hx hb hK hP hD hS ws.length 0 hpl rfl hi hdg (fun H1 locs1 hP1 hD1 hS1 => ?_)
  rw [List.set_append_right _ _ (Nat.le_refl _), Nat.sub_self] at hP1 hD1
  exact kk H1 locs1 hP1 hD1 hS1
end CTF
