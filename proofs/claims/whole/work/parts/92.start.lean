section CTM
variable {p : Program} {l : Launch} {e : Env} {R : Room} {s : State} {m : MethodId} {args : Array Value} {below : List Frame} {meth : Method} {c : Code} {H : Heap} {locs : List Loc} {cells slots : Nat} {Q : State → Prop}
variable {cc : ByteArray} {ls : Array Slot} {D : va_G} {A : Nat → Prop} {aC : Nat → ClassId}
set_option maxHeartbeats 4000000 in
/-- new K(): three instructions in one row -/
theorem ct_make {own K : String} {T' : u_T} {N' cj kn ki pc mc ms n : Nat} {fs' : List Value} {b : ByteArray} {rm : Room} {F : Nat → (Nat → Nat) → va_W} {ws : va_W}
    (hx : p.tables.exec = Jvm.exec) (hb : c.code = cc) (hts : ∀ w ∈ am_tbl, w.before args s = true) (hown : s.vm.findClass own = some m.cls) (hml : c.maxLocals = n) (hls : ls.size = n)
    (hK : va_K D am_cl (am_tys aC) s) (hN : ct_N aC s) (hP : va_P D am_cl ws H) (hD : va_D A ws) (hS : va_S A s.heap H locs) (hA : ∀ q, s.heap.size ≤ q → A q)
    (hc' : am_cl[cj]? = some (K, T', N')) (hcl : Cond.classLink own kn K ∈ am_tbl) (hinst : Cond.instantiable K N' ∈ am_tbl) (hini : Cond.initialized K ∈ am_tbl) (hfs : ∀ j, j < N' → defaultValue (am_ty cj j) = vp_V fs' j)
    (hmet : ct_Met l D aC (ct_N aC) ⟨K, "<init>", "()V"⟩ b rm cj fs' F mc ms) (hrm : rm.cells = mc ∧ rm.slots = ms) (hcode : Cond.code (⟨K, "<init>", "()V"⟩ : MethodName) b 1 none ∈ am_tbl) (hlink : Cond.methodLink own ki ⟨K, "<init>", "()V"⟩ ∈ am_tbl) (him : Cond.instanceMethod (⟨K, "<init>", "()V"⟩ : MethodName) ∈ am_tbl) (hKn : K ≠ "java/lang/invoke/MethodHandle" ∧ K ≠ "java/lang/invoke/VarHandle")
    (hroom : rm.frames + 1 ≤ R.frames ∧ 8 + (1 + 11) + rm.locals ≤ R.locals) (hcells : cells + 1 + mc ≤ R.cells) (hslots : slots + N' + ms ≤ R.slots)
    (d1 : decode cc pc = .ok (.new kn, 3)) (d2 : decode cc (pc + 3) = .ok (.dup, 1)) (d3 : decode cc (pc + 3 + 1) = .ok (.invokespecial ki, 3))
    (kk : ∀ (q : Nat) (g : Nat → Nat) (H1 : Heap) (locs1 : List Loc), va_P D am_cl (ws ++ F q g) H1 → va_D A (ws ++ F q g) → va_S A s.heap H1 locs1 → W p l e R s m args below meth c H1 locs1 (cells + 1 + mc) (slots + N' + ms) Q (F0 m (pc + 3 + 1 + 3) ls [.ref q])) :
    W p l e R s m args below meth c H locs cells slots Q (F0 m pc ls []) := by
  refine ct_new hx hb hts hc' hcl hinst hini hown hK hP hD hS hA hfs (by omega) (by omega) d1 (fun q H1 hP hD hS => ?_)
  refine lv_dup hx hb d2 rfl ?_
  have hpl : (ws ++ [((q, .inr (cj, fs')) : Nat × va_E)])[ws.length]? = some (q, .inr (cj, fs')) := by
    rw [List.getElem?_append_right (Nat.le_refl _), Nat.sub_self]
    rfl
  have hPc : va_P D am_cl [(q, .inr (cj, fs'))] H1 := hP.sub [ws.length] (by rw [List.filterMap_cons, hpl]; rfl)
  refine ct_callv (pq := ws.length) (isR := List.range ws.length) (wr := ws) (va_runI (As := []) (rest := [.ref q]) ⟨hx, hb, hml, hown, hts⟩ (hmet q H1.size) (cwI 0 hts (ct_good hcode) rfl hrm.1 hrm.2 (hts _ hini) (hts _ hlink) (hts _ him) rfl ⟨hKn.1, hKn.2, (show (parseMethodDescriptor "()V").map (fun d => d.parameters.length) = some 0 by decide +kernel)⟩ hroom) ⟨ct_blind, fun U hU hW => ⟨rfl, by rw [hU], by rw [hU]; exact hPc, va_K.moved hW.alike hK, hN.warm hW⟩⟩ rfl rfl hls rfl (lv_room (Nat.le_of_ble_eq_true rfl)) d3 ⟨by omega, by omega⟩) hP hD hS hA (by rw [List.map_cons, hpl]; rfl) (ct_range_map _ _) (ct_nd_range _) (fun i hi h => ?_) (fun g H2 locs2 hP hD hS => ?_)
  · have h1 := List.mem_range.mp hi
    have h2 := List.mem_singleton.mp h
    omega
  exact kk q g H2 locs2 hP hD hS
end CTM
/-- the addresses of the cells, of ABOVE, of the script -/
def st_adr (q0 : Nat) (g0 : Nat → Nat) (q1 : Nat) (g1 : Nat → Nat) (t b : Nat) : Nat → Nat := fun c => bif Nat.beq c 0 then q0 else bif Nat.blt c 85 then g0 c else bif Nat.beq c 85 then q1 else bif Nat.blt c 131 then g1 (c - 85) else bif Nat.beq c 1000 then t else b
section ADR
variable (aC : Nat → ClassId) (q0 : Nat) (g0 : Nat → Nat) (q1 : Nat) (g1 : Nat → Nat) (t b : Nat)
theorem sa_F3 : ct_F3 aC ((st_adr q0 g0 q1 g1 t b) 1) (fun i => (st_adr q0 g0 q1 g1 t b) (1 + i)) = ct_F3 aC (g0 1) (fun i => g0 (1 + i)) := rfl
theorem sa_F5 : ct_F5 aC ((st_adr q0 g0 q1 g1 t b) 13) (fun i => (st_adr q0 g0 q1 g1 t b) (13 + i)) = ct_F5 aC (g0 13) (fun i => g0 (13 + i)) := rfl
theorem sa_F2 : ct_F2 aC ((st_adr q0 g0 q1 g1 t b) 21) (fun i => (st_adr q0 g0 q1 g1 t b) (21 + i)) = ct_F2 aC (g0 21) (fun i => g0 (21 + i)) := rfl
theorem sa_F1 : ct_F1 aC ((st_adr q0 g0 q1 g1 t b) 34) (fun i => (st_adr q0 g0 q1 g1 t b) (34 + i)) = ct_F1 aC (g0 34) (fun i => g0 (34 + i)) := rfl
theorem sa_F4 : ct_F4 aC ((st_adr q0 g0 q1 g1 t b) 41) (fun i => (st_adr q0 g0 q1 g1 t b) (41 + i)) = ct_F4 aC (g0 41) (fun i => g0 (41 + i)) := rfl
theorem sa_F9 : ct_F9 aC ((st_adr q0 g0 q1 g1 t b) 47) (fun i => (st_adr q0 g0 q1 g1 t b) (47 + i)) = ct_F9 aC (g0 47) (fun i => g0 (47 + i)) := rfl
theorem sa_F0 : ct_F0 aC ((st_adr q0 g0 q1 g1 t b) 73) (fun i => (st_adr q0 g0 q1 g1 t b) (73 + i)) = ct_F0 aC (g0 73) (fun i => g0 (73 + i)) := rfl
theorem sa_F6 : ct_F6 aC ((st_adr q0 g0 q1 g1 t b) 78) (fun i => (st_adr q0 g0 q1 g1 t b) (78 + i)) = ct_F6 aC (g0 78) (fun i => g0 (78 + i)) := rfl
theorem sa_F8 : ct_F8 aC ((st_adr q0 g0 q1 g1 t b) 48) (fun i => (st_adr q0 g0 q1 g1 t b) (48 + i)) = ct_F8 aC (g0 48) (fun i => g0 (48 + i)) := by
  unfold ct_F8
  rw [ct_refs (rs := [4, 5, 6, 7, 8, 9, 10, 11, 12, 13]) (f := fun i => (st_adr q0 g0 q1 g1 t b) (48 + i)) (rs' := [4, 5, 6, 7, 8, 9, 10, 11, 12, 13]) (f' := fun i => g0 (48 + i)) rfl, ct_refs (rs := [15, 16, 17, 18, 19, 20, 21, 22, 23, 24]) (f := fun i => (st_adr q0 g0 q1 g1 t b) (48 + i)) (rs' := [15, 16, 17, 18, 19, 20, 21, 22, 23, 24]) (f' := fun i => g0 (48 + i)) rfl]
  rfl
theorem sa_u1 : (st_adr q0 g0 q1 g1 t b) 1 = g0 1 := rfl
theorem sa_u13 : (st_adr q0 g0 q1 g1 t b) 13 = g0 13 := rfl
theorem sa_u21 : (st_adr q0 g0 q1 g1 t b) 21 = g0 21 := rfl
theorem sa_u34 : (st_adr q0 g0 q1 g1 t b) 34 = g0 34 := rfl
theorem sa_u41 : (st_adr q0 g0 q1 g1 t b) 41 = g0 41 := rfl
theorem sa_u47 : (st_adr q0 g0 q1 g1 t b) 47 = g0 47 := rfl
theorem sa_u48 : (st_adr q0 g0 q1 g1 t b) 48 = g0 48 := rfl
theorem sa_u73 : (st_adr q0 g0 q1 g1 t b) 73 = g0 73 := rfl
theorem sa_u78 : (st_adr q0 g0 q1 g1 t b) 78 = g0 78 := rfl
theorem sa_u83 : (st_adr q0 g0 q1 g1 t b) 83 = g0 83 := rfl
theorem sa_u84 : (st_adr q0 g0 q1 g1 t b) 84 = g0 84 := rfl
theorem sa_F10 : ct_F10 aC ((st_adr q0 g0 q1 g1 t b) 0) (st_adr q0 g0 q1 g1 t b) = ct_F10 aC q0 g0 := by
  unfold ct_F10
  rw [sa_F3, sa_F5, sa_F2, sa_F1, sa_F4, sa_F9, sa_F8, sa_F0, sa_F6, sa_u1, sa_u13, sa_u21, sa_u34, sa_u41, sa_u47, sa_u48, sa_u73, sa_u78, sa_u83, sa_u84]
  rfl
set_option maxRecDepth 100000 in
theorem sa_X0 : ct_X0 ((st_adr q0 g0 q1 g1 t b) 85) (fun i => (st_adr q0 g0 q1 g1 t b) (85 + i)) = ct_X0 q1 g1 := rfl
theorem sa_X1 : ct_X1 aC (fun i => (st_adr q0 g0 q1 g1 t b) (85 + i)) = ct_X1 aC g1 := rfl
theorem sa_X2 : ct_X2 aC (fun i => (st_adr q0 g0 q1 g1 t b) (85 + i)) = ct_X2 aC g1 := rfl
theorem sa_X3 : ct_X3 aC (fun i => (st_adr q0 g0 q1 g1 t b) (85 + i)) = ct_X3 aC g1 := rfl
theorem sa_X4 : ct_X4 aC (fun i => (st_adr q0 g0 q1 g1 t b) (85 + i)) = ct_X4 aC g1 := rfl
theorem sa_X5 : ct_X5 aC (fun i => (st_adr q0 g0 q1 g1 t b) (85 + i)) = ct_X5 aC g1 := rfl
theorem sa_F11 : ct_F11 aC ((st_adr q0 g0 q1 g1 t b) 85) (fun i => (st_adr q0 g0 q1 g1 t b) (85 + i)) = ct_F11 aC q1 g1 := by
  rw [ct_F11_flat, ct_F11_flat, sa_X0, sa_X1, sa_X2, sa_X3, sa_X4, sa_X5]
theorem sa_all : ct_F10 aC q0 g0 ++ ct_F11 aC q1 g1 = am_W aC (st_adr q0 g0 q1 g1 t b) am_sh s0 := by
  rw [← st_F10, sa_F10, sa_F11]
end ADR
theorem d_law_0 : decode code 0 = .ok (.new 7, 3) := by decide +kernel
theorem d_law_3 : decode code 3 = .ok (.dup, 1) := by decide +kernel
theorem d_law_4 : decode code 4 = .ok (.invokespecial 9, 3) := by decide +kernel
theorem d_law_7 : decode code 7 = .ok (.astore_n 1, 1) := by decide +kernel
theorem d_law_8 : decode code 8 = .ok (.new 10, 3) := by decide +kernel
theorem d_law_11 : decode code 11 = .ok (.dup, 1) := by decide +kernel
theorem d_law_12 : decode code 12 = .ok (.invokespecial 12, 3) := by decide +kernel
theorem d_law_15 : decode code 15 = .ok (.astore_n 2, 1) := by decide +kernel
theorem st_len : am_sh.length = 131 := by decide +kernel
set_option maxHeartbeats 4000000 in
set_option maxRecDepth 100000 in
theorem whole_start {p : Program} {e : Env} {s : State} {m : MethodId} {below : List Frame} {meth : Method} {c : Code} (l : Launch) {b L : Nat} {xs : Nat → Int32} (hL : L ≤ 2560) (C0 : lw_At p s m meth c b L xs) : W p l e room_1 s m #[Value.ref b] below meth c s.heap [] 0 0 (lw_Z below #[Value.ref b] s) (entryFrame m ([Value.ref b] : List Value).toArray 4) := by
  obtain ⟨hx, hb, hr, hml, hown, hts0, hX, hbl, hlocks, hgv⟩ := id C0
  have hts : ∀ w ∈ am_tbl, w.before #[Value.ref b] s = true := fun w hw => hts0 w (List.mem_filter.mp hw).1
  obtain ⟨D, aC, hK, hN⟩ := st_K hts0
  obtain ⟨t, hE⟩ := st_EX hts0 hgv hX hbl
  obtain ⟨A, hAe⟩ : ∃ A : Nat → Prop, A = fun q : Nat => s.heap.size ≤ q := ⟨_, rfl⟩
  have hA : ∀ q : Nat, s.heap.size ≤ q → A q := fun q h => by rw [hAe]; exact h
  have hAn : ∀ q : Nat, A q → s.heap.size ≤ q := fun q h => by rw [hAe] at h; exact h
  have hS : va_S A s.heap s.heap [] := va_S.rf
  have hP : va_P D am_cl [] s.heap := fun k q h => by simp at h
  have hD : va_D A [] := ⟨fun i j p q h => by simp at h, fun k q h => by simp at h⟩
  have hl := lv_entry ([.ref b]) (n := 4) (Nat.le_of_ble_eq_true rfl)
  rw [lg_entry_eq]
  generalize (lg_sl ([.ref b]) ++ List.replicate (4 - (lg_sl ([.ref b])).length) Slot.unset).toArray = ls at hl ⊢
  have hl : lv_has ls 4 [(0, .ref b)] := hl
  refine ct_make (own := "PartedLandLaw") (K := "PartedLand") (T' := TX10) (N' := 13) (cj := 10) (fs' := [.null, .null, .null, .null, .null, .null, .null, .null, .null, .null, .null, .int 0, .int 0]) hx hb hts hown hml hl.1 hK hN hP hD hS hA rfl (am_mem_in (p := 51) (by decide +kernel)) (am_mem_in (p := 52) (by decide +kernel)) (am_mem_in (p := 35) (by decide +kernel)) (by decide +kernel) (ct_10 l D aC) ⟨rfl, rfl⟩ (am_mem_in (p := 55) (by decide +kernel)) (am_mem_in (p := 53) (by decide +kernel)) (am_mem_in (p := 54) (by decide +kernel)) (by decide +kernel) ⟨(Nat.le_of_ble_eq_true rfl), (Nat.le_of_ble_eq_true rfl)⟩ (Nat.le_of_ble_eq_true rfl) (Nat.le_of_ble_eq_true rfl) d_law_0 d_law_3 d_law_4 (fun q0 g0 H locs hP hD hS => ?_)
  refine lv_astore_n (lv' := [(1, .ref q0), (0, .ref b)]) hx hb d_law_7 rfl hl (by decide) rfl (fun ls hl => ?_)
  have hP : va_P D am_cl (ct_F10 aC q0 g0) H := hP
  have hD : va_D A (ct_F10 aC q0 g0) := hD
  refine ct_make (own := "PartedLandLaw") (K := "PartedLandModel") (T' := TX11) (N' := 67) (cj := 11) (fs' := [.int 0, .int 0, .null, .null, .null, .int 0, .null, .null, .null, .null, .int 0, .null, .null, .null, .int 0, .null, .null, .null, .null, .null, .null, .null, .int 0, .null, .null, .int 0, .int 0, .null, .null, .null, .null, .int 0, .null, .null, .null, .int 0, .int 0, .int 0, .null, .null, .null, .null, .int 0, .null, .null, .null, .null, .int 0, .null, .null, .int 0, .null, .null, .null, .null, .int 0, .int 0, .int 0, .int 0, .int 0, .int 0, .null, .null, .null, .int 0, .null, .null]) hx hb hts hown hml hl.1 hK hN hP hD hS hA rfl (am_mem_in (p := 1068) (by decide +kernel)) (am_mem_in (p := 1069) (by decide +kernel)) (am_mem_in (p := 46) (by decide +kernel)) (by decide +kernel) (ct_11 l D aC) ⟨rfl, rfl⟩ (am_mem_in (p := 1072) (by decide +kernel)) (am_mem_in (p := 1070) (by decide +kernel)) (am_mem_in (p := 1071) (by decide +kernel)) (by decide +kernel) ⟨(Nat.le_of_ble_eq_true rfl), (Nat.le_of_ble_eq_true rfl)⟩ (Nat.le_of_ble_eq_true rfl) (Nat.le_of_ble_eq_true rfl) d_law_8 d_law_11 d_law_12 (fun q1 g1 H locs hP hD hS => ?_)
  refine lv_astore_n (lv' := [(2, .ref q1), (1, .ref q0), (0, .ref b)]) hx hb d_law_15 rfl hl (by decide) rfl (fun ls hl => ?_)
  rw [sa_all aC q0 g0 q1 g1 t b] at hP hD
  have a0 : st_adr q0 g0 q1 g1 t b 0 = q0 := rfl
  have a1 : st_adr q0 g0 q1 g1 t b 85 = q1 := rfl
  have a2 : st_adr q0 g0 q1 g1 t b 1000 = t := rfl
  have a3 : st_adr q0 g0 q1 g1 t b 1001 = b := rfl
  generalize st_adr q0 g0 q1 g1 t b = adr at hP hD a0 a1 a2 a3
  have hat : ∀ i, i < am_sh.length → ∃ x, (am_W aC adr am_sh s0)[i]? = some (adr i, x) := fun i hi => ⟨_, am_W_at (List.getElem?_eq_getElem hi)⟩
  have hinj : ∀ i j, i < am_sh.length → j < am_sh.length → adr i = adr j → i = j := fun i j hi hj h => by
    obtain ⟨x, hx⟩ := hat i hi
    obtain ⟨y, hy⟩ := hat j hj
    exact hD.1 i j _ _ hx hy h
  have hAA : ∀ q, am_A adr am_sh q → s.heap.size ≤ q := fun q ⟨i, hi, h⟩ => by
    obtain ⟨x, hx⟩ := hat i hi
    rw [← h]
    exact hAn _ (hD.2 i _ hx)
  have hE1 := hE adr (am_A adr am_sh) a2 a3 hAA
  obtain ⟨s', hrun⟩ := lw_s0 (N := 20000) (X := L) (xs := xs) (Nat.le_refl _) hL
  obtain ⟨n, hrun⟩ := fx_law_1001_0_85_e (d := 1) hrun
  refine va_forget (fun q hq => hAn _ (hS.2.2 q hq)) ?_
  have hl : lv_has ls 4 [(0, .ref (adr 1001)), (1, .ref (adr 0)), (2, .ref (adr 85))] := by
    rw [a0, a1, a3]
    exact lv_sub hl [2, 1, 0] rfl
  refine am_sound (P := am_P) (aC := aC) (adr := adr) (D := D) (l := l) am_P_ok n 8 mm_219 16 [.ref 1001, .ref 0, .ref 85, .null] [] s0 (some (.int 1)) s' mo_219 hrun p e room_1 s m #[Value.ref b] below meth c H [] _ _ _ ls ⟨hx, hb, hml, hown, hts, hK, hE1, hinj⟩ ⟨by decide, by decide⟩ ⟨(Nat.le_of_ble_eq_true rfl), (Nat.le_of_ble_eq_true rfl)⟩ hP ⟨hS.1, fun q h1 h2 => hS.2.1 q h1 (fun z => absurd (hAn q z) (Nat.not_le.mpr h1)), fun q hq => by cases hq⟩ hl rfl (fun pc' i ls' H' locs' hdg hend hP' hS' => ?_)
  rcases hend with ⟨x, hv, rfl, -⟩ | ⟨hv, -⟩ | ⟨x, nm, hv, -⟩
  · refine va_forget (fun q hq => hAA _ (hS'.2.2 q hq)) ?_
    refine W.widen (k := 600000) (n := 7302250) (Nat.le_of_ble_eq_true rfl) (Nat.le_of_ble_eq_true rfl) ?_
    exact lw_ret hx hb hr hlocks hdg
  · cases hv
  · cases hv
