theorem dk_10_0 : decode prog_1_method_1_code 0 = .ok (.aload_n 0, 1) := by decide +kernel
theorem dk_10_1 : decode prog_1_method_1_code 1 = .ok (.invokespecial 3, 3) := by decide +kernel
theorem dk_10_4 : decode prog_1_method_1_code 4 = .ok (.aload_n 0, 1) := by decide +kernel
theorem dk_10_5 : decode prog_1_method_1_code 5 = .ok (.new 9, 3) := by decide +kernel
theorem dk_10_8 : decode prog_1_method_1_code 8 = .ok (.dup, 1) := by decide +kernel
theorem dk_10_9 : decode prog_1_method_1_code 9 = .ok (.invokespecial 11, 3) := by decide +kernel
theorem dk_10_12 : decode prog_1_method_1_code 12 = .ok (.putfield 12, 3) := by decide +kernel
theorem dk_10_15 : decode prog_1_method_1_code 15 = .ok (.aload_n 0, 1) := by decide +kernel
theorem dk_10_16 : decode prog_1_method_1_code 16 = .ok (.new 16, 3) := by decide +kernel
theorem dk_10_19 : decode prog_1_method_1_code 19 = .ok (.dup, 1) := by decide +kernel
theorem dk_10_20 : decode prog_1_method_1_code 20 = .ok (.invokespecial 18, 3) := by decide +kernel
theorem dk_10_23 : decode prog_1_method_1_code 23 = .ok (.putfield 19, 3) := by decide +kernel
theorem dk_10_26 : decode prog_1_method_1_code 26 = .ok (.aload_n 0, 1) := by decide +kernel
theorem dk_10_27 : decode prog_1_method_1_code 27 = .ok (.new 23, 3) := by decide +kernel
theorem dk_10_30 : decode prog_1_method_1_code 30 = .ok (.dup, 1) := by decide +kernel
theorem dk_10_31 : decode prog_1_method_1_code 31 = .ok (.invokespecial 25, 3) := by decide +kernel
theorem dk_10_34 : decode prog_1_method_1_code 34 = .ok (.putfield 26, 3) := by decide +kernel
theorem dk_10_37 : decode prog_1_method_1_code 37 = .ok (.aload_n 0, 1) := by decide +kernel
theorem dk_10_38 : decode prog_1_method_1_code 38 = .ok (.new 30, 3) := by decide +kernel
theorem dk_10_41 : decode prog_1_method_1_code 41 = .ok (.dup, 1) := by decide +kernel
theorem dk_10_42 : decode prog_1_method_1_code 42 = .ok (.invokespecial 32, 3) := by decide +kernel
theorem dk_10_45 : decode prog_1_method_1_code 45 = .ok (.putfield 33, 3) := by decide +kernel
theorem dk_10_48 : decode prog_1_method_1_code 48 = .ok (.aload_n 0, 1) := by decide +kernel
theorem dk_10_49 : decode prog_1_method_1_code 49 = .ok (.new 37, 3) := by decide +kernel
theorem dk_10_52 : decode prog_1_method_1_code 52 = .ok (.dup, 1) := by decide +kernel
theorem dk_10_53 : decode prog_1_method_1_code 53 = .ok (.invokespecial 39, 3) := by decide +kernel
theorem dk_10_56 : decode prog_1_method_1_code 56 = .ok (.putfield 40, 3) := by decide +kernel
theorem dk_10_59 : decode prog_1_method_1_code 59 = .ok (.aload_n 0, 1) := by decide +kernel
theorem dk_10_60 : decode prog_1_method_1_code 60 = .ok (.new 44, 3) := by decide +kernel
theorem dk_10_63 : decode prog_1_method_1_code 63 = .ok (.dup, 1) := by decide +kernel
theorem dk_10_64 : decode prog_1_method_1_code 64 = .ok (.invokespecial 46, 3) := by decide +kernel
theorem dk_10_67 : decode prog_1_method_1_code 67 = .ok (.putfield 47, 3) := by decide +kernel
theorem dk_10_70 : decode prog_1_method_1_code 70 = .ok (.aload_n 0, 1) := by decide +kernel
theorem dk_10_71 : decode prog_1_method_1_code 71 = .ok (.new 51, 3) := by decide +kernel
theorem dk_10_74 : decode prog_1_method_1_code 74 = .ok (.dup, 1) := by decide +kernel
theorem dk_10_75 : decode prog_1_method_1_code 75 = .ok (.invokespecial 53, 3) := by decide +kernel
theorem dk_10_78 : decode prog_1_method_1_code 78 = .ok (.putfield 54, 3) := by decide +kernel
theorem dk_10_81 : decode prog_1_method_1_code 81 = .ok (.aload_n 0, 1) := by decide +kernel
theorem dk_10_82 : decode prog_1_method_1_code 82 = .ok (.new 58, 3) := by decide +kernel
theorem dk_10_85 : decode prog_1_method_1_code 85 = .ok (.dup, 1) := by decide +kernel
theorem dk_10_86 : decode prog_1_method_1_code 86 = .ok (.invokespecial 60, 3) := by decide +kernel
theorem dk_10_89 : decode prog_1_method_1_code 89 = .ok (.putfield 61, 3) := by decide +kernel
theorem dk_10_92 : decode prog_1_method_1_code 92 = .ok (.aload_n 0, 1) := by decide +kernel
theorem dk_10_93 : decode prog_1_method_1_code 93 = .ok (.new 65, 3) := by decide +kernel
theorem dk_10_96 : decode prog_1_method_1_code 96 = .ok (.dup, 1) := by decide +kernel
theorem dk_10_97 : decode prog_1_method_1_code 97 = .ok (.invokespecial 67, 3) := by decide +kernel
theorem dk_10_100 : decode prog_1_method_1_code 100 = .ok (.putfield 68, 3) := by decide +kernel
theorem dk_10_103 : decode prog_1_method_1_code 103 = .ok (.aload_n 0, 1) := by decide +kernel
theorem dk_10_104 : decode prog_1_method_1_code 104 = .ok (.bipush 6, 2) := by decide +kernel
theorem dk_10_106 : decode prog_1_method_1_code 106 = .ok (.newarray .int, 2) := by decide +kernel
theorem dk_10_108 : decode prog_1_method_1_code 108 = .ok (.putfield 72, 3) := by decide +kernel
theorem dk_10_111 : decode prog_1_method_1_code 111 = .ok (.aload_n 0, 1) := by decide +kernel
theorem dk_10_112 : decode prog_1_method_1_code 112 = .ok (.bipush 16, 2) := by decide +kernel
theorem dk_10_114 : decode prog_1_method_1_code 114 = .ok (.newarray .int, 2) := by decide +kernel
theorem dk_10_116 : decode prog_1_method_1_code 116 = .ok (.putfield 76, 3) := by decide +kernel
theorem dk_10_119 : decode prog_1_method_1_code 119 = .ok (.aload_n 0, 1) := by decide +kernel
theorem dk_10_120 : decode prog_1_method_1_code 120 = .ok (.iconst 0, 1) := by decide +kernel
theorem dk_10_121 : decode prog_1_method_1_code 121 = .ok (.putfield 79, 3) := by decide +kernel
theorem dk_10_124 : decode prog_1_method_1_code 124 = .ok (.aload_n 0, 1) := by decide +kernel
theorem dk_10_125 : decode prog_1_method_1_code 125 = .ok (.iconst 0, 1) := by decide +kernel
theorem dk_10_126 : decode prog_1_method_1_code 126 = .ok (.putfield 83, 3) := by decide +kernel
theorem dk_10_129 : decode prog_1_method_1_code 129 = .ok (.return_, 1) := by decide +kernel
def ct_F10 (aC : Nat → ClassId) (h0 : Nat) (g : Nat → Nat) : va_W := (h0, .inr (10, [.ref (g 1), .ref (g 13), .ref (g 21), .ref (g 34), .ref (g 41), .ref (g 47), .ref (g 48), .ref (g 73), .ref (g 78), .ref (g 83), .ref (g 84), .int (0 : Int32), .int (0 : Int32)])) :: (((((((((((([] : va_W) ++ ct_F3 aC (g 1) (fun i => g (1 + i))) ++ ct_F5 aC (g 13) (fun i => g (13 + i))) ++ ct_F2 aC (g 21) (fun i => g (21 + i))) ++ ct_F1 aC (g 34) (fun i => g (34 + i))) ++ ct_F4 aC (g 41) (fun i => g (41 + i))) ++ ct_F9 aC (g 47) (fun i => g (47 + i))) ++ ct_F8 aC (g 48) (fun i => g (48 + i))) ++ ct_F0 aC (g 73) (fun i => g (73 + i))) ++ ct_F6 aC (g 78) (fun i => g (78 + i))) ++ [((g 83), .inl (aC 0, 6, .inl (fun _ => 0)))]) ++ [((g 84), .inl (aC 0, 16, .inl (fun _ => 0)))])
set_option maxHeartbeats 4000000 in
set_option maxRecDepth 100000 in
theorem ct_10 (l : Launch) (D : va_G) (aC : Nat → ClassId) : ct_Met l D aC (ct_N aC) ⟨"PartedLand", "<init>", "()V"⟩ prog_1_method_1_code { frames := 3, cells := 84, slots := 1226, locals := 60 } 10 [.null, .null, .null, .null, .null, .null, .null, .null, .null, .null, .null, .int 0, .int 0] (ct_F10 aC) 84 1226 := by
  intro h0 sz
  refine Met.ofW (cc := prog_1_method_1_code) (maxL := 1) (ret := none) (by decide) rfl ?_
  intro p e s m args below meth c s₁ B hml hv
  obtain ⟨rfl, hsz, hP, hK, hN⟩ := hv
  have hx := B.exec
  have hb := B.bytes
  have hr := B.returns
  have hts0 := atoms_spec (ws := Cond.code (⟨"PartedLand", "<init>", "()V"⟩ : MethodName) prog_1_method_1_code 1 none :: am_tbl) B.pre
  have hts : ∀ w ∈ am_tbl, w.before _ s = true := fun w hw => hts0 w (List.mem_cons_of_mem _ hw)
  have hown : s.vm.findClass "PartedLand" = some m.cls := findClass_of_methodNamed B.named
  have hlocks := B.notSynchronized
  have hin : meth.name = "<init>" := (name_of_methodNamed B.named B.method).1
  subst hsz
  obtain ⟨A, hAe⟩ : ∃ A, A = va_A [(h0, .inr (10, [.null, .null, .null, .null, .null, .null, .null, .null, .null, .null, .null, .int 0, .int 0]))] s.heap.size := ⟨_, rfl⟩
  have hD : va_D A [(h0, .inr (10, [.null, .null, .null, .null, .null, .null, .null, .null, .null, .null, .null, .int 0, .int 0]))] := by rw [hAe]; exact ct_D1 _ (va_A.in (k := 0) rfl)
  have hA : ∀ q : Nat, s.heap.size ≤ q → A q := fun q h => by rw [hAe]; exact Or.inr h
  have hS : va_S A s.heap s.heap [] := va_S.rf
  have hP : va_P D am_cl [(h0, .inr (10, [.null, .null, .null, .null, .null, .null, .null, .null, .null, .null, .null, .int 0, .int 0]))] s.heap := hP
  have hl := lv_entry ([.ref h0]) (n := 1) (Nat.le_of_ble_eq_true rfl)
  rw [lg_entry_eq]
  generalize (lg_sl ([.ref h0]) ++ List.replicate (1 - (lg_sl ([.ref h0])).length) Slot.unset).toArray = ls at hl ⊢
  have hl : lv_has ls 1 [(0, .ref h0)] := hl
  refine lv_aload_n hx hb dk_10_0 rfl (lv_at hl 0 rfl) ?_
  refine ct_obj hx hb hts hown (am_mem_in (p := 56) (by decide +kernel)) (hml.trans hl.1.symm) dk_10_1 (Nat.le_of_ble_eq_true rfl) (Nat.le_of_ble_eq_true rfl) ?_
  refine ct_field (own := "PartedLand") (T := TX10) (N := 13) (ci := 10) (K := "PartedLand$Land") (T' := TX3) (N' := 14) (cj := 3) (f := 0) (fs' := [.null, .null, .null, .null, .null, .null, .null, .null, .null, .null, .null, .int 0, .int 0, .int 0]) (host := "PartedLand") hx hb hts hown hml hl hin hK hN hP hD hS hA rfl rfl (am_mem_in (p := 59) (by decide +kernel)) (am_mem_in (p := 60) (by decide +kernel)) (am_mem_in (p := 36) (by decide +kernel)) (by decide +kernel) (ct_3 l D aC) ⟨rfl, rfl⟩ (am_mem_in (p := 63) (by decide +kernel)) (by decide +kernel) (am_mem_in (p := 62) (by decide +kernel)) (by decide +kernel) (am_ckf_ok (show am_ckf "PartedLand" pf_10 12 (some (10, 0, 2)) = true from am_rng klf_10 12 (by decide))) rfl rfl (fun _ => rfl) (fun _ => rfl) (Nat.le_of_ble_eq_true rfl) ⟨(Nat.le_of_ble_eq_true rfl), (Nat.le_of_ble_eq_true rfl)⟩ (Nat.le_of_ble_eq_true rfl) (Nat.le_of_ble_eq_true rfl) dk_10_4 dk_10_5 dk_10_8 dk_10_9 dk_10_12 (fun q1 g1 H locs hP hD hS => ?_)
  refine ct_field (own := "PartedLand") (T := TX10) (N := 13) (ci := 10) (K := "PartedLand$People") (T' := TX5) (N' := 8) (cj := 5) (f := 1) (fs' := [.null, .null, .null, .null, .null, .null, .null, .int 0]) (host := "PartedLand") hx hb hts hown hml hl hin hK hN hP hD hS hA rfl rfl (am_mem_in (p := 117) (by decide +kernel)) (am_mem_in (p := 118) (by decide +kernel)) (am_mem_in (p := 37) (by decide +kernel)) (by decide +kernel) (ct_5 l D aC) ⟨rfl, rfl⟩ (am_mem_in (p := 121) (by decide +kernel)) (by decide +kernel) (am_mem_in (p := 120) (by decide +kernel)) (by decide +kernel) (am_ckf_ok (show am_ckf "PartedLand" pf_10 19 (some (10, 1, 2)) = true from am_rng klf_10 19 (by decide))) rfl rfl (fun _ => rfl) (fun _ => rfl) (Nat.le_of_ble_eq_true rfl) ⟨(Nat.le_of_ble_eq_true rfl), (Nat.le_of_ble_eq_true rfl)⟩ (Nat.le_of_ble_eq_true rfl) (Nat.le_of_ble_eq_true rfl) dk_10_15 dk_10_16 dk_10_19 dk_10_20 dk_10_23 (fun q2 g2 H locs hP hD hS => ?_)
  refine ct_field (own := "PartedLand") (T := TX10) (N := 13) (ci := 10) (K := "PartedLand$Houses") (T' := TX2) (N' := 7) (cj := 2) (f := 2) (fs' := [.null, .null, .null, .null, .int 0, .int 0, .int 0]) (host := "PartedLand") hx hb hts hown hml hl hin hK hN hP hD hS hA rfl rfl (am_mem_in (p := 157) (by decide +kernel)) (am_mem_in (p := 158) (by decide +kernel)) (am_mem_in (p := 38) (by decide +kernel)) (by decide +kernel) (ct_2 l D aC) ⟨rfl, rfl⟩ (am_mem_in (p := 161) (by decide +kernel)) (by decide +kernel) (am_mem_in (p := 160) (by decide +kernel)) (by decide +kernel) (am_ckf_ok (show am_ckf "PartedLand" pf_10 26 (some (10, 2, 2)) = true from am_rng klf_10 26 (by decide))) rfl rfl (fun _ => rfl) (fun _ => rfl) (Nat.le_of_ble_eq_true rfl) ⟨(Nat.le_of_ble_eq_true rfl), (Nat.le_of_ble_eq_true rfl)⟩ (Nat.le_of_ble_eq_true rfl) (Nat.le_of_ble_eq_true rfl) dk_10_26 dk_10_27 dk_10_30 dk_10_31 dk_10_34 (fun q3 g3 H locs hP hD hS => ?_)
  refine ct_field (own := "PartedLand") (T := TX10) (N := 13) (ci := 10) (K := "PartedLand$Estate") (T' := TX1) (N' := 8) (cj := 1) (f := 3) (fs' := [.null, .null, .null, .null, .null, .null, .int 0, .int 0]) (host := "PartedLand") hx hb hts hown hml hl hin hK hN hP hD hS hA rfl rfl (am_mem_in (p := 240) (by decide +kernel)) (am_mem_in (p := 241) (by decide +kernel)) (am_mem_in (p := 40) (by decide +kernel)) (by decide +kernel) (ct_1 l D aC) ⟨rfl, rfl⟩ (am_mem_in (p := 244) (by decide +kernel)) (by decide +kernel) (am_mem_in (p := 243) (by decide +kernel)) (by decide +kernel) (am_ckf_ok (show am_ckf "PartedLand" pf_10 33 (some (10, 3, 2)) = true from am_rng klf_10 33 (by decide))) rfl rfl (fun _ => rfl) (fun _ => rfl) (Nat.le_of_ble_eq_true rfl) ⟨(Nat.le_of_ble_eq_true rfl), (Nat.le_of_ble_eq_true rfl)⟩ (Nat.le_of_ble_eq_true rfl) (Nat.le_of_ble_eq_true rfl) dk_10_37 dk_10_38 dk_10_41 dk_10_42 dk_10_45 (fun q4 g4 H locs hP hD hS => ?_)
  refine ct_field (own := "PartedLand") (T := TX10) (N := 13) (ci := 10) (K := "PartedLand$Parting") (T' := TX4) (N' := 10) (cj := 4) (f := 4) (fs' := [.null, .null, .null, .null, .null, .int 0, .int 0, .int 0, .int 0, .int 0]) (host := "PartedLand") hx hb hts hown hml hl hin hK hN hP hD hS hA rfl rfl (am_mem_in (p := 281) (by decide +kernel)) (am_mem_in (p := 282) (by decide +kernel)) (am_mem_in (p := 41) (by decide +kernel)) (by decide +kernel) (ct_4 l D aC) ⟨rfl, rfl⟩ (am_mem_in (p := 285) (by decide +kernel)) (by decide +kernel) (am_mem_in (p := 284) (by decide +kernel)) (by decide +kernel) (am_ckf_ok (show am_ckf "PartedLand" pf_10 40 (some (10, 4, 2)) = true from am_rng klf_10 40 (by decide))) rfl rfl (fun _ => rfl) (fun _ => rfl) (Nat.le_of_ble_eq_true rfl) ⟨(Nat.le_of_ble_eq_true rfl), (Nat.le_of_ble_eq_true rfl)⟩ (Nat.le_of_ble_eq_true rfl) (Nat.le_of_ble_eq_true rfl) dk_10_48 dk_10_49 dk_10_52 dk_10_53 dk_10_56 (fun q5 g5 H locs hP hD hS => ?_)
  refine ct_field (own := "PartedLand") (T := TX10) (N := 13) (ci := 10) (K := "PartedLand$Week") (T' := TX9) (N' := 4) (cj := 9) (f := 5) (fs' := [.int 0, .int 0, .int 0, .int 0]) (host := "PartedLand") hx hb hts hown hml hl hin hK hN hP hD hS hA rfl rfl (am_mem_in (p := 322) (by decide +kernel)) (am_mem_in (p := 323) (by decide +kernel)) (am_mem_in (p := 42) (by decide +kernel)) (by decide +kernel) (ct_9 l D aC) ⟨rfl, rfl⟩ (am_mem_in (p := 326) (by decide +kernel)) (by decide +kernel) (am_mem_in (p := 325) (by decide +kernel)) (by decide +kernel) (am_ckf_ok (show am_ckf "PartedLand" pf_10 47 (some (10, 5, 2)) = true from am_rng klf_10 47 (by decide))) rfl rfl (fun _ => rfl) (fun _ => rfl) (Nat.le_of_ble_eq_true rfl) ⟨(Nat.le_of_ble_eq_true rfl), (Nat.le_of_ble_eq_true rfl)⟩ (Nat.le_of_ble_eq_true rfl) (Nat.le_of_ble_eq_true rfl) dk_10_59 dk_10_60 dk_10_63 dk_10_64 dk_10_67 (fun q6 g6 H locs hP hD hS => ?_)
  refine ct_field (own := "PartedLand") (T := TX10) (N := 13) (ci := 10) (K := "PartedLand$Wagons") (T' := TX8) (N' := 5) (cj := 8) (f := 6) (fs' := [.null, .null, .null, .null, .int 0]) (host := "PartedLand") hx hb hts hown hml hl hin hK hN hP hD hS hA rfl rfl (am_mem_in (p := 345) (by decide +kernel)) (am_mem_in (p := 346) (by decide +kernel)) (am_mem_in (p := 43) (by decide +kernel)) (by decide +kernel) (ct_8 l D aC) ⟨rfl, rfl⟩ (am_mem_in (p := 349) (by decide +kernel)) (by decide +kernel) (am_mem_in (p := 348) (by decide +kernel)) (by decide +kernel) (am_ckf_ok (show am_ckf "PartedLand" pf_10 54 (some (10, 6, 2)) = true from am_rng klf_10 54 (by decide))) rfl rfl (fun _ => rfl) (fun _ => rfl) (Nat.le_of_ble_eq_true rfl) ⟨(Nat.le_of_ble_eq_true rfl), (Nat.le_of_ble_eq_true rfl)⟩ (Nat.le_of_ble_eq_true rfl) (Nat.le_of_ble_eq_true rfl) dk_10_70 dk_10_71 dk_10_74 dk_10_75 dk_10_78 (fun q7 g7 H locs hP hD hS => ?_)
  refine ct_field (own := "PartedLand") (T := TX10) (N := 13) (ci := 10) (K := "PartedLand$Cases") (T' := TX0) (N' := 5) (cj := 0) (f := 7) (fs' := [.null, .null, .null, .null, .int 0]) (host := "PartedLand") hx hb hts hown hml hl hin hK hN hP hD hS hA rfl rfl (am_mem_in (p := 371) (by decide +kernel)) (am_mem_in (p := 372) (by decide +kernel)) (am_mem_in (p := 44) (by decide +kernel)) (by decide +kernel) (ct_0 l D aC) ⟨rfl, rfl⟩ (am_mem_in (p := 375) (by decide +kernel)) (by decide +kernel) (am_mem_in (p := 374) (by decide +kernel)) (by decide +kernel) (am_ckf_ok (show am_ckf "PartedLand" pf_10 61 (some (10, 7, 2)) = true from am_rng klf_10 61 (by decide))) rfl rfl (fun _ => rfl) (fun _ => rfl) (Nat.le_of_ble_eq_true rfl) ⟨(Nat.le_of_ble_eq_true rfl), (Nat.le_of_ble_eq_true rfl)⟩ (Nat.le_of_ble_eq_true rfl) (Nat.le_of_ble_eq_true rfl) dk_10_81 dk_10_82 dk_10_85 dk_10_86 dk_10_89 (fun q8 g8 H locs hP hD hS => ?_)
  refine ct_field (own := "PartedLand") (T := TX10) (N := 13) (ci := 10) (K := "PartedLand$Tasks") (T' := TX6) (N' := 7) (cj := 6) (f := 8) (fs' := [.null, .null, .null, .null, .int 0, .int 0, .int 0]) (host := "PartedLand") hx hb hts hown hml hl hin hK hN hP hD hS hA rfl rfl (am_mem_in (p := 395) (by decide +kernel)) (am_mem_in (p := 396) (by decide +kernel)) (am_mem_in (p := 45) (by decide +kernel)) (by decide +kernel) (ct_6 l D aC) ⟨rfl, rfl⟩ (am_mem_in (p := 399) (by decide +kernel)) (by decide +kernel) (am_mem_in (p := 398) (by decide +kernel)) (by decide +kernel) (am_ckf_ok (show am_ckf "PartedLand" pf_10 68 (some (10, 8, 2)) = true from am_rng klf_10 68 (by decide))) rfl rfl (fun _ => rfl) (fun _ => rfl) (Nat.le_of_ble_eq_true rfl) ⟨(Nat.le_of_ble_eq_true rfl), (Nat.le_of_ble_eq_true rfl)⟩ (Nat.le_of_ble_eq_true rfl) (Nat.le_of_ble_eq_true rfl) dk_10_92 dk_10_93 dk_10_96 dk_10_97 dk_10_100 (fun q9 g9 H locs hP hD hS => ?_)
  refine lv_aload_n hx hb dk_10_103 rfl (lv_at hl 0 rfl) ?_
  refine lv_bipush (v := (6 : Int32)) hx hb dk_10_104 (by decide) ?_
  refine ct_newi hx hb (hts _ ct_ai) hK hP hD hS hA (by decide) rfl (by decide) (Nat.le_of_ble_eq_true rfl) (Nat.le_of_ble_eq_true rfl) dk_10_106 (fun q10 H hP hD hS => ?_)
  refine ct_putL (own := "PartedLand") (T := TX10) (N := 13) (ci := 10) (f := 9) hx hb hts hown hin hK hP hD hS rfl (am_ckf_ok (show am_ckf "PartedLand" pf_10 72 (some (10, 9, 2)) = true from am_rng klf_10 72 (by decide))) rfl rfl rfl rfl (Nat.le_of_ble_eq_true rfl) dk_10_108 (fun H locs hP hD hS => ?_)
  have hP : va_P D am_cl ((h0, .inr (10, [.ref q1, .ref q2, .ref q3, .ref q4, .ref q5, .ref q6, .ref q7, .ref q8, .ref q9, .ref q10, .null, .int 0, .int 0])) :: _) H := hP
  have hD : va_D A ((h0, .inr (10, [.ref q1, .ref q2, .ref q3, .ref q4, .ref q5, .ref q6, .ref q7, .ref q8, .ref q9, .ref q10, .null, .int 0, .int 0])) :: _) := hD
  refine lv_aload_n hx hb dk_10_111 rfl (lv_at hl 0 rfl) ?_
  refine lv_bipush (v := (16 : Int32)) hx hb dk_10_112 (by decide) ?_
  refine ct_newi hx hb (hts _ ct_ai) hK hP hD hS hA (by decide) rfl (by decide) (Nat.le_of_ble_eq_true rfl) (Nat.le_of_ble_eq_true rfl) dk_10_114 (fun q11 H hP hD hS => ?_)
  refine ct_putL (own := "PartedLand") (T := TX10) (N := 13) (ci := 10) (f := 10) hx hb hts hown hin hK hP hD hS rfl (am_ckf_ok (show am_ckf "PartedLand" pf_10 76 (some (10, 10, 2)) = true from am_rng klf_10 76 (by decide))) rfl rfl rfl rfl (Nat.le_of_ble_eq_true rfl) dk_10_116 (fun H locs hP hD hS => ?_)
  have hP : va_P D am_cl ((h0, .inr (10, [.ref q1, .ref q2, .ref q3, .ref q4, .ref q5, .ref q6, .ref q7, .ref q8, .ref q9, .ref q10, .ref q11, .int 0, .int 0])) :: _) H := hP
  have hD : va_D A ((h0, .inr (10, [.ref q1, .ref q2, .ref q3, .ref q4, .ref q5, .ref q6, .ref q7, .ref q8, .ref q9, .ref q10, .ref q11, .int 0, .int 0])) :: _) := hD
  refine lv_aload_n hx hb dk_10_119 rfl (lv_at hl 0 rfl) ?_
  refine lv_iconst (v := (0 : Int32)) hx hb dk_10_120 (by decide) ?_
  refine ct_putI (own := "PartedLand") (T := TX10) (N := 13) (ci := 10) (f := 11) (z := 0) (x := (0 : Int32)) hx hb hts hown hK hP hD hS rfl (am_ckf_ok (show am_ckf "PartedLand" pf_10 79 (some (10, 11, 0)) = true from am_rng klf_10 79 (by decide))) rfl rfl rfl (Nat.le_of_ble_eq_true rfl) dk_10_121 (fun H locs hP hD hS => ?_)
  have hP : va_P D am_cl ((h0, .inr (10, [.ref q1, .ref q2, .ref q3, .ref q4, .ref q5, .ref q6, .ref q7, .ref q8, .ref q9, .ref q10, .ref q11, .int (0 : Int32), .int 0])) :: _) H := hP
  have hD : va_D A ((h0, .inr (10, [.ref q1, .ref q2, .ref q3, .ref q4, .ref q5, .ref q6, .ref q7, .ref q8, .ref q9, .ref q10, .ref q11, .int (0 : Int32), .int 0])) :: _) := hD
  refine lv_aload_n hx hb dk_10_124 rfl (lv_at hl 0 rfl) ?_
  refine lv_iconst (v := (0 : Int32)) hx hb dk_10_125 (by decide) ?_
  refine ct_putI (own := "PartedLand") (T := TX10) (N := 13) (ci := 10) (f := 12) (z := 0) (x := (0 : Int32)) hx hb hts hown hK hP hD hS rfl (am_ckf_ok (show am_ckf "PartedLand" pf_10 83 (some (10, 12, 0)) = true from am_rng klf_10 83 (by decide))) rfl rfl rfl (Nat.le_of_ble_eq_true rfl) dk_10_126 (fun H locs hP hD hS => ?_)
  have hP : va_P D am_cl ((h0, .inr (10, [.ref q1, .ref q2, .ref q3, .ref q4, .ref q5, .ref q6, .ref q7, .ref q8, .ref q9, .ref q10, .ref q11, .int (0 : Int32), .int (0 : Int32)])) :: _) H := hP
  have hD : va_D A ((h0, .inr (10, [.ref q1, .ref q2, .ref q3, .ref q4, .ref q5, .ref q6, .ref q7, .ref q8, .ref q9, .ref q10, .ref q11, .int (0 : Int32), .int (0 : Int32)])) :: _) := hD
  obtain ⟨G, hG⟩ : ∃ G : Nat → Nat, G = fun i => (bif Nat.beq i 1 then q1 else bif Nat.blt i 13 then g1 (i - 1) else (bif Nat.beq i 13 then q2 else bif Nat.blt i 21 then g2 (i - 13) else (bif Nat.beq i 21 then q3 else bif Nat.blt i 34 then g3 (i - 21) else (bif Nat.beq i 34 then q4 else bif Nat.blt i 41 then g4 (i - 34) else (bif Nat.beq i 41 then q5 else bif Nat.blt i 47 then g5 (i - 41) else (bif Nat.beq i 47 then q6 else bif Nat.blt i 48 then g6 (i - 47) else (bif Nat.beq i 48 then q7 else bif Nat.blt i 73 then g7 (i - 48) else (bif Nat.beq i 73 then q8 else bif Nat.blt i 78 then g8 (i - 73) else (bif Nat.beq i 78 then q9 else bif Nat.blt i 83 then g9 (i - 78) else (bif Nat.beq i 83 then q10 else (bif Nat.beq i 84 then q11 else 0))))))))))) := ⟨_, rfl⟩
  have e1 : ct_F3 aC (G 1) (fun i => G (1 + i)) = ct_F3 aC q1 g1 := by rw [hG]; rfl
  have e13 : ct_F5 aC (G 13) (fun i => G (13 + i)) = ct_F5 aC q2 g2 := by rw [hG]; rfl
  have e21 : ct_F2 aC (G 21) (fun i => G (21 + i)) = ct_F2 aC q3 g3 := by rw [hG]; rfl
  have e34 : ct_F1 aC (G 34) (fun i => G (34 + i)) = ct_F1 aC q4 g4 := by rw [hG]; rfl
  have e41 : ct_F4 aC (G 41) (fun i => G (41 + i)) = ct_F4 aC q5 g5 := by rw [hG]; rfl
  have e47 : ct_F9 aC (G 47) (fun i => G (47 + i)) = ct_F9 aC q6 g6 := by rw [hG]; rfl
  have e48 : ct_F8 aC (G 48) (fun i => G (48 + i)) = ct_F8 aC q7 g7 := by
    unfold ct_F8
    rw [ct_refs (rs := [4, 5, 6, 7, 8, 9, 10, 11, 12, 13]) (f := fun i => G (48 + i)) (rs' := [4, 5, 6, 7, 8, 9, 10, 11, 12, 13]) (f' := g7) (by rw [hG]; rfl), ct_refs (rs := [15, 16, 17, 18, 19, 20, 21, 22, 23, 24]) (f := fun i => G (48 + i)) (rs' := [15, 16, 17, 18, 19, 20, 21, 22, 23, 24]) (f' := g7) (by rw [hG]; rfl)]
    rw [hG]
    rfl
  have e73 : ct_F0 aC (G 73) (fun i => G (73 + i)) = ct_F0 aC q8 g8 := by rw [hG]; rfl
  have e78 : ct_F6 aC (G 78) (fun i => G (78 + i)) = ct_F6 aC q9 g9 := by rw [hG]; rfl
  have e83 : G 83 = q10 := by rw [hG]; rfl
  have e84 : G 84 = q11 := by rw [hG]; rfl
  have u1 : G 1 = q1 := by rw [hG]; rfl
  have u13 : G 13 = q2 := by rw [hG]; rfl
  have u21 : G 21 = q3 := by rw [hG]; rfl
  have u34 : G 34 = q4 := by rw [hG]; rfl
  have u41 : G 41 = q5 := by rw [hG]; rfl
  have u47 : G 47 = q6 := by rw [hG]; rfl
  have u48 : G 48 = q7 := by rw [hG]; rfl
  have u73 : G 73 = q8 := by rw [hG]; rfl
  have u78 : G 78 = q9 := by rw [hG]; rfl
  have hP9 : va_P D am_cl (ct_F10 aC h0 G) H := by
    unfold ct_F10
    rw [e1, e13, e21, e34, e41, e47, e48, e73, e78, e83, e84, u1, u13, u21, u34, u41, u47, u48, u73, u78]
    exact hP
  have hD9 : va_D A (ct_F10 aC h0 G) := by
    unfold ct_F10
    rw [e1, e13, e21, e34, e41, e47, e48, e73, e78, e83, e84, u1, u13, u21, u34, u41, u47, u48, u73, u78]
    exact hD
  subst hAe
  refine W.widen (k := 84) (n := 1226) (Nat.le_of_ble_eq_true rfl) (Nat.le_of_ble_eq_true rfl) ?_
  exact W.vret hx hb hr (fun t ht hW => ⟨⟨rfl, G, by rw [ht]; exact hP9, hD9⟩, hS.F ht⟩) hS.2.2 dk_10_129
