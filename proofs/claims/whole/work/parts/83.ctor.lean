theorem dk_3_0 : decode prog_5_method_1_code 0 = .ok (.aload_n 0, 1) := by decide +kernel
theorem dk_3_1 : decode prog_5_method_1_code 1 = .ok (.invokespecial 1, 3) := by decide +kernel
theorem dk_3_4 : decode prog_5_method_1_code 4 = .ok (.aload_n 0, 1) := by decide +kernel
theorem dk_3_5 : decode prog_5_method_1_code 5 = .ok (.bipush 12, 2) := by decide +kernel
theorem dk_3_7 : decode prog_5_method_1_code 7 = .ok (.newarray .int, 2) := by decide +kernel
theorem dk_3_9 : decode prog_5_method_1_code 9 = .ok (.putfield 9, 3) := by decide +kernel
theorem dk_3_12 : decode prog_5_method_1_code 12 = .ok (.aload_n 0, 1) := by decide +kernel
theorem dk_3_13 : decode prog_5_method_1_code 13 = .ok (.bipush 12, 2) := by decide +kernel
theorem dk_3_15 : decode prog_5_method_1_code 15 = .ok (.newarray .int, 2) := by decide +kernel
theorem dk_3_17 : decode prog_5_method_1_code 17 = .ok (.putfield 13, 3) := by decide +kernel
theorem dk_3_20 : decode prog_5_method_1_code 20 = .ok (.aload_n 0, 1) := by decide +kernel
theorem dk_3_21 : decode prog_5_method_1_code 21 = .ok (.bipush 12, 2) := by decide +kernel
theorem dk_3_23 : decode prog_5_method_1_code 23 = .ok (.newarray .int, 2) := by decide +kernel
theorem dk_3_25 : decode prog_5_method_1_code 25 = .ok (.putfield 16, 3) := by decide +kernel
theorem dk_3_28 : decode prog_5_method_1_code 28 = .ok (.aload_n 0, 1) := by decide +kernel
theorem dk_3_29 : decode prog_5_method_1_code 29 = .ok (.iconst 2, 1) := by decide +kernel
theorem dk_3_30 : decode prog_5_method_1_code 30 = .ok (.newarray .int, 2) := by decide +kernel
theorem dk_3_32 : decode prog_5_method_1_code 32 = .ok (.putfield 19, 3) := by decide +kernel
theorem dk_3_35 : decode prog_5_method_1_code 35 = .ok (.aload_n 0, 1) := by decide +kernel
theorem dk_3_36 : decode prog_5_method_1_code 36 = .ok (.bipush 30, 2) := by decide +kernel
theorem dk_3_38 : decode prog_5_method_1_code 38 = .ok (.newarray .int, 2) := by decide +kernel
theorem dk_3_40 : decode prog_5_method_1_code 40 = .ok (.putfield 22, 3) := by decide +kernel
theorem dk_3_43 : decode prog_5_method_1_code 43 = .ok (.aload_n 0, 1) := by decide +kernel
theorem dk_3_44 : decode prog_5_method_1_code 44 = .ok (.bipush 30, 2) := by decide +kernel
theorem dk_3_46 : decode prog_5_method_1_code 46 = .ok (.newarray .int, 2) := by decide +kernel
theorem dk_3_48 : decode prog_5_method_1_code 48 = .ok (.putfield 25, 3) := by decide +kernel
theorem dk_3_51 : decode prog_5_method_1_code 51 = .ok (.aload_n 0, 1) := by decide +kernel
theorem dk_3_52 : decode prog_5_method_1_code 52 = .ok (.bipush 30, 2) := by decide +kernel
theorem dk_3_54 : decode prog_5_method_1_code 54 = .ok (.newarray .int, 2) := by decide +kernel
theorem dk_3_56 : decode prog_5_method_1_code 56 = .ok (.putfield 28, 3) := by decide +kernel
theorem dk_3_59 : decode prog_5_method_1_code 59 = .ok (.aload_n 0, 1) := by decide +kernel
theorem dk_3_60 : decode prog_5_method_1_code 60 = .ok (.bipush 30, 2) := by decide +kernel
theorem dk_3_62 : decode prog_5_method_1_code 62 = .ok (.newarray .boolean, 2) := by decide +kernel
theorem dk_3_64 : decode prog_5_method_1_code 64 = .ok (.putfield 31, 3) := by decide +kernel
theorem dk_3_67 : decode prog_5_method_1_code 67 = .ok (.aload_n 0, 1) := by decide +kernel
theorem dk_3_68 : decode prog_5_method_1_code 68 = .ok (.bipush 8, 2) := by decide +kernel
theorem dk_3_70 : decode prog_5_method_1_code 70 = .ok (.newarray .int, 2) := by decide +kernel
theorem dk_3_72 : decode prog_5_method_1_code 72 = .ok (.putfield 35, 3) := by decide +kernel
theorem dk_3_75 : decode prog_5_method_1_code 75 = .ok (.aload_n 0, 1) := by decide +kernel
theorem dk_3_76 : decode prog_5_method_1_code 76 = .ok (.bipush 8, 2) := by decide +kernel
theorem dk_3_78 : decode prog_5_method_1_code 78 = .ok (.newarray .int, 2) := by decide +kernel
theorem dk_3_80 : decode prog_5_method_1_code 80 = .ok (.putfield 38, 3) := by decide +kernel
theorem dk_3_83 : decode prog_5_method_1_code 83 = .ok (.aload_n 0, 1) := by decide +kernel
theorem dk_3_84 : decode prog_5_method_1_code 84 = .ok (.bipush 12, 2) := by decide +kernel
theorem dk_3_86 : decode prog_5_method_1_code 86 = .ok (.newarray .int, 2) := by decide +kernel
theorem dk_3_88 : decode prog_5_method_1_code 88 = .ok (.putfield 41, 3) := by decide +kernel
theorem dk_3_91 : decode prog_5_method_1_code 91 = .ok (.aload_n 0, 1) := by decide +kernel
theorem dk_3_92 : decode prog_5_method_1_code 92 = .ok (.iconst 0, 1) := by decide +kernel
theorem dk_3_93 : decode prog_5_method_1_code 93 = .ok (.putfield 44, 3) := by decide +kernel
theorem dk_3_96 : decode prog_5_method_1_code 96 = .ok (.aload_n 0, 1) := by decide +kernel
theorem dk_3_97 : decode prog_5_method_1_code 97 = .ok (.iconst 0, 1) := by decide +kernel
theorem dk_3_98 : decode prog_5_method_1_code 98 = .ok (.putfield 48, 3) := by decide +kernel
theorem dk_3_101 : decode prog_5_method_1_code 101 = .ok (.aload_n 0, 1) := by decide +kernel
theorem dk_3_102 : decode prog_5_method_1_code 102 = .ok (.iconst 0, 1) := by decide +kernel
theorem dk_3_103 : decode prog_5_method_1_code 103 = .ok (.putfield 51, 3) := by decide +kernel
theorem dk_3_106 : decode prog_5_method_1_code 106 = .ok (.return_, 1) := by decide +kernel
def ct_F3 (aC : Nat → ClassId) (h0 : Nat) (g : Nat → Nat) : va_W := [(h0, .inr (3, [.ref (g 1), .ref (g 2), .ref (g 3), .ref (g 4), .ref (g 5), .ref (g 6), .ref (g 7), .ref (g 8), .ref (g 9), .ref (g 10), .ref (g 11), .int (0 : Int32), .int (0 : Int32), .int (0 : Int32)])), ((g 1), .inl (aC 0, 12, .inl (fun _ => 0))), ((g 2), .inl (aC 0, 12, .inl (fun _ => 0))), ((g 3), .inl (aC 0, 12, .inl (fun _ => 0))), ((g 4), .inl (aC 0, 2, .inl (fun _ => 0))), ((g 5), .inl (aC 0, 30, .inl (fun _ => 0))), ((g 6), .inl (aC 0, 30, .inl (fun _ => 0))), ((g 7), .inl (aC 0, 30, .inl (fun _ => 0))), ((g 8), .inl (aC 1, 30, .inl (fun _ => 0))), ((g 9), .inl (aC 0, 8, .inl (fun _ => 0))), ((g 10), .inl (aC 0, 8, .inl (fun _ => 0))), ((g 11), .inl (aC 0, 12, .inl (fun _ => 0)))]
set_option maxHeartbeats 4000000 in
set_option maxRecDepth 100000 in
theorem ct_3 (l : Launch) (D : va_G) (aC : Nat → ClassId) : ct_Met l D aC (ct_N aC) ⟨"PartedLand$Land", "<init>", "()V"⟩ prog_5_method_1_code { frames := 1, cells := 11, slots := 186, locals := 12 } 3 [.null, .null, .null, .null, .null, .null, .null, .null, .null, .null, .null, .int 0, .int 0, .int 0] (ct_F3 aC) 11 186 := by
  intro h0 sz
  refine Met.ofW (cc := prog_5_method_1_code) (maxL := 1) (ret := none) (by decide) rfl ?_
  intro p e s m args below meth c s₁ B hml hv
  obtain ⟨rfl, hsz, hP, hK, hN⟩ := hv
  have hx := B.exec
  have hb := B.bytes
  have hr := B.returns
  have hts0 := atoms_spec (ws := Cond.code (⟨"PartedLand$Land", "<init>", "()V"⟩ : MethodName) prog_5_method_1_code 1 none :: am_tbl) B.pre
  have hts : ∀ w ∈ am_tbl, w.before _ s = true := fun w hw => hts0 w (List.mem_cons_of_mem _ hw)
  have hown : s.vm.findClass "PartedLand$Land" = some m.cls := findClass_of_methodNamed B.named
  have hlocks := B.notSynchronized
  have hin : meth.name = "<init>" := (name_of_methodNamed B.named B.method).1
  subst hsz
  obtain ⟨A, hAe⟩ : ∃ A, A = va_A [(h0, .inr (3, [.null, .null, .null, .null, .null, .null, .null, .null, .null, .null, .null, .int 0, .int 0, .int 0]))] s.heap.size := ⟨_, rfl⟩
  have hD : va_D A [(h0, .inr (3, [.null, .null, .null, .null, .null, .null, .null, .null, .null, .null, .null, .int 0, .int 0, .int 0]))] := by rw [hAe]; exact ct_D1 _ (va_A.in (k := 0) rfl)
  have hA : ∀ q : Nat, s.heap.size ≤ q → A q := fun q h => by rw [hAe]; exact Or.inr h
  have hS : va_S A s.heap s.heap [] := va_S.rf
  have hP : va_P D am_cl [(h0, .inr (3, [.null, .null, .null, .null, .null, .null, .null, .null, .null, .null, .null, .int 0, .int 0, .int 0]))] s.heap := hP
  have hl := lv_entry ([.ref h0]) (n := 1) (Nat.le_of_ble_eq_true rfl)
  rw [lg_entry_eq]
  generalize (lg_sl ([.ref h0]) ++ List.replicate (1 - (lg_sl ([.ref h0])).length) Slot.unset).toArray = ls at hl ⊢
  have hl : lv_has ls 1 [(0, .ref h0)] := hl
  refine lv_aload_n hx hb dk_3_0 rfl (lv_at hl 0 rfl) ?_
  refine ct_obj hx hb hts hown (am_mem_in (p := 64) (by decide +kernel)) (hml.trans hl.1.symm) dk_3_1 (Nat.le_of_ble_eq_true rfl) (Nat.le_of_ble_eq_true rfl) ?_
  refine lv_aload_n hx hb dk_3_4 rfl (lv_at hl 0 rfl) ?_
  refine lv_bipush (v := (12 : Int32)) hx hb dk_3_5 (by decide) ?_
  refine ct_newi hx hb (hts _ ct_ai) hK hP hD hS hA (by decide) rfl (by decide) (Nat.le_of_ble_eq_true rfl) (Nat.le_of_ble_eq_true rfl) dk_3_7 (fun q1 H hP hD hS => ?_)
  have hP : va_P D am_cl [(h0, .inr (3, [.null, .null, .null, .null, .null, .null, .null, .null, .null, .null, .null, .int 0, .int 0, .int 0])), (q1, .inl (aC 0, 12, .inl (fun _ => 0)))] H := hP
  have hD : va_D A [(h0, .inr (3, [.null, .null, .null, .null, .null, .null, .null, .null, .null, .null, .null, .int 0, .int 0, .int 0])), (q1, .inl (aC 0, 12, .inl (fun _ => 0)))] := hD
  refine ct_putF (ci := 3) (f := 0) (z := 2) (C := RX3) (T := TX3) (N := 14) (v := .ref q1) hx hb hts (am_ckf_ok (show am_ckf "PartedLand$Land" pf_3 9 (some (3, 0, 2)) = true from am_rng klf_3 9 (by decide))) rfl rfl rfl hin hown hK hP hD hS 0 rfl rfl rfl (Nat.le_of_ble_eq_true rfl) dk_3_9 (fun H locs hP hD hS => ?_)
  have hP : va_P D am_cl [(h0, .inr (3, [.ref q1, .null, .null, .null, .null, .null, .null, .null, .null, .null, .null, .int 0, .int 0, .int 0])), (q1, .inl (aC 0, 12, .inl (fun _ => 0)))] H := hP
  have hD : va_D A [(h0, .inr (3, [.ref q1, .null, .null, .null, .null, .null, .null, .null, .null, .null, .null, .int 0, .int 0, .int 0])), (q1, .inl (aC 0, 12, .inl (fun _ => 0)))] := hD
  refine lv_aload_n hx hb dk_3_12 rfl (lv_at hl 0 rfl) ?_
  refine lv_bipush (v := (12 : Int32)) hx hb dk_3_13 (by decide) ?_
  refine ct_newi hx hb (hts _ ct_ai) hK hP hD hS hA (by decide) rfl (by decide) (Nat.le_of_ble_eq_true rfl) (Nat.le_of_ble_eq_true rfl) dk_3_15 (fun q2 H hP hD hS => ?_)
  have hP : va_P D am_cl [(h0, .inr (3, [.ref q1, .null, .null, .null, .null, .null, .null, .null, .null, .null, .null, .int 0, .int 0, .int 0])), (q1, .inl (aC 0, 12, .inl (fun _ => 0))), (q2, .inl (aC 0, 12, .inl (fun _ => 0)))] H := hP
  have hD : va_D A [(h0, .inr (3, [.ref q1, .null, .null, .null, .null, .null, .null, .null, .null, .null, .null, .int 0, .int 0, .int 0])), (q1, .inl (aC 0, 12, .inl (fun _ => 0))), (q2, .inl (aC 0, 12, .inl (fun _ => 0)))] := hD
  refine ct_putF (ci := 3) (f := 1) (z := 2) (C := RX3) (T := TX3) (N := 14) (v := .ref q2) hx hb hts (am_ckf_ok (show am_ckf "PartedLand$Land" pf_3 13 (some (3, 1, 2)) = true from am_rng klf_3 13 (by decide))) rfl rfl rfl hin hown hK hP hD hS 0 rfl rfl rfl (Nat.le_of_ble_eq_true rfl) dk_3_17 (fun H locs hP hD hS => ?_)
  have hP : va_P D am_cl [(h0, .inr (3, [.ref q1, .ref q2, .null, .null, .null, .null, .null, .null, .null, .null, .null, .int 0, .int 0, .int 0])), (q1, .inl (aC 0, 12, .inl (fun _ => 0))), (q2, .inl (aC 0, 12, .inl (fun _ => 0)))] H := hP
  have hD : va_D A [(h0, .inr (3, [.ref q1, .ref q2, .null, .null, .null, .null, .null, .null, .null, .null, .null, .int 0, .int 0, .int 0])), (q1, .inl (aC 0, 12, .inl (fun _ => 0))), (q2, .inl (aC 0, 12, .inl (fun _ => 0)))] := hD
  refine lv_aload_n hx hb dk_3_20 rfl (lv_at hl 0 rfl) ?_
  refine lv_bipush (v := (12 : Int32)) hx hb dk_3_21 (by decide) ?_
  refine ct_newi hx hb (hts _ ct_ai) hK hP hD hS hA (by decide) rfl (by decide) (Nat.le_of_ble_eq_true rfl) (Nat.le_of_ble_eq_true rfl) dk_3_23 (fun q3 H hP hD hS => ?_)
  have hP : va_P D am_cl [(h0, .inr (3, [.ref q1, .ref q2, .null, .null, .null, .null, .null, .null, .null, .null, .null, .int 0, .int 0, .int 0])), (q1, .inl (aC 0, 12, .inl (fun _ => 0))), (q2, .inl (aC 0, 12, .inl (fun _ => 0))), (q3, .inl (aC 0, 12, .inl (fun _ => 0)))] H := hP
  have hD : va_D A [(h0, .inr (3, [.ref q1, .ref q2, .null, .null, .null, .null, .null, .null, .null, .null, .null, .int 0, .int 0, .int 0])), (q1, .inl (aC 0, 12, .inl (fun _ => 0))), (q2, .inl (aC 0, 12, .inl (fun _ => 0))), (q3, .inl (aC 0, 12, .inl (fun _ => 0)))] := hD
  refine ct_putF (ci := 3) (f := 2) (z := 2) (C := RX3) (T := TX3) (N := 14) (v := .ref q3) hx hb hts (am_ckf_ok (show am_ckf "PartedLand$Land" pf_3 16 (some (3, 2, 2)) = true from am_rng klf_3 16 (by decide))) rfl rfl rfl hin hown hK hP hD hS 0 rfl rfl rfl (Nat.le_of_ble_eq_true rfl) dk_3_25 (fun H locs hP hD hS => ?_)
  have hP : va_P D am_cl [(h0, .inr (3, [.ref q1, .ref q2, .ref q3, .null, .null, .null, .null, .null, .null, .null, .null, .int 0, .int 0, .int 0])), (q1, .inl (aC 0, 12, .inl (fun _ => 0))), (q2, .inl (aC 0, 12, .inl (fun _ => 0))), (q3, .inl (aC 0, 12, .inl (fun _ => 0)))] H := hP
  have hD : va_D A [(h0, .inr (3, [.ref q1, .ref q2, .ref q3, .null, .null, .null, .null, .null, .null, .null, .null, .int 0, .int 0, .int 0])), (q1, .inl (aC 0, 12, .inl (fun _ => 0))), (q2, .inl (aC 0, 12, .inl (fun _ => 0))), (q3, .inl (aC 0, 12, .inl (fun _ => 0)))] := hD
  refine lv_aload_n hx hb dk_3_28 rfl (lv_at hl 0 rfl) ?_
  refine lv_iconst (v := (2 : Int32)) hx hb dk_3_29 (by decide) ?_
  refine ct_newi hx hb (hts _ ct_ai) hK hP hD hS hA (by decide) rfl (by decide) (Nat.le_of_ble_eq_true rfl) (Nat.le_of_ble_eq_true rfl) dk_3_30 (fun q4 H hP hD hS => ?_)
  have hP : va_P D am_cl [(h0, .inr (3, [.ref q1, .ref q2, .ref q3, .null, .null, .null, .null, .null, .null, .null, .null, .int 0, .int 0, .int 0])), (q1, .inl (aC 0, 12, .inl (fun _ => 0))), (q2, .inl (aC 0, 12, .inl (fun _ => 0))), (q3, .inl (aC 0, 12, .inl (fun _ => 0))), (q4, .inl (aC 0, 2, .inl (fun _ => 0)))] H := hP
  have hD : va_D A [(h0, .inr (3, [.ref q1, .ref q2, .ref q3, .null, .null, .null, .null, .null, .null, .null, .null, .int 0, .int 0, .int 0])), (q1, .inl (aC 0, 12, .inl (fun _ => 0))), (q2, .inl (aC 0, 12, .inl (fun _ => 0))), (q3, .inl (aC 0, 12, .inl (fun _ => 0))), (q4, .inl (aC 0, 2, .inl (fun _ => 0)))] := hD
  refine ct_putF (ci := 3) (f := 3) (z := 2) (C := RX3) (T := TX3) (N := 14) (v := .ref q4) hx hb hts (am_ckf_ok (show am_ckf "PartedLand$Land" pf_3 19 (some (3, 3, 2)) = true from am_rng klf_3 19 (by decide))) rfl rfl rfl hin hown hK hP hD hS 0 rfl rfl rfl (Nat.le_of_ble_eq_true rfl) dk_3_32 (fun H locs hP hD hS => ?_)
  have hP : va_P D am_cl [(h0, .inr (3, [.ref q1, .ref q2, .ref q3, .ref q4, .null, .null, .null, .null, .null, .null, .null, .int 0, .int 0, .int 0])), (q1, .inl (aC 0, 12, .inl (fun _ => 0))), (q2, .inl (aC 0, 12, .inl (fun _ => 0))), (q3, .inl (aC 0, 12, .inl (fun _ => 0))), (q4, .inl (aC 0, 2, .inl (fun _ => 0)))] H := hP
  have hD : va_D A [(h0, .inr (3, [.ref q1, .ref q2, .ref q3, .ref q4, .null, .null, .null, .null, .null, .null, .null, .int 0, .int 0, .int 0])), (q1, .inl (aC 0, 12, .inl (fun _ => 0))), (q2, .inl (aC 0, 12, .inl (fun _ => 0))), (q3, .inl (aC 0, 12, .inl (fun _ => 0))), (q4, .inl (aC 0, 2, .inl (fun _ => 0)))] := hD
  refine lv_aload_n hx hb dk_3_35 rfl (lv_at hl 0 rfl) ?_
  refine lv_bipush (v := (30 : Int32)) hx hb dk_3_36 (by decide) ?_
  refine ct_newi hx hb (hts _ ct_ai) hK hP hD hS hA (by decide) rfl (by decide) (Nat.le_of_ble_eq_true rfl) (Nat.le_of_ble_eq_true rfl) dk_3_38 (fun q5 H hP hD hS => ?_)
  have hP : va_P D am_cl [(h0, .inr (3, [.ref q1, .ref q2, .ref q3, .ref q4, .null, .null, .null, .null, .null, .null, .null, .int 0, .int 0, .int 0])), (q1, .inl (aC 0, 12, .inl (fun _ => 0))), (q2, .inl (aC 0, 12, .inl (fun _ => 0))), (q3, .inl (aC 0, 12, .inl (fun _ => 0))), (q4, .inl (aC 0, 2, .inl (fun _ => 0))), (q5, .inl (aC 0, 30, .inl (fun _ => 0)))] H := hP
  have hD : va_D A [(h0, .inr (3, [.ref q1, .ref q2, .ref q3, .ref q4, .null, .null, .null, .null, .null, .null, .null, .int 0, .int 0, .int 0])), (q1, .inl (aC 0, 12, .inl (fun _ => 0))), (q2, .inl (aC 0, 12, .inl (fun _ => 0))), (q3, .inl (aC 0, 12, .inl (fun _ => 0))), (q4, .inl (aC 0, 2, .inl (fun _ => 0))), (q5, .inl (aC 0, 30, .inl (fun _ => 0)))] := hD
  refine ct_putF (ci := 3) (f := 4) (z := 2) (C := RX3) (T := TX3) (N := 14) (v := .ref q5) hx hb hts (am_ckf_ok (show am_ckf "PartedLand$Land" pf_3 22 (some (3, 4, 2)) = true from am_rng klf_3 22 (by decide))) rfl rfl rfl hin hown hK hP hD hS 0 rfl rfl rfl (Nat.le_of_ble_eq_true rfl) dk_3_40 (fun H locs hP hD hS => ?_)
  have hP : va_P D am_cl [(h0, .inr (3, [.ref q1, .ref q2, .ref q3, .ref q4, .ref q5, .null, .null, .null, .null, .null, .null, .int 0, .int 0, .int 0])), (q1, .inl (aC 0, 12, .inl (fun _ => 0))), (q2, .inl (aC 0, 12, .inl (fun _ => 0))), (q3, .inl (aC 0, 12, .inl (fun _ => 0))), (q4, .inl (aC 0, 2, .inl (fun _ => 0))), (q5, .inl (aC 0, 30, .inl (fun _ => 0)))] H := hP
  have hD : va_D A [(h0, .inr (3, [.ref q1, .ref q2, .ref q3, .ref q4, .ref q5, .null, .null, .null, .null, .null, .null, .int 0, .int 0, .int 0])), (q1, .inl (aC 0, 12, .inl (fun _ => 0))), (q2, .inl (aC 0, 12, .inl (fun _ => 0))), (q3, .inl (aC 0, 12, .inl (fun _ => 0))), (q4, .inl (aC 0, 2, .inl (fun _ => 0))), (q5, .inl (aC 0, 30, .inl (fun _ => 0)))] := hD
  refine lv_aload_n hx hb dk_3_43 rfl (lv_at hl 0 rfl) ?_
  refine lv_bipush (v := (30 : Int32)) hx hb dk_3_44 (by decide) ?_
  refine ct_newi hx hb (hts _ ct_ai) hK hP hD hS hA (by decide) rfl (by decide) (Nat.le_of_ble_eq_true rfl) (Nat.le_of_ble_eq_true rfl) dk_3_46 (fun q6 H hP hD hS => ?_)
  have hP : va_P D am_cl [(h0, .inr (3, [.ref q1, .ref q2, .ref q3, .ref q4, .ref q5, .null, .null, .null, .null, .null, .null, .int 0, .int 0, .int 0])), (q1, .inl (aC 0, 12, .inl (fun _ => 0))), (q2, .inl (aC 0, 12, .inl (fun _ => 0))), (q3, .inl (aC 0, 12, .inl (fun _ => 0))), (q4, .inl (aC 0, 2, .inl (fun _ => 0))), (q5, .inl (aC 0, 30, .inl (fun _ => 0))), (q6, .inl (aC 0, 30, .inl (fun _ => 0)))] H := hP
  have hD : va_D A [(h0, .inr (3, [.ref q1, .ref q2, .ref q3, .ref q4, .ref q5, .null, .null, .null, .null, .null, .null, .int 0, .int 0, .int 0])), (q1, .inl (aC 0, 12, .inl (fun _ => 0))), (q2, .inl (aC 0, 12, .inl (fun _ => 0))), (q3, .inl (aC 0, 12, .inl (fun _ => 0))), (q4, .inl (aC 0, 2, .inl (fun _ => 0))), (q5, .inl (aC 0, 30, .inl (fun _ => 0))), (q6, .inl (aC 0, 30, .inl (fun _ => 0)))] := hD
  refine ct_putF (ci := 3) (f := 5) (z := 2) (C := RX3) (T := TX3) (N := 14) (v := .ref q6) hx hb hts (am_ckf_ok (show am_ckf "PartedLand$Land" pf_3 25 (some (3, 5, 2)) = true from am_rng klf_3 25 (by decide))) rfl rfl rfl hin hown hK hP hD hS 0 rfl rfl rfl (Nat.le_of_ble_eq_true rfl) dk_3_48 (fun H locs hP hD hS => ?_)
  have hP : va_P D am_cl [(h0, .inr (3, [.ref q1, .ref q2, .ref q3, .ref q4, .ref q5, .ref q6, .null, .null, .null, .null, .null, .int 0, .int 0, .int 0])), (q1, .inl (aC 0, 12, .inl (fun _ => 0))), (q2, .inl (aC 0, 12, .inl (fun _ => 0))), (q3, .inl (aC 0, 12, .inl (fun _ => 0))), (q4, .inl (aC 0, 2, .inl (fun _ => 0))), (q5, .inl (aC 0, 30, .inl (fun _ => 0))), (q6, .inl (aC 0, 30, .inl (fun _ => 0)))] H := hP
  have hD : va_D A [(h0, .inr (3, [.ref q1, .ref q2, .ref q3, .ref q4, .ref q5, .ref q6, .null, .null, .null, .null, .null, .int 0, .int 0, .int 0])), (q1, .inl (aC 0, 12, .inl (fun _ => 0))), (q2, .inl (aC 0, 12, .inl (fun _ => 0))), (q3, .inl (aC 0, 12, .inl (fun _ => 0))), (q4, .inl (aC 0, 2, .inl (fun _ => 0))), (q5, .inl (aC 0, 30, .inl (fun _ => 0))), (q6, .inl (aC 0, 30, .inl (fun _ => 0)))] := hD
  refine lv_aload_n hx hb dk_3_51 rfl (lv_at hl 0 rfl) ?_
  refine lv_bipush (v := (30 : Int32)) hx hb dk_3_52 (by decide) ?_
  refine ct_newi hx hb (hts _ ct_ai) hK hP hD hS hA (by decide) rfl (by decide) (Nat.le_of_ble_eq_true rfl) (Nat.le_of_ble_eq_true rfl) dk_3_54 (fun q7 H hP hD hS => ?_)
  have hP : va_P D am_cl [(h0, .inr (3, [.ref q1, .ref q2, .ref q3, .ref q4, .ref q5, .ref q6, .null, .null, .null, .null, .null, .int 0, .int 0, .int 0])), (q1, .inl (aC 0, 12, .inl (fun _ => 0))), (q2, .inl (aC 0, 12, .inl (fun _ => 0))), (q3, .inl (aC 0, 12, .inl (fun _ => 0))), (q4, .inl (aC 0, 2, .inl (fun _ => 0))), (q5, .inl (aC 0, 30, .inl (fun _ => 0))), (q6, .inl (aC 0, 30, .inl (fun _ => 0))), (q7, .inl (aC 0, 30, .inl (fun _ => 0)))] H := hP
  have hD : va_D A [(h0, .inr (3, [.ref q1, .ref q2, .ref q3, .ref q4, .ref q5, .ref q6, .null, .null, .null, .null, .null, .int 0, .int 0, .int 0])), (q1, .inl (aC 0, 12, .inl (fun _ => 0))), (q2, .inl (aC 0, 12, .inl (fun _ => 0))), (q3, .inl (aC 0, 12, .inl (fun _ => 0))), (q4, .inl (aC 0, 2, .inl (fun _ => 0))), (q5, .inl (aC 0, 30, .inl (fun _ => 0))), (q6, .inl (aC 0, 30, .inl (fun _ => 0))), (q7, .inl (aC 0, 30, .inl (fun _ => 0)))] := hD
  refine ct_putF (ci := 3) (f := 6) (z := 2) (C := RX3) (T := TX3) (N := 14) (v := .ref q7) hx hb hts (am_ckf_ok (show am_ckf "PartedLand$Land" pf_3 28 (some (3, 6, 2)) = true from am_rng klf_3 28 (by decide))) rfl rfl rfl hin hown hK hP hD hS 0 rfl rfl rfl (Nat.le_of_ble_eq_true rfl) dk_3_56 (fun H locs hP hD hS => ?_)
  have hP : va_P D am_cl [(h0, .inr (3, [.ref q1, .ref q2, .ref q3, .ref q4, .ref q5, .ref q6, .ref q7, .null, .null, .null, .null, .int 0, .int 0, .int 0])), (q1, .inl (aC 0, 12, .inl (fun _ => 0))), (q2, .inl (aC 0, 12, .inl (fun _ => 0))), (q3, .inl (aC 0, 12, .inl (fun _ => 0))), (q4, .inl (aC 0, 2, .inl (fun _ => 0))), (q5, .inl (aC 0, 30, .inl (fun _ => 0))), (q6, .inl (aC 0, 30, .inl (fun _ => 0))), (q7, .inl (aC 0, 30, .inl (fun _ => 0)))] H := hP
  have hD : va_D A [(h0, .inr (3, [.ref q1, .ref q2, .ref q3, .ref q4, .ref q5, .ref q6, .ref q7, .null, .null, .null, .null, .int 0, .int 0, .int 0])), (q1, .inl (aC 0, 12, .inl (fun _ => 0))), (q2, .inl (aC 0, 12, .inl (fun _ => 0))), (q3, .inl (aC 0, 12, .inl (fun _ => 0))), (q4, .inl (aC 0, 2, .inl (fun _ => 0))), (q5, .inl (aC 0, 30, .inl (fun _ => 0))), (q6, .inl (aC 0, 30, .inl (fun _ => 0))), (q7, .inl (aC 0, 30, .inl (fun _ => 0)))] := hD
  refine lv_aload_n hx hb dk_3_59 rfl (lv_at hl 0 rfl) ?_
  refine lv_bipush (v := (30 : Int32)) hx hb dk_3_60 (by decide) ?_
  refine ct_newz hx hb (hts _ ct_az) hK hP hD hS hA (by decide) rfl (by decide) (Nat.le_of_ble_eq_true rfl) (Nat.le_of_ble_eq_true rfl) dk_3_62 (fun q8 H hP hD hS => ?_)
  have hP : va_P D am_cl [(h0, .inr (3, [.ref q1, .ref q2, .ref q3, .ref q4, .ref q5, .ref q6, .ref q7, .null, .null, .null, .null, .int 0, .int 0, .int 0])), (q1, .inl (aC 0, 12, .inl (fun _ => 0))), (q2, .inl (aC 0, 12, .inl (fun _ => 0))), (q3, .inl (aC 0, 12, .inl (fun _ => 0))), (q4, .inl (aC 0, 2, .inl (fun _ => 0))), (q5, .inl (aC 0, 30, .inl (fun _ => 0))), (q6, .inl (aC 0, 30, .inl (fun _ => 0))), (q7, .inl (aC 0, 30, .inl (fun _ => 0))), (q8, .inl (aC 1, 30, .inl (fun _ => 0)))] H := hP
  have hD : va_D A [(h0, .inr (3, [.ref q1, .ref q2, .ref q3, .ref q4, .ref q5, .ref q6, .ref q7, .null, .null, .null, .null, .int 0, .int 0, .int 0])), (q1, .inl (aC 0, 12, .inl (fun _ => 0))), (q2, .inl (aC 0, 12, .inl (fun _ => 0))), (q3, .inl (aC 0, 12, .inl (fun _ => 0))), (q4, .inl (aC 0, 2, .inl (fun _ => 0))), (q5, .inl (aC 0, 30, .inl (fun _ => 0))), (q6, .inl (aC 0, 30, .inl (fun _ => 0))), (q7, .inl (aC 0, 30, .inl (fun _ => 0))), (q8, .inl (aC 1, 30, .inl (fun _ => 0)))] := hD
  refine ct_putF (ci := 3) (f := 7) (z := 2) (C := RX3) (T := TX3) (N := 14) (v := .ref q8) hx hb hts (am_ckf_ok (show am_ckf "PartedLand$Land" pf_3 31 (some (3, 7, 2)) = true from am_rng klf_3 31 (by decide))) rfl rfl rfl hin hown hK hP hD hS 0 rfl rfl rfl (Nat.le_of_ble_eq_true rfl) dk_3_64 (fun H locs hP hD hS => ?_)
  have hP : va_P D am_cl [(h0, .inr (3, [.ref q1, .ref q2, .ref q3, .ref q4, .ref q5, .ref q6, .ref q7, .ref q8, .null, .null, .null, .int 0, .int 0, .int 0])), (q1, .inl (aC 0, 12, .inl (fun _ => 0))), (q2, .inl (aC 0, 12, .inl (fun _ => 0))), (q3, .inl (aC 0, 12, .inl (fun _ => 0))), (q4, .inl (aC 0, 2, .inl (fun _ => 0))), (q5, .inl (aC 0, 30, .inl (fun _ => 0))), (q6, .inl (aC 0, 30, .inl (fun _ => 0))), (q7, .inl (aC 0, 30, .inl (fun _ => 0))), (q8, .inl (aC 1, 30, .inl (fun _ => 0)))] H := hP
  have hD : va_D A [(h0, .inr (3, [.ref q1, .ref q2, .ref q3, .ref q4, .ref q5, .ref q6, .ref q7, .ref q8, .null, .null, .null, .int 0, .int 0, .int 0])), (q1, .inl (aC 0, 12, .inl (fun _ => 0))), (q2, .inl (aC 0, 12, .inl (fun _ => 0))), (q3, .inl (aC 0, 12, .inl (fun _ => 0))), (q4, .inl (aC 0, 2, .inl (fun _ => 0))), (q5, .inl (aC 0, 30, .inl (fun _ => 0))), (q6, .inl (aC 0, 30, .inl (fun _ => 0))), (q7, .inl (aC 0, 30, .inl (fun _ => 0))), (q8, .inl (aC 1, 30, .inl (fun _ => 0)))] := hD
  refine lv_aload_n hx hb dk_3_67 rfl (lv_at hl 0 rfl) ?_
  refine lv_bipush (v := (8 : Int32)) hx hb dk_3_68 (by decide) ?_
  refine ct_newi hx hb (hts _ ct_ai) hK hP hD hS hA (by decide) rfl (by decide) (Nat.le_of_ble_eq_true rfl) (Nat.le_of_ble_eq_true rfl) dk_3_70 (fun q9 H hP hD hS => ?_)
  have hP : va_P D am_cl [(h0, .inr (3, [.ref q1, .ref q2, .ref q3, .ref q4, .ref q5, .ref q6, .ref q7, .ref q8, .null, .null, .null, .int 0, .int 0, .int 0])), (q1, .inl (aC 0, 12, .inl (fun _ => 0))), (q2, .inl (aC 0, 12, .inl (fun _ => 0))), (q3, .inl (aC 0, 12, .inl (fun _ => 0))), (q4, .inl (aC 0, 2, .inl (fun _ => 0))), (q5, .inl (aC 0, 30, .inl (fun _ => 0))), (q6, .inl (aC 0, 30, .inl (fun _ => 0))), (q7, .inl (aC 0, 30, .inl (fun _ => 0))), (q8, .inl (aC 1, 30, .inl (fun _ => 0))), (q9, .inl (aC 0, 8, .inl (fun _ => 0)))] H := hP
  have hD : va_D A [(h0, .inr (3, [.ref q1, .ref q2, .ref q3, .ref q4, .ref q5, .ref q6, .ref q7, .ref q8, .null, .null, .null, .int 0, .int 0, .int 0])), (q1, .inl (aC 0, 12, .inl (fun _ => 0))), (q2, .inl (aC 0, 12, .inl (fun _ => 0))), (q3, .inl (aC 0, 12, .inl (fun _ => 0))), (q4, .inl (aC 0, 2, .inl (fun _ => 0))), (q5, .inl (aC 0, 30, .inl (fun _ => 0))), (q6, .inl (aC 0, 30, .inl (fun _ => 0))), (q7, .inl (aC 0, 30, .inl (fun _ => 0))), (q8, .inl (aC 1, 30, .inl (fun _ => 0))), (q9, .inl (aC 0, 8, .inl (fun _ => 0)))] := hD
  refine ct_putF (ci := 3) (f := 8) (z := 2) (C := RX3) (T := TX3) (N := 14) (v := .ref q9) hx hb hts (am_ckf_ok (show am_ckf "PartedLand$Land" pf_3 35 (some (3, 8, 2)) = true from am_rng klf_3 35 (by decide))) rfl rfl rfl hin hown hK hP hD hS 0 rfl rfl rfl (Nat.le_of_ble_eq_true rfl) dk_3_72 (fun H locs hP hD hS => ?_)
  have hP : va_P D am_cl [(h0, .inr (3, [.ref q1, .ref q2, .ref q3, .ref q4, .ref q5, .ref q6, .ref q7, .ref q8, .ref q9, .null, .null, .int 0, .int 0, .int 0])), (q1, .inl (aC 0, 12, .inl (fun _ => 0))), (q2, .inl (aC 0, 12, .inl (fun _ => 0))), (q3, .inl (aC 0, 12, .inl (fun _ => 0))), (q4, .inl (aC 0, 2, .inl (fun _ => 0))), (q5, .inl (aC 0, 30, .inl (fun _ => 0))), (q6, .inl (aC 0, 30, .inl (fun _ => 0))), (q7, .inl (aC 0, 30, .inl (fun _ => 0))), (q8, .inl (aC 1, 30, .inl (fun _ => 0))), (q9, .inl (aC 0, 8, .inl (fun _ => 0)))] H := hP
  have hD : va_D A [(h0, .inr (3, [.ref q1, .ref q2, .ref q3, .ref q4, .ref q5, .ref q6, .ref q7, .ref q8, .ref q9, .null, .null, .int 0, .int 0, .int 0])), (q1, .inl (aC 0, 12, .inl (fun _ => 0))), (q2, .inl (aC 0, 12, .inl (fun _ => 0))), (q3, .inl (aC 0, 12, .inl (fun _ => 0))), (q4, .inl (aC 0, 2, .inl (fun _ => 0))), (q5, .inl (aC 0, 30, .inl (fun _ => 0))), (q6, .inl (aC 0, 30, .inl (fun _ => 0))), (q7, .inl (aC 0, 30, .inl (fun _ => 0))), (q8, .inl (aC 1, 30, .inl (fun _ => 0))), (q9, .inl (aC 0, 8, .inl (fun _ => 0)))] := hD
  refine lv_aload_n hx hb dk_3_75 rfl (lv_at hl 0 rfl) ?_
  refine lv_bipush (v := (8 : Int32)) hx hb dk_3_76 (by decide) ?_
  refine ct_newi hx hb (hts _ ct_ai) hK hP hD hS hA (by decide) rfl (by decide) (Nat.le_of_ble_eq_true rfl) (Nat.le_of_ble_eq_true rfl) dk_3_78 (fun q10 H hP hD hS => ?_)
  have hP : va_P D am_cl [(h0, .inr (3, [.ref q1, .ref q2, .ref q3, .ref q4, .ref q5, .ref q6, .ref q7, .ref q8, .ref q9, .null, .null, .int 0, .int 0, .int 0])), (q1, .inl (aC 0, 12, .inl (fun _ => 0))), (q2, .inl (aC 0, 12, .inl (fun _ => 0))), (q3, .inl (aC 0, 12, .inl (fun _ => 0))), (q4, .inl (aC 0, 2, .inl (fun _ => 0))), (q5, .inl (aC 0, 30, .inl (fun _ => 0))), (q6, .inl (aC 0, 30, .inl (fun _ => 0))), (q7, .inl (aC 0, 30, .inl (fun _ => 0))), (q8, .inl (aC 1, 30, .inl (fun _ => 0))), (q9, .inl (aC 0, 8, .inl (fun _ => 0))), (q10, .inl (aC 0, 8, .inl (fun _ => 0)))] H := hP
  have hD : va_D A [(h0, .inr (3, [.ref q1, .ref q2, .ref q3, .ref q4, .ref q5, .ref q6, .ref q7, .ref q8, .ref q9, .null, .null, .int 0, .int 0, .int 0])), (q1, .inl (aC 0, 12, .inl (fun _ => 0))), (q2, .inl (aC 0, 12, .inl (fun _ => 0))), (q3, .inl (aC 0, 12, .inl (fun _ => 0))), (q4, .inl (aC 0, 2, .inl (fun _ => 0))), (q5, .inl (aC 0, 30, .inl (fun _ => 0))), (q6, .inl (aC 0, 30, .inl (fun _ => 0))), (q7, .inl (aC 0, 30, .inl (fun _ => 0))), (q8, .inl (aC 1, 30, .inl (fun _ => 0))), (q9, .inl (aC 0, 8, .inl (fun _ => 0))), (q10, .inl (aC 0, 8, .inl (fun _ => 0)))] := hD
  refine ct_putF (ci := 3) (f := 9) (z := 2) (C := RX3) (T := TX3) (N := 14) (v := .ref q10) hx hb hts (am_ckf_ok (show am_ckf "PartedLand$Land" pf_3 38 (some (3, 9, 2)) = true from am_rng klf_3 38 (by decide))) rfl rfl rfl hin hown hK hP hD hS 0 rfl rfl rfl (Nat.le_of_ble_eq_true rfl) dk_3_80 (fun H locs hP hD hS => ?_)
  have hP : va_P D am_cl [(h0, .inr (3, [.ref q1, .ref q2, .ref q3, .ref q4, .ref q5, .ref q6, .ref q7, .ref q8, .ref q9, .ref q10, .null, .int 0, .int 0, .int 0])), (q1, .inl (aC 0, 12, .inl (fun _ => 0))), (q2, .inl (aC 0, 12, .inl (fun _ => 0))), (q3, .inl (aC 0, 12, .inl (fun _ => 0))), (q4, .inl (aC 0, 2, .inl (fun _ => 0))), (q5, .inl (aC 0, 30, .inl (fun _ => 0))), (q6, .inl (aC 0, 30, .inl (fun _ => 0))), (q7, .inl (aC 0, 30, .inl (fun _ => 0))), (q8, .inl (aC 1, 30, .inl (fun _ => 0))), (q9, .inl (aC 0, 8, .inl (fun _ => 0))), (q10, .inl (aC 0, 8, .inl (fun _ => 0)))] H := hP
  have hD : va_D A [(h0, .inr (3, [.ref q1, .ref q2, .ref q3, .ref q4, .ref q5, .ref q6, .ref q7, .ref q8, .ref q9, .ref q10, .null, .int 0, .int 0, .int 0])), (q1, .inl (aC 0, 12, .inl (fun _ => 0))), (q2, .inl (aC 0, 12, .inl (fun _ => 0))), (q3, .inl (aC 0, 12, .inl (fun _ => 0))), (q4, .inl (aC 0, 2, .inl (fun _ => 0))), (q5, .inl (aC 0, 30, .inl (fun _ => 0))), (q6, .inl (aC 0, 30, .inl (fun _ => 0))), (q7, .inl (aC 0, 30, .inl (fun _ => 0))), (q8, .inl (aC 1, 30, .inl (fun _ => 0))), (q9, .inl (aC 0, 8, .inl (fun _ => 0))), (q10, .inl (aC 0, 8, .inl (fun _ => 0)))] := hD
  refine lv_aload_n hx hb dk_3_83 rfl (lv_at hl 0 rfl) ?_
  refine lv_bipush (v := (12 : Int32)) hx hb dk_3_84 (by decide) ?_
  refine ct_newi hx hb (hts _ ct_ai) hK hP hD hS hA (by decide) rfl (by decide) (Nat.le_of_ble_eq_true rfl) (Nat.le_of_ble_eq_true rfl) dk_3_86 (fun q11 H hP hD hS => ?_)
  have hP : va_P D am_cl [(h0, .inr (3, [.ref q1, .ref q2, .ref q3, .ref q4, .ref q5, .ref q6, .ref q7, .ref q8, .ref q9, .ref q10, .null, .int 0, .int 0, .int 0])), (q1, .inl (aC 0, 12, .inl (fun _ => 0))), (q2, .inl (aC 0, 12, .inl (fun _ => 0))), (q3, .inl (aC 0, 12, .inl (fun _ => 0))), (q4, .inl (aC 0, 2, .inl (fun _ => 0))), (q5, .inl (aC 0, 30, .inl (fun _ => 0))), (q6, .inl (aC 0, 30, .inl (fun _ => 0))), (q7, .inl (aC 0, 30, .inl (fun _ => 0))), (q8, .inl (aC 1, 30, .inl (fun _ => 0))), (q9, .inl (aC 0, 8, .inl (fun _ => 0))), (q10, .inl (aC 0, 8, .inl (fun _ => 0))), (q11, .inl (aC 0, 12, .inl (fun _ => 0)))] H := hP
  have hD : va_D A [(h0, .inr (3, [.ref q1, .ref q2, .ref q3, .ref q4, .ref q5, .ref q6, .ref q7, .ref q8, .ref q9, .ref q10, .null, .int 0, .int 0, .int 0])), (q1, .inl (aC 0, 12, .inl (fun _ => 0))), (q2, .inl (aC 0, 12, .inl (fun _ => 0))), (q3, .inl (aC 0, 12, .inl (fun _ => 0))), (q4, .inl (aC 0, 2, .inl (fun _ => 0))), (q5, .inl (aC 0, 30, .inl (fun _ => 0))), (q6, .inl (aC 0, 30, .inl (fun _ => 0))), (q7, .inl (aC 0, 30, .inl (fun _ => 0))), (q8, .inl (aC 1, 30, .inl (fun _ => 0))), (q9, .inl (aC 0, 8, .inl (fun _ => 0))), (q10, .inl (aC 0, 8, .inl (fun _ => 0))), (q11, .inl (aC 0, 12, .inl (fun _ => 0)))] := hD
  refine ct_putF (ci := 3) (f := 10) (z := 2) (C := RX3) (T := TX3) (N := 14) (v := .ref q11) hx hb hts (am_ckf_ok (show am_ckf "PartedLand$Land" pf_3 41 (some (3, 10, 2)) = true from am_rng klf_3 41 (by decide))) rfl rfl rfl hin hown hK hP hD hS 0 rfl rfl rfl (Nat.le_of_ble_eq_true rfl) dk_3_88 (fun H locs hP hD hS => ?_)
  have hP : va_P D am_cl [(h0, .inr (3, [.ref q1, .ref q2, .ref q3, .ref q4, .ref q5, .ref q6, .ref q7, .ref q8, .ref q9, .ref q10, .ref q11, .int 0, .int 0, .int 0])), (q1, .inl (aC 0, 12, .inl (fun _ => 0))), (q2, .inl (aC 0, 12, .inl (fun _ => 0))), (q3, .inl (aC 0, 12, .inl (fun _ => 0))), (q4, .inl (aC 0, 2, .inl (fun _ => 0))), (q5, .inl (aC 0, 30, .inl (fun _ => 0))), (q6, .inl (aC 0, 30, .inl (fun _ => 0))), (q7, .inl (aC 0, 30, .inl (fun _ => 0))), (q8, .inl (aC 1, 30, .inl (fun _ => 0))), (q9, .inl (aC 0, 8, .inl (fun _ => 0))), (q10, .inl (aC 0, 8, .inl (fun _ => 0))), (q11, .inl (aC 0, 12, .inl (fun _ => 0)))] H := hP
  have hD : va_D A [(h0, .inr (3, [.ref q1, .ref q2, .ref q3, .ref q4, .ref q5, .ref q6, .ref q7, .ref q8, .ref q9, .ref q10, .ref q11, .int 0, .int 0, .int 0])), (q1, .inl (aC 0, 12, .inl (fun _ => 0))), (q2, .inl (aC 0, 12, .inl (fun _ => 0))), (q3, .inl (aC 0, 12, .inl (fun _ => 0))), (q4, .inl (aC 0, 2, .inl (fun _ => 0))), (q5, .inl (aC 0, 30, .inl (fun _ => 0))), (q6, .inl (aC 0, 30, .inl (fun _ => 0))), (q7, .inl (aC 0, 30, .inl (fun _ => 0))), (q8, .inl (aC 1, 30, .inl (fun _ => 0))), (q9, .inl (aC 0, 8, .inl (fun _ => 0))), (q10, .inl (aC 0, 8, .inl (fun _ => 0))), (q11, .inl (aC 0, 12, .inl (fun _ => 0)))] := hD
  refine lv_aload_n hx hb dk_3_91 rfl (lv_at hl 0 rfl) ?_
  refine lv_iconst (v := (0 : Int32)) hx hb dk_3_92 (by decide) ?_
  refine ct_put (ci := 3) (f := 11) (z := 0) (C := RX3) (T := TX3) (N := 14) (v := .int (0 : Int32)) hx hb hts (am_ckf_ok (show am_ckf "PartedLand$Land" pf_3 44 (some (3, 11, 0)) = true from am_rng klf_3 44 (by decide))) rfl rfl hown hK hP hD hS 0 rfl rfl rfl (Nat.le_of_ble_eq_true rfl) dk_3_93 (fun H locs hP hD hS => ?_)
  have hP : va_P D am_cl [(h0, .inr (3, [.ref q1, .ref q2, .ref q3, .ref q4, .ref q5, .ref q6, .ref q7, .ref q8, .ref q9, .ref q10, .ref q11, .int (0 : Int32), .int 0, .int 0])), (q1, .inl (aC 0, 12, .inl (fun _ => 0))), (q2, .inl (aC 0, 12, .inl (fun _ => 0))), (q3, .inl (aC 0, 12, .inl (fun _ => 0))), (q4, .inl (aC 0, 2, .inl (fun _ => 0))), (q5, .inl (aC 0, 30, .inl (fun _ => 0))), (q6, .inl (aC 0, 30, .inl (fun _ => 0))), (q7, .inl (aC 0, 30, .inl (fun _ => 0))), (q8, .inl (aC 1, 30, .inl (fun _ => 0))), (q9, .inl (aC 0, 8, .inl (fun _ => 0))), (q10, .inl (aC 0, 8, .inl (fun _ => 0))), (q11, .inl (aC 0, 12, .inl (fun _ => 0)))] H := hP
  have hD : va_D A [(h0, .inr (3, [.ref q1, .ref q2, .ref q3, .ref q4, .ref q5, .ref q6, .ref q7, .ref q8, .ref q9, .ref q10, .ref q11, .int (0 : Int32), .int 0, .int 0])), (q1, .inl (aC 0, 12, .inl (fun _ => 0))), (q2, .inl (aC 0, 12, .inl (fun _ => 0))), (q3, .inl (aC 0, 12, .inl (fun _ => 0))), (q4, .inl (aC 0, 2, .inl (fun _ => 0))), (q5, .inl (aC 0, 30, .inl (fun _ => 0))), (q6, .inl (aC 0, 30, .inl (fun _ => 0))), (q7, .inl (aC 0, 30, .inl (fun _ => 0))), (q8, .inl (aC 1, 30, .inl (fun _ => 0))), (q9, .inl (aC 0, 8, .inl (fun _ => 0))), (q10, .inl (aC 0, 8, .inl (fun _ => 0))), (q11, .inl (aC 0, 12, .inl (fun _ => 0)))] := hD
  refine lv_aload_n hx hb dk_3_96 rfl (lv_at hl 0 rfl) ?_
  refine lv_iconst (v := (0 : Int32)) hx hb dk_3_97 (by decide) ?_
  refine ct_put (ci := 3) (f := 12) (z := 0) (C := RX3) (T := TX3) (N := 14) (v := .int (0 : Int32)) hx hb hts (am_ckf_ok (show am_ckf "PartedLand$Land" pf_3 48 (some (3, 12, 0)) = true from am_rng klf_3 48 (by decide))) rfl rfl hown hK hP hD hS 0 rfl rfl rfl (Nat.le_of_ble_eq_true rfl) dk_3_98 (fun H locs hP hD hS => ?_)
  have hP : va_P D am_cl [(h0, .inr (3, [.ref q1, .ref q2, .ref q3, .ref q4, .ref q5, .ref q6, .ref q7, .ref q8, .ref q9, .ref q10, .ref q11, .int (0 : Int32), .int (0 : Int32), .int 0])), (q1, .inl (aC 0, 12, .inl (fun _ => 0))), (q2, .inl (aC 0, 12, .inl (fun _ => 0))), (q3, .inl (aC 0, 12, .inl (fun _ => 0))), (q4, .inl (aC 0, 2, .inl (fun _ => 0))), (q5, .inl (aC 0, 30, .inl (fun _ => 0))), (q6, .inl (aC 0, 30, .inl (fun _ => 0))), (q7, .inl (aC 0, 30, .inl (fun _ => 0))), (q8, .inl (aC 1, 30, .inl (fun _ => 0))), (q9, .inl (aC 0, 8, .inl (fun _ => 0))), (q10, .inl (aC 0, 8, .inl (fun _ => 0))), (q11, .inl (aC 0, 12, .inl (fun _ => 0)))] H := hP
  have hD : va_D A [(h0, .inr (3, [.ref q1, .ref q2, .ref q3, .ref q4, .ref q5, .ref q6, .ref q7, .ref q8, .ref q9, .ref q10, .ref q11, .int (0 : Int32), .int (0 : Int32), .int 0])), (q1, .inl (aC 0, 12, .inl (fun _ => 0))), (q2, .inl (aC 0, 12, .inl (fun _ => 0))), (q3, .inl (aC 0, 12, .inl (fun _ => 0))), (q4, .inl (aC 0, 2, .inl (fun _ => 0))), (q5, .inl (aC 0, 30, .inl (fun _ => 0))), (q6, .inl (aC 0, 30, .inl (fun _ => 0))), (q7, .inl (aC 0, 30, .inl (fun _ => 0))), (q8, .inl (aC 1, 30, .inl (fun _ => 0))), (q9, .inl (aC 0, 8, .inl (fun _ => 0))), (q10, .inl (aC 0, 8, .inl (fun _ => 0))), (q11, .inl (aC 0, 12, .inl (fun _ => 0)))] := hD
  refine lv_aload_n hx hb dk_3_101 rfl (lv_at hl 0 rfl) ?_
  refine lv_iconst (v := (0 : Int32)) hx hb dk_3_102 (by decide) ?_
  refine ct_put (ci := 3) (f := 13) (z := 0) (C := RX3) (T := TX3) (N := 14) (v := .int (0 : Int32)) hx hb hts (am_ckf_ok (show am_ckf "PartedLand$Land" pf_3 51 (some (3, 13, 0)) = true from am_rng klf_3 51 (by decide))) rfl rfl hown hK hP hD hS 0 rfl rfl rfl (Nat.le_of_ble_eq_true rfl) dk_3_103 (fun H locs hP hD hS => ?_)
  have hP : va_P D am_cl [(h0, .inr (3, [.ref q1, .ref q2, .ref q3, .ref q4, .ref q5, .ref q6, .ref q7, .ref q8, .ref q9, .ref q10, .ref q11, .int (0 : Int32), .int (0 : Int32), .int (0 : Int32)])), (q1, .inl (aC 0, 12, .inl (fun _ => 0))), (q2, .inl (aC 0, 12, .inl (fun _ => 0))), (q3, .inl (aC 0, 12, .inl (fun _ => 0))), (q4, .inl (aC 0, 2, .inl (fun _ => 0))), (q5, .inl (aC 0, 30, .inl (fun _ => 0))), (q6, .inl (aC 0, 30, .inl (fun _ => 0))), (q7, .inl (aC 0, 30, .inl (fun _ => 0))), (q8, .inl (aC 1, 30, .inl (fun _ => 0))), (q9, .inl (aC 0, 8, .inl (fun _ => 0))), (q10, .inl (aC 0, 8, .inl (fun _ => 0))), (q11, .inl (aC 0, 12, .inl (fun _ => 0)))] H := hP
  have hD : va_D A [(h0, .inr (3, [.ref q1, .ref q2, .ref q3, .ref q4, .ref q5, .ref q6, .ref q7, .ref q8, .ref q9, .ref q10, .ref q11, .int (0 : Int32), .int (0 : Int32), .int (0 : Int32)])), (q1, .inl (aC 0, 12, .inl (fun _ => 0))), (q2, .inl (aC 0, 12, .inl (fun _ => 0))), (q3, .inl (aC 0, 12, .inl (fun _ => 0))), (q4, .inl (aC 0, 2, .inl (fun _ => 0))), (q5, .inl (aC 0, 30, .inl (fun _ => 0))), (q6, .inl (aC 0, 30, .inl (fun _ => 0))), (q7, .inl (aC 0, 30, .inl (fun _ => 0))), (q8, .inl (aC 1, 30, .inl (fun _ => 0))), (q9, .inl (aC 0, 8, .inl (fun _ => 0))), (q10, .inl (aC 0, 8, .inl (fun _ => 0))), (q11, .inl (aC 0, 12, .inl (fun _ => 0)))] := hD
  have hP9 := hP.sub (ws' := ct_F3 aC h0 (fun i => (([h0, q1, q2, q3, q4, q5, q6, q7, q8, q9, q10, q11] : List Nat)[i]?).getD 0)) [0, 1, 2, 3, 4, 5, 6, 7, 8, 9, 10, 11] rfl
  have hD9 := hD.sub (ws' := ct_F3 aC h0 (fun i => (([h0, q1, q2, q3, q4, q5, q6, q7, q8, q9, q10, q11] : List Nat)[i]?).getD 0)) [0, 1, 2, 3, 4, 5, 6, 7, 8, 9, 10, 11] (by decide) rfl
  subst hAe
  refine W.widen (k := 11) (n := 186) (Nat.le_of_ble_eq_true rfl) (Nat.le_of_ble_eq_true rfl) ?_
  exact W.vret hx hb hr (fun t ht hW => ⟨⟨rfl, (fun i => (([h0, q1, q2, q3, q4, q5, q6, q7, q8, q9, q10, q11] : List Nat)[i]?).getD 0), by rw [ht]; exact hP9, hD9⟩, hS.F ht⟩) hS.2.2 dk_3_106
theorem dk_5_0 : decode prog_7_method_1_code 0 = .ok (.aload_n 0, 1) := by decide +kernel
theorem dk_5_1 : decode prog_7_method_1_code 1 = .ok (.invokespecial 1, 3) := by decide +kernel
theorem dk_5_4 : decode prog_7_method_1_code 4 = .ok (.aload_n 0, 1) := by decide +kernel
theorem dk_5_5 : decode prog_7_method_1_code 5 = .ok (.bipush 16, 2) := by decide +kernel
theorem dk_5_7 : decode prog_7_method_1_code 7 = .ok (.newarray .int, 2) := by decide +kernel
theorem dk_5_9 : decode prog_7_method_1_code 9 = .ok (.putfield 9, 3) := by decide +kernel
theorem dk_5_12 : decode prog_7_method_1_code 12 = .ok (.aload_n 0, 1) := by decide +kernel
theorem dk_5_13 : decode prog_7_method_1_code 13 = .ok (.bipush 16, 2) := by decide +kernel
theorem dk_5_15 : decode prog_7_method_1_code 15 = .ok (.newarray .int, 2) := by decide +kernel
theorem dk_5_17 : decode prog_7_method_1_code 17 = .ok (.putfield 13, 3) := by decide +kernel
theorem dk_5_20 : decode prog_7_method_1_code 20 = .ok (.aload_n 0, 1) := by decide +kernel
theorem dk_5_21 : decode prog_7_method_1_code 21 = .ok (.bipush 16, 2) := by decide +kernel
theorem dk_5_23 : decode prog_7_method_1_code 23 = .ok (.newarray .int, 2) := by decide +kernel
theorem dk_5_25 : decode prog_7_method_1_code 25 = .ok (.putfield 16, 3) := by decide +kernel
theorem dk_5_28 : decode prog_7_method_1_code 28 = .ok (.aload_n 0, 1) := by decide +kernel
theorem dk_5_29 : decode prog_7_method_1_code 29 = .ok (.bipush 16, 2) := by decide +kernel
theorem dk_5_31 : decode prog_7_method_1_code 31 = .ok (.newarray .int, 2) := by decide +kernel
theorem dk_5_33 : decode prog_7_method_1_code 33 = .ok (.putfield 19, 3) := by decide +kernel
theorem dk_5_36 : decode prog_7_method_1_code 36 = .ok (.aload_n 0, 1) := by decide +kernel
theorem dk_5_37 : decode prog_7_method_1_code 37 = .ok (.bipush 16, 2) := by decide +kernel
theorem dk_5_39 : decode prog_7_method_1_code 39 = .ok (.newarray .int, 2) := by decide +kernel
theorem dk_5_41 : decode prog_7_method_1_code 41 = .ok (.putfield 22, 3) := by decide +kernel
theorem dk_5_44 : decode prog_7_method_1_code 44 = .ok (.aload_n 0, 1) := by decide +kernel
theorem dk_5_45 : decode prog_7_method_1_code 45 = .ok (.bipush 16, 2) := by decide +kernel
theorem dk_5_47 : decode prog_7_method_1_code 47 = .ok (.newarray .int, 2) := by decide +kernel
theorem dk_5_49 : decode prog_7_method_1_code 49 = .ok (.putfield 25, 3) := by decide +kernel
theorem dk_5_52 : decode prog_7_method_1_code 52 = .ok (.aload_n 0, 1) := by decide +kernel
theorem dk_5_53 : decode prog_7_method_1_code 53 = .ok (.bipush 16, 2) := by decide +kernel
theorem dk_5_55 : decode prog_7_method_1_code 55 = .ok (.newarray .int, 2) := by decide +kernel
theorem dk_5_57 : decode prog_7_method_1_code 57 = .ok (.putfield 28, 3) := by decide +kernel
theorem dk_5_60 : decode prog_7_method_1_code 60 = .ok (.aload_n 0, 1) := by decide +kernel
theorem dk_5_61 : decode prog_7_method_1_code 61 = .ok (.iconst 0, 1) := by decide +kernel
theorem dk_5_62 : decode prog_7_method_1_code 62 = .ok (.putfield 31, 3) := by decide +kernel
theorem dk_5_65 : decode prog_7_method_1_code 65 = .ok (.return_, 1) := by decide +kernel
def ct_F5 (aC : Nat → ClassId) (h0 : Nat) (g : Nat → Nat) : va_W := [(h0, .inr (5, [.ref (g 1), .ref (g 2), .ref (g 3), .ref (g 4), .ref (g 5), .ref (g 6), .ref (g 7), .int (0 : Int32)])), ((g 1), .inl (aC 0, 16, .inl (fun _ => 0))), ((g 2), .inl (aC 0, 16, .inl (fun _ => 0))), ((g 3), .inl (aC 0, 16, .inl (fun _ => 0))), ((g 4), .inl (aC 0, 16, .inl (fun _ => 0))), ((g 5), .inl (aC 0, 16, .inl (fun _ => 0))), ((g 6), .inl (aC 0, 16, .inl (fun _ => 0))), ((g 7), .inl (aC 0, 16, .inl (fun _ => 0)))]
set_option maxHeartbeats 4000000 in
set_option maxRecDepth 100000 in
theorem ct_5 (l : Launch) (D : va_G) (aC : Nat → ClassId) : ct_Met l D aC (ct_N aC) ⟨"PartedLand$People", "<init>", "()V"⟩ prog_7_method_1_code { frames := 1, cells := 7, slots := 112, locals := 12 } 5 [.null, .null, .null, .null, .null, .null, .null, .int 0] (ct_F5 aC) 7 112 := by
  intro h0 sz
  refine Met.ofW (cc := prog_7_method_1_code) (maxL := 1) (ret := none) (by decide) rfl ?_
  intro p e s m args below meth c s₁ B hml hv
  obtain ⟨rfl, hsz, hP, hK, hN⟩ := hv
  have hx := B.exec
  have hb := B.bytes
  have hr := B.returns
  have hts0 := atoms_spec (ws := Cond.code (⟨"PartedLand$People", "<init>", "()V"⟩ : MethodName) prog_7_method_1_code 1 none :: am_tbl) B.pre
  have hts : ∀ w ∈ am_tbl, w.before _ s = true := fun w hw => hts0 w (List.mem_cons_of_mem _ hw)
  have hown : s.vm.findClass "PartedLand$People" = some m.cls := findClass_of_methodNamed B.named
  have hlocks := B.notSynchronized
  have hin : meth.name = "<init>" := (name_of_methodNamed B.named B.method).1
  subst hsz
  obtain ⟨A, hAe⟩ : ∃ A, A = va_A [(h0, .inr (5, [.null, .null, .null, .null, .null, .null, .null, .int 0]))] s.heap.size := ⟨_, rfl⟩
  have hD : va_D A [(h0, .inr (5, [.null, .null, .null, .null, .null, .null, .null, .int 0]))] := by rw [hAe]; exact ct_D1 _ (va_A.in (k := 0) rfl)
  have hA : ∀ q : Nat, s.heap.size ≤ q → A q := fun q h => by rw [hAe]; exact Or.inr h
  have hS : va_S A s.heap s.heap [] := va_S.rf
  have hP : va_P D am_cl [(h0, .inr (5, [.null, .null, .null, .null, .null, .null, .null, .int 0]))] s.heap := hP
  have hl := lv_entry ([.ref h0]) (n := 1) (Nat.le_of_ble_eq_true rfl)
  rw [lg_entry_eq]
  generalize (lg_sl ([.ref h0]) ++ List.replicate (1 - (lg_sl ([.ref h0])).length) Slot.unset).toArray = ls at hl ⊢
  have hl : lv_has ls 1 [(0, .ref h0)] := hl
  refine lv_aload_n hx hb dk_5_0 rfl (lv_at hl 0 rfl) ?_
  refine ct_obj hx hb hts hown (am_mem_in (p := 122) (by decide +kernel)) (hml.trans hl.1.symm) dk_5_1 (Nat.le_of_ble_eq_true rfl) (Nat.le_of_ble_eq_true rfl) ?_
  refine lv_aload_n hx hb dk_5_4 rfl (lv_at hl 0 rfl) ?_
  refine lv_bipush (v := (16 : Int32)) hx hb dk_5_5 (by decide) ?_
  refine ct_newi hx hb (hts _ ct_ai) hK hP hD hS hA (by decide) rfl (by decide) (Nat.le_of_ble_eq_true rfl) (Nat.le_of_ble_eq_true rfl) dk_5_7 (fun q1 H hP hD hS => ?_)
  have hP : va_P D am_cl [(h0, .inr (5, [.null, .null, .null, .null, .null, .null, .null, .int 0])), (q1, .inl (aC 0, 16, .inl (fun _ => 0)))] H := hP
  have hD : va_D A [(h0, .inr (5, [.null, .null, .null, .null, .null, .null, .null, .int 0])), (q1, .inl (aC 0, 16, .inl (fun _ => 0)))] := hD
  refine ct_putF (ci := 5) (f := 0) (z := 2) (C := RX5) (T := TX5) (N := 8) (v := .ref q1) hx hb hts (am_ckf_ok (show am_ckf "PartedLand$People" pf_5 9 (some (5, 0, 2)) = true from am_rng klf_5 9 (by decide))) rfl rfl rfl hin hown hK hP hD hS 0 rfl rfl rfl (Nat.le_of_ble_eq_true rfl) dk_5_9 (fun H locs hP hD hS => ?_)
  have hP : va_P D am_cl [(h0, .inr (5, [.ref q1, .null, .null, .null, .null, .null, .null, .int 0])), (q1, .inl (aC 0, 16, .inl (fun _ => 0)))] H := hP
  have hD : va_D A [(h0, .inr (5, [.ref q1, .null, .null, .null, .null, .null, .null, .int 0])), (q1, .inl (aC 0, 16, .inl (fun _ => 0)))] := hD
  refine lv_aload_n hx hb dk_5_12 rfl (lv_at hl 0 rfl) ?_
  refine lv_bipush (v := (16 : Int32)) hx hb dk_5_13 (by decide) ?_
  refine ct_newi hx hb (hts _ ct_ai) hK hP hD hS hA (by decide) rfl (by decide) (Nat.le_of_ble_eq_true rfl) (Nat.le_of_ble_eq_true rfl) dk_5_15 (fun q2 H hP hD hS => ?_)
  have hP : va_P D am_cl [(h0, .inr (5, [.ref q1, .null, .null, .null, .null, .null, .null, .int 0])), (q1, .inl (aC 0, 16, .inl (fun _ => 0))), (q2, .inl (aC 0, 16, .inl (fun _ => 0)))] H := hP
  have hD : va_D A [(h0, .inr (5, [.ref q1, .null, .null, .null, .null, .null, .null, .int 0])), (q1, .inl (aC 0, 16, .inl (fun _ => 0))), (q2, .inl (aC 0, 16, .inl (fun _ => 0)))] := hD
  refine ct_putF (ci := 5) (f := 1) (z := 2) (C := RX5) (T := TX5) (N := 8) (v := .ref q2) hx hb hts (am_ckf_ok (show am_ckf "PartedLand$People" pf_5 13 (some (5, 1, 2)) = true from am_rng klf_5 13 (by decide))) rfl rfl rfl hin hown hK hP hD hS 0 rfl rfl rfl (Nat.le_of_ble_eq_true rfl) dk_5_17 (fun H locs hP hD hS => ?_)
  have hP : va_P D am_cl [(h0, .inr (5, [.ref q1, .ref q2, .null, .null, .null, .null, .null, .int 0])), (q1, .inl (aC 0, 16, .inl (fun _ => 0))), (q2, .inl (aC 0, 16, .inl (fun _ => 0)))] H := hP
  have hD : va_D A [(h0, .inr (5, [.ref q1, .ref q2, .null, .null, .null, .null, .null, .int 0])), (q1, .inl (aC 0, 16, .inl (fun _ => 0))), (q2, .inl (aC 0, 16, .inl (fun _ => 0)))] := hD
  refine lv_aload_n hx hb dk_5_20 rfl (lv_at hl 0 rfl) ?_
  refine lv_bipush (v := (16 : Int32)) hx hb dk_5_21 (by decide) ?_
  refine ct_newi hx hb (hts _ ct_ai) hK hP hD hS hA (by decide) rfl (by decide) (Nat.le_of_ble_eq_true rfl) (Nat.le_of_ble_eq_true rfl) dk_5_23 (fun q3 H hP hD hS => ?_)
  have hP : va_P D am_cl [(h0, .inr (5, [.ref q1, .ref q2, .null, .null, .null, .null, .null, .int 0])), (q1, .inl (aC 0, 16, .inl (fun _ => 0))), (q2, .inl (aC 0, 16, .inl (fun _ => 0))), (q3, .inl (aC 0, 16, .inl (fun _ => 0)))] H := hP
  have hD : va_D A [(h0, .inr (5, [.ref q1, .ref q2, .null, .null, .null, .null, .null, .int 0])), (q1, .inl (aC 0, 16, .inl (fun _ => 0))), (q2, .inl (aC 0, 16, .inl (fun _ => 0))), (q3, .inl (aC 0, 16, .inl (fun _ => 0)))] := hD
  refine ct_putF (ci := 5) (f := 2) (z := 2) (C := RX5) (T := TX5) (N := 8) (v := .ref q3) hx hb hts (am_ckf_ok (show am_ckf "PartedLand$People" pf_5 16 (some (5, 2, 2)) = true from am_rng klf_5 16 (by decide))) rfl rfl rfl hin hown hK hP hD hS 0 rfl rfl rfl (Nat.le_of_ble_eq_true rfl) dk_5_25 (fun H locs hP hD hS => ?_)
  have hP : va_P D am_cl [(h0, .inr (5, [.ref q1, .ref q2, .ref q3, .null, .null, .null, .null, .int 0])), (q1, .inl (aC 0, 16, .inl (fun _ => 0))), (q2, .inl (aC 0, 16, .inl (fun _ => 0))), (q3, .inl (aC 0, 16, .inl (fun _ => 0)))] H := hP
  have hD : va_D A [(h0, .inr (5, [.ref q1, .ref q2, .ref q3, .null, .null, .null, .null, .int 0])), (q1, .inl (aC 0, 16, .inl (fun _ => 0))), (q2, .inl (aC 0, 16, .inl (fun _ => 0))), (q3, .inl (aC 0, 16, .inl (fun _ => 0)))] := hD
  refine lv_aload_n hx hb dk_5_28 rfl (lv_at hl 0 rfl) ?_
  refine lv_bipush (v := (16 : Int32)) hx hb dk_5_29 (by decide) ?_
  refine ct_newi hx hb (hts _ ct_ai) hK hP hD hS hA (by decide) rfl (by decide) (Nat.le_of_ble_eq_true rfl) (Nat.le_of_ble_eq_true rfl) dk_5_31 (fun q4 H hP hD hS => ?_)
  have hP : va_P D am_cl [(h0, .inr (5, [.ref q1, .ref q2, .ref q3, .null, .null, .null, .null, .int 0])), (q1, .inl (aC 0, 16, .inl (fun _ => 0))), (q2, .inl (aC 0, 16, .inl (fun _ => 0))), (q3, .inl (aC 0, 16, .inl (fun _ => 0))), (q4, .inl (aC 0, 16, .inl (fun _ => 0)))] H := hP
  have hD : va_D A [(h0, .inr (5, [.ref q1, .ref q2, .ref q3, .null, .null, .null, .null, .int 0])), (q1, .inl (aC 0, 16, .inl (fun _ => 0))), (q2, .inl (aC 0, 16, .inl (fun _ => 0))), (q3, .inl (aC 0, 16, .inl (fun _ => 0))), (q4, .inl (aC 0, 16, .inl (fun _ => 0)))] := hD
  refine ct_putF (ci := 5) (f := 3) (z := 2) (C := RX5) (T := TX5) (N := 8) (v := .ref q4) hx hb hts (am_ckf_ok (show am_ckf "PartedLand$People" pf_5 19 (some (5, 3, 2)) = true from am_rng klf_5 19 (by decide))) rfl rfl rfl hin hown hK hP hD hS 0 rfl rfl rfl (Nat.le_of_ble_eq_true rfl) dk_5_33 (fun H locs hP hD hS => ?_)
  have hP : va_P D am_cl [(h0, .inr (5, [.ref q1, .ref q2, .ref q3, .ref q4, .null, .null, .null, .int 0])), (q1, .inl (aC 0, 16, .inl (fun _ => 0))), (q2, .inl (aC 0, 16, .inl (fun _ => 0))), (q3, .inl (aC 0, 16, .inl (fun _ => 0))), (q4, .inl (aC 0, 16, .inl (fun _ => 0)))] H := hP
  have hD : va_D A [(h0, .inr (5, [.ref q1, .ref q2, .ref q3, .ref q4, .null, .null, .null, .int 0])), (q1, .inl (aC 0, 16, .inl (fun _ => 0))), (q2, .inl (aC 0, 16, .inl (fun _ => 0))), (q3, .inl (aC 0, 16, .inl (fun _ => 0))), (q4, .inl (aC 0, 16, .inl (fun _ => 0)))] := hD
  refine lv_aload_n hx hb dk_5_36 rfl (lv_at hl 0 rfl) ?_
  refine lv_bipush (v := (16 : Int32)) hx hb dk_5_37 (by decide) ?_
  refine ct_newi hx hb (hts _ ct_ai) hK hP hD hS hA (by decide) rfl (by decide) (Nat.le_of_ble_eq_true rfl) (Nat.le_of_ble_eq_true rfl) dk_5_39 (fun q5 H hP hD hS => ?_)
  have hP : va_P D am_cl [(h0, .inr (5, [.ref q1, .ref q2, .ref q3, .ref q4, .null, .null, .null, .int 0])), (q1, .inl (aC 0, 16, .inl (fun _ => 0))), (q2, .inl (aC 0, 16, .inl (fun _ => 0))), (q3, .inl (aC 0, 16, .inl (fun _ => 0))), (q4, .inl (aC 0, 16, .inl (fun _ => 0))), (q5, .inl (aC 0, 16, .inl (fun _ => 0)))] H := hP
  have hD : va_D A [(h0, .inr (5, [.ref q1, .ref q2, .ref q3, .ref q4, .null, .null, .null, .int 0])), (q1, .inl (aC 0, 16, .inl (fun _ => 0))), (q2, .inl (aC 0, 16, .inl (fun _ => 0))), (q3, .inl (aC 0, 16, .inl (fun _ => 0))), (q4, .inl (aC 0, 16, .inl (fun _ => 0))), (q5, .inl (aC 0, 16, .inl (fun _ => 0)))] := hD
  refine ct_putF (ci := 5) (f := 4) (z := 2) (C := RX5) (T := TX5) (N := 8) (v := .ref q5) hx hb hts (am_ckf_ok (show am_ckf "PartedLand$People" pf_5 22 (some (5, 4, 2)) = true from am_rng klf_5 22 (by decide))) rfl rfl rfl hin hown hK hP hD hS 0 rfl rfl rfl (Nat.le_of_ble_eq_true rfl) dk_5_41 (fun H locs hP hD hS => ?_)
  have hP : va_P D am_cl [(h0, .inr (5, [.ref q1, .ref q2, .ref q3, .ref q4, .ref q5, .null, .null, .int 0])), (q1, .inl (aC 0, 16, .inl (fun _ => 0))), (q2, .inl (aC 0, 16, .inl (fun _ => 0))), (q3, .inl (aC 0, 16, .inl (fun _ => 0))), (q4, .inl (aC 0, 16, .inl (fun _ => 0))), (q5, .inl (aC 0, 16, .inl (fun _ => 0)))] H := hP
  have hD : va_D A [(h0, .inr (5, [.ref q1, .ref q2, .ref q3, .ref q4, .ref q5, .null, .null, .int 0])), (q1, .inl (aC 0, 16, .inl (fun _ => 0))), (q2, .inl (aC 0, 16, .inl (fun _ => 0))), (q3, .inl (aC 0, 16, .inl (fun _ => 0))), (q4, .inl (aC 0, 16, .inl (fun _ => 0))), (q5, .inl (aC 0, 16, .inl (fun _ => 0)))] := hD
  refine lv_aload_n hx hb dk_5_44 rfl (lv_at hl 0 rfl) ?_
  refine lv_bipush (v := (16 : Int32)) hx hb dk_5_45 (by decide) ?_
  refine ct_newi hx hb (hts _ ct_ai) hK hP hD hS hA (by decide) rfl (by decide) (Nat.le_of_ble_eq_true rfl) (Nat.le_of_ble_eq_true rfl) dk_5_47 (fun q6 H hP hD hS => ?_)
  have hP : va_P D am_cl [(h0, .inr (5, [.ref q1, .ref q2, .ref q3, .ref q4, .ref q5, .null, .null, .int 0])), (q1, .inl (aC 0, 16, .inl (fun _ => 0))), (q2, .inl (aC 0, 16, .inl (fun _ => 0))), (q3, .inl (aC 0, 16, .inl (fun _ => 0))), (q4, .inl (aC 0, 16, .inl (fun _ => 0))), (q5, .inl (aC 0, 16, .inl (fun _ => 0))), (q6, .inl (aC 0, 16, .inl (fun _ => 0)))] H := hP
  have hD : va_D A [(h0, .inr (5, [.ref q1, .ref q2, .ref q3, .ref q4, .ref q5, .null, .null, .int 0])), (q1, .inl (aC 0, 16, .inl (fun _ => 0))), (q2, .inl (aC 0, 16, .inl (fun _ => 0))), (q3, .inl (aC 0, 16, .inl (fun _ => 0))), (q4, .inl (aC 0, 16, .inl (fun _ => 0))), (q5, .inl (aC 0, 16, .inl (fun _ => 0))), (q6, .inl (aC 0, 16, .inl (fun _ => 0)))] := hD
  refine ct_putF (ci := 5) (f := 5) (z := 2) (C := RX5) (T := TX5) (N := 8) (v := .ref q6) hx hb hts (am_ckf_ok (show am_ckf "PartedLand$People" pf_5 25 (some (5, 5, 2)) = true from am_rng klf_5 25 (by decide))) rfl rfl rfl hin hown hK hP hD hS 0 rfl rfl rfl (Nat.le_of_ble_eq_true rfl) dk_5_49 (fun H locs hP hD hS => ?_)
  have hP : va_P D am_cl [(h0, .inr (5, [.ref q1, .ref q2, .ref q3, .ref q4, .ref q5, .ref q6, .null, .int 0])), (q1, .inl (aC 0, 16, .inl (fun _ => 0))), (q2, .inl (aC 0, 16, .inl (fun _ => 0))), (q3, .inl (aC 0, 16, .inl (fun _ => 0))), (q4, .inl (aC 0, 16, .inl (fun _ => 0))), (q5, .inl (aC 0, 16, .inl (fun _ => 0))), (q6, .inl (aC 0, 16, .inl (fun _ => 0)))] H := hP
  have hD : va_D A [(h0, .inr (5, [.ref q1, .ref q2, .ref q3, .ref q4, .ref q5, .ref q6, .null, .int 0])), (q1, .inl (aC 0, 16, .inl (fun _ => 0))), (q2, .inl (aC 0, 16, .inl (fun _ => 0))), (q3, .inl (aC 0, 16, .inl (fun _ => 0))), (q4, .inl (aC 0, 16, .inl (fun _ => 0))), (q5, .inl (aC 0, 16, .inl (fun _ => 0))), (q6, .inl (aC 0, 16, .inl (fun _ => 0)))] := hD
  refine lv_aload_n hx hb dk_5_52 rfl (lv_at hl 0 rfl) ?_
  refine lv_bipush (v := (16 : Int32)) hx hb dk_5_53 (by decide) ?_
  refine ct_newi hx hb (hts _ ct_ai) hK hP hD hS hA (by decide) rfl (by decide) (Nat.le_of_ble_eq_true rfl) (Nat.le_of_ble_eq_true rfl) dk_5_55 (fun q7 H hP hD hS => ?_)
  have hP : va_P D am_cl [(h0, .inr (5, [.ref q1, .ref q2, .ref q3, .ref q4, .ref q5, .ref q6, .null, .int 0])), (q1, .inl (aC 0, 16, .inl (fun _ => 0))), (q2, .inl (aC 0, 16, .inl (fun _ => 0))), (q3, .inl (aC 0, 16, .inl (fun _ => 0))), (q4, .inl (aC 0, 16, .inl (fun _ => 0))), (q5, .inl (aC 0, 16, .inl (fun _ => 0))), (q6, .inl (aC 0, 16, .inl (fun _ => 0))), (q7, .inl (aC 0, 16, .inl (fun _ => 0)))] H := hP
  have hD : va_D A [(h0, .inr (5, [.ref q1, .ref q2, .ref q3, .ref q4, .ref q5, .ref q6, .null, .int 0])), (q1, .inl (aC 0, 16, .inl (fun _ => 0))), (q2, .inl (aC 0, 16, .inl (fun _ => 0))), (q3, .inl (aC 0, 16, .inl (fun _ => 0))), (q4, .inl (aC 0, 16, .inl (fun _ => 0))), (q5, .inl (aC 0, 16, .inl (fun _ => 0))), (q6, .inl (aC 0, 16, .inl (fun _ => 0))), (q7, .inl (aC 0, 16, .inl (fun _ => 0)))] := hD
  refine ct_putF (ci := 5) (f := 6) (z := 2) (C := RX5) (T := TX5) (N := 8) (v := .ref q7) hx hb hts (am_ckf_ok (show am_ckf "PartedLand$People" pf_5 28 (some (5, 6, 2)) = true from am_rng klf_5 28 (by decide))) rfl rfl rfl hin hown hK hP hD hS 0 rfl rfl rfl (Nat.le_of_ble_eq_true rfl) dk_5_57 (fun H locs hP hD hS => ?_)
  have hP : va_P D am_cl [(h0, .inr (5, [.ref q1, .ref q2, .ref q3, .ref q4, .ref q5, .ref q6, .ref q7, .int 0])), (q1, .inl (aC 0, 16, .inl (fun _ => 0))), (q2, .inl (aC 0, 16, .inl (fun _ => 0))), (q3, .inl (aC 0, 16, .inl (fun _ => 0))), (q4, .inl (aC 0, 16, .inl (fun _ => 0))), (q5, .inl (aC 0, 16, .inl (fun _ => 0))), (q6, .inl (aC 0, 16, .inl (fun _ => 0))), (q7, .inl (aC 0, 16, .inl (fun _ => 0)))] H := hP
  have hD : va_D A [(h0, .inr (5, [.ref q1, .ref q2, .ref q3, .ref q4, .ref q5, .ref q6, .ref q7, .int 0])), (q1, .inl (aC 0, 16, .inl (fun _ => 0))), (q2, .inl (aC 0, 16, .inl (fun _ => 0))), (q3, .inl (aC 0, 16, .inl (fun _ => 0))), (q4, .inl (aC 0, 16, .inl (fun _ => 0))), (q5, .inl (aC 0, 16, .inl (fun _ => 0))), (q6, .inl (aC 0, 16, .inl (fun _ => 0))), (q7, .inl (aC 0, 16, .inl (fun _ => 0)))] := hD
  refine lv_aload_n hx hb dk_5_60 rfl (lv_at hl 0 rfl) ?_
  refine lv_iconst (v := (0 : Int32)) hx hb dk_5_61 (by decide) ?_
  refine ct_put (ci := 5) (f := 7) (z := 0) (C := RX5) (T := TX5) (N := 8) (v := .int (0 : Int32)) hx hb hts (am_ckf_ok (show am_ckf "PartedLand$People" pf_5 31 (some (5, 7, 0)) = true from am_rng klf_5 31 (by decide))) rfl rfl hown hK hP hD hS 0 rfl rfl rfl (Nat.le_of_ble_eq_true rfl) dk_5_62 (fun H locs hP hD hS => ?_)
  have hP : va_P D am_cl [(h0, .inr (5, [.ref q1, .ref q2, .ref q3, .ref q4, .ref q5, .ref q6, .ref q7, .int (0 : Int32)])), (q1, .inl (aC 0, 16, .inl (fun _ => 0))), (q2, .inl (aC 0, 16, .inl (fun _ => 0))), (q3, .inl (aC 0, 16, .inl (fun _ => 0))), (q4, .inl (aC 0, 16, .inl (fun _ => 0))), (q5, .inl (aC 0, 16, .inl (fun _ => 0))), (q6, .inl (aC 0, 16, .inl (fun _ => 0))), (q7, .inl (aC 0, 16, .inl (fun _ => 0)))] H := hP
  have hD : va_D A [(h0, .inr (5, [.ref q1, .ref q2, .ref q3, .ref q4, .ref q5, .ref q6, .ref q7, .int (0 : Int32)])), (q1, .inl (aC 0, 16, .inl (fun _ => 0))), (q2, .inl (aC 0, 16, .inl (fun _ => 0))), (q3, .inl (aC 0, 16, .inl (fun _ => 0))), (q4, .inl (aC 0, 16, .inl (fun _ => 0))), (q5, .inl (aC 0, 16, .inl (fun _ => 0))), (q6, .inl (aC 0, 16, .inl (fun _ => 0))), (q7, .inl (aC 0, 16, .inl (fun _ => 0)))] := hD
  have hP9 := hP.sub (ws' := ct_F5 aC h0 (fun i => (([h0, q1, q2, q3, q4, q5, q6, q7] : List Nat)[i]?).getD 0)) [0, 1, 2, 3, 4, 5, 6, 7] rfl
  have hD9 := hD.sub (ws' := ct_F5 aC h0 (fun i => (([h0, q1, q2, q3, q4, q5, q6, q7] : List Nat)[i]?).getD 0)) [0, 1, 2, 3, 4, 5, 6, 7] (by decide) rfl
  subst hAe
  refine W.widen (k := 7) (n := 112) (Nat.le_of_ble_eq_true rfl) (Nat.le_of_ble_eq_true rfl) ?_
  exact W.vret hx hb hr (fun t ht hW => ⟨⟨rfl, (fun i => (([h0, q1, q2, q3, q4, q5, q6, q7] : List Nat)[i]?).getD 0), by rw [ht]; exact hP9, hD9⟩, hS.F ht⟩) hS.2.2 dk_5_65
theorem dk_sd_0 : decode prog_9_method_2_code 0 = .ok (.aload_n 0, 1) := by decide +kernel
theorem dk_sd_1 : decode prog_9_method_2_code 1 = .ok (.getfield 13, 3) := by decide +kernel
theorem dk_sd_4 : decode prog_9_method_2_code 4 = .ok (.iconst 0, 1) := by decide +kernel
theorem dk_sd_5 : decode prog_9_method_2_code 5 = .ok (.bipush 104, 2) := by decide +kernel
theorem dk_sd_7 : decode prog_9_method_2_code 7 = .ok (.iastore, 1) := by decide +kernel
theorem dk_sd_8 : decode prog_9_method_2_code 8 = .ok (.aload_n 0, 1) := by decide +kernel
theorem dk_sd_9 : decode prog_9_method_2_code 9 = .ok (.getfield 13, 3) := by decide +kernel
theorem dk_sd_12 : decode prog_9_method_2_code 12 = .ok (.iconst 1, 1) := by decide +kernel
theorem dk_sd_13 : decode prog_9_method_2_code 13 = .ok (.bipush 98, 2) := by decide +kernel
theorem dk_sd_15 : decode prog_9_method_2_code 15 = .ok (.iastore, 1) := by decide +kernel
theorem dk_sd_16 : decode prog_9_method_2_code 16 = .ok (.aload_n 0, 1) := by decide +kernel
theorem dk_sd_17 : decode prog_9_method_2_code 17 = .ok (.iconst 2, 1) := by decide +kernel
theorem dk_sd_18 : decode prog_9_method_2_code 18 = .ok (.putfield 23, 3) := by decide +kernel
theorem dk_sd_21 : decode prog_9_method_2_code 21 = .ok (.aload_n 0, 1) := by decide +kernel
theorem dk_sd_22 : decode prog_9_method_2_code 22 = .ok (.sipush 400, 3) := by decide +kernel
theorem dk_sd_25 : decode prog_9_method_2_code 25 = .ok (.putfield 26, 3) := by decide +kernel
theorem dk_sd_28 : decode prog_9_method_2_code 28 = .ok (.aload_n 0, 1) := by decide +kernel
theorem dk_sd_29 : decode prog_9_method_2_code 29 = .ok (.bipush 50, 2) := by decide +kernel
theorem dk_sd_31 : decode prog_9_method_2_code 31 = .ok (.putfield 29, 3) := by decide +kernel
theorem dk_sd_34 : decode prog_9_method_2_code 34 = .ok (.aload_n 0, 1) := by decide +kernel
theorem dk_sd_35 : decode prog_9_method_2_code 35 = .ok (.iconst 0, 1) := by decide +kernel
theorem dk_sd_36 : decode prog_9_method_2_code 36 = .ok (.putfield 32, 3) := by decide +kernel
theorem dk_sd_39 : decode prog_9_method_2_code 39 = .ok (.aload_n 0, 1) := by decide +kernel
theorem dk_sd_40 : decode prog_9_method_2_code 40 = .ok (.bipush 9, 2) := by decide +kernel
theorem dk_sd_42 : decode prog_9_method_2_code 42 = .ok (.putfield 36, 3) := by decide +kernel
theorem dk_sd_45 : decode prog_9_method_2_code 45 = .ok (.aload_n 0, 1) := by decide +kernel
theorem dk_sd_46 : decode prog_9_method_2_code 46 = .ok (.bipush 12, 2) := by decide +kernel
theorem dk_sd_48 : decode prog_9_method_2_code 48 = .ok (.putfield 39, 3) := by decide +kernel
theorem dk_sd_51 : decode prog_9_method_2_code 51 = .ok (.return_, 1) := by decide +kernel
def ct_sdP (D : va_G) (aC : Nat → ClassId) (h0 h1 h2 : Nat) (A : Nat → Prop) : Array Value → State → Prop := va_Pc [.ref h0] (fun U => va_P D am_cl [(h0, .inr (7, [.ref h1, .ref h2, .int 0, .int 0, .int 0, .int 0, .int 0, .int 0, .int 0])), (h1, .inl (aC 0, 50, .inl (fun _ => 0))), (h2, .inl (aC 0, 4, .inl (fun _ => 0)))] U.heap ∧ va_K D am_cl (am_tys aC) U ∧ va_D A [(h0, .inr (7, [.ref h1, .ref h2, .int 0, .int 0, .int 0, .int 0, .int 0, .int 0, .int 0])), (h1, .inl (aC 0, 50, .inl (fun _ => 0))), (h2, .inl (aC 0, 4, .inl (fun _ => 0)))])
def ct_sdQ (D : va_G) (aC : Nat → ClassId) (h0 h1 h2 : Nat) (A : Nat → Prop) : Array Value → State → Outcome → State → Prop := fun _ st oc t => (oc = .returned none ∧ va_P D am_cl [(h0, .inr (7, [.ref h1, .ref h2, .int 0, .int (2 : Int32), .int (400 : Int32), .int (50 : Int32), .int (0 : Int32), .int (9 : Int32), .int (12 : Int32)])), (h1, .inl (aC 0, 50, .inl (fun _ => 0))), (h2, .inl (aC 0, 4, .inl (upd (upd (fun _ => 0) 0 (104 : Int32)) 1 (98 : Int32))))] t.heap ∧ va_D A [(h0, .inr (7, [.ref h1, .ref h2, .int 0, .int (2 : Int32), .int (400 : Int32), .int (50 : Int32), .int (0 : Int32), .int (9 : Int32), .int (12 : Int32)])), (h1, .inl (aC 0, 50, .inl (fun _ => 0))), (h2, .inl (aC 0, 4, .inl (upd (upd (fun _ => 0) 0 (104 : Int32)) 1 (98 : Int32))))]) ∧ va_F A st t
theorem ct_sd_blind {D : va_G} {aC : Nat → ClassId} {h0 h1 h2 : Nat} {A : Nat → Prop} : FrameBlind (ct_sdP D aC h0 h1 h2 A) := fun a U g mk q => by
  obtain ⟨q0, qP, qK, qD⟩ := q
  exact ⟨q0, qP, va_K.moved (u := U) (U := U.calling g mk a) (Vm.Alike.refl U.vm) qK, qD⟩
theorem ct_sd_call {p : Program} {l : Launch} {e : Env} {R : Room} {s : State} {m : MethodId} {args : Array Value} {below : List Frame} {meth : Method} {c : Code} {H : Heap} {locs : List Loc} {cells slots : Nat} {Q : State → Prop} {D : va_G} {aC : Nat → ClassId} {h0 h1 h2 pc : Nat} {A : Nat → Prop} {H0 : Heap} {ls : Array Slot} {rest st0 : List Value} {a : Array Value}
    (hr : va_Run p l e R s m args below meth c H locs cells slots 0 0 (F0 m pc ls st0) rest (ct_sdQ D aC h0 h1 h2 A a) A) (hS : va_S A H0 H locs)
    (kk : ∀ (H1 : Heap) (locs1 : List Loc), va_P D am_cl [(h0, .inr (7, [.ref h1, .ref h2, .int 0, .int (2 : Int32), .int (400 : Int32), .int (50 : Int32), .int (0 : Int32), .int (9 : Int32), .int (12 : Int32)])), (h1, .inl (aC 0, 50, .inl (fun _ => 0))), (h2, .inl (aC 0, 4, .inl (upd (upd (fun _ => 0) 0 (104 : Int32)) 1 (98 : Int32))))] H1 → va_D A [(h0, .inr (7, [.ref h1, .ref h2, .int 0, .int (2 : Int32), .int (400 : Int32), .int (50 : Int32), .int (0 : Int32), .int (9 : Int32), .int (12 : Int32)])), (h1, .inl (aC 0, 50, .inl (fun _ => 0))), (h2, .inl (aC 0, 4, .inl (upd (upd (fun _ => 0) 0 (104 : Int32)) 1 (98 : Int32))))] → va_S A H0 H1 locs1 → W p l e R s m args below meth c H1 locs1 cells slots Q (F0 m (pc + 3) ls rest)) : W p l e R s m args below meth c H locs cells slots Q (F0 m pc ls st0) := by
  intro T hT X
  obtain ⟨w, st₀, t, T', L, h0, X', hL, e1, e2, ⟨⟨hv, hq2, hq3⟩, hz, hk⟩, st⟩ := hr T hT X
  cases hv
  rw [h0] at hz hk
  obtain ⟨t2, a1, b1⟩ := kk T'.heap (locs ++ L) (by rw [e1]; exact hq2) hq3
    ⟨Nat.le_trans hS.1 (by rw [e1]; exact hz), fun q h1 h2 => by rw [e1, hk q (Nat.lt_of_lt_of_le h1 hS.1) h2]; exact hS.2.1 q h1 h2, fun q hq => by
      rcases List.mem_append.mp hq with h | h
      · exact hS.2.2 q h
      · exact hL q h⟩ T' rfl X'
  exact ⟨t2, st t2 a1, b1⟩
set_option maxHeartbeats 4000000 in
set_option maxRecDepth 100000 in
theorem ct_sd (l : Launch) (D : va_G) (aC : Nat → ClassId) (h0 h1 h2 : Nat) (A : Nat → Prop) : Met l ⟨"PartedLand$Text", "setDefaults", "()V"⟩ (Cond.code (⟨"PartedLand$Text", "setDefaults", "()V"⟩ : MethodName) prog_9_method_2_code 1 none :: am_tbl) { frames := 0, cells := 0, slots := 0, locals := 0 } (ct_sdP D aC h0 h1 h2 A) (ct_sdQ D aC h0 h1 h2 A) 0 0 A := by
  refine Met.ofW (cc := prog_9_method_2_code) (maxL := 1) (ret := none) (by decide) rfl ?_
  intro p e s m args below meth c s₁ B hml hv
  obtain ⟨rfl, hP, hK, hD⟩ := hv
  have hx := B.exec
  have hb := B.bytes
  have hr := B.returns
  have hts0 := atoms_spec (ws := Cond.code (⟨"PartedLand$Text", "setDefaults", "()V"⟩ : MethodName) prog_9_method_2_code 1 none :: am_tbl) B.pre
  have hts : ∀ w ∈ am_tbl, w.before _ s = true := fun w hw => hts0 w (List.mem_cons_of_mem _ hw)
  have hown : s.vm.findClass "PartedLand$Text" = some m.cls := findClass_of_methodNamed B.named
  have hlocks := B.notSynchronized
  have hS : va_S A s.heap s.heap [] := va_S.rf
  have hl := lv_entry ([.ref h0]) (n := 1) (Nat.le_of_ble_eq_true rfl)
  rw [lg_entry_eq]
  generalize (lg_sl ([.ref h0]) ++ List.replicate (1 - (lg_sl ([.ref h0])).length) Slot.unset).toArray = ls at hl ⊢
  have hl : lv_has ls 1 [(0, .ref h0)] := hl
  refine lv_aload_n hx hb dk_sd_0 rfl (lv_at hl 0 rfl) ?_
  refine ct_get (ci := 7) (f := 1) (z := 2) (C := RX7) (T := TX7) (N := 9) (v := .ref h2) hx hb hts (am_ckf_ok (show am_ckf "PartedLand$Text" pf_7 13 (some (7, 1, 2)) = true from am_rng klf_7 13 (by decide))) rfl hown hK hP 0 rfl rfl dk_sd_1 ?_
  refine lv_iconst (v := (0 : Int32)) hx hb dk_sd_4 (by decide) ?_
  refine lv_bipush (v := (104 : Int32)) hx hb dk_sd_5 (by decide) ?_
  refine va_iast (x := (104 : Int32)) hx hb hK hP hD hS 2 0 rfl rfl (by unfold vp_in; decide) dk_sd_7 (fun H locs hP hD hS => ?_)
  have hP : va_P D am_cl [(h0, .inr (7, [.ref h1, .ref h2, .int 0, .int 0, .int 0, .int 0, .int 0, .int 0, .int 0])), (h1, .inl (aC 0, 50, .inl (fun _ => 0))), (h2, .inl (aC 0, 4, .inl (upd (fun _ => 0) 0 (104 : Int32))))] H := hP
  have hD : va_D A [(h0, .inr (7, [.ref h1, .ref h2, .int 0, .int 0, .int 0, .int 0, .int 0, .int 0, .int 0])), (h1, .inl (aC 0, 50, .inl (fun _ => 0))), (h2, .inl (aC 0, 4, .inl (upd (fun _ => 0) 0 (104 : Int32))))] := hD
  refine lv_aload_n hx hb dk_sd_8 rfl (lv_at hl 0 rfl) ?_
  refine ct_get (ci := 7) (f := 1) (z := 2) (C := RX7) (T := TX7) (N := 9) (v := .ref h2) hx hb hts (am_ckf_ok (show am_ckf "PartedLand$Text" pf_7 13 (some (7, 1, 2)) = true from am_rng klf_7 13 (by decide))) rfl hown hK hP 0 rfl rfl dk_sd_9 ?_
  refine lv_iconst (v := (1 : Int32)) hx hb dk_sd_12 (by decide) ?_
  refine lv_bipush (v := (98 : Int32)) hx hb dk_sd_13 (by decide) ?_
  refine va_iast (x := (98 : Int32)) hx hb hK hP hD hS 2 0 rfl rfl (by unfold vp_in; decide) dk_sd_15 (fun H locs hP hD hS => ?_)
  have hP : va_P D am_cl [(h0, .inr (7, [.ref h1, .ref h2, .int 0, .int 0, .int 0, .int 0, .int 0, .int 0, .int 0])), (h1, .inl (aC 0, 50, .inl (fun _ => 0))), (h2, .inl (aC 0, 4, .inl (upd (upd (fun _ => 0) 0 (104 : Int32)) 1 (98 : Int32))))] H := hP
  have hD : va_D A [(h0, .inr (7, [.ref h1, .ref h2, .int 0, .int 0, .int 0, .int 0, .int 0, .int 0, .int 0])), (h1, .inl (aC 0, 50, .inl (fun _ => 0))), (h2, .inl (aC 0, 4, .inl (upd (upd (fun _ => 0) 0 (104 : Int32)) 1 (98 : Int32))))] := hD
  refine lv_aload_n hx hb dk_sd_16 rfl (lv_at hl 0 rfl) ?_
  refine lv_iconst (v := (2 : Int32)) hx hb dk_sd_17 (by decide) ?_
  refine ct_put (ci := 7) (f := 3) (z := 0) (C := RX7) (T := TX7) (N := 9) (v := .int (2 : Int32)) hx hb hts (am_ckf_ok (show am_ckf "PartedLand$Text" pf_7 23 (some (7, 3, 0)) = true from am_rng klf_7 23 (by decide))) rfl rfl hown hK hP hD hS 0 rfl rfl rfl (Nat.le_of_ble_eq_true rfl) dk_sd_18 (fun H locs hP hD hS => ?_)
  have hP : va_P D am_cl [(h0, .inr (7, [.ref h1, .ref h2, .int 0, .int (2 : Int32), .int 0, .int 0, .int 0, .int 0, .int 0])), (h1, .inl (aC 0, 50, .inl (fun _ => 0))), (h2, .inl (aC 0, 4, .inl (upd (upd (fun _ => 0) 0 (104 : Int32)) 1 (98 : Int32))))] H := hP
  have hD : va_D A [(h0, .inr (7, [.ref h1, .ref h2, .int 0, .int (2 : Int32), .int 0, .int 0, .int 0, .int 0, .int 0])), (h1, .inl (aC 0, 50, .inl (fun _ => 0))), (h2, .inl (aC 0, 4, .inl (upd (upd (fun _ => 0) 0 (104 : Int32)) 1 (98 : Int32))))] := hD
  refine lv_aload_n hx hb dk_sd_21 rfl (lv_at hl 0 rfl) ?_
  refine lv_sipush (v := (400 : Int32)) hx hb dk_sd_22 (by decide) ?_
  refine ct_put (ci := 7) (f := 4) (z := 0) (C := RX7) (T := TX7) (N := 9) (v := .int (400 : Int32)) hx hb hts (am_ckf_ok (show am_ckf "PartedLand$Text" pf_7 26 (some (7, 4, 0)) = true from am_rng klf_7 26 (by decide))) rfl rfl hown hK hP hD hS 0 rfl rfl rfl (Nat.le_of_ble_eq_true rfl) dk_sd_25 (fun H locs hP hD hS => ?_)
  have hP : va_P D am_cl [(h0, .inr (7, [.ref h1, .ref h2, .int 0, .int (2 : Int32), .int (400 : Int32), .int 0, .int 0, .int 0, .int 0])), (h1, .inl (aC 0, 50, .inl (fun _ => 0))), (h2, .inl (aC 0, 4, .inl (upd (upd (fun _ => 0) 0 (104 : Int32)) 1 (98 : Int32))))] H := hP
  have hD : va_D A [(h0, .inr (7, [.ref h1, .ref h2, .int 0, .int (2 : Int32), .int (400 : Int32), .int 0, .int 0, .int 0, .int 0])), (h1, .inl (aC 0, 50, .inl (fun _ => 0))), (h2, .inl (aC 0, 4, .inl (upd (upd (fun _ => 0) 0 (104 : Int32)) 1 (98 : Int32))))] := hD
  refine lv_aload_n hx hb dk_sd_28 rfl (lv_at hl 0 rfl) ?_
  refine lv_bipush (v := (50 : Int32)) hx hb dk_sd_29 (by decide) ?_
  refine ct_put (ci := 7) (f := 5) (z := 0) (C := RX7) (T := TX7) (N := 9) (v := .int (50 : Int32)) hx hb hts (am_ckf_ok (show am_ckf "PartedLand$Text" pf_7 29 (some (7, 5, 0)) = true from am_rng klf_7 29 (by decide))) rfl rfl hown hK hP hD hS 0 rfl rfl rfl (Nat.le_of_ble_eq_true rfl) dk_sd_31 (fun H locs hP hD hS => ?_)
  have hP : va_P D am_cl [(h0, .inr (7, [.ref h1, .ref h2, .int 0, .int (2 : Int32), .int (400 : Int32), .int (50 : Int32), .int 0, .int 0, .int 0])), (h1, .inl (aC 0, 50, .inl (fun _ => 0))), (h2, .inl (aC 0, 4, .inl (upd (upd (fun _ => 0) 0 (104 : Int32)) 1 (98 : Int32))))] H := hP
  have hD : va_D A [(h0, .inr (7, [.ref h1, .ref h2, .int 0, .int (2 : Int32), .int (400 : Int32), .int (50 : Int32), .int 0, .int 0, .int 0])), (h1, .inl (aC 0, 50, .inl (fun _ => 0))), (h2, .inl (aC 0, 4, .inl (upd (upd (fun _ => 0) 0 (104 : Int32)) 1 (98 : Int32))))] := hD
  refine lv_aload_n hx hb dk_sd_34 rfl (lv_at hl 0 rfl) ?_
  refine lv_iconst (v := (0 : Int32)) hx hb dk_sd_35 (by decide) ?_
  refine ct_put (ci := 7) (f := 6) (z := 1) (C := RX7) (T := TX7) (N := 9) (v := .int (0 : Int32)) hx hb hts (am_ckf_ok (show am_ckf "PartedLand$Text" pf_7 32 (some (7, 6, 1)) = true from am_rng klf_7 32 (by decide))) rfl rfl hown hK hP hD hS 0 rfl rfl rfl (Nat.le_of_ble_eq_true rfl) dk_sd_36 (fun H locs hP hD hS => ?_)
  have hP : va_P D am_cl [(h0, .inr (7, [.ref h1, .ref h2, .int 0, .int (2 : Int32), .int (400 : Int32), .int (50 : Int32), .int (0 : Int32), .int 0, .int 0])), (h1, .inl (aC 0, 50, .inl (fun _ => 0))), (h2, .inl (aC 0, 4, .inl (upd (upd (fun _ => 0) 0 (104 : Int32)) 1 (98 : Int32))))] H := hP
  have hD : va_D A [(h0, .inr (7, [.ref h1, .ref h2, .int 0, .int (2 : Int32), .int (400 : Int32), .int (50 : Int32), .int (0 : Int32), .int 0, .int 0])), (h1, .inl (aC 0, 50, .inl (fun _ => 0))), (h2, .inl (aC 0, 4, .inl (upd (upd (fun _ => 0) 0 (104 : Int32)) 1 (98 : Int32))))] := hD
  refine lv_aload_n hx hb dk_sd_39 rfl (lv_at hl 0 rfl) ?_
  refine lv_bipush (v := (9 : Int32)) hx hb dk_sd_40 (by decide) ?_
  refine ct_put (ci := 7) (f := 7) (z := 0) (C := RX7) (T := TX7) (N := 9) (v := .int (9 : Int32)) hx hb hts (am_ckf_ok (show am_ckf "PartedLand$Text" pf_7 36 (some (7, 7, 0)) = true from am_rng klf_7 36 (by decide))) rfl rfl hown hK hP hD hS 0 rfl rfl rfl (Nat.le_of_ble_eq_true rfl) dk_sd_42 (fun H locs hP hD hS => ?_)
  have hP : va_P D am_cl [(h0, .inr (7, [.ref h1, .ref h2, .int 0, .int (2 : Int32), .int (400 : Int32), .int (50 : Int32), .int (0 : Int32), .int (9 : Int32), .int 0])), (h1, .inl (aC 0, 50, .inl (fun _ => 0))), (h2, .inl (aC 0, 4, .inl (upd (upd (fun _ => 0) 0 (104 : Int32)) 1 (98 : Int32))))] H := hP
  have hD : va_D A [(h0, .inr (7, [.ref h1, .ref h2, .int 0, .int (2 : Int32), .int (400 : Int32), .int (50 : Int32), .int (0 : Int32), .int (9 : Int32), .int 0])), (h1, .inl (aC 0, 50, .inl (fun _ => 0))), (h2, .inl (aC 0, 4, .inl (upd (upd (fun _ => 0) 0 (104 : Int32)) 1 (98 : Int32))))] := hD
  refine lv_aload_n hx hb dk_sd_45 rfl (lv_at hl 0 rfl) ?_
  refine lv_bipush (v := (12 : Int32)) hx hb dk_sd_46 (by decide) ?_
  refine ct_put (ci := 7) (f := 8) (z := 0) (C := RX7) (T := TX7) (N := 9) (v := .int (12 : Int32)) hx hb hts (am_ckf_ok (show am_ckf "PartedLand$Text" pf_7 39 (some (7, 8, 0)) = true from am_rng klf_7 39 (by decide))) rfl rfl hown hK hP hD hS 0 rfl rfl rfl (Nat.le_of_ble_eq_true rfl) dk_sd_48 (fun H locs hP hD hS => ?_)
  have hP : va_P D am_cl [(h0, .inr (7, [.ref h1, .ref h2, .int 0, .int (2 : Int32), .int (400 : Int32), .int (50 : Int32), .int (0 : Int32), .int (9 : Int32), .int (12 : Int32)])), (h1, .inl (aC 0, 50, .inl (fun _ => 0))), (h2, .inl (aC 0, 4, .inl (upd (upd (fun _ => 0) 0 (104 : Int32)) 1 (98 : Int32))))] H := hP
  have hD : va_D A [(h0, .inr (7, [.ref h1, .ref h2, .int 0, .int (2 : Int32), .int (400 : Int32), .int (50 : Int32), .int (0 : Int32), .int (9 : Int32), .int (12 : Int32)])), (h1, .inl (aC 0, 50, .inl (fun _ => 0))), (h2, .inl (aC 0, 4, .inl (upd (upd (fun _ => 0) 0 (104 : Int32)) 1 (98 : Int32))))] := hD
  exact W.vret hx hb hr (fun t ht hW => ⟨⟨rfl, by rw [ht]; exact hP, hD⟩, hS.F ht⟩) hS.2.2 dk_sd_51
theorem dk_7_0 : decode prog_9_method_1_code 0 = .ok (.aload_n 0, 1) := by decide +kernel
theorem dk_7_1 : decode prog_9_method_1_code 1 = .ok (.invokespecial 1, 3) := by decide +kernel
theorem dk_7_4 : decode prog_9_method_1_code 4 = .ok (.aload_n 0, 1) := by decide +kernel
theorem dk_7_5 : decode prog_9_method_1_code 5 = .ok (.bipush 50, 2) := by decide +kernel
theorem dk_7_7 : decode prog_9_method_1_code 7 = .ok (.newarray .int, 2) := by decide +kernel
theorem dk_7_9 : decode prog_9_method_1_code 9 = .ok (.putfield 9, 3) := by decide +kernel
theorem dk_7_12 : decode prog_9_method_1_code 12 = .ok (.aload_n 0, 1) := by decide +kernel
theorem dk_7_13 : decode prog_9_method_1_code 13 = .ok (.iconst 4, 1) := by decide +kernel
theorem dk_7_14 : decode prog_9_method_1_code 14 = .ok (.newarray .int, 2) := by decide +kernel
theorem dk_7_16 : decode prog_9_method_1_code 16 = .ok (.putfield 13, 3) := by decide +kernel
theorem dk_7_19 : decode prog_9_method_1_code 19 = .ok (.aload_n 0, 1) := by decide +kernel
theorem dk_7_20 : decode prog_9_method_1_code 20 = .ok (.iconst 0, 1) := by decide +kernel
theorem dk_7_21 : decode prog_9_method_1_code 21 = .ok (.putfield 16, 3) := by decide +kernel
theorem dk_7_24 : decode prog_9_method_1_code 24 = .ok (.aload_n 0, 1) := by decide +kernel
theorem dk_7_25 : decode prog_9_method_1_code 25 = .ok (.invokevirtual 20, 3) := by decide +kernel
theorem dk_7_28 : decode prog_9_method_1_code 28 = .ok (.return_, 1) := by decide +kernel
def ct_F7 (aC : Nat → ClassId) (h0 : Nat) (g : Nat → Nat) : va_W := [(h0, .inr (7, [.ref (g 1), .ref (g 2), .int 0, .int (2 : Int32), .int (400 : Int32), .int (50 : Int32), .int (0 : Int32), .int (9 : Int32), .int (12 : Int32)])), ((g 1), .inl (aC 0, 50, .inl (fun _ => 0))), ((g 2), .inl (aC 0, 4, .inl (upd (upd (fun _ => 0) 0 (104 : Int32)) 1 (98 : Int32))))]
set_option maxHeartbeats 4000000 in
set_option maxRecDepth 100000 in
theorem ct_7 (l : Launch) (D : va_G) (aC : Nat → ClassId) : ct_Met l D aC (ct_N aC) ⟨"PartedLand$Text", "<init>", "()V"⟩ prog_9_method_1_code { frames := 1, cells := 2, slots := 54, locals := 20 } 7 [.null, .null, .int 0, .int 0, .int 0, .int 0, .int 0, .int 0, .int 0] (ct_F7 aC) 2 54 := by
  intro h0 sz
  refine Met.ofW (cc := prog_9_method_1_code) (maxL := 1) (ret := none) (by decide) rfl ?_
  intro p e s m args below meth c s₁ B hml hv
  obtain ⟨rfl, hsz, hP, hK, hN⟩ := hv
  have hx := B.exec
  have hb := B.bytes
  have hr := B.returns
  have hts0 := atoms_spec (ws := Cond.code (⟨"PartedLand$Text", "<init>", "()V"⟩ : MethodName) prog_9_method_1_code 1 none :: am_tbl) B.pre
  have hts : ∀ w ∈ am_tbl, w.before _ s = true := fun w hw => hts0 w (List.mem_cons_of_mem _ hw)
  have hown : s.vm.findClass "PartedLand$Text" = some m.cls := findClass_of_methodNamed B.named
  have hlocks := B.notSynchronized
  have hin : meth.name = "<init>" := (name_of_methodNamed B.named B.method).1
  subst hsz
  obtain ⟨A, hAe⟩ : ∃ A, A = va_A [(h0, .inr (7, [.null, .null, .int 0, .int 0, .int 0, .int 0, .int 0, .int 0, .int 0]))] s.heap.size := ⟨_, rfl⟩
  have hD : va_D A [(h0, .inr (7, [.null, .null, .int 0, .int 0, .int 0, .int 0, .int 0, .int 0, .int 0]))] := by rw [hAe]; exact ct_D1 _ (va_A.in (k := 0) rfl)
  have hA : ∀ q : Nat, s.heap.size ≤ q → A q := fun q h => by rw [hAe]; exact Or.inr h
  have hS : va_S A s.heap s.heap [] := va_S.rf
  have hP : va_P D am_cl [(h0, .inr (7, [.null, .null, .int 0, .int 0, .int 0, .int 0, .int 0, .int 0, .int 0]))] s.heap := hP
  have hl := lv_entry ([.ref h0]) (n := 1) (Nat.le_of_ble_eq_true rfl)
  rw [lg_entry_eq]
  generalize (lg_sl ([.ref h0]) ++ List.replicate (1 - (lg_sl ([.ref h0])).length) Slot.unset).toArray = ls at hl ⊢
  have hl : lv_has ls 1 [(0, .ref h0)] := hl
  refine lv_aload_n hx hb dk_7_0 rfl (lv_at hl 0 rfl) ?_
  refine ct_obj hx hb hts hown (am_mem_in (p := 168) (by decide +kernel)) (hml.trans hl.1.symm) dk_7_1 (Nat.le_of_ble_eq_true rfl) (Nat.le_of_ble_eq_true rfl) ?_
  refine lv_aload_n hx hb dk_7_4 rfl (lv_at hl 0 rfl) ?_
  refine lv_bipush (v := (50 : Int32)) hx hb dk_7_5 (by decide) ?_
  refine ct_newi hx hb (hts _ ct_ai) hK hP hD hS hA (by decide) rfl (by decide) (Nat.le_of_ble_eq_true rfl) (Nat.le_of_ble_eq_true rfl) dk_7_7 (fun q1 H hP hD hS => ?_)
  have hP : va_P D am_cl [(h0, .inr (7, [.null, .null, .int 0, .int 0, .int 0, .int 0, .int 0, .int 0, .int 0])), (q1, .inl (aC 0, 50, .inl (fun _ => 0)))] H := hP
  have hD : va_D A [(h0, .inr (7, [.null, .null, .int 0, .int 0, .int 0, .int 0, .int 0, .int 0, .int 0])), (q1, .inl (aC 0, 50, .inl (fun _ => 0)))] := hD
  refine ct_putF (ci := 7) (f := 0) (z := 2) (C := RX7) (T := TX7) (N := 9) (v := .ref q1) hx hb hts (am_ckf_ok (show am_ckf "PartedLand$Text" pf_7 9 (some (7, 0, 2)) = true from am_rng klf_7 9 (by decide))) rfl rfl rfl hin hown hK hP hD hS 0 rfl rfl rfl (Nat.le_of_ble_eq_true rfl) dk_7_9 (fun H locs hP hD hS => ?_)
  have hP : va_P D am_cl [(h0, .inr (7, [.ref q1, .null, .int 0, .int 0, .int 0, .int 0, .int 0, .int 0, .int 0])), (q1, .inl (aC 0, 50, .inl (fun _ => 0)))] H := hP
  have hD : va_D A [(h0, .inr (7, [.ref q1, .null, .int 0, .int 0, .int 0, .int 0, .int 0, .int 0, .int 0])), (q1, .inl (aC 0, 50, .inl (fun _ => 0)))] := hD
  refine lv_aload_n hx hb dk_7_12 rfl (lv_at hl 0 rfl) ?_
  refine lv_iconst (v := (4 : Int32)) hx hb dk_7_13 (by decide) ?_
  refine ct_newi hx hb (hts _ ct_ai) hK hP hD hS hA (by decide) rfl (by decide) (Nat.le_of_ble_eq_true rfl) (Nat.le_of_ble_eq_true rfl) dk_7_14 (fun q2 H hP hD hS => ?_)
  have hP : va_P D am_cl [(h0, .inr (7, [.ref q1, .null, .int 0, .int 0, .int 0, .int 0, .int 0, .int 0, .int 0])), (q1, .inl (aC 0, 50, .inl (fun _ => 0))), (q2, .inl (aC 0, 4, .inl (fun _ => 0)))] H := hP
  have hD : va_D A [(h0, .inr (7, [.ref q1, .null, .int 0, .int 0, .int 0, .int 0, .int 0, .int 0, .int 0])), (q1, .inl (aC 0, 50, .inl (fun _ => 0))), (q2, .inl (aC 0, 4, .inl (fun _ => 0)))] := hD
  refine ct_putF (ci := 7) (f := 1) (z := 2) (C := RX7) (T := TX7) (N := 9) (v := .ref q2) hx hb hts (am_ckf_ok (show am_ckf "PartedLand$Text" pf_7 13 (some (7, 1, 2)) = true from am_rng klf_7 13 (by decide))) rfl rfl rfl hin hown hK hP hD hS 0 rfl rfl rfl (Nat.le_of_ble_eq_true rfl) dk_7_16 (fun H locs hP hD hS => ?_)
  have hP : va_P D am_cl [(h0, .inr (7, [.ref q1, .ref q2, .int 0, .int 0, .int 0, .int 0, .int 0, .int 0, .int 0])), (q1, .inl (aC 0, 50, .inl (fun _ => 0))), (q2, .inl (aC 0, 4, .inl (fun _ => 0)))] H := hP
  have hD : va_D A [(h0, .inr (7, [.ref q1, .ref q2, .int 0, .int 0, .int 0, .int 0, .int 0, .int 0, .int 0])), (q1, .inl (aC 0, 50, .inl (fun _ => 0))), (q2, .inl (aC 0, 4, .inl (fun _ => 0)))] := hD
  refine lv_aload_n hx hb dk_7_19 rfl (lv_at hl 0 rfl) ?_
  refine lv_iconst (v := (0 : Int32)) hx hb dk_7_20 (by decide) ?_
  refine ct_put (ci := 7) (f := 2) (z := 0) (C := RX7) (T := TX7) (N := 9) (v := .int (0 : Int32)) hx hb hts (am_ckf_ok (show am_ckf "PartedLand$Text" pf_7 16 (some (7, 2, 0)) = true from am_rng klf_7 16 (by decide))) rfl rfl hown hK hP hD hS 0 rfl rfl rfl (Nat.le_of_ble_eq_true rfl) dk_7_21 (fun H locs hP hD hS => ?_)
  have hP : va_P D am_cl [(h0, .inr (7, [.ref q1, .ref q2, .int (0 : Int32), .int 0, .int 0, .int 0, .int 0, .int 0, .int 0])), (q1, .inl (aC 0, 50, .inl (fun _ => 0))), (q2, .inl (aC 0, 4, .inl (fun _ => 0)))] H := hP
  have hD : va_D A [(h0, .inr (7, [.ref q1, .ref q2, .int (0 : Int32), .int 0, .int 0, .int 0, .int 0, .int 0, .int 0])), (q1, .inl (aC 0, 50, .inl (fun _ => 0))), (q2, .inl (aC 0, 4, .inl (fun _ => 0)))] := hD
  refine lv_aload_n hx hb dk_7_24 rfl (lv_at hl 0 rfl) ?_
  have hPc := hP.sub (ws' := [(h0, .inr (7, [.ref q1, .ref q2, .int (0 : Int32), .int 0, .int 0, .int 0, .int 0, .int 0, .int 0])), (q1, .inl (aC 0, 50, .inl (fun _ => 0))), (q2, .inl (aC 0, 4, .inl (fun _ => 0)))]) [0, 1, 2] rfl
  have hDc := hD.sub (ws' := [(h0, .inr (7, [.ref q1, .ref q2, .int (0 : Int32), .int 0, .int 0, .int 0, .int 0, .int 0, .int 0])), (q1, .inl (aC 0, 50, .inl (fun _ => 0))), (q2, .inl (aC 0, 4, .inl (fun _ => 0)))]) [0, 1, 2] (by decide) rfl
  refine ct_sd_call (va_runV (As := []) (b := h0) (rest := []) ⟨hx, hb, hml, hown, hts⟩ (ct_sd l D aC h0 q1 q2 A) ⟨callB_of 0 hts (ct_good (am_mem_in (p := 172) (by decide +kernel))) rfl rfl rfl (hts _ (am_mem_in (p := 39) (by decide +kernel))) (hts _ (am_mem_in (p := 169) (by decide +kernel))) (by decide +kernel) ⟨(Nat.le_of_ble_eq_true rfl), (Nat.le_of_ble_eq_true rfl)⟩, hts _ (am_mem_in (p := 170) (by decide +kernel)), hts _ (am_mem_in (p := 171) (by decide +kernel))⟩ ⟨ct_sd_blind, va_recv hK hP rfl (q0 := 0) (ci := 7) rfl, fun U hU hW => ⟨rfl, by rw [hU]; exact hPc, va_K.moved hW.alike hK, hDc⟩⟩ rfl rfl hl.1 rfl (lv_room (Nat.le_of_ble_eq_true rfl)) dk_7_25 ⟨(Nat.le_of_ble_eq_true rfl), (Nat.le_of_ble_eq_true rfl)⟩) hS (fun H locs hP hD hS => ?_)
  have hP : va_P D am_cl [(h0, .inr (7, [.ref q1, .ref q2, .int 0, .int (2 : Int32), .int (400 : Int32), .int (50 : Int32), .int (0 : Int32), .int (9 : Int32), .int (12 : Int32)])), (q1, .inl (aC 0, 50, .inl (fun _ => 0))), (q2, .inl (aC 0, 4, .inl (upd (upd (fun _ => 0) 0 (104 : Int32)) 1 (98 : Int32))))] H := hP
  have hD : va_D A [(h0, .inr (7, [.ref q1, .ref q2, .int 0, .int (2 : Int32), .int (400 : Int32), .int (50 : Int32), .int (0 : Int32), .int (9 : Int32), .int (12 : Int32)])), (q1, .inl (aC 0, 50, .inl (fun _ => 0))), (q2, .inl (aC 0, 4, .inl (upd (upd (fun _ => 0) 0 (104 : Int32)) 1 (98 : Int32))))] := hD
  have hP9 := hP.sub (ws' := ct_F7 aC h0 (fun i => (([h0, q1, q2] : List Nat)[i]?).getD 0)) [0, 1, 2] rfl
  have hD9 := hD.sub (ws' := ct_F7 aC h0 (fun i => (([h0, q1, q2] : List Nat)[i]?).getD 0)) [0, 1, 2] (by decide) rfl
  subst hAe
  refine W.widen (k := 2) (n := 54) (Nat.le_of_ble_eq_true rfl) (Nat.le_of_ble_eq_true rfl) ?_
  exact W.vret hx hb hr (fun t ht hW => ⟨⟨rfl, (fun i => (([h0, q1, q2] : List Nat)[i]?).getD 0), by rw [ht]; exact hP9, hD9⟩, hS.F ht⟩) hS.2.2 dk_7_28
theorem dk_2_0 : decode prog_4_method_1_code 0 = .ok (.aload_n 0, 1) := by decide +kernel
theorem dk_2_1 : decode prog_4_method_1_code 1 = .ok (.invokespecial 1, 3) := by decide +kernel
theorem dk_2_4 : decode prog_4_method_1_code 4 = .ok (.aload_n 0, 1) := by decide +kernel
theorem dk_2_5 : decode prog_4_method_1_code 5 = .ok (.new 7, 3) := by decide +kernel
theorem dk_2_8 : decode prog_4_method_1_code 8 = .ok (.dup, 1) := by decide +kernel
theorem dk_2_9 : decode prog_4_method_1_code 9 = .ok (.invokespecial 9, 3) := by decide +kernel
theorem dk_2_12 : decode prog_4_method_1_code 12 = .ok (.putfield 10, 3) := by decide +kernel
theorem dk_2_15 : decode prog_4_method_1_code 15 = .ok (.aload_n 0, 1) := by decide +kernel
theorem dk_2_16 : decode prog_4_method_1_code 16 = .ok (.new 7, 3) := by decide +kernel
theorem dk_2_19 : decode prog_4_method_1_code 19 = .ok (.dup, 1) := by decide +kernel
theorem dk_2_20 : decode prog_4_method_1_code 20 = .ok (.invokespecial 9, 3) := by decide +kernel
theorem dk_2_23 : decode prog_4_method_1_code 23 = .ok (.putfield 16, 3) := by decide +kernel
theorem dk_2_26 : decode prog_4_method_1_code 26 = .ok (.aload_n 0, 1) := by decide +kernel
theorem dk_2_27 : decode prog_4_method_1_code 27 = .ok (.new 7, 3) := by decide +kernel
theorem dk_2_30 : decode prog_4_method_1_code 30 = .ok (.dup, 1) := by decide +kernel
theorem dk_2_31 : decode prog_4_method_1_code 31 = .ok (.invokespecial 9, 3) := by decide +kernel
theorem dk_2_34 : decode prog_4_method_1_code 34 = .ok (.putfield 19, 3) := by decide +kernel
theorem dk_2_37 : decode prog_4_method_1_code 37 = .ok (.aload_n 0, 1) := by decide +kernel
theorem dk_2_38 : decode prog_4_method_1_code 38 = .ok (.new 7, 3) := by decide +kernel
theorem dk_2_41 : decode prog_4_method_1_code 41 = .ok (.dup, 1) := by decide +kernel
theorem dk_2_42 : decode prog_4_method_1_code 42 = .ok (.invokespecial 9, 3) := by decide +kernel
theorem dk_2_45 : decode prog_4_method_1_code 45 = .ok (.putfield 22, 3) := by decide +kernel
theorem dk_2_48 : decode prog_4_method_1_code 48 = .ok (.aload_n 0, 1) := by decide +kernel
theorem dk_2_49 : decode prog_4_method_1_code 49 = .ok (.iconst 0, 1) := by decide +kernel
theorem dk_2_50 : decode prog_4_method_1_code 50 = .ok (.putfield 25, 3) := by decide +kernel
theorem dk_2_53 : decode prog_4_method_1_code 53 = .ok (.aload_n 0, 1) := by decide +kernel
theorem dk_2_54 : decode prog_4_method_1_code 54 = .ok (.iconst 0, 1) := by decide +kernel
theorem dk_2_55 : decode prog_4_method_1_code 55 = .ok (.putfield 29, 3) := by decide +kernel
theorem dk_2_58 : decode prog_4_method_1_code 58 = .ok (.aload_n 0, 1) := by decide +kernel
theorem dk_2_59 : decode prog_4_method_1_code 59 = .ok (.iconst 0, 1) := by decide +kernel
theorem dk_2_60 : decode prog_4_method_1_code 60 = .ok (.putfield 32, 3) := by decide +kernel
theorem dk_2_63 : decode prog_4_method_1_code 63 = .ok (.return_, 1) := by decide +kernel
def ct_F2 (aC : Nat → ClassId) (h0 : Nat) (g : Nat → Nat) : va_W := [(h0, .inr (2, [.ref (g 1), .ref (g 4), .ref (g 7), .ref (g 10), .int (0 : Int32), .int (0 : Int32), .int (0 : Int32)])), ((g 1), .inr (7, [.ref (g 2), .ref (g 3), .int 0, .int (2 : Int32), .int (400 : Int32), .int (50 : Int32), .int (0 : Int32), .int (9 : Int32), .int (12 : Int32)])), ((g 2), .inl (aC 0, 50, .inl (fun _ => 0))), ((g 3), .inl (aC 0, 4, .inl (upd (upd (fun _ => 0) 0 (104 : Int32)) 1 (98 : Int32)))), ((g 4), .inr (7, [.ref (g 5), .ref (g 6), .int 0, .int (2 : Int32), .int (400 : Int32), .int (50 : Int32), .int (0 : Int32), .int (9 : Int32), .int (12 : Int32)])), ((g 5), .inl (aC 0, 50, .inl (fun _ => 0))), ((g 6), .inl (aC 0, 4, .inl (upd (upd (fun _ => 0) 0 (104 : Int32)) 1 (98 : Int32)))), ((g 7), .inr (7, [.ref (g 8), .ref (g 9), .int 0, .int (2 : Int32), .int (400 : Int32), .int (50 : Int32), .int (0 : Int32), .int (9 : Int32), .int (12 : Int32)])), ((g 8), .inl (aC 0, 50, .inl (fun _ => 0))), ((g 9), .inl (aC 0, 4, .inl (upd (upd (fun _ => 0) 0 (104 : Int32)) 1 (98 : Int32)))), ((g 10), .inr (7, [.ref (g 11), .ref (g 12), .int 0, .int (2 : Int32), .int (400 : Int32), .int (50 : Int32), .int (0 : Int32), .int (9 : Int32), .int (12 : Int32)])), ((g 11), .inl (aC 0, 50, .inl (fun _ => 0))), ((g 12), .inl (aC 0, 4, .inl (upd (upd (fun _ => 0) 0 (104 : Int32)) 1 (98 : Int32))))]
set_option maxHeartbeats 4000000 in
set_option maxRecDepth 100000 in
theorem ct_2 (l : Launch) (D : va_G) (aC : Nat → ClassId) : ct_Met l D aC (ct_N aC) ⟨"PartedLand$Houses", "<init>", "()V"⟩ prog_4_method_1_code { frames := 2, cells := 12, slots := 252, locals := 40 } 2 [.null, .null, .null, .null, .int 0, .int 0, .int 0] (ct_F2 aC) 12 252 := by
  intro h0 sz
  refine Met.ofW (cc := prog_4_method_1_code) (maxL := 1) (ret := none) (by decide) rfl ?_
  intro p e s m args below meth c s₁ B hml hv
  obtain ⟨rfl, hsz, hP, hK, hN⟩ := hv
  have hx := B.exec
  have hb := B.bytes
  have hr := B.returns
  have hts0 := atoms_spec (ws := Cond.code (⟨"PartedLand$Houses", "<init>", "()V"⟩ : MethodName) prog_4_method_1_code 1 none :: am_tbl) B.pre
  have hts : ∀ w ∈ am_tbl, w.before _ s = true := fun w hw => hts0 w (List.mem_cons_of_mem _ hw)
  have hown : s.vm.findClass "PartedLand$Houses" = some m.cls := findClass_of_methodNamed B.named
  have hlocks := B.notSynchronized
  have hin : meth.name = "<init>" := (name_of_methodNamed B.named B.method).1
  subst hsz
  obtain ⟨A, hAe⟩ : ∃ A, A = va_A [(h0, .inr (2, [.null, .null, .null, .null, .int 0, .int 0, .int 0]))] s.heap.size := ⟨_, rfl⟩
  have hD : va_D A [(h0, .inr (2, [.null, .null, .null, .null, .int 0, .int 0, .int 0]))] := by rw [hAe]; exact ct_D1 _ (va_A.in (k := 0) rfl)
  have hA : ∀ q : Nat, s.heap.size ≤ q → A q := fun q h => by rw [hAe]; exact Or.inr h
  have hS : va_S A s.heap s.heap [] := va_S.rf
  have hP : va_P D am_cl [(h0, .inr (2, [.null, .null, .null, .null, .int 0, .int 0, .int 0]))] s.heap := hP
  have hl := lv_entry ([.ref h0]) (n := 1) (Nat.le_of_ble_eq_true rfl)
  rw [lg_entry_eq]
  generalize (lg_sl ([.ref h0]) ++ List.replicate (1 - (lg_sl ([.ref h0])).length) Slot.unset).toArray = ls at hl ⊢
  have hl : lv_has ls 1 [(0, .ref h0)] := hl
  refine lv_aload_n hx hb dk_2_0 rfl (lv_at hl 0 rfl) ?_
  refine ct_obj hx hb hts hown (am_mem_in (p := 162) (by decide +kernel)) (hml.trans hl.1.symm) dk_2_1 (Nat.le_of_ble_eq_true rfl) (Nat.le_of_ble_eq_true rfl) ?_
  refine lv_aload_n hx hb dk_2_4 rfl (lv_at hl 0 rfl) ?_
  refine ct_new (ci := 7) (C := RX7) (T := TX7) (N := 9) (fs := [.null, .null, .int 0, .int 0, .int 0, .int 0, .int 0, .int 0, .int 0]) hx hb hts rfl (am_mem_in (p := 163) (by decide +kernel)) (am_mem_in (p := 164) (by decide +kernel)) (am_mem_in (p := 39) (by decide +kernel)) hown hK hP hD hS hA (by decide +kernel) (Nat.le_of_ble_eq_true rfl) (Nat.le_of_ble_eq_true rfl) dk_2_5 (fun q1 H hP hD hS => ?_)
  have hP : va_P D am_cl [(h0, .inr (2, [.null, .null, .null, .null, .int 0, .int 0, .int 0])), (q1, .inr (7, [.null, .null, .int 0, .int 0, .int 0, .int 0, .int 0, .int 0, .int 0]))] H := hP
  have hD : va_D A [(h0, .inr (2, [.null, .null, .null, .null, .int 0, .int 0, .int 0])), (q1, .inr (7, [.null, .null, .int 0, .int 0, .int 0, .int 0, .int 0, .int 0, .int 0]))] := hD
  refine lv_dup hx hb dk_2_8 rfl ?_
  have hPc := hP.sub (ws' := [(q1, .inr (7, [.null, .null, .int 0, .int 0, .int 0, .int 0, .int 0, .int 0, .int 0]))]) [1] rfl
  refine ct_callv (pq := 1) (isR := [0]) (wr := [(h0, .inr (2, [.null, .null, .null, .null, .int 0, .int 0, .int 0]))]) (va_runI (As := []) (rest := [.ref q1, .ref h0]) ⟨hx, hb, hml, hown, hts⟩ (ct_7 l D aC q1 H.size) (cwI 0 hts (ct_good (am_mem_in (p := 167) (by decide +kernel))) rfl rfl rfl (hts _ (am_mem_in (p := 39) (by decide +kernel))) (hts _ (am_mem_in (p := 165) (by decide +kernel))) (hts _ (am_mem_in (p := 166) (by decide +kernel))) rfl (by decide +kernel) ⟨(Nat.le_of_ble_eq_true rfl), (Nat.le_of_ble_eq_true rfl)⟩) ⟨ct_blind, fun U hU hW => ⟨rfl, by rw [hU], by rw [hU]; exact hPc, va_K.moved hW.alike hK, hN.warm hW⟩⟩ rfl rfl hl.1 rfl (lv_room (Nat.le_of_ble_eq_true rfl)) dk_2_9 ⟨(Nat.le_of_ble_eq_true rfl), (Nat.le_of_ble_eq_true rfl)⟩) hP hD hS hA rfl rfl (by decide) (by decide) (fun g2 H locs hP hD hS => ?_)
  have hP : va_P D am_cl [(h0, .inr (2, [.null, .null, .null, .null, .int 0, .int 0, .int 0])), (q1, .inr (7, [.ref (g2 1), .ref (g2 2), .int 0, .int (2 : Int32), .int (400 : Int32), .int (50 : Int32), .int (0 : Int32), .int (9 : Int32), .int (12 : Int32)])), ((g2 1), .inl (aC 0, 50, .inl (fun _ => 0))), ((g2 2), .inl (aC 0, 4, .inl (upd (upd (fun _ => 0) 0 (104 : Int32)) 1 (98 : Int32))))] H := hP
  have hD : va_D A [(h0, .inr (2, [.null, .null, .null, .null, .int 0, .int 0, .int 0])), (q1, .inr (7, [.ref (g2 1), .ref (g2 2), .int 0, .int (2 : Int32), .int (400 : Int32), .int (50 : Int32), .int (0 : Int32), .int (9 : Int32), .int (12 : Int32)])), ((g2 1), .inl (aC 0, 50, .inl (fun _ => 0))), ((g2 2), .inl (aC 0, 4, .inl (upd (upd (fun _ => 0) 0 (104 : Int32)) 1 (98 : Int32))))] := hD
  refine ct_putF (ci := 2) (f := 0) (z := 2) (C := RX2) (T := TX2) (N := 7) (v := .ref q1) hx hb hts (am_ckf_ok (show am_ckf "PartedLand$Houses" pf_2 10 (some (2, 0, 2)) = true from am_rng klf_2 10 (by decide))) rfl rfl rfl hin hown hK hP hD hS 0 rfl rfl rfl (Nat.le_of_ble_eq_true rfl) dk_2_12 (fun H locs hP hD hS => ?_)
  have hP : va_P D am_cl [(h0, .inr (2, [.ref q1, .null, .null, .null, .int 0, .int 0, .int 0])), (q1, .inr (7, [.ref (g2 1), .ref (g2 2), .int 0, .int (2 : Int32), .int (400 : Int32), .int (50 : Int32), .int (0 : Int32), .int (9 : Int32), .int (12 : Int32)])), ((g2 1), .inl (aC 0, 50, .inl (fun _ => 0))), ((g2 2), .inl (aC 0, 4, .inl (upd (upd (fun _ => 0) 0 (104 : Int32)) 1 (98 : Int32))))] H := hP
  have hD : va_D A [(h0, .inr (2, [.ref q1, .null, .null, .null, .int 0, .int 0, .int 0])), (q1, .inr (7, [.ref (g2 1), .ref (g2 2), .int 0, .int (2 : Int32), .int (400 : Int32), .int (50 : Int32), .int (0 : Int32), .int (9 : Int32), .int (12 : Int32)])), ((g2 1), .inl (aC 0, 50, .inl (fun _ => 0))), ((g2 2), .inl (aC 0, 4, .inl (upd (upd (fun _ => 0) 0 (104 : Int32)) 1 (98 : Int32))))] := hD
  refine lv_aload_n hx hb dk_2_15 rfl (lv_at hl 0 rfl) ?_
  refine ct_new (ci := 7) (C := RX7) (T := TX7) (N := 9) (fs := [.null, .null, .int 0, .int 0, .int 0, .int 0, .int 0, .int 0, .int 0]) hx hb hts rfl (am_mem_in (p := 163) (by decide +kernel)) (am_mem_in (p := 164) (by decide +kernel)) (am_mem_in (p := 39) (by decide +kernel)) hown hK hP hD hS hA (by decide +kernel) (Nat.le_of_ble_eq_true rfl) (Nat.le_of_ble_eq_true rfl) dk_2_16 (fun q3 H hP hD hS => ?_)
  have hP : va_P D am_cl [(h0, .inr (2, [.ref q1, .null, .null, .null, .int 0, .int 0, .int 0])), (q1, .inr (7, [.ref (g2 1), .ref (g2 2), .int 0, .int (2 : Int32), .int (400 : Int32), .int (50 : Int32), .int (0 : Int32), .int (9 : Int32), .int (12 : Int32)])), ((g2 1), .inl (aC 0, 50, .inl (fun _ => 0))), ((g2 2), .inl (aC 0, 4, .inl (upd (upd (fun _ => 0) 0 (104 : Int32)) 1 (98 : Int32)))), (q3, .inr (7, [.null, .null, .int 0, .int 0, .int 0, .int 0, .int 0, .int 0, .int 0]))] H := hP
  have hD : va_D A [(h0, .inr (2, [.ref q1, .null, .null, .null, .int 0, .int 0, .int 0])), (q1, .inr (7, [.ref (g2 1), .ref (g2 2), .int 0, .int (2 : Int32), .int (400 : Int32), .int (50 : Int32), .int (0 : Int32), .int (9 : Int32), .int (12 : Int32)])), ((g2 1), .inl (aC 0, 50, .inl (fun _ => 0))), ((g2 2), .inl (aC 0, 4, .inl (upd (upd (fun _ => 0) 0 (104 : Int32)) 1 (98 : Int32)))), (q3, .inr (7, [.null, .null, .int 0, .int 0, .int 0, .int 0, .int 0, .int 0, .int 0]))] := hD
  refine lv_dup hx hb dk_2_19 rfl ?_
  have hPc := hP.sub (ws' := [(q3, .inr (7, [.null, .null, .int 0, .int 0, .int 0, .int 0, .int 0, .int 0, .int 0]))]) [4] rfl
  refine ct_callv (pq := 4) (isR := [0, 1, 2, 3]) (wr := [(h0, .inr (2, [.ref q1, .null, .null, .null, .int 0, .int 0, .int 0])), (q1, .inr (7, [.ref (g2 1), .ref (g2 2), .int 0, .int (2 : Int32), .int (400 : Int32), .int (50 : Int32), .int (0 : Int32), .int (9 : Int32), .int (12 : Int32)])), ((g2 1), .inl (aC 0, 50, .inl (fun _ => 0))), ((g2 2), .inl (aC 0, 4, .inl (upd (upd (fun _ => 0) 0 (104 : Int32)) 1 (98 : Int32))))]) (va_runI (As := []) (rest := [.ref q3, .ref h0]) ⟨hx, hb, hml, hown, hts⟩ (ct_7 l D aC q3 H.size) (cwI 0 hts (ct_good (am_mem_in (p := 167) (by decide +kernel))) rfl rfl rfl (hts _ (am_mem_in (p := 39) (by decide +kernel))) (hts _ (am_mem_in (p := 165) (by decide +kernel))) (hts _ (am_mem_in (p := 166) (by decide +kernel))) rfl (by decide +kernel) ⟨(Nat.le_of_ble_eq_true rfl), (Nat.le_of_ble_eq_true rfl)⟩) ⟨ct_blind, fun U hU hW => ⟨rfl, by rw [hU], by rw [hU]; exact hPc, va_K.moved hW.alike hK, hN.warm hW⟩⟩ rfl rfl hl.1 rfl (lv_room (Nat.le_of_ble_eq_true rfl)) dk_2_20 ⟨(Nat.le_of_ble_eq_true rfl), (Nat.le_of_ble_eq_true rfl)⟩) hP hD hS hA rfl rfl (by decide) (by decide) (fun g4 H locs hP hD hS => ?_)
  have hP : va_P D am_cl [(h0, .inr (2, [.ref q1, .null, .null, .null, .int 0, .int 0, .int 0])), (q1, .inr (7, [.ref (g2 1), .ref (g2 2), .int 0, .int (2 : Int32), .int (400 : Int32), .int (50 : Int32), .int (0 : Int32), .int (9 : Int32), .int (12 : Int32)])), ((g2 1), .inl (aC 0, 50, .inl (fun _ => 0))), ((g2 2), .inl (aC 0, 4, .inl (upd (upd (fun _ => 0) 0 (104 : Int32)) 1 (98 : Int32)))), (q3, .inr (7, [.ref (g4 1), .ref (g4 2), .int 0, .int (2 : Int32), .int (400 : Int32), .int (50 : Int32), .int (0 : Int32), .int (9 : Int32), .int (12 : Int32)])), ((g4 1), .inl (aC 0, 50, .inl (fun _ => 0))), ((g4 2), .inl (aC 0, 4, .inl (upd (upd (fun _ => 0) 0 (104 : Int32)) 1 (98 : Int32))))] H := hP
  have hD : va_D A [(h0, .inr (2, [.ref q1, .null, .null, .null, .int 0, .int 0, .int 0])), (q1, .inr (7, [.ref (g2 1), .ref (g2 2), .int 0, .int (2 : Int32), .int (400 : Int32), .int (50 : Int32), .int (0 : Int32), .int (9 : Int32), .int (12 : Int32)])), ((g2 1), .inl (aC 0, 50, .inl (fun _ => 0))), ((g2 2), .inl (aC 0, 4, .inl (upd (upd (fun _ => 0) 0 (104 : Int32)) 1 (98 : Int32)))), (q3, .inr (7, [.ref (g4 1), .ref (g4 2), .int 0, .int (2 : Int32), .int (400 : Int32), .int (50 : Int32), .int (0 : Int32), .int (9 : Int32), .int (12 : Int32)])), ((g4 1), .inl (aC 0, 50, .inl (fun _ => 0))), ((g4 2), .inl (aC 0, 4, .inl (upd (upd (fun _ => 0) 0 (104 : Int32)) 1 (98 : Int32))))] := hD
  refine ct_putF (ci := 2) (f := 1) (z := 2) (C := RX2) (T := TX2) (N := 7) (v := .ref q3) hx hb hts (am_ckf_ok (show am_ckf "PartedLand$Houses" pf_2 16 (some (2, 1, 2)) = true from am_rng klf_2 16 (by decide))) rfl rfl rfl hin hown hK hP hD hS 0 rfl rfl rfl (Nat.le_of_ble_eq_true rfl) dk_2_23 (fun H locs hP hD hS => ?_)
  have hP : va_P D am_cl [(h0, .inr (2, [.ref q1, .ref q3, .null, .null, .int 0, .int 0, .int 0])), (q1, .inr (7, [.ref (g2 1), .ref (g2 2), .int 0, .int (2 : Int32), .int (400 : Int32), .int (50 : Int32), .int (0 : Int32), .int (9 : Int32), .int (12 : Int32)])), ((g2 1), .inl (aC 0, 50, .inl (fun _ => 0))), ((g2 2), .inl (aC 0, 4, .inl (upd (upd (fun _ => 0) 0 (104 : Int32)) 1 (98 : Int32)))), (q3, .inr (7, [.ref (g4 1), .ref (g4 2), .int 0, .int (2 : Int32), .int (400 : Int32), .int (50 : Int32), .int (0 : Int32), .int (9 : Int32), .int (12 : Int32)])), ((g4 1), .inl (aC 0, 50, .inl (fun _ => 0))), ((g4 2), .inl (aC 0, 4, .inl (upd (upd (fun _ => 0) 0 (104 : Int32)) 1 (98 : Int32))))] H := hP
  have hD : va_D A [(h0, .inr (2, [.ref q1, .ref q3, .null, .null, .int 0, .int 0, .int 0])), (q1, .inr (7, [.ref (g2 1), .ref (g2 2), .int 0, .int (2 : Int32), .int (400 : Int32), .int (50 : Int32), .int (0 : Int32), .int (9 : Int32), .int (12 : Int32)])), ((g2 1), .inl (aC 0, 50, .inl (fun _ => 0))), ((g2 2), .inl (aC 0, 4, .inl (upd (upd (fun _ => 0) 0 (104 : Int32)) 1 (98 : Int32)))), (q3, .inr (7, [.ref (g4 1), .ref (g4 2), .int 0, .int (2 : Int32), .int (400 : Int32), .int (50 : Int32), .int (0 : Int32), .int (9 : Int32), .int (12 : Int32)])), ((g4 1), .inl (aC 0, 50, .inl (fun _ => 0))), ((g4 2), .inl (aC 0, 4, .inl (upd (upd (fun _ => 0) 0 (104 : Int32)) 1 (98 : Int32))))] := hD
  refine lv_aload_n hx hb dk_2_26 rfl (lv_at hl 0 rfl) ?_
  refine ct_new (ci := 7) (C := RX7) (T := TX7) (N := 9) (fs := [.null, .null, .int 0, .int 0, .int 0, .int 0, .int 0, .int 0, .int 0]) hx hb hts rfl (am_mem_in (p := 163) (by decide +kernel)) (am_mem_in (p := 164) (by decide +kernel)) (am_mem_in (p := 39) (by decide +kernel)) hown hK hP hD hS hA (by decide +kernel) (Nat.le_of_ble_eq_true rfl) (Nat.le_of_ble_eq_true rfl) dk_2_27 (fun q5 H hP hD hS => ?_)
  have hP : va_P D am_cl [(h0, .inr (2, [.ref q1, .ref q3, .null, .null, .int 0, .int 0, .int 0])), (q1, .inr (7, [.ref (g2 1), .ref (g2 2), .int 0, .int (2 : Int32), .int (400 : Int32), .int (50 : Int32), .int (0 : Int32), .int (9 : Int32), .int (12 : Int32)])), ((g2 1), .inl (aC 0, 50, .inl (fun _ => 0))), ((g2 2), .inl (aC 0, 4, .inl (upd (upd (fun _ => 0) 0 (104 : Int32)) 1 (98 : Int32)))), (q3, .inr (7, [.ref (g4 1), .ref (g4 2), .int 0, .int (2 : Int32), .int (400 : Int32), .int (50 : Int32), .int (0 : Int32), .int (9 : Int32), .int (12 : Int32)])), ((g4 1), .inl (aC 0, 50, .inl (fun _ => 0))), ((g4 2), .inl (aC 0, 4, .inl (upd (upd (fun _ => 0) 0 (104 : Int32)) 1 (98 : Int32)))), (q5, .inr (7, [.null, .null, .int 0, .int 0, .int 0, .int 0, .int 0, .int 0, .int 0]))] H := hP
  have hD : va_D A [(h0, .inr (2, [.ref q1, .ref q3, .null, .null, .int 0, .int 0, .int 0])), (q1, .inr (7, [.ref (g2 1), .ref (g2 2), .int 0, .int (2 : Int32), .int (400 : Int32), .int (50 : Int32), .int (0 : Int32), .int (9 : Int32), .int (12 : Int32)])), ((g2 1), .inl (aC 0, 50, .inl (fun _ => 0))), ((g2 2), .inl (aC 0, 4, .inl (upd (upd (fun _ => 0) 0 (104 : Int32)) 1 (98 : Int32)))), (q3, .inr (7, [.ref (g4 1), .ref (g4 2), .int 0, .int (2 : Int32), .int (400 : Int32), .int (50 : Int32), .int (0 : Int32), .int (9 : Int32), .int (12 : Int32)])), ((g4 1), .inl (aC 0, 50, .inl (fun _ => 0))), ((g4 2), .inl (aC 0, 4, .inl (upd (upd (fun _ => 0) 0 (104 : Int32)) 1 (98 : Int32)))), (q5, .inr (7, [.null, .null, .int 0, .int 0, .int 0, .int 0, .int 0, .int 0, .int 0]))] := hD
  refine lv_dup hx hb dk_2_30 rfl ?_
  have hPc := hP.sub (ws' := [(q5, .inr (7, [.null, .null, .int 0, .int 0, .int 0, .int 0, .int 0, .int 0, .int 0]))]) [7] rfl
  refine ct_callv (pq := 7) (isR := [0, 1, 2, 3, 4, 5, 6]) (wr := [(h0, .inr (2, [.ref q1, .ref q3, .null, .null, .int 0, .int 0, .int 0])), (q1, .inr (7, [.ref (g2 1), .ref (g2 2), .int 0, .int (2 : Int32), .int (400 : Int32), .int (50 : Int32), .int (0 : Int32), .int (9 : Int32), .int (12 : Int32)])), ((g2 1), .inl (aC 0, 50, .inl (fun _ => 0))), ((g2 2), .inl (aC 0, 4, .inl (upd (upd (fun _ => 0) 0 (104 : Int32)) 1 (98 : Int32)))), (q3, .inr (7, [.ref (g4 1), .ref (g4 2), .int 0, .int (2 : Int32), .int (400 : Int32), .int (50 : Int32), .int (0 : Int32), .int (9 : Int32), .int (12 : Int32)])), ((g4 1), .inl (aC 0, 50, .inl (fun _ => 0))), ((g4 2), .inl (aC 0, 4, .inl (upd (upd (fun _ => 0) 0 (104 : Int32)) 1 (98 : Int32))))]) (va_runI (As := []) (rest := [.ref q5, .ref h0]) ⟨hx, hb, hml, hown, hts⟩ (ct_7 l D aC q5 H.size) (cwI 0 hts (ct_good (am_mem_in (p := 167) (by decide +kernel))) rfl rfl rfl (hts _ (am_mem_in (p := 39) (by decide +kernel))) (hts _ (am_mem_in (p := 165) (by decide +kernel))) (hts _ (am_mem_in (p := 166) (by decide +kernel))) rfl (by decide +kernel) ⟨(Nat.le_of_ble_eq_true rfl), (Nat.le_of_ble_eq_true rfl)⟩) ⟨ct_blind, fun U hU hW => ⟨rfl, by rw [hU], by rw [hU]; exact hPc, va_K.moved hW.alike hK, hN.warm hW⟩⟩ rfl rfl hl.1 rfl (lv_room (Nat.le_of_ble_eq_true rfl)) dk_2_31 ⟨(Nat.le_of_ble_eq_true rfl), (Nat.le_of_ble_eq_true rfl)⟩) hP hD hS hA rfl rfl (by decide) (by decide) (fun g6 H locs hP hD hS => ?_)
  have hP : va_P D am_cl [(h0, .inr (2, [.ref q1, .ref q3, .null, .null, .int 0, .int 0, .int 0])), (q1, .inr (7, [.ref (g2 1), .ref (g2 2), .int 0, .int (2 : Int32), .int (400 : Int32), .int (50 : Int32), .int (0 : Int32), .int (9 : Int32), .int (12 : Int32)])), ((g2 1), .inl (aC 0, 50, .inl (fun _ => 0))), ((g2 2), .inl (aC 0, 4, .inl (upd (upd (fun _ => 0) 0 (104 : Int32)) 1 (98 : Int32)))), (q3, .inr (7, [.ref (g4 1), .ref (g4 2), .int 0, .int (2 : Int32), .int (400 : Int32), .int (50 : Int32), .int (0 : Int32), .int (9 : Int32), .int (12 : Int32)])), ((g4 1), .inl (aC 0, 50, .inl (fun _ => 0))), ((g4 2), .inl (aC 0, 4, .inl (upd (upd (fun _ => 0) 0 (104 : Int32)) 1 (98 : Int32)))), (q5, .inr (7, [.ref (g6 1), .ref (g6 2), .int 0, .int (2 : Int32), .int (400 : Int32), .int (50 : Int32), .int (0 : Int32), .int (9 : Int32), .int (12 : Int32)])), ((g6 1), .inl (aC 0, 50, .inl (fun _ => 0))), ((g6 2), .inl (aC 0, 4, .inl (upd (upd (fun _ => 0) 0 (104 : Int32)) 1 (98 : Int32))))] H := hP
  have hD : va_D A [(h0, .inr (2, [.ref q1, .ref q3, .null, .null, .int 0, .int 0, .int 0])), (q1, .inr (7, [.ref (g2 1), .ref (g2 2), .int 0, .int (2 : Int32), .int (400 : Int32), .int (50 : Int32), .int (0 : Int32), .int (9 : Int32), .int (12 : Int32)])), ((g2 1), .inl (aC 0, 50, .inl (fun _ => 0))), ((g2 2), .inl (aC 0, 4, .inl (upd (upd (fun _ => 0) 0 (104 : Int32)) 1 (98 : Int32)))), (q3, .inr (7, [.ref (g4 1), .ref (g4 2), .int 0, .int (2 : Int32), .int (400 : Int32), .int (50 : Int32), .int (0 : Int32), .int (9 : Int32), .int (12 : Int32)])), ((g4 1), .inl (aC 0, 50, .inl (fun _ => 0))), ((g4 2), .inl (aC 0, 4, .inl (upd (upd (fun _ => 0) 0 (104 : Int32)) 1 (98 : Int32)))), (q5, .inr (7, [.ref (g6 1), .ref (g6 2), .int 0, .int (2 : Int32), .int (400 : Int32), .int (50 : Int32), .int (0 : Int32), .int (9 : Int32), .int (12 : Int32)])), ((g6 1), .inl (aC 0, 50, .inl (fun _ => 0))), ((g6 2), .inl (aC 0, 4, .inl (upd (upd (fun _ => 0) 0 (104 : Int32)) 1 (98 : Int32))))] := hD
  refine ct_putF (ci := 2) (f := 2) (z := 2) (C := RX2) (T := TX2) (N := 7) (v := .ref q5) hx hb hts (am_ckf_ok (show am_ckf "PartedLand$Houses" pf_2 19 (some (2, 2, 2)) = true from am_rng klf_2 19 (by decide))) rfl rfl rfl hin hown hK hP hD hS 0 rfl rfl rfl (Nat.le_of_ble_eq_true rfl) dk_2_34 (fun H locs hP hD hS => ?_)
  have hP : va_P D am_cl [(h0, .inr (2, [.ref q1, .ref q3, .ref q5, .null, .int 0, .int 0, .int 0])), (q1, .inr (7, [.ref (g2 1), .ref (g2 2), .int 0, .int (2 : Int32), .int (400 : Int32), .int (50 : Int32), .int (0 : Int32), .int (9 : Int32), .int (12 : Int32)])), ((g2 1), .inl (aC 0, 50, .inl (fun _ => 0))), ((g2 2), .inl (aC 0, 4, .inl (upd (upd (fun _ => 0) 0 (104 : Int32)) 1 (98 : Int32)))), (q3, .inr (7, [.ref (g4 1), .ref (g4 2), .int 0, .int (2 : Int32), .int (400 : Int32), .int (50 : Int32), .int (0 : Int32), .int (9 : Int32), .int (12 : Int32)])), ((g4 1), .inl (aC 0, 50, .inl (fun _ => 0))), ((g4 2), .inl (aC 0, 4, .inl (upd (upd (fun _ => 0) 0 (104 : Int32)) 1 (98 : Int32)))), (q5, .inr (7, [.ref (g6 1), .ref (g6 2), .int 0, .int (2 : Int32), .int (400 : Int32), .int (50 : Int32), .int (0 : Int32), .int (9 : Int32), .int (12 : Int32)])), ((g6 1), .inl (aC 0, 50, .inl (fun _ => 0))), ((g6 2), .inl (aC 0, 4, .inl (upd (upd (fun _ => 0) 0 (104 : Int32)) 1 (98 : Int32))))] H := hP
  have hD : va_D A [(h0, .inr (2, [.ref q1, .ref q3, .ref q5, .null, .int 0, .int 0, .int 0])), (q1, .inr (7, [.ref (g2 1), .ref (g2 2), .int 0, .int (2 : Int32), .int (400 : Int32), .int (50 : Int32), .int (0 : Int32), .int (9 : Int32), .int (12 : Int32)])), ((g2 1), .inl (aC 0, 50, .inl (fun _ => 0))), ((g2 2), .inl (aC 0, 4, .inl (upd (upd (fun _ => 0) 0 (104 : Int32)) 1 (98 : Int32)))), (q3, .inr (7, [.ref (g4 1), .ref (g4 2), .int 0, .int (2 : Int32), .int (400 : Int32), .int (50 : Int32), .int (0 : Int32), .int (9 : Int32), .int (12 : Int32)])), ((g4 1), .inl (aC 0, 50, .inl (fun _ => 0))), ((g4 2), .inl (aC 0, 4, .inl (upd (upd (fun _ => 0) 0 (104 : Int32)) 1 (98 : Int32)))), (q5, .inr (7, [.ref (g6 1), .ref (g6 2), .int 0, .int (2 : Int32), .int (400 : Int32), .int (50 : Int32), .int (0 : Int32), .int (9 : Int32), .int (12 : Int32)])), ((g6 1), .inl (aC 0, 50, .inl (fun _ => 0))), ((g6 2), .inl (aC 0, 4, .inl (upd (upd (fun _ => 0) 0 (104 : Int32)) 1 (98 : Int32))))] := hD
  refine lv_aload_n hx hb dk_2_37 rfl (lv_at hl 0 rfl) ?_
  refine ct_new (ci := 7) (C := RX7) (T := TX7) (N := 9) (fs := [.null, .null, .int 0, .int 0, .int 0, .int 0, .int 0, .int 0, .int 0]) hx hb hts rfl (am_mem_in (p := 163) (by decide +kernel)) (am_mem_in (p := 164) (by decide +kernel)) (am_mem_in (p := 39) (by decide +kernel)) hown hK hP hD hS hA (by decide +kernel) (Nat.le_of_ble_eq_true rfl) (Nat.le_of_ble_eq_true rfl) dk_2_38 (fun q7 H hP hD hS => ?_)
  have hP : va_P D am_cl [(h0, .inr (2, [.ref q1, .ref q3, .ref q5, .null, .int 0, .int 0, .int 0])), (q1, .inr (7, [.ref (g2 1), .ref (g2 2), .int 0, .int (2 : Int32), .int (400 : Int32), .int (50 : Int32), .int (0 : Int32), .int (9 : Int32), .int (12 : Int32)])), ((g2 1), .inl (aC 0, 50, .inl (fun _ => 0))), ((g2 2), .inl (aC 0, 4, .inl (upd (upd (fun _ => 0) 0 (104 : Int32)) 1 (98 : Int32)))), (q3, .inr (7, [.ref (g4 1), .ref (g4 2), .int 0, .int (2 : Int32), .int (400 : Int32), .int (50 : Int32), .int (0 : Int32), .int (9 : Int32), .int (12 : Int32)])), ((g4 1), .inl (aC 0, 50, .inl (fun _ => 0))), ((g4 2), .inl (aC 0, 4, .inl (upd (upd (fun _ => 0) 0 (104 : Int32)) 1 (98 : Int32)))), (q5, .inr (7, [.ref (g6 1), .ref (g6 2), .int 0, .int (2 : Int32), .int (400 : Int32), .int (50 : Int32), .int (0 : Int32), .int (9 : Int32), .int (12 : Int32)])), ((g6 1), .inl (aC 0, 50, .inl (fun _ => 0))), ((g6 2), .inl (aC 0, 4, .inl (upd (upd (fun _ => 0) 0 (104 : Int32)) 1 (98 : Int32)))), (q7, .inr (7, [.null, .null, .int 0, .int 0, .int 0, .int 0, .int 0, .int 0, .int 0]))] H := hP
  have hD : va_D A [(h0, .inr (2, [.ref q1, .ref q3, .ref q5, .null, .int 0, .int 0, .int 0])), (q1, .inr (7, [.ref (g2 1), .ref (g2 2), .int 0, .int (2 : Int32), .int (400 : Int32), .int (50 : Int32), .int (0 : Int32), .int (9 : Int32), .int (12 : Int32)])), ((g2 1), .inl (aC 0, 50, .inl (fun _ => 0))), ((g2 2), .inl (aC 0, 4, .inl (upd (upd (fun _ => 0) 0 (104 : Int32)) 1 (98 : Int32)))), (q3, .inr (7, [.ref (g4 1), .ref (g4 2), .int 0, .int (2 : Int32), .int (400 : Int32), .int (50 : Int32), .int (0 : Int32), .int (9 : Int32), .int (12 : Int32)])), ((g4 1), .inl (aC 0, 50, .inl (fun _ => 0))), ((g4 2), .inl (aC 0, 4, .inl (upd (upd (fun _ => 0) 0 (104 : Int32)) 1 (98 : Int32)))), (q5, .inr (7, [.ref (g6 1), .ref (g6 2), .int 0, .int (2 : Int32), .int (400 : Int32), .int (50 : Int32), .int (0 : Int32), .int (9 : Int32), .int (12 : Int32)])), ((g6 1), .inl (aC 0, 50, .inl (fun _ => 0))), ((g6 2), .inl (aC 0, 4, .inl (upd (upd (fun _ => 0) 0 (104 : Int32)) 1 (98 : Int32)))), (q7, .inr (7, [.null, .null, .int 0, .int 0, .int 0, .int 0, .int 0, .int 0, .int 0]))] := hD
  refine lv_dup hx hb dk_2_41 rfl ?_
  have hPc := hP.sub (ws' := [(q7, .inr (7, [.null, .null, .int 0, .int 0, .int 0, .int 0, .int 0, .int 0, .int 0]))]) [10] rfl
  refine ct_callv (pq := 10) (isR := [0, 1, 2, 3, 4, 5, 6, 7, 8, 9]) (wr := [(h0, .inr (2, [.ref q1, .ref q3, .ref q5, .null, .int 0, .int 0, .int 0])), (q1, .inr (7, [.ref (g2 1), .ref (g2 2), .int 0, .int (2 : Int32), .int (400 : Int32), .int (50 : Int32), .int (0 : Int32), .int (9 : Int32), .int (12 : Int32)])), ((g2 1), .inl (aC 0, 50, .inl (fun _ => 0))), ((g2 2), .inl (aC 0, 4, .inl (upd (upd (fun _ => 0) 0 (104 : Int32)) 1 (98 : Int32)))), (q3, .inr (7, [.ref (g4 1), .ref (g4 2), .int 0, .int (2 : Int32), .int (400 : Int32), .int (50 : Int32), .int (0 : Int32), .int (9 : Int32), .int (12 : Int32)])), ((g4 1), .inl (aC 0, 50, .inl (fun _ => 0))), ((g4 2), .inl (aC 0, 4, .inl (upd (upd (fun _ => 0) 0 (104 : Int32)) 1 (98 : Int32)))), (q5, .inr (7, [.ref (g6 1), .ref (g6 2), .int 0, .int (2 : Int32), .int (400 : Int32), .int (50 : Int32), .int (0 : Int32), .int (9 : Int32), .int (12 : Int32)])), ((g6 1), .inl (aC 0, 50, .inl (fun _ => 0))), ((g6 2), .inl (aC 0, 4, .inl (upd (upd (fun _ => 0) 0 (104 : Int32)) 1 (98 : Int32))))]) (va_runI (As := []) (rest := [.ref q7, .ref h0]) ⟨hx, hb, hml, hown, hts⟩ (ct_7 l D aC q7 H.size) (cwI 0 hts (ct_good (am_mem_in (p := 167) (by decide +kernel))) rfl rfl rfl (hts _ (am_mem_in (p := 39) (by decide +kernel))) (hts _ (am_mem_in (p := 165) (by decide +kernel))) (hts _ (am_mem_in (p := 166) (by decide +kernel))) rfl (by decide +kernel) ⟨(Nat.le_of_ble_eq_true rfl), (Nat.le_of_ble_eq_true rfl)⟩) ⟨ct_blind, fun U hU hW => ⟨rfl, by rw [hU], by rw [hU]; exact hPc, va_K.moved hW.alike hK, hN.warm hW⟩⟩ rfl rfl hl.1 rfl (lv_room (Nat.le_of_ble_eq_true rfl)) dk_2_42 ⟨(Nat.le_of_ble_eq_true rfl), (Nat.le_of_ble_eq_true rfl)⟩) hP hD hS hA rfl rfl (by decide) (by decide) (fun g8 H locs hP hD hS => ?_)
  have hP : va_P D am_cl [(h0, .inr (2, [.ref q1, .ref q3, .ref q5, .null, .int 0, .int 0, .int 0])), (q1, .inr (7, [.ref (g2 1), .ref (g2 2), .int 0, .int (2 : Int32), .int (400 : Int32), .int (50 : Int32), .int (0 : Int32), .int (9 : Int32), .int (12 : Int32)])), ((g2 1), .inl (aC 0, 50, .inl (fun _ => 0))), ((g2 2), .inl (aC 0, 4, .inl (upd (upd (fun _ => 0) 0 (104 : Int32)) 1 (98 : Int32)))), (q3, .inr (7, [.ref (g4 1), .ref (g4 2), .int 0, .int (2 : Int32), .int (400 : Int32), .int (50 : Int32), .int (0 : Int32), .int (9 : Int32), .int (12 : Int32)])), ((g4 1), .inl (aC 0, 50, .inl (fun _ => 0))), ((g4 2), .inl (aC 0, 4, .inl (upd (upd (fun _ => 0) 0 (104 : Int32)) 1 (98 : Int32)))), (q5, .inr (7, [.ref (g6 1), .ref (g6 2), .int 0, .int (2 : Int32), .int (400 : Int32), .int (50 : Int32), .int (0 : Int32), .int (9 : Int32), .int (12 : Int32)])), ((g6 1), .inl (aC 0, 50, .inl (fun _ => 0))), ((g6 2), .inl (aC 0, 4, .inl (upd (upd (fun _ => 0) 0 (104 : Int32)) 1 (98 : Int32)))), (q7, .inr (7, [.ref (g8 1), .ref (g8 2), .int 0, .int (2 : Int32), .int (400 : Int32), .int (50 : Int32), .int (0 : Int32), .int (9 : Int32), .int (12 : Int32)])), ((g8 1), .inl (aC 0, 50, .inl (fun _ => 0))), ((g8 2), .inl (aC 0, 4, .inl (upd (upd (fun _ => 0) 0 (104 : Int32)) 1 (98 : Int32))))] H := hP
  have hD : va_D A [(h0, .inr (2, [.ref q1, .ref q3, .ref q5, .null, .int 0, .int 0, .int 0])), (q1, .inr (7, [.ref (g2 1), .ref (g2 2), .int 0, .int (2 : Int32), .int (400 : Int32), .int (50 : Int32), .int (0 : Int32), .int (9 : Int32), .int (12 : Int32)])), ((g2 1), .inl (aC 0, 50, .inl (fun _ => 0))), ((g2 2), .inl (aC 0, 4, .inl (upd (upd (fun _ => 0) 0 (104 : Int32)) 1 (98 : Int32)))), (q3, .inr (7, [.ref (g4 1), .ref (g4 2), .int 0, .int (2 : Int32), .int (400 : Int32), .int (50 : Int32), .int (0 : Int32), .int (9 : Int32), .int (12 : Int32)])), ((g4 1), .inl (aC 0, 50, .inl (fun _ => 0))), ((g4 2), .inl (aC 0, 4, .inl (upd (upd (fun _ => 0) 0 (104 : Int32)) 1 (98 : Int32)))), (q5, .inr (7, [.ref (g6 1), .ref (g6 2), .int 0, .int (2 : Int32), .int (400 : Int32), .int (50 : Int32), .int (0 : Int32), .int (9 : Int32), .int (12 : Int32)])), ((g6 1), .inl (aC 0, 50, .inl (fun _ => 0))), ((g6 2), .inl (aC 0, 4, .inl (upd (upd (fun _ => 0) 0 (104 : Int32)) 1 (98 : Int32)))), (q7, .inr (7, [.ref (g8 1), .ref (g8 2), .int 0, .int (2 : Int32), .int (400 : Int32), .int (50 : Int32), .int (0 : Int32), .int (9 : Int32), .int (12 : Int32)])), ((g8 1), .inl (aC 0, 50, .inl (fun _ => 0))), ((g8 2), .inl (aC 0, 4, .inl (upd (upd (fun _ => 0) 0 (104 : Int32)) 1 (98 : Int32))))] := hD
  refine ct_putF (ci := 2) (f := 3) (z := 2) (C := RX2) (T := TX2) (N := 7) (v := .ref q7) hx hb hts (am_ckf_ok (show am_ckf "PartedLand$Houses" pf_2 22 (some (2, 3, 2)) = true from am_rng klf_2 22 (by decide))) rfl rfl rfl hin hown hK hP hD hS 0 rfl rfl rfl (Nat.le_of_ble_eq_true rfl) dk_2_45 (fun H locs hP hD hS => ?_)
  have hP : va_P D am_cl [(h0, .inr (2, [.ref q1, .ref q3, .ref q5, .ref q7, .int 0, .int 0, .int 0])), (q1, .inr (7, [.ref (g2 1), .ref (g2 2), .int 0, .int (2 : Int32), .int (400 : Int32), .int (50 : Int32), .int (0 : Int32), .int (9 : Int32), .int (12 : Int32)])), ((g2 1), .inl (aC 0, 50, .inl (fun _ => 0))), ((g2 2), .inl (aC 0, 4, .inl (upd (upd (fun _ => 0) 0 (104 : Int32)) 1 (98 : Int32)))), (q3, .inr (7, [.ref (g4 1), .ref (g4 2), .int 0, .int (2 : Int32), .int (400 : Int32), .int (50 : Int32), .int (0 : Int32), .int (9 : Int32), .int (12 : Int32)])), ((g4 1), .inl (aC 0, 50, .inl (fun _ => 0))), ((g4 2), .inl (aC 0, 4, .inl (upd (upd (fun _ => 0) 0 (104 : Int32)) 1 (98 : Int32)))), (q5, .inr (7, [.ref (g6 1), .ref (g6 2), .int 0, .int (2 : Int32), .int (400 : Int32), .int (50 : Int32), .int (0 : Int32), .int (9 : Int32), .int (12 : Int32)])), ((g6 1), .inl (aC 0, 50, .inl (fun _ => 0))), ((g6 2), .inl (aC 0, 4, .inl (upd (upd (fun _ => 0) 0 (104 : Int32)) 1 (98 : Int32)))), (q7, .inr (7, [.ref (g8 1), .ref (g8 2), .int 0, .int (2 : Int32), .int (400 : Int32), .int (50 : Int32), .int (0 : Int32), .int (9 : Int32), .int (12 : Int32)])), ((g8 1), .inl (aC 0, 50, .inl (fun _ => 0))), ((g8 2), .inl (aC 0, 4, .inl (upd (upd (fun _ => 0) 0 (104 : Int32)) 1 (98 : Int32))))] H := hP
  have hD : va_D A [(h0, .inr (2, [.ref q1, .ref q3, .ref q5, .ref q7, .int 0, .int 0, .int 0])), (q1, .inr (7, [.ref (g2 1), .ref (g2 2), .int 0, .int (2 : Int32), .int (400 : Int32), .int (50 : Int32), .int (0 : Int32), .int (9 : Int32), .int (12 : Int32)])), ((g2 1), .inl (aC 0, 50, .inl (fun _ => 0))), ((g2 2), .inl (aC 0, 4, .inl (upd (upd (fun _ => 0) 0 (104 : Int32)) 1 (98 : Int32)))), (q3, .inr (7, [.ref (g4 1), .ref (g4 2), .int 0, .int (2 : Int32), .int (400 : Int32), .int (50 : Int32), .int (0 : Int32), .int (9 : Int32), .int (12 : Int32)])), ((g4 1), .inl (aC 0, 50, .inl (fun _ => 0))), ((g4 2), .inl (aC 0, 4, .inl (upd (upd (fun _ => 0) 0 (104 : Int32)) 1 (98 : Int32)))), (q5, .inr (7, [.ref (g6 1), .ref (g6 2), .int 0, .int (2 : Int32), .int (400 : Int32), .int (50 : Int32), .int (0 : Int32), .int (9 : Int32), .int (12 : Int32)])), ((g6 1), .inl (aC 0, 50, .inl (fun _ => 0))), ((g6 2), .inl (aC 0, 4, .inl (upd (upd (fun _ => 0) 0 (104 : Int32)) 1 (98 : Int32)))), (q7, .inr (7, [.ref (g8 1), .ref (g8 2), .int 0, .int (2 : Int32), .int (400 : Int32), .int (50 : Int32), .int (0 : Int32), .int (9 : Int32), .int (12 : Int32)])), ((g8 1), .inl (aC 0, 50, .inl (fun _ => 0))), ((g8 2), .inl (aC 0, 4, .inl (upd (upd (fun _ => 0) 0 (104 : Int32)) 1 (98 : Int32))))] := hD
  refine lv_aload_n hx hb dk_2_48 rfl (lv_at hl 0 rfl) ?_
  refine lv_iconst (v := (0 : Int32)) hx hb dk_2_49 (by decide) ?_
  refine ct_put (ci := 2) (f := 4) (z := 1) (C := RX2) (T := TX2) (N := 7) (v := .int (0 : Int32)) hx hb hts (am_ckf_ok (show am_ckf "PartedLand$Houses" pf_2 25 (some (2, 4, 1)) = true from am_rng klf_2 25 (by decide))) rfl rfl hown hK hP hD hS 0 rfl rfl rfl (Nat.le_of_ble_eq_true rfl) dk_2_50 (fun H locs hP hD hS => ?_)
  have hP : va_P D am_cl [(h0, .inr (2, [.ref q1, .ref q3, .ref q5, .ref q7, .int (0 : Int32), .int 0, .int 0])), (q1, .inr (7, [.ref (g2 1), .ref (g2 2), .int 0, .int (2 : Int32), .int (400 : Int32), .int (50 : Int32), .int (0 : Int32), .int (9 : Int32), .int (12 : Int32)])), ((g2 1), .inl (aC 0, 50, .inl (fun _ => 0))), ((g2 2), .inl (aC 0, 4, .inl (upd (upd (fun _ => 0) 0 (104 : Int32)) 1 (98 : Int32)))), (q3, .inr (7, [.ref (g4 1), .ref (g4 2), .int 0, .int (2 : Int32), .int (400 : Int32), .int (50 : Int32), .int (0 : Int32), .int (9 : Int32), .int (12 : Int32)])), ((g4 1), .inl (aC 0, 50, .inl (fun _ => 0))), ((g4 2), .inl (aC 0, 4, .inl (upd (upd (fun _ => 0) 0 (104 : Int32)) 1 (98 : Int32)))), (q5, .inr (7, [.ref (g6 1), .ref (g6 2), .int 0, .int (2 : Int32), .int (400 : Int32), .int (50 : Int32), .int (0 : Int32), .int (9 : Int32), .int (12 : Int32)])), ((g6 1), .inl (aC 0, 50, .inl (fun _ => 0))), ((g6 2), .inl (aC 0, 4, .inl (upd (upd (fun _ => 0) 0 (104 : Int32)) 1 (98 : Int32)))), (q7, .inr (7, [.ref (g8 1), .ref (g8 2), .int 0, .int (2 : Int32), .int (400 : Int32), .int (50 : Int32), .int (0 : Int32), .int (9 : Int32), .int (12 : Int32)])), ((g8 1), .inl (aC 0, 50, .inl (fun _ => 0))), ((g8 2), .inl (aC 0, 4, .inl (upd (upd (fun _ => 0) 0 (104 : Int32)) 1 (98 : Int32))))] H := hP
  have hD : va_D A [(h0, .inr (2, [.ref q1, .ref q3, .ref q5, .ref q7, .int (0 : Int32), .int 0, .int 0])), (q1, .inr (7, [.ref (g2 1), .ref (g2 2), .int 0, .int (2 : Int32), .int (400 : Int32), .int (50 : Int32), .int (0 : Int32), .int (9 : Int32), .int (12 : Int32)])), ((g2 1), .inl (aC 0, 50, .inl (fun _ => 0))), ((g2 2), .inl (aC 0, 4, .inl (upd (upd (fun _ => 0) 0 (104 : Int32)) 1 (98 : Int32)))), (q3, .inr (7, [.ref (g4 1), .ref (g4 2), .int 0, .int (2 : Int32), .int (400 : Int32), .int (50 : Int32), .int (0 : Int32), .int (9 : Int32), .int (12 : Int32)])), ((g4 1), .inl (aC 0, 50, .inl (fun _ => 0))), ((g4 2), .inl (aC 0, 4, .inl (upd (upd (fun _ => 0) 0 (104 : Int32)) 1 (98 : Int32)))), (q5, .inr (7, [.ref (g6 1), .ref (g6 2), .int 0, .int (2 : Int32), .int (400 : Int32), .int (50 : Int32), .int (0 : Int32), .int (9 : Int32), .int (12 : Int32)])), ((g6 1), .inl (aC 0, 50, .inl (fun _ => 0))), ((g6 2), .inl (aC 0, 4, .inl (upd (upd (fun _ => 0) 0 (104 : Int32)) 1 (98 : Int32)))), (q7, .inr (7, [.ref (g8 1), .ref (g8 2), .int 0, .int (2 : Int32), .int (400 : Int32), .int (50 : Int32), .int (0 : Int32), .int (9 : Int32), .int (12 : Int32)])), ((g8 1), .inl (aC 0, 50, .inl (fun _ => 0))), ((g8 2), .inl (aC 0, 4, .inl (upd (upd (fun _ => 0) 0 (104 : Int32)) 1 (98 : Int32))))] := hD
  refine lv_aload_n hx hb dk_2_53 rfl (lv_at hl 0 rfl) ?_
  refine lv_iconst (v := (0 : Int32)) hx hb dk_2_54 (by decide) ?_
  refine ct_put (ci := 2) (f := 5) (z := 1) (C := RX2) (T := TX2) (N := 7) (v := .int (0 : Int32)) hx hb hts (am_ckf_ok (show am_ckf "PartedLand$Houses" pf_2 29 (some (2, 5, 1)) = true from am_rng klf_2 29 (by decide))) rfl rfl hown hK hP hD hS 0 rfl rfl rfl (Nat.le_of_ble_eq_true rfl) dk_2_55 (fun H locs hP hD hS => ?_)
  have hP : va_P D am_cl [(h0, .inr (2, [.ref q1, .ref q3, .ref q5, .ref q7, .int (0 : Int32), .int (0 : Int32), .int 0])), (q1, .inr (7, [.ref (g2 1), .ref (g2 2), .int 0, .int (2 : Int32), .int (400 : Int32), .int (50 : Int32), .int (0 : Int32), .int (9 : Int32), .int (12 : Int32)])), ((g2 1), .inl (aC 0, 50, .inl (fun _ => 0))), ((g2 2), .inl (aC 0, 4, .inl (upd (upd (fun _ => 0) 0 (104 : Int32)) 1 (98 : Int32)))), (q3, .inr (7, [.ref (g4 1), .ref (g4 2), .int 0, .int (2 : Int32), .int (400 : Int32), .int (50 : Int32), .int (0 : Int32), .int (9 : Int32), .int (12 : Int32)])), ((g4 1), .inl (aC 0, 50, .inl (fun _ => 0))), ((g4 2), .inl (aC 0, 4, .inl (upd (upd (fun _ => 0) 0 (104 : Int32)) 1 (98 : Int32)))), (q5, .inr (7, [.ref (g6 1), .ref (g6 2), .int 0, .int (2 : Int32), .int (400 : Int32), .int (50 : Int32), .int (0 : Int32), .int (9 : Int32), .int (12 : Int32)])), ((g6 1), .inl (aC 0, 50, .inl (fun _ => 0))), ((g6 2), .inl (aC 0, 4, .inl (upd (upd (fun _ => 0) 0 (104 : Int32)) 1 (98 : Int32)))), (q7, .inr (7, [.ref (g8 1), .ref (g8 2), .int 0, .int (2 : Int32), .int (400 : Int32), .int (50 : Int32), .int (0 : Int32), .int (9 : Int32), .int (12 : Int32)])), ((g8 1), .inl (aC 0, 50, .inl (fun _ => 0))), ((g8 2), .inl (aC 0, 4, .inl (upd (upd (fun _ => 0) 0 (104 : Int32)) 1 (98 : Int32))))] H := hP
  have hD : va_D A [(h0, .inr (2, [.ref q1, .ref q3, .ref q5, .ref q7, .int (0 : Int32), .int (0 : Int32), .int 0])), (q1, .inr (7, [.ref (g2 1), .ref (g2 2), .int 0, .int (2 : Int32), .int (400 : Int32), .int (50 : Int32), .int (0 : Int32), .int (9 : Int32), .int (12 : Int32)])), ((g2 1), .inl (aC 0, 50, .inl (fun _ => 0))), ((g2 2), .inl (aC 0, 4, .inl (upd (upd (fun _ => 0) 0 (104 : Int32)) 1 (98 : Int32)))), (q3, .inr (7, [.ref (g4 1), .ref (g4 2), .int 0, .int (2 : Int32), .int (400 : Int32), .int (50 : Int32), .int (0 : Int32), .int (9 : Int32), .int (12 : Int32)])), ((g4 1), .inl (aC 0, 50, .inl (fun _ => 0))), ((g4 2), .inl (aC 0, 4, .inl (upd (upd (fun _ => 0) 0 (104 : Int32)) 1 (98 : Int32)))), (q5, .inr (7, [.ref (g6 1), .ref (g6 2), .int 0, .int (2 : Int32), .int (400 : Int32), .int (50 : Int32), .int (0 : Int32), .int (9 : Int32), .int (12 : Int32)])), ((g6 1), .inl (aC 0, 50, .inl (fun _ => 0))), ((g6 2), .inl (aC 0, 4, .inl (upd (upd (fun _ => 0) 0 (104 : Int32)) 1 (98 : Int32)))), (q7, .inr (7, [.ref (g8 1), .ref (g8 2), .int 0, .int (2 : Int32), .int (400 : Int32), .int (50 : Int32), .int (0 : Int32), .int (9 : Int32), .int (12 : Int32)])), ((g8 1), .inl (aC 0, 50, .inl (fun _ => 0))), ((g8 2), .inl (aC 0, 4, .inl (upd (upd (fun _ => 0) 0 (104 : Int32)) 1 (98 : Int32))))] := hD
  refine lv_aload_n hx hb dk_2_58 rfl (lv_at hl 0 rfl) ?_
  refine lv_iconst (v := (0 : Int32)) hx hb dk_2_59 (by decide) ?_
  refine ct_put (ci := 2) (f := 6) (z := 0) (C := RX2) (T := TX2) (N := 7) (v := .int (0 : Int32)) hx hb hts (am_ckf_ok (show am_ckf "PartedLand$Houses" pf_2 32 (some (2, 6, 0)) = true from am_rng klf_2 32 (by decide))) rfl rfl hown hK hP hD hS 0 rfl rfl rfl (Nat.le_of_ble_eq_true rfl) dk_2_60 (fun H locs hP hD hS => ?_)
  have hP : va_P D am_cl [(h0, .inr (2, [.ref q1, .ref q3, .ref q5, .ref q7, .int (0 : Int32), .int (0 : Int32), .int (0 : Int32)])), (q1, .inr (7, [.ref (g2 1), .ref (g2 2), .int 0, .int (2 : Int32), .int (400 : Int32), .int (50 : Int32), .int (0 : Int32), .int (9 : Int32), .int (12 : Int32)])), ((g2 1), .inl (aC 0, 50, .inl (fun _ => 0))), ((g2 2), .inl (aC 0, 4, .inl (upd (upd (fun _ => 0) 0 (104 : Int32)) 1 (98 : Int32)))), (q3, .inr (7, [.ref (g4 1), .ref (g4 2), .int 0, .int (2 : Int32), .int (400 : Int32), .int (50 : Int32), .int (0 : Int32), .int (9 : Int32), .int (12 : Int32)])), ((g4 1), .inl (aC 0, 50, .inl (fun _ => 0))), ((g4 2), .inl (aC 0, 4, .inl (upd (upd (fun _ => 0) 0 (104 : Int32)) 1 (98 : Int32)))), (q5, .inr (7, [.ref (g6 1), .ref (g6 2), .int 0, .int (2 : Int32), .int (400 : Int32), .int (50 : Int32), .int (0 : Int32), .int (9 : Int32), .int (12 : Int32)])), ((g6 1), .inl (aC 0, 50, .inl (fun _ => 0))), ((g6 2), .inl (aC 0, 4, .inl (upd (upd (fun _ => 0) 0 (104 : Int32)) 1 (98 : Int32)))), (q7, .inr (7, [.ref (g8 1), .ref (g8 2), .int 0, .int (2 : Int32), .int (400 : Int32), .int (50 : Int32), .int (0 : Int32), .int (9 : Int32), .int (12 : Int32)])), ((g8 1), .inl (aC 0, 50, .inl (fun _ => 0))), ((g8 2), .inl (aC 0, 4, .inl (upd (upd (fun _ => 0) 0 (104 : Int32)) 1 (98 : Int32))))] H := hP
  have hD : va_D A [(h0, .inr (2, [.ref q1, .ref q3, .ref q5, .ref q7, .int (0 : Int32), .int (0 : Int32), .int (0 : Int32)])), (q1, .inr (7, [.ref (g2 1), .ref (g2 2), .int 0, .int (2 : Int32), .int (400 : Int32), .int (50 : Int32), .int (0 : Int32), .int (9 : Int32), .int (12 : Int32)])), ((g2 1), .inl (aC 0, 50, .inl (fun _ => 0))), ((g2 2), .inl (aC 0, 4, .inl (upd (upd (fun _ => 0) 0 (104 : Int32)) 1 (98 : Int32)))), (q3, .inr (7, [.ref (g4 1), .ref (g4 2), .int 0, .int (2 : Int32), .int (400 : Int32), .int (50 : Int32), .int (0 : Int32), .int (9 : Int32), .int (12 : Int32)])), ((g4 1), .inl (aC 0, 50, .inl (fun _ => 0))), ((g4 2), .inl (aC 0, 4, .inl (upd (upd (fun _ => 0) 0 (104 : Int32)) 1 (98 : Int32)))), (q5, .inr (7, [.ref (g6 1), .ref (g6 2), .int 0, .int (2 : Int32), .int (400 : Int32), .int (50 : Int32), .int (0 : Int32), .int (9 : Int32), .int (12 : Int32)])), ((g6 1), .inl (aC 0, 50, .inl (fun _ => 0))), ((g6 2), .inl (aC 0, 4, .inl (upd (upd (fun _ => 0) 0 (104 : Int32)) 1 (98 : Int32)))), (q7, .inr (7, [.ref (g8 1), .ref (g8 2), .int 0, .int (2 : Int32), .int (400 : Int32), .int (50 : Int32), .int (0 : Int32), .int (9 : Int32), .int (12 : Int32)])), ((g8 1), .inl (aC 0, 50, .inl (fun _ => 0))), ((g8 2), .inl (aC 0, 4, .inl (upd (upd (fun _ => 0) 0 (104 : Int32)) 1 (98 : Int32))))] := hD
  have hP9 := hP.sub (ws' := ct_F2 aC h0 (fun i => (([h0, q1, (g2 1), (g2 2), q3, (g4 1), (g4 2), q5, (g6 1), (g6 2), q7, (g8 1), (g8 2)] : List Nat)[i]?).getD 0)) [0, 1, 2, 3, 4, 5, 6, 7, 8, 9, 10, 11, 12] rfl
  have hD9 := hD.sub (ws' := ct_F2 aC h0 (fun i => (([h0, q1, (g2 1), (g2 2), q3, (g4 1), (g4 2), q5, (g6 1), (g6 2), q7, (g8 1), (g8 2)] : List Nat)[i]?).getD 0)) [0, 1, 2, 3, 4, 5, 6, 7, 8, 9, 10, 11, 12] (by decide) rfl
  subst hAe
  refine W.widen (k := 12) (n := 252) (Nat.le_of_ble_eq_true rfl) (Nat.le_of_ble_eq_true rfl) ?_
  exact W.vret hx hb hr (fun t ht hW => ⟨⟨rfl, (fun i => (([h0, q1, (g2 1), (g2 2), q3, (g4 1), (g4 2), q5, (g6 1), (g6 2), q7, (g8 1), (g8 2)] : List Nat)[i]?).getD 0), by rw [ht]; exact hP9, hD9⟩, hS.F ht⟩) hS.2.2 dk_2_63
theorem dk_1_0 : decode prog_3_method_1_code 0 = .ok (.aload_n 0, 1) := by decide +kernel
theorem dk_1_1 : decode prog_3_method_1_code 1 = .ok (.invokespecial 1, 3) := by decide +kernel
theorem dk_1_4 : decode prog_3_method_1_code 4 = .ok (.aload_n 0, 1) := by decide +kernel
theorem dk_1_5 : decode prog_3_method_1_code 5 = .ok (.bipush 24, 2) := by decide +kernel
theorem dk_1_7 : decode prog_3_method_1_code 7 = .ok (.newarray .int, 2) := by decide +kernel
theorem dk_1_9 : decode prog_3_method_1_code 9 = .ok (.putfield 9, 3) := by decide +kernel
theorem dk_1_12 : decode prog_3_method_1_code 12 = .ok (.aload_n 0, 1) := by decide +kernel
theorem dk_1_13 : decode prog_3_method_1_code 13 = .ok (.bipush 24, 2) := by decide +kernel
theorem dk_1_15 : decode prog_3_method_1_code 15 = .ok (.newarray .int, 2) := by decide +kernel
theorem dk_1_17 : decode prog_3_method_1_code 17 = .ok (.putfield 13, 3) := by decide +kernel
theorem dk_1_20 : decode prog_3_method_1_code 20 = .ok (.aload_n 0, 1) := by decide +kernel
theorem dk_1_21 : decode prog_3_method_1_code 21 = .ok (.bipush 24, 2) := by decide +kernel
theorem dk_1_23 : decode prog_3_method_1_code 23 = .ok (.newarray .int, 2) := by decide +kernel
theorem dk_1_25 : decode prog_3_method_1_code 25 = .ok (.putfield 16, 3) := by decide +kernel
theorem dk_1_28 : decode prog_3_method_1_code 28 = .ok (.aload_n 0, 1) := by decide +kernel
theorem dk_1_29 : decode prog_3_method_1_code 29 = .ok (.bipush 24, 2) := by decide +kernel
theorem dk_1_31 : decode prog_3_method_1_code 31 = .ok (.newarray .boolean, 2) := by decide +kernel
theorem dk_1_33 : decode prog_3_method_1_code 33 = .ok (.putfield 19, 3) := by decide +kernel
theorem dk_1_36 : decode prog_3_method_1_code 36 = .ok (.aload_n 0, 1) := by decide +kernel
theorem dk_1_37 : decode prog_3_method_1_code 37 = .ok (.bipush 12, 2) := by decide +kernel
theorem dk_1_39 : decode prog_3_method_1_code 39 = .ok (.newarray .int, 2) := by decide +kernel
theorem dk_1_41 : decode prog_3_method_1_code 41 = .ok (.putfield 23, 3) := by decide +kernel
theorem dk_1_44 : decode prog_3_method_1_code 44 = .ok (.aload_n 0, 1) := by decide +kernel
theorem dk_1_45 : decode prog_3_method_1_code 45 = .ok (.bipush 12, 2) := by decide +kernel
theorem dk_1_47 : decode prog_3_method_1_code 47 = .ok (.newarray .int, 2) := by decide +kernel
theorem dk_1_49 : decode prog_3_method_1_code 49 = .ok (.putfield 26, 3) := by decide +kernel
theorem dk_1_52 : decode prog_3_method_1_code 52 = .ok (.aload_n 0, 1) := by decide +kernel
theorem dk_1_53 : decode prog_3_method_1_code 53 = .ok (.iconst 0, 1) := by decide +kernel
theorem dk_1_54 : decode prog_3_method_1_code 54 = .ok (.putfield 29, 3) := by decide +kernel
theorem dk_1_57 : decode prog_3_method_1_code 57 = .ok (.aload_n 0, 1) := by decide +kernel
theorem dk_1_58 : decode prog_3_method_1_code 58 = .ok (.iconst 0, 1) := by decide +kernel
theorem dk_1_59 : decode prog_3_method_1_code 59 = .ok (.putfield 33, 3) := by decide +kernel
theorem dk_1_62 : decode prog_3_method_1_code 62 = .ok (.return_, 1) := by decide +kernel
def ct_F1 (aC : Nat → ClassId) (h0 : Nat) (g : Nat → Nat) : va_W := [(h0, .inr (1, [.ref (g 1), .ref (g 2), .ref (g 3), .ref (g 4), .ref (g 5), .ref (g 6), .int (0 : Int32), .int (0 : Int32)])), ((g 1), .inl (aC 0, 24, .inl (fun _ => 0))), ((g 2), .inl (aC 0, 24, .inl (fun _ => 0))), ((g 3), .inl (aC 0, 24, .inl (fun _ => 0))), ((g 4), .inl (aC 1, 24, .inl (fun _ => 0))), ((g 5), .inl (aC 0, 12, .inl (fun _ => 0))), ((g 6), .inl (aC 0, 12, .inl (fun _ => 0)))]
set_option maxHeartbeats 4000000 in
set_option maxRecDepth 100000 in
theorem ct_1 (l : Launch) (D : va_G) (aC : Nat → ClassId) : ct_Met l D aC (ct_N aC) ⟨"PartedLand$Estate", "<init>", "()V"⟩ prog_3_method_1_code { frames := 1, cells := 6, slots := 120, locals := 12 } 1 [.null, .null, .null, .null, .null, .null, .int 0, .int 0] (ct_F1 aC) 6 120 := by
  intro h0 sz
  refine Met.ofW (cc := prog_3_method_1_code) (maxL := 1) (ret := none) (by decide) rfl ?_
  intro p e s m args below meth c s₁ B hml hv
  obtain ⟨rfl, hsz, hP, hK, hN⟩ := hv
  have hx := B.exec
  have hb := B.bytes
  have hr := B.returns
  have hts0 := atoms_spec (ws := Cond.code (⟨"PartedLand$Estate", "<init>", "()V"⟩ : MethodName) prog_3_method_1_code 1 none :: am_tbl) B.pre
  have hts : ∀ w ∈ am_tbl, w.before _ s = true := fun w hw => hts0 w (List.mem_cons_of_mem _ hw)
  have hown : s.vm.findClass "PartedLand$Estate" = some m.cls := findClass_of_methodNamed B.named
  have hlocks := B.notSynchronized
  have hin : meth.name = "<init>" := (name_of_methodNamed B.named B.method).1
  subst hsz
  obtain ⟨A, hAe⟩ : ∃ A, A = va_A [(h0, .inr (1, [.null, .null, .null, .null, .null, .null, .int 0, .int 0]))] s.heap.size := ⟨_, rfl⟩
  have hD : va_D A [(h0, .inr (1, [.null, .null, .null, .null, .null, .null, .int 0, .int 0]))] := by rw [hAe]; exact ct_D1 _ (va_A.in (k := 0) rfl)
  have hA : ∀ q : Nat, s.heap.size ≤ q → A q := fun q h => by rw [hAe]; exact Or.inr h
  have hS : va_S A s.heap s.heap [] := va_S.rf
  have hP : va_P D am_cl [(h0, .inr (1, [.null, .null, .null, .null, .null, .null, .int 0, .int 0]))] s.heap := hP
  have hl := lv_entry ([.ref h0]) (n := 1) (Nat.le_of_ble_eq_true rfl)
  rw [lg_entry_eq]
  generalize (lg_sl ([.ref h0]) ++ List.replicate (1 - (lg_sl ([.ref h0])).length) Slot.unset).toArray = ls at hl ⊢
  have hl : lv_has ls 1 [(0, .ref h0)] := hl
  refine lv_aload_n hx hb dk_1_0 rfl (lv_at hl 0 rfl) ?_
  refine ct_obj hx hb hts hown (am_mem_in (p := 245) (by decide +kernel)) (hml.trans hl.1.symm) dk_1_1 (Nat.le_of_ble_eq_true rfl) (Nat.le_of_ble_eq_true rfl) ?_
  refine lv_aload_n hx hb dk_1_4 rfl (lv_at hl 0 rfl) ?_
  refine lv_bipush (v := (24 : Int32)) hx hb dk_1_5 (by decide) ?_
  refine ct_newi hx hb (hts _ ct_ai) hK hP hD hS hA (by decide) rfl (by decide) (Nat.le_of_ble_eq_true rfl) (Nat.le_of_ble_eq_true rfl) dk_1_7 (fun q1 H hP hD hS => ?_)
  have hP : va_P D am_cl [(h0, .inr (1, [.null, .null, .null, .null, .null, .null, .int 0, .int 0])), (q1, .inl (aC 0, 24, .inl (fun _ => 0)))] H := hP
  have hD : va_D A [(h0, .inr (1, [.null, .null, .null, .null, .null, .null, .int 0, .int 0])), (q1, .inl (aC 0, 24, .inl (fun _ => 0)))] := hD
  refine ct_putF (ci := 1) (f := 0) (z := 2) (C := RX1) (T := TX1) (N := 8) (v := .ref q1) hx hb hts (am_ckf_ok (show am_ckf "PartedLand$Estate" pf_1 9 (some (1, 0, 2)) = true from am_rng klf_1 9 (by decide))) rfl rfl rfl hin hown hK hP hD hS 0 rfl rfl rfl (Nat.le_of_ble_eq_true rfl) dk_1_9 (fun H locs hP hD hS => ?_)
  have hP : va_P D am_cl [(h0, .inr (1, [.ref q1, .null, .null, .null, .null, .null, .int 0, .int 0])), (q1, .inl (aC 0, 24, .inl (fun _ => 0)))] H := hP
  have hD : va_D A [(h0, .inr (1, [.ref q1, .null, .null, .null, .null, .null, .int 0, .int 0])), (q1, .inl (aC 0, 24, .inl (fun _ => 0)))] := hD
  refine lv_aload_n hx hb dk_1_12 rfl (lv_at hl 0 rfl) ?_
  refine lv_bipush (v := (24 : Int32)) hx hb dk_1_13 (by decide) ?_
  refine ct_newi hx hb (hts _ ct_ai) hK hP hD hS hA (by decide) rfl (by decide) (Nat.le_of_ble_eq_true rfl) (Nat.le_of_ble_eq_true rfl) dk_1_15 (fun q2 H hP hD hS => ?_)
  have hP : va_P D am_cl [(h0, .inr (1, [.ref q1, .null, .null, .null, .null, .null, .int 0, .int 0])), (q1, .inl (aC 0, 24, .inl (fun _ => 0))), (q2, .inl (aC 0, 24, .inl (fun _ => 0)))] H := hP
  have hD : va_D A [(h0, .inr (1, [.ref q1, .null, .null, .null, .null, .null, .int 0, .int 0])), (q1, .inl (aC 0, 24, .inl (fun _ => 0))), (q2, .inl (aC 0, 24, .inl (fun _ => 0)))] := hD
  refine ct_putF (ci := 1) (f := 1) (z := 2) (C := RX1) (T := TX1) (N := 8) (v := .ref q2) hx hb hts (am_ckf_ok (show am_ckf "PartedLand$Estate" pf_1 13 (some (1, 1, 2)) = true from am_rng klf_1 13 (by decide))) rfl rfl rfl hin hown hK hP hD hS 0 rfl rfl rfl (Nat.le_of_ble_eq_true rfl) dk_1_17 (fun H locs hP hD hS => ?_)
  have hP : va_P D am_cl [(h0, .inr (1, [.ref q1, .ref q2, .null, .null, .null, .null, .int 0, .int 0])), (q1, .inl (aC 0, 24, .inl (fun _ => 0))), (q2, .inl (aC 0, 24, .inl (fun _ => 0)))] H := hP
  have hD : va_D A [(h0, .inr (1, [.ref q1, .ref q2, .null, .null, .null, .null, .int 0, .int 0])), (q1, .inl (aC 0, 24, .inl (fun _ => 0))), (q2, .inl (aC 0, 24, .inl (fun _ => 0)))] := hD
  refine lv_aload_n hx hb dk_1_20 rfl (lv_at hl 0 rfl) ?_
  refine lv_bipush (v := (24 : Int32)) hx hb dk_1_21 (by decide) ?_
  refine ct_newi hx hb (hts _ ct_ai) hK hP hD hS hA (by decide) rfl (by decide) (Nat.le_of_ble_eq_true rfl) (Nat.le_of_ble_eq_true rfl) dk_1_23 (fun q3 H hP hD hS => ?_)
  have hP : va_P D am_cl [(h0, .inr (1, [.ref q1, .ref q2, .null, .null, .null, .null, .int 0, .int 0])), (q1, .inl (aC 0, 24, .inl (fun _ => 0))), (q2, .inl (aC 0, 24, .inl (fun _ => 0))), (q3, .inl (aC 0, 24, .inl (fun _ => 0)))] H := hP
  have hD : va_D A [(h0, .inr (1, [.ref q1, .ref q2, .null, .null, .null, .null, .int 0, .int 0])), (q1, .inl (aC 0, 24, .inl (fun _ => 0))), (q2, .inl (aC 0, 24, .inl (fun _ => 0))), (q3, .inl (aC 0, 24, .inl (fun _ => 0)))] := hD
  refine ct_putF (ci := 1) (f := 2) (z := 2) (C := RX1) (T := TX1) (N := 8) (v := .ref q3) hx hb hts (am_ckf_ok (show am_ckf "PartedLand$Estate" pf_1 16 (some (1, 2, 2)) = true from am_rng klf_1 16 (by decide))) rfl rfl rfl hin hown hK hP hD hS 0 rfl rfl rfl (Nat.le_of_ble_eq_true rfl) dk_1_25 (fun H locs hP hD hS => ?_)
  have hP : va_P D am_cl [(h0, .inr (1, [.ref q1, .ref q2, .ref q3, .null, .null, .null, .int 0, .int 0])), (q1, .inl (aC 0, 24, .inl (fun _ => 0))), (q2, .inl (aC 0, 24, .inl (fun _ => 0))), (q3, .inl (aC 0, 24, .inl (fun _ => 0)))] H := hP
  have hD : va_D A [(h0, .inr (1, [.ref q1, .ref q2, .ref q3, .null, .null, .null, .int 0, .int 0])), (q1, .inl (aC 0, 24, .inl (fun _ => 0))), (q2, .inl (aC 0, 24, .inl (fun _ => 0))), (q3, .inl (aC 0, 24, .inl (fun _ => 0)))] := hD
  refine lv_aload_n hx hb dk_1_28 rfl (lv_at hl 0 rfl) ?_
  refine lv_bipush (v := (24 : Int32)) hx hb dk_1_29 (by decide) ?_
  refine ct_newz hx hb (hts _ ct_az) hK hP hD hS hA (by decide) rfl (by decide) (Nat.le_of_ble_eq_true rfl) (Nat.le_of_ble_eq_true rfl) dk_1_31 (fun q4 H hP hD hS => ?_)
  have hP : va_P D am_cl [(h0, .inr (1, [.ref q1, .ref q2, .ref q3, .null, .null, .null, .int 0, .int 0])), (q1, .inl (aC 0, 24, .inl (fun _ => 0))), (q2, .inl (aC 0, 24, .inl (fun _ => 0))), (q3, .inl (aC 0, 24, .inl (fun _ => 0))), (q4, .inl (aC 1, 24, .inl (fun _ => 0)))] H := hP
  have hD : va_D A [(h0, .inr (1, [.ref q1, .ref q2, .ref q3, .null, .null, .null, .int 0, .int 0])), (q1, .inl (aC 0, 24, .inl (fun _ => 0))), (q2, .inl (aC 0, 24, .inl (fun _ => 0))), (q3, .inl (aC 0, 24, .inl (fun _ => 0))), (q4, .inl (aC 1, 24, .inl (fun _ => 0)))] := hD
  refine ct_putF (ci := 1) (f := 3) (z := 2) (C := RX1) (T := TX1) (N := 8) (v := .ref q4) hx hb hts (am_ckf_ok (show am_ckf "PartedLand$Estate" pf_1 19 (some (1, 3, 2)) = true from am_rng klf_1 19 (by decide))) rfl rfl rfl hin hown hK hP hD hS 0 rfl rfl rfl (Nat.le_of_ble_eq_true rfl) dk_1_33 (fun H locs hP hD hS => ?_)
  have hP : va_P D am_cl [(h0, .inr (1, [.ref q1, .ref q2, .ref q3, .ref q4, .null, .null, .int 0, .int 0])), (q1, .inl (aC 0, 24, .inl (fun _ => 0))), (q2, .inl (aC 0, 24, .inl (fun _ => 0))), (q3, .inl (aC 0, 24, .inl (fun _ => 0))), (q4, .inl (aC 1, 24, .inl (fun _ => 0)))] H := hP
  have hD : va_D A [(h0, .inr (1, [.ref q1, .ref q2, .ref q3, .ref q4, .null, .null, .int 0, .int 0])), (q1, .inl (aC 0, 24, .inl (fun _ => 0))), (q2, .inl (aC 0, 24, .inl (fun _ => 0))), (q3, .inl (aC 0, 24, .inl (fun _ => 0))), (q4, .inl (aC 1, 24, .inl (fun _ => 0)))] := hD
  refine lv_aload_n hx hb dk_1_36 rfl (lv_at hl 0 rfl) ?_
  refine lv_bipush (v := (12 : Int32)) hx hb dk_1_37 (by decide) ?_
  refine ct_newi hx hb (hts _ ct_ai) hK hP hD hS hA (by decide) rfl (by decide) (Nat.le_of_ble_eq_true rfl) (Nat.le_of_ble_eq_true rfl) dk_1_39 (fun q5 H hP hD hS => ?_)
  have hP : va_P D am_cl [(h0, .inr (1, [.ref q1, .ref q2, .ref q3, .ref q4, .null, .null, .int 0, .int 0])), (q1, .inl (aC 0, 24, .inl (fun _ => 0))), (q2, .inl (aC 0, 24, .inl (fun _ => 0))), (q3, .inl (aC 0, 24, .inl (fun _ => 0))), (q4, .inl (aC 1, 24, .inl (fun _ => 0))), (q5, .inl (aC 0, 12, .inl (fun _ => 0)))] H := hP
  have hD : va_D A [(h0, .inr (1, [.ref q1, .ref q2, .ref q3, .ref q4, .null, .null, .int 0, .int 0])), (q1, .inl (aC 0, 24, .inl (fun _ => 0))), (q2, .inl (aC 0, 24, .inl (fun _ => 0))), (q3, .inl (aC 0, 24, .inl (fun _ => 0))), (q4, .inl (aC 1, 24, .inl (fun _ => 0))), (q5, .inl (aC 0, 12, .inl (fun _ => 0)))] := hD
  refine ct_putF (ci := 1) (f := 4) (z := 2) (C := RX1) (T := TX1) (N := 8) (v := .ref q5) hx hb hts (am_ckf_ok (show am_ckf "PartedLand$Estate" pf_1 23 (some (1, 4, 2)) = true from am_rng klf_1 23 (by decide))) rfl rfl rfl hin hown hK hP hD hS 0 rfl rfl rfl (Nat.le_of_ble_eq_true rfl) dk_1_41 (fun H locs hP hD hS => ?_)
  have hP : va_P D am_cl [(h0, .inr (1, [.ref q1, .ref q2, .ref q3, .ref q4, .ref q5, .null, .int 0, .int 0])), (q1, .inl (aC 0, 24, .inl (fun _ => 0))), (q2, .inl (aC 0, 24, .inl (fun _ => 0))), (q3, .inl (aC 0, 24, .inl (fun _ => 0))), (q4, .inl (aC 1, 24, .inl (fun _ => 0))), (q5, .inl (aC 0, 12, .inl (fun _ => 0)))] H := hP
  have hD : va_D A [(h0, .inr (1, [.ref q1, .ref q2, .ref q3, .ref q4, .ref q5, .null, .int 0, .int 0])), (q1, .inl (aC 0, 24, .inl (fun _ => 0))), (q2, .inl (aC 0, 24, .inl (fun _ => 0))), (q3, .inl (aC 0, 24, .inl (fun _ => 0))), (q4, .inl (aC 1, 24, .inl (fun _ => 0))), (q5, .inl (aC 0, 12, .inl (fun _ => 0)))] := hD
  refine lv_aload_n hx hb dk_1_44 rfl (lv_at hl 0 rfl) ?_
  refine lv_bipush (v := (12 : Int32)) hx hb dk_1_45 (by decide) ?_
  refine ct_newi hx hb (hts _ ct_ai) hK hP hD hS hA (by decide) rfl (by decide) (Nat.le_of_ble_eq_true rfl) (Nat.le_of_ble_eq_true rfl) dk_1_47 (fun q6 H hP hD hS => ?_)
  have hP : va_P D am_cl [(h0, .inr (1, [.ref q1, .ref q2, .ref q3, .ref q4, .ref q5, .null, .int 0, .int 0])), (q1, .inl (aC 0, 24, .inl (fun _ => 0))), (q2, .inl (aC 0, 24, .inl (fun _ => 0))), (q3, .inl (aC 0, 24, .inl (fun _ => 0))), (q4, .inl (aC 1, 24, .inl (fun _ => 0))), (q5, .inl (aC 0, 12, .inl (fun _ => 0))), (q6, .inl (aC 0, 12, .inl (fun _ => 0)))] H := hP
  have hD : va_D A [(h0, .inr (1, [.ref q1, .ref q2, .ref q3, .ref q4, .ref q5, .null, .int 0, .int 0])), (q1, .inl (aC 0, 24, .inl (fun _ => 0))), (q2, .inl (aC 0, 24, .inl (fun _ => 0))), (q3, .inl (aC 0, 24, .inl (fun _ => 0))), (q4, .inl (aC 1, 24, .inl (fun _ => 0))), (q5, .inl (aC 0, 12, .inl (fun _ => 0))), (q6, .inl (aC 0, 12, .inl (fun _ => 0)))] := hD
  refine ct_putF (ci := 1) (f := 5) (z := 2) (C := RX1) (T := TX1) (N := 8) (v := .ref q6) hx hb hts (am_ckf_ok (show am_ckf "PartedLand$Estate" pf_1 26 (some (1, 5, 2)) = true from am_rng klf_1 26 (by decide))) rfl rfl rfl hin hown hK hP hD hS 0 rfl rfl rfl (Nat.le_of_ble_eq_true rfl) dk_1_49 (fun H locs hP hD hS => ?_)
  have hP : va_P D am_cl [(h0, .inr (1, [.ref q1, .ref q2, .ref q3, .ref q4, .ref q5, .ref q6, .int 0, .int 0])), (q1, .inl (aC 0, 24, .inl (fun _ => 0))), (q2, .inl (aC 0, 24, .inl (fun _ => 0))), (q3, .inl (aC 0, 24, .inl (fun _ => 0))), (q4, .inl (aC 1, 24, .inl (fun _ => 0))), (q5, .inl (aC 0, 12, .inl (fun _ => 0))), (q6, .inl (aC 0, 12, .inl (fun _ => 0)))] H := hP
  have hD : va_D A [(h0, .inr (1, [.ref q1, .ref q2, .ref q3, .ref q4, .ref q5, .ref q6, .int 0, .int 0])), (q1, .inl (aC 0, 24, .inl (fun _ => 0))), (q2, .inl (aC 0, 24, .inl (fun _ => 0))), (q3, .inl (aC 0, 24, .inl (fun _ => 0))), (q4, .inl (aC 1, 24, .inl (fun _ => 0))), (q5, .inl (aC 0, 12, .inl (fun _ => 0))), (q6, .inl (aC 0, 12, .inl (fun _ => 0)))] := hD
  refine lv_aload_n hx hb dk_1_52 rfl (lv_at hl 0 rfl) ?_
  refine lv_iconst (v := (0 : Int32)) hx hb dk_1_53 (by decide) ?_
  refine ct_put (ci := 1) (f := 6) (z := 0) (C := RX1) (T := TX1) (N := 8) (v := .int (0 : Int32)) hx hb hts (am_ckf_ok (show am_ckf "PartedLand$Estate" pf_1 29 (some (1, 6, 0)) = true from am_rng klf_1 29 (by decide))) rfl rfl hown hK hP hD hS 0 rfl rfl rfl (Nat.le_of_ble_eq_true rfl) dk_1_54 (fun H locs hP hD hS => ?_)
  have hP : va_P D am_cl [(h0, .inr (1, [.ref q1, .ref q2, .ref q3, .ref q4, .ref q5, .ref q6, .int (0 : Int32), .int 0])), (q1, .inl (aC 0, 24, .inl (fun _ => 0))), (q2, .inl (aC 0, 24, .inl (fun _ => 0))), (q3, .inl (aC 0, 24, .inl (fun _ => 0))), (q4, .inl (aC 1, 24, .inl (fun _ => 0))), (q5, .inl (aC 0, 12, .inl (fun _ => 0))), (q6, .inl (aC 0, 12, .inl (fun _ => 0)))] H := hP
  have hD : va_D A [(h0, .inr (1, [.ref q1, .ref q2, .ref q3, .ref q4, .ref q5, .ref q6, .int (0 : Int32), .int 0])), (q1, .inl (aC 0, 24, .inl (fun _ => 0))), (q2, .inl (aC 0, 24, .inl (fun _ => 0))), (q3, .inl (aC 0, 24, .inl (fun _ => 0))), (q4, .inl (aC 1, 24, .inl (fun _ => 0))), (q5, .inl (aC 0, 12, .inl (fun _ => 0))), (q6, .inl (aC 0, 12, .inl (fun _ => 0)))] := hD
  refine lv_aload_n hx hb dk_1_57 rfl (lv_at hl 0 rfl) ?_
  refine lv_iconst (v := (0 : Int32)) hx hb dk_1_58 (by decide) ?_
  refine ct_put (ci := 1) (f := 7) (z := 0) (C := RX1) (T := TX1) (N := 8) (v := .int (0 : Int32)) hx hb hts (am_ckf_ok (show am_ckf "PartedLand$Estate" pf_1 33 (some (1, 7, 0)) = true from am_rng klf_1 33 (by decide))) rfl rfl hown hK hP hD hS 0 rfl rfl rfl (Nat.le_of_ble_eq_true rfl) dk_1_59 (fun H locs hP hD hS => ?_)
  have hP : va_P D am_cl [(h0, .inr (1, [.ref q1, .ref q2, .ref q3, .ref q4, .ref q5, .ref q6, .int (0 : Int32), .int (0 : Int32)])), (q1, .inl (aC 0, 24, .inl (fun _ => 0))), (q2, .inl (aC 0, 24, .inl (fun _ => 0))), (q3, .inl (aC 0, 24, .inl (fun _ => 0))), (q4, .inl (aC 1, 24, .inl (fun _ => 0))), (q5, .inl (aC 0, 12, .inl (fun _ => 0))), (q6, .inl (aC 0, 12, .inl (fun _ => 0)))] H := hP
  have hD : va_D A [(h0, .inr (1, [.ref q1, .ref q2, .ref q3, .ref q4, .ref q5, .ref q6, .int (0 : Int32), .int (0 : Int32)])), (q1, .inl (aC 0, 24, .inl (fun _ => 0))), (q2, .inl (aC 0, 24, .inl (fun _ => 0))), (q3, .inl (aC 0, 24, .inl (fun _ => 0))), (q4, .inl (aC 1, 24, .inl (fun _ => 0))), (q5, .inl (aC 0, 12, .inl (fun _ => 0))), (q6, .inl (aC 0, 12, .inl (fun _ => 0)))] := hD
  have hP9 := hP.sub (ws' := ct_F1 aC h0 (fun i => (([h0, q1, q2, q3, q4, q5, q6] : List Nat)[i]?).getD 0)) [0, 1, 2, 3, 4, 5, 6] rfl
  have hD9 := hD.sub (ws' := ct_F1 aC h0 (fun i => (([h0, q1, q2, q3, q4, q5, q6] : List Nat)[i]?).getD 0)) [0, 1, 2, 3, 4, 5, 6] (by decide) rfl
  subst hAe
  refine W.widen (k := 6) (n := 120) (Nat.le_of_ble_eq_true rfl) (Nat.le_of_ble_eq_true rfl) ?_
  exact W.vret hx hb hr (fun t ht hW => ⟨⟨rfl, (fun i => (([h0, q1, q2, q3, q4, q5, q6] : List Nat)[i]?).getD 0), by rw [ht]; exact hP9, hD9⟩, hS.F ht⟩) hS.2.2 dk_1_62
theorem dk_4_0 : decode prog_6_method_1_code 0 = .ok (.aload_n 0, 1) := by decide +kernel
theorem dk_4_1 : decode prog_6_method_1_code 1 = .ok (.invokespecial 1, 3) := by decide +kernel
theorem dk_4_4 : decode prog_6_method_1_code 4 = .ok (.aload_n 0, 1) := by decide +kernel
theorem dk_4_5 : decode prog_6_method_1_code 5 = .ok (.bipush 24, 2) := by decide +kernel
theorem dk_4_7 : decode prog_6_method_1_code 7 = .ok (.newarray .int, 2) := by decide +kernel
theorem dk_4_9 : decode prog_6_method_1_code 9 = .ok (.putfield 9, 3) := by decide +kernel
theorem dk_4_12 : decode prog_6_method_1_code 12 = .ok (.aload_n 0, 1) := by decide +kernel
theorem dk_4_13 : decode prog_6_method_1_code 13 = .ok (.bipush 24, 2) := by decide +kernel
theorem dk_4_15 : decode prog_6_method_1_code 15 = .ok (.newarray .int, 2) := by decide +kernel
theorem dk_4_17 : decode prog_6_method_1_code 17 = .ok (.putfield 15, 3) := by decide +kernel
theorem dk_4_20 : decode prog_6_method_1_code 20 = .ok (.aload_n 0, 1) := by decide +kernel
theorem dk_4_21 : decode prog_6_method_1_code 21 = .ok (.bipush 24, 2) := by decide +kernel
theorem dk_4_23 : decode prog_6_method_1_code 23 = .ok (.newarray .int, 2) := by decide +kernel
theorem dk_4_25 : decode prog_6_method_1_code 25 = .ok (.putfield 18, 3) := by decide +kernel
theorem dk_4_28 : decode prog_6_method_1_code 28 = .ok (.aload_n 0, 1) := by decide +kernel
theorem dk_4_29 : decode prog_6_method_1_code 29 = .ok (.bipush 24, 2) := by decide +kernel
theorem dk_4_31 : decode prog_6_method_1_code 31 = .ok (.newarray .int, 2) := by decide +kernel
theorem dk_4_33 : decode prog_6_method_1_code 33 = .ok (.putfield 21, 3) := by decide +kernel
theorem dk_4_36 : decode prog_6_method_1_code 36 = .ok (.aload_n 0, 1) := by decide +kernel
theorem dk_4_37 : decode prog_6_method_1_code 37 = .ok (.bipush 14, 2) := by decide +kernel
theorem dk_4_39 : decode prog_6_method_1_code 39 = .ok (.newarray .int, 2) := by decide +kernel
theorem dk_4_41 : decode prog_6_method_1_code 41 = .ok (.putfield 24, 3) := by decide +kernel
theorem dk_4_44 : decode prog_6_method_1_code 44 = .ok (.aload_n 0, 1) := by decide +kernel
theorem dk_4_45 : decode prog_6_method_1_code 45 = .ok (.iconst 0, 1) := by decide +kernel
theorem dk_4_46 : decode prog_6_method_1_code 46 = .ok (.putfield 27, 3) := by decide +kernel
theorem dk_4_49 : decode prog_6_method_1_code 49 = .ok (.aload_n 0, 1) := by decide +kernel
theorem dk_4_50 : decode prog_6_method_1_code 50 = .ok (.iconst 0, 1) := by decide +kernel
theorem dk_4_51 : decode prog_6_method_1_code 51 = .ok (.putfield 31, 3) := by decide +kernel
theorem dk_4_54 : decode prog_6_method_1_code 54 = .ok (.aload_n 0, 1) := by decide +kernel
theorem dk_4_55 : decode prog_6_method_1_code 55 = .ok (.iconst 0, 1) := by decide +kernel
theorem dk_4_56 : decode prog_6_method_1_code 56 = .ok (.putfield 35, 3) := by decide +kernel
theorem dk_4_59 : decode prog_6_method_1_code 59 = .ok (.aload_n 0, 1) := by decide +kernel
theorem dk_4_60 : decode prog_6_method_1_code 60 = .ok (.iconst 0, 1) := by decide +kernel
theorem dk_4_61 : decode prog_6_method_1_code 61 = .ok (.putfield 38, 3) := by decide +kernel
theorem dk_4_64 : decode prog_6_method_1_code 64 = .ok (.aload_n 0, 1) := by decide +kernel
theorem dk_4_65 : decode prog_6_method_1_code 65 = .ok (.iconst 0, 1) := by decide +kernel
theorem dk_4_66 : decode prog_6_method_1_code 66 = .ok (.putfield 41, 3) := by decide +kernel
theorem dk_4_69 : decode prog_6_method_1_code 69 = .ok (.return_, 1) := by decide +kernel
def ct_F4 (aC : Nat → ClassId) (h0 : Nat) (g : Nat → Nat) : va_W := [(h0, .inr (4, [.ref (g 1), .ref (g 2), .ref (g 3), .ref (g 4), .ref (g 5), .int (0 : Int32), .int (0 : Int32), .int (0 : Int32), .int (0 : Int32), .int (0 : Int32)])), ((g 1), .inl (aC 0, 24, .inl (fun _ => 0))), ((g 2), .inl (aC 0, 24, .inl (fun _ => 0))), ((g 3), .inl (aC 0, 24, .inl (fun _ => 0))), ((g 4), .inl (aC 0, 24, .inl (fun _ => 0))), ((g 5), .inl (aC 0, 14, .inl (fun _ => 0)))]
set_option maxHeartbeats 4000000 in
set_option maxRecDepth 100000 in
theorem ct_4 (l : Launch) (D : va_G) (aC : Nat → ClassId) : ct_Met l D aC (ct_N aC) ⟨"PartedLand$Parting", "<init>", "()V"⟩ prog_6_method_1_code { frames := 1, cells := 5, slots := 110, locals := 12 } 4 [.null, .null, .null, .null, .null, .int 0, .int 0, .int 0, .int 0, .int 0] (ct_F4 aC) 5 110 := by
  intro h0 sz
  refine Met.ofW (cc := prog_6_method_1_code) (maxL := 1) (ret := none) (by decide) rfl ?_
  intro p e s m args below meth c s₁ B hml hv
  obtain ⟨rfl, hsz, hP, hK, hN⟩ := hv
  have hx := B.exec
  have hb := B.bytes
  have hr := B.returns
  have hts0 := atoms_spec (ws := Cond.code (⟨"PartedLand$Parting", "<init>", "()V"⟩ : MethodName) prog_6_method_1_code 1 none :: am_tbl) B.pre
  have hts : ∀ w ∈ am_tbl, w.before _ s = true := fun w hw => hts0 w (List.mem_cons_of_mem _ hw)
  have hown : s.vm.findClass "PartedLand$Parting" = some m.cls := findClass_of_methodNamed B.named
  have hlocks := B.notSynchronized
  have hin : meth.name = "<init>" := (name_of_methodNamed B.named B.method).1
  subst hsz
  obtain ⟨A, hAe⟩ : ∃ A, A = va_A [(h0, .inr (4, [.null, .null, .null, .null, .null, .int 0, .int 0, .int 0, .int 0, .int 0]))] s.heap.size := ⟨_, rfl⟩
  have hD : va_D A [(h0, .inr (4, [.null, .null, .null, .null, .null, .int 0, .int 0, .int 0, .int 0, .int 0]))] := by rw [hAe]; exact ct_D1 _ (va_A.in (k := 0) rfl)
  have hA : ∀ q : Nat, s.heap.size ≤ q → A q := fun q h => by rw [hAe]; exact Or.inr h
  have hS : va_S A s.heap s.heap [] := va_S.rf
  have hP : va_P D am_cl [(h0, .inr (4, [.null, .null, .null, .null, .null, .int 0, .int 0, .int 0, .int 0, .int 0]))] s.heap := hP
  have hl := lv_entry ([.ref h0]) (n := 1) (Nat.le_of_ble_eq_true rfl)
  rw [lg_entry_eq]
  generalize (lg_sl ([.ref h0]) ++ List.replicate (1 - (lg_sl ([.ref h0])).length) Slot.unset).toArray = ls at hl ⊢
  have hl : lv_has ls 1 [(0, .ref h0)] := hl
  refine lv_aload_n hx hb dk_4_0 rfl (lv_at hl 0 rfl) ?_
  refine ct_obj hx hb hts hown (am_mem_in (p := 286) (by decide +kernel)) (hml.trans hl.1.symm) dk_4_1 (Nat.le_of_ble_eq_true rfl) (Nat.le_of_ble_eq_true rfl) ?_
  refine lv_aload_n hx hb dk_4_4 rfl (lv_at hl 0 rfl) ?_
  refine lv_bipush (v := (24 : Int32)) hx hb dk_4_5 (by decide) ?_
  refine ct_newi hx hb (hts _ ct_ai) hK hP hD hS hA (by decide) rfl (by decide) (Nat.le_of_ble_eq_true rfl) (Nat.le_of_ble_eq_true rfl) dk_4_7 (fun q1 H hP hD hS => ?_)
  have hP : va_P D am_cl [(h0, .inr (4, [.null, .null, .null, .null, .null, .int 0, .int 0, .int 0, .int 0, .int 0])), (q1, .inl (aC 0, 24, .inl (fun _ => 0)))] H := hP
  have hD : va_D A [(h0, .inr (4, [.null, .null, .null, .null, .null, .int 0, .int 0, .int 0, .int 0, .int 0])), (q1, .inl (aC 0, 24, .inl (fun _ => 0)))] := hD
  refine ct_putF (ci := 4) (f := 0) (z := 2) (C := RX4) (T := TX4) (N := 10) (v := .ref q1) hx hb hts (am_ckf_ok (show am_ckf "PartedLand$Parting" pf_4 9 (some (4, 0, 2)) = true from am_rng klf_4 9 (by decide))) rfl rfl rfl hin hown hK hP hD hS 0 rfl rfl rfl (Nat.le_of_ble_eq_true rfl) dk_4_9 (fun H locs hP hD hS => ?_)
  have hP : va_P D am_cl [(h0, .inr (4, [.ref q1, .null, .null, .null, .null, .int 0, .int 0, .int 0, .int 0, .int 0])), (q1, .inl (aC 0, 24, .inl (fun _ => 0)))] H := hP
  have hD : va_D A [(h0, .inr (4, [.ref q1, .null, .null, .null, .null, .int 0, .int 0, .int 0, .int 0, .int 0])), (q1, .inl (aC 0, 24, .inl (fun _ => 0)))] := hD
  refine lv_aload_n hx hb dk_4_12 rfl (lv_at hl 0 rfl) ?_
  refine lv_bipush (v := (24 : Int32)) hx hb dk_4_13 (by decide) ?_
  refine ct_newi hx hb (hts _ ct_ai) hK hP hD hS hA (by decide) rfl (by decide) (Nat.le_of_ble_eq_true rfl) (Nat.le_of_ble_eq_true rfl) dk_4_15 (fun q2 H hP hD hS => ?_)
  have hP : va_P D am_cl [(h0, .inr (4, [.ref q1, .null, .null, .null, .null, .int 0, .int 0, .int 0, .int 0, .int 0])), (q1, .inl (aC 0, 24, .inl (fun _ => 0))), (q2, .inl (aC 0, 24, .inl (fun _ => 0)))] H := hP
  have hD : va_D A [(h0, .inr (4, [.ref q1, .null, .null, .null, .null, .int 0, .int 0, .int 0, .int 0, .int 0])), (q1, .inl (aC 0, 24, .inl (fun _ => 0))), (q2, .inl (aC 0, 24, .inl (fun _ => 0)))] := hD
  refine ct_putF (ci := 4) (f := 1) (z := 2) (C := RX4) (T := TX4) (N := 10) (v := .ref q2) hx hb hts (am_ckf_ok (show am_ckf "PartedLand$Parting" pf_4 15 (some (4, 1, 2)) = true from am_rng klf_4 15 (by decide))) rfl rfl rfl hin hown hK hP hD hS 0 rfl rfl rfl (Nat.le_of_ble_eq_true rfl) dk_4_17 (fun H locs hP hD hS => ?_)
  have hP : va_P D am_cl [(h0, .inr (4, [.ref q1, .ref q2, .null, .null, .null, .int 0, .int 0, .int 0, .int 0, .int 0])), (q1, .inl (aC 0, 24, .inl (fun _ => 0))), (q2, .inl (aC 0, 24, .inl (fun _ => 0)))] H := hP
  have hD : va_D A [(h0, .inr (4, [.ref q1, .ref q2, .null, .null, .null, .int 0, .int 0, .int 0, .int 0, .int 0])), (q1, .inl (aC 0, 24, .inl (fun _ => 0))), (q2, .inl (aC 0, 24, .inl (fun _ => 0)))] := hD
  refine lv_aload_n hx hb dk_4_20 rfl (lv_at hl 0 rfl) ?_
  refine lv_bipush (v := (24 : Int32)) hx hb dk_4_21 (by decide) ?_
  refine ct_newi hx hb (hts _ ct_ai) hK hP hD hS hA (by decide) rfl (by decide) (Nat.le_of_ble_eq_true rfl) (Nat.le_of_ble_eq_true rfl) dk_4_23 (fun q3 H hP hD hS => ?_)
  have hP : va_P D am_cl [(h0, .inr (4, [.ref q1, .ref q2, .null, .null, .null, .int 0, .int 0, .int 0, .int 0, .int 0])), (q1, .inl (aC 0, 24, .inl (fun _ => 0))), (q2, .inl (aC 0, 24, .inl (fun _ => 0))), (q3, .inl (aC 0, 24, .inl (fun _ => 0)))] H := hP
  have hD : va_D A [(h0, .inr (4, [.ref q1, .ref q2, .null, .null, .null, .int 0, .int 0, .int 0, .int 0, .int 0])), (q1, .inl (aC 0, 24, .inl (fun _ => 0))), (q2, .inl (aC 0, 24, .inl (fun _ => 0))), (q3, .inl (aC 0, 24, .inl (fun _ => 0)))] := hD
  refine ct_putF (ci := 4) (f := 2) (z := 2) (C := RX4) (T := TX4) (N := 10) (v := .ref q3) hx hb hts (am_ckf_ok (show am_ckf "PartedLand$Parting" pf_4 18 (some (4, 2, 2)) = true from am_rng klf_4 18 (by decide))) rfl rfl rfl hin hown hK hP hD hS 0 rfl rfl rfl (Nat.le_of_ble_eq_true rfl) dk_4_25 (fun H locs hP hD hS => ?_)
  have hP : va_P D am_cl [(h0, .inr (4, [.ref q1, .ref q2, .ref q3, .null, .null, .int 0, .int 0, .int 0, .int 0, .int 0])), (q1, .inl (aC 0, 24, .inl (fun _ => 0))), (q2, .inl (aC 0, 24, .inl (fun _ => 0))), (q3, .inl (aC 0, 24, .inl (fun _ => 0)))] H := hP
  have hD : va_D A [(h0, .inr (4, [.ref q1, .ref q2, .ref q3, .null, .null, .int 0, .int 0, .int 0, .int 0, .int 0])), (q1, .inl (aC 0, 24, .inl (fun _ => 0))), (q2, .inl (aC 0, 24, .inl (fun _ => 0))), (q3, .inl (aC 0, 24, .inl (fun _ => 0)))] := hD
  refine lv_aload_n hx hb dk_4_28 rfl (lv_at hl 0 rfl) ?_
  refine lv_bipush (v := (24 : Int32)) hx hb dk_4_29 (by decide) ?_
  refine ct_newi hx hb (hts _ ct_ai) hK hP hD hS hA (by decide) rfl (by decide) (Nat.le_of_ble_eq_true rfl) (Nat.le_of_ble_eq_true rfl) dk_4_31 (fun q4 H hP hD hS => ?_)
  have hP : va_P D am_cl [(h0, .inr (4, [.ref q1, .ref q2, .ref q3, .null, .null, .int 0, .int 0, .int 0, .int 0, .int 0])), (q1, .inl (aC 0, 24, .inl (fun _ => 0))), (q2, .inl (aC 0, 24, .inl (fun _ => 0))), (q3, .inl (aC 0, 24, .inl (fun _ => 0))), (q4, .inl (aC 0, 24, .inl (fun _ => 0)))] H := hP
  have hD : va_D A [(h0, .inr (4, [.ref q1, .ref q2, .ref q3, .null, .null, .int 0, .int 0, .int 0, .int 0, .int 0])), (q1, .inl (aC 0, 24, .inl (fun _ => 0))), (q2, .inl (aC 0, 24, .inl (fun _ => 0))), (q3, .inl (aC 0, 24, .inl (fun _ => 0))), (q4, .inl (aC 0, 24, .inl (fun _ => 0)))] := hD
  refine ct_putF (ci := 4) (f := 3) (z := 2) (C := RX4) (T := TX4) (N := 10) (v := .ref q4) hx hb hts (am_ckf_ok (show am_ckf "PartedLand$Parting" pf_4 21 (some (4, 3, 2)) = true from am_rng klf_4 21 (by decide))) rfl rfl rfl hin hown hK hP hD hS 0 rfl rfl rfl (Nat.le_of_ble_eq_true rfl) dk_4_33 (fun H locs hP hD hS => ?_)
  have hP : va_P D am_cl [(h0, .inr (4, [.ref q1, .ref q2, .ref q3, .ref q4, .null, .int 0, .int 0, .int 0, .int 0, .int 0])), (q1, .inl (aC 0, 24, .inl (fun _ => 0))), (q2, .inl (aC 0, 24, .inl (fun _ => 0))), (q3, .inl (aC 0, 24, .inl (fun _ => 0))), (q4, .inl (aC 0, 24, .inl (fun _ => 0)))] H := hP
  have hD : va_D A [(h0, .inr (4, [.ref q1, .ref q2, .ref q3, .ref q4, .null, .int 0, .int 0, .int 0, .int 0, .int 0])), (q1, .inl (aC 0, 24, .inl (fun _ => 0))), (q2, .inl (aC 0, 24, .inl (fun _ => 0))), (q3, .inl (aC 0, 24, .inl (fun _ => 0))), (q4, .inl (aC 0, 24, .inl (fun _ => 0)))] := hD
  refine lv_aload_n hx hb dk_4_36 rfl (lv_at hl 0 rfl) ?_
  refine lv_bipush (v := (14 : Int32)) hx hb dk_4_37 (by decide) ?_
  refine ct_newi hx hb (hts _ ct_ai) hK hP hD hS hA (by decide) rfl (by decide) (Nat.le_of_ble_eq_true rfl) (Nat.le_of_ble_eq_true rfl) dk_4_39 (fun q5 H hP hD hS => ?_)
  have hP : va_P D am_cl [(h0, .inr (4, [.ref q1, .ref q2, .ref q3, .ref q4, .null, .int 0, .int 0, .int 0, .int 0, .int 0])), (q1, .inl (aC 0, 24, .inl (fun _ => 0))), (q2, .inl (aC 0, 24, .inl (fun _ => 0))), (q3, .inl (aC 0, 24, .inl (fun _ => 0))), (q4, .inl (aC 0, 24, .inl (fun _ => 0))), (q5, .inl (aC 0, 14, .inl (fun _ => 0)))] H := hP
  have hD : va_D A [(h0, .inr (4, [.ref q1, .ref q2, .ref q3, .ref q4, .null, .int 0, .int 0, .int 0, .int 0, .int 0])), (q1, .inl (aC 0, 24, .inl (fun _ => 0))), (q2, .inl (aC 0, 24, .inl (fun _ => 0))), (q3, .inl (aC 0, 24, .inl (fun _ => 0))), (q4, .inl (aC 0, 24, .inl (fun _ => 0))), (q5, .inl (aC 0, 14, .inl (fun _ => 0)))] := hD
  refine ct_putF (ci := 4) (f := 4) (z := 2) (C := RX4) (T := TX4) (N := 10) (v := .ref q5) hx hb hts (am_ckf_ok (show am_ckf "PartedLand$Parting" pf_4 24 (some (4, 4, 2)) = true from am_rng klf_4 24 (by decide))) rfl rfl rfl hin hown hK hP hD hS 0 rfl rfl rfl (Nat.le_of_ble_eq_true rfl) dk_4_41 (fun H locs hP hD hS => ?_)
  have hP : va_P D am_cl [(h0, .inr (4, [.ref q1, .ref q2, .ref q3, .ref q4, .ref q5, .int 0, .int 0, .int 0, .int 0, .int 0])), (q1, .inl (aC 0, 24, .inl (fun _ => 0))), (q2, .inl (aC 0, 24, .inl (fun _ => 0))), (q3, .inl (aC 0, 24, .inl (fun _ => 0))), (q4, .inl (aC 0, 24, .inl (fun _ => 0))), (q5, .inl (aC 0, 14, .inl (fun _ => 0)))] H := hP
  have hD : va_D A [(h0, .inr (4, [.ref q1, .ref q2, .ref q3, .ref q4, .ref q5, .int 0, .int 0, .int 0, .int 0, .int 0])), (q1, .inl (aC 0, 24, .inl (fun _ => 0))), (q2, .inl (aC 0, 24, .inl (fun _ => 0))), (q3, .inl (aC 0, 24, .inl (fun _ => 0))), (q4, .inl (aC 0, 24, .inl (fun _ => 0))), (q5, .inl (aC 0, 14, .inl (fun _ => 0)))] := hD
  refine lv_aload_n hx hb dk_4_44 rfl (lv_at hl 0 rfl) ?_
  refine lv_iconst (v := (0 : Int32)) hx hb dk_4_45 (by decide) ?_
  refine ct_put (ci := 4) (f := 5) (z := 1) (C := RX4) (T := TX4) (N := 10) (v := .int (0 : Int32)) hx hb hts (am_ckf_ok (show am_ckf "PartedLand$Parting" pf_4 27 (some (4, 5, 1)) = true from am_rng klf_4 27 (by decide))) rfl rfl hown hK hP hD hS 0 rfl rfl rfl (Nat.le_of_ble_eq_true rfl) dk_4_46 (fun H locs hP hD hS => ?_)
  have hP : va_P D am_cl [(h0, .inr (4, [.ref q1, .ref q2, .ref q3, .ref q4, .ref q5, .int (0 : Int32), .int 0, .int 0, .int 0, .int 0])), (q1, .inl (aC 0, 24, .inl (fun _ => 0))), (q2, .inl (aC 0, 24, .inl (fun _ => 0))), (q3, .inl (aC 0, 24, .inl (fun _ => 0))), (q4, .inl (aC 0, 24, .inl (fun _ => 0))), (q5, .inl (aC 0, 14, .inl (fun _ => 0)))] H := hP
  have hD : va_D A [(h0, .inr (4, [.ref q1, .ref q2, .ref q3, .ref q4, .ref q5, .int (0 : Int32), .int 0, .int 0, .int 0, .int 0])), (q1, .inl (aC 0, 24, .inl (fun _ => 0))), (q2, .inl (aC 0, 24, .inl (fun _ => 0))), (q3, .inl (aC 0, 24, .inl (fun _ => 0))), (q4, .inl (aC 0, 24, .inl (fun _ => 0))), (q5, .inl (aC 0, 14, .inl (fun _ => 0)))] := hD
  refine lv_aload_n hx hb dk_4_49 rfl (lv_at hl 0 rfl) ?_
  refine lv_iconst (v := (0 : Int32)) hx hb dk_4_50 (by decide) ?_
  refine ct_put (ci := 4) (f := 6) (z := 0) (C := RX4) (T := TX4) (N := 10) (v := .int (0 : Int32)) hx hb hts (am_ckf_ok (show am_ckf "PartedLand$Parting" pf_4 31 (some (4, 6, 0)) = true from am_rng klf_4 31 (by decide))) rfl rfl hown hK hP hD hS 0 rfl rfl rfl (Nat.le_of_ble_eq_true rfl) dk_4_51 (fun H locs hP hD hS => ?_)
  have hP : va_P D am_cl [(h0, .inr (4, [.ref q1, .ref q2, .ref q3, .ref q4, .ref q5, .int (0 : Int32), .int (0 : Int32), .int 0, .int 0, .int 0])), (q1, .inl (aC 0, 24, .inl (fun _ => 0))), (q2, .inl (aC 0, 24, .inl (fun _ => 0))), (q3, .inl (aC 0, 24, .inl (fun _ => 0))), (q4, .inl (aC 0, 24, .inl (fun _ => 0))), (q5, .inl (aC 0, 14, .inl (fun _ => 0)))] H := hP
  have hD : va_D A [(h0, .inr (4, [.ref q1, .ref q2, .ref q3, .ref q4, .ref q5, .int (0 : Int32), .int (0 : Int32), .int 0, .int 0, .int 0])), (q1, .inl (aC 0, 24, .inl (fun _ => 0))), (q2, .inl (aC 0, 24, .inl (fun _ => 0))), (q3, .inl (aC 0, 24, .inl (fun _ => 0))), (q4, .inl (aC 0, 24, .inl (fun _ => 0))), (q5, .inl (aC 0, 14, .inl (fun _ => 0)))] := hD
  refine lv_aload_n hx hb dk_4_54 rfl (lv_at hl 0 rfl) ?_
  refine lv_iconst (v := (0 : Int32)) hx hb dk_4_55 (by decide) ?_
  refine ct_put (ci := 4) (f := 7) (z := 0) (C := RX4) (T := TX4) (N := 10) (v := .int (0 : Int32)) hx hb hts (am_ckf_ok (show am_ckf "PartedLand$Parting" pf_4 35 (some (4, 7, 0)) = true from am_rng klf_4 35 (by decide))) rfl rfl hown hK hP hD hS 0 rfl rfl rfl (Nat.le_of_ble_eq_true rfl) dk_4_56 (fun H locs hP hD hS => ?_)
  have hP : va_P D am_cl [(h0, .inr (4, [.ref q1, .ref q2, .ref q3, .ref q4, .ref q5, .int (0 : Int32), .int (0 : Int32), .int (0 : Int32), .int 0, .int 0])), (q1, .inl (aC 0, 24, .inl (fun _ => 0))), (q2, .inl (aC 0, 24, .inl (fun _ => 0))), (q3, .inl (aC 0, 24, .inl (fun _ => 0))), (q4, .inl (aC 0, 24, .inl (fun _ => 0))), (q5, .inl (aC 0, 14, .inl (fun _ => 0)))] H := hP
  have hD : va_D A [(h0, .inr (4, [.ref q1, .ref q2, .ref q3, .ref q4, .ref q5, .int (0 : Int32), .int (0 : Int32), .int (0 : Int32), .int 0, .int 0])), (q1, .inl (aC 0, 24, .inl (fun _ => 0))), (q2, .inl (aC 0, 24, .inl (fun _ => 0))), (q3, .inl (aC 0, 24, .inl (fun _ => 0))), (q4, .inl (aC 0, 24, .inl (fun _ => 0))), (q5, .inl (aC 0, 14, .inl (fun _ => 0)))] := hD
  refine lv_aload_n hx hb dk_4_59 rfl (lv_at hl 0 rfl) ?_
  refine lv_iconst (v := (0 : Int32)) hx hb dk_4_60 (by decide) ?_
  refine ct_put (ci := 4) (f := 8) (z := 0) (C := RX4) (T := TX4) (N := 10) (v := .int (0 : Int32)) hx hb hts (am_ckf_ok (show am_ckf "PartedLand$Parting" pf_4 38 (some (4, 8, 0)) = true from am_rng klf_4 38 (by decide))) rfl rfl hown hK hP hD hS 0 rfl rfl rfl (Nat.le_of_ble_eq_true rfl) dk_4_61 (fun H locs hP hD hS => ?_)
  have hP : va_P D am_cl [(h0, .inr (4, [.ref q1, .ref q2, .ref q3, .ref q4, .ref q5, .int (0 : Int32), .int (0 : Int32), .int (0 : Int32), .int (0 : Int32), .int 0])), (q1, .inl (aC 0, 24, .inl (fun _ => 0))), (q2, .inl (aC 0, 24, .inl (fun _ => 0))), (q3, .inl (aC 0, 24, .inl (fun _ => 0))), (q4, .inl (aC 0, 24, .inl (fun _ => 0))), (q5, .inl (aC 0, 14, .inl (fun _ => 0)))] H := hP
  have hD : va_D A [(h0, .inr (4, [.ref q1, .ref q2, .ref q3, .ref q4, .ref q5, .int (0 : Int32), .int (0 : Int32), .int (0 : Int32), .int (0 : Int32), .int 0])), (q1, .inl (aC 0, 24, .inl (fun _ => 0))), (q2, .inl (aC 0, 24, .inl (fun _ => 0))), (q3, .inl (aC 0, 24, .inl (fun _ => 0))), (q4, .inl (aC 0, 24, .inl (fun _ => 0))), (q5, .inl (aC 0, 14, .inl (fun _ => 0)))] := hD
  refine lv_aload_n hx hb dk_4_64 rfl (lv_at hl 0 rfl) ?_
  refine lv_iconst (v := (0 : Int32)) hx hb dk_4_65 (by decide) ?_
  refine ct_put (ci := 4) (f := 9) (z := 0) (C := RX4) (T := TX4) (N := 10) (v := .int (0 : Int32)) hx hb hts (am_ckf_ok (show am_ckf "PartedLand$Parting" pf_4 41 (some (4, 9, 0)) = true from am_rng klf_4 41 (by decide))) rfl rfl hown hK hP hD hS 0 rfl rfl rfl (Nat.le_of_ble_eq_true rfl) dk_4_66 (fun H locs hP hD hS => ?_)
  have hP : va_P D am_cl [(h0, .inr (4, [.ref q1, .ref q2, .ref q3, .ref q4, .ref q5, .int (0 : Int32), .int (0 : Int32), .int (0 : Int32), .int (0 : Int32), .int (0 : Int32)])), (q1, .inl (aC 0, 24, .inl (fun _ => 0))), (q2, .inl (aC 0, 24, .inl (fun _ => 0))), (q3, .inl (aC 0, 24, .inl (fun _ => 0))), (q4, .inl (aC 0, 24, .inl (fun _ => 0))), (q5, .inl (aC 0, 14, .inl (fun _ => 0)))] H := hP
  have hD : va_D A [(h0, .inr (4, [.ref q1, .ref q2, .ref q3, .ref q4, .ref q5, .int (0 : Int32), .int (0 : Int32), .int (0 : Int32), .int (0 : Int32), .int (0 : Int32)])), (q1, .inl (aC 0, 24, .inl (fun _ => 0))), (q2, .inl (aC 0, 24, .inl (fun _ => 0))), (q3, .inl (aC 0, 24, .inl (fun _ => 0))), (q4, .inl (aC 0, 24, .inl (fun _ => 0))), (q5, .inl (aC 0, 14, .inl (fun _ => 0)))] := hD
  have hP9 := hP.sub (ws' := ct_F4 aC h0 (fun i => (([h0, q1, q2, q3, q4, q5] : List Nat)[i]?).getD 0)) [0, 1, 2, 3, 4, 5] rfl
  have hD9 := hD.sub (ws' := ct_F4 aC h0 (fun i => (([h0, q1, q2, q3, q4, q5] : List Nat)[i]?).getD 0)) [0, 1, 2, 3, 4, 5] (by decide) rfl
  subst hAe
  refine W.widen (k := 5) (n := 110) (Nat.le_of_ble_eq_true rfl) (Nat.le_of_ble_eq_true rfl) ?_
  exact W.vret hx hb hr (fun t ht hW => ⟨⟨rfl, (fun i => (([h0, q1, q2, q3, q4, q5] : List Nat)[i]?).getD 0), by rw [ht]; exact hP9, hD9⟩, hS.F ht⟩) hS.2.2 dk_4_69
theorem dk_9_0 : decode prog_11_method_1_code 0 = .ok (.aload_n 0, 1) := by decide +kernel
theorem dk_9_1 : decode prog_11_method_1_code 1 = .ok (.invokespecial 1, 3) := by decide +kernel
theorem dk_9_4 : decode prog_11_method_1_code 4 = .ok (.aload_n 0, 1) := by decide +kernel
theorem dk_9_5 : decode prog_11_method_1_code 5 = .ok (.bipush 100, 2) := by decide +kernel
theorem dk_9_7 : decode prog_11_method_1_code 7 = .ok (.putfield 7, 3) := by decide +kernel
theorem dk_9_10 : decode prog_11_method_1_code 10 = .ok (.aload_n 0, 1) := by decide +kernel
theorem dk_9_11 : decode prog_11_method_1_code 11 = .ok (.bipush 100, 2) := by decide +kernel
theorem dk_9_13 : decode prog_11_method_1_code 13 = .ok (.putfield 13, 3) := by decide +kernel
theorem dk_9_16 : decode prog_11_method_1_code 16 = .ok (.aload_n 0, 1) := by decide +kernel
theorem dk_9_17 : decode prog_11_method_1_code 17 = .ok (.sipush 9999, 3) := by decide +kernel
theorem dk_9_20 : decode prog_11_method_1_code 20 = .ok (.putfield 16, 3) := by decide +kernel
theorem dk_9_23 : decode prog_11_method_1_code 23 = .ok (.aload_n 0, 1) := by decide +kernel
theorem dk_9_24 : decode prog_11_method_1_code 24 = .ok (.bipush 7, 2) := by decide +kernel
theorem dk_9_26 : decode prog_11_method_1_code 26 = .ok (.putfield 19, 3) := by decide +kernel
theorem dk_9_29 : decode prog_11_method_1_code 29 = .ok (.return_, 1) := by decide +kernel
def ct_F9 (aC : Nat → ClassId) (h0 : Nat) (g : Nat → Nat) : va_W := [(h0, .inr (9, [.int (100 : Int32), .int (100 : Int32), .int (9999 : Int32), .int (7 : Int32)]))]
set_option maxHeartbeats 4000000 in
set_option maxRecDepth 100000 in
theorem ct_9 (l : Launch) (D : va_G) (aC : Nat → ClassId) : ct_Met l D aC (ct_N aC) ⟨"PartedLand$Week", "<init>", "()V"⟩ prog_11_method_1_code { frames := 1, cells := 0, slots := 0, locals := 12 } 9 [.int 0, .int 0, .int 0, .int 0] (ct_F9 aC) 0 0 := by
  intro h0 sz
  refine Met.ofW (cc := prog_11_method_1_code) (maxL := 1) (ret := none) (by decide) rfl ?_
  intro p e s m args below meth c s₁ B hml hv
  obtain ⟨rfl, hsz, hP, hK, hN⟩ := hv
  have hx := B.exec
  have hb := B.bytes
  have hr := B.returns
  have hts0 := atoms_spec (ws := Cond.code (⟨"PartedLand$Week", "<init>", "()V"⟩ : MethodName) prog_11_method_1_code 1 none :: am_tbl) B.pre
  have hts : ∀ w ∈ am_tbl, w.before _ s = true := fun w hw => hts0 w (List.mem_cons_of_mem _ hw)
  have hown : s.vm.findClass "PartedLand$Week" = some m.cls := findClass_of_methodNamed B.named
  have hlocks := B.notSynchronized
  have hin : meth.name = "<init>" := (name_of_methodNamed B.named B.method).1
  subst hsz
  obtain ⟨A, hAe⟩ : ∃ A, A = va_A [(h0, .inr (9, [.int 0, .int 0, .int 0, .int 0]))] s.heap.size := ⟨_, rfl⟩
  have hD : va_D A [(h0, .inr (9, [.int 0, .int 0, .int 0, .int 0]))] := by rw [hAe]; exact ct_D1 _ (va_A.in (k := 0) rfl)
  have hA : ∀ q : Nat, s.heap.size ≤ q → A q := fun q h => by rw [hAe]; exact Or.inr h
  have hS : va_S A s.heap s.heap [] := va_S.rf
  have hP : va_P D am_cl [(h0, .inr (9, [.int 0, .int 0, .int 0, .int 0]))] s.heap := hP
  have hl := lv_entry ([.ref h0]) (n := 1) (Nat.le_of_ble_eq_true rfl)
  rw [lg_entry_eq]
  generalize (lg_sl ([.ref h0]) ++ List.replicate (1 - (lg_sl ([.ref h0])).length) Slot.unset).toArray = ls at hl ⊢
  have hl : lv_has ls 1 [(0, .ref h0)] := hl
  refine lv_aload_n hx hb dk_9_0 rfl (lv_at hl 0 rfl) ?_
  refine ct_obj hx hb hts hown (am_mem_in (p := 327) (by decide +kernel)) (hml.trans hl.1.symm) dk_9_1 (Nat.le_of_ble_eq_true rfl) (Nat.le_of_ble_eq_true rfl) ?_
  refine lv_aload_n hx hb dk_9_4 rfl (lv_at hl 0 rfl) ?_
  refine lv_bipush (v := (100 : Int32)) hx hb dk_9_5 (by decide) ?_
  refine ct_put (ci := 9) (f := 0) (z := 0) (C := RX9) (T := TX9) (N := 4) (v := .int (100 : Int32)) hx hb hts (am_ckf_ok (show am_ckf "PartedLand$Week" pf_9 7 (some (9, 0, 0)) = true from am_rng klf_9 7 (by decide))) rfl rfl hown hK hP hD hS 0 rfl rfl rfl (Nat.le_of_ble_eq_true rfl) dk_9_7 (fun H locs hP hD hS => ?_)
  have hP : va_P D am_cl [(h0, .inr (9, [.int (100 : Int32), .int 0, .int 0, .int 0]))] H := hP
  have hD : va_D A [(h0, .inr (9, [.int (100 : Int32), .int 0, .int 0, .int 0]))] := hD
  refine lv_aload_n hx hb dk_9_10 rfl (lv_at hl 0 rfl) ?_
  refine lv_bipush (v := (100 : Int32)) hx hb dk_9_11 (by decide) ?_
  refine ct_put (ci := 9) (f := 1) (z := 0) (C := RX9) (T := TX9) (N := 4) (v := .int (100 : Int32)) hx hb hts (am_ckf_ok (show am_ckf "PartedLand$Week" pf_9 13 (some (9, 1, 0)) = true from am_rng klf_9 13 (by decide))) rfl rfl hown hK hP hD hS 0 rfl rfl rfl (Nat.le_of_ble_eq_true rfl) dk_9_13 (fun H locs hP hD hS => ?_)
  have hP : va_P D am_cl [(h0, .inr (9, [.int (100 : Int32), .int (100 : Int32), .int 0, .int 0]))] H := hP
  have hD : va_D A [(h0, .inr (9, [.int (100 : Int32), .int (100 : Int32), .int 0, .int 0]))] := hD
  refine lv_aload_n hx hb dk_9_16 rfl (lv_at hl 0 rfl) ?_
  refine lv_sipush (v := (9999 : Int32)) hx hb dk_9_17 (by decide) ?_
  refine ct_put (ci := 9) (f := 2) (z := 0) (C := RX9) (T := TX9) (N := 4) (v := .int (9999 : Int32)) hx hb hts (am_ckf_ok (show am_ckf "PartedLand$Week" pf_9 16 (some (9, 2, 0)) = true from am_rng klf_9 16 (by decide))) rfl rfl hown hK hP hD hS 0 rfl rfl rfl (Nat.le_of_ble_eq_true rfl) dk_9_20 (fun H locs hP hD hS => ?_)
  have hP : va_P D am_cl [(h0, .inr (9, [.int (100 : Int32), .int (100 : Int32), .int (9999 : Int32), .int 0]))] H := hP
  have hD : va_D A [(h0, .inr (9, [.int (100 : Int32), .int (100 : Int32), .int (9999 : Int32), .int 0]))] := hD
  refine lv_aload_n hx hb dk_9_23 rfl (lv_at hl 0 rfl) ?_
  refine lv_bipush (v := (7 : Int32)) hx hb dk_9_24 (by decide) ?_
  refine ct_put (ci := 9) (f := 3) (z := 0) (C := RX9) (T := TX9) (N := 4) (v := .int (7 : Int32)) hx hb hts (am_ckf_ok (show am_ckf "PartedLand$Week" pf_9 19 (some (9, 3, 0)) = true from am_rng klf_9 19 (by decide))) rfl rfl hown hK hP hD hS 0 rfl rfl rfl (Nat.le_of_ble_eq_true rfl) dk_9_26 (fun H locs hP hD hS => ?_)
  have hP : va_P D am_cl [(h0, .inr (9, [.int (100 : Int32), .int (100 : Int32), .int (9999 : Int32), .int (7 : Int32)]))] H := hP
  have hD : va_D A [(h0, .inr (9, [.int (100 : Int32), .int (100 : Int32), .int (9999 : Int32), .int (7 : Int32)]))] := hD
  have hP9 := hP.sub (ws' := ct_F9 aC h0 (fun i => (([h0] : List Nat)[i]?).getD 0)) [0] rfl
  have hD9 := hD.sub (ws' := ct_F9 aC h0 (fun i => (([h0] : List Nat)[i]?).getD 0)) [0] (by decide) rfl
  subst hAe
  refine W.widen (k := 0) (n := 0) (Nat.le_of_ble_eq_true rfl) (Nat.le_of_ble_eq_true rfl) ?_
  exact W.vret hx hb hr (fun t ht hW => ⟨⟨rfl, (fun i => (([h0] : List Nat)[i]?).getD 0), by rw [ht]; exact hP9, hD9⟩, hS.F ht⟩) hS.2.2 dk_9_29
theorem dk_8_0 : decode prog_10_method_1_code 0 = .ok (.aload_n 0, 1) := by decide +kernel
theorem dk_8_1 : decode prog_10_method_1_code 1 = .ok (.invokespecial 3, 3) := by decide +kernel
theorem dk_8_4 : decode prog_10_method_1_code 4 = .ok (.aload_n 0, 1) := by decide +kernel
theorem dk_8_5 : decode prog_10_method_1_code 5 = .ok (.bipush 10, 2) := by decide +kernel
theorem dk_8_7 : decode prog_10_method_1_code 7 = .ok (.newarray .int, 2) := by decide +kernel
theorem dk_8_9 : decode prog_10_method_1_code 9 = .ok (.putfield 11, 3) := by decide +kernel
theorem dk_8_12 : decode prog_10_method_1_code 12 = .ok (.aload_n 0, 1) := by decide +kernel
theorem dk_8_13 : decode prog_10_method_1_code 13 = .ok (.bipush 10, 2) := by decide +kernel
theorem dk_8_15 : decode prog_10_method_1_code 15 = .ok (.newarray .int, 2) := by decide +kernel
theorem dk_8_17 : decode prog_10_method_1_code 17 = .ok (.putfield 15, 3) := by decide +kernel
theorem dk_8_20 : decode prog_10_method_1_code 20 = .ok (.aload_n 0, 1) := by decide +kernel
theorem dk_8_21 : decode prog_10_method_1_code 21 = .ok (.bipush 10, 2) := by decide +kernel
theorem dk_8_23 : decode prog_10_method_1_code 23 = .ok (.bipush 12, 2) := by decide +kernel
theorem dk_8_25 : decode prog_10_method_1_code 25 = .ok (.multianewarray 18 2, 4) := by decide +kernel
theorem dk_8_29 : decode prog_10_method_1_code 29 = .ok (.putfield 20, 3) := by decide +kernel
theorem dk_8_32 : decode prog_10_method_1_code 32 = .ok (.aload_n 0, 1) := by decide +kernel
theorem dk_8_33 : decode prog_10_method_1_code 33 = .ok (.bipush 10, 2) := by decide +kernel
theorem dk_8_35 : decode prog_10_method_1_code 35 = .ok (.bipush 12, 2) := by decide +kernel
theorem dk_8_37 : decode prog_10_method_1_code 37 = .ok (.multianewarray 18 2, 4) := by decide +kernel
theorem dk_8_41 : decode prog_10_method_1_code 41 = .ok (.putfield 23, 3) := by decide +kernel
theorem dk_8_44 : decode prog_10_method_1_code 44 = .ok (.aload_n 0, 1) := by decide +kernel
theorem dk_8_45 : decode prog_10_method_1_code 45 = .ok (.iconst 0, 1) := by decide +kernel
theorem dk_8_46 : decode prog_10_method_1_code 46 = .ok (.putfield 26, 3) := by decide +kernel
theorem dk_8_49 : decode prog_10_method_1_code 49 = .ok (.return_, 1) := by decide +kernel
def ct_F8 (aC : Nat → ClassId) (h0 : Nat) (g : Nat → Nat) : va_W := [(h0, .inr (8, [.ref (g 1), .ref (g 2), .ref (g 3), .ref (g 14), .int (0 : Int32)])), ((g 1), .inl (aC 0, 10, .inl (fun _ => 0))), ((g 2), .inl (aC 0, 10, .inl (fun _ => 0))), ((g 3), .inl (aC 2, 10, .inr (.inr (.inr (.inr (fun k : Nat => (([4, 5, 6, 7, 8, 9, 10, 11, 12, 13] : List Nat)[k]?).map g)))))), ((g 4), .inl (aC 0, 12, .inl (fun _ => 0))), ((g 5), .inl (aC 0, 12, .inl (fun _ => 0))), ((g 6), .inl (aC 0, 12, .inl (fun _ => 0))), ((g 7), .inl (aC 0, 12, .inl (fun _ => 0))), ((g 8), .inl (aC 0, 12, .inl (fun _ => 0))), ((g 9), .inl (aC 0, 12, .inl (fun _ => 0))), ((g 10), .inl (aC 0, 12, .inl (fun _ => 0))), ((g 11), .inl (aC 0, 12, .inl (fun _ => 0))), ((g 12), .inl (aC 0, 12, .inl (fun _ => 0))), ((g 13), .inl (aC 0, 12, .inl (fun _ => 0))), ((g 14), .inl (aC 2, 10, .inr (.inr (.inr (.inr (fun k : Nat => (([15, 16, 17, 18, 19, 20, 21, 22, 23, 24] : List Nat)[k]?).map g)))))), ((g 15), .inl (aC 0, 12, .inl (fun _ => 0))), ((g 16), .inl (aC 0, 12, .inl (fun _ => 0))), ((g 17), .inl (aC 0, 12, .inl (fun _ => 0))), ((g 18), .inl (aC 0, 12, .inl (fun _ => 0))), ((g 19), .inl (aC 0, 12, .inl (fun _ => 0))), ((g 20), .inl (aC 0, 12, .inl (fun _ => 0))), ((g 21), .inl (aC 0, 12, .inl (fun _ => 0))), ((g 22), .inl (aC 0, 12, .inl (fun _ => 0))), ((g 23), .inl (aC 0, 12, .inl (fun _ => 0))), ((g 24), .inl (aC 0, 12, .inl (fun _ => 0)))]
set_option maxHeartbeats 4000000 in
set_option maxRecDepth 100000 in
theorem ct_8 (l : Launch) (D : va_G) (aC : Nat → ClassId) : ct_Met l D aC (ct_N aC) ⟨"PartedLand$Wagons", "<init>", "()V"⟩ prog_10_method_1_code { frames := 1, cells := 24, slots := 280, locals := 12 } 8 [.null, .null, .null, .null, .int 0] (ct_F8 aC) 24 280 := by
  intro h0 sz
  refine Met.ofW (cc := prog_10_method_1_code) (maxL := 1) (ret := none) (by decide) rfl ?_
  intro p e s m args below meth c s₁ B hml hv
  obtain ⟨rfl, hsz, hP, hK, hN⟩ := hv
  have hx := B.exec
  have hb := B.bytes
  have hr := B.returns
  have hts0 := atoms_spec (ws := Cond.code (⟨"PartedLand$Wagons", "<init>", "()V"⟩ : MethodName) prog_10_method_1_code 1 none :: am_tbl) B.pre
  have hts : ∀ w ∈ am_tbl, w.before _ s = true := fun w hw => hts0 w (List.mem_cons_of_mem _ hw)
  have hown : s.vm.findClass "PartedLand$Wagons" = some m.cls := findClass_of_methodNamed B.named
  have hlocks := B.notSynchronized
  have hin : meth.name = "<init>" := (name_of_methodNamed B.named B.method).1
  subst hsz
  obtain ⟨A, hAe⟩ : ∃ A, A = va_A [(h0, .inr (8, [.null, .null, .null, .null, .int 0]))] s.heap.size := ⟨_, rfl⟩
  have hD : va_D A [(h0, .inr (8, [.null, .null, .null, .null, .int 0]))] := by rw [hAe]; exact ct_D1 _ (va_A.in (k := 0) rfl)
  have hA : ∀ q : Nat, s.heap.size ≤ q → A q := fun q h => by rw [hAe]; exact Or.inr h
  have hS : va_S A s.heap s.heap [] := va_S.rf
  have hP : va_P D am_cl [(h0, .inr (8, [.null, .null, .null, .null, .int 0]))] s.heap := hP
  have hl := lv_entry ([.ref h0]) (n := 1) (Nat.le_of_ble_eq_true rfl)
  rw [lg_entry_eq]
  generalize (lg_sl ([.ref h0]) ++ List.replicate (1 - (lg_sl ([.ref h0])).length) Slot.unset).toArray = ls at hl ⊢
  have hl : lv_has ls 1 [(0, .ref h0)] := hl
  refine lv_aload_n hx hb dk_8_0 rfl (lv_at hl 0 rfl) ?_
  refine ct_obj hx hb hts hown (am_mem_in (p := 350) (by decide +kernel)) (hml.trans hl.1.symm) dk_8_1 (Nat.le_of_ble_eq_true rfl) (Nat.le_of_ble_eq_true rfl) ?_
  refine lv_aload_n hx hb dk_8_4 rfl (lv_at hl 0 rfl) ?_
  refine lv_bipush (v := (10 : Int32)) hx hb dk_8_5 (by decide) ?_
  refine ct_newi hx hb (hts _ ct_ai) hK hP hD hS hA (by decide) rfl (by decide) (Nat.le_of_ble_eq_true rfl) (Nat.le_of_ble_eq_true rfl) dk_8_7 (fun q1 H hP hD hS => ?_)
  have hP : va_P D am_cl [(h0, .inr (8, [.null, .null, .null, .null, .int 0])), (q1, .inl (aC 0, 10, .inl (fun _ => 0)))] H := hP
  have hD : va_D A [(h0, .inr (8, [.null, .null, .null, .null, .int 0])), (q1, .inl (aC 0, 10, .inl (fun _ => 0)))] := hD
  refine ct_putF (ci := 8) (f := 0) (z := 2) (C := RX8) (T := TX8) (N := 5) (v := .ref q1) hx hb hts (am_ckf_ok (show am_ckf "PartedLand$Wagons" pf_8 11 (some (8, 0, 2)) = true from am_rng klf_8 11 (by decide))) rfl rfl rfl hin hown hK hP hD hS 0 rfl rfl rfl (Nat.le_of_ble_eq_true rfl) dk_8_9 (fun H locs hP hD hS => ?_)
  have hP : va_P D am_cl [(h0, .inr (8, [.ref q1, .null, .null, .null, .int 0])), (q1, .inl (aC 0, 10, .inl (fun _ => 0)))] H := hP
  have hD : va_D A [(h0, .inr (8, [.ref q1, .null, .null, .null, .int 0])), (q1, .inl (aC 0, 10, .inl (fun _ => 0)))] := hD
  refine lv_aload_n hx hb dk_8_12 rfl (lv_at hl 0 rfl) ?_
  refine lv_bipush (v := (10 : Int32)) hx hb dk_8_13 (by decide) ?_
  refine ct_newi hx hb (hts _ ct_ai) hK hP hD hS hA (by decide) rfl (by decide) (Nat.le_of_ble_eq_true rfl) (Nat.le_of_ble_eq_true rfl) dk_8_15 (fun q2 H hP hD hS => ?_)
  have hP : va_P D am_cl [(h0, .inr (8, [.ref q1, .null, .null, .null, .int 0])), (q1, .inl (aC 0, 10, .inl (fun _ => 0))), (q2, .inl (aC 0, 10, .inl (fun _ => 0)))] H := hP
  have hD : va_D A [(h0, .inr (8, [.ref q1, .null, .null, .null, .int 0])), (q1, .inl (aC 0, 10, .inl (fun _ => 0))), (q2, .inl (aC 0, 10, .inl (fun _ => 0)))] := hD
  refine ct_putF (ci := 8) (f := 1) (z := 2) (C := RX8) (T := TX8) (N := 5) (v := .ref q2) hx hb hts (am_ckf_ok (show am_ckf "PartedLand$Wagons" pf_8 15 (some (8, 1, 2)) = true from am_rng klf_8 15 (by decide))) rfl rfl rfl hin hown hK hP hD hS 0 rfl rfl rfl (Nat.le_of_ble_eq_true rfl) dk_8_17 (fun H locs hP hD hS => ?_)
  have hP : va_P D am_cl [(h0, .inr (8, [.ref q1, .ref q2, .null, .null, .int 0])), (q1, .inl (aC 0, 10, .inl (fun _ => 0))), (q2, .inl (aC 0, 10, .inl (fun _ => 0)))] H := hP
  have hD : va_D A [(h0, .inr (8, [.ref q1, .ref q2, .null, .null, .int 0])), (q1, .inl (aC 0, 10, .inl (fun _ => 0))), (q2, .inl (aC 0, 10, .inl (fun _ => 0)))] := hD
  refine lv_aload_n hx hb dk_8_20 rfl (lv_at hl 0 rfl) ?_
  refine lv_bipush (v := (10 : Int32)) hx hb dk_8_21 (by decide) ?_
  refine lv_bipush (v := (12 : Int32)) hx hb dk_8_23 (by decide) ?_
  refine ct_mna hx hb hts hown (am_mem_in (p := 351) (by decide +kernel)) hK hN.2 hP hD hS hA (Nat.le_of_ble_eq_true rfl) (Nat.le_of_ble_eq_true rfl) dk_8_25 (fun g3 H locs hP hD hS => ?_)
  have hP : va_P D am_cl [(h0, .inr (8, [.ref q1, .ref q2, .null, .null, .int 0])), (q1, .inl (aC 0, 10, .inl (fun _ => 0))), (q2, .inl (aC 0, 10, .inl (fun _ => 0))), ((g3 0), .inl (aC 2, 10, .inr (.inr (.inr (.inr (fun k : Nat => (([1, 2, 3, 4, 5, 6, 7, 8, 9, 10] : List Nat)[k]?).map g3)))))), ((g3 1), .inl (aC 0, 12, .inl (fun _ => 0))), ((g3 2), .inl (aC 0, 12, .inl (fun _ => 0))), ((g3 3), .inl (aC 0, 12, .inl (fun _ => 0))), ((g3 4), .inl (aC 0, 12, .inl (fun _ => 0))), ((g3 5), .inl (aC 0, 12, .inl (fun _ => 0))), ((g3 6), .inl (aC 0, 12, .inl (fun _ => 0))), ((g3 7), .inl (aC 0, 12, .inl (fun _ => 0))), ((g3 8), .inl (aC 0, 12, .inl (fun _ => 0))), ((g3 9), .inl (aC 0, 12, .inl (fun _ => 0))), ((g3 10), .inl (aC 0, 12, .inl (fun _ => 0)))] H := hP
  have hD : va_D A [(h0, .inr (8, [.ref q1, .ref q2, .null, .null, .int 0])), (q1, .inl (aC 0, 10, .inl (fun _ => 0))), (q2, .inl (aC 0, 10, .inl (fun _ => 0))), ((g3 0), .inl (aC 2, 10, .inr (.inr (.inr (.inr (fun k : Nat => (([1, 2, 3, 4, 5, 6, 7, 8, 9, 10] : List Nat)[k]?).map g3)))))), ((g3 1), .inl (aC 0, 12, .inl (fun _ => 0))), ((g3 2), .inl (aC 0, 12, .inl (fun _ => 0))), ((g3 3), .inl (aC 0, 12, .inl (fun _ => 0))), ((g3 4), .inl (aC 0, 12, .inl (fun _ => 0))), ((g3 5), .inl (aC 0, 12, .inl (fun _ => 0))), ((g3 6), .inl (aC 0, 12, .inl (fun _ => 0))), ((g3 7), .inl (aC 0, 12, .inl (fun _ => 0))), ((g3 8), .inl (aC 0, 12, .inl (fun _ => 0))), ((g3 9), .inl (aC 0, 12, .inl (fun _ => 0))), ((g3 10), .inl (aC 0, 12, .inl (fun _ => 0)))] := hD
  refine ct_putF (ci := 8) (f := 2) (z := 2) (C := RX8) (T := TX8) (N := 5) (v := .ref (g3 0)) hx hb hts (am_ckf_ok (show am_ckf "PartedLand$Wagons" pf_8 20 (some (8, 2, 2)) = true from am_rng klf_8 20 (by decide))) rfl rfl rfl hin hown hK hP hD hS 0 rfl rfl rfl (Nat.le_of_ble_eq_true rfl) dk_8_29 (fun H locs hP hD hS => ?_)
  have hP : va_P D am_cl [(h0, .inr (8, [.ref q1, .ref q2, .ref (g3 0), .null, .int 0])), (q1, .inl (aC 0, 10, .inl (fun _ => 0))), (q2, .inl (aC 0, 10, .inl (fun _ => 0))), ((g3 0), .inl (aC 2, 10, .inr (.inr (.inr (.inr (fun k : Nat => (([1, 2, 3, 4, 5, 6, 7, 8, 9, 10] : List Nat)[k]?).map g3)))))), ((g3 1), .inl (aC 0, 12, .inl (fun _ => 0))), ((g3 2), .inl (aC 0, 12, .inl (fun _ => 0))), ((g3 3), .inl (aC 0, 12, .inl (fun _ => 0))), ((g3 4), .inl (aC 0, 12, .inl (fun _ => 0))), ((g3 5), .inl (aC 0, 12, .inl (fun _ => 0))), ((g3 6), .inl (aC 0, 12, .inl (fun _ => 0))), ((g3 7), .inl (aC 0, 12, .inl (fun _ => 0))), ((g3 8), .inl (aC 0, 12, .inl (fun _ => 0))), ((g3 9), .inl (aC 0, 12, .inl (fun _ => 0))), ((g3 10), .inl (aC 0, 12, .inl (fun _ => 0)))] H := hP
  have hD : va_D A [(h0, .inr (8, [.ref q1, .ref q2, .ref (g3 0), .null, .int 0])), (q1, .inl (aC 0, 10, .inl (fun _ => 0))), (q2, .inl (aC 0, 10, .inl (fun _ => 0))), ((g3 0), .inl (aC 2, 10, .inr (.inr (.inr (.inr (fun k : Nat => (([1, 2, 3, 4, 5, 6, 7, 8, 9, 10] : List Nat)[k]?).map g3)))))), ((g3 1), .inl (aC 0, 12, .inl (fun _ => 0))), ((g3 2), .inl (aC 0, 12, .inl (fun _ => 0))), ((g3 3), .inl (aC 0, 12, .inl (fun _ => 0))), ((g3 4), .inl (aC 0, 12, .inl (fun _ => 0))), ((g3 5), .inl (aC 0, 12, .inl (fun _ => 0))), ((g3 6), .inl (aC 0, 12, .inl (fun _ => 0))), ((g3 7), .inl (aC 0, 12, .inl (fun _ => 0))), ((g3 8), .inl (aC 0, 12, .inl (fun _ => 0))), ((g3 9), .inl (aC 0, 12, .inl (fun _ => 0))), ((g3 10), .inl (aC 0, 12, .inl (fun _ => 0)))] := hD
  refine lv_aload_n hx hb dk_8_32 rfl (lv_at hl 0 rfl) ?_
  refine lv_bipush (v := (10 : Int32)) hx hb dk_8_33 (by decide) ?_
  refine lv_bipush (v := (12 : Int32)) hx hb dk_8_35 (by decide) ?_
  refine ct_mna hx hb hts hown (am_mem_in (p := 351) (by decide +kernel)) hK hN.2 hP hD hS hA (Nat.le_of_ble_eq_true rfl) (Nat.le_of_ble_eq_true rfl) dk_8_37 (fun g4 H locs hP hD hS => ?_)
  have hP : va_P D am_cl [(h0, .inr (8, [.ref q1, .ref q2, .ref (g3 0), .null, .int 0])), (q1, .inl (aC 0, 10, .inl (fun _ => 0))), (q2, .inl (aC 0, 10, .inl (fun _ => 0))), ((g3 0), .inl (aC 2, 10, .inr (.inr (.inr (.inr (fun k : Nat => (([1, 2, 3, 4, 5, 6, 7, 8, 9, 10] : List Nat)[k]?).map g3)))))), ((g3 1), .inl (aC 0, 12, .inl (fun _ => 0))), ((g3 2), .inl (aC 0, 12, .inl (fun _ => 0))), ((g3 3), .inl (aC 0, 12, .inl (fun _ => 0))), ((g3 4), .inl (aC 0, 12, .inl (fun _ => 0))), ((g3 5), .inl (aC 0, 12, .inl (fun _ => 0))), ((g3 6), .inl (aC 0, 12, .inl (fun _ => 0))), ((g3 7), .inl (aC 0, 12, .inl (fun _ => 0))), ((g3 8), .inl (aC 0, 12, .inl (fun _ => 0))), ((g3 9), .inl (aC 0, 12, .inl (fun _ => 0))), ((g3 10), .inl (aC 0, 12, .inl (fun _ => 0))), ((g4 0), .inl (aC 2, 10, .inr (.inr (.inr (.inr (fun k : Nat => (([1, 2, 3, 4, 5, 6, 7, 8, 9, 10] : List Nat)[k]?).map g4)))))), ((g4 1), .inl (aC 0, 12, .inl (fun _ => 0))), ((g4 2), .inl (aC 0, 12, .inl (fun _ => 0))), ((g4 3), .inl (aC 0, 12, .inl (fun _ => 0))), ((g4 4), .inl (aC 0, 12, .inl (fun _ => 0))), ((g4 5), .inl (aC 0, 12, .inl (fun _ => 0))), ((g4 6), .inl (aC 0, 12, .inl (fun _ => 0))), ((g4 7), .inl (aC 0, 12, .inl (fun _ => 0))), ((g4 8), .inl (aC 0, 12, .inl (fun _ => 0))), ((g4 9), .inl (aC 0, 12, .inl (fun _ => 0))), ((g4 10), .inl (aC 0, 12, .inl (fun _ => 0)))] H := hP
  have hD : va_D A [(h0, .inr (8, [.ref q1, .ref q2, .ref (g3 0), .null, .int 0])), (q1, .inl (aC 0, 10, .inl (fun _ => 0))), (q2, .inl (aC 0, 10, .inl (fun _ => 0))), ((g3 0), .inl (aC 2, 10, .inr (.inr (.inr (.inr (fun k : Nat => (([1, 2, 3, 4, 5, 6, 7, 8, 9, 10] : List Nat)[k]?).map g3)))))), ((g3 1), .inl (aC 0, 12, .inl (fun _ => 0))), ((g3 2), .inl (aC 0, 12, .inl (fun _ => 0))), ((g3 3), .inl (aC 0, 12, .inl (fun _ => 0))), ((g3 4), .inl (aC 0, 12, .inl (fun _ => 0))), ((g3 5), .inl (aC 0, 12, .inl (fun _ => 0))), ((g3 6), .inl (aC 0, 12, .inl (fun _ => 0))), ((g3 7), .inl (aC 0, 12, .inl (fun _ => 0))), ((g3 8), .inl (aC 0, 12, .inl (fun _ => 0))), ((g3 9), .inl (aC 0, 12, .inl (fun _ => 0))), ((g3 10), .inl (aC 0, 12, .inl (fun _ => 0))), ((g4 0), .inl (aC 2, 10, .inr (.inr (.inr (.inr (fun k : Nat => (([1, 2, 3, 4, 5, 6, 7, 8, 9, 10] : List Nat)[k]?).map g4)))))), ((g4 1), .inl (aC 0, 12, .inl (fun _ => 0))), ((g4 2), .inl (aC 0, 12, .inl (fun _ => 0))), ((g4 3), .inl (aC 0, 12, .inl (fun _ => 0))), ((g4 4), .inl (aC 0, 12, .inl (fun _ => 0))), ((g4 5), .inl (aC 0, 12, .inl (fun _ => 0))), ((g4 6), .inl (aC 0, 12, .inl (fun _ => 0))), ((g4 7), .inl (aC 0, 12, .inl (fun _ => 0))), ((g4 8), .inl (aC 0, 12, .inl (fun _ => 0))), ((g4 9), .inl (aC 0, 12, .inl (fun _ => 0))), ((g4 10), .inl (aC 0, 12, .inl (fun _ => 0)))] := hD
  refine ct_putF (ci := 8) (f := 3) (z := 2) (C := RX8) (T := TX8) (N := 5) (v := .ref (g4 0)) hx hb hts (am_ckf_ok (show am_ckf "PartedLand$Wagons" pf_8 23 (some (8, 3, 2)) = true from am_rng klf_8 23 (by decide))) rfl rfl rfl hin hown hK hP hD hS 0 rfl rfl rfl (Nat.le_of_ble_eq_true rfl) dk_8_41 (fun H locs hP hD hS => ?_)
  have hP : va_P D am_cl [(h0, .inr (8, [.ref q1, .ref q2, .ref (g3 0), .ref (g4 0), .int 0])), (q1, .inl (aC 0, 10, .inl (fun _ => 0))), (q2, .inl (aC 0, 10, .inl (fun _ => 0))), ((g3 0), .inl (aC 2, 10, .inr (.inr (.inr (.inr (fun k : Nat => (([1, 2, 3, 4, 5, 6, 7, 8, 9, 10] : List Nat)[k]?).map g3)))))), ((g3 1), .inl (aC 0, 12, .inl (fun _ => 0))), ((g3 2), .inl (aC 0, 12, .inl (fun _ => 0))), ((g3 3), .inl (aC 0, 12, .inl (fun _ => 0))), ((g3 4), .inl (aC 0, 12, .inl (fun _ => 0))), ((g3 5), .inl (aC 0, 12, .inl (fun _ => 0))), ((g3 6), .inl (aC 0, 12, .inl (fun _ => 0))), ((g3 7), .inl (aC 0, 12, .inl (fun _ => 0))), ((g3 8), .inl (aC 0, 12, .inl (fun _ => 0))), ((g3 9), .inl (aC 0, 12, .inl (fun _ => 0))), ((g3 10), .inl (aC 0, 12, .inl (fun _ => 0))), ((g4 0), .inl (aC 2, 10, .inr (.inr (.inr (.inr (fun k : Nat => (([1, 2, 3, 4, 5, 6, 7, 8, 9, 10] : List Nat)[k]?).map g4)))))), ((g4 1), .inl (aC 0, 12, .inl (fun _ => 0))), ((g4 2), .inl (aC 0, 12, .inl (fun _ => 0))), ((g4 3), .inl (aC 0, 12, .inl (fun _ => 0))), ((g4 4), .inl (aC 0, 12, .inl (fun _ => 0))), ((g4 5), .inl (aC 0, 12, .inl (fun _ => 0))), ((g4 6), .inl (aC 0, 12, .inl (fun _ => 0))), ((g4 7), .inl (aC 0, 12, .inl (fun _ => 0))), ((g4 8), .inl (aC 0, 12, .inl (fun _ => 0))), ((g4 9), .inl (aC 0, 12, .inl (fun _ => 0))), ((g4 10), .inl (aC 0, 12, .inl (fun _ => 0)))] H := hP
  have hD : va_D A [(h0, .inr (8, [.ref q1, .ref q2, .ref (g3 0), .ref (g4 0), .int 0])), (q1, .inl (aC 0, 10, .inl (fun _ => 0))), (q2, .inl (aC 0, 10, .inl (fun _ => 0))), ((g3 0), .inl (aC 2, 10, .inr (.inr (.inr (.inr (fun k : Nat => (([1, 2, 3, 4, 5, 6, 7, 8, 9, 10] : List Nat)[k]?).map g3)))))), ((g3 1), .inl (aC 0, 12, .inl (fun _ => 0))), ((g3 2), .inl (aC 0, 12, .inl (fun _ => 0))), ((g3 3), .inl (aC 0, 12, .inl (fun _ => 0))), ((g3 4), .inl (aC 0, 12, .inl (fun _ => 0))), ((g3 5), .inl (aC 0, 12, .inl (fun _ => 0))), ((g3 6), .inl (aC 0, 12, .inl (fun _ => 0))), ((g3 7), .inl (aC 0, 12, .inl (fun _ => 0))), ((g3 8), .inl (aC 0, 12, .inl (fun _ => 0))), ((g3 9), .inl (aC 0, 12, .inl (fun _ => 0))), ((g3 10), .inl (aC 0, 12, .inl (fun _ => 0))), ((g4 0), .inl (aC 2, 10, .inr (.inr (.inr (.inr (fun k : Nat => (([1, 2, 3, 4, 5, 6, 7, 8, 9, 10] : List Nat)[k]?).map g4)))))), ((g4 1), .inl (aC 0, 12, .inl (fun _ => 0))), ((g4 2), .inl (aC 0, 12, .inl (fun _ => 0))), ((g4 3), .inl (aC 0, 12, .inl (fun _ => 0))), ((g4 4), .inl (aC 0, 12, .inl (fun _ => 0))), ((g4 5), .inl (aC 0, 12, .inl (fun _ => 0))), ((g4 6), .inl (aC 0, 12, .inl (fun _ => 0))), ((g4 7), .inl (aC 0, 12, .inl (fun _ => 0))), ((g4 8), .inl (aC 0, 12, .inl (fun _ => 0))), ((g4 9), .inl (aC 0, 12, .inl (fun _ => 0))), ((g4 10), .inl (aC 0, 12, .inl (fun _ => 0)))] := hD
  refine lv_aload_n hx hb dk_8_44 rfl (lv_at hl 0 rfl) ?_
  refine lv_iconst (v := (0 : Int32)) hx hb dk_8_45 (by decide) ?_
  refine ct_put (ci := 8) (f := 4) (z := 0) (C := RX8) (T := TX8) (N := 5) (v := .int (0 : Int32)) hx hb hts (am_ckf_ok (show am_ckf "PartedLand$Wagons" pf_8 26 (some (8, 4, 0)) = true from am_rng klf_8 26 (by decide))) rfl rfl hown hK hP hD hS 0 rfl rfl rfl (Nat.le_of_ble_eq_true rfl) dk_8_46 (fun H locs hP hD hS => ?_)
  have hP : va_P D am_cl [(h0, .inr (8, [.ref q1, .ref q2, .ref (g3 0), .ref (g4 0), .int (0 : Int32)])), (q1, .inl (aC 0, 10, .inl (fun _ => 0))), (q2, .inl (aC 0, 10, .inl (fun _ => 0))), ((g3 0), .inl (aC 2, 10, .inr (.inr (.inr (.inr (fun k : Nat => (([1, 2, 3, 4, 5, 6, 7, 8, 9, 10] : List Nat)[k]?).map g3)))))), ((g3 1), .inl (aC 0, 12, .inl (fun _ => 0))), ((g3 2), .inl (aC 0, 12, .inl (fun _ => 0))), ((g3 3), .inl (aC 0, 12, .inl (fun _ => 0))), ((g3 4), .inl (aC 0, 12, .inl (fun _ => 0))), ((g3 5), .inl (aC 0, 12, .inl (fun _ => 0))), ((g3 6), .inl (aC 0, 12, .inl (fun _ => 0))), ((g3 7), .inl (aC 0, 12, .inl (fun _ => 0))), ((g3 8), .inl (aC 0, 12, .inl (fun _ => 0))), ((g3 9), .inl (aC 0, 12, .inl (fun _ => 0))), ((g3 10), .inl (aC 0, 12, .inl (fun _ => 0))), ((g4 0), .inl (aC 2, 10, .inr (.inr (.inr (.inr (fun k : Nat => (([1, 2, 3, 4, 5, 6, 7, 8, 9, 10] : List Nat)[k]?).map g4)))))), ((g4 1), .inl (aC 0, 12, .inl (fun _ => 0))), ((g4 2), .inl (aC 0, 12, .inl (fun _ => 0))), ((g4 3), .inl (aC 0, 12, .inl (fun _ => 0))), ((g4 4), .inl (aC 0, 12, .inl (fun _ => 0))), ((g4 5), .inl (aC 0, 12, .inl (fun _ => 0))), ((g4 6), .inl (aC 0, 12, .inl (fun _ => 0))), ((g4 7), .inl (aC 0, 12, .inl (fun _ => 0))), ((g4 8), .inl (aC 0, 12, .inl (fun _ => 0))), ((g4 9), .inl (aC 0, 12, .inl (fun _ => 0))), ((g4 10), .inl (aC 0, 12, .inl (fun _ => 0)))] H := hP
  have hD : va_D A [(h0, .inr (8, [.ref q1, .ref q2, .ref (g3 0), .ref (g4 0), .int (0 : Int32)])), (q1, .inl (aC 0, 10, .inl (fun _ => 0))), (q2, .inl (aC 0, 10, .inl (fun _ => 0))), ((g3 0), .inl (aC 2, 10, .inr (.inr (.inr (.inr (fun k : Nat => (([1, 2, 3, 4, 5, 6, 7, 8, 9, 10] : List Nat)[k]?).map g3)))))), ((g3 1), .inl (aC 0, 12, .inl (fun _ => 0))), ((g3 2), .inl (aC 0, 12, .inl (fun _ => 0))), ((g3 3), .inl (aC 0, 12, .inl (fun _ => 0))), ((g3 4), .inl (aC 0, 12, .inl (fun _ => 0))), ((g3 5), .inl (aC 0, 12, .inl (fun _ => 0))), ((g3 6), .inl (aC 0, 12, .inl (fun _ => 0))), ((g3 7), .inl (aC 0, 12, .inl (fun _ => 0))), ((g3 8), .inl (aC 0, 12, .inl (fun _ => 0))), ((g3 9), .inl (aC 0, 12, .inl (fun _ => 0))), ((g3 10), .inl (aC 0, 12, .inl (fun _ => 0))), ((g4 0), .inl (aC 2, 10, .inr (.inr (.inr (.inr (fun k : Nat => (([1, 2, 3, 4, 5, 6, 7, 8, 9, 10] : List Nat)[k]?).map g4)))))), ((g4 1), .inl (aC 0, 12, .inl (fun _ => 0))), ((g4 2), .inl (aC 0, 12, .inl (fun _ => 0))), ((g4 3), .inl (aC 0, 12, .inl (fun _ => 0))), ((g4 4), .inl (aC 0, 12, .inl (fun _ => 0))), ((g4 5), .inl (aC 0, 12, .inl (fun _ => 0))), ((g4 6), .inl (aC 0, 12, .inl (fun _ => 0))), ((g4 7), .inl (aC 0, 12, .inl (fun _ => 0))), ((g4 8), .inl (aC 0, 12, .inl (fun _ => 0))), ((g4 9), .inl (aC 0, 12, .inl (fun _ => 0))), ((g4 10), .inl (aC 0, 12, .inl (fun _ => 0)))] := hD
  rw [show (fun k : Nat => (([1, 2, 3, 4, 5, 6, 7, 8, 9, 10] : List Nat)[k]?).map g3) = (fun k : Nat => (([4, 5, 6, 7, 8, 9, 10, 11, 12, 13] : List Nat)[k]?).map (fun i => (([h0, q1, q2, (g3 0), (g3 1), (g3 2), (g3 3), (g3 4), (g3 5), (g3 6), (g3 7), (g3 8), (g3 9), (g3 10), (g4 0), (g4 1), (g4 2), (g4 3), (g4 4), (g4 5), (g4 6), (g4 7), (g4 8), (g4 9), (g4 10)] : List Nat)[i]?).getD 0)) from ct_refs rfl] at hP hD
  rw [show (fun k : Nat => (([1, 2, 3, 4, 5, 6, 7, 8, 9, 10] : List Nat)[k]?).map g4) = (fun k : Nat => (([15, 16, 17, 18, 19, 20, 21, 22, 23, 24] : List Nat)[k]?).map (fun i => (([h0, q1, q2, (g3 0), (g3 1), (g3 2), (g3 3), (g3 4), (g3 5), (g3 6), (g3 7), (g3 8), (g3 9), (g3 10), (g4 0), (g4 1), (g4 2), (g4 3), (g4 4), (g4 5), (g4 6), (g4 7), (g4 8), (g4 9), (g4 10)] : List Nat)[i]?).getD 0)) from ct_refs rfl] at hP hD
  have hP9 := hP.sub (ws' := ct_F8 aC h0 (fun i => (([h0, q1, q2, (g3 0), (g3 1), (g3 2), (g3 3), (g3 4), (g3 5), (g3 6), (g3 7), (g3 8), (g3 9), (g3 10), (g4 0), (g4 1), (g4 2), (g4 3), (g4 4), (g4 5), (g4 6), (g4 7), (g4 8), (g4 9), (g4 10)] : List Nat)[i]?).getD 0)) [0, 1, 2, 3, 4, 5, 6, 7, 8, 9, 10, 11, 12, 13, 14, 15, 16, 17, 18, 19, 20, 21, 22, 23, 24] rfl
  have hD9 := hD.sub (ws' := ct_F8 aC h0 (fun i => (([h0, q1, q2, (g3 0), (g3 1), (g3 2), (g3 3), (g3 4), (g3 5), (g3 6), (g3 7), (g3 8), (g3 9), (g3 10), (g4 0), (g4 1), (g4 2), (g4 3), (g4 4), (g4 5), (g4 6), (g4 7), (g4 8), (g4 9), (g4 10)] : List Nat)[i]?).getD 0)) [0, 1, 2, 3, 4, 5, 6, 7, 8, 9, 10, 11, 12, 13, 14, 15, 16, 17, 18, 19, 20, 21, 22, 23, 24] (by decide) rfl
  subst hAe
  refine W.widen (k := 24) (n := 280) (Nat.le_of_ble_eq_true rfl) (Nat.le_of_ble_eq_true rfl) ?_
  exact W.vret hx hb hr (fun t ht hW => ⟨⟨rfl, (fun i => (([h0, q1, q2, (g3 0), (g3 1), (g3 2), (g3 3), (g3 4), (g3 5), (g3 6), (g3 7), (g3 8), (g3 9), (g3 10), (g4 0), (g4 1), (g4 2), (g4 3), (g4 4), (g4 5), (g4 6), (g4 7), (g4 8), (g4 9), (g4 10)] : List Nat)[i]?).getD 0), by rw [ht]; exact hP9, hD9⟩, hS.F ht⟩) hS.2.2 dk_8_49
theorem dk_0_0 : decode prog_2_method_1_code 0 = .ok (.aload_n 0, 1) := by decide +kernel
theorem dk_0_1 : decode prog_2_method_1_code 1 = .ok (.invokespecial 1, 3) := by decide +kernel
theorem dk_0_4 : decode prog_2_method_1_code 4 = .ok (.aload_n 0, 1) := by decide +kernel
theorem dk_0_5 : decode prog_2_method_1_code 5 = .ok (.bipush 10, 2) := by decide +kernel
theorem dk_0_7 : decode prog_2_method_1_code 7 = .ok (.newarray .int, 2) := by decide +kernel
theorem dk_0_9 : decode prog_2_method_1_code 9 = .ok (.putfield 9, 3) := by decide +kernel
theorem dk_0_12 : decode prog_2_method_1_code 12 = .ok (.aload_n 0, 1) := by decide +kernel
theorem dk_0_13 : decode prog_2_method_1_code 13 = .ok (.bipush 10, 2) := by decide +kernel
theorem dk_0_15 : decode prog_2_method_1_code 15 = .ok (.newarray .int, 2) := by decide +kernel
theorem dk_0_17 : decode prog_2_method_1_code 17 = .ok (.putfield 13, 3) := by decide +kernel
theorem dk_0_20 : decode prog_2_method_1_code 20 = .ok (.aload_n 0, 1) := by decide +kernel
theorem dk_0_21 : decode prog_2_method_1_code 21 = .ok (.bipush 10, 2) := by decide +kernel
theorem dk_0_23 : decode prog_2_method_1_code 23 = .ok (.newarray .int, 2) := by decide +kernel
theorem dk_0_25 : decode prog_2_method_1_code 25 = .ok (.putfield 16, 3) := by decide +kernel
theorem dk_0_28 : decode prog_2_method_1_code 28 = .ok (.aload_n 0, 1) := by decide +kernel
theorem dk_0_29 : decode prog_2_method_1_code 29 = .ok (.bipush 10, 2) := by decide +kernel
theorem dk_0_31 : decode prog_2_method_1_code 31 = .ok (.newarray .int, 2) := by decide +kernel
theorem dk_0_33 : decode prog_2_method_1_code 33 = .ok (.putfield 19, 3) := by decide +kernel
theorem dk_0_36 : decode prog_2_method_1_code 36 = .ok (.aload_n 0, 1) := by decide +kernel
theorem dk_0_37 : decode prog_2_method_1_code 37 = .ok (.iconst 0, 1) := by decide +kernel
theorem dk_0_38 : decode prog_2_method_1_code 38 = .ok (.putfield 22, 3) := by decide +kernel
theorem dk_0_41 : decode prog_2_method_1_code 41 = .ok (.return_, 1) := by decide +kernel
def ct_F0 (aC : Nat → ClassId) (h0 : Nat) (g : Nat → Nat) : va_W := [(h0, .inr (0, [.ref (g 1), .ref (g 2), .ref (g 3), .ref (g 4), .int (0 : Int32)])), ((g 1), .inl (aC 0, 10, .inl (fun _ => 0))), ((g 2), .inl (aC 0, 10, .inl (fun _ => 0))), ((g 3), .inl (aC 0, 10, .inl (fun _ => 0))), ((g 4), .inl (aC 0, 10, .inl (fun _ => 0)))]
set_option maxHeartbeats 4000000 in
set_option maxRecDepth 100000 in
theorem ct_0 (l : Launch) (D : va_G) (aC : Nat → ClassId) : ct_Met l D aC (ct_N aC) ⟨"PartedLand$Cases", "<init>", "()V"⟩ prog_2_method_1_code { frames := 1, cells := 4, slots := 40, locals := 12 } 0 [.null, .null, .null, .null, .int 0] (ct_F0 aC) 4 40 := by
  intro h0 sz
  refine Met.ofW (cc := prog_2_method_1_code) (maxL := 1) (ret := none) (by decide) rfl ?_
  intro p e s m args below meth c s₁ B hml hv
  obtain ⟨rfl, hsz, hP, hK, hN⟩ := hv
  have hx := B.exec
  have hb := B.bytes
  have hr := B.returns
  have hts0 := atoms_spec (ws := Cond.code (⟨"PartedLand$Cases", "<init>", "()V"⟩ : MethodName) prog_2_method_1_code 1 none :: am_tbl) B.pre
  have hts : ∀ w ∈ am_tbl, w.before _ s = true := fun w hw => hts0 w (List.mem_cons_of_mem _ hw)
  have hown : s.vm.findClass "PartedLand$Cases" = some m.cls := findClass_of_methodNamed B.named
  have hlocks := B.notSynchronized
  have hin : meth.name = "<init>" := (name_of_methodNamed B.named B.method).1
  subst hsz
  obtain ⟨A, hAe⟩ : ∃ A, A = va_A [(h0, .inr (0, [.null, .null, .null, .null, .int 0]))] s.heap.size := ⟨_, rfl⟩
  have hD : va_D A [(h0, .inr (0, [.null, .null, .null, .null, .int 0]))] := by rw [hAe]; exact ct_D1 _ (va_A.in (k := 0) rfl)
  have hA : ∀ q : Nat, s.heap.size ≤ q → A q := fun q h => by rw [hAe]; exact Or.inr h
  have hS : va_S A s.heap s.heap [] := va_S.rf
  have hP : va_P D am_cl [(h0, .inr (0, [.null, .null, .null, .null, .int 0]))] s.heap := hP
  have hl := lv_entry ([.ref h0]) (n := 1) (Nat.le_of_ble_eq_true rfl)
  rw [lg_entry_eq]
  generalize (lg_sl ([.ref h0]) ++ List.replicate (1 - (lg_sl ([.ref h0])).length) Slot.unset).toArray = ls at hl ⊢
  have hl : lv_has ls 1 [(0, .ref h0)] := hl
  refine lv_aload_n hx hb dk_0_0 rfl (lv_at hl 0 rfl) ?_
  refine ct_obj hx hb hts hown (am_mem_in (p := 376) (by decide +kernel)) (hml.trans hl.1.symm) dk_0_1 (Nat.le_of_ble_eq_true rfl) (Nat.le_of_ble_eq_true rfl) ?_
  refine lv_aload_n hx hb dk_0_4 rfl (lv_at hl 0 rfl) ?_
  refine lv_bipush (v := (10 : Int32)) hx hb dk_0_5 (by decide) ?_
  refine ct_newi hx hb (hts _ ct_ai) hK hP hD hS hA (by decide) rfl (by decide) (Nat.le_of_ble_eq_true rfl) (Nat.le_of_ble_eq_true rfl) dk_0_7 (fun q1 H hP hD hS => ?_)
  have hP : va_P D am_cl [(h0, .inr (0, [.null, .null, .null, .null, .int 0])), (q1, .inl (aC 0, 10, .inl (fun _ => 0)))] H := hP
  have hD : va_D A [(h0, .inr (0, [.null, .null, .null, .null, .int 0])), (q1, .inl (aC 0, 10, .inl (fun _ => 0)))] := hD
  refine ct_putF (ci := 0) (f := 0) (z := 2) (C := RX0) (T := TX0) (N := 5) (v := .ref q1) hx hb hts (am_ckf_ok (show am_ckf "PartedLand$Cases" pf_0 9 (some (0, 0, 2)) = true from am_rng klf_0 9 (by decide))) rfl rfl rfl hin hown hK hP hD hS 0 rfl rfl rfl (Nat.le_of_ble_eq_true rfl) dk_0_9 (fun H locs hP hD hS => ?_)
  have hP : va_P D am_cl [(h0, .inr (0, [.ref q1, .null, .null, .null, .int 0])), (q1, .inl (aC 0, 10, .inl (fun _ => 0)))] H := hP
  have hD : va_D A [(h0, .inr (0, [.ref q1, .null, .null, .null, .int 0])), (q1, .inl (aC 0, 10, .inl (fun _ => 0)))] := hD
  refine lv_aload_n hx hb dk_0_12 rfl (lv_at hl 0 rfl) ?_
  refine lv_bipush (v := (10 : Int32)) hx hb dk_0_13 (by decide) ?_
  refine ct_newi hx hb (hts _ ct_ai) hK hP hD hS hA (by decide) rfl (by decide) (Nat.le_of_ble_eq_true rfl) (Nat.le_of_ble_eq_true rfl) dk_0_15 (fun q2 H hP hD hS => ?_)
  have hP : va_P D am_cl [(h0, .inr (0, [.ref q1, .null, .null, .null, .int 0])), (q1, .inl (aC 0, 10, .inl (fun _ => 0))), (q2, .inl (aC 0, 10, .inl (fun _ => 0)))] H := hP
  have hD : va_D A [(h0, .inr (0, [.ref q1, .null, .null, .null, .int 0])), (q1, .inl (aC 0, 10, .inl (fun _ => 0))), (q2, .inl (aC 0, 10, .inl (fun _ => 0)))] := hD
  refine ct_putF (ci := 0) (f := 1) (z := 2) (C := RX0) (T := TX0) (N := 5) (v := .ref q2) hx hb hts (am_ckf_ok (show am_ckf "PartedLand$Cases" pf_0 13 (some (0, 1, 2)) = true from am_rng klf_0 13 (by decide))) rfl rfl rfl hin hown hK hP hD hS 0 rfl rfl rfl (Nat.le_of_ble_eq_true rfl) dk_0_17 (fun H locs hP hD hS => ?_)
  have hP : va_P D am_cl [(h0, .inr (0, [.ref q1, .ref q2, .null, .null, .int 0])), (q1, .inl (aC 0, 10, .inl (fun _ => 0))), (q2, .inl (aC 0, 10, .inl (fun _ => 0)))] H := hP
  have hD : va_D A [(h0, .inr (0, [.ref q1, .ref q2, .null, .null, .int 0])), (q1, .inl (aC 0, 10, .inl (fun _ => 0))), (q2, .inl (aC 0, 10, .inl (fun _ => 0)))] := hD
  refine lv_aload_n hx hb dk_0_20 rfl (lv_at hl 0 rfl) ?_
  refine lv_bipush (v := (10 : Int32)) hx hb dk_0_21 (by decide) ?_
  refine ct_newi hx hb (hts _ ct_ai) hK hP hD hS hA (by decide) rfl (by decide) (Nat.le_of_ble_eq_true rfl) (Nat.le_of_ble_eq_true rfl) dk_0_23 (fun q3 H hP hD hS => ?_)
  have hP : va_P D am_cl [(h0, .inr (0, [.ref q1, .ref q2, .null, .null, .int 0])), (q1, .inl (aC 0, 10, .inl (fun _ => 0))), (q2, .inl (aC 0, 10, .inl (fun _ => 0))), (q3, .inl (aC 0, 10, .inl (fun _ => 0)))] H := hP
  have hD : va_D A [(h0, .inr (0, [.ref q1, .ref q2, .null, .null, .int 0])), (q1, .inl (aC 0, 10, .inl (fun _ => 0))), (q2, .inl (aC 0, 10, .inl (fun _ => 0))), (q3, .inl (aC 0, 10, .inl (fun _ => 0)))] := hD
  refine ct_putF (ci := 0) (f := 2) (z := 2) (C := RX0) (T := TX0) (N := 5) (v := .ref q3) hx hb hts (am_ckf_ok (show am_ckf "PartedLand$Cases" pf_0 16 (some (0, 2, 2)) = true from am_rng klf_0 16 (by decide))) rfl rfl rfl hin hown hK hP hD hS 0 rfl rfl rfl (Nat.le_of_ble_eq_true rfl) dk_0_25 (fun H locs hP hD hS => ?_)
  have hP : va_P D am_cl [(h0, .inr (0, [.ref q1, .ref q2, .ref q3, .null, .int 0])), (q1, .inl (aC 0, 10, .inl (fun _ => 0))), (q2, .inl (aC 0, 10, .inl (fun _ => 0))), (q3, .inl (aC 0, 10, .inl (fun _ => 0)))] H := hP
  have hD : va_D A [(h0, .inr (0, [.ref q1, .ref q2, .ref q3, .null, .int 0])), (q1, .inl (aC 0, 10, .inl (fun _ => 0))), (q2, .inl (aC 0, 10, .inl (fun _ => 0))), (q3, .inl (aC 0, 10, .inl (fun _ => 0)))] := hD
  refine lv_aload_n hx hb dk_0_28 rfl (lv_at hl 0 rfl) ?_
  refine lv_bipush (v := (10 : Int32)) hx hb dk_0_29 (by decide) ?_
  refine ct_newi hx hb (hts _ ct_ai) hK hP hD hS hA (by decide) rfl (by decide) (Nat.le_of_ble_eq_true rfl) (Nat.le_of_ble_eq_true rfl) dk_0_31 (fun q4 H hP hD hS => ?_)
  have hP : va_P D am_cl [(h0, .inr (0, [.ref q1, .ref q2, .ref q3, .null, .int 0])), (q1, .inl (aC 0, 10, .inl (fun _ => 0))), (q2, .inl (aC 0, 10, .inl (fun _ => 0))), (q3, .inl (aC 0, 10, .inl (fun _ => 0))), (q4, .inl (aC 0, 10, .inl (fun _ => 0)))] H := hP
  have hD : va_D A [(h0, .inr (0, [.ref q1, .ref q2, .ref q3, .null, .int 0])), (q1, .inl (aC 0, 10, .inl (fun _ => 0))), (q2, .inl (aC 0, 10, .inl (fun _ => 0))), (q3, .inl (aC 0, 10, .inl (fun _ => 0))), (q4, .inl (aC 0, 10, .inl (fun _ => 0)))] := hD
  refine ct_putF (ci := 0) (f := 3) (z := 2) (C := RX0) (T := TX0) (N := 5) (v := .ref q4) hx hb hts (am_ckf_ok (show am_ckf "PartedLand$Cases" pf_0 19 (some (0, 3, 2)) = true from am_rng klf_0 19 (by decide))) rfl rfl rfl hin hown hK hP hD hS 0 rfl rfl rfl (Nat.le_of_ble_eq_true rfl) dk_0_33 (fun H locs hP hD hS => ?_)
  have hP : va_P D am_cl [(h0, .inr (0, [.ref q1, .ref q2, .ref q3, .ref q4, .int 0])), (q1, .inl (aC 0, 10, .inl (fun _ => 0))), (q2, .inl (aC 0, 10, .inl (fun _ => 0))), (q3, .inl (aC 0, 10, .inl (fun _ => 0))), (q4, .inl (aC 0, 10, .inl (fun _ => 0)))] H := hP
  have hD : va_D A [(h0, .inr (0, [.ref q1, .ref q2, .ref q3, .ref q4, .int 0])), (q1, .inl (aC 0, 10, .inl (fun _ => 0))), (q2, .inl (aC 0, 10, .inl (fun _ => 0))), (q3, .inl (aC 0, 10, .inl (fun _ => 0))), (q4, .inl (aC 0, 10, .inl (fun _ => 0)))] := hD
  refine lv_aload_n hx hb dk_0_36 rfl (lv_at hl 0 rfl) ?_
  refine lv_iconst (v := (0 : Int32)) hx hb dk_0_37 (by decide) ?_
  refine ct_put (ci := 0) (f := 4) (z := 0) (C := RX0) (T := TX0) (N := 5) (v := .int (0 : Int32)) hx hb hts (am_ckf_ok (show am_ckf "PartedLand$Cases" pf_0 22 (some (0, 4, 0)) = true from am_rng klf_0 22 (by decide))) rfl rfl hown hK hP hD hS 0 rfl rfl rfl (Nat.le_of_ble_eq_true rfl) dk_0_38 (fun H locs hP hD hS => ?_)
  have hP : va_P D am_cl [(h0, .inr (0, [.ref q1, .ref q2, .ref q3, .ref q4, .int (0 : Int32)])), (q1, .inl (aC 0, 10, .inl (fun _ => 0))), (q2, .inl (aC 0, 10, .inl (fun _ => 0))), (q3, .inl (aC 0, 10, .inl (fun _ => 0))), (q4, .inl (aC 0, 10, .inl (fun _ => 0)))] H := hP
  have hD : va_D A [(h0, .inr (0, [.ref q1, .ref q2, .ref q3, .ref q4, .int (0 : Int32)])), (q1, .inl (aC 0, 10, .inl (fun _ => 0))), (q2, .inl (aC 0, 10, .inl (fun _ => 0))), (q3, .inl (aC 0, 10, .inl (fun _ => 0))), (q4, .inl (aC 0, 10, .inl (fun _ => 0)))] := hD
  have hP9 := hP.sub (ws' := ct_F0 aC h0 (fun i => (([h0, q1, q2, q3, q4] : List Nat)[i]?).getD 0)) [0, 1, 2, 3, 4] rfl
  have hD9 := hD.sub (ws' := ct_F0 aC h0 (fun i => (([h0, q1, q2, q3, q4] : List Nat)[i]?).getD 0)) [0, 1, 2, 3, 4] (by decide) rfl
  subst hAe
  refine W.widen (k := 4) (n := 40) (Nat.le_of_ble_eq_true rfl) (Nat.le_of_ble_eq_true rfl) ?_
  exact W.vret hx hb hr (fun t ht hW => ⟨⟨rfl, (fun i => (([h0, q1, q2, q3, q4] : List Nat)[i]?).getD 0), by rw [ht]; exact hP9, hD9⟩, hS.F ht⟩) hS.2.2 dk_0_41
theorem dk_6_0 : decode prog_8_method_1_code 0 = .ok (.aload_n 0, 1) := by decide +kernel
theorem dk_6_1 : decode prog_8_method_1_code 1 = .ok (.invokespecial 1, 3) := by decide +kernel
theorem dk_6_4 : decode prog_8_method_1_code 4 = .ok (.aload_n 0, 1) := by decide +kernel
theorem dk_6_5 : decode prog_8_method_1_code 5 = .ok (.bipush 9, 2) := by decide +kernel
theorem dk_6_7 : decode prog_8_method_1_code 7 = .ok (.newarray .int, 2) := by decide +kernel
theorem dk_6_9 : decode prog_8_method_1_code 9 = .ok (.putfield 9, 3) := by decide +kernel
theorem dk_6_12 : decode prog_8_method_1_code 12 = .ok (.aload_n 0, 1) := by decide +kernel
theorem dk_6_13 : decode prog_8_method_1_code 13 = .ok (.bipush 9, 2) := by decide +kernel
theorem dk_6_15 : decode prog_8_method_1_code 15 = .ok (.newarray .int, 2) := by decide +kernel
theorem dk_6_17 : decode prog_8_method_1_code 17 = .ok (.putfield 13, 3) := by decide +kernel
theorem dk_6_20 : decode prog_8_method_1_code 20 = .ok (.aload_n 0, 1) := by decide +kernel
theorem dk_6_21 : decode prog_8_method_1_code 21 = .ok (.bipush 9, 2) := by decide +kernel
theorem dk_6_23 : decode prog_8_method_1_code 23 = .ok (.newarray .int, 2) := by decide +kernel
theorem dk_6_25 : decode prog_8_method_1_code 25 = .ok (.putfield 16, 3) := by decide +kernel
theorem dk_6_28 : decode prog_8_method_1_code 28 = .ok (.aload_n 0, 1) := by decide +kernel
theorem dk_6_29 : decode prog_8_method_1_code 29 = .ok (.bipush 9, 2) := by decide +kernel
theorem dk_6_31 : decode prog_8_method_1_code 31 = .ok (.newarray .int, 2) := by decide +kernel
theorem dk_6_33 : decode prog_8_method_1_code 33 = .ok (.putfield 19, 3) := by decide +kernel
theorem dk_6_36 : decode prog_8_method_1_code 36 = .ok (.aload_n 0, 1) := by decide +kernel
theorem dk_6_37 : decode prog_8_method_1_code 37 = .ok (.iconst 0, 1) := by decide +kernel
theorem dk_6_38 : decode prog_8_method_1_code 38 = .ok (.putfield 22, 3) := by decide +kernel
theorem dk_6_41 : decode prog_8_method_1_code 41 = .ok (.aload_n 0, 1) := by decide +kernel
theorem dk_6_42 : decode prog_8_method_1_code 42 = .ok (.iconst 0, 1) := by decide +kernel
theorem dk_6_43 : decode prog_8_method_1_code 43 = .ok (.putfield 26, 3) := by decide +kernel
theorem dk_6_46 : decode prog_8_method_1_code 46 = .ok (.aload_n 0, 1) := by decide +kernel
theorem dk_6_47 : decode prog_8_method_1_code 47 = .ok (.iconst 0, 1) := by decide +kernel
theorem dk_6_48 : decode prog_8_method_1_code 48 = .ok (.putfield 29, 3) := by decide +kernel
theorem dk_6_51 : decode prog_8_method_1_code 51 = .ok (.return_, 1) := by decide +kernel
def ct_F6 (aC : Nat → ClassId) (h0 : Nat) (g : Nat → Nat) : va_W := [(h0, .inr (6, [.ref (g 1), .ref (g 2), .ref (g 3), .ref (g 4), .int (0 : Int32), .int (0 : Int32), .int (0 : Int32)])), ((g 1), .inl (aC 0, 9, .inl (fun _ => 0))), ((g 2), .inl (aC 0, 9, .inl (fun _ => 0))), ((g 3), .inl (aC 0, 9, .inl (fun _ => 0))), ((g 4), .inl (aC 0, 9, .inl (fun _ => 0)))]
set_option maxHeartbeats 4000000 in
set_option maxRecDepth 100000 in
theorem ct_6 (l : Launch) (D : va_G) (aC : Nat → ClassId) : ct_Met l D aC (ct_N aC) ⟨"PartedLand$Tasks", "<init>", "()V"⟩ prog_8_method_1_code { frames := 1, cells := 4, slots := 36, locals := 12 } 6 [.null, .null, .null, .null, .int 0, .int 0, .int 0] (ct_F6 aC) 4 36 := by
  intro h0 sz
  refine Met.ofW (cc := prog_8_method_1_code) (maxL := 1) (ret := none) (by decide) rfl ?_
  intro p e s m args below meth c s₁ B hml hv
  obtain ⟨rfl, hsz, hP, hK, hN⟩ := hv
  have hx := B.exec
  have hb := B.bytes
  have hr := B.returns
  have hts0 := atoms_spec (ws := Cond.code (⟨"PartedLand$Tasks", "<init>", "()V"⟩ : MethodName) prog_8_method_1_code 1 none :: am_tbl) B.pre
  have hts : ∀ w ∈ am_tbl, w.before _ s = true := fun w hw => hts0 w (List.mem_cons_of_mem _ hw)
  have hown : s.vm.findClass "PartedLand$Tasks" = some m.cls := findClass_of_methodNamed B.named
  have hlocks := B.notSynchronized
  have hin : meth.name = "<init>" := (name_of_methodNamed B.named B.method).1
  subst hsz
  obtain ⟨A, hAe⟩ : ∃ A, A = va_A [(h0, .inr (6, [.null, .null, .null, .null, .int 0, .int 0, .int 0]))] s.heap.size := ⟨_, rfl⟩
  have hD : va_D A [(h0, .inr (6, [.null, .null, .null, .null, .int 0, .int 0, .int 0]))] := by rw [hAe]; exact ct_D1 _ (va_A.in (k := 0) rfl)
  have hA : ∀ q : Nat, s.heap.size ≤ q → A q := fun q h => by rw [hAe]; exact Or.inr h
  have hS : va_S A s.heap s.heap [] := va_S.rf
  have hP : va_P D am_cl [(h0, .inr (6, [.null, .null, .null, .null, .int 0, .int 0, .int 0]))] s.heap := hP
  have hl := lv_entry ([.ref h0]) (n := 1) (Nat.le_of_ble_eq_true rfl)
  rw [lg_entry_eq]
  generalize (lg_sl ([.ref h0]) ++ List.replicate (1 - (lg_sl ([.ref h0])).length) Slot.unset).toArray = ls at hl ⊢
  have hl : lv_has ls 1 [(0, .ref h0)] := hl
  refine lv_aload_n hx hb dk_6_0 rfl (lv_at hl 0 rfl) ?_
  refine ct_obj hx hb hts hown (am_mem_in (p := 400) (by decide +kernel)) (hml.trans hl.1.symm) dk_6_1 (Nat.le_of_ble_eq_true rfl) (Nat.le_of_ble_eq_true rfl) ?_
  refine lv_aload_n hx hb dk_6_4 rfl (lv_at hl 0 rfl) ?_
  refine lv_bipush (v := (9 : Int32)) hx hb dk_6_5 (by decide) ?_
  refine ct_newi hx hb (hts _ ct_ai) hK hP hD hS hA (by decide) rfl (by decide) (Nat.le_of_ble_eq_true rfl) (Nat.le_of_ble_eq_true rfl) dk_6_7 (fun q1 H hP hD hS => ?_)
  have hP : va_P D am_cl [(h0, .inr (6, [.null, .null, .null, .null, .int 0, .int 0, .int 0])), (q1, .inl (aC 0, 9, .inl (fun _ => 0)))] H := hP
  have hD : va_D A [(h0, .inr (6, [.null, .null, .null, .null, .int 0, .int 0, .int 0])), (q1, .inl (aC 0, 9, .inl (fun _ => 0)))] := hD
  refine ct_putF (ci := 6) (f := 0) (z := 2) (C := RX6) (T := TX6) (N := 7) (v := .ref q1) hx hb hts (am_ckf_ok (show am_ckf "PartedLand$Tasks" pf_6 9 (some (6, 0, 2)) = true from am_rng klf_6 9 (by decide))) rfl rfl rfl hin hown hK hP hD hS 0 rfl rfl rfl (Nat.le_of_ble_eq_true rfl) dk_6_9 (fun H locs hP hD hS => ?_)
  have hP : va_P D am_cl [(h0, .inr (6, [.ref q1, .null, .null, .null, .int 0, .int 0, .int 0])), (q1, .inl (aC 0, 9, .inl (fun _ => 0)))] H := hP
  have hD : va_D A [(h0, .inr (6, [.ref q1, .null, .null, .null, .int 0, .int 0, .int 0])), (q1, .inl (aC 0, 9, .inl (fun _ => 0)))] := hD
  refine lv_aload_n hx hb dk_6_12 rfl (lv_at hl 0 rfl) ?_
  refine lv_bipush (v := (9 : Int32)) hx hb dk_6_13 (by decide) ?_
  refine ct_newi hx hb (hts _ ct_ai) hK hP hD hS hA (by decide) rfl (by decide) (Nat.le_of_ble_eq_true rfl) (Nat.le_of_ble_eq_true rfl) dk_6_15 (fun q2 H hP hD hS => ?_)
  have hP : va_P D am_cl [(h0, .inr (6, [.ref q1, .null, .null, .null, .int 0, .int 0, .int 0])), (q1, .inl (aC 0, 9, .inl (fun _ => 0))), (q2, .inl (aC 0, 9, .inl (fun _ => 0)))] H := hP
  have hD : va_D A [(h0, .inr (6, [.ref q1, .null, .null, .null, .int 0, .int 0, .int 0])), (q1, .inl (aC 0, 9, .inl (fun _ => 0))), (q2, .inl (aC 0, 9, .inl (fun _ => 0)))] := hD
  refine ct_putF (ci := 6) (f := 1) (z := 2) (C := RX6) (T := TX6) (N := 7) (v := .ref q2) hx hb hts (am_ckf_ok (show am_ckf "PartedLand$Tasks" pf_6 13 (some (6, 1, 2)) = true from am_rng klf_6 13 (by decide))) rfl rfl rfl hin hown hK hP hD hS 0 rfl rfl rfl (Nat.le_of_ble_eq_true rfl) dk_6_17 (fun H locs hP hD hS => ?_)
  have hP : va_P D am_cl [(h0, .inr (6, [.ref q1, .ref q2, .null, .null, .int 0, .int 0, .int 0])), (q1, .inl (aC 0, 9, .inl (fun _ => 0))), (q2, .inl (aC 0, 9, .inl (fun _ => 0)))] H := hP
  have hD : va_D A [(h0, .inr (6, [.ref q1, .ref q2, .null, .null, .int 0, .int 0, .int 0])), (q1, .inl (aC 0, 9, .inl (fun _ => 0))), (q2, .inl (aC 0, 9, .inl (fun _ => 0)))] := hD
  refine lv_aload_n hx hb dk_6_20 rfl (lv_at hl 0 rfl) ?_
  refine lv_bipush (v := (9 : Int32)) hx hb dk_6_21 (by decide) ?_
  refine ct_newi hx hb (hts _ ct_ai) hK hP hD hS hA (by decide) rfl (by decide) (Nat.le_of_ble_eq_true rfl) (Nat.le_of_ble_eq_true rfl) dk_6_23 (fun q3 H hP hD hS => ?_)
  have hP : va_P D am_cl [(h0, .inr (6, [.ref q1, .ref q2, .null, .null, .int 0, .int 0, .int 0])), (q1, .inl (aC 0, 9, .inl (fun _ => 0))), (q2, .inl (aC 0, 9, .inl (fun _ => 0))), (q3, .inl (aC 0, 9, .inl (fun _ => 0)))] H := hP
  have hD : va_D A [(h0, .inr (6, [.ref q1, .ref q2, .null, .null, .int 0, .int 0, .int 0])), (q1, .inl (aC 0, 9, .inl (fun _ => 0))), (q2, .inl (aC 0, 9, .inl (fun _ => 0))), (q3, .inl (aC 0, 9, .inl (fun _ => 0)))] := hD
  refine ct_putF (ci := 6) (f := 2) (z := 2) (C := RX6) (T := TX6) (N := 7) (v := .ref q3) hx hb hts (am_ckf_ok (show am_ckf "PartedLand$Tasks" pf_6 16 (some (6, 2, 2)) = true from am_rng klf_6 16 (by decide))) rfl rfl rfl hin hown hK hP hD hS 0 rfl rfl rfl (Nat.le_of_ble_eq_true rfl) dk_6_25 (fun H locs hP hD hS => ?_)
  have hP : va_P D am_cl [(h0, .inr (6, [.ref q1, .ref q2, .ref q3, .null, .int 0, .int 0, .int 0])), (q1, .inl (aC 0, 9, .inl (fun _ => 0))), (q2, .inl (aC 0, 9, .inl (fun _ => 0))), (q3, .inl (aC 0, 9, .inl (fun _ => 0)))] H := hP
  have hD : va_D A [(h0, .inr (6, [.ref q1, .ref q2, .ref q3, .null, .int 0, .int 0, .int 0])), (q1, .inl (aC 0, 9, .inl (fun _ => 0))), (q2, .inl (aC 0, 9, .inl (fun _ => 0))), (q3, .inl (aC 0, 9, .inl (fun _ => 0)))] := hD
  refine lv_aload_n hx hb dk_6_28 rfl (lv_at hl 0 rfl) ?_
  refine lv_bipush (v := (9 : Int32)) hx hb dk_6_29 (by decide) ?_
  refine ct_newi hx hb (hts _ ct_ai) hK hP hD hS hA (by decide) rfl (by decide) (Nat.le_of_ble_eq_true rfl) (Nat.le_of_ble_eq_true rfl) dk_6_31 (fun q4 H hP hD hS => ?_)
  have hP : va_P D am_cl [(h0, .inr (6, [.ref q1, .ref q2, .ref q3, .null, .int 0, .int 0, .int 0])), (q1, .inl (aC 0, 9, .inl (fun _ => 0))), (q2, .inl (aC 0, 9, .inl (fun _ => 0))), (q3, .inl (aC 0, 9, .inl (fun _ => 0))), (q4, .inl (aC 0, 9, .inl (fun _ => 0)))] H := hP
  have hD : va_D A [(h0, .inr (6, [.ref q1, .ref q2, .ref q3, .null, .int 0, .int 0, .int 0])), (q1, .inl (aC 0, 9, .inl (fun _ => 0))), (q2, .inl (aC 0, 9, .inl (fun _ => 0))), (q3, .inl (aC 0, 9, .inl (fun _ => 0))), (q4, .inl (aC 0, 9, .inl (fun _ => 0)))] := hD
  refine ct_putF (ci := 6) (f := 3) (z := 2) (C := RX6) (T := TX6) (N := 7) (v := .ref q4) hx hb hts (am_ckf_ok (show am_ckf "PartedLand$Tasks" pf_6 19 (some (6, 3, 2)) = true from am_rng klf_6 19 (by decide))) rfl rfl rfl hin hown hK hP hD hS 0 rfl rfl rfl (Nat.le_of_ble_eq_true rfl) dk_6_33 (fun H locs hP hD hS => ?_)
  have hP : va_P D am_cl [(h0, .inr (6, [.ref q1, .ref q2, .ref q3, .ref q4, .int 0, .int 0, .int 0])), (q1, .inl (aC 0, 9, .inl (fun _ => 0))), (q2, .inl (aC 0, 9, .inl (fun _ => 0))), (q3, .inl (aC 0, 9, .inl (fun _ => 0))), (q4, .inl (aC 0, 9, .inl (fun _ => 0)))] H := hP
  have hD : va_D A [(h0, .inr (6, [.ref q1, .ref q2, .ref q3, .ref q4, .int 0, .int 0, .int 0])), (q1, .inl (aC 0, 9, .inl (fun _ => 0))), (q2, .inl (aC 0, 9, .inl (fun _ => 0))), (q3, .inl (aC 0, 9, .inl (fun _ => 0))), (q4, .inl (aC 0, 9, .inl (fun _ => 0)))] := hD
  refine lv_aload_n hx hb dk_6_36 rfl (lv_at hl 0 rfl) ?_
  refine lv_iconst (v := (0 : Int32)) hx hb dk_6_37 (by decide) ?_
  refine ct_put (ci := 6) (f := 4) (z := 0) (C := RX6) (T := TX6) (N := 7) (v := .int (0 : Int32)) hx hb hts (am_ckf_ok (show am_ckf "PartedLand$Tasks" pf_6 22 (some (6, 4, 0)) = true from am_rng klf_6 22 (by decide))) rfl rfl hown hK hP hD hS 0 rfl rfl rfl (Nat.le_of_ble_eq_true rfl) dk_6_38 (fun H locs hP hD hS => ?_)
  have hP : va_P D am_cl [(h0, .inr (6, [.ref q1, .ref q2, .ref q3, .ref q4, .int (0 : Int32), .int 0, .int 0])), (q1, .inl (aC 0, 9, .inl (fun _ => 0))), (q2, .inl (aC 0, 9, .inl (fun _ => 0))), (q3, .inl (aC 0, 9, .inl (fun _ => 0))), (q4, .inl (aC 0, 9, .inl (fun _ => 0)))] H := hP
  have hD : va_D A [(h0, .inr (6, [.ref q1, .ref q2, .ref q3, .ref q4, .int (0 : Int32), .int 0, .int 0])), (q1, .inl (aC 0, 9, .inl (fun _ => 0))), (q2, .inl (aC 0, 9, .inl (fun _ => 0))), (q3, .inl (aC 0, 9, .inl (fun _ => 0))), (q4, .inl (aC 0, 9, .inl (fun _ => 0)))] := hD
  refine lv_aload_n hx hb dk_6_41 rfl (lv_at hl 0 rfl) ?_
  refine lv_iconst (v := (0 : Int32)) hx hb dk_6_42 (by decide) ?_
  refine ct_put (ci := 6) (f := 5) (z := 0) (C := RX6) (T := TX6) (N := 7) (v := .int (0 : Int32)) hx hb hts (am_ckf_ok (show am_ckf "PartedLand$Tasks" pf_6 26 (some (6, 5, 0)) = true from am_rng klf_6 26 (by decide))) rfl rfl hown hK hP hD hS 0 rfl rfl rfl (Nat.le_of_ble_eq_true rfl) dk_6_43 (fun H locs hP hD hS => ?_)
  have hP : va_P D am_cl [(h0, .inr (6, [.ref q1, .ref q2, .ref q3, .ref q4, .int (0 : Int32), .int (0 : Int32), .int 0])), (q1, .inl (aC 0, 9, .inl (fun _ => 0))), (q2, .inl (aC 0, 9, .inl (fun _ => 0))), (q3, .inl (aC 0, 9, .inl (fun _ => 0))), (q4, .inl (aC 0, 9, .inl (fun _ => 0)))] H := hP
  have hD : va_D A [(h0, .inr (6, [.ref q1, .ref q2, .ref q3, .ref q4, .int (0 : Int32), .int (0 : Int32), .int 0])), (q1, .inl (aC 0, 9, .inl (fun _ => 0))), (q2, .inl (aC 0, 9, .inl (fun _ => 0))), (q3, .inl (aC 0, 9, .inl (fun _ => 0))), (q4, .inl (aC 0, 9, .inl (fun _ => 0)))] := hD
  refine lv_aload_n hx hb dk_6_46 rfl (lv_at hl 0 rfl) ?_
  refine lv_iconst (v := (0 : Int32)) hx hb dk_6_47 (by decide) ?_
  refine ct_put (ci := 6) (f := 6) (z := 0) (C := RX6) (T := TX6) (N := 7) (v := .int (0 : Int32)) hx hb hts (am_ckf_ok (show am_ckf "PartedLand$Tasks" pf_6 29 (some (6, 6, 0)) = true from am_rng klf_6 29 (by decide))) rfl rfl hown hK hP hD hS 0 rfl rfl rfl (Nat.le_of_ble_eq_true rfl) dk_6_48 (fun H locs hP hD hS => ?_)
  have hP : va_P D am_cl [(h0, .inr (6, [.ref q1, .ref q2, .ref q3, .ref q4, .int (0 : Int32), .int (0 : Int32), .int (0 : Int32)])), (q1, .inl (aC 0, 9, .inl (fun _ => 0))), (q2, .inl (aC 0, 9, .inl (fun _ => 0))), (q3, .inl (aC 0, 9, .inl (fun _ => 0))), (q4, .inl (aC 0, 9, .inl (fun _ => 0)))] H := hP
  have hD : va_D A [(h0, .inr (6, [.ref q1, .ref q2, .ref q3, .ref q4, .int (0 : Int32), .int (0 : Int32), .int (0 : Int32)])), (q1, .inl (aC 0, 9, .inl (fun _ => 0))), (q2, .inl (aC 0, 9, .inl (fun _ => 0))), (q3, .inl (aC 0, 9, .inl (fun _ => 0))), (q4, .inl (aC 0, 9, .inl (fun _ => 0)))] := hD
  have hP9 := hP.sub (ws' := ct_F6 aC h0 (fun i => (([h0, q1, q2, q3, q4] : List Nat)[i]?).getD 0)) [0, 1, 2, 3, 4] rfl
  have hD9 := hD.sub (ws' := ct_F6 aC h0 (fun i => (([h0, q1, q2, q3, q4] : List Nat)[i]?).getD 0)) [0, 1, 2, 3, 4] (by decide) rfl
  subst hAe
  refine W.widen (k := 4) (n := 36) (Nat.le_of_ble_eq_true rfl) (Nat.le_of_ble_eq_true rfl) ?_
  exact W.vret hx hb hr (fun t ht hW => ⟨⟨rfl, (fun i => (([h0, q1, q2, q3, q4] : List Nat)[i]?).getD 0), by rw [ht]; exact hP9, hD9⟩, hS.F ht⟩) hS.2.2 dk_6_51
