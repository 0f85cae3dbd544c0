/-! PartedLand$Text.readCourtStage (22, 'I'): S -/
def fx_Text_readCourtStage (N : Nat) (a1 : Int32) (σ : am_S) : Option (Int32 × am_S) := (fx_Text_readDigits N a1 (1 : Int32) (1 : Int32) σ).bind fun q1 => (if 0 ≤ q1 then (fx_Text_numberAt N a1 q1 σ).bind fun q3 => (fx_Text_readRowEnd q1 (am_up σ 22 7 q3)).bind fun q4 => some (q4, (am_up σ 22 7 q3)) else some (q1, σ))
set_option maxRecDepth 100000 in
theorem fx_Text_readCourtStage_e {X : Nat} {xs : Nat → Int32} {d : Nat} {N : Nat} {a1 : Int32} {σ : am_S} {o : Int32 × am_S} (h : fx_Text_readCourtStage N a1 σ = some o) : am_Ev am_sh (am_exx X xs) (d + 2) mm_64 0 [.ref 22, .int a1, .null] [] σ (some (.int o.1)) o.2 := by
  unfold fx_Text_readCourtStage at h
  refine ev_aload_n (pc' := 1) rfl rfl rfl ?_
  refine ev_iload_n (pc' := 2) rfl rfl rfl ?_
  refine ev_iconst (pc' := 3) (b := (1 : Int32)) rfl rfl rfl ?_
  refine ev_iconst (pc' := 4) (b := (1 : Int32)) rfl rfl rfl ?_
  refine am_bd h (fun q1 hq1 h => ?_)
  refine ev_call (mi := 66) (as := [.ref 22, .int a1, .int (1 : Int32), .int (1 : Int32)]) (rest := []) rfl rfl (Nat.le_of_ble_eq_true rfl) (fx_Text_readDigits_e (d := d) hq1) ?_
  show am_Ev _ _ _ _ 7 _ _ _ _ _
  refine ev_istore_n (pc' := 8) (L' := [.ref 22, .int a1, .int q1]) rfl rfl rfl rfl ?_
  refine ev_iload_n (pc' := 9) rfl rfl rfl ?_
  rcases am_if h with ⟨hc2, h⟩ | ⟨hc2, h⟩
  · refine ev_if_t (pc' := 14) rfl rfl (cb_ge_t hc2) ?_
    refine ev_aload_n (pc' := 15) rfl rfl rfl ?_
    refine ev_aload_n (pc' := 16) rfl rfl rfl ?_
    refine ev_iload_n (pc' := 17) rfl rfl rfl ?_
    refine ev_iload_n (pc' := 18) rfl rfl rfl ?_
    refine am_bd h (fun q3 hq3 h => ?_)
    refine ev_call (mi := 68) (as := [.ref 22, .int a1, .int q1]) (rest := [.ref 22]) rfl rfl (Nat.le_of_ble_eq_true rfl) (fx_Text_numberAt_e (d := d) hq3) ?_
    show am_Ev _ _ _ _ 21 _ _ _ _ _
    refine ev_putfield (pc' := 24) (ci := 7) (f := 7) (z := 0) rfl rfl rfl rfl rfl ?_
    refine ev_aload_n (pc' := 25) rfl rfl rfl ?_
    refine ev_iload_n (pc' := 26) rfl rfl rfl ?_
    refine am_bd h (fun q4 hq4 h => ?_)
    refine ev_call (mi := 67) (as := [.ref 22, .int q1]) (rest := []) rfl rfl (Nat.le_of_ble_eq_true rfl) (fx_Text_readRowEnd_e (d := d) hq4) ?_
    show am_Ev _ _ _ _ 29 _ _ _ _ _
    obtain rfl := Option.some.inj h
    exact ev_ireturn rfl rfl
  · refine ev_if_f (pc' := 12) rfl (by decide) rfl (cb_ge_f hc2) ?_
    refine ev_iload_n (pc' := 13) rfl rfl rfl ?_
    obtain rfl := Option.some.inj h
    exact ev_ireturn rfl rfl
/-! PartedLand$Text.readRow (22, 'I'): S -/
def fx_Text_readRow (N : Nat) (a1 : Int32) (σ : am_S) : Option (Int32 × am_S) := (fx_Text_byteAt a1 σ).bind fun q1 => (if q1 = (99 : Int32) then (fx_Text_readCourtStage N (a1 + (1 : Int32)) σ).bind fun q3 => some (q3.1, q3.2) else (if q1 = (100 : Int32) then (fx_Text_readDebts (a1 + (1 : Int32)) σ).bind fun q5 => some (q5.1, q5.2) else (if q1 = (107 : Int32) then (fx_Text_readLastChoiceDay N (a1 + (1 : Int32)) σ).bind fun q7 => some (q7.1, q7.2) else (if q1 = (112 : Int32) then (fx_Text_readGrounds N (a1 + (1 : Int32)) σ).bind fun q9 => some (q9.1, q9.2) else (if q1 = (115 : Int32) then (fx_Text_readShare N (a1 + (1 : Int32)) σ).bind fun q11 => some (q11.1, q11.2) else (if q1 = (117 : Int32) then (fx_Text_readHours N (a1 + (1 : Int32)) σ).bind fun q13 => some (q13.1, q13.2) else some ((fx_Text_faultAt a1 σ), σ)))))))
set_option maxRecDepth 100000 in
theorem fx_Text_readRow_e {X : Nat} {xs : Nat → Int32} {d : Nat} {N : Nat} {a1 : Int32} {σ : am_S} {o : Int32 × am_S} (h : fx_Text_readRow N a1 σ = some o) : am_Ev am_sh (am_exx X xs) (d + 3) mm_79 0 [.ref 22, .int a1] [] σ (some (.int o.1)) o.2 := by
  unfold fx_Text_readRow at h
  refine ev_aload_n (pc' := 1) rfl rfl rfl ?_
  refine ev_iload_n (pc' := 2) rfl rfl rfl ?_
  refine am_bd h (fun q1 hq1 h => ?_)
  refine ev_call (mi := 69) (as := [.ref 22, .int a1]) (rest := []) rfl rfl (Nat.le_of_ble_eq_true rfl) (fx_Text_byteAt_e (d := d + 2) hq1) ?_
  show am_Ev _ _ _ _ 5 _ _ _ _ _
  rcases am_if h with ⟨hc2, h⟩ | ⟨hc2, h⟩
  · refine ev_tsw (pc' := 128) (off := 123) rfl (by rw [hc2]; decide +kernel) (by rw [hc2]; decide +kernel) rfl ?_
    refine ev_aload_n (pc' := 129) rfl rfl rfl ?_
    refine ev_iload_n (pc' := 130) rfl rfl rfl ?_
    refine ev_iconst (pc' := 131) (b := (1 : Int32)) rfl rfl rfl ?_
    refine ev_iadd (pc' := 132) rfl rfl ?_
    refine am_bd h (fun q3 hq3 h => ?_)
    refine ev_call (mi := 64) (as := [.ref 22, .int (a1 + (1 : Int32))]) (rest := []) rfl rfl (Nat.le_of_ble_eq_true rfl) (fx_Text_readCourtStage_e (d := d) hq3) ?_
    show am_Ev _ _ _ _ 135 _ _ _ _ _
    obtain rfl := Option.some.inj h
    exact ev_ireturn rfl rfl
  rcases am_if h with ⟨hc4, h⟩ | ⟨hc4, h⟩
  · refine ev_tsw (pc' := 120) (off := 115) rfl (by rw [hc4]; decide +kernel) (by rw [hc4]; decide +kernel) rfl ?_
    refine ev_aload_n (pc' := 121) rfl rfl rfl ?_
    refine ev_iload_n (pc' := 122) rfl rfl rfl ?_
    refine ev_iconst (pc' := 123) (b := (1 : Int32)) rfl rfl rfl ?_
    refine ev_iadd (pc' := 124) rfl rfl ?_
    refine am_bd h (fun q5 hq5 h => ?_)
    refine ev_call (mi := 63) (as := [.ref 22, .int (a1 + (1 : Int32))]) (rest := []) rfl rfl (Nat.le_of_ble_eq_true rfl) (fx_Text_readDebts_e (d := d) hq5) ?_
    show am_Ev _ _ _ _ 127 _ _ _ _ _
    obtain rfl := Option.some.inj h
    exact ev_ireturn rfl rfl
  rcases am_if h with ⟨hc6, h⟩ | ⟨hc6, h⟩
  · refine ev_tsw (pc' := 104) (off := 99) rfl (by rw [hc6]; decide +kernel) (by rw [hc6]; decide +kernel) rfl ?_
    refine ev_aload_n (pc' := 105) rfl rfl rfl ?_
    refine ev_iload_n (pc' := 106) rfl rfl rfl ?_
    refine ev_iconst (pc' := 107) (b := (1 : Int32)) rfl rfl rfl ?_
    refine ev_iadd (pc' := 108) rfl rfl ?_
    refine am_bd h (fun q7 hq7 h => ?_)
    refine ev_call (mi := 61) (as := [.ref 22, .int (a1 + (1 : Int32))]) (rest := []) rfl rfl (Nat.le_of_ble_eq_true rfl) (fx_Text_readLastChoiceDay_e (d := d) hq7) ?_
    show am_Ev _ _ _ _ 111 _ _ _ _ _
    obtain rfl := Option.some.inj h
    exact ev_ireturn rfl rfl
  rcases am_if h with ⟨hc8, h⟩ | ⟨hc8, h⟩
  · refine ev_tsw (pc' := 96) (off := 91) rfl (by rw [hc8]; decide +kernel) (by rw [hc8]; decide +kernel) rfl ?_
    refine ev_aload_n (pc' := 97) rfl rfl rfl ?_
    refine ev_iload_n (pc' := 98) rfl rfl rfl ?_
    refine ev_iconst (pc' := 99) (b := (1 : Int32)) rfl rfl rfl ?_
    refine ev_iadd (pc' := 100) rfl rfl ?_
    refine am_bd h (fun q9 hq9 h => ?_)
    refine ev_call (mi := 80) (as := [.ref 22, .int (a1 + (1 : Int32))]) (rest := []) rfl rfl (Nat.le_of_ble_eq_true rfl) (fx_Text_readGrounds_e (d := d) hq9) ?_
    show am_Ev _ _ _ _ 103 _ _ _ _ _
    obtain rfl := Option.some.inj h
    exact ev_ireturn rfl rfl
  rcases am_if h with ⟨hc10, h⟩ | ⟨hc10, h⟩
  · refine ev_tsw (pc' := 112) (off := 107) rfl (by rw [hc10]; decide +kernel) (by rw [hc10]; decide +kernel) rfl ?_
    refine ev_aload_n (pc' := 113) rfl rfl rfl ?_
    refine ev_iload_n (pc' := 114) rfl rfl rfl ?_
    refine ev_iconst (pc' := 115) (b := (1 : Int32)) rfl rfl rfl ?_
    refine ev_iadd (pc' := 116) rfl rfl ?_
    refine am_bd h (fun q11 hq11 h => ?_)
    refine ev_call (mi := 62) (as := [.ref 22, .int (a1 + (1 : Int32))]) (rest := []) rfl rfl (Nat.le_of_ble_eq_true rfl) (fx_Text_readShare_e (d := d) hq11) ?_
    show am_Ev _ _ _ _ 119 _ _ _ _ _
    obtain rfl := Option.some.inj h
    exact ev_ireturn rfl rfl
  rcases am_if h with ⟨hc12, h⟩ | ⟨hc12, h⟩
  · refine ev_tsw (pc' := 136) (off := 131) rfl (by rw [hc12]; decide +kernel) (by rw [hc12]; decide +kernel) rfl ?_
    refine ev_aload_n (pc' := 137) rfl rfl rfl ?_
    refine ev_iload_n (pc' := 138) rfl rfl rfl ?_
    refine ev_iconst (pc' := 139) (b := (1 : Int32)) rfl rfl rfl ?_
    refine ev_iadd (pc' := 140) rfl rfl ?_
    refine am_bd h (fun q13 hq13 h => ?_)
    refine ev_call (mi := 65) (as := [.ref 22, .int (a1 + (1 : Int32))]) (rest := []) rfl rfl (Nat.le_of_ble_eq_true rfl) (fx_Text_readHours_e (d := d) hq13) ?_
    show am_Ev _ _ _ _ 143 _ _ _ _ _
    obtain rfl := Option.some.inj h
    exact ev_ireturn rfl rfl
  have hd14 : q1.toInt < 99 ∨ 117 < q1.toInt ∨ True := Or.inr (Or.inr trivial)
  have hk14 : ∀ (Lq Sq : List Value) (v : Option Value) (σ2 : am_S), am_Ev am_sh (am_exx X xs) (d + 3) mm_79 144 Lq Sq σ v σ2 → am_Ev am_sh (am_exx X xs) (d + 3) mm_79 5 Lq (.int q1 :: Sq) σ v σ2 := fun Lq Sq v σ2 hz => by
    by_cases hr : q1.toInt < 99 ∨ 117 < q1.toInt
    · exact ev_tsd rfl hr rfl hz
    · obtain ⟨j, hj, hx⟩ := am_rg 19 hr (by decide)
      rcases (show j = 0 ∨ j = 1 ∨ j = 2 ∨ j = 3 ∨ j = 4 ∨ j = 5 ∨ j = 6 ∨ j = 7 ∨ j = 8 ∨ j = 9 ∨ j = 10 ∨ j = 11 ∨ j = 12 ∨ j = 13 ∨ j = 14 ∨ j = 15 ∨ j = 16 ∨ j = 17 ∨ j = 18 by omega) with rfl | rfl | rfl | rfl | rfl | rfl | rfl | rfl | rfl | rfl | rfl | rfl | rfl | rfl | rfl | rfl | rfl | rfl | rfl
      · exact absurd (hx.trans (by decide +kernel)) hc2
      · exact absurd (hx.trans (by decide +kernel)) hc4
      · exact ev_tsw (off := 139) rfl hr (by rw [hx]; decide +kernel) rfl hz
      · exact ev_tsw (off := 139) rfl hr (by rw [hx]; decide +kernel) rfl hz
      · exact ev_tsw (off := 139) rfl hr (by rw [hx]; decide +kernel) rfl hz
      · exact ev_tsw (off := 139) rfl hr (by rw [hx]; decide +kernel) rfl hz
      · exact ev_tsw (off := 139) rfl hr (by rw [hx]; decide +kernel) rfl hz
      · exact ev_tsw (off := 139) rfl hr (by rw [hx]; decide +kernel) rfl hz
      · exact absurd (hx.trans (by decide +kernel)) hc6
      · exact ev_tsw (off := 139) rfl hr (by rw [hx]; decide +kernel) rfl hz
      · exact ev_tsw (off := 139) rfl hr (by rw [hx]; decide +kernel) rfl hz
      · exact ev_tsw (off := 139) rfl hr (by rw [hx]; decide +kernel) rfl hz
      · exact ev_tsw (off := 139) rfl hr (by rw [hx]; decide +kernel) rfl hz
      · exact absurd (hx.trans (by decide +kernel)) hc8
      · exact ev_tsw (off := 139) rfl hr (by rw [hx]; decide +kernel) rfl hz
      · exact ev_tsw (off := 139) rfl hr (by rw [hx]; decide +kernel) rfl hz
      · exact absurd (hx.trans (by decide +kernel)) hc10
      · exact ev_tsw (off := 139) rfl hr (by rw [hx]; decide +kernel) rfl hz
      · exact absurd (hx.trans (by decide +kernel)) hc12
  refine hk14 _ _ _ _ ?_
  refine ev_iload_n (pc' := 145) rfl rfl rfl ?_
  refine ev_call (mi := 71) (as := [.int a1]) (rest := []) rfl rfl (Nat.le_of_ble_eq_true rfl) (fx_Text_faultAt_e (d := d + 2) rfl) ?_
  show am_Ev _ _ _ _ 148 _ _ _ _ _
  obtain rfl := Option.some.inj h
  exact ev_ireturn rfl rfl
/-! PartedLand$Text.faultPlace ('I',): T -/
def fx_Text_faultPlace (a0 : Int32) (σ : am_S) : Int32 := ((-1 : Int32) - a0)
set_option maxRecDepth 100000 in
theorem fx_Text_faultPlace_e {X : Nat} {xs : Nat → Int32} {d : Nat} {a0 : Int32} {σ : am_S} {o : Int32} (h : fx_Text_faultPlace a0 σ = o) : am_Ev am_sh (am_exx X xs) (d + 0) mm_72 0 [.int a0] [] σ (some (.int o)) σ := by
  unfold fx_Text_faultPlace at h
  refine ev_iconst (pc' := 1) (b := (-1 : Int32)) rfl rfl rfl ?_
  refine ev_iload_n (pc' := 2) rfl rfl rfl ?_
  refine ev_isub (pc' := 3) rfl rfl ?_
  subst h
  exact ev_ireturn rfl rfl
/-! PartedLand$Text.readRows (22,): S -/
def fx_Text_readRows_b8 (N : Nat) : Nat → Int32 → Int32 → am_S → Option (Int32 × am_S)
  | 0, _, _, _ => none
  | n + 1, x1, x2, σ => (if (50 : Int32) ≤ x2 then some ((-1 : Int32), σ) else (if (σ 22 2) ≤ x1 then some ((-1 : Int32), σ) else (fx_Text_readRow N x1 σ).bind fun q3 => (if 0 ≤ q3.1 then fx_Text_readRows_b8 N n q3.1 (x2 + (1 : Int32)) q3.2 else some ((fx_Text_faultPlace q3.1 q3.2), q3.2))))
set_option maxRecDepth 100000 in
theorem fx_Text_readRows_b8_e {X : Nat} {xs : Nat → Int32} {d : Nat} {N : Nat} : ∀ {n : Nat} {x1 : Int32} {x2 : Int32} {w3 : Value} {σ : am_S} {o : Int32 × am_S}, fx_Text_readRows_b8 N n x1 x2 σ = some o → am_Ev am_sh (am_exx X xs) (d + 4) mm_78 8 [.ref 22, .int x1, .int x2, w3] [] σ (some (.int o.1)) o.2 := by
  intro n
  induction n with
  | zero => intro x1 x2 w3 σ o h; cases h
  | succ n ih =>
    intro x1 x2 w3 σ o h
    unfold fx_Text_readRows_b8 at h
    refine ev_iload_n (pc' := 9) rfl rfl rfl ?_
    refine ev_bipush (pc' := 11) (b := (50 : Int32)) rfl rfl rfl ?_
    rcases am_if h with ⟨hc1, h⟩ | ⟨hc1, h⟩
    · refine ev_ic_t (pc' := 45) rfl rfl (cb_ge_t hc1) ?_
      refine ev_iconst (pc' := 46) (b := (-1 : Int32)) rfl rfl rfl ?_
      obtain rfl := Option.some.inj h
      exact ev_ireturn rfl rfl
    · refine ev_ic_f (pc' := 14) rfl (by decide) rfl (cb_ge_f hc1) ?_
      refine ev_iload_n (pc' := 15) rfl rfl rfl ?_
      refine ev_aload_n (pc' := 16) rfl rfl rfl ?_
      refine ev_getfield (pc' := 19) (w := .int (σ 22 2)) rfl rfl rfl rfl ?_
      rcases am_if h with ⟨hc2, h⟩ | ⟨hc2, h⟩
      · refine ev_ic_t (pc' := 45) rfl rfl (cb_ge_t hc2) ?_
        refine ev_iconst (pc' := 46) (b := (-1 : Int32)) rfl rfl rfl ?_
        obtain rfl := Option.some.inj h
        exact ev_ireturn rfl rfl
      · refine ev_ic_f (pc' := 22) rfl (by decide) rfl (cb_ge_f hc2) ?_
        refine ev_aload_n (pc' := 23) rfl rfl rfl ?_
        refine ev_iload_n (pc' := 24) rfl rfl rfl ?_
        refine am_bd h (fun q3 hq3 h => ?_)
        refine ev_call (mi := 79) (as := [.ref 22, .int x1]) (rest := []) rfl rfl (Nat.le_of_ble_eq_true rfl) (fx_Text_readRow_e (d := d) hq3) ?_
        show am_Ev _ _ _ _ 27 _ _ _ _ _
        refine ev_istore_n (pc' := 28) (L' := [.ref 22, .int x1, .int x2, .int q3.1]) rfl rfl rfl rfl ?_
        refine ev_iload_n (pc' := 29) rfl rfl rfl ?_
        rcases am_if h with ⟨hc4, h⟩ | ⟨hc4, h⟩
        · refine ev_if_t (pc' := 37) rfl rfl (cb_ge_t hc4) ?_
          refine ev_iload_n (pc' := 38) rfl rfl rfl ?_
          refine ev_istore_n (pc' := 39) (L' := [.ref 22, .int q3.1, .int x2, .int q3.1]) rfl rfl rfl rfl ?_
          refine ev_iinc (pc' := 42) (L' := [.ref 22, .int q3.1, .int (x2 + (1 : Int32)), .int q3.1]) (b := (1 : Int32)) rfl rfl rfl rfl rfl ?_
          refine ev_goto (pc' := 8) rfl rfl ?_
          exact ih h
        · refine ev_if_f (pc' := 32) rfl (by decide) rfl (cb_ge_f hc4) ?_
          refine ev_iload_n (pc' := 33) rfl rfl rfl ?_
          refine ev_call (mi := 72) (as := [.int q3.1]) (rest := []) rfl rfl (Nat.le_of_ble_eq_true rfl) (fx_Text_faultPlace_e (d := d + 3) rfl) ?_
          show am_Ev _ _ _ _ 36 _ _ _ _ _
          obtain rfl := Option.some.inj h
          exact ev_ireturn rfl rfl
def fx_Text_readRows (N : Nat) (σ : am_S) : Option (Int32 × am_S) := (fx_Text_setDefaults σ).bind fun q1 => fx_Text_readRows_b8 N N (0 : Int32) (0 : Int32) q1
set_option maxRecDepth 100000 in
theorem fx_Text_readRows_e {X : Nat} {xs : Nat → Int32} {d : Nat} {N : Nat} {σ : am_S} {o : Int32 × am_S} (h : fx_Text_readRows N σ = some o) : am_Ev am_sh (am_exx X xs) (d + 4) mm_78 0 [.ref 22, .null, .null, .null] [] σ (some (.int o.1)) o.2 := by
  unfold fx_Text_readRows at h
  refine ev_aload_n (pc' := 1) rfl rfl rfl ?_
  refine am_bd h (fun q1 hq1 h => ?_)
  refine ev_call (mi := 73) (as := [.ref 22]) (rest := []) rfl rfl (Nat.le_of_ble_eq_true rfl) (fx_Text_setDefaults_e (d := d + 3) hq1) ?_
  show am_Ev _ _ _ _ 4 _ _ _ _ _
  refine ev_iconst (pc' := 5) (b := (0 : Int32)) rfl rfl rfl ?_
  refine ev_istore_n (pc' := 6) (L' := [.ref 22, .int (0 : Int32), .null, .null]) rfl rfl rfl rfl ?_
  refine ev_iconst (pc' := 7) (b := (0 : Int32)) rfl rfl rfl ?_
  refine ev_istore_n (pc' := 8) (L' := [.ref 22, .int (0 : Int32), .int (0 : Int32), .null]) rfl rfl rfl rfl ?_
  exact fx_Text_readRows_b8_e h
/-! PartedLand$Text.takeFrom (25, 22): S -/
def fx_Text_takeFrom (σ : am_S) : Option am_S := am_g (am_cpy am_sh 23 26 (0 : Int32) (0 : Int32) (50 : Int32)) <| am_g (am_cpy am_sh 24 27 (0 : Int32) (0 : Int32) (4 : Int32)) <| am_g (am_bo (σ 22 6)) <| some (am_up (am_up (am_up (am_up (am_up (am_up (am_up (am_set (am_set σ 26 (va_cpy (σ 23) (σ 26) (0 : Int32).toNatClampNeg (0 : Int32).toNatClampNeg (50 : Int32).toNatClampNeg)) 27 (va_cpy ((am_set σ 26 (va_cpy (σ 23) (σ 26) (0 : Int32).toNatClampNeg (0 : Int32).toNatClampNeg (50 : Int32).toNatClampNeg)) 24) ((am_set σ 26 (va_cpy (σ 23) (σ 26) (0 : Int32).toNatClampNeg (0 : Int32).toNatClampNeg (50 : Int32).toNatClampNeg)) 27) (0 : Int32).toNatClampNeg (0 : Int32).toNatClampNeg (4 : Int32).toNatClampNeg)) 25 2 (σ 22 2)) 25 3 (σ 22 3)) 25 4 (σ 22 4)) 25 5 (σ 22 5)) 25 6 (σ 22 6)) 25 7 (σ 22 7)) 25 8 (σ 22 8))
set_option maxRecDepth 100000 in
theorem fx_Text_takeFrom_e {X : Nat} {xs : Nat → Int32} {d : Nat} {σ : am_S} {o : am_S} (h : fx_Text_takeFrom σ = some o) : am_Ev am_sh (am_exx X xs) (d + 1) mm_75 0 [.ref 25, .ref 22] [] σ (none) o := by
  unfold fx_Text_takeFrom at h
  refine ev_aload_n (pc' := 1) rfl rfl rfl ?_
  refine ev_getfield (pc' := 4) (w := .ref 23) rfl rfl rfl rfl ?_
  refine ev_iconst (pc' := 5) (b := (0 : Int32)) rfl rfl rfl ?_
  refine ev_aload_n (pc' := 6) rfl rfl rfl ?_
  refine ev_getfield (pc' := 9) (w := .ref 26) rfl rfl rfl rfl ?_
  refine ev_iconst (pc' := 10) (b := (0 : Int32)) rfl rfl rfl ?_
  refine ev_bipush (pc' := 12) (b := (50 : Int32)) rfl rfl rfl ?_
  obtain ⟨hg1, h⟩ := am_g_some h
  refine ev_copy (pc' := 15) rfl rfl rfl rfl hg1 ?_
  refine ev_aload_n (pc' := 16) rfl rfl rfl ?_
  refine ev_getfield (pc' := 19) (w := .ref 24) rfl rfl rfl rfl ?_
  refine ev_iconst (pc' := 20) (b := (0 : Int32)) rfl rfl rfl ?_
  refine ev_aload_n (pc' := 21) rfl rfl rfl ?_
  refine ev_getfield (pc' := 24) (w := .ref 27) rfl rfl rfl rfl ?_
  refine ev_iconst (pc' := 25) (b := (0 : Int32)) rfl rfl rfl ?_
  refine ev_iconst (pc' := 26) (b := (4 : Int32)) rfl rfl rfl ?_
  obtain ⟨hg2, h⟩ := am_g_some h
  refine ev_copy (pc' := 29) rfl rfl rfl rfl hg2 ?_
  refine ev_aload_n (pc' := 30) rfl rfl rfl ?_
  refine ev_aload_n (pc' := 31) rfl rfl rfl ?_
  refine ev_getfield (pc' := 34) (w := .int (σ 22 2)) rfl rfl rfl rfl ?_
  refine ev_putfield (pc' := 37) (ci := 7) (f := 2) (z := 0) rfl rfl rfl rfl rfl ?_
  refine ev_aload_n (pc' := 38) rfl rfl rfl ?_
  refine ev_aload_n (pc' := 39) rfl rfl rfl ?_
  refine ev_getfield (pc' := 42) (w := .int (σ 22 3)) rfl rfl rfl rfl ?_
  refine ev_putfield (pc' := 45) (ci := 7) (f := 3) (z := 0) rfl rfl rfl rfl rfl ?_
  refine ev_aload_n (pc' := 46) rfl rfl rfl ?_
  refine ev_aload_n (pc' := 47) rfl rfl rfl ?_
  refine ev_getfield (pc' := 50) (w := .int (σ 22 4)) rfl rfl rfl rfl ?_
  refine ev_putfield (pc' := 53) (ci := 7) (f := 4) (z := 0) rfl rfl rfl rfl rfl ?_
  refine ev_aload_n (pc' := 54) rfl rfl rfl ?_
  refine ev_aload_n (pc' := 55) rfl rfl rfl ?_
  refine ev_getfield (pc' := 58) (w := .int (σ 22 5)) rfl rfl rfl rfl ?_
  refine ev_putfield (pc' := 61) (ci := 7) (f := 5) (z := 0) rfl rfl rfl rfl rfl ?_
  refine ev_aload_n (pc' := 62) rfl rfl rfl ?_
  refine ev_aload_n (pc' := 63) rfl rfl rfl ?_
  refine ev_getfield (pc' := 66) (w := .int (σ 22 6)) rfl rfl rfl rfl ?_
  obtain ⟨hg3, h⟩ := am_g_some h
  refine ev_putfield (pc' := 69) (ci := 7) (f := 6) (z := 1) rfl rfl rfl rfl (by rw [hg3]; rfl) ?_
  refine ev_aload_n (pc' := 70) rfl rfl rfl ?_
  refine ev_aload_n (pc' := 71) rfl rfl rfl ?_
  refine ev_getfield (pc' := 74) (w := .int (σ 22 7)) rfl rfl rfl rfl ?_
  refine ev_putfield (pc' := 77) (ci := 7) (f := 7) (z := 0) rfl rfl rfl rfl rfl ?_
  refine ev_aload_n (pc' := 78) rfl rfl rfl ?_
  refine ev_aload_n (pc' := 79) rfl rfl rfl ?_
  refine ev_getfield (pc' := 82) (w := .int (σ 22 8)) rfl rfl rfl rfl ?_
  refine ev_putfield (pc' := 85) (ci := 7) (f := 8) (z := 0) rfl rfl rfl rfl rfl ?_
  obtain rfl := Option.some.inj h
  exact ev_return rfl rfl
/-! PartedLand$Text.takeFrom (28, 22): S -/
def fx_Text_takeFrom_28_22 (σ : am_S) : Option am_S := am_g (am_cpy am_sh 23 29 (0 : Int32) (0 : Int32) (50 : Int32)) <| am_g (am_cpy am_sh 24 30 (0 : Int32) (0 : Int32) (4 : Int32)) <| am_g (am_bo (σ 22 6)) <| some (am_up (am_up (am_up (am_up (am_up (am_up (am_up (am_set (am_set σ 29 (va_cpy (σ 23) (σ 29) (0 : Int32).toNatClampNeg (0 : Int32).toNatClampNeg (50 : Int32).toNatClampNeg)) 30 (va_cpy ((am_set σ 29 (va_cpy (σ 23) (σ 29) (0 : Int32).toNatClampNeg (0 : Int32).toNatClampNeg (50 : Int32).toNatClampNeg)) 24) ((am_set σ 29 (va_cpy (σ 23) (σ 29) (0 : Int32).toNatClampNeg (0 : Int32).toNatClampNeg (50 : Int32).toNatClampNeg)) 30) (0 : Int32).toNatClampNeg (0 : Int32).toNatClampNeg (4 : Int32).toNatClampNeg)) 28 2 (σ 22 2)) 28 3 (σ 22 3)) 28 4 (σ 22 4)) 28 5 (σ 22 5)) 28 6 (σ 22 6)) 28 7 (σ 22 7)) 28 8 (σ 22 8))
set_option maxRecDepth 100000 in
theorem fx_Text_takeFrom_28_22_e {X : Nat} {xs : Nat → Int32} {d : Nat} {σ : am_S} {o : am_S} (h : fx_Text_takeFrom_28_22 σ = some o) : am_Ev am_sh (am_exx X xs) (d + 1) mm_75 0 [.ref 28, .ref 22] [] σ (none) o := by
  unfold fx_Text_takeFrom_28_22 at h
  refine ev_aload_n (pc' := 1) rfl rfl rfl ?_
  refine ev_getfield (pc' := 4) (w := .ref 23) rfl rfl rfl rfl ?_
  refine ev_iconst (pc' := 5) (b := (0 : Int32)) rfl rfl rfl ?_
  refine ev_aload_n (pc' := 6) rfl rfl rfl ?_
  refine ev_getfield (pc' := 9) (w := .ref 29) rfl rfl rfl rfl ?_
  refine ev_iconst (pc' := 10) (b := (0 : Int32)) rfl rfl rfl ?_
  refine ev_bipush (pc' := 12) (b := (50 : Int32)) rfl rfl rfl ?_
  obtain ⟨hg1, h⟩ := am_g_some h
  refine ev_copy (pc' := 15) rfl rfl rfl rfl hg1 ?_
  refine ev_aload_n (pc' := 16) rfl rfl rfl ?_
  refine ev_getfield (pc' := 19) (w := .ref 24) rfl rfl rfl rfl ?_
  refine ev_iconst (pc' := 20) (b := (0 : Int32)) rfl rfl rfl ?_
  refine ev_aload_n (pc' := 21) rfl rfl rfl ?_
  refine ev_getfield (pc' := 24) (w := .ref 30) rfl rfl rfl rfl ?_
  refine ev_iconst (pc' := 25) (b := (0 : Int32)) rfl rfl rfl ?_
  refine ev_iconst (pc' := 26) (b := (4 : Int32)) rfl rfl rfl ?_
  obtain ⟨hg2, h⟩ := am_g_some h
  refine ev_copy (pc' := 29) rfl rfl rfl rfl hg2 ?_
  refine ev_aload_n (pc' := 30) rfl rfl rfl ?_
  refine ev_aload_n (pc' := 31) rfl rfl rfl ?_
  refine ev_getfield (pc' := 34) (w := .int (σ 22 2)) rfl rfl rfl rfl ?_
  refine ev_putfield (pc' := 37) (ci := 7) (f := 2) (z := 0) rfl rfl rfl rfl rfl ?_
  refine ev_aload_n (pc' := 38) rfl rfl rfl ?_
  refine ev_aload_n (pc' := 39) rfl rfl rfl ?_
  refine ev_getfield (pc' := 42) (w := .int (σ 22 3)) rfl rfl rfl rfl ?_
  refine ev_putfield (pc' := 45) (ci := 7) (f := 3) (z := 0) rfl rfl rfl rfl rfl ?_
  refine ev_aload_n (pc' := 46) rfl rfl rfl ?_
  refine ev_aload_n (pc' := 47) rfl rfl rfl ?_
  refine ev_getfield (pc' := 50) (w := .int (σ 22 4)) rfl rfl rfl rfl ?_
  refine ev_putfield (pc' := 53) (ci := 7) (f := 4) (z := 0) rfl rfl rfl rfl rfl ?_
  refine ev_aload_n (pc' := 54) rfl rfl rfl ?_
  refine ev_aload_n (pc' := 55) rfl rfl rfl ?_
  refine ev_getfield (pc' := 58) (w := .int (σ 22 5)) rfl rfl rfl rfl ?_
  refine ev_putfield (pc' := 61) (ci := 7) (f := 5) (z := 0) rfl rfl rfl rfl rfl ?_
  refine ev_aload_n (pc' := 62) rfl rfl rfl ?_
  refine ev_aload_n (pc' := 63) rfl rfl rfl ?_
  refine ev_getfield (pc' := 66) (w := .int (σ 22 6)) rfl rfl rfl rfl ?_
  obtain ⟨hg3, h⟩ := am_g_some h
  refine ev_putfield (pc' := 69) (ci := 7) (f := 6) (z := 1) rfl rfl rfl rfl (by rw [hg3]; rfl) ?_
  refine ev_aload_n (pc' := 70) rfl rfl rfl ?_
  refine ev_aload_n (pc' := 71) rfl rfl rfl ?_
  refine ev_getfield (pc' := 74) (w := .int (σ 22 7)) rfl rfl rfl rfl ?_
  refine ev_putfield (pc' := 77) (ci := 7) (f := 7) (z := 0) rfl rfl rfl rfl rfl ?_
  refine ev_aload_n (pc' := 78) rfl rfl rfl ?_
  refine ev_aload_n (pc' := 79) rfl rfl rfl ?_
  refine ev_getfield (pc' := 82) (w := .int (σ 22 8)) rfl rfl rfl rfl ?_
  refine ev_putfield (pc' := 85) (ci := 7) (f := 8) (z := 0) rfl rfl rfl rfl rfl ?_
  obtain rfl := Option.some.inj h
  exact ev_return rfl rfl
/-! PartedLand$Houses.takeTape (21, 'I'): S -/
def fx_Houses_takeTape_b66 (N : Nat) (x2 : Int32) (σ : am_S) : Option (Int32 × am_S) := some (x2, (am_up σ 22 2 (0 : Int32)))
set_option maxRecDepth 100000 in
theorem fx_Houses_takeTape_b66_e {X : Nat} {xs : Nat → Int32} {d : Nat} {N : Nat} {x2 : Int32} {w1 : Value} {σ : am_S} {o : Int32 × am_S} (h : fx_Houses_takeTape_b66 N x2 σ = some o) : am_Ev am_sh (am_exx X xs) (d + 5) mm_14 66 [.ref 21, w1, .int x2] [] σ (some (.int o.1)) o.2 := by
  unfold fx_Houses_takeTape_b66 at h
  refine ev_aload_n (pc' := 67) rfl rfl rfl ?_
  refine ev_getfield (pc' := 70) (w := .ref 22) rfl rfl rfl rfl ?_
  refine ev_iconst (pc' := 71) (b := (0 : Int32)) rfl rfl rfl ?_
  refine ev_putfield (pc' := 74) (ci := 7) (f := 2) (z := 0) rfl rfl rfl rfl rfl ?_
  refine ev_iload_n (pc' := 75) rfl rfl rfl ?_
  obtain rfl := Option.some.inj h
  exact ev_ireturn rfl rfl
def fx_Houses_takeTape_b63 (N : Nat) (x2 : Int32) (s0 : Int32) (σ : am_S) : Option (Int32 × am_S) := am_g (am_bo s0) <| fx_Houses_takeTape_b66 N x2 (am_up σ 21 5 s0)
set_option maxRecDepth 100000 in
theorem fx_Houses_takeTape_b63_e {X : Nat} {xs : Nat → Int32} {d : Nat} {N : Nat} {x2 : Int32} {s0 : Int32} {w1 : Value} {σ : am_S} {o : Int32 × am_S} (h : fx_Houses_takeTape_b63 N x2 s0 σ = some o) : am_Ev am_sh (am_exx X xs) (d + 5) mm_14 63 [.ref 21, w1, .int x2] [.int s0, .ref 21] σ (some (.int o.1)) o.2 := by
  unfold fx_Houses_takeTape_b63 at h
  obtain ⟨hg1, h⟩ := am_g_some h
  refine ev_putfield (pc' := 66) (ci := 2) (f := 5) (z := 1) rfl rfl rfl rfl (by rw [hg1]; rfl) ?_
  exact fx_Houses_takeTape_b66_e h
def fx_Houses_takeTape_b58 (N : Nat) (x2 : Int32) (σ : am_S) : Option (Int32 × am_S) := fx_Houses_takeTape_b63 N x2 (1 : Int32) σ
set_option maxRecDepth 100000 in
theorem fx_Houses_takeTape_b58_e {X : Nat} {xs : Nat → Int32} {d : Nat} {N : Nat} {x2 : Int32} {w1 : Value} {σ : am_S} {o : Int32 × am_S} (h : fx_Houses_takeTape_b58 N x2 σ = some o) : am_Ev am_sh (am_exx X xs) (d + 5) mm_14 58 [.ref 21, w1, .int x2] [.ref 21] σ (some (.int o.1)) o.2 := by
  unfold fx_Houses_takeTape_b58 at h
  refine ev_iconst (pc' := 59) (b := (1 : Int32)) rfl rfl rfl ?_
  refine ev_goto (pc' := 63) rfl rfl ?_
  exact fx_Houses_takeTape_b63_e h
def fx_Houses_takeTape_b42 (N : Nat) (x1 : Int32) (x2 : Int32) (s0 : Int32) (σ : am_S) : Option (Int32 × am_S) := am_g (am_bo s0) <| (if (σ 21 5) = 0 then (if x1 = (1 : Int32) then fx_Houses_takeTape_b58 N x2 (am_up σ 21 4 s0) else fx_Houses_takeTape_b63 N x2 (0 : Int32) (am_up σ 21 4 s0)) else fx_Houses_takeTape_b58 N x2 (am_up σ 21 4 s0))
set_option maxRecDepth 100000 in
theorem fx_Houses_takeTape_b42_e {X : Nat} {xs : Nat → Int32} {d : Nat} {N : Nat} {x1 : Int32} {x2 : Int32} {s0 : Int32} {σ : am_S} {o : Int32 × am_S} (h : fx_Houses_takeTape_b42 N x1 x2 s0 σ = some o) : am_Ev am_sh (am_exx X xs) (d + 5) mm_14 42 [.ref 21, .int x1, .int x2] [.int s0, .ref 21] σ (some (.int o.1)) o.2 := by
  unfold fx_Houses_takeTape_b42 at h
  obtain ⟨hg1, h⟩ := am_g_some h
  refine ev_putfield (pc' := 45) (ci := 2) (f := 4) (z := 1) rfl rfl rfl rfl (by rw [hg1]; rfl) ?_
  refine ev_aload_n (pc' := 46) rfl rfl rfl ?_
  refine ev_aload_n (pc' := 47) rfl rfl rfl ?_
  refine ev_getfield (pc' := 50) (w := .int (σ 21 5)) rfl rfl rfl rfl ?_
  rcases am_if h with ⟨hc2, h⟩ | ⟨hc2, h⟩
  · refine ev_if_f (pc' := 53) rfl (by decide) rfl (cb_ne_f hc2) ?_
    refine ev_iload_n (pc' := 54) rfl rfl rfl ?_
    refine ev_iconst (pc' := 55) (b := (1 : Int32)) rfl rfl rfl ?_
    rcases am_if h with ⟨hc3, h⟩ | ⟨hc3, h⟩
    · refine ev_ic_f (pc' := 58) rfl (by decide) rfl (cb_ne_f hc3) ?_
      exact fx_Houses_takeTape_b58_e h
    · refine ev_ic_t (pc' := 62) rfl rfl (cb_ne_t hc3) ?_
      refine ev_iconst (pc' := 63) (b := (0 : Int32)) rfl rfl rfl ?_
      exact fx_Houses_takeTape_b63_e h
  · refine ev_if_t (pc' := 58) rfl rfl (cb_ne_t hc2) ?_
    exact fx_Houses_takeTape_b58_e h
def fx_Houses_takeTape_b37 (N : Nat) (x1 : Int32) (x2 : Int32) (σ : am_S) : Option (Int32 × am_S) := fx_Houses_takeTape_b42 N x1 x2 (1 : Int32) σ
set_option maxRecDepth 100000 in
theorem fx_Houses_takeTape_b37_e {X : Nat} {xs : Nat → Int32} {d : Nat} {N : Nat} {x1 : Int32} {x2 : Int32} {σ : am_S} {o : Int32 × am_S} (h : fx_Houses_takeTape_b37 N x1 x2 σ = some o) : am_Ev am_sh (am_exx X xs) (d + 5) mm_14 37 [.ref 21, .int x1, .int x2] [.ref 21] σ (some (.int o.1)) o.2 := by
  unfold fx_Houses_takeTape_b37 at h
  refine ev_iconst (pc' := 38) (b := (1 : Int32)) rfl rfl rfl ?_
  refine ev_goto (pc' := 42) rfl rfl ?_
  exact fx_Houses_takeTape_b42_e h
def fx_Houses_takeTape (N : Nat) (a1 : Int32) (σ : am_S) : Option (Int32 × am_S) := (fx_Text_readRows N σ).bind fun q1 => (if q1.1 = (-1 : Int32) then (if (fx_Houses_heldBy a1 q1.2) = 25 then (fx_Text_takeFrom q1.2).bind fun q4 => (if (q4 21 4) = 0 then (if a1 = 0 then fx_Houses_takeTape_b37 N a1 q1.1 q4 else fx_Houses_takeTape_b42 N a1 q1.1 (0 : Int32) q4) else fx_Houses_takeTape_b37 N a1 q1.1 q4) else (if (fx_Houses_heldBy a1 q1.2) = 28 then (fx_Text_takeFrom_28_22 q1.2).bind fun q8 => (if (q8 21 4) = 0 then (if a1 = 0 then fx_Houses_takeTape_b37 N a1 q1.1 q8 else fx_Houses_takeTape_b42 N a1 q1.1 (0 : Int32) q8) else fx_Houses_takeTape_b37 N a1 q1.1 q8) else none)) else fx_Houses_takeTape_b66 N q1.1 q1.2)
set_option maxRecDepth 100000 in
theorem fx_Houses_takeTape_e {X : Nat} {xs : Nat → Int32} {d : Nat} {N : Nat} {a1 : Int32} {σ : am_S} {o : Int32 × am_S} (h : fx_Houses_takeTape N a1 σ = some o) : am_Ev am_sh (am_exx X xs) (d + 5) mm_14 0 [.ref 21, .int a1, .null] [] σ (some (.int o.1)) o.2 := by
  unfold fx_Houses_takeTape at h
  refine ev_aload_n (pc' := 1) rfl rfl rfl ?_
  refine ev_getfield (pc' := 4) (w := .ref 22) rfl rfl rfl rfl ?_
  refine am_bd h (fun q1 hq1 h => ?_)
  refine ev_call (mi := 78) (as := [.ref 22]) (rest := []) rfl rfl (Nat.le_of_ble_eq_true rfl) (fx_Text_readRows_e (d := d) hq1) ?_
  show am_Ev _ _ _ _ 7 _ _ _ _ _
  refine ev_istore_n (pc' := 8) (L' := [.ref 21, .int a1, .int q1.1]) rfl rfl rfl rfl ?_
  refine ev_iload_n (pc' := 9) rfl rfl rfl ?_
  refine ev_iconst (pc' := 10) (b := (-1 : Int32)) rfl rfl rfl ?_
  rcases am_if h with ⟨hc2, h⟩ | ⟨hc2, h⟩
  · refine ev_ic_f (pc' := 13) rfl (by decide) rfl (cb_ne_f hc2) ?_
    refine ev_aload_n (pc' := 14) rfl rfl rfl ?_
    refine ev_iload_n (pc' := 15) rfl rfl rfl ?_
    refine ev_call (mi := 12) (as := [.ref 21, .int a1]) (rest := []) rfl rfl (Nat.le_of_ble_eq_true rfl) (fx_Houses_heldBy_e (d := d + 4) rfl) ?_
    show am_Ev _ _ _ _ 18 _ _ _ _ _
    refine ev_aload_n (pc' := 19) rfl rfl rfl ?_
    refine ev_getfield (pc' := 22) (w := .ref 22) rfl rfl rfl rfl ?_
    rcases am_if h with ⟨hc3, h⟩ | ⟨hc3, h⟩
    · rw [hc3]
      refine am_bd h (fun q4 hq4 h => ?_)
      refine ev_call (mi := 75) (as := [.ref 25, .ref 22]) (rest := []) rfl rfl (Nat.le_of_ble_eq_true rfl) (fx_Text_takeFrom_e (d := d + 3) hq4) ?_
      show am_Ev _ _ _ _ 25 _ _ _ _ _
      refine ev_aload_n (pc' := 26) rfl rfl rfl ?_
      refine ev_aload_n (pc' := 27) rfl rfl rfl ?_
      refine ev_getfield (pc' := 30) (w := .int (q4 21 4)) rfl rfl rfl rfl ?_
      rcases am_if h with ⟨hc5, h⟩ | ⟨hc5, h⟩
      · refine ev_if_f (pc' := 33) rfl (by decide) rfl (cb_ne_f hc5) ?_
        refine ev_iload_n (pc' := 34) rfl rfl rfl ?_
        rcases am_if h with ⟨hc6, h⟩ | ⟨hc6, h⟩
        · refine ev_if_f (pc' := 37) rfl (by decide) rfl (cb_ne_f hc6) ?_
          exact fx_Houses_takeTape_b37_e h
        · refine ev_if_t (pc' := 41) rfl rfl (cb_ne_t hc6) ?_
          refine ev_iconst (pc' := 42) (b := (0 : Int32)) rfl rfl rfl ?_
          exact fx_Houses_takeTape_b42_e h
      · refine ev_if_t (pc' := 37) rfl rfl (cb_ne_t hc5) ?_
        exact fx_Houses_takeTape_b37_e h
    rcases am_if h with ⟨hc7, h⟩ | ⟨hc7, h⟩
    · rw [hc7]
      refine am_bd h (fun q8 hq8 h => ?_)
      refine ev_call (mi := 75) (as := [.ref 28, .ref 22]) (rest := []) rfl rfl (Nat.le_of_ble_eq_true rfl) (fx_Text_takeFrom_28_22_e (d := d + 3) hq8) ?_
      show am_Ev _ _ _ _ 25 _ _ _ _ _
      refine ev_aload_n (pc' := 26) rfl rfl rfl ?_
      refine ev_aload_n (pc' := 27) rfl rfl rfl ?_
      refine ev_getfield (pc' := 30) (w := .int (q8 21 4)) rfl rfl rfl rfl ?_
      rcases am_if h with ⟨hc9, h⟩ | ⟨hc9, h⟩
      · refine ev_if_f (pc' := 33) rfl (by decide) rfl (cb_ne_f hc9) ?_
        refine ev_iload_n (pc' := 34) rfl rfl rfl ?_
        rcases am_if h with ⟨hc10, h⟩ | ⟨hc10, h⟩
        · refine ev_if_f (pc' := 37) rfl (by decide) rfl (cb_ne_f hc10) ?_
          exact fx_Houses_takeTape_b37_e h
        · refine ev_if_t (pc' := 41) rfl rfl (cb_ne_t hc10) ?_
          refine ev_iconst (pc' := 42) (b := (0 : Int32)) rfl rfl rfl ?_
          exact fx_Houses_takeTape_b42_e h
      · refine ev_if_t (pc' := 37) rfl rfl (cb_ne_t hc9) ?_
        exact fx_Houses_takeTape_b37_e h
    cases h
  · refine ev_ic_t (pc' := 66) rfl rfl (cb_ne_t hc2) ?_
    exact fx_Houses_takeTape_b66_e h
/-! PartedLand$Text.firstUnlike (25, 28): P -/
def fx_Text_firstUnlike_b14 (N : Nat) : Nat → Int32 → Int32 → am_S → Option Int32
  | 0, _, _, _ => none
  | n + 1, x2, x3, σ => (if x2 ≤ x3 then (if (σ 25 2) = (σ 28 2) then some (-1 : Int32) else some x2) else am_g (am_in x3 50) <| am_g (am_in x3 50) <| (if (σ 26 x3.toNatClampNeg) = (σ 29 x3.toNatClampNeg) then fx_Text_firstUnlike_b14 N n x2 (x3 + (1 : Int32)) σ else some x3))
set_option maxRecDepth 100000 in
theorem fx_Text_firstUnlike_b14_e {X : Nat} {xs : Nat → Int32} {d : Nat} {N : Nat} : ∀ {n : Nat} {x2 : Int32} {x3 : Int32} {σ : am_S} {o : Int32}, fx_Text_firstUnlike_b14 N n x2 x3 σ = some o → am_Ev am_sh (am_exx X xs) (d + 1) mm_77 14 [.ref 25, .ref 28, .int x2, .int x3] [] σ (some (.int o)) σ := by
  intro n
  induction n with
  | zero => intro x2 x3 σ o h; cases h
  | succ n ih =>
    intro x2 x3 σ o h
    unfold fx_Text_firstUnlike_b14 at h
    refine ev_iload_n (pc' := 15) rfl rfl rfl ?_
    refine ev_iload_n (pc' := 16) rfl rfl rfl ?_
    rcases am_if h with ⟨hc1, h⟩ | ⟨hc1, h⟩
    · refine ev_ic_t (pc' := 42) rfl rfl (cb_ge_t hc1) ?_
      refine ev_aload_n (pc' := 43) rfl rfl rfl ?_
      refine ev_getfield (pc' := 46) (w := .int (σ 25 2)) rfl rfl rfl rfl ?_
      refine ev_aload_n (pc' := 47) rfl rfl rfl ?_
      refine ev_getfield (pc' := 50) (w := .int (σ 28 2)) rfl rfl rfl rfl ?_
      rcases am_if h with ⟨hc2, h⟩ | ⟨hc2, h⟩
      · refine ev_ic_f (pc' := 53) rfl (by decide) rfl (cb_ne_f hc2) ?_
        refine ev_iconst (pc' := 54) (b := (-1 : Int32)) rfl rfl rfl ?_
        refine ev_goto (pc' := 58) rfl rfl ?_
        obtain rfl := Option.some.inj h
        exact ev_ireturn rfl rfl
      · refine ev_ic_t (pc' := 57) rfl rfl (cb_ne_t hc2) ?_
        refine ev_iload_n (pc' := 58) rfl rfl rfl ?_
        obtain rfl := Option.some.inj h
        exact ev_ireturn rfl rfl
    · refine ev_ic_f (pc' := 19) rfl (by decide) rfl (cb_ge_f hc1) ?_
      refine ev_aload_n (pc' := 20) rfl rfl rfl ?_
      refine ev_getfield (pc' := 23) (w := .ref 26) rfl rfl rfl rfl ?_
      refine ev_iload_n (pc' := 24) rfl rfl rfl ?_
      obtain ⟨hg3, h⟩ := am_g_some h
      refine ev_iaload (pc' := 25) rfl rfl rfl hg3 ?_
      refine ev_aload_n (pc' := 26) rfl rfl rfl ?_
      refine ev_getfield (pc' := 29) (w := .ref 29) rfl rfl rfl rfl ?_
      refine ev_iload_n (pc' := 30) rfl rfl rfl ?_
      obtain ⟨hg4, h⟩ := am_g_some h
      refine ev_iaload (pc' := 31) rfl rfl rfl hg4 ?_
      rcases am_if h with ⟨hc5, h⟩ | ⟨hc5, h⟩
      · refine ev_ic_t (pc' := 36) rfl rfl (cb_eq_t hc5) ?_
        refine ev_iinc (pc' := 39) (L' := [.ref 25, .ref 28, .int x2, .int (x3 + (1 : Int32))]) (b := (1 : Int32)) rfl rfl rfl rfl rfl ?_
        refine ev_goto (pc' := 14) rfl rfl ?_
        exact ih h
      · refine ev_ic_f (pc' := 34) rfl (by decide) rfl (cb_eq_f hc5) ?_
        refine ev_iload_n (pc' := 35) rfl rfl rfl ?_
        obtain rfl := Option.some.inj h
        exact ev_ireturn rfl rfl
def fx_Text_firstUnlike (N : Nat) (σ : am_S) : Option Int32 := fx_Text_firstUnlike_b14 N N (if (σ 28 2) < (σ 25 2) then (σ 28 2) else (σ 25 2)) (0 : Int32) σ
set_option maxRecDepth 100000 in
theorem fx_Text_firstUnlike_e {X : Nat} {xs : Nat → Int32} {d : Nat} {N : Nat} {σ : am_S} {o : Int32} (h : fx_Text_firstUnlike N σ = some o) : am_Ev am_sh (am_exx X xs) (d + 1) mm_77 0 [.ref 25, .ref 28, .null, .null] [] σ (some (.int o)) σ := by
  unfold fx_Text_firstUnlike at h
  refine ev_aload_n (pc' := 1) rfl rfl rfl ?_
  refine ev_getfield (pc' := 4) (w := .int (σ 25 2)) rfl rfl rfl rfl ?_
  refine ev_aload_n (pc' := 5) rfl rfl rfl ?_
  refine ev_getfield (pc' := 8) (w := .int (σ 28 2)) rfl rfl rfl rfl ?_
  refine ev_min (pc' := 11) rfl rfl rfl rfl ?_
  refine ev_istore_n (pc' := 12) (L' := [.ref 25, .ref 28, .int (if (σ 28 2) < (σ 25 2) then (σ 28 2) else (σ 25 2)), .null]) rfl rfl rfl rfl ?_
  refine ev_iconst (pc' := 13) (b := (0 : Int32)) rfl rfl rfl ?_
  refine ev_istore_n (pc' := 14) (L' := [.ref 25, .ref 28, .int (if (σ 28 2) < (σ 25 2) then (σ 28 2) else (σ 25 2)), .int (0 : Int32)]) rfl rfl rfl rfl ?_
  exact fx_Text_firstUnlike_b14_e h
/-! PartedLand$Text.isSameAs (25, 28): P -/
def fx_Text_isSameAs (N : Nat) (σ : am_S) : Option Int32 := (fx_Text_firstUnlike N σ).bind fun q1 => (if 0 ≤ q1 then some (0 : Int32) else some (1 : Int32))
set_option maxRecDepth 100000 in
theorem fx_Text_isSameAs_e {X : Nat} {xs : Nat → Int32} {d : Nat} {N : Nat} {σ : am_S} {o : Int32} (h : fx_Text_isSameAs N σ = some o) : am_Ev am_sh (am_exx X xs) (d + 2) mm_76 0 [.ref 25, .ref 28] [] σ (some (.int o)) σ := by
  unfold fx_Text_isSameAs at h
  refine ev_aload_n (pc' := 1) rfl rfl rfl ?_
  refine ev_aload_n (pc' := 2) rfl rfl rfl ?_
  refine am_bd h (fun q1 hq1 h => ?_)
  refine ev_call (mi := 77) (as := [.ref 25, .ref 28]) (rest := []) rfl rfl (Nat.le_of_ble_eq_true rfl) (fx_Text_firstUnlike_e (d := d) hq1) ?_
  show am_Ev _ _ _ _ 5 _ _ _ _ _
  rcases am_if h with ⟨hc2, h⟩ | ⟨hc2, h⟩
  · refine ev_if_t (pc' := 12) rfl rfl (cb_ge_t hc2) ?_
    refine ev_iconst (pc' := 13) (b := (0 : Int32)) rfl rfl rfl ?_
    obtain rfl := Option.some.inj h
    exact ev_zreturn rfl rfl rfl
  · refine ev_if_f (pc' := 8) rfl (by decide) rfl (cb_ge_f hc2) ?_
    refine ev_iconst (pc' := 9) (b := (1 : Int32)) rfl rfl rfl ?_
    refine ev_goto (pc' := 13) rfl rfl ?_
    obtain rfl := Option.some.inj h
    exact ev_zreturn rfl rfl rfl
/-! PartedLand$Text.firstUnlike (25, 31): P -/
def fx_Text_firstUnlike_25_31_b14 (N : Nat) : Nat → Int32 → Int32 → am_S → Option Int32
  | 0, _, _, _ => none
  | n + 1, x2, x3, σ => (if x2 ≤ x3 then (if (σ 25 2) = (σ 31 2) then some (-1 : Int32) else some x2) else am_g (am_in x3 50) <| am_g (am_in x3 50) <| (if (σ 26 x3.toNatClampNeg) = (σ 32 x3.toNatClampNeg) then fx_Text_firstUnlike_25_31_b14 N n x2 (x3 + (1 : Int32)) σ else some x3))
set_option maxRecDepth 100000 in
theorem fx_Text_firstUnlike_25_31_b14_e {X : Nat} {xs : Nat → Int32} {d : Nat} {N : Nat} : ∀ {n : Nat} {x2 : Int32} {x3 : Int32} {σ : am_S} {o : Int32}, fx_Text_firstUnlike_25_31_b14 N n x2 x3 σ = some o → am_Ev am_sh (am_exx X xs) (d + 1) mm_77 14 [.ref 25, .ref 31, .int x2, .int x3] [] σ (some (.int o)) σ := by
  intro n
  induction n with
  | zero => intro x2 x3 σ o h; cases h
  | succ n ih =>
    intro x2 x3 σ o h
    unfold fx_Text_firstUnlike_25_31_b14 at h
    refine ev_iload_n (pc' := 15) rfl rfl rfl ?_
    refine ev_iload_n (pc' := 16) rfl rfl rfl ?_
    rcases am_if h with ⟨hc1, h⟩ | ⟨hc1, h⟩
    · refine ev_ic_t (pc' := 42) rfl rfl (cb_ge_t hc1) ?_
      refine ev_aload_n (pc' := 43) rfl rfl rfl ?_
      refine ev_getfield (pc' := 46) (w := .int (σ 25 2)) rfl rfl rfl rfl ?_
      refine ev_aload_n (pc' := 47) rfl rfl rfl ?_
      refine ev_getfield (pc' := 50) (w := .int (σ 31 2)) rfl rfl rfl rfl ?_
      rcases am_if h with ⟨hc2, h⟩ | ⟨hc2, h⟩
      · refine ev_ic_f (pc' := 53) rfl (by decide) rfl (cb_ne_f hc2) ?_
        refine ev_iconst (pc' := 54) (b := (-1 : Int32)) rfl rfl rfl ?_
        refine ev_goto (pc' := 58) rfl rfl ?_
        obtain rfl := Option.some.inj h
        exact ev_ireturn rfl rfl
      · refine ev_ic_t (pc' := 57) rfl rfl (cb_ne_t hc2) ?_
        refine ev_iload_n (pc' := 58) rfl rfl rfl ?_
        obtain rfl := Option.some.inj h
        exact ev_ireturn rfl rfl
    · refine ev_ic_f (pc' := 19) rfl (by decide) rfl (cb_ge_f hc1) ?_
      refine ev_aload_n (pc' := 20) rfl rfl rfl ?_
      refine ev_getfield (pc' := 23) (w := .ref 26) rfl rfl rfl rfl ?_
      refine ev_iload_n (pc' := 24) rfl rfl rfl ?_
      obtain ⟨hg3, h⟩ := am_g_some h
      refine ev_iaload (pc' := 25) rfl rfl rfl hg3 ?_
      refine ev_aload_n (pc' := 26) rfl rfl rfl ?_
      refine ev_getfield (pc' := 29) (w := .ref 32) rfl rfl rfl rfl ?_
      refine ev_iload_n (pc' := 30) rfl rfl rfl ?_
      obtain ⟨hg4, h⟩ := am_g_some h
      refine ev_iaload (pc' := 31) rfl rfl rfl hg4 ?_
      rcases am_if h with ⟨hc5, h⟩ | ⟨hc5, h⟩
      · refine ev_ic_t (pc' := 36) rfl rfl (cb_eq_t hc5) ?_
        refine ev_iinc (pc' := 39) (L' := [.ref 25, .ref 31, .int x2, .int (x3 + (1 : Int32))]) (b := (1 : Int32)) rfl rfl rfl rfl rfl ?_
        refine ev_goto (pc' := 14) rfl rfl ?_
        exact ih h
      · refine ev_ic_f (pc' := 34) rfl (by decide) rfl (cb_eq_f hc5) ?_
        refine ev_iload_n (pc' := 35) rfl rfl rfl ?_
        obtain rfl := Option.some.inj h
        exact ev_ireturn rfl rfl
def fx_Text_firstUnlike_25_31 (N : Nat) (σ : am_S) : Option Int32 := fx_Text_firstUnlike_25_31_b14 N N (if (σ 31 2) < (σ 25 2) then (σ 31 2) else (σ 25 2)) (0 : Int32) σ
set_option maxRecDepth 100000 in
theorem fx_Text_firstUnlike_25_31_e {X : Nat} {xs : Nat → Int32} {d : Nat} {N : Nat} {σ : am_S} {o : Int32} (h : fx_Text_firstUnlike_25_31 N σ = some o) : am_Ev am_sh (am_exx X xs) (d + 1) mm_77 0 [.ref 25, .ref 31, .null, .null] [] σ (some (.int o)) σ := by
  unfold fx_Text_firstUnlike_25_31 at h
  refine ev_aload_n (pc' := 1) rfl rfl rfl ?_
  refine ev_getfield (pc' := 4) (w := .int (σ 25 2)) rfl rfl rfl rfl ?_
  refine ev_aload_n (pc' := 5) rfl rfl rfl ?_
  refine ev_getfield (pc' := 8) (w := .int (σ 31 2)) rfl rfl rfl rfl ?_
  refine ev_min (pc' := 11) rfl rfl rfl rfl ?_
  refine ev_istore_n (pc' := 12) (L' := [.ref 25, .ref 31, .int (if (σ 31 2) < (σ 25 2) then (σ 31 2) else (σ 25 2)), .null]) rfl rfl rfl rfl ?_
  refine ev_iconst (pc' := 13) (b := (0 : Int32)) rfl rfl rfl ?_
  refine ev_istore_n (pc' := 14) (L' := [.ref 25, .ref 31, .int (if (σ 31 2) < (σ 25 2) then (σ 31 2) else (σ 25 2)), .int (0 : Int32)]) rfl rfl rfl rfl ?_
  exact fx_Text_firstUnlike_25_31_b14_e h
/-! PartedLand$Text.isSameAs (25, 31): P -/
def fx_Text_isSameAs_25_31 (N : Nat) (σ : am_S) : Option Int32 := (fx_Text_firstUnlike_25_31 N σ).bind fun q1 => (if 0 ≤ q1 then some (0 : Int32) else some (1 : Int32))
set_option maxRecDepth 100000 in
theorem fx_Text_isSameAs_25_31_e {X : Nat} {xs : Nat → Int32} {d : Nat} {N : Nat} {σ : am_S} {o : Int32} (h : fx_Text_isSameAs_25_31 N σ = some o) : am_Ev am_sh (am_exx X xs) (d + 2) mm_76 0 [.ref 25, .ref 31] [] σ (some (.int o)) σ := by
  unfold fx_Text_isSameAs_25_31 at h
  refine ev_aload_n (pc' := 1) rfl rfl rfl ?_
  refine ev_aload_n (pc' := 2) rfl rfl rfl ?_
  refine am_bd h (fun q1 hq1 h => ?_)
  refine ev_call (mi := 77) (as := [.ref 25, .ref 31]) (rest := []) rfl rfl (Nat.le_of_ble_eq_true rfl) (fx_Text_firstUnlike_25_31_e (d := d) hq1) ?_
  show am_Ev _ _ _ _ 5 _ _ _ _ _
  rcases am_if h with ⟨hc2, h⟩ | ⟨hc2, h⟩
  · refine ev_if_t (pc' := 12) rfl rfl (cb_ge_t hc2) ?_
    refine ev_iconst (pc' := 13) (b := (0 : Int32)) rfl rfl rfl ?_
    obtain rfl := Option.some.inj h
    exact ev_zreturn rfl rfl rfl
  · refine ev_if_f (pc' := 8) rfl (by decide) rfl (cb_ge_f hc2) ?_
    refine ev_iconst (pc' := 9) (b := (1 : Int32)) rfl rfl rfl ?_
    refine ev_goto (pc' := 13) rfl rfl ?_
    obtain rfl := Option.some.inj h
    exact ev_zreturn rfl rfl rfl
/-! PartedLand$Text.takeFrom (31, 25): S -/
def fx_Text_takeFrom_31_25 (σ : am_S) : Option am_S := am_g (am_cpy am_sh 26 32 (0 : Int32) (0 : Int32) (50 : Int32)) <| am_g (am_cpy am_sh 27 33 (0 : Int32) (0 : Int32) (4 : Int32)) <| am_g (am_bo (σ 25 6)) <| some (am_up (am_up (am_up (am_up (am_up (am_up (am_up (am_set (am_set σ 32 (va_cpy (σ 26) (σ 32) (0 : Int32).toNatClampNeg (0 : Int32).toNatClampNeg (50 : Int32).toNatClampNeg)) 33 (va_cpy ((am_set σ 32 (va_cpy (σ 26) (σ 32) (0 : Int32).toNatClampNeg (0 : Int32).toNatClampNeg (50 : Int32).toNatClampNeg)) 27) ((am_set σ 32 (va_cpy (σ 26) (σ 32) (0 : Int32).toNatClampNeg (0 : Int32).toNatClampNeg (50 : Int32).toNatClampNeg)) 33) (0 : Int32).toNatClampNeg (0 : Int32).toNatClampNeg (4 : Int32).toNatClampNeg)) 31 2 (σ 25 2)) 31 3 (σ 25 3)) 31 4 (σ 25 4)) 31 5 (σ 25 5)) 31 6 (σ 25 6)) 31 7 (σ 25 7)) 31 8 (σ 25 8))
set_option maxRecDepth 100000 in
theorem fx_Text_takeFrom_31_25_e {X : Nat} {xs : Nat → Int32} {d : Nat} {σ : am_S} {o : am_S} (h : fx_Text_takeFrom_31_25 σ = some o) : am_Ev am_sh (am_exx X xs) (d + 1) mm_75 0 [.ref 31, .ref 25] [] σ (none) o := by
  unfold fx_Text_takeFrom_31_25 at h
  refine ev_aload_n (pc' := 1) rfl rfl rfl ?_
  refine ev_getfield (pc' := 4) (w := .ref 26) rfl rfl rfl rfl ?_
  refine ev_iconst (pc' := 5) (b := (0 : Int32)) rfl rfl rfl ?_
  refine ev_aload_n (pc' := 6) rfl rfl rfl ?_
  refine ev_getfield (pc' := 9) (w := .ref 32) rfl rfl rfl rfl ?_
  refine ev_iconst (pc' := 10) (b := (0 : Int32)) rfl rfl rfl ?_
  refine ev_bipush (pc' := 12) (b := (50 : Int32)) rfl rfl rfl ?_
  obtain ⟨hg1, h⟩ := am_g_some h
  refine ev_copy (pc' := 15) rfl rfl rfl rfl hg1 ?_
  refine ev_aload_n (pc' := 16) rfl rfl rfl ?_
  refine ev_getfield (pc' := 19) (w := .ref 27) rfl rfl rfl rfl ?_
  refine ev_iconst (pc' := 20) (b := (0 : Int32)) rfl rfl rfl ?_
  refine ev_aload_n (pc' := 21) rfl rfl rfl ?_
  refine ev_getfield (pc' := 24) (w := .ref 33) rfl rfl rfl rfl ?_
  refine ev_iconst (pc' := 25) (b := (0 : Int32)) rfl rfl rfl ?_
  refine ev_iconst (pc' := 26) (b := (4 : Int32)) rfl rfl rfl ?_
  obtain ⟨hg2, h⟩ := am_g_some h
  refine ev_copy (pc' := 29) rfl rfl rfl rfl hg2 ?_
  refine ev_aload_n (pc' := 30) rfl rfl rfl ?_
  refine ev_aload_n (pc' := 31) rfl rfl rfl ?_
  refine ev_getfield (pc' := 34) (w := .int (σ 25 2)) rfl rfl rfl rfl ?_
  refine ev_putfield (pc' := 37) (ci := 7) (f := 2) (z := 0) rfl rfl rfl rfl rfl ?_
  refine ev_aload_n (pc' := 38) rfl rfl rfl ?_
  refine ev_aload_n (pc' := 39) rfl rfl rfl ?_
  refine ev_getfield (pc' := 42) (w := .int (σ 25 3)) rfl rfl rfl rfl ?_
  refine ev_putfield (pc' := 45) (ci := 7) (f := 3) (z := 0) rfl rfl rfl rfl rfl ?_
  refine ev_aload_n (pc' := 46) rfl rfl rfl ?_
  refine ev_aload_n (pc' := 47) rfl rfl rfl ?_
  refine ev_getfield (pc' := 50) (w := .int (σ 25 4)) rfl rfl rfl rfl ?_
  refine ev_putfield (pc' := 53) (ci := 7) (f := 4) (z := 0) rfl rfl rfl rfl rfl ?_
  refine ev_aload_n (pc' := 54) rfl rfl rfl ?_
  refine ev_aload_n (pc' := 55) rfl rfl rfl ?_
  refine ev_getfield (pc' := 58) (w := .int (σ 25 5)) rfl rfl rfl rfl ?_
  refine ev_putfield (pc' := 61) (ci := 7) (f := 5) (z := 0) rfl rfl rfl rfl rfl ?_
  refine ev_aload_n (pc' := 62) rfl rfl rfl ?_
  refine ev_aload_n (pc' := 63) rfl rfl rfl ?_
  refine ev_getfield (pc' := 66) (w := .int (σ 25 6)) rfl rfl rfl rfl ?_
  obtain ⟨hg3, h⟩ := am_g_some h
  refine ev_putfield (pc' := 69) (ci := 7) (f := 6) (z := 1) rfl rfl rfl rfl (by rw [hg3]; rfl) ?_
  refine ev_aload_n (pc' := 70) rfl rfl rfl ?_
  refine ev_aload_n (pc' := 71) rfl rfl rfl ?_
  refine ev_getfield (pc' := 74) (w := .int (σ 25 7)) rfl rfl rfl rfl ?_
  refine ev_putfield (pc' := 77) (ci := 7) (f := 7) (z := 0) rfl rfl rfl rfl rfl ?_
  refine ev_aload_n (pc' := 78) rfl rfl rfl ?_
  refine ev_aload_n (pc' := 79) rfl rfl rfl ?_
  refine ev_getfield (pc' := 82) (w := .int (σ 25 8)) rfl rfl rfl rfl ?_
  refine ev_putfield (pc' := 85) (ci := 7) (f := 8) (z := 0) rfl rfl rfl rfl rfl ?_
  obtain rfl := Option.some.inj h
  exact ev_return rfl rfl
/-! PartedLand$Houses.enactFrom (21, 'I'): S -/
def fx_Houses_enactFrom (N : Nat) (a1 : Int32) (σ : am_S) : Option (Int32 × am_S) := (if (σ 21 4) = 0 then some ((0 : Int32), σ) else (if (σ 21 5) = 0 then some ((0 : Int32), σ) else (fx_Text_isSameAs N σ).bind fun q3 => (if q3 = 0 then some ((0 : Int32), σ) else (fx_Text_isSameAs_25_31 N σ).bind fun q5 => (if q5 = 0 then (fx_Text_takeFrom_31_25 σ).bind fun q7 => some ((1 : Int32), (am_up q7 21 6 a1)) else some ((0 : Int32), σ)))))
set_option maxRecDepth 100000 in
theorem fx_Houses_enactFrom_e {X : Nat} {xs : Nat → Int32} {d : Nat} {N : Nat} {a1 : Int32} {σ : am_S} {o : Int32 × am_S} (h : fx_Houses_enactFrom N a1 σ = some o) : am_Ev am_sh (am_exx X xs) (d + 3) mm_15 0 [.ref 21, .int a1] [] σ (some (.int o.1)) o.2 := by
  unfold fx_Houses_enactFrom at h
  refine ev_aload_n (pc' := 1) rfl rfl rfl ?_
  refine ev_getfield (pc' := 4) (w := .int (σ 21 4)) rfl rfl rfl rfl ?_
  rcases am_if h with ⟨hc1, h⟩ | ⟨hc1, h⟩
  · refine ev_if_t (pc' := 42) rfl rfl (cb_eq_t hc1) ?_
    refine ev_iconst (pc' := 43) (b := (0 : Int32)) rfl rfl rfl ?_
    obtain rfl := Option.some.inj h
    exact ev_zreturn rfl rfl rfl
  · refine ev_if_f (pc' := 7) rfl (by decide) rfl (cb_eq_f hc1) ?_
    refine ev_aload_n (pc' := 8) rfl rfl rfl ?_
    refine ev_getfield (pc' := 11) (w := .int (σ 21 5)) rfl rfl rfl rfl ?_
    rcases am_if h with ⟨hc2, h⟩ | ⟨hc2, h⟩
    · refine ev_if_t (pc' := 42) rfl rfl (cb_eq_t hc2) ?_
      refine ev_iconst (pc' := 43) (b := (0 : Int32)) rfl rfl rfl ?_
      obtain rfl := Option.some.inj h
      exact ev_zreturn rfl rfl rfl
    · refine ev_if_f (pc' := 14) rfl (by decide) rfl (cb_eq_f hc2) ?_
      refine ev_aload_n (pc' := 15) rfl rfl rfl ?_
      refine ev_getfield (pc' := 18) (w := .ref 25) rfl rfl rfl rfl ?_
      refine ev_aload_n (pc' := 19) rfl rfl rfl ?_
      refine ev_getfield (pc' := 22) (w := .ref 28) rfl rfl rfl rfl ?_
      refine am_bd h (fun q3 hq3 h => ?_)
      refine ev_call (mi := 76) (as := [.ref 25, .ref 28]) (rest := []) rfl rfl (Nat.le_of_ble_eq_true rfl) (fx_Text_isSameAs_e (d := d) hq3) ?_
      show am_Ev _ _ _ _ 25 _ _ _ _ _
      rcases am_if h with ⟨hc4, h⟩ | ⟨hc4, h⟩
      · refine ev_if_t (pc' := 42) rfl rfl (cb_eq_t hc4) ?_
        refine ev_iconst (pc' := 43) (b := (0 : Int32)) rfl rfl rfl ?_
        obtain rfl := Option.some.inj h
        exact ev_zreturn rfl rfl rfl
      · refine ev_if_f (pc' := 28) rfl (by decide) rfl (cb_eq_f hc4) ?_
        refine ev_aload_n (pc' := 29) rfl rfl rfl ?_
        refine ev_getfield (pc' := 32) (w := .ref 25) rfl rfl rfl rfl ?_
        refine ev_aload_n (pc' := 33) rfl rfl rfl ?_
        refine ev_getfield (pc' := 36) (w := .ref 31) rfl rfl rfl rfl ?_
        refine am_bd h (fun q5 hq5 h => ?_)
        refine ev_call (mi := 76) (as := [.ref 25, .ref 31]) (rest := []) rfl rfl (Nat.le_of_ble_eq_true rfl) (fx_Text_isSameAs_25_31_e (d := d) hq5) ?_
        show am_Ev _ _ _ _ 39 _ _ _ _ _
        rcases am_if h with ⟨hc6, h⟩ | ⟨hc6, h⟩
        · refine ev_if_t (pc' := 44) rfl rfl (cb_eq_t hc6) ?_
          refine ev_aload_n (pc' := 45) rfl rfl rfl ?_
          refine ev_getfield (pc' := 48) (w := .ref 31) rfl rfl rfl rfl ?_
          refine ev_aload_n (pc' := 49) rfl rfl rfl ?_
          refine ev_getfield (pc' := 52) (w := .ref 25) rfl rfl rfl rfl ?_
          refine am_bd h (fun q7 hq7 h => ?_)
          refine ev_call (mi := 75) (as := [.ref 31, .ref 25]) (rest := []) rfl rfl (Nat.le_of_ble_eq_true rfl) (fx_Text_takeFrom_31_25_e (d := d + 1) hq7) ?_
          show am_Ev _ _ _ _ 55 _ _ _ _ _
          refine ev_aload_n (pc' := 56) rfl rfl rfl ?_
          refine ev_iload_n (pc' := 57) rfl rfl rfl ?_
          refine ev_putfield (pc' := 60) (ci := 2) (f := 6) (z := 0) rfl rfl rfl rfl rfl ?_
          refine ev_iconst (pc' := 61) (b := (1 : Int32)) rfl rfl rfl ?_
          obtain rfl := Option.some.inj h
          exact ev_zreturn rfl rfl rfl
        · refine ev_if_f (pc' := 42) rfl (by decide) rfl (cb_eq_f hc6) ?_
          refine ev_iconst (pc' := 43) (b := (0 : Int32)) rfl rfl rfl ?_
          obtain rfl := Option.some.inj h
          exact ev_zreturn rfl rfl rfl
/-! PartedLand$Parting.forgetAll (41,): S -/
def fx_Parting_forgetAll (σ : am_S) : Option am_S := some (am_up σ 41 5 (0 : Int32))
set_option maxRecDepth 100000 in
theorem fx_Parting_forgetAll_e {X : Nat} {xs : Nat → Int32} {d : Nat} {σ : am_S} {o : am_S} (h : fx_Parting_forgetAll σ = some o) : am_Ev am_sh (am_exx X xs) (d + 0) mm_34 0 [.ref 41] [] σ (none) o := by
  unfold fx_Parting_forgetAll at h
  refine ev_aload_n (pc' := 1) rfl rfl rfl ?_
  refine ev_iconst (pc' := 2) (b := (0 : Int32)) rfl rfl rfl ?_
  refine ev_putfield (pc' := 5) (ci := 4) (f := 5) (z := 1) rfl rfl rfl rfl rfl ?_
  obtain rfl := Option.some.inj h
  exact ev_return rfl rfl
/-! PartedLand$Text.firstUnlike (31, 25): P -/
def fx_Text_firstUnlike_31_25_b14 (N : Nat) : Nat → Int32 → Int32 → am_S → Option Int32
  | 0, _, _, _ => none
  | n + 1, x2, x3, σ => (if x2 ≤ x3 then (if (σ 31 2) = (σ 25 2) then some (-1 : Int32) else some x2) else am_g (am_in x3 50) <| am_g (am_in x3 50) <| (if (σ 32 x3.toNatClampNeg) = (σ 26 x3.toNatClampNeg) then fx_Text_firstUnlike_31_25_b14 N n x2 (x3 + (1 : Int32)) σ else some x3))
set_option maxRecDepth 100000 in
theorem fx_Text_firstUnlike_31_25_b14_e {X : Nat} {xs : Nat → Int32} {d : Nat} {N : Nat} : ∀ {n : Nat} {x2 : Int32} {x3 : Int32} {σ : am_S} {o : Int32}, fx_Text_firstUnlike_31_25_b14 N n x2 x3 σ = some o → am_Ev am_sh (am_exx X xs) (d + 1) mm_77 14 [.ref 31, .ref 25, .int x2, .int x3] [] σ (some (.int o)) σ := by
  intro n
  induction n with
  | zero => intro x2 x3 σ o h; cases h
  | succ n ih =>
    intro x2 x3 σ o h
    unfold fx_Text_firstUnlike_31_25_b14 at h
    refine ev_iload_n (pc' := 15) rfl rfl rfl ?_
    refine ev_iload_n (pc' := 16) rfl rfl rfl ?_
    rcases am_if h with ⟨hc1, h⟩ | ⟨hc1, h⟩
    · refine ev_ic_t (pc' := 42) rfl rfl (cb_ge_t hc1) ?_
      refine ev_aload_n (pc' := 43) rfl rfl rfl ?_
      refine ev_getfield (pc' := 46) (w := .int (σ 31 2)) rfl rfl rfl rfl ?_
      refine ev_aload_n (pc' := 47) rfl rfl rfl ?_
      refine ev_getfield (pc' := 50) (w := .int (σ 25 2)) rfl rfl rfl rfl ?_
      rcases am_if h with ⟨hc2, h⟩ | ⟨hc2, h⟩
      · refine ev_ic_f (pc' := 53) rfl (by decide) rfl (cb_ne_f hc2) ?_
        refine ev_iconst (pc' := 54) (b := (-1 : Int32)) rfl rfl rfl ?_
        refine ev_goto (pc' := 58) rfl rfl ?_
        obtain rfl := Option.some.inj h
        exact ev_ireturn rfl rfl
      · refine ev_ic_t (pc' := 57) rfl rfl (cb_ne_t hc2) ?_
        refine ev_iload_n (pc' := 58) rfl rfl rfl ?_
        obtain rfl := Option.some.inj h
        exact ev_ireturn rfl rfl
    · refine ev_ic_f (pc' := 19) rfl (by decide) rfl (cb_ge_f hc1) ?_
      refine ev_aload_n (pc' := 20) rfl rfl rfl ?_
      refine ev_getfield (pc' := 23) (w := .ref 32) rfl rfl rfl rfl ?_
      refine ev_iload_n (pc' := 24) rfl rfl rfl ?_
      obtain ⟨hg3, h⟩ := am_g_some h
      refine ev_iaload (pc' := 25) rfl rfl rfl hg3 ?_
      refine ev_aload_n (pc' := 26) rfl rfl rfl ?_
      refine ev_getfield (pc' := 29) (w := .ref 26) rfl rfl rfl rfl ?_
      refine ev_iload_n (pc' := 30) rfl rfl rfl ?_
      obtain ⟨hg4, h⟩ := am_g_some h
      refine ev_iaload (pc' := 31) rfl rfl rfl hg4 ?_
      rcases am_if h with ⟨hc5, h⟩ | ⟨hc5, h⟩
      · refine ev_ic_t (pc' := 36) rfl rfl (cb_eq_t hc5) ?_
        refine ev_iinc (pc' := 39) (L' := [.ref 31, .ref 25, .int x2, .int (x3 + (1 : Int32))]) (b := (1 : Int32)) rfl rfl rfl rfl rfl ?_
        refine ev_goto (pc' := 14) rfl rfl ?_
        exact ih h
      · refine ev_ic_f (pc' := 34) rfl (by decide) rfl (cb_eq_f hc5) ?_
        refine ev_iload_n (pc' := 35) rfl rfl rfl ?_
        obtain rfl := Option.some.inj h
        exact ev_ireturn rfl rfl
def fx_Text_firstUnlike_31_25 (N : Nat) (σ : am_S) : Option Int32 := fx_Text_firstUnlike_31_25_b14 N N (if (σ 25 2) < (σ 31 2) then (σ 25 2) else (σ 31 2)) (0 : Int32) σ
set_option maxRecDepth 100000 in
theorem fx_Text_firstUnlike_31_25_e {X : Nat} {xs : Nat → Int32} {d : Nat} {N : Nat} {σ : am_S} {o : Int32} (h : fx_Text_firstUnlike_31_25 N σ = some o) : am_Ev am_sh (am_exx X xs) (d + 1) mm_77 0 [.ref 31, .ref 25, .null, .null] [] σ (some (.int o)) σ := by
  unfold fx_Text_firstUnlike_31_25 at h
  refine ev_aload_n (pc' := 1) rfl rfl rfl ?_
  refine ev_getfield (pc' := 4) (w := .int (σ 31 2)) rfl rfl rfl rfl ?_
  refine ev_aload_n (pc' := 5) rfl rfl rfl ?_
  refine ev_getfield (pc' := 8) (w := .int (σ 25 2)) rfl rfl rfl rfl ?_
  refine ev_min (pc' := 11) rfl rfl rfl rfl ?_
  refine ev_istore_n (pc' := 12) (L' := [.ref 31, .ref 25, .int (if (σ 25 2) < (σ 31 2) then (σ 25 2) else (σ 31 2)), .null]) rfl rfl rfl rfl ?_
  refine ev_iconst (pc' := 13) (b := (0 : Int32)) rfl rfl rfl ?_
  refine ev_istore_n (pc' := 14) (L' := [.ref 31, .ref 25, .int (if (σ 25 2) < (σ 31 2) then (σ 25 2) else (σ 31 2)), .int (0 : Int32)]) rfl rfl rfl rfl ?_
  exact fx_Text_firstUnlike_31_25_b14_e h
/-! PartedLand$Text.isSameAs (31, 25): P -/
def fx_Text_isSameAs_31_25 (N : Nat) (σ : am_S) : Option Int32 := (fx_Text_firstUnlike_31_25 N σ).bind fun q1 => (if 0 ≤ q1 then some (0 : Int32) else some (1 : Int32))
set_option maxRecDepth 100000 in
theorem fx_Text_isSameAs_31_25_e {X : Nat} {xs : Nat → Int32} {d : Nat} {N : Nat} {σ : am_S} {o : Int32} (h : fx_Text_isSameAs_31_25 N σ = some o) : am_Ev am_sh (am_exx X xs) (d + 2) mm_76 0 [.ref 31, .ref 25] [] σ (some (.int o)) σ := by
  unfold fx_Text_isSameAs_31_25 at h
  refine ev_aload_n (pc' := 1) rfl rfl rfl ?_
  refine ev_aload_n (pc' := 2) rfl rfl rfl ?_
  refine am_bd h (fun q1 hq1 h => ?_)
  refine ev_call (mi := 77) (as := [.ref 31, .ref 25]) (rest := []) rfl rfl (Nat.le_of_ble_eq_true rfl) (fx_Text_firstUnlike_31_25_e (d := d) hq1) ?_
  show am_Ev _ _ _ _ 5 _ _ _ _ _
  rcases am_if h with ⟨hc2, h⟩ | ⟨hc2, h⟩
  · refine ev_if_t (pc' := 12) rfl rfl (cb_ge_t hc2) ?_
    refine ev_iconst (pc' := 13) (b := (0 : Int32)) rfl rfl rfl ?_
    obtain rfl := Option.some.inj h
    exact ev_zreturn rfl rfl rfl
  · refine ev_if_f (pc' := 8) rfl (by decide) rfl (cb_ge_f hc2) ?_
    refine ev_iconst (pc' := 9) (b := (1 : Int32)) rfl rfl rfl ?_
    refine ev_goto (pc' := 13) rfl rfl ?_
    obtain rfl := Option.some.inj h
    exact ev_zreturn rfl rfl rfl
/-! PartedLand$Text.firstUnlike (31, 28): P -/
def fx_Text_firstUnlike_31_28_b14 (N : Nat) : Nat → Int32 → Int32 → am_S → Option Int32
  | 0, _, _, _ => none
  | n + 1, x2, x3, σ => (if x2 ≤ x3 then (if (σ 31 2) = (σ 28 2) then some (-1 : Int32) else some x2) else am_g (am_in x3 50) <| am_g (am_in x3 50) <| (if (σ 32 x3.toNatClampNeg) = (σ 29 x3.toNatClampNeg) then fx_Text_firstUnlike_31_28_b14 N n x2 (x3 + (1 : Int32)) σ else some x3))
set_option maxRecDepth 100000 in
theorem fx_Text_firstUnlike_31_28_b14_e {X : Nat} {xs : Nat → Int32} {d : Nat} {N : Nat} : ∀ {n : Nat} {x2 : Int32} {x3 : Int32} {σ : am_S} {o : Int32}, fx_Text_firstUnlike_31_28_b14 N n x2 x3 σ = some o → am_Ev am_sh (am_exx X xs) (d + 1) mm_77 14 [.ref 31, .ref 28, .int x2, .int x3] [] σ (some (.int o)) σ := by
  intro n
  induction n with
  | zero => intro x2 x3 σ o h; cases h
  | succ n ih =>
    intro x2 x3 σ o h
    unfold fx_Text_firstUnlike_31_28_b14 at h
    refine ev_iload_n (pc' := 15) rfl rfl rfl ?_
    refine ev_iload_n (pc' := 16) rfl rfl rfl ?_
    rcases am_if h with ⟨hc1, h⟩ | ⟨hc1, h⟩
    · refine ev_ic_t (pc' := 42) rfl rfl (cb_ge_t hc1) ?_
      refine ev_aload_n (pc' := 43) rfl rfl rfl ?_
      refine ev_getfield (pc' := 46) (w := .int (σ 31 2)) rfl rfl rfl rfl ?_
      refine ev_aload_n (pc' := 47) rfl rfl rfl ?_
      refine ev_getfield (pc' := 50) (w := .int (σ 28 2)) rfl rfl rfl rfl ?_
      rcases am_if h with ⟨hc2, h⟩ | ⟨hc2, h⟩
      · refine ev_ic_f (pc' := 53) rfl (by decide) rfl (cb_ne_f hc2) ?_
        refine ev_iconst (pc' := 54) (b := (-1 : Int32)) rfl rfl rfl ?_
        refine ev_goto (pc' := 58) rfl rfl ?_
        obtain rfl := Option.some.inj h
        exact ev_ireturn rfl rfl
      · refine ev_ic_t (pc' := 57) rfl rfl (cb_ne_t hc2) ?_
        refine ev_iload_n (pc' := 58) rfl rfl rfl ?_
        obtain rfl := Option.some.inj h
        exact ev_ireturn rfl rfl
    · refine ev_ic_f (pc' := 19) rfl (by decide) rfl (cb_ge_f hc1) ?_
      refine ev_aload_n (pc' := 20) rfl rfl rfl ?_
      refine ev_getfield (pc' := 23) (w := .ref 32) rfl rfl rfl rfl ?_
      refine ev_iload_n (pc' := 24) rfl rfl rfl ?_
      obtain ⟨hg3, h⟩ := am_g_some h
      refine ev_iaload (pc' := 25) rfl rfl rfl hg3 ?_
      refine ev_aload_n (pc' := 26) rfl rfl rfl ?_
      refine ev_getfield (pc' := 29) (w := .ref 29) rfl rfl rfl rfl ?_
      refine ev_iload_n (pc' := 30) rfl rfl rfl ?_
      obtain ⟨hg4, h⟩ := am_g_some h
      refine ev_iaload (pc' := 31) rfl rfl rfl hg4 ?_
      rcases am_if h with ⟨hc5, h⟩ | ⟨hc5, h⟩
      · refine ev_ic_t (pc' := 36) rfl rfl (cb_eq_t hc5) ?_
        refine ev_iinc (pc' := 39) (L' := [.ref 31, .ref 28, .int x2, .int (x3 + (1 : Int32))]) (b := (1 : Int32)) rfl rfl rfl rfl rfl ?_
        refine ev_goto (pc' := 14) rfl rfl ?_
        exact ih h
      · refine ev_ic_f (pc' := 34) rfl (by decide) rfl (cb_eq_f hc5) ?_
        refine ev_iload_n (pc' := 35) rfl rfl rfl ?_
        obtain rfl := Option.some.inj h
        exact ev_ireturn rfl rfl
def fx_Text_firstUnlike_31_28 (N : Nat) (σ : am_S) : Option Int32 := fx_Text_firstUnlike_31_28_b14 N N (if (σ 28 2) < (σ 31 2) then (σ 28 2) else (σ 31 2)) (0 : Int32) σ
set_option maxRecDepth 100000 in
theorem fx_Text_firstUnlike_31_28_e {X : Nat} {xs : Nat → Int32} {d : Nat} {N : Nat} {σ : am_S} {o : Int32} (h : fx_Text_firstUnlike_31_28 N σ = some o) : am_Ev am_sh (am_exx X xs) (d + 1) mm_77 0 [.ref 31, .ref 28, .null, .null] [] σ (some (.int o)) σ := by
  unfold fx_Text_firstUnlike_31_28 at h
  refine ev_aload_n (pc' := 1) rfl rfl rfl ?_
  refine ev_getfield (pc' := 4) (w := .int (σ 31 2)) rfl rfl rfl rfl ?_
  refine ev_aload_n (pc' := 5) rfl rfl rfl ?_
  refine ev_getfield (pc' := 8) (w := .int (σ 28 2)) rfl rfl rfl rfl ?_
  refine ev_min (pc' := 11) rfl rfl rfl rfl ?_
  refine ev_istore_n (pc' := 12) (L' := [.ref 31, .ref 28, .int (if (σ 28 2) < (σ 31 2) then (σ 28 2) else (σ 31 2)), .null]) rfl rfl rfl rfl ?_
  refine ev_iconst (pc' := 13) (b := (0 : Int32)) rfl rfl rfl ?_
  refine ev_istore_n (pc' := 14) (L' := [.ref 31, .ref 28, .int (if (σ 28 2) < (σ 31 2) then (σ 28 2) else (σ 31 2)), .int (0 : Int32)]) rfl rfl rfl rfl ?_
  exact fx_Text_firstUnlike_31_28_b14_e h
/-! PartedLand$Text.isSameAs (31, 28): P -/
def fx_Text_isSameAs_31_28 (N : Nat) (σ : am_S) : Option Int32 := (fx_Text_firstUnlike_31_28 N σ).bind fun q1 => (if 0 ≤ q1 then some (0 : Int32) else some (1 : Int32))
set_option maxRecDepth 100000 in
theorem fx_Text_isSameAs_31_28_e {X : Nat} {xs : Nat → Int32} {d : Nat} {N : Nat} {σ : am_S} {o : Int32} (h : fx_Text_isSameAs_31_28 N σ = some o) : am_Ev am_sh (am_exx X xs) (d + 2) mm_76 0 [.ref 31, .ref 28] [] σ (some (.int o)) σ := by
  unfold fx_Text_isSameAs_31_28 at h
  refine ev_aload_n (pc' := 1) rfl rfl rfl ?_
  refine ev_aload_n (pc' := 2) rfl rfl rfl ?_
  refine am_bd h (fun q1 hq1 h => ?_)
  refine ev_call (mi := 77) (as := [.ref 31, .ref 28]) (rest := []) rfl rfl (Nat.le_of_ble_eq_true rfl) (fx_Text_firstUnlike_31_28_e (d := d) hq1) ?_
  show am_Ev _ _ _ _ 5 _ _ _ _ _
  rcases am_if h with ⟨hc2, h⟩ | ⟨hc2, h⟩
  · refine ev_if_t (pc' := 12) rfl rfl (cb_ge_t hc2) ?_
    refine ev_iconst (pc' := 13) (b := (0 : Int32)) rfl rfl rfl ?_
    obtain rfl := Option.some.inj h
    exact ev_zreturn rfl rfl rfl
  · refine ev_if_f (pc' := 8) rfl (by decide) rfl (cb_ge_f hc2) ?_
    refine ev_iconst (pc' := 9) (b := (1 : Int32)) rfl rfl rfl ?_
    refine ev_goto (pc' := 13) rfl rfl ?_
    obtain rfl := Option.some.inj h
    exact ev_zreturn rfl rfl rfl
/-! PartedLand.propose (0, 'I'): S -/
def fx_propose_b53 (N : Nat) (x1 : Int32) (σ : am_S) : Option (Int32 × am_S) := (if (fx_Houses_heldBy x1 σ) = 25 then (fx_Text_isSameAs_31_25 N σ).bind fun q2 => (if q2 = 0 then some ((0 : Int32), σ) else some ((1 : Int32), σ)) else (if (fx_Houses_heldBy x1 σ) = 28 then (fx_Text_isSameAs_31_28 N σ).bind fun q5 => (if q5 = 0 then some ((0 : Int32), σ) else some ((1 : Int32), σ)) else none))
set_option maxRecDepth 100000 in
theorem fx_propose_b53_e {X : Nat} {xs : Nat → Int32} {d : Nat} {N : Nat} {x1 : Int32} {w2 : Value} {σ : am_S} {o : Int32 × am_S} (h : fx_propose_b53 N x1 σ = some o) : am_Ev am_sh (am_exx X xs) (d + 6) mm_99 53 [.ref 0, .int x1, w2] [] σ (some (.int o.1)) o.2 := by
  unfold fx_propose_b53 at h
  refine ev_aload_n (pc' := 54) rfl rfl rfl ?_
  refine ev_getfield (pc' := 57) (w := .ref 21) rfl rfl rfl rfl ?_
  refine ev_getfield (pc' := 60) (w := .ref 31) rfl rfl rfl rfl ?_
  refine ev_aload_n (pc' := 61) rfl rfl rfl ?_
  refine ev_getfield (pc' := 64) (w := .ref 21) rfl rfl rfl rfl ?_
  refine ev_iload_n (pc' := 65) rfl rfl rfl ?_
  refine ev_call (mi := 12) (as := [.ref 21, .int x1]) (rest := [.ref 31]) rfl rfl (Nat.le_of_ble_eq_true rfl) (fx_Houses_heldBy_e (d := d + 5) rfl) ?_
  show am_Ev _ _ _ _ 68 _ _ _ _ _
  rcases am_if h with ⟨hc1, h⟩ | ⟨hc1, h⟩
  · rw [hc1]
    refine am_bd h (fun q2 hq2 h => ?_)
    refine ev_call (mi := 76) (as := [.ref 31, .ref 25]) (rest := []) rfl rfl (Nat.le_of_ble_eq_true rfl) (fx_Text_isSameAs_31_25_e (d := d + 3) hq2) ?_
    show am_Ev _ _ _ _ 71 _ _ _ _ _
    rcases am_if h with ⟨hc3, h⟩ | ⟨hc3, h⟩
    · refine ev_if_t (pc' := 78) rfl rfl (cb_eq_t hc3) ?_
      refine ev_iconst (pc' := 79) (b := (0 : Int32)) rfl rfl rfl ?_
      obtain rfl := Option.some.inj h
      exact ev_ireturn rfl rfl
    · refine ev_if_f (pc' := 74) rfl (by decide) rfl (cb_eq_f hc3) ?_
      refine ev_iconst (pc' := 75) (b := (1 : Int32)) rfl rfl rfl ?_
      refine ev_goto (pc' := 79) rfl rfl ?_
      obtain rfl := Option.some.inj h
      exact ev_ireturn rfl rfl
  rcases am_if h with ⟨hc4, h⟩ | ⟨hc4, h⟩
  · rw [hc4]
    refine am_bd h (fun q5 hq5 h => ?_)
    refine ev_call (mi := 76) (as := [.ref 31, .ref 28]) (rest := []) rfl rfl (Nat.le_of_ble_eq_true rfl) (fx_Text_isSameAs_31_28_e (d := d + 3) hq5) ?_
    show am_Ev _ _ _ _ 71 _ _ _ _ _
    rcases am_if h with ⟨hc6, h⟩ | ⟨hc6, h⟩
    · refine ev_if_t (pc' := 78) rfl rfl (cb_eq_t hc6) ?_
      refine ev_iconst (pc' := 79) (b := (0 : Int32)) rfl rfl rfl ?_
      obtain rfl := Option.some.inj h
      exact ev_ireturn rfl rfl
    · refine ev_if_f (pc' := 74) rfl (by decide) rfl (cb_eq_f hc6) ?_
      refine ev_iconst (pc' := 75) (b := (1 : Int32)) rfl rfl rfl ?_
      refine ev_goto (pc' := 79) rfl rfl ?_
      obtain rfl := Option.some.inj h
      exact ev_ireturn rfl rfl
  cases h
def fx_propose (N : Nat) (a1 : Int32) (σ : am_S) : Option (Int32 × am_S) := (if (fx_isZeroOrOne a1 σ) = 0 then (fx_finding (-1000000001 : Int32) σ).bind fun q2 => some (q2.1, q2.2) else (fx_Houses_takeTape N a1 σ).bind fun q3 => (if q3.1 < 0 then (fx_Houses_enactFrom N (q3.2 0 12) q3.2).bind fun q5 => (if q5.1 = 0 then fx_propose_b53 N a1 q5.2 else (fx_Parting_forgetAll q5.2).bind fun q7 => fx_propose_b53 N a1 q7) else some (((-10 : Int32) - q3.1), q3.2)))
set_option maxRecDepth 100000 in
theorem fx_propose_e {X : Nat} {xs : Nat → Int32} {d : Nat} {N : Nat} {a1 : Int32} {σ : am_S} {o : Int32 × am_S} (h : fx_propose N a1 σ = some o) : am_Ev am_sh (am_exx X xs) (d + 6) mm_99 0 [.ref 0, .int a1, .null] [] σ (some (.int o.1)) o.2 := by
  unfold fx_propose at h
  refine ev_iload_n (pc' := 1) rfl rfl rfl ?_
  refine ev_call (mi := 130) (as := [.int a1]) (rest := []) rfl rfl (Nat.le_of_ble_eq_true rfl) (fx_isZeroOrOne_e (d := d + 5) rfl) ?_
  show am_Ev _ _ _ _ 4 _ _ _ _ _
  rcases am_if h with ⟨hc1, h⟩ | ⟨hc1, h⟩
  · refine ev_if_f (pc' := 7) rfl (by decide) rfl (cb_ne_f hc1) ?_
    refine ev_aload_n (pc' := 8) rfl rfl rfl ?_
    refine ev_ldc (pc' := 10) (b := (-1000000001 : Int32)) rfl rfl rfl ?_
    refine am_bd h (fun q2 hq2 h => ?_)
    refine ev_call (mi := 129) (as := [.ref 0, .int (-1000000001 : Int32)]) (rest := []) rfl rfl (Nat.le_of_ble_eq_true rfl) (fx_finding_e (d := d + 5) hq2) ?_
    show am_Ev _ _ _ _ 13 _ _ _ _ _
    obtain rfl := Option.some.inj h
    exact ev_ireturn rfl rfl
  · refine ev_if_t (pc' := 14) rfl rfl (cb_ne_t hc1) ?_
    refine ev_aload_n (pc' := 15) rfl rfl rfl ?_
    refine ev_getfield (pc' := 18) (w := .ref 21) rfl rfl rfl rfl ?_
    refine ev_iload_n (pc' := 19) rfl rfl rfl ?_
    refine am_bd h (fun q3 hq3 h => ?_)
    refine ev_call (mi := 14) (as := [.ref 21, .int a1]) (rest := []) rfl rfl (Nat.le_of_ble_eq_true rfl) (fx_Houses_takeTape_e (d := d) hq3) ?_
    show am_Ev _ _ _ _ 22 _ _ _ _ _
    refine ev_istore_n (pc' := 23) (L' := [.ref 0, .int a1, .int q3.1]) rfl rfl rfl rfl ?_
    refine ev_iload_n (pc' := 24) rfl rfl rfl ?_
    rcases am_if h with ⟨hc4, h⟩ | ⟨hc4, h⟩
    · refine ev_if_t (pc' := 32) rfl rfl (cb_lt_t hc4) ?_
      refine ev_aload_n (pc' := 33) rfl rfl rfl ?_
      refine ev_getfield (pc' := 36) (w := .ref 21) rfl rfl rfl rfl ?_
      refine ev_aload_n (pc' := 37) rfl rfl rfl ?_
      refine ev_getfield (pc' := 40) (w := .int (q3.2 0 12)) rfl rfl rfl rfl ?_
      refine am_bd h (fun q5 hq5 h => ?_)
      refine ev_call (mi := 15) (as := [.ref 21, .int (q3.2 0 12)]) (rest := []) rfl rfl (Nat.le_of_ble_eq_true rfl) (fx_Houses_enactFrom_e (d := d + 2) hq5) ?_
      show am_Ev _ _ _ _ 43 _ _ _ _ _
      rcases am_if h with ⟨hc6, h⟩ | ⟨hc6, h⟩
      · refine ev_if_t (pc' := 53) rfl rfl (cb_eq_t hc6) ?_
        exact fx_propose_b53_e h
      · refine ev_if_f (pc' := 46) rfl (by decide) rfl (cb_eq_f hc6) ?_
        refine ev_aload_n (pc' := 47) rfl rfl rfl ?_
        refine ev_getfield (pc' := 50) (w := .ref 41) rfl rfl rfl rfl ?_
        refine am_bd h (fun q7 hq7 h => ?_)
        refine ev_call (mi := 34) (as := [.ref 41]) (rest := []) rfl rfl (Nat.le_of_ble_eq_true rfl) (fx_Parting_forgetAll_e (d := d + 5) hq7) ?_
        show am_Ev _ _ _ _ 53 _ _ _ _ _
        exact fx_propose_b53_e h
    · refine ev_if_f (pc' := 27) rfl (by decide) rfl (cb_lt_f hc4) ?_
      refine ev_bipush (pc' := 29) (b := (-10 : Int32)) rfl rfl rfl ?_
      refine ev_iload_n (pc' := 30) rfl rfl rfl ?_
      refine ev_isub (pc' := 31) rfl rfl ?_
      obtain rfl := Option.some.inj h
      exact ev_ireturn rfl rfl
/-! PartedLand.law (0, 'I'): S -/
def fx_law (a1 : Int32) (σ : am_S) : Option (Int32 × am_S) := (if a1 = (0 : Int32) then some ((σ 31 4), σ) else (if a1 = (1 : Int32) then some ((σ 31 5), σ) else (if a1 = (2 : Int32) then (if (σ 31 6) = 0 then some ((0 : Int32), σ) else some ((1 : Int32), σ)) else (if a1 = (3 : Int32) then some ((σ 31 7), σ) else (if a1 = (4 : Int32) then some ((σ 31 8), σ) else (if a1 = (5 : Int32) then some ((σ 31 3), σ) else (if a1 = (6 : Int32) then some ((σ 21 6), σ) else (fx_finding (-1000000001 : Int32) σ).bind fun q10 => some (q10.1, q10.2))))))))
set_option maxRecDepth 100000 in
theorem fx_law_e {X : Nat} {xs : Nat → Int32} {d : Nat} {a1 : Int32} {σ : am_S} {o : Int32 × am_S} (h : fx_law a1 σ = some o) : am_Ev am_sh (am_exx X xs) (d + 1) mm_100 0 [.ref 0, .int a1] [] σ (some (.int o.1)) o.2 := by
  unfold fx_law at h
  refine ev_iload_n (pc' := 1) rfl rfl rfl ?_
  rcases am_if h with ⟨hc1, h⟩ | ⟨hc1, h⟩
  · refine ev_tsw (pc' := 44) (off := 43) rfl (by rw [hc1]; decide +kernel) (by rw [hc1]; decide +kernel) rfl ?_
    refine ev_aload_n (pc' := 45) rfl rfl rfl ?_
    refine ev_getfield (pc' := 48) (w := .ref 21) rfl rfl rfl rfl ?_
    refine ev_getfield (pc' := 51) (w := .ref 31) rfl rfl rfl rfl ?_
    refine ev_getfield (pc' := 54) (w := .int (σ 31 4)) rfl rfl rfl rfl ?_
    obtain rfl := Option.some.inj h
    exact ev_ireturn rfl rfl
  rcases am_if h with ⟨hc2, h⟩ | ⟨hc2, h⟩
  · refine ev_tsw (pc' := 55) (off := 54) rfl (by rw [hc2]; decide +kernel) (by rw [hc2]; decide +kernel) rfl ?_
    refine ev_aload_n (pc' := 56) rfl rfl rfl ?_
    refine ev_getfield (pc' := 59) (w := .ref 21) rfl rfl rfl rfl ?_
    refine ev_getfield (pc' := 62) (w := .ref 31) rfl rfl rfl rfl ?_
    refine ev_getfield (pc' := 65) (w := .int (σ 31 5)) rfl rfl rfl rfl ?_
    obtain rfl := Option.some.inj h
    exact ev_ireturn rfl rfl
  rcases am_if h with ⟨hc3, h⟩ | ⟨hc3, h⟩
  · refine ev_tsw (pc' := 66) (off := 65) rfl (by rw [hc3]; decide +kernel) (by rw [hc3]; decide +kernel) rfl ?_
    refine ev_aload_n (pc' := 67) rfl rfl rfl ?_
    refine ev_getfield (pc' := 70) (w := .ref 21) rfl rfl rfl rfl ?_
    refine ev_getfield (pc' := 73) (w := .ref 31) rfl rfl rfl rfl ?_
    refine ev_getfield (pc' := 76) (w := .int (σ 31 6)) rfl rfl rfl rfl ?_
    rcases am_if h with ⟨hc4, h⟩ | ⟨hc4, h⟩
    · refine ev_if_t (pc' := 83) rfl rfl (cb_eq_t hc4) ?_
      refine ev_iconst (pc' := 84) (b := (0 : Int32)) rfl rfl rfl ?_
      obtain rfl := Option.some.inj h
      exact ev_ireturn rfl rfl
    · refine ev_if_f (pc' := 79) rfl (by decide) rfl (cb_eq_f hc4) ?_
      refine ev_iconst (pc' := 80) (b := (1 : Int32)) rfl rfl rfl ?_
      refine ev_goto (pc' := 84) rfl rfl ?_
      obtain rfl := Option.some.inj h
      exact ev_ireturn rfl rfl
  rcases am_if h with ⟨hc5, h⟩ | ⟨hc5, h⟩
  · refine ev_tsw (pc' := 85) (off := 84) rfl (by rw [hc5]; decide +kernel) (by rw [hc5]; decide +kernel) rfl ?_
    refine ev_aload_n (pc' := 86) rfl rfl rfl ?_
    refine ev_getfield (pc' := 89) (w := .ref 21) rfl rfl rfl rfl ?_
    refine ev_getfield (pc' := 92) (w := .ref 31) rfl rfl rfl rfl ?_
    refine ev_getfield (pc' := 95) (w := .int (σ 31 7)) rfl rfl rfl rfl ?_
    obtain rfl := Option.some.inj h
    exact ev_ireturn rfl rfl
  rcases am_if h with ⟨hc6, h⟩ | ⟨hc6, h⟩
  · refine ev_tsw (pc' := 96) (off := 95) rfl (by rw [hc6]; decide +kernel) (by rw [hc6]; decide +kernel) rfl ?_
    refine ev_aload_n (pc' := 97) rfl rfl rfl ?_
    refine ev_getfield (pc' := 100) (w := .ref 21) rfl rfl rfl rfl ?_
    refine ev_getfield (pc' := 103) (w := .ref 31) rfl rfl rfl rfl ?_
    refine ev_getfield (pc' := 106) (w := .int (σ 31 8)) rfl rfl rfl rfl ?_
    obtain rfl := Option.some.inj h
    exact ev_ireturn rfl rfl
  rcases am_if h with ⟨hc7, h⟩ | ⟨hc7, h⟩
  · refine ev_tsw (pc' := 107) (off := 106) rfl (by rw [hc7]; decide +kernel) (by rw [hc7]; decide +kernel) rfl ?_
    refine ev_aload_n (pc' := 108) rfl rfl rfl ?_
    refine ev_getfield (pc' := 111) (w := .ref 21) rfl rfl rfl rfl ?_
    refine ev_getfield (pc' := 114) (w := .ref 31) rfl rfl rfl rfl ?_
    refine ev_getfield (pc' := 117) (w := .int (σ 31 3)) rfl rfl rfl rfl ?_
    obtain rfl := Option.some.inj h
    exact ev_ireturn rfl rfl
  rcases am_if h with ⟨hc8, h⟩ | ⟨hc8, h⟩
  · refine ev_tsw (pc' := 118) (off := 117) rfl (by rw [hc8]; decide +kernel) (by rw [hc8]; decide +kernel) rfl ?_
    refine ev_aload_n (pc' := 119) rfl rfl rfl ?_
    refine ev_getfield (pc' := 122) (w := .ref 21) rfl rfl rfl rfl ?_
    refine ev_getfield (pc' := 125) (w := .int (σ 21 6)) rfl rfl rfl rfl ?_
    obtain rfl := Option.some.inj h
    exact ev_ireturn rfl rfl
  have hd9 : a1.toInt < 0 ∨ 6 < a1.toInt ∨ True := Or.inr (Or.inr trivial)
  have hk9 : ∀ (Lq Sq : List Value) (v : Option Value) (σ2 : am_S), am_Ev am_sh (am_exx X xs) (d + 1) mm_100 126 Lq Sq σ v σ2 → am_Ev am_sh (am_exx X xs) (d + 1) mm_100 1 Lq (.int a1 :: Sq) σ v σ2 := fun Lq Sq v σ2 hz => by
    by_cases hr : a1.toInt < 0 ∨ 6 < a1.toInt
    · exact ev_tsd rfl hr rfl hz
    · obtain ⟨j, hj, hx⟩ := am_rg 7 hr (by decide)
      rcases (show j = 0 ∨ j = 1 ∨ j = 2 ∨ j = 3 ∨ j = 4 ∨ j = 5 ∨ j = 6 by omega) with rfl | rfl | rfl | rfl | rfl | rfl | rfl
      · exact absurd (hx.trans (by decide +kernel)) hc1
      · exact absurd (hx.trans (by decide +kernel)) hc2
      · exact absurd (hx.trans (by decide +kernel)) hc3
      · exact absurd (hx.trans (by decide +kernel)) hc5
      · exact absurd (hx.trans (by decide +kernel)) hc6
      · exact absurd (hx.trans (by decide +kernel)) hc7
      · exact absurd (hx.trans (by decide +kernel)) hc8
  refine hk9 _ _ _ _ ?_
  refine ev_aload_n (pc' := 127) rfl rfl rfl ?_
  refine ev_ldc (pc' := 129) (b := (-1000000001 : Int32)) rfl rfl rfl ?_
  refine am_bd h (fun q10 hq10 h => ?_)
  refine ev_call (mi := 129) (as := [.ref 0, .int (-1000000001 : Int32)]) (rest := []) rfl rfl (Nat.le_of_ble_eq_true rfl) (fx_finding_e (d := d) hq10) ?_
  show am_Ev _ _ _ _ 132 _ _ _ _ _
  obtain rfl := Option.some.inj h
  exact ev_ireturn rfl rfl
/-! PartedLand$Text.firstUnlike (25, 25): P -/
def fx_Text_firstUnlike_25_25_b14 (N : Nat) : Nat → Int32 → Int32 → am_S → Option Int32
  | 0, _, _, _ => none
  | n + 1, x2, x3, σ => (if x2 ≤ x3 then (if (σ 25 2) = (σ 25 2) then some (-1 : Int32) else some x2) else am_g (am_in x3 50) <| am_g (am_in x3 50) <| (if (σ 26 x3.toNatClampNeg) = (σ 26 x3.toNatClampNeg) then fx_Text_firstUnlike_25_25_b14 N n x2 (x3 + (1 : Int32)) σ else some x3))
set_option maxRecDepth 100000 in
theorem fx_Text_firstUnlike_25_25_b14_e {X : Nat} {xs : Nat → Int32} {d : Nat} {N : Nat} : ∀ {n : Nat} {x2 : Int32} {x3 : Int32} {σ : am_S} {o : Int32}, fx_Text_firstUnlike_25_25_b14 N n x2 x3 σ = some o → am_Ev am_sh (am_exx X xs) (d + 1) mm_77 14 [.ref 25, .ref 25, .int x2, .int x3] [] σ (some (.int o)) σ := by
  intro n
  induction n with
  | zero => intro x2 x3 σ o h; cases h
  | succ n ih =>
    intro x2 x3 σ o h
    unfold fx_Text_firstUnlike_25_25_b14 at h
    refine ev_iload_n (pc' := 15) rfl rfl rfl ?_
    refine ev_iload_n (pc' := 16) rfl rfl rfl ?_
    rcases am_if h with ⟨hc1, h⟩ | ⟨hc1, h⟩
    · refine ev_ic_t (pc' := 42) rfl rfl (cb_ge_t hc1) ?_
      refine ev_aload_n (pc' := 43) rfl rfl rfl ?_
      refine ev_getfield (pc' := 46) (w := .int (σ 25 2)) rfl rfl rfl rfl ?_
      refine ev_aload_n (pc' := 47) rfl rfl rfl ?_
      refine ev_getfield (pc' := 50) (w := .int (σ 25 2)) rfl rfl rfl rfl ?_
      rcases am_if h with ⟨hc2, h⟩ | ⟨hc2, h⟩
      · refine ev_ic_f (pc' := 53) rfl (by decide) rfl (cb_ne_f hc2) ?_
        refine ev_iconst (pc' := 54) (b := (-1 : Int32)) rfl rfl rfl ?_
        refine ev_goto (pc' := 58) rfl rfl ?_
        obtain rfl := Option.some.inj h
        exact ev_ireturn rfl rfl
      · refine ev_ic_t (pc' := 57) rfl rfl (cb_ne_t hc2) ?_
        refine ev_iload_n (pc' := 58) rfl rfl rfl ?_
        obtain rfl := Option.some.inj h
        exact ev_ireturn rfl rfl
    · refine ev_ic_f (pc' := 19) rfl (by decide) rfl (cb_ge_f hc1) ?_
      refine ev_aload_n (pc' := 20) rfl rfl rfl ?_
      refine ev_getfield (pc' := 23) (w := .ref 26) rfl rfl rfl rfl ?_
      refine ev_iload_n (pc' := 24) rfl rfl rfl ?_
      obtain ⟨hg3, h⟩ := am_g_some h
      refine ev_iaload (pc' := 25) rfl rfl rfl hg3 ?_
      refine ev_aload_n (pc' := 26) rfl rfl rfl ?_
      refine ev_getfield (pc' := 29) (w := .ref 26) rfl rfl rfl rfl ?_
      refine ev_iload_n (pc' := 30) rfl rfl rfl ?_
      obtain ⟨hg4, h⟩ := am_g_some h
      refine ev_iaload (pc' := 31) rfl rfl rfl hg4 ?_
      rcases am_if h with ⟨hc5, h⟩ | ⟨hc5, h⟩
      · refine ev_ic_t (pc' := 36) rfl rfl (cb_eq_t hc5) ?_
        refine ev_iinc (pc' := 39) (L' := [.ref 25, .ref 25, .int x2, .int (x3 + (1 : Int32))]) (b := (1 : Int32)) rfl rfl rfl rfl rfl ?_
        refine ev_goto (pc' := 14) rfl rfl ?_
        exact ih h
      · refine ev_ic_f (pc' := 34) rfl (by decide) rfl (cb_eq_f hc5) ?_
        refine ev_iload_n (pc' := 35) rfl rfl rfl ?_
        obtain rfl := Option.some.inj h
        exact ev_ireturn rfl rfl
def fx_Text_firstUnlike_25_25 (N : Nat) (σ : am_S) : Option Int32 := fx_Text_firstUnlike_25_25_b14 N N (if (σ 25 2) < (σ 25 2) then (σ 25 2) else (σ 25 2)) (0 : Int32) σ
set_option maxRecDepth 100000 in
theorem fx_Text_firstUnlike_25_25_e {X : Nat} {xs : Nat → Int32} {d : Nat} {N : Nat} {σ : am_S} {o : Int32} (h : fx_Text_firstUnlike_25_25 N σ = some o) : am_Ev am_sh (am_exx X xs) (d + 1) mm_77 0 [.ref 25, .ref 25, .null, .null] [] σ (some (.int o)) σ := by
  unfold fx_Text_firstUnlike_25_25 at h
  refine ev_aload_n (pc' := 1) rfl rfl rfl ?_
  refine ev_getfield (pc' := 4) (w := .int (σ 25 2)) rfl rfl rfl rfl ?_
  refine ev_aload_n (pc' := 5) rfl rfl rfl ?_
  refine ev_getfield (pc' := 8) (w := .int (σ 25 2)) rfl rfl rfl rfl ?_
  refine ev_min (pc' := 11) rfl rfl rfl rfl ?_
  refine ev_istore_n (pc' := 12) (L' := [.ref 25, .ref 25, .int (if (σ 25 2) < (σ 25 2) then (σ 25 2) else (σ 25 2)), .null]) rfl rfl rfl rfl ?_
  refine ev_iconst (pc' := 13) (b := (0 : Int32)) rfl rfl rfl ?_
  refine ev_istore_n (pc' := 14) (L' := [.ref 25, .ref 25, .int (if (σ 25 2) < (σ 25 2) then (σ 25 2) else (σ 25 2)), .int (0 : Int32)]) rfl rfl rfl rfl ?_
  exact fx_Text_firstUnlike_25_25_b14_e h
/-! PartedLand$Text.firstUnlike (28, 25): P -/
def fx_Text_firstUnlike_28_25_b14 (N : Nat) : Nat → Int32 → Int32 → am_S → Option Int32
  | 0, _, _, _ => none
  | n + 1, x2, x3, σ => (if x2 ≤ x3 then (if (σ 28 2) = (σ 25 2) then some (-1 : Int32) else some x2) else am_g (am_in x3 50) <| am_g (am_in x3 50) <| (if (σ 29 x3.toNatClampNeg) = (σ 26 x3.toNatClampNeg) then fx_Text_firstUnlike_28_25_b14 N n x2 (x3 + (1 : Int32)) σ else some x3))
set_option maxRecDepth 100000 in
theorem fx_Text_firstUnlike_28_25_b14_e {X : Nat} {xs : Nat → Int32} {d : Nat} {N : Nat} : ∀ {n : Nat} {x2 : Int32} {x3 : Int32} {σ : am_S} {o : Int32}, fx_Text_firstUnlike_28_25_b14 N n x2 x3 σ = some o → am_Ev am_sh (am_exx X xs) (d + 1) mm_77 14 [.ref 28, .ref 25, .int x2, .int x3] [] σ (some (.int o)) σ := by
  intro n
  induction n with
  | zero => intro x2 x3 σ o h; cases h
  | succ n ih =>
    intro x2 x3 σ o h
    unfold fx_Text_firstUnlike_28_25_b14 at h
    refine ev_iload_n (pc' := 15) rfl rfl rfl ?_
    refine ev_iload_n (pc' := 16) rfl rfl rfl ?_
    rcases am_if h with ⟨hc1, h⟩ | ⟨hc1, h⟩
    · refine ev_ic_t (pc' := 42) rfl rfl (cb_ge_t hc1) ?_
      refine ev_aload_n (pc' := 43) rfl rfl rfl ?_
      refine ev_getfield (pc' := 46) (w := .int (σ 28 2)) rfl rfl rfl rfl ?_
      refine ev_aload_n (pc' := 47) rfl rfl rfl ?_
      refine ev_getfield (pc' := 50) (w := .int (σ 25 2)) rfl rfl rfl rfl ?_
      rcases am_if h with ⟨hc2, h⟩ | ⟨hc2, h⟩
      · refine ev_ic_f (pc' := 53) rfl (by decide) rfl (cb_ne_f hc2) ?_
        refine ev_iconst (pc' := 54) (b := (-1 : Int32)) rfl rfl rfl ?_
        refine ev_goto (pc' := 58) rfl rfl ?_
        obtain rfl := Option.some.inj h
        exact ev_ireturn rfl rfl
      · refine ev_ic_t (pc' := 57) rfl rfl (cb_ne_t hc2) ?_
        refine ev_iload_n (pc' := 58) rfl rfl rfl ?_
        obtain rfl := Option.some.inj h
        exact ev_ireturn rfl rfl
    · refine ev_ic_f (pc' := 19) rfl (by decide) rfl (cb_ge_f hc1) ?_
      refine ev_aload_n (pc' := 20) rfl rfl rfl ?_
      refine ev_getfield (pc' := 23) (w := .ref 29) rfl rfl rfl rfl ?_
      refine ev_iload_n (pc' := 24) rfl rfl rfl ?_
      obtain ⟨hg3, h⟩ := am_g_some h
      refine ev_iaload (pc' := 25) rfl rfl rfl hg3 ?_
      refine ev_aload_n (pc' := 26) rfl rfl rfl ?_
      refine ev_getfield (pc' := 29) (w := .ref 26) rfl rfl rfl rfl ?_
      refine ev_iload_n (pc' := 30) rfl rfl rfl ?_
      obtain ⟨hg4, h⟩ := am_g_some h
      refine ev_iaload (pc' := 31) rfl rfl rfl hg4 ?_
      rcases am_if h with ⟨hc5, h⟩ | ⟨hc5, h⟩
      · refine ev_ic_t (pc' := 36) rfl rfl (cb_eq_t hc5) ?_
        refine ev_iinc (pc' := 39) (L' := [.ref 28, .ref 25, .int x2, .int (x3 + (1 : Int32))]) (b := (1 : Int32)) rfl rfl rfl rfl rfl ?_
        refine ev_goto (pc' := 14) rfl rfl ?_
        exact ih h
      · refine ev_ic_f (pc' := 34) rfl (by decide) rfl (cb_eq_f hc5) ?_
        refine ev_iload_n (pc' := 35) rfl rfl rfl ?_
        obtain rfl := Option.some.inj h
        exact ev_ireturn rfl rfl
def fx_Text_firstUnlike_28_25 (N : Nat) (σ : am_S) : Option Int32 := fx_Text_firstUnlike_28_25_b14 N N (if (σ 25 2) < (σ 28 2) then (σ 25 2) else (σ 28 2)) (0 : Int32) σ
set_option maxRecDepth 100000 in
theorem fx_Text_firstUnlike_28_25_e {X : Nat} {xs : Nat → Int32} {d : Nat} {N : Nat} {σ : am_S} {o : Int32} (h : fx_Text_firstUnlike_28_25 N σ = some o) : am_Ev am_sh (am_exx X xs) (d + 1) mm_77 0 [.ref 28, .ref 25, .null, .null] [] σ (some (.int o)) σ := by
  unfold fx_Text_firstUnlike_28_25 at h
  refine ev_aload_n (pc' := 1) rfl rfl rfl ?_
  refine ev_getfield (pc' := 4) (w := .int (σ 28 2)) rfl rfl rfl rfl ?_
  refine ev_aload_n (pc' := 5) rfl rfl rfl ?_
  refine ev_getfield (pc' := 8) (w := .int (σ 25 2)) rfl rfl rfl rfl ?_
  refine ev_min (pc' := 11) rfl rfl rfl rfl ?_
  refine ev_istore_n (pc' := 12) (L' := [.ref 28, .ref 25, .int (if (σ 25 2) < (σ 28 2) then (σ 25 2) else (σ 28 2)), .null]) rfl rfl rfl rfl ?_
  refine ev_iconst (pc' := 13) (b := (0 : Int32)) rfl rfl rfl ?_
  refine ev_istore_n (pc' := 14) (L' := [.ref 28, .ref 25, .int (if (σ 25 2) < (σ 28 2) then (σ 25 2) else (σ 28 2)), .int (0 : Int32)]) rfl rfl rfl rfl ?_
  exact fx_Text_firstUnlike_28_25_b14_e h
/-! PartedLand$Text.firstUnlike (28, 28): P -/
def fx_Text_firstUnlike_28_28_b14 (N : Nat) : Nat → Int32 → Int32 → am_S → Option Int32
  | 0, _, _, _ => none
  | n + 1, x2, x3, σ => (if x2 ≤ x3 then (if (σ 28 2) = (σ 28 2) then some (-1 : Int32) else some x2) else am_g (am_in x3 50) <| am_g (am_in x3 50) <| (if (σ 29 x3.toNatClampNeg) = (σ 29 x3.toNatClampNeg) then fx_Text_firstUnlike_28_28_b14 N n x2 (x3 + (1 : Int32)) σ else some x3))
set_option maxRecDepth 100000 in
theorem fx_Text_firstUnlike_28_28_b14_e {X : Nat} {xs : Nat → Int32} {d : Nat} {N : Nat} : ∀ {n : Nat} {x2 : Int32} {x3 : Int32} {σ : am_S} {o : Int32}, fx_Text_firstUnlike_28_28_b14 N n x2 x3 σ = some o → am_Ev am_sh (am_exx X xs) (d + 1) mm_77 14 [.ref 28, .ref 28, .int x2, .int x3] [] σ (some (.int o)) σ := by
  intro n
  induction n with
  | zero => intro x2 x3 σ o h; cases h
  | succ n ih =>
    intro x2 x3 σ o h
    unfold fx_Text_firstUnlike_28_28_b14 at h
    refine ev_iload_n (pc' := 15) rfl rfl rfl ?_
    refine ev_iload_n (pc' := 16) rfl rfl rfl ?_
    rcases am_if h with ⟨hc1, h⟩ | ⟨hc1, h⟩
    · refine ev_ic_t (pc' := 42) rfl rfl (cb_ge_t hc1) ?_
      refine ev_aload_n (pc' := 43) rfl rfl rfl ?_
      refine ev_getfield (pc' := 46) (w := .int (σ 28 2)) rfl rfl rfl rfl ?_
      refine ev_aload_n (pc' := 47) rfl rfl rfl ?_
      refine ev_getfield (pc' := 50) (w := .int (σ 28 2)) rfl rfl rfl rfl ?_
      rcases am_if h with ⟨hc2, h⟩ | ⟨hc2, h⟩
      · refine ev_ic_f (pc' := 53) rfl (by decide) rfl (cb_ne_f hc2) ?_
        refine ev_iconst (pc' := 54) (b := (-1 : Int32)) rfl rfl rfl ?_
        refine ev_goto (pc' := 58) rfl rfl ?_
        obtain rfl := Option.some.inj h
        exact ev_ireturn rfl rfl
      · refine ev_ic_t (pc' := 57) rfl rfl (cb_ne_t hc2) ?_
        refine ev_iload_n (pc' := 58) rfl rfl rfl ?_
        obtain rfl := Option.some.inj h
        exact ev_ireturn rfl rfl
    · refine ev_ic_f (pc' := 19) rfl (by decide) rfl (cb_ge_f hc1) ?_
      refine ev_aload_n (pc' := 20) rfl rfl rfl ?_
      refine ev_getfield (pc' := 23) (w := .ref 29) rfl rfl rfl rfl ?_
      refine ev_iload_n (pc' := 24) rfl rfl rfl ?_
      obtain ⟨hg3, h⟩ := am_g_some h
      refine ev_iaload (pc' := 25) rfl rfl rfl hg3 ?_
      refine ev_aload_n (pc' := 26) rfl rfl rfl ?_
      refine ev_getfield (pc' := 29) (w := .ref 29) rfl rfl rfl rfl ?_
      refine ev_iload_n (pc' := 30) rfl rfl rfl ?_
      obtain ⟨hg4, h⟩ := am_g_some h
      refine ev_iaload (pc' := 31) rfl rfl rfl hg4 ?_
      rcases am_if h with ⟨hc5, h⟩ | ⟨hc5, h⟩
      · refine ev_ic_t (pc' := 36) rfl rfl (cb_eq_t hc5) ?_
        refine ev_iinc (pc' := 39) (L' := [.ref 28, .ref 28, .int x2, .int (x3 + (1 : Int32))]) (b := (1 : Int32)) rfl rfl rfl rfl rfl ?_
        refine ev_goto (pc' := 14) rfl rfl ?_
        exact ih h
      · refine ev_ic_f (pc' := 34) rfl (by decide) rfl (cb_eq_f hc5) ?_
        refine ev_iload_n (pc' := 35) rfl rfl rfl ?_
        obtain rfl := Option.some.inj h
        exact ev_ireturn rfl rfl
def fx_Text_firstUnlike_28_28 (N : Nat) (σ : am_S) : Option Int32 := fx_Text_firstUnlike_28_28_b14 N N (if (σ 28 2) < (σ 28 2) then (σ 28 2) else (σ 28 2)) (0 : Int32) σ
set_option maxRecDepth 100000 in
theorem fx_Text_firstUnlike_28_28_e {X : Nat} {xs : Nat → Int32} {d : Nat} {N : Nat} {σ : am_S} {o : Int32} (h : fx_Text_firstUnlike_28_28 N σ = some o) : am_Ev am_sh (am_exx X xs) (d + 1) mm_77 0 [.ref 28, .ref 28, .null, .null] [] σ (some (.int o)) σ := by
  unfold fx_Text_firstUnlike_28_28 at h
  refine ev_aload_n (pc' := 1) rfl rfl rfl ?_
  refine ev_getfield (pc' := 4) (w := .int (σ 28 2)) rfl rfl rfl rfl ?_
  refine ev_aload_n (pc' := 5) rfl rfl rfl ?_
  refine ev_getfield (pc' := 8) (w := .int (σ 28 2)) rfl rfl rfl rfl ?_
  refine ev_min (pc' := 11) rfl rfl rfl rfl ?_
  refine ev_istore_n (pc' := 12) (L' := [.ref 28, .ref 28, .int (if (σ 28 2) < (σ 28 2) then (σ 28 2) else (σ 28 2)), .null]) rfl rfl rfl rfl ?_
  refine ev_iconst (pc' := 13) (b := (0 : Int32)) rfl rfl rfl ?_
  refine ev_istore_n (pc' := 14) (L' := [.ref 28, .ref 28, .int (if (σ 28 2) < (σ 28 2) then (σ 28 2) else (σ 28 2)), .int (0 : Int32)]) rfl rfl rfl rfl ?_
  exact fx_Text_firstUnlike_28_28_b14_e h
/-! PartedLand.differ (0,): S -/
def fx_differ_b22 (N : Nat) (σ : am_S) : Option (Int32 × am_S) := (fx_finding (-1000000003 : Int32) σ).bind fun q1 => some (q1.1, q1.2)
set_option maxRecDepth 100000 in
theorem fx_differ_b22_e {X : Nat} {xs : Nat → Int32} {d : Nat} {N : Nat} {σ : am_S} {o : Int32 × am_S} (h : fx_differ_b22 N σ = some o) : am_Ev am_sh (am_exx X xs) (d + 2) mm_101 22 [.ref 0] [] σ (some (.int o.1)) o.2 := by
  unfold fx_differ_b22 at h
  refine ev_aload_n (pc' := 23) rfl rfl rfl ?_
  refine ev_ldc (pc' := 25) (b := (-1000000003 : Int32)) rfl rfl rfl ?_
  refine am_bd h (fun q1 hq1 h => ?_)
  refine ev_call (mi := 129) (as := [.ref 0, .int (-1000000003 : Int32)]) (rest := []) rfl rfl (Nat.le_of_ble_eq_true rfl) (fx_finding_e (d := d + 1) hq1) ?_
  show am_Ev _ _ _ _ 28 _ _ _ _ _
  obtain rfl := Option.some.inj h
  exact ev_ireturn rfl rfl
def fx_differ (N : Nat) (σ : am_S) : Option (Int32 × am_S) := (fx_Houses_hasProposed (0 : Int32) σ).bind fun q1 => (if q1 = 0 then fx_differ_b22 N σ else (fx_Houses_hasProposed (1 : Int32) σ).bind fun q3 => (if q3 = 0 then fx_differ_b22 N σ else (if (fx_Houses_heldBy (0 : Int32) σ) = 25 ∧ (fx_Houses_heldBy (1 : Int32) σ) = 25 then (fx_Text_firstUnlike_25_25 N σ).bind fun q6 => some (q6, σ) else (if (fx_Houses_heldBy (0 : Int32) σ) = 25 ∧ (fx_Houses_heldBy (1 : Int32) σ) = 28 then (fx_Text_firstUnlike N σ).bind fun q8 => some (q8, σ) else (if (fx_Houses_heldBy (0 : Int32) σ) = 28 ∧ (fx_Houses_heldBy (1 : Int32) σ) = 25 then (fx_Text_firstUnlike_28_25 N σ).bind fun q10 => some (q10, σ) else (if (fx_Houses_heldBy (0 : Int32) σ) = 28 ∧ (fx_Houses_heldBy (1 : Int32) σ) = 28 then (fx_Text_firstUnlike_28_28 N σ).bind fun q12 => some (q12, σ) else none))))))
set_option maxRecDepth 100000 in
theorem fx_differ_e {X : Nat} {xs : Nat → Int32} {d : Nat} {N : Nat} {σ : am_S} {o : Int32 × am_S} (h : fx_differ N σ = some o) : am_Ev am_sh (am_exx X xs) (d + 2) mm_101 0 [.ref 0] [] σ (some (.int o.1)) o.2 := by
  unfold fx_differ at h
  refine ev_aload_n (pc' := 1) rfl rfl rfl ?_
  refine ev_getfield (pc' := 4) (w := .ref 21) rfl rfl rfl rfl ?_
  refine ev_iconst (pc' := 5) (b := (0 : Int32)) rfl rfl rfl ?_
  refine am_bd h (fun q1 hq1 h => ?_)
  refine ev_call (mi := 13) (as := [.ref 21, .int (0 : Int32)]) (rest := []) rfl rfl (Nat.le_of_ble_eq_true rfl) (fx_Houses_hasProposed_e (d := d + 1) hq1) ?_
  show am_Ev _ _ _ _ 8 _ _ _ _ _
  rcases am_if h with ⟨hc2, h⟩ | ⟨hc2, h⟩
  · refine ev_if_t (pc' := 22) rfl rfl (cb_eq_t hc2) ?_
    exact fx_differ_b22_e h
  · refine ev_if_f (pc' := 11) rfl (by decide) rfl (cb_eq_f hc2) ?_
    refine ev_aload_n (pc' := 12) rfl rfl rfl ?_
    refine ev_getfield (pc' := 15) (w := .ref 21) rfl rfl rfl rfl ?_
    refine ev_iconst (pc' := 16) (b := (1 : Int32)) rfl rfl rfl ?_
    refine am_bd h (fun q3 hq3 h => ?_)
    refine ev_call (mi := 13) (as := [.ref 21, .int (1 : Int32)]) (rest := []) rfl rfl (Nat.le_of_ble_eq_true rfl) (fx_Houses_hasProposed_e (d := d + 1) hq3) ?_
    show am_Ev _ _ _ _ 19 _ _ _ _ _
    rcases am_if h with ⟨hc4, h⟩ | ⟨hc4, h⟩
    · refine ev_if_f (pc' := 22) rfl (by decide) rfl (cb_ne_f hc4) ?_
      exact fx_differ_b22_e h
    · refine ev_if_t (pc' := 29) rfl rfl (cb_ne_t hc4) ?_
      refine ev_aload_n (pc' := 30) rfl rfl rfl ?_
      refine ev_getfield (pc' := 33) (w := .ref 21) rfl rfl rfl rfl ?_
      refine ev_iconst (pc' := 34) (b := (0 : Int32)) rfl rfl rfl ?_
      refine ev_call (mi := 12) (as := [.ref 21, .int (0 : Int32)]) (rest := []) rfl rfl (Nat.le_of_ble_eq_true rfl) (fx_Houses_heldBy_e (d := d + 1) rfl) ?_
      show am_Ev _ _ _ _ 37 _ _ _ _ _
      refine ev_aload_n (pc' := 38) rfl rfl rfl ?_
      refine ev_getfield (pc' := 41) (w := .ref 21) rfl rfl rfl rfl ?_
      refine ev_iconst (pc' := 42) (b := (1 : Int32)) rfl rfl rfl ?_
      refine ev_call (mi := 12) (as := [.ref 21, .int (1 : Int32)]) (rest := [.ref (fx_Houses_heldBy (0 : Int32) σ)]) rfl rfl (Nat.le_of_ble_eq_true rfl) (fx_Houses_heldBy_e (d := d + 1) rfl) ?_
      show am_Ev _ _ _ _ 45 _ _ _ _ _
      rcases am_if h with ⟨hc5, h⟩ | ⟨hc5, h⟩
      · rw [hc5.1, hc5.2]
        refine am_bd h (fun q6 hq6 h => ?_)
        refine ev_call (mi := 77) (as := [.ref 25, .ref 25]) (rest := []) rfl rfl (Nat.le_of_ble_eq_true rfl) (fx_Text_firstUnlike_25_25_e (d := d) hq6) ?_
        show am_Ev _ _ _ _ 48 _ _ _ _ _
        obtain rfl := Option.some.inj h
        exact ev_ireturn rfl rfl
      rcases am_if h with ⟨hc7, h⟩ | ⟨hc7, h⟩
      · rw [hc7.1, hc7.2]
        refine am_bd h (fun q8 hq8 h => ?_)
        refine ev_call (mi := 77) (as := [.ref 25, .ref 28]) (rest := []) rfl rfl (Nat.le_of_ble_eq_true rfl) (fx_Text_firstUnlike_e (d := d) hq8) ?_
        show am_Ev _ _ _ _ 48 _ _ _ _ _
        obtain rfl := Option.some.inj h
        exact ev_ireturn rfl rfl
      rcases am_if h with ⟨hc9, h⟩ | ⟨hc9, h⟩
      · rw [hc9.1, hc9.2]
        refine am_bd h (fun q10 hq10 h => ?_)
        refine ev_call (mi := 77) (as := [.ref 28, .ref 25]) (rest := []) rfl rfl (Nat.le_of_ble_eq_true rfl) (fx_Text_firstUnlike_28_25_e (d := d) hq10) ?_
        show am_Ev _ _ _ _ 48 _ _ _ _ _
        obtain rfl := Option.some.inj h
        exact ev_ireturn rfl rfl
      rcases am_if h with ⟨hc11, h⟩ | ⟨hc11, h⟩
      · rw [hc11.1, hc11.2]
        refine am_bd h (fun q12 hq12 h => ?_)
        refine ev_call (mi := 77) (as := [.ref 28, .ref 28]) (rest := []) rfl rfl (Nat.le_of_ble_eq_true rfl) (fx_Text_firstUnlike_28_28_e (d := d) hq12) ?_
        show am_Ev _ _ _ _ 48 _ _ _ _ _
        obtain rfl := Option.some.inj h
        exact ev_ireturn rfl rfl
      cases h
/-! PartedLand$Estate.isKind ('I',): T -/
def fx_Estate_isKind (a0 : Int32) (σ : am_S) : Int32 := (if a0 < 0 then (0 : Int32) else (if (7 : Int32) ≤ a0 then (0 : Int32) else (1 : Int32)))
set_option maxRecDepth 100000 in
theorem fx_Estate_isKind_e {X : Nat} {xs : Nat → Int32} {d : Nat} {a0 : Int32} {σ : am_S} {o : Int32} (h : fx_Estate_isKind a0 σ = o) : am_Ev am_sh (am_exx X xs) (d + 0) mm_4 0 [.int a0] [] σ (some (.int o)) σ := by
  unfold fx_Estate_isKind at h
  refine ev_iload_n (pc' := 1) rfl rfl rfl ?_
  rcases am_if h with ⟨hc1, h⟩ | ⟨hc1, h⟩
  · refine ev_if_t (pc' := 16) rfl rfl (cb_lt_t hc1) ?_
    refine ev_iconst (pc' := 17) (b := (0 : Int32)) rfl rfl rfl ?_
    subst h
    exact ev_zreturn rfl rfl rfl
  · refine ev_if_f (pc' := 4) rfl (by decide) rfl (cb_lt_f hc1) ?_
    refine ev_iload_n (pc' := 5) rfl rfl rfl ?_
    refine ev_getstatic (pc' := 8) rfl rfl rfl ?_
    refine ev_arraylength (pc' := 9) (b := (7 : Int32)) rfl rfl rfl rfl ?_
    rcases am_if h with ⟨hc2, h⟩ | ⟨hc2, h⟩
    · refine ev_ic_t (pc' := 16) rfl rfl (cb_ge_t hc2) ?_
      refine ev_iconst (pc' := 17) (b := (0 : Int32)) rfl rfl rfl ?_
      subst h
      exact ev_zreturn rfl rfl rfl
    · refine ev_ic_f (pc' := 12) rfl (by decide) rfl (cb_ge_f hc2) ?_
      refine ev_iconst (pc' := 13) (b := (1 : Int32)) rfl rfl rfl ?_
      refine ev_goto (pc' := 17) rfl rfl ?_
      subst h
      exact ev_zreturn rfl rfl rfl
/-! PartedLand$Estate.isUnder ('I', 'I'): P -/
def fx_Estate_isUnder_b4 (N : Nat) : Nat → Int32 → Int32 → Int32 → am_S → Option Int32
  | 0, _, _, _, _ => none
  | n + 1, x1, x2, x3, σ => (if (7 : Int32) ≤ x3 then some (0 : Int32) else (if (fx_Estate_isKind x2 σ) = 0 then some (0 : Int32) else (if x2 = x1 then some (1 : Int32) else am_g (am_in x2 7) <| fx_Estate_isUnder_b4 N n x1 (am_abv x2.toNatClampNeg) (x3 + (1 : Int32)) σ)))
set_option maxRecDepth 100000 in
theorem fx_Estate_isUnder_b4_e {X : Nat} {xs : Nat → Int32} {d : Nat} {N : Nat} : ∀ {n : Nat} {x1 : Int32} {x2 : Int32} {x3 : Int32} {w0 : Value} {σ : am_S} {o : Int32}, fx_Estate_isUnder_b4 N n x1 x2 x3 σ = some o → am_Ev am_sh (am_exx X xs) (d + 1) mm_5 4 [w0, .int x1, .int x2, .int x3] [] σ (some (.int o)) σ := by
  intro n
  induction n with
  | zero => intro x1 x2 x3 w0 σ o h; cases h
  | succ n ih =>
    intro x1 x2 x3 w0 σ o h
    unfold fx_Estate_isUnder_b4 at h
    refine ev_iload_n (pc' := 5) rfl rfl rfl ?_
    refine ev_getstatic (pc' := 8) rfl rfl rfl ?_
    refine ev_arraylength (pc' := 9) (b := (7 : Int32)) rfl rfl rfl rfl ?_
    rcases am_if h with ⟨hc1, h⟩ | ⟨hc1, h⟩
    · refine ev_ic_t (pc' := 38) rfl rfl (cb_ge_t hc1) ?_
      refine ev_iconst (pc' := 39) (b := (0 : Int32)) rfl rfl rfl ?_
      obtain rfl := Option.some.inj h
      exact ev_zreturn rfl rfl rfl
    · refine ev_ic_f (pc' := 12) rfl (by decide) rfl (cb_ge_f hc1) ?_
      refine ev_iload_n (pc' := 13) rfl rfl rfl ?_
      refine ev_call (mi := 4) (as := [.int x2]) (rest := []) rfl rfl (Nat.le_of_ble_eq_true rfl) (fx_Estate_isKind_e (d := d) rfl) ?_
      show am_Ev _ _ _ _ 16 _ _ _ _ _
      rcases am_if h with ⟨hc2, h⟩ | ⟨hc2, h⟩
      · refine ev_if_t (pc' := 38) rfl rfl (cb_eq_t hc2) ?_
        refine ev_iconst (pc' := 39) (b := (0 : Int32)) rfl rfl rfl ?_
        obtain rfl := Option.some.inj h
        exact ev_zreturn rfl rfl rfl
      · refine ev_if_f (pc' := 19) rfl (by decide) rfl (cb_eq_f hc2) ?_
        refine ev_iload_n (pc' := 20) rfl rfl rfl ?_
        refine ev_iload_n (pc' := 21) rfl rfl rfl ?_
        rcases am_if h with ⟨hc3, h⟩ | ⟨hc3, h⟩
        · refine ev_ic_f (pc' := 24) rfl (by decide) rfl (cb_ne_f hc3) ?_
          refine ev_iconst (pc' := 25) (b := (1 : Int32)) rfl rfl rfl ?_
          obtain rfl := Option.some.inj h
          exact ev_zreturn rfl rfl rfl
        · refine ev_ic_t (pc' := 26) rfl rfl (cb_ne_t hc3) ?_
          refine ev_getstatic (pc' := 29) rfl rfl rfl ?_
          refine ev_iload_n (pc' := 30) rfl rfl rfl ?_
          obtain ⟨hg4, h⟩ := am_g_some h
          refine ev_iaload_x (pc' := 31) rfl rfl rfl rfl hg4 ?_
          refine ev_istore_n (pc' := 32) (L' := [w0, .int x1, .int (am_abv x2.toNatClampNeg), .int x3]) rfl rfl rfl rfl ?_
          refine ev_iinc (pc' := 35) (L' := [w0, .int x1, .int (am_abv x2.toNatClampNeg), .int (x3 + (1 : Int32))]) (b := (1 : Int32)) rfl rfl rfl rfl rfl ?_
          refine ev_goto (pc' := 4) rfl rfl ?_
          exact ih h
def fx_Estate_isUnder (N : Nat) (a0 : Int32) (a1 : Int32) (σ : am_S) : Option Int32 := fx_Estate_isUnder_b4 N N a1 a0 (0 : Int32) σ
set_option maxRecDepth 100000 in
theorem fx_Estate_isUnder_e {X : Nat} {xs : Nat → Int32} {d : Nat} {N : Nat} {a0 : Int32} {a1 : Int32} {σ : am_S} {o : Int32} (h : fx_Estate_isUnder N a0 a1 σ = some o) : am_Ev am_sh (am_exx X xs) (d + 1) mm_5 0 [.int a0, .int a1, .null, .null] [] σ (some (.int o)) σ := by
  unfold fx_Estate_isUnder at h
  refine ev_iload_n (pc' := 1) rfl rfl rfl ?_
  refine ev_istore_n (pc' := 2) (L' := [.int a0, .int a1, .int a0, .null]) rfl rfl rfl rfl ?_
  refine ev_iconst (pc' := 3) (b := (0 : Int32)) rfl rfl rfl ?_
  refine ev_istore_n (pc' := 4) (L' := [.int a0, .int a1, .int a0, .int (0 : Int32)]) rfl rfl rfl rfl ?_
  exact fx_Estate_isUnder_b4_e h
/-! PartedLand$Estate.hasThing (34, 'I'): T -/
def fx_Estate_hasThing (a1 : Int32) (σ : am_S) : Int32 := (if a1 < 0 then (0 : Int32) else (if (σ 34 6) ≤ a1 then (0 : Int32) else (1 : Int32)))
set_option maxRecDepth 100000 in
theorem fx_Estate_hasThing_e {X : Nat} {xs : Nat → Int32} {d : Nat} {a1 : Int32} {σ : am_S} {o : Int32} (h : fx_Estate_hasThing a1 σ = o) : am_Ev am_sh (am_exx X xs) (d + 0) mm_6 0 [.ref 34, .int a1] [] σ (some (.int o)) σ := by
  unfold fx_Estate_hasThing at h
  refine ev_iload_n (pc' := 1) rfl rfl rfl ?_
  rcases am_if h with ⟨hc1, h⟩ | ⟨hc1, h⟩
  · refine ev_if_t (pc' := 16) rfl rfl (cb_lt_t hc1) ?_
    refine ev_iconst (pc' := 17) (b := (0 : Int32)) rfl rfl rfl ?_
    subst h
    exact ev_zreturn rfl rfl rfl
  · refine ev_if_f (pc' := 4) rfl (by decide) rfl (cb_lt_f hc1) ?_
    refine ev_iload_n (pc' := 5) rfl rfl rfl ?_
    refine ev_aload_n (pc' := 6) rfl rfl rfl ?_
    refine ev_getfield (pc' := 9) (w := .int (σ 34 6)) rfl rfl rfl rfl ?_
    rcases am_if h with ⟨hc2, h⟩ | ⟨hc2, h⟩
    · refine ev_ic_t (pc' := 16) rfl rfl (cb_ge_t hc2) ?_
      refine ev_iconst (pc' := 17) (b := (0 : Int32)) rfl rfl rfl ?_
      subst h
      exact ev_zreturn rfl rfl rfl
    · refine ev_ic_f (pc' := 12) rfl (by decide) rfl (cb_ge_f hc2) ?_
      refine ev_iconst (pc' := 13) (b := (1 : Int32)) rfl rfl rfl ?_
      refine ev_goto (pc' := 17) rfl rfl ?_
      subst h
      exact ev_zreturn rfl rfl rfl
/-! PartedLand$Estate.isOf (34, 'I', 'I'): P -/
def fx_Estate_isOf (N : Nat) (a1 : Int32) (a2 : Int32) (σ : am_S) : Option Int32 := am_g (am_in a1 24) <| (fx_Estate_isUnder N (σ 35 a1.toNatClampNeg) a2 σ).bind fun q2 => am_g (am_bo q2) <| some q2
set_option maxRecDepth 100000 in
theorem fx_Estate_isOf_e {X : Nat} {xs : Nat → Int32} {d : Nat} {N : Nat} {a1 : Int32} {a2 : Int32} {σ : am_S} {o : Int32} (h : fx_Estate_isOf N a1 a2 σ = some o) : am_Ev am_sh (am_exx X xs) (d + 2) mm_7 0 [.ref 34, .int a1, .int a2] [] σ (some (.int o)) σ := by
  unfold fx_Estate_isOf at h
  refine ev_aload_n (pc' := 1) rfl rfl rfl ?_
  refine ev_getfield (pc' := 4) (w := .ref 35) rfl rfl rfl rfl ?_
  refine ev_iload_n (pc' := 5) rfl rfl rfl ?_
  obtain ⟨hg1, h⟩ := am_g_some h
  refine ev_iaload (pc' := 6) rfl rfl rfl hg1 ?_
  refine ev_iload_n (pc' := 7) rfl rfl rfl ?_
  refine am_bd h (fun q2 hq2 h => ?_)
  refine ev_call (mi := 5) (as := [.int (σ 35 a1.toNatClampNeg), .int a2]) (rest := []) rfl rfl (Nat.le_of_ble_eq_true rfl) (fx_Estate_isUnder_e (d := d) hq2) ?_
  show am_Ev _ _ _ _ 10 _ _ _ _ _
  obtain ⟨hg3, h⟩ := am_g_some h
  obtain rfl := Option.some.inj h
  exact ev_zreturn rfl rfl hg3
/-! PartedLand.isPlaceOf (0, 'I', 'I'): P -/
def fx_isPlaceOf (N : Nat) (a1 : Int32) (a2 : Int32) (σ : am_S) : Option Int32 := (fx_Estate_isUnder N a1 (1 : Int32) σ).bind fun q1 => (if q1 = 0 then (if a1 = (5 : Int32) then (if (fx_Estate_hasThing a2 σ) = 0 then some (0 : Int32) else (fx_Estate_isOf N a2 (1 : Int32) σ).bind fun q5 => (if q5 = 0 then some (0 : Int32) else some (1 : Int32))) else (if a2 = 0 then some (1 : Int32) else some (0 : Int32))) else am_g (am_bo (fx_Land_hasParish a2 σ)) <| some (fx_Land_hasParish a2 σ))
set_option maxRecDepth 100000 in
theorem fx_isPlaceOf_e {X : Nat} {xs : Nat → Int32} {d : Nat} {N : Nat} {a1 : Int32} {a2 : Int32} {σ : am_S} {o : Int32} (h : fx_isPlaceOf N a1 a2 σ = some o) : am_Ev am_sh (am_exx X xs) (d + 3) mm_131 0 [.ref 0, .int a1, .int a2] [] σ (some (.int o)) σ := by
  unfold fx_isPlaceOf at h
  refine ev_iload_n (pc' := 1) rfl rfl rfl ?_
  refine ev_iconst (pc' := 2) (b := (1 : Int32)) rfl rfl rfl ?_
  refine am_bd h (fun q1 hq1 h => ?_)
  refine ev_call (mi := 5) (as := [.int a1, .int (1 : Int32)]) (rest := []) rfl rfl (Nat.le_of_ble_eq_true rfl) (fx_Estate_isUnder_e (d := d + 1) hq1) ?_
  show am_Ev _ _ _ _ 5 _ _ _ _ _
  rcases am_if h with ⟨hc2, h⟩ | ⟨hc2, h⟩
  · refine ev_if_t (pc' := 17) rfl rfl (cb_eq_t hc2) ?_
    refine ev_iload_n (pc' := 18) rfl rfl rfl ?_
    refine ev_iconst (pc' := 19) (b := (5 : Int32)) rfl rfl rfl ?_
    rcases am_if h with ⟨hc3, h⟩ | ⟨hc3, h⟩
    · refine ev_ic_f (pc' := 22) rfl (by decide) rfl (cb_ne_f hc3) ?_
      refine ev_aload_n (pc' := 23) rfl rfl rfl ?_
      refine ev_getfield (pc' := 26) (w := .ref 34) rfl rfl rfl rfl ?_
      refine ev_iload_n (pc' := 27) rfl rfl rfl ?_
      refine ev_call (mi := 6) (as := [.ref 34, .int a2]) (rest := []) rfl rfl (Nat.le_of_ble_eq_true rfl) (fx_Estate_hasThing_e (d := d + 2) rfl) ?_
      show am_Ev _ _ _ _ 30 _ _ _ _ _
      rcases am_if h with ⟨hc4, h⟩ | ⟨hc4, h⟩
      · refine ev_if_t (pc' := 49) rfl rfl (cb_eq_t hc4) ?_
        refine ev_iconst (pc' := 50) (b := (0 : Int32)) rfl rfl rfl ?_
        obtain rfl := Option.some.inj h
        exact ev_zreturn rfl rfl rfl
      · refine ev_if_f (pc' := 33) rfl (by decide) rfl (cb_eq_f hc4) ?_
        refine ev_aload_n (pc' := 34) rfl rfl rfl ?_
        refine ev_getfield (pc' := 37) (w := .ref 34) rfl rfl rfl rfl ?_
        refine ev_iload_n (pc' := 38) rfl rfl rfl ?_
        refine ev_iconst (pc' := 39) (b := (1 : Int32)) rfl rfl rfl ?_
        refine am_bd h (fun q5 hq5 h => ?_)
        refine ev_call (mi := 7) (as := [.ref 34, .int a2, .int (1 : Int32)]) (rest := []) rfl rfl (Nat.le_of_ble_eq_true rfl) (fx_Estate_isOf_e (d := d) hq5) ?_
        show am_Ev _ _ _ _ 42 _ _ _ _ _
        rcases am_if h with ⟨hc6, h⟩ | ⟨hc6, h⟩
        · refine ev_if_t (pc' := 49) rfl rfl (cb_eq_t hc6) ?_
          refine ev_iconst (pc' := 50) (b := (0 : Int32)) rfl rfl rfl ?_
          obtain rfl := Option.some.inj h
          exact ev_zreturn rfl rfl rfl
        · refine ev_if_f (pc' := 45) rfl (by decide) rfl (cb_eq_f hc6) ?_
          refine ev_iconst (pc' := 46) (b := (1 : Int32)) rfl rfl rfl ?_
          refine ev_goto (pc' := 50) rfl rfl ?_
          obtain rfl := Option.some.inj h
          exact ev_zreturn rfl rfl rfl
    · refine ev_ic_t (pc' := 51) rfl rfl (cb_ne_t hc3) ?_
      refine ev_iload_n (pc' := 52) rfl rfl rfl ?_
      rcases am_if h with ⟨hc7, h⟩ | ⟨hc7, h⟩
      · refine ev_if_f (pc' := 55) rfl (by decide) rfl (cb_ne_f hc7) ?_
        refine ev_iconst (pc' := 56) (b := (1 : Int32)) rfl rfl rfl ?_
        refine ev_goto (pc' := 60) rfl rfl ?_
        obtain rfl := Option.some.inj h
        exact ev_zreturn rfl rfl rfl
      · refine ev_if_t (pc' := 59) rfl rfl (cb_ne_t hc7) ?_
        refine ev_iconst (pc' := 60) (b := (0 : Int32)) rfl rfl rfl ?_
        obtain rfl := Option.some.inj h
        exact ev_zreturn rfl rfl rfl
  · refine ev_if_f (pc' := 8) rfl (by decide) rfl (cb_eq_f hc2) ?_
    refine ev_aload_n (pc' := 9) rfl rfl rfl ?_
    refine ev_getfield (pc' := 12) (w := .ref 1) rfl rfl rfl rfl ?_
    refine ev_iload_n (pc' := 13) rfl rfl rfl ?_
    refine ev_call (mi := 27) (as := [.ref 1, .int a2]) (rest := []) rfl rfl (Nat.le_of_ble_eq_true rfl) (fx_Land_hasParish_e (d := d + 2) rfl) ?_
    show am_Ev _ _ _ _ 16 _ _ _ _ _
    obtain ⟨hg8, h⟩ := am_g_some h
    obtain rfl := Option.some.inj h
    exact ev_zreturn rfl rfl hg8
/-! PartedLand$Estate.addThing (34, 'I', 'I', 'I'): S -/
def fx_Estate_addThing (a1 : Int32) (a2 : Int32) (a3 : Int32) (σ : am_S) : Option (Int32 × am_S) := am_g (am_in (σ 34 6) 24) <| am_g (am_in (σ 34 6) 24) <| am_g (am_in (σ 34 6) 24) <| some ((((σ 34 6) + (1 : Int32)) - (1 : Int32)), (am_up (am_up (am_up (am_up σ 35 (σ 34 6).toNatClampNeg a1) 36 (σ 34 6).toNatClampNeg a2) 37 (σ 34 6).toNatClampNeg a3) 34 6 ((σ 34 6) + (1 : Int32))))
set_option maxRecDepth 100000 in
theorem fx_Estate_addThing_e {X : Nat} {xs : Nat → Int32} {d : Nat} {a1 : Int32} {a2 : Int32} {a3 : Int32} {σ : am_S} {o : Int32 × am_S} (h : fx_Estate_addThing a1 a2 a3 σ = some o) : am_Ev am_sh (am_exx X xs) (d + 0) mm_8 0 [.ref 34, .int a1, .int a2, .int a3] [] σ (some (.int o.1)) o.2 := by
  unfold fx_Estate_addThing at h
  refine ev_aload_n (pc' := 1) rfl rfl rfl ?_
  refine ev_getfield (pc' := 4) (w := .ref 35) rfl rfl rfl rfl ?_
  refine ev_aload_n (pc' := 5) rfl rfl rfl ?_
  refine ev_getfield (pc' := 8) (w := .int (σ 34 6)) rfl rfl rfl rfl ?_
  refine ev_iload_n (pc' := 9) rfl rfl rfl ?_
  obtain ⟨hg1, h⟩ := am_g_some h
  refine ev_iastore (pc' := 10) rfl rfl rfl hg1 ?_
  refine ev_aload_n (pc' := 11) rfl rfl rfl ?_
  refine ev_getfield (pc' := 14) (w := .ref 36) rfl rfl rfl rfl ?_
  refine ev_aload_n (pc' := 15) rfl rfl rfl ?_
  refine ev_getfield (pc' := 18) (w := .int (σ 34 6)) rfl rfl rfl rfl ?_
  refine ev_iload_n (pc' := 19) rfl rfl rfl ?_
  obtain ⟨hg2, h⟩ := am_g_some h
  refine ev_iastore (pc' := 20) rfl rfl rfl hg2 ?_
  refine ev_aload_n (pc' := 21) rfl rfl rfl ?_
  refine ev_getfield (pc' := 24) (w := .ref 37) rfl rfl rfl rfl ?_
  refine ev_aload_n (pc' := 25) rfl rfl rfl ?_
  refine ev_getfield (pc' := 28) (w := .int (σ 34 6)) rfl rfl rfl rfl ?_
  refine ev_iload_n (pc' := 29) rfl rfl rfl ?_
  obtain ⟨hg3, h⟩ := am_g_some h
  refine ev_iastore (pc' := 30) rfl rfl rfl hg3 ?_
  refine ev_aload_n (pc' := 31) rfl rfl rfl ?_
  refine ev_dup (pc' := 32) rfl rfl ?_
  refine ev_getfield (pc' := 35) (w := .int (σ 34 6)) rfl rfl rfl rfl ?_
  refine ev_iconst (pc' := 36) (b := (1 : Int32)) rfl rfl rfl ?_
  refine ev_iadd (pc' := 37) rfl rfl ?_
  refine ev_putfield (pc' := 40) (ci := 1) (f := 6) (z := 0) rfl rfl rfl rfl rfl ?_
  refine ev_aload_n (pc' := 41) rfl rfl rfl ?_
  refine ev_getfield (pc' := 44) (w := .int ((σ 34 6) + (1 : Int32))) rfl rfl rfl rfl ?_
  refine ev_iconst (pc' := 45) (b := (1 : Int32)) rfl rfl rfl ?_
  refine ev_isub (pc' := 46) rfl rfl ?_
  obtain rfl := Option.some.inj h
  exact ev_ireturn rfl rfl
/-! PartedLand.thing (0, 'I', 'I'): S -/
def fx_thing_b15 (N : Nat) (σ : am_S) : Option (Int32 × am_S) := (fx_finding (-1000000001 : Int32) σ).bind fun q1 => some (q1.1, q1.2)
set_option maxRecDepth 100000 in
theorem fx_thing_b15_e {X : Nat} {xs : Nat → Int32} {d : Nat} {N : Nat} {w1 : Value} {w2 : Value} {w3 : Value} {w4 : Value} {σ : am_S} {o : Int32 × am_S} (h : fx_thing_b15 N σ = some o) : am_Ev am_sh (am_exx X xs) (d + 4) mm_102 15 [.ref 0, w1, w2, w3, w4] [] σ (some (.int o.1)) o.2 := by
  unfold fx_thing_b15 at h
  refine ev_aload_n (pc' := 16) rfl rfl rfl ?_
  refine ev_ldc (pc' := 18) (b := (-1000000001 : Int32)) rfl rfl rfl ?_
  refine am_bd h (fun q1 hq1 h => ?_)
  refine ev_call (mi := 129) (as := [.ref 0, .int (-1000000001 : Int32)]) (rest := []) rfl rfl (Nat.le_of_ble_eq_true rfl) (fx_finding_e (d := d + 3) hq1) ?_
  show am_Ev _ _ _ _ 21 _ _ _ _ _
  obtain rfl := Option.some.inj h
  exact ev_ireturn rfl rfl
def fx_thing_b52 (N : Nat) (σ : am_S) : Option (Int32 × am_S) := (fx_finding (-1000000001 : Int32) σ).bind fun q1 => some (q1.1, q1.2)
set_option maxRecDepth 100000 in
theorem fx_thing_b52_e {X : Nat} {xs : Nat → Int32} {d : Nat} {N : Nat} {w1 : Value} {w2 : Value} {w3 : Value} {w4 : Value} {σ : am_S} {o : Int32 × am_S} (h : fx_thing_b52 N σ = some o) : am_Ev am_sh (am_exx X xs) (d + 4) mm_102 52 [.ref 0, w1, w2, w3, w4] [] σ (some (.int o.1)) o.2 := by
  unfold fx_thing_b52 at h
  refine ev_aload_n (pc' := 53) rfl rfl rfl ?_
  refine ev_ldc (pc' := 55) (b := (-1000000001 : Int32)) rfl rfl rfl ?_
  refine am_bd h (fun q1 hq1 h => ?_)
  refine ev_call (mi := 129) (as := [.ref 0, .int (-1000000001 : Int32)]) (rest := []) rfl rfl (Nat.le_of_ble_eq_true rfl) (fx_finding_e (d := d + 3) hq1) ?_
  show am_Ev _ _ _ _ 58 _ _ _ _ _
  obtain rfl := Option.some.inj h
  exact ev_ireturn rfl rfl
def fx_thing (N : Nat) (a1 : Int32) (a2 : Int32) (σ : am_S) : Option (Int32 × am_S) := (if a1 < 0 then fx_thing_b15 N σ else (if a2 < 0 then fx_thing_b15 N σ else (if a2 ≤ (10000 : Int32) then (if (fx_Estate_isKind (a1 / (1000 : Int32)) σ) = 0 then fx_thing_b52 N σ else (fx_isPlaceOf N (a1 / (1000 : Int32)) (a1 - a1 / (1000 : Int32) * (1000 : Int32)) σ).bind fun q5 => (if q5 = 0 then fx_thing_b52 N σ else (if (σ 34 6) < (24 : Int32) then (fx_Parting_forgetAll σ).bind fun q8 => (fx_Estate_addThing (a1 / (1000 : Int32)) (a1 - a1 / (1000 : Int32) * (1000 : Int32)) a2 q8).bind fun q9 => some (q9.1, q9.2) else (fx_finding (-1000000004 : Int32) σ).bind fun q10 => some (q10.1, q10.2)))) else fx_thing_b15 N σ)))
set_option maxRecDepth 100000 in
theorem fx_thing_e {X : Nat} {xs : Nat → Int32} {d : Nat} {N : Nat} {a1 : Int32} {a2 : Int32} {σ : am_S} {o : Int32 × am_S} (h : fx_thing N a1 a2 σ = some o) : am_Ev am_sh (am_exx X xs) (d + 4) mm_102 0 [.ref 0, .int a1, .int a2, .null, .null] [] σ (some (.int o.1)) o.2 := by
  unfold fx_thing at h
  refine ev_iload_n (pc' := 1) rfl rfl rfl ?_
  rcases am_if h with ⟨hc1, h⟩ | ⟨hc1, h⟩
  · refine ev_if_t (pc' := 15) rfl rfl (cb_lt_t hc1) ?_
    exact fx_thing_b15_e h
  · refine ev_if_f (pc' := 4) rfl (by decide) rfl (cb_lt_f hc1) ?_
    refine ev_iload_n (pc' := 5) rfl rfl rfl ?_
    rcases am_if h with ⟨hc2, h⟩ | ⟨hc2, h⟩
    · refine ev_if_t (pc' := 15) rfl rfl (cb_lt_t hc2) ?_
      exact fx_thing_b15_e h
    · refine ev_if_f (pc' := 8) rfl (by decide) rfl (cb_lt_f hc2) ?_
      refine ev_iload_n (pc' := 9) rfl rfl rfl ?_
      refine ev_sipush (pc' := 12) (b := (10000 : Int32)) rfl rfl rfl ?_
      rcases am_if h with ⟨hc3, h⟩ | ⟨hc3, h⟩
      · refine ev_ic_t (pc' := 22) rfl rfl (cb_le_t hc3) ?_
        refine ev_iload_n (pc' := 23) rfl rfl rfl ?_
        refine ev_sipush (pc' := 26) (b := (1000 : Int32)) rfl rfl rfl ?_
        refine ev_idiv (pc' := 27) rfl rfl (by decide) ?_
        refine ev_istore_n (pc' := 28) (L' := [.ref 0, .int a1, .int a2, .int (a1 / (1000 : Int32)), .null]) rfl rfl rfl rfl ?_
        refine ev_iload_n (pc' := 29) rfl rfl rfl ?_
        refine ev_sipush (pc' := 32) (b := (1000 : Int32)) rfl rfl rfl ?_
        refine ev_irem (pc' := 33) rfl rfl (by decide) ?_
        refine ev_istore (pc' := 35) (L' := [.ref 0, .int a1, .int a2, .int (a1 / (1000 : Int32)), .int (a1 - a1 / (1000 : Int32) * (1000 : Int32))]) rfl rfl rfl rfl ?_
        refine ev_iload_n (pc' := 36) rfl rfl rfl ?_
        refine ev_call (mi := 4) (as := [.int (a1 / (1000 : Int32))]) (rest := []) rfl rfl (Nat.le_of_ble_eq_true rfl) (fx_Estate_isKind_e (d := d + 3) rfl) ?_
        show am_Ev _ _ _ _ 39 _ _ _ _ _
        rcases am_if h with ⟨hc4, h⟩ | ⟨hc4, h⟩
        · refine ev_if_t (pc' := 52) rfl rfl (cb_eq_t hc4) ?_
          exact fx_thing_b52_e h
        · refine ev_if_f (pc' := 42) rfl (by decide) rfl (cb_eq_f hc4) ?_
          refine ev_aload_n (pc' := 43) rfl rfl rfl ?_
          refine ev_iload_n (pc' := 44) rfl rfl rfl ?_
          refine ev_iload (pc' := 46) rfl rfl rfl ?_
          refine am_bd h (fun q5 hq5 h => ?_)
          refine ev_call (mi := 131) (as := [.ref 0, .int (a1 / (1000 : Int32)), .int (a1 - a1 / (1000 : Int32) * (1000 : Int32))]) (rest := []) rfl rfl (Nat.le_of_ble_eq_true rfl) (fx_isPlaceOf_e (d := d) hq5) ?_
          show am_Ev _ _ _ _ 49 _ _ _ _ _
          rcases am_if h with ⟨hc6, h⟩ | ⟨hc6, h⟩
          · refine ev_if_f (pc' := 52) rfl (by decide) rfl (cb_ne_f hc6) ?_
            exact fx_thing_b52_e h
          · refine ev_if_t (pc' := 59) rfl rfl (cb_ne_t hc6) ?_
            refine ev_aload_n (pc' := 60) rfl rfl rfl ?_
            refine ev_getfield (pc' := 63) (w := .ref 34) rfl rfl rfl rfl ?_
            refine ev_getfield (pc' := 66) (w := .int (σ 34 6)) rfl rfl rfl rfl ?_
            refine ev_bipush (pc' := 68) (b := (24 : Int32)) rfl rfl rfl ?_
            rcases am_if h with ⟨hc7, h⟩ | ⟨hc7, h⟩
            · refine ev_ic_t (pc' := 78) rfl rfl (cb_lt_t hc7) ?_
              refine ev_aload_n (pc' := 79) rfl rfl rfl ?_
              refine ev_getfield (pc' := 82) (w := .ref 41) rfl rfl rfl rfl ?_
              refine am_bd h (fun q8 hq8 h => ?_)
              refine ev_call (mi := 34) (as := [.ref 41]) (rest := []) rfl rfl (Nat.le_of_ble_eq_true rfl) (fx_Parting_forgetAll_e (d := d + 3) hq8) ?_
              show am_Ev _ _ _ _ 85 _ _ _ _ _
              refine ev_aload_n (pc' := 86) rfl rfl rfl ?_
              refine ev_getfield (pc' := 89) (w := .ref 34) rfl rfl rfl rfl ?_
              refine ev_iload_n (pc' := 90) rfl rfl rfl ?_
              refine ev_iload (pc' := 92) rfl rfl rfl ?_
              refine ev_iload_n (pc' := 93) rfl rfl rfl ?_
              refine am_bd h (fun q9 hq9 h => ?_)
              refine ev_call (mi := 8) (as := [.ref 34, .int (a1 / (1000 : Int32)), .int (a1 - a1 / (1000 : Int32) * (1000 : Int32)), .int a2]) (rest := []) rfl rfl (Nat.le_of_ble_eq_true rfl) (fx_Estate_addThing_e (d := d + 3) hq9) ?_
              show am_Ev _ _ _ _ 96 _ _ _ _ _
              obtain rfl := Option.some.inj h
              exact ev_ireturn rfl rfl
            · refine ev_ic_f (pc' := 71) rfl (by decide) rfl (cb_lt_f hc7) ?_
              refine ev_aload_n (pc' := 72) rfl rfl rfl ?_
              refine ev_ldc (pc' := 74) (b := (-1000000004 : Int32)) rfl rfl rfl ?_
              refine am_bd h (fun q10 hq10 h => ?_)
              refine ev_call (mi := 129) (as := [.ref 0, .int (-1000000004 : Int32)]) (rest := []) rfl rfl (Nat.le_of_ble_eq_true rfl) (fx_finding_e (d := d + 3) hq10) ?_
              show am_Ev _ _ _ _ 77 _ _ _ _ _
              obtain rfl := Option.some.inj h
              exact ev_ireturn rfl rfl
      · refine ev_ic_f (pc' := 15) rfl (by decide) rfl (cb_le_f hc3) ?_
        exact fx_thing_b15_e h
/-! PartedLand.as (0, 'I', 'I'): S -/
def fx_as_b18 (N : Nat) (σ : am_S) : Option (Int32 × am_S) := (fx_finding (-1000000001 : Int32) σ).bind fun q1 => some (q1.1, q1.2)
set_option maxRecDepth 100000 in
theorem fx_as_b18_e {X : Nat} {xs : Nat → Int32} {d : Nat} {N : Nat} {w1 : Value} {w2 : Value} {σ : am_S} {o : Int32 × am_S} (h : fx_as_b18 N σ = some o) : am_Ev am_sh (am_exx X xs) (d + 3) mm_103 18 [.ref 0, w1, w2] [] σ (some (.int o.1)) o.2 := by
  unfold fx_as_b18 at h
  refine ev_aload_n (pc' := 19) rfl rfl rfl ?_
  refine ev_ldc (pc' := 21) (b := (-1000000001 : Int32)) rfl rfl rfl ?_
  refine am_bd h (fun q1 hq1 h => ?_)
  refine ev_call (mi := 129) (as := [.ref 0, .int (-1000000001 : Int32)]) (rest := []) rfl rfl (Nat.le_of_ble_eq_true rfl) (fx_finding_e (d := d + 2) hq1) ?_
  show am_Ev _ _ _ _ 24 _ _ _ _ _
  obtain rfl := Option.some.inj h
  exact ev_ireturn rfl rfl
def fx_as (N : Nat) (a1 : Int32) (a2 : Int32) (σ : am_S) : Option (Int32 × am_S) := (if (fx_Estate_hasThing a1 σ) = 0 then fx_as_b18 N σ else (if (fx_Estate_isKind a2 σ) = 0 then fx_as_b18 N σ else (fx_Estate_isOf N a1 a2 σ).bind fun q3 => (if q3 = 0 then (fx_finding (-1000000005 : Int32) σ).bind fun q5 => some (q5.1, q5.2) else am_g (am_in a1 24) <| some ((σ 37 a1.toNatClampNeg), σ))))
set_option maxRecDepth 100000 in
theorem fx_as_e {X : Nat} {xs : Nat → Int32} {d : Nat} {N : Nat} {a1 : Int32} {a2 : Int32} {σ : am_S} {o : Int32 × am_S} (h : fx_as N a1 a2 σ = some o) : am_Ev am_sh (am_exx X xs) (d + 3) mm_103 0 [.ref 0, .int a1, .int a2] [] σ (some (.int o.1)) o.2 := by
  unfold fx_as at h
  refine ev_aload_n (pc' := 1) rfl rfl rfl ?_
  refine ev_getfield (pc' := 4) (w := .ref 34) rfl rfl rfl rfl ?_
  refine ev_iload_n (pc' := 5) rfl rfl rfl ?_
  refine ev_call (mi := 6) (as := [.ref 34, .int a1]) (rest := []) rfl rfl (Nat.le_of_ble_eq_true rfl) (fx_Estate_hasThing_e (d := d + 2) rfl) ?_
  show am_Ev _ _ _ _ 8 _ _ _ _ _
  rcases am_if h with ⟨hc1, h⟩ | ⟨hc1, h⟩
  · refine ev_if_t (pc' := 18) rfl rfl (cb_eq_t hc1) ?_
    exact fx_as_b18_e h
  · refine ev_if_f (pc' := 11) rfl (by decide) rfl (cb_eq_f hc1) ?_
    refine ev_iload_n (pc' := 12) rfl rfl rfl ?_
    refine ev_call (mi := 4) (as := [.int a2]) (rest := []) rfl rfl (Nat.le_of_ble_eq_true rfl) (fx_Estate_isKind_e (d := d + 2) rfl) ?_
    show am_Ev _ _ _ _ 15 _ _ _ _ _
    rcases am_if h with ⟨hc2, h⟩ | ⟨hc2, h⟩
    · refine ev_if_f (pc' := 18) rfl (by decide) rfl (cb_ne_f hc2) ?_
      exact fx_as_b18_e h
    · refine ev_if_t (pc' := 25) rfl rfl (cb_ne_t hc2) ?_
      refine ev_aload_n (pc' := 26) rfl rfl rfl ?_
      refine ev_getfield (pc' := 29) (w := .ref 34) rfl rfl rfl rfl ?_
      refine ev_iload_n (pc' := 30) rfl rfl rfl ?_
      refine ev_iload_n (pc' := 31) rfl rfl rfl ?_
      refine am_bd h (fun q3 hq3 h => ?_)
      refine ev_call (mi := 7) (as := [.ref 34, .int a1, .int a2]) (rest := []) rfl rfl (Nat.le_of_ble_eq_true rfl) (fx_Estate_isOf_e (d := d) hq3) ?_
      show am_Ev _ _ _ _ 34 _ _ _ _ _
      rcases am_if h with ⟨hc4, h⟩ | ⟨hc4, h⟩
      · refine ev_if_t (pc' := 49) rfl rfl (cb_eq_t hc4) ?_
        refine ev_aload_n (pc' := 50) rfl rfl rfl ?_
        refine ev_ldc_w (pc' := 53) (b := (-1000000005 : Int32)) rfl rfl rfl ?_
        refine am_bd h (fun q5 hq5 h => ?_)
        refine ev_call (mi := 129) (as := [.ref 0, .int (-1000000005 : Int32)]) (rest := []) rfl rfl (Nat.le_of_ble_eq_true rfl) (fx_finding_e (d := d + 2) hq5) ?_
        show am_Ev _ _ _ _ 56 _ _ _ _ _
        obtain rfl := Option.some.inj h
        exact ev_ireturn rfl rfl
      · refine ev_if_f (pc' := 37) rfl (by decide) rfl (cb_eq_f hc4) ?_
        refine ev_aload_n (pc' := 38) rfl rfl rfl ?_
        refine ev_getfield (pc' := 41) (w := .ref 34) rfl rfl rfl rfl ?_
        refine ev_getfield (pc' := 44) (w := .ref 37) rfl rfl rfl rfl ?_
        refine ev_iload_n (pc' := 45) rfl rfl rfl ?_
        obtain ⟨hg6, h⟩ := am_g_some h
        refine ev_iaload (pc' := 46) rfl rfl rfl hg6 ?_
        refine ev_goto (pc' := 56) rfl rfl ?_
        obtain rfl := Option.some.inj h
        exact ev_ireturn rfl rfl
/-! PartedLand$Estate.addTie (34, 'I', 'I'): S -/
def fx_Estate_addTie (a1 : Int32) (a2 : Int32) (σ : am_S) : Option (Int32 × am_S) := am_g (am_in (σ 34 7) 12) <| am_g (am_in (σ 34 7) 12) <| some (((σ 34 7) + (1 : Int32)), (am_up (am_up (am_up σ 39 (σ 34 7).toNatClampNeg a1) 40 (σ 34 7).toNatClampNeg a2) 34 7 ((σ 34 7) + (1 : Int32))))
set_option maxRecDepth 100000 in
theorem fx_Estate_addTie_e {X : Nat} {xs : Nat → Int32} {d : Nat} {a1 : Int32} {a2 : Int32} {σ : am_S} {o : Int32 × am_S} (h : fx_Estate_addTie a1 a2 σ = some o) : am_Ev am_sh (am_exx X xs) (d + 0) mm_9 0 [.ref 34, .int a1, .int a2] [] σ (some (.int o.1)) o.2 := by
  unfold fx_Estate_addTie at h
  refine ev_aload_n (pc' := 1) rfl rfl rfl ?_
  refine ev_getfield (pc' := 4) (w := .ref 39) rfl rfl rfl rfl ?_
  refine ev_aload_n (pc' := 5) rfl rfl rfl ?_
  refine ev_getfield (pc' := 8) (w := .int (σ 34 7)) rfl rfl rfl rfl ?_
  refine ev_iload_n (pc' := 9) rfl rfl rfl ?_
  obtain ⟨hg1, h⟩ := am_g_some h
  refine ev_iastore (pc' := 10) rfl rfl rfl hg1 ?_
  refine ev_aload_n (pc' := 11) rfl rfl rfl ?_
  refine ev_getfield (pc' := 14) (w := .ref 40) rfl rfl rfl rfl ?_
  refine ev_aload_n (pc' := 15) rfl rfl rfl ?_
  refine ev_getfield (pc' := 18) (w := .int (σ 34 7)) rfl rfl rfl rfl ?_
  refine ev_iload_n (pc' := 19) rfl rfl rfl ?_
  obtain ⟨hg2, h⟩ := am_g_some h
  refine ev_iastore (pc' := 20) rfl rfl rfl hg2 ?_
  refine ev_aload_n (pc' := 21) rfl rfl rfl ?_
  refine ev_dup (pc' := 22) rfl rfl ?_
  refine ev_getfield (pc' := 25) (w := .int (σ 34 7)) rfl rfl rfl rfl ?_
  refine ev_iconst (pc' := 26) (b := (1 : Int32)) rfl rfl rfl ?_
  refine ev_iadd (pc' := 27) rfl rfl ?_
  refine ev_putfield (pc' := 30) (ci := 1) (f := 7) (z := 0) rfl rfl rfl rfl rfl ?_
  refine ev_aload_n (pc' := 31) rfl rfl rfl ?_
  refine ev_getfield (pc' := 34) (w := .int ((σ 34 7) + (1 : Int32))) rfl rfl rfl rfl ?_
  obtain rfl := Option.some.inj h
  exact ev_ireturn rfl rfl
/-! PartedLand.tie (0, 'I', 'I'): S -/
def fx_tie_b27 (N : Nat) (σ : am_S) : Option (Int32 × am_S) := (fx_finding (-1000000001 : Int32) σ).bind fun q1 => some (q1.1, q1.2)
set_option maxRecDepth 100000 in
theorem fx_tie_b27_e {X : Nat} {xs : Nat → Int32} {d : Nat} {N : Nat} {w1 : Value} {w2 : Value} {σ : am_S} {o : Int32 × am_S} (h : fx_tie_b27 N σ = some o) : am_Ev am_sh (am_exx X xs) (d + 3) mm_104 27 [.ref 0, w1, w2] [] σ (some (.int o.1)) o.2 := by
  unfold fx_tie_b27 at h
  refine ev_aload_n (pc' := 28) rfl rfl rfl ?_
  refine ev_ldc (pc' := 30) (b := (-1000000001 : Int32)) rfl rfl rfl ?_
  refine am_bd h (fun q1 hq1 h => ?_)
  refine ev_call (mi := 129) (as := [.ref 0, .int (-1000000001 : Int32)]) (rest := []) rfl rfl (Nat.le_of_ble_eq_true rfl) (fx_finding_e (d := d + 2) hq1) ?_
  show am_Ev _ _ _ _ 33 _ _ _ _ _
  obtain rfl := Option.some.inj h
  exact ev_ireturn rfl rfl
def fx_tie_b58 (N : Nat) (σ : am_S) : Option (Int32 × am_S) := (fx_finding (-1000000005 : Int32) σ).bind fun q1 => some (q1.1, q1.2)
set_option maxRecDepth 100000 in
theorem fx_tie_b58_e {X : Nat} {xs : Nat → Int32} {d : Nat} {N : Nat} {w1 : Value} {w2 : Value} {σ : am_S} {o : Int32 × am_S} (h : fx_tie_b58 N σ = some o) : am_Ev am_sh (am_exx X xs) (d + 3) mm_104 58 [.ref 0, w1, w2] [] σ (some (.int o.1)) o.2 := by
  unfold fx_tie_b58 at h
  refine ev_aload_n (pc' := 59) rfl rfl rfl ?_
  refine ev_ldc_w (pc' := 62) (b := (-1000000005 : Int32)) rfl rfl rfl ?_
  refine am_bd h (fun q1 hq1 h => ?_)
  refine ev_call (mi := 129) (as := [.ref 0, .int (-1000000005 : Int32)]) (rest := []) rfl rfl (Nat.le_of_ble_eq_true rfl) (fx_finding_e (d := d + 2) hq1) ?_
  show am_Ev _ _ _ _ 65 _ _ _ _ _
  obtain rfl := Option.some.inj h
  exact ev_ireturn rfl rfl
def fx_tie (N : Nat) (a1 : Int32) (a2 : Int32) (σ : am_S) : Option (Int32 × am_S) := (if (fx_Estate_hasThing a1 σ) = 0 then fx_tie_b27 N σ else (if (fx_Estate_hasThing a2 σ) = 0 then fx_tie_b27 N σ else (if a1 = a2 then fx_tie_b27 N σ else (fx_Estate_isOf N a1 (3 : Int32) σ).bind fun q4 => (if q4 = 0 then fx_tie_b58 N σ else (fx_Estate_isOf N a2 (3 : Int32) σ).bind fun q6 => (if q6 = 0 then fx_tie_b58 N σ else (if (σ 34 7) < (12 : Int32) then (fx_Parting_forgetAll σ).bind fun q9 => (fx_Estate_addTie a1 a2 q9).bind fun q10 => some (q10.1, q10.2) else (fx_finding (-1000000004 : Int32) σ).bind fun q11 => some (q11.1, q11.2)))))))
set_option maxRecDepth 100000 in
theorem fx_tie_e {X : Nat} {xs : Nat → Int32} {d : Nat} {N : Nat} {a1 : Int32} {a2 : Int32} {σ : am_S} {o : Int32 × am_S} (h : fx_tie N a1 a2 σ = some o) : am_Ev am_sh (am_exx X xs) (d + 3) mm_104 0 [.ref 0, .int a1, .int a2] [] σ (some (.int o.1)) o.2 := by
  unfold fx_tie at h
  refine ev_aload_n (pc' := 1) rfl rfl rfl ?_
  refine ev_getfield (pc' := 4) (w := .ref 34) rfl rfl rfl rfl ?_
  refine ev_iload_n (pc' := 5) rfl rfl rfl ?_
  refine ev_call (mi := 6) (as := [.ref 34, .int a1]) (rest := []) rfl rfl (Nat.le_of_ble_eq_true rfl) (fx_Estate_hasThing_e (d := d + 2) rfl) ?_
  show am_Ev _ _ _ _ 8 _ _ _ _ _
  rcases am_if h with ⟨hc1, h⟩ | ⟨hc1, h⟩
  · refine ev_if_t (pc' := 27) rfl rfl (cb_eq_t hc1) ?_
    exact fx_tie_b27_e h
  · refine ev_if_f (pc' := 11) rfl (by decide) rfl (cb_eq_f hc1) ?_
    refine ev_aload_n (pc' := 12) rfl rfl rfl ?_
    refine ev_getfield (pc' := 15) (w := .ref 34) rfl rfl rfl rfl ?_
    refine ev_iload_n (pc' := 16) rfl rfl rfl ?_
    refine ev_call (mi := 6) (as := [.ref 34, .int a2]) (rest := []) rfl rfl (Nat.le_of_ble_eq_true rfl) (fx_Estate_hasThing_e (d := d + 2) rfl) ?_
    show am_Ev _ _ _ _ 19 _ _ _ _ _
    rcases am_if h with ⟨hc2, h⟩ | ⟨hc2, h⟩
    · refine ev_if_t (pc' := 27) rfl rfl (cb_eq_t hc2) ?_
      exact fx_tie_b27_e h
    · refine ev_if_f (pc' := 22) rfl (by decide) rfl (cb_eq_f hc2) ?_
      refine ev_iload_n (pc' := 23) rfl rfl rfl ?_
      refine ev_iload_n (pc' := 24) rfl rfl rfl ?_
      rcases am_if h with ⟨hc3, h⟩ | ⟨hc3, h⟩
      · refine ev_ic_f (pc' := 27) rfl (by decide) rfl (cb_ne_f hc3) ?_
        exact fx_tie_b27_e h
      · refine ev_ic_t (pc' := 34) rfl rfl (cb_ne_t hc3) ?_
        refine ev_aload_n (pc' := 35) rfl rfl rfl ?_
        refine ev_getfield (pc' := 38) (w := .ref 34) rfl rfl rfl rfl ?_
        refine ev_iload_n (pc' := 39) rfl rfl rfl ?_
        refine ev_iconst (pc' := 40) (b := (3 : Int32)) rfl rfl rfl ?_
        refine am_bd h (fun q4 hq4 h => ?_)
        refine ev_call (mi := 7) (as := [.ref 34, .int a1, .int (3 : Int32)]) (rest := []) rfl rfl (Nat.le_of_ble_eq_true rfl) (fx_Estate_isOf_e (d := d) hq4) ?_
        show am_Ev _ _ _ _ 43 _ _ _ _ _
        rcases am_if h with ⟨hc5, h⟩ | ⟨hc5, h⟩
        · refine ev_if_t (pc' := 58) rfl rfl (cb_eq_t hc5) ?_
          exact fx_tie_b58_e h
        · refine ev_if_f (pc' := 46) rfl (by decide) rfl (cb_eq_f hc5) ?_
          refine ev_aload_n (pc' := 47) rfl rfl rfl ?_
          refine ev_getfield (pc' := 50) (w := .ref 34) rfl rfl rfl rfl ?_
          refine ev_iload_n (pc' := 51) rfl rfl rfl ?_
          refine ev_iconst (pc' := 52) (b := (3 : Int32)) rfl rfl rfl ?_
          refine am_bd h (fun q6 hq6 h => ?_)
          refine ev_call (mi := 7) (as := [.ref 34, .int a2, .int (3 : Int32)]) (rest := []) rfl rfl (Nat.le_of_ble_eq_true rfl) (fx_Estate_isOf_e (d := d) hq6) ?_
          show am_Ev _ _ _ _ 55 _ _ _ _ _
          rcases am_if h with ⟨hc7, h⟩ | ⟨hc7, h⟩
          · refine ev_if_f (pc' := 58) rfl (by decide) rfl (cb_ne_f hc7) ?_
            exact fx_tie_b58_e h
          · refine ev_if_t (pc' := 66) rfl rfl (cb_ne_t hc7) ?_
            refine ev_aload_n (pc' := 67) rfl rfl rfl ?_
            refine ev_getfield (pc' := 70) (w := .ref 34) rfl rfl rfl rfl ?_
            refine ev_getfield (pc' := 73) (w := .int (σ 34 7)) rfl rfl rfl rfl ?_
            refine ev_bipush (pc' := 75) (b := (12 : Int32)) rfl rfl rfl ?_
            rcases am_if h with ⟨hc8, h⟩ | ⟨hc8, h⟩
            · refine ev_ic_t (pc' := 85) rfl rfl (cb_lt_t hc8) ?_
              refine ev_aload_n (pc' := 86) rfl rfl rfl ?_
              refine ev_getfield (pc' := 89) (w := .ref 41) rfl rfl rfl rfl ?_
              refine am_bd h (fun q9 hq9 h => ?_)
              refine ev_call (mi := 34) (as := [.ref 41]) (rest := []) rfl rfl (Nat.le_of_ble_eq_true rfl) (fx_Parting_forgetAll_e (d := d + 2) hq9) ?_
              show am_Ev _ _ _ _ 92 _ _ _ _ _
              refine ev_aload_n (pc' := 93) rfl rfl rfl ?_
              refine ev_getfield (pc' := 96) (w := .ref 34) rfl rfl rfl rfl ?_
              refine ev_iload_n (pc' := 97) rfl rfl rfl ?_
              refine ev_iload_n (pc' := 98) rfl rfl rfl ?_
              refine am_bd h (fun q10 hq10 h => ?_)
              refine ev_call (mi := 9) (as := [.ref 34, .int a1, .int a2]) (rest := []) rfl rfl (Nat.le_of_ble_eq_true rfl) (fx_Estate_addTie_e (d := d + 2) hq10) ?_
              show am_Ev _ _ _ _ 101 _ _ _ _ _
              obtain rfl := Option.some.inj h
              exact ev_ireturn rfl rfl
            · refine ev_ic_f (pc' := 78) rfl (by decide) rfl (cb_lt_f hc8) ?_
              refine ev_aload_n (pc' := 79) rfl rfl rfl ?_
              refine ev_ldc (pc' := 81) (b := (-1000000004 : Int32)) rfl rfl rfl ?_
              refine am_bd h (fun q11 hq11 h => ?_)
              refine ev_call (mi := 129) (as := [.ref 0, .int (-1000000004 : Int32)]) (rest := []) rfl rfl (Nat.le_of_ble_eq_true rfl) (fx_finding_e (d := d + 2) hq11) ?_
              show am_Ev _ _ _ _ 84 _ _ _ _ _
              obtain rfl := Option.some.inj h
              exact ev_ireturn rfl rfl
