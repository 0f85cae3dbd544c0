/-! PartedLand.part (0, 'I', 'I'): S -/
def fx_part_b16 (N : Nat) (σ : am_S) : Option (Int32 × am_S) := (fx_finding (-1000000001 : Int32) σ).bind fun q1 => some (q1.1, q1.2)
set_option maxRecDepth 100000 in
theorem fx_part_b16_e {X : Nat} {xs : Nat → Int32} {d : Nat} {N : Nat} {w1 : Value} {w2 : Value} {σ : am_S} {o : Int32 × am_S} (h : fx_part_b16 N σ = some o) : am_Ev am_sh (am_exx X xs) (d + 3) mm_105 16 [.ref 0, w1, w2] [] σ (some (.int o.1)) o.2 := by
  unfold fx_part_b16 at h
  refine ev_aload_n (pc' := 17) rfl rfl rfl ?_
  refine ev_ldc (pc' := 19) (b := (-1000000001 : Int32)) rfl rfl rfl ?_
  refine am_bd h (fun q1 hq1 h => ?_)
  refine ev_call (mi := 129) (as := [.ref 0, .int (-1000000001 : Int32)]) (rest := []) rfl rfl (Nat.le_of_ble_eq_true rfl) (fx_finding_e (d := d + 2) hq1) ?_
  show am_Ev _ _ _ _ 22 _ _ _ _ _
  obtain rfl := Option.some.inj h
  exact ev_ireturn rfl rfl
def fx_part (N : Nat) (a1 : Int32) (a2 : Int32) (σ : am_S) : Option (Int32 × am_S) := (if (fx_Estate_hasThing a1 σ) = 0 then fx_part_b16 N σ else (if (1 : Int32) ≤ a2 then (fx_Estate_isOf N a1 (3 : Int32) σ).bind fun q3 => (if q3 = 0 then (fx_finding (-1000000005 : Int32) σ).bind fun q5 => some (q5.1, q5.2) else am_g (am_in a1 24) <| (if a2 < (σ 37 a1.toNatClampNeg) then (if (σ 34 6) < (24 : Int32) then (fx_Parting_forgetAll σ).bind fun q9 => am_g (am_in a1 24) <| am_g (am_in a1 24) <| am_g (am_in a1 24) <| am_g (am_in a1 24) <| (fx_Estate_addThing (q9 35 a1.toNatClampNeg) (q9 36 a1.toNatClampNeg) a2 (am_up q9 37 a1.toNatClampNeg ((q9 37 a1.toNatClampNeg) - a2))).bind fun q14 => some (q14.1, q14.2) else (fx_finding (-1000000004 : Int32) σ).bind fun q15 => some (q15.1, q15.2)) else (fx_finding (-1000000003 : Int32) σ).bind fun q16 => some (q16.1, q16.2))) else fx_part_b16 N σ))
set_option maxRecDepth 100000 in
theorem fx_part_e {X : Nat} {xs : Nat → Int32} {d : Nat} {N : Nat} {a1 : Int32} {a2 : Int32} {σ : am_S} {o : Int32 × am_S} (h : fx_part N a1 a2 σ = some o) : am_Ev am_sh (am_exx X xs) (d + 3) mm_105 0 [.ref 0, .int a1, .int a2] [] σ (some (.int o.1)) o.2 := by
  unfold fx_part at h
  refine ev_aload_n (pc' := 1) rfl rfl rfl ?_
  refine ev_getfield (pc' := 4) (w := .ref 34) rfl rfl rfl rfl ?_
  refine ev_iload_n (pc' := 5) rfl rfl rfl ?_
  refine ev_call (mi := 6) (as := [.ref 34, .int a1]) (rest := []) rfl rfl (Nat.le_of_ble_eq_true rfl) (fx_Estate_hasThing_e (d := d + 2) rfl) ?_
  show am_Ev _ _ _ _ 8 _ _ _ _ _
  rcases am_if h with ⟨hc1, h⟩ | ⟨hc1, h⟩
  · refine ev_if_t (pc' := 16) rfl rfl (cb_eq_t hc1) ?_
    exact fx_part_b16_e h
  · refine ev_if_f (pc' := 11) rfl (by decide) rfl (cb_eq_f hc1) ?_
    refine ev_iload_n (pc' := 12) rfl rfl rfl ?_
    refine ev_iconst (pc' := 13) (b := (1 : Int32)) rfl rfl rfl ?_
    rcases am_if h with ⟨hc2, h⟩ | ⟨hc2, h⟩
    · refine ev_ic_t (pc' := 23) rfl rfl (cb_ge_t hc2) ?_
      refine ev_aload_n (pc' := 24) rfl rfl rfl ?_
      refine ev_getfield (pc' := 27) (w := .ref 34) rfl rfl rfl rfl ?_
      refine ev_iload_n (pc' := 28) rfl rfl rfl ?_
      refine ev_iconst (pc' := 29) (b := (3 : Int32)) rfl rfl rfl ?_
      refine am_bd h (fun q3 hq3 h => ?_)
      refine ev_call (mi := 7) (as := [.ref 34, .int a1, .int (3 : Int32)]) (rest := []) rfl rfl (Nat.le_of_ble_eq_true rfl) (fx_Estate_isOf_e (d := d) hq3) ?_
      show am_Ev _ _ _ _ 32 _ _ _ _ _
      rcases am_if h with ⟨hc4, h⟩ | ⟨hc4, h⟩
      · refine ev_if_f (pc' := 35) rfl (by decide) rfl (cb_ne_f hc4) ?_
        refine ev_aload_n (pc' := 36) rfl rfl rfl ?_
        refine ev_ldc_w (pc' := 39) (b := (-1000000005 : Int32)) rfl rfl rfl ?_
        refine am_bd h (fun q5 hq5 h => ?_)
        refine ev_call (mi := 129) (as := [.ref 0, .int (-1000000005 : Int32)]) (rest := []) rfl rfl (Nat.le_of_ble_eq_true rfl) (fx_finding_e (d := d + 2) hq5) ?_
        show am_Ev _ _ _ _ 42 _ _ _ _ _
        obtain rfl := Option.some.inj h
        exact ev_ireturn rfl rfl
      · refine ev_if_t (pc' := 43) rfl rfl (cb_ne_t hc4) ?_
        refine ev_iload_n (pc' := 44) rfl rfl rfl ?_
        refine ev_aload_n (pc' := 45) rfl rfl rfl ?_
        refine ev_getfield (pc' := 48) (w := .ref 34) rfl rfl rfl rfl ?_
        refine ev_getfield (pc' := 51) (w := .ref 37) rfl rfl rfl rfl ?_
        refine ev_iload_n (pc' := 52) rfl rfl rfl ?_
        obtain ⟨hg6, h⟩ := am_g_some h
        refine ev_iaload (pc' := 53) rfl rfl rfl hg6 ?_
        rcases am_if h with ⟨hc7, h⟩ | ⟨hc7, h⟩
        · refine ev_ic_t (pc' := 63) rfl rfl (cb_lt_t hc7) ?_
          refine ev_aload_n (pc' := 64) rfl rfl rfl ?_
          refine ev_getfield (pc' := 67) (w := .ref 34) rfl rfl rfl rfl ?_
          refine ev_getfield (pc' := 70) (w := .int (σ 34 6)) rfl rfl rfl rfl ?_
          refine ev_bipush (pc' := 72) (b := (24 : Int32)) rfl rfl rfl ?_
          rcases am_if h with ⟨hc8, h⟩ | ⟨hc8, h⟩
          · refine ev_ic_t (pc' := 82) rfl rfl (cb_lt_t hc8) ?_
            refine ev_aload_n (pc' := 83) rfl rfl rfl ?_
            refine ev_getfield (pc' := 86) (w := .ref 41) rfl rfl rfl rfl ?_
            refine am_bd h (fun q9 hq9 h => ?_)
            refine ev_call (mi := 34) (as := [.ref 41]) (rest := []) rfl rfl (Nat.le_of_ble_eq_true rfl) (fx_Parting_forgetAll_e (d := d + 2) hq9) ?_
            show am_Ev _ _ _ _ 89 _ _ _ _ _
            refine ev_aload_n (pc' := 90) rfl rfl rfl ?_
            refine ev_getfield (pc' := 93) (w := .ref 34) rfl rfl rfl rfl ?_
            refine ev_getfield (pc' := 96) (w := .ref 37) rfl rfl rfl rfl ?_
            refine ev_iload_n (pc' := 97) rfl rfl rfl ?_
            refine ev_dup2 (pc' := 98) rfl rfl ?_
            obtain ⟨hg10, h⟩ := am_g_some h
            refine ev_iaload (pc' := 99) rfl rfl rfl hg10 ?_
            refine ev_iload_n (pc' := 100) rfl rfl rfl ?_
            refine ev_isub (pc' := 101) rfl rfl ?_
            obtain ⟨hg11, h⟩ := am_g_some h
            refine ev_iastore (pc' := 102) rfl rfl rfl hg11 ?_
            refine ev_aload_n (pc' := 103) rfl rfl rfl ?_
            refine ev_getfield (pc' := 106) (w := .ref 34) rfl rfl rfl rfl ?_
            refine ev_aload_n (pc' := 107) rfl rfl rfl ?_
            refine ev_getfield (pc' := 110) (w := .ref 34) rfl rfl rfl rfl ?_
            refine ev_getfield (pc' := 113) (w := .ref 35) rfl rfl rfl rfl ?_
            refine ev_iload_n (pc' := 114) rfl rfl rfl ?_
            obtain ⟨hg12, h⟩ := am_g_some h
            refine ev_iaload (pc' := 115) rfl rfl rfl hg12 ?_
            change am_Ev _ _ _ _ _ _ (.int (q9 35 a1.toNatClampNeg) :: [.ref 34]) _ _ _
            refine ev_aload_n (pc' := 116) rfl rfl rfl ?_
            refine ev_getfield (pc' := 119) (w := .ref 34) rfl rfl rfl rfl ?_
            refine ev_getfield (pc' := 122) (w := .ref 36) rfl rfl rfl rfl ?_
            refine ev_iload_n (pc' := 123) rfl rfl rfl ?_
            obtain ⟨hg13, h⟩ := am_g_some h
            refine ev_iaload (pc' := 124) rfl rfl rfl hg13 ?_
            change am_Ev _ _ _ _ _ _ (.int (q9 36 a1.toNatClampNeg) :: [.int (q9 35 a1.toNatClampNeg), .ref 34]) _ _ _
            refine ev_iload_n (pc' := 125) rfl rfl rfl ?_
            refine am_bd h (fun q14 hq14 h => ?_)
            refine ev_call (mi := 8) (as := [.ref 34, .int (q9 35 a1.toNatClampNeg), .int (q9 36 a1.toNatClampNeg), .int a2]) (rest := []) rfl rfl (Nat.le_of_ble_eq_true rfl) (fx_Estate_addThing_e (d := d + 2) hq14) ?_
            show am_Ev _ _ _ _ 128 _ _ _ _ _
            obtain rfl := Option.some.inj h
            exact ev_ireturn rfl rfl
          · refine ev_ic_f (pc' := 75) rfl (by decide) rfl (cb_lt_f hc8) ?_
            refine ev_aload_n (pc' := 76) rfl rfl rfl ?_
            refine ev_ldc (pc' := 78) (b := (-1000000004 : Int32)) rfl rfl rfl ?_
            refine am_bd h (fun q15 hq15 h => ?_)
            refine ev_call (mi := 129) (as := [.ref 0, .int (-1000000004 : Int32)]) (rest := []) rfl rfl (Nat.le_of_ble_eq_true rfl) (fx_finding_e (d := d + 2) hq15) ?_
            show am_Ev _ _ _ _ 81 _ _ _ _ _
            obtain rfl := Option.some.inj h
            exact ev_ireturn rfl rfl
        · refine ev_ic_f (pc' := 56) rfl (by decide) rfl (cb_lt_f hc7) ?_
          refine ev_aload_n (pc' := 57) rfl rfl rfl ?_
          refine ev_ldc (pc' := 59) (b := (-1000000003 : Int32)) rfl rfl rfl ?_
          refine am_bd h (fun q16 hq16 h => ?_)
          refine ev_call (mi := 129) (as := [.ref 0, .int (-1000000003 : Int32)]) (rest := []) rfl rfl (Nat.le_of_ble_eq_true rfl) (fx_finding_e (d := d + 2) hq16) ?_
          show am_Ev _ _ _ _ 62 _ _ _ _ _
          obtain rfl := Option.some.inj h
          exact ev_ireturn rfl rfl
    · refine ev_ic_f (pc' := 16) rfl (by decide) rfl (cb_ge_f hc2) ?_
      exact fx_part_b16_e h
/-! PartedLand$Estate.isLeftOut (34, 'I', 'I'): P -/
def fx_Estate_isLeftOut (a1 : Int32) (a2 : Int32) (σ : am_S) : Option Int32 := (if a2 = 0 then some (0 : Int32) else am_g (am_in a1 24) <| (if (σ 35 a1.toNatClampNeg) = (5 : Int32) then some (1 : Int32) else some (0 : Int32)))
set_option maxRecDepth 100000 in
theorem fx_Estate_isLeftOut_e {X : Nat} {xs : Nat → Int32} {d : Nat} {a1 : Int32} {a2 : Int32} {σ : am_S} {o : Int32} (h : fx_Estate_isLeftOut a1 a2 σ = some o) : am_Ev am_sh (am_exx X xs) (d + 0) mm_10 0 [.ref 34, .int a1, .int a2] [] σ (some (.int o)) σ := by
  unfold fx_Estate_isLeftOut at h
  refine ev_iload_n (pc' := 1) rfl rfl rfl ?_
  rcases am_if h with ⟨hc1, h⟩ | ⟨hc1, h⟩
  · refine ev_if_t (pc' := 18) rfl rfl (cb_eq_t hc1) ?_
    refine ev_iconst (pc' := 19) (b := (0 : Int32)) rfl rfl rfl ?_
    obtain rfl := Option.some.inj h
    exact ev_zreturn rfl rfl rfl
  · refine ev_if_f (pc' := 4) rfl (by decide) rfl (cb_eq_f hc1) ?_
    refine ev_aload_n (pc' := 5) rfl rfl rfl ?_
    refine ev_getfield (pc' := 8) (w := .ref 35) rfl rfl rfl rfl ?_
    refine ev_iload_n (pc' := 9) rfl rfl rfl ?_
    obtain ⟨hg2, h⟩ := am_g_some h
    refine ev_iaload (pc' := 10) rfl rfl rfl hg2 ?_
    refine ev_iconst (pc' := 11) (b := (5 : Int32)) rfl rfl rfl ?_
    rcases am_if h with ⟨hc3, h⟩ | ⟨hc3, h⟩
    · refine ev_ic_f (pc' := 14) rfl (by decide) rfl (cb_ne_f hc3) ?_
      refine ev_iconst (pc' := 15) (b := (1 : Int32)) rfl rfl rfl ?_
      refine ev_goto (pc' := 19) rfl rfl ?_
      obtain rfl := Option.some.inj h
      exact ev_zreturn rfl rfl rfl
    · refine ev_ic_t (pc' := 18) rfl rfl (cb_ne_t hc3) ?_
      refine ev_iconst (pc' := 19) (b := (0 : Int32)) rfl rfl rfl ?_
      obtain rfl := Option.some.inj h
      exact ev_zreturn rfl rfl rfl
/-! PartedLand$Estate.pledgeParish (34, 'I'): P -/
def fx_Estate_pledgeParish (a1 : Int32) (σ : am_S) : Option Int32 := am_g (am_in a1 24) <| am_g (am_in (σ 36 a1.toNatClampNeg) 24) <| some (σ 36 (σ 36 a1.toNatClampNeg).toNatClampNeg)
set_option maxRecDepth 100000 in
theorem fx_Estate_pledgeParish_e {X : Nat} {xs : Nat → Int32} {d : Nat} {a1 : Int32} {σ : am_S} {o : Int32} (h : fx_Estate_pledgeParish a1 σ = some o) : am_Ev am_sh (am_exx X xs) (d + 0) mm_11 0 [.ref 34, .int a1] [] σ (some (.int o)) σ := by
  unfold fx_Estate_pledgeParish at h
  refine ev_aload_n (pc' := 1) rfl rfl rfl ?_
  refine ev_getfield (pc' := 4) (w := .ref 36) rfl rfl rfl rfl ?_
  refine ev_aload_n (pc' := 5) rfl rfl rfl ?_
  refine ev_getfield (pc' := 8) (w := .ref 36) rfl rfl rfl rfl ?_
  refine ev_iload_n (pc' := 9) rfl rfl rfl ?_
  obtain ⟨hg1, h⟩ := am_g_some h
  refine ev_iaload (pc' := 10) rfl rfl rfl hg1 ?_
  obtain ⟨hg2, h⟩ := am_g_some h
  refine ev_iaload (pc' := 11) rfl rfl rfl hg2 ?_
  obtain rfl := Option.some.inj h
  exact ev_ireturn rfl rfl
/-! PartedLand$Parting.findRoots (41, 34): S -/
def fx_Parting_findRoots_b35 (N : Nat) (k25 : Int32 → am_S → Option am_S) : Nat → Int32 → Int32 → am_S → Option am_S
  | 0, _, _, _ => none
  | n + 1, x2, x3, σ => (if (σ 34 7) ≤ x3 then k25 (x2 + (1 : Int32)) σ else am_g (am_in x3 12) <| am_g (am_in x3 12) <| am_g (am_in (σ 39 x3.toNatClampNeg) 24) <| am_g (am_in (σ 40 x3.toNatClampNeg) 24) <| am_g (am_in (σ 39 x3.toNatClampNeg) 24) <| am_g (am_in (σ 40 x3.toNatClampNeg) 24) <| fx_Parting_findRoots_b35 N k25 n x2 (x3 + (1 : Int32)) (am_up (am_up σ 42 (σ 39 x3.toNatClampNeg).toNatClampNeg (if (σ 42 (σ 40 x3.toNatClampNeg).toNatClampNeg) < (σ 42 (σ 39 x3.toNatClampNeg).toNatClampNeg) then (σ 42 (σ 40 x3.toNatClampNeg).toNatClampNeg) else (σ 42 (σ 39 x3.toNatClampNeg).toNatClampNeg))) 42 (σ 40 x3.toNatClampNeg).toNatClampNeg (if (σ 42 (σ 40 x3.toNatClampNeg).toNatClampNeg) < (σ 42 (σ 39 x3.toNatClampNeg).toNatClampNeg) then (σ 42 (σ 40 x3.toNatClampNeg).toNatClampNeg) else (σ 42 (σ 39 x3.toNatClampNeg).toNatClampNeg))))
set_option maxRecDepth 100000 in
theorem fx_Parting_findRoots_b35_e {X : Nat} {xs : Nat → Int32} {d : Nat} {N : Nat} {k25 : Int32 → am_S → Option am_S} (hk25 : ∀ {x2 : Int32} {w3 : Value} {w4 : Value} {w5 : Value} {w6 : Value} {σ : am_S} {o : am_S}, k25 x2 σ = some o → am_Ev am_sh (am_exx X xs) (d + 1) mm_37 25 [.ref 41, .ref 34, .int x2, w3, w4, w5, w6] [] σ (none) o) : ∀ {n : Nat} {x2 : Int32} {x3 : Int32} {w4 : Value} {w5 : Value} {w6 : Value} {σ : am_S} {o : am_S}, fx_Parting_findRoots_b35 N k25 n x2 x3 σ = some o → am_Ev am_sh (am_exx X xs) (d + 1) mm_37 35 [.ref 41, .ref 34, .int x2, .int x3, w4, w5, w6] [] σ (none) o := by
  intro n
  induction n with
  | zero => intro x2 x3 w4 w5 w6 σ o h; cases h
  | succ n ih =>
    intro x2 x3 w4 w5 w6 σ o h
    unfold fx_Parting_findRoots_b35 at h
    refine ev_iload_n (pc' := 36) rfl rfl rfl ?_
    refine ev_aload_n (pc' := 37) rfl rfl rfl ?_
    refine ev_getfield (pc' := 40) (w := .int (σ 34 7)) rfl rfl rfl rfl ?_
    rcases am_if h with ⟨hc1, h⟩ | ⟨hc1, h⟩
    · refine ev_ic_t (pc' := 102) rfl rfl (cb_ge_t hc1) ?_
      refine ev_iinc (pc' := 105) (L' := [.ref 41, .ref 34, .int (x2 + (1 : Int32)), .int x3, w4, w5, w6]) (b := (1 : Int32)) rfl rfl rfl rfl rfl ?_
      refine ev_goto (pc' := 25) rfl rfl ?_
      exact hk25 h
    · refine ev_ic_f (pc' := 43) rfl (by decide) rfl (cb_ge_f hc1) ?_
      refine ev_aload_n (pc' := 44) rfl rfl rfl ?_
      refine ev_getfield (pc' := 47) (w := .ref 39) rfl rfl rfl rfl ?_
      refine ev_iload_n (pc' := 48) rfl rfl rfl ?_
      obtain ⟨hg2, h⟩ := am_g_some h
      refine ev_iaload (pc' := 49) rfl rfl rfl hg2 ?_
      refine ev_istore (pc' := 51) (L' := [.ref 41, .ref 34, .int x2, .int x3, .int (σ 39 x3.toNatClampNeg), w5, w6]) rfl rfl rfl rfl ?_
      refine ev_aload_n (pc' := 52) rfl rfl rfl ?_
      refine ev_getfield (pc' := 55) (w := .ref 40) rfl rfl rfl rfl ?_
      refine ev_iload_n (pc' := 56) rfl rfl rfl ?_
      obtain ⟨hg3, h⟩ := am_g_some h
      refine ev_iaload (pc' := 57) rfl rfl rfl hg3 ?_
      refine ev_istore (pc' := 59) (L' := [.ref 41, .ref 34, .int x2, .int x3, .int (σ 39 x3.toNatClampNeg), .int (σ 40 x3.toNatClampNeg), w6]) rfl rfl rfl rfl ?_
      refine ev_aload_n (pc' := 60) rfl rfl rfl ?_
      refine ev_getfield (pc' := 63) (w := .ref 42) rfl rfl rfl rfl ?_
      refine ev_iload (pc' := 65) rfl rfl rfl ?_
      obtain ⟨hg4, h⟩ := am_g_some h
      refine ev_iaload (pc' := 66) rfl rfl rfl hg4 ?_
      refine ev_aload_n (pc' := 67) rfl rfl rfl ?_
      refine ev_getfield (pc' := 70) (w := .ref 42) rfl rfl rfl rfl ?_
      refine ev_iload (pc' := 72) rfl rfl rfl ?_
      obtain ⟨hg5, h⟩ := am_g_some h
      refine ev_iaload (pc' := 73) rfl rfl rfl hg5 ?_
      refine ev_min (pc' := 76) rfl rfl rfl rfl ?_
      refine ev_istore (pc' := 78) (L' := [.ref 41, .ref 34, .int x2, .int x3, .int (σ 39 x3.toNatClampNeg), .int (σ 40 x3.toNatClampNeg), .int (if (σ 42 (σ 40 x3.toNatClampNeg).toNatClampNeg) < (σ 42 (σ 39 x3.toNatClampNeg).toNatClampNeg) then (σ 42 (σ 40 x3.toNatClampNeg).toNatClampNeg) else (σ 42 (σ 39 x3.toNatClampNeg).toNatClampNeg))]) rfl rfl rfl rfl ?_
      refine ev_aload_n (pc' := 79) rfl rfl rfl ?_
      refine ev_getfield (pc' := 82) (w := .ref 42) rfl rfl rfl rfl ?_
      refine ev_iload (pc' := 84) rfl rfl rfl ?_
      refine ev_iload (pc' := 86) rfl rfl rfl ?_
      obtain ⟨hg6, h⟩ := am_g_some h
      refine ev_iastore (pc' := 87) rfl rfl rfl hg6 ?_
      refine ev_aload_n (pc' := 88) rfl rfl rfl ?_
      refine ev_getfield (pc' := 91) (w := .ref 42) rfl rfl rfl rfl ?_
      refine ev_iload (pc' := 93) rfl rfl rfl ?_
      refine ev_iload (pc' := 95) rfl rfl rfl ?_
      obtain ⟨hg7, h⟩ := am_g_some h
      refine ev_iastore (pc' := 96) rfl rfl rfl hg7 ?_
      refine ev_iinc (pc' := 99) (L' := [.ref 41, .ref 34, .int x2, .int (x3 + (1 : Int32)), .int (σ 39 x3.toNatClampNeg), .int (σ 40 x3.toNatClampNeg), .int (if (σ 42 (σ 40 x3.toNatClampNeg).toNatClampNeg) < (σ 42 (σ 39 x3.toNatClampNeg).toNatClampNeg) then (σ 42 (σ 40 x3.toNatClampNeg).toNatClampNeg) else (σ 42 (σ 39 x3.toNatClampNeg).toNatClampNeg))]) (b := (1 : Int32)) rfl rfl rfl rfl rfl ?_
      refine ev_goto (pc' := 35) rfl rfl ?_
      exact ih h
def fx_Parting_findRoots_b25 (N : Nat) : Nat → Int32 → am_S → Option am_S
  | 0, _, _ => none
  | n + 1, x2, σ => (if (σ 34 7) ≤ x2 then some σ else fx_Parting_findRoots_b35 N (fun x2 σ => fx_Parting_findRoots_b25 N n x2 σ) N x2 (0 : Int32) σ)
set_option maxRecDepth 100000 in
theorem fx_Parting_findRoots_b25_e {X : Nat} {xs : Nat → Int32} {d : Nat} {N : Nat} : ∀ {n : Nat} {x2 : Int32} {w3 : Value} {w4 : Value} {w5 : Value} {w6 : Value} {σ : am_S} {o : am_S}, fx_Parting_findRoots_b25 N n x2 σ = some o → am_Ev am_sh (am_exx X xs) (d + 1) mm_37 25 [.ref 41, .ref 34, .int x2, w3, w4, w5, w6] [] σ (none) o := by
  intro n
  induction n with
  | zero => intro x2 w3 w4 w5 w6 σ o h; cases h
  | succ n ih =>
    intro x2 w3 w4 w5 w6 σ o h
    unfold fx_Parting_findRoots_b25 at h
    refine ev_iload_n (pc' := 26) rfl rfl rfl ?_
    refine ev_aload_n (pc' := 27) rfl rfl rfl ?_
    refine ev_getfield (pc' := 30) (w := .int (σ 34 7)) rfl rfl rfl rfl ?_
    rcases am_if h with ⟨hc1, h⟩ | ⟨hc1, h⟩
    · refine ev_ic_t (pc' := 108) rfl rfl (cb_ge_t hc1) ?_
      obtain rfl := Option.some.inj h
      exact ev_return rfl rfl
    · refine ev_ic_f (pc' := 33) rfl (by decide) rfl (cb_ge_f hc1) ?_
      refine ev_iconst (pc' := 34) (b := (0 : Int32)) rfl rfl rfl ?_
      refine ev_istore_n (pc' := 35) (L' := [.ref 41, .ref 34, .int x2, .int (0 : Int32), w4, w5, w6]) rfl rfl rfl rfl ?_
      exact fx_Parting_findRoots_b35_e (hk25 := fun h => ih h) h
def fx_Parting_findRoots_b2 (N : Nat) : Nat → Int32 → am_S → Option am_S
  | 0, _, _ => none
  | n + 1, x2, σ => (if (σ 34 6) ≤ x2 then fx_Parting_findRoots_b25 N N (0 : Int32) σ else am_g (am_in x2 24) <| fx_Parting_findRoots_b2 N n (x2 + (1 : Int32)) (am_up σ 42 x2.toNatClampNeg x2))
set_option maxRecDepth 100000 in
theorem fx_Parting_findRoots_b2_e {X : Nat} {xs : Nat → Int32} {d : Nat} {N : Nat} : ∀ {n : Nat} {x2 : Int32} {w3 : Value} {w4 : Value} {w5 : Value} {w6 : Value} {σ : am_S} {o : am_S}, fx_Parting_findRoots_b2 N n x2 σ = some o → am_Ev am_sh (am_exx X xs) (d + 1) mm_37 2 [.ref 41, .ref 34, .int x2, w3, w4, w5, w6] [] σ (none) o := by
  intro n
  induction n with
  | zero => intro x2 w3 w4 w5 w6 σ o h; cases h
  | succ n ih =>
    intro x2 w3 w4 w5 w6 σ o h
    unfold fx_Parting_findRoots_b2 at h
    refine ev_iload_n (pc' := 3) rfl rfl rfl ?_
    refine ev_aload_n (pc' := 4) rfl rfl rfl ?_
    refine ev_getfield (pc' := 7) (w := .int (σ 34 6)) rfl rfl rfl rfl ?_
    rcases am_if h with ⟨hc1, h⟩ | ⟨hc1, h⟩
    · refine ev_ic_t (pc' := 23) rfl rfl (cb_ge_t hc1) ?_
      refine ev_iconst (pc' := 24) (b := (0 : Int32)) rfl rfl rfl ?_
      refine ev_istore_n (pc' := 25) (L' := [.ref 41, .ref 34, .int (0 : Int32), w3, w4, w5, w6]) rfl rfl rfl rfl ?_
      exact fx_Parting_findRoots_b25_e h
    · refine ev_ic_f (pc' := 10) rfl (by decide) rfl (cb_ge_f hc1) ?_
      refine ev_aload_n (pc' := 11) rfl rfl rfl ?_
      refine ev_getfield (pc' := 14) (w := .ref 42) rfl rfl rfl rfl ?_
      refine ev_iload_n (pc' := 15) rfl rfl rfl ?_
      refine ev_iload_n (pc' := 16) rfl rfl rfl ?_
      obtain ⟨hg2, h⟩ := am_g_some h
      refine ev_iastore (pc' := 17) rfl rfl rfl hg2 ?_
      refine ev_iinc (pc' := 20) (L' := [.ref 41, .ref 34, .int (x2 + (1 : Int32)), w3, w4, w5, w6]) (b := (1 : Int32)) rfl rfl rfl rfl rfl ?_
      refine ev_goto (pc' := 2) rfl rfl ?_
      exact ih h
def fx_Parting_findRoots (N : Nat) (σ : am_S) : Option am_S := fx_Parting_findRoots_b2 N N (0 : Int32) σ
set_option maxRecDepth 100000 in
theorem fx_Parting_findRoots_e {X : Nat} {xs : Nat → Int32} {d : Nat} {N : Nat} {σ : am_S} {o : am_S} (h : fx_Parting_findRoots N σ = some o) : am_Ev am_sh (am_exx X xs) (d + 1) mm_37 0 [.ref 41, .ref 34, .null, .null, .null, .null, .null] [] σ (none) o := by
  unfold fx_Parting_findRoots at h
  refine ev_iconst (pc' := 1) (b := (0 : Int32)) rfl rfl rfl ?_
  refine ev_istore_n (pc' := 2) (L' := [.ref 41, .ref 34, .int (0 : Int32), .null, .null, .null, .null]) rfl rfl rfl rfl ?_
  exact fx_Parting_findRoots_b2_e h
/-! java/util/Arrays.fill (43, 'I'): S -/
def fx_Arr_fill_b5 (N : Nat) : Nat → Int32 → Int32 → Int32 → am_S → Option am_S
  | 0, _, _, _, _ => none
  | n + 1, x1, x2, x3, σ => (if x3 ≤ x2 then some σ else am_g (am_in x2 24) <| fx_Arr_fill_b5 N n x1 (x2 + (1 : Int32)) x3 (am_up σ 43 x2.toNatClampNeg x1))
set_option maxRecDepth 100000 in
theorem fx_Arr_fill_b5_e {X : Nat} {xs : Nat → Int32} {d : Nat} {N : Nat} : ∀ {n : Nat} {x1 : Int32} {x2 : Int32} {x3 : Int32} {σ : am_S} {o : am_S}, fx_Arr_fill_b5 N n x1 x2 x3 σ = some o → am_Ev am_sh (am_exx X xs) (d + 0) mm_218 5 [.ref 43, .int x1, .int x2, .int x3] [] σ (none) o := by
  intro n
  induction n with
  | zero => intro x1 x2 x3 σ o h; cases h
  | succ n ih =>
    intro x1 x2 x3 σ o h
    unfold fx_Arr_fill_b5 at h
    refine ev_iload_n (pc' := 6) rfl rfl rfl ?_
    refine ev_iload_n (pc' := 7) rfl rfl rfl ?_
    rcases am_if h with ⟨hc1, h⟩ | ⟨hc1, h⟩
    · refine ev_ic_t (pc' := 20) rfl rfl (cb_ge_t hc1) ?_
      obtain rfl := Option.some.inj h
      exact ev_return rfl rfl
    · refine ev_ic_f (pc' := 10) rfl (by decide) rfl (cb_ge_f hc1) ?_
      refine ev_aload_n (pc' := 11) rfl rfl rfl ?_
      refine ev_iload_n (pc' := 12) rfl rfl rfl ?_
      refine ev_iload_n (pc' := 13) rfl rfl rfl ?_
      obtain ⟨hg2, h⟩ := am_g_some h
      refine ev_iastore (pc' := 14) rfl rfl rfl hg2 ?_
      refine ev_iinc (pc' := 17) (L' := [.ref 43, .int x1, .int (x2 + (1 : Int32)), .int x3]) (b := (1 : Int32)) rfl rfl rfl rfl rfl ?_
      refine ev_goto (pc' := 5) rfl rfl ?_
      exact ih h
def fx_Arr_fill (N : Nat) (a1 : Int32) (σ : am_S) : Option am_S := fx_Arr_fill_b5 N N a1 (0 : Int32) (24 : Int32) σ
set_option maxRecDepth 100000 in
theorem fx_Arr_fill_e {X : Nat} {xs : Nat → Int32} {d : Nat} {N : Nat} {a1 : Int32} {σ : am_S} {o : am_S} (h : fx_Arr_fill N a1 σ = some o) : am_Ev am_sh (am_exx X xs) (d + 0) mm_218 0 [.ref 43, .int a1, .null, .null] [] σ (none) o := by
  unfold fx_Arr_fill at h
  refine ev_iconst (pc' := 1) (b := (0 : Int32)) rfl rfl rfl ?_
  refine ev_istore_n (pc' := 2) (L' := [.ref 43, .int a1, .int (0 : Int32), .null]) rfl rfl rfl rfl ?_
  refine ev_aload_n (pc' := 3) rfl rfl rfl ?_
  refine ev_arraylength (pc' := 4) (b := (24 : Int32)) rfl rfl rfl rfl ?_
  refine ev_istore_n (pc' := 5) (L' := [.ref 43, .int a1, .int (0 : Int32), .int (24 : Int32)]) rfl rfl rfl rfl ?_
  exact fx_Arr_fill_b5_e h
/-! java/util/Arrays.fill (45, 'I'): S -/
def fx_Arr_fill_45_b5 (N : Nat) : Nat → Int32 → Int32 → Int32 → am_S → Option am_S
  | 0, _, _, _, _ => none
  | n + 1, x1, x2, x3, σ => (if x3 ≤ x2 then some σ else am_g (am_in x2 24) <| fx_Arr_fill_45_b5 N n x1 (x2 + (1 : Int32)) x3 (am_up σ 45 x2.toNatClampNeg x1))
set_option maxRecDepth 100000 in
theorem fx_Arr_fill_45_b5_e {X : Nat} {xs : Nat → Int32} {d : Nat} {N : Nat} : ∀ {n : Nat} {x1 : Int32} {x2 : Int32} {x3 : Int32} {σ : am_S} {o : am_S}, fx_Arr_fill_45_b5 N n x1 x2 x3 σ = some o → am_Ev am_sh (am_exx X xs) (d + 0) mm_218 5 [.ref 45, .int x1, .int x2, .int x3] [] σ (none) o := by
  intro n
  induction n with
  | zero => intro x1 x2 x3 σ o h; cases h
  | succ n ih =>
    intro x1 x2 x3 σ o h
    unfold fx_Arr_fill_45_b5 at h
    refine ev_iload_n (pc' := 6) rfl rfl rfl ?_
    refine ev_iload_n (pc' := 7) rfl rfl rfl ?_
    rcases am_if h with ⟨hc1, h⟩ | ⟨hc1, h⟩
    · refine ev_ic_t (pc' := 20) rfl rfl (cb_ge_t hc1) ?_
      obtain rfl := Option.some.inj h
      exact ev_return rfl rfl
    · refine ev_ic_f (pc' := 10) rfl (by decide) rfl (cb_ge_f hc1) ?_
      refine ev_aload_n (pc' := 11) rfl rfl rfl ?_
      refine ev_iload_n (pc' := 12) rfl rfl rfl ?_
      refine ev_iload_n (pc' := 13) rfl rfl rfl ?_
      obtain ⟨hg2, h⟩ := am_g_some h
      refine ev_iastore (pc' := 14) rfl rfl rfl hg2 ?_
      refine ev_iinc (pc' := 17) (L' := [.ref 45, .int x1, .int (x2 + (1 : Int32)), .int x3]) (b := (1 : Int32)) rfl rfl rfl rfl rfl ?_
      refine ev_goto (pc' := 5) rfl rfl ?_
      exact ih h
def fx_Arr_fill_45 (N : Nat) (a1 : Int32) (σ : am_S) : Option am_S := fx_Arr_fill_45_b5 N N a1 (0 : Int32) (24 : Int32) σ
set_option maxRecDepth 100000 in
theorem fx_Arr_fill_45_e {X : Nat} {xs : Nat → Int32} {d : Nat} {N : Nat} {a1 : Int32} {σ : am_S} {o : am_S} (h : fx_Arr_fill_45 N a1 σ = some o) : am_Ev am_sh (am_exx X xs) (d + 0) mm_218 0 [.ref 45, .int a1, .null, .null] [] σ (none) o := by
  unfold fx_Arr_fill_45 at h
  refine ev_iconst (pc' := 1) (b := (0 : Int32)) rfl rfl rfl ?_
  refine ev_istore_n (pc' := 2) (L' := [.ref 45, .int a1, .int (0 : Int32), .null]) rfl rfl rfl rfl ?_
  refine ev_aload_n (pc' := 3) rfl rfl rfl ?_
  refine ev_arraylength (pc' := 4) (b := (24 : Int32)) rfl rfl rfl rfl ?_
  refine ev_istore_n (pc' := 5) (L' := [.ref 45, .int a1, .int (0 : Int32), .int (24 : Int32)]) rfl rfl rfl rfl ?_
  exact fx_Arr_fill_45_b5_e h
/-! PartedLand$Estate.countedWorth (34, 'I'): P -/
def fx_Estate_countedWorth (a1 : Int32) (σ : am_S) : Option Int32 := am_g (am_in a1 24) <| (if (σ 35 a1.toNatClampNeg) = (5 : Int32) then am_g (am_in a1 24) <| some (-(σ 37 a1.toNatClampNeg)) else am_g (am_in a1 24) <| some (σ 37 a1.toNatClampNeg))
set_option maxRecDepth 100000 in
theorem fx_Estate_countedWorth_e {X : Nat} {xs : Nat → Int32} {d : Nat} {a1 : Int32} {σ : am_S} {o : Int32} (h : fx_Estate_countedWorth a1 σ = some o) : am_Ev am_sh (am_exx X xs) (d + 0) mm_3 0 [.ref 34, .int a1] [] σ (some (.int o)) σ := by
  unfold fx_Estate_countedWorth at h
  refine ev_aload_n (pc' := 1) rfl rfl rfl ?_
  refine ev_getfield (pc' := 4) (w := .ref 35) rfl rfl rfl rfl ?_
  refine ev_iload_n (pc' := 5) rfl rfl rfl ?_
  obtain ⟨hg1, h⟩ := am_g_some h
  refine ev_iaload (pc' := 6) rfl rfl rfl hg1 ?_
  refine ev_iconst (pc' := 7) (b := (5 : Int32)) rfl rfl rfl ?_
  rcases am_if h with ⟨hc2, h⟩ | ⟨hc2, h⟩
  · refine ev_ic_f (pc' := 10) rfl (by decide) rfl (cb_ne_f hc2) ?_
    refine ev_aload_n (pc' := 11) rfl rfl rfl ?_
    refine ev_getfield (pc' := 14) (w := .ref 37) rfl rfl rfl rfl ?_
    refine ev_iload_n (pc' := 15) rfl rfl rfl ?_
    obtain ⟨hg3, h⟩ := am_g_some h
    refine ev_iaload (pc' := 16) rfl rfl rfl hg3 ?_
    refine ev_ineg (pc' := 17) rfl rfl ?_
    refine ev_goto (pc' := 26) rfl rfl ?_
    obtain rfl := Option.some.inj h
    exact ev_ireturn rfl rfl
  · refine ev_ic_t (pc' := 20) rfl rfl (cb_ne_t hc2) ?_
    refine ev_aload_n (pc' := 21) rfl rfl rfl ?_
    refine ev_getfield (pc' := 24) (w := .ref 37) rfl rfl rfl rfl ?_
    refine ev_iload_n (pc' := 25) rfl rfl rfl ?_
    obtain ⟨hg4, h⟩ := am_g_some h
    refine ev_iaload (pc' := 26) rfl rfl rfl hg4 ?_
    obtain rfl := Option.some.inj h
    exact ev_ireturn rfl rfl
/-! PartedLand$Parting.findGroups (41, 34, 'I'): S -/
def fx_Parting_findGroups_b151 (N : Nat) (k28 : Int32 → Int32 → am_S → Option am_S) (x2 : Int32) (x3 : Int32) (σ : am_S) : Option am_S := k28 x2 (x3 + (1 : Int32)) σ
set_option maxRecDepth 100000 in
theorem fx_Parting_findGroups_b151_e {X : Nat} {xs : Nat → Int32} {d : Nat} {N : Nat} {k28 : Int32 → Int32 → am_S → Option am_S} (hk28 : ∀ {x2 : Int32} {x3 : Int32} {w4 : Value} {σ : am_S} {o : am_S}, k28 x2 x3 σ = some o → am_Ev am_sh (am_exx X xs) (d + 3) mm_38 28 [.ref 41, .ref 34, .int x2, .int x3, w4] [] σ (none) o) {x2 : Int32} {x3 : Int32} {w4 : Value} {σ : am_S} {o : am_S} (h : fx_Parting_findGroups_b151 N k28 x2 x3 σ = some o) : am_Ev am_sh (am_exx X xs) (d + 3) mm_38 151 [.ref 41, .ref 34, .int x2, .int x3, w4] [] σ (none) o := by
  unfold fx_Parting_findGroups_b151 at h
  refine ev_iinc (pc' := 154) (L' := [.ref 41, .ref 34, .int x2, .int (x3 + (1 : Int32)), w4]) (b := (1 : Int32)) rfl rfl rfl rfl rfl ?_
  refine ev_goto (pc' := 28) rfl rfl ?_
  exact hk28 h
def fx_Parting_findGroups_b104 (N : Nat) (k28 : Int32 → Int32 → am_S → Option am_S) (x2 : Int32) (x3 : Int32) (x4 : Int32) (σ : am_S) : Option am_S := am_g (am_in x4 24) <| am_g (am_in x3 24) <| am_g (am_in x4 24) <| am_g (am_in (σ 43 x4.toNatClampNeg) 24) <| (fx_Estate_countedWorth x3 (am_up σ 44 x3.toNatClampNeg (σ 43 x4.toNatClampNeg))).bind fun q5 => am_g (am_in (σ 43 x4.toNatClampNeg) 24) <| (fx_Estate_countedWorth x3 (am_up (am_up σ 44 x3.toNatClampNeg (σ 43 x4.toNatClampNeg)) 45 (σ 43 x4.toNatClampNeg).toNatClampNeg ((σ 45 (σ 43 x4.toNatClampNeg).toNatClampNeg) + q5))).bind fun q7 => fx_Parting_findGroups_b151 N k28 x2 x3 (am_up (am_up (am_up σ 44 x3.toNatClampNeg (σ 43 x4.toNatClampNeg)) 45 (σ 43 x4.toNatClampNeg).toNatClampNeg ((σ 45 (σ 43 x4.toNatClampNeg).toNatClampNeg) + q5)) 41 7 ((σ 41 7) + q7))
set_option maxRecDepth 100000 in
theorem fx_Parting_findGroups_b104_e {X : Nat} {xs : Nat → Int32} {d : Nat} {N : Nat} {k28 : Int32 → Int32 → am_S → Option am_S} (hk28 : ∀ {x2 : Int32} {x3 : Int32} {w4 : Value} {σ : am_S} {o : am_S}, k28 x2 x3 σ = some o → am_Ev am_sh (am_exx X xs) (d + 3) mm_38 28 [.ref 41, .ref 34, .int x2, .int x3, w4] [] σ (none) o) {x2 : Int32} {x3 : Int32} {x4 : Int32} {σ : am_S} {o : am_S} (h : fx_Parting_findGroups_b104 N k28 x2 x3 x4 σ = some o) : am_Ev am_sh (am_exx X xs) (d + 3) mm_38 104 [.ref 41, .ref 34, .int x2, .int x3, .int x4] [] σ (none) o := by
  unfold fx_Parting_findGroups_b104 at h
  refine ev_aload_n (pc' := 105) rfl rfl rfl ?_
  refine ev_getfield (pc' := 108) (w := .ref 44) rfl rfl rfl rfl ?_
  refine ev_iload_n (pc' := 109) rfl rfl rfl ?_
  refine ev_aload_n (pc' := 110) rfl rfl rfl ?_
  refine ev_getfield (pc' := 113) (w := .ref 43) rfl rfl rfl rfl ?_
  refine ev_iload (pc' := 115) rfl rfl rfl ?_
  obtain ⟨hg1, h⟩ := am_g_some h
  refine ev_iaload (pc' := 116) rfl rfl rfl hg1 ?_
  obtain ⟨hg2, h⟩ := am_g_some h
  refine ev_iastore (pc' := 117) rfl rfl rfl hg2 ?_
  refine ev_aload_n (pc' := 118) rfl rfl rfl ?_
  refine ev_getfield (pc' := 121) (w := .ref 45) rfl rfl rfl rfl ?_
  refine ev_aload_n (pc' := 122) rfl rfl rfl ?_
  refine ev_getfield (pc' := 125) (w := .ref 43) rfl rfl rfl rfl ?_
  refine ev_iload (pc' := 127) rfl rfl rfl ?_
  obtain ⟨hg3, h⟩ := am_g_some h
  refine ev_iaload (pc' := 128) rfl rfl rfl hg3 ?_
  change am_Ev _ _ _ _ _ _ (.int (σ 43 x4.toNatClampNeg) :: [.ref 45]) _ _ _
  refine ev_dup2 (pc' := 129) rfl rfl ?_
  obtain ⟨hg4, h⟩ := am_g_some h
  refine ev_iaload (pc' := 130) rfl rfl rfl hg4 ?_
  change am_Ev _ _ _ _ _ _ (.int (σ 45 (σ 43 x4.toNatClampNeg).toNatClampNeg) :: [.int (σ 43 x4.toNatClampNeg), .ref 45]) _ _ _
  refine ev_aload_n (pc' := 131) rfl rfl rfl ?_
  refine ev_iload_n (pc' := 132) rfl rfl rfl ?_
  refine am_bd h (fun q5 hq5 h => ?_)
  refine ev_call (mi := 3) (as := [.ref 34, .int x3]) (rest := [.int (σ 45 (σ 43 x4.toNatClampNeg).toNatClampNeg), .int (σ 43 x4.toNatClampNeg), .ref 45]) rfl rfl (Nat.le_of_ble_eq_true rfl) (fx_Estate_countedWorth_e (d := d + 2) hq5) ?_
  show am_Ev _ _ _ _ 135 _ _ _ _ _
  refine ev_iadd (pc' := 136) rfl rfl ?_
  obtain ⟨hg6, h⟩ := am_g_some h
  refine ev_iastore (pc' := 137) rfl rfl rfl hg6 ?_
  refine ev_aload_n (pc' := 138) rfl rfl rfl ?_
  refine ev_dup (pc' := 139) rfl rfl ?_
  refine ev_getfield (pc' := 142) (w := .int (σ 41 7)) rfl rfl rfl rfl ?_
  refine ev_aload_n (pc' := 143) rfl rfl rfl ?_
  refine ev_iload_n (pc' := 144) rfl rfl rfl ?_
  refine am_bd h (fun q7 hq7 h => ?_)
  refine ev_call (mi := 3) (as := [.ref 34, .int x3]) (rest := [.int (σ 41 7), .ref 41]) rfl rfl (Nat.le_of_ble_eq_true rfl) (fx_Estate_countedWorth_e (d := d + 2) hq7) ?_
  show am_Ev _ _ _ _ 147 _ _ _ _ _
  refine ev_iadd (pc' := 148) rfl rfl ?_
  refine ev_putfield (pc' := 151) (ci := 4) (f := 7) (z := 0) rfl rfl rfl rfl rfl ?_
  exact fx_Parting_findGroups_b151_e (hk28 := hk28) h
def fx_Parting_findGroups_b28 (N : Nat) : Nat → Int32 → Int32 → am_S → Option am_S
  | 0, _, _, _ => none
  | n + 1, x2, x3, σ => (if (σ 34 6) ≤ x3 then some σ else am_g (am_in x3 24) <| (fx_Estate_isOf N x3 (3 : Int32) (am_up σ 44 x3.toNatClampNeg (-1 : Int32))).bind fun q3 => (if q3 = 0 then fx_Parting_findGroups_b151 N (fun x2 x3 σ => fx_Parting_findGroups_b28 N n x2 x3 σ) x2 x3 (am_up σ 44 x3.toNatClampNeg (-1 : Int32)) else (fx_Estate_isLeftOut x3 x2 (am_up σ 44 x3.toNatClampNeg (-1 : Int32))).bind fun q5 => (if q5 = 0 then am_g (am_in x3 24) <| am_g (am_in (σ 42 x3.toNatClampNeg) 24) <| (if (σ 43 (σ 42 x3.toNatClampNeg).toNatClampNeg) = (-1 : Int32) then am_g (am_in (σ 42 x3.toNatClampNeg) 24) <| fx_Parting_findGroups_b104 N (fun x2 x3 σ => fx_Parting_findGroups_b28 N n x2 x3 σ) x2 x3 (σ 42 x3.toNatClampNeg) (am_up (am_up (am_up σ 44 x3.toNatClampNeg (-1 : Int32)) 43 (σ 42 x3.toNatClampNeg).toNatClampNeg (σ 41 6)) 41 6 ((σ 41 6) + (1 : Int32))) else fx_Parting_findGroups_b104 N (fun x2 x3 σ => fx_Parting_findGroups_b28 N n x2 x3 σ) x2 x3 (σ 42 x3.toNatClampNeg) (am_up σ 44 x3.toNatClampNeg (-1 : Int32))) else fx_Parting_findGroups_b151 N (fun x2 x3 σ => fx_Parting_findGroups_b28 N n x2 x3 σ) x2 x3 (am_up σ 44 x3.toNatClampNeg (-1 : Int32)))))
set_option maxRecDepth 100000 in
theorem fx_Parting_findGroups_b28_e {X : Nat} {xs : Nat → Int32} {d : Nat} {N : Nat} : ∀ {n : Nat} {x2 : Int32} {x3 : Int32} {w4 : Value} {σ : am_S} {o : am_S}, fx_Parting_findGroups_b28 N n x2 x3 σ = some o → am_Ev am_sh (am_exx X xs) (d + 3) mm_38 28 [.ref 41, .ref 34, .int x2, .int x3, w4] [] σ (none) o := by
  intro n
  induction n with
  | zero => intro x2 x3 w4 σ o h; cases h
  | succ n ih =>
    intro x2 x3 w4 σ o h
    unfold fx_Parting_findGroups_b28 at h
    refine ev_iload_n (pc' := 29) rfl rfl rfl ?_
    refine ev_aload_n (pc' := 30) rfl rfl rfl ?_
    refine ev_getfield (pc' := 33) (w := .int (σ 34 6)) rfl rfl rfl rfl ?_
    rcases am_if h with ⟨hc1, h⟩ | ⟨hc1, h⟩
    · refine ev_ic_t (pc' := 157) rfl rfl (cb_ge_t hc1) ?_
      obtain rfl := Option.some.inj h
      exact ev_return rfl rfl
    · refine ev_ic_f (pc' := 36) rfl (by decide) rfl (cb_ge_f hc1) ?_
      refine ev_aload_n (pc' := 37) rfl rfl rfl ?_
      refine ev_getfield (pc' := 40) (w := .ref 44) rfl rfl rfl rfl ?_
      refine ev_iload_n (pc' := 41) rfl rfl rfl ?_
      refine ev_iconst (pc' := 42) (b := (-1 : Int32)) rfl rfl rfl ?_
      obtain ⟨hg2, h⟩ := am_g_some h
      refine ev_iastore (pc' := 43) rfl rfl rfl hg2 ?_
      refine ev_aload_n (pc' := 44) rfl rfl rfl ?_
      refine ev_iload_n (pc' := 45) rfl rfl rfl ?_
      refine ev_iconst (pc' := 46) (b := (3 : Int32)) rfl rfl rfl ?_
      refine am_bd h (fun q3 hq3 h => ?_)
      refine ev_call (mi := 7) (as := [.ref 34, .int x3, .int (3 : Int32)]) (rest := []) rfl rfl (Nat.le_of_ble_eq_true rfl) (fx_Estate_isOf_e (d := d) hq3) ?_
      show am_Ev _ _ _ _ 49 _ _ _ _ _
      rcases am_if h with ⟨hc4, h⟩ | ⟨hc4, h⟩
      · refine ev_if_t (pc' := 151) rfl rfl (cb_eq_t hc4) ?_
        exact fx_Parting_findGroups_b151_e (hk28 := fun h => ih h) h
      · refine ev_if_f (pc' := 52) rfl (by decide) rfl (cb_eq_f hc4) ?_
        refine ev_aload_n (pc' := 53) rfl rfl rfl ?_
        refine ev_iload_n (pc' := 54) rfl rfl rfl ?_
        refine ev_iload_n (pc' := 55) rfl rfl rfl ?_
        refine am_bd h (fun q5 hq5 h => ?_)
        refine ev_call (mi := 10) (as := [.ref 34, .int x3, .int x2]) (rest := []) rfl rfl (Nat.le_of_ble_eq_true rfl) (fx_Estate_isLeftOut_e (d := d + 2) hq5) ?_
        show am_Ev _ _ _ _ 58 _ _ _ _ _
        rcases am_if h with ⟨hc6, h⟩ | ⟨hc6, h⟩
        · refine ev_if_t (pc' := 64) rfl rfl (cb_eq_t hc6) ?_
          refine ev_aload_n (pc' := 65) rfl rfl rfl ?_
          refine ev_getfield (pc' := 68) (w := .ref 42) rfl rfl rfl rfl ?_
          refine ev_iload_n (pc' := 69) rfl rfl rfl ?_
          obtain ⟨hg7, h⟩ := am_g_some h
          refine ev_iaload (pc' := 70) rfl rfl rfl hg7 ?_
          change am_Ev _ _ _ _ _ _ (.int (σ 42 x3.toNatClampNeg) :: []) _ _ _
          refine ev_istore (pc' := 72) (L' := [.ref 41, .ref 34, .int x2, .int x3, .int (σ 42 x3.toNatClampNeg)]) rfl rfl rfl rfl ?_
          refine ev_aload_n (pc' := 73) rfl rfl rfl ?_
          refine ev_getfield (pc' := 76) (w := .ref 43) rfl rfl rfl rfl ?_
          refine ev_iload (pc' := 78) rfl rfl rfl ?_
          obtain ⟨hg8, h⟩ := am_g_some h
          refine ev_iaload (pc' := 79) rfl rfl rfl hg8 ?_
          change am_Ev _ _ _ _ _ _ (.int (σ 43 (σ 42 x3.toNatClampNeg).toNatClampNeg) :: []) _ _ _
          refine ev_iconst (pc' := 80) (b := (-1 : Int32)) rfl rfl rfl ?_
          rcases am_if h with ⟨hc9, h⟩ | ⟨hc9, h⟩
          · refine ev_ic_f (pc' := 83) rfl (by decide) rfl (cb_ne_f hc9) ?_
            refine ev_aload_n (pc' := 84) rfl rfl rfl ?_
            refine ev_getfield (pc' := 87) (w := .ref 43) rfl rfl rfl rfl ?_
            refine ev_iload (pc' := 89) rfl rfl rfl ?_
            refine ev_aload_n (pc' := 90) rfl rfl rfl ?_
            refine ev_getfield (pc' := 93) (w := .int (σ 41 6)) rfl rfl rfl rfl ?_
            obtain ⟨hg10, h⟩ := am_g_some h
            refine ev_iastore (pc' := 94) rfl rfl rfl hg10 ?_
            refine ev_aload_n (pc' := 95) rfl rfl rfl ?_
            refine ev_dup (pc' := 96) rfl rfl ?_
            refine ev_getfield (pc' := 99) (w := .int (σ 41 6)) rfl rfl rfl rfl ?_
            refine ev_iconst (pc' := 100) (b := (1 : Int32)) rfl rfl rfl ?_
            refine ev_iadd (pc' := 101) rfl rfl ?_
            refine ev_putfield (pc' := 104) (ci := 4) (f := 6) (z := 0) rfl rfl rfl rfl rfl ?_
            exact fx_Parting_findGroups_b104_e (hk28 := fun h => ih h) h
          · refine ev_ic_t (pc' := 104) rfl rfl (cb_ne_t hc9) ?_
            exact fx_Parting_findGroups_b104_e (hk28 := fun h => ih h) h
        · refine ev_if_f (pc' := 61) rfl (by decide) rfl (cb_eq_f hc6) ?_
          refine ev_goto (pc' := 151) rfl rfl ?_
          exact fx_Parting_findGroups_b151_e (hk28 := fun h => ih h) h
def fx_Parting_findGroups (N : Nat) (a2 : Int32) (σ : am_S) : Option am_S := (fx_Arr_fill N (-1 : Int32) (am_up (am_up σ 41 6 (0 : Int32)) 41 7 (0 : Int32))).bind fun q1 => (fx_Arr_fill_45 N (0 : Int32) q1).bind fun q2 => fx_Parting_findGroups_b28 N N a2 (0 : Int32) q2
set_option maxRecDepth 100000 in
theorem fx_Parting_findGroups_e {X : Nat} {xs : Nat → Int32} {d : Nat} {N : Nat} {a2 : Int32} {σ : am_S} {o : am_S} (h : fx_Parting_findGroups N a2 σ = some o) : am_Ev am_sh (am_exx X xs) (d + 3) mm_38 0 [.ref 41, .ref 34, .int a2, .null, .null] [] σ (none) o := by
  unfold fx_Parting_findGroups at h
  refine ev_aload_n (pc' := 1) rfl rfl rfl ?_
  refine ev_iconst (pc' := 2) (b := (0 : Int32)) rfl rfl rfl ?_
  refine ev_putfield (pc' := 5) (ci := 4) (f := 6) (z := 0) rfl rfl rfl rfl rfl ?_
  refine ev_aload_n (pc' := 6) rfl rfl rfl ?_
  refine ev_iconst (pc' := 7) (b := (0 : Int32)) rfl rfl rfl ?_
  refine ev_putfield (pc' := 10) (ci := 4) (f := 7) (z := 0) rfl rfl rfl rfl rfl ?_
  refine ev_aload_n (pc' := 11) rfl rfl rfl ?_
  refine ev_getfield (pc' := 14) (w := .ref 43) rfl rfl rfl rfl ?_
  refine ev_iconst (pc' := 15) (b := (-1 : Int32)) rfl rfl rfl ?_
  refine am_bd h (fun q1 hq1 h => ?_)
  refine ev_call (mi := 218) (as := [.ref 43, .int (-1 : Int32)]) (rest := []) rfl rfl (Nat.le_of_ble_eq_true rfl) (fx_Arr_fill_e (d := d + 2) hq1) ?_
  show am_Ev _ _ _ _ 18 _ _ _ _ _
  refine ev_aload_n (pc' := 19) rfl rfl rfl ?_
  refine ev_getfield (pc' := 22) (w := .ref 45) rfl rfl rfl rfl ?_
  refine ev_iconst (pc' := 23) (b := (0 : Int32)) rfl rfl rfl ?_
  refine am_bd h (fun q2 hq2 h => ?_)
  refine ev_call (mi := 218) (as := [.ref 45, .int (0 : Int32)]) (rest := []) rfl rfl (Nat.le_of_ble_eq_true rfl) (fx_Arr_fill_45_e (d := d + 2) hq2) ?_
  show am_Ev _ _ _ _ 26 _ _ _ _ _
  refine ev_iconst (pc' := 27) (b := (0 : Int32)) rfl rfl rfl ?_
  refine ev_istore_n (pc' := 28) (L' := [.ref 41, .ref 34, .int a2, .int (0 : Int32), .null]) rfl rfl rfl rfl ?_
  exact fx_Parting_findGroups_b28_e h
/-! PartedLand$Parting.isTooMany (41,): T -/
def fx_Parting_isTooMany (σ : am_S) : Int32 := (if (σ 41 6) ≤ (14 : Int32) then (0 : Int32) else (1 : Int32))
set_option maxRecDepth 100000 in
theorem fx_Parting_isTooMany_e {X : Nat} {xs : Nat → Int32} {d : Nat} {σ : am_S} {o : Int32} (h : fx_Parting_isTooMany σ = o) : am_Ev am_sh (am_exx X xs) (d + 0) mm_35 0 [.ref 41] [] σ (some (.int o)) σ := by
  unfold fx_Parting_isTooMany at h
  refine ev_aload_n (pc' := 1) rfl rfl rfl ?_
  refine ev_getfield (pc' := 4) (w := .int (σ 41 6)) rfl rfl rfl rfl ?_
  refine ev_bipush (pc' := 6) (b := (14 : Int32)) rfl rfl rfl ?_
  rcases am_if h with ⟨hc1, h⟩ | ⟨hc1, h⟩
  · refine ev_ic_t (pc' := 13) rfl rfl (cb_le_t hc1) ?_
    refine ev_iconst (pc' := 14) (b := (0 : Int32)) rfl rfl rfl ?_
    subst h
    exact ev_zreturn rfl rfl rfl
  · refine ev_ic_f (pc' := 9) rfl (by decide) rfl (cb_le_f hc1) ?_
    refine ev_iconst (pc' := 10) (b := (1 : Int32)) rfl rfl rfl ?_
    refine ev_goto (pc' := 14) rfl rfl ?_
    subst h
    exact ev_zreturn rfl rfl rfl
/-! PartedLand$Parting.setChanges (41,): S -/
def fx_Parting_setChanges_b4 (N : Nat) : Nat → Int32 → Int32 → am_S → Option am_S
  | 0, _, _, _ => none
  | n + 1, x1, x2, σ => (if (σ 41 6) ≤ x2 then some σ else am_g (am_in (((σ 41 6) - (1 : Int32)) - x2) 24) <| am_g (am_in x2 14) <| fx_Parting_setChanges_b4 N n (x1 + (σ 45 (((σ 41 6) - (1 : Int32)) - x2).toNatClampNeg)) (x2 + (1 : Int32)) (am_up σ 46 x2.toNatClampNeg (x1 - (σ 45 (((σ 41 6) - (1 : Int32)) - x2).toNatClampNeg))))
set_option maxRecDepth 100000 in
theorem fx_Parting_setChanges_b4_e {X : Nat} {xs : Nat → Int32} {d : Nat} {N : Nat} : ∀ {n : Nat} {x1 : Int32} {x2 : Int32} {w3 : Value} {σ : am_S} {o : am_S}, fx_Parting_setChanges_b4 N n x1 x2 σ = some o → am_Ev am_sh (am_exx X xs) (d + 0) mm_40 4 [.ref 41, .int x1, .int x2, w3] [] σ (none) o := by
  intro n
  induction n with
  | zero => intro x1 x2 w3 σ o h; cases h
  | succ n ih =>
    intro x1 x2 w3 σ o h
    unfold fx_Parting_setChanges_b4 at h
    refine ev_iload_n (pc' := 5) rfl rfl rfl ?_
    refine ev_aload_n (pc' := 6) rfl rfl rfl ?_
    refine ev_getfield (pc' := 9) (w := .int (σ 41 6)) rfl rfl rfl rfl ?_
    rcases am_if h with ⟨hc1, h⟩ | ⟨hc1, h⟩
    · refine ev_ic_t (pc' := 45) rfl rfl (cb_ge_t hc1) ?_
      obtain rfl := Option.some.inj h
      exact ev_return rfl rfl
    · refine ev_ic_f (pc' := 12) rfl (by decide) rfl (cb_ge_f hc1) ?_
      refine ev_aload_n (pc' := 13) rfl rfl rfl ?_
      refine ev_getfield (pc' := 16) (w := .ref 45) rfl rfl rfl rfl ?_
      refine ev_aload_n (pc' := 17) rfl rfl rfl ?_
      refine ev_getfield (pc' := 20) (w := .int (σ 41 6)) rfl rfl rfl rfl ?_
      refine ev_iconst (pc' := 21) (b := (1 : Int32)) rfl rfl rfl ?_
      refine ev_isub (pc' := 22) rfl rfl ?_
      refine ev_iload_n (pc' := 23) rfl rfl rfl ?_
      refine ev_isub (pc' := 24) rfl rfl ?_
      obtain ⟨hg2, h⟩ := am_g_some h
      refine ev_iaload (pc' := 25) rfl rfl rfl hg2 ?_
      refine ev_istore_n (pc' := 26) (L' := [.ref 41, .int x1, .int x2, .int (σ 45 (((σ 41 6) - (1 : Int32)) - x2).toNatClampNeg)]) rfl rfl rfl rfl ?_
      refine ev_aload_n (pc' := 27) rfl rfl rfl ?_
      refine ev_getfield (pc' := 30) (w := .ref 46) rfl rfl rfl rfl ?_
      refine ev_iload_n (pc' := 31) rfl rfl rfl ?_
      refine ev_iload_n (pc' := 32) rfl rfl rfl ?_
      refine ev_iload_n (pc' := 33) rfl rfl rfl ?_
      refine ev_isub (pc' := 34) rfl rfl ?_
      obtain ⟨hg3, h⟩ := am_g_some h
      refine ev_iastore (pc' := 35) rfl rfl rfl hg3 ?_
      refine ev_iload_n (pc' := 36) rfl rfl rfl ?_
      refine ev_iload_n (pc' := 37) rfl rfl rfl ?_
      refine ev_iadd (pc' := 38) rfl rfl ?_
      refine ev_istore_n (pc' := 39) (L' := [.ref 41, .int (x1 + (σ 45 (((σ 41 6) - (1 : Int32)) - x2).toNatClampNeg)), .int x2, .int (σ 45 (((σ 41 6) - (1 : Int32)) - x2).toNatClampNeg)]) rfl rfl rfl rfl ?_
      refine ev_iinc (pc' := 42) (L' := [.ref 41, .int (x1 + (σ 45 (((σ 41 6) - (1 : Int32)) - x2).toNatClampNeg)), .int (x2 + (1 : Int32)), .int (σ 45 (((σ 41 6) - (1 : Int32)) - x2).toNatClampNeg)]) (b := (1 : Int32)) rfl rfl rfl rfl rfl ?_
      refine ev_goto (pc' := 4) rfl rfl ?_
      exact ih h
def fx_Parting_setChanges (N : Nat) (σ : am_S) : Option am_S := fx_Parting_setChanges_b4 N N (0 : Int32) (0 : Int32) σ
set_option maxRecDepth 100000 in
theorem fx_Parting_setChanges_e {X : Nat} {xs : Nat → Int32} {d : Nat} {N : Nat} {σ : am_S} {o : am_S} (h : fx_Parting_setChanges N σ = some o) : am_Ev am_sh (am_exx X xs) (d + 0) mm_40 0 [.ref 41, .null, .null, .null] [] σ (none) o := by
  unfold fx_Parting_setChanges at h
  refine ev_iconst (pc' := 1) (b := (0 : Int32)) rfl rfl rfl ?_
  refine ev_istore_n (pc' := 2) (L' := [.ref 41, .int (0 : Int32), .null, .null]) rfl rfl rfl rfl ?_
  refine ev_iconst (pc' := 3) (b := (0 : Int32)) rfl rfl rfl ?_
  refine ev_istore_n (pc' := 4) (L' := [.ref 41, .int (0 : Int32), .int (0 : Int32), .null]) rfl rfl rfl rfl ?_
  exact fx_Parting_setChanges_b4_e h
/-! java/lang/Integer.numberOfTrailingZeros ('I',): T -/
def fx_Int_numberOfTrailingZeros_b74 (x0 : Int32) (x1 : Int32) (σ : am_S) : Int32 := (x1 + ((x0.toUInt32 >>> ((1 : Int32).toUInt32 &&& Int32.toUInt32 31)).toInt32))
set_option maxRecDepth 100000 in
theorem fx_Int_numberOfTrailingZeros_b74_e {X : Nat} {xs : Nat → Int32} {d : Nat} {x0 : Int32} {x1 : Int32} {σ : am_S} {o : Int32} (h : fx_Int_numberOfTrailingZeros_b74 x0 x1 σ = o) : am_Ev am_sh (am_exx X xs) (d + 0) mm_216 74 [.int x0, .int x1] [] σ (some (.int o)) σ := by
  unfold fx_Int_numberOfTrailingZeros_b74 at h
  refine ev_iload_n (pc' := 75) rfl rfl rfl ?_
  refine ev_iload_n (pc' := 76) rfl rfl rfl ?_
  refine ev_iconst (pc' := 77) (b := (1 : Int32)) rfl rfl rfl ?_
  refine ev_iushr (pc' := 78) rfl rfl ?_
  refine ev_iadd (pc' := 79) rfl rfl ?_
  subst h
  exact ev_ireturn rfl rfl
def fx_Int_numberOfTrailingZeros_b62 (x0 : Int32) (x1 : Int32) (σ : am_S) : Int32 := (if x0 ≤ (4 : Int32) then fx_Int_numberOfTrailingZeros_b74 x0 x1 σ else fx_Int_numberOfTrailingZeros_b74 ((x0.toUInt32 >>> ((2 : Int32).toUInt32 &&& Int32.toUInt32 31)).toInt32) (x1 + (2 : Int32)) σ)
set_option maxRecDepth 100000 in
theorem fx_Int_numberOfTrailingZeros_b62_e {X : Nat} {xs : Nat → Int32} {d : Nat} {x0 : Int32} {x1 : Int32} {σ : am_S} {o : Int32} (h : fx_Int_numberOfTrailingZeros_b62 x0 x1 σ = o) : am_Ev am_sh (am_exx X xs) (d + 0) mm_216 62 [.int x0, .int x1] [] σ (some (.int o)) σ := by
  unfold fx_Int_numberOfTrailingZeros_b62 at h
  refine ev_iload_n (pc' := 63) rfl rfl rfl ?_
  refine ev_iconst (pc' := 64) (b := (4 : Int32)) rfl rfl rfl ?_
  rcases am_if h with ⟨hc1, h⟩ | ⟨hc1, h⟩
  · refine ev_ic_t (pc' := 74) rfl rfl (cb_le_t hc1) ?_
    exact fx_Int_numberOfTrailingZeros_b74_e h
  · refine ev_ic_f (pc' := 67) rfl (by decide) rfl (cb_le_f hc1) ?_
    refine ev_iinc (pc' := 70) (L' := [.int x0, .int (x1 + (2 : Int32))]) (b := (2 : Int32)) rfl rfl rfl rfl rfl ?_
    refine ev_iload_n (pc' := 71) rfl rfl rfl ?_
    refine ev_iconst (pc' := 72) (b := (2 : Int32)) rfl rfl rfl ?_
    refine ev_iushr (pc' := 73) rfl rfl ?_
    refine ev_istore_n (pc' := 74) (L' := [.int (x0.toUInt32 >>> ((2 : Int32).toUInt32 &&& Int32.toUInt32 31)).toInt32, .int (x1 + (2 : Int32))]) rfl rfl rfl rfl ?_
    exact fx_Int_numberOfTrailingZeros_b74_e h
def fx_Int_numberOfTrailingZeros_b49 (x0 : Int32) (x1 : Int32) (σ : am_S) : Int32 := (if x0 ≤ (16 : Int32) then fx_Int_numberOfTrailingZeros_b62 x0 x1 σ else fx_Int_numberOfTrailingZeros_b62 ((x0.toUInt32 >>> ((4 : Int32).toUInt32 &&& Int32.toUInt32 31)).toInt32) (x1 + (4 : Int32)) σ)
set_option maxRecDepth 100000 in
theorem fx_Int_numberOfTrailingZeros_b49_e {X : Nat} {xs : Nat → Int32} {d : Nat} {x0 : Int32} {x1 : Int32} {σ : am_S} {o : Int32} (h : fx_Int_numberOfTrailingZeros_b49 x0 x1 σ = o) : am_Ev am_sh (am_exx X xs) (d + 0) mm_216 49 [.int x0, .int x1] [] σ (some (.int o)) σ := by
  unfold fx_Int_numberOfTrailingZeros_b49 at h
  refine ev_iload_n (pc' := 50) rfl rfl rfl ?_
  refine ev_bipush (pc' := 52) (b := (16 : Int32)) rfl rfl rfl ?_
  rcases am_if h with ⟨hc1, h⟩ | ⟨hc1, h⟩
  · refine ev_ic_t (pc' := 62) rfl rfl (cb_le_t hc1) ?_
    exact fx_Int_numberOfTrailingZeros_b62_e h
  · refine ev_ic_f (pc' := 55) rfl (by decide) rfl (cb_le_f hc1) ?_
    refine ev_iinc (pc' := 58) (L' := [.int x0, .int (x1 + (4 : Int32))]) (b := (4 : Int32)) rfl rfl rfl rfl rfl ?_
    refine ev_iload_n (pc' := 59) rfl rfl rfl ?_
    refine ev_iconst (pc' := 60) (b := (4 : Int32)) rfl rfl rfl ?_
    refine ev_iushr (pc' := 61) rfl rfl ?_
    refine ev_istore_n (pc' := 62) (L' := [.int (x0.toUInt32 >>> ((4 : Int32).toUInt32 &&& Int32.toUInt32 31)).toInt32, .int (x1 + (4 : Int32))]) rfl rfl rfl rfl ?_
    exact fx_Int_numberOfTrailingZeros_b62_e h
def fx_Int_numberOfTrailingZeros_b34 (x0 : Int32) (x1 : Int32) (σ : am_S) : Int32 := (if x0 ≤ (256 : Int32) then fx_Int_numberOfTrailingZeros_b49 x0 x1 σ else fx_Int_numberOfTrailingZeros_b49 ((x0.toUInt32 >>> ((8 : Int32).toUInt32 &&& Int32.toUInt32 31)).toInt32) (x1 + (8 : Int32)) σ)
set_option maxRecDepth 100000 in
theorem fx_Int_numberOfTrailingZeros_b34_e {X : Nat} {xs : Nat → Int32} {d : Nat} {x0 : Int32} {x1 : Int32} {σ : am_S} {o : Int32} (h : fx_Int_numberOfTrailingZeros_b34 x0 x1 σ = o) : am_Ev am_sh (am_exx X xs) (d + 0) mm_216 34 [.int x0, .int x1] [] σ (some (.int o)) σ := by
  unfold fx_Int_numberOfTrailingZeros_b34 at h
  refine ev_iload_n (pc' := 35) rfl rfl rfl ?_
  refine ev_sipush (pc' := 38) (b := (256 : Int32)) rfl rfl rfl ?_
  rcases am_if h with ⟨hc1, h⟩ | ⟨hc1, h⟩
  · refine ev_ic_t (pc' := 49) rfl rfl (cb_le_t hc1) ?_
    exact fx_Int_numberOfTrailingZeros_b49_e h
  · refine ev_ic_f (pc' := 41) rfl (by decide) rfl (cb_le_f hc1) ?_
    refine ev_iinc (pc' := 44) (L' := [.int x0, .int (x1 + (8 : Int32))]) (b := (8 : Int32)) rfl rfl rfl rfl rfl ?_
    refine ev_iload_n (pc' := 45) rfl rfl rfl ?_
    refine ev_bipush (pc' := 47) (b := (8 : Int32)) rfl rfl rfl ?_
    refine ev_iushr (pc' := 48) rfl rfl ?_
    refine ev_istore_n (pc' := 49) (L' := [.int (x0.toUInt32 >>> ((8 : Int32).toUInt32 &&& Int32.toUInt32 31)).toInt32, .int (x1 + (8 : Int32))]) rfl rfl rfl rfl ?_
    exact fx_Int_numberOfTrailingZeros_b49_e h
def fx_Int_numberOfTrailingZeros (a0 : Int32) (σ : am_S) : Int32 := (if 0 < ((a0 ^^^ (-1 : Int32)) &&& (a0 - (1 : Int32))) then (if ((a0 ^^^ (-1 : Int32)) &&& (a0 - (1 : Int32))) ≤ (65536 : Int32) then fx_Int_numberOfTrailingZeros_b34 ((a0 ^^^ (-1 : Int32)) &&& (a0 - (1 : Int32))) (1 : Int32) σ else fx_Int_numberOfTrailingZeros_b34 ((((a0 ^^^ (-1 : Int32)) &&& (a0 - (1 : Int32))).toUInt32 >>> ((16 : Int32).toUInt32 &&& Int32.toUInt32 31)).toInt32) ((1 : Int32) + (16 : Int32)) σ) else (((a0 ^^^ (-1 : Int32)) &&& (a0 - (1 : Int32))) &&& (32 : Int32)))
set_option maxRecDepth 100000 in
theorem fx_Int_numberOfTrailingZeros_e {X : Nat} {xs : Nat → Int32} {d : Nat} {a0 : Int32} {σ : am_S} {o : Int32} (h : fx_Int_numberOfTrailingZeros a0 σ = o) : am_Ev am_sh (am_exx X xs) (d + 0) mm_216 0 [.int a0, .null] [] σ (some (.int o)) σ := by
  unfold fx_Int_numberOfTrailingZeros at h
  refine ev_iload_n (pc' := 1) rfl rfl rfl ?_
  refine ev_iconst (pc' := 2) (b := (-1 : Int32)) rfl rfl rfl ?_
  refine ev_ixor (pc' := 3) rfl rfl ?_
  refine ev_iload_n (pc' := 4) rfl rfl rfl ?_
  refine ev_iconst (pc' := 5) (b := (1 : Int32)) rfl rfl rfl ?_
  refine ev_isub (pc' := 6) rfl rfl ?_
  refine ev_iand (pc' := 7) rfl rfl ?_
  refine ev_istore_n (pc' := 8) (L' := [.int ((a0 ^^^ (-1 : Int32)) &&& (a0 - (1 : Int32))), .null]) rfl rfl rfl rfl ?_
  refine ev_iload_n (pc' := 9) rfl rfl rfl ?_
  rcases am_if h with ⟨hc1, h⟩ | ⟨hc1, h⟩
  · refine ev_if_t (pc' := 17) rfl rfl (cb_gt_t hc1) ?_
    refine ev_iconst (pc' := 18) (b := (1 : Int32)) rfl rfl rfl ?_
    refine ev_istore_n (pc' := 19) (L' := [.int ((a0 ^^^ (-1 : Int32)) &&& (a0 - (1 : Int32))), .int (1 : Int32)]) rfl rfl rfl rfl ?_
    refine ev_iload_n (pc' := 20) rfl rfl rfl ?_
    refine ev_ldc_w (pc' := 23) (b := (65536 : Int32)) rfl rfl rfl ?_
    rcases am_if h with ⟨hc2, h⟩ | ⟨hc2, h⟩
    · refine ev_ic_t (pc' := 34) rfl rfl (cb_le_t hc2) ?_
      exact fx_Int_numberOfTrailingZeros_b34_e h
    · refine ev_ic_f (pc' := 26) rfl (by decide) rfl (cb_le_f hc2) ?_
      refine ev_iinc (pc' := 29) (L' := [.int ((a0 ^^^ (-1 : Int32)) &&& (a0 - (1 : Int32))), .int ((1 : Int32) + (16 : Int32))]) (b := (16 : Int32)) rfl rfl rfl rfl rfl ?_
      refine ev_iload_n (pc' := 30) rfl rfl rfl ?_
      refine ev_bipush (pc' := 32) (b := (16 : Int32)) rfl rfl rfl ?_
      refine ev_iushr (pc' := 33) rfl rfl ?_
      refine ev_istore_n (pc' := 34) (L' := [.int (((a0 ^^^ (-1 : Int32)) &&& (a0 - (1 : Int32))).toUInt32 >>> ((16 : Int32).toUInt32 &&& Int32.toUInt32 31)).toInt32, .int ((1 : Int32) + (16 : Int32))]) rfl rfl rfl rfl ?_
      exact fx_Int_numberOfTrailingZeros_b34_e h
  · refine ev_if_f (pc' := 12) rfl (by decide) rfl (cb_gt_f hc1) ?_
    refine ev_iload_n (pc' := 13) rfl rfl rfl ?_
    refine ev_bipush (pc' := 15) (b := (32 : Int32)) rfl rfl rfl ?_
    refine ev_iand (pc' := 16) rfl rfl ?_
    subst h
    exact ev_ireturn rfl rfl
/-! PartedLand$Parting.findNearest (41, 'I'): S -/
def fx_Parting_findNearest_b86 (N : Nat) (k31 : Int32 → Int32 → Int32 → Int32 → am_S → Option am_S) (x1 : Int32) (x2 : Int32) (x3 : Int32) (x4 : Int32) (σ : am_S) : Option am_S := k31 x1 x2 x3 (x4 + (1 : Int32)) σ
set_option maxRecDepth 100000 in
theorem fx_Parting_findNearest_b86_e {X : Nat} {xs : Nat → Int32} {d : Nat} {N : Nat} {k31 : Int32 → Int32 → Int32 → Int32 → am_S → Option am_S} (hk31 : ∀ {x1 : Int32} {x2 : Int32} {x3 : Int32} {x4 : Int32} {σ : am_S} {o : am_S}, k31 x1 x2 x3 x4 σ = some o → am_Ev am_sh (am_exx X xs) (d + 1) mm_39 31 [.ref 41, .int x1, .int x2, .int x3, .int x4] [] σ (none) o) {x1 : Int32} {x2 : Int32} {x3 : Int32} {x4 : Int32} {σ : am_S} {o : am_S} (h : fx_Parting_findNearest_b86 N k31 x1 x2 x3 x4 σ = some o) : am_Ev am_sh (am_exx X xs) (d + 1) mm_39 86 [.ref 41, .int x1, .int x2, .int x3, .int x4] [] σ (none) o := by
  unfold fx_Parting_findNearest_b86 at h
  refine ev_iinc (pc' := 89) (L' := [.ref 41, .int x1, .int x2, .int x3, .int (x4 + (1 : Int32))]) (b := (1 : Int32)) rfl rfl rfl rfl rfl ?_
  refine ev_goto (pc' := 31) rfl rfl ?_
  exact hk31 h
def fx_Parting_findNearest_b31 (N : Nat) : Nat → Int32 → Int32 → Int32 → Int32 → am_S → Option am_S
  | 0, _, _, _, _, _ => none
  | n + 1, x1, x2, x3, x4, σ => (if x3 ≤ x4 then some σ else (if (σ 41 8) = 0 then some σ else am_g (am_in (fx_Int_numberOfTrailingZeros x4 σ) 14) <| (if (if 0 ≤ (σ 41 8) then (σ 41 8) else 0 - (σ 41 8)) ≤ (if 0 ≤ (x1 - (x2 + (σ 46 (fx_Int_numberOfTrailingZeros x4 σ).toNatClampNeg))) then (x1 - (x2 + (σ 46 (fx_Int_numberOfTrailingZeros x4 σ).toNatClampNeg))) else 0 - (x1 - (x2 + (σ 46 (fx_Int_numberOfTrailingZeros x4 σ).toNatClampNeg)))) then fx_Parting_findNearest_b86 N (fun x1 x2 x3 x4 σ => fx_Parting_findNearest_b31 N n x1 x2 x3 x4 σ) x1 (x2 + (σ 46 (fx_Int_numberOfTrailingZeros x4 σ).toNatClampNeg)) x3 x4 σ else fx_Parting_findNearest_b86 N (fun x1 x2 x3 x4 σ => fx_Parting_findNearest_b31 N n x1 x2 x3 x4 σ) x1 (x2 + (σ 46 (fx_Int_numberOfTrailingZeros x4 σ).toNatClampNeg)) x3 x4 (am_up (am_up σ 41 9 x4) 41 8 (x1 - (x2 + (σ 46 (fx_Int_numberOfTrailingZeros x4 σ).toNatClampNeg)))))))
set_option maxRecDepth 100000 in
theorem fx_Parting_findNearest_b31_e {X : Nat} {xs : Nat → Int32} {d : Nat} {N : Nat} : ∀ {n : Nat} {x1 : Int32} {x2 : Int32} {x3 : Int32} {x4 : Int32} {σ : am_S} {o : am_S}, fx_Parting_findNearest_b31 N n x1 x2 x3 x4 σ = some o → am_Ev am_sh (am_exx X xs) (d + 1) mm_39 31 [.ref 41, .int x1, .int x2, .int x3, .int x4] [] σ (none) o := by
  intro n
  induction n with
  | zero => intro x1 x2 x3 x4 σ o h; cases h
  | succ n ih =>
    intro x1 x2 x3 x4 σ o h
    unfold fx_Parting_findNearest_b31 at h
    refine ev_iload (pc' := 33) rfl rfl rfl ?_
    refine ev_iload_n (pc' := 34) rfl rfl rfl ?_
    rcases am_if h with ⟨hc1, h⟩ | ⟨hc1, h⟩
    · refine ev_ic_t (pc' := 92) rfl rfl (cb_ge_t hc1) ?_
      obtain rfl := Option.some.inj h
      exact ev_return rfl rfl
    · refine ev_ic_f (pc' := 37) rfl (by decide) rfl (cb_ge_f hc1) ?_
      refine ev_aload_n (pc' := 38) rfl rfl rfl ?_
      refine ev_getfield (pc' := 41) (w := .int (σ 41 8)) rfl rfl rfl rfl ?_
      rcases am_if h with ⟨hc2, h⟩ | ⟨hc2, h⟩
      · refine ev_if_t (pc' := 92) rfl rfl (cb_eq_t hc2) ?_
        obtain rfl := Option.some.inj h
        exact ev_return rfl rfl
      · refine ev_if_f (pc' := 44) rfl (by decide) rfl (cb_eq_f hc2) ?_
        refine ev_iload_n (pc' := 45) rfl rfl rfl ?_
        refine ev_aload_n (pc' := 46) rfl rfl rfl ?_
        refine ev_getfield (pc' := 49) (w := .ref 46) rfl rfl rfl rfl ?_
        refine ev_iload (pc' := 51) rfl rfl rfl ?_
        refine ev_call (mi := 216) (as := [.int x4]) (rest := [.ref 46, .int x2]) rfl rfl (Nat.le_of_ble_eq_true rfl) (fx_Int_numberOfTrailingZeros_e (d := d) rfl) ?_
        show am_Ev _ _ _ _ 54 _ _ _ _ _
        obtain ⟨hg3, h⟩ := am_g_some h
        refine ev_iaload (pc' := 55) rfl rfl rfl hg3 ?_
        refine ev_iadd (pc' := 56) rfl rfl ?_
        refine ev_istore_n (pc' := 57) (L' := [.ref 41, .int x1, .int (x2 + (σ 46 (fx_Int_numberOfTrailingZeros x4 σ).toNatClampNeg)), .int x3, .int x4]) rfl rfl rfl rfl ?_
        refine ev_iload_n (pc' := 58) rfl rfl rfl ?_
        refine ev_iload_n (pc' := 59) rfl rfl rfl ?_
        refine ev_isub (pc' := 60) rfl rfl ?_
        refine ev_abs (pc' := 63) rfl rfl rfl rfl ?_
        refine ev_aload_n (pc' := 64) rfl rfl rfl ?_
        refine ev_getfield (pc' := 67) (w := .int (σ 41 8)) rfl rfl rfl rfl ?_
        refine ev_abs (pc' := 70) rfl rfl rfl rfl ?_
        rcases am_if h with ⟨hc4, h⟩ | ⟨hc4, h⟩
        · refine ev_ic_t (pc' := 86) rfl rfl (cb_ge_t hc4) ?_
          exact fx_Parting_findNearest_b86_e (hk31 := fun h => ih h) h
        · refine ev_ic_f (pc' := 73) rfl (by decide) rfl (cb_ge_f hc4) ?_
          refine ev_aload_n (pc' := 74) rfl rfl rfl ?_
          refine ev_iload (pc' := 76) rfl rfl rfl ?_
          refine ev_putfield (pc' := 79) (ci := 4) (f := 9) (z := 0) rfl rfl rfl rfl rfl ?_
          refine ev_aload_n (pc' := 80) rfl rfl rfl ?_
          refine ev_iload_n (pc' := 81) rfl rfl rfl ?_
          refine ev_iload_n (pc' := 82) rfl rfl rfl ?_
          refine ev_isub (pc' := 83) rfl rfl ?_
          refine ev_putfield (pc' := 86) (ci := 4) (f := 8) (z := 0) rfl rfl rfl rfl rfl ?_
          exact fx_Parting_findNearest_b86_e (hk31 := fun h => ih h) h
def fx_Parting_findNearest (N : Nat) (a1 : Int32) (σ : am_S) : Option am_S := (fx_Parting_setChanges N σ).bind fun q1 => fx_Parting_findNearest_b31 N N a1 (q1 41 7) ((1 : Int32) <<< ((q1 41 6) &&& 31)) (1 : Int32) (am_up (am_up q1 41 9 (0 : Int32)) 41 8 (a1 - (q1 41 7)))
set_option maxRecDepth 100000 in
theorem fx_Parting_findNearest_e {X : Nat} {xs : Nat → Int32} {d : Nat} {N : Nat} {a1 : Int32} {σ : am_S} {o : am_S} (h : fx_Parting_findNearest N a1 σ = some o) : am_Ev am_sh (am_exx X xs) (d + 1) mm_39 0 [.ref 41, .int a1, .null, .null, .null] [] σ (none) o := by
  unfold fx_Parting_findNearest at h
  refine ev_aload_n (pc' := 1) rfl rfl rfl ?_
  refine am_bd h (fun q1 hq1 h => ?_)
  refine ev_call (mi := 40) (as := [.ref 41]) (rest := []) rfl rfl (Nat.le_of_ble_eq_true rfl) (fx_Parting_setChanges_e (d := d) hq1) ?_
  show am_Ev _ _ _ _ 4 _ _ _ _ _
  refine ev_aload_n (pc' := 5) rfl rfl rfl ?_
  refine ev_getfield (pc' := 8) (w := .int (q1 41 7)) rfl rfl rfl rfl ?_
  refine ev_istore_n (pc' := 9) (L' := [.ref 41, .int a1, .int (q1 41 7), .null, .null]) rfl rfl rfl rfl ?_
  refine ev_aload_n (pc' := 10) rfl rfl rfl ?_
  refine ev_iconst (pc' := 11) (b := (0 : Int32)) rfl rfl rfl ?_
  refine ev_putfield (pc' := 14) (ci := 4) (f := 9) (z := 0) rfl rfl rfl rfl rfl ?_
  refine ev_aload_n (pc' := 15) rfl rfl rfl ?_
  refine ev_iload_n (pc' := 16) rfl rfl rfl ?_
  refine ev_iload_n (pc' := 17) rfl rfl rfl ?_
  refine ev_isub (pc' := 18) rfl rfl ?_
  refine ev_putfield (pc' := 21) (ci := 4) (f := 8) (z := 0) rfl rfl rfl rfl rfl ?_
  refine ev_iconst (pc' := 22) (b := (1 : Int32)) rfl rfl rfl ?_
  refine ev_aload_n (pc' := 23) rfl rfl rfl ?_
  refine ev_getfield (pc' := 26) (w := .int (q1 41 6)) rfl rfl rfl rfl ?_
  refine ev_ishl (pc' := 27) rfl rfl ?_
  refine ev_istore_n (pc' := 28) (L' := [.ref 41, .int a1, .int (q1 41 7), .int ((1 : Int32) <<< ((q1 41 6) &&& 31)), .null]) rfl rfl rfl rfl ?_
  refine ev_iconst (pc' := 29) (b := (1 : Int32)) rfl rfl rfl ?_
  refine ev_istore (pc' := 31) (L' := [.ref 41, .int a1, .int (q1 41 7), .int ((1 : Int32) <<< ((q1 41 6) &&& 31)), .int (1 : Int32)]) rfl rfl rfl rfl ?_
  exact fx_Parting_findNearest_b31_e h
/-! PartedLand$Parting.reckon (41, 34, 31): S -/
def fx_Parting_reckon_b37 (N : Nat) (σ : am_S) : Option am_S := some (am_up σ 41 5 (1 : Int32))
set_option maxRecDepth 100000 in
theorem fx_Parting_reckon_b37_e {X : Nat} {xs : Nat → Int32} {d : Nat} {N : Nat} {w1 : Value} {w2 : Value} {σ : am_S} {o : am_S} (h : fx_Parting_reckon_b37 N σ = some o) : am_Ev am_sh (am_exx X xs) (d + 4) mm_36 37 [.ref 41, w1, w2] [] σ (none) o := by
  unfold fx_Parting_reckon_b37 at h
  refine ev_aload_n (pc' := 38) rfl rfl rfl ?_
  refine ev_iconst (pc' := 39) (b := (1 : Int32)) rfl rfl rfl ?_
  refine ev_putfield (pc' := 42) (ci := 4) (f := 5) (z := 1) rfl rfl rfl rfl rfl ?_
  obtain rfl := Option.some.inj h
  exact ev_return rfl rfl
def fx_Parting_reckon (N : Nat) (σ : am_S) : Option am_S := (fx_Parting_findRoots N σ).bind fun q1 => (fx_Parting_findGroups N (q1 31 6) q1).bind fun q2 => (if (fx_Parting_isTooMany q2) = 0 then (fx_Parting_findNearest N (((q2 41 7) * (q2 31 5)) / (100 : Int32)) q2).bind fun q4 => fx_Parting_reckon_b37 N q4 else fx_Parting_reckon_b37 N q2)
set_option maxRecDepth 100000 in
theorem fx_Parting_reckon_e {X : Nat} {xs : Nat → Int32} {d : Nat} {N : Nat} {σ : am_S} {o : am_S} (h : fx_Parting_reckon N σ = some o) : am_Ev am_sh (am_exx X xs) (d + 4) mm_36 0 [.ref 41, .ref 34, .ref 31] [] σ (none) o := by
  unfold fx_Parting_reckon at h
  refine ev_aload_n (pc' := 1) rfl rfl rfl ?_
  refine ev_aload_n (pc' := 2) rfl rfl rfl ?_
  refine am_bd h (fun q1 hq1 h => ?_)
  refine ev_call (mi := 37) (as := [.ref 41, .ref 34]) (rest := []) rfl rfl (Nat.le_of_ble_eq_true rfl) (fx_Parting_findRoots_e (d := d + 2) hq1) ?_
  show am_Ev _ _ _ _ 5 _ _ _ _ _
  refine ev_aload_n (pc' := 6) rfl rfl rfl ?_
  refine ev_aload_n (pc' := 7) rfl rfl rfl ?_
  refine ev_aload_n (pc' := 8) rfl rfl rfl ?_
  refine ev_getfield (pc' := 11) (w := .int (q1 31 6)) rfl rfl rfl rfl ?_
  refine am_bd h (fun q2 hq2 h => ?_)
  refine ev_call (mi := 38) (as := [.ref 41, .ref 34, .int (q1 31 6)]) (rest := []) rfl rfl (Nat.le_of_ble_eq_true rfl) (fx_Parting_findGroups_e (d := d) hq2) ?_
  show am_Ev _ _ _ _ 14 _ _ _ _ _
  refine ev_aload_n (pc' := 15) rfl rfl rfl ?_
  refine ev_call (mi := 35) (as := [.ref 41]) (rest := []) rfl rfl (Nat.le_of_ble_eq_true rfl) (fx_Parting_isTooMany_e (d := d + 3) rfl) ?_
  show am_Ev _ _ _ _ 18 _ _ _ _ _
  rcases am_if h with ⟨hc3, h⟩ | ⟨hc3, h⟩
  · refine ev_if_f (pc' := 21) rfl (by decide) rfl (cb_ne_f hc3) ?_
    refine ev_aload_n (pc' := 22) rfl rfl rfl ?_
    refine ev_aload_n (pc' := 23) rfl rfl rfl ?_
    refine ev_getfield (pc' := 26) (w := .int (q2 41 7)) rfl rfl rfl rfl ?_
    refine ev_aload_n (pc' := 27) rfl rfl rfl ?_
    refine ev_getfield (pc' := 30) (w := .int (q2 31 5)) rfl rfl rfl rfl ?_
    refine ev_imul (pc' := 31) rfl rfl ?_
    refine ev_bipush (pc' := 33) (b := (100 : Int32)) rfl rfl rfl ?_
    refine ev_idiv (pc' := 34) rfl rfl (by decide) ?_
    refine am_bd h (fun q4 hq4 h => ?_)
    refine ev_call (mi := 39) (as := [.ref 41, .int (((q2 41 7) * (q2 31 5)) / (100 : Int32))]) (rest := []) rfl rfl (Nat.le_of_ble_eq_true rfl) (fx_Parting_findNearest_e (d := d + 2) hq4) ?_
    show am_Ev _ _ _ _ 37 _ _ _ _ _
    exact fx_Parting_reckon_b37_e h
  · refine ev_if_t (pc' := 37) rfl rfl (cb_ne_t hc3) ?_
    exact fx_Parting_reckon_b37_e h
/-! PartedLand.partThings (0,): S -/
def fx_partThings (N : Nat) (σ : am_S) : Option am_S := (if (σ 41 5) = 0 then (fx_Parting_reckon N σ).bind fun q2 => some q2 else some σ)
set_option maxRecDepth 100000 in
theorem fx_partThings_e {X : Nat} {xs : Nat → Int32} {d : Nat} {N : Nat} {σ : am_S} {o : am_S} (h : fx_partThings N σ = some o) : am_Ev am_sh (am_exx X xs) (d + 5) mm_132 0 [.ref 0] [] σ (none) o := by
  unfold fx_partThings at h
  refine ev_aload_n (pc' := 1) rfl rfl rfl ?_
  refine ev_getfield (pc' := 4) (w := .ref 41) rfl rfl rfl rfl ?_
  refine ev_getfield (pc' := 7) (w := .int (σ 41 5)) rfl rfl rfl rfl ?_
  rcases am_if h with ⟨hc1, h⟩ | ⟨hc1, h⟩
  · refine ev_if_f (pc' := 10) rfl (by decide) rfl (cb_ne_f hc1) ?_
    refine ev_aload_n (pc' := 11) rfl rfl rfl ?_
    refine ev_getfield (pc' := 14) (w := .ref 41) rfl rfl rfl rfl ?_
    refine ev_aload_n (pc' := 15) rfl rfl rfl ?_
    refine ev_getfield (pc' := 18) (w := .ref 34) rfl rfl rfl rfl ?_
    refine ev_aload_n (pc' := 19) rfl rfl rfl ?_
    refine ev_getfield (pc' := 22) (w := .ref 21) rfl rfl rfl rfl ?_
    refine ev_getfield (pc' := 25) (w := .ref 31) rfl rfl rfl rfl ?_
    refine am_bd h (fun q2 hq2 h => ?_)
    refine ev_call (mi := 36) (as := [.ref 41, .ref 34, .ref 31]) (rest := []) rfl rfl (Nat.le_of_ble_eq_true rfl) (fx_Parting_reckon_e (d := d) hq2) ?_
    show am_Ev _ _ _ _ 28 _ _ _ _ _
    obtain rfl := Option.some.inj h
    exact ev_return rfl rfl
  · refine ev_if_t (pc' := 28) rfl rfl (cb_ne_t hc1) ?_
    obtain rfl := Option.some.inj h
    exact ev_return rfl rfl
/-! PartedLand$Parting.sideOfThing (41, 'I'): P -/
def fx_Parting_sideOfThing (a1 : Int32) (σ : am_S) : Option Int32 := am_g (am_in a1 24) <| (if (σ 44 a1.toNatClampNeg) = (-1 : Int32) then some (0 : Int32) else some (((σ 41 9) >>> ((((σ 41 6) - (1 : Int32)) - (σ 44 a1.toNatClampNeg)) &&& 31)) &&& (1 : Int32)))
set_option maxRecDepth 100000 in
theorem fx_Parting_sideOfThing_e {X : Nat} {xs : Nat → Int32} {d : Nat} {a1 : Int32} {σ : am_S} {o : Int32} (h : fx_Parting_sideOfThing a1 σ = some o) : am_Ev am_sh (am_exx X xs) (d + 0) mm_41 0 [.ref 41, .int a1, .null] [] σ (some (.int o)) σ := by
  unfold fx_Parting_sideOfThing at h
  refine ev_aload_n (pc' := 1) rfl rfl rfl ?_
  refine ev_getfield (pc' := 4) (w := .ref 44) rfl rfl rfl rfl ?_
  refine ev_iload_n (pc' := 5) rfl rfl rfl ?_
  obtain ⟨hg1, h⟩ := am_g_some h
  refine ev_iaload (pc' := 6) rfl rfl rfl hg1 ?_
  refine ev_istore_n (pc' := 7) (L' := [.ref 41, .int a1, .int (σ 44 a1.toNatClampNeg)]) rfl rfl rfl rfl ?_
  refine ev_iload_n (pc' := 8) rfl rfl rfl ?_
  refine ev_iconst (pc' := 9) (b := (-1 : Int32)) rfl rfl rfl ?_
  rcases am_if h with ⟨hc2, h⟩ | ⟨hc2, h⟩
  · refine ev_ic_f (pc' := 12) rfl (by decide) rfl (cb_ne_f hc2) ?_
    refine ev_iconst (pc' := 13) (b := (0 : Int32)) rfl rfl rfl ?_
    refine ev_goto (pc' := 31) rfl rfl ?_
    obtain rfl := Option.some.inj h
    exact ev_ireturn rfl rfl
  · refine ev_ic_t (pc' := 16) rfl rfl (cb_ne_t hc2) ?_
    refine ev_aload_n (pc' := 17) rfl rfl rfl ?_
    refine ev_getfield (pc' := 20) (w := .int (σ 41 9)) rfl rfl rfl rfl ?_
    refine ev_aload_n (pc' := 21) rfl rfl rfl ?_
    refine ev_getfield (pc' := 24) (w := .int (σ 41 6)) rfl rfl rfl rfl ?_
    refine ev_iconst (pc' := 25) (b := (1 : Int32)) rfl rfl rfl ?_
    refine ev_isub (pc' := 26) rfl rfl ?_
    refine ev_iload_n (pc' := 27) rfl rfl rfl ?_
    refine ev_isub (pc' := 28) rfl rfl ?_
    refine ev_ishr (pc' := 29) rfl rfl ?_
    refine ev_iconst (pc' := 30) (b := (1 : Int32)) rfl rfl rfl ?_
    refine ev_iand (pc' := 31) rfl rfl ?_
    obtain rfl := Option.some.inj h
    exact ev_ireturn rfl rfl
/-! PartedLand.goes (0, 'I'): S -/
def fx_goes (N : Nat) (a1 : Int32) (σ : am_S) : Option (Int32 × am_S) := (if (fx_Estate_hasThing a1 σ) = 0 then (fx_finding (-1000000001 : Int32) σ).bind fun q2 => some (q2.1, q2.2) else am_g (am_in a1 24) <| (if (σ 35 a1.toNatClampNeg) = 0 then (fx_finding (-1000000002 : Int32) σ).bind fun q5 => some (q5.1, q5.2) else (if (σ 35 a1.toNatClampNeg) = (2 : Int32) then some ((2 : Int32), σ) else (if (σ 35 a1.toNatClampNeg) = (1 : Int32) then am_g (am_in a1 24) <| (fx_Land_sideOf N (σ 36 a1.toNatClampNeg) σ).bind fun q9 => some (q9, σ) else (fx_Estate_isLeftOut a1 (σ 31 6) σ).bind fun q10 => (if q10 = 0 then (fx_partThings N σ).bind fun q12 => (if (fx_Parting_isTooMany q12) = 0 then (fx_Parting_sideOfThing a1 q12).bind fun q14 => some (q14, q12) else (fx_finding (-1000000003 : Int32) q12).bind fun q15 => some (q15.1, q15.2)) else (fx_Estate_pledgeParish a1 σ).bind fun q16 => (fx_Land_sideOf N q16 σ).bind fun q17 => some (q17, σ))))))
set_option maxRecDepth 100000 in
theorem fx_goes_e {X : Nat} {xs : Nat → Int32} {d : Nat} {N : Nat} {a1 : Int32} {σ : am_S} {o : Int32 × am_S} (h : fx_goes N a1 σ = some o) : am_Ev am_sh (am_exx X xs) (d + 6) mm_106 0 [.ref 0, .int a1, .null] [] σ (some (.int o.1)) o.2 := by
  unfold fx_goes at h
  refine ev_aload_n (pc' := 1) rfl rfl rfl ?_
  refine ev_getfield (pc' := 4) (w := .ref 34) rfl rfl rfl rfl ?_
  refine ev_iload_n (pc' := 5) rfl rfl rfl ?_
  refine ev_call (mi := 6) (as := [.ref 34, .int a1]) (rest := []) rfl rfl (Nat.le_of_ble_eq_true rfl) (fx_Estate_hasThing_e (d := d + 5) rfl) ?_
  show am_Ev _ _ _ _ 8 _ _ _ _ _
  rcases am_if h with ⟨hc1, h⟩ | ⟨hc1, h⟩
  · refine ev_if_f (pc' := 11) rfl (by decide) rfl (cb_ne_f hc1) ?_
    refine ev_aload_n (pc' := 12) rfl rfl rfl ?_
    refine ev_ldc (pc' := 14) (b := (-1000000001 : Int32)) rfl rfl rfl ?_
    refine am_bd h (fun q2 hq2 h => ?_)
    refine ev_call (mi := 129) (as := [.ref 0, .int (-1000000001 : Int32)]) (rest := []) rfl rfl (Nat.le_of_ble_eq_true rfl) (fx_finding_e (d := d + 5) hq2) ?_
    show am_Ev _ _ _ _ 17 _ _ _ _ _
    obtain rfl := Option.some.inj h
    exact ev_ireturn rfl rfl
  · refine ev_if_t (pc' := 18) rfl rfl (cb_ne_t hc1) ?_
    refine ev_aload_n (pc' := 19) rfl rfl rfl ?_
    refine ev_getfield (pc' := 22) (w := .ref 34) rfl rfl rfl rfl ?_
    refine ev_getfield (pc' := 25) (w := .ref 35) rfl rfl rfl rfl ?_
    refine ev_iload_n (pc' := 26) rfl rfl rfl ?_
    obtain ⟨hg3, h⟩ := am_g_some h
    refine ev_iaload (pc' := 27) rfl rfl rfl hg3 ?_
    refine ev_istore_n (pc' := 28) (L' := [.ref 0, .int a1, .int (σ 35 a1.toNatClampNeg)]) rfl rfl rfl rfl ?_
    refine ev_iload_n (pc' := 29) rfl rfl rfl ?_
    rcases am_if h with ⟨hc4, h⟩ | ⟨hc4, h⟩
    · refine ev_if_f (pc' := 32) rfl (by decide) rfl (cb_ne_f hc4) ?_
      refine ev_aload_n (pc' := 33) rfl rfl rfl ?_
      refine ev_ldc (pc' := 35) (b := (-1000000002 : Int32)) rfl rfl rfl ?_
      refine am_bd h (fun q5 hq5 h => ?_)
      refine ev_call (mi := 129) (as := [.ref 0, .int (-1000000002 : Int32)]) (rest := []) rfl rfl (Nat.le_of_ble_eq_true rfl) (fx_finding_e (d := d + 5) hq5) ?_
      show am_Ev _ _ _ _ 38 _ _ _ _ _
      obtain rfl := Option.some.inj h
      exact ev_ireturn rfl rfl
    · refine ev_if_t (pc' := 39) rfl rfl (cb_ne_t hc4) ?_
      refine ev_iload_n (pc' := 40) rfl rfl rfl ?_
      refine ev_iconst (pc' := 41) (b := (2 : Int32)) rfl rfl rfl ?_
      rcases am_if h with ⟨hc6, h⟩ | ⟨hc6, h⟩
      · refine ev_ic_f (pc' := 44) rfl (by decide) rfl (cb_ne_f hc6) ?_
        refine ev_iconst (pc' := 45) (b := (2 : Int32)) rfl rfl rfl ?_
        obtain rfl := Option.some.inj h
        exact ev_ireturn rfl rfl
      · refine ev_ic_t (pc' := 46) rfl rfl (cb_ne_t hc6) ?_
        refine ev_iload_n (pc' := 47) rfl rfl rfl ?_
        refine ev_iconst (pc' := 48) (b := (1 : Int32)) rfl rfl rfl ?_
        rcases am_if h with ⟨hc7, h⟩ | ⟨hc7, h⟩
        · refine ev_ic_f (pc' := 51) rfl (by decide) rfl (cb_ne_f hc7) ?_
          refine ev_aload_n (pc' := 52) rfl rfl rfl ?_
          refine ev_getfield (pc' := 55) (w := .ref 1) rfl rfl rfl rfl ?_
          refine ev_aload_n (pc' := 56) rfl rfl rfl ?_
          refine ev_getfield (pc' := 59) (w := .ref 34) rfl rfl rfl rfl ?_
          refine ev_getfield (pc' := 62) (w := .ref 36) rfl rfl rfl rfl ?_
          refine ev_iload_n (pc' := 63) rfl rfl rfl ?_
          obtain ⟨hg8, h⟩ := am_g_some h
          refine ev_iaload (pc' := 64) rfl rfl rfl hg8 ?_
          refine am_bd h (fun q9 hq9 h => ?_)
          refine ev_call (mi := 16) (as := [.ref 1, .int (σ 36 a1.toNatClampNeg)]) (rest := []) rfl rfl (Nat.le_of_ble_eq_true rfl) (fx_Land_sideOf_e (d := d + 3) hq9) ?_
          show am_Ev _ _ _ _ 67 _ _ _ _ _
          obtain rfl := Option.some.inj h
          exact ev_ireturn rfl rfl
        · refine ev_ic_t (pc' := 68) rfl rfl (cb_ne_t hc7) ?_
          refine ev_aload_n (pc' := 69) rfl rfl rfl ?_
          refine ev_getfield (pc' := 72) (w := .ref 34) rfl rfl rfl rfl ?_
          refine ev_iload_n (pc' := 73) rfl rfl rfl ?_
          refine ev_aload_n (pc' := 74) rfl rfl rfl ?_
          refine ev_getfield (pc' := 77) (w := .ref 21) rfl rfl rfl rfl ?_
          refine ev_getfield (pc' := 80) (w := .ref 31) rfl rfl rfl rfl ?_
          refine ev_getfield (pc' := 83) (w := .int (σ 31 6)) rfl rfl rfl rfl ?_
          refine am_bd h (fun q10 hq10 h => ?_)
          refine ev_call (mi := 10) (as := [.ref 34, .int a1, .int (σ 31 6)]) (rest := []) rfl rfl (Nat.le_of_ble_eq_true rfl) (fx_Estate_isLeftOut_e (d := d + 5) hq10) ?_
          show am_Ev _ _ _ _ 86 _ _ _ _ _
          rcases am_if h with ⟨hc11, h⟩ | ⟨hc11, h⟩
          · refine ev_if_t (pc' := 105) rfl rfl (cb_eq_t hc11) ?_
            refine ev_aload_n (pc' := 106) rfl rfl rfl ?_
            refine am_bd h (fun q12 hq12 h => ?_)
            refine ev_call (mi := 132) (as := [.ref 0]) (rest := []) rfl rfl (Nat.le_of_ble_eq_true rfl) (fx_partThings_e (d := d) hq12) ?_
            show am_Ev _ _ _ _ 109 _ _ _ _ _
            refine ev_aload_n (pc' := 110) rfl rfl rfl ?_
            refine ev_getfield (pc' := 113) (w := .ref 41) rfl rfl rfl rfl ?_
            refine ev_call (mi := 35) (as := [.ref 41]) (rest := []) rfl rfl (Nat.le_of_ble_eq_true rfl) (fx_Parting_isTooMany_e (d := d + 5) rfl) ?_
            show am_Ev _ _ _ _ 116 _ _ _ _ _
            rcases am_if h with ⟨hc13, h⟩ | ⟨hc13, h⟩
            · refine ev_if_t (pc' := 128) rfl rfl (cb_eq_t hc13) ?_
              refine ev_aload_n (pc' := 129) rfl rfl rfl ?_
              refine ev_getfield (pc' := 132) (w := .ref 41) rfl rfl rfl rfl ?_
              refine ev_iload_n (pc' := 133) rfl rfl rfl ?_
              refine am_bd h (fun q14 hq14 h => ?_)
              refine ev_call (mi := 41) (as := [.ref 41, .int a1]) (rest := []) rfl rfl (Nat.le_of_ble_eq_true rfl) (fx_Parting_sideOfThing_e (d := d + 5) hq14) ?_
              show am_Ev _ _ _ _ 136 _ _ _ _ _
              obtain rfl := Option.some.inj h
              exact ev_ireturn rfl rfl
            · refine ev_if_f (pc' := 119) rfl (by decide) rfl (cb_eq_f hc13) ?_
              refine ev_aload_n (pc' := 120) rfl rfl rfl ?_
              refine ev_ldc (pc' := 122) (b := (-1000000003 : Int32)) rfl rfl rfl ?_
              refine am_bd h (fun q15 hq15 h => ?_)
              refine ev_call (mi := 129) (as := [.ref 0, .int (-1000000003 : Int32)]) (rest := []) rfl rfl (Nat.le_of_ble_eq_true rfl) (fx_finding_e (d := d + 5) hq15) ?_
              show am_Ev _ _ _ _ 125 _ _ _ _ _
              refine ev_goto (pc' := 136) rfl rfl ?_
              obtain rfl := Option.some.inj h
              exact ev_ireturn rfl rfl
          · refine ev_if_f (pc' := 89) rfl (by decide) rfl (cb_eq_f hc11) ?_
            refine ev_aload_n (pc' := 90) rfl rfl rfl ?_
            refine ev_getfield (pc' := 93) (w := .ref 1) rfl rfl rfl rfl ?_
            refine ev_aload_n (pc' := 94) rfl rfl rfl ?_
            refine ev_getfield (pc' := 97) (w := .ref 34) rfl rfl rfl rfl ?_
            refine ev_iload_n (pc' := 98) rfl rfl rfl ?_
            refine am_bd h (fun q16 hq16 h => ?_)
            refine ev_call (mi := 11) (as := [.ref 34, .int a1]) (rest := [.ref 1]) rfl rfl (Nat.le_of_ble_eq_true rfl) (fx_Estate_pledgeParish_e (d := d + 5) hq16) ?_
            show am_Ev _ _ _ _ 101 _ _ _ _ _
            refine am_bd h (fun q17 hq17 h => ?_)
            refine ev_call (mi := 16) (as := [.ref 1, .int q16]) (rest := []) rfl rfl (Nat.le_of_ble_eq_true rfl) (fx_Land_sideOf_e (d := d + 3) hq17) ?_
            show am_Ev _ _ _ _ 104 _ _ _ _ _
            obtain rfl := Option.some.inj h
            exact ev_ireturn rfl rfl
/-! PartedLand.rest (0, 'I'): S -/
def fx_rest_b9 (N : Nat) (σ : am_S) : Option (Int32 × am_S) := (fx_finding (-1000000001 : Int32) σ).bind fun q1 => some (q1.1, q1.2)
set_option maxRecDepth 100000 in
theorem fx_rest_b9_e {X : Nat} {xs : Nat → Int32} {d : Nat} {N : Nat} {w1 : Value} {σ : am_S} {o : Int32 × am_S} (h : fx_rest_b9 N σ = some o) : am_Ev am_sh (am_exx X xs) (d + 6) mm_107 9 [.ref 0, w1] [] σ (some (.int o.1)) o.2 := by
  unfold fx_rest_b9 at h
  refine ev_aload_n (pc' := 10) rfl rfl rfl ?_
  refine ev_ldc (pc' := 12) (b := (-1000000001 : Int32)) rfl rfl rfl ?_
  refine am_bd h (fun q1 hq1 h => ?_)
  refine ev_call (mi := 129) (as := [.ref 0, .int (-1000000001 : Int32)]) (rest := []) rfl rfl (Nat.le_of_ble_eq_true rfl) (fx_finding_e (d := d + 5) hq1) ?_
  show am_Ev _ _ _ _ 15 _ _ _ _ _
  obtain rfl := Option.some.inj h
  exact ev_ireturn rfl rfl
def fx_rest (N : Nat) (a1 : Int32) (σ : am_S) : Option (Int32 × am_S) := (if a1 < 0 then fx_rest_b9 N σ else (if a1 ≤ (2 : Int32) then (fx_partThings N σ).bind fun q3 => (if a1 = (2 : Int32) then some ((q3 41 6), q3) else (if (fx_Parting_isTooMany q3) = 0 then (if a1 = 0 then some ((q3 41 8), q3) else some ((q3 41 7), q3)) else (fx_finding (-1000000003 : Int32) q3).bind fun q7 => some (q7.1, q7.2))) else fx_rest_b9 N σ))
set_option maxRecDepth 100000 in
theorem fx_rest_e {X : Nat} {xs : Nat → Int32} {d : Nat} {N : Nat} {a1 : Int32} {σ : am_S} {o : Int32 × am_S} (h : fx_rest N a1 σ = some o) : am_Ev am_sh (am_exx X xs) (d + 6) mm_107 0 [.ref 0, .int a1] [] σ (some (.int o.1)) o.2 := by
  unfold fx_rest at h
  refine ev_iload_n (pc' := 1) rfl rfl rfl ?_
  rcases am_if h with ⟨hc1, h⟩ | ⟨hc1, h⟩
  · refine ev_if_t (pc' := 9) rfl rfl (cb_lt_t hc1) ?_
    exact fx_rest_b9_e h
  · refine ev_if_f (pc' := 4) rfl (by decide) rfl (cb_lt_f hc1) ?_
    refine ev_iload_n (pc' := 5) rfl rfl rfl ?_
    refine ev_iconst (pc' := 6) (b := (2 : Int32)) rfl rfl rfl ?_
    rcases am_if h with ⟨hc2, h⟩ | ⟨hc2, h⟩
    · refine ev_ic_t (pc' := 16) rfl rfl (cb_le_t hc2) ?_
      refine ev_aload_n (pc' := 17) rfl rfl rfl ?_
      refine am_bd h (fun q3 hq3 h => ?_)
      refine ev_call (mi := 132) (as := [.ref 0]) (rest := []) rfl rfl (Nat.le_of_ble_eq_true rfl) (fx_partThings_e (d := d) hq3) ?_
      show am_Ev _ _ _ _ 20 _ _ _ _ _
      refine ev_iload_n (pc' := 21) rfl rfl rfl ?_
      refine ev_iconst (pc' := 22) (b := (2 : Int32)) rfl rfl rfl ?_
      rcases am_if h with ⟨hc4, h⟩ | ⟨hc4, h⟩
      · refine ev_ic_f (pc' := 25) rfl (by decide) rfl (cb_ne_f hc4) ?_
        refine ev_aload_n (pc' := 26) rfl rfl rfl ?_
        refine ev_getfield (pc' := 29) (w := .ref 41) rfl rfl rfl rfl ?_
        refine ev_getfield (pc' := 32) (w := .int (q3 41 6)) rfl rfl rfl rfl ?_
        obtain rfl := Option.some.inj h
        exact ev_ireturn rfl rfl
      · refine ev_ic_t (pc' := 33) rfl rfl (cb_ne_t hc4) ?_
        refine ev_aload_n (pc' := 34) rfl rfl rfl ?_
        refine ev_getfield (pc' := 37) (w := .ref 41) rfl rfl rfl rfl ?_
        refine ev_call (mi := 35) (as := [.ref 41]) (rest := []) rfl rfl (Nat.le_of_ble_eq_true rfl) (fx_Parting_isTooMany_e (d := d + 5) rfl) ?_
        show am_Ev _ _ _ _ 40 _ _ _ _ _
        rcases am_if h with ⟨hc5, h⟩ | ⟨hc5, h⟩
        · refine ev_if_t (pc' := 50) rfl rfl (cb_eq_t hc5) ?_
          refine ev_iload_n (pc' := 51) rfl rfl rfl ?_
          rcases am_if h with ⟨hc6, h⟩ | ⟨hc6, h⟩
          · refine ev_if_f (pc' := 54) rfl (by decide) rfl (cb_ne_f hc6) ?_
            refine ev_aload_n (pc' := 55) rfl rfl rfl ?_
            refine ev_getfield (pc' := 58) (w := .ref 41) rfl rfl rfl rfl ?_
            refine ev_getfield (pc' := 61) (w := .int (q3 41 8)) rfl rfl rfl rfl ?_
            refine ev_goto (pc' := 71) rfl rfl ?_
            obtain rfl := Option.some.inj h
            exact ev_ireturn rfl rfl
          · refine ev_if_t (pc' := 64) rfl rfl (cb_ne_t hc6) ?_
            refine ev_aload_n (pc' := 65) rfl rfl rfl ?_
            refine ev_getfield (pc' := 68) (w := .ref 41) rfl rfl rfl rfl ?_
            refine ev_getfield (pc' := 71) (w := .int (q3 41 7)) rfl rfl rfl rfl ?_
            obtain rfl := Option.some.inj h
            exact ev_ireturn rfl rfl
        · refine ev_if_f (pc' := 43) rfl (by decide) rfl (cb_eq_f hc5) ?_
          refine ev_aload_n (pc' := 44) rfl rfl rfl ?_
          refine ev_ldc (pc' := 46) (b := (-1000000003 : Int32)) rfl rfl rfl ?_
          refine am_bd h (fun q7 hq7 h => ?_)
          refine ev_call (mi := 129) (as := [.ref 0, .int (-1000000003 : Int32)]) (rest := []) rfl rfl (Nat.le_of_ble_eq_true rfl) (fx_finding_e (d := d + 5) hq7) ?_
          show am_Ev _ _ _ _ 49 _ _ _ _ _
          obtain rfl := Option.some.inj h
          exact ev_ireturn rfl rfl
    · refine ev_ic_f (pc' := 9) rfl (by decide) rfl (cb_le_f hc2) ?_
      exact fx_rest_b9_e h
/-! PartedLand.hoard (0, 'I', 'I'): S -/
def fx_hoard_b22 (σ : am_S) : Option (Int32 × am_S) := (fx_finding (-1000000001 : Int32) σ).bind fun q1 => some (q1.1, q1.2)
set_option maxRecDepth 100000 in
theorem fx_hoard_b22_e {X : Nat} {xs : Nat → Int32} {d : Nat} {w1 : Value} {w2 : Value} {w3 : Value} {σ : am_S} {o : Int32 × am_S} (h : fx_hoard_b22 σ = some o) : am_Ev am_sh (am_exx X xs) (d + 1) mm_108 22 [.ref 0, w1, w2, w3] [] σ (some (.int o.1)) o.2 := by
  unfold fx_hoard_b22 at h
  refine ev_aload_n (pc' := 23) rfl rfl rfl ?_
  refine ev_ldc (pc' := 25) (b := (-1000000001 : Int32)) rfl rfl rfl ?_
  refine am_bd h (fun q1 hq1 h => ?_)
  refine ev_call (mi := 129) (as := [.ref 0, .int (-1000000001 : Int32)]) (rest := []) rfl rfl (Nat.le_of_ble_eq_true rfl) (fx_finding_e (d := d) hq1) ?_
  show am_Ev _ _ _ _ 28 _ _ _ _ _
  obtain rfl := Option.some.inj h
  exact ev_ireturn rfl rfl
def fx_hoard (a1 : Int32) (a2 : Int32) (σ : am_S) : Option (Int32 × am_S) := (if (fx_People_hasPerson a1 σ) = 0 then fx_hoard_b22 σ else (if a2 < 0 then fx_hoard_b22 σ else (if a2 ≤ (9999 : Int32) then am_g (am_in a1 16) <| am_g (am_in a1 16) <| some ((σ 20 a1.toNatClampNeg), (am_up σ 20 a1.toNatClampNeg a2)) else fx_hoard_b22 σ)))
set_option maxRecDepth 100000 in
theorem fx_hoard_e {X : Nat} {xs : Nat → Int32} {d : Nat} {a1 : Int32} {a2 : Int32} {σ : am_S} {o : Int32 × am_S} (h : fx_hoard a1 a2 σ = some o) : am_Ev am_sh (am_exx X xs) (d + 1) mm_108 0 [.ref 0, .int a1, .int a2, .null] [] σ (some (.int o.1)) o.2 := by
  unfold fx_hoard at h
  refine ev_aload_n (pc' := 1) rfl rfl rfl ?_
  refine ev_getfield (pc' := 4) (w := .ref 13) rfl rfl rfl rfl ?_
  refine ev_iload_n (pc' := 5) rfl rfl rfl ?_
  refine ev_call (mi := 43) (as := [.ref 13, .int a1]) (rest := []) rfl rfl (Nat.le_of_ble_eq_true rfl) (fx_People_hasPerson_e (d := d) rfl) ?_
  show am_Ev _ _ _ _ 8 _ _ _ _ _
  rcases am_if h with ⟨hc1, h⟩ | ⟨hc1, h⟩
  · refine ev_if_t (pc' := 22) rfl rfl (cb_eq_t hc1) ?_
    exact fx_hoard_b22_e h
  · refine ev_if_f (pc' := 11) rfl (by decide) rfl (cb_eq_f hc1) ?_
    refine ev_iload_n (pc' := 12) rfl rfl rfl ?_
    rcases am_if h with ⟨hc2, h⟩ | ⟨hc2, h⟩
    · refine ev_if_t (pc' := 22) rfl rfl (cb_lt_t hc2) ?_
      exact fx_hoard_b22_e h
    · refine ev_if_f (pc' := 15) rfl (by decide) rfl (cb_lt_f hc2) ?_
      refine ev_iload_n (pc' := 16) rfl rfl rfl ?_
      refine ev_sipush (pc' := 19) (b := (9999 : Int32)) rfl rfl rfl ?_
      rcases am_if h with ⟨hc3, h⟩ | ⟨hc3, h⟩
      · refine ev_ic_t (pc' := 29) rfl rfl (cb_le_t hc3) ?_
        refine ev_aload_n (pc' := 30) rfl rfl rfl ?_
        refine ev_getfield (pc' := 33) (w := .ref 13) rfl rfl rfl rfl ?_
        refine ev_getfield (pc' := 36) (w := .ref 20) rfl rfl rfl rfl ?_
        refine ev_iload_n (pc' := 37) rfl rfl rfl ?_
        obtain ⟨hg4, h⟩ := am_g_some h
        refine ev_iaload (pc' := 38) rfl rfl rfl hg4 ?_
        refine ev_istore_n (pc' := 39) (L' := [.ref 0, .int a1, .int a2, .int (σ 20 a1.toNatClampNeg)]) rfl rfl rfl rfl ?_
        refine ev_aload_n (pc' := 40) rfl rfl rfl ?_
        refine ev_getfield (pc' := 43) (w := .ref 13) rfl rfl rfl rfl ?_
        refine ev_getfield (pc' := 46) (w := .ref 20) rfl rfl rfl rfl ?_
        refine ev_iload_n (pc' := 47) rfl rfl rfl ?_
        refine ev_iload_n (pc' := 48) rfl rfl rfl ?_
        obtain ⟨hg5, h⟩ := am_g_some h
        refine ev_iastore (pc' := 49) rfl rfl rfl hg5 ?_
        refine ev_iload_n (pc' := 50) rfl rfl rfl ?_
        obtain rfl := Option.some.inj h
        exact ev_ireturn rfl rfl
      · refine ev_ic_f (pc' := 22) rfl (by decide) rfl (cb_le_f hc3) ?_
        exact fx_hoard_b22_e h
/-! PartedLand$Week.isRate ('I',): T -/
def fx_Week_isRate (a0 : Int32) (σ : am_S) : Int32 := (if a0 < (1 : Int32) then (0 : Int32) else (if (200 : Int32) < a0 then (0 : Int32) else (1 : Int32)))
set_option maxRecDepth 100000 in
theorem fx_Week_isRate_e {X : Nat} {xs : Nat → Int32} {d : Nat} {a0 : Int32} {σ : am_S} {o : Int32} (h : fx_Week_isRate a0 σ = o) : am_Ev am_sh (am_exx X xs) (d + 0) mm_86 0 [.int a0] [] σ (some (.int o)) σ := by
  unfold fx_Week_isRate at h
  refine ev_iload_n (pc' := 1) rfl rfl rfl ?_
  refine ev_iconst (pc' := 2) (b := (1 : Int32)) rfl rfl rfl ?_
  rcases am_if h with ⟨hc1, h⟩ | ⟨hc1, h⟩
  · refine ev_ic_t (pc' := 16) rfl rfl (cb_lt_t hc1) ?_
    refine ev_iconst (pc' := 17) (b := (0 : Int32)) rfl rfl rfl ?_
    subst h
    exact ev_zreturn rfl rfl rfl
  · refine ev_ic_f (pc' := 5) rfl (by decide) rfl (cb_lt_f hc1) ?_
    refine ev_iload_n (pc' := 6) rfl rfl rfl ?_
    refine ev_sipush (pc' := 9) (b := (200 : Int32)) rfl rfl rfl ?_
    rcases am_if h with ⟨hc2, h⟩ | ⟨hc2, h⟩
    · refine ev_ic_t (pc' := 16) rfl rfl (cb_gt_t hc2) ?_
      refine ev_iconst (pc' := 17) (b := (0 : Int32)) rfl rfl rfl ?_
      subst h
      exact ev_zreturn rfl rfl rfl
    · refine ev_ic_f (pc' := 12) rfl (by decide) rfl (cb_gt_f hc2) ?_
      refine ev_iconst (pc' := 13) (b := (1 : Int32)) rfl rfl rfl ?_
      refine ev_goto (pc' := 17) rfl rfl ?_
      subst h
      exact ev_zreturn rfl rfl rfl
/-! PartedLand.week (0, 'I', 'I', 'I'): S -/
def fx_week_b22 (σ : am_S) : Option (Int32 × am_S) := (fx_finding (-1000000001 : Int32) σ).bind fun q1 => some (q1.1, q1.2)
set_option maxRecDepth 100000 in
theorem fx_week_b22_e {X : Nat} {xs : Nat → Int32} {d : Nat} {w1 : Value} {w2 : Value} {w3 : Value} {σ : am_S} {o : Int32 × am_S} (h : fx_week_b22 σ = some o) : am_Ev am_sh (am_exx X xs) (d + 1) mm_109 22 [.ref 0, w1, w2, w3] [] σ (some (.int o.1)) o.2 := by
  unfold fx_week_b22 at h
  refine ev_aload_n (pc' := 23) rfl rfl rfl ?_
  refine ev_ldc (pc' := 25) (b := (-1000000001 : Int32)) rfl rfl rfl ?_
  refine am_bd h (fun q1 hq1 h => ?_)
  refine ev_call (mi := 129) (as := [.ref 0, .int (-1000000001 : Int32)]) (rest := []) rfl rfl (Nat.le_of_ble_eq_true rfl) (fx_finding_e (d := d) hq1) ?_
  show am_Ev _ _ _ _ 28 _ _ _ _ _
  obtain rfl := Option.some.inj h
  exact ev_ireturn rfl rfl
def fx_week_b50 (σ : am_S) : Option (Int32 × am_S) := (fx_finding (-1000000001 : Int32) σ).bind fun q1 => some (q1.1, q1.2)
set_option maxRecDepth 100000 in
theorem fx_week_b50_e {X : Nat} {xs : Nat → Int32} {d : Nat} {w1 : Value} {w2 : Value} {w3 : Value} {σ : am_S} {o : Int32 × am_S} (h : fx_week_b50 σ = some o) : am_Ev am_sh (am_exx X xs) (d + 1) mm_109 50 [.ref 0, w1, w2, w3] [] σ (some (.int o.1)) o.2 := by
  unfold fx_week_b50 at h
  refine ev_aload_n (pc' := 51) rfl rfl rfl ?_
  refine ev_ldc (pc' := 53) (b := (-1000000001 : Int32)) rfl rfl rfl ?_
  refine am_bd h (fun q1 hq1 h => ?_)
  refine ev_call (mi := 129) (as := [.ref 0, .int (-1000000001 : Int32)]) (rest := []) rfl rfl (Nat.le_of_ble_eq_true rfl) (fx_finding_e (d := d) hq1) ?_
  show am_Ev _ _ _ _ 56 _ _ _ _ _
  obtain rfl := Option.some.inj h
  exact ev_ireturn rfl rfl
def fx_week (a1 : Int32) (a2 : Int32) (a3 : Int32) (σ : am_S) : Option (Int32 × am_S) := (if (fx_Week_isRate (a1 / (1000 : Int32)) σ) = 0 then fx_week_b22 σ else (if (fx_Week_isRate (a1 - a1 / (1000 : Int32) * (1000 : Int32)) σ) = 0 then fx_week_b22 σ else (if a2 < 0 then fx_week_b50 σ else (if (9999 : Int32) < a2 then fx_week_b50 σ else (if a3 < 0 then fx_week_b50 σ else (if a3 ≤ (9 : Int32) then some ((1 : Int32), (am_up (am_up (am_up (am_up σ 47 0 (a1 / (1000 : Int32))) 47 1 (a1 - a1 / (1000 : Int32) * (1000 : Int32))) 47 2 a2) 47 3 a3)) else fx_week_b50 σ))))))
set_option maxRecDepth 100000 in
theorem fx_week_e {X : Nat} {xs : Nat → Int32} {d : Nat} {a1 : Int32} {a2 : Int32} {a3 : Int32} {σ : am_S} {o : Int32 × am_S} (h : fx_week a1 a2 a3 σ = some o) : am_Ev am_sh (am_exx X xs) (d + 1) mm_109 0 [.ref 0, .int a1, .int a2, .int a3] [] σ (some (.int o.1)) o.2 := by
  unfold fx_week at h
  refine ev_iload_n (pc' := 1) rfl rfl rfl ?_
  refine ev_sipush (pc' := 4) (b := (1000 : Int32)) rfl rfl rfl ?_
  refine ev_idiv (pc' := 5) rfl rfl (by decide) ?_
  refine ev_call (mi := 86) (as := [.int (a1 / (1000 : Int32))]) (rest := []) rfl rfl (Nat.le_of_ble_eq_true rfl) (fx_Week_isRate_e (d := d) rfl) ?_
  show am_Ev _ _ _ _ 8 _ _ _ _ _
  rcases am_if h with ⟨hc1, h⟩ | ⟨hc1, h⟩
  · refine ev_if_t (pc' := 22) rfl rfl (cb_eq_t hc1) ?_
    exact fx_week_b22_e h
  · refine ev_if_f (pc' := 11) rfl (by decide) rfl (cb_eq_f hc1) ?_
    refine ev_iload_n (pc' := 12) rfl rfl rfl ?_
    refine ev_sipush (pc' := 15) (b := (1000 : Int32)) rfl rfl rfl ?_
    refine ev_irem (pc' := 16) rfl rfl (by decide) ?_
    refine ev_call (mi := 86) (as := [.int (a1 - a1 / (1000 : Int32) * (1000 : Int32))]) (rest := []) rfl rfl (Nat.le_of_ble_eq_true rfl) (fx_Week_isRate_e (d := d) rfl) ?_
    show am_Ev _ _ _ _ 19 _ _ _ _ _
    rcases am_if h with ⟨hc2, h⟩ | ⟨hc2, h⟩
    · refine ev_if_f (pc' := 22) rfl (by decide) rfl (cb_ne_f hc2) ?_
      exact fx_week_b22_e h
    · refine ev_if_t (pc' := 29) rfl rfl (cb_ne_t hc2) ?_
      refine ev_iload_n (pc' := 30) rfl rfl rfl ?_
      rcases am_if h with ⟨hc3, h⟩ | ⟨hc3, h⟩
      · refine ev_if_t (pc' := 50) rfl rfl (cb_lt_t hc3) ?_
        exact fx_week_b50_e h
      · refine ev_if_f (pc' := 33) rfl (by decide) rfl (cb_lt_f hc3) ?_
        refine ev_iload_n (pc' := 34) rfl rfl rfl ?_
        refine ev_sipush (pc' := 37) (b := (9999 : Int32)) rfl rfl rfl ?_
        rcases am_if h with ⟨hc4, h⟩ | ⟨hc4, h⟩
        · refine ev_ic_t (pc' := 50) rfl rfl (cb_gt_t hc4) ?_
          exact fx_week_b50_e h
        · refine ev_ic_f (pc' := 40) rfl (by decide) rfl (cb_gt_f hc4) ?_
          refine ev_iload_n (pc' := 41) rfl rfl rfl ?_
          rcases am_if h with ⟨hc5, h⟩ | ⟨hc5, h⟩
          · refine ev_if_t (pc' := 50) rfl rfl (cb_lt_t hc5) ?_
            exact fx_week_b50_e h
          · refine ev_if_f (pc' := 44) rfl (by decide) rfl (cb_lt_f hc5) ?_
            refine ev_iload_n (pc' := 45) rfl rfl rfl ?_
            refine ev_bipush (pc' := 47) (b := (9 : Int32)) rfl rfl rfl ?_
            rcases am_if h with ⟨hc6, h⟩ | ⟨hc6, h⟩
            · refine ev_ic_t (pc' := 57) rfl rfl (cb_le_t hc6) ?_
              refine ev_aload_n (pc' := 58) rfl rfl rfl ?_
              refine ev_getfield (pc' := 61) (w := .ref 47) rfl rfl rfl rfl ?_
              refine ev_iload_n (pc' := 62) rfl rfl rfl ?_
              refine ev_sipush (pc' := 65) (b := (1000 : Int32)) rfl rfl rfl ?_
              refine ev_idiv (pc' := 66) rfl rfl (by decide) ?_
              refine ev_putfield (pc' := 69) (ci := 9) (f := 0) (z := 0) rfl rfl rfl rfl rfl ?_
              refine ev_aload_n (pc' := 70) rfl rfl rfl ?_
              refine ev_getfield (pc' := 73) (w := .ref 47) rfl rfl rfl rfl ?_
              refine ev_iload_n (pc' := 74) rfl rfl rfl ?_
              refine ev_sipush (pc' := 77) (b := (1000 : Int32)) rfl rfl rfl ?_
              refine ev_irem (pc' := 78) rfl rfl (by decide) ?_
              refine ev_putfield (pc' := 81) (ci := 9) (f := 1) (z := 0) rfl rfl rfl rfl rfl ?_
              refine ev_aload_n (pc' := 82) rfl rfl rfl ?_
              refine ev_getfield (pc' := 85) (w := .ref 47) rfl rfl rfl rfl ?_
              refine ev_iload_n (pc' := 86) rfl rfl rfl ?_
              refine ev_putfield (pc' := 89) (ci := 9) (f := 2) (z := 0) rfl rfl rfl rfl rfl ?_
              refine ev_aload_n (pc' := 90) rfl rfl rfl ?_
              refine ev_getfield (pc' := 93) (w := .ref 47) rfl rfl rfl rfl ?_
              refine ev_iload_n (pc' := 94) rfl rfl rfl ?_
              refine ev_putfield (pc' := 97) (ci := 9) (f := 3) (z := 0) rfl rfl rfl rfl rfl ?_
              refine ev_iconst (pc' := 98) (b := (1 : Int32)) rfl rfl rfl ?_
              obtain rfl := Option.some.inj h
              exact ev_ireturn rfl rfl
            · refine ev_ic_f (pc' := 50) rfl (by decide) rfl (cb_le_f hc6) ?_
              exact fx_week_b50_e h
/-! PartedLand$Week.rateOf (47, 'I'): T -/
def fx_Week_rateOf (a1 : Int32) (σ : am_S) : Int32 := (if a1 = 0 then (σ 47 0) else (σ 47 1))
set_option maxRecDepth 100000 in
theorem fx_Week_rateOf_e {X : Nat} {xs : Nat → Int32} {d : Nat} {a1 : Int32} {σ : am_S} {o : Int32} (h : fx_Week_rateOf a1 σ = o) : am_Ev am_sh (am_exx X xs) (d + 0) mm_87 0 [.ref 47, .int a1] [] σ (some (.int o)) σ := by
  unfold fx_Week_rateOf at h
  refine ev_iload_n (pc' := 1) rfl rfl rfl ?_
  rcases am_if h with ⟨hc1, h⟩ | ⟨hc1, h⟩
  · refine ev_if_f (pc' := 4) rfl (by decide) rfl (cb_ne_f hc1) ?_
    refine ev_aload_n (pc' := 5) rfl rfl rfl ?_
    refine ev_getfield (pc' := 8) (w := .int (σ 47 0)) rfl rfl rfl rfl ?_
    refine ev_goto (pc' := 15) rfl rfl ?_
    subst h
    exact ev_ireturn rfl rfl
  · refine ev_if_t (pc' := 11) rfl rfl (cb_ne_t hc1) ?_
    refine ev_aload_n (pc' := 12) rfl rfl rfl ?_
    refine ev_getfield (pc' := 15) (w := .int (σ 47 1)) rfl rfl rfl rfl ?_
    subst h
    exact ev_ireturn rfl rfl
/-! java/util/Arrays.fill (12, 'I'): S -/
def fx_Arr_fill_12_b5 (N : Nat) : Nat → Int32 → Int32 → Int32 → am_S → Option am_S
  | 0, _, _, _, _ => none
  | n + 1, x1, x2, x3, σ => (if x3 ≤ x2 then some σ else am_g (am_in x2 12) <| fx_Arr_fill_12_b5 N n x1 (x2 + (1 : Int32)) x3 (am_up σ 12 x2.toNatClampNeg x1))
set_option maxRecDepth 100000 in
theorem fx_Arr_fill_12_b5_e {X : Nat} {xs : Nat → Int32} {d : Nat} {N : Nat} : ∀ {n : Nat} {x1 : Int32} {x2 : Int32} {x3 : Int32} {σ : am_S} {o : am_S}, fx_Arr_fill_12_b5 N n x1 x2 x3 σ = some o → am_Ev am_sh (am_exx X xs) (d + 0) mm_218 5 [.ref 12, .int x1, .int x2, .int x3] [] σ (none) o := by
  intro n
  induction n with
  | zero => intro x1 x2 x3 σ o h; cases h
  | succ n ih =>
    intro x1 x2 x3 σ o h
    unfold fx_Arr_fill_12_b5 at h
    refine ev_iload_n (pc' := 6) rfl rfl rfl ?_
    refine ev_iload_n (pc' := 7) rfl rfl rfl ?_
    rcases am_if h with ⟨hc1, h⟩ | ⟨hc1, h⟩
    · refine ev_ic_t (pc' := 20) rfl rfl (cb_ge_t hc1) ?_
      obtain rfl := Option.some.inj h
      exact ev_return rfl rfl
    · refine ev_ic_f (pc' := 10) rfl (by decide) rfl (cb_ge_f hc1) ?_
      refine ev_aload_n (pc' := 11) rfl rfl rfl ?_
      refine ev_iload_n (pc' := 12) rfl rfl rfl ?_
      refine ev_iload_n (pc' := 13) rfl rfl rfl ?_
      obtain ⟨hg2, h⟩ := am_g_some h
      refine ev_iastore (pc' := 14) rfl rfl rfl hg2 ?_
      refine ev_iinc (pc' := 17) (L' := [.ref 12, .int x1, .int (x2 + (1 : Int32)), .int x3]) (b := (1 : Int32)) rfl rfl rfl rfl rfl ?_
      refine ev_goto (pc' := 5) rfl rfl ?_
      exact ih h
def fx_Arr_fill_12 (N : Nat) (a1 : Int32) (σ : am_S) : Option am_S := fx_Arr_fill_12_b5 N N a1 (0 : Int32) (12 : Int32) σ
set_option maxRecDepth 100000 in
theorem fx_Arr_fill_12_e {X : Nat} {xs : Nat → Int32} {d : Nat} {N : Nat} {a1 : Int32} {σ : am_S} {o : am_S} (h : fx_Arr_fill_12 N a1 σ = some o) : am_Ev am_sh (am_exx X xs) (d + 0) mm_218 0 [.ref 12, .int a1, .null, .null] [] σ (none) o := by
  unfold fx_Arr_fill_12 at h
  refine ev_iconst (pc' := 1) (b := (0 : Int32)) rfl rfl rfl ?_
  refine ev_istore_n (pc' := 2) (L' := [.ref 12, .int a1, .int (0 : Int32), .null]) rfl rfl rfl rfl ?_
  refine ev_aload_n (pc' := 3) rfl rfl rfl ?_
  refine ev_arraylength (pc' := 4) (b := (12 : Int32)) rfl rfl rfl rfl ?_
  refine ev_istore_n (pc' := 5) (L' := [.ref 12, .int a1, .int (0 : Int32), .int (12 : Int32)]) rfl rfl rfl rfl ?_
  exact fx_Arr_fill_12_b5_e h
/-! PartedLand$Land.shorten (1, 'I'): S -/
def fx_Land_shorten_b141 (N : Nat) (k4 : Int32 → Int32 → Int32 → am_S → Option (Int32 × am_S)) (x1 : Int32) (x2 : Int32) (x3 : Int32) (σ : am_S) : Option (Int32 × am_S) := k4 x1 x2 (x3 + (1 : Int32)) σ
set_option maxRecDepth 100000 in
theorem fx_Land_shorten_b141_e {X : Nat} {xs : Nat → Int32} {d : Nat} {N : Nat} {k4 : Int32 → Int32 → Int32 → am_S → Option (Int32 × am_S)} (hk4 : ∀ {x1 : Int32} {x2 : Int32} {x3 : Int32} {w4 : Value} {w5 : Value} {σ : am_S} {o : Int32 × am_S}, k4 x1 x2 x3 σ = some o → am_Ev am_sh (am_exx X xs) (d + 0) mm_22 4 [.ref 1, .int x1, .int x2, .int x3, w4, w5] [] σ (some (.int o.1)) o.2) {x1 : Int32} {x2 : Int32} {x3 : Int32} {w4 : Value} {w5 : Value} {σ : am_S} {o : Int32 × am_S} (h : fx_Land_shorten_b141 N k4 x1 x2 x3 σ = some o) : am_Ev am_sh (am_exx X xs) (d + 0) mm_22 141 [.ref 1, .int x1, .int x2, .int x3, w4, w5] [] σ (some (.int o.1)) o.2 := by
  unfold fx_Land_shorten_b141 at h
  refine ev_iinc (pc' := 144) (L' := [.ref 1, .int x1, .int x2, .int (x3 + (1 : Int32)), w4, w5]) (b := (1 : Int32)) rfl rfl rfl rfl rfl ?_
  refine ev_goto (pc' := 4) rfl rfl ?_
  exact hk4 h
def fx_Land_shorten_b28 (N : Nat) (k4 : Int32 → Int32 → Int32 → am_S → Option (Int32 × am_S)) (x1 : Int32) (x2 : Int32) (x3 : Int32) (σ : am_S) : Option (Int32 × am_S) := am_g (am_in x3 30) <| am_g (am_in x3 30) <| am_g (am_in (σ 6 x3.toNatClampNeg) 12) <| am_g (am_in x3 30) <| am_g (am_in (σ 7 x3.toNatClampNeg) 12) <| (if (σ 12 (σ 7 x3.toNatClampNeg).toNatClampNeg) ≤ ((σ 12 (σ 6 x3.toNatClampNeg).toNatClampNeg) + (σ 8 x3.toNatClampNeg)) then am_g (am_in (σ 7 x3.toNatClampNeg) 12) <| am_g (am_in x3 30) <| am_g (am_in (σ 6 x3.toNatClampNeg) 12) <| (if (σ 12 (σ 6 x3.toNatClampNeg).toNatClampNeg) ≤ ((σ 12 (σ 7 x3.toNatClampNeg).toNatClampNeg) + (σ 8 x3.toNatClampNeg)) then fx_Land_shorten_b141 N k4 x1 x2 x3 σ else am_g (am_in (σ 7 x3.toNatClampNeg) 12) <| am_g (am_in x3 30) <| am_g (am_in (σ 6 x3.toNatClampNeg) 12) <| fx_Land_shorten_b141 N k4 x1 (1 : Int32) x3 (am_up σ 12 (σ 6 x3.toNatClampNeg).toNatClampNeg ((σ 12 (σ 7 x3.toNatClampNeg).toNatClampNeg) + (σ 8 x3.toNatClampNeg)))) else am_g (am_in (σ 6 x3.toNatClampNeg) 12) <| am_g (am_in x3 30) <| am_g (am_in (σ 7 x3.toNatClampNeg) 12) <| fx_Land_shorten_b141 N k4 x1 (1 : Int32) x3 (am_up σ 12 (σ 7 x3.toNatClampNeg).toNatClampNeg ((σ 12 (σ 6 x3.toNatClampNeg).toNatClampNeg) + (σ 8 x3.toNatClampNeg))))
set_option maxRecDepth 100000 in
theorem fx_Land_shorten_b28_e {X : Nat} {xs : Nat → Int32} {d : Nat} {N : Nat} {k4 : Int32 → Int32 → Int32 → am_S → Option (Int32 × am_S)} (hk4 : ∀ {x1 : Int32} {x2 : Int32} {x3 : Int32} {w4 : Value} {w5 : Value} {σ : am_S} {o : Int32 × am_S}, k4 x1 x2 x3 σ = some o → am_Ev am_sh (am_exx X xs) (d + 0) mm_22 4 [.ref 1, .int x1, .int x2, .int x3, w4, w5] [] σ (some (.int o.1)) o.2) {x1 : Int32} {x2 : Int32} {x3 : Int32} {w4 : Value} {w5 : Value} {σ : am_S} {o : Int32 × am_S} (h : fx_Land_shorten_b28 N k4 x1 x2 x3 σ = some o) : am_Ev am_sh (am_exx X xs) (d + 0) mm_22 28 [.ref 1, .int x1, .int x2, .int x3, w4, w5] [] σ (some (.int o.1)) o.2 := by
  unfold fx_Land_shorten_b28 at h
  refine ev_aload_n (pc' := 29) rfl rfl rfl ?_
  refine ev_getfield (pc' := 32) (w := .ref 6) rfl rfl rfl rfl ?_
  refine ev_iload_n (pc' := 33) rfl rfl rfl ?_
  obtain ⟨hg1, h⟩ := am_g_some h
  refine ev_iaload (pc' := 34) rfl rfl rfl hg1 ?_
  refine ev_istore (pc' := 36) (L' := [.ref 1, .int x1, .int x2, .int x3, .int (σ 6 x3.toNatClampNeg), w5]) rfl rfl rfl rfl ?_
  refine ev_aload_n (pc' := 37) rfl rfl rfl ?_
  refine ev_getfield (pc' := 40) (w := .ref 7) rfl rfl rfl rfl ?_
  refine ev_iload_n (pc' := 41) rfl rfl rfl ?_
  obtain ⟨hg2, h⟩ := am_g_some h
  refine ev_iaload (pc' := 42) rfl rfl rfl hg2 ?_
  refine ev_istore (pc' := 44) (L' := [.ref 1, .int x1, .int x2, .int x3, .int (σ 6 x3.toNatClampNeg), .int (σ 7 x3.toNatClampNeg)]) rfl rfl rfl rfl ?_
  refine ev_aload_n (pc' := 45) rfl rfl rfl ?_
  refine ev_getfield (pc' := 48) (w := .ref 12) rfl rfl rfl rfl ?_
  refine ev_iload (pc' := 50) rfl rfl rfl ?_
  obtain ⟨hg3, h⟩ := am_g_some h
  refine ev_iaload (pc' := 51) rfl rfl rfl hg3 ?_
  refine ev_aload_n (pc' := 52) rfl rfl rfl ?_
  refine ev_getfield (pc' := 55) (w := .ref 8) rfl rfl rfl rfl ?_
  refine ev_iload_n (pc' := 56) rfl rfl rfl ?_
  obtain ⟨hg4, h⟩ := am_g_some h
  refine ev_iaload (pc' := 57) rfl rfl rfl hg4 ?_
  refine ev_iadd (pc' := 58) rfl rfl ?_
  refine ev_aload_n (pc' := 59) rfl rfl rfl ?_
  refine ev_getfield (pc' := 62) (w := .ref 12) rfl rfl rfl rfl ?_
  refine ev_iload (pc' := 64) rfl rfl rfl ?_
  obtain ⟨hg5, h⟩ := am_g_some h
  refine ev_iaload (pc' := 65) rfl rfl rfl hg5 ?_
  rcases am_if h with ⟨hc6, h⟩ | ⟨hc6, h⟩
  · refine ev_ic_t (pc' := 94) rfl rfl (cb_ge_t hc6) ?_
    refine ev_aload_n (pc' := 95) rfl rfl rfl ?_
    refine ev_getfield (pc' := 98) (w := .ref 12) rfl rfl rfl rfl ?_
    refine ev_iload (pc' := 100) rfl rfl rfl ?_
    obtain ⟨hg7, h⟩ := am_g_some h
    refine ev_iaload (pc' := 101) rfl rfl rfl hg7 ?_
    refine ev_aload_n (pc' := 102) rfl rfl rfl ?_
    refine ev_getfield (pc' := 105) (w := .ref 8) rfl rfl rfl rfl ?_
    refine ev_iload_n (pc' := 106) rfl rfl rfl ?_
    obtain ⟨hg8, h⟩ := am_g_some h
    refine ev_iaload (pc' := 107) rfl rfl rfl hg8 ?_
    refine ev_iadd (pc' := 108) rfl rfl ?_
    refine ev_aload_n (pc' := 109) rfl rfl rfl ?_
    refine ev_getfield (pc' := 112) (w := .ref 12) rfl rfl rfl rfl ?_
    refine ev_iload (pc' := 114) rfl rfl rfl ?_
    obtain ⟨hg9, h⟩ := am_g_some h
    refine ev_iaload (pc' := 115) rfl rfl rfl hg9 ?_
    rcases am_if h with ⟨hc10, h⟩ | ⟨hc10, h⟩
    · refine ev_ic_t (pc' := 141) rfl rfl (cb_ge_t hc10) ?_
      exact fx_Land_shorten_b141_e (hk4 := hk4) h
    · refine ev_ic_f (pc' := 118) rfl (by decide) rfl (cb_ge_f hc10) ?_
      refine ev_aload_n (pc' := 119) rfl rfl rfl ?_
      refine ev_getfield (pc' := 122) (w := .ref 12) rfl rfl rfl rfl ?_
      refine ev_iload (pc' := 124) rfl rfl rfl ?_
      refine ev_aload_n (pc' := 125) rfl rfl rfl ?_
      refine ev_getfield (pc' := 128) (w := .ref 12) rfl rfl rfl rfl ?_
      refine ev_iload (pc' := 130) rfl rfl rfl ?_
      obtain ⟨hg11, h⟩ := am_g_some h
      refine ev_iaload (pc' := 131) rfl rfl rfl hg11 ?_
      refine ev_aload_n (pc' := 132) rfl rfl rfl ?_
      refine ev_getfield (pc' := 135) (w := .ref 8) rfl rfl rfl rfl ?_
      refine ev_iload_n (pc' := 136) rfl rfl rfl ?_
      obtain ⟨hg12, h⟩ := am_g_some h
      refine ev_iaload (pc' := 137) rfl rfl rfl hg12 ?_
      refine ev_iadd (pc' := 138) rfl rfl ?_
      obtain ⟨hg13, h⟩ := am_g_some h
      refine ev_iastore (pc' := 139) rfl rfl rfl hg13 ?_
      refine ev_iconst (pc' := 140) (b := (1 : Int32)) rfl rfl rfl ?_
      refine ev_istore_n (pc' := 141) (L' := [.ref 1, .int x1, .int (1 : Int32), .int x3, .int (σ 6 x3.toNatClampNeg), .int (σ 7 x3.toNatClampNeg)]) rfl rfl rfl rfl ?_
      exact fx_Land_shorten_b141_e (hk4 := hk4) h
  · refine ev_ic_f (pc' := 68) rfl (by decide) rfl (cb_ge_f hc6) ?_
    refine ev_aload_n (pc' := 69) rfl rfl rfl ?_
    refine ev_getfield (pc' := 72) (w := .ref 12) rfl rfl rfl rfl ?_
    refine ev_iload (pc' := 74) rfl rfl rfl ?_
    refine ev_aload_n (pc' := 75) rfl rfl rfl ?_
    refine ev_getfield (pc' := 78) (w := .ref 12) rfl rfl rfl rfl ?_
    refine ev_iload (pc' := 80) rfl rfl rfl ?_
    obtain ⟨hg14, h⟩ := am_g_some h
    refine ev_iaload (pc' := 81) rfl rfl rfl hg14 ?_
    refine ev_aload_n (pc' := 82) rfl rfl rfl ?_
    refine ev_getfield (pc' := 85) (w := .ref 8) rfl rfl rfl rfl ?_
    refine ev_iload_n (pc' := 86) rfl rfl rfl ?_
    obtain ⟨hg15, h⟩ := am_g_some h
    refine ev_iaload (pc' := 87) rfl rfl rfl hg15 ?_
    refine ev_iadd (pc' := 88) rfl rfl ?_
    obtain ⟨hg16, h⟩ := am_g_some h
    refine ev_iastore (pc' := 89) rfl rfl rfl hg16 ?_
    refine ev_iconst (pc' := 90) (b := (1 : Int32)) rfl rfl rfl ?_
    refine ev_istore_n (pc' := 91) (L' := [.ref 1, .int x1, .int (1 : Int32), .int x3, .int (σ 6 x3.toNatClampNeg), .int (σ 7 x3.toNatClampNeg)]) rfl rfl rfl rfl ?_
    refine ev_goto (pc' := 141) rfl rfl ?_
    exact fx_Land_shorten_b141_e (hk4 := hk4) h
def fx_Land_shorten_b4 (N : Nat) : Nat → Int32 → Int32 → Int32 → am_S → Option (Int32 × am_S)
  | 0, _, _, _, _ => none
  | n + 1, x1, x2, x3, σ => (if (σ 1 12) ≤ x3 then am_g (am_bo x2) <| some (x2, σ) else (if x1 = 0 then fx_Land_shorten_b28 N (fun x1 x2 x3 σ => fx_Land_shorten_b4 N n x1 x2 x3 σ) x1 x2 x3 σ else am_g (am_in x3 30) <| (if (σ 9 x3.toNatClampNeg) = 0 then fx_Land_shorten_b141 N (fun x1 x2 x3 σ => fx_Land_shorten_b4 N n x1 x2 x3 σ) x1 x2 x3 σ else fx_Land_shorten_b28 N (fun x1 x2 x3 σ => fx_Land_shorten_b4 N n x1 x2 x3 σ) x1 x2 x3 σ)))
set_option maxRecDepth 100000 in
theorem fx_Land_shorten_b4_e {X : Nat} {xs : Nat → Int32} {d : Nat} {N : Nat} : ∀ {n : Nat} {x1 : Int32} {x2 : Int32} {x3 : Int32} {w4 : Value} {w5 : Value} {σ : am_S} {o : Int32 × am_S}, fx_Land_shorten_b4 N n x1 x2 x3 σ = some o → am_Ev am_sh (am_exx X xs) (d + 0) mm_22 4 [.ref 1, .int x1, .int x2, .int x3, w4, w5] [] σ (some (.int o.1)) o.2 := by
  intro n
  induction n with
  | zero => intro x1 x2 x3 w4 w5 σ o h; cases h
  | succ n ih =>
    intro x1 x2 x3 w4 w5 σ o h
    unfold fx_Land_shorten_b4 at h
    refine ev_iload_n (pc' := 5) rfl rfl rfl ?_
    refine ev_aload_n (pc' := 6) rfl rfl rfl ?_
    refine ev_getfield (pc' := 9) (w := .int (σ 1 12)) rfl rfl rfl rfl ?_
    rcases am_if h with ⟨hc1, h⟩ | ⟨hc1, h⟩
    · refine ev_ic_t (pc' := 147) rfl rfl (cb_ge_t hc1) ?_
      refine ev_iload_n (pc' := 148) rfl rfl rfl ?_
      obtain ⟨hg2, h⟩ := am_g_some h
      obtain rfl := Option.some.inj h
      exact ev_zreturn rfl rfl hg2
    · refine ev_ic_f (pc' := 12) rfl (by decide) rfl (cb_ge_f hc1) ?_
      refine ev_iload_n (pc' := 13) rfl rfl rfl ?_
      rcases am_if h with ⟨hc3, h⟩ | ⟨hc3, h⟩
      · refine ev_if_t (pc' := 28) rfl rfl (cb_eq_t hc3) ?_
        exact fx_Land_shorten_b28_e (hk4 := fun h => ih h) h
      · refine ev_if_f (pc' := 16) rfl (by decide) rfl (cb_eq_f hc3) ?_
        refine ev_aload_n (pc' := 17) rfl rfl rfl ?_
        refine ev_getfield (pc' := 20) (w := .ref 9) rfl rfl rfl rfl ?_
        refine ev_iload_n (pc' := 21) rfl rfl rfl ?_
        obtain ⟨hg4, h⟩ := am_g_some h
        refine ev_baload (pc' := 22) rfl rfl rfl hg4 ?_
        rcases am_if h with ⟨hc5, h⟩ | ⟨hc5, h⟩
        · refine ev_if_f (pc' := 25) rfl (by decide) rfl (cb_ne_f hc5) ?_
          refine ev_goto (pc' := 141) rfl rfl ?_
          exact fx_Land_shorten_b141_e (hk4 := fun h => ih h) h
        · refine ev_if_t (pc' := 28) rfl rfl (cb_ne_t hc5) ?_
          exact fx_Land_shorten_b28_e (hk4 := fun h => ih h) h
def fx_Land_shorten (N : Nat) (a1 : Int32) (σ : am_S) : Option (Int32 × am_S) := fx_Land_shorten_b4 N N a1 (0 : Int32) (0 : Int32) σ
set_option maxRecDepth 100000 in
theorem fx_Land_shorten_e {X : Nat} {xs : Nat → Int32} {d : Nat} {N : Nat} {a1 : Int32} {σ : am_S} {o : Int32 × am_S} (h : fx_Land_shorten N a1 σ = some o) : am_Ev am_sh (am_exx X xs) (d + 0) mm_22 0 [.ref 1, .int a1, .null, .null, .null, .null] [] σ (some (.int o.1)) o.2 := by
  unfold fx_Land_shorten at h
  refine ev_iconst (pc' := 1) (b := (0 : Int32)) rfl rfl rfl ?_
  refine ev_istore_n (pc' := 2) (L' := [.ref 1, .int a1, .int (0 : Int32), .null, .null, .null]) rfl rfl rfl rfl ?_
  refine ev_iconst (pc' := 3) (b := (0 : Int32)) rfl rfl rfl ?_
  refine ev_istore_n (pc' := 4) (L' := [.ref 1, .int a1, .int (0 : Int32), .int (0 : Int32), .null, .null]) rfl rfl rfl rfl ?_
  exact fx_Land_shorten_b4_e h
/-! PartedLand$Land.measureFrom (1, 'I', 'I'): S -/
def fx_Land_measureFrom_b18 (N : Nat) : Nat → Int32 → Int32 → am_S → Option am_S
  | 0, _, _, _ => none
  | n + 1, x2, x3, σ => (if (σ 1 11) ≤ x3 then some σ else (fx_Land_shorten N x2 σ).bind fun q2 => (if q2.1 = 0 then some q2.2 else fx_Land_measureFrom_b18 N n x2 (x3 + (1 : Int32)) q2.2))
set_option maxRecDepth 100000 in
theorem fx_Land_measureFrom_b18_e {X : Nat} {xs : Nat → Int32} {d : Nat} {N : Nat} : ∀ {n : Nat} {x2 : Int32} {x3 : Int32} {w1 : Value} {σ : am_S} {o : am_S}, fx_Land_measureFrom_b18 N n x2 x3 σ = some o → am_Ev am_sh (am_exx X xs) (d + 1) mm_21 18 [.ref 1, w1, .int x2, .int x3] [] σ (none) o := by
  intro n
  induction n with
  | zero => intro x2 x3 w1 σ o h; cases h
  | succ n ih =>
    intro x2 x3 w1 σ o h
    unfold fx_Land_measureFrom_b18 at h
    refine ev_iload_n (pc' := 19) rfl rfl rfl ?_
    refine ev_aload_n (pc' := 20) rfl rfl rfl ?_
    refine ev_getfield (pc' := 23) (w := .int (σ 1 11)) rfl rfl rfl rfl ?_
    rcases am_if h with ⟨hc1, h⟩ | ⟨hc1, h⟩
    · refine ev_ic_t (pc' := 43) rfl rfl (cb_ge_t hc1) ?_
      obtain rfl := Option.some.inj h
      exact ev_return rfl rfl
    · refine ev_ic_f (pc' := 26) rfl (by decide) rfl (cb_ge_f hc1) ?_
      refine ev_aload_n (pc' := 27) rfl rfl rfl ?_
      refine ev_iload_n (pc' := 28) rfl rfl rfl ?_
      refine am_bd h (fun q2 hq2 h => ?_)
      refine ev_call (mi := 22) (as := [.ref 1, .int x2]) (rest := []) rfl rfl (Nat.le_of_ble_eq_true rfl) (fx_Land_shorten_e (d := d) hq2) ?_
      show am_Ev _ _ _ _ 31 _ _ _ _ _
      rcases am_if h with ⟨hc3, h⟩ | ⟨hc3, h⟩
      · refine ev_if_f (pc' := 34) rfl (by decide) rfl (cb_ne_f hc3) ?_
        refine ev_goto (pc' := 43) rfl rfl ?_
        obtain rfl := Option.some.inj h
        exact ev_return rfl rfl
      · refine ev_if_t (pc' := 37) rfl rfl (cb_ne_t hc3) ?_
        refine ev_iinc (pc' := 40) (L' := [.ref 1, w1, .int x2, .int (x3 + (1 : Int32))]) (b := (1 : Int32)) rfl rfl rfl rfl rfl ?_
        refine ev_goto (pc' := 18) rfl rfl ?_
        exact ih h
def fx_Land_measureFrom (N : Nat) (a1 : Int32) (a2 : Int32) (σ : am_S) : Option am_S := (fx_Arr_fill_12 N (1000000 : Int32) σ).bind fun q1 => am_g (am_in a1 12) <| fx_Land_measureFrom_b18 N N a2 (1 : Int32) (am_up q1 12 a1.toNatClampNeg (0 : Int32))
set_option maxRecDepth 100000 in
theorem fx_Land_measureFrom_e {X : Nat} {xs : Nat → Int32} {d : Nat} {N : Nat} {a1 : Int32} {a2 : Int32} {σ : am_S} {o : am_S} (h : fx_Land_measureFrom N a1 a2 σ = some o) : am_Ev am_sh (am_exx X xs) (d + 1) mm_21 0 [.ref 1, .int a1, .int a2, .null] [] σ (none) o := by
  unfold fx_Land_measureFrom at h
  refine ev_aload_n (pc' := 1) rfl rfl rfl ?_
  refine ev_getfield (pc' := 4) (w := .ref 12) rfl rfl rfl rfl ?_
  refine ev_ldc (pc' := 6) (b := (1000000 : Int32)) rfl rfl rfl ?_
  refine am_bd h (fun q1 hq1 h => ?_)
  refine ev_call (mi := 218) (as := [.ref 12, .int (1000000 : Int32)]) (rest := []) rfl rfl (Nat.le_of_ble_eq_true rfl) (fx_Arr_fill_12_e (d := d) hq1) ?_
  show am_Ev _ _ _ _ 9 _ _ _ _ _
  refine ev_aload_n (pc' := 10) rfl rfl rfl ?_
  refine ev_getfield (pc' := 13) (w := .ref 12) rfl rfl rfl rfl ?_
  refine ev_iload_n (pc' := 14) rfl rfl rfl ?_
  refine ev_iconst (pc' := 15) (b := (0 : Int32)) rfl rfl rfl ?_
  obtain ⟨hg2, h⟩ := am_g_some h
  refine ev_iastore (pc' := 16) rfl rfl rfl hg2 ?_
  refine ev_iconst (pc' := 17) (b := (1 : Int32)) rfl rfl rfl ?_
  refine ev_istore_n (pc' := 18) (L' := [.ref 1, .int a1, .int a2, .int (1 : Int32)]) rfl rfl rfl rfl ?_
  exact fx_Land_measureFrom_b18_e h
/-! PartedLand$Land.daysToSide (1, 'I', 'I', 'I'): S -/
def fx_Land_daysToSide_b46 (N : Nat) (k13 : Int32 → Int32 → Int32 → am_S → Option (Int32 × am_S)) (x2 : Int32) (x4 : Int32) (x5 : Int32) (σ : am_S) : Option (Int32 × am_S) := k13 x2 x4 (x5 + (1 : Int32)) σ
set_option maxRecDepth 100000 in
theorem fx_Land_daysToSide_b46_e {X : Nat} {xs : Nat → Int32} {d : Nat} {N : Nat} {k13 : Int32 → Int32 → Int32 → am_S → Option (Int32 × am_S)} (hk13 : ∀ {x2 : Int32} {x4 : Int32} {x5 : Int32} {w1 : Value} {w3 : Value} {σ : am_S} {o : Int32 × am_S}, k13 x2 x4 x5 σ = some o → am_Ev am_sh (am_exx X xs) (d + 3) mm_23 13 [.ref 1, w1, .int x2, w3, .int x4, .int x5] [] σ (some (.int o.1)) o.2) {x2 : Int32} {x4 : Int32} {x5 : Int32} {w1 : Value} {w3 : Value} {σ : am_S} {o : Int32 × am_S} (h : fx_Land_daysToSide_b46 N k13 x2 x4 x5 σ = some o) : am_Ev am_sh (am_exx X xs) (d + 3) mm_23 46 [.ref 1, w1, .int x2, w3, .int x4, .int x5] [] σ (some (.int o.1)) o.2 := by
  unfold fx_Land_daysToSide_b46 at h
  refine ev_iinc (pc' := 49) (L' := [.ref 1, w1, .int x2, w3, .int x4, .int (x5 + (1 : Int32))]) (b := (1 : Int32)) rfl rfl rfl rfl rfl ?_
  refine ev_goto (pc' := 13) rfl rfl ?_
  exact hk13 h
def fx_Land_daysToSide_b13 (N : Nat) : Nat → Int32 → Int32 → Int32 → am_S → Option (Int32 × am_S)
  | 0, _, _, _, _ => none
  | n + 1, x2, x4, x5, σ => (if (σ 1 11) ≤ x5 then some (x4, σ) else (fx_Land_sideOf N x5 σ).bind fun q2 => (if q2 = x2 then am_g (am_in x5 12) <| fx_Land_daysToSide_b46 N (fun x2 x4 x5 σ => fx_Land_daysToSide_b13 N n x2 x4 x5 σ) x2 (if (σ 12 x5.toNatClampNeg) < x4 then (σ 12 x5.toNatClampNeg) else x4) x5 σ else fx_Land_daysToSide_b46 N (fun x2 x4 x5 σ => fx_Land_daysToSide_b13 N n x2 x4 x5 σ) x2 x4 x5 σ))
set_option maxRecDepth 100000 in
theorem fx_Land_daysToSide_b13_e {X : Nat} {xs : Nat → Int32} {d : Nat} {N : Nat} : ∀ {n : Nat} {x2 : Int32} {x4 : Int32} {x5 : Int32} {w1 : Value} {w3 : Value} {σ : am_S} {o : Int32 × am_S}, fx_Land_daysToSide_b13 N n x2 x4 x5 σ = some o → am_Ev am_sh (am_exx X xs) (d + 3) mm_23 13 [.ref 1, w1, .int x2, w3, .int x4, .int x5] [] σ (some (.int o.1)) o.2 := by
  intro n
  induction n with
  | zero => intro x2 x4 x5 w1 w3 σ o h; cases h
  | succ n ih =>
    intro x2 x4 x5 w1 w3 σ o h
    unfold fx_Land_daysToSide_b13 at h
    refine ev_iload (pc' := 15) rfl rfl rfl ?_
    refine ev_aload_n (pc' := 16) rfl rfl rfl ?_
    refine ev_getfield (pc' := 19) (w := .int (σ 1 11)) rfl rfl rfl rfl ?_
    rcases am_if h with ⟨hc1, h⟩ | ⟨hc1, h⟩
    · refine ev_ic_t (pc' := 52) rfl rfl (cb_ge_t hc1) ?_
      refine ev_iload (pc' := 54) rfl rfl rfl ?_
      obtain rfl := Option.some.inj h
      exact ev_ireturn rfl rfl
    · refine ev_ic_f (pc' := 22) rfl (by decide) rfl (cb_ge_f hc1) ?_
      refine ev_aload_n (pc' := 23) rfl rfl rfl ?_
      refine ev_iload (pc' := 25) rfl rfl rfl ?_
      refine am_bd h (fun q2 hq2 h => ?_)
      refine ev_call (mi := 16) (as := [.ref 1, .int x5]) (rest := []) rfl rfl (Nat.le_of_ble_eq_true rfl) (fx_Land_sideOf_e (d := d) hq2) ?_
      show am_Ev _ _ _ _ 28 _ _ _ _ _
      refine ev_iload_n (pc' := 29) rfl rfl rfl ?_
      rcases am_if h with ⟨hc3, h⟩ | ⟨hc3, h⟩
      · refine ev_ic_f (pc' := 32) rfl (by decide) rfl (cb_ne_f hc3) ?_
        refine ev_iload (pc' := 34) rfl rfl rfl ?_
        refine ev_aload_n (pc' := 35) rfl rfl rfl ?_
        refine ev_getfield (pc' := 38) (w := .ref 12) rfl rfl rfl rfl ?_
        refine ev_iload (pc' := 40) rfl rfl rfl ?_
        obtain ⟨hg4, h⟩ := am_g_some h
        refine ev_iaload (pc' := 41) rfl rfl rfl hg4 ?_
        refine ev_min (pc' := 44) rfl rfl rfl rfl ?_
        refine ev_istore (pc' := 46) (L' := [.ref 1, w1, .int x2, w3, .int (if (σ 12 x5.toNatClampNeg) < x4 then (σ 12 x5.toNatClampNeg) else x4), .int x5]) rfl rfl rfl rfl ?_
        exact fx_Land_daysToSide_b46_e (hk13 := fun h => ih h) h
      · refine ev_ic_t (pc' := 46) rfl rfl (cb_ne_t hc3) ?_
        exact fx_Land_daysToSide_b46_e (hk13 := fun h => ih h) h
def fx_Land_daysToSide (N : Nat) (a1 : Int32) (a2 : Int32) (a3 : Int32) (σ : am_S) : Option (Int32 × am_S) := (fx_Land_measureFrom N a1 a3 σ).bind fun q1 => fx_Land_daysToSide_b13 N N a2 (1000000 : Int32) (0 : Int32) q1
set_option maxRecDepth 100000 in
theorem fx_Land_daysToSide_e {X : Nat} {xs : Nat → Int32} {d : Nat} {N : Nat} {a1 : Int32} {a2 : Int32} {a3 : Int32} {σ : am_S} {o : Int32 × am_S} (h : fx_Land_daysToSide N a1 a2 a3 σ = some o) : am_Ev am_sh (am_exx X xs) (d + 3) mm_23 0 [.ref 1, .int a1, .int a2, .int a3, .null, .null] [] σ (some (.int o.1)) o.2 := by
  unfold fx_Land_daysToSide at h
  refine ev_aload_n (pc' := 1) rfl rfl rfl ?_
  refine ev_iload_n (pc' := 2) rfl rfl rfl ?_
  refine ev_iload_n (pc' := 3) rfl rfl rfl ?_
  refine am_bd h (fun q1 hq1 h => ?_)
  refine ev_call (mi := 21) (as := [.ref 1, .int a1, .int a3]) (rest := []) rfl rfl (Nat.le_of_ble_eq_true rfl) (fx_Land_measureFrom_e (d := d + 1) hq1) ?_
  show am_Ev _ _ _ _ 6 _ _ _ _ _
  refine ev_ldc (pc' := 8) (b := (1000000 : Int32)) rfl rfl rfl ?_
  refine ev_istore (pc' := 10) (L' := [.ref 1, .int a1, .int a2, .int a3, .int (1000000 : Int32), .null]) rfl rfl rfl rfl ?_
  refine ev_iconst (pc' := 11) (b := (0 : Int32)) rfl rfl rfl ?_
  refine ev_istore (pc' := 13) (L' := [.ref 1, .int a1, .int a2, .int a3, .int (1000000 : Int32), .int (0 : Int32)]) rfl rfl rfl rfl ?_
  exact fx_Land_daysToSide_b13_e h
/-! PartedLand$Week.carriedBy (47, 'I', 13, 1): S -/
def fx_Week_carriedBy (N : Nat) (a1 : Int32) (σ : am_S) : Option (Int32 × am_S) := am_g (am_in a1 16) <| (fx_Land_sideOf N (σ 15 a1.toNatClampNeg) σ).bind fun q2 => (if (fx_Week_rateOf q2 σ) < (fx_Week_rateOf ((1 : Int32) - q2) σ) then am_g (am_in a1 16) <| (fx_Land_daysToSide N (σ 15 a1.toNatClampNeg) ((1 : Int32) - q2) (0 : Int32) σ).bind fun q5 => (if q5.1 ≤ (q5.2 47 3) then am_g (am_in a1 16) <| some ((if (q5.2 47 2) < (q5.2 20 a1.toNatClampNeg) then (q5.2 47 2) else (q5.2 20 a1.toNatClampNeg)), q5.2) else some ((0 : Int32), q5.2)) else some ((0 : Int32), σ))
set_option maxRecDepth 100000 in
theorem fx_Week_carriedBy_e {X : Nat} {xs : Nat → Int32} {d : Nat} {N : Nat} {a1 : Int32} {σ : am_S} {o : Int32 × am_S} (h : fx_Week_carriedBy N a1 σ = some o) : am_Ev am_sh (am_exx X xs) (d + 4) mm_91 0 [.ref 47, .int a1, .ref 13, .ref 1, .null, .null] [] σ (some (.int o.1)) o.2 := by
  unfold fx_Week_carriedBy at h
  refine ev_aload_n (pc' := 1) rfl rfl rfl ?_
  refine ev_aload_n (pc' := 2) rfl rfl rfl ?_
  refine ev_getfield (pc' := 5) (w := .ref 15) rfl rfl rfl rfl ?_
  refine ev_iload_n (pc' := 6) rfl rfl rfl ?_
  obtain ⟨hg1, h⟩ := am_g_some h
  refine ev_iaload (pc' := 7) rfl rfl rfl hg1 ?_
  refine am_bd h (fun q2 hq2 h => ?_)
  refine ev_call (mi := 16) (as := [.ref 1, .int (σ 15 a1.toNatClampNeg)]) (rest := []) rfl rfl (Nat.le_of_ble_eq_true rfl) (fx_Land_sideOf_e (d := d + 1) hq2) ?_
  show am_Ev _ _ _ _ 10 _ _ _ _ _
  refine ev_istore (pc' := 12) (L' := [.ref 47, .int a1, .ref 13, .ref 1, .int q2, .null]) rfl rfl rfl rfl ?_
  refine ev_iconst (pc' := 13) (b := (1 : Int32)) rfl rfl rfl ?_
  refine ev_iload (pc' := 15) rfl rfl rfl ?_
  refine ev_isub (pc' := 16) rfl rfl ?_
  refine ev_istore (pc' := 18) (L' := [.ref 47, .int a1, .ref 13, .ref 1, .int q2, .int ((1 : Int32) - q2)]) rfl rfl rfl rfl ?_
  refine ev_aload_n (pc' := 19) rfl rfl rfl ?_
  refine ev_iload (pc' := 21) rfl rfl rfl ?_
  refine ev_call (mi := 87) (as := [.ref 47, .int q2]) (rest := []) rfl rfl (Nat.le_of_ble_eq_true rfl) (fx_Week_rateOf_e (d := d + 3) rfl) ?_
  show am_Ev _ _ _ _ 24 _ _ _ _ _
  refine ev_aload_n (pc' := 25) rfl rfl rfl ?_
  refine ev_iload (pc' := 27) rfl rfl rfl ?_
  refine ev_call (mi := 87) (as := [.ref 47, .int ((1 : Int32) - q2)]) (rest := [.int (fx_Week_rateOf q2 σ)]) rfl rfl (Nat.le_of_ble_eq_true rfl) (fx_Week_rateOf_e (d := d + 3) rfl) ?_
  show am_Ev _ _ _ _ 30 _ _ _ _ _
  rcases am_if h with ⟨hc3, h⟩ | ⟨hc3, h⟩
  · refine ev_ic_t (pc' := 35) rfl rfl (cb_lt_t hc3) ?_
    refine ev_aload_n (pc' := 36) rfl rfl rfl ?_
    refine ev_aload_n (pc' := 37) rfl rfl rfl ?_
    refine ev_getfield (pc' := 40) (w := .ref 15) rfl rfl rfl rfl ?_
    refine ev_iload_n (pc' := 41) rfl rfl rfl ?_
    obtain ⟨hg4, h⟩ := am_g_some h
    refine ev_iaload (pc' := 42) rfl rfl rfl hg4 ?_
    refine ev_iload (pc' := 44) rfl rfl rfl ?_
    refine ev_iconst (pc' := 45) (b := (0 : Int32)) rfl rfl rfl ?_
    refine am_bd h (fun q5 hq5 h => ?_)
    refine ev_call (mi := 23) (as := [.ref 1, .int (σ 15 a1.toNatClampNeg), .int ((1 : Int32) - q2), .int (0 : Int32)]) (rest := []) rfl rfl (Nat.le_of_ble_eq_true rfl) (fx_Land_daysToSide_e (d := d) hq5) ?_
    show am_Ev _ _ _ _ 48 _ _ _ _ _
    refine ev_aload_n (pc' := 49) rfl rfl rfl ?_
    refine ev_getfield (pc' := 52) (w := .int (q5.2 47 3)) rfl rfl rfl rfl ?_
    rcases am_if h with ⟨hc6, h⟩ | ⟨hc6, h⟩
    · refine ev_ic_t (pc' := 57) rfl rfl (cb_le_t hc6) ?_
      refine ev_aload_n (pc' := 58) rfl rfl rfl ?_
      refine ev_getfield (pc' := 61) (w := .ref 20) rfl rfl rfl rfl ?_
      refine ev_iload_n (pc' := 62) rfl rfl rfl ?_
      obtain ⟨hg7, h⟩ := am_g_some h
      refine ev_iaload (pc' := 63) rfl rfl rfl hg7 ?_
      refine ev_aload_n (pc' := 64) rfl rfl rfl ?_
      refine ev_getfield (pc' := 67) (w := .int (q5.2 47 2)) rfl rfl rfl rfl ?_
      refine ev_min (pc' := 70) rfl rfl rfl rfl ?_
      obtain rfl := Option.some.inj h
      exact ev_ireturn rfl rfl
    · refine ev_ic_f (pc' := 55) rfl (by decide) rfl (cb_le_f hc6) ?_
      refine ev_iconst (pc' := 56) (b := (0 : Int32)) rfl rfl rfl ?_
      obtain rfl := Option.some.inj h
      exact ev_ireturn rfl rfl
  · refine ev_ic_f (pc' := 33) rfl (by decide) rfl (cb_lt_f hc3) ?_
    refine ev_iconst (pc' := 34) (b := (0 : Int32)) rfl rfl rfl ?_
    obtain rfl := Option.some.inj h
    exact ev_ireturn rfl rfl
/-! PartedLand$Week.broughtBy (47, 'I', 'I', 13, 1): S -/
def fx_Week_broughtBy (N : Nat) (a1 : Int32) (a2 : Int32) (σ : am_S) : Option (Int32 × am_S) := am_g (am_in a1 16) <| (fx_Land_sideOf N (σ 15 a1.toNatClampNeg) σ).bind fun q2 => (if q2 = a2 then some ((0 : Int32), σ) else (fx_Week_carriedBy N a1 σ).bind fun q4 => some (q4.1, q4.2))
set_option maxRecDepth 100000 in
theorem fx_Week_broughtBy_e {X : Nat} {xs : Nat → Int32} {d : Nat} {N : Nat} {a1 : Int32} {a2 : Int32} {σ : am_S} {o : Int32 × am_S} (h : fx_Week_broughtBy N a1 a2 σ = some o) : am_Ev am_sh (am_exx X xs) (d + 5) mm_90 0 [.ref 47, .int a1, .int a2, .ref 13, .ref 1] [] σ (some (.int o.1)) o.2 := by
  unfold fx_Week_broughtBy at h
  refine ev_aload (pc' := 2) rfl rfl rfl ?_
  refine ev_aload_n (pc' := 3) rfl rfl rfl ?_
  refine ev_getfield (pc' := 6) (w := .ref 15) rfl rfl rfl rfl ?_
  refine ev_iload_n (pc' := 7) rfl rfl rfl ?_
  obtain ⟨hg1, h⟩ := am_g_some h
  refine ev_iaload (pc' := 8) rfl rfl rfl hg1 ?_
  refine am_bd h (fun q2 hq2 h => ?_)
  refine ev_call (mi := 16) (as := [.ref 1, .int (σ 15 a1.toNatClampNeg)]) (rest := []) rfl rfl (Nat.le_of_ble_eq_true rfl) (fx_Land_sideOf_e (d := d + 2) hq2) ?_
  show am_Ev _ _ _ _ 11 _ _ _ _ _
  refine ev_iload_n (pc' := 12) rfl rfl rfl ?_
  rcases am_if h with ⟨hc3, h⟩ | ⟨hc3, h⟩
  · refine ev_ic_f (pc' := 15) rfl (by decide) rfl (cb_ne_f hc3) ?_
    refine ev_iconst (pc' := 16) (b := (0 : Int32)) rfl rfl rfl ?_
    obtain rfl := Option.some.inj h
    exact ev_ireturn rfl rfl
  · refine ev_ic_t (pc' := 17) rfl rfl (cb_ne_t hc3) ?_
    refine ev_aload_n (pc' := 18) rfl rfl rfl ?_
    refine ev_iload_n (pc' := 19) rfl rfl rfl ?_
    refine ev_aload_n (pc' := 20) rfl rfl rfl ?_
    refine ev_aload (pc' := 22) rfl rfl rfl ?_
    refine am_bd h (fun q4 hq4 h => ?_)
    refine ev_call (mi := 91) (as := [.ref 47, .int a1, .ref 13, .ref 1]) (rest := []) rfl rfl (Nat.le_of_ble_eq_true rfl) (fx_Week_carriedBy_e (d := d) hq4) ?_
    show am_Ev _ _ _ _ 25 _ _ _ _ _
    obtain rfl := Option.some.inj h
    exact ev_ireturn rfl rfl
/-! PartedLand$Week.stampedOf (47, 'I', 'I'): P -/
def fx_Week_stampedOf (a1 : Int32) (a2 : Int32) (σ : am_S) : Option Int32 := some ((a1 * (fx_Week_rateOf a2 σ)) / (100 : Int32))
set_option maxRecDepth 100000 in
theorem fx_Week_stampedOf_e {X : Nat} {xs : Nat → Int32} {d : Nat} {a1 : Int32} {a2 : Int32} {σ : am_S} {o : Int32} (h : fx_Week_stampedOf a1 a2 σ = some o) : am_Ev am_sh (am_exx X xs) (d + 1) mm_88 0 [.ref 47, .int a1, .int a2] [] σ (some (.int o)) σ := by
  unfold fx_Week_stampedOf at h
  refine ev_iload_n (pc' := 1) rfl rfl rfl ?_
  refine ev_aload_n (pc' := 2) rfl rfl rfl ?_
  refine ev_iload_n (pc' := 3) rfl rfl rfl ?_
  refine ev_call (mi := 87) (as := [.ref 47, .int a2]) (rest := [.int a1]) rfl rfl (Nat.le_of_ble_eq_true rfl) (fx_Week_rateOf_e (d := d) rfl) ?_
  show am_Ev _ _ _ _ 6 _ _ _ _ _
  refine ev_imul (pc' := 7) rfl rfl ?_
  refine ev_bipush (pc' := 9) (b := (100 : Int32)) rfl rfl rfl ?_
  refine ev_idiv (pc' := 10) rfl rfl (by decide) ?_
  obtain rfl := Option.some.inj h
  exact ev_ireturn rfl rfl
/-! PartedLand$Week.coinOf (47, 'I', 'I', 13, 1): S -/
def fx_Week_coinOf (N : Nat) (a1 : Int32) (a2 : Int32) (σ : am_S) : Option (Int32 × am_S) := (fx_Week_carriedBy N a1 σ).bind fun q1 => am_g (am_in a1 16) <| (fx_Land_sideOf N (q1.2 15 a1.toNatClampNeg) q1.2).bind fun q3 => (if q3 = a2 then am_g (am_in a1 16) <| some (((q1.2 20 a1.toNatClampNeg) - q1.1), q1.2) else some (q1.1, q1.2))
set_option maxRecDepth 100000 in
theorem fx_Week_coinOf_e {X : Nat} {xs : Nat → Int32} {d : Nat} {N : Nat} {a1 : Int32} {a2 : Int32} {σ : am_S} {o : Int32 × am_S} (h : fx_Week_coinOf N a1 a2 σ = some o) : am_Ev am_sh (am_exx X xs) (d + 5) mm_89 0 [.ref 47, .int a1, .int a2, .ref 13, .ref 1, .null] [] σ (some (.int o.1)) o.2 := by
  unfold fx_Week_coinOf at h
  refine ev_aload_n (pc' := 1) rfl rfl rfl ?_
  refine ev_iload_n (pc' := 2) rfl rfl rfl ?_
  refine ev_aload_n (pc' := 3) rfl rfl rfl ?_
  refine ev_aload (pc' := 5) rfl rfl rfl ?_
  refine am_bd h (fun q1 hq1 h => ?_)
  refine ev_call (mi := 91) (as := [.ref 47, .int a1, .ref 13, .ref 1]) (rest := []) rfl rfl (Nat.le_of_ble_eq_true rfl) (fx_Week_carriedBy_e (d := d) hq1) ?_
  show am_Ev _ _ _ _ 8 _ _ _ _ _
  refine ev_istore (pc' := 10) (L' := [.ref 47, .int a1, .int a2, .ref 13, .ref 1, .int q1.1]) rfl rfl rfl rfl ?_
  refine ev_aload (pc' := 12) rfl rfl rfl ?_
  refine ev_aload_n (pc' := 13) rfl rfl rfl ?_
  refine ev_getfield (pc' := 16) (w := .ref 15) rfl rfl rfl rfl ?_
  refine ev_iload_n (pc' := 17) rfl rfl rfl ?_
  obtain ⟨hg2, h⟩ := am_g_some h
  refine ev_iaload (pc' := 18) rfl rfl rfl hg2 ?_
  refine am_bd h (fun q3 hq3 h => ?_)
  refine ev_call (mi := 16) (as := [.ref 1, .int (q1.2 15 a1.toNatClampNeg)]) (rest := []) rfl rfl (Nat.le_of_ble_eq_true rfl) (fx_Land_sideOf_e (d := d + 2) hq3) ?_
  show am_Ev _ _ _ _ 21 _ _ _ _ _
  refine ev_iload_n (pc' := 22) rfl rfl rfl ?_
  rcases am_if h with ⟨hc4, h⟩ | ⟨hc4, h⟩
  · refine ev_ic_f (pc' := 25) rfl (by decide) rfl (cb_ne_f hc4) ?_
    refine ev_aload_n (pc' := 26) rfl rfl rfl ?_
    refine ev_getfield (pc' := 29) (w := .ref 20) rfl rfl rfl rfl ?_
    refine ev_iload_n (pc' := 30) rfl rfl rfl ?_
    obtain ⟨hg5, h⟩ := am_g_some h
    refine ev_iaload (pc' := 31) rfl rfl rfl hg5 ?_
    refine ev_iload (pc' := 33) rfl rfl rfl ?_
    refine ev_isub (pc' := 34) rfl rfl ?_
    obtain rfl := Option.some.inj h
    exact ev_ireturn rfl rfl
  · refine ev_ic_t (pc' := 35) rfl rfl (cb_ne_t hc4) ?_
    refine ev_iload (pc' := 37) rfl rfl rfl ?_
    obtain rfl := Option.some.inj h
    exact ev_ireturn rfl rfl
/-! PartedLand.stamp (0, 'I', 'I'): S -/
def fx_stamp_b16 (N : Nat) (σ : am_S) : Option (Int32 × am_S) := (fx_finding (-1000000001 : Int32) σ).bind fun q1 => some (q1.1, q1.2)
set_option maxRecDepth 100000 in
theorem fx_stamp_b16_e {X : Nat} {xs : Nat → Int32} {d : Nat} {N : Nat} {w1 : Value} {w2 : Value} {w3 : Value} {w4 : Value} {w5 : Value} {σ : am_S} {o : Int32 × am_S} (h : fx_stamp_b16 N σ = some o) : am_Ev am_sh (am_exx X xs) (d + 6) mm_110 16 [.ref 0, w1, w2, w3, w4, w5] [] σ (some (.int o.1)) o.2 := by
  unfold fx_stamp_b16 at h
  refine ev_aload_n (pc' := 17) rfl rfl rfl ?_
  refine ev_ldc (pc' := 19) (b := (-1000000001 : Int32)) rfl rfl rfl ?_
  refine am_bd h (fun q1 hq1 h => ?_)
  refine ev_call (mi := 129) (as := [.ref 0, .int (-1000000001 : Int32)]) (rest := []) rfl rfl (Nat.le_of_ble_eq_true rfl) (fx_finding_e (d := d + 5) hq1) ?_
  show am_Ev _ _ _ _ 22 _ _ _ _ _
  obtain rfl := Option.some.inj h
  exact ev_ireturn rfl rfl
def fx_stamp_b106 (N : Nat) (k28 : Int32 → Int32 → Int32 → Int32 → am_S → Option (Int32 × am_S)) (x1 : Int32) (x2 : Int32) (x4 : Int32) (s0 : Int32) (s1 : Int32) (σ : am_S) : Option (Int32 × am_S) := k28 x1 x2 (s1 + s0) (x4 + (1 : Int32)) σ
set_option maxRecDepth 100000 in
theorem fx_stamp_b106_e {X : Nat} {xs : Nat → Int32} {d : Nat} {N : Nat} {k28 : Int32 → Int32 → Int32 → Int32 → am_S → Option (Int32 × am_S)} (hk28 : ∀ {x1 : Int32} {x2 : Int32} {x3 : Int32} {x4 : Int32} {w5 : Value} {σ : am_S} {o : Int32 × am_S}, k28 x1 x2 x3 x4 σ = some o → am_Ev am_sh (am_exx X xs) (d + 6) mm_110 28 [.ref 0, .int x1, .int x2, .int x3, .int x4, w5] [] σ (some (.int o.1)) o.2) {x1 : Int32} {x2 : Int32} {x4 : Int32} {s0 : Int32} {s1 : Int32} {w3 : Value} {w5 : Value} {σ : am_S} {o : Int32 × am_S} (h : fx_stamp_b106 N k28 x1 x2 x4 s0 s1 σ = some o) : am_Ev am_sh (am_exx X xs) (d + 6) mm_110 106 [.ref 0, .int x1, .int x2, w3, .int x4, w5] [.int s0, .int s1] σ (some (.int o.1)) o.2 := by
  unfold fx_stamp_b106 at h
  refine ev_iadd (pc' := 107) rfl rfl ?_
  refine ev_istore_n (pc' := 108) (L' := [.ref 0, .int x1, .int x2, .int (s1 + s0), .int x4, w5]) rfl rfl rfl rfl ?_
  refine ev_iinc (pc' := 111) (L' := [.ref 0, .int x1, .int x2, .int (s1 + s0), .int (x4 + (1 : Int32)), w5]) (b := (1 : Int32)) rfl rfl rfl rfl rfl ?_
  refine ev_goto (pc' := 28) rfl rfl ?_
  exact hk28 h
def fx_stamp_b84 (N : Nat) (k28 : Int32 → Int32 → Int32 → Int32 → am_S → Option (Int32 × am_S)) (x1 : Int32) (x2 : Int32) (x3 : Int32) (x4 : Int32) (s0 : Int32) (σ : am_S) : Option (Int32 × am_S) := (if x2 = 0 then (fx_Week_stampedOf s0 x1 σ).bind fun q2 => fx_stamp_b106 N k28 x1 x2 x4 q2 x3 σ else fx_stamp_b106 N k28 x1 x2 x4 s0 x3 σ)
set_option maxRecDepth 100000 in
theorem fx_stamp_b84_e {X : Nat} {xs : Nat → Int32} {d : Nat} {N : Nat} {k28 : Int32 → Int32 → Int32 → Int32 → am_S → Option (Int32 × am_S)} (hk28 : ∀ {x1 : Int32} {x2 : Int32} {x3 : Int32} {x4 : Int32} {w5 : Value} {σ : am_S} {o : Int32 × am_S}, k28 x1 x2 x3 x4 σ = some o → am_Ev am_sh (am_exx X xs) (d + 6) mm_110 28 [.ref 0, .int x1, .int x2, .int x3, .int x4, w5] [] σ (some (.int o.1)) o.2) {x1 : Int32} {x2 : Int32} {x3 : Int32} {x4 : Int32} {s0 : Int32} {w5 : Value} {σ : am_S} {o : Int32 × am_S} (h : fx_stamp_b84 N k28 x1 x2 x3 x4 s0 σ = some o) : am_Ev am_sh (am_exx X xs) (d + 6) mm_110 84 [.ref 0, .int x1, .int x2, .int x3, .int x4, w5] [.int s0] σ (some (.int o.1)) o.2 := by
  unfold fx_stamp_b84 at h
  refine ev_istore (pc' := 86) (L' := [.ref 0, .int x1, .int x2, .int x3, .int x4, .int s0]) rfl rfl rfl rfl ?_
  refine ev_iload_n (pc' := 87) rfl rfl rfl ?_
  refine ev_iload_n (pc' := 88) rfl rfl rfl ?_
  rcases am_if h with ⟨hc1, h⟩ | ⟨hc1, h⟩
  · refine ev_if_f (pc' := 91) rfl (by decide) rfl (cb_ne_f hc1) ?_
    refine ev_aload_n (pc' := 92) rfl rfl rfl ?_
    refine ev_getfield (pc' := 95) (w := .ref 47) rfl rfl rfl rfl ?_
    refine ev_iload (pc' := 97) rfl rfl rfl ?_
    refine ev_iload_n (pc' := 98) rfl rfl rfl ?_
    refine am_bd h (fun q2 hq2 h => ?_)
    refine ev_call (mi := 88) (as := [.ref 47, .int s0, .int x1]) (rest := [.int x3]) rfl rfl (Nat.le_of_ble_eq_true rfl) (fx_Week_stampedOf_e (d := d + 4) hq2) ?_
    show am_Ev _ _ _ _ 101 _ _ _ _ _
    refine ev_goto (pc' := 106) rfl rfl ?_
    exact fx_stamp_b106_e (hk28 := hk28) h
  · refine ev_if_t (pc' := 104) rfl rfl (cb_ne_t hc1) ?_
    refine ev_iload (pc' := 106) rfl rfl rfl ?_
    exact fx_stamp_b106_e (hk28 := hk28) h
def fx_stamp_b28 (N : Nat) : Nat → Int32 → Int32 → Int32 → Int32 → am_S → Option (Int32 × am_S)
  | 0, _, _, _, _, _ => none
  | n + 1, x1, x2, x3, x4, σ => (if (σ 13 7) ≤ x4 then some (x3, σ) else (if x2 = (2 : Int32) then (fx_Week_broughtBy N x4 x1 σ).bind fun q3 => fx_stamp_b84 N (fun x1 x2 x3 x4 σ => fx_stamp_b28 N n x1 x2 x3 x4 σ) x1 x2 x3 x4 q3.1 q3.2 else (fx_Week_coinOf N x4 x1 σ).bind fun q4 => fx_stamp_b84 N (fun x1 x2 x3 x4 σ => fx_stamp_b28 N n x1 x2 x3 x4 σ) x1 x2 x3 x4 q4.1 q4.2))
set_option maxRecDepth 100000 in
theorem fx_stamp_b28_e {X : Nat} {xs : Nat → Int32} {d : Nat} {N : Nat} : ∀ {n : Nat} {x1 : Int32} {x2 : Int32} {x3 : Int32} {x4 : Int32} {w5 : Value} {σ : am_S} {o : Int32 × am_S}, fx_stamp_b28 N n x1 x2 x3 x4 σ = some o → am_Ev am_sh (am_exx X xs) (d + 6) mm_110 28 [.ref 0, .int x1, .int x2, .int x3, .int x4, w5] [] σ (some (.int o.1)) o.2 := by
  intro n
  induction n with
  | zero => intro x1 x2 x3 x4 w5 σ o h; cases h
  | succ n ih =>
    intro x1 x2 x3 x4 w5 σ o h
    unfold fx_stamp_b28 at h
    refine ev_iload (pc' := 30) rfl rfl rfl ?_
    refine ev_aload_n (pc' := 31) rfl rfl rfl ?_
    refine ev_getfield (pc' := 34) (w := .ref 13) rfl rfl rfl rfl ?_
    refine ev_getfield (pc' := 37) (w := .int (σ 13 7)) rfl rfl rfl rfl ?_
    rcases am_if h with ⟨hc1, h⟩ | ⟨hc1, h⟩
    · refine ev_ic_t (pc' := 114) rfl rfl (cb_ge_t hc1) ?_
      refine ev_iload_n (pc' := 115) rfl rfl rfl ?_
      obtain rfl := Option.some.inj h
      exact ev_ireturn rfl rfl
    · refine ev_ic_f (pc' := 40) rfl (by decide) rfl (cb_ge_f hc1) ?_
      refine ev_iload_n (pc' := 41) rfl rfl rfl ?_
      refine ev_iconst (pc' := 42) (b := (2 : Int32)) rfl rfl rfl ?_
      rcases am_if h with ⟨hc2, h⟩ | ⟨hc2, h⟩
      · refine ev_ic_f (pc' := 45) rfl (by decide) rfl (cb_ne_f hc2) ?_
        refine ev_aload_n (pc' := 46) rfl rfl rfl ?_
        refine ev_getfield (pc' := 49) (w := .ref 47) rfl rfl rfl rfl ?_
        refine ev_iload (pc' := 51) rfl rfl rfl ?_
        refine ev_iload_n (pc' := 52) rfl rfl rfl ?_
        refine ev_aload_n (pc' := 53) rfl rfl rfl ?_
        refine ev_getfield (pc' := 56) (w := .ref 13) rfl rfl rfl rfl ?_
        refine ev_aload_n (pc' := 57) rfl rfl rfl ?_
        refine ev_getfield (pc' := 60) (w := .ref 1) rfl rfl rfl rfl ?_
        refine am_bd h (fun q3 hq3 h => ?_)
        refine ev_call (mi := 90) (as := [.ref 47, .int x4, .int x1, .ref 13, .ref 1]) (rest := []) rfl rfl (Nat.le_of_ble_eq_true rfl) (fx_Week_broughtBy_e (d := d) hq3) ?_
        show am_Ev _ _ _ _ 63 _ _ _ _ _
        refine ev_goto (pc' := 84) rfl rfl ?_
        exact fx_stamp_b84_e (hk28 := fun h => ih h) h
      · refine ev_ic_t (pc' := 66) rfl rfl (cb_ne_t hc2) ?_
        refine ev_aload_n (pc' := 67) rfl rfl rfl ?_
        refine ev_getfield (pc' := 70) (w := .ref 47) rfl rfl rfl rfl ?_
        refine ev_iload (pc' := 72) rfl rfl rfl ?_
        refine ev_iload_n (pc' := 73) rfl rfl rfl ?_
        refine ev_aload_n (pc' := 74) rfl rfl rfl ?_
        refine ev_getfield (pc' := 77) (w := .ref 13) rfl rfl rfl rfl ?_
        refine ev_aload_n (pc' := 78) rfl rfl rfl ?_
        refine ev_getfield (pc' := 81) (w := .ref 1) rfl rfl rfl rfl ?_
        refine am_bd h (fun q4 hq4 h => ?_)
        refine ev_call (mi := 89) (as := [.ref 47, .int x4, .int x1, .ref 13, .ref 1]) (rest := []) rfl rfl (Nat.le_of_ble_eq_true rfl) (fx_Week_coinOf_e (d := d) hq4) ?_
        show am_Ev _ _ _ _ 84 _ _ _ _ _
        exact fx_stamp_b84_e (hk28 := fun h => ih h) h
def fx_stamp (N : Nat) (a1 : Int32) (a2 : Int32) (σ : am_S) : Option (Int32 × am_S) := (if (fx_isZeroOrOne a1 σ) = 0 then fx_stamp_b16 N σ else (if a2 < 0 then fx_stamp_b16 N σ else (if a2 ≤ (2 : Int32) then fx_stamp_b28 N N a1 a2 (0 : Int32) (0 : Int32) σ else fx_stamp_b16 N σ)))
set_option maxRecDepth 100000 in
theorem fx_stamp_e {X : Nat} {xs : Nat → Int32} {d : Nat} {N : Nat} {a1 : Int32} {a2 : Int32} {σ : am_S} {o : Int32 × am_S} (h : fx_stamp N a1 a2 σ = some o) : am_Ev am_sh (am_exx X xs) (d + 6) mm_110 0 [.ref 0, .int a1, .int a2, .null, .null, .null] [] σ (some (.int o.1)) o.2 := by
  unfold fx_stamp at h
  refine ev_iload_n (pc' := 1) rfl rfl rfl ?_
  refine ev_call (mi := 130) (as := [.int a1]) (rest := []) rfl rfl (Nat.le_of_ble_eq_true rfl) (fx_isZeroOrOne_e (d := d + 5) rfl) ?_
  show am_Ev _ _ _ _ 4 _ _ _ _ _
  rcases am_if h with ⟨hc1, h⟩ | ⟨hc1, h⟩
  · refine ev_if_t (pc' := 16) rfl rfl (cb_eq_t hc1) ?_
    exact fx_stamp_b16_e h
  · refine ev_if_f (pc' := 7) rfl (by decide) rfl (cb_eq_f hc1) ?_
    refine ev_iload_n (pc' := 8) rfl rfl rfl ?_
    rcases am_if h with ⟨hc2, h⟩ | ⟨hc2, h⟩
    · refine ev_if_t (pc' := 16) rfl rfl (cb_lt_t hc2) ?_
      exact fx_stamp_b16_e h
    · refine ev_if_f (pc' := 11) rfl (by decide) rfl (cb_lt_f hc2) ?_
      refine ev_iload_n (pc' := 12) rfl rfl rfl ?_
      refine ev_iconst (pc' := 13) (b := (2 : Int32)) rfl rfl rfl ?_
      rcases am_if h with ⟨hc3, h⟩ | ⟨hc3, h⟩
      · refine ev_ic_t (pc' := 23) rfl rfl (cb_le_t hc3) ?_
        refine ev_iconst (pc' := 24) (b := (0 : Int32)) rfl rfl rfl ?_
        refine ev_istore_n (pc' := 25) (L' := [.ref 0, .int a1, .int a2, .int (0 : Int32), .null, .null]) rfl rfl rfl rfl ?_
        refine ev_iconst (pc' := 26) (b := (0 : Int32)) rfl rfl rfl ?_
        refine ev_istore (pc' := 28) (L' := [.ref 0, .int a1, .int a2, .int (0 : Int32), .int (0 : Int32), .null]) rfl rfl rfl rfl ?_
        exact fx_stamp_b28_e h
      · refine ev_ic_f (pc' := 16) rfl (by decide) rfl (cb_le_f hc3) ?_
        exact fx_stamp_b16_e h
