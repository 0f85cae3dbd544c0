/-! PartedLand$Wagons.addStop (48, 'I', 'I', 'I'): S -/
def fx_Wagons_addStop (a1 : Int32) (a2 : Int32) (a3 : Int32) (σ : am_S) : Option am_S := am_g (am_in a1 10) <| (if (12 : Int32) ≤ (σ 50 a1.toNatClampNeg) then some σ else (am_ald am_sh 51 a1).bind fun q3 => am_g (am_can am_sh 0 q3 (σ 50 a1.toNatClampNeg)) <| (am_ald am_sh 62 a1).bind fun q5 => am_g (am_can am_sh 0 q5 (σ 50 a1.toNatClampNeg)) <| am_g (am_in a1 10) <| some (am_up (am_up (am_up σ q3 (σ 50 a1.toNatClampNeg).toNatClampNeg a2) q5 (σ 50 a1.toNatClampNeg).toNatClampNeg a3) 50 a1.toNatClampNeg ((σ 50 a1.toNatClampNeg) + (1 : Int32))))
set_option maxRecDepth 100000 in
theorem fx_Wagons_addStop_e {X : Nat} {xs : Nat → Int32} {d : Nat} {a1 : Int32} {a2 : Int32} {a3 : Int32} {σ : am_S} {o : am_S} (h : fx_Wagons_addStop a1 a2 a3 σ = some o) : am_Ev am_sh (am_exx X xs) (d + 0) mm_83 0 [.ref 48, .int a1, .int a2, .int a3, .null] [] σ (none) o := by
  unfold fx_Wagons_addStop at h
  refine ev_aload_n (pc' := 1) rfl rfl rfl ?_
  refine ev_getfield (pc' := 4) (w := .ref 50) rfl rfl rfl rfl ?_
  refine ev_iload_n (pc' := 5) rfl rfl rfl ?_
  obtain ⟨hg1, h⟩ := am_g_some h
  refine ev_iaload (pc' := 6) rfl rfl rfl hg1 ?_
  refine ev_istore (pc' := 8) (L' := [.ref 48, .int a1, .int a2, .int a3, .int (σ 50 a1.toNatClampNeg)]) rfl rfl rfl rfl ?_
  refine ev_iload (pc' := 10) rfl rfl rfl ?_
  refine ev_bipush (pc' := 12) (b := (12 : Int32)) rfl rfl rfl ?_
  rcases am_if h with ⟨hc2, h⟩ | ⟨hc2, h⟩
  · refine ev_ic_t (pc' := 45) rfl rfl (cb_ge_t hc2) ?_
    obtain rfl := Option.some.inj h
    exact ev_return rfl rfl
  · refine ev_ic_f (pc' := 15) rfl (by decide) rfl (cb_ge_f hc2) ?_
    refine ev_aload_n (pc' := 16) rfl rfl rfl ?_
    refine ev_getfield (pc' := 19) (w := .ref 51) rfl rfl rfl rfl ?_
    refine ev_iload_n (pc' := 20) rfl rfl rfl ?_
    refine am_bd h (fun q3 hq3 h => ?_)
    refine ev_aaload (pc' := 21) rfl rfl hq3 ?_
    refine ev_iload (pc' := 23) rfl rfl rfl ?_
    refine ev_iload_n (pc' := 24) rfl rfl rfl ?_
    obtain ⟨hg4, h⟩ := am_g_some h
    refine ev_iastore_d (pc' := 25) rfl rfl hg4 ?_
    refine ev_aload_n (pc' := 26) rfl rfl rfl ?_
    refine ev_getfield (pc' := 29) (w := .ref 62) rfl rfl rfl rfl ?_
    refine ev_iload_n (pc' := 30) rfl rfl rfl ?_
    refine am_bd h (fun q5 hq5 h => ?_)
    refine ev_aaload (pc' := 31) rfl rfl hq5 ?_
    refine ev_iload (pc' := 33) rfl rfl rfl ?_
    refine ev_iload_n (pc' := 34) rfl rfl rfl ?_
    obtain ⟨hg6, h⟩ := am_g_some h
    refine ev_iastore_d (pc' := 35) rfl rfl hg6 ?_
    refine ev_aload_n (pc' := 36) rfl rfl rfl ?_
    refine ev_getfield (pc' := 39) (w := .ref 50) rfl rfl rfl rfl ?_
    refine ev_iload_n (pc' := 40) rfl rfl rfl ?_
    refine ev_iload (pc' := 42) rfl rfl rfl ?_
    refine ev_iconst (pc' := 43) (b := (1 : Int32)) rfl rfl rfl ?_
    refine ev_iadd (pc' := 44) rfl rfl ?_
    obtain ⟨hg7, h⟩ := am_g_some h
    refine ev_iastore (pc' := 45) rfl rfl rfl hg7 ?_
    obtain rfl := Option.some.inj h
    exact ev_return rfl rfl
/-! PartedLand$Wagons.addWagon (48, 'I', 'I', 'I'): S -/
def fx_Wagons_addWagon (a1 : Int32) (a2 : Int32) (a3 : Int32) (σ : am_S) : Option (Int32 × am_S) := am_g (am_in (σ 48 4) 10) <| (fx_Wagons_addStop (σ 48 4) a2 a3 (am_up σ 49 (σ 48 4).toNatClampNeg a1)).bind fun q2 => some ((((q2 48 4) + (1 : Int32)) - (1 : Int32)), (am_up q2 48 4 ((q2 48 4) + (1 : Int32))))
set_option maxRecDepth 100000 in
theorem fx_Wagons_addWagon_e {X : Nat} {xs : Nat → Int32} {d : Nat} {a1 : Int32} {a2 : Int32} {a3 : Int32} {σ : am_S} {o : Int32 × am_S} (h : fx_Wagons_addWagon a1 a2 a3 σ = some o) : am_Ev am_sh (am_exx X xs) (d + 1) mm_82 0 [.ref 48, .int a1, .int a2, .int a3] [] σ (some (.int o.1)) o.2 := by
  unfold fx_Wagons_addWagon at h
  refine ev_aload_n (pc' := 1) rfl rfl rfl ?_
  refine ev_getfield (pc' := 4) (w := .ref 49) rfl rfl rfl rfl ?_
  refine ev_aload_n (pc' := 5) rfl rfl rfl ?_
  refine ev_getfield (pc' := 8) (w := .int (σ 48 4)) rfl rfl rfl rfl ?_
  refine ev_iload_n (pc' := 9) rfl rfl rfl ?_
  obtain ⟨hg1, h⟩ := am_g_some h
  refine ev_iastore (pc' := 10) rfl rfl rfl hg1 ?_
  refine ev_aload_n (pc' := 11) rfl rfl rfl ?_
  refine ev_aload_n (pc' := 12) rfl rfl rfl ?_
  refine ev_getfield (pc' := 15) (w := .int (σ 48 4)) rfl rfl rfl rfl ?_
  refine ev_iload_n (pc' := 16) rfl rfl rfl ?_
  refine ev_iload_n (pc' := 17) rfl rfl rfl ?_
  refine am_bd h (fun q2 hq2 h => ?_)
  refine ev_call (mi := 83) (as := [.ref 48, .int (σ 48 4), .int a2, .int a3]) (rest := []) rfl rfl (Nat.le_of_ble_eq_true rfl) (fx_Wagons_addStop_e (d := d) hq2) ?_
  show am_Ev _ _ _ _ 20 _ _ _ _ _
  refine ev_aload_n (pc' := 21) rfl rfl rfl ?_
  refine ev_dup (pc' := 22) rfl rfl ?_
  refine ev_getfield (pc' := 25) (w := .int (q2 48 4)) rfl rfl rfl rfl ?_
  refine ev_iconst (pc' := 26) (b := (1 : Int32)) rfl rfl rfl ?_
  refine ev_iadd (pc' := 27) rfl rfl ?_
  refine ev_putfield (pc' := 30) (ci := 8) (f := 4) (z := 0) rfl rfl rfl rfl rfl ?_
  refine ev_aload_n (pc' := 31) rfl rfl rfl ?_
  refine ev_getfield (pc' := 34) (w := .int ((q2 48 4) + (1 : Int32))) rfl rfl rfl rfl ?_
  refine ev_iconst (pc' := 35) (b := (1 : Int32)) rfl rfl rfl ?_
  refine ev_isub (pc' := 36) rfl rfl ?_
  obtain rfl := Option.some.inj h
  exact ev_ireturn rfl rfl
/-! PartedLand.wagon (0, 'I', 'I'): S -/
def fx_wagon_b18 (σ : am_S) : Option (Int32 × am_S) := (fx_finding (-1000000001 : Int32) σ).bind fun q1 => some (q1.1, q1.2)
set_option maxRecDepth 100000 in
theorem fx_wagon_b18_e {X : Nat} {xs : Nat → Int32} {d : Nat} {w1 : Value} {w2 : Value} {σ : am_S} {o : Int32 × am_S} (h : fx_wagon_b18 σ = some o) : am_Ev am_sh (am_exx X xs) (d + 2) mm_111 18 [.ref 0, w1, w2] [] σ (some (.int o.1)) o.2 := by
  unfold fx_wagon_b18 at h
  refine ev_aload_n (pc' := 19) rfl rfl rfl ?_
  refine ev_ldc (pc' := 21) (b := (-1000000001 : Int32)) rfl rfl rfl ?_
  refine am_bd h (fun q1 hq1 h => ?_)
  refine ev_call (mi := 129) (as := [.ref 0, .int (-1000000001 : Int32)]) (rest := []) rfl rfl (Nat.le_of_ble_eq_true rfl) (fx_finding_e (d := d + 1) hq1) ?_
  show am_Ev _ _ _ _ 24 _ _ _ _ _
  obtain rfl := Option.some.inj h
  exact ev_ireturn rfl rfl
def fx_wagon (a1 : Int32) (a2 : Int32) (σ : am_S) : Option (Int32 × am_S) := (if (fx_isZeroOrOne a1 σ) = 0 then fx_wagon_b18 σ else (if (fx_Land_hasParish a2 σ) = 0 then fx_wagon_b18 σ else (if (σ 48 4) < (10 : Int32) then (fx_Wagons_addWagon a1 a2 (σ 0 12) σ).bind fun q4 => some (q4.1, q4.2) else (fx_finding (-1000000004 : Int32) σ).bind fun q5 => some (q5.1, q5.2))))
set_option maxRecDepth 100000 in
theorem fx_wagon_e {X : Nat} {xs : Nat → Int32} {d : Nat} {a1 : Int32} {a2 : Int32} {σ : am_S} {o : Int32 × am_S} (h : fx_wagon a1 a2 σ = some o) : am_Ev am_sh (am_exx X xs) (d + 2) mm_111 0 [.ref 0, .int a1, .int a2] [] σ (some (.int o.1)) o.2 := by
  unfold fx_wagon at h
  refine ev_iload_n (pc' := 1) rfl rfl rfl ?_
  refine ev_call (mi := 130) (as := [.int a1]) (rest := []) rfl rfl (Nat.le_of_ble_eq_true rfl) (fx_isZeroOrOne_e (d := d + 1) rfl) ?_
  show am_Ev _ _ _ _ 4 _ _ _ _ _
  rcases am_if h with ⟨hc1, h⟩ | ⟨hc1, h⟩
  · refine ev_if_t (pc' := 18) rfl rfl (cb_eq_t hc1) ?_
    exact fx_wagon_b18_e h
  · refine ev_if_f (pc' := 7) rfl (by decide) rfl (cb_eq_f hc1) ?_
    refine ev_aload_n (pc' := 8) rfl rfl rfl ?_
    refine ev_getfield (pc' := 11) (w := .ref 1) rfl rfl rfl rfl ?_
    refine ev_iload_n (pc' := 12) rfl rfl rfl ?_
    refine ev_call (mi := 27) (as := [.ref 1, .int a2]) (rest := []) rfl rfl (Nat.le_of_ble_eq_true rfl) (fx_Land_hasParish_e (d := d + 1) rfl) ?_
    show am_Ev _ _ _ _ 15 _ _ _ _ _
    rcases am_if h with ⟨hc2, h⟩ | ⟨hc2, h⟩
    · refine ev_if_f (pc' := 18) rfl (by decide) rfl (cb_ne_f hc2) ?_
      exact fx_wagon_b18_e h
    · refine ev_if_t (pc' := 25) rfl rfl (cb_ne_t hc2) ?_
      refine ev_aload_n (pc' := 26) rfl rfl rfl ?_
      refine ev_getfield (pc' := 29) (w := .ref 48) rfl rfl rfl rfl ?_
      refine ev_getfield (pc' := 32) (w := .int (σ 48 4)) rfl rfl rfl rfl ?_
      refine ev_bipush (pc' := 34) (b := (10 : Int32)) rfl rfl rfl ?_
      rcases am_if h with ⟨hc3, h⟩ | ⟨hc3, h⟩
      · refine ev_ic_t (pc' := 44) rfl rfl (cb_lt_t hc3) ?_
        refine ev_aload_n (pc' := 45) rfl rfl rfl ?_
        refine ev_getfield (pc' := 48) (w := .ref 48) rfl rfl rfl rfl ?_
        refine ev_iload_n (pc' := 49) rfl rfl rfl ?_
        refine ev_iload_n (pc' := 50) rfl rfl rfl ?_
        refine ev_aload_n (pc' := 51) rfl rfl rfl ?_
        refine ev_getfield (pc' := 54) (w := .int (σ 0 12)) rfl rfl rfl rfl ?_
        refine am_bd h (fun q4 hq4 h => ?_)
        refine ev_call (mi := 82) (as := [.ref 48, .int a1, .int a2, .int (σ 0 12)]) (rest := []) rfl rfl (Nat.le_of_ble_eq_true rfl) (fx_Wagons_addWagon_e (d := d) hq4) ?_
        show am_Ev _ _ _ _ 57 _ _ _ _ _
        obtain rfl := Option.some.inj h
        exact ev_ireturn rfl rfl
      · refine ev_ic_f (pc' := 37) rfl (by decide) rfl (cb_lt_f hc3) ?_
        refine ev_aload_n (pc' := 38) rfl rfl rfl ?_
        refine ev_ldc (pc' := 40) (b := (-1000000004 : Int32)) rfl rfl rfl ?_
        refine am_bd h (fun q5 hq5 h => ?_)
        refine ev_call (mi := 129) (as := [.ref 0, .int (-1000000004 : Int32)]) (rest := []) rfl rfl (Nat.le_of_ble_eq_true rfl) (fx_finding_e (d := d + 1) hq5) ?_
        show am_Ev _ _ _ _ 43 _ _ _ _ _
        obtain rfl := Option.some.inj h
        exact ev_ireturn rfl rfl
/-! PartedLand$Land.isOnMap ('I',): T -/
def fx_Land_isOnMap (a0 : Int32) (σ : am_S) : Int32 := (if a0 < 0 then (0 : Int32) else (if (99 : Int32) < a0 then (0 : Int32) else (1 : Int32)))
set_option maxRecDepth 100000 in
theorem fx_Land_isOnMap_e {X : Nat} {xs : Nat → Int32} {d : Nat} {a0 : Int32} {σ : am_S} {o : Int32} (h : fx_Land_isOnMap a0 σ = o) : am_Ev am_sh (am_exx X xs) (d + 0) mm_26 0 [.int a0] [] σ (some (.int o)) σ := by
  unfold fx_Land_isOnMap at h
  refine ev_iload_n (pc' := 1) rfl rfl rfl ?_
  rcases am_if h with ⟨hc1, h⟩ | ⟨hc1, h⟩
  · refine ev_if_t (pc' := 14) rfl rfl (cb_lt_t hc1) ?_
    refine ev_iconst (pc' := 15) (b := (0 : Int32)) rfl rfl rfl ?_
    subst h
    exact ev_zreturn rfl rfl rfl
  · refine ev_if_f (pc' := 4) rfl (by decide) rfl (cb_lt_f hc1) ?_
    refine ev_iload_n (pc' := 5) rfl rfl rfl ?_
    refine ev_bipush (pc' := 7) (b := (99 : Int32)) rfl rfl rfl ?_
    rcases am_if h with ⟨hc2, h⟩ | ⟨hc2, h⟩
    · refine ev_ic_t (pc' := 14) rfl rfl (cb_gt_t hc2) ?_
      refine ev_iconst (pc' := 15) (b := (0 : Int32)) rfl rfl rfl ?_
      subst h
      exact ev_zreturn rfl rfl rfl
    · refine ev_ic_f (pc' := 10) rfl (by decide) rfl (cb_gt_f hc2) ?_
      refine ev_iconst (pc' := 11) (b := (1 : Int32)) rfl rfl rfl ?_
      refine ev_goto (pc' := 15) rfl rfl ?_
      subst h
      exact ev_zreturn rfl rfl rfl
/-! PartedLand$Land.addParish (1, 'I', 'I'): S -/
def fx_Land_addParish (a1 : Int32) (a2 : Int32) (σ : am_S) : Option (Int32 × am_S) := am_g (am_in (σ 1 11) 12) <| am_g (am_in (σ 1 11) 12) <| some ((((σ 1 11) + (1 : Int32)) - (1 : Int32)), (am_up (am_up (am_up σ 2 (σ 1 11).toNatClampNeg a1) 3 (σ 1 11).toNatClampNeg a2) 1 11 ((σ 1 11) + (1 : Int32))))
set_option maxRecDepth 100000 in
theorem fx_Land_addParish_e {X : Nat} {xs : Nat → Int32} {d : Nat} {a1 : Int32} {a2 : Int32} {σ : am_S} {o : Int32 × am_S} (h : fx_Land_addParish a1 a2 σ = some o) : am_Ev am_sh (am_exx X xs) (d + 0) mm_28 0 [.ref 1, .int a1, .int a2] [] σ (some (.int o.1)) o.2 := by
  unfold fx_Land_addParish at h
  refine ev_aload_n (pc' := 1) rfl rfl rfl ?_
  refine ev_getfield (pc' := 4) (w := .ref 2) rfl rfl rfl rfl ?_
  refine ev_aload_n (pc' := 5) rfl rfl rfl ?_
  refine ev_getfield (pc' := 8) (w := .int (σ 1 11)) rfl rfl rfl rfl ?_
  refine ev_iload_n (pc' := 9) rfl rfl rfl ?_
  obtain ⟨hg1, h⟩ := am_g_some h
  refine ev_iastore (pc' := 10) rfl rfl rfl hg1 ?_
  refine ev_aload_n (pc' := 11) rfl rfl rfl ?_
  refine ev_getfield (pc' := 14) (w := .ref 3) rfl rfl rfl rfl ?_
  refine ev_aload_n (pc' := 15) rfl rfl rfl ?_
  refine ev_getfield (pc' := 18) (w := .int (σ 1 11)) rfl rfl rfl rfl ?_
  refine ev_iload_n (pc' := 19) rfl rfl rfl ?_
  obtain ⟨hg2, h⟩ := am_g_some h
  refine ev_iastore (pc' := 20) rfl rfl rfl hg2 ?_
  refine ev_aload_n (pc' := 21) rfl rfl rfl ?_
  refine ev_dup (pc' := 22) rfl rfl ?_
  refine ev_getfield (pc' := 25) (w := .int (σ 1 11)) rfl rfl rfl rfl ?_
  refine ev_iconst (pc' := 26) (b := (1 : Int32)) rfl rfl rfl ?_
  refine ev_iadd (pc' := 27) rfl rfl ?_
  refine ev_putfield (pc' := 30) (ci := 3) (f := 11) (z := 0) rfl rfl rfl rfl rfl ?_
  refine ev_aload_n (pc' := 31) rfl rfl rfl ?_
  refine ev_getfield (pc' := 34) (w := .int ((σ 1 11) + (1 : Int32))) rfl rfl rfl rfl ?_
  refine ev_iconst (pc' := 35) (b := (1 : Int32)) rfl rfl rfl ?_
  refine ev_isub (pc' := 36) rfl rfl ?_
  obtain rfl := Option.some.inj h
  exact ev_ireturn rfl rfl
/-! PartedLand.parish (0, 'I', 'I'): S -/
def fx_parish_b14 (σ : am_S) : Option (Int32 × am_S) := (fx_finding (-1000000001 : Int32) σ).bind fun q1 => some (q1.1, q1.2)
set_option maxRecDepth 100000 in
theorem fx_parish_b14_e {X : Nat} {xs : Nat → Int32} {d : Nat} {w1 : Value} {w2 : Value} {σ : am_S} {o : Int32 × am_S} (h : fx_parish_b14 σ = some o) : am_Ev am_sh (am_exx X xs) (d + 1) mm_112 14 [.ref 0, w1, w2] [] σ (some (.int o.1)) o.2 := by
  unfold fx_parish_b14 at h
  refine ev_aload_n (pc' := 15) rfl rfl rfl ?_
  refine ev_ldc (pc' := 17) (b := (-1000000001 : Int32)) rfl rfl rfl ?_
  refine am_bd h (fun q1 hq1 h => ?_)
  refine ev_call (mi := 129) (as := [.ref 0, .int (-1000000001 : Int32)]) (rest := []) rfl rfl (Nat.le_of_ble_eq_true rfl) (fx_finding_e (d := d) hq1) ?_
  show am_Ev _ _ _ _ 20 _ _ _ _ _
  obtain rfl := Option.some.inj h
  exact ev_ireturn rfl rfl
def fx_parish (a1 : Int32) (a2 : Int32) (σ : am_S) : Option (Int32 × am_S) := (if (fx_Land_isOnMap a1 σ) = 0 then fx_parish_b14 σ else (if (fx_Land_isOnMap a2 σ) = 0 then fx_parish_b14 σ else (if (σ 1 11) < (12 : Int32) then (fx_Land_addParish a1 a2 σ).bind fun q4 => some (q4.1, q4.2) else (fx_finding (-1000000004 : Int32) σ).bind fun q5 => some (q5.1, q5.2))))
set_option maxRecDepth 100000 in
theorem fx_parish_e {X : Nat} {xs : Nat → Int32} {d : Nat} {a1 : Int32} {a2 : Int32} {σ : am_S} {o : Int32 × am_S} (h : fx_parish a1 a2 σ = some o) : am_Ev am_sh (am_exx X xs) (d + 1) mm_112 0 [.ref 0, .int a1, .int a2] [] σ (some (.int o.1)) o.2 := by
  unfold fx_parish at h
  refine ev_iload_n (pc' := 1) rfl rfl rfl ?_
  refine ev_call (mi := 26) (as := [.int a1]) (rest := []) rfl rfl (Nat.le_of_ble_eq_true rfl) (fx_Land_isOnMap_e (d := d) rfl) ?_
  show am_Ev _ _ _ _ 4 _ _ _ _ _
  rcases am_if h with ⟨hc1, h⟩ | ⟨hc1, h⟩
  · refine ev_if_t (pc' := 14) rfl rfl (cb_eq_t hc1) ?_
    exact fx_parish_b14_e h
  · refine ev_if_f (pc' := 7) rfl (by decide) rfl (cb_eq_f hc1) ?_
    refine ev_iload_n (pc' := 8) rfl rfl rfl ?_
    refine ev_call (mi := 26) (as := [.int a2]) (rest := []) rfl rfl (Nat.le_of_ble_eq_true rfl) (fx_Land_isOnMap_e (d := d) rfl) ?_
    show am_Ev _ _ _ _ 11 _ _ _ _ _
    rcases am_if h with ⟨hc2, h⟩ | ⟨hc2, h⟩
    · refine ev_if_f (pc' := 14) rfl (by decide) rfl (cb_ne_f hc2) ?_
      exact fx_parish_b14_e h
    · refine ev_if_t (pc' := 21) rfl rfl (cb_ne_t hc2) ?_
      refine ev_aload_n (pc' := 22) rfl rfl rfl ?_
      refine ev_getfield (pc' := 25) (w := .ref 1) rfl rfl rfl rfl ?_
      refine ev_getfield (pc' := 28) (w := .int (σ 1 11)) rfl rfl rfl rfl ?_
      refine ev_bipush (pc' := 30) (b := (12 : Int32)) rfl rfl rfl ?_
      rcases am_if h with ⟨hc3, h⟩ | ⟨hc3, h⟩
      · refine ev_ic_t (pc' := 40) rfl rfl (cb_lt_t hc3) ?_
        refine ev_aload_n (pc' := 41) rfl rfl rfl ?_
        refine ev_getfield (pc' := 44) (w := .ref 1) rfl rfl rfl rfl ?_
        refine ev_iload_n (pc' := 45) rfl rfl rfl ?_
        refine ev_iload_n (pc' := 46) rfl rfl rfl ?_
        refine am_bd h (fun q4 hq4 h => ?_)
        refine ev_call (mi := 28) (as := [.ref 1, .int a1, .int a2]) (rest := []) rfl rfl (Nat.le_of_ble_eq_true rfl) (fx_Land_addParish_e (d := d) hq4) ?_
        show am_Ev _ _ _ _ 49 _ _ _ _ _
        obtain rfl := Option.some.inj h
        exact ev_ireturn rfl rfl
      · refine ev_ic_f (pc' := 33) rfl (by decide) rfl (cb_lt_f hc3) ?_
        refine ev_aload_n (pc' := 34) rfl rfl rfl ?_
        refine ev_ldc (pc' := 36) (b := (-1000000004 : Int32)) rfl rfl rfl ?_
        refine am_bd h (fun q5 hq5 h => ?_)
        refine ev_call (mi := 129) (as := [.ref 0, .int (-1000000004 : Int32)]) (rest := []) rfl rfl (Nat.le_of_ble_eq_true rfl) (fx_finding_e (d := d) hq5) ?_
        show am_Ev _ _ _ _ 39 _ _ _ _ _
        obtain rfl := Option.some.inj h
        exact ev_ireturn rfl rfl
/-! PartedLand$Wagons.hasWagon (48, 'I'): T -/
def fx_Wagons_hasWagon (a1 : Int32) (σ : am_S) : Int32 := (if a1 < 0 then (0 : Int32) else (if (σ 48 4) ≤ a1 then (0 : Int32) else (1 : Int32)))
set_option maxRecDepth 100000 in
theorem fx_Wagons_hasWagon_e {X : Nat} {xs : Nat → Int32} {d : Nat} {a1 : Int32} {σ : am_S} {o : Int32} (h : fx_Wagons_hasWagon a1 σ = o) : am_Ev am_sh (am_exx X xs) (d + 0) mm_81 0 [.ref 48, .int a1] [] σ (some (.int o)) σ := by
  unfold fx_Wagons_hasWagon at h
  refine ev_iload_n (pc' := 1) rfl rfl rfl ?_
  rcases am_if h with ⟨hc1, h⟩ | ⟨hc1, h⟩
  · refine ev_if_t (pc' := 16) rfl rfl (cb_lt_t hc1) ?_
    refine ev_iconst (pc' := 17) (b := (0 : Int32)) rfl rfl rfl ?_
    subst h
    exact ev_zreturn rfl rfl rfl
  · refine ev_if_f (pc' := 4) rfl (by decide) rfl (cb_lt_f hc1) ?_
    refine ev_iload_n (pc' := 5) rfl rfl rfl ?_
    refine ev_aload_n (pc' := 6) rfl rfl rfl ?_
    refine ev_getfield (pc' := 9) (w := .int (σ 48 4)) rfl rfl rfl rfl ?_
    rcases am_if h with ⟨hc2, h⟩ | ⟨hc2, h⟩
    · refine ev_ic_t (pc' := 16) rfl rfl (cb_ge_t hc2) ?_
      refine ev_iconst (pc' := 17) (b := (0 : Int32)) rfl rfl rfl ?_
      subst h
      exact ev_zreturn rfl rfl rfl
    · refine ev_ic_f (pc' := 12) rfl (by decide) rfl (cb_ge_f hc2) ?_
      refine ev_iconst (pc' := 13) (b := (1 : Int32)) rfl rfl rfl ?_
      refine ev_goto (pc' := 17) rfl rfl ?_
      subst h
      exact ev_zreturn rfl rfl rfl
/-! PartedLand$Wagons.placeOn (48, 'I', 'I'): P -/
def fx_Wagons_placeOn_b46 (N : Nat) (X : Nat) (xs : Nat → Int32) (k12 : Int32 → Int32 → Int32 → Int32 → am_S → Option Int32) (x1 : Int32) (x2 : Int32) (x3 : Int32) (x4 : Int32) (σ : am_S) : Option Int32 := k12 x1 x2 x3 (x4 + (1 : Int32)) σ
set_option maxRecDepth 100000 in
theorem fx_Wagons_placeOn_b46_e {X : Nat} {xs : Nat → Int32} {d : Nat} {N : Nat} {k12 : Int32 → Int32 → Int32 → Int32 → am_S → Option Int32} (hk12 : ∀ {x1 : Int32} {x2 : Int32} {x3 : Int32} {x4 : Int32} {σ : am_S} {o : Int32}, k12 x1 x2 x3 x4 σ = some o → am_Ev am_sh (am_exx X xs) (d + 0) mm_84 12 [.ref 48, .int x1, .int x2, .int x3, .int x4] [] σ (some (.int o)) σ) {x1 : Int32} {x2 : Int32} {x3 : Int32} {x4 : Int32} {σ : am_S} {o : Int32} (h : fx_Wagons_placeOn_b46 N X xs k12 x1 x2 x3 x4 σ = some o) : am_Ev am_sh (am_exx X xs) (d + 0) mm_84 46 [.ref 48, .int x1, .int x2, .int x3, .int x4] [] σ (some (.int o)) σ := by
  unfold fx_Wagons_placeOn_b46 at h
  refine ev_iinc (pc' := 49) (L' := [.ref 48, .int x1, .int x2, .int x3, .int (x4 + (1 : Int32))]) (b := (1 : Int32)) rfl rfl rfl rfl rfl ?_
  refine ev_goto (pc' := 12) rfl rfl ?_
  exact hk12 h
def fx_Wagons_placeOn_b12 (N : Nat) (X : Nat) (xs : Nat → Int32) : Nat → Int32 → Int32 → Int32 → Int32 → am_S → Option Int32
  | 0, _, _, _, _, _ => none
  | n + 1, x1, x2, x3, x4, σ => am_g (am_in x1 10) <| (if (σ 50 x1.toNatClampNeg) ≤ x4 then some x3 else (am_ald am_sh 62 x1).bind fun q3 => (am_ild am_sh (am_exx X xs) σ q3 x4).bind fun q4 => (if x2 < q4 then fx_Wagons_placeOn_b46 N X xs (fun x1 x2 x3 x4 σ => fx_Wagons_placeOn_b12 N X xs n x1 x2 x3 x4 σ) x1 x2 x3 x4 σ else (am_ald am_sh 51 x1).bind fun q6 => (am_ild am_sh (am_exx X xs) σ q6 x4).bind fun q7 => fx_Wagons_placeOn_b46 N X xs (fun x1 x2 x3 x4 σ => fx_Wagons_placeOn_b12 N X xs n x1 x2 x3 x4 σ) x1 x2 q7 x4 σ))
set_option maxRecDepth 100000 in
theorem fx_Wagons_placeOn_b12_e {X : Nat} {xs : Nat → Int32} {d : Nat} {N : Nat} : ∀ {n : Nat} {x1 : Int32} {x2 : Int32} {x3 : Int32} {x4 : Int32} {σ : am_S} {o : Int32}, fx_Wagons_placeOn_b12 N X xs n x1 x2 x3 x4 σ = some o → am_Ev am_sh (am_exx X xs) (d + 0) mm_84 12 [.ref 48, .int x1, .int x2, .int x3, .int x4] [] σ (some (.int o)) σ := by
  intro n
  induction n with
  | zero => intro x1 x2 x3 x4 σ o h; cases h
  | succ n ih =>
    intro x1 x2 x3 x4 σ o h
    unfold fx_Wagons_placeOn_b12 at h
    refine ev_iload (pc' := 14) rfl rfl rfl ?_
    refine ev_aload_n (pc' := 15) rfl rfl rfl ?_
    refine ev_getfield (pc' := 18) (w := .ref 50) rfl rfl rfl rfl ?_
    refine ev_iload_n (pc' := 19) rfl rfl rfl ?_
    obtain ⟨hg1, h⟩ := am_g_some h
    refine ev_iaload (pc' := 20) rfl rfl rfl hg1 ?_
    rcases am_if h with ⟨hc2, h⟩ | ⟨hc2, h⟩
    · refine ev_ic_t (pc' := 52) rfl rfl (cb_ge_t hc2) ?_
      refine ev_iload_n (pc' := 53) rfl rfl rfl ?_
      obtain rfl := Option.some.inj h
      exact ev_ireturn rfl rfl
    · refine ev_ic_f (pc' := 23) rfl (by decide) rfl (cb_ge_f hc2) ?_
      refine ev_aload_n (pc' := 24) rfl rfl rfl ?_
      refine ev_getfield (pc' := 27) (w := .ref 62) rfl rfl rfl rfl ?_
      refine ev_iload_n (pc' := 28) rfl rfl rfl ?_
      refine am_bd h (fun q3 hq3 h => ?_)
      refine ev_aaload (pc' := 29) rfl rfl hq3 ?_
      refine ev_iload (pc' := 31) rfl rfl rfl ?_
      refine am_bd h (fun q4 hq4 h => ?_)
      refine ev_iaload_d (pc' := 32) rfl rfl hq4 ?_
      refine ev_iload_n (pc' := 33) rfl rfl rfl ?_
      rcases am_if h with ⟨hc5, h⟩ | ⟨hc5, h⟩
      · refine ev_ic_t (pc' := 46) rfl rfl (cb_gt_t hc5) ?_
        exact fx_Wagons_placeOn_b46_e (hk12 := fun h => ih h) h
      · refine ev_ic_f (pc' := 36) rfl (by decide) rfl (cb_gt_f hc5) ?_
        refine ev_aload_n (pc' := 37) rfl rfl rfl ?_
        refine ev_getfield (pc' := 40) (w := .ref 51) rfl rfl rfl rfl ?_
        refine ev_iload_n (pc' := 41) rfl rfl rfl ?_
        refine am_bd h (fun q6 hq6 h => ?_)
        refine ev_aaload (pc' := 42) rfl rfl hq6 ?_
        refine ev_iload (pc' := 44) rfl rfl rfl ?_
        refine am_bd h (fun q7 hq7 h => ?_)
        refine ev_iaload_d (pc' := 45) rfl rfl hq7 ?_
        refine ev_istore_n (pc' := 46) (L' := [.ref 48, .int x1, .int x2, .int q7, .int x4]) rfl rfl rfl rfl ?_
        exact fx_Wagons_placeOn_b46_e (hk12 := fun h => ih h) h
def fx_Wagons_placeOn (N : Nat) (X : Nat) (xs : Nat → Int32) (a1 : Int32) (a2 : Int32) (σ : am_S) : Option Int32 := (am_ald am_sh 51 a1).bind fun q1 => (am_ild am_sh (am_exx X xs) σ q1 (0 : Int32)).bind fun q2 => fx_Wagons_placeOn_b12 N X xs N a1 a2 q2 (1 : Int32) σ
set_option maxRecDepth 100000 in
theorem fx_Wagons_placeOn_e {X : Nat} {xs : Nat → Int32} {d : Nat} {N : Nat} {a1 : Int32} {a2 : Int32} {σ : am_S} {o : Int32} (h : fx_Wagons_placeOn N X xs a1 a2 σ = some o) : am_Ev am_sh (am_exx X xs) (d + 0) mm_84 0 [.ref 48, .int a1, .int a2, .null, .null] [] σ (some (.int o)) σ := by
  unfold fx_Wagons_placeOn at h
  refine ev_aload_n (pc' := 1) rfl rfl rfl ?_
  refine ev_getfield (pc' := 4) (w := .ref 51) rfl rfl rfl rfl ?_
  refine ev_iload_n (pc' := 5) rfl rfl rfl ?_
  refine am_bd h (fun q1 hq1 h => ?_)
  refine ev_aaload (pc' := 6) rfl rfl hq1 ?_
  refine ev_iconst (pc' := 7) (b := (0 : Int32)) rfl rfl rfl ?_
  refine am_bd h (fun q2 hq2 h => ?_)
  refine ev_iaload_d (pc' := 8) rfl rfl hq2 ?_
  refine ev_istore_n (pc' := 9) (L' := [.ref 48, .int a1, .int a2, .int q2, .null]) rfl rfl rfl rfl ?_
  refine ev_iconst (pc' := 10) (b := (1 : Int32)) rfl rfl rfl ?_
  refine ev_istore (pc' := 12) (L' := [.ref 48, .int a1, .int a2, .int q2, .int (1 : Int32)]) rfl rfl rfl rfl ?_
  exact fx_Wagons_placeOn_b12_e h
/-! PartedLand$Land.otherEndOf (1, 'I', 'I'): P -/
def fx_Land_otherEndOf (a1 : Int32) (a2 : Int32) (σ : am_S) : Option Int32 := am_g (am_in a1 30) <| (if (σ 6 a1.toNatClampNeg) = a2 then am_g (am_in a1 30) <| some (σ 7 a1.toNatClampNeg) else am_g (am_in a1 30) <| (if (σ 7 a1.toNatClampNeg) = a2 then am_g (am_in a1 30) <| some (σ 6 a1.toNatClampNeg) else some (-1 : Int32)))
set_option maxRecDepth 100000 in
theorem fx_Land_otherEndOf_e {X : Nat} {xs : Nat → Int32} {d : Nat} {a1 : Int32} {a2 : Int32} {σ : am_S} {o : Int32} (h : fx_Land_otherEndOf a1 a2 σ = some o) : am_Ev am_sh (am_exx X xs) (d + 0) mm_25 0 [.ref 1, .int a1, .int a2] [] σ (some (.int o)) σ := by
  unfold fx_Land_otherEndOf at h
  refine ev_aload_n (pc' := 1) rfl rfl rfl ?_
  refine ev_getfield (pc' := 4) (w := .ref 6) rfl rfl rfl rfl ?_
  refine ev_iload_n (pc' := 5) rfl rfl rfl ?_
  obtain ⟨hg1, h⟩ := am_g_some h
  refine ev_iaload (pc' := 6) rfl rfl rfl hg1 ?_
  refine ev_iload_n (pc' := 7) rfl rfl rfl ?_
  rcases am_if h with ⟨hc2, h⟩ | ⟨hc2, h⟩
  · refine ev_ic_f (pc' := 10) rfl (by decide) rfl (cb_ne_f hc2) ?_
    refine ev_aload_n (pc' := 11) rfl rfl rfl ?_
    refine ev_getfield (pc' := 14) (w := .ref 7) rfl rfl rfl rfl ?_
    refine ev_iload_n (pc' := 15) rfl rfl rfl ?_
    obtain ⟨hg3, h⟩ := am_g_some h
    refine ev_iaload (pc' := 16) rfl rfl rfl hg3 ?_
    obtain rfl := Option.some.inj h
    exact ev_ireturn rfl rfl
  · refine ev_ic_t (pc' := 17) rfl rfl (cb_ne_t hc2) ?_
    refine ev_aload_n (pc' := 18) rfl rfl rfl ?_
    refine ev_getfield (pc' := 21) (w := .ref 7) rfl rfl rfl rfl ?_
    refine ev_iload_n (pc' := 22) rfl rfl rfl ?_
    obtain ⟨hg4, h⟩ := am_g_some h
    refine ev_iaload (pc' := 23) rfl rfl rfl hg4 ?_
    refine ev_iload_n (pc' := 24) rfl rfl rfl ?_
    rcases am_if h with ⟨hc5, h⟩ | ⟨hc5, h⟩
    · refine ev_ic_f (pc' := 27) rfl (by decide) rfl (cb_ne_f hc5) ?_
      refine ev_aload_n (pc' := 28) rfl rfl rfl ?_
      refine ev_getfield (pc' := 31) (w := .ref 6) rfl rfl rfl rfl ?_
      refine ev_iload_n (pc' := 32) rfl rfl rfl ?_
      obtain ⟨hg6, h⟩ := am_g_some h
      refine ev_iaload (pc' := 33) rfl rfl rfl hg6 ?_
      refine ev_goto (pc' := 37) rfl rfl ?_
      obtain rfl := Option.some.inj h
      exact ev_ireturn rfl rfl
    · refine ev_ic_t (pc' := 36) rfl rfl (cb_ne_t hc5) ?_
      refine ev_iconst (pc' := 37) (b := (-1 : Int32)) rfl rfl rfl ?_
      obtain rfl := Option.some.inj h
      exact ev_ireturn rfl rfl
/-! PartedLand$Land.nextStop (1, 'I'): P -/
def fx_Land_nextStop_b73 (N : Nat) (k4 : Int32 → Int32 → Int32 → am_S → Option Int32) (x1 : Int32) (x2 : Int32) (x3 : Int32) (σ : am_S) : Option Int32 := k4 x1 x2 (x3 + (1 : Int32)) σ
set_option maxRecDepth 100000 in
theorem fx_Land_nextStop_b73_e {X : Nat} {xs : Nat → Int32} {d : Nat} {N : Nat} {k4 : Int32 → Int32 → Int32 → am_S → Option Int32} (hk4 : ∀ {x1 : Int32} {x2 : Int32} {x3 : Int32} {w4 : Value} {σ : am_S} {o : Int32}, k4 x1 x2 x3 σ = some o → am_Ev am_sh (am_exx X xs) (d + 1) mm_24 4 [.ref 1, .int x1, .int x2, .int x3, w4] [] σ (some (.int o)) σ) {x1 : Int32} {x2 : Int32} {x3 : Int32} {w4 : Value} {σ : am_S} {o : Int32} (h : fx_Land_nextStop_b73 N k4 x1 x2 x3 σ = some o) : am_Ev am_sh (am_exx X xs) (d + 1) mm_24 73 [.ref 1, .int x1, .int x2, .int x3, w4] [] σ (some (.int o)) σ := by
  unfold fx_Land_nextStop_b73 at h
  refine ev_iinc (pc' := 76) (L' := [.ref 1, .int x1, .int x2, .int (x3 + (1 : Int32)), w4]) (b := (1 : Int32)) rfl rfl rfl rfl rfl ?_
  refine ev_goto (pc' := 4) rfl rfl ?_
  exact hk4 h
def fx_Land_nextStop_b70 (N : Nat) (k4 : Int32 → Int32 → Int32 → am_S → Option Int32) (x1 : Int32) (x3 : Int32) (x4 : Int32) (σ : am_S) : Option Int32 := fx_Land_nextStop_b73 N k4 x1 x4 x3 σ
set_option maxRecDepth 100000 in
theorem fx_Land_nextStop_b70_e {X : Nat} {xs : Nat → Int32} {d : Nat} {N : Nat} {k4 : Int32 → Int32 → Int32 → am_S → Option Int32} (hk4 : ∀ {x1 : Int32} {x2 : Int32} {x3 : Int32} {w4 : Value} {σ : am_S} {o : Int32}, k4 x1 x2 x3 σ = some o → am_Ev am_sh (am_exx X xs) (d + 1) mm_24 4 [.ref 1, .int x1, .int x2, .int x3, w4] [] σ (some (.int o)) σ) {x1 : Int32} {x3 : Int32} {x4 : Int32} {w2 : Value} {σ : am_S} {o : Int32} (h : fx_Land_nextStop_b70 N k4 x1 x3 x4 σ = some o) : am_Ev am_sh (am_exx X xs) (d + 1) mm_24 70 [.ref 1, .int x1, w2, .int x3, .int x4] [] σ (some (.int o)) σ := by
  unfold fx_Land_nextStop_b70 at h
  refine ev_iload (pc' := 72) rfl rfl rfl ?_
  refine ev_istore_n (pc' := 73) (L' := [.ref 1, .int x1, .int x4, .int x3, .int x4]) rfl rfl rfl rfl ?_
  exact fx_Land_nextStop_b73_e (hk4 := hk4) h
def fx_Land_nextStop_b4 (N : Nat) : Nat → Int32 → Int32 → Int32 → am_S → Option Int32
  | 0, _, _, _, _ => none
  | n + 1, x1, x2, x3, σ => (if (σ 1 12) ≤ x3 then some x2 else (fx_Land_otherEndOf x3 x1 σ).bind fun q2 => am_g (am_in x3 30) <| (if (σ 9 x3.toNatClampNeg) = 0 then fx_Land_nextStop_b73 N (fun x1 x2 x3 σ => fx_Land_nextStop_b4 N n x1 x2 x3 σ) x1 x2 x3 σ else (if q2 < 0 then fx_Land_nextStop_b73 N (fun x1 x2 x3 σ => fx_Land_nextStop_b4 N n x1 x2 x3 σ) x1 x2 x3 σ else am_g (am_in q2 12) <| am_g (am_in x3 30) <| am_g (am_in x1 12) <| (if ((σ 12 q2.toNatClampNeg) + (σ 8 x3.toNatClampNeg)) = (σ 12 x1.toNatClampNeg) then (if x2 < 0 then fx_Land_nextStop_b70 N (fun x1 x2 x3 σ => fx_Land_nextStop_b4 N n x1 x2 x3 σ) x1 x3 q2 σ else (if x2 ≤ q2 then fx_Land_nextStop_b73 N (fun x1 x2 x3 σ => fx_Land_nextStop_b4 N n x1 x2 x3 σ) x1 x2 x3 σ else fx_Land_nextStop_b70 N (fun x1 x2 x3 σ => fx_Land_nextStop_b4 N n x1 x2 x3 σ) x1 x3 q2 σ)) else fx_Land_nextStop_b73 N (fun x1 x2 x3 σ => fx_Land_nextStop_b4 N n x1 x2 x3 σ) x1 x2 x3 σ))))
set_option maxRecDepth 100000 in
theorem fx_Land_nextStop_b4_e {X : Nat} {xs : Nat → Int32} {d : Nat} {N : Nat} : ∀ {n : Nat} {x1 : Int32} {x2 : Int32} {x3 : Int32} {w4 : Value} {σ : am_S} {o : Int32}, fx_Land_nextStop_b4 N n x1 x2 x3 σ = some o → am_Ev am_sh (am_exx X xs) (d + 1) mm_24 4 [.ref 1, .int x1, .int x2, .int x3, w4] [] σ (some (.int o)) σ := by
  intro n
  induction n with
  | zero => intro x1 x2 x3 w4 σ o h; cases h
  | succ n ih =>
    intro x1 x2 x3 w4 σ o h
    unfold fx_Land_nextStop_b4 at h
    refine ev_iload_n (pc' := 5) rfl rfl rfl ?_
    refine ev_aload_n (pc' := 6) rfl rfl rfl ?_
    refine ev_getfield (pc' := 9) (w := .int (σ 1 12)) rfl rfl rfl rfl ?_
    rcases am_if h with ⟨hc1, h⟩ | ⟨hc1, h⟩
    · refine ev_ic_t (pc' := 79) rfl rfl (cb_ge_t hc1) ?_
      refine ev_iload_n (pc' := 80) rfl rfl rfl ?_
      obtain rfl := Option.some.inj h
      exact ev_ireturn rfl rfl
    · refine ev_ic_f (pc' := 12) rfl (by decide) rfl (cb_ge_f hc1) ?_
      refine ev_aload_n (pc' := 13) rfl rfl rfl ?_
      refine ev_iload_n (pc' := 14) rfl rfl rfl ?_
      refine ev_iload_n (pc' := 15) rfl rfl rfl ?_
      refine am_bd h (fun q2 hq2 h => ?_)
      refine ev_call (mi := 25) (as := [.ref 1, .int x3, .int x1]) (rest := []) rfl rfl (Nat.le_of_ble_eq_true rfl) (fx_Land_otherEndOf_e (d := d) hq2) ?_
      show am_Ev _ _ _ _ 18 _ _ _ _ _
      refine ev_istore (pc' := 20) (L' := [.ref 1, .int x1, .int x2, .int x3, .int q2]) rfl rfl rfl rfl ?_
      refine ev_aload_n (pc' := 21) rfl rfl rfl ?_
      refine ev_getfield (pc' := 24) (w := .ref 9) rfl rfl rfl rfl ?_
      refine ev_iload_n (pc' := 25) rfl rfl rfl ?_
      obtain ⟨hg3, h⟩ := am_g_some h
      refine ev_baload (pc' := 26) rfl rfl rfl hg3 ?_
      rcases am_if h with ⟨hc4, h⟩ | ⟨hc4, h⟩
      · refine ev_if_t (pc' := 73) rfl rfl (cb_eq_t hc4) ?_
        exact fx_Land_nextStop_b73_e (hk4 := fun h => ih h) h
      · refine ev_if_f (pc' := 29) rfl (by decide) rfl (cb_eq_f hc4) ?_
        refine ev_iload (pc' := 31) rfl rfl rfl ?_
        rcases am_if h with ⟨hc5, h⟩ | ⟨hc5, h⟩
        · refine ev_if_t (pc' := 73) rfl rfl (cb_lt_t hc5) ?_
          exact fx_Land_nextStop_b73_e (hk4 := fun h => ih h) h
        · refine ev_if_f (pc' := 34) rfl (by decide) rfl (cb_lt_f hc5) ?_
          refine ev_aload_n (pc' := 35) rfl rfl rfl ?_
          refine ev_getfield (pc' := 38) (w := .ref 12) rfl rfl rfl rfl ?_
          refine ev_iload (pc' := 40) rfl rfl rfl ?_
          obtain ⟨hg6, h⟩ := am_g_some h
          refine ev_iaload (pc' := 41) rfl rfl rfl hg6 ?_
          refine ev_aload_n (pc' := 42) rfl rfl rfl ?_
          refine ev_getfield (pc' := 45) (w := .ref 8) rfl rfl rfl rfl ?_
          refine ev_iload_n (pc' := 46) rfl rfl rfl ?_
          obtain ⟨hg7, h⟩ := am_g_some h
          refine ev_iaload (pc' := 47) rfl rfl rfl hg7 ?_
          refine ev_iadd (pc' := 48) rfl rfl ?_
          refine ev_aload_n (pc' := 49) rfl rfl rfl ?_
          refine ev_getfield (pc' := 52) (w := .ref 12) rfl rfl rfl rfl ?_
          refine ev_iload_n (pc' := 53) rfl rfl rfl ?_
          obtain ⟨hg8, h⟩ := am_g_some h
          refine ev_iaload (pc' := 54) rfl rfl rfl hg8 ?_
          rcases am_if h with ⟨hc9, h⟩ | ⟨hc9, h⟩
          · refine ev_ic_t (pc' := 60) rfl rfl (cb_eq_t hc9) ?_
            refine ev_iload_n (pc' := 61) rfl rfl rfl ?_
            rcases am_if h with ⟨hc10, h⟩ | ⟨hc10, h⟩
            · refine ev_if_t (pc' := 70) rfl rfl (cb_lt_t hc10) ?_
              exact fx_Land_nextStop_b70_e (hk4 := fun h => ih h) h
            · refine ev_if_f (pc' := 64) rfl (by decide) rfl (cb_lt_f hc10) ?_
              refine ev_iload (pc' := 66) rfl rfl rfl ?_
              refine ev_iload_n (pc' := 67) rfl rfl rfl ?_
              rcases am_if h with ⟨hc11, h⟩ | ⟨hc11, h⟩
              · refine ev_ic_t (pc' := 73) rfl rfl (cb_ge_t hc11) ?_
                exact fx_Land_nextStop_b73_e (hk4 := fun h => ih h) h
              · refine ev_ic_f (pc' := 70) rfl (by decide) rfl (cb_ge_f hc11) ?_
                exact fx_Land_nextStop_b70_e (hk4 := fun h => ih h) h
          · refine ev_ic_f (pc' := 57) rfl (by decide) rfl (cb_eq_f hc9) ?_
            refine ev_goto (pc' := 73) rfl rfl ?_
            exact fx_Land_nextStop_b73_e (hk4 := fun h => ih h) h
def fx_Land_nextStop (N : Nat) (a1 : Int32) (σ : am_S) : Option Int32 := fx_Land_nextStop_b4 N N a1 (-1 : Int32) (0 : Int32) σ
set_option maxRecDepth 100000 in
theorem fx_Land_nextStop_e {X : Nat} {xs : Nat → Int32} {d : Nat} {N : Nat} {a1 : Int32} {σ : am_S} {o : Int32} (h : fx_Land_nextStop N a1 σ = some o) : am_Ev am_sh (am_exx X xs) (d + 1) mm_24 0 [.ref 1, .int a1, .null, .null, .null] [] σ (some (.int o)) σ := by
  unfold fx_Land_nextStop at h
  refine ev_iconst (pc' := 1) (b := (-1 : Int32)) rfl rfl rfl ?_
  refine ev_istore_n (pc' := 2) (L' := [.ref 1, .int a1, .int (-1 : Int32), .null, .null]) rfl rfl rfl rfl ?_
  refine ev_iconst (pc' := 3) (b := (0 : Int32)) rfl rfl rfl ?_
  refine ev_istore_n (pc' := 4) (L' := [.ref 1, .int a1, .int (-1 : Int32), .int (0 : Int32), .null]) rfl rfl rfl rfl ?_
  exact fx_Land_nextStop_b4_e h
/-! PartedLand$Wagons.route (48, 'I', 'I', 'I', 1): S -/
def fx_Wagons_route_b112 (N : Nat) (X : Nat) (xs : Nat → Int32) (x3 : Int32) (x6 : Int32) (σ : am_S) : Option (Int32 × am_S) := some ((x3 + x6), σ)
set_option maxRecDepth 100000 in
theorem fx_Wagons_route_b112_e {X : Nat} {xs : Nat → Int32} {d : Nat} {N : Nat} {x3 : Int32} {x6 : Int32} {w0 : Value} {w1 : Value} {w2 : Value} {w4 : Value} {w5 : Value} {w7 : Value} {w8 : Value} {σ : am_S} {o : Int32 × am_S} (h : fx_Wagons_route_b112 N X xs x3 x6 σ = some o) : am_Ev am_sh (am_exx X xs) (d + 2) mm_85 112 [w0, w1, w2, .int x3, w4, w5, .int x6, w7, w8] [] σ (some (.int o.1)) o.2 := by
  unfold fx_Wagons_route_b112 at h
  refine ev_iload_n (pc' := 113) rfl rfl rfl ?_
  refine ev_iload (pc' := 115) rfl rfl rfl ?_
  refine ev_iadd (pc' := 116) rfl rfl ?_
  obtain rfl := Option.some.inj h
  exact ev_ireturn rfl rfl
def fx_Wagons_route_b56 (N : Nat) (X : Nat) (xs : Nat → Int32) : Nat → Int32 → Int32 → Int32 → Int32 → Int32 → Int32 → am_S → Option (Int32 × am_S)
  | 0, _, _, _, _, _, _, _ => none
  | n + 1, x1, x2, x3, x6, x7, x8, σ => (if (12 : Int32) ≤ x8 then fx_Wagons_route_b112 N X xs x3 x6 σ else (if x7 = x2 then fx_Wagons_route_b112 N X xs x3 x6 σ else (fx_Land_nextStop N x7 σ).bind fun q3 => (if 0 ≤ q3 then am_g (am_in q3 12) <| (fx_Wagons_addStop x1 q3 ((x3 + x6) - (σ 12 q3.toNatClampNeg)) σ).bind fun q6 => fx_Wagons_route_b56 N X xs n x1 x2 x3 x6 q3 (x8 + (1 : Int32)) q6 else fx_Wagons_route_b112 N X xs x3 x6 σ)))
set_option maxRecDepth 100000 in
theorem fx_Wagons_route_b56_e {X : Nat} {xs : Nat → Int32} {d : Nat} {N : Nat} : ∀ {n : Nat} {x1 : Int32} {x2 : Int32} {x3 : Int32} {x6 : Int32} {x7 : Int32} {x8 : Int32} {w5 : Value} {σ : am_S} {o : Int32 × am_S}, fx_Wagons_route_b56 N X xs n x1 x2 x3 x6 x7 x8 σ = some o → am_Ev am_sh (am_exx X xs) (d + 2) mm_85 56 [.ref 48, .int x1, .int x2, .int x3, .ref 1, w5, .int x6, .int x7, .int x8] [] σ (some (.int o.1)) o.2 := by
  intro n
  induction n with
  | zero => intro x1 x2 x3 x6 x7 x8 w5 σ o h; cases h
  | succ n ih =>
    intro x1 x2 x3 x6 x7 x8 w5 σ o h
    unfold fx_Wagons_route_b56 at h
    refine ev_iload (pc' := 58) rfl rfl rfl ?_
    refine ev_bipush (pc' := 60) (b := (12 : Int32)) rfl rfl rfl ?_
    rcases am_if h with ⟨hc1, h⟩ | ⟨hc1, h⟩
    · refine ev_ic_t (pc' := 112) rfl rfl (cb_ge_t hc1) ?_
      exact fx_Wagons_route_b112_e h
    · refine ev_ic_f (pc' := 63) rfl (by decide) rfl (cb_ge_f hc1) ?_
      refine ev_iload (pc' := 65) rfl rfl rfl ?_
      refine ev_iload_n (pc' := 66) rfl rfl rfl ?_
      rcases am_if h with ⟨hc2, h⟩ | ⟨hc2, h⟩
      · refine ev_ic_t (pc' := 112) rfl rfl (cb_eq_t hc2) ?_
        exact fx_Wagons_route_b112_e h
      · refine ev_ic_f (pc' := 69) rfl (by decide) rfl (cb_eq_f hc2) ?_
        refine ev_aload (pc' := 71) rfl rfl rfl ?_
        refine ev_iload (pc' := 73) rfl rfl rfl ?_
        refine am_bd h (fun q3 hq3 h => ?_)
        refine ev_call (mi := 24) (as := [.ref 1, .int x7]) (rest := []) rfl rfl (Nat.le_of_ble_eq_true rfl) (fx_Land_nextStop_e (d := d) hq3) ?_
        show am_Ev _ _ _ _ 76 _ _ _ _ _
        refine ev_istore (pc' := 78) (L' := [.ref 48, .int x1, .int x2, .int x3, .ref 1, w5, .int x6, .int q3, .int x8]) rfl rfl rfl rfl ?_
        refine ev_iload (pc' := 80) rfl rfl rfl ?_
        rcases am_if h with ⟨hc4, h⟩ | ⟨hc4, h⟩
        · refine ev_if_t (pc' := 86) rfl rfl (cb_ge_t hc4) ?_
          refine ev_aload_n (pc' := 87) rfl rfl rfl ?_
          refine ev_iload_n (pc' := 88) rfl rfl rfl ?_
          refine ev_iload (pc' := 90) rfl rfl rfl ?_
          refine ev_iload_n (pc' := 91) rfl rfl rfl ?_
          refine ev_iload (pc' := 93) rfl rfl rfl ?_
          refine ev_iadd (pc' := 94) rfl rfl ?_
          refine ev_aload (pc' := 96) rfl rfl rfl ?_
          refine ev_getfield (pc' := 99) (w := .ref 12) rfl rfl rfl rfl ?_
          refine ev_iload (pc' := 101) rfl rfl rfl ?_
          obtain ⟨hg5, h⟩ := am_g_some h
          refine ev_iaload (pc' := 102) rfl rfl rfl hg5 ?_
          refine ev_isub (pc' := 103) rfl rfl ?_
          refine am_bd h (fun q6 hq6 h => ?_)
          refine ev_call (mi := 83) (as := [.ref 48, .int x1, .int q3, .int ((x3 + x6) - (σ 12 q3.toNatClampNeg))]) (rest := []) rfl rfl (Nat.le_of_ble_eq_true rfl) (fx_Wagons_addStop_e (d := d + 1) hq6) ?_
          show am_Ev _ _ _ _ 106 _ _ _ _ _
          refine ev_iinc (pc' := 109) (L' := [.ref 48, .int x1, .int x2, .int x3, .ref 1, w5, .int x6, .int q3, .int (x8 + (1 : Int32))]) (b := (1 : Int32)) rfl rfl rfl rfl rfl ?_
          refine ev_goto (pc' := 56) rfl rfl ?_
          exact ih h
        · refine ev_if_f (pc' := 83) rfl (by decide) rfl (cb_ge_f hc4) ?_
          refine ev_goto (pc' := 112) rfl rfl ?_
          exact fx_Wagons_route_b112_e h
def fx_Wagons_route (N : Nat) (X : Nat) (xs : Nat → Int32) (a1 : Int32) (a2 : Int32) (a3 : Int32) (σ : am_S) : Option (Int32 × am_S) := (fx_Wagons_placeOn N X xs a1 a3 σ).bind fun q1 => (fx_Land_measureFrom N a2 (1 : Int32) σ).bind fun q2 => am_g (am_in q1 12) <| (if (q2 12 q1.toNatClampNeg) < (1000000 : Int32) then am_g (am_in a1 10) <| (fx_Wagons_addStop a1 q1 a3 (am_up q2 50 a1.toNatClampNeg (0 : Int32))).bind fun q6 => fx_Wagons_route_b56 N X xs N a1 a2 a3 (q2 12 q1.toNatClampNeg) q1 (1 : Int32) q6 else some ((-1 : Int32), q2))
set_option maxRecDepth 100000 in
theorem fx_Wagons_route_e {X : Nat} {xs : Nat → Int32} {d : Nat} {N : Nat} {a1 : Int32} {a2 : Int32} {a3 : Int32} {σ : am_S} {o : Int32 × am_S} (h : fx_Wagons_route N X xs a1 a2 a3 σ = some o) : am_Ev am_sh (am_exx X xs) (d + 2) mm_85 0 [.ref 48, .int a1, .int a2, .int a3, .ref 1, .null, .null, .null, .null] [] σ (some (.int o.1)) o.2 := by
  unfold fx_Wagons_route at h
  refine ev_aload_n (pc' := 1) rfl rfl rfl ?_
  refine ev_iload_n (pc' := 2) rfl rfl rfl ?_
  refine ev_iload_n (pc' := 3) rfl rfl rfl ?_
  refine am_bd h (fun q1 hq1 h => ?_)
  refine ev_call (mi := 84) (as := [.ref 48, .int a1, .int a3]) (rest := []) rfl rfl (Nat.le_of_ble_eq_true rfl) (fx_Wagons_placeOn_e (d := d + 1) hq1) ?_
  show am_Ev _ _ _ _ 6 _ _ _ _ _
  refine ev_istore (pc' := 8) (L' := [.ref 48, .int a1, .int a2, .int a3, .ref 1, .int q1, .null, .null, .null]) rfl rfl rfl rfl ?_
  refine ev_aload (pc' := 10) rfl rfl rfl ?_
  refine ev_iload_n (pc' := 11) rfl rfl rfl ?_
  refine ev_iconst (pc' := 12) (b := (1 : Int32)) rfl rfl rfl ?_
  refine am_bd h (fun q2 hq2 h => ?_)
  refine ev_call (mi := 21) (as := [.ref 1, .int a2, .int (1 : Int32)]) (rest := []) rfl rfl (Nat.le_of_ble_eq_true rfl) (fx_Land_measureFrom_e (d := d) hq2) ?_
  show am_Ev _ _ _ _ 15 _ _ _ _ _
  refine ev_aload (pc' := 17) rfl rfl rfl ?_
  refine ev_getfield (pc' := 20) (w := .ref 12) rfl rfl rfl rfl ?_
  refine ev_iload (pc' := 22) rfl rfl rfl ?_
  obtain ⟨hg3, h⟩ := am_g_some h
  refine ev_iaload (pc' := 23) rfl rfl rfl hg3 ?_
  refine ev_istore (pc' := 25) (L' := [.ref 48, .int a1, .int a2, .int a3, .ref 1, .int q1, .int (q2 12 q1.toNatClampNeg), .null, .null]) rfl rfl rfl rfl ?_
  refine ev_iload (pc' := 27) rfl rfl rfl ?_
  refine ev_ldc (pc' := 29) (b := (1000000 : Int32)) rfl rfl rfl ?_
  rcases am_if h with ⟨hc4, h⟩ | ⟨hc4, h⟩
  · refine ev_ic_t (pc' := 34) rfl rfl (cb_lt_t hc4) ?_
    refine ev_aload_n (pc' := 35) rfl rfl rfl ?_
    refine ev_getfield (pc' := 38) (w := .ref 50) rfl rfl rfl rfl ?_
    refine ev_iload_n (pc' := 39) rfl rfl rfl ?_
    refine ev_iconst (pc' := 40) (b := (0 : Int32)) rfl rfl rfl ?_
    obtain ⟨hg5, h⟩ := am_g_some h
    refine ev_iastore (pc' := 41) rfl rfl rfl hg5 ?_
    refine ev_aload_n (pc' := 42) rfl rfl rfl ?_
    refine ev_iload_n (pc' := 43) rfl rfl rfl ?_
    refine ev_iload (pc' := 45) rfl rfl rfl ?_
    refine ev_iload_n (pc' := 46) rfl rfl rfl ?_
    refine am_bd h (fun q6 hq6 h => ?_)
    refine ev_call (mi := 83) (as := [.ref 48, .int a1, .int q1, .int a3]) (rest := []) rfl rfl (Nat.le_of_ble_eq_true rfl) (fx_Wagons_addStop_e (d := d + 1) hq6) ?_
    show am_Ev _ _ _ _ 49 _ _ _ _ _
    refine ev_iload (pc' := 51) rfl rfl rfl ?_
    refine ev_istore (pc' := 53) (L' := [.ref 48, .int a1, .int a2, .int a3, .ref 1, .int q1, .int (q2 12 q1.toNatClampNeg), .int q1, .null]) rfl rfl rfl rfl ?_
    refine ev_iconst (pc' := 54) (b := (1 : Int32)) rfl rfl rfl ?_
    refine ev_istore (pc' := 56) (L' := [.ref 48, .int a1, .int a2, .int a3, .ref 1, .int q1, .int (q2 12 q1.toNatClampNeg), .int q1, .int (1 : Int32)]) rfl rfl rfl rfl ?_
    exact fx_Wagons_route_b56_e h
  · refine ev_ic_f (pc' := 32) rfl (by decide) rfl (cb_lt_f hc4) ?_
    refine ev_iconst (pc' := 33) (b := (-1 : Int32)) rfl rfl rfl ?_
    obtain rfl := Option.some.inj h
    exact ev_ireturn rfl rfl
/-! PartedLand.send (0, 'I', 'I'): S -/
def fx_send_b22 (N : Nat) (X : Nat) (xs : Nat → Int32) (σ : am_S) : Option (Int32 × am_S) := (fx_finding (-1000000001 : Int32) σ).bind fun q1 => some (q1.1, q1.2)
set_option maxRecDepth 100000 in
theorem fx_send_b22_e {X : Nat} {xs : Nat → Int32} {d : Nat} {N : Nat} {w1 : Value} {w2 : Value} {w3 : Value} {σ : am_S} {o : Int32 × am_S} (h : fx_send_b22 N X xs σ = some o) : am_Ev am_sh (am_exx X xs) (d + 3) mm_113 22 [.ref 0, w1, w2, w3] [] σ (some (.int o.1)) o.2 := by
  unfold fx_send_b22 at h
  refine ev_aload_n (pc' := 23) rfl rfl rfl ?_
  refine ev_ldc (pc' := 25) (b := (-1000000001 : Int32)) rfl rfl rfl ?_
  refine am_bd h (fun q1 hq1 h => ?_)
  refine ev_call (mi := 129) (as := [.ref 0, .int (-1000000001 : Int32)]) (rest := []) rfl rfl (Nat.le_of_ble_eq_true rfl) (fx_finding_e (d := d + 2) hq1) ?_
  show am_Ev _ _ _ _ 28 _ _ _ _ _
  obtain rfl := Option.some.inj h
  exact ev_ireturn rfl rfl
def fx_send (N : Nat) (X : Nat) (xs : Nat → Int32) (a1 : Int32) (a2 : Int32) (σ : am_S) : Option (Int32 × am_S) := (if (fx_Wagons_hasWagon a1 σ) = 0 then fx_send_b22 N X xs σ else (if (fx_Land_hasParish a2 σ) = 0 then fx_send_b22 N X xs σ else (fx_Wagons_route N X xs a1 a2 (σ 0 12) σ).bind fun q3 => (if 0 ≤ q3.1 then some (q3.1, q3.2) else (fx_finding (-1000000002 : Int32) q3.2).bind fun q5 => some (q5.1, q5.2))))
set_option maxRecDepth 100000 in
theorem fx_send_e {X : Nat} {xs : Nat → Int32} {d : Nat} {N : Nat} {a1 : Int32} {a2 : Int32} {σ : am_S} {o : Int32 × am_S} (h : fx_send N X xs a1 a2 σ = some o) : am_Ev am_sh (am_exx X xs) (d + 3) mm_113 0 [.ref 0, .int a1, .int a2, .null] [] σ (some (.int o.1)) o.2 := by
  unfold fx_send at h
  refine ev_aload_n (pc' := 1) rfl rfl rfl ?_
  refine ev_getfield (pc' := 4) (w := .ref 48) rfl rfl rfl rfl ?_
  refine ev_iload_n (pc' := 5) rfl rfl rfl ?_
  refine ev_call (mi := 81) (as := [.ref 48, .int a1]) (rest := []) rfl rfl (Nat.le_of_ble_eq_true rfl) (fx_Wagons_hasWagon_e (d := d + 2) rfl) ?_
  show am_Ev _ _ _ _ 8 _ _ _ _ _
  rcases am_if h with ⟨hc1, h⟩ | ⟨hc1, h⟩
  · refine ev_if_t (pc' := 22) rfl rfl (cb_eq_t hc1) ?_
    exact fx_send_b22_e h
  · refine ev_if_f (pc' := 11) rfl (by decide) rfl (cb_eq_f hc1) ?_
    refine ev_aload_n (pc' := 12) rfl rfl rfl ?_
    refine ev_getfield (pc' := 15) (w := .ref 1) rfl rfl rfl rfl ?_
    refine ev_iload_n (pc' := 16) rfl rfl rfl ?_
    refine ev_call (mi := 27) (as := [.ref 1, .int a2]) (rest := []) rfl rfl (Nat.le_of_ble_eq_true rfl) (fx_Land_hasParish_e (d := d + 2) rfl) ?_
    show am_Ev _ _ _ _ 19 _ _ _ _ _
    rcases am_if h with ⟨hc2, h⟩ | ⟨hc2, h⟩
    · refine ev_if_f (pc' := 22) rfl (by decide) rfl (cb_ne_f hc2) ?_
      exact fx_send_b22_e h
    · refine ev_if_t (pc' := 29) rfl rfl (cb_ne_t hc2) ?_
      refine ev_aload_n (pc' := 30) rfl rfl rfl ?_
      refine ev_getfield (pc' := 33) (w := .ref 48) rfl rfl rfl rfl ?_
      refine ev_iload_n (pc' := 34) rfl rfl rfl ?_
      refine ev_iload_n (pc' := 35) rfl rfl rfl ?_
      refine ev_aload_n (pc' := 36) rfl rfl rfl ?_
      refine ev_getfield (pc' := 39) (w := .int (σ 0 12)) rfl rfl rfl rfl ?_
      refine ev_aload_n (pc' := 40) rfl rfl rfl ?_
      refine ev_getfield (pc' := 43) (w := .ref 1) rfl rfl rfl rfl ?_
      refine am_bd h (fun q3 hq3 h => ?_)
      refine ev_call (mi := 85) (as := [.ref 48, .int a1, .int a2, .int (σ 0 12), .ref 1]) (rest := []) rfl rfl (Nat.le_of_ble_eq_true rfl) (fx_Wagons_route_e (d := d) hq3) ?_
      show am_Ev _ _ _ _ 46 _ _ _ _ _
      refine ev_istore_n (pc' := 47) (L' := [.ref 0, .int a1, .int a2, .int q3.1]) rfl rfl rfl rfl ?_
      refine ev_iload_n (pc' := 48) rfl rfl rfl ?_
      rcases am_if h with ⟨hc4, h⟩ | ⟨hc4, h⟩
      · refine ev_if_t (pc' := 60) rfl rfl (cb_ge_t hc4) ?_
        refine ev_iload_n (pc' := 61) rfl rfl rfl ?_
        obtain rfl := Option.some.inj h
        exact ev_ireturn rfl rfl
      · refine ev_if_f (pc' := 51) rfl (by decide) rfl (cb_ge_f hc4) ?_
        refine ev_aload_n (pc' := 52) rfl rfl rfl ?_
        refine ev_ldc (pc' := 54) (b := (-1000000002 : Int32)) rfl rfl rfl ?_
        refine am_bd h (fun q5 hq5 h => ?_)
        refine ev_call (mi := 129) (as := [.ref 0, .int (-1000000002 : Int32)]) (rest := []) rfl rfl (Nat.le_of_ble_eq_true rfl) (fx_finding_e (d := d + 2) hq5) ?_
        show am_Ev _ _ _ _ 57 _ _ _ _ _
        refine ev_goto (pc' := 61) rfl rfl ?_
        obtain rfl := Option.some.inj h
        exact ev_ireturn rfl rfl
/-! PartedLand.where (0, 'I', 'I'): S -/
def fx_where_b26 (N : Nat) (X : Nat) (xs : Nat → Int32) (σ : am_S) : Option (Int32 × am_S) := (fx_finding (-1000000001 : Int32) σ).bind fun q1 => some (q1.1, q1.2)
set_option maxRecDepth 100000 in
theorem fx_where_b26_e {X : Nat} {xs : Nat → Int32} {d : Nat} {N : Nat} {w1 : Value} {w2 : Value} {σ : am_S} {o : Int32 × am_S} (h : fx_where_b26 N X xs σ = some o) : am_Ev am_sh (am_exx X xs) (d + 1) mm_114 26 [.ref 0, w1, w2] [] σ (some (.int o.1)) o.2 := by
  unfold fx_where_b26 at h
  refine ev_aload_n (pc' := 27) rfl rfl rfl ?_
  refine ev_ldc (pc' := 29) (b := (-1000000001 : Int32)) rfl rfl rfl ?_
  refine am_bd h (fun q1 hq1 h => ?_)
  refine ev_call (mi := 129) (as := [.ref 0, .int (-1000000001 : Int32)]) (rest := []) rfl rfl (Nat.le_of_ble_eq_true rfl) (fx_finding_e (d := d) hq1) ?_
  show am_Ev _ _ _ _ 32 _ _ _ _ _
  obtain rfl := Option.some.inj h
  exact ev_ireturn rfl rfl
def fx_where (N : Nat) (X : Nat) (xs : Nat → Int32) (a1 : Int32) (a2 : Int32) (σ : am_S) : Option (Int32 × am_S) := (if (fx_Wagons_hasWagon a1 σ) = 0 then fx_where_b26 N X xs σ else (if a2 < (σ 0 12) then fx_where_b26 N X xs σ else (if a2 ≤ (400 : Int32) then (fx_Wagons_placeOn N X xs a1 a2 σ).bind fun q4 => some (q4, σ) else fx_where_b26 N X xs σ)))
set_option maxRecDepth 100000 in
theorem fx_where_e {X : Nat} {xs : Nat → Int32} {d : Nat} {N : Nat} {a1 : Int32} {a2 : Int32} {σ : am_S} {o : Int32 × am_S} (h : fx_where N X xs a1 a2 σ = some o) : am_Ev am_sh (am_exx X xs) (d + 1) mm_114 0 [.ref 0, .int a1, .int a2] [] σ (some (.int o.1)) o.2 := by
  unfold fx_where at h
  refine ev_aload_n (pc' := 1) rfl rfl rfl ?_
  refine ev_getfield (pc' := 4) (w := .ref 48) rfl rfl rfl rfl ?_
  refine ev_iload_n (pc' := 5) rfl rfl rfl ?_
  refine ev_call (mi := 81) (as := [.ref 48, .int a1]) (rest := []) rfl rfl (Nat.le_of_ble_eq_true rfl) (fx_Wagons_hasWagon_e (d := d) rfl) ?_
  show am_Ev _ _ _ _ 8 _ _ _ _ _
  rcases am_if h with ⟨hc1, h⟩ | ⟨hc1, h⟩
  · refine ev_if_t (pc' := 26) rfl rfl (cb_eq_t hc1) ?_
    exact fx_where_b26_e h
  · refine ev_if_f (pc' := 11) rfl (by decide) rfl (cb_eq_f hc1) ?_
    refine ev_iload_n (pc' := 12) rfl rfl rfl ?_
    refine ev_aload_n (pc' := 13) rfl rfl rfl ?_
    refine ev_getfield (pc' := 16) (w := .int (σ 0 12)) rfl rfl rfl rfl ?_
    rcases am_if h with ⟨hc2, h⟩ | ⟨hc2, h⟩
    · refine ev_ic_t (pc' := 26) rfl rfl (cb_lt_t hc2) ?_
      exact fx_where_b26_e h
    · refine ev_ic_f (pc' := 19) rfl (by decide) rfl (cb_lt_f hc2) ?_
      refine ev_iload_n (pc' := 20) rfl rfl rfl ?_
      refine ev_sipush (pc' := 23) (b := (400 : Int32)) rfl rfl rfl ?_
      rcases am_if h with ⟨hc3, h⟩ | ⟨hc3, h⟩
      · refine ev_ic_t (pc' := 33) rfl rfl (cb_le_t hc3) ?_
        refine ev_aload_n (pc' := 34) rfl rfl rfl ?_
        refine ev_getfield (pc' := 37) (w := .ref 48) rfl rfl rfl rfl ?_
        refine ev_iload_n (pc' := 38) rfl rfl rfl ?_
        refine ev_iload_n (pc' := 39) rfl rfl rfl ?_
        refine am_bd h (fun q4 hq4 h => ?_)
        refine ev_call (mi := 84) (as := [.ref 48, .int a1, .int a2]) (rest := []) rfl rfl (Nat.le_of_ble_eq_true rfl) (fx_Wagons_placeOn_e (d := d) hq4) ?_
        show am_Ev _ _ _ _ 42 _ _ _ _ _
        obtain rfl := Option.some.inj h
        exact ev_ireturn rfl rfl
      · refine ev_ic_f (pc' := 26) rfl (by decide) rfl (cb_le_f hc3) ?_
        exact fx_where_b26_e h
/-! PartedLand.home (0, 'I'): S -/
def fx_home (N : Nat) (X : Nat) (xs : Nat → Int32) (a1 : Int32) (σ : am_S) : Option (Int32 × am_S) := (if (fx_Wagons_hasWagon a1 σ) = 0 then (fx_finding (-1000000001 : Int32) σ).bind fun q2 => some (q2.1, q2.2) else (fx_Wagons_placeOn N X xs a1 (σ 0 12) σ).bind fun q3 => am_g (am_in a1 10) <| (fx_Land_daysToSide N q3 (σ 49 a1.toNatClampNeg) (1 : Int32) σ).bind fun q5 => (if (365 : Int32) < ((q5.2 0 12) + q5.1) then some ((0 : Int32), q5.2) else some ((1 : Int32), q5.2)))
set_option maxRecDepth 100000 in
theorem fx_home_e {X : Nat} {xs : Nat → Int32} {d : Nat} {N : Nat} {a1 : Int32} {σ : am_S} {o : Int32 × am_S} (h : fx_home N X xs a1 σ = some o) : am_Ev am_sh (am_exx X xs) (d + 4) mm_115 0 [.ref 0, .int a1, .null, .null] [] σ (some (.int o.1)) o.2 := by
  unfold fx_home at h
  refine ev_aload_n (pc' := 1) rfl rfl rfl ?_
  refine ev_getfield (pc' := 4) (w := .ref 48) rfl rfl rfl rfl ?_
  refine ev_iload_n (pc' := 5) rfl rfl rfl ?_
  refine ev_call (mi := 81) (as := [.ref 48, .int a1]) (rest := []) rfl rfl (Nat.le_of_ble_eq_true rfl) (fx_Wagons_hasWagon_e (d := d + 3) rfl) ?_
  show am_Ev _ _ _ _ 8 _ _ _ _ _
  rcases am_if h with ⟨hc1, h⟩ | ⟨hc1, h⟩
  · refine ev_if_f (pc' := 11) rfl (by decide) rfl (cb_ne_f hc1) ?_
    refine ev_aload_n (pc' := 12) rfl rfl rfl ?_
    refine ev_ldc (pc' := 14) (b := (-1000000001 : Int32)) rfl rfl rfl ?_
    refine am_bd h (fun q2 hq2 h => ?_)
    refine ev_call (mi := 129) (as := [.ref 0, .int (-1000000001 : Int32)]) (rest := []) rfl rfl (Nat.le_of_ble_eq_true rfl) (fx_finding_e (d := d + 3) hq2) ?_
    show am_Ev _ _ _ _ 17 _ _ _ _ _
    obtain rfl := Option.some.inj h
    exact ev_ireturn rfl rfl
  · refine ev_if_t (pc' := 18) rfl rfl (cb_ne_t hc1) ?_
    refine ev_aload_n (pc' := 19) rfl rfl rfl ?_
    refine ev_getfield (pc' := 22) (w := .ref 48) rfl rfl rfl rfl ?_
    refine ev_iload_n (pc' := 23) rfl rfl rfl ?_
    refine ev_aload_n (pc' := 24) rfl rfl rfl ?_
    refine ev_getfield (pc' := 27) (w := .int (σ 0 12)) rfl rfl rfl rfl ?_
    refine am_bd h (fun q3 hq3 h => ?_)
    refine ev_call (mi := 84) (as := [.ref 48, .int a1, .int (σ 0 12)]) (rest := []) rfl rfl (Nat.le_of_ble_eq_true rfl) (fx_Wagons_placeOn_e (d := d + 3) hq3) ?_
    show am_Ev _ _ _ _ 30 _ _ _ _ _
    refine ev_istore_n (pc' := 31) (L' := [.ref 0, .int a1, .int q3, .null]) rfl rfl rfl rfl ?_
    refine ev_aload_n (pc' := 32) rfl rfl rfl ?_
    refine ev_getfield (pc' := 35) (w := .ref 1) rfl rfl rfl rfl ?_
    refine ev_iload_n (pc' := 36) rfl rfl rfl ?_
    refine ev_aload_n (pc' := 37) rfl rfl rfl ?_
    refine ev_getfield (pc' := 40) (w := .ref 48) rfl rfl rfl rfl ?_
    refine ev_getfield (pc' := 43) (w := .ref 49) rfl rfl rfl rfl ?_
    refine ev_iload_n (pc' := 44) rfl rfl rfl ?_
    obtain ⟨hg4, h⟩ := am_g_some h
    refine ev_iaload (pc' := 45) rfl rfl rfl hg4 ?_
    refine ev_iconst (pc' := 46) (b := (1 : Int32)) rfl rfl rfl ?_
    refine am_bd h (fun q5 hq5 h => ?_)
    refine ev_call (mi := 23) (as := [.ref 1, .int q3, .int (σ 49 a1.toNatClampNeg), .int (1 : Int32)]) (rest := []) rfl rfl (Nat.le_of_ble_eq_true rfl) (fx_Land_daysToSide_e (d := d) hq5) ?_
    show am_Ev _ _ _ _ 49 _ _ _ _ _
    refine ev_istore_n (pc' := 50) (L' := [.ref 0, .int a1, .int q3, .int q5.1]) rfl rfl rfl rfl ?_
    refine ev_aload_n (pc' := 51) rfl rfl rfl ?_
    refine ev_getfield (pc' := 54) (w := .int (q5.2 0 12)) rfl rfl rfl rfl ?_
    refine ev_iload_n (pc' := 55) rfl rfl rfl ?_
    refine ev_iadd (pc' := 56) rfl rfl ?_
    refine ev_sipush (pc' := 59) (b := (365 : Int32)) rfl rfl rfl ?_
    rcases am_if h with ⟨hc6, h⟩ | ⟨hc6, h⟩
    · refine ev_ic_t (pc' := 66) rfl rfl (cb_gt_t hc6) ?_
      refine ev_iconst (pc' := 67) (b := (0 : Int32)) rfl rfl rfl ?_
      obtain rfl := Option.some.inj h
      exact ev_ireturn rfl rfl
    · refine ev_ic_f (pc' := 62) rfl (by decide) rfl (cb_gt_f hc6) ?_
      refine ev_iconst (pc' := 63) (b := (1 : Int32)) rfl rfl rfl ?_
      refine ev_goto (pc' := 67) rfl rfl ?_
      obtain rfl := Option.some.inj h
      exact ev_ireturn rfl rfl
/-! PartedLand.day (0, 'I'): S -/
def fx_day_b15 (σ : am_S) : Option (Int32 × am_S) := (fx_finding (-1000000001 : Int32) σ).bind fun q1 => some (q1.1, q1.2)
set_option maxRecDepth 100000 in
theorem fx_day_b15_e {X : Nat} {xs : Nat → Int32} {d : Nat} {w1 : Value} {w2 : Value} {σ : am_S} {o : Int32 × am_S} (h : fx_day_b15 σ = some o) : am_Ev am_sh (am_exx X xs) (d + 1) mm_116 15 [.ref 0, w1, w2] [] σ (some (.int o.1)) o.2 := by
  unfold fx_day_b15 at h
  refine ev_aload_n (pc' := 16) rfl rfl rfl ?_
  refine ev_ldc (pc' := 18) (b := (-1000000001 : Int32)) rfl rfl rfl ?_
  refine am_bd h (fun q1 hq1 h => ?_)
  refine ev_call (mi := 129) (as := [.ref 0, .int (-1000000001 : Int32)]) (rest := []) rfl rfl (Nat.le_of_ble_eq_true rfl) (fx_finding_e (d := d) hq1) ?_
  show am_Ev _ _ _ _ 21 _ _ _ _ _
  obtain rfl := Option.some.inj h
  exact ev_ireturn rfl rfl
def fx_day (a1 : Int32) (σ : am_S) : Option (Int32 × am_S) := (if a1 < (σ 0 12) then fx_day_b15 σ else (if a1 ≤ (400 : Int32) then some ((a1 - (σ 0 12)), (am_up σ 0 12 a1)) else fx_day_b15 σ))
set_option maxRecDepth 100000 in
theorem fx_day_e {X : Nat} {xs : Nat → Int32} {d : Nat} {a1 : Int32} {σ : am_S} {o : Int32 × am_S} (h : fx_day a1 σ = some o) : am_Ev am_sh (am_exx X xs) (d + 1) mm_116 0 [.ref 0, .int a1, .null] [] σ (some (.int o.1)) o.2 := by
  unfold fx_day at h
  refine ev_iload_n (pc' := 1) rfl rfl rfl ?_
  refine ev_aload_n (pc' := 2) rfl rfl rfl ?_
  refine ev_getfield (pc' := 5) (w := .int (σ 0 12)) rfl rfl rfl rfl ?_
  rcases am_if h with ⟨hc1, h⟩ | ⟨hc1, h⟩
  · refine ev_ic_t (pc' := 15) rfl rfl (cb_lt_t hc1) ?_
    exact fx_day_b15_e h
  · refine ev_ic_f (pc' := 8) rfl (by decide) rfl (cb_lt_f hc1) ?_
    refine ev_iload_n (pc' := 9) rfl rfl rfl ?_
    refine ev_sipush (pc' := 12) (b := (400 : Int32)) rfl rfl rfl ?_
    rcases am_if h with ⟨hc2, h⟩ | ⟨hc2, h⟩
    · refine ev_ic_t (pc' := 22) rfl rfl (cb_le_t hc2) ?_
      refine ev_iload_n (pc' := 23) rfl rfl rfl ?_
      refine ev_aload_n (pc' := 24) rfl rfl rfl ?_
      refine ev_getfield (pc' := 27) (w := .int (σ 0 12)) rfl rfl rfl rfl ?_
      refine ev_isub (pc' := 28) rfl rfl ?_
      refine ev_istore_n (pc' := 29) (L' := [.ref 0, .int a1, .int (a1 - (σ 0 12))]) rfl rfl rfl rfl ?_
      refine ev_aload_n (pc' := 30) rfl rfl rfl ?_
      refine ev_iload_n (pc' := 31) rfl rfl rfl ?_
      refine ev_putfield (pc' := 34) (ci := 10) (f := 12) (z := 0) rfl rfl rfl rfl rfl ?_
      refine ev_iload_n (pc' := 35) rfl rfl rfl ?_
      obtain rfl := Option.some.inj h
      exact ev_ireturn rfl rfl
    · refine ev_ic_f (pc' := 15) rfl (by decide) rfl (cb_le_f hc2) ?_
      exact fx_day_b15_e h
/-! PartedLand$Cases.addCase (73, 'I', 'I', 'I', 'I'): S -/
def fx_Cases_addCase (a1 : Int32) (a2 : Int32) (a3 : Int32) (a4 : Int32) (σ : am_S) : Option (Int32 × am_S) := am_g (am_in (σ 73 4) 10) <| am_g (am_in (σ 73 4) 10) <| am_g (am_in (σ 73 4) 10) <| am_g (am_in (σ 73 4) 10) <| some ((((σ 73 4) + (1 : Int32)) - (1 : Int32)), (am_up (am_up (am_up (am_up (am_up σ 74 (σ 73 4).toNatClampNeg a1) 75 (σ 73 4).toNatClampNeg a2) 76 (σ 73 4).toNatClampNeg a3) 77 (σ 73 4).toNatClampNeg a4) 73 4 ((σ 73 4) + (1 : Int32))))
set_option maxRecDepth 100000 in
theorem fx_Cases_addCase_e {X : Nat} {xs : Nat → Int32} {d : Nat} {a1 : Int32} {a2 : Int32} {a3 : Int32} {a4 : Int32} {σ : am_S} {o : Int32 × am_S} (h : fx_Cases_addCase a1 a2 a3 a4 σ = some o) : am_Ev am_sh (am_exx X xs) (d + 0) mm_1 0 [.ref 73, .int a1, .int a2, .int a3, .int a4] [] σ (some (.int o.1)) o.2 := by
  unfold fx_Cases_addCase at h
  refine ev_aload_n (pc' := 1) rfl rfl rfl ?_
  refine ev_getfield (pc' := 4) (w := .ref 74) rfl rfl rfl rfl ?_
  refine ev_aload_n (pc' := 5) rfl rfl rfl ?_
  refine ev_getfield (pc' := 8) (w := .int (σ 73 4)) rfl rfl rfl rfl ?_
  refine ev_iload_n (pc' := 9) rfl rfl rfl ?_
  obtain ⟨hg1, h⟩ := am_g_some h
  refine ev_iastore (pc' := 10) rfl rfl rfl hg1 ?_
  refine ev_aload_n (pc' := 11) rfl rfl rfl ?_
  refine ev_getfield (pc' := 14) (w := .ref 75) rfl rfl rfl rfl ?_
  refine ev_aload_n (pc' := 15) rfl rfl rfl ?_
  refine ev_getfield (pc' := 18) (w := .int (σ 73 4)) rfl rfl rfl rfl ?_
  refine ev_iload_n (pc' := 19) rfl rfl rfl ?_
  obtain ⟨hg2, h⟩ := am_g_some h
  refine ev_iastore (pc' := 20) rfl rfl rfl hg2 ?_
  refine ev_aload_n (pc' := 21) rfl rfl rfl ?_
  refine ev_getfield (pc' := 24) (w := .ref 76) rfl rfl rfl rfl ?_
  refine ev_aload_n (pc' := 25) rfl rfl rfl ?_
  refine ev_getfield (pc' := 28) (w := .int (σ 73 4)) rfl rfl rfl rfl ?_
  refine ev_iload_n (pc' := 29) rfl rfl rfl ?_
  obtain ⟨hg3, h⟩ := am_g_some h
  refine ev_iastore (pc' := 30) rfl rfl rfl hg3 ?_
  refine ev_aload_n (pc' := 31) rfl rfl rfl ?_
  refine ev_getfield (pc' := 34) (w := .ref 77) rfl rfl rfl rfl ?_
  refine ev_aload_n (pc' := 35) rfl rfl rfl ?_
  refine ev_getfield (pc' := 38) (w := .int (σ 73 4)) rfl rfl rfl rfl ?_
  refine ev_iload (pc' := 40) rfl rfl rfl ?_
  obtain ⟨hg4, h⟩ := am_g_some h
  refine ev_iastore (pc' := 41) rfl rfl rfl hg4 ?_
  refine ev_aload_n (pc' := 42) rfl rfl rfl ?_
  refine ev_dup (pc' := 43) rfl rfl ?_
  refine ev_getfield (pc' := 46) (w := .int (σ 73 4)) rfl rfl rfl rfl ?_
  refine ev_iconst (pc' := 47) (b := (1 : Int32)) rfl rfl rfl ?_
  refine ev_iadd (pc' := 48) rfl rfl ?_
  refine ev_putfield (pc' := 51) (ci := 0) (f := 4) (z := 0) rfl rfl rfl rfl rfl ?_
  refine ev_aload_n (pc' := 52) rfl rfl rfl ?_
  refine ev_getfield (pc' := 55) (w := .int ((σ 73 4) + (1 : Int32))) rfl rfl rfl rfl ?_
  refine ev_iconst (pc' := 56) (b := (1 : Int32)) rfl rfl rfl ?_
  refine ev_isub (pc' := 57) rfl rfl ?_
  obtain rfl := Option.some.inj h
  exact ev_ireturn rfl rfl
/-! PartedLand.open (0, 'I', 'I', 'I', 'I'): S -/
def fx_open_b22 (N : Nat) (σ : am_S) : Option (Int32 × am_S) := (fx_finding (-1000000001 : Int32) σ).bind fun q1 => some (q1.1, q1.2)
set_option maxRecDepth 100000 in
theorem fx_open_b22_e {X : Nat} {xs : Nat → Int32} {d : Nat} {N : Nat} {w1 : Value} {w2 : Value} {w3 : Value} {w4 : Value} {σ : am_S} {o : Int32 × am_S} (h : fx_open_b22 N σ = some o) : am_Ev am_sh (am_exx X xs) (d + 3) mm_117 22 [.ref 0, w1, w2, w3, w4] [] σ (some (.int o.1)) o.2 := by
  unfold fx_open_b22 at h
  refine ev_aload_n (pc' := 23) rfl rfl rfl ?_
  refine ev_ldc (pc' := 25) (b := (-1000000001 : Int32)) rfl rfl rfl ?_
  refine am_bd h (fun q1 hq1 h => ?_)
  refine ev_call (mi := 129) (as := [.ref 0, .int (-1000000001 : Int32)]) (rest := []) rfl rfl (Nat.le_of_ble_eq_true rfl) (fx_finding_e (d := d + 2) hq1) ?_
  show am_Ev _ _ _ _ 28 _ _ _ _ _
  obtain rfl := Option.some.inj h
  exact ev_ireturn rfl rfl
def fx_open_b40 (N : Nat) (σ : am_S) : Option (Int32 × am_S) := (fx_finding (-1000000001 : Int32) σ).bind fun q1 => some (q1.1, q1.2)
set_option maxRecDepth 100000 in
theorem fx_open_b40_e {X : Nat} {xs : Nat → Int32} {d : Nat} {N : Nat} {w1 : Value} {w2 : Value} {w3 : Value} {w4 : Value} {σ : am_S} {o : Int32 × am_S} (h : fx_open_b40 N σ = some o) : am_Ev am_sh (am_exx X xs) (d + 3) mm_117 40 [.ref 0, w1, w2, w3, w4] [] σ (some (.int o.1)) o.2 := by
  unfold fx_open_b40 at h
  refine ev_aload_n (pc' := 41) rfl rfl rfl ?_
  refine ev_ldc (pc' := 43) (b := (-1000000001 : Int32)) rfl rfl rfl ?_
  refine am_bd h (fun q1 hq1 h => ?_)
  refine ev_call (mi := 129) (as := [.ref 0, .int (-1000000001 : Int32)]) (rest := []) rfl rfl (Nat.le_of_ble_eq_true rfl) (fx_finding_e (d := d + 2) hq1) ?_
  show am_Ev _ _ _ _ 46 _ _ _ _ _
  obtain rfl := Option.some.inj h
  exact ev_ireturn rfl rfl
def fx_open_b99 (N : Nat) (x1 : Int32) (x2 : Int32) (x3 : Int32) (x4 : Int32) (σ : am_S) : Option (Int32 × am_S) := (if (σ 73 4) < (10 : Int32) then (fx_Cases_addCase x1 x2 x3 x4 σ).bind fun q2 => some (q2.1, q2.2) else (fx_finding (-1000000004 : Int32) σ).bind fun q3 => some (q3.1, q3.2))
set_option maxRecDepth 100000 in
theorem fx_open_b99_e {X : Nat} {xs : Nat → Int32} {d : Nat} {N : Nat} {x1 : Int32} {x2 : Int32} {x3 : Int32} {x4 : Int32} {σ : am_S} {o : Int32 × am_S} (h : fx_open_b99 N x1 x2 x3 x4 σ = some o) : am_Ev am_sh (am_exx X xs) (d + 3) mm_117 99 [.ref 0, .int x1, .int x2, .int x3, .int x4] [] σ (some (.int o.1)) o.2 := by
  unfold fx_open_b99 at h
  refine ev_aload_n (pc' := 100) rfl rfl rfl ?_
  refine ev_getfield (pc' := 103) (w := .ref 73) rfl rfl rfl rfl ?_
  refine ev_getfield (pc' := 106) (w := .int (σ 73 4)) rfl rfl rfl rfl ?_
  refine ev_bipush (pc' := 108) (b := (10 : Int32)) rfl rfl rfl ?_
  rcases am_if h with ⟨hc1, h⟩ | ⟨hc1, h⟩
  · refine ev_ic_t (pc' := 118) rfl rfl (cb_lt_t hc1) ?_
    refine ev_aload_n (pc' := 119) rfl rfl rfl ?_
    refine ev_getfield (pc' := 122) (w := .ref 73) rfl rfl rfl rfl ?_
    refine ev_iload_n (pc' := 123) rfl rfl rfl ?_
    refine ev_iload_n (pc' := 124) rfl rfl rfl ?_
    refine ev_iload_n (pc' := 125) rfl rfl rfl ?_
    refine ev_iload (pc' := 127) rfl rfl rfl ?_
    refine am_bd h (fun q2 hq2 h => ?_)
    refine ev_call (mi := 1) (as := [.ref 73, .int x1, .int x2, .int x3, .int x4]) (rest := []) rfl rfl (Nat.le_of_ble_eq_true rfl) (fx_Cases_addCase_e (d := d + 2) hq2) ?_
    show am_Ev _ _ _ _ 130 _ _ _ _ _
    obtain rfl := Option.some.inj h
    exact ev_ireturn rfl rfl
  · refine ev_ic_f (pc' := 111) rfl (by decide) rfl (cb_lt_f hc1) ?_
    refine ev_aload_n (pc' := 112) rfl rfl rfl ?_
    refine ev_ldc (pc' := 114) (b := (-1000000004 : Int32)) rfl rfl rfl ?_
    refine am_bd h (fun q3 hq3 h => ?_)
    refine ev_call (mi := 129) (as := [.ref 0, .int (-1000000004 : Int32)]) (rest := []) rfl rfl (Nat.le_of_ble_eq_true rfl) (fx_finding_e (d := d + 2) hq3) ?_
    show am_Ev _ _ _ _ 117 _ _ _ _ _
    obtain rfl := Option.some.inj h
    exact ev_ireturn rfl rfl
def fx_open_b72 (N : Nat) (x1 : Int32) (x2 : Int32) (x3 : Int32) (x4 : Int32) (σ : am_S) : Option (Int32 × am_S) := (if x4 = (-1 : Int32) then fx_open_b99 N x1 x2 x3 x4 σ else (fx_Estate_isOf N x4 (4 : Int32) σ).bind fun q2 => (if q2 = 0 then (fx_finding (-1000000005 : Int32) σ).bind fun q4 => some (q4.1, q4.2) else fx_open_b99 N x1 x2 x3 x4 σ))
set_option maxRecDepth 100000 in
theorem fx_open_b72_e {X : Nat} {xs : Nat → Int32} {d : Nat} {N : Nat} {x1 : Int32} {x2 : Int32} {x3 : Int32} {x4 : Int32} {σ : am_S} {o : Int32 × am_S} (h : fx_open_b72 N x1 x2 x3 x4 σ = some o) : am_Ev am_sh (am_exx X xs) (d + 3) mm_117 72 [.ref 0, .int x1, .int x2, .int x3, .int x4] [] σ (some (.int o.1)) o.2 := by
  unfold fx_open_b72 at h
  refine ev_iload (pc' := 74) rfl rfl rfl ?_
  refine ev_iconst (pc' := 75) (b := (-1 : Int32)) rfl rfl rfl ?_
  rcases am_if h with ⟨hc1, h⟩ | ⟨hc1, h⟩
  · refine ev_ic_t (pc' := 99) rfl rfl (cb_eq_t hc1) ?_
    exact fx_open_b99_e h
  · refine ev_ic_f (pc' := 78) rfl (by decide) rfl (cb_eq_f hc1) ?_
    refine ev_aload_n (pc' := 79) rfl rfl rfl ?_
    refine ev_getfield (pc' := 82) (w := .ref 34) rfl rfl rfl rfl ?_
    refine ev_iload (pc' := 84) rfl rfl rfl ?_
    refine ev_iconst (pc' := 85) (b := (4 : Int32)) rfl rfl rfl ?_
    refine am_bd h (fun q2 hq2 h => ?_)
    refine ev_call (mi := 7) (as := [.ref 34, .int x4, .int (4 : Int32)]) (rest := []) rfl rfl (Nat.le_of_ble_eq_true rfl) (fx_Estate_isOf_e (d := d) hq2) ?_
    show am_Ev _ _ _ _ 88 _ _ _ _ _
    rcases am_if h with ⟨hc3, h⟩ | ⟨hc3, h⟩
    · refine ev_if_f (pc' := 91) rfl (by decide) rfl (cb_ne_f hc3) ?_
      refine ev_aload_n (pc' := 92) rfl rfl rfl ?_
      refine ev_ldc_w (pc' := 95) (b := (-1000000005 : Int32)) rfl rfl rfl ?_
      refine am_bd h (fun q4 hq4 h => ?_)
      refine ev_call (mi := 129) (as := [.ref 0, .int (-1000000005 : Int32)]) (rest := []) rfl rfl (Nat.le_of_ble_eq_true rfl) (fx_finding_e (d := d + 2) hq4) ?_
      show am_Ev _ _ _ _ 98 _ _ _ _ _
      obtain rfl := Option.some.inj h
      exact ev_ireturn rfl rfl
    · refine ev_if_t (pc' := 99) rfl rfl (cb_ne_t hc3) ?_
      exact fx_open_b99_e h
def fx_open (N : Nat) (a1 : Int32) (a2 : Int32) (a3 : Int32) (a4 : Int32) (σ : am_S) : Option (Int32 × am_S) := (if (fx_Land_hasParish a1 σ) = 0 then fx_open_b22 N σ else (if (fx_People_hasPerson a2 σ) = 0 then fx_open_b22 N σ else (if a3 < (1 : Int32) then fx_open_b40 N σ else (if a3 ≤ (9 : Int32) then (if a4 = (-1 : Int32) then fx_open_b72 N a1 a2 a3 a4 σ else (if (fx_Estate_hasThing a4 σ) = 0 then (fx_finding (-1000000001 : Int32) σ).bind fun q7 => some (q7.1, q7.2) else fx_open_b72 N a1 a2 a3 a4 σ)) else fx_open_b40 N σ))))
set_option maxRecDepth 100000 in
theorem fx_open_e {X : Nat} {xs : Nat → Int32} {d : Nat} {N : Nat} {a1 : Int32} {a2 : Int32} {a3 : Int32} {a4 : Int32} {σ : am_S} {o : Int32 × am_S} (h : fx_open N a1 a2 a3 a4 σ = some o) : am_Ev am_sh (am_exx X xs) (d + 3) mm_117 0 [.ref 0, .int a1, .int a2, .int a3, .int a4] [] σ (some (.int o.1)) o.2 := by
  unfold fx_open at h
  refine ev_aload_n (pc' := 1) rfl rfl rfl ?_
  refine ev_getfield (pc' := 4) (w := .ref 1) rfl rfl rfl rfl ?_
  refine ev_iload_n (pc' := 5) rfl rfl rfl ?_
  refine ev_call (mi := 27) (as := [.ref 1, .int a1]) (rest := []) rfl rfl (Nat.le_of_ble_eq_true rfl) (fx_Land_hasParish_e (d := d + 2) rfl) ?_
  show am_Ev _ _ _ _ 8 _ _ _ _ _
  rcases am_if h with ⟨hc1, h⟩ | ⟨hc1, h⟩
  · refine ev_if_t (pc' := 22) rfl rfl (cb_eq_t hc1) ?_
    exact fx_open_b22_e h
  · refine ev_if_f (pc' := 11) rfl (by decide) rfl (cb_eq_f hc1) ?_
    refine ev_aload_n (pc' := 12) rfl rfl rfl ?_
    refine ev_getfield (pc' := 15) (w := .ref 13) rfl rfl rfl rfl ?_
    refine ev_iload_n (pc' := 16) rfl rfl rfl ?_
    refine ev_call (mi := 43) (as := [.ref 13, .int a2]) (rest := []) rfl rfl (Nat.le_of_ble_eq_true rfl) (fx_People_hasPerson_e (d := d + 2) rfl) ?_
    show am_Ev _ _ _ _ 19 _ _ _ _ _
    rcases am_if h with ⟨hc2, h⟩ | ⟨hc2, h⟩
    · refine ev_if_f (pc' := 22) rfl (by decide) rfl (cb_ne_f hc2) ?_
      exact fx_open_b22_e h
    · refine ev_if_t (pc' := 29) rfl rfl (cb_ne_t hc2) ?_
      refine ev_iload_n (pc' := 30) rfl rfl rfl ?_
      refine ev_iconst (pc' := 31) (b := (1 : Int32)) rfl rfl rfl ?_
      rcases am_if h with ⟨hc3, h⟩ | ⟨hc3, h⟩
      · refine ev_ic_t (pc' := 40) rfl rfl (cb_lt_t hc3) ?_
        exact fx_open_b40_e h
      · refine ev_ic_f (pc' := 34) rfl (by decide) rfl (cb_lt_f hc3) ?_
        refine ev_iload_n (pc' := 35) rfl rfl rfl ?_
        refine ev_bipush (pc' := 37) (b := (9 : Int32)) rfl rfl rfl ?_
        rcases am_if h with ⟨hc4, h⟩ | ⟨hc4, h⟩
        · refine ev_ic_t (pc' := 47) rfl rfl (cb_le_t hc4) ?_
          refine ev_iload (pc' := 49) rfl rfl rfl ?_
          refine ev_iconst (pc' := 50) (b := (-1 : Int32)) rfl rfl rfl ?_
          rcases am_if h with ⟨hc5, h⟩ | ⟨hc5, h⟩
          · refine ev_ic_t (pc' := 72) rfl rfl (cb_eq_t hc5) ?_
            exact fx_open_b72_e h
          · refine ev_ic_f (pc' := 53) rfl (by decide) rfl (cb_eq_f hc5) ?_
            refine ev_aload_n (pc' := 54) rfl rfl rfl ?_
            refine ev_getfield (pc' := 57) (w := .ref 34) rfl rfl rfl rfl ?_
            refine ev_iload (pc' := 59) rfl rfl rfl ?_
            refine ev_call (mi := 6) (as := [.ref 34, .int a4]) (rest := []) rfl rfl (Nat.le_of_ble_eq_true rfl) (fx_Estate_hasThing_e (d := d + 2) rfl) ?_
            show am_Ev _ _ _ _ 62 _ _ _ _ _
            rcases am_if h with ⟨hc6, h⟩ | ⟨hc6, h⟩
            · refine ev_if_f (pc' := 65) rfl (by decide) rfl (cb_ne_f hc6) ?_
              refine ev_aload_n (pc' := 66) rfl rfl rfl ?_
              refine ev_ldc (pc' := 68) (b := (-1000000001 : Int32)) rfl rfl rfl ?_
              refine am_bd h (fun q7 hq7 h => ?_)
              refine ev_call (mi := 129) (as := [.ref 0, .int (-1000000001 : Int32)]) (rest := []) rfl rfl (Nat.le_of_ble_eq_true rfl) (fx_finding_e (d := d + 2) hq7) ?_
              show am_Ev _ _ _ _ 71 _ _ _ _ _
              obtain rfl := Option.some.inj h
              exact ev_ireturn rfl rfl
            · refine ev_if_t (pc' := 72) rfl rfl (cb_ne_t hc6) ?_
              exact fx_open_b72_e h
        · refine ev_ic_f (pc' := 40) rfl (by decide) rfl (cb_le_f hc4) ?_
          exact fx_open_b40_e h
/-! PartedLand.copy (0, 'I'): S -/
def fx_copy (N : Nat) (a1 : Int32) (σ : am_S) : Option (Int32 × am_S) := (if (fx_Estate_hasThing a1 σ) = 0 then (fx_finding (-1000000001 : Int32) σ).bind fun q2 => some (q2.1, q2.2) else (fx_Estate_isOf N a1 (4 : Int32) σ).bind fun q3 => (if q3 = 0 then (fx_finding (-1000000005 : Int32) σ).bind fun q5 => some (q5.1, q5.2) else am_g (am_in a1 24) <| (if (σ 38 a1.toNatClampNeg) = 0 then am_g (am_in a1 24) <| some ((1 : Int32), (am_up σ 38 a1.toNatClampNeg (1 : Int32))) else (fx_finding (-1000000003 : Int32) σ).bind fun q9 => some (q9.1, q9.2))))
set_option maxRecDepth 100000 in
theorem fx_copy_e {X : Nat} {xs : Nat → Int32} {d : Nat} {N : Nat} {a1 : Int32} {σ : am_S} {o : Int32 × am_S} (h : fx_copy N a1 σ = some o) : am_Ev am_sh (am_exx X xs) (d + 3) mm_118 0 [.ref 0, .int a1] [] σ (some (.int o.1)) o.2 := by
  unfold fx_copy at h
  refine ev_aload_n (pc' := 1) rfl rfl rfl ?_
  refine ev_getfield (pc' := 4) (w := .ref 34) rfl rfl rfl rfl ?_
  refine ev_iload_n (pc' := 5) rfl rfl rfl ?_
  refine ev_call (mi := 6) (as := [.ref 34, .int a1]) (rest := []) rfl rfl (Nat.le_of_ble_eq_true rfl) (fx_Estate_hasThing_e (d := d + 2) rfl) ?_
  show am_Ev _ _ _ _ 8 _ _ _ _ _
  rcases am_if h with ⟨hc1, h⟩ | ⟨hc1, h⟩
  · refine ev_if_f (pc' := 11) rfl (by decide) rfl (cb_ne_f hc1) ?_
    refine ev_aload_n (pc' := 12) rfl rfl rfl ?_
    refine ev_ldc (pc' := 14) (b := (-1000000001 : Int32)) rfl rfl rfl ?_
    refine am_bd h (fun q2 hq2 h => ?_)
    refine ev_call (mi := 129) (as := [.ref 0, .int (-1000000001 : Int32)]) (rest := []) rfl rfl (Nat.le_of_ble_eq_true rfl) (fx_finding_e (d := d + 2) hq2) ?_
    show am_Ev _ _ _ _ 17 _ _ _ _ _
    obtain rfl := Option.some.inj h
    exact ev_ireturn rfl rfl
  · refine ev_if_t (pc' := 18) rfl rfl (cb_ne_t hc1) ?_
    refine ev_aload_n (pc' := 19) rfl rfl rfl ?_
    refine ev_getfield (pc' := 22) (w := .ref 34) rfl rfl rfl rfl ?_
    refine ev_iload_n (pc' := 23) rfl rfl rfl ?_
    refine ev_iconst (pc' := 24) (b := (4 : Int32)) rfl rfl rfl ?_
    refine am_bd h (fun q3 hq3 h => ?_)
    refine ev_call (mi := 7) (as := [.ref 34, .int a1, .int (4 : Int32)]) (rest := []) rfl rfl (Nat.le_of_ble_eq_true rfl) (fx_Estate_isOf_e (d := d) hq3) ?_
    show am_Ev _ _ _ _ 27 _ _ _ _ _
    rcases am_if h with ⟨hc4, h⟩ | ⟨hc4, h⟩
    · refine ev_if_f (pc' := 30) rfl (by decide) rfl (cb_ne_f hc4) ?_
      refine ev_aload_n (pc' := 31) rfl rfl rfl ?_
      refine ev_ldc_w (pc' := 34) (b := (-1000000005 : Int32)) rfl rfl rfl ?_
      refine am_bd h (fun q5 hq5 h => ?_)
      refine ev_call (mi := 129) (as := [.ref 0, .int (-1000000005 : Int32)]) (rest := []) rfl rfl (Nat.le_of_ble_eq_true rfl) (fx_finding_e (d := d + 2) hq5) ?_
      show am_Ev _ _ _ _ 37 _ _ _ _ _
      obtain rfl := Option.some.inj h
      exact ev_ireturn rfl rfl
    · refine ev_if_t (pc' := 38) rfl rfl (cb_ne_t hc4) ?_
      refine ev_aload_n (pc' := 39) rfl rfl rfl ?_
      refine ev_getfield (pc' := 42) (w := .ref 34) rfl rfl rfl rfl ?_
      refine ev_getfield (pc' := 45) (w := .ref 38) rfl rfl rfl rfl ?_
      refine ev_iload_n (pc' := 46) rfl rfl rfl ?_
      obtain ⟨hg6, h⟩ := am_g_some h
      refine ev_baload (pc' := 47) rfl rfl rfl hg6 ?_
      rcases am_if h with ⟨hc7, h⟩ | ⟨hc7, h⟩
      · refine ev_if_t (pc' := 57) rfl rfl (cb_eq_t hc7) ?_
        refine ev_aload_n (pc' := 58) rfl rfl rfl ?_
        refine ev_getfield (pc' := 61) (w := .ref 34) rfl rfl rfl rfl ?_
        refine ev_getfield (pc' := 64) (w := .ref 38) rfl rfl rfl rfl ?_
        refine ev_iload_n (pc' := 65) rfl rfl rfl ?_
        refine ev_iconst (pc' := 66) (b := (1 : Int32)) rfl rfl rfl ?_
        obtain ⟨hg8, h⟩ := am_g_some h
        refine ev_bastore (pc' := 67) rfl rfl rfl rfl hg8 ?_
        refine ev_iconst (pc' := 68) (b := (1 : Int32)) rfl rfl rfl ?_
        obtain rfl := Option.some.inj h
        exact ev_ireturn rfl rfl
      · refine ev_if_f (pc' := 50) rfl (by decide) rfl (cb_eq_f hc7) ?_
        refine ev_aload_n (pc' := 51) rfl rfl rfl ?_
        refine ev_ldc (pc' := 53) (b := (-1000000003 : Int32)) rfl rfl rfl ?_
        refine am_bd h (fun q9 hq9 h => ?_)
        refine ev_call (mi := 129) (as := [.ref 0, .int (-1000000003 : Int32)]) (rest := []) rfl rfl (Nat.le_of_ble_eq_true rfl) (fx_finding_e (d := d + 2) hq9) ?_
        show am_Ev _ _ _ _ 56 _ _ _ _ _
        obtain rfl := Option.some.inj h
        exact ev_ireturn rfl rfl
/-! PartedLand$Cases.hasCase (73, 'I'): T -/
def fx_Cases_hasCase (a1 : Int32) (σ : am_S) : Int32 := (if a1 < 0 then (0 : Int32) else (if (σ 73 4) ≤ a1 then (0 : Int32) else (1 : Int32)))
set_option maxRecDepth 100000 in
theorem fx_Cases_hasCase_e {X : Nat} {xs : Nat → Int32} {d : Nat} {a1 : Int32} {σ : am_S} {o : Int32} (h : fx_Cases_hasCase a1 σ = o) : am_Ev am_sh (am_exx X xs) (d + 0) mm_0 0 [.ref 73, .int a1] [] σ (some (.int o)) σ := by
  unfold fx_Cases_hasCase at h
  refine ev_iload_n (pc' := 1) rfl rfl rfl ?_
  rcases am_if h with ⟨hc1, h⟩ | ⟨hc1, h⟩
  · refine ev_if_t (pc' := 16) rfl rfl (cb_lt_t hc1) ?_
    refine ev_iconst (pc' := 17) (b := (0 : Int32)) rfl rfl rfl ?_
    subst h
    exact ev_zreturn rfl rfl rfl
  · refine ev_if_f (pc' := 4) rfl (by decide) rfl (cb_lt_f hc1) ?_
    refine ev_iload_n (pc' := 5) rfl rfl rfl ?_
    refine ev_aload_n (pc' := 6) rfl rfl rfl ?_
    refine ev_getfield (pc' := 9) (w := .int (σ 73 4)) rfl rfl rfl rfl ?_
    rcases am_if h with ⟨hc2, h⟩ | ⟨hc2, h⟩
    · refine ev_ic_t (pc' := 16) rfl rfl (cb_ge_t hc2) ?_
      refine ev_iconst (pc' := 17) (b := (0 : Int32)) rfl rfl rfl ?_
      subst h
      exact ev_zreturn rfl rfl rfl
    · refine ev_ic_f (pc' := 12) rfl (by decide) rfl (cb_ge_f hc2) ?_
      refine ev_iconst (pc' := 13) (b := (1 : Int32)) rfl rfl rfl ?_
      refine ev_goto (pc' := 17) rfl rfl ?_
      subst h
      exact ev_zreturn rfl rfl rfl
/-! PartedLand$Cases.sideOfCase (73, 'I', 31, 13, 1): P -/
def fx_Cases_sideOfCase_b31 (N : Nat) (x1 : Int32) (x5 : Int32) (σ : am_S) : Option Int32 := (if x5 = (-1 : Int32) then am_g (am_in x1 10) <| (fx_Land_sideOf N (σ 74 x1.toNatClampNeg) σ).bind fun q3 => some q3 else some x5)
set_option maxRecDepth 100000 in
theorem fx_Cases_sideOfCase_b31_e {X : Nat} {xs : Nat → Int32} {d : Nat} {N : Nat} {x1 : Int32} {x5 : Int32} {w2 : Value} {w3 : Value} {σ : am_S} {o : Int32} (h : fx_Cases_sideOfCase_b31 N x1 x5 σ = some o) : am_Ev am_sh (am_exx X xs) (d + 5) mm_2 31 [.ref 73, .int x1, w2, w3, .ref 1, .int x5] [] σ (some (.int o)) σ := by
  unfold fx_Cases_sideOfCase_b31 at h
  refine ev_iload (pc' := 33) rfl rfl rfl ?_
  refine ev_iconst (pc' := 34) (b := (-1 : Int32)) rfl rfl rfl ?_
  rcases am_if h with ⟨hc1, h⟩ | ⟨hc1, h⟩
  · refine ev_ic_f (pc' := 37) rfl (by decide) rfl (cb_ne_f hc1) ?_
    refine ev_aload (pc' := 39) rfl rfl rfl ?_
    refine ev_aload_n (pc' := 40) rfl rfl rfl ?_
    refine ev_getfield (pc' := 43) (w := .ref 74) rfl rfl rfl rfl ?_
    refine ev_iload_n (pc' := 44) rfl rfl rfl ?_
    obtain ⟨hg2, h⟩ := am_g_some h
    refine ev_iaload (pc' := 45) rfl rfl rfl hg2 ?_
    refine am_bd h (fun q3 hq3 h => ?_)
    refine ev_call (mi := 16) (as := [.ref 1, .int (σ 74 x1.toNatClampNeg)]) (rest := []) rfl rfl (Nat.le_of_ble_eq_true rfl) (fx_Land_sideOf_e (d := d + 2) hq3) ?_
    show am_Ev _ _ _ _ 48 _ _ _ _ _
    refine ev_goto (pc' := 53) rfl rfl ?_
    obtain rfl := Option.some.inj h
    exact ev_ireturn rfl rfl
  · refine ev_ic_t (pc' := 51) rfl rfl (cb_ne_t hc1) ?_
    refine ev_iload (pc' := 53) rfl rfl rfl ?_
    obtain rfl := Option.some.inj h
    exact ev_ireturn rfl rfl
def fx_Cases_sideOfCase (N : Nat) (a1 : Int32) (σ : am_S) : Option Int32 := am_g (am_in a1 10) <| (if (σ 31 7) ≤ (σ 76 a1.toNatClampNeg) then fx_Cases_sideOfCase_b31 N a1 (-1 : Int32) σ else am_g (am_in a1 10) <| (fx_People_ownerBy N (σ 75 a1.toNatClampNeg) σ).bind fun q4 => fx_Cases_sideOfCase_b31 N a1 q4 σ)
set_option maxRecDepth 100000 in
theorem fx_Cases_sideOfCase_e {X : Nat} {xs : Nat → Int32} {d : Nat} {N : Nat} {a1 : Int32} {σ : am_S} {o : Int32} (h : fx_Cases_sideOfCase N a1 σ = some o) : am_Ev am_sh (am_exx X xs) (d + 5) mm_2 0 [.ref 73, .int a1, .ref 31, .ref 13, .ref 1, .null] [] σ (some (.int o)) σ := by
  unfold fx_Cases_sideOfCase at h
  refine ev_iconst (pc' := 1) (b := (-1 : Int32)) rfl rfl rfl ?_
  refine ev_istore (pc' := 3) (L' := [.ref 73, .int a1, .ref 31, .ref 13, .ref 1, .int (-1 : Int32)]) rfl rfl rfl rfl ?_
  refine ev_aload_n (pc' := 4) rfl rfl rfl ?_
  refine ev_getfield (pc' := 7) (w := .ref 76) rfl rfl rfl rfl ?_
  refine ev_iload_n (pc' := 8) rfl rfl rfl ?_
  obtain ⟨hg1, h⟩ := am_g_some h
  refine ev_iaload (pc' := 9) rfl rfl rfl hg1 ?_
  refine ev_aload_n (pc' := 10) rfl rfl rfl ?_
  refine ev_getfield (pc' := 13) (w := .int (σ 31 7)) rfl rfl rfl rfl ?_
  rcases am_if h with ⟨hc2, h⟩ | ⟨hc2, h⟩
  · refine ev_ic_t (pc' := 31) rfl rfl (cb_ge_t hc2) ?_
    exact fx_Cases_sideOfCase_b31_e h
  · refine ev_ic_f (pc' := 16) rfl (by decide) rfl (cb_ge_f hc2) ?_
    refine ev_aload_n (pc' := 17) rfl rfl rfl ?_
    refine ev_aload_n (pc' := 18) rfl rfl rfl ?_
    refine ev_aload_n (pc' := 19) rfl rfl rfl ?_
    refine ev_getfield (pc' := 22) (w := .ref 75) rfl rfl rfl rfl ?_
    refine ev_iload_n (pc' := 23) rfl rfl rfl ?_
    obtain ⟨hg3, h⟩ := am_g_some h
    refine ev_iaload (pc' := 24) rfl rfl rfl hg3 ?_
    refine ev_aload (pc' := 26) rfl rfl rfl ?_
    refine am_bd h (fun q4 hq4 h => ?_)
    refine ev_call (mi := 45) (as := [.ref 13, .ref 31, .int (σ 75 a1.toNatClampNeg), .ref 1]) (rest := []) rfl rfl (Nat.le_of_ble_eq_true rfl) (fx_People_ownerBy_e (d := d) hq4) ?_
    show am_Ev _ _ _ _ 29 _ _ _ _ _
    refine ev_istore (pc' := 31) (L' := [.ref 73, .int a1, .ref 31, .ref 13, .ref 1, .int q4]) rfl rfl rfl rfl ?_
    exact fx_Cases_sideOfCase_b31_e h
/-! PartedLand.court (0, 'I'): S -/
def fx_court (N : Nat) (a1 : Int32) (σ : am_S) : Option (Int32 × am_S) := (if (fx_Cases_hasCase a1 σ) = 0 then (fx_finding (-1000000001 : Int32) σ).bind fun q2 => some (q2.1, q2.2) else (fx_Cases_sideOfCase N a1 σ).bind fun q3 => some (q3, σ))
set_option maxRecDepth 100000 in
theorem fx_court_e {X : Nat} {xs : Nat → Int32} {d : Nat} {N : Nat} {a1 : Int32} {σ : am_S} {o : Int32 × am_S} (h : fx_court N a1 σ = some o) : am_Ev am_sh (am_exx X xs) (d + 6) mm_119 0 [.ref 0, .int a1] [] σ (some (.int o.1)) o.2 := by
  unfold fx_court at h
  refine ev_aload_n (pc' := 1) rfl rfl rfl ?_
  refine ev_getfield (pc' := 4) (w := .ref 73) rfl rfl rfl rfl ?_
  refine ev_iload_n (pc' := 5) rfl rfl rfl ?_
  refine ev_call (mi := 0) (as := [.ref 73, .int a1]) (rest := []) rfl rfl (Nat.le_of_ble_eq_true rfl) (fx_Cases_hasCase_e (d := d + 5) rfl) ?_
  show am_Ev _ _ _ _ 8 _ _ _ _ _
  rcases am_if h with ⟨hc1, h⟩ | ⟨hc1, h⟩
  · refine ev_if_f (pc' := 11) rfl (by decide) rfl (cb_ne_f hc1) ?_
    refine ev_aload_n (pc' := 12) rfl rfl rfl ?_
    refine ev_ldc (pc' := 14) (b := (-1000000001 : Int32)) rfl rfl rfl ?_
    refine am_bd h (fun q2 hq2 h => ?_)
    refine ev_call (mi := 129) (as := [.ref 0, .int (-1000000001 : Int32)]) (rest := []) rfl rfl (Nat.le_of_ble_eq_true rfl) (fx_finding_e (d := d + 5) hq2) ?_
    show am_Ev _ _ _ _ 17 _ _ _ _ _
    obtain rfl := Option.some.inj h
    exact ev_ireturn rfl rfl
  · refine ev_if_t (pc' := 18) rfl rfl (cb_ne_t hc1) ?_
    refine ev_aload_n (pc' := 19) rfl rfl rfl ?_
    refine ev_getfield (pc' := 22) (w := .ref 73) rfl rfl rfl rfl ?_
    refine ev_iload_n (pc' := 23) rfl rfl rfl ?_
    refine ev_aload_n (pc' := 24) rfl rfl rfl ?_
    refine ev_getfield (pc' := 27) (w := .ref 21) rfl rfl rfl rfl ?_
    refine ev_getfield (pc' := 30) (w := .ref 31) rfl rfl rfl rfl ?_
    refine ev_aload_n (pc' := 31) rfl rfl rfl ?_
    refine ev_getfield (pc' := 34) (w := .ref 13) rfl rfl rfl rfl ?_
    refine ev_aload_n (pc' := 35) rfl rfl rfl ?_
    refine ev_getfield (pc' := 38) (w := .ref 1) rfl rfl rfl rfl ?_
    refine am_bd h (fun q3 hq3 h => ?_)
    refine ev_call (mi := 2) (as := [.ref 73, .int a1, .ref 31, .ref 13, .ref 1]) (rest := []) rfl rfl (Nat.le_of_ble_eq_true rfl) (fx_Cases_sideOfCase_e (d := d) hq3) ?_
    show am_Ev _ _ _ _ 41 _ _ _ _ _
    obtain rfl := Option.some.inj h
    exact ev_ireturn rfl rfl
/-! PartedLand.waits (0, 'I'): S -/
def fx_waits_b51 (N : Nat) (σ : am_S) : Option (Int32 × am_S) := (fx_finding (-1000000002 : Int32) σ).bind fun q1 => some (q1.1, q1.2)
set_option maxRecDepth 100000 in
theorem fx_waits_b51_e {X : Nat} {xs : Nat → Int32} {d : Nat} {N : Nat} {w1 : Value} {w2 : Value} {w3 : Value} {σ : am_S} {o : Int32 × am_S} (h : fx_waits_b51 N σ = some o) : am_Ev am_sh (am_exx X xs) (d + 6) mm_120 51 [.ref 0, w1, w2, w3] [] σ (some (.int o.1)) o.2 := by
  unfold fx_waits_b51 at h
  refine ev_aload_n (pc' := 52) rfl rfl rfl ?_
  refine ev_ldc (pc' := 54) (b := (-1000000002 : Int32)) rfl rfl rfl ?_
  refine am_bd h (fun q1 hq1 h => ?_)
  refine ev_call (mi := 129) (as := [.ref 0, .int (-1000000002 : Int32)]) (rest := []) rfl rfl (Nat.le_of_ble_eq_true rfl) (fx_finding_e (d := d + 5) hq1) ?_
  show am_Ev _ _ _ _ 57 _ _ _ _ _
  obtain rfl := Option.some.inj h
  exact ev_ireturn rfl rfl
def fx_waits (N : Nat) (a1 : Int32) (σ : am_S) : Option (Int32 × am_S) := (if (fx_Cases_hasCase a1 σ) = 0 then (fx_finding (-1000000001 : Int32) σ).bind fun q2 => some (q2.1, q2.2) else am_g (am_in a1 10) <| (if (fx_Estate_hasThing (σ 77 a1.toNatClampNeg) σ) = 0 then fx_waits_b51 N σ else am_g (am_in (σ 77 a1.toNatClampNeg) 24) <| (if (σ 38 (σ 77 a1.toNatClampNeg).toNatClampNeg) = 0 then (fx_partThings N σ).bind fun q7 => (if (fx_Parting_isTooMany q7) = 0 then (fx_Cases_sideOfCase N a1 q7).bind fun q9 => (fx_Parting_sideOfThing (σ 77 a1.toNatClampNeg) q7).bind fun q10 => (if q10 = q9 then (fx_finding (-1000000002 : Int32) q7).bind fun q12 => some (q12.1, q12.2) else some ((σ 77 a1.toNatClampNeg), q7)) else (fx_finding (-1000000003 : Int32) q7).bind fun q13 => some (q13.1, q13.2)) else fx_waits_b51 N σ)))
set_option maxRecDepth 100000 in
theorem fx_waits_e {X : Nat} {xs : Nat → Int32} {d : Nat} {N : Nat} {a1 : Int32} {σ : am_S} {o : Int32 × am_S} (h : fx_waits N a1 σ = some o) : am_Ev am_sh (am_exx X xs) (d + 6) mm_120 0 [.ref 0, .int a1, .null, .null] [] σ (some (.int o.1)) o.2 := by
  unfold fx_waits at h
  refine ev_aload_n (pc' := 1) rfl rfl rfl ?_
  refine ev_getfield (pc' := 4) (w := .ref 73) rfl rfl rfl rfl ?_
  refine ev_iload_n (pc' := 5) rfl rfl rfl ?_
  refine ev_call (mi := 0) (as := [.ref 73, .int a1]) (rest := []) rfl rfl (Nat.le_of_ble_eq_true rfl) (fx_Cases_hasCase_e (d := d + 5) rfl) ?_
  show am_Ev _ _ _ _ 8 _ _ _ _ _
  rcases am_if h with ⟨hc1, h⟩ | ⟨hc1, h⟩
  · refine ev_if_f (pc' := 11) rfl (by decide) rfl (cb_ne_f hc1) ?_
    refine ev_aload_n (pc' := 12) rfl rfl rfl ?_
    refine ev_ldc (pc' := 14) (b := (-1000000001 : Int32)) rfl rfl rfl ?_
    refine am_bd h (fun q2 hq2 h => ?_)
    refine ev_call (mi := 129) (as := [.ref 0, .int (-1000000001 : Int32)]) (rest := []) rfl rfl (Nat.le_of_ble_eq_true rfl) (fx_finding_e (d := d + 5) hq2) ?_
    show am_Ev _ _ _ _ 17 _ _ _ _ _
    obtain rfl := Option.some.inj h
    exact ev_ireturn rfl rfl
  · refine ev_if_t (pc' := 18) rfl rfl (cb_ne_t hc1) ?_
    refine ev_aload_n (pc' := 19) rfl rfl rfl ?_
    refine ev_getfield (pc' := 22) (w := .ref 73) rfl rfl rfl rfl ?_
    refine ev_getfield (pc' := 25) (w := .ref 77) rfl rfl rfl rfl ?_
    refine ev_iload_n (pc' := 26) rfl rfl rfl ?_
    obtain ⟨hg3, h⟩ := am_g_some h
    refine ev_iaload (pc' := 27) rfl rfl rfl hg3 ?_
    refine ev_istore_n (pc' := 28) (L' := [.ref 0, .int a1, .int (σ 77 a1.toNatClampNeg), .null]) rfl rfl rfl rfl ?_
    refine ev_aload_n (pc' := 29) rfl rfl rfl ?_
    refine ev_getfield (pc' := 32) (w := .ref 34) rfl rfl rfl rfl ?_
    refine ev_iload_n (pc' := 33) rfl rfl rfl ?_
    refine ev_call (mi := 6) (as := [.ref 34, .int (σ 77 a1.toNatClampNeg)]) (rest := []) rfl rfl (Nat.le_of_ble_eq_true rfl) (fx_Estate_hasThing_e (d := d + 5) rfl) ?_
    show am_Ev _ _ _ _ 36 _ _ _ _ _
    rcases am_if h with ⟨hc4, h⟩ | ⟨hc4, h⟩
    · refine ev_if_t (pc' := 51) rfl rfl (cb_eq_t hc4) ?_
      exact fx_waits_b51_e h
    · refine ev_if_f (pc' := 39) rfl (by decide) rfl (cb_eq_f hc4) ?_
      refine ev_aload_n (pc' := 40) rfl rfl rfl ?_
      refine ev_getfield (pc' := 43) (w := .ref 34) rfl rfl rfl rfl ?_
      refine ev_getfield (pc' := 46) (w := .ref 38) rfl rfl rfl rfl ?_
      refine ev_iload_n (pc' := 47) rfl rfl rfl ?_
      obtain ⟨hg5, h⟩ := am_g_some h
      refine ev_baload (pc' := 48) rfl rfl rfl hg5 ?_
      rcases am_if h with ⟨hc6, h⟩ | ⟨hc6, h⟩
      · refine ev_if_t (pc' := 58) rfl rfl (cb_eq_t hc6) ?_
        refine ev_aload_n (pc' := 59) rfl rfl rfl ?_
        refine am_bd h (fun q7 hq7 h => ?_)
        refine ev_call (mi := 132) (as := [.ref 0]) (rest := []) rfl rfl (Nat.le_of_ble_eq_true rfl) (fx_partThings_e (d := d) hq7) ?_
        show am_Ev _ _ _ _ 62 _ _ _ _ _
        refine ev_aload_n (pc' := 63) rfl rfl rfl ?_
        refine ev_getfield (pc' := 66) (w := .ref 41) rfl rfl rfl rfl ?_
        refine ev_call (mi := 35) (as := [.ref 41]) (rest := []) rfl rfl (Nat.le_of_ble_eq_true rfl) (fx_Parting_isTooMany_e (d := d + 5) rfl) ?_
        show am_Ev _ _ _ _ 69 _ _ _ _ _
        rcases am_if h with ⟨hc8, h⟩ | ⟨hc8, h⟩
        · refine ev_if_t (pc' := 79) rfl rfl (cb_eq_t hc8) ?_
          refine ev_aload_n (pc' := 80) rfl rfl rfl ?_
          refine ev_getfield (pc' := 83) (w := .ref 73) rfl rfl rfl rfl ?_
          refine ev_iload_n (pc' := 84) rfl rfl rfl ?_
          refine ev_aload_n (pc' := 85) rfl rfl rfl ?_
          refine ev_getfield (pc' := 88) (w := .ref 21) rfl rfl rfl rfl ?_
          refine ev_getfield (pc' := 91) (w := .ref 31) rfl rfl rfl rfl ?_
          refine ev_aload_n (pc' := 92) rfl rfl rfl ?_
          refine ev_getfield (pc' := 95) (w := .ref 13) rfl rfl rfl rfl ?_
          refine ev_aload_n (pc' := 96) rfl rfl rfl ?_
          refine ev_getfield (pc' := 99) (w := .ref 1) rfl rfl rfl rfl ?_
          refine am_bd h (fun q9 hq9 h => ?_)
          refine ev_call (mi := 2) (as := [.ref 73, .int a1, .ref 31, .ref 13, .ref 1]) (rest := []) rfl rfl (Nat.le_of_ble_eq_true rfl) (fx_Cases_sideOfCase_e (d := d) hq9) ?_
          show am_Ev _ _ _ _ 102 _ _ _ _ _
          refine ev_istore_n (pc' := 103) (L' := [.ref 0, .int a1, .int (σ 77 a1.toNatClampNeg), .int q9]) rfl rfl rfl rfl ?_
          refine ev_aload_n (pc' := 104) rfl rfl rfl ?_
          refine ev_getfield (pc' := 107) (w := .ref 41) rfl rfl rfl rfl ?_
          refine ev_iload_n (pc' := 108) rfl rfl rfl ?_
          refine am_bd h (fun q10 hq10 h => ?_)
          refine ev_call (mi := 41) (as := [.ref 41, .int (σ 77 a1.toNatClampNeg)]) (rest := []) rfl rfl (Nat.le_of_ble_eq_true rfl) (fx_Parting_sideOfThing_e (d := d + 5) hq10) ?_
          show am_Ev _ _ _ _ 111 _ _ _ _ _
          refine ev_iload_n (pc' := 112) rfl rfl rfl ?_
          rcases am_if h with ⟨hc11, h⟩ | ⟨hc11, h⟩
          · refine ev_ic_f (pc' := 115) rfl (by decide) rfl (cb_ne_f hc11) ?_
            refine ev_aload_n (pc' := 116) rfl rfl rfl ?_
            refine ev_ldc (pc' := 118) (b := (-1000000002 : Int32)) rfl rfl rfl ?_
            refine am_bd h (fun q12 hq12 h => ?_)
            refine ev_call (mi := 129) (as := [.ref 0, .int (-1000000002 : Int32)]) (rest := []) rfl rfl (Nat.le_of_ble_eq_true rfl) (fx_finding_e (d := d + 5) hq12) ?_
            show am_Ev _ _ _ _ 121 _ _ _ _ _
            refine ev_goto (pc' := 125) rfl rfl ?_
            obtain rfl := Option.some.inj h
            exact ev_ireturn rfl rfl
          · refine ev_ic_t (pc' := 124) rfl rfl (cb_ne_t hc11) ?_
            refine ev_iload_n (pc' := 125) rfl rfl rfl ?_
            obtain rfl := Option.some.inj h
            exact ev_ireturn rfl rfl
        · refine ev_if_f (pc' := 72) rfl (by decide) rfl (cb_eq_f hc8) ?_
          refine ev_aload_n (pc' := 73) rfl rfl rfl ?_
          refine ev_ldc (pc' := 75) (b := (-1000000003 : Int32)) rfl rfl rfl ?_
          refine am_bd h (fun q13 hq13 h => ?_)
          refine ev_call (mi := 129) (as := [.ref 0, .int (-1000000003 : Int32)]) (rest := []) rfl rfl (Nat.le_of_ble_eq_true rfl) (fx_finding_e (d := d + 5) hq13) ?_
          show am_Ev _ _ _ _ 78 _ _ _ _ _
          obtain rfl := Option.some.inj h
          exact ev_ireturn rfl rfl
      · refine ev_if_f (pc' := 51) rfl (by decide) rfl (cb_eq_f hc6) ?_
        exact fx_waits_b51_e h
/-! PartedLand$Tasks.addTask (78, 'I'): S -/
def fx_Tasks_addTask (a1 : Int32) (σ : am_S) : Option (Int32 × am_S) := am_g (am_in (σ 78 4) 9) <| some ((((σ 78 4) + (1 : Int32)) - (1 : Int32)), (am_up (am_up σ 79 (σ 78 4).toNatClampNeg a1) 78 4 ((σ 78 4) + (1 : Int32))))
set_option maxRecDepth 100000 in
theorem fx_Tasks_addTask_e {X : Nat} {xs : Nat → Int32} {d : Nat} {a1 : Int32} {σ : am_S} {o : Int32 × am_S} (h : fx_Tasks_addTask a1 σ = some o) : am_Ev am_sh (am_exx X xs) (d + 0) mm_53 0 [.ref 78, .int a1] [] σ (some (.int o.1)) o.2 := by
  unfold fx_Tasks_addTask at h
  refine ev_aload_n (pc' := 1) rfl rfl rfl ?_
  refine ev_getfield (pc' := 4) (w := .ref 79) rfl rfl rfl rfl ?_
  refine ev_aload_n (pc' := 5) rfl rfl rfl ?_
  refine ev_getfield (pc' := 8) (w := .int (σ 78 4)) rfl rfl rfl rfl ?_
  refine ev_iload_n (pc' := 9) rfl rfl rfl ?_
  obtain ⟨hg1, h⟩ := am_g_some h
  refine ev_iastore (pc' := 10) rfl rfl rfl hg1 ?_
  refine ev_aload_n (pc' := 11) rfl rfl rfl ?_
  refine ev_dup (pc' := 12) rfl rfl ?_
  refine ev_getfield (pc' := 15) (w := .int (σ 78 4)) rfl rfl rfl rfl ?_
  refine ev_iconst (pc' := 16) (b := (1 : Int32)) rfl rfl rfl ?_
  refine ev_iadd (pc' := 17) rfl rfl ?_
  refine ev_putfield (pc' := 20) (ci := 6) (f := 4) (z := 0) rfl rfl rfl rfl rfl ?_
  refine ev_aload_n (pc' := 21) rfl rfl rfl ?_
  refine ev_getfield (pc' := 24) (w := .int ((σ 78 4) + (1 : Int32))) rfl rfl rfl rfl ?_
  refine ev_iconst (pc' := 25) (b := (1 : Int32)) rfl rfl rfl ?_
  refine ev_isub (pc' := 26) rfl rfl ?_
  obtain rfl := Option.some.inj h
  exact ev_ireturn rfl rfl
/-! PartedLand.task (0, 'I'): S -/
def fx_task_b12 (σ : am_S) : Option (Int32 × am_S) := (fx_finding (-1000000001 : Int32) σ).bind fun q1 => some (q1.1, q1.2)
set_option maxRecDepth 100000 in
theorem fx_task_b12_e {X : Nat} {xs : Nat → Int32} {d : Nat} {w1 : Value} {σ : am_S} {o : Int32 × am_S} (h : fx_task_b12 σ = some o) : am_Ev am_sh (am_exx X xs) (d + 1) mm_121 12 [.ref 0, w1] [] σ (some (.int o.1)) o.2 := by
  unfold fx_task_b12 at h
  refine ev_aload_n (pc' := 13) rfl rfl rfl ?_
  refine ev_ldc (pc' := 15) (b := (-1000000001 : Int32)) rfl rfl rfl ?_
  refine am_bd h (fun q1 hq1 h => ?_)
  refine ev_call (mi := 129) (as := [.ref 0, .int (-1000000001 : Int32)]) (rest := []) rfl rfl (Nat.le_of_ble_eq_true rfl) (fx_finding_e (d := d) hq1) ?_
  show am_Ev _ _ _ _ 18 _ _ _ _ _
  obtain rfl := Option.some.inj h
  exact ev_ireturn rfl rfl
def fx_task (a1 : Int32) (σ : am_S) : Option (Int32 × am_S) := (if a1 < (1 : Int32) then fx_task_b12 σ else (if a1 ≤ (200 : Int32) then (if (σ 78 4) < (9 : Int32) then (fx_Tasks_addTask a1 σ).bind fun q4 => some (q4.1, q4.2) else (fx_finding (-1000000004 : Int32) σ).bind fun q5 => some (q5.1, q5.2)) else fx_task_b12 σ))
set_option maxRecDepth 100000 in
theorem fx_task_e {X : Nat} {xs : Nat → Int32} {d : Nat} {a1 : Int32} {σ : am_S} {o : Int32 × am_S} (h : fx_task a1 σ = some o) : am_Ev am_sh (am_exx X xs) (d + 1) mm_121 0 [.ref 0, .int a1] [] σ (some (.int o.1)) o.2 := by
  unfold fx_task at h
  refine ev_iload_n (pc' := 1) rfl rfl rfl ?_
  refine ev_iconst (pc' := 2) (b := (1 : Int32)) rfl rfl rfl ?_
  rcases am_if h with ⟨hc1, h⟩ | ⟨hc1, h⟩
  · refine ev_ic_t (pc' := 12) rfl rfl (cb_lt_t hc1) ?_
    exact fx_task_b12_e h
  · refine ev_ic_f (pc' := 5) rfl (by decide) rfl (cb_lt_f hc1) ?_
    refine ev_iload_n (pc' := 6) rfl rfl rfl ?_
    refine ev_sipush (pc' := 9) (b := (200 : Int32)) rfl rfl rfl ?_
    rcases am_if h with ⟨hc2, h⟩ | ⟨hc2, h⟩
    · refine ev_ic_t (pc' := 19) rfl rfl (cb_le_t hc2) ?_
      refine ev_aload_n (pc' := 20) rfl rfl rfl ?_
      refine ev_getfield (pc' := 23) (w := .ref 78) rfl rfl rfl rfl ?_
      refine ev_getfield (pc' := 26) (w := .int (σ 78 4)) rfl rfl rfl rfl ?_
      refine ev_bipush (pc' := 28) (b := (9 : Int32)) rfl rfl rfl ?_
      rcases am_if h with ⟨hc3, h⟩ | ⟨hc3, h⟩
      · refine ev_ic_t (pc' := 38) rfl rfl (cb_lt_t hc3) ?_
        refine ev_aload_n (pc' := 39) rfl rfl rfl ?_
        refine ev_getfield (pc' := 42) (w := .ref 78) rfl rfl rfl rfl ?_
        refine ev_iload_n (pc' := 43) rfl rfl rfl ?_
        refine am_bd h (fun q4 hq4 h => ?_)
        refine ev_call (mi := 53) (as := [.ref 78, .int a1]) (rest := []) rfl rfl (Nat.le_of_ble_eq_true rfl) (fx_Tasks_addTask_e (d := d) hq4) ?_
        show am_Ev _ _ _ _ 46 _ _ _ _ _
        obtain rfl := Option.some.inj h
        exact ev_ireturn rfl rfl
      · refine ev_ic_f (pc' := 31) rfl (by decide) rfl (cb_lt_f hc3) ?_
        refine ev_aload_n (pc' := 32) rfl rfl rfl ?_
        refine ev_ldc (pc' := 34) (b := (-1000000004 : Int32)) rfl rfl rfl ?_
        refine am_bd h (fun q5 hq5 h => ?_)
        refine ev_call (mi := 129) (as := [.ref 0, .int (-1000000004 : Int32)]) (rest := []) rfl rfl (Nat.le_of_ble_eq_true rfl) (fx_finding_e (d := d) hq5) ?_
        show am_Ev _ _ _ _ 37 _ _ _ _ _
        obtain rfl := Option.some.inj h
        exact ev_ireturn rfl rfl
    · refine ev_ic_f (pc' := 12) rfl (by decide) rfl (cb_le_f hc2) ?_
      exact fx_task_b12_e h
/-! PartedLand$Tasks.hasTask (78, 'I'): T -/
def fx_Tasks_hasTask (a1 : Int32) (σ : am_S) : Int32 := (if a1 < 0 then (0 : Int32) else (if (σ 78 4) ≤ a1 then (0 : Int32) else (1 : Int32)))
set_option maxRecDepth 100000 in
theorem fx_Tasks_hasTask_e {X : Nat} {xs : Nat → Int32} {d : Nat} {a1 : Int32} {σ : am_S} {o : Int32} (h : fx_Tasks_hasTask a1 σ = o) : am_Ev am_sh (am_exx X xs) (d + 0) mm_52 0 [.ref 78, .int a1] [] σ (some (.int o)) σ := by
  unfold fx_Tasks_hasTask at h
  refine ev_iload_n (pc' := 1) rfl rfl rfl ?_
  rcases am_if h with ⟨hc1, h⟩ | ⟨hc1, h⟩
  · refine ev_if_t (pc' := 16) rfl rfl (cb_lt_t hc1) ?_
    refine ev_iconst (pc' := 17) (b := (0 : Int32)) rfl rfl rfl ?_
    subst h
    exact ev_zreturn rfl rfl rfl
  · refine ev_if_f (pc' := 4) rfl (by decide) rfl (cb_lt_f hc1) ?_
    refine ev_iload_n (pc' := 5) rfl rfl rfl ?_
    refine ev_aload_n (pc' := 6) rfl rfl rfl ?_
    refine ev_getfield (pc' := 9) (w := .int (σ 78 4)) rfl rfl rfl rfl ?_
    rcases am_if h with ⟨hc2, h⟩ | ⟨hc2, h⟩
    · refine ev_ic_t (pc' := 16) rfl rfl (cb_ge_t hc2) ?_
      refine ev_iconst (pc' := 17) (b := (0 : Int32)) rfl rfl rfl ?_
      subst h
      exact ev_zreturn rfl rfl rfl
    · refine ev_ic_f (pc' := 12) rfl (by decide) rfl (cb_ge_f hc2) ?_
      refine ev_iconst (pc' := 13) (b := (1 : Int32)) rfl rfl rfl ?_
      refine ev_goto (pc' := 17) rfl rfl ?_
      subst h
      exact ev_zreturn rfl rfl rfl
/-! PartedLand$Tasks.isAhead (78, 'I', 'I'): P -/
def fx_Tasks_isAhead (a1 : Int32) (a2 : Int32) (σ : am_S) : Option Int32 := am_g (am_in a2 9) <| (if ((σ 80 a2.toNatClampNeg) &&& ((1 : Int32) <<< (a1 &&& 31))) = 0 then some (0 : Int32) else some (1 : Int32))
set_option maxRecDepth 100000 in
theorem fx_Tasks_isAhead_e {X : Nat} {xs : Nat → Int32} {d : Nat} {a1 : Int32} {a2 : Int32} {σ : am_S} {o : Int32} (h : fx_Tasks_isAhead a1 a2 σ = some o) : am_Ev am_sh (am_exx X xs) (d + 0) mm_54 0 [.ref 78, .int a1, .int a2] [] σ (some (.int o)) σ := by
  unfold fx_Tasks_isAhead at h
  refine ev_aload_n (pc' := 1) rfl rfl rfl ?_
  refine ev_getfield (pc' := 4) (w := .ref 80) rfl rfl rfl rfl ?_
  refine ev_iload_n (pc' := 5) rfl rfl rfl ?_
  obtain ⟨hg1, h⟩ := am_g_some h
  refine ev_iaload (pc' := 6) rfl rfl rfl hg1 ?_
  refine ev_iconst (pc' := 7) (b := (1 : Int32)) rfl rfl rfl ?_
  refine ev_iload_n (pc' := 8) rfl rfl rfl ?_
  refine ev_ishl (pc' := 9) rfl rfl ?_
  refine ev_iand (pc' := 10) rfl rfl ?_
  rcases am_if h with ⟨hc2, h⟩ | ⟨hc2, h⟩
  · refine ev_if_t (pc' := 17) rfl rfl (cb_eq_t hc2) ?_
    refine ev_iconst (pc' := 18) (b := (0 : Int32)) rfl rfl rfl ?_
    obtain rfl := Option.some.inj h
    exact ev_zreturn rfl rfl rfl
  · refine ev_if_f (pc' := 13) rfl (by decide) rfl (cb_eq_f hc2) ?_
    refine ev_iconst (pc' := 14) (b := (1 : Int32)) rfl rfl rfl ?_
    refine ev_goto (pc' := 18) rfl rfl ?_
    obtain rfl := Option.some.inj h
    exact ev_zreturn rfl rfl rfl
/-! PartedLand$Tasks.putAhead (78, 'I', 'I'): S -/
def fx_Tasks_putAhead (a1 : Int32) (a2 : Int32) (σ : am_S) : Option am_S := am_g (am_in a2 9) <| am_g (am_in a2 9) <| some (am_up σ 80 a2.toNatClampNeg ((σ 80 a2.toNatClampNeg) ||| ((1 : Int32) <<< (a1 &&& 31))))
set_option maxRecDepth 100000 in
theorem fx_Tasks_putAhead_e {X : Nat} {xs : Nat → Int32} {d : Nat} {a1 : Int32} {a2 : Int32} {σ : am_S} {o : am_S} (h : fx_Tasks_putAhead a1 a2 σ = some o) : am_Ev am_sh (am_exx X xs) (d + 0) mm_55 0 [.ref 78, .int a1, .int a2] [] σ (none) o := by
  unfold fx_Tasks_putAhead at h
  refine ev_aload_n (pc' := 1) rfl rfl rfl ?_
  refine ev_getfield (pc' := 4) (w := .ref 80) rfl rfl rfl rfl ?_
  refine ev_iload_n (pc' := 5) rfl rfl rfl ?_
  refine ev_dup2 (pc' := 6) rfl rfl ?_
  obtain ⟨hg1, h⟩ := am_g_some h
  refine ev_iaload (pc' := 7) rfl rfl rfl hg1 ?_
  refine ev_iconst (pc' := 8) (b := (1 : Int32)) rfl rfl rfl ?_
  refine ev_iload_n (pc' := 9) rfl rfl rfl ?_
  refine ev_ishl (pc' := 10) rfl rfl ?_
  refine ev_ior (pc' := 11) rfl rfl ?_
  obtain ⟨hg2, h⟩ := am_g_some h
  refine ev_iastore (pc' := 12) rfl rfl rfl hg2 ?_
  obtain rfl := Option.some.inj h
  exact ev_return rfl rfl
/-! PartedLand.ahead (0, 'I', 'I'): S -/
def fx_ahead_b27 (σ : am_S) : Option (Int32 × am_S) := (fx_finding (-1000000001 : Int32) σ).bind fun q1 => some (q1.1, q1.2)
set_option maxRecDepth 100000 in
theorem fx_ahead_b27_e {X : Nat} {xs : Nat → Int32} {d : Nat} {w1 : Value} {w2 : Value} {σ : am_S} {o : Int32 × am_S} (h : fx_ahead_b27 σ = some o) : am_Ev am_sh (am_exx X xs) (d + 1) mm_122 27 [.ref 0, w1, w2] [] σ (some (.int o.1)) o.2 := by
  unfold fx_ahead_b27 at h
  refine ev_aload_n (pc' := 28) rfl rfl rfl ?_
  refine ev_ldc (pc' := 30) (b := (-1000000001 : Int32)) rfl rfl rfl ?_
  refine am_bd h (fun q1 hq1 h => ?_)
  refine ev_call (mi := 129) (as := [.ref 0, .int (-1000000001 : Int32)]) (rest := []) rfl rfl (Nat.le_of_ble_eq_true rfl) (fx_finding_e (d := d) hq1) ?_
  show am_Ev _ _ _ _ 33 _ _ _ _ _
  obtain rfl := Option.some.inj h
  exact ev_ireturn rfl rfl
def fx_ahead (a1 : Int32) (a2 : Int32) (σ : am_S) : Option (Int32 × am_S) := (if (fx_Tasks_hasTask a1 σ) = 0 then fx_ahead_b27 σ else (if (fx_Tasks_hasTask a2 σ) = 0 then fx_ahead_b27 σ else (if a1 = a2 then fx_ahead_b27 σ else (fx_Tasks_isAhead a1 a2 σ).bind fun q4 => (if q4 = 0 then (fx_Tasks_putAhead a1 a2 σ).bind fun q6 => some ((1 : Int32), q6) else (fx_finding (-1000000003 : Int32) σ).bind fun q7 => some (q7.1, q7.2)))))
set_option maxRecDepth 100000 in
theorem fx_ahead_e {X : Nat} {xs : Nat → Int32} {d : Nat} {a1 : Int32} {a2 : Int32} {σ : am_S} {o : Int32 × am_S} (h : fx_ahead a1 a2 σ = some o) : am_Ev am_sh (am_exx X xs) (d + 1) mm_122 0 [.ref 0, .int a1, .int a2] [] σ (some (.int o.1)) o.2 := by
  unfold fx_ahead at h
  refine ev_aload_n (pc' := 1) rfl rfl rfl ?_
  refine ev_getfield (pc' := 4) (w := .ref 78) rfl rfl rfl rfl ?_
  refine ev_iload_n (pc' := 5) rfl rfl rfl ?_
  refine ev_call (mi := 52) (as := [.ref 78, .int a1]) (rest := []) rfl rfl (Nat.le_of_ble_eq_true rfl) (fx_Tasks_hasTask_e (d := d) rfl) ?_
  show am_Ev _ _ _ _ 8 _ _ _ _ _
  rcases am_if h with ⟨hc1, h⟩ | ⟨hc1, h⟩
  · refine ev_if_t (pc' := 27) rfl rfl (cb_eq_t hc1) ?_
    exact fx_ahead_b27_e h
  · refine ev_if_f (pc' := 11) rfl (by decide) rfl (cb_eq_f hc1) ?_
    refine ev_aload_n (pc' := 12) rfl rfl rfl ?_
    refine ev_getfield (pc' := 15) (w := .ref 78) rfl rfl rfl rfl ?_
    refine ev_iload_n (pc' := 16) rfl rfl rfl ?_
    refine ev_call (mi := 52) (as := [.ref 78, .int a2]) (rest := []) rfl rfl (Nat.le_of_ble_eq_true rfl) (fx_Tasks_hasTask_e (d := d) rfl) ?_
    show am_Ev _ _ _ _ 19 _ _ _ _ _
    rcases am_if h with ⟨hc2, h⟩ | ⟨hc2, h⟩
    · refine ev_if_t (pc' := 27) rfl rfl (cb_eq_t hc2) ?_
      exact fx_ahead_b27_e h
    · refine ev_if_f (pc' := 22) rfl (by decide) rfl (cb_eq_f hc2) ?_
      refine ev_iload_n (pc' := 23) rfl rfl rfl ?_
      refine ev_iload_n (pc' := 24) rfl rfl rfl ?_
      rcases am_if h with ⟨hc3, h⟩ | ⟨hc3, h⟩
      · refine ev_ic_f (pc' := 27) rfl (by decide) rfl (cb_ne_f hc3) ?_
        exact fx_ahead_b27_e h
      · refine ev_ic_t (pc' := 34) rfl rfl (cb_ne_t hc3) ?_
        refine ev_aload_n (pc' := 35) rfl rfl rfl ?_
        refine ev_getfield (pc' := 38) (w := .ref 78) rfl rfl rfl rfl ?_
        refine ev_iload_n (pc' := 39) rfl rfl rfl ?_
        refine ev_iload_n (pc' := 40) rfl rfl rfl ?_
        refine am_bd h (fun q4 hq4 h => ?_)
        refine ev_call (mi := 54) (as := [.ref 78, .int a1, .int a2]) (rest := []) rfl rfl (Nat.le_of_ble_eq_true rfl) (fx_Tasks_isAhead_e (d := d) hq4) ?_
        show am_Ev _ _ _ _ 43 _ _ _ _ _
        rcases am_if h with ⟨hc5, h⟩ | ⟨hc5, h⟩
        · refine ev_if_t (pc' := 53) rfl rfl (cb_eq_t hc5) ?_
          refine ev_aload_n (pc' := 54) rfl rfl rfl ?_
          refine ev_getfield (pc' := 57) (w := .ref 78) rfl rfl rfl rfl ?_
          refine ev_iload_n (pc' := 58) rfl rfl rfl ?_
          refine ev_iload_n (pc' := 59) rfl rfl rfl ?_
          refine am_bd h (fun q6 hq6 h => ?_)
          refine ev_call (mi := 55) (as := [.ref 78, .int a1, .int a2]) (rest := []) rfl rfl (Nat.le_of_ble_eq_true rfl) (fx_Tasks_putAhead_e (d := d) hq6) ?_
          show am_Ev _ _ _ _ 62 _ _ _ _ _
          refine ev_iconst (pc' := 63) (b := (1 : Int32)) rfl rfl rfl ?_
          obtain rfl := Option.some.inj h
          exact ev_ireturn rfl rfl
        · refine ev_if_f (pc' := 46) rfl (by decide) rfl (cb_eq_f hc5) ?_
          refine ev_aload_n (pc' := 47) rfl rfl rfl ?_
          refine ev_ldc (pc' := 49) (b := (-1000000003 : Int32)) rfl rfl rfl ?_
          refine am_bd h (fun q7 hq7 h => ?_)
          refine ev_call (mi := 129) (as := [.ref 0, .int (-1000000003 : Int32)]) (rest := []) rfl rfl (Nat.le_of_ble_eq_true rfl) (fx_finding_e (d := d) hq7) ?_
          show am_Ev _ _ _ _ 52 _ _ _ _ _
          obtain rfl := Option.some.inj h
          exact ev_ireturn rfl rfl
/-! PartedLand$Land.addEdge (1, 'I', 'I', 'I', 'I'): S -/
def fx_Land_addEdge (a1 : Int32) (a2 : Int32) (a3 : Int32) (a4 : Int32) (σ : am_S) : Option (Int32 × am_S) := am_g (am_in (σ 1 12) 30) <| am_g (am_in (σ 1 12) 30) <| am_g (am_in (σ 1 12) 30) <| am_g (am_bo a4) <| am_g (am_in (σ 1 12) 30) <| some (((σ 1 12) + (1 : Int32)), (am_up (am_up (am_up (am_up (am_up σ 6 (σ 1 12).toNatClampNeg a1) 7 (σ 1 12).toNatClampNeg a2) 8 (σ 1 12).toNatClampNeg a3) 9 (σ 1 12).toNatClampNeg a4) 1 12 ((σ 1 12) + (1 : Int32))))
set_option maxRecDepth 100000 in
theorem fx_Land_addEdge_e {X : Nat} {xs : Nat → Int32} {d : Nat} {a1 : Int32} {a2 : Int32} {a3 : Int32} {a4 : Int32} {σ : am_S} {o : Int32 × am_S} (h : fx_Land_addEdge a1 a2 a3 a4 σ = some o) : am_Ev am_sh (am_exx X xs) (d + 0) mm_29 0 [.ref 1, .int a1, .int a2, .int a3, .int a4] [] σ (some (.int o.1)) o.2 := by
  unfold fx_Land_addEdge at h
  refine ev_aload_n (pc' := 1) rfl rfl rfl ?_
  refine ev_getfield (pc' := 4) (w := .ref 6) rfl rfl rfl rfl ?_
  refine ev_aload_n (pc' := 5) rfl rfl rfl ?_
  refine ev_getfield (pc' := 8) (w := .int (σ 1 12)) rfl rfl rfl rfl ?_
  refine ev_iload_n (pc' := 9) rfl rfl rfl ?_
  obtain ⟨hg1, h⟩ := am_g_some h
  refine ev_iastore (pc' := 10) rfl rfl rfl hg1 ?_
  refine ev_aload_n (pc' := 11) rfl rfl rfl ?_
  refine ev_getfield (pc' := 14) (w := .ref 7) rfl rfl rfl rfl ?_
  refine ev_aload_n (pc' := 15) rfl rfl rfl ?_
  refine ev_getfield (pc' := 18) (w := .int (σ 1 12)) rfl rfl rfl rfl ?_
  refine ev_iload_n (pc' := 19) rfl rfl rfl ?_
  obtain ⟨hg2, h⟩ := am_g_some h
  refine ev_iastore (pc' := 20) rfl rfl rfl hg2 ?_
  refine ev_aload_n (pc' := 21) rfl rfl rfl ?_
  refine ev_getfield (pc' := 24) (w := .ref 8) rfl rfl rfl rfl ?_
  refine ev_aload_n (pc' := 25) rfl rfl rfl ?_
  refine ev_getfield (pc' := 28) (w := .int (σ 1 12)) rfl rfl rfl rfl ?_
  refine ev_iload_n (pc' := 29) rfl rfl rfl ?_
  obtain ⟨hg3, h⟩ := am_g_some h
  refine ev_iastore (pc' := 30) rfl rfl rfl hg3 ?_
  refine ev_aload_n (pc' := 31) rfl rfl rfl ?_
  refine ev_getfield (pc' := 34) (w := .ref 9) rfl rfl rfl rfl ?_
  refine ev_aload_n (pc' := 35) rfl rfl rfl ?_
  refine ev_getfield (pc' := 38) (w := .int (σ 1 12)) rfl rfl rfl rfl ?_
  refine ev_iload (pc' := 40) rfl rfl rfl ?_
  obtain ⟨hb4, h⟩ := am_g_some h
  obtain ⟨hg4, h⟩ := am_g_some h
  refine ev_bastore (pc' := 41) rfl rfl rfl hb4 hg4 ?_
  refine ev_aload_n (pc' := 42) rfl rfl rfl ?_
  refine ev_dup (pc' := 43) rfl rfl ?_
  refine ev_getfield (pc' := 46) (w := .int (σ 1 12)) rfl rfl rfl rfl ?_
  refine ev_iconst (pc' := 47) (b := (1 : Int32)) rfl rfl rfl ?_
  refine ev_iadd (pc' := 48) rfl rfl ?_
  refine ev_putfield (pc' := 51) (ci := 3) (f := 12) (z := 0) rfl rfl rfl rfl rfl ?_
  refine ev_aload_n (pc' := 52) rfl rfl rfl ?_
  refine ev_getfield (pc' := 55) (w := .int ((σ 1 12) + (1 : Int32))) rfl rfl rfl rfl ?_
  obtain rfl := Option.some.inj h
  exact ev_ireturn rfl rfl
/-! PartedLand.edge (0, 'I', 'I', 'I', 'I'): S -/
def fx_edge_b27 (σ : am_S) : Option (Int32 × am_S) := (fx_finding (-1000000001 : Int32) σ).bind fun q1 => some (q1.1, q1.2)
set_option maxRecDepth 100000 in
theorem fx_edge_b27_e {X : Nat} {xs : Nat → Int32} {d : Nat} {w1 : Value} {w2 : Value} {w3 : Value} {w4 : Value} {σ : am_S} {o : Int32 × am_S} (h : fx_edge_b27 σ = some o) : am_Ev am_sh (am_exx X xs) (d + 1) mm_123 27 [.ref 0, w1, w2, w3, w4] [] σ (some (.int o.1)) o.2 := by
  unfold fx_edge_b27 at h
  refine ev_aload_n (pc' := 28) rfl rfl rfl ?_
  refine ev_ldc (pc' := 30) (b := (-1000000001 : Int32)) rfl rfl rfl ?_
  refine am_bd h (fun q1 hq1 h => ?_)
  refine ev_call (mi := 129) (as := [.ref 0, .int (-1000000001 : Int32)]) (rest := []) rfl rfl (Nat.le_of_ble_eq_true rfl) (fx_finding_e (d := d) hq1) ?_
  show am_Ev _ _ _ _ 33 _ _ _ _ _
  obtain rfl := Option.some.inj h
  exact ev_ireturn rfl rfl
def fx_edge_b53 (σ : am_S) : Option (Int32 × am_S) := (fx_finding (-1000000001 : Int32) σ).bind fun q1 => some (q1.1, q1.2)
set_option maxRecDepth 100000 in
theorem fx_edge_b53_e {X : Nat} {xs : Nat → Int32} {d : Nat} {w1 : Value} {w2 : Value} {w3 : Value} {w4 : Value} {σ : am_S} {o : Int32 × am_S} (h : fx_edge_b53 σ = some o) : am_Ev am_sh (am_exx X xs) (d + 1) mm_123 53 [.ref 0, w1, w2, w3, w4] [] σ (some (.int o.1)) o.2 := by
  unfold fx_edge_b53 at h
  refine ev_aload_n (pc' := 54) rfl rfl rfl ?_
  refine ev_ldc (pc' := 56) (b := (-1000000001 : Int32)) rfl rfl rfl ?_
  refine am_bd h (fun q1 hq1 h => ?_)
  refine ev_call (mi := 129) (as := [.ref 0, .int (-1000000001 : Int32)]) (rest := []) rfl rfl (Nat.le_of_ble_eq_true rfl) (fx_finding_e (d := d) hq1) ?_
  show am_Ev _ _ _ _ 59 _ _ _ _ _
  obtain rfl := Option.some.inj h
  exact ev_ireturn rfl rfl
def fx_edge_b97 (s0 : Int32) (s1 : Int32) (s2 : Int32) (s3 : Int32) (σ : am_S) : Option (Int32 × am_S) := (fx_Land_addEdge s3 s2 s1 s0 σ).bind fun q1 => some (q1.1, q1.2)
set_option maxRecDepth 100000 in
theorem fx_edge_b97_e {X : Nat} {xs : Nat → Int32} {d : Nat} {s0 : Int32} {s1 : Int32} {s2 : Int32} {s3 : Int32} {w0 : Value} {w1 : Value} {w2 : Value} {w3 : Value} {w4 : Value} {σ : am_S} {o : Int32 × am_S} (h : fx_edge_b97 s0 s1 s2 s3 σ = some o) : am_Ev am_sh (am_exx X xs) (d + 1) mm_123 97 [w0, w1, w2, w3, w4] [.int s0, .int s1, .int s2, .int s3, .ref 1] σ (some (.int o.1)) o.2 := by
  unfold fx_edge_b97 at h
  refine am_bd h (fun q1 hq1 h => ?_)
  refine ev_call (mi := 29) (as := [.ref 1, .int s3, .int s2, .int s1, .int s0]) (rest := []) rfl rfl (Nat.le_of_ble_eq_true rfl) (fx_Land_addEdge_e (d := d) hq1) ?_
  show am_Ev _ _ _ _ 100 _ _ _ _ _
  obtain rfl := Option.some.inj h
  exact ev_ireturn rfl rfl
def fx_edge (a1 : Int32) (a2 : Int32) (a3 : Int32) (a4 : Int32) (σ : am_S) : Option (Int32 × am_S) := (if (fx_Land_hasParish a1 σ) = 0 then fx_edge_b27 σ else (if (fx_Land_hasParish a2 σ) = 0 then fx_edge_b27 σ else (if a1 = a2 then fx_edge_b27 σ else (if a3 < (1 : Int32) then fx_edge_b53 σ else (if (9 : Int32) < a3 then fx_edge_b53 σ else (if (fx_isZeroOrOne a4 σ) = 0 then fx_edge_b53 σ else (if (σ 1 12) < (30 : Int32) then (if a4 = (1 : Int32) then fx_edge_b97 (1 : Int32) a3 a2 a1 σ else fx_edge_b97 (0 : Int32) a3 a2 a1 σ) else (fx_finding (-1000000004 : Int32) σ).bind fun q9 => some (q9.1, q9.2))))))))
set_option maxRecDepth 100000 in
theorem fx_edge_e {X : Nat} {xs : Nat → Int32} {d : Nat} {a1 : Int32} {a2 : Int32} {a3 : Int32} {a4 : Int32} {σ : am_S} {o : Int32 × am_S} (h : fx_edge a1 a2 a3 a4 σ = some o) : am_Ev am_sh (am_exx X xs) (d + 1) mm_123 0 [.ref 0, .int a1, .int a2, .int a3, .int a4] [] σ (some (.int o.1)) o.2 := by
  unfold fx_edge at h
  refine ev_aload_n (pc' := 1) rfl rfl rfl ?_
  refine ev_getfield (pc' := 4) (w := .ref 1) rfl rfl rfl rfl ?_
  refine ev_iload_n (pc' := 5) rfl rfl rfl ?_
  refine ev_call (mi := 27) (as := [.ref 1, .int a1]) (rest := []) rfl rfl (Nat.le_of_ble_eq_true rfl) (fx_Land_hasParish_e (d := d) rfl) ?_
  show am_Ev _ _ _ _ 8 _ _ _ _ _
  rcases am_if h with ⟨hc1, h⟩ | ⟨hc1, h⟩
  · refine ev_if_t (pc' := 27) rfl rfl (cb_eq_t hc1) ?_
    exact fx_edge_b27_e h
  · refine ev_if_f (pc' := 11) rfl (by decide) rfl (cb_eq_f hc1) ?_
    refine ev_aload_n (pc' := 12) rfl rfl rfl ?_
    refine ev_getfield (pc' := 15) (w := .ref 1) rfl rfl rfl rfl ?_
    refine ev_iload_n (pc' := 16) rfl rfl rfl ?_
    refine ev_call (mi := 27) (as := [.ref 1, .int a2]) (rest := []) rfl rfl (Nat.le_of_ble_eq_true rfl) (fx_Land_hasParish_e (d := d) rfl) ?_
    show am_Ev _ _ _ _ 19 _ _ _ _ _
    rcases am_if h with ⟨hc2, h⟩ | ⟨hc2, h⟩
    · refine ev_if_t (pc' := 27) rfl rfl (cb_eq_t hc2) ?_
      exact fx_edge_b27_e h
    · refine ev_if_f (pc' := 22) rfl (by decide) rfl (cb_eq_f hc2) ?_
      refine ev_iload_n (pc' := 23) rfl rfl rfl ?_
      refine ev_iload_n (pc' := 24) rfl rfl rfl ?_
      rcases am_if h with ⟨hc3, h⟩ | ⟨hc3, h⟩
      · refine ev_ic_f (pc' := 27) rfl (by decide) rfl (cb_ne_f hc3) ?_
        exact fx_edge_b27_e h
      · refine ev_ic_t (pc' := 34) rfl rfl (cb_ne_t hc3) ?_
        refine ev_iload_n (pc' := 35) rfl rfl rfl ?_
        refine ev_iconst (pc' := 36) (b := (1 : Int32)) rfl rfl rfl ?_
        rcases am_if h with ⟨hc4, h⟩ | ⟨hc4, h⟩
        · refine ev_ic_t (pc' := 53) rfl rfl (cb_lt_t hc4) ?_
          exact fx_edge_b53_e h
        · refine ev_ic_f (pc' := 39) rfl (by decide) rfl (cb_lt_f hc4) ?_
          refine ev_iload_n (pc' := 40) rfl rfl rfl ?_
          refine ev_bipush (pc' := 42) (b := (9 : Int32)) rfl rfl rfl ?_
          rcases am_if h with ⟨hc5, h⟩ | ⟨hc5, h⟩
          · refine ev_ic_t (pc' := 53) rfl rfl (cb_gt_t hc5) ?_
            exact fx_edge_b53_e h
          · refine ev_ic_f (pc' := 45) rfl (by decide) rfl (cb_gt_f hc5) ?_
            refine ev_iload (pc' := 47) rfl rfl rfl ?_
            refine ev_call (mi := 130) (as := [.int a4]) (rest := []) rfl rfl (Nat.le_of_ble_eq_true rfl) (fx_isZeroOrOne_e (d := d) rfl) ?_
            show am_Ev _ _ _ _ 50 _ _ _ _ _
            rcases am_if h with ⟨hc6, h⟩ | ⟨hc6, h⟩
            · refine ev_if_f (pc' := 53) rfl (by decide) rfl (cb_ne_f hc6) ?_
              exact fx_edge_b53_e h
            · refine ev_if_t (pc' := 60) rfl rfl (cb_ne_t hc6) ?_
              refine ev_aload_n (pc' := 61) rfl rfl rfl ?_
              refine ev_getfield (pc' := 64) (w := .ref 1) rfl rfl rfl rfl ?_
              refine ev_getfield (pc' := 67) (w := .int (σ 1 12)) rfl rfl rfl rfl ?_
              refine ev_bipush (pc' := 69) (b := (30 : Int32)) rfl rfl rfl ?_
              rcases am_if h with ⟨hc7, h⟩ | ⟨hc7, h⟩
              · refine ev_ic_t (pc' := 79) rfl rfl (cb_lt_t hc7) ?_
                refine ev_aload_n (pc' := 80) rfl rfl rfl ?_
                refine ev_getfield (pc' := 83) (w := .ref 1) rfl rfl rfl rfl ?_
                refine ev_iload_n (pc' := 84) rfl rfl rfl ?_
                refine ev_iload_n (pc' := 85) rfl rfl rfl ?_
                refine ev_iload_n (pc' := 86) rfl rfl rfl ?_
                refine ev_iload (pc' := 88) rfl rfl rfl ?_
                refine ev_iconst (pc' := 89) (b := (1 : Int32)) rfl rfl rfl ?_
                rcases am_if h with ⟨hc8, h⟩ | ⟨hc8, h⟩
                · refine ev_ic_f (pc' := 92) rfl (by decide) rfl (cb_ne_f hc8) ?_
                  refine ev_iconst (pc' := 93) (b := (1 : Int32)) rfl rfl rfl ?_
                  refine ev_goto (pc' := 97) rfl rfl ?_
                  exact fx_edge_b97_e h
                · refine ev_ic_t (pc' := 96) rfl rfl (cb_ne_t hc8) ?_
                  refine ev_iconst (pc' := 97) (b := (0 : Int32)) rfl rfl rfl ?_
                  exact fx_edge_b97_e h
              · refine ev_ic_f (pc' := 72) rfl (by decide) rfl (cb_lt_f hc7) ?_
                refine ev_aload_n (pc' := 73) rfl rfl rfl ?_
                refine ev_ldc (pc' := 75) (b := (-1000000004 : Int32)) rfl rfl rfl ?_
                refine am_bd h (fun q9 hq9 h => ?_)
                refine ev_call (mi := 129) (as := [.ref 0, .int (-1000000004 : Int32)]) (rest := []) rfl rfl (Nat.le_of_ble_eq_true rfl) (fx_finding_e (d := d) hq9) ?_
                show am_Ev _ _ _ _ 78 _ _ _ _ _
                obtain rfl := Option.some.inj h
                exact ev_ireturn rfl rfl
/-! PartedLand$Tasks.daysOf (78, 'I'): P -/
def fx_Tasks_daysOf_b29 (N : Nat) (k4 : Int32 → Int32 → Int32 → am_S → Option Int32) (x1 : Int32) (x2 : Int32) (x3 : Int32) (σ : am_S) : Option Int32 := k4 x1 x2 (x3 + (1 : Int32)) σ
set_option maxRecDepth 100000 in
theorem fx_Tasks_daysOf_b29_e {X : Nat} {xs : Nat → Int32} {d : Nat} {N : Nat} {k4 : Int32 → Int32 → Int32 → am_S → Option Int32} (hk4 : ∀ {x1 : Int32} {x2 : Int32} {x3 : Int32} {σ : am_S} {o : Int32}, k4 x1 x2 x3 σ = some o → am_Ev am_sh (am_exx X xs) (d + 0) mm_58 4 [.ref 78, .int x1, .int x2, .int x3] [] σ (some (.int o)) σ) {x1 : Int32} {x2 : Int32} {x3 : Int32} {σ : am_S} {o : Int32} (h : fx_Tasks_daysOf_b29 N k4 x1 x2 x3 σ = some o) : am_Ev am_sh (am_exx X xs) (d + 0) mm_58 29 [.ref 78, .int x1, .int x2, .int x3] [] σ (some (.int o)) σ := by
  unfold fx_Tasks_daysOf_b29 at h
  refine ev_iinc (pc' := 32) (L' := [.ref 78, .int x1, .int x2, .int (x3 + (1 : Int32))]) (b := (1 : Int32)) rfl rfl rfl rfl rfl ?_
  refine ev_goto (pc' := 4) rfl rfl ?_
  exact hk4 h
def fx_Tasks_daysOf_b4 (N : Nat) : Nat → Int32 → Int32 → Int32 → am_S → Option Int32
  | 0, _, _, _, _ => none
  | n + 1, x1, x2, x3, σ => (if (σ 78 4) ≤ x3 then some x2 else (if (x1 &&& ((1 : Int32) <<< (x3 &&& 31))) = 0 then fx_Tasks_daysOf_b29 N (fun x1 x2 x3 σ => fx_Tasks_daysOf_b4 N n x1 x2 x3 σ) x1 x2 x3 σ else am_g (am_in x3 9) <| fx_Tasks_daysOf_b29 N (fun x1 x2 x3 σ => fx_Tasks_daysOf_b4 N n x1 x2 x3 σ) x1 (x2 + (σ 79 x3.toNatClampNeg)) x3 σ))
set_option maxRecDepth 100000 in
theorem fx_Tasks_daysOf_b4_e {X : Nat} {xs : Nat → Int32} {d : Nat} {N : Nat} : ∀ {n : Nat} {x1 : Int32} {x2 : Int32} {x3 : Int32} {σ : am_S} {o : Int32}, fx_Tasks_daysOf_b4 N n x1 x2 x3 σ = some o → am_Ev am_sh (am_exx X xs) (d + 0) mm_58 4 [.ref 78, .int x1, .int x2, .int x3] [] σ (some (.int o)) σ := by
  intro n
  induction n with
  | zero => intro x1 x2 x3 σ o h; cases h
  | succ n ih =>
    intro x1 x2 x3 σ o h
    unfold fx_Tasks_daysOf_b4 at h
    refine ev_iload_n (pc' := 5) rfl rfl rfl ?_
    refine ev_aload_n (pc' := 6) rfl rfl rfl ?_
    refine ev_getfield (pc' := 9) (w := .int (σ 78 4)) rfl rfl rfl rfl ?_
    rcases am_if h with ⟨hc1, h⟩ | ⟨hc1, h⟩
    · refine ev_ic_t (pc' := 35) rfl rfl (cb_ge_t hc1) ?_
      refine ev_iload_n (pc' := 36) rfl rfl rfl ?_
      obtain rfl := Option.some.inj h
      exact ev_ireturn rfl rfl
    · refine ev_ic_f (pc' := 12) rfl (by decide) rfl (cb_ge_f hc1) ?_
      refine ev_iload_n (pc' := 13) rfl rfl rfl ?_
      refine ev_iconst (pc' := 14) (b := (1 : Int32)) rfl rfl rfl ?_
      refine ev_iload_n (pc' := 15) rfl rfl rfl ?_
      refine ev_ishl (pc' := 16) rfl rfl ?_
      refine ev_iand (pc' := 17) rfl rfl ?_
      rcases am_if h with ⟨hc2, h⟩ | ⟨hc2, h⟩
      · refine ev_if_t (pc' := 29) rfl rfl (cb_eq_t hc2) ?_
        exact fx_Tasks_daysOf_b29_e (hk4 := fun h => ih h) h
      · refine ev_if_f (pc' := 20) rfl (by decide) rfl (cb_eq_f hc2) ?_
        refine ev_iload_n (pc' := 21) rfl rfl rfl ?_
        refine ev_aload_n (pc' := 22) rfl rfl rfl ?_
        refine ev_getfield (pc' := 25) (w := .ref 79) rfl rfl rfl rfl ?_
        refine ev_iload_n (pc' := 26) rfl rfl rfl ?_
        obtain ⟨hg3, h⟩ := am_g_some h
        refine ev_iaload (pc' := 27) rfl rfl rfl hg3 ?_
        refine ev_iadd (pc' := 28) rfl rfl ?_
        refine ev_istore_n (pc' := 29) (L' := [.ref 78, .int x1, .int (x2 + (σ 79 x3.toNatClampNeg)), .int x3]) rfl rfl rfl rfl ?_
        exact fx_Tasks_daysOf_b29_e (hk4 := fun h => ih h) h
def fx_Tasks_daysOf (N : Nat) (a1 : Int32) (σ : am_S) : Option Int32 := fx_Tasks_daysOf_b4 N N a1 (0 : Int32) (0 : Int32) σ
set_option maxRecDepth 100000 in
theorem fx_Tasks_daysOf_e {X : Nat} {xs : Nat → Int32} {d : Nat} {N : Nat} {a1 : Int32} {σ : am_S} {o : Int32} (h : fx_Tasks_daysOf N a1 σ = some o) : am_Ev am_sh (am_exx X xs) (d + 0) mm_58 0 [.ref 78, .int a1, .null, .null] [] σ (some (.int o)) σ := by
  unfold fx_Tasks_daysOf at h
  refine ev_iconst (pc' := 1) (b := (0 : Int32)) rfl rfl rfl ?_
  refine ev_istore_n (pc' := 2) (L' := [.ref 78, .int a1, .int (0 : Int32), .null]) rfl rfl rfl rfl ?_
  refine ev_iconst (pc' := 3) (b := (0 : Int32)) rfl rfl rfl ?_
  refine ev_istore_n (pc' := 4) (L' := [.ref 78, .int a1, .int (0 : Int32), .int (0 : Int32)]) rfl rfl rfl rfl ?_
  exact fx_Tasks_daysOf_b4_e h
/-! java/lang/Integer.bitCount ('I',): T -/
def fx_Int_bitCount (a0 : Int32) (σ : am_S) : Int32 := ((((((((a0 - (((a0.toUInt32 >>> ((1 : Int32).toUInt32 &&& Int32.toUInt32 31)).toInt32) &&& (1431655765 : Int32))) &&& (858993459 : Int32)) + ((((a0 - (((a0.toUInt32 >>> ((1 : Int32).toUInt32 &&& Int32.toUInt32 31)).toInt32) &&& (1431655765 : Int32))).toUInt32 >>> ((2 : Int32).toUInt32 &&& Int32.toUInt32 31)).toInt32) &&& (858993459 : Int32))) + (((((a0 - (((a0.toUInt32 >>> ((1 : Int32).toUInt32 &&& Int32.toUInt32 31)).toInt32) &&& (1431655765 : Int32))) &&& (858993459 : Int32)) + ((((a0 - (((a0.toUInt32 >>> ((1 : Int32).toUInt32 &&& Int32.toUInt32 31)).toInt32) &&& (1431655765 : Int32))).toUInt32 >>> ((2 : Int32).toUInt32 &&& Int32.toUInt32 31)).toInt32) &&& (858993459 : Int32))).toUInt32 >>> ((4 : Int32).toUInt32 &&& Int32.toUInt32 31)).toInt32)) &&& (252645135 : Int32)) + (((((((a0 - (((a0.toUInt32 >>> ((1 : Int32).toUInt32 &&& Int32.toUInt32 31)).toInt32) &&& (1431655765 : Int32))) &&& (858993459 : Int32)) + ((((a0 - (((a0.toUInt32 >>> ((1 : Int32).toUInt32 &&& Int32.toUInt32 31)).toInt32) &&& (1431655765 : Int32))).toUInt32 >>> ((2 : Int32).toUInt32 &&& Int32.toUInt32 31)).toInt32) &&& (858993459 : Int32))) + (((((a0 - (((a0.toUInt32 >>> ((1 : Int32).toUInt32 &&& Int32.toUInt32 31)).toInt32) &&& (1431655765 : Int32))) &&& (858993459 : Int32)) + ((((a0 - (((a0.toUInt32 >>> ((1 : Int32).toUInt32 &&& Int32.toUInt32 31)).toInt32) &&& (1431655765 : Int32))).toUInt32 >>> ((2 : Int32).toUInt32 &&& Int32.toUInt32 31)).toInt32) &&& (858993459 : Int32))).toUInt32 >>> ((4 : Int32).toUInt32 &&& Int32.toUInt32 31)).toInt32)) &&& (252645135 : Int32)).toUInt32 >>> ((8 : Int32).toUInt32 &&& Int32.toUInt32 31)).toInt32)) + ((((((((a0 - (((a0.toUInt32 >>> ((1 : Int32).toUInt32 &&& Int32.toUInt32 31)).toInt32) &&& (1431655765 : Int32))) &&& (858993459 : Int32)) + ((((a0 - (((a0.toUInt32 >>> ((1 : Int32).toUInt32 &&& Int32.toUInt32 31)).toInt32) &&& (1431655765 : Int32))).toUInt32 >>> ((2 : Int32).toUInt32 &&& Int32.toUInt32 31)).toInt32) &&& (858993459 : Int32))) + (((((a0 - (((a0.toUInt32 >>> ((1 : Int32).toUInt32 &&& Int32.toUInt32 31)).toInt32) &&& (1431655765 : Int32))) &&& (858993459 : Int32)) + ((((a0 - (((a0.toUInt32 >>> ((1 : Int32).toUInt32 &&& Int32.toUInt32 31)).toInt32) &&& (1431655765 : Int32))).toUInt32 >>> ((2 : Int32).toUInt32 &&& Int32.toUInt32 31)).toInt32) &&& (858993459 : Int32))).toUInt32 >>> ((4 : Int32).toUInt32 &&& Int32.toUInt32 31)).toInt32)) &&& (252645135 : Int32)) + (((((((a0 - (((a0.toUInt32 >>> ((1 : Int32).toUInt32 &&& Int32.toUInt32 31)).toInt32) &&& (1431655765 : Int32))) &&& (858993459 : Int32)) + ((((a0 - (((a0.toUInt32 >>> ((1 : Int32).toUInt32 &&& Int32.toUInt32 31)).toInt32) &&& (1431655765 : Int32))).toUInt32 >>> ((2 : Int32).toUInt32 &&& Int32.toUInt32 31)).toInt32) &&& (858993459 : Int32))) + (((((a0 - (((a0.toUInt32 >>> ((1 : Int32).toUInt32 &&& Int32.toUInt32 31)).toInt32) &&& (1431655765 : Int32))) &&& (858993459 : Int32)) + ((((a0 - (((a0.toUInt32 >>> ((1 : Int32).toUInt32 &&& Int32.toUInt32 31)).toInt32) &&& (1431655765 : Int32))).toUInt32 >>> ((2 : Int32).toUInt32 &&& Int32.toUInt32 31)).toInt32) &&& (858993459 : Int32))).toUInt32 >>> ((4 : Int32).toUInt32 &&& Int32.toUInt32 31)).toInt32)) &&& (252645135 : Int32)).toUInt32 >>> ((8 : Int32).toUInt32 &&& Int32.toUInt32 31)).toInt32)).toUInt32 >>> ((16 : Int32).toUInt32 &&& Int32.toUInt32 31)).toInt32)) &&& (63 : Int32))
set_option maxRecDepth 100000 in
theorem fx_Int_bitCount_e {X : Nat} {xs : Nat → Int32} {d : Nat} {a0 : Int32} {σ : am_S} {o : Int32} (h : fx_Int_bitCount a0 σ = o) : am_Ev am_sh (am_exx X xs) (d + 0) mm_217 0 [.int a0] [] σ (some (.int o)) σ := by
  unfold fx_Int_bitCount at h
  refine ev_iload_n (pc' := 1) rfl rfl rfl ?_
  refine ev_iload_n (pc' := 2) rfl rfl rfl ?_
  refine ev_iconst (pc' := 3) (b := (1 : Int32)) rfl rfl rfl ?_
  refine ev_iushr (pc' := 4) rfl rfl ?_
  refine ev_ldc_w (pc' := 7) (b := (1431655765 : Int32)) rfl rfl rfl ?_
  refine ev_iand (pc' := 8) rfl rfl ?_
  refine ev_isub (pc' := 9) rfl rfl ?_
  refine ev_istore_n (pc' := 10) (L' := [.int (a0 - (((a0.toUInt32 >>> ((1 : Int32).toUInt32 &&& Int32.toUInt32 31)).toInt32) &&& (1431655765 : Int32)))]) rfl rfl rfl rfl ?_
  refine ev_iload_n (pc' := 11) rfl rfl rfl ?_
  refine ev_ldc_w (pc' := 14) (b := (858993459 : Int32)) rfl rfl rfl ?_
  refine ev_iand (pc' := 15) rfl rfl ?_
  refine ev_iload_n (pc' := 16) rfl rfl rfl ?_
  refine ev_iconst (pc' := 17) (b := (2 : Int32)) rfl rfl rfl ?_
  refine ev_iushr (pc' := 18) rfl rfl ?_
  refine ev_ldc_w (pc' := 21) (b := (858993459 : Int32)) rfl rfl rfl ?_
  refine ev_iand (pc' := 22) rfl rfl ?_
  refine ev_iadd (pc' := 23) rfl rfl ?_
  refine ev_istore_n (pc' := 24) (L' := [.int (((a0 - (((a0.toUInt32 >>> ((1 : Int32).toUInt32 &&& Int32.toUInt32 31)).toInt32) &&& (1431655765 : Int32))) &&& (858993459 : Int32)) + ((((a0 - (((a0.toUInt32 >>> ((1 : Int32).toUInt32 &&& Int32.toUInt32 31)).toInt32) &&& (1431655765 : Int32))).toUInt32 >>> ((2 : Int32).toUInt32 &&& Int32.toUInt32 31)).toInt32) &&& (858993459 : Int32)))]) rfl rfl rfl rfl ?_
  refine ev_iload_n (pc' := 25) rfl rfl rfl ?_
  refine ev_iload_n (pc' := 26) rfl rfl rfl ?_
  refine ev_iconst (pc' := 27) (b := (4 : Int32)) rfl rfl rfl ?_
  refine ev_iushr (pc' := 28) rfl rfl ?_
  refine ev_iadd (pc' := 29) rfl rfl ?_
  refine ev_ldc_w (pc' := 32) (b := (252645135 : Int32)) rfl rfl rfl ?_
  refine ev_iand (pc' := 33) rfl rfl ?_
  refine ev_istore_n (pc' := 34) (L' := [.int (((((a0 - (((a0.toUInt32 >>> ((1 : Int32).toUInt32 &&& Int32.toUInt32 31)).toInt32) &&& (1431655765 : Int32))) &&& (858993459 : Int32)) + ((((a0 - (((a0.toUInt32 >>> ((1 : Int32).toUInt32 &&& Int32.toUInt32 31)).toInt32) &&& (1431655765 : Int32))).toUInt32 >>> ((2 : Int32).toUInt32 &&& Int32.toUInt32 31)).toInt32) &&& (858993459 : Int32))) + (((((a0 - (((a0.toUInt32 >>> ((1 : Int32).toUInt32 &&& Int32.toUInt32 31)).toInt32) &&& (1431655765 : Int32))) &&& (858993459 : Int32)) + ((((a0 - (((a0.toUInt32 >>> ((1 : Int32).toUInt32 &&& Int32.toUInt32 31)).toInt32) &&& (1431655765 : Int32))).toUInt32 >>> ((2 : Int32).toUInt32 &&& Int32.toUInt32 31)).toInt32) &&& (858993459 : Int32))).toUInt32 >>> ((4 : Int32).toUInt32 &&& Int32.toUInt32 31)).toInt32)) &&& (252645135 : Int32))]) rfl rfl rfl rfl ?_
  refine ev_iload_n (pc' := 35) rfl rfl rfl ?_
  refine ev_iload_n (pc' := 36) rfl rfl rfl ?_
  refine ev_bipush (pc' := 38) (b := (8 : Int32)) rfl rfl rfl ?_
  refine ev_iushr (pc' := 39) rfl rfl ?_
  refine ev_iadd (pc' := 40) rfl rfl ?_
  refine ev_istore_n (pc' := 41) (L' := [.int ((((((a0 - (((a0.toUInt32 >>> ((1 : Int32).toUInt32 &&& Int32.toUInt32 31)).toInt32) &&& (1431655765 : Int32))) &&& (858993459 : Int32)) + ((((a0 - (((a0.toUInt32 >>> ((1 : Int32).toUInt32 &&& Int32.toUInt32 31)).toInt32) &&& (1431655765 : Int32))).toUInt32 >>> ((2 : Int32).toUInt32 &&& Int32.toUInt32 31)).toInt32) &&& (858993459 : Int32))) + (((((a0 - (((a0.toUInt32 >>> ((1 : Int32).toUInt32 &&& Int32.toUInt32 31)).toInt32) &&& (1431655765 : Int32))) &&& (858993459 : Int32)) + ((((a0 - (((a0.toUInt32 >>> ((1 : Int32).toUInt32 &&& Int32.toUInt32 31)).toInt32) &&& (1431655765 : Int32))).toUInt32 >>> ((2 : Int32).toUInt32 &&& Int32.toUInt32 31)).toInt32) &&& (858993459 : Int32))).toUInt32 >>> ((4 : Int32).toUInt32 &&& Int32.toUInt32 31)).toInt32)) &&& (252645135 : Int32)) + (((((((a0 - (((a0.toUInt32 >>> ((1 : Int32).toUInt32 &&& Int32.toUInt32 31)).toInt32) &&& (1431655765 : Int32))) &&& (858993459 : Int32)) + ((((a0 - (((a0.toUInt32 >>> ((1 : Int32).toUInt32 &&& Int32.toUInt32 31)).toInt32) &&& (1431655765 : Int32))).toUInt32 >>> ((2 : Int32).toUInt32 &&& Int32.toUInt32 31)).toInt32) &&& (858993459 : Int32))) + (((((a0 - (((a0.toUInt32 >>> ((1 : Int32).toUInt32 &&& Int32.toUInt32 31)).toInt32) &&& (1431655765 : Int32))) &&& (858993459 : Int32)) + ((((a0 - (((a0.toUInt32 >>> ((1 : Int32).toUInt32 &&& Int32.toUInt32 31)).toInt32) &&& (1431655765 : Int32))).toUInt32 >>> ((2 : Int32).toUInt32 &&& Int32.toUInt32 31)).toInt32) &&& (858993459 : Int32))).toUInt32 >>> ((4 : Int32).toUInt32 &&& Int32.toUInt32 31)).toInt32)) &&& (252645135 : Int32)).toUInt32 >>> ((8 : Int32).toUInt32 &&& Int32.toUInt32 31)).toInt32))]) rfl rfl rfl rfl ?_
  refine ev_iload_n (pc' := 42) rfl rfl rfl ?_
  refine ev_iload_n (pc' := 43) rfl rfl rfl ?_
  refine ev_bipush (pc' := 45) (b := (16 : Int32)) rfl rfl rfl ?_
  refine ev_iushr (pc' := 46) rfl rfl ?_
  refine ev_iadd (pc' := 47) rfl rfl ?_
  refine ev_istore_n (pc' := 48) (L' := [.int (((((((a0 - (((a0.toUInt32 >>> ((1 : Int32).toUInt32 &&& Int32.toUInt32 31)).toInt32) &&& (1431655765 : Int32))) &&& (858993459 : Int32)) + ((((a0 - (((a0.toUInt32 >>> ((1 : Int32).toUInt32 &&& Int32.toUInt32 31)).toInt32) &&& (1431655765 : Int32))).toUInt32 >>> ((2 : Int32).toUInt32 &&& Int32.toUInt32 31)).toInt32) &&& (858993459 : Int32))) + (((((a0 - (((a0.toUInt32 >>> ((1 : Int32).toUInt32 &&& Int32.toUInt32 31)).toInt32) &&& (1431655765 : Int32))) &&& (858993459 : Int32)) + ((((a0 - (((a0.toUInt32 >>> ((1 : Int32).toUInt32 &&& Int32.toUInt32 31)).toInt32) &&& (1431655765 : Int32))).toUInt32 >>> ((2 : Int32).toUInt32 &&& Int32.toUInt32 31)).toInt32) &&& (858993459 : Int32))).toUInt32 >>> ((4 : Int32).toUInt32 &&& Int32.toUInt32 31)).toInt32)) &&& (252645135 : Int32)) + (((((((a0 - (((a0.toUInt32 >>> ((1 : Int32).toUInt32 &&& Int32.toUInt32 31)).toInt32) &&& (1431655765 : Int32))) &&& (858993459 : Int32)) + ((((a0 - (((a0.toUInt32 >>> ((1 : Int32).toUInt32 &&& Int32.toUInt32 31)).toInt32) &&& (1431655765 : Int32))).toUInt32 >>> ((2 : Int32).toUInt32 &&& Int32.toUInt32 31)).toInt32) &&& (858993459 : Int32))) + (((((a0 - (((a0.toUInt32 >>> ((1 : Int32).toUInt32 &&& Int32.toUInt32 31)).toInt32) &&& (1431655765 : Int32))) &&& (858993459 : Int32)) + ((((a0 - (((a0.toUInt32 >>> ((1 : Int32).toUInt32 &&& Int32.toUInt32 31)).toInt32) &&& (1431655765 : Int32))).toUInt32 >>> ((2 : Int32).toUInt32 &&& Int32.toUInt32 31)).toInt32) &&& (858993459 : Int32))).toUInt32 >>> ((4 : Int32).toUInt32 &&& Int32.toUInt32 31)).toInt32)) &&& (252645135 : Int32)).toUInt32 >>> ((8 : Int32).toUInt32 &&& Int32.toUInt32 31)).toInt32)) + ((((((((a0 - (((a0.toUInt32 >>> ((1 : Int32).toUInt32 &&& Int32.toUInt32 31)).toInt32) &&& (1431655765 : Int32))) &&& (858993459 : Int32)) + ((((a0 - (((a0.toUInt32 >>> ((1 : Int32).toUInt32 &&& Int32.toUInt32 31)).toInt32) &&& (1431655765 : Int32))).toUInt32 >>> ((2 : Int32).toUInt32 &&& Int32.toUInt32 31)).toInt32) &&& (858993459 : Int32))) + (((((a0 - (((a0.toUInt32 >>> ((1 : Int32).toUInt32 &&& Int32.toUInt32 31)).toInt32) &&& (1431655765 : Int32))) &&& (858993459 : Int32)) + ((((a0 - (((a0.toUInt32 >>> ((1 : Int32).toUInt32 &&& Int32.toUInt32 31)).toInt32) &&& (1431655765 : Int32))).toUInt32 >>> ((2 : Int32).toUInt32 &&& Int32.toUInt32 31)).toInt32) &&& (858993459 : Int32))).toUInt32 >>> ((4 : Int32).toUInt32 &&& Int32.toUInt32 31)).toInt32)) &&& (252645135 : Int32)) + (((((((a0 - (((a0.toUInt32 >>> ((1 : Int32).toUInt32 &&& Int32.toUInt32 31)).toInt32) &&& (1431655765 : Int32))) &&& (858993459 : Int32)) + ((((a0 - (((a0.toUInt32 >>> ((1 : Int32).toUInt32 &&& Int32.toUInt32 31)).toInt32) &&& (1431655765 : Int32))).toUInt32 >>> ((2 : Int32).toUInt32 &&& Int32.toUInt32 31)).toInt32) &&& (858993459 : Int32))) + (((((a0 - (((a0.toUInt32 >>> ((1 : Int32).toUInt32 &&& Int32.toUInt32 31)).toInt32) &&& (1431655765 : Int32))) &&& (858993459 : Int32)) + ((((a0 - (((a0.toUInt32 >>> ((1 : Int32).toUInt32 &&& Int32.toUInt32 31)).toInt32) &&& (1431655765 : Int32))).toUInt32 >>> ((2 : Int32).toUInt32 &&& Int32.toUInt32 31)).toInt32) &&& (858993459 : Int32))).toUInt32 >>> ((4 : Int32).toUInt32 &&& Int32.toUInt32 31)).toInt32)) &&& (252645135 : Int32)).toUInt32 >>> ((8 : Int32).toUInt32 &&& Int32.toUInt32 31)).toInt32)).toUInt32 >>> ((16 : Int32).toUInt32 &&& Int32.toUInt32 31)).toInt32))]) rfl rfl rfl rfl ?_
  refine ev_iload_n (pc' := 49) rfl rfl rfl ?_
  refine ev_bipush (pc' := 51) (b := (63 : Int32)) rfl rfl rfl ?_
  refine ev_iand (pc' := 52) rfl rfl ?_
  subst h
  exact ev_ireturn rfl rfl
/-! PartedLand$Tasks.canBeBest (78, 'I', 'I'): T -/
def fx_Tasks_canBeBest_b24 (σ : am_S) : Int32 := (1 : Int32)
set_option maxRecDepth 100000 in
theorem fx_Tasks_canBeBest_b24_e {X : Nat} {xs : Nat → Int32} {d : Nat} {w0 : Value} {w1 : Value} {w2 : Value} {σ : am_S} {o : Int32} (h : fx_Tasks_canBeBest_b24 σ = o) : am_Ev am_sh (am_exx X xs) (d + 0) mm_57 24 [w0, w1, w2] [] σ (some (.int o)) σ := by
  unfold fx_Tasks_canBeBest_b24 at h
  refine ev_iconst (pc' := 25) (b := (1 : Int32)) rfl rfl rfl ?_
  refine ev_goto (pc' := 29) rfl rfl ?_
  subst h
  exact ev_zreturn rfl rfl rfl
def fx_Tasks_canBeBest (a1 : Int32) (a2 : Int32) (σ : am_S) : Int32 := (if (σ 78 5) < a1 then fx_Tasks_canBeBest_b24 σ else (if a1 = (σ 78 5) then (if (σ 78 6) < a2 then (0 : Int32) else fx_Tasks_canBeBest_b24 σ) else (0 : Int32)))
set_option maxRecDepth 100000 in
theorem fx_Tasks_canBeBest_e {X : Nat} {xs : Nat → Int32} {d : Nat} {a1 : Int32} {a2 : Int32} {σ : am_S} {o : Int32} (h : fx_Tasks_canBeBest a1 a2 σ = o) : am_Ev am_sh (am_exx X xs) (d + 0) mm_57 0 [.ref 78, .int a1, .int a2] [] σ (some (.int o)) σ := by
  unfold fx_Tasks_canBeBest at h
  refine ev_iload_n (pc' := 1) rfl rfl rfl ?_
  refine ev_aload_n (pc' := 2) rfl rfl rfl ?_
  refine ev_getfield (pc' := 5) (w := .int (σ 78 5)) rfl rfl rfl rfl ?_
  rcases am_if h with ⟨hc1, h⟩ | ⟨hc1, h⟩
  · refine ev_ic_t (pc' := 24) rfl rfl (cb_gt_t hc1) ?_
    exact fx_Tasks_canBeBest_b24_e h
  · refine ev_ic_f (pc' := 8) rfl (by decide) rfl (cb_gt_f hc1) ?_
    refine ev_iload_n (pc' := 9) rfl rfl rfl ?_
    refine ev_aload_n (pc' := 10) rfl rfl rfl ?_
    refine ev_getfield (pc' := 13) (w := .int (σ 78 5)) rfl rfl rfl rfl ?_
    rcases am_if h with ⟨hc2, h⟩ | ⟨hc2, h⟩
    · refine ev_ic_f (pc' := 16) rfl (by decide) rfl (cb_ne_f hc2) ?_
      refine ev_iload_n (pc' := 17) rfl rfl rfl ?_
      refine ev_aload_n (pc' := 18) rfl rfl rfl ?_
      refine ev_getfield (pc' := 21) (w := .int (σ 78 6)) rfl rfl rfl rfl ?_
      rcases am_if h with ⟨hc3, h⟩ | ⟨hc3, h⟩
      · refine ev_ic_t (pc' := 28) rfl rfl (cb_gt_t hc3) ?_
        refine ev_iconst (pc' := 29) (b := (0 : Int32)) rfl rfl rfl ?_
        subst h
        exact ev_zreturn rfl rfl rfl
      · refine ev_ic_f (pc' := 24) rfl (by decide) rfl (cb_gt_f hc3) ?_
        exact fx_Tasks_canBeBest_b24_e h
    · refine ev_ic_t (pc' := 28) rfl rfl (cb_ne_t hc2) ?_
      refine ev_iconst (pc' := 29) (b := (0 : Int32)) rfl rfl rfl ?_
      subst h
      exact ev_zreturn rfl rfl rfl
/-! PartedLand$Tasks.leastReady (78, 'I', 'I'): P -/
def fx_Tasks_leastReady_b44 (N : Nat) (k9 : Int32 → Int32 → Int32 → am_S → Option Int32) (x2 : Int32) (x3 : Int32) (x4 : Int32) (σ : am_S) : Option Int32 := k9 x2 x3 (x4 + (1 : Int32)) σ
set_option maxRecDepth 100000 in
theorem fx_Tasks_leastReady_b44_e {X : Nat} {xs : Nat → Int32} {d : Nat} {N : Nat} {k9 : Int32 → Int32 → Int32 → am_S → Option Int32} (hk9 : ∀ {x2 : Int32} {x3 : Int32} {x4 : Int32} {w1 : Value} {σ : am_S} {o : Int32}, k9 x2 x3 x4 σ = some o → am_Ev am_sh (am_exx X xs) (d + 0) mm_50 9 [.ref 78, w1, .int x2, .int x3, .int x4] [] σ (some (.int o)) σ) {x2 : Int32} {x3 : Int32} {x4 : Int32} {w1 : Value} {σ : am_S} {o : Int32} (h : fx_Tasks_leastReady_b44 N k9 x2 x3 x4 σ = some o) : am_Ev am_sh (am_exx X xs) (d + 0) mm_50 44 [.ref 78, w1, .int x2, .int x3, .int x4] [] σ (some (.int o)) σ := by
  unfold fx_Tasks_leastReady_b44 at h
  refine ev_iinc (pc' := 47) (L' := [.ref 78, w1, .int x2, .int x3, .int (x4 + (1 : Int32))]) (b := (1 : Int32)) rfl rfl rfl rfl rfl ?_
  refine ev_goto (pc' := 9) rfl rfl ?_
  exact hk9 h
def fx_Tasks_leastReady_b9 (N : Nat) : Nat → Int32 → Int32 → Int32 → am_S → Option Int32
  | 0, _, _, _, _ => none
  | n + 1, x2, x3, x4, σ => (if (σ 78 4) ≤ x4 then some (-1 : Int32) else (if (x2 &&& ((1 : Int32) <<< (x4 &&& 31))) = 0 then fx_Tasks_leastReady_b44 N (fun x2 x3 x4 σ => fx_Tasks_leastReady_b9 N n x2 x3 x4 σ) x2 x3 x4 σ else am_g (am_in x4 9) <| (if ((σ 80 x4.toNatClampNeg) &&& (x3 ^^^ (-1 : Int32))) = 0 then some x4 else fx_Tasks_leastReady_b44 N (fun x2 x3 x4 σ => fx_Tasks_leastReady_b9 N n x2 x3 x4 σ) x2 x3 x4 σ)))
set_option maxRecDepth 100000 in
theorem fx_Tasks_leastReady_b9_e {X : Nat} {xs : Nat → Int32} {d : Nat} {N : Nat} : ∀ {n : Nat} {x2 : Int32} {x3 : Int32} {x4 : Int32} {w1 : Value} {σ : am_S} {o : Int32}, fx_Tasks_leastReady_b9 N n x2 x3 x4 σ = some o → am_Ev am_sh (am_exx X xs) (d + 0) mm_50 9 [.ref 78, w1, .int x2, .int x3, .int x4] [] σ (some (.int o)) σ := by
  intro n
  induction n with
  | zero => intro x2 x3 x4 w1 σ o h; cases h
  | succ n ih =>
    intro x2 x3 x4 w1 σ o h
    unfold fx_Tasks_leastReady_b9 at h
    refine ev_iload (pc' := 11) rfl rfl rfl ?_
    refine ev_aload_n (pc' := 12) rfl rfl rfl ?_
    refine ev_getfield (pc' := 15) (w := .int (σ 78 4)) rfl rfl rfl rfl ?_
    rcases am_if h with ⟨hc1, h⟩ | ⟨hc1, h⟩
    · refine ev_ic_t (pc' := 50) rfl rfl (cb_ge_t hc1) ?_
      refine ev_iconst (pc' := 51) (b := (-1 : Int32)) rfl rfl rfl ?_
      obtain rfl := Option.some.inj h
      exact ev_ireturn rfl rfl
    · refine ev_ic_f (pc' := 18) rfl (by decide) rfl (cb_ge_f hc1) ?_
      refine ev_iload_n (pc' := 19) rfl rfl rfl ?_
      refine ev_iconst (pc' := 20) (b := (1 : Int32)) rfl rfl rfl ?_
      refine ev_iload (pc' := 22) rfl rfl rfl ?_
      refine ev_ishl (pc' := 23) rfl rfl ?_
      refine ev_iand (pc' := 24) rfl rfl ?_
      rcases am_if h with ⟨hc2, h⟩ | ⟨hc2, h⟩
      · refine ev_if_t (pc' := 44) rfl rfl (cb_eq_t hc2) ?_
        exact fx_Tasks_leastReady_b44_e (hk9 := fun h => ih h) h
      · refine ev_if_f (pc' := 27) rfl (by decide) rfl (cb_eq_f hc2) ?_
        refine ev_aload_n (pc' := 28) rfl rfl rfl ?_
        refine ev_getfield (pc' := 31) (w := .ref 80) rfl rfl rfl rfl ?_
        refine ev_iload (pc' := 33) rfl rfl rfl ?_
        obtain ⟨hg3, h⟩ := am_g_some h
        refine ev_iaload (pc' := 34) rfl rfl rfl hg3 ?_
        refine ev_iload_n (pc' := 35) rfl rfl rfl ?_
        refine ev_iconst (pc' := 36) (b := (-1 : Int32)) rfl rfl rfl ?_
        refine ev_ixor (pc' := 37) rfl rfl ?_
        refine ev_iand (pc' := 38) rfl rfl ?_
        rcases am_if h with ⟨hc4, h⟩ | ⟨hc4, h⟩
        · refine ev_if_f (pc' := 41) rfl (by decide) rfl (cb_ne_f hc4) ?_
          refine ev_iload (pc' := 43) rfl rfl rfl ?_
          obtain rfl := Option.some.inj h
          exact ev_ireturn rfl rfl
        · refine ev_if_t (pc' := 44) rfl rfl (cb_ne_t hc4) ?_
          exact fx_Tasks_leastReady_b44_e (hk9 := fun h => ih h) h
def fx_Tasks_leastReady (N : Nat) (a1 : Int32) (a2 : Int32) (σ : am_S) : Option Int32 := fx_Tasks_leastReady_b9 N N a2 (a1 &&& (a2 ^^^ (-1 : Int32))) (0 : Int32) σ
set_option maxRecDepth 100000 in
theorem fx_Tasks_leastReady_e {X : Nat} {xs : Nat → Int32} {d : Nat} {N : Nat} {a1 : Int32} {a2 : Int32} {σ : am_S} {o : Int32} (h : fx_Tasks_leastReady N a1 a2 σ = some o) : am_Ev am_sh (am_exx X xs) (d + 0) mm_50 0 [.ref 78, .int a1, .int a2, .null, .null] [] σ (some (.int o)) σ := by
  unfold fx_Tasks_leastReady at h
  refine ev_iload_n (pc' := 1) rfl rfl rfl ?_
  refine ev_iload_n (pc' := 2) rfl rfl rfl ?_
  refine ev_iconst (pc' := 3) (b := (-1 : Int32)) rfl rfl rfl ?_
  refine ev_ixor (pc' := 4) rfl rfl ?_
  refine ev_iand (pc' := 5) rfl rfl ?_
  refine ev_istore_n (pc' := 6) (L' := [.ref 78, .int a1, .int a2, .int (a1 &&& (a2 ^^^ (-1 : Int32))), .null]) rfl rfl rfl rfl ?_
  refine ev_iconst (pc' := 7) (b := (0 : Int32)) rfl rfl rfl ?_
  refine ev_istore (pc' := 9) (L' := [.ref 78, .int a1, .int a2, .int (a1 &&& (a2 ^^^ (-1 : Int32))), .int (0 : Int32)]) rfl rfl rfl rfl ?_
  exact fx_Tasks_leastReady_b9_e h
/-! PartedLand$Tasks.arrange (78, 'I'): S -/
def fx_Tasks_arrange_b10 (N : Nat) : Nat → Int32 → Int32 → Int32 → Int32 → am_S → Option (Int32 × am_S)
  | 0, _, _, _, _, _ => none
  | n + 1, x1, x2, x3, x4, σ => (if x3 ≤ x4 then some ((1 : Int32), σ) else (fx_Tasks_leastReady N x1 x2 σ).bind fun q2 => (if 0 ≤ q2 then am_g (am_in x4 9) <| fx_Tasks_arrange_b10 N n x1 (x2 &&& (((1 : Int32) <<< (q2 &&& 31)) ^^^ (-1 : Int32))) x3 (x4 + (1 : Int32)) (am_up σ 81 x4.toNatClampNeg q2) else some ((0 : Int32), σ)))
set_option maxRecDepth 100000 in
theorem fx_Tasks_arrange_b10_e {X : Nat} {xs : Nat → Int32} {d : Nat} {N : Nat} : ∀ {n : Nat} {x1 : Int32} {x2 : Int32} {x3 : Int32} {x4 : Int32} {w5 : Value} {σ : am_S} {o : Int32 × am_S}, fx_Tasks_arrange_b10 N n x1 x2 x3 x4 σ = some o → am_Ev am_sh (am_exx X xs) (d + 1) mm_59 10 [.ref 78, .int x1, .int x2, .int x3, .int x4, w5] [] σ (some (.int o.1)) o.2 := by
  intro n
  induction n with
  | zero => intro x1 x2 x3 x4 w5 σ o h; cases h
  | succ n ih =>
    intro x1 x2 x3 x4 w5 σ o h
    unfold fx_Tasks_arrange_b10 at h
    refine ev_iload (pc' := 12) rfl rfl rfl ?_
    refine ev_iload_n (pc' := 13) rfl rfl rfl ?_
    rcases am_if h with ⟨hc1, h⟩ | ⟨hc1, h⟩
    · refine ev_ic_t (pc' := 55) rfl rfl (cb_ge_t hc1) ?_
      refine ev_iconst (pc' := 56) (b := (1 : Int32)) rfl rfl rfl ?_
      obtain rfl := Option.some.inj h
      exact ev_zreturn rfl rfl rfl
    · refine ev_ic_f (pc' := 16) rfl (by decide) rfl (cb_ge_f hc1) ?_
      refine ev_aload_n (pc' := 17) rfl rfl rfl ?_
      refine ev_iload_n (pc' := 18) rfl rfl rfl ?_
      refine ev_iload_n (pc' := 19) rfl rfl rfl ?_
      refine am_bd h (fun q2 hq2 h => ?_)
      refine ev_call (mi := 50) (as := [.ref 78, .int x1, .int x2]) (rest := []) rfl rfl (Nat.le_of_ble_eq_true rfl) (fx_Tasks_leastReady_e (d := d) hq2) ?_
      show am_Ev _ _ _ _ 22 _ _ _ _ _
      refine ev_istore (pc' := 24) (L' := [.ref 78, .int x1, .int x2, .int x3, .int x4, .int q2]) rfl rfl rfl rfl ?_
      refine ev_iload (pc' := 26) rfl rfl rfl ?_
      rcases am_if h with ⟨hc3, h⟩ | ⟨hc3, h⟩
      · refine ev_if_t (pc' := 31) rfl rfl (cb_ge_t hc3) ?_
        refine ev_aload_n (pc' := 32) rfl rfl rfl ?_
        refine ev_getfield (pc' := 35) (w := .ref 81) rfl rfl rfl rfl ?_
        refine ev_iload (pc' := 37) rfl rfl rfl ?_
        refine ev_iload (pc' := 39) rfl rfl rfl ?_
        obtain ⟨hg4, h⟩ := am_g_some h
        refine ev_iastore (pc' := 40) rfl rfl rfl hg4 ?_
        refine ev_iload_n (pc' := 41) rfl rfl rfl ?_
        refine ev_iconst (pc' := 42) (b := (1 : Int32)) rfl rfl rfl ?_
        refine ev_iload (pc' := 44) rfl rfl rfl ?_
        refine ev_ishl (pc' := 45) rfl rfl ?_
        refine ev_iconst (pc' := 46) (b := (-1 : Int32)) rfl rfl rfl ?_
        refine ev_ixor (pc' := 47) rfl rfl ?_
        refine ev_iand (pc' := 48) rfl rfl ?_
        refine ev_istore_n (pc' := 49) (L' := [.ref 78, .int x1, .int (x2 &&& (((1 : Int32) <<< (q2 &&& 31)) ^^^ (-1 : Int32))), .int x3, .int x4, .int q2]) rfl rfl rfl rfl ?_
        refine ev_iinc (pc' := 52) (L' := [.ref 78, .int x1, .int (x2 &&& (((1 : Int32) <<< (q2 &&& 31)) ^^^ (-1 : Int32))), .int x3, .int (x4 + (1 : Int32)), .int q2]) (b := (1 : Int32)) rfl rfl rfl rfl rfl ?_
        refine ev_goto (pc' := 10) rfl rfl ?_
        exact ih h
      · refine ev_if_f (pc' := 29) rfl (by decide) rfl (cb_ge_f hc3) ?_
        refine ev_iconst (pc' := 30) (b := (0 : Int32)) rfl rfl rfl ?_
        obtain rfl := Option.some.inj h
        exact ev_zreturn rfl rfl rfl
def fx_Tasks_arrange (N : Nat) (a1 : Int32) (σ : am_S) : Option (Int32 × am_S) := fx_Tasks_arrange_b10 N N a1 a1 (fx_Int_bitCount a1 σ) (0 : Int32) σ
set_option maxRecDepth 100000 in
theorem fx_Tasks_arrange_e {X : Nat} {xs : Nat → Int32} {d : Nat} {N : Nat} {a1 : Int32} {σ : am_S} {o : Int32 × am_S} (h : fx_Tasks_arrange N a1 σ = some o) : am_Ev am_sh (am_exx X xs) (d + 1) mm_59 0 [.ref 78, .int a1, .null, .null, .null, .null] [] σ (some (.int o.1)) o.2 := by
  unfold fx_Tasks_arrange at h
  refine ev_iload_n (pc' := 1) rfl rfl rfl ?_
  refine ev_istore_n (pc' := 2) (L' := [.ref 78, .int a1, .int a1, .null, .null, .null]) rfl rfl rfl rfl ?_
  refine ev_iload_n (pc' := 3) rfl rfl rfl ?_
  refine ev_call (mi := 217) (as := [.int a1]) (rest := []) rfl rfl (Nat.le_of_ble_eq_true rfl) (fx_Int_bitCount_e (d := d) rfl) ?_
  show am_Ev _ _ _ _ 6 _ _ _ _ _
  refine ev_istore_n (pc' := 7) (L' := [.ref 78, .int a1, .int a1, .int (fx_Int_bitCount a1 σ), .null, .null]) rfl rfl rfl rfl ?_
  refine ev_iconst (pc' := 8) (b := (0 : Int32)) rfl rfl rfl ?_
  refine ev_istore (pc' := 10) (L' := [.ref 78, .int a1, .int a1, .int (fx_Int_bitCount a1 σ), .int (0 : Int32), .null]) rfl rfl rfl rfl ?_
  exact fx_Tasks_arrange_b10_e h
