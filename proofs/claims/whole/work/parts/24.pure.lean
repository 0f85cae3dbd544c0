/-! PartedLand$Tasks.isTrialLesser (78,): P -/
def fx_Tasks_isTrialLesser_b2 (N : Nat) : Nat → Int32 → am_S → Option Int32
  | 0, _, _ => none
  | n + 1, x1, σ => (if (σ 78 5) ≤ x1 then some (0 : Int32) else am_g (am_in x1 9) <| am_g (am_in x1 9) <| (if (σ 81 x1.toNatClampNeg) = (σ 82 x1.toNatClampNeg) then fx_Tasks_isTrialLesser_b2 N n (x1 + (1 : Int32)) σ else am_g (am_in x1 9) <| am_g (am_in x1 9) <| (if (σ 82 x1.toNatClampNeg) ≤ (σ 81 x1.toNatClampNeg) then some (0 : Int32) else some (1 : Int32))))
set_option maxRecDepth 100000 in
theorem fx_Tasks_isTrialLesser_b2_e {X : Nat} {xs : Nat → Int32} {d : Nat} {N : Nat} : ∀ {n : Nat} {x1 : Int32} {σ : am_S} {o : Int32}, fx_Tasks_isTrialLesser_b2 N n x1 σ = some o → am_Ev am_sh (am_exx X xs) (d + 0) mm_51 2 [.ref 78, .int x1] [] σ (some (.int o)) σ := by
  intro n
  induction n with
  | zero => intro x1 σ o h; cases h
  | succ n ih =>
    intro x1 σ o h
    unfold fx_Tasks_isTrialLesser_b2 at h
    refine ev_iload_n (pc' := 3) rfl rfl rfl ?_
    refine ev_aload_n (pc' := 4) rfl rfl rfl ?_
    refine ev_getfield (pc' := 7) (w := .int (σ 78 5)) rfl rfl rfl rfl ?_
    rcases am_if h with ⟨hc1, h⟩ | ⟨hc1, h⟩
    · refine ev_ic_t (pc' := 52) rfl rfl (cb_ge_t hc1) ?_
      refine ev_iconst (pc' := 53) (b := (0 : Int32)) rfl rfl rfl ?_
      obtain rfl := Option.some.inj h
      exact ev_zreturn rfl rfl rfl
    · refine ev_ic_f (pc' := 10) rfl (by decide) rfl (cb_ge_f hc1) ?_
      refine ev_aload_n (pc' := 11) rfl rfl rfl ?_
      refine ev_getfield (pc' := 14) (w := .ref 81) rfl rfl rfl rfl ?_
      refine ev_iload_n (pc' := 15) rfl rfl rfl ?_
      obtain ⟨hg2, h⟩ := am_g_some h
      refine ev_iaload (pc' := 16) rfl rfl rfl hg2 ?_
      refine ev_aload_n (pc' := 17) rfl rfl rfl ?_
      refine ev_getfield (pc' := 20) (w := .ref 82) rfl rfl rfl rfl ?_
      refine ev_iload_n (pc' := 21) rfl rfl rfl ?_
      obtain ⟨hg3, h⟩ := am_g_some h
      refine ev_iaload (pc' := 22) rfl rfl rfl hg3 ?_
      rcases am_if h with ⟨hc4, h⟩ | ⟨hc4, h⟩
      · refine ev_ic_t (pc' := 46) rfl rfl (cb_eq_t hc4) ?_
        refine ev_iinc (pc' := 49) (L' := [.ref 78, .int (x1 + (1 : Int32))]) (b := (1 : Int32)) rfl rfl rfl rfl rfl ?_
        refine ev_goto (pc' := 2) rfl rfl ?_
        exact ih h
      · refine ev_ic_f (pc' := 25) rfl (by decide) rfl (cb_eq_f hc4) ?_
        refine ev_aload_n (pc' := 26) rfl rfl rfl ?_
        refine ev_getfield (pc' := 29) (w := .ref 81) rfl rfl rfl rfl ?_
        refine ev_iload_n (pc' := 30) rfl rfl rfl ?_
        obtain ⟨hg5, h⟩ := am_g_some h
        refine ev_iaload (pc' := 31) rfl rfl rfl hg5 ?_
        refine ev_aload_n (pc' := 32) rfl rfl rfl ?_
        refine ev_getfield (pc' := 35) (w := .ref 82) rfl rfl rfl rfl ?_
        refine ev_iload_n (pc' := 36) rfl rfl rfl ?_
        obtain ⟨hg6, h⟩ := am_g_some h
        refine ev_iaload (pc' := 37) rfl rfl rfl hg6 ?_
        rcases am_if h with ⟨hc7, h⟩ | ⟨hc7, h⟩
        · refine ev_ic_t (pc' := 44) rfl rfl (cb_ge_t hc7) ?_
          refine ev_iconst (pc' := 45) (b := (0 : Int32)) rfl rfl rfl ?_
          obtain rfl := Option.some.inj h
          exact ev_zreturn rfl rfl rfl
        · refine ev_ic_f (pc' := 40) rfl (by decide) rfl (cb_ge_f hc7) ?_
          refine ev_iconst (pc' := 41) (b := (1 : Int32)) rfl rfl rfl ?_
          refine ev_goto (pc' := 45) rfl rfl ?_
          obtain rfl := Option.some.inj h
          exact ev_zreturn rfl rfl rfl
def fx_Tasks_isTrialLesser (N : Nat) (σ : am_S) : Option Int32 := fx_Tasks_isTrialLesser_b2 N N (0 : Int32) σ
set_option maxRecDepth 100000 in
theorem fx_Tasks_isTrialLesser_e {X : Nat} {xs : Nat → Int32} {d : Nat} {N : Nat} {σ : am_S} {o : Int32} (h : fx_Tasks_isTrialLesser N σ = some o) : am_Ev am_sh (am_exx X xs) (d + 0) mm_51 0 [.ref 78, .null] [] σ (some (.int o)) σ := by
  unfold fx_Tasks_isTrialLesser at h
  refine ev_iconst (pc' := 1) (b := (0 : Int32)) rfl rfl rfl ?_
  refine ev_istore_n (pc' := 2) (L' := [.ref 78, .int (0 : Int32)]) rfl rfl rfl rfl ?_
  exact fx_Tasks_isTrialLesser_b2_e h
/-! PartedLand$Tasks.findBest (78, 'I'): S -/
def fx_Tasks_findBest_b110 (N : Nat) (k12 : Int32 → Int32 → am_S → Option am_S) (x1 : Int32) (x2 : Int32) (σ : am_S) : Option am_S := k12 x1 (x2 + (1 : Int32)) σ
set_option maxRecDepth 100000 in
theorem fx_Tasks_findBest_b110_e {X : Nat} {xs : Nat → Int32} {d : Nat} {N : Nat} {k12 : Int32 → Int32 → am_S → Option am_S} (hk12 : ∀ {x1 : Int32} {x2 : Int32} {w3 : Value} {w4 : Value} {σ : am_S} {o : am_S}, k12 x1 x2 σ = some o → am_Ev am_sh (am_exx X xs) (d + 2) mm_56 12 [.ref 78, .int x1, .int x2, w3, w4] [] σ (none) o) {x1 : Int32} {x2 : Int32} {w3 : Value} {w4 : Value} {σ : am_S} {o : am_S} (h : fx_Tasks_findBest_b110 N k12 x1 x2 σ = some o) : am_Ev am_sh (am_exx X xs) (d + 2) mm_56 110 [.ref 78, .int x1, .int x2, w3, w4] [] σ (none) o := by
  unfold fx_Tasks_findBest_b110 at h
  refine ev_iinc (pc' := 113) (L' := [.ref 78, .int x1, .int (x2 + (1 : Int32)), w3, w4]) (b := (1 : Int32)) rfl rfl rfl rfl rfl ?_
  refine ev_goto (pc' := 12) rfl rfl ?_
  exact hk12 h
def fx_Tasks_findBest_b84 (N : Nat) (k12 : Int32 → Int32 → am_S → Option am_S) (x1 : Int32) (x2 : Int32) (x3 : Int32) (x4 : Int32) (σ : am_S) : Option am_S := am_g (am_cpy am_sh 81 82 (0 : Int32) (0 : Int32) x4) <| fx_Tasks_findBest_b110 N k12 x1 x2 (am_set (am_up (am_up σ 78 5 x4) 78 6 x3) 82 (va_cpy ((am_up (am_up σ 78 5 x4) 78 6 x3) 81) ((am_up (am_up σ 78 5 x4) 78 6 x3) 82) (0 : Int32).toNatClampNeg (0 : Int32).toNatClampNeg x4.toNatClampNeg))
set_option maxRecDepth 100000 in
theorem fx_Tasks_findBest_b84_e {X : Nat} {xs : Nat → Int32} {d : Nat} {N : Nat} {k12 : Int32 → Int32 → am_S → Option am_S} (hk12 : ∀ {x1 : Int32} {x2 : Int32} {w3 : Value} {w4 : Value} {σ : am_S} {o : am_S}, k12 x1 x2 σ = some o → am_Ev am_sh (am_exx X xs) (d + 2) mm_56 12 [.ref 78, .int x1, .int x2, w3, w4] [] σ (none) o) {x1 : Int32} {x2 : Int32} {x3 : Int32} {x4 : Int32} {σ : am_S} {o : am_S} (h : fx_Tasks_findBest_b84 N k12 x1 x2 x3 x4 σ = some o) : am_Ev am_sh (am_exx X xs) (d + 2) mm_56 84 [.ref 78, .int x1, .int x2, .int x3, .int x4] [] σ (none) o := by
  unfold fx_Tasks_findBest_b84 at h
  refine ev_aload_n (pc' := 85) rfl rfl rfl ?_
  refine ev_iload (pc' := 87) rfl rfl rfl ?_
  refine ev_putfield (pc' := 90) (ci := 6) (f := 5) (z := 0) rfl rfl rfl rfl rfl ?_
  refine ev_aload_n (pc' := 91) rfl rfl rfl ?_
  refine ev_iload_n (pc' := 92) rfl rfl rfl ?_
  refine ev_putfield (pc' := 95) (ci := 6) (f := 6) (z := 0) rfl rfl rfl rfl rfl ?_
  refine ev_aload_n (pc' := 96) rfl rfl rfl ?_
  refine ev_getfield (pc' := 99) (w := .ref 81) rfl rfl rfl rfl ?_
  refine ev_iconst (pc' := 100) (b := (0 : Int32)) rfl rfl rfl ?_
  refine ev_aload_n (pc' := 101) rfl rfl rfl ?_
  refine ev_getfield (pc' := 104) (w := .ref 82) rfl rfl rfl rfl ?_
  refine ev_iconst (pc' := 105) (b := (0 : Int32)) rfl rfl rfl ?_
  refine ev_iload (pc' := 107) rfl rfl rfl ?_
  obtain ⟨hg1, h⟩ := am_g_some h
  refine ev_copy (pc' := 110) rfl rfl rfl rfl hg1 ?_
  exact fx_Tasks_findBest_b110_e (hk12 := hk12) h
def fx_Tasks_findBest_b12 (N : Nat) : Nat → Int32 → Int32 → am_S → Option am_S
  | 0, _, _, _ => none
  | n + 1, x1, x2, σ => (if ((1 : Int32) <<< ((σ 78 4) &&& 31)) ≤ x2 then some σ else (fx_Tasks_daysOf N x2 σ).bind fun q2 => (if x1 < q2 then fx_Tasks_findBest_b110 N (fun x1 x2 σ => fx_Tasks_findBest_b12 N n x1 x2 σ) x1 x2 σ else (if (fx_Tasks_canBeBest (fx_Int_bitCount x2 σ) q2 σ) = 0 then fx_Tasks_findBest_b110 N (fun x1 x2 σ => fx_Tasks_findBest_b12 N n x1 x2 σ) x1 x2 σ else (fx_Tasks_arrange N x2 σ).bind fun q5 => (if q5.1 = 0 then fx_Tasks_findBest_b110 N (fun x1 x2 σ => fx_Tasks_findBest_b12 N n x1 x2 σ) x1 x2 q5.2 else (if (q5.2 78 5) < (fx_Int_bitCount x2 σ) then fx_Tasks_findBest_b84 N (fun x1 x2 σ => fx_Tasks_findBest_b12 N n x1 x2 σ) x1 x2 q2 (fx_Int_bitCount x2 σ) q5.2 else (if q2 < (q5.2 78 6) then fx_Tasks_findBest_b84 N (fun x1 x2 σ => fx_Tasks_findBest_b12 N n x1 x2 σ) x1 x2 q2 (fx_Int_bitCount x2 σ) q5.2 else (fx_Tasks_isTrialLesser N q5.2).bind fun q9 => (if q9 = 0 then fx_Tasks_findBest_b110 N (fun x1 x2 σ => fx_Tasks_findBest_b12 N n x1 x2 σ) x1 x2 q5.2 else fx_Tasks_findBest_b84 N (fun x1 x2 σ => fx_Tasks_findBest_b12 N n x1 x2 σ) x1 x2 q2 (fx_Int_bitCount x2 σ) q5.2)))))))
set_option maxRecDepth 100000 in
theorem fx_Tasks_findBest_b12_e {X : Nat} {xs : Nat → Int32} {d : Nat} {N : Nat} : ∀ {n : Nat} {x1 : Int32} {x2 : Int32} {w3 : Value} {w4 : Value} {σ : am_S} {o : am_S}, fx_Tasks_findBest_b12 N n x1 x2 σ = some o → am_Ev am_sh (am_exx X xs) (d + 2) mm_56 12 [.ref 78, .int x1, .int x2, w3, w4] [] σ (none) o := by
  intro n
  induction n with
  | zero => intro x1 x2 w3 w4 σ o h; cases h
  | succ n ih =>
    intro x1 x2 w3 w4 σ o h
    unfold fx_Tasks_findBest_b12 at h
    refine ev_iload_n (pc' := 13) rfl rfl rfl ?_
    refine ev_iconst (pc' := 14) (b := (1 : Int32)) rfl rfl rfl ?_
    refine ev_aload_n (pc' := 15) rfl rfl rfl ?_
    refine ev_getfield (pc' := 18) (w := .int (σ 78 4)) rfl rfl rfl rfl ?_
    refine ev_ishl (pc' := 19) rfl rfl ?_
    rcases am_if h with ⟨hc1, h⟩ | ⟨hc1, h⟩
    · refine ev_ic_t (pc' := 116) rfl rfl (cb_ge_t hc1) ?_
      obtain rfl := Option.some.inj h
      exact ev_return rfl rfl
    · refine ev_ic_f (pc' := 22) rfl (by decide) rfl (cb_ge_f hc1) ?_
      refine ev_aload_n (pc' := 23) rfl rfl rfl ?_
      refine ev_iload_n (pc' := 24) rfl rfl rfl ?_
      refine am_bd h (fun q2 hq2 h => ?_)
      refine ev_call (mi := 58) (as := [.ref 78, .int x2]) (rest := []) rfl rfl (Nat.le_of_ble_eq_true rfl) (fx_Tasks_daysOf_e (d := d + 1) hq2) ?_
      show am_Ev _ _ _ _ 27 _ _ _ _ _
      refine ev_istore_n (pc' := 28) (L' := [.ref 78, .int x1, .int x2, .int q2, w4]) rfl rfl rfl rfl ?_
      refine ev_iload_n (pc' := 29) rfl rfl rfl ?_
      refine ev_call (mi := 217) (as := [.int x2]) (rest := []) rfl rfl (Nat.le_of_ble_eq_true rfl) (fx_Int_bitCount_e (d := d + 1) rfl) ?_
      show am_Ev _ _ _ _ 32 _ _ _ _ _
      refine ev_istore (pc' := 34) (L' := [.ref 78, .int x1, .int x2, .int q2, .int (fx_Int_bitCount x2 σ)]) rfl rfl rfl rfl ?_
      refine ev_iload_n (pc' := 35) rfl rfl rfl ?_
      refine ev_iload_n (pc' := 36) rfl rfl rfl ?_
      rcases am_if h with ⟨hc3, h⟩ | ⟨hc3, h⟩
      · refine ev_ic_t (pc' := 110) rfl rfl (cb_gt_t hc3) ?_
        exact fx_Tasks_findBest_b110_e (hk12 := fun h => ih h) h
      · refine ev_ic_f (pc' := 39) rfl (by decide) rfl (cb_gt_f hc3) ?_
        refine ev_aload_n (pc' := 40) rfl rfl rfl ?_
        refine ev_iload (pc' := 42) rfl rfl rfl ?_
        refine ev_iload_n (pc' := 43) rfl rfl rfl ?_
        refine ev_call (mi := 57) (as := [.ref 78, .int (fx_Int_bitCount x2 σ), .int q2]) (rest := []) rfl rfl (Nat.le_of_ble_eq_true rfl) (fx_Tasks_canBeBest_e (d := d + 1) rfl) ?_
        show am_Ev _ _ _ _ 46 _ _ _ _ _
        rcases am_if h with ⟨hc4, h⟩ | ⟨hc4, h⟩
        · refine ev_if_t (pc' := 110) rfl rfl (cb_eq_t hc4) ?_
          exact fx_Tasks_findBest_b110_e (hk12 := fun h => ih h) h
        · refine ev_if_f (pc' := 49) rfl (by decide) rfl (cb_eq_f hc4) ?_
          refine ev_aload_n (pc' := 50) rfl rfl rfl ?_
          refine ev_iload_n (pc' := 51) rfl rfl rfl ?_
          refine am_bd h (fun q5 hq5 h => ?_)
          refine ev_call (mi := 59) (as := [.ref 78, .int x2]) (rest := []) rfl rfl (Nat.le_of_ble_eq_true rfl) (fx_Tasks_arrange_e (d := d) hq5) ?_
          show am_Ev _ _ _ _ 54 _ _ _ _ _
          rcases am_if h with ⟨hc6, h⟩ | ⟨hc6, h⟩
          · refine ev_if_f (pc' := 57) rfl (by decide) rfl (cb_ne_f hc6) ?_
            refine ev_goto (pc' := 110) rfl rfl ?_
            exact fx_Tasks_findBest_b110_e (hk12 := fun h => ih h) h
          · refine ev_if_t (pc' := 60) rfl rfl (cb_ne_t hc6) ?_
            refine ev_iload (pc' := 62) rfl rfl rfl ?_
            refine ev_aload_n (pc' := 63) rfl rfl rfl ?_
            refine ev_getfield (pc' := 66) (w := .int (q5.2 78 5)) rfl rfl rfl rfl ?_
            rcases am_if h with ⟨hc7, h⟩ | ⟨hc7, h⟩
            · refine ev_ic_t (pc' := 84) rfl rfl (cb_gt_t hc7) ?_
              exact fx_Tasks_findBest_b84_e (hk12 := fun h => ih h) h
            · refine ev_ic_f (pc' := 69) rfl (by decide) rfl (cb_gt_f hc7) ?_
              refine ev_iload_n (pc' := 70) rfl rfl rfl ?_
              refine ev_aload_n (pc' := 71) rfl rfl rfl ?_
              refine ev_getfield (pc' := 74) (w := .int (q5.2 78 6)) rfl rfl rfl rfl ?_
              rcases am_if h with ⟨hc8, h⟩ | ⟨hc8, h⟩
              · refine ev_ic_t (pc' := 84) rfl rfl (cb_lt_t hc8) ?_
                exact fx_Tasks_findBest_b84_e (hk12 := fun h => ih h) h
              · refine ev_ic_f (pc' := 77) rfl (by decide) rfl (cb_lt_f hc8) ?_
                refine ev_aload_n (pc' := 78) rfl rfl rfl ?_
                refine am_bd h (fun q9 hq9 h => ?_)
                refine ev_call (mi := 51) (as := [.ref 78]) (rest := []) rfl rfl (Nat.le_of_ble_eq_true rfl) (fx_Tasks_isTrialLesser_e (d := d + 1) hq9) ?_
                show am_Ev _ _ _ _ 81 _ _ _ _ _
                rcases am_if h with ⟨hc10, h⟩ | ⟨hc10, h⟩
                · refine ev_if_t (pc' := 110) rfl rfl (cb_eq_t hc10) ?_
                  exact fx_Tasks_findBest_b110_e (hk12 := fun h => ih h) h
                · refine ev_if_f (pc' := 84) rfl (by decide) rfl (cb_eq_f hc10) ?_
                  exact fx_Tasks_findBest_b84_e (hk12 := fun h => ih h) h
def fx_Tasks_findBest (N : Nat) (a1 : Int32) (σ : am_S) : Option am_S := fx_Tasks_findBest_b12 N N a1 (1 : Int32) (am_up (am_up σ 78 5 (0 : Int32)) 78 6 (0 : Int32))
set_option maxRecDepth 100000 in
theorem fx_Tasks_findBest_e {X : Nat} {xs : Nat → Int32} {d : Nat} {N : Nat} {a1 : Int32} {σ : am_S} {o : am_S} (h : fx_Tasks_findBest N a1 σ = some o) : am_Ev am_sh (am_exx X xs) (d + 2) mm_56 0 [.ref 78, .int a1, .null, .null, .null] [] σ (none) o := by
  unfold fx_Tasks_findBest at h
  refine ev_aload_n (pc' := 1) rfl rfl rfl ?_
  refine ev_iconst (pc' := 2) (b := (0 : Int32)) rfl rfl rfl ?_
  refine ev_putfield (pc' := 5) (ci := 6) (f := 5) (z := 0) rfl rfl rfl rfl rfl ?_
  refine ev_aload_n (pc' := 6) rfl rfl rfl ?_
  refine ev_iconst (pc' := 7) (b := (0 : Int32)) rfl rfl rfl ?_
  refine ev_putfield (pc' := 10) (ci := 6) (f := 6) (z := 0) rfl rfl rfl rfl rfl ?_
  refine ev_iconst (pc' := 11) (b := (1 : Int32)) rfl rfl rfl ?_
  refine ev_istore_n (pc' := 12) (L' := [.ref 78, .int a1, .int (1 : Int32), .null, .null]) rfl rfl rfl rfl ?_
  exact fx_Tasks_findBest_b12_e h
/-! PartedLand.best (0, 'I'): S -/
def fx_best (N : Nat) (a1 : Int32) (σ : am_S) : Option (Int32 × am_S) := (if (-2 : Int32) ≤ a1 then (fx_Tasks_findBest N ((365 : Int32) - (σ 0 12)) σ).bind fun q2 => (if a1 = (-1 : Int32) then some ((q2 78 5), q2) else (if a1 = (-2 : Int32) then some ((q2 78 6), q2) else (if (q2 78 5) ≤ a1 then (fx_finding (-1000000002 : Int32) q2).bind fun q6 => some (q6.1, q6.2) else am_g (am_in a1 9) <| some ((q2 82 a1.toNatClampNeg), q2)))) else (fx_finding (-1000000001 : Int32) σ).bind fun q8 => some (q8.1, q8.2))
set_option maxRecDepth 100000 in
theorem fx_best_e {X : Nat} {xs : Nat → Int32} {d : Nat} {N : Nat} {a1 : Int32} {σ : am_S} {o : Int32 × am_S} (h : fx_best N a1 σ = some o) : am_Ev am_sh (am_exx X xs) (d + 3) mm_124 0 [.ref 0, .int a1] [] σ (some (.int o.1)) o.2 := by
  unfold fx_best at h
  refine ev_iload_n (pc' := 1) rfl rfl rfl ?_
  refine ev_bipush (pc' := 3) (b := (-2 : Int32)) rfl rfl rfl ?_
  rcases am_if h with ⟨hc1, h⟩ | ⟨hc1, h⟩
  · refine ev_ic_t (pc' := 13) rfl rfl (cb_ge_t hc1) ?_
    refine ev_aload_n (pc' := 14) rfl rfl rfl ?_
    refine ev_getfield (pc' := 17) (w := .ref 78) rfl rfl rfl rfl ?_
    refine ev_sipush (pc' := 20) (b := (365 : Int32)) rfl rfl rfl ?_
    refine ev_aload_n (pc' := 21) rfl rfl rfl ?_
    refine ev_getfield (pc' := 24) (w := .int (σ 0 12)) rfl rfl rfl rfl ?_
    refine ev_isub (pc' := 25) rfl rfl ?_
    refine am_bd h (fun q2 hq2 h => ?_)
    refine ev_call (mi := 56) (as := [.ref 78, .int ((365 : Int32) - (σ 0 12))]) (rest := []) rfl rfl (Nat.le_of_ble_eq_true rfl) (fx_Tasks_findBest_e (d := d) hq2) ?_
    show am_Ev _ _ _ _ 28 _ _ _ _ _
    refine ev_iload_n (pc' := 29) rfl rfl rfl ?_
    refine ev_iconst (pc' := 30) (b := (-1 : Int32)) rfl rfl rfl ?_
    rcases am_if h with ⟨hc3, h⟩ | ⟨hc3, h⟩
    · refine ev_ic_f (pc' := 33) rfl (by decide) rfl (cb_ne_f hc3) ?_
      refine ev_aload_n (pc' := 34) rfl rfl rfl ?_
      refine ev_getfield (pc' := 37) (w := .ref 78) rfl rfl rfl rfl ?_
      refine ev_getfield (pc' := 40) (w := .int (q2 78 5)) rfl rfl rfl rfl ?_
      obtain rfl := Option.some.inj h
      exact ev_ireturn rfl rfl
    · refine ev_ic_t (pc' := 41) rfl rfl (cb_ne_t hc3) ?_
      refine ev_iload_n (pc' := 42) rfl rfl rfl ?_
      refine ev_bipush (pc' := 44) (b := (-2 : Int32)) rfl rfl rfl ?_
      rcases am_if h with ⟨hc4, h⟩ | ⟨hc4, h⟩
      · refine ev_ic_f (pc' := 47) rfl (by decide) rfl (cb_ne_f hc4) ?_
        refine ev_aload_n (pc' := 48) rfl rfl rfl ?_
        refine ev_getfield (pc' := 51) (w := .ref 78) rfl rfl rfl rfl ?_
        refine ev_getfield (pc' := 54) (w := .int (q2 78 6)) rfl rfl rfl rfl ?_
        obtain rfl := Option.some.inj h
        exact ev_ireturn rfl rfl
      · refine ev_ic_t (pc' := 55) rfl rfl (cb_ne_t hc4) ?_
        refine ev_iload_n (pc' := 56) rfl rfl rfl ?_
        refine ev_aload_n (pc' := 57) rfl rfl rfl ?_
        refine ev_getfield (pc' := 60) (w := .ref 78) rfl rfl rfl rfl ?_
        refine ev_getfield (pc' := 63) (w := .int (q2 78 5)) rfl rfl rfl rfl ?_
        rcases am_if h with ⟨hc5, h⟩ | ⟨hc5, h⟩
        · refine ev_ic_t (pc' := 78) rfl rfl (cb_ge_t hc5) ?_
          refine ev_aload_n (pc' := 79) rfl rfl rfl ?_
          refine ev_ldc (pc' := 81) (b := (-1000000002 : Int32)) rfl rfl rfl ?_
          refine am_bd h (fun q6 hq6 h => ?_)
          refine ev_call (mi := 129) (as := [.ref 0, .int (-1000000002 : Int32)]) (rest := []) rfl rfl (Nat.le_of_ble_eq_true rfl) (fx_finding_e (d := d + 2) hq6) ?_
          show am_Ev _ _ _ _ 84 _ _ _ _ _
          obtain rfl := Option.some.inj h
          exact ev_ireturn rfl rfl
        · refine ev_ic_f (pc' := 66) rfl (by decide) rfl (cb_ge_f hc5) ?_
          refine ev_aload_n (pc' := 67) rfl rfl rfl ?_
          refine ev_getfield (pc' := 70) (w := .ref 78) rfl rfl rfl rfl ?_
          refine ev_getfield (pc' := 73) (w := .ref 82) rfl rfl rfl rfl ?_
          refine ev_iload_n (pc' := 74) rfl rfl rfl ?_
          obtain ⟨hg7, h⟩ := am_g_some h
          refine ev_iaload (pc' := 75) rfl rfl rfl hg7 ?_
          refine ev_goto (pc' := 84) rfl rfl ?_
          obtain rfl := Option.some.inj h
          exact ev_ireturn rfl rfl
  · refine ev_ic_f (pc' := 6) rfl (by decide) rfl (cb_ge_f hc1) ?_
    refine ev_aload_n (pc' := 7) rfl rfl rfl ?_
    refine ev_ldc (pc' := 9) (b := (-1000000001 : Int32)) rfl rfl rfl ?_
    refine am_bd h (fun q8 hq8 h => ?_)
    refine ev_call (mi := 129) (as := [.ref 0, .int (-1000000001 : Int32)]) (rest := []) rfl rfl (Nat.le_of_ble_eq_true rfl) (fx_finding_e (d := d + 2) hq8) ?_
    show am_Ev _ _ _ _ 12 _ _ _ _ _
    obtain rfl := Option.some.inj h
    exact ev_ireturn rfl rfl
/-! PartedLand.tell (0, 'I'): S -/
def fx_tell (a1 : Int32) (σ : am_S) : Option (Int32 × am_S) := (if (σ 0 11) < (16 : Int32) then am_g (am_in (σ 0 11) 16) <| some (((σ 0 11) + (1 : Int32)), (am_up (am_up σ 84 (σ 0 11).toNatClampNeg a1) 0 11 ((σ 0 11) + (1 : Int32)))) else (fx_finding (-1000000004 : Int32) σ).bind fun q3 => some (q3.1, q3.2))
set_option maxRecDepth 100000 in
theorem fx_tell_e {X : Nat} {xs : Nat → Int32} {d : Nat} {a1 : Int32} {σ : am_S} {o : Int32 × am_S} (h : fx_tell a1 σ = some o) : am_Ev am_sh (am_exx X xs) (d + 1) mm_125 0 [.ref 0, .int a1] [] σ (some (.int o.1)) o.2 := by
  unfold fx_tell at h
  refine ev_aload_n (pc' := 1) rfl rfl rfl ?_
  refine ev_getfield (pc' := 4) (w := .int (σ 0 11)) rfl rfl rfl rfl ?_
  refine ev_bipush (pc' := 6) (b := (16 : Int32)) rfl rfl rfl ?_
  rcases am_if h with ⟨hc1, h⟩ | ⟨hc1, h⟩
  · refine ev_ic_t (pc' := 16) rfl rfl (cb_lt_t hc1) ?_
    refine ev_aload_n (pc' := 17) rfl rfl rfl ?_
    refine ev_getfield (pc' := 20) (w := .ref 84) rfl rfl rfl rfl ?_
    refine ev_aload_n (pc' := 21) rfl rfl rfl ?_
    refine ev_getfield (pc' := 24) (w := .int (σ 0 11)) rfl rfl rfl rfl ?_
    refine ev_iload_n (pc' := 25) rfl rfl rfl ?_
    obtain ⟨hg2, h⟩ := am_g_some h
    refine ev_iastore (pc' := 26) rfl rfl rfl hg2 ?_
    refine ev_aload_n (pc' := 27) rfl rfl rfl ?_
    refine ev_dup (pc' := 28) rfl rfl ?_
    refine ev_getfield (pc' := 31) (w := .int (σ 0 11)) rfl rfl rfl rfl ?_
    refine ev_iconst (pc' := 32) (b := (1 : Int32)) rfl rfl rfl ?_
    refine ev_iadd (pc' := 33) rfl rfl ?_
    refine ev_putfield (pc' := 36) (ci := 10) (f := 11) (z := 0) rfl rfl rfl rfl rfl ?_
    refine ev_aload_n (pc' := 37) rfl rfl rfl ?_
    refine ev_getfield (pc' := 40) (w := .int ((σ 0 11) + (1 : Int32))) rfl rfl rfl rfl ?_
    obtain rfl := Option.some.inj h
    exact ev_ireturn rfl rfl
  · refine ev_ic_f (pc' := 9) rfl (by decide) rfl (cb_lt_f hc1) ?_
    refine ev_aload_n (pc' := 10) rfl rfl rfl ?_
    refine ev_ldc (pc' := 12) (b := (-1000000004 : Int32)) rfl rfl rfl ?_
    refine am_bd h (fun q3 hq3 h => ?_)
    refine ev_call (mi := 129) (as := [.ref 0, .int (-1000000004 : Int32)]) (rest := []) rfl rfl (Nat.le_of_ble_eq_true rfl) (fx_finding_e (d := d) hq3) ?_
    show am_Ev _ _ _ _ 15 _ _ _ _ _
    obtain rfl := Option.some.inj h
    exact ev_ireturn rfl rfl
/-! PartedLand.check (0,): S -/
def fx_check_b56 (N : Nat) (x2 : Int32) (σ : am_S) : Option (Int32 × am_S) := some (((1 : Int32) + x2), σ)
set_option maxRecDepth 100000 in
theorem fx_check_b56_e {X : Nat} {xs : Nat → Int32} {d : Nat} {N : Nat} {x2 : Int32} {w0 : Value} {w1 : Value} {σ : am_S} {o : Int32 × am_S} (h : fx_check_b56 N x2 σ = some o) : am_Ev am_sh (am_exx X xs) (d + 5) mm_126 56 [w0, w1, .int x2] [] σ (some (.int o.1)) o.2 := by
  unfold fx_check_b56 at h
  refine ev_iconst (pc' := 57) (b := (1 : Int32)) rfl rfl rfl ?_
  refine ev_iload_n (pc' := 58) rfl rfl rfl ?_
  refine ev_iadd (pc' := 59) rfl rfl ?_
  obtain rfl := Option.some.inj h
  exact ev_ireturn rfl rfl
def fx_check_b12 (N : Nat) : Nat → Int32 → Int32 → am_S → Option (Int32 × am_S)
  | 0, _, _, _ => none
  | n + 1, x1, x2, σ => (if x1 ≤ x2 then some ((0 : Int32), σ) else (if (fx_People_hasPerson x2 σ) = 0 then fx_check_b56 N x2 σ else (fx_People_ownerBy N x2 σ).bind fun q3 => am_g (am_in x2 16) <| (if q3 = (σ 84 x2.toNatClampNeg) then fx_check_b12 N n x1 (x2 + (1 : Int32)) σ else fx_check_b56 N x2 σ)))
set_option maxRecDepth 100000 in
theorem fx_check_b12_e {X : Nat} {xs : Nat → Int32} {d : Nat} {N : Nat} : ∀ {n : Nat} {x1 : Int32} {x2 : Int32} {σ : am_S} {o : Int32 × am_S}, fx_check_b12 N n x1 x2 σ = some o → am_Ev am_sh (am_exx X xs) (d + 5) mm_126 12 [.ref 0, .int x1, .int x2] [] σ (some (.int o.1)) o.2 := by
  intro n
  induction n with
  | zero => intro x1 x2 σ o h; cases h
  | succ n ih =>
    intro x1 x2 σ o h
    unfold fx_check_b12 at h
    refine ev_iload_n (pc' := 13) rfl rfl rfl ?_
    refine ev_iload_n (pc' := 14) rfl rfl rfl ?_
    rcases am_if h with ⟨hc1, h⟩ | ⟨hc1, h⟩
    · refine ev_ic_t (pc' := 66) rfl rfl (cb_ge_t hc1) ?_
      refine ev_iconst (pc' := 67) (b := (0 : Int32)) rfl rfl rfl ?_
      obtain rfl := Option.some.inj h
      exact ev_ireturn rfl rfl
    · refine ev_ic_f (pc' := 17) rfl (by decide) rfl (cb_ge_f hc1) ?_
      refine ev_aload_n (pc' := 18) rfl rfl rfl ?_
      refine ev_getfield (pc' := 21) (w := .ref 13) rfl rfl rfl rfl ?_
      refine ev_iload_n (pc' := 22) rfl rfl rfl ?_
      refine ev_call (mi := 43) (as := [.ref 13, .int x2]) (rest := []) rfl rfl (Nat.le_of_ble_eq_true rfl) (fx_People_hasPerson_e (d := d + 4) rfl) ?_
      show am_Ev _ _ _ _ 25 _ _ _ _ _
      rcases am_if h with ⟨hc2, h⟩ | ⟨hc2, h⟩
      · refine ev_if_t (pc' := 56) rfl rfl (cb_eq_t hc2) ?_
        exact fx_check_b56_e h
      · refine ev_if_f (pc' := 28) rfl (by decide) rfl (cb_eq_f hc2) ?_
        refine ev_aload_n (pc' := 29) rfl rfl rfl ?_
        refine ev_getfield (pc' := 32) (w := .ref 13) rfl rfl rfl rfl ?_
        refine ev_aload_n (pc' := 33) rfl rfl rfl ?_
        refine ev_getfield (pc' := 36) (w := .ref 21) rfl rfl rfl rfl ?_
        refine ev_getfield (pc' := 39) (w := .ref 31) rfl rfl rfl rfl ?_
        refine ev_iload_n (pc' := 40) rfl rfl rfl ?_
        refine ev_aload_n (pc' := 41) rfl rfl rfl ?_
        refine ev_getfield (pc' := 44) (w := .ref 1) rfl rfl rfl rfl ?_
        refine am_bd h (fun q3 hq3 h => ?_)
        refine ev_call (mi := 45) (as := [.ref 13, .ref 31, .int x2, .ref 1]) (rest := []) rfl rfl (Nat.le_of_ble_eq_true rfl) (fx_People_ownerBy_e (d := d) hq3) ?_
        show am_Ev _ _ _ _ 47 _ _ _ _ _
        refine ev_aload_n (pc' := 48) rfl rfl rfl ?_
        refine ev_getfield (pc' := 51) (w := .ref 84) rfl rfl rfl rfl ?_
        refine ev_iload_n (pc' := 52) rfl rfl rfl ?_
        obtain ⟨hg4, h⟩ := am_g_some h
        refine ev_iaload (pc' := 53) rfl rfl rfl hg4 ?_
        rcases am_if h with ⟨hc5, h⟩ | ⟨hc5, h⟩
        · refine ev_ic_t (pc' := 60) rfl rfl (cb_eq_t hc5) ?_
          refine ev_iinc (pc' := 63) (L' := [.ref 0, .int x1, .int (x2 + (1 : Int32))]) (b := (1 : Int32)) rfl rfl rfl rfl rfl ?_
          refine ev_goto (pc' := 12) rfl rfl ?_
          exact ih h
        · refine ev_ic_f (pc' := 56) rfl (by decide) rfl (cb_eq_f hc5) ?_
          exact fx_check_b56_e h
def fx_check (N : Nat) (σ : am_S) : Option (Int32 × am_S) := fx_check_b12 N N (σ 0 11) (0 : Int32) (am_up σ 0 11 (0 : Int32))
set_option maxRecDepth 100000 in
theorem fx_check_e {X : Nat} {xs : Nat → Int32} {d : Nat} {N : Nat} {σ : am_S} {o : Int32 × am_S} (h : fx_check N σ = some o) : am_Ev am_sh (am_exx X xs) (d + 5) mm_126 0 [.ref 0, .null, .null] [] σ (some (.int o.1)) o.2 := by
  unfold fx_check at h
  refine ev_aload_n (pc' := 1) rfl rfl rfl ?_
  refine ev_getfield (pc' := 4) (w := .int (σ 0 11)) rfl rfl rfl rfl ?_
  refine ev_istore_n (pc' := 5) (L' := [.ref 0, .int (σ 0 11), .null]) rfl rfl rfl rfl ?_
  refine ev_aload_n (pc' := 6) rfl rfl rfl ?_
  refine ev_iconst (pc' := 7) (b := (0 : Int32)) rfl rfl rfl ?_
  refine ev_putfield (pc' := 10) (ci := 10) (f := 11) (z := 0) rfl rfl rfl rfl rfl ?_
  refine ev_iconst (pc' := 11) (b := (0 : Int32)) rfl rfl rfl ?_
  refine ev_istore_n (pc' := 12) (L' := [.ref 0, .int (σ 0 11), .int (0 : Int32)]) rfl rfl rfl rfl ?_
  exact fx_check_b12_e h
/-! PartedLand$People.nobodysBy (13, 31, 1): P -/
def fx_People_nobodysBy_b29 (N : Nat) (k5 : Int32 → Int32 → am_S → Option Int32) (x3 : Int32) (x4 : Int32) (σ : am_S) : Option Int32 := k5 x3 (x4 + (1 : Int32)) σ
set_option maxRecDepth 100000 in
theorem fx_People_nobodysBy_b29_e {X : Nat} {xs : Nat → Int32} {d : Nat} {N : Nat} {k5 : Int32 → Int32 → am_S → Option Int32} (hk5 : ∀ {x3 : Int32} {x4 : Int32} {σ : am_S} {o : Int32}, k5 x3 x4 σ = some o → am_Ev am_sh (am_exx X xs) (d + 5) mm_48 5 [.ref 13, .ref 31, .ref 1, .int x3, .int x4] [] σ (some (.int o)) σ) {x3 : Int32} {x4 : Int32} {σ : am_S} {o : Int32} (h : fx_People_nobodysBy_b29 N k5 x3 x4 σ = some o) : am_Ev am_sh (am_exx X xs) (d + 5) mm_48 29 [.ref 13, .ref 31, .ref 1, .int x3, .int x4] [] σ (some (.int o)) σ := by
  unfold fx_People_nobodysBy_b29 at h
  refine ev_iinc (pc' := 32) (L' := [.ref 13, .ref 31, .ref 1, .int x3, .int (x4 + (1 : Int32))]) (b := (1 : Int32)) rfl rfl rfl rfl rfl ?_
  refine ev_goto (pc' := 5) rfl rfl ?_
  exact hk5 h
def fx_People_nobodysBy_b5 (N : Nat) : Nat → Int32 → Int32 → am_S → Option Int32
  | 0, _, _, _ => none
  | n + 1, x3, x4, σ => (if (σ 13 7) ≤ x4 then some x3 else (fx_People_ownerBy N x4 σ).bind fun q2 => (if q2 = (-1 : Int32) then fx_People_nobodysBy_b29 N (fun x3 x4 σ => fx_People_nobodysBy_b5 N n x3 x4 σ) (x3 + (1 : Int32)) x4 σ else fx_People_nobodysBy_b29 N (fun x3 x4 σ => fx_People_nobodysBy_b5 N n x3 x4 σ) x3 x4 σ))
set_option maxRecDepth 100000 in
theorem fx_People_nobodysBy_b5_e {X : Nat} {xs : Nat → Int32} {d : Nat} {N : Nat} : ∀ {n : Nat} {x3 : Int32} {x4 : Int32} {σ : am_S} {o : Int32}, fx_People_nobodysBy_b5 N n x3 x4 σ = some o → am_Ev am_sh (am_exx X xs) (d + 5) mm_48 5 [.ref 13, .ref 31, .ref 1, .int x3, .int x4] [] σ (some (.int o)) σ := by
  intro n
  induction n with
  | zero => intro x3 x4 σ o h; cases h
  | succ n ih =>
    intro x3 x4 σ o h
    unfold fx_People_nobodysBy_b5 at h
    refine ev_iload (pc' := 7) rfl rfl rfl ?_
    refine ev_aload_n (pc' := 8) rfl rfl rfl ?_
    refine ev_getfield (pc' := 11) (w := .int (σ 13 7)) rfl rfl rfl rfl ?_
    rcases am_if h with ⟨hc1, h⟩ | ⟨hc1, h⟩
    · refine ev_ic_t (pc' := 35) rfl rfl (cb_ge_t hc1) ?_
      refine ev_iload_n (pc' := 36) rfl rfl rfl ?_
      obtain rfl := Option.some.inj h
      exact ev_ireturn rfl rfl
    · refine ev_ic_f (pc' := 14) rfl (by decide) rfl (cb_ge_f hc1) ?_
      refine ev_aload_n (pc' := 15) rfl rfl rfl ?_
      refine ev_aload_n (pc' := 16) rfl rfl rfl ?_
      refine ev_iload (pc' := 18) rfl rfl rfl ?_
      refine ev_aload_n (pc' := 19) rfl rfl rfl ?_
      refine am_bd h (fun q2 hq2 h => ?_)
      refine ev_call (mi := 45) (as := [.ref 13, .ref 31, .int x4, .ref 1]) (rest := []) rfl rfl (Nat.le_of_ble_eq_true rfl) (fx_People_ownerBy_e (d := d) hq2) ?_
      show am_Ev _ _ _ _ 22 _ _ _ _ _
      refine ev_iconst (pc' := 23) (b := (-1 : Int32)) rfl rfl rfl ?_
      rcases am_if h with ⟨hc3, h⟩ | ⟨hc3, h⟩
      · refine ev_ic_f (pc' := 26) rfl (by decide) rfl (cb_ne_f hc3) ?_
        refine ev_iinc (pc' := 29) (L' := [.ref 13, .ref 31, .ref 1, .int (x3 + (1 : Int32)), .int x4]) (b := (1 : Int32)) rfl rfl rfl rfl rfl ?_
        exact fx_People_nobodysBy_b29_e (hk5 := fun h => ih h) h
      · refine ev_ic_t (pc' := 29) rfl rfl (cb_ne_t hc3) ?_
        exact fx_People_nobodysBy_b29_e (hk5 := fun h => ih h) h
def fx_People_nobodysBy (N : Nat) (σ : am_S) : Option Int32 := fx_People_nobodysBy_b5 N N (0 : Int32) (0 : Int32) σ
set_option maxRecDepth 100000 in
theorem fx_People_nobodysBy_e {X : Nat} {xs : Nat → Int32} {d : Nat} {N : Nat} {σ : am_S} {o : Int32} (h : fx_People_nobodysBy N σ = some o) : am_Ev am_sh (am_exx X xs) (d + 5) mm_48 0 [.ref 13, .ref 31, .ref 1, .null, .null] [] σ (some (.int o)) σ := by
  unfold fx_People_nobodysBy at h
  refine ev_iconst (pc' := 1) (b := (0 : Int32)) rfl rfl rfl ?_
  refine ev_istore_n (pc' := 2) (L' := [.ref 13, .ref 31, .ref 1, .int (0 : Int32), .null]) rfl rfl rfl rfl ?_
  refine ev_iconst (pc' := 3) (b := (0 : Int32)) rfl rfl rfl ?_
  refine ev_istore (pc' := 5) (L' := [.ref 13, .ref 31, .ref 1, .int (0 : Int32), .int (0 : Int32)]) rfl rfl rfl rfl ?_
  exact fx_People_nobodysBy_b5_e h
/-! PartedLand$Land.parishesOf (1, 'I'): P -/
def fx_Land_parishesOf_b27 (N : Nat) (k4 : Int32 → Int32 → Int32 → am_S → Option Int32) (x1 : Int32) (x2 : Int32) (x3 : Int32) (σ : am_S) : Option Int32 := k4 x1 x2 (x3 + (1 : Int32)) σ
set_option maxRecDepth 100000 in
theorem fx_Land_parishesOf_b27_e {X : Nat} {xs : Nat → Int32} {d : Nat} {N : Nat} {k4 : Int32 → Int32 → Int32 → am_S → Option Int32} (hk4 : ∀ {x1 : Int32} {x2 : Int32} {x3 : Int32} {σ : am_S} {o : Int32}, k4 x1 x2 x3 σ = some o → am_Ev am_sh (am_exx X xs) (d + 3) mm_19 4 [.ref 1, .int x1, .int x2, .int x3] [] σ (some (.int o)) σ) {x1 : Int32} {x2 : Int32} {x3 : Int32} {σ : am_S} {o : Int32} (h : fx_Land_parishesOf_b27 N k4 x1 x2 x3 σ = some o) : am_Ev am_sh (am_exx X xs) (d + 3) mm_19 27 [.ref 1, .int x1, .int x2, .int x3] [] σ (some (.int o)) σ := by
  unfold fx_Land_parishesOf_b27 at h
  refine ev_iinc (pc' := 30) (L' := [.ref 1, .int x1, .int x2, .int (x3 + (1 : Int32))]) (b := (1 : Int32)) rfl rfl rfl rfl rfl ?_
  refine ev_goto (pc' := 4) rfl rfl ?_
  exact hk4 h
def fx_Land_parishesOf_b4 (N : Nat) : Nat → Int32 → Int32 → Int32 → am_S → Option Int32
  | 0, _, _, _, _ => none
  | n + 1, x1, x2, x3, σ => (if (σ 1 11) ≤ x3 then some x2 else (fx_Land_sideOf N x3 σ).bind fun q2 => (if q2 = x1 then fx_Land_parishesOf_b27 N (fun x1 x2 x3 σ => fx_Land_parishesOf_b4 N n x1 x2 x3 σ) x1 (x2 ||| ((1 : Int32) <<< (x3 &&& 31))) x3 σ else fx_Land_parishesOf_b27 N (fun x1 x2 x3 σ => fx_Land_parishesOf_b4 N n x1 x2 x3 σ) x1 x2 x3 σ))
set_option maxRecDepth 100000 in
theorem fx_Land_parishesOf_b4_e {X : Nat} {xs : Nat → Int32} {d : Nat} {N : Nat} : ∀ {n : Nat} {x1 : Int32} {x2 : Int32} {x3 : Int32} {σ : am_S} {o : Int32}, fx_Land_parishesOf_b4 N n x1 x2 x3 σ = some o → am_Ev am_sh (am_exx X xs) (d + 3) mm_19 4 [.ref 1, .int x1, .int x2, .int x3] [] σ (some (.int o)) σ := by
  intro n
  induction n with
  | zero => intro x1 x2 x3 σ o h; cases h
  | succ n ih =>
    intro x1 x2 x3 σ o h
    unfold fx_Land_parishesOf_b4 at h
    refine ev_iload_n (pc' := 5) rfl rfl rfl ?_
    refine ev_aload_n (pc' := 6) rfl rfl rfl ?_
    refine ev_getfield (pc' := 9) (w := .int (σ 1 11)) rfl rfl rfl rfl ?_
    rcases am_if h with ⟨hc1, h⟩ | ⟨hc1, h⟩
    · refine ev_ic_t (pc' := 33) rfl rfl (cb_ge_t hc1) ?_
      refine ev_iload_n (pc' := 34) rfl rfl rfl ?_
      obtain rfl := Option.some.inj h
      exact ev_ireturn rfl rfl
    · refine ev_ic_f (pc' := 12) rfl (by decide) rfl (cb_ge_f hc1) ?_
      refine ev_aload_n (pc' := 13) rfl rfl rfl ?_
      refine ev_iload_n (pc' := 14) rfl rfl rfl ?_
      refine am_bd h (fun q2 hq2 h => ?_)
      refine ev_call (mi := 16) (as := [.ref 1, .int x3]) (rest := []) rfl rfl (Nat.le_of_ble_eq_true rfl) (fx_Land_sideOf_e (d := d) hq2) ?_
      show am_Ev _ _ _ _ 17 _ _ _ _ _
      refine ev_iload_n (pc' := 18) rfl rfl rfl ?_
      rcases am_if h with ⟨hc3, h⟩ | ⟨hc3, h⟩
      · refine ev_ic_f (pc' := 21) rfl (by decide) rfl (cb_ne_f hc3) ?_
        refine ev_iload_n (pc' := 22) rfl rfl rfl ?_
        refine ev_iconst (pc' := 23) (b := (1 : Int32)) rfl rfl rfl ?_
        refine ev_iload_n (pc' := 24) rfl rfl rfl ?_
        refine ev_ishl (pc' := 25) rfl rfl ?_
        refine ev_ior (pc' := 26) rfl rfl ?_
        refine ev_istore_n (pc' := 27) (L' := [.ref 1, .int x1, .int (x2 ||| ((1 : Int32) <<< (x3 &&& 31))), .int x3]) rfl rfl rfl rfl ?_
        exact fx_Land_parishesOf_b27_e (hk4 := fun h => ih h) h
      · refine ev_ic_t (pc' := 27) rfl rfl (cb_ne_t hc3) ?_
        exact fx_Land_parishesOf_b27_e (hk4 := fun h => ih h) h
def fx_Land_parishesOf (N : Nat) (a1 : Int32) (σ : am_S) : Option Int32 := fx_Land_parishesOf_b4 N N a1 (0 : Int32) (0 : Int32) σ
set_option maxRecDepth 100000 in
theorem fx_Land_parishesOf_e {X : Nat} {xs : Nat → Int32} {d : Nat} {N : Nat} {a1 : Int32} {σ : am_S} {o : Int32} (h : fx_Land_parishesOf N a1 σ = some o) : am_Ev am_sh (am_exx X xs) (d + 3) mm_19 0 [.ref 1, .int a1, .null, .null] [] σ (some (.int o)) σ := by
  unfold fx_Land_parishesOf at h
  refine ev_iconst (pc' := 1) (b := (0 : Int32)) rfl rfl rfl ?_
  refine ev_istore_n (pc' := 2) (L' := [.ref 1, .int a1, .int (0 : Int32), .null]) rfl rfl rfl rfl ?_
  refine ev_iconst (pc' := 3) (b := (0 : Int32)) rfl rfl rfl ?_
  refine ev_istore_n (pc' := 4) (L' := [.ref 1, .int a1, .int (0 : Int32), .int (0 : Int32)]) rfl rfl rfl rfl ?_
  exact fx_Land_parishesOf_b4_e h
/-! PartedLand$Land.reachedWithin (1, 'I', 'I'): P -/
def fx_Land_reachedWithin_b71 (N : Nat) (k5 : Int32 → Int32 → Int32 → am_S → Option Int32) (k20 : Int32 → Int32 → Int32 → Int32 → Int32 → am_S → Option Int32) (x1 : Int32) (x3 : Int32) (x4 : Int32) (x5 : Int32) (x6 : Int32) (σ : am_S) : Option Int32 := k20 x1 x3 x4 x5 (x6 + (1 : Int32)) σ
set_option maxRecDepth 100000 in
theorem fx_Land_reachedWithin_b71_e {X : Nat} {xs : Nat → Int32} {d : Nat} {N : Nat} {k5 : Int32 → Int32 → Int32 → am_S → Option Int32} (hk5 : ∀ {x1 : Int32} {x3 : Int32} {x4 : Int32} {w2 : Value} {w5 : Value} {w6 : Value} {w7 : Value} {σ : am_S} {o : Int32}, k5 x1 x3 x4 σ = some o → am_Ev am_sh (am_exx X xs) (d + 0) mm_20 5 [.ref 1, .int x1, w2, .int x3, .int x4, w5, w6, w7] [] σ (some (.int o)) σ) {k20 : Int32 → Int32 → Int32 → Int32 → Int32 → am_S → Option Int32} (hk20 : ∀ {x1 : Int32} {x3 : Int32} {x4 : Int32} {x5 : Int32} {x6 : Int32} {w2 : Value} {w7 : Value} {σ : am_S} {o : Int32}, k20 x1 x3 x4 x5 x6 σ = some o → am_Ev am_sh (am_exx X xs) (d + 0) mm_20 20 [.ref 1, .int x1, w2, .int x3, .int x4, .int x5, .int x6, w7] [] σ (some (.int o)) σ) {x1 : Int32} {x3 : Int32} {x4 : Int32} {x5 : Int32} {x6 : Int32} {w2 : Value} {w7 : Value} {σ : am_S} {o : Int32} (h : fx_Land_reachedWithin_b71 N k5 k20 x1 x3 x4 x5 x6 σ = some o) : am_Ev am_sh (am_exx X xs) (d + 0) mm_20 71 [.ref 1, .int x1, w2, .int x3, .int x4, .int x5, .int x6, w7] [] σ (some (.int o)) σ := by
  unfold fx_Land_reachedWithin_b71 at h
  refine ev_iinc (pc' := 74) (L' := [.ref 1, .int x1, w2, .int x3, .int x4, .int x5, .int (x6 + (1 : Int32)), w7]) (b := (1 : Int32)) rfl rfl rfl rfl rfl ?_
  refine ev_goto (pc' := 20) rfl rfl ?_
  exact hk20 h
def fx_Land_reachedWithin_b20 (N : Nat) (k5 : Int32 → Int32 → Int32 → am_S → Option Int32) : Nat → Int32 → Int32 → Int32 → Int32 → Int32 → am_S → Option Int32
  | 0, _, _, _, _, _, _ => none
  | n + 1, x1, x3, x4, x5, x6, σ => (if (σ 1 12) ≤ x6 then (if x3 = x5 then some x3 else k5 x1 x3 (x4 + (1 : Int32)) σ) else am_g (am_in x6 30) <| am_g (am_in x6 30) <| (if ((((1 : Int32) <<< ((σ 6 x6.toNatClampNeg) &&& 31)) ||| ((1 : Int32) <<< ((σ 7 x6.toNatClampNeg) &&& 31))) &&& (x1 ^^^ (-1 : Int32))) = 0 then (if ((((1 : Int32) <<< ((σ 6 x6.toNatClampNeg) &&& 31)) ||| ((1 : Int32) <<< ((σ 7 x6.toNatClampNeg) &&& 31))) &&& x3) = 0 then fx_Land_reachedWithin_b71 N k5 (fun x1 x3 x4 x5 x6 σ => fx_Land_reachedWithin_b20 N k5 n x1 x3 x4 x5 x6 σ) x1 x3 x4 x5 x6 σ else fx_Land_reachedWithin_b71 N k5 (fun x1 x3 x4 x5 x6 σ => fx_Land_reachedWithin_b20 N k5 n x1 x3 x4 x5 x6 σ) x1 (x3 ||| (((1 : Int32) <<< ((σ 6 x6.toNatClampNeg) &&& 31)) ||| ((1 : Int32) <<< ((σ 7 x6.toNatClampNeg) &&& 31)))) x4 x5 x6 σ) else fx_Land_reachedWithin_b71 N k5 (fun x1 x3 x4 x5 x6 σ => fx_Land_reachedWithin_b20 N k5 n x1 x3 x4 x5 x6 σ) x1 x3 x4 x5 x6 σ))
set_option maxRecDepth 100000 in
theorem fx_Land_reachedWithin_b20_e {X : Nat} {xs : Nat → Int32} {d : Nat} {N : Nat} {k5 : Int32 → Int32 → Int32 → am_S → Option Int32} (hk5 : ∀ {x1 : Int32} {x3 : Int32} {x4 : Int32} {w2 : Value} {w5 : Value} {w6 : Value} {w7 : Value} {σ : am_S} {o : Int32}, k5 x1 x3 x4 σ = some o → am_Ev am_sh (am_exx X xs) (d + 0) mm_20 5 [.ref 1, .int x1, w2, .int x3, .int x4, w5, w6, w7] [] σ (some (.int o)) σ) : ∀ {n : Nat} {x1 : Int32} {x3 : Int32} {x4 : Int32} {x5 : Int32} {x6 : Int32} {w2 : Value} {w7 : Value} {σ : am_S} {o : Int32}, fx_Land_reachedWithin_b20 N k5 n x1 x3 x4 x5 x6 σ = some o → am_Ev am_sh (am_exx X xs) (d + 0) mm_20 20 [.ref 1, .int x1, w2, .int x3, .int x4, .int x5, .int x6, w7] [] σ (some (.int o)) σ := by
  intro n
  induction n with
  | zero => intro x1 x3 x4 x5 x6 w2 w7 σ o h; cases h
  | succ n ih =>
    intro x1 x3 x4 x5 x6 w2 w7 σ o h
    unfold fx_Land_reachedWithin_b20 at h
    refine ev_iload (pc' := 22) rfl rfl rfl ?_
    refine ev_aload_n (pc' := 23) rfl rfl rfl ?_
    refine ev_getfield (pc' := 26) (w := .int (σ 1 12)) rfl rfl rfl rfl ?_
    rcases am_if h with ⟨hc1, h⟩ | ⟨hc1, h⟩
    · refine ev_ic_t (pc' := 77) rfl rfl (cb_ge_t hc1) ?_
      refine ev_iload_n (pc' := 78) rfl rfl rfl ?_
      refine ev_iload (pc' := 80) rfl rfl rfl ?_
      rcases am_if h with ⟨hc2, h⟩ | ⟨hc2, h⟩
      · refine ev_ic_f (pc' := 83) rfl (by decide) rfl (cb_ne_f hc2) ?_
        refine ev_goto (pc' := 92) rfl rfl ?_
        refine ev_iload_n (pc' := 93) rfl rfl rfl ?_
        obtain rfl := Option.some.inj h
        exact ev_ireturn rfl rfl
      · refine ev_ic_t (pc' := 86) rfl rfl (cb_ne_t hc2) ?_
        refine ev_iinc (pc' := 89) (L' := [.ref 1, .int x1, w2, .int x3, .int (x4 + (1 : Int32)), .int x5, .int x6, w7]) (b := (1 : Int32)) rfl rfl rfl rfl rfl ?_
        refine ev_goto (pc' := 5) rfl rfl ?_
        exact hk5 h
    · refine ev_ic_f (pc' := 29) rfl (by decide) rfl (cb_ge_f hc1) ?_
      refine ev_iconst (pc' := 30) (b := (1 : Int32)) rfl rfl rfl ?_
      refine ev_aload_n (pc' := 31) rfl rfl rfl ?_
      refine ev_getfield (pc' := 34) (w := .ref 6) rfl rfl rfl rfl ?_
      refine ev_iload (pc' := 36) rfl rfl rfl ?_
      obtain ⟨hg3, h⟩ := am_g_some h
      refine ev_iaload (pc' := 37) rfl rfl rfl hg3 ?_
      refine ev_ishl (pc' := 38) rfl rfl ?_
      refine ev_iconst (pc' := 39) (b := (1 : Int32)) rfl rfl rfl ?_
      refine ev_aload_n (pc' := 40) rfl rfl rfl ?_
      refine ev_getfield (pc' := 43) (w := .ref 7) rfl rfl rfl rfl ?_
      refine ev_iload (pc' := 45) rfl rfl rfl ?_
      obtain ⟨hg4, h⟩ := am_g_some h
      refine ev_iaload (pc' := 46) rfl rfl rfl hg4 ?_
      refine ev_ishl (pc' := 47) rfl rfl ?_
      refine ev_ior (pc' := 48) rfl rfl ?_
      refine ev_istore (pc' := 50) (L' := [.ref 1, .int x1, w2, .int x3, .int x4, .int x5, .int x6, .int (((1 : Int32) <<< ((σ 6 x6.toNatClampNeg) &&& 31)) ||| ((1 : Int32) <<< ((σ 7 x6.toNatClampNeg) &&& 31)))]) rfl rfl rfl rfl ?_
      refine ev_iload (pc' := 52) rfl rfl rfl ?_
      refine ev_iload_n (pc' := 53) rfl rfl rfl ?_
      refine ev_iconst (pc' := 54) (b := (-1 : Int32)) rfl rfl rfl ?_
      refine ev_ixor (pc' := 55) rfl rfl ?_
      refine ev_iand (pc' := 56) rfl rfl ?_
      rcases am_if h with ⟨hc5, h⟩ | ⟨hc5, h⟩
      · refine ev_if_f (pc' := 59) rfl (by decide) rfl (cb_ne_f hc5) ?_
        refine ev_iload (pc' := 61) rfl rfl rfl ?_
        refine ev_iload_n (pc' := 62) rfl rfl rfl ?_
        refine ev_iand (pc' := 63) rfl rfl ?_
        rcases am_if h with ⟨hc6, h⟩ | ⟨hc6, h⟩
        · refine ev_if_t (pc' := 71) rfl rfl (cb_eq_t hc6) ?_
          exact fx_Land_reachedWithin_b71_e (hk5 := hk5) (hk20 := fun h => ih h) h
        · refine ev_if_f (pc' := 66) rfl (by decide) rfl (cb_eq_f hc6) ?_
          refine ev_iload_n (pc' := 67) rfl rfl rfl ?_
          refine ev_iload (pc' := 69) rfl rfl rfl ?_
          refine ev_ior (pc' := 70) rfl rfl ?_
          refine ev_istore_n (pc' := 71) (L' := [.ref 1, .int x1, w2, .int (x3 ||| (((1 : Int32) <<< ((σ 6 x6.toNatClampNeg) &&& 31)) ||| ((1 : Int32) <<< ((σ 7 x6.toNatClampNeg) &&& 31)))), .int x4, .int x5, .int x6, .int (((1 : Int32) <<< ((σ 6 x6.toNatClampNeg) &&& 31)) ||| ((1 : Int32) <<< ((σ 7 x6.toNatClampNeg) &&& 31)))]) rfl rfl rfl rfl ?_
          exact fx_Land_reachedWithin_b71_e (hk5 := hk5) (hk20 := fun h => ih h) h
      · refine ev_if_t (pc' := 71) rfl rfl (cb_ne_t hc5) ?_
        exact fx_Land_reachedWithin_b71_e (hk5 := hk5) (hk20 := fun h => ih h) h
def fx_Land_reachedWithin_b5 (N : Nat) : Nat → Int32 → Int32 → Int32 → am_S → Option Int32
  | 0, _, _, _, _ => none
  | n + 1, x1, x3, x4, σ => (if (σ 1 11) ≤ x4 then some x3 else fx_Land_reachedWithin_b20 N (fun x1 x3 x4 σ => fx_Land_reachedWithin_b5 N n x1 x3 x4 σ) N x1 x3 x4 x3 (0 : Int32) σ)
set_option maxRecDepth 100000 in
theorem fx_Land_reachedWithin_b5_e {X : Nat} {xs : Nat → Int32} {d : Nat} {N : Nat} : ∀ {n : Nat} {x1 : Int32} {x3 : Int32} {x4 : Int32} {w2 : Value} {w5 : Value} {w6 : Value} {w7 : Value} {σ : am_S} {o : Int32}, fx_Land_reachedWithin_b5 N n x1 x3 x4 σ = some o → am_Ev am_sh (am_exx X xs) (d + 0) mm_20 5 [.ref 1, .int x1, w2, .int x3, .int x4, w5, w6, w7] [] σ (some (.int o)) σ := by
  intro n
  induction n with
  | zero => intro x1 x3 x4 w2 w5 w6 w7 σ o h; cases h
  | succ n ih =>
    intro x1 x3 x4 w2 w5 w6 w7 σ o h
    unfold fx_Land_reachedWithin_b5 at h
    refine ev_iload (pc' := 7) rfl rfl rfl ?_
    refine ev_aload_n (pc' := 8) rfl rfl rfl ?_
    refine ev_getfield (pc' := 11) (w := .int (σ 1 11)) rfl rfl rfl rfl ?_
    rcases am_if h with ⟨hc1, h⟩ | ⟨hc1, h⟩
    · refine ev_ic_t (pc' := 92) rfl rfl (cb_ge_t hc1) ?_
      refine ev_iload_n (pc' := 93) rfl rfl rfl ?_
      obtain rfl := Option.some.inj h
      exact ev_ireturn rfl rfl
    · refine ev_ic_f (pc' := 14) rfl (by decide) rfl (cb_ge_f hc1) ?_
      refine ev_iload_n (pc' := 15) rfl rfl rfl ?_
      refine ev_istore (pc' := 17) (L' := [.ref 1, .int x1, w2, .int x3, .int x4, .int x3, w6, w7]) rfl rfl rfl rfl ?_
      refine ev_iconst (pc' := 18) (b := (0 : Int32)) rfl rfl rfl ?_
      refine ev_istore (pc' := 20) (L' := [.ref 1, .int x1, w2, .int x3, .int x4, .int x3, .int (0 : Int32), w7]) rfl rfl rfl rfl ?_
      exact fx_Land_reachedWithin_b20_e (hk5 := fun h => ih h) h
def fx_Land_reachedWithin (N : Nat) (a1 : Int32) (a2 : Int32) (σ : am_S) : Option Int32 := fx_Land_reachedWithin_b5 N N a1 a2 (1 : Int32) σ
set_option maxRecDepth 100000 in
theorem fx_Land_reachedWithin_e {X : Nat} {xs : Nat → Int32} {d : Nat} {N : Nat} {a1 : Int32} {a2 : Int32} {σ : am_S} {o : Int32} (h : fx_Land_reachedWithin N a1 a2 σ = some o) : am_Ev am_sh (am_exx X xs) (d + 0) mm_20 0 [.ref 1, .int a1, .int a2, .null, .null, .null, .null, .null] [] σ (some (.int o)) σ := by
  unfold fx_Land_reachedWithin at h
  refine ev_iload_n (pc' := 1) rfl rfl rfl ?_
  refine ev_istore_n (pc' := 2) (L' := [.ref 1, .int a1, .int a2, .int a2, .null, .null, .null, .null]) rfl rfl rfl rfl ?_
  refine ev_iconst (pc' := 3) (b := (1 : Int32)) rfl rfl rfl ?_
  refine ev_istore (pc' := 5) (L' := [.ref 1, .int a1, .int a2, .int a2, .int (1 : Int32), .null, .null, .null]) rfl rfl rfl rfl ?_
  exact fx_Land_reachedWithin_b5_e h
/-! PartedLand$Land.isEnclave (1, 'I'): P -/
def fx_Land_isEnclave_b43 (N : Nat) (σ : am_S) : Option Int32 := some (1 : Int32)
set_option maxRecDepth 100000 in
theorem fx_Land_isEnclave_b43_e {X : Nat} {xs : Nat → Int32} {d : Nat} {N : Nat} {w0 : Value} {w1 : Value} {w2 : Value} {w3 : Value} {w4 : Value} {σ : am_S} {o : Int32} (h : fx_Land_isEnclave_b43 N σ = some o) : am_Ev am_sh (am_exx X xs) (d + 4) mm_17 43 [w0, w1, w2, w3, w4] [] σ (some (.int o)) σ := by
  unfold fx_Land_isEnclave_b43 at h
  refine ev_iconst (pc' := 44) (b := (1 : Int32)) rfl rfl rfl ?_
  refine ev_goto (pc' := 48) rfl rfl ?_
  obtain rfl := Option.some.inj h
  exact ev_zreturn rfl rfl rfl
def fx_Land_isEnclave (N : Nat) (a1 : Int32) (σ : am_S) : Option Int32 := (fx_Land_sideOf N a1 σ).bind fun q1 => (fx_Land_parishesOf N q1 σ).bind fun q2 => am_g (am_in q1 2) <| (if (q2 &&& ((1 : Int32) <<< ((σ 5 q1.toNatClampNeg) &&& 31))) = 0 then fx_Land_isEnclave_b43 N σ else (fx_Land_reachedWithin N q2 ((1 : Int32) <<< (a1 &&& 31)) σ).bind fun q5 => (if (q5 &&& ((1 : Int32) <<< ((σ 5 q1.toNatClampNeg) &&& 31))) = 0 then fx_Land_isEnclave_b43 N σ else some (0 : Int32)))
set_option maxRecDepth 100000 in
theorem fx_Land_isEnclave_e {X : Nat} {xs : Nat → Int32} {d : Nat} {N : Nat} {a1 : Int32} {σ : am_S} {o : Int32} (h : fx_Land_isEnclave N a1 σ = some o) : am_Ev am_sh (am_exx X xs) (d + 4) mm_17 0 [.ref 1, .int a1, .null, .null, .null] [] σ (some (.int o)) σ := by
  unfold fx_Land_isEnclave at h
  refine ev_aload_n (pc' := 1) rfl rfl rfl ?_
  refine ev_iload_n (pc' := 2) rfl rfl rfl ?_
  refine am_bd h (fun q1 hq1 h => ?_)
  refine ev_call (mi := 16) (as := [.ref 1, .int a1]) (rest := []) rfl rfl (Nat.le_of_ble_eq_true rfl) (fx_Land_sideOf_e (d := d + 1) hq1) ?_
  show am_Ev _ _ _ _ 5 _ _ _ _ _
  refine ev_istore_n (pc' := 6) (L' := [.ref 1, .int a1, .int q1, .null, .null]) rfl rfl rfl rfl ?_
  refine ev_aload_n (pc' := 7) rfl rfl rfl ?_
  refine ev_iload_n (pc' := 8) rfl rfl rfl ?_
  refine am_bd h (fun q2 hq2 h => ?_)
  refine ev_call (mi := 19) (as := [.ref 1, .int q1]) (rest := []) rfl rfl (Nat.le_of_ble_eq_true rfl) (fx_Land_parishesOf_e (d := d) hq2) ?_
  show am_Ev _ _ _ _ 11 _ _ _ _ _
  refine ev_istore_n (pc' := 12) (L' := [.ref 1, .int a1, .int q1, .int q2, .null]) rfl rfl rfl rfl ?_
  refine ev_iconst (pc' := 13) (b := (1 : Int32)) rfl rfl rfl ?_
  refine ev_aload_n (pc' := 14) rfl rfl rfl ?_
  refine ev_getfield (pc' := 17) (w := .ref 5) rfl rfl rfl rfl ?_
  refine ev_iload_n (pc' := 18) rfl rfl rfl ?_
  obtain ⟨hg3, h⟩ := am_g_some h
  refine ev_iaload (pc' := 19) rfl rfl rfl hg3 ?_
  refine ev_ishl (pc' := 20) rfl rfl ?_
  refine ev_istore (pc' := 22) (L' := [.ref 1, .int a1, .int q1, .int q2, .int ((1 : Int32) <<< ((σ 5 q1.toNatClampNeg) &&& 31))]) rfl rfl rfl rfl ?_
  refine ev_iload_n (pc' := 23) rfl rfl rfl ?_
  refine ev_iload (pc' := 25) rfl rfl rfl ?_
  refine ev_iand (pc' := 26) rfl rfl ?_
  rcases am_if h with ⟨hc4, h⟩ | ⟨hc4, h⟩
  · refine ev_if_t (pc' := 43) rfl rfl (cb_eq_t hc4) ?_
    exact fx_Land_isEnclave_b43_e h
  · refine ev_if_f (pc' := 29) rfl (by decide) rfl (cb_eq_f hc4) ?_
    refine ev_aload_n (pc' := 30) rfl rfl rfl ?_
    refine ev_iload_n (pc' := 31) rfl rfl rfl ?_
    refine ev_iconst (pc' := 32) (b := (1 : Int32)) rfl rfl rfl ?_
    refine ev_iload_n (pc' := 33) rfl rfl rfl ?_
    refine ev_ishl (pc' := 34) rfl rfl ?_
    refine am_bd h (fun q5 hq5 h => ?_)
    refine ev_call (mi := 20) (as := [.ref 1, .int q2, .int ((1 : Int32) <<< (a1 &&& 31))]) (rest := []) rfl rfl (Nat.le_of_ble_eq_true rfl) (fx_Land_reachedWithin_e (d := d + 3) hq5) ?_
    show am_Ev _ _ _ _ 37 _ _ _ _ _
    refine ev_iload (pc' := 39) rfl rfl rfl ?_
    refine ev_iand (pc' := 40) rfl rfl ?_
    rcases am_if h with ⟨hc6, h⟩ | ⟨hc6, h⟩
    · refine ev_if_f (pc' := 43) rfl (by decide) rfl (cb_ne_f hc6) ?_
      exact fx_Land_isEnclave_b43_e h
    · refine ev_if_t (pc' := 47) rfl rfl (cb_ne_t hc6) ?_
      refine ev_iconst (pc' := 48) (b := (0 : Int32)) rfl rfl rfl ?_
      obtain rfl := Option.some.inj h
      exact ev_zreturn rfl rfl rfl
/-! PartedLand$Land.enclaves (1,): P -/
def fx_Land_enclaves_b23 (N : Nat) (k4 : Int32 → Int32 → am_S → Option Int32) (x1 : Int32) (x2 : Int32) (σ : am_S) : Option Int32 := k4 x1 (x2 + (1 : Int32)) σ
set_option maxRecDepth 100000 in
theorem fx_Land_enclaves_b23_e {X : Nat} {xs : Nat → Int32} {d : Nat} {N : Nat} {k4 : Int32 → Int32 → am_S → Option Int32} (hk4 : ∀ {x1 : Int32} {x2 : Int32} {σ : am_S} {o : Int32}, k4 x1 x2 σ = some o → am_Ev am_sh (am_exx X xs) (d + 5) mm_18 4 [.ref 1, .int x1, .int x2] [] σ (some (.int o)) σ) {x1 : Int32} {x2 : Int32} {σ : am_S} {o : Int32} (h : fx_Land_enclaves_b23 N k4 x1 x2 σ = some o) : am_Ev am_sh (am_exx X xs) (d + 5) mm_18 23 [.ref 1, .int x1, .int x2] [] σ (some (.int o)) σ := by
  unfold fx_Land_enclaves_b23 at h
  refine ev_iinc (pc' := 26) (L' := [.ref 1, .int x1, .int (x2 + (1 : Int32))]) (b := (1 : Int32)) rfl rfl rfl rfl rfl ?_
  refine ev_goto (pc' := 4) rfl rfl ?_
  exact hk4 h
def fx_Land_enclaves_b4 (N : Nat) : Nat → Int32 → Int32 → am_S → Option Int32
  | 0, _, _, _ => none
  | n + 1, x1, x2, σ => (if (σ 1 11) ≤ x2 then some x1 else (fx_Land_isEnclave N x2 σ).bind fun q2 => (if q2 = 0 then fx_Land_enclaves_b23 N (fun x1 x2 σ => fx_Land_enclaves_b4 N n x1 x2 σ) x1 x2 σ else fx_Land_enclaves_b23 N (fun x1 x2 σ => fx_Land_enclaves_b4 N n x1 x2 σ) (x1 + (1 : Int32)) x2 σ))
set_option maxRecDepth 100000 in
theorem fx_Land_enclaves_b4_e {X : Nat} {xs : Nat → Int32} {d : Nat} {N : Nat} : ∀ {n : Nat} {x1 : Int32} {x2 : Int32} {σ : am_S} {o : Int32}, fx_Land_enclaves_b4 N n x1 x2 σ = some o → am_Ev am_sh (am_exx X xs) (d + 5) mm_18 4 [.ref 1, .int x1, .int x2] [] σ (some (.int o)) σ := by
  intro n
  induction n with
  | zero => intro x1 x2 σ o h; cases h
  | succ n ih =>
    intro x1 x2 σ o h
    unfold fx_Land_enclaves_b4 at h
    refine ev_iload_n (pc' := 5) rfl rfl rfl ?_
    refine ev_aload_n (pc' := 6) rfl rfl rfl ?_
    refine ev_getfield (pc' := 9) (w := .int (σ 1 11)) rfl rfl rfl rfl ?_
    rcases am_if h with ⟨hc1, h⟩ | ⟨hc1, h⟩
    · refine ev_ic_t (pc' := 29) rfl rfl (cb_ge_t hc1) ?_
      refine ev_iload_n (pc' := 30) rfl rfl rfl ?_
      obtain rfl := Option.some.inj h
      exact ev_ireturn rfl rfl
    · refine ev_ic_f (pc' := 12) rfl (by decide) rfl (cb_ge_f hc1) ?_
      refine ev_aload_n (pc' := 13) rfl rfl rfl ?_
      refine ev_iload_n (pc' := 14) rfl rfl rfl ?_
      refine am_bd h (fun q2 hq2 h => ?_)
      refine ev_call (mi := 17) (as := [.ref 1, .int x2]) (rest := []) rfl rfl (Nat.le_of_ble_eq_true rfl) (fx_Land_isEnclave_e (d := d) hq2) ?_
      show am_Ev _ _ _ _ 17 _ _ _ _ _
      rcases am_if h with ⟨hc3, h⟩ | ⟨hc3, h⟩
      · refine ev_if_t (pc' := 23) rfl rfl (cb_eq_t hc3) ?_
        exact fx_Land_enclaves_b23_e (hk4 := fun h => ih h) h
      · refine ev_if_f (pc' := 20) rfl (by decide) rfl (cb_eq_f hc3) ?_
        refine ev_iinc (pc' := 23) (L' := [.ref 1, .int (x1 + (1 : Int32)), .int x2]) (b := (1 : Int32)) rfl rfl rfl rfl rfl ?_
        exact fx_Land_enclaves_b23_e (hk4 := fun h => ih h) h
def fx_Land_enclaves (N : Nat) (σ : am_S) : Option Int32 := fx_Land_enclaves_b4 N N (0 : Int32) (0 : Int32) σ
set_option maxRecDepth 100000 in
theorem fx_Land_enclaves_e {X : Nat} {xs : Nat → Int32} {d : Nat} {N : Nat} {σ : am_S} {o : Int32} (h : fx_Land_enclaves N σ = some o) : am_Ev am_sh (am_exx X xs) (d + 5) mm_18 0 [.ref 1, .null, .null] [] σ (some (.int o)) σ := by
  unfold fx_Land_enclaves at h
  refine ev_iconst (pc' := 1) (b := (0 : Int32)) rfl rfl rfl ?_
  refine ev_istore_n (pc' := 2) (L' := [.ref 1, .int (0 : Int32), .null]) rfl rfl rfl rfl ?_
  refine ev_iconst (pc' := 3) (b := (0 : Int32)) rfl rfl rfl ?_
  refine ev_istore_n (pc' := 4) (L' := [.ref 1, .int (0 : Int32), .int (0 : Int32)]) rfl rfl rfl rfl ?_
  exact fx_Land_enclaves_b4_e h
/-! PartedLand.count (0, 'I'): S -/
def fx_count (N : Nat) (a1 : Int32) (σ : am_S) : Option (Int32 × am_S) := (if a1 = (0 : Int32) then some ((σ 1 11), σ) else (if a1 = (1 : Int32) then some ((σ 1 12), σ) else (if a1 = (2 : Int32) then some ((σ 1 13), σ) else (if a1 = (3 : Int32) then some ((σ 13 7), σ) else (if a1 = (4 : Int32) then some ((σ 34 6), σ) else (if a1 = (5 : Int32) then some ((σ 34 7), σ) else (if a1 = (6 : Int32) then some ((σ 48 4), σ) else (if a1 = (7 : Int32) then some ((σ 73 4), σ) else (if a1 = (8 : Int32) then some ((σ 78 4), σ) else (if a1 = (9 : Int32) then some ((σ 22 2), σ) else (if a1 = (10 : Int32) then some ((σ 0 12), σ) else (if a1 = (11 : Int32) then some ((σ 0 11), σ) else (if a1 = (12 : Int32) then (fx_Land_enclaves N σ).bind fun q14 => some (q14, σ) else (if a1 = (13 : Int32) then (fx_People_nobodysBy N σ).bind fun q16 => some (q16, σ) else (fx_finding (-1000000001 : Int32) σ).bind fun q18 => some (q18.1, q18.2)))))))))))))))
set_option maxRecDepth 100000 in
theorem fx_count_e {X : Nat} {xs : Nat → Int32} {d : Nat} {N : Nat} {a1 : Int32} {σ : am_S} {o : Int32 × am_S} (h : fx_count N a1 σ = some o) : am_Ev am_sh (am_exx X xs) (d + 6) mm_127 0 [.ref 0, .int a1] [] σ (some (.int o.1)) o.2 := by
  unfold fx_count at h
  refine ev_iload_n (pc' := 1) rfl rfl rfl ?_
  rcases am_if h with ⟨hc1, h⟩ | ⟨hc1, h⟩
  · refine ev_tsw (pc' := 72) (off := 71) rfl (by rw [hc1]; decide +kernel) (by rw [hc1]; decide +kernel) rfl ?_
    refine ev_aload_n (pc' := 73) rfl rfl rfl ?_
    refine ev_getfield (pc' := 76) (w := .ref 1) rfl rfl rfl rfl ?_
    refine ev_getfield (pc' := 79) (w := .int (σ 1 11)) rfl rfl rfl rfl ?_
    obtain rfl := Option.some.inj h
    exact ev_ireturn rfl rfl
  rcases am_if h with ⟨hc2, h⟩ | ⟨hc2, h⟩
  · refine ev_tsw (pc' := 80) (off := 79) rfl (by rw [hc2]; decide +kernel) (by rw [hc2]; decide +kernel) rfl ?_
    refine ev_aload_n (pc' := 81) rfl rfl rfl ?_
    refine ev_getfield (pc' := 84) (w := .ref 1) rfl rfl rfl rfl ?_
    refine ev_getfield (pc' := 87) (w := .int (σ 1 12)) rfl rfl rfl rfl ?_
    obtain rfl := Option.some.inj h
    exact ev_ireturn rfl rfl
  rcases am_if h with ⟨hc3, h⟩ | ⟨hc3, h⟩
  · refine ev_tsw (pc' := 88) (off := 87) rfl (by rw [hc3]; decide +kernel) (by rw [hc3]; decide +kernel) rfl ?_
    refine ev_aload_n (pc' := 89) rfl rfl rfl ?_
    refine ev_getfield (pc' := 92) (w := .ref 1) rfl rfl rfl rfl ?_
    refine ev_getfield (pc' := 95) (w := .int (σ 1 13)) rfl rfl rfl rfl ?_
    obtain rfl := Option.some.inj h
    exact ev_ireturn rfl rfl
  rcases am_if h with ⟨hc4, h⟩ | ⟨hc4, h⟩
  · refine ev_tsw (pc' := 96) (off := 95) rfl (by rw [hc4]; decide +kernel) (by rw [hc4]; decide +kernel) rfl ?_
    refine ev_aload_n (pc' := 97) rfl rfl rfl ?_
    refine ev_getfield (pc' := 100) (w := .ref 13) rfl rfl rfl rfl ?_
    refine ev_getfield (pc' := 103) (w := .int (σ 13 7)) rfl rfl rfl rfl ?_
    obtain rfl := Option.some.inj h
    exact ev_ireturn rfl rfl
  rcases am_if h with ⟨hc5, h⟩ | ⟨hc5, h⟩
  · refine ev_tsw (pc' := 104) (off := 103) rfl (by rw [hc5]; decide +kernel) (by rw [hc5]; decide +kernel) rfl ?_
    refine ev_aload_n (pc' := 105) rfl rfl rfl ?_
    refine ev_getfield (pc' := 108) (w := .ref 34) rfl rfl rfl rfl ?_
    refine ev_getfield (pc' := 111) (w := .int (σ 34 6)) rfl rfl rfl rfl ?_
    obtain rfl := Option.some.inj h
    exact ev_ireturn rfl rfl
  rcases am_if h with ⟨hc6, h⟩ | ⟨hc6, h⟩
  · refine ev_tsw (pc' := 112) (off := 111) rfl (by rw [hc6]; decide +kernel) (by rw [hc6]; decide +kernel) rfl ?_
    refine ev_aload_n (pc' := 113) rfl rfl rfl ?_
    refine ev_getfield (pc' := 116) (w := .ref 34) rfl rfl rfl rfl ?_
    refine ev_getfield (pc' := 119) (w := .int (σ 34 7)) rfl rfl rfl rfl ?_
    obtain rfl := Option.some.inj h
    exact ev_ireturn rfl rfl
  rcases am_if h with ⟨hc7, h⟩ | ⟨hc7, h⟩
  · refine ev_tsw (pc' := 120) (off := 119) rfl (by rw [hc7]; decide +kernel) (by rw [hc7]; decide +kernel) rfl ?_
    refine ev_aload_n (pc' := 121) rfl rfl rfl ?_
    refine ev_getfield (pc' := 124) (w := .ref 48) rfl rfl rfl rfl ?_
    refine ev_getfield (pc' := 127) (w := .int (σ 48 4)) rfl rfl rfl rfl ?_
    obtain rfl := Option.some.inj h
    exact ev_ireturn rfl rfl
  rcases am_if h with ⟨hc8, h⟩ | ⟨hc8, h⟩
  · refine ev_tsw (pc' := 128) (off := 127) rfl (by rw [hc8]; decide +kernel) (by rw [hc8]; decide +kernel) rfl ?_
    refine ev_aload_n (pc' := 129) rfl rfl rfl ?_
    refine ev_getfield (pc' := 132) (w := .ref 73) rfl rfl rfl rfl ?_
    refine ev_getfield (pc' := 135) (w := .int (σ 73 4)) rfl rfl rfl rfl ?_
    obtain rfl := Option.some.inj h
    exact ev_ireturn rfl rfl
  rcases am_if h with ⟨hc9, h⟩ | ⟨hc9, h⟩
  · refine ev_tsw (pc' := 136) (off := 135) rfl (by rw [hc9]; decide +kernel) (by rw [hc9]; decide +kernel) rfl ?_
    refine ev_aload_n (pc' := 137) rfl rfl rfl ?_
    refine ev_getfield (pc' := 140) (w := .ref 78) rfl rfl rfl rfl ?_
    refine ev_getfield (pc' := 143) (w := .int (σ 78 4)) rfl rfl rfl rfl ?_
    obtain rfl := Option.some.inj h
    exact ev_ireturn rfl rfl
  rcases am_if h with ⟨hc10, h⟩ | ⟨hc10, h⟩
  · refine ev_tsw (pc' := 144) (off := 143) rfl (by rw [hc10]; decide +kernel) (by rw [hc10]; decide +kernel) rfl ?_
    refine ev_aload_n (pc' := 145) rfl rfl rfl ?_
    refine ev_getfield (pc' := 148) (w := .ref 21) rfl rfl rfl rfl ?_
    refine ev_getfield (pc' := 151) (w := .ref 22) rfl rfl rfl rfl ?_
    refine ev_getfield (pc' := 154) (w := .int (σ 22 2)) rfl rfl rfl rfl ?_
    obtain rfl := Option.some.inj h
    exact ev_ireturn rfl rfl
  rcases am_if h with ⟨hc11, h⟩ | ⟨hc11, h⟩
  · refine ev_tsw (pc' := 155) (off := 154) rfl (by rw [hc11]; decide +kernel) (by rw [hc11]; decide +kernel) rfl ?_
    refine ev_aload_n (pc' := 156) rfl rfl rfl ?_
    refine ev_getfield (pc' := 159) (w := .int (σ 0 12)) rfl rfl rfl rfl ?_
    obtain rfl := Option.some.inj h
    exact ev_ireturn rfl rfl
  rcases am_if h with ⟨hc12, h⟩ | ⟨hc12, h⟩
  · refine ev_tsw (pc' := 160) (off := 159) rfl (by rw [hc12]; decide +kernel) (by rw [hc12]; decide +kernel) rfl ?_
    refine ev_aload_n (pc' := 161) rfl rfl rfl ?_
    refine ev_getfield (pc' := 164) (w := .int (σ 0 11)) rfl rfl rfl rfl ?_
    obtain rfl := Option.some.inj h
    exact ev_ireturn rfl rfl
  rcases am_if h with ⟨hc13, h⟩ | ⟨hc13, h⟩
  · refine ev_tsw (pc' := 165) (off := 164) rfl (by rw [hc13]; decide +kernel) (by rw [hc13]; decide +kernel) rfl ?_
    refine ev_aload_n (pc' := 166) rfl rfl rfl ?_
    refine ev_getfield (pc' := 169) (w := .ref 1) rfl rfl rfl rfl ?_
    refine am_bd h (fun q14 hq14 h => ?_)
    refine ev_call (mi := 18) (as := [.ref 1]) (rest := []) rfl rfl (Nat.le_of_ble_eq_true rfl) (fx_Land_enclaves_e (d := d) hq14) ?_
    show am_Ev _ _ _ _ 172 _ _ _ _ _
    obtain rfl := Option.some.inj h
    exact ev_ireturn rfl rfl
  rcases am_if h with ⟨hc15, h⟩ | ⟨hc15, h⟩
  · refine ev_tsw (pc' := 173) (off := 172) rfl (by rw [hc15]; decide +kernel) (by rw [hc15]; decide +kernel) rfl ?_
    refine ev_aload_n (pc' := 174) rfl rfl rfl ?_
    refine ev_getfield (pc' := 177) (w := .ref 13) rfl rfl rfl rfl ?_
    refine ev_aload_n (pc' := 178) rfl rfl rfl ?_
    refine ev_getfield (pc' := 181) (w := .ref 21) rfl rfl rfl rfl ?_
    refine ev_getfield (pc' := 184) (w := .ref 31) rfl rfl rfl rfl ?_
    refine ev_aload_n (pc' := 185) rfl rfl rfl ?_
    refine ev_getfield (pc' := 188) (w := .ref 1) rfl rfl rfl rfl ?_
    refine am_bd h (fun q16 hq16 h => ?_)
    refine ev_call (mi := 48) (as := [.ref 13, .ref 31, .ref 1]) (rest := []) rfl rfl (Nat.le_of_ble_eq_true rfl) (fx_People_nobodysBy_e (d := d) hq16) ?_
    show am_Ev _ _ _ _ 191 _ _ _ _ _
    obtain rfl := Option.some.inj h
    exact ev_ireturn rfl rfl
  have hd17 : a1.toInt < 0 ∨ 13 < a1.toInt ∨ True := Or.inr (Or.inr trivial)
  have hk17 : ∀ (Lq Sq : List Value) (v : Option Value) (σ2 : am_S), am_Ev am_sh (am_exx X xs) (d + 6) mm_127 192 Lq Sq σ v σ2 → am_Ev am_sh (am_exx X xs) (d + 6) mm_127 1 Lq (.int a1 :: Sq) σ v σ2 := fun Lq Sq v σ2 hz => by
    by_cases hr : a1.toInt < 0 ∨ 13 < a1.toInt
    · exact ev_tsd rfl hr rfl hz
    · obtain ⟨j, hj, hx⟩ := am_rg 14 hr (by decide)
      rcases (show j = 0 ∨ j = 1 ∨ j = 2 ∨ j = 3 ∨ j = 4 ∨ j = 5 ∨ j = 6 ∨ j = 7 ∨ j = 8 ∨ j = 9 ∨ j = 10 ∨ j = 11 ∨ j = 12 ∨ j = 13 by omega) with rfl | rfl | rfl | rfl | rfl | rfl | rfl | rfl | rfl | rfl | rfl | rfl | rfl | rfl
      · exact absurd (hx.trans (by decide +kernel)) hc1
      · exact absurd (hx.trans (by decide +kernel)) hc2
      · exact absurd (hx.trans (by decide +kernel)) hc3
      · exact absurd (hx.trans (by decide +kernel)) hc4
      · exact absurd (hx.trans (by decide +kernel)) hc5
      · exact absurd (hx.trans (by decide +kernel)) hc6
      · exact absurd (hx.trans (by decide +kernel)) hc7
      · exact absurd (hx.trans (by decide +kernel)) hc8
      · exact absurd (hx.trans (by decide +kernel)) hc9
      · exact absurd (hx.trans (by decide +kernel)) hc10
      · exact absurd (hx.trans (by decide +kernel)) hc11
      · exact absurd (hx.trans (by decide +kernel)) hc12
      · exact absurd (hx.trans (by decide +kernel)) hc13
      · exact absurd (hx.trans (by decide +kernel)) hc15
  refine hk17 _ _ _ _ ?_
  refine ev_aload_n (pc' := 193) rfl rfl rfl ?_
  refine ev_ldc (pc' := 195) (b := (-1000000001 : Int32)) rfl rfl rfl ?_
  refine am_bd h (fun q18 hq18 h => ?_)
  refine ev_call (mi := 129) (as := [.ref 0, .int (-1000000001 : Int32)]) (rest := []) rfl rfl (Nat.le_of_ble_eq_true rfl) (fx_finding_e (d := d + 5) hq18) ?_
  show am_Ev _ _ _ _ 198 _ _ _ _ _
  obtain rfl := Option.some.inj h
  exact ev_ireturn rfl rfl
/-! PartedLand.found (0, 'I'): S -/
def fx_found_b10 (σ : am_S) : Option (Int32 × am_S) := (fx_finding (-1000000001 : Int32) σ).bind fun q1 => some (q1.1, q1.2)
set_option maxRecDepth 100000 in
theorem fx_found_b10_e {X : Nat} {xs : Nat → Int32} {d : Nat} {w1 : Value} {σ : am_S} {o : Int32 × am_S} (h : fx_found_b10 σ = some o) : am_Ev am_sh (am_exx X xs) (d + 1) mm_128 10 [.ref 0, w1] [] σ (some (.int o.1)) o.2 := by
  unfold fx_found_b10 at h
  refine ev_aload_n (pc' := 11) rfl rfl rfl ?_
  refine ev_ldc (pc' := 13) (b := (-1000000001 : Int32)) rfl rfl rfl ?_
  refine am_bd h (fun q1 hq1 h => ?_)
  refine ev_call (mi := 129) (as := [.ref 0, .int (-1000000001 : Int32)]) (rest := []) rfl rfl (Nat.le_of_ble_eq_true rfl) (fx_finding_e (d := d) hq1) ?_
  show am_Ev _ _ _ _ 16 _ _ _ _ _
  obtain rfl := Option.some.inj h
  exact ev_ireturn rfl rfl
def fx_found (a1 : Int32) (σ : am_S) : Option (Int32 × am_S) := (if a1 < (1 : Int32) then fx_found_b10 σ else (if a1 ≤ (5 : Int32) then am_g (am_in a1 6) <| some ((σ 83 a1.toNatClampNeg), σ) else fx_found_b10 σ))
set_option maxRecDepth 100000 in
theorem fx_found_e {X : Nat} {xs : Nat → Int32} {d : Nat} {a1 : Int32} {σ : am_S} {o : Int32 × am_S} (h : fx_found a1 σ = some o) : am_Ev am_sh (am_exx X xs) (d + 1) mm_128 0 [.ref 0, .int a1] [] σ (some (.int o.1)) o.2 := by
  unfold fx_found at h
  refine ev_iload_n (pc' := 1) rfl rfl rfl ?_
  refine ev_iconst (pc' := 2) (b := (1 : Int32)) rfl rfl rfl ?_
  rcases am_if h with ⟨hc1, h⟩ | ⟨hc1, h⟩
  · refine ev_ic_t (pc' := 10) rfl rfl (cb_lt_t hc1) ?_
    exact fx_found_b10_e h
  · refine ev_ic_f (pc' := 5) rfl (by decide) rfl (cb_lt_f hc1) ?_
    refine ev_iload_n (pc' := 6) rfl rfl rfl ?_
    refine ev_iconst (pc' := 7) (b := (5 : Int32)) rfl rfl rfl ?_
    rcases am_if h with ⟨hc2, h⟩ | ⟨hc2, h⟩
    · refine ev_ic_t (pc' := 17) rfl rfl (cb_le_t hc2) ?_
      refine ev_aload_n (pc' := 18) rfl rfl rfl ?_
      refine ev_getfield (pc' := 21) (w := .ref 83) rfl rfl rfl rfl ?_
      refine ev_iload_n (pc' := 22) rfl rfl rfl ?_
      obtain ⟨hg3, h⟩ := am_g_some h
      refine ev_iaload (pc' := 23) rfl rfl rfl hg3 ?_
      obtain rfl := Option.some.inj h
      exact ev_ireturn rfl rfl
    · refine ev_ic_f (pc' := 10) rfl (by decide) rfl (cb_le_f hc2) ?_
      exact fx_found_b10_e h
/-! PartedLand$Land.isAbovePegs (1, 'I'): P -/
def fx_Land_isAbovePegs_b22 (σ : am_S) : Option Int32 := some (1 : Int32)
set_option maxRecDepth 100000 in
theorem fx_Land_isAbovePegs_b22_e {X : Nat} {xs : Nat → Int32} {d : Nat} {w0 : Value} {w1 : Value} {σ : am_S} {o : Int32} (h : fx_Land_isAbovePegs_b22 σ = some o) : am_Ev am_sh (am_exx X xs) (d + 0) mm_30 22 [w0, w1] [] σ (some (.int o)) σ := by
  unfold fx_Land_isAbovePegs_b22 at h
  refine ev_iconst (pc' := 23) (b := (1 : Int32)) rfl rfl rfl ?_
  refine ev_goto (pc' := 27) rfl rfl ?_
  obtain rfl := Option.some.inj h
  exact ev_zreturn rfl rfl rfl
def fx_Land_isAbovePegs (a1 : Int32) (σ : am_S) : Option Int32 := (if (σ 1 13) = 0 then fx_Land_isAbovePegs_b22 σ else am_g (am_in ((σ 1 13) - (1 : Int32)) 8) <| (if a1 ≤ (σ 11 ((σ 1 13) - (1 : Int32)).toNatClampNeg) then some (0 : Int32) else fx_Land_isAbovePegs_b22 σ))
set_option maxRecDepth 100000 in
theorem fx_Land_isAbovePegs_e {X : Nat} {xs : Nat → Int32} {d : Nat} {a1 : Int32} {σ : am_S} {o : Int32} (h : fx_Land_isAbovePegs a1 σ = some o) : am_Ev am_sh (am_exx X xs) (d + 0) mm_30 0 [.ref 1, .int a1] [] σ (some (.int o)) σ := by
  unfold fx_Land_isAbovePegs at h
  refine ev_aload_n (pc' := 1) rfl rfl rfl ?_
  refine ev_getfield (pc' := 4) (w := .int (σ 1 13)) rfl rfl rfl rfl ?_
  rcases am_if h with ⟨hc1, h⟩ | ⟨hc1, h⟩
  · refine ev_if_t (pc' := 22) rfl rfl (cb_eq_t hc1) ?_
    exact fx_Land_isAbovePegs_b22_e h
  · refine ev_if_f (pc' := 7) rfl (by decide) rfl (cb_eq_f hc1) ?_
    refine ev_iload_n (pc' := 8) rfl rfl rfl ?_
    refine ev_aload_n (pc' := 9) rfl rfl rfl ?_
    refine ev_getfield (pc' := 12) (w := .ref 11) rfl rfl rfl rfl ?_
    refine ev_aload_n (pc' := 13) rfl rfl rfl ?_
    refine ev_getfield (pc' := 16) (w := .int (σ 1 13)) rfl rfl rfl rfl ?_
    refine ev_iconst (pc' := 17) (b := (1 : Int32)) rfl rfl rfl ?_
    refine ev_isub (pc' := 18) rfl rfl ?_
    obtain ⟨hg2, h⟩ := am_g_some h
    refine ev_iaload (pc' := 19) rfl rfl rfl hg2 ?_
    rcases am_if h with ⟨hc3, h⟩ | ⟨hc3, h⟩
    · refine ev_ic_t (pc' := 26) rfl rfl (cb_le_t hc3) ?_
      refine ev_iconst (pc' := 27) (b := (0 : Int32)) rfl rfl rfl ?_
      obtain rfl := Option.some.inj h
      exact ev_zreturn rfl rfl rfl
    · refine ev_ic_f (pc' := 22) rfl (by decide) rfl (cb_le_f hc3) ?_
      exact fx_Land_isAbovePegs_b22_e h
/-! PartedLand$Land.addPeg (1, 'I', 'I'): S -/
def fx_Land_addPeg (a1 : Int32) (a2 : Int32) (σ : am_S) : Option (Int32 × am_S) := am_g (am_in (σ 1 13) 8) <| am_g (am_in (σ 1 13) 8) <| some (((σ 1 13) + (1 : Int32)), (am_up (am_up (am_up σ 10 (σ 1 13).toNatClampNeg a1) 11 (σ 1 13).toNatClampNeg a2) 1 13 ((σ 1 13) + (1 : Int32))))
set_option maxRecDepth 100000 in
theorem fx_Land_addPeg_e {X : Nat} {xs : Nat → Int32} {d : Nat} {a1 : Int32} {a2 : Int32} {σ : am_S} {o : Int32 × am_S} (h : fx_Land_addPeg a1 a2 σ = some o) : am_Ev am_sh (am_exx X xs) (d + 0) mm_31 0 [.ref 1, .int a1, .int a2] [] σ (some (.int o.1)) o.2 := by
  unfold fx_Land_addPeg at h
  refine ev_aload_n (pc' := 1) rfl rfl rfl ?_
  refine ev_getfield (pc' := 4) (w := .ref 10) rfl rfl rfl rfl ?_
  refine ev_aload_n (pc' := 5) rfl rfl rfl ?_
  refine ev_getfield (pc' := 8) (w := .int (σ 1 13)) rfl rfl rfl rfl ?_
  refine ev_iload_n (pc' := 9) rfl rfl rfl ?_
  obtain ⟨hg1, h⟩ := am_g_some h
  refine ev_iastore (pc' := 10) rfl rfl rfl hg1 ?_
  refine ev_aload_n (pc' := 11) rfl rfl rfl ?_
  refine ev_getfield (pc' := 14) (w := .ref 11) rfl rfl rfl rfl ?_
  refine ev_aload_n (pc' := 15) rfl rfl rfl ?_
  refine ev_getfield (pc' := 18) (w := .int (σ 1 13)) rfl rfl rfl rfl ?_
  refine ev_iload_n (pc' := 19) rfl rfl rfl ?_
  obtain ⟨hg2, h⟩ := am_g_some h
  refine ev_iastore (pc' := 20) rfl rfl rfl hg2 ?_
  refine ev_aload_n (pc' := 21) rfl rfl rfl ?_
  refine ev_dup (pc' := 22) rfl rfl ?_
  refine ev_getfield (pc' := 25) (w := .int (σ 1 13)) rfl rfl rfl rfl ?_
  refine ev_iconst (pc' := 26) (b := (1 : Int32)) rfl rfl rfl ?_
  refine ev_iadd (pc' := 27) rfl rfl ?_
  refine ev_putfield (pc' := 30) (ci := 3) (f := 13) (z := 0) rfl rfl rfl rfl rfl ?_
  refine ev_aload_n (pc' := 31) rfl rfl rfl ?_
  refine ev_getfield (pc' := 34) (w := .int ((σ 1 13) + (1 : Int32))) rfl rfl rfl rfl ?_
  obtain rfl := Option.some.inj h
  exact ev_ireturn rfl rfl
/-! PartedLand.peg (0, 'I', 'I'): S -/
def fx_peg_b25 (σ : am_S) : Option (Int32 × am_S) := (fx_finding (-1000000001 : Int32) σ).bind fun q1 => some (q1.1, q1.2)
set_option maxRecDepth 100000 in
theorem fx_peg_b25_e {X : Nat} {xs : Nat → Int32} {d : Nat} {w1 : Value} {w2 : Value} {σ : am_S} {o : Int32 × am_S} (h : fx_peg_b25 σ = some o) : am_Ev am_sh (am_exx X xs) (d + 1) mm_133 25 [.ref 0, w1, w2] [] σ (some (.int o.1)) o.2 := by
  unfold fx_peg_b25 at h
  refine ev_aload_n (pc' := 26) rfl rfl rfl ?_
  refine ev_ldc (pc' := 28) (b := (-1000000001 : Int32)) rfl rfl rfl ?_
  refine am_bd h (fun q1 hq1 h => ?_)
  refine ev_call (mi := 129) (as := [.ref 0, .int (-1000000001 : Int32)]) (rest := []) rfl rfl (Nat.le_of_ble_eq_true rfl) (fx_finding_e (d := d) hq1) ?_
  show am_Ev _ _ _ _ 31 _ _ _ _ _
  obtain rfl := Option.some.inj h
  exact ev_ireturn rfl rfl
def fx_peg (a1 : Int32) (a2 : Int32) (σ : am_S) : Option (Int32 × am_S) := (if (fx_Land_isOnMap a1 σ) = 0 then fx_peg_b25 σ else (if (fx_Land_isOnMap a2 σ) = 0 then fx_peg_b25 σ else (fx_Land_isAbovePegs a2 σ).bind fun q3 => (if q3 = 0 then fx_peg_b25 σ else (if (σ 1 13) < (8 : Int32) then (fx_Land_addPeg a1 a2 σ).bind fun q6 => some (q6.1, q6.2) else (fx_finding (-1000000004 : Int32) σ).bind fun q7 => some (q7.1, q7.2)))))
set_option maxRecDepth 100000 in
theorem fx_peg_e {X : Nat} {xs : Nat → Int32} {d : Nat} {a1 : Int32} {a2 : Int32} {σ : am_S} {o : Int32 × am_S} (h : fx_peg a1 a2 σ = some o) : am_Ev am_sh (am_exx X xs) (d + 1) mm_133 0 [.ref 0, .int a1, .int a2] [] σ (some (.int o.1)) o.2 := by
  unfold fx_peg at h
  refine ev_iload_n (pc' := 1) rfl rfl rfl ?_
  refine ev_call (mi := 26) (as := [.int a1]) (rest := []) rfl rfl (Nat.le_of_ble_eq_true rfl) (fx_Land_isOnMap_e (d := d) rfl) ?_
  show am_Ev _ _ _ _ 4 _ _ _ _ _
  rcases am_if h with ⟨hc1, h⟩ | ⟨hc1, h⟩
  · refine ev_if_t (pc' := 25) rfl rfl (cb_eq_t hc1) ?_
    exact fx_peg_b25_e h
  · refine ev_if_f (pc' := 7) rfl (by decide) rfl (cb_eq_f hc1) ?_
    refine ev_iload_n (pc' := 8) rfl rfl rfl ?_
    refine ev_call (mi := 26) (as := [.int a2]) (rest := []) rfl rfl (Nat.le_of_ble_eq_true rfl) (fx_Land_isOnMap_e (d := d) rfl) ?_
    show am_Ev _ _ _ _ 11 _ _ _ _ _
    rcases am_if h with ⟨hc2, h⟩ | ⟨hc2, h⟩
    · refine ev_if_t (pc' := 25) rfl rfl (cb_eq_t hc2) ?_
      exact fx_peg_b25_e h
    · refine ev_if_f (pc' := 14) rfl (by decide) rfl (cb_eq_f hc2) ?_
      refine ev_aload_n (pc' := 15) rfl rfl rfl ?_
      refine ev_getfield (pc' := 18) (w := .ref 1) rfl rfl rfl rfl ?_
      refine ev_iload_n (pc' := 19) rfl rfl rfl ?_
      refine am_bd h (fun q3 hq3 h => ?_)
      refine ev_call (mi := 30) (as := [.ref 1, .int a2]) (rest := []) rfl rfl (Nat.le_of_ble_eq_true rfl) (fx_Land_isAbovePegs_e (d := d) hq3) ?_
      show am_Ev _ _ _ _ 22 _ _ _ _ _
      rcases am_if h with ⟨hc4, h⟩ | ⟨hc4, h⟩
      · refine ev_if_f (pc' := 25) rfl (by decide) rfl (cb_ne_f hc4) ?_
        exact fx_peg_b25_e h
      · refine ev_if_t (pc' := 32) rfl rfl (cb_ne_t hc4) ?_
        refine ev_aload_n (pc' := 33) rfl rfl rfl ?_
        refine ev_getfield (pc' := 36) (w := .ref 1) rfl rfl rfl rfl ?_
        refine ev_getfield (pc' := 39) (w := .int (σ 1 13)) rfl rfl rfl rfl ?_
        refine ev_bipush (pc' := 41) (b := (8 : Int32)) rfl rfl rfl ?_
        rcases am_if h with ⟨hc5, h⟩ | ⟨hc5, h⟩
        · refine ev_ic_t (pc' := 51) rfl rfl (cb_lt_t hc5) ?_
          refine ev_aload_n (pc' := 52) rfl rfl rfl ?_
          refine ev_getfield (pc' := 55) (w := .ref 1) rfl rfl rfl rfl ?_
          refine ev_iload_n (pc' := 56) rfl rfl rfl ?_
          refine ev_iload_n (pc' := 57) rfl rfl rfl ?_
          refine am_bd h (fun q6 hq6 h => ?_)
          refine ev_call (mi := 31) (as := [.ref 1, .int a1, .int a2]) (rest := []) rfl rfl (Nat.le_of_ble_eq_true rfl) (fx_Land_addPeg_e (d := d) hq6) ?_
          show am_Ev _ _ _ _ 60 _ _ _ _ _
          obtain rfl := Option.some.inj h
          exact ev_ireturn rfl rfl
        · refine ev_ic_f (pc' := 44) rfl (by decide) rfl (cb_lt_f hc5) ?_
          refine ev_aload_n (pc' := 45) rfl rfl rfl ?_
          refine ev_ldc (pc' := 47) (b := (-1000000004 : Int32)) rfl rfl rfl ?_
          refine am_bd h (fun q7 hq7 h => ?_)
          refine ev_call (mi := 129) (as := [.ref 0, .int (-1000000004 : Int32)]) (rest := []) rfl rfl (Nat.le_of_ble_eq_true rfl) (fx_finding_e (d := d) hq7) ?_
          show am_Ev _ _ _ _ 50 _ _ _ _ _
          obtain rfl := Option.some.inj h
          exact ev_ireturn rfl rfl
/-! PartedLand.settle (0, 'I', 'I'): S -/
def fx_settle_b18 (σ : am_S) : Option (Int32 × am_S) := (fx_finding (-1000000001 : Int32) σ).bind fun q1 => some (q1.1, q1.2)
set_option maxRecDepth 100000 in
theorem fx_settle_b18_e {X : Nat} {xs : Nat → Int32} {d : Nat} {w1 : Value} {w2 : Value} {w3 : Value} {σ : am_S} {o : Int32 × am_S} (h : fx_settle_b18 σ = some o) : am_Ev am_sh (am_exx X xs) (d + 1) mm_134 18 [.ref 0, w1, w2, w3] [] σ (some (.int o.1)) o.2 := by
  unfold fx_settle_b18 at h
  refine ev_aload_n (pc' := 19) rfl rfl rfl ?_
  refine ev_ldc (pc' := 21) (b := (-1000000001 : Int32)) rfl rfl rfl ?_
  refine am_bd h (fun q1 hq1 h => ?_)
  refine ev_call (mi := 129) (as := [.ref 0, .int (-1000000001 : Int32)]) (rest := []) rfl rfl (Nat.le_of_ble_eq_true rfl) (fx_finding_e (d := d) hq1) ?_
  show am_Ev _ _ _ _ 24 _ _ _ _ _
  obtain rfl := Option.some.inj h
  exact ev_ireturn rfl rfl
def fx_settle (a1 : Int32) (a2 : Int32) (σ : am_S) : Option (Int32 × am_S) := (if (fx_Land_hasParish a1 σ) = 0 then fx_settle_b18 σ else (if (fx_isZeroOrOne a2 σ) = 0 then fx_settle_b18 σ else am_g (am_in a1 12) <| am_g (am_in a1 12) <| some ((σ 4 a1.toNatClampNeg), (am_up σ 4 a1.toNatClampNeg a2))))
set_option maxRecDepth 100000 in
theorem fx_settle_e {X : Nat} {xs : Nat → Int32} {d : Nat} {a1 : Int32} {a2 : Int32} {σ : am_S} {o : Int32 × am_S} (h : fx_settle a1 a2 σ = some o) : am_Ev am_sh (am_exx X xs) (d + 1) mm_134 0 [.ref 0, .int a1, .int a2, .null] [] σ (some (.int o.1)) o.2 := by
  unfold fx_settle at h
  refine ev_aload_n (pc' := 1) rfl rfl rfl ?_
  refine ev_getfield (pc' := 4) (w := .ref 1) rfl rfl rfl rfl ?_
  refine ev_iload_n (pc' := 5) rfl rfl rfl ?_
  refine ev_call (mi := 27) (as := [.ref 1, .int a1]) (rest := []) rfl rfl (Nat.le_of_ble_eq_true rfl) (fx_Land_hasParish_e (d := d) rfl) ?_
  show am_Ev _ _ _ _ 8 _ _ _ _ _
  rcases am_if h with ⟨hc1, h⟩ | ⟨hc1, h⟩
  · refine ev_if_t (pc' := 18) rfl rfl (cb_eq_t hc1) ?_
    exact fx_settle_b18_e h
  · refine ev_if_f (pc' := 11) rfl (by decide) rfl (cb_eq_f hc1) ?_
    refine ev_iload_n (pc' := 12) rfl rfl rfl ?_
    refine ev_call (mi := 130) (as := [.int a2]) (rest := []) rfl rfl (Nat.le_of_ble_eq_true rfl) (fx_isZeroOrOne_e (d := d) rfl) ?_
    show am_Ev _ _ _ _ 15 _ _ _ _ _
    rcases am_if h with ⟨hc2, h⟩ | ⟨hc2, h⟩
    · refine ev_if_f (pc' := 18) rfl (by decide) rfl (cb_ne_f hc2) ?_
      exact fx_settle_b18_e h
    · refine ev_if_t (pc' := 25) rfl rfl (cb_ne_t hc2) ?_
      refine ev_aload_n (pc' := 26) rfl rfl rfl ?_
      refine ev_getfield (pc' := 29) (w := .ref 1) rfl rfl rfl rfl ?_
      refine ev_getfield (pc' := 32) (w := .ref 4) rfl rfl rfl rfl ?_
      refine ev_iload_n (pc' := 33) rfl rfl rfl ?_
      obtain ⟨hg3, h⟩ := am_g_some h
      refine ev_iaload (pc' := 34) rfl rfl rfl hg3 ?_
      refine ev_istore_n (pc' := 35) (L' := [.ref 0, .int a1, .int a2, .int (σ 4 a1.toNatClampNeg)]) rfl rfl rfl rfl ?_
      refine ev_aload_n (pc' := 36) rfl rfl rfl ?_
      refine ev_getfield (pc' := 39) (w := .ref 1) rfl rfl rfl rfl ?_
      refine ev_getfield (pc' := 42) (w := .ref 4) rfl rfl rfl rfl ?_
      refine ev_iload_n (pc' := 43) rfl rfl rfl ?_
      refine ev_iload_n (pc' := 44) rfl rfl rfl ?_
      obtain ⟨hg4, h⟩ := am_g_some h
      refine ev_iastore (pc' := 45) rfl rfl rfl hg4 ?_
      refine ev_iload_n (pc' := 46) rfl rfl rfl ?_
      obtain rfl := Option.some.inj h
      exact ev_ireturn rfl rfl
/-! PartedLand.seat (0, 'I', 'I'): S -/
def fx_seat_b18 (σ : am_S) : Option (Int32 × am_S) := (fx_finding (-1000000001 : Int32) σ).bind fun q1 => some (q1.1, q1.2)
set_option maxRecDepth 100000 in
theorem fx_seat_b18_e {X : Nat} {xs : Nat → Int32} {d : Nat} {w1 : Value} {w2 : Value} {w3 : Value} {σ : am_S} {o : Int32 × am_S} (h : fx_seat_b18 σ = some o) : am_Ev am_sh (am_exx X xs) (d + 1) mm_135 18 [.ref 0, w1, w2, w3] [] σ (some (.int o.1)) o.2 := by
  unfold fx_seat_b18 at h
  refine ev_aload_n (pc' := 19) rfl rfl rfl ?_
  refine ev_ldc (pc' := 21) (b := (-1000000001 : Int32)) rfl rfl rfl ?_
  refine am_bd h (fun q1 hq1 h => ?_)
  refine ev_call (mi := 129) (as := [.ref 0, .int (-1000000001 : Int32)]) (rest := []) rfl rfl (Nat.le_of_ble_eq_true rfl) (fx_finding_e (d := d) hq1) ?_
  show am_Ev _ _ _ _ 24 _ _ _ _ _
  obtain rfl := Option.some.inj h
  exact ev_ireturn rfl rfl
def fx_seat (a1 : Int32) (a2 : Int32) (σ : am_S) : Option (Int32 × am_S) := (if (fx_isZeroOrOne a1 σ) = 0 then fx_seat_b18 σ else (if (fx_Land_hasParish a2 σ) = 0 then fx_seat_b18 σ else am_g (am_in a1 2) <| am_g (am_in a1 2) <| some ((σ 5 a1.toNatClampNeg), (am_up σ 5 a1.toNatClampNeg a2))))
set_option maxRecDepth 100000 in
theorem fx_seat_e {X : Nat} {xs : Nat → Int32} {d : Nat} {a1 : Int32} {a2 : Int32} {σ : am_S} {o : Int32 × am_S} (h : fx_seat a1 a2 σ = some o) : am_Ev am_sh (am_exx X xs) (d + 1) mm_135 0 [.ref 0, .int a1, .int a2, .null] [] σ (some (.int o.1)) o.2 := by
  unfold fx_seat at h
  refine ev_iload_n (pc' := 1) rfl rfl rfl ?_
  refine ev_call (mi := 130) (as := [.int a1]) (rest := []) rfl rfl (Nat.le_of_ble_eq_true rfl) (fx_isZeroOrOne_e (d := d) rfl) ?_
  show am_Ev _ _ _ _ 4 _ _ _ _ _
  rcases am_if h with ⟨hc1, h⟩ | ⟨hc1, h⟩
  · refine ev_if_t (pc' := 18) rfl rfl (cb_eq_t hc1) ?_
    exact fx_seat_b18_e h
  · refine ev_if_f (pc' := 7) rfl (by decide) rfl (cb_eq_f hc1) ?_
    refine ev_aload_n (pc' := 8) rfl rfl rfl ?_
    refine ev_getfield (pc' := 11) (w := .ref 1) rfl rfl rfl rfl ?_
    refine ev_iload_n (pc' := 12) rfl rfl rfl ?_
    refine ev_call (mi := 27) (as := [.ref 1, .int a2]) (rest := []) rfl rfl (Nat.le_of_ble_eq_true rfl) (fx_Land_hasParish_e (d := d) rfl) ?_
    show am_Ev _ _ _ _ 15 _ _ _ _ _
    rcases am_if h with ⟨hc2, h⟩ | ⟨hc2, h⟩
    · refine ev_if_f (pc' := 18) rfl (by decide) rfl (cb_ne_f hc2) ?_
      exact fx_seat_b18_e h
    · refine ev_if_t (pc' := 25) rfl rfl (cb_ne_t hc2) ?_
      refine ev_aload_n (pc' := 26) rfl rfl rfl ?_
      refine ev_getfield (pc' := 29) (w := .ref 1) rfl rfl rfl rfl ?_
      refine ev_getfield (pc' := 32) (w := .ref 5) rfl rfl rfl rfl ?_
      refine ev_iload_n (pc' := 33) rfl rfl rfl ?_
      obtain ⟨hg3, h⟩ := am_g_some h
      refine ev_iaload (pc' := 34) rfl rfl rfl hg3 ?_
      refine ev_istore_n (pc' := 35) (L' := [.ref 0, .int a1, .int a2, .int (σ 5 a1.toNatClampNeg)]) rfl rfl rfl rfl ?_
      refine ev_aload_n (pc' := 36) rfl rfl rfl ?_
      refine ev_getfield (pc' := 39) (w := .ref 1) rfl rfl rfl rfl ?_
      refine ev_getfield (pc' := 42) (w := .ref 5) rfl rfl rfl rfl ?_
      refine ev_iload_n (pc' := 43) rfl rfl rfl ?_
      refine ev_iload_n (pc' := 44) rfl rfl rfl ?_
      obtain ⟨hg4, h⟩ := am_g_some h
      refine ev_iastore (pc' := 45) rfl rfl rfl hg4 ?_
      refine ev_iload_n (pc' := 46) rfl rfl rfl ?_
      obtain rfl := Option.some.inj h
      exact ev_ireturn rfl rfl
/-! PartedLand.side (0, 'I'): S -/
def fx_side (N : Nat) (a1 : Int32) (σ : am_S) : Option (Int32 × am_S) := (if (fx_Land_hasParish a1 σ) = 0 then (fx_finding (-1000000001 : Int32) σ).bind fun q2 => some (q2.1, q2.2) else (fx_Land_sideOf N a1 σ).bind fun q3 => some (q3, σ))
set_option maxRecDepth 100000 in
theorem fx_side_e {X : Nat} {xs : Nat → Int32} {d : Nat} {N : Nat} {a1 : Int32} {σ : am_S} {o : Int32 × am_S} (h : fx_side N a1 σ = some o) : am_Ev am_sh (am_exx X xs) (d + 3) mm_136 0 [.ref 0, .int a1] [] σ (some (.int o.1)) o.2 := by
  unfold fx_side at h
  refine ev_aload_n (pc' := 1) rfl rfl rfl ?_
  refine ev_getfield (pc' := 4) (w := .ref 1) rfl rfl rfl rfl ?_
  refine ev_iload_n (pc' := 5) rfl rfl rfl ?_
  refine ev_call (mi := 27) (as := [.ref 1, .int a1]) (rest := []) rfl rfl (Nat.le_of_ble_eq_true rfl) (fx_Land_hasParish_e (d := d + 2) rfl) ?_
  show am_Ev _ _ _ _ 8 _ _ _ _ _
  rcases am_if h with ⟨hc1, h⟩ | ⟨hc1, h⟩
  · refine ev_if_f (pc' := 11) rfl (by decide) rfl (cb_ne_f hc1) ?_
    refine ev_aload_n (pc' := 12) rfl rfl rfl ?_
    refine ev_ldc (pc' := 14) (b := (-1000000001 : Int32)) rfl rfl rfl ?_
    refine am_bd h (fun q2 hq2 h => ?_)
    refine ev_call (mi := 129) (as := [.ref 0, .int (-1000000001 : Int32)]) (rest := []) rfl rfl (Nat.le_of_ble_eq_true rfl) (fx_finding_e (d := d + 2) hq2) ?_
    show am_Ev _ _ _ _ 17 _ _ _ _ _
    obtain rfl := Option.some.inj h
    exact ev_ireturn rfl rfl
  · refine ev_if_t (pc' := 18) rfl rfl (cb_ne_t hc1) ?_
    refine ev_aload_n (pc' := 19) rfl rfl rfl ?_
    refine ev_getfield (pc' := 22) (w := .ref 1) rfl rfl rfl rfl ?_
    refine ev_iload_n (pc' := 23) rfl rfl rfl ?_
    refine am_bd h (fun q3 hq3 h => ?_)
    refine ev_call (mi := 16) (as := [.ref 1, .int a1]) (rest := []) rfl rfl (Nat.le_of_ble_eq_true rfl) (fx_Land_sideOf_e (d := d) hq3) ?_
    show am_Ev _ _ _ _ 26 _ _ _ _ _
    obtain rfl := Option.some.inj h
    exact ev_ireturn rfl rfl
/-! PartedLand.enclave (0, 'I'): S -/
def fx_enclave (N : Nat) (a1 : Int32) (σ : am_S) : Option (Int32 × am_S) := (if (fx_Land_hasParish a1 σ) = 0 then (fx_finding (-1000000001 : Int32) σ).bind fun q2 => some (q2.1, q2.2) else (fx_Land_isEnclave N a1 σ).bind fun q3 => (if q3 = 0 then some ((0 : Int32), σ) else some ((1 : Int32), σ)))
set_option maxRecDepth 100000 in
theorem fx_enclave_e {X : Nat} {xs : Nat → Int32} {d : Nat} {N : Nat} {a1 : Int32} {σ : am_S} {o : Int32 × am_S} (h : fx_enclave N a1 σ = some o) : am_Ev am_sh (am_exx X xs) (d + 5) mm_137 0 [.ref 0, .int a1] [] σ (some (.int o.1)) o.2 := by
  unfold fx_enclave at h
  refine ev_aload_n (pc' := 1) rfl rfl rfl ?_
  refine ev_getfield (pc' := 4) (w := .ref 1) rfl rfl rfl rfl ?_
  refine ev_iload_n (pc' := 5) rfl rfl rfl ?_
  refine ev_call (mi := 27) (as := [.ref 1, .int a1]) (rest := []) rfl rfl (Nat.le_of_ble_eq_true rfl) (fx_Land_hasParish_e (d := d + 4) rfl) ?_
  show am_Ev _ _ _ _ 8 _ _ _ _ _
  rcases am_if h with ⟨hc1, h⟩ | ⟨hc1, h⟩
  · refine ev_if_f (pc' := 11) rfl (by decide) rfl (cb_ne_f hc1) ?_
    refine ev_aload_n (pc' := 12) rfl rfl rfl ?_
    refine ev_ldc (pc' := 14) (b := (-1000000001 : Int32)) rfl rfl rfl ?_
    refine am_bd h (fun q2 hq2 h => ?_)
    refine ev_call (mi := 129) (as := [.ref 0, .int (-1000000001 : Int32)]) (rest := []) rfl rfl (Nat.le_of_ble_eq_true rfl) (fx_finding_e (d := d + 4) hq2) ?_
    show am_Ev _ _ _ _ 17 _ _ _ _ _
    obtain rfl := Option.some.inj h
    exact ev_ireturn rfl rfl
  · refine ev_if_t (pc' := 18) rfl rfl (cb_ne_t hc1) ?_
    refine ev_aload_n (pc' := 19) rfl rfl rfl ?_
    refine ev_getfield (pc' := 22) (w := .ref 1) rfl rfl rfl rfl ?_
    refine ev_iload_n (pc' := 23) rfl rfl rfl ?_
    refine am_bd h (fun q3 hq3 h => ?_)
    refine ev_call (mi := 17) (as := [.ref 1, .int a1]) (rest := []) rfl rfl (Nat.le_of_ble_eq_true rfl) (fx_Land_isEnclave_e (d := d) hq3) ?_
    show am_Ev _ _ _ _ 26 _ _ _ _ _
    rcases am_if h with ⟨hc4, h⟩ | ⟨hc4, h⟩
    · refine ev_if_t (pc' := 33) rfl rfl (cb_eq_t hc4) ?_
      refine ev_iconst (pc' := 34) (b := (0 : Int32)) rfl rfl rfl ?_
      obtain rfl := Option.some.inj h
      exact ev_ireturn rfl rfl
    · refine ev_if_f (pc' := 29) rfl (by decide) rfl (cb_eq_f hc4) ?_
      refine ev_iconst (pc' := 30) (b := (1 : Int32)) rfl rfl rfl ?_
      refine ev_goto (pc' := 34) rfl rfl ?_
      obtain rfl := Option.some.inj h
      exact ev_ireturn rfl rfl
/-! PartedLand.far (0, 'I', 'I', 'I'): S -/
def fx_far_b29 (N : Nat) (σ : am_S) : Option (Int32 × am_S) := (fx_finding (-1000000001 : Int32) σ).bind fun q1 => some (q1.1, q1.2)
set_option maxRecDepth 100000 in
theorem fx_far_b29_e {X : Nat} {xs : Nat → Int32} {d : Nat} {N : Nat} {w1 : Value} {w2 : Value} {w3 : Value} {w4 : Value} {σ : am_S} {o : Int32 × am_S} (h : fx_far_b29 N σ = some o) : am_Ev am_sh (am_exx X xs) (d + 2) mm_138 29 [.ref 0, w1, w2, w3, w4] [] σ (some (.int o.1)) o.2 := by
  unfold fx_far_b29 at h
  refine ev_aload_n (pc' := 30) rfl rfl rfl ?_
  refine ev_ldc (pc' := 32) (b := (-1000000001 : Int32)) rfl rfl rfl ?_
  refine am_bd h (fun q1 hq1 h => ?_)
  refine ev_call (mi := 129) (as := [.ref 0, .int (-1000000001 : Int32)]) (rest := []) rfl rfl (Nat.le_of_ble_eq_true rfl) (fx_finding_e (d := d + 1) hq1) ?_
  show am_Ev _ _ _ _ 35 _ _ _ _ _
  obtain rfl := Option.some.inj h
  exact ev_ireturn rfl rfl
def fx_far_b51 (N : Nat) (x2 : Int32) (s0 : Int32) (s1 : Int32) (σ : am_S) : Option (Int32 × am_S) := (fx_Land_measureFrom N s1 s0 σ).bind fun q1 => am_g (am_in x2 12) <| (if (q1 12 x2.toNatClampNeg) < (1000000 : Int32) then some ((q1 12 x2.toNatClampNeg), q1) else (fx_finding (-1000000002 : Int32) q1).bind fun q4 => some (q4.1, q4.2))
set_option maxRecDepth 100000 in
theorem fx_far_b51_e {X : Nat} {xs : Nat → Int32} {d : Nat} {N : Nat} {x2 : Int32} {s0 : Int32} {s1 : Int32} {w1 : Value} {w3 : Value} {w4 : Value} {σ : am_S} {o : Int32 × am_S} (h : fx_far_b51 N x2 s0 s1 σ = some o) : am_Ev am_sh (am_exx X xs) (d + 2) mm_138 51 [.ref 0, w1, .int x2, w3, w4] [.int s0, .int s1, .ref 1] σ (some (.int o.1)) o.2 := by
  unfold fx_far_b51 at h
  refine am_bd h (fun q1 hq1 h => ?_)
  refine ev_call (mi := 21) (as := [.ref 1, .int s1, .int s0]) (rest := []) rfl rfl (Nat.le_of_ble_eq_true rfl) (fx_Land_measureFrom_e (d := d) hq1) ?_
  show am_Ev _ _ _ _ 54 _ _ _ _ _
  refine ev_aload_n (pc' := 55) rfl rfl rfl ?_
  refine ev_getfield (pc' := 58) (w := .ref 1) rfl rfl rfl rfl ?_
  refine ev_getfield (pc' := 61) (w := .ref 12) rfl rfl rfl rfl ?_
  refine ev_iload_n (pc' := 62) rfl rfl rfl ?_
  obtain ⟨hg2, h⟩ := am_g_some h
  refine ev_iaload (pc' := 63) rfl rfl rfl hg2 ?_
  refine ev_istore (pc' := 65) (L' := [.ref 0, w1, .int x2, w3, .int (q1 12 x2.toNatClampNeg)]) rfl rfl rfl rfl ?_
  refine ev_iload (pc' := 67) rfl rfl rfl ?_
  refine ev_ldc (pc' := 69) (b := (1000000 : Int32)) rfl rfl rfl ?_
  rcases am_if h with ⟨hc3, h⟩ | ⟨hc3, h⟩
  · refine ev_ic_t (pc' := 81) rfl rfl (cb_lt_t hc3) ?_
    refine ev_iload (pc' := 83) rfl rfl rfl ?_
    obtain rfl := Option.some.inj h
    exact ev_ireturn rfl rfl
  · refine ev_ic_f (pc' := 72) rfl (by decide) rfl (cb_lt_f hc3) ?_
    refine ev_aload_n (pc' := 73) rfl rfl rfl ?_
    refine ev_ldc (pc' := 75) (b := (-1000000002 : Int32)) rfl rfl rfl ?_
    refine am_bd h (fun q4 hq4 h => ?_)
    refine ev_call (mi := 129) (as := [.ref 0, .int (-1000000002 : Int32)]) (rest := []) rfl rfl (Nat.le_of_ble_eq_true rfl) (fx_finding_e (d := d + 1) hq4) ?_
    show am_Ev _ _ _ _ 78 _ _ _ _ _
    refine ev_goto (pc' := 83) rfl rfl ?_
    obtain rfl := Option.some.inj h
    exact ev_ireturn rfl rfl
def fx_far (N : Nat) (a1 : Int32) (a2 : Int32) (a3 : Int32) (σ : am_S) : Option (Int32 × am_S) := (if (fx_Land_hasParish a1 σ) = 0 then fx_far_b29 N σ else (if (fx_Land_hasParish a2 σ) = 0 then fx_far_b29 N σ else (if (fx_isZeroOrOne a3 σ) = 0 then fx_far_b29 N σ else (if a3 = (1 : Int32) then fx_far_b51 N a2 (1 : Int32) a1 σ else fx_far_b51 N a2 (0 : Int32) a1 σ))))
set_option maxRecDepth 100000 in
theorem fx_far_e {X : Nat} {xs : Nat → Int32} {d : Nat} {N : Nat} {a1 : Int32} {a2 : Int32} {a3 : Int32} {σ : am_S} {o : Int32 × am_S} (h : fx_far N a1 a2 a3 σ = some o) : am_Ev am_sh (am_exx X xs) (d + 2) mm_138 0 [.ref 0, .int a1, .int a2, .int a3, .null] [] σ (some (.int o.1)) o.2 := by
  unfold fx_far at h
  refine ev_aload_n (pc' := 1) rfl rfl rfl ?_
  refine ev_getfield (pc' := 4) (w := .ref 1) rfl rfl rfl rfl ?_
  refine ev_iload_n (pc' := 5) rfl rfl rfl ?_
  refine ev_call (mi := 27) (as := [.ref 1, .int a1]) (rest := []) rfl rfl (Nat.le_of_ble_eq_true rfl) (fx_Land_hasParish_e (d := d + 1) rfl) ?_
  show am_Ev _ _ _ _ 8 _ _ _ _ _
  rcases am_if h with ⟨hc1, h⟩ | ⟨hc1, h⟩
  · refine ev_if_t (pc' := 29) rfl rfl (cb_eq_t hc1) ?_
    exact fx_far_b29_e h
  · refine ev_if_f (pc' := 11) rfl (by decide) rfl (cb_eq_f hc1) ?_
    refine ev_aload_n (pc' := 12) rfl rfl rfl ?_
    refine ev_getfield (pc' := 15) (w := .ref 1) rfl rfl rfl rfl ?_
    refine ev_iload_n (pc' := 16) rfl rfl rfl ?_
    refine ev_call (mi := 27) (as := [.ref 1, .int a2]) (rest := []) rfl rfl (Nat.le_of_ble_eq_true rfl) (fx_Land_hasParish_e (d := d + 1) rfl) ?_
    show am_Ev _ _ _ _ 19 _ _ _ _ _
    rcases am_if h with ⟨hc2, h⟩ | ⟨hc2, h⟩
    · refine ev_if_t (pc' := 29) rfl rfl (cb_eq_t hc2) ?_
      exact fx_far_b29_e h
    · refine ev_if_f (pc' := 22) rfl (by decide) rfl (cb_eq_f hc2) ?_
      refine ev_iload_n (pc' := 23) rfl rfl rfl ?_
      refine ev_call (mi := 130) (as := [.int a3]) (rest := []) rfl rfl (Nat.le_of_ble_eq_true rfl) (fx_isZeroOrOne_e (d := d + 1) rfl) ?_
      show am_Ev _ _ _ _ 26 _ _ _ _ _
      rcases am_if h with ⟨hc3, h⟩ | ⟨hc3, h⟩
      · refine ev_if_f (pc' := 29) rfl (by decide) rfl (cb_ne_f hc3) ?_
        exact fx_far_b29_e h
      · refine ev_if_t (pc' := 36) rfl rfl (cb_ne_t hc3) ?_
        refine ev_aload_n (pc' := 37) rfl rfl rfl ?_
        refine ev_getfield (pc' := 40) (w := .ref 1) rfl rfl rfl rfl ?_
        refine ev_iload_n (pc' := 41) rfl rfl rfl ?_
        refine ev_iload_n (pc' := 42) rfl rfl rfl ?_
        refine ev_iconst (pc' := 43) (b := (1 : Int32)) rfl rfl rfl ?_
        rcases am_if h with ⟨hc4, h⟩ | ⟨hc4, h⟩
        · refine ev_ic_f (pc' := 46) rfl (by decide) rfl (cb_ne_f hc4) ?_
          refine ev_iconst (pc' := 47) (b := (1 : Int32)) rfl rfl rfl ?_
          refine ev_goto (pc' := 51) rfl rfl ?_
          exact fx_far_b51_e h
        · refine ev_ic_t (pc' := 50) rfl rfl (cb_ne_t hc4) ?_
          refine ev_iconst (pc' := 51) (b := (0 : Int32)) rfl rfl rfl ?_
          exact fx_far_b51_e h
/-! PartedLandModel.isIn ('I', 'I', 'I'): T -/
def fm_isIn (a0 : Int32) (a1 : Int32) (a2 : Int32) (σ : am_S) : Int32 := (if a0 < a1 then (0 : Int32) else (if a2 < a0 then (0 : Int32) else (1 : Int32)))
set_option maxRecDepth 100000 in
theorem fm_isIn_e {X : Nat} {xs : Nat → Int32} {d : Nat} {a0 : Int32} {a1 : Int32} {a2 : Int32} {σ : am_S} {o : Int32} (h : fm_isIn a0 a1 a2 σ = o) : am_Ev am_sh (am_exx X xs) (d + 0) mm_170 0 [.int a0, .int a1, .int a2] [] σ (some (.int o)) σ := by
  unfold fm_isIn at h
  refine ev_iload_n (pc' := 1) rfl rfl rfl ?_
  refine ev_iload_n (pc' := 2) rfl rfl rfl ?_
  rcases am_if h with ⟨hc1, h⟩ | ⟨hc1, h⟩
  · refine ev_ic_t (pc' := 14) rfl rfl (cb_lt_t hc1) ?_
    refine ev_iconst (pc' := 15) (b := (0 : Int32)) rfl rfl rfl ?_
    subst h
    exact ev_zreturn rfl rfl rfl
  · refine ev_ic_f (pc' := 5) rfl (by decide) rfl (cb_lt_f hc1) ?_
    refine ev_iload_n (pc' := 6) rfl rfl rfl ?_
    refine ev_iload_n (pc' := 7) rfl rfl rfl ?_
    rcases am_if h with ⟨hc2, h⟩ | ⟨hc2, h⟩
    · refine ev_ic_t (pc' := 14) rfl rfl (cb_gt_t hc2) ?_
      refine ev_iconst (pc' := 15) (b := (0 : Int32)) rfl rfl rfl ?_
      subst h
      exact ev_zreturn rfl rfl rfl
    · refine ev_ic_f (pc' := 10) rfl (by decide) rfl (cb_gt_f hc2) ?_
      refine ev_iconst (pc' := 11) (b := (1 : Int32)) rfl rfl rfl ?_
      refine ev_goto (pc' := 15) rfl rfl ?_
      subst h
      exact ev_zreturn rfl rfl rfl
/-! PartedLandModel.finding (85, 'I'): S -/
def fm_finding (a1 : Int32) (σ : am_S) : Option (Int32 × am_S) := am_g (am_in a1 6) <| am_g (am_in a1 6) <| some (((-1000000000 : Int32) - a1), (am_up σ 123 a1.toNatClampNeg ((σ 123 a1.toNatClampNeg) + (1 : Int32))))
set_option maxRecDepth 100000 in
theorem fm_finding_e {X : Nat} {xs : Nat → Int32} {d : Nat} {a1 : Int32} {σ : am_S} {o : Int32 × am_S} (h : fm_finding a1 σ = some o) : am_Ev am_sh (am_exx X xs) (d + 0) mm_159 0 [.ref 85, .int a1] [] σ (some (.int o.1)) o.2 := by
  unfold fm_finding at h
  refine ev_aload_n (pc' := 1) rfl rfl rfl ?_
  refine ev_getfield (pc' := 4) (w := .ref 123) rfl rfl rfl rfl ?_
  refine ev_iload_n (pc' := 5) rfl rfl rfl ?_
  refine ev_dup2 (pc' := 6) rfl rfl ?_
  obtain ⟨hg1, h⟩ := am_g_some h
  refine ev_iaload (pc' := 7) rfl rfl rfl hg1 ?_
  refine ev_iconst (pc' := 8) (b := (1 : Int32)) rfl rfl rfl ?_
  refine ev_iadd (pc' := 9) rfl rfl ?_
  obtain ⟨hg2, h⟩ := am_g_some h
  refine ev_iastore (pc' := 10) rfl rfl rfl hg2 ?_
  refine ev_ldc (pc' := 12) (b := (-1000000000 : Int32)) rfl rfl rfl ?_
  refine ev_iload_n (pc' := 13) rfl rfl rfl ?_
  refine ev_isub (pc' := 14) rfl rfl ?_
  obtain rfl := Option.some.inj h
  exact ev_ireturn rfl rfl
/-! PartedLandModel.peg (85, 'I', 'I'): S -/
def fm_peg_b42 (σ : am_S) : Option (Int32 × am_S) := (fm_finding (1 : Int32) σ).bind fun q1 => some (q1.1, q1.2)
set_option maxRecDepth 100000 in
theorem fm_peg_b42_e {X : Nat} {xs : Nat → Int32} {d : Nat} {w1 : Value} {w2 : Value} {σ : am_S} {o : Int32 × am_S} (h : fm_peg_b42 σ = some o) : am_Ev am_sh (am_exx X xs) (d + 1) mm_139 42 [.ref 85, w1, w2] [] σ (some (.int o.1)) o.2 := by
  unfold fm_peg_b42 at h
  refine ev_aload_n (pc' := 43) rfl rfl rfl ?_
  refine ev_iconst (pc' := 44) (b := (1 : Int32)) rfl rfl rfl ?_
  refine am_bd h (fun q1 hq1 h => ?_)
  refine ev_call (mi := 159) (as := [.ref 85, .int (1 : Int32)]) (rest := []) rfl rfl (Nat.le_of_ble_eq_true rfl) (fm_finding_e (d := d) hq1) ?_
  show am_Ev _ _ _ _ 47 _ _ _ _ _
  obtain rfl := Option.some.inj h
  exact ev_ireturn rfl rfl
def fm_peg_b48 (x1 : Int32) (x2 : Int32) (σ : am_S) : Option (Int32 × am_S) := (if (σ 85 10) = (8 : Int32) then (fm_finding (4 : Int32) σ).bind fun q2 => some (q2.1, q2.2) else am_g (am_in (σ 85 10) 8) <| am_g (am_in (σ 85 10) 8) <| some (((σ 85 10) + (1 : Int32)), (am_up (am_up (am_up σ 93 (σ 85 10).toNatClampNeg x1) 94 (σ 85 10).toNatClampNeg x2) 85 10 ((σ 85 10) + (1 : Int32)))))
set_option maxRecDepth 100000 in
theorem fm_peg_b48_e {X : Nat} {xs : Nat → Int32} {d : Nat} {x1 : Int32} {x2 : Int32} {σ : am_S} {o : Int32 × am_S} (h : fm_peg_b48 x1 x2 σ = some o) : am_Ev am_sh (am_exx X xs) (d + 1) mm_139 48 [.ref 85, .int x1, .int x2] [] σ (some (.int o.1)) o.2 := by
  unfold fm_peg_b48 at h
  refine ev_aload_n (pc' := 49) rfl rfl rfl ?_
  refine ev_getfield (pc' := 52) (w := .int (σ 85 10)) rfl rfl rfl rfl ?_
  refine ev_bipush (pc' := 54) (b := (8 : Int32)) rfl rfl rfl ?_
  rcases am_if h with ⟨hc1, h⟩ | ⟨hc1, h⟩
  · refine ev_ic_f (pc' := 57) rfl (by decide) rfl (cb_ne_f hc1) ?_
    refine ev_aload_n (pc' := 58) rfl rfl rfl ?_
    refine ev_iconst (pc' := 59) (b := (4 : Int32)) rfl rfl rfl ?_
    refine am_bd h (fun q2 hq2 h => ?_)
    refine ev_call (mi := 159) (as := [.ref 85, .int (4 : Int32)]) (rest := []) rfl rfl (Nat.le_of_ble_eq_true rfl) (fm_finding_e (d := d) hq2) ?_
    show am_Ev _ _ _ _ 62 _ _ _ _ _
    obtain rfl := Option.some.inj h
    exact ev_ireturn rfl rfl
  · refine ev_ic_t (pc' := 63) rfl rfl (cb_ne_t hc1) ?_
    refine ev_aload_n (pc' := 64) rfl rfl rfl ?_
    refine ev_getfield (pc' := 67) (w := .ref 93) rfl rfl rfl rfl ?_
    refine ev_aload_n (pc' := 68) rfl rfl rfl ?_
    refine ev_getfield (pc' := 71) (w := .int (σ 85 10)) rfl rfl rfl rfl ?_
    refine ev_iload_n (pc' := 72) rfl rfl rfl ?_
    obtain ⟨hg3, h⟩ := am_g_some h
    refine ev_iastore (pc' := 73) rfl rfl rfl hg3 ?_
    refine ev_aload_n (pc' := 74) rfl rfl rfl ?_
    refine ev_getfield (pc' := 77) (w := .ref 94) rfl rfl rfl rfl ?_
    refine ev_aload_n (pc' := 78) rfl rfl rfl ?_
    refine ev_getfield (pc' := 81) (w := .int (σ 85 10)) rfl rfl rfl rfl ?_
    refine ev_iload_n (pc' := 82) rfl rfl rfl ?_
    obtain ⟨hg4, h⟩ := am_g_some h
    refine ev_iastore (pc' := 83) rfl rfl rfl hg4 ?_
    refine ev_aload_n (pc' := 84) rfl rfl rfl ?_
    refine ev_dup (pc' := 85) rfl rfl ?_
    refine ev_getfield (pc' := 88) (w := .int (σ 85 10)) rfl rfl rfl rfl ?_
    refine ev_iconst (pc' := 89) (b := (1 : Int32)) rfl rfl rfl ?_
    refine ev_iadd (pc' := 90) rfl rfl ?_
    refine ev_putfield (pc' := 93) (ci := 11) (f := 10) (z := 0) rfl rfl rfl rfl rfl ?_
    refine ev_aload_n (pc' := 94) rfl rfl rfl ?_
    refine ev_getfield (pc' := 97) (w := .int ((σ 85 10) + (1 : Int32))) rfl rfl rfl rfl ?_
    obtain rfl := Option.some.inj h
    exact ev_ireturn rfl rfl
def fm_peg (a1 : Int32) (a2 : Int32) (σ : am_S) : Option (Int32 × am_S) := (if (fm_isIn a1 (0 : Int32) (99 : Int32) σ) = 0 then fm_peg_b42 σ else (if (fm_isIn a2 (0 : Int32) (99 : Int32) σ) = 0 then fm_peg_b42 σ else (if (σ 85 10) ≤ 0 then fm_peg_b48 a1 a2 σ else am_g (am_in ((σ 85 10) - (1 : Int32)) 8) <| (if (σ 94 ((σ 85 10) - (1 : Int32)).toNatClampNeg) < a2 then fm_peg_b48 a1 a2 σ else fm_peg_b42 σ))))
set_option maxRecDepth 100000 in
theorem fm_peg_e {X : Nat} {xs : Nat → Int32} {d : Nat} {a1 : Int32} {a2 : Int32} {σ : am_S} {o : Int32 × am_S} (h : fm_peg a1 a2 σ = some o) : am_Ev am_sh (am_exx X xs) (d + 1) mm_139 0 [.ref 85, .int a1, .int a2] [] σ (some (.int o.1)) o.2 := by
  unfold fm_peg at h
  refine ev_iload_n (pc' := 1) rfl rfl rfl ?_
  refine ev_iconst (pc' := 2) (b := (0 : Int32)) rfl rfl rfl ?_
  refine ev_bipush (pc' := 4) (b := (99 : Int32)) rfl rfl rfl ?_
  refine ev_call (mi := 170) (as := [.int a1, .int (0 : Int32), .int (99 : Int32)]) (rest := []) rfl rfl (Nat.le_of_ble_eq_true rfl) (fm_isIn_e (d := d) rfl) ?_
  show am_Ev _ _ _ _ 7 _ _ _ _ _
  rcases am_if h with ⟨hc1, h⟩ | ⟨hc1, h⟩
  · refine ev_if_t (pc' := 42) rfl rfl (cb_eq_t hc1) ?_
    exact fm_peg_b42_e h
  · refine ev_if_f (pc' := 10) rfl (by decide) rfl (cb_eq_f hc1) ?_
    refine ev_iload_n (pc' := 11) rfl rfl rfl ?_
    refine ev_iconst (pc' := 12) (b := (0 : Int32)) rfl rfl rfl ?_
    refine ev_bipush (pc' := 14) (b := (99 : Int32)) rfl rfl rfl ?_
    refine ev_call (mi := 170) (as := [.int a2, .int (0 : Int32), .int (99 : Int32)]) (rest := []) rfl rfl (Nat.le_of_ble_eq_true rfl) (fm_isIn_e (d := d) rfl) ?_
    show am_Ev _ _ _ _ 17 _ _ _ _ _
    rcases am_if h with ⟨hc2, h⟩ | ⟨hc2, h⟩
    · refine ev_if_t (pc' := 42) rfl rfl (cb_eq_t hc2) ?_
      exact fm_peg_b42_e h
    · refine ev_if_f (pc' := 20) rfl (by decide) rfl (cb_eq_f hc2) ?_
      refine ev_aload_n (pc' := 21) rfl rfl rfl ?_
      refine ev_getfield (pc' := 24) (w := .int (σ 85 10)) rfl rfl rfl rfl ?_
      rcases am_if h with ⟨hc3, h⟩ | ⟨hc3, h⟩
      · refine ev_if_t (pc' := 48) rfl rfl (cb_le_t hc3) ?_
        exact fm_peg_b48_e h
      · refine ev_if_f (pc' := 27) rfl (by decide) rfl (cb_le_f hc3) ?_
        refine ev_iload_n (pc' := 28) rfl rfl rfl ?_
        refine ev_aload_n (pc' := 29) rfl rfl rfl ?_
        refine ev_getfield (pc' := 32) (w := .ref 94) rfl rfl rfl rfl ?_
        refine ev_aload_n (pc' := 33) rfl rfl rfl ?_
        refine ev_getfield (pc' := 36) (w := .int (σ 85 10)) rfl rfl rfl rfl ?_
        refine ev_iconst (pc' := 37) (b := (1 : Int32)) rfl rfl rfl ?_
        refine ev_isub (pc' := 38) rfl rfl ?_
        obtain ⟨hg4, h⟩ := am_g_some h
        refine ev_iaload (pc' := 39) rfl rfl rfl hg4 ?_
        rcases am_if h with ⟨hc5, h⟩ | ⟨hc5, h⟩
        · refine ev_ic_t (pc' := 48) rfl rfl (cb_gt_t hc5) ?_
          exact fm_peg_b48_e h
        · refine ev_ic_f (pc' := 42) rfl (by decide) rfl (cb_gt_f hc5) ?_
          exact fm_peg_b42_e h
/-! PartedLandModel.isParish (85, 'I'): T -/
def fm_isParish (a1 : Int32) (σ : am_S) : Int32 := (if a1 < 0 then (0 : Int32) else (if (σ 85 1) ≤ a1 then (0 : Int32) else (1 : Int32)))
set_option maxRecDepth 100000 in
theorem fm_isParish_e {X : Nat} {xs : Nat → Int32} {d : Nat} {a1 : Int32} {σ : am_S} {o : Int32} (h : fm_isParish a1 σ = o) : am_Ev am_sh (am_exx X xs) (d + 0) mm_181 0 [.ref 85, .int a1] [] σ (some (.int o)) σ := by
  unfold fm_isParish at h
  refine ev_iload_n (pc' := 1) rfl rfl rfl ?_
  rcases am_if h with ⟨hc1, h⟩ | ⟨hc1, h⟩
  · refine ev_if_t (pc' := 16) rfl rfl (cb_lt_t hc1) ?_
    refine ev_iconst (pc' := 17) (b := (0 : Int32)) rfl rfl rfl ?_
    subst h
    exact ev_zreturn rfl rfl rfl
  · refine ev_if_f (pc' := 4) rfl (by decide) rfl (cb_lt_f hc1) ?_
    refine ev_iload_n (pc' := 5) rfl rfl rfl ?_
    refine ev_aload_n (pc' := 6) rfl rfl rfl ?_
    refine ev_getfield (pc' := 9) (w := .int (σ 85 1)) rfl rfl rfl rfl ?_
    rcases am_if h with ⟨hc2, h⟩ | ⟨hc2, h⟩
    · refine ev_ic_t (pc' := 16) rfl rfl (cb_ge_t hc2) ?_
      refine ev_iconst (pc' := 17) (b := (0 : Int32)) rfl rfl rfl ?_
      subst h
      exact ev_zreturn rfl rfl rfl
    · refine ev_ic_f (pc' := 12) rfl (by decide) rfl (cb_ge_f hc2) ?_
      refine ev_iconst (pc' := 13) (b := (1 : Int32)) rfl rfl rfl ?_
      refine ev_goto (pc' := 17) rfl rfl ?_
      subst h
      exact ev_zreturn rfl rfl rfl
/-! PartedLandModel.isSide ('I',): T -/
def fm_isSide_b9 (σ : am_S) : Int32 := (1 : Int32)
set_option maxRecDepth 100000 in
theorem fm_isSide_b9_e {X : Nat} {xs : Nat → Int32} {d : Nat} {w0 : Value} {σ : am_S} {o : Int32} (h : fm_isSide_b9 σ = o) : am_Ev am_sh (am_exx X xs) (d + 0) mm_213 9 [w0] [] σ (some (.int o)) σ := by
  unfold fm_isSide_b9 at h
  refine ev_iconst (pc' := 10) (b := (1 : Int32)) rfl rfl rfl ?_
  refine ev_goto (pc' := 14) rfl rfl ?_
  subst h
  exact ev_zreturn rfl rfl rfl
def fm_isSide (a0 : Int32) (σ : am_S) : Int32 := (if a0 = 0 then fm_isSide_b9 σ else (if a0 = (1 : Int32) then fm_isSide_b9 σ else (0 : Int32)))
set_option maxRecDepth 100000 in
theorem fm_isSide_e {X : Nat} {xs : Nat → Int32} {d : Nat} {a0 : Int32} {σ : am_S} {o : Int32} (h : fm_isSide a0 σ = o) : am_Ev am_sh (am_exx X xs) (d + 0) mm_213 0 [.int a0] [] σ (some (.int o)) σ := by
  unfold fm_isSide at h
  refine ev_iload_n (pc' := 1) rfl rfl rfl ?_
  rcases am_if h with ⟨hc1, h⟩ | ⟨hc1, h⟩
  · refine ev_if_t (pc' := 9) rfl rfl (cb_eq_t hc1) ?_
    exact fm_isSide_b9_e h
  · refine ev_if_f (pc' := 4) rfl (by decide) rfl (cb_eq_f hc1) ?_
    refine ev_iload_n (pc' := 5) rfl rfl rfl ?_
    refine ev_iconst (pc' := 6) (b := (1 : Int32)) rfl rfl rfl ?_
    rcases am_if h with ⟨hc2, h⟩ | ⟨hc2, h⟩
    · refine ev_ic_f (pc' := 9) rfl (by decide) rfl (cb_ne_f hc2) ?_
      exact fm_isSide_b9_e h
    · refine ev_ic_t (pc' := 13) rfl rfl (cb_ne_t hc2) ?_
      refine ev_iconst (pc' := 14) (b := (0 : Int32)) rfl rfl rfl ?_
      subst h
      exact ev_zreturn rfl rfl rfl
/-! PartedLandModel.settle (85, 'I', 'I'): S -/
def fm_settle_b15 (σ : am_S) : Option (Int32 × am_S) := (fm_finding (1 : Int32) σ).bind fun q1 => some (q1.1, q1.2)
set_option maxRecDepth 100000 in
theorem fm_settle_b15_e {X : Nat} {xs : Nat → Int32} {d : Nat} {w1 : Value} {w2 : Value} {w3 : Value} {σ : am_S} {o : Int32 × am_S} (h : fm_settle_b15 σ = some o) : am_Ev am_sh (am_exx X xs) (d + 1) mm_140 15 [.ref 85, w1, w2, w3] [] σ (some (.int o.1)) o.2 := by
  unfold fm_settle_b15 at h
  refine ev_aload_n (pc' := 16) rfl rfl rfl ?_
  refine ev_iconst (pc' := 17) (b := (1 : Int32)) rfl rfl rfl ?_
  refine am_bd h (fun q1 hq1 h => ?_)
  refine ev_call (mi := 159) (as := [.ref 85, .int (1 : Int32)]) (rest := []) rfl rfl (Nat.le_of_ble_eq_true rfl) (fm_finding_e (d := d) hq1) ?_
  show am_Ev _ _ _ _ 20 _ _ _ _ _
  obtain rfl := Option.some.inj h
  exact ev_ireturn rfl rfl
def fm_settle (a1 : Int32) (a2 : Int32) (σ : am_S) : Option (Int32 × am_S) := (if (fm_isParish a1 σ) = 0 then fm_settle_b15 σ else (if (fm_isSide a2 σ) = 0 then fm_settle_b15 σ else am_g (am_in a1 12) <| am_g (am_in a1 12) <| some ((σ 88 a1.toNatClampNeg), (am_up σ 88 a1.toNatClampNeg a2))))
set_option maxRecDepth 100000 in
theorem fm_settle_e {X : Nat} {xs : Nat → Int32} {d : Nat} {a1 : Int32} {a2 : Int32} {σ : am_S} {o : Int32 × am_S} (h : fm_settle a1 a2 σ = some o) : am_Ev am_sh (am_exx X xs) (d + 1) mm_140 0 [.ref 85, .int a1, .int a2, .null] [] σ (some (.int o.1)) o.2 := by
  unfold fm_settle at h
  refine ev_aload_n (pc' := 1) rfl rfl rfl ?_
  refine ev_iload_n (pc' := 2) rfl rfl rfl ?_
  refine ev_call (mi := 181) (as := [.ref 85, .int a1]) (rest := []) rfl rfl (Nat.le_of_ble_eq_true rfl) (fm_isParish_e (d := d) rfl) ?_
  show am_Ev _ _ _ _ 5 _ _ _ _ _
  rcases am_if h with ⟨hc1, h⟩ | ⟨hc1, h⟩
  · refine ev_if_t (pc' := 15) rfl rfl (cb_eq_t hc1) ?_
    exact fm_settle_b15_e h
  · refine ev_if_f (pc' := 8) rfl (by decide) rfl (cb_eq_f hc1) ?_
    refine ev_iload_n (pc' := 9) rfl rfl rfl ?_
    refine ev_call (mi := 213) (as := [.int a2]) (rest := []) rfl rfl (Nat.le_of_ble_eq_true rfl) (fm_isSide_e (d := d) rfl) ?_
    show am_Ev _ _ _ _ 12 _ _ _ _ _
    rcases am_if h with ⟨hc2, h⟩ | ⟨hc2, h⟩
    · refine ev_if_f (pc' := 15) rfl (by decide) rfl (cb_ne_f hc2) ?_
      exact fm_settle_b15_e h
    · refine ev_if_t (pc' := 21) rfl rfl (cb_ne_t hc2) ?_
      refine ev_aload_n (pc' := 22) rfl rfl rfl ?_
      refine ev_getfield (pc' := 25) (w := .ref 88) rfl rfl rfl rfl ?_
      refine ev_iload_n (pc' := 26) rfl rfl rfl ?_
      obtain ⟨hg3, h⟩ := am_g_some h
      refine ev_iaload (pc' := 27) rfl rfl rfl hg3 ?_
      refine ev_istore_n (pc' := 28) (L' := [.ref 85, .int a1, .int a2, .int (σ 88 a1.toNatClampNeg)]) rfl rfl rfl rfl ?_
      refine ev_aload_n (pc' := 29) rfl rfl rfl ?_
      refine ev_getfield (pc' := 32) (w := .ref 88) rfl rfl rfl rfl ?_
      refine ev_iload_n (pc' := 33) rfl rfl rfl ?_
      refine ev_iload_n (pc' := 34) rfl rfl rfl ?_
      obtain ⟨hg4, h⟩ := am_g_some h
      refine ev_iastore (pc' := 35) rfl rfl rfl hg4 ?_
      refine ev_iload_n (pc' := 36) rfl rfl rfl ?_
      obtain rfl := Option.some.inj h
      exact ev_ireturn rfl rfl
/-! PartedLandModel.seat (85, 'I', 'I'): S -/
def fm_seat_b15 (σ : am_S) : Option (Int32 × am_S) := (fm_finding (1 : Int32) σ).bind fun q1 => some (q1.1, q1.2)
set_option maxRecDepth 100000 in
theorem fm_seat_b15_e {X : Nat} {xs : Nat → Int32} {d : Nat} {w1 : Value} {w2 : Value} {w3 : Value} {σ : am_S} {o : Int32 × am_S} (h : fm_seat_b15 σ = some o) : am_Ev am_sh (am_exx X xs) (d + 1) mm_141 15 [.ref 85, w1, w2, w3] [] σ (some (.int o.1)) o.2 := by
  unfold fm_seat_b15 at h
  refine ev_aload_n (pc' := 16) rfl rfl rfl ?_
  refine ev_iconst (pc' := 17) (b := (1 : Int32)) rfl rfl rfl ?_
  refine am_bd h (fun q1 hq1 h => ?_)
  refine ev_call (mi := 159) (as := [.ref 85, .int (1 : Int32)]) (rest := []) rfl rfl (Nat.le_of_ble_eq_true rfl) (fm_finding_e (d := d) hq1) ?_
  show am_Ev _ _ _ _ 20 _ _ _ _ _
  obtain rfl := Option.some.inj h
  exact ev_ireturn rfl rfl
def fm_seat (a1 : Int32) (a2 : Int32) (σ : am_S) : Option (Int32 × am_S) := (if (fm_isSide a1 σ) = 0 then fm_seat_b15 σ else (if (fm_isParish a2 σ) = 0 then fm_seat_b15 σ else am_g (am_in a1 2) <| am_g (am_in a1 2) <| some ((σ 95 a1.toNatClampNeg), (am_up σ 95 a1.toNatClampNeg a2))))
set_option maxRecDepth 100000 in
theorem fm_seat_e {X : Nat} {xs : Nat → Int32} {d : Nat} {a1 : Int32} {a2 : Int32} {σ : am_S} {o : Int32 × am_S} (h : fm_seat a1 a2 σ = some o) : am_Ev am_sh (am_exx X xs) (d + 1) mm_141 0 [.ref 85, .int a1, .int a2, .null] [] σ (some (.int o.1)) o.2 := by
  unfold fm_seat at h
  refine ev_iload_n (pc' := 1) rfl rfl rfl ?_
  refine ev_call (mi := 213) (as := [.int a1]) (rest := []) rfl rfl (Nat.le_of_ble_eq_true rfl) (fm_isSide_e (d := d) rfl) ?_
  show am_Ev _ _ _ _ 4 _ _ _ _ _
  rcases am_if h with ⟨hc1, h⟩ | ⟨hc1, h⟩
  · refine ev_if_t (pc' := 15) rfl rfl (cb_eq_t hc1) ?_
    exact fm_seat_b15_e h
  · refine ev_if_f (pc' := 7) rfl (by decide) rfl (cb_eq_f hc1) ?_
    refine ev_aload_n (pc' := 8) rfl rfl rfl ?_
    refine ev_iload_n (pc' := 9) rfl rfl rfl ?_
    refine ev_call (mi := 181) (as := [.ref 85, .int a2]) (rest := []) rfl rfl (Nat.le_of_ble_eq_true rfl) (fm_isParish_e (d := d) rfl) ?_
    show am_Ev _ _ _ _ 12 _ _ _ _ _
    rcases am_if h with ⟨hc2, h⟩ | ⟨hc2, h⟩
    · refine ev_if_f (pc' := 15) rfl (by decide) rfl (cb_ne_f hc2) ?_
      exact fm_seat_b15_e h
    · refine ev_if_t (pc' := 21) rfl rfl (cb_ne_t hc2) ?_
      refine ev_aload_n (pc' := 22) rfl rfl rfl ?_
      refine ev_getfield (pc' := 25) (w := .ref 95) rfl rfl rfl rfl ?_
      refine ev_iload_n (pc' := 26) rfl rfl rfl ?_
      obtain ⟨hg3, h⟩ := am_g_some h
      refine ev_iaload (pc' := 27) rfl rfl rfl hg3 ?_
      refine ev_istore_n (pc' := 28) (L' := [.ref 85, .int a1, .int a2, .int (σ 95 a1.toNatClampNeg)]) rfl rfl rfl rfl ?_
      refine ev_aload_n (pc' := 29) rfl rfl rfl ?_
      refine ev_getfield (pc' := 32) (w := .ref 95) rfl rfl rfl rfl ?_
      refine ev_iload_n (pc' := 33) rfl rfl rfl ?_
      refine ev_iload_n (pc' := 34) rfl rfl rfl ?_
      obtain ⟨hg4, h⟩ := am_g_some h
      refine ev_iastore (pc' := 35) rfl rfl rfl hg4 ?_
      refine ev_iload_n (pc' := 36) rfl rfl rfl ?_
      obtain rfl := Option.some.inj h
      exact ev_ireturn rfl rfl
/-! PartedLandModel.lineAt (85, 'I'): P -/
def fm_lineAt_b29 (N : Nat) : Nat → Int32 → Int32 → am_S → Option Int32
  | 0, _, _, _ => none
  | n + 1, x1, x2, σ => (if (σ 85 10) ≤ x2 then am_g (am_in ((σ 85 10) - (1 : Int32)) 8) <| some (σ 93 ((σ 85 10) - (1 : Int32)).toNatClampNeg) else am_g (am_in x2 8) <| (if (σ 94 x2.toNatClampNeg) < x1 then fm_lineAt_b29 N n x1 (x2 + (1 : Int32)) σ else am_g (am_in (x2 - (1 : Int32)) 8) <| am_g (am_in x2 8) <| am_g (am_in (x2 - (1 : Int32)) 8) <| am_g (am_in (x2 - (1 : Int32)) 8) <| am_g (am_in x2 8) <| am_g (am_in (x2 - (1 : Int32)) 8) <| (if ((σ 94 x2.toNatClampNeg) - (σ 94 (x2 - (1 : Int32)).toNatClampNeg)) = 0 then none else some ((σ 93 (x2 - (1 : Int32)).toNatClampNeg) + ((((σ 93 x2.toNatClampNeg) - (σ 93 (x2 - (1 : Int32)).toNatClampNeg)) * (x1 - (σ 94 (x2 - (1 : Int32)).toNatClampNeg))) / ((σ 94 x2.toNatClampNeg) - (σ 94 (x2 - (1 : Int32)).toNatClampNeg)))))))
set_option maxRecDepth 100000 in
theorem fm_lineAt_b29_e {X : Nat} {xs : Nat → Int32} {d : Nat} {N : Nat} : ∀ {n : Nat} {x1 : Int32} {x2 : Int32} {σ : am_S} {o : Int32}, fm_lineAt_b29 N n x1 x2 σ = some o → am_Ev am_sh (am_exx X xs) (d + 0) mm_142 29 [.ref 85, .int x1, .int x2] [] σ (some (.int o)) σ := by
  intro n
  induction n with
  | zero => intro x1 x2 σ o h; cases h
  | succ n ih =>
    intro x1 x2 σ o h
    unfold fm_lineAt_b29 at h
    refine ev_iload_n (pc' := 30) rfl rfl rfl ?_
    refine ev_aload_n (pc' := 31) rfl rfl rfl ?_
    refine ev_getfield (pc' := 34) (w := .int (σ 85 10)) rfl rfl rfl rfl ?_
    rcases am_if h with ⟨hc1, h⟩ | ⟨hc1, h⟩
    · refine ev_ic_t (pc' := 105) rfl rfl (cb_ge_t hc1) ?_
      refine ev_aload_n (pc' := 106) rfl rfl rfl ?_
      refine ev_getfield (pc' := 109) (w := .ref 93) rfl rfl rfl rfl ?_
      refine ev_aload_n (pc' := 110) rfl rfl rfl ?_
      refine ev_getfield (pc' := 113) (w := .int (σ 85 10)) rfl rfl rfl rfl ?_
      refine ev_iconst (pc' := 114) (b := (1 : Int32)) rfl rfl rfl ?_
      refine ev_isub (pc' := 115) rfl rfl ?_
      obtain ⟨hg2, h⟩ := am_g_some h
      refine ev_iaload (pc' := 116) rfl rfl rfl hg2 ?_
      obtain rfl := Option.some.inj h
      exact ev_ireturn rfl rfl
    · refine ev_ic_f (pc' := 37) rfl (by decide) rfl (cb_ge_f hc1) ?_
      refine ev_iload_n (pc' := 38) rfl rfl rfl ?_
      refine ev_aload_n (pc' := 39) rfl rfl rfl ?_
      refine ev_getfield (pc' := 42) (w := .ref 94) rfl rfl rfl rfl ?_
      refine ev_iload_n (pc' := 43) rfl rfl rfl ?_
      obtain ⟨hg3, h⟩ := am_g_some h
      refine ev_iaload (pc' := 44) rfl rfl rfl hg3 ?_
      rcases am_if h with ⟨hc4, h⟩ | ⟨hc4, h⟩
      · refine ev_ic_t (pc' := 99) rfl rfl (cb_gt_t hc4) ?_
        refine ev_iinc (pc' := 102) (L' := [.ref 85, .int x1, .int (x2 + (1 : Int32))]) (b := (1 : Int32)) rfl rfl rfl rfl rfl ?_
        refine ev_goto (pc' := 29) rfl rfl ?_
        exact ih h
      · refine ev_ic_f (pc' := 47) rfl (by decide) rfl (cb_gt_f hc4) ?_
        refine ev_aload_n (pc' := 48) rfl rfl rfl ?_
        refine ev_getfield (pc' := 51) (w := .ref 93) rfl rfl rfl rfl ?_
        refine ev_iload_n (pc' := 52) rfl rfl rfl ?_
        refine ev_iconst (pc' := 53) (b := (1 : Int32)) rfl rfl rfl ?_
        refine ev_isub (pc' := 54) rfl rfl ?_
        obtain ⟨hg5, h⟩ := am_g_some h
        refine ev_iaload (pc' := 55) rfl rfl rfl hg5 ?_
        refine ev_aload_n (pc' := 56) rfl rfl rfl ?_
        refine ev_getfield (pc' := 59) (w := .ref 93) rfl rfl rfl rfl ?_
        refine ev_iload_n (pc' := 60) rfl rfl rfl ?_
        obtain ⟨hg6, h⟩ := am_g_some h
        refine ev_iaload (pc' := 61) rfl rfl rfl hg6 ?_
        refine ev_aload_n (pc' := 62) rfl rfl rfl ?_
        refine ev_getfield (pc' := 65) (w := .ref 93) rfl rfl rfl rfl ?_
        refine ev_iload_n (pc' := 66) rfl rfl rfl ?_
        refine ev_iconst (pc' := 67) (b := (1 : Int32)) rfl rfl rfl ?_
        refine ev_isub (pc' := 68) rfl rfl ?_
        obtain ⟨hg7, h⟩ := am_g_some h
        refine ev_iaload (pc' := 69) rfl rfl rfl hg7 ?_
        refine ev_isub (pc' := 70) rfl rfl ?_
        refine ev_iload_n (pc' := 71) rfl rfl rfl ?_
        refine ev_aload_n (pc' := 72) rfl rfl rfl ?_
        refine ev_getfield (pc' := 75) (w := .ref 94) rfl rfl rfl rfl ?_
        refine ev_iload_n (pc' := 76) rfl rfl rfl ?_
        refine ev_iconst (pc' := 77) (b := (1 : Int32)) rfl rfl rfl ?_
        refine ev_isub (pc' := 78) rfl rfl ?_
        obtain ⟨hg8, h⟩ := am_g_some h
        refine ev_iaload (pc' := 79) rfl rfl rfl hg8 ?_
        refine ev_isub (pc' := 80) rfl rfl ?_
        refine ev_imul (pc' := 81) rfl rfl ?_
        refine ev_aload_n (pc' := 82) rfl rfl rfl ?_
        refine ev_getfield (pc' := 85) (w := .ref 94) rfl rfl rfl rfl ?_
        refine ev_iload_n (pc' := 86) rfl rfl rfl ?_
        obtain ⟨hg9, h⟩ := am_g_some h
        refine ev_iaload (pc' := 87) rfl rfl rfl hg9 ?_
        refine ev_aload_n (pc' := 88) rfl rfl rfl ?_
        refine ev_getfield (pc' := 91) (w := .ref 94) rfl rfl rfl rfl ?_
        refine ev_iload_n (pc' := 92) rfl rfl rfl ?_
        refine ev_iconst (pc' := 93) (b := (1 : Int32)) rfl rfl rfl ?_
        refine ev_isub (pc' := 94) rfl rfl ?_
        obtain ⟨hg10, h⟩ := am_g_some h
        refine ev_iaload (pc' := 95) rfl rfl rfl hg10 ?_
        refine ev_isub (pc' := 96) rfl rfl ?_
        rcases am_if h with ⟨hc11, h⟩ | ⟨hc11, h⟩
        · cases h
        refine ev_idiv (pc' := 97) rfl rfl hc11 ?_
        refine ev_iadd (pc' := 98) rfl rfl ?_
        obtain rfl := Option.some.inj h
        exact ev_ireturn rfl rfl
def fm_lineAt (N : Nat) (a1 : Int32) (σ : am_S) : Option Int32 := (if (σ 85 10) = 0 then some (50 : Int32) else am_g (am_in (0 : Int32) 8) <| (if (σ 94 (0 : Int32).toNatClampNeg) < a1 then fm_lineAt_b29 N N a1 (1 : Int32) σ else am_g (am_in (0 : Int32) 8) <| some (σ 93 (0 : Int32).toNatClampNeg)))
set_option maxRecDepth 100000 in
theorem fm_lineAt_e {X : Nat} {xs : Nat → Int32} {d : Nat} {N : Nat} {a1 : Int32} {σ : am_S} {o : Int32} (h : fm_lineAt N a1 σ = some o) : am_Ev am_sh (am_exx X xs) (d + 0) mm_142 0 [.ref 85, .int a1, .null] [] σ (some (.int o)) σ := by
  unfold fm_lineAt at h
  refine ev_aload_n (pc' := 1) rfl rfl rfl ?_
  refine ev_getfield (pc' := 4) (w := .int (σ 85 10)) rfl rfl rfl rfl ?_
  rcases am_if h with ⟨hc1, h⟩ | ⟨hc1, h⟩
  · refine ev_if_f (pc' := 7) rfl (by decide) rfl (cb_ne_f hc1) ?_
    refine ev_bipush (pc' := 9) (b := (50 : Int32)) rfl rfl rfl ?_
    obtain rfl := Option.some.inj h
    exact ev_ireturn rfl rfl
  · refine ev_if_t (pc' := 10) rfl rfl (cb_ne_t hc1) ?_
    refine ev_iload_n (pc' := 11) rfl rfl rfl ?_
    refine ev_aload_n (pc' := 12) rfl rfl rfl ?_
    refine ev_getfield (pc' := 15) (w := .ref 94) rfl rfl rfl rfl ?_
    refine ev_iconst (pc' := 16) (b := (0 : Int32)) rfl rfl rfl ?_
    obtain ⟨hg2, h⟩ := am_g_some h
    refine ev_iaload (pc' := 17) rfl rfl rfl hg2 ?_
    rcases am_if h with ⟨hc3, h⟩ | ⟨hc3, h⟩
    · refine ev_ic_t (pc' := 27) rfl rfl (cb_gt_t hc3) ?_
      refine ev_iconst (pc' := 28) (b := (1 : Int32)) rfl rfl rfl ?_
      refine ev_istore_n (pc' := 29) (L' := [.ref 85, .int a1, .int (1 : Int32)]) rfl rfl rfl rfl ?_
      exact fm_lineAt_b29_e h
    · refine ev_ic_f (pc' := 20) rfl (by decide) rfl (cb_gt_f hc3) ?_
      refine ev_aload_n (pc' := 21) rfl rfl rfl ?_
      refine ev_getfield (pc' := 24) (w := .ref 93) rfl rfl rfl rfl ?_
      refine ev_iconst (pc' := 25) (b := (0 : Int32)) rfl rfl rfl ?_
      obtain ⟨hg4, h⟩ := am_g_some h
      refine ev_iaload (pc' := 26) rfl rfl rfl hg4 ?_
      obtain rfl := Option.some.inj h
      exact ev_ireturn rfl rfl
/-! PartedLandModel.sideOf (85, 'I'): P -/
def fm_sideOf (N : Nat) (a1 : Int32) (σ : am_S) : Option Int32 := am_g (am_in a1 12) <| (fm_lineAt N (σ 87 a1.toNatClampNeg) σ).bind fun q2 => am_g (am_in a1 12) <| (if q2 ≤ (σ 86 a1.toNatClampNeg) then am_g (am_in a1 12) <| (if (σ 86 a1.toNatClampNeg) ≤ q2 then am_g (am_in a1 12) <| some (σ 88 a1.toNatClampNeg) else some (1 : Int32)) else some (0 : Int32))
set_option maxRecDepth 100000 in
theorem fm_sideOf_e {X : Nat} {xs : Nat → Int32} {d : Nat} {N : Nat} {a1 : Int32} {σ : am_S} {o : Int32} (h : fm_sideOf N a1 σ = some o) : am_Ev am_sh (am_exx X xs) (d + 1) mm_143 0 [.ref 85, .int a1, .null] [] σ (some (.int o)) σ := by
  unfold fm_sideOf at h
  refine ev_aload_n (pc' := 1) rfl rfl rfl ?_
  refine ev_aload_n (pc' := 2) rfl rfl rfl ?_
  refine ev_getfield (pc' := 5) (w := .ref 87) rfl rfl rfl rfl ?_
  refine ev_iload_n (pc' := 6) rfl rfl rfl ?_
  obtain ⟨hg1, h⟩ := am_g_some h
  refine ev_iaload (pc' := 7) rfl rfl rfl hg1 ?_
  refine am_bd h (fun q2 hq2 h => ?_)
  refine ev_call (mi := 142) (as := [.ref 85, .int (σ 87 a1.toNatClampNeg)]) (rest := []) rfl rfl (Nat.le_of_ble_eq_true rfl) (fm_lineAt_e (d := d) hq2) ?_
  show am_Ev _ _ _ _ 10 _ _ _ _ _
  refine ev_istore_n (pc' := 11) (L' := [.ref 85, .int a1, .int q2]) rfl rfl rfl rfl ?_
  refine ev_aload_n (pc' := 12) rfl rfl rfl ?_
  refine ev_getfield (pc' := 15) (w := .ref 86) rfl rfl rfl rfl ?_
  refine ev_iload_n (pc' := 16) rfl rfl rfl ?_
  obtain ⟨hg3, h⟩ := am_g_some h
  refine ev_iaload (pc' := 17) rfl rfl rfl hg3 ?_
  refine ev_iload_n (pc' := 18) rfl rfl rfl ?_
  rcases am_if h with ⟨hc4, h⟩ | ⟨hc4, h⟩
  · refine ev_ic_t (pc' := 25) rfl rfl (cb_ge_t hc4) ?_
    refine ev_aload_n (pc' := 26) rfl rfl rfl ?_
    refine ev_getfield (pc' := 29) (w := .ref 86) rfl rfl rfl rfl ?_
    refine ev_iload_n (pc' := 30) rfl rfl rfl ?_
    obtain ⟨hg5, h⟩ := am_g_some h
    refine ev_iaload (pc' := 31) rfl rfl rfl hg5 ?_
    refine ev_iload_n (pc' := 32) rfl rfl rfl ?_
    rcases am_if h with ⟨hc6, h⟩ | ⟨hc6, h⟩
    · refine ev_ic_t (pc' := 39) rfl rfl (cb_le_t hc6) ?_
      refine ev_aload_n (pc' := 40) rfl rfl rfl ?_
      refine ev_getfield (pc' := 43) (w := .ref 88) rfl rfl rfl rfl ?_
      refine ev_iload_n (pc' := 44) rfl rfl rfl ?_
      obtain ⟨hg7, h⟩ := am_g_some h
      refine ev_iaload (pc' := 45) rfl rfl rfl hg7 ?_
      obtain rfl := Option.some.inj h
      exact ev_ireturn rfl rfl
    · refine ev_ic_f (pc' := 35) rfl (by decide) rfl (cb_le_f hc6) ?_
      refine ev_iconst (pc' := 36) (b := (1 : Int32)) rfl rfl rfl ?_
      refine ev_goto (pc' := 45) rfl rfl ?_
      obtain rfl := Option.some.inj h
      exact ev_ireturn rfl rfl
  · refine ev_ic_f (pc' := 21) rfl (by decide) rfl (cb_ge_f hc4) ?_
    refine ev_iconst (pc' := 22) (b := (0 : Int32)) rfl rfl rfl ?_
    refine ev_goto (pc' := 45) rfl rfl ?_
    obtain rfl := Option.some.inj h
    exact ev_ireturn rfl rfl
/-! PartedLandModel.side (85, 'I'): S -/
def fm_side (N : Nat) (a1 : Int32) (σ : am_S) : Option (Int32 × am_S) := (if (fm_isParish a1 σ) = 0 then (fm_finding (1 : Int32) σ).bind fun q2 => some (q2.1, q2.2) else (fm_sideOf N a1 σ).bind fun q3 => some (q3, σ))
set_option maxRecDepth 100000 in
theorem fm_side_e {X : Nat} {xs : Nat → Int32} {d : Nat} {N : Nat} {a1 : Int32} {σ : am_S} {o : Int32 × am_S} (h : fm_side N a1 σ = some o) : am_Ev am_sh (am_exx X xs) (d + 2) mm_144 0 [.ref 85, .int a1] [] σ (some (.int o.1)) o.2 := by
  unfold fm_side at h
  refine ev_aload_n (pc' := 1) rfl rfl rfl ?_
  refine ev_iload_n (pc' := 2) rfl rfl rfl ?_
  refine ev_call (mi := 181) (as := [.ref 85, .int a1]) (rest := []) rfl rfl (Nat.le_of_ble_eq_true rfl) (fm_isParish_e (d := d + 1) rfl) ?_
  show am_Ev _ _ _ _ 5 _ _ _ _ _
  rcases am_if h with ⟨hc1, h⟩ | ⟨hc1, h⟩
  · refine ev_if_t (pc' := 16) rfl rfl (cb_eq_t hc1) ?_
    refine ev_aload_n (pc' := 17) rfl rfl rfl ?_
    refine ev_iconst (pc' := 18) (b := (1 : Int32)) rfl rfl rfl ?_
    refine am_bd h (fun q2 hq2 h => ?_)
    refine ev_call (mi := 159) (as := [.ref 85, .int (1 : Int32)]) (rest := []) rfl rfl (Nat.le_of_ble_eq_true rfl) (fm_finding_e (d := d + 1) hq2) ?_
    show am_Ev _ _ _ _ 21 _ _ _ _ _
    obtain rfl := Option.some.inj h
    exact ev_ireturn rfl rfl
  · refine ev_if_f (pc' := 8) rfl (by decide) rfl (cb_eq_f hc1) ?_
    refine ev_aload_n (pc' := 9) rfl rfl rfl ?_
    refine ev_iload_n (pc' := 10) rfl rfl rfl ?_
    refine am_bd h (fun q3 hq3 h => ?_)
    refine ev_call (mi := 143) (as := [.ref 85, .int a1]) (rest := []) rfl rfl (Nat.le_of_ble_eq_true rfl) (fm_sideOf_e (d := d) hq3) ?_
    show am_Ev _ _ _ _ 13 _ _ _ _ _
    refine ev_goto (pc' := 21) rfl rfl ?_
    obtain rfl := Option.some.inj h
    exact ev_ireturn rfl rfl
/-! PartedLandModel.isEnclave (85, 'I'): P -/
def fm_isEnclave_b153 (N : Nat) (k32 : Int32 → Int32 → Int32 → Int32 → am_S → Option Int32) (k46 : Int32 → Int32 → Int32 → Int32 → Int32 → am_S → Option Int32) (x2 : Int32) (x3 : Int32) (x4 : Int32) (x5 : Int32) (x6 : Int32) (σ : am_S) : Option Int32 := k46 x2 x3 x4 x5 (x6 + (1 : Int32)) σ
set_option maxRecDepth 100000 in
theorem fm_isEnclave_b153_e {X : Nat} {xs : Nat → Int32} {d : Nat} {N : Nat} {k32 : Int32 → Int32 → Int32 → Int32 → am_S → Option Int32} (hk32 : ∀ {x2 : Int32} {x3 : Int32} {x4 : Int32} {x5 : Int32} {w1 : Value} {w6 : Value} {w7 : Value} {σ : am_S} {o : Int32}, k32 x2 x3 x4 x5 σ = some o → am_Ev am_sh (am_exx X xs) (d + 2) mm_145 32 [.ref 85, w1, .int x2, .int x3, .int x4, .int x5, w6, w7] [] σ (some (.int o)) σ) {k46 : Int32 → Int32 → Int32 → Int32 → Int32 → am_S → Option Int32} (hk46 : ∀ {x2 : Int32} {x3 : Int32} {x4 : Int32} {x5 : Int32} {x6 : Int32} {w1 : Value} {w7 : Value} {σ : am_S} {o : Int32}, k46 x2 x3 x4 x5 x6 σ = some o → am_Ev am_sh (am_exx X xs) (d + 2) mm_145 46 [.ref 85, w1, .int x2, .int x3, .int x4, .int x5, .int x6, w7] [] σ (some (.int o)) σ) {x2 : Int32} {x3 : Int32} {x4 : Int32} {x5 : Int32} {x6 : Int32} {w1 : Value} {w7 : Value} {σ : am_S} {o : Int32} (h : fm_isEnclave_b153 N k32 k46 x2 x3 x4 x5 x6 σ = some o) : am_Ev am_sh (am_exx X xs) (d + 2) mm_145 153 [.ref 85, w1, .int x2, .int x3, .int x4, .int x5, .int x6, w7] [] σ (some (.int o)) σ := by
  unfold fm_isEnclave_b153 at h
  refine ev_iinc (pc' := 156) (L' := [.ref 85, w1, .int x2, .int x3, .int x4, .int x5, .int (x6 + (1 : Int32)), w7]) (b := (1 : Int32)) rfl rfl rfl rfl rfl ?_
  refine ev_goto (pc' := 46) rfl rfl ?_
  exact hk46 h
def fm_isEnclave_b92 (N : Nat) (k32 : Int32 → Int32 → Int32 → Int32 → am_S → Option Int32) (k46 : Int32 → Int32 → Int32 → Int32 → Int32 → am_S → Option Int32) (x2 : Int32) (x3 : Int32) (x4 : Int32) (x5 : Int32) (x6 : Int32) (s0 : Int32) (σ : am_S) : Option Int32 := (if s0 = 0 then fm_isEnclave_b153 N k32 k46 x2 x3 x4 x5 x6 σ else am_g (am_in x6 30) <| (fm_sideOf N (σ 89 x6.toNatClampNeg) σ).bind fun q3 => (if q3 = x2 then am_g (am_in x6 30) <| (fm_sideOf N (σ 90 x6.toNatClampNeg) σ).bind fun q6 => (if q6 = x2 then am_g (am_in x6 30) <| am_g (am_in x6 30) <| fm_isEnclave_b153 N k32 k46 x2 x3 (x4 ||| (((1 : Int32) <<< ((σ 89 x6.toNatClampNeg) &&& 31)) ||| ((1 : Int32) <<< ((σ 90 x6.toNatClampNeg) &&& 31)))) x5 x6 σ else fm_isEnclave_b153 N k32 k46 x2 x3 x4 x5 x6 σ) else fm_isEnclave_b153 N k32 k46 x2 x3 x4 x5 x6 σ))
set_option maxRecDepth 100000 in
theorem fm_isEnclave_b92_e {X : Nat} {xs : Nat → Int32} {d : Nat} {N : Nat} {k32 : Int32 → Int32 → Int32 → Int32 → am_S → Option Int32} (hk32 : ∀ {x2 : Int32} {x3 : Int32} {x4 : Int32} {x5 : Int32} {w1 : Value} {w6 : Value} {w7 : Value} {σ : am_S} {o : Int32}, k32 x2 x3 x4 x5 σ = some o → am_Ev am_sh (am_exx X xs) (d + 2) mm_145 32 [.ref 85, w1, .int x2, .int x3, .int x4, .int x5, w6, w7] [] σ (some (.int o)) σ) {k46 : Int32 → Int32 → Int32 → Int32 → Int32 → am_S → Option Int32} (hk46 : ∀ {x2 : Int32} {x3 : Int32} {x4 : Int32} {x5 : Int32} {x6 : Int32} {w1 : Value} {w7 : Value} {σ : am_S} {o : Int32}, k46 x2 x3 x4 x5 x6 σ = some o → am_Ev am_sh (am_exx X xs) (d + 2) mm_145 46 [.ref 85, w1, .int x2, .int x3, .int x4, .int x5, .int x6, w7] [] σ (some (.int o)) σ) {x2 : Int32} {x3 : Int32} {x4 : Int32} {x5 : Int32} {x6 : Int32} {s0 : Int32} {w1 : Value} {w7 : Value} {σ : am_S} {o : Int32} (h : fm_isEnclave_b92 N k32 k46 x2 x3 x4 x5 x6 s0 σ = some o) : am_Ev am_sh (am_exx X xs) (d + 2) mm_145 92 [.ref 85, w1, .int x2, .int x3, .int x4, .int x5, .int x6, w7] [.int s0] σ (some (.int o)) σ := by
  unfold fm_isEnclave_b92 at h
  refine ev_istore (pc' := 94) (L' := [.ref 85, w1, .int x2, .int x3, .int x4, .int x5, .int x6, .int s0]) rfl rfl rfl rfl ?_
  refine ev_iload (pc' := 96) rfl rfl rfl ?_
  rcases am_if h with ⟨hc1, h⟩ | ⟨hc1, h⟩
  · refine ev_if_t (pc' := 153) rfl rfl (cb_eq_t hc1) ?_
    exact fm_isEnclave_b153_e (hk32 := hk32) (hk46 := hk46) h
  · refine ev_if_f (pc' := 99) rfl (by decide) rfl (cb_eq_f hc1) ?_
    refine ev_aload_n (pc' := 100) rfl rfl rfl ?_
    refine ev_aload_n (pc' := 101) rfl rfl rfl ?_
    refine ev_getfield (pc' := 104) (w := .ref 89) rfl rfl rfl rfl ?_
    refine ev_iload (pc' := 106) rfl rfl rfl ?_
    obtain ⟨hg2, h⟩ := am_g_some h
    refine ev_iaload (pc' := 107) rfl rfl rfl hg2 ?_
    refine am_bd h (fun q3 hq3 h => ?_)
    refine ev_call (mi := 143) (as := [.ref 85, .int (σ 89 x6.toNatClampNeg)]) (rest := []) rfl rfl (Nat.le_of_ble_eq_true rfl) (fm_sideOf_e (d := d) hq3) ?_
    show am_Ev _ _ _ _ 110 _ _ _ _ _
    refine ev_iload_n (pc' := 111) rfl rfl rfl ?_
    rcases am_if h with ⟨hc4, h⟩ | ⟨hc4, h⟩
    · refine ev_ic_f (pc' := 114) rfl (by decide) rfl (cb_ne_f hc4) ?_
      refine ev_aload_n (pc' := 115) rfl rfl rfl ?_
      refine ev_aload_n (pc' := 116) rfl rfl rfl ?_
      refine ev_getfield (pc' := 119) (w := .ref 90) rfl rfl rfl rfl ?_
      refine ev_iload (pc' := 121) rfl rfl rfl ?_
      obtain ⟨hg5, h⟩ := am_g_some h
      refine ev_iaload (pc' := 122) rfl rfl rfl hg5 ?_
      refine am_bd h (fun q6 hq6 h => ?_)
      refine ev_call (mi := 143) (as := [.ref 85, .int (σ 90 x6.toNatClampNeg)]) (rest := []) rfl rfl (Nat.le_of_ble_eq_true rfl) (fm_sideOf_e (d := d) hq6) ?_
      show am_Ev _ _ _ _ 125 _ _ _ _ _
      refine ev_iload_n (pc' := 126) rfl rfl rfl ?_
      rcases am_if h with ⟨hc7, h⟩ | ⟨hc7, h⟩
      · refine ev_ic_f (pc' := 129) rfl (by decide) rfl (cb_ne_f hc7) ?_
        refine ev_iload (pc' := 131) rfl rfl rfl ?_
        refine ev_iconst (pc' := 132) (b := (1 : Int32)) rfl rfl rfl ?_
        refine ev_aload_n (pc' := 133) rfl rfl rfl ?_
        refine ev_getfield (pc' := 136) (w := .ref 89) rfl rfl rfl rfl ?_
        refine ev_iload (pc' := 138) rfl rfl rfl ?_
        obtain ⟨hg8, h⟩ := am_g_some h
        refine ev_iaload (pc' := 139) rfl rfl rfl hg8 ?_
        refine ev_ishl (pc' := 140) rfl rfl ?_
        refine ev_iconst (pc' := 141) (b := (1 : Int32)) rfl rfl rfl ?_
        refine ev_aload_n (pc' := 142) rfl rfl rfl ?_
        refine ev_getfield (pc' := 145) (w := .ref 90) rfl rfl rfl rfl ?_
        refine ev_iload (pc' := 147) rfl rfl rfl ?_
        obtain ⟨hg9, h⟩ := am_g_some h
        refine ev_iaload (pc' := 148) rfl rfl rfl hg9 ?_
        refine ev_ishl (pc' := 149) rfl rfl ?_
        refine ev_ior (pc' := 150) rfl rfl ?_
        refine ev_ior (pc' := 151) rfl rfl ?_
        refine ev_istore (pc' := 153) (L' := [.ref 85, w1, .int x2, .int x3, .int (x4 ||| (((1 : Int32) <<< ((σ 89 x6.toNatClampNeg) &&& 31)) ||| ((1 : Int32) <<< ((σ 90 x6.toNatClampNeg) &&& 31)))), .int x5, .int x6, .int s0]) rfl rfl rfl rfl ?_
        exact fm_isEnclave_b153_e (hk32 := hk32) (hk46 := hk46) h
      · refine ev_ic_t (pc' := 153) rfl rfl (cb_ne_t hc7) ?_
        exact fm_isEnclave_b153_e (hk32 := hk32) (hk46 := hk46) h
    · refine ev_ic_t (pc' := 153) rfl rfl (cb_ne_t hc4) ?_
      exact fm_isEnclave_b153_e (hk32 := hk32) (hk46 := hk46) h
def fm_isEnclave_b87 (N : Nat) (k32 : Int32 → Int32 → Int32 → Int32 → am_S → Option Int32) (k46 : Int32 → Int32 → Int32 → Int32 → Int32 → am_S → Option Int32) (x2 : Int32) (x3 : Int32) (x4 : Int32) (x5 : Int32) (x6 : Int32) (σ : am_S) : Option Int32 := fm_isEnclave_b92 N k32 k46 x2 x3 x4 x5 x6 (1 : Int32) σ
set_option maxRecDepth 100000 in
theorem fm_isEnclave_b87_e {X : Nat} {xs : Nat → Int32} {d : Nat} {N : Nat} {k32 : Int32 → Int32 → Int32 → Int32 → am_S → Option Int32} (hk32 : ∀ {x2 : Int32} {x3 : Int32} {x4 : Int32} {x5 : Int32} {w1 : Value} {w6 : Value} {w7 : Value} {σ : am_S} {o : Int32}, k32 x2 x3 x4 x5 σ = some o → am_Ev am_sh (am_exx X xs) (d + 2) mm_145 32 [.ref 85, w1, .int x2, .int x3, .int x4, .int x5, w6, w7] [] σ (some (.int o)) σ) {k46 : Int32 → Int32 → Int32 → Int32 → Int32 → am_S → Option Int32} (hk46 : ∀ {x2 : Int32} {x3 : Int32} {x4 : Int32} {x5 : Int32} {x6 : Int32} {w1 : Value} {w7 : Value} {σ : am_S} {o : Int32}, k46 x2 x3 x4 x5 x6 σ = some o → am_Ev am_sh (am_exx X xs) (d + 2) mm_145 46 [.ref 85, w1, .int x2, .int x3, .int x4, .int x5, .int x6, w7] [] σ (some (.int o)) σ) {x2 : Int32} {x3 : Int32} {x4 : Int32} {x5 : Int32} {x6 : Int32} {w1 : Value} {w7 : Value} {σ : am_S} {o : Int32} (h : fm_isEnclave_b87 N k32 k46 x2 x3 x4 x5 x6 σ = some o) : am_Ev am_sh (am_exx X xs) (d + 2) mm_145 87 [.ref 85, w1, .int x2, .int x3, .int x4, .int x5, .int x6, w7] [] σ (some (.int o)) σ := by
  unfold fm_isEnclave_b87 at h
  refine ev_iconst (pc' := 88) (b := (1 : Int32)) rfl rfl rfl ?_
  refine ev_goto (pc' := 92) rfl rfl ?_
  exact fm_isEnclave_b92_e (hk32 := hk32) (hk46 := hk46) h
def fm_isEnclave_b46 (N : Nat) (k32 : Int32 → Int32 → Int32 → Int32 → am_S → Option Int32) : Nat → Int32 → Int32 → Int32 → Int32 → Int32 → am_S → Option Int32
  | 0, _, _, _, _, _, _ => none
  | n + 1, x2, x3, x4, x5, x6, σ => (if (σ 85 5) ≤ x6 then k32 x2 x3 x4 x5 σ else am_g (am_in x6 30) <| (if ((x4 >>> ((σ 89 x6.toNatClampNeg) &&& 31)) &&& (1 : Int32)) = (1 : Int32) then fm_isEnclave_b87 N k32 (fun x2 x3 x4 x5 x6 σ => fm_isEnclave_b46 N k32 n x2 x3 x4 x5 x6 σ) x2 x3 x4 x5 x6 σ else am_g (am_in x6 30) <| (if ((x4 >>> ((σ 90 x6.toNatClampNeg) &&& 31)) &&& (1 : Int32)) = (1 : Int32) then fm_isEnclave_b87 N k32 (fun x2 x3 x4 x5 x6 σ => fm_isEnclave_b46 N k32 n x2 x3 x4 x5 x6 σ) x2 x3 x4 x5 x6 σ else fm_isEnclave_b92 N k32 (fun x2 x3 x4 x5 x6 σ => fm_isEnclave_b46 N k32 n x2 x3 x4 x5 x6 σ) x2 x3 x4 x5 x6 (0 : Int32) σ)))
set_option maxRecDepth 100000 in
theorem fm_isEnclave_b46_e {X : Nat} {xs : Nat → Int32} {d : Nat} {N : Nat} {k32 : Int32 → Int32 → Int32 → Int32 → am_S → Option Int32} (hk32 : ∀ {x2 : Int32} {x3 : Int32} {x4 : Int32} {x5 : Int32} {w1 : Value} {w6 : Value} {w7 : Value} {σ : am_S} {o : Int32}, k32 x2 x3 x4 x5 σ = some o → am_Ev am_sh (am_exx X xs) (d + 2) mm_145 32 [.ref 85, w1, .int x2, .int x3, .int x4, .int x5, w6, w7] [] σ (some (.int o)) σ) : ∀ {n : Nat} {x2 : Int32} {x3 : Int32} {x4 : Int32} {x5 : Int32} {x6 : Int32} {w1 : Value} {w7 : Value} {σ : am_S} {o : Int32}, fm_isEnclave_b46 N k32 n x2 x3 x4 x5 x6 σ = some o → am_Ev am_sh (am_exx X xs) (d + 2) mm_145 46 [.ref 85, w1, .int x2, .int x3, .int x4, .int x5, .int x6, w7] [] σ (some (.int o)) σ := by
  intro n
  induction n with
  | zero => intro x2 x3 x4 x5 x6 w1 w7 σ o h; cases h
  | succ n ih =>
    intro x2 x3 x4 x5 x6 w1 w7 σ o h
    unfold fm_isEnclave_b46 at h
    refine ev_iload (pc' := 48) rfl rfl rfl ?_
    refine ev_aload_n (pc' := 49) rfl rfl rfl ?_
    refine ev_getfield (pc' := 52) (w := .int (σ 85 5)) rfl rfl rfl rfl ?_
    rcases am_if h with ⟨hc1, h⟩ | ⟨hc1, h⟩
    · refine ev_ic_t (pc' := 159) rfl rfl (cb_ge_t hc1) ?_
      refine ev_goto (pc' := 32) rfl rfl ?_
      exact hk32 h
    · refine ev_ic_f (pc' := 55) rfl (by decide) rfl (cb_ge_f hc1) ?_
      refine ev_iload (pc' := 57) rfl rfl rfl ?_
      refine ev_aload_n (pc' := 58) rfl rfl rfl ?_
      refine ev_getfield (pc' := 61) (w := .ref 89) rfl rfl rfl rfl ?_
      refine ev_iload (pc' := 63) rfl rfl rfl ?_
      obtain ⟨hg2, h⟩ := am_g_some h
      refine ev_iaload (pc' := 64) rfl rfl rfl hg2 ?_
      refine ev_ishr (pc' := 65) rfl rfl ?_
      refine ev_iconst (pc' := 66) (b := (1 : Int32)) rfl rfl rfl ?_
      refine ev_iand (pc' := 67) rfl rfl ?_
      refine ev_iconst (pc' := 68) (b := (1 : Int32)) rfl rfl rfl ?_
      rcases am_if h with ⟨hc3, h⟩ | ⟨hc3, h⟩
      · refine ev_ic_t (pc' := 87) rfl rfl (cb_eq_t hc3) ?_
        exact fm_isEnclave_b87_e (hk32 := hk32) (hk46 := fun h => ih h) h
      · refine ev_ic_f (pc' := 71) rfl (by decide) rfl (cb_eq_f hc3) ?_
        refine ev_iload (pc' := 73) rfl rfl rfl ?_
        refine ev_aload_n (pc' := 74) rfl rfl rfl ?_
        refine ev_getfield (pc' := 77) (w := .ref 90) rfl rfl rfl rfl ?_
        refine ev_iload (pc' := 79) rfl rfl rfl ?_
        obtain ⟨hg4, h⟩ := am_g_some h
        refine ev_iaload (pc' := 80) rfl rfl rfl hg4 ?_
        refine ev_ishr (pc' := 81) rfl rfl ?_
        refine ev_iconst (pc' := 82) (b := (1 : Int32)) rfl rfl rfl ?_
        refine ev_iand (pc' := 83) rfl rfl ?_
        refine ev_iconst (pc' := 84) (b := (1 : Int32)) rfl rfl rfl ?_
        rcases am_if h with ⟨hc5, h⟩ | ⟨hc5, h⟩
        · refine ev_ic_f (pc' := 87) rfl (by decide) rfl (cb_ne_f hc5) ?_
          exact fm_isEnclave_b87_e (hk32 := hk32) (hk46 := fun h => ih h) h
        · refine ev_ic_t (pc' := 91) rfl rfl (cb_ne_t hc5) ?_
          refine ev_iconst (pc' := 92) (b := (0 : Int32)) rfl rfl rfl ?_
          exact fm_isEnclave_b92_e (hk32 := hk32) (hk46 := fun h => ih h) h
def fm_isEnclave_b32 (N : Nat) : Nat → Int32 → Int32 → Int32 → Int32 → am_S → Option Int32
  | 0, _, _, _, _, _ => none
  | n + 1, x2, x3, x4, x5, σ => (if x5 = x4 then (if ((x4 >>> (x3 &&& 31)) &&& (1 : Int32)) = 0 then some (1 : Int32) else some (0 : Int32)) else fm_isEnclave_b46 N (fun x2 x3 x4 x5 σ => fm_isEnclave_b32 N n x2 x3 x4 x5 σ) N x2 x3 x4 x4 (0 : Int32) σ)
set_option maxRecDepth 100000 in
theorem fm_isEnclave_b32_e {X : Nat} {xs : Nat → Int32} {d : Nat} {N : Nat} : ∀ {n : Nat} {x2 : Int32} {x3 : Int32} {x4 : Int32} {x5 : Int32} {w1 : Value} {w6 : Value} {w7 : Value} {σ : am_S} {o : Int32}, fm_isEnclave_b32 N n x2 x3 x4 x5 σ = some o → am_Ev am_sh (am_exx X xs) (d + 2) mm_145 32 [.ref 85, w1, .int x2, .int x3, .int x4, .int x5, w6, w7] [] σ (some (.int o)) σ := by
  intro n
  induction n with
  | zero => intro x2 x3 x4 x5 w1 w6 w7 σ o h; cases h
  | succ n ih =>
    intro x2 x3 x4 x5 w1 w6 w7 σ o h
    unfold fm_isEnclave_b32 at h
    refine ev_iload (pc' := 34) rfl rfl rfl ?_
    refine ev_iload (pc' := 36) rfl rfl rfl ?_
    rcases am_if h with ⟨hc1, h⟩ | ⟨hc1, h⟩
    · refine ev_ic_t (pc' := 162) rfl rfl (cb_eq_t hc1) ?_
      refine ev_iload (pc' := 164) rfl rfl rfl ?_
      refine ev_iload_n (pc' := 165) rfl rfl rfl ?_
      refine ev_ishr (pc' := 166) rfl rfl ?_
      refine ev_iconst (pc' := 167) (b := (1 : Int32)) rfl rfl rfl ?_
      refine ev_iand (pc' := 168) rfl rfl ?_
      rcases am_if h with ⟨hc2, h⟩ | ⟨hc2, h⟩
      · refine ev_if_f (pc' := 171) rfl (by decide) rfl (cb_ne_f hc2) ?_
        refine ev_iconst (pc' := 172) (b := (1 : Int32)) rfl rfl rfl ?_
        refine ev_goto (pc' := 176) rfl rfl ?_
        obtain rfl := Option.some.inj h
        exact ev_zreturn rfl rfl rfl
      · refine ev_if_t (pc' := 175) rfl rfl (cb_ne_t hc2) ?_
        refine ev_iconst (pc' := 176) (b := (0 : Int32)) rfl rfl rfl ?_
        obtain rfl := Option.some.inj h
        exact ev_zreturn rfl rfl rfl
    · refine ev_ic_f (pc' := 39) rfl (by decide) rfl (cb_eq_f hc1) ?_
      refine ev_iload (pc' := 41) rfl rfl rfl ?_
      refine ev_istore (pc' := 43) (L' := [.ref 85, w1, .int x2, .int x3, .int x4, .int x4, w6, w7]) rfl rfl rfl rfl ?_
      refine ev_iconst (pc' := 44) (b := (0 : Int32)) rfl rfl rfl ?_
      refine ev_istore (pc' := 46) (L' := [.ref 85, w1, .int x2, .int x3, .int x4, .int x4, .int (0 : Int32), w7]) rfl rfl rfl rfl ?_
      exact fm_isEnclave_b46_e (hk32 := fun h => ih h) h
def fm_isEnclave (N : Nat) (a1 : Int32) (σ : am_S) : Option Int32 := (fm_sideOf N a1 σ).bind fun q1 => am_g (am_in q1 2) <| (fm_sideOf N (σ 95 q1.toNatClampNeg) σ).bind fun q3 => (if q3 = q1 then fm_isEnclave_b32 N N q1 (σ 95 q1.toNatClampNeg) ((1 : Int32) <<< (a1 &&& 31)) (0 : Int32) σ else some (1 : Int32))
set_option maxRecDepth 100000 in
theorem fm_isEnclave_e {X : Nat} {xs : Nat → Int32} {d : Nat} {N : Nat} {a1 : Int32} {σ : am_S} {o : Int32} (h : fm_isEnclave N a1 σ = some o) : am_Ev am_sh (am_exx X xs) (d + 2) mm_145 0 [.ref 85, .int a1, .null, .null, .null, .null, .null, .null] [] σ (some (.int o)) σ := by
  unfold fm_isEnclave at h
  refine ev_aload_n (pc' := 1) rfl rfl rfl ?_
  refine ev_iload_n (pc' := 2) rfl rfl rfl ?_
  refine am_bd h (fun q1 hq1 h => ?_)
  refine ev_call (mi := 143) (as := [.ref 85, .int a1]) (rest := []) rfl rfl (Nat.le_of_ble_eq_true rfl) (fm_sideOf_e (d := d) hq1) ?_
  show am_Ev _ _ _ _ 5 _ _ _ _ _
  refine ev_istore_n (pc' := 6) (L' := [.ref 85, .int a1, .int q1, .null, .null, .null, .null, .null]) rfl rfl rfl rfl ?_
  refine ev_aload_n (pc' := 7) rfl rfl rfl ?_
  refine ev_getfield (pc' := 10) (w := .ref 95) rfl rfl rfl rfl ?_
  refine ev_iload_n (pc' := 11) rfl rfl rfl ?_
  obtain ⟨hg2, h⟩ := am_g_some h
  refine ev_iaload (pc' := 12) rfl rfl rfl hg2 ?_
  refine ev_istore_n (pc' := 13) (L' := [.ref 85, .int a1, .int q1, .int (σ 95 q1.toNatClampNeg), .null, .null, .null, .null]) rfl rfl rfl rfl ?_
  refine ev_aload_n (pc' := 14) rfl rfl rfl ?_
  refine ev_iload_n (pc' := 15) rfl rfl rfl ?_
  refine am_bd h (fun q3 hq3 h => ?_)
  refine ev_call (mi := 143) (as := [.ref 85, .int (σ 95 q1.toNatClampNeg)]) (rest := []) rfl rfl (Nat.le_of_ble_eq_true rfl) (fm_sideOf_e (d := d) hq3) ?_
  show am_Ev _ _ _ _ 18 _ _ _ _ _
  refine ev_iload_n (pc' := 19) rfl rfl rfl ?_
  rcases am_if h with ⟨hc4, h⟩ | ⟨hc4, h⟩
  · refine ev_ic_t (pc' := 24) rfl rfl (cb_eq_t hc4) ?_
    refine ev_iconst (pc' := 25) (b := (1 : Int32)) rfl rfl rfl ?_
    refine ev_iload_n (pc' := 26) rfl rfl rfl ?_
    refine ev_ishl (pc' := 27) rfl rfl ?_
    refine ev_istore (pc' := 29) (L' := [.ref 85, .int a1, .int q1, .int (σ 95 q1.toNatClampNeg), .int ((1 : Int32) <<< (a1 &&& 31)), .null, .null, .null]) rfl rfl rfl rfl ?_
    refine ev_iconst (pc' := 30) (b := (0 : Int32)) rfl rfl rfl ?_
    refine ev_istore (pc' := 32) (L' := [.ref 85, .int a1, .int q1, .int (σ 95 q1.toNatClampNeg), .int ((1 : Int32) <<< (a1 &&& 31)), .int (0 : Int32), .null, .null]) rfl rfl rfl rfl ?_
    exact fm_isEnclave_b32_e h
  · refine ev_ic_f (pc' := 22) rfl (by decide) rfl (cb_eq_f hc4) ?_
    refine ev_iconst (pc' := 23) (b := (1 : Int32)) rfl rfl rfl ?_
    obtain rfl := Option.some.inj h
    exact ev_zreturn rfl rfl rfl
