theorem am_if {α : Type} {c : Prop} {dc : Decidable c} {a b r : α} (h : (if c then a else b) = r) : (c ∧ a = r) ∨ (¬ c ∧ b = r) := by
  by_cases hc : c
  · rw [if_pos hc] at h; exact Or.inl ⟨hc, h⟩
  · rw [if_neg hc] at h; exact Or.inr ⟨hc, h⟩
theorem cb_eq_t {x y : Int32} (h : x = y) : am_cb .eq x y = true := decide_eq_true h
theorem cb_eq_f {x y : Int32} (h : ¬ x = y) : am_cb .eq x y = false := decide_eq_false h
theorem cb_lt_t {x y : Int32} (h : x < y) : am_cb .lt x y = true := decide_eq_true h
theorem cb_lt_f {x y : Int32} (h : ¬ x < y) : am_cb .lt x y = false := decide_eq_false h
theorem cb_ge_t {x y : Int32} (h : y ≤ x) : am_cb .ge x y = true := decide_eq_true h
theorem cb_ge_f {x y : Int32} (h : ¬ y ≤ x) : am_cb .ge x y = false := decide_eq_false h
theorem cb_gt_t {x y : Int32} (h : y < x) : am_cb .gt x y = true := decide_eq_true h
theorem cb_gt_f {x y : Int32} (h : ¬ y < x) : am_cb .gt x y = false := decide_eq_false h
theorem cb_le_t {x y : Int32} (h : x ≤ y) : am_cb .le x y = true := decide_eq_true h
theorem cb_le_f {x y : Int32} (h : ¬ x ≤ y) : am_cb .le x y = false := decide_eq_false h
theorem cb_ne_t {x y : Int32} (h : ¬ x = y) : am_cb .ne x y = true := decide_eq_true h
theorem cb_ne_f {x y : Int32} (h : x = y) : am_cb .ne x y = false := decide_eq_false (not_not_intro h)
/-! PartedLand$Land.hasParish (1, 'I'): T -/
def fx_Land_hasParish (a1 : Int32) (σ : am_S) : Int32 := (if a1 < 0 then (0 : Int32) else (if (σ 1 11) ≤ a1 then (0 : Int32) else (1 : Int32)))
set_option maxRecDepth 100000 in
theorem fx_Land_hasParish_e {X : Nat} {xs : Nat → Int32} {d : Nat} {a1 : Int32} {σ : am_S} {o : Int32} (h : fx_Land_hasParish a1 σ = o) : am_Ev am_sh (am_exx X xs) (d + 0) mm_27 0 [.ref 1, .int a1] [] σ (some (.int o)) σ := by
  unfold fx_Land_hasParish at h
  refine ev_iload_n (pc' := 1) rfl rfl rfl ?_
  rcases am_if h with ⟨hc1, h⟩ | ⟨hc1, h⟩
  · refine ev_if_t (pc' := 16) rfl rfl (cb_lt_t hc1) ?_
    refine ev_iconst (pc' := 17) (b := (0 : Int32)) rfl rfl rfl ?_
    subst h
    exact ev_zreturn rfl rfl rfl
  · refine ev_if_f (pc' := 4) rfl (by decide) rfl (cb_lt_f hc1) ?_
    refine ev_iload_n (pc' := 5) rfl rfl rfl ?_
    refine ev_aload_n (pc' := 6) rfl rfl rfl ?_
    refine ev_getfield (pc' := 9) (w := .int (σ 1 11)) rfl rfl rfl rfl ?_
    rcases am_if h with ⟨hc2, h⟩ | ⟨hc2, h⟩
    · refine ev_ic_t (pc' := 16) rfl rfl (cb_ge_t hc2) ?_
      refine ev_iconst (pc' := 17) (b := (0 : Int32)) rfl rfl rfl ?_
      subst h
      exact ev_zreturn rfl rfl rfl
    · refine ev_ic_f (pc' := 12) rfl (by decide) rfl (cb_ge_f hc2) ?_
      refine ev_iconst (pc' := 13) (b := (1 : Int32)) rfl rfl rfl ?_
      refine ev_goto (pc' := 17) rfl rfl ?_
      subst h
      exact ev_zreturn rfl rfl rfl
/-! PartedLand.finding (0, 'I'): S -/
def fx_finding (a1 : Int32) (σ : am_S) : Option (Int32 × am_S) := (if ((-1000000000 : Int32) - a1) < (1 : Int32) then some (a1, σ) else (if (5 : Int32) < ((-1000000000 : Int32) - a1) then some (a1, σ) else am_g (am_in ((-1000000000 : Int32) - a1) 6) <| am_g (am_in ((-1000000000 : Int32) - a1) 6) <| some (a1, (am_up σ 83 ((-1000000000 : Int32) - a1).toNatClampNeg ((σ 83 ((-1000000000 : Int32) - a1).toNatClampNeg) + (1 : Int32))))))
set_option maxRecDepth 100000 in
theorem fx_finding_e {X : Nat} {xs : Nat → Int32} {d : Nat} {a1 : Int32} {σ : am_S} {o : Int32 × am_S} (h : fx_finding a1 σ = some o) : am_Ev am_sh (am_exx X xs) (d + 0) mm_129 0 [.ref 0, .int a1, .null] [] σ (some (.int o.1)) o.2 := by
  unfold fx_finding at h
  refine ev_ldc_w (pc' := 3) (b := (-1000000000 : Int32)) rfl rfl rfl ?_
  refine ev_iload_n (pc' := 4) rfl rfl rfl ?_
  refine ev_isub (pc' := 5) rfl rfl ?_
  refine ev_istore_n (pc' := 6) (L' := [.ref 0, .int a1, .int ((-1000000000 : Int32) - a1)]) rfl rfl rfl rfl ?_
  refine ev_iload_n (pc' := 7) rfl rfl rfl ?_
  refine ev_iconst (pc' := 8) (b := (1 : Int32)) rfl rfl rfl ?_
  rcases am_if h with ⟨hc1, h⟩ | ⟨hc1, h⟩
  · refine ev_ic_t (pc' := 26) rfl rfl (cb_lt_t hc1) ?_
    refine ev_iload_n (pc' := 27) rfl rfl rfl ?_
    obtain rfl := Option.some.inj h
    exact ev_ireturn rfl rfl
  · refine ev_ic_f (pc' := 11) rfl (by decide) rfl (cb_lt_f hc1) ?_
    refine ev_iload_n (pc' := 12) rfl rfl rfl ?_
    refine ev_iconst (pc' := 13) (b := (5 : Int32)) rfl rfl rfl ?_
    rcases am_if h with ⟨hc2, h⟩ | ⟨hc2, h⟩
    · refine ev_ic_t (pc' := 26) rfl rfl (cb_gt_t hc2) ?_
      refine ev_iload_n (pc' := 27) rfl rfl rfl ?_
      obtain rfl := Option.some.inj h
      exact ev_ireturn rfl rfl
    · refine ev_ic_f (pc' := 16) rfl (by decide) rfl (cb_gt_f hc2) ?_
      refine ev_aload_n (pc' := 17) rfl rfl rfl ?_
      refine ev_getfield (pc' := 20) (w := .ref 83) rfl rfl rfl rfl ?_
      refine ev_iload_n (pc' := 21) rfl rfl rfl ?_
      refine ev_dup2 (pc' := 22) rfl rfl ?_
      obtain ⟨hg3, h⟩ := am_g_some h
      refine ev_iaload (pc' := 23) rfl rfl rfl hg3 ?_
      refine ev_iconst (pc' := 24) (b := (1 : Int32)) rfl rfl rfl ?_
      refine ev_iadd (pc' := 25) rfl rfl ?_
      obtain ⟨hg4, h⟩ := am_g_some h
      refine ev_iastore (pc' := 26) rfl rfl rfl hg4 ?_
      refine ev_iload_n (pc' := 27) rfl rfl rfl ?_
      obtain rfl := Option.some.inj h
      exact ev_ireturn rfl rfl
/-! PartedLand$People.addPerson (13, 'I', 'I'): S -/
def fx_People_addPerson (a1 : Int32) (a2 : Int32) (σ : am_S) : Option (Int32 × am_S) := am_g (am_in (σ 13 7) 16) <| am_g (am_in (σ 13 7) 16) <| am_g (am_in (σ 13 7) 16) <| some ((((σ 13 7) + (1 : Int32)) - (1 : Int32)), (am_up (am_up (am_up (am_up σ 14 (σ 13 7).toNatClampNeg a1) 15 (σ 13 7).toNatClampNeg a2) 18 (σ 13 7).toNatClampNeg (-1 : Int32)) 13 7 ((σ 13 7) + (1 : Int32))))
set_option maxRecDepth 100000 in
theorem fx_People_addPerson_e {X : Nat} {xs : Nat → Int32} {d : Nat} {a1 : Int32} {a2 : Int32} {σ : am_S} {o : Int32 × am_S} (h : fx_People_addPerson a1 a2 σ = some o) : am_Ev am_sh (am_exx X xs) (d + 0) mm_44 0 [.ref 13, .int a1, .int a2] [] σ (some (.int o.1)) o.2 := by
  unfold fx_People_addPerson at h
  refine ev_aload_n (pc' := 1) rfl rfl rfl ?_
  refine ev_getfield (pc' := 4) (w := .ref 14) rfl rfl rfl rfl ?_
  refine ev_aload_n (pc' := 5) rfl rfl rfl ?_
  refine ev_getfield (pc' := 8) (w := .int (σ 13 7)) rfl rfl rfl rfl ?_
  refine ev_iload_n (pc' := 9) rfl rfl rfl ?_
  obtain ⟨hg1, h⟩ := am_g_some h
  refine ev_iastore (pc' := 10) rfl rfl rfl hg1 ?_
  refine ev_aload_n (pc' := 11) rfl rfl rfl ?_
  refine ev_getfield (pc' := 14) (w := .ref 15) rfl rfl rfl rfl ?_
  refine ev_aload_n (pc' := 15) rfl rfl rfl ?_
  refine ev_getfield (pc' := 18) (w := .int (σ 13 7)) rfl rfl rfl rfl ?_
  refine ev_iload_n (pc' := 19) rfl rfl rfl ?_
  obtain ⟨hg2, h⟩ := am_g_some h
  refine ev_iastore (pc' := 20) rfl rfl rfl hg2 ?_
  refine ev_aload_n (pc' := 21) rfl rfl rfl ?_
  refine ev_getfield (pc' := 24) (w := .ref 18) rfl rfl rfl rfl ?_
  refine ev_aload_n (pc' := 25) rfl rfl rfl ?_
  refine ev_getfield (pc' := 28) (w := .int (σ 13 7)) rfl rfl rfl rfl ?_
  refine ev_iconst (pc' := 29) (b := (-1 : Int32)) rfl rfl rfl ?_
  obtain ⟨hg3, h⟩ := am_g_some h
  refine ev_iastore (pc' := 30) rfl rfl rfl hg3 ?_
  refine ev_aload_n (pc' := 31) rfl rfl rfl ?_
  refine ev_dup (pc' := 32) rfl rfl ?_
  refine ev_getfield (pc' := 35) (w := .int (σ 13 7)) rfl rfl rfl rfl ?_
  refine ev_iconst (pc' := 36) (b := (1 : Int32)) rfl rfl rfl ?_
  refine ev_iadd (pc' := 37) rfl rfl ?_
  refine ev_putfield (pc' := 40) (ci := 5) (f := 7) (z := 0) rfl rfl rfl rfl rfl ?_
  refine ev_aload_n (pc' := 41) rfl rfl rfl ?_
  refine ev_getfield (pc' := 44) (w := .int ((σ 13 7) + (1 : Int32))) rfl rfl rfl rfl ?_
  refine ev_iconst (pc' := 45) (b := (1 : Int32)) rfl rfl rfl ?_
  refine ev_isub (pc' := 46) rfl rfl ?_
  obtain rfl := Option.some.inj h
  exact ev_ireturn rfl rfl
/-! PartedLand.person (0, 'I', 'I'): S -/
def fx_person_b22 (σ : am_S) : Option (Int32 × am_S) := (fx_finding (-1000000001 : Int32) σ).bind fun q1 => some (q1.1, q1.2)
set_option maxRecDepth 100000 in
theorem fx_person_b22_e {X : Nat} {xs : Nat → Int32} {d : Nat} {w1 : Value} {w2 : Value} {σ : am_S} {o : Int32 × am_S} (h : fx_person_b22 σ = some o) : am_Ev am_sh (am_exx X xs) (d + 1) mm_92 22 [.ref 0, w1, w2] [] σ (some (.int o.1)) o.2 := by
  unfold fx_person_b22 at h
  refine ev_aload_n (pc' := 23) rfl rfl rfl ?_
  refine ev_ldc (pc' := 25) (b := (-1000000001 : Int32)) rfl rfl rfl ?_
  refine am_bd h (fun q1 hq1 h => ?_)
  refine ev_call (mi := 129) (as := [.ref 0, .int (-1000000001 : Int32)]) (rest := []) rfl rfl (Nat.le_of_ble_eq_true rfl) (fx_finding_e (d := d) hq1) ?_
  show am_Ev _ _ _ _ 28 _ _ _ _ _
  obtain rfl := Option.some.inj h
  exact ev_ireturn rfl rfl
def fx_person (a1 : Int32) (a2 : Int32) (σ : am_S) : Option (Int32 × am_S) := (if (fx_Land_hasParish a1 σ) = 0 then fx_person_b22 σ else (if (fx_Land_hasParish a2 σ) = 0 then fx_person_b22 σ else (if (σ 13 7) < (16 : Int32) then (fx_People_addPerson a1 a2 σ).bind fun q4 => some (q4.1, q4.2) else (fx_finding (-1000000004 : Int32) σ).bind fun q5 => some (q5.1, q5.2))))
set_option maxRecDepth 100000 in
theorem fx_person_e {X : Nat} {xs : Nat → Int32} {d : Nat} {a1 : Int32} {a2 : Int32} {σ : am_S} {o : Int32 × am_S} (h : fx_person a1 a2 σ = some o) : am_Ev am_sh (am_exx X xs) (d + 1) mm_92 0 [.ref 0, .int a1, .int a2] [] σ (some (.int o.1)) o.2 := by
  unfold fx_person at h
  refine ev_aload_n (pc' := 1) rfl rfl rfl ?_
  refine ev_getfield (pc' := 4) (w := .ref 1) rfl rfl rfl rfl ?_
  refine ev_iload_n (pc' := 5) rfl rfl rfl ?_
  refine ev_call (mi := 27) (as := [.ref 1, .int a1]) (rest := []) rfl rfl (Nat.le_of_ble_eq_true rfl) (fx_Land_hasParish_e (d := d) rfl) ?_
  show am_Ev _ _ _ _ 8 _ _ _ _ _
  rcases am_if h with ⟨hc1, h⟩ | ⟨hc1, h⟩
  · refine ev_if_t (pc' := 22) rfl rfl (cb_eq_t hc1) ?_
    exact fx_person_b22_e h
  · refine ev_if_f (pc' := 11) rfl (by decide) rfl (cb_eq_f hc1) ?_
    refine ev_aload_n (pc' := 12) rfl rfl rfl ?_
    refine ev_getfield (pc' := 15) (w := .ref 1) rfl rfl rfl rfl ?_
    refine ev_iload_n (pc' := 16) rfl rfl rfl ?_
    refine ev_call (mi := 27) (as := [.ref 1, .int a2]) (rest := []) rfl rfl (Nat.le_of_ble_eq_true rfl) (fx_Land_hasParish_e (d := d) rfl) ?_
    show am_Ev _ _ _ _ 19 _ _ _ _ _
    rcases am_if h with ⟨hc2, h⟩ | ⟨hc2, h⟩
    · refine ev_if_f (pc' := 22) rfl (by decide) rfl (cb_ne_f hc2) ?_
      exact fx_person_b22_e h
    · refine ev_if_t (pc' := 29) rfl rfl (cb_ne_t hc2) ?_
      refine ev_aload_n (pc' := 30) rfl rfl rfl ?_
      refine ev_getfield (pc' := 33) (w := .ref 13) rfl rfl rfl rfl ?_
      refine ev_getfield (pc' := 36) (w := .int (σ 13 7)) rfl rfl rfl rfl ?_
      refine ev_bipush (pc' := 38) (b := (16 : Int32)) rfl rfl rfl ?_
      rcases am_if h with ⟨hc3, h⟩ | ⟨hc3, h⟩
      · refine ev_ic_t (pc' := 48) rfl rfl (cb_lt_t hc3) ?_
        refine ev_aload_n (pc' := 49) rfl rfl rfl ?_
        refine ev_getfield (pc' := 52) (w := .ref 13) rfl rfl rfl rfl ?_
        refine ev_iload_n (pc' := 53) rfl rfl rfl ?_
        refine ev_iload_n (pc' := 54) rfl rfl rfl ?_
        refine am_bd h (fun q4 hq4 h => ?_)
        refine ev_call (mi := 44) (as := [.ref 13, .int a1, .int a2]) (rest := []) rfl rfl (Nat.le_of_ble_eq_true rfl) (fx_People_addPerson_e (d := d) hq4) ?_
        show am_Ev _ _ _ _ 57 _ _ _ _ _
        obtain rfl := Option.some.inj h
        exact ev_ireturn rfl rfl
      · refine ev_ic_f (pc' := 41) rfl (by decide) rfl (cb_lt_f hc3) ?_
        refine ev_aload_n (pc' := 42) rfl rfl rfl ?_
        refine ev_ldc (pc' := 44) (b := (-1000000004 : Int32)) rfl rfl rfl ?_
        refine am_bd h (fun q5 hq5 h => ?_)
        refine ev_call (mi := 129) (as := [.ref 0, .int (-1000000004 : Int32)]) (rest := []) rfl rfl (Nat.le_of_ble_eq_true rfl) (fx_finding_e (d := d) hq5) ?_
        show am_Ev _ _ _ _ 47 _ _ _ _ _
        obtain rfl := Option.some.inj h
        exact ev_ireturn rfl rfl
/-! PartedLand$People.hasPerson (13, 'I'): T -/
def fx_People_hasPerson (a1 : Int32) (σ : am_S) : Int32 := (if a1 < 0 then (0 : Int32) else (if (σ 13 7) ≤ a1 then (0 : Int32) else (1 : Int32)))
set_option maxRecDepth 100000 in
theorem fx_People_hasPerson_e {X : Nat} {xs : Nat → Int32} {d : Nat} {a1 : Int32} {σ : am_S} {o : Int32} (h : fx_People_hasPerson a1 σ = o) : am_Ev am_sh (am_exx X xs) (d + 0) mm_43 0 [.ref 13, .int a1] [] σ (some (.int o)) σ := by
  unfold fx_People_hasPerson at h
  refine ev_iload_n (pc' := 1) rfl rfl rfl ?_
  rcases am_if h with ⟨hc1, h⟩ | ⟨hc1, h⟩
  · refine ev_if_t (pc' := 16) rfl rfl (cb_lt_t hc1) ?_
    refine ev_iconst (pc' := 17) (b := (0 : Int32)) rfl rfl rfl ?_
    subst h
    exact ev_zreturn rfl rfl rfl
  · refine ev_if_f (pc' := 4) rfl (by decide) rfl (cb_lt_f hc1) ?_
    refine ev_iload_n (pc' := 5) rfl rfl rfl ?_
    refine ev_aload_n (pc' := 6) rfl rfl rfl ?_
    refine ev_getfield (pc' := 9) (w := .int (σ 13 7)) rfl rfl rfl rfl ?_
    rcases am_if h with ⟨hc2, h⟩ | ⟨hc2, h⟩
    · refine ev_ic_t (pc' := 16) rfl rfl (cb_ge_t hc2) ?_
      refine ev_iconst (pc' := 17) (b := (0 : Int32)) rfl rfl rfl ?_
      subst h
      exact ev_zreturn rfl rfl rfl
    · refine ev_ic_f (pc' := 12) rfl (by decide) rfl (cb_ge_f hc2) ?_
      refine ev_iconst (pc' := 13) (b := (1 : Int32)) rfl rfl rfl ?_
      refine ev_goto (pc' := 17) rfl rfl ?_
      subst h
      exact ev_zreturn rfl rfl rfl
/-! PartedLand.move (0, 'I', 'I'): S -/
def fx_move_b22 (σ : am_S) : Option (Int32 × am_S) := (fx_finding (-1000000001 : Int32) σ).bind fun q1 => some (q1.1, q1.2)
set_option maxRecDepth 100000 in
theorem fx_move_b22_e {X : Nat} {xs : Nat → Int32} {d : Nat} {w1 : Value} {w2 : Value} {w3 : Value} {σ : am_S} {o : Int32 × am_S} (h : fx_move_b22 σ = some o) : am_Ev am_sh (am_exx X xs) (d + 1) mm_93 22 [.ref 0, w1, w2, w3] [] σ (some (.int o.1)) o.2 := by
  unfold fx_move_b22 at h
  refine ev_aload_n (pc' := 23) rfl rfl rfl ?_
  refine ev_ldc (pc' := 25) (b := (-1000000001 : Int32)) rfl rfl rfl ?_
  refine am_bd h (fun q1 hq1 h => ?_)
  refine ev_call (mi := 129) (as := [.ref 0, .int (-1000000001 : Int32)]) (rest := []) rfl rfl (Nat.le_of_ble_eq_true rfl) (fx_finding_e (d := d) hq1) ?_
  show am_Ev _ _ _ _ 28 _ _ _ _ _
  obtain rfl := Option.some.inj h
  exact ev_ireturn rfl rfl
def fx_move (a1 : Int32) (a2 : Int32) (σ : am_S) : Option (Int32 × am_S) := (if (fx_People_hasPerson a1 σ) = 0 then fx_move_b22 σ else (if (fx_Land_hasParish a2 σ) = 0 then fx_move_b22 σ else am_g (am_in a1 16) <| am_g (am_in a1 16) <| some ((σ 15 a1.toNatClampNeg), (am_up σ 15 a1.toNatClampNeg a2))))
set_option maxRecDepth 100000 in
theorem fx_move_e {X : Nat} {xs : Nat → Int32} {d : Nat} {a1 : Int32} {a2 : Int32} {σ : am_S} {o : Int32 × am_S} (h : fx_move a1 a2 σ = some o) : am_Ev am_sh (am_exx X xs) (d + 1) mm_93 0 [.ref 0, .int a1, .int a2, .null] [] σ (some (.int o.1)) o.2 := by
  unfold fx_move at h
  refine ev_aload_n (pc' := 1) rfl rfl rfl ?_
  refine ev_getfield (pc' := 4) (w := .ref 13) rfl rfl rfl rfl ?_
  refine ev_iload_n (pc' := 5) rfl rfl rfl ?_
  refine ev_call (mi := 43) (as := [.ref 13, .int a1]) (rest := []) rfl rfl (Nat.le_of_ble_eq_true rfl) (fx_People_hasPerson_e (d := d) rfl) ?_
  show am_Ev _ _ _ _ 8 _ _ _ _ _
  rcases am_if h with ⟨hc1, h⟩ | ⟨hc1, h⟩
  · refine ev_if_t (pc' := 22) rfl rfl (cb_eq_t hc1) ?_
    exact fx_move_b22_e h
  · refine ev_if_f (pc' := 11) rfl (by decide) rfl (cb_eq_f hc1) ?_
    refine ev_aload_n (pc' := 12) rfl rfl rfl ?_
    refine ev_getfield (pc' := 15) (w := .ref 1) rfl rfl rfl rfl ?_
    refine ev_iload_n (pc' := 16) rfl rfl rfl ?_
    refine ev_call (mi := 27) (as := [.ref 1, .int a2]) (rest := []) rfl rfl (Nat.le_of_ble_eq_true rfl) (fx_Land_hasParish_e (d := d) rfl) ?_
    show am_Ev _ _ _ _ 19 _ _ _ _ _
    rcases am_if h with ⟨hc2, h⟩ | ⟨hc2, h⟩
    · refine ev_if_f (pc' := 22) rfl (by decide) rfl (cb_ne_f hc2) ?_
      exact fx_move_b22_e h
    · refine ev_if_t (pc' := 29) rfl rfl (cb_ne_t hc2) ?_
      refine ev_aload_n (pc' := 30) rfl rfl rfl ?_
      refine ev_getfield (pc' := 33) (w := .ref 13) rfl rfl rfl rfl ?_
      refine ev_getfield (pc' := 36) (w := .ref 15) rfl rfl rfl rfl ?_
      refine ev_iload_n (pc' := 37) rfl rfl rfl ?_
      obtain ⟨hg3, h⟩ := am_g_some h
      refine ev_iaload (pc' := 38) rfl rfl rfl hg3 ?_
      refine ev_istore_n (pc' := 39) (L' := [.ref 0, .int a1, .int a2, .int (σ 15 a1.toNatClampNeg)]) rfl rfl rfl rfl ?_
      refine ev_aload_n (pc' := 40) rfl rfl rfl ?_
      refine ev_getfield (pc' := 43) (w := .ref 13) rfl rfl rfl rfl ?_
      refine ev_getfield (pc' := 46) (w := .ref 15) rfl rfl rfl rfl ?_
      refine ev_iload_n (pc' := 47) rfl rfl rfl ?_
      refine ev_iload_n (pc' := 48) rfl rfl rfl ?_
      obtain ⟨hg4, h⟩ := am_g_some h
      refine ev_iastore (pc' := 49) rfl rfl rfl hg4 ?_
      refine ev_iload_n (pc' := 50) rfl rfl rfl ?_
      obtain rfl := Option.some.inj h
      exact ev_ireturn rfl rfl
/-! PartedLand$People.areMonths ('I',): T -/
def fx_People_areMonths (a0 : Int32) (σ : am_S) : Int32 := (if a0 < 0 then (0 : Int32) else (if (600 : Int32) < a0 then (0 : Int32) else (1 : Int32)))
set_option maxRecDepth 100000 in
theorem fx_People_areMonths_e {X : Nat} {xs : Nat → Int32} {d : Nat} {a0 : Int32} {σ : am_S} {o : Int32} (h : fx_People_areMonths a0 σ = o) : am_Ev am_sh (am_exx X xs) (d + 0) mm_42 0 [.int a0] [] σ (some (.int o)) σ := by
  unfold fx_People_areMonths at h
  refine ev_iload_n (pc' := 1) rfl rfl rfl ?_
  rcases am_if h with ⟨hc1, h⟩ | ⟨hc1, h⟩
  · refine ev_if_t (pc' := 15) rfl rfl (cb_lt_t hc1) ?_
    refine ev_iconst (pc' := 16) (b := (0 : Int32)) rfl rfl rfl ?_
    subst h
    exact ev_zreturn rfl rfl rfl
  · refine ev_if_f (pc' := 4) rfl (by decide) rfl (cb_lt_f hc1) ?_
    refine ev_iload_n (pc' := 5) rfl rfl rfl ?_
    refine ev_sipush (pc' := 8) (b := (600 : Int32)) rfl rfl rfl ?_
    rcases am_if h with ⟨hc2, h⟩ | ⟨hc2, h⟩
    · refine ev_ic_t (pc' := 15) rfl rfl (cb_gt_t hc2) ?_
      refine ev_iconst (pc' := 16) (b := (0 : Int32)) rfl rfl rfl ?_
      subst h
      exact ev_zreturn rfl rfl rfl
    · refine ev_ic_f (pc' := 11) rfl (by decide) rfl (cb_gt_f hc2) ?_
      refine ev_iconst (pc' := 12) (b := (1 : Int32)) rfl rfl rfl ?_
      refine ev_goto (pc' := 16) rfl rfl ?_
      subst h
      exact ev_zreturn rfl rfl rfl
/-! PartedLand.work (0, 'I', 'I', 'I'): S -/
def fx_work_b25 (σ : am_S) : Option (Int32 × am_S) := (fx_finding (-1000000001 : Int32) σ).bind fun q1 => some (q1.1, q1.2)
set_option maxRecDepth 100000 in
theorem fx_work_b25_e {X : Nat} {xs : Nat → Int32} {d : Nat} {w1 : Value} {w2 : Value} {w3 : Value} {σ : am_S} {o : Int32 × am_S} (h : fx_work_b25 σ = some o) : am_Ev am_sh (am_exx X xs) (d + 1) mm_94 25 [.ref 0, w1, w2, w3] [] σ (some (.int o.1)) o.2 := by
  unfold fx_work_b25 at h
  refine ev_aload_n (pc' := 26) rfl rfl rfl ?_
  refine ev_ldc (pc' := 28) (b := (-1000000001 : Int32)) rfl rfl rfl ?_
  refine am_bd h (fun q1 hq1 h => ?_)
  refine ev_call (mi := 129) (as := [.ref 0, .int (-1000000001 : Int32)]) (rest := []) rfl rfl (Nat.le_of_ble_eq_true rfl) (fx_finding_e (d := d) hq1) ?_
  show am_Ev _ _ _ _ 31 _ _ _ _ _
  obtain rfl := Option.some.inj h
  exact ev_ireturn rfl rfl
def fx_work (a1 : Int32) (a2 : Int32) (a3 : Int32) (σ : am_S) : Option (Int32 × am_S) := (if (fx_People_hasPerson a1 σ) = 0 then fx_work_b25 σ else (if (fx_People_areMonths a2 σ) = 0 then fx_work_b25 σ else (if (fx_People_areMonths a3 σ) = 0 then fx_work_b25 σ else am_g (am_in a1 16) <| am_g (am_in a1 16) <| some ((1 : Int32), (am_up (am_up σ 16 a1.toNatClampNeg a2) 17 a1.toNatClampNeg a3)))))
set_option maxRecDepth 100000 in
theorem fx_work_e {X : Nat} {xs : Nat → Int32} {d : Nat} {a1 : Int32} {a2 : Int32} {a3 : Int32} {σ : am_S} {o : Int32 × am_S} (h : fx_work a1 a2 a3 σ = some o) : am_Ev am_sh (am_exx X xs) (d + 1) mm_94 0 [.ref 0, .int a1, .int a2, .int a3] [] σ (some (.int o.1)) o.2 := by
  unfold fx_work at h
  refine ev_aload_n (pc' := 1) rfl rfl rfl ?_
  refine ev_getfield (pc' := 4) (w := .ref 13) rfl rfl rfl rfl ?_
  refine ev_iload_n (pc' := 5) rfl rfl rfl ?_
  refine ev_call (mi := 43) (as := [.ref 13, .int a1]) (rest := []) rfl rfl (Nat.le_of_ble_eq_true rfl) (fx_People_hasPerson_e (d := d) rfl) ?_
  show am_Ev _ _ _ _ 8 _ _ _ _ _
  rcases am_if h with ⟨hc1, h⟩ | ⟨hc1, h⟩
  · refine ev_if_t (pc' := 25) rfl rfl (cb_eq_t hc1) ?_
    exact fx_work_b25_e h
  · refine ev_if_f (pc' := 11) rfl (by decide) rfl (cb_eq_f hc1) ?_
    refine ev_iload_n (pc' := 12) rfl rfl rfl ?_
    refine ev_call (mi := 42) (as := [.int a2]) (rest := []) rfl rfl (Nat.le_of_ble_eq_true rfl) (fx_People_areMonths_e (d := d) rfl) ?_
    show am_Ev _ _ _ _ 15 _ _ _ _ _
    rcases am_if h with ⟨hc2, h⟩ | ⟨hc2, h⟩
    · refine ev_if_t (pc' := 25) rfl rfl (cb_eq_t hc2) ?_
      exact fx_work_b25_e h
    · refine ev_if_f (pc' := 18) rfl (by decide) rfl (cb_eq_f hc2) ?_
      refine ev_iload_n (pc' := 19) rfl rfl rfl ?_
      refine ev_call (mi := 42) (as := [.int a3]) (rest := []) rfl rfl (Nat.le_of_ble_eq_true rfl) (fx_People_areMonths_e (d := d) rfl) ?_
      show am_Ev _ _ _ _ 22 _ _ _ _ _
      rcases am_if h with ⟨hc3, h⟩ | ⟨hc3, h⟩
      · refine ev_if_f (pc' := 25) rfl (by decide) rfl (cb_ne_f hc3) ?_
        exact fx_work_b25_e h
      · refine ev_if_t (pc' := 32) rfl rfl (cb_ne_t hc3) ?_
        refine ev_aload_n (pc' := 33) rfl rfl rfl ?_
        refine ev_getfield (pc' := 36) (w := .ref 13) rfl rfl rfl rfl ?_
        refine ev_getfield (pc' := 39) (w := .ref 16) rfl rfl rfl rfl ?_
        refine ev_iload_n (pc' := 40) rfl rfl rfl ?_
        refine ev_iload_n (pc' := 41) rfl rfl rfl ?_
        obtain ⟨hg4, h⟩ := am_g_some h
        refine ev_iastore (pc' := 42) rfl rfl rfl hg4 ?_
        refine ev_aload_n (pc' := 43) rfl rfl rfl ?_
        refine ev_getfield (pc' := 46) (w := .ref 13) rfl rfl rfl rfl ?_
        refine ev_getfield (pc' := 49) (w := .ref 17) rfl rfl rfl rfl ?_
        refine ev_iload_n (pc' := 50) rfl rfl rfl ?_
        refine ev_iload_n (pc' := 51) rfl rfl rfl ?_
        obtain ⟨hg5, h⟩ := am_g_some h
        refine ev_iastore (pc' := 52) rfl rfl rfl hg5 ?_
        refine ev_iconst (pc' := 53) (b := (1 : Int32)) rfl rfl rfl ?_
        obtain rfl := Option.some.inj h
        exact ev_ireturn rfl rfl
/-! PartedLand.choose (0, 'I', 'I'): S -/
def fx_choose_b21 (σ : am_S) : Option (Int32 × am_S) := (fx_finding (-1000000001 : Int32) σ).bind fun q1 => some (q1.1, q1.2)
set_option maxRecDepth 100000 in
theorem fx_choose_b21_e {X : Nat} {xs : Nat → Int32} {d : Nat} {w1 : Value} {w2 : Value} {w3 : Value} {σ : am_S} {o : Int32 × am_S} (h : fx_choose_b21 σ = some o) : am_Ev am_sh (am_exx X xs) (d + 1) mm_95 21 [.ref 0, w1, w2, w3] [] σ (some (.int o.1)) o.2 := by
  unfold fx_choose_b21 at h
  refine ev_aload_n (pc' := 22) rfl rfl rfl ?_
  refine ev_ldc (pc' := 24) (b := (-1000000001 : Int32)) rfl rfl rfl ?_
  refine am_bd h (fun q1 hq1 h => ?_)
  refine ev_call (mi := 129) (as := [.ref 0, .int (-1000000001 : Int32)]) (rest := []) rfl rfl (Nat.le_of_ble_eq_true rfl) (fx_finding_e (d := d) hq1) ?_
  show am_Ev _ _ _ _ 27 _ _ _ _ _
  obtain rfl := Option.some.inj h
  exact ev_ireturn rfl rfl
def fx_choose (a1 : Int32) (a2 : Int32) (σ : am_S) : Option (Int32 × am_S) := (if (fx_People_hasPerson a1 σ) = 0 then fx_choose_b21 σ else (if a2 < (-1 : Int32) then fx_choose_b21 σ else (if a2 ≤ (1 : Int32) then am_g (am_in a1 16) <| am_g (am_in a1 16) <| am_g (am_in a1 16) <| some ((σ 18 a1.toNatClampNeg), (am_up (am_up σ 18 a1.toNatClampNeg a2) 19 a1.toNatClampNeg (σ 0 12))) else fx_choose_b21 σ)))
set_option maxRecDepth 100000 in
theorem fx_choose_e {X : Nat} {xs : Nat → Int32} {d : Nat} {a1 : Int32} {a2 : Int32} {σ : am_S} {o : Int32 × am_S} (h : fx_choose a1 a2 σ = some o) : am_Ev am_sh (am_exx X xs) (d + 1) mm_95 0 [.ref 0, .int a1, .int a2, .null] [] σ (some (.int o.1)) o.2 := by
  unfold fx_choose at h
  refine ev_aload_n (pc' := 1) rfl rfl rfl ?_
  refine ev_getfield (pc' := 4) (w := .ref 13) rfl rfl rfl rfl ?_
  refine ev_iload_n (pc' := 5) rfl rfl rfl ?_
  refine ev_call (mi := 43) (as := [.ref 13, .int a1]) (rest := []) rfl rfl (Nat.le_of_ble_eq_true rfl) (fx_People_hasPerson_e (d := d) rfl) ?_
  show am_Ev _ _ _ _ 8 _ _ _ _ _
  rcases am_if h with ⟨hc1, h⟩ | ⟨hc1, h⟩
  · refine ev_if_t (pc' := 21) rfl rfl (cb_eq_t hc1) ?_
    exact fx_choose_b21_e h
  · refine ev_if_f (pc' := 11) rfl (by decide) rfl (cb_eq_f hc1) ?_
    refine ev_iload_n (pc' := 12) rfl rfl rfl ?_
    refine ev_iconst (pc' := 13) (b := (-1 : Int32)) rfl rfl rfl ?_
    rcases am_if h with ⟨hc2, h⟩ | ⟨hc2, h⟩
    · refine ev_ic_t (pc' := 21) rfl rfl (cb_lt_t hc2) ?_
      exact fx_choose_b21_e h
    · refine ev_ic_f (pc' := 16) rfl (by decide) rfl (cb_lt_f hc2) ?_
      refine ev_iload_n (pc' := 17) rfl rfl rfl ?_
      refine ev_iconst (pc' := 18) (b := (1 : Int32)) rfl rfl rfl ?_
      rcases am_if h with ⟨hc3, h⟩ | ⟨hc3, h⟩
      · refine ev_ic_t (pc' := 28) rfl rfl (cb_le_t hc3) ?_
        refine ev_aload_n (pc' := 29) rfl rfl rfl ?_
        refine ev_getfield (pc' := 32) (w := .ref 13) rfl rfl rfl rfl ?_
        refine ev_getfield (pc' := 35) (w := .ref 18) rfl rfl rfl rfl ?_
        refine ev_iload_n (pc' := 36) rfl rfl rfl ?_
        obtain ⟨hg4, h⟩ := am_g_some h
        refine ev_iaload (pc' := 37) rfl rfl rfl hg4 ?_
        refine ev_istore_n (pc' := 38) (L' := [.ref 0, .int a1, .int a2, .int (σ 18 a1.toNatClampNeg)]) rfl rfl rfl rfl ?_
        refine ev_aload_n (pc' := 39) rfl rfl rfl ?_
        refine ev_getfield (pc' := 42) (w := .ref 13) rfl rfl rfl rfl ?_
        refine ev_getfield (pc' := 45) (w := .ref 18) rfl rfl rfl rfl ?_
        refine ev_iload_n (pc' := 46) rfl rfl rfl ?_
        refine ev_iload_n (pc' := 47) rfl rfl rfl ?_
        obtain ⟨hg5, h⟩ := am_g_some h
        refine ev_iastore (pc' := 48) rfl rfl rfl hg5 ?_
        refine ev_aload_n (pc' := 49) rfl rfl rfl ?_
        refine ev_getfield (pc' := 52) (w := .ref 13) rfl rfl rfl rfl ?_
        refine ev_getfield (pc' := 55) (w := .ref 19) rfl rfl rfl rfl ?_
        refine ev_iload_n (pc' := 56) rfl rfl rfl ?_
        refine ev_aload_n (pc' := 57) rfl rfl rfl ?_
        refine ev_getfield (pc' := 60) (w := .int (σ 0 12)) rfl rfl rfl rfl ?_
        obtain ⟨hg6, h⟩ := am_g_some h
        refine ev_iastore (pc' := 61) rfl rfl rfl hg6 ?_
        refine ev_iload_n (pc' := 62) rfl rfl rfl ?_
        obtain rfl := Option.some.inj h
        exact ev_ireturn rfl rfl
      · refine ev_ic_f (pc' := 21) rfl (by decide) rfl (cb_le_f hc3) ?_
        exact fx_choose_b21_e h
/-! PartedLand$Houses.hasProposed (21, 'I'): P -/
def fx_Houses_hasProposed (a1 : Int32) (σ : am_S) : Option Int32 := (if a1 = 0 then am_g (am_bo (σ 21 4)) <| some (σ 21 4) else am_g (am_bo (σ 21 5)) <| some (σ 21 5))
set_option maxRecDepth 100000 in
theorem fx_Houses_hasProposed_e {X : Nat} {xs : Nat → Int32} {d : Nat} {a1 : Int32} {σ : am_S} {o : Int32} (h : fx_Houses_hasProposed a1 σ = some o) : am_Ev am_sh (am_exx X xs) (d + 0) mm_13 0 [.ref 21, .int a1] [] σ (some (.int o)) σ := by
  unfold fx_Houses_hasProposed at h
  refine ev_iload_n (pc' := 1) rfl rfl rfl ?_
  rcases am_if h with ⟨hc1, h⟩ | ⟨hc1, h⟩
  · refine ev_if_f (pc' := 4) rfl (by decide) rfl (cb_ne_f hc1) ?_
    refine ev_aload_n (pc' := 5) rfl rfl rfl ?_
    refine ev_getfield (pc' := 8) (w := .int (σ 21 4)) rfl rfl rfl rfl ?_
    refine ev_goto (pc' := 15) rfl rfl ?_
    obtain ⟨hg2, h⟩ := am_g_some h
    obtain rfl := Option.some.inj h
    exact ev_zreturn rfl rfl hg2
  · refine ev_if_t (pc' := 11) rfl rfl (cb_ne_t hc1) ?_
    refine ev_aload_n (pc' := 12) rfl rfl rfl ?_
    refine ev_getfield (pc' := 15) (w := .int (σ 21 5)) rfl rfl rfl rfl ?_
    obtain ⟨hg3, h⟩ := am_g_some h
    obtain rfl := Option.some.inj h
    exact ev_zreturn rfl rfl hg3
/-! PartedLand$People.sideOfMoreWork (13, 'I'): P -/
def fx_People_sideOfMoreWork (a1 : Int32) (σ : am_S) : Option Int32 := am_g (am_in a1 16) <| am_g (am_in a1 16) <| (if (σ 16 a1.toNatClampNeg) = (σ 17 a1.toNatClampNeg) then some (-1 : Int32) else am_g (am_in a1 16) <| am_g (am_in a1 16) <| (if (σ 16 a1.toNatClampNeg) ≤ (σ 17 a1.toNatClampNeg) then some (1 : Int32) else some (0 : Int32)))
set_option maxRecDepth 100000 in
theorem fx_People_sideOfMoreWork_e {X : Nat} {xs : Nat → Int32} {d : Nat} {a1 : Int32} {σ : am_S} {o : Int32} (h : fx_People_sideOfMoreWork a1 σ = some o) : am_Ev am_sh (am_exx X xs) (d + 0) mm_47 0 [.ref 13, .int a1] [] σ (some (.int o)) σ := by
  unfold fx_People_sideOfMoreWork at h
  refine ev_aload_n (pc' := 1) rfl rfl rfl ?_
  refine ev_getfield (pc' := 4) (w := .ref 16) rfl rfl rfl rfl ?_
  refine ev_iload_n (pc' := 5) rfl rfl rfl ?_
  obtain ⟨hg1, h⟩ := am_g_some h
  refine ev_iaload (pc' := 6) rfl rfl rfl hg1 ?_
  refine ev_aload_n (pc' := 7) rfl rfl rfl ?_
  refine ev_getfield (pc' := 10) (w := .ref 17) rfl rfl rfl rfl ?_
  refine ev_iload_n (pc' := 11) rfl rfl rfl ?_
  obtain ⟨hg2, h⟩ := am_g_some h
  refine ev_iaload (pc' := 12) rfl rfl rfl hg2 ?_
  rcases am_if h with ⟨hc3, h⟩ | ⟨hc3, h⟩
  · refine ev_ic_f (pc' := 15) rfl (by decide) rfl (cb_ne_f hc3) ?_
    refine ev_iconst (pc' := 16) (b := (-1 : Int32)) rfl rfl rfl ?_
    obtain rfl := Option.some.inj h
    exact ev_ireturn rfl rfl
  · refine ev_ic_t (pc' := 17) rfl rfl (cb_ne_t hc3) ?_
    refine ev_aload_n (pc' := 18) rfl rfl rfl ?_
    refine ev_getfield (pc' := 21) (w := .ref 16) rfl rfl rfl rfl ?_
    refine ev_iload_n (pc' := 22) rfl rfl rfl ?_
    obtain ⟨hg4, h⟩ := am_g_some h
    refine ev_iaload (pc' := 23) rfl rfl rfl hg4 ?_
    refine ev_aload_n (pc' := 24) rfl rfl rfl ?_
    refine ev_getfield (pc' := 27) (w := .ref 17) rfl rfl rfl rfl ?_
    refine ev_iload_n (pc' := 28) rfl rfl rfl ?_
    obtain ⟨hg5, h⟩ := am_g_some h
    refine ev_iaload (pc' := 29) rfl rfl rfl hg5 ?_
    rcases am_if h with ⟨hc6, h⟩ | ⟨hc6, h⟩
    · refine ev_ic_t (pc' := 36) rfl rfl (cb_le_t hc6) ?_
      refine ev_iconst (pc' := 37) (b := (1 : Int32)) rfl rfl rfl ?_
      obtain rfl := Option.some.inj h
      exact ev_ireturn rfl rfl
    · refine ev_ic_f (pc' := 32) rfl (by decide) rfl (cb_le_f hc6) ?_
      refine ev_iconst (pc' := 33) (b := (0 : Int32)) rfl rfl rfl ?_
      refine ev_goto (pc' := 37) rfl rfl ?_
      obtain rfl := Option.some.inj h
      exact ev_ireturn rfl rfl
/-! PartedLand$Land.lineBetween (1, 'I', 'I', 'I'): P -/
def fx_Land_lineBetween (a1 : Int32) (a2 : Int32) (a3 : Int32) (σ : am_S) : Option Int32 := am_g (am_in a2 8) <| am_g (am_in a1 8) <| (if 0 < ((σ 11 a2.toNatClampNeg) - (σ 11 a1.toNatClampNeg)) then am_g (am_in a1 8) <| am_g (am_in a2 8) <| am_g (am_in a1 8) <| am_g (am_in a1 8) <| (if ((σ 11 a2.toNatClampNeg) - (σ 11 a1.toNatClampNeg)) = 0 then none else some ((σ 10 a1.toNatClampNeg) + ((((σ 10 a2.toNatClampNeg) - (σ 10 a1.toNatClampNeg)) * (a3 - (σ 11 a1.toNatClampNeg))) / ((σ 11 a2.toNatClampNeg) - (σ 11 a1.toNatClampNeg))))) else am_g (am_in a1 8) <| some (σ 10 a1.toNatClampNeg))
set_option maxRecDepth 100000 in
theorem fx_Land_lineBetween_e {X : Nat} {xs : Nat → Int32} {d : Nat} {a1 : Int32} {a2 : Int32} {a3 : Int32} {σ : am_S} {o : Int32} (h : fx_Land_lineBetween a1 a2 a3 σ = some o) : am_Ev am_sh (am_exx X xs) (d + 0) mm_33 0 [.ref 1, .int a1, .int a2, .int a3, .null] [] σ (some (.int o)) σ := by
  unfold fx_Land_lineBetween at h
  refine ev_aload_n (pc' := 1) rfl rfl rfl ?_
  refine ev_getfield (pc' := 4) (w := .ref 11) rfl rfl rfl rfl ?_
  refine ev_iload_n (pc' := 5) rfl rfl rfl ?_
  obtain ⟨hg1, h⟩ := am_g_some h
  refine ev_iaload (pc' := 6) rfl rfl rfl hg1 ?_
  refine ev_aload_n (pc' := 7) rfl rfl rfl ?_
  refine ev_getfield (pc' := 10) (w := .ref 11) rfl rfl rfl rfl ?_
  refine ev_iload_n (pc' := 11) rfl rfl rfl ?_
  obtain ⟨hg2, h⟩ := am_g_some h
  refine ev_iaload (pc' := 12) rfl rfl rfl hg2 ?_
  refine ev_isub (pc' := 13) rfl rfl ?_
  refine ev_istore (pc' := 15) (L' := [.ref 1, .int a1, .int a2, .int a3, .int ((σ 11 a2.toNatClampNeg) - (σ 11 a1.toNatClampNeg))]) rfl rfl rfl rfl ?_
  refine ev_iload (pc' := 17) rfl rfl rfl ?_
  rcases am_if h with ⟨hc3, h⟩ | ⟨hc3, h⟩
  · refine ev_if_t (pc' := 27) rfl rfl (cb_gt_t hc3) ?_
    refine ev_aload_n (pc' := 28) rfl rfl rfl ?_
    refine ev_getfield (pc' := 31) (w := .ref 10) rfl rfl rfl rfl ?_
    refine ev_iload_n (pc' := 32) rfl rfl rfl ?_
    obtain ⟨hg4, h⟩ := am_g_some h
    refine ev_iaload (pc' := 33) rfl rfl rfl hg4 ?_
    refine ev_aload_n (pc' := 34) rfl rfl rfl ?_
    refine ev_getfield (pc' := 37) (w := .ref 10) rfl rfl rfl rfl ?_
    refine ev_iload_n (pc' := 38) rfl rfl rfl ?_
    obtain ⟨hg5, h⟩ := am_g_some h
    refine ev_iaload (pc' := 39) rfl rfl rfl hg5 ?_
    refine ev_aload_n (pc' := 40) rfl rfl rfl ?_
    refine ev_getfield (pc' := 43) (w := .ref 10) rfl rfl rfl rfl ?_
    refine ev_iload_n (pc' := 44) rfl rfl rfl ?_
    obtain ⟨hg6, h⟩ := am_g_some h
    refine ev_iaload (pc' := 45) rfl rfl rfl hg6 ?_
    refine ev_isub (pc' := 46) rfl rfl ?_
    refine ev_iload_n (pc' := 47) rfl rfl rfl ?_
    refine ev_aload_n (pc' := 48) rfl rfl rfl ?_
    refine ev_getfield (pc' := 51) (w := .ref 11) rfl rfl rfl rfl ?_
    refine ev_iload_n (pc' := 52) rfl rfl rfl ?_
    obtain ⟨hg7, h⟩ := am_g_some h
    refine ev_iaload (pc' := 53) rfl rfl rfl hg7 ?_
    refine ev_isub (pc' := 54) rfl rfl ?_
    refine ev_imul (pc' := 55) rfl rfl ?_
    refine ev_iload (pc' := 57) rfl rfl rfl ?_
    rcases am_if h with ⟨hc8, h⟩ | ⟨hc8, h⟩
    · cases h
    refine ev_idiv (pc' := 58) rfl rfl hc8 ?_
    refine ev_iadd (pc' := 59) rfl rfl ?_
    obtain rfl := Option.some.inj h
    exact ev_ireturn rfl rfl
  · refine ev_if_f (pc' := 20) rfl (by decide) rfl (cb_gt_f hc3) ?_
    refine ev_aload_n (pc' := 21) rfl rfl rfl ?_
    refine ev_getfield (pc' := 24) (w := .ref 10) rfl rfl rfl rfl ?_
    refine ev_iload_n (pc' := 25) rfl rfl rfl ?_
    obtain ⟨hg9, h⟩ := am_g_some h
    refine ev_iaload (pc' := 26) rfl rfl rfl hg9 ?_
    obtain rfl := Option.some.inj h
    exact ev_ireturn rfl rfl
/-! PartedLand$Land.lineAt (1, 'I'): P -/
def fx_Land_lineAt_b29 (N : Nat) : Nat → Int32 → Int32 → am_S → Option Int32
  | 0, _, _, _ => none
  | n + 1, x1, x2, σ => (if (σ 1 13) ≤ x2 then am_g (am_in ((σ 1 13) - (1 : Int32)) 8) <| some (σ 10 ((σ 1 13) - (1 : Int32)).toNatClampNeg) else am_g (am_in x2 8) <| (if (σ 11 x2.toNatClampNeg) < x1 then fx_Land_lineAt_b29 N n x1 (x2 + (1 : Int32)) σ else (fx_Land_lineBetween (x2 - (1 : Int32)) x2 x1 σ).bind fun q5 => some q5))
set_option maxRecDepth 100000 in
theorem fx_Land_lineAt_b29_e {X : Nat} {xs : Nat → Int32} {d : Nat} {N : Nat} : ∀ {n : Nat} {x1 : Int32} {x2 : Int32} {σ : am_S} {o : Int32}, fx_Land_lineAt_b29 N n x1 x2 σ = some o → am_Ev am_sh (am_exx X xs) (d + 1) mm_32 29 [.ref 1, .int x1, .int x2] [] σ (some (.int o)) σ := by
  intro n
  induction n with
  | zero => intro x1 x2 σ o h; cases h
  | succ n ih =>
    intro x1 x2 σ o h
    unfold fx_Land_lineAt_b29 at h
    refine ev_iload_n (pc' := 30) rfl rfl rfl ?_
    refine ev_aload_n (pc' := 31) rfl rfl rfl ?_
    refine ev_getfield (pc' := 34) (w := .int (σ 1 13)) rfl rfl rfl rfl ?_
    rcases am_if h with ⟨hc1, h⟩ | ⟨hc1, h⟩
    · refine ev_ic_t (pc' := 63) rfl rfl (cb_ge_t hc1) ?_
      refine ev_aload_n (pc' := 64) rfl rfl rfl ?_
      refine ev_getfield (pc' := 67) (w := .ref 10) rfl rfl rfl rfl ?_
      refine ev_aload_n (pc' := 68) rfl rfl rfl ?_
      refine ev_getfield (pc' := 71) (w := .int (σ 1 13)) rfl rfl rfl rfl ?_
      refine ev_iconst (pc' := 72) (b := (1 : Int32)) rfl rfl rfl ?_
      refine ev_isub (pc' := 73) rfl rfl ?_
      obtain ⟨hg2, h⟩ := am_g_some h
      refine ev_iaload (pc' := 74) rfl rfl rfl hg2 ?_
      obtain rfl := Option.some.inj h
      exact ev_ireturn rfl rfl
    · refine ev_ic_f (pc' := 37) rfl (by decide) rfl (cb_ge_f hc1) ?_
      refine ev_iload_n (pc' := 38) rfl rfl rfl ?_
      refine ev_aload_n (pc' := 39) rfl rfl rfl ?_
      refine ev_getfield (pc' := 42) (w := .ref 11) rfl rfl rfl rfl ?_
      refine ev_iload_n (pc' := 43) rfl rfl rfl ?_
      obtain ⟨hg3, h⟩ := am_g_some h
      refine ev_iaload (pc' := 44) rfl rfl rfl hg3 ?_
      rcases am_if h with ⟨hc4, h⟩ | ⟨hc4, h⟩
      · refine ev_ic_t (pc' := 57) rfl rfl (cb_gt_t hc4) ?_
        refine ev_iinc (pc' := 60) (L' := [.ref 1, .int x1, .int (x2 + (1 : Int32))]) (b := (1 : Int32)) rfl rfl rfl rfl rfl ?_
        refine ev_goto (pc' := 29) rfl rfl ?_
        exact ih h
      · refine ev_ic_f (pc' := 47) rfl (by decide) rfl (cb_gt_f hc4) ?_
        refine ev_aload_n (pc' := 48) rfl rfl rfl ?_
        refine ev_iload_n (pc' := 49) rfl rfl rfl ?_
        refine ev_iconst (pc' := 50) (b := (1 : Int32)) rfl rfl rfl ?_
        refine ev_isub (pc' := 51) rfl rfl ?_
        refine ev_iload_n (pc' := 52) rfl rfl rfl ?_
        refine ev_iload_n (pc' := 53) rfl rfl rfl ?_
        refine am_bd h (fun q5 hq5 h => ?_)
        refine ev_call (mi := 33) (as := [.ref 1, .int (x2 - (1 : Int32)), .int x2, .int x1]) (rest := []) rfl rfl (Nat.le_of_ble_eq_true rfl) (fx_Land_lineBetween_e (d := d) hq5) ?_
        show am_Ev _ _ _ _ 56 _ _ _ _ _
        obtain rfl := Option.some.inj h
        exact ev_ireturn rfl rfl
def fx_Land_lineAt (N : Nat) (a1 : Int32) (σ : am_S) : Option Int32 := (if (σ 1 13) = 0 then some (50 : Int32) else am_g (am_in (0 : Int32) 8) <| (if (σ 11 (0 : Int32).toNatClampNeg) < a1 then fx_Land_lineAt_b29 N N a1 (1 : Int32) σ else am_g (am_in (0 : Int32) 8) <| some (σ 10 (0 : Int32).toNatClampNeg)))
set_option maxRecDepth 100000 in
theorem fx_Land_lineAt_e {X : Nat} {xs : Nat → Int32} {d : Nat} {N : Nat} {a1 : Int32} {σ : am_S} {o : Int32} (h : fx_Land_lineAt N a1 σ = some o) : am_Ev am_sh (am_exx X xs) (d + 1) mm_32 0 [.ref 1, .int a1, .null] [] σ (some (.int o)) σ := by
  unfold fx_Land_lineAt at h
  refine ev_aload_n (pc' := 1) rfl rfl rfl ?_
  refine ev_getfield (pc' := 4) (w := .int (σ 1 13)) rfl rfl rfl rfl ?_
  rcases am_if h with ⟨hc1, h⟩ | ⟨hc1, h⟩
  · refine ev_if_f (pc' := 7) rfl (by decide) rfl (cb_ne_f hc1) ?_
    refine ev_bipush (pc' := 9) (b := (50 : Int32)) rfl rfl rfl ?_
    obtain rfl := Option.some.inj h
    exact ev_ireturn rfl rfl
  · refine ev_if_t (pc' := 10) rfl rfl (cb_ne_t hc1) ?_
    refine ev_iload_n (pc' := 11) rfl rfl rfl ?_
    refine ev_aload_n (pc' := 12) rfl rfl rfl ?_
    refine ev_getfield (pc' := 15) (w := .ref 11) rfl rfl rfl rfl ?_
    refine ev_iconst (pc' := 16) (b := (0 : Int32)) rfl rfl rfl ?_
    obtain ⟨hg2, h⟩ := am_g_some h
    refine ev_iaload (pc' := 17) rfl rfl rfl hg2 ?_
    rcases am_if h with ⟨hc3, h⟩ | ⟨hc3, h⟩
    · refine ev_ic_t (pc' := 27) rfl rfl (cb_gt_t hc3) ?_
      refine ev_iconst (pc' := 28) (b := (1 : Int32)) rfl rfl rfl ?_
      refine ev_istore_n (pc' := 29) (L' := [.ref 1, .int a1, .int (1 : Int32)]) rfl rfl rfl rfl ?_
      exact fx_Land_lineAt_b29_e h
    · refine ev_ic_f (pc' := 20) rfl (by decide) rfl (cb_gt_f hc3) ?_
      refine ev_aload_n (pc' := 21) rfl rfl rfl ?_
      refine ev_getfield (pc' := 24) (w := .ref 10) rfl rfl rfl rfl ?_
      refine ev_iconst (pc' := 25) (b := (0 : Int32)) rfl rfl rfl ?_
      obtain ⟨hg4, h⟩ := am_g_some h
      refine ev_iaload (pc' := 26) rfl rfl rfl hg4 ?_
      obtain rfl := Option.some.inj h
      exact ev_ireturn rfl rfl
/-! PartedLand$Land.sideOf (1, 'I'): P -/
def fx_Land_sideOf (N : Nat) (a1 : Int32) (σ : am_S) : Option Int32 := am_g (am_in a1 12) <| (fx_Land_lineAt N (σ 3 a1.toNatClampNeg) σ).bind fun q2 => am_g (am_in a1 12) <| (if (σ 2 a1.toNatClampNeg) = q2 then am_g (am_in a1 12) <| some (σ 4 a1.toNatClampNeg) else am_g (am_in a1 12) <| (if q2 ≤ (σ 2 a1.toNatClampNeg) then some (1 : Int32) else some (0 : Int32)))
set_option maxRecDepth 100000 in
theorem fx_Land_sideOf_e {X : Nat} {xs : Nat → Int32} {d : Nat} {N : Nat} {a1 : Int32} {σ : am_S} {o : Int32} (h : fx_Land_sideOf N a1 σ = some o) : am_Ev am_sh (am_exx X xs) (d + 2) mm_16 0 [.ref 1, .int a1, .null] [] σ (some (.int o)) σ := by
  unfold fx_Land_sideOf at h
  refine ev_aload_n (pc' := 1) rfl rfl rfl ?_
  refine ev_aload_n (pc' := 2) rfl rfl rfl ?_
  refine ev_getfield (pc' := 5) (w := .ref 3) rfl rfl rfl rfl ?_
  refine ev_iload_n (pc' := 6) rfl rfl rfl ?_
  obtain ⟨hg1, h⟩ := am_g_some h
  refine ev_iaload (pc' := 7) rfl rfl rfl hg1 ?_
  refine am_bd h (fun q2 hq2 h => ?_)
  refine ev_call (mi := 32) (as := [.ref 1, .int (σ 3 a1.toNatClampNeg)]) (rest := []) rfl rfl (Nat.le_of_ble_eq_true rfl) (fx_Land_lineAt_e (d := d) hq2) ?_
  show am_Ev _ _ _ _ 10 _ _ _ _ _
  refine ev_istore_n (pc' := 11) (L' := [.ref 1, .int a1, .int q2]) rfl rfl rfl rfl ?_
  refine ev_aload_n (pc' := 12) rfl rfl rfl ?_
  refine ev_getfield (pc' := 15) (w := .ref 2) rfl rfl rfl rfl ?_
  refine ev_iload_n (pc' := 16) rfl rfl rfl ?_
  obtain ⟨hg3, h⟩ := am_g_some h
  refine ev_iaload (pc' := 17) rfl rfl rfl hg3 ?_
  refine ev_iload_n (pc' := 18) rfl rfl rfl ?_
  rcases am_if h with ⟨hc4, h⟩ | ⟨hc4, h⟩
  · refine ev_ic_f (pc' := 21) rfl (by decide) rfl (cb_ne_f hc4) ?_
    refine ev_aload_n (pc' := 22) rfl rfl rfl ?_
    refine ev_getfield (pc' := 25) (w := .ref 4) rfl rfl rfl rfl ?_
    refine ev_iload_n (pc' := 26) rfl rfl rfl ?_
    obtain ⟨hg5, h⟩ := am_g_some h
    refine ev_iaload (pc' := 27) rfl rfl rfl hg5 ?_
    obtain rfl := Option.some.inj h
    exact ev_ireturn rfl rfl
  · refine ev_ic_t (pc' := 28) rfl rfl (cb_ne_t hc4) ?_
    refine ev_aload_n (pc' := 29) rfl rfl rfl ?_
    refine ev_getfield (pc' := 32) (w := .ref 2) rfl rfl rfl rfl ?_
    refine ev_iload_n (pc' := 33) rfl rfl rfl ?_
    obtain ⟨hg6, h⟩ := am_g_some h
    refine ev_iaload (pc' := 34) rfl rfl rfl hg6 ?_
    refine ev_iload_n (pc' := 35) rfl rfl rfl ?_
    rcases am_if h with ⟨hc7, h⟩ | ⟨hc7, h⟩
    · refine ev_ic_t (pc' := 42) rfl rfl (cb_ge_t hc7) ?_
      refine ev_iconst (pc' := 43) (b := (1 : Int32)) rfl rfl rfl ?_
      obtain rfl := Option.some.inj h
      exact ev_ireturn rfl rfl
    · refine ev_ic_f (pc' := 38) rfl (by decide) rfl (cb_ge_f hc7) ?_
      refine ev_iconst (pc' := 39) (b := (0 : Int32)) rfl rfl rfl ?_
      refine ev_goto (pc' := 43) rfl rfl ?_
      obtain rfl := Option.some.inj h
      exact ev_ireturn rfl rfl
/-! PartedLand$People.ownerOnGround (13, 'I', 'I', 'I', 1): P -/
def fx_People_ownerOnGround (N : Nat) (a1 : Int32) (a2 : Int32) (a3 : Int32) (σ : am_S) : Option Int32 := (if a1 = (98 : Int32) then am_g (am_in a2 16) <| (fx_Land_sideOf N (σ 14 a2.toNatClampNeg) σ).bind fun q3 => some q3 else (if a1 = (99 : Int32) then am_g (am_in a2 16) <| (if (σ 19 a2.toNatClampNeg) ≤ a3 then am_g (am_in a2 16) <| some (σ 18 a2.toNatClampNeg) else some (-1 : Int32)) else (if a1 = (104 : Int32) then am_g (am_in a2 16) <| (fx_Land_sideOf N (σ 15 a2.toNatClampNeg) σ).bind fun q10 => some q10 else (if a1 = (119 : Int32) then (fx_People_sideOfMoreWork a2 σ).bind fun q12 => some q12 else some (-1 : Int32)))))
set_option maxRecDepth 100000 in
theorem fx_People_ownerOnGround_e {X : Nat} {xs : Nat → Int32} {d : Nat} {N : Nat} {a1 : Int32} {a2 : Int32} {a3 : Int32} {σ : am_S} {o : Int32} (h : fx_People_ownerOnGround N a1 a2 a3 σ = some o) : am_Ev am_sh (am_exx X xs) (d + 3) mm_46 0 [.ref 13, .int a1, .int a2, .int a3, .ref 1] [] σ (some (.int o)) σ := by
  unfold fx_People_ownerOnGround at h
  refine ev_iload_n (pc' := 1) rfl rfl rfl ?_
  rcases am_if h with ⟨hc1, h⟩ | ⟨hc1, h⟩
  · refine ev_lsw (pc' := 77) (off := 76) rfl (by decide) (by rw [hc1]; decide +kernel) rfl ?_
    refine ev_aload (pc' := 79) rfl rfl rfl ?_
    refine ev_aload_n (pc' := 80) rfl rfl rfl ?_
    refine ev_getfield (pc' := 83) (w := .ref 14) rfl rfl rfl rfl ?_
    refine ev_iload_n (pc' := 84) rfl rfl rfl ?_
    obtain ⟨hg2, h⟩ := am_g_some h
    refine ev_iaload (pc' := 85) rfl rfl rfl hg2 ?_
    refine am_bd h (fun q3 hq3 h => ?_)
    refine ev_call (mi := 16) (as := [.ref 1, .int (σ 14 a2.toNatClampNeg)]) (rest := []) rfl rfl (Nat.le_of_ble_eq_true rfl) (fx_Land_sideOf_e (d := d) hq3) ?_
    show am_Ev _ _ _ _ 88 _ _ _ _ _
    obtain rfl := Option.some.inj h
    exact ev_ireturn rfl rfl
  rcases am_if h with ⟨hc4, h⟩ | ⟨hc4, h⟩
  · refine ev_lsw (pc' := 44) (off := 43) rfl (by decide) (by rw [hc4]; decide +kernel) rfl ?_
    refine ev_aload_n (pc' := 45) rfl rfl rfl ?_
    refine ev_getfield (pc' := 48) (w := .ref 19) rfl rfl rfl rfl ?_
    refine ev_iload_n (pc' := 49) rfl rfl rfl ?_
    obtain ⟨hg5, h⟩ := am_g_some h
    refine ev_iaload (pc' := 50) rfl rfl rfl hg5 ?_
    refine ev_iload_n (pc' := 51) rfl rfl rfl ?_
    rcases am_if h with ⟨hc6, h⟩ | ⟨hc6, h⟩
    · refine ev_ic_t (pc' := 58) rfl rfl (cb_le_t hc6) ?_
      refine ev_aload_n (pc' := 59) rfl rfl rfl ?_
      refine ev_getfield (pc' := 62) (w := .ref 18) rfl rfl rfl rfl ?_
      refine ev_iload_n (pc' := 63) rfl rfl rfl ?_
      obtain ⟨hg7, h⟩ := am_g_some h
      refine ev_iaload (pc' := 64) rfl rfl rfl hg7 ?_
      obtain rfl := Option.some.inj h
      exact ev_ireturn rfl rfl
    · refine ev_ic_f (pc' := 54) rfl (by decide) rfl (cb_le_f hc6) ?_
      refine ev_iconst (pc' := 55) (b := (-1 : Int32)) rfl rfl rfl ?_
      refine ev_goto (pc' := 64) rfl rfl ?_
      obtain rfl := Option.some.inj h
      exact ev_ireturn rfl rfl
  rcases am_if h with ⟨hc8, h⟩ | ⟨hc8, h⟩
  · refine ev_lsw (pc' := 65) (off := 64) rfl (by decide) (by rw [hc8]; decide +kernel) rfl ?_
    refine ev_aload (pc' := 67) rfl rfl rfl ?_
    refine ev_aload_n (pc' := 68) rfl rfl rfl ?_
    refine ev_getfield (pc' := 71) (w := .ref 15) rfl rfl rfl rfl ?_
    refine ev_iload_n (pc' := 72) rfl rfl rfl ?_
    obtain ⟨hg9, h⟩ := am_g_some h
    refine ev_iaload (pc' := 73) rfl rfl rfl hg9 ?_
    refine am_bd h (fun q10 hq10 h => ?_)
    refine ev_call (mi := 16) (as := [.ref 1, .int (σ 15 a2.toNatClampNeg)]) (rest := []) rfl rfl (Nat.le_of_ble_eq_true rfl) (fx_Land_sideOf_e (d := d) hq10) ?_
    show am_Ev _ _ _ _ 76 _ _ _ _ _
    obtain rfl := Option.some.inj h
    exact ev_ireturn rfl rfl
  rcases am_if h with ⟨hc11, h⟩ | ⟨hc11, h⟩
  · refine ev_lsw (pc' := 89) (off := 88) rfl (by decide) (by rw [hc11]; decide +kernel) rfl ?_
    refine ev_aload_n (pc' := 90) rfl rfl rfl ?_
    refine ev_iload_n (pc' := 91) rfl rfl rfl ?_
    refine am_bd h (fun q12 hq12 h => ?_)
    refine ev_call (mi := 47) (as := [.ref 13, .int a2]) (rest := []) rfl rfl (Nat.le_of_ble_eq_true rfl) (fx_People_sideOfMoreWork_e (d := d + 2) hq12) ?_
    show am_Ev _ _ _ _ 94 _ _ _ _ _
    obtain rfl := Option.some.inj h
    exact ev_ireturn rfl rfl
  have ho13 : Op.lookupswitch.offset [(98, 76), (99, 43), (104, 64), (119, 88)] 94 a1.toInt = 94 := by
    rw [lv_osw hc1 (by decide +kernel), lv_osw hc4 (by decide +kernel), lv_osw hc8 (by decide +kernel), lv_osw hc11 (by decide +kernel)]
    rfl
  refine ev_lsw (pc' := 95) (off := 94) rfl (by decide) ho13 rfl ?_
  refine ev_iconst (pc' := 96) (b := (-1 : Int32)) rfl rfl rfl ?_
  obtain rfl := Option.some.inj h
  exact ev_ireturn rfl rfl
/-! PartedLand$People.ownerBy (13, 31, 'I', 1): P -/
def fx_People_ownerBy_b3 (N : Nat) : Nat → Int32 → Int32 → am_S → Option Int32
  | 0, _, _, _ => none
  | n + 1, x2, x4, σ => (if (σ 31 3) ≤ x4 then some (-1 : Int32) else am_g (am_in x4 4) <| (fx_People_ownerOnGround N (σ 33 x4.toNatClampNeg) x2 (σ 31 4) σ).bind fun q3 => (if q3 = (-1 : Int32) then fx_People_ownerBy_b3 N n x2 (x4 + (1 : Int32)) σ else some q3))
set_option maxRecDepth 100000 in
theorem fx_People_ownerBy_b3_e {X : Nat} {xs : Nat → Int32} {d : Nat} {N : Nat} : ∀ {n : Nat} {x2 : Int32} {x4 : Int32} {w5 : Value} {σ : am_S} {o : Int32}, fx_People_ownerBy_b3 N n x2 x4 σ = some o → am_Ev am_sh (am_exx X xs) (d + 4) mm_45 3 [.ref 13, .ref 31, .int x2, .ref 1, .int x4, w5] [] σ (some (.int o)) σ := by
  intro n
  induction n with
  | zero => intro x2 x4 w5 σ o h; cases h
  | succ n ih =>
    intro x2 x4 w5 σ o h
    unfold fx_People_ownerBy_b3 at h
    refine ev_iload (pc' := 5) rfl rfl rfl ?_
    refine ev_aload_n (pc' := 6) rfl rfl rfl ?_
    refine ev_getfield (pc' := 9) (w := .int (σ 31 3)) rfl rfl rfl rfl ?_
    rcases am_if h with ⟨hc1, h⟩ | ⟨hc1, h⟩
    · refine ev_ic_t (pc' := 46) rfl rfl (cb_ge_t hc1) ?_
      refine ev_iconst (pc' := 47) (b := (-1 : Int32)) rfl rfl rfl ?_
      obtain rfl := Option.some.inj h
      exact ev_ireturn rfl rfl
    · refine ev_ic_f (pc' := 12) rfl (by decide) rfl (cb_ge_f hc1) ?_
      refine ev_aload_n (pc' := 13) rfl rfl rfl ?_
      refine ev_aload_n (pc' := 14) rfl rfl rfl ?_
      refine ev_getfield (pc' := 17) (w := .ref 33) rfl rfl rfl rfl ?_
      refine ev_iload (pc' := 19) rfl rfl rfl ?_
      obtain ⟨hg2, h⟩ := am_g_some h
      refine ev_iaload (pc' := 20) rfl rfl rfl hg2 ?_
      refine ev_iload_n (pc' := 21) rfl rfl rfl ?_
      refine ev_aload_n (pc' := 22) rfl rfl rfl ?_
      refine ev_getfield (pc' := 25) (w := .int (σ 31 4)) rfl rfl rfl rfl ?_
      refine ev_aload_n (pc' := 26) rfl rfl rfl ?_
      refine am_bd h (fun q3 hq3 h => ?_)
      refine ev_call (mi := 46) (as := [.ref 13, .int (σ 33 x4.toNatClampNeg), .int x2, .int (σ 31 4), .ref 1]) (rest := []) rfl rfl (Nat.le_of_ble_eq_true rfl) (fx_People_ownerOnGround_e (d := d) hq3) ?_
      show am_Ev _ _ _ _ 29 _ _ _ _ _
      refine ev_istore (pc' := 31) (L' := [.ref 13, .ref 31, .int x2, .ref 1, .int x4, .int q3]) rfl rfl rfl rfl ?_
      refine ev_iload (pc' := 33) rfl rfl rfl ?_
      refine ev_iconst (pc' := 34) (b := (-1 : Int32)) rfl rfl rfl ?_
      rcases am_if h with ⟨hc4, h⟩ | ⟨hc4, h⟩
      · refine ev_ic_t (pc' := 40) rfl rfl (cb_eq_t hc4) ?_
        refine ev_iinc (pc' := 43) (L' := [.ref 13, .ref 31, .int x2, .ref 1, .int (x4 + (1 : Int32)), .int q3]) (b := (1 : Int32)) rfl rfl rfl rfl rfl ?_
        refine ev_goto (pc' := 3) rfl rfl ?_
        exact ih h
      · refine ev_ic_f (pc' := 37) rfl (by decide) rfl (cb_eq_f hc4) ?_
        refine ev_iload (pc' := 39) rfl rfl rfl ?_
        obtain rfl := Option.some.inj h
        exact ev_ireturn rfl rfl
def fx_People_ownerBy (N : Nat) (a2 : Int32) (σ : am_S) : Option Int32 := fx_People_ownerBy_b3 N N a2 (0 : Int32) σ
set_option maxRecDepth 100000 in
theorem fx_People_ownerBy_e {X : Nat} {xs : Nat → Int32} {d : Nat} {N : Nat} {a2 : Int32} {σ : am_S} {o : Int32} (h : fx_People_ownerBy N a2 σ = some o) : am_Ev am_sh (am_exx X xs) (d + 4) mm_45 0 [.ref 13, .ref 31, .int a2, .ref 1, .null, .null] [] σ (some (.int o)) σ := by
  unfold fx_People_ownerBy at h
  refine ev_iconst (pc' := 1) (b := (0 : Int32)) rfl rfl rfl ?_
  refine ev_istore (pc' := 3) (L' := [.ref 13, .ref 31, .int a2, .ref 1, .int (0 : Int32), .null]) rfl rfl rfl rfl ?_
  exact fx_People_ownerBy_b3_e h
/-! PartedLand$Houses.heldBy (21, 'I'): T -/
def fx_Houses_heldBy (a1 : Int32) (σ : am_S) : Nat := (if a1 = 0 then 25 else 28)
set_option maxRecDepth 100000 in
theorem fx_Houses_heldBy_e {X : Nat} {xs : Nat → Int32} {d : Nat} {a1 : Int32} {σ : am_S} {o : Nat} (h : fx_Houses_heldBy a1 σ = o) : am_Ev am_sh (am_exx X xs) (d + 0) mm_12 0 [.ref 21, .int a1] [] σ (some (.ref o)) σ := by
  unfold fx_Houses_heldBy at h
  refine ev_iload_n (pc' := 1) rfl rfl rfl ?_
  rcases am_if h with ⟨hc1, h⟩ | ⟨hc1, h⟩
  · refine ev_if_f (pc' := 4) rfl (by decide) rfl (cb_ne_f hc1) ?_
    refine ev_aload_n (pc' := 5) rfl rfl rfl ?_
    refine ev_getfield (pc' := 8) (w := .ref 25) rfl rfl rfl rfl ?_
    refine ev_goto (pc' := 15) rfl rfl ?_
    subst h
    exact ev_areturn rfl rfl
  · refine ev_if_t (pc' := 11) rfl rfl (cb_ne_t hc1) ?_
    refine ev_aload_n (pc' := 12) rfl rfl rfl ?_
    refine ev_getfield (pc' := 15) (w := .ref 28) rfl rfl rfl rfl ?_
    subst h
    exact ev_areturn rfl rfl
/-! PartedLand$People.ownerBy (13, 25, 'I', 1): P -/
def fx_People_ownerBy_13_25_1_b3 (N : Nat) : Nat → Int32 → Int32 → am_S → Option Int32
  | 0, _, _, _ => none
  | n + 1, x2, x4, σ => (if (σ 25 3) ≤ x4 then some (-1 : Int32) else am_g (am_in x4 4) <| (fx_People_ownerOnGround N (σ 27 x4.toNatClampNeg) x2 (σ 25 4) σ).bind fun q3 => (if q3 = (-1 : Int32) then fx_People_ownerBy_13_25_1_b3 N n x2 (x4 + (1 : Int32)) σ else some q3))
set_option maxRecDepth 100000 in
theorem fx_People_ownerBy_13_25_1_b3_e {X : Nat} {xs : Nat → Int32} {d : Nat} {N : Nat} : ∀ {n : Nat} {x2 : Int32} {x4 : Int32} {w5 : Value} {σ : am_S} {o : Int32}, fx_People_ownerBy_13_25_1_b3 N n x2 x4 σ = some o → am_Ev am_sh (am_exx X xs) (d + 4) mm_45 3 [.ref 13, .ref 25, .int x2, .ref 1, .int x4, w5] [] σ (some (.int o)) σ := by
  intro n
  induction n with
  | zero => intro x2 x4 w5 σ o h; cases h
  | succ n ih =>
    intro x2 x4 w5 σ o h
    unfold fx_People_ownerBy_13_25_1_b3 at h
    refine ev_iload (pc' := 5) rfl rfl rfl ?_
    refine ev_aload_n (pc' := 6) rfl rfl rfl ?_
    refine ev_getfield (pc' := 9) (w := .int (σ 25 3)) rfl rfl rfl rfl ?_
    rcases am_if h with ⟨hc1, h⟩ | ⟨hc1, h⟩
    · refine ev_ic_t (pc' := 46) rfl rfl (cb_ge_t hc1) ?_
      refine ev_iconst (pc' := 47) (b := (-1 : Int32)) rfl rfl rfl ?_
      obtain rfl := Option.some.inj h
      exact ev_ireturn rfl rfl
    · refine ev_ic_f (pc' := 12) rfl (by decide) rfl (cb_ge_f hc1) ?_
      refine ev_aload_n (pc' := 13) rfl rfl rfl ?_
      refine ev_aload_n (pc' := 14) rfl rfl rfl ?_
      refine ev_getfield (pc' := 17) (w := .ref 27) rfl rfl rfl rfl ?_
      refine ev_iload (pc' := 19) rfl rfl rfl ?_
      obtain ⟨hg2, h⟩ := am_g_some h
      refine ev_iaload (pc' := 20) rfl rfl rfl hg2 ?_
      refine ev_iload_n (pc' := 21) rfl rfl rfl ?_
      refine ev_aload_n (pc' := 22) rfl rfl rfl ?_
      refine ev_getfield (pc' := 25) (w := .int (σ 25 4)) rfl rfl rfl rfl ?_
      refine ev_aload_n (pc' := 26) rfl rfl rfl ?_
      refine am_bd h (fun q3 hq3 h => ?_)
      refine ev_call (mi := 46) (as := [.ref 13, .int (σ 27 x4.toNatClampNeg), .int x2, .int (σ 25 4), .ref 1]) (rest := []) rfl rfl (Nat.le_of_ble_eq_true rfl) (fx_People_ownerOnGround_e (d := d) hq3) ?_
      show am_Ev _ _ _ _ 29 _ _ _ _ _
      refine ev_istore (pc' := 31) (L' := [.ref 13, .ref 25, .int x2, .ref 1, .int x4, .int q3]) rfl rfl rfl rfl ?_
      refine ev_iload (pc' := 33) rfl rfl rfl ?_
      refine ev_iconst (pc' := 34) (b := (-1 : Int32)) rfl rfl rfl ?_
      rcases am_if h with ⟨hc4, h⟩ | ⟨hc4, h⟩
      · refine ev_ic_t (pc' := 40) rfl rfl (cb_eq_t hc4) ?_
        refine ev_iinc (pc' := 43) (L' := [.ref 13, .ref 25, .int x2, .ref 1, .int (x4 + (1 : Int32)), .int q3]) (b := (1 : Int32)) rfl rfl rfl rfl rfl ?_
        refine ev_goto (pc' := 3) rfl rfl ?_
        exact ih h
      · refine ev_ic_f (pc' := 37) rfl (by decide) rfl (cb_eq_f hc4) ?_
        refine ev_iload (pc' := 39) rfl rfl rfl ?_
        obtain rfl := Option.some.inj h
        exact ev_ireturn rfl rfl
def fx_People_ownerBy_13_25_1 (N : Nat) (a2 : Int32) (σ : am_S) : Option Int32 := fx_People_ownerBy_13_25_1_b3 N N a2 (0 : Int32) σ
set_option maxRecDepth 100000 in
theorem fx_People_ownerBy_13_25_1_e {X : Nat} {xs : Nat → Int32} {d : Nat} {N : Nat} {a2 : Int32} {σ : am_S} {o : Int32} (h : fx_People_ownerBy_13_25_1 N a2 σ = some o) : am_Ev am_sh (am_exx X xs) (d + 4) mm_45 0 [.ref 13, .ref 25, .int a2, .ref 1, .null, .null] [] σ (some (.int o)) σ := by
  unfold fx_People_ownerBy_13_25_1 at h
  refine ev_iconst (pc' := 1) (b := (0 : Int32)) rfl rfl rfl ?_
  refine ev_istore (pc' := 3) (L' := [.ref 13, .ref 25, .int a2, .ref 1, .int (0 : Int32), .null]) rfl rfl rfl rfl ?_
  exact fx_People_ownerBy_13_25_1_b3_e h
/-! PartedLand$People.ownerBy (13, 28, 'I', 1): P -/
def fx_People_ownerBy_13_28_1_b3 (N : Nat) : Nat → Int32 → Int32 → am_S → Option Int32
  | 0, _, _, _ => none
  | n + 1, x2, x4, σ => (if (σ 28 3) ≤ x4 then some (-1 : Int32) else am_g (am_in x4 4) <| (fx_People_ownerOnGround N (σ 30 x4.toNatClampNeg) x2 (σ 28 4) σ).bind fun q3 => (if q3 = (-1 : Int32) then fx_People_ownerBy_13_28_1_b3 N n x2 (x4 + (1 : Int32)) σ else some q3))
set_option maxRecDepth 100000 in
theorem fx_People_ownerBy_13_28_1_b3_e {X : Nat} {xs : Nat → Int32} {d : Nat} {N : Nat} : ∀ {n : Nat} {x2 : Int32} {x4 : Int32} {w5 : Value} {σ : am_S} {o : Int32}, fx_People_ownerBy_13_28_1_b3 N n x2 x4 σ = some o → am_Ev am_sh (am_exx X xs) (d + 4) mm_45 3 [.ref 13, .ref 28, .int x2, .ref 1, .int x4, w5] [] σ (some (.int o)) σ := by
  intro n
  induction n with
  | zero => intro x2 x4 w5 σ o h; cases h
  | succ n ih =>
    intro x2 x4 w5 σ o h
    unfold fx_People_ownerBy_13_28_1_b3 at h
    refine ev_iload (pc' := 5) rfl rfl rfl ?_
    refine ev_aload_n (pc' := 6) rfl rfl rfl ?_
    refine ev_getfield (pc' := 9) (w := .int (σ 28 3)) rfl rfl rfl rfl ?_
    rcases am_if h with ⟨hc1, h⟩ | ⟨hc1, h⟩
    · refine ev_ic_t (pc' := 46) rfl rfl (cb_ge_t hc1) ?_
      refine ev_iconst (pc' := 47) (b := (-1 : Int32)) rfl rfl rfl ?_
      obtain rfl := Option.some.inj h
      exact ev_ireturn rfl rfl
    · refine ev_ic_f (pc' := 12) rfl (by decide) rfl (cb_ge_f hc1) ?_
      refine ev_aload_n (pc' := 13) rfl rfl rfl ?_
      refine ev_aload_n (pc' := 14) rfl rfl rfl ?_
      refine ev_getfield (pc' := 17) (w := .ref 30) rfl rfl rfl rfl ?_
      refine ev_iload (pc' := 19) rfl rfl rfl ?_
      obtain ⟨hg2, h⟩ := am_g_some h
      refine ev_iaload (pc' := 20) rfl rfl rfl hg2 ?_
      refine ev_iload_n (pc' := 21) rfl rfl rfl ?_
      refine ev_aload_n (pc' := 22) rfl rfl rfl ?_
      refine ev_getfield (pc' := 25) (w := .int (σ 28 4)) rfl rfl rfl rfl ?_
      refine ev_aload_n (pc' := 26) rfl rfl rfl ?_
      refine am_bd h (fun q3 hq3 h => ?_)
      refine ev_call (mi := 46) (as := [.ref 13, .int (σ 30 x4.toNatClampNeg), .int x2, .int (σ 28 4), .ref 1]) (rest := []) rfl rfl (Nat.le_of_ble_eq_true rfl) (fx_People_ownerOnGround_e (d := d) hq3) ?_
      show am_Ev _ _ _ _ 29 _ _ _ _ _
      refine ev_istore (pc' := 31) (L' := [.ref 13, .ref 28, .int x2, .ref 1, .int x4, .int q3]) rfl rfl rfl rfl ?_
      refine ev_iload (pc' := 33) rfl rfl rfl ?_
      refine ev_iconst (pc' := 34) (b := (-1 : Int32)) rfl rfl rfl ?_
      rcases am_if h with ⟨hc4, h⟩ | ⟨hc4, h⟩
      · refine ev_ic_t (pc' := 40) rfl rfl (cb_eq_t hc4) ?_
        refine ev_iinc (pc' := 43) (L' := [.ref 13, .ref 28, .int x2, .ref 1, .int (x4 + (1 : Int32)), .int q3]) (b := (1 : Int32)) rfl rfl rfl rfl rfl ?_
        refine ev_goto (pc' := 3) rfl rfl ?_
        exact ih h
      · refine ev_ic_f (pc' := 37) rfl (by decide) rfl (cb_eq_f hc4) ?_
        refine ev_iload (pc' := 39) rfl rfl rfl ?_
        obtain rfl := Option.some.inj h
        exact ev_ireturn rfl rfl
def fx_People_ownerBy_13_28_1 (N : Nat) (a2 : Int32) (σ : am_S) : Option Int32 := fx_People_ownerBy_13_28_1_b3 N N a2 (0 : Int32) σ
set_option maxRecDepth 100000 in
theorem fx_People_ownerBy_13_28_1_e {X : Nat} {xs : Nat → Int32} {d : Nat} {N : Nat} {a2 : Int32} {σ : am_S} {o : Int32} (h : fx_People_ownerBy_13_28_1 N a2 σ = some o) : am_Ev am_sh (am_exx X xs) (d + 4) mm_45 0 [.ref 13, .ref 28, .int a2, .ref 1, .null, .null] [] σ (some (.int o)) σ := by
  unfold fx_People_ownerBy_13_28_1 at h
  refine ev_iconst (pc' := 1) (b := (0 : Int32)) rfl rfl rfl ?_
  refine ev_istore (pc' := 3) (L' := [.ref 13, .ref 28, .int a2, .ref 1, .int (0 : Int32), .null]) rfl rfl rfl rfl ?_
  exact fx_People_ownerBy_13_28_1_b3_e h
/-! PartedLand.whose (0, 'I', 'I'): S -/
def fx_whose_b20 (N : Nat) (σ : am_S) : Option (Int32 × am_S) := (fx_finding (-1000000001 : Int32) σ).bind fun q1 => some (q1.1, q1.2)
set_option maxRecDepth 100000 in
theorem fx_whose_b20_e {X : Nat} {xs : Nat → Int32} {d : Nat} {N : Nat} {w1 : Value} {w2 : Value} {w3 : Value} {w4 : Value} {σ : am_S} {o : Int32 × am_S} (h : fx_whose_b20 N σ = some o) : am_Ev am_sh (am_exx X xs) (d + 5) mm_96 20 [.ref 0, w1, w2, w3, w4] [] σ (some (.int o.1)) o.2 := by
  unfold fx_whose_b20 at h
  refine ev_aload_n (pc' := 21) rfl rfl rfl ?_
  refine ev_ldc (pc' := 23) (b := (-1000000001 : Int32)) rfl rfl rfl ?_
  refine am_bd h (fun q1 hq1 h => ?_)
  refine ev_call (mi := 129) (as := [.ref 0, .int (-1000000001 : Int32)]) (rest := []) rfl rfl (Nat.le_of_ble_eq_true rfl) (fx_finding_e (d := d + 4) hq1) ?_
  show am_Ev _ _ _ _ 26 _ _ _ _ _
  obtain rfl := Option.some.inj h
  exact ev_ireturn rfl rfl
def fx_whose_b73 (N : Nat) (x1 : Int32) (r0 : Nat) (σ : am_S) : Option (Int32 × am_S) := (if r0 = 25 then (fx_People_ownerBy_13_25_1 N x1 σ).bind fun q2 => (if 0 ≤ q2 then some (q2, σ) else (fx_finding (-1000000002 : Int32) σ).bind fun q4 => some (q4.1, q4.2)) else (if r0 = 28 then (fx_People_ownerBy_13_28_1 N x1 σ).bind fun q6 => (if 0 ≤ q6 then some (q6, σ) else (fx_finding (-1000000002 : Int32) σ).bind fun q8 => some (q8.1, q8.2)) else (if r0 = 31 then (fx_People_ownerBy N x1 σ).bind fun q10 => (if 0 ≤ q10 then some (q10, σ) else (fx_finding (-1000000002 : Int32) σ).bind fun q12 => some (q12.1, q12.2)) else none)))
set_option maxRecDepth 100000 in
theorem fx_whose_b73_e {X : Nat} {xs : Nat → Int32} {d : Nat} {N : Nat} {x1 : Int32} {r0 : Nat} {w2 : Value} {w3 : Value} {w4 : Value} {σ : am_S} {o : Int32 × am_S} (h : fx_whose_b73 N x1 r0 σ = some o) : am_Ev am_sh (am_exx X xs) (d + 5) mm_96 73 [.ref 0, .int x1, w2, w3, w4] [.ref r0] σ (some (.int o.1)) o.2 := by
  unfold fx_whose_b73 at h
  refine ev_astore_n (pc' := 74) (L' := [.ref 0, .int x1, w2, .ref r0, w4]) rfl rfl rfl rfl ?_
  refine ev_aload_n (pc' := 75) rfl rfl rfl ?_
  refine ev_getfield (pc' := 78) (w := .ref 13) rfl rfl rfl rfl ?_
  refine ev_aload_n (pc' := 79) rfl rfl rfl ?_
  refine ev_iload_n (pc' := 80) rfl rfl rfl ?_
  refine ev_aload_n (pc' := 81) rfl rfl rfl ?_
  refine ev_getfield (pc' := 84) (w := .ref 1) rfl rfl rfl rfl ?_
  rcases am_if h with ⟨hc1, h⟩ | ⟨hc1, h⟩
  · rw [hc1]
    refine am_bd h (fun q2 hq2 h => ?_)
    refine ev_call (mi := 45) (as := [.ref 13, .ref 25, .int x1, .ref 1]) (rest := []) rfl rfl (Nat.le_of_ble_eq_true rfl) (fx_People_ownerBy_13_25_1_e (d := d) hq2) ?_
    show am_Ev _ _ _ _ 87 _ _ _ _ _
    refine ev_istore (pc' := 89) (L' := [.ref 0, .int x1, w2, .ref 25, .int q2]) rfl rfl rfl rfl ?_
    refine ev_iload (pc' := 91) rfl rfl rfl ?_
    rcases am_if h with ⟨hc3, h⟩ | ⟨hc3, h⟩
    · refine ev_if_t (pc' := 103) rfl rfl (cb_ge_t hc3) ?_
      refine ev_iload (pc' := 105) rfl rfl rfl ?_
      obtain rfl := Option.some.inj h
      exact ev_ireturn rfl rfl
    · refine ev_if_f (pc' := 94) rfl (by decide) rfl (cb_ge_f hc3) ?_
      refine ev_aload_n (pc' := 95) rfl rfl rfl ?_
      refine ev_ldc (pc' := 97) (b := (-1000000002 : Int32)) rfl rfl rfl ?_
      refine am_bd h (fun q4 hq4 h => ?_)
      refine ev_call (mi := 129) (as := [.ref 0, .int (-1000000002 : Int32)]) (rest := []) rfl rfl (Nat.le_of_ble_eq_true rfl) (fx_finding_e (d := d + 4) hq4) ?_
      show am_Ev _ _ _ _ 100 _ _ _ _ _
      refine ev_goto (pc' := 105) rfl rfl ?_
      obtain rfl := Option.some.inj h
      exact ev_ireturn rfl rfl
  rcases am_if h with ⟨hc5, h⟩ | ⟨hc5, h⟩
  · rw [hc5]
    refine am_bd h (fun q6 hq6 h => ?_)
    refine ev_call (mi := 45) (as := [.ref 13, .ref 28, .int x1, .ref 1]) (rest := []) rfl rfl (Nat.le_of_ble_eq_true rfl) (fx_People_ownerBy_13_28_1_e (d := d) hq6) ?_
    show am_Ev _ _ _ _ 87 _ _ _ _ _
    refine ev_istore (pc' := 89) (L' := [.ref 0, .int x1, w2, .ref 28, .int q6]) rfl rfl rfl rfl ?_
    refine ev_iload (pc' := 91) rfl rfl rfl ?_
    rcases am_if h with ⟨hc7, h⟩ | ⟨hc7, h⟩
    · refine ev_if_t (pc' := 103) rfl rfl (cb_ge_t hc7) ?_
      refine ev_iload (pc' := 105) rfl rfl rfl ?_
      obtain rfl := Option.some.inj h
      exact ev_ireturn rfl rfl
    · refine ev_if_f (pc' := 94) rfl (by decide) rfl (cb_ge_f hc7) ?_
      refine ev_aload_n (pc' := 95) rfl rfl rfl ?_
      refine ev_ldc (pc' := 97) (b := (-1000000002 : Int32)) rfl rfl rfl ?_
      refine am_bd h (fun q8 hq8 h => ?_)
      refine ev_call (mi := 129) (as := [.ref 0, .int (-1000000002 : Int32)]) (rest := []) rfl rfl (Nat.le_of_ble_eq_true rfl) (fx_finding_e (d := d + 4) hq8) ?_
      show am_Ev _ _ _ _ 100 _ _ _ _ _
      refine ev_goto (pc' := 105) rfl rfl ?_
      obtain rfl := Option.some.inj h
      exact ev_ireturn rfl rfl
  rcases am_if h with ⟨hc9, h⟩ | ⟨hc9, h⟩
  · rw [hc9]
    refine am_bd h (fun q10 hq10 h => ?_)
    refine ev_call (mi := 45) (as := [.ref 13, .ref 31, .int x1, .ref 1]) (rest := []) rfl rfl (Nat.le_of_ble_eq_true rfl) (fx_People_ownerBy_e (d := d) hq10) ?_
    show am_Ev _ _ _ _ 87 _ _ _ _ _
    refine ev_istore (pc' := 89) (L' := [.ref 0, .int x1, w2, .ref 31, .int q10]) rfl rfl rfl rfl ?_
    refine ev_iload (pc' := 91) rfl rfl rfl ?_
    rcases am_if h with ⟨hc11, h⟩ | ⟨hc11, h⟩
    · refine ev_if_t (pc' := 103) rfl rfl (cb_ge_t hc11) ?_
      refine ev_iload (pc' := 105) rfl rfl rfl ?_
      obtain rfl := Option.some.inj h
      exact ev_ireturn rfl rfl
    · refine ev_if_f (pc' := 94) rfl (by decide) rfl (cb_ge_f hc11) ?_
      refine ev_aload_n (pc' := 95) rfl rfl rfl ?_
      refine ev_ldc (pc' := 97) (b := (-1000000002 : Int32)) rfl rfl rfl ?_
      refine am_bd h (fun q12 hq12 h => ?_)
      refine ev_call (mi := 129) (as := [.ref 0, .int (-1000000002 : Int32)]) (rest := []) rfl rfl (Nat.le_of_ble_eq_true rfl) (fx_finding_e (d := d + 4) hq12) ?_
      show am_Ev _ _ _ _ 100 _ _ _ _ _
      refine ev_goto (pc' := 105) rfl rfl ?_
      obtain rfl := Option.some.inj h
      exact ev_ireturn rfl rfl
  cases h
def fx_whose_b50 (N : Nat) (x1 : Int32) (x2 : Int32) (σ : am_S) : Option (Int32 × am_S) := (if x2 = (2 : Int32) then fx_whose_b73 N x1 31 σ else fx_whose_b73 N x1 (fx_Houses_heldBy x2 σ) σ)
set_option maxRecDepth 100000 in
theorem fx_whose_b50_e {X : Nat} {xs : Nat → Int32} {d : Nat} {N : Nat} {x1 : Int32} {x2 : Int32} {w3 : Value} {w4 : Value} {σ : am_S} {o : Int32 × am_S} (h : fx_whose_b50 N x1 x2 σ = some o) : am_Ev am_sh (am_exx X xs) (d + 5) mm_96 50 [.ref 0, .int x1, .int x2, w3, w4] [] σ (some (.int o.1)) o.2 := by
  unfold fx_whose_b50 at h
  refine ev_iload_n (pc' := 51) rfl rfl rfl ?_
  refine ev_iconst (pc' := 52) (b := (2 : Int32)) rfl rfl rfl ?_
  rcases am_if h with ⟨hc1, h⟩ | ⟨hc1, h⟩
  · refine ev_ic_f (pc' := 55) rfl (by decide) rfl (cb_ne_f hc1) ?_
    refine ev_aload_n (pc' := 56) rfl rfl rfl ?_
    refine ev_getfield (pc' := 59) (w := .ref 21) rfl rfl rfl rfl ?_
    refine ev_getfield (pc' := 62) (w := .ref 31) rfl rfl rfl rfl ?_
    refine ev_goto (pc' := 73) rfl rfl ?_
    exact fx_whose_b73_e h
  · refine ev_ic_t (pc' := 65) rfl rfl (cb_ne_t hc1) ?_
    refine ev_aload_n (pc' := 66) rfl rfl rfl ?_
    refine ev_getfield (pc' := 69) (w := .ref 21) rfl rfl rfl rfl ?_
    refine ev_iload_n (pc' := 70) rfl rfl rfl ?_
    refine ev_call (mi := 12) (as := [.ref 21, .int x2]) (rest := []) rfl rfl (Nat.le_of_ble_eq_true rfl) (fx_Houses_heldBy_e (d := d + 4) rfl) ?_
    show am_Ev _ _ _ _ 73 _ _ _ _ _
    exact fx_whose_b73_e h
def fx_whose (N : Nat) (a1 : Int32) (a2 : Int32) (σ : am_S) : Option (Int32 × am_S) := (if (fx_People_hasPerson a1 σ) = 0 then fx_whose_b20 N σ else (if a2 < 0 then fx_whose_b20 N σ else (if a2 ≤ (2 : Int32) then (if a2 = (2 : Int32) then fx_whose_b50 N a1 a2 σ else (fx_Houses_hasProposed a2 σ).bind fun q5 => (if q5 = 0 then (fx_finding (-1000000003 : Int32) σ).bind fun q7 => some (q7.1, q7.2) else fx_whose_b50 N a1 a2 σ)) else fx_whose_b20 N σ)))
set_option maxRecDepth 100000 in
theorem fx_whose_e {X : Nat} {xs : Nat → Int32} {d : Nat} {N : Nat} {a1 : Int32} {a2 : Int32} {σ : am_S} {o : Int32 × am_S} (h : fx_whose N a1 a2 σ = some o) : am_Ev am_sh (am_exx X xs) (d + 5) mm_96 0 [.ref 0, .int a1, .int a2, .null, .null] [] σ (some (.int o.1)) o.2 := by
  unfold fx_whose at h
  refine ev_aload_n (pc' := 1) rfl rfl rfl ?_
  refine ev_getfield (pc' := 4) (w := .ref 13) rfl rfl rfl rfl ?_
  refine ev_iload_n (pc' := 5) rfl rfl rfl ?_
  refine ev_call (mi := 43) (as := [.ref 13, .int a1]) (rest := []) rfl rfl (Nat.le_of_ble_eq_true rfl) (fx_People_hasPerson_e (d := d + 4) rfl) ?_
  show am_Ev _ _ _ _ 8 _ _ _ _ _
  rcases am_if h with ⟨hc1, h⟩ | ⟨hc1, h⟩
  · refine ev_if_t (pc' := 20) rfl rfl (cb_eq_t hc1) ?_
    exact fx_whose_b20_e h
  · refine ev_if_f (pc' := 11) rfl (by decide) rfl (cb_eq_f hc1) ?_
    refine ev_iload_n (pc' := 12) rfl rfl rfl ?_
    rcases am_if h with ⟨hc2, h⟩ | ⟨hc2, h⟩
    · refine ev_if_t (pc' := 20) rfl rfl (cb_lt_t hc2) ?_
      exact fx_whose_b20_e h
    · refine ev_if_f (pc' := 15) rfl (by decide) rfl (cb_lt_f hc2) ?_
      refine ev_iload_n (pc' := 16) rfl rfl rfl ?_
      refine ev_iconst (pc' := 17) (b := (2 : Int32)) rfl rfl rfl ?_
      rcases am_if h with ⟨hc3, h⟩ | ⟨hc3, h⟩
      · refine ev_ic_t (pc' := 27) rfl rfl (cb_le_t hc3) ?_
        refine ev_iload_n (pc' := 28) rfl rfl rfl ?_
        refine ev_iconst (pc' := 29) (b := (2 : Int32)) rfl rfl rfl ?_
        rcases am_if h with ⟨hc4, h⟩ | ⟨hc4, h⟩
        · refine ev_ic_t (pc' := 50) rfl rfl (cb_eq_t hc4) ?_
          exact fx_whose_b50_e h
        · refine ev_ic_f (pc' := 32) rfl (by decide) rfl (cb_eq_f hc4) ?_
          refine ev_aload_n (pc' := 33) rfl rfl rfl ?_
          refine ev_getfield (pc' := 36) (w := .ref 21) rfl rfl rfl rfl ?_
          refine ev_iload_n (pc' := 37) rfl rfl rfl ?_
          refine am_bd h (fun q5 hq5 h => ?_)
          refine ev_call (mi := 13) (as := [.ref 21, .int a2]) (rest := []) rfl rfl (Nat.le_of_ble_eq_true rfl) (fx_Houses_hasProposed_e (d := d + 4) hq5) ?_
          show am_Ev _ _ _ _ 40 _ _ _ _ _
          rcases am_if h with ⟨hc6, h⟩ | ⟨hc6, h⟩
          · refine ev_if_f (pc' := 43) rfl (by decide) rfl (cb_ne_f hc6) ?_
            refine ev_aload_n (pc' := 44) rfl rfl rfl ?_
            refine ev_ldc (pc' := 46) (b := (-1000000003 : Int32)) rfl rfl rfl ?_
            refine am_bd h (fun q7 hq7 h => ?_)
            refine ev_call (mi := 129) (as := [.ref 0, .int (-1000000003 : Int32)]) (rest := []) rfl rfl (Nat.le_of_ble_eq_true rfl) (fx_finding_e (d := d + 4) hq7) ?_
            show am_Ev _ _ _ _ 49 _ _ _ _ _
            obtain rfl := Option.some.inj h
            exact ev_ireturn rfl rfl
          · refine ev_if_t (pc' := 50) rfl rfl (cb_ne_t hc6) ?_
            exact fx_whose_b50_e h
      · refine ev_ic_f (pc' := 20) rfl (by decide) rfl (cb_le_f hc3) ?_
        exact fx_whose_b20_e h
/-! PartedLand.isZeroOrOne ('I',): T -/
def fx_isZeroOrOne_b9 (σ : am_S) : Int32 := (1 : Int32)
set_option maxRecDepth 100000 in
theorem fx_isZeroOrOne_b9_e {X : Nat} {xs : Nat → Int32} {d : Nat} {w0 : Value} {σ : am_S} {o : Int32} (h : fx_isZeroOrOne_b9 σ = o) : am_Ev am_sh (am_exx X xs) (d + 0) mm_130 9 [w0] [] σ (some (.int o)) σ := by
  unfold fx_isZeroOrOne_b9 at h
  refine ev_iconst (pc' := 10) (b := (1 : Int32)) rfl rfl rfl ?_
  refine ev_goto (pc' := 14) rfl rfl ?_
  subst h
  exact ev_zreturn rfl rfl rfl
def fx_isZeroOrOne (a0 : Int32) (σ : am_S) : Int32 := (if a0 = 0 then fx_isZeroOrOne_b9 σ else (if a0 = (1 : Int32) then fx_isZeroOrOne_b9 σ else (0 : Int32)))
set_option maxRecDepth 100000 in
theorem fx_isZeroOrOne_e {X : Nat} {xs : Nat → Int32} {d : Nat} {a0 : Int32} {σ : am_S} {o : Int32} (h : fx_isZeroOrOne a0 σ = o) : am_Ev am_sh (am_exx X xs) (d + 0) mm_130 0 [.int a0] [] σ (some (.int o)) σ := by
  unfold fx_isZeroOrOne at h
  refine ev_iload_n (pc' := 1) rfl rfl rfl ?_
  rcases am_if h with ⟨hc1, h⟩ | ⟨hc1, h⟩
  · refine ev_if_t (pc' := 9) rfl rfl (cb_eq_t hc1) ?_
    exact fx_isZeroOrOne_b9_e h
  · refine ev_if_f (pc' := 4) rfl (by decide) rfl (cb_eq_f hc1) ?_
    refine ev_iload_n (pc' := 5) rfl rfl rfl ?_
    refine ev_iconst (pc' := 6) (b := (1 : Int32)) rfl rfl rfl ?_
    rcases am_if h with ⟨hc2, h⟩ | ⟨hc2, h⟩
    · refine ev_ic_f (pc' := 9) rfl (by decide) rfl (cb_ne_f hc2) ?_
      exact fx_isZeroOrOne_b9_e h
    · refine ev_ic_t (pc' := 13) rfl rfl (cb_ne_t hc2) ?_
      refine ev_iconst (pc' := 14) (b := (0 : Int32)) rfl rfl rfl ?_
      subst h
      exact ev_zreturn rfl rfl rfl
/-! PartedLand$People.firstPartOfPension (13, 'I', 'I'): P -/
def fx_People_firstPartOfPension (a1 : Int32) (a2 : Int32) (σ : am_S) : Option Int32 := am_g (am_in a1 16) <| am_g (am_in a1 16) <| (if 0 < ((σ 16 a1.toNatClampNeg) + (σ 17 a1.toNatClampNeg)) then am_g (am_in a1 16) <| (if ((σ 16 a1.toNatClampNeg) + (σ 17 a1.toNatClampNeg)) = 0 then none else some ((a2 * (σ 16 a1.toNatClampNeg)) / ((σ 16 a1.toNatClampNeg) + (σ 17 a1.toNatClampNeg)))) else some (a2 / (2 : Int32)))
set_option maxRecDepth 100000 in
theorem fx_People_firstPartOfPension_e {X : Nat} {xs : Nat → Int32} {d : Nat} {a1 : Int32} {a2 : Int32} {σ : am_S} {o : Int32} (h : fx_People_firstPartOfPension a1 a2 σ = some o) : am_Ev am_sh (am_exx X xs) (d + 0) mm_49 0 [.ref 13, .int a1, .int a2, .null] [] σ (some (.int o)) σ := by
  unfold fx_People_firstPartOfPension at h
  refine ev_aload_n (pc' := 1) rfl rfl rfl ?_
  refine ev_getfield (pc' := 4) (w := .ref 16) rfl rfl rfl rfl ?_
  refine ev_iload_n (pc' := 5) rfl rfl rfl ?_
  obtain ⟨hg1, h⟩ := am_g_some h
  refine ev_iaload (pc' := 6) rfl rfl rfl hg1 ?_
  refine ev_aload_n (pc' := 7) rfl rfl rfl ?_
  refine ev_getfield (pc' := 10) (w := .ref 17) rfl rfl rfl rfl ?_
  refine ev_iload_n (pc' := 11) rfl rfl rfl ?_
  obtain ⟨hg2, h⟩ := am_g_some h
  refine ev_iaload (pc' := 12) rfl rfl rfl hg2 ?_
  refine ev_iadd (pc' := 13) rfl rfl ?_
  refine ev_istore_n (pc' := 14) (L' := [.ref 13, .int a1, .int a2, .int ((σ 16 a1.toNatClampNeg) + (σ 17 a1.toNatClampNeg))]) rfl rfl rfl rfl ?_
  refine ev_iload_n (pc' := 15) rfl rfl rfl ?_
  rcases am_if h with ⟨hc3, h⟩ | ⟨hc3, h⟩
  · refine ev_if_t (pc' := 24) rfl rfl (cb_gt_t hc3) ?_
    refine ev_iload_n (pc' := 25) rfl rfl rfl ?_
    refine ev_aload_n (pc' := 26) rfl rfl rfl ?_
    refine ev_getfield (pc' := 29) (w := .ref 16) rfl rfl rfl rfl ?_
    refine ev_iload_n (pc' := 30) rfl rfl rfl ?_
    obtain ⟨hg4, h⟩ := am_g_some h
    refine ev_iaload (pc' := 31) rfl rfl rfl hg4 ?_
    refine ev_imul (pc' := 32) rfl rfl ?_
    refine ev_iload_n (pc' := 33) rfl rfl rfl ?_
    rcases am_if h with ⟨hc5, h⟩ | ⟨hc5, h⟩
    · cases h
    refine ev_idiv (pc' := 34) rfl rfl hc5 ?_
    obtain rfl := Option.some.inj h
    exact ev_ireturn rfl rfl
  · refine ev_if_f (pc' := 18) rfl (by decide) rfl (cb_gt_f hc3) ?_
    refine ev_iload_n (pc' := 19) rfl rfl rfl ?_
    refine ev_iconst (pc' := 20) (b := (2 : Int32)) rfl rfl rfl ?_
    refine ev_idiv (pc' := 21) rfl rfl (by decide) ?_
    refine ev_goto (pc' := 34) rfl rfl ?_
    obtain rfl := Option.some.inj h
    exact ev_ireturn rfl rfl
/-! PartedLand.pension (0, 'I', 'I', 'I'): S -/
def fx_pension_b28 (σ : am_S) : Option (Int32 × am_S) := (fx_finding (-1000000001 : Int32) σ).bind fun q1 => some (q1.1, q1.2)
set_option maxRecDepth 100000 in
theorem fx_pension_b28_e {X : Nat} {xs : Nat → Int32} {d : Nat} {w1 : Value} {w2 : Value} {w3 : Value} {w4 : Value} {σ : am_S} {o : Int32 × am_S} (h : fx_pension_b28 σ = some o) : am_Ev am_sh (am_exx X xs) (d + 1) mm_97 28 [.ref 0, w1, w2, w3, w4] [] σ (some (.int o.1)) o.2 := by
  unfold fx_pension_b28 at h
  refine ev_aload_n (pc' := 29) rfl rfl rfl ?_
  refine ev_ldc (pc' := 31) (b := (-1000000001 : Int32)) rfl rfl rfl ?_
  refine am_bd h (fun q1 hq1 h => ?_)
  refine ev_call (mi := 129) (as := [.ref 0, .int (-1000000001 : Int32)]) (rest := []) rfl rfl (Nat.le_of_ble_eq_true rfl) (fx_finding_e (d := d) hq1) ?_
  show am_Ev _ _ _ _ 34 _ _ _ _ _
  obtain rfl := Option.some.inj h
  exact ev_ireturn rfl rfl
def fx_pension (a1 : Int32) (a2 : Int32) (a3 : Int32) (σ : am_S) : Option (Int32 × am_S) := (if (fx_People_hasPerson a1 σ) = 0 then fx_pension_b28 σ else (if a2 < 0 then fx_pension_b28 σ else (if (100000 : Int32) < a2 then fx_pension_b28 σ else (if (fx_isZeroOrOne a3 σ) = 0 then fx_pension_b28 σ else (fx_People_firstPartOfPension a1 a2 σ).bind fun q5 => (if a3 = 0 then some (q5, σ) else some ((a2 - q5), σ))))))
set_option maxRecDepth 100000 in
theorem fx_pension_e {X : Nat} {xs : Nat → Int32} {d : Nat} {a1 : Int32} {a2 : Int32} {a3 : Int32} {σ : am_S} {o : Int32 × am_S} (h : fx_pension a1 a2 a3 σ = some o) : am_Ev am_sh (am_exx X xs) (d + 1) mm_97 0 [.ref 0, .int a1, .int a2, .int a3, .null] [] σ (some (.int o.1)) o.2 := by
  unfold fx_pension at h
  refine ev_aload_n (pc' := 1) rfl rfl rfl ?_
  refine ev_getfield (pc' := 4) (w := .ref 13) rfl rfl rfl rfl ?_
  refine ev_iload_n (pc' := 5) rfl rfl rfl ?_
  refine ev_call (mi := 43) (as := [.ref 13, .int a1]) (rest := []) rfl rfl (Nat.le_of_ble_eq_true rfl) (fx_People_hasPerson_e (d := d) rfl) ?_
  show am_Ev _ _ _ _ 8 _ _ _ _ _
  rcases am_if h with ⟨hc1, h⟩ | ⟨hc1, h⟩
  · refine ev_if_t (pc' := 28) rfl rfl (cb_eq_t hc1) ?_
    exact fx_pension_b28_e h
  · refine ev_if_f (pc' := 11) rfl (by decide) rfl (cb_eq_f hc1) ?_
    refine ev_iload_n (pc' := 12) rfl rfl rfl ?_
    rcases am_if h with ⟨hc2, h⟩ | ⟨hc2, h⟩
    · refine ev_if_t (pc' := 28) rfl rfl (cb_lt_t hc2) ?_
      exact fx_pension_b28_e h
    · refine ev_if_f (pc' := 15) rfl (by decide) rfl (cb_lt_f hc2) ?_
      refine ev_iload_n (pc' := 16) rfl rfl rfl ?_
      refine ev_ldc (pc' := 18) (b := (100000 : Int32)) rfl rfl rfl ?_
      rcases am_if h with ⟨hc3, h⟩ | ⟨hc3, h⟩
      · refine ev_ic_t (pc' := 28) rfl rfl (cb_gt_t hc3) ?_
        exact fx_pension_b28_e h
      · refine ev_ic_f (pc' := 21) rfl (by decide) rfl (cb_gt_f hc3) ?_
        refine ev_iload_n (pc' := 22) rfl rfl rfl ?_
        refine ev_call (mi := 130) (as := [.int a3]) (rest := []) rfl rfl (Nat.le_of_ble_eq_true rfl) (fx_isZeroOrOne_e (d := d) rfl) ?_
        show am_Ev _ _ _ _ 25 _ _ _ _ _
        rcases am_if h with ⟨hc4, h⟩ | ⟨hc4, h⟩
        · refine ev_if_f (pc' := 28) rfl (by decide) rfl (cb_ne_f hc4) ?_
          exact fx_pension_b28_e h
        · refine ev_if_t (pc' := 35) rfl rfl (cb_ne_t hc4) ?_
          refine ev_aload_n (pc' := 36) rfl rfl rfl ?_
          refine ev_getfield (pc' := 39) (w := .ref 13) rfl rfl rfl rfl ?_
          refine ev_iload_n (pc' := 40) rfl rfl rfl ?_
          refine ev_iload_n (pc' := 41) rfl rfl rfl ?_
          refine am_bd h (fun q5 hq5 h => ?_)
          refine ev_call (mi := 49) (as := [.ref 13, .int a1, .int a2]) (rest := []) rfl rfl (Nat.le_of_ble_eq_true rfl) (fx_People_firstPartOfPension_e (d := d) hq5) ?_
          show am_Ev _ _ _ _ 44 _ _ _ _ _
          refine ev_istore (pc' := 46) (L' := [.ref 0, .int a1, .int a2, .int a3, .int q5]) rfl rfl rfl rfl ?_
          refine ev_iload_n (pc' := 47) rfl rfl rfl ?_
          rcases am_if h with ⟨hc6, h⟩ | ⟨hc6, h⟩
          · refine ev_if_f (pc' := 50) rfl (by decide) rfl (cb_ne_f hc6) ?_
            refine ev_iload (pc' := 52) rfl rfl rfl ?_
            refine ev_goto (pc' := 59) rfl rfl ?_
            obtain rfl := Option.some.inj h
            exact ev_ireturn rfl rfl
          · refine ev_if_t (pc' := 55) rfl rfl (cb_ne_t hc6) ?_
            refine ev_iload_n (pc' := 56) rfl rfl rfl ?_
            refine ev_iload (pc' := 58) rfl rfl rfl ?_
            refine ev_isub (pc' := 59) rfl rfl ?_
            obtain rfl := Option.some.inj h
            exact ev_ireturn rfl rfl
/-! PartedLand$Text.append (22, 'I'): S -/
def fx_Text_append (a1 : Int32) (σ : am_S) : Option am_S := (if (50 : Int32) ≤ (σ 22 2) then some σ else am_g (am_in (σ 22 2) 50) <| some (am_up (am_up σ 23 (σ 22 2).toNatClampNeg a1) 22 2 ((σ 22 2) + (1 : Int32))))
set_option maxRecDepth 100000 in
theorem fx_Text_append_e {X : Nat} {xs : Nat → Int32} {d : Nat} {a1 : Int32} {σ : am_S} {o : am_S} (h : fx_Text_append a1 σ = some o) : am_Ev am_sh (am_exx X xs) (d + 0) mm_74 0 [.ref 22, .int a1] [] σ (none) o := by
  unfold fx_Text_append at h
  refine ev_aload_n (pc' := 1) rfl rfl rfl ?_
  refine ev_getfield (pc' := 4) (w := .int (σ 22 2)) rfl rfl rfl rfl ?_
  refine ev_bipush (pc' := 6) (b := (50 : Int32)) rfl rfl rfl ?_
  rcases am_if h with ⟨hc1, h⟩ | ⟨hc1, h⟩
  · refine ev_ic_t (pc' := 29) rfl rfl (cb_ge_t hc1) ?_
    obtain rfl := Option.some.inj h
    exact ev_return rfl rfl
  · refine ev_ic_f (pc' := 9) rfl (by decide) rfl (cb_ge_f hc1) ?_
    refine ev_aload_n (pc' := 10) rfl rfl rfl ?_
    refine ev_getfield (pc' := 13) (w := .ref 23) rfl rfl rfl rfl ?_
    refine ev_aload_n (pc' := 14) rfl rfl rfl ?_
    refine ev_getfield (pc' := 17) (w := .int (σ 22 2)) rfl rfl rfl rfl ?_
    refine ev_iload_n (pc' := 18) rfl rfl rfl ?_
    obtain ⟨hg2, h⟩ := am_g_some h
    refine ev_iastore (pc' := 19) rfl rfl rfl hg2 ?_
    refine ev_aload_n (pc' := 20) rfl rfl rfl ?_
    refine ev_dup (pc' := 21) rfl rfl ?_
    refine ev_getfield (pc' := 24) (w := .int (σ 22 2)) rfl rfl rfl rfl ?_
    refine ev_iconst (pc' := 25) (b := (1 : Int32)) rfl rfl rfl ?_
    refine ev_iadd (pc' := 26) rfl rfl ?_
    refine ev_putfield (pc' := 29) (ci := 7) (f := 2) (z := 0) rfl rfl rfl rfl rfl ?_
    obtain rfl := Option.some.inj h
    exact ev_return rfl rfl
/-! PartedLand.feed (0, 'I', 'I'): S -/
def fx_feed_b10 (N : Nat) (σ : am_S) : Option (Int32 × am_S) := (fx_finding (-1000000001 : Int32) σ).bind fun q1 => some (q1.1, q1.2)
set_option maxRecDepth 100000 in
theorem fx_feed_b10_e {X : Nat} {xs : Nat → Int32} {d : Nat} {N : Nat} {w1 : Value} {w2 : Value} {w3 : Value} {σ : am_S} {o : Int32 × am_S} (h : fx_feed_b10 N σ = some o) : am_Ev am_sh (am_exx X xs) (d + 1) mm_98 10 [.ref 0, w1, w2, w3] [] σ (some (.int o.1)) o.2 := by
  unfold fx_feed_b10 at h
  refine ev_aload_n (pc' := 11) rfl rfl rfl ?_
  refine ev_ldc (pc' := 13) (b := (-1000000001 : Int32)) rfl rfl rfl ?_
  refine am_bd h (fun q1 hq1 h => ?_)
  refine ev_call (mi := 129) (as := [.ref 0, .int (-1000000001 : Int32)]) (rest := []) rfl rfl (Nat.le_of_ble_eq_true rfl) (fx_finding_e (d := d) hq1) ?_
  show am_Ev _ _ _ _ 16 _ _ _ _ _
  obtain rfl := Option.some.inj h
  exact ev_ireturn rfl rfl
def fx_feed_b45 (N : Nat) : Nat → Int32 → Int32 → am_S → Option (Int32 × am_S)
  | 0, _, _, _ => none
  | n + 1, x1, x3, σ => (if x3 < 0 then some ((σ 22 2), σ) else (fx_Text_append (((x1.toUInt32 >>> (((8 : Int32) * x3).toUInt32 &&& Int32.toUInt32 31)).toInt32) &&& (255 : Int32)) σ).bind fun q2 => fx_feed_b45 N n x1 (x3 + (-1 : Int32)) q2)
set_option maxRecDepth 100000 in
theorem fx_feed_b45_e {X : Nat} {xs : Nat → Int32} {d : Nat} {N : Nat} : ∀ {n : Nat} {x1 : Int32} {x3 : Int32} {w2 : Value} {σ : am_S} {o : Int32 × am_S}, fx_feed_b45 N n x1 x3 σ = some o → am_Ev am_sh (am_exx X xs) (d + 1) mm_98 45 [.ref 0, .int x1, w2, .int x3] [] σ (some (.int o.1)) o.2 := by
  intro n
  induction n with
  | zero => intro x1 x3 w2 σ o h; cases h
  | succ n ih =>
    intro x1 x3 w2 σ o h
    unfold fx_feed_b45 at h
    refine ev_iload_n (pc' := 46) rfl rfl rfl ?_
    rcases am_if h with ⟨hc1, h⟩ | ⟨hc1, h⟩
    · refine ev_if_t (pc' := 75) rfl rfl (cb_lt_t hc1) ?_
      refine ev_aload_n (pc' := 76) rfl rfl rfl ?_
      refine ev_getfield (pc' := 79) (w := .ref 21) rfl rfl rfl rfl ?_
      refine ev_getfield (pc' := 82) (w := .ref 22) rfl rfl rfl rfl ?_
      refine ev_getfield (pc' := 85) (w := .int (σ 22 2)) rfl rfl rfl rfl ?_
      obtain rfl := Option.some.inj h
      exact ev_ireturn rfl rfl
    · refine ev_if_f (pc' := 49) rfl (by decide) rfl (cb_lt_f hc1) ?_
      refine ev_aload_n (pc' := 50) rfl rfl rfl ?_
      refine ev_getfield (pc' := 53) (w := .ref 21) rfl rfl rfl rfl ?_
      refine ev_getfield (pc' := 56) (w := .ref 22) rfl rfl rfl rfl ?_
      refine ev_iload_n (pc' := 57) rfl rfl rfl ?_
      refine ev_bipush (pc' := 59) (b := (8 : Int32)) rfl rfl rfl ?_
      refine ev_iload_n (pc' := 60) rfl rfl rfl ?_
      refine ev_imul (pc' := 61) rfl rfl ?_
      refine ev_iushr (pc' := 62) rfl rfl ?_
      refine ev_sipush (pc' := 65) (b := (255 : Int32)) rfl rfl rfl ?_
      refine ev_iand (pc' := 66) rfl rfl ?_
      refine am_bd h (fun q2 hq2 h => ?_)
      refine ev_call (mi := 74) (as := [.ref 22, .int (((x1.toUInt32 >>> (((8 : Int32) * x3).toUInt32 &&& Int32.toUInt32 31)).toInt32) &&& (255 : Int32))]) (rest := []) rfl rfl (Nat.le_of_ble_eq_true rfl) (fx_Text_append_e (d := d) hq2) ?_
      show am_Ev _ _ _ _ 69 _ _ _ _ _
      refine ev_iinc (pc' := 72) (L' := [.ref 0, .int x1, w2, .int (x3 + (-1 : Int32))]) (b := (-1 : Int32)) rfl rfl rfl rfl rfl ?_
      refine ev_goto (pc' := 45) rfl rfl ?_
      exact ih h
def fx_feed (N : Nat) (a1 : Int32) (a2 : Int32) (σ : am_S) : Option (Int32 × am_S) := (if a2 < (1 : Int32) then fx_feed_b10 N σ else (if a2 ≤ (4 : Int32) then (if ((σ 22 2) + a2) ≤ (50 : Int32) then fx_feed_b45 N N a1 (a2 - (1 : Int32)) σ else (fx_finding (-1000000004 : Int32) σ).bind fun q4 => some (q4.1, q4.2)) else fx_feed_b10 N σ))
set_option maxRecDepth 100000 in
theorem fx_feed_e {X : Nat} {xs : Nat → Int32} {d : Nat} {N : Nat} {a1 : Int32} {a2 : Int32} {σ : am_S} {o : Int32 × am_S} (h : fx_feed N a1 a2 σ = some o) : am_Ev am_sh (am_exx X xs) (d + 1) mm_98 0 [.ref 0, .int a1, .int a2, .null] [] σ (some (.int o.1)) o.2 := by
  unfold fx_feed at h
  refine ev_iload_n (pc' := 1) rfl rfl rfl ?_
  refine ev_iconst (pc' := 2) (b := (1 : Int32)) rfl rfl rfl ?_
  rcases am_if h with ⟨hc1, h⟩ | ⟨hc1, h⟩
  · refine ev_ic_t (pc' := 10) rfl rfl (cb_lt_t hc1) ?_
    exact fx_feed_b10_e h
  · refine ev_ic_f (pc' := 5) rfl (by decide) rfl (cb_lt_f hc1) ?_
    refine ev_iload_n (pc' := 6) rfl rfl rfl ?_
    refine ev_iconst (pc' := 7) (b := (4 : Int32)) rfl rfl rfl ?_
    rcases am_if h with ⟨hc2, h⟩ | ⟨hc2, h⟩
    · refine ev_ic_t (pc' := 17) rfl rfl (cb_le_t hc2) ?_
      refine ev_aload_n (pc' := 18) rfl rfl rfl ?_
      refine ev_getfield (pc' := 21) (w := .ref 21) rfl rfl rfl rfl ?_
      refine ev_getfield (pc' := 24) (w := .ref 22) rfl rfl rfl rfl ?_
      refine ev_getfield (pc' := 27) (w := .int (σ 22 2)) rfl rfl rfl rfl ?_
      refine ev_iload_n (pc' := 28) rfl rfl rfl ?_
      refine ev_iadd (pc' := 29) rfl rfl ?_
      refine ev_bipush (pc' := 31) (b := (50 : Int32)) rfl rfl rfl ?_
      rcases am_if h with ⟨hc3, h⟩ | ⟨hc3, h⟩
      · refine ev_ic_t (pc' := 41) rfl rfl (cb_le_t hc3) ?_
        refine ev_iload_n (pc' := 42) rfl rfl rfl ?_
        refine ev_iconst (pc' := 43) (b := (1 : Int32)) rfl rfl rfl ?_
        refine ev_isub (pc' := 44) rfl rfl ?_
        refine ev_istore_n (pc' := 45) (L' := [.ref 0, .int a1, .int a2, .int (a2 - (1 : Int32))]) rfl rfl rfl rfl ?_
        exact fx_feed_b45_e h
      · refine ev_ic_f (pc' := 34) rfl (by decide) rfl (cb_le_f hc3) ?_
        refine ev_aload_n (pc' := 35) rfl rfl rfl ?_
        refine ev_ldc (pc' := 37) (b := (-1000000004 : Int32)) rfl rfl rfl ?_
        refine am_bd h (fun q4 hq4 h => ?_)
        refine ev_call (mi := 129) (as := [.ref 0, .int (-1000000004 : Int32)]) (rest := []) rfl rfl (Nat.le_of_ble_eq_true rfl) (fx_finding_e (d := d) hq4) ?_
        show am_Ev _ _ _ _ 40 _ _ _ _ _
        obtain rfl := Option.some.inj h
        exact ev_ireturn rfl rfl
    · refine ev_ic_f (pc' := 10) rfl (by decide) rfl (cb_le_f hc2) ?_
      exact fx_feed_b10_e h
/-! PartedLand$Text.setDefaults (22,): S -/
def fx_Text_setDefaults (σ : am_S) : Option am_S := am_g (am_in (0 : Int32) 4) <| am_g (am_in (1 : Int32) 4) <| some (am_up (am_up (am_up (am_up (am_up (am_up (am_up (am_up σ 24 (0 : Int32).toNatClampNeg (104 : Int32)) 24 (1 : Int32).toNatClampNeg (98 : Int32)) 22 3 (2 : Int32)) 22 4 (400 : Int32)) 22 5 (50 : Int32)) 22 6 (0 : Int32)) 22 7 (9 : Int32)) 22 8 (12 : Int32))
set_option maxRecDepth 100000 in
theorem fx_Text_setDefaults_e {X : Nat} {xs : Nat → Int32} {d : Nat} {σ : am_S} {o : am_S} (h : fx_Text_setDefaults σ = some o) : am_Ev am_sh (am_exx X xs) (d + 0) mm_73 0 [.ref 22] [] σ (none) o := by
  unfold fx_Text_setDefaults at h
  refine ev_aload_n (pc' := 1) rfl rfl rfl ?_
  refine ev_getfield (pc' := 4) (w := .ref 24) rfl rfl rfl rfl ?_
  refine ev_iconst (pc' := 5) (b := (0 : Int32)) rfl rfl rfl ?_
  refine ev_bipush (pc' := 7) (b := (104 : Int32)) rfl rfl rfl ?_
  obtain ⟨hg1, h⟩ := am_g_some h
  refine ev_iastore (pc' := 8) rfl rfl rfl hg1 ?_
  refine ev_aload_n (pc' := 9) rfl rfl rfl ?_
  refine ev_getfield (pc' := 12) (w := .ref 24) rfl rfl rfl rfl ?_
  refine ev_iconst (pc' := 13) (b := (1 : Int32)) rfl rfl rfl ?_
  refine ev_bipush (pc' := 15) (b := (98 : Int32)) rfl rfl rfl ?_
  obtain ⟨hg2, h⟩ := am_g_some h
  refine ev_iastore (pc' := 16) rfl rfl rfl hg2 ?_
  refine ev_aload_n (pc' := 17) rfl rfl rfl ?_
  refine ev_iconst (pc' := 18) (b := (2 : Int32)) rfl rfl rfl ?_
  refine ev_putfield (pc' := 21) (ci := 7) (f := 3) (z := 0) rfl rfl rfl rfl rfl ?_
  refine ev_aload_n (pc' := 22) rfl rfl rfl ?_
  refine ev_sipush (pc' := 25) (b := (400 : Int32)) rfl rfl rfl ?_
  refine ev_putfield (pc' := 28) (ci := 7) (f := 4) (z := 0) rfl rfl rfl rfl rfl ?_
  refine ev_aload_n (pc' := 29) rfl rfl rfl ?_
  refine ev_bipush (pc' := 31) (b := (50 : Int32)) rfl rfl rfl ?_
  refine ev_putfield (pc' := 34) (ci := 7) (f := 5) (z := 0) rfl rfl rfl rfl rfl ?_
  refine ev_aload_n (pc' := 35) rfl rfl rfl ?_
  refine ev_iconst (pc' := 36) (b := (0 : Int32)) rfl rfl rfl ?_
  refine ev_putfield (pc' := 39) (ci := 7) (f := 6) (z := 1) rfl rfl rfl rfl rfl ?_
  refine ev_aload_n (pc' := 40) rfl rfl rfl ?_
  refine ev_bipush (pc' := 42) (b := (9 : Int32)) rfl rfl rfl ?_
  refine ev_putfield (pc' := 45) (ci := 7) (f := 7) (z := 0) rfl rfl rfl rfl rfl ?_
  refine ev_aload_n (pc' := 46) rfl rfl rfl ?_
  refine ev_bipush (pc' := 48) (b := (12 : Int32)) rfl rfl rfl ?_
  refine ev_putfield (pc' := 51) (ci := 7) (f := 8) (z := 0) rfl rfl rfl rfl rfl ?_
  obtain rfl := Option.some.inj h
  exact ev_return rfl rfl
/-! PartedLand$Text.byteAt (22, 'I'): P -/
def fx_Text_byteAt (a1 : Int32) (σ : am_S) : Option Int32 := (if a1 < 0 then some (-1 : Int32) else (if (σ 22 2) ≤ a1 then some (-1 : Int32) else am_g (am_in a1 50) <| some (σ 23 a1.toNatClampNeg)))
set_option maxRecDepth 100000 in
theorem fx_Text_byteAt_e {X : Nat} {xs : Nat → Int32} {d : Nat} {a1 : Int32} {σ : am_S} {o : Int32} (h : fx_Text_byteAt a1 σ = some o) : am_Ev am_sh (am_exx X xs) (d + 0) mm_69 0 [.ref 22, .int a1] [] σ (some (.int o)) σ := by
  unfold fx_Text_byteAt at h
  refine ev_iload_n (pc' := 1) rfl rfl rfl ?_
  rcases am_if h with ⟨hc1, h⟩ | ⟨hc1, h⟩
  · refine ev_if_t (pc' := 21) rfl rfl (cb_lt_t hc1) ?_
    refine ev_iconst (pc' := 22) (b := (-1 : Int32)) rfl rfl rfl ?_
    obtain rfl := Option.some.inj h
    exact ev_ireturn rfl rfl
  · refine ev_if_f (pc' := 4) rfl (by decide) rfl (cb_lt_f hc1) ?_
    refine ev_iload_n (pc' := 5) rfl rfl rfl ?_
    refine ev_aload_n (pc' := 6) rfl rfl rfl ?_
    refine ev_getfield (pc' := 9) (w := .int (σ 22 2)) rfl rfl rfl rfl ?_
    rcases am_if h with ⟨hc2, h⟩ | ⟨hc2, h⟩
    · refine ev_ic_t (pc' := 21) rfl rfl (cb_ge_t hc2) ?_
      refine ev_iconst (pc' := 22) (b := (-1 : Int32)) rfl rfl rfl ?_
      obtain rfl := Option.some.inj h
      exact ev_ireturn rfl rfl
    · refine ev_ic_f (pc' := 12) rfl (by decide) rfl (cb_ge_f hc2) ?_
      refine ev_aload_n (pc' := 13) rfl rfl rfl ?_
      refine ev_getfield (pc' := 16) (w := .ref 23) rfl rfl rfl rfl ?_
      refine ev_iload_n (pc' := 17) rfl rfl rfl ?_
      obtain ⟨hg3, h⟩ := am_g_some h
      refine ev_iaload (pc' := 18) rfl rfl rfl hg3 ?_
      refine ev_goto (pc' := 22) rfl rfl ?_
      obtain rfl := Option.some.inj h
      exact ev_ireturn rfl rfl
/-! PartedLand$Text.faultAt ('I',): T -/
def fx_Text_faultAt (a0 : Int32) (σ : am_S) : Int32 := ((-1 : Int32) - a0)
set_option maxRecDepth 100000 in
theorem fx_Text_faultAt_e {X : Nat} {xs : Nat → Int32} {d : Nat} {a0 : Int32} {σ : am_S} {o : Int32} (h : fx_Text_faultAt a0 σ = o) : am_Ev am_sh (am_exx X xs) (d + 0) mm_71 0 [.int a0] [] σ (some (.int o)) σ := by
  unfold fx_Text_faultAt at h
  refine ev_iconst (pc' := 1) (b := (-1 : Int32)) rfl rfl rfl ?_
  refine ev_iload_n (pc' := 2) rfl rfl rfl ?_
  refine ev_isub (pc' := 3) rfl rfl ?_
  subst h
  exact ev_ireturn rfl rfl
/-! PartedLand$Text.isDigit ('I',): T -/
def fx_Text_isDigit (a0 : Int32) (σ : am_S) : Int32 := (if a0 < (48 : Int32) then (0 : Int32) else (if (57 : Int32) < a0 then (0 : Int32) else (1 : Int32)))
set_option maxRecDepth 100000 in
theorem fx_Text_isDigit_e {X : Nat} {xs : Nat → Int32} {d : Nat} {a0 : Int32} {σ : am_S} {o : Int32} (h : fx_Text_isDigit a0 σ = o) : am_Ev am_sh (am_exx X xs) (d + 0) mm_70 0 [.int a0] [] σ (some (.int o)) σ := by
  unfold fx_Text_isDigit at h
  refine ev_iload_n (pc' := 1) rfl rfl rfl ?_
  refine ev_bipush (pc' := 3) (b := (48 : Int32)) rfl rfl rfl ?_
  rcases am_if h with ⟨hc1, h⟩ | ⟨hc1, h⟩
  · refine ev_ic_t (pc' := 16) rfl rfl (cb_lt_t hc1) ?_
    refine ev_iconst (pc' := 17) (b := (0 : Int32)) rfl rfl rfl ?_
    subst h
    exact ev_zreturn rfl rfl rfl
  · refine ev_ic_f (pc' := 6) rfl (by decide) rfl (cb_lt_f hc1) ?_
    refine ev_iload_n (pc' := 7) rfl rfl rfl ?_
    refine ev_bipush (pc' := 9) (b := (57 : Int32)) rfl rfl rfl ?_
    rcases am_if h with ⟨hc2, h⟩ | ⟨hc2, h⟩
    · refine ev_ic_t (pc' := 16) rfl rfl (cb_gt_t hc2) ?_
      refine ev_iconst (pc' := 17) (b := (0 : Int32)) rfl rfl rfl ?_
      subst h
      exact ev_zreturn rfl rfl rfl
    · refine ev_ic_f (pc' := 12) rfl (by decide) rfl (cb_gt_f hc2) ?_
      refine ev_iconst (pc' := 13) (b := (1 : Int32)) rfl rfl rfl ?_
      refine ev_goto (pc' := 17) rfl rfl ?_
      subst h
      exact ev_zreturn rfl rfl rfl
/-! PartedLand$Text.readDigits (22, 'I', 'I', 'I'): P -/
def fx_Text_readDigits_b29 (N : Nat) (x1 : Int32) (x2 : Int32) (x4 : Int32) (σ : am_S) : Option Int32 := (if (x1 + x2) ≤ x4 then some x4 else some (fx_Text_faultAt x4 σ))
set_option maxRecDepth 100000 in
theorem fx_Text_readDigits_b29_e {X : Nat} {xs : Nat → Int32} {d : Nat} {N : Nat} {x1 : Int32} {x2 : Int32} {x4 : Int32} {w0 : Value} {w3 : Value} {σ : am_S} {o : Int32} (h : fx_Text_readDigits_b29 N x1 x2 x4 σ = some o) : am_Ev am_sh (am_exx X xs) (d + 1) mm_66 29 [w0, .int x1, .int x2, w3, .int x4] [] σ (some (.int o)) σ := by
  unfold fx_Text_readDigits_b29 at h
  refine ev_iload (pc' := 31) rfl rfl rfl ?_
  refine ev_iload_n (pc' := 32) rfl rfl rfl ?_
  refine ev_iload_n (pc' := 33) rfl rfl rfl ?_
  refine ev_iadd (pc' := 34) rfl rfl ?_
  rcases am_if h with ⟨hc1, h⟩ | ⟨hc1, h⟩
  · refine ev_ic_t (pc' := 45) rfl rfl (cb_ge_t hc1) ?_
    refine ev_iload (pc' := 47) rfl rfl rfl ?_
    obtain rfl := Option.some.inj h
    exact ev_ireturn rfl rfl
  · refine ev_ic_f (pc' := 37) rfl (by decide) rfl (cb_ge_f hc1) ?_
    refine ev_iload (pc' := 39) rfl rfl rfl ?_
    refine ev_call (mi := 71) (as := [.int x4]) (rest := []) rfl rfl (Nat.le_of_ble_eq_true rfl) (fx_Text_faultAt_e (d := d) rfl) ?_
    show am_Ev _ _ _ _ 42 _ _ _ _ _
    refine ev_goto (pc' := 47) rfl rfl ?_
    obtain rfl := Option.some.inj h
    exact ev_ireturn rfl rfl
def fx_Text_readDigits_b3 (N : Nat) : Nat → Int32 → Int32 → Int32 → Int32 → am_S → Option Int32
  | 0, _, _, _, _, _ => none
  | n + 1, x1, x2, x3, x4, σ => (if (x1 + x3) ≤ x4 then fx_Text_readDigits_b29 N x1 x2 x4 σ else (fx_Text_byteAt x4 σ).bind fun q2 => (if (fx_Text_isDigit q2 σ) = 0 then fx_Text_readDigits_b29 N x1 x2 x4 σ else fx_Text_readDigits_b3 N n x1 x2 x3 (x4 + (1 : Int32)) σ))
set_option maxRecDepth 100000 in
theorem fx_Text_readDigits_b3_e {X : Nat} {xs : Nat → Int32} {d : Nat} {N : Nat} : ∀ {n : Nat} {x1 : Int32} {x2 : Int32} {x3 : Int32} {x4 : Int32} {σ : am_S} {o : Int32}, fx_Text_readDigits_b3 N n x1 x2 x3 x4 σ = some o → am_Ev am_sh (am_exx X xs) (d + 1) mm_66 3 [.ref 22, .int x1, .int x2, .int x3, .int x4] [] σ (some (.int o)) σ := by
  intro n
  induction n with
  | zero => intro x1 x2 x3 x4 σ o h; cases h
  | succ n ih =>
    intro x1 x2 x3 x4 σ o h
    unfold fx_Text_readDigits_b3 at h
    refine ev_iload (pc' := 5) rfl rfl rfl ?_
    refine ev_iload_n (pc' := 6) rfl rfl rfl ?_
    refine ev_iload_n (pc' := 7) rfl rfl rfl ?_
    refine ev_iadd (pc' := 8) rfl rfl ?_
    rcases am_if h with ⟨hc1, h⟩ | ⟨hc1, h⟩
    · refine ev_ic_t (pc' := 29) rfl rfl (cb_ge_t hc1) ?_
      exact fx_Text_readDigits_b29_e h
    · refine ev_ic_f (pc' := 11) rfl (by decide) rfl (cb_ge_f hc1) ?_
      refine ev_aload_n (pc' := 12) rfl rfl rfl ?_
      refine ev_iload (pc' := 14) rfl rfl rfl ?_
      refine am_bd h (fun q2 hq2 h => ?_)
      refine ev_call (mi := 69) (as := [.ref 22, .int x4]) (rest := []) rfl rfl (Nat.le_of_ble_eq_true rfl) (fx_Text_byteAt_e (d := d) hq2) ?_
      show am_Ev _ _ _ _ 17 _ _ _ _ _
      refine ev_call (mi := 70) (as := [.int q2]) (rest := []) rfl rfl (Nat.le_of_ble_eq_true rfl) (fx_Text_isDigit_e (d := d) rfl) ?_
      show am_Ev _ _ _ _ 20 _ _ _ _ _
      rcases am_if h with ⟨hc3, h⟩ | ⟨hc3, h⟩
      · refine ev_if_t (pc' := 29) rfl rfl (cb_eq_t hc3) ?_
        exact fx_Text_readDigits_b29_e h
      · refine ev_if_f (pc' := 23) rfl (by decide) rfl (cb_eq_f hc3) ?_
        refine ev_iinc (pc' := 26) (L' := [.ref 22, .int x1, .int x2, .int x3, .int (x4 + (1 : Int32))]) (b := (1 : Int32)) rfl rfl rfl rfl rfl ?_
        refine ev_goto (pc' := 3) rfl rfl ?_
        exact ih h
def fx_Text_readDigits (N : Nat) (a1 : Int32) (a2 : Int32) (a3 : Int32) (σ : am_S) : Option Int32 := fx_Text_readDigits_b3 N N a1 a2 a3 a1 σ
set_option maxRecDepth 100000 in
theorem fx_Text_readDigits_e {X : Nat} {xs : Nat → Int32} {d : Nat} {N : Nat} {a1 : Int32} {a2 : Int32} {a3 : Int32} {σ : am_S} {o : Int32} (h : fx_Text_readDigits N a1 a2 a3 σ = some o) : am_Ev am_sh (am_exx X xs) (d + 1) mm_66 0 [.ref 22, .int a1, .int a2, .int a3, .null] [] σ (some (.int o)) σ := by
  unfold fx_Text_readDigits at h
  refine ev_iload_n (pc' := 1) rfl rfl rfl ?_
  refine ev_istore (pc' := 3) (L' := [.ref 22, .int a1, .int a2, .int a3, .int a1]) rfl rfl rfl rfl ?_
  exact fx_Text_readDigits_b3_e h
/-! PartedLand$Text.numberAt (22, 'I', 'I'): P -/
def fx_Text_numberAt_b5 (N : Nat) : Nat → Int32 → Int32 → Int32 → am_S → Option Int32
  | 0, _, _, _, _ => none
  | n + 1, x2, x3, x4, σ => (if x2 ≤ x4 then some x3 else (fx_Text_byteAt x4 σ).bind fun q2 => fx_Text_numberAt_b5 N n x2 (((x3 * (10 : Int32)) + q2) - (48 : Int32)) (x4 + (1 : Int32)) σ)
set_option maxRecDepth 100000 in
theorem fx_Text_numberAt_b5_e {X : Nat} {xs : Nat → Int32} {d : Nat} {N : Nat} : ∀ {n : Nat} {x2 : Int32} {x3 : Int32} {x4 : Int32} {w1 : Value} {σ : am_S} {o : Int32}, fx_Text_numberAt_b5 N n x2 x3 x4 σ = some o → am_Ev am_sh (am_exx X xs) (d + 1) mm_68 5 [.ref 22, w1, .int x2, .int x3, .int x4] [] σ (some (.int o)) σ := by
  intro n
  induction n with
  | zero => intro x2 x3 x4 w1 σ o h; cases h
  | succ n ih =>
    intro x2 x3 x4 w1 σ o h
    unfold fx_Text_numberAt_b5 at h
    refine ev_iload (pc' := 7) rfl rfl rfl ?_
    refine ev_iload_n (pc' := 8) rfl rfl rfl ?_
    rcases am_if h with ⟨hc1, h⟩ | ⟨hc1, h⟩
    · refine ev_ic_t (pc' := 32) rfl rfl (cb_ge_t hc1) ?_
      refine ev_iload_n (pc' := 33) rfl rfl rfl ?_
      obtain rfl := Option.some.inj h
      exact ev_ireturn rfl rfl
    · refine ev_ic_f (pc' := 11) rfl (by decide) rfl (cb_ge_f hc1) ?_
      refine ev_iload_n (pc' := 12) rfl rfl rfl ?_
      refine ev_bipush (pc' := 14) (b := (10 : Int32)) rfl rfl rfl ?_
      refine ev_imul (pc' := 15) rfl rfl ?_
      refine ev_aload_n (pc' := 16) rfl rfl rfl ?_
      refine ev_iload (pc' := 18) rfl rfl rfl ?_
      refine am_bd h (fun q2 hq2 h => ?_)
      refine ev_call (mi := 69) (as := [.ref 22, .int x4]) (rest := [.int (x3 * (10 : Int32))]) rfl rfl (Nat.le_of_ble_eq_true rfl) (fx_Text_byteAt_e (d := d) hq2) ?_
      show am_Ev _ _ _ _ 21 _ _ _ _ _
      refine ev_iadd (pc' := 22) rfl rfl ?_
      refine ev_bipush (pc' := 24) (b := (48 : Int32)) rfl rfl rfl ?_
      refine ev_isub (pc' := 25) rfl rfl ?_
      refine ev_istore_n (pc' := 26) (L' := [.ref 22, w1, .int x2, .int (((x3 * (10 : Int32)) + q2) - (48 : Int32)), .int x4]) rfl rfl rfl rfl ?_
      refine ev_iinc (pc' := 29) (L' := [.ref 22, w1, .int x2, .int (((x3 * (10 : Int32)) + q2) - (48 : Int32)), .int (x4 + (1 : Int32))]) (b := (1 : Int32)) rfl rfl rfl rfl rfl ?_
      refine ev_goto (pc' := 5) rfl rfl ?_
      exact ih h
def fx_Text_numberAt (N : Nat) (a1 : Int32) (a2 : Int32) (σ : am_S) : Option Int32 := fx_Text_numberAt_b5 N N a2 (0 : Int32) a1 σ
set_option maxRecDepth 100000 in
theorem fx_Text_numberAt_e {X : Nat} {xs : Nat → Int32} {d : Nat} {N : Nat} {a1 : Int32} {a2 : Int32} {σ : am_S} {o : Int32} (h : fx_Text_numberAt N a1 a2 σ = some o) : am_Ev am_sh (am_exx X xs) (d + 1) mm_68 0 [.ref 22, .int a1, .int a2, .null, .null] [] σ (some (.int o)) σ := by
  unfold fx_Text_numberAt at h
  refine ev_iconst (pc' := 1) (b := (0 : Int32)) rfl rfl rfl ?_
  refine ev_istore_n (pc' := 2) (L' := [.ref 22, .int a1, .int a2, .int (0 : Int32), .null]) rfl rfl rfl rfl ?_
  refine ev_iload_n (pc' := 3) rfl rfl rfl ?_
  refine ev_istore (pc' := 5) (L' := [.ref 22, .int a1, .int a2, .int (0 : Int32), .int a1]) rfl rfl rfl rfl ?_
  exact fx_Text_numberAt_b5_e h
/-! PartedLand$Text.readRowEnd (22, 'I'): P -/
def fx_Text_readRowEnd (a1 : Int32) (σ : am_S) : Option Int32 := (fx_Text_byteAt a1 σ).bind fun q1 => (if q1 = (59 : Int32) then some (a1 + (1 : Int32)) else some (fx_Text_faultAt a1 σ))
set_option maxRecDepth 100000 in
theorem fx_Text_readRowEnd_e {X : Nat} {xs : Nat → Int32} {d : Nat} {a1 : Int32} {σ : am_S} {o : Int32} (h : fx_Text_readRowEnd a1 σ = some o) : am_Ev am_sh (am_exx X xs) (d + 1) mm_67 0 [.ref 22, .int a1] [] σ (some (.int o)) σ := by
  unfold fx_Text_readRowEnd at h
  refine ev_aload_n (pc' := 1) rfl rfl rfl ?_
  refine ev_iload_n (pc' := 2) rfl rfl rfl ?_
  refine am_bd h (fun q1 hq1 h => ?_)
  refine ev_call (mi := 69) (as := [.ref 22, .int a1]) (rest := []) rfl rfl (Nat.le_of_ble_eq_true rfl) (fx_Text_byteAt_e (d := d) hq1) ?_
  show am_Ev _ _ _ _ 5 _ _ _ _ _
  refine ev_bipush (pc' := 7) (b := (59 : Int32)) rfl rfl rfl ?_
  rcases am_if h with ⟨hc2, h⟩ | ⟨hc2, h⟩
  · refine ev_ic_f (pc' := 10) rfl (by decide) rfl (cb_ne_f hc2) ?_
    refine ev_iload_n (pc' := 11) rfl rfl rfl ?_
    refine ev_iconst (pc' := 12) (b := (1 : Int32)) rfl rfl rfl ?_
    refine ev_iadd (pc' := 13) rfl rfl ?_
    refine ev_goto (pc' := 20) rfl rfl ?_
    obtain rfl := Option.some.inj h
    exact ev_ireturn rfl rfl
  · refine ev_ic_t (pc' := 16) rfl rfl (cb_ne_t hc2) ?_
    refine ev_iload_n (pc' := 17) rfl rfl rfl ?_
    refine ev_call (mi := 71) (as := [.int a1]) (rest := []) rfl rfl (Nat.le_of_ble_eq_true rfl) (fx_Text_faultAt_e (d := d) rfl) ?_
    show am_Ev _ _ _ _ 20 _ _ _ _ _
    obtain rfl := Option.some.inj h
    exact ev_ireturn rfl rfl
/-! PartedLand$Text.readHours (22, 'I'): S -/
def fx_Text_readHours (N : Nat) (a1 : Int32) (σ : am_S) : Option (Int32 × am_S) := (fx_Text_byteAt a1 σ).bind fun q1 => (if q1 ≤ (50 : Int32) then (fx_Text_readDigits N a1 (2 : Int32) (2 : Int32) σ).bind fun q3 => (if 0 ≤ q3 then (fx_Text_numberAt N a1 q3 σ).bind fun q5 => (if q5 ≤ (24 : Int32) then (fx_Text_readRowEnd q3 (am_up σ 22 8 q5)).bind fun q7 => some (q7, (am_up σ 22 8 q5)) else some ((fx_Text_faultAt (a1 + (1 : Int32)) (am_up σ 22 8 q5)), (am_up σ 22 8 q5))) else some (q3, σ)) else some ((fx_Text_faultAt a1 σ), σ))
set_option maxRecDepth 100000 in
theorem fx_Text_readHours_e {X : Nat} {xs : Nat → Int32} {d : Nat} {N : Nat} {a1 : Int32} {σ : am_S} {o : Int32 × am_S} (h : fx_Text_readHours N a1 σ = some o) : am_Ev am_sh (am_exx X xs) (d + 2) mm_65 0 [.ref 22, .int a1, .null] [] σ (some (.int o.1)) o.2 := by
  unfold fx_Text_readHours at h
  refine ev_aload_n (pc' := 1) rfl rfl rfl ?_
  refine ev_iload_n (pc' := 2) rfl rfl rfl ?_
  refine am_bd h (fun q1 hq1 h => ?_)
  refine ev_call (mi := 69) (as := [.ref 22, .int a1]) (rest := []) rfl rfl (Nat.le_of_ble_eq_true rfl) (fx_Text_byteAt_e (d := d + 1) hq1) ?_
  show am_Ev _ _ _ _ 5 _ _ _ _ _
  refine ev_bipush (pc' := 7) (b := (50 : Int32)) rfl rfl rfl ?_
  rcases am_if h with ⟨hc2, h⟩ | ⟨hc2, h⟩
  · refine ev_ic_t (pc' := 15) rfl rfl (cb_le_t hc2) ?_
    refine ev_aload_n (pc' := 16) rfl rfl rfl ?_
    refine ev_iload_n (pc' := 17) rfl rfl rfl ?_
    refine ev_iconst (pc' := 18) (b := (2 : Int32)) rfl rfl rfl ?_
    refine ev_iconst (pc' := 19) (b := (2 : Int32)) rfl rfl rfl ?_
    refine am_bd h (fun q3 hq3 h => ?_)
    refine ev_call (mi := 66) (as := [.ref 22, .int a1, .int (2 : Int32), .int (2 : Int32)]) (rest := []) rfl rfl (Nat.le_of_ble_eq_true rfl) (fx_Text_readDigits_e (d := d) hq3) ?_
    show am_Ev _ _ _ _ 22 _ _ _ _ _
    refine ev_istore_n (pc' := 23) (L' := [.ref 22, .int a1, .int q3]) rfl rfl rfl rfl ?_
    refine ev_iload_n (pc' := 24) rfl rfl rfl ?_
    rcases am_if h with ⟨hc4, h⟩ | ⟨hc4, h⟩
    · refine ev_if_t (pc' := 29) rfl rfl (cb_ge_t hc4) ?_
      refine ev_aload_n (pc' := 30) rfl rfl rfl ?_
      refine ev_aload_n (pc' := 31) rfl rfl rfl ?_
      refine ev_iload_n (pc' := 32) rfl rfl rfl ?_
      refine ev_iload_n (pc' := 33) rfl rfl rfl ?_
      refine am_bd h (fun q5 hq5 h => ?_)
      refine ev_call (mi := 68) (as := [.ref 22, .int a1, .int q3]) (rest := [.ref 22]) rfl rfl (Nat.le_of_ble_eq_true rfl) (fx_Text_numberAt_e (d := d) hq5) ?_
      show am_Ev _ _ _ _ 36 _ _ _ _ _
      refine ev_putfield (pc' := 39) (ci := 7) (f := 8) (z := 0) rfl rfl rfl rfl rfl ?_
      refine ev_aload_n (pc' := 40) rfl rfl rfl ?_
      refine ev_getfield (pc' := 43) (w := .int q5) rfl rfl rfl rfl ?_
      refine ev_bipush (pc' := 45) (b := (24 : Int32)) rfl rfl rfl ?_
      rcases am_if h with ⟨hc6, h⟩ | ⟨hc6, h⟩
      · refine ev_ic_t (pc' := 57) rfl rfl (cb_le_t hc6) ?_
        refine ev_aload_n (pc' := 58) rfl rfl rfl ?_
        refine ev_iload_n (pc' := 59) rfl rfl rfl ?_
        refine am_bd h (fun q7 hq7 h => ?_)
        refine ev_call (mi := 67) (as := [.ref 22, .int q3]) (rest := []) rfl rfl (Nat.le_of_ble_eq_true rfl) (fx_Text_readRowEnd_e (d := d) hq7) ?_
        show am_Ev _ _ _ _ 62 _ _ _ _ _
        obtain rfl := Option.some.inj h
        exact ev_ireturn rfl rfl
      · refine ev_ic_f (pc' := 48) rfl (by decide) rfl (cb_le_f hc6) ?_
        refine ev_iload_n (pc' := 49) rfl rfl rfl ?_
        refine ev_iconst (pc' := 50) (b := (1 : Int32)) rfl rfl rfl ?_
        refine ev_iadd (pc' := 51) rfl rfl ?_
        refine ev_call (mi := 71) (as := [.int (a1 + (1 : Int32))]) (rest := []) rfl rfl (Nat.le_of_ble_eq_true rfl) (fx_Text_faultAt_e (d := d + 1) rfl) ?_
        show am_Ev _ _ _ _ 54 _ _ _ _ _
        refine ev_goto (pc' := 62) rfl rfl ?_
        obtain rfl := Option.some.inj h
        exact ev_ireturn rfl rfl
    · refine ev_if_f (pc' := 27) rfl (by decide) rfl (cb_ge_f hc4) ?_
      refine ev_iload_n (pc' := 28) rfl rfl rfl ?_
      obtain rfl := Option.some.inj h
      exact ev_ireturn rfl rfl
  · refine ev_ic_f (pc' := 10) rfl (by decide) rfl (cb_le_f hc2) ?_
    refine ev_iload_n (pc' := 11) rfl rfl rfl ?_
    refine ev_call (mi := 71) (as := [.int a1]) (rest := []) rfl rfl (Nat.le_of_ble_eq_true rfl) (fx_Text_faultAt_e (d := d + 1) rfl) ?_
    show am_Ev _ _ _ _ 14 _ _ _ _ _
    obtain rfl := Option.some.inj h
    exact ev_ireturn rfl rfl
/-! PartedLand$Text.readShare (22, 'I'): S -/
def fx_Text_readShare (N : Nat) (a1 : Int32) (σ : am_S) : Option (Int32 × am_S) := (fx_Text_readDigits N a1 (2 : Int32) (2 : Int32) σ).bind fun q1 => (if 0 ≤ q1 then (fx_Text_numberAt N a1 q1 σ).bind fun q3 => (fx_Text_readRowEnd q1 (am_up σ 22 5 q3)).bind fun q4 => some (q4, (am_up σ 22 5 q3)) else some (q1, σ))
set_option maxRecDepth 100000 in
theorem fx_Text_readShare_e {X : Nat} {xs : Nat → Int32} {d : Nat} {N : Nat} {a1 : Int32} {σ : am_S} {o : Int32 × am_S} (h : fx_Text_readShare N a1 σ = some o) : am_Ev am_sh (am_exx X xs) (d + 2) mm_62 0 [.ref 22, .int a1, .null] [] σ (some (.int o.1)) o.2 := by
  unfold fx_Text_readShare at h
  refine ev_aload_n (pc' := 1) rfl rfl rfl ?_
  refine ev_iload_n (pc' := 2) rfl rfl rfl ?_
  refine ev_iconst (pc' := 3) (b := (2 : Int32)) rfl rfl rfl ?_
  refine ev_iconst (pc' := 4) (b := (2 : Int32)) rfl rfl rfl ?_
  refine am_bd h (fun q1 hq1 h => ?_)
  refine ev_call (mi := 66) (as := [.ref 22, .int a1, .int (2 : Int32), .int (2 : Int32)]) (rest := []) rfl rfl (Nat.le_of_ble_eq_true rfl) (fx_Text_readDigits_e (d := d) hq1) ?_
  show am_Ev _ _ _ _ 7 _ _ _ _ _
  refine ev_istore_n (pc' := 8) (L' := [.ref 22, .int a1, .int q1]) rfl rfl rfl rfl ?_
  refine ev_iload_n (pc' := 9) rfl rfl rfl ?_
  rcases am_if h with ⟨hc2, h⟩ | ⟨hc2, h⟩
  · refine ev_if_t (pc' := 14) rfl rfl (cb_ge_t hc2) ?_
    refine ev_aload_n (pc' := 15) rfl rfl rfl ?_
    refine ev_aload_n (pc' := 16) rfl rfl rfl ?_
    refine ev_iload_n (pc' := 17) rfl rfl rfl ?_
    refine ev_iload_n (pc' := 18) rfl rfl rfl ?_
    refine am_bd h (fun q3 hq3 h => ?_)
    refine ev_call (mi := 68) (as := [.ref 22, .int a1, .int q1]) (rest := [.ref 22]) rfl rfl (Nat.le_of_ble_eq_true rfl) (fx_Text_numberAt_e (d := d) hq3) ?_
    show am_Ev _ _ _ _ 21 _ _ _ _ _
    refine ev_putfield (pc' := 24) (ci := 7) (f := 5) (z := 0) rfl rfl rfl rfl rfl ?_
    refine ev_aload_n (pc' := 25) rfl rfl rfl ?_
    refine ev_iload_n (pc' := 26) rfl rfl rfl ?_
    refine am_bd h (fun q4 hq4 h => ?_)
    refine ev_call (mi := 67) (as := [.ref 22, .int q1]) (rest := []) rfl rfl (Nat.le_of_ble_eq_true rfl) (fx_Text_readRowEnd_e (d := d) hq4) ?_
    show am_Ev _ _ _ _ 29 _ _ _ _ _
    obtain rfl := Option.some.inj h
    exact ev_ireturn rfl rfl
  · refine ev_if_f (pc' := 12) rfl (by decide) rfl (cb_ge_f hc2) ?_
    refine ev_iload_n (pc' := 13) rfl rfl rfl ?_
    obtain rfl := Option.some.inj h
    exact ev_ireturn rfl rfl
/-! PartedLand$Text.isNewGround (22, 'I'): P -/
def fx_Text_isNewGround_b52 (N : Nat) (σ : am_S) : Option Int32 := some (1 : Int32)
set_option maxRecDepth 100000 in
theorem fx_Text_isNewGround_b52_e {X : Nat} {xs : Nat → Int32} {d : Nat} {N : Nat} {w0 : Value} {w1 : Value} {w2 : Value} {σ : am_S} {o : Int32} (h : fx_Text_isNewGround_b52 N σ = some o) : am_Ev am_sh (am_exx X xs) (d + 0) mm_60 52 [w0, w1, w2] [] σ (some (.int o)) σ := by
  unfold fx_Text_isNewGround_b52 at h
  refine ev_iconst (pc' := 53) (b := (1 : Int32)) rfl rfl rfl ?_
  refine ev_goto (pc' := 57) rfl rfl ?_
  obtain rfl := Option.some.inj h
  exact ev_zreturn rfl rfl rfl
def fx_Text_isNewGround_b2 (N : Nat) : Nat → Int32 → Int32 → am_S → Option Int32
  | 0, _, _, _ => none
  | n + 1, x1, x2, σ => (if (σ 22 3) ≤ x2 then (if x1 = (99 : Int32) then fx_Text_isNewGround_b52 N σ else (if x1 = (104 : Int32) then fx_Text_isNewGround_b52 N σ else (if x1 = (98 : Int32) then fx_Text_isNewGround_b52 N σ else (if x1 = (119 : Int32) then fx_Text_isNewGround_b52 N σ else some (0 : Int32))))) else am_g (am_in x2 4) <| (if (σ 24 x2.toNatClampNeg) = x1 then some (0 : Int32) else fx_Text_isNewGround_b2 N n x1 (x2 + (1 : Int32)) σ))
set_option maxRecDepth 100000 in
theorem fx_Text_isNewGround_b2_e {X : Nat} {xs : Nat → Int32} {d : Nat} {N : Nat} : ∀ {n : Nat} {x1 : Int32} {x2 : Int32} {σ : am_S} {o : Int32}, fx_Text_isNewGround_b2 N n x1 x2 σ = some o → am_Ev am_sh (am_exx X xs) (d + 0) mm_60 2 [.ref 22, .int x1, .int x2] [] σ (some (.int o)) σ := by
  intro n
  induction n with
  | zero => intro x1 x2 σ o h; cases h
  | succ n ih =>
    intro x1 x2 σ o h
    unfold fx_Text_isNewGround_b2 at h
    refine ev_iload_n (pc' := 3) rfl rfl rfl ?_
    refine ev_aload_n (pc' := 4) rfl rfl rfl ?_
    refine ev_getfield (pc' := 7) (w := .int (σ 22 3)) rfl rfl rfl rfl ?_
    rcases am_if h with ⟨hc1, h⟩ | ⟨hc1, h⟩
    · refine ev_ic_t (pc' := 28) rfl rfl (cb_ge_t hc1) ?_
      refine ev_iload_n (pc' := 29) rfl rfl rfl ?_
      refine ev_bipush (pc' := 31) (b := (99 : Int32)) rfl rfl rfl ?_
      rcases am_if h with ⟨hc2, h⟩ | ⟨hc2, h⟩
      · refine ev_ic_t (pc' := 52) rfl rfl (cb_eq_t hc2) ?_
        exact fx_Text_isNewGround_b52_e h
      · refine ev_ic_f (pc' := 34) rfl (by decide) rfl (cb_eq_f hc2) ?_
        refine ev_iload_n (pc' := 35) rfl rfl rfl ?_
        refine ev_bipush (pc' := 37) (b := (104 : Int32)) rfl rfl rfl ?_
        rcases am_if h with ⟨hc3, h⟩ | ⟨hc3, h⟩
        · refine ev_ic_t (pc' := 52) rfl rfl (cb_eq_t hc3) ?_
          exact fx_Text_isNewGround_b52_e h
        · refine ev_ic_f (pc' := 40) rfl (by decide) rfl (cb_eq_f hc3) ?_
          refine ev_iload_n (pc' := 41) rfl rfl rfl ?_
          refine ev_bipush (pc' := 43) (b := (98 : Int32)) rfl rfl rfl ?_
          rcases am_if h with ⟨hc4, h⟩ | ⟨hc4, h⟩
          · refine ev_ic_t (pc' := 52) rfl rfl (cb_eq_t hc4) ?_
            exact fx_Text_isNewGround_b52_e h
          · refine ev_ic_f (pc' := 46) rfl (by decide) rfl (cb_eq_f hc4) ?_
            refine ev_iload_n (pc' := 47) rfl rfl rfl ?_
            refine ev_bipush (pc' := 49) (b := (119 : Int32)) rfl rfl rfl ?_
            rcases am_if h with ⟨hc5, h⟩ | ⟨hc5, h⟩
            · refine ev_ic_f (pc' := 52) rfl (by decide) rfl (cb_ne_f hc5) ?_
              exact fx_Text_isNewGround_b52_e h
            · refine ev_ic_t (pc' := 56) rfl rfl (cb_ne_t hc5) ?_
              refine ev_iconst (pc' := 57) (b := (0 : Int32)) rfl rfl rfl ?_
              obtain rfl := Option.some.inj h
              exact ev_zreturn rfl rfl rfl
    · refine ev_ic_f (pc' := 10) rfl (by decide) rfl (cb_ge_f hc1) ?_
      refine ev_aload_n (pc' := 11) rfl rfl rfl ?_
      refine ev_getfield (pc' := 14) (w := .ref 24) rfl rfl rfl rfl ?_
      refine ev_iload_n (pc' := 15) rfl rfl rfl ?_
      obtain ⟨hg6, h⟩ := am_g_some h
      refine ev_iaload (pc' := 16) rfl rfl rfl hg6 ?_
      refine ev_iload_n (pc' := 17) rfl rfl rfl ?_
      rcases am_if h with ⟨hc7, h⟩ | ⟨hc7, h⟩
      · refine ev_ic_f (pc' := 20) rfl (by decide) rfl (cb_ne_f hc7) ?_
        refine ev_iconst (pc' := 21) (b := (0 : Int32)) rfl rfl rfl ?_
        obtain rfl := Option.some.inj h
        exact ev_zreturn rfl rfl rfl
      · refine ev_ic_t (pc' := 22) rfl rfl (cb_ne_t hc7) ?_
        refine ev_iinc (pc' := 25) (L' := [.ref 22, .int x1, .int (x2 + (1 : Int32))]) (b := (1 : Int32)) rfl rfl rfl rfl rfl ?_
        refine ev_goto (pc' := 2) rfl rfl ?_
        exact ih h
def fx_Text_isNewGround (N : Nat) (a1 : Int32) (σ : am_S) : Option Int32 := fx_Text_isNewGround_b2 N N a1 (0 : Int32) σ
set_option maxRecDepth 100000 in
theorem fx_Text_isNewGround_e {X : Nat} {xs : Nat → Int32} {d : Nat} {N : Nat} {a1 : Int32} {σ : am_S} {o : Int32} (h : fx_Text_isNewGround N a1 σ = some o) : am_Ev am_sh (am_exx X xs) (d + 0) mm_60 0 [.ref 22, .int a1, .null] [] σ (some (.int o)) σ := by
  unfold fx_Text_isNewGround at h
  refine ev_iconst (pc' := 1) (b := (0 : Int32)) rfl rfl rfl ?_
  refine ev_istore_n (pc' := 2) (L' := [.ref 22, .int a1, .int (0 : Int32)]) rfl rfl rfl rfl ?_
  exact fx_Text_isNewGround_b2_e h
/-! PartedLand$Text.readGrounds (22, 'I'): S -/
def fx_Text_readGrounds_b57 (N : Nat) (x1 : Int32) (x2 : Int32) (σ : am_S) : Option (Int32 × am_S) := (if (σ 22 3) = 0 then some ((fx_Text_faultAt x1 σ), σ) else (fx_Text_readRowEnd x2 σ).bind fun q2 => some (q2, σ))
set_option maxRecDepth 100000 in
theorem fx_Text_readGrounds_b57_e {X : Nat} {xs : Nat → Int32} {d : Nat} {N : Nat} {x1 : Int32} {x2 : Int32} {σ : am_S} {o : Int32 × am_S} (h : fx_Text_readGrounds_b57 N x1 x2 σ = some o) : am_Ev am_sh (am_exx X xs) (d + 2) mm_80 57 [.ref 22, .int x1, .int x2] [] σ (some (.int o.1)) o.2 := by
  unfold fx_Text_readGrounds_b57 at h
  refine ev_aload_n (pc' := 58) rfl rfl rfl ?_
  refine ev_getfield (pc' := 61) (w := .int (σ 22 3)) rfl rfl rfl rfl ?_
  rcases am_if h with ⟨hc1, h⟩ | ⟨hc1, h⟩
  · refine ev_if_f (pc' := 64) rfl (by decide) rfl (cb_ne_f hc1) ?_
    refine ev_iload_n (pc' := 65) rfl rfl rfl ?_
    refine ev_call (mi := 71) (as := [.int x1]) (rest := []) rfl rfl (Nat.le_of_ble_eq_true rfl) (fx_Text_faultAt_e (d := d + 1) rfl) ?_
    show am_Ev _ _ _ _ 68 _ _ _ _ _
    refine ev_goto (pc' := 76) rfl rfl ?_
    obtain rfl := Option.some.inj h
    exact ev_ireturn rfl rfl
  · refine ev_if_t (pc' := 71) rfl rfl (cb_ne_t hc1) ?_
    refine ev_aload_n (pc' := 72) rfl rfl rfl ?_
    refine ev_iload_n (pc' := 73) rfl rfl rfl ?_
    refine am_bd h (fun q2 hq2 h => ?_)
    refine ev_call (mi := 67) (as := [.ref 22, .int x2]) (rest := []) rfl rfl (Nat.le_of_ble_eq_true rfl) (fx_Text_readRowEnd_e (d := d) hq2) ?_
    show am_Ev _ _ _ _ 76 _ _ _ _ _
    obtain rfl := Option.some.inj h
    exact ev_ireturn rfl rfl
def fx_Text_readGrounds_b7 (N : Nat) : Nat → Int32 → Int32 → am_S → Option (Int32 × am_S)
  | 0, _, _, _ => none
  | n + 1, x1, x2, σ => (if (4 : Int32) ≤ (σ 22 3) then fx_Text_readGrounds_b57 N x1 x2 σ else (fx_Text_byteAt x2 σ).bind fun q2 => (fx_Text_isNewGround N q2 σ).bind fun q3 => (if q3 = 0 then fx_Text_readGrounds_b57 N x1 x2 σ else (fx_Text_byteAt x2 σ).bind fun q5 => am_g (am_in (σ 22 3) 4) <| fx_Text_readGrounds_b7 N n x1 (x2 + (1 : Int32)) (am_up (am_up σ 24 (σ 22 3).toNatClampNeg q5) 22 3 ((σ 22 3) + (1 : Int32)))))
set_option maxRecDepth 100000 in
theorem fx_Text_readGrounds_b7_e {X : Nat} {xs : Nat → Int32} {d : Nat} {N : Nat} : ∀ {n : Nat} {x1 : Int32} {x2 : Int32} {σ : am_S} {o : Int32 × am_S}, fx_Text_readGrounds_b7 N n x1 x2 σ = some o → am_Ev am_sh (am_exx X xs) (d + 2) mm_80 7 [.ref 22, .int x1, .int x2] [] σ (some (.int o.1)) o.2 := by
  intro n
  induction n with
  | zero => intro x1 x2 σ o h; cases h
  | succ n ih =>
    intro x1 x2 σ o h
    unfold fx_Text_readGrounds_b7 at h
    refine ev_aload_n (pc' := 8) rfl rfl rfl ?_
    refine ev_getfield (pc' := 11) (w := .int (σ 22 3)) rfl rfl rfl rfl ?_
    refine ev_iconst (pc' := 12) (b := (4 : Int32)) rfl rfl rfl ?_
    rcases am_if h with ⟨hc1, h⟩ | ⟨hc1, h⟩
    · refine ev_ic_t (pc' := 57) rfl rfl (cb_ge_t hc1) ?_
      exact fx_Text_readGrounds_b57_e h
    · refine ev_ic_f (pc' := 15) rfl (by decide) rfl (cb_ge_f hc1) ?_
      refine ev_aload_n (pc' := 16) rfl rfl rfl ?_
      refine ev_aload_n (pc' := 17) rfl rfl rfl ?_
      refine ev_iload_n (pc' := 18) rfl rfl rfl ?_
      refine am_bd h (fun q2 hq2 h => ?_)
      refine ev_call (mi := 69) (as := [.ref 22, .int x2]) (rest := [.ref 22]) rfl rfl (Nat.le_of_ble_eq_true rfl) (fx_Text_byteAt_e (d := d + 1) hq2) ?_
      show am_Ev _ _ _ _ 21 _ _ _ _ _
      refine am_bd h (fun q3 hq3 h => ?_)
      refine ev_call (mi := 60) (as := [.ref 22, .int q2]) (rest := []) rfl rfl (Nat.le_of_ble_eq_true rfl) (fx_Text_isNewGround_e (d := d + 1) hq3) ?_
      show am_Ev _ _ _ _ 24 _ _ _ _ _
      rcases am_if h with ⟨hc4, h⟩ | ⟨hc4, h⟩
      · refine ev_if_t (pc' := 57) rfl rfl (cb_eq_t hc4) ?_
        exact fx_Text_readGrounds_b57_e h
      · refine ev_if_f (pc' := 27) rfl (by decide) rfl (cb_eq_f hc4) ?_
        refine ev_aload_n (pc' := 28) rfl rfl rfl ?_
        refine ev_getfield (pc' := 31) (w := .ref 24) rfl rfl rfl rfl ?_
        refine ev_aload_n (pc' := 32) rfl rfl rfl ?_
        refine ev_getfield (pc' := 35) (w := .int (σ 22 3)) rfl rfl rfl rfl ?_
        refine ev_aload_n (pc' := 36) rfl rfl rfl ?_
        refine ev_iload_n (pc' := 37) rfl rfl rfl ?_
        refine am_bd h (fun q5 hq5 h => ?_)
        refine ev_call (mi := 69) (as := [.ref 22, .int x2]) (rest := [.int (σ 22 3), .ref 24]) rfl rfl (Nat.le_of_ble_eq_true rfl) (fx_Text_byteAt_e (d := d + 1) hq5) ?_
        show am_Ev _ _ _ _ 40 _ _ _ _ _
        obtain ⟨hg6, h⟩ := am_g_some h
        refine ev_iastore (pc' := 41) rfl rfl rfl hg6 ?_
        refine ev_aload_n (pc' := 42) rfl rfl rfl ?_
        refine ev_dup (pc' := 43) rfl rfl ?_
        refine ev_getfield (pc' := 46) (w := .int (σ 22 3)) rfl rfl rfl rfl ?_
        refine ev_iconst (pc' := 47) (b := (1 : Int32)) rfl rfl rfl ?_
        refine ev_iadd (pc' := 48) rfl rfl ?_
        refine ev_putfield (pc' := 51) (ci := 7) (f := 3) (z := 0) rfl rfl rfl rfl rfl ?_
        refine ev_iinc (pc' := 54) (L' := [.ref 22, .int x1, .int (x2 + (1 : Int32))]) (b := (1 : Int32)) rfl rfl rfl rfl rfl ?_
        refine ev_goto (pc' := 7) rfl rfl ?_
        exact ih h
def fx_Text_readGrounds (N : Nat) (a1 : Int32) (σ : am_S) : Option (Int32 × am_S) := fx_Text_readGrounds_b7 N N a1 a1 (am_up σ 22 3 (0 : Int32))
set_option maxRecDepth 100000 in
theorem fx_Text_readGrounds_e {X : Nat} {xs : Nat → Int32} {d : Nat} {N : Nat} {a1 : Int32} {σ : am_S} {o : Int32 × am_S} (h : fx_Text_readGrounds N a1 σ = some o) : am_Ev am_sh (am_exx X xs) (d + 2) mm_80 0 [.ref 22, .int a1, .null] [] σ (some (.int o.1)) o.2 := by
  unfold fx_Text_readGrounds at h
  refine ev_aload_n (pc' := 1) rfl rfl rfl ?_
  refine ev_iconst (pc' := 2) (b := (0 : Int32)) rfl rfl rfl ?_
  refine ev_putfield (pc' := 5) (ci := 7) (f := 3) (z := 0) rfl rfl rfl rfl rfl ?_
  refine ev_iload_n (pc' := 6) rfl rfl rfl ?_
  refine ev_istore_n (pc' := 7) (L' := [.ref 22, .int a1, .int a1]) rfl rfl rfl rfl ?_
  exact fx_Text_readGrounds_b7_e h
/-! PartedLand$Text.readLastChoiceDay (22, 'I'): S -/
def fx_Text_readLastChoiceDay (N : Nat) (a1 : Int32) (σ : am_S) : Option (Int32 × am_S) := (fx_Text_readDigits N a1 (1 : Int32) (3 : Int32) σ).bind fun q1 => (if 0 ≤ q1 then (fx_Text_numberAt N a1 q1 σ).bind fun q3 => (fx_Text_readRowEnd q1 (am_up σ 22 4 q3)).bind fun q4 => some (q4, (am_up σ 22 4 q3)) else some (q1, σ))
set_option maxRecDepth 100000 in
theorem fx_Text_readLastChoiceDay_e {X : Nat} {xs : Nat → Int32} {d : Nat} {N : Nat} {a1 : Int32} {σ : am_S} {o : Int32 × am_S} (h : fx_Text_readLastChoiceDay N a1 σ = some o) : am_Ev am_sh (am_exx X xs) (d + 2) mm_61 0 [.ref 22, .int a1, .null] [] σ (some (.int o.1)) o.2 := by
  unfold fx_Text_readLastChoiceDay at h
  refine ev_aload_n (pc' := 1) rfl rfl rfl ?_
  refine ev_iload_n (pc' := 2) rfl rfl rfl ?_
  refine ev_iconst (pc' := 3) (b := (1 : Int32)) rfl rfl rfl ?_
  refine ev_iconst (pc' := 4) (b := (3 : Int32)) rfl rfl rfl ?_
  refine am_bd h (fun q1 hq1 h => ?_)
  refine ev_call (mi := 66) (as := [.ref 22, .int a1, .int (1 : Int32), .int (3 : Int32)]) (rest := []) rfl rfl (Nat.le_of_ble_eq_true rfl) (fx_Text_readDigits_e (d := d) hq1) ?_
  show am_Ev _ _ _ _ 7 _ _ _ _ _
  refine ev_istore_n (pc' := 8) (L' := [.ref 22, .int a1, .int q1]) rfl rfl rfl rfl ?_
  refine ev_iload_n (pc' := 9) rfl rfl rfl ?_
  rcases am_if h with ⟨hc2, h⟩ | ⟨hc2, h⟩
  · refine ev_if_t (pc' := 14) rfl rfl (cb_ge_t hc2) ?_
    refine ev_aload_n (pc' := 15) rfl rfl rfl ?_
    refine ev_aload_n (pc' := 16) rfl rfl rfl ?_
    refine ev_iload_n (pc' := 17) rfl rfl rfl ?_
    refine ev_iload_n (pc' := 18) rfl rfl rfl ?_
    refine am_bd h (fun q3 hq3 h => ?_)
    refine ev_call (mi := 68) (as := [.ref 22, .int a1, .int q1]) (rest := [.ref 22]) rfl rfl (Nat.le_of_ble_eq_true rfl) (fx_Text_numberAt_e (d := d) hq3) ?_
    show am_Ev _ _ _ _ 21 _ _ _ _ _
    refine ev_putfield (pc' := 24) (ci := 7) (f := 4) (z := 0) rfl rfl rfl rfl rfl ?_
    refine ev_aload_n (pc' := 25) rfl rfl rfl ?_
    refine ev_iload_n (pc' := 26) rfl rfl rfl ?_
    refine am_bd h (fun q4 hq4 h => ?_)
    refine ev_call (mi := 67) (as := [.ref 22, .int q1]) (rest := []) rfl rfl (Nat.le_of_ble_eq_true rfl) (fx_Text_readRowEnd_e (d := d) hq4) ?_
    show am_Ev _ _ _ _ 29 _ _ _ _ _
    obtain rfl := Option.some.inj h
    exact ev_ireturn rfl rfl
  · refine ev_if_f (pc' := 12) rfl (by decide) rfl (cb_ge_f hc2) ?_
    refine ev_iload_n (pc' := 13) rfl rfl rfl ?_
    obtain rfl := Option.some.inj h
    exact ev_ireturn rfl rfl
/-! PartedLand$Text.readDebts (22, 'I'): S -/
def fx_Text_readDebts_b35 (x1 : Int32) (s0 : Int32) (σ : am_S) : Option (Int32 × am_S) := am_g (am_bo s0) <| (fx_Text_readRowEnd (x1 + (1 : Int32)) (am_up σ 22 6 s0)).bind fun q2 => some (q2, (am_up σ 22 6 s0))
set_option maxRecDepth 100000 in
theorem fx_Text_readDebts_b35_e {X : Nat} {xs : Nat → Int32} {d : Nat} {x1 : Int32} {s0 : Int32} {w2 : Value} {σ : am_S} {o : Int32 × am_S} (h : fx_Text_readDebts_b35 x1 s0 σ = some o) : am_Ev am_sh (am_exx X xs) (d + 2) mm_63 35 [.ref 22, .int x1, w2] [.int s0, .ref 22] σ (some (.int o.1)) o.2 := by
  unfold fx_Text_readDebts_b35 at h
  obtain ⟨hg1, h⟩ := am_g_some h
  refine ev_putfield (pc' := 38) (ci := 7) (f := 6) (z := 1) rfl rfl rfl rfl (by rw [hg1]; rfl) ?_
  refine ev_aload_n (pc' := 39) rfl rfl rfl ?_
  refine ev_iload_n (pc' := 40) rfl rfl rfl ?_
  refine ev_iconst (pc' := 41) (b := (1 : Int32)) rfl rfl rfl ?_
  refine ev_iadd (pc' := 42) rfl rfl ?_
  refine am_bd h (fun q2 hq2 h => ?_)
  refine ev_call (mi := 67) (as := [.ref 22, .int (x1 + (1 : Int32))]) (rest := []) rfl rfl (Nat.le_of_ble_eq_true rfl) (fx_Text_readRowEnd_e (d := d) hq2) ?_
  show am_Ev _ _ _ _ 45 _ _ _ _ _
  obtain rfl := Option.some.inj h
  exact ev_ireturn rfl rfl
def fx_Text_readDebts_b23 (x1 : Int32) (x2 : Int32) (σ : am_S) : Option (Int32 × am_S) := (if x2 = (108 : Int32) then fx_Text_readDebts_b35 x1 (1 : Int32) σ else fx_Text_readDebts_b35 x1 (0 : Int32) σ)
set_option maxRecDepth 100000 in
theorem fx_Text_readDebts_b23_e {X : Nat} {xs : Nat → Int32} {d : Nat} {x1 : Int32} {x2 : Int32} {σ : am_S} {o : Int32 × am_S} (h : fx_Text_readDebts_b23 x1 x2 σ = some o) : am_Ev am_sh (am_exx X xs) (d + 2) mm_63 23 [.ref 22, .int x1, .int x2] [] σ (some (.int o.1)) o.2 := by
  unfold fx_Text_readDebts_b23 at h
  refine ev_aload_n (pc' := 24) rfl rfl rfl ?_
  refine ev_iload_n (pc' := 25) rfl rfl rfl ?_
  refine ev_bipush (pc' := 27) (b := (108 : Int32)) rfl rfl rfl ?_
  rcases am_if h with ⟨hc1, h⟩ | ⟨hc1, h⟩
  · refine ev_ic_f (pc' := 30) rfl (by decide) rfl (cb_ne_f hc1) ?_
    refine ev_iconst (pc' := 31) (b := (1 : Int32)) rfl rfl rfl ?_
    refine ev_goto (pc' := 35) rfl rfl ?_
    exact fx_Text_readDebts_b35_e h
  · refine ev_ic_t (pc' := 34) rfl rfl (cb_ne_t hc1) ?_
    refine ev_iconst (pc' := 35) (b := (0 : Int32)) rfl rfl rfl ?_
    exact fx_Text_readDebts_b35_e h
def fx_Text_readDebts (a1 : Int32) (σ : am_S) : Option (Int32 × am_S) := (fx_Text_byteAt a1 σ).bind fun q1 => (if q1 = (108 : Int32) then fx_Text_readDebts_b23 a1 q1 σ else (if q1 = (115 : Int32) then fx_Text_readDebts_b23 a1 q1 σ else some ((fx_Text_faultAt a1 σ), σ)))
set_option maxRecDepth 100000 in
theorem fx_Text_readDebts_e {X : Nat} {xs : Nat → Int32} {d : Nat} {a1 : Int32} {σ : am_S} {o : Int32 × am_S} (h : fx_Text_readDebts a1 σ = some o) : am_Ev am_sh (am_exx X xs) (d + 2) mm_63 0 [.ref 22, .int a1, .null] [] σ (some (.int o.1)) o.2 := by
  unfold fx_Text_readDebts at h
  refine ev_aload_n (pc' := 1) rfl rfl rfl ?_
  refine ev_iload_n (pc' := 2) rfl rfl rfl ?_
  refine am_bd h (fun q1 hq1 h => ?_)
  refine ev_call (mi := 69) (as := [.ref 22, .int a1]) (rest := []) rfl rfl (Nat.le_of_ble_eq_true rfl) (fx_Text_byteAt_e (d := d + 1) hq1) ?_
  show am_Ev _ _ _ _ 5 _ _ _ _ _
  refine ev_istore_n (pc' := 6) (L' := [.ref 22, .int a1, .int q1]) rfl rfl rfl rfl ?_
  refine ev_iload_n (pc' := 7) rfl rfl rfl ?_
  refine ev_bipush (pc' := 9) (b := (108 : Int32)) rfl rfl rfl ?_
  rcases am_if h with ⟨hc2, h⟩ | ⟨hc2, h⟩
  · refine ev_ic_t (pc' := 23) rfl rfl (cb_eq_t hc2) ?_
    exact fx_Text_readDebts_b23_e h
  · refine ev_ic_f (pc' := 12) rfl (by decide) rfl (cb_eq_f hc2) ?_
    refine ev_iload_n (pc' := 13) rfl rfl rfl ?_
    refine ev_bipush (pc' := 15) (b := (115 : Int32)) rfl rfl rfl ?_
    rcases am_if h with ⟨hc3, h⟩ | ⟨hc3, h⟩
    · refine ev_ic_t (pc' := 23) rfl rfl (cb_eq_t hc3) ?_
      exact fx_Text_readDebts_b23_e h
    · refine ev_ic_f (pc' := 18) rfl (by decide) rfl (cb_eq_f hc3) ?_
      refine ev_iload_n (pc' := 19) rfl rfl rfl ?_
      refine ev_call (mi := 71) (as := [.int a1]) (rest := []) rfl rfl (Nat.le_of_ble_eq_true rfl) (fx_Text_faultAt_e (d := d + 1) rfl) ?_
      show am_Ev _ _ _ _ 22 _ _ _ _ _
      obtain rfl := Option.some.inj h
      exact ev_ireturn rfl rfl
