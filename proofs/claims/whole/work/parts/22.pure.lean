/-! PartedLand$Text.firstUnlike (25, 25): P -/
def fx_Text_firstUnlike_25_25_b14 (N : Nat) : Nat → Int32 → Int32 → am_S → Option Int32
  | 0, _, _, _ => none
  | n + 1, x2, x3, σ => (if x2 ≤ x3 then (if (σ 25 2) = (σ 25 2) then some (-1 : Int32) else some x2) else am_g (am_in x3 50) <| am_g (am_in x3 50) <| (if (σ 26 x3.toNatClampNeg) = (σ 26 x3.toNatClampNeg) then fx_Text_firstUnlike_25_25_b14 N n x2 (x3 + (1 : Int32)) σ else some x3))
set_option maxRecDepth 100000 in
theorem fx_Text_firstUnlike_25_25_b14_e {X : Nat} {xs : Nat → Int32} {d : Nat} {N : Nat} : ∀ {n : Nat} {x2 : Int32} {x3 : Int32} {σ : am_S} {o : Int32}, fx_Text_firstUnlike_25_25_b14 N n x2 x3 σ = some o → am_Ev am_sh (am_exx X xs) (d + 1) mm_77 14 [.ref 25, .ref 25, .int x2, .int x3] [] σ (some (.int o)) σ := by
  intro n
  induction n with
  | zero => intro x2 x3 σ o h; cases h
  | succ n ih =>
    intro x2 x3 σ o h
    unfold fx_Text_firstUnlike_25_25_b14 at h
    refine ev_iload_n (pc' := 15) rfl rfl rfl ?_
    refine ev_iload_n (pc' := 16) rfl rfl rfl ?_
    rcases am_if h with ⟨hc1, h⟩ | ⟨hc1, h⟩
    · refine ev_ic_t (pc' := 42) rfl rfl (cb_ge_t hc1) ?_
      refine ev_aload_n (pc' := 43) rfl rfl rfl ?_
      refine ev_getfield (pc' := 46) (w := .int (σ 25 2)) rfl rfl rfl rfl ?_
      refine ev_aload_n (pc' := 47) rfl rfl rfl ?_
      refine ev_getfield (pc' := 50) (w := .int (σ 25 2)) rfl rfl rfl rfl ?_
      rcases am_if h with ⟨hc2, h⟩ | ⟨hc2, h⟩
      · refine ev_ic_f (pc' := 53) rfl (by decide) rfl (cb_ne_f hc2) ?_
        refine ev_iconst (pc' := 54) (b := (-1 : Int32)) rfl rfl rfl ?_
        refine ev_goto (pc' := 58) rfl rfl ?_
        obtain rfl := Option.some.inj h
        exact ev_ireturn rfl rfl
      · refine ev_ic_t (pc' := 57) rfl rfl (cb_ne_t hc2) ?_
        refine ev_iload_n (pc' := 58) rfl rfl rfl ?_
        obtain rfl := Option.some.inj h
        exact ev_ireturn rfl rfl
    · refine ev_ic_f (pc' := 19) rfl (by decide) rfl (cb_ge_f hc1) ?_
      refine ev_aload_n (pc' := 20) rfl rfl rfl ?_
      refine ev_getfield (pc' := 23) (w := .ref 26) rfl rfl rfl rfl ?_
      refine ev_iload_n (pc' := 24) rfl rfl rfl ?_
      obtain ⟨hg3, h⟩ := am_g_some h
      refine ev_iaload (pc' := 25) rfl rfl rfl hg3 ?_
      refine ev_aload_n (pc' := 26) rfl rfl rfl ?_
      refine ev_getfield (pc' := 29) (w := .ref 26) rfl rfl rfl rfl ?_
      refine ev_iload_n (pc' := 30) rfl rfl rfl ?_
      obtain ⟨hg4, h⟩ := am_g_some h
      refine ev_iaload (pc' := 31) rfl rfl rfl hg4 ?_
      rcases am_if h with ⟨hc5, h⟩ | ⟨hc5, h⟩
      · refine ev_ic_t (pc' := 36) rfl rfl (cb_eq_t hc5) ?_
        refine ev_iinc (pc' := 39) (L' := [.ref 25, .ref 25, .int x2, .int (x3 + (1 : Int32))]) (b := (1 : Int32)) rfl rfl rfl rfl rfl ?_
        refine ev_goto (pc' := 14) rfl rfl ?_
        exact ih h
      · refine ev_ic_f (pc' := 34) rfl (by decide) rfl (cb_eq_f hc5) ?_
        refine ev_iload_n (pc' := 35) rfl rfl rfl ?_
        obtain rfl := Option.some.inj h
        exact ev_ireturn rfl rfl
def fx_Text_firstUnlike_25_25 (N : Nat) (σ : am_S) : Option Int32 := fx_Text_firstUnlike_25_25_b14 N N (if (σ 25 2) < (σ 25 2) then (σ 25 2) else (σ 25 2)) (0 : Int32) σ
set_option maxRecDepth 100000 in
theorem fx_Text_firstUnlike_25_25_e {X : Nat} {xs : Nat → Int32} {d : Nat} {N : Nat} {σ : am_S} {o : Int32} (h : fx_Text_firstUnlike_25_25 N σ = some o) : am_Ev am_sh (am_exx X xs) (d + 1) mm_77 0 [.ref 25, .ref 25, .null, .null] [] σ (some (.int o)) σ := by
  unfold fx_Text_firstUnlike_25_25 at h
  refine ev_aload_n (pc' := 1) rfl rfl rfl ?_
  refine ev_getfield (pc' := 4) (w := .int (σ 25 2)) rfl rfl rfl rfl ?_
  refine ev_aload_n (pc' := 5) rfl rfl rfl ?_
  refine ev_getfield (pc' := 8) (w := .int (σ 25 2)) rfl rfl rfl rfl ?_
  refine ev_min (pc' := 11) rfl rfl rfl rfl ?_
  refine ev_istore_n (pc' := 12) (L' := [.ref 25, .ref 25, .int (if (σ 25 2) < (σ 25 2) then (σ 25 2) else (σ 25 2)), .null]) rfl rfl rfl rfl ?_
  refine ev_iconst (pc' := 13) (b := (0 : Int32)) rfl rfl rfl ?_
  refine ev_istore_n (pc' := 14) (L' := [.ref 25, .ref 25, .int (if (σ 25 2) < (σ 25 2) then (σ 25 2) else (σ 25 2)), .int (0 : Int32)]) rfl rfl rfl rfl ?_
  exact fx_Text_firstUnlike_25_25_b14_e h
/-! PartedLand$Text.firstUnlike (28, 25): P -/
def fx_Text_firstUnlike_28_25_b14 (N : Nat) : Nat → Int32 → Int32 → am_S → Option Int32
  | 0, _, _, _ => none
  | n + 1, x2, x3, σ => (if x2 ≤ x3 then (if (σ 28 2) = (σ 25 2) then some (-1 : Int32) else some x2) else am_g (am_in x3 50) <| am_g (am_in x3 50) <| (if (σ 29 x3.toNatClampNeg) = (σ 26 x3.toNatClampNeg) then fx_Text_firstUnlike_28_25_b14 N n x2 (x3 + (1 : Int32)) σ else some x3))
set_option maxRecDepth 100000 in
theorem fx_Text_firstUnlike_28_25_b14_e {X : Nat} {xs : Nat → Int32} {d : Nat} {N : Nat} : ∀ {n : Nat} {x2 : Int32} {x3 : Int32} {σ : am_S} {o : Int32}, fx_Text_firstUnlike_28_25_b14 N n x2 x3 σ = some o → am_Ev am_sh (am_exx X xs) (d + 1) mm_77 14 [.ref 28, .ref 25, .int x2, .int x3] [] σ (some (.int o)) σ := by
  intro n
  induction n with
  | zero => intro x2 x3 σ o h; cases h
  | succ n ih =>
    intro x2 x3 σ o h
    unfold fx_Text_firstUnlike_28_25_b14 at h
    refine ev_iload_n (pc' := 15) rfl rfl rfl ?_
    refine ev_iload_n (pc' := 16) rfl rfl rfl ?_
    rcases am_if h with ⟨hc1, h⟩ | ⟨hc1, h⟩
    · refine ev_ic_t (pc' := 42) rfl rfl (cb_ge_t hc1) ?_
      refine ev_aload_n (pc' := 43) rfl rfl rfl ?_
      refine ev_getfield (pc' := 46) (w := .int (σ 28 2)) rfl rfl rfl rfl ?_
      refine ev_aload_n (pc' := 47) rfl rfl rfl ?_
      refine ev_getfield (pc' := 50) (w := .int (σ 25 2)) rfl rfl rfl rfl ?_
      rcases am_if h with ⟨hc2, h⟩ | ⟨hc2, h⟩
      · refine ev_ic_f (pc' := 53) rfl (by decide) rfl (cb_ne_f hc2) ?_
        refine ev_iconst (pc' := 54) (b := (-1 : Int32)) rfl rfl rfl ?_
        refine ev_goto (pc' := 58) rfl rfl ?_
        obtain rfl := Option.some.inj h
        exact ev_ireturn rfl rfl
      · refine ev_ic_t (pc' := 57) rfl rfl (cb_ne_t hc2) ?_
        refine ev_iload_n (pc' := 58) rfl rfl rfl ?_
        obtain rfl := Option.some.inj h
        exact ev_ireturn rfl rfl
    · refine ev_ic_f (pc' := 19) rfl (by decide) rfl (cb_ge_f hc1) ?_
      refine ev_aload_n (pc' := 20) rfl rfl rfl ?_
      refine ev_getfield (pc' := 23) (w := .ref 29) rfl rfl rfl rfl ?_
      refine ev_iload_n (pc' := 24) rfl rfl rfl ?_
      obtain ⟨hg3, h⟩ := am_g_some h
      refine ev_iaload (pc' := 25) rfl rfl rfl hg3 ?_
      refine ev_aload_n (pc' := 26) rfl rfl rfl ?_
      refine ev_getfield (pc' := 29) (w := .ref 26) rfl rfl rfl rfl ?_
      refine ev_iload_n (pc' := 30) rfl rfl rfl ?_
      obtain ⟨hg4, h⟩ := am_g_some h
      refine ev_iaload (pc' := 31) rfl rfl rfl hg4 ?_
      rcases am_if h with ⟨hc5, h⟩ | ⟨hc5, h⟩
      · refine ev_ic_t (pc' := 36) rfl rfl (cb_eq_t hc5) ?_
        refine ev_iinc (pc' := 39) (L' := [.ref 28, .ref 25, .int x2, .int (x3 + (1 : Int32))]) (b := (1 : Int32)) rfl rfl rfl rfl rfl ?_
        refine ev_goto (pc' := 14) rfl rfl ?_
        exact ih h
      · refine ev_ic_f (pc' := 34) rfl (by decide) rfl (cb_eq_f hc5) ?_
        refine ev_iload_n (pc' := 35) rfl rfl rfl ?_
        obtain rfl := Option.some.inj h
        exact ev_ireturn rfl rfl
def fx_Text_firstUnlike_28_25 (N : Nat) (σ : am_S) : Option Int32 := fx_Text_firstUnlike_28_25_b14 N N (if (σ 25 2) < (σ 28 2) then (σ 25 2) else (σ 28 2)) (0 : Int32) σ
set_option maxRecDepth 100000 in
theorem fx_Text_firstUnlike_28_25_e {X : Nat} {xs : Nat → Int32} {d : Nat} {N : Nat} {σ : am_S} {o : Int32} (h : fx_Text_firstUnlike_28_25 N σ = some o) : am_Ev am_sh (am_exx X xs) (d + 1) mm_77 0 [.ref 28, .ref 25, .null, .null] [] σ (some (.int o)) σ := by
  unfold fx_Text_firstUnlike_28_25 at h
  refine ev_aload_n (pc' := 1) rfl rfl rfl ?_
  refine ev_getfield (pc' := 4) (w := .int (σ 28 2)) rfl rfl rfl rfl ?_
  refine ev_aload_n (pc' := 5) rfl rfl rfl ?_
  refine ev_getfield (pc' := 8) (w := .int (σ 25 2)) rfl rfl rfl rfl ?_
  refine ev_min (pc' := 11) rfl rfl rfl rfl ?_
  refine ev_istore_n (pc' := 12) (L' := [.ref 28, .ref 25, .int (if (σ 25 2) < (σ 28 2) then (σ 25 2) else (σ 28 2)), .null]) rfl rfl rfl rfl ?_
  refine ev_iconst (pc' := 13) (b := (0 : Int32)) rfl rfl rfl ?_
  refine ev_istore_n (pc' := 14) (L' := [.ref 28, .ref 25, .int (if (σ 25 2) < (σ 28 2) then (σ 25 2) else (σ 28 2)), .int (0 : Int32)]) rfl rfl rfl rfl ?_
  exact fx_Text_firstUnlike_28_25_b14_e h
/-! PartedLand$Text.firstUnlike (28, 28): P -/
def fx_Text_firstUnlike_28_28_b14 (N : Nat) : Nat → Int32 → Int32 → am_S → Option Int32
  | 0, _, _, _ => none
  | n + 1, x2, x3, σ => (if x2 ≤ x3 then (if (σ 28 2) = (σ 28 2) then some (-1 : Int32) else some x2) else am_g (am_in x3 50) <| am_g (am_in x3 50) <| (if (σ 29 x3.toNatClampNeg) = (σ 29 x3.toNatClampNeg) then fx_Text_firstUnlike_28_28_b14 N n x2 (x3 + (1 : Int32)) σ else some x3))
set_option maxRecDepth 100000 in
theorem fx_Text_firstUnlike_28_28_b14_e {X : Nat} {xs : Nat → Int32} {d : Nat} {N : Nat} : ∀ {n : Nat} {x2 : Int32} {x3 : Int32} {σ : am_S} {o : Int32}, fx_Text_firstUnlike_28_28_b14 N n x2 x3 σ = some o → am_Ev am_sh (am_exx X xs) (d + 1) mm_77 14 [.ref 28, .ref 28, .int x2, .int x3] [] σ (some (.int o)) σ := by
  intro n
  induction n with
  | zero => intro x2 x3 σ o h; cases h
  | succ n ih =>
    intro x2 x3 σ o h
    unfold fx_Text_firstUnlike_28_28_b14 at h
    refine ev_iload_n (pc' := 15) rfl rfl rfl ?_
    refine ev_iload_n (pc' := 16) rfl rfl rfl ?_
    rcases am_if h with ⟨hc1, h⟩ | ⟨hc1, h⟩
    · refine ev_ic_t (pc' := 42) rfl rfl (cb_ge_t hc1) ?_
      refine ev_aload_n (pc' := 43) rfl rfl rfl ?_
      refine ev_getfield (pc' := 46) (w := .int (σ 28 2)) rfl rfl rfl rfl ?_
      refine ev_aload_n (pc' := 47) rfl rfl rfl ?_
      refine ev_getfield (pc' := 50) (w := .int (σ 28 2)) rfl rfl rfl rfl ?_
      rcases am_if h with ⟨hc2, h⟩ | ⟨hc2, h⟩
      · refine ev_ic_f (pc' := 53) rfl (by decide) rfl (cb_ne_f hc2) ?_
        refine ev_iconst (pc' := 54) (b := (-1 : Int32)) rfl rfl rfl ?_
        refine ev_goto (pc' := 58) rfl rfl ?_
        obtain rfl := Option.some.inj h
        exact ev_ireturn rfl rfl
      · refine ev_ic_t (pc' := 57) rfl rfl (cb_ne_t hc2) ?_
        refine ev_iload_n (pc' := 58) rfl rfl rfl ?_
        obtain rfl := Option.some.inj h
        exact ev_ireturn rfl rfl
    · refine ev_ic_f (pc' := 19) rfl (by decide) rfl (cb_ge_f hc1) ?_
      refine ev_aload_n (pc' := 20) rfl rfl rfl ?_
      refine ev_getfield (pc' := 23) (w := .ref 29) rfl rfl rfl rfl ?_
      refine ev_iload_n (pc' := 24) rfl rfl rfl ?_
      obtain ⟨hg3, h⟩ := am_g_some h
      refine ev_iaload (pc' := 25) rfl rfl rfl hg3 ?_
      refine ev_aload_n (pc' := 26) rfl rfl rfl ?_
      refine ev_getfield (pc' := 29) (w := .ref 29) rfl rfl rfl rfl ?_
      refine ev_iload_n (pc' := 30) rfl rfl rfl ?_
      obtain ⟨hg4, h⟩ := am_g_some h
      refine ev_iaload (pc' := 31) rfl rfl rfl hg4 ?_
      rcases am_if h with ⟨hc5, h⟩ | ⟨hc5, h⟩
      · refine ev_ic_t (pc' := 36) rfl rfl (cb_eq_t hc5) ?_
        refine ev_iinc (pc' := 39) (L' := [.ref 28, .ref 28, .int x2, .int (x3 + (1 : Int32))]) (b := (1 : Int32)) rfl rfl rfl rfl rfl ?_
        refine ev_goto (pc' := 14) rfl rfl ?_
        exact ih h
      · refine ev_ic_f (pc' := 34) rfl (by decide) rfl (cb_eq_f hc5) ?_
        refine ev_iload_n (pc' := 35) rfl rfl rfl ?_
        obtain rfl := Option.some.inj h
        exact ev_ireturn rfl rfl
def fx_Text_firstUnlike_28_28 (N : Nat) (σ : am_S) : Option Int32 := fx_Text_firstUnlike_28_28_b14 N N (if (σ 28 2) < (σ 28 2) then (σ 28 2) else (σ 28 2)) (0 : Int32) σ
set_option maxRecDepth 100000 in
theorem fx_Text_firstUnlike_28_28_e {X : Nat} {xs : Nat → Int32} {d : Nat} {N : Nat} {σ : am_S} {o : Int32} (h : fx_Text_firstUnlike_28_28 N σ = some o) : am_Ev am_sh (am_exx X xs) (d + 1) mm_77 0 [.ref 28, .ref 28, .null, .null] [] σ (some (.int o)) σ := by
  unfold fx_Text_firstUnlike_28_28 at h
  refine ev_aload_n (pc' := 1) rfl rfl rfl ?_
  refine ev_getfield (pc' := 4) (w := .int (σ 28 2)) rfl rfl rfl rfl ?_
  refine ev_aload_n (pc' := 5) rfl rfl rfl ?_
  refine ev_getfield (pc' := 8) (w := .int (σ 28 2)) rfl rfl rfl rfl ?_
  refine ev_min (pc' := 11) rfl rfl rfl rfl ?_
  refine ev_istore_n (pc' := 12) (L' := [.ref 28, .ref 28, .int (if (σ 28 2) < (σ 28 2) then (σ 28 2) else (σ 28 2)), .null]) rfl rfl rfl rfl ?_
  refine ev_iconst (pc' := 13) (b := (0 : Int32)) rfl rfl rfl ?_
  refine ev_istore_n (pc' := 14) (L' := [.ref 28, .ref 28, .int (if (σ 28 2) < (σ 28 2) then (σ 28 2) else (σ 28 2)), .int (0 : Int32)]) rfl rfl rfl rfl ?_
  exact fx_Text_firstUnlike_28_28_b14_e h
/-! PartedLand.differ (0,): S -/
def fx_differ_b22 (N : Nat) (σ : am_S) : Option (Int32 × am_S) := (fx_finding (-1000000003 : Int32) σ).bind fun q1 => some (q1.1, q1.2)
set_option maxRecDepth 100000 in
theorem fx_differ_b22_e {X : Nat} {xs : Nat → Int32} {d : Nat} {N : Nat} {σ : am_S} {o : Int32 × am_S} (h : fx_differ_b22 N σ = some o) : am_Ev am_sh (am_exx X xs) (d + 2) mm_101 22 [.ref 0] [] σ (some (.int o.1)) o.2 := by
  unfold fx_differ_b22 at h
  refine ev_aload_n (pc' := 23) rfl rfl rfl ?_
  refine ev_ldc (pc' := 25) (b := (-1000000003 : Int32)) rfl rfl rfl ?_
  refine am_bd h (fun q1 hq1 h => ?_)
  refine ev_call (mi := 129) (as := [.ref 0, .int (-1000000003 : Int32)]) (rest := []) rfl rfl (Nat.le_of_ble_eq_true rfl) (fx_finding_e (d := d + 1) hq1) ?_
  show am_Ev _ _ _ _ 28 _ _ _ _ _
  obtain rfl := Option.some.inj h
  exact ev_ireturn rfl rfl
def fx_differ (N : Nat) (σ : am_S) : Option (Int32 × am_S) := (fx_Houses_hasProposed (0 : Int32) σ).bind fun q1 => (if q1 = 0 then fx_differ_b22 N σ else (fx_Houses_hasProposed (1 : Int32) σ).bind fun q3 => (if q3 = 0 then fx_differ_b22 N σ else (if (fx_Houses_heldBy (0 : Int32) σ) = 25 ∧ (fx_Houses_heldBy (1 : Int32) σ) = 25 then (fx_Text_firstUnlike_25_25 N σ).bind fun q6 => some (q6, σ) else (if (fx_Houses_heldBy (0 : Int32) σ) = 25 ∧ (fx_Houses_heldBy (1 : Int32) σ) = 28 then (fx_Text_firstUnlike N σ).bind fun q8 => some (q8, σ) else (if (fx_Houses_heldBy (0 : Int32) σ) = 28 ∧ (fx_Houses_heldBy (1 : Int32) σ) = 25 then (fx_Text_firstUnlike_28_25 N σ).bind fun q10 => some (q10, σ) else (if (fx_Houses_heldBy (0 : Int32) σ) = 28 ∧ (fx_Houses_heldBy (1 : Int32) σ) = 28 then (fx_Text_firstUnlike_28_28 N σ).bind fun q12 => some (q12, σ) else none))))))
set_option maxRecDepth 100000 in
theorem fx_differ_e {X : Nat} {xs : Nat → Int32} {d : Nat} {N : Nat} {σ : am_S} {o : Int32 × am_S} (h : fx_differ N σ = some o) : am_Ev am_sh (am_exx X xs) (d + 2) mm_101 0 [.ref 0] [] σ (some (.int o.1)) o.2 := by
  unfold fx_differ at h
  refine ev_aload_n (pc' := 1) rfl rfl rfl ?_
  refine ev_getfield (pc' := 4) (w := .ref 21) rfl rfl rfl rfl ?_
  refine ev_iconst (pc' := 5) (b := (0 : Int32)) rfl rfl rfl ?_
  refine am_bd h (fun q1 hq1 h => ?_)
  refine ev_call (mi := 13) (as := [.ref 21, .int (0 : Int32)]) (rest := []) rfl rfl (Nat.le_of_ble_eq_true rfl) (fx_Houses_hasProposed_e (d := d + 1) hq1) ?_
  show am_Ev _ _ _ _ 8 _ _ _ _ _
  rcases am_if h with ⟨hc2, h⟩ | ⟨hc2, h⟩
  · refine ev_if_t (pc' := 22) rfl rfl (cb_eq_t hc2) ?_
    exact fx_differ_b22_e h
  · refine ev_if_f (pc' := 11) rfl (by decide) rfl (cb_eq_f hc2) ?_
    refine ev_aload_n (pc' := 12) rfl rfl rfl ?_
    refine ev_getfield (pc' := 15) (w := .ref 21) rfl rfl rfl rfl ?_
    refine ev_iconst (pc' := 16) (b := (1 : Int32)) rfl rfl rfl ?_
    refine am_bd h (fun q3 hq3 h => ?_)
    refine ev_call (mi := 13) (as := [.ref 21, .int (1 : Int32)]) (rest := []) rfl rfl (Nat.le_of_ble_eq_true rfl) (fx_Houses_hasProposed_e (d := d + 1) hq3) ?_
    show am_Ev _ _ _ _ 19 _ _ _ _ _
    rcases am_if h with ⟨hc4, h⟩ | ⟨hc4, h⟩
    · refine ev_if_f (pc' := 22) rfl (by decide) rfl (cb_ne_f hc4) ?_
      exact fx_differ_b22_e h
    · refine ev_if_t (pc' := 29) rfl rfl (cb_ne_t hc4) ?_
      refine ev_aload_n (pc' := 30) rfl rfl rfl ?_
      refine ev_getfield (pc' := 33) (w := .ref 21) rfl rfl rfl rfl ?_
      refine ev_iconst (pc' := 34) (b := (0 : Int32)) rfl rfl rfl ?_
      refine ev_call (mi := 12) (as := [.ref 21, .int (0 : Int32)]) (rest := []) rfl rfl (Nat.le_of_ble_eq_true rfl) (fx_Houses_heldBy_e (d := d + 1) rfl) ?_
      show am_Ev _ _ _ _ 37 _ _ _ _ _
      refine ev_aload_n (pc' := 38) rfl rfl rfl ?_
      refine ev_getfield (pc' := 41) (w := .ref 21) rfl rfl rfl rfl ?_
      refine ev_iconst (pc' := 42) (b := (1 : Int32)) rfl rfl rfl ?_
      refine ev_call (mi := 12) (as := [.ref 21, .int (1 : Int32)]) (rest := [.ref (fx_Houses_heldBy (0 : Int32) σ)]) rfl rfl (Nat.le_of_ble_eq_true rfl) (fx_Houses_heldBy_e (d := d + 1) rfl) ?_
      show am_Ev _ _ _ _ 45 _ _ _ _ _
      rcases am_if h with ⟨hc5, h⟩ | ⟨hc5, h⟩
      · rw [hc5.1, hc5.2]
        refine am_bd h (fun q6 hq6 h => ?_)
        refine ev_call (mi := 77) (as := [.ref 25, .ref 25]) (rest := []) rfl rfl (Nat.le_of_ble_eq_true rfl) (fx_Text_firstUnlike_25_25_e (d := d) hq6) ?_
        show am_Ev _ _ _ _ 48 _ _ _ _ _
        obtain rfl := Option.some.inj h
        exact ev_ireturn rfl rfl
      rcases am_if h with ⟨hc7, h⟩ | ⟨hc7, h⟩
      · rw [hc7.1, hc7.2]
        refine am_bd h (fun q8 hq8 h => ?_)
        refine ev_call (mi := 77) (as := [.ref 25, .ref 28]) (rest := []) rfl rfl (Nat.le_of_ble_eq_true rfl) (fx_Text_firstUnlike_e (d := d) hq8) ?_
        show am_Ev _ _ _ _ 48 _ _ _ _ _
        obtain rfl := Option.some.inj h
        exact ev_ireturn rfl rfl
      rcases am_if h with ⟨hc9, h⟩ | ⟨hc9, h⟩
      · rw [hc9.1, hc9.2]
        refine am_bd h (fun q10 hq10 h => ?_)
        refine ev_call (mi := 77) (as := [.ref 28, .ref 25]) (rest := []) rfl rfl (Nat.le_of_ble_eq_true rfl) (fx_Text_firstUnlike_28_25_e (d := d) hq10) ?_
        show am_Ev _ _ _ _ 48 _ _ _ _ _
        obtain rfl := Option.some.inj h
        exact ev_ireturn rfl rfl
      rcases am_if h with ⟨hc11, h⟩ | ⟨hc11, h⟩
      · rw [hc11.1, hc11.2]
        refine am_bd h (fun q12 hq12 h => ?_)
        refine ev_call (mi := 77) (as := [.ref 28, .ref 28]) (rest := []) rfl rfl (Nat.le_of_ble_eq_true rfl) (fx_Text_firstUnlike_28_28_e (d := d) hq12) ?_
        show am_Ev _ _ _ _ 48 _ _ _ _ _
        obtain rfl := Option.some.inj h
        exact ev_ireturn rfl rfl
      cases h
/-! PartedLand$Estate.isKind ('I',): T -/
def fx_Estate_isKind (a0 : Int32) (σ : am_S) : Int32 := (if a0 < 0 then (0 : Int32) else (if (7 : Int32) ≤ a0 then (0 : Int32) else (1 : Int32)))
set_option maxRecDepth 100000 in
theorem fx_Estate_isKind_e {X : Nat} {xs : Nat → Int32} {d : Nat} {a0 : Int32} {σ : am_S} {o : Int32} (h : fx_Estate_isKind a0 σ = o) : am_Ev am_sh (am_exx X xs) (d + 0) mm_4 0 [.int a0] [] σ (some (.int o)) σ := by
  unfold fx_Estate_isKind at h
  refine ev_iload_n (pc' := 1) rfl rfl rfl ?_
  rcases am_if h with ⟨hc1, h⟩ | ⟨hc1, h⟩
  · refine ev_if_t (pc' := 16) rfl rfl (cb_lt_t hc1) ?_
    refine ev_iconst (pc' := 17) (b := (0 : Int32)) rfl rfl rfl ?_
    subst h
    exact ev_zreturn rfl rfl rfl
  · refine ev_if_f (pc' := 4) rfl (by decide) rfl (cb_lt_f hc1) ?_
    refine ev_iload_n (pc' := 5) rfl rfl rfl ?_
    refine ev_getstatic (pc' := 8) rfl rfl rfl ?_
    refine ev_arraylength (pc' := 9) (b := (7 : Int32)) rfl rfl rfl rfl ?_
    rcases am_if h with ⟨hc2, h⟩ | ⟨hc2, h⟩
    · refine ev_ic_t (pc' := 16) rfl rfl (cb_ge_t hc2) ?_
      refine ev_iconst (pc' := 17) (b := (0 : Int32)) rfl rfl rfl ?_
      subst h
      exact ev_zreturn rfl rfl rfl
    · refine ev_ic_f (pc' := 12) rfl (by decide) rfl (cb_ge_f hc2) ?_
      refine ev_iconst (pc' := 13) (b := (1 : Int32)) rfl rfl rfl ?_
      refine ev_goto (pc' := 17) rfl rfl ?_
      subst h
      exact ev_zreturn rfl rfl rfl
/-! PartedLand$Estate.isUnder ('I', 'I'): P -/
def fx_Estate_isUnder_b4 (N : Nat) : Nat → Int32 → Int32 → Int32 → am_S → Option Int32
  | 0, _, _, _, _ => none
  | n + 1, x1, x2, x3, σ => (if (7 : Int32) ≤ x3 then some (0 : Int32) else (if (fx_Estate_isKind x2 σ) = 0 then some (0 : Int32) else (if x2 = x1 then some (1 : Int32) else am_g (am_in x2 7) <| fx_Estate_isUnder_b4 N n x1 (am_abv x2.toNatClampNeg) (x3 + (1 : Int32)) σ)))
set_option maxRecDepth 100000 in
theorem fx_Estate_isUnder_b4_e {X : Nat} {xs : Nat → Int32} {d : Nat} {N : Nat} : ∀ {n : Nat} {x1 : Int32} {x2 : Int32} {x3 : Int32} {w0 : Value} {σ : am_S} {o : Int32}, fx_Estate_isUnder_b4 N n x1 x2 x3 σ = some o → am_Ev am_sh (am_exx X xs) (d + 1) mm_5 4 [w0, .int x1, .int x2, .int x3] [] σ (some (.int o)) σ := by
  intro n
  induction n with
  | zero => intro x1 x2 x3 w0 σ o h; cases h
  | succ n ih =>
    intro x1 x2 x3 w0 σ o h
    unfold fx_Estate_isUnder_b4 at h
    refine ev_iload_n (pc' := 5) rfl rfl rfl ?_
    refine ev_getstatic (pc' := 8) rfl rfl rfl ?_
    refine ev_arraylength (pc' := 9) (b := (7 : Int32)) rfl rfl rfl rfl ?_
    rcases am_if h with ⟨hc1, h⟩ | ⟨hc1, h⟩
    · refine ev_ic_t (pc' := 38) rfl rfl (cb_ge_t hc1) ?_
      refine ev_iconst (pc' := 39) (b := (0 : Int32)) rfl rfl rfl ?_
      obtain rfl := Option.some.inj h
      exact ev_zreturn rfl rfl rfl
    · refine ev_ic_f (pc' := 12) rfl (by decide) rfl (cb_ge_f hc1) ?_
      refine ev_iload_n (pc' := 13) rfl rfl rfl ?_
      refine ev_call (mi := 4) (as := [.int x2]) (rest := []) rfl rfl (Nat.le_of_ble_eq_true rfl) (fx_Estate_isKind_e (d := d) rfl) ?_
      show am_Ev _ _ _ _ 16 _ _ _ _ _
      rcases am_if h with ⟨hc2, h⟩ | ⟨hc2, h⟩
      · refine ev_if_t (pc' := 38) rfl rfl (cb_eq_t hc2) ?_
        refine ev_iconst (pc' := 39) (b := (0 : Int32)) rfl rfl rfl ?_
        obtain rfl := Option.some.inj h
        exact ev_zreturn rfl rfl rfl
      · refine ev_if_f (pc' := 19) rfl (by decide) rfl (cb_eq_f hc2) ?_
        refine ev_iload_n (pc' := 20) rfl rfl rfl ?_
        refine ev_iload_n (pc' := 21) rfl rfl rfl ?_
        rcases am_if h with ⟨hc3, h⟩ | ⟨hc3, h⟩
        · refine ev_ic_f (pc' := 24) rfl (by decide) rfl (cb_ne_f hc3) ?_
          refine ev_iconst (pc' := 25) (b := (1 : Int32)) rfl rfl rfl ?_
          obtain rfl := Option.some.inj h
          exact ev_zreturn rfl rfl rfl
        · refine ev_ic_t (pc' := 26) rfl rfl (cb_ne_t hc3) ?_
          refine ev_getstatic (pc' := 29) rfl rfl rfl ?_
          refine ev_iload_n (pc' := 30) rfl rfl rfl ?_
          obtain ⟨hg4, h⟩ := am_g_some h
          refine ev_iaload_x (pc' := 31) rfl rfl rfl rfl hg4 ?_
          refine ev_istore_n (pc' := 32) (L' := [w0, .int x1, .int (am_abv x2.toNatClampNeg), .int x3]) rfl rfl rfl rfl ?_
          refine ev_iinc (pc' := 35) (L' := [w0, .int x1, .int (am_abv x2.toNatClampNeg), .int (x3 + (1 : Int32))]) (b := (1 : Int32)) rfl rfl rfl rfl rfl ?_
          refine ev_goto (pc' := 4) rfl rfl ?_
          exact ih h
def fx_Estate_isUnder (N : Nat) (a0 : Int32) (a1 : Int32) (σ : am_S) : Option Int32 := fx_Estate_isUnder_b4 N N a1 a0 (0 : Int32) σ
set_option maxRecDepth 100000 in
theorem fx_Estate_isUnder_e {X : Nat} {xs : Nat → Int32} {d : Nat} {N : Nat} {a0 : Int32} {a1 : Int32} {σ : am_S} {o : Int32} (h : fx_Estate_isUnder N a0 a1 σ = some o) : am_Ev am_sh (am_exx X xs) (d + 1) mm_5 0 [.int a0, .int a1, .null, .null] [] σ (some (.int o)) σ := by
  unfold fx_Estate_isUnder at h
  refine ev_iload_n (pc' := 1) rfl rfl rfl ?_
  refine ev_istore_n (pc' := 2) (L' := [.int a0, .int a1, .int a0, .null]) rfl rfl rfl rfl ?_
  refine ev_iconst (pc' := 3) (b := (0 : Int32)) rfl rfl rfl ?_
  refine ev_istore_n (pc' := 4) (L' := [.int a0, .int a1, .int a0, .int (0 : Int32)]) rfl rfl rfl rfl ?_
  exact fx_Estate_isUnder_b4_e h
/-! PartedLand$Estate.hasThing (34, 'I'): T -/
def fx_Estate_hasThing (a1 : Int32) (σ : am_S) : Int32 := (if a1 < 0 then (0 : Int32) else (if (σ 34 6) ≤ a1 then (0 : Int32) else (1 : Int32)))
set_option maxRecDepth 100000 in
theorem fx_Estate_hasThing_e {X : Nat} {xs : Nat → Int32} {d : Nat} {a1 : Int32} {σ : am_S} {o : Int32} (h : fx_Estate_hasThing a1 σ = o) : am_Ev am_sh (am_exx X xs) (d + 0) mm_6 0 [.ref 34, .int a1] [] σ (some (.int o)) σ := by
  unfold fx_Estate_hasThing at h
  refine ev_iload_n (pc' := 1) rfl rfl rfl ?_
  rcases am_if h with ⟨hc1, h⟩ | ⟨hc1, h⟩
  · refine ev_if_t (pc' := 16) rfl rfl (cb_lt_t hc1) ?_
    refine ev_iconst (pc' := 17) (b := (0 : Int32)) rfl rfl rfl ?_
    subst h
    exact ev_zreturn rfl rfl rfl
  · refine ev_if_f (pc' := 4) rfl (by decide) rfl (cb_lt_f hc1) ?_
    refine ev_iload_n (pc' := 5) rfl rfl rfl ?_
    refine ev_aload_n (pc' := 6) rfl rfl rfl ?_
    refine ev_getfield (pc' := 9) (w := .int (σ 34 6)) rfl rfl rfl rfl ?_
    rcases am_if h with ⟨hc2, h⟩ | ⟨hc2, h⟩
    · refine ev_ic_t (pc' := 16) rfl rfl (cb_ge_t hc2) ?_
      refine ev_iconst (pc' := 17) (b := (0 : Int32)) rfl rfl rfl ?_
      subst h
      exact ev_zreturn rfl rfl rfl
    · refine ev_ic_f (pc' := 12) rfl (by decide) rfl (cb_ge_f hc2) ?_
      refine ev_iconst (pc' := 13) (b := (1 : Int32)) rfl rfl rfl ?_
      refine ev_goto (pc' := 17) rfl rfl ?_
      subst h
      exact ev_zreturn rfl rfl rfl
/-! PartedLand$Estate.isOf (34, 'I', 'I'): P -/
def fx_Estate_isOf (N : Nat) (a1 : Int32) (a2 : Int32) (σ : am_S) : Option Int32 := am_g (am_in a1 24) <| (fx_Estate_isUnder N (σ 35 a1.toNatClampNeg) a2 σ).bind fun q2 => am_g (am_bo q2) <| some q2
set_option maxRecDepth 100000 in
theorem fx_Estate_isOf_e {X : Nat} {xs : Nat → Int32} {d : Nat} {N : Nat} {a1 : Int32} {a2 : Int32} {σ : am_S} {o : Int32} (h : fx_Estate_isOf N a1 a2 σ = some o) : am_Ev am_sh (am_exx X xs) (d + 2) mm_7 0 [.ref 34, .int a1, .int a2] [] σ (some (.int o)) σ := by
  unfold fx_Estate_isOf at h
  refine ev_aload_n (pc' := 1) rfl rfl rfl ?_
  refine ev_getfield (pc' := 4) (w := .ref 35) rfl rfl rfl rfl ?_
  refine ev_iload_n (pc' := 5) rfl rfl rfl ?_
  obtain ⟨hg1, h⟩ := am_g_some h
  refine ev_iaload (pc' := 6) rfl rfl rfl hg1 ?_
  refine ev_iload_n (pc' := 7) rfl rfl rfl ?_
  refine am_bd h (fun q2 hq2 h => ?_)
  refine ev_call (mi := 5) (as := [.int (σ 35 a1.toNatClampNeg), .int a2]) (rest := []) rfl rfl (Nat.le_of_ble_eq_true rfl) (fx_Estate_isUnder_e (d := d) hq2) ?_
  show am_Ev _ _ _ _ 10 _ _ _ _ _
  obtain ⟨hg3, h⟩ := am_g_some h
  obtain rfl := Option.some.inj h
  exact ev_zreturn rfl rfl hg3
/-! PartedLand.isPlaceOf (0, 'I', 'I'): P -/
def fx_isPlaceOf (N : Nat) (a1 : Int32) (a2 : Int32) (σ : am_S) : Option Int32 := (fx_Estate_isUnder N a1 (1 : Int32) σ).bind fun q1 => (if q1 = 0 then (if a1 = (5 : Int32) then (if (fx_Estate_hasThing a2 σ) = 0 then some (0 : Int32) else (fx_Estate_isOf N a2 (1 : Int32) σ).bind fun q5 => (if q5 = 0 then some (0 : Int32) else some (1 : Int32))) else (if a2 = 0 then some (1 : Int32) else some (0 : Int32))) else am_g (am_bo (fx_Land_hasParish a2 σ)) <| some (fx_Land_hasParish a2 σ))
set_option maxRecDepth 100000 in
theorem fx_isPlaceOf_e {X : Nat} {xs : Nat → Int32} {d : Nat} {N : Nat} {a1 : Int32} {a2 : Int32} {σ : am_S} {o : Int32} (h : fx_isPlaceOf N a1 a2 σ = some o) : am_Ev am_sh (am_exx X xs) (d + 3) mm_131 0 [.ref 0, .int a1, .int a2] [] σ (some (.int o)) σ := by
  unfold fx_isPlaceOf at h
  refine ev_iload_n (pc' := 1) rfl rfl rfl ?_
  refine ev_iconst (pc' := 2) (b := (1 : Int32)) rfl rfl rfl ?_
  refine am_bd h (fun q1 hq1 h => ?_)
  refine ev_call (mi := 5) (as := [.int a1, .int (1 : Int32)]) (rest := []) rfl rfl (Nat.le_of_ble_eq_true rfl) (fx_Estate_isUnder_e (d := d + 1) hq1) ?_
  show am_Ev _ _ _ _ 5 _ _ _ _ _
  rcases am_if h with ⟨hc2, h⟩ | ⟨hc2, h⟩
  · refine ev_if_t (pc' := 17) rfl rfl (cb_eq_t hc2) ?_
    refine ev_iload_n (pc' := 18) rfl rfl rfl ?_
    refine ev_iconst (pc' := 19) (b := (5 : Int32)) rfl rfl rfl ?_
    rcases am_if h with ⟨hc3, h⟩ | ⟨hc3, h⟩
    · refine ev_ic_f (pc' := 22) rfl (by decide) rfl (cb_ne_f hc3) ?_
      refine ev_aload_n (pc' := 23) rfl rfl rfl ?_
      refine ev_getfield (pc' := 26) (w := .ref 34) rfl rfl rfl rfl ?_
      refine ev_iload_n (pc' := 27) rfl rfl rfl ?_
      refine ev_call (mi := 6) (as := [.ref 34, .int a2]) (rest := []) rfl rfl (Nat.le_of_ble_eq_true rfl) (fx_Estate_hasThing_e (d := d + 2) rfl) ?_
      show am_Ev _ _ _ _ 30 _ _ _ _ _
      rcases am_if h with ⟨hc4, h⟩ | ⟨hc4, h⟩
      · refine ev_if_t (pc' := 49) rfl rfl (cb_eq_t hc4) ?_
        refine ev_iconst (pc' := 50) (b := (0 : Int32)) rfl rfl rfl ?_
        obtain rfl := Option.some.inj h
        exact ev_zreturn rfl rfl rfl
      · refine ev_if_f (pc' := 33) rfl (by decide) rfl (cb_eq_f hc4) ?_
        refine ev_aload_n (pc' := 34) rfl rfl rfl ?_
        refine ev_getfield (pc' := 37) (w := .ref 34) rfl rfl rfl rfl ?_
        refine ev_iload_n (pc' := 38) rfl rfl rfl ?_
        refine ev_iconst (pc' := 39) (b := (1 : Int32)) rfl rfl rfl ?_
        refine am_bd h (fun q5 hq5 h => ?_)
        refine ev_call (mi := 7) (as := [.ref 34, .int a2, .int (1 : Int32)]) (rest := []) rfl rfl (Nat.le_of_ble_eq_true rfl) (fx_Estate_isOf_e (d := d) hq5) ?_
        show am_Ev _ _ _ _ 42 _ _ _ _ _
        rcases am_if h with ⟨hc6, h⟩ | ⟨hc6, h⟩
        · refine ev_if_t (pc' := 49) rfl rfl (cb_eq_t hc6) ?_
          refine ev_iconst (pc' := 50) (b := (0 : Int32)) rfl rfl rfl ?_
          obtain rfl := Option.some.inj h
          exact ev_zreturn rfl rfl rfl
        · refine ev_if_f (pc' := 45) rfl (by decide) rfl (cb_eq_f hc6) ?_
          refine ev_iconst (pc' := 46) (b := (1 : Int32)) rfl rfl rfl ?_
          refine ev_goto (pc' := 50) rfl rfl ?_
          obtain rfl := Option.some.inj h
          exact ev_zreturn rfl rfl rfl
    · refine ev_ic_t (pc' := 51) rfl rfl (cb_ne_t hc3) ?_
      refine ev_iload_n (pc' := 52) rfl rfl rfl ?_
      rcases am_if h with ⟨hc7, h⟩ | ⟨hc7, h⟩
      · refine ev_if_f (pc' := 55) rfl (by decide) rfl (cb_ne_f hc7) ?_
        refine ev_iconst (pc' := 56) (b := (1 : Int32)) rfl rfl rfl ?_
        refine ev_goto (pc' := 60) rfl rfl ?_
        obtain rfl := Option.some.inj h
        exact ev_zreturn rfl rfl rfl
      · refine ev_if_t (pc' := 59) rfl rfl (cb_ne_t hc7) ?_
        refine ev_iconst (pc' := 60) (b := (0 : Int32)) rfl rfl rfl ?_
        obtain rfl := Option.some.inj h
        exact ev_zreturn rfl rfl rfl
  · refine ev_if_f (pc' := 8) rfl (by decide) rfl (cb_eq_f hc2) ?_
    refine ev_aload_n (pc' := 9) rfl rfl rfl ?_
    refine ev_getfield (pc' := 12) (w := .ref 1) rfl rfl rfl rfl ?_
    refine ev_iload_n (pc' := 13) rfl rfl rfl ?_
    refine ev_call (mi := 27) (as := [.ref 1, .int a2]) (rest := []) rfl rfl (Nat.le_of_ble_eq_true rfl) (fx_Land_hasParish_e (d := d + 2) rfl) ?_
    show am_Ev _ _ _ _ 16 _ _ _ _ _
    obtain ⟨hg8, h⟩ := am_g_some h
    obtain rfl := Option.some.inj h
    exact ev_zreturn rfl rfl hg8
/-! PartedLand$Estate.addThing (34, 'I', 'I', 'I'): S -/
def fx_Estate_addThing (a1 : Int32) (a2 : Int32) (a3 : Int32) (σ : am_S) : Option (Int32 × am_S) := am_g (am_in (σ 34 6) 24) <| am_g (am_in (σ 34 6) 24) <| am_g (am_in (σ 34 6) 24) <| some ((((σ 34 6) + (1 : Int32)) - (1 : Int32)), (am_up (am_up (am_up (am_up σ 35 (σ 34 6).toNatClampNeg a1) 36 (σ 34 6).toNatClampNeg a2) 37 (σ 34 6).toNatClampNeg a3) 34 6 ((σ 34 6) + (1 : Int32))))
set_option maxRecDepth 100000 in
theorem fx_Estate_addThing_e {X : Nat} {xs : Nat → Int32} {d : Nat} {a1 : Int32} {a2 : Int32} {a3 : Int32} {σ : am_S} {o : Int32 × am_S} (h : fx_Estate_addThing a1 a2 a3 σ = some o) : am_Ev am_sh (am_exx X xs) (d + 0) mm_8 0 [.ref 34, .int a1, .int a2, .int a3] [] σ (some (.int o.1)) o.2 := by
  unfold fx_Estate_addThing at h
  refine ev_aload_n (pc' := 1) rfl rfl rfl ?_
  refine ev_getfield (pc' := 4) (w := .ref 35) rfl rfl rfl rfl ?_
  refine ev_aload_n (pc' := 5) rfl rfl rfl ?_
  refine ev_getfield (pc' := 8) (w := .int (σ 34 6)) rfl rfl rfl rfl ?_
  refine ev_iload_n (pc' := 9) rfl rfl rfl ?_
  obtain ⟨hg1, h⟩ := am_g_some h
  refine ev_iastore (pc' := 10) rfl rfl rfl hg1 ?_
  refine ev_aload_n (pc' := 11) rfl rfl rfl ?_
  refine ev_getfield (pc' := 14) (w := .ref 36) rfl rfl rfl rfl ?_
  refine ev_aload_n (pc' := 15) rfl rfl rfl ?_
  refine ev_getfield (pc' := 18) (w := .int (σ 34 6)) rfl rfl rfl rfl ?_
  refine ev_iload_n (pc' := 19) rfl rfl rfl ?_
  obtain ⟨hg2, h⟩ := am_g_some h
  refine ev_iastore (pc' := 20) rfl rfl rfl hg2 ?_
  refine ev_aload_n (pc' := 21) rfl rfl rfl ?_
  refine ev_getfield (pc' := 24) (w := .ref 37) rfl rfl rfl rfl ?_
  refine ev_aload_n (pc' := 25) rfl rfl rfl ?_
  refine ev_getfield (pc' := 28) (w := .int (σ 34 6)) rfl rfl rfl rfl ?_
  refine ev_iload_n (pc' := 29) rfl rfl rfl ?_
  obtain ⟨hg3, h⟩ := am_g_some h
  refine ev_iastore (pc' := 30) rfl rfl rfl hg3 ?_
  refine ev_aload_n (pc' := 31) rfl rfl rfl ?_
  refine ev_dup (pc' := 32) rfl rfl ?_
  refine ev_getfield (pc' := 35) (w := .int (σ 34 6)) rfl rfl rfl rfl ?_
  refine ev_iconst (pc' := 36) (b := (1 : Int32)) rfl rfl rfl ?_
  refine ev_iadd (pc' := 37) rfl rfl ?_
  refine ev_putfield (pc' := 40) (ci := 1) (f := 6) (z := 0) rfl rfl rfl rfl rfl ?_
  refine ev_aload_n (pc' := 41) rfl rfl rfl ?_
  refine ev_getfield (pc' := 44) (w := .int ((σ 34 6) + (1 : Int32))) rfl rfl rfl rfl ?_
  refine ev_iconst (pc' := 45) (b := (1 : Int32)) rfl rfl rfl ?_
  refine ev_isub (pc' := 46) rfl rfl ?_
  obtain rfl := Option.some.inj h
  exact ev_ireturn rfl rfl
/-! PartedLand.thing (0, 'I', 'I'): S -/
def fx_thing_b15 (N : Nat) (σ : am_S) : Option (Int32 × am_S) := (fx_finding (-1000000001 : Int32) σ).bind fun q1 => some (q1.1, q1.2)
set_option maxRecDepth 100000 in
theorem fx_thing_b15_e {X : Nat} {xs : Nat → Int32} {d : Nat} {N : Nat} {w1 : Value} {w2 : Value} {w3 : Value} {w4 : Value} {σ : am_S} {o : Int32 × am_S} (h : fx_thing_b15 N σ = some o) : am_Ev am_sh (am_exx X xs) (d + 4) mm_102 15 [.ref 0, w1, w2, w3, w4] [] σ (some (.int o.1)) o.2 := by
  unfold fx_thing_b15 at h
  refine ev_aload_n (pc' := 16) rfl rfl rfl ?_
  refine ev_ldc (pc' := 18) (b := (-1000000001 : Int32)) rfl rfl rfl ?_
  refine am_bd h (fun q1 hq1 h => ?_)
  refine ev_call (mi := 129) (as := [.ref 0, .int (-1000000001 : Int32)]) (rest := []) rfl rfl (Nat.le_of_ble_eq_true rfl) (fx_finding_e (d := d + 3) hq1) ?_
  show am_Ev _ _ _ _ 21 _ _ _ _ _
  obtain rfl := Option.some.inj h
  exact ev_ireturn rfl rfl
def fx_thing_b52 (N : Nat) (σ : am_S) : Option (Int32 × am_S) := (fx_finding (-1000000001 : Int32) σ).bind fun q1 => some (q1.1, q1.2)
set_option maxRecDepth 100000 in
theorem fx_thing_b52_e {X : Nat} {xs : Nat → Int32} {d : Nat} {N : Nat} {w1 : Value} {w2 : Value} {w3 : Value} {w4 : Value} {σ : am_S} {o : Int32 × am_S} (h : fx_thing_b52 N σ = some o) : am_Ev am_sh (am_exx X xs) (d + 4) mm_102 52 [.ref 0, w1, w2, w3, w4] [] σ (some (.int o.1)) o.2 := by
  unfold fx_thing_b52 at h
  refine ev_aload_n (pc' := 53) rfl rfl rfl ?_
  refine ev_ldc (pc' := 55) (b := (-1000000001 : Int32)) rfl rfl rfl ?_
  refine am_bd h (fun q1 hq1 h => ?_)
  refine ev_call (mi := 129) (as := [.ref 0, .int (-1000000001 : Int32)]) (rest := []) rfl rfl (Nat.le_of_ble_eq_true rfl) (fx_finding_e (d := d + 3) hq1) ?_
  show am_Ev _ _ _ _ 58 _ _ _ _ _
  obtain rfl := Option.some.inj h
  exact ev_ireturn rfl rfl
def fx_thing (N : Nat) (a1 : Int32) (a2 : Int32) (σ : am_S) : Option (Int32 × am_S) := (if a1 < 0 then fx_thing_b15 N σ else (if a2 < 0 then fx_thing_b15 N σ else (if a2 ≤ (10000 : Int32) then (if (fx_Estate_isKind (a1 / (1000 : Int32)) σ) = 0 then fx_thing_b52 N σ else (fx_isPlaceOf N (a1 / (1000 : Int32)) (a1 - a1 / (1000 : Int32) * (1000 : Int32)) σ).bind fun q5 => (if q5 = 0 then fx_thing_b52 N σ else (if (σ 34 6) < (24 : Int32) then (fx_Parting_forgetAll σ).bind fun q8 => (fx_Estate_addThing (a1 / (1000 : Int32)) (a1 - a1 / (1000 : Int32) * (1000 : Int32)) a2 q8).bind fun q9 => some (q9.1, q9.2) else (fx_finding (-1000000004 : Int32) σ).bind fun q10 => some (q10.1, q10.2)))) else fx_thing_b15 N σ)))
set_option maxRecDepth 100000 in
theorem fx_thing_e {X : Nat} {xs : Nat → Int32} {d : Nat} {N : Nat} {a1 : Int32} {a2 : Int32} {σ : am_S} {o : Int32 × am_S} (h : fx_thing N a1 a2 σ = some o) : am_Ev am_sh (am_exx X xs) (d + 4) mm_102 0 [.ref 0, .int a1, .int a2, .null, .null] [] σ (some (.int o.1)) o.2 := by
  unfold fx_thing at h
  refine ev_iload_n (pc' := 1) rfl rfl rfl ?_
  rcases am_if h with ⟨hc1, h⟩ | ⟨hc1, h⟩
  · refine ev_if_t (pc' := 15) rfl rfl (cb_lt_t hc1) ?_
    exact fx_thing_b15_e h
  · refine ev_if_f (pc' := 4) rfl (by decide) rfl (cb_lt_f hc1) ?_
    refine ev_iload_n (pc' := 5) rfl rfl rfl ?_
    rcases am_if h with ⟨hc2, h⟩ | ⟨hc2, h⟩
    · refine ev_if_t (pc' := 15) rfl rfl (cb_lt_t hc2) ?_
      exact fx_thing_b15_e h
    · refine ev_if_f (pc' := 8) rfl (by decide) rfl (cb_lt_f hc2) ?_
      refine ev_iload_n (pc' := 9) rfl rfl rfl ?_
      refine ev_sipush (pc' := 12) (b := (10000 : Int32)) rfl rfl rfl ?_
      rcases am_if h with ⟨hc3, h⟩ | ⟨hc3, h⟩
      · refine ev_ic_t (pc' := 22) rfl rfl (cb_le_t hc3) ?_
        refine ev_iload_n (pc' := 23) rfl rfl rfl ?_
        refine ev_sipush (pc' := 26) (b := (1000 : Int32)) rfl rfl rfl ?_
        refine ev_idiv (pc' := 27) rfl rfl (by decide) ?_
        refine ev_istore_n (pc' := 28) (L' := [.ref 0, .int a1, .int a2, .int (a1 / (1000 : Int32)), .null]) rfl rfl rfl rfl ?_
        refine ev_iload_n (pc' := 29) rfl rfl rfl ?_
        refine ev_sipush (pc' := 32) (b := (1000 : Int32)) rfl rfl rfl ?_
        refine ev_irem (pc' := 33) rfl rfl (by decide) ?_
        refine ev_istore (pc' := 35) (L' := [.ref 0, .int a1, .int a2, .int (a1 / (1000 : Int32)), .int (a1 - a1 / (1000 : Int32) * (1000 : Int32))]) rfl rfl rfl rfl ?_
        refine ev_iload_n (pc' := 36) rfl rfl rfl ?_
        refine ev_call (mi := 4) (as := [.int (a1 / (1000 : Int32))]) (rest := []) rfl rfl (Nat.le_of_ble_eq_true rfl) (fx_Estate_isKind_e (d := d + 3) rfl) ?_
        show am_Ev _ _ _ _ 39 _ _ _ _ _
        rcases am_if h with ⟨hc4, h⟩ | ⟨hc4, h⟩
        · refine ev_if_t (pc' := 52) rfl rfl (cb_eq_t hc4) ?_
          exact fx_thing_b52_e h
        · refine ev_if_f (pc' := 42) rfl (by decide) rfl (cb_eq_f hc4) ?_
          refine ev_aload_n (pc' := 43) rfl rfl rfl ?_
          refine ev_iload_n (pc' := 44) rfl rfl rfl ?_
          refine ev_iload (pc' := 46) rfl rfl rfl ?_
          refine am_bd h (fun q5 hq5 h => ?_)
          refine ev_call (mi := 131) (as := [.ref 0, .int (a1 / (1000 : Int32)), .int (a1 - a1 / (1000 : Int32) * (1000 : Int32))]) (rest := []) rfl rfl (Nat.le_of_ble_eq_true rfl) (fx_isPlaceOf_e (d := d) hq5) ?_
          show am_Ev _ _ _ _ 49 _ _ _ _ _
          rcases am_if h with ⟨hc6, h⟩ | ⟨hc6, h⟩
          · refine ev_if_f (pc' := 52) rfl (by decide) rfl (cb_ne_f hc6) ?_
            exact fx_thing_b52_e h
          · refine ev_if_t (pc' := 59) rfl rfl (cb_ne_t hc6) ?_
            refine ev_aload_n (pc' := 60) rfl rfl rfl ?_
            refine ev_getfield (pc' := 63) (w := .ref 34) rfl rfl rfl rfl ?_
            refine ev_getfield (pc' := 66) (w := .int (σ 34 6)) rfl rfl rfl rfl ?_
            refine ev_bipush (pc' := 68) (b := (24 : Int32)) rfl rfl rfl ?_
            rcases am_if h with ⟨hc7, h⟩ | ⟨hc7, h⟩
            · refine ev_ic_t (pc' := 78) rfl rfl (cb_lt_t hc7) ?_
              refine ev_aload_n (pc' := 79) rfl rfl rfl ?_
              refine ev_getfield (pc' := 82) (w := .ref 41) rfl rfl rfl rfl ?_
              refine am_bd h (fun q8 hq8 h => ?_)
              refine ev_call (mi := 34) (as := [.ref 41]) (rest := []) rfl rfl (Nat.le_of_ble_eq_true rfl) (fx_Parting_forgetAll_e (d := d + 3) hq8) ?_
              show am_Ev _ _ _ _ 85 _ _ _ _ _
              refine ev_aload_n (pc' := 86) rfl rfl rfl ?_
              refine ev_getfield (pc' := 89) (w := .ref 34) rfl rfl rfl rfl ?_
              refine ev_iload_n (pc' := 90) rfl rfl rfl ?_
              refine ev_iload (pc' := 92) rfl rfl rfl ?_
              refine ev_iload_n (pc' := 93) rfl rfl rfl ?_
              refine am_bd h (fun q9 hq9 h => ?_)
              refine ev_call (mi := 8) (as := [.ref 34, .int (a1 / (1000 : Int32)), .int (a1 - a1 / (1000 : Int32) * (1000 : Int32)), .int a2]) (rest := []) rfl rfl (Nat.le_of_ble_eq_true rfl) (fx_Estate_addThing_e (d := d + 3) hq9) ?_
              show am_Ev _ _ _ _ 96 _ _ _ _ _
              obtain rfl := Option.some.inj h
              exact ev_ireturn rfl rfl
            · refine ev_ic_f (pc' := 71) rfl (by decide) rfl (cb_lt_f hc7) ?_
              refine ev_aload_n (pc' := 72) rfl rfl rfl ?_
              refine ev_ldc (pc' := 74) (b := (-1000000004 : Int32)) rfl rfl rfl ?_
              refine am_bd h (fun q10 hq10 h => ?_)
              refine ev_call (mi := 129) (as := [.ref 0, .int (-1000000004 : Int32)]) (rest := []) rfl rfl (Nat.le_of_ble_eq_true rfl) (fx_finding_e (d := d + 3) hq10) ?_
              show am_Ev _ _ _ _ 77 _ _ _ _ _
              obtain rfl := Option.some.inj h
              exact ev_ireturn rfl rfl
      · refine ev_ic_f (pc' := 15) rfl (by decide) rfl (cb_le_f hc3) ?_
        exact fx_thing_b15_e h
/-! PartedLand.as (0, 'I', 'I'): S -/
def fx_as_b18 (N : Nat) (σ : am_S) : Option (Int32 × am_S) := (fx_finding (-1000000001 : Int32) σ).bind fun q1 => some (q1.1, q1.2)
set_option maxRecDepth 100000 in
theorem fx_as_b18_e {X : Nat} {xs : Nat → Int32} {d : Nat} {N : Nat} {w1 : Value} {w2 : Value} {σ : am_S} {o : Int32 × am_S} (h : fx_as_b18 N σ = some o) : am_Ev am_sh (am_exx X xs) (d + 3) mm_103 18 [.ref 0, w1, w2] [] σ (some (.int o.1)) o.2 := by
  unfold fx_as_b18 at h
  refine ev_aload_n (pc' := 19) rfl rfl rfl ?_
  refine ev_ldc (pc' := 21) (b := (-1000000001 : Int32)) rfl rfl rfl ?_
  refine am_bd h (fun q1 hq1 h => ?_)
  refine ev_call (mi := 129) (as := [.ref 0, .int (-1000000001 : Int32)]) (rest := []) rfl rfl (Nat.le_of_ble_eq_true rfl) (fx_finding_e (d := d + 2) hq1) ?_
  show am_Ev _ _ _ _ 24 _ _ _ _ _
  obtain rfl := Option.some.inj h
  exact ev_ireturn rfl rfl
def fx_as (N : Nat) (a1 : Int32) (a2 : Int32) (σ : am_S) : Option (Int32 × am_S) := (if (fx_Estate_hasThing a1 σ) = 0 then fx_as_b18 N σ else (if (fx_Estate_isKind a2 σ) = 0 then fx_as_b18 N σ else (fx_Estate_isOf N a1 a2 σ).bind fun q3 => (if q3 = 0 then (fx_finding (-1000000005 : Int32) σ).bind fun q5 => some (q5.1, q5.2) else am_g (am_in a1 24) <| some ((σ 37 a1.toNatClampNeg), σ))))
set_option maxRecDepth 100000 in
theorem fx_as_e {X : Nat} {xs : Nat → Int32} {d : Nat} {N : Nat} {a1 : Int32} {a2 : Int32} {σ : am_S} {o : Int32 × am_S} (h : fx_as N a1 a2 σ = some o) : am_Ev am_sh (am_exx X xs) (d + 3) mm_103 0 [.ref 0, .int a1, .int a2] [] σ (some (.int o.1)) o.2 := by
  unfold fx_as at h
  refine ev_aload_n (pc' := 1) rfl rfl rfl ?_
  refine ev_getfield (pc' := 4) (w := .ref 34) rfl rfl rfl rfl ?_
  refine ev_iload_n (pc' := 5) rfl rfl rfl ?_
  refine ev_call (mi := 6) (as := [.ref 34, .int a1]) (rest := []) rfl rfl (Nat.le_of_ble_eq_true rfl) (fx_Estate_hasThing_e (d := d + 2) rfl) ?_
  show am_Ev _ _ _ _ 8 _ _ _ _ _
  rcases am_if h with ⟨hc1, h⟩ | ⟨hc1, h⟩
  · refine ev_if_t (pc' := 18) rfl rfl (cb_eq_t hc1) ?_
    exact fx_as_b18_e h
  · refine ev_if_f (pc' := 11) rfl (by decide) rfl (cb_eq_f hc1) ?_
    refine ev_iload_n (pc' := 12) rfl rfl rfl ?_
    refine ev_call (mi := 4) (as := [.int a2]) (rest := []) rfl rfl (Nat.le_of_ble_eq_true rfl) (fx_Estate_isKind_e (d := d + 2) rfl) ?_
    show am_Ev _ _ _ _ 15 _ _ _ _ _
    rcases am_if h with ⟨hc2, h⟩ | ⟨hc2, h⟩
    · refine ev_if_f (pc' := 18) rfl (by decide) rfl (cb_ne_f hc2) ?_
      exact fx_as_b18_e h
    · refine ev_if_t (pc' := 25) rfl rfl (cb_ne_t hc2) ?_
      refine ev_aload_n (pc' := 26) rfl rfl rfl ?_
      refine ev_getfield (pc' := 29) (w := .ref 34) rfl rfl rfl rfl ?_
      refine ev_iload_n (pc' := 30) rfl rfl rfl ?_
      refine ev_iload_n (pc' := 31) rfl rfl rfl ?_
      refine am_bd h (fun q3 hq3 h => ?_)
      refine ev_call (mi := 7) (as := [.ref 34, .int a1, .int a2]) (rest := []) rfl rfl (Nat.le_of_ble_eq_true rfl) (fx_Estate_isOf_e (d := d) hq3) ?_
      show am_Ev _ _ _ _ 34 _ _ _ _ _
      rcases am_if h with ⟨hc4, h⟩ | ⟨hc4, h⟩
      · refine ev_if_t (pc' := 49) rfl rfl (cb_eq_t hc4) ?_
        refine ev_aload_n (pc' := 50) rfl rfl rfl ?_
        refine ev_ldc_w (pc' := 53) (b := (-1000000005 : Int32)) rfl rfl rfl ?_
        refine am_bd h (fun q5 hq5 h => ?_)
        refine ev_call (mi := 129) (as := [.ref 0, .int (-1000000005 : Int32)]) (rest := []) rfl rfl (Nat.le_of_ble_eq_true rfl) (fx_finding_e (d := d + 2) hq5) ?_
        show am_Ev _ _ _ _ 56 _ _ _ _ _
        obtain rfl := Option.some.inj h
        exact ev_ireturn rfl rfl
      · refine ev_if_f (pc' := 37) rfl (by decide) rfl (cb_eq_f hc4) ?_
        refine ev_aload_n (pc' := 38) rfl rfl rfl ?_
        refine ev_getfield (pc' := 41) (w := .ref 34) rfl rfl rfl rfl ?_
        refine ev_getfield (pc' := 44) (w := .ref 37) rfl rfl rfl rfl ?_
        refine ev_iload_n (pc' := 45) rfl rfl rfl ?_
        obtain ⟨hg6, h⟩ := am_g_some h
        refine ev_iaload (pc' := 46) rfl rfl rfl hg6 ?_
        refine ev_goto (pc' := 56) rfl rfl ?_
        obtain rfl := Option.some.inj h
        exact ev_ireturn rfl rfl
/-! PartedLand$Estate.addTie (34, 'I', 'I'): S -/
def fx_Estate_addTie (a1 : Int32) (a2 : Int32) (σ : am_S) : Option (Int32 × am_S) := am_g (am_in (σ 34 7) 12) <| am_g (am_in (σ 34 7) 12) <| some (((σ 34 7) + (1 : Int32)), (am_up (am_up (am_up σ 39 (σ 34 7).toNatClampNeg a1) 40 (σ 34 7).toNatClampNeg a2) 34 7 ((σ 34 7) + (1 : Int32))))
set_option maxRecDepth 100000 in
theorem fx_Estate_addTie_e {X : Nat} {xs : Nat → Int32} {d : Nat} {a1 : Int32} {a2 : Int32} {σ : am_S} {o : Int32 × am_S} (h : fx_Estate_addTie a1 a2 σ = some o) : am_Ev am_sh (am_exx X xs) (d + 0) mm_9 0 [.ref 34, .int a1, .int a2] [] σ (some (.int o.1)) o.2 := by
  unfold fx_Estate_addTie at h
  refine ev_aload_n (pc' := 1) rfl rfl rfl ?_
  refine ev_getfield (pc' := 4) (w := .ref 39) rfl rfl rfl rfl ?_
  refine ev_aload_n (pc' := 5) rfl rfl rfl ?_
  refine ev_getfield (pc' := 8) (w := .int (σ 34 7)) rfl rfl rfl rfl ?_
  refine ev_iload_n (pc' := 9) rfl rfl rfl ?_
  obtain ⟨hg1, h⟩ := am_g_some h
  refine ev_iastore (pc' := 10) rfl rfl rfl hg1 ?_
  refine ev_aload_n (pc' := 11) rfl rfl rfl ?_
  refine ev_getfield (pc' := 14) (w := .ref 40) rfl rfl rfl rfl ?_
  refine ev_aload_n (pc' := 15) rfl rfl rfl ?_
  refine ev_getfield (pc' := 18) (w := .int (σ 34 7)) rfl rfl rfl rfl ?_
  refine ev_iload_n (pc' := 19) rfl rfl rfl ?_
  obtain ⟨hg2, h⟩ := am_g_some h
  refine ev_iastore (pc' := 20) rfl rfl rfl hg2 ?_
  refine ev_aload_n (pc' := 21) rfl rfl rfl ?_
  refine ev_dup (pc' := 22) rfl rfl ?_
  refine ev_getfield (pc' := 25) (w := .int (σ 34 7)) rfl rfl rfl rfl ?_
  refine ev_iconst (pc' := 26) (b := (1 : Int32)) rfl rfl rfl ?_
  refine ev_iadd (pc' := 27) rfl rfl ?_
  refine ev_putfield (pc' := 30) (ci := 1) (f := 7) (z := 0) rfl rfl rfl rfl rfl ?_
  refine ev_aload_n (pc' := 31) rfl rfl rfl ?_
  refine ev_getfield (pc' := 34) (w := .int ((σ 34 7) + (1 : Int32))) rfl rfl rfl rfl ?_
  obtain rfl := Option.some.inj h
  exact ev_ireturn rfl rfl
/-! PartedLand.tie (0, 'I', 'I'): S -/
def fx_tie_b27 (N : Nat) (σ : am_S) : Option (Int32 × am_S) := (fx_finding (-1000000001 : Int32) σ).bind fun q1 => some (q1.1, q1.2)
set_option maxRecDepth 100000 in
theorem fx_tie_b27_e {X : Nat} {xs : Nat → Int32} {d : Nat} {N : Nat} {w1 : Value} {w2 : Value} {σ : am_S} {o : Int32 × am_S} (h : fx_tie_b27 N σ = some o) : am_Ev am_sh (am_exx X xs) (d + 3) mm_104 27 [.ref 0, w1, w2] [] σ (some (.int o.1)) o.2 := by
  unfold fx_tie_b27 at h
  refine ev_aload_n (pc' := 28) rfl rfl rfl ?_
  refine ev_ldc (pc' := 30) (b := (-1000000001 : Int32)) rfl rfl rfl ?_
  refine am_bd h (fun q1 hq1 h => ?_)
  refine ev_call (mi := 129) (as := [.ref 0, .int (-1000000001 : Int32)]) (rest := []) rfl rfl (Nat.le_of_ble_eq_true rfl) (fx_finding_e (d := d + 2) hq1) ?_
  show am_Ev _ _ _ _ 33 _ _ _ _ _
  obtain rfl := Option.some.inj h
  exact ev_ireturn rfl rfl
def fx_tie_b58 (N : Nat) (σ : am_S) : Option (Int32 × am_S) := (fx_finding (-1000000005 : Int32) σ).bind fun q1 => some (q1.1, q1.2)
set_option maxRecDepth 100000 in
theorem fx_tie_b58_e {X : Nat} {xs : Nat → Int32} {d : Nat} {N : Nat} {w1 : Value} {w2 : Value} {σ : am_S} {o : Int32 × am_S} (h : fx_tie_b58 N σ = some o) : am_Ev am_sh (am_exx X xs) (d + 3) mm_104 58 [.ref 0, w1, w2] [] σ (some (.int o.1)) o.2 := by
  unfold fx_tie_b58 at h
  refine ev_aload_n (pc' := 59) rfl rfl rfl ?_
  refine ev_ldc_w (pc' := 62) (b := (-1000000005 : Int32)) rfl rfl rfl ?_
  refine am_bd h (fun q1 hq1 h => ?_)
  refine ev_call (mi := 129) (as := [.ref 0, .int (-1000000005 : Int32)]) (rest := []) rfl rfl (Nat.le_of_ble_eq_true rfl) (fx_finding_e (d := d + 2) hq1) ?_
  show am_Ev _ _ _ _ 65 _ _ _ _ _
  obtain rfl := Option.some.inj h
  exact ev_ireturn rfl rfl
def fx_tie (N : Nat) (a1 : Int32) (a2 : Int32) (σ : am_S) : Option (Int32 × am_S) := (if (fx_Estate_hasThing a1 σ) = 0 then fx_tie_b27 N σ else (if (fx_Estate_hasThing a2 σ) = 0 then fx_tie_b27 N σ else (if a1 = a2 then fx_tie_b27 N σ else (fx_Estate_isOf N a1 (3 : Int32) σ).bind fun q4 => (if q4 = 0 then fx_tie_b58 N σ else (fx_Estate_isOf N a2 (3 : Int32) σ).bind fun q6 => (if q6 = 0 then fx_tie_b58 N σ else (if (σ 34 7) < (12 : Int32) then (fx_Parting_forgetAll σ).bind fun q9 => (fx_Estate_addTie a1 a2 q9).bind fun q10 => some (q10.1, q10.2) else (fx_finding (-1000000004 : Int32) σ).bind fun q11 => some (q11.1, q11.2)))))))
set_option maxRecDepth 100000 in
theorem fx_tie_e {X : Nat} {xs : Nat → Int32} {d : Nat} {N : Nat} {a1 : Int32} {a2 : Int32} {σ : am_S} {o : Int32 × am_S} (h : fx_tie N a1 a2 σ = some o) : am_Ev am_sh (am_exx X xs) (d + 3) mm_104 0 [.ref 0, .int a1, .int a2] [] σ (some (.int o.1)) o.2 := by
  unfold fx_tie at h
  refine ev_aload_n (pc' := 1) rfl rfl rfl ?_
  refine ev_getfield (pc' := 4) (w := .ref 34) rfl rfl rfl rfl ?_
  refine ev_iload_n (pc' := 5) rfl rfl rfl ?_
  refine ev_call (mi := 6) (as := [.ref 34, .int a1]) (rest := []) rfl rfl (Nat.le_of_ble_eq_true rfl) (fx_Estate_hasThing_e (d := d + 2) rfl) ?_
  show am_Ev _ _ _ _ 8 _ _ _ _ _
  rcases am_if h with ⟨hc1, h⟩ | ⟨hc1, h⟩
  · refine ev_if_t (pc' := 27) rfl rfl (cb_eq_t hc1) ?_
    exact fx_tie_b27_e h
  · refine ev_if_f (pc' := 11) rfl (by decide) rfl (cb_eq_f hc1) ?_
    refine ev_aload_n (pc' := 12) rfl rfl rfl ?_
    refine ev_getfield (pc' := 15) (w := .ref 34) rfl rfl rfl rfl ?_
    refine ev_iload_n (pc' := 16) rfl rfl rfl ?_
    refine ev_call (mi := 6) (as := [.ref 34, .int a2]) (rest := []) rfl rfl (Nat.le_of_ble_eq_true rfl) (fx_Estate_hasThing_e (d := d + 2) rfl) ?_
    show am_Ev _ _ _ _ 19 _ _ _ _ _
    rcases am_if h with ⟨hc2, h⟩ | ⟨hc2, h⟩
    · refine ev_if_t (pc' := 27) rfl rfl (cb_eq_t hc2) ?_
      exact fx_tie_b27_e h
    · refine ev_if_f (pc' := 22) rfl (by decide) rfl (cb_eq_f hc2) ?_
      refine ev_iload_n (pc' := 23) rfl rfl rfl ?_
      refine ev_iload_n (pc' := 24) rfl rfl rfl ?_
      rcases am_if h with ⟨hc3, h⟩ | ⟨hc3, h⟩
      · refine ev_ic_f (pc' := 27) rfl (by decide) rfl (cb_ne_f hc3) ?_
        exact fx_tie_b27_e h
      · refine ev_ic_t (pc' := 34) rfl rfl (cb_ne_t hc3) ?_
        refine ev_aload_n (pc' := 35) rfl rfl rfl ?_
        refine ev_getfield (pc' := 38) (w := .ref 34) rfl rfl rfl rfl ?_
        refine ev_iload_n (pc' := 39) rfl rfl rfl ?_
        refine ev_iconst (pc' := 40) (b := (3 : Int32)) rfl rfl rfl ?_
        refine am_bd h (fun q4 hq4 h => ?_)
        refine ev_call (mi := 7) (as := [.ref 34, .int a1, .int (3 : Int32)]) (rest := []) rfl rfl (Nat.le_of_ble_eq_true rfl) (fx_Estate_isOf_e (d := d) hq4) ?_
        show am_Ev _ _ _ _ 43 _ _ _ _ _
        rcases am_if h with ⟨hc5, h⟩ | ⟨hc5, h⟩
        · refine ev_if_t (pc' := 58) rfl rfl (cb_eq_t hc5) ?_
          exact fx_tie_b58_e h
        · refine ev_if_f (pc' := 46) rfl (by decide) rfl (cb_eq_f hc5) ?_
          refine ev_aload_n (pc' := 47) rfl rfl rfl ?_
          refine ev_getfield (pc' := 50) (w := .ref 34) rfl rfl rfl rfl ?_
          refine ev_iload_n (pc' := 51) rfl rfl rfl ?_
          refine ev_iconst (pc' := 52) (b := (3 : Int32)) rfl rfl rfl ?_
          refine am_bd h (fun q6 hq6 h => ?_)
          refine ev_call (mi := 7) (as := [.ref 34, .int a2, .int (3 : Int32)]) (rest := []) rfl rfl (Nat.le_of_ble_eq_true rfl) (fx_Estate_isOf_e (d := d) hq6) ?_
          show am_Ev _ _ _ _ 55 _ _ _ _ _
          rcases am_if h with ⟨hc7, h⟩ | ⟨hc7, h⟩
          · refine ev_if_f (pc' := 58) rfl (by decide) rfl (cb_ne_f hc7) ?_
            exact fx_tie_b58_e h
          · refine ev_if_t (pc' := 66) rfl rfl (cb_ne_t hc7) ?_
            refine ev_aload_n (pc' := 67) rfl rfl rfl ?_
            refine ev_getfield (pc' := 70) (w := .ref 34) rfl rfl rfl rfl ?_
            refine ev_getfield (pc' := 73) (w := .int (σ 34 7)) rfl rfl rfl rfl ?_
            refine ev_bipush (pc' := 75) (b := (12 : Int32)) rfl rfl rfl ?_
            rcases am_if h with ⟨hc8, h⟩ | ⟨hc8, h⟩
            · refine ev_ic_t (pc' := 85) rfl rfl (cb_lt_t hc8) ?_
              refine ev_aload_n (pc' := 86) rfl rfl rfl ?_
              refine ev_getfield (pc' := 89) (w := .ref 41) rfl rfl rfl rfl ?_
              refine am_bd h (fun q9 hq9 h => ?_)
              refine ev_call (mi := 34) (as := [.ref 41]) (rest := []) rfl rfl (Nat.le_of_ble_eq_true rfl) (fx_Parting_forgetAll_e (d := d + 2) hq9) ?_
              show am_Ev _ _ _ _ 92 _ _ _ _ _
              refine ev_aload_n (pc' := 93) rfl rfl rfl ?_
              refine ev_getfield (pc' := 96) (w := .ref 34) rfl rfl rfl rfl ?_
              refine ev_iload_n (pc' := 97) rfl rfl rfl ?_
              refine ev_iload_n (pc' := 98) rfl rfl rfl ?_
              refine am_bd h (fun q10 hq10 h => ?_)
              refine ev_call (mi := 9) (as := [.ref 34, .int a1, .int a2]) (rest := []) rfl rfl (Nat.le_of_ble_eq_true rfl) (fx_Estate_addTie_e (d := d + 2) hq10) ?_
              show am_Ev _ _ _ _ 101 _ _ _ _ _
              obtain rfl := Option.some.inj h
              exact ev_ireturn rfl rfl
            · refine ev_ic_f (pc' := 78) rfl (by decide) rfl (cb_lt_f hc8) ?_
              refine ev_aload_n (pc' := 79) rfl rfl rfl ?_
              refine ev_ldc (pc' := 81) (b := (-1000000004 : Int32)) rfl rfl rfl ?_
              refine am_bd h (fun q11 hq11 h => ?_)
              refine ev_call (mi := 129) (as := [.ref 0, .int (-1000000004 : Int32)]) (rest := []) rfl rfl (Nat.le_of_ble_eq_true rfl) (fx_finding_e (d := d + 2) hq11) ?_
              show am_Ev _ _ _ _ 84 _ _ _ _ _
              obtain rfl := Option.some.inj h
              exact ev_ireturn rfl rfl
/-! PartedLand.part (0, 'I', 'I'): S -/
def fx_part_b16 (N : Nat) (σ : am_S) : Option (Int32 × am_S) := (fx_finding (-1000000001 : Int32) σ).bind fun q1 => some (q1.1, q1.2)
set_option maxRecDepth 100000 in
theorem fx_part_b16_e {X : Nat} {xs : Nat → Int32} {d : Nat} {N : Nat} {w1 : Value} {w2 : Value} {σ : am_S} {o : Int32 × am_S} (h : fx_part_b16 N σ = some o) : am_Ev am_sh (am_exx X xs) (d + 3) mm_105 16 [.ref 0, w1, w2] [] σ (some (.int o.1)) o.2 := by
  unfold fx_part_b16 at h
  refine ev_aload_n (pc' := 17) rfl rfl rfl ?_
  refine ev_ldc (pc' := 19) (b := (-1000000001 : Int32)) rfl rfl rfl ?_
  refine am_bd h (fun q1 hq1 h => ?_)
  refine ev_call (mi := 129) (as := [.ref 0, .int (-1000000001 : Int32)]) (rest := []) rfl rfl (Nat.le_of_ble_eq_true rfl) (fx_finding_e (d := d + 2) hq1) ?_
  show am_Ev _ _ _ _ 22 _ _ _ _ _
  obtain rfl := Option.some.inj h
  exact ev_ireturn rfl rfl
def fx_part (N : Nat) (a1 : Int32) (a2 : Int32) (σ : am_S) : Option (Int32 × am_S) := (if (fx_Estate_hasThing a1 σ) = 0 then fx_part_b16 N σ else (if (1 : Int32) ≤ a2 then (fx_Estate_isOf N a1 (3 : Int32) σ).bind fun q3 => (if q3 = 0 then (fx_finding (-1000000005 : Int32) σ).bind fun q5 => some (q5.1, q5.2) else am_g (am_in a1 24) <| (if a2 < (σ 37 a1.toNatClampNeg) then (if (σ 34 6) < (24 : Int32) then (fx_Parting_forgetAll σ).bind fun q9 => am_g (am_in a1 24) <| am_g (am_in a1 24) <| am_g (am_in a1 24) <| am_g (am_in a1 24) <| (fx_Estate_addThing (q9 35 a1.toNatClampNeg) (q9 36 a1.toNatClampNeg) a2 (am_up q9 37 a1.toNatClampNeg ((q9 37 a1.toNatClampNeg) - a2))).bind fun q14 => some (q14.1, q14.2) else (fx_finding (-1000000004 : Int32) σ).bind fun q15 => some (q15.1, q15.2)) else (fx_finding (-1000000003 : Int32) σ).bind fun q16 => some (q16.1, q16.2))) else fx_part_b16 N σ))
set_option maxRecDepth 100000 in
theorem fx_part_e {X : Nat} {xs : Nat → Int32} {d : Nat} {N : Nat} {a1 : Int32} {a2 : Int32} {σ : am_S} {o : Int32 × am_S} (h : fx_part N a1 a2 σ = some o) : am_Ev am_sh (am_exx X xs) (d + 3) mm_105 0 [.ref 0, .int a1, .int a2] [] σ (some (.int o.1)) o.2 := by
  unfold fx_part at h
  refine ev_aload_n (pc' := 1) rfl rfl rfl ?_
  refine ev_getfield (pc' := 4) (w := .ref 34) rfl rfl rfl rfl ?_
  refine ev_iload_n (pc' := 5) rfl rfl rfl ?_
  refine ev_call (mi := 6) (as := [.ref 34, .int a1]) (rest := []) rfl rfl (Nat.le_of_ble_eq_true rfl) (fx_Estate_hasThing_e (d := d + 2) rfl) ?_
  show am_Ev _ _ _ _ 8 _ _ _ _ _
  rcases am_if h with ⟨hc1, h⟩ | ⟨hc1, h⟩
  · refine ev_if_t (pc' := 16) rfl rfl (cb_eq_t hc1) ?_
    exact fx_part_b16_e h
  · refine ev_if_f (pc' := 11) rfl (by decide) rfl (cb_eq_f hc1) ?_
    refine ev_iload_n (pc' := 12) rfl rfl rfl ?_
    refine ev_iconst (pc' := 13) (b := (1 : Int32)) rfl rfl rfl ?_
    rcases am_if h with ⟨hc2, h⟩ | ⟨hc2, h⟩
    · refine ev_ic_t (pc' := 23) rfl rfl (cb_ge_t hc2) ?_
      refine ev_aload_n (pc' := 24) rfl rfl rfl ?_
      refine ev_getfield (pc' := 27) (w := .ref 34) rfl rfl rfl rfl ?_
      refine ev_iload_n (pc' := 28) rfl rfl rfl ?_
      refine ev_iconst (pc' := 29) (b := (3 : Int32)) rfl rfl rfl ?_
      refine am_bd h (fun q3 hq3 h => ?_)
      refine ev_call (mi := 7) (as := [.ref 34, .int a1, .int (3 : Int32)]) (rest := []) rfl rfl (Nat.le_of_ble_eq_true rfl) (fx_Estate_isOf_e (d := d) hq3) ?_
      show am_Ev _ _ _ _ 32 _ _ _ _ _
      rcases am_if h with ⟨hc4, h⟩ | ⟨hc4, h⟩
      · refine ev_if_f (pc' := 35) rfl (by decide) rfl (cb_ne_f hc4) ?_
        refine ev_aload_n (pc' := 36) rfl rfl rfl ?_
        refine ev_ldc_w (pc' := 39) (b := (-1000000005 : Int32)) rfl rfl rfl ?_
        refine am_bd h (fun q5 hq5 h => ?_)
        refine ev_call (mi := 129) (as := [.ref 0, .int (-1000000005 : Int32)]) (rest := []) rfl rfl (Nat.le_of_ble_eq_true rfl) (fx_finding_e (d := d + 2) hq5) ?_
        show am_Ev _ _ _ _ 42 _ _ _ _ _
        obtain rfl := Option.some.inj h
        exact ev_ireturn rfl rfl
      · refine ev_if_t (pc' := 43) rfl rfl (cb_ne_t hc4) ?_
        refine ev_iload_n (pc' := 44) rfl rfl rfl ?_
        refine ev_aload_n (pc' := 45) rfl rfl rfl ?_
        refine ev_getfield (pc' := 48) (w := .ref 34) rfl rfl rfl rfl ?_
        refine ev_getfield (pc' := 51) (w := .ref 37) rfl rfl rfl rfl ?_
        refine ev_iload_n (pc' := 52) rfl rfl rfl ?_
        obtain ⟨hg6, h⟩ := am_g_some h
        refine ev_iaload (pc' := 53) rfl rfl rfl hg6 ?_
        rcases am_if h with ⟨hc7, h⟩ | ⟨hc7, h⟩
        · refine ev_ic_t (pc' := 63) rfl rfl (cb_lt_t hc7) ?_
          refine ev_aload_n (pc' := 64) rfl rfl rfl ?_
          refine ev_getfield (pc' := 67) (w := .ref 34) rfl rfl rfl rfl ?_
          refine ev_getfield (pc' := 70) (w := .int (σ 34 6)) rfl rfl rfl rfl ?_
          refine ev_bipush (pc' := 72) (b := (24 : Int32)) rfl rfl rfl ?_
          rcases am_if h with ⟨hc8, h⟩ | ⟨hc8, h⟩
          · refine ev_ic_t (pc' := 82) rfl rfl (cb_lt_t hc8) ?_
            refine ev_aload_n (pc' := 83) rfl rfl rfl ?_
            refine ev_getfield (pc' := 86) (w := .ref 41) rfl rfl rfl rfl ?_
            refine am_bd h (fun q9 hq9 h => ?_)
            refine ev_call (mi := 34) (as := [.ref 41]) (rest := []) rfl rfl (Nat.le_of_ble_eq_true rfl) (fx_Parting_forgetAll_e (d := d + 2) hq9) ?_
            show am_Ev _ _ _ _ 89 _ _ _ _ _
            refine ev_aload_n (pc' := 90) rfl rfl rfl ?_
            refine ev_getfield (pc' := 93) (w := .ref 34) rfl rfl rfl rfl ?_
            refine ev_getfield (pc' := 96) (w := .ref 37) rfl rfl rfl rfl ?_
            refine ev_iload_n (pc' := 97) rfl rfl rfl ?_
            refine ev_dup2 (pc' := 98) rfl rfl ?_
            obtain ⟨hg10, h⟩ := am_g_some h
            refine ev_iaload (pc' := 99) rfl rfl rfl hg10 ?_
            refine ev_iload_n (pc' := 100) rfl rfl rfl ?_
            refine ev_isub (pc' := 101) rfl rfl ?_
            obtain ⟨hg11, h⟩ := am_g_some h
            refine ev_iastore (pc' := 102) rfl rfl rfl hg11 ?_
            refine ev_aload_n (pc' := 103) rfl rfl rfl ?_
            refine ev_getfield (pc' := 106) (w := .ref 34) rfl rfl rfl rfl ?_
            refine ev_aload_n (pc' := 107) rfl rfl rfl ?_
            refine ev_getfield (pc' := 110) (w := .ref 34) rfl rfl rfl rfl ?_
            refine ev_getfield (pc' := 113) (w := .ref 35) rfl rfl rfl rfl ?_
            refine ev_iload_n (pc' := 114) rfl rfl rfl ?_
            obtain ⟨hg12, h⟩ := am_g_some h
            refine ev_iaload (pc' := 115) rfl rfl rfl hg12 ?_
            change am_Ev _ _ _ _ _ _ (.int (q9 35 a1.toNatClampNeg) :: [.ref 34]) _ _ _
            refine ev_aload_n (pc' := 116) rfl rfl rfl ?_
            refine ev_getfield (pc' := 119) (w := .ref 34) rfl rfl rfl rfl ?_
            refine ev_getfield (pc' := 122) (w := .ref 36) rfl rfl rfl rfl ?_
            refine ev_iload_n (pc' := 123) rfl rfl rfl ?_
            obtain ⟨hg13, h⟩ := am_g_some h
            refine ev_iaload (pc' := 124) rfl rfl rfl hg13 ?_
            change am_Ev _ _ _ _ _ _ (.int (q9 36 a1.toNatClampNeg) :: [.int (q9 35 a1.toNatClampNeg), .ref 34]) _ _ _
            refine ev_iload_n (pc' := 125) rfl rfl rfl ?_
            refine am_bd h (fun q14 hq14 h => ?_)
            refine ev_call (mi := 8) (as := [.ref 34, .int (q9 35 a1.toNatClampNeg), .int (q9 36 a1.toNatClampNeg), .int a2]) (rest := []) rfl rfl (Nat.le_of_ble_eq_true rfl) (fx_Estate_addThing_e (d := d + 2) hq14) ?_
            show am_Ev _ _ _ _ 128 _ _ _ _ _
            obtain rfl := Option.some.inj h
            exact ev_ireturn rfl rfl
          · refine ev_ic_f (pc' := 75) rfl (by decide) rfl (cb_lt_f hc8) ?_
            refine ev_aload_n (pc' := 76) rfl rfl rfl ?_
            refine ev_ldc (pc' := 78) (b := (-1000000004 : Int32)) rfl rfl rfl ?_
            refine am_bd h (fun q15 hq15 h => ?_)
            refine ev_call (mi := 129) (as := [.ref 0, .int (-1000000004 : Int32)]) (rest := []) rfl rfl (Nat.le_of_ble_eq_true rfl) (fx_finding_e (d := d + 2) hq15) ?_
            show am_Ev _ _ _ _ 81 _ _ _ _ _
            obtain rfl := Option.some.inj h
            exact ev_ireturn rfl rfl
        · refine ev_ic_f (pc' := 56) rfl (by decide) rfl (cb_lt_f hc7) ?_
          refine ev_aload_n (pc' := 57) rfl rfl rfl ?_
          refine ev_ldc (pc' := 59) (b := (-1000000003 : Int32)) rfl rfl rfl ?_
          refine am_bd h (fun q16 hq16 h => ?_)
          refine ev_call (mi := 129) (as := [.ref 0, .int (-1000000003 : Int32)]) (rest := []) rfl rfl (Nat.le_of_ble_eq_true rfl) (fx_finding_e (d := d + 2) hq16) ?_
          show am_Ev _ _ _ _ 62 _ _ _ _ _
          obtain rfl := Option.some.inj h
          exact ev_ireturn rfl rfl
    · refine ev_ic_f (pc' := 16) rfl (by decide) rfl (cb_ge_f hc2) ?_
      exact fx_part_b16_e h
/-! PartedLand$Estate.isLeftOut (34, 'I', 'I'): P -/
def fx_Estate_isLeftOut (a1 : Int32) (a2 : Int32) (σ : am_S) : Option Int32 := (if a2 = 0 then some (0 : Int32) else am_g (am_in a1 24) <| (if (σ 35 a1.toNatClampNeg) = (5 : Int32) then some (1 : Int32) else some (0 : Int32)))
set_option maxRecDepth 100000 in
theorem fx_Estate_isLeftOut_e {X : Nat} {xs : Nat → Int32} {d : Nat} {a1 : Int32} {a2 : Int32} {σ : am_S} {o : Int32} (h : fx_Estate_isLeftOut a1 a2 σ = some o) : am_Ev am_sh (am_exx X xs) (d + 0) mm_10 0 [.ref 34, .int a1, .int a2] [] σ (some (.int o)) σ := by
  unfold fx_Estate_isLeftOut at h
  refine ev_iload_n (pc' := 1) rfl rfl rfl ?_
  rcases am_if h with ⟨hc1, h⟩ | ⟨hc1, h⟩
  · refine ev_if_t (pc' := 18) rfl rfl (cb_eq_t hc1) ?_
    refine ev_iconst (pc' := 19) (b := (0 : Int32)) rfl rfl rfl ?_
    obtain rfl := Option.some.inj h
    exact ev_zreturn rfl rfl rfl
  · refine ev_if_f (pc' := 4) rfl (by decide) rfl (cb_eq_f hc1) ?_
    refine ev_aload_n (pc' := 5) rfl rfl rfl ?_
    refine ev_getfield (pc' := 8) (w := .ref 35) rfl rfl rfl rfl ?_
    refine ev_iload_n (pc' := 9) rfl rfl rfl ?_
    obtain ⟨hg2, h⟩ := am_g_some h
    refine ev_iaload (pc' := 10) rfl rfl rfl hg2 ?_
    refine ev_iconst (pc' := 11) (b := (5 : Int32)) rfl rfl rfl ?_
    rcases am_if h with ⟨hc3, h⟩ | ⟨hc3, h⟩
    · refine ev_ic_f (pc' := 14) rfl (by decide) rfl (cb_ne_f hc3) ?_
      refine ev_iconst (pc' := 15) (b := (1 : Int32)) rfl rfl rfl ?_
      refine ev_goto (pc' := 19) rfl rfl ?_
      obtain rfl := Option.some.inj h
      exact ev_zreturn rfl rfl rfl
    · refine ev_ic_t (pc' := 18) rfl rfl (cb_ne_t hc3) ?_
      refine ev_iconst (pc' := 19) (b := (0 : Int32)) rfl rfl rfl ?_
      obtain rfl := Option.some.inj h
      exact ev_zreturn rfl rfl rfl
/-! PartedLand$Estate.pledgeParish (34, 'I'): P -/
def fx_Estate_pledgeParish (a1 : Int32) (σ : am_S) : Option Int32 := am_g (am_in a1 24) <| am_g (am_in (σ 36 a1.toNatClampNeg) 24) <| some (σ 36 (σ 36 a1.toNatClampNeg).toNatClampNeg)
set_option maxRecDepth 100000 in
theorem fx_Estate_pledgeParish_e {X : Nat} {xs : Nat → Int32} {d : Nat} {a1 : Int32} {σ : am_S} {o : Int32} (h : fx_Estate_pledgeParish a1 σ = some o) : am_Ev am_sh (am_exx X xs) (d + 0) mm_11 0 [.ref 34, .int a1] [] σ (some (.int o)) σ := by
  unfold fx_Estate_pledgeParish at h
  refine ev_aload_n (pc' := 1) rfl rfl rfl ?_
  refine ev_getfield (pc' := 4) (w := .ref 36) rfl rfl rfl rfl ?_
  refine ev_aload_n (pc' := 5) rfl rfl rfl ?_
  refine ev_getfield (pc' := 8) (w := .ref 36) rfl rfl rfl rfl ?_
  refine ev_iload_n (pc' := 9) rfl rfl rfl ?_
  obtain ⟨hg1, h⟩ := am_g_some h
  refine ev_iaload (pc' := 10) rfl rfl rfl hg1 ?_
  obtain ⟨hg2, h⟩ := am_g_some h
  refine ev_iaload (pc' := 11) rfl rfl rfl hg2 ?_
  obtain rfl := Option.some.inj h
  exact ev_ireturn rfl rfl
/-! PartedLand$Parting.findRoots (41, 34): S -/
def fx_Parting_findRoots_b35 (N : Nat) (k25 : Int32 → am_S → Option am_S) : Nat → Int32 → Int32 → am_S → Option am_S
  | 0, _, _, _ => none
  | n + 1, x2, x3, σ => (if (σ 34 7) ≤ x3 then k25 (x2 + (1 : Int32)) σ else am_g (am_in x3 12) <| am_g (am_in x3 12) <| am_g (am_in (σ 39 x3.toNatClampNeg) 24) <| am_g (am_in (σ 40 x3.toNatClampNeg) 24) <| am_g (am_in (σ 39 x3.toNatClampNeg) 24) <| am_g (am_in (σ 40 x3.toNatClampNeg) 24) <| fx_Parting_findRoots_b35 N k25 n x2 (x3 + (1 : Int32)) (am_up (am_up σ 42 (σ 39 x3.toNatClampNeg).toNatClampNeg (if (σ 42 (σ 40 x3.toNatClampNeg).toNatClampNeg) < (σ 42 (σ 39 x3.toNatClampNeg).toNatClampNeg) then (σ 42 (σ 40 x3.toNatClampNeg).toNatClampNeg) else (σ 42 (σ 39 x3.toNatClampNeg).toNatClampNeg))) 42 (σ 40 x3.toNatClampNeg).toNatClampNeg (if (σ 42 (σ 40 x3.toNatClampNeg).toNatClampNeg) < (σ 42 (σ 39 x3.toNatClampNeg).toNatClampNeg) then (σ 42 (σ 40 x3.toNatClampNeg).toNatClampNeg) else (σ 42 (σ 39 x3.toNatClampNeg).toNatClampNeg))))
set_option maxRecDepth 100000 in
theorem fx_Parting_findRoots_b35_e {X : Nat} {xs : Nat → Int32} {d : Nat} {N : Nat} {k25 : Int32 → am_S → Option am_S} (hk25 : ∀ {x2 : Int32} {w3 : Value} {w4 : Value} {w5 : Value} {w6 : Value} {σ : am_S} {o : am_S}, k25 x2 σ = some o → am_Ev am_sh (am_exx X xs) (d + 1) mm_37 25 [.ref 41, .ref 34, .int x2, w3, w4, w5, w6] [] σ (none) o) : ∀ {n : Nat} {x2 : Int32} {x3 : Int32} {w4 : Value} {w5 : Value} {w6 : Value} {σ : am_S} {o : am_S}, fx_Parting_findRoots_b35 N k25 n x2 x3 σ = some o → am_Ev am_sh (am_exx X xs) (d + 1) mm_37 35 [.ref 41, .ref 34, .int x2, .int x3, w4, w5, w6] [] σ (none) o := by
  intro n
  induction n with
  | zero => intro x2 x3 w4 w5 w6 σ o h; cases h
  | succ n ih =>
    intro x2 x3 w4 w5 w6 σ o h
    unfold fx_Parting_findRoots_b35 at h
    refine ev_iload_n (pc' := 36) rfl rfl rfl ?_
    refine ev_aload_n (pc' := 37) rfl rfl rfl ?_
    refine ev_getfield (pc' := 40) (w := .int (σ 34 7)) rfl rfl rfl rfl ?_
    rcases am_if h with ⟨hc1, h⟩ | ⟨hc1, h⟩
    · refine ev_ic_t (pc' := 102) rfl rfl (cb_ge_t hc1) ?_
      refine ev_iinc (pc' := 105) (L' := [.ref 41, .ref 34, .int (x2 + (1 : Int32)), .int x3, w4, w5, w6]) (b := (1 : Int32)) rfl rfl rfl rfl rfl ?_
      refine ev_goto (pc' := 25) rfl rfl ?_
      exact hk25 h
    · refine ev_ic_f (pc' := 43) rfl (by decide) rfl (cb_ge_f hc1) ?_
      refine ev_aload_n (pc' := 44) rfl rfl rfl ?_
      refine ev_getfield (pc' := 47) (w := .ref 39) rfl rfl rfl rfl ?_
      refine ev_iload_n (pc' := 48) rfl rfl rfl ?_
      obtain ⟨hg2, h⟩ := am_g_some h
      refine ev_iaload (pc' := 49) rfl rfl rfl hg2 ?_
      refine ev_istore (pc' := 51) (L' := [.ref 41, .ref 34, .int x2, .int x3, .int (σ 39 x3.toNatClampNeg), w5, w6]) rfl rfl rfl rfl ?_
      refine ev_aload_n (pc' := 52) rfl rfl rfl ?_
      refine ev_getfield (pc' := 55) (w := .ref 40) rfl rfl rfl rfl ?_
      refine ev_iload_n (pc' := 56) rfl rfl rfl ?_
      obtain ⟨hg3, h⟩ := am_g_some h
      refine ev_iaload (pc' := 57) rfl rfl rfl hg3 ?_
      refine ev_istore (pc' := 59) (L' := [.ref 41, .ref 34, .int x2, .int x3, .int (σ 39 x3.toNatClampNeg), .int (σ 40 x3.toNatClampNeg), w6]) rfl rfl rfl rfl ?_
      refine ev_aload_n (pc' := 60) rfl rfl rfl ?_
      refine ev_getfield (pc' := 63) (w := .ref 42) rfl rfl rfl rfl ?_
      refine ev_iload (pc' := 65) rfl rfl rfl ?_
      obtain ⟨hg4, h⟩ := am_g_some h
      refine ev_iaload (pc' := 66) rfl rfl rfl hg4 ?_
      refine ev_aload_n (pc' := 67) rfl rfl rfl ?_
      refine ev_getfield (pc' := 70) (w := .ref 42) rfl rfl rfl rfl ?_
      refine ev_iload (pc' := 72) rfl rfl rfl ?_
      obtain ⟨hg5, h⟩ := am_g_some h
      refine ev_iaload (pc' := 73) rfl rfl rfl hg5 ?_
      refine ev_min (pc' := 76) rfl rfl rfl rfl ?_
      refine ev_istore (pc' := 78) (L' := [.ref 41, .ref 34, .int x2, .int x3, .int (σ 39 x3.toNatClampNeg), .int (σ 40 x3.toNatClampNeg), .int (if (σ 42 (σ 40 x3.toNatClampNeg).toNatClampNeg) < (σ 42 (σ 39 x3.toNatClampNeg).toNatClampNeg) then (σ 42 (σ 40 x3.toNatClampNeg).toNatClampNeg) else (σ 42 (σ 39 x3.toNatClampNeg).toNatClampNeg))]) rfl rfl rfl rfl ?_
      refine ev_aload_n (pc' := 79) rfl rfl rfl ?_
      refine ev_getfield (pc' := 82) (w := .ref 42) rfl rfl rfl rfl ?_
      refine ev_iload (pc' := 84) rfl rfl rfl ?_
      refine ev_iload (pc' := 86) rfl rfl rfl ?_
      obtain ⟨hg6, h⟩ := am_g_some h
      refine ev_iastore (pc' := 87) rfl rfl rfl hg6 ?_
      refine ev_aload_n (pc' := 88) rfl rfl rfl ?_
      refine ev_getfield (pc' := 91) (w := .ref 42) rfl rfl rfl rfl ?_
      refine ev_iload (pc' := 93) rfl rfl rfl ?_
      refine ev_iload (pc' := 95) rfl rfl rfl ?_
      obtain ⟨hg7, h⟩ := am_g_some h
      refine ev_iastore (pc' := 96) rfl rfl rfl hg7 ?_
      refine ev_iinc (pc' := 99) (L' := [.ref 41, .ref 34, .int x2, .int (x3 + (1 : Int32)), .int (σ 39 x3.toNatClampNeg), .int (σ 40 x3.toNatClampNeg), .int (if (σ 42 (σ 40 x3.toNatClampNeg).toNatClampNeg) < (σ 42 (σ 39 x3.toNatClampNeg).toNatClampNeg) then (σ 42 (σ 40 x3.toNatClampNeg).toNatClampNeg) else (σ 42 (σ 39 x3.toNatClampNeg).toNatClampNeg))]) (b := (1 : Int32)) rfl rfl rfl rfl rfl ?_
      refine ev_goto (pc' := 35) rfl rfl ?_
      exact ih h
def fx_Parting_findRoots_b25 (N : Nat) : Nat → Int32 → am_S → Option am_S
  | 0, _, _ => none
  | n + 1, x2, σ => (if (σ 34 7) ≤ x2 then some σ else fx_Parting_findRoots_b35 N (fun x2 σ => fx_Parting_findRoots_b25 N n x2 σ) N x2 (0 : Int32) σ)
set_option maxRecDepth 100000 in
theorem fx_Parting_findRoots_b25_e {X : Nat} {xs : Nat → Int32} {d : Nat} {N : Nat} : ∀ {n : Nat} {x2 : Int32} {w3 : Value} {w4 : Value} {w5 : Value} {w6 : Value} {σ : am_S} {o : am_S}, fx_Parting_findRoots_b25 N n x2 σ = some o → am_Ev am_sh (am_exx X xs) (d + 1) mm_37 25 [.ref 41, .ref 34, .int x2, w3, w4, w5, w6] [] σ (none) o := by
  intro n
  induction n with
  | zero => intro x2 w3 w4 w5 w6 σ o h; cases h
  | succ n ih =>
    intro x2 w3 w4 w5 w6 σ o h
    unfold fx_Parting_findRoots_b25 at h
    refine ev_iload_n (pc' := 26) rfl rfl rfl ?_
    refine ev_aload_n (pc' := 27) rfl rfl rfl ?_
    refine ev_getfield (pc' := 30) (w := .int (σ 34 7)) rfl rfl rfl rfl ?_
    rcases am_if h with ⟨hc1, h⟩ | ⟨hc1, h⟩
    · refine ev_ic_t (pc' := 108) rfl rfl (cb_ge_t hc1) ?_
      obtain rfl := Option.some.inj h
      exact ev_return rfl rfl
    · refine ev_ic_f (pc' := 33) rfl (by decide) rfl (cb_ge_f hc1) ?_
      refine ev_iconst (pc' := 34) (b := (0 : Int32)) rfl rfl rfl ?_
      refine ev_istore_n (pc' := 35) (L' := [.ref 41, .ref 34, .int x2, .int (0 : Int32), w4, w5, w6]) rfl rfl rfl rfl ?_
      exact fx_Parting_findRoots_b35_e (hk25 := fun h => ih h) h
def fx_Parting_findRoots_b2 (N : Nat) : Nat → Int32 → am_S → Option am_S
  | 0, _, _ => none
  | n + 1, x2, σ => (if (σ 34 6) ≤ x2 then fx_Parting_findRoots_b25 N N (0 : Int32) σ else am_g (am_in x2 24) <| fx_Parting_findRoots_b2 N n (x2 + (1 : Int32)) (am_up σ 42 x2.toNatClampNeg x2))
set_option maxRecDepth 100000 in
theorem fx_Parting_findRoots_b2_e {X : Nat} {xs : Nat → Int32} {d : Nat} {N : Nat} : ∀ {n : Nat} {x2 : Int32} {w3 : Value} {w4 : Value} {w5 : Value} {w6 : Value} {σ : am_S} {o : am_S}, fx_Parting_findRoots_b2 N n x2 σ = some o → am_Ev am_sh (am_exx X xs) (d + 1) mm_37 2 [.ref 41, .ref 34, .int x2, w3, w4, w5, w6] [] σ (none) o := by
  intro n
  induction n with
  | zero => intro x2 w3 w4 w5 w6 σ o h; cases h
  | succ n ih =>
    intro x2 w3 w4 w5 w6 σ o h
    unfold fx_Parting_findRoots_b2 at h
    refine ev_iload_n (pc' := 3) rfl rfl rfl ?_
    refine ev_aload_n (pc' := 4) rfl rfl rfl ?_
    refine ev_getfield (pc' := 7) (w := .int (σ 34 6)) rfl rfl rfl rfl ?_
    rcases am_if h with ⟨hc1, h⟩ | ⟨hc1, h⟩
    · refine ev_ic_t (pc' := 23) rfl rfl (cb_ge_t hc1) ?_
      refine ev_iconst (pc' := 24) (b := (0 : Int32)) rfl rfl rfl ?_
      refine ev_istore_n (pc' := 25) (L' := [.ref 41, .ref 34, .int (0 : Int32), w3, w4, w5, w6]) rfl rfl rfl rfl ?_
      exact fx_Parting_findRoots_b25_e h
    · refine ev_ic_f (pc' := 10) rfl (by decide) rfl (cb_ge_f hc1) ?_
      refine ev_aload_n (pc' := 11) rfl rfl rfl ?_
      refine ev_getfield (pc' := 14) (w := .ref 42) rfl rfl rfl rfl ?_
      refine ev_iload_n (pc' := 15) rfl rfl rfl ?_
      refine ev_iload_n (pc' := 16) rfl rfl rfl ?_
      obtain ⟨hg2, h⟩ := am_g_some h
      refine ev_iastore (pc' := 17) rfl rfl rfl hg2 ?_
      refine ev_iinc (pc' := 20) (L' := [.ref 41, .ref 34, .int (x2 + (1 : Int32)), w3, w4, w5, w6]) (b := (1 : Int32)) rfl rfl rfl rfl rfl ?_
      refine ev_goto (pc' := 2) rfl rfl ?_
      exact ih h
def fx_Parting_findRoots (N : Nat) (σ : am_S) : Option am_S := fx_Parting_findRoots_b2 N N (0 : Int32) σ
set_option maxRecDepth 100000 in
theorem fx_Parting_findRoots_e {X : Nat} {xs : Nat → Int32} {d : Nat} {N : Nat} {σ : am_S} {o : am_S} (h : fx_Parting_findRoots N σ = some o) : am_Ev am_sh (am_exx X xs) (d + 1) mm_37 0 [.ref 41, .ref 34, .null, .null, .null, .null, .null] [] σ (none) o := by
  unfold fx_Parting_findRoots at h
  refine ev_iconst (pc' := 1) (b := (0 : Int32)) rfl rfl rfl ?_
  refine ev_istore_n (pc' := 2) (L' := [.ref 41, .ref 34, .int (0 : Int32), .null, .null, .null, .null]) rfl rfl rfl rfl ?_
  exact fx_Parting_findRoots_b2_e h
/-! java/util/Arrays.fill (43, 'I'): S -/
def fx_Arr_fill_b5 (N : Nat) : Nat → Int32 → Int32 → Int32 → am_S → Option am_S
  | 0, _, _, _, _ => none
  | n + 1, x1, x2, x3, σ => (if x3 ≤ x2 then some σ else am_g (am_in x2 24) <| fx_Arr_fill_b5 N n x1 (x2 + (1 : Int32)) x3 (am_up σ 43 x2.toNatClampNeg x1))
set_option maxRecDepth 100000 in
theorem fx_Arr_fill_b5_e {X : Nat} {xs : Nat → Int32} {d : Nat} {N : Nat} : ∀ {n : Nat} {x1 : Int32} {x2 : Int32} {x3 : Int32} {σ : am_S} {o : am_S}, fx_Arr_fill_b5 N n x1 x2 x3 σ = some o → am_Ev am_sh (am_exx X xs) (d + 0) mm_218 5 [.ref 43, .int x1, .int x2, .int x3] [] σ (none) o := by
  intro n
  induction n with
  | zero => intro x1 x2 x3 σ o h; cases h
  | succ n ih =>
    intro x1 x2 x3 σ o h
    unfold fx_Arr_fill_b5 at h
    refine ev_iload_n (pc' := 6) rfl rfl rfl ?_
    refine ev_iload_n (pc' := 7) rfl rfl rfl ?_
    rcases am_if h with ⟨hc1, h⟩ | ⟨hc1, h⟩
    · refine ev_ic_t (pc' := 20) rfl rfl (cb_ge_t hc1) ?_
      obtain rfl := Option.some.inj h
      exact ev_return rfl rfl
    · refine ev_ic_f (pc' := 10) rfl (by decide) rfl (cb_ge_f hc1) ?_
      refine ev_aload_n (pc' := 11) rfl rfl rfl ?_
      refine ev_iload_n (pc' := 12) rfl rfl rfl ?_
      refine ev_iload_n (pc' := 13) rfl rfl rfl ?_
      obtain ⟨hg2, h⟩ := am_g_some h
      refine ev_iastore (pc' := 14) rfl rfl rfl hg2 ?_
      refine ev_iinc (pc' := 17) (L' := [.ref 43, .int x1, .int (x2 + (1 : Int32)), .int x3]) (b := (1 : Int32)) rfl rfl rfl rfl rfl ?_
      refine ev_goto (pc' := 5) rfl rfl ?_
      exact ih h
def fx_Arr_fill (N : Nat) (a1 : Int32) (σ : am_S) : Option am_S := fx_Arr_fill_b5 N N a1 (0 : Int32) (24 : Int32) σ
set_option maxRecDepth 100000 in
theorem fx_Arr_fill_e {X : Nat} {xs : Nat → Int32} {d : Nat} {N : Nat} {a1 : Int32} {σ : am_S} {o : am_S} (h : fx_Arr_fill N a1 σ = some o) : am_Ev am_sh (am_exx X xs) (d + 0) mm_218 0 [.ref 43, .int a1, .null, .null] [] σ (none) o := by
  unfold fx_Arr_fill at h
  refine ev_iconst (pc' := 1) (b := (0 : Int32)) rfl rfl rfl ?_
  refine ev_istore_n (pc' := 2) (L' := [.ref 43, .int a1, .int (0 : Int32), .null]) rfl rfl rfl rfl ?_
  refine ev_aload_n (pc' := 3) rfl rfl rfl ?_
  refine ev_arraylength (pc' := 4) (b := (24 : Int32)) rfl rfl rfl rfl ?_
  refine ev_istore_n (pc' := 5) (L' := [.ref 43, .int a1, .int (0 : Int32), .int (24 : Int32)]) rfl rfl rfl rfl ?_
  exact fx_Arr_fill_b5_e h
/-! java/util/Arrays.fill (45, 'I'): S -/
def fx_Arr_fill_45_b5 (N : Nat) : Nat → Int32 → Int32 → Int32 → am_S → Option am_S
  | 0, _, _, _, _ => none
  | n + 1, x1, x2, x3, σ => (if x3 ≤ x2 then some σ else am_g (am_in x2 24) <| fx_Arr_fill_45_b5 N n x1 (x2 + (1 : Int32)) x3 (am_up σ 45 x2.toNatClampNeg x1))
set_option maxRecDepth 100000 in
theorem fx_Arr_fill_45_b5_e {X : Nat} {xs : Nat → Int32} {d : Nat} {N : Nat} : ∀ {n : Nat} {x1 : Int32} {x2 : Int32} {x3 : Int32} {σ : am_S} {o : am_S}, fx_Arr_fill_45_b5 N n x1 x2 x3 σ = some o → am_Ev am_sh (am_exx X xs) (d + 0) mm_218 5 [.ref 45, .int x1, .int x2, .int x3] [] σ (none) o := by
  intro n
  induction n with
  | zero => intro x1 x2 x3 σ o h; cases h
  | succ n ih =>
    intro x1 x2 x3 σ o h
    unfold fx_Arr_fill_45_b5 at h
    refine ev_iload_n (pc' := 6) rfl rfl rfl ?_
    refine ev_iload_n (pc' := 7) rfl rfl rfl ?_
    rcases am_if h with ⟨hc1, h⟩ | ⟨hc1, h⟩
    · refine ev_ic_t (pc' := 20) rfl rfl (cb_ge_t hc1) ?_
      obtain rfl := Option.some.inj h
      exact ev_return rfl rfl
    · refine ev_ic_f (pc' := 10) rfl (by decide) rfl (cb_ge_f hc1) ?_
      refine ev_aload_n (pc' := 11) rfl rfl rfl ?_
      refine ev_iload_n (pc' := 12) rfl rfl rfl ?_
      refine ev_iload_n (pc' := 13) rfl rfl rfl ?_
      obtain ⟨hg2, h⟩ := am_g_some h
      refine ev_iastore (pc' := 14) rfl rfl rfl hg2 ?_
      refine ev_iinc (pc' := 17) (L' := [.ref 45, .int x1, .int (x2 + (1 : Int32)), .int x3]) (b := (1 : Int32)) rfl rfl rfl rfl rfl ?_
      refine ev_goto (pc' := 5) rfl rfl ?_
      exact ih h
def fx_Arr_fill_45 (N : Nat) (a1 : Int32) (σ : am_S) : Option am_S := fx_Arr_fill_45_b5 N N a1 (0 : Int32) (24 : Int32) σ
set_option maxRecDepth 100000 in
theorem fx_Arr_fill_45_e {X : Nat} {xs : Nat → Int32} {d : Nat} {N : Nat} {a1 : Int32} {σ : am_S} {o : am_S} (h : fx_Arr_fill_45 N a1 σ = some o) : am_Ev am_sh (am_exx X xs) (d + 0) mm_218 0 [.ref 45, .int a1, .null, .null] [] σ (none) o := by
  unfold fx_Arr_fill_45 at h
  refine ev_iconst (pc' := 1) (b := (0 : Int32)) rfl rfl rfl ?_
  refine ev_istore_n (pc' := 2) (L' := [.ref 45, .int a1, .int (0 : Int32), .null]) rfl rfl rfl rfl ?_
  refine ev_aload_n (pc' := 3) rfl rfl rfl ?_
  refine ev_arraylength (pc' := 4) (b := (24 : Int32)) rfl rfl rfl rfl ?_
  refine ev_istore_n (pc' := 5) (L' := [.ref 45, .int a1, .int (0 : Int32), .int (24 : Int32)]) rfl rfl rfl rfl ?_
  exact fx_Arr_fill_45_b5_e h
/-! PartedLand$Estate.countedWorth (34, 'I'): P -/
def fx_Estate_countedWorth (a1 : Int32) (σ : am_S) : Option Int32 := am_g (am_in a1 24) <| (if (σ 35 a1.toNatClampNeg) = (5 : Int32) then am_g (am_in a1 24) <| some (-(σ 37 a1.toNatClampNeg)) else am_g (am_in a1 24) <| some (σ 37 a1.toNatClampNeg))
set_option maxRecDepth 100000 in
theorem fx_Estate_countedWorth_e {X : Nat} {xs : Nat → Int32} {d : Nat} {a1 : Int32} {σ : am_S} {o : Int32} (h : fx_Estate_countedWorth a1 σ = some o) : am_Ev am_sh (am_exx X xs) (d + 0) mm_3 0 [.ref 34, .int a1] [] σ (some (.int o)) σ := by
  unfold fx_Estate_countedWorth at h
  refine ev_aload_n (pc' := 1) rfl rfl rfl ?_
  refine ev_getfield (pc' := 4) (w := .ref 35) rfl rfl rfl rfl ?_
  refine ev_iload_n (pc' := 5) rfl rfl rfl ?_
  obtain ⟨hg1, h⟩ := am_g_some h
  refine ev_iaload (pc' := 6) rfl rfl rfl hg1 ?_
  refine ev_iconst (pc' := 7) (b := (5 : Int32)) rfl rfl rfl ?_
  rcases am_if h with ⟨hc2, h⟩ | ⟨hc2, h⟩
  · refine ev_ic_f (pc' := 10) rfl (by decide) rfl (cb_ne_f hc2) ?_
    refine ev_aload_n (pc' := 11) rfl rfl rfl ?_
    refine ev_getfield (pc' := 14) (w := .ref 37) rfl rfl rfl rfl ?_
    refine ev_iload_n (pc' := 15) rfl rfl rfl ?_
    obtain ⟨hg3, h⟩ := am_g_some h
    refine ev_iaload (pc' := 16) rfl rfl rfl hg3 ?_
    refine ev_ineg (pc' := 17) rfl rfl ?_
    refine ev_goto (pc' := 26) rfl rfl ?_
    obtain rfl := Option.some.inj h
    exact ev_ireturn rfl rfl
  · refine ev_ic_t (pc' := 20) rfl rfl (cb_ne_t hc2) ?_
    refine ev_aload_n (pc' := 21) rfl rfl rfl ?_
    refine ev_getfield (pc' := 24) (w := .ref 37) rfl rfl rfl rfl ?_
    refine ev_iload_n (pc' := 25) rfl rfl rfl ?_
    obtain ⟨hg4, h⟩ := am_g_some h
    refine ev_iaload (pc' := 26) rfl rfl rfl hg4 ?_
    obtain rfl := Option.some.inj h
    exact ev_ireturn rfl rfl
/-! PartedLand$Parting.findGroups (41, 34, 'I'): S -/
def fx_Parting_findGroups_b151 (N : Nat) (k28 : Int32 → Int32 → am_S → Option am_S) (x2 : Int32) (x3 : Int32) (σ : am_S) : Option am_S := k28 x2 (x3 + (1 : Int32)) σ
set_option maxRecDepth 100000 in
theorem fx_Parting_findGroups_b151_e {X : Nat} {xs : Nat → Int32} {d : Nat} {N : Nat} {k28 : Int32 → Int32 → am_S → Option am_S} (hk28 : ∀ {x2 : Int32} {x3 : Int32} {w4 : Value} {σ : am_S} {o : am_S}, k28 x2 x3 σ = some o → am_Ev am_sh (am_exx X xs) (d + 3) mm_38 28 [.ref 41, .ref 34, .int x2, .int x3, w4] [] σ (none) o) {x2 : Int32} {x3 : Int32} {w4 : Value} {σ : am_S} {o : am_S} (h : fx_Parting_findGroups_b151 N k28 x2 x3 σ = some o) : am_Ev am_sh (am_exx X xs) (d + 3) mm_38 151 [.ref 41, .ref 34, .int x2, .int x3, w4] [] σ (none) o := by
  unfold fx_Parting_findGroups_b151 at h
  refine ev_iinc (pc' := 154) (L' := [.ref 41, .ref 34, .int x2, .int (x3 + (1 : Int32)), w4]) (b := (1 : Int32)) rfl rfl rfl rfl rfl ?_
  refine ev_goto (pc' := 28) rfl rfl ?_
  exact hk28 h
def fx_Parting_findGroups_b104 (N : Nat) (k28 : Int32 → Int32 → am_S → Option am_S) (x2 : Int32) (x3 : Int32) (x4 : Int32) (σ : am_S) : Option am_S := am_g (am_in x4 24) <| am_g (am_in x3 24) <| am_g (am_in x4 24) <| am_g (am_in (σ 43 x4.toNatClampNeg) 24) <| (fx_Estate_countedWorth x3 (am_up σ 44 x3.toNatClampNeg (σ 43 x4.toNatClampNeg))).bind fun q5 => am_g (am_in (σ 43 x4.toNatClampNeg) 24) <| (fx_Estate_countedWorth x3 (am_up (am_up σ 44 x3.toNatClampNeg (σ 43 x4.toNatClampNeg)) 45 (σ 43 x4.toNatClampNeg).toNatClampNeg ((σ 45 (σ 43 x4.toNatClampNeg).toNatClampNeg) + q5))).bind fun q7 => fx_Parting_findGroups_b151 N k28 x2 x3 (am_up (am_up (am_up σ 44 x3.toNatClampNeg (σ 43 x4.toNatClampNeg)) 45 (σ 43 x4.toNatClampNeg).toNatClampNeg ((σ 45 (σ 43 x4.toNatClampNeg).toNatClampNeg) + q5)) 41 7 ((σ 41 7) + q7))
set_option maxRecDepth 100000 in
theorem fx_Parting_findGroups_b104_e {X : Nat} {xs : Nat → Int32} {d : Nat} {N : Nat} {k28 : Int32 → Int32 → am_S → Option am_S} (hk28 : ∀ {x2 : Int32} {x3 : Int32} {w4 : Value} {σ : am_S} {o : am_S}, k28 x2 x3 σ = some o → am_Ev am_sh (am_exx X xs) (d + 3) mm_38 28 [.ref 41, .ref 34, .int x2, .int x3, w4] [] σ (none) o) {x2 : Int32} {x3 : Int32} {x4 : Int32} {σ : am_S} {o : am_S} (h : fx_Parting_findGroups_b104 N k28 x2 x3 x4 σ = some o) : am_Ev am_sh (am_exx X xs) (d + 3) mm_38 104 [.ref 41, .ref 34, .int x2, .int x3, .int x4] [] σ (none) o := by
  unfold fx_Parting_findGroups_b104 at h
  refine ev_aload_n (pc' := 105) rfl rfl rfl ?_
  refine ev_getfield (pc' := 108) (w := .ref 44) rfl rfl rfl rfl ?_
  refine ev_iload_n (pc' := 109) rfl rfl rfl ?_
  refine ev_aload_n (pc' := 110) rfl rfl rfl ?_
  refine ev_getfield (pc' := 113) (w := .ref 43) rfl rfl rfl rfl ?_
  refine ev_iload (pc' := 115) rfl rfl rfl ?_
  obtain ⟨hg1, h⟩ := am_g_some h
  refine ev_iaload (pc' := 116) rfl rfl rfl hg1 ?_
  obtain ⟨hg2, h⟩ := am_g_some h
  refine ev_iastore (pc' := 117) rfl rfl rfl hg2 ?_
  refine ev_aload_n (pc' := 118) rfl rfl rfl ?_
  refine ev_getfield (pc' := 121) (w := .ref 45) rfl rfl rfl rfl ?_
  refine ev_aload_n (pc' := 122) rfl rfl rfl ?_
  refine ev_getfield (pc' := 125) (w := .ref 43) rfl rfl rfl rfl ?_
  refine ev_iload (pc' := 127) rfl rfl rfl ?_
  obtain ⟨hg3, h⟩ := am_g_some h
  refine ev_iaload (pc' := 128) rfl rfl rfl hg3 ?_
  change am_Ev _ _ _ _ _ _ (.int (σ 43 x4.toNatClampNeg) :: [.ref 45]) _ _ _
  refine ev_dup2 (pc' := 129) rfl rfl ?_
  obtain ⟨hg4, h⟩ := am_g_some h
  refine ev_iaload (pc' := 130) rfl rfl rfl hg4 ?_
  change am_Ev _ _ _ _ _ _ (.int (σ 45 (σ 43 x4.toNatClampNeg).toNatClampNeg) :: [.int (σ 43 x4.toNatClampNeg), .ref 45]) _ _ _
  refine ev_aload_n (pc' := 131) rfl rfl rfl ?_
  refine ev_iload_n (pc' := 132) rfl rfl rfl ?_
  refine am_bd h (fun q5 hq5 h => ?_)
  refine ev_call (mi := 3) (as := [.ref 34, .int x3]) (rest := [.int (σ 45 (σ 43 x4.toNatClampNeg).toNatClampNeg), .int (σ 43 x4.toNatClampNeg), .ref 45]) rfl rfl (Nat.le_of_ble_eq_true rfl) (fx_Estate_countedWorth_e (d := d + 2) hq5) ?_
  show am_Ev _ _ _ _ 135 _ _ _ _ _
  refine ev_iadd (pc' := 136) rfl rfl ?_
  obtain ⟨hg6, h⟩ := am_g_some h
  refine ev_iastore (pc' := 137) rfl rfl rfl hg6 ?_
  refine ev_aload_n (pc' := 138) rfl rfl rfl ?_
  refine ev_dup (pc' := 139) rfl rfl ?_
  refine ev_getfield (pc' := 142) (w := .int (σ 41 7)) rfl rfl rfl rfl ?_
  refine ev_aload_n (pc' := 143) rfl rfl rfl ?_
  refine ev_iload_n (pc' := 144) rfl rfl rfl ?_
  refine am_bd h (fun q7 hq7 h => ?_)
  refine ev_call (mi := 3) (as := [.ref 34, .int x3]) (rest := [.int (σ 41 7), .ref 41]) rfl rfl (Nat.le_of_ble_eq_true rfl) (fx_Estate_countedWorth_e (d := d + 2) hq7) ?_
  show am_Ev _ _ _ _ 147 _ _ _ _ _
  refine ev_iadd (pc' := 148) rfl rfl ?_
  refine ev_putfield (pc' := 151) (ci := 4) (f := 7) (z := 0) rfl rfl rfl rfl rfl ?_
  exact fx_Parting_findGroups_b151_e (hk28 := hk28) h
def fx_Parting_findGroups_b28 (N : Nat) : Nat → Int32 → Int32 → am_S → Option am_S
  | 0, _, _, _ => none
  | n + 1, x2, x3, σ => (if (σ 34 6) ≤ x3 then some σ else am_g (am_in x3 24) <| (fx_Estate_isOf N x3 (3 : Int32) (am_up σ 44 x3.toNatClampNeg (-1 : Int32))).bind fun q3 => (if q3 = 0 then fx_Parting_findGroups_b151 N (fun x2 x3 σ => fx_Parting_findGroups_b28 N n x2 x3 σ) x2 x3 (am_up σ 44 x3.toNatClampNeg (-1 : Int32)) else (fx_Estate_isLeftOut x3 x2 (am_up σ 44 x3.toNatClampNeg (-1 : Int32))).bind fun q5 => (if q5 = 0 then am_g (am_in x3 24) <| am_g (am_in (σ 42 x3.toNatClampNeg) 24) <| (if (σ 43 (σ 42 x3.toNatClampNeg).toNatClampNeg) = (-1 : Int32) then am_g (am_in (σ 42 x3.toNatClampNeg) 24) <| fx_Parting_findGroups_b104 N (fun x2 x3 σ => fx_Parting_findGroups_b28 N n x2 x3 σ) x2 x3 (σ 42 x3.toNatClampNeg) (am_up (am_up (am_up σ 44 x3.toNatClampNeg (-1 : Int32)) 43 (σ 42 x3.toNatClampNeg).toNatClampNeg (σ 41 6)) 41 6 ((σ 41 6) + (1 : Int32))) else fx_Parting_findGroups_b104 N (fun x2 x3 σ => fx_Parting_findGroups_b28 N n x2 x3 σ) x2 x3 (σ 42 x3.toNatClampNeg) (am_up σ 44 x3.toNatClampNeg (-1 : Int32))) else fx_Parting_findGroups_b151 N (fun x2 x3 σ => fx_Parting_findGroups_b28 N n x2 x3 σ) x2 x3 (am_up σ 44 x3.toNatClampNeg (-1 : Int32)))))
set_option maxRecDepth 100000 in
theorem fx_Parting_findGroups_b28_e {X : Nat} {xs : Nat → Int32} {d : Nat} {N : Nat} : ∀ {n : Nat} {x2 : Int32} {x3 : Int32} {w4 : Value} {σ : am_S} {o : am_S}, fx_Parting_findGroups_b28 N n x2 x3 σ = some o → am_Ev am_sh (am_exx X xs) (d + 3) mm_38 28 [.ref 41, .ref 34, .int x2, .int x3, w4] [] σ (none) o := by
  intro n
  induction n with
  | zero => intro x2 x3 w4 σ o h; cases h
  | succ n ih =>
    intro x2 x3 w4 σ o h
    unfold fx_Parting_findGroups_b28 at h
    refine ev_iload_n (pc' := 29) rfl rfl rfl ?_
    refine ev_aload_n (pc' := 30) rfl rfl rfl ?_
    refine ev_getfield (pc' := 33) (w := .int (σ 34 6)) rfl rfl rfl rfl ?_
    rcases am_if h with ⟨hc1, h⟩ | ⟨hc1, h⟩
    · refine ev_ic_t (pc' := 157) rfl rfl (cb_ge_t hc1) ?_
      obtain rfl := Option.some.inj h
      exact ev_return rfl rfl
    · refine ev_ic_f (pc' := 36) rfl (by decide) rfl (cb_ge_f hc1) ?_
      refine ev_aload_n (pc' := 37) rfl rfl rfl ?_
      refine ev_getfield (pc' := 40) (w := .ref 44) rfl rfl rfl rfl ?_
      refine ev_iload_n (pc' := 41) rfl rfl rfl ?_
      refine ev_iconst (pc' := 42) (b := (-1 : Int32)) rfl rfl rfl ?_
      obtain ⟨hg2, h⟩ := am_g_some h
      refine ev_iastore (pc' := 43) rfl rfl rfl hg2 ?_
      refine ev_aload_n (pc' := 44) rfl rfl rfl ?_
      refine ev_iload_n (pc' := 45) rfl rfl rfl ?_
      refine ev_iconst (pc' := 46) (b := (3 : Int32)) rfl rfl rfl ?_
      refine am_bd h (fun q3 hq3 h => ?_)
      refine ev_call (mi := 7) (as := [.ref 34, .int x3, .int (3 : Int32)]) (rest := []) rfl rfl (Nat.le_of_ble_eq_true rfl) (fx_Estate_isOf_e (d := d) hq3) ?_
      show am_Ev _ _ _ _ 49 _ _ _ _ _
      rcases am_if h with ⟨hc4, h⟩ | ⟨hc4, h⟩
      · refine ev_if_t (pc' := 151) rfl rfl (cb_eq_t hc4) ?_
        exact fx_Parting_findGroups_b151_e (hk28 := fun h => ih h) h
      · refine ev_if_f (pc' := 52) rfl (by decide) rfl (cb_eq_f hc4) ?_
        refine ev_aload_n (pc' := 53) rfl rfl rfl ?_
        refine ev_iload_n (pc' := 54) rfl rfl rfl ?_
        refine ev_iload_n (pc' := 55) rfl rfl rfl ?_
        refine am_bd h (fun q5 hq5 h => ?_)
        refine ev_call (mi := 10) (as := [.ref 34, .int x3, .int x2]) (rest := []) rfl rfl (Nat.le_of_ble_eq_true rfl) (fx_Estate_isLeftOut_e (d := d + 2) hq5) ?_
        show am_Ev _ _ _ _ 58 _ _ _ _ _
        rcases am_if h with ⟨hc6, h⟩ | ⟨hc6, h⟩
        · refine ev_if_t (pc' := 64) rfl rfl (cb_eq_t hc6) ?_
          refine ev_aload_n (pc' := 65) rfl rfl rfl ?_
          refine ev_getfield (pc' := 68) (w := .ref 42) rfl rfl rfl rfl ?_
          refine ev_iload_n (pc' := 69) rfl rfl rfl ?_
          obtain ⟨hg7, h⟩ := am_g_some h
          refine ev_iaload (pc' := 70) rfl rfl rfl hg7 ?_
          change am_Ev _ _ _ _ _ _ (.int (σ 42 x3.toNatClampNeg) :: []) _ _ _
          refine ev_istore (pc' := 72) (L' := [.ref 41, .ref 34, .int x2, .int x3, .int (σ 42 x3.toNatClampNeg)]) rfl rfl rfl rfl ?_
          refine ev_aload_n (pc' := 73) rfl rfl rfl ?_
          refine ev_getfield (pc' := 76) (w := .ref 43) rfl rfl rfl rfl ?_
          refine ev_iload (pc' := 78) rfl rfl rfl ?_
          obtain ⟨hg8, h⟩ := am_g_some h
          refine ev_iaload (pc' := 79) rfl rfl rfl hg8 ?_
          change am_Ev _ _ _ _ _ _ (.int (σ 43 (σ 42 x3.toNatClampNeg).toNatClampNeg) :: []) _ _ _
          refine ev_iconst (pc' := 80) (b := (-1 : Int32)) rfl rfl rfl ?_
          rcases am_if h with ⟨hc9, h⟩ | ⟨hc9, h⟩
          · refine ev_ic_f (pc' := 83) rfl (by decide) rfl (cb_ne_f hc9) ?_
            refine ev_aload_n (pc' := 84) rfl rfl rfl ?_
            refine ev_getfield (pc' := 87) (w := .ref 43) rfl rfl rfl rfl ?_
            refine ev_iload (pc' := 89) rfl rfl rfl ?_
            refine ev_aload_n (pc' := 90) rfl rfl rfl ?_
            refine ev_getfield (pc' := 93) (w := .int (σ 41 6)) rfl rfl rfl rfl ?_
            obtain ⟨hg10, h⟩ := am_g_some h
            refine ev_iastore (pc' := 94) rfl rfl rfl hg10 ?_
            refine ev_aload_n (pc' := 95) rfl rfl rfl ?_
            refine ev_dup (pc' := 96) rfl rfl ?_
            refine ev_getfield (pc' := 99) (w := .int (σ 41 6)) rfl rfl rfl rfl ?_
            refine ev_iconst (pc' := 100) (b := (1 : Int32)) rfl rfl rfl ?_
            refine ev_iadd (pc' := 101) rfl rfl ?_
            refine ev_putfield (pc' := 104) (ci := 4) (f := 6) (z := 0) rfl rfl rfl rfl rfl ?_
            exact fx_Parting_findGroups_b104_e (hk28 := fun h => ih h) h
          · refine ev_ic_t (pc' := 104) rfl rfl (cb_ne_t hc9) ?_
            exact fx_Parting_findGroups_b104_e (hk28 := fun h => ih h) h
        · refine ev_if_f (pc' := 61) rfl (by decide) rfl (cb_eq_f hc6) ?_
          refine ev_goto (pc' := 151) rfl rfl ?_
          exact fx_Parting_findGroups_b151_e (hk28 := fun h => ih h) h
def fx_Parting_findGroups (N : Nat) (a2 : Int32) (σ : am_S) : Option am_S := (fx_Arr_fill N (-1 : Int32) (am_up (am_up σ 41 6 (0 : Int32)) 41 7 (0 : Int32))).bind fun q1 => (fx_Arr_fill_45 N (0 : Int32) q1).bind fun q2 => fx_Parting_findGroups_b28 N N a2 (0 : Int32) q2
set_option maxRecDepth 100000 in
theorem fx_Parting_findGroups_e {X : Nat} {xs : Nat → Int32} {d : Nat} {N : Nat} {a2 : Int32} {σ : am_S} {o : am_S} (h : fx_Parting_findGroups N a2 σ = some o) : am_Ev am_sh (am_exx X xs) (d + 3) mm_38 0 [.ref 41, .ref 34, .int a2, .null, .null] [] σ (none) o := by
  unfold fx_Parting_findGroups at h
  refine ev_aload_n (pc' := 1) rfl rfl rfl ?_
  refine ev_iconst (pc' := 2) (b := (0 : Int32)) rfl rfl rfl ?_
  refine ev_putfield (pc' := 5) (ci := 4) (f := 6) (z := 0) rfl rfl rfl rfl rfl ?_
  refine ev_aload_n (pc' := 6) rfl rfl rfl ?_
  refine ev_iconst (pc' := 7) (b := (0 : Int32)) rfl rfl rfl ?_
  refine ev_putfield (pc' := 10) (ci := 4) (f := 7) (z := 0) rfl rfl rfl rfl rfl ?_
  refine ev_aload_n (pc' := 11) rfl rfl rfl ?_
  refine ev_getfield (pc' := 14) (w := .ref 43) rfl rfl rfl rfl ?_
  refine ev_iconst (pc' := 15) (b := (-1 : Int32)) rfl rfl rfl ?_
  refine am_bd h (fun q1 hq1 h => ?_)
  refine ev_call (mi := 218) (as := [.ref 43, .int (-1 : Int32)]) (rest := []) rfl rfl (Nat.le_of_ble_eq_true rfl) (fx_Arr_fill_e (d := d + 2) hq1) ?_
  show am_Ev _ _ _ _ 18 _ _ _ _ _
  refine ev_aload_n (pc' := 19) rfl rfl rfl ?_
  refine ev_getfield (pc' := 22) (w := .ref 45) rfl rfl rfl rfl ?_
  refine ev_iconst (pc' := 23) (b := (0 : Int32)) rfl rfl rfl ?_
  refine am_bd h (fun q2 hq2 h => ?_)
  refine ev_call (mi := 218) (as := [.ref 45, .int (0 : Int32)]) (rest := []) rfl rfl (Nat.le_of_ble_eq_true rfl) (fx_Arr_fill_45_e (d := d + 2) hq2) ?_
  show am_Ev _ _ _ _ 26 _ _ _ _ _
  refine ev_iconst (pc' := 27) (b := (0 : Int32)) rfl rfl rfl ?_
  refine ev_istore_n (pc' := 28) (L' := [.ref 41, .ref 34, .int a2, .int (0 : Int32), .null]) rfl rfl rfl rfl ?_
  exact fx_Parting_findGroups_b28_e h
/-! PartedLand$Parting.isTooMany (41,): T -/
def fx_Parting_isTooMany (σ : am_S) : Int32 := (if (σ 41 6) ≤ (14 : Int32) then (0 : Int32) else (1 : Int32))
set_option maxRecDepth 100000 in
theorem fx_Parting_isTooMany_e {X : Nat} {xs : Nat → Int32} {d : Nat} {σ : am_S} {o : Int32} (h : fx_Parting_isTooMany σ = o) : am_Ev am_sh (am_exx X xs) (d + 0) mm_35 0 [.ref 41] [] σ (some (.int o)) σ := by
  unfold fx_Parting_isTooMany at h
  refine ev_aload_n (pc' := 1) rfl rfl rfl ?_
  refine ev_getfield (pc' := 4) (w := .int (σ 41 6)) rfl rfl rfl rfl ?_
  refine ev_bipush (pc' := 6) (b := (14 : Int32)) rfl rfl rfl ?_
  rcases am_if h with ⟨hc1, h⟩ | ⟨hc1, h⟩
  · refine ev_ic_t (pc' := 13) rfl rfl (cb_le_t hc1) ?_
    refine ev_iconst (pc' := 14) (b := (0 : Int32)) rfl rfl rfl ?_
    subst h
    exact ev_zreturn rfl rfl rfl
  · refine ev_ic_f (pc' := 9) rfl (by decide) rfl (cb_le_f hc1) ?_
    refine ev_iconst (pc' := 10) (b := (1 : Int32)) rfl rfl rfl ?_
    refine ev_goto (pc' := 14) rfl rfl ?_
    subst h
    exact ev_zreturn rfl rfl rfl
/-! PartedLand$Parting.setChanges (41,): S -/
def fx_Parting_setChanges_b4 (N : Nat) : Nat → Int32 → Int32 → am_S → Option am_S
  | 0, _, _, _ => none
  | n + 1, x1, x2, σ => (if (σ 41 6) ≤ x2 then some σ else am_g (am_in (((σ 41 6) - (1 : Int32)) - x2) 24) <| am_g (am_in x2 14) <| fx_Parting_setChanges_b4 N n (x1 + (σ 45 (((σ 41 6) - (1 : Int32)) - x2).toNatClampNeg)) (x2 + (1 : Int32)) (am_up σ 46 x2.toNatClampNeg (x1 - (σ 45 (((σ 41 6) - (1 : Int32)) - x2).toNatClampNeg))))
set_option maxRecDepth 100000 in
theorem fx_Parting_setChanges_b4_e {X : Nat} {xs : Nat → Int32} {d : Nat} {N : Nat} : ∀ {n : Nat} {x1 : Int32} {x2 : Int32} {w3 : Value} {σ : am_S} {o : am_S}, fx_Parting_setChanges_b4 N n x1 x2 σ = some o → am_Ev am_sh (am_exx X xs) (d + 0) mm_40 4 [.ref 41, .int x1, .int x2, w3] [] σ (none) o := by
  intro n
  induction n with
  | zero => intro x1 x2 w3 σ o h; cases h
  | succ n ih =>
    intro x1 x2 w3 σ o h
    unfold fx_Parting_setChanges_b4 at h
    refine ev_iload_n (pc' := 5) rfl rfl rfl ?_
    refine ev_aload_n (pc' := 6) rfl rfl rfl ?_
    refine ev_getfield (pc' := 9) (w := .int (σ 41 6)) rfl rfl rfl rfl ?_
    rcases am_if h with ⟨hc1, h⟩ | ⟨hc1, h⟩
    · refine ev_ic_t (pc' := 45) rfl rfl (cb_ge_t hc1) ?_
      obtain rfl := Option.some.inj h
      exact ev_return rfl rfl
    · refine ev_ic_f (pc' := 12) rfl (by decide) rfl (cb_ge_f hc1) ?_
      refine ev_aload_n (pc' := 13) rfl rfl rfl ?_
      refine ev_getfield (pc' := 16) (w := .ref 45) rfl rfl rfl rfl ?_
      refine ev_aload_n (pc' := 17) rfl rfl rfl ?_
      refine ev_getfield (pc' := 20) (w := .int (σ 41 6)) rfl rfl rfl rfl ?_
      refine ev_iconst (pc' := 21) (b := (1 : Int32)) rfl rfl rfl ?_
      refine ev_isub (pc' := 22) rfl rfl ?_
      refine ev_iload_n (pc' := 23) rfl rfl rfl ?_
      refine ev_isub (pc' := 24) rfl rfl ?_
      obtain ⟨hg2, h⟩ := am_g_some h
      refine ev_iaload (pc' := 25) rfl rfl rfl hg2 ?_
      refine ev_istore_n (pc' := 26) (L' := [.ref 41, .int x1, .int x2, .int (σ 45 (((σ 41 6) - (1 : Int32)) - x2).toNatClampNeg)]) rfl rfl rfl rfl ?_
      refine ev_aload_n (pc' := 27) rfl rfl rfl ?_
      refine ev_getfield (pc' := 30) (w := .ref 46) rfl rfl rfl rfl ?_
      refine ev_iload_n (pc' := 31) rfl rfl rfl ?_
      refine ev_iload_n (pc' := 32) rfl rfl rfl ?_
      refine ev_iload_n (pc' := 33) rfl rfl rfl ?_
      refine ev_isub (pc' := 34) rfl rfl ?_
      obtain ⟨hg3, h⟩ := am_g_some h
      refine ev_iastore (pc' := 35) rfl rfl rfl hg3 ?_
      refine ev_iload_n (pc' := 36) rfl rfl rfl ?_
      refine ev_iload_n (pc' := 37) rfl rfl rfl ?_
      refine ev_iadd (pc' := 38) rfl rfl ?_
      refine ev_istore_n (pc' := 39) (L' := [.ref 41, .int (x1 + (σ 45 (((σ 41 6) - (1 : Int32)) - x2).toNatClampNeg)), .int x2, .int (σ 45 (((σ 41 6) - (1 : Int32)) - x2).toNatClampNeg)]) rfl rfl rfl rfl ?_
      refine ev_iinc (pc' := 42) (L' := [.ref 41, .int (x1 + (σ 45 (((σ 41 6) - (1 : Int32)) - x2).toNatClampNeg)), .int (x2 + (1 : Int32)), .int (σ 45 (((σ 41 6) - (1 : Int32)) - x2).toNatClampNeg)]) (b := (1 : Int32)) rfl rfl rfl rfl rfl ?_
      refine ev_goto (pc' := 4) rfl rfl ?_
      exact ih h
def fx_Parting_setChanges (N : Nat) (σ : am_S) : Option am_S := fx_Parting_setChanges_b4 N N (0 : Int32) (0 : Int32) σ
set_option maxRecDepth 100000 in
theorem fx_Parting_setChanges_e {X : Nat} {xs : Nat → Int32} {d : Nat} {N : Nat} {σ : am_S} {o : am_S} (h : fx_Parting_setChanges N σ = some o) : am_Ev am_sh (am_exx X xs) (d + 0) mm_40 0 [.ref 41, .null, .null, .null] [] σ (none) o := by
  unfold fx_Parting_setChanges at h
  refine ev_iconst (pc' := 1) (b := (0 : Int32)) rfl rfl rfl ?_
  refine ev_istore_n (pc' := 2) (L' := [.ref 41, .int (0 : Int32), .null, .null]) rfl rfl rfl rfl ?_
  refine ev_iconst (pc' := 3) (b := (0 : Int32)) rfl rfl rfl ?_
  refine ev_istore_n (pc' := 4) (L' := [.ref 41, .int (0 : Int32), .int (0 : Int32), .null]) rfl rfl rfl rfl ?_
  exact fx_Parting_setChanges_b4_e h
/-! java/lang/Integer.numberOfTrailingZeros ('I',): T -/
def fx_Int_numberOfTrailingZeros_b74 (x0 : Int32) (x1 : Int32) (σ : am_S) : Int32 := (x1 + ((x0.toUInt32 >>> ((1 : Int32).toUInt32 &&& Int32.toUInt32 31)).toInt32))
set_option maxRecDepth 100000 in
theorem fx_Int_numberOfTrailingZeros_b74_e {X : Nat} {xs : Nat → Int32} {d : Nat} {x0 : Int32} {x1 : Int32} {σ : am_S} {o : Int32} (h : fx_Int_numberOfTrailingZeros_b74 x0 x1 σ = o) : am_Ev am_sh (am_exx X xs) (d + 0) mm_216 74 [.int x0, .int x1] [] σ (some (.int o)) σ := by
  unfold fx_Int_numberOfTrailingZeros_b74 at h
  refine ev_iload_n (pc' := 75) rfl rfl rfl ?_
  refine ev_iload_n (pc' := 76) rfl rfl rfl ?_
  refine ev_iconst (pc' := 77) (b := (1 : Int32)) rfl rfl rfl ?_
  refine ev_iushr (pc' := 78) rfl rfl ?_
  refine ev_iadd (pc' := 79) rfl rfl ?_
  subst h
  exact ev_ireturn rfl rfl
def fx_Int_numberOfTrailingZeros_b62 (x0 : Int32) (x1 : Int32) (σ : am_S) : Int32 := (if x0 ≤ (4 : Int32) then fx_Int_numberOfTrailingZeros_b74 x0 x1 σ else fx_Int_numberOfTrailingZeros_b74 ((x0.toUInt32 >>> ((2 : Int32).toUInt32 &&& Int32.toUInt32 31)).toInt32) (x1 + (2 : Int32)) σ)
set_option maxRecDepth 100000 in
theorem fx_Int_numberOfTrailingZeros_b62_e {X : Nat} {xs : Nat → Int32} {d : Nat} {x0 : Int32} {x1 : Int32} {σ : am_S} {o : Int32} (h : fx_Int_numberOfTrailingZeros_b62 x0 x1 σ = o) : am_Ev am_sh (am_exx X xs) (d + 0) mm_216 62 [.int x0, .int x1] [] σ (some (.int o)) σ := by
  unfold fx_Int_numberOfTrailingZeros_b62 at h
  refine ev_iload_n (pc' := 63) rfl rfl rfl ?_
  refine ev_iconst (pc' := 64) (b := (4 : Int32)) rfl rfl rfl ?_
  rcases am_if h with ⟨hc1, h⟩ | ⟨hc1, h⟩
  · refine ev_ic_t (pc' := 74) rfl rfl (cb_le_t hc1) ?_
    exact fx_Int_numberOfTrailingZeros_b74_e h
  · refine ev_ic_f (pc' := 67) rfl (by decide) rfl (cb_le_f hc1) ?_
    refine ev_iinc (pc' := 70) (L' := [.int x0, .int (x1 + (2 : Int32))]) (b := (2 : Int32)) rfl rfl rfl rfl rfl ?_
    refine ev_iload_n (pc' := 71) rfl rfl rfl ?_
    refine ev_iconst (pc' := 72) (b := (2 : Int32)) rfl rfl rfl ?_
    refine ev_iushr (pc' := 73) rfl rfl ?_
    refine ev_istore_n (pc' := 74) (L' := [.int (x0.toUInt32 >>> ((2 : Int32).toUInt32 &&& Int32.toUInt32 31)).toInt32, .int (x1 + (2 : Int32))]) rfl rfl rfl rfl ?_
    exact fx_Int_numberOfTrailingZeros_b74_e h
def fx_Int_numberOfTrailingZeros_b49 (x0 : Int32) (x1 : Int32) (σ : am_S) : Int32 := (if x0 ≤ (16 : Int32) then fx_Int_numberOfTrailingZeros_b62 x0 x1 σ else fx_Int_numberOfTrailingZeros_b62 ((x0.toUInt32 >>> ((4 : Int32).toUInt32 &&& Int32.toUInt32 31)).toInt32) (x1 + (4 : Int32)) σ)
set_option maxRecDepth 100000 in
theorem fx_Int_numberOfTrailingZeros_b49_e {X : Nat} {xs : Nat → Int32} {d : Nat} {x0 : Int32} {x1 : Int32} {σ : am_S} {o : Int32} (h : fx_Int_numberOfTrailingZeros_b49 x0 x1 σ = o) : am_Ev am_sh (am_exx X xs) (d + 0) mm_216 49 [.int x0, .int x1] [] σ (some (.int o)) σ := by
  unfold fx_Int_numberOfTrailingZeros_b49 at h
  refine ev_iload_n (pc' := 50) rfl rfl rfl ?_
  refine ev_bipush (pc' := 52) (b := (16 : Int32)) rfl rfl rfl ?_
  rcases am_if h with ⟨hc1, h⟩ | ⟨hc1, h⟩
  · refine ev_ic_t (pc' := 62) rfl rfl (cb_le_t hc1) ?_
    exact fx_Int_numberOfTrailingZeros_b62_e h
  · refine ev_ic_f (pc' := 55) rfl (by decide) rfl (cb_le_f hc1) ?_
    refine ev_iinc (pc' := 58) (L' := [.int x0, .int (x1 + (4 : Int32))]) (b := (4 : Int32)) rfl rfl rfl rfl rfl ?_
    refine ev_iload_n (pc' := 59) rfl rfl rfl ?_
    refine ev_iconst (pc' := 60) (b := (4 : Int32)) rfl rfl rfl ?_
    refine ev_iushr (pc' := 61) rfl rfl ?_
    refine ev_istore_n (pc' := 62) (L' := [.int (x0.toUInt32 >>> ((4 : Int32).toUInt32 &&& Int32.toUInt32 31)).toInt32, .int (x1 + (4 : Int32))]) rfl rfl rfl rfl ?_
    exact fx_Int_numberOfTrailingZeros_b62_e h
def fx_Int_numberOfTrailingZeros_b34 (x0 : Int32) (x1 : Int32) (σ : am_S) : Int32 := (if x0 ≤ (256 : Int32) then fx_Int_numberOfTrailingZeros_b49 x0 x1 σ else fx_Int_numberOfTrailingZeros_b49 ((x0.toUInt32 >>> ((8 : Int32).toUInt32 &&& Int32.toUInt32 31)).toInt32) (x1 + (8 : Int32)) σ)
set_option maxRecDepth 100000 in
theorem fx_Int_numberOfTrailingZeros_b34_e {X : Nat} {xs : Nat → Int32} {d : Nat} {x0 : Int32} {x1 : Int32} {σ : am_S} {o : Int32} (h : fx_Int_numberOfTrailingZeros_b34 x0 x1 σ = o) : am_Ev am_sh (am_exx X xs) (d + 0) mm_216 34 [.int x0, .int x1] [] σ (some (.int o)) σ := by
  unfold fx_Int_numberOfTrailingZeros_b34 at h
  refine ev_iload_n (pc' := 35) rfl rfl rfl ?_
  refine ev_sipush (pc' := 38) (b := (256 : Int32)) rfl rfl rfl ?_
  rcases am_if h with ⟨hc1, h⟩ | ⟨hc1, h⟩
  · refine ev_ic_t (pc' := 49) rfl rfl (cb_le_t hc1) ?_
    exact fx_Int_numberOfTrailingZeros_b49_e h
  · refine ev_ic_f (pc' := 41) rfl (by decide) rfl (cb_le_f hc1) ?_
    refine ev_iinc (pc' := 44) (L' := [.int x0, .int (x1 + (8 : Int32))]) (b := (8 : Int32)) rfl rfl rfl rfl rfl ?_
    refine ev_iload_n (pc' := 45) rfl rfl rfl ?_
    refine ev_bipush (pc' := 47) (b := (8 : Int32)) rfl rfl rfl ?_
    refine ev_iushr (pc' := 48) rfl rfl ?_
    refine ev_istore_n (pc' := 49) (L' := [.int (x0.toUInt32 >>> ((8 : Int32).toUInt32 &&& Int32.toUInt32 31)).toInt32, .int (x1 + (8 : Int32))]) rfl rfl rfl rfl ?_
    exact fx_Int_numberOfTrailingZeros_b49_e h
def fx_Int_numberOfTrailingZeros (a0 : Int32) (σ : am_S) : Int32 := (if 0 < ((a0 ^^^ (-1 : Int32)) &&& (a0 - (1 : Int32))) then (if ((a0 ^^^ (-1 : Int32)) &&& (a0 - (1 : Int32))) ≤ (65536 : Int32) then fx_Int_numberOfTrailingZeros_b34 ((a0 ^^^ (-1 : Int32)) &&& (a0 - (1 : Int32))) (1 : Int32) σ else fx_Int_numberOfTrailingZeros_b34 ((((a0 ^^^ (-1 : Int32)) &&& (a0 - (1 : Int32))).toUInt32 >>> ((16 : Int32).toUInt32 &&& Int32.toUInt32 31)).toInt32) ((1 : Int32) + (16 : Int32)) σ) else (((a0 ^^^ (-1 : Int32)) &&& (a0 - (1 : Int32))) &&& (32 : Int32)))
set_option maxRecDepth 100000 in
theorem fx_Int_numberOfTrailingZeros_e {X : Nat} {xs : Nat → Int32} {d : Nat} {a0 : Int32} {σ : am_S} {o : Int32} (h : fx_Int_numberOfTrailingZeros a0 σ = o) : am_Ev am_sh (am_exx X xs) (d + 0) mm_216 0 [.int a0, .null] [] σ (some (.int o)) σ := by
  unfold fx_Int_numberOfTrailingZeros at h
  refine ev_iload_n (pc' := 1) rfl rfl rfl ?_
  refine ev_iconst (pc' := 2) (b := (-1 : Int32)) rfl rfl rfl ?_
  refine ev_ixor (pc' := 3) rfl rfl ?_
  refine ev_iload_n (pc' := 4) rfl rfl rfl ?_
  refine ev_iconst (pc' := 5) (b := (1 : Int32)) rfl rfl rfl ?_
  refine ev_isub (pc' := 6) rfl rfl ?_
  refine ev_iand (pc' := 7) rfl rfl ?_
  refine ev_istore_n (pc' := 8) (L' := [.int ((a0 ^^^ (-1 : Int32)) &&& (a0 - (1 : Int32))), .null]) rfl rfl rfl rfl ?_
  refine ev_iload_n (pc' := 9) rfl rfl rfl ?_
  rcases am_if h with ⟨hc1, h⟩ | ⟨hc1, h⟩
  · refine ev_if_t (pc' := 17) rfl rfl (cb_gt_t hc1) ?_
    refine ev_iconst (pc' := 18) (b := (1 : Int32)) rfl rfl rfl ?_
    refine ev_istore_n (pc' := 19) (L' := [.int ((a0 ^^^ (-1 : Int32)) &&& (a0 - (1 : Int32))), .int (1 : Int32)]) rfl rfl rfl rfl ?_
    refine ev_iload_n (pc' := 20) rfl rfl rfl ?_
    refine ev_ldc_w (pc' := 23) (b := (65536 : Int32)) rfl rfl rfl ?_
    rcases am_if h with ⟨hc2, h⟩ | ⟨hc2, h⟩
    · refine ev_ic_t (pc' := 34) rfl rfl (cb_le_t hc2) ?_
      exact fx_Int_numberOfTrailingZeros_b34_e h
    · refine ev_ic_f (pc' := 26) rfl (by decide) rfl (cb_le_f hc2) ?_
      refine ev_iinc (pc' := 29) (L' := [.int ((a0 ^^^ (-1 : Int32)) &&& (a0 - (1 : Int32))), .int ((1 : Int32) + (16 : Int32))]) (b := (16 : Int32)) rfl rfl rfl rfl rfl ?_
      refine ev_iload_n (pc' := 30) rfl rfl rfl ?_
      refine ev_bipush (pc' := 32) (b := (16 : Int32)) rfl rfl rfl ?_
      refine ev_iushr (pc' := 33) rfl rfl ?_
      refine ev_istore_n (pc' := 34) (L' := [.int (((a0 ^^^ (-1 : Int32)) &&& (a0 - (1 : Int32))).toUInt32 >>> ((16 : Int32).toUInt32 &&& Int32.toUInt32 31)).toInt32, .int ((1 : Int32) + (16 : Int32))]) rfl rfl rfl rfl ?_
      exact fx_Int_numberOfTrailingZeros_b34_e h
  · refine ev_if_f (pc' := 12) rfl (by decide) rfl (cb_gt_f hc1) ?_
    refine ev_iload_n (pc' := 13) rfl rfl rfl ?_
    refine ev_bipush (pc' := 15) (b := (32 : Int32)) rfl rfl rfl ?_
    refine ev_iand (pc' := 16) rfl rfl ?_
    subst h
    exact ev_ireturn rfl rfl
