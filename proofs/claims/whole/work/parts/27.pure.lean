/-! PartedLandModel.hoard (85, 'I', 'I'): S -/
def fm_hoard_b19 (σ : am_S) : Option (Int32 × am_S) := (fm_finding (1 : Int32) σ).bind fun q1 => some (q1.1, q1.2)
set_option maxRecDepth 100000 in
theorem fm_hoard_b19_e {X : Nat} {xs : Nat → Int32} {d : Nat} {w1 : Value} {w2 : Value} {w3 : Value} {σ : am_S} {o : Int32 × am_S} (h : fm_hoard_b19 σ = some o) : am_Ev am_sh (am_exx X xs) (d + 1) mm_180 19 [.ref 85, w1, w2, w3] [] σ (some (.int o.1)) o.2 := by
  unfold fm_hoard_b19 at h
  refine ev_aload_n (pc' := 20) rfl rfl rfl ?_
  refine ev_iconst (pc' := 21) (b := (1 : Int32)) rfl rfl rfl ?_
  refine am_bd h (fun q1 hq1 h => ?_)
  refine ev_call (mi := 159) (as := [.ref 85, .int (1 : Int32)]) (rest := []) rfl rfl (Nat.le_of_ble_eq_true rfl) (fm_finding_e (d := d) hq1) ?_
  show am_Ev _ _ _ _ 24 _ _ _ _ _
  obtain rfl := Option.some.inj h
  exact ev_ireturn rfl rfl
def fm_hoard (a1 : Int32) (a2 : Int32) (σ : am_S) : Option (Int32 × am_S) := (if (fm_isPerson a1 σ) = 0 then fm_hoard_b19 σ else (if (fm_isIn a2 (0 : Int32) (9999 : Int32) σ) = 0 then fm_hoard_b19 σ else am_g (am_in a1 16) <| am_g (am_in a1 16) <| some ((σ 101 a1.toNatClampNeg), (am_up σ 101 a1.toNatClampNeg a2))))
set_option maxRecDepth 100000 in
theorem fm_hoard_e {X : Nat} {xs : Nat → Int32} {d : Nat} {a1 : Int32} {a2 : Int32} {σ : am_S} {o : Int32 × am_S} (h : fm_hoard a1 a2 σ = some o) : am_Ev am_sh (am_exx X xs) (d + 1) mm_180 0 [.ref 85, .int a1, .int a2, .null] [] σ (some (.int o.1)) o.2 := by
  unfold fm_hoard at h
  refine ev_aload_n (pc' := 1) rfl rfl rfl ?_
  refine ev_iload_n (pc' := 2) rfl rfl rfl ?_
  refine ev_call (mi := 192) (as := [.ref 85, .int a1]) (rest := []) rfl rfl (Nat.le_of_ble_eq_true rfl) (fm_isPerson_e (d := d) rfl) ?_
  show am_Ev _ _ _ _ 5 _ _ _ _ _
  rcases am_if h with ⟨hc1, h⟩ | ⟨hc1, h⟩
  · refine ev_if_t (pc' := 19) rfl rfl (cb_eq_t hc1) ?_
    exact fm_hoard_b19_e h
  · refine ev_if_f (pc' := 8) rfl (by decide) rfl (cb_eq_f hc1) ?_
    refine ev_iload_n (pc' := 9) rfl rfl rfl ?_
    refine ev_iconst (pc' := 10) (b := (0 : Int32)) rfl rfl rfl ?_
    refine ev_sipush (pc' := 13) (b := (9999 : Int32)) rfl rfl rfl ?_
    refine ev_call (mi := 170) (as := [.int a2, .int (0 : Int32), .int (9999 : Int32)]) (rest := []) rfl rfl (Nat.le_of_ble_eq_true rfl) (fm_isIn_e (d := d) rfl) ?_
    show am_Ev _ _ _ _ 16 _ _ _ _ _
    rcases am_if h with ⟨hc2, h⟩ | ⟨hc2, h⟩
    · refine ev_if_f (pc' := 19) rfl (by decide) rfl (cb_ne_f hc2) ?_
      exact fm_hoard_b19_e h
    · refine ev_if_t (pc' := 25) rfl rfl (cb_ne_t hc2) ?_
      refine ev_aload_n (pc' := 26) rfl rfl rfl ?_
      refine ev_getfield (pc' := 29) (w := .ref 101) rfl rfl rfl rfl ?_
      refine ev_iload_n (pc' := 30) rfl rfl rfl ?_
      obtain ⟨hg3, h⟩ := am_g_some h
      refine ev_iaload (pc' := 31) rfl rfl rfl hg3 ?_
      refine ev_istore_n (pc' := 32) (L' := [.ref 85, .int a1, .int a2, .int (σ 101 a1.toNatClampNeg)]) rfl rfl rfl rfl ?_
      refine ev_aload_n (pc' := 33) rfl rfl rfl ?_
      refine ev_getfield (pc' := 36) (w := .ref 101) rfl rfl rfl rfl ?_
      refine ev_iload_n (pc' := 37) rfl rfl rfl ?_
      refine ev_iload_n (pc' := 38) rfl rfl rfl ?_
      obtain ⟨hg4, h⟩ := am_g_some h
      refine ev_iastore (pc' := 39) rfl rfl rfl hg4 ?_
      refine ev_iload_n (pc' := 40) rfl rfl rfl ?_
      obtain rfl := Option.some.inj h
      exact ev_ireturn rfl rfl
/-! PartedLandModel.week (85, 'I', 'I', 'I'): S -/
def fm_week_b55 (σ : am_S) : Option (Int32 × am_S) := (fm_finding (1 : Int32) σ).bind fun q1 => some (q1.1, q1.2)
set_option maxRecDepth 100000 in
theorem fm_week_b55_e {X : Nat} {xs : Nat → Int32} {d : Nat} {w1 : Value} {w2 : Value} {w3 : Value} {σ : am_S} {o : Int32 × am_S} (h : fm_week_b55 σ = some o) : am_Ev am_sh (am_exx X xs) (d + 1) mm_182 55 [.ref 85, w1, w2, w3] [] σ (some (.int o.1)) o.2 := by
  unfold fm_week_b55 at h
  refine ev_aload_n (pc' := 56) rfl rfl rfl ?_
  refine ev_iconst (pc' := 57) (b := (1 : Int32)) rfl rfl rfl ?_
  refine am_bd h (fun q1 hq1 h => ?_)
  refine ev_call (mi := 159) (as := [.ref 85, .int (1 : Int32)]) (rest := []) rfl rfl (Nat.le_of_ble_eq_true rfl) (fm_finding_e (d := d) hq1) ?_
  show am_Ev _ _ _ _ 60 _ _ _ _ _
  obtain rfl := Option.some.inj h
  exact ev_ireturn rfl rfl
def fm_week (a1 : Int32) (a2 : Int32) (a3 : Int32) (σ : am_S) : Option (Int32 × am_S) := (if a1 < 0 then fm_week_b55 σ else (if (fm_isIn (a1 / (1000 : Int32)) (1 : Int32) (200 : Int32) σ) = 0 then fm_week_b55 σ else (if (fm_isIn (a1 - a1 / (1000 : Int32) * (1000 : Int32)) (1 : Int32) (200 : Int32) σ) = 0 then fm_week_b55 σ else (if (fm_isIn a2 (0 : Int32) (9999 : Int32) σ) = 0 then fm_week_b55 σ else (if (fm_isIn a3 (0 : Int32) (9 : Int32) σ) = 0 then fm_week_b55 σ else am_g (am_in (0 : Int32) 2) <| am_g (am_in (1 : Int32) 2) <| some ((1 : Int32), (am_up (am_up (am_up (am_up σ 111 (0 : Int32).toNatClampNeg (a1 / (1000 : Int32))) 111 (1 : Int32).toNatClampNeg (a1 - a1 / (1000 : Int32) * (1000 : Int32))) 85 35 a2) 85 36 a3)))))))
set_option maxRecDepth 100000 in
theorem fm_week_e {X : Nat} {xs : Nat → Int32} {d : Nat} {a1 : Int32} {a2 : Int32} {a3 : Int32} {σ : am_S} {o : Int32 × am_S} (h : fm_week a1 a2 a3 σ = some o) : am_Ev am_sh (am_exx X xs) (d + 1) mm_182 0 [.ref 85, .int a1, .int a2, .int a3] [] σ (some (.int o.1)) o.2 := by
  unfold fm_week at h
  refine ev_iload_n (pc' := 1) rfl rfl rfl ?_
  rcases am_if h with ⟨hc1, h⟩ | ⟨hc1, h⟩
  · refine ev_if_t (pc' := 55) rfl rfl (cb_lt_t hc1) ?_
    exact fm_week_b55_e h
  · refine ev_if_f (pc' := 4) rfl (by decide) rfl (cb_lt_f hc1) ?_
    refine ev_iload_n (pc' := 5) rfl rfl rfl ?_
    refine ev_sipush (pc' := 8) (b := (1000 : Int32)) rfl rfl rfl ?_
    refine ev_idiv (pc' := 9) rfl rfl (by decide) ?_
    refine ev_iconst (pc' := 10) (b := (1 : Int32)) rfl rfl rfl ?_
    refine ev_sipush (pc' := 13) (b := (200 : Int32)) rfl rfl rfl ?_
    refine ev_call (mi := 170) (as := [.int (a1 / (1000 : Int32)), .int (1 : Int32), .int (200 : Int32)]) (rest := []) rfl rfl (Nat.le_of_ble_eq_true rfl) (fm_isIn_e (d := d) rfl) ?_
    show am_Ev _ _ _ _ 16 _ _ _ _ _
    rcases am_if h with ⟨hc2, h⟩ | ⟨hc2, h⟩
    · refine ev_if_t (pc' := 55) rfl rfl (cb_eq_t hc2) ?_
      exact fm_week_b55_e h
    · refine ev_if_f (pc' := 19) rfl (by decide) rfl (cb_eq_f hc2) ?_
      refine ev_iload_n (pc' := 20) rfl rfl rfl ?_
      refine ev_sipush (pc' := 23) (b := (1000 : Int32)) rfl rfl rfl ?_
      refine ev_irem (pc' := 24) rfl rfl (by decide) ?_
      refine ev_iconst (pc' := 25) (b := (1 : Int32)) rfl rfl rfl ?_
      refine ev_sipush (pc' := 28) (b := (200 : Int32)) rfl rfl rfl ?_
      refine ev_call (mi := 170) (as := [.int (a1 - a1 / (1000 : Int32) * (1000 : Int32)), .int (1 : Int32), .int (200 : Int32)]) (rest := []) rfl rfl (Nat.le_of_ble_eq_true rfl) (fm_isIn_e (d := d) rfl) ?_
      show am_Ev _ _ _ _ 31 _ _ _ _ _
      rcases am_if h with ⟨hc3, h⟩ | ⟨hc3, h⟩
      · refine ev_if_t (pc' := 55) rfl rfl (cb_eq_t hc3) ?_
        exact fm_week_b55_e h
      · refine ev_if_f (pc' := 34) rfl (by decide) rfl (cb_eq_f hc3) ?_
        refine ev_iload_n (pc' := 35) rfl rfl rfl ?_
        refine ev_iconst (pc' := 36) (b := (0 : Int32)) rfl rfl rfl ?_
        refine ev_sipush (pc' := 39) (b := (9999 : Int32)) rfl rfl rfl ?_
        refine ev_call (mi := 170) (as := [.int a2, .int (0 : Int32), .int (9999 : Int32)]) (rest := []) rfl rfl (Nat.le_of_ble_eq_true rfl) (fm_isIn_e (d := d) rfl) ?_
        show am_Ev _ _ _ _ 42 _ _ _ _ _
        rcases am_if h with ⟨hc4, h⟩ | ⟨hc4, h⟩
        · refine ev_if_t (pc' := 55) rfl rfl (cb_eq_t hc4) ?_
          exact fm_week_b55_e h
        · refine ev_if_f (pc' := 45) rfl (by decide) rfl (cb_eq_f hc4) ?_
          refine ev_iload_n (pc' := 46) rfl rfl rfl ?_
          refine ev_iconst (pc' := 47) (b := (0 : Int32)) rfl rfl rfl ?_
          refine ev_bipush (pc' := 49) (b := (9 : Int32)) rfl rfl rfl ?_
          refine ev_call (mi := 170) (as := [.int a3, .int (0 : Int32), .int (9 : Int32)]) (rest := []) rfl rfl (Nat.le_of_ble_eq_true rfl) (fm_isIn_e (d := d) rfl) ?_
          show am_Ev _ _ _ _ 52 _ _ _ _ _
          rcases am_if h with ⟨hc5, h⟩ | ⟨hc5, h⟩
          · refine ev_if_f (pc' := 55) rfl (by decide) rfl (cb_ne_f hc5) ?_
            exact fm_week_b55_e h
          · refine ev_if_t (pc' := 61) rfl rfl (cb_ne_t hc5) ?_
            refine ev_aload_n (pc' := 62) rfl rfl rfl ?_
            refine ev_getfield (pc' := 65) (w := .ref 111) rfl rfl rfl rfl ?_
            refine ev_iconst (pc' := 66) (b := (0 : Int32)) rfl rfl rfl ?_
            refine ev_iload_n (pc' := 67) rfl rfl rfl ?_
            refine ev_sipush (pc' := 70) (b := (1000 : Int32)) rfl rfl rfl ?_
            refine ev_idiv (pc' := 71) rfl rfl (by decide) ?_
            obtain ⟨hg6, h⟩ := am_g_some h
            refine ev_iastore (pc' := 72) rfl rfl rfl hg6 ?_
            refine ev_aload_n (pc' := 73) rfl rfl rfl ?_
            refine ev_getfield (pc' := 76) (w := .ref 111) rfl rfl rfl rfl ?_
            refine ev_iconst (pc' := 77) (b := (1 : Int32)) rfl rfl rfl ?_
            refine ev_iload_n (pc' := 78) rfl rfl rfl ?_
            refine ev_sipush (pc' := 81) (b := (1000 : Int32)) rfl rfl rfl ?_
            refine ev_irem (pc' := 82) rfl rfl (by decide) ?_
            obtain ⟨hg7, h⟩ := am_g_some h
            refine ev_iastore (pc' := 83) rfl rfl rfl hg7 ?_
            refine ev_aload_n (pc' := 84) rfl rfl rfl ?_
            refine ev_iload_n (pc' := 85) rfl rfl rfl ?_
            refine ev_putfield (pc' := 88) (ci := 11) (f := 35) (z := 0) rfl rfl rfl rfl rfl ?_
            refine ev_aload_n (pc' := 89) rfl rfl rfl ?_
            refine ev_iload_n (pc' := 90) rfl rfl rfl ?_
            refine ev_putfield (pc' := 93) (ci := 11) (f := 36) (z := 0) rfl rfl rfl rfl rfl ?_
            refine ev_iconst (pc' := 94) (b := (1 : Int32)) rfl rfl rfl ?_
            obtain rfl := Option.some.inj h
            exact ev_ireturn rfl rfl
/-! PartedLandModel.carries (85, 'I'): P -/
def fm_carries_b84 (N : Nat) (k35 : Int32 → Int32 → Int32 → Int32 → am_S → Option Int32) (x1 : Int32) (x2 : Int32) (x4 : Int32) (s0 : Int32) (s1 : Int32) (σ : am_S) : Option Int32 := k35 x1 x2 (s1 ||| s0) (x4 + (1 : Int32)) σ
set_option maxRecDepth 100000 in
theorem fm_carries_b84_e {X : Nat} {xs : Nat → Int32} {d : Nat} {N : Nat} {k35 : Int32 → Int32 → Int32 → Int32 → am_S → Option Int32} (hk35 : ∀ {x1 : Int32} {x2 : Int32} {x3 : Int32} {x4 : Int32} {σ : am_S} {o : Int32}, k35 x1 x2 x3 x4 σ = some o → am_Ev am_sh (am_exx X xs) (d + 2) mm_183 35 [.ref 85, .int x1, .int x2, .int x3, .int x4] [] σ (some (.int o)) σ) {x1 : Int32} {x2 : Int32} {x4 : Int32} {s0 : Int32} {s1 : Int32} {w3 : Value} {σ : am_S} {o : Int32} (h : fm_carries_b84 N k35 x1 x2 x4 s0 s1 σ = some o) : am_Ev am_sh (am_exx X xs) (d + 2) mm_183 84 [.ref 85, .int x1, .int x2, w3, .int x4] [.int s0, .int s1] σ (some (.int o)) σ := by
  unfold fm_carries_b84 at h
  refine ev_ior (pc' := 85) rfl rfl ?_
  refine ev_istore_n (pc' := 86) (L' := [.ref 85, .int x1, .int x2, .int (s1 ||| s0), .int x4]) rfl rfl rfl rfl ?_
  refine ev_iinc (pc' := 89) (L' := [.ref 85, .int x1, .int x2, .int (s1 ||| s0), .int (x4 + (1 : Int32))]) (b := (1 : Int32)) rfl rfl rfl rfl rfl ?_
  refine ev_goto (pc' := 35) rfl rfl ?_
  exact hk35 h
def fm_carries_b83 (N : Nat) (k35 : Int32 → Int32 → Int32 → Int32 → am_S → Option Int32) (x1 : Int32) (x2 : Int32) (x4 : Int32) (s0 : Int32) (σ : am_S) : Option Int32 := fm_carries_b84 N k35 x1 x2 x4 (0 : Int32) s0 σ
set_option maxRecDepth 100000 in
theorem fm_carries_b83_e {X : Nat} {xs : Nat → Int32} {d : Nat} {N : Nat} {k35 : Int32 → Int32 → Int32 → Int32 → am_S → Option Int32} (hk35 : ∀ {x1 : Int32} {x2 : Int32} {x3 : Int32} {x4 : Int32} {σ : am_S} {o : Int32}, k35 x1 x2 x3 x4 σ = some o → am_Ev am_sh (am_exx X xs) (d + 2) mm_183 35 [.ref 85, .int x1, .int x2, .int x3, .int x4] [] σ (some (.int o)) σ) {x1 : Int32} {x2 : Int32} {x4 : Int32} {s0 : Int32} {w3 : Value} {σ : am_S} {o : Int32} (h : fm_carries_b83 N k35 x1 x2 x4 s0 σ = some o) : am_Ev am_sh (am_exx X xs) (d + 2) mm_183 83 [.ref 85, .int x1, .int x2, w3, .int x4] [.int s0] σ (some (.int o)) σ := by
  unfold fm_carries_b83 at h
  refine ev_iconst (pc' := 84) (b := (0 : Int32)) rfl rfl rfl ?_
  exact fm_carries_b84_e (hk35 := hk35) h
def fm_carries_b35 (N : Nat) : Nat → Int32 → Int32 → Int32 → Int32 → am_S → Option Int32
  | 0, _, _, _, _, _ => none
  | n + 1, x1, x2, x3, x4, σ => (if (σ 85 1) ≤ x4 then (if x3 = 0 then some (0 : Int32) else am_g (am_in x1 16) <| (if (σ 85 35) ≤ (σ 101 x1.toNatClampNeg) then some (σ 85 35) else am_g (am_in x1 16) <| some (σ 101 x1.toNatClampNeg))) else (fm_sideOf N x4 σ).bind fun q6 => (if q6 = x2 then fm_carries_b83 N (fun x1 x2 x3 x4 σ => fm_carries_b35 N n x1 x2 x3 x4 σ) x1 x2 x4 x3 σ else am_g (am_in x1 16) <| am_g (am_in (((12 : Int32) * (σ 97 x1.toNatClampNeg)) + x4) 144) <| (if (σ 85 36) < (σ 124 (((12 : Int32) * (σ 97 x1.toNatClampNeg)) + x4).toNatClampNeg) then fm_carries_b83 N (fun x1 x2 x3 x4 σ => fm_carries_b35 N n x1 x2 x3 x4 σ) x1 x2 x4 x3 σ else fm_carries_b84 N (fun x1 x2 x3 x4 σ => fm_carries_b35 N n x1 x2 x3 x4 σ) x1 x2 x4 (1 : Int32) x3 σ)))
set_option maxRecDepth 100000 in
theorem fm_carries_b35_e {X : Nat} {xs : Nat → Int32} {d : Nat} {N : Nat} : ∀ {n : Nat} {x1 : Int32} {x2 : Int32} {x3 : Int32} {x4 : Int32} {σ : am_S} {o : Int32}, fm_carries_b35 N n x1 x2 x3 x4 σ = some o → am_Ev am_sh (am_exx X xs) (d + 2) mm_183 35 [.ref 85, .int x1, .int x2, .int x3, .int x4] [] σ (some (.int o)) σ := by
  intro n
  induction n with
  | zero => intro x1 x2 x3 x4 σ o h; cases h
  | succ n ih =>
    intro x1 x2 x3 x4 σ o h
    unfold fm_carries_b35 at h
    refine ev_iload (pc' := 37) rfl rfl rfl ?_
    refine ev_aload_n (pc' := 38) rfl rfl rfl ?_
    refine ev_getfield (pc' := 41) (w := .int (σ 85 1)) rfl rfl rfl rfl ?_
    rcases am_if h with ⟨hc1, h⟩ | ⟨hc1, h⟩
    · refine ev_ic_t (pc' := 92) rfl rfl (cb_ge_t hc1) ?_
      refine ev_iload_n (pc' := 93) rfl rfl rfl ?_
      rcases am_if h with ⟨hc2, h⟩ | ⟨hc2, h⟩
      · refine ev_if_f (pc' := 96) rfl (by decide) rfl (cb_ne_f hc2) ?_
        refine ev_iconst (pc' := 97) (b := (0 : Int32)) rfl rfl rfl ?_
        refine ev_goto (pc' := 126) rfl rfl ?_
        obtain rfl := Option.some.inj h
        exact ev_ireturn rfl rfl
      · refine ev_if_t (pc' := 100) rfl rfl (cb_ne_t hc2) ?_
        refine ev_aload_n (pc' := 101) rfl rfl rfl ?_
        refine ev_getfield (pc' := 104) (w := .ref 101) rfl rfl rfl rfl ?_
        refine ev_iload_n (pc' := 105) rfl rfl rfl ?_
        obtain ⟨hg3, h⟩ := am_g_some h
        refine ev_iaload (pc' := 106) rfl rfl rfl hg3 ?_
        refine ev_aload_n (pc' := 107) rfl rfl rfl ?_
        refine ev_getfield (pc' := 110) (w := .int (σ 85 35)) rfl rfl rfl rfl ?_
        rcases am_if h with ⟨hc4, h⟩ | ⟨hc4, h⟩
        · refine ev_ic_t (pc' := 122) rfl rfl (cb_ge_t hc4) ?_
          refine ev_aload_n (pc' := 123) rfl rfl rfl ?_
          refine ev_getfield (pc' := 126) (w := .int (σ 85 35)) rfl rfl rfl rfl ?_
          obtain rfl := Option.some.inj h
          exact ev_ireturn rfl rfl
        · refine ev_ic_f (pc' := 113) rfl (by decide) rfl (cb_ge_f hc4) ?_
          refine ev_aload_n (pc' := 114) rfl rfl rfl ?_
          refine ev_getfield (pc' := 117) (w := .ref 101) rfl rfl rfl rfl ?_
          refine ev_iload_n (pc' := 118) rfl rfl rfl ?_
          obtain ⟨hg5, h⟩ := am_g_some h
          refine ev_iaload (pc' := 119) rfl rfl rfl hg5 ?_
          refine ev_goto (pc' := 126) rfl rfl ?_
          obtain rfl := Option.some.inj h
          exact ev_ireturn rfl rfl
    · refine ev_ic_f (pc' := 44) rfl (by decide) rfl (cb_ge_f hc1) ?_
      refine ev_iload_n (pc' := 45) rfl rfl rfl ?_
      refine ev_aload_n (pc' := 46) rfl rfl rfl ?_
      refine ev_iload (pc' := 48) rfl rfl rfl ?_
      refine am_bd h (fun q6 hq6 h => ?_)
      refine ev_call (mi := 143) (as := [.ref 85, .int x4]) (rest := [.int x3]) rfl rfl (Nat.le_of_ble_eq_true rfl) (fm_sideOf_e (d := d) hq6) ?_
      show am_Ev _ _ _ _ 51 _ _ _ _ _
      refine ev_iload_n (pc' := 52) rfl rfl rfl ?_
      rcases am_if h with ⟨hc7, h⟩ | ⟨hc7, h⟩
      · refine ev_ic_t (pc' := 83) rfl rfl (cb_eq_t hc7) ?_
        exact fm_carries_b83_e (hk35 := fun h => ih h) h
      · refine ev_ic_f (pc' := 55) rfl (by decide) rfl (cb_eq_f hc7) ?_
        refine ev_aload_n (pc' := 56) rfl rfl rfl ?_
        refine ev_getfield (pc' := 59) (w := .ref 124) rfl rfl rfl rfl ?_
        refine ev_bipush (pc' := 61) (b := (12 : Int32)) rfl rfl rfl ?_
        refine ev_aload_n (pc' := 62) rfl rfl rfl ?_
        refine ev_getfield (pc' := 65) (w := .ref 97) rfl rfl rfl rfl ?_
        refine ev_iload_n (pc' := 66) rfl rfl rfl ?_
        obtain ⟨hg8, h⟩ := am_g_some h
        refine ev_iaload (pc' := 67) rfl rfl rfl hg8 ?_
        refine ev_imul (pc' := 68) rfl rfl ?_
        refine ev_iload (pc' := 70) rfl rfl rfl ?_
        refine ev_iadd (pc' := 71) rfl rfl ?_
        obtain ⟨hg9, h⟩ := am_g_some h
        refine ev_iaload (pc' := 72) rfl rfl rfl hg9 ?_
        refine ev_aload_n (pc' := 73) rfl rfl rfl ?_
        refine ev_getfield (pc' := 76) (w := .int (σ 85 36)) rfl rfl rfl rfl ?_
        rcases am_if h with ⟨hc10, h⟩ | ⟨hc10, h⟩
        · refine ev_ic_t (pc' := 83) rfl rfl (cb_gt_t hc10) ?_
          exact fm_carries_b83_e (hk35 := fun h => ih h) h
        · refine ev_ic_f (pc' := 79) rfl (by decide) rfl (cb_gt_f hc10) ?_
          refine ev_iconst (pc' := 80) (b := (1 : Int32)) rfl rfl rfl ?_
          refine ev_goto (pc' := 84) rfl rfl ?_
          exact fm_carries_b84_e (hk35 := fun h => ih h) h
def fm_carries (N : Nat) (a1 : Int32) (σ : am_S) : Option Int32 := am_g (am_in a1 16) <| (fm_sideOf N (σ 97 a1.toNatClampNeg) σ).bind fun q2 => am_g (am_in q2 2) <| am_g (am_in ((1 : Int32) - q2) 2) <| (if (σ 111 q2.toNatClampNeg) < (σ 111 ((1 : Int32) - q2).toNatClampNeg) then fm_carries_b35 N N a1 q2 (0 : Int32) (0 : Int32) σ else some (0 : Int32))
set_option maxRecDepth 100000 in
theorem fm_carries_e {X : Nat} {xs : Nat → Int32} {d : Nat} {N : Nat} {a1 : Int32} {σ : am_S} {o : Int32} (h : fm_carries N a1 σ = some o) : am_Ev am_sh (am_exx X xs) (d + 2) mm_183 0 [.ref 85, .int a1, .null, .null, .null] [] σ (some (.int o)) σ := by
  unfold fm_carries at h
  refine ev_aload_n (pc' := 1) rfl rfl rfl ?_
  refine ev_aload_n (pc' := 2) rfl rfl rfl ?_
  refine ev_getfield (pc' := 5) (w := .ref 97) rfl rfl rfl rfl ?_
  refine ev_iload_n (pc' := 6) rfl rfl rfl ?_
  obtain ⟨hg1, h⟩ := am_g_some h
  refine ev_iaload (pc' := 7) rfl rfl rfl hg1 ?_
  refine am_bd h (fun q2 hq2 h => ?_)
  refine ev_call (mi := 143) (as := [.ref 85, .int (σ 97 a1.toNatClampNeg)]) (rest := []) rfl rfl (Nat.le_of_ble_eq_true rfl) (fm_sideOf_e (d := d) hq2) ?_
  show am_Ev _ _ _ _ 10 _ _ _ _ _
  refine ev_istore_n (pc' := 11) (L' := [.ref 85, .int a1, .int q2, .null, .null]) rfl rfl rfl rfl ?_
  refine ev_aload_n (pc' := 12) rfl rfl rfl ?_
  refine ev_getfield (pc' := 15) (w := .ref 111) rfl rfl rfl rfl ?_
  refine ev_iload_n (pc' := 16) rfl rfl rfl ?_
  obtain ⟨hg3, h⟩ := am_g_some h
  refine ev_iaload (pc' := 17) rfl rfl rfl hg3 ?_
  refine ev_aload_n (pc' := 18) rfl rfl rfl ?_
  refine ev_getfield (pc' := 21) (w := .ref 111) rfl rfl rfl rfl ?_
  refine ev_iconst (pc' := 22) (b := (1 : Int32)) rfl rfl rfl ?_
  refine ev_iload_n (pc' := 23) rfl rfl rfl ?_
  refine ev_isub (pc' := 24) rfl rfl ?_
  obtain ⟨hg4, h⟩ := am_g_some h
  refine ev_iaload (pc' := 25) rfl rfl rfl hg4 ?_
  rcases am_if h with ⟨hc5, h⟩ | ⟨hc5, h⟩
  · refine ev_ic_t (pc' := 30) rfl rfl (cb_lt_t hc5) ?_
    refine ev_iconst (pc' := 31) (b := (0 : Int32)) rfl rfl rfl ?_
    refine ev_istore_n (pc' := 32) (L' := [.ref 85, .int a1, .int q2, .int (0 : Int32), .null]) rfl rfl rfl rfl ?_
    refine ev_iconst (pc' := 33) (b := (0 : Int32)) rfl rfl rfl ?_
    refine ev_istore (pc' := 35) (L' := [.ref 85, .int a1, .int q2, .int (0 : Int32), .int (0 : Int32)]) rfl rfl rfl rfl ?_
    exact fm_carries_b35_e h
  · refine ev_ic_f (pc' := 28) rfl (by decide) rfl (cb_lt_f hc5) ?_
    refine ev_iconst (pc' := 29) (b := (0 : Int32)) rfl rfl rfl ?_
    obtain rfl := Option.some.inj h
    exact ev_ireturn rfl rfl
/-! PartedLandModel.stamp (85, 'I', 'I'): S -/
def fm_stamp_b16 (N : Nat) (σ : am_S) : Option (Int32 × am_S) := (fm_finding (1 : Int32) σ).bind fun q1 => some (q1.1, q1.2)
set_option maxRecDepth 100000 in
theorem fm_stamp_b16_e {X : Nat} {xs : Nat → Int32} {d : Nat} {N : Nat} {w1 : Value} {w2 : Value} {w3 : Value} {w4 : Value} {w5 : Value} {w6 : Value} {w7 : Value} {w8 : Value} {σ : am_S} {o : Int32 × am_S} (h : fm_stamp_b16 N σ = some o) : am_Ev am_sh (am_exx X xs) (d + 3) mm_184 16 [.ref 85, w1, w2, w3, w4, w5, w6, w7, w8] [] σ (some (.int o.1)) o.2 := by
  unfold fm_stamp_b16 at h
  refine ev_aload_n (pc' := 17) rfl rfl rfl ?_
  refine ev_iconst (pc' := 18) (b := (1 : Int32)) rfl rfl rfl ?_
  refine am_bd h (fun q1 hq1 h => ?_)
  refine ev_call (mi := 159) (as := [.ref 85, .int (1 : Int32)]) (rest := []) rfl rfl (Nat.le_of_ble_eq_true rfl) (fm_finding_e (d := d + 2) hq1) ?_
  show am_Ev _ _ _ _ 21 _ _ _ _ _
  obtain rfl := Option.some.inj h
  exact ev_ireturn rfl rfl
def fm_stamp_b132 (N : Nat) (k38 : Int32 → Int32 → Int32 → Int32 → Int32 → Int32 → am_S → Option (Int32 × am_S)) (x1 : Int32) (x2 : Int32) (x3 : Int32) (x4 : Int32) (x6 : Int32) (s0 : Int32) (s1 : Int32) (σ : am_S) : Option (Int32 × am_S) := k38 x1 x2 x3 x4 (s1 + s0) (x6 + (1 : Int32)) σ
set_option maxRecDepth 100000 in
theorem fm_stamp_b132_e {X : Nat} {xs : Nat → Int32} {d : Nat} {N : Nat} {k38 : Int32 → Int32 → Int32 → Int32 → Int32 → Int32 → am_S → Option (Int32 × am_S)} (hk38 : ∀ {x1 : Int32} {x2 : Int32} {x3 : Int32} {x4 : Int32} {x5 : Int32} {x6 : Int32} {w7 : Value} {w8 : Value} {σ : am_S} {o : Int32 × am_S}, k38 x1 x2 x3 x4 x5 x6 σ = some o → am_Ev am_sh (am_exx X xs) (d + 3) mm_184 38 [.ref 85, .int x1, .int x2, .int x3, .int x4, .int x5, .int x6, w7, w8] [] σ (some (.int o.1)) o.2) {x1 : Int32} {x2 : Int32} {x3 : Int32} {x4 : Int32} {x6 : Int32} {s0 : Int32} {s1 : Int32} {w5 : Value} {w7 : Value} {w8 : Value} {σ : am_S} {o : Int32 × am_S} (h : fm_stamp_b132 N k38 x1 x2 x3 x4 x6 s0 s1 σ = some o) : am_Ev am_sh (am_exx X xs) (d + 3) mm_184 132 [.ref 85, .int x1, .int x2, .int x3, .int x4, w5, .int x6, w7, w8] [.int s0, .int s1] σ (some (.int o.1)) o.2 := by
  unfold fm_stamp_b132 at h
  refine ev_iadd (pc' := 133) rfl rfl ?_
  refine ev_istore (pc' := 135) (L' := [.ref 85, .int x1, .int x2, .int x3, .int x4, .int (s1 + s0), .int x6, w7, w8]) rfl rfl rfl rfl ?_
  refine ev_iinc (pc' := 138) (L' := [.ref 85, .int x1, .int x2, .int x3, .int x4, .int (s1 + s0), .int (x6 + (1 : Int32)), w7, w8]) (b := (1 : Int32)) rfl rfl rfl rfl rfl ?_
  refine ev_goto (pc' := 38) rfl rfl ?_
  exact hk38 h
def fm_stamp_b85 (N : Nat) (k38 : Int32 → Int32 → Int32 → Int32 → Int32 → Int32 → am_S → Option (Int32 × am_S)) (x1 : Int32) (x2 : Int32) (x3 : Int32) (x4 : Int32) (x5 : Int32) (x6 : Int32) (x7 : Int32) (s0 : Int32) (σ : am_S) : Option (Int32 × am_S) := am_g (am_in x1 2) <| am_g (am_in x6 16) <| (fm_sideOf N (σ 97 x6.toNatClampNeg) σ).bind fun q3 => (if q3 = x1 then fm_stamp_b132 N k38 x1 x2 (x3 + ((s0 * (σ 111 x1.toNatClampNeg)) / (100 : Int32))) (x4 + s0) x6 (0 : Int32) x5 σ else fm_stamp_b132 N k38 x1 x2 (x3 + ((s0 * (σ 111 x1.toNatClampNeg)) / (100 : Int32))) (x4 + s0) x6 x7 x5 σ)
set_option maxRecDepth 100000 in
theorem fm_stamp_b85_e {X : Nat} {xs : Nat → Int32} {d : Nat} {N : Nat} {k38 : Int32 → Int32 → Int32 → Int32 → Int32 → Int32 → am_S → Option (Int32 × am_S)} (hk38 : ∀ {x1 : Int32} {x2 : Int32} {x3 : Int32} {x4 : Int32} {x5 : Int32} {x6 : Int32} {w7 : Value} {w8 : Value} {σ : am_S} {o : Int32 × am_S}, k38 x1 x2 x3 x4 x5 x6 σ = some o → am_Ev am_sh (am_exx X xs) (d + 3) mm_184 38 [.ref 85, .int x1, .int x2, .int x3, .int x4, .int x5, .int x6, w7, w8] [] σ (some (.int o.1)) o.2) {x1 : Int32} {x2 : Int32} {x3 : Int32} {x4 : Int32} {x5 : Int32} {x6 : Int32} {x7 : Int32} {s0 : Int32} {w8 : Value} {σ : am_S} {o : Int32 × am_S} (h : fm_stamp_b85 N k38 x1 x2 x3 x4 x5 x6 x7 s0 σ = some o) : am_Ev am_sh (am_exx X xs) (d + 3) mm_184 85 [.ref 85, .int x1, .int x2, .int x3, .int x4, .int x5, .int x6, .int x7, w8] [.int s0] σ (some (.int o.1)) o.2 := by
  unfold fm_stamp_b85 at h
  refine ev_istore (pc' := 87) (L' := [.ref 85, .int x1, .int x2, .int x3, .int x4, .int x5, .int x6, .int x7, .int s0]) rfl rfl rfl rfl ?_
  refine ev_iload_n (pc' := 88) rfl rfl rfl ?_
  refine ev_iload (pc' := 90) rfl rfl rfl ?_
  refine ev_aload_n (pc' := 91) rfl rfl rfl ?_
  refine ev_getfield (pc' := 94) (w := .ref 111) rfl rfl rfl rfl ?_
  refine ev_iload_n (pc' := 95) rfl rfl rfl ?_
  obtain ⟨hg1, h⟩ := am_g_some h
  refine ev_iaload (pc' := 96) rfl rfl rfl hg1 ?_
  refine ev_imul (pc' := 97) rfl rfl ?_
  refine ev_bipush (pc' := 99) (b := (100 : Int32)) rfl rfl rfl ?_
  refine ev_idiv (pc' := 100) rfl rfl (by decide) ?_
  refine ev_iadd (pc' := 101) rfl rfl ?_
  refine ev_istore_n (pc' := 102) (L' := [.ref 85, .int x1, .int x2, .int (x3 + ((s0 * (σ 111 x1.toNatClampNeg)) / (100 : Int32))), .int x4, .int x5, .int x6, .int x7, .int s0]) rfl rfl rfl rfl ?_
  refine ev_iload (pc' := 104) rfl rfl rfl ?_
  refine ev_iload (pc' := 106) rfl rfl rfl ?_
  refine ev_iadd (pc' := 107) rfl rfl ?_
  refine ev_istore (pc' := 109) (L' := [.ref 85, .int x1, .int x2, .int (x3 + ((s0 * (σ 111 x1.toNatClampNeg)) / (100 : Int32))), .int (x4 + s0), .int x5, .int x6, .int x7, .int s0]) rfl rfl rfl rfl ?_
  refine ev_iload (pc' := 111) rfl rfl rfl ?_
  refine ev_aload_n (pc' := 112) rfl rfl rfl ?_
  refine ev_aload_n (pc' := 113) rfl rfl rfl ?_
  refine ev_getfield (pc' := 116) (w := .ref 97) rfl rfl rfl rfl ?_
  refine ev_iload (pc' := 118) rfl rfl rfl ?_
  obtain ⟨hg2, h⟩ := am_g_some h
  refine ev_iaload (pc' := 119) rfl rfl rfl hg2 ?_
  refine am_bd h (fun q3 hq3 h => ?_)
  refine ev_call (mi := 143) (as := [.ref 85, .int (σ 97 x6.toNatClampNeg)]) (rest := [.int x5]) rfl rfl (Nat.le_of_ble_eq_true rfl) (fm_sideOf_e (d := d + 1) hq3) ?_
  show am_Ev _ _ _ _ 122 _ _ _ _ _
  refine ev_iload_n (pc' := 123) rfl rfl rfl ?_
  rcases am_if h with ⟨hc4, h⟩ | ⟨hc4, h⟩
  · refine ev_ic_f (pc' := 126) rfl (by decide) rfl (cb_ne_f hc4) ?_
    refine ev_iconst (pc' := 127) (b := (0 : Int32)) rfl rfl rfl ?_
    refine ev_goto (pc' := 132) rfl rfl ?_
    exact fm_stamp_b132_e (hk38 := hk38) h
  · refine ev_ic_t (pc' := 130) rfl rfl (cb_ne_t hc4) ?_
    refine ev_iload (pc' := 132) rfl rfl rfl ?_
    exact fm_stamp_b132_e (hk38 := hk38) h
def fm_stamp_b38 (N : Nat) : Nat → Int32 → Int32 → Int32 → Int32 → Int32 → Int32 → am_S → Option (Int32 × am_S)
  | 0, _, _, _, _, _, _, _ => none
  | n + 1, x1, x2, x3, x4, x5, x6, σ => (if (σ 85 14) ≤ x6 then (if x2 = 0 then some (x3, σ) else (if x2 = (1 : Int32) then some (x4, σ) else some (x5, σ))) else (fm_carries N x6 σ).bind fun q4 => am_g (am_in x6 16) <| (fm_sideOf N (σ 97 x6.toNatClampNeg) σ).bind fun q6 => (if q6 = x1 then am_g (am_in x6 16) <| fm_stamp_b85 N (fun x1 x2 x3 x4 x5 x6 σ => fm_stamp_b38 N n x1 x2 x3 x4 x5 x6 σ) x1 x2 x3 x4 x5 x6 q4 ((σ 101 x6.toNatClampNeg) - q4) σ else fm_stamp_b85 N (fun x1 x2 x3 x4 x5 x6 σ => fm_stamp_b38 N n x1 x2 x3 x4 x5 x6 σ) x1 x2 x3 x4 x5 x6 q4 q4 σ))
set_option maxRecDepth 100000 in
theorem fm_stamp_b38_e {X : Nat} {xs : Nat → Int32} {d : Nat} {N : Nat} : ∀ {n : Nat} {x1 : Int32} {x2 : Int32} {x3 : Int32} {x4 : Int32} {x5 : Int32} {x6 : Int32} {w7 : Value} {w8 : Value} {σ : am_S} {o : Int32 × am_S}, fm_stamp_b38 N n x1 x2 x3 x4 x5 x6 σ = some o → am_Ev am_sh (am_exx X xs) (d + 3) mm_184 38 [.ref 85, .int x1, .int x2, .int x3, .int x4, .int x5, .int x6, w7, w8] [] σ (some (.int o.1)) o.2 := by
  intro n
  induction n with
  | zero => intro x1 x2 x3 x4 x5 x6 w7 w8 σ o h; cases h
  | succ n ih =>
    intro x1 x2 x3 x4 x5 x6 w7 w8 σ o h
    unfold fm_stamp_b38 at h
    refine ev_iload (pc' := 40) rfl rfl rfl ?_
    refine ev_aload_n (pc' := 41) rfl rfl rfl ?_
    refine ev_getfield (pc' := 44) (w := .int (σ 85 14)) rfl rfl rfl rfl ?_
    rcases am_if h with ⟨hc1, h⟩ | ⟨hc1, h⟩
    · refine ev_ic_t (pc' := 141) rfl rfl (cb_ge_t hc1) ?_
      refine ev_iload_n (pc' := 142) rfl rfl rfl ?_
      rcases am_if h with ⟨hc2, h⟩ | ⟨hc2, h⟩
      · refine ev_if_f (pc' := 145) rfl (by decide) rfl (cb_ne_f hc2) ?_
        refine ev_iload_n (pc' := 146) rfl rfl rfl ?_
        refine ev_goto (pc' := 161) rfl rfl ?_
        obtain rfl := Option.some.inj h
        exact ev_ireturn rfl rfl
      · refine ev_if_t (pc' := 149) rfl rfl (cb_ne_t hc2) ?_
        refine ev_iload_n (pc' := 150) rfl rfl rfl ?_
        refine ev_iconst (pc' := 151) (b := (1 : Int32)) rfl rfl rfl ?_
        rcases am_if h with ⟨hc3, h⟩ | ⟨hc3, h⟩
        · refine ev_ic_f (pc' := 154) rfl (by decide) rfl (cb_ne_f hc3) ?_
          refine ev_iload (pc' := 156) rfl rfl rfl ?_
          refine ev_goto (pc' := 161) rfl rfl ?_
          obtain rfl := Option.some.inj h
          exact ev_ireturn rfl rfl
        · refine ev_ic_t (pc' := 159) rfl rfl (cb_ne_t hc3) ?_
          refine ev_iload (pc' := 161) rfl rfl rfl ?_
          obtain rfl := Option.some.inj h
          exact ev_ireturn rfl rfl
    · refine ev_ic_f (pc' := 47) rfl (by decide) rfl (cb_ge_f hc1) ?_
      refine ev_aload_n (pc' := 48) rfl rfl rfl ?_
      refine ev_iload (pc' := 50) rfl rfl rfl ?_
      refine am_bd h (fun q4 hq4 h => ?_)
      refine ev_call (mi := 183) (as := [.ref 85, .int x6]) (rest := []) rfl rfl (Nat.le_of_ble_eq_true rfl) (fm_carries_e (d := d) hq4) ?_
      show am_Ev _ _ _ _ 53 _ _ _ _ _
      refine ev_istore (pc' := 55) (L' := [.ref 85, .int x1, .int x2, .int x3, .int x4, .int x5, .int x6, .int q4, w8]) rfl rfl rfl rfl ?_
      refine ev_aload_n (pc' := 56) rfl rfl rfl ?_
      refine ev_aload_n (pc' := 57) rfl rfl rfl ?_
      refine ev_getfield (pc' := 60) (w := .ref 97) rfl rfl rfl rfl ?_
      refine ev_iload (pc' := 62) rfl rfl rfl ?_
      obtain ⟨hg5, h⟩ := am_g_some h
      refine ev_iaload (pc' := 63) rfl rfl rfl hg5 ?_
      refine am_bd h (fun q6 hq6 h => ?_)
      refine ev_call (mi := 143) (as := [.ref 85, .int (σ 97 x6.toNatClampNeg)]) (rest := []) rfl rfl (Nat.le_of_ble_eq_true rfl) (fm_sideOf_e (d := d + 1) hq6) ?_
      show am_Ev _ _ _ _ 66 _ _ _ _ _
      refine ev_iload_n (pc' := 67) rfl rfl rfl ?_
      rcases am_if h with ⟨hc7, h⟩ | ⟨hc7, h⟩
      · refine ev_ic_f (pc' := 70) rfl (by decide) rfl (cb_ne_f hc7) ?_
        refine ev_aload_n (pc' := 71) rfl rfl rfl ?_
        refine ev_getfield (pc' := 74) (w := .ref 101) rfl rfl rfl rfl ?_
        refine ev_iload (pc' := 76) rfl rfl rfl ?_
        obtain ⟨hg8, h⟩ := am_g_some h
        refine ev_iaload (pc' := 77) rfl rfl rfl hg8 ?_
        refine ev_iload (pc' := 79) rfl rfl rfl ?_
        refine ev_isub (pc' := 80) rfl rfl ?_
        refine ev_goto (pc' := 85) rfl rfl ?_
        exact fm_stamp_b85_e (hk38 := fun h => ih h) h
      · refine ev_ic_t (pc' := 83) rfl rfl (cb_ne_t hc7) ?_
        refine ev_iload (pc' := 85) rfl rfl rfl ?_
        exact fm_stamp_b85_e (hk38 := fun h => ih h) h
def fm_stamp (N : Nat) (a1 : Int32) (a2 : Int32) (σ : am_S) : Option (Int32 × am_S) := (if (fm_isSide a1 σ) = 0 then fm_stamp_b16 N σ else (if (fm_isIn a2 (0 : Int32) (2 : Int32) σ) = 0 then fm_stamp_b16 N σ else (fm_tellWays N (0 : Int32) σ).bind fun q3 => fm_stamp_b38 N N a1 a2 (0 : Int32) (0 : Int32) (0 : Int32) (0 : Int32) q3))
set_option maxRecDepth 100000 in
theorem fm_stamp_e {X : Nat} {xs : Nat → Int32} {d : Nat} {N : Nat} {a1 : Int32} {a2 : Int32} {σ : am_S} {o : Int32 × am_S} (h : fm_stamp N a1 a2 σ = some o) : am_Ev am_sh (am_exx X xs) (d + 3) mm_184 0 [.ref 85, .int a1, .int a2, .null, .null, .null, .null, .null, .null] [] σ (some (.int o.1)) o.2 := by
  unfold fm_stamp at h
  refine ev_iload_n (pc' := 1) rfl rfl rfl ?_
  refine ev_call (mi := 213) (as := [.int a1]) (rest := []) rfl rfl (Nat.le_of_ble_eq_true rfl) (fm_isSide_e (d := d + 2) rfl) ?_
  show am_Ev _ _ _ _ 4 _ _ _ _ _
  rcases am_if h with ⟨hc1, h⟩ | ⟨hc1, h⟩
  · refine ev_if_t (pc' := 16) rfl rfl (cb_eq_t hc1) ?_
    exact fm_stamp_b16_e h
  · refine ev_if_f (pc' := 7) rfl (by decide) rfl (cb_eq_f hc1) ?_
    refine ev_iload_n (pc' := 8) rfl rfl rfl ?_
    refine ev_iconst (pc' := 9) (b := (0 : Int32)) rfl rfl rfl ?_
    refine ev_iconst (pc' := 10) (b := (2 : Int32)) rfl rfl rfl ?_
    refine ev_call (mi := 170) (as := [.int a2, .int (0 : Int32), .int (2 : Int32)]) (rest := []) rfl rfl (Nat.le_of_ble_eq_true rfl) (fm_isIn_e (d := d + 2) rfl) ?_
    show am_Ev _ _ _ _ 13 _ _ _ _ _
    rcases am_if h with ⟨hc2, h⟩ | ⟨hc2, h⟩
    · refine ev_if_f (pc' := 16) rfl (by decide) rfl (cb_ne_f hc2) ?_
      exact fm_stamp_b16_e h
    · refine ev_if_t (pc' := 22) rfl rfl (cb_ne_t hc2) ?_
      refine ev_aload_n (pc' := 23) rfl rfl rfl ?_
      refine ev_iconst (pc' := 24) (b := (0 : Int32)) rfl rfl rfl ?_
      refine am_bd h (fun q3 hq3 h => ?_)
      refine ev_call (mi := 147) (as := [.ref 85, .int (0 : Int32)]) (rest := []) rfl rfl (Nat.le_of_ble_eq_true rfl) (fm_tellWays_e (d := d + 2) hq3) ?_
      show am_Ev _ _ _ _ 27 _ _ _ _ _
      refine ev_iconst (pc' := 28) (b := (0 : Int32)) rfl rfl rfl ?_
      refine ev_istore_n (pc' := 29) (L' := [.ref 85, .int a1, .int a2, .int (0 : Int32), .null, .null, .null, .null, .null]) rfl rfl rfl rfl ?_
      refine ev_iconst (pc' := 30) (b := (0 : Int32)) rfl rfl rfl ?_
      refine ev_istore (pc' := 32) (L' := [.ref 85, .int a1, .int a2, .int (0 : Int32), .int (0 : Int32), .null, .null, .null, .null]) rfl rfl rfl rfl ?_
      refine ev_iconst (pc' := 33) (b := (0 : Int32)) rfl rfl rfl ?_
      refine ev_istore (pc' := 35) (L' := [.ref 85, .int a1, .int a2, .int (0 : Int32), .int (0 : Int32), .int (0 : Int32), .null, .null, .null]) rfl rfl rfl rfl ?_
      refine ev_iconst (pc' := 36) (b := (0 : Int32)) rfl rfl rfl ?_
      refine ev_istore (pc' := 38) (L' := [.ref 85, .int a1, .int a2, .int (0 : Int32), .int (0 : Int32), .int (0 : Int32), .int (0 : Int32), .null, .null]) rfl rfl rfl rfl ?_
      exact fm_stamp_b38_e h
/-! PartedLandModel.wagon (85, 'I', 'I'): S -/
def fm_wagon_b15 (σ : am_S) : Option (Int32 × am_S) := (fm_finding (1 : Int32) σ).bind fun q1 => some (q1.1, q1.2)
set_option maxRecDepth 100000 in
theorem fm_wagon_b15_e {X : Nat} {xs : Nat → Int32} {d : Nat} {w1 : Value} {w2 : Value} {σ : am_S} {o : Int32 × am_S} (h : fm_wagon_b15 σ = some o) : am_Ev am_sh (am_exx X xs) (d + 1) mm_186 15 [.ref 85, w1, w2] [] σ (some (.int o.1)) o.2 := by
  unfold fm_wagon_b15 at h
  refine ev_aload_n (pc' := 16) rfl rfl rfl ?_
  refine ev_iconst (pc' := 17) (b := (1 : Int32)) rfl rfl rfl ?_
  refine am_bd h (fun q1 hq1 h => ?_)
  refine ev_call (mi := 159) (as := [.ref 85, .int (1 : Int32)]) (rest := []) rfl rfl (Nat.le_of_ble_eq_true rfl) (fm_finding_e (d := d) hq1) ?_
  show am_Ev _ _ _ _ 20 _ _ _ _ _
  obtain rfl := Option.some.inj h
  exact ev_ireturn rfl rfl
def fm_wagon (a1 : Int32) (a2 : Int32) (σ : am_S) : Option (Int32 × am_S) := (if (fm_isSide a1 σ) = 0 then fm_wagon_b15 σ else (if (fm_isParish a2 σ) = 0 then fm_wagon_b15 σ else (if (σ 85 37) = (10 : Int32) then (fm_finding (4 : Int32) σ).bind fun q4 => some (q4.1, q4.2) else am_g (am_in (σ 85 37) 10) <| am_g (am_in ((12 : Int32) * (σ 85 37)) 120) <| am_g (am_in ((12 : Int32) * (σ 85 37)) 120) <| am_g (am_in (σ 85 37) 10) <| some ((((σ 85 37) + (1 : Int32)) - (1 : Int32)), (am_up (am_up (am_up (am_up (am_up σ 112 (σ 85 37).toNatClampNeg a1) 113 ((12 : Int32) * (σ 85 37)).toNatClampNeg a2) 114 ((12 : Int32) * (σ 85 37)).toNatClampNeg (0 : Int32)) 115 (σ 85 37).toNatClampNeg (1 : Int32)) 85 37 ((σ 85 37) + (1 : Int32)))))))
set_option maxRecDepth 100000 in
theorem fm_wagon_e {X : Nat} {xs : Nat → Int32} {d : Nat} {a1 : Int32} {a2 : Int32} {σ : am_S} {o : Int32 × am_S} (h : fm_wagon a1 a2 σ = some o) : am_Ev am_sh (am_exx X xs) (d + 1) mm_186 0 [.ref 85, .int a1, .int a2] [] σ (some (.int o.1)) o.2 := by
  unfold fm_wagon at h
  refine ev_iload_n (pc' := 1) rfl rfl rfl ?_
  refine ev_call (mi := 213) (as := [.int a1]) (rest := []) rfl rfl (Nat.le_of_ble_eq_true rfl) (fm_isSide_e (d := d) rfl) ?_
  show am_Ev _ _ _ _ 4 _ _ _ _ _
  rcases am_if h with ⟨hc1, h⟩ | ⟨hc1, h⟩
  · refine ev_if_t (pc' := 15) rfl rfl (cb_eq_t hc1) ?_
    exact fm_wagon_b15_e h
  · refine ev_if_f (pc' := 7) rfl (by decide) rfl (cb_eq_f hc1) ?_
    refine ev_aload_n (pc' := 8) rfl rfl rfl ?_
    refine ev_iload_n (pc' := 9) rfl rfl rfl ?_
    refine ev_call (mi := 181) (as := [.ref 85, .int a2]) (rest := []) rfl rfl (Nat.le_of_ble_eq_true rfl) (fm_isParish_e (d := d) rfl) ?_
    show am_Ev _ _ _ _ 12 _ _ _ _ _
    rcases am_if h with ⟨hc2, h⟩ | ⟨hc2, h⟩
    · refine ev_if_f (pc' := 15) rfl (by decide) rfl (cb_ne_f hc2) ?_
      exact fm_wagon_b15_e h
    · refine ev_if_t (pc' := 21) rfl rfl (cb_ne_t hc2) ?_
      refine ev_aload_n (pc' := 22) rfl rfl rfl ?_
      refine ev_getfield (pc' := 25) (w := .int (σ 85 37)) rfl rfl rfl rfl ?_
      refine ev_bipush (pc' := 27) (b := (10 : Int32)) rfl rfl rfl ?_
      rcases am_if h with ⟨hc3, h⟩ | ⟨hc3, h⟩
      · refine ev_ic_f (pc' := 30) rfl (by decide) rfl (cb_ne_f hc3) ?_
        refine ev_aload_n (pc' := 31) rfl rfl rfl ?_
        refine ev_iconst (pc' := 32) (b := (4 : Int32)) rfl rfl rfl ?_
        refine am_bd h (fun q4 hq4 h => ?_)
        refine ev_call (mi := 159) (as := [.ref 85, .int (4 : Int32)]) (rest := []) rfl rfl (Nat.le_of_ble_eq_true rfl) (fm_finding_e (d := d) hq4) ?_
        show am_Ev _ _ _ _ 35 _ _ _ _ _
        obtain rfl := Option.some.inj h
        exact ev_ireturn rfl rfl
      · refine ev_ic_t (pc' := 36) rfl rfl (cb_ne_t hc3) ?_
        refine ev_aload_n (pc' := 37) rfl rfl rfl ?_
        refine ev_getfield (pc' := 40) (w := .ref 112) rfl rfl rfl rfl ?_
        refine ev_aload_n (pc' := 41) rfl rfl rfl ?_
        refine ev_getfield (pc' := 44) (w := .int (σ 85 37)) rfl rfl rfl rfl ?_
        refine ev_iload_n (pc' := 45) rfl rfl rfl ?_
        obtain ⟨hg5, h⟩ := am_g_some h
        refine ev_iastore (pc' := 46) rfl rfl rfl hg5 ?_
        refine ev_aload_n (pc' := 47) rfl rfl rfl ?_
        refine ev_getfield (pc' := 50) (w := .ref 113) rfl rfl rfl rfl ?_
        refine ev_bipush (pc' := 52) (b := (12 : Int32)) rfl rfl rfl ?_
        refine ev_aload_n (pc' := 53) rfl rfl rfl ?_
        refine ev_getfield (pc' := 56) (w := .int (σ 85 37)) rfl rfl rfl rfl ?_
        refine ev_imul (pc' := 57) rfl rfl ?_
        refine ev_iload_n (pc' := 58) rfl rfl rfl ?_
        obtain ⟨hg6, h⟩ := am_g_some h
        refine ev_iastore (pc' := 59) rfl rfl rfl hg6 ?_
        refine ev_aload_n (pc' := 60) rfl rfl rfl ?_
        refine ev_getfield (pc' := 63) (w := .ref 114) rfl rfl rfl rfl ?_
        refine ev_bipush (pc' := 65) (b := (12 : Int32)) rfl rfl rfl ?_
        refine ev_aload_n (pc' := 66) rfl rfl rfl ?_
        refine ev_getfield (pc' := 69) (w := .int (σ 85 37)) rfl rfl rfl rfl ?_
        refine ev_imul (pc' := 70) rfl rfl ?_
        refine ev_iconst (pc' := 71) (b := (0 : Int32)) rfl rfl rfl ?_
        obtain ⟨hg7, h⟩ := am_g_some h
        refine ev_iastore (pc' := 72) rfl rfl rfl hg7 ?_
        refine ev_aload_n (pc' := 73) rfl rfl rfl ?_
        refine ev_getfield (pc' := 76) (w := .ref 115) rfl rfl rfl rfl ?_
        refine ev_aload_n (pc' := 77) rfl rfl rfl ?_
        refine ev_getfield (pc' := 80) (w := .int (σ 85 37)) rfl rfl rfl rfl ?_
        refine ev_iconst (pc' := 81) (b := (1 : Int32)) rfl rfl rfl ?_
        obtain ⟨hg8, h⟩ := am_g_some h
        refine ev_iastore (pc' := 82) rfl rfl rfl hg8 ?_
        refine ev_aload_n (pc' := 83) rfl rfl rfl ?_
        refine ev_dup (pc' := 84) rfl rfl ?_
        refine ev_getfield (pc' := 87) (w := .int (σ 85 37)) rfl rfl rfl rfl ?_
        refine ev_iconst (pc' := 88) (b := (1 : Int32)) rfl rfl rfl ?_
        refine ev_iadd (pc' := 89) rfl rfl ?_
        refine ev_putfield (pc' := 92) (ci := 11) (f := 37) (z := 0) rfl rfl rfl rfl rfl ?_
        refine ev_aload_n (pc' := 93) rfl rfl rfl ?_
        refine ev_getfield (pc' := 96) (w := .int ((σ 85 37) + (1 : Int32))) rfl rfl rfl rfl ?_
        refine ev_iconst (pc' := 97) (b := (1 : Int32)) rfl rfl rfl ?_
        refine ev_isub (pc' := 98) rfl rfl ?_
        obtain rfl := Option.some.inj h
        exact ev_ireturn rfl rfl
/-! PartedLandModel.isWagon (85, 'I'): T -/
def fm_isWagon (a1 : Int32) (σ : am_S) : Int32 := (if a1 < 0 then (0 : Int32) else (if (σ 85 37) ≤ a1 then (0 : Int32) else (1 : Int32)))
set_option maxRecDepth 100000 in
theorem fm_isWagon_e {X : Nat} {xs : Nat → Int32} {d : Nat} {a1 : Int32} {σ : am_S} {o : Int32} (h : fm_isWagon a1 σ = o) : am_Ev am_sh (am_exx X xs) (d + 0) mm_185 0 [.ref 85, .int a1] [] σ (some (.int o)) σ := by
  unfold fm_isWagon at h
  refine ev_iload_n (pc' := 1) rfl rfl rfl ?_
  rcases am_if h with ⟨hc1, h⟩ | ⟨hc1, h⟩
  · refine ev_if_t (pc' := 16) rfl rfl (cb_lt_t hc1) ?_
    refine ev_iconst (pc' := 17) (b := (0 : Int32)) rfl rfl rfl ?_
    subst h
    exact ev_zreturn rfl rfl rfl
  · refine ev_if_f (pc' := 4) rfl (by decide) rfl (cb_lt_f hc1) ?_
    refine ev_iload_n (pc' := 5) rfl rfl rfl ?_
    refine ev_aload_n (pc' := 6) rfl rfl rfl ?_
    refine ev_getfield (pc' := 9) (w := .int (σ 85 37)) rfl rfl rfl rfl ?_
    rcases am_if h with ⟨hc2, h⟩ | ⟨hc2, h⟩
    · refine ev_ic_t (pc' := 16) rfl rfl (cb_ge_t hc2) ?_
      refine ev_iconst (pc' := 17) (b := (0 : Int32)) rfl rfl rfl ?_
      subst h
      exact ev_zreturn rfl rfl rfl
    · refine ev_ic_f (pc' := 12) rfl (by decide) rfl (cb_ge_f hc2) ?_
      refine ev_iconst (pc' := 13) (b := (1 : Int32)) rfl rfl rfl ?_
      refine ev_goto (pc' := 17) rfl rfl ?_
      subst h
      exact ev_zreturn rfl rfl rfl
/-! PartedLandModel.placeOn (85, 'I', 'I'): P -/
def fm_placeOn_b56 (N : Nat) (k13 : Int32 → Int32 → Int32 → Int32 → am_S → Option Int32) (x1 : Int32) (x2 : Int32) (x4 : Int32) (s0 : Int32) (σ : am_S) : Option Int32 := k13 x1 x2 s0 (x4 + (1 : Int32)) σ
set_option maxRecDepth 100000 in
theorem fm_placeOn_b56_e {X : Nat} {xs : Nat → Int32} {d : Nat} {N : Nat} {k13 : Int32 → Int32 → Int32 → Int32 → am_S → Option Int32} (hk13 : ∀ {x1 : Int32} {x2 : Int32} {x3 : Int32} {x4 : Int32} {σ : am_S} {o : Int32}, k13 x1 x2 x3 x4 σ = some o → am_Ev am_sh (am_exx X xs) (d + 0) mm_187 13 [.ref 85, .int x1, .int x2, .int x3, .int x4] [] σ (some (.int o)) σ) {x1 : Int32} {x2 : Int32} {x4 : Int32} {s0 : Int32} {w3 : Value} {σ : am_S} {o : Int32} (h : fm_placeOn_b56 N k13 x1 x2 x4 s0 σ = some o) : am_Ev am_sh (am_exx X xs) (d + 0) mm_187 56 [.ref 85, .int x1, .int x2, w3, .int x4] [.int s0] σ (some (.int o)) σ := by
  unfold fm_placeOn_b56 at h
  refine ev_istore_n (pc' := 57) (L' := [.ref 85, .int x1, .int x2, .int s0, .int x4]) rfl rfl rfl rfl ?_
  refine ev_iinc (pc' := 60) (L' := [.ref 85, .int x1, .int x2, .int s0, .int (x4 + (1 : Int32))]) (b := (1 : Int32)) rfl rfl rfl rfl rfl ?_
  refine ev_goto (pc' := 13) rfl rfl ?_
  exact hk13 h
def fm_placeOn_b13 (N : Nat) : Nat → Int32 → Int32 → Int32 → Int32 → am_S → Option Int32
  | 0, _, _, _, _, _ => none
  | n + 1, x1, x2, x3, x4, σ => am_g (am_in x1 10) <| (if (σ 115 x1.toNatClampNeg) ≤ x4 then some x3 else am_g (am_in (((12 : Int32) * x1) + x4) 120) <| (if x2 < (σ 114 (((12 : Int32) * x1) + x4).toNatClampNeg) then fm_placeOn_b56 N (fun x1 x2 x3 x4 σ => fm_placeOn_b13 N n x1 x2 x3 x4 σ) x1 x2 x4 x3 σ else am_g (am_in (((12 : Int32) * x1) + x4) 120) <| fm_placeOn_b56 N (fun x1 x2 x3 x4 σ => fm_placeOn_b13 N n x1 x2 x3 x4 σ) x1 x2 x4 (σ 113 (((12 : Int32) * x1) + x4).toNatClampNeg) σ))
set_option maxRecDepth 100000 in
theorem fm_placeOn_b13_e {X : Nat} {xs : Nat → Int32} {d : Nat} {N : Nat} : ∀ {n : Nat} {x1 : Int32} {x2 : Int32} {x3 : Int32} {x4 : Int32} {σ : am_S} {o : Int32}, fm_placeOn_b13 N n x1 x2 x3 x4 σ = some o → am_Ev am_sh (am_exx X xs) (d + 0) mm_187 13 [.ref 85, .int x1, .int x2, .int x3, .int x4] [] σ (some (.int o)) σ := by
  intro n
  induction n with
  | zero => intro x1 x2 x3 x4 σ o h; cases h
  | succ n ih =>
    intro x1 x2 x3 x4 σ o h
    unfold fm_placeOn_b13 at h
    refine ev_iload (pc' := 15) rfl rfl rfl ?_
    refine ev_aload_n (pc' := 16) rfl rfl rfl ?_
    refine ev_getfield (pc' := 19) (w := .ref 115) rfl rfl rfl rfl ?_
    refine ev_iload_n (pc' := 20) rfl rfl rfl ?_
    obtain ⟨hg1, h⟩ := am_g_some h
    refine ev_iaload (pc' := 21) rfl rfl rfl hg1 ?_
    rcases am_if h with ⟨hc2, h⟩ | ⟨hc2, h⟩
    · refine ev_ic_t (pc' := 63) rfl rfl (cb_ge_t hc2) ?_
      refine ev_iload_n (pc' := 64) rfl rfl rfl ?_
      obtain rfl := Option.some.inj h
      exact ev_ireturn rfl rfl
    · refine ev_ic_f (pc' := 24) rfl (by decide) rfl (cb_ge_f hc2) ?_
      refine ev_aload_n (pc' := 25) rfl rfl rfl ?_
      refine ev_getfield (pc' := 28) (w := .ref 114) rfl rfl rfl rfl ?_
      refine ev_bipush (pc' := 30) (b := (12 : Int32)) rfl rfl rfl ?_
      refine ev_iload_n (pc' := 31) rfl rfl rfl ?_
      refine ev_imul (pc' := 32) rfl rfl ?_
      refine ev_iload (pc' := 34) rfl rfl rfl ?_
      refine ev_iadd (pc' := 35) rfl rfl ?_
      obtain ⟨hg3, h⟩ := am_g_some h
      refine ev_iaload (pc' := 36) rfl rfl rfl hg3 ?_
      refine ev_iload_n (pc' := 37) rfl rfl rfl ?_
      rcases am_if h with ⟨hc4, h⟩ | ⟨hc4, h⟩
      · refine ev_ic_t (pc' := 55) rfl rfl (cb_gt_t hc4) ?_
        refine ev_iload_n (pc' := 56) rfl rfl rfl ?_
        exact fm_placeOn_b56_e (hk13 := fun h => ih h) h
      · refine ev_ic_f (pc' := 40) rfl (by decide) rfl (cb_gt_f hc4) ?_
        refine ev_aload_n (pc' := 41) rfl rfl rfl ?_
        refine ev_getfield (pc' := 44) (w := .ref 113) rfl rfl rfl rfl ?_
        refine ev_bipush (pc' := 46) (b := (12 : Int32)) rfl rfl rfl ?_
        refine ev_iload_n (pc' := 47) rfl rfl rfl ?_
        refine ev_imul (pc' := 48) rfl rfl ?_
        refine ev_iload (pc' := 50) rfl rfl rfl ?_
        refine ev_iadd (pc' := 51) rfl rfl ?_
        obtain ⟨hg5, h⟩ := am_g_some h
        refine ev_iaload (pc' := 52) rfl rfl rfl hg5 ?_
        refine ev_goto (pc' := 56) rfl rfl ?_
        exact fm_placeOn_b56_e (hk13 := fun h => ih h) h
def fm_placeOn (N : Nat) (a1 : Int32) (a2 : Int32) (σ : am_S) : Option Int32 := am_g (am_in ((12 : Int32) * a1) 120) <| fm_placeOn_b13 N N a1 a2 (σ 113 ((12 : Int32) * a1).toNatClampNeg) (0 : Int32) σ
set_option maxRecDepth 100000 in
theorem fm_placeOn_e {X : Nat} {xs : Nat → Int32} {d : Nat} {N : Nat} {a1 : Int32} {a2 : Int32} {σ : am_S} {o : Int32} (h : fm_placeOn N a1 a2 σ = some o) : am_Ev am_sh (am_exx X xs) (d + 0) mm_187 0 [.ref 85, .int a1, .int a2, .null, .null] [] σ (some (.int o)) σ := by
  unfold fm_placeOn at h
  refine ev_aload_n (pc' := 1) rfl rfl rfl ?_
  refine ev_getfield (pc' := 4) (w := .ref 113) rfl rfl rfl rfl ?_
  refine ev_bipush (pc' := 6) (b := (12 : Int32)) rfl rfl rfl ?_
  refine ev_iload_n (pc' := 7) rfl rfl rfl ?_
  refine ev_imul (pc' := 8) rfl rfl ?_
  obtain ⟨hg1, h⟩ := am_g_some h
  refine ev_iaload (pc' := 9) rfl rfl rfl hg1 ?_
  refine ev_istore_n (pc' := 10) (L' := [.ref 85, .int a1, .int a2, .int (σ 113 ((12 : Int32) * a1).toNatClampNeg), .null]) rfl rfl rfl rfl ?_
  refine ev_iconst (pc' := 11) (b := (0 : Int32)) rfl rfl rfl ?_
  refine ev_istore (pc' := 13) (L' := [.ref 85, .int a1, .int a2, .int (σ 113 ((12 : Int32) * a1).toNatClampNeg), .int (0 : Int32)]) rfl rfl rfl rfl ?_
  exact fm_placeOn_b13_e h
/-! PartedLandModel.railBetween (85, 'I', 'I'): P -/
def fm_railBetween_b103 (N : Nat) (k6 : Int32 → Int32 → Int32 → Int32 → am_S → Option Int32) (x1 : Int32) (x2 : Int32) (x4 : Int32) (s0 : Int32) (σ : am_S) : Option Int32 := k6 x1 x2 s0 (x4 + (1 : Int32)) σ
set_option maxRecDepth 100000 in
theorem fm_railBetween_b103_e {X : Nat} {xs : Nat → Int32} {d : Nat} {N : Nat} {k6 : Int32 → Int32 → Int32 → Int32 → am_S → Option Int32} (hk6 : ∀ {x1 : Int32} {x2 : Int32} {x3 : Int32} {x4 : Int32} {w5 : Value} {σ : am_S} {o : Int32}, k6 x1 x2 x3 x4 σ = some o → am_Ev am_sh (am_exx X xs) (d + 0) mm_189 6 [.ref 85, .int x1, .int x2, .int x3, .int x4, w5] [] σ (some (.int o)) σ) {x1 : Int32} {x2 : Int32} {x4 : Int32} {s0 : Int32} {w3 : Value} {w5 : Value} {σ : am_S} {o : Int32} (h : fm_railBetween_b103 N k6 x1 x2 x4 s0 σ = some o) : am_Ev am_sh (am_exx X xs) (d + 0) mm_189 103 [.ref 85, .int x1, .int x2, w3, .int x4, w5] [.int s0] σ (some (.int o)) σ := by
  unfold fm_railBetween_b103 at h
  refine ev_istore_n (pc' := 104) (L' := [.ref 85, .int x1, .int x2, .int s0, .int x4, w5]) rfl rfl rfl rfl ?_
  refine ev_iinc (pc' := 107) (L' := [.ref 85, .int x1, .int x2, .int s0, .int (x4 + (1 : Int32)), w5]) (b := (1 : Int32)) rfl rfl rfl rfl rfl ?_
  refine ev_goto (pc' := 6) rfl rfl ?_
  exact hk6 h
def fm_railBetween_b102 (N : Nat) (k6 : Int32 → Int32 → Int32 → Int32 → am_S → Option Int32) (x1 : Int32) (x2 : Int32) (x3 : Int32) (x4 : Int32) (σ : am_S) : Option Int32 := fm_railBetween_b103 N k6 x1 x2 x4 x3 σ
set_option maxRecDepth 100000 in
theorem fm_railBetween_b102_e {X : Nat} {xs : Nat → Int32} {d : Nat} {N : Nat} {k6 : Int32 → Int32 → Int32 → Int32 → am_S → Option Int32} (hk6 : ∀ {x1 : Int32} {x2 : Int32} {x3 : Int32} {x4 : Int32} {w5 : Value} {σ : am_S} {o : Int32}, k6 x1 x2 x3 x4 σ = some o → am_Ev am_sh (am_exx X xs) (d + 0) mm_189 6 [.ref 85, .int x1, .int x2, .int x3, .int x4, w5] [] σ (some (.int o)) σ) {x1 : Int32} {x2 : Int32} {x3 : Int32} {x4 : Int32} {w5 : Value} {σ : am_S} {o : Int32} (h : fm_railBetween_b102 N k6 x1 x2 x3 x4 σ = some o) : am_Ev am_sh (am_exx X xs) (d + 0) mm_189 102 [.ref 85, .int x1, .int x2, .int x3, .int x4, w5] [] σ (some (.int o)) σ := by
  unfold fm_railBetween_b102 at h
  refine ev_iload_n (pc' := 103) rfl rfl rfl ?_
  exact fm_railBetween_b103_e (hk6 := hk6) h
def fm_railBetween_b64 (N : Nat) (k6 : Int32 → Int32 → Int32 → Int32 → am_S → Option Int32) (x1 : Int32) (x2 : Int32) (x3 : Int32) (x4 : Int32) (s0 : Int32) (σ : am_S) : Option Int32 := (if s0 = 0 then fm_railBetween_b102 N k6 x1 x2 x3 x4 σ else am_g (am_in x4 30) <| (if (σ 92 x4.toNatClampNeg) = 0 then fm_railBetween_b102 N k6 x1 x2 x3 x4 σ else am_g (am_in x4 30) <| (if x3 ≤ (σ 91 x4.toNatClampNeg) then fm_railBetween_b102 N k6 x1 x2 x3 x4 σ else am_g (am_in x4 30) <| fm_railBetween_b103 N k6 x1 x2 x4 (σ 91 x4.toNatClampNeg) σ)))
set_option maxRecDepth 100000 in
theorem fm_railBetween_b64_e {X : Nat} {xs : Nat → Int32} {d : Nat} {N : Nat} {k6 : Int32 → Int32 → Int32 → Int32 → am_S → Option Int32} (hk6 : ∀ {x1 : Int32} {x2 : Int32} {x3 : Int32} {x4 : Int32} {w5 : Value} {σ : am_S} {o : Int32}, k6 x1 x2 x3 x4 σ = some o → am_Ev am_sh (am_exx X xs) (d + 0) mm_189 6 [.ref 85, .int x1, .int x2, .int x3, .int x4, w5] [] σ (some (.int o)) σ) {x1 : Int32} {x2 : Int32} {x3 : Int32} {x4 : Int32} {s0 : Int32} {w5 : Value} {σ : am_S} {o : Int32} (h : fm_railBetween_b64 N k6 x1 x2 x3 x4 s0 σ = some o) : am_Ev am_sh (am_exx X xs) (d + 0) mm_189 64 [.ref 85, .int x1, .int x2, .int x3, .int x4, w5] [.int s0] σ (some (.int o)) σ := by
  unfold fm_railBetween_b64 at h
  refine ev_istore (pc' := 66) (L' := [.ref 85, .int x1, .int x2, .int x3, .int x4, .int s0]) rfl rfl rfl rfl ?_
  refine ev_iload (pc' := 68) rfl rfl rfl ?_
  rcases am_if h with ⟨hc1, h⟩ | ⟨hc1, h⟩
  · refine ev_if_t (pc' := 102) rfl rfl (cb_eq_t hc1) ?_
    exact fm_railBetween_b102_e (hk6 := hk6) h
  · refine ev_if_f (pc' := 71) rfl (by decide) rfl (cb_eq_f hc1) ?_
    refine ev_aload_n (pc' := 72) rfl rfl rfl ?_
    refine ev_getfield (pc' := 75) (w := .ref 92) rfl rfl rfl rfl ?_
    refine ev_iload (pc' := 77) rfl rfl rfl ?_
    obtain ⟨hg2, h⟩ := am_g_some h
    refine ev_baload (pc' := 78) rfl rfl rfl hg2 ?_
    rcases am_if h with ⟨hc3, h⟩ | ⟨hc3, h⟩
    · refine ev_if_t (pc' := 102) rfl rfl (cb_eq_t hc3) ?_
      exact fm_railBetween_b102_e (hk6 := hk6) h
    · refine ev_if_f (pc' := 81) rfl (by decide) rfl (cb_eq_f hc3) ?_
      refine ev_aload_n (pc' := 82) rfl rfl rfl ?_
      refine ev_getfield (pc' := 85) (w := .ref 91) rfl rfl rfl rfl ?_
      refine ev_iload (pc' := 87) rfl rfl rfl ?_
      obtain ⟨hg4, h⟩ := am_g_some h
      refine ev_iaload (pc' := 88) rfl rfl rfl hg4 ?_
      refine ev_iload_n (pc' := 89) rfl rfl rfl ?_
      rcases am_if h with ⟨hc5, h⟩ | ⟨hc5, h⟩
      · refine ev_ic_t (pc' := 102) rfl rfl (cb_ge_t hc5) ?_
        exact fm_railBetween_b102_e (hk6 := hk6) h
      · refine ev_ic_f (pc' := 92) rfl (by decide) rfl (cb_ge_f hc5) ?_
        refine ev_aload_n (pc' := 93) rfl rfl rfl ?_
        refine ev_getfield (pc' := 96) (w := .ref 91) rfl rfl rfl rfl ?_
        refine ev_iload (pc' := 98) rfl rfl rfl ?_
        obtain ⟨hg6, h⟩ := am_g_some h
        refine ev_iaload (pc' := 99) rfl rfl rfl hg6 ?_
        refine ev_goto (pc' := 103) rfl rfl ?_
        exact fm_railBetween_b103_e (hk6 := hk6) h
def fm_railBetween_b59 (N : Nat) (k6 : Int32 → Int32 → Int32 → Int32 → am_S → Option Int32) (x1 : Int32) (x2 : Int32) (x3 : Int32) (x4 : Int32) (σ : am_S) : Option Int32 := fm_railBetween_b64 N k6 x1 x2 x3 x4 (1 : Int32) σ
set_option maxRecDepth 100000 in
theorem fm_railBetween_b59_e {X : Nat} {xs : Nat → Int32} {d : Nat} {N : Nat} {k6 : Int32 → Int32 → Int32 → Int32 → am_S → Option Int32} (hk6 : ∀ {x1 : Int32} {x2 : Int32} {x3 : Int32} {x4 : Int32} {w5 : Value} {σ : am_S} {o : Int32}, k6 x1 x2 x3 x4 σ = some o → am_Ev am_sh (am_exx X xs) (d + 0) mm_189 6 [.ref 85, .int x1, .int x2, .int x3, .int x4, w5] [] σ (some (.int o)) σ) {x1 : Int32} {x2 : Int32} {x3 : Int32} {x4 : Int32} {w5 : Value} {σ : am_S} {o : Int32} (h : fm_railBetween_b59 N k6 x1 x2 x3 x4 σ = some o) : am_Ev am_sh (am_exx X xs) (d + 0) mm_189 59 [.ref 85, .int x1, .int x2, .int x3, .int x4, w5] [] σ (some (.int o)) σ := by
  unfold fm_railBetween_b59 at h
  refine ev_iconst (pc' := 60) (b := (1 : Int32)) rfl rfl rfl ?_
  refine ev_goto (pc' := 64) rfl rfl ?_
  exact fm_railBetween_b64_e (hk6 := hk6) h
def fm_railBetween_b63 (N : Nat) (k6 : Int32 → Int32 → Int32 → Int32 → am_S → Option Int32) (x1 : Int32) (x2 : Int32) (x3 : Int32) (x4 : Int32) (σ : am_S) : Option Int32 := fm_railBetween_b64 N k6 x1 x2 x3 x4 (0 : Int32) σ
set_option maxRecDepth 100000 in
theorem fm_railBetween_b63_e {X : Nat} {xs : Nat → Int32} {d : Nat} {N : Nat} {k6 : Int32 → Int32 → Int32 → Int32 → am_S → Option Int32} (hk6 : ∀ {x1 : Int32} {x2 : Int32} {x3 : Int32} {x4 : Int32} {w5 : Value} {σ : am_S} {o : Int32}, k6 x1 x2 x3 x4 σ = some o → am_Ev am_sh (am_exx X xs) (d + 0) mm_189 6 [.ref 85, .int x1, .int x2, .int x3, .int x4, w5] [] σ (some (.int o)) σ) {x1 : Int32} {x2 : Int32} {x3 : Int32} {x4 : Int32} {w5 : Value} {σ : am_S} {o : Int32} (h : fm_railBetween_b63 N k6 x1 x2 x3 x4 σ = some o) : am_Ev am_sh (am_exx X xs) (d + 0) mm_189 63 [.ref 85, .int x1, .int x2, .int x3, .int x4, w5] [] σ (some (.int o)) σ := by
  unfold fm_railBetween_b63 at h
  refine ev_iconst (pc' := 64) (b := (0 : Int32)) rfl rfl rfl ?_
  exact fm_railBetween_b64_e (hk6 := hk6) h
def fm_railBetween_b37 (N : Nat) (k6 : Int32 → Int32 → Int32 → Int32 → am_S → Option Int32) (x1 : Int32) (x2 : Int32) (x3 : Int32) (x4 : Int32) (σ : am_S) : Option Int32 := am_g (am_in x4 30) <| (if (σ 89 x4.toNatClampNeg) = x2 then am_g (am_in x4 30) <| (if (σ 90 x4.toNatClampNeg) = x1 then fm_railBetween_b59 N k6 x1 x2 x3 x4 σ else fm_railBetween_b63 N k6 x1 x2 x3 x4 σ) else fm_railBetween_b63 N k6 x1 x2 x3 x4 σ)
set_option maxRecDepth 100000 in
theorem fm_railBetween_b37_e {X : Nat} {xs : Nat → Int32} {d : Nat} {N : Nat} {k6 : Int32 → Int32 → Int32 → Int32 → am_S → Option Int32} (hk6 : ∀ {x1 : Int32} {x2 : Int32} {x3 : Int32} {x4 : Int32} {w5 : Value} {σ : am_S} {o : Int32}, k6 x1 x2 x3 x4 σ = some o → am_Ev am_sh (am_exx X xs) (d + 0) mm_189 6 [.ref 85, .int x1, .int x2, .int x3, .int x4, w5] [] σ (some (.int o)) σ) {x1 : Int32} {x2 : Int32} {x3 : Int32} {x4 : Int32} {w5 : Value} {σ : am_S} {o : Int32} (h : fm_railBetween_b37 N k6 x1 x2 x3 x4 σ = some o) : am_Ev am_sh (am_exx X xs) (d + 0) mm_189 37 [.ref 85, .int x1, .int x2, .int x3, .int x4, w5] [] σ (some (.int o)) σ := by
  unfold fm_railBetween_b37 at h
  refine ev_aload_n (pc' := 38) rfl rfl rfl ?_
  refine ev_getfield (pc' := 41) (w := .ref 89) rfl rfl rfl rfl ?_
  refine ev_iload (pc' := 43) rfl rfl rfl ?_
  obtain ⟨hg1, h⟩ := am_g_some h
  refine ev_iaload (pc' := 44) rfl rfl rfl hg1 ?_
  refine ev_iload_n (pc' := 45) rfl rfl rfl ?_
  rcases am_if h with ⟨hc2, h⟩ | ⟨hc2, h⟩
  · refine ev_ic_f (pc' := 48) rfl (by decide) rfl (cb_ne_f hc2) ?_
    refine ev_aload_n (pc' := 49) rfl rfl rfl ?_
    refine ev_getfield (pc' := 52) (w := .ref 90) rfl rfl rfl rfl ?_
    refine ev_iload (pc' := 54) rfl rfl rfl ?_
    obtain ⟨hg3, h⟩ := am_g_some h
    refine ev_iaload (pc' := 55) rfl rfl rfl hg3 ?_
    refine ev_iload_n (pc' := 56) rfl rfl rfl ?_
    rcases am_if h with ⟨hc4, h⟩ | ⟨hc4, h⟩
    · refine ev_ic_f (pc' := 59) rfl (by decide) rfl (cb_ne_f hc4) ?_
      exact fm_railBetween_b59_e (hk6 := hk6) h
    · refine ev_ic_t (pc' := 63) rfl rfl (cb_ne_t hc4) ?_
      exact fm_railBetween_b63_e (hk6 := hk6) h
  · refine ev_ic_t (pc' := 63) rfl rfl (cb_ne_t hc2) ?_
    exact fm_railBetween_b63_e (hk6 := hk6) h
def fm_railBetween_b6 (N : Nat) : Nat → Int32 → Int32 → Int32 → Int32 → am_S → Option Int32
  | 0, _, _, _, _, _ => none
  | n + 1, x1, x2, x3, x4, σ => (if (σ 85 5) ≤ x4 then some x3 else am_g (am_in x4 30) <| (if (σ 89 x4.toNatClampNeg) = x1 then am_g (am_in x4 30) <| (if (σ 90 x4.toNatClampNeg) = x2 then fm_railBetween_b59 N (fun x1 x2 x3 x4 σ => fm_railBetween_b6 N n x1 x2 x3 x4 σ) x1 x2 x3 x4 σ else fm_railBetween_b37 N (fun x1 x2 x3 x4 σ => fm_railBetween_b6 N n x1 x2 x3 x4 σ) x1 x2 x3 x4 σ) else fm_railBetween_b37 N (fun x1 x2 x3 x4 σ => fm_railBetween_b6 N n x1 x2 x3 x4 σ) x1 x2 x3 x4 σ))
set_option maxRecDepth 100000 in
theorem fm_railBetween_b6_e {X : Nat} {xs : Nat → Int32} {d : Nat} {N : Nat} : ∀ {n : Nat} {x1 : Int32} {x2 : Int32} {x3 : Int32} {x4 : Int32} {w5 : Value} {σ : am_S} {o : Int32}, fm_railBetween_b6 N n x1 x2 x3 x4 σ = some o → am_Ev am_sh (am_exx X xs) (d + 0) mm_189 6 [.ref 85, .int x1, .int x2, .int x3, .int x4, w5] [] σ (some (.int o)) σ := by
  intro n
  induction n with
  | zero => intro x1 x2 x3 x4 w5 σ o h; cases h
  | succ n ih =>
    intro x1 x2 x3 x4 w5 σ o h
    unfold fm_railBetween_b6 at h
    refine ev_iload (pc' := 8) rfl rfl rfl ?_
    refine ev_aload_n (pc' := 9) rfl rfl rfl ?_
    refine ev_getfield (pc' := 12) (w := .int (σ 85 5)) rfl rfl rfl rfl ?_
    rcases am_if h with ⟨hc1, h⟩ | ⟨hc1, h⟩
    · refine ev_ic_t (pc' := 110) rfl rfl (cb_ge_t hc1) ?_
      refine ev_iload_n (pc' := 111) rfl rfl rfl ?_
      obtain rfl := Option.some.inj h
      exact ev_ireturn rfl rfl
    · refine ev_ic_f (pc' := 15) rfl (by decide) rfl (cb_ge_f hc1) ?_
      refine ev_aload_n (pc' := 16) rfl rfl rfl ?_
      refine ev_getfield (pc' := 19) (w := .ref 89) rfl rfl rfl rfl ?_
      refine ev_iload (pc' := 21) rfl rfl rfl ?_
      obtain ⟨hg2, h⟩ := am_g_some h
      refine ev_iaload (pc' := 22) rfl rfl rfl hg2 ?_
      refine ev_iload_n (pc' := 23) rfl rfl rfl ?_
      rcases am_if h with ⟨hc3, h⟩ | ⟨hc3, h⟩
      · refine ev_ic_f (pc' := 26) rfl (by decide) rfl (cb_ne_f hc3) ?_
        refine ev_aload_n (pc' := 27) rfl rfl rfl ?_
        refine ev_getfield (pc' := 30) (w := .ref 90) rfl rfl rfl rfl ?_
        refine ev_iload (pc' := 32) rfl rfl rfl ?_
        obtain ⟨hg4, h⟩ := am_g_some h
        refine ev_iaload (pc' := 33) rfl rfl rfl hg4 ?_
        refine ev_iload_n (pc' := 34) rfl rfl rfl ?_
        rcases am_if h with ⟨hc5, h⟩ | ⟨hc5, h⟩
        · refine ev_ic_t (pc' := 59) rfl rfl (cb_eq_t hc5) ?_
          exact fm_railBetween_b59_e (hk6 := fun h => ih h) h
        · refine ev_ic_f (pc' := 37) rfl (by decide) rfl (cb_eq_f hc5) ?_
          exact fm_railBetween_b37_e (hk6 := fun h => ih h) h
      · refine ev_ic_t (pc' := 37) rfl rfl (cb_ne_t hc3) ?_
        exact fm_railBetween_b37_e (hk6 := fun h => ih h) h
def fm_railBetween (N : Nat) (a1 : Int32) (a2 : Int32) (σ : am_S) : Option Int32 := fm_railBetween_b6 N N a1 a2 (100000 : Int32) (0 : Int32) σ
set_option maxRecDepth 100000 in
theorem fm_railBetween_e {X : Nat} {xs : Nat → Int32} {d : Nat} {N : Nat} {a1 : Int32} {a2 : Int32} {σ : am_S} {o : Int32} (h : fm_railBetween N a1 a2 σ = some o) : am_Ev am_sh (am_exx X xs) (d + 0) mm_189 0 [.ref 85, .int a1, .int a2, .null, .null, .null] [] σ (some (.int o)) σ := by
  unfold fm_railBetween at h
  refine ev_ldc (pc' := 2) (b := (100000 : Int32)) rfl rfl rfl ?_
  refine ev_istore_n (pc' := 3) (L' := [.ref 85, .int a1, .int a2, .int (100000 : Int32), .null, .null]) rfl rfl rfl rfl ?_
  refine ev_iconst (pc' := 4) (b := (0 : Int32)) rfl rfl rfl ?_
  refine ev_istore (pc' := 6) (L' := [.ref 85, .int a1, .int a2, .int (100000 : Int32), .int (0 : Int32), .null]) rfl rfl rfl rfl ?_
  exact fm_railBetween_b6_e h
/-! PartedLandModel.send (85, 'I', 'I'): S -/
def fm_send_b16 (N : Nat) (σ : am_S) : Option (Int32 × am_S) := (fm_finding (1 : Int32) σ).bind fun q1 => some (q1.1, q1.2)
set_option maxRecDepth 100000 in
theorem fm_send_b16_e {X : Nat} {xs : Nat → Int32} {d : Nat} {N : Nat} {w1 : Value} {w2 : Value} {w3 : Value} {w4 : Value} {w5 : Value} {w6 : Value} {w7 : Value} {w8 : Value} {σ : am_S} {o : Int32 × am_S} (h : fm_send_b16 N σ = some o) : am_Ev am_sh (am_exx X xs) (d + 1) mm_188 16 [.ref 85, w1, w2, w3, w4, w5, w6, w7, w8] [] σ (some (.int o.1)) o.2 := by
  unfold fm_send_b16 at h
  refine ev_aload_n (pc' := 17) rfl rfl rfl ?_
  refine ev_iconst (pc' := 18) (b := (1 : Int32)) rfl rfl rfl ?_
  refine am_bd h (fun q1 hq1 h => ?_)
  refine ev_call (mi := 159) (as := [.ref 85, .int (1 : Int32)]) (rest := []) rfl rfl (Nat.le_of_ble_eq_true rfl) (fm_finding_e (d := d) hq1) ?_
  show am_Ev _ _ _ _ 21 _ _ _ _ _
  obtain rfl := Option.some.inj h
  exact ev_ireturn rfl rfl
def fm_send_b166 (N : Nat) (k93 : Int32 → Int32 → Int32 → Int32 → am_S → Option (Int32 × am_S)) (k108 : Int32 → Int32 → Int32 → Int32 → Int32 → Int32 → Int32 → am_S → Option (Int32 × am_S)) (x1 : Int32) (x2 : Int32) (x3 : Int32) (x4 : Int32) (x5 : Int32) (x6 : Int32) (x7 : Int32) (σ : am_S) : Option (Int32 × am_S) := k108 x1 x2 x3 x4 x5 x6 (x7 + (-1 : Int32)) σ
set_option maxRecDepth 100000 in
theorem fm_send_b166_e {X : Nat} {xs : Nat → Int32} {d : Nat} {N : Nat} {k93 : Int32 → Int32 → Int32 → Int32 → am_S → Option (Int32 × am_S)} (hk93 : ∀ {x1 : Int32} {x2 : Int32} {x3 : Int32} {x4 : Int32} {w5 : Value} {w6 : Value} {w7 : Value} {w8 : Value} {σ : am_S} {o : Int32 × am_S}, k93 x1 x2 x3 x4 σ = some o → am_Ev am_sh (am_exx X xs) (d + 1) mm_188 93 [.ref 85, .int x1, .int x2, .int x3, .int x4, w5, w6, w7, w8] [] σ (some (.int o.1)) o.2) {k108 : Int32 → Int32 → Int32 → Int32 → Int32 → Int32 → Int32 → am_S → Option (Int32 × am_S)} (hk108 : ∀ {x1 : Int32} {x2 : Int32} {x3 : Int32} {x4 : Int32} {x5 : Int32} {x6 : Int32} {x7 : Int32} {w8 : Value} {σ : am_S} {o : Int32 × am_S}, k108 x1 x2 x3 x4 x5 x6 x7 σ = some o → am_Ev am_sh (am_exx X xs) (d + 1) mm_188 108 [.ref 85, .int x1, .int x2, .int x3, .int x4, .int x5, .int x6, .int x7, w8] [] σ (some (.int o.1)) o.2) {x1 : Int32} {x2 : Int32} {x3 : Int32} {x4 : Int32} {x5 : Int32} {x6 : Int32} {x7 : Int32} {w8 : Value} {σ : am_S} {o : Int32 × am_S} (h : fm_send_b166 N k93 k108 x1 x2 x3 x4 x5 x6 x7 σ = some o) : am_Ev am_sh (am_exx X xs) (d + 1) mm_188 166 [.ref 85, .int x1, .int x2, .int x3, .int x4, .int x5, .int x6, .int x7, w8] [] σ (some (.int o.1)) o.2 := by
  unfold fm_send_b166 at h
  refine ev_iinc (pc' := 169) (L' := [.ref 85, .int x1, .int x2, .int x3, .int x4, .int x5, .int x6, .int (x7 + (-1 : Int32)), w8]) (b := (-1 : Int32)) rfl rfl rfl rfl rfl ?_
  refine ev_goto (pc' := 108) rfl rfl ?_
  exact hk108 h
def fm_send_b108 (N : Nat) (k93 : Int32 → Int32 → Int32 → Int32 → am_S → Option (Int32 × am_S)) : Nat → Int32 → Int32 → Int32 → Int32 → Int32 → Int32 → Int32 → am_S → Option (Int32 × am_S)
  | 0, _, _, _, _, _, _, _, _ => none
  | n + 1, x1, x2, x3, x4, x5, x6, x7, σ => (if x7 < 0 then am_g (am_in x1 10) <| am_g (am_in (((12 : Int32) * x1) + (σ 115 x1.toNatClampNeg)) 120) <| am_g (am_in x1 10) <| am_g (am_in (((12 : Int32) * x1) + (σ 115 x1.toNatClampNeg)) 120) <| am_g (am_in x1 10) <| am_g (am_in x1 10) <| k93 x1 x2 x5 (x4 + x6) (am_up (am_up (am_up σ 113 (((12 : Int32) * x1) + (σ 115 x1.toNatClampNeg)).toNatClampNeg x5) 114 (((12 : Int32) * x1) + (σ 115 x1.toNatClampNeg)).toNatClampNeg (x4 + x6)) 115 x1.toNatClampNeg ((σ 115 x1.toNatClampNeg) + (1 : Int32))) else (fm_railBetween N x3 x7 σ).bind fun q8 => (if (100000 : Int32) ≤ q8 then fm_send_b166 N k93 (fun x1 x2 x3 x4 x5 x6 x7 σ => fm_send_b108 N k93 n x1 x2 x3 x4 x5 x6 x7 σ) x1 x2 x3 x4 x5 x6 x7 σ else am_g (am_in (((12 : Int32) * x7) + x2) 144) <| am_g (am_in (((12 : Int32) * x3) + x2) 144) <| (if (q8 + (σ 124 (((12 : Int32) * x7) + x2).toNatClampNeg)) = (σ 124 (((12 : Int32) * x3) + x2).toNatClampNeg) then fm_send_b166 N k93 (fun x1 x2 x3 x4 x5 x6 x7 σ => fm_send_b108 N k93 n x1 x2 x3 x4 x5 x6 x7 σ) x1 x2 x3 x4 x7 q8 x7 σ else fm_send_b166 N k93 (fun x1 x2 x3 x4 x5 x6 x7 σ => fm_send_b108 N k93 n x1 x2 x3 x4 x5 x6 x7 σ) x1 x2 x3 x4 x5 x6 x7 σ)))
set_option maxRecDepth 100000 in
theorem fm_send_b108_e {X : Nat} {xs : Nat → Int32} {d : Nat} {N : Nat} {k93 : Int32 → Int32 → Int32 → Int32 → am_S → Option (Int32 × am_S)} (hk93 : ∀ {x1 : Int32} {x2 : Int32} {x3 : Int32} {x4 : Int32} {w5 : Value} {w6 : Value} {w7 : Value} {w8 : Value} {σ : am_S} {o : Int32 × am_S}, k93 x1 x2 x3 x4 σ = some o → am_Ev am_sh (am_exx X xs) (d + 1) mm_188 93 [.ref 85, .int x1, .int x2, .int x3, .int x4, w5, w6, w7, w8] [] σ (some (.int o.1)) o.2) : ∀ {n : Nat} {x1 : Int32} {x2 : Int32} {x3 : Int32} {x4 : Int32} {x5 : Int32} {x6 : Int32} {x7 : Int32} {w8 : Value} {σ : am_S} {o : Int32 × am_S}, fm_send_b108 N k93 n x1 x2 x3 x4 x5 x6 x7 σ = some o → am_Ev am_sh (am_exx X xs) (d + 1) mm_188 108 [.ref 85, .int x1, .int x2, .int x3, .int x4, .int x5, .int x6, .int x7, w8] [] σ (some (.int o.1)) o.2 := by
  intro n
  induction n with
  | zero => intro x1 x2 x3 x4 x5 x6 x7 w8 σ o h; cases h
  | succ n ih =>
    intro x1 x2 x3 x4 x5 x6 x7 w8 σ o h
    unfold fm_send_b108 at h
    refine ev_iload (pc' := 110) rfl rfl rfl ?_
    rcases am_if h with ⟨hc1, h⟩ | ⟨hc1, h⟩
    · refine ev_if_t (pc' := 172) rfl rfl (cb_lt_t hc1) ?_
      refine ev_iload (pc' := 174) rfl rfl rfl ?_
      refine ev_iload (pc' := 176) rfl rfl rfl ?_
      refine ev_iadd (pc' := 177) rfl rfl ?_
      refine ev_istore (pc' := 179) (L' := [.ref 85, .int x1, .int x2, .int x3, .int (x4 + x6), .int x5, .int x6, .int x7, w8]) rfl rfl rfl rfl ?_
      refine ev_iload (pc' := 181) rfl rfl rfl ?_
      refine ev_istore_n (pc' := 182) (L' := [.ref 85, .int x1, .int x2, .int x5, .int (x4 + x6), .int x5, .int x6, .int x7, w8]) rfl rfl rfl rfl ?_
      refine ev_aload_n (pc' := 183) rfl rfl rfl ?_
      refine ev_getfield (pc' := 186) (w := .ref 113) rfl rfl rfl rfl ?_
      refine ev_bipush (pc' := 188) (b := (12 : Int32)) rfl rfl rfl ?_
      refine ev_iload_n (pc' := 189) rfl rfl rfl ?_
      refine ev_imul (pc' := 190) rfl rfl ?_
      refine ev_aload_n (pc' := 191) rfl rfl rfl ?_
      refine ev_getfield (pc' := 194) (w := .ref 115) rfl rfl rfl rfl ?_
      refine ev_iload_n (pc' := 195) rfl rfl rfl ?_
      obtain ⟨hg2, h⟩ := am_g_some h
      refine ev_iaload (pc' := 196) rfl rfl rfl hg2 ?_
      refine ev_iadd (pc' := 197) rfl rfl ?_
      refine ev_iload_n (pc' := 198) rfl rfl rfl ?_
      obtain ⟨hg3, h⟩ := am_g_some h
      refine ev_iastore (pc' := 199) rfl rfl rfl hg3 ?_
      refine ev_aload_n (pc' := 200) rfl rfl rfl ?_
      refine ev_getfield (pc' := 203) (w := .ref 114) rfl rfl rfl rfl ?_
      refine ev_bipush (pc' := 205) (b := (12 : Int32)) rfl rfl rfl ?_
      refine ev_iload_n (pc' := 206) rfl rfl rfl ?_
      refine ev_imul (pc' := 207) rfl rfl ?_
      refine ev_aload_n (pc' := 208) rfl rfl rfl ?_
      refine ev_getfield (pc' := 211) (w := .ref 115) rfl rfl rfl rfl ?_
      refine ev_iload_n (pc' := 212) rfl rfl rfl ?_
      obtain ⟨hg4, h⟩ := am_g_some h
      refine ev_iaload (pc' := 213) rfl rfl rfl hg4 ?_
      change am_Ev _ _ _ _ _ _ (.int (σ 115 x1.toNatClampNeg) :: [.int ((12 : Int32) * x1), .ref 114]) _ _ _
      refine ev_iadd (pc' := 214) rfl rfl ?_
      refine ev_iload (pc' := 216) rfl rfl rfl ?_
      obtain ⟨hg5, h⟩ := am_g_some h
      refine ev_iastore (pc' := 217) rfl rfl rfl hg5 ?_
      refine ev_aload_n (pc' := 218) rfl rfl rfl ?_
      refine ev_getfield (pc' := 221) (w := .ref 115) rfl rfl rfl rfl ?_
      refine ev_iload_n (pc' := 222) rfl rfl rfl ?_
      refine ev_dup2 (pc' := 223) rfl rfl ?_
      obtain ⟨hg6, h⟩ := am_g_some h
      refine ev_iaload (pc' := 224) rfl rfl rfl hg6 ?_
      change am_Ev _ _ _ _ _ _ (.int (σ 115 x1.toNatClampNeg) :: [.int x1, .ref 115]) _ _ _
      refine ev_iconst (pc' := 225) (b := (1 : Int32)) rfl rfl rfl ?_
      refine ev_iadd (pc' := 226) rfl rfl ?_
      obtain ⟨hg7, h⟩ := am_g_some h
      refine ev_iastore (pc' := 227) rfl rfl rfl hg7 ?_
      refine ev_goto (pc' := 93) rfl rfl ?_
      exact hk93 h
    · refine ev_if_f (pc' := 113) rfl (by decide) rfl (cb_lt_f hc1) ?_
      refine ev_aload_n (pc' := 114) rfl rfl rfl ?_
      refine ev_iload_n (pc' := 115) rfl rfl rfl ?_
      refine ev_iload (pc' := 117) rfl rfl rfl ?_
      refine am_bd h (fun q8 hq8 h => ?_)
      refine ev_call (mi := 189) (as := [.ref 85, .int x3, .int x7]) (rest := []) rfl rfl (Nat.le_of_ble_eq_true rfl) (fm_railBetween_e (d := d) hq8) ?_
      show am_Ev _ _ _ _ 120 _ _ _ _ _
      refine ev_istore (pc' := 122) (L' := [.ref 85, .int x1, .int x2, .int x3, .int x4, .int x5, .int x6, .int x7, .int q8]) rfl rfl rfl rfl ?_
      refine ev_iload (pc' := 124) rfl rfl rfl ?_
      refine ev_ldc (pc' := 126) (b := (100000 : Int32)) rfl rfl rfl ?_
      rcases am_if h with ⟨hc9, h⟩ | ⟨hc9, h⟩
      · refine ev_ic_t (pc' := 166) rfl rfl (cb_ge_t hc9) ?_
        exact fm_send_b166_e (hk93 := hk93) (hk108 := fun h => ih h) h
      · refine ev_ic_f (pc' := 129) rfl (by decide) rfl (cb_ge_f hc9) ?_
        refine ev_iload (pc' := 131) rfl rfl rfl ?_
        refine ev_aload_n (pc' := 132) rfl rfl rfl ?_
        refine ev_getfield (pc' := 135) (w := .ref 124) rfl rfl rfl rfl ?_
        refine ev_bipush (pc' := 137) (b := (12 : Int32)) rfl rfl rfl ?_
        refine ev_iload (pc' := 139) rfl rfl rfl ?_
        refine ev_imul (pc' := 140) rfl rfl ?_
        refine ev_iload_n (pc' := 141) rfl rfl rfl ?_
        refine ev_iadd (pc' := 142) rfl rfl ?_
        obtain ⟨hg10, h⟩ := am_g_some h
        refine ev_iaload (pc' := 143) rfl rfl rfl hg10 ?_
        refine ev_iadd (pc' := 144) rfl rfl ?_
        refine ev_aload_n (pc' := 145) rfl rfl rfl ?_
        refine ev_getfield (pc' := 148) (w := .ref 124) rfl rfl rfl rfl ?_
        refine ev_bipush (pc' := 150) (b := (12 : Int32)) rfl rfl rfl ?_
        refine ev_iload_n (pc' := 151) rfl rfl rfl ?_
        refine ev_imul (pc' := 152) rfl rfl ?_
        refine ev_iload_n (pc' := 153) rfl rfl rfl ?_
        refine ev_iadd (pc' := 154) rfl rfl ?_
        obtain ⟨hg11, h⟩ := am_g_some h
        refine ev_iaload (pc' := 155) rfl rfl rfl hg11 ?_
        rcases am_if h with ⟨hc12, h⟩ | ⟨hc12, h⟩
        · refine ev_ic_f (pc' := 158) rfl (by decide) rfl (cb_ne_f hc12) ?_
          refine ev_iload (pc' := 160) rfl rfl rfl ?_
          refine ev_istore (pc' := 162) (L' := [.ref 85, .int x1, .int x2, .int x3, .int x4, .int x7, .int x6, .int x7, .int q8]) rfl rfl rfl rfl ?_
          refine ev_iload (pc' := 164) rfl rfl rfl ?_
          refine ev_istore (pc' := 166) (L' := [.ref 85, .int x1, .int x2, .int x3, .int x4, .int x7, .int q8, .int x7, .int q8]) rfl rfl rfl rfl ?_
          exact fm_send_b166_e (hk93 := hk93) (hk108 := fun h => ih h) h
        · refine ev_ic_t (pc' := 166) rfl rfl (cb_ne_t hc12) ?_
          exact fm_send_b166_e (hk93 := hk93) (hk108 := fun h => ih h) h
def fm_send_b93 (N : Nat) : Nat → Int32 → Int32 → Int32 → Int32 → am_S → Option (Int32 × am_S)
  | 0, _, _, _, _, _ => none
  | n + 1, x1, x2, x3, x4, σ => (if x3 = x2 then some (x4, σ) else fm_send_b108 N (fun x1 x2 x3 x4 σ => fm_send_b93 N n x1 x2 x3 x4 σ) N x1 x2 x3 x4 (-1 : Int32) (0 : Int32) (11 : Int32) σ)
set_option maxRecDepth 100000 in
theorem fm_send_b93_e {X : Nat} {xs : Nat → Int32} {d : Nat} {N : Nat} : ∀ {n : Nat} {x1 : Int32} {x2 : Int32} {x3 : Int32} {x4 : Int32} {w5 : Value} {w6 : Value} {w7 : Value} {w8 : Value} {σ : am_S} {o : Int32 × am_S}, fm_send_b93 N n x1 x2 x3 x4 σ = some o → am_Ev am_sh (am_exx X xs) (d + 1) mm_188 93 [.ref 85, .int x1, .int x2, .int x3, .int x4, w5, w6, w7, w8] [] σ (some (.int o.1)) o.2 := by
  intro n
  induction n with
  | zero => intro x1 x2 x3 x4 w5 w6 w7 w8 σ o h; cases h
  | succ n ih =>
    intro x1 x2 x3 x4 w5 w6 w7 w8 σ o h
    unfold fm_send_b93 at h
    refine ev_iload_n (pc' := 94) rfl rfl rfl ?_
    refine ev_iload_n (pc' := 95) rfl rfl rfl ?_
    rcases am_if h with ⟨hc1, h⟩ | ⟨hc1, h⟩
    · refine ev_ic_t (pc' := 230) rfl rfl (cb_eq_t hc1) ?_
      refine ev_iload (pc' := 232) rfl rfl rfl ?_
      obtain rfl := Option.some.inj h
      exact ev_ireturn rfl rfl
    · refine ev_ic_f (pc' := 98) rfl (by decide) rfl (cb_eq_f hc1) ?_
      refine ev_iconst (pc' := 99) (b := (-1 : Int32)) rfl rfl rfl ?_
      refine ev_istore (pc' := 101) (L' := [.ref 85, .int x1, .int x2, .int x3, .int x4, .int (-1 : Int32), w6, w7, w8]) rfl rfl rfl rfl ?_
      refine ev_iconst (pc' := 102) (b := (0 : Int32)) rfl rfl rfl ?_
      refine ev_istore (pc' := 104) (L' := [.ref 85, .int x1, .int x2, .int x3, .int x4, .int (-1 : Int32), .int (0 : Int32), w7, w8]) rfl rfl rfl rfl ?_
      refine ev_bipush (pc' := 106) (b := (11 : Int32)) rfl rfl rfl ?_
      refine ev_istore (pc' := 108) (L' := [.ref 85, .int x1, .int x2, .int x3, .int x4, .int (-1 : Int32), .int (0 : Int32), .int (11 : Int32), w8]) rfl rfl rfl rfl ?_
      exact fm_send_b108_e (hk93 := fun h => ih h) h
def fm_send (N : Nat) (a1 : Int32) (a2 : Int32) (σ : am_S) : Option (Int32 × am_S) := (if (fm_isWagon a1 σ) = 0 then fm_send_b16 N σ else (if (fm_isParish a2 σ) = 0 then fm_send_b16 N σ else (fm_tellWays N (1 : Int32) σ).bind fun q3 => (fm_placeOn N a1 (q3 85 0) q3).bind fun q4 => am_g (am_in (((12 : Int32) * q4) + a2) 144) <| (if (q3 124 (((12 : Int32) * q4) + a2).toNatClampNeg) < (100000 : Int32) then am_g (am_in ((12 : Int32) * a1) 120) <| am_g (am_in ((12 : Int32) * a1) 120) <| am_g (am_in a1 10) <| fm_send_b93 N N a1 a2 q4 (q3 85 0) (am_up (am_up (am_up q3 113 ((12 : Int32) * a1).toNatClampNeg q4) 114 ((12 : Int32) * a1).toNatClampNeg (q3 85 0)) 115 a1.toNatClampNeg (1 : Int32)) else (fm_finding (2 : Int32) q3).bind fun q10 => some (q10.1, q10.2))))
set_option maxRecDepth 100000 in
theorem fm_send_e {X : Nat} {xs : Nat → Int32} {d : Nat} {N : Nat} {a1 : Int32} {a2 : Int32} {σ : am_S} {o : Int32 × am_S} (h : fm_send N a1 a2 σ = some o) : am_Ev am_sh (am_exx X xs) (d + 1) mm_188 0 [.ref 85, .int a1, .int a2, .null, .null, .null, .null, .null, .null] [] σ (some (.int o.1)) o.2 := by
  unfold fm_send at h
  refine ev_aload_n (pc' := 1) rfl rfl rfl ?_
  refine ev_iload_n (pc' := 2) rfl rfl rfl ?_
  refine ev_call (mi := 185) (as := [.ref 85, .int a1]) (rest := []) rfl rfl (Nat.le_of_ble_eq_true rfl) (fm_isWagon_e (d := d) rfl) ?_
  show am_Ev _ _ _ _ 5 _ _ _ _ _
  rcases am_if h with ⟨hc1, h⟩ | ⟨hc1, h⟩
  · refine ev_if_t (pc' := 16) rfl rfl (cb_eq_t hc1) ?_
    exact fm_send_b16_e h
  · refine ev_if_f (pc' := 8) rfl (by decide) rfl (cb_eq_f hc1) ?_
    refine ev_aload_n (pc' := 9) rfl rfl rfl ?_
    refine ev_iload_n (pc' := 10) rfl rfl rfl ?_
    refine ev_call (mi := 181) (as := [.ref 85, .int a2]) (rest := []) rfl rfl (Nat.le_of_ble_eq_true rfl) (fm_isParish_e (d := d) rfl) ?_
    show am_Ev _ _ _ _ 13 _ _ _ _ _
    rcases am_if h with ⟨hc2, h⟩ | ⟨hc2, h⟩
    · refine ev_if_f (pc' := 16) rfl (by decide) rfl (cb_ne_f hc2) ?_
      exact fm_send_b16_e h
    · refine ev_if_t (pc' := 22) rfl rfl (cb_ne_t hc2) ?_
      refine ev_aload_n (pc' := 23) rfl rfl rfl ?_
      refine ev_iconst (pc' := 24) (b := (1 : Int32)) rfl rfl rfl ?_
      refine am_bd h (fun q3 hq3 h => ?_)
      refine ev_call (mi := 147) (as := [.ref 85, .int (1 : Int32)]) (rest := []) rfl rfl (Nat.le_of_ble_eq_true rfl) (fm_tellWays_e (d := d) hq3) ?_
      show am_Ev _ _ _ _ 27 _ _ _ _ _
      refine ev_aload_n (pc' := 28) rfl rfl rfl ?_
      refine ev_iload_n (pc' := 29) rfl rfl rfl ?_
      refine ev_aload_n (pc' := 30) rfl rfl rfl ?_
      refine ev_getfield (pc' := 33) (w := .int (q3 85 0)) rfl rfl rfl rfl ?_
      refine am_bd h (fun q4 hq4 h => ?_)
      refine ev_call (mi := 187) (as := [.ref 85, .int a1, .int (q3 85 0)]) (rest := []) rfl rfl (Nat.le_of_ble_eq_true rfl) (fm_placeOn_e (d := d) hq4) ?_
      show am_Ev _ _ _ _ 36 _ _ _ _ _
      refine ev_istore_n (pc' := 37) (L' := [.ref 85, .int a1, .int a2, .int q4, .null, .null, .null, .null, .null]) rfl rfl rfl rfl ?_
      refine ev_aload_n (pc' := 38) rfl rfl rfl ?_
      refine ev_getfield (pc' := 41) (w := .ref 124) rfl rfl rfl rfl ?_
      refine ev_bipush (pc' := 43) (b := (12 : Int32)) rfl rfl rfl ?_
      refine ev_iload_n (pc' := 44) rfl rfl rfl ?_
      refine ev_imul (pc' := 45) rfl rfl ?_
      refine ev_iload_n (pc' := 46) rfl rfl rfl ?_
      refine ev_iadd (pc' := 47) rfl rfl ?_
      obtain ⟨hg5, h⟩ := am_g_some h
      refine ev_iaload (pc' := 48) rfl rfl rfl hg5 ?_
      refine ev_ldc (pc' := 50) (b := (100000 : Int32)) rfl rfl rfl ?_
      rcases am_if h with ⟨hc6, h⟩ | ⟨hc6, h⟩
      · refine ev_ic_t (pc' := 59) rfl rfl (cb_lt_t hc6) ?_
        refine ev_aload_n (pc' := 60) rfl rfl rfl ?_
        refine ev_getfield (pc' := 63) (w := .int (q3 85 0)) rfl rfl rfl rfl ?_
        refine ev_istore (pc' := 65) (L' := [.ref 85, .int a1, .int a2, .int q4, .int (q3 85 0), .null, .null, .null, .null]) rfl rfl rfl rfl ?_
        refine ev_aload_n (pc' := 66) rfl rfl rfl ?_
        refine ev_getfield (pc' := 69) (w := .ref 113) rfl rfl rfl rfl ?_
        refine ev_bipush (pc' := 71) (b := (12 : Int32)) rfl rfl rfl ?_
        refine ev_iload_n (pc' := 72) rfl rfl rfl ?_
        refine ev_imul (pc' := 73) rfl rfl ?_
        refine ev_iload_n (pc' := 74) rfl rfl rfl ?_
        obtain ⟨hg7, h⟩ := am_g_some h
        refine ev_iastore (pc' := 75) rfl rfl rfl hg7 ?_
        refine ev_aload_n (pc' := 76) rfl rfl rfl ?_
        refine ev_getfield (pc' := 79) (w := .ref 114) rfl rfl rfl rfl ?_
        refine ev_bipush (pc' := 81) (b := (12 : Int32)) rfl rfl rfl ?_
        refine ev_iload_n (pc' := 82) rfl rfl rfl ?_
        refine ev_imul (pc' := 83) rfl rfl ?_
        refine ev_iload (pc' := 85) rfl rfl rfl ?_
        obtain ⟨hg8, h⟩ := am_g_some h
        refine ev_iastore (pc' := 86) rfl rfl rfl hg8 ?_
        refine ev_aload_n (pc' := 87) rfl rfl rfl ?_
        refine ev_getfield (pc' := 90) (w := .ref 115) rfl rfl rfl rfl ?_
        refine ev_iload_n (pc' := 91) rfl rfl rfl ?_
        refine ev_iconst (pc' := 92) (b := (1 : Int32)) rfl rfl rfl ?_
        obtain ⟨hg9, h⟩ := am_g_some h
        refine ev_iastore (pc' := 93) rfl rfl rfl hg9 ?_
        exact fm_send_b93_e h
      · refine ev_ic_f (pc' := 53) rfl (by decide) rfl (cb_lt_f hc6) ?_
        refine ev_aload_n (pc' := 54) rfl rfl rfl ?_
        refine ev_iconst (pc' := 55) (b := (2 : Int32)) rfl rfl rfl ?_
        refine am_bd h (fun q10 hq10 h => ?_)
        refine ev_call (mi := 159) (as := [.ref 85, .int (2 : Int32)]) (rest := []) rfl rfl (Nat.le_of_ble_eq_true rfl) (fm_finding_e (d := d) hq10) ?_
        show am_Ev _ _ _ _ 58 _ _ _ _ _
        obtain rfl := Option.some.inj h
        exact ev_ireturn rfl rfl
/-! PartedLandModel.where (85, 'I', 'I'): S -/
def fm_where_b22 (N : Nat) (σ : am_S) : Option (Int32 × am_S) := (fm_finding (1 : Int32) σ).bind fun q1 => some (q1.1, q1.2)
set_option maxRecDepth 100000 in
theorem fm_where_b22_e {X : Nat} {xs : Nat → Int32} {d : Nat} {N : Nat} {w1 : Value} {w2 : Value} {σ : am_S} {o : Int32 × am_S} (h : fm_where_b22 N σ = some o) : am_Ev am_sh (am_exx X xs) (d + 1) mm_190 22 [.ref 85, w1, w2] [] σ (some (.int o.1)) o.2 := by
  unfold fm_where_b22 at h
  refine ev_aload_n (pc' := 23) rfl rfl rfl ?_
  refine ev_iconst (pc' := 24) (b := (1 : Int32)) rfl rfl rfl ?_
  refine am_bd h (fun q1 hq1 h => ?_)
  refine ev_call (mi := 159) (as := [.ref 85, .int (1 : Int32)]) (rest := []) rfl rfl (Nat.le_of_ble_eq_true rfl) (fm_finding_e (d := d) hq1) ?_
  show am_Ev _ _ _ _ 27 _ _ _ _ _
  obtain rfl := Option.some.inj h
  exact ev_ireturn rfl rfl
def fm_where (N : Nat) (a1 : Int32) (a2 : Int32) (σ : am_S) : Option (Int32 × am_S) := (if (fm_isWagon a1 σ) = 0 then fm_where_b22 N σ else (if (fm_isIn a2 (σ 85 0) (400 : Int32) σ) = 0 then fm_where_b22 N σ else (fm_placeOn N a1 a2 σ).bind fun q3 => some (q3, σ)))
set_option maxRecDepth 100000 in
theorem fm_where_e {X : Nat} {xs : Nat → Int32} {d : Nat} {N : Nat} {a1 : Int32} {a2 : Int32} {σ : am_S} {o : Int32 × am_S} (h : fm_where N a1 a2 σ = some o) : am_Ev am_sh (am_exx X xs) (d + 1) mm_190 0 [.ref 85, .int a1, .int a2] [] σ (some (.int o.1)) o.2 := by
  unfold fm_where at h
  refine ev_aload_n (pc' := 1) rfl rfl rfl ?_
  refine ev_iload_n (pc' := 2) rfl rfl rfl ?_
  refine ev_call (mi := 185) (as := [.ref 85, .int a1]) (rest := []) rfl rfl (Nat.le_of_ble_eq_true rfl) (fm_isWagon_e (d := d) rfl) ?_
  show am_Ev _ _ _ _ 5 _ _ _ _ _
  rcases am_if h with ⟨hc1, h⟩ | ⟨hc1, h⟩
  · refine ev_if_t (pc' := 22) rfl rfl (cb_eq_t hc1) ?_
    exact fm_where_b22_e h
  · refine ev_if_f (pc' := 8) rfl (by decide) rfl (cb_eq_f hc1) ?_
    refine ev_iload_n (pc' := 9) rfl rfl rfl ?_
    refine ev_aload_n (pc' := 10) rfl rfl rfl ?_
    refine ev_getfield (pc' := 13) (w := .int (σ 85 0)) rfl rfl rfl rfl ?_
    refine ev_sipush (pc' := 16) (b := (400 : Int32)) rfl rfl rfl ?_
    refine ev_call (mi := 170) (as := [.int a2, .int (σ 85 0), .int (400 : Int32)]) (rest := []) rfl rfl (Nat.le_of_ble_eq_true rfl) (fm_isIn_e (d := d) rfl) ?_
    show am_Ev _ _ _ _ 19 _ _ _ _ _
    rcases am_if h with ⟨hc2, h⟩ | ⟨hc2, h⟩
    · refine ev_if_f (pc' := 22) rfl (by decide) rfl (cb_ne_f hc2) ?_
      exact fm_where_b22_e h
    · refine ev_if_t (pc' := 28) rfl rfl (cb_ne_t hc2) ?_
      refine ev_aload_n (pc' := 29) rfl rfl rfl ?_
      refine ev_iload_n (pc' := 30) rfl rfl rfl ?_
      refine ev_iload_n (pc' := 31) rfl rfl rfl ?_
      refine am_bd h (fun q3 hq3 h => ?_)
      refine ev_call (mi := 187) (as := [.ref 85, .int a1, .int a2]) (rest := []) rfl rfl (Nat.le_of_ble_eq_true rfl) (fm_placeOn_e (d := d) hq3) ?_
      show am_Ev _ _ _ _ 34 _ _ _ _ _
      obtain rfl := Option.some.inj h
      exact ev_ireturn rfl rfl
/-! PartedLandModel.home (85, 'I'): S -/
def fm_home_b91 (N : Nat) (k35 : Int32 → Int32 → Int32 → Int32 → am_S → Option (Int32 × am_S)) (x1 : Int32) (x2 : Int32) (x4 : Int32) (s0 : Int32) (σ : am_S) : Option (Int32 × am_S) := k35 x1 x2 s0 (x4 + (1 : Int32)) σ
set_option maxRecDepth 100000 in
theorem fm_home_b91_e {X : Nat} {xs : Nat → Int32} {d : Nat} {N : Nat} {k35 : Int32 → Int32 → Int32 → Int32 → am_S → Option (Int32 × am_S)} (hk35 : ∀ {x1 : Int32} {x2 : Int32} {x3 : Int32} {x4 : Int32} {σ : am_S} {o : Int32 × am_S}, k35 x1 x2 x3 x4 σ = some o → am_Ev am_sh (am_exx X xs) (d + 2) mm_191 35 [.ref 85, .int x1, .int x2, .int x3, .int x4] [] σ (some (.int o.1)) o.2) {x1 : Int32} {x2 : Int32} {x4 : Int32} {s0 : Int32} {w3 : Value} {σ : am_S} {o : Int32 × am_S} (h : fm_home_b91 N k35 x1 x2 x4 s0 σ = some o) : am_Ev am_sh (am_exx X xs) (d + 2) mm_191 91 [.ref 85, .int x1, .int x2, w3, .int x4] [.int s0] σ (some (.int o.1)) o.2 := by
  unfold fm_home_b91 at h
  refine ev_istore_n (pc' := 92) (L' := [.ref 85, .int x1, .int x2, .int s0, .int x4]) rfl rfl rfl rfl ?_
  refine ev_iinc (pc' := 95) (L' := [.ref 85, .int x1, .int x2, .int s0, .int (x4 + (1 : Int32))]) (b := (1 : Int32)) rfl rfl rfl rfl rfl ?_
  refine ev_goto (pc' := 35) rfl rfl ?_
  exact hk35 h
def fm_home_b90 (N : Nat) (k35 : Int32 → Int32 → Int32 → Int32 → am_S → Option (Int32 × am_S)) (x1 : Int32) (x2 : Int32) (x3 : Int32) (x4 : Int32) (σ : am_S) : Option (Int32 × am_S) := fm_home_b91 N k35 x1 x2 x4 x3 σ
set_option maxRecDepth 100000 in
theorem fm_home_b90_e {X : Nat} {xs : Nat → Int32} {d : Nat} {N : Nat} {k35 : Int32 → Int32 → Int32 → Int32 → am_S → Option (Int32 × am_S)} (hk35 : ∀ {x1 : Int32} {x2 : Int32} {x3 : Int32} {x4 : Int32} {σ : am_S} {o : Int32 × am_S}, k35 x1 x2 x3 x4 σ = some o → am_Ev am_sh (am_exx X xs) (d + 2) mm_191 35 [.ref 85, .int x1, .int x2, .int x3, .int x4] [] σ (some (.int o.1)) o.2) {x1 : Int32} {x2 : Int32} {x3 : Int32} {x4 : Int32} {σ : am_S} {o : Int32 × am_S} (h : fm_home_b90 N k35 x1 x2 x3 x4 σ = some o) : am_Ev am_sh (am_exx X xs) (d + 2) mm_191 90 [.ref 85, .int x1, .int x2, .int x3, .int x4] [] σ (some (.int o.1)) o.2 := by
  unfold fm_home_b90 at h
  refine ev_iload_n (pc' := 91) rfl rfl rfl ?_
  exact fm_home_b91_e (hk35 := hk35) h
def fm_home_b35 (N : Nat) : Nat → Int32 → Int32 → Int32 → Int32 → am_S → Option (Int32 × am_S)
  | 0, _, _, _, _, _ => none
  | n + 1, x1, x2, x3, x4, σ => (if (σ 85 1) ≤ x4 then (if (365 : Int32) < ((σ 85 0) + x3) then some ((0 : Int32), σ) else some ((1 : Int32), σ)) else (fm_sideOf N x4 σ).bind fun q3 => am_g (am_in x1 10) <| (if q3 = (σ 112 x1.toNatClampNeg) then am_g (am_in (((12 : Int32) * x2) + x4) 144) <| (if x3 ≤ (σ 124 (((12 : Int32) * x2) + x4).toNatClampNeg) then fm_home_b90 N (fun x1 x2 x3 x4 σ => fm_home_b35 N n x1 x2 x3 x4 σ) x1 x2 x3 x4 σ else am_g (am_in (((12 : Int32) * x2) + x4) 144) <| fm_home_b91 N (fun x1 x2 x3 x4 σ => fm_home_b35 N n x1 x2 x3 x4 σ) x1 x2 x4 (σ 124 (((12 : Int32) * x2) + x4).toNatClampNeg) σ) else fm_home_b90 N (fun x1 x2 x3 x4 σ => fm_home_b35 N n x1 x2 x3 x4 σ) x1 x2 x3 x4 σ))
set_option maxRecDepth 100000 in
theorem fm_home_b35_e {X : Nat} {xs : Nat → Int32} {d : Nat} {N : Nat} : ∀ {n : Nat} {x1 : Int32} {x2 : Int32} {x3 : Int32} {x4 : Int32} {σ : am_S} {o : Int32 × am_S}, fm_home_b35 N n x1 x2 x3 x4 σ = some o → am_Ev am_sh (am_exx X xs) (d + 2) mm_191 35 [.ref 85, .int x1, .int x2, .int x3, .int x4] [] σ (some (.int o.1)) o.2 := by
  intro n
  induction n with
  | zero => intro x1 x2 x3 x4 σ o h; cases h
  | succ n ih =>
    intro x1 x2 x3 x4 σ o h
    unfold fm_home_b35 at h
    refine ev_iload (pc' := 37) rfl rfl rfl ?_
    refine ev_aload_n (pc' := 38) rfl rfl rfl ?_
    refine ev_getfield (pc' := 41) (w := .int (σ 85 1)) rfl rfl rfl rfl ?_
    rcases am_if h with ⟨hc1, h⟩ | ⟨hc1, h⟩
    · refine ev_ic_t (pc' := 98) rfl rfl (cb_ge_t hc1) ?_
      refine ev_aload_n (pc' := 99) rfl rfl rfl ?_
      refine ev_getfield (pc' := 102) (w := .int (σ 85 0)) rfl rfl rfl rfl ?_
      refine ev_iload_n (pc' := 103) rfl rfl rfl ?_
      refine ev_iadd (pc' := 104) rfl rfl ?_
      refine ev_sipush (pc' := 107) (b := (365 : Int32)) rfl rfl rfl ?_
      rcases am_if h with ⟨hc2, h⟩ | ⟨hc2, h⟩
      · refine ev_ic_t (pc' := 114) rfl rfl (cb_gt_t hc2) ?_
        refine ev_iconst (pc' := 115) (b := (0 : Int32)) rfl rfl rfl ?_
        obtain rfl := Option.some.inj h
        exact ev_ireturn rfl rfl
      · refine ev_ic_f (pc' := 110) rfl (by decide) rfl (cb_gt_f hc2) ?_
        refine ev_iconst (pc' := 111) (b := (1 : Int32)) rfl rfl rfl ?_
        refine ev_goto (pc' := 115) rfl rfl ?_
        obtain rfl := Option.some.inj h
        exact ev_ireturn rfl rfl
    · refine ev_ic_f (pc' := 44) rfl (by decide) rfl (cb_ge_f hc1) ?_
      refine ev_aload_n (pc' := 45) rfl rfl rfl ?_
      refine ev_iload (pc' := 47) rfl rfl rfl ?_
      refine am_bd h (fun q3 hq3 h => ?_)
      refine ev_call (mi := 143) (as := [.ref 85, .int x4]) (rest := []) rfl rfl (Nat.le_of_ble_eq_true rfl) (fm_sideOf_e (d := d) hq3) ?_
      show am_Ev _ _ _ _ 50 _ _ _ _ _
      refine ev_aload_n (pc' := 51) rfl rfl rfl ?_
      refine ev_getfield (pc' := 54) (w := .ref 112) rfl rfl rfl rfl ?_
      refine ev_iload_n (pc' := 55) rfl rfl rfl ?_
      obtain ⟨hg4, h⟩ := am_g_some h
      refine ev_iaload (pc' := 56) rfl rfl rfl hg4 ?_
      rcases am_if h with ⟨hc5, h⟩ | ⟨hc5, h⟩
      · refine ev_ic_f (pc' := 59) rfl (by decide) rfl (cb_ne_f hc5) ?_
        refine ev_aload_n (pc' := 60) rfl rfl rfl ?_
        refine ev_getfield (pc' := 63) (w := .ref 124) rfl rfl rfl rfl ?_
        refine ev_bipush (pc' := 65) (b := (12 : Int32)) rfl rfl rfl ?_
        refine ev_iload_n (pc' := 66) rfl rfl rfl ?_
        refine ev_imul (pc' := 67) rfl rfl ?_
        refine ev_iload (pc' := 69) rfl rfl rfl ?_
        refine ev_iadd (pc' := 70) rfl rfl ?_
        obtain ⟨hg6, h⟩ := am_g_some h
        refine ev_iaload (pc' := 71) rfl rfl rfl hg6 ?_
        refine ev_iload_n (pc' := 72) rfl rfl rfl ?_
        rcases am_if h with ⟨hc7, h⟩ | ⟨hc7, h⟩
        · refine ev_ic_t (pc' := 90) rfl rfl (cb_ge_t hc7) ?_
          exact fm_home_b90_e (hk35 := fun h => ih h) h
        · refine ev_ic_f (pc' := 75) rfl (by decide) rfl (cb_ge_f hc7) ?_
          refine ev_aload_n (pc' := 76) rfl rfl rfl ?_
          refine ev_getfield (pc' := 79) (w := .ref 124) rfl rfl rfl rfl ?_
          refine ev_bipush (pc' := 81) (b := (12 : Int32)) rfl rfl rfl ?_
          refine ev_iload_n (pc' := 82) rfl rfl rfl ?_
          refine ev_imul (pc' := 83) rfl rfl ?_
          refine ev_iload (pc' := 85) rfl rfl rfl ?_
          refine ev_iadd (pc' := 86) rfl rfl ?_
          obtain ⟨hg8, h⟩ := am_g_some h
          refine ev_iaload (pc' := 87) rfl rfl rfl hg8 ?_
          refine ev_goto (pc' := 91) rfl rfl ?_
          exact fm_home_b91_e (hk35 := fun h => ih h) h
      · refine ev_ic_t (pc' := 90) rfl rfl (cb_ne_t hc5) ?_
        exact fm_home_b90_e (hk35 := fun h => ih h) h
def fm_home (N : Nat) (a1 : Int32) (σ : am_S) : Option (Int32 × am_S) := (if (fm_isWagon a1 σ) = 0 then (fm_finding (1 : Int32) σ).bind fun q2 => some (q2.1, q2.2) else (fm_tellWays N (1 : Int32) σ).bind fun q3 => (fm_placeOn N a1 (q3 85 0) q3).bind fun q4 => fm_home_b35 N N a1 q4 (100000 : Int32) (0 : Int32) q3)
set_option maxRecDepth 100000 in
theorem fm_home_e {X : Nat} {xs : Nat → Int32} {d : Nat} {N : Nat} {a1 : Int32} {σ : am_S} {o : Int32 × am_S} (h : fm_home N a1 σ = some o) : am_Ev am_sh (am_exx X xs) (d + 2) mm_191 0 [.ref 85, .int a1, .null, .null, .null] [] σ (some (.int o.1)) o.2 := by
  unfold fm_home at h
  refine ev_aload_n (pc' := 1) rfl rfl rfl ?_
  refine ev_iload_n (pc' := 2) rfl rfl rfl ?_
  refine ev_call (mi := 185) (as := [.ref 85, .int a1]) (rest := []) rfl rfl (Nat.le_of_ble_eq_true rfl) (fm_isWagon_e (d := d + 1) rfl) ?_
  show am_Ev _ _ _ _ 5 _ _ _ _ _
  rcases am_if h with ⟨hc1, h⟩ | ⟨hc1, h⟩
  · refine ev_if_f (pc' := 8) rfl (by decide) rfl (cb_ne_f hc1) ?_
    refine ev_aload_n (pc' := 9) rfl rfl rfl ?_
    refine ev_iconst (pc' := 10) (b := (1 : Int32)) rfl rfl rfl ?_
    refine am_bd h (fun q2 hq2 h => ?_)
    refine ev_call (mi := 159) (as := [.ref 85, .int (1 : Int32)]) (rest := []) rfl rfl (Nat.le_of_ble_eq_true rfl) (fm_finding_e (d := d + 1) hq2) ?_
    show am_Ev _ _ _ _ 13 _ _ _ _ _
    obtain rfl := Option.some.inj h
    exact ev_ireturn rfl rfl
  · refine ev_if_t (pc' := 14) rfl rfl (cb_ne_t hc1) ?_
    refine ev_aload_n (pc' := 15) rfl rfl rfl ?_
    refine ev_iconst (pc' := 16) (b := (1 : Int32)) rfl rfl rfl ?_
    refine am_bd h (fun q3 hq3 h => ?_)
    refine ev_call (mi := 147) (as := [.ref 85, .int (1 : Int32)]) (rest := []) rfl rfl (Nat.le_of_ble_eq_true rfl) (fm_tellWays_e (d := d + 1) hq3) ?_
    show am_Ev _ _ _ _ 19 _ _ _ _ _
    refine ev_aload_n (pc' := 20) rfl rfl rfl ?_
    refine ev_iload_n (pc' := 21) rfl rfl rfl ?_
    refine ev_aload_n (pc' := 22) rfl rfl rfl ?_
    refine ev_getfield (pc' := 25) (w := .int (q3 85 0)) rfl rfl rfl rfl ?_
    refine am_bd h (fun q4 hq4 h => ?_)
    refine ev_call (mi := 187) (as := [.ref 85, .int a1, .int (q3 85 0)]) (rest := []) rfl rfl (Nat.le_of_ble_eq_true rfl) (fm_placeOn_e (d := d + 1) hq4) ?_
    show am_Ev _ _ _ _ 28 _ _ _ _ _
    refine ev_istore_n (pc' := 29) (L' := [.ref 85, .int a1, .int q4, .null, .null]) rfl rfl rfl rfl ?_
    refine ev_ldc (pc' := 31) (b := (100000 : Int32)) rfl rfl rfl ?_
    refine ev_istore_n (pc' := 32) (L' := [.ref 85, .int a1, .int q4, .int (100000 : Int32), .null]) rfl rfl rfl rfl ?_
    refine ev_iconst (pc' := 33) (b := (0 : Int32)) rfl rfl rfl ?_
    refine ev_istore (pc' := 35) (L' := [.ref 85, .int a1, .int q4, .int (100000 : Int32), .int (0 : Int32)]) rfl rfl rfl rfl ?_
    exact fm_home_b35_e h
/-! PartedLandModel.day (85, 'I'): S -/
def fm_day (a1 : Int32) (σ : am_S) : Option (Int32 × am_S) := (if (fm_isIn a1 (σ 85 0) (400 : Int32) σ) = 0 then (fm_finding (1 : Int32) σ).bind fun q2 => some (q2.1, q2.2) else some ((a1 - (σ 85 0)), (am_up σ 85 0 a1)))
set_option maxRecDepth 100000 in
theorem fm_day_e {X : Nat} {xs : Nat → Int32} {d : Nat} {a1 : Int32} {σ : am_S} {o : Int32 × am_S} (h : fm_day a1 σ = some o) : am_Ev am_sh (am_exx X xs) (d + 1) mm_193 0 [.ref 85, .int a1, .null] [] σ (some (.int o.1)) o.2 := by
  unfold fm_day at h
  refine ev_iload_n (pc' := 1) rfl rfl rfl ?_
  refine ev_aload_n (pc' := 2) rfl rfl rfl ?_
  refine ev_getfield (pc' := 5) (w := .int (σ 85 0)) rfl rfl rfl rfl ?_
  refine ev_sipush (pc' := 8) (b := (400 : Int32)) rfl rfl rfl ?_
  refine ev_call (mi := 170) (as := [.int a1, .int (σ 85 0), .int (400 : Int32)]) (rest := []) rfl rfl (Nat.le_of_ble_eq_true rfl) (fm_isIn_e (d := d) rfl) ?_
  show am_Ev _ _ _ _ 11 _ _ _ _ _
  rcases am_if h with ⟨hc1, h⟩ | ⟨hc1, h⟩
  · refine ev_if_f (pc' := 14) rfl (by decide) rfl (cb_ne_f hc1) ?_
    refine ev_aload_n (pc' := 15) rfl rfl rfl ?_
    refine ev_iconst (pc' := 16) (b := (1 : Int32)) rfl rfl rfl ?_
    refine am_bd h (fun q2 hq2 h => ?_)
    refine ev_call (mi := 159) (as := [.ref 85, .int (1 : Int32)]) (rest := []) rfl rfl (Nat.le_of_ble_eq_true rfl) (fm_finding_e (d := d) hq2) ?_
    show am_Ev _ _ _ _ 19 _ _ _ _ _
    obtain rfl := Option.some.inj h
    exact ev_ireturn rfl rfl
  · refine ev_if_t (pc' := 20) rfl rfl (cb_ne_t hc1) ?_
    refine ev_aload_n (pc' := 21) rfl rfl rfl ?_
    refine ev_getfield (pc' := 24) (w := .int (σ 85 0)) rfl rfl rfl rfl ?_
    refine ev_istore_n (pc' := 25) (L' := [.ref 85, .int a1, .int (σ 85 0)]) rfl rfl rfl rfl ?_
    refine ev_aload_n (pc' := 26) rfl rfl rfl ?_
    refine ev_iload_n (pc' := 27) rfl rfl rfl ?_
    refine ev_putfield (pc' := 30) (ci := 11) (f := 0) (z := 0) rfl rfl rfl rfl rfl ?_
    refine ev_aload_n (pc' := 31) rfl rfl rfl ?_
    refine ev_getfield (pc' := 34) (w := .int a1) rfl rfl rfl rfl ?_
    refine ev_iload_n (pc' := 35) rfl rfl rfl ?_
    refine ev_isub (pc' := 36) rfl rfl ?_
    obtain rfl := Option.some.inj h
    exact ev_ireturn rfl rfl
/-! PartedLandModel.open (85, 'I', 'I', 'I', 'I'): S -/
def fm_open_b41 (σ : am_S) : Option (Int32 × am_S) := (fm_finding (1 : Int32) σ).bind fun q1 => some (q1.1, q1.2)
set_option maxRecDepth 100000 in
theorem fm_open_b41_e {X : Nat} {xs : Nat → Int32} {d : Nat} {w1 : Value} {w2 : Value} {w3 : Value} {w4 : Value} {σ : am_S} {o : Int32 × am_S} (h : fm_open_b41 σ = some o) : am_Ev am_sh (am_exx X xs) (d + 1) mm_195 41 [.ref 85, w1, w2, w3, w4] [] σ (some (.int o.1)) o.2 := by
  unfold fm_open_b41 at h
  refine ev_aload_n (pc' := 42) rfl rfl rfl ?_
  refine ev_iconst (pc' := 43) (b := (1 : Int32)) rfl rfl rfl ?_
  refine am_bd h (fun q1 hq1 h => ?_)
  refine ev_call (mi := 159) (as := [.ref 85, .int (1 : Int32)]) (rest := []) rfl rfl (Nat.le_of_ble_eq_true rfl) (fm_finding_e (d := d) hq1) ?_
  show am_Ev _ _ _ _ 46 _ _ _ _ _
  obtain rfl := Option.some.inj h
  exact ev_ireturn rfl rfl
def fm_open_b70 (x1 : Int32) (x2 : Int32) (x3 : Int32) (x4 : Int32) (σ : am_S) : Option (Int32 × am_S) := (if (σ 85 42) = (10 : Int32) then (fm_finding (4 : Int32) σ).bind fun q2 => some (q2.1, q2.2) else am_g (am_in (σ 85 42) 10) <| am_g (am_in (σ 85 42) 10) <| am_g (am_in (σ 85 42) 10) <| am_g (am_in (σ 85 42) 10) <| some ((((σ 85 42) + (1 : Int32)) - (1 : Int32)), (am_up (am_up (am_up (am_up (am_up σ 116 (σ 85 42).toNatClampNeg x1) 117 (σ 85 42).toNatClampNeg x2) 118 (σ 85 42).toNatClampNeg x3) 119 (σ 85 42).toNatClampNeg x4) 85 42 ((σ 85 42) + (1 : Int32)))))
set_option maxRecDepth 100000 in
theorem fm_open_b70_e {X : Nat} {xs : Nat → Int32} {d : Nat} {x1 : Int32} {x2 : Int32} {x3 : Int32} {x4 : Int32} {σ : am_S} {o : Int32 × am_S} (h : fm_open_b70 x1 x2 x3 x4 σ = some o) : am_Ev am_sh (am_exx X xs) (d + 1) mm_195 70 [.ref 85, .int x1, .int x2, .int x3, .int x4] [] σ (some (.int o.1)) o.2 := by
  unfold fm_open_b70 at h
  refine ev_aload_n (pc' := 71) rfl rfl rfl ?_
  refine ev_getfield (pc' := 74) (w := .int (σ 85 42)) rfl rfl rfl rfl ?_
  refine ev_bipush (pc' := 76) (b := (10 : Int32)) rfl rfl rfl ?_
  rcases am_if h with ⟨hc1, h⟩ | ⟨hc1, h⟩
  · refine ev_ic_f (pc' := 79) rfl (by decide) rfl (cb_ne_f hc1) ?_
    refine ev_aload_n (pc' := 80) rfl rfl rfl ?_
    refine ev_iconst (pc' := 81) (b := (4 : Int32)) rfl rfl rfl ?_
    refine am_bd h (fun q2 hq2 h => ?_)
    refine ev_call (mi := 159) (as := [.ref 85, .int (4 : Int32)]) (rest := []) rfl rfl (Nat.le_of_ble_eq_true rfl) (fm_finding_e (d := d) hq2) ?_
    show am_Ev _ _ _ _ 84 _ _ _ _ _
    obtain rfl := Option.some.inj h
    exact ev_ireturn rfl rfl
  · refine ev_ic_t (pc' := 85) rfl rfl (cb_ne_t hc1) ?_
    refine ev_aload_n (pc' := 86) rfl rfl rfl ?_
    refine ev_getfield (pc' := 89) (w := .ref 116) rfl rfl rfl rfl ?_
    refine ev_aload_n (pc' := 90) rfl rfl rfl ?_
    refine ev_getfield (pc' := 93) (w := .int (σ 85 42)) rfl rfl rfl rfl ?_
    refine ev_iload_n (pc' := 94) rfl rfl rfl ?_
    obtain ⟨hg3, h⟩ := am_g_some h
    refine ev_iastore (pc' := 95) rfl rfl rfl hg3 ?_
    refine ev_aload_n (pc' := 96) rfl rfl rfl ?_
    refine ev_getfield (pc' := 99) (w := .ref 117) rfl rfl rfl rfl ?_
    refine ev_aload_n (pc' := 100) rfl rfl rfl ?_
    refine ev_getfield (pc' := 103) (w := .int (σ 85 42)) rfl rfl rfl rfl ?_
    refine ev_iload_n (pc' := 104) rfl rfl rfl ?_
    obtain ⟨hg4, h⟩ := am_g_some h
    refine ev_iastore (pc' := 105) rfl rfl rfl hg4 ?_
    refine ev_aload_n (pc' := 106) rfl rfl rfl ?_
    refine ev_getfield (pc' := 109) (w := .ref 118) rfl rfl rfl rfl ?_
    refine ev_aload_n (pc' := 110) rfl rfl rfl ?_
    refine ev_getfield (pc' := 113) (w := .int (σ 85 42)) rfl rfl rfl rfl ?_
    refine ev_iload_n (pc' := 114) rfl rfl rfl ?_
    obtain ⟨hg5, h⟩ := am_g_some h
    refine ev_iastore (pc' := 115) rfl rfl rfl hg5 ?_
    refine ev_aload_n (pc' := 116) rfl rfl rfl ?_
    refine ev_getfield (pc' := 119) (w := .ref 119) rfl rfl rfl rfl ?_
    refine ev_aload_n (pc' := 120) rfl rfl rfl ?_
    refine ev_getfield (pc' := 123) (w := .int (σ 85 42)) rfl rfl rfl rfl ?_
    refine ev_iload (pc' := 125) rfl rfl rfl ?_
    obtain ⟨hg6, h⟩ := am_g_some h
    refine ev_iastore (pc' := 126) rfl rfl rfl hg6 ?_
    refine ev_aload_n (pc' := 127) rfl rfl rfl ?_
    refine ev_dup (pc' := 128) rfl rfl ?_
    refine ev_getfield (pc' := 131) (w := .int (σ 85 42)) rfl rfl rfl rfl ?_
    refine ev_iconst (pc' := 132) (b := (1 : Int32)) rfl rfl rfl ?_
    refine ev_iadd (pc' := 133) rfl rfl ?_
    refine ev_putfield (pc' := 136) (ci := 11) (f := 42) (z := 0) rfl rfl rfl rfl rfl ?_
    refine ev_aload_n (pc' := 137) rfl rfl rfl ?_
    refine ev_getfield (pc' := 140) (w := .int ((σ 85 42) + (1 : Int32))) rfl rfl rfl rfl ?_
    refine ev_iconst (pc' := 141) (b := (1 : Int32)) rfl rfl rfl ?_
    refine ev_isub (pc' := 142) rfl rfl ?_
    obtain rfl := Option.some.inj h
    exact ev_ireturn rfl rfl
def fm_open_b47 (x1 : Int32) (x2 : Int32) (x3 : Int32) (x4 : Int32) (σ : am_S) : Option (Int32 × am_S) := (if x4 = (-1 : Int32) then fm_open_b70 x1 x2 x3 x4 σ else am_g (am_in x4 24) <| (if (σ 105 x4.toNatClampNeg) = (4 : Int32) then fm_open_b70 x1 x2 x3 x4 σ else (fm_finding (5 : Int32) σ).bind fun q4 => some (q4.1, q4.2)))
set_option maxRecDepth 100000 in
theorem fm_open_b47_e {X : Nat} {xs : Nat → Int32} {d : Nat} {x1 : Int32} {x2 : Int32} {x3 : Int32} {x4 : Int32} {σ : am_S} {o : Int32 × am_S} (h : fm_open_b47 x1 x2 x3 x4 σ = some o) : am_Ev am_sh (am_exx X xs) (d + 1) mm_195 47 [.ref 85, .int x1, .int x2, .int x3, .int x4] [] σ (some (.int o.1)) o.2 := by
  unfold fm_open_b47 at h
  refine ev_iload (pc' := 49) rfl rfl rfl ?_
  refine ev_iconst (pc' := 50) (b := (-1 : Int32)) rfl rfl rfl ?_
  rcases am_if h with ⟨hc1, h⟩ | ⟨hc1, h⟩
  · refine ev_ic_t (pc' := 70) rfl rfl (cb_eq_t hc1) ?_
    exact fm_open_b70_e h
  · refine ev_ic_f (pc' := 53) rfl (by decide) rfl (cb_eq_f hc1) ?_
    refine ev_aload_n (pc' := 54) rfl rfl rfl ?_
    refine ev_getfield (pc' := 57) (w := .ref 105) rfl rfl rfl rfl ?_
    refine ev_iload (pc' := 59) rfl rfl rfl ?_
    obtain ⟨hg2, h⟩ := am_g_some h
    refine ev_iaload (pc' := 60) rfl rfl rfl hg2 ?_
    refine ev_iconst (pc' := 61) (b := (4 : Int32)) rfl rfl rfl ?_
    rcases am_if h with ⟨hc3, h⟩ | ⟨hc3, h⟩
    · refine ev_ic_t (pc' := 70) rfl rfl (cb_eq_t hc3) ?_
      exact fm_open_b70_e h
    · refine ev_ic_f (pc' := 64) rfl (by decide) rfl (cb_eq_f hc3) ?_
      refine ev_aload_n (pc' := 65) rfl rfl rfl ?_
      refine ev_iconst (pc' := 66) (b := (5 : Int32)) rfl rfl rfl ?_
      refine am_bd h (fun q4 hq4 h => ?_)
      refine ev_call (mi := 159) (as := [.ref 85, .int (5 : Int32)]) (rest := []) rfl rfl (Nat.le_of_ble_eq_true rfl) (fm_finding_e (d := d) hq4) ?_
      show am_Ev _ _ _ _ 69 _ _ _ _ _
      obtain rfl := Option.some.inj h
      exact ev_ireturn rfl rfl
def fm_open (a1 : Int32) (a2 : Int32) (a3 : Int32) (a4 : Int32) (σ : am_S) : Option (Int32 × am_S) := (if (fm_isParish a1 σ) = 0 then fm_open_b41 σ else (if (fm_isPerson a2 σ) = 0 then fm_open_b41 σ else (if (fm_isIn a3 (1 : Int32) (9 : Int32) σ) = 0 then fm_open_b41 σ else (if a4 = (-1 : Int32) then fm_open_b47 a1 a2 a3 a4 σ else (if (fm_isThing a4 σ) = 0 then fm_open_b41 σ else fm_open_b47 a1 a2 a3 a4 σ)))))
set_option maxRecDepth 100000 in
theorem fm_open_e {X : Nat} {xs : Nat → Int32} {d : Nat} {a1 : Int32} {a2 : Int32} {a3 : Int32} {a4 : Int32} {σ : am_S} {o : Int32 × am_S} (h : fm_open a1 a2 a3 a4 σ = some o) : am_Ev am_sh (am_exx X xs) (d + 1) mm_195 0 [.ref 85, .int a1, .int a2, .int a3, .int a4] [] σ (some (.int o.1)) o.2 := by
  unfold fm_open at h
  refine ev_aload_n (pc' := 1) rfl rfl rfl ?_
  refine ev_iload_n (pc' := 2) rfl rfl rfl ?_
  refine ev_call (mi := 181) (as := [.ref 85, .int a1]) (rest := []) rfl rfl (Nat.le_of_ble_eq_true rfl) (fm_isParish_e (d := d) rfl) ?_
  show am_Ev _ _ _ _ 5 _ _ _ _ _
  rcases am_if h with ⟨hc1, h⟩ | ⟨hc1, h⟩
  · refine ev_if_t (pc' := 41) rfl rfl (cb_eq_t hc1) ?_
    exact fm_open_b41_e h
  · refine ev_if_f (pc' := 8) rfl (by decide) rfl (cb_eq_f hc1) ?_
    refine ev_aload_n (pc' := 9) rfl rfl rfl ?_
    refine ev_iload_n (pc' := 10) rfl rfl rfl ?_
    refine ev_call (mi := 192) (as := [.ref 85, .int a2]) (rest := []) rfl rfl (Nat.le_of_ble_eq_true rfl) (fm_isPerson_e (d := d) rfl) ?_
    show am_Ev _ _ _ _ 13 _ _ _ _ _
    rcases am_if h with ⟨hc2, h⟩ | ⟨hc2, h⟩
    · refine ev_if_t (pc' := 41) rfl rfl (cb_eq_t hc2) ?_
      exact fm_open_b41_e h
    · refine ev_if_f (pc' := 16) rfl (by decide) rfl (cb_eq_f hc2) ?_
      refine ev_iload_n (pc' := 17) rfl rfl rfl ?_
      refine ev_iconst (pc' := 18) (b := (1 : Int32)) rfl rfl rfl ?_
      refine ev_bipush (pc' := 20) (b := (9 : Int32)) rfl rfl rfl ?_
      refine ev_call (mi := 170) (as := [.int a3, .int (1 : Int32), .int (9 : Int32)]) (rest := []) rfl rfl (Nat.le_of_ble_eq_true rfl) (fm_isIn_e (d := d) rfl) ?_
      show am_Ev _ _ _ _ 23 _ _ _ _ _
      rcases am_if h with ⟨hc3, h⟩ | ⟨hc3, h⟩
      · refine ev_if_t (pc' := 41) rfl rfl (cb_eq_t hc3) ?_
        exact fm_open_b41_e h
      · refine ev_if_f (pc' := 26) rfl (by decide) rfl (cb_eq_f hc3) ?_
        refine ev_iload (pc' := 28) rfl rfl rfl ?_
        refine ev_iconst (pc' := 29) (b := (-1 : Int32)) rfl rfl rfl ?_
        rcases am_if h with ⟨hc4, h⟩ | ⟨hc4, h⟩
        · refine ev_ic_t (pc' := 47) rfl rfl (cb_eq_t hc4) ?_
          exact fm_open_b47_e h
        · refine ev_ic_f (pc' := 32) rfl (by decide) rfl (cb_eq_f hc4) ?_
          refine ev_aload_n (pc' := 33) rfl rfl rfl ?_
          refine ev_iload (pc' := 35) rfl rfl rfl ?_
          refine ev_call (mi := 203) (as := [.ref 85, .int a4]) (rest := []) rfl rfl (Nat.le_of_ble_eq_true rfl) (fm_isThing_e (d := d) rfl) ?_
          show am_Ev _ _ _ _ 38 _ _ _ _ _
          rcases am_if h with ⟨hc5, h⟩ | ⟨hc5, h⟩
          · refine ev_if_f (pc' := 41) rfl (by decide) rfl (cb_ne_f hc5) ?_
            exact fm_open_b41_e h
          · refine ev_if_t (pc' := 47) rfl rfl (cb_ne_t hc5) ?_
            exact fm_open_b47_e h
/-! PartedLandModel.copy (85, 'I'): S -/
def fm_copy (a1 : Int32) (σ : am_S) : Option (Int32 × am_S) := (if (fm_isThing a1 σ) = 0 then (fm_finding (1 : Int32) σ).bind fun q2 => some (q2.1, q2.2) else am_g (am_in a1 24) <| (if (σ 105 a1.toNatClampNeg) = (4 : Int32) then am_g (am_in a1 24) <| (if (σ 108 a1.toNatClampNeg) = 0 then am_g (am_in a1 24) <| some ((1 : Int32), (am_up σ 108 a1.toNatClampNeg (1 : Int32))) else (fm_finding (3 : Int32) σ).bind fun q8 => some (q8.1, q8.2)) else (fm_finding (5 : Int32) σ).bind fun q9 => some (q9.1, q9.2)))
set_option maxRecDepth 100000 in
theorem fm_copy_e {X : Nat} {xs : Nat → Int32} {d : Nat} {a1 : Int32} {σ : am_S} {o : Int32 × am_S} (h : fm_copy a1 σ = some o) : am_Ev am_sh (am_exx X xs) (d + 1) mm_196 0 [.ref 85, .int a1] [] σ (some (.int o.1)) o.2 := by
  unfold fm_copy at h
  refine ev_aload_n (pc' := 1) rfl rfl rfl ?_
  refine ev_iload_n (pc' := 2) rfl rfl rfl ?_
  refine ev_call (mi := 203) (as := [.ref 85, .int a1]) (rest := []) rfl rfl (Nat.le_of_ble_eq_true rfl) (fm_isThing_e (d := d) rfl) ?_
  show am_Ev _ _ _ _ 5 _ _ _ _ _
  rcases am_if h with ⟨hc1, h⟩ | ⟨hc1, h⟩
  · refine ev_if_f (pc' := 8) rfl (by decide) rfl (cb_ne_f hc1) ?_
    refine ev_aload_n (pc' := 9) rfl rfl rfl ?_
    refine ev_iconst (pc' := 10) (b := (1 : Int32)) rfl rfl rfl ?_
    refine am_bd h (fun q2 hq2 h => ?_)
    refine ev_call (mi := 159) (as := [.ref 85, .int (1 : Int32)]) (rest := []) rfl rfl (Nat.le_of_ble_eq_true rfl) (fm_finding_e (d := d) hq2) ?_
    show am_Ev _ _ _ _ 13 _ _ _ _ _
    obtain rfl := Option.some.inj h
    exact ev_ireturn rfl rfl
  · refine ev_if_t (pc' := 14) rfl rfl (cb_ne_t hc1) ?_
    refine ev_aload_n (pc' := 15) rfl rfl rfl ?_
    refine ev_getfield (pc' := 18) (w := .ref 105) rfl rfl rfl rfl ?_
    refine ev_iload_n (pc' := 19) rfl rfl rfl ?_
    obtain ⟨hg3, h⟩ := am_g_some h
    refine ev_iaload (pc' := 20) rfl rfl rfl hg3 ?_
    refine ev_iconst (pc' := 21) (b := (4 : Int32)) rfl rfl rfl ?_
    rcases am_if h with ⟨hc4, h⟩ | ⟨hc4, h⟩
    · refine ev_ic_t (pc' := 30) rfl rfl (cb_eq_t hc4) ?_
      refine ev_aload_n (pc' := 31) rfl rfl rfl ?_
      refine ev_getfield (pc' := 34) (w := .ref 108) rfl rfl rfl rfl ?_
      refine ev_iload_n (pc' := 35) rfl rfl rfl ?_
      obtain ⟨hg5, h⟩ := am_g_some h
      refine ev_baload (pc' := 36) rfl rfl rfl hg5 ?_
      rcases am_if h with ⟨hc6, h⟩ | ⟨hc6, h⟩
      · refine ev_if_t (pc' := 45) rfl rfl (cb_eq_t hc6) ?_
        refine ev_aload_n (pc' := 46) rfl rfl rfl ?_
        refine ev_getfield (pc' := 49) (w := .ref 108) rfl rfl rfl rfl ?_
        refine ev_iload_n (pc' := 50) rfl rfl rfl ?_
        refine ev_iconst (pc' := 51) (b := (1 : Int32)) rfl rfl rfl ?_
        obtain ⟨hg7, h⟩ := am_g_some h
        refine ev_bastore (pc' := 52) rfl rfl rfl rfl hg7 ?_
        refine ev_iconst (pc' := 53) (b := (1 : Int32)) rfl rfl rfl ?_
        obtain rfl := Option.some.inj h
        exact ev_ireturn rfl rfl
      · refine ev_if_f (pc' := 39) rfl (by decide) rfl (cb_eq_f hc6) ?_
        refine ev_aload_n (pc' := 40) rfl rfl rfl ?_
        refine ev_iconst (pc' := 41) (b := (3 : Int32)) rfl rfl rfl ?_
        refine am_bd h (fun q8 hq8 h => ?_)
        refine ev_call (mi := 159) (as := [.ref 85, .int (3 : Int32)]) (rest := []) rfl rfl (Nat.le_of_ble_eq_true rfl) (fm_finding_e (d := d) hq8) ?_
        show am_Ev _ _ _ _ 44 _ _ _ _ _
        obtain rfl := Option.some.inj h
        exact ev_ireturn rfl rfl
    · refine ev_ic_f (pc' := 24) rfl (by decide) rfl (cb_eq_f hc4) ?_
      refine ev_aload_n (pc' := 25) rfl rfl rfl ?_
      refine ev_iconst (pc' := 26) (b := (5 : Int32)) rfl rfl rfl ?_
      refine am_bd h (fun q9 hq9 h => ?_)
      refine ev_call (mi := 159) (as := [.ref 85, .int (5 : Int32)]) (rest := []) rfl rfl (Nat.le_of_ble_eq_true rfl) (fm_finding_e (d := d) hq9) ?_
      show am_Ev _ _ _ _ 29 _ _ _ _ _
      obtain rfl := Option.some.inj h
      exact ev_ireturn rfl rfl
/-! PartedLandModel.isCase (85, 'I'): T -/
def fm_isCase (a1 : Int32) (σ : am_S) : Int32 := (if a1 < 0 then (0 : Int32) else (if (σ 85 42) ≤ a1 then (0 : Int32) else (1 : Int32)))
set_option maxRecDepth 100000 in
theorem fm_isCase_e {X : Nat} {xs : Nat → Int32} {d : Nat} {a1 : Int32} {σ : am_S} {o : Int32} (h : fm_isCase a1 σ = o) : am_Ev am_sh (am_exx X xs) (d + 0) mm_194 0 [.ref 85, .int a1] [] σ (some (.int o)) σ := by
  unfold fm_isCase at h
  refine ev_iload_n (pc' := 1) rfl rfl rfl ?_
  rcases am_if h with ⟨hc1, h⟩ | ⟨hc1, h⟩
  · refine ev_if_t (pc' := 16) rfl rfl (cb_lt_t hc1) ?_
    refine ev_iconst (pc' := 17) (b := (0 : Int32)) rfl rfl rfl ?_
    subst h
    exact ev_zreturn rfl rfl rfl
  · refine ev_if_f (pc' := 4) rfl (by decide) rfl (cb_lt_f hc1) ?_
    refine ev_iload_n (pc' := 5) rfl rfl rfl ?_
    refine ev_aload_n (pc' := 6) rfl rfl rfl ?_
    refine ev_getfield (pc' := 9) (w := .int (σ 85 42)) rfl rfl rfl rfl ?_
    rcases am_if h with ⟨hc2, h⟩ | ⟨hc2, h⟩
    · refine ev_ic_t (pc' := 16) rfl rfl (cb_ge_t hc2) ?_
      refine ev_iconst (pc' := 17) (b := (0 : Int32)) rfl rfl rfl ?_
      subst h
      exact ev_zreturn rfl rfl rfl
    · refine ev_ic_f (pc' := 12) rfl (by decide) rfl (cb_ge_f hc2) ?_
      refine ev_iconst (pc' := 13) (b := (1 : Int32)) rfl rfl rfl ?_
      refine ev_goto (pc' := 17) rfl rfl ?_
      subst h
      exact ev_zreturn rfl rfl rfl
/-! PartedLandModel.courtOf (85, 'I'): S -/
def fm_courtOf (N : Nat) (a1 : Int32) (σ : am_S) : Option (Int32 × am_S) := (fm_readLaw N (2 : Int32) σ).bind fun q1 => am_g (am_in a1 10) <| (fm_sideOf N (q1.2 116 a1.toNatClampNeg) q1.2).bind fun q3 => am_g (am_in a1 10) <| (if (q1.2 118 a1.toNatClampNeg) < (q1.2 85 59) then am_g (am_in a1 10) <| (fm_whoseBy N (q1.2 117 a1.toNatClampNeg) q1.2).bind fun q7 => (if 0 ≤ q7 then some (q7, q1.2) else some (q3, q1.2)) else some (q3, q1.2))
set_option maxRecDepth 100000 in
theorem fm_courtOf_e {X : Nat} {xs : Nat → Int32} {d : Nat} {N : Nat} {a1 : Int32} {σ : am_S} {o : Int32 × am_S} (h : fm_courtOf N a1 σ = some o) : am_Ev am_sh (am_exx X xs) (d + 3) mm_197 0 [.ref 85, .int a1, .null, .null, .null] [] σ (some (.int o.1)) o.2 := by
  unfold fm_courtOf at h
  refine ev_aload_n (pc' := 1) rfl rfl rfl ?_
  refine ev_iconst (pc' := 2) (b := (2 : Int32)) rfl rfl rfl ?_
  refine am_bd h (fun q1 hq1 h => ?_)
  refine ev_call (mi := 155) (as := [.ref 85, .int (2 : Int32)]) (rest := []) rfl rfl (Nat.le_of_ble_eq_true rfl) (fm_readLaw_e (d := d) hq1) ?_
  show am_Ev _ _ _ _ 5 _ _ _ _ _
  refine ev_istore_n (pc' := 6) (L' := [.ref 85, .int a1, .int q1.1, .null, .null]) rfl rfl rfl rfl ?_
  refine ev_aload_n (pc' := 7) rfl rfl rfl ?_
  refine ev_aload_n (pc' := 8) rfl rfl rfl ?_
  refine ev_getfield (pc' := 11) (w := .ref 116) rfl rfl rfl rfl ?_
  refine ev_iload_n (pc' := 12) rfl rfl rfl ?_
  obtain ⟨hg2, h⟩ := am_g_some h
  refine ev_iaload (pc' := 13) rfl rfl rfl hg2 ?_
  refine am_bd h (fun q3 hq3 h => ?_)
  refine ev_call (mi := 143) (as := [.ref 85, .int (q1.2 116 a1.toNatClampNeg)]) (rest := []) rfl rfl (Nat.le_of_ble_eq_true rfl) (fm_sideOf_e (d := d + 1) hq3) ?_
  show am_Ev _ _ _ _ 16 _ _ _ _ _
  refine ev_istore_n (pc' := 17) (L' := [.ref 85, .int a1, .int q1.1, .int q3, .null]) rfl rfl rfl rfl ?_
  refine ev_aload_n (pc' := 18) rfl rfl rfl ?_
  refine ev_getfield (pc' := 21) (w := .ref 118) rfl rfl rfl rfl ?_
  refine ev_iload_n (pc' := 22) rfl rfl rfl ?_
  obtain ⟨hg4, h⟩ := am_g_some h
  refine ev_iaload (pc' := 23) rfl rfl rfl hg4 ?_
  refine ev_aload_n (pc' := 24) rfl rfl rfl ?_
  refine ev_getfield (pc' := 27) (w := .int (q1.2 85 59)) rfl rfl rfl rfl ?_
  rcases am_if h with ⟨hc5, h⟩ | ⟨hc5, h⟩
  · refine ev_ic_t (pc' := 32) rfl rfl (cb_lt_t hc5) ?_
    refine ev_aload_n (pc' := 33) rfl rfl rfl ?_
    refine ev_aload_n (pc' := 34) rfl rfl rfl ?_
    refine ev_getfield (pc' := 37) (w := .ref 117) rfl rfl rfl rfl ?_
    refine ev_iload_n (pc' := 38) rfl rfl rfl ?_
    obtain ⟨hg6, h⟩ := am_g_some h
    refine ev_iaload (pc' := 39) rfl rfl rfl hg6 ?_
    refine am_bd h (fun q7 hq7 h => ?_)
    refine ev_call (mi := 156) (as := [.ref 85, .int (q1.2 117 a1.toNatClampNeg)]) (rest := []) rfl rfl (Nat.le_of_ble_eq_true rfl) (fm_whoseBy_e (d := d) hq7) ?_
    show am_Ev _ _ _ _ 42 _ _ _ _ _
    refine ev_istore (pc' := 44) (L' := [.ref 85, .int a1, .int q1.1, .int q3, .int q7]) rfl rfl rfl rfl ?_
    refine ev_iload (pc' := 46) rfl rfl rfl ?_
    rcases am_if h with ⟨hc8, h⟩ | ⟨hc8, h⟩
    · refine ev_if_t (pc' := 53) rfl rfl (cb_ge_t hc8) ?_
      refine ev_iload (pc' := 55) rfl rfl rfl ?_
      obtain rfl := Option.some.inj h
      exact ev_ireturn rfl rfl
    · refine ev_if_f (pc' := 49) rfl (by decide) rfl (cb_ge_f hc8) ?_
      refine ev_iload_n (pc' := 50) rfl rfl rfl ?_
      refine ev_goto (pc' := 55) rfl rfl ?_
      obtain rfl := Option.some.inj h
      exact ev_ireturn rfl rfl
  · refine ev_ic_f (pc' := 30) rfl (by decide) rfl (cb_lt_f hc5) ?_
    refine ev_iload_n (pc' := 31) rfl rfl rfl ?_
    obtain rfl := Option.some.inj h
    exact ev_ireturn rfl rfl
/-! PartedLandModel.court (85, 'I'): S -/
def fm_court (N : Nat) (a1 : Int32) (σ : am_S) : Option (Int32 × am_S) := (if (fm_isCase a1 σ) = 0 then (fm_finding (1 : Int32) σ).bind fun q2 => some (q2.1, q2.2) else (fm_courtOf N a1 σ).bind fun q3 => some (q3.1, q3.2))
set_option maxRecDepth 100000 in
theorem fm_court_e {X : Nat} {xs : Nat → Int32} {d : Nat} {N : Nat} {a1 : Int32} {σ : am_S} {o : Int32 × am_S} (h : fm_court N a1 σ = some o) : am_Ev am_sh (am_exx X xs) (d + 4) mm_198 0 [.ref 85, .int a1] [] σ (some (.int o.1)) o.2 := by
  unfold fm_court at h
  refine ev_aload_n (pc' := 1) rfl rfl rfl ?_
  refine ev_iload_n (pc' := 2) rfl rfl rfl ?_
  refine ev_call (mi := 194) (as := [.ref 85, .int a1]) (rest := []) rfl rfl (Nat.le_of_ble_eq_true rfl) (fm_isCase_e (d := d + 3) rfl) ?_
  show am_Ev _ _ _ _ 5 _ _ _ _ _
  rcases am_if h with ⟨hc1, h⟩ | ⟨hc1, h⟩
  · refine ev_if_t (pc' := 16) rfl rfl (cb_eq_t hc1) ?_
    refine ev_aload_n (pc' := 17) rfl rfl rfl ?_
    refine ev_iconst (pc' := 18) (b := (1 : Int32)) rfl rfl rfl ?_
    refine am_bd h (fun q2 hq2 h => ?_)
    refine ev_call (mi := 159) (as := [.ref 85, .int (1 : Int32)]) (rest := []) rfl rfl (Nat.le_of_ble_eq_true rfl) (fm_finding_e (d := d + 3) hq2) ?_
    show am_Ev _ _ _ _ 21 _ _ _ _ _
    obtain rfl := Option.some.inj h
    exact ev_ireturn rfl rfl
  · refine ev_if_f (pc' := 8) rfl (by decide) rfl (cb_eq_f hc1) ?_
    refine ev_aload_n (pc' := 9) rfl rfl rfl ?_
    refine ev_iload_n (pc' := 10) rfl rfl rfl ?_
    refine am_bd h (fun q3 hq3 h => ?_)
    refine ev_call (mi := 197) (as := [.ref 85, .int a1]) (rest := []) rfl rfl (Nat.le_of_ble_eq_true rfl) (fm_courtOf_e (d := d) hq3) ?_
    show am_Ev _ _ _ _ 13 _ _ _ _ _
    refine ev_goto (pc' := 21) rfl rfl ?_
    obtain rfl := Option.some.inj h
    exact ev_ireturn rfl rfl
/-! PartedLandModel.waits (85, 'I'): S -/
def fm_waits_b34 (N : Nat) (σ : am_S) : Option (Int32 × am_S) := (fm_finding (2 : Int32) σ).bind fun q1 => some (q1.1, q1.2)
set_option maxRecDepth 100000 in
theorem fm_waits_b34_e {X : Nat} {xs : Nat → Int32} {d : Nat} {N : Nat} {w1 : Value} {w2 : Value} {w3 : Value} {σ : am_S} {o : Int32 × am_S} (h : fm_waits_b34 N σ = some o) : am_Ev am_sh (am_exx X xs) (d + 5) mm_199 34 [.ref 85, w1, w2, w3] [] σ (some (.int o.1)) o.2 := by
  unfold fm_waits_b34 at h
  refine ev_aload_n (pc' := 35) rfl rfl rfl ?_
  refine ev_iconst (pc' := 36) (b := (2 : Int32)) rfl rfl rfl ?_
  refine am_bd h (fun q1 hq1 h => ?_)
  refine ev_call (mi := 159) (as := [.ref 85, .int (2 : Int32)]) (rest := []) rfl rfl (Nat.le_of_ble_eq_true rfl) (fm_finding_e (d := d + 4) hq1) ?_
  show am_Ev _ _ _ _ 39 _ _ _ _ _
  obtain rfl := Option.some.inj h
  exact ev_ireturn rfl rfl
def fm_waits (N : Nat) (a1 : Int32) (σ : am_S) : Option (Int32 × am_S) := (if (fm_isCase a1 σ) = 0 then (fm_finding (1 : Int32) σ).bind fun q2 => some (q2.1, q2.2) else am_g (am_in a1 10) <| (if (σ 119 a1.toNatClampNeg) < 0 then fm_waits_b34 N σ else am_g (am_in (σ 119 a1.toNatClampNeg) 24) <| (if (σ 108 (σ 119 a1.toNatClampNeg).toNatClampNeg) = 0 then (fm_whereOf N (σ 119 a1.toNatClampNeg) σ).bind fun q7 => (if q7.1 = (-2 : Int32) then (fm_finding (3 : Int32) q7.2).bind fun q9 => some (q9.1, q9.2) else (fm_courtOf N a1 q7.2).bind fun q10 => (if q7.1 = q10.1 then (fm_finding (2 : Int32) q10.2).bind fun q12 => some (q12.1, q12.2) else some ((σ 119 a1.toNatClampNeg), q10.2))) else fm_waits_b34 N σ)))
set_option maxRecDepth 100000 in
theorem fm_waits_e {X : Nat} {xs : Nat → Int32} {d : Nat} {N : Nat} {a1 : Int32} {σ : am_S} {o : Int32 × am_S} (h : fm_waits N a1 σ = some o) : am_Ev am_sh (am_exx X xs) (d + 5) mm_199 0 [.ref 85, .int a1, .null, .null] [] σ (some (.int o.1)) o.2 := by
  unfold fm_waits at h
  refine ev_aload_n (pc' := 1) rfl rfl rfl ?_
  refine ev_iload_n (pc' := 2) rfl rfl rfl ?_
  refine ev_call (mi := 194) (as := [.ref 85, .int a1]) (rest := []) rfl rfl (Nat.le_of_ble_eq_true rfl) (fm_isCase_e (d := d + 4) rfl) ?_
  show am_Ev _ _ _ _ 5 _ _ _ _ _
  rcases am_if h with ⟨hc1, h⟩ | ⟨hc1, h⟩
  · refine ev_if_f (pc' := 8) rfl (by decide) rfl (cb_ne_f hc1) ?_
    refine ev_aload_n (pc' := 9) rfl rfl rfl ?_
    refine ev_iconst (pc' := 10) (b := (1 : Int32)) rfl rfl rfl ?_
    refine am_bd h (fun q2 hq2 h => ?_)
    refine ev_call (mi := 159) (as := [.ref 85, .int (1 : Int32)]) (rest := []) rfl rfl (Nat.le_of_ble_eq_true rfl) (fm_finding_e (d := d + 4) hq2) ?_
    show am_Ev _ _ _ _ 13 _ _ _ _ _
    obtain rfl := Option.some.inj h
    exact ev_ireturn rfl rfl
  · refine ev_if_t (pc' := 14) rfl rfl (cb_ne_t hc1) ?_
    refine ev_aload_n (pc' := 15) rfl rfl rfl ?_
    refine ev_getfield (pc' := 18) (w := .ref 119) rfl rfl rfl rfl ?_
    refine ev_iload_n (pc' := 19) rfl rfl rfl ?_
    obtain ⟨hg3, h⟩ := am_g_some h
    refine ev_iaload (pc' := 20) rfl rfl rfl hg3 ?_
    refine ev_istore_n (pc' := 21) (L' := [.ref 85, .int a1, .int (σ 119 a1.toNatClampNeg), .null]) rfl rfl rfl rfl ?_
    refine ev_iload_n (pc' := 22) rfl rfl rfl ?_
    rcases am_if h with ⟨hc4, h⟩ | ⟨hc4, h⟩
    · refine ev_if_t (pc' := 34) rfl rfl (cb_lt_t hc4) ?_
      exact fm_waits_b34_e h
    · refine ev_if_f (pc' := 25) rfl (by decide) rfl (cb_lt_f hc4) ?_
      refine ev_aload_n (pc' := 26) rfl rfl rfl ?_
      refine ev_getfield (pc' := 29) (w := .ref 108) rfl rfl rfl rfl ?_
      refine ev_iload_n (pc' := 30) rfl rfl rfl ?_
      obtain ⟨hg5, h⟩ := am_g_some h
      refine ev_baload (pc' := 31) rfl rfl rfl hg5 ?_
      rcases am_if h with ⟨hc6, h⟩ | ⟨hc6, h⟩
      · refine ev_if_t (pc' := 40) rfl rfl (cb_eq_t hc6) ?_
        refine ev_aload_n (pc' := 41) rfl rfl rfl ?_
        refine ev_iload_n (pc' := 42) rfl rfl rfl ?_
        refine am_bd h (fun q7 hq7 h => ?_)
        refine ev_call (mi := 177) (as := [.ref 85, .int (σ 119 a1.toNatClampNeg)]) (rest := []) rfl rfl (Nat.le_of_ble_eq_true rfl) (fm_whereOf_e (d := d) hq7) ?_
        show am_Ev _ _ _ _ 45 _ _ _ _ _
        refine ev_istore_n (pc' := 46) (L' := [.ref 85, .int a1, .int (σ 119 a1.toNatClampNeg), .int q7.1]) rfl rfl rfl rfl ?_
        refine ev_iload_n (pc' := 47) rfl rfl rfl ?_
        refine ev_bipush (pc' := 49) (b := (-2 : Int32)) rfl rfl rfl ?_
        rcases am_if h with ⟨hc8, h⟩ | ⟨hc8, h⟩
        · refine ev_ic_f (pc' := 52) rfl (by decide) rfl (cb_ne_f hc8) ?_
          refine ev_aload_n (pc' := 53) rfl rfl rfl ?_
          refine ev_iconst (pc' := 54) (b := (3 : Int32)) rfl rfl rfl ?_
          refine am_bd h (fun q9 hq9 h => ?_)
          refine ev_call (mi := 159) (as := [.ref 85, .int (3 : Int32)]) (rest := []) rfl rfl (Nat.le_of_ble_eq_true rfl) (fm_finding_e (d := d + 4) hq9) ?_
          show am_Ev _ _ _ _ 57 _ _ _ _ _
          obtain rfl := Option.some.inj h
          exact ev_ireturn rfl rfl
        · refine ev_ic_t (pc' := 58) rfl rfl (cb_ne_t hc8) ?_
          refine ev_iload_n (pc' := 59) rfl rfl rfl ?_
          refine ev_aload_n (pc' := 60) rfl rfl rfl ?_
          refine ev_iload_n (pc' := 61) rfl rfl rfl ?_
          refine am_bd h (fun q10 hq10 h => ?_)
          refine ev_call (mi := 197) (as := [.ref 85, .int a1]) (rest := [.int q7.1]) rfl rfl (Nat.le_of_ble_eq_true rfl) (fm_courtOf_e (d := d + 1) hq10) ?_
          show am_Ev _ _ _ _ 64 _ _ _ _ _
          rcases am_if h with ⟨hc11, h⟩ | ⟨hc11, h⟩
          · refine ev_ic_f (pc' := 67) rfl (by decide) rfl (cb_ne_f hc11) ?_
            refine ev_aload_n (pc' := 68) rfl rfl rfl ?_
            refine ev_iconst (pc' := 69) (b := (2 : Int32)) rfl rfl rfl ?_
            refine am_bd h (fun q12 hq12 h => ?_)
            refine ev_call (mi := 159) (as := [.ref 85, .int (2 : Int32)]) (rest := []) rfl rfl (Nat.le_of_ble_eq_true rfl) (fm_finding_e (d := d + 4) hq12) ?_
            show am_Ev _ _ _ _ 72 _ _ _ _ _
            refine ev_goto (pc' := 76) rfl rfl ?_
            obtain rfl := Option.some.inj h
            exact ev_ireturn rfl rfl
          · refine ev_ic_t (pc' := 75) rfl rfl (cb_ne_t hc11) ?_
            refine ev_iload_n (pc' := 76) rfl rfl rfl ?_
            obtain rfl := Option.some.inj h
            exact ev_ireturn rfl rfl
      · refine ev_if_f (pc' := 34) rfl (by decide) rfl (cb_eq_f hc6) ?_
        exact fm_waits_b34_e h
/-! PartedLandModel.task (85, 'I'): S -/
def fm_task (a1 : Int32) (σ : am_S) : Option (Int32 × am_S) := (if (fm_isIn a1 (1 : Int32) (200 : Int32) σ) = 0 then (fm_finding (1 : Int32) σ).bind fun q2 => some (q2.1, q2.2) else (if (σ 85 47) = (9 : Int32) then (fm_finding (4 : Int32) σ).bind fun q4 => some (q4.1, q4.2) else am_g (am_in (σ 85 47) 9) <| am_g (am_in (σ 85 47) 9) <| some ((((σ 85 47) + (1 : Int32)) - (1 : Int32)), (am_up (am_up (am_up σ 120 (σ 85 47).toNatClampNeg a1) 121 (σ 85 47).toNatClampNeg (0 : Int32)) 85 47 ((σ 85 47) + (1 : Int32))))))
set_option maxRecDepth 100000 in
theorem fm_task_e {X : Nat} {xs : Nat → Int32} {d : Nat} {a1 : Int32} {σ : am_S} {o : Int32 × am_S} (h : fm_task a1 σ = some o) : am_Ev am_sh (am_exx X xs) (d + 1) mm_201 0 [.ref 85, .int a1] [] σ (some (.int o.1)) o.2 := by
  unfold fm_task at h
  refine ev_iload_n (pc' := 1) rfl rfl rfl ?_
  refine ev_iconst (pc' := 2) (b := (1 : Int32)) rfl rfl rfl ?_
  refine ev_sipush (pc' := 5) (b := (200 : Int32)) rfl rfl rfl ?_
  refine ev_call (mi := 170) (as := [.int a1, .int (1 : Int32), .int (200 : Int32)]) (rest := []) rfl rfl (Nat.le_of_ble_eq_true rfl) (fm_isIn_e (d := d) rfl) ?_
  show am_Ev _ _ _ _ 8 _ _ _ _ _
  rcases am_if h with ⟨hc1, h⟩ | ⟨hc1, h⟩
  · refine ev_if_f (pc' := 11) rfl (by decide) rfl (cb_ne_f hc1) ?_
    refine ev_aload_n (pc' := 12) rfl rfl rfl ?_
    refine ev_iconst (pc' := 13) (b := (1 : Int32)) rfl rfl rfl ?_
    refine am_bd h (fun q2 hq2 h => ?_)
    refine ev_call (mi := 159) (as := [.ref 85, .int (1 : Int32)]) (rest := []) rfl rfl (Nat.le_of_ble_eq_true rfl) (fm_finding_e (d := d) hq2) ?_
    show am_Ev _ _ _ _ 16 _ _ _ _ _
    obtain rfl := Option.some.inj h
    exact ev_ireturn rfl rfl
  · refine ev_if_t (pc' := 17) rfl rfl (cb_ne_t hc1) ?_
    refine ev_aload_n (pc' := 18) rfl rfl rfl ?_
    refine ev_getfield (pc' := 21) (w := .int (σ 85 47)) rfl rfl rfl rfl ?_
    refine ev_bipush (pc' := 23) (b := (9 : Int32)) rfl rfl rfl ?_
    rcases am_if h with ⟨hc3, h⟩ | ⟨hc3, h⟩
    · refine ev_ic_f (pc' := 26) rfl (by decide) rfl (cb_ne_f hc3) ?_
      refine ev_aload_n (pc' := 27) rfl rfl rfl ?_
      refine ev_iconst (pc' := 28) (b := (4 : Int32)) rfl rfl rfl ?_
      refine am_bd h (fun q4 hq4 h => ?_)
      refine ev_call (mi := 159) (as := [.ref 85, .int (4 : Int32)]) (rest := []) rfl rfl (Nat.le_of_ble_eq_true rfl) (fm_finding_e (d := d) hq4) ?_
      show am_Ev _ _ _ _ 31 _ _ _ _ _
      obtain rfl := Option.some.inj h
      exact ev_ireturn rfl rfl
    · refine ev_ic_t (pc' := 32) rfl rfl (cb_ne_t hc3) ?_
      refine ev_aload_n (pc' := 33) rfl rfl rfl ?_
      refine ev_getfield (pc' := 36) (w := .ref 120) rfl rfl rfl rfl ?_
      refine ev_aload_n (pc' := 37) rfl rfl rfl ?_
      refine ev_getfield (pc' := 40) (w := .int (σ 85 47)) rfl rfl rfl rfl ?_
      refine ev_iload_n (pc' := 41) rfl rfl rfl ?_
      obtain ⟨hg5, h⟩ := am_g_some h
      refine ev_iastore (pc' := 42) rfl rfl rfl hg5 ?_
      refine ev_aload_n (pc' := 43) rfl rfl rfl ?_
      refine ev_getfield (pc' := 46) (w := .ref 121) rfl rfl rfl rfl ?_
      refine ev_aload_n (pc' := 47) rfl rfl rfl ?_
      refine ev_getfield (pc' := 50) (w := .int (σ 85 47)) rfl rfl rfl rfl ?_
      refine ev_iconst (pc' := 51) (b := (0 : Int32)) rfl rfl rfl ?_
      obtain ⟨hg6, h⟩ := am_g_some h
      refine ev_iastore (pc' := 52) rfl rfl rfl hg6 ?_
      refine ev_aload_n (pc' := 53) rfl rfl rfl ?_
      refine ev_dup (pc' := 54) rfl rfl ?_
      refine ev_getfield (pc' := 57) (w := .int (σ 85 47)) rfl rfl rfl rfl ?_
      refine ev_iconst (pc' := 58) (b := (1 : Int32)) rfl rfl rfl ?_
      refine ev_iadd (pc' := 59) rfl rfl ?_
      refine ev_putfield (pc' := 62) (ci := 11) (f := 47) (z := 0) rfl rfl rfl rfl rfl ?_
      refine ev_aload_n (pc' := 63) rfl rfl rfl ?_
      refine ev_getfield (pc' := 66) (w := .int ((σ 85 47) + (1 : Int32))) rfl rfl rfl rfl ?_
      refine ev_iconst (pc' := 67) (b := (1 : Int32)) rfl rfl rfl ?_
      refine ev_isub (pc' := 68) rfl rfl ?_
      obtain rfl := Option.some.inj h
      exact ev_ireturn rfl rfl
/-! PartedLandModel.isTask (85, 'I'): T -/
def fm_isTask (a1 : Int32) (σ : am_S) : Int32 := (if a1 < 0 then (0 : Int32) else (if (σ 85 47) ≤ a1 then (0 : Int32) else (1 : Int32)))
set_option maxRecDepth 100000 in
theorem fm_isTask_e {X : Nat} {xs : Nat → Int32} {d : Nat} {a1 : Int32} {σ : am_S} {o : Int32} (h : fm_isTask a1 σ = o) : am_Ev am_sh (am_exx X xs) (d + 0) mm_200 0 [.ref 85, .int a1] [] σ (some (.int o)) σ := by
  unfold fm_isTask at h
  refine ev_iload_n (pc' := 1) rfl rfl rfl ?_
  rcases am_if h with ⟨hc1, h⟩ | ⟨hc1, h⟩
  · refine ev_if_t (pc' := 16) rfl rfl (cb_lt_t hc1) ?_
    refine ev_iconst (pc' := 17) (b := (0 : Int32)) rfl rfl rfl ?_
    subst h
    exact ev_zreturn rfl rfl rfl
  · refine ev_if_f (pc' := 4) rfl (by decide) rfl (cb_lt_f hc1) ?_
    refine ev_iload_n (pc' := 5) rfl rfl rfl ?_
    refine ev_aload_n (pc' := 6) rfl rfl rfl ?_
    refine ev_getfield (pc' := 9) (w := .int (σ 85 47)) rfl rfl rfl rfl ?_
    rcases am_if h with ⟨hc2, h⟩ | ⟨hc2, h⟩
    · refine ev_ic_t (pc' := 16) rfl rfl (cb_ge_t hc2) ?_
      refine ev_iconst (pc' := 17) (b := (0 : Int32)) rfl rfl rfl ?_
      subst h
      exact ev_zreturn rfl rfl rfl
    · refine ev_ic_f (pc' := 12) rfl (by decide) rfl (cb_ge_f hc2) ?_
      refine ev_iconst (pc' := 13) (b := (1 : Int32)) rfl rfl rfl ?_
      refine ev_goto (pc' := 17) rfl rfl ?_
      subst h
      exact ev_zreturn rfl rfl rfl
/-! PartedLandModel.ahead (85, 'I', 'I'): S -/
def fm_ahead_b21 (σ : am_S) : Option (Int32 × am_S) := (fm_finding (1 : Int32) σ).bind fun q1 => some (q1.1, q1.2)
set_option maxRecDepth 100000 in
theorem fm_ahead_b21_e {X : Nat} {xs : Nat → Int32} {d : Nat} {w1 : Value} {w2 : Value} {σ : am_S} {o : Int32 × am_S} (h : fm_ahead_b21 σ = some o) : am_Ev am_sh (am_exx X xs) (d + 1) mm_202 21 [.ref 85, w1, w2] [] σ (some (.int o.1)) o.2 := by
  unfold fm_ahead_b21 at h
  refine ev_aload_n (pc' := 22) rfl rfl rfl ?_
  refine ev_iconst (pc' := 23) (b := (1 : Int32)) rfl rfl rfl ?_
  refine am_bd h (fun q1 hq1 h => ?_)
  refine ev_call (mi := 159) (as := [.ref 85, .int (1 : Int32)]) (rest := []) rfl rfl (Nat.le_of_ble_eq_true rfl) (fm_finding_e (d := d) hq1) ?_
  show am_Ev _ _ _ _ 26 _ _ _ _ _
  obtain rfl := Option.some.inj h
  exact ev_ireturn rfl rfl
def fm_ahead (a1 : Int32) (a2 : Int32) (σ : am_S) : Option (Int32 × am_S) := (if (fm_isTask a1 σ) = 0 then fm_ahead_b21 σ else (if (fm_isTask a2 σ) = 0 then fm_ahead_b21 σ else (if a1 = a2 then fm_ahead_b21 σ else am_g (am_in a2 9) <| (if (((σ 121 a2.toNatClampNeg) >>> (a1 &&& 31)) &&& (1 : Int32)) = (1 : Int32) then (fm_finding (3 : Int32) σ).bind fun q6 => some (q6.1, q6.2) else am_g (am_in a2 9) <| am_g (am_in a2 9) <| some ((1 : Int32), (am_up σ 121 a2.toNatClampNeg ((σ 121 a2.toNatClampNeg) ||| ((1 : Int32) <<< (a1 &&& 31)))))))))
set_option maxRecDepth 100000 in
theorem fm_ahead_e {X : Nat} {xs : Nat → Int32} {d : Nat} {a1 : Int32} {a2 : Int32} {σ : am_S} {o : Int32 × am_S} (h : fm_ahead a1 a2 σ = some o) : am_Ev am_sh (am_exx X xs) (d + 1) mm_202 0 [.ref 85, .int a1, .int a2] [] σ (some (.int o.1)) o.2 := by
  unfold fm_ahead at h
  refine ev_aload_n (pc' := 1) rfl rfl rfl ?_
  refine ev_iload_n (pc' := 2) rfl rfl rfl ?_
  refine ev_call (mi := 200) (as := [.ref 85, .int a1]) (rest := []) rfl rfl (Nat.le_of_ble_eq_true rfl) (fm_isTask_e (d := d) rfl) ?_
  show am_Ev _ _ _ _ 5 _ _ _ _ _
  rcases am_if h with ⟨hc1, h⟩ | ⟨hc1, h⟩
  · refine ev_if_t (pc' := 21) rfl rfl (cb_eq_t hc1) ?_
    exact fm_ahead_b21_e h
  · refine ev_if_f (pc' := 8) rfl (by decide) rfl (cb_eq_f hc1) ?_
    refine ev_aload_n (pc' := 9) rfl rfl rfl ?_
    refine ev_iload_n (pc' := 10) rfl rfl rfl ?_
    refine ev_call (mi := 200) (as := [.ref 85, .int a2]) (rest := []) rfl rfl (Nat.le_of_ble_eq_true rfl) (fm_isTask_e (d := d) rfl) ?_
    show am_Ev _ _ _ _ 13 _ _ _ _ _
    rcases am_if h with ⟨hc2, h⟩ | ⟨hc2, h⟩
    · refine ev_if_t (pc' := 21) rfl rfl (cb_eq_t hc2) ?_
      exact fm_ahead_b21_e h
    · refine ev_if_f (pc' := 16) rfl (by decide) rfl (cb_eq_f hc2) ?_
      refine ev_iload_n (pc' := 17) rfl rfl rfl ?_
      refine ev_iload_n (pc' := 18) rfl rfl rfl ?_
      rcases am_if h with ⟨hc3, h⟩ | ⟨hc3, h⟩
      · refine ev_ic_f (pc' := 21) rfl (by decide) rfl (cb_ne_f hc3) ?_
        exact fm_ahead_b21_e h
      · refine ev_ic_t (pc' := 27) rfl rfl (cb_ne_t hc3) ?_
        refine ev_aload_n (pc' := 28) rfl rfl rfl ?_
        refine ev_getfield (pc' := 31) (w := .ref 121) rfl rfl rfl rfl ?_
        refine ev_iload_n (pc' := 32) rfl rfl rfl ?_
        obtain ⟨hg4, h⟩ := am_g_some h
        refine ev_iaload (pc' := 33) rfl rfl rfl hg4 ?_
        refine ev_iload_n (pc' := 34) rfl rfl rfl ?_
        refine ev_ishr (pc' := 35) rfl rfl ?_
        refine ev_iconst (pc' := 36) (b := (1 : Int32)) rfl rfl rfl ?_
        refine ev_iand (pc' := 37) rfl rfl ?_
        refine ev_iconst (pc' := 38) (b := (1 : Int32)) rfl rfl rfl ?_
        rcases am_if h with ⟨hc5, h⟩ | ⟨hc5, h⟩
        · refine ev_ic_f (pc' := 41) rfl (by decide) rfl (cb_ne_f hc5) ?_
          refine ev_aload_n (pc' := 42) rfl rfl rfl ?_
          refine ev_iconst (pc' := 43) (b := (3 : Int32)) rfl rfl rfl ?_
          refine am_bd h (fun q6 hq6 h => ?_)
          refine ev_call (mi := 159) (as := [.ref 85, .int (3 : Int32)]) (rest := []) rfl rfl (Nat.le_of_ble_eq_true rfl) (fm_finding_e (d := d) hq6) ?_
          show am_Ev _ _ _ _ 46 _ _ _ _ _
          obtain rfl := Option.some.inj h
          exact ev_ireturn rfl rfl
        · refine ev_ic_t (pc' := 47) rfl rfl (cb_ne_t hc5) ?_
          refine ev_aload_n (pc' := 48) rfl rfl rfl ?_
          refine ev_getfield (pc' := 51) (w := .ref 121) rfl rfl rfl rfl ?_
          refine ev_iload_n (pc' := 52) rfl rfl rfl ?_
          refine ev_dup2 (pc' := 53) rfl rfl ?_
          obtain ⟨hg7, h⟩ := am_g_some h
          refine ev_iaload (pc' := 54) rfl rfl rfl hg7 ?_
          refine ev_iconst (pc' := 55) (b := (1 : Int32)) rfl rfl rfl ?_
          refine ev_iload_n (pc' := 56) rfl rfl rfl ?_
          refine ev_ishl (pc' := 57) rfl rfl ?_
          refine ev_ior (pc' := 58) rfl rfl ?_
          obtain ⟨hg8, h⟩ := am_g_some h
          refine ev_iastore (pc' := 59) rfl rfl rfl hg8 ?_
          refine ev_iconst (pc' := 60) (b := (1 : Int32)) rfl rfl rfl ?_
          obtain rfl := Option.some.inj h
          exact ev_ireturn rfl rfl
/-! PartedLandModel.daysOf (85, 'I'): P -/
def fm_daysOf_b32 (N : Nat) (k4 : Int32 → Int32 → Int32 → am_S → Option Int32) (x1 : Int32) (x3 : Int32) (s0 : Int32) (s1 : Int32) (σ : am_S) : Option Int32 := k4 x1 (s1 + s0) (x3 + (1 : Int32)) σ
set_option maxRecDepth 100000 in
theorem fm_daysOf_b32_e {X : Nat} {xs : Nat → Int32} {d : Nat} {N : Nat} {k4 : Int32 → Int32 → Int32 → am_S → Option Int32} (hk4 : ∀ {x1 : Int32} {x2 : Int32} {x3 : Int32} {σ : am_S} {o : Int32}, k4 x1 x2 x3 σ = some o → am_Ev am_sh (am_exx X xs) (d + 0) mm_204 4 [.ref 85, .int x1, .int x2, .int x3] [] σ (some (.int o)) σ) {x1 : Int32} {x3 : Int32} {s0 : Int32} {s1 : Int32} {w2 : Value} {σ : am_S} {o : Int32} (h : fm_daysOf_b32 N k4 x1 x3 s0 s1 σ = some o) : am_Ev am_sh (am_exx X xs) (d + 0) mm_204 32 [.ref 85, .int x1, w2, .int x3] [.int s0, .int s1] σ (some (.int o)) σ := by
  unfold fm_daysOf_b32 at h
  refine ev_iadd (pc' := 33) rfl rfl ?_
  refine ev_istore_n (pc' := 34) (L' := [.ref 85, .int x1, .int (s1 + s0), .int x3]) rfl rfl rfl rfl ?_
  refine ev_iinc (pc' := 37) (L' := [.ref 85, .int x1, .int (s1 + s0), .int (x3 + (1 : Int32))]) (b := (1 : Int32)) rfl rfl rfl rfl rfl ?_
  refine ev_goto (pc' := 4) rfl rfl ?_
  exact hk4 h
def fm_daysOf_b4 (N : Nat) : Nat → Int32 → Int32 → Int32 → am_S → Option Int32
  | 0, _, _, _, _ => none
  | n + 1, x1, x2, x3, σ => (if (σ 85 47) ≤ x3 then some x2 else (if ((x1 >>> (x3 &&& 31)) &&& (1 : Int32)) = (1 : Int32) then am_g (am_in x3 9) <| fm_daysOf_b32 N (fun x1 x2 x3 σ => fm_daysOf_b4 N n x1 x2 x3 σ) x1 x3 (σ 120 x3.toNatClampNeg) x2 σ else fm_daysOf_b32 N (fun x1 x2 x3 σ => fm_daysOf_b4 N n x1 x2 x3 σ) x1 x3 (0 : Int32) x2 σ))
set_option maxRecDepth 100000 in
theorem fm_daysOf_b4_e {X : Nat} {xs : Nat → Int32} {d : Nat} {N : Nat} : ∀ {n : Nat} {x1 : Int32} {x2 : Int32} {x3 : Int32} {σ : am_S} {o : Int32}, fm_daysOf_b4 N n x1 x2 x3 σ = some o → am_Ev am_sh (am_exx X xs) (d + 0) mm_204 4 [.ref 85, .int x1, .int x2, .int x3] [] σ (some (.int o)) σ := by
  intro n
  induction n with
  | zero => intro x1 x2 x3 σ o h; cases h
  | succ n ih =>
    intro x1 x2 x3 σ o h
    unfold fm_daysOf_b4 at h
    refine ev_iload_n (pc' := 5) rfl rfl rfl ?_
    refine ev_aload_n (pc' := 6) rfl rfl rfl ?_
    refine ev_getfield (pc' := 9) (w := .int (σ 85 47)) rfl rfl rfl rfl ?_
    rcases am_if h with ⟨hc1, h⟩ | ⟨hc1, h⟩
    · refine ev_ic_t (pc' := 40) rfl rfl (cb_ge_t hc1) ?_
      refine ev_iload_n (pc' := 41) rfl rfl rfl ?_
      obtain rfl := Option.some.inj h
      exact ev_ireturn rfl rfl
    · refine ev_ic_f (pc' := 12) rfl (by decide) rfl (cb_ge_f hc1) ?_
      refine ev_iload_n (pc' := 13) rfl rfl rfl ?_
      refine ev_iload_n (pc' := 14) rfl rfl rfl ?_
      refine ev_iload_n (pc' := 15) rfl rfl rfl ?_
      refine ev_ishr (pc' := 16) rfl rfl ?_
      refine ev_iconst (pc' := 17) (b := (1 : Int32)) rfl rfl rfl ?_
      refine ev_iand (pc' := 18) rfl rfl ?_
      refine ev_iconst (pc' := 19) (b := (1 : Int32)) rfl rfl rfl ?_
      rcases am_if h with ⟨hc2, h⟩ | ⟨hc2, h⟩
      · refine ev_ic_f (pc' := 22) rfl (by decide) rfl (cb_ne_f hc2) ?_
        refine ev_aload_n (pc' := 23) rfl rfl rfl ?_
        refine ev_getfield (pc' := 26) (w := .ref 120) rfl rfl rfl rfl ?_
        refine ev_iload_n (pc' := 27) rfl rfl rfl ?_
        obtain ⟨hg3, h⟩ := am_g_some h
        refine ev_iaload (pc' := 28) rfl rfl rfl hg3 ?_
        refine ev_goto (pc' := 32) rfl rfl ?_
        exact fm_daysOf_b32_e (hk4 := fun h => ih h) h
      · refine ev_ic_t (pc' := 31) rfl rfl (cb_ne_t hc2) ?_
        refine ev_iconst (pc' := 32) (b := (0 : Int32)) rfl rfl rfl ?_
        exact fm_daysOf_b32_e (hk4 := fun h => ih h) h
def fm_daysOf (N : Nat) (a1 : Int32) (σ : am_S) : Option Int32 := fm_daysOf_b4 N N a1 (0 : Int32) (0 : Int32) σ
set_option maxRecDepth 100000 in
theorem fm_daysOf_e {X : Nat} {xs : Nat → Int32} {d : Nat} {N : Nat} {a1 : Int32} {σ : am_S} {o : Int32} (h : fm_daysOf N a1 σ = some o) : am_Ev am_sh (am_exx X xs) (d + 0) mm_204 0 [.ref 85, .int a1, .null, .null] [] σ (some (.int o)) σ := by
  unfold fm_daysOf at h
  refine ev_iconst (pc' := 1) (b := (0 : Int32)) rfl rfl rfl ?_
  refine ev_istore_n (pc' := 2) (L' := [.ref 85, .int a1, .int (0 : Int32), .null]) rfl rfl rfl rfl ?_
  refine ev_iconst (pc' := 3) (b := (0 : Int32)) rfl rfl rfl ?_
  refine ev_istore_n (pc' := 4) (L' := [.ref 85, .int a1, .int (0 : Int32), .int (0 : Int32)]) rfl rfl rfl rfl ?_
  exact fm_daysOf_b4_e h
/-! PartedLandModel.canFollow (85, 'I', 'I'): P -/
def fm_canFollow (N : Nat) (a1 : Int32) (a2 : Int32) (σ : am_S) : Option Int32 := (if ((a1 >>> (a2 &&& 31)) &&& (1 : Int32)) = 0 then am_g (am_in a2 9) <| (if ((σ 121 a2.toNatClampNeg) &&& (a1 ^^^ (-1 : Int32))) = 0 then (fm_daysOf N (a1 ||| ((1 : Int32) <<< (a2 &&& 31))) σ).bind fun q4 => (if ((365 : Int32) - (σ 85 0)) < q4 then some (0 : Int32) else some (1 : Int32)) else some (0 : Int32)) else some (0 : Int32))
set_option maxRecDepth 100000 in
theorem fm_canFollow_e {X : Nat} {xs : Nat → Int32} {d : Nat} {N : Nat} {a1 : Int32} {a2 : Int32} {σ : am_S} {o : Int32} (h : fm_canFollow N a1 a2 σ = some o) : am_Ev am_sh (am_exx X xs) (d + 1) mm_205 0 [.ref 85, .int a1, .int a2] [] σ (some (.int o)) σ := by
  unfold fm_canFollow at h
  refine ev_iload_n (pc' := 1) rfl rfl rfl ?_
  refine ev_iload_n (pc' := 2) rfl rfl rfl ?_
  refine ev_ishr (pc' := 3) rfl rfl ?_
  refine ev_iconst (pc' := 4) (b := (1 : Int32)) rfl rfl rfl ?_
  refine ev_iand (pc' := 5) rfl rfl ?_
  rcases am_if h with ⟨hc1, h⟩ | ⟨hc1, h⟩
  · refine ev_if_f (pc' := 8) rfl (by decide) rfl (cb_ne_f hc1) ?_
    refine ev_aload_n (pc' := 9) rfl rfl rfl ?_
    refine ev_getfield (pc' := 12) (w := .ref 121) rfl rfl rfl rfl ?_
    refine ev_iload_n (pc' := 13) rfl rfl rfl ?_
    obtain ⟨hg2, h⟩ := am_g_some h
    refine ev_iaload (pc' := 14) rfl rfl rfl hg2 ?_
    refine ev_iload_n (pc' := 15) rfl rfl rfl ?_
    refine ev_iconst (pc' := 16) (b := (-1 : Int32)) rfl rfl rfl ?_
    refine ev_ixor (pc' := 17) rfl rfl ?_
    refine ev_iand (pc' := 18) rfl rfl ?_
    rcases am_if h with ⟨hc3, h⟩ | ⟨hc3, h⟩
    · refine ev_if_f (pc' := 21) rfl (by decide) rfl (cb_ne_f hc3) ?_
      refine ev_aload_n (pc' := 22) rfl rfl rfl ?_
      refine ev_iload_n (pc' := 23) rfl rfl rfl ?_
      refine ev_iconst (pc' := 24) (b := (1 : Int32)) rfl rfl rfl ?_
      refine ev_iload_n (pc' := 25) rfl rfl rfl ?_
      refine ev_ishl (pc' := 26) rfl rfl ?_
      refine ev_ior (pc' := 27) rfl rfl ?_
      refine am_bd h (fun q4 hq4 h => ?_)
      refine ev_call (mi := 204) (as := [.ref 85, .int (a1 ||| ((1 : Int32) <<< (a2 &&& 31)))]) (rest := []) rfl rfl (Nat.le_of_ble_eq_true rfl) (fm_daysOf_e (d := d) hq4) ?_
      show am_Ev _ _ _ _ 30 _ _ _ _ _
      refine ev_sipush (pc' := 33) (b := (365 : Int32)) rfl rfl rfl ?_
      refine ev_aload_n (pc' := 34) rfl rfl rfl ?_
      refine ev_getfield (pc' := 37) (w := .int (σ 85 0)) rfl rfl rfl rfl ?_
      refine ev_isub (pc' := 38) rfl rfl ?_
      rcases am_if h with ⟨hc5, h⟩ | ⟨hc5, h⟩
      · refine ev_ic_t (pc' := 45) rfl rfl (cb_gt_t hc5) ?_
        refine ev_iconst (pc' := 46) (b := (0 : Int32)) rfl rfl rfl ?_
        obtain rfl := Option.some.inj h
        exact ev_zreturn rfl rfl rfl
      · refine ev_ic_f (pc' := 41) rfl (by decide) rfl (cb_gt_f hc5) ?_
        refine ev_iconst (pc' := 42) (b := (1 : Int32)) rfl rfl rfl ?_
        refine ev_goto (pc' := 46) rfl rfl ?_
        obtain rfl := Option.some.inj h
        exact ev_zreturn rfl rfl rfl
    · refine ev_if_t (pc' := 45) rfl rfl (cb_ne_t hc3) ?_
      refine ev_iconst (pc' := 46) (b := (0 : Int32)) rfl rfl rfl ?_
      obtain rfl := Option.some.inj h
      exact ev_zreturn rfl rfl rfl
  · refine ev_if_t (pc' := 45) rfl rfl (cb_ne_t hc1) ?_
    refine ev_iconst (pc' := 46) (b := (0 : Int32)) rfl rfl rfl ?_
    obtain rfl := Option.some.inj h
    exact ev_zreturn rfl rfl rfl
