/-! PartedLandModel.unlike (85, 'I', 'I'): P -/
def fm_unlike_b22 (N : Nat) (k2 : Int32 → Int32 → Int32 → am_S → Option Int32) (x1 : Int32) (x2 : Int32) (x3 : Int32) (σ : am_S) : Option Int32 := am_g (am_in x1 3) <| (if (σ 104 x1.toNatClampNeg) ≤ x3 then some x3 else am_g (am_in x2 3) <| (if (σ 104 x2.toNatClampNeg) ≤ x3 then some x3 else am_g (am_in (((50 : Int32) * x1) + x3) 150) <| am_g (am_in (((50 : Int32) * x2) + x3) 150) <| (if (σ 103 (((50 : Int32) * x1) + x3).toNatClampNeg) = (σ 103 (((50 : Int32) * x2) + x3).toNatClampNeg) then k2 x1 x2 (x3 + (1 : Int32)) σ else some x3)))
set_option maxRecDepth 100000 in
theorem fm_unlike_b22_e {X : Nat} {xs : Nat → Int32} {d : Nat} {N : Nat} {k2 : Int32 → Int32 → Int32 → am_S → Option Int32} (hk2 : ∀ {x1 : Int32} {x2 : Int32} {x3 : Int32} {σ : am_S} {o : Int32}, k2 x1 x2 x3 σ = some o → am_Ev am_sh (am_exx X xs) (d + 0) mm_161 2 [.ref 85, .int x1, .int x2, .int x3] [] σ (some (.int o)) σ) {x1 : Int32} {x2 : Int32} {x3 : Int32} {σ : am_S} {o : Int32} (h : fm_unlike_b22 N k2 x1 x2 x3 σ = some o) : am_Ev am_sh (am_exx X xs) (d + 0) mm_161 22 [.ref 85, .int x1, .int x2, .int x3] [] σ (some (.int o)) σ := by
  unfold fm_unlike_b22 at h
  refine ev_iload_n (pc' := 23) rfl rfl rfl ?_
  refine ev_aload_n (pc' := 24) rfl rfl rfl ?_
  refine ev_getfield (pc' := 27) (w := .ref 104) rfl rfl rfl rfl ?_
  refine ev_iload_n (pc' := 28) rfl rfl rfl ?_
  obtain ⟨hg1, h⟩ := am_g_some h
  refine ev_iaload (pc' := 29) rfl rfl rfl hg1 ?_
  rcases am_if h with ⟨hc2, h⟩ | ⟨hc2, h⟩
  · refine ev_ic_t (pc' := 67) rfl rfl (cb_ge_t hc2) ?_
    refine ev_iload_n (pc' := 68) rfl rfl rfl ?_
    obtain rfl := Option.some.inj h
    exact ev_ireturn rfl rfl
  · refine ev_ic_f (pc' := 32) rfl (by decide) rfl (cb_ge_f hc2) ?_
    refine ev_iload_n (pc' := 33) rfl rfl rfl ?_
    refine ev_aload_n (pc' := 34) rfl rfl rfl ?_
    refine ev_getfield (pc' := 37) (w := .ref 104) rfl rfl rfl rfl ?_
    refine ev_iload_n (pc' := 38) rfl rfl rfl ?_
    obtain ⟨hg3, h⟩ := am_g_some h
    refine ev_iaload (pc' := 39) rfl rfl rfl hg3 ?_
    rcases am_if h with ⟨hc4, h⟩ | ⟨hc4, h⟩
    · refine ev_ic_t (pc' := 67) rfl rfl (cb_ge_t hc4) ?_
      refine ev_iload_n (pc' := 68) rfl rfl rfl ?_
      obtain rfl := Option.some.inj h
      exact ev_ireturn rfl rfl
    · refine ev_ic_f (pc' := 42) rfl (by decide) rfl (cb_ge_f hc4) ?_
      refine ev_aload_n (pc' := 43) rfl rfl rfl ?_
      refine ev_getfield (pc' := 46) (w := .ref 103) rfl rfl rfl rfl ?_
      refine ev_bipush (pc' := 48) (b := (50 : Int32)) rfl rfl rfl ?_
      refine ev_iload_n (pc' := 49) rfl rfl rfl ?_
      refine ev_imul (pc' := 50) rfl rfl ?_
      refine ev_iload_n (pc' := 51) rfl rfl rfl ?_
      refine ev_iadd (pc' := 52) rfl rfl ?_
      obtain ⟨hg5, h⟩ := am_g_some h
      refine ev_iaload (pc' := 53) rfl rfl rfl hg5 ?_
      refine ev_aload_n (pc' := 54) rfl rfl rfl ?_
      refine ev_getfield (pc' := 57) (w := .ref 103) rfl rfl rfl rfl ?_
      refine ev_bipush (pc' := 59) (b := (50 : Int32)) rfl rfl rfl ?_
      refine ev_iload_n (pc' := 60) rfl rfl rfl ?_
      refine ev_imul (pc' := 61) rfl rfl ?_
      refine ev_iload_n (pc' := 62) rfl rfl rfl ?_
      refine ev_iadd (pc' := 63) rfl rfl ?_
      obtain ⟨hg6, h⟩ := am_g_some h
      refine ev_iaload (pc' := 64) rfl rfl rfl hg6 ?_
      rcases am_if h with ⟨hc7, h⟩ | ⟨hc7, h⟩
      · refine ev_ic_t (pc' := 69) rfl rfl (cb_eq_t hc7) ?_
        refine ev_iinc (pc' := 72) (L' := [.ref 85, .int x1, .int x2, .int (x3 + (1 : Int32))]) (b := (1 : Int32)) rfl rfl rfl rfl rfl ?_
        refine ev_goto (pc' := 2) rfl rfl ?_
        exact hk2 h
      · refine ev_ic_f (pc' := 67) rfl (by decide) rfl (cb_eq_f hc7) ?_
        refine ev_iload_n (pc' := 68) rfl rfl rfl ?_
        obtain rfl := Option.some.inj h
        exact ev_ireturn rfl rfl
def fm_unlike_b2 (N : Nat) : Nat → Int32 → Int32 → Int32 → am_S → Option Int32
  | 0, _, _, _, _ => none
  | n + 1, x1, x2, x3, σ => am_g (am_in x1 3) <| (if x3 < (σ 104 x1.toNatClampNeg) then fm_unlike_b22 N (fun x1 x2 x3 σ => fm_unlike_b2 N n x1 x2 x3 σ) x1 x2 x3 σ else am_g (am_in x2 3) <| (if (σ 104 x2.toNatClampNeg) ≤ x3 then some (-1 : Int32) else fm_unlike_b22 N (fun x1 x2 x3 σ => fm_unlike_b2 N n x1 x2 x3 σ) x1 x2 x3 σ))
set_option maxRecDepth 100000 in
theorem fm_unlike_b2_e {X : Nat} {xs : Nat → Int32} {d : Nat} {N : Nat} : ∀ {n : Nat} {x1 : Int32} {x2 : Int32} {x3 : Int32} {σ : am_S} {o : Int32}, fm_unlike_b2 N n x1 x2 x3 σ = some o → am_Ev am_sh (am_exx X xs) (d + 0) mm_161 2 [.ref 85, .int x1, .int x2, .int x3] [] σ (some (.int o)) σ := by
  intro n
  induction n with
  | zero => intro x1 x2 x3 σ o h; cases h
  | succ n ih =>
    intro x1 x2 x3 σ o h
    unfold fm_unlike_b2 at h
    refine ev_iload_n (pc' := 3) rfl rfl rfl ?_
    refine ev_aload_n (pc' := 4) rfl rfl rfl ?_
    refine ev_getfield (pc' := 7) (w := .ref 104) rfl rfl rfl rfl ?_
    refine ev_iload_n (pc' := 8) rfl rfl rfl ?_
    obtain ⟨hg1, h⟩ := am_g_some h
    refine ev_iaload (pc' := 9) rfl rfl rfl hg1 ?_
    rcases am_if h with ⟨hc2, h⟩ | ⟨hc2, h⟩
    · refine ev_ic_t (pc' := 22) rfl rfl (cb_lt_t hc2) ?_
      exact fm_unlike_b22_e (hk2 := fun h => ih h) h
    · refine ev_ic_f (pc' := 12) rfl (by decide) rfl (cb_lt_f hc2) ?_
      refine ev_iload_n (pc' := 13) rfl rfl rfl ?_
      refine ev_aload_n (pc' := 14) rfl rfl rfl ?_
      refine ev_getfield (pc' := 17) (w := .ref 104) rfl rfl rfl rfl ?_
      refine ev_iload_n (pc' := 18) rfl rfl rfl ?_
      obtain ⟨hg3, h⟩ := am_g_some h
      refine ev_iaload (pc' := 19) rfl rfl rfl hg3 ?_
      rcases am_if h with ⟨hc4, h⟩ | ⟨hc4, h⟩
      · refine ev_ic_t (pc' := 75) rfl rfl (cb_ge_t hc4) ?_
        refine ev_iconst (pc' := 76) (b := (-1 : Int32)) rfl rfl rfl ?_
        obtain rfl := Option.some.inj h
        exact ev_ireturn rfl rfl
      · refine ev_ic_f (pc' := 22) rfl (by decide) rfl (cb_ge_f hc4) ?_
        exact fm_unlike_b22_e (hk2 := fun h => ih h) h
def fm_unlike (N : Nat) (a1 : Int32) (a2 : Int32) (σ : am_S) : Option Int32 := fm_unlike_b2 N N a1 a2 (0 : Int32) σ
set_option maxRecDepth 100000 in
theorem fm_unlike_e {X : Nat} {xs : Nat → Int32} {d : Nat} {N : Nat} {a1 : Int32} {a2 : Int32} {σ : am_S} {o : Int32} (h : fm_unlike N a1 a2 σ = some o) : am_Ev am_sh (am_exx X xs) (d + 0) mm_161 0 [.ref 85, .int a1, .int a2, .null] [] σ (some (.int o)) σ := by
  unfold fm_unlike at h
  refine ev_iconst (pc' := 1) (b := (0 : Int32)) rfl rfl rfl ?_
  refine ev_istore_n (pc' := 2) (L' := [.ref 85, .int a1, .int a2, .int (0 : Int32)]) rfl rfl rfl rfl ?_
  exact fm_unlike_b2_e h
/-! PartedLandModel.propose (85, 'I'): S -/
def fm_propose_b160 (N : Nat) (x1 : Int32) (σ : am_S) : Option (Int32 × am_S) := (fm_unlike N x1 (2 : Int32) σ).bind fun q1 => (if 0 ≤ q1 then some ((0 : Int32), σ) else some ((1 : Int32), σ))
set_option maxRecDepth 100000 in
theorem fm_propose_b160_e {X : Nat} {xs : Nat → Int32} {d : Nat} {N : Nat} {x1 : Int32} {w2 : Value} {w3 : Value} {w4 : Value} {σ : am_S} {o : Int32 × am_S} (h : fm_propose_b160 N x1 σ = some o) : am_Ev am_sh (am_exx X xs) (d + 2) mm_162 160 [.ref 85, .int x1, w2, w3, w4] [] σ (some (.int o.1)) o.2 := by
  unfold fm_propose_b160 at h
  refine ev_aload_n (pc' := 161) rfl rfl rfl ?_
  refine ev_iload_n (pc' := 162) rfl rfl rfl ?_
  refine ev_iconst (pc' := 163) (b := (2 : Int32)) rfl rfl rfl ?_
  refine am_bd h (fun q1 hq1 h => ?_)
  refine ev_call (mi := 161) (as := [.ref 85, .int x1, .int (2 : Int32)]) (rest := []) rfl rfl (Nat.le_of_ble_eq_true rfl) (fm_unlike_e (d := d + 1) hq1) ?_
  show am_Ev _ _ _ _ 166 _ _ _ _ _
  rcases am_if h with ⟨hc2, h⟩ | ⟨hc2, h⟩
  · refine ev_if_t (pc' := 173) rfl rfl (cb_ge_t hc2) ?_
    refine ev_iconst (pc' := 174) (b := (0 : Int32)) rfl rfl rfl ?_
    obtain rfl := Option.some.inj h
    exact ev_ireturn rfl rfl
  · refine ev_if_f (pc' := 169) rfl (by decide) rfl (cb_ge_f hc2) ?_
    refine ev_iconst (pc' := 170) (b := (1 : Int32)) rfl rfl rfl ?_
    refine ev_goto (pc' := 174) rfl rfl ?_
    obtain rfl := Option.some.inj h
    exact ev_ireturn rfl rfl
def fm_propose_b116 (N : Nat) : Nat → Int32 → Int32 → Int32 → am_S → Option (Int32 × am_S)
  | 0, _, _, _, _ => none
  | n + 1, x1, x2, x4, σ => (if x2 ≤ x4 then am_g (am_in (2 : Int32) 3) <| fm_propose_b160 N x1 (am_up (am_up σ 104 (2 : Int32).toNatClampNeg x2) 85 25 (σ 85 0)) else am_g (am_in x4 50) <| am_g (am_in ((100 : Int32) + x4) 150) <| fm_propose_b116 N n x1 x2 (x4 + (1 : Int32)) (am_up σ 103 ((100 : Int32) + x4).toNatClampNeg (σ 102 x4.toNatClampNeg)))
set_option maxRecDepth 100000 in
theorem fm_propose_b116_e {X : Nat} {xs : Nat → Int32} {d : Nat} {N : Nat} : ∀ {n : Nat} {x1 : Int32} {x2 : Int32} {x4 : Int32} {w3 : Value} {σ : am_S} {o : Int32 × am_S}, fm_propose_b116 N n x1 x2 x4 σ = some o → am_Ev am_sh (am_exx X xs) (d + 2) mm_162 116 [.ref 85, .int x1, .int x2, w3, .int x4] [] σ (some (.int o.1)) o.2 := by
  intro n
  induction n with
  | zero => intro x1 x2 x4 w3 σ o h; cases h
  | succ n ih =>
    intro x1 x2 x4 w3 σ o h
    unfold fm_propose_b116 at h
    refine ev_iload (pc' := 118) rfl rfl rfl ?_
    refine ev_iload_n (pc' := 119) rfl rfl rfl ?_
    rcases am_if h with ⟨hc1, h⟩ | ⟨hc1, h⟩
    · refine ev_ic_t (pc' := 145) rfl rfl (cb_ge_t hc1) ?_
      refine ev_aload_n (pc' := 146) rfl rfl rfl ?_
      refine ev_getfield (pc' := 149) (w := .ref 104) rfl rfl rfl rfl ?_
      refine ev_iconst (pc' := 150) (b := (2 : Int32)) rfl rfl rfl ?_
      refine ev_iload_n (pc' := 151) rfl rfl rfl ?_
      obtain ⟨hg2, h⟩ := am_g_some h
      refine ev_iastore (pc' := 152) rfl rfl rfl hg2 ?_
      refine ev_aload_n (pc' := 153) rfl rfl rfl ?_
      refine ev_aload_n (pc' := 154) rfl rfl rfl ?_
      refine ev_getfield (pc' := 157) (w := .int (σ 85 0)) rfl rfl rfl rfl ?_
      refine ev_putfield (pc' := 160) (ci := 11) (f := 25) (z := 0) rfl rfl rfl rfl rfl ?_
      exact fm_propose_b160_e h
    · refine ev_ic_f (pc' := 122) rfl (by decide) rfl (cb_ge_f hc1) ?_
      refine ev_aload_n (pc' := 123) rfl rfl rfl ?_
      refine ev_getfield (pc' := 126) (w := .ref 103) rfl rfl rfl rfl ?_
      refine ev_bipush (pc' := 128) (b := (100 : Int32)) rfl rfl rfl ?_
      refine ev_iload (pc' := 130) rfl rfl rfl ?_
      refine ev_iadd (pc' := 131) rfl rfl ?_
      refine ev_aload_n (pc' := 132) rfl rfl rfl ?_
      refine ev_getfield (pc' := 135) (w := .ref 102) rfl rfl rfl rfl ?_
      refine ev_iload (pc' := 137) rfl rfl rfl ?_
      obtain ⟨hg3, h⟩ := am_g_some h
      refine ev_iaload (pc' := 138) rfl rfl rfl hg3 ?_
      obtain ⟨hg4, h⟩ := am_g_some h
      refine ev_iastore (pc' := 139) rfl rfl rfl hg4 ?_
      refine ev_iinc (pc' := 142) (L' := [.ref 85, .int x1, .int x2, w3, .int (x4 + (1 : Int32))]) (b := (1 : Int32)) rfl rfl rfl rfl rfl ?_
      refine ev_goto (pc' := 116) rfl rfl ?_
      exact ih h
def fm_propose_b46 (N : Nat) : Nat → Int32 → Int32 → Int32 → am_S → Option (Int32 × am_S)
  | 0, _, _, _, _ => none
  | n + 1, x1, x2, x4, σ => (if x2 ≤ x4 then am_g (am_in x1 3) <| am_g (am_in ((1 : Int32) - x1) 3) <| (if ((am_up σ 104 x1.toNatClampNeg x2) 104 ((1 : Int32) - x1).toNatClampNeg) < 0 then fm_propose_b160 N x1 (am_up σ 104 x1.toNatClampNeg x2) else (fm_unlike N (0 : Int32) (1 : Int32) (am_up σ 104 x1.toNatClampNeg x2)).bind fun q5 => (if 0 ≤ q5 then fm_propose_b160 N x1 (am_up σ 104 x1.toNatClampNeg x2) else (fm_unlike N (0 : Int32) (2 : Int32) (am_up σ 104 x1.toNatClampNeg x2)).bind fun q7 => (if q7 < 0 then fm_propose_b160 N x1 (am_up σ 104 x1.toNatClampNeg x2) else fm_propose_b116 N N x1 x2 (0 : Int32) (am_up σ 104 x1.toNatClampNeg x2)))) else am_g (am_in x4 50) <| am_g (am_in (((50 : Int32) * x1) + x4) 150) <| fm_propose_b46 N n x1 x2 (x4 + (1 : Int32)) (am_up σ 103 (((50 : Int32) * x1) + x4).toNatClampNeg (σ 102 x4.toNatClampNeg)))
set_option maxRecDepth 100000 in
theorem fm_propose_b46_e {X : Nat} {xs : Nat → Int32} {d : Nat} {N : Nat} : ∀ {n : Nat} {x1 : Int32} {x2 : Int32} {x4 : Int32} {w3 : Value} {σ : am_S} {o : Int32 × am_S}, fm_propose_b46 N n x1 x2 x4 σ = some o → am_Ev am_sh (am_exx X xs) (d + 2) mm_162 46 [.ref 85, .int x1, .int x2, w3, .int x4] [] σ (some (.int o.1)) o.2 := by
  intro n
  induction n with
  | zero => intro x1 x2 x4 w3 σ o h; cases h
  | succ n ih =>
    intro x1 x2 x4 w3 σ o h
    unfold fm_propose_b46 at h
    refine ev_iload (pc' := 48) rfl rfl rfl ?_
    refine ev_iload_n (pc' := 49) rfl rfl rfl ?_
    rcases am_if h with ⟨hc1, h⟩ | ⟨hc1, h⟩
    · refine ev_ic_t (pc' := 77) rfl rfl (cb_ge_t hc1) ?_
      refine ev_aload_n (pc' := 78) rfl rfl rfl ?_
      refine ev_getfield (pc' := 81) (w := .ref 104) rfl rfl rfl rfl ?_
      refine ev_iload_n (pc' := 82) rfl rfl rfl ?_
      refine ev_iload_n (pc' := 83) rfl rfl rfl ?_
      obtain ⟨hg2, h⟩ := am_g_some h
      refine ev_iastore (pc' := 84) rfl rfl rfl hg2 ?_
      refine ev_aload_n (pc' := 85) rfl rfl rfl ?_
      refine ev_getfield (pc' := 88) (w := .ref 104) rfl rfl rfl rfl ?_
      refine ev_iconst (pc' := 89) (b := (1 : Int32)) rfl rfl rfl ?_
      refine ev_iload_n (pc' := 90) rfl rfl rfl ?_
      refine ev_isub (pc' := 91) rfl rfl ?_
      obtain ⟨hg3, h⟩ := am_g_some h
      refine ev_iaload (pc' := 92) rfl rfl rfl hg3 ?_
      rcases am_if h with ⟨hc4, h⟩ | ⟨hc4, h⟩
      · refine ev_if_t (pc' := 160) rfl rfl (cb_lt_t hc4) ?_
        exact fm_propose_b160_e h
      · refine ev_if_f (pc' := 95) rfl (by decide) rfl (cb_lt_f hc4) ?_
        refine ev_aload_n (pc' := 96) rfl rfl rfl ?_
        refine ev_iconst (pc' := 97) (b := (0 : Int32)) rfl rfl rfl ?_
        refine ev_iconst (pc' := 98) (b := (1 : Int32)) rfl rfl rfl ?_
        refine am_bd h (fun q5 hq5 h => ?_)
        refine ev_call (mi := 161) (as := [.ref 85, .int (0 : Int32), .int (1 : Int32)]) (rest := []) rfl rfl (Nat.le_of_ble_eq_true rfl) (fm_unlike_e (d := d + 1) hq5) ?_
        show am_Ev _ _ _ _ 101 _ _ _ _ _
        rcases am_if h with ⟨hc6, h⟩ | ⟨hc6, h⟩
        · refine ev_if_t (pc' := 160) rfl rfl (cb_ge_t hc6) ?_
          exact fm_propose_b160_e h
        · refine ev_if_f (pc' := 104) rfl (by decide) rfl (cb_ge_f hc6) ?_
          refine ev_aload_n (pc' := 105) rfl rfl rfl ?_
          refine ev_iconst (pc' := 106) (b := (0 : Int32)) rfl rfl rfl ?_
          refine ev_iconst (pc' := 107) (b := (2 : Int32)) rfl rfl rfl ?_
          refine am_bd h (fun q7 hq7 h => ?_)
          refine ev_call (mi := 161) (as := [.ref 85, .int (0 : Int32), .int (2 : Int32)]) (rest := []) rfl rfl (Nat.le_of_ble_eq_true rfl) (fm_unlike_e (d := d + 1) hq7) ?_
          show am_Ev _ _ _ _ 110 _ _ _ _ _
          rcases am_if h with ⟨hc8, h⟩ | ⟨hc8, h⟩
          · refine ev_if_t (pc' := 160) rfl rfl (cb_lt_t hc8) ?_
            exact fm_propose_b160_e h
          · refine ev_if_f (pc' := 113) rfl (by decide) rfl (cb_lt_f hc8) ?_
            refine ev_iconst (pc' := 114) (b := (0 : Int32)) rfl rfl rfl ?_
            refine ev_istore (pc' := 116) (L' := [.ref 85, .int x1, .int x2, w3, .int (0 : Int32)]) rfl rfl rfl rfl ?_
            exact fm_propose_b116_e h
    · refine ev_ic_f (pc' := 52) rfl (by decide) rfl (cb_ge_f hc1) ?_
      refine ev_aload_n (pc' := 53) rfl rfl rfl ?_
      refine ev_getfield (pc' := 56) (w := .ref 103) rfl rfl rfl rfl ?_
      refine ev_bipush (pc' := 58) (b := (50 : Int32)) rfl rfl rfl ?_
      refine ev_iload_n (pc' := 59) rfl rfl rfl ?_
      refine ev_imul (pc' := 60) rfl rfl ?_
      refine ev_iload (pc' := 62) rfl rfl rfl ?_
      refine ev_iadd (pc' := 63) rfl rfl ?_
      refine ev_aload_n (pc' := 64) rfl rfl rfl ?_
      refine ev_getfield (pc' := 67) (w := .ref 102) rfl rfl rfl rfl ?_
      refine ev_iload (pc' := 69) rfl rfl rfl ?_
      obtain ⟨hg9, h⟩ := am_g_some h
      refine ev_iaload (pc' := 70) rfl rfl rfl hg9 ?_
      obtain ⟨hg10, h⟩ := am_g_some h
      refine ev_iastore (pc' := 71) rfl rfl rfl hg10 ?_
      refine ev_iinc (pc' := 74) (L' := [.ref 85, .int x1, .int x2, w3, .int (x4 + (1 : Int32))]) (b := (1 : Int32)) rfl rfl rfl rfl rfl ?_
      refine ev_goto (pc' := 46) rfl rfl ?_
      exact ih h
def fm_propose (N : Nat) (a1 : Int32) (σ : am_S) : Option (Int32 × am_S) := (if (fm_isSide a1 σ) = 0 then (fm_finding (1 : Int32) σ).bind fun q2 => some (q2.1, q2.2) else (fm_read_85_102 N (0 : Int32) (σ 85 22) (am_up σ 85 22 (0 : Int32))).bind fun q3 => (if q3.1 < 0 then fm_propose_b46 N N a1 (σ 85 22) (0 : Int32) q3.2 else some (((-10 : Int32) - q3.1), q3.2)))
set_option maxRecDepth 100000 in
theorem fm_propose_e {X : Nat} {xs : Nat → Int32} {d : Nat} {N : Nat} {a1 : Int32} {σ : am_S} {o : Int32 × am_S} (h : fm_propose N a1 σ = some o) : am_Ev am_sh (am_exx X xs) (d + 2) mm_162 0 [.ref 85, .int a1, .null, .null, .null] [] σ (some (.int o.1)) o.2 := by
  unfold fm_propose at h
  refine ev_iload_n (pc' := 1) rfl rfl rfl ?_
  refine ev_call (mi := 213) (as := [.int a1]) (rest := []) rfl rfl (Nat.le_of_ble_eq_true rfl) (fm_isSide_e (d := d + 1) rfl) ?_
  show am_Ev _ _ _ _ 4 _ _ _ _ _
  rcases am_if h with ⟨hc1, h⟩ | ⟨hc1, h⟩
  · refine ev_if_f (pc' := 7) rfl (by decide) rfl (cb_ne_f hc1) ?_
    refine ev_aload_n (pc' := 8) rfl rfl rfl ?_
    refine ev_iconst (pc' := 9) (b := (1 : Int32)) rfl rfl rfl ?_
    refine am_bd h (fun q2 hq2 h => ?_)
    refine ev_call (mi := 159) (as := [.ref 85, .int (1 : Int32)]) (rest := []) rfl rfl (Nat.le_of_ble_eq_true rfl) (fm_finding_e (d := d + 1) hq2) ?_
    show am_Ev _ _ _ _ 12 _ _ _ _ _
    obtain rfl := Option.some.inj h
    exact ev_ireturn rfl rfl
  · refine ev_if_t (pc' := 13) rfl rfl (cb_ne_t hc1) ?_
    refine ev_aload_n (pc' := 14) rfl rfl rfl ?_
    refine ev_getfield (pc' := 17) (w := .int (σ 85 22)) rfl rfl rfl rfl ?_
    refine ev_istore_n (pc' := 18) (L' := [.ref 85, .int a1, .int (σ 85 22), .null, .null]) rfl rfl rfl rfl ?_
    refine ev_aload_n (pc' := 19) rfl rfl rfl ?_
    refine ev_iconst (pc' := 20) (b := (0 : Int32)) rfl rfl rfl ?_
    refine ev_putfield (pc' := 23) (ci := 11) (f := 22) (z := 0) rfl rfl rfl rfl rfl ?_
    refine ev_aload_n (pc' := 24) rfl rfl rfl ?_
    refine ev_aload_n (pc' := 25) rfl rfl rfl ?_
    refine ev_getfield (pc' := 28) (w := .ref 102) rfl rfl rfl rfl ?_
    refine ev_iconst (pc' := 29) (b := (0 : Int32)) rfl rfl rfl ?_
    refine ev_iload_n (pc' := 30) rfl rfl rfl ?_
    refine am_bd h (fun q3 hq3 h => ?_)
    refine ev_call (mi := 153) (as := [.ref 85, .ref 102, .int (0 : Int32), .int (σ 85 22)]) (rest := []) rfl rfl (Nat.le_of_ble_eq_true rfl) (fm_read_85_102_e (d := d) hq3) ?_
    show am_Ev _ _ _ _ 33 _ _ _ _ _
    refine ev_istore_n (pc' := 34) (L' := [.ref 85, .int a1, .int (σ 85 22), .int q3.1, .null]) rfl rfl rfl rfl ?_
    refine ev_iload_n (pc' := 35) rfl rfl rfl ?_
    rcases am_if h with ⟨hc4, h⟩ | ⟨hc4, h⟩
    · refine ev_if_t (pc' := 43) rfl rfl (cb_lt_t hc4) ?_
      refine ev_iconst (pc' := 44) (b := (0 : Int32)) rfl rfl rfl ?_
      refine ev_istore (pc' := 46) (L' := [.ref 85, .int a1, .int (σ 85 22), .int q3.1, .int (0 : Int32)]) rfl rfl rfl rfl ?_
      exact fm_propose_b46_e h
    · refine ev_if_f (pc' := 38) rfl (by decide) rfl (cb_lt_f hc4) ?_
      refine ev_bipush (pc' := 40) (b := (-10 : Int32)) rfl rfl rfl ?_
      refine ev_iload_n (pc' := 41) rfl rfl rfl ?_
      refine ev_isub (pc' := 42) rfl rfl ?_
      obtain rfl := Option.some.inj h
      exact ev_ireturn rfl rfl
/-! PartedLandModel.law (85, 'I'): S -/
def fm_law (N : Nat) (a1 : Int32) (σ : am_S) : Option (Int32 × am_S) := (if (fm_isIn a1 (0 : Int32) (6 : Int32) σ) = 0 then (fm_finding (1 : Int32) σ).bind fun q2 => some (q2.1, q2.2) else (fm_readLaw N (2 : Int32) σ).bind fun q3 => (if a1 = (0 : Int32) then some ((q3.2 85 56), q3.2) else (if a1 = (1 : Int32) then some ((q3.2 85 57), q3.2) else (if a1 = (2 : Int32) then some ((q3.2 85 58), q3.2) else (if a1 = (3 : Int32) then some ((q3.2 85 59), q3.2) else (if a1 = (4 : Int32) then some ((q3.2 85 60), q3.2) else (if a1 = (5 : Int32) then some ((q3.2 85 55), q3.2) else some ((q3.2 85 25), q3.2))))))))
set_option maxRecDepth 100000 in
theorem fm_law_e {X : Nat} {xs : Nat → Int32} {d : Nat} {N : Nat} {a1 : Int32} {σ : am_S} {o : Int32 × am_S} (h : fm_law N a1 σ = some o) : am_Ev am_sh (am_exx X xs) (d + 3) mm_163 0 [.ref 85, .int a1, .null] [] σ (some (.int o.1)) o.2 := by
  unfold fm_law at h
  refine ev_iload_n (pc' := 1) rfl rfl rfl ?_
  refine ev_iconst (pc' := 2) (b := (0 : Int32)) rfl rfl rfl ?_
  refine ev_bipush (pc' := 4) (b := (6 : Int32)) rfl rfl rfl ?_
  refine ev_call (mi := 170) (as := [.int a1, .int (0 : Int32), .int (6 : Int32)]) (rest := []) rfl rfl (Nat.le_of_ble_eq_true rfl) (fm_isIn_e (d := d + 2) rfl) ?_
  show am_Ev _ _ _ _ 7 _ _ _ _ _
  rcases am_if h with ⟨hc1, h⟩ | ⟨hc1, h⟩
  · refine ev_if_f (pc' := 10) rfl (by decide) rfl (cb_ne_f hc1) ?_
    refine ev_aload_n (pc' := 11) rfl rfl rfl ?_
    refine ev_iconst (pc' := 12) (b := (1 : Int32)) rfl rfl rfl ?_
    refine am_bd h (fun q2 hq2 h => ?_)
    refine ev_call (mi := 159) (as := [.ref 85, .int (1 : Int32)]) (rest := []) rfl rfl (Nat.le_of_ble_eq_true rfl) (fm_finding_e (d := d + 2) hq2) ?_
    show am_Ev _ _ _ _ 15 _ _ _ _ _
    obtain rfl := Option.some.inj h
    exact ev_ireturn rfl rfl
  · refine ev_if_t (pc' := 16) rfl rfl (cb_ne_t hc1) ?_
    refine ev_aload_n (pc' := 17) rfl rfl rfl ?_
    refine ev_iconst (pc' := 18) (b := (2 : Int32)) rfl rfl rfl ?_
    refine am_bd h (fun q3 hq3 h => ?_)
    refine ev_call (mi := 155) (as := [.ref 85, .int (2 : Int32)]) (rest := []) rfl rfl (Nat.le_of_ble_eq_true rfl) (fm_readLaw_e (d := d) hq3) ?_
    show am_Ev _ _ _ _ 21 _ _ _ _ _
    refine ev_istore_n (pc' := 22) (L' := [.ref 85, .int a1, .int q3.1]) rfl rfl rfl rfl ?_
    refine ev_iload_n (pc' := 23) rfl rfl rfl ?_
    rcases am_if h with ⟨hc4, h⟩ | ⟨hc4, h⟩
    · refine ev_tsw (pc' := 60) (off := 37) rfl (by rw [hc4]; decide +kernel) (by rw [hc4]; decide +kernel) rfl ?_
      refine ev_aload_n (pc' := 61) rfl rfl rfl ?_
      refine ev_getfield (pc' := 64) (w := .int (q3.2 85 56)) rfl rfl rfl rfl ?_
      obtain rfl := Option.some.inj h
      exact ev_ireturn rfl rfl
    rcases am_if h with ⟨hc5, h⟩ | ⟨hc5, h⟩
    · refine ev_tsw (pc' := 65) (off := 42) rfl (by rw [hc5]; decide +kernel) (by rw [hc5]; decide +kernel) rfl ?_
      refine ev_aload_n (pc' := 66) rfl rfl rfl ?_
      refine ev_getfield (pc' := 69) (w := .int (q3.2 85 57)) rfl rfl rfl rfl ?_
      obtain rfl := Option.some.inj h
      exact ev_ireturn rfl rfl
    rcases am_if h with ⟨hc6, h⟩ | ⟨hc6, h⟩
    · refine ev_tsw (pc' := 70) (off := 47) rfl (by rw [hc6]; decide +kernel) (by rw [hc6]; decide +kernel) rfl ?_
      refine ev_aload_n (pc' := 71) rfl rfl rfl ?_
      refine ev_getfield (pc' := 74) (w := .int (q3.2 85 58)) rfl rfl rfl rfl ?_
      obtain rfl := Option.some.inj h
      exact ev_ireturn rfl rfl
    rcases am_if h with ⟨hc7, h⟩ | ⟨hc7, h⟩
    · refine ev_tsw (pc' := 75) (off := 52) rfl (by rw [hc7]; decide +kernel) (by rw [hc7]; decide +kernel) rfl ?_
      refine ev_aload_n (pc' := 76) rfl rfl rfl ?_
      refine ev_getfield (pc' := 79) (w := .int (q3.2 85 59)) rfl rfl rfl rfl ?_
      obtain rfl := Option.some.inj h
      exact ev_ireturn rfl rfl
    rcases am_if h with ⟨hc8, h⟩ | ⟨hc8, h⟩
    · refine ev_tsw (pc' := 80) (off := 57) rfl (by rw [hc8]; decide +kernel) (by rw [hc8]; decide +kernel) rfl ?_
      refine ev_aload_n (pc' := 81) rfl rfl rfl ?_
      refine ev_getfield (pc' := 84) (w := .int (q3.2 85 60)) rfl rfl rfl rfl ?_
      obtain rfl := Option.some.inj h
      exact ev_ireturn rfl rfl
    rcases am_if h with ⟨hc9, h⟩ | ⟨hc9, h⟩
    · refine ev_tsw (pc' := 85) (off := 62) rfl (by rw [hc9]; decide +kernel) (by rw [hc9]; decide +kernel) rfl ?_
      refine ev_aload_n (pc' := 86) rfl rfl rfl ?_
      refine ev_getfield (pc' := 89) (w := .int (q3.2 85 55)) rfl rfl rfl rfl ?_
      obtain rfl := Option.some.inj h
      exact ev_ireturn rfl rfl
    have hd10 : a1.toInt < 0 ∨ 5 < a1.toInt ∨ True := Or.inr (Or.inr trivial)
    have hk10 : ∀ (Lq Sq : List Value) (v : Option Value) (σ2 : am_S), am_Ev am_sh (am_exx X xs) (d + 3) mm_163 90 Lq Sq q3.2 v σ2 → am_Ev am_sh (am_exx X xs) (d + 3) mm_163 23 Lq (.int a1 :: Sq) q3.2 v σ2 := fun Lq Sq v σ2 hz => by
      by_cases hr : a1.toInt < 0 ∨ 5 < a1.toInt
      · exact ev_tsd rfl hr rfl hz
      · obtain ⟨j, hj, hx⟩ := am_rg 6 hr (by decide)
        rcases (show j = 0 ∨ j = 1 ∨ j = 2 ∨ j = 3 ∨ j = 4 ∨ j = 5 by omega) with rfl | rfl | rfl | rfl | rfl | rfl
        · exact absurd (hx.trans (by decide +kernel)) hc4
        · exact absurd (hx.trans (by decide +kernel)) hc5
        · exact absurd (hx.trans (by decide +kernel)) hc6
        · exact absurd (hx.trans (by decide +kernel)) hc7
        · exact absurd (hx.trans (by decide +kernel)) hc8
        · exact absurd (hx.trans (by decide +kernel)) hc9
    refine hk10 _ _ _ _ ?_
    refine ev_aload_n (pc' := 91) rfl rfl rfl ?_
    refine ev_getfield (pc' := 94) (w := .int (q3.2 85 25)) rfl rfl rfl rfl ?_
    obtain rfl := Option.some.inj h
    exact ev_ireturn rfl rfl
/-! PartedLandModel.differ (85,): S -/
def fm_differ_b18 (N : Nat) (σ : am_S) : Option (Int32 × am_S) := (fm_finding (3 : Int32) σ).bind fun q1 => some (q1.1, q1.2)
set_option maxRecDepth 100000 in
theorem fm_differ_b18_e {X : Nat} {xs : Nat → Int32} {d : Nat} {N : Nat} {σ : am_S} {o : Int32 × am_S} (h : fm_differ_b18 N σ = some o) : am_Ev am_sh (am_exx X xs) (d + 1) mm_164 18 [.ref 85] [] σ (some (.int o.1)) o.2 := by
  unfold fm_differ_b18 at h
  refine ev_aload_n (pc' := 19) rfl rfl rfl ?_
  refine ev_iconst (pc' := 20) (b := (3 : Int32)) rfl rfl rfl ?_
  refine am_bd h (fun q1 hq1 h => ?_)
  refine ev_call (mi := 159) (as := [.ref 85, .int (3 : Int32)]) (rest := []) rfl rfl (Nat.le_of_ble_eq_true rfl) (fm_finding_e (d := d) hq1) ?_
  show am_Ev _ _ _ _ 23 _ _ _ _ _
  obtain rfl := Option.some.inj h
  exact ev_ireturn rfl rfl
def fm_differ (N : Nat) (σ : am_S) : Option (Int32 × am_S) := am_g (am_in (0 : Int32) 3) <| (if (σ 104 (0 : Int32).toNatClampNeg) < 0 then fm_differ_b18 N σ else am_g (am_in (1 : Int32) 3) <| (if 0 ≤ (σ 104 (1 : Int32).toNatClampNeg) then (fm_unlike N (0 : Int32) (1 : Int32) σ).bind fun q5 => some (q5, σ) else fm_differ_b18 N σ))
set_option maxRecDepth 100000 in
theorem fm_differ_e {X : Nat} {xs : Nat → Int32} {d : Nat} {N : Nat} {σ : am_S} {o : Int32 × am_S} (h : fm_differ N σ = some o) : am_Ev am_sh (am_exx X xs) (d + 1) mm_164 0 [.ref 85] [] σ (some (.int o.1)) o.2 := by
  unfold fm_differ at h
  refine ev_aload_n (pc' := 1) rfl rfl rfl ?_
  refine ev_getfield (pc' := 4) (w := .ref 104) rfl rfl rfl rfl ?_
  refine ev_iconst (pc' := 5) (b := (0 : Int32)) rfl rfl rfl ?_
  obtain ⟨hg1, h⟩ := am_g_some h
  refine ev_iaload (pc' := 6) rfl rfl rfl hg1 ?_
  rcases am_if h with ⟨hc2, h⟩ | ⟨hc2, h⟩
  · refine ev_if_t (pc' := 18) rfl rfl (cb_lt_t hc2) ?_
    exact fm_differ_b18_e h
  · refine ev_if_f (pc' := 9) rfl (by decide) rfl (cb_lt_f hc2) ?_
    refine ev_aload_n (pc' := 10) rfl rfl rfl ?_
    refine ev_getfield (pc' := 13) (w := .ref 104) rfl rfl rfl rfl ?_
    refine ev_iconst (pc' := 14) (b := (1 : Int32)) rfl rfl rfl ?_
    obtain ⟨hg3, h⟩ := am_g_some h
    refine ev_iaload (pc' := 15) rfl rfl rfl hg3 ?_
    rcases am_if h with ⟨hc4, h⟩ | ⟨hc4, h⟩
    · refine ev_if_t (pc' := 24) rfl rfl (cb_ge_t hc4) ?_
      refine ev_aload_n (pc' := 25) rfl rfl rfl ?_
      refine ev_iconst (pc' := 26) (b := (0 : Int32)) rfl rfl rfl ?_
      refine ev_iconst (pc' := 27) (b := (1 : Int32)) rfl rfl rfl ?_
      refine am_bd h (fun q5 hq5 h => ?_)
      refine ev_call (mi := 161) (as := [.ref 85, .int (0 : Int32), .int (1 : Int32)]) (rest := []) rfl rfl (Nat.le_of_ble_eq_true rfl) (fm_unlike_e (d := d) hq5) ?_
      show am_Ev _ _ _ _ 30 _ _ _ _ _
      obtain rfl := Option.some.inj h
      exact ev_ireturn rfl rfl
    · refine ev_if_f (pc' := 18) rfl (by decide) rfl (cb_ge_f hc4) ?_
      exact fm_differ_b18_e h
/-! PartedLandModel.isThing (85, 'I'): T -/
def fm_isThing (a1 : Int32) (σ : am_S) : Int32 := (if a1 < 0 then (0 : Int32) else (if (σ 85 26) ≤ a1 then (0 : Int32) else (1 : Int32)))
set_option maxRecDepth 100000 in
theorem fm_isThing_e {X : Nat} {xs : Nat → Int32} {d : Nat} {a1 : Int32} {σ : am_S} {o : Int32} (h : fm_isThing a1 σ = o) : am_Ev am_sh (am_exx X xs) (d + 0) mm_203 0 [.ref 85, .int a1] [] σ (some (.int o)) σ := by
  unfold fm_isThing at h
  refine ev_iload_n (pc' := 1) rfl rfl rfl ?_
  rcases am_if h with ⟨hc1, h⟩ | ⟨hc1, h⟩
  · refine ev_if_t (pc' := 16) rfl rfl (cb_lt_t hc1) ?_
    refine ev_iconst (pc' := 17) (b := (0 : Int32)) rfl rfl rfl ?_
    subst h
    exact ev_zreturn rfl rfl rfl
  · refine ev_if_f (pc' := 4) rfl (by decide) rfl (cb_lt_f hc1) ?_
    refine ev_iload_n (pc' := 5) rfl rfl rfl ?_
    refine ev_aload_n (pc' := 6) rfl rfl rfl ?_
    refine ev_getfield (pc' := 9) (w := .int (σ 85 26)) rfl rfl rfl rfl ?_
    rcases am_if h with ⟨hc2, h⟩ | ⟨hc2, h⟩
    · refine ev_ic_t (pc' := 16) rfl rfl (cb_ge_t hc2) ?_
      refine ev_iconst (pc' := 17) (b := (0 : Int32)) rfl rfl rfl ?_
      subst h
      exact ev_zreturn rfl rfl rfl
    · refine ev_ic_f (pc' := 12) rfl (by decide) rfl (cb_ge_f hc2) ?_
      refine ev_iconst (pc' := 13) (b := (1 : Int32)) rfl rfl rfl ?_
      refine ev_goto (pc' := 17) rfl rfl ?_
      subst h
      exact ev_zreturn rfl rfl rfl
/-! PartedLandModel.thing (85, 'I', 'I'): S -/
def fm_thing_b130 (x1 : Int32) (x2 : Int32) (x3 : Int32) (σ : am_S) : Option (Int32 × am_S) := (if x3 = 0 then (fm_finding (1 : Int32) σ).bind fun q2 => some (q2.1, q2.2) else (if (σ 85 26) = (24 : Int32) then (fm_finding (4 : Int32) σ).bind fun q4 => some (q4.1, q4.2) else am_g (am_in (σ 85 26) 24) <| am_g (am_in (σ 85 26) 24) <| am_g (am_in (σ 85 26) 24) <| am_g (am_in (σ 85 26) 24) <| some ((((σ 85 26) + (1 : Int32)) - (1 : Int32)), (am_up (am_up (am_up (am_up (am_up σ 105 (σ 85 26).toNatClampNeg (x1 / (1000 : Int32))) 107 (σ 85 26).toNatClampNeg (x1 - x1 / (1000 : Int32) * (1000 : Int32))) 106 (σ 85 26).toNatClampNeg x2) 108 (σ 85 26).toNatClampNeg (0 : Int32)) 85 26 ((σ 85 26) + (1 : Int32))))))
set_option maxRecDepth 100000 in
theorem fm_thing_b130_e {X : Nat} {xs : Nat → Int32} {d : Nat} {x1 : Int32} {x2 : Int32} {x3 : Int32} {w4 : Value} {w5 : Value} {σ : am_S} {o : Int32 × am_S} (h : fm_thing_b130 x1 x2 x3 σ = some o) : am_Ev am_sh (am_exx X xs) (d + 1) mm_166 130 [.ref 85, .int x1, .int x2, .int x3, w4, w5] [] σ (some (.int o.1)) o.2 := by
  unfold fm_thing_b130 at h
  refine ev_iload_n (pc' := 131) rfl rfl rfl ?_
  rcases am_if h with ⟨hc1, h⟩ | ⟨hc1, h⟩
  · refine ev_if_f (pc' := 134) rfl (by decide) rfl (cb_ne_f hc1) ?_
    refine ev_aload_n (pc' := 135) rfl rfl rfl ?_
    refine ev_iconst (pc' := 136) (b := (1 : Int32)) rfl rfl rfl ?_
    refine am_bd h (fun q2 hq2 h => ?_)
    refine ev_call (mi := 159) (as := [.ref 85, .int (1 : Int32)]) (rest := []) rfl rfl (Nat.le_of_ble_eq_true rfl) (fm_finding_e (d := d) hq2) ?_
    show am_Ev _ _ _ _ 139 _ _ _ _ _
    obtain rfl := Option.some.inj h
    exact ev_ireturn rfl rfl
  · refine ev_if_t (pc' := 140) rfl rfl (cb_ne_t hc1) ?_
    refine ev_aload_n (pc' := 141) rfl rfl rfl ?_
    refine ev_getfield (pc' := 144) (w := .int (σ 85 26)) rfl rfl rfl rfl ?_
    refine ev_bipush (pc' := 146) (b := (24 : Int32)) rfl rfl rfl ?_
    rcases am_if h with ⟨hc3, h⟩ | ⟨hc3, h⟩
    · refine ev_ic_f (pc' := 149) rfl (by decide) rfl (cb_ne_f hc3) ?_
      refine ev_aload_n (pc' := 150) rfl rfl rfl ?_
      refine ev_iconst (pc' := 151) (b := (4 : Int32)) rfl rfl rfl ?_
      refine am_bd h (fun q4 hq4 h => ?_)
      refine ev_call (mi := 159) (as := [.ref 85, .int (4 : Int32)]) (rest := []) rfl rfl (Nat.le_of_ble_eq_true rfl) (fm_finding_e (d := d) hq4) ?_
      show am_Ev _ _ _ _ 154 _ _ _ _ _
      obtain rfl := Option.some.inj h
      exact ev_ireturn rfl rfl
    · refine ev_ic_t (pc' := 155) rfl rfl (cb_ne_t hc3) ?_
      refine ev_aload_n (pc' := 156) rfl rfl rfl ?_
      refine ev_getfield (pc' := 159) (w := .ref 105) rfl rfl rfl rfl ?_
      refine ev_aload_n (pc' := 160) rfl rfl rfl ?_
      refine ev_getfield (pc' := 163) (w := .int (σ 85 26)) rfl rfl rfl rfl ?_
      refine ev_iload_n (pc' := 164) rfl rfl rfl ?_
      refine ev_sipush (pc' := 167) (b := (1000 : Int32)) rfl rfl rfl ?_
      refine ev_idiv (pc' := 168) rfl rfl (by decide) ?_
      obtain ⟨hg5, h⟩ := am_g_some h
      refine ev_iastore (pc' := 169) rfl rfl rfl hg5 ?_
      refine ev_aload_n (pc' := 170) rfl rfl rfl ?_
      refine ev_getfield (pc' := 173) (w := .ref 107) rfl rfl rfl rfl ?_
      refine ev_aload_n (pc' := 174) rfl rfl rfl ?_
      refine ev_getfield (pc' := 177) (w := .int (σ 85 26)) rfl rfl rfl rfl ?_
      refine ev_iload_n (pc' := 178) rfl rfl rfl ?_
      refine ev_sipush (pc' := 181) (b := (1000 : Int32)) rfl rfl rfl ?_
      refine ev_irem (pc' := 182) rfl rfl (by decide) ?_
      obtain ⟨hg6, h⟩ := am_g_some h
      refine ev_iastore (pc' := 183) rfl rfl rfl hg6 ?_
      refine ev_aload_n (pc' := 184) rfl rfl rfl ?_
      refine ev_getfield (pc' := 187) (w := .ref 106) rfl rfl rfl rfl ?_
      refine ev_aload_n (pc' := 188) rfl rfl rfl ?_
      refine ev_getfield (pc' := 191) (w := .int (σ 85 26)) rfl rfl rfl rfl ?_
      refine ev_iload_n (pc' := 192) rfl rfl rfl ?_
      obtain ⟨hg7, h⟩ := am_g_some h
      refine ev_iastore (pc' := 193) rfl rfl rfl hg7 ?_
      refine ev_aload_n (pc' := 194) rfl rfl rfl ?_
      refine ev_getfield (pc' := 197) (w := .ref 108) rfl rfl rfl rfl ?_
      refine ev_aload_n (pc' := 198) rfl rfl rfl ?_
      refine ev_getfield (pc' := 201) (w := .int (σ 85 26)) rfl rfl rfl rfl ?_
      refine ev_iconst (pc' := 202) (b := (0 : Int32)) rfl rfl rfl ?_
      obtain ⟨hg8, h⟩ := am_g_some h
      refine ev_bastore (pc' := 203) rfl rfl rfl rfl hg8 ?_
      refine ev_aload_n (pc' := 204) rfl rfl rfl ?_
      refine ev_dup (pc' := 205) rfl rfl ?_
      refine ev_getfield (pc' := 208) (w := .int (σ 85 26)) rfl rfl rfl rfl ?_
      refine ev_iconst (pc' := 209) (b := (1 : Int32)) rfl rfl rfl ?_
      refine ev_iadd (pc' := 210) rfl rfl ?_
      refine ev_putfield (pc' := 213) (ci := 11) (f := 26) (z := 0) rfl rfl rfl rfl rfl ?_
      refine ev_aload_n (pc' := 214) rfl rfl rfl ?_
      refine ev_getfield (pc' := 217) (w := .int ((σ 85 26) + (1 : Int32))) rfl rfl rfl rfl ?_
      refine ev_iconst (pc' := 218) (b := (1 : Int32)) rfl rfl rfl ?_
      refine ev_isub (pc' := 219) rfl rfl ?_
      obtain rfl := Option.some.inj h
      exact ev_ireturn rfl rfl
def fm_thing_b129 (x1 : Int32) (x2 : Int32) (s0 : Int32) (σ : am_S) : Option (Int32 × am_S) := fm_thing_b130 x1 x2 s0 σ
set_option maxRecDepth 100000 in
theorem fm_thing_b129_e {X : Nat} {xs : Nat → Int32} {d : Nat} {x1 : Int32} {x2 : Int32} {s0 : Int32} {w3 : Value} {w4 : Value} {w5 : Value} {σ : am_S} {o : Int32 × am_S} (h : fm_thing_b129 x1 x2 s0 σ = some o) : am_Ev am_sh (am_exx X xs) (d + 1) mm_166 129 [.ref 85, .int x1, .int x2, w3, w4, w5] [.int s0] σ (some (.int o.1)) o.2 := by
  unfold fm_thing_b129 at h
  refine ev_istore_n (pc' := 130) (L' := [.ref 85, .int x1, .int x2, .int s0, w4, w5]) rfl rfl rfl rfl ?_
  exact fm_thing_b130_e h
def fm_thing_b65 (x1 : Int32) (x2 : Int32) (x5 : Int32) (σ : am_S) : Option (Int32 × am_S) := fm_thing_b129 x1 x2 (fm_isParish x5 σ) σ
set_option maxRecDepth 100000 in
theorem fm_thing_b65_e {X : Nat} {xs : Nat → Int32} {d : Nat} {x1 : Int32} {x2 : Int32} {x5 : Int32} {w3 : Value} {w4 : Value} {σ : am_S} {o : Int32 × am_S} (h : fm_thing_b65 x1 x2 x5 σ = some o) : am_Ev am_sh (am_exx X xs) (d + 1) mm_166 65 [.ref 85, .int x1, .int x2, w3, w4, .int x5] [] σ (some (.int o.1)) o.2 := by
  unfold fm_thing_b65 at h
  refine ev_aload_n (pc' := 66) rfl rfl rfl ?_
  refine ev_iload (pc' := 68) rfl rfl rfl ?_
  refine ev_call (mi := 181) (as := [.ref 85, .int x5]) (rest := []) rfl rfl (Nat.le_of_ble_eq_true rfl) (fm_isParish_e (d := d) rfl) ?_
  show am_Ev _ _ _ _ 71 _ _ _ _ _
  refine ev_goto (pc' := 129) rfl rfl ?_
  exact fm_thing_b129_e h
def fm_thing_b111 (x1 : Int32) (x2 : Int32) (σ : am_S) : Option (Int32 × am_S) := fm_thing_b129 x1 x2 (1 : Int32) σ
set_option maxRecDepth 100000 in
theorem fm_thing_b111_e {X : Nat} {xs : Nat → Int32} {d : Nat} {x1 : Int32} {x2 : Int32} {w3 : Value} {w4 : Value} {w5 : Value} {σ : am_S} {o : Int32 × am_S} (h : fm_thing_b111 x1 x2 σ = some o) : am_Ev am_sh (am_exx X xs) (d + 1) mm_166 111 [.ref 85, .int x1, .int x2, w3, w4, w5] [] σ (some (.int o.1)) o.2 := by
  unfold fm_thing_b111 at h
  refine ev_iconst (pc' := 112) (b := (1 : Int32)) rfl rfl rfl ?_
  refine ev_goto (pc' := 129) rfl rfl ?_
  exact fm_thing_b129_e h
def fm_thing_b115 (x1 : Int32) (x2 : Int32) (σ : am_S) : Option (Int32 × am_S) := fm_thing_b129 x1 x2 (0 : Int32) σ
set_option maxRecDepth 100000 in
theorem fm_thing_b115_e {X : Nat} {xs : Nat → Int32} {d : Nat} {x1 : Int32} {x2 : Int32} {w3 : Value} {w4 : Value} {w5 : Value} {σ : am_S} {o : Int32 × am_S} (h : fm_thing_b115 x1 x2 σ = some o) : am_Ev am_sh (am_exx X xs) (d + 1) mm_166 115 [.ref 85, .int x1, .int x2, w3, w4, w5] [] σ (some (.int o.1)) o.2 := by
  unfold fm_thing_b115 at h
  refine ev_iconst (pc' := 116) (b := (0 : Int32)) rfl rfl rfl ?_
  refine ev_goto (pc' := 129) rfl rfl ?_
  exact fm_thing_b129_e h
def fm_thing_b34 (x1 : Int32) (x2 : Int32) (s0 : Int32) (σ : am_S) : Option (Int32 × am_S) := (if s0 = 0 then fm_thing_b130 x1 x2 s0 σ else (if (x1 / (1000 : Int32)) = (1 : Int32) then fm_thing_b65 x1 x2 (x1 - x1 / (1000 : Int32) * (1000 : Int32)) σ else (if (x1 / (1000 : Int32)) = (2 : Int32) then fm_thing_b65 x1 x2 (x1 - x1 / (1000 : Int32) * (1000 : Int32)) σ else (if (x1 / (1000 : Int32)) = (5 : Int32) then (if (fm_isThing (x1 - x1 / (1000 : Int32) * (1000 : Int32)) σ) = 0 then fm_thing_b115 x1 x2 σ else am_g (am_in (x1 - x1 / (1000 : Int32) * (1000 : Int32)) 24) <| (if (σ 105 (x1 - x1 / (1000 : Int32) * (1000 : Int32)).toNatClampNeg) = (1 : Int32) then fm_thing_b111 x1 x2 σ else am_g (am_in (x1 - x1 / (1000 : Int32) * (1000 : Int32)) 24) <| (if (σ 105 (x1 - x1 / (1000 : Int32) * (1000 : Int32)).toNatClampNeg) = (2 : Int32) then fm_thing_b111 x1 x2 σ else fm_thing_b115 x1 x2 σ))) else (if (x1 - x1 / (1000 : Int32) * (1000 : Int32)) = 0 then fm_thing_b129 x1 x2 (1 : Int32) σ else fm_thing_b129 x1 x2 (0 : Int32) σ)))))
set_option maxRecDepth 100000 in
theorem fm_thing_b34_e {X : Nat} {xs : Nat → Int32} {d : Nat} {x1 : Int32} {x2 : Int32} {s0 : Int32} {w3 : Value} {w4 : Value} {w5 : Value} {σ : am_S} {o : Int32 × am_S} (h : fm_thing_b34 x1 x2 s0 σ = some o) : am_Ev am_sh (am_exx X xs) (d + 1) mm_166 34 [.ref 85, .int x1, .int x2, w3, w4, w5] [.int s0] σ (some (.int o.1)) o.2 := by
  unfold fm_thing_b34 at h
  refine ev_istore_n (pc' := 35) (L' := [.ref 85, .int x1, .int x2, .int s0, w4, w5]) rfl rfl rfl rfl ?_
  refine ev_iload_n (pc' := 36) rfl rfl rfl ?_
  rcases am_if h with ⟨hc1, h⟩ | ⟨hc1, h⟩
  · refine ev_if_t (pc' := 130) rfl rfl (cb_eq_t hc1) ?_
    exact fm_thing_b130_e h
  · refine ev_if_f (pc' := 39) rfl (by decide) rfl (cb_eq_f hc1) ?_
    refine ev_iload_n (pc' := 40) rfl rfl rfl ?_
    refine ev_sipush (pc' := 43) (b := (1000 : Int32)) rfl rfl rfl ?_
    refine ev_idiv (pc' := 44) rfl rfl (by decide) ?_
    refine ev_istore (pc' := 46) (L' := [.ref 85, .int x1, .int x2, .int s0, .int (x1 / (1000 : Int32)), w5]) rfl rfl rfl rfl ?_
    refine ev_iload_n (pc' := 47) rfl rfl rfl ?_
    refine ev_sipush (pc' := 50) (b := (1000 : Int32)) rfl rfl rfl ?_
    refine ev_irem (pc' := 51) rfl rfl (by decide) ?_
    refine ev_istore (pc' := 53) (L' := [.ref 85, .int x1, .int x2, .int s0, .int (x1 / (1000 : Int32)), .int (x1 - x1 / (1000 : Int32) * (1000 : Int32))]) rfl rfl rfl rfl ?_
    refine ev_iload (pc' := 55) rfl rfl rfl ?_
    refine ev_iconst (pc' := 56) (b := (1 : Int32)) rfl rfl rfl ?_
    rcases am_if h with ⟨hc2, h⟩ | ⟨hc2, h⟩
    · refine ev_ic_t (pc' := 65) rfl rfl (cb_eq_t hc2) ?_
      exact fm_thing_b65_e h
    · refine ev_ic_f (pc' := 59) rfl (by decide) rfl (cb_eq_f hc2) ?_
      refine ev_iload (pc' := 61) rfl rfl rfl ?_
      refine ev_iconst (pc' := 62) (b := (2 : Int32)) rfl rfl rfl ?_
      rcases am_if h with ⟨hc3, h⟩ | ⟨hc3, h⟩
      · refine ev_ic_f (pc' := 65) rfl (by decide) rfl (cb_ne_f hc3) ?_
        exact fm_thing_b65_e h
      · refine ev_ic_t (pc' := 74) rfl rfl (cb_ne_t hc3) ?_
        refine ev_iload (pc' := 76) rfl rfl rfl ?_
        refine ev_iconst (pc' := 77) (b := (5 : Int32)) rfl rfl rfl ?_
        rcases am_if h with ⟨hc4, h⟩ | ⟨hc4, h⟩
        · refine ev_ic_f (pc' := 80) rfl (by decide) rfl (cb_ne_f hc4) ?_
          refine ev_aload_n (pc' := 81) rfl rfl rfl ?_
          refine ev_iload (pc' := 83) rfl rfl rfl ?_
          refine ev_call (mi := 203) (as := [.ref 85, .int (x1 - x1 / (1000 : Int32) * (1000 : Int32))]) (rest := []) rfl rfl (Nat.le_of_ble_eq_true rfl) (fm_isThing_e (d := d) rfl) ?_
          show am_Ev _ _ _ _ 86 _ _ _ _ _
          rcases am_if h with ⟨hc5, h⟩ | ⟨hc5, h⟩
          · refine ev_if_t (pc' := 115) rfl rfl (cb_eq_t hc5) ?_
            exact fm_thing_b115_e h
          · refine ev_if_f (pc' := 89) rfl (by decide) rfl (cb_eq_f hc5) ?_
            refine ev_aload_n (pc' := 90) rfl rfl rfl ?_
            refine ev_getfield (pc' := 93) (w := .ref 105) rfl rfl rfl rfl ?_
            refine ev_iload (pc' := 95) rfl rfl rfl ?_
            obtain ⟨hg6, h⟩ := am_g_some h
            refine ev_iaload (pc' := 96) rfl rfl rfl hg6 ?_
            refine ev_iconst (pc' := 97) (b := (1 : Int32)) rfl rfl rfl ?_
            rcases am_if h with ⟨hc7, h⟩ | ⟨hc7, h⟩
            · refine ev_ic_t (pc' := 111) rfl rfl (cb_eq_t hc7) ?_
              exact fm_thing_b111_e h
            · refine ev_ic_f (pc' := 100) rfl (by decide) rfl (cb_eq_f hc7) ?_
              refine ev_aload_n (pc' := 101) rfl rfl rfl ?_
              refine ev_getfield (pc' := 104) (w := .ref 105) rfl rfl rfl rfl ?_
              refine ev_iload (pc' := 106) rfl rfl rfl ?_
              obtain ⟨hg8, h⟩ := am_g_some h
              refine ev_iaload (pc' := 107) rfl rfl rfl hg8 ?_
              refine ev_iconst (pc' := 108) (b := (2 : Int32)) rfl rfl rfl ?_
              rcases am_if h with ⟨hc9, h⟩ | ⟨hc9, h⟩
              · refine ev_ic_f (pc' := 111) rfl (by decide) rfl (cb_ne_f hc9) ?_
                exact fm_thing_b111_e h
              · refine ev_ic_t (pc' := 115) rfl rfl (cb_ne_t hc9) ?_
                exact fm_thing_b115_e h
        · refine ev_ic_t (pc' := 119) rfl rfl (cb_ne_t hc4) ?_
          refine ev_iload (pc' := 121) rfl rfl rfl ?_
          rcases am_if h with ⟨hc10, h⟩ | ⟨hc10, h⟩
          · refine ev_if_f (pc' := 124) rfl (by decide) rfl (cb_ne_f hc10) ?_
            refine ev_iconst (pc' := 125) (b := (1 : Int32)) rfl rfl rfl ?_
            refine ev_goto (pc' := 129) rfl rfl ?_
            exact fm_thing_b129_e h
          · refine ev_if_t (pc' := 128) rfl rfl (cb_ne_t hc10) ?_
            refine ev_iconst (pc' := 129) (b := (0 : Int32)) rfl rfl rfl ?_
            exact fm_thing_b129_e h
def fm_thing_b33 (x1 : Int32) (x2 : Int32) (σ : am_S) : Option (Int32 × am_S) := fm_thing_b34 x1 x2 (0 : Int32) σ
set_option maxRecDepth 100000 in
theorem fm_thing_b33_e {X : Nat} {xs : Nat → Int32} {d : Nat} {x1 : Int32} {x2 : Int32} {w3 : Value} {w4 : Value} {w5 : Value} {σ : am_S} {o : Int32 × am_S} (h : fm_thing_b33 x1 x2 σ = some o) : am_Ev am_sh (am_exx X xs) (d + 1) mm_166 33 [.ref 85, .int x1, .int x2, w3, w4, w5] [] σ (some (.int o.1)) o.2 := by
  unfold fm_thing_b33 at h
  refine ev_iconst (pc' := 34) (b := (0 : Int32)) rfl rfl rfl ?_
  exact fm_thing_b34_e h
def fm_thing (a1 : Int32) (a2 : Int32) (σ : am_S) : Option (Int32 × am_S) := (if a1 < 0 then fm_thing_b33 a1 a2 σ else (if (fm_isIn (a1 / (1000 : Int32)) (0 : Int32) (6 : Int32) σ) = 0 then fm_thing_b33 a1 a2 σ else (if (fm_isIn a2 (0 : Int32) (10000 : Int32) σ) = 0 then fm_thing_b33 a1 a2 σ else fm_thing_b34 a1 a2 (1 : Int32) σ)))
set_option maxRecDepth 100000 in
theorem fm_thing_e {X : Nat} {xs : Nat → Int32} {d : Nat} {a1 : Int32} {a2 : Int32} {σ : am_S} {o : Int32 × am_S} (h : fm_thing a1 a2 σ = some o) : am_Ev am_sh (am_exx X xs) (d + 1) mm_166 0 [.ref 85, .int a1, .int a2, .null, .null, .null] [] σ (some (.int o.1)) o.2 := by
  unfold fm_thing at h
  refine ev_iload_n (pc' := 1) rfl rfl rfl ?_
  rcases am_if h with ⟨hc1, h⟩ | ⟨hc1, h⟩
  · refine ev_if_t (pc' := 33) rfl rfl (cb_lt_t hc1) ?_
    exact fm_thing_b33_e h
  · refine ev_if_f (pc' := 4) rfl (by decide) rfl (cb_lt_f hc1) ?_
    refine ev_iload_n (pc' := 5) rfl rfl rfl ?_
    refine ev_sipush (pc' := 8) (b := (1000 : Int32)) rfl rfl rfl ?_
    refine ev_idiv (pc' := 9) rfl rfl (by decide) ?_
    refine ev_iconst (pc' := 10) (b := (0 : Int32)) rfl rfl rfl ?_
    refine ev_bipush (pc' := 12) (b := (6 : Int32)) rfl rfl rfl ?_
    refine ev_call (mi := 170) (as := [.int (a1 / (1000 : Int32)), .int (0 : Int32), .int (6 : Int32)]) (rest := []) rfl rfl (Nat.le_of_ble_eq_true rfl) (fm_isIn_e (d := d) rfl) ?_
    show am_Ev _ _ _ _ 15 _ _ _ _ _
    rcases am_if h with ⟨hc2, h⟩ | ⟨hc2, h⟩
    · refine ev_if_t (pc' := 33) rfl rfl (cb_eq_t hc2) ?_
      exact fm_thing_b33_e h
    · refine ev_if_f (pc' := 18) rfl (by decide) rfl (cb_eq_f hc2) ?_
      refine ev_iload_n (pc' := 19) rfl rfl rfl ?_
      refine ev_iconst (pc' := 20) (b := (0 : Int32)) rfl rfl rfl ?_
      refine ev_sipush (pc' := 23) (b := (10000 : Int32)) rfl rfl rfl ?_
      refine ev_call (mi := 170) (as := [.int a2, .int (0 : Int32), .int (10000 : Int32)]) (rest := []) rfl rfl (Nat.le_of_ble_eq_true rfl) (fm_isIn_e (d := d) rfl) ?_
      show am_Ev _ _ _ _ 26 _ _ _ _ _
      rcases am_if h with ⟨hc3, h⟩ | ⟨hc3, h⟩
      · refine ev_if_t (pc' := 33) rfl rfl (cb_eq_t hc3) ?_
        exact fm_thing_b33_e h
      · refine ev_if_f (pc' := 29) rfl (by decide) rfl (cb_eq_f hc3) ?_
        refine ev_iconst (pc' := 30) (b := (1 : Int32)) rfl rfl rfl ?_
        refine ev_goto (pc' := 34) rfl rfl ?_
        exact fm_thing_b34_e h
/-! PartedLandModel.as (85, 'I', 'I'): S -/
def fm_as_b18 (σ : am_S) : Option (Int32 × am_S) := (fm_finding (1 : Int32) σ).bind fun q1 => some (q1.1, q1.2)
set_option maxRecDepth 100000 in
theorem fm_as_b18_e {X : Nat} {xs : Nat → Int32} {d : Nat} {w1 : Value} {w2 : Value} {w3 : Value} {σ : am_S} {o : Int32 × am_S} (h : fm_as_b18 σ = some o) : am_Ev am_sh (am_exx X xs) (d + 1) mm_167 18 [.ref 85, w1, w2, w3] [] σ (some (.int o.1)) o.2 := by
  unfold fm_as_b18 at h
  refine ev_aload_n (pc' := 19) rfl rfl rfl ?_
  refine ev_iconst (pc' := 20) (b := (1 : Int32)) rfl rfl rfl ?_
  refine am_bd h (fun q1 hq1 h => ?_)
  refine ev_call (mi := 159) (as := [.ref 85, .int (1 : Int32)]) (rest := []) rfl rfl (Nat.le_of_ble_eq_true rfl) (fm_finding_e (d := d) hq1) ?_
  show am_Ev _ _ _ _ 23 _ _ _ _ _
  obtain rfl := Option.some.inj h
  exact ev_ireturn rfl rfl
def fm_as_b73 (x1 : Int32) (s0 : Int32) (σ : am_S) : Option (Int32 × am_S) := (if s0 = 0 then (fm_finding (5 : Int32) σ).bind fun q2 => some (q2.1, q2.2) else am_g (am_in x1 24) <| some ((σ 106 x1.toNatClampNeg), σ))
set_option maxRecDepth 100000 in
theorem fm_as_b73_e {X : Nat} {xs : Nat → Int32} {d : Nat} {x1 : Int32} {s0 : Int32} {w2 : Value} {w3 : Value} {σ : am_S} {o : Int32 × am_S} (h : fm_as_b73 x1 s0 σ = some o) : am_Ev am_sh (am_exx X xs) (d + 1) mm_167 73 [.ref 85, .int x1, w2, w3] [.int s0] σ (some (.int o.1)) o.2 := by
  unfold fm_as_b73 at h
  refine ev_istore_n (pc' := 74) (L' := [.ref 85, .int x1, w2, .int s0]) rfl rfl rfl rfl ?_
  refine ev_iload_n (pc' := 75) rfl rfl rfl ?_
  rcases am_if h with ⟨hc1, h⟩ | ⟨hc1, h⟩
  · refine ev_if_t (pc' := 87) rfl rfl (cb_eq_t hc1) ?_
    refine ev_aload_n (pc' := 88) rfl rfl rfl ?_
    refine ev_iconst (pc' := 89) (b := (5 : Int32)) rfl rfl rfl ?_
    refine am_bd h (fun q2 hq2 h => ?_)
    refine ev_call (mi := 159) (as := [.ref 85, .int (5 : Int32)]) (rest := []) rfl rfl (Nat.le_of_ble_eq_true rfl) (fm_finding_e (d := d) hq2) ?_
    show am_Ev _ _ _ _ 92 _ _ _ _ _
    obtain rfl := Option.some.inj h
    exact ev_ireturn rfl rfl
  · refine ev_if_f (pc' := 78) rfl (by decide) rfl (cb_eq_f hc1) ?_
    refine ev_aload_n (pc' := 79) rfl rfl rfl ?_
    refine ev_getfield (pc' := 82) (w := .ref 106) rfl rfl rfl rfl ?_
    refine ev_iload_n (pc' := 83) rfl rfl rfl ?_
    obtain ⟨hg3, h⟩ := am_g_some h
    refine ev_iaload (pc' := 84) rfl rfl rfl hg3 ?_
    refine ev_goto (pc' := 92) rfl rfl ?_
    obtain rfl := Option.some.inj h
    exact ev_ireturn rfl rfl
def fm_as_b68 (x1 : Int32) (σ : am_S) : Option (Int32 × am_S) := fm_as_b73 x1 (1 : Int32) σ
set_option maxRecDepth 100000 in
theorem fm_as_b68_e {X : Nat} {xs : Nat → Int32} {d : Nat} {x1 : Int32} {w2 : Value} {w3 : Value} {σ : am_S} {o : Int32 × am_S} (h : fm_as_b68 x1 σ = some o) : am_Ev am_sh (am_exx X xs) (d + 1) mm_167 68 [.ref 85, .int x1, w2, w3] [] σ (some (.int o.1)) o.2 := by
  unfold fm_as_b68 at h
  refine ev_iconst (pc' := 69) (b := (1 : Int32)) rfl rfl rfl ?_
  refine ev_goto (pc' := 73) rfl rfl ?_
  exact fm_as_b73_e h
def fm_as_b72 (x1 : Int32) (σ : am_S) : Option (Int32 × am_S) := fm_as_b73 x1 (0 : Int32) σ
set_option maxRecDepth 100000 in
theorem fm_as_b72_e {X : Nat} {xs : Nat → Int32} {d : Nat} {x1 : Int32} {w2 : Value} {w3 : Value} {σ : am_S} {o : Int32 × am_S} (h : fm_as_b72 x1 σ = some o) : am_Ev am_sh (am_exx X xs) (d + 1) mm_167 72 [.ref 85, .int x1, w2, w3] [] σ (some (.int o.1)) o.2 := by
  unfold fm_as_b72 at h
  refine ev_iconst (pc' := 73) (b := (0 : Int32)) rfl rfl rfl ?_
  exact fm_as_b73_e h
def fm_as_b53 (x1 : Int32) (x2 : Int32) (σ : am_S) : Option (Int32 × am_S) := (if x2 = (3 : Int32) then am_g (am_in x1 24) <| (if (σ 105 x1.toNatClampNeg) ≤ (3 : Int32) then fm_as_b72 x1 σ else fm_as_b68 x1 σ) else fm_as_b72 x1 σ)
set_option maxRecDepth 100000 in
theorem fm_as_b53_e {X : Nat} {xs : Nat → Int32} {d : Nat} {x1 : Int32} {x2 : Int32} {w3 : Value} {σ : am_S} {o : Int32 × am_S} (h : fm_as_b53 x1 x2 σ = some o) : am_Ev am_sh (am_exx X xs) (d + 1) mm_167 53 [.ref 85, .int x1, .int x2, w3] [] σ (some (.int o.1)) o.2 := by
  unfold fm_as_b53 at h
  refine ev_iload_n (pc' := 54) rfl rfl rfl ?_
  refine ev_iconst (pc' := 55) (b := (3 : Int32)) rfl rfl rfl ?_
  rcases am_if h with ⟨hc1, h⟩ | ⟨hc1, h⟩
  · refine ev_ic_f (pc' := 58) rfl (by decide) rfl (cb_ne_f hc1) ?_
    refine ev_aload_n (pc' := 59) rfl rfl rfl ?_
    refine ev_getfield (pc' := 62) (w := .ref 105) rfl rfl rfl rfl ?_
    refine ev_iload_n (pc' := 63) rfl rfl rfl ?_
    obtain ⟨hg2, h⟩ := am_g_some h
    refine ev_iaload (pc' := 64) rfl rfl rfl hg2 ?_
    refine ev_iconst (pc' := 65) (b := (3 : Int32)) rfl rfl rfl ?_
    rcases am_if h with ⟨hc3, h⟩ | ⟨hc3, h⟩
    · refine ev_ic_t (pc' := 72) rfl rfl (cb_le_t hc3) ?_
      exact fm_as_b72_e h
    · refine ev_ic_f (pc' := 68) rfl (by decide) rfl (cb_le_f hc3) ?_
      exact fm_as_b68_e h
  · refine ev_ic_t (pc' := 72) rfl rfl (cb_ne_t hc1) ?_
    exact fm_as_b72_e h
def fm_as (a1 : Int32) (a2 : Int32) (σ : am_S) : Option (Int32 × am_S) := (if (fm_isThing a1 σ) = 0 then fm_as_b18 σ else (if (fm_isIn a2 (0 : Int32) (6 : Int32) σ) = 0 then fm_as_b18 σ else (if a2 = 0 then fm_as_b68 a1 σ else am_g (am_in a1 24) <| (if (σ 105 a1.toNatClampNeg) = a2 then fm_as_b68 a1 σ else (if a2 = (1 : Int32) then am_g (am_in a1 24) <| (if (σ 105 a1.toNatClampNeg) = (2 : Int32) then fm_as_b68 a1 σ else fm_as_b53 a1 a2 σ) else fm_as_b53 a1 a2 σ)))))
set_option maxRecDepth 100000 in
theorem fm_as_e {X : Nat} {xs : Nat → Int32} {d : Nat} {a1 : Int32} {a2 : Int32} {σ : am_S} {o : Int32 × am_S} (h : fm_as a1 a2 σ = some o) : am_Ev am_sh (am_exx X xs) (d + 1) mm_167 0 [.ref 85, .int a1, .int a2, .null] [] σ (some (.int o.1)) o.2 := by
  unfold fm_as at h
  refine ev_aload_n (pc' := 1) rfl rfl rfl ?_
  refine ev_iload_n (pc' := 2) rfl rfl rfl ?_
  refine ev_call (mi := 203) (as := [.ref 85, .int a1]) (rest := []) rfl rfl (Nat.le_of_ble_eq_true rfl) (fm_isThing_e (d := d) rfl) ?_
  show am_Ev _ _ _ _ 5 _ _ _ _ _
  rcases am_if h with ⟨hc1, h⟩ | ⟨hc1, h⟩
  · refine ev_if_t (pc' := 18) rfl rfl (cb_eq_t hc1) ?_
    exact fm_as_b18_e h
  · refine ev_if_f (pc' := 8) rfl (by decide) rfl (cb_eq_f hc1) ?_
    refine ev_iload_n (pc' := 9) rfl rfl rfl ?_
    refine ev_iconst (pc' := 10) (b := (0 : Int32)) rfl rfl rfl ?_
    refine ev_bipush (pc' := 12) (b := (6 : Int32)) rfl rfl rfl ?_
    refine ev_call (mi := 170) (as := [.int a2, .int (0 : Int32), .int (6 : Int32)]) (rest := []) rfl rfl (Nat.le_of_ble_eq_true rfl) (fm_isIn_e (d := d) rfl) ?_
    show am_Ev _ _ _ _ 15 _ _ _ _ _
    rcases am_if h with ⟨hc2, h⟩ | ⟨hc2, h⟩
    · refine ev_if_f (pc' := 18) rfl (by decide) rfl (cb_ne_f hc2) ?_
      exact fm_as_b18_e h
    · refine ev_if_t (pc' := 24) rfl rfl (cb_ne_t hc2) ?_
      refine ev_iload_n (pc' := 25) rfl rfl rfl ?_
      rcases am_if h with ⟨hc3, h⟩ | ⟨hc3, h⟩
      · refine ev_if_t (pc' := 68) rfl rfl (cb_eq_t hc3) ?_
        exact fm_as_b68_e h
      · refine ev_if_f (pc' := 28) rfl (by decide) rfl (cb_eq_f hc3) ?_
        refine ev_aload_n (pc' := 29) rfl rfl rfl ?_
        refine ev_getfield (pc' := 32) (w := .ref 105) rfl rfl rfl rfl ?_
        refine ev_iload_n (pc' := 33) rfl rfl rfl ?_
        obtain ⟨hg4, h⟩ := am_g_some h
        refine ev_iaload (pc' := 34) rfl rfl rfl hg4 ?_
        refine ev_iload_n (pc' := 35) rfl rfl rfl ?_
        rcases am_if h with ⟨hc5, h⟩ | ⟨hc5, h⟩
        · refine ev_ic_t (pc' := 68) rfl rfl (cb_eq_t hc5) ?_
          exact fm_as_b68_e h
        · refine ev_ic_f (pc' := 38) rfl (by decide) rfl (cb_eq_f hc5) ?_
          refine ev_iload_n (pc' := 39) rfl rfl rfl ?_
          refine ev_iconst (pc' := 40) (b := (1 : Int32)) rfl rfl rfl ?_
          rcases am_if h with ⟨hc6, h⟩ | ⟨hc6, h⟩
          · refine ev_ic_f (pc' := 43) rfl (by decide) rfl (cb_ne_f hc6) ?_
            refine ev_aload_n (pc' := 44) rfl rfl rfl ?_
            refine ev_getfield (pc' := 47) (w := .ref 105) rfl rfl rfl rfl ?_
            refine ev_iload_n (pc' := 48) rfl rfl rfl ?_
            obtain ⟨hg7, h⟩ := am_g_some h
            refine ev_iaload (pc' := 49) rfl rfl rfl hg7 ?_
            refine ev_iconst (pc' := 50) (b := (2 : Int32)) rfl rfl rfl ?_
            rcases am_if h with ⟨hc8, h⟩ | ⟨hc8, h⟩
            · refine ev_ic_t (pc' := 68) rfl rfl (cb_eq_t hc8) ?_
              exact fm_as_b68_e h
            · refine ev_ic_f (pc' := 53) rfl (by decide) rfl (cb_eq_f hc8) ?_
              exact fm_as_b53_e h
          · refine ev_ic_t (pc' := 53) rfl rfl (cb_ne_t hc6) ?_
            exact fm_as_b53_e h
/-! PartedLandModel.isMoved ('I',): T -/
def fm_isMoved (a0 : Int32) (σ : am_S) : Int32 := (if a0 < (3 : Int32) then (0 : Int32) else (1 : Int32))
set_option maxRecDepth 100000 in
theorem fm_isMoved_e {X : Nat} {xs : Nat → Int32} {d : Nat} {a0 : Int32} {σ : am_S} {o : Int32} (h : fm_isMoved a0 σ = o) : am_Ev am_sh (am_exx X xs) (d + 0) mm_165 0 [.int a0] [] σ (some (.int o)) σ := by
  unfold fm_isMoved at h
  refine ev_iload_n (pc' := 1) rfl rfl rfl ?_
  refine ev_iconst (pc' := 2) (b := (3 : Int32)) rfl rfl rfl ?_
  rcases am_if h with ⟨hc1, h⟩ | ⟨hc1, h⟩
  · refine ev_ic_t (pc' := 9) rfl rfl (cb_lt_t hc1) ?_
    refine ev_iconst (pc' := 10) (b := (0 : Int32)) rfl rfl rfl ?_
    subst h
    exact ev_zreturn rfl rfl rfl
  · refine ev_ic_f (pc' := 5) rfl (by decide) rfl (cb_lt_f hc1) ?_
    refine ev_iconst (pc' := 6) (b := (1 : Int32)) rfl rfl rfl ?_
    refine ev_goto (pc' := 10) rfl rfl ?_
    subst h
    exact ev_zreturn rfl rfl rfl
/-! PartedLandModel.tie (85, 'I', 'I'): S -/
def fm_tie_b21 (σ : am_S) : Option (Int32 × am_S) := (fm_finding (1 : Int32) σ).bind fun q1 => some (q1.1, q1.2)
set_option maxRecDepth 100000 in
theorem fm_tie_b21_e {X : Nat} {xs : Nat → Int32} {d : Nat} {w1 : Value} {w2 : Value} {σ : am_S} {o : Int32 × am_S} (h : fm_tie_b21 σ = some o) : am_Ev am_sh (am_exx X xs) (d + 1) mm_168 21 [.ref 85, w1, w2] [] σ (some (.int o.1)) o.2 := by
  unfold fm_tie_b21 at h
  refine ev_aload_n (pc' := 22) rfl rfl rfl ?_
  refine ev_iconst (pc' := 23) (b := (1 : Int32)) rfl rfl rfl ?_
  refine am_bd h (fun q1 hq1 h => ?_)
  refine ev_call (mi := 159) (as := [.ref 85, .int (1 : Int32)]) (rest := []) rfl rfl (Nat.le_of_ble_eq_true rfl) (fm_finding_e (d := d) hq1) ?_
  show am_Ev _ _ _ _ 26 _ _ _ _ _
  obtain rfl := Option.some.inj h
  exact ev_ireturn rfl rfl
def fm_tie_b51 (σ : am_S) : Option (Int32 × am_S) := (fm_finding (5 : Int32) σ).bind fun q1 => some (q1.1, q1.2)
set_option maxRecDepth 100000 in
theorem fm_tie_b51_e {X : Nat} {xs : Nat → Int32} {d : Nat} {w1 : Value} {w2 : Value} {σ : am_S} {o : Int32 × am_S} (h : fm_tie_b51 σ = some o) : am_Ev am_sh (am_exx X xs) (d + 1) mm_168 51 [.ref 85, w1, w2] [] σ (some (.int o.1)) o.2 := by
  unfold fm_tie_b51 at h
  refine ev_aload_n (pc' := 52) rfl rfl rfl ?_
  refine ev_iconst (pc' := 53) (b := (5 : Int32)) rfl rfl rfl ?_
  refine am_bd h (fun q1 hq1 h => ?_)
  refine ev_call (mi := 159) (as := [.ref 85, .int (5 : Int32)]) (rest := []) rfl rfl (Nat.le_of_ble_eq_true rfl) (fm_finding_e (d := d) hq1) ?_
  show am_Ev _ _ _ _ 56 _ _ _ _ _
  obtain rfl := Option.some.inj h
  exact ev_ireturn rfl rfl
def fm_tie (a1 : Int32) (a2 : Int32) (σ : am_S) : Option (Int32 × am_S) := (if (fm_isThing a1 σ) = 0 then fm_tie_b21 σ else (if (fm_isThing a2 σ) = 0 then fm_tie_b21 σ else (if a1 = a2 then fm_tie_b21 σ else am_g (am_in a1 24) <| (if (fm_isMoved (σ 105 a1.toNatClampNeg) σ) = 0 then fm_tie_b51 σ else am_g (am_in a2 24) <| (if (fm_isMoved (σ 105 a2.toNatClampNeg) σ) = 0 then fm_tie_b51 σ else (if (σ 85 31) = (12 : Int32) then (fm_finding (4 : Int32) σ).bind fun q9 => some (q9.1, q9.2) else am_g (am_in (σ 85 31) 12) <| am_g (am_in (σ 85 31) 12) <| some (((σ 85 31) + (1 : Int32)), (am_up (am_up (am_up σ 109 (σ 85 31).toNatClampNeg a1) 110 (σ 85 31).toNatClampNeg a2) 85 31 ((σ 85 31) + (1 : Int32))))))))))
set_option maxRecDepth 100000 in
theorem fm_tie_e {X : Nat} {xs : Nat → Int32} {d : Nat} {a1 : Int32} {a2 : Int32} {σ : am_S} {o : Int32 × am_S} (h : fm_tie a1 a2 σ = some o) : am_Ev am_sh (am_exx X xs) (d + 1) mm_168 0 [.ref 85, .int a1, .int a2] [] σ (some (.int o.1)) o.2 := by
  unfold fm_tie at h
  refine ev_aload_n (pc' := 1) rfl rfl rfl ?_
  refine ev_iload_n (pc' := 2) rfl rfl rfl ?_
  refine ev_call (mi := 203) (as := [.ref 85, .int a1]) (rest := []) rfl rfl (Nat.le_of_ble_eq_true rfl) (fm_isThing_e (d := d) rfl) ?_
  show am_Ev _ _ _ _ 5 _ _ _ _ _
  rcases am_if h with ⟨hc1, h⟩ | ⟨hc1, h⟩
  · refine ev_if_t (pc' := 21) rfl rfl (cb_eq_t hc1) ?_
    exact fm_tie_b21_e h
  · refine ev_if_f (pc' := 8) rfl (by decide) rfl (cb_eq_f hc1) ?_
    refine ev_aload_n (pc' := 9) rfl rfl rfl ?_
    refine ev_iload_n (pc' := 10) rfl rfl rfl ?_
    refine ev_call (mi := 203) (as := [.ref 85, .int a2]) (rest := []) rfl rfl (Nat.le_of_ble_eq_true rfl) (fm_isThing_e (d := d) rfl) ?_
    show am_Ev _ _ _ _ 13 _ _ _ _ _
    rcases am_if h with ⟨hc2, h⟩ | ⟨hc2, h⟩
    · refine ev_if_t (pc' := 21) rfl rfl (cb_eq_t hc2) ?_
      exact fm_tie_b21_e h
    · refine ev_if_f (pc' := 16) rfl (by decide) rfl (cb_eq_f hc2) ?_
      refine ev_iload_n (pc' := 17) rfl rfl rfl ?_
      refine ev_iload_n (pc' := 18) rfl rfl rfl ?_
      rcases am_if h with ⟨hc3, h⟩ | ⟨hc3, h⟩
      · refine ev_ic_f (pc' := 21) rfl (by decide) rfl (cb_ne_f hc3) ?_
        exact fm_tie_b21_e h
      · refine ev_ic_t (pc' := 27) rfl rfl (cb_ne_t hc3) ?_
        refine ev_aload_n (pc' := 28) rfl rfl rfl ?_
        refine ev_getfield (pc' := 31) (w := .ref 105) rfl rfl rfl rfl ?_
        refine ev_iload_n (pc' := 32) rfl rfl rfl ?_
        obtain ⟨hg4, h⟩ := am_g_some h
        refine ev_iaload (pc' := 33) rfl rfl rfl hg4 ?_
        refine ev_call (mi := 165) (as := [.int (σ 105 a1.toNatClampNeg)]) (rest := []) rfl rfl (Nat.le_of_ble_eq_true rfl) (fm_isMoved_e (d := d) rfl) ?_
        show am_Ev _ _ _ _ 36 _ _ _ _ _
        rcases am_if h with ⟨hc5, h⟩ | ⟨hc5, h⟩
        · refine ev_if_t (pc' := 51) rfl rfl (cb_eq_t hc5) ?_
          exact fm_tie_b51_e h
        · refine ev_if_f (pc' := 39) rfl (by decide) rfl (cb_eq_f hc5) ?_
          refine ev_aload_n (pc' := 40) rfl rfl rfl ?_
          refine ev_getfield (pc' := 43) (w := .ref 105) rfl rfl rfl rfl ?_
          refine ev_iload_n (pc' := 44) rfl rfl rfl ?_
          obtain ⟨hg6, h⟩ := am_g_some h
          refine ev_iaload (pc' := 45) rfl rfl rfl hg6 ?_
          refine ev_call (mi := 165) (as := [.int (σ 105 a2.toNatClampNeg)]) (rest := []) rfl rfl (Nat.le_of_ble_eq_true rfl) (fm_isMoved_e (d := d) rfl) ?_
          show am_Ev _ _ _ _ 48 _ _ _ _ _
          rcases am_if h with ⟨hc7, h⟩ | ⟨hc7, h⟩
          · refine ev_if_f (pc' := 51) rfl (by decide) rfl (cb_ne_f hc7) ?_
            exact fm_tie_b51_e h
          · refine ev_if_t (pc' := 57) rfl rfl (cb_ne_t hc7) ?_
            refine ev_aload_n (pc' := 58) rfl rfl rfl ?_
            refine ev_getfield (pc' := 61) (w := .int (σ 85 31)) rfl rfl rfl rfl ?_
            refine ev_bipush (pc' := 63) (b := (12 : Int32)) rfl rfl rfl ?_
            rcases am_if h with ⟨hc8, h⟩ | ⟨hc8, h⟩
            · refine ev_ic_f (pc' := 66) rfl (by decide) rfl (cb_ne_f hc8) ?_
              refine ev_aload_n (pc' := 67) rfl rfl rfl ?_
              refine ev_iconst (pc' := 68) (b := (4 : Int32)) rfl rfl rfl ?_
              refine am_bd h (fun q9 hq9 h => ?_)
              refine ev_call (mi := 159) (as := [.ref 85, .int (4 : Int32)]) (rest := []) rfl rfl (Nat.le_of_ble_eq_true rfl) (fm_finding_e (d := d) hq9) ?_
              show am_Ev _ _ _ _ 71 _ _ _ _ _
              obtain rfl := Option.some.inj h
              exact ev_ireturn rfl rfl
            · refine ev_ic_t (pc' := 72) rfl rfl (cb_ne_t hc8) ?_
              refine ev_aload_n (pc' := 73) rfl rfl rfl ?_
              refine ev_getfield (pc' := 76) (w := .ref 109) rfl rfl rfl rfl ?_
              refine ev_aload_n (pc' := 77) rfl rfl rfl ?_
              refine ev_getfield (pc' := 80) (w := .int (σ 85 31)) rfl rfl rfl rfl ?_
              refine ev_iload_n (pc' := 81) rfl rfl rfl ?_
              obtain ⟨hg10, h⟩ := am_g_some h
              refine ev_iastore (pc' := 82) rfl rfl rfl hg10 ?_
              refine ev_aload_n (pc' := 83) rfl rfl rfl ?_
              refine ev_getfield (pc' := 86) (w := .ref 110) rfl rfl rfl rfl ?_
              refine ev_aload_n (pc' := 87) rfl rfl rfl ?_
              refine ev_getfield (pc' := 90) (w := .int (σ 85 31)) rfl rfl rfl rfl ?_
              refine ev_iload_n (pc' := 91) rfl rfl rfl ?_
              obtain ⟨hg11, h⟩ := am_g_some h
              refine ev_iastore (pc' := 92) rfl rfl rfl hg11 ?_
              refine ev_aload_n (pc' := 93) rfl rfl rfl ?_
              refine ev_dup (pc' := 94) rfl rfl ?_
              refine ev_getfield (pc' := 97) (w := .int (σ 85 31)) rfl rfl rfl rfl ?_
              refine ev_iconst (pc' := 98) (b := (1 : Int32)) rfl rfl rfl ?_
              refine ev_iadd (pc' := 99) rfl rfl ?_
              refine ev_putfield (pc' := 102) (ci := 11) (f := 31) (z := 0) rfl rfl rfl rfl rfl ?_
              refine ev_aload_n (pc' := 103) rfl rfl rfl ?_
              refine ev_getfield (pc' := 106) (w := .int ((σ 85 31) + (1 : Int32))) rfl rfl rfl rfl ?_
              obtain rfl := Option.some.inj h
              exact ev_ireturn rfl rfl
/-! PartedLandModel.part (85, 'I', 'I'): S -/
def fm_part_b13 (σ : am_S) : Option (Int32 × am_S) := (fm_finding (1 : Int32) σ).bind fun q1 => some (q1.1, q1.2)
set_option maxRecDepth 100000 in
theorem fm_part_b13_e {X : Nat} {xs : Nat → Int32} {d : Nat} {w1 : Value} {w2 : Value} {σ : am_S} {o : Int32 × am_S} (h : fm_part_b13 σ = some o) : am_Ev am_sh (am_exx X xs) (d + 1) mm_169 13 [.ref 85, w1, w2] [] σ (some (.int o.1)) o.2 := by
  unfold fm_part_b13 at h
  refine ev_aload_n (pc' := 14) rfl rfl rfl ?_
  refine ev_iconst (pc' := 15) (b := (1 : Int32)) rfl rfl rfl ?_
  refine am_bd h (fun q1 hq1 h => ?_)
  refine ev_call (mi := 159) (as := [.ref 85, .int (1 : Int32)]) (rest := []) rfl rfl (Nat.le_of_ble_eq_true rfl) (fm_finding_e (d := d) hq1) ?_
  show am_Ev _ _ _ _ 18 _ _ _ _ _
  obtain rfl := Option.some.inj h
  exact ev_ireturn rfl rfl
def fm_part (a1 : Int32) (a2 : Int32) (σ : am_S) : Option (Int32 × am_S) := (if (fm_isThing a1 σ) = 0 then fm_part_b13 σ else (if (1 : Int32) ≤ a2 then am_g (am_in a1 24) <| (if (fm_isMoved (σ 105 a1.toNatClampNeg) σ) = 0 then (fm_finding (5 : Int32) σ).bind fun q5 => some (q5.1, q5.2) else am_g (am_in a1 24) <| (if a2 < (σ 106 a1.toNatClampNeg) then (if (σ 85 26) = (24 : Int32) then (fm_finding (4 : Int32) σ).bind fun q9 => some (q9.1, q9.2) else am_g (am_in a1 24) <| am_g (am_in (σ 85 26) 24) <| am_g (am_in a1 24) <| am_g (am_in (σ 85 26) 24) <| am_g (am_in (σ 85 26) 24) <| am_g (am_in (σ 85 26) 24) <| am_g (am_in a1 24) <| am_g (am_in a1 24) <| some ((((σ 85 26) + (1 : Int32)) - (1 : Int32)), (am_up (am_up (am_up (am_up (am_up (am_up σ 105 (σ 85 26).toNatClampNeg (σ 105 a1.toNatClampNeg)) 107 (σ 85 26).toNatClampNeg (σ 107 a1.toNatClampNeg)) 106 (σ 85 26).toNatClampNeg a2) 108 (σ 85 26).toNatClampNeg (0 : Int32)) 106 a1.toNatClampNeg (((am_up (am_up (am_up σ 105 (σ 85 26).toNatClampNeg (σ 105 a1.toNatClampNeg)) 107 (σ 85 26).toNatClampNeg (σ 107 a1.toNatClampNeg)) 106 (σ 85 26).toNatClampNeg a2) 106 a1.toNatClampNeg) - a2)) 85 26 ((σ 85 26) + (1 : Int32))))) else (fm_finding (3 : Int32) σ).bind fun q18 => some (q18.1, q18.2))) else fm_part_b13 σ))
set_option maxRecDepth 100000 in
theorem fm_part_e {X : Nat} {xs : Nat → Int32} {d : Nat} {a1 : Int32} {a2 : Int32} {σ : am_S} {o : Int32 × am_S} (h : fm_part a1 a2 σ = some o) : am_Ev am_sh (am_exx X xs) (d + 1) mm_169 0 [.ref 85, .int a1, .int a2] [] σ (some (.int o.1)) o.2 := by
  unfold fm_part at h
  refine ev_aload_n (pc' := 1) rfl rfl rfl ?_
  refine ev_iload_n (pc' := 2) rfl rfl rfl ?_
  refine ev_call (mi := 203) (as := [.ref 85, .int a1]) (rest := []) rfl rfl (Nat.le_of_ble_eq_true rfl) (fm_isThing_e (d := d) rfl) ?_
  show am_Ev _ _ _ _ 5 _ _ _ _ _
  rcases am_if h with ⟨hc1, h⟩ | ⟨hc1, h⟩
  · refine ev_if_t (pc' := 13) rfl rfl (cb_eq_t hc1) ?_
    exact fm_part_b13_e h
  · refine ev_if_f (pc' := 8) rfl (by decide) rfl (cb_eq_f hc1) ?_
    refine ev_iload_n (pc' := 9) rfl rfl rfl ?_
    refine ev_iconst (pc' := 10) (b := (1 : Int32)) rfl rfl rfl ?_
    rcases am_if h with ⟨hc2, h⟩ | ⟨hc2, h⟩
    · refine ev_ic_t (pc' := 19) rfl rfl (cb_ge_t hc2) ?_
      refine ev_aload_n (pc' := 20) rfl rfl rfl ?_
      refine ev_getfield (pc' := 23) (w := .ref 105) rfl rfl rfl rfl ?_
      refine ev_iload_n (pc' := 24) rfl rfl rfl ?_
      obtain ⟨hg3, h⟩ := am_g_some h
      refine ev_iaload (pc' := 25) rfl rfl rfl hg3 ?_
      refine ev_call (mi := 165) (as := [.int (σ 105 a1.toNatClampNeg)]) (rest := []) rfl rfl (Nat.le_of_ble_eq_true rfl) (fm_isMoved_e (d := d) rfl) ?_
      show am_Ev _ _ _ _ 28 _ _ _ _ _
      rcases am_if h with ⟨hc4, h⟩ | ⟨hc4, h⟩
      · refine ev_if_f (pc' := 31) rfl (by decide) rfl (cb_ne_f hc4) ?_
        refine ev_aload_n (pc' := 32) rfl rfl rfl ?_
        refine ev_iconst (pc' := 33) (b := (5 : Int32)) rfl rfl rfl ?_
        refine am_bd h (fun q5 hq5 h => ?_)
        refine ev_call (mi := 159) (as := [.ref 85, .int (5 : Int32)]) (rest := []) rfl rfl (Nat.le_of_ble_eq_true rfl) (fm_finding_e (d := d) hq5) ?_
        show am_Ev _ _ _ _ 36 _ _ _ _ _
        obtain rfl := Option.some.inj h
        exact ev_ireturn rfl rfl
      · refine ev_if_t (pc' := 37) rfl rfl (cb_ne_t hc4) ?_
        refine ev_iload_n (pc' := 38) rfl rfl rfl ?_
        refine ev_aload_n (pc' := 39) rfl rfl rfl ?_
        refine ev_getfield (pc' := 42) (w := .ref 106) rfl rfl rfl rfl ?_
        refine ev_iload_n (pc' := 43) rfl rfl rfl ?_
        obtain ⟨hg6, h⟩ := am_g_some h
        refine ev_iaload (pc' := 44) rfl rfl rfl hg6 ?_
        rcases am_if h with ⟨hc7, h⟩ | ⟨hc7, h⟩
        · refine ev_ic_t (pc' := 53) rfl rfl (cb_lt_t hc7) ?_
          refine ev_aload_n (pc' := 54) rfl rfl rfl ?_
          refine ev_getfield (pc' := 57) (w := .int (σ 85 26)) rfl rfl rfl rfl ?_
          refine ev_bipush (pc' := 59) (b := (24 : Int32)) rfl rfl rfl ?_
          rcases am_if h with ⟨hc8, h⟩ | ⟨hc8, h⟩
          · refine ev_ic_f (pc' := 62) rfl (by decide) rfl (cb_ne_f hc8) ?_
            refine ev_aload_n (pc' := 63) rfl rfl rfl ?_
            refine ev_iconst (pc' := 64) (b := (4 : Int32)) rfl rfl rfl ?_
            refine am_bd h (fun q9 hq9 h => ?_)
            refine ev_call (mi := 159) (as := [.ref 85, .int (4 : Int32)]) (rest := []) rfl rfl (Nat.le_of_ble_eq_true rfl) (fm_finding_e (d := d) hq9) ?_
            show am_Ev _ _ _ _ 67 _ _ _ _ _
            obtain rfl := Option.some.inj h
            exact ev_ireturn rfl rfl
          · refine ev_ic_t (pc' := 68) rfl rfl (cb_ne_t hc8) ?_
            refine ev_aload_n (pc' := 69) rfl rfl rfl ?_
            refine ev_getfield (pc' := 72) (w := .ref 105) rfl rfl rfl rfl ?_
            refine ev_aload_n (pc' := 73) rfl rfl rfl ?_
            refine ev_getfield (pc' := 76) (w := .int (σ 85 26)) rfl rfl rfl rfl ?_
            refine ev_aload_n (pc' := 77) rfl rfl rfl ?_
            refine ev_getfield (pc' := 80) (w := .ref 105) rfl rfl rfl rfl ?_
            refine ev_iload_n (pc' := 81) rfl rfl rfl ?_
            obtain ⟨hg10, h⟩ := am_g_some h
            refine ev_iaload (pc' := 82) rfl rfl rfl hg10 ?_
            obtain ⟨hg11, h⟩ := am_g_some h
            refine ev_iastore (pc' := 83) rfl rfl rfl hg11 ?_
            refine ev_aload_n (pc' := 84) rfl rfl rfl ?_
            refine ev_getfield (pc' := 87) (w := .ref 107) rfl rfl rfl rfl ?_
            refine ev_aload_n (pc' := 88) rfl rfl rfl ?_
            refine ev_getfield (pc' := 91) (w := .int (σ 85 26)) rfl rfl rfl rfl ?_
            refine ev_aload_n (pc' := 92) rfl rfl rfl ?_
            refine ev_getfield (pc' := 95) (w := .ref 107) rfl rfl rfl rfl ?_
            refine ev_iload_n (pc' := 96) rfl rfl rfl ?_
            obtain ⟨hg12, h⟩ := am_g_some h
            refine ev_iaload (pc' := 97) rfl rfl rfl hg12 ?_
            change am_Ev _ _ _ _ _ _ (.int (σ 107 a1.toNatClampNeg) :: [.int (σ 85 26), .ref 107]) _ _ _
            obtain ⟨hg13, h⟩ := am_g_some h
            refine ev_iastore (pc' := 98) rfl rfl rfl hg13 ?_
            refine ev_aload_n (pc' := 99) rfl rfl rfl ?_
            refine ev_getfield (pc' := 102) (w := .ref 106) rfl rfl rfl rfl ?_
            refine ev_aload_n (pc' := 103) rfl rfl rfl ?_
            refine ev_getfield (pc' := 106) (w := .int (σ 85 26)) rfl rfl rfl rfl ?_
            refine ev_iload_n (pc' := 107) rfl rfl rfl ?_
            obtain ⟨hg14, h⟩ := am_g_some h
            refine ev_iastore (pc' := 108) rfl rfl rfl hg14 ?_
            refine ev_aload_n (pc' := 109) rfl rfl rfl ?_
            refine ev_getfield (pc' := 112) (w := .ref 108) rfl rfl rfl rfl ?_
            refine ev_aload_n (pc' := 113) rfl rfl rfl ?_
            refine ev_getfield (pc' := 116) (w := .int (σ 85 26)) rfl rfl rfl rfl ?_
            refine ev_iconst (pc' := 117) (b := (0 : Int32)) rfl rfl rfl ?_
            obtain ⟨hg15, h⟩ := am_g_some h
            refine ev_bastore (pc' := 118) rfl rfl rfl rfl hg15 ?_
            refine ev_aload_n (pc' := 119) rfl rfl rfl ?_
            refine ev_getfield (pc' := 122) (w := .ref 106) rfl rfl rfl rfl ?_
            refine ev_iload_n (pc' := 123) rfl rfl rfl ?_
            refine ev_dup2 (pc' := 124) rfl rfl ?_
            obtain ⟨hg16, h⟩ := am_g_some h
            refine ev_iaload (pc' := 125) rfl rfl rfl hg16 ?_
            change am_Ev _ _ _ _ _ _ (.int ((am_up (am_up (am_up σ 105 (σ 85 26).toNatClampNeg (σ 105 a1.toNatClampNeg)) 107 (σ 85 26).toNatClampNeg (σ 107 a1.toNatClampNeg)) 106 (σ 85 26).toNatClampNeg a2) 106 a1.toNatClampNeg) :: [.int a1, .ref 106]) _ _ _
            refine ev_iload_n (pc' := 126) rfl rfl rfl ?_
            refine ev_isub (pc' := 127) rfl rfl ?_
            obtain ⟨hg17, h⟩ := am_g_some h
            refine ev_iastore (pc' := 128) rfl rfl rfl hg17 ?_
            refine ev_aload_n (pc' := 129) rfl rfl rfl ?_
            refine ev_dup (pc' := 130) rfl rfl ?_
            refine ev_getfield (pc' := 133) (w := .int (σ 85 26)) rfl rfl rfl rfl ?_
            refine ev_iconst (pc' := 134) (b := (1 : Int32)) rfl rfl rfl ?_
            refine ev_iadd (pc' := 135) rfl rfl ?_
            refine ev_putfield (pc' := 138) (ci := 11) (f := 26) (z := 0) rfl rfl rfl rfl rfl ?_
            refine ev_aload_n (pc' := 139) rfl rfl rfl ?_
            refine ev_getfield (pc' := 142) (w := .int ((σ 85 26) + (1 : Int32))) rfl rfl rfl rfl ?_
            refine ev_iconst (pc' := 143) (b := (1 : Int32)) rfl rfl rfl ?_
            refine ev_isub (pc' := 144) rfl rfl ?_
            obtain rfl := Option.some.inj h
            exact ev_ireturn rfl rfl
        · refine ev_ic_f (pc' := 47) rfl (by decide) rfl (cb_lt_f hc7) ?_
          refine ev_aload_n (pc' := 48) rfl rfl rfl ?_
          refine ev_iconst (pc' := 49) (b := (3 : Int32)) rfl rfl rfl ?_
          refine am_bd h (fun q18 hq18 h => ?_)
          refine ev_call (mi := 159) (as := [.ref 85, .int (3 : Int32)]) (rest := []) rfl rfl (Nat.le_of_ble_eq_true rfl) (fm_finding_e (d := d) hq18) ?_
          show am_Ev _ _ _ _ 52 _ _ _ _ _
          obtain rfl := Option.some.inj h
          exact ev_ireturn rfl rfl
    · refine ev_ic_f (pc' := 13) rfl (by decide) rfl (cb_ge_f hc2) ?_
      exact fm_part_b13_e h
/-! PartedLandModel.counts (85, 'I'): P -/
def fm_counts_b30 (σ : am_S) : Option Int32 := some (1 : Int32)
set_option maxRecDepth 100000 in
theorem fm_counts_b30_e {X : Nat} {xs : Nat → Int32} {d : Nat} {w0 : Value} {w1 : Value} {σ : am_S} {o : Int32} (h : fm_counts_b30 σ = some o) : am_Ev am_sh (am_exx X xs) (d + 1) mm_171 30 [w0, w1] [] σ (some (.int o)) σ := by
  unfold fm_counts_b30 at h
  refine ev_iconst (pc' := 31) (b := (1 : Int32)) rfl rfl rfl ?_
  refine ev_goto (pc' := 35) rfl rfl ?_
  obtain rfl := Option.some.inj h
  exact ev_zreturn rfl rfl rfl
def fm_counts (a1 : Int32) (σ : am_S) : Option Int32 := am_g (am_in a1 24) <| (if (fm_isMoved (σ 105 a1.toNatClampNeg) σ) = 0 then some (0 : Int32) else am_g (am_in a1 24) <| (if (σ 105 a1.toNatClampNeg) = (5 : Int32) then (if (σ 85 58) = (1 : Int32) then some (0 : Int32) else fm_counts_b30 σ) else fm_counts_b30 σ))
set_option maxRecDepth 100000 in
theorem fm_counts_e {X : Nat} {xs : Nat → Int32} {d : Nat} {a1 : Int32} {σ : am_S} {o : Int32} (h : fm_counts a1 σ = some o) : am_Ev am_sh (am_exx X xs) (d + 1) mm_171 0 [.ref 85, .int a1] [] σ (some (.int o)) σ := by
  unfold fm_counts at h
  refine ev_aload_n (pc' := 1) rfl rfl rfl ?_
  refine ev_getfield (pc' := 4) (w := .ref 105) rfl rfl rfl rfl ?_
  refine ev_iload_n (pc' := 5) rfl rfl rfl ?_
  obtain ⟨hg1, h⟩ := am_g_some h
  refine ev_iaload (pc' := 6) rfl rfl rfl hg1 ?_
  refine ev_call (mi := 165) (as := [.int (σ 105 a1.toNatClampNeg)]) (rest := []) rfl rfl (Nat.le_of_ble_eq_true rfl) (fm_isMoved_e (d := d) rfl) ?_
  show am_Ev _ _ _ _ 9 _ _ _ _ _
  rcases am_if h with ⟨hc2, h⟩ | ⟨hc2, h⟩
  · refine ev_if_t (pc' := 34) rfl rfl (cb_eq_t hc2) ?_
    refine ev_iconst (pc' := 35) (b := (0 : Int32)) rfl rfl rfl ?_
    obtain rfl := Option.some.inj h
    exact ev_zreturn rfl rfl rfl
  · refine ev_if_f (pc' := 12) rfl (by decide) rfl (cb_eq_f hc2) ?_
    refine ev_aload_n (pc' := 13) rfl rfl rfl ?_
    refine ev_getfield (pc' := 16) (w := .ref 105) rfl rfl rfl rfl ?_
    refine ev_iload_n (pc' := 17) rfl rfl rfl ?_
    obtain ⟨hg3, h⟩ := am_g_some h
    refine ev_iaload (pc' := 18) rfl rfl rfl hg3 ?_
    refine ev_iconst (pc' := 19) (b := (5 : Int32)) rfl rfl rfl ?_
    rcases am_if h with ⟨hc4, h⟩ | ⟨hc4, h⟩
    · refine ev_ic_f (pc' := 22) rfl (by decide) rfl (cb_ne_f hc4) ?_
      refine ev_aload_n (pc' := 23) rfl rfl rfl ?_
      refine ev_getfield (pc' := 26) (w := .int (σ 85 58)) rfl rfl rfl rfl ?_
      refine ev_iconst (pc' := 27) (b := (1 : Int32)) rfl rfl rfl ?_
      rcases am_if h with ⟨hc5, h⟩ | ⟨hc5, h⟩
      · refine ev_ic_t (pc' := 34) rfl rfl (cb_eq_t hc5) ?_
        refine ev_iconst (pc' := 35) (b := (0 : Int32)) rfl rfl rfl ?_
        obtain rfl := Option.some.inj h
        exact ev_zreturn rfl rfl rfl
      · refine ev_ic_f (pc' := 30) rfl (by decide) rfl (cb_eq_f hc5) ?_
        exact fm_counts_b30_e h
    · refine ev_ic_t (pc' := 30) rfl rfl (cb_ne_t hc4) ?_
      exact fm_counts_b30_e h
/-! PartedLandModel.tellGroups (85,): S -/
def fm_tellGroups_b122 (N : Nat) (k31 : Int32 → am_S → Option am_S) (k39 : Int32 → Int32 → am_S → Option am_S) (x2 : Int32) (x3 : Int32) (s0 : Int32) (s1 : Int32) (σ : am_S) : Option am_S := am_g (am_in s1 24) <| k39 x2 (x3 + (1 : Int32)) (am_up σ 126 s1.toNatClampNeg s0)
set_option maxRecDepth 100000 in
theorem fm_tellGroups_b122_e {X : Nat} {xs : Nat → Int32} {d : Nat} {N : Nat} {k31 : Int32 → am_S → Option am_S} (hk31 : ∀ {x2 : Int32} {w1 : Value} {w3 : Value} {w4 : Value} {w5 : Value} {σ : am_S} {o : am_S}, k31 x2 σ = some o → am_Ev am_sh (am_exx X xs) (d + 3) mm_172 31 [.ref 85, w1, .int x2, w3, w4, w5] [] σ (none) o) {k39 : Int32 → Int32 → am_S → Option am_S} (hk39 : ∀ {x2 : Int32} {x3 : Int32} {w1 : Value} {w4 : Value} {w5 : Value} {σ : am_S} {o : am_S}, k39 x2 x3 σ = some o → am_Ev am_sh (am_exx X xs) (d + 3) mm_172 39 [.ref 85, w1, .int x2, .int x3, w4, w5] [] σ (none) o) {x2 : Int32} {x3 : Int32} {s0 : Int32} {s1 : Int32} {w1 : Value} {w4 : Value} {w5 : Value} {σ : am_S} {o : am_S} (h : fm_tellGroups_b122 N k31 k39 x2 x3 s0 s1 σ = some o) : am_Ev am_sh (am_exx X xs) (d + 3) mm_172 122 [.ref 85, w1, .int x2, .int x3, w4, w5] [.int s0, .int s1, .ref 126] σ (none) o := by
  unfold fm_tellGroups_b122 at h
  obtain ⟨hg1, h⟩ := am_g_some h
  refine ev_iastore (pc' := 123) rfl rfl rfl hg1 ?_
  refine ev_iinc (pc' := 126) (L' := [.ref 85, w1, .int x2, .int (x3 + (1 : Int32)), w4, w5]) (b := (1 : Int32)) rfl rfl rfl rfl rfl ?_
  refine ev_goto (pc' := 39) rfl rfl ?_
  exact hk39 h
def fm_tellGroups_b97 (N : Nat) (k31 : Int32 → am_S → Option am_S) (k39 : Int32 → Int32 → am_S → Option am_S) (x2 : Int32) (x3 : Int32) (x4 : Int32) (x5 : Int32) (s0 : Int32) (s1 : Int32) (σ : am_S) : Option am_S := am_g (am_in s1 24) <| am_g (am_in x3 12) <| (if x5 ≤ x4 then fm_tellGroups_b122 N k31 k39 x2 x3 x5 (σ 110 x3.toNatClampNeg) (am_up σ 126 s1.toNatClampNeg s0) else fm_tellGroups_b122 N k31 k39 x2 x3 x4 (σ 110 x3.toNatClampNeg) (am_up σ 126 s1.toNatClampNeg s0))
set_option maxRecDepth 100000 in
theorem fm_tellGroups_b97_e {X : Nat} {xs : Nat → Int32} {d : Nat} {N : Nat} {k31 : Int32 → am_S → Option am_S} (hk31 : ∀ {x2 : Int32} {w1 : Value} {w3 : Value} {w4 : Value} {w5 : Value} {σ : am_S} {o : am_S}, k31 x2 σ = some o → am_Ev am_sh (am_exx X xs) (d + 3) mm_172 31 [.ref 85, w1, .int x2, w3, w4, w5] [] σ (none) o) {k39 : Int32 → Int32 → am_S → Option am_S} (hk39 : ∀ {x2 : Int32} {x3 : Int32} {w1 : Value} {w4 : Value} {w5 : Value} {σ : am_S} {o : am_S}, k39 x2 x3 σ = some o → am_Ev am_sh (am_exx X xs) (d + 3) mm_172 39 [.ref 85, w1, .int x2, .int x3, w4, w5] [] σ (none) o) {x2 : Int32} {x3 : Int32} {x4 : Int32} {x5 : Int32} {s0 : Int32} {s1 : Int32} {w1 : Value} {σ : am_S} {o : am_S} (h : fm_tellGroups_b97 N k31 k39 x2 x3 x4 x5 s0 s1 σ = some o) : am_Ev am_sh (am_exx X xs) (d + 3) mm_172 97 [.ref 85, w1, .int x2, .int x3, .int x4, .int x5] [.int s0, .int s1, .ref 126] σ (none) o := by
  unfold fm_tellGroups_b97 at h
  obtain ⟨hg1, h⟩ := am_g_some h
  refine ev_iastore (pc' := 98) rfl rfl rfl hg1 ?_
  refine ev_aload_n (pc' := 99) rfl rfl rfl ?_
  refine ev_getfield (pc' := 102) (w := .ref 126) rfl rfl rfl rfl ?_
  refine ev_aload_n (pc' := 103) rfl rfl rfl ?_
  refine ev_getfield (pc' := 106) (w := .ref 110) rfl rfl rfl rfl ?_
  refine ev_iload_n (pc' := 107) rfl rfl rfl ?_
  obtain ⟨hg2, h⟩ := am_g_some h
  refine ev_iaload (pc' := 108) rfl rfl rfl hg2 ?_
  change am_Ev _ _ _ _ _ _ (.int (σ 110 x3.toNatClampNeg) :: [.ref 126]) _ _ _
  refine ev_iload (pc' := 110) rfl rfl rfl ?_
  refine ev_iload (pc' := 112) rfl rfl rfl ?_
  rcases am_if h with ⟨hc3, h⟩ | ⟨hc3, h⟩
  · refine ev_ic_t (pc' := 120) rfl rfl (cb_ge_t hc3) ?_
    refine ev_iload (pc' := 122) rfl rfl rfl ?_
    exact fm_tellGroups_b122_e (hk31 := hk31) (hk39 := hk39) h
  · refine ev_ic_f (pc' := 115) rfl (by decide) rfl (cb_ge_f hc3) ?_
    refine ev_iload (pc' := 117) rfl rfl rfl ?_
    refine ev_goto (pc' := 122) rfl rfl ?_
    exact fm_tellGroups_b122_e (hk31 := hk31) (hk39 := hk39) h
def fm_tellGroups_b39 (N : Nat) (k31 : Int32 → am_S → Option am_S) : Nat → Int32 → Int32 → am_S → Option am_S
  | 0, _, _, _ => none
  | n + 1, x2, x3, σ => (if (σ 85 31) ≤ x3 then k31 (x2 + (1 : Int32)) σ else am_g (am_in x3 12) <| am_g (am_in (σ 109 x3.toNatClampNeg) 24) <| am_g (am_in x3 12) <| am_g (am_in (σ 110 x3.toNatClampNeg) 24) <| am_g (am_in x3 12) <| (if (σ 126 (σ 110 x3.toNatClampNeg).toNatClampNeg) ≤ (σ 126 (σ 109 x3.toNatClampNeg).toNatClampNeg) then fm_tellGroups_b97 N k31 (fun x2 x3 σ => fm_tellGroups_b39 N k31 n x2 x3 σ) x2 x3 (σ 126 (σ 109 x3.toNatClampNeg).toNatClampNeg) (σ 126 (σ 110 x3.toNatClampNeg).toNatClampNeg) (σ 126 (σ 110 x3.toNatClampNeg).toNatClampNeg) (σ 109 x3.toNatClampNeg) σ else fm_tellGroups_b97 N k31 (fun x2 x3 σ => fm_tellGroups_b39 N k31 n x2 x3 σ) x2 x3 (σ 126 (σ 109 x3.toNatClampNeg).toNatClampNeg) (σ 126 (σ 110 x3.toNatClampNeg).toNatClampNeg) (σ 126 (σ 109 x3.toNatClampNeg).toNatClampNeg) (σ 109 x3.toNatClampNeg) σ))
set_option maxRecDepth 100000 in
theorem fm_tellGroups_b39_e {X : Nat} {xs : Nat → Int32} {d : Nat} {N : Nat} {k31 : Int32 → am_S → Option am_S} (hk31 : ∀ {x2 : Int32} {w1 : Value} {w3 : Value} {w4 : Value} {w5 : Value} {σ : am_S} {o : am_S}, k31 x2 σ = some o → am_Ev am_sh (am_exx X xs) (d + 3) mm_172 31 [.ref 85, w1, .int x2, w3, w4, w5] [] σ (none) o) : ∀ {n : Nat} {x2 : Int32} {x3 : Int32} {w1 : Value} {w4 : Value} {w5 : Value} {σ : am_S} {o : am_S}, fm_tellGroups_b39 N k31 n x2 x3 σ = some o → am_Ev am_sh (am_exx X xs) (d + 3) mm_172 39 [.ref 85, w1, .int x2, .int x3, w4, w5] [] σ (none) o := by
  intro n
  induction n with
  | zero => intro x2 x3 w1 w4 w5 σ o h; cases h
  | succ n ih =>
    intro x2 x3 w1 w4 w5 σ o h
    unfold fm_tellGroups_b39 at h
    refine ev_iload_n (pc' := 40) rfl rfl rfl ?_
    refine ev_aload_n (pc' := 41) rfl rfl rfl ?_
    refine ev_getfield (pc' := 44) (w := .int (σ 85 31)) rfl rfl rfl rfl ?_
    rcases am_if h with ⟨hc1, h⟩ | ⟨hc1, h⟩
    · refine ev_ic_t (pc' := 129) rfl rfl (cb_ge_t hc1) ?_
      refine ev_iinc (pc' := 132) (L' := [.ref 85, w1, .int (x2 + (1 : Int32)), .int x3, w4, w5]) (b := (1 : Int32)) rfl rfl rfl rfl rfl ?_
      refine ev_goto (pc' := 31) rfl rfl ?_
      exact hk31 h
    · refine ev_ic_f (pc' := 47) rfl (by decide) rfl (cb_ge_f hc1) ?_
      refine ev_aload_n (pc' := 48) rfl rfl rfl ?_
      refine ev_getfield (pc' := 51) (w := .ref 126) rfl rfl rfl rfl ?_
      refine ev_aload_n (pc' := 52) rfl rfl rfl ?_
      refine ev_getfield (pc' := 55) (w := .ref 109) rfl rfl rfl rfl ?_
      refine ev_iload_n (pc' := 56) rfl rfl rfl ?_
      obtain ⟨hg2, h⟩ := am_g_some h
      refine ev_iaload (pc' := 57) rfl rfl rfl hg2 ?_
      obtain ⟨hg3, h⟩ := am_g_some h
      refine ev_iaload (pc' := 58) rfl rfl rfl hg3 ?_
      refine ev_istore (pc' := 60) (L' := [.ref 85, w1, .int x2, .int x3, .int (σ 126 (σ 109 x3.toNatClampNeg).toNatClampNeg), w5]) rfl rfl rfl rfl ?_
      refine ev_aload_n (pc' := 61) rfl rfl rfl ?_
      refine ev_getfield (pc' := 64) (w := .ref 126) rfl rfl rfl rfl ?_
      refine ev_aload_n (pc' := 65) rfl rfl rfl ?_
      refine ev_getfield (pc' := 68) (w := .ref 110) rfl rfl rfl rfl ?_
      refine ev_iload_n (pc' := 69) rfl rfl rfl ?_
      obtain ⟨hg4, h⟩ := am_g_some h
      refine ev_iaload (pc' := 70) rfl rfl rfl hg4 ?_
      obtain ⟨hg5, h⟩ := am_g_some h
      refine ev_iaload (pc' := 71) rfl rfl rfl hg5 ?_
      refine ev_istore (pc' := 73) (L' := [.ref 85, w1, .int x2, .int x3, .int (σ 126 (σ 109 x3.toNatClampNeg).toNatClampNeg), .int (σ 126 (σ 110 x3.toNatClampNeg).toNatClampNeg)]) rfl rfl rfl rfl ?_
      refine ev_aload_n (pc' := 74) rfl rfl rfl ?_
      refine ev_getfield (pc' := 77) (w := .ref 126) rfl rfl rfl rfl ?_
      refine ev_aload_n (pc' := 78) rfl rfl rfl ?_
      refine ev_getfield (pc' := 81) (w := .ref 109) rfl rfl rfl rfl ?_
      refine ev_iload_n (pc' := 82) rfl rfl rfl ?_
      obtain ⟨hg6, h⟩ := am_g_some h
      refine ev_iaload (pc' := 83) rfl rfl rfl hg6 ?_
      refine ev_iload (pc' := 85) rfl rfl rfl ?_
      refine ev_iload (pc' := 87) rfl rfl rfl ?_
      rcases am_if h with ⟨hc7, h⟩ | ⟨hc7, h⟩
      · refine ev_ic_t (pc' := 95) rfl rfl (cb_ge_t hc7) ?_
        refine ev_iload (pc' := 97) rfl rfl rfl ?_
        exact fm_tellGroups_b97_e (hk31 := hk31) (hk39 := fun h => ih h) h
      · refine ev_ic_f (pc' := 90) rfl (by decide) rfl (cb_ge_f hc7) ?_
        refine ev_iload (pc' := 92) rfl rfl rfl ?_
        refine ev_goto (pc' := 97) rfl rfl ?_
        exact fm_tellGroups_b97_e (hk31 := hk31) (hk39 := fun h => ih h) h
def fm_tellGroups_b216 (N : Nat) (k142 : Int32 → am_S → Option am_S) (k167 : Int32 → Int32 → am_S → Option am_S) (x2 : Int32) (x3 : Int32) (s0 : Int32) (s1 : Int32) (σ : am_S) : Option am_S := am_g (am_in s1 24) <| k167 x2 (x3 + (1 : Int32)) (am_up σ 127 s1.toNatClampNeg s0)
set_option maxRecDepth 100000 in
theorem fm_tellGroups_b216_e {X : Nat} {xs : Nat → Int32} {d : Nat} {N : Nat} {k142 : Int32 → am_S → Option am_S} (hk142 : ∀ {x2 : Int32} {w1 : Value} {w3 : Value} {w4 : Value} {w5 : Value} {σ : am_S} {o : am_S}, k142 x2 σ = some o → am_Ev am_sh (am_exx X xs) (d + 3) mm_172 142 [.ref 85, w1, .int x2, w3, w4, w5] [] σ (none) o) {k167 : Int32 → Int32 → am_S → Option am_S} (hk167 : ∀ {x2 : Int32} {x3 : Int32} {w1 : Value} {w4 : Value} {w5 : Value} {σ : am_S} {o : am_S}, k167 x2 x3 σ = some o → am_Ev am_sh (am_exx X xs) (d + 3) mm_172 167 [.ref 85, w1, .int x2, .int x3, w4, w5] [] σ (none) o) {x2 : Int32} {x3 : Int32} {s0 : Int32} {s1 : Int32} {w1 : Value} {w4 : Value} {w5 : Value} {σ : am_S} {o : am_S} (h : fm_tellGroups_b216 N k142 k167 x2 x3 s0 s1 σ = some o) : am_Ev am_sh (am_exx X xs) (d + 3) mm_172 216 [.ref 85, w1, .int x2, .int x3, w4, w5] [.int s0, .int s1, .ref 127] σ (none) o := by
  unfold fm_tellGroups_b216 at h
  obtain ⟨hg1, h⟩ := am_g_some h
  refine ev_iastore (pc' := 217) rfl rfl rfl hg1 ?_
  refine ev_iinc (pc' := 220) (L' := [.ref 85, w1, .int x2, .int (x3 + (1 : Int32)), w4, w5]) (b := (1 : Int32)) rfl rfl rfl rfl rfl ?_
  refine ev_goto (pc' := 167) rfl rfl ?_
  exact hk167 h
def fm_tellGroups_b210 (N : Nat) (k142 : Int32 → am_S → Option am_S) (k167 : Int32 → Int32 → am_S → Option am_S) (x2 : Int32) (x3 : Int32) (s0 : Int32) (σ : am_S) : Option am_S := am_g (am_in x2 24) <| fm_tellGroups_b216 N k142 k167 x2 x3 (σ 127 x2.toNatClampNeg) s0 σ
set_option maxRecDepth 100000 in
theorem fm_tellGroups_b210_e {X : Nat} {xs : Nat → Int32} {d : Nat} {N : Nat} {k142 : Int32 → am_S → Option am_S} (hk142 : ∀ {x2 : Int32} {w1 : Value} {w3 : Value} {w4 : Value} {w5 : Value} {σ : am_S} {o : am_S}, k142 x2 σ = some o → am_Ev am_sh (am_exx X xs) (d + 3) mm_172 142 [.ref 85, w1, .int x2, w3, w4, w5] [] σ (none) o) {k167 : Int32 → Int32 → am_S → Option am_S} (hk167 : ∀ {x2 : Int32} {x3 : Int32} {w1 : Value} {w4 : Value} {w5 : Value} {σ : am_S} {o : am_S}, k167 x2 x3 σ = some o → am_Ev am_sh (am_exx X xs) (d + 3) mm_172 167 [.ref 85, w1, .int x2, .int x3, w4, w5] [] σ (none) o) {x2 : Int32} {x3 : Int32} {s0 : Int32} {w1 : Value} {w4 : Value} {w5 : Value} {σ : am_S} {o : am_S} (h : fm_tellGroups_b210 N k142 k167 x2 x3 s0 σ = some o) : am_Ev am_sh (am_exx X xs) (d + 3) mm_172 210 [.ref 85, w1, .int x2, .int x3, w4, w5] [.int s0, .ref 127] σ (none) o := by
  unfold fm_tellGroups_b210 at h
  refine ev_aload_n (pc' := 211) rfl rfl rfl ?_
  refine ev_getfield (pc' := 214) (w := .ref 127) rfl rfl rfl rfl ?_
  refine ev_iload_n (pc' := 215) rfl rfl rfl ?_
  obtain ⟨hg1, h⟩ := am_g_some h
  refine ev_iaload (pc' := 216) rfl rfl rfl hg1 ?_
  exact fm_tellGroups_b216_e (hk142 := hk142) (hk167 := hk167) h
def fm_tellGroups_b302 (N : Nat) (k142 : Int32 → am_S → Option am_S) (x2 : Int32) (σ : am_S) : Option am_S := k142 (x2 + (1 : Int32)) σ
set_option maxRecDepth 100000 in
theorem fm_tellGroups_b302_e {X : Nat} {xs : Nat → Int32} {d : Nat} {N : Nat} {k142 : Int32 → am_S → Option am_S} (hk142 : ∀ {x2 : Int32} {w1 : Value} {w3 : Value} {w4 : Value} {w5 : Value} {σ : am_S} {o : am_S}, k142 x2 σ = some o → am_Ev am_sh (am_exx X xs) (d + 3) mm_172 142 [.ref 85, w1, .int x2, w3, w4, w5] [] σ (none) o) {x2 : Int32} {w1 : Value} {w3 : Value} {w4 : Value} {w5 : Value} {σ : am_S} {o : am_S} (h : fm_tellGroups_b302 N k142 x2 σ = some o) : am_Ev am_sh (am_exx X xs) (d + 3) mm_172 302 [.ref 85, w1, .int x2, w3, w4, w5] [] σ (none) o := by
  unfold fm_tellGroups_b302 at h
  refine ev_iinc (pc' := 305) (L' := [.ref 85, w1, .int (x2 + (1 : Int32)), w3, w4, w5]) (b := (1 : Int32)) rfl rfl rfl rfl rfl ?_
  refine ev_goto (pc' := 142) rfl rfl ?_
  exact hk142 h
def fm_tellGroups_b300 (N : Nat) (k142 : Int32 → am_S → Option am_S) (x2 : Int32) (s0 : Int32) (s1 : Int32) (s2 : Int32) (σ : am_S) : Option am_S := am_g (am_in s2 24) <| fm_tellGroups_b302 N k142 x2 (am_up σ 128 s2.toNatClampNeg (s1 + s0))
set_option maxRecDepth 100000 in
theorem fm_tellGroups_b300_e {X : Nat} {xs : Nat → Int32} {d : Nat} {N : Nat} {k142 : Int32 → am_S → Option am_S} (hk142 : ∀ {x2 : Int32} {w1 : Value} {w3 : Value} {w4 : Value} {w5 : Value} {σ : am_S} {o : am_S}, k142 x2 σ = some o → am_Ev am_sh (am_exx X xs) (d + 3) mm_172 142 [.ref 85, w1, .int x2, w3, w4, w5] [] σ (none) o) {x2 : Int32} {s0 : Int32} {s1 : Int32} {s2 : Int32} {w1 : Value} {w3 : Value} {w4 : Value} {w5 : Value} {σ : am_S} {o : am_S} (h : fm_tellGroups_b300 N k142 x2 s0 s1 s2 σ = some o) : am_Ev am_sh (am_exx X xs) (d + 3) mm_172 300 [.ref 85, w1, .int x2, w3, w4, w5] [.int s0, .int s1, .int s2, .ref 128] σ (none) o := by
  unfold fm_tellGroups_b300 at h
  refine ev_iadd (pc' := 301) rfl rfl ?_
  obtain ⟨hg1, h⟩ := am_g_some h
  refine ev_iastore (pc' := 302) rfl rfl rfl hg1 ?_
  exact fm_tellGroups_b302_e (hk142 := hk142) h
def fm_tellGroups_b262 (N : Nat) (k142 : Int32 → am_S → Option am_S) (x2 : Int32) (σ : am_S) : Option am_S := am_g (am_in x2 24) <| am_g (am_in (σ 127 x2.toNatClampNeg) 24) <| am_g (am_in x2 24) <| (if (σ 105 x2.toNatClampNeg) = (5 : Int32) then am_g (am_in x2 24) <| fm_tellGroups_b300 N k142 x2 (-(σ 106 x2.toNatClampNeg)) (σ 128 (σ 127 x2.toNatClampNeg).toNatClampNeg) (σ 127 x2.toNatClampNeg) σ else am_g (am_in x2 24) <| fm_tellGroups_b300 N k142 x2 (σ 106 x2.toNatClampNeg) (σ 128 (σ 127 x2.toNatClampNeg).toNatClampNeg) (σ 127 x2.toNatClampNeg) σ)
set_option maxRecDepth 100000 in
theorem fm_tellGroups_b262_e {X : Nat} {xs : Nat → Int32} {d : Nat} {N : Nat} {k142 : Int32 → am_S → Option am_S} (hk142 : ∀ {x2 : Int32} {w1 : Value} {w3 : Value} {w4 : Value} {w5 : Value} {σ : am_S} {o : am_S}, k142 x2 σ = some o → am_Ev am_sh (am_exx X xs) (d + 3) mm_172 142 [.ref 85, w1, .int x2, w3, w4, w5] [] σ (none) o) {x2 : Int32} {w1 : Value} {w3 : Value} {w4 : Value} {w5 : Value} {σ : am_S} {o : am_S} (h : fm_tellGroups_b262 N k142 x2 σ = some o) : am_Ev am_sh (am_exx X xs) (d + 3) mm_172 262 [.ref 85, w1, .int x2, w3, w4, w5] [] σ (none) o := by
  unfold fm_tellGroups_b262 at h
  refine ev_aload_n (pc' := 263) rfl rfl rfl ?_
  refine ev_getfield (pc' := 266) (w := .ref 128) rfl rfl rfl rfl ?_
  refine ev_aload_n (pc' := 267) rfl rfl rfl ?_
  refine ev_getfield (pc' := 270) (w := .ref 127) rfl rfl rfl rfl ?_
  refine ev_iload_n (pc' := 271) rfl rfl rfl ?_
  obtain ⟨hg1, h⟩ := am_g_some h
  refine ev_iaload (pc' := 272) rfl rfl rfl hg1 ?_
  refine ev_dup2 (pc' := 273) rfl rfl ?_
  obtain ⟨hg2, h⟩ := am_g_some h
  refine ev_iaload (pc' := 274) rfl rfl rfl hg2 ?_
  refine ev_aload_n (pc' := 275) rfl rfl rfl ?_
  refine ev_getfield (pc' := 278) (w := .ref 105) rfl rfl rfl rfl ?_
  refine ev_iload_n (pc' := 279) rfl rfl rfl ?_
  obtain ⟨hg3, h⟩ := am_g_some h
  refine ev_iaload (pc' := 280) rfl rfl rfl hg3 ?_
  refine ev_iconst (pc' := 281) (b := (5 : Int32)) rfl rfl rfl ?_
  rcases am_if h with ⟨hc4, h⟩ | ⟨hc4, h⟩
  · refine ev_ic_f (pc' := 284) rfl (by decide) rfl (cb_ne_f hc4) ?_
    refine ev_aload_n (pc' := 285) rfl rfl rfl ?_
    refine ev_getfield (pc' := 288) (w := .ref 106) rfl rfl rfl rfl ?_
    refine ev_iload_n (pc' := 289) rfl rfl rfl ?_
    obtain ⟨hg5, h⟩ := am_g_some h
    refine ev_iaload (pc' := 290) rfl rfl rfl hg5 ?_
    refine ev_ineg (pc' := 291) rfl rfl ?_
    refine ev_goto (pc' := 300) rfl rfl ?_
    exact fm_tellGroups_b300_e (hk142 := hk142) h
  · refine ev_ic_t (pc' := 294) rfl rfl (cb_ne_t hc4) ?_
    refine ev_aload_n (pc' := 295) rfl rfl rfl ?_
    refine ev_getfield (pc' := 298) (w := .ref 106) rfl rfl rfl rfl ?_
    refine ev_iload_n (pc' := 299) rfl rfl rfl ?_
    obtain ⟨hg6, h⟩ := am_g_some h
    refine ev_iaload (pc' := 300) rfl rfl rfl hg6 ?_
    exact fm_tellGroups_b300_e (hk142 := hk142) h
def fm_tellGroups_b167 (N : Nat) (k142 : Int32 → am_S → Option am_S) : Nat → Int32 → Int32 → am_S → Option am_S
  | 0, _, _, _ => none
  | n + 1, x2, x3, σ => (if x2 ≤ x3 then am_g (am_in x2 24) <| (if 0 ≤ (σ 127 x2.toNatClampNeg) then fm_tellGroups_b262 N k142 x2 σ else am_g (am_in x2 24) <| am_g (am_in (σ 85 64) 24) <| fm_tellGroups_b262 N k142 x2 (am_up (am_up (am_up σ 127 x2.toNatClampNeg (σ 85 64)) 128 (σ 85 64).toNatClampNeg (0 : Int32)) 85 64 ((σ 85 64) + (1 : Int32)))) else am_g (am_in x3 24) <| (if (σ 127 x3.toNatClampNeg) < 0 then fm_tellGroups_b210 N k142 (fun x2 x3 σ => fm_tellGroups_b167 N k142 n x2 x3 σ) x2 x3 x2 σ else am_g (am_in x3 24) <| am_g (am_in x2 24) <| (if (σ 126 x3.toNatClampNeg) = (σ 126 x2.toNatClampNeg) then am_g (am_in x3 24) <| fm_tellGroups_b216 N k142 (fun x2 x3 σ => fm_tellGroups_b167 N k142 n x2 x3 σ) x2 x3 (σ 127 x3.toNatClampNeg) x2 σ else fm_tellGroups_b210 N k142 (fun x2 x3 σ => fm_tellGroups_b167 N k142 n x2 x3 σ) x2 x3 x2 σ)))
set_option maxRecDepth 100000 in
theorem fm_tellGroups_b167_e {X : Nat} {xs : Nat → Int32} {d : Nat} {N : Nat} {k142 : Int32 → am_S → Option am_S} (hk142 : ∀ {x2 : Int32} {w1 : Value} {w3 : Value} {w4 : Value} {w5 : Value} {σ : am_S} {o : am_S}, k142 x2 σ = some o → am_Ev am_sh (am_exx X xs) (d + 3) mm_172 142 [.ref 85, w1, .int x2, w3, w4, w5] [] σ (none) o) : ∀ {n : Nat} {x2 : Int32} {x3 : Int32} {w1 : Value} {w4 : Value} {w5 : Value} {σ : am_S} {o : am_S}, fm_tellGroups_b167 N k142 n x2 x3 σ = some o → am_Ev am_sh (am_exx X xs) (d + 3) mm_172 167 [.ref 85, w1, .int x2, .int x3, w4, w5] [] σ (none) o := by
  intro n
  induction n with
  | zero => intro x2 x3 w1 w4 w5 σ o h; cases h
  | succ n ih =>
    intro x2 x3 w1 w4 w5 σ o h
    unfold fm_tellGroups_b167 at h
    refine ev_iload_n (pc' := 168) rfl rfl rfl ?_
    refine ev_iload_n (pc' := 169) rfl rfl rfl ?_
    rcases am_if h with ⟨hc1, h⟩ | ⟨hc1, h⟩
    · refine ev_ic_t (pc' := 223) rfl rfl (cb_ge_t hc1) ?_
      refine ev_aload_n (pc' := 224) rfl rfl rfl ?_
      refine ev_getfield (pc' := 227) (w := .ref 127) rfl rfl rfl rfl ?_
      refine ev_iload_n (pc' := 228) rfl rfl rfl ?_
      obtain ⟨hg2, h⟩ := am_g_some h
      refine ev_iaload (pc' := 229) rfl rfl rfl hg2 ?_
      rcases am_if h with ⟨hc3, h⟩ | ⟨hc3, h⟩
      · refine ev_if_t (pc' := 262) rfl rfl (cb_ge_t hc3) ?_
        exact fm_tellGroups_b262_e (hk142 := hk142) h
      · refine ev_if_f (pc' := 232) rfl (by decide) rfl (cb_ge_f hc3) ?_
        refine ev_aload_n (pc' := 233) rfl rfl rfl ?_
        refine ev_getfield (pc' := 236) (w := .ref 127) rfl rfl rfl rfl ?_
        refine ev_iload_n (pc' := 237) rfl rfl rfl ?_
        refine ev_aload_n (pc' := 238) rfl rfl rfl ?_
        refine ev_getfield (pc' := 241) (w := .int (σ 85 64)) rfl rfl rfl rfl ?_
        obtain ⟨hg4, h⟩ := am_g_some h
        refine ev_iastore (pc' := 242) rfl rfl rfl hg4 ?_
        refine ev_aload_n (pc' := 243) rfl rfl rfl ?_
        refine ev_getfield (pc' := 246) (w := .ref 128) rfl rfl rfl rfl ?_
        refine ev_aload_n (pc' := 247) rfl rfl rfl ?_
        refine ev_getfield (pc' := 250) (w := .int (σ 85 64)) rfl rfl rfl rfl ?_
        refine ev_iconst (pc' := 251) (b := (0 : Int32)) rfl rfl rfl ?_
        obtain ⟨hg5, h⟩ := am_g_some h
        refine ev_iastore (pc' := 252) rfl rfl rfl hg5 ?_
        refine ev_aload_n (pc' := 253) rfl rfl rfl ?_
        refine ev_dup (pc' := 254) rfl rfl ?_
        refine ev_getfield (pc' := 257) (w := .int (σ 85 64)) rfl rfl rfl rfl ?_
        refine ev_iconst (pc' := 258) (b := (1 : Int32)) rfl rfl rfl ?_
        refine ev_iadd (pc' := 259) rfl rfl ?_
        refine ev_putfield (pc' := 262) (ci := 11) (f := 64) (z := 0) rfl rfl rfl rfl rfl ?_
        exact fm_tellGroups_b262_e (hk142 := hk142) h
    · refine ev_ic_f (pc' := 172) rfl (by decide) rfl (cb_ge_f hc1) ?_
      refine ev_aload_n (pc' := 173) rfl rfl rfl ?_
      refine ev_getfield (pc' := 176) (w := .ref 127) rfl rfl rfl rfl ?_
      refine ev_iload_n (pc' := 177) rfl rfl rfl ?_
      refine ev_aload_n (pc' := 178) rfl rfl rfl ?_
      refine ev_getfield (pc' := 181) (w := .ref 127) rfl rfl rfl rfl ?_
      refine ev_iload_n (pc' := 182) rfl rfl rfl ?_
      obtain ⟨hg6, h⟩ := am_g_some h
      refine ev_iaload (pc' := 183) rfl rfl rfl hg6 ?_
      rcases am_if h with ⟨hc7, h⟩ | ⟨hc7, h⟩
      · refine ev_if_t (pc' := 210) rfl rfl (cb_lt_t hc7) ?_
        exact fm_tellGroups_b210_e (hk142 := hk142) (hk167 := fun h => ih h) h
      · refine ev_if_f (pc' := 186) rfl (by decide) rfl (cb_lt_f hc7) ?_
        refine ev_aload_n (pc' := 187) rfl rfl rfl ?_
        refine ev_getfield (pc' := 190) (w := .ref 126) rfl rfl rfl rfl ?_
        refine ev_iload_n (pc' := 191) rfl rfl rfl ?_
        obtain ⟨hg8, h⟩ := am_g_some h
        refine ev_iaload (pc' := 192) rfl rfl rfl hg8 ?_
        refine ev_aload_n (pc' := 193) rfl rfl rfl ?_
        refine ev_getfield (pc' := 196) (w := .ref 126) rfl rfl rfl rfl ?_
        refine ev_iload_n (pc' := 197) rfl rfl rfl ?_
        obtain ⟨hg9, h⟩ := am_g_some h
        refine ev_iaload (pc' := 198) rfl rfl rfl hg9 ?_
        rcases am_if h with ⟨hc10, h⟩ | ⟨hc10, h⟩
        · refine ev_ic_f (pc' := 201) rfl (by decide) rfl (cb_ne_f hc10) ?_
          refine ev_aload_n (pc' := 202) rfl rfl rfl ?_
          refine ev_getfield (pc' := 205) (w := .ref 127) rfl rfl rfl rfl ?_
          refine ev_iload_n (pc' := 206) rfl rfl rfl ?_
          obtain ⟨hg11, h⟩ := am_g_some h
          refine ev_iaload (pc' := 207) rfl rfl rfl hg11 ?_
          refine ev_goto (pc' := 216) rfl rfl ?_
          exact fm_tellGroups_b216_e (hk142 := hk142) (hk167 := fun h => ih h) h
        · refine ev_ic_t (pc' := 210) rfl rfl (cb_ne_t hc10) ?_
          exact fm_tellGroups_b210_e (hk142 := hk142) (hk167 := fun h => ih h) h
def fm_tellGroups_b142 (N : Nat) : Nat → Int32 → am_S → Option am_S
  | 0, _, _ => none
  | n + 1, x2, σ => (if (σ 85 26) ≤ x2 then some σ else am_g (am_in x2 24) <| (fm_counts x2 (am_up σ 127 x2.toNatClampNeg (-1 : Int32))).bind fun q3 => (if q3 = 0 then fm_tellGroups_b302 N (fun x2 σ => fm_tellGroups_b142 N n x2 σ) x2 (am_up σ 127 x2.toNatClampNeg (-1 : Int32)) else fm_tellGroups_b167 N (fun x2 σ => fm_tellGroups_b142 N n x2 σ) N x2 (0 : Int32) (am_up σ 127 x2.toNatClampNeg (-1 : Int32))))
set_option maxRecDepth 100000 in
theorem fm_tellGroups_b142_e {X : Nat} {xs : Nat → Int32} {d : Nat} {N : Nat} : ∀ {n : Nat} {x2 : Int32} {w1 : Value} {w3 : Value} {w4 : Value} {w5 : Value} {σ : am_S} {o : am_S}, fm_tellGroups_b142 N n x2 σ = some o → am_Ev am_sh (am_exx X xs) (d + 3) mm_172 142 [.ref 85, w1, .int x2, w3, w4, w5] [] σ (none) o := by
  intro n
  induction n with
  | zero => intro x2 w1 w3 w4 w5 σ o h; cases h
  | succ n ih =>
    intro x2 w1 w3 w4 w5 σ o h
    unfold fm_tellGroups_b142 at h
    refine ev_iload_n (pc' := 143) rfl rfl rfl ?_
    refine ev_aload_n (pc' := 144) rfl rfl rfl ?_
    refine ev_getfield (pc' := 147) (w := .int (σ 85 26)) rfl rfl rfl rfl ?_
    rcases am_if h with ⟨hc1, h⟩ | ⟨hc1, h⟩
    · refine ev_ic_t (pc' := 308) rfl rfl (cb_ge_t hc1) ?_
      obtain rfl := Option.some.inj h
      exact ev_return rfl rfl
    · refine ev_ic_f (pc' := 150) rfl (by decide) rfl (cb_ge_f hc1) ?_
      refine ev_aload_n (pc' := 151) rfl rfl rfl ?_
      refine ev_getfield (pc' := 154) (w := .ref 127) rfl rfl rfl rfl ?_
      refine ev_iload_n (pc' := 155) rfl rfl rfl ?_
      refine ev_iconst (pc' := 156) (b := (-1 : Int32)) rfl rfl rfl ?_
      obtain ⟨hg2, h⟩ := am_g_some h
      refine ev_iastore (pc' := 157) rfl rfl rfl hg2 ?_
      refine ev_aload_n (pc' := 158) rfl rfl rfl ?_
      refine ev_iload_n (pc' := 159) rfl rfl rfl ?_
      refine am_bd h (fun q3 hq3 h => ?_)
      refine ev_call (mi := 171) (as := [.ref 85, .int x2]) (rest := []) rfl rfl (Nat.le_of_ble_eq_true rfl) (fm_counts_e (d := d + 1) hq3) ?_
      show am_Ev _ _ _ _ 162 _ _ _ _ _
      rcases am_if h with ⟨hc4, h⟩ | ⟨hc4, h⟩
      · refine ev_if_t (pc' := 302) rfl rfl (cb_eq_t hc4) ?_
        exact fm_tellGroups_b302_e (hk142 := fun h => ih h) h
      · refine ev_if_f (pc' := 165) rfl (by decide) rfl (cb_eq_f hc4) ?_
        refine ev_iconst (pc' := 166) (b := (0 : Int32)) rfl rfl rfl ?_
        refine ev_istore_n (pc' := 167) (L' := [.ref 85, w1, .int x2, .int (0 : Int32), w4, w5]) rfl rfl rfl rfl ?_
        exact fm_tellGroups_b167_e (hk142 := fun h => ih h) h
def fm_tellGroups_b31 (N : Nat) : Nat → Int32 → am_S → Option am_S
  | 0, _, _ => none
  | n + 1, x2, σ => (if (24 : Int32) ≤ x2 then fm_tellGroups_b142 N N (0 : Int32) (am_up σ 85 64 (0 : Int32)) else fm_tellGroups_b39 N (fun x2 σ => fm_tellGroups_b31 N n x2 σ) N x2 (0 : Int32) σ)
set_option maxRecDepth 100000 in
theorem fm_tellGroups_b31_e {X : Nat} {xs : Nat → Int32} {d : Nat} {N : Nat} : ∀ {n : Nat} {x2 : Int32} {w1 : Value} {w3 : Value} {w4 : Value} {w5 : Value} {σ : am_S} {o : am_S}, fm_tellGroups_b31 N n x2 σ = some o → am_Ev am_sh (am_exx X xs) (d + 3) mm_172 31 [.ref 85, w1, .int x2, w3, w4, w5] [] σ (none) o := by
  intro n
  induction n with
  | zero => intro x2 w1 w3 w4 w5 σ o h; cases h
  | succ n ih =>
    intro x2 w1 w3 w4 w5 σ o h
    unfold fm_tellGroups_b31 at h
    refine ev_iload_n (pc' := 32) rfl rfl rfl ?_
    refine ev_bipush (pc' := 34) (b := (24 : Int32)) rfl rfl rfl ?_
    rcases am_if h with ⟨hc1, h⟩ | ⟨hc1, h⟩
    · refine ev_ic_t (pc' := 135) rfl rfl (cb_ge_t hc1) ?_
      refine ev_aload_n (pc' := 136) rfl rfl rfl ?_
      refine ev_iconst (pc' := 137) (b := (0 : Int32)) rfl rfl rfl ?_
      refine ev_putfield (pc' := 140) (ci := 11) (f := 64) (z := 0) rfl rfl rfl rfl rfl ?_
      refine ev_iconst (pc' := 141) (b := (0 : Int32)) rfl rfl rfl ?_
      refine ev_istore_n (pc' := 142) (L' := [.ref 85, w1, .int (0 : Int32), w3, w4, w5]) rfl rfl rfl rfl ?_
      exact fm_tellGroups_b142_e h
    · refine ev_ic_f (pc' := 37) rfl (by decide) rfl (cb_ge_f hc1) ?_
      refine ev_iconst (pc' := 38) (b := (0 : Int32)) rfl rfl rfl ?_
      refine ev_istore_n (pc' := 39) (L' := [.ref 85, w1, .int x2, .int (0 : Int32), w4, w5]) rfl rfl rfl rfl ?_
      exact fm_tellGroups_b39_e (hk31 := fun h => ih h) h
def fm_tellGroups_b8 (N : Nat) : Nat → Int32 → am_S → Option am_S
  | 0, _, _ => none
  | n + 1, x2, σ => (if (σ 85 26) ≤ x2 then fm_tellGroups_b31 N N (0 : Int32) σ else am_g (am_in x2 24) <| fm_tellGroups_b8 N n (x2 + (1 : Int32)) (am_up σ 126 x2.toNatClampNeg x2))
set_option maxRecDepth 100000 in
theorem fm_tellGroups_b8_e {X : Nat} {xs : Nat → Int32} {d : Nat} {N : Nat} : ∀ {n : Nat} {x2 : Int32} {w1 : Value} {w3 : Value} {w4 : Value} {w5 : Value} {σ : am_S} {o : am_S}, fm_tellGroups_b8 N n x2 σ = some o → am_Ev am_sh (am_exx X xs) (d + 3) mm_172 8 [.ref 85, w1, .int x2, w3, w4, w5] [] σ (none) o := by
  intro n
  induction n with
  | zero => intro x2 w1 w3 w4 w5 σ o h; cases h
  | succ n ih =>
    intro x2 w1 w3 w4 w5 σ o h
    unfold fm_tellGroups_b8 at h
    refine ev_iload_n (pc' := 9) rfl rfl rfl ?_
    refine ev_aload_n (pc' := 10) rfl rfl rfl ?_
    refine ev_getfield (pc' := 13) (w := .int (σ 85 26)) rfl rfl rfl rfl ?_
    rcases am_if h with ⟨hc1, h⟩ | ⟨hc1, h⟩
    · refine ev_ic_t (pc' := 29) rfl rfl (cb_ge_t hc1) ?_
      refine ev_iconst (pc' := 30) (b := (0 : Int32)) rfl rfl rfl ?_
      refine ev_istore_n (pc' := 31) (L' := [.ref 85, w1, .int (0 : Int32), w3, w4, w5]) rfl rfl rfl rfl ?_
      exact fm_tellGroups_b31_e h
    · refine ev_ic_f (pc' := 16) rfl (by decide) rfl (cb_ge_f hc1) ?_
      refine ev_aload_n (pc' := 17) rfl rfl rfl ?_
      refine ev_getfield (pc' := 20) (w := .ref 126) rfl rfl rfl rfl ?_
      refine ev_iload_n (pc' := 21) rfl rfl rfl ?_
      refine ev_iload_n (pc' := 22) rfl rfl rfl ?_
      obtain ⟨hg2, h⟩ := am_g_some h
      refine ev_iastore (pc' := 23) rfl rfl rfl hg2 ?_
      refine ev_iinc (pc' := 26) (L' := [.ref 85, w1, .int (x2 + (1 : Int32)), w3, w4, w5]) (b := (1 : Int32)) rfl rfl rfl rfl rfl ?_
      refine ev_goto (pc' := 8) rfl rfl ?_
      exact ih h
def fm_tellGroups (N : Nat) (σ : am_S) : Option am_S := (fm_readLaw N (2 : Int32) σ).bind fun q1 => fm_tellGroups_b8 N N (0 : Int32) q1.2
set_option maxRecDepth 100000 in
theorem fm_tellGroups_e {X : Nat} {xs : Nat → Int32} {d : Nat} {N : Nat} {σ : am_S} {o : am_S} (h : fm_tellGroups N σ = some o) : am_Ev am_sh (am_exx X xs) (d + 3) mm_172 0 [.ref 85, .null, .null, .null, .null, .null] [] σ (none) o := by
  unfold fm_tellGroups at h
  refine ev_aload_n (pc' := 1) rfl rfl rfl ?_
  refine ev_iconst (pc' := 2) (b := (2 : Int32)) rfl rfl rfl ?_
  refine am_bd h (fun q1 hq1 h => ?_)
  refine ev_call (mi := 155) (as := [.ref 85, .int (2 : Int32)]) (rest := []) rfl rfl (Nat.le_of_ble_eq_true rfl) (fm_readLaw_e (d := d) hq1) ?_
  show am_Ev _ _ _ _ 5 _ _ _ _ _
  refine ev_istore_n (pc' := 6) (L' := [.ref 85, .int q1.1, .null, .null, .null, .null]) rfl rfl rfl rfl ?_
  refine ev_iconst (pc' := 7) (b := (0 : Int32)) rfl rfl rfl ?_
  refine ev_istore_n (pc' := 8) (L' := [.ref 85, .int q1.1, .int (0 : Int32), .null, .null, .null]) rfl rfl rfl rfl ?_
  exact fm_tellGroups_b8_e h
/-! PartedLandModel.allWorth (85,): P -/
def fm_allWorth_b4 (N : Nat) : Nat → Int32 → Int32 → am_S → Option Int32
  | 0, _, _, _ => none
  | n + 1, x1, x2, σ => (if (σ 85 64) ≤ x2 then some x1 else am_g (am_in x2 24) <| fm_allWorth_b4 N n (x1 + (σ 128 x2.toNatClampNeg)) (x2 + (1 : Int32)) σ)
set_option maxRecDepth 100000 in
theorem fm_allWorth_b4_e {X : Nat} {xs : Nat → Int32} {d : Nat} {N : Nat} : ∀ {n : Nat} {x1 : Int32} {x2 : Int32} {σ : am_S} {o : Int32}, fm_allWorth_b4 N n x1 x2 σ = some o → am_Ev am_sh (am_exx X xs) (d + 0) mm_173 4 [.ref 85, .int x1, .int x2] [] σ (some (.int o)) σ := by
  intro n
  induction n with
  | zero => intro x1 x2 σ o h; cases h
  | succ n ih =>
    intro x1 x2 σ o h
    unfold fm_allWorth_b4 at h
    refine ev_iload_n (pc' := 5) rfl rfl rfl ?_
    refine ev_aload_n (pc' := 6) rfl rfl rfl ?_
    refine ev_getfield (pc' := 9) (w := .int (σ 85 64)) rfl rfl rfl rfl ?_
    rcases am_if h with ⟨hc1, h⟩ | ⟨hc1, h⟩
    · refine ev_ic_t (pc' := 27) rfl rfl (cb_ge_t hc1) ?_
      refine ev_iload_n (pc' := 28) rfl rfl rfl ?_
      obtain rfl := Option.some.inj h
      exact ev_ireturn rfl rfl
    · refine ev_ic_f (pc' := 12) rfl (by decide) rfl (cb_ge_f hc1) ?_
      refine ev_iload_n (pc' := 13) rfl rfl rfl ?_
      refine ev_aload_n (pc' := 14) rfl rfl rfl ?_
      refine ev_getfield (pc' := 17) (w := .ref 128) rfl rfl rfl rfl ?_
      refine ev_iload_n (pc' := 18) rfl rfl rfl ?_
      obtain ⟨hg2, h⟩ := am_g_some h
      refine ev_iaload (pc' := 19) rfl rfl rfl hg2 ?_
      refine ev_iadd (pc' := 20) rfl rfl ?_
      refine ev_istore_n (pc' := 21) (L' := [.ref 85, .int (x1 + (σ 128 x2.toNatClampNeg)), .int x2]) rfl rfl rfl rfl ?_
      refine ev_iinc (pc' := 24) (L' := [.ref 85, .int (x1 + (σ 128 x2.toNatClampNeg)), .int (x2 + (1 : Int32))]) (b := (1 : Int32)) rfl rfl rfl rfl rfl ?_
      refine ev_goto (pc' := 4) rfl rfl ?_
      exact ih h
def fm_allWorth (N : Nat) (σ : am_S) : Option Int32 := fm_allWorth_b4 N N (0 : Int32) (0 : Int32) σ
set_option maxRecDepth 100000 in
theorem fm_allWorth_e {X : Nat} {xs : Nat → Int32} {d : Nat} {N : Nat} {σ : am_S} {o : Int32} (h : fm_allWorth N σ = some o) : am_Ev am_sh (am_exx X xs) (d + 0) mm_173 0 [.ref 85, .null, .null] [] σ (some (.int o)) σ := by
  unfold fm_allWorth at h
  refine ev_iconst (pc' := 1) (b := (0 : Int32)) rfl rfl rfl ?_
  refine ev_istore_n (pc' := 2) (L' := [.ref 85, .int (0 : Int32), .null]) rfl rfl rfl rfl ?_
  refine ev_iconst (pc' := 3) (b := (0 : Int32)) rfl rfl rfl ?_
  refine ev_istore_n (pc' := 4) (L' := [.ref 85, .int (0 : Int32), .int (0 : Int32)]) rfl rfl rfl rfl ?_
  exact fm_allWorth_b4_e h
/-! PartedLandModel.wanted (85,): P -/
def fm_wanted (N : Nat) (σ : am_S) : Option Int32 := (fm_allWorth N σ).bind fun q1 => some (((σ 85 57) * q1) / (100 : Int32))
set_option maxRecDepth 100000 in
theorem fm_wanted_e {X : Nat} {xs : Nat → Int32} {d : Nat} {N : Nat} {σ : am_S} {o : Int32} (h : fm_wanted N σ = some o) : am_Ev am_sh (am_exx X xs) (d + 1) mm_174 0 [.ref 85] [] σ (some (.int o)) σ := by
  unfold fm_wanted at h
  refine ev_aload_n (pc' := 1) rfl rfl rfl ?_
  refine ev_getfield (pc' := 4) (w := .int (σ 85 57)) rfl rfl rfl rfl ?_
  refine ev_aload_n (pc' := 5) rfl rfl rfl ?_
  refine am_bd h (fun q1 hq1 h => ?_)
  refine ev_call (mi := 173) (as := [.ref 85]) (rest := [.int (σ 85 57)]) rfl rfl (Nat.le_of_ble_eq_true rfl) (fm_allWorth_e (d := d) hq1) ?_
  show am_Ev _ _ _ _ 8 _ _ _ _ _
  refine ev_imul (pc' := 9) rfl rfl ?_
  refine ev_bipush (pc' := 11) (b := (100 : Int32)) rfl rfl rfl ?_
  refine ev_idiv (pc' := 12) rfl rfl (by decide) ?_
  obtain rfl := Option.some.inj h
  exact ev_ireturn rfl rfl
/-! PartedLandModel.sumOf (85, 'I'): P -/
def fm_sumOf_b38 (N : Nat) (k4 : Int32 → Int32 → Int32 → am_S → Option Int32) (x1 : Int32) (x3 : Int32) (s0 : Int32) (s1 : Int32) (σ : am_S) : Option Int32 := k4 x1 (s1 + s0) (x3 + (1 : Int32)) σ
set_option maxRecDepth 100000 in
theorem fm_sumOf_b38_e {X : Nat} {xs : Nat → Int32} {d : Nat} {N : Nat} {k4 : Int32 → Int32 → Int32 → am_S → Option Int32} (hk4 : ∀ {x1 : Int32} {x2 : Int32} {x3 : Int32} {σ : am_S} {o : Int32}, k4 x1 x2 x3 σ = some o → am_Ev am_sh (am_exx X xs) (d + 0) mm_176 4 [.ref 85, .int x1, .int x2, .int x3] [] σ (some (.int o)) σ) {x1 : Int32} {x3 : Int32} {s0 : Int32} {s1 : Int32} {w2 : Value} {σ : am_S} {o : Int32} (h : fm_sumOf_b38 N k4 x1 x3 s0 s1 σ = some o) : am_Ev am_sh (am_exx X xs) (d + 0) mm_176 38 [.ref 85, .int x1, w2, .int x3] [.int s0, .int s1] σ (some (.int o)) σ := by
  unfold fm_sumOf_b38 at h
  refine ev_iadd (pc' := 39) rfl rfl ?_
  refine ev_istore_n (pc' := 40) (L' := [.ref 85, .int x1, .int (s1 + s0), .int x3]) rfl rfl rfl rfl ?_
  refine ev_iinc (pc' := 43) (L' := [.ref 85, .int x1, .int (s1 + s0), .int (x3 + (1 : Int32))]) (b := (1 : Int32)) rfl rfl rfl rfl rfl ?_
  refine ev_goto (pc' := 4) rfl rfl ?_
  exact hk4 h
def fm_sumOf_b4 (N : Nat) : Nat → Int32 → Int32 → Int32 → am_S → Option Int32
  | 0, _, _, _, _ => none
  | n + 1, x1, x2, x3, σ => (if (σ 85 64) ≤ x3 then some x2 else (if ((x1 >>> ((((σ 85 64) - (1 : Int32)) - x3) &&& 31)) &&& (1 : Int32)) = 0 then am_g (am_in x3 24) <| fm_sumOf_b38 N (fun x1 x2 x3 σ => fm_sumOf_b4 N n x1 x2 x3 σ) x1 x3 (σ 128 x3.toNatClampNeg) x2 σ else fm_sumOf_b38 N (fun x1 x2 x3 σ => fm_sumOf_b4 N n x1 x2 x3 σ) x1 x3 (0 : Int32) x2 σ))
set_option maxRecDepth 100000 in
theorem fm_sumOf_b4_e {X : Nat} {xs : Nat → Int32} {d : Nat} {N : Nat} : ∀ {n : Nat} {x1 : Int32} {x2 : Int32} {x3 : Int32} {σ : am_S} {o : Int32}, fm_sumOf_b4 N n x1 x2 x3 σ = some o → am_Ev am_sh (am_exx X xs) (d + 0) mm_176 4 [.ref 85, .int x1, .int x2, .int x3] [] σ (some (.int o)) σ := by
  intro n
  induction n with
  | zero => intro x1 x2 x3 σ o h; cases h
  | succ n ih =>
    intro x1 x2 x3 σ o h
    unfold fm_sumOf_b4 at h
    refine ev_iload_n (pc' := 5) rfl rfl rfl ?_
    refine ev_aload_n (pc' := 6) rfl rfl rfl ?_
    refine ev_getfield (pc' := 9) (w := .int (σ 85 64)) rfl rfl rfl rfl ?_
    rcases am_if h with ⟨hc1, h⟩ | ⟨hc1, h⟩
    · refine ev_ic_t (pc' := 46) rfl rfl (cb_ge_t hc1) ?_
      refine ev_iload_n (pc' := 47) rfl rfl rfl ?_
      obtain rfl := Option.some.inj h
      exact ev_ireturn rfl rfl
    · refine ev_ic_f (pc' := 12) rfl (by decide) rfl (cb_ge_f hc1) ?_
      refine ev_iload_n (pc' := 13) rfl rfl rfl ?_
      refine ev_iload_n (pc' := 14) rfl rfl rfl ?_
      refine ev_aload_n (pc' := 15) rfl rfl rfl ?_
      refine ev_getfield (pc' := 18) (w := .int (σ 85 64)) rfl rfl rfl rfl ?_
      refine ev_iconst (pc' := 19) (b := (1 : Int32)) rfl rfl rfl ?_
      refine ev_isub (pc' := 20) rfl rfl ?_
      refine ev_iload_n (pc' := 21) rfl rfl rfl ?_
      refine ev_isub (pc' := 22) rfl rfl ?_
      refine ev_ishr (pc' := 23) rfl rfl ?_
      refine ev_iconst (pc' := 24) (b := (1 : Int32)) rfl rfl rfl ?_
      refine ev_iand (pc' := 25) rfl rfl ?_
      rcases am_if h with ⟨hc2, h⟩ | ⟨hc2, h⟩
      · refine ev_if_f (pc' := 28) rfl (by decide) rfl (cb_ne_f hc2) ?_
        refine ev_aload_n (pc' := 29) rfl rfl rfl ?_
        refine ev_getfield (pc' := 32) (w := .ref 128) rfl rfl rfl rfl ?_
        refine ev_iload_n (pc' := 33) rfl rfl rfl ?_
        obtain ⟨hg3, h⟩ := am_g_some h
        refine ev_iaload (pc' := 34) rfl rfl rfl hg3 ?_
        refine ev_goto (pc' := 38) rfl rfl ?_
        exact fm_sumOf_b38_e (hk4 := fun h => ih h) h
      · refine ev_if_t (pc' := 37) rfl rfl (cb_ne_t hc2) ?_
        refine ev_iconst (pc' := 38) (b := (0 : Int32)) rfl rfl rfl ?_
        exact fm_sumOf_b38_e (hk4 := fun h => ih h) h
def fm_sumOf (N : Nat) (a1 : Int32) (σ : am_S) : Option Int32 := fm_sumOf_b4 N N a1 (0 : Int32) (0 : Int32) σ
set_option maxRecDepth 100000 in
theorem fm_sumOf_e {X : Nat} {xs : Nat → Int32} {d : Nat} {N : Nat} {a1 : Int32} {σ : am_S} {o : Int32} (h : fm_sumOf N a1 σ = some o) : am_Ev am_sh (am_exx X xs) (d + 0) mm_176 0 [.ref 85, .int a1, .null, .null] [] σ (some (.int o)) σ := by
  unfold fm_sumOf at h
  refine ev_iconst (pc' := 1) (b := (0 : Int32)) rfl rfl rfl ?_
  refine ev_istore_n (pc' := 2) (L' := [.ref 85, .int a1, .int (0 : Int32), .null]) rfl rfl rfl rfl ?_
  refine ev_iconst (pc' := 3) (b := (0 : Int32)) rfl rfl rfl ?_
  refine ev_istore_n (pc' := 4) (L' := [.ref 85, .int a1, .int (0 : Int32), .int (0 : Int32)]) rfl rfl rfl rfl ?_
  exact fm_sumOf_b4_e h
/-! PartedLandModel.parting (85,): P -/
def fm_parting_b62 (N : Nat) (k14 : Int32 → Int32 → Int32 → Int32 → am_S → Option Int32) (x1 : Int32) (x2 : Int32) (x3 : Int32) (x4 : Int32) (σ : am_S) : Option Int32 := k14 x1 x2 x3 (x4 + (1 : Int32)) σ
set_option maxRecDepth 100000 in
theorem fm_parting_b62_e {X : Nat} {xs : Nat → Int32} {d : Nat} {N : Nat} {k14 : Int32 → Int32 → Int32 → Int32 → am_S → Option Int32} (hk14 : ∀ {x1 : Int32} {x2 : Int32} {x3 : Int32} {x4 : Int32} {w5 : Value} {σ : am_S} {o : Int32}, k14 x1 x2 x3 x4 σ = some o → am_Ev am_sh (am_exx X xs) (d + 2) mm_175 14 [.ref 85, .int x1, .int x2, .int x3, .int x4, w5] [] σ (some (.int o)) σ) {x1 : Int32} {x2 : Int32} {x3 : Int32} {x4 : Int32} {w5 : Value} {σ : am_S} {o : Int32} (h : fm_parting_b62 N k14 x1 x2 x3 x4 σ = some o) : am_Ev am_sh (am_exx X xs) (d + 2) mm_175 62 [.ref 85, .int x1, .int x2, .int x3, .int x4, w5] [] σ (some (.int o)) σ := by
  unfold fm_parting_b62 at h
  refine ev_iinc (pc' := 65) (L' := [.ref 85, .int x1, .int x2, .int x3, .int (x4 + (1 : Int32)), w5]) (b := (1 : Int32)) rfl rfl rfl rfl rfl ?_
  refine ev_goto (pc' := 14) rfl rfl ?_
  exact hk14 h
def fm_parting_b48 (N : Nat) (k14 : Int32 → Int32 → Int32 → Int32 → am_S → Option Int32) (x1 : Int32) (x2 : Int32) (x3 : Int32) (x4 : Int32) (s0 : Int32) (σ : am_S) : Option Int32 := (if x3 ≤ s0 then fm_parting_b62 N k14 x1 x2 x3 x4 σ else fm_parting_b62 N k14 x1 x4 s0 x4 σ)
set_option maxRecDepth 100000 in
theorem fm_parting_b48_e {X : Nat} {xs : Nat → Int32} {d : Nat} {N : Nat} {k14 : Int32 → Int32 → Int32 → Int32 → am_S → Option Int32} (hk14 : ∀ {x1 : Int32} {x2 : Int32} {x3 : Int32} {x4 : Int32} {w5 : Value} {σ : am_S} {o : Int32}, k14 x1 x2 x3 x4 σ = some o → am_Ev am_sh (am_exx X xs) (d + 2) mm_175 14 [.ref 85, .int x1, .int x2, .int x3, .int x4, w5] [] σ (some (.int o)) σ) {x1 : Int32} {x2 : Int32} {x3 : Int32} {x4 : Int32} {s0 : Int32} {w5 : Value} {σ : am_S} {o : Int32} (h : fm_parting_b48 N k14 x1 x2 x3 x4 s0 σ = some o) : am_Ev am_sh (am_exx X xs) (d + 2) mm_175 48 [.ref 85, .int x1, .int x2, .int x3, .int x4, w5] [.int s0] σ (some (.int o)) σ := by
  unfold fm_parting_b48 at h
  refine ev_istore (pc' := 50) (L' := [.ref 85, .int x1, .int x2, .int x3, .int x4, .int s0]) rfl rfl rfl rfl ?_
  refine ev_iload (pc' := 52) rfl rfl rfl ?_
  refine ev_iload_n (pc' := 53) rfl rfl rfl ?_
  rcases am_if h with ⟨hc1, h⟩ | ⟨hc1, h⟩
  · refine ev_ic_t (pc' := 62) rfl rfl (cb_ge_t hc1) ?_
    exact fm_parting_b62_e (hk14 := hk14) h
  · refine ev_ic_f (pc' := 56) rfl (by decide) rfl (cb_ge_f hc1) ?_
    refine ev_iload (pc' := 58) rfl rfl rfl ?_
    refine ev_istore_n (pc' := 59) (L' := [.ref 85, .int x1, .int x2, .int s0, .int x4, .int s0]) rfl rfl rfl rfl ?_
    refine ev_iload (pc' := 61) rfl rfl rfl ?_
    refine ev_istore_n (pc' := 62) (L' := [.ref 85, .int x1, .int x4, .int s0, .int x4, .int s0]) rfl rfl rfl rfl ?_
    exact fm_parting_b62_e (hk14 := hk14) h
def fm_parting_b14 (N : Nat) : Nat → Int32 → Int32 → Int32 → Int32 → am_S → Option Int32
  | 0, _, _, _, _, _ => none
  | n + 1, x1, x2, x3, x4, σ => (if ((1 : Int32) <<< ((σ 85 64) &&& 31)) ≤ x4 then some x2 else (fm_sumOf N x4 σ).bind fun q2 => (if 0 ≤ (q2 - x1) then fm_parting_b48 N (fun x1 x2 x3 x4 σ => fm_parting_b14 N n x1 x2 x3 x4 σ) x1 x2 x3 x4 (q2 - x1) σ else fm_parting_b48 N (fun x1 x2 x3 x4 σ => fm_parting_b14 N n x1 x2 x3 x4 σ) x1 x2 x3 x4 (-(q2 - x1)) σ))
set_option maxRecDepth 100000 in
theorem fm_parting_b14_e {X : Nat} {xs : Nat → Int32} {d : Nat} {N : Nat} : ∀ {n : Nat} {x1 : Int32} {x2 : Int32} {x3 : Int32} {x4 : Int32} {w5 : Value} {σ : am_S} {o : Int32}, fm_parting_b14 N n x1 x2 x3 x4 σ = some o → am_Ev am_sh (am_exx X xs) (d + 2) mm_175 14 [.ref 85, .int x1, .int x2, .int x3, .int x4, w5] [] σ (some (.int o)) σ := by
  intro n
  induction n with
  | zero => intro x1 x2 x3 x4 w5 σ o h; cases h
  | succ n ih =>
    intro x1 x2 x3 x4 w5 σ o h
    unfold fm_parting_b14 at h
    refine ev_iload (pc' := 16) rfl rfl rfl ?_
    refine ev_iconst (pc' := 17) (b := (1 : Int32)) rfl rfl rfl ?_
    refine ev_aload_n (pc' := 18) rfl rfl rfl ?_
    refine ev_getfield (pc' := 21) (w := .int (σ 85 64)) rfl rfl rfl rfl ?_
    refine ev_ishl (pc' := 22) rfl rfl ?_
    rcases am_if h with ⟨hc1, h⟩ | ⟨hc1, h⟩
    · refine ev_ic_t (pc' := 68) rfl rfl (cb_ge_t hc1) ?_
      refine ev_iload_n (pc' := 69) rfl rfl rfl ?_
      obtain rfl := Option.some.inj h
      exact ev_ireturn rfl rfl
    · refine ev_ic_f (pc' := 25) rfl (by decide) rfl (cb_ge_f hc1) ?_
      refine ev_aload_n (pc' := 26) rfl rfl rfl ?_
      refine ev_iload (pc' := 28) rfl rfl rfl ?_
      refine am_bd h (fun q2 hq2 h => ?_)
      refine ev_call (mi := 176) (as := [.ref 85, .int x4]) (rest := []) rfl rfl (Nat.le_of_ble_eq_true rfl) (fm_sumOf_e (d := d + 1) hq2) ?_
      show am_Ev _ _ _ _ 31 _ _ _ _ _
      refine ev_iload_n (pc' := 32) rfl rfl rfl ?_
      refine ev_isub (pc' := 33) rfl rfl ?_
      refine ev_istore (pc' := 35) (L' := [.ref 85, .int x1, .int x2, .int x3, .int x4, .int (q2 - x1)]) rfl rfl rfl rfl ?_
      refine ev_iload (pc' := 37) rfl rfl rfl ?_
      rcases am_if h with ⟨hc3, h⟩ | ⟨hc3, h⟩
      · refine ev_if_t (pc' := 46) rfl rfl (cb_ge_t hc3) ?_
        refine ev_iload (pc' := 48) rfl rfl rfl ?_
        exact fm_parting_b48_e (hk14 := fun h => ih h) h
      · refine ev_if_f (pc' := 40) rfl (by decide) rfl (cb_ge_f hc3) ?_
        refine ev_iload (pc' := 42) rfl rfl rfl ?_
        refine ev_ineg (pc' := 43) rfl rfl ?_
        refine ev_goto (pc' := 48) rfl rfl ?_
        exact fm_parting_b48_e (hk14 := fun h => ih h) h
def fm_parting (N : Nat) (σ : am_S) : Option Int32 := (fm_wanted N σ).bind fun q1 => fm_parting_b14 N N q1 (0 : Int32) (2147483647 : Int32) (0 : Int32) σ
set_option maxRecDepth 100000 in
theorem fm_parting_e {X : Nat} {xs : Nat → Int32} {d : Nat} {N : Nat} {σ : am_S} {o : Int32} (h : fm_parting N σ = some o) : am_Ev am_sh (am_exx X xs) (d + 2) mm_175 0 [.ref 85, .null, .null, .null, .null, .null] [] σ (some (.int o)) σ := by
  unfold fm_parting at h
  refine ev_aload_n (pc' := 1) rfl rfl rfl ?_
  refine am_bd h (fun q1 hq1 h => ?_)
  refine ev_call (mi := 174) (as := [.ref 85]) (rest := []) rfl rfl (Nat.le_of_ble_eq_true rfl) (fm_wanted_e (d := d) hq1) ?_
  show am_Ev _ _ _ _ 4 _ _ _ _ _
  refine ev_istore_n (pc' := 5) (L' := [.ref 85, .int q1, .null, .null, .null, .null]) rfl rfl rfl rfl ?_
  refine ev_iconst (pc' := 6) (b := (0 : Int32)) rfl rfl rfl ?_
  refine ev_istore_n (pc' := 7) (L' := [.ref 85, .int q1, .int (0 : Int32), .null, .null, .null]) rfl rfl rfl rfl ?_
  refine ev_ldc_w (pc' := 10) (b := (2147483647 : Int32)) rfl rfl rfl ?_
  refine ev_istore_n (pc' := 11) (L' := [.ref 85, .int q1, .int (0 : Int32), .int (2147483647 : Int32), .null, .null]) rfl rfl rfl rfl ?_
  refine ev_iconst (pc' := 12) (b := (0 : Int32)) rfl rfl rfl ?_
  refine ev_istore (pc' := 14) (L' := [.ref 85, .int q1, .int (0 : Int32), .int (2147483647 : Int32), .int (0 : Int32), .null]) rfl rfl rfl rfl ?_
  exact fm_parting_b14_e h
/-! PartedLandModel.whereOf (85, 'I'): S -/
def fm_whereOf (N : Nat) (a1 : Int32) (σ : am_S) : Option (Int32 × am_S) := (fm_tellGroups N σ).bind fun q1 => am_g (am_in a1 24) <| (if (q1 105 a1.toNatClampNeg) = 0 then some ((-1 : Int32), q1) else am_g (am_in a1 24) <| (if (q1 105 a1.toNatClampNeg) = (1 : Int32) then am_g (am_in a1 24) <| (fm_sideOf N (q1 107 a1.toNatClampNeg) q1).bind fun q7 => some (q7, q1) else am_g (am_in a1 24) <| (if (q1 105 a1.toNatClampNeg) = (2 : Int32) then some ((2 : Int32), q1) else (fm_counts a1 q1).bind fun q10 => (if q10 = 0 then am_g (am_in a1 24) <| am_g (am_in (q1 107 a1.toNatClampNeg) 24) <| (fm_sideOf N (q1 107 (q1 107 a1.toNatClampNeg).toNatClampNeg) q1).bind fun q14 => some (q14, q1) else (if (q1 85 64) ≤ (14 : Int32) then (fm_parting N q1).bind fun q16 => am_g (am_in a1 24) <| some (((q16 >>> ((((q1 85 64) - (1 : Int32)) - (q1 127 a1.toNatClampNeg)) &&& 31)) &&& (1 : Int32)), q1) else some ((-2 : Int32), q1))))))
set_option maxRecDepth 100000 in
theorem fm_whereOf_e {X : Nat} {xs : Nat → Int32} {d : Nat} {N : Nat} {a1 : Int32} {σ : am_S} {o : Int32 × am_S} (h : fm_whereOf N a1 σ = some o) : am_Ev am_sh (am_exx X xs) (d + 4) mm_177 0 [.ref 85, .int a1] [] σ (some (.int o.1)) o.2 := by
  unfold fm_whereOf at h
  refine ev_aload_n (pc' := 1) rfl rfl rfl ?_
  refine am_bd h (fun q1 hq1 h => ?_)
  refine ev_call (mi := 172) (as := [.ref 85]) (rest := []) rfl rfl (Nat.le_of_ble_eq_true rfl) (fm_tellGroups_e (d := d) hq1) ?_
  show am_Ev _ _ _ _ 4 _ _ _ _ _
  refine ev_aload_n (pc' := 5) rfl rfl rfl ?_
  refine ev_getfield (pc' := 8) (w := .ref 105) rfl rfl rfl rfl ?_
  refine ev_iload_n (pc' := 9) rfl rfl rfl ?_
  obtain ⟨hg2, h⟩ := am_g_some h
  refine ev_iaload (pc' := 10) rfl rfl rfl hg2 ?_
  rcases am_if h with ⟨hc3, h⟩ | ⟨hc3, h⟩
  · refine ev_if_f (pc' := 13) rfl (by decide) rfl (cb_ne_f hc3) ?_
    refine ev_iconst (pc' := 14) (b := (-1 : Int32)) rfl rfl rfl ?_
    obtain rfl := Option.some.inj h
    exact ev_ireturn rfl rfl
  · refine ev_if_t (pc' := 15) rfl rfl (cb_ne_t hc3) ?_
    refine ev_aload_n (pc' := 16) rfl rfl rfl ?_
    refine ev_getfield (pc' := 19) (w := .ref 105) rfl rfl rfl rfl ?_
    refine ev_iload_n (pc' := 20) rfl rfl rfl ?_
    obtain ⟨hg4, h⟩ := am_g_some h
    refine ev_iaload (pc' := 21) rfl rfl rfl hg4 ?_
    refine ev_iconst (pc' := 22) (b := (1 : Int32)) rfl rfl rfl ?_
    rcases am_if h with ⟨hc5, h⟩ | ⟨hc5, h⟩
    · refine ev_ic_f (pc' := 25) rfl (by decide) rfl (cb_ne_f hc5) ?_
      refine ev_aload_n (pc' := 26) rfl rfl rfl ?_
      refine ev_aload_n (pc' := 27) rfl rfl rfl ?_
      refine ev_getfield (pc' := 30) (w := .ref 107) rfl rfl rfl rfl ?_
      refine ev_iload_n (pc' := 31) rfl rfl rfl ?_
      obtain ⟨hg6, h⟩ := am_g_some h
      refine ev_iaload (pc' := 32) rfl rfl rfl hg6 ?_
      refine am_bd h (fun q7 hq7 h => ?_)
      refine ev_call (mi := 143) (as := [.ref 85, .int (q1 107 a1.toNatClampNeg)]) (rest := []) rfl rfl (Nat.le_of_ble_eq_true rfl) (fm_sideOf_e (d := d + 2) hq7) ?_
      show am_Ev _ _ _ _ 35 _ _ _ _ _
      obtain rfl := Option.some.inj h
      exact ev_ireturn rfl rfl
    · refine ev_ic_t (pc' := 36) rfl rfl (cb_ne_t hc5) ?_
      refine ev_aload_n (pc' := 37) rfl rfl rfl ?_
      refine ev_getfield (pc' := 40) (w := .ref 105) rfl rfl rfl rfl ?_
      refine ev_iload_n (pc' := 41) rfl rfl rfl ?_
      obtain ⟨hg8, h⟩ := am_g_some h
      refine ev_iaload (pc' := 42) rfl rfl rfl hg8 ?_
      refine ev_iconst (pc' := 43) (b := (2 : Int32)) rfl rfl rfl ?_
      rcases am_if h with ⟨hc9, h⟩ | ⟨hc9, h⟩
      · refine ev_ic_f (pc' := 46) rfl (by decide) rfl (cb_ne_f hc9) ?_
        refine ev_iconst (pc' := 47) (b := (2 : Int32)) rfl rfl rfl ?_
        obtain rfl := Option.some.inj h
        exact ev_ireturn rfl rfl
      · refine ev_ic_t (pc' := 48) rfl rfl (cb_ne_t hc9) ?_
        refine ev_aload_n (pc' := 49) rfl rfl rfl ?_
        refine ev_iload_n (pc' := 50) rfl rfl rfl ?_
        refine am_bd h (fun q10 hq10 h => ?_)
        refine ev_call (mi := 171) (as := [.ref 85, .int a1]) (rest := []) rfl rfl (Nat.le_of_ble_eq_true rfl) (fm_counts_e (d := d + 2) hq10) ?_
        show am_Ev _ _ _ _ 53 _ _ _ _ _
        rcases am_if h with ⟨hc11, h⟩ | ⟨hc11, h⟩
        · refine ev_if_f (pc' := 56) rfl (by decide) rfl (cb_ne_f hc11) ?_
          refine ev_aload_n (pc' := 57) rfl rfl rfl ?_
          refine ev_aload_n (pc' := 58) rfl rfl rfl ?_
          refine ev_getfield (pc' := 61) (w := .ref 107) rfl rfl rfl rfl ?_
          refine ev_aload_n (pc' := 62) rfl rfl rfl ?_
          refine ev_getfield (pc' := 65) (w := .ref 107) rfl rfl rfl rfl ?_
          refine ev_iload_n (pc' := 66) rfl rfl rfl ?_
          obtain ⟨hg12, h⟩ := am_g_some h
          refine ev_iaload (pc' := 67) rfl rfl rfl hg12 ?_
          obtain ⟨hg13, h⟩ := am_g_some h
          refine ev_iaload (pc' := 68) rfl rfl rfl hg13 ?_
          refine am_bd h (fun q14 hq14 h => ?_)
          refine ev_call (mi := 143) (as := [.ref 85, .int (q1 107 (q1 107 a1.toNatClampNeg).toNatClampNeg)]) (rest := []) rfl rfl (Nat.le_of_ble_eq_true rfl) (fm_sideOf_e (d := d + 2) hq14) ?_
          show am_Ev _ _ _ _ 71 _ _ _ _ _
          obtain rfl := Option.some.inj h
          exact ev_ireturn rfl rfl
        · refine ev_if_t (pc' := 72) rfl rfl (cb_ne_t hc11) ?_
          refine ev_aload_n (pc' := 73) rfl rfl rfl ?_
          refine ev_getfield (pc' := 76) (w := .int (q1 85 64)) rfl rfl rfl rfl ?_
          refine ev_bipush (pc' := 78) (b := (14 : Int32)) rfl rfl rfl ?_
          rcases am_if h with ⟨hc15, h⟩ | ⟨hc15, h⟩
          · refine ev_ic_t (pc' := 84) rfl rfl (cb_le_t hc15) ?_
            refine ev_aload_n (pc' := 85) rfl rfl rfl ?_
            refine am_bd h (fun q16 hq16 h => ?_)
            refine ev_call (mi := 175) (as := [.ref 85]) (rest := []) rfl rfl (Nat.le_of_ble_eq_true rfl) (fm_parting_e (d := d + 1) hq16) ?_
            show am_Ev _ _ _ _ 88 _ _ _ _ _
            refine ev_aload_n (pc' := 89) rfl rfl rfl ?_
            refine ev_getfield (pc' := 92) (w := .int (q1 85 64)) rfl rfl rfl rfl ?_
            refine ev_iconst (pc' := 93) (b := (1 : Int32)) rfl rfl rfl ?_
            refine ev_isub (pc' := 94) rfl rfl ?_
            refine ev_aload_n (pc' := 95) rfl rfl rfl ?_
            refine ev_getfield (pc' := 98) (w := .ref 127) rfl rfl rfl rfl ?_
            refine ev_iload_n (pc' := 99) rfl rfl rfl ?_
            obtain ⟨hg17, h⟩ := am_g_some h
            refine ev_iaload (pc' := 100) rfl rfl rfl hg17 ?_
            refine ev_isub (pc' := 101) rfl rfl ?_
            refine ev_ishr (pc' := 102) rfl rfl ?_
            refine ev_iconst (pc' := 103) (b := (1 : Int32)) rfl rfl rfl ?_
            refine ev_iand (pc' := 104) rfl rfl ?_
            obtain rfl := Option.some.inj h
            exact ev_ireturn rfl rfl
          · refine ev_ic_f (pc' := 81) rfl (by decide) rfl (cb_le_f hc15) ?_
            refine ev_bipush (pc' := 83) (b := (-2 : Int32)) rfl rfl rfl ?_
            obtain rfl := Option.some.inj h
            exact ev_ireturn rfl rfl
/-! PartedLandModel.goes (85, 'I'): S -/
def fm_goes (N : Nat) (a1 : Int32) (σ : am_S) : Option (Int32 × am_S) := (if (fm_isThing a1 σ) = 0 then (fm_finding (1 : Int32) σ).bind fun q2 => some (q2.1, q2.2) else (fm_whereOf N a1 σ).bind fun q3 => (if q3.1 = (-1 : Int32) then (fm_finding (2 : Int32) q3.2).bind fun q5 => some (q5.1, q5.2) else (if q3.1 = (-2 : Int32) then (fm_finding (3 : Int32) q3.2).bind fun q7 => some (q7.1, q7.2) else some (q3.1, q3.2))))
set_option maxRecDepth 100000 in
theorem fm_goes_e {X : Nat} {xs : Nat → Int32} {d : Nat} {N : Nat} {a1 : Int32} {σ : am_S} {o : Int32 × am_S} (h : fm_goes N a1 σ = some o) : am_Ev am_sh (am_exx X xs) (d + 5) mm_178 0 [.ref 85, .int a1, .null] [] σ (some (.int o.1)) o.2 := by
  unfold fm_goes at h
  refine ev_aload_n (pc' := 1) rfl rfl rfl ?_
  refine ev_iload_n (pc' := 2) rfl rfl rfl ?_
  refine ev_call (mi := 203) (as := [.ref 85, .int a1]) (rest := []) rfl rfl (Nat.le_of_ble_eq_true rfl) (fm_isThing_e (d := d + 4) rfl) ?_
  show am_Ev _ _ _ _ 5 _ _ _ _ _
  rcases am_if h with ⟨hc1, h⟩ | ⟨hc1, h⟩
  · refine ev_if_f (pc' := 8) rfl (by decide) rfl (cb_ne_f hc1) ?_
    refine ev_aload_n (pc' := 9) rfl rfl rfl ?_
    refine ev_iconst (pc' := 10) (b := (1 : Int32)) rfl rfl rfl ?_
    refine am_bd h (fun q2 hq2 h => ?_)
    refine ev_call (mi := 159) (as := [.ref 85, .int (1 : Int32)]) (rest := []) rfl rfl (Nat.le_of_ble_eq_true rfl) (fm_finding_e (d := d + 4) hq2) ?_
    show am_Ev _ _ _ _ 13 _ _ _ _ _
    obtain rfl := Option.some.inj h
    exact ev_ireturn rfl rfl
  · refine ev_if_t (pc' := 14) rfl rfl (cb_ne_t hc1) ?_
    refine ev_aload_n (pc' := 15) rfl rfl rfl ?_
    refine ev_iload_n (pc' := 16) rfl rfl rfl ?_
    refine am_bd h (fun q3 hq3 h => ?_)
    refine ev_call (mi := 177) (as := [.ref 85, .int a1]) (rest := []) rfl rfl (Nat.le_of_ble_eq_true rfl) (fm_whereOf_e (d := d) hq3) ?_
    show am_Ev _ _ _ _ 19 _ _ _ _ _
    refine ev_istore_n (pc' := 20) (L' := [.ref 85, .int a1, .int q3.1]) rfl rfl rfl rfl ?_
    refine ev_iload_n (pc' := 21) rfl rfl rfl ?_
    refine ev_iconst (pc' := 22) (b := (-1 : Int32)) rfl rfl rfl ?_
    rcases am_if h with ⟨hc4, h⟩ | ⟨hc4, h⟩
    · refine ev_ic_f (pc' := 25) rfl (by decide) rfl (cb_ne_f hc4) ?_
      refine ev_aload_n (pc' := 26) rfl rfl rfl ?_
      refine ev_iconst (pc' := 27) (b := (2 : Int32)) rfl rfl rfl ?_
      refine am_bd h (fun q5 hq5 h => ?_)
      refine ev_call (mi := 159) (as := [.ref 85, .int (2 : Int32)]) (rest := []) rfl rfl (Nat.le_of_ble_eq_true rfl) (fm_finding_e (d := d + 4) hq5) ?_
      show am_Ev _ _ _ _ 30 _ _ _ _ _
      refine ev_goto (pc' := 48) rfl rfl ?_
      obtain rfl := Option.some.inj h
      exact ev_ireturn rfl rfl
    · refine ev_ic_t (pc' := 33) rfl rfl (cb_ne_t hc4) ?_
      refine ev_iload_n (pc' := 34) rfl rfl rfl ?_
      refine ev_bipush (pc' := 36) (b := (-2 : Int32)) rfl rfl rfl ?_
      rcases am_if h with ⟨hc6, h⟩ | ⟨hc6, h⟩
      · refine ev_ic_f (pc' := 39) rfl (by decide) rfl (cb_ne_f hc6) ?_
        refine ev_aload_n (pc' := 40) rfl rfl rfl ?_
        refine ev_iconst (pc' := 41) (b := (3 : Int32)) rfl rfl rfl ?_
        refine am_bd h (fun q7 hq7 h => ?_)
        refine ev_call (mi := 159) (as := [.ref 85, .int (3 : Int32)]) (rest := []) rfl rfl (Nat.le_of_ble_eq_true rfl) (fm_finding_e (d := d + 4) hq7) ?_
        show am_Ev _ _ _ _ 44 _ _ _ _ _
        refine ev_goto (pc' := 48) rfl rfl ?_
        obtain rfl := Option.some.inj h
        exact ev_ireturn rfl rfl
      · refine ev_ic_t (pc' := 47) rfl rfl (cb_ne_t hc6) ?_
        refine ev_iload_n (pc' := 48) rfl rfl rfl ?_
        obtain rfl := Option.some.inj h
        exact ev_ireturn rfl rfl
/-! PartedLandModel.rest (85, 'I'): S -/
def fm_rest (N : Nat) (a1 : Int32) (σ : am_S) : Option (Int32 × am_S) := (if (fm_isIn a1 (0 : Int32) (2 : Int32) σ) = 0 then (fm_finding (1 : Int32) σ).bind fun q2 => some (q2.1, q2.2) else (fm_tellGroups N σ).bind fun q3 => (if a1 = (2 : Int32) then some ((q3 85 64), q3) else (if (q3 85 64) ≤ (14 : Int32) then (if a1 = (1 : Int32) then (fm_allWorth N q3).bind fun q7 => some (q7, q3) else (fm_wanted N q3).bind fun q8 => (fm_parting N q3).bind fun q9 => (fm_sumOf N q9 q3).bind fun q10 => some ((q8 - q10), q3)) else (fm_finding (3 : Int32) q3).bind fun q11 => some (q11.1, q11.2))))
set_option maxRecDepth 100000 in
theorem fm_rest_e {X : Nat} {xs : Nat → Int32} {d : Nat} {N : Nat} {a1 : Int32} {σ : am_S} {o : Int32 × am_S} (h : fm_rest N a1 σ = some o) : am_Ev am_sh (am_exx X xs) (d + 4) mm_179 0 [.ref 85, .int a1] [] σ (some (.int o.1)) o.2 := by
  unfold fm_rest at h
  refine ev_iload_n (pc' := 1) rfl rfl rfl ?_
  refine ev_iconst (pc' := 2) (b := (0 : Int32)) rfl rfl rfl ?_
  refine ev_iconst (pc' := 3) (b := (2 : Int32)) rfl rfl rfl ?_
  refine ev_call (mi := 170) (as := [.int a1, .int (0 : Int32), .int (2 : Int32)]) (rest := []) rfl rfl (Nat.le_of_ble_eq_true rfl) (fm_isIn_e (d := d + 3) rfl) ?_
  show am_Ev _ _ _ _ 6 _ _ _ _ _
  rcases am_if h with ⟨hc1, h⟩ | ⟨hc1, h⟩
  · refine ev_if_f (pc' := 9) rfl (by decide) rfl (cb_ne_f hc1) ?_
    refine ev_aload_n (pc' := 10) rfl rfl rfl ?_
    refine ev_iconst (pc' := 11) (b := (1 : Int32)) rfl rfl rfl ?_
    refine am_bd h (fun q2 hq2 h => ?_)
    refine ev_call (mi := 159) (as := [.ref 85, .int (1 : Int32)]) (rest := []) rfl rfl (Nat.le_of_ble_eq_true rfl) (fm_finding_e (d := d + 3) hq2) ?_
    show am_Ev _ _ _ _ 14 _ _ _ _ _
    obtain rfl := Option.some.inj h
    exact ev_ireturn rfl rfl
  · refine ev_if_t (pc' := 15) rfl rfl (cb_ne_t hc1) ?_
    refine ev_aload_n (pc' := 16) rfl rfl rfl ?_
    refine am_bd h (fun q3 hq3 h => ?_)
    refine ev_call (mi := 172) (as := [.ref 85]) (rest := []) rfl rfl (Nat.le_of_ble_eq_true rfl) (fm_tellGroups_e (d := d) hq3) ?_
    show am_Ev _ _ _ _ 19 _ _ _ _ _
    refine ev_iload_n (pc' := 20) rfl rfl rfl ?_
    refine ev_iconst (pc' := 21) (b := (2 : Int32)) rfl rfl rfl ?_
    rcases am_if h with ⟨hc4, h⟩ | ⟨hc4, h⟩
    · refine ev_ic_f (pc' := 24) rfl (by decide) rfl (cb_ne_f hc4) ?_
      refine ev_aload_n (pc' := 25) rfl rfl rfl ?_
      refine ev_getfield (pc' := 28) (w := .int (q3 85 64)) rfl rfl rfl rfl ?_
      obtain rfl := Option.some.inj h
      exact ev_ireturn rfl rfl
    · refine ev_ic_t (pc' := 29) rfl rfl (cb_ne_t hc4) ?_
      refine ev_aload_n (pc' := 30) rfl rfl rfl ?_
      refine ev_getfield (pc' := 33) (w := .int (q3 85 64)) rfl rfl rfl rfl ?_
      refine ev_bipush (pc' := 35) (b := (14 : Int32)) rfl rfl rfl ?_
      rcases am_if h with ⟨hc5, h⟩ | ⟨hc5, h⟩
      · refine ev_ic_t (pc' := 44) rfl rfl (cb_le_t hc5) ?_
        refine ev_iload_n (pc' := 45) rfl rfl rfl ?_
        refine ev_iconst (pc' := 46) (b := (1 : Int32)) rfl rfl rfl ?_
        rcases am_if h with ⟨hc6, h⟩ | ⟨hc6, h⟩
        · refine ev_ic_f (pc' := 49) rfl (by decide) rfl (cb_ne_f hc6) ?_
          refine ev_aload_n (pc' := 50) rfl rfl rfl ?_
          refine am_bd h (fun q7 hq7 h => ?_)
          refine ev_call (mi := 173) (as := [.ref 85]) (rest := []) rfl rfl (Nat.le_of_ble_eq_true rfl) (fm_allWorth_e (d := d + 3) hq7) ?_
          show am_Ev _ _ _ _ 53 _ _ _ _ _
          refine ev_goto (pc' := 69) rfl rfl ?_
          obtain rfl := Option.some.inj h
          exact ev_ireturn rfl rfl
        · refine ev_ic_t (pc' := 56) rfl rfl (cb_ne_t hc6) ?_
          refine ev_aload_n (pc' := 57) rfl rfl rfl ?_
          refine am_bd h (fun q8 hq8 h => ?_)
          refine ev_call (mi := 174) (as := [.ref 85]) (rest := []) rfl rfl (Nat.le_of_ble_eq_true rfl) (fm_wanted_e (d := d + 2) hq8) ?_
          show am_Ev _ _ _ _ 60 _ _ _ _ _
          refine ev_aload_n (pc' := 61) rfl rfl rfl ?_
          refine ev_aload_n (pc' := 62) rfl rfl rfl ?_
          refine am_bd h (fun q9 hq9 h => ?_)
          refine ev_call (mi := 175) (as := [.ref 85]) (rest := [.ref 85, .int q8]) rfl rfl (Nat.le_of_ble_eq_true rfl) (fm_parting_e (d := d + 1) hq9) ?_
          show am_Ev _ _ _ _ 65 _ _ _ _ _
          refine am_bd h (fun q10 hq10 h => ?_)
          refine ev_call (mi := 176) (as := [.ref 85, .int q9]) (rest := [.int q8]) rfl rfl (Nat.le_of_ble_eq_true rfl) (fm_sumOf_e (d := d + 3) hq10) ?_
          show am_Ev _ _ _ _ 68 _ _ _ _ _
          refine ev_isub (pc' := 69) rfl rfl ?_
          obtain rfl := Option.some.inj h
          exact ev_ireturn rfl rfl
      · refine ev_ic_f (pc' := 38) rfl (by decide) rfl (cb_le_f hc5) ?_
        refine ev_aload_n (pc' := 39) rfl rfl rfl ?_
        refine ev_iconst (pc' := 40) (b := (3 : Int32)) rfl rfl rfl ?_
        refine am_bd h (fun q11 hq11 h => ?_)
        refine ev_call (mi := 159) (as := [.ref 85, .int (3 : Int32)]) (rest := []) rfl rfl (Nat.le_of_ble_eq_true rfl) (fm_finding_e (d := d + 3) hq11) ?_
        show am_Ev _ _ _ _ 43 _ _ _ _ _
        obtain rfl := Option.some.inj h
        exact ev_ireturn rfl rfl
