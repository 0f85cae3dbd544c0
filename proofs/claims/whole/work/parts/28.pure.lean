/-! PartedLandModel.tellTasks (85,): S -/
def fm_tellTasks_b157 (N : Nat) (k9 : Int32 → am_S → Option am_S) (k59 : Int32 → Int32 → am_S → Option am_S) (x1 : Int32) (x3 : Int32) (σ : am_S) : Option am_S := k59 x1 (x3 + (1 : Int32)) σ
set_option maxRecDepth 100000 in
theorem fm_tellTasks_b157_e {X : Nat} {xs : Nat → Int32} {d : Nat} {N : Nat} {k9 : Int32 → am_S → Option am_S} (hk9 : ∀ {x1 : Int32} {w2 : Value} {w3 : Value} {w4 : Value} {σ : am_S} {o : am_S}, k9 x1 σ = some o → am_Ev am_sh (am_exx X xs) (d + 2) mm_206 9 [.ref 85, .int x1, w2, w3, w4] [] σ (none) o) {k59 : Int32 → Int32 → am_S → Option am_S} (hk59 : ∀ {x1 : Int32} {x3 : Int32} {w2 : Value} {w4 : Value} {σ : am_S} {o : am_S}, k59 x1 x3 σ = some o → am_Ev am_sh (am_exx X xs) (d + 2) mm_206 59 [.ref 85, .int x1, w2, .int x3, w4] [] σ (none) o) {x1 : Int32} {x3 : Int32} {w2 : Value} {w4 : Value} {σ : am_S} {o : am_S} (h : fm_tellTasks_b157 N k9 k59 x1 x3 σ = some o) : am_Ev am_sh (am_exx X xs) (d + 2) mm_206 157 [.ref 85, .int x1, w2, .int x3, w4] [] σ (none) o := by
  unfold fm_tellTasks_b157 at h
  refine ev_iinc (pc' := 160) (L' := [.ref 85, .int x1, w2, .int (x3 + (1 : Int32)), w4]) (b := (1 : Int32)) rfl rfl rfl rfl rfl ?_
  refine ev_goto (pc' := 59) rfl rfl ?_
  exact hk59 h
def fm_tellTasks_b131 (N : Nat) (k9 : Int32 → am_S → Option am_S) (k59 : Int32 → Int32 → am_S → Option am_S) (x1 : Int32) (x3 : Int32) (x4 : Int32) (σ : am_S) : Option am_S := am_g (am_in x4 512) <| am_g (am_in x1 512) <| am_g (am_in x4 512) <| am_g (am_in x1 512) <| fm_tellTasks_b157 N k9 k59 x1 x3 (am_up (am_up σ 129 x1.toNatClampNeg (σ 129 x4.toNatClampNeg)) 130 x1.toNatClampNeg (σ 130 x4.toNatClampNeg))
set_option maxRecDepth 100000 in
theorem fm_tellTasks_b131_e {X : Nat} {xs : Nat → Int32} {d : Nat} {N : Nat} {k9 : Int32 → am_S → Option am_S} (hk9 : ∀ {x1 : Int32} {w2 : Value} {w3 : Value} {w4 : Value} {σ : am_S} {o : am_S}, k9 x1 σ = some o → am_Ev am_sh (am_exx X xs) (d + 2) mm_206 9 [.ref 85, .int x1, w2, w3, w4] [] σ (none) o) {k59 : Int32 → Int32 → am_S → Option am_S} (hk59 : ∀ {x1 : Int32} {x3 : Int32} {w2 : Value} {w4 : Value} {σ : am_S} {o : am_S}, k59 x1 x3 σ = some o → am_Ev am_sh (am_exx X xs) (d + 2) mm_206 59 [.ref 85, .int x1, w2, .int x3, w4] [] σ (none) o) {x1 : Int32} {x3 : Int32} {x4 : Int32} {w2 : Value} {σ : am_S} {o : am_S} (h : fm_tellTasks_b131 N k9 k59 x1 x3 x4 σ = some o) : am_Ev am_sh (am_exx X xs) (d + 2) mm_206 131 [.ref 85, .int x1, w2, .int x3, .int x4] [] σ (none) o := by
  unfold fm_tellTasks_b131 at h
  refine ev_aload_n (pc' := 132) rfl rfl rfl ?_
  refine ev_getfield (pc' := 135) (w := .ref 129) rfl rfl rfl rfl ?_
  refine ev_iload_n (pc' := 136) rfl rfl rfl ?_
  refine ev_aload_n (pc' := 137) rfl rfl rfl ?_
  refine ev_getfield (pc' := 140) (w := .ref 129) rfl rfl rfl rfl ?_
  refine ev_iload (pc' := 142) rfl rfl rfl ?_
  obtain ⟨hg1, h⟩ := am_g_some h
  refine ev_iaload (pc' := 143) rfl rfl rfl hg1 ?_
  obtain ⟨hg2, h⟩ := am_g_some h
  refine ev_iastore (pc' := 144) rfl rfl rfl hg2 ?_
  refine ev_aload_n (pc' := 145) rfl rfl rfl ?_
  refine ev_getfield (pc' := 148) (w := .ref 130) rfl rfl rfl rfl ?_
  refine ev_iload_n (pc' := 149) rfl rfl rfl ?_
  refine ev_aload_n (pc' := 150) rfl rfl rfl ?_
  refine ev_getfield (pc' := 153) (w := .ref 130) rfl rfl rfl rfl ?_
  refine ev_iload (pc' := 155) rfl rfl rfl ?_
  obtain ⟨hg3, h⟩ := am_g_some h
  refine ev_iaload (pc' := 156) rfl rfl rfl hg3 ?_
  change am_Ev _ _ _ _ _ _ (.int (σ 130 x4.toNatClampNeg) :: [.int x1, .ref 130]) _ _ _
  obtain ⟨hg4, h⟩ := am_g_some h
  refine ev_iastore (pc' := 157) rfl rfl rfl hg4 ?_
  exact fm_tellTasks_b157_e (hk9 := hk9) (hk59 := hk59) h
def fm_tellTasks_b59 (N : Nat) (k9 : Int32 → am_S → Option am_S) : Nat → Int32 → Int32 → am_S → Option am_S
  | 0, _, _, _ => none
  | n + 1, x1, x3, σ => (if (σ 85 47) ≤ x3 then k9 (x1 + (-1 : Int32)) σ else (fm_canFollow N x1 x3 σ).bind fun q2 => (if q2 = 0 then fm_tellTasks_b157 N k9 (fun x1 x3 σ => fm_tellTasks_b59 N k9 n x1 x3 σ) x1 x3 σ else am_g (am_in (x1 ||| ((1 : Int32) <<< (x3 &&& 31))) 512) <| am_g (am_in x1 512) <| (if (σ 129 x1.toNatClampNeg) < (σ 129 (x1 ||| ((1 : Int32) <<< (x3 &&& 31))).toNatClampNeg) then fm_tellTasks_b131 N k9 (fun x1 x3 σ => fm_tellTasks_b59 N k9 n x1 x3 σ) x1 x3 (x1 ||| ((1 : Int32) <<< (x3 &&& 31))) σ else am_g (am_in (x1 ||| ((1 : Int32) <<< (x3 &&& 31))) 512) <| am_g (am_in x1 512) <| (if (σ 129 (x1 ||| ((1 : Int32) <<< (x3 &&& 31))).toNatClampNeg) = (σ 129 x1.toNatClampNeg) then am_g (am_in (x1 ||| ((1 : Int32) <<< (x3 &&& 31))) 512) <| am_g (am_in x1 512) <| (if (σ 130 x1.toNatClampNeg) ≤ (σ 130 (x1 ||| ((1 : Int32) <<< (x3 &&& 31))).toNatClampNeg) then fm_tellTasks_b157 N k9 (fun x1 x3 σ => fm_tellTasks_b59 N k9 n x1 x3 σ) x1 x3 σ else fm_tellTasks_b131 N k9 (fun x1 x3 σ => fm_tellTasks_b59 N k9 n x1 x3 σ) x1 x3 (x1 ||| ((1 : Int32) <<< (x3 &&& 31))) σ) else fm_tellTasks_b157 N k9 (fun x1 x3 σ => fm_tellTasks_b59 N k9 n x1 x3 σ) x1 x3 σ))))
set_option maxRecDepth 100000 in
theorem fm_tellTasks_b59_e {X : Nat} {xs : Nat → Int32} {d : Nat} {N : Nat} {k9 : Int32 → am_S → Option am_S} (hk9 : ∀ {x1 : Int32} {w2 : Value} {w3 : Value} {w4 : Value} {σ : am_S} {o : am_S}, k9 x1 σ = some o → am_Ev am_sh (am_exx X xs) (d + 2) mm_206 9 [.ref 85, .int x1, w2, w3, w4] [] σ (none) o) : ∀ {n : Nat} {x1 : Int32} {x3 : Int32} {w2 : Value} {w4 : Value} {σ : am_S} {o : am_S}, fm_tellTasks_b59 N k9 n x1 x3 σ = some o → am_Ev am_sh (am_exx X xs) (d + 2) mm_206 59 [.ref 85, .int x1, w2, .int x3, w4] [] σ (none) o := by
  intro n
  induction n with
  | zero => intro x1 x3 w2 w4 σ o h; cases h
  | succ n ih =>
    intro x1 x3 w2 w4 σ o h
    unfold fm_tellTasks_b59 at h
    refine ev_iload_n (pc' := 60) rfl rfl rfl ?_
    refine ev_aload_n (pc' := 61) rfl rfl rfl ?_
    refine ev_getfield (pc' := 64) (w := .int (σ 85 47)) rfl rfl rfl rfl ?_
    rcases am_if h with ⟨hc1, h⟩ | ⟨hc1, h⟩
    · refine ev_ic_t (pc' := 163) rfl rfl (cb_ge_t hc1) ?_
      refine ev_iinc (pc' := 166) (L' := [.ref 85, .int (x1 + (-1 : Int32)), w2, .int x3, w4]) (b := (-1 : Int32)) rfl rfl rfl rfl rfl ?_
      refine ev_goto (pc' := 9) rfl rfl ?_
      exact hk9 h
    · refine ev_ic_f (pc' := 67) rfl (by decide) rfl (cb_ge_f hc1) ?_
      refine ev_aload_n (pc' := 68) rfl rfl rfl ?_
      refine ev_iload_n (pc' := 69) rfl rfl rfl ?_
      refine ev_iload_n (pc' := 70) rfl rfl rfl ?_
      refine am_bd h (fun q2 hq2 h => ?_)
      refine ev_call (mi := 205) (as := [.ref 85, .int x1, .int x3]) (rest := []) rfl rfl (Nat.le_of_ble_eq_true rfl) (fm_canFollow_e (d := d) hq2) ?_
      show am_Ev _ _ _ _ 73 _ _ _ _ _
      rcases am_if h with ⟨hc3, h⟩ | ⟨hc3, h⟩
      · refine ev_if_t (pc' := 157) rfl rfl (cb_eq_t hc3) ?_
        exact fm_tellTasks_b157_e (hk9 := hk9) (hk59 := fun h => ih h) h
      · refine ev_if_f (pc' := 76) rfl (by decide) rfl (cb_eq_f hc3) ?_
        refine ev_iload_n (pc' := 77) rfl rfl rfl ?_
        refine ev_iconst (pc' := 78) (b := (1 : Int32)) rfl rfl rfl ?_
        refine ev_iload_n (pc' := 79) rfl rfl rfl ?_
        refine ev_ishl (pc' := 80) rfl rfl ?_
        refine ev_ior (pc' := 81) rfl rfl ?_
        refine ev_istore (pc' := 83) (L' := [.ref 85, .int x1, w2, .int x3, .int (x1 ||| ((1 : Int32) <<< (x3 &&& 31)))]) rfl rfl rfl rfl ?_
        refine ev_aload_n (pc' := 84) rfl rfl rfl ?_
        refine ev_getfield (pc' := 87) (w := .ref 129) rfl rfl rfl rfl ?_
        refine ev_iload (pc' := 89) rfl rfl rfl ?_
        obtain ⟨hg4, h⟩ := am_g_some h
        refine ev_iaload (pc' := 90) rfl rfl rfl hg4 ?_
        refine ev_aload_n (pc' := 91) rfl rfl rfl ?_
        refine ev_getfield (pc' := 94) (w := .ref 129) rfl rfl rfl rfl ?_
        refine ev_iload_n (pc' := 95) rfl rfl rfl ?_
        obtain ⟨hg5, h⟩ := am_g_some h
        refine ev_iaload (pc' := 96) rfl rfl rfl hg5 ?_
        rcases am_if h with ⟨hc6, h⟩ | ⟨hc6, h⟩
        · refine ev_ic_t (pc' := 131) rfl rfl (cb_gt_t hc6) ?_
          exact fm_tellTasks_b131_e (hk9 := hk9) (hk59 := fun h => ih h) h
        · refine ev_ic_f (pc' := 99) rfl (by decide) rfl (cb_gt_f hc6) ?_
          refine ev_aload_n (pc' := 100) rfl rfl rfl ?_
          refine ev_getfield (pc' := 103) (w := .ref 129) rfl rfl rfl rfl ?_
          refine ev_iload (pc' := 105) rfl rfl rfl ?_
          obtain ⟨hg7, h⟩ := am_g_some h
          refine ev_iaload (pc' := 106) rfl rfl rfl hg7 ?_
          refine ev_aload_n (pc' := 107) rfl rfl rfl ?_
          refine ev_getfield (pc' := 110) (w := .ref 129) rfl rfl rfl rfl ?_
          refine ev_iload_n (pc' := 111) rfl rfl rfl ?_
          obtain ⟨hg8, h⟩ := am_g_some h
          refine ev_iaload (pc' := 112) rfl rfl rfl hg8 ?_
          rcases am_if h with ⟨hc9, h⟩ | ⟨hc9, h⟩
          · refine ev_ic_f (pc' := 115) rfl (by decide) rfl (cb_ne_f hc9) ?_
            refine ev_aload_n (pc' := 116) rfl rfl rfl ?_
            refine ev_getfield (pc' := 119) (w := .ref 130) rfl rfl rfl rfl ?_
            refine ev_iload (pc' := 121) rfl rfl rfl ?_
            obtain ⟨hg10, h⟩ := am_g_some h
            refine ev_iaload (pc' := 122) rfl rfl rfl hg10 ?_
            refine ev_aload_n (pc' := 123) rfl rfl rfl ?_
            refine ev_getfield (pc' := 126) (w := .ref 130) rfl rfl rfl rfl ?_
            refine ev_iload_n (pc' := 127) rfl rfl rfl ?_
            obtain ⟨hg11, h⟩ := am_g_some h
            refine ev_iaload (pc' := 128) rfl rfl rfl hg11 ?_
            rcases am_if h with ⟨hc12, h⟩ | ⟨hc12, h⟩
            · refine ev_ic_t (pc' := 157) rfl rfl (cb_ge_t hc12) ?_
              exact fm_tellTasks_b157_e (hk9 := hk9) (hk59 := fun h => ih h) h
            · refine ev_ic_f (pc' := 131) rfl (by decide) rfl (cb_ge_f hc12) ?_
              exact fm_tellTasks_b131_e (hk9 := hk9) (hk59 := fun h => ih h) h
          · refine ev_ic_t (pc' := 157) rfl rfl (cb_ne_t hc9) ?_
            exact fm_tellTasks_b157_e (hk9 := hk9) (hk59 := fun h => ih h) h
def fm_tellTasks_b17 (N : Nat) (k9 : Int32 → am_S → Option am_S) : Nat → Int32 → Int32 → Int32 → am_S → Option am_S
  | 0, _, _, _, _ => none
  | n + 1, x1, x2, x3, σ => (if (σ 85 47) ≤ x3 then am_g (am_in x1 512) <| (fm_daysOf N x1 (am_up σ 129 x1.toNatClampNeg x2)).bind fun q3 => am_g (am_in x1 512) <| fm_tellTasks_b59 N k9 N x1 (0 : Int32) (am_up (am_up σ 129 x1.toNatClampNeg x2) 130 x1.toNatClampNeg q3) else fm_tellTasks_b17 N k9 n x1 (x2 + ((x1 >>> (x3 &&& 31)) &&& (1 : Int32))) (x3 + (1 : Int32)) σ)
set_option maxRecDepth 100000 in
theorem fm_tellTasks_b17_e {X : Nat} {xs : Nat → Int32} {d : Nat} {N : Nat} {k9 : Int32 → am_S → Option am_S} (hk9 : ∀ {x1 : Int32} {w2 : Value} {w3 : Value} {w4 : Value} {σ : am_S} {o : am_S}, k9 x1 σ = some o → am_Ev am_sh (am_exx X xs) (d + 2) mm_206 9 [.ref 85, .int x1, w2, w3, w4] [] σ (none) o) : ∀ {n : Nat} {x1 : Int32} {x2 : Int32} {x3 : Int32} {w4 : Value} {σ : am_S} {o : am_S}, fm_tellTasks_b17 N k9 n x1 x2 x3 σ = some o → am_Ev am_sh (am_exx X xs) (d + 2) mm_206 17 [.ref 85, .int x1, .int x2, .int x3, w4] [] σ (none) o := by
  intro n
  induction n with
  | zero => intro x1 x2 x3 w4 σ o h; cases h
  | succ n ih =>
    intro x1 x2 x3 w4 σ o h
    unfold fm_tellTasks_b17 at h
    refine ev_iload_n (pc' := 18) rfl rfl rfl ?_
    refine ev_aload_n (pc' := 19) rfl rfl rfl ?_
    refine ev_getfield (pc' := 22) (w := .int (σ 85 47)) rfl rfl rfl rfl ?_
    rcases am_if h with ⟨hc1, h⟩ | ⟨hc1, h⟩
    · refine ev_ic_t (pc' := 39) rfl rfl (cb_ge_t hc1) ?_
      refine ev_aload_n (pc' := 40) rfl rfl rfl ?_
      refine ev_getfield (pc' := 43) (w := .ref 129) rfl rfl rfl rfl ?_
      refine ev_iload_n (pc' := 44) rfl rfl rfl ?_
      refine ev_iload_n (pc' := 45) rfl rfl rfl ?_
      obtain ⟨hg2, h⟩ := am_g_some h
      refine ev_iastore (pc' := 46) rfl rfl rfl hg2 ?_
      refine ev_aload_n (pc' := 47) rfl rfl rfl ?_
      refine ev_getfield (pc' := 50) (w := .ref 130) rfl rfl rfl rfl ?_
      refine ev_iload_n (pc' := 51) rfl rfl rfl ?_
      refine ev_aload_n (pc' := 52) rfl rfl rfl ?_
      refine ev_iload_n (pc' := 53) rfl rfl rfl ?_
      refine am_bd h (fun q3 hq3 h => ?_)
      refine ev_call (mi := 204) (as := [.ref 85, .int x1]) (rest := [.int x1, .ref 130]) rfl rfl (Nat.le_of_ble_eq_true rfl) (fm_daysOf_e (d := d + 1) hq3) ?_
      show am_Ev _ _ _ _ 56 _ _ _ _ _
      obtain ⟨hg4, h⟩ := am_g_some h
      refine ev_iastore (pc' := 57) rfl rfl rfl hg4 ?_
      refine ev_iconst (pc' := 58) (b := (0 : Int32)) rfl rfl rfl ?_
      refine ev_istore_n (pc' := 59) (L' := [.ref 85, .int x1, .int x2, .int (0 : Int32), w4]) rfl rfl rfl rfl ?_
      exact fm_tellTasks_b59_e (hk9 := hk9) h
    · refine ev_ic_f (pc' := 25) rfl (by decide) rfl (cb_ge_f hc1) ?_
      refine ev_iload_n (pc' := 26) rfl rfl rfl ?_
      refine ev_iload_n (pc' := 27) rfl rfl rfl ?_
      refine ev_iload_n (pc' := 28) rfl rfl rfl ?_
      refine ev_ishr (pc' := 29) rfl rfl ?_
      refine ev_iconst (pc' := 30) (b := (1 : Int32)) rfl rfl rfl ?_
      refine ev_iand (pc' := 31) rfl rfl ?_
      refine ev_iadd (pc' := 32) rfl rfl ?_
      refine ev_istore_n (pc' := 33) (L' := [.ref 85, .int x1, .int (x2 + ((x1 >>> (x3 &&& 31)) &&& (1 : Int32))), .int x3, w4]) rfl rfl rfl rfl ?_
      refine ev_iinc (pc' := 36) (L' := [.ref 85, .int x1, .int (x2 + ((x1 >>> (x3 &&& 31)) &&& (1 : Int32))), .int (x3 + (1 : Int32)), w4]) (b := (1 : Int32)) rfl rfl rfl rfl rfl ?_
      refine ev_goto (pc' := 17) rfl rfl ?_
      exact ih h
def fm_tellTasks_b9 (N : Nat) : Nat → Int32 → am_S → Option am_S
  | 0, _, _ => none
  | n + 1, x1, σ => (if x1 < 0 then some σ else fm_tellTasks_b17 N (fun x1 σ => fm_tellTasks_b9 N n x1 σ) N x1 (0 : Int32) (0 : Int32) σ)
set_option maxRecDepth 100000 in
theorem fm_tellTasks_b9_e {X : Nat} {xs : Nat → Int32} {d : Nat} {N : Nat} : ∀ {n : Nat} {x1 : Int32} {w2 : Value} {w3 : Value} {w4 : Value} {σ : am_S} {o : am_S}, fm_tellTasks_b9 N n x1 σ = some o → am_Ev am_sh (am_exx X xs) (d + 2) mm_206 9 [.ref 85, .int x1, w2, w3, w4] [] σ (none) o := by
  intro n
  induction n with
  | zero => intro x1 w2 w3 w4 σ o h; cases h
  | succ n ih =>
    intro x1 w2 w3 w4 σ o h
    unfold fm_tellTasks_b9 at h
    refine ev_iload_n (pc' := 10) rfl rfl rfl ?_
    rcases am_if h with ⟨hc1, h⟩ | ⟨hc1, h⟩
    · refine ev_if_t (pc' := 169) rfl rfl (cb_lt_t hc1) ?_
      obtain rfl := Option.some.inj h
      exact ev_return rfl rfl
    · refine ev_if_f (pc' := 13) rfl (by decide) rfl (cb_lt_f hc1) ?_
      refine ev_iconst (pc' := 14) (b := (0 : Int32)) rfl rfl rfl ?_
      refine ev_istore_n (pc' := 15) (L' := [.ref 85, .int x1, .int (0 : Int32), w3, w4]) rfl rfl rfl rfl ?_
      refine ev_iconst (pc' := 16) (b := (0 : Int32)) rfl rfl rfl ?_
      refine ev_istore_n (pc' := 17) (L' := [.ref 85, .int x1, .int (0 : Int32), .int (0 : Int32), w4]) rfl rfl rfl rfl ?_
      exact fm_tellTasks_b17_e (hk9 := fun h => ih h) h
def fm_tellTasks (N : Nat) (σ : am_S) : Option am_S := fm_tellTasks_b9 N N (((1 : Int32) <<< ((σ 85 47) &&& 31)) - (1 : Int32)) σ
set_option maxRecDepth 100000 in
theorem fm_tellTasks_e {X : Nat} {xs : Nat → Int32} {d : Nat} {N : Nat} {σ : am_S} {o : am_S} (h : fm_tellTasks N σ = some o) : am_Ev am_sh (am_exx X xs) (d + 2) mm_206 0 [.ref 85, .null, .null, .null, .null] [] σ (none) o := by
  unfold fm_tellTasks at h
  refine ev_iconst (pc' := 1) (b := (1 : Int32)) rfl rfl rfl ?_
  refine ev_aload_n (pc' := 2) rfl rfl rfl ?_
  refine ev_getfield (pc' := 5) (w := .int (σ 85 47)) rfl rfl rfl rfl ?_
  refine ev_ishl (pc' := 6) rfl rfl ?_
  refine ev_iconst (pc' := 7) (b := (1 : Int32)) rfl rfl rfl ?_
  refine ev_isub (pc' := 8) rfl rfl ?_
  refine ev_istore_n (pc' := 9) (L' := [.ref 85, .int (((1 : Int32) <<< ((σ 85 47) &&& 31)) - (1 : Int32)), .null, .null, .null]) rfl rfl rfl rfl ?_
  exact fm_tellTasks_b9_e h
/-! PartedLandModel.best (85, 'I'): S -/
def fm_best_b119 (N : Nat) (k64 : Int32 → Int32 → Int32 → Int32 → am_S → Option (Int32 × am_S)) (k72 : Int32 → Int32 → Int32 → Int32 → am_S → Option (Int32 × am_S)) (x1 : Int32) (x2 : Int32) (x3 : Int32) (x4 : Int32) (σ : am_S) : Option (Int32 × am_S) := k72 x1 x2 (x3 + (1 : Int32)) x4 σ
set_option maxRecDepth 100000 in
theorem fm_best_b119_e {X : Nat} {xs : Nat → Int32} {d : Nat} {N : Nat} {k64 : Int32 → Int32 → Int32 → Int32 → am_S → Option (Int32 × am_S)} (hk64 : ∀ {x1 : Int32} {x2 : Int32} {x3 : Int32} {x4 : Int32} {σ : am_S} {o : Int32 × am_S}, k64 x1 x2 x3 x4 σ = some o → am_Ev am_sh (am_exx X xs) (d + 3) mm_207 64 [.ref 85, .int x1, .int x2, .int x3, .int x4] [] σ (some (.int o.1)) o.2) {k72 : Int32 → Int32 → Int32 → Int32 → am_S → Option (Int32 × am_S)} (hk72 : ∀ {x1 : Int32} {x2 : Int32} {x3 : Int32} {x4 : Int32} {σ : am_S} {o : Int32 × am_S}, k72 x1 x2 x3 x4 σ = some o → am_Ev am_sh (am_exx X xs) (d + 3) mm_207 72 [.ref 85, .int x1, .int x2, .int x3, .int x4] [] σ (some (.int o.1)) o.2) {x1 : Int32} {x2 : Int32} {x3 : Int32} {x4 : Int32} {σ : am_S} {o : Int32 × am_S} (h : fm_best_b119 N k64 k72 x1 x2 x3 x4 σ = some o) : am_Ev am_sh (am_exx X xs) (d + 3) mm_207 119 [.ref 85, .int x1, .int x2, .int x3, .int x4] [] σ (some (.int o.1)) o.2 := by
  unfold fm_best_b119 at h
  refine ev_iinc (pc' := 122) (L' := [.ref 85, .int x1, .int x2, .int (x3 + (1 : Int32)), .int x4]) (b := (1 : Int32)) rfl rfl rfl rfl rfl ?_
  refine ev_goto (pc' := 72) rfl rfl ?_
  exact hk72 h
def fm_best_b72 (N : Nat) (k64 : Int32 → Int32 → Int32 → Int32 → am_S → Option (Int32 × am_S)) : Nat → Int32 → Int32 → Int32 → Int32 → am_S → Option (Int32 × am_S)
  | 0, _, _, _, _, _ => none
  | n + 1, x1, x2, x3, x4, σ => (fm_canFollow N x2 x3 σ).bind fun q1 => (if q1 = 0 then fm_best_b119 N k64 (fun x1 x2 x3 x4 σ => fm_best_b72 N k64 n x1 x2 x3 x4 σ) x1 x2 x3 x4 σ else am_g (am_in (x2 ||| ((1 : Int32) <<< (x3 &&& 31))) 512) <| am_g (am_in (0 : Int32) 512) <| (if (σ 129 (x2 ||| ((1 : Int32) <<< (x3 &&& 31))).toNatClampNeg) = (σ 129 (0 : Int32).toNatClampNeg) then am_g (am_in (x2 ||| ((1 : Int32) <<< (x3 &&& 31))) 512) <| am_g (am_in (0 : Int32) 512) <| (if (σ 130 (x2 ||| ((1 : Int32) <<< (x3 &&& 31))).toNatClampNeg) = (σ 130 (0 : Int32).toNatClampNeg) then k64 x1 (x2 ||| ((1 : Int32) <<< (x3 &&& 31))) x3 (x4 + (1 : Int32)) σ else fm_best_b119 N k64 (fun x1 x2 x3 x4 σ => fm_best_b72 N k64 n x1 x2 x3 x4 σ) x1 x2 x3 x4 σ) else fm_best_b119 N k64 (fun x1 x2 x3 x4 σ => fm_best_b72 N k64 n x1 x2 x3 x4 σ) x1 x2 x3 x4 σ))
set_option maxRecDepth 100000 in
theorem fm_best_b72_e {X : Nat} {xs : Nat → Int32} {d : Nat} {N : Nat} {k64 : Int32 → Int32 → Int32 → Int32 → am_S → Option (Int32 × am_S)} (hk64 : ∀ {x1 : Int32} {x2 : Int32} {x3 : Int32} {x4 : Int32} {σ : am_S} {o : Int32 × am_S}, k64 x1 x2 x3 x4 σ = some o → am_Ev am_sh (am_exx X xs) (d + 3) mm_207 64 [.ref 85, .int x1, .int x2, .int x3, .int x4] [] σ (some (.int o.1)) o.2) : ∀ {n : Nat} {x1 : Int32} {x2 : Int32} {x3 : Int32} {x4 : Int32} {σ : am_S} {o : Int32 × am_S}, fm_best_b72 N k64 n x1 x2 x3 x4 σ = some o → am_Ev am_sh (am_exx X xs) (d + 3) mm_207 72 [.ref 85, .int x1, .int x2, .int x3, .int x4] [] σ (some (.int o.1)) o.2 := by
  intro n
  induction n with
  | zero => intro x1 x2 x3 x4 σ o h; cases h
  | succ n ih =>
    intro x1 x2 x3 x4 σ o h
    unfold fm_best_b72 at h
    refine ev_aload_n (pc' := 73) rfl rfl rfl ?_
    refine ev_iload_n (pc' := 74) rfl rfl rfl ?_
    refine ev_iload_n (pc' := 75) rfl rfl rfl ?_
    refine am_bd h (fun q1 hq1 h => ?_)
    refine ev_call (mi := 205) (as := [.ref 85, .int x2, .int x3]) (rest := []) rfl rfl (Nat.le_of_ble_eq_true rfl) (fm_canFollow_e (d := d + 1) hq1) ?_
    show am_Ev _ _ _ _ 78 _ _ _ _ _
    rcases am_if h with ⟨hc2, h⟩ | ⟨hc2, h⟩
    · refine ev_if_t (pc' := 119) rfl rfl (cb_eq_t hc2) ?_
      exact fm_best_b119_e (hk64 := hk64) (hk72 := fun h => ih h) h
    · refine ev_if_f (pc' := 81) rfl (by decide) rfl (cb_eq_f hc2) ?_
      refine ev_aload_n (pc' := 82) rfl rfl rfl ?_
      refine ev_getfield (pc' := 85) (w := .ref 129) rfl rfl rfl rfl ?_
      refine ev_iload_n (pc' := 86) rfl rfl rfl ?_
      refine ev_iconst (pc' := 87) (b := (1 : Int32)) rfl rfl rfl ?_
      refine ev_iload_n (pc' := 88) rfl rfl rfl ?_
      refine ev_ishl (pc' := 89) rfl rfl ?_
      refine ev_ior (pc' := 90) rfl rfl ?_
      obtain ⟨hg3, h⟩ := am_g_some h
      refine ev_iaload (pc' := 91) rfl rfl rfl hg3 ?_
      refine ev_aload_n (pc' := 92) rfl rfl rfl ?_
      refine ev_getfield (pc' := 95) (w := .ref 129) rfl rfl rfl rfl ?_
      refine ev_iconst (pc' := 96) (b := (0 : Int32)) rfl rfl rfl ?_
      obtain ⟨hg4, h⟩ := am_g_some h
      refine ev_iaload (pc' := 97) rfl rfl rfl hg4 ?_
      rcases am_if h with ⟨hc5, h⟩ | ⟨hc5, h⟩
      · refine ev_ic_f (pc' := 100) rfl (by decide) rfl (cb_ne_f hc5) ?_
        refine ev_aload_n (pc' := 101) rfl rfl rfl ?_
        refine ev_getfield (pc' := 104) (w := .ref 130) rfl rfl rfl rfl ?_
        refine ev_iload_n (pc' := 105) rfl rfl rfl ?_
        refine ev_iconst (pc' := 106) (b := (1 : Int32)) rfl rfl rfl ?_
        refine ev_iload_n (pc' := 107) rfl rfl rfl ?_
        refine ev_ishl (pc' := 108) rfl rfl ?_
        refine ev_ior (pc' := 109) rfl rfl ?_
        obtain ⟨hg6, h⟩ := am_g_some h
        refine ev_iaload (pc' := 110) rfl rfl rfl hg6 ?_
        refine ev_aload_n (pc' := 111) rfl rfl rfl ?_
        refine ev_getfield (pc' := 114) (w := .ref 130) rfl rfl rfl rfl ?_
        refine ev_iconst (pc' := 115) (b := (0 : Int32)) rfl rfl rfl ?_
        obtain ⟨hg7, h⟩ := am_g_some h
        refine ev_iaload (pc' := 116) rfl rfl rfl hg7 ?_
        rcases am_if h with ⟨hc8, h⟩ | ⟨hc8, h⟩
        · refine ev_ic_t (pc' := 125) rfl rfl (cb_eq_t hc8) ?_
          refine ev_iload_n (pc' := 126) rfl rfl rfl ?_
          refine ev_iconst (pc' := 127) (b := (1 : Int32)) rfl rfl rfl ?_
          refine ev_iload_n (pc' := 128) rfl rfl rfl ?_
          refine ev_ishl (pc' := 129) rfl rfl ?_
          refine ev_ior (pc' := 130) rfl rfl ?_
          refine ev_istore_n (pc' := 131) (L' := [.ref 85, .int x1, .int (x2 ||| ((1 : Int32) <<< (x3 &&& 31))), .int x3, .int x4]) rfl rfl rfl rfl ?_
          refine ev_iinc (pc' := 134) (L' := [.ref 85, .int x1, .int (x2 ||| ((1 : Int32) <<< (x3 &&& 31))), .int x3, .int (x4 + (1 : Int32))]) (b := (1 : Int32)) rfl rfl rfl rfl rfl ?_
          refine ev_goto (pc' := 64) rfl rfl ?_
          exact hk64 h
        · refine ev_ic_f (pc' := 119) rfl (by decide) rfl (cb_eq_f hc8) ?_
          exact fm_best_b119_e (hk64 := hk64) (hk72 := fun h => ih h) h
      · refine ev_ic_t (pc' := 119) rfl rfl (cb_ne_t hc5) ?_
        exact fm_best_b119_e (hk64 := hk64) (hk72 := fun h => ih h) h
def fm_best_b64 (N : Nat) : Nat → Int32 → Int32 → Int32 → Int32 → am_S → Option (Int32 × am_S)
  | 0, _, _, _, _, _ => none
  | n + 1, x1, x2, x3, x4, σ => (if x1 < x4 then some (x3, σ) else fm_best_b72 N (fun x1 x2 x3 x4 σ => fm_best_b64 N n x1 x2 x3 x4 σ) N x1 x2 (0 : Int32) x4 σ)
set_option maxRecDepth 100000 in
theorem fm_best_b64_e {X : Nat} {xs : Nat → Int32} {d : Nat} {N : Nat} : ∀ {n : Nat} {x1 : Int32} {x2 : Int32} {x3 : Int32} {x4 : Int32} {σ : am_S} {o : Int32 × am_S}, fm_best_b64 N n x1 x2 x3 x4 σ = some o → am_Ev am_sh (am_exx X xs) (d + 3) mm_207 64 [.ref 85, .int x1, .int x2, .int x3, .int x4] [] σ (some (.int o.1)) o.2 := by
  intro n
  induction n with
  | zero => intro x1 x2 x3 x4 σ o h; cases h
  | succ n ih =>
    intro x1 x2 x3 x4 σ o h
    unfold fm_best_b64 at h
    refine ev_iload (pc' := 66) rfl rfl rfl ?_
    refine ev_iload_n (pc' := 67) rfl rfl rfl ?_
    rcases am_if h with ⟨hc1, h⟩ | ⟨hc1, h⟩
    · refine ev_ic_t (pc' := 137) rfl rfl (cb_gt_t hc1) ?_
      refine ev_iload_n (pc' := 138) rfl rfl rfl ?_
      obtain rfl := Option.some.inj h
      exact ev_ireturn rfl rfl
    · refine ev_ic_f (pc' := 70) rfl (by decide) rfl (cb_gt_f hc1) ?_
      refine ev_iconst (pc' := 71) (b := (0 : Int32)) rfl rfl rfl ?_
      refine ev_istore_n (pc' := 72) (L' := [.ref 85, .int x1, .int x2, .int (0 : Int32), .int x4]) rfl rfl rfl rfl ?_
      exact fm_best_b72_e (hk64 := fun h => ih h) h
def fm_best (N : Nat) (a1 : Int32) (σ : am_S) : Option (Int32 × am_S) := (if (-2 : Int32) ≤ a1 then (fm_tellTasks N σ).bind fun q2 => (if 0 ≤ a1 then am_g (am_in (0 : Int32) 512) <| (if a1 < (q2 129 (0 : Int32).toNatClampNeg) then fm_best_b64 N N a1 (0 : Int32) (0 : Int32) (0 : Int32) q2 else (fm_finding (2 : Int32) q2).bind fun q6 => some (q6.1, q6.2)) else (if a1 = (-1 : Int32) then am_g (am_in (0 : Int32) 512) <| some ((q2 129 (0 : Int32).toNatClampNeg), q2) else am_g (am_in (0 : Int32) 512) <| some ((q2 130 (0 : Int32).toNatClampNeg), q2))) else (fm_finding (1 : Int32) σ).bind fun q10 => some (q10.1, q10.2))
set_option maxRecDepth 100000 in
theorem fm_best_e {X : Nat} {xs : Nat → Int32} {d : Nat} {N : Nat} {a1 : Int32} {σ : am_S} {o : Int32 × am_S} (h : fm_best N a1 σ = some o) : am_Ev am_sh (am_exx X xs) (d + 3) mm_207 0 [.ref 85, .int a1, .null, .null, .null] [] σ (some (.int o.1)) o.2 := by
  unfold fm_best at h
  refine ev_iload_n (pc' := 1) rfl rfl rfl ?_
  refine ev_bipush (pc' := 3) (b := (-2 : Int32)) rfl rfl rfl ?_
  rcases am_if h with ⟨hc1, h⟩ | ⟨hc1, h⟩
  · refine ev_ic_t (pc' := 12) rfl rfl (cb_ge_t hc1) ?_
    refine ev_aload_n (pc' := 13) rfl rfl rfl ?_
    refine am_bd h (fun q2 hq2 h => ?_)
    refine ev_call (mi := 206) (as := [.ref 85]) (rest := []) rfl rfl (Nat.le_of_ble_eq_true rfl) (fm_tellTasks_e (d := d) hq2) ?_
    show am_Ev _ _ _ _ 16 _ _ _ _ _
    refine ev_iload_n (pc' := 17) rfl rfl rfl ?_
    rcases am_if h with ⟨hc3, h⟩ | ⟨hc3, h⟩
    · refine ev_if_t (pc' := 41) rfl rfl (cb_ge_t hc3) ?_
      refine ev_iload_n (pc' := 42) rfl rfl rfl ?_
      refine ev_aload_n (pc' := 43) rfl rfl rfl ?_
      refine ev_getfield (pc' := 46) (w := .ref 129) rfl rfl rfl rfl ?_
      refine ev_iconst (pc' := 47) (b := (0 : Int32)) rfl rfl rfl ?_
      obtain ⟨hg4, h⟩ := am_g_some h
      refine ev_iaload (pc' := 48) rfl rfl rfl hg4 ?_
      rcases am_if h with ⟨hc5, h⟩ | ⟨hc5, h⟩
      · refine ev_ic_t (pc' := 57) rfl rfl (cb_lt_t hc5) ?_
        refine ev_iconst (pc' := 58) (b := (0 : Int32)) rfl rfl rfl ?_
        refine ev_istore_n (pc' := 59) (L' := [.ref 85, .int a1, .int (0 : Int32), .null, .null]) rfl rfl rfl rfl ?_
        refine ev_iconst (pc' := 60) (b := (0 : Int32)) rfl rfl rfl ?_
        refine ev_istore_n (pc' := 61) (L' := [.ref 85, .int a1, .int (0 : Int32), .int (0 : Int32), .null]) rfl rfl rfl rfl ?_
        refine ev_iconst (pc' := 62) (b := (0 : Int32)) rfl rfl rfl ?_
        refine ev_istore (pc' := 64) (L' := [.ref 85, .int a1, .int (0 : Int32), .int (0 : Int32), .int (0 : Int32)]) rfl rfl rfl rfl ?_
        exact fm_best_b64_e h
      · refine ev_ic_f (pc' := 51) rfl (by decide) rfl (cb_lt_f hc5) ?_
        refine ev_aload_n (pc' := 52) rfl rfl rfl ?_
        refine ev_iconst (pc' := 53) (b := (2 : Int32)) rfl rfl rfl ?_
        refine am_bd h (fun q6 hq6 h => ?_)
        refine ev_call (mi := 159) (as := [.ref 85, .int (2 : Int32)]) (rest := []) rfl rfl (Nat.le_of_ble_eq_true rfl) (fm_finding_e (d := d + 2) hq6) ?_
        show am_Ev _ _ _ _ 56 _ _ _ _ _
        obtain rfl := Option.some.inj h
        exact ev_ireturn rfl rfl
    · refine ev_if_f (pc' := 20) rfl (by decide) rfl (cb_ge_f hc3) ?_
      refine ev_iload_n (pc' := 21) rfl rfl rfl ?_
      refine ev_iconst (pc' := 22) (b := (-1 : Int32)) rfl rfl rfl ?_
      rcases am_if h with ⟨hc7, h⟩ | ⟨hc7, h⟩
      · refine ev_ic_f (pc' := 25) rfl (by decide) rfl (cb_ne_f hc7) ?_
        refine ev_aload_n (pc' := 26) rfl rfl rfl ?_
        refine ev_getfield (pc' := 29) (w := .ref 129) rfl rfl rfl rfl ?_
        refine ev_iconst (pc' := 30) (b := (0 : Int32)) rfl rfl rfl ?_
        obtain ⟨hg8, h⟩ := am_g_some h
        refine ev_iaload (pc' := 31) rfl rfl rfl hg8 ?_
        refine ev_goto (pc' := 40) rfl rfl ?_
        obtain rfl := Option.some.inj h
        exact ev_ireturn rfl rfl
      · refine ev_ic_t (pc' := 34) rfl rfl (cb_ne_t hc7) ?_
        refine ev_aload_n (pc' := 35) rfl rfl rfl ?_
        refine ev_getfield (pc' := 38) (w := .ref 130) rfl rfl rfl rfl ?_
        refine ev_iconst (pc' := 39) (b := (0 : Int32)) rfl rfl rfl ?_
        obtain ⟨hg9, h⟩ := am_g_some h
        refine ev_iaload (pc' := 40) rfl rfl rfl hg9 ?_
        obtain rfl := Option.some.inj h
        exact ev_ireturn rfl rfl
  · refine ev_ic_f (pc' := 6) rfl (by decide) rfl (cb_ge_f hc1) ?_
    refine ev_aload_n (pc' := 7) rfl rfl rfl ?_
    refine ev_iconst (pc' := 8) (b := (1 : Int32)) rfl rfl rfl ?_
    refine am_bd h (fun q10 hq10 h => ?_)
    refine ev_call (mi := 159) (as := [.ref 85, .int (1 : Int32)]) (rest := []) rfl rfl (Nat.le_of_ble_eq_true rfl) (fm_finding_e (d := d + 2) hq10) ?_
    show am_Ev _ _ _ _ 11 _ _ _ _ _
    obtain rfl := Option.some.inj h
    exact ev_ireturn rfl rfl
/-! PartedLandModel.tell (85, 'I'): S -/
def fm_tell (a1 : Int32) (σ : am_S) : Option (Int32 × am_S) := (if (σ 85 50) = (16 : Int32) then (fm_finding (4 : Int32) σ).bind fun q2 => some (q2.1, q2.2) else am_g (am_in (σ 85 50) 16) <| some (((σ 85 50) + (1 : Int32)), (am_up (am_up σ 122 (σ 85 50).toNatClampNeg a1) 85 50 ((σ 85 50) + (1 : Int32)))))
set_option maxRecDepth 100000 in
theorem fm_tell_e {X : Nat} {xs : Nat → Int32} {d : Nat} {a1 : Int32} {σ : am_S} {o : Int32 × am_S} (h : fm_tell a1 σ = some o) : am_Ev am_sh (am_exx X xs) (d + 1) mm_208 0 [.ref 85, .int a1] [] σ (some (.int o.1)) o.2 := by
  unfold fm_tell at h
  refine ev_aload_n (pc' := 1) rfl rfl rfl ?_
  refine ev_getfield (pc' := 4) (w := .int (σ 85 50)) rfl rfl rfl rfl ?_
  refine ev_bipush (pc' := 6) (b := (16 : Int32)) rfl rfl rfl ?_
  rcases am_if h with ⟨hc1, h⟩ | ⟨hc1, h⟩
  · refine ev_ic_f (pc' := 9) rfl (by decide) rfl (cb_ne_f hc1) ?_
    refine ev_aload_n (pc' := 10) rfl rfl rfl ?_
    refine ev_iconst (pc' := 11) (b := (4 : Int32)) rfl rfl rfl ?_
    refine am_bd h (fun q2 hq2 h => ?_)
    refine ev_call (mi := 159) (as := [.ref 85, .int (4 : Int32)]) (rest := []) rfl rfl (Nat.le_of_ble_eq_true rfl) (fm_finding_e (d := d) hq2) ?_
    show am_Ev _ _ _ _ 14 _ _ _ _ _
    obtain rfl := Option.some.inj h
    exact ev_ireturn rfl rfl
  · refine ev_ic_t (pc' := 15) rfl rfl (cb_ne_t hc1) ?_
    refine ev_aload_n (pc' := 16) rfl rfl rfl ?_
    refine ev_getfield (pc' := 19) (w := .ref 122) rfl rfl rfl rfl ?_
    refine ev_aload_n (pc' := 20) rfl rfl rfl ?_
    refine ev_getfield (pc' := 23) (w := .int (σ 85 50)) rfl rfl rfl rfl ?_
    refine ev_iload_n (pc' := 24) rfl rfl rfl ?_
    obtain ⟨hg3, h⟩ := am_g_some h
    refine ev_iastore (pc' := 25) rfl rfl rfl hg3 ?_
    refine ev_aload_n (pc' := 26) rfl rfl rfl ?_
    refine ev_dup (pc' := 27) rfl rfl ?_
    refine ev_getfield (pc' := 30) (w := .int (σ 85 50)) rfl rfl rfl rfl ?_
    refine ev_iconst (pc' := 31) (b := (1 : Int32)) rfl rfl rfl ?_
    refine ev_iadd (pc' := 32) rfl rfl ?_
    refine ev_putfield (pc' := 35) (ci := 11) (f := 50) (z := 0) rfl rfl rfl rfl rfl ?_
    refine ev_aload_n (pc' := 36) rfl rfl rfl ?_
    refine ev_getfield (pc' := 39) (w := .int ((σ 85 50) + (1 : Int32))) rfl rfl rfl rfl ?_
    obtain rfl := Option.some.inj h
    exact ev_ireturn rfl rfl
/-! PartedLandModel.check (85,): S -/
def fm_check_b45 (N : Nat) (x3 : Int32) (σ : am_S) : Option (Int32 × am_S) := some (((1 : Int32) + x3), σ)
set_option maxRecDepth 100000 in
theorem fm_check_b45_e {X : Nat} {xs : Nat → Int32} {d : Nat} {N : Nat} {x3 : Int32} {w0 : Value} {w1 : Value} {w2 : Value} {σ : am_S} {o : Int32 × am_S} (h : fm_check_b45 N x3 σ = some o) : am_Ev am_sh (am_exx X xs) (d + 3) mm_209 45 [w0, w1, w2, .int x3] [] σ (some (.int o.1)) o.2 := by
  unfold fm_check_b45 at h
  refine ev_iconst (pc' := 46) (b := (1 : Int32)) rfl rfl rfl ?_
  refine ev_iload_n (pc' := 47) rfl rfl rfl ?_
  refine ev_iadd (pc' := 48) rfl rfl ?_
  obtain rfl := Option.some.inj h
  exact ev_ireturn rfl rfl
def fm_check_b18 (N : Nat) : Nat → Int32 → Int32 → am_S → Option (Int32 × am_S)
  | 0, _, _, _ => none
  | n + 1, x1, x3, σ => (if x1 ≤ x3 then some ((0 : Int32), σ) else (if (σ 85 14) ≤ x3 then fm_check_b45 N x3 σ else am_g (am_in x3 16) <| (fm_whoseBy N x3 σ).bind fun q4 => (if (σ 122 x3.toNatClampNeg) = q4 then fm_check_b18 N n x1 (x3 + (1 : Int32)) σ else fm_check_b45 N x3 σ)))
set_option maxRecDepth 100000 in
theorem fm_check_b18_e {X : Nat} {xs : Nat → Int32} {d : Nat} {N : Nat} : ∀ {n : Nat} {x1 : Int32} {x3 : Int32} {w2 : Value} {σ : am_S} {o : Int32 × am_S}, fm_check_b18 N n x1 x3 σ = some o → am_Ev am_sh (am_exx X xs) (d + 3) mm_209 18 [.ref 85, .int x1, w2, .int x3] [] σ (some (.int o.1)) o.2 := by
  intro n
  induction n with
  | zero => intro x1 x3 w2 σ o h; cases h
  | succ n ih =>
    intro x1 x3 w2 σ o h
    unfold fm_check_b18 at h
    refine ev_iload_n (pc' := 19) rfl rfl rfl ?_
    refine ev_iload_n (pc' := 20) rfl rfl rfl ?_
    rcases am_if h with ⟨hc1, h⟩ | ⟨hc1, h⟩
    · refine ev_ic_t (pc' := 55) rfl rfl (cb_ge_t hc1) ?_
      refine ev_iconst (pc' := 56) (b := (0 : Int32)) rfl rfl rfl ?_
      obtain rfl := Option.some.inj h
      exact ev_ireturn rfl rfl
    · refine ev_ic_f (pc' := 23) rfl (by decide) rfl (cb_ge_f hc1) ?_
      refine ev_iload_n (pc' := 24) rfl rfl rfl ?_
      refine ev_aload_n (pc' := 25) rfl rfl rfl ?_
      refine ev_getfield (pc' := 28) (w := .int (σ 85 14)) rfl rfl rfl rfl ?_
      rcases am_if h with ⟨hc2, h⟩ | ⟨hc2, h⟩
      · refine ev_ic_t (pc' := 45) rfl rfl (cb_ge_t hc2) ?_
        exact fm_check_b45_e h
      · refine ev_ic_f (pc' := 31) rfl (by decide) rfl (cb_ge_f hc2) ?_
        refine ev_aload_n (pc' := 32) rfl rfl rfl ?_
        refine ev_getfield (pc' := 35) (w := .ref 122) rfl rfl rfl rfl ?_
        refine ev_iload_n (pc' := 36) rfl rfl rfl ?_
        obtain ⟨hg3, h⟩ := am_g_some h
        refine ev_iaload (pc' := 37) rfl rfl rfl hg3 ?_
        refine ev_aload_n (pc' := 38) rfl rfl rfl ?_
        refine ev_iload_n (pc' := 39) rfl rfl rfl ?_
        refine am_bd h (fun q4 hq4 h => ?_)
        refine ev_call (mi := 156) (as := [.ref 85, .int x3]) (rest := [.int (σ 122 x3.toNatClampNeg)]) rfl rfl (Nat.le_of_ble_eq_true rfl) (fm_whoseBy_e (d := d) hq4) ?_
        show am_Ev _ _ _ _ 42 _ _ _ _ _
        rcases am_if h with ⟨hc5, h⟩ | ⟨hc5, h⟩
        · refine ev_ic_t (pc' := 49) rfl rfl (cb_eq_t hc5) ?_
          refine ev_iinc (pc' := 52) (L' := [.ref 85, .int x1, w2, .int (x3 + (1 : Int32))]) (b := (1 : Int32)) rfl rfl rfl rfl rfl ?_
          refine ev_goto (pc' := 18) rfl rfl ?_
          exact ih h
        · refine ev_ic_f (pc' := 45) rfl (by decide) rfl (cb_eq_f hc5) ?_
          exact fm_check_b45_e h
def fm_check (N : Nat) (σ : am_S) : Option (Int32 × am_S) := (fm_readLaw N (2 : Int32) (am_up σ 85 50 (0 : Int32))).bind fun q1 => fm_check_b18 N N (σ 85 50) (0 : Int32) q1.2
set_option maxRecDepth 100000 in
theorem fm_check_e {X : Nat} {xs : Nat → Int32} {d : Nat} {N : Nat} {σ : am_S} {o : Int32 × am_S} (h : fm_check N σ = some o) : am_Ev am_sh (am_exx X xs) (d + 3) mm_209 0 [.ref 85, .null, .null, .null] [] σ (some (.int o.1)) o.2 := by
  unfold fm_check at h
  refine ev_aload_n (pc' := 1) rfl rfl rfl ?_
  refine ev_getfield (pc' := 4) (w := .int (σ 85 50)) rfl rfl rfl rfl ?_
  refine ev_istore_n (pc' := 5) (L' := [.ref 85, .int (σ 85 50), .null, .null]) rfl rfl rfl rfl ?_
  refine ev_aload_n (pc' := 6) rfl rfl rfl ?_
  refine ev_iconst (pc' := 7) (b := (0 : Int32)) rfl rfl rfl ?_
  refine ev_putfield (pc' := 10) (ci := 11) (f := 50) (z := 0) rfl rfl rfl rfl rfl ?_
  refine ev_aload_n (pc' := 11) rfl rfl rfl ?_
  refine ev_iconst (pc' := 12) (b := (2 : Int32)) rfl rfl rfl ?_
  refine am_bd h (fun q1 hq1 h => ?_)
  refine ev_call (mi := 155) (as := [.ref 85, .int (2 : Int32)]) (rest := []) rfl rfl (Nat.le_of_ble_eq_true rfl) (fm_readLaw_e (d := d) hq1) ?_
  show am_Ev _ _ _ _ 15 _ _ _ _ _
  refine ev_istore_n (pc' := 16) (L' := [.ref 85, .int (σ 85 50), .int q1.1, .null]) rfl rfl rfl rfl ?_
  refine ev_iconst (pc' := 17) (b := (0 : Int32)) rfl rfl rfl ?_
  refine ev_istore_n (pc' := 18) (L' := [.ref 85, .int (σ 85 50), .int q1.1, .int (0 : Int32)]) rfl rfl rfl rfl ?_
  exact fm_check_b18_e h
/-! PartedLandModel.nobodys (85,): S -/
def fm_nobodys_b32 (N : Nat) (k10 : Int32 → Int32 → am_S → Option (Int32 × am_S)) (x3 : Int32) (s0 : Int32) (s1 : Int32) (σ : am_S) : Option (Int32 × am_S) := k10 (s1 + s0) (x3 + (1 : Int32)) σ
set_option maxRecDepth 100000 in
theorem fm_nobodys_b32_e {X : Nat} {xs : Nat → Int32} {d : Nat} {N : Nat} {k10 : Int32 → Int32 → am_S → Option (Int32 × am_S)} (hk10 : ∀ {x2 : Int32} {x3 : Int32} {w1 : Value} {σ : am_S} {o : Int32 × am_S}, k10 x2 x3 σ = some o → am_Ev am_sh (am_exx X xs) (d + 3) mm_210 10 [.ref 85, w1, .int x2, .int x3] [] σ (some (.int o.1)) o.2) {x3 : Int32} {s0 : Int32} {s1 : Int32} {w1 : Value} {w2 : Value} {σ : am_S} {o : Int32 × am_S} (h : fm_nobodys_b32 N k10 x3 s0 s1 σ = some o) : am_Ev am_sh (am_exx X xs) (d + 3) mm_210 32 [.ref 85, w1, w2, .int x3] [.int s0, .int s1] σ (some (.int o.1)) o.2 := by
  unfold fm_nobodys_b32 at h
  refine ev_iadd (pc' := 33) rfl rfl ?_
  refine ev_istore_n (pc' := 34) (L' := [.ref 85, w1, .int (s1 + s0), .int x3]) rfl rfl rfl rfl ?_
  refine ev_iinc (pc' := 37) (L' := [.ref 85, w1, .int (s1 + s0), .int (x3 + (1 : Int32))]) (b := (1 : Int32)) rfl rfl rfl rfl rfl ?_
  refine ev_goto (pc' := 10) rfl rfl ?_
  exact hk10 h
def fm_nobodys_b10 (N : Nat) : Nat → Int32 → Int32 → am_S → Option (Int32 × am_S)
  | 0, _, _, _ => none
  | n + 1, x2, x3, σ => (if (σ 85 14) ≤ x3 then some (x2, σ) else (fm_whoseBy N x3 σ).bind fun q2 => (if 0 ≤ q2 then fm_nobodys_b32 N (fun x2 x3 σ => fm_nobodys_b10 N n x2 x3 σ) x3 (0 : Int32) x2 σ else fm_nobodys_b32 N (fun x2 x3 σ => fm_nobodys_b10 N n x2 x3 σ) x3 (1 : Int32) x2 σ))
set_option maxRecDepth 100000 in
theorem fm_nobodys_b10_e {X : Nat} {xs : Nat → Int32} {d : Nat} {N : Nat} : ∀ {n : Nat} {x2 : Int32} {x3 : Int32} {w1 : Value} {σ : am_S} {o : Int32 × am_S}, fm_nobodys_b10 N n x2 x3 σ = some o → am_Ev am_sh (am_exx X xs) (d + 3) mm_210 10 [.ref 85, w1, .int x2, .int x3] [] σ (some (.int o.1)) o.2 := by
  intro n
  induction n with
  | zero => intro x2 x3 w1 σ o h; cases h
  | succ n ih =>
    intro x2 x3 w1 σ o h
    unfold fm_nobodys_b10 at h
    refine ev_iload_n (pc' := 11) rfl rfl rfl ?_
    refine ev_aload_n (pc' := 12) rfl rfl rfl ?_
    refine ev_getfield (pc' := 15) (w := .int (σ 85 14)) rfl rfl rfl rfl ?_
    rcases am_if h with ⟨hc1, h⟩ | ⟨hc1, h⟩
    · refine ev_ic_t (pc' := 40) rfl rfl (cb_ge_t hc1) ?_
      refine ev_iload_n (pc' := 41) rfl rfl rfl ?_
      obtain rfl := Option.some.inj h
      exact ev_ireturn rfl rfl
    · refine ev_ic_f (pc' := 18) rfl (by decide) rfl (cb_ge_f hc1) ?_
      refine ev_iload_n (pc' := 19) rfl rfl rfl ?_
      refine ev_aload_n (pc' := 20) rfl rfl rfl ?_
      refine ev_iload_n (pc' := 21) rfl rfl rfl ?_
      refine am_bd h (fun q2 hq2 h => ?_)
      refine ev_call (mi := 156) (as := [.ref 85, .int x3]) (rest := [.int x2]) rfl rfl (Nat.le_of_ble_eq_true rfl) (fm_whoseBy_e (d := d) hq2) ?_
      show am_Ev _ _ _ _ 24 _ _ _ _ _
      rcases am_if h with ⟨hc3, h⟩ | ⟨hc3, h⟩
      · refine ev_if_t (pc' := 31) rfl rfl (cb_ge_t hc3) ?_
        refine ev_iconst (pc' := 32) (b := (0 : Int32)) rfl rfl rfl ?_
        exact fm_nobodys_b32_e (hk10 := fun h => ih h) h
      · refine ev_if_f (pc' := 27) rfl (by decide) rfl (cb_ge_f hc3) ?_
        refine ev_iconst (pc' := 28) (b := (1 : Int32)) rfl rfl rfl ?_
        refine ev_goto (pc' := 32) rfl rfl ?_
        exact fm_nobodys_b32_e (hk10 := fun h => ih h) h
def fm_nobodys (N : Nat) (σ : am_S) : Option (Int32 × am_S) := (fm_readLaw N (2 : Int32) σ).bind fun q1 => fm_nobodys_b10 N N (0 : Int32) (0 : Int32) q1.2
set_option maxRecDepth 100000 in
theorem fm_nobodys_e {X : Nat} {xs : Nat → Int32} {d : Nat} {N : Nat} {σ : am_S} {o : Int32 × am_S} (h : fm_nobodys N σ = some o) : am_Ev am_sh (am_exx X xs) (d + 3) mm_210 0 [.ref 85, .null, .null, .null] [] σ (some (.int o.1)) o.2 := by
  unfold fm_nobodys at h
  refine ev_aload_n (pc' := 1) rfl rfl rfl ?_
  refine ev_iconst (pc' := 2) (b := (2 : Int32)) rfl rfl rfl ?_
  refine am_bd h (fun q1 hq1 h => ?_)
  refine ev_call (mi := 155) (as := [.ref 85, .int (2 : Int32)]) (rest := []) rfl rfl (Nat.le_of_ble_eq_true rfl) (fm_readLaw_e (d := d) hq1) ?_
  show am_Ev _ _ _ _ 5 _ _ _ _ _
  refine ev_istore_n (pc' := 6) (L' := [.ref 85, .int q1.1, .null, .null]) rfl rfl rfl rfl ?_
  refine ev_iconst (pc' := 7) (b := (0 : Int32)) rfl rfl rfl ?_
  refine ev_istore_n (pc' := 8) (L' := [.ref 85, .int q1.1, .int (0 : Int32), .null]) rfl rfl rfl rfl ?_
  refine ev_iconst (pc' := 9) (b := (0 : Int32)) rfl rfl rfl ?_
  refine ev_istore_n (pc' := 10) (L' := [.ref 85, .int q1.1, .int (0 : Int32), .int (0 : Int32)]) rfl rfl rfl rfl ?_
  exact fm_nobodys_b10_e h
/-! PartedLandModel.count (85, 'I'): S -/
def fm_count_b156 (N : Nat) (k134 : Int32 → Int32 → am_S → Option (Int32 × am_S)) (x3 : Int32) (s0 : Int32) (s1 : Int32) (σ : am_S) : Option (Int32 × am_S) := k134 (s1 + s0) (x3 + (1 : Int32)) σ
set_option maxRecDepth 100000 in
theorem fm_count_b156_e {X : Nat} {xs : Nat → Int32} {d : Nat} {N : Nat} {k134 : Int32 → Int32 → am_S → Option (Int32 × am_S)} (hk134 : ∀ {x2 : Int32} {x3 : Int32} {w1 : Value} {σ : am_S} {o : Int32 × am_S}, k134 x2 x3 σ = some o → am_Ev am_sh (am_exx X xs) (d + 4) mm_211 134 [.ref 85, w1, .int x2, .int x3] [] σ (some (.int o.1)) o.2) {x3 : Int32} {s0 : Int32} {s1 : Int32} {w1 : Value} {w2 : Value} {σ : am_S} {o : Int32 × am_S} (h : fm_count_b156 N k134 x3 s0 s1 σ = some o) : am_Ev am_sh (am_exx X xs) (d + 4) mm_211 156 [.ref 85, w1, w2, .int x3] [.int s0, .int s1] σ (some (.int o.1)) o.2 := by
  unfold fm_count_b156 at h
  refine ev_iadd (pc' := 157) rfl rfl ?_
  refine ev_istore_n (pc' := 158) (L' := [.ref 85, w1, .int (s1 + s0), .int x3]) rfl rfl rfl rfl ?_
  refine ev_iinc (pc' := 161) (L' := [.ref 85, w1, .int (s1 + s0), .int (x3 + (1 : Int32))]) (b := (1 : Int32)) rfl rfl rfl rfl rfl ?_
  refine ev_goto (pc' := 134) rfl rfl ?_
  exact hk134 h
def fm_count_b134 (N : Nat) : Nat → Int32 → Int32 → am_S → Option (Int32 × am_S)
  | 0, _, _, _ => none
  | n + 1, x2, x3, σ => (if (σ 85 1) ≤ x3 then some (x2, σ) else (fm_isEnclave N x3 σ).bind fun q2 => (if q2 = 0 then fm_count_b156 N (fun x2 x3 σ => fm_count_b134 N n x2 x3 σ) x3 (0 : Int32) x2 σ else fm_count_b156 N (fun x2 x3 σ => fm_count_b134 N n x2 x3 σ) x3 (1 : Int32) x2 σ))
set_option maxRecDepth 100000 in
theorem fm_count_b134_e {X : Nat} {xs : Nat → Int32} {d : Nat} {N : Nat} : ∀ {n : Nat} {x2 : Int32} {x3 : Int32} {w1 : Value} {σ : am_S} {o : Int32 × am_S}, fm_count_b134 N n x2 x3 σ = some o → am_Ev am_sh (am_exx X xs) (d + 4) mm_211 134 [.ref 85, w1, .int x2, .int x3] [] σ (some (.int o.1)) o.2 := by
  intro n
  induction n with
  | zero => intro x2 x3 w1 σ o h; cases h
  | succ n ih =>
    intro x2 x3 w1 σ o h
    unfold fm_count_b134 at h
    refine ev_iload_n (pc' := 135) rfl rfl rfl ?_
    refine ev_aload_n (pc' := 136) rfl rfl rfl ?_
    refine ev_getfield (pc' := 139) (w := .int (σ 85 1)) rfl rfl rfl rfl ?_
    rcases am_if h with ⟨hc1, h⟩ | ⟨hc1, h⟩
    · refine ev_ic_t (pc' := 164) rfl rfl (cb_ge_t hc1) ?_
      refine ev_iload_n (pc' := 165) rfl rfl rfl ?_
      obtain rfl := Option.some.inj h
      exact ev_ireturn rfl rfl
    · refine ev_ic_f (pc' := 142) rfl (by decide) rfl (cb_ge_f hc1) ?_
      refine ev_iload_n (pc' := 143) rfl rfl rfl ?_
      refine ev_aload_n (pc' := 144) rfl rfl rfl ?_
      refine ev_iload_n (pc' := 145) rfl rfl rfl ?_
      refine am_bd h (fun q2 hq2 h => ?_)
      refine ev_call (mi := 145) (as := [.ref 85, .int x3]) (rest := [.int x2]) rfl rfl (Nat.le_of_ble_eq_true rfl) (fm_isEnclave_e (d := d + 1) hq2) ?_
      show am_Ev _ _ _ _ 148 _ _ _ _ _
      rcases am_if h with ⟨hc3, h⟩ | ⟨hc3, h⟩
      · refine ev_if_t (pc' := 155) rfl rfl (cb_eq_t hc3) ?_
        refine ev_iconst (pc' := 156) (b := (0 : Int32)) rfl rfl rfl ?_
        exact fm_count_b156_e (hk134 := fun h => ih h) h
      · refine ev_if_f (pc' := 151) rfl (by decide) rfl (cb_eq_f hc3) ?_
        refine ev_iconst (pc' := 152) (b := (1 : Int32)) rfl rfl rfl ?_
        refine ev_goto (pc' := 156) rfl rfl ?_
        exact fm_count_b156_e (hk134 := fun h => ih h) h
def fm_count (N : Nat) (a1 : Int32) (σ : am_S) : Option (Int32 × am_S) := (if a1 = (0 : Int32) then some ((σ 85 1), σ) else (if a1 = (1 : Int32) then some ((σ 85 5), σ) else (if a1 = (2 : Int32) then some ((σ 85 10), σ) else (if a1 = (3 : Int32) then some ((σ 85 14), σ) else (if a1 = (4 : Int32) then some ((σ 85 26), σ) else (if a1 = (5 : Int32) then some ((σ 85 31), σ) else (if a1 = (6 : Int32) then some ((σ 85 37), σ) else (if a1 = (7 : Int32) then some ((σ 85 42), σ) else (if a1 = (8 : Int32) then some ((σ 85 47), σ) else (if a1 = (9 : Int32) then some ((σ 85 22), σ) else (if a1 = (10 : Int32) then some ((σ 85 0), σ) else (if a1 = (11 : Int32) then some ((σ 85 50), σ) else (if a1 = (12 : Int32) then fm_count_b134 N N (0 : Int32) (0 : Int32) σ else (if a1 = (13 : Int32) then (fm_nobodys N σ).bind fun q15 => some (q15.1, q15.2) else (fm_finding (1 : Int32) σ).bind fun q17 => some (q17.1, q17.2)))))))))))))))
set_option maxRecDepth 100000 in
theorem fm_count_e {X : Nat} {xs : Nat → Int32} {d : Nat} {N : Nat} {a1 : Int32} {σ : am_S} {o : Int32 × am_S} (h : fm_count N a1 σ = some o) : am_Ev am_sh (am_exx X xs) (d + 4) mm_211 0 [.ref 85, .int a1, .null, .null] [] σ (some (.int o.1)) o.2 := by
  unfold fm_count at h
  refine ev_iconst (pc' := 1) (b := (0 : Int32)) rfl rfl rfl ?_
  refine ev_istore_n (pc' := 2) (L' := [.ref 85, .int a1, .int (0 : Int32), .null]) rfl rfl rfl rfl ?_
  refine ev_iload_n (pc' := 3) rfl rfl rfl ?_
  rcases am_if h with ⟨hc1, h⟩ | ⟨hc1, h⟩
  · refine ev_tsw (pc' := 72) (off := 69) rfl (by rw [hc1]; decide +kernel) (by rw [hc1]; decide +kernel) rfl ?_
    refine ev_aload_n (pc' := 73) rfl rfl rfl ?_
    refine ev_getfield (pc' := 76) (w := .int (σ 85 1)) rfl rfl rfl rfl ?_
    obtain rfl := Option.some.inj h
    exact ev_ireturn rfl rfl
  rcases am_if h with ⟨hc2, h⟩ | ⟨hc2, h⟩
  · refine ev_tsw (pc' := 77) (off := 74) rfl (by rw [hc2]; decide +kernel) (by rw [hc2]; decide +kernel) rfl ?_
    refine ev_aload_n (pc' := 78) rfl rfl rfl ?_
    refine ev_getfield (pc' := 81) (w := .int (σ 85 5)) rfl rfl rfl rfl ?_
    obtain rfl := Option.some.inj h
    exact ev_ireturn rfl rfl
  rcases am_if h with ⟨hc3, h⟩ | ⟨hc3, h⟩
  · refine ev_tsw (pc' := 82) (off := 79) rfl (by rw [hc3]; decide +kernel) (by rw [hc3]; decide +kernel) rfl ?_
    refine ev_aload_n (pc' := 83) rfl rfl rfl ?_
    refine ev_getfield (pc' := 86) (w := .int (σ 85 10)) rfl rfl rfl rfl ?_
    obtain rfl := Option.some.inj h
    exact ev_ireturn rfl rfl
  rcases am_if h with ⟨hc4, h⟩ | ⟨hc4, h⟩
  · refine ev_tsw (pc' := 87) (off := 84) rfl (by rw [hc4]; decide +kernel) (by rw [hc4]; decide +kernel) rfl ?_
    refine ev_aload_n (pc' := 88) rfl rfl rfl ?_
    refine ev_getfield (pc' := 91) (w := .int (σ 85 14)) rfl rfl rfl rfl ?_
    obtain rfl := Option.some.inj h
    exact ev_ireturn rfl rfl
  rcases am_if h with ⟨hc5, h⟩ | ⟨hc5, h⟩
  · refine ev_tsw (pc' := 92) (off := 89) rfl (by rw [hc5]; decide +kernel) (by rw [hc5]; decide +kernel) rfl ?_
    refine ev_aload_n (pc' := 93) rfl rfl rfl ?_
    refine ev_getfield (pc' := 96) (w := .int (σ 85 26)) rfl rfl rfl rfl ?_
    obtain rfl := Option.some.inj h
    exact ev_ireturn rfl rfl
  rcases am_if h with ⟨hc6, h⟩ | ⟨hc6, h⟩
  · refine ev_tsw (pc' := 97) (off := 94) rfl (by rw [hc6]; decide +kernel) (by rw [hc6]; decide +kernel) rfl ?_
    refine ev_aload_n (pc' := 98) rfl rfl rfl ?_
    refine ev_getfield (pc' := 101) (w := .int (σ 85 31)) rfl rfl rfl rfl ?_
    obtain rfl := Option.some.inj h
    exact ev_ireturn rfl rfl
  rcases am_if h with ⟨hc7, h⟩ | ⟨hc7, h⟩
  · refine ev_tsw (pc' := 102) (off := 99) rfl (by rw [hc7]; decide +kernel) (by rw [hc7]; decide +kernel) rfl ?_
    refine ev_aload_n (pc' := 103) rfl rfl rfl ?_
    refine ev_getfield (pc' := 106) (w := .int (σ 85 37)) rfl rfl rfl rfl ?_
    obtain rfl := Option.some.inj h
    exact ev_ireturn rfl rfl
  rcases am_if h with ⟨hc8, h⟩ | ⟨hc8, h⟩
  · refine ev_tsw (pc' := 107) (off := 104) rfl (by rw [hc8]; decide +kernel) (by rw [hc8]; decide +kernel) rfl ?_
    refine ev_aload_n (pc' := 108) rfl rfl rfl ?_
    refine ev_getfield (pc' := 111) (w := .int (σ 85 42)) rfl rfl rfl rfl ?_
    obtain rfl := Option.some.inj h
    exact ev_ireturn rfl rfl
  rcases am_if h with ⟨hc9, h⟩ | ⟨hc9, h⟩
  · refine ev_tsw (pc' := 112) (off := 109) rfl (by rw [hc9]; decide +kernel) (by rw [hc9]; decide +kernel) rfl ?_
    refine ev_aload_n (pc' := 113) rfl rfl rfl ?_
    refine ev_getfield (pc' := 116) (w := .int (σ 85 47)) rfl rfl rfl rfl ?_
    obtain rfl := Option.some.inj h
    exact ev_ireturn rfl rfl
  rcases am_if h with ⟨hc10, h⟩ | ⟨hc10, h⟩
  · refine ev_tsw (pc' := 117) (off := 114) rfl (by rw [hc10]; decide +kernel) (by rw [hc10]; decide +kernel) rfl ?_
    refine ev_aload_n (pc' := 118) rfl rfl rfl ?_
    refine ev_getfield (pc' := 121) (w := .int (σ 85 22)) rfl rfl rfl rfl ?_
    obtain rfl := Option.some.inj h
    exact ev_ireturn rfl rfl
  rcases am_if h with ⟨hc11, h⟩ | ⟨hc11, h⟩
  · refine ev_tsw (pc' := 122) (off := 119) rfl (by rw [hc11]; decide +kernel) (by rw [hc11]; decide +kernel) rfl ?_
    refine ev_aload_n (pc' := 123) rfl rfl rfl ?_
    refine ev_getfield (pc' := 126) (w := .int (σ 85 0)) rfl rfl rfl rfl ?_
    obtain rfl := Option.some.inj h
    exact ev_ireturn rfl rfl
  rcases am_if h with ⟨hc12, h⟩ | ⟨hc12, h⟩
  · refine ev_tsw (pc' := 127) (off := 124) rfl (by rw [hc12]; decide +kernel) (by rw [hc12]; decide +kernel) rfl ?_
    refine ev_aload_n (pc' := 128) rfl rfl rfl ?_
    refine ev_getfield (pc' := 131) (w := .int (σ 85 50)) rfl rfl rfl rfl ?_
    obtain rfl := Option.some.inj h
    exact ev_ireturn rfl rfl
  rcases am_if h with ⟨hc13, h⟩ | ⟨hc13, h⟩
  · refine ev_tsw (pc' := 132) (off := 129) rfl (by rw [hc13]; decide +kernel) (by rw [hc13]; decide +kernel) rfl ?_
    refine ev_iconst (pc' := 133) (b := (0 : Int32)) rfl rfl rfl ?_
    refine ev_istore_n (pc' := 134) (L' := [.ref 85, .int a1, .int (0 : Int32), .int (0 : Int32)]) rfl rfl rfl rfl ?_
    exact fm_count_b134_e h
  rcases am_if h with ⟨hc14, h⟩ | ⟨hc14, h⟩
  · refine ev_tsw (pc' := 166) (off := 163) rfl (by rw [hc14]; decide +kernel) (by rw [hc14]; decide +kernel) rfl ?_
    refine ev_aload_n (pc' := 167) rfl rfl rfl ?_
    refine am_bd h (fun q15 hq15 h => ?_)
    refine ev_call (mi := 210) (as := [.ref 85]) (rest := []) rfl rfl (Nat.le_of_ble_eq_true rfl) (fm_nobodys_e (d := d) hq15) ?_
    show am_Ev _ _ _ _ 170 _ _ _ _ _
    obtain rfl := Option.some.inj h
    exact ev_ireturn rfl rfl
  have hd16 : a1.toInt < 0 ∨ 13 < a1.toInt ∨ True := Or.inr (Or.inr trivial)
  have hk16 : ∀ (Lq Sq : List Value) (v : Option Value) (σ2 : am_S), am_Ev am_sh (am_exx X xs) (d + 4) mm_211 171 Lq Sq σ v σ2 → am_Ev am_sh (am_exx X xs) (d + 4) mm_211 3 Lq (.int a1 :: Sq) σ v σ2 := fun Lq Sq v σ2 hz => by
    by_cases hr : a1.toInt < 0 ∨ 13 < a1.toInt
    · exact ev_tsd rfl hr rfl hz
    · obtain ⟨j, hj, hx⟩ := am_rg 14 hr (by decide)
      rcases (show j = 0 ∨ j = 1 ∨ j = 2 ∨ j = 3 ∨ j = 4 ∨ j = 5 ∨ j = 6 ∨ j = 7 ∨ j = 8 ∨ j = 9 ∨ j = 10 ∨ j = 11 ∨ j = 12 ∨ j = 13 by omega) with rfl | rfl | rfl | rfl | rfl | rfl | rfl | rfl | rfl | rfl | rfl | rfl | rfl | rfl
      · exact absurd (hx.trans (by decide +kernel)) hc1
      · exact absurd (hx.trans (by decide +kernel)) hc2
      · exact absurd (hx.trans (by decide +kernel)) hc3
      · exact absurd (hx.trans (by decide +kernel)) hc4
      · exact absurd (hx.trans (by decide +kernel)) hc5
      · exact absurd (hx.trans (by decide +kernel)) hc6
      · exact absurd (hx.trans (by decide +kernel)) hc7
      · exact absurd (hx.trans (by decide +kernel)) hc8
      · exact absurd (hx.trans (by decide +kernel)) hc9
      · exact absurd (hx.trans (by decide +kernel)) hc10
      · exact absurd (hx.trans (by decide +kernel)) hc11
      · exact absurd (hx.trans (by decide +kernel)) hc12
      · exact absurd (hx.trans (by decide +kernel)) hc13
      · exact absurd (hx.trans (by decide +kernel)) hc14
  refine hk16 _ _ _ _ ?_
  refine ev_aload_n (pc' := 172) rfl rfl rfl ?_
  refine ev_iconst (pc' := 173) (b := (1 : Int32)) rfl rfl rfl ?_
  refine am_bd h (fun q17 hq17 h => ?_)
  refine ev_call (mi := 159) (as := [.ref 85, .int (1 : Int32)]) (rest := []) rfl rfl (Nat.le_of_ble_eq_true rfl) (fm_finding_e (d := d + 3) hq17) ?_
  show am_Ev _ _ _ _ 176 _ _ _ _ _
  obtain rfl := Option.some.inj h
  exact ev_ireturn rfl rfl
/-! PartedLandModel.found (85, 'I'): S -/
def fm_found (a1 : Int32) (σ : am_S) : Option (Int32 × am_S) := (if (fm_isIn a1 (1 : Int32) (5 : Int32) σ) = 0 then (fm_finding (1 : Int32) σ).bind fun q2 => some (q2.1, q2.2) else am_g (am_in a1 6) <| some ((σ 123 a1.toNatClampNeg), σ))
set_option maxRecDepth 100000 in
theorem fm_found_e {X : Nat} {xs : Nat → Int32} {d : Nat} {a1 : Int32} {σ : am_S} {o : Int32 × am_S} (h : fm_found a1 σ = some o) : am_Ev am_sh (am_exx X xs) (d + 1) mm_212 0 [.ref 85, .int a1] [] σ (some (.int o.1)) o.2 := by
  unfold fm_found at h
  refine ev_iload_n (pc' := 1) rfl rfl rfl ?_
  refine ev_iconst (pc' := 2) (b := (1 : Int32)) rfl rfl rfl ?_
  refine ev_iconst (pc' := 3) (b := (5 : Int32)) rfl rfl rfl ?_
  refine ev_call (mi := 170) (as := [.int a1, .int (1 : Int32), .int (5 : Int32)]) (rest := []) rfl rfl (Nat.le_of_ble_eq_true rfl) (fm_isIn_e (d := d) rfl) ?_
  show am_Ev _ _ _ _ 6 _ _ _ _ _
  rcases am_if h with ⟨hc1, h⟩ | ⟨hc1, h⟩
  · refine ev_if_t (pc' := 18) rfl rfl (cb_eq_t hc1) ?_
    refine ev_aload_n (pc' := 19) rfl rfl rfl ?_
    refine ev_iconst (pc' := 20) (b := (1 : Int32)) rfl rfl rfl ?_
    refine am_bd h (fun q2 hq2 h => ?_)
    refine ev_call (mi := 159) (as := [.ref 85, .int (1 : Int32)]) (rest := []) rfl rfl (Nat.le_of_ble_eq_true rfl) (fm_finding_e (d := d) hq2) ?_
    show am_Ev _ _ _ _ 23 _ _ _ _ _
    obtain rfl := Option.some.inj h
    exact ev_ireturn rfl rfl
  · refine ev_if_f (pc' := 9) rfl (by decide) rfl (cb_eq_f hc1) ?_
    refine ev_aload_n (pc' := 10) rfl rfl rfl ?_
    refine ev_getfield (pc' := 13) (w := .ref 123) rfl rfl rfl rfl ?_
    refine ev_iload_n (pc' := 14) rfl rfl rfl ?_
    obtain ⟨hg3, h⟩ := am_g_some h
    refine ev_iaload (pc' := 15) rfl rfl rfl hg3 ?_
    refine ev_goto (pc' := 23) rfl rfl ?_
    obtain rfl := Option.some.inj h
    exact ev_ireturn rfl rfl
/-! PartedLandModel.parish (85, 'I', 'I'): S -/
def fm_parish_b20 (σ : am_S) : Option (Int32 × am_S) := (fm_finding (1 : Int32) σ).bind fun q1 => some (q1.1, q1.2)
set_option maxRecDepth 100000 in
theorem fm_parish_b20_e {X : Nat} {xs : Nat → Int32} {d : Nat} {w1 : Value} {w2 : Value} {σ : am_S} {o : Int32 × am_S} (h : fm_parish_b20 σ = some o) : am_Ev am_sh (am_exx X xs) (d + 1) mm_214 20 [.ref 85, w1, w2] [] σ (some (.int o.1)) o.2 := by
  unfold fm_parish_b20 at h
  refine ev_aload_n (pc' := 21) rfl rfl rfl ?_
  refine ev_iconst (pc' := 22) (b := (1 : Int32)) rfl rfl rfl ?_
  refine am_bd h (fun q1 hq1 h => ?_)
  refine ev_call (mi := 159) (as := [.ref 85, .int (1 : Int32)]) (rest := []) rfl rfl (Nat.le_of_ble_eq_true rfl) (fm_finding_e (d := d) hq1) ?_
  show am_Ev _ _ _ _ 25 _ _ _ _ _
  obtain rfl := Option.some.inj h
  exact ev_ireturn rfl rfl
def fm_parish (a1 : Int32) (a2 : Int32) (σ : am_S) : Option (Int32 × am_S) := (if (fm_isIn a1 (0 : Int32) (99 : Int32) σ) = 0 then fm_parish_b20 σ else (if (fm_isIn a2 (0 : Int32) (99 : Int32) σ) = 0 then fm_parish_b20 σ else (if (σ 85 1) = (12 : Int32) then (fm_finding (4 : Int32) σ).bind fun q4 => some (q4.1, q4.2) else am_g (am_in (σ 85 1) 12) <| am_g (am_in (σ 85 1) 12) <| some ((((σ 85 1) + (1 : Int32)) - (1 : Int32)), (am_up (am_up (am_up σ 86 (σ 85 1).toNatClampNeg a1) 87 (σ 85 1).toNatClampNeg a2) 85 1 ((σ 85 1) + (1 : Int32)))))))
set_option maxRecDepth 100000 in
theorem fm_parish_e {X : Nat} {xs : Nat → Int32} {d : Nat} {a1 : Int32} {a2 : Int32} {σ : am_S} {o : Int32 × am_S} (h : fm_parish a1 a2 σ = some o) : am_Ev am_sh (am_exx X xs) (d + 1) mm_214 0 [.ref 85, .int a1, .int a2] [] σ (some (.int o.1)) o.2 := by
  unfold fm_parish at h
  refine ev_iload_n (pc' := 1) rfl rfl rfl ?_
  refine ev_iconst (pc' := 2) (b := (0 : Int32)) rfl rfl rfl ?_
  refine ev_bipush (pc' := 4) (b := (99 : Int32)) rfl rfl rfl ?_
  refine ev_call (mi := 170) (as := [.int a1, .int (0 : Int32), .int (99 : Int32)]) (rest := []) rfl rfl (Nat.le_of_ble_eq_true rfl) (fm_isIn_e (d := d) rfl) ?_
  show am_Ev _ _ _ _ 7 _ _ _ _ _
  rcases am_if h with ⟨hc1, h⟩ | ⟨hc1, h⟩
  · refine ev_if_t (pc' := 20) rfl rfl (cb_eq_t hc1) ?_
    exact fm_parish_b20_e h
  · refine ev_if_f (pc' := 10) rfl (by decide) rfl (cb_eq_f hc1) ?_
    refine ev_iload_n (pc' := 11) rfl rfl rfl ?_
    refine ev_iconst (pc' := 12) (b := (0 : Int32)) rfl rfl rfl ?_
    refine ev_bipush (pc' := 14) (b := (99 : Int32)) rfl rfl rfl ?_
    refine ev_call (mi := 170) (as := [.int a2, .int (0 : Int32), .int (99 : Int32)]) (rest := []) rfl rfl (Nat.le_of_ble_eq_true rfl) (fm_isIn_e (d := d) rfl) ?_
    show am_Ev _ _ _ _ 17 _ _ _ _ _
    rcases am_if h with ⟨hc2, h⟩ | ⟨hc2, h⟩
    · refine ev_if_f (pc' := 20) rfl (by decide) rfl (cb_ne_f hc2) ?_
      exact fm_parish_b20_e h
    · refine ev_if_t (pc' := 26) rfl rfl (cb_ne_t hc2) ?_
      refine ev_aload_n (pc' := 27) rfl rfl rfl ?_
      refine ev_getfield (pc' := 30) (w := .int (σ 85 1)) rfl rfl rfl rfl ?_
      refine ev_bipush (pc' := 32) (b := (12 : Int32)) rfl rfl rfl ?_
      rcases am_if h with ⟨hc3, h⟩ | ⟨hc3, h⟩
      · refine ev_ic_f (pc' := 35) rfl (by decide) rfl (cb_ne_f hc3) ?_
        refine ev_aload_n (pc' := 36) rfl rfl rfl ?_
        refine ev_iconst (pc' := 37) (b := (4 : Int32)) rfl rfl rfl ?_
        refine am_bd h (fun q4 hq4 h => ?_)
        refine ev_call (mi := 159) (as := [.ref 85, .int (4 : Int32)]) (rest := []) rfl rfl (Nat.le_of_ble_eq_true rfl) (fm_finding_e (d := d) hq4) ?_
        show am_Ev _ _ _ _ 40 _ _ _ _ _
        obtain rfl := Option.some.inj h
        exact ev_ireturn rfl rfl
      · refine ev_ic_t (pc' := 41) rfl rfl (cb_ne_t hc3) ?_
        refine ev_aload_n (pc' := 42) rfl rfl rfl ?_
        refine ev_getfield (pc' := 45) (w := .ref 86) rfl rfl rfl rfl ?_
        refine ev_aload_n (pc' := 46) rfl rfl rfl ?_
        refine ev_getfield (pc' := 49) (w := .int (σ 85 1)) rfl rfl rfl rfl ?_
        refine ev_iload_n (pc' := 50) rfl rfl rfl ?_
        obtain ⟨hg5, h⟩ := am_g_some h
        refine ev_iastore (pc' := 51) rfl rfl rfl hg5 ?_
        refine ev_aload_n (pc' := 52) rfl rfl rfl ?_
        refine ev_getfield (pc' := 55) (w := .ref 87) rfl rfl rfl rfl ?_
        refine ev_aload_n (pc' := 56) rfl rfl rfl ?_
        refine ev_getfield (pc' := 59) (w := .int (σ 85 1)) rfl rfl rfl rfl ?_
        refine ev_iload_n (pc' := 60) rfl rfl rfl ?_
        obtain ⟨hg6, h⟩ := am_g_some h
        refine ev_iastore (pc' := 61) rfl rfl rfl hg6 ?_
        refine ev_aload_n (pc' := 62) rfl rfl rfl ?_
        refine ev_dup (pc' := 63) rfl rfl ?_
        refine ev_getfield (pc' := 66) (w := .int (σ 85 1)) rfl rfl rfl rfl ?_
        refine ev_iconst (pc' := 67) (b := (1 : Int32)) rfl rfl rfl ?_
        refine ev_iadd (pc' := 68) rfl rfl ?_
        refine ev_putfield (pc' := 71) (ci := 11) (f := 1) (z := 0) rfl rfl rfl rfl rfl ?_
        refine ev_aload_n (pc' := 72) rfl rfl rfl ?_
        refine ev_getfield (pc' := 75) (w := .int ((σ 85 1) + (1 : Int32))) rfl rfl rfl rfl ?_
        refine ev_iconst (pc' := 76) (b := (1 : Int32)) rfl rfl rfl ?_
        refine ev_isub (pc' := 77) rfl rfl ?_
        obtain rfl := Option.some.inj h
        exact ev_ireturn rfl rfl
/-! PartedLandModel.edge (85, 'I', 'I', 'I', 'I'): S -/
def fm_edge_b41 (σ : am_S) : Option (Int32 × am_S) := (fm_finding (1 : Int32) σ).bind fun q1 => some (q1.1, q1.2)
set_option maxRecDepth 100000 in
theorem fm_edge_b41_e {X : Nat} {xs : Nat → Int32} {d : Nat} {w1 : Value} {w2 : Value} {w3 : Value} {w4 : Value} {σ : am_S} {o : Int32 × am_S} (h : fm_edge_b41 σ = some o) : am_Ev am_sh (am_exx X xs) (d + 1) mm_215 41 [.ref 85, w1, w2, w3, w4] [] σ (some (.int o.1)) o.2 := by
  unfold fm_edge_b41 at h
  refine ev_aload_n (pc' := 42) rfl rfl rfl ?_
  refine ev_iconst (pc' := 43) (b := (1 : Int32)) rfl rfl rfl ?_
  refine am_bd h (fun q1 hq1 h => ?_)
  refine ev_call (mi := 159) (as := [.ref 85, .int (1 : Int32)]) (rest := []) rfl rfl (Nat.le_of_ble_eq_true rfl) (fm_finding_e (d := d) hq1) ?_
  show am_Ev _ _ _ _ 46 _ _ _ _ _
  obtain rfl := Option.some.inj h
  exact ev_ireturn rfl rfl
def fm_edge_b111 (s0 : Int32) (s1 : Int32) (σ : am_S) : Option (Int32 × am_S) := am_g (am_bo s0) <| am_g (am_in s1 30) <| some (((σ 85 5) + (1 : Int32)), (am_up (am_up σ 92 s1.toNatClampNeg s0) 85 5 ((σ 85 5) + (1 : Int32))))
set_option maxRecDepth 100000 in
theorem fm_edge_b111_e {X : Nat} {xs : Nat → Int32} {d : Nat} {s0 : Int32} {s1 : Int32} {w1 : Value} {w2 : Value} {w3 : Value} {w4 : Value} {σ : am_S} {o : Int32 × am_S} (h : fm_edge_b111 s0 s1 σ = some o) : am_Ev am_sh (am_exx X xs) (d + 1) mm_215 111 [.ref 85, w1, w2, w3, w4] [.int s0, .int s1, .ref 92] σ (some (.int o.1)) o.2 := by
  unfold fm_edge_b111 at h
  obtain ⟨hb1, h⟩ := am_g_some h
  obtain ⟨hg1, h⟩ := am_g_some h
  refine ev_bastore (pc' := 112) rfl rfl rfl hb1 hg1 ?_
  refine ev_aload_n (pc' := 113) rfl rfl rfl ?_
  refine ev_dup (pc' := 114) rfl rfl ?_
  refine ev_getfield (pc' := 117) (w := .int (σ 85 5)) rfl rfl rfl rfl ?_
  refine ev_iconst (pc' := 118) (b := (1 : Int32)) rfl rfl rfl ?_
  refine ev_iadd (pc' := 119) rfl rfl ?_
  refine ev_putfield (pc' := 122) (ci := 11) (f := 5) (z := 0) rfl rfl rfl rfl rfl ?_
  refine ev_aload_n (pc' := 123) rfl rfl rfl ?_
  refine ev_getfield (pc' := 126) (w := .int ((σ 85 5) + (1 : Int32))) rfl rfl rfl rfl ?_
  obtain rfl := Option.some.inj h
  exact ev_ireturn rfl rfl
def fm_edge (a1 : Int32) (a2 : Int32) (a3 : Int32) (a4 : Int32) (σ : am_S) : Option (Int32 × am_S) := (if (fm_isParish a1 σ) = 0 then fm_edge_b41 σ else (if (fm_isParish a2 σ) = 0 then fm_edge_b41 σ else (if a1 = a2 then fm_edge_b41 σ else (if (fm_isIn a3 (1 : Int32) (9 : Int32) σ) = 0 then fm_edge_b41 σ else (if (fm_isIn a4 (0 : Int32) (1 : Int32) σ) = 0 then fm_edge_b41 σ else (if (σ 85 5) = (30 : Int32) then (fm_finding (4 : Int32) σ).bind fun q7 => some (q7.1, q7.2) else am_g (am_in (σ 85 5) 30) <| am_g (am_in (σ 85 5) 30) <| am_g (am_in (σ 85 5) 30) <| (if a4 = (1 : Int32) then fm_edge_b111 (1 : Int32) (σ 85 5) (am_up (am_up (am_up σ 89 (σ 85 5).toNatClampNeg a1) 90 (σ 85 5).toNatClampNeg a2) 91 (σ 85 5).toNatClampNeg a3) else fm_edge_b111 (0 : Int32) (σ 85 5) (am_up (am_up (am_up σ 89 (σ 85 5).toNatClampNeg a1) 90 (σ 85 5).toNatClampNeg a2) 91 (σ 85 5).toNatClampNeg a3))))))))
set_option maxRecDepth 100000 in
theorem fm_edge_e {X : Nat} {xs : Nat → Int32} {d : Nat} {a1 : Int32} {a2 : Int32} {a3 : Int32} {a4 : Int32} {σ : am_S} {o : Int32 × am_S} (h : fm_edge a1 a2 a3 a4 σ = some o) : am_Ev am_sh (am_exx X xs) (d + 1) mm_215 0 [.ref 85, .int a1, .int a2, .int a3, .int a4] [] σ (some (.int o.1)) o.2 := by
  unfold fm_edge at h
  refine ev_aload_n (pc' := 1) rfl rfl rfl ?_
  refine ev_iload_n (pc' := 2) rfl rfl rfl ?_
  refine ev_call (mi := 181) (as := [.ref 85, .int a1]) (rest := []) rfl rfl (Nat.le_of_ble_eq_true rfl) (fm_isParish_e (d := d) rfl) ?_
  show am_Ev _ _ _ _ 5 _ _ _ _ _
  rcases am_if h with ⟨hc1, h⟩ | ⟨hc1, h⟩
  · refine ev_if_t (pc' := 41) rfl rfl (cb_eq_t hc1) ?_
    exact fm_edge_b41_e h
  · refine ev_if_f (pc' := 8) rfl (by decide) rfl (cb_eq_f hc1) ?_
    refine ev_aload_n (pc' := 9) rfl rfl rfl ?_
    refine ev_iload_n (pc' := 10) rfl rfl rfl ?_
    refine ev_call (mi := 181) (as := [.ref 85, .int a2]) (rest := []) rfl rfl (Nat.le_of_ble_eq_true rfl) (fm_isParish_e (d := d) rfl) ?_
    show am_Ev _ _ _ _ 13 _ _ _ _ _
    rcases am_if h with ⟨hc2, h⟩ | ⟨hc2, h⟩
    · refine ev_if_t (pc' := 41) rfl rfl (cb_eq_t hc2) ?_
      exact fm_edge_b41_e h
    · refine ev_if_f (pc' := 16) rfl (by decide) rfl (cb_eq_f hc2) ?_
      refine ev_iload_n (pc' := 17) rfl rfl rfl ?_
      refine ev_iload_n (pc' := 18) rfl rfl rfl ?_
      rcases am_if h with ⟨hc3, h⟩ | ⟨hc3, h⟩
      · refine ev_ic_t (pc' := 41) rfl rfl (cb_eq_t hc3) ?_
        exact fm_edge_b41_e h
      · refine ev_ic_f (pc' := 21) rfl (by decide) rfl (cb_eq_f hc3) ?_
        refine ev_iload_n (pc' := 22) rfl rfl rfl ?_
        refine ev_iconst (pc' := 23) (b := (1 : Int32)) rfl rfl rfl ?_
        refine ev_bipush (pc' := 25) (b := (9 : Int32)) rfl rfl rfl ?_
        refine ev_call (mi := 170) (as := [.int a3, .int (1 : Int32), .int (9 : Int32)]) (rest := []) rfl rfl (Nat.le_of_ble_eq_true rfl) (fm_isIn_e (d := d) rfl) ?_
        show am_Ev _ _ _ _ 28 _ _ _ _ _
        rcases am_if h with ⟨hc4, h⟩ | ⟨hc4, h⟩
        · refine ev_if_t (pc' := 41) rfl rfl (cb_eq_t hc4) ?_
          exact fm_edge_b41_e h
        · refine ev_if_f (pc' := 31) rfl (by decide) rfl (cb_eq_f hc4) ?_
          refine ev_iload (pc' := 33) rfl rfl rfl ?_
          refine ev_iconst (pc' := 34) (b := (0 : Int32)) rfl rfl rfl ?_
          refine ev_iconst (pc' := 35) (b := (1 : Int32)) rfl rfl rfl ?_
          refine ev_call (mi := 170) (as := [.int a4, .int (0 : Int32), .int (1 : Int32)]) (rest := []) rfl rfl (Nat.le_of_ble_eq_true rfl) (fm_isIn_e (d := d) rfl) ?_
          show am_Ev _ _ _ _ 38 _ _ _ _ _
          rcases am_if h with ⟨hc5, h⟩ | ⟨hc5, h⟩
          · refine ev_if_f (pc' := 41) rfl (by decide) rfl (cb_ne_f hc5) ?_
            exact fm_edge_b41_e h
          · refine ev_if_t (pc' := 47) rfl rfl (cb_ne_t hc5) ?_
            refine ev_aload_n (pc' := 48) rfl rfl rfl ?_
            refine ev_getfield (pc' := 51) (w := .int (σ 85 5)) rfl rfl rfl rfl ?_
            refine ev_bipush (pc' := 53) (b := (30 : Int32)) rfl rfl rfl ?_
            rcases am_if h with ⟨hc6, h⟩ | ⟨hc6, h⟩
            · refine ev_ic_f (pc' := 56) rfl (by decide) rfl (cb_ne_f hc6) ?_
              refine ev_aload_n (pc' := 57) rfl rfl rfl ?_
              refine ev_iconst (pc' := 58) (b := (4 : Int32)) rfl rfl rfl ?_
              refine am_bd h (fun q7 hq7 h => ?_)
              refine ev_call (mi := 159) (as := [.ref 85, .int (4 : Int32)]) (rest := []) rfl rfl (Nat.le_of_ble_eq_true rfl) (fm_finding_e (d := d) hq7) ?_
              show am_Ev _ _ _ _ 61 _ _ _ _ _
              obtain rfl := Option.some.inj h
              exact ev_ireturn rfl rfl
            · refine ev_ic_t (pc' := 62) rfl rfl (cb_ne_t hc6) ?_
              refine ev_aload_n (pc' := 63) rfl rfl rfl ?_
              refine ev_getfield (pc' := 66) (w := .ref 89) rfl rfl rfl rfl ?_
              refine ev_aload_n (pc' := 67) rfl rfl rfl ?_
              refine ev_getfield (pc' := 70) (w := .int (σ 85 5)) rfl rfl rfl rfl ?_
              refine ev_iload_n (pc' := 71) rfl rfl rfl ?_
              obtain ⟨hg8, h⟩ := am_g_some h
              refine ev_iastore (pc' := 72) rfl rfl rfl hg8 ?_
              refine ev_aload_n (pc' := 73) rfl rfl rfl ?_
              refine ev_getfield (pc' := 76) (w := .ref 90) rfl rfl rfl rfl ?_
              refine ev_aload_n (pc' := 77) rfl rfl rfl ?_
              refine ev_getfield (pc' := 80) (w := .int (σ 85 5)) rfl rfl rfl rfl ?_
              refine ev_iload_n (pc' := 81) rfl rfl rfl ?_
              obtain ⟨hg9, h⟩ := am_g_some h
              refine ev_iastore (pc' := 82) rfl rfl rfl hg9 ?_
              refine ev_aload_n (pc' := 83) rfl rfl rfl ?_
              refine ev_getfield (pc' := 86) (w := .ref 91) rfl rfl rfl rfl ?_
              refine ev_aload_n (pc' := 87) rfl rfl rfl ?_
              refine ev_getfield (pc' := 90) (w := .int (σ 85 5)) rfl rfl rfl rfl ?_
              refine ev_iload_n (pc' := 91) rfl rfl rfl ?_
              obtain ⟨hg10, h⟩ := am_g_some h
              refine ev_iastore (pc' := 92) rfl rfl rfl hg10 ?_
              refine ev_aload_n (pc' := 93) rfl rfl rfl ?_
              refine ev_getfield (pc' := 96) (w := .ref 92) rfl rfl rfl rfl ?_
              refine ev_aload_n (pc' := 97) rfl rfl rfl ?_
              refine ev_getfield (pc' := 100) (w := .int (σ 85 5)) rfl rfl rfl rfl ?_
              refine ev_iload (pc' := 102) rfl rfl rfl ?_
              refine ev_iconst (pc' := 103) (b := (1 : Int32)) rfl rfl rfl ?_
              rcases am_if h with ⟨hc11, h⟩ | ⟨hc11, h⟩
              · refine ev_ic_f (pc' := 106) rfl (by decide) rfl (cb_ne_f hc11) ?_
                refine ev_iconst (pc' := 107) (b := (1 : Int32)) rfl rfl rfl ?_
                refine ev_goto (pc' := 111) rfl rfl ?_
                exact fm_edge_b111_e h
              · refine ev_ic_t (pc' := 110) rfl rfl (cb_ne_t hc11) ?_
                refine ev_iconst (pc' := 111) (b := (0 : Int32)) rfl rfl rfl ?_
                exact fm_edge_b111_e h
/-! PartedLandLaw.law (1001, 0, 85): S -/
def fx_law_1001_0_85_b1519 (N : Nat) (X : Nat) (xs : Nat → Int32) (k18 : Int32 → am_S → Option (Int32 × am_S)) (x3 : Int32) (σ : am_S) : Option (Int32 × am_S) := k18 (x3 + (5 : Int32)) σ
set_option maxRecDepth 100000 in
theorem fx_law_1001_0_85_b1519_e {X : Nat} {xs : Nat → Int32} {d : Nat} {N : Nat} {k18 : Int32 → am_S → Option (Int32 × am_S)} (hk18 : ∀ {x3 : Int32} {σ : am_S} {o : Int32 × am_S}, k18 x3 σ = some o → am_Ev am_sh (am_exx X xs) (d + 7) mm_219 18 [.ref 1001, .ref 0, .ref 85, .int x3] [] σ (some (.int o.1)) o.2) {x3 : Int32} {σ : am_S} {o : Int32 × am_S} (h : fx_law_1001_0_85_b1519 N X xs k18 x3 σ = some o) : am_Ev am_sh (am_exx X xs) (d + 7) mm_219 1519 [.ref 1001, .ref 0, .ref 85, .int x3] [] σ (some (.int o.1)) o.2 := by
  unfold fx_law_1001_0_85_b1519 at h
  refine ev_iinc (pc' := 1522) (L' := [.ref 1001, .ref 0, .ref 85, .int (x3 + (5 : Int32))]) (b := (5 : Int32)) rfl rfl rfl rfl rfl ?_
  refine ev_goto (pc' := 18) rfl rfl ?_
  exact hk18 h
def fx_law_1001_0_85_b18 (N : Nat) (X : Nat) (xs : Nat → Int32) : Nat → Int32 → am_S → Option (Int32 × am_S)
  | 0, _, _ => none
  | n + 1, x3, σ => (if ((Int32.ofNat X) - (5 : Int32)) < x3 then some ((1 : Int32), σ) else am_g (am_in x3 X) <| (if ((xs x3.toNatClampNeg) &&& (63 : Int32)) = (0 : Int32) then am_g (am_in (x3 + (1 : Int32)) X) <| am_g (am_in (x3 + (2 : Int32)) X) <| (fx_parish (xs (x3 + (1 : Int32)).toNatClampNeg) (xs (x3 + (2 : Int32)).toNatClampNeg) σ).bind fun q6 => am_g (am_in (x3 + (1 : Int32)) X) <| am_g (am_in (x3 + (2 : Int32)) X) <| (fm_parish (xs (x3 + (1 : Int32)).toNatClampNeg) (xs (x3 + (2 : Int32)).toNatClampNeg) q6.2).bind fun q9 => (if q6.1 = q9.1 then fx_law_1001_0_85_b1519 N X xs (fun x3 σ => fx_law_1001_0_85_b18 N X xs n x3 σ) x3 q9.2 else some ((0 : Int32), q9.2)) else (if ((xs x3.toNatClampNeg) &&& (63 : Int32)) = (1 : Int32) then am_g (am_in (x3 + (1 : Int32)) X) <| am_g (am_in (x3 + (2 : Int32)) X) <| am_g (am_in (x3 + (3 : Int32)) X) <| am_g (am_in (x3 + (4 : Int32)) X) <| (fx_edge (xs (x3 + (1 : Int32)).toNatClampNeg) (xs (x3 + (2 : Int32)).toNatClampNeg) (xs (x3 + (3 : Int32)).toNatClampNeg) (xs (x3 + (4 : Int32)).toNatClampNeg) σ).bind fun q16 => am_g (am_in (x3 + (1 : Int32)) X) <| am_g (am_in (x3 + (2 : Int32)) X) <| am_g (am_in (x3 + (3 : Int32)) X) <| am_g (am_in (x3 + (4 : Int32)) X) <| (fm_edge (xs (x3 + (1 : Int32)).toNatClampNeg) (xs (x3 + (2 : Int32)).toNatClampNeg) (xs (x3 + (3 : Int32)).toNatClampNeg) (xs (x3 + (4 : Int32)).toNatClampNeg) q16.2).bind fun q21 => (if q16.1 = q21.1 then fx_law_1001_0_85_b1519 N X xs (fun x3 σ => fx_law_1001_0_85_b18 N X xs n x3 σ) x3 q21.2 else some ((0 : Int32), q21.2)) else (if ((xs x3.toNatClampNeg) &&& (63 : Int32)) = (2 : Int32) then am_g (am_in (x3 + (1 : Int32)) X) <| am_g (am_in (x3 + (2 : Int32)) X) <| (fx_peg (xs (x3 + (1 : Int32)).toNatClampNeg) (xs (x3 + (2 : Int32)).toNatClampNeg) σ).bind fun q26 => am_g (am_in (x3 + (1 : Int32)) X) <| am_g (am_in (x3 + (2 : Int32)) X) <| (fm_peg (xs (x3 + (1 : Int32)).toNatClampNeg) (xs (x3 + (2 : Int32)).toNatClampNeg) q26.2).bind fun q29 => (if q26.1 = q29.1 then fx_law_1001_0_85_b1519 N X xs (fun x3 σ => fx_law_1001_0_85_b18 N X xs n x3 σ) x3 q29.2 else some ((0 : Int32), q29.2)) else (if ((xs x3.toNatClampNeg) &&& (63 : Int32)) = (3 : Int32) then am_g (am_in (x3 + (1 : Int32)) X) <| am_g (am_in (x3 + (2 : Int32)) X) <| (fx_settle (xs (x3 + (1 : Int32)).toNatClampNeg) (xs (x3 + (2 : Int32)).toNatClampNeg) σ).bind fun q34 => am_g (am_in (x3 + (1 : Int32)) X) <| am_g (am_in (x3 + (2 : Int32)) X) <| (fm_settle (xs (x3 + (1 : Int32)).toNatClampNeg) (xs (x3 + (2 : Int32)).toNatClampNeg) q34.2).bind fun q37 => (if q34.1 = q37.1 then fx_law_1001_0_85_b1519 N X xs (fun x3 σ => fx_law_1001_0_85_b18 N X xs n x3 σ) x3 q37.2 else some ((0 : Int32), q37.2)) else (if ((xs x3.toNatClampNeg) &&& (63 : Int32)) = (4 : Int32) then am_g (am_in (x3 + (1 : Int32)) X) <| am_g (am_in (x3 + (2 : Int32)) X) <| (fx_seat (xs (x3 + (1 : Int32)).toNatClampNeg) (xs (x3 + (2 : Int32)).toNatClampNeg) σ).bind fun q42 => am_g (am_in (x3 + (1 : Int32)) X) <| am_g (am_in (x3 + (2 : Int32)) X) <| (fm_seat (xs (x3 + (1 : Int32)).toNatClampNeg) (xs (x3 + (2 : Int32)).toNatClampNeg) q42.2).bind fun q45 => (if q42.1 = q45.1 then fx_law_1001_0_85_b1519 N X xs (fun x3 σ => fx_law_1001_0_85_b18 N X xs n x3 σ) x3 q45.2 else some ((0 : Int32), q45.2)) else (if ((xs x3.toNatClampNeg) &&& (63 : Int32)) = (5 : Int32) then am_g (am_in (x3 + (1 : Int32)) X) <| (fx_side N (xs (x3 + (1 : Int32)).toNatClampNeg) σ).bind fun q49 => am_g (am_in (x3 + (1 : Int32)) X) <| (fm_side N (xs (x3 + (1 : Int32)).toNatClampNeg) q49.2).bind fun q51 => (if q49.1 = q51.1 then fx_law_1001_0_85_b1519 N X xs (fun x3 σ => fx_law_1001_0_85_b18 N X xs n x3 σ) x3 q51.2 else some ((0 : Int32), q51.2)) else (if ((xs x3.toNatClampNeg) &&& (63 : Int32)) = (6 : Int32) then am_g (am_in (x3 + (1 : Int32)) X) <| (fx_enclave N (xs (x3 + (1 : Int32)).toNatClampNeg) σ).bind fun q55 => am_g (am_in (x3 + (1 : Int32)) X) <| (fm_enclave N (xs (x3 + (1 : Int32)).toNatClampNeg) q55.2).bind fun q57 => (if q55.1 = q57.1 then fx_law_1001_0_85_b1519 N X xs (fun x3 σ => fx_law_1001_0_85_b18 N X xs n x3 σ) x3 q57.2 else some ((0 : Int32), q57.2)) else (if ((xs x3.toNatClampNeg) &&& (63 : Int32)) = (7 : Int32) then am_g (am_in (x3 + (1 : Int32)) X) <| am_g (am_in (x3 + (2 : Int32)) X) <| am_g (am_in (x3 + (3 : Int32)) X) <| (fx_far N (xs (x3 + (1 : Int32)).toNatClampNeg) (xs (x3 + (2 : Int32)).toNatClampNeg) (xs (x3 + (3 : Int32)).toNatClampNeg) σ).bind fun q63 => am_g (am_in (x3 + (1 : Int32)) X) <| am_g (am_in (x3 + (2 : Int32)) X) <| am_g (am_in (x3 + (3 : Int32)) X) <| (fm_far N (xs (x3 + (1 : Int32)).toNatClampNeg) (xs (x3 + (2 : Int32)).toNatClampNeg) (xs (x3 + (3 : Int32)).toNatClampNeg) q63.2).bind fun q67 => (if q63.1 = q67.1 then fx_law_1001_0_85_b1519 N X xs (fun x3 σ => fx_law_1001_0_85_b18 N X xs n x3 σ) x3 q67.2 else some ((0 : Int32), q67.2)) else (if ((xs x3.toNatClampNeg) &&& (63 : Int32)) = (8 : Int32) then am_g (am_in (x3 + (1 : Int32)) X) <| am_g (am_in (x3 + (2 : Int32)) X) <| (fx_person (xs (x3 + (1 : Int32)).toNatClampNeg) (xs (x3 + (2 : Int32)).toNatClampNeg) σ).bind fun q72 => am_g (am_in (x3 + (1 : Int32)) X) <| am_g (am_in (x3 + (2 : Int32)) X) <| (fm_person (xs (x3 + (1 : Int32)).toNatClampNeg) (xs (x3 + (2 : Int32)).toNatClampNeg) q72.2).bind fun q75 => (if q72.1 = q75.1 then fx_law_1001_0_85_b1519 N X xs (fun x3 σ => fx_law_1001_0_85_b18 N X xs n x3 σ) x3 q75.2 else some ((0 : Int32), q75.2)) else (if ((xs x3.toNatClampNeg) &&& (63 : Int32)) = (9 : Int32) then am_g (am_in (x3 + (1 : Int32)) X) <| am_g (am_in (x3 + (2 : Int32)) X) <| (fx_move (xs (x3 + (1 : Int32)).toNatClampNeg) (xs (x3 + (2 : Int32)).toNatClampNeg) σ).bind fun q80 => am_g (am_in (x3 + (1 : Int32)) X) <| am_g (am_in (x3 + (2 : Int32)) X) <| (fm_move (xs (x3 + (1 : Int32)).toNatClampNeg) (xs (x3 + (2 : Int32)).toNatClampNeg) q80.2).bind fun q83 => (if q80.1 = q83.1 then fx_law_1001_0_85_b1519 N X xs (fun x3 σ => fx_law_1001_0_85_b18 N X xs n x3 σ) x3 q83.2 else some ((0 : Int32), q83.2)) else (if ((xs x3.toNatClampNeg) &&& (63 : Int32)) = (10 : Int32) then am_g (am_in (x3 + (1 : Int32)) X) <| am_g (am_in (x3 + (2 : Int32)) X) <| am_g (am_in (x3 + (3 : Int32)) X) <| (fx_work (xs (x3 + (1 : Int32)).toNatClampNeg) (xs (x3 + (2 : Int32)).toNatClampNeg) (xs (x3 + (3 : Int32)).toNatClampNeg) σ).bind fun q89 => am_g (am_in (x3 + (1 : Int32)) X) <| am_g (am_in (x3 + (2 : Int32)) X) <| am_g (am_in (x3 + (3 : Int32)) X) <| (fm_work (xs (x3 + (1 : Int32)).toNatClampNeg) (xs (x3 + (2 : Int32)).toNatClampNeg) (xs (x3 + (3 : Int32)).toNatClampNeg) q89.2).bind fun q93 => (if q89.1 = q93.1 then fx_law_1001_0_85_b1519 N X xs (fun x3 σ => fx_law_1001_0_85_b18 N X xs n x3 σ) x3 q93.2 else some ((0 : Int32), q93.2)) else (if ((xs x3.toNatClampNeg) &&& (63 : Int32)) = (11 : Int32) then am_g (am_in (x3 + (1 : Int32)) X) <| am_g (am_in (x3 + (2 : Int32)) X) <| (fx_choose (xs (x3 + (1 : Int32)).toNatClampNeg) (xs (x3 + (2 : Int32)).toNatClampNeg) σ).bind fun q98 => am_g (am_in (x3 + (1 : Int32)) X) <| am_g (am_in (x3 + (2 : Int32)) X) <| (fm_choose (xs (x3 + (1 : Int32)).toNatClampNeg) (xs (x3 + (2 : Int32)).toNatClampNeg) q98.2).bind fun q101 => (if q98.1 = q101.1 then fx_law_1001_0_85_b1519 N X xs (fun x3 σ => fx_law_1001_0_85_b18 N X xs n x3 σ) x3 q101.2 else some ((0 : Int32), q101.2)) else (if ((xs x3.toNatClampNeg) &&& (63 : Int32)) = (12 : Int32) then am_g (am_in (x3 + (1 : Int32)) X) <| am_g (am_in (x3 + (2 : Int32)) X) <| (fx_whose N (xs (x3 + (1 : Int32)).toNatClampNeg) (xs (x3 + (2 : Int32)).toNatClampNeg) σ).bind fun q106 => am_g (am_in (x3 + (1 : Int32)) X) <| am_g (am_in (x3 + (2 : Int32)) X) <| (fm_whose N (xs (x3 + (1 : Int32)).toNatClampNeg) (xs (x3 + (2 : Int32)).toNatClampNeg) q106.2).bind fun q109 => (if q106.1 = q109.1 then fx_law_1001_0_85_b1519 N X xs (fun x3 σ => fx_law_1001_0_85_b18 N X xs n x3 σ) x3 q109.2 else some ((0 : Int32), q109.2)) else (if ((xs x3.toNatClampNeg) &&& (63 : Int32)) = (13 : Int32) then am_g (am_in (x3 + (1 : Int32)) X) <| am_g (am_in (x3 + (2 : Int32)) X) <| am_g (am_in (x3 + (3 : Int32)) X) <| (fx_pension (xs (x3 + (1 : Int32)).toNatClampNeg) (xs (x3 + (2 : Int32)).toNatClampNeg) (xs (x3 + (3 : Int32)).toNatClampNeg) σ).bind fun q115 => am_g (am_in (x3 + (1 : Int32)) X) <| am_g (am_in (x3 + (2 : Int32)) X) <| am_g (am_in (x3 + (3 : Int32)) X) <| (fm_pension (xs (x3 + (1 : Int32)).toNatClampNeg) (xs (x3 + (2 : Int32)).toNatClampNeg) (xs (x3 + (3 : Int32)).toNatClampNeg) q115.2).bind fun q119 => (if q115.1 = q119.1 then fx_law_1001_0_85_b1519 N X xs (fun x3 σ => fx_law_1001_0_85_b18 N X xs n x3 σ) x3 q119.2 else some ((0 : Int32), q119.2)) else (if ((xs x3.toNatClampNeg) &&& (63 : Int32)) = (14 : Int32) then am_g (am_in (x3 + (1 : Int32)) X) <| am_g (am_in (x3 + (2 : Int32)) X) <| (fx_feed N (xs (x3 + (1 : Int32)).toNatClampNeg) (xs (x3 + (2 : Int32)).toNatClampNeg) σ).bind fun q124 => am_g (am_in (x3 + (1 : Int32)) X) <| am_g (am_in (x3 + (2 : Int32)) X) <| (fm_feed N (xs (x3 + (1 : Int32)).toNatClampNeg) (xs (x3 + (2 : Int32)).toNatClampNeg) q124.2).bind fun q127 => (if q124.1 = q127.1 then fx_law_1001_0_85_b1519 N X xs (fun x3 σ => fx_law_1001_0_85_b18 N X xs n x3 σ) x3 q127.2 else some ((0 : Int32), q127.2)) else (if ((xs x3.toNatClampNeg) &&& (63 : Int32)) = (15 : Int32) then am_g (am_in (x3 + (1 : Int32)) X) <| (fx_propose N (xs (x3 + (1 : Int32)).toNatClampNeg) σ).bind fun q131 => am_g (am_in (x3 + (1 : Int32)) X) <| (fm_propose N (xs (x3 + (1 : Int32)).toNatClampNeg) q131.2).bind fun q133 => (if q131.1 = q133.1 then fx_law_1001_0_85_b1519 N X xs (fun x3 σ => fx_law_1001_0_85_b18 N X xs n x3 σ) x3 q133.2 else some ((0 : Int32), q133.2)) else (if ((xs x3.toNatClampNeg) &&& (63 : Int32)) = (16 : Int32) then am_g (am_in (x3 + (1 : Int32)) X) <| (fx_law (xs (x3 + (1 : Int32)).toNatClampNeg) σ).bind fun q137 => am_g (am_in (x3 + (1 : Int32)) X) <| (fm_law N (xs (x3 + (1 : Int32)).toNatClampNeg) q137.2).bind fun q139 => (if q137.1 = q139.1 then fx_law_1001_0_85_b1519 N X xs (fun x3 σ => fx_law_1001_0_85_b18 N X xs n x3 σ) x3 q139.2 else some ((0 : Int32), q139.2)) else (if ((xs x3.toNatClampNeg) &&& (63 : Int32)) = (17 : Int32) then (fx_differ N σ).bind fun q142 => (fm_differ N q142.2).bind fun q143 => (if q142.1 = q143.1 then fx_law_1001_0_85_b1519 N X xs (fun x3 σ => fx_law_1001_0_85_b18 N X xs n x3 σ) x3 q143.2 else some ((0 : Int32), q143.2)) else (if ((xs x3.toNatClampNeg) &&& (63 : Int32)) = (18 : Int32) then am_g (am_in (x3 + (1 : Int32)) X) <| am_g (am_in (x3 + (2 : Int32)) X) <| (fx_thing N (xs (x3 + (1 : Int32)).toNatClampNeg) (xs (x3 + (2 : Int32)).toNatClampNeg) σ).bind fun q148 => am_g (am_in (x3 + (1 : Int32)) X) <| am_g (am_in (x3 + (2 : Int32)) X) <| (fm_thing (xs (x3 + (1 : Int32)).toNatClampNeg) (xs (x3 + (2 : Int32)).toNatClampNeg) q148.2).bind fun q151 => (if q148.1 = q151.1 then fx_law_1001_0_85_b1519 N X xs (fun x3 σ => fx_law_1001_0_85_b18 N X xs n x3 σ) x3 q151.2 else some ((0 : Int32), q151.2)) else (if ((xs x3.toNatClampNeg) &&& (63 : Int32)) = (19 : Int32) then am_g (am_in (x3 + (1 : Int32)) X) <| am_g (am_in (x3 + (2 : Int32)) X) <| (fx_as N (xs (x3 + (1 : Int32)).toNatClampNeg) (xs (x3 + (2 : Int32)).toNatClampNeg) σ).bind fun q156 => am_g (am_in (x3 + (1 : Int32)) X) <| am_g (am_in (x3 + (2 : Int32)) X) <| (fm_as (xs (x3 + (1 : Int32)).toNatClampNeg) (xs (x3 + (2 : Int32)).toNatClampNeg) q156.2).bind fun q159 => (if q156.1 = q159.1 then fx_law_1001_0_85_b1519 N X xs (fun x3 σ => fx_law_1001_0_85_b18 N X xs n x3 σ) x3 q159.2 else some ((0 : Int32), q159.2)) else (if ((xs x3.toNatClampNeg) &&& (63 : Int32)) = (20 : Int32) then am_g (am_in (x3 + (1 : Int32)) X) <| am_g (am_in (x3 + (2 : Int32)) X) <| (fx_tie N (xs (x3 + (1 : Int32)).toNatClampNeg) (xs (x3 + (2 : Int32)).toNatClampNeg) σ).bind fun q164 => am_g (am_in (x3 + (1 : Int32)) X) <| am_g (am_in (x3 + (2 : Int32)) X) <| (fm_tie (xs (x3 + (1 : Int32)).toNatClampNeg) (xs (x3 + (2 : Int32)).toNatClampNeg) q164.2).bind fun q167 => (if q164.1 = q167.1 then fx_law_1001_0_85_b1519 N X xs (fun x3 σ => fx_law_1001_0_85_b18 N X xs n x3 σ) x3 q167.2 else some ((0 : Int32), q167.2)) else (if ((xs x3.toNatClampNeg) &&& (63 : Int32)) = (21 : Int32) then am_g (am_in (x3 + (1 : Int32)) X) <| am_g (am_in (x3 + (2 : Int32)) X) <| (fx_part N (xs (x3 + (1 : Int32)).toNatClampNeg) (xs (x3 + (2 : Int32)).toNatClampNeg) σ).bind fun q172 => am_g (am_in (x3 + (1 : Int32)) X) <| am_g (am_in (x3 + (2 : Int32)) X) <| (fm_part (xs (x3 + (1 : Int32)).toNatClampNeg) (xs (x3 + (2 : Int32)).toNatClampNeg) q172.2).bind fun q175 => (if q172.1 = q175.1 then fx_law_1001_0_85_b1519 N X xs (fun x3 σ => fx_law_1001_0_85_b18 N X xs n x3 σ) x3 q175.2 else some ((0 : Int32), q175.2)) else (if ((xs x3.toNatClampNeg) &&& (63 : Int32)) = (22 : Int32) then am_g (am_in (x3 + (1 : Int32)) X) <| (fx_goes N (xs (x3 + (1 : Int32)).toNatClampNeg) σ).bind fun q179 => am_g (am_in (x3 + (1 : Int32)) X) <| (fm_goes N (xs (x3 + (1 : Int32)).toNatClampNeg) q179.2).bind fun q181 => (if q179.1 = q181.1 then fx_law_1001_0_85_b1519 N X xs (fun x3 σ => fx_law_1001_0_85_b18 N X xs n x3 σ) x3 q181.2 else some ((0 : Int32), q181.2)) else (if ((xs x3.toNatClampNeg) &&& (63 : Int32)) = (23 : Int32) then am_g (am_in (x3 + (1 : Int32)) X) <| (fx_rest N (xs (x3 + (1 : Int32)).toNatClampNeg) σ).bind fun q185 => am_g (am_in (x3 + (1 : Int32)) X) <| (fm_rest N (xs (x3 + (1 : Int32)).toNatClampNeg) q185.2).bind fun q187 => (if q185.1 = q187.1 then fx_law_1001_0_85_b1519 N X xs (fun x3 σ => fx_law_1001_0_85_b18 N X xs n x3 σ) x3 q187.2 else some ((0 : Int32), q187.2)) else (if ((xs x3.toNatClampNeg) &&& (63 : Int32)) = (24 : Int32) then am_g (am_in (x3 + (1 : Int32)) X) <| am_g (am_in (x3 + (2 : Int32)) X) <| (fx_hoard (xs (x3 + (1 : Int32)).toNatClampNeg) (xs (x3 + (2 : Int32)).toNatClampNeg) σ).bind fun q192 => am_g (am_in (x3 + (1 : Int32)) X) <| am_g (am_in (x3 + (2 : Int32)) X) <| (fm_hoard (xs (x3 + (1 : Int32)).toNatClampNeg) (xs (x3 + (2 : Int32)).toNatClampNeg) q192.2).bind fun q195 => (if q192.1 = q195.1 then fx_law_1001_0_85_b1519 N X xs (fun x3 σ => fx_law_1001_0_85_b18 N X xs n x3 σ) x3 q195.2 else some ((0 : Int32), q195.2)) else (if ((xs x3.toNatClampNeg) &&& (63 : Int32)) = (25 : Int32) then am_g (am_in (x3 + (1 : Int32)) X) <| am_g (am_in (x3 + (2 : Int32)) X) <| am_g (am_in (x3 + (3 : Int32)) X) <| (fx_week (xs (x3 + (1 : Int32)).toNatClampNeg) (xs (x3 + (2 : Int32)).toNatClampNeg) (xs (x3 + (3 : Int32)).toNatClampNeg) σ).bind fun q201 => am_g (am_in (x3 + (1 : Int32)) X) <| am_g (am_in (x3 + (2 : Int32)) X) <| am_g (am_in (x3 + (3 : Int32)) X) <| (fm_week (xs (x3 + (1 : Int32)).toNatClampNeg) (xs (x3 + (2 : Int32)).toNatClampNeg) (xs (x3 + (3 : Int32)).toNatClampNeg) q201.2).bind fun q205 => (if q201.1 = q205.1 then fx_law_1001_0_85_b1519 N X xs (fun x3 σ => fx_law_1001_0_85_b18 N X xs n x3 σ) x3 q205.2 else some ((0 : Int32), q205.2)) else (if ((xs x3.toNatClampNeg) &&& (63 : Int32)) = (26 : Int32) then am_g (am_in (x3 + (1 : Int32)) X) <| am_g (am_in (x3 + (2 : Int32)) X) <| (fx_stamp N (xs (x3 + (1 : Int32)).toNatClampNeg) (xs (x3 + (2 : Int32)).toNatClampNeg) σ).bind fun q210 => am_g (am_in (x3 + (1 : Int32)) X) <| am_g (am_in (x3 + (2 : Int32)) X) <| (fm_stamp N (xs (x3 + (1 : Int32)).toNatClampNeg) (xs (x3 + (2 : Int32)).toNatClampNeg) q210.2).bind fun q213 => (if q210.1 = q213.1 then fx_law_1001_0_85_b1519 N X xs (fun x3 σ => fx_law_1001_0_85_b18 N X xs n x3 σ) x3 q213.2 else some ((0 : Int32), q213.2)) else (if ((xs x3.toNatClampNeg) &&& (63 : Int32)) = (27 : Int32) then am_g (am_in (x3 + (1 : Int32)) X) <| am_g (am_in (x3 + (2 : Int32)) X) <| (fx_wagon (xs (x3 + (1 : Int32)).toNatClampNeg) (xs (x3 + (2 : Int32)).toNatClampNeg) σ).bind fun q218 => am_g (am_in (x3 + (1 : Int32)) X) <| am_g (am_in (x3 + (2 : Int32)) X) <| (fm_wagon (xs (x3 + (1 : Int32)).toNatClampNeg) (xs (x3 + (2 : Int32)).toNatClampNeg) q218.2).bind fun q221 => (if q218.1 = q221.1 then fx_law_1001_0_85_b1519 N X xs (fun x3 σ => fx_law_1001_0_85_b18 N X xs n x3 σ) x3 q221.2 else some ((0 : Int32), q221.2)) else (if ((xs x3.toNatClampNeg) &&& (63 : Int32)) = (28 : Int32) then am_g (am_in (x3 + (1 : Int32)) X) <| am_g (am_in (x3 + (2 : Int32)) X) <| (fx_send N X xs (xs (x3 + (1 : Int32)).toNatClampNeg) (xs (x3 + (2 : Int32)).toNatClampNeg) σ).bind fun q226 => am_g (am_in (x3 + (1 : Int32)) X) <| am_g (am_in (x3 + (2 : Int32)) X) <| (fm_send N (xs (x3 + (1 : Int32)).toNatClampNeg) (xs (x3 + (2 : Int32)).toNatClampNeg) q226.2).bind fun q229 => (if q226.1 = q229.1 then fx_law_1001_0_85_b1519 N X xs (fun x3 σ => fx_law_1001_0_85_b18 N X xs n x3 σ) x3 q229.2 else some ((0 : Int32), q229.2)) else (if ((xs x3.toNatClampNeg) &&& (63 : Int32)) = (29 : Int32) then am_g (am_in (x3 + (1 : Int32)) X) <| am_g (am_in (x3 + (2 : Int32)) X) <| (fx_where N X xs (xs (x3 + (1 : Int32)).toNatClampNeg) (xs (x3 + (2 : Int32)).toNatClampNeg) σ).bind fun q234 => am_g (am_in (x3 + (1 : Int32)) X) <| am_g (am_in (x3 + (2 : Int32)) X) <| (fm_where N (xs (x3 + (1 : Int32)).toNatClampNeg) (xs (x3 + (2 : Int32)).toNatClampNeg) q234.2).bind fun q237 => (if q234.1 = q237.1 then fx_law_1001_0_85_b1519 N X xs (fun x3 σ => fx_law_1001_0_85_b18 N X xs n x3 σ) x3 q237.2 else some ((0 : Int32), q237.2)) else (if ((xs x3.toNatClampNeg) &&& (63 : Int32)) = (30 : Int32) then am_g (am_in (x3 + (1 : Int32)) X) <| (fx_home N X xs (xs (x3 + (1 : Int32)).toNatClampNeg) σ).bind fun q241 => am_g (am_in (x3 + (1 : Int32)) X) <| (fm_home N (xs (x3 + (1 : Int32)).toNatClampNeg) q241.2).bind fun q243 => (if q241.1 = q243.1 then fx_law_1001_0_85_b1519 N X xs (fun x3 σ => fx_law_1001_0_85_b18 N X xs n x3 σ) x3 q243.2 else some ((0 : Int32), q243.2)) else (if ((xs x3.toNatClampNeg) &&& (63 : Int32)) = (31 : Int32) then am_g (am_in (x3 + (1 : Int32)) X) <| (fx_day (xs (x3 + (1 : Int32)).toNatClampNeg) σ).bind fun q247 => am_g (am_in (x3 + (1 : Int32)) X) <| (fm_day (xs (x3 + (1 : Int32)).toNatClampNeg) q247.2).bind fun q249 => (if q247.1 = q249.1 then fx_law_1001_0_85_b1519 N X xs (fun x3 σ => fx_law_1001_0_85_b18 N X xs n x3 σ) x3 q249.2 else some ((0 : Int32), q249.2)) else (if ((xs x3.toNatClampNeg) &&& (63 : Int32)) = (32 : Int32) then am_g (am_in (x3 + (1 : Int32)) X) <| am_g (am_in (x3 + (2 : Int32)) X) <| am_g (am_in (x3 + (3 : Int32)) X) <| am_g (am_in (x3 + (4 : Int32)) X) <| (fx_open N (xs (x3 + (1 : Int32)).toNatClampNeg) (xs (x3 + (2 : Int32)).toNatClampNeg) (xs (x3 + (3 : Int32)).toNatClampNeg) (xs (x3 + (4 : Int32)).toNatClampNeg) σ).bind fun q256 => am_g (am_in (x3 + (1 : Int32)) X) <| am_g (am_in (x3 + (2 : Int32)) X) <| am_g (am_in (x3 + (3 : Int32)) X) <| am_g (am_in (x3 + (4 : Int32)) X) <| (fm_open (xs (x3 + (1 : Int32)).toNatClampNeg) (xs (x3 + (2 : Int32)).toNatClampNeg) (xs (x3 + (3 : Int32)).toNatClampNeg) (xs (x3 + (4 : Int32)).toNatClampNeg) q256.2).bind fun q261 => (if q256.1 = q261.1 then fx_law_1001_0_85_b1519 N X xs (fun x3 σ => fx_law_1001_0_85_b18 N X xs n x3 σ) x3 q261.2 else some ((0 : Int32), q261.2)) else (if ((xs x3.toNatClampNeg) &&& (63 : Int32)) = (33 : Int32) then am_g (am_in (x3 + (1 : Int32)) X) <| (fx_copy N (xs (x3 + (1 : Int32)).toNatClampNeg) σ).bind fun q265 => am_g (am_in (x3 + (1 : Int32)) X) <| (fm_copy (xs (x3 + (1 : Int32)).toNatClampNeg) q265.2).bind fun q267 => (if q265.1 = q267.1 then fx_law_1001_0_85_b1519 N X xs (fun x3 σ => fx_law_1001_0_85_b18 N X xs n x3 σ) x3 q267.2 else some ((0 : Int32), q267.2)) else (if ((xs x3.toNatClampNeg) &&& (63 : Int32)) = (34 : Int32) then am_g (am_in (x3 + (1 : Int32)) X) <| (fx_court N (xs (x3 + (1 : Int32)).toNatClampNeg) σ).bind fun q271 => am_g (am_in (x3 + (1 : Int32)) X) <| (fm_court N (xs (x3 + (1 : Int32)).toNatClampNeg) q271.2).bind fun q273 => (if q271.1 = q273.1 then fx_law_1001_0_85_b1519 N X xs (fun x3 σ => fx_law_1001_0_85_b18 N X xs n x3 σ) x3 q273.2 else some ((0 : Int32), q273.2)) else (if ((xs x3.toNatClampNeg) &&& (63 : Int32)) = (35 : Int32) then am_g (am_in (x3 + (1 : Int32)) X) <| (fx_waits N (xs (x3 + (1 : Int32)).toNatClampNeg) σ).bind fun q277 => am_g (am_in (x3 + (1 : Int32)) X) <| (fm_waits N (xs (x3 + (1 : Int32)).toNatClampNeg) q277.2).bind fun q279 => (if q277.1 = q279.1 then fx_law_1001_0_85_b1519 N X xs (fun x3 σ => fx_law_1001_0_85_b18 N X xs n x3 σ) x3 q279.2 else some ((0 : Int32), q279.2)) else (if ((xs x3.toNatClampNeg) &&& (63 : Int32)) = (36 : Int32) then am_g (am_in (x3 + (1 : Int32)) X) <| (fx_task (xs (x3 + (1 : Int32)).toNatClampNeg) σ).bind fun q283 => am_g (am_in (x3 + (1 : Int32)) X) <| (fm_task (xs (x3 + (1 : Int32)).toNatClampNeg) q283.2).bind fun q285 => (if q283.1 = q285.1 then fx_law_1001_0_85_b1519 N X xs (fun x3 σ => fx_law_1001_0_85_b18 N X xs n x3 σ) x3 q285.2 else some ((0 : Int32), q285.2)) else (if ((xs x3.toNatClampNeg) &&& (63 : Int32)) = (37 : Int32) then am_g (am_in (x3 + (1 : Int32)) X) <| am_g (am_in (x3 + (2 : Int32)) X) <| (fx_ahead (xs (x3 + (1 : Int32)).toNatClampNeg) (xs (x3 + (2 : Int32)).toNatClampNeg) σ).bind fun q290 => am_g (am_in (x3 + (1 : Int32)) X) <| am_g (am_in (x3 + (2 : Int32)) X) <| (fm_ahead (xs (x3 + (1 : Int32)).toNatClampNeg) (xs (x3 + (2 : Int32)).toNatClampNeg) q290.2).bind fun q293 => (if q290.1 = q293.1 then fx_law_1001_0_85_b1519 N X xs (fun x3 σ => fx_law_1001_0_85_b18 N X xs n x3 σ) x3 q293.2 else some ((0 : Int32), q293.2)) else (if ((xs x3.toNatClampNeg) &&& (63 : Int32)) = (38 : Int32) then am_g (am_in (x3 + (1 : Int32)) X) <| (fx_best N (xs (x3 + (1 : Int32)).toNatClampNeg) σ).bind fun q297 => am_g (am_in (x3 + (1 : Int32)) X) <| (fm_best N (xs (x3 + (1 : Int32)).toNatClampNeg) q297.2).bind fun q299 => (if q297.1 = q299.1 then fx_law_1001_0_85_b1519 N X xs (fun x3 σ => fx_law_1001_0_85_b18 N X xs n x3 σ) x3 q299.2 else some ((0 : Int32), q299.2)) else (if ((xs x3.toNatClampNeg) &&& (63 : Int32)) = (39 : Int32) then am_g (am_in (x3 + (1 : Int32)) X) <| (fx_tell (xs (x3 + (1 : Int32)).toNatClampNeg) σ).bind fun q303 => am_g (am_in (x3 + (1 : Int32)) X) <| (fm_tell (xs (x3 + (1 : Int32)).toNatClampNeg) q303.2).bind fun q305 => (if q303.1 = q305.1 then fx_law_1001_0_85_b1519 N X xs (fun x3 σ => fx_law_1001_0_85_b18 N X xs n x3 σ) x3 q305.2 else some ((0 : Int32), q305.2)) else (if ((xs x3.toNatClampNeg) &&& (63 : Int32)) = (40 : Int32) then (fx_check N σ).bind fun q308 => (fm_check N q308.2).bind fun q309 => (if q308.1 = q309.1 then fx_law_1001_0_85_b1519 N X xs (fun x3 σ => fx_law_1001_0_85_b18 N X xs n x3 σ) x3 q309.2 else some ((0 : Int32), q309.2)) else (if ((xs x3.toNatClampNeg) &&& (63 : Int32)) = (41 : Int32) then am_g (am_in (x3 + (1 : Int32)) X) <| (fx_count N (xs (x3 + (1 : Int32)).toNatClampNeg) σ).bind fun q313 => am_g (am_in (x3 + (1 : Int32)) X) <| (fm_count N (xs (x3 + (1 : Int32)).toNatClampNeg) q313.2).bind fun q315 => (if q313.1 = q315.1 then fx_law_1001_0_85_b1519 N X xs (fun x3 σ => fx_law_1001_0_85_b18 N X xs n x3 σ) x3 q315.2 else some ((0 : Int32), q315.2)) else (if ((xs x3.toNatClampNeg) &&& (63 : Int32)) = (42 : Int32) then am_g (am_in (x3 + (1 : Int32)) X) <| (fx_found (xs (x3 + (1 : Int32)).toNatClampNeg) σ).bind fun q319 => am_g (am_in (x3 + (1 : Int32)) X) <| (fm_found (xs (x3 + (1 : Int32)).toNatClampNeg) q319.2).bind fun q321 => (if q319.1 = q321.1 then fx_law_1001_0_85_b1519 N X xs (fun x3 σ => fx_law_1001_0_85_b18 N X xs n x3 σ) x3 q321.2 else some ((0 : Int32), q321.2)) else fx_law_1001_0_85_b1519 N X xs (fun x3 σ => fx_law_1001_0_85_b18 N X xs n x3 σ) x3 σ))))))))))))))))))))))))))))))))))))))))))))
set_option maxRecDepth 100000 in
theorem fx_law_1001_0_85_b18_e {X : Nat} {xs : Nat → Int32} {d : Nat} {N : Nat} : ∀ {n : Nat} {x3 : Int32} {σ : am_S} {o : Int32 × am_S}, fx_law_1001_0_85_b18 N X xs n x3 σ = some o → am_Ev am_sh (am_exx X xs) (d + 7) mm_219 18 [.ref 1001, .ref 0, .ref 85, .int x3] [] σ (some (.int o.1)) o.2 := by
  intro n
  induction n with
  | zero => intro x3 σ o h; cases h
  | succ n ih =>
    intro x3 σ o h
    unfold fx_law_1001_0_85_b18 at h
    refine ev_iload_n (pc' := 19) rfl rfl rfl ?_
    refine ev_aload_n (pc' := 20) rfl rfl rfl ?_
    refine ev_arraylength (pc' := 21) (b := (Int32.ofNat X)) rfl rfl rfl rfl ?_
    refine ev_iconst (pc' := 22) (b := (5 : Int32)) rfl rfl rfl ?_
    refine ev_isub (pc' := 23) rfl rfl ?_
    rcases am_if h with ⟨hc1, h⟩ | ⟨hc1, h⟩
    · refine ev_ic_t (pc' := 1525) rfl rfl (cb_gt_t hc1) ?_
      refine ev_iconst (pc' := 1526) (b := (1 : Int32)) rfl rfl rfl ?_
      obtain rfl := Option.some.inj h
      exact ev_zreturn rfl rfl rfl
    · refine ev_ic_f (pc' := 26) rfl (by decide) rfl (cb_gt_f hc1) ?_
      refine ev_aload_n (pc' := 27) rfl rfl rfl ?_
      refine ev_iload_n (pc' := 28) rfl rfl rfl ?_
      obtain ⟨hg2, h⟩ := am_g_some h
      refine ev_iaload_x (pc' := 29) rfl rfl rfl rfl hg2 ?_
      refine ev_bipush (pc' := 31) (b := (63 : Int32)) rfl rfl rfl ?_
      refine ev_iand (pc' := 32) rfl rfl ?_
      rcases am_if h with ⟨hc3, h⟩ | ⟨hc3, h⟩
      · refine ev_tsw (pc' := 220) (off := 188) rfl (by rw [hc3]; decide +kernel) (by rw [hc3]; decide +kernel) rfl ?_
        refine ev_aload_n (pc' := 221) rfl rfl rfl ?_
        refine ev_aload_n (pc' := 222) rfl rfl rfl ?_
        refine ev_iload_n (pc' := 223) rfl rfl rfl ?_
        refine ev_iconst (pc' := 224) (b := (1 : Int32)) rfl rfl rfl ?_
        refine ev_iadd (pc' := 225) rfl rfl ?_
        obtain ⟨hg4, h⟩ := am_g_some h
        refine ev_iaload_x (pc' := 226) rfl rfl rfl rfl hg4 ?_
        refine ev_aload_n (pc' := 227) rfl rfl rfl ?_
        refine ev_iload_n (pc' := 228) rfl rfl rfl ?_
        refine ev_iconst (pc' := 229) (b := (2 : Int32)) rfl rfl rfl ?_
        refine ev_iadd (pc' := 230) rfl rfl ?_
        obtain ⟨hg5, h⟩ := am_g_some h
        refine ev_iaload_x (pc' := 231) rfl rfl rfl rfl hg5 ?_
        refine am_bd h (fun q6 hq6 h => ?_)
        refine ev_call (mi := 112) (as := [.ref 0, .int (xs (x3 + (1 : Int32)).toNatClampNeg), .int (xs (x3 + (2 : Int32)).toNatClampNeg)]) (rest := []) rfl rfl (Nat.le_of_ble_eq_true rfl) (fx_parish_e (d := d + 5) hq6) ?_
        show am_Ev _ _ _ _ 234 _ _ _ _ _
        refine ev_aload_n (pc' := 235) rfl rfl rfl ?_
        refine ev_aload_n (pc' := 236) rfl rfl rfl ?_
        refine ev_iload_n (pc' := 237) rfl rfl rfl ?_
        refine ev_iconst (pc' := 238) (b := (1 : Int32)) rfl rfl rfl ?_
        refine ev_iadd (pc' := 239) rfl rfl ?_
        obtain ⟨hg7, h⟩ := am_g_some h
        refine ev_iaload_x (pc' := 240) rfl rfl rfl rfl hg7 ?_
        refine ev_aload_n (pc' := 241) rfl rfl rfl ?_
        refine ev_iload_n (pc' := 242) rfl rfl rfl ?_
        refine ev_iconst (pc' := 243) (b := (2 : Int32)) rfl rfl rfl ?_
        refine ev_iadd (pc' := 244) rfl rfl ?_
        obtain ⟨hg8, h⟩ := am_g_some h
        refine ev_iaload_x (pc' := 245) rfl rfl rfl rfl hg8 ?_
        refine am_bd h (fun q9 hq9 h => ?_)
        refine ev_call (mi := 214) (as := [.ref 85, .int (xs (x3 + (1 : Int32)).toNatClampNeg), .int (xs (x3 + (2 : Int32)).toNatClampNeg)]) (rest := [.int q6.1]) rfl rfl (Nat.le_of_ble_eq_true rfl) (fm_parish_e (d := d + 5) hq9) ?_
        show am_Ev _ _ _ _ 248 _ _ _ _ _
        rcases am_if h with ⟨hc10, h⟩ | ⟨hc10, h⟩
        · refine ev_ic_t (pc' := 1519) rfl rfl (cb_eq_t hc10) ?_
          exact fx_law_1001_0_85_b1519_e (hk18 := fun h => ih h) h
        · refine ev_ic_f (pc' := 251) rfl (by decide) rfl (cb_eq_f hc10) ?_
          refine ev_iconst (pc' := 252) (b := (0 : Int32)) rfl rfl rfl ?_
          obtain rfl := Option.some.inj h
          exact ev_zreturn rfl rfl rfl
      rcases am_if h with ⟨hc11, h⟩ | ⟨hc11, h⟩
      · refine ev_tsw (pc' := 253) (off := 221) rfl (by rw [hc11]; decide +kernel) (by rw [hc11]; decide +kernel) rfl ?_
        refine ev_aload_n (pc' := 254) rfl rfl rfl ?_
        refine ev_aload_n (pc' := 255) rfl rfl rfl ?_
        refine ev_iload_n (pc' := 256) rfl rfl rfl ?_
        refine ev_iconst (pc' := 257) (b := (1 : Int32)) rfl rfl rfl ?_
        refine ev_iadd (pc' := 258) rfl rfl ?_
        obtain ⟨hg12, h⟩ := am_g_some h
        refine ev_iaload_x (pc' := 259) rfl rfl rfl rfl hg12 ?_
        refine ev_aload_n (pc' := 260) rfl rfl rfl ?_
        refine ev_iload_n (pc' := 261) rfl rfl rfl ?_
        refine ev_iconst (pc' := 262) (b := (2 : Int32)) rfl rfl rfl ?_
        refine ev_iadd (pc' := 263) rfl rfl ?_
        obtain ⟨hg13, h⟩ := am_g_some h
        refine ev_iaload_x (pc' := 264) rfl rfl rfl rfl hg13 ?_
        refine ev_aload_n (pc' := 265) rfl rfl rfl ?_
        refine ev_iload_n (pc' := 266) rfl rfl rfl ?_
        refine ev_iconst (pc' := 267) (b := (3 : Int32)) rfl rfl rfl ?_
        refine ev_iadd (pc' := 268) rfl rfl ?_
        obtain ⟨hg14, h⟩ := am_g_some h
        refine ev_iaload_x (pc' := 269) rfl rfl rfl rfl hg14 ?_
        refine ev_aload_n (pc' := 270) rfl rfl rfl ?_
        refine ev_iload_n (pc' := 271) rfl rfl rfl ?_
        refine ev_iconst (pc' := 272) (b := (4 : Int32)) rfl rfl rfl ?_
        refine ev_iadd (pc' := 273) rfl rfl ?_
        obtain ⟨hg15, h⟩ := am_g_some h
        refine ev_iaload_x (pc' := 274) rfl rfl rfl rfl hg15 ?_
        refine am_bd h (fun q16 hq16 h => ?_)
        refine ev_call (mi := 123) (as := [.ref 0, .int (xs (x3 + (1 : Int32)).toNatClampNeg), .int (xs (x3 + (2 : Int32)).toNatClampNeg), .int (xs (x3 + (3 : Int32)).toNatClampNeg), .int (xs (x3 + (4 : Int32)).toNatClampNeg)]) (rest := []) rfl rfl (Nat.le_of_ble_eq_true rfl) (fx_edge_e (d := d + 5) hq16) ?_
        show am_Ev _ _ _ _ 277 _ _ _ _ _
        refine ev_aload_n (pc' := 278) rfl rfl rfl ?_
        refine ev_aload_n (pc' := 279) rfl rfl rfl ?_
        refine ev_iload_n (pc' := 280) rfl rfl rfl ?_
        refine ev_iconst (pc' := 281) (b := (1 : Int32)) rfl rfl rfl ?_
        refine ev_iadd (pc' := 282) rfl rfl ?_
        obtain ⟨hg17, h⟩ := am_g_some h
        refine ev_iaload_x (pc' := 283) rfl rfl rfl rfl hg17 ?_
        refine ev_aload_n (pc' := 284) rfl rfl rfl ?_
        refine ev_iload_n (pc' := 285) rfl rfl rfl ?_
        refine ev_iconst (pc' := 286) (b := (2 : Int32)) rfl rfl rfl ?_
        refine ev_iadd (pc' := 287) rfl rfl ?_
        obtain ⟨hg18, h⟩ := am_g_some h
        refine ev_iaload_x (pc' := 288) rfl rfl rfl rfl hg18 ?_
        refine ev_aload_n (pc' := 289) rfl rfl rfl ?_
        refine ev_iload_n (pc' := 290) rfl rfl rfl ?_
        refine ev_iconst (pc' := 291) (b := (3 : Int32)) rfl rfl rfl ?_
        refine ev_iadd (pc' := 292) rfl rfl ?_
        obtain ⟨hg19, h⟩ := am_g_some h
        refine ev_iaload_x (pc' := 293) rfl rfl rfl rfl hg19 ?_
        refine ev_aload_n (pc' := 294) rfl rfl rfl ?_
        refine ev_iload_n (pc' := 295) rfl rfl rfl ?_
        refine ev_iconst (pc' := 296) (b := (4 : Int32)) rfl rfl rfl ?_
        refine ev_iadd (pc' := 297) rfl rfl ?_
        obtain ⟨hg20, h⟩ := am_g_some h
        refine ev_iaload_x (pc' := 298) rfl rfl rfl rfl hg20 ?_
        refine am_bd h (fun q21 hq21 h => ?_)
        refine ev_call (mi := 215) (as := [.ref 85, .int (xs (x3 + (1 : Int32)).toNatClampNeg), .int (xs (x3 + (2 : Int32)).toNatClampNeg), .int (xs (x3 + (3 : Int32)).toNatClampNeg), .int (xs (x3 + (4 : Int32)).toNatClampNeg)]) (rest := [.int q16.1]) rfl rfl (Nat.le_of_ble_eq_true rfl) (fm_edge_e (d := d + 5) hq21) ?_
        show am_Ev _ _ _ _ 301 _ _ _ _ _
        rcases am_if h with ⟨hc22, h⟩ | ⟨hc22, h⟩
        · refine ev_ic_t (pc' := 1519) rfl rfl (cb_eq_t hc22) ?_
          exact fx_law_1001_0_85_b1519_e (hk18 := fun h => ih h) h
        · refine ev_ic_f (pc' := 304) rfl (by decide) rfl (cb_eq_f hc22) ?_
          refine ev_iconst (pc' := 305) (b := (0 : Int32)) rfl rfl rfl ?_
          obtain rfl := Option.some.inj h
          exact ev_zreturn rfl rfl rfl
      rcases am_if h with ⟨hc23, h⟩ | ⟨hc23, h⟩
      · refine ev_tsw (pc' := 306) (off := 274) rfl (by rw [hc23]; decide +kernel) (by rw [hc23]; decide +kernel) rfl ?_
        refine ev_aload_n (pc' := 307) rfl rfl rfl ?_
        refine ev_aload_n (pc' := 308) rfl rfl rfl ?_
        refine ev_iload_n (pc' := 309) rfl rfl rfl ?_
        refine ev_iconst (pc' := 310) (b := (1 : Int32)) rfl rfl rfl ?_
        refine ev_iadd (pc' := 311) rfl rfl ?_
        obtain ⟨hg24, h⟩ := am_g_some h
        refine ev_iaload_x (pc' := 312) rfl rfl rfl rfl hg24 ?_
        refine ev_aload_n (pc' := 313) rfl rfl rfl ?_
        refine ev_iload_n (pc' := 314) rfl rfl rfl ?_
        refine ev_iconst (pc' := 315) (b := (2 : Int32)) rfl rfl rfl ?_
        refine ev_iadd (pc' := 316) rfl rfl ?_
        obtain ⟨hg25, h⟩ := am_g_some h
        refine ev_iaload_x (pc' := 317) rfl rfl rfl rfl hg25 ?_
        refine am_bd h (fun q26 hq26 h => ?_)
        refine ev_call (mi := 133) (as := [.ref 0, .int (xs (x3 + (1 : Int32)).toNatClampNeg), .int (xs (x3 + (2 : Int32)).toNatClampNeg)]) (rest := []) rfl rfl (Nat.le_of_ble_eq_true rfl) (fx_peg_e (d := d + 5) hq26) ?_
        show am_Ev _ _ _ _ 320 _ _ _ _ _
        refine ev_aload_n (pc' := 321) rfl rfl rfl ?_
        refine ev_aload_n (pc' := 322) rfl rfl rfl ?_
        refine ev_iload_n (pc' := 323) rfl rfl rfl ?_
        refine ev_iconst (pc' := 324) (b := (1 : Int32)) rfl rfl rfl ?_
        refine ev_iadd (pc' := 325) rfl rfl ?_
        obtain ⟨hg27, h⟩ := am_g_some h
        refine ev_iaload_x (pc' := 326) rfl rfl rfl rfl hg27 ?_
        refine ev_aload_n (pc' := 327) rfl rfl rfl ?_
        refine ev_iload_n (pc' := 328) rfl rfl rfl ?_
        refine ev_iconst (pc' := 329) (b := (2 : Int32)) rfl rfl rfl ?_
        refine ev_iadd (pc' := 330) rfl rfl ?_
        obtain ⟨hg28, h⟩ := am_g_some h
        refine ev_iaload_x (pc' := 331) rfl rfl rfl rfl hg28 ?_
        refine am_bd h (fun q29 hq29 h => ?_)
        refine ev_call (mi := 139) (as := [.ref 85, .int (xs (x3 + (1 : Int32)).toNatClampNeg), .int (xs (x3 + (2 : Int32)).toNatClampNeg)]) (rest := [.int q26.1]) rfl rfl (Nat.le_of_ble_eq_true rfl) (fm_peg_e (d := d + 5) hq29) ?_
        show am_Ev _ _ _ _ 334 _ _ _ _ _
        rcases am_if h with ⟨hc30, h⟩ | ⟨hc30, h⟩
        · refine ev_ic_t (pc' := 1519) rfl rfl (cb_eq_t hc30) ?_
          exact fx_law_1001_0_85_b1519_e (hk18 := fun h => ih h) h
        · refine ev_ic_f (pc' := 337) rfl (by decide) rfl (cb_eq_f hc30) ?_
          refine ev_iconst (pc' := 338) (b := (0 : Int32)) rfl rfl rfl ?_
          obtain rfl := Option.some.inj h
          exact ev_zreturn rfl rfl rfl
      rcases am_if h with ⟨hc31, h⟩ | ⟨hc31, h⟩
      · refine ev_tsw (pc' := 339) (off := 307) rfl (by rw [hc31]; decide +kernel) (by rw [hc31]; decide +kernel) rfl ?_
        refine ev_aload_n (pc' := 340) rfl rfl rfl ?_
        refine ev_aload_n (pc' := 341) rfl rfl rfl ?_
        refine ev_iload_n (pc' := 342) rfl rfl rfl ?_
        refine ev_iconst (pc' := 343) (b := (1 : Int32)) rfl rfl rfl ?_
        refine ev_iadd (pc' := 344) rfl rfl ?_
        obtain ⟨hg32, h⟩ := am_g_some h
        refine ev_iaload_x (pc' := 345) rfl rfl rfl rfl hg32 ?_
        refine ev_aload_n (pc' := 346) rfl rfl rfl ?_
        refine ev_iload_n (pc' := 347) rfl rfl rfl ?_
        refine ev_iconst (pc' := 348) (b := (2 : Int32)) rfl rfl rfl ?_
        refine ev_iadd (pc' := 349) rfl rfl ?_
        obtain ⟨hg33, h⟩ := am_g_some h
        refine ev_iaload_x (pc' := 350) rfl rfl rfl rfl hg33 ?_
        refine am_bd h (fun q34 hq34 h => ?_)
        refine ev_call (mi := 134) (as := [.ref 0, .int (xs (x3 + (1 : Int32)).toNatClampNeg), .int (xs (x3 + (2 : Int32)).toNatClampNeg)]) (rest := []) rfl rfl (Nat.le_of_ble_eq_true rfl) (fx_settle_e (d := d + 5) hq34) ?_
        show am_Ev _ _ _ _ 353 _ _ _ _ _
        refine ev_aload_n (pc' := 354) rfl rfl rfl ?_
        refine ev_aload_n (pc' := 355) rfl rfl rfl ?_
        refine ev_iload_n (pc' := 356) rfl rfl rfl ?_
        refine ev_iconst (pc' := 357) (b := (1 : Int32)) rfl rfl rfl ?_
        refine ev_iadd (pc' := 358) rfl rfl ?_
        obtain ⟨hg35, h⟩ := am_g_some h
        refine ev_iaload_x (pc' := 359) rfl rfl rfl rfl hg35 ?_
        refine ev_aload_n (pc' := 360) rfl rfl rfl ?_
        refine ev_iload_n (pc' := 361) rfl rfl rfl ?_
        refine ev_iconst (pc' := 362) (b := (2 : Int32)) rfl rfl rfl ?_
        refine ev_iadd (pc' := 363) rfl rfl ?_
        obtain ⟨hg36, h⟩ := am_g_some h
        refine ev_iaload_x (pc' := 364) rfl rfl rfl rfl hg36 ?_
        refine am_bd h (fun q37 hq37 h => ?_)
        refine ev_call (mi := 140) (as := [.ref 85, .int (xs (x3 + (1 : Int32)).toNatClampNeg), .int (xs (x3 + (2 : Int32)).toNatClampNeg)]) (rest := [.int q34.1]) rfl rfl (Nat.le_of_ble_eq_true rfl) (fm_settle_e (d := d + 5) hq37) ?_
        show am_Ev _ _ _ _ 367 _ _ _ _ _
        rcases am_if h with ⟨hc38, h⟩ | ⟨hc38, h⟩
        · refine ev_ic_t (pc' := 1519) rfl rfl (cb_eq_t hc38) ?_
          exact fx_law_1001_0_85_b1519_e (hk18 := fun h => ih h) h
        · refine ev_ic_f (pc' := 370) rfl (by decide) rfl (cb_eq_f hc38) ?_
          refine ev_iconst (pc' := 371) (b := (0 : Int32)) rfl rfl rfl ?_
          obtain rfl := Option.some.inj h
          exact ev_zreturn rfl rfl rfl
      rcases am_if h with ⟨hc39, h⟩ | ⟨hc39, h⟩
      · refine ev_tsw (pc' := 372) (off := 340) rfl (by rw [hc39]; decide +kernel) (by rw [hc39]; decide +kernel) rfl ?_
        refine ev_aload_n (pc' := 373) rfl rfl rfl ?_
        refine ev_aload_n (pc' := 374) rfl rfl rfl ?_
        refine ev_iload_n (pc' := 375) rfl rfl rfl ?_
        refine ev_iconst (pc' := 376) (b := (1 : Int32)) rfl rfl rfl ?_
        refine ev_iadd (pc' := 377) rfl rfl ?_
        obtain ⟨hg40, h⟩ := am_g_some h
        refine ev_iaload_x (pc' := 378) rfl rfl rfl rfl hg40 ?_
        refine ev_aload_n (pc' := 379) rfl rfl rfl ?_
        refine ev_iload_n (pc' := 380) rfl rfl rfl ?_
        refine ev_iconst (pc' := 381) (b := (2 : Int32)) rfl rfl rfl ?_
        refine ev_iadd (pc' := 382) rfl rfl ?_
        obtain ⟨hg41, h⟩ := am_g_some h
        refine ev_iaload_x (pc' := 383) rfl rfl rfl rfl hg41 ?_
        refine am_bd h (fun q42 hq42 h => ?_)
        refine ev_call (mi := 135) (as := [.ref 0, .int (xs (x3 + (1 : Int32)).toNatClampNeg), .int (xs (x3 + (2 : Int32)).toNatClampNeg)]) (rest := []) rfl rfl (Nat.le_of_ble_eq_true rfl) (fx_seat_e (d := d + 5) hq42) ?_
        show am_Ev _ _ _ _ 386 _ _ _ _ _
        refine ev_aload_n (pc' := 387) rfl rfl rfl ?_
        refine ev_aload_n (pc' := 388) rfl rfl rfl ?_
        refine ev_iload_n (pc' := 389) rfl rfl rfl ?_
        refine ev_iconst (pc' := 390) (b := (1 : Int32)) rfl rfl rfl ?_
        refine ev_iadd (pc' := 391) rfl rfl ?_
        obtain ⟨hg43, h⟩ := am_g_some h
        refine ev_iaload_x (pc' := 392) rfl rfl rfl rfl hg43 ?_
        refine ev_aload_n (pc' := 393) rfl rfl rfl ?_
        refine ev_iload_n (pc' := 394) rfl rfl rfl ?_
        refine ev_iconst (pc' := 395) (b := (2 : Int32)) rfl rfl rfl ?_
        refine ev_iadd (pc' := 396) rfl rfl ?_
        obtain ⟨hg44, h⟩ := am_g_some h
        refine ev_iaload_x (pc' := 397) rfl rfl rfl rfl hg44 ?_
        refine am_bd h (fun q45 hq45 h => ?_)
        refine ev_call (mi := 141) (as := [.ref 85, .int (xs (x3 + (1 : Int32)).toNatClampNeg), .int (xs (x3 + (2 : Int32)).toNatClampNeg)]) (rest := [.int q42.1]) rfl rfl (Nat.le_of_ble_eq_true rfl) (fm_seat_e (d := d + 5) hq45) ?_
        show am_Ev _ _ _ _ 400 _ _ _ _ _
        rcases am_if h with ⟨hc46, h⟩ | ⟨hc46, h⟩
        · refine ev_ic_t (pc' := 1519) rfl rfl (cb_eq_t hc46) ?_
          exact fx_law_1001_0_85_b1519_e (hk18 := fun h => ih h) h
        · refine ev_ic_f (pc' := 403) rfl (by decide) rfl (cb_eq_f hc46) ?_
          refine ev_iconst (pc' := 404) (b := (0 : Int32)) rfl rfl rfl ?_
          obtain rfl := Option.some.inj h
          exact ev_zreturn rfl rfl rfl
      rcases am_if h with ⟨hc47, h⟩ | ⟨hc47, h⟩
      · refine ev_tsw (pc' := 405) (off := 373) rfl (by rw [hc47]; decide +kernel) (by rw [hc47]; decide +kernel) rfl ?_
        refine ev_aload_n (pc' := 406) rfl rfl rfl ?_
        refine ev_aload_n (pc' := 407) rfl rfl rfl ?_
        refine ev_iload_n (pc' := 408) rfl rfl rfl ?_
        refine ev_iconst (pc' := 409) (b := (1 : Int32)) rfl rfl rfl ?_
        refine ev_iadd (pc' := 410) rfl rfl ?_
        obtain ⟨hg48, h⟩ := am_g_some h
        refine ev_iaload_x (pc' := 411) rfl rfl rfl rfl hg48 ?_
        refine am_bd h (fun q49 hq49 h => ?_)
        refine ev_call (mi := 136) (as := [.ref 0, .int (xs (x3 + (1 : Int32)).toNatClampNeg)]) (rest := []) rfl rfl (Nat.le_of_ble_eq_true rfl) (fx_side_e (d := d + 3) hq49) ?_
        show am_Ev _ _ _ _ 414 _ _ _ _ _
        refine ev_aload_n (pc' := 415) rfl rfl rfl ?_
        refine ev_aload_n (pc' := 416) rfl rfl rfl ?_
        refine ev_iload_n (pc' := 417) rfl rfl rfl ?_
        refine ev_iconst (pc' := 418) (b := (1 : Int32)) rfl rfl rfl ?_
        refine ev_iadd (pc' := 419) rfl rfl ?_
        obtain ⟨hg50, h⟩ := am_g_some h
        refine ev_iaload_x (pc' := 420) rfl rfl rfl rfl hg50 ?_
        refine am_bd h (fun q51 hq51 h => ?_)
        refine ev_call (mi := 144) (as := [.ref 85, .int (xs (x3 + (1 : Int32)).toNatClampNeg)]) (rest := [.int q49.1]) rfl rfl (Nat.le_of_ble_eq_true rfl) (fm_side_e (d := d + 4) hq51) ?_
        show am_Ev _ _ _ _ 423 _ _ _ _ _
        rcases am_if h with ⟨hc52, h⟩ | ⟨hc52, h⟩
        · refine ev_ic_t (pc' := 1519) rfl rfl (cb_eq_t hc52) ?_
          exact fx_law_1001_0_85_b1519_e (hk18 := fun h => ih h) h
        · refine ev_ic_f (pc' := 426) rfl (by decide) rfl (cb_eq_f hc52) ?_
          refine ev_iconst (pc' := 427) (b := (0 : Int32)) rfl rfl rfl ?_
          obtain rfl := Option.some.inj h
          exact ev_zreturn rfl rfl rfl
      rcases am_if h with ⟨hc53, h⟩ | ⟨hc53, h⟩
      · refine ev_tsw (pc' := 428) (off := 396) rfl (by rw [hc53]; decide +kernel) (by rw [hc53]; decide +kernel) rfl ?_
        refine ev_aload_n (pc' := 429) rfl rfl rfl ?_
        refine ev_aload_n (pc' := 430) rfl rfl rfl ?_
        refine ev_iload_n (pc' := 431) rfl rfl rfl ?_
        refine ev_iconst (pc' := 432) (b := (1 : Int32)) rfl rfl rfl ?_
        refine ev_iadd (pc' := 433) rfl rfl ?_
        obtain ⟨hg54, h⟩ := am_g_some h
        refine ev_iaload_x (pc' := 434) rfl rfl rfl rfl hg54 ?_
        refine am_bd h (fun q55 hq55 h => ?_)
        refine ev_call (mi := 137) (as := [.ref 0, .int (xs (x3 + (1 : Int32)).toNatClampNeg)]) (rest := []) rfl rfl (Nat.le_of_ble_eq_true rfl) (fx_enclave_e (d := d + 1) hq55) ?_
        show am_Ev _ _ _ _ 437 _ _ _ _ _
        refine ev_aload_n (pc' := 438) rfl rfl rfl ?_
        refine ev_aload_n (pc' := 439) rfl rfl rfl ?_
        refine ev_iload_n (pc' := 440) rfl rfl rfl ?_
        refine ev_iconst (pc' := 441) (b := (1 : Int32)) rfl rfl rfl ?_
        refine ev_iadd (pc' := 442) rfl rfl ?_
        obtain ⟨hg56, h⟩ := am_g_some h
        refine ev_iaload_x (pc' := 443) rfl rfl rfl rfl hg56 ?_
        refine am_bd h (fun q57 hq57 h => ?_)
        refine ev_call (mi := 146) (as := [.ref 85, .int (xs (x3 + (1 : Int32)).toNatClampNeg)]) (rest := [.int q55.1]) rfl rfl (Nat.le_of_ble_eq_true rfl) (fm_enclave_e (d := d + 3) hq57) ?_
        show am_Ev _ _ _ _ 446 _ _ _ _ _
        rcases am_if h with ⟨hc58, h⟩ | ⟨hc58, h⟩
        · refine ev_ic_t (pc' := 1519) rfl rfl (cb_eq_t hc58) ?_
          exact fx_law_1001_0_85_b1519_e (hk18 := fun h => ih h) h
        · refine ev_ic_f (pc' := 449) rfl (by decide) rfl (cb_eq_f hc58) ?_
          refine ev_iconst (pc' := 450) (b := (0 : Int32)) rfl rfl rfl ?_
          obtain rfl := Option.some.inj h
          exact ev_zreturn rfl rfl rfl
      rcases am_if h with ⟨hc59, h⟩ | ⟨hc59, h⟩
      · refine ev_tsw (pc' := 451) (off := 419) rfl (by rw [hc59]; decide +kernel) (by rw [hc59]; decide +kernel) rfl ?_
        refine ev_aload_n (pc' := 452) rfl rfl rfl ?_
        refine ev_aload_n (pc' := 453) rfl rfl rfl ?_
        refine ev_iload_n (pc' := 454) rfl rfl rfl ?_
        refine ev_iconst (pc' := 455) (b := (1 : Int32)) rfl rfl rfl ?_
        refine ev_iadd (pc' := 456) rfl rfl ?_
        obtain ⟨hg60, h⟩ := am_g_some h
        refine ev_iaload_x (pc' := 457) rfl rfl rfl rfl hg60 ?_
        refine ev_aload_n (pc' := 458) rfl rfl rfl ?_
        refine ev_iload_n (pc' := 459) rfl rfl rfl ?_
        refine ev_iconst (pc' := 460) (b := (2 : Int32)) rfl rfl rfl ?_
        refine ev_iadd (pc' := 461) rfl rfl ?_
        obtain ⟨hg61, h⟩ := am_g_some h
        refine ev_iaload_x (pc' := 462) rfl rfl rfl rfl hg61 ?_
        refine ev_aload_n (pc' := 463) rfl rfl rfl ?_
        refine ev_iload_n (pc' := 464) rfl rfl rfl ?_
        refine ev_iconst (pc' := 465) (b := (3 : Int32)) rfl rfl rfl ?_
        refine ev_iadd (pc' := 466) rfl rfl ?_
        obtain ⟨hg62, h⟩ := am_g_some h
        refine ev_iaload_x (pc' := 467) rfl rfl rfl rfl hg62 ?_
        refine am_bd h (fun q63 hq63 h => ?_)
        refine ev_call (mi := 138) (as := [.ref 0, .int (xs (x3 + (1 : Int32)).toNatClampNeg), .int (xs (x3 + (2 : Int32)).toNatClampNeg), .int (xs (x3 + (3 : Int32)).toNatClampNeg)]) (rest := []) rfl rfl (Nat.le_of_ble_eq_true rfl) (fx_far_e (d := d + 4) hq63) ?_
        show am_Ev _ _ _ _ 470 _ _ _ _ _
        refine ev_aload_n (pc' := 471) rfl rfl rfl ?_
        refine ev_aload_n (pc' := 472) rfl rfl rfl ?_
        refine ev_iload_n (pc' := 473) rfl rfl rfl ?_
        refine ev_iconst (pc' := 474) (b := (1 : Int32)) rfl rfl rfl ?_
        refine ev_iadd (pc' := 475) rfl rfl ?_
        obtain ⟨hg64, h⟩ := am_g_some h
        refine ev_iaload_x (pc' := 476) rfl rfl rfl rfl hg64 ?_
        refine ev_aload_n (pc' := 477) rfl rfl rfl ?_
        refine ev_iload_n (pc' := 478) rfl rfl rfl ?_
        refine ev_iconst (pc' := 479) (b := (2 : Int32)) rfl rfl rfl ?_
        refine ev_iadd (pc' := 480) rfl rfl ?_
        obtain ⟨hg65, h⟩ := am_g_some h
        refine ev_iaload_x (pc' := 481) rfl rfl rfl rfl hg65 ?_
        refine ev_aload_n (pc' := 482) rfl rfl rfl ?_
        refine ev_iload_n (pc' := 483) rfl rfl rfl ?_
        refine ev_iconst (pc' := 484) (b := (3 : Int32)) rfl rfl rfl ?_
        refine ev_iadd (pc' := 485) rfl rfl ?_
        obtain ⟨hg66, h⟩ := am_g_some h
        refine ev_iaload_x (pc' := 486) rfl rfl rfl rfl hg66 ?_
        refine am_bd h (fun q67 hq67 h => ?_)
        refine ev_call (mi := 148) (as := [.ref 85, .int (xs (x3 + (1 : Int32)).toNatClampNeg), .int (xs (x3 + (2 : Int32)).toNatClampNeg), .int (xs (x3 + (3 : Int32)).toNatClampNeg)]) (rest := [.int q63.1]) rfl rfl (Nat.le_of_ble_eq_true rfl) (fm_far_e (d := d + 5) hq67) ?_
        show am_Ev _ _ _ _ 489 _ _ _ _ _
        rcases am_if h with ⟨hc68, h⟩ | ⟨hc68, h⟩
        · refine ev_ic_t (pc' := 1519) rfl rfl (cb_eq_t hc68) ?_
          exact fx_law_1001_0_85_b1519_e (hk18 := fun h => ih h) h
        · refine ev_ic_f (pc' := 492) rfl (by decide) rfl (cb_eq_f hc68) ?_
          refine ev_iconst (pc' := 493) (b := (0 : Int32)) rfl rfl rfl ?_
          obtain rfl := Option.some.inj h
          exact ev_zreturn rfl rfl rfl
      rcases am_if h with ⟨hc69, h⟩ | ⟨hc69, h⟩
      · refine ev_tsw (pc' := 494) (off := 462) rfl (by rw [hc69]; decide +kernel) (by rw [hc69]; decide +kernel) rfl ?_
        refine ev_aload_n (pc' := 495) rfl rfl rfl ?_
        refine ev_aload_n (pc' := 496) rfl rfl rfl ?_
        refine ev_iload_n (pc' := 497) rfl rfl rfl ?_
        refine ev_iconst (pc' := 498) (b := (1 : Int32)) rfl rfl rfl ?_
        refine ev_iadd (pc' := 499) rfl rfl ?_
        obtain ⟨hg70, h⟩ := am_g_some h
        refine ev_iaload_x (pc' := 500) rfl rfl rfl rfl hg70 ?_
        refine ev_aload_n (pc' := 501) rfl rfl rfl ?_
        refine ev_iload_n (pc' := 502) rfl rfl rfl ?_
        refine ev_iconst (pc' := 503) (b := (2 : Int32)) rfl rfl rfl ?_
        refine ev_iadd (pc' := 504) rfl rfl ?_
        obtain ⟨hg71, h⟩ := am_g_some h
        refine ev_iaload_x (pc' := 505) rfl rfl rfl rfl hg71 ?_
        refine am_bd h (fun q72 hq72 h => ?_)
        refine ev_call (mi := 92) (as := [.ref 0, .int (xs (x3 + (1 : Int32)).toNatClampNeg), .int (xs (x3 + (2 : Int32)).toNatClampNeg)]) (rest := []) rfl rfl (Nat.le_of_ble_eq_true rfl) (fx_person_e (d := d + 5) hq72) ?_
        show am_Ev _ _ _ _ 508 _ _ _ _ _
        refine ev_aload_n (pc' := 509) rfl rfl rfl ?_
        refine ev_aload_n (pc' := 510) rfl rfl rfl ?_
        refine ev_iload_n (pc' := 511) rfl rfl rfl ?_
        refine ev_iconst (pc' := 512) (b := (1 : Int32)) rfl rfl rfl ?_
        refine ev_iadd (pc' := 513) rfl rfl ?_
        obtain ⟨hg73, h⟩ := am_g_some h
        refine ev_iaload_x (pc' := 514) rfl rfl rfl rfl hg73 ?_
        refine ev_aload_n (pc' := 515) rfl rfl rfl ?_
        refine ev_iload_n (pc' := 516) rfl rfl rfl ?_
        refine ev_iconst (pc' := 517) (b := (2 : Int32)) rfl rfl rfl ?_
        refine ev_iadd (pc' := 518) rfl rfl ?_
        obtain ⟨hg74, h⟩ := am_g_some h
        refine ev_iaload_x (pc' := 519) rfl rfl rfl rfl hg74 ?_
        refine am_bd h (fun q75 hq75 h => ?_)
        refine ev_call (mi := 149) (as := [.ref 85, .int (xs (x3 + (1 : Int32)).toNatClampNeg), .int (xs (x3 + (2 : Int32)).toNatClampNeg)]) (rest := [.int q72.1]) rfl rfl (Nat.le_of_ble_eq_true rfl) (fm_person_e (d := d + 5) hq75) ?_
        show am_Ev _ _ _ _ 522 _ _ _ _ _
        rcases am_if h with ⟨hc76, h⟩ | ⟨hc76, h⟩
        · refine ev_ic_t (pc' := 1519) rfl rfl (cb_eq_t hc76) ?_
          exact fx_law_1001_0_85_b1519_e (hk18 := fun h => ih h) h
        · refine ev_ic_f (pc' := 525) rfl (by decide) rfl (cb_eq_f hc76) ?_
          refine ev_iconst (pc' := 526) (b := (0 : Int32)) rfl rfl rfl ?_
          obtain rfl := Option.some.inj h
          exact ev_zreturn rfl rfl rfl
      rcases am_if h with ⟨hc77, h⟩ | ⟨hc77, h⟩
      · refine ev_tsw (pc' := 527) (off := 495) rfl (by rw [hc77]; decide +kernel) (by rw [hc77]; decide +kernel) rfl ?_
        refine ev_aload_n (pc' := 528) rfl rfl rfl ?_
        refine ev_aload_n (pc' := 529) rfl rfl rfl ?_
        refine ev_iload_n (pc' := 530) rfl rfl rfl ?_
        refine ev_iconst (pc' := 531) (b := (1 : Int32)) rfl rfl rfl ?_
        refine ev_iadd (pc' := 532) rfl rfl ?_
        obtain ⟨hg78, h⟩ := am_g_some h
        refine ev_iaload_x (pc' := 533) rfl rfl rfl rfl hg78 ?_
        refine ev_aload_n (pc' := 534) rfl rfl rfl ?_
        refine ev_iload_n (pc' := 535) rfl rfl rfl ?_
        refine ev_iconst (pc' := 536) (b := (2 : Int32)) rfl rfl rfl ?_
        refine ev_iadd (pc' := 537) rfl rfl ?_
        obtain ⟨hg79, h⟩ := am_g_some h
        refine ev_iaload_x (pc' := 538) rfl rfl rfl rfl hg79 ?_
        refine am_bd h (fun q80 hq80 h => ?_)
        refine ev_call (mi := 93) (as := [.ref 0, .int (xs (x3 + (1 : Int32)).toNatClampNeg), .int (xs (x3 + (2 : Int32)).toNatClampNeg)]) (rest := []) rfl rfl (Nat.le_of_ble_eq_true rfl) (fx_move_e (d := d + 5) hq80) ?_
        show am_Ev _ _ _ _ 541 _ _ _ _ _
        refine ev_aload_n (pc' := 542) rfl rfl rfl ?_
        refine ev_aload_n (pc' := 543) rfl rfl rfl ?_
        refine ev_iload_n (pc' := 544) rfl rfl rfl ?_
        refine ev_iconst (pc' := 545) (b := (1 : Int32)) rfl rfl rfl ?_
        refine ev_iadd (pc' := 546) rfl rfl ?_
        obtain ⟨hg81, h⟩ := am_g_some h
        refine ev_iaload_x (pc' := 547) rfl rfl rfl rfl hg81 ?_
        refine ev_aload_n (pc' := 548) rfl rfl rfl ?_
        refine ev_iload_n (pc' := 549) rfl rfl rfl ?_
        refine ev_iconst (pc' := 550) (b := (2 : Int32)) rfl rfl rfl ?_
        refine ev_iadd (pc' := 551) rfl rfl ?_
        obtain ⟨hg82, h⟩ := am_g_some h
        refine ev_iaload_x (pc' := 552) rfl rfl rfl rfl hg82 ?_
        refine am_bd h (fun q83 hq83 h => ?_)
        refine ev_call (mi := 150) (as := [.ref 85, .int (xs (x3 + (1 : Int32)).toNatClampNeg), .int (xs (x3 + (2 : Int32)).toNatClampNeg)]) (rest := [.int q80.1]) rfl rfl (Nat.le_of_ble_eq_true rfl) (fm_move_e (d := d + 5) hq83) ?_
        show am_Ev _ _ _ _ 555 _ _ _ _ _
        rcases am_if h with ⟨hc84, h⟩ | ⟨hc84, h⟩
        · refine ev_ic_t (pc' := 1519) rfl rfl (cb_eq_t hc84) ?_
          exact fx_law_1001_0_85_b1519_e (hk18 := fun h => ih h) h
        · refine ev_ic_f (pc' := 558) rfl (by decide) rfl (cb_eq_f hc84) ?_
          refine ev_iconst (pc' := 559) (b := (0 : Int32)) rfl rfl rfl ?_
          obtain rfl := Option.some.inj h
          exact ev_zreturn rfl rfl rfl
      rcases am_if h with ⟨hc85, h⟩ | ⟨hc85, h⟩
      · refine ev_tsw (pc' := 560) (off := 528) rfl (by rw [hc85]; decide +kernel) (by rw [hc85]; decide +kernel) rfl ?_
        refine ev_aload_n (pc' := 561) rfl rfl rfl ?_
        refine ev_aload_n (pc' := 562) rfl rfl rfl ?_
        refine ev_iload_n (pc' := 563) rfl rfl rfl ?_
        refine ev_iconst (pc' := 564) (b := (1 : Int32)) rfl rfl rfl ?_
        refine ev_iadd (pc' := 565) rfl rfl ?_
        obtain ⟨hg86, h⟩ := am_g_some h
        refine ev_iaload_x (pc' := 566) rfl rfl rfl rfl hg86 ?_
        refine ev_aload_n (pc' := 567) rfl rfl rfl ?_
        refine ev_iload_n (pc' := 568) rfl rfl rfl ?_
        refine ev_iconst (pc' := 569) (b := (2 : Int32)) rfl rfl rfl ?_
        refine ev_iadd (pc' := 570) rfl rfl ?_
        obtain ⟨hg87, h⟩ := am_g_some h
        refine ev_iaload_x (pc' := 571) rfl rfl rfl rfl hg87 ?_
        refine ev_aload_n (pc' := 572) rfl rfl rfl ?_
        refine ev_iload_n (pc' := 573) rfl rfl rfl ?_
        refine ev_iconst (pc' := 574) (b := (3 : Int32)) rfl rfl rfl ?_
        refine ev_iadd (pc' := 575) rfl rfl ?_
        obtain ⟨hg88, h⟩ := am_g_some h
        refine ev_iaload_x (pc' := 576) rfl rfl rfl rfl hg88 ?_
        refine am_bd h (fun q89 hq89 h => ?_)
        refine ev_call (mi := 94) (as := [.ref 0, .int (xs (x3 + (1 : Int32)).toNatClampNeg), .int (xs (x3 + (2 : Int32)).toNatClampNeg), .int (xs (x3 + (3 : Int32)).toNatClampNeg)]) (rest := []) rfl rfl (Nat.le_of_ble_eq_true rfl) (fx_work_e (d := d + 5) hq89) ?_
        show am_Ev _ _ _ _ 579 _ _ _ _ _
        refine ev_aload_n (pc' := 580) rfl rfl rfl ?_
        refine ev_aload_n (pc' := 581) rfl rfl rfl ?_
        refine ev_iload_n (pc' := 582) rfl rfl rfl ?_
        refine ev_iconst (pc' := 583) (b := (1 : Int32)) rfl rfl rfl ?_
        refine ev_iadd (pc' := 584) rfl rfl ?_
        obtain ⟨hg90, h⟩ := am_g_some h
        refine ev_iaload_x (pc' := 585) rfl rfl rfl rfl hg90 ?_
        refine ev_aload_n (pc' := 586) rfl rfl rfl ?_
        refine ev_iload_n (pc' := 587) rfl rfl rfl ?_
        refine ev_iconst (pc' := 588) (b := (2 : Int32)) rfl rfl rfl ?_
        refine ev_iadd (pc' := 589) rfl rfl ?_
        obtain ⟨hg91, h⟩ := am_g_some h
        refine ev_iaload_x (pc' := 590) rfl rfl rfl rfl hg91 ?_
        refine ev_aload_n (pc' := 591) rfl rfl rfl ?_
        refine ev_iload_n (pc' := 592) rfl rfl rfl ?_
        refine ev_iconst (pc' := 593) (b := (3 : Int32)) rfl rfl rfl ?_
        refine ev_iadd (pc' := 594) rfl rfl ?_
        obtain ⟨hg92, h⟩ := am_g_some h
        refine ev_iaload_x (pc' := 595) rfl rfl rfl rfl hg92 ?_
        refine am_bd h (fun q93 hq93 h => ?_)
        refine ev_call (mi := 151) (as := [.ref 85, .int (xs (x3 + (1 : Int32)).toNatClampNeg), .int (xs (x3 + (2 : Int32)).toNatClampNeg), .int (xs (x3 + (3 : Int32)).toNatClampNeg)]) (rest := [.int q89.1]) rfl rfl (Nat.le_of_ble_eq_true rfl) (fm_work_e (d := d + 5) hq93) ?_
        show am_Ev _ _ _ _ 598 _ _ _ _ _
        rcases am_if h with ⟨hc94, h⟩ | ⟨hc94, h⟩
        · refine ev_ic_t (pc' := 1519) rfl rfl (cb_eq_t hc94) ?_
          exact fx_law_1001_0_85_b1519_e (hk18 := fun h => ih h) h
        · refine ev_ic_f (pc' := 601) rfl (by decide) rfl (cb_eq_f hc94) ?_
          refine ev_iconst (pc' := 602) (b := (0 : Int32)) rfl rfl rfl ?_
          obtain rfl := Option.some.inj h
          exact ev_zreturn rfl rfl rfl
      rcases am_if h with ⟨hc95, h⟩ | ⟨hc95, h⟩
      · refine ev_tsw (pc' := 603) (off := 571) rfl (by rw [hc95]; decide +kernel) (by rw [hc95]; decide +kernel) rfl ?_
        refine ev_aload_n (pc' := 604) rfl rfl rfl ?_
        refine ev_aload_n (pc' := 605) rfl rfl rfl ?_
        refine ev_iload_n (pc' := 606) rfl rfl rfl ?_
        refine ev_iconst (pc' := 607) (b := (1 : Int32)) rfl rfl rfl ?_
        refine ev_iadd (pc' := 608) rfl rfl ?_
        obtain ⟨hg96, h⟩ := am_g_some h
        refine ev_iaload_x (pc' := 609) rfl rfl rfl rfl hg96 ?_
        refine ev_aload_n (pc' := 610) rfl rfl rfl ?_
        refine ev_iload_n (pc' := 611) rfl rfl rfl ?_
        refine ev_iconst (pc' := 612) (b := (2 : Int32)) rfl rfl rfl ?_
        refine ev_iadd (pc' := 613) rfl rfl ?_
        obtain ⟨hg97, h⟩ := am_g_some h
        refine ev_iaload_x (pc' := 614) rfl rfl rfl rfl hg97 ?_
        refine am_bd h (fun q98 hq98 h => ?_)
        refine ev_call (mi := 95) (as := [.ref 0, .int (xs (x3 + (1 : Int32)).toNatClampNeg), .int (xs (x3 + (2 : Int32)).toNatClampNeg)]) (rest := []) rfl rfl (Nat.le_of_ble_eq_true rfl) (fx_choose_e (d := d + 5) hq98) ?_
        show am_Ev _ _ _ _ 617 _ _ _ _ _
        refine ev_aload_n (pc' := 618) rfl rfl rfl ?_
        refine ev_aload_n (pc' := 619) rfl rfl rfl ?_
        refine ev_iload_n (pc' := 620) rfl rfl rfl ?_
        refine ev_iconst (pc' := 621) (b := (1 : Int32)) rfl rfl rfl ?_
        refine ev_iadd (pc' := 622) rfl rfl ?_
        obtain ⟨hg99, h⟩ := am_g_some h
        refine ev_iaload_x (pc' := 623) rfl rfl rfl rfl hg99 ?_
        refine ev_aload_n (pc' := 624) rfl rfl rfl ?_
        refine ev_iload_n (pc' := 625) rfl rfl rfl ?_
        refine ev_iconst (pc' := 626) (b := (2 : Int32)) rfl rfl rfl ?_
        refine ev_iadd (pc' := 627) rfl rfl ?_
        obtain ⟨hg100, h⟩ := am_g_some h
        refine ev_iaload_x (pc' := 628) rfl rfl rfl rfl hg100 ?_
        refine am_bd h (fun q101 hq101 h => ?_)
        refine ev_call (mi := 152) (as := [.ref 85, .int (xs (x3 + (1 : Int32)).toNatClampNeg), .int (xs (x3 + (2 : Int32)).toNatClampNeg)]) (rest := [.int q98.1]) rfl rfl (Nat.le_of_ble_eq_true rfl) (fm_choose_e (d := d + 5) hq101) ?_
        show am_Ev _ _ _ _ 631 _ _ _ _ _
        rcases am_if h with ⟨hc102, h⟩ | ⟨hc102, h⟩
        · refine ev_ic_t (pc' := 1519) rfl rfl (cb_eq_t hc102) ?_
          exact fx_law_1001_0_85_b1519_e (hk18 := fun h => ih h) h
        · refine ev_ic_f (pc' := 634) rfl (by decide) rfl (cb_eq_f hc102) ?_
          refine ev_iconst (pc' := 635) (b := (0 : Int32)) rfl rfl rfl ?_
          obtain rfl := Option.some.inj h
          exact ev_zreturn rfl rfl rfl
      rcases am_if h with ⟨hc103, h⟩ | ⟨hc103, h⟩
      · refine ev_tsw (pc' := 636) (off := 604) rfl (by rw [hc103]; decide +kernel) (by rw [hc103]; decide +kernel) rfl ?_
        refine ev_aload_n (pc' := 637) rfl rfl rfl ?_
        refine ev_aload_n (pc' := 638) rfl rfl rfl ?_
        refine ev_iload_n (pc' := 639) rfl rfl rfl ?_
        refine ev_iconst (pc' := 640) (b := (1 : Int32)) rfl rfl rfl ?_
        refine ev_iadd (pc' := 641) rfl rfl ?_
        obtain ⟨hg104, h⟩ := am_g_some h
        refine ev_iaload_x (pc' := 642) rfl rfl rfl rfl hg104 ?_
        refine ev_aload_n (pc' := 643) rfl rfl rfl ?_
        refine ev_iload_n (pc' := 644) rfl rfl rfl ?_
        refine ev_iconst (pc' := 645) (b := (2 : Int32)) rfl rfl rfl ?_
        refine ev_iadd (pc' := 646) rfl rfl ?_
        obtain ⟨hg105, h⟩ := am_g_some h
        refine ev_iaload_x (pc' := 647) rfl rfl rfl rfl hg105 ?_
        refine am_bd h (fun q106 hq106 h => ?_)
        refine ev_call (mi := 96) (as := [.ref 0, .int (xs (x3 + (1 : Int32)).toNatClampNeg), .int (xs (x3 + (2 : Int32)).toNatClampNeg)]) (rest := []) rfl rfl (Nat.le_of_ble_eq_true rfl) (fx_whose_e (d := d + 1) hq106) ?_
        show am_Ev _ _ _ _ 650 _ _ _ _ _
        refine ev_aload_n (pc' := 651) rfl rfl rfl ?_
        refine ev_aload_n (pc' := 652) rfl rfl rfl ?_
        refine ev_iload_n (pc' := 653) rfl rfl rfl ?_
        refine ev_iconst (pc' := 654) (b := (1 : Int32)) rfl rfl rfl ?_
        refine ev_iadd (pc' := 655) rfl rfl ?_
        obtain ⟨hg107, h⟩ := am_g_some h
        refine ev_iaload_x (pc' := 656) rfl rfl rfl rfl hg107 ?_
        refine ev_aload_n (pc' := 657) rfl rfl rfl ?_
        refine ev_iload_n (pc' := 658) rfl rfl rfl ?_
        refine ev_iconst (pc' := 659) (b := (2 : Int32)) rfl rfl rfl ?_
        refine ev_iadd (pc' := 660) rfl rfl ?_
        obtain ⟨hg108, h⟩ := am_g_some h
        refine ev_iaload_x (pc' := 661) rfl rfl rfl rfl hg108 ?_
        refine am_bd h (fun q109 hq109 h => ?_)
        refine ev_call (mi := 157) (as := [.ref 85, .int (xs (x3 + (1 : Int32)).toNatClampNeg), .int (xs (x3 + (2 : Int32)).toNatClampNeg)]) (rest := [.int q106.1]) rfl rfl (Nat.le_of_ble_eq_true rfl) (fm_whose_e (d := d + 3) hq109) ?_
        show am_Ev _ _ _ _ 664 _ _ _ _ _
        rcases am_if h with ⟨hc110, h⟩ | ⟨hc110, h⟩
        · refine ev_ic_t (pc' := 1519) rfl rfl (cb_eq_t hc110) ?_
          exact fx_law_1001_0_85_b1519_e (hk18 := fun h => ih h) h
        · refine ev_ic_f (pc' := 667) rfl (by decide) rfl (cb_eq_f hc110) ?_
          refine ev_iconst (pc' := 668) (b := (0 : Int32)) rfl rfl rfl ?_
          obtain rfl := Option.some.inj h
          exact ev_zreturn rfl rfl rfl
      rcases am_if h with ⟨hc111, h⟩ | ⟨hc111, h⟩
      · refine ev_tsw (pc' := 669) (off := 637) rfl (by rw [hc111]; decide +kernel) (by rw [hc111]; decide +kernel) rfl ?_
        refine ev_aload_n (pc' := 670) rfl rfl rfl ?_
        refine ev_aload_n (pc' := 671) rfl rfl rfl ?_
        refine ev_iload_n (pc' := 672) rfl rfl rfl ?_
        refine ev_iconst (pc' := 673) (b := (1 : Int32)) rfl rfl rfl ?_
        refine ev_iadd (pc' := 674) rfl rfl ?_
        obtain ⟨hg112, h⟩ := am_g_some h
        refine ev_iaload_x (pc' := 675) rfl rfl rfl rfl hg112 ?_
        refine ev_aload_n (pc' := 676) rfl rfl rfl ?_
        refine ev_iload_n (pc' := 677) rfl rfl rfl ?_
        refine ev_iconst (pc' := 678) (b := (2 : Int32)) rfl rfl rfl ?_
        refine ev_iadd (pc' := 679) rfl rfl ?_
        obtain ⟨hg113, h⟩ := am_g_some h
        refine ev_iaload_x (pc' := 680) rfl rfl rfl rfl hg113 ?_
        refine ev_aload_n (pc' := 681) rfl rfl rfl ?_
        refine ev_iload_n (pc' := 682) rfl rfl rfl ?_
        refine ev_iconst (pc' := 683) (b := (3 : Int32)) rfl rfl rfl ?_
        refine ev_iadd (pc' := 684) rfl rfl ?_
        obtain ⟨hg114, h⟩ := am_g_some h
        refine ev_iaload_x (pc' := 685) rfl rfl rfl rfl hg114 ?_
        refine am_bd h (fun q115 hq115 h => ?_)
        refine ev_call (mi := 97) (as := [.ref 0, .int (xs (x3 + (1 : Int32)).toNatClampNeg), .int (xs (x3 + (2 : Int32)).toNatClampNeg), .int (xs (x3 + (3 : Int32)).toNatClampNeg)]) (rest := []) rfl rfl (Nat.le_of_ble_eq_true rfl) (fx_pension_e (d := d + 5) hq115) ?_
        show am_Ev _ _ _ _ 688 _ _ _ _ _
        refine ev_aload_n (pc' := 689) rfl rfl rfl ?_
        refine ev_aload_n (pc' := 690) rfl rfl rfl ?_
        refine ev_iload_n (pc' := 691) rfl rfl rfl ?_
        refine ev_iconst (pc' := 692) (b := (1 : Int32)) rfl rfl rfl ?_
        refine ev_iadd (pc' := 693) rfl rfl ?_
        obtain ⟨hg116, h⟩ := am_g_some h
        refine ev_iaload_x (pc' := 694) rfl rfl rfl rfl hg116 ?_
        refine ev_aload_n (pc' := 695) rfl rfl rfl ?_
        refine ev_iload_n (pc' := 696) rfl rfl rfl ?_
        refine ev_iconst (pc' := 697) (b := (2 : Int32)) rfl rfl rfl ?_
        refine ev_iadd (pc' := 698) rfl rfl ?_
        obtain ⟨hg117, h⟩ := am_g_some h
        refine ev_iaload_x (pc' := 699) rfl rfl rfl rfl hg117 ?_
        refine ev_aload_n (pc' := 700) rfl rfl rfl ?_
        refine ev_iload_n (pc' := 701) rfl rfl rfl ?_
        refine ev_iconst (pc' := 702) (b := (3 : Int32)) rfl rfl rfl ?_
        refine ev_iadd (pc' := 703) rfl rfl ?_
        obtain ⟨hg118, h⟩ := am_g_some h
        refine ev_iaload_x (pc' := 704) rfl rfl rfl rfl hg118 ?_
        refine am_bd h (fun q119 hq119 h => ?_)
        refine ev_call (mi := 158) (as := [.ref 85, .int (xs (x3 + (1 : Int32)).toNatClampNeg), .int (xs (x3 + (2 : Int32)).toNatClampNeg), .int (xs (x3 + (3 : Int32)).toNatClampNeg)]) (rest := [.int q115.1]) rfl rfl (Nat.le_of_ble_eq_true rfl) (fm_pension_e (d := d + 5) hq119) ?_
        show am_Ev _ _ _ _ 707 _ _ _ _ _
        rcases am_if h with ⟨hc120, h⟩ | ⟨hc120, h⟩
        · refine ev_ic_t (pc' := 1519) rfl rfl (cb_eq_t hc120) ?_
          exact fx_law_1001_0_85_b1519_e (hk18 := fun h => ih h) h
        · refine ev_ic_f (pc' := 710) rfl (by decide) rfl (cb_eq_f hc120) ?_
          refine ev_iconst (pc' := 711) (b := (0 : Int32)) rfl rfl rfl ?_
          obtain rfl := Option.some.inj h
          exact ev_zreturn rfl rfl rfl
      rcases am_if h with ⟨hc121, h⟩ | ⟨hc121, h⟩
      · refine ev_tsw (pc' := 712) (off := 680) rfl (by rw [hc121]; decide +kernel) (by rw [hc121]; decide +kernel) rfl ?_
        refine ev_aload_n (pc' := 713) rfl rfl rfl ?_
        refine ev_aload_n (pc' := 714) rfl rfl rfl ?_
        refine ev_iload_n (pc' := 715) rfl rfl rfl ?_
        refine ev_iconst (pc' := 716) (b := (1 : Int32)) rfl rfl rfl ?_
        refine ev_iadd (pc' := 717) rfl rfl ?_
        obtain ⟨hg122, h⟩ := am_g_some h
        refine ev_iaload_x (pc' := 718) rfl rfl rfl rfl hg122 ?_
        refine ev_aload_n (pc' := 719) rfl rfl rfl ?_
        refine ev_iload_n (pc' := 720) rfl rfl rfl ?_
        refine ev_iconst (pc' := 721) (b := (2 : Int32)) rfl rfl rfl ?_
        refine ev_iadd (pc' := 722) rfl rfl ?_
        obtain ⟨hg123, h⟩ := am_g_some h
        refine ev_iaload_x (pc' := 723) rfl rfl rfl rfl hg123 ?_
        refine am_bd h (fun q124 hq124 h => ?_)
        refine ev_call (mi := 98) (as := [.ref 0, .int (xs (x3 + (1 : Int32)).toNatClampNeg), .int (xs (x3 + (2 : Int32)).toNatClampNeg)]) (rest := []) rfl rfl (Nat.le_of_ble_eq_true rfl) (fx_feed_e (d := d + 5) hq124) ?_
        show am_Ev _ _ _ _ 726 _ _ _ _ _
        refine ev_aload_n (pc' := 727) rfl rfl rfl ?_
        refine ev_aload_n (pc' := 728) rfl rfl rfl ?_
        refine ev_iload_n (pc' := 729) rfl rfl rfl ?_
        refine ev_iconst (pc' := 730) (b := (1 : Int32)) rfl rfl rfl ?_
        refine ev_iadd (pc' := 731) rfl rfl ?_
        obtain ⟨hg125, h⟩ := am_g_some h
        refine ev_iaload_x (pc' := 732) rfl rfl rfl rfl hg125 ?_
        refine ev_aload_n (pc' := 733) rfl rfl rfl ?_
        refine ev_iload_n (pc' := 734) rfl rfl rfl ?_
        refine ev_iconst (pc' := 735) (b := (2 : Int32)) rfl rfl rfl ?_
        refine ev_iadd (pc' := 736) rfl rfl ?_
        obtain ⟨hg126, h⟩ := am_g_some h
        refine ev_iaload_x (pc' := 737) rfl rfl rfl rfl hg126 ?_
        refine am_bd h (fun q127 hq127 h => ?_)
        refine ev_call (mi := 160) (as := [.ref 85, .int (xs (x3 + (1 : Int32)).toNatClampNeg), .int (xs (x3 + (2 : Int32)).toNatClampNeg)]) (rest := [.int q124.1]) rfl rfl (Nat.le_of_ble_eq_true rfl) (fm_feed_e (d := d + 5) hq127) ?_
        show am_Ev _ _ _ _ 740 _ _ _ _ _
        rcases am_if h with ⟨hc128, h⟩ | ⟨hc128, h⟩
        · refine ev_ic_t (pc' := 1519) rfl rfl (cb_eq_t hc128) ?_
          exact fx_law_1001_0_85_b1519_e (hk18 := fun h => ih h) h
        · refine ev_ic_f (pc' := 743) rfl (by decide) rfl (cb_eq_f hc128) ?_
          refine ev_iconst (pc' := 744) (b := (0 : Int32)) rfl rfl rfl ?_
          obtain rfl := Option.some.inj h
          exact ev_zreturn rfl rfl rfl
      rcases am_if h with ⟨hc129, h⟩ | ⟨hc129, h⟩
      · refine ev_tsw (pc' := 745) (off := 713) rfl (by rw [hc129]; decide +kernel) (by rw [hc129]; decide +kernel) rfl ?_
        refine ev_aload_n (pc' := 746) rfl rfl rfl ?_
        refine ev_aload_n (pc' := 747) rfl rfl rfl ?_
        refine ev_iload_n (pc' := 748) rfl rfl rfl ?_
        refine ev_iconst (pc' := 749) (b := (1 : Int32)) rfl rfl rfl ?_
        refine ev_iadd (pc' := 750) rfl rfl ?_
        obtain ⟨hg130, h⟩ := am_g_some h
        refine ev_iaload_x (pc' := 751) rfl rfl rfl rfl hg130 ?_
        refine am_bd h (fun q131 hq131 h => ?_)
        refine ev_call (mi := 99) (as := [.ref 0, .int (xs (x3 + (1 : Int32)).toNatClampNeg)]) (rest := []) rfl rfl (Nat.le_of_ble_eq_true rfl) (fx_propose_e (d := d) hq131) ?_
        show am_Ev _ _ _ _ 754 _ _ _ _ _
        refine ev_aload_n (pc' := 755) rfl rfl rfl ?_
        refine ev_aload_n (pc' := 756) rfl rfl rfl ?_
        refine ev_iload_n (pc' := 757) rfl rfl rfl ?_
        refine ev_iconst (pc' := 758) (b := (1 : Int32)) rfl rfl rfl ?_
        refine ev_iadd (pc' := 759) rfl rfl ?_
        obtain ⟨hg132, h⟩ := am_g_some h
        refine ev_iaload_x (pc' := 760) rfl rfl rfl rfl hg132 ?_
        refine am_bd h (fun q133 hq133 h => ?_)
        refine ev_call (mi := 162) (as := [.ref 85, .int (xs (x3 + (1 : Int32)).toNatClampNeg)]) (rest := [.int q131.1]) rfl rfl (Nat.le_of_ble_eq_true rfl) (fm_propose_e (d := d + 4) hq133) ?_
        show am_Ev _ _ _ _ 763 _ _ _ _ _
        rcases am_if h with ⟨hc134, h⟩ | ⟨hc134, h⟩
        · refine ev_ic_t (pc' := 1519) rfl rfl (cb_eq_t hc134) ?_
          exact fx_law_1001_0_85_b1519_e (hk18 := fun h => ih h) h
        · refine ev_ic_f (pc' := 766) rfl (by decide) rfl (cb_eq_f hc134) ?_
          refine ev_iconst (pc' := 767) (b := (0 : Int32)) rfl rfl rfl ?_
          obtain rfl := Option.some.inj h
          exact ev_zreturn rfl rfl rfl
      rcases am_if h with ⟨hc135, h⟩ | ⟨hc135, h⟩
      · refine ev_tsw (pc' := 768) (off := 736) rfl (by rw [hc135]; decide +kernel) (by rw [hc135]; decide +kernel) rfl ?_
        refine ev_aload_n (pc' := 769) rfl rfl rfl ?_
        refine ev_aload_n (pc' := 770) rfl rfl rfl ?_
        refine ev_iload_n (pc' := 771) rfl rfl rfl ?_
        refine ev_iconst (pc' := 772) (b := (1 : Int32)) rfl rfl rfl ?_
        refine ev_iadd (pc' := 773) rfl rfl ?_
        obtain ⟨hg136, h⟩ := am_g_some h
        refine ev_iaload_x (pc' := 774) rfl rfl rfl rfl hg136 ?_
        refine am_bd h (fun q137 hq137 h => ?_)
        refine ev_call (mi := 100) (as := [.ref 0, .int (xs (x3 + (1 : Int32)).toNatClampNeg)]) (rest := []) rfl rfl (Nat.le_of_ble_eq_true rfl) (fx_law_e (d := d + 5) hq137) ?_
        show am_Ev _ _ _ _ 777 _ _ _ _ _
        refine ev_aload_n (pc' := 778) rfl rfl rfl ?_
        refine ev_aload_n (pc' := 779) rfl rfl rfl ?_
        refine ev_iload_n (pc' := 780) rfl rfl rfl ?_
        refine ev_iconst (pc' := 781) (b := (1 : Int32)) rfl rfl rfl ?_
        refine ev_iadd (pc' := 782) rfl rfl ?_
        obtain ⟨hg138, h⟩ := am_g_some h
        refine ev_iaload_x (pc' := 783) rfl rfl rfl rfl hg138 ?_
        refine am_bd h (fun q139 hq139 h => ?_)
        refine ev_call (mi := 163) (as := [.ref 85, .int (xs (x3 + (1 : Int32)).toNatClampNeg)]) (rest := [.int q137.1]) rfl rfl (Nat.le_of_ble_eq_true rfl) (fm_law_e (d := d + 3) hq139) ?_
        show am_Ev _ _ _ _ 786 _ _ _ _ _
        rcases am_if h with ⟨hc140, h⟩ | ⟨hc140, h⟩
        · refine ev_ic_t (pc' := 1519) rfl rfl (cb_eq_t hc140) ?_
          exact fx_law_1001_0_85_b1519_e (hk18 := fun h => ih h) h
        · refine ev_ic_f (pc' := 789) rfl (by decide) rfl (cb_eq_f hc140) ?_
          refine ev_iconst (pc' := 790) (b := (0 : Int32)) rfl rfl rfl ?_
          obtain rfl := Option.some.inj h
          exact ev_zreturn rfl rfl rfl
      rcases am_if h with ⟨hc141, h⟩ | ⟨hc141, h⟩
      · refine ev_tsw (pc' := 791) (off := 759) rfl (by rw [hc141]; decide +kernel) (by rw [hc141]; decide +kernel) rfl ?_
        refine ev_aload_n (pc' := 792) rfl rfl rfl ?_
        refine am_bd h (fun q142 hq142 h => ?_)
        refine ev_call (mi := 101) (as := [.ref 0]) (rest := []) rfl rfl (Nat.le_of_ble_eq_true rfl) (fx_differ_e (d := d + 4) hq142) ?_
        show am_Ev _ _ _ _ 795 _ _ _ _ _
        refine ev_aload_n (pc' := 796) rfl rfl rfl ?_
        refine am_bd h (fun q143 hq143 h => ?_)
        refine ev_call (mi := 164) (as := [.ref 85]) (rest := [.int q142.1]) rfl rfl (Nat.le_of_ble_eq_true rfl) (fm_differ_e (d := d + 5) hq143) ?_
        show am_Ev _ _ _ _ 799 _ _ _ _ _
        rcases am_if h with ⟨hc144, h⟩ | ⟨hc144, h⟩
        · refine ev_ic_t (pc' := 1519) rfl rfl (cb_eq_t hc144) ?_
          exact fx_law_1001_0_85_b1519_e (hk18 := fun h => ih h) h
        · refine ev_ic_f (pc' := 802) rfl (by decide) rfl (cb_eq_f hc144) ?_
          refine ev_iconst (pc' := 803) (b := (0 : Int32)) rfl rfl rfl ?_
          obtain rfl := Option.some.inj h
          exact ev_zreturn rfl rfl rfl
      rcases am_if h with ⟨hc145, h⟩ | ⟨hc145, h⟩
      · refine ev_tsw (pc' := 804) (off := 772) rfl (by rw [hc145]; decide +kernel) (by rw [hc145]; decide +kernel) rfl ?_
        refine ev_aload_n (pc' := 805) rfl rfl rfl ?_
        refine ev_aload_n (pc' := 806) rfl rfl rfl ?_
        refine ev_iload_n (pc' := 807) rfl rfl rfl ?_
        refine ev_iconst (pc' := 808) (b := (1 : Int32)) rfl rfl rfl ?_
        refine ev_iadd (pc' := 809) rfl rfl ?_
        obtain ⟨hg146, h⟩ := am_g_some h
        refine ev_iaload_x (pc' := 810) rfl rfl rfl rfl hg146 ?_
        refine ev_aload_n (pc' := 811) rfl rfl rfl ?_
        refine ev_iload_n (pc' := 812) rfl rfl rfl ?_
        refine ev_iconst (pc' := 813) (b := (2 : Int32)) rfl rfl rfl ?_
        refine ev_iadd (pc' := 814) rfl rfl ?_
        obtain ⟨hg147, h⟩ := am_g_some h
        refine ev_iaload_x (pc' := 815) rfl rfl rfl rfl hg147 ?_
        refine am_bd h (fun q148 hq148 h => ?_)
        refine ev_call (mi := 102) (as := [.ref 0, .int (xs (x3 + (1 : Int32)).toNatClampNeg), .int (xs (x3 + (2 : Int32)).toNatClampNeg)]) (rest := []) rfl rfl (Nat.le_of_ble_eq_true rfl) (fx_thing_e (d := d + 2) hq148) ?_
        show am_Ev _ _ _ _ 818 _ _ _ _ _
        refine ev_aload_n (pc' := 819) rfl rfl rfl ?_
        refine ev_aload_n (pc' := 820) rfl rfl rfl ?_
        refine ev_iload_n (pc' := 821) rfl rfl rfl ?_
        refine ev_iconst (pc' := 822) (b := (1 : Int32)) rfl rfl rfl ?_
        refine ev_iadd (pc' := 823) rfl rfl ?_
        obtain ⟨hg149, h⟩ := am_g_some h
        refine ev_iaload_x (pc' := 824) rfl rfl rfl rfl hg149 ?_
        refine ev_aload_n (pc' := 825) rfl rfl rfl ?_
        refine ev_iload_n (pc' := 826) rfl rfl rfl ?_
        refine ev_iconst (pc' := 827) (b := (2 : Int32)) rfl rfl rfl ?_
        refine ev_iadd (pc' := 828) rfl rfl ?_
        obtain ⟨hg150, h⟩ := am_g_some h
        refine ev_iaload_x (pc' := 829) rfl rfl rfl rfl hg150 ?_
        refine am_bd h (fun q151 hq151 h => ?_)
        refine ev_call (mi := 166) (as := [.ref 85, .int (xs (x3 + (1 : Int32)).toNatClampNeg), .int (xs (x3 + (2 : Int32)).toNatClampNeg)]) (rest := [.int q148.1]) rfl rfl (Nat.le_of_ble_eq_true rfl) (fm_thing_e (d := d + 5) hq151) ?_
        show am_Ev _ _ _ _ 832 _ _ _ _ _
        rcases am_if h with ⟨hc152, h⟩ | ⟨hc152, h⟩
        · refine ev_ic_t (pc' := 1519) rfl rfl (cb_eq_t hc152) ?_
          exact fx_law_1001_0_85_b1519_e (hk18 := fun h => ih h) h
        · refine ev_ic_f (pc' := 835) rfl (by decide) rfl (cb_eq_f hc152) ?_
          refine ev_iconst (pc' := 836) (b := (0 : Int32)) rfl rfl rfl ?_
          obtain rfl := Option.some.inj h
          exact ev_zreturn rfl rfl rfl
      rcases am_if h with ⟨hc153, h⟩ | ⟨hc153, h⟩
      · refine ev_tsw (pc' := 837) (off := 805) rfl (by rw [hc153]; decide +kernel) (by rw [hc153]; decide +kernel) rfl ?_
        refine ev_aload_n (pc' := 838) rfl rfl rfl ?_
        refine ev_aload_n (pc' := 839) rfl rfl rfl ?_
        refine ev_iload_n (pc' := 840) rfl rfl rfl ?_
        refine ev_iconst (pc' := 841) (b := (1 : Int32)) rfl rfl rfl ?_
        refine ev_iadd (pc' := 842) rfl rfl ?_
        obtain ⟨hg154, h⟩ := am_g_some h
        refine ev_iaload_x (pc' := 843) rfl rfl rfl rfl hg154 ?_
        refine ev_aload_n (pc' := 844) rfl rfl rfl ?_
        refine ev_iload_n (pc' := 845) rfl rfl rfl ?_
        refine ev_iconst (pc' := 846) (b := (2 : Int32)) rfl rfl rfl ?_
        refine ev_iadd (pc' := 847) rfl rfl ?_
        obtain ⟨hg155, h⟩ := am_g_some h
        refine ev_iaload_x (pc' := 848) rfl rfl rfl rfl hg155 ?_
        refine am_bd h (fun q156 hq156 h => ?_)
        refine ev_call (mi := 103) (as := [.ref 0, .int (xs (x3 + (1 : Int32)).toNatClampNeg), .int (xs (x3 + (2 : Int32)).toNatClampNeg)]) (rest := []) rfl rfl (Nat.le_of_ble_eq_true rfl) (fx_as_e (d := d + 3) hq156) ?_
        show am_Ev _ _ _ _ 851 _ _ _ _ _
        refine ev_aload_n (pc' := 852) rfl rfl rfl ?_
        refine ev_aload_n (pc' := 853) rfl rfl rfl ?_
        refine ev_iload_n (pc' := 854) rfl rfl rfl ?_
        refine ev_iconst (pc' := 855) (b := (1 : Int32)) rfl rfl rfl ?_
        refine ev_iadd (pc' := 856) rfl rfl ?_
        obtain ⟨hg157, h⟩ := am_g_some h
        refine ev_iaload_x (pc' := 857) rfl rfl rfl rfl hg157 ?_
        refine ev_aload_n (pc' := 858) rfl rfl rfl ?_
        refine ev_iload_n (pc' := 859) rfl rfl rfl ?_
        refine ev_iconst (pc' := 860) (b := (2 : Int32)) rfl rfl rfl ?_
        refine ev_iadd (pc' := 861) rfl rfl ?_
        obtain ⟨hg158, h⟩ := am_g_some h
        refine ev_iaload_x (pc' := 862) rfl rfl rfl rfl hg158 ?_
        refine am_bd h (fun q159 hq159 h => ?_)
        refine ev_call (mi := 167) (as := [.ref 85, .int (xs (x3 + (1 : Int32)).toNatClampNeg), .int (xs (x3 + (2 : Int32)).toNatClampNeg)]) (rest := [.int q156.1]) rfl rfl (Nat.le_of_ble_eq_true rfl) (fm_as_e (d := d + 5) hq159) ?_
        show am_Ev _ _ _ _ 865 _ _ _ _ _
        rcases am_if h with ⟨hc160, h⟩ | ⟨hc160, h⟩
        · refine ev_ic_t (pc' := 1519) rfl rfl (cb_eq_t hc160) ?_
          exact fx_law_1001_0_85_b1519_e (hk18 := fun h => ih h) h
        · refine ev_ic_f (pc' := 868) rfl (by decide) rfl (cb_eq_f hc160) ?_
          refine ev_iconst (pc' := 869) (b := (0 : Int32)) rfl rfl rfl ?_
          obtain rfl := Option.some.inj h
          exact ev_zreturn rfl rfl rfl
      rcases am_if h with ⟨hc161, h⟩ | ⟨hc161, h⟩
      · refine ev_tsw (pc' := 870) (off := 838) rfl (by rw [hc161]; decide +kernel) (by rw [hc161]; decide +kernel) rfl ?_
        refine ev_aload_n (pc' := 871) rfl rfl rfl ?_
        refine ev_aload_n (pc' := 872) rfl rfl rfl ?_
        refine ev_iload_n (pc' := 873) rfl rfl rfl ?_
        refine ev_iconst (pc' := 874) (b := (1 : Int32)) rfl rfl rfl ?_
        refine ev_iadd (pc' := 875) rfl rfl ?_
        obtain ⟨hg162, h⟩ := am_g_some h
        refine ev_iaload_x (pc' := 876) rfl rfl rfl rfl hg162 ?_
        refine ev_aload_n (pc' := 877) rfl rfl rfl ?_
        refine ev_iload_n (pc' := 878) rfl rfl rfl ?_
        refine ev_iconst (pc' := 879) (b := (2 : Int32)) rfl rfl rfl ?_
        refine ev_iadd (pc' := 880) rfl rfl ?_
        obtain ⟨hg163, h⟩ := am_g_some h
        refine ev_iaload_x (pc' := 881) rfl rfl rfl rfl hg163 ?_
        refine am_bd h (fun q164 hq164 h => ?_)
        refine ev_call (mi := 104) (as := [.ref 0, .int (xs (x3 + (1 : Int32)).toNatClampNeg), .int (xs (x3 + (2 : Int32)).toNatClampNeg)]) (rest := []) rfl rfl (Nat.le_of_ble_eq_true rfl) (fx_tie_e (d := d + 3) hq164) ?_
        show am_Ev _ _ _ _ 884 _ _ _ _ _
        refine ev_aload_n (pc' := 885) rfl rfl rfl ?_
        refine ev_aload_n (pc' := 886) rfl rfl rfl ?_
        refine ev_iload_n (pc' := 887) rfl rfl rfl ?_
        refine ev_iconst (pc' := 888) (b := (1 : Int32)) rfl rfl rfl ?_
        refine ev_iadd (pc' := 889) rfl rfl ?_
        obtain ⟨hg165, h⟩ := am_g_some h
        refine ev_iaload_x (pc' := 890) rfl rfl rfl rfl hg165 ?_
        refine ev_aload_n (pc' := 891) rfl rfl rfl ?_
        refine ev_iload_n (pc' := 892) rfl rfl rfl ?_
        refine ev_iconst (pc' := 893) (b := (2 : Int32)) rfl rfl rfl ?_
        refine ev_iadd (pc' := 894) rfl rfl ?_
        obtain ⟨hg166, h⟩ := am_g_some h
        refine ev_iaload_x (pc' := 895) rfl rfl rfl rfl hg166 ?_
        refine am_bd h (fun q167 hq167 h => ?_)
        refine ev_call (mi := 168) (as := [.ref 85, .int (xs (x3 + (1 : Int32)).toNatClampNeg), .int (xs (x3 + (2 : Int32)).toNatClampNeg)]) (rest := [.int q164.1]) rfl rfl (Nat.le_of_ble_eq_true rfl) (fm_tie_e (d := d + 5) hq167) ?_
        show am_Ev _ _ _ _ 898 _ _ _ _ _
        rcases am_if h with ⟨hc168, h⟩ | ⟨hc168, h⟩
        · refine ev_ic_t (pc' := 1519) rfl rfl (cb_eq_t hc168) ?_
          exact fx_law_1001_0_85_b1519_e (hk18 := fun h => ih h) h
        · refine ev_ic_f (pc' := 901) rfl (by decide) rfl (cb_eq_f hc168) ?_
          refine ev_iconst (pc' := 902) (b := (0 : Int32)) rfl rfl rfl ?_
          obtain rfl := Option.some.inj h
          exact ev_zreturn rfl rfl rfl
      rcases am_if h with ⟨hc169, h⟩ | ⟨hc169, h⟩
      · refine ev_tsw (pc' := 903) (off := 871) rfl (by rw [hc169]; decide +kernel) (by rw [hc169]; decide +kernel) rfl ?_
        refine ev_aload_n (pc' := 904) rfl rfl rfl ?_
        refine ev_aload_n (pc' := 905) rfl rfl rfl ?_
        refine ev_iload_n (pc' := 906) rfl rfl rfl ?_
        refine ev_iconst (pc' := 907) (b := (1 : Int32)) rfl rfl rfl ?_
        refine ev_iadd (pc' := 908) rfl rfl ?_
        obtain ⟨hg170, h⟩ := am_g_some h
        refine ev_iaload_x (pc' := 909) rfl rfl rfl rfl hg170 ?_
        refine ev_aload_n (pc' := 910) rfl rfl rfl ?_
        refine ev_iload_n (pc' := 911) rfl rfl rfl ?_
        refine ev_iconst (pc' := 912) (b := (2 : Int32)) rfl rfl rfl ?_
        refine ev_iadd (pc' := 913) rfl rfl ?_
        obtain ⟨hg171, h⟩ := am_g_some h
        refine ev_iaload_x (pc' := 914) rfl rfl rfl rfl hg171 ?_
        refine am_bd h (fun q172 hq172 h => ?_)
        refine ev_call (mi := 105) (as := [.ref 0, .int (xs (x3 + (1 : Int32)).toNatClampNeg), .int (xs (x3 + (2 : Int32)).toNatClampNeg)]) (rest := []) rfl rfl (Nat.le_of_ble_eq_true rfl) (fx_part_e (d := d + 3) hq172) ?_
        show am_Ev _ _ _ _ 917 _ _ _ _ _
        refine ev_aload_n (pc' := 918) rfl rfl rfl ?_
        refine ev_aload_n (pc' := 919) rfl rfl rfl ?_
        refine ev_iload_n (pc' := 920) rfl rfl rfl ?_
        refine ev_iconst (pc' := 921) (b := (1 : Int32)) rfl rfl rfl ?_
        refine ev_iadd (pc' := 922) rfl rfl ?_
        obtain ⟨hg173, h⟩ := am_g_some h
        refine ev_iaload_x (pc' := 923) rfl rfl rfl rfl hg173 ?_
        refine ev_aload_n (pc' := 924) rfl rfl rfl ?_
        refine ev_iload_n (pc' := 925) rfl rfl rfl ?_
        refine ev_iconst (pc' := 926) (b := (2 : Int32)) rfl rfl rfl ?_
        refine ev_iadd (pc' := 927) rfl rfl ?_
        obtain ⟨hg174, h⟩ := am_g_some h
        refine ev_iaload_x (pc' := 928) rfl rfl rfl rfl hg174 ?_
        refine am_bd h (fun q175 hq175 h => ?_)
        refine ev_call (mi := 169) (as := [.ref 85, .int (xs (x3 + (1 : Int32)).toNatClampNeg), .int (xs (x3 + (2 : Int32)).toNatClampNeg)]) (rest := [.int q172.1]) rfl rfl (Nat.le_of_ble_eq_true rfl) (fm_part_e (d := d + 5) hq175) ?_
        show am_Ev _ _ _ _ 931 _ _ _ _ _
        rcases am_if h with ⟨hc176, h⟩ | ⟨hc176, h⟩
        · refine ev_ic_t (pc' := 1519) rfl rfl (cb_eq_t hc176) ?_
          exact fx_law_1001_0_85_b1519_e (hk18 := fun h => ih h) h
        · refine ev_ic_f (pc' := 934) rfl (by decide) rfl (cb_eq_f hc176) ?_
          refine ev_iconst (pc' := 935) (b := (0 : Int32)) rfl rfl rfl ?_
          obtain rfl := Option.some.inj h
          exact ev_zreturn rfl rfl rfl
      rcases am_if h with ⟨hc177, h⟩ | ⟨hc177, h⟩
      · refine ev_tsw (pc' := 936) (off := 904) rfl (by rw [hc177]; decide +kernel) (by rw [hc177]; decide +kernel) rfl ?_
        refine ev_aload_n (pc' := 937) rfl rfl rfl ?_
        refine ev_aload_n (pc' := 938) rfl rfl rfl ?_
        refine ev_iload_n (pc' := 939) rfl rfl rfl ?_
        refine ev_iconst (pc' := 940) (b := (1 : Int32)) rfl rfl rfl ?_
        refine ev_iadd (pc' := 941) rfl rfl ?_
        obtain ⟨hg178, h⟩ := am_g_some h
        refine ev_iaload_x (pc' := 942) rfl rfl rfl rfl hg178 ?_
        refine am_bd h (fun q179 hq179 h => ?_)
        refine ev_call (mi := 106) (as := [.ref 0, .int (xs (x3 + (1 : Int32)).toNatClampNeg)]) (rest := []) rfl rfl (Nat.le_of_ble_eq_true rfl) (fx_goes_e (d := d) hq179) ?_
        show am_Ev _ _ _ _ 945 _ _ _ _ _
        refine ev_aload_n (pc' := 946) rfl rfl rfl ?_
        refine ev_aload_n (pc' := 947) rfl rfl rfl ?_
        refine ev_iload_n (pc' := 948) rfl rfl rfl ?_
        refine ev_iconst (pc' := 949) (b := (1 : Int32)) rfl rfl rfl ?_
        refine ev_iadd (pc' := 950) rfl rfl ?_
        obtain ⟨hg180, h⟩ := am_g_some h
        refine ev_iaload_x (pc' := 951) rfl rfl rfl rfl hg180 ?_
        refine am_bd h (fun q181 hq181 h => ?_)
        refine ev_call (mi := 178) (as := [.ref 85, .int (xs (x3 + (1 : Int32)).toNatClampNeg)]) (rest := [.int q179.1]) rfl rfl (Nat.le_of_ble_eq_true rfl) (fm_goes_e (d := d + 1) hq181) ?_
        show am_Ev _ _ _ _ 954 _ _ _ _ _
        rcases am_if h with ⟨hc182, h⟩ | ⟨hc182, h⟩
        · refine ev_ic_t (pc' := 1519) rfl rfl (cb_eq_t hc182) ?_
          exact fx_law_1001_0_85_b1519_e (hk18 := fun h => ih h) h
        · refine ev_ic_f (pc' := 957) rfl (by decide) rfl (cb_eq_f hc182) ?_
          refine ev_iconst (pc' := 958) (b := (0 : Int32)) rfl rfl rfl ?_
          obtain rfl := Option.some.inj h
          exact ev_zreturn rfl rfl rfl
      rcases am_if h with ⟨hc183, h⟩ | ⟨hc183, h⟩
      · refine ev_tsw (pc' := 959) (off := 927) rfl (by rw [hc183]; decide +kernel) (by rw [hc183]; decide +kernel) rfl ?_
        refine ev_aload_n (pc' := 960) rfl rfl rfl ?_
        refine ev_aload_n (pc' := 961) rfl rfl rfl ?_
        refine ev_iload_n (pc' := 962) rfl rfl rfl ?_
        refine ev_iconst (pc' := 963) (b := (1 : Int32)) rfl rfl rfl ?_
        refine ev_iadd (pc' := 964) rfl rfl ?_
        obtain ⟨hg184, h⟩ := am_g_some h
        refine ev_iaload_x (pc' := 965) rfl rfl rfl rfl hg184 ?_
        refine am_bd h (fun q185 hq185 h => ?_)
        refine ev_call (mi := 107) (as := [.ref 0, .int (xs (x3 + (1 : Int32)).toNatClampNeg)]) (rest := []) rfl rfl (Nat.le_of_ble_eq_true rfl) (fx_rest_e (d := d) hq185) ?_
        show am_Ev _ _ _ _ 968 _ _ _ _ _
        refine ev_aload_n (pc' := 969) rfl rfl rfl ?_
        refine ev_aload_n (pc' := 970) rfl rfl rfl ?_
        refine ev_iload_n (pc' := 971) rfl rfl rfl ?_
        refine ev_iconst (pc' := 972) (b := (1 : Int32)) rfl rfl rfl ?_
        refine ev_iadd (pc' := 973) rfl rfl ?_
        obtain ⟨hg186, h⟩ := am_g_some h
        refine ev_iaload_x (pc' := 974) rfl rfl rfl rfl hg186 ?_
        refine am_bd h (fun q187 hq187 h => ?_)
        refine ev_call (mi := 179) (as := [.ref 85, .int (xs (x3 + (1 : Int32)).toNatClampNeg)]) (rest := [.int q185.1]) rfl rfl (Nat.le_of_ble_eq_true rfl) (fm_rest_e (d := d + 2) hq187) ?_
        show am_Ev _ _ _ _ 977 _ _ _ _ _
        rcases am_if h with ⟨hc188, h⟩ | ⟨hc188, h⟩
        · refine ev_ic_t (pc' := 1519) rfl rfl (cb_eq_t hc188) ?_
          exact fx_law_1001_0_85_b1519_e (hk18 := fun h => ih h) h
        · refine ev_ic_f (pc' := 980) rfl (by decide) rfl (cb_eq_f hc188) ?_
          refine ev_iconst (pc' := 981) (b := (0 : Int32)) rfl rfl rfl ?_
          obtain rfl := Option.some.inj h
          exact ev_zreturn rfl rfl rfl
      rcases am_if h with ⟨hc189, h⟩ | ⟨hc189, h⟩
      · refine ev_tsw (pc' := 982) (off := 950) rfl (by rw [hc189]; decide +kernel) (by rw [hc189]; decide +kernel) rfl ?_
        refine ev_aload_n (pc' := 983) rfl rfl rfl ?_
        refine ev_aload_n (pc' := 984) rfl rfl rfl ?_
        refine ev_iload_n (pc' := 985) rfl rfl rfl ?_
        refine ev_iconst (pc' := 986) (b := (1 : Int32)) rfl rfl rfl ?_
        refine ev_iadd (pc' := 987) rfl rfl ?_
        obtain ⟨hg190, h⟩ := am_g_some h
        refine ev_iaload_x (pc' := 988) rfl rfl rfl rfl hg190 ?_
        refine ev_aload_n (pc' := 989) rfl rfl rfl ?_
        refine ev_iload_n (pc' := 990) rfl rfl rfl ?_
        refine ev_iconst (pc' := 991) (b := (2 : Int32)) rfl rfl rfl ?_
        refine ev_iadd (pc' := 992) rfl rfl ?_
        obtain ⟨hg191, h⟩ := am_g_some h
        refine ev_iaload_x (pc' := 993) rfl rfl rfl rfl hg191 ?_
        refine am_bd h (fun q192 hq192 h => ?_)
        refine ev_call (mi := 108) (as := [.ref 0, .int (xs (x3 + (1 : Int32)).toNatClampNeg), .int (xs (x3 + (2 : Int32)).toNatClampNeg)]) (rest := []) rfl rfl (Nat.le_of_ble_eq_true rfl) (fx_hoard_e (d := d + 5) hq192) ?_
        show am_Ev _ _ _ _ 996 _ _ _ _ _
        refine ev_aload_n (pc' := 997) rfl rfl rfl ?_
        refine ev_aload_n (pc' := 998) rfl rfl rfl ?_
        refine ev_iload_n (pc' := 999) rfl rfl rfl ?_
        refine ev_iconst (pc' := 1000) (b := (1 : Int32)) rfl rfl rfl ?_
        refine ev_iadd (pc' := 1001) rfl rfl ?_
        obtain ⟨hg193, h⟩ := am_g_some h
        refine ev_iaload_x (pc' := 1002) rfl rfl rfl rfl hg193 ?_
        refine ev_aload_n (pc' := 1003) rfl rfl rfl ?_
        refine ev_iload_n (pc' := 1004) rfl rfl rfl ?_
        refine ev_iconst (pc' := 1005) (b := (2 : Int32)) rfl rfl rfl ?_
        refine ev_iadd (pc' := 1006) rfl rfl ?_
        obtain ⟨hg194, h⟩ := am_g_some h
        refine ev_iaload_x (pc' := 1007) rfl rfl rfl rfl hg194 ?_
        refine am_bd h (fun q195 hq195 h => ?_)
        refine ev_call (mi := 180) (as := [.ref 85, .int (xs (x3 + (1 : Int32)).toNatClampNeg), .int (xs (x3 + (2 : Int32)).toNatClampNeg)]) (rest := [.int q192.1]) rfl rfl (Nat.le_of_ble_eq_true rfl) (fm_hoard_e (d := d + 5) hq195) ?_
        show am_Ev _ _ _ _ 1010 _ _ _ _ _
        rcases am_if h with ⟨hc196, h⟩ | ⟨hc196, h⟩
        · refine ev_ic_t (pc' := 1519) rfl rfl (cb_eq_t hc196) ?_
          exact fx_law_1001_0_85_b1519_e (hk18 := fun h => ih h) h
        · refine ev_ic_f (pc' := 1013) rfl (by decide) rfl (cb_eq_f hc196) ?_
          refine ev_iconst (pc' := 1014) (b := (0 : Int32)) rfl rfl rfl ?_
          obtain rfl := Option.some.inj h
          exact ev_zreturn rfl rfl rfl
      rcases am_if h with ⟨hc197, h⟩ | ⟨hc197, h⟩
      · refine ev_tsw (pc' := 1015) (off := 983) rfl (by rw [hc197]; decide +kernel) (by rw [hc197]; decide +kernel) rfl ?_
        refine ev_aload_n (pc' := 1016) rfl rfl rfl ?_
        refine ev_aload_n (pc' := 1017) rfl rfl rfl ?_
        refine ev_iload_n (pc' := 1018) rfl rfl rfl ?_
        refine ev_iconst (pc' := 1019) (b := (1 : Int32)) rfl rfl rfl ?_
        refine ev_iadd (pc' := 1020) rfl rfl ?_
        obtain ⟨hg198, h⟩ := am_g_some h
        refine ev_iaload_x (pc' := 1021) rfl rfl rfl rfl hg198 ?_
        refine ev_aload_n (pc' := 1022) rfl rfl rfl ?_
        refine ev_iload_n (pc' := 1023) rfl rfl rfl ?_
        refine ev_iconst (pc' := 1024) (b := (2 : Int32)) rfl rfl rfl ?_
        refine ev_iadd (pc' := 1025) rfl rfl ?_
        obtain ⟨hg199, h⟩ := am_g_some h
        refine ev_iaload_x (pc' := 1026) rfl rfl rfl rfl hg199 ?_
        refine ev_aload_n (pc' := 1027) rfl rfl rfl ?_
        refine ev_iload_n (pc' := 1028) rfl rfl rfl ?_
        refine ev_iconst (pc' := 1029) (b := (3 : Int32)) rfl rfl rfl ?_
        refine ev_iadd (pc' := 1030) rfl rfl ?_
        obtain ⟨hg200, h⟩ := am_g_some h
        refine ev_iaload_x (pc' := 1031) rfl rfl rfl rfl hg200 ?_
        refine am_bd h (fun q201 hq201 h => ?_)
        refine ev_call (mi := 109) (as := [.ref 0, .int (xs (x3 + (1 : Int32)).toNatClampNeg), .int (xs (x3 + (2 : Int32)).toNatClampNeg), .int (xs (x3 + (3 : Int32)).toNatClampNeg)]) (rest := []) rfl rfl (Nat.le_of_ble_eq_true rfl) (fx_week_e (d := d + 5) hq201) ?_
        show am_Ev _ _ _ _ 1034 _ _ _ _ _
        refine ev_aload_n (pc' := 1035) rfl rfl rfl ?_
        refine ev_aload_n (pc' := 1036) rfl rfl rfl ?_
        refine ev_iload_n (pc' := 1037) rfl rfl rfl ?_
        refine ev_iconst (pc' := 1038) (b := (1 : Int32)) rfl rfl rfl ?_
        refine ev_iadd (pc' := 1039) rfl rfl ?_
        obtain ⟨hg202, h⟩ := am_g_some h
        refine ev_iaload_x (pc' := 1040) rfl rfl rfl rfl hg202 ?_
        refine ev_aload_n (pc' := 1041) rfl rfl rfl ?_
        refine ev_iload_n (pc' := 1042) rfl rfl rfl ?_
        refine ev_iconst (pc' := 1043) (b := (2 : Int32)) rfl rfl rfl ?_
        refine ev_iadd (pc' := 1044) rfl rfl ?_
        obtain ⟨hg203, h⟩ := am_g_some h
        refine ev_iaload_x (pc' := 1045) rfl rfl rfl rfl hg203 ?_
        refine ev_aload_n (pc' := 1046) rfl rfl rfl ?_
        refine ev_iload_n (pc' := 1047) rfl rfl rfl ?_
        refine ev_iconst (pc' := 1048) (b := (3 : Int32)) rfl rfl rfl ?_
        refine ev_iadd (pc' := 1049) rfl rfl ?_
        obtain ⟨hg204, h⟩ := am_g_some h
        refine ev_iaload_x (pc' := 1050) rfl rfl rfl rfl hg204 ?_
        refine am_bd h (fun q205 hq205 h => ?_)
        refine ev_call (mi := 182) (as := [.ref 85, .int (xs (x3 + (1 : Int32)).toNatClampNeg), .int (xs (x3 + (2 : Int32)).toNatClampNeg), .int (xs (x3 + (3 : Int32)).toNatClampNeg)]) (rest := [.int q201.1]) rfl rfl (Nat.le_of_ble_eq_true rfl) (fm_week_e (d := d + 5) hq205) ?_
        show am_Ev _ _ _ _ 1053 _ _ _ _ _
        rcases am_if h with ⟨hc206, h⟩ | ⟨hc206, h⟩
        · refine ev_ic_t (pc' := 1519) rfl rfl (cb_eq_t hc206) ?_
          exact fx_law_1001_0_85_b1519_e (hk18 := fun h => ih h) h
        · refine ev_ic_f (pc' := 1056) rfl (by decide) rfl (cb_eq_f hc206) ?_
          refine ev_iconst (pc' := 1057) (b := (0 : Int32)) rfl rfl rfl ?_
          obtain rfl := Option.some.inj h
          exact ev_zreturn rfl rfl rfl
      rcases am_if h with ⟨hc207, h⟩ | ⟨hc207, h⟩
      · refine ev_tsw (pc' := 1058) (off := 1026) rfl (by rw [hc207]; decide +kernel) (by rw [hc207]; decide +kernel) rfl ?_
        refine ev_aload_n (pc' := 1059) rfl rfl rfl ?_
        refine ev_aload_n (pc' := 1060) rfl rfl rfl ?_
        refine ev_iload_n (pc' := 1061) rfl rfl rfl ?_
        refine ev_iconst (pc' := 1062) (b := (1 : Int32)) rfl rfl rfl ?_
        refine ev_iadd (pc' := 1063) rfl rfl ?_
        obtain ⟨hg208, h⟩ := am_g_some h
        refine ev_iaload_x (pc' := 1064) rfl rfl rfl rfl hg208 ?_
        refine ev_aload_n (pc' := 1065) rfl rfl rfl ?_
        refine ev_iload_n (pc' := 1066) rfl rfl rfl ?_
        refine ev_iconst (pc' := 1067) (b := (2 : Int32)) rfl rfl rfl ?_
        refine ev_iadd (pc' := 1068) rfl rfl ?_
        obtain ⟨hg209, h⟩ := am_g_some h
        refine ev_iaload_x (pc' := 1069) rfl rfl rfl rfl hg209 ?_
        refine am_bd h (fun q210 hq210 h => ?_)
        refine ev_call (mi := 110) (as := [.ref 0, .int (xs (x3 + (1 : Int32)).toNatClampNeg), .int (xs (x3 + (2 : Int32)).toNatClampNeg)]) (rest := []) rfl rfl (Nat.le_of_ble_eq_true rfl) (fx_stamp_e (d := d) hq210) ?_
        show am_Ev _ _ _ _ 1072 _ _ _ _ _
        refine ev_aload_n (pc' := 1073) rfl rfl rfl ?_
        refine ev_aload_n (pc' := 1074) rfl rfl rfl ?_
        refine ev_iload_n (pc' := 1075) rfl rfl rfl ?_
        refine ev_iconst (pc' := 1076) (b := (1 : Int32)) rfl rfl rfl ?_
        refine ev_iadd (pc' := 1077) rfl rfl ?_
        obtain ⟨hg211, h⟩ := am_g_some h
        refine ev_iaload_x (pc' := 1078) rfl rfl rfl rfl hg211 ?_
        refine ev_aload_n (pc' := 1079) rfl rfl rfl ?_
        refine ev_iload_n (pc' := 1080) rfl rfl rfl ?_
        refine ev_iconst (pc' := 1081) (b := (2 : Int32)) rfl rfl rfl ?_
        refine ev_iadd (pc' := 1082) rfl rfl ?_
        obtain ⟨hg212, h⟩ := am_g_some h
        refine ev_iaload_x (pc' := 1083) rfl rfl rfl rfl hg212 ?_
        refine am_bd h (fun q213 hq213 h => ?_)
        refine ev_call (mi := 184) (as := [.ref 85, .int (xs (x3 + (1 : Int32)).toNatClampNeg), .int (xs (x3 + (2 : Int32)).toNatClampNeg)]) (rest := [.int q210.1]) rfl rfl (Nat.le_of_ble_eq_true rfl) (fm_stamp_e (d := d + 3) hq213) ?_
        show am_Ev _ _ _ _ 1086 _ _ _ _ _
        rcases am_if h with ⟨hc214, h⟩ | ⟨hc214, h⟩
        · refine ev_ic_t (pc' := 1519) rfl rfl (cb_eq_t hc214) ?_
          exact fx_law_1001_0_85_b1519_e (hk18 := fun h => ih h) h
        · refine ev_ic_f (pc' := 1089) rfl (by decide) rfl (cb_eq_f hc214) ?_
          refine ev_iconst (pc' := 1090) (b := (0 : Int32)) rfl rfl rfl ?_
          obtain rfl := Option.some.inj h
          exact ev_zreturn rfl rfl rfl
      rcases am_if h with ⟨hc215, h⟩ | ⟨hc215, h⟩
      · refine ev_tsw (pc' := 1091) (off := 1059) rfl (by rw [hc215]; decide +kernel) (by rw [hc215]; decide +kernel) rfl ?_
        refine ev_aload_n (pc' := 1092) rfl rfl rfl ?_
        refine ev_aload_n (pc' := 1093) rfl rfl rfl ?_
        refine ev_iload_n (pc' := 1094) rfl rfl rfl ?_
        refine ev_iconst (pc' := 1095) (b := (1 : Int32)) rfl rfl rfl ?_
        refine ev_iadd (pc' := 1096) rfl rfl ?_
        obtain ⟨hg216, h⟩ := am_g_some h
        refine ev_iaload_x (pc' := 1097) rfl rfl rfl rfl hg216 ?_
        refine ev_aload_n (pc' := 1098) rfl rfl rfl ?_
        refine ev_iload_n (pc' := 1099) rfl rfl rfl ?_
        refine ev_iconst (pc' := 1100) (b := (2 : Int32)) rfl rfl rfl ?_
        refine ev_iadd (pc' := 1101) rfl rfl ?_
        obtain ⟨hg217, h⟩ := am_g_some h
        refine ev_iaload_x (pc' := 1102) rfl rfl rfl rfl hg217 ?_
        refine am_bd h (fun q218 hq218 h => ?_)
        refine ev_call (mi := 111) (as := [.ref 0, .int (xs (x3 + (1 : Int32)).toNatClampNeg), .int (xs (x3 + (2 : Int32)).toNatClampNeg)]) (rest := []) rfl rfl (Nat.le_of_ble_eq_true rfl) (fx_wagon_e (d := d + 4) hq218) ?_
        show am_Ev _ _ _ _ 1105 _ _ _ _ _
        refine ev_aload_n (pc' := 1106) rfl rfl rfl ?_
        refine ev_aload_n (pc' := 1107) rfl rfl rfl ?_
        refine ev_iload_n (pc' := 1108) rfl rfl rfl ?_
        refine ev_iconst (pc' := 1109) (b := (1 : Int32)) rfl rfl rfl ?_
        refine ev_iadd (pc' := 1110) rfl rfl ?_
        obtain ⟨hg219, h⟩ := am_g_some h
        refine ev_iaload_x (pc' := 1111) rfl rfl rfl rfl hg219 ?_
        refine ev_aload_n (pc' := 1112) rfl rfl rfl ?_
        refine ev_iload_n (pc' := 1113) rfl rfl rfl ?_
        refine ev_iconst (pc' := 1114) (b := (2 : Int32)) rfl rfl rfl ?_
        refine ev_iadd (pc' := 1115) rfl rfl ?_
        obtain ⟨hg220, h⟩ := am_g_some h
        refine ev_iaload_x (pc' := 1116) rfl rfl rfl rfl hg220 ?_
        refine am_bd h (fun q221 hq221 h => ?_)
        refine ev_call (mi := 186) (as := [.ref 85, .int (xs (x3 + (1 : Int32)).toNatClampNeg), .int (xs (x3 + (2 : Int32)).toNatClampNeg)]) (rest := [.int q218.1]) rfl rfl (Nat.le_of_ble_eq_true rfl) (fm_wagon_e (d := d + 5) hq221) ?_
        show am_Ev _ _ _ _ 1119 _ _ _ _ _
        rcases am_if h with ⟨hc222, h⟩ | ⟨hc222, h⟩
        · refine ev_ic_t (pc' := 1519) rfl rfl (cb_eq_t hc222) ?_
          exact fx_law_1001_0_85_b1519_e (hk18 := fun h => ih h) h
        · refine ev_ic_f (pc' := 1122) rfl (by decide) rfl (cb_eq_f hc222) ?_
          refine ev_iconst (pc' := 1123) (b := (0 : Int32)) rfl rfl rfl ?_
          obtain rfl := Option.some.inj h
          exact ev_zreturn rfl rfl rfl
      rcases am_if h with ⟨hc223, h⟩ | ⟨hc223, h⟩
      · refine ev_tsw (pc' := 1124) (off := 1092) rfl (by rw [hc223]; decide +kernel) (by rw [hc223]; decide +kernel) rfl ?_
        refine ev_aload_n (pc' := 1125) rfl rfl rfl ?_
        refine ev_aload_n (pc' := 1126) rfl rfl rfl ?_
        refine ev_iload_n (pc' := 1127) rfl rfl rfl ?_
        refine ev_iconst (pc' := 1128) (b := (1 : Int32)) rfl rfl rfl ?_
        refine ev_iadd (pc' := 1129) rfl rfl ?_
        obtain ⟨hg224, h⟩ := am_g_some h
        refine ev_iaload_x (pc' := 1130) rfl rfl rfl rfl hg224 ?_
        refine ev_aload_n (pc' := 1131) rfl rfl rfl ?_
        refine ev_iload_n (pc' := 1132) rfl rfl rfl ?_
        refine ev_iconst (pc' := 1133) (b := (2 : Int32)) rfl rfl rfl ?_
        refine ev_iadd (pc' := 1134) rfl rfl ?_
        obtain ⟨hg225, h⟩ := am_g_some h
        refine ev_iaload_x (pc' := 1135) rfl rfl rfl rfl hg225 ?_
        refine am_bd h (fun q226 hq226 h => ?_)
        refine ev_call (mi := 113) (as := [.ref 0, .int (xs (x3 + (1 : Int32)).toNatClampNeg), .int (xs (x3 + (2 : Int32)).toNatClampNeg)]) (rest := []) rfl rfl (Nat.le_of_ble_eq_true rfl) (fx_send_e (d := d + 3) hq226) ?_
        show am_Ev _ _ _ _ 1138 _ _ _ _ _
        refine ev_aload_n (pc' := 1139) rfl rfl rfl ?_
        refine ev_aload_n (pc' := 1140) rfl rfl rfl ?_
        refine ev_iload_n (pc' := 1141) rfl rfl rfl ?_
        refine ev_iconst (pc' := 1142) (b := (1 : Int32)) rfl rfl rfl ?_
        refine ev_iadd (pc' := 1143) rfl rfl ?_
        obtain ⟨hg227, h⟩ := am_g_some h
        refine ev_iaload_x (pc' := 1144) rfl rfl rfl rfl hg227 ?_
        refine ev_aload_n (pc' := 1145) rfl rfl rfl ?_
        refine ev_iload_n (pc' := 1146) rfl rfl rfl ?_
        refine ev_iconst (pc' := 1147) (b := (2 : Int32)) rfl rfl rfl ?_
        refine ev_iadd (pc' := 1148) rfl rfl ?_
        obtain ⟨hg228, h⟩ := am_g_some h
        refine ev_iaload_x (pc' := 1149) rfl rfl rfl rfl hg228 ?_
        refine am_bd h (fun q229 hq229 h => ?_)
        refine ev_call (mi := 188) (as := [.ref 85, .int (xs (x3 + (1 : Int32)).toNatClampNeg), .int (xs (x3 + (2 : Int32)).toNatClampNeg)]) (rest := [.int q226.1]) rfl rfl (Nat.le_of_ble_eq_true rfl) (fm_send_e (d := d + 5) hq229) ?_
        show am_Ev _ _ _ _ 1152 _ _ _ _ _
        rcases am_if h with ⟨hc230, h⟩ | ⟨hc230, h⟩
        · refine ev_ic_t (pc' := 1519) rfl rfl (cb_eq_t hc230) ?_
          exact fx_law_1001_0_85_b1519_e (hk18 := fun h => ih h) h
        · refine ev_ic_f (pc' := 1155) rfl (by decide) rfl (cb_eq_f hc230) ?_
          refine ev_iconst (pc' := 1156) (b := (0 : Int32)) rfl rfl rfl ?_
          obtain rfl := Option.some.inj h
          exact ev_zreturn rfl rfl rfl
      rcases am_if h with ⟨hc231, h⟩ | ⟨hc231, h⟩
      · refine ev_tsw (pc' := 1157) (off := 1125) rfl (by rw [hc231]; decide +kernel) (by rw [hc231]; decide +kernel) rfl ?_
        refine ev_aload_n (pc' := 1158) rfl rfl rfl ?_
        refine ev_aload_n (pc' := 1159) rfl rfl rfl ?_
        refine ev_iload_n (pc' := 1160) rfl rfl rfl ?_
        refine ev_iconst (pc' := 1161) (b := (1 : Int32)) rfl rfl rfl ?_
        refine ev_iadd (pc' := 1162) rfl rfl ?_
        obtain ⟨hg232, h⟩ := am_g_some h
        refine ev_iaload_x (pc' := 1163) rfl rfl rfl rfl hg232 ?_
        refine ev_aload_n (pc' := 1164) rfl rfl rfl ?_
        refine ev_iload_n (pc' := 1165) rfl rfl rfl ?_
        refine ev_iconst (pc' := 1166) (b := (2 : Int32)) rfl rfl rfl ?_
        refine ev_iadd (pc' := 1167) rfl rfl ?_
        obtain ⟨hg233, h⟩ := am_g_some h
        refine ev_iaload_x (pc' := 1168) rfl rfl rfl rfl hg233 ?_
        refine am_bd h (fun q234 hq234 h => ?_)
        refine ev_call (mi := 114) (as := [.ref 0, .int (xs (x3 + (1 : Int32)).toNatClampNeg), .int (xs (x3 + (2 : Int32)).toNatClampNeg)]) (rest := []) rfl rfl (Nat.le_of_ble_eq_true rfl) (fx_where_e (d := d + 5) hq234) ?_
        show am_Ev _ _ _ _ 1171 _ _ _ _ _
        refine ev_aload_n (pc' := 1172) rfl rfl rfl ?_
        refine ev_aload_n (pc' := 1173) rfl rfl rfl ?_
        refine ev_iload_n (pc' := 1174) rfl rfl rfl ?_
        refine ev_iconst (pc' := 1175) (b := (1 : Int32)) rfl rfl rfl ?_
        refine ev_iadd (pc' := 1176) rfl rfl ?_
        obtain ⟨hg235, h⟩ := am_g_some h
        refine ev_iaload_x (pc' := 1177) rfl rfl rfl rfl hg235 ?_
        refine ev_aload_n (pc' := 1178) rfl rfl rfl ?_
        refine ev_iload_n (pc' := 1179) rfl rfl rfl ?_
        refine ev_iconst (pc' := 1180) (b := (2 : Int32)) rfl rfl rfl ?_
        refine ev_iadd (pc' := 1181) rfl rfl ?_
        obtain ⟨hg236, h⟩ := am_g_some h
        refine ev_iaload_x (pc' := 1182) rfl rfl rfl rfl hg236 ?_
        refine am_bd h (fun q237 hq237 h => ?_)
        refine ev_call (mi := 190) (as := [.ref 85, .int (xs (x3 + (1 : Int32)).toNatClampNeg), .int (xs (x3 + (2 : Int32)).toNatClampNeg)]) (rest := [.int q234.1]) rfl rfl (Nat.le_of_ble_eq_true rfl) (fm_where_e (d := d + 5) hq237) ?_
        show am_Ev _ _ _ _ 1185 _ _ _ _ _
        rcases am_if h with ⟨hc238, h⟩ | ⟨hc238, h⟩
        · refine ev_ic_t (pc' := 1519) rfl rfl (cb_eq_t hc238) ?_
          exact fx_law_1001_0_85_b1519_e (hk18 := fun h => ih h) h
        · refine ev_ic_f (pc' := 1188) rfl (by decide) rfl (cb_eq_f hc238) ?_
          refine ev_iconst (pc' := 1189) (b := (0 : Int32)) rfl rfl rfl ?_
          obtain rfl := Option.some.inj h
          exact ev_zreturn rfl rfl rfl
      rcases am_if h with ⟨hc239, h⟩ | ⟨hc239, h⟩
      · refine ev_tsw (pc' := 1190) (off := 1158) rfl (by rw [hc239]; decide +kernel) (by rw [hc239]; decide +kernel) rfl ?_
        refine ev_aload_n (pc' := 1191) rfl rfl rfl ?_
        refine ev_aload_n (pc' := 1192) rfl rfl rfl ?_
        refine ev_iload_n (pc' := 1193) rfl rfl rfl ?_
        refine ev_iconst (pc' := 1194) (b := (1 : Int32)) rfl rfl rfl ?_
        refine ev_iadd (pc' := 1195) rfl rfl ?_
        obtain ⟨hg240, h⟩ := am_g_some h
        refine ev_iaload_x (pc' := 1196) rfl rfl rfl rfl hg240 ?_
        refine am_bd h (fun q241 hq241 h => ?_)
        refine ev_call (mi := 115) (as := [.ref 0, .int (xs (x3 + (1 : Int32)).toNatClampNeg)]) (rest := []) rfl rfl (Nat.le_of_ble_eq_true rfl) (fx_home_e (d := d + 2) hq241) ?_
        show am_Ev _ _ _ _ 1199 _ _ _ _ _
        refine ev_aload_n (pc' := 1200) rfl rfl rfl ?_
        refine ev_aload_n (pc' := 1201) rfl rfl rfl ?_
        refine ev_iload_n (pc' := 1202) rfl rfl rfl ?_
        refine ev_iconst (pc' := 1203) (b := (1 : Int32)) rfl rfl rfl ?_
        refine ev_iadd (pc' := 1204) rfl rfl ?_
        obtain ⟨hg242, h⟩ := am_g_some h
        refine ev_iaload_x (pc' := 1205) rfl rfl rfl rfl hg242 ?_
        refine am_bd h (fun q243 hq243 h => ?_)
        refine ev_call (mi := 191) (as := [.ref 85, .int (xs (x3 + (1 : Int32)).toNatClampNeg)]) (rest := [.int q241.1]) rfl rfl (Nat.le_of_ble_eq_true rfl) (fm_home_e (d := d + 4) hq243) ?_
        show am_Ev _ _ _ _ 1208 _ _ _ _ _
        rcases am_if h with ⟨hc244, h⟩ | ⟨hc244, h⟩
        · refine ev_ic_t (pc' := 1519) rfl rfl (cb_eq_t hc244) ?_
          exact fx_law_1001_0_85_b1519_e (hk18 := fun h => ih h) h
        · refine ev_ic_f (pc' := 1211) rfl (by decide) rfl (cb_eq_f hc244) ?_
          refine ev_iconst (pc' := 1212) (b := (0 : Int32)) rfl rfl rfl ?_
          obtain rfl := Option.some.inj h
          exact ev_zreturn rfl rfl rfl
      rcases am_if h with ⟨hc245, h⟩ | ⟨hc245, h⟩
      · refine ev_tsw (pc' := 1213) (off := 1181) rfl (by rw [hc245]; decide +kernel) (by rw [hc245]; decide +kernel) rfl ?_
        refine ev_aload_n (pc' := 1214) rfl rfl rfl ?_
        refine ev_aload_n (pc' := 1215) rfl rfl rfl ?_
        refine ev_iload_n (pc' := 1216) rfl rfl rfl ?_
        refine ev_iconst (pc' := 1217) (b := (1 : Int32)) rfl rfl rfl ?_
        refine ev_iadd (pc' := 1218) rfl rfl ?_
        obtain ⟨hg246, h⟩ := am_g_some h
        refine ev_iaload_x (pc' := 1219) rfl rfl rfl rfl hg246 ?_
        refine am_bd h (fun q247 hq247 h => ?_)
        refine ev_call (mi := 116) (as := [.ref 0, .int (xs (x3 + (1 : Int32)).toNatClampNeg)]) (rest := []) rfl rfl (Nat.le_of_ble_eq_true rfl) (fx_day_e (d := d + 5) hq247) ?_
        show am_Ev _ _ _ _ 1222 _ _ _ _ _
        refine ev_aload_n (pc' := 1223) rfl rfl rfl ?_
        refine ev_aload_n (pc' := 1224) rfl rfl rfl ?_
        refine ev_iload_n (pc' := 1225) rfl rfl rfl ?_
        refine ev_iconst (pc' := 1226) (b := (1 : Int32)) rfl rfl rfl ?_
        refine ev_iadd (pc' := 1227) rfl rfl ?_
        obtain ⟨hg248, h⟩ := am_g_some h
        refine ev_iaload_x (pc' := 1228) rfl rfl rfl rfl hg248 ?_
        refine am_bd h (fun q249 hq249 h => ?_)
        refine ev_call (mi := 193) (as := [.ref 85, .int (xs (x3 + (1 : Int32)).toNatClampNeg)]) (rest := [.int q247.1]) rfl rfl (Nat.le_of_ble_eq_true rfl) (fm_day_e (d := d + 5) hq249) ?_
        show am_Ev _ _ _ _ 1231 _ _ _ _ _
        rcases am_if h with ⟨hc250, h⟩ | ⟨hc250, h⟩
        · refine ev_ic_t (pc' := 1519) rfl rfl (cb_eq_t hc250) ?_
          exact fx_law_1001_0_85_b1519_e (hk18 := fun h => ih h) h
        · refine ev_ic_f (pc' := 1234) rfl (by decide) rfl (cb_eq_f hc250) ?_
          refine ev_iconst (pc' := 1235) (b := (0 : Int32)) rfl rfl rfl ?_
          obtain rfl := Option.some.inj h
          exact ev_zreturn rfl rfl rfl
      rcases am_if h with ⟨hc251, h⟩ | ⟨hc251, h⟩
      · refine ev_tsw (pc' := 1236) (off := 1204) rfl (by rw [hc251]; decide +kernel) (by rw [hc251]; decide +kernel) rfl ?_
        refine ev_aload_n (pc' := 1237) rfl rfl rfl ?_
        refine ev_aload_n (pc' := 1238) rfl rfl rfl ?_
        refine ev_iload_n (pc' := 1239) rfl rfl rfl ?_
        refine ev_iconst (pc' := 1240) (b := (1 : Int32)) rfl rfl rfl ?_
        refine ev_iadd (pc' := 1241) rfl rfl ?_
        obtain ⟨hg252, h⟩ := am_g_some h
        refine ev_iaload_x (pc' := 1242) rfl rfl rfl rfl hg252 ?_
        refine ev_aload_n (pc' := 1243) rfl rfl rfl ?_
        refine ev_iload_n (pc' := 1244) rfl rfl rfl ?_
        refine ev_iconst (pc' := 1245) (b := (2 : Int32)) rfl rfl rfl ?_
        refine ev_iadd (pc' := 1246) rfl rfl ?_
        obtain ⟨hg253, h⟩ := am_g_some h
        refine ev_iaload_x (pc' := 1247) rfl rfl rfl rfl hg253 ?_
        refine ev_aload_n (pc' := 1248) rfl rfl rfl ?_
        refine ev_iload_n (pc' := 1249) rfl rfl rfl ?_
        refine ev_iconst (pc' := 1250) (b := (3 : Int32)) rfl rfl rfl ?_
        refine ev_iadd (pc' := 1251) rfl rfl ?_
        obtain ⟨hg254, h⟩ := am_g_some h
        refine ev_iaload_x (pc' := 1252) rfl rfl rfl rfl hg254 ?_
        refine ev_aload_n (pc' := 1253) rfl rfl rfl ?_
        refine ev_iload_n (pc' := 1254) rfl rfl rfl ?_
        refine ev_iconst (pc' := 1255) (b := (4 : Int32)) rfl rfl rfl ?_
        refine ev_iadd (pc' := 1256) rfl rfl ?_
        obtain ⟨hg255, h⟩ := am_g_some h
        refine ev_iaload_x (pc' := 1257) rfl rfl rfl rfl hg255 ?_
        refine am_bd h (fun q256 hq256 h => ?_)
        refine ev_call (mi := 117) (as := [.ref 0, .int (xs (x3 + (1 : Int32)).toNatClampNeg), .int (xs (x3 + (2 : Int32)).toNatClampNeg), .int (xs (x3 + (3 : Int32)).toNatClampNeg), .int (xs (x3 + (4 : Int32)).toNatClampNeg)]) (rest := []) rfl rfl (Nat.le_of_ble_eq_true rfl) (fx_open_e (d := d + 3) hq256) ?_
        show am_Ev _ _ _ _ 1260 _ _ _ _ _
        refine ev_aload_n (pc' := 1261) rfl rfl rfl ?_
        refine ev_aload_n (pc' := 1262) rfl rfl rfl ?_
        refine ev_iload_n (pc' := 1263) rfl rfl rfl ?_
        refine ev_iconst (pc' := 1264) (b := (1 : Int32)) rfl rfl rfl ?_
        refine ev_iadd (pc' := 1265) rfl rfl ?_
        obtain ⟨hg257, h⟩ := am_g_some h
        refine ev_iaload_x (pc' := 1266) rfl rfl rfl rfl hg257 ?_
        refine ev_aload_n (pc' := 1267) rfl rfl rfl ?_
        refine ev_iload_n (pc' := 1268) rfl rfl rfl ?_
        refine ev_iconst (pc' := 1269) (b := (2 : Int32)) rfl rfl rfl ?_
        refine ev_iadd (pc' := 1270) rfl rfl ?_
        obtain ⟨hg258, h⟩ := am_g_some h
        refine ev_iaload_x (pc' := 1271) rfl rfl rfl rfl hg258 ?_
        refine ev_aload_n (pc' := 1272) rfl rfl rfl ?_
        refine ev_iload_n (pc' := 1273) rfl rfl rfl ?_
        refine ev_iconst (pc' := 1274) (b := (3 : Int32)) rfl rfl rfl ?_
        refine ev_iadd (pc' := 1275) rfl rfl ?_
        obtain ⟨hg259, h⟩ := am_g_some h
        refine ev_iaload_x (pc' := 1276) rfl rfl rfl rfl hg259 ?_
        refine ev_aload_n (pc' := 1277) rfl rfl rfl ?_
        refine ev_iload_n (pc' := 1278) rfl rfl rfl ?_
        refine ev_iconst (pc' := 1279) (b := (4 : Int32)) rfl rfl rfl ?_
        refine ev_iadd (pc' := 1280) rfl rfl ?_
        obtain ⟨hg260, h⟩ := am_g_some h
        refine ev_iaload_x (pc' := 1281) rfl rfl rfl rfl hg260 ?_
        refine am_bd h (fun q261 hq261 h => ?_)
        refine ev_call (mi := 195) (as := [.ref 85, .int (xs (x3 + (1 : Int32)).toNatClampNeg), .int (xs (x3 + (2 : Int32)).toNatClampNeg), .int (xs (x3 + (3 : Int32)).toNatClampNeg), .int (xs (x3 + (4 : Int32)).toNatClampNeg)]) (rest := [.int q256.1]) rfl rfl (Nat.le_of_ble_eq_true rfl) (fm_open_e (d := d + 5) hq261) ?_
        show am_Ev _ _ _ _ 1284 _ _ _ _ _
        rcases am_if h with ⟨hc262, h⟩ | ⟨hc262, h⟩
        · refine ev_ic_t (pc' := 1519) rfl rfl (cb_eq_t hc262) ?_
          exact fx_law_1001_0_85_b1519_e (hk18 := fun h => ih h) h
        · refine ev_ic_f (pc' := 1287) rfl (by decide) rfl (cb_eq_f hc262) ?_
          refine ev_iconst (pc' := 1288) (b := (0 : Int32)) rfl rfl rfl ?_
          obtain rfl := Option.some.inj h
          exact ev_zreturn rfl rfl rfl
      rcases am_if h with ⟨hc263, h⟩ | ⟨hc263, h⟩
      · refine ev_tsw (pc' := 1289) (off := 1257) rfl (by rw [hc263]; decide +kernel) (by rw [hc263]; decide +kernel) rfl ?_
        refine ev_aload_n (pc' := 1290) rfl rfl rfl ?_
        refine ev_aload_n (pc' := 1291) rfl rfl rfl ?_
        refine ev_iload_n (pc' := 1292) rfl rfl rfl ?_
        refine ev_iconst (pc' := 1293) (b := (1 : Int32)) rfl rfl rfl ?_
        refine ev_iadd (pc' := 1294) rfl rfl ?_
        obtain ⟨hg264, h⟩ := am_g_some h
        refine ev_iaload_x (pc' := 1295) rfl rfl rfl rfl hg264 ?_
        refine am_bd h (fun q265 hq265 h => ?_)
        refine ev_call (mi := 118) (as := [.ref 0, .int (xs (x3 + (1 : Int32)).toNatClampNeg)]) (rest := []) rfl rfl (Nat.le_of_ble_eq_true rfl) (fx_copy_e (d := d + 3) hq265) ?_
        show am_Ev _ _ _ _ 1298 _ _ _ _ _
        refine ev_aload_n (pc' := 1299) rfl rfl rfl ?_
        refine ev_aload_n (pc' := 1300) rfl rfl rfl ?_
        refine ev_iload_n (pc' := 1301) rfl rfl rfl ?_
        refine ev_iconst (pc' := 1302) (b := (1 : Int32)) rfl rfl rfl ?_
        refine ev_iadd (pc' := 1303) rfl rfl ?_
        obtain ⟨hg266, h⟩ := am_g_some h
        refine ev_iaload_x (pc' := 1304) rfl rfl rfl rfl hg266 ?_
        refine am_bd h (fun q267 hq267 h => ?_)
        refine ev_call (mi := 196) (as := [.ref 85, .int (xs (x3 + (1 : Int32)).toNatClampNeg)]) (rest := [.int q265.1]) rfl rfl (Nat.le_of_ble_eq_true rfl) (fm_copy_e (d := d + 5) hq267) ?_
        show am_Ev _ _ _ _ 1307 _ _ _ _ _
        rcases am_if h with ⟨hc268, h⟩ | ⟨hc268, h⟩
        · refine ev_ic_t (pc' := 1519) rfl rfl (cb_eq_t hc268) ?_
          exact fx_law_1001_0_85_b1519_e (hk18 := fun h => ih h) h
        · refine ev_ic_f (pc' := 1310) rfl (by decide) rfl (cb_eq_f hc268) ?_
          refine ev_iconst (pc' := 1311) (b := (0 : Int32)) rfl rfl rfl ?_
          obtain rfl := Option.some.inj h
          exact ev_zreturn rfl rfl rfl
      rcases am_if h with ⟨hc269, h⟩ | ⟨hc269, h⟩
      · refine ev_tsw (pc' := 1312) (off := 1280) rfl (by rw [hc269]; decide +kernel) (by rw [hc269]; decide +kernel) rfl ?_
        refine ev_aload_n (pc' := 1313) rfl rfl rfl ?_
        refine ev_aload_n (pc' := 1314) rfl rfl rfl ?_
        refine ev_iload_n (pc' := 1315) rfl rfl rfl ?_
        refine ev_iconst (pc' := 1316) (b := (1 : Int32)) rfl rfl rfl ?_
        refine ev_iadd (pc' := 1317) rfl rfl ?_
        obtain ⟨hg270, h⟩ := am_g_some h
        refine ev_iaload_x (pc' := 1318) rfl rfl rfl rfl hg270 ?_
        refine am_bd h (fun q271 hq271 h => ?_)
        refine ev_call (mi := 119) (as := [.ref 0, .int (xs (x3 + (1 : Int32)).toNatClampNeg)]) (rest := []) rfl rfl (Nat.le_of_ble_eq_true rfl) (fx_court_e (d := d) hq271) ?_
        show am_Ev _ _ _ _ 1321 _ _ _ _ _
        refine ev_aload_n (pc' := 1322) rfl rfl rfl ?_
        refine ev_aload_n (pc' := 1323) rfl rfl rfl ?_
        refine ev_iload_n (pc' := 1324) rfl rfl rfl ?_
        refine ev_iconst (pc' := 1325) (b := (1 : Int32)) rfl rfl rfl ?_
        refine ev_iadd (pc' := 1326) rfl rfl ?_
        obtain ⟨hg272, h⟩ := am_g_some h
        refine ev_iaload_x (pc' := 1327) rfl rfl rfl rfl hg272 ?_
        refine am_bd h (fun q273 hq273 h => ?_)
        refine ev_call (mi := 198) (as := [.ref 85, .int (xs (x3 + (1 : Int32)).toNatClampNeg)]) (rest := [.int q271.1]) rfl rfl (Nat.le_of_ble_eq_true rfl) (fm_court_e (d := d + 2) hq273) ?_
        show am_Ev _ _ _ _ 1330 _ _ _ _ _
        rcases am_if h with ⟨hc274, h⟩ | ⟨hc274, h⟩
        · refine ev_ic_t (pc' := 1519) rfl rfl (cb_eq_t hc274) ?_
          exact fx_law_1001_0_85_b1519_e (hk18 := fun h => ih h) h
        · refine ev_ic_f (pc' := 1333) rfl (by decide) rfl (cb_eq_f hc274) ?_
          refine ev_iconst (pc' := 1334) (b := (0 : Int32)) rfl rfl rfl ?_
          obtain rfl := Option.some.inj h
          exact ev_zreturn rfl rfl rfl
      rcases am_if h with ⟨hc275, h⟩ | ⟨hc275, h⟩
      · refine ev_tsw (pc' := 1335) (off := 1303) rfl (by rw [hc275]; decide +kernel) (by rw [hc275]; decide +kernel) rfl ?_
        refine ev_aload_n (pc' := 1336) rfl rfl rfl ?_
        refine ev_aload_n (pc' := 1337) rfl rfl rfl ?_
        refine ev_iload_n (pc' := 1338) rfl rfl rfl ?_
        refine ev_iconst (pc' := 1339) (b := (1 : Int32)) rfl rfl rfl ?_
        refine ev_iadd (pc' := 1340) rfl rfl ?_
        obtain ⟨hg276, h⟩ := am_g_some h
        refine ev_iaload_x (pc' := 1341) rfl rfl rfl rfl hg276 ?_
        refine am_bd h (fun q277 hq277 h => ?_)
        refine ev_call (mi := 120) (as := [.ref 0, .int (xs (x3 + (1 : Int32)).toNatClampNeg)]) (rest := []) rfl rfl (Nat.le_of_ble_eq_true rfl) (fx_waits_e (d := d) hq277) ?_
        show am_Ev _ _ _ _ 1344 _ _ _ _ _
        refine ev_aload_n (pc' := 1345) rfl rfl rfl ?_
        refine ev_aload_n (pc' := 1346) rfl rfl rfl ?_
        refine ev_iload_n (pc' := 1347) rfl rfl rfl ?_
        refine ev_iconst (pc' := 1348) (b := (1 : Int32)) rfl rfl rfl ?_
        refine ev_iadd (pc' := 1349) rfl rfl ?_
        obtain ⟨hg278, h⟩ := am_g_some h
        refine ev_iaload_x (pc' := 1350) rfl rfl rfl rfl hg278 ?_
        refine am_bd h (fun q279 hq279 h => ?_)
        refine ev_call (mi := 199) (as := [.ref 85, .int (xs (x3 + (1 : Int32)).toNatClampNeg)]) (rest := [.int q277.1]) rfl rfl (Nat.le_of_ble_eq_true rfl) (fm_waits_e (d := d + 1) hq279) ?_
        show am_Ev _ _ _ _ 1353 _ _ _ _ _
        rcases am_if h with ⟨hc280, h⟩ | ⟨hc280, h⟩
        · refine ev_ic_t (pc' := 1519) rfl rfl (cb_eq_t hc280) ?_
          exact fx_law_1001_0_85_b1519_e (hk18 := fun h => ih h) h
        · refine ev_ic_f (pc' := 1356) rfl (by decide) rfl (cb_eq_f hc280) ?_
          refine ev_iconst (pc' := 1357) (b := (0 : Int32)) rfl rfl rfl ?_
          obtain rfl := Option.some.inj h
          exact ev_zreturn rfl rfl rfl
      rcases am_if h with ⟨hc281, h⟩ | ⟨hc281, h⟩
      · refine ev_tsw (pc' := 1358) (off := 1326) rfl (by rw [hc281]; decide +kernel) (by rw [hc281]; decide +kernel) rfl ?_
        refine ev_aload_n (pc' := 1359) rfl rfl rfl ?_
        refine ev_aload_n (pc' := 1360) rfl rfl rfl ?_
        refine ev_iload_n (pc' := 1361) rfl rfl rfl ?_
        refine ev_iconst (pc' := 1362) (b := (1 : Int32)) rfl rfl rfl ?_
        refine ev_iadd (pc' := 1363) rfl rfl ?_
        obtain ⟨hg282, h⟩ := am_g_some h
        refine ev_iaload_x (pc' := 1364) rfl rfl rfl rfl hg282 ?_
        refine am_bd h (fun q283 hq283 h => ?_)
        refine ev_call (mi := 121) (as := [.ref 0, .int (xs (x3 + (1 : Int32)).toNatClampNeg)]) (rest := []) rfl rfl (Nat.le_of_ble_eq_true rfl) (fx_task_e (d := d + 5) hq283) ?_
        show am_Ev _ _ _ _ 1367 _ _ _ _ _
        refine ev_aload_n (pc' := 1368) rfl rfl rfl ?_
        refine ev_aload_n (pc' := 1369) rfl rfl rfl ?_
        refine ev_iload_n (pc' := 1370) rfl rfl rfl ?_
        refine ev_iconst (pc' := 1371) (b := (1 : Int32)) rfl rfl rfl ?_
        refine ev_iadd (pc' := 1372) rfl rfl ?_
        obtain ⟨hg284, h⟩ := am_g_some h
        refine ev_iaload_x (pc' := 1373) rfl rfl rfl rfl hg284 ?_
        refine am_bd h (fun q285 hq285 h => ?_)
        refine ev_call (mi := 201) (as := [.ref 85, .int (xs (x3 + (1 : Int32)).toNatClampNeg)]) (rest := [.int q283.1]) rfl rfl (Nat.le_of_ble_eq_true rfl) (fm_task_e (d := d + 5) hq285) ?_
        show am_Ev _ _ _ _ 1376 _ _ _ _ _
        rcases am_if h with ⟨hc286, h⟩ | ⟨hc286, h⟩
        · refine ev_ic_t (pc' := 1519) rfl rfl (cb_eq_t hc286) ?_
          exact fx_law_1001_0_85_b1519_e (hk18 := fun h => ih h) h
        · refine ev_ic_f (pc' := 1379) rfl (by decide) rfl (cb_eq_f hc286) ?_
          refine ev_iconst (pc' := 1380) (b := (0 : Int32)) rfl rfl rfl ?_
          obtain rfl := Option.some.inj h
          exact ev_zreturn rfl rfl rfl
      rcases am_if h with ⟨hc287, h⟩ | ⟨hc287, h⟩
      · refine ev_tsw (pc' := 1381) (off := 1349) rfl (by rw [hc287]; decide +kernel) (by rw [hc287]; decide +kernel) rfl ?_
        refine ev_aload_n (pc' := 1382) rfl rfl rfl ?_
        refine ev_aload_n (pc' := 1383) rfl rfl rfl ?_
        refine ev_iload_n (pc' := 1384) rfl rfl rfl ?_
        refine ev_iconst (pc' := 1385) (b := (1 : Int32)) rfl rfl rfl ?_
        refine ev_iadd (pc' := 1386) rfl rfl ?_
        obtain ⟨hg288, h⟩ := am_g_some h
        refine ev_iaload_x (pc' := 1387) rfl rfl rfl rfl hg288 ?_
        refine ev_aload_n (pc' := 1388) rfl rfl rfl ?_
        refine ev_iload_n (pc' := 1389) rfl rfl rfl ?_
        refine ev_iconst (pc' := 1390) (b := (2 : Int32)) rfl rfl rfl ?_
        refine ev_iadd (pc' := 1391) rfl rfl ?_
        obtain ⟨hg289, h⟩ := am_g_some h
        refine ev_iaload_x (pc' := 1392) rfl rfl rfl rfl hg289 ?_
        refine am_bd h (fun q290 hq290 h => ?_)
        refine ev_call (mi := 122) (as := [.ref 0, .int (xs (x3 + (1 : Int32)).toNatClampNeg), .int (xs (x3 + (2 : Int32)).toNatClampNeg)]) (rest := []) rfl rfl (Nat.le_of_ble_eq_true rfl) (fx_ahead_e (d := d + 5) hq290) ?_
        show am_Ev _ _ _ _ 1395 _ _ _ _ _
        refine ev_aload_n (pc' := 1396) rfl rfl rfl ?_
        refine ev_aload_n (pc' := 1397) rfl rfl rfl ?_
        refine ev_iload_n (pc' := 1398) rfl rfl rfl ?_
        refine ev_iconst (pc' := 1399) (b := (1 : Int32)) rfl rfl rfl ?_
        refine ev_iadd (pc' := 1400) rfl rfl ?_
        obtain ⟨hg291, h⟩ := am_g_some h
        refine ev_iaload_x (pc' := 1401) rfl rfl rfl rfl hg291 ?_
        refine ev_aload_n (pc' := 1402) rfl rfl rfl ?_
        refine ev_iload_n (pc' := 1403) rfl rfl rfl ?_
        refine ev_iconst (pc' := 1404) (b := (2 : Int32)) rfl rfl rfl ?_
        refine ev_iadd (pc' := 1405) rfl rfl ?_
        obtain ⟨hg292, h⟩ := am_g_some h
        refine ev_iaload_x (pc' := 1406) rfl rfl rfl rfl hg292 ?_
        refine am_bd h (fun q293 hq293 h => ?_)
        refine ev_call (mi := 202) (as := [.ref 85, .int (xs (x3 + (1 : Int32)).toNatClampNeg), .int (xs (x3 + (2 : Int32)).toNatClampNeg)]) (rest := [.int q290.1]) rfl rfl (Nat.le_of_ble_eq_true rfl) (fm_ahead_e (d := d + 5) hq293) ?_
        show am_Ev _ _ _ _ 1409 _ _ _ _ _
        rcases am_if h with ⟨hc294, h⟩ | ⟨hc294, h⟩
        · refine ev_ic_t (pc' := 1519) rfl rfl (cb_eq_t hc294) ?_
          exact fx_law_1001_0_85_b1519_e (hk18 := fun h => ih h) h
        · refine ev_ic_f (pc' := 1412) rfl (by decide) rfl (cb_eq_f hc294) ?_
          refine ev_iconst (pc' := 1413) (b := (0 : Int32)) rfl rfl rfl ?_
          obtain rfl := Option.some.inj h
          exact ev_zreturn rfl rfl rfl
      rcases am_if h with ⟨hc295, h⟩ | ⟨hc295, h⟩
      · refine ev_tsw (pc' := 1414) (off := 1382) rfl (by rw [hc295]; decide +kernel) (by rw [hc295]; decide +kernel) rfl ?_
        refine ev_aload_n (pc' := 1415) rfl rfl rfl ?_
        refine ev_aload_n (pc' := 1416) rfl rfl rfl ?_
        refine ev_iload_n (pc' := 1417) rfl rfl rfl ?_
        refine ev_iconst (pc' := 1418) (b := (1 : Int32)) rfl rfl rfl ?_
        refine ev_iadd (pc' := 1419) rfl rfl ?_
        obtain ⟨hg296, h⟩ := am_g_some h
        refine ev_iaload_x (pc' := 1420) rfl rfl rfl rfl hg296 ?_
        refine am_bd h (fun q297 hq297 h => ?_)
        refine ev_call (mi := 124) (as := [.ref 0, .int (xs (x3 + (1 : Int32)).toNatClampNeg)]) (rest := []) rfl rfl (Nat.le_of_ble_eq_true rfl) (fx_best_e (d := d + 3) hq297) ?_
        show am_Ev _ _ _ _ 1423 _ _ _ _ _
        refine ev_aload_n (pc' := 1424) rfl rfl rfl ?_
        refine ev_aload_n (pc' := 1425) rfl rfl rfl ?_
        refine ev_iload_n (pc' := 1426) rfl rfl rfl ?_
        refine ev_iconst (pc' := 1427) (b := (1 : Int32)) rfl rfl rfl ?_
        refine ev_iadd (pc' := 1428) rfl rfl ?_
        obtain ⟨hg298, h⟩ := am_g_some h
        refine ev_iaload_x (pc' := 1429) rfl rfl rfl rfl hg298 ?_
        refine am_bd h (fun q299 hq299 h => ?_)
        refine ev_call (mi := 207) (as := [.ref 85, .int (xs (x3 + (1 : Int32)).toNatClampNeg)]) (rest := [.int q297.1]) rfl rfl (Nat.le_of_ble_eq_true rfl) (fm_best_e (d := d + 3) hq299) ?_
        show am_Ev _ _ _ _ 1432 _ _ _ _ _
        rcases am_if h with ⟨hc300, h⟩ | ⟨hc300, h⟩
        · refine ev_ic_t (pc' := 1519) rfl rfl (cb_eq_t hc300) ?_
          exact fx_law_1001_0_85_b1519_e (hk18 := fun h => ih h) h
        · refine ev_ic_f (pc' := 1435) rfl (by decide) rfl (cb_eq_f hc300) ?_
          refine ev_iconst (pc' := 1436) (b := (0 : Int32)) rfl rfl rfl ?_
          obtain rfl := Option.some.inj h
          exact ev_zreturn rfl rfl rfl
      rcases am_if h with ⟨hc301, h⟩ | ⟨hc301, h⟩
      · refine ev_tsw (pc' := 1437) (off := 1405) rfl (by rw [hc301]; decide +kernel) (by rw [hc301]; decide +kernel) rfl ?_
        refine ev_aload_n (pc' := 1438) rfl rfl rfl ?_
        refine ev_aload_n (pc' := 1439) rfl rfl rfl ?_
        refine ev_iload_n (pc' := 1440) rfl rfl rfl ?_
        refine ev_iconst (pc' := 1441) (b := (1 : Int32)) rfl rfl rfl ?_
        refine ev_iadd (pc' := 1442) rfl rfl ?_
        obtain ⟨hg302, h⟩ := am_g_some h
        refine ev_iaload_x (pc' := 1443) rfl rfl rfl rfl hg302 ?_
        refine am_bd h (fun q303 hq303 h => ?_)
        refine ev_call (mi := 125) (as := [.ref 0, .int (xs (x3 + (1 : Int32)).toNatClampNeg)]) (rest := []) rfl rfl (Nat.le_of_ble_eq_true rfl) (fx_tell_e (d := d + 5) hq303) ?_
        show am_Ev _ _ _ _ 1446 _ _ _ _ _
        refine ev_aload_n (pc' := 1447) rfl rfl rfl ?_
        refine ev_aload_n (pc' := 1448) rfl rfl rfl ?_
        refine ev_iload_n (pc' := 1449) rfl rfl rfl ?_
        refine ev_iconst (pc' := 1450) (b := (1 : Int32)) rfl rfl rfl ?_
        refine ev_iadd (pc' := 1451) rfl rfl ?_
        obtain ⟨hg304, h⟩ := am_g_some h
        refine ev_iaload_x (pc' := 1452) rfl rfl rfl rfl hg304 ?_
        refine am_bd h (fun q305 hq305 h => ?_)
        refine ev_call (mi := 208) (as := [.ref 85, .int (xs (x3 + (1 : Int32)).toNatClampNeg)]) (rest := [.int q303.1]) rfl rfl (Nat.le_of_ble_eq_true rfl) (fm_tell_e (d := d + 5) hq305) ?_
        show am_Ev _ _ _ _ 1455 _ _ _ _ _
        rcases am_if h with ⟨hc306, h⟩ | ⟨hc306, h⟩
        · refine ev_ic_t (pc' := 1519) rfl rfl (cb_eq_t hc306) ?_
          exact fx_law_1001_0_85_b1519_e (hk18 := fun h => ih h) h
        · refine ev_ic_f (pc' := 1458) rfl (by decide) rfl (cb_eq_f hc306) ?_
          refine ev_iconst (pc' := 1459) (b := (0 : Int32)) rfl rfl rfl ?_
          obtain rfl := Option.some.inj h
          exact ev_zreturn rfl rfl rfl
      rcases am_if h with ⟨hc307, h⟩ | ⟨hc307, h⟩
      · refine ev_tsw (pc' := 1460) (off := 1428) rfl (by rw [hc307]; decide +kernel) (by rw [hc307]; decide +kernel) rfl ?_
        refine ev_aload_n (pc' := 1461) rfl rfl rfl ?_
        refine am_bd h (fun q308 hq308 h => ?_)
        refine ev_call (mi := 126) (as := [.ref 0]) (rest := []) rfl rfl (Nat.le_of_ble_eq_true rfl) (fx_check_e (d := d + 1) hq308) ?_
        show am_Ev _ _ _ _ 1464 _ _ _ _ _
        refine ev_aload_n (pc' := 1465) rfl rfl rfl ?_
        refine am_bd h (fun q309 hq309 h => ?_)
        refine ev_call (mi := 209) (as := [.ref 85]) (rest := [.int q308.1]) rfl rfl (Nat.le_of_ble_eq_true rfl) (fm_check_e (d := d + 3) hq309) ?_
        show am_Ev _ _ _ _ 1468 _ _ _ _ _
        rcases am_if h with ⟨hc310, h⟩ | ⟨hc310, h⟩
        · refine ev_ic_t (pc' := 1519) rfl rfl (cb_eq_t hc310) ?_
          exact fx_law_1001_0_85_b1519_e (hk18 := fun h => ih h) h
        · refine ev_ic_f (pc' := 1471) rfl (by decide) rfl (cb_eq_f hc310) ?_
          refine ev_iconst (pc' := 1472) (b := (0 : Int32)) rfl rfl rfl ?_
          obtain rfl := Option.some.inj h
          exact ev_zreturn rfl rfl rfl
      rcases am_if h with ⟨hc311, h⟩ | ⟨hc311, h⟩
      · refine ev_tsw (pc' := 1473) (off := 1441) rfl (by rw [hc311]; decide +kernel) (by rw [hc311]; decide +kernel) rfl ?_
        refine ev_aload_n (pc' := 1474) rfl rfl rfl ?_
        refine ev_aload_n (pc' := 1475) rfl rfl rfl ?_
        refine ev_iload_n (pc' := 1476) rfl rfl rfl ?_
        refine ev_iconst (pc' := 1477) (b := (1 : Int32)) rfl rfl rfl ?_
        refine ev_iadd (pc' := 1478) rfl rfl ?_
        obtain ⟨hg312, h⟩ := am_g_some h
        refine ev_iaload_x (pc' := 1479) rfl rfl rfl rfl hg312 ?_
        refine am_bd h (fun q313 hq313 h => ?_)
        refine ev_call (mi := 127) (as := [.ref 0, .int (xs (x3 + (1 : Int32)).toNatClampNeg)]) (rest := []) rfl rfl (Nat.le_of_ble_eq_true rfl) (fx_count_e (d := d) hq313) ?_
        show am_Ev _ _ _ _ 1482 _ _ _ _ _
        refine ev_aload_n (pc' := 1483) rfl rfl rfl ?_
        refine ev_aload_n (pc' := 1484) rfl rfl rfl ?_
        refine ev_iload_n (pc' := 1485) rfl rfl rfl ?_
        refine ev_iconst (pc' := 1486) (b := (1 : Int32)) rfl rfl rfl ?_
        refine ev_iadd (pc' := 1487) rfl rfl ?_
        obtain ⟨hg314, h⟩ := am_g_some h
        refine ev_iaload_x (pc' := 1488) rfl rfl rfl rfl hg314 ?_
        refine am_bd h (fun q315 hq315 h => ?_)
        refine ev_call (mi := 211) (as := [.ref 85, .int (xs (x3 + (1 : Int32)).toNatClampNeg)]) (rest := [.int q313.1]) rfl rfl (Nat.le_of_ble_eq_true rfl) (fm_count_e (d := d + 2) hq315) ?_
        show am_Ev _ _ _ _ 1491 _ _ _ _ _
        rcases am_if h with ⟨hc316, h⟩ | ⟨hc316, h⟩
        · refine ev_ic_t (pc' := 1519) rfl rfl (cb_eq_t hc316) ?_
          exact fx_law_1001_0_85_b1519_e (hk18 := fun h => ih h) h
        · refine ev_ic_f (pc' := 1494) rfl (by decide) rfl (cb_eq_f hc316) ?_
          refine ev_iconst (pc' := 1495) (b := (0 : Int32)) rfl rfl rfl ?_
          obtain rfl := Option.some.inj h
          exact ev_zreturn rfl rfl rfl
      rcases am_if h with ⟨hc317, h⟩ | ⟨hc317, h⟩
      · refine ev_tsw (pc' := 1496) (off := 1464) rfl (by rw [hc317]; decide +kernel) (by rw [hc317]; decide +kernel) rfl ?_
        refine ev_aload_n (pc' := 1497) rfl rfl rfl ?_
        refine ev_aload_n (pc' := 1498) rfl rfl rfl ?_
        refine ev_iload_n (pc' := 1499) rfl rfl rfl ?_
        refine ev_iconst (pc' := 1500) (b := (1 : Int32)) rfl rfl rfl ?_
        refine ev_iadd (pc' := 1501) rfl rfl ?_
        obtain ⟨hg318, h⟩ := am_g_some h
        refine ev_iaload_x (pc' := 1502) rfl rfl rfl rfl hg318 ?_
        refine am_bd h (fun q319 hq319 h => ?_)
        refine ev_call (mi := 128) (as := [.ref 0, .int (xs (x3 + (1 : Int32)).toNatClampNeg)]) (rest := []) rfl rfl (Nat.le_of_ble_eq_true rfl) (fx_found_e (d := d + 5) hq319) ?_
        show am_Ev _ _ _ _ 1505 _ _ _ _ _
        refine ev_aload_n (pc' := 1506) rfl rfl rfl ?_
        refine ev_aload_n (pc' := 1507) rfl rfl rfl ?_
        refine ev_iload_n (pc' := 1508) rfl rfl rfl ?_
        refine ev_iconst (pc' := 1509) (b := (1 : Int32)) rfl rfl rfl ?_
        refine ev_iadd (pc' := 1510) rfl rfl ?_
        obtain ⟨hg320, h⟩ := am_g_some h
        refine ev_iaload_x (pc' := 1511) rfl rfl rfl rfl hg320 ?_
        refine am_bd h (fun q321 hq321 h => ?_)
        refine ev_call (mi := 212) (as := [.ref 85, .int (xs (x3 + (1 : Int32)).toNatClampNeg)]) (rest := [.int q319.1]) rfl rfl (Nat.le_of_ble_eq_true rfl) (fm_found_e (d := d + 5) hq321) ?_
        show am_Ev _ _ _ _ 1514 _ _ _ _ _
        rcases am_if h with ⟨hc322, h⟩ | ⟨hc322, h⟩
        · refine ev_ic_t (pc' := 1519) rfl rfl (cb_eq_t hc322) ?_
          exact fx_law_1001_0_85_b1519_e (hk18 := fun h => ih h) h
        · refine ev_ic_f (pc' := 1517) rfl (by decide) rfl (cb_eq_f hc322) ?_
          refine ev_iconst (pc' := 1518) (b := (0 : Int32)) rfl rfl rfl ?_
          obtain rfl := Option.some.inj h
          exact ev_zreturn rfl rfl rfl
      have hd323 : ((xs x3.toNatClampNeg) &&& (63 : Int32)).toInt < 0 ∨ 42 < ((xs x3.toNatClampNeg) &&& (63 : Int32)).toInt ∨ True := Or.inr (Or.inr trivial)
      have hk323 : ∀ (Lq Sq : List Value) (v : Option Value) (σ2 : am_S), am_Ev am_sh (am_exx X xs) (d + 7) mm_219 1519 Lq Sq σ v σ2 → am_Ev am_sh (am_exx X xs) (d + 7) mm_219 32 Lq (.int ((xs x3.toNatClampNeg) &&& (63 : Int32)) :: Sq) σ v σ2 := fun Lq Sq v σ2 hz => by
        by_cases hr : ((xs x3.toNatClampNeg) &&& (63 : Int32)).toInt < 0 ∨ 42 < ((xs x3.toNatClampNeg) &&& (63 : Int32)).toInt
        · exact ev_tsd rfl hr rfl hz
        · obtain ⟨j, hj, hx⟩ := am_rg 43 hr (by decide)
          rcases (show j = 0 ∨ j = 1 ∨ j = 2 ∨ j = 3 ∨ j = 4 ∨ j = 5 ∨ j = 6 ∨ j = 7 ∨ j = 8 ∨ j = 9 ∨ j = 10 ∨ j = 11 ∨ j = 12 ∨ j = 13 ∨ j = 14 ∨ j = 15 ∨ j = 16 ∨ j = 17 ∨ j = 18 ∨ j = 19 ∨ j = 20 ∨ j = 21 ∨ j = 22 ∨ j = 23 ∨ j = 24 ∨ j = 25 ∨ j = 26 ∨ j = 27 ∨ j = 28 ∨ j = 29 ∨ j = 30 ∨ j = 31 ∨ j = 32 ∨ j = 33 ∨ j = 34 ∨ j = 35 ∨ j = 36 ∨ j = 37 ∨ j = 38 ∨ j = 39 ∨ j = 40 ∨ j = 41 ∨ j = 42 by omega) with rfl | rfl | rfl | rfl | rfl | rfl | rfl | rfl | rfl | rfl | rfl | rfl | rfl | rfl | rfl | rfl | rfl | rfl | rfl | rfl | rfl | rfl | rfl | rfl | rfl | rfl | rfl | rfl | rfl | rfl | rfl | rfl | rfl | rfl | rfl | rfl | rfl | rfl | rfl | rfl | rfl | rfl | rfl
          · exact absurd (hx.trans (by decide +kernel)) hc3
          · exact absurd (hx.trans (by decide +kernel)) hc11
          · exact absurd (hx.trans (by decide +kernel)) hc23
          · exact absurd (hx.trans (by decide +kernel)) hc31
          · exact absurd (hx.trans (by decide +kernel)) hc39
          · exact absurd (hx.trans (by decide +kernel)) hc47
          · exact absurd (hx.trans (by decide +kernel)) hc53
          · exact absurd (hx.trans (by decide +kernel)) hc59
          · exact absurd (hx.trans (by decide +kernel)) hc69
          · exact absurd (hx.trans (by decide +kernel)) hc77
          · exact absurd (hx.trans (by decide +kernel)) hc85
          · exact absurd (hx.trans (by decide +kernel)) hc95
          · exact absurd (hx.trans (by decide +kernel)) hc103
          · exact absurd (hx.trans (by decide +kernel)) hc111
          · exact absurd (hx.trans (by decide +kernel)) hc121
          · exact absurd (hx.trans (by decide +kernel)) hc129
          · exact absurd (hx.trans (by decide +kernel)) hc135
          · exact absurd (hx.trans (by decide +kernel)) hc141
          · exact absurd (hx.trans (by decide +kernel)) hc145
          · exact absurd (hx.trans (by decide +kernel)) hc153
          · exact absurd (hx.trans (by decide +kernel)) hc161
          · exact absurd (hx.trans (by decide +kernel)) hc169
          · exact absurd (hx.trans (by decide +kernel)) hc177
          · exact absurd (hx.trans (by decide +kernel)) hc183
          · exact absurd (hx.trans (by decide +kernel)) hc189
          · exact absurd (hx.trans (by decide +kernel)) hc197
          · exact absurd (hx.trans (by decide +kernel)) hc207
          · exact absurd (hx.trans (by decide +kernel)) hc215
          · exact absurd (hx.trans (by decide +kernel)) hc223
          · exact absurd (hx.trans (by decide +kernel)) hc231
          · exact absurd (hx.trans (by decide +kernel)) hc239
          · exact absurd (hx.trans (by decide +kernel)) hc245
          · exact absurd (hx.trans (by decide +kernel)) hc251
          · exact absurd (hx.trans (by decide +kernel)) hc263
          · exact absurd (hx.trans (by decide +kernel)) hc269
          · exact absurd (hx.trans (by decide +kernel)) hc275
          · exact absurd (hx.trans (by decide +kernel)) hc281
          · exact absurd (hx.trans (by decide +kernel)) hc287
          · exact absurd (hx.trans (by decide +kernel)) hc295
          · exact absurd (hx.trans (by decide +kernel)) hc301
          · exact absurd (hx.trans (by decide +kernel)) hc307
          · exact absurd (hx.trans (by decide +kernel)) hc311
          · exact absurd (hx.trans (by decide +kernel)) hc317
      refine hk323 _ _ _ _ ?_
      exact fx_law_1001_0_85_b1519_e (hk18 := fun h => ih h) h
def fx_law_1001_0_85 (N : Nat) (X : Nat) (xs : Nat → Int32) (σ : am_S) : Option (Int32 × am_S) := fx_law_1001_0_85_b18 N X xs N (0 : Int32) σ
set_option maxRecDepth 100000 in
theorem fx_law_1001_0_85_e {X : Nat} {xs : Nat → Int32} {d : Nat} {N : Nat} {σ : am_S} {o : Int32 × am_S} (h : fx_law_1001_0_85 N X xs σ = some o) : am_Ev am_sh (am_exx X xs) (d + 7) mm_219 16 [.ref 1001, .ref 0, .ref 85, .null] [] σ (some (.int o.1)) o.2 := by
  unfold fx_law_1001_0_85 at h
  refine ev_iconst (pc' := 17) (b := (0 : Int32)) rfl rfl rfl ?_
  refine ev_istore_n (pc' := 18) (L' := [.ref 1001, .ref 0, .ref 85, .int (0 : Int32)]) rfl rfl rfl rfl ?_
  exact fx_law_1001_0_85_b18_e h
