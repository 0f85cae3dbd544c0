/-! PartedLandModel.enclave (85, 'I'): S -/
def fm_enclave (N : Nat) (a1 : Int32) (σ : am_S) : Option (Int32 × am_S) := (if (fm_isParish a1 σ) = 0 then (fm_finding (1 : Int32) σ).bind fun q2 => some (q2.1, q2.2) else (fm_isEnclave N a1 σ).bind fun q3 => (if q3 = 0 then some ((0 : Int32), σ) else some ((1 : Int32), σ)))
set_option maxRecDepth 100000 in
theorem fm_enclave_e {X : Nat} {xs : Nat → Int32} {d : Nat} {N : Nat} {a1 : Int32} {σ : am_S} {o : Int32 × am_S} (h : fm_enclave N a1 σ = some o) : am_Ev am_sh (am_exx X xs) (d + 3) mm_146 0 [.ref 85, .int a1] [] σ (some (.int o.1)) o.2 := by
  unfold fm_enclave at h
  refine ev_aload_n (pc' := 1) rfl rfl rfl ?_
  refine ev_iload_n (pc' := 2) rfl rfl rfl ?_
  refine ev_call (mi := 181) (as := [.ref 85, .int a1]) (rest := []) rfl rfl (Nat.le_of_ble_eq_true rfl) (fm_isParish_e (d := d + 2) rfl) ?_
  show am_Ev _ _ _ _ 5 _ _ _ _ _
  rcases am_if h with ⟨hc1, h⟩ | ⟨hc1, h⟩
  · refine ev_if_f (pc' := 8) rfl (by decide) rfl (cb_ne_f hc1) ?_
    refine ev_aload_n (pc' := 9) rfl rfl rfl ?_
    refine ev_iconst (pc' := 10) (b := (1 : Int32)) rfl rfl rfl ?_
    refine am_bd h (fun q2 hq2 h => ?_)
    refine ev_call (mi := 159) (as := [.ref 85, .int (1 : Int32)]) (rest := []) rfl rfl (Nat.le_of_ble_eq_true rfl) (fm_finding_e (d := d + 2) hq2) ?_
    show am_Ev _ _ _ _ 13 _ _ _ _ _
    obtain rfl := Option.some.inj h
    exact ev_ireturn rfl rfl
  · refine ev_if_t (pc' := 14) rfl rfl (cb_ne_t hc1) ?_
    refine ev_aload_n (pc' := 15) rfl rfl rfl ?_
    refine ev_iload_n (pc' := 16) rfl rfl rfl ?_
    refine am_bd h (fun q3 hq3 h => ?_)
    refine ev_call (mi := 145) (as := [.ref 85, .int a1]) (rest := []) rfl rfl (Nat.le_of_ble_eq_true rfl) (fm_isEnclave_e (d := d) hq3) ?_
    show am_Ev _ _ _ _ 19 _ _ _ _ _
    rcases am_if h with ⟨hc4, h⟩ | ⟨hc4, h⟩
    · refine ev_if_t (pc' := 26) rfl rfl (cb_eq_t hc4) ?_
      refine ev_iconst (pc' := 27) (b := (0 : Int32)) rfl rfl rfl ?_
      obtain rfl := Option.some.inj h
      exact ev_ireturn rfl rfl
    · refine ev_if_f (pc' := 22) rfl (by decide) rfl (cb_eq_f hc4) ?_
      refine ev_iconst (pc' := 23) (b := (1 : Int32)) rfl rfl rfl ?_
      refine ev_goto (pc' := 27) rfl rfl ?_
      obtain rfl := Option.some.inj h
      exact ev_ireturn rfl rfl
/-! PartedLandModel.tellWays (85, 'I'): S -/
def fm_tellWays_b27 (N : Nat) (k2 : Int32 → Int32 → am_S → Option am_S) (x1 : Int32) (x2 : Int32) (s0 : Int32) (s1 : Int32) (σ : am_S) : Option am_S := am_g (am_in s1 144) <| k2 x1 (x2 + (1 : Int32)) (am_up σ 124 s1.toNatClampNeg s0)
set_option maxRecDepth 100000 in
theorem fm_tellWays_b27_e {X : Nat} {xs : Nat → Int32} {d : Nat} {N : Nat} {k2 : Int32 → Int32 → am_S → Option am_S} (hk2 : ∀ {x1 : Int32} {x2 : Int32} {w3 : Value} {w4 : Value} {w5 : Value} {σ : am_S} {o : am_S}, k2 x1 x2 σ = some o → am_Ev am_sh (am_exx X xs) (d + 0) mm_147 2 [.ref 85, .int x1, .int x2, w3, w4, w5] [] σ (none) o) {x1 : Int32} {x2 : Int32} {s0 : Int32} {s1 : Int32} {w3 : Value} {w4 : Value} {w5 : Value} {σ : am_S} {o : am_S} (h : fm_tellWays_b27 N k2 x1 x2 s0 s1 σ = some o) : am_Ev am_sh (am_exx X xs) (d + 0) mm_147 27 [.ref 85, .int x1, .int x2, w3, w4, w5] [.int s0, .int s1, .ref 124] σ (none) o := by
  unfold fm_tellWays_b27 at h
  obtain ⟨hg1, h⟩ := am_g_some h
  refine ev_iastore (pc' := 28) rfl rfl rfl hg1 ?_
  refine ev_iinc (pc' := 31) (L' := [.ref 85, .int x1, .int (x2 + (1 : Int32)), w3, w4, w5]) (b := (1 : Int32)) rfl rfl rfl rfl rfl ?_
  refine ev_goto (pc' := 2) rfl rfl ?_
  exact hk2 h
def fm_tellWays_b141 (N : Nat) (k36 : Int32 → Int32 → am_S → Option am_S) (x1 : Int32) (x2 : Int32) (σ : am_S) : Option am_S := k36 x1 (x2 + (1 : Int32)) σ
set_option maxRecDepth 100000 in
theorem fm_tellWays_b141_e {X : Nat} {xs : Nat → Int32} {d : Nat} {N : Nat} {k36 : Int32 → Int32 → am_S → Option am_S} (hk36 : ∀ {x1 : Int32} {x2 : Int32} {w3 : Value} {w4 : Value} {w5 : Value} {σ : am_S} {o : am_S}, k36 x1 x2 σ = some o → am_Ev am_sh (am_exx X xs) (d + 0) mm_147 36 [.ref 85, .int x1, .int x2, w3, w4, w5] [] σ (none) o) {x1 : Int32} {x2 : Int32} {w3 : Value} {w4 : Value} {w5 : Value} {σ : am_S} {o : am_S} (h : fm_tellWays_b141 N k36 x1 x2 σ = some o) : am_Ev am_sh (am_exx X xs) (d + 0) mm_147 141 [.ref 85, .int x1, .int x2, w3, w4, w5] [] σ (none) o := by
  unfold fm_tellWays_b141 at h
  refine ev_iinc (pc' := 144) (L' := [.ref 85, .int x1, .int (x2 + (1 : Int32)), w3, w4, w5]) (b := (1 : Int32)) rfl rfl rfl rfl rfl ?_
  refine ev_goto (pc' := 36) rfl rfl ?_
  exact hk36 h
def fm_tellWays_b127 (N : Nat) (k36 : Int32 → Int32 → am_S → Option am_S) (x1 : Int32) (x2 : Int32) (x3 : Int32) (x4 : Int32) (s0 : Int32) (s1 : Int32) (σ : am_S) : Option am_S := am_g (am_in s1 144) <| am_g (am_in x3 144) <| am_g (am_in x4 144) <| fm_tellWays_b141 N k36 x1 x2 (am_up (am_up σ 124 s1.toNatClampNeg s0) 124 x4.toNatClampNeg ((am_up σ 124 s1.toNatClampNeg s0) 124 x3.toNatClampNeg))
set_option maxRecDepth 100000 in
theorem fm_tellWays_b127_e {X : Nat} {xs : Nat → Int32} {d : Nat} {N : Nat} {k36 : Int32 → Int32 → am_S → Option am_S} (hk36 : ∀ {x1 : Int32} {x2 : Int32} {w3 : Value} {w4 : Value} {w5 : Value} {σ : am_S} {o : am_S}, k36 x1 x2 σ = some o → am_Ev am_sh (am_exx X xs) (d + 0) mm_147 36 [.ref 85, .int x1, .int x2, w3, w4, w5] [] σ (none) o) {x1 : Int32} {x2 : Int32} {x3 : Int32} {x4 : Int32} {s0 : Int32} {s1 : Int32} {w5 : Value} {σ : am_S} {o : am_S} (h : fm_tellWays_b127 N k36 x1 x2 x3 x4 s0 s1 σ = some o) : am_Ev am_sh (am_exx X xs) (d + 0) mm_147 127 [.ref 85, .int x1, .int x2, .int x3, .int x4, w5] [.int s0, .int s1, .ref 124] σ (none) o := by
  unfold fm_tellWays_b127 at h
  obtain ⟨hg1, h⟩ := am_g_some h
  refine ev_iastore (pc' := 128) rfl rfl rfl hg1 ?_
  refine ev_aload_n (pc' := 129) rfl rfl rfl ?_
  refine ev_getfield (pc' := 132) (w := .ref 124) rfl rfl rfl rfl ?_
  refine ev_iload (pc' := 134) rfl rfl rfl ?_
  refine ev_aload_n (pc' := 135) rfl rfl rfl ?_
  refine ev_getfield (pc' := 138) (w := .ref 124) rfl rfl rfl rfl ?_
  refine ev_iload_n (pc' := 139) rfl rfl rfl ?_
  obtain ⟨hg2, h⟩ := am_g_some h
  refine ev_iaload (pc' := 140) rfl rfl rfl hg2 ?_
  obtain ⟨hg3, h⟩ := am_g_some h
  refine ev_iastore (pc' := 141) rfl rfl rfl hg3 ?_
  exact fm_tellWays_b141_e (hk36 := hk36) h
def fm_tellWays_b57 (N : Nat) (k36 : Int32 → Int32 → am_S → Option am_S) (x1 : Int32) (x2 : Int32) (σ : am_S) : Option am_S := am_g (am_in x2 30) <| am_g (am_in x2 30) <| am_g (am_in x2 30) <| am_g (am_in x2 30) <| am_g (am_in x2 30) <| am_g (am_in (((12 : Int32) * (σ 89 x2.toNatClampNeg)) + (σ 90 x2.toNatClampNeg)) 144) <| (if (σ 124 (((12 : Int32) * (σ 89 x2.toNatClampNeg)) + (σ 90 x2.toNatClampNeg)).toNatClampNeg) ≤ (σ 91 x2.toNatClampNeg) then am_g (am_in (((12 : Int32) * (σ 89 x2.toNatClampNeg)) + (σ 90 x2.toNatClampNeg)) 144) <| fm_tellWays_b127 N k36 x1 x2 (((12 : Int32) * (σ 89 x2.toNatClampNeg)) + (σ 90 x2.toNatClampNeg)) (((12 : Int32) * (σ 90 x2.toNatClampNeg)) + (σ 89 x2.toNatClampNeg)) (σ 124 (((12 : Int32) * (σ 89 x2.toNatClampNeg)) + (σ 90 x2.toNatClampNeg)).toNatClampNeg) (((12 : Int32) * (σ 89 x2.toNatClampNeg)) + (σ 90 x2.toNatClampNeg)) σ else am_g (am_in x2 30) <| fm_tellWays_b127 N k36 x1 x2 (((12 : Int32) * (σ 89 x2.toNatClampNeg)) + (σ 90 x2.toNatClampNeg)) (((12 : Int32) * (σ 90 x2.toNatClampNeg)) + (σ 89 x2.toNatClampNeg)) (σ 91 x2.toNatClampNeg) (((12 : Int32) * (σ 89 x2.toNatClampNeg)) + (σ 90 x2.toNatClampNeg)) σ)
set_option maxRecDepth 100000 in
theorem fm_tellWays_b57_e {X : Nat} {xs : Nat → Int32} {d : Nat} {N : Nat} {k36 : Int32 → Int32 → am_S → Option am_S} (hk36 : ∀ {x1 : Int32} {x2 : Int32} {w3 : Value} {w4 : Value} {w5 : Value} {σ : am_S} {o : am_S}, k36 x1 x2 σ = some o → am_Ev am_sh (am_exx X xs) (d + 0) mm_147 36 [.ref 85, .int x1, .int x2, w3, w4, w5] [] σ (none) o) {x1 : Int32} {x2 : Int32} {w3 : Value} {w4 : Value} {w5 : Value} {σ : am_S} {o : am_S} (h : fm_tellWays_b57 N k36 x1 x2 σ = some o) : am_Ev am_sh (am_exx X xs) (d + 0) mm_147 57 [.ref 85, .int x1, .int x2, w3, w4, w5] [] σ (none) o := by
  unfold fm_tellWays_b57 at h
  refine ev_bipush (pc' := 59) (b := (12 : Int32)) rfl rfl rfl ?_
  refine ev_aload_n (pc' := 60) rfl rfl rfl ?_
  refine ev_getfield (pc' := 63) (w := .ref 89) rfl rfl rfl rfl ?_
  refine ev_iload_n (pc' := 64) rfl rfl rfl ?_
  obtain ⟨hg1, h⟩ := am_g_some h
  refine ev_iaload (pc' := 65) rfl rfl rfl hg1 ?_
  refine ev_imul (pc' := 66) rfl rfl ?_
  refine ev_aload_n (pc' := 67) rfl rfl rfl ?_
  refine ev_getfield (pc' := 70) (w := .ref 90) rfl rfl rfl rfl ?_
  refine ev_iload_n (pc' := 71) rfl rfl rfl ?_
  obtain ⟨hg2, h⟩ := am_g_some h
  refine ev_iaload (pc' := 72) rfl rfl rfl hg2 ?_
  refine ev_iadd (pc' := 73) rfl rfl ?_
  refine ev_istore_n (pc' := 74) (L' := [.ref 85, .int x1, .int x2, .int (((12 : Int32) * (σ 89 x2.toNatClampNeg)) + (σ 90 x2.toNatClampNeg)), w4, w5]) rfl rfl rfl rfl ?_
  refine ev_bipush (pc' := 76) (b := (12 : Int32)) rfl rfl rfl ?_
  refine ev_aload_n (pc' := 77) rfl rfl rfl ?_
  refine ev_getfield (pc' := 80) (w := .ref 90) rfl rfl rfl rfl ?_
  refine ev_iload_n (pc' := 81) rfl rfl rfl ?_
  obtain ⟨hg3, h⟩ := am_g_some h
  refine ev_iaload (pc' := 82) rfl rfl rfl hg3 ?_
  refine ev_imul (pc' := 83) rfl rfl ?_
  refine ev_aload_n (pc' := 84) rfl rfl rfl ?_
  refine ev_getfield (pc' := 87) (w := .ref 89) rfl rfl rfl rfl ?_
  refine ev_iload_n (pc' := 88) rfl rfl rfl ?_
  obtain ⟨hg4, h⟩ := am_g_some h
  refine ev_iaload (pc' := 89) rfl rfl rfl hg4 ?_
  refine ev_iadd (pc' := 90) rfl rfl ?_
  refine ev_istore (pc' := 92) (L' := [.ref 85, .int x1, .int x2, .int (((12 : Int32) * (σ 89 x2.toNatClampNeg)) + (σ 90 x2.toNatClampNeg)), .int (((12 : Int32) * (σ 90 x2.toNatClampNeg)) + (σ 89 x2.toNatClampNeg)), w5]) rfl rfl rfl rfl ?_
  refine ev_aload_n (pc' := 93) rfl rfl rfl ?_
  refine ev_getfield (pc' := 96) (w := .ref 124) rfl rfl rfl rfl ?_
  refine ev_iload_n (pc' := 97) rfl rfl rfl ?_
  refine ev_aload_n (pc' := 98) rfl rfl rfl ?_
  refine ev_getfield (pc' := 101) (w := .ref 91) rfl rfl rfl rfl ?_
  refine ev_iload_n (pc' := 102) rfl rfl rfl ?_
  obtain ⟨hg5, h⟩ := am_g_some h
  refine ev_iaload (pc' := 103) rfl rfl rfl hg5 ?_
  refine ev_aload_n (pc' := 104) rfl rfl rfl ?_
  refine ev_getfield (pc' := 107) (w := .ref 124) rfl rfl rfl rfl ?_
  refine ev_iload_n (pc' := 108) rfl rfl rfl ?_
  obtain ⟨hg6, h⟩ := am_g_some h
  refine ev_iaload (pc' := 109) rfl rfl rfl hg6 ?_
  rcases am_if h with ⟨hc7, h⟩ | ⟨hc7, h⟩
  · refine ev_ic_t (pc' := 121) rfl rfl (cb_ge_t hc7) ?_
    refine ev_aload_n (pc' := 122) rfl rfl rfl ?_
    refine ev_getfield (pc' := 125) (w := .ref 124) rfl rfl rfl rfl ?_
    refine ev_iload_n (pc' := 126) rfl rfl rfl ?_
    obtain ⟨hg8, h⟩ := am_g_some h
    refine ev_iaload (pc' := 127) rfl rfl rfl hg8 ?_
    exact fm_tellWays_b127_e (hk36 := hk36) h
  · refine ev_ic_f (pc' := 112) rfl (by decide) rfl (cb_ge_f hc7) ?_
    refine ev_aload_n (pc' := 113) rfl rfl rfl ?_
    refine ev_getfield (pc' := 116) (w := .ref 91) rfl rfl rfl rfl ?_
    refine ev_iload_n (pc' := 117) rfl rfl rfl ?_
    obtain ⟨hg9, h⟩ := am_g_some h
    refine ev_iaload (pc' := 118) rfl rfl rfl hg9 ?_
    refine ev_goto (pc' := 127) rfl rfl ?_
    exact fm_tellWays_b127_e (hk36 := hk36) h
def fm_tellWays_b244 (N : Nat) (k149 : Int32 → am_S → Option am_S) (k157 : Int32 → Int32 → am_S → Option am_S) (k166 : Int32 → Int32 → Int32 → am_S → Option am_S) (x2 : Int32) (x3 : Int32) (x4 : Int32) (s0 : Int32) (s1 : Int32) (σ : am_S) : Option am_S := am_g (am_in s1 144) <| k166 x2 x3 (x4 + (1 : Int32)) (am_up σ 124 s1.toNatClampNeg s0)
set_option maxRecDepth 100000 in
theorem fm_tellWays_b244_e {X : Nat} {xs : Nat → Int32} {d : Nat} {N : Nat} {k149 : Int32 → am_S → Option am_S} (hk149 : ∀ {x2 : Int32} {w1 : Value} {w3 : Value} {w4 : Value} {w5 : Value} {σ : am_S} {o : am_S}, k149 x2 σ = some o → am_Ev am_sh (am_exx X xs) (d + 0) mm_147 149 [.ref 85, w1, .int x2, w3, w4, w5] [] σ (none) o) {k157 : Int32 → Int32 → am_S → Option am_S} (hk157 : ∀ {x2 : Int32} {x3 : Int32} {w1 : Value} {w4 : Value} {w5 : Value} {σ : am_S} {o : am_S}, k157 x2 x3 σ = some o → am_Ev am_sh (am_exx X xs) (d + 0) mm_147 157 [.ref 85, w1, .int x2, .int x3, w4, w5] [] σ (none) o) {k166 : Int32 → Int32 → Int32 → am_S → Option am_S} (hk166 : ∀ {x2 : Int32} {x3 : Int32} {x4 : Int32} {w1 : Value} {w5 : Value} {σ : am_S} {o : am_S}, k166 x2 x3 x4 σ = some o → am_Ev am_sh (am_exx X xs) (d + 0) mm_147 166 [.ref 85, w1, .int x2, .int x3, .int x4, w5] [] σ (none) o) {x2 : Int32} {x3 : Int32} {x4 : Int32} {s0 : Int32} {s1 : Int32} {w1 : Value} {w5 : Value} {σ : am_S} {o : am_S} (h : fm_tellWays_b244 N k149 k157 k166 x2 x3 x4 s0 s1 σ = some o) : am_Ev am_sh (am_exx X xs) (d + 0) mm_147 244 [.ref 85, w1, .int x2, .int x3, .int x4, w5] [.int s0, .int s1, .ref 124] σ (none) o := by
  unfold fm_tellWays_b244 at h
  obtain ⟨hg1, h⟩ := am_g_some h
  refine ev_iastore (pc' := 245) rfl rfl rfl hg1 ?_
  refine ev_iinc (pc' := 248) (L' := [.ref 85, w1, .int x2, .int x3, .int (x4 + (1 : Int32)), w5]) (b := (1 : Int32)) rfl rfl rfl rfl rfl ?_
  refine ev_goto (pc' := 166) rfl rfl ?_
  exact hk166 h
def fm_tellWays_b166 (N : Nat) (k149 : Int32 → am_S → Option am_S) (k157 : Int32 → Int32 → am_S → Option am_S) : Nat → Int32 → Int32 → Int32 → am_S → Option am_S
  | 0, _, _, _, _ => none
  | n + 1, x2, x3, x4, σ => (if (12 : Int32) ≤ x4 then k157 x2 (x3 + (1 : Int32)) σ else am_g (am_in (((12 : Int32) * x3) + x2) 144) <| am_g (am_in (((12 : Int32) * x2) + x4) 144) <| am_g (am_in (((12 : Int32) * x3) + x4) 144) <| (if (σ 124 (((12 : Int32) * x3) + x4).toNatClampNeg) ≤ ((σ 124 (((12 : Int32) * x3) + x2).toNatClampNeg) + (σ 124 (((12 : Int32) * x2) + x4).toNatClampNeg)) then am_g (am_in (((12 : Int32) * x3) + x4) 144) <| fm_tellWays_b244 N k149 k157 (fun x2 x3 x4 σ => fm_tellWays_b166 N k149 k157 n x2 x3 x4 σ) x2 x3 x4 (σ 124 (((12 : Int32) * x3) + x4).toNatClampNeg) (((12 : Int32) * x3) + x4) σ else fm_tellWays_b244 N k149 k157 (fun x2 x3 x4 σ => fm_tellWays_b166 N k149 k157 n x2 x3 x4 σ) x2 x3 x4 ((σ 124 (((12 : Int32) * x3) + x2).toNatClampNeg) + (σ 124 (((12 : Int32) * x2) + x4).toNatClampNeg)) (((12 : Int32) * x3) + x4) σ))
set_option maxRecDepth 100000 in
theorem fm_tellWays_b166_e {X : Nat} {xs : Nat → Int32} {d : Nat} {N : Nat} {k149 : Int32 → am_S → Option am_S} (hk149 : ∀ {x2 : Int32} {w1 : Value} {w3 : Value} {w4 : Value} {w5 : Value} {σ : am_S} {o : am_S}, k149 x2 σ = some o → am_Ev am_sh (am_exx X xs) (d + 0) mm_147 149 [.ref 85, w1, .int x2, w3, w4, w5] [] σ (none) o) {k157 : Int32 → Int32 → am_S → Option am_S} (hk157 : ∀ {x2 : Int32} {x3 : Int32} {w1 : Value} {w4 : Value} {w5 : Value} {σ : am_S} {o : am_S}, k157 x2 x3 σ = some o → am_Ev am_sh (am_exx X xs) (d + 0) mm_147 157 [.ref 85, w1, .int x2, .int x3, w4, w5] [] σ (none) o) : ∀ {n : Nat} {x2 : Int32} {x3 : Int32} {x4 : Int32} {w1 : Value} {w5 : Value} {σ : am_S} {o : am_S}, fm_tellWays_b166 N k149 k157 n x2 x3 x4 σ = some o → am_Ev am_sh (am_exx X xs) (d + 0) mm_147 166 [.ref 85, w1, .int x2, .int x3, .int x4, w5] [] σ (none) o := by
  intro n
  induction n with
  | zero => intro x2 x3 x4 w1 w5 σ o h; cases h
  | succ n ih =>
    intro x2 x3 x4 w1 w5 σ o h
    unfold fm_tellWays_b166 at h
    refine ev_iload (pc' := 168) rfl rfl rfl ?_
    refine ev_bipush (pc' := 170) (b := (12 : Int32)) rfl rfl rfl ?_
    rcases am_if h with ⟨hc1, h⟩ | ⟨hc1, h⟩
    · refine ev_ic_t (pc' := 251) rfl rfl (cb_ge_t hc1) ?_
      refine ev_iinc (pc' := 254) (L' := [.ref 85, w1, .int x2, .int (x3 + (1 : Int32)), .int x4, w5]) (b := (1 : Int32)) rfl rfl rfl rfl rfl ?_
      refine ev_goto (pc' := 157) rfl rfl ?_
      exact hk157 h
    · refine ev_ic_f (pc' := 173) rfl (by decide) rfl (cb_ge_f hc1) ?_
      refine ev_aload_n (pc' := 174) rfl rfl rfl ?_
      refine ev_getfield (pc' := 177) (w := .ref 124) rfl rfl rfl rfl ?_
      refine ev_bipush (pc' := 179) (b := (12 : Int32)) rfl rfl rfl ?_
      refine ev_iload_n (pc' := 180) rfl rfl rfl ?_
      refine ev_imul (pc' := 181) rfl rfl ?_
      refine ev_iload_n (pc' := 182) rfl rfl rfl ?_
      refine ev_iadd (pc' := 183) rfl rfl ?_
      obtain ⟨hg2, h⟩ := am_g_some h
      refine ev_iaload (pc' := 184) rfl rfl rfl hg2 ?_
      refine ev_aload_n (pc' := 185) rfl rfl rfl ?_
      refine ev_getfield (pc' := 188) (w := .ref 124) rfl rfl rfl rfl ?_
      refine ev_bipush (pc' := 190) (b := (12 : Int32)) rfl rfl rfl ?_
      refine ev_iload_n (pc' := 191) rfl rfl rfl ?_
      refine ev_imul (pc' := 192) rfl rfl ?_
      refine ev_iload (pc' := 194) rfl rfl rfl ?_
      refine ev_iadd (pc' := 195) rfl rfl ?_
      obtain ⟨hg3, h⟩ := am_g_some h
      refine ev_iaload (pc' := 196) rfl rfl rfl hg3 ?_
      refine ev_iadd (pc' := 197) rfl rfl ?_
      refine ev_istore (pc' := 199) (L' := [.ref 85, w1, .int x2, .int x3, .int x4, .int ((σ 124 (((12 : Int32) * x3) + x2).toNatClampNeg) + (σ 124 (((12 : Int32) * x2) + x4).toNatClampNeg))]) rfl rfl rfl rfl ?_
      refine ev_aload_n (pc' := 200) rfl rfl rfl ?_
      refine ev_getfield (pc' := 203) (w := .ref 124) rfl rfl rfl rfl ?_
      refine ev_bipush (pc' := 205) (b := (12 : Int32)) rfl rfl rfl ?_
      refine ev_iload_n (pc' := 206) rfl rfl rfl ?_
      refine ev_imul (pc' := 207) rfl rfl ?_
      refine ev_iload (pc' := 209) rfl rfl rfl ?_
      refine ev_iadd (pc' := 210) rfl rfl ?_
      refine ev_iload (pc' := 212) rfl rfl rfl ?_
      refine ev_aload_n (pc' := 213) rfl rfl rfl ?_
      refine ev_getfield (pc' := 216) (w := .ref 124) rfl rfl rfl rfl ?_
      refine ev_bipush (pc' := 218) (b := (12 : Int32)) rfl rfl rfl ?_
      refine ev_iload_n (pc' := 219) rfl rfl rfl ?_
      refine ev_imul (pc' := 220) rfl rfl ?_
      refine ev_iload (pc' := 222) rfl rfl rfl ?_
      refine ev_iadd (pc' := 223) rfl rfl ?_
      obtain ⟨hg4, h⟩ := am_g_some h
      refine ev_iaload (pc' := 224) rfl rfl rfl hg4 ?_
      rcases am_if h with ⟨hc5, h⟩ | ⟨hc5, h⟩
      · refine ev_ic_t (pc' := 232) rfl rfl (cb_ge_t hc5) ?_
        refine ev_aload_n (pc' := 233) rfl rfl rfl ?_
        refine ev_getfield (pc' := 236) (w := .ref 124) rfl rfl rfl rfl ?_
        refine ev_bipush (pc' := 238) (b := (12 : Int32)) rfl rfl rfl ?_
        refine ev_iload_n (pc' := 239) rfl rfl rfl ?_
        refine ev_imul (pc' := 240) rfl rfl ?_
        refine ev_iload (pc' := 242) rfl rfl rfl ?_
        refine ev_iadd (pc' := 243) rfl rfl ?_
        obtain ⟨hg6, h⟩ := am_g_some h
        refine ev_iaload (pc' := 244) rfl rfl rfl hg6 ?_
        exact fm_tellWays_b244_e (hk149 := hk149) (hk157 := hk157) (hk166 := fun h => ih h) h
      · refine ev_ic_f (pc' := 227) rfl (by decide) rfl (cb_ge_f hc5) ?_
        refine ev_iload (pc' := 229) rfl rfl rfl ?_
        refine ev_goto (pc' := 244) rfl rfl ?_
        exact fm_tellWays_b244_e (hk149 := hk149) (hk157 := hk157) (hk166 := fun h => ih h) h
def fm_tellWays_b157 (N : Nat) (k149 : Int32 → am_S → Option am_S) : Nat → Int32 → Int32 → am_S → Option am_S
  | 0, _, _, _ => none
  | n + 1, x2, x3, σ => (if (12 : Int32) ≤ x3 then k149 (x2 + (1 : Int32)) σ else fm_tellWays_b166 N k149 (fun x2 x3 σ => fm_tellWays_b157 N k149 n x2 x3 σ) N x2 x3 (0 : Int32) σ)
set_option maxRecDepth 100000 in
theorem fm_tellWays_b157_e {X : Nat} {xs : Nat → Int32} {d : Nat} {N : Nat} {k149 : Int32 → am_S → Option am_S} (hk149 : ∀ {x2 : Int32} {w1 : Value} {w3 : Value} {w4 : Value} {w5 : Value} {σ : am_S} {o : am_S}, k149 x2 σ = some o → am_Ev am_sh (am_exx X xs) (d + 0) mm_147 149 [.ref 85, w1, .int x2, w3, w4, w5] [] σ (none) o) : ∀ {n : Nat} {x2 : Int32} {x3 : Int32} {w1 : Value} {w4 : Value} {w5 : Value} {σ : am_S} {o : am_S}, fm_tellWays_b157 N k149 n x2 x3 σ = some o → am_Ev am_sh (am_exx X xs) (d + 0) mm_147 157 [.ref 85, w1, .int x2, .int x3, w4, w5] [] σ (none) o := by
  intro n
  induction n with
  | zero => intro x2 x3 w1 w4 w5 σ o h; cases h
  | succ n ih =>
    intro x2 x3 w1 w4 w5 σ o h
    unfold fm_tellWays_b157 at h
    refine ev_iload_n (pc' := 158) rfl rfl rfl ?_
    refine ev_bipush (pc' := 160) (b := (12 : Int32)) rfl rfl rfl ?_
    rcases am_if h with ⟨hc1, h⟩ | ⟨hc1, h⟩
    · refine ev_ic_t (pc' := 257) rfl rfl (cb_ge_t hc1) ?_
      refine ev_iinc (pc' := 260) (L' := [.ref 85, w1, .int (x2 + (1 : Int32)), .int x3, w4, w5]) (b := (1 : Int32)) rfl rfl rfl rfl rfl ?_
      refine ev_goto (pc' := 149) rfl rfl ?_
      exact hk149 h
    · refine ev_ic_f (pc' := 163) rfl (by decide) rfl (cb_ge_f hc1) ?_
      refine ev_iconst (pc' := 164) (b := (0 : Int32)) rfl rfl rfl ?_
      refine ev_istore (pc' := 166) (L' := [.ref 85, w1, .int x2, .int x3, .int (0 : Int32), w5]) rfl rfl rfl rfl ?_
      exact fm_tellWays_b166_e (hk149 := hk149) (hk157 := fun h => ih h) h
def fm_tellWays_b149 (N : Nat) : Nat → Int32 → am_S → Option am_S
  | 0, _, _ => none
  | n + 1, x2, σ => (if (12 : Int32) ≤ x2 then some σ else fm_tellWays_b157 N (fun x2 σ => fm_tellWays_b149 N n x2 σ) N x2 (0 : Int32) σ)
set_option maxRecDepth 100000 in
theorem fm_tellWays_b149_e {X : Nat} {xs : Nat → Int32} {d : Nat} {N : Nat} : ∀ {n : Nat} {x2 : Int32} {w1 : Value} {w3 : Value} {w4 : Value} {w5 : Value} {σ : am_S} {o : am_S}, fm_tellWays_b149 N n x2 σ = some o → am_Ev am_sh (am_exx X xs) (d + 0) mm_147 149 [.ref 85, w1, .int x2, w3, w4, w5] [] σ (none) o := by
  intro n
  induction n with
  | zero => intro x2 w1 w3 w4 w5 σ o h; cases h
  | succ n ih =>
    intro x2 w1 w3 w4 w5 σ o h
    unfold fm_tellWays_b149 at h
    refine ev_iload_n (pc' := 150) rfl rfl rfl ?_
    refine ev_bipush (pc' := 152) (b := (12 : Int32)) rfl rfl rfl ?_
    rcases am_if h with ⟨hc1, h⟩ | ⟨hc1, h⟩
    · refine ev_ic_t (pc' := 263) rfl rfl (cb_ge_t hc1) ?_
      obtain rfl := Option.some.inj h
      exact ev_return rfl rfl
    · refine ev_ic_f (pc' := 155) rfl (by decide) rfl (cb_ge_f hc1) ?_
      refine ev_iconst (pc' := 156) (b := (0 : Int32)) rfl rfl rfl ?_
      refine ev_istore_n (pc' := 157) (L' := [.ref 85, w1, .int x2, .int (0 : Int32), w4, w5]) rfl rfl rfl rfl ?_
      exact fm_tellWays_b157_e (hk149 := fun h => ih h) h
def fm_tellWays_b36 (N : Nat) : Nat → Int32 → Int32 → am_S → Option am_S
  | 0, _, _, _ => none
  | n + 1, x1, x2, σ => (if (σ 85 5) ≤ x2 then fm_tellWays_b149 N N (0 : Int32) σ else am_g (am_in x2 30) <| (if (σ 92 x2.toNatClampNeg) = 0 then (if x1 = 0 then fm_tellWays_b57 N (fun x1 x2 σ => fm_tellWays_b36 N n x1 x2 σ) x1 x2 σ else fm_tellWays_b141 N (fun x1 x2 σ => fm_tellWays_b36 N n x1 x2 σ) x1 x2 σ) else fm_tellWays_b57 N (fun x1 x2 σ => fm_tellWays_b36 N n x1 x2 σ) x1 x2 σ))
set_option maxRecDepth 100000 in
theorem fm_tellWays_b36_e {X : Nat} {xs : Nat → Int32} {d : Nat} {N : Nat} : ∀ {n : Nat} {x1 : Int32} {x2 : Int32} {w3 : Value} {w4 : Value} {w5 : Value} {σ : am_S} {o : am_S}, fm_tellWays_b36 N n x1 x2 σ = some o → am_Ev am_sh (am_exx X xs) (d + 0) mm_147 36 [.ref 85, .int x1, .int x2, w3, w4, w5] [] σ (none) o := by
  intro n
  induction n with
  | zero => intro x1 x2 w3 w4 w5 σ o h; cases h
  | succ n ih =>
    intro x1 x2 w3 w4 w5 σ o h
    unfold fm_tellWays_b36 at h
    refine ev_iload_n (pc' := 37) rfl rfl rfl ?_
    refine ev_aload_n (pc' := 38) rfl rfl rfl ?_
    refine ev_getfield (pc' := 41) (w := .int (σ 85 5)) rfl rfl rfl rfl ?_
    rcases am_if h with ⟨hc1, h⟩ | ⟨hc1, h⟩
    · refine ev_ic_t (pc' := 147) rfl rfl (cb_ge_t hc1) ?_
      refine ev_iconst (pc' := 148) (b := (0 : Int32)) rfl rfl rfl ?_
      refine ev_istore_n (pc' := 149) (L' := [.ref 85, .int x1, .int (0 : Int32), w3, w4, w5]) rfl rfl rfl rfl ?_
      exact fm_tellWays_b149_e h
    · refine ev_ic_f (pc' := 44) rfl (by decide) rfl (cb_ge_f hc1) ?_
      refine ev_aload_n (pc' := 45) rfl rfl rfl ?_
      refine ev_getfield (pc' := 48) (w := .ref 92) rfl rfl rfl rfl ?_
      refine ev_iload_n (pc' := 49) rfl rfl rfl ?_
      obtain ⟨hg2, h⟩ := am_g_some h
      refine ev_baload (pc' := 50) rfl rfl rfl hg2 ?_
      rcases am_if h with ⟨hc3, h⟩ | ⟨hc3, h⟩
      · refine ev_if_f (pc' := 53) rfl (by decide) rfl (cb_ne_f hc3) ?_
        refine ev_iload_n (pc' := 54) rfl rfl rfl ?_
        rcases am_if h with ⟨hc4, h⟩ | ⟨hc4, h⟩
        · refine ev_if_f (pc' := 57) rfl (by decide) rfl (cb_ne_f hc4) ?_
          exact fm_tellWays_b57_e (hk36 := fun h => ih h) h
        · refine ev_if_t (pc' := 141) rfl rfl (cb_ne_t hc4) ?_
          exact fm_tellWays_b141_e (hk36 := fun h => ih h) h
      · refine ev_if_t (pc' := 57) rfl rfl (cb_ne_t hc3) ?_
        exact fm_tellWays_b57_e (hk36 := fun h => ih h) h
def fm_tellWays_b2 (N : Nat) : Nat → Int32 → Int32 → am_S → Option am_S
  | 0, _, _, _ => none
  | n + 1, x1, x2, σ => (if (144 : Int32) ≤ x2 then fm_tellWays_b36 N N x1 (0 : Int32) σ else (if (x2 - x2 / (13 : Int32) * (13 : Int32)) = 0 then fm_tellWays_b27 N (fun x1 x2 σ => fm_tellWays_b2 N n x1 x2 σ) x1 x2 (0 : Int32) x2 σ else fm_tellWays_b27 N (fun x1 x2 σ => fm_tellWays_b2 N n x1 x2 σ) x1 x2 (100000 : Int32) x2 σ))
set_option maxRecDepth 100000 in
theorem fm_tellWays_b2_e {X : Nat} {xs : Nat → Int32} {d : Nat} {N : Nat} : ∀ {n : Nat} {x1 : Int32} {x2 : Int32} {w3 : Value} {w4 : Value} {w5 : Value} {σ : am_S} {o : am_S}, fm_tellWays_b2 N n x1 x2 σ = some o → am_Ev am_sh (am_exx X xs) (d + 0) mm_147 2 [.ref 85, .int x1, .int x2, w3, w4, w5] [] σ (none) o := by
  intro n
  induction n with
  | zero => intro x1 x2 w3 w4 w5 σ o h; cases h
  | succ n ih =>
    intro x1 x2 w3 w4 w5 σ o h
    unfold fm_tellWays_b2 at h
    refine ev_iload_n (pc' := 3) rfl rfl rfl ?_
    refine ev_sipush (pc' := 6) (b := (144 : Int32)) rfl rfl rfl ?_
    rcases am_if h with ⟨hc1, h⟩ | ⟨hc1, h⟩
    · refine ev_ic_t (pc' := 34) rfl rfl (cb_ge_t hc1) ?_
      refine ev_iconst (pc' := 35) (b := (0 : Int32)) rfl rfl rfl ?_
      refine ev_istore_n (pc' := 36) (L' := [.ref 85, .int x1, .int (0 : Int32), w3, w4, w5]) rfl rfl rfl rfl ?_
      exact fm_tellWays_b36_e h
    · refine ev_ic_f (pc' := 9) rfl (by decide) rfl (cb_ge_f hc1) ?_
      refine ev_aload_n (pc' := 10) rfl rfl rfl ?_
      refine ev_getfield (pc' := 13) (w := .ref 124) rfl rfl rfl rfl ?_
      refine ev_iload_n (pc' := 14) rfl rfl rfl ?_
      refine ev_iload_n (pc' := 15) rfl rfl rfl ?_
      refine ev_bipush (pc' := 17) (b := (13 : Int32)) rfl rfl rfl ?_
      refine ev_irem (pc' := 18) rfl rfl (by decide) ?_
      rcases am_if h with ⟨hc2, h⟩ | ⟨hc2, h⟩
      · refine ev_if_f (pc' := 21) rfl (by decide) rfl (cb_ne_f hc2) ?_
        refine ev_iconst (pc' := 22) (b := (0 : Int32)) rfl rfl rfl ?_
        refine ev_goto (pc' := 27) rfl rfl ?_
        exact fm_tellWays_b27_e (hk2 := fun h => ih h) h
      · refine ev_if_t (pc' := 25) rfl rfl (cb_ne_t hc2) ?_
        refine ev_ldc (pc' := 27) (b := (100000 : Int32)) rfl rfl rfl ?_
        exact fm_tellWays_b27_e (hk2 := fun h => ih h) h
def fm_tellWays (N : Nat) (a1 : Int32) (σ : am_S) : Option am_S := fm_tellWays_b2 N N a1 (0 : Int32) σ
set_option maxRecDepth 100000 in
theorem fm_tellWays_e {X : Nat} {xs : Nat → Int32} {d : Nat} {N : Nat} {a1 : Int32} {σ : am_S} {o : am_S} (h : fm_tellWays N a1 σ = some o) : am_Ev am_sh (am_exx X xs) (d + 0) mm_147 0 [.ref 85, .int a1, .null, .null, .null, .null] [] σ (none) o := by
  unfold fm_tellWays at h
  refine ev_iconst (pc' := 1) (b := (0 : Int32)) rfl rfl rfl ?_
  refine ev_istore_n (pc' := 2) (L' := [.ref 85, .int a1, .int (0 : Int32), .null, .null, .null]) rfl rfl rfl rfl ?_
  exact fm_tellWays_b2_e h
/-! PartedLandModel.far (85, 'I', 'I', 'I'): S -/
def fm_far_b25 (N : Nat) (σ : am_S) : Option (Int32 × am_S) := (fm_finding (1 : Int32) σ).bind fun q1 => some (q1.1, q1.2)
set_option maxRecDepth 100000 in
theorem fm_far_b25_e {X : Nat} {xs : Nat → Int32} {d : Nat} {N : Nat} {w1 : Value} {w2 : Value} {w3 : Value} {σ : am_S} {o : Int32 × am_S} (h : fm_far_b25 N σ = some o) : am_Ev am_sh (am_exx X xs) (d + 1) mm_148 25 [.ref 85, w1, w2, w3] [] σ (some (.int o.1)) o.2 := by
  unfold fm_far_b25 at h
  refine ev_aload_n (pc' := 26) rfl rfl rfl ?_
  refine ev_iconst (pc' := 27) (b := (1 : Int32)) rfl rfl rfl ?_
  refine am_bd h (fun q1 hq1 h => ?_)
  refine ev_call (mi := 159) (as := [.ref 85, .int (1 : Int32)]) (rest := []) rfl rfl (Nat.le_of_ble_eq_true rfl) (fm_finding_e (d := d) hq1) ?_
  show am_Ev _ _ _ _ 30 _ _ _ _ _
  obtain rfl := Option.some.inj h
  exact ev_ireturn rfl rfl
def fm_far_b42 (N : Nat) (x1 : Int32) (x2 : Int32) (s0 : Int32) (σ : am_S) : Option (Int32 × am_S) := (fm_tellWays N s0 σ).bind fun q1 => am_g (am_in (((12 : Int32) * x1) + x2) 144) <| (if (q1 124 (((12 : Int32) * x1) + x2).toNatClampNeg) < (100000 : Int32) then am_g (am_in (((12 : Int32) * x1) + x2) 144) <| some ((q1 124 (((12 : Int32) * x1) + x2).toNatClampNeg), q1) else (fm_finding (2 : Int32) q1).bind fun q5 => some (q5.1, q5.2))
set_option maxRecDepth 100000 in
theorem fm_far_b42_e {X : Nat} {xs : Nat → Int32} {d : Nat} {N : Nat} {x1 : Int32} {x2 : Int32} {s0 : Int32} {w3 : Value} {σ : am_S} {o : Int32 × am_S} (h : fm_far_b42 N x1 x2 s0 σ = some o) : am_Ev am_sh (am_exx X xs) (d + 1) mm_148 42 [.ref 85, .int x1, .int x2, w3] [.int s0, .ref 85] σ (some (.int o.1)) o.2 := by
  unfold fm_far_b42 at h
  refine am_bd h (fun q1 hq1 h => ?_)
  refine ev_call (mi := 147) (as := [.ref 85, .int s0]) (rest := []) rfl rfl (Nat.le_of_ble_eq_true rfl) (fm_tellWays_e (d := d) hq1) ?_
  show am_Ev _ _ _ _ 45 _ _ _ _ _
  refine ev_aload_n (pc' := 46) rfl rfl rfl ?_
  refine ev_getfield (pc' := 49) (w := .ref 124) rfl rfl rfl rfl ?_
  refine ev_bipush (pc' := 51) (b := (12 : Int32)) rfl rfl rfl ?_
  refine ev_iload_n (pc' := 52) rfl rfl rfl ?_
  refine ev_imul (pc' := 53) rfl rfl ?_
  refine ev_iload_n (pc' := 54) rfl rfl rfl ?_
  refine ev_iadd (pc' := 55) rfl rfl ?_
  obtain ⟨hg2, h⟩ := am_g_some h
  refine ev_iaload (pc' := 56) rfl rfl rfl hg2 ?_
  refine ev_ldc (pc' := 58) (b := (100000 : Int32)) rfl rfl rfl ?_
  rcases am_if h with ⟨hc3, h⟩ | ⟨hc3, h⟩
  · refine ev_ic_t (pc' := 69) rfl rfl (cb_lt_t hc3) ?_
    refine ev_aload_n (pc' := 70) rfl rfl rfl ?_
    refine ev_getfield (pc' := 73) (w := .ref 124) rfl rfl rfl rfl ?_
    refine ev_bipush (pc' := 75) (b := (12 : Int32)) rfl rfl rfl ?_
    refine ev_iload_n (pc' := 76) rfl rfl rfl ?_
    refine ev_imul (pc' := 77) rfl rfl ?_
    refine ev_iload_n (pc' := 78) rfl rfl rfl ?_
    refine ev_iadd (pc' := 79) rfl rfl ?_
    obtain ⟨hg4, h⟩ := am_g_some h
    refine ev_iaload (pc' := 80) rfl rfl rfl hg4 ?_
    obtain rfl := Option.some.inj h
    exact ev_ireturn rfl rfl
  · refine ev_ic_f (pc' := 61) rfl (by decide) rfl (cb_lt_f hc3) ?_
    refine ev_aload_n (pc' := 62) rfl rfl rfl ?_
    refine ev_iconst (pc' := 63) (b := (2 : Int32)) rfl rfl rfl ?_
    refine am_bd h (fun q5 hq5 h => ?_)
    refine ev_call (mi := 159) (as := [.ref 85, .int (2 : Int32)]) (rest := []) rfl rfl (Nat.le_of_ble_eq_true rfl) (fm_finding_e (d := d) hq5) ?_
    show am_Ev _ _ _ _ 66 _ _ _ _ _
    refine ev_goto (pc' := 80) rfl rfl ?_
    obtain rfl := Option.some.inj h
    exact ev_ireturn rfl rfl
def fm_far (N : Nat) (a1 : Int32) (a2 : Int32) (a3 : Int32) (σ : am_S) : Option (Int32 × am_S) := (if (fm_isParish a1 σ) = 0 then fm_far_b25 N σ else (if (fm_isParish a2 σ) = 0 then fm_far_b25 N σ else (if (fm_isIn a3 (0 : Int32) (1 : Int32) σ) = 0 then fm_far_b25 N σ else (if a3 = (1 : Int32) then fm_far_b42 N a1 a2 (1 : Int32) σ else fm_far_b42 N a1 a2 (0 : Int32) σ))))
set_option maxRecDepth 100000 in
theorem fm_far_e {X : Nat} {xs : Nat → Int32} {d : Nat} {N : Nat} {a1 : Int32} {a2 : Int32} {a3 : Int32} {σ : am_S} {o : Int32 × am_S} (h : fm_far N a1 a2 a3 σ = some o) : am_Ev am_sh (am_exx X xs) (d + 1) mm_148 0 [.ref 85, .int a1, .int a2, .int a3] [] σ (some (.int o.1)) o.2 := by
  unfold fm_far at h
  refine ev_aload_n (pc' := 1) rfl rfl rfl ?_
  refine ev_iload_n (pc' := 2) rfl rfl rfl ?_
  refine ev_call (mi := 181) (as := [.ref 85, .int a1]) (rest := []) rfl rfl (Nat.le_of_ble_eq_true rfl) (fm_isParish_e (d := d) rfl) ?_
  show am_Ev _ _ _ _ 5 _ _ _ _ _
  rcases am_if h with ⟨hc1, h⟩ | ⟨hc1, h⟩
  · refine ev_if_t (pc' := 25) rfl rfl (cb_eq_t hc1) ?_
    exact fm_far_b25_e h
  · refine ev_if_f (pc' := 8) rfl (by decide) rfl (cb_eq_f hc1) ?_
    refine ev_aload_n (pc' := 9) rfl rfl rfl ?_
    refine ev_iload_n (pc' := 10) rfl rfl rfl ?_
    refine ev_call (mi := 181) (as := [.ref 85, .int a2]) (rest := []) rfl rfl (Nat.le_of_ble_eq_true rfl) (fm_isParish_e (d := d) rfl) ?_
    show am_Ev _ _ _ _ 13 _ _ _ _ _
    rcases am_if h with ⟨hc2, h⟩ | ⟨hc2, h⟩
    · refine ev_if_t (pc' := 25) rfl rfl (cb_eq_t hc2) ?_
      exact fm_far_b25_e h
    · refine ev_if_f (pc' := 16) rfl (by decide) rfl (cb_eq_f hc2) ?_
      refine ev_iload_n (pc' := 17) rfl rfl rfl ?_
      refine ev_iconst (pc' := 18) (b := (0 : Int32)) rfl rfl rfl ?_
      refine ev_iconst (pc' := 19) (b := (1 : Int32)) rfl rfl rfl ?_
      refine ev_call (mi := 170) (as := [.int a3, .int (0 : Int32), .int (1 : Int32)]) (rest := []) rfl rfl (Nat.le_of_ble_eq_true rfl) (fm_isIn_e (d := d) rfl) ?_
      show am_Ev _ _ _ _ 22 _ _ _ _ _
      rcases am_if h with ⟨hc3, h⟩ | ⟨hc3, h⟩
      · refine ev_if_f (pc' := 25) rfl (by decide) rfl (cb_ne_f hc3) ?_
        exact fm_far_b25_e h
      · refine ev_if_t (pc' := 31) rfl rfl (cb_ne_t hc3) ?_
        refine ev_aload_n (pc' := 32) rfl rfl rfl ?_
        refine ev_iload_n (pc' := 33) rfl rfl rfl ?_
        refine ev_iconst (pc' := 34) (b := (1 : Int32)) rfl rfl rfl ?_
        rcases am_if h with ⟨hc4, h⟩ | ⟨hc4, h⟩
        · refine ev_ic_f (pc' := 37) rfl (by decide) rfl (cb_ne_f hc4) ?_
          refine ev_iconst (pc' := 38) (b := (1 : Int32)) rfl rfl rfl ?_
          refine ev_goto (pc' := 42) rfl rfl ?_
          exact fm_far_b42_e h
        · refine ev_ic_t (pc' := 41) rfl rfl (cb_ne_t hc4) ?_
          refine ev_iconst (pc' := 42) (b := (0 : Int32)) rfl rfl rfl ?_
          exact fm_far_b42_e h
/-! PartedLandModel.person (85, 'I', 'I'): S -/
def fm_person_b16 (σ : am_S) : Option (Int32 × am_S) := (fm_finding (1 : Int32) σ).bind fun q1 => some (q1.1, q1.2)
set_option maxRecDepth 100000 in
theorem fm_person_b16_e {X : Nat} {xs : Nat → Int32} {d : Nat} {w1 : Value} {w2 : Value} {σ : am_S} {o : Int32 × am_S} (h : fm_person_b16 σ = some o) : am_Ev am_sh (am_exx X xs) (d + 1) mm_149 16 [.ref 85, w1, w2] [] σ (some (.int o.1)) o.2 := by
  unfold fm_person_b16 at h
  refine ev_aload_n (pc' := 17) rfl rfl rfl ?_
  refine ev_iconst (pc' := 18) (b := (1 : Int32)) rfl rfl rfl ?_
  refine am_bd h (fun q1 hq1 h => ?_)
  refine ev_call (mi := 159) (as := [.ref 85, .int (1 : Int32)]) (rest := []) rfl rfl (Nat.le_of_ble_eq_true rfl) (fm_finding_e (d := d) hq1) ?_
  show am_Ev _ _ _ _ 21 _ _ _ _ _
  obtain rfl := Option.some.inj h
  exact ev_ireturn rfl rfl
def fm_person (a1 : Int32) (a2 : Int32) (σ : am_S) : Option (Int32 × am_S) := (if (fm_isParish a1 σ) = 0 then fm_person_b16 σ else (if (fm_isParish a2 σ) = 0 then fm_person_b16 σ else (if (σ 85 14) = (16 : Int32) then (fm_finding (4 : Int32) σ).bind fun q4 => some (q4.1, q4.2) else am_g (am_in (σ 85 14) 16) <| am_g (am_in (σ 85 14) 16) <| am_g (am_in (σ 85 14) 16) <| some ((((σ 85 14) + (1 : Int32)) - (1 : Int32)), (am_up (am_up (am_up (am_up σ 96 (σ 85 14).toNatClampNeg a1) 97 (σ 85 14).toNatClampNeg a2) 99 (σ 85 14).toNatClampNeg (-1 : Int32)) 85 14 ((σ 85 14) + (1 : Int32)))))))
set_option maxRecDepth 100000 in
theorem fm_person_e {X : Nat} {xs : Nat → Int32} {d : Nat} {a1 : Int32} {a2 : Int32} {σ : am_S} {o : Int32 × am_S} (h : fm_person a1 a2 σ = some o) : am_Ev am_sh (am_exx X xs) (d + 1) mm_149 0 [.ref 85, .int a1, .int a2] [] σ (some (.int o.1)) o.2 := by
  unfold fm_person at h
  refine ev_aload_n (pc' := 1) rfl rfl rfl ?_
  refine ev_iload_n (pc' := 2) rfl rfl rfl ?_
  refine ev_call (mi := 181) (as := [.ref 85, .int a1]) (rest := []) rfl rfl (Nat.le_of_ble_eq_true rfl) (fm_isParish_e (d := d) rfl) ?_
  show am_Ev _ _ _ _ 5 _ _ _ _ _
  rcases am_if h with ⟨hc1, h⟩ | ⟨hc1, h⟩
  · refine ev_if_t (pc' := 16) rfl rfl (cb_eq_t hc1) ?_
    exact fm_person_b16_e h
  · refine ev_if_f (pc' := 8) rfl (by decide) rfl (cb_eq_f hc1) ?_
    refine ev_aload_n (pc' := 9) rfl rfl rfl ?_
    refine ev_iload_n (pc' := 10) rfl rfl rfl ?_
    refine ev_call (mi := 181) (as := [.ref 85, .int a2]) (rest := []) rfl rfl (Nat.le_of_ble_eq_true rfl) (fm_isParish_e (d := d) rfl) ?_
    show am_Ev _ _ _ _ 13 _ _ _ _ _
    rcases am_if h with ⟨hc2, h⟩ | ⟨hc2, h⟩
    · refine ev_if_f (pc' := 16) rfl (by decide) rfl (cb_ne_f hc2) ?_
      exact fm_person_b16_e h
    · refine ev_if_t (pc' := 22) rfl rfl (cb_ne_t hc2) ?_
      refine ev_aload_n (pc' := 23) rfl rfl rfl ?_
      refine ev_getfield (pc' := 26) (w := .int (σ 85 14)) rfl rfl rfl rfl ?_
      refine ev_bipush (pc' := 28) (b := (16 : Int32)) rfl rfl rfl ?_
      rcases am_if h with ⟨hc3, h⟩ | ⟨hc3, h⟩
      · refine ev_ic_f (pc' := 31) rfl (by decide) rfl (cb_ne_f hc3) ?_
        refine ev_aload_n (pc' := 32) rfl rfl rfl ?_
        refine ev_iconst (pc' := 33) (b := (4 : Int32)) rfl rfl rfl ?_
        refine am_bd h (fun q4 hq4 h => ?_)
        refine ev_call (mi := 159) (as := [.ref 85, .int (4 : Int32)]) (rest := []) rfl rfl (Nat.le_of_ble_eq_true rfl) (fm_finding_e (d := d) hq4) ?_
        show am_Ev _ _ _ _ 36 _ _ _ _ _
        obtain rfl := Option.some.inj h
        exact ev_ireturn rfl rfl
      · refine ev_ic_t (pc' := 37) rfl rfl (cb_ne_t hc3) ?_
        refine ev_aload_n (pc' := 38) rfl rfl rfl ?_
        refine ev_getfield (pc' := 41) (w := .ref 96) rfl rfl rfl rfl ?_
        refine ev_aload_n (pc' := 42) rfl rfl rfl ?_
        refine ev_getfield (pc' := 45) (w := .int (σ 85 14)) rfl rfl rfl rfl ?_
        refine ev_iload_n (pc' := 46) rfl rfl rfl ?_
        obtain ⟨hg5, h⟩ := am_g_some h
        refine ev_iastore (pc' := 47) rfl rfl rfl hg5 ?_
        refine ev_aload_n (pc' := 48) rfl rfl rfl ?_
        refine ev_getfield (pc' := 51) (w := .ref 97) rfl rfl rfl rfl ?_
        refine ev_aload_n (pc' := 52) rfl rfl rfl ?_
        refine ev_getfield (pc' := 55) (w := .int (σ 85 14)) rfl rfl rfl rfl ?_
        refine ev_iload_n (pc' := 56) rfl rfl rfl ?_
        obtain ⟨hg6, h⟩ := am_g_some h
        refine ev_iastore (pc' := 57) rfl rfl rfl hg6 ?_
        refine ev_aload_n (pc' := 58) rfl rfl rfl ?_
        refine ev_getfield (pc' := 61) (w := .ref 99) rfl rfl rfl rfl ?_
        refine ev_aload_n (pc' := 62) rfl rfl rfl ?_
        refine ev_getfield (pc' := 65) (w := .int (σ 85 14)) rfl rfl rfl rfl ?_
        refine ev_iconst (pc' := 66) (b := (-1 : Int32)) rfl rfl rfl ?_
        obtain ⟨hg7, h⟩ := am_g_some h
        refine ev_iastore (pc' := 67) rfl rfl rfl hg7 ?_
        refine ev_aload_n (pc' := 68) rfl rfl rfl ?_
        refine ev_dup (pc' := 69) rfl rfl ?_
        refine ev_getfield (pc' := 72) (w := .int (σ 85 14)) rfl rfl rfl rfl ?_
        refine ev_iconst (pc' := 73) (b := (1 : Int32)) rfl rfl rfl ?_
        refine ev_iadd (pc' := 74) rfl rfl ?_
        refine ev_putfield (pc' := 77) (ci := 11) (f := 14) (z := 0) rfl rfl rfl rfl rfl ?_
        refine ev_aload_n (pc' := 78) rfl rfl rfl ?_
        refine ev_getfield (pc' := 81) (w := .int ((σ 85 14) + (1 : Int32))) rfl rfl rfl rfl ?_
        refine ev_iconst (pc' := 82) (b := (1 : Int32)) rfl rfl rfl ?_
        refine ev_isub (pc' := 83) rfl rfl ?_
        obtain rfl := Option.some.inj h
        exact ev_ireturn rfl rfl
/-! PartedLandModel.isPerson (85, 'I'): T -/
def fm_isPerson (a1 : Int32) (σ : am_S) : Int32 := (if a1 < 0 then (0 : Int32) else (if (σ 85 14) ≤ a1 then (0 : Int32) else (1 : Int32)))
set_option maxRecDepth 100000 in
theorem fm_isPerson_e {X : Nat} {xs : Nat → Int32} {d : Nat} {a1 : Int32} {σ : am_S} {o : Int32} (h : fm_isPerson a1 σ = o) : am_Ev am_sh (am_exx X xs) (d + 0) mm_192 0 [.ref 85, .int a1] [] σ (some (.int o)) σ := by
  unfold fm_isPerson at h
  refine ev_iload_n (pc' := 1) rfl rfl rfl ?_
  rcases am_if h with ⟨hc1, h⟩ | ⟨hc1, h⟩
  · refine ev_if_t (pc' := 16) rfl rfl (cb_lt_t hc1) ?_
    refine ev_iconst (pc' := 17) (b := (0 : Int32)) rfl rfl rfl ?_
    subst h
    exact ev_zreturn rfl rfl rfl
  · refine ev_if_f (pc' := 4) rfl (by decide) rfl (cb_lt_f hc1) ?_
    refine ev_iload_n (pc' := 5) rfl rfl rfl ?_
    refine ev_aload_n (pc' := 6) rfl rfl rfl ?_
    refine ev_getfield (pc' := 9) (w := .int (σ 85 14)) rfl rfl rfl rfl ?_
    rcases am_if h with ⟨hc2, h⟩ | ⟨hc2, h⟩
    · refine ev_ic_t (pc' := 16) rfl rfl (cb_ge_t hc2) ?_
      refine ev_iconst (pc' := 17) (b := (0 : Int32)) rfl rfl rfl ?_
      subst h
      exact ev_zreturn rfl rfl rfl
    · refine ev_ic_f (pc' := 12) rfl (by decide) rfl (cb_ge_f hc2) ?_
      refine ev_iconst (pc' := 13) (b := (1 : Int32)) rfl rfl rfl ?_
      refine ev_goto (pc' := 17) rfl rfl ?_
      subst h
      exact ev_zreturn rfl rfl rfl
/-! PartedLandModel.move (85, 'I', 'I'): S -/
def fm_move_b16 (σ : am_S) : Option (Int32 × am_S) := (fm_finding (1 : Int32) σ).bind fun q1 => some (q1.1, q1.2)
set_option maxRecDepth 100000 in
theorem fm_move_b16_e {X : Nat} {xs : Nat → Int32} {d : Nat} {w1 : Value} {w2 : Value} {w3 : Value} {σ : am_S} {o : Int32 × am_S} (h : fm_move_b16 σ = some o) : am_Ev am_sh (am_exx X xs) (d + 1) mm_150 16 [.ref 85, w1, w2, w3] [] σ (some (.int o.1)) o.2 := by
  unfold fm_move_b16 at h
  refine ev_aload_n (pc' := 17) rfl rfl rfl ?_
  refine ev_iconst (pc' := 18) (b := (1 : Int32)) rfl rfl rfl ?_
  refine am_bd h (fun q1 hq1 h => ?_)
  refine ev_call (mi := 159) (as := [.ref 85, .int (1 : Int32)]) (rest := []) rfl rfl (Nat.le_of_ble_eq_true rfl) (fm_finding_e (d := d) hq1) ?_
  show am_Ev _ _ _ _ 21 _ _ _ _ _
  obtain rfl := Option.some.inj h
  exact ev_ireturn rfl rfl
def fm_move (a1 : Int32) (a2 : Int32) (σ : am_S) : Option (Int32 × am_S) := (if (fm_isPerson a1 σ) = 0 then fm_move_b16 σ else (if (fm_isParish a2 σ) = 0 then fm_move_b16 σ else am_g (am_in a1 16) <| am_g (am_in a1 16) <| some ((σ 97 a1.toNatClampNeg), (am_up σ 97 a1.toNatClampNeg a2))))
set_option maxRecDepth 100000 in
theorem fm_move_e {X : Nat} {xs : Nat → Int32} {d : Nat} {a1 : Int32} {a2 : Int32} {σ : am_S} {o : Int32 × am_S} (h : fm_move a1 a2 σ = some o) : am_Ev am_sh (am_exx X xs) (d + 1) mm_150 0 [.ref 85, .int a1, .int a2, .null] [] σ (some (.int o.1)) o.2 := by
  unfold fm_move at h
  refine ev_aload_n (pc' := 1) rfl rfl rfl ?_
  refine ev_iload_n (pc' := 2) rfl rfl rfl ?_
  refine ev_call (mi := 192) (as := [.ref 85, .int a1]) (rest := []) rfl rfl (Nat.le_of_ble_eq_true rfl) (fm_isPerson_e (d := d) rfl) ?_
  show am_Ev _ _ _ _ 5 _ _ _ _ _
  rcases am_if h with ⟨hc1, h⟩ | ⟨hc1, h⟩
  · refine ev_if_t (pc' := 16) rfl rfl (cb_eq_t hc1) ?_
    exact fm_move_b16_e h
  · refine ev_if_f (pc' := 8) rfl (by decide) rfl (cb_eq_f hc1) ?_
    refine ev_aload_n (pc' := 9) rfl rfl rfl ?_
    refine ev_iload_n (pc' := 10) rfl rfl rfl ?_
    refine ev_call (mi := 181) (as := [.ref 85, .int a2]) (rest := []) rfl rfl (Nat.le_of_ble_eq_true rfl) (fm_isParish_e (d := d) rfl) ?_
    show am_Ev _ _ _ _ 13 _ _ _ _ _
    rcases am_if h with ⟨hc2, h⟩ | ⟨hc2, h⟩
    · refine ev_if_f (pc' := 16) rfl (by decide) rfl (cb_ne_f hc2) ?_
      exact fm_move_b16_e h
    · refine ev_if_t (pc' := 22) rfl rfl (cb_ne_t hc2) ?_
      refine ev_aload_n (pc' := 23) rfl rfl rfl ?_
      refine ev_getfield (pc' := 26) (w := .ref 97) rfl rfl rfl rfl ?_
      refine ev_iload_n (pc' := 27) rfl rfl rfl ?_
      obtain ⟨hg3, h⟩ := am_g_some h
      refine ev_iaload (pc' := 28) rfl rfl rfl hg3 ?_
      refine ev_istore_n (pc' := 29) (L' := [.ref 85, .int a1, .int a2, .int (σ 97 a1.toNatClampNeg)]) rfl rfl rfl rfl ?_
      refine ev_aload_n (pc' := 30) rfl rfl rfl ?_
      refine ev_getfield (pc' := 33) (w := .ref 97) rfl rfl rfl rfl ?_
      refine ev_iload_n (pc' := 34) rfl rfl rfl ?_
      refine ev_iload_n (pc' := 35) rfl rfl rfl ?_
      obtain ⟨hg4, h⟩ := am_g_some h
      refine ev_iastore (pc' := 36) rfl rfl rfl hg4 ?_
      refine ev_iload_n (pc' := 37) rfl rfl rfl ?_
      obtain rfl := Option.some.inj h
      exact ev_ireturn rfl rfl
/-! PartedLandModel.work (85, 'I', 'I', 'I'): S -/
def fm_work_b30 (σ : am_S) : Option (Int32 × am_S) := (fm_finding (1 : Int32) σ).bind fun q1 => some (q1.1, q1.2)
set_option maxRecDepth 100000 in
theorem fm_work_b30_e {X : Nat} {xs : Nat → Int32} {d : Nat} {w1 : Value} {w2 : Value} {w3 : Value} {σ : am_S} {o : Int32 × am_S} (h : fm_work_b30 σ = some o) : am_Ev am_sh (am_exx X xs) (d + 1) mm_151 30 [.ref 85, w1, w2, w3] [] σ (some (.int o.1)) o.2 := by
  unfold fm_work_b30 at h
  refine ev_aload_n (pc' := 31) rfl rfl rfl ?_
  refine ev_iconst (pc' := 32) (b := (1 : Int32)) rfl rfl rfl ?_
  refine am_bd h (fun q1 hq1 h => ?_)
  refine ev_call (mi := 159) (as := [.ref 85, .int (1 : Int32)]) (rest := []) rfl rfl (Nat.le_of_ble_eq_true rfl) (fm_finding_e (d := d) hq1) ?_
  show am_Ev _ _ _ _ 35 _ _ _ _ _
  obtain rfl := Option.some.inj h
  exact ev_ireturn rfl rfl
def fm_work (a1 : Int32) (a2 : Int32) (a3 : Int32) (σ : am_S) : Option (Int32 × am_S) := (if (fm_isPerson a1 σ) = 0 then fm_work_b30 σ else (if (fm_isIn a2 (0 : Int32) (600 : Int32) σ) = 0 then fm_work_b30 σ else (if (fm_isIn a3 (0 : Int32) (600 : Int32) σ) = 0 then fm_work_b30 σ else am_g (am_in ((2 : Int32) * a1) 32) <| am_g (am_in (((2 : Int32) * a1) + (1 : Int32)) 32) <| some ((1 : Int32), (am_up (am_up σ 98 ((2 : Int32) * a1).toNatClampNeg a2) 98 (((2 : Int32) * a1) + (1 : Int32)).toNatClampNeg a3)))))
set_option maxRecDepth 100000 in
theorem fm_work_e {X : Nat} {xs : Nat → Int32} {d : Nat} {a1 : Int32} {a2 : Int32} {a3 : Int32} {σ : am_S} {o : Int32 × am_S} (h : fm_work a1 a2 a3 σ = some o) : am_Ev am_sh (am_exx X xs) (d + 1) mm_151 0 [.ref 85, .int a1, .int a2, .int a3] [] σ (some (.int o.1)) o.2 := by
  unfold fm_work at h
  refine ev_aload_n (pc' := 1) rfl rfl rfl ?_
  refine ev_iload_n (pc' := 2) rfl rfl rfl ?_
  refine ev_call (mi := 192) (as := [.ref 85, .int a1]) (rest := []) rfl rfl (Nat.le_of_ble_eq_true rfl) (fm_isPerson_e (d := d) rfl) ?_
  show am_Ev _ _ _ _ 5 _ _ _ _ _
  rcases am_if h with ⟨hc1, h⟩ | ⟨hc1, h⟩
  · refine ev_if_t (pc' := 30) rfl rfl (cb_eq_t hc1) ?_
    exact fm_work_b30_e h
  · refine ev_if_f (pc' := 8) rfl (by decide) rfl (cb_eq_f hc1) ?_
    refine ev_iload_n (pc' := 9) rfl rfl rfl ?_
    refine ev_iconst (pc' := 10) (b := (0 : Int32)) rfl rfl rfl ?_
    refine ev_sipush (pc' := 13) (b := (600 : Int32)) rfl rfl rfl ?_
    refine ev_call (mi := 170) (as := [.int a2, .int (0 : Int32), .int (600 : Int32)]) (rest := []) rfl rfl (Nat.le_of_ble_eq_true rfl) (fm_isIn_e (d := d) rfl) ?_
    show am_Ev _ _ _ _ 16 _ _ _ _ _
    rcases am_if h with ⟨hc2, h⟩ | ⟨hc2, h⟩
    · refine ev_if_t (pc' := 30) rfl rfl (cb_eq_t hc2) ?_
      exact fm_work_b30_e h
    · refine ev_if_f (pc' := 19) rfl (by decide) rfl (cb_eq_f hc2) ?_
      refine ev_iload_n (pc' := 20) rfl rfl rfl ?_
      refine ev_iconst (pc' := 21) (b := (0 : Int32)) rfl rfl rfl ?_
      refine ev_sipush (pc' := 24) (b := (600 : Int32)) rfl rfl rfl ?_
      refine ev_call (mi := 170) (as := [.int a3, .int (0 : Int32), .int (600 : Int32)]) (rest := []) rfl rfl (Nat.le_of_ble_eq_true rfl) (fm_isIn_e (d := d) rfl) ?_
      show am_Ev _ _ _ _ 27 _ _ _ _ _
      rcases am_if h with ⟨hc3, h⟩ | ⟨hc3, h⟩
      · refine ev_if_f (pc' := 30) rfl (by decide) rfl (cb_ne_f hc3) ?_
        exact fm_work_b30_e h
      · refine ev_if_t (pc' := 36) rfl rfl (cb_ne_t hc3) ?_
        refine ev_aload_n (pc' := 37) rfl rfl rfl ?_
        refine ev_getfield (pc' := 40) (w := .ref 98) rfl rfl rfl rfl ?_
        refine ev_iconst (pc' := 41) (b := (2 : Int32)) rfl rfl rfl ?_
        refine ev_iload_n (pc' := 42) rfl rfl rfl ?_
        refine ev_imul (pc' := 43) rfl rfl ?_
        refine ev_iload_n (pc' := 44) rfl rfl rfl ?_
        obtain ⟨hg4, h⟩ := am_g_some h
        refine ev_iastore (pc' := 45) rfl rfl rfl hg4 ?_
        refine ev_aload_n (pc' := 46) rfl rfl rfl ?_
        refine ev_getfield (pc' := 49) (w := .ref 98) rfl rfl rfl rfl ?_
        refine ev_iconst (pc' := 50) (b := (2 : Int32)) rfl rfl rfl ?_
        refine ev_iload_n (pc' := 51) rfl rfl rfl ?_
        refine ev_imul (pc' := 52) rfl rfl ?_
        refine ev_iconst (pc' := 53) (b := (1 : Int32)) rfl rfl rfl ?_
        refine ev_iadd (pc' := 54) rfl rfl ?_
        refine ev_iload_n (pc' := 55) rfl rfl rfl ?_
        obtain ⟨hg5, h⟩ := am_g_some h
        refine ev_iastore (pc' := 56) rfl rfl rfl hg5 ?_
        refine ev_iconst (pc' := 57) (b := (1 : Int32)) rfl rfl rfl ?_
        obtain rfl := Option.some.inj h
        exact ev_ireturn rfl rfl
/-! PartedLandModel.choose (85, 'I', 'I'): S -/
def fm_choose_b17 (σ : am_S) : Option (Int32 × am_S) := (fm_finding (1 : Int32) σ).bind fun q1 => some (q1.1, q1.2)
set_option maxRecDepth 100000 in
theorem fm_choose_b17_e {X : Nat} {xs : Nat → Int32} {d : Nat} {w1 : Value} {w2 : Value} {w3 : Value} {σ : am_S} {o : Int32 × am_S} (h : fm_choose_b17 σ = some o) : am_Ev am_sh (am_exx X xs) (d + 1) mm_152 17 [.ref 85, w1, w2, w3] [] σ (some (.int o.1)) o.2 := by
  unfold fm_choose_b17 at h
  refine ev_aload_n (pc' := 18) rfl rfl rfl ?_
  refine ev_iconst (pc' := 19) (b := (1 : Int32)) rfl rfl rfl ?_
  refine am_bd h (fun q1 hq1 h => ?_)
  refine ev_call (mi := 159) (as := [.ref 85, .int (1 : Int32)]) (rest := []) rfl rfl (Nat.le_of_ble_eq_true rfl) (fm_finding_e (d := d) hq1) ?_
  show am_Ev _ _ _ _ 22 _ _ _ _ _
  obtain rfl := Option.some.inj h
  exact ev_ireturn rfl rfl
def fm_choose (a1 : Int32) (a2 : Int32) (σ : am_S) : Option (Int32 × am_S) := (if (fm_isPerson a1 σ) = 0 then fm_choose_b17 σ else (if (fm_isIn a2 (-1 : Int32) (1 : Int32) σ) = 0 then fm_choose_b17 σ else am_g (am_in a1 16) <| am_g (am_in a1 16) <| am_g (am_in a1 16) <| some ((σ 99 a1.toNatClampNeg), (am_up (am_up σ 99 a1.toNatClampNeg a2) 100 a1.toNatClampNeg (σ 85 0)))))
set_option maxRecDepth 100000 in
theorem fm_choose_e {X : Nat} {xs : Nat → Int32} {d : Nat} {a1 : Int32} {a2 : Int32} {σ : am_S} {o : Int32 × am_S} (h : fm_choose a1 a2 σ = some o) : am_Ev am_sh (am_exx X xs) (d + 1) mm_152 0 [.ref 85, .int a1, .int a2, .null] [] σ (some (.int o.1)) o.2 := by
  unfold fm_choose at h
  refine ev_aload_n (pc' := 1) rfl rfl rfl ?_
  refine ev_iload_n (pc' := 2) rfl rfl rfl ?_
  refine ev_call (mi := 192) (as := [.ref 85, .int a1]) (rest := []) rfl rfl (Nat.le_of_ble_eq_true rfl) (fm_isPerson_e (d := d) rfl) ?_
  show am_Ev _ _ _ _ 5 _ _ _ _ _
  rcases am_if h with ⟨hc1, h⟩ | ⟨hc1, h⟩
  · refine ev_if_t (pc' := 17) rfl rfl (cb_eq_t hc1) ?_
    exact fm_choose_b17_e h
  · refine ev_if_f (pc' := 8) rfl (by decide) rfl (cb_eq_f hc1) ?_
    refine ev_iload_n (pc' := 9) rfl rfl rfl ?_
    refine ev_iconst (pc' := 10) (b := (-1 : Int32)) rfl rfl rfl ?_
    refine ev_iconst (pc' := 11) (b := (1 : Int32)) rfl rfl rfl ?_
    refine ev_call (mi := 170) (as := [.int a2, .int (-1 : Int32), .int (1 : Int32)]) (rest := []) rfl rfl (Nat.le_of_ble_eq_true rfl) (fm_isIn_e (d := d) rfl) ?_
    show am_Ev _ _ _ _ 14 _ _ _ _ _
    rcases am_if h with ⟨hc2, h⟩ | ⟨hc2, h⟩
    · refine ev_if_f (pc' := 17) rfl (by decide) rfl (cb_ne_f hc2) ?_
      exact fm_choose_b17_e h
    · refine ev_if_t (pc' := 23) rfl rfl (cb_ne_t hc2) ?_
      refine ev_aload_n (pc' := 24) rfl rfl rfl ?_
      refine ev_getfield (pc' := 27) (w := .ref 99) rfl rfl rfl rfl ?_
      refine ev_iload_n (pc' := 28) rfl rfl rfl ?_
      obtain ⟨hg3, h⟩ := am_g_some h
      refine ev_iaload (pc' := 29) rfl rfl rfl hg3 ?_
      refine ev_istore_n (pc' := 30) (L' := [.ref 85, .int a1, .int a2, .int (σ 99 a1.toNatClampNeg)]) rfl rfl rfl rfl ?_
      refine ev_aload_n (pc' := 31) rfl rfl rfl ?_
      refine ev_getfield (pc' := 34) (w := .ref 99) rfl rfl rfl rfl ?_
      refine ev_iload_n (pc' := 35) rfl rfl rfl ?_
      refine ev_iload_n (pc' := 36) rfl rfl rfl ?_
      obtain ⟨hg4, h⟩ := am_g_some h
      refine ev_iastore (pc' := 37) rfl rfl rfl hg4 ?_
      refine ev_aload_n (pc' := 38) rfl rfl rfl ?_
      refine ev_getfield (pc' := 41) (w := .ref 100) rfl rfl rfl rfl ?_
      refine ev_iload_n (pc' := 42) rfl rfl rfl ?_
      refine ev_aload_n (pc' := 43) rfl rfl rfl ?_
      refine ev_getfield (pc' := 46) (w := .int (σ 85 0)) rfl rfl rfl rfl ?_
      obtain ⟨hg5, h⟩ := am_g_some h
      refine ev_iastore (pc' := 47) rfl rfl rfl hg5 ?_
      refine ev_iload_n (pc' := 48) rfl rfl rfl ?_
      obtain rfl := Option.some.inj h
      exact ev_ireturn rfl rfl
/-! PartedLandModel.isGround (85, 'I'): P -/
def fm_isGround_b56 (N : Nat) (k32 : Int32 → Int32 → Int32 → am_S → Option Int32) (x1 : Int32) (x3 : Int32) (s0 : Int32) (s1 : Int32) (σ : am_S) : Option Int32 := k32 x1 (s1 &&& s0) (x3 + (1 : Int32)) σ
set_option maxRecDepth 100000 in
theorem fm_isGround_b56_e {X : Nat} {xs : Nat → Int32} {d : Nat} {N : Nat} {k32 : Int32 → Int32 → Int32 → am_S → Option Int32} (hk32 : ∀ {x1 : Int32} {x2 : Int32} {x3 : Int32} {σ : am_S} {o : Int32}, k32 x1 x2 x3 σ = some o → am_Ev am_sh (am_exx X xs) (d + 0) mm_154 32 [.ref 85, .int x1, .int x2, .int x3] [] σ (some (.int o)) σ) {x1 : Int32} {x3 : Int32} {s0 : Int32} {s1 : Int32} {w2 : Value} {σ : am_S} {o : Int32} (h : fm_isGround_b56 N k32 x1 x3 s0 s1 σ = some o) : am_Ev am_sh (am_exx X xs) (d + 0) mm_154 56 [.ref 85, .int x1, w2, .int x3] [.int s0, .int s1] σ (some (.int o)) σ := by
  unfold fm_isGround_b56 at h
  refine ev_iand (pc' := 57) rfl rfl ?_
  refine ev_istore_n (pc' := 58) (L' := [.ref 85, .int x1, .int (s1 &&& s0), .int x3]) rfl rfl rfl rfl ?_
  refine ev_iinc (pc' := 61) (L' := [.ref 85, .int x1, .int (s1 &&& s0), .int (x3 + (1 : Int32))]) (b := (1 : Int32)) rfl rfl rfl rfl rfl ?_
  refine ev_goto (pc' := 32) rfl rfl ?_
  exact hk32 h
def fm_isGround_b32 (N : Nat) : Nat → Int32 → Int32 → Int32 → am_S → Option Int32
  | 0, _, _, _, _ => none
  | n + 1, x1, x2, x3, σ => (if (σ 85 55) ≤ x3 then am_g (am_bo x2) <| some x2 else am_g (am_in x3 4) <| (if (σ 125 x3.toNatClampNeg) = x1 then fm_isGround_b56 N (fun x1 x2 x3 σ => fm_isGround_b32 N n x1 x2 x3 σ) x1 x3 (0 : Int32) x2 σ else fm_isGround_b56 N (fun x1 x2 x3 σ => fm_isGround_b32 N n x1 x2 x3 σ) x1 x3 (1 : Int32) x2 σ))
set_option maxRecDepth 100000 in
theorem fm_isGround_b32_e {X : Nat} {xs : Nat → Int32} {d : Nat} {N : Nat} : ∀ {n : Nat} {x1 : Int32} {x2 : Int32} {x3 : Int32} {σ : am_S} {o : Int32}, fm_isGround_b32 N n x1 x2 x3 σ = some o → am_Ev am_sh (am_exx X xs) (d + 0) mm_154 32 [.ref 85, .int x1, .int x2, .int x3] [] σ (some (.int o)) σ := by
  intro n
  induction n with
  | zero => intro x1 x2 x3 σ o h; cases h
  | succ n ih =>
    intro x1 x2 x3 σ o h
    unfold fm_isGround_b32 at h
    refine ev_iload_n (pc' := 33) rfl rfl rfl ?_
    refine ev_aload_n (pc' := 34) rfl rfl rfl ?_
    refine ev_getfield (pc' := 37) (w := .int (σ 85 55)) rfl rfl rfl rfl ?_
    rcases am_if h with ⟨hc1, h⟩ | ⟨hc1, h⟩
    · refine ev_ic_t (pc' := 64) rfl rfl (cb_ge_t hc1) ?_
      refine ev_iload_n (pc' := 65) rfl rfl rfl ?_
      obtain ⟨hg2, h⟩ := am_g_some h
      obtain rfl := Option.some.inj h
      exact ev_zreturn rfl rfl hg2
    · refine ev_ic_f (pc' := 40) rfl (by decide) rfl (cb_ge_f hc1) ?_
      refine ev_iload_n (pc' := 41) rfl rfl rfl ?_
      refine ev_aload_n (pc' := 42) rfl rfl rfl ?_
      refine ev_getfield (pc' := 45) (w := .ref 125) rfl rfl rfl rfl ?_
      refine ev_iload_n (pc' := 46) rfl rfl rfl ?_
      obtain ⟨hg3, h⟩ := am_g_some h
      refine ev_iaload (pc' := 47) rfl rfl rfl hg3 ?_
      refine ev_iload_n (pc' := 48) rfl rfl rfl ?_
      rcases am_if h with ⟨hc4, h⟩ | ⟨hc4, h⟩
      · refine ev_ic_t (pc' := 55) rfl rfl (cb_eq_t hc4) ?_
        refine ev_iconst (pc' := 56) (b := (0 : Int32)) rfl rfl rfl ?_
        exact fm_isGround_b56_e (hk32 := fun h => ih h) h
      · refine ev_ic_f (pc' := 51) rfl (by decide) rfl (cb_eq_f hc4) ?_
        refine ev_iconst (pc' := 52) (b := (1 : Int32)) rfl rfl rfl ?_
        refine ev_goto (pc' := 56) rfl rfl ?_
        exact fm_isGround_b56_e (hk32 := fun h => ih h) h
def fm_isGround_b29 (N : Nat) (x1 : Int32) (s0 : Int32) (σ : am_S) : Option Int32 := fm_isGround_b32 N N x1 s0 (0 : Int32) σ
set_option maxRecDepth 100000 in
theorem fm_isGround_b29_e {X : Nat} {xs : Nat → Int32} {d : Nat} {N : Nat} {x1 : Int32} {s0 : Int32} {w2 : Value} {w3 : Value} {σ : am_S} {o : Int32} (h : fm_isGround_b29 N x1 s0 σ = some o) : am_Ev am_sh (am_exx X xs) (d + 0) mm_154 29 [.ref 85, .int x1, w2, w3] [.int s0] σ (some (.int o)) σ := by
  unfold fm_isGround_b29 at h
  refine ev_istore_n (pc' := 30) (L' := [.ref 85, .int x1, .int s0, w3]) rfl rfl rfl rfl ?_
  refine ev_iconst (pc' := 31) (b := (0 : Int32)) rfl rfl rfl ?_
  refine ev_istore_n (pc' := 32) (L' := [.ref 85, .int x1, .int s0, .int (0 : Int32)]) rfl rfl rfl rfl ?_
  exact fm_isGround_b32_e h
def fm_isGround_b24 (N : Nat) (x1 : Int32) (σ : am_S) : Option Int32 := fm_isGround_b29 N x1 (1 : Int32) σ
set_option maxRecDepth 100000 in
theorem fm_isGround_b24_e {X : Nat} {xs : Nat → Int32} {d : Nat} {N : Nat} {x1 : Int32} {w2 : Value} {w3 : Value} {σ : am_S} {o : Int32} (h : fm_isGround_b24 N x1 σ = some o) : am_Ev am_sh (am_exx X xs) (d + 0) mm_154 24 [.ref 85, .int x1, w2, w3] [] σ (some (.int o)) σ := by
  unfold fm_isGround_b24 at h
  refine ev_iconst (pc' := 25) (b := (1 : Int32)) rfl rfl rfl ?_
  refine ev_goto (pc' := 29) rfl rfl ?_
  exact fm_isGround_b29_e h
def fm_isGround (N : Nat) (a1 : Int32) (σ : am_S) : Option Int32 := (if a1 = (99 : Int32) then fm_isGround_b24 N a1 σ else (if a1 = (104 : Int32) then fm_isGround_b24 N a1 σ else (if a1 = (98 : Int32) then fm_isGround_b24 N a1 σ else (if a1 = (119 : Int32) then fm_isGround_b24 N a1 σ else fm_isGround_b29 N a1 (0 : Int32) σ))))
set_option maxRecDepth 100000 in
theorem fm_isGround_e {X : Nat} {xs : Nat → Int32} {d : Nat} {N : Nat} {a1 : Int32} {σ : am_S} {o : Int32} (h : fm_isGround N a1 σ = some o) : am_Ev am_sh (am_exx X xs) (d + 0) mm_154 0 [.ref 85, .int a1, .null, .null] [] σ (some (.int o)) σ := by
  unfold fm_isGround at h
  refine ev_iload_n (pc' := 1) rfl rfl rfl ?_
  refine ev_bipush (pc' := 3) (b := (99 : Int32)) rfl rfl rfl ?_
  rcases am_if h with ⟨hc1, h⟩ | ⟨hc1, h⟩
  · refine ev_ic_t (pc' := 24) rfl rfl (cb_eq_t hc1) ?_
    exact fm_isGround_b24_e h
  · refine ev_ic_f (pc' := 6) rfl (by decide) rfl (cb_eq_f hc1) ?_
    refine ev_iload_n (pc' := 7) rfl rfl rfl ?_
    refine ev_bipush (pc' := 9) (b := (104 : Int32)) rfl rfl rfl ?_
    rcases am_if h with ⟨hc2, h⟩ | ⟨hc2, h⟩
    · refine ev_ic_t (pc' := 24) rfl rfl (cb_eq_t hc2) ?_
      exact fm_isGround_b24_e h
    · refine ev_ic_f (pc' := 12) rfl (by decide) rfl (cb_eq_f hc2) ?_
      refine ev_iload_n (pc' := 13) rfl rfl rfl ?_
      refine ev_bipush (pc' := 15) (b := (98 : Int32)) rfl rfl rfl ?_
      rcases am_if h with ⟨hc3, h⟩ | ⟨hc3, h⟩
      · refine ev_ic_t (pc' := 24) rfl rfl (cb_eq_t hc3) ?_
        exact fm_isGround_b24_e h
      · refine ev_ic_f (pc' := 18) rfl (by decide) rfl (cb_eq_f hc3) ?_
        refine ev_iload_n (pc' := 19) rfl rfl rfl ?_
        refine ev_bipush (pc' := 21) (b := (119 : Int32)) rfl rfl rfl ?_
        rcases am_if h with ⟨hc4, h⟩ | ⟨hc4, h⟩
        · refine ev_ic_f (pc' := 24) rfl (by decide) rfl (cb_ne_f hc4) ?_
          exact fm_isGround_b24_e h
        · refine ev_ic_t (pc' := 28) rfl rfl (cb_ne_t hc4) ?_
          refine ev_iconst (pc' := 29) (b := (0 : Int32)) rfl rfl rfl ?_
          exact fm_isGround_b29_e h
/-! PartedLandModel.read (85, 103, 'I', 'I'): S -/
def fm_read_b529 (N : Nat) (k54 : Int32 → Int32 → Int32 → am_S → Option (Int32 × am_S)) (x2 : Int32) (x3 : Int32) (x4 : Int32) (x6 : Int32) (σ : am_S) : Option (Int32 × am_S) := (if x6 = 0 then some (x4, σ) else (if x3 ≤ x4 then some (x4, σ) else am_g (am_in (x2 + x4) 150) <| (if (σ 103 (x2 + x4).toNatClampNeg) = (59 : Int32) then k54 x2 x3 (x4 + (1 : Int32)) σ else some (x4, σ))))
set_option maxRecDepth 100000 in
theorem fm_read_b529_e {X : Nat} {xs : Nat → Int32} {d : Nat} {N : Nat} {k54 : Int32 → Int32 → Int32 → am_S → Option (Int32 × am_S)} (hk54 : ∀ {x2 : Int32} {x3 : Int32} {x4 : Int32} {w5 : Value} {w6 : Value} {w7 : Value} {w8 : Value} {σ : am_S} {o : Int32 × am_S}, k54 x2 x3 x4 σ = some o → am_Ev am_sh (am_exx X xs) (d + 1) mm_153 54 [.ref 85, .ref 103, .int x2, .int x3, .int x4, w5, w6, w7, w8] [] σ (some (.int o.1)) o.2) {x2 : Int32} {x3 : Int32} {x4 : Int32} {x6 : Int32} {w5 : Value} {w7 : Value} {w8 : Value} {σ : am_S} {o : Int32 × am_S} (h : fm_read_b529 N k54 x2 x3 x4 x6 σ = some o) : am_Ev am_sh (am_exx X xs) (d + 1) mm_153 529 [.ref 85, .ref 103, .int x2, .int x3, .int x4, w5, .int x6, w7, w8] [] σ (some (.int o.1)) o.2 := by
  unfold fm_read_b529 at h
  refine ev_iload (pc' := 531) rfl rfl rfl ?_
  rcases am_if h with ⟨hc1, h⟩ | ⟨hc1, h⟩
  · refine ev_if_t (pc' := 551) rfl rfl (cb_eq_t hc1) ?_
    refine ev_iload (pc' := 553) rfl rfl rfl ?_
    obtain rfl := Option.some.inj h
    exact ev_ireturn rfl rfl
  · refine ev_if_f (pc' := 534) rfl (by decide) rfl (cb_eq_f hc1) ?_
    refine ev_iload (pc' := 536) rfl rfl rfl ?_
    refine ev_iload_n (pc' := 537) rfl rfl rfl ?_
    rcases am_if h with ⟨hc2, h⟩ | ⟨hc2, h⟩
    · refine ev_ic_t (pc' := 551) rfl rfl (cb_ge_t hc2) ?_
      refine ev_iload (pc' := 553) rfl rfl rfl ?_
      obtain rfl := Option.some.inj h
      exact ev_ireturn rfl rfl
    · refine ev_ic_f (pc' := 540) rfl (by decide) rfl (cb_ge_f hc2) ?_
      refine ev_aload_n (pc' := 541) rfl rfl rfl ?_
      refine ev_iload_n (pc' := 542) rfl rfl rfl ?_
      refine ev_iload (pc' := 544) rfl rfl rfl ?_
      refine ev_iadd (pc' := 545) rfl rfl ?_
      obtain ⟨hg3, h⟩ := am_g_some h
      refine ev_iaload (pc' := 546) rfl rfl rfl hg3 ?_
      refine ev_bipush (pc' := 548) (b := (59 : Int32)) rfl rfl rfl ?_
      rcases am_if h with ⟨hc4, h⟩ | ⟨hc4, h⟩
      · refine ev_ic_t (pc' := 554) rfl rfl (cb_eq_t hc4) ?_
        refine ev_iinc (pc' := 557) (L' := [.ref 85, .ref 103, .int x2, .int x3, .int (x4 + (1 : Int32)), w5, .int x6, w7, w8]) (b := (1 : Int32)) rfl rfl rfl rfl rfl ?_
        refine ev_goto (pc' := 54) rfl rfl ?_
        exact hk54 h
      · refine ev_ic_f (pc' := 551) rfl (by decide) rfl (cb_eq_f hc4) ?_
        refine ev_iload (pc' := 553) rfl rfl rfl ?_
        obtain rfl := Option.some.inj h
        exact ev_ireturn rfl rfl
def fm_read_b231 (N : Nat) (k54 : Int32 → Int32 → Int32 → am_S → Option (Int32 × am_S)) (x2 : Int32) (x3 : Int32) (x4 : Int32) (σ : am_S) : Option (Int32 × am_S) := fm_read_b529 N k54 x2 x3 x4 (σ 85 55) σ
set_option maxRecDepth 100000 in
theorem fm_read_b231_e {X : Nat} {xs : Nat → Int32} {d : Nat} {N : Nat} {k54 : Int32 → Int32 → Int32 → am_S → Option (Int32 × am_S)} (hk54 : ∀ {x2 : Int32} {x3 : Int32} {x4 : Int32} {w5 : Value} {w6 : Value} {w7 : Value} {w8 : Value} {σ : am_S} {o : Int32 × am_S}, k54 x2 x3 x4 σ = some o → am_Ev am_sh (am_exx X xs) (d + 1) mm_153 54 [.ref 85, .ref 103, .int x2, .int x3, .int x4, w5, w6, w7, w8] [] σ (some (.int o.1)) o.2) {x2 : Int32} {x3 : Int32} {x4 : Int32} {w5 : Value} {w6 : Value} {w7 : Value} {w8 : Value} {σ : am_S} {o : Int32 × am_S} (h : fm_read_b231 N k54 x2 x3 x4 σ = some o) : am_Ev am_sh (am_exx X xs) (d + 1) mm_153 231 [.ref 85, .ref 103, .int x2, .int x3, .int x4, w5, w6, w7, w8] [] σ (some (.int o.1)) o.2 := by
  unfold fm_read_b231 at h
  refine ev_aload_n (pc' := 232) rfl rfl rfl ?_
  refine ev_getfield (pc' := 235) (w := .int (σ 85 55)) rfl rfl rfl rfl ?_
  refine ev_istore (pc' := 237) (L' := [.ref 85, .ref 103, .int x2, .int x3, .int x4, w5, .int (σ 85 55), w7, w8]) rfl rfl rfl rfl ?_
  refine ev_goto (pc' := 529) rfl rfl ?_
  exact fm_read_b529_e (hk54 := hk54) h
def fm_read_b173 (N : Nat) (k54 : Int32 → Int32 → Int32 → am_S → Option (Int32 × am_S)) : Nat → Int32 → Int32 → Int32 → am_S → Option (Int32 × am_S)
  | 0, _, _, _, _ => none
  | n + 1, x2, x3, x4, σ => (if x3 ≤ x4 then fm_read_b231 N k54 x2 x3 x4 σ else (if (4 : Int32) ≤ (σ 85 55) then fm_read_b231 N k54 x2 x3 x4 σ else am_g (am_in (x2 + x4) 150) <| (fm_isGround N (σ 103 (x2 + x4).toNatClampNeg) σ).bind fun q4 => (if q4 = 0 then fm_read_b231 N k54 x2 x3 x4 σ else am_g (am_in (x2 + x4) 150) <| am_g (am_in (σ 85 55) 4) <| fm_read_b173 N k54 n x2 x3 (x4 + (1 : Int32)) (am_up (am_up σ 125 (σ 85 55).toNatClampNeg (σ 103 (x2 + x4).toNatClampNeg)) 85 55 ((σ 85 55) + (1 : Int32))))))
set_option maxRecDepth 100000 in
theorem fm_read_b173_e {X : Nat} {xs : Nat → Int32} {d : Nat} {N : Nat} {k54 : Int32 → Int32 → Int32 → am_S → Option (Int32 × am_S)} (hk54 : ∀ {x2 : Int32} {x3 : Int32} {x4 : Int32} {w5 : Value} {w6 : Value} {w7 : Value} {w8 : Value} {σ : am_S} {o : Int32 × am_S}, k54 x2 x3 x4 σ = some o → am_Ev am_sh (am_exx X xs) (d + 1) mm_153 54 [.ref 85, .ref 103, .int x2, .int x3, .int x4, w5, w6, w7, w8] [] σ (some (.int o.1)) o.2) : ∀ {n : Nat} {x2 : Int32} {x3 : Int32} {x4 : Int32} {w5 : Value} {w6 : Value} {w7 : Value} {w8 : Value} {σ : am_S} {o : Int32 × am_S}, fm_read_b173 N k54 n x2 x3 x4 σ = some o → am_Ev am_sh (am_exx X xs) (d + 1) mm_153 173 [.ref 85, .ref 103, .int x2, .int x3, .int x4, w5, w6, w7, w8] [] σ (some (.int o.1)) o.2 := by
  intro n
  induction n with
  | zero => intro x2 x3 x4 w5 w6 w7 w8 σ o h; cases h
  | succ n ih =>
    intro x2 x3 x4 w5 w6 w7 w8 σ o h
    unfold fm_read_b173 at h
    refine ev_iload (pc' := 175) rfl rfl rfl ?_
    refine ev_iload_n (pc' := 176) rfl rfl rfl ?_
    rcases am_if h with ⟨hc1, h⟩ | ⟨hc1, h⟩
    · refine ev_ic_t (pc' := 231) rfl rfl (cb_ge_t hc1) ?_
      exact fm_read_b231_e (hk54 := hk54) h
    · refine ev_ic_f (pc' := 179) rfl (by decide) rfl (cb_ge_f hc1) ?_
      refine ev_aload_n (pc' := 180) rfl rfl rfl ?_
      refine ev_getfield (pc' := 183) (w := .int (σ 85 55)) rfl rfl rfl rfl ?_
      refine ev_iconst (pc' := 184) (b := (4 : Int32)) rfl rfl rfl ?_
      rcases am_if h with ⟨hc2, h⟩ | ⟨hc2, h⟩
      · refine ev_ic_t (pc' := 231) rfl rfl (cb_ge_t hc2) ?_
        exact fm_read_b231_e (hk54 := hk54) h
      · refine ev_ic_f (pc' := 187) rfl (by decide) rfl (cb_ge_f hc2) ?_
        refine ev_aload_n (pc' := 188) rfl rfl rfl ?_
        refine ev_aload_n (pc' := 189) rfl rfl rfl ?_
        refine ev_iload_n (pc' := 190) rfl rfl rfl ?_
        refine ev_iload (pc' := 192) rfl rfl rfl ?_
        refine ev_iadd (pc' := 193) rfl rfl ?_
        obtain ⟨hg3, h⟩ := am_g_some h
        refine ev_iaload (pc' := 194) rfl rfl rfl hg3 ?_
        refine am_bd h (fun q4 hq4 h => ?_)
        refine ev_call (mi := 154) (as := [.ref 85, .int (σ 103 (x2 + x4).toNatClampNeg)]) (rest := []) rfl rfl (Nat.le_of_ble_eq_true rfl) (fm_isGround_e (d := d) hq4) ?_
        show am_Ev _ _ _ _ 197 _ _ _ _ _
        rcases am_if h with ⟨hc5, h⟩ | ⟨hc5, h⟩
        · refine ev_if_t (pc' := 231) rfl rfl (cb_eq_t hc5) ?_
          exact fm_read_b231_e (hk54 := hk54) h
        · refine ev_if_f (pc' := 200) rfl (by decide) rfl (cb_eq_f hc5) ?_
          refine ev_aload_n (pc' := 201) rfl rfl rfl ?_
          refine ev_getfield (pc' := 204) (w := .ref 125) rfl rfl rfl rfl ?_
          refine ev_aload_n (pc' := 205) rfl rfl rfl ?_
          refine ev_getfield (pc' := 208) (w := .int (σ 85 55)) rfl rfl rfl rfl ?_
          refine ev_aload_n (pc' := 209) rfl rfl rfl ?_
          refine ev_iload_n (pc' := 210) rfl rfl rfl ?_
          refine ev_iload (pc' := 212) rfl rfl rfl ?_
          refine ev_iadd (pc' := 213) rfl rfl ?_
          obtain ⟨hg6, h⟩ := am_g_some h
          refine ev_iaload (pc' := 214) rfl rfl rfl hg6 ?_
          obtain ⟨hg7, h⟩ := am_g_some h
          refine ev_iastore (pc' := 215) rfl rfl rfl hg7 ?_
          refine ev_aload_n (pc' := 216) rfl rfl rfl ?_
          refine ev_dup (pc' := 217) rfl rfl ?_
          refine ev_getfield (pc' := 220) (w := .int (σ 85 55)) rfl rfl rfl rfl ?_
          refine ev_iconst (pc' := 221) (b := (1 : Int32)) rfl rfl rfl ?_
          refine ev_iadd (pc' := 222) rfl rfl ?_
          refine ev_putfield (pc' := 225) (ci := 11) (f := 55) (z := 0) rfl rfl rfl rfl rfl ?_
          refine ev_iinc (pc' := 228) (L' := [.ref 85, .ref 103, .int x2, .int x3, .int (x4 + (1 : Int32)), w5, w6, w7, w8]) (b := (1 : Int32)) rfl rfl rfl rfl rfl ?_
          refine ev_goto (pc' := 173) rfl rfl ?_
          exact ih h
def fm_read_b285 (N : Nat) (k54 : Int32 → Int32 → Int32 → am_S → Option (Int32 × am_S)) (x2 : Int32) (x3 : Int32) (x4 : Int32) (s0 : Int32) (σ : am_S) : Option (Int32 × am_S) := fm_read_b529 N k54 x2 x3 (x4 + (1 : Int32)) (1 : Int32) (am_up σ 85 58 s0)
set_option maxRecDepth 100000 in
theorem fm_read_b285_e {X : Nat} {xs : Nat → Int32} {d : Nat} {N : Nat} {k54 : Int32 → Int32 → Int32 → am_S → Option (Int32 × am_S)} (hk54 : ∀ {x2 : Int32} {x3 : Int32} {x4 : Int32} {w5 : Value} {w6 : Value} {w7 : Value} {w8 : Value} {σ : am_S} {o : Int32 × am_S}, k54 x2 x3 x4 σ = some o → am_Ev am_sh (am_exx X xs) (d + 1) mm_153 54 [.ref 85, .ref 103, .int x2, .int x3, .int x4, w5, w6, w7, w8] [] σ (some (.int o.1)) o.2) {x2 : Int32} {x3 : Int32} {x4 : Int32} {s0 : Int32} {w5 : Value} {w6 : Value} {w7 : Value} {w8 : Value} {σ : am_S} {o : Int32 × am_S} (h : fm_read_b285 N k54 x2 x3 x4 s0 σ = some o) : am_Ev am_sh (am_exx X xs) (d + 1) mm_153 285 [.ref 85, .ref 103, .int x2, .int x3, .int x4, w5, w6, w7, w8] [.int s0, .ref 85] σ (some (.int o.1)) o.2 := by
  unfold fm_read_b285 at h
  refine ev_putfield (pc' := 288) (ci := 11) (f := 58) (z := 0) rfl rfl rfl rfl rfl ?_
  refine ev_iconst (pc' := 289) (b := (1 : Int32)) rfl rfl rfl ?_
  refine ev_istore (pc' := 291) (L' := [.ref 85, .ref 103, .int x2, .int x3, .int x4, w5, .int (1 : Int32), w7, w8]) rfl rfl rfl rfl ?_
  refine ev_iinc (pc' := 294) (L' := [.ref 85, .ref 103, .int x2, .int x3, .int (x4 + (1 : Int32)), w5, .int (1 : Int32), w7, w8]) (b := (1 : Int32)) rfl rfl rfl rfl rfl ?_
  refine ev_goto (pc' := 529) rfl rfl ?_
  exact fm_read_b529_e (hk54 := hk54) h
def fm_read_b268 (N : Nat) (k54 : Int32 → Int32 → Int32 → am_S → Option (Int32 × am_S)) (x2 : Int32) (x3 : Int32) (x4 : Int32) (σ : am_S) : Option (Int32 × am_S) := am_g (am_in (x2 + x4) 150) <| (if (σ 103 (x2 + x4).toNatClampNeg) = (108 : Int32) then fm_read_b285 N k54 x2 x3 x4 (1 : Int32) σ else fm_read_b285 N k54 x2 x3 x4 (0 : Int32) σ)
set_option maxRecDepth 100000 in
theorem fm_read_b268_e {X : Nat} {xs : Nat → Int32} {d : Nat} {N : Nat} {k54 : Int32 → Int32 → Int32 → am_S → Option (Int32 × am_S)} (hk54 : ∀ {x2 : Int32} {x3 : Int32} {x4 : Int32} {w5 : Value} {w6 : Value} {w7 : Value} {w8 : Value} {σ : am_S} {o : Int32 × am_S}, k54 x2 x3 x4 σ = some o → am_Ev am_sh (am_exx X xs) (d + 1) mm_153 54 [.ref 85, .ref 103, .int x2, .int x3, .int x4, w5, w6, w7, w8] [] σ (some (.int o.1)) o.2) {x2 : Int32} {x3 : Int32} {x4 : Int32} {w5 : Value} {w6 : Value} {w7 : Value} {w8 : Value} {σ : am_S} {o : Int32 × am_S} (h : fm_read_b268 N k54 x2 x3 x4 σ = some o) : am_Ev am_sh (am_exx X xs) (d + 1) mm_153 268 [.ref 85, .ref 103, .int x2, .int x3, .int x4, w5, w6, w7, w8] [] σ (some (.int o.1)) o.2 := by
  unfold fm_read_b268 at h
  refine ev_aload_n (pc' := 269) rfl rfl rfl ?_
  refine ev_aload_n (pc' := 270) rfl rfl rfl ?_
  refine ev_iload_n (pc' := 271) rfl rfl rfl ?_
  refine ev_iload (pc' := 273) rfl rfl rfl ?_
  refine ev_iadd (pc' := 274) rfl rfl ?_
  obtain ⟨hg1, h⟩ := am_g_some h
  refine ev_iaload (pc' := 275) rfl rfl rfl hg1 ?_
  refine ev_bipush (pc' := 277) (b := (108 : Int32)) rfl rfl rfl ?_
  rcases am_if h with ⟨hc2, h⟩ | ⟨hc2, h⟩
  · refine ev_ic_f (pc' := 280) rfl (by decide) rfl (cb_ne_f hc2) ?_
    refine ev_iconst (pc' := 281) (b := (1 : Int32)) rfl rfl rfl ?_
    refine ev_goto (pc' := 285) rfl rfl ?_
    exact fm_read_b285_e (hk54 := hk54) h
  · refine ev_ic_t (pc' := 284) rfl rfl (cb_ne_t hc2) ?_
    refine ev_iconst (pc' := 285) (b := (0 : Int32)) rfl rfl rfl ?_
    exact fm_read_b285_e (hk54 := hk54) h
def fm_read_b387 (N : Nat) (k54 : Int32 → Int32 → Int32 → am_S → Option (Int32 × am_S)) (k322 : Int32 → Int32 → Int32 → Int32 → Int32 → Int32 → Int32 → am_S → Option (Int32 × am_S)) (x2 : Int32) (x3 : Int32) (x4 : Int32) (x5 : Int32) (x6 : Int32) (x7 : Int32) (x8 : Int32) (σ : am_S) : Option (Int32 × am_S) := am_g (am_in (x2 + x4) 150) <| k322 x2 x3 (x4 + (1 : Int32)) x5 (x6 + (1 : Int32)) ((((10 : Int32) * x7) + (σ 103 (x2 + x4).toNatClampNeg)) - (48 : Int32)) x8 σ
set_option maxRecDepth 100000 in
theorem fm_read_b387_e {X : Nat} {xs : Nat → Int32} {d : Nat} {N : Nat} {k54 : Int32 → Int32 → Int32 → am_S → Option (Int32 × am_S)} (hk54 : ∀ {x2 : Int32} {x3 : Int32} {x4 : Int32} {w5 : Value} {w6 : Value} {w7 : Value} {w8 : Value} {σ : am_S} {o : Int32 × am_S}, k54 x2 x3 x4 σ = some o → am_Ev am_sh (am_exx X xs) (d + 1) mm_153 54 [.ref 85, .ref 103, .int x2, .int x3, .int x4, w5, w6, w7, w8] [] σ (some (.int o.1)) o.2) {k322 : Int32 → Int32 → Int32 → Int32 → Int32 → Int32 → Int32 → am_S → Option (Int32 × am_S)} (hk322 : ∀ {x2 : Int32} {x3 : Int32} {x4 : Int32} {x5 : Int32} {x6 : Int32} {x7 : Int32} {x8 : Int32} {σ : am_S} {o : Int32 × am_S}, k322 x2 x3 x4 x5 x6 x7 x8 σ = some o → am_Ev am_sh (am_exx X xs) (d + 1) mm_153 322 [.ref 85, .ref 103, .int x2, .int x3, .int x4, .int x5, .int x6, .int x7, .int x8] [] σ (some (.int o.1)) o.2) {x2 : Int32} {x3 : Int32} {x4 : Int32} {x5 : Int32} {x6 : Int32} {x7 : Int32} {x8 : Int32} {σ : am_S} {o : Int32 × am_S} (h : fm_read_b387 N k54 k322 x2 x3 x4 x5 x6 x7 x8 σ = some o) : am_Ev am_sh (am_exx X xs) (d + 1) mm_153 387 [.ref 85, .ref 103, .int x2, .int x3, .int x4, .int x5, .int x6, .int x7, .int x8] [] σ (some (.int o.1)) o.2 := by
  unfold fm_read_b387 at h
  refine ev_bipush (pc' := 389) (b := (10 : Int32)) rfl rfl rfl ?_
  refine ev_iload (pc' := 391) rfl rfl rfl ?_
  refine ev_imul (pc' := 392) rfl rfl ?_
  refine ev_aload_n (pc' := 393) rfl rfl rfl ?_
  refine ev_iload_n (pc' := 394) rfl rfl rfl ?_
  refine ev_iload (pc' := 396) rfl rfl rfl ?_
  refine ev_iadd (pc' := 397) rfl rfl ?_
  obtain ⟨hg1, h⟩ := am_g_some h
  refine ev_iaload (pc' := 398) rfl rfl rfl hg1 ?_
  refine ev_iadd (pc' := 399) rfl rfl ?_
  refine ev_bipush (pc' := 401) (b := (48 : Int32)) rfl rfl rfl ?_
  refine ev_isub (pc' := 402) rfl rfl ?_
  refine ev_istore (pc' := 404) (L' := [.ref 85, .ref 103, .int x2, .int x3, .int x4, .int x5, .int x6, .int ((((10 : Int32) * x7) + (σ 103 (x2 + x4).toNatClampNeg)) - (48 : Int32)), .int x8]) rfl rfl rfl rfl ?_
  refine ev_iinc (pc' := 407) (L' := [.ref 85, .ref 103, .int x2, .int x3, .int x4, .int x5, .int (x6 + (1 : Int32)), .int ((((10 : Int32) * x7) + (σ 103 (x2 + x4).toNatClampNeg)) - (48 : Int32)), .int x8]) (b := (1 : Int32)) rfl rfl rfl rfl rfl ?_
  refine ev_iinc (pc' := 410) (L' := [.ref 85, .ref 103, .int x2, .int x3, .int (x4 + (1 : Int32)), .int x5, .int (x6 + (1 : Int32)), .int ((((10 : Int32) * x7) + (σ 103 (x2 + x4).toNatClampNeg)) - (48 : Int32)), .int x8]) (b := (1 : Int32)) rfl rfl rfl rfl rfl ?_
  refine ev_goto (pc' := 322) rfl rfl ?_
  exact hk322 h
def fm_read_b518 (N : Nat) (k54 : Int32 → Int32 → Int32 → am_S → Option (Int32 × am_S)) (x2 : Int32) (x3 : Int32) (x4 : Int32) (x6 : Int32) (s0 : Int32) (σ : am_S) : Option (Int32 × am_S) := fm_read_b529 N k54 x2 x3 x4 x6 (am_up σ 85 60 s0)
set_option maxRecDepth 100000 in
theorem fm_read_b518_e {X : Nat} {xs : Nat → Int32} {d : Nat} {N : Nat} {k54 : Int32 → Int32 → Int32 → am_S → Option (Int32 × am_S)} (hk54 : ∀ {x2 : Int32} {x3 : Int32} {x4 : Int32} {w5 : Value} {w6 : Value} {w7 : Value} {w8 : Value} {σ : am_S} {o : Int32 × am_S}, k54 x2 x3 x4 σ = some o → am_Ev am_sh (am_exx X xs) (d + 1) mm_153 54 [.ref 85, .ref 103, .int x2, .int x3, .int x4, w5, w6, w7, w8] [] σ (some (.int o.1)) o.2) {x2 : Int32} {x3 : Int32} {x4 : Int32} {x6 : Int32} {s0 : Int32} {w5 : Value} {w7 : Value} {w8 : Value} {σ : am_S} {o : Int32 × am_S} (h : fm_read_b518 N k54 x2 x3 x4 x6 s0 σ = some o) : am_Ev am_sh (am_exx X xs) (d + 1) mm_153 518 [.ref 85, .ref 103, .int x2, .int x3, .int x4, w5, .int x6, w7, w8] [.int s0, .ref 85] σ (some (.int o.1)) o.2 := by
  unfold fm_read_b518 at h
  refine ev_putfield (pc' := 521) (ci := 11) (f := 60) (z := 0) rfl rfl rfl rfl rfl ?_
  refine ev_goto (pc' := 529) rfl rfl ?_
  exact fm_read_b529_e (hk54 := hk54) h
def fm_read_b498 (N : Nat) (k54 : Int32 → Int32 → Int32 → am_S → Option (Int32 × am_S)) (x2 : Int32) (x3 : Int32) (x4 : Int32) (x5 : Int32) (x6 : Int32) (x7 : Int32) (s0 : Int32) (σ : am_S) : Option (Int32 × am_S) := (if x5 = (117 : Int32) then fm_read_b518 N k54 x2 x3 x4 x6 x7 (am_up σ 85 59 s0) else fm_read_b518 N k54 x2 x3 x4 x6 (σ 85 60) (am_up σ 85 59 s0))
set_option maxRecDepth 100000 in
theorem fm_read_b498_e {X : Nat} {xs : Nat → Int32} {d : Nat} {N : Nat} {k54 : Int32 → Int32 → Int32 → am_S → Option (Int32 × am_S)} (hk54 : ∀ {x2 : Int32} {x3 : Int32} {x4 : Int32} {w5 : Value} {w6 : Value} {w7 : Value} {w8 : Value} {σ : am_S} {o : Int32 × am_S}, k54 x2 x3 x4 σ = some o → am_Ev am_sh (am_exx X xs) (d + 1) mm_153 54 [.ref 85, .ref 103, .int x2, .int x3, .int x4, w5, w6, w7, w8] [] σ (some (.int o.1)) o.2) {x2 : Int32} {x3 : Int32} {x4 : Int32} {x5 : Int32} {x6 : Int32} {x7 : Int32} {s0 : Int32} {w8 : Value} {σ : am_S} {o : Int32 × am_S} (h : fm_read_b498 N k54 x2 x3 x4 x5 x6 x7 s0 σ = some o) : am_Ev am_sh (am_exx X xs) (d + 1) mm_153 498 [.ref 85, .ref 103, .int x2, .int x3, .int x4, .int x5, .int x6, .int x7, w8] [.int s0, .ref 85] σ (some (.int o.1)) o.2 := by
  unfold fm_read_b498 at h
  refine ev_putfield (pc' := 501) (ci := 11) (f := 59) (z := 0) rfl rfl rfl rfl rfl ?_
  refine ev_aload_n (pc' := 502) rfl rfl rfl ?_
  refine ev_iload (pc' := 504) rfl rfl rfl ?_
  refine ev_bipush (pc' := 506) (b := (117 : Int32)) rfl rfl rfl ?_
  rcases am_if h with ⟨hc1, h⟩ | ⟨hc1, h⟩
  · refine ev_ic_f (pc' := 509) rfl (by decide) rfl (cb_ne_f hc1) ?_
    refine ev_iload (pc' := 511) rfl rfl rfl ?_
    refine ev_goto (pc' := 518) rfl rfl ?_
    exact fm_read_b518_e (hk54 := hk54) h
  · refine ev_ic_t (pc' := 514) rfl rfl (cb_ne_t hc1) ?_
    refine ev_aload_n (pc' := 515) rfl rfl rfl ?_
    refine ev_getfield (pc' := 518) (w := .int (σ 85 60)) rfl rfl rfl rfl ?_
    exact fm_read_b518_e (hk54 := hk54) h
def fm_read_b478 (N : Nat) (k54 : Int32 → Int32 → Int32 → am_S → Option (Int32 × am_S)) (x2 : Int32) (x3 : Int32) (x4 : Int32) (x5 : Int32) (x6 : Int32) (x7 : Int32) (s0 : Int32) (σ : am_S) : Option (Int32 × am_S) := (if x5 = (99 : Int32) then fm_read_b498 N k54 x2 x3 x4 x5 x6 x7 x7 (am_up σ 85 57 s0) else fm_read_b498 N k54 x2 x3 x4 x5 x6 x7 (σ 85 59) (am_up σ 85 57 s0))
set_option maxRecDepth 100000 in
theorem fm_read_b478_e {X : Nat} {xs : Nat → Int32} {d : Nat} {N : Nat} {k54 : Int32 → Int32 → Int32 → am_S → Option (Int32 × am_S)} (hk54 : ∀ {x2 : Int32} {x3 : Int32} {x4 : Int32} {w5 : Value} {w6 : Value} {w7 : Value} {w8 : Value} {σ : am_S} {o : Int32 × am_S}, k54 x2 x3 x4 σ = some o → am_Ev am_sh (am_exx X xs) (d + 1) mm_153 54 [.ref 85, .ref 103, .int x2, .int x3, .int x4, w5, w6, w7, w8] [] σ (some (.int o.1)) o.2) {x2 : Int32} {x3 : Int32} {x4 : Int32} {x5 : Int32} {x6 : Int32} {x7 : Int32} {s0 : Int32} {w8 : Value} {σ : am_S} {o : Int32 × am_S} (h : fm_read_b478 N k54 x2 x3 x4 x5 x6 x7 s0 σ = some o) : am_Ev am_sh (am_exx X xs) (d + 1) mm_153 478 [.ref 85, .ref 103, .int x2, .int x3, .int x4, .int x5, .int x6, .int x7, w8] [.int s0, .ref 85] σ (some (.int o.1)) o.2 := by
  unfold fm_read_b478 at h
  refine ev_putfield (pc' := 481) (ci := 11) (f := 57) (z := 0) rfl rfl rfl rfl rfl ?_
  refine ev_aload_n (pc' := 482) rfl rfl rfl ?_
  refine ev_iload (pc' := 484) rfl rfl rfl ?_
  refine ev_bipush (pc' := 486) (b := (99 : Int32)) rfl rfl rfl ?_
  rcases am_if h with ⟨hc1, h⟩ | ⟨hc1, h⟩
  · refine ev_ic_f (pc' := 489) rfl (by decide) rfl (cb_ne_f hc1) ?_
    refine ev_iload (pc' := 491) rfl rfl rfl ?_
    refine ev_goto (pc' := 498) rfl rfl ?_
    exact fm_read_b498_e (hk54 := hk54) h
  · refine ev_ic_t (pc' := 494) rfl rfl (cb_ne_t hc1) ?_
    refine ev_aload_n (pc' := 495) rfl rfl rfl ?_
    refine ev_getfield (pc' := 498) (w := .int (σ 85 59)) rfl rfl rfl rfl ?_
    exact fm_read_b498_e (hk54 := hk54) h
def fm_read_b458 (N : Nat) (k54 : Int32 → Int32 → Int32 → am_S → Option (Int32 × am_S)) (x2 : Int32) (x3 : Int32) (x4 : Int32) (x5 : Int32) (x6 : Int32) (x7 : Int32) (s0 : Int32) (σ : am_S) : Option (Int32 × am_S) := (if x5 = (115 : Int32) then fm_read_b478 N k54 x2 x3 x4 x5 x6 x7 x7 (am_up σ 85 56 s0) else fm_read_b478 N k54 x2 x3 x4 x5 x6 x7 (σ 85 57) (am_up σ 85 56 s0))
set_option maxRecDepth 100000 in
theorem fm_read_b458_e {X : Nat} {xs : Nat → Int32} {d : Nat} {N : Nat} {k54 : Int32 → Int32 → Int32 → am_S → Option (Int32 × am_S)} (hk54 : ∀ {x2 : Int32} {x3 : Int32} {x4 : Int32} {w5 : Value} {w6 : Value} {w7 : Value} {w8 : Value} {σ : am_S} {o : Int32 × am_S}, k54 x2 x3 x4 σ = some o → am_Ev am_sh (am_exx X xs) (d + 1) mm_153 54 [.ref 85, .ref 103, .int x2, .int x3, .int x4, w5, w6, w7, w8] [] σ (some (.int o.1)) o.2) {x2 : Int32} {x3 : Int32} {x4 : Int32} {x5 : Int32} {x6 : Int32} {x7 : Int32} {s0 : Int32} {w8 : Value} {σ : am_S} {o : Int32 × am_S} (h : fm_read_b458 N k54 x2 x3 x4 x5 x6 x7 s0 σ = some o) : am_Ev am_sh (am_exx X xs) (d + 1) mm_153 458 [.ref 85, .ref 103, .int x2, .int x3, .int x4, .int x5, .int x6, .int x7, w8] [.int s0, .ref 85] σ (some (.int o.1)) o.2 := by
  unfold fm_read_b458 at h
  refine ev_putfield (pc' := 461) (ci := 11) (f := 56) (z := 0) rfl rfl rfl rfl rfl ?_
  refine ev_aload_n (pc' := 462) rfl rfl rfl ?_
  refine ev_iload (pc' := 464) rfl rfl rfl ?_
  refine ev_bipush (pc' := 466) (b := (115 : Int32)) rfl rfl rfl ?_
  rcases am_if h with ⟨hc1, h⟩ | ⟨hc1, h⟩
  · refine ev_ic_f (pc' := 469) rfl (by decide) rfl (cb_ne_f hc1) ?_
    refine ev_iload (pc' := 471) rfl rfl rfl ?_
    refine ev_goto (pc' := 478) rfl rfl ?_
    exact fm_read_b478_e (hk54 := hk54) h
  · refine ev_ic_t (pc' := 474) rfl rfl (cb_ne_t hc1) ?_
    refine ev_aload_n (pc' := 475) rfl rfl rfl ?_
    refine ev_getfield (pc' := 478) (w := .int (σ 85 57)) rfl rfl rfl rfl ?_
    exact fm_read_b478_e (hk54 := hk54) h
def fm_read_b439 (N : Nat) (k54 : Int32 → Int32 → Int32 → am_S → Option (Int32 × am_S)) (x2 : Int32) (x3 : Int32) (x4 : Int32) (x5 : Int32) (x7 : Int32) (s0 : Int32) (σ : am_S) : Option (Int32 × am_S) := (if x5 = (107 : Int32) then fm_read_b458 N k54 x2 x3 x4 x5 s0 x7 x7 σ else fm_read_b458 N k54 x2 x3 x4 x5 s0 x7 (σ 85 56) σ)
set_option maxRecDepth 100000 in
theorem fm_read_b439_e {X : Nat} {xs : Nat → Int32} {d : Nat} {N : Nat} {k54 : Int32 → Int32 → Int32 → am_S → Option (Int32 × am_S)} (hk54 : ∀ {x2 : Int32} {x3 : Int32} {x4 : Int32} {w5 : Value} {w6 : Value} {w7 : Value} {w8 : Value} {σ : am_S} {o : Int32 × am_S}, k54 x2 x3 x4 σ = some o → am_Ev am_sh (am_exx X xs) (d + 1) mm_153 54 [.ref 85, .ref 103, .int x2, .int x3, .int x4, w5, w6, w7, w8] [] σ (some (.int o.1)) o.2) {x2 : Int32} {x3 : Int32} {x4 : Int32} {x5 : Int32} {x7 : Int32} {s0 : Int32} {w6 : Value} {w8 : Value} {σ : am_S} {o : Int32 × am_S} (h : fm_read_b439 N k54 x2 x3 x4 x5 x7 s0 σ = some o) : am_Ev am_sh (am_exx X xs) (d + 1) mm_153 439 [.ref 85, .ref 103, .int x2, .int x3, .int x4, .int x5, w6, .int x7, w8] [.int s0] σ (some (.int o.1)) o.2 := by
  unfold fm_read_b439 at h
  refine ev_istore (pc' := 441) (L' := [.ref 85, .ref 103, .int x2, .int x3, .int x4, .int x5, .int s0, .int x7, w8]) rfl rfl rfl rfl ?_
  refine ev_aload_n (pc' := 442) rfl rfl rfl ?_
  refine ev_iload (pc' := 444) rfl rfl rfl ?_
  refine ev_bipush (pc' := 446) (b := (107 : Int32)) rfl rfl rfl ?_
  rcases am_if h with ⟨hc1, h⟩ | ⟨hc1, h⟩
  · refine ev_ic_f (pc' := 449) rfl (by decide) rfl (cb_ne_f hc1) ?_
    refine ev_iload (pc' := 451) rfl rfl rfl ?_
    refine ev_goto (pc' := 458) rfl rfl ?_
    exact fm_read_b458_e (hk54 := hk54) h
  · refine ev_ic_t (pc' := 454) rfl rfl (cb_ne_t hc1) ?_
    refine ev_aload_n (pc' := 455) rfl rfl rfl ?_
    refine ev_getfield (pc' := 458) (w := .int (σ 85 56)) rfl rfl rfl rfl ?_
    exact fm_read_b458_e (hk54 := hk54) h
def fm_read_b437 (N : Nat) (k54 : Int32 → Int32 → Int32 → am_S → Option (Int32 × am_S)) (x2 : Int32) (x3 : Int32) (x4 : Int32) (x5 : Int32) (x6 : Int32) (x7 : Int32) (σ : am_S) : Option (Int32 × am_S) := fm_read_b439 N k54 x2 x3 x4 x5 x7 x6 σ
set_option maxRecDepth 100000 in
theorem fm_read_b437_e {X : Nat} {xs : Nat → Int32} {d : Nat} {N : Nat} {k54 : Int32 → Int32 → Int32 → am_S → Option (Int32 × am_S)} (hk54 : ∀ {x2 : Int32} {x3 : Int32} {x4 : Int32} {w5 : Value} {w6 : Value} {w7 : Value} {w8 : Value} {σ : am_S} {o : Int32 × am_S}, k54 x2 x3 x4 σ = some o → am_Ev am_sh (am_exx X xs) (d + 1) mm_153 54 [.ref 85, .ref 103, .int x2, .int x3, .int x4, w5, w6, w7, w8] [] σ (some (.int o.1)) o.2) {x2 : Int32} {x3 : Int32} {x4 : Int32} {x5 : Int32} {x6 : Int32} {x7 : Int32} {w8 : Value} {σ : am_S} {o : Int32 × am_S} (h : fm_read_b437 N k54 x2 x3 x4 x5 x6 x7 σ = some o) : am_Ev am_sh (am_exx X xs) (d + 1) mm_153 437 [.ref 85, .ref 103, .int x2, .int x3, .int x4, .int x5, .int x6, .int x7, w8] [] σ (some (.int o.1)) o.2 := by
  unfold fm_read_b437 at h
  refine ev_iload (pc' := 439) rfl rfl rfl ?_
  exact fm_read_b439_e (hk54 := hk54) h
def fm_read_b427 (N : Nat) (k54 : Int32 → Int32 → Int32 → am_S → Option (Int32 × am_S)) (x2 : Int32) (x3 : Int32) (x4 : Int32) (x5 : Int32) (x6 : Int32) (x7 : Int32) (σ : am_S) : Option (Int32 × am_S) := (if (2 : Int32) ≤ x6 then fm_read_b437 N k54 x2 x3 x4 x5 x6 x7 σ else fm_read_b439 N k54 x2 x3 x4 x5 x7 (0 : Int32) σ)
set_option maxRecDepth 100000 in
theorem fm_read_b427_e {X : Nat} {xs : Nat → Int32} {d : Nat} {N : Nat} {k54 : Int32 → Int32 → Int32 → am_S → Option (Int32 × am_S)} (hk54 : ∀ {x2 : Int32} {x3 : Int32} {x4 : Int32} {w5 : Value} {w6 : Value} {w7 : Value} {w8 : Value} {σ : am_S} {o : Int32 × am_S}, k54 x2 x3 x4 σ = some o → am_Ev am_sh (am_exx X xs) (d + 1) mm_153 54 [.ref 85, .ref 103, .int x2, .int x3, .int x4, w5, w6, w7, w8] [] σ (some (.int o.1)) o.2) {x2 : Int32} {x3 : Int32} {x4 : Int32} {x5 : Int32} {x6 : Int32} {x7 : Int32} {w8 : Value} {σ : am_S} {o : Int32 × am_S} (h : fm_read_b427 N k54 x2 x3 x4 x5 x6 x7 σ = some o) : am_Ev am_sh (am_exx X xs) (d + 1) mm_153 427 [.ref 85, .ref 103, .int x2, .int x3, .int x4, .int x5, .int x6, .int x7, w8] [] σ (some (.int o.1)) o.2 := by
  unfold fm_read_b427 at h
  refine ev_iload (pc' := 429) rfl rfl rfl ?_
  refine ev_iconst (pc' := 430) (b := (2 : Int32)) rfl rfl rfl ?_
  rcases am_if h with ⟨hc1, h⟩ | ⟨hc1, h⟩
  · refine ev_ic_t (pc' := 437) rfl rfl (cb_ge_t hc1) ?_
    exact fm_read_b437_e (hk54 := hk54) h
  · refine ev_ic_f (pc' := 433) rfl (by decide) rfl (cb_ge_f hc1) ?_
    refine ev_iconst (pc' := 434) (b := (0 : Int32)) rfl rfl rfl ?_
    refine ev_goto (pc' := 439) rfl rfl ?_
    exact fm_read_b439_e (hk54 := hk54) h
def fm_read_b413 (N : Nat) (k54 : Int32 → Int32 → Int32 → am_S → Option (Int32 × am_S)) (x2 : Int32) (x3 : Int32) (x4 : Int32) (x5 : Int32) (x6 : Int32) (x7 : Int32) (σ : am_S) : Option (Int32 × am_S) := (if x5 = (115 : Int32) then fm_read_b427 N k54 x2 x3 x4 x5 x6 x7 σ else (if x5 = (117 : Int32) then fm_read_b427 N k54 x2 x3 x4 x5 x6 x7 σ else fm_read_b437 N k54 x2 x3 x4 x5 x6 x7 σ))
set_option maxRecDepth 100000 in
theorem fm_read_b413_e {X : Nat} {xs : Nat → Int32} {d : Nat} {N : Nat} {k54 : Int32 → Int32 → Int32 → am_S → Option (Int32 × am_S)} (hk54 : ∀ {x2 : Int32} {x3 : Int32} {x4 : Int32} {w5 : Value} {w6 : Value} {w7 : Value} {w8 : Value} {σ : am_S} {o : Int32 × am_S}, k54 x2 x3 x4 σ = some o → am_Ev am_sh (am_exx X xs) (d + 1) mm_153 54 [.ref 85, .ref 103, .int x2, .int x3, .int x4, w5, w6, w7, w8] [] σ (some (.int o.1)) o.2) {x2 : Int32} {x3 : Int32} {x4 : Int32} {x5 : Int32} {x6 : Int32} {x7 : Int32} {w8 : Value} {σ : am_S} {o : Int32 × am_S} (h : fm_read_b413 N k54 x2 x3 x4 x5 x6 x7 σ = some o) : am_Ev am_sh (am_exx X xs) (d + 1) mm_153 413 [.ref 85, .ref 103, .int x2, .int x3, .int x4, .int x5, .int x6, .int x7, w8] [] σ (some (.int o.1)) o.2 := by
  unfold fm_read_b413 at h
  refine ev_iload (pc' := 415) rfl rfl rfl ?_
  refine ev_bipush (pc' := 417) (b := (115 : Int32)) rfl rfl rfl ?_
  rcases am_if h with ⟨hc1, h⟩ | ⟨hc1, h⟩
  · refine ev_ic_t (pc' := 427) rfl rfl (cb_eq_t hc1) ?_
    exact fm_read_b427_e (hk54 := hk54) h
  · refine ev_ic_f (pc' := 420) rfl (by decide) rfl (cb_eq_f hc1) ?_
    refine ev_iload (pc' := 422) rfl rfl rfl ?_
    refine ev_bipush (pc' := 424) (b := (117 : Int32)) rfl rfl rfl ?_
    rcases am_if h with ⟨hc2, h⟩ | ⟨hc2, h⟩
    · refine ev_ic_f (pc' := 427) rfl (by decide) rfl (cb_ne_f hc2) ?_
      exact fm_read_b427_e (hk54 := hk54) h
    · refine ev_ic_t (pc' := 437) rfl rfl (cb_ne_t hc2) ?_
      exact fm_read_b437_e (hk54 := hk54) h
def fm_read_b384 (N : Nat) (k54 : Int32 → Int32 → Int32 → am_S → Option (Int32 × am_S)) (k322 : Int32 → Int32 → Int32 → Int32 → Int32 → Int32 → Int32 → am_S → Option (Int32 × am_S)) (x2 : Int32) (x3 : Int32) (x4 : Int32) (x5 : Int32) (x6 : Int32) (x7 : Int32) (x8 : Int32) (s0 : Int32) (s1 : Int32) (σ : am_S) : Option (Int32 × am_S) := (if s0 < s1 then fm_read_b413 N k54 x2 x3 x4 x5 x6 x7 σ else fm_read_b387 N k54 k322 x2 x3 x4 x5 x6 x7 x8 σ)
set_option maxRecDepth 100000 in
theorem fm_read_b384_e {X : Nat} {xs : Nat → Int32} {d : Nat} {N : Nat} {k54 : Int32 → Int32 → Int32 → am_S → Option (Int32 × am_S)} (hk54 : ∀ {x2 : Int32} {x3 : Int32} {x4 : Int32} {w5 : Value} {w6 : Value} {w7 : Value} {w8 : Value} {σ : am_S} {o : Int32 × am_S}, k54 x2 x3 x4 σ = some o → am_Ev am_sh (am_exx X xs) (d + 1) mm_153 54 [.ref 85, .ref 103, .int x2, .int x3, .int x4, w5, w6, w7, w8] [] σ (some (.int o.1)) o.2) {k322 : Int32 → Int32 → Int32 → Int32 → Int32 → Int32 → Int32 → am_S → Option (Int32 × am_S)} (hk322 : ∀ {x2 : Int32} {x3 : Int32} {x4 : Int32} {x5 : Int32} {x6 : Int32} {x7 : Int32} {x8 : Int32} {σ : am_S} {o : Int32 × am_S}, k322 x2 x3 x4 x5 x6 x7 x8 σ = some o → am_Ev am_sh (am_exx X xs) (d + 1) mm_153 322 [.ref 85, .ref 103, .int x2, .int x3, .int x4, .int x5, .int x6, .int x7, .int x8] [] σ (some (.int o.1)) o.2) {x2 : Int32} {x3 : Int32} {x4 : Int32} {x5 : Int32} {x6 : Int32} {x7 : Int32} {x8 : Int32} {s0 : Int32} {s1 : Int32} {σ : am_S} {o : Int32 × am_S} (h : fm_read_b384 N k54 k322 x2 x3 x4 x5 x6 x7 x8 s0 s1 σ = some o) : am_Ev am_sh (am_exx X xs) (d + 1) mm_153 384 [.ref 85, .ref 103, .int x2, .int x3, .int x4, .int x5, .int x6, .int x7, .int x8] [.int s0, .int s1] σ (some (.int o.1)) o.2 := by
  unfold fm_read_b384 at h
  rcases am_if h with ⟨hc1, h⟩ | ⟨hc1, h⟩
  · refine ev_ic_t (pc' := 413) rfl rfl (cb_gt_t hc1) ?_
    exact fm_read_b413_e (hk54 := hk54) h
  · refine ev_ic_f (pc' := 387) rfl (by decide) rfl (cb_gt_f hc1) ?_
    exact fm_read_b387_e (hk54 := hk54) (hk322 := hk322) h
def fm_read_b322 (N : Nat) (k54 : Int32 → Int32 → Int32 → am_S → Option (Int32 × am_S)) : Nat → Int32 → Int32 → Int32 → Int32 → Int32 → Int32 → Int32 → am_S → Option (Int32 × am_S)
  | 0, _, _, _, _, _, _, _, _ => none
  | n + 1, x2, x3, x4, x5, x6, x7, x8, σ => (if x3 ≤ x4 then fm_read_b413 N k54 x2 x3 x4 x5 x6 x7 σ else (if x8 ≤ x6 then fm_read_b413 N k54 x2 x3 x4 x5 x6 x7 σ else am_g (am_in (x2 + x4) 150) <| (if (fm_isIn (σ 103 (x2 + x4).toNatClampNeg) (48 : Int32) (57 : Int32) σ) = 0 then fm_read_b413 N k54 x2 x3 x4 x5 x6 x7 σ else (if x5 = (117 : Int32) then am_g (am_in (x2 + x4) 150) <| (if x6 = 0 then fm_read_b384 N k54 (fun x2 x3 x4 x5 x6 x7 x8 σ => fm_read_b322 N k54 n x2 x3 x4 x5 x6 x7 x8 σ) x2 x3 x4 x5 x6 x7 x8 (2 : Int32) ((((10 : Int32) * x7) + (σ 103 (x2 + x4).toNatClampNeg)) - (48 : Int32)) σ else fm_read_b384 N k54 (fun x2 x3 x4 x5 x6 x7 x8 σ => fm_read_b322 N k54 n x2 x3 x4 x5 x6 x7 x8 σ) x2 x3 x4 x5 x6 x7 x8 (24 : Int32) ((((10 : Int32) * x7) + (σ 103 (x2 + x4).toNatClampNeg)) - (48 : Int32)) σ) else fm_read_b387 N k54 (fun x2 x3 x4 x5 x6 x7 x8 σ => fm_read_b322 N k54 n x2 x3 x4 x5 x6 x7 x8 σ) x2 x3 x4 x5 x6 x7 x8 σ))))
set_option maxRecDepth 100000 in
theorem fm_read_b322_e {X : Nat} {xs : Nat → Int32} {d : Nat} {N : Nat} {k54 : Int32 → Int32 → Int32 → am_S → Option (Int32 × am_S)} (hk54 : ∀ {x2 : Int32} {x3 : Int32} {x4 : Int32} {w5 : Value} {w6 : Value} {w7 : Value} {w8 : Value} {σ : am_S} {o : Int32 × am_S}, k54 x2 x3 x4 σ = some o → am_Ev am_sh (am_exx X xs) (d + 1) mm_153 54 [.ref 85, .ref 103, .int x2, .int x3, .int x4, w5, w6, w7, w8] [] σ (some (.int o.1)) o.2) : ∀ {n : Nat} {x2 : Int32} {x3 : Int32} {x4 : Int32} {x5 : Int32} {x6 : Int32} {x7 : Int32} {x8 : Int32} {σ : am_S} {o : Int32 × am_S}, fm_read_b322 N k54 n x2 x3 x4 x5 x6 x7 x8 σ = some o → am_Ev am_sh (am_exx X xs) (d + 1) mm_153 322 [.ref 85, .ref 103, .int x2, .int x3, .int x4, .int x5, .int x6, .int x7, .int x8] [] σ (some (.int o.1)) o.2 := by
  intro n
  induction n with
  | zero => intro x2 x3 x4 x5 x6 x7 x8 σ o h; cases h
  | succ n ih =>
    intro x2 x3 x4 x5 x6 x7 x8 σ o h
    unfold fm_read_b322 at h
    refine ev_iload (pc' := 324) rfl rfl rfl ?_
    refine ev_iload_n (pc' := 325) rfl rfl rfl ?_
    rcases am_if h with ⟨hc1, h⟩ | ⟨hc1, h⟩
    · refine ev_ic_t (pc' := 413) rfl rfl (cb_ge_t hc1) ?_
      exact fm_read_b413_e (hk54 := hk54) h
    · refine ev_ic_f (pc' := 328) rfl (by decide) rfl (cb_ge_f hc1) ?_
      refine ev_iload (pc' := 330) rfl rfl rfl ?_
      refine ev_iload (pc' := 332) rfl rfl rfl ?_
      rcases am_if h with ⟨hc2, h⟩ | ⟨hc2, h⟩
      · refine ev_ic_t (pc' := 413) rfl rfl (cb_ge_t hc2) ?_
        exact fm_read_b413_e (hk54 := hk54) h
      · refine ev_ic_f (pc' := 335) rfl (by decide) rfl (cb_ge_f hc2) ?_
        refine ev_aload_n (pc' := 336) rfl rfl rfl ?_
        refine ev_iload_n (pc' := 337) rfl rfl rfl ?_
        refine ev_iload (pc' := 339) rfl rfl rfl ?_
        refine ev_iadd (pc' := 340) rfl rfl ?_
        obtain ⟨hg3, h⟩ := am_g_some h
        refine ev_iaload (pc' := 341) rfl rfl rfl hg3 ?_
        refine ev_bipush (pc' := 343) (b := (48 : Int32)) rfl rfl rfl ?_
        refine ev_bipush (pc' := 345) (b := (57 : Int32)) rfl rfl rfl ?_
        refine ev_call (mi := 170) (as := [.int (σ 103 (x2 + x4).toNatClampNeg), .int (48 : Int32), .int (57 : Int32)]) (rest := []) rfl rfl (Nat.le_of_ble_eq_true rfl) (fm_isIn_e (d := d) rfl) ?_
        show am_Ev _ _ _ _ 348 _ _ _ _ _
        rcases am_if h with ⟨hc4, h⟩ | ⟨hc4, h⟩
        · refine ev_if_t (pc' := 413) rfl rfl (cb_eq_t hc4) ?_
          exact fm_read_b413_e (hk54 := hk54) h
        · refine ev_if_f (pc' := 351) rfl (by decide) rfl (cb_eq_f hc4) ?_
          refine ev_iload (pc' := 353) rfl rfl rfl ?_
          refine ev_bipush (pc' := 355) (b := (117 : Int32)) rfl rfl rfl ?_
          rcases am_if h with ⟨hc5, h⟩ | ⟨hc5, h⟩
          · refine ev_ic_f (pc' := 358) rfl (by decide) rfl (cb_ne_f hc5) ?_
            refine ev_bipush (pc' := 360) (b := (10 : Int32)) rfl rfl rfl ?_
            refine ev_iload (pc' := 362) rfl rfl rfl ?_
            refine ev_imul (pc' := 363) rfl rfl ?_
            refine ev_aload_n (pc' := 364) rfl rfl rfl ?_
            refine ev_iload_n (pc' := 365) rfl rfl rfl ?_
            refine ev_iload (pc' := 367) rfl rfl rfl ?_
            refine ev_iadd (pc' := 368) rfl rfl ?_
            obtain ⟨hg6, h⟩ := am_g_some h
            refine ev_iaload (pc' := 369) rfl rfl rfl hg6 ?_
            refine ev_iadd (pc' := 370) rfl rfl ?_
            refine ev_bipush (pc' := 372) (b := (48 : Int32)) rfl rfl rfl ?_
            refine ev_isub (pc' := 373) rfl rfl ?_
            refine ev_iload (pc' := 375) rfl rfl rfl ?_
            rcases am_if h with ⟨hc7, h⟩ | ⟨hc7, h⟩
            · refine ev_if_f (pc' := 378) rfl (by decide) rfl (cb_ne_f hc7) ?_
              refine ev_iconst (pc' := 379) (b := (2 : Int32)) rfl rfl rfl ?_
              refine ev_goto (pc' := 384) rfl rfl ?_
              exact fm_read_b384_e (hk54 := hk54) (hk322 := fun h => ih h) h
            · refine ev_if_t (pc' := 382) rfl rfl (cb_ne_t hc7) ?_
              refine ev_bipush (pc' := 384) (b := (24 : Int32)) rfl rfl rfl ?_
              exact fm_read_b384_e (hk54 := hk54) (hk322 := fun h => ih h) h
          · refine ev_ic_t (pc' := 387) rfl rfl (cb_ne_t hc5) ?_
            exact fm_read_b387_e (hk54 := hk54) (hk322 := fun h => ih h) h
def fm_read_b320 (N : Nat) (k54 : Int32 → Int32 → Int32 → am_S → Option (Int32 × am_S)) (x2 : Int32) (x3 : Int32) (x4 : Int32) (x5 : Int32) (x6 : Int32) (x7 : Int32) (s0 : Int32) (σ : am_S) : Option (Int32 × am_S) := fm_read_b322 N k54 N x2 x3 x4 x5 x6 x7 s0 σ
set_option maxRecDepth 100000 in
theorem fm_read_b320_e {X : Nat} {xs : Nat → Int32} {d : Nat} {N : Nat} {k54 : Int32 → Int32 → Int32 → am_S → Option (Int32 × am_S)} (hk54 : ∀ {x2 : Int32} {x3 : Int32} {x4 : Int32} {w5 : Value} {w6 : Value} {w7 : Value} {w8 : Value} {σ : am_S} {o : Int32 × am_S}, k54 x2 x3 x4 σ = some o → am_Ev am_sh (am_exx X xs) (d + 1) mm_153 54 [.ref 85, .ref 103, .int x2, .int x3, .int x4, w5, w6, w7, w8] [] σ (some (.int o.1)) o.2) {x2 : Int32} {x3 : Int32} {x4 : Int32} {x5 : Int32} {x6 : Int32} {x7 : Int32} {s0 : Int32} {w8 : Value} {σ : am_S} {o : Int32 × am_S} (h : fm_read_b320 N k54 x2 x3 x4 x5 x6 x7 s0 σ = some o) : am_Ev am_sh (am_exx X xs) (d + 1) mm_153 320 [.ref 85, .ref 103, .int x2, .int x3, .int x4, .int x5, .int x6, .int x7, w8] [.int s0] σ (some (.int o.1)) o.2 := by
  unfold fm_read_b320 at h
  refine ev_istore (pc' := 322) (L' := [.ref 85, .ref 103, .int x2, .int x3, .int x4, .int x5, .int x6, .int x7, .int s0]) rfl rfl rfl rfl ?_
  exact fm_read_b322_e (hk54 := hk54) h
def fm_read_b54 (N : Nat) : Nat → Int32 → Int32 → Int32 → am_S → Option (Int32 × am_S)
  | 0, _, _, _, _ => none
  | n + 1, x2, x3, x4, σ => (if x3 ≤ x4 then some ((-1 : Int32), σ) else am_g (am_in (x2 + x4) 150) <| (if (σ 103 (x2 + x4).toNatClampNeg) = (99 : Int32) then (if (σ 103 (x2 + x4).toNatClampNeg) = (107 : Int32) then fm_read_b320 N (fun x2 x3 x4 σ => fm_read_b54 N n x2 x3 x4 σ) x2 x3 (x4 + (1 : Int32)) (σ 103 (x2 + x4).toNatClampNeg) (0 : Int32) (0 : Int32) (3 : Int32) σ else (if (σ 103 (x2 + x4).toNatClampNeg) = (99 : Int32) then fm_read_b320 N (fun x2 x3 x4 σ => fm_read_b54 N n x2 x3 x4 σ) x2 x3 (x4 + (1 : Int32)) (σ 103 (x2 + x4).toNatClampNeg) (0 : Int32) (0 : Int32) (1 : Int32) σ else fm_read_b320 N (fun x2 x3 x4 σ => fm_read_b54 N n x2 x3 x4 σ) x2 x3 (x4 + (1 : Int32)) (σ 103 (x2 + x4).toNatClampNeg) (0 : Int32) (0 : Int32) (2 : Int32) σ)) else (if (σ 103 (x2 + x4).toNatClampNeg) = (100 : Int32) then (if x3 ≤ (x4 + (1 : Int32)) then fm_read_b529 N (fun x2 x3 x4 σ => fm_read_b54 N n x2 x3 x4 σ) x2 x3 (x4 + (1 : Int32)) (0 : Int32) σ else am_g (am_in (x2 + (x4 + (1 : Int32))) 150) <| (if (σ 103 (x2 + (x4 + (1 : Int32))).toNatClampNeg) = (108 : Int32) then fm_read_b268 N (fun x2 x3 x4 σ => fm_read_b54 N n x2 x3 x4 σ) x2 x3 (x4 + (1 : Int32)) σ else am_g (am_in (x2 + (x4 + (1 : Int32))) 150) <| (if (σ 103 (x2 + (x4 + (1 : Int32))).toNatClampNeg) = (115 : Int32) then fm_read_b268 N (fun x2 x3 x4 σ => fm_read_b54 N n x2 x3 x4 σ) x2 x3 (x4 + (1 : Int32)) σ else fm_read_b529 N (fun x2 x3 x4 σ => fm_read_b54 N n x2 x3 x4 σ) x2 x3 (x4 + (1 : Int32)) (0 : Int32) σ))) else (if (σ 103 (x2 + x4).toNatClampNeg) = (107 : Int32) then (if (σ 103 (x2 + x4).toNatClampNeg) = (107 : Int32) then fm_read_b320 N (fun x2 x3 x4 σ => fm_read_b54 N n x2 x3 x4 σ) x2 x3 (x4 + (1 : Int32)) (σ 103 (x2 + x4).toNatClampNeg) (0 : Int32) (0 : Int32) (3 : Int32) σ else (if (σ 103 (x2 + x4).toNatClampNeg) = (99 : Int32) then fm_read_b320 N (fun x2 x3 x4 σ => fm_read_b54 N n x2 x3 x4 σ) x2 x3 (x4 + (1 : Int32)) (σ 103 (x2 + x4).toNatClampNeg) (0 : Int32) (0 : Int32) (1 : Int32) σ else fm_read_b320 N (fun x2 x3 x4 σ => fm_read_b54 N n x2 x3 x4 σ) x2 x3 (x4 + (1 : Int32)) (σ 103 (x2 + x4).toNatClampNeg) (0 : Int32) (0 : Int32) (2 : Int32) σ)) else (if (σ 103 (x2 + x4).toNatClampNeg) = (112 : Int32) then fm_read_b173 N (fun x2 x3 x4 σ => fm_read_b54 N n x2 x3 x4 σ) N x2 x3 (x4 + (1 : Int32)) (am_up σ 85 55 (0 : Int32)) else (if (σ 103 (x2 + x4).toNatClampNeg) = (115 : Int32) then (if (σ 103 (x2 + x4).toNatClampNeg) = (107 : Int32) then fm_read_b320 N (fun x2 x3 x4 σ => fm_read_b54 N n x2 x3 x4 σ) x2 x3 (x4 + (1 : Int32)) (σ 103 (x2 + x4).toNatClampNeg) (0 : Int32) (0 : Int32) (3 : Int32) σ else (if (σ 103 (x2 + x4).toNatClampNeg) = (99 : Int32) then fm_read_b320 N (fun x2 x3 x4 σ => fm_read_b54 N n x2 x3 x4 σ) x2 x3 (x4 + (1 : Int32)) (σ 103 (x2 + x4).toNatClampNeg) (0 : Int32) (0 : Int32) (1 : Int32) σ else fm_read_b320 N (fun x2 x3 x4 σ => fm_read_b54 N n x2 x3 x4 σ) x2 x3 (x4 + (1 : Int32)) (σ 103 (x2 + x4).toNatClampNeg) (0 : Int32) (0 : Int32) (2 : Int32) σ)) else (if (σ 103 (x2 + x4).toNatClampNeg) = (117 : Int32) then (if (σ 103 (x2 + x4).toNatClampNeg) = (107 : Int32) then fm_read_b320 N (fun x2 x3 x4 σ => fm_read_b54 N n x2 x3 x4 σ) x2 x3 (x4 + (1 : Int32)) (σ 103 (x2 + x4).toNatClampNeg) (0 : Int32) (0 : Int32) (3 : Int32) σ else (if (σ 103 (x2 + x4).toNatClampNeg) = (99 : Int32) then fm_read_b320 N (fun x2 x3 x4 σ => fm_read_b54 N n x2 x3 x4 σ) x2 x3 (x4 + (1 : Int32)) (σ 103 (x2 + x4).toNatClampNeg) (0 : Int32) (0 : Int32) (1 : Int32) σ else fm_read_b320 N (fun x2 x3 x4 σ => fm_read_b54 N n x2 x3 x4 σ) x2 x3 (x4 + (1 : Int32)) (σ 103 (x2 + x4).toNatClampNeg) (0 : Int32) (0 : Int32) (2 : Int32) σ)) else some (((x4 + (1 : Int32)) - (1 : Int32)), σ))))))))
set_option maxRecDepth 100000 in
theorem fm_read_b54_e {X : Nat} {xs : Nat → Int32} {d : Nat} {N : Nat} : ∀ {n : Nat} {x2 : Int32} {x3 : Int32} {x4 : Int32} {w5 : Value} {w6 : Value} {w7 : Value} {w8 : Value} {σ : am_S} {o : Int32 × am_S}, fm_read_b54 N n x2 x3 x4 σ = some o → am_Ev am_sh (am_exx X xs) (d + 1) mm_153 54 [.ref 85, .ref 103, .int x2, .int x3, .int x4, w5, w6, w7, w8] [] σ (some (.int o.1)) o.2 := by
  intro n
  induction n with
  | zero => intro x2 x3 x4 w5 w6 w7 w8 σ o h; cases h
  | succ n ih =>
    intro x2 x3 x4 w5 w6 w7 w8 σ o h
    unfold fm_read_b54 at h
    refine ev_iload (pc' := 56) rfl rfl rfl ?_
    refine ev_iload_n (pc' := 57) rfl rfl rfl ?_
    rcases am_if h with ⟨hc1, h⟩ | ⟨hc1, h⟩
    · refine ev_ic_t (pc' := 560) rfl rfl (cb_ge_t hc1) ?_
      refine ev_iconst (pc' := 561) (b := (-1 : Int32)) rfl rfl rfl ?_
      obtain rfl := Option.some.inj h
      exact ev_ireturn rfl rfl
    · refine ev_ic_f (pc' := 60) rfl (by decide) rfl (cb_ge_f hc1) ?_
      refine ev_aload_n (pc' := 61) rfl rfl rfl ?_
      refine ev_iload_n (pc' := 62) rfl rfl rfl ?_
      refine ev_iload (pc' := 64) rfl rfl rfl ?_
      refine ev_iadd (pc' := 65) rfl rfl ?_
      obtain ⟨hg2, h⟩ := am_g_some h
      refine ev_iaload (pc' := 66) rfl rfl rfl hg2 ?_
      refine ev_istore (pc' := 68) (L' := [.ref 85, .ref 103, .int x2, .int x3, .int x4, .int (σ 103 (x2 + x4).toNatClampNeg), w6, w7, w8]) rfl rfl rfl rfl ?_
      refine ev_iinc (pc' := 71) (L' := [.ref 85, .ref 103, .int x2, .int x3, .int (x4 + (1 : Int32)), .int (σ 103 (x2 + x4).toNatClampNeg), w6, w7, w8]) (b := (1 : Int32)) rfl rfl rfl rfl rfl ?_
      refine ev_iconst (pc' := 72) (b := (0 : Int32)) rfl rfl rfl ?_
      refine ev_istore (pc' := 74) (L' := [.ref 85, .ref 103, .int x2, .int x3, .int (x4 + (1 : Int32)), .int (σ 103 (x2 + x4).toNatClampNeg), .int (0 : Int32), w7, w8]) rfl rfl rfl rfl ?_
      refine ev_iconst (pc' := 75) (b := (0 : Int32)) rfl rfl rfl ?_
      refine ev_istore (pc' := 77) (L' := [.ref 85, .ref 103, .int x2, .int x3, .int (x4 + (1 : Int32)), .int (σ 103 (x2 + x4).toNatClampNeg), .int (0 : Int32), .int (0 : Int32), w8]) rfl rfl rfl rfl ?_
      refine ev_iload (pc' := 79) rfl rfl rfl ?_
      rcases am_if h with ⟨hc3, h⟩ | ⟨hc3, h⟩
      · refine ev_tsw (pc' := 297) (off := 218) rfl (by rw [hc3]; decide +kernel) (by rw [hc3]; decide +kernel) rfl ?_
        refine ev_iload (pc' := 299) rfl rfl rfl ?_
        refine ev_bipush (pc' := 301) (b := (107 : Int32)) rfl rfl rfl ?_
        rcases am_if h with ⟨hc4, h⟩ | ⟨hc4, h⟩
        · refine ev_ic_f (pc' := 304) rfl (by decide) rfl (cb_ne_f hc4) ?_
          refine ev_iconst (pc' := 305) (b := (3 : Int32)) rfl rfl rfl ?_
          refine ev_goto (pc' := 320) rfl rfl ?_
          exact fm_read_b320_e (hk54 := fun h => ih h) h
        · refine ev_ic_t (pc' := 308) rfl rfl (cb_ne_t hc4) ?_
          refine ev_iload (pc' := 310) rfl rfl rfl ?_
          refine ev_bipush (pc' := 312) (b := (99 : Int32)) rfl rfl rfl ?_
          rcases am_if h with ⟨hc5, h⟩ | ⟨hc5, h⟩
          · refine ev_ic_f (pc' := 315) rfl (by decide) rfl (cb_ne_f hc5) ?_
            refine ev_iconst (pc' := 316) (b := (1 : Int32)) rfl rfl rfl ?_
            refine ev_goto (pc' := 320) rfl rfl ?_
            exact fm_read_b320_e (hk54 := fun h => ih h) h
          · refine ev_ic_t (pc' := 319) rfl rfl (cb_ne_t hc5) ?_
            refine ev_iconst (pc' := 320) (b := (2 : Int32)) rfl rfl rfl ?_
            exact fm_read_b320_e (hk54 := fun h => ih h) h
      rcases am_if h with ⟨hc6, h⟩ | ⟨hc6, h⟩
      · refine ev_tsw (pc' := 240) (off := 161) rfl (by rw [hc6]; decide +kernel) (by rw [hc6]; decide +kernel) rfl ?_
        refine ev_iload (pc' := 242) rfl rfl rfl ?_
        refine ev_iload_n (pc' := 243) rfl rfl rfl ?_
        rcases am_if h with ⟨hc7, h⟩ | ⟨hc7, h⟩
        · refine ev_ic_t (pc' := 529) rfl rfl (cb_ge_t hc7) ?_
          exact fm_read_b529_e (hk54 := fun h => ih h) h
        · refine ev_ic_f (pc' := 246) rfl (by decide) rfl (cb_ge_f hc7) ?_
          refine ev_aload_n (pc' := 247) rfl rfl rfl ?_
          refine ev_iload_n (pc' := 248) rfl rfl rfl ?_
          refine ev_iload (pc' := 250) rfl rfl rfl ?_
          refine ev_iadd (pc' := 251) rfl rfl ?_
          obtain ⟨hg8, h⟩ := am_g_some h
          refine ev_iaload (pc' := 252) rfl rfl rfl hg8 ?_
          refine ev_bipush (pc' := 254) (b := (108 : Int32)) rfl rfl rfl ?_
          rcases am_if h with ⟨hc9, h⟩ | ⟨hc9, h⟩
          · refine ev_ic_t (pc' := 268) rfl rfl (cb_eq_t hc9) ?_
            exact fm_read_b268_e (hk54 := fun h => ih h) h
          · refine ev_ic_f (pc' := 257) rfl (by decide) rfl (cb_eq_f hc9) ?_
            refine ev_aload_n (pc' := 258) rfl rfl rfl ?_
            refine ev_iload_n (pc' := 259) rfl rfl rfl ?_
            refine ev_iload (pc' := 261) rfl rfl rfl ?_
            refine ev_iadd (pc' := 262) rfl rfl ?_
            obtain ⟨hg10, h⟩ := am_g_some h
            refine ev_iaload (pc' := 263) rfl rfl rfl hg10 ?_
            refine ev_bipush (pc' := 265) (b := (115 : Int32)) rfl rfl rfl ?_
            rcases am_if h with ⟨hc11, h⟩ | ⟨hc11, h⟩
            · refine ev_ic_f (pc' := 268) rfl (by decide) rfl (cb_ne_f hc11) ?_
              exact fm_read_b268_e (hk54 := fun h => ih h) h
            · refine ev_ic_t (pc' := 529) rfl rfl (cb_ne_t hc11) ?_
              exact fm_read_b529_e (hk54 := fun h => ih h) h
      rcases am_if h with ⟨hc12, h⟩ | ⟨hc12, h⟩
      · refine ev_tsw (pc' := 297) (off := 218) rfl (by rw [hc12]; decide +kernel) (by rw [hc12]; decide +kernel) rfl ?_
        refine ev_iload (pc' := 299) rfl rfl rfl ?_
        refine ev_bipush (pc' := 301) (b := (107 : Int32)) rfl rfl rfl ?_
        rcases am_if h with ⟨hc13, h⟩ | ⟨hc13, h⟩
        · refine ev_ic_f (pc' := 304) rfl (by decide) rfl (cb_ne_f hc13) ?_
          refine ev_iconst (pc' := 305) (b := (3 : Int32)) rfl rfl rfl ?_
          refine ev_goto (pc' := 320) rfl rfl ?_
          exact fm_read_b320_e (hk54 := fun h => ih h) h
        · refine ev_ic_t (pc' := 308) rfl rfl (cb_ne_t hc13) ?_
          refine ev_iload (pc' := 310) rfl rfl rfl ?_
          refine ev_bipush (pc' := 312) (b := (99 : Int32)) rfl rfl rfl ?_
          rcases am_if h with ⟨hc14, h⟩ | ⟨hc14, h⟩
          · refine ev_ic_f (pc' := 315) rfl (by decide) rfl (cb_ne_f hc14) ?_
            refine ev_iconst (pc' := 316) (b := (1 : Int32)) rfl rfl rfl ?_
            refine ev_goto (pc' := 320) rfl rfl ?_
            exact fm_read_b320_e (hk54 := fun h => ih h) h
          · refine ev_ic_t (pc' := 319) rfl rfl (cb_ne_t hc14) ?_
            refine ev_iconst (pc' := 320) (b := (2 : Int32)) rfl rfl rfl ?_
            exact fm_read_b320_e (hk54 := fun h => ih h) h
      rcases am_if h with ⟨hc15, h⟩ | ⟨hc15, h⟩
      · refine ev_tsw (pc' := 168) (off := 89) rfl (by rw [hc15]; decide +kernel) (by rw [hc15]; decide +kernel) rfl ?_
        refine ev_aload_n (pc' := 169) rfl rfl rfl ?_
        refine ev_iconst (pc' := 170) (b := (0 : Int32)) rfl rfl rfl ?_
        refine ev_putfield (pc' := 173) (ci := 11) (f := 55) (z := 0) rfl rfl rfl rfl rfl ?_
        exact fm_read_b173_e (hk54 := fun h => ih h) h
      rcases am_if h with ⟨hc16, h⟩ | ⟨hc16, h⟩
      · refine ev_tsw (pc' := 297) (off := 218) rfl (by rw [hc16]; decide +kernel) (by rw [hc16]; decide +kernel) rfl ?_
        refine ev_iload (pc' := 299) rfl rfl rfl ?_
        refine ev_bipush (pc' := 301) (b := (107 : Int32)) rfl rfl rfl ?_
        rcases am_if h with ⟨hc17, h⟩ | ⟨hc17, h⟩
        · refine ev_ic_f (pc' := 304) rfl (by decide) rfl (cb_ne_f hc17) ?_
          refine ev_iconst (pc' := 305) (b := (3 : Int32)) rfl rfl rfl ?_
          refine ev_goto (pc' := 320) rfl rfl ?_
          exact fm_read_b320_e (hk54 := fun h => ih h) h
        · refine ev_ic_t (pc' := 308) rfl rfl (cb_ne_t hc17) ?_
          refine ev_iload (pc' := 310) rfl rfl rfl ?_
          refine ev_bipush (pc' := 312) (b := (99 : Int32)) rfl rfl rfl ?_
          rcases am_if h with ⟨hc18, h⟩ | ⟨hc18, h⟩
          · refine ev_ic_f (pc' := 315) rfl (by decide) rfl (cb_ne_f hc18) ?_
            refine ev_iconst (pc' := 316) (b := (1 : Int32)) rfl rfl rfl ?_
            refine ev_goto (pc' := 320) rfl rfl ?_
            exact fm_read_b320_e (hk54 := fun h => ih h) h
          · refine ev_ic_t (pc' := 319) rfl rfl (cb_ne_t hc18) ?_
            refine ev_iconst (pc' := 320) (b := (2 : Int32)) rfl rfl rfl ?_
            exact fm_read_b320_e (hk54 := fun h => ih h) h
      rcases am_if h with ⟨hc19, h⟩ | ⟨hc19, h⟩
      · refine ev_tsw (pc' := 297) (off := 218) rfl (by rw [hc19]; decide +kernel) (by rw [hc19]; decide +kernel) rfl ?_
        refine ev_iload (pc' := 299) rfl rfl rfl ?_
        refine ev_bipush (pc' := 301) (b := (107 : Int32)) rfl rfl rfl ?_
        rcases am_if h with ⟨hc20, h⟩ | ⟨hc20, h⟩
        · refine ev_ic_f (pc' := 304) rfl (by decide) rfl (cb_ne_f hc20) ?_
          refine ev_iconst (pc' := 305) (b := (3 : Int32)) rfl rfl rfl ?_
          refine ev_goto (pc' := 320) rfl rfl ?_
          exact fm_read_b320_e (hk54 := fun h => ih h) h
        · refine ev_ic_t (pc' := 308) rfl rfl (cb_ne_t hc20) ?_
          refine ev_iload (pc' := 310) rfl rfl rfl ?_
          refine ev_bipush (pc' := 312) (b := (99 : Int32)) rfl rfl rfl ?_
          rcases am_if h with ⟨hc21, h⟩ | ⟨hc21, h⟩
          · refine ev_ic_f (pc' := 315) rfl (by decide) rfl (cb_ne_f hc21) ?_
            refine ev_iconst (pc' := 316) (b := (1 : Int32)) rfl rfl rfl ?_
            refine ev_goto (pc' := 320) rfl rfl ?_
            exact fm_read_b320_e (hk54 := fun h => ih h) h
          · refine ev_ic_t (pc' := 319) rfl rfl (cb_ne_t hc21) ?_
            refine ev_iconst (pc' := 320) (b := (2 : Int32)) rfl rfl rfl ?_
            exact fm_read_b320_e (hk54 := fun h => ih h) h
      have hd22 : (σ 103 (x2 + x4).toNatClampNeg).toInt < 99 ∨ 117 < (σ 103 (x2 + x4).toNatClampNeg).toInt ∨ True := Or.inr (Or.inr trivial)
      have hk22 : ∀ (Lq Sq : List Value) (v : Option Value) (σ2 : am_S), am_Ev am_sh (am_exx X xs) (d + 1) mm_153 524 Lq Sq σ v σ2 → am_Ev am_sh (am_exx X xs) (d + 1) mm_153 79 Lq (.int (σ 103 (x2 + x4).toNatClampNeg) :: Sq) σ v σ2 := fun Lq Sq v σ2 hz => by
        by_cases hr : (σ 103 (x2 + x4).toNatClampNeg).toInt < 99 ∨ 117 < (σ 103 (x2 + x4).toNatClampNeg).toInt
        · exact ev_tsd rfl hr rfl hz
        · obtain ⟨j, hj, hx⟩ := am_rg 19 hr (by decide)
          rcases (show j = 0 ∨ j = 1 ∨ j = 2 ∨ j = 3 ∨ j = 4 ∨ j = 5 ∨ j = 6 ∨ j = 7 ∨ j = 8 ∨ j = 9 ∨ j = 10 ∨ j = 11 ∨ j = 12 ∨ j = 13 ∨ j = 14 ∨ j = 15 ∨ j = 16 ∨ j = 17 ∨ j = 18 by omega) with rfl | rfl | rfl | rfl | rfl | rfl | rfl | rfl | rfl | rfl | rfl | rfl | rfl | rfl | rfl | rfl | rfl | rfl | rfl
          · exact absurd (hx.trans (by decide +kernel)) hc3
          · exact absurd (hx.trans (by decide +kernel)) hc6
          · exact ev_tsw (off := 445) rfl hr (by rw [hx]; decide +kernel) rfl hz
          · exact ev_tsw (off := 445) rfl hr (by rw [hx]; decide +kernel) rfl hz
          · exact ev_tsw (off := 445) rfl hr (by rw [hx]; decide +kernel) rfl hz
          · exact ev_tsw (off := 445) rfl hr (by rw [hx]; decide +kernel) rfl hz
          · exact ev_tsw (off := 445) rfl hr (by rw [hx]; decide +kernel) rfl hz
          · exact ev_tsw (off := 445) rfl hr (by rw [hx]; decide +kernel) rfl hz
          · exact absurd (hx.trans (by decide +kernel)) hc12
          · exact ev_tsw (off := 445) rfl hr (by rw [hx]; decide +kernel) rfl hz
          · exact ev_tsw (off := 445) rfl hr (by rw [hx]; decide +kernel) rfl hz
          · exact ev_tsw (off := 445) rfl hr (by rw [hx]; decide +kernel) rfl hz
          · exact ev_tsw (off := 445) rfl hr (by rw [hx]; decide +kernel) rfl hz
          · exact absurd (hx.trans (by decide +kernel)) hc15
          · exact ev_tsw (off := 445) rfl hr (by rw [hx]; decide +kernel) rfl hz
          · exact ev_tsw (off := 445) rfl hr (by rw [hx]; decide +kernel) rfl hz
          · exact absurd (hx.trans (by decide +kernel)) hc16
          · exact ev_tsw (off := 445) rfl hr (by rw [hx]; decide +kernel) rfl hz
          · exact absurd (hx.trans (by decide +kernel)) hc19
      refine hk22 _ _ _ _ ?_
      refine ev_iload (pc' := 526) rfl rfl rfl ?_
      refine ev_iconst (pc' := 527) (b := (1 : Int32)) rfl rfl rfl ?_
      refine ev_isub (pc' := 528) rfl rfl ?_
      obtain rfl := Option.some.inj h
      exact ev_ireturn rfl rfl
def fm_read (N : Nat) (a2 : Int32) (a3 : Int32) (σ : am_S) : Option (Int32 × am_S) := am_g (am_in (0 : Int32) 4) <| am_g (am_in (1 : Int32) 4) <| fm_read_b54 N N a2 a3 (0 : Int32) (am_up (am_up (am_up (am_up (am_up (am_up (am_up (am_up σ 125 (0 : Int32).toNatClampNeg (104 : Int32)) 125 (1 : Int32).toNatClampNeg (98 : Int32)) 85 55 (2 : Int32)) 85 56 (400 : Int32)) 85 57 (50 : Int32)) 85 58 (0 : Int32)) 85 59 (9 : Int32)) 85 60 (12 : Int32))
set_option maxRecDepth 100000 in
theorem fm_read_e {X : Nat} {xs : Nat → Int32} {d : Nat} {N : Nat} {a2 : Int32} {a3 : Int32} {σ : am_S} {o : Int32 × am_S} (h : fm_read N a2 a3 σ = some o) : am_Ev am_sh (am_exx X xs) (d + 1) mm_153 0 [.ref 85, .ref 103, .int a2, .int a3, .null, .null, .null, .null, .null] [] σ (some (.int o.1)) o.2 := by
  unfold fm_read at h
  refine ev_aload_n (pc' := 1) rfl rfl rfl ?_
  refine ev_getfield (pc' := 4) (w := .ref 125) rfl rfl rfl rfl ?_
  refine ev_iconst (pc' := 5) (b := (0 : Int32)) rfl rfl rfl ?_
  refine ev_bipush (pc' := 7) (b := (104 : Int32)) rfl rfl rfl ?_
  obtain ⟨hg1, h⟩ := am_g_some h
  refine ev_iastore (pc' := 8) rfl rfl rfl hg1 ?_
  refine ev_aload_n (pc' := 9) rfl rfl rfl ?_
  refine ev_getfield (pc' := 12) (w := .ref 125) rfl rfl rfl rfl ?_
  refine ev_iconst (pc' := 13) (b := (1 : Int32)) rfl rfl rfl ?_
  refine ev_bipush (pc' := 15) (b := (98 : Int32)) rfl rfl rfl ?_
  obtain ⟨hg2, h⟩ := am_g_some h
  refine ev_iastore (pc' := 16) rfl rfl rfl hg2 ?_
  refine ev_aload_n (pc' := 17) rfl rfl rfl ?_
  refine ev_iconst (pc' := 18) (b := (2 : Int32)) rfl rfl rfl ?_
  refine ev_putfield (pc' := 21) (ci := 11) (f := 55) (z := 0) rfl rfl rfl rfl rfl ?_
  refine ev_aload_n (pc' := 22) rfl rfl rfl ?_
  refine ev_sipush (pc' := 25) (b := (400 : Int32)) rfl rfl rfl ?_
  refine ev_putfield (pc' := 28) (ci := 11) (f := 56) (z := 0) rfl rfl rfl rfl rfl ?_
  refine ev_aload_n (pc' := 29) rfl rfl rfl ?_
  refine ev_bipush (pc' := 31) (b := (50 : Int32)) rfl rfl rfl ?_
  refine ev_putfield (pc' := 34) (ci := 11) (f := 57) (z := 0) rfl rfl rfl rfl rfl ?_
  refine ev_aload_n (pc' := 35) rfl rfl rfl ?_
  refine ev_iconst (pc' := 36) (b := (0 : Int32)) rfl rfl rfl ?_
  refine ev_putfield (pc' := 39) (ci := 11) (f := 58) (z := 0) rfl rfl rfl rfl rfl ?_
  refine ev_aload_n (pc' := 40) rfl rfl rfl ?_
  refine ev_bipush (pc' := 42) (b := (9 : Int32)) rfl rfl rfl ?_
  refine ev_putfield (pc' := 45) (ci := 11) (f := 59) (z := 0) rfl rfl rfl rfl rfl ?_
  refine ev_aload_n (pc' := 46) rfl rfl rfl ?_
  refine ev_bipush (pc' := 48) (b := (12 : Int32)) rfl rfl rfl ?_
  refine ev_putfield (pc' := 51) (ci := 11) (f := 60) (z := 0) rfl rfl rfl rfl rfl ?_
  refine ev_iconst (pc' := 52) (b := (0 : Int32)) rfl rfl rfl ?_
  refine ev_istore (pc' := 54) (L' := [.ref 85, .ref 103, .int a2, .int a3, .int (0 : Int32), .null, .null, .null, .null]) rfl rfl rfl rfl ?_
  exact fm_read_b54_e h
/-! PartedLandModel.readLaw (85, 'I'): S -/
def fm_readLaw (N : Nat) (a1 : Int32) (σ : am_S) : Option (Int32 × am_S) := am_g (am_in a1 3) <| (fm_read N ((50 : Int32) * a1) (σ 104 a1.toNatClampNeg) σ).bind fun q2 => some (q2.1, q2.2)
set_option maxRecDepth 100000 in
theorem fm_readLaw_e {X : Nat} {xs : Nat → Int32} {d : Nat} {N : Nat} {a1 : Int32} {σ : am_S} {o : Int32 × am_S} (h : fm_readLaw N a1 σ = some o) : am_Ev am_sh (am_exx X xs) (d + 2) mm_155 0 [.ref 85, .int a1] [] σ (some (.int o.1)) o.2 := by
  unfold fm_readLaw at h
  refine ev_aload_n (pc' := 1) rfl rfl rfl ?_
  refine ev_aload_n (pc' := 2) rfl rfl rfl ?_
  refine ev_getfield (pc' := 5) (w := .ref 103) rfl rfl rfl rfl ?_
  refine ev_bipush (pc' := 7) (b := (50 : Int32)) rfl rfl rfl ?_
  refine ev_iload_n (pc' := 8) rfl rfl rfl ?_
  refine ev_imul (pc' := 9) rfl rfl ?_
  refine ev_aload_n (pc' := 10) rfl rfl rfl ?_
  refine ev_getfield (pc' := 13) (w := .ref 104) rfl rfl rfl rfl ?_
  refine ev_iload_n (pc' := 14) rfl rfl rfl ?_
  obtain ⟨hg1, h⟩ := am_g_some h
  refine ev_iaload (pc' := 15) rfl rfl rfl hg1 ?_
  refine am_bd h (fun q2 hq2 h => ?_)
  refine ev_call (mi := 153) (as := [.ref 85, .ref 103, .int ((50 : Int32) * a1), .int (σ 104 a1.toNatClampNeg)]) (rest := []) rfl rfl (Nat.le_of_ble_eq_true rfl) (fm_read_e (d := d) hq2) ?_
  show am_Ev _ _ _ _ 18 _ _ _ _ _
  obtain rfl := Option.some.inj h
  exact ev_ireturn rfl rfl
/-! PartedLandModel.whoseBy (85, 'I'): P -/
def fm_whoseBy_b149 (N : Nat) (k2 : Int32 → Int32 → am_S → Option Int32) (x1 : Int32) (x2 : Int32) (x4 : Int32) (σ : am_S) : Option Int32 := (if x4 < 0 then k2 x1 (x2 + (1 : Int32)) σ else some x4)
set_option maxRecDepth 100000 in
theorem fm_whoseBy_b149_e {X : Nat} {xs : Nat → Int32} {d : Nat} {N : Nat} {k2 : Int32 → Int32 → am_S → Option Int32} (hk2 : ∀ {x1 : Int32} {x2 : Int32} {w3 : Value} {w4 : Value} {σ : am_S} {o : Int32}, k2 x1 x2 σ = some o → am_Ev am_sh (am_exx X xs) (d + 2) mm_156 2 [.ref 85, .int x1, .int x2, w3, w4] [] σ (some (.int o)) σ) {x1 : Int32} {x2 : Int32} {x4 : Int32} {w3 : Value} {σ : am_S} {o : Int32} (h : fm_whoseBy_b149 N k2 x1 x2 x4 σ = some o) : am_Ev am_sh (am_exx X xs) (d + 2) mm_156 149 [.ref 85, .int x1, .int x2, w3, .int x4] [] σ (some (.int o)) σ := by
  unfold fm_whoseBy_b149 at h
  refine ev_iload (pc' := 151) rfl rfl rfl ?_
  rcases am_if h with ⟨hc1, h⟩ | ⟨hc1, h⟩
  · refine ev_if_t (pc' := 157) rfl rfl (cb_lt_t hc1) ?_
    refine ev_iinc (pc' := 160) (L' := [.ref 85, .int x1, .int (x2 + (1 : Int32)), w3, .int x4]) (b := (1 : Int32)) rfl rfl rfl rfl rfl ?_
    refine ev_goto (pc' := 2) rfl rfl ?_
    exact hk2 h
  · refine ev_if_f (pc' := 154) rfl (by decide) rfl (cb_lt_f hc1) ?_
    refine ev_iload (pc' := 156) rfl rfl rfl ?_
    obtain rfl := Option.some.inj h
    exact ev_ireturn rfl rfl
def fm_whoseBy_b49 (N : Nat) (k2 : Int32 → Int32 → am_S → Option Int32) (x1 : Int32) (x2 : Int32) (s0 : Int32) (σ : am_S) : Option Int32 := fm_whoseBy_b149 N k2 x1 x2 s0 σ
set_option maxRecDepth 100000 in
theorem fm_whoseBy_b49_e {X : Nat} {xs : Nat → Int32} {d : Nat} {N : Nat} {k2 : Int32 → Int32 → am_S → Option Int32} (hk2 : ∀ {x1 : Int32} {x2 : Int32} {w3 : Value} {w4 : Value} {σ : am_S} {o : Int32}, k2 x1 x2 σ = some o → am_Ev am_sh (am_exx X xs) (d + 2) mm_156 2 [.ref 85, .int x1, .int x2, w3, w4] [] σ (some (.int o)) σ) {x1 : Int32} {x2 : Int32} {s0 : Int32} {w3 : Value} {w4 : Value} {σ : am_S} {o : Int32} (h : fm_whoseBy_b49 N k2 x1 x2 s0 σ = some o) : am_Ev am_sh (am_exx X xs) (d + 2) mm_156 49 [.ref 85, .int x1, .int x2, w3, w4] [.int s0] σ (some (.int o)) σ := by
  unfold fm_whoseBy_b49 at h
  refine ev_istore (pc' := 51) (L' := [.ref 85, .int x1, .int x2, w3, .int s0]) rfl rfl rfl rfl ?_
  refine ev_goto (pc' := 149) rfl rfl ?_
  exact fm_whoseBy_b149_e (hk2 := hk2) h
def fm_whoseBy_b147 (N : Nat) (k2 : Int32 → Int32 → am_S → Option Int32) (x1 : Int32) (x2 : Int32) (s0 : Int32) (σ : am_S) : Option Int32 := fm_whoseBy_b149 N k2 x1 x2 s0 σ
set_option maxRecDepth 100000 in
theorem fm_whoseBy_b147_e {X : Nat} {xs : Nat → Int32} {d : Nat} {N : Nat} {k2 : Int32 → Int32 → am_S → Option Int32} (hk2 : ∀ {x1 : Int32} {x2 : Int32} {w3 : Value} {w4 : Value} {σ : am_S} {o : Int32}, k2 x1 x2 σ = some o → am_Ev am_sh (am_exx X xs) (d + 2) mm_156 2 [.ref 85, .int x1, .int x2, w3, w4] [] σ (some (.int o)) σ) {x1 : Int32} {x2 : Int32} {s0 : Int32} {w3 : Value} {w4 : Value} {σ : am_S} {o : Int32} (h : fm_whoseBy_b147 N k2 x1 x2 s0 σ = some o) : am_Ev am_sh (am_exx X xs) (d + 2) mm_156 147 [.ref 85, .int x1, .int x2, w3, w4] [.int s0] σ (some (.int o)) σ := by
  unfold fm_whoseBy_b147 at h
  refine ev_istore (pc' := 149) (L' := [.ref 85, .int x1, .int x2, w3, .int s0]) rfl rfl rfl rfl ?_
  exact fm_whoseBy_b149_e (hk2 := hk2) h
def fm_whoseBy_b2 (N : Nat) : Nat → Int32 → Int32 → am_S → Option Int32
  | 0, _, _, _ => none
  | n + 1, x1, x2, σ => (if (σ 85 55) ≤ x2 then some (-1 : Int32) else am_g (am_in x2 4) <| (if (σ 125 x2.toNatClampNeg) = (99 : Int32) then am_g (am_in x1 16) <| (if (σ 85 56) < (σ 100 x1.toNatClampNeg) then fm_whoseBy_b49 N (fun x1 x2 σ => fm_whoseBy_b2 N n x1 x2 σ) x1 x2 (-1 : Int32) σ else am_g (am_in x1 16) <| fm_whoseBy_b49 N (fun x1 x2 σ => fm_whoseBy_b2 N n x1 x2 σ) x1 x2 (σ 99 x1.toNatClampNeg) σ) else (if (σ 125 x2.toNatClampNeg) = (104 : Int32) then am_g (am_in x1 16) <| (fm_sideOf N (σ 97 x1.toNatClampNeg) σ).bind fun q9 => fm_whoseBy_b149 N (fun x1 x2 σ => fm_whoseBy_b2 N n x1 x2 σ) x1 x2 q9 σ else (if (σ 125 x2.toNatClampNeg) = (98 : Int32) then am_g (am_in x1 16) <| (fm_sideOf N (σ 96 x1.toNatClampNeg) σ).bind fun q12 => fm_whoseBy_b149 N (fun x1 x2 σ => fm_whoseBy_b2 N n x1 x2 σ) x1 x2 q12 σ else am_g (am_in ((2 : Int32) * x1) 32) <| am_g (am_in (((2 : Int32) * x1) + (1 : Int32)) 32) <| (if (σ 98 ((2 : Int32) * x1).toNatClampNeg) ≤ (σ 98 (((2 : Int32) * x1) + (1 : Int32)).toNatClampNeg) then am_g (am_in ((2 : Int32) * x1) 32) <| am_g (am_in (((2 : Int32) * x1) + (1 : Int32)) 32) <| (if (σ 98 (((2 : Int32) * x1) + (1 : Int32)).toNatClampNeg) ≤ (σ 98 ((2 : Int32) * x1).toNatClampNeg) then fm_whoseBy_b147 N (fun x1 x2 σ => fm_whoseBy_b2 N n x1 x2 σ) x1 x2 (-1 : Int32) σ else fm_whoseBy_b147 N (fun x1 x2 σ => fm_whoseBy_b2 N n x1 x2 σ) x1 x2 (1 : Int32) σ) else fm_whoseBy_b147 N (fun x1 x2 σ => fm_whoseBy_b2 N n x1 x2 σ) x1 x2 (0 : Int32) σ)))))
set_option maxRecDepth 100000 in
theorem fm_whoseBy_b2_e {X : Nat} {xs : Nat → Int32} {d : Nat} {N : Nat} : ∀ {n : Nat} {x1 : Int32} {x2 : Int32} {w3 : Value} {w4 : Value} {σ : am_S} {o : Int32}, fm_whoseBy_b2 N n x1 x2 σ = some o → am_Ev am_sh (am_exx X xs) (d + 2) mm_156 2 [.ref 85, .int x1, .int x2, w3, w4] [] σ (some (.int o)) σ := by
  intro n
  induction n with
  | zero => intro x1 x2 w3 w4 σ o h; cases h
  | succ n ih =>
    intro x1 x2 w3 w4 σ o h
    unfold fm_whoseBy_b2 at h
    refine ev_iload_n (pc' := 3) rfl rfl rfl ?_
    refine ev_aload_n (pc' := 4) rfl rfl rfl ?_
    refine ev_getfield (pc' := 7) (w := .int (σ 85 55)) rfl rfl rfl rfl ?_
    rcases am_if h with ⟨hc1, h⟩ | ⟨hc1, h⟩
    · refine ev_ic_t (pc' := 163) rfl rfl (cb_ge_t hc1) ?_
      refine ev_iconst (pc' := 164) (b := (-1 : Int32)) rfl rfl rfl ?_
      obtain rfl := Option.some.inj h
      exact ev_ireturn rfl rfl
    · refine ev_ic_f (pc' := 10) rfl (by decide) rfl (cb_ge_f hc1) ?_
      refine ev_aload_n (pc' := 11) rfl rfl rfl ?_
      refine ev_getfield (pc' := 14) (w := .ref 125) rfl rfl rfl rfl ?_
      refine ev_iload_n (pc' := 15) rfl rfl rfl ?_
      obtain ⟨hg2, h⟩ := am_g_some h
      refine ev_iaload (pc' := 16) rfl rfl rfl hg2 ?_
      refine ev_istore_n (pc' := 17) (L' := [.ref 85, .int x1, .int x2, .int (σ 125 x2.toNatClampNeg), w4]) rfl rfl rfl rfl ?_
      refine ev_iconst (pc' := 18) (b := (-1 : Int32)) rfl rfl rfl ?_
      refine ev_istore (pc' := 20) (L' := [.ref 85, .int x1, .int x2, .int (σ 125 x2.toNatClampNeg), .int (-1 : Int32)]) rfl rfl rfl rfl ?_
      refine ev_iload_n (pc' := 21) rfl rfl rfl ?_
      refine ev_bipush (pc' := 23) (b := (99 : Int32)) rfl rfl rfl ?_
      rcases am_if h with ⟨hc3, h⟩ | ⟨hc3, h⟩
      · refine ev_ic_f (pc' := 26) rfl (by decide) rfl (cb_ne_f hc3) ?_
        refine ev_aload_n (pc' := 27) rfl rfl rfl ?_
        refine ev_getfield (pc' := 30) (w := .ref 100) rfl rfl rfl rfl ?_
        refine ev_iload_n (pc' := 31) rfl rfl rfl ?_
        obtain ⟨hg4, h⟩ := am_g_some h
        refine ev_iaload (pc' := 32) rfl rfl rfl hg4 ?_
        refine ev_aload_n (pc' := 33) rfl rfl rfl ?_
        refine ev_getfield (pc' := 36) (w := .int (σ 85 56)) rfl rfl rfl rfl ?_
        rcases am_if h with ⟨hc5, h⟩ | ⟨hc5, h⟩
        · refine ev_ic_t (pc' := 48) rfl rfl (cb_gt_t hc5) ?_
          refine ev_iconst (pc' := 49) (b := (-1 : Int32)) rfl rfl rfl ?_
          exact fm_whoseBy_b49_e (hk2 := fun h => ih h) h
        · refine ev_ic_f (pc' := 39) rfl (by decide) rfl (cb_gt_f hc5) ?_
          refine ev_aload_n (pc' := 40) rfl rfl rfl ?_
          refine ev_getfield (pc' := 43) (w := .ref 99) rfl rfl rfl rfl ?_
          refine ev_iload_n (pc' := 44) rfl rfl rfl ?_
          obtain ⟨hg6, h⟩ := am_g_some h
          refine ev_iaload (pc' := 45) rfl rfl rfl hg6 ?_
          refine ev_goto (pc' := 49) rfl rfl ?_
          exact fm_whoseBy_b49_e (hk2 := fun h => ih h) h
      · refine ev_ic_t (pc' := 54) rfl rfl (cb_ne_t hc3) ?_
        refine ev_iload_n (pc' := 55) rfl rfl rfl ?_
        refine ev_bipush (pc' := 57) (b := (104 : Int32)) rfl rfl rfl ?_
        rcases am_if h with ⟨hc7, h⟩ | ⟨hc7, h⟩
        · refine ev_ic_f (pc' := 60) rfl (by decide) rfl (cb_ne_f hc7) ?_
          refine ev_aload_n (pc' := 61) rfl rfl rfl ?_
          refine ev_aload_n (pc' := 62) rfl rfl rfl ?_
          refine ev_getfield (pc' := 65) (w := .ref 97) rfl rfl rfl rfl ?_
          refine ev_iload_n (pc' := 66) rfl rfl rfl ?_
          obtain ⟨hg8, h⟩ := am_g_some h
          refine ev_iaload (pc' := 67) rfl rfl rfl hg8 ?_
          refine am_bd h (fun q9 hq9 h => ?_)
          refine ev_call (mi := 143) (as := [.ref 85, .int (σ 97 x1.toNatClampNeg)]) (rest := []) rfl rfl (Nat.le_of_ble_eq_true rfl) (fm_sideOf_e (d := d) hq9) ?_
          show am_Ev _ _ _ _ 70 _ _ _ _ _
          refine ev_istore (pc' := 72) (L' := [.ref 85, .int x1, .int x2, .int (σ 125 x2.toNatClampNeg), .int q9]) rfl rfl rfl rfl ?_
          refine ev_goto (pc' := 149) rfl rfl ?_
          exact fm_whoseBy_b149_e (hk2 := fun h => ih h) h
        · refine ev_ic_t (pc' := 75) rfl rfl (cb_ne_t hc7) ?_
          refine ev_iload_n (pc' := 76) rfl rfl rfl ?_
          refine ev_bipush (pc' := 78) (b := (98 : Int32)) rfl rfl rfl ?_
          rcases am_if h with ⟨hc10, h⟩ | ⟨hc10, h⟩
          · refine ev_ic_f (pc' := 81) rfl (by decide) rfl (cb_ne_f hc10) ?_
            refine ev_aload_n (pc' := 82) rfl rfl rfl ?_
            refine ev_aload_n (pc' := 83) rfl rfl rfl ?_
            refine ev_getfield (pc' := 86) (w := .ref 96) rfl rfl rfl rfl ?_
            refine ev_iload_n (pc' := 87) rfl rfl rfl ?_
            obtain ⟨hg11, h⟩ := am_g_some h
            refine ev_iaload (pc' := 88) rfl rfl rfl hg11 ?_
            refine am_bd h (fun q12 hq12 h => ?_)
            refine ev_call (mi := 143) (as := [.ref 85, .int (σ 96 x1.toNatClampNeg)]) (rest := []) rfl rfl (Nat.le_of_ble_eq_true rfl) (fm_sideOf_e (d := d) hq12) ?_
            show am_Ev _ _ _ _ 91 _ _ _ _ _
            refine ev_istore (pc' := 93) (L' := [.ref 85, .int x1, .int x2, .int (σ 125 x2.toNatClampNeg), .int q12]) rfl rfl rfl rfl ?_
            refine ev_goto (pc' := 149) rfl rfl ?_
            exact fm_whoseBy_b149_e (hk2 := fun h => ih h) h
          · refine ev_ic_t (pc' := 96) rfl rfl (cb_ne_t hc10) ?_
            refine ev_aload_n (pc' := 97) rfl rfl rfl ?_
            refine ev_getfield (pc' := 100) (w := .ref 98) rfl rfl rfl rfl ?_
            refine ev_iconst (pc' := 101) (b := (2 : Int32)) rfl rfl rfl ?_
            refine ev_iload_n (pc' := 102) rfl rfl rfl ?_
            refine ev_imul (pc' := 103) rfl rfl ?_
            obtain ⟨hg13, h⟩ := am_g_some h
            refine ev_iaload (pc' := 104) rfl rfl rfl hg13 ?_
            refine ev_aload_n (pc' := 105) rfl rfl rfl ?_
            refine ev_getfield (pc' := 108) (w := .ref 98) rfl rfl rfl rfl ?_
            refine ev_iconst (pc' := 109) (b := (2 : Int32)) rfl rfl rfl ?_
            refine ev_iload_n (pc' := 110) rfl rfl rfl ?_
            refine ev_imul (pc' := 111) rfl rfl ?_
            refine ev_iconst (pc' := 112) (b := (1 : Int32)) rfl rfl rfl ?_
            refine ev_iadd (pc' := 113) rfl rfl ?_
            obtain ⟨hg14, h⟩ := am_g_some h
            refine ev_iaload (pc' := 114) rfl rfl rfl hg14 ?_
            rcases am_if h with ⟨hc15, h⟩ | ⟨hc15, h⟩
            · refine ev_ic_t (pc' := 121) rfl rfl (cb_le_t hc15) ?_
              refine ev_aload_n (pc' := 122) rfl rfl rfl ?_
              refine ev_getfield (pc' := 125) (w := .ref 98) rfl rfl rfl rfl ?_
              refine ev_iconst (pc' := 126) (b := (2 : Int32)) rfl rfl rfl ?_
              refine ev_iload_n (pc' := 127) rfl rfl rfl ?_
              refine ev_imul (pc' := 128) rfl rfl ?_
              obtain ⟨hg16, h⟩ := am_g_some h
              refine ev_iaload (pc' := 129) rfl rfl rfl hg16 ?_
              refine ev_aload_n (pc' := 130) rfl rfl rfl ?_
              refine ev_getfield (pc' := 133) (w := .ref 98) rfl rfl rfl rfl ?_
              refine ev_iconst (pc' := 134) (b := (2 : Int32)) rfl rfl rfl ?_
              refine ev_iload_n (pc' := 135) rfl rfl rfl ?_
              refine ev_imul (pc' := 136) rfl rfl ?_
              refine ev_iconst (pc' := 137) (b := (1 : Int32)) rfl rfl rfl ?_
              refine ev_iadd (pc' := 138) rfl rfl ?_
              obtain ⟨hg17, h⟩ := am_g_some h
              refine ev_iaload (pc' := 139) rfl rfl rfl hg17 ?_
              rcases am_if h with ⟨hc18, h⟩ | ⟨hc18, h⟩
              · refine ev_ic_t (pc' := 146) rfl rfl (cb_ge_t hc18) ?_
                refine ev_iconst (pc' := 147) (b := (-1 : Int32)) rfl rfl rfl ?_
                exact fm_whoseBy_b147_e (hk2 := fun h => ih h) h
              · refine ev_ic_f (pc' := 142) rfl (by decide) rfl (cb_ge_f hc18) ?_
                refine ev_iconst (pc' := 143) (b := (1 : Int32)) rfl rfl rfl ?_
                refine ev_goto (pc' := 147) rfl rfl ?_
                exact fm_whoseBy_b147_e (hk2 := fun h => ih h) h
            · refine ev_ic_f (pc' := 117) rfl (by decide) rfl (cb_le_f hc15) ?_
              refine ev_iconst (pc' := 118) (b := (0 : Int32)) rfl rfl rfl ?_
              refine ev_goto (pc' := 147) rfl rfl ?_
              exact fm_whoseBy_b147_e (hk2 := fun h => ih h) h
def fm_whoseBy (N : Nat) (a1 : Int32) (σ : am_S) : Option Int32 := fm_whoseBy_b2 N N a1 (0 : Int32) σ
set_option maxRecDepth 100000 in
theorem fm_whoseBy_e {X : Nat} {xs : Nat → Int32} {d : Nat} {N : Nat} {a1 : Int32} {σ : am_S} {o : Int32} (h : fm_whoseBy N a1 σ = some o) : am_Ev am_sh (am_exx X xs) (d + 2) mm_156 0 [.ref 85, .int a1, .null, .null, .null] [] σ (some (.int o)) σ := by
  unfold fm_whoseBy at h
  refine ev_iconst (pc' := 1) (b := (0 : Int32)) rfl rfl rfl ?_
  refine ev_istore_n (pc' := 2) (L' := [.ref 85, .int a1, .int (0 : Int32), .null, .null]) rfl rfl rfl rfl ?_
  exact fm_whoseBy_b2_e h
/-! PartedLandModel.whose (85, 'I', 'I'): S -/
def fm_whose_b17 (N : Nat) (σ : am_S) : Option (Int32 × am_S) := (fm_finding (1 : Int32) σ).bind fun q1 => some (q1.1, q1.2)
set_option maxRecDepth 100000 in
theorem fm_whose_b17_e {X : Nat} {xs : Nat → Int32} {d : Nat} {N : Nat} {w1 : Value} {w2 : Value} {w3 : Value} {w4 : Value} {σ : am_S} {o : Int32 × am_S} (h : fm_whose_b17 N σ = some o) : am_Ev am_sh (am_exx X xs) (d + 3) mm_157 17 [.ref 85, w1, w2, w3, w4] [] σ (some (.int o.1)) o.2 := by
  unfold fm_whose_b17 at h
  refine ev_aload_n (pc' := 18) rfl rfl rfl ?_
  refine ev_iconst (pc' := 19) (b := (1 : Int32)) rfl rfl rfl ?_
  refine am_bd h (fun q1 hq1 h => ?_)
  refine ev_call (mi := 159) (as := [.ref 85, .int (1 : Int32)]) (rest := []) rfl rfl (Nat.le_of_ble_eq_true rfl) (fm_finding_e (d := d + 2) hq1) ?_
  show am_Ev _ _ _ _ 22 _ _ _ _ _
  obtain rfl := Option.some.inj h
  exact ev_ireturn rfl rfl
def fm_whose (N : Nat) (a1 : Int32) (a2 : Int32) (σ : am_S) : Option (Int32 × am_S) := (if (fm_isPerson a1 σ) = 0 then fm_whose_b17 N σ else (if (fm_isIn a2 (0 : Int32) (2 : Int32) σ) = 0 then fm_whose_b17 N σ else am_g (am_in a2 3) <| (if 0 ≤ (σ 104 a2.toNatClampNeg) then (fm_readLaw N a2 σ).bind fun q5 => (fm_whoseBy N a1 q5.2).bind fun q6 => (if 0 ≤ q6 then some (q6, q5.2) else (fm_finding (2 : Int32) q5.2).bind fun q8 => some (q8.1, q8.2)) else (fm_finding (3 : Int32) σ).bind fun q9 => some (q9.1, q9.2))))
set_option maxRecDepth 100000 in
theorem fm_whose_e {X : Nat} {xs : Nat → Int32} {d : Nat} {N : Nat} {a1 : Int32} {a2 : Int32} {σ : am_S} {o : Int32 × am_S} (h : fm_whose N a1 a2 σ = some o) : am_Ev am_sh (am_exx X xs) (d + 3) mm_157 0 [.ref 85, .int a1, .int a2, .null, .null] [] σ (some (.int o.1)) o.2 := by
  unfold fm_whose at h
  refine ev_aload_n (pc' := 1) rfl rfl rfl ?_
  refine ev_iload_n (pc' := 2) rfl rfl rfl ?_
  refine ev_call (mi := 192) (as := [.ref 85, .int a1]) (rest := []) rfl rfl (Nat.le_of_ble_eq_true rfl) (fm_isPerson_e (d := d + 2) rfl) ?_
  show am_Ev _ _ _ _ 5 _ _ _ _ _
  rcases am_if h with ⟨hc1, h⟩ | ⟨hc1, h⟩
  · refine ev_if_t (pc' := 17) rfl rfl (cb_eq_t hc1) ?_
    exact fm_whose_b17_e h
  · refine ev_if_f (pc' := 8) rfl (by decide) rfl (cb_eq_f hc1) ?_
    refine ev_iload_n (pc' := 9) rfl rfl rfl ?_
    refine ev_iconst (pc' := 10) (b := (0 : Int32)) rfl rfl rfl ?_
    refine ev_iconst (pc' := 11) (b := (2 : Int32)) rfl rfl rfl ?_
    refine ev_call (mi := 170) (as := [.int a2, .int (0 : Int32), .int (2 : Int32)]) (rest := []) rfl rfl (Nat.le_of_ble_eq_true rfl) (fm_isIn_e (d := d + 2) rfl) ?_
    show am_Ev _ _ _ _ 14 _ _ _ _ _
    rcases am_if h with ⟨hc2, h⟩ | ⟨hc2, h⟩
    · refine ev_if_f (pc' := 17) rfl (by decide) rfl (cb_ne_f hc2) ?_
      exact fm_whose_b17_e h
    · refine ev_if_t (pc' := 23) rfl rfl (cb_ne_t hc2) ?_
      refine ev_aload_n (pc' := 24) rfl rfl rfl ?_
      refine ev_getfield (pc' := 27) (w := .ref 104) rfl rfl rfl rfl ?_
      refine ev_iload_n (pc' := 28) rfl rfl rfl ?_
      obtain ⟨hg3, h⟩ := am_g_some h
      refine ev_iaload (pc' := 29) rfl rfl rfl hg3 ?_
      rcases am_if h with ⟨hc4, h⟩ | ⟨hc4, h⟩
      · refine ev_if_t (pc' := 38) rfl rfl (cb_ge_t hc4) ?_
        refine ev_aload_n (pc' := 39) rfl rfl rfl ?_
        refine ev_iload_n (pc' := 40) rfl rfl rfl ?_
        refine am_bd h (fun q5 hq5 h => ?_)
        refine ev_call (mi := 155) (as := [.ref 85, .int a2]) (rest := []) rfl rfl (Nat.le_of_ble_eq_true rfl) (fm_readLaw_e (d := d) hq5) ?_
        show am_Ev _ _ _ _ 43 _ _ _ _ _
        refine ev_istore_n (pc' := 44) (L' := [.ref 85, .int a1, .int a2, .int q5.1, .null]) rfl rfl rfl rfl ?_
        refine ev_aload_n (pc' := 45) rfl rfl rfl ?_
        refine ev_iload_n (pc' := 46) rfl rfl rfl ?_
        refine am_bd h (fun q6 hq6 h => ?_)
        refine ev_call (mi := 156) (as := [.ref 85, .int a1]) (rest := []) rfl rfl (Nat.le_of_ble_eq_true rfl) (fm_whoseBy_e (d := d) hq6) ?_
        show am_Ev _ _ _ _ 49 _ _ _ _ _
        refine ev_istore (pc' := 51) (L' := [.ref 85, .int a1, .int a2, .int q5.1, .int q6]) rfl rfl rfl rfl ?_
        refine ev_iload (pc' := 53) rfl rfl rfl ?_
        rcases am_if h with ⟨hc7, h⟩ | ⟨hc7, h⟩
        · refine ev_if_t (pc' := 64) rfl rfl (cb_ge_t hc7) ?_
          refine ev_iload (pc' := 66) rfl rfl rfl ?_
          obtain rfl := Option.some.inj h
          exact ev_ireturn rfl rfl
        · refine ev_if_f (pc' := 56) rfl (by decide) rfl (cb_ge_f hc7) ?_
          refine ev_aload_n (pc' := 57) rfl rfl rfl ?_
          refine ev_iconst (pc' := 58) (b := (2 : Int32)) rfl rfl rfl ?_
          refine am_bd h (fun q8 hq8 h => ?_)
          refine ev_call (mi := 159) (as := [.ref 85, .int (2 : Int32)]) (rest := []) rfl rfl (Nat.le_of_ble_eq_true rfl) (fm_finding_e (d := d + 2) hq8) ?_
          show am_Ev _ _ _ _ 61 _ _ _ _ _
          refine ev_goto (pc' := 66) rfl rfl ?_
          obtain rfl := Option.some.inj h
          exact ev_ireturn rfl rfl
      · refine ev_if_f (pc' := 32) rfl (by decide) rfl (cb_ge_f hc4) ?_
        refine ev_aload_n (pc' := 33) rfl rfl rfl ?_
        refine ev_iconst (pc' := 34) (b := (3 : Int32)) rfl rfl rfl ?_
        refine am_bd h (fun q9 hq9 h => ?_)
        refine ev_call (mi := 159) (as := [.ref 85, .int (3 : Int32)]) (rest := []) rfl rfl (Nat.le_of_ble_eq_true rfl) (fm_finding_e (d := d + 2) hq9) ?_
        show am_Ev _ _ _ _ 37 _ _ _ _ _
        obtain rfl := Option.some.inj h
        exact ev_ireturn rfl rfl
/-! PartedLandModel.pension (85, 'I', 'I', 'I'): S -/
def fm_pension_b25 (σ : am_S) : Option (Int32 × am_S) := (fm_finding (1 : Int32) σ).bind fun q1 => some (q1.1, q1.2)
set_option maxRecDepth 100000 in
theorem fm_pension_b25_e {X : Nat} {xs : Nat → Int32} {d : Nat} {w1 : Value} {w2 : Value} {w3 : Value} {w4 : Value} {w5 : Value} {σ : am_S} {o : Int32 × am_S} (h : fm_pension_b25 σ = some o) : am_Ev am_sh (am_exx X xs) (d + 1) mm_158 25 [.ref 85, w1, w2, w3, w4, w5] [] σ (some (.int o.1)) o.2 := by
  unfold fm_pension_b25 at h
  refine ev_aload_n (pc' := 26) rfl rfl rfl ?_
  refine ev_iconst (pc' := 27) (b := (1 : Int32)) rfl rfl rfl ?_
  refine am_bd h (fun q1 hq1 h => ?_)
  refine ev_call (mi := 159) (as := [.ref 85, .int (1 : Int32)]) (rest := []) rfl rfl (Nat.le_of_ble_eq_true rfl) (fm_finding_e (d := d) hq1) ?_
  show am_Ev _ _ _ _ 30 _ _ _ _ _
  obtain rfl := Option.some.inj h
  exact ev_ireturn rfl rfl
def fm_pension_b76 (x2 : Int32) (x3 : Int32) (s0 : Int32) (σ : am_S) : Option (Int32 × am_S) := (if x3 = 0 then some (s0, σ) else some ((x2 - s0), σ))
set_option maxRecDepth 100000 in
theorem fm_pension_b76_e {X : Nat} {xs : Nat → Int32} {d : Nat} {x2 : Int32} {x3 : Int32} {s0 : Int32} {w0 : Value} {w1 : Value} {w4 : Value} {w5 : Value} {σ : am_S} {o : Int32 × am_S} (h : fm_pension_b76 x2 x3 s0 σ = some o) : am_Ev am_sh (am_exx X xs) (d + 1) mm_158 76 [w0, w1, .int x2, .int x3, w4, w5] [.int s0] σ (some (.int o.1)) o.2 := by
  unfold fm_pension_b76 at h
  refine ev_istore (pc' := 78) (L' := [w0, w1, .int x2, .int x3, w4, .int s0]) rfl rfl rfl rfl ?_
  refine ev_iload_n (pc' := 79) rfl rfl rfl ?_
  rcases am_if h with ⟨hc1, h⟩ | ⟨hc1, h⟩
  · refine ev_if_f (pc' := 82) rfl (by decide) rfl (cb_ne_f hc1) ?_
    refine ev_iload (pc' := 84) rfl rfl rfl ?_
    refine ev_goto (pc' := 91) rfl rfl ?_
    obtain rfl := Option.some.inj h
    exact ev_ireturn rfl rfl
  · refine ev_if_t (pc' := 87) rfl rfl (cb_ne_t hc1) ?_
    refine ev_iload_n (pc' := 88) rfl rfl rfl ?_
    refine ev_iload (pc' := 90) rfl rfl rfl ?_
    refine ev_isub (pc' := 91) rfl rfl ?_
    obtain rfl := Option.some.inj h
    exact ev_ireturn rfl rfl
def fm_pension (a1 : Int32) (a2 : Int32) (a3 : Int32) (σ : am_S) : Option (Int32 × am_S) := (if (fm_isPerson a1 σ) = 0 then fm_pension_b25 σ else (if (fm_isIn a2 (0 : Int32) (100000 : Int32) σ) = 0 then fm_pension_b25 σ else (if (fm_isSide a3 σ) = 0 then fm_pension_b25 σ else am_g (am_in ((2 : Int32) * a1) 32) <| am_g (am_in (((2 : Int32) * a1) + (1 : Int32)) 32) <| (if ((σ 98 ((2 : Int32) * a1).toNatClampNeg) + (σ 98 (((2 : Int32) * a1) + (1 : Int32)).toNatClampNeg)) = 0 then fm_pension_b76 a2 a3 (a2 / (2 : Int32)) σ else am_g (am_in ((2 : Int32) * a1) 32) <| (if ((σ 98 ((2 : Int32) * a1).toNatClampNeg) + (σ 98 (((2 : Int32) * a1) + (1 : Int32)).toNatClampNeg)) = 0 then none else fm_pension_b76 a2 a3 ((a2 * (σ 98 ((2 : Int32) * a1).toNatClampNeg)) / ((σ 98 ((2 : Int32) * a1).toNatClampNeg) + (σ 98 (((2 : Int32) * a1) + (1 : Int32)).toNatClampNeg))) σ)))))
set_option maxRecDepth 100000 in
theorem fm_pension_e {X : Nat} {xs : Nat → Int32} {d : Nat} {a1 : Int32} {a2 : Int32} {a3 : Int32} {σ : am_S} {o : Int32 × am_S} (h : fm_pension a1 a2 a3 σ = some o) : am_Ev am_sh (am_exx X xs) (d + 1) mm_158 0 [.ref 85, .int a1, .int a2, .int a3, .null, .null] [] σ (some (.int o.1)) o.2 := by
  unfold fm_pension at h
  refine ev_aload_n (pc' := 1) rfl rfl rfl ?_
  refine ev_iload_n (pc' := 2) rfl rfl rfl ?_
  refine ev_call (mi := 192) (as := [.ref 85, .int a1]) (rest := []) rfl rfl (Nat.le_of_ble_eq_true rfl) (fm_isPerson_e (d := d) rfl) ?_
  show am_Ev _ _ _ _ 5 _ _ _ _ _
  rcases am_if h with ⟨hc1, h⟩ | ⟨hc1, h⟩
  · refine ev_if_t (pc' := 25) rfl rfl (cb_eq_t hc1) ?_
    exact fm_pension_b25_e h
  · refine ev_if_f (pc' := 8) rfl (by decide) rfl (cb_eq_f hc1) ?_
    refine ev_iload_n (pc' := 9) rfl rfl rfl ?_
    refine ev_iconst (pc' := 10) (b := (0 : Int32)) rfl rfl rfl ?_
    refine ev_ldc (pc' := 12) (b := (100000 : Int32)) rfl rfl rfl ?_
    refine ev_call (mi := 170) (as := [.int a2, .int (0 : Int32), .int (100000 : Int32)]) (rest := []) rfl rfl (Nat.le_of_ble_eq_true rfl) (fm_isIn_e (d := d) rfl) ?_
    show am_Ev _ _ _ _ 15 _ _ _ _ _
    rcases am_if h with ⟨hc2, h⟩ | ⟨hc2, h⟩
    · refine ev_if_t (pc' := 25) rfl rfl (cb_eq_t hc2) ?_
      exact fm_pension_b25_e h
    · refine ev_if_f (pc' := 18) rfl (by decide) rfl (cb_eq_f hc2) ?_
      refine ev_iload_n (pc' := 19) rfl rfl rfl ?_
      refine ev_call (mi := 213) (as := [.int a3]) (rest := []) rfl rfl (Nat.le_of_ble_eq_true rfl) (fm_isSide_e (d := d) rfl) ?_
      show am_Ev _ _ _ _ 22 _ _ _ _ _
      rcases am_if h with ⟨hc3, h⟩ | ⟨hc3, h⟩
      · refine ev_if_f (pc' := 25) rfl (by decide) rfl (cb_ne_f hc3) ?_
        exact fm_pension_b25_e h
      · refine ev_if_t (pc' := 31) rfl rfl (cb_ne_t hc3) ?_
        refine ev_aload_n (pc' := 32) rfl rfl rfl ?_
        refine ev_getfield (pc' := 35) (w := .ref 98) rfl rfl rfl rfl ?_
        refine ev_iconst (pc' := 36) (b := (2 : Int32)) rfl rfl rfl ?_
        refine ev_iload_n (pc' := 37) rfl rfl rfl ?_
        refine ev_imul (pc' := 38) rfl rfl ?_
        obtain ⟨hg4, h⟩ := am_g_some h
        refine ev_iaload (pc' := 39) rfl rfl rfl hg4 ?_
        refine ev_aload_n (pc' := 40) rfl rfl rfl ?_
        refine ev_getfield (pc' := 43) (w := .ref 98) rfl rfl rfl rfl ?_
        refine ev_iconst (pc' := 44) (b := (2 : Int32)) rfl rfl rfl ?_
        refine ev_iload_n (pc' := 45) rfl rfl rfl ?_
        refine ev_imul (pc' := 46) rfl rfl ?_
        refine ev_iconst (pc' := 47) (b := (1 : Int32)) rfl rfl rfl ?_
        refine ev_iadd (pc' := 48) rfl rfl ?_
        obtain ⟨hg5, h⟩ := am_g_some h
        refine ev_iaload (pc' := 49) rfl rfl rfl hg5 ?_
        refine ev_iadd (pc' := 50) rfl rfl ?_
        refine ev_istore (pc' := 52) (L' := [.ref 85, .int a1, .int a2, .int a3, .int ((σ 98 ((2 : Int32) * a1).toNatClampNeg) + (σ 98 (((2 : Int32) * a1) + (1 : Int32)).toNatClampNeg)), .null]) rfl rfl rfl rfl ?_
        refine ev_iload (pc' := 54) rfl rfl rfl ?_
        rcases am_if h with ⟨hc6, h⟩ | ⟨hc6, h⟩
        · refine ev_if_f (pc' := 57) rfl (by decide) rfl (cb_ne_f hc6) ?_
          refine ev_iload_n (pc' := 58) rfl rfl rfl ?_
          refine ev_iconst (pc' := 59) (b := (2 : Int32)) rfl rfl rfl ?_
          refine ev_idiv (pc' := 60) rfl rfl (by decide) ?_
          refine ev_goto (pc' := 76) rfl rfl ?_
          exact fm_pension_b76_e h
        · refine ev_if_t (pc' := 63) rfl rfl (cb_ne_t hc6) ?_
          refine ev_iload_n (pc' := 64) rfl rfl rfl ?_
          refine ev_aload_n (pc' := 65) rfl rfl rfl ?_
          refine ev_getfield (pc' := 68) (w := .ref 98) rfl rfl rfl rfl ?_
          refine ev_iconst (pc' := 69) (b := (2 : Int32)) rfl rfl rfl ?_
          refine ev_iload_n (pc' := 70) rfl rfl rfl ?_
          refine ev_imul (pc' := 71) rfl rfl ?_
          obtain ⟨hg7, h⟩ := am_g_some h
          refine ev_iaload (pc' := 72) rfl rfl rfl hg7 ?_
          refine ev_imul (pc' := 73) rfl rfl ?_
          refine ev_iload (pc' := 75) rfl rfl rfl ?_
          rcases am_if h with ⟨hc8, h⟩ | ⟨hc8, h⟩
          · cases h
          refine ev_idiv (pc' := 76) rfl rfl hc8 ?_
          exact fm_pension_b76_e h
/-! PartedLandModel.feed (85, 'I', 'I'): S -/
def fm_feed_b36 (N : Nat) : Nat → Int32 → Int32 → am_S → Option (Int32 × am_S)
  | 0, _, _, _ => none
  | n + 1, x1, x3, σ => (if x3 < 0 then some ((σ 85 22), σ) else am_g (am_in (σ 85 22) 50) <| fm_feed_b36 N n x1 (x3 + (-1 : Int32)) (am_up (am_up σ 102 (σ 85 22).toNatClampNeg ((x1 >>> (((8 : Int32) * x3) &&& 31)) &&& (255 : Int32))) 85 22 ((σ 85 22) + (1 : Int32))))
set_option maxRecDepth 100000 in
theorem fm_feed_b36_e {X : Nat} {xs : Nat → Int32} {d : Nat} {N : Nat} : ∀ {n : Nat} {x1 : Int32} {x3 : Int32} {w2 : Value} {σ : am_S} {o : Int32 × am_S}, fm_feed_b36 N n x1 x3 σ = some o → am_Ev am_sh (am_exx X xs) (d + 1) mm_160 36 [.ref 85, .int x1, w2, .int x3] [] σ (some (.int o.1)) o.2 := by
  intro n
  induction n with
  | zero => intro x1 x3 w2 σ o h; cases h
  | succ n ih =>
    intro x1 x3 w2 σ o h
    unfold fm_feed_b36 at h
    refine ev_iload_n (pc' := 37) rfl rfl rfl ?_
    rcases am_if h with ⟨hc1, h⟩ | ⟨hc1, h⟩
    · refine ev_if_t (pc' := 75) rfl rfl (cb_lt_t hc1) ?_
      refine ev_aload_n (pc' := 76) rfl rfl rfl ?_
      refine ev_getfield (pc' := 79) (w := .int (σ 85 22)) rfl rfl rfl rfl ?_
      obtain rfl := Option.some.inj h
      exact ev_ireturn rfl rfl
    · refine ev_if_f (pc' := 40) rfl (by decide) rfl (cb_lt_f hc1) ?_
      refine ev_aload_n (pc' := 41) rfl rfl rfl ?_
      refine ev_getfield (pc' := 44) (w := .ref 102) rfl rfl rfl rfl ?_
      refine ev_aload_n (pc' := 45) rfl rfl rfl ?_
      refine ev_getfield (pc' := 48) (w := .int (σ 85 22)) rfl rfl rfl rfl ?_
      refine ev_iload_n (pc' := 49) rfl rfl rfl ?_
      refine ev_bipush (pc' := 51) (b := (8 : Int32)) rfl rfl rfl ?_
      refine ev_iload_n (pc' := 52) rfl rfl rfl ?_
      refine ev_imul (pc' := 53) rfl rfl ?_
      refine ev_ishr (pc' := 54) rfl rfl ?_
      refine ev_sipush (pc' := 57) (b := (255 : Int32)) rfl rfl rfl ?_
      refine ev_iand (pc' := 58) rfl rfl ?_
      obtain ⟨hg2, h⟩ := am_g_some h
      refine ev_iastore (pc' := 59) rfl rfl rfl hg2 ?_
      refine ev_aload_n (pc' := 60) rfl rfl rfl ?_
      refine ev_dup (pc' := 61) rfl rfl ?_
      refine ev_getfield (pc' := 64) (w := .int (σ 85 22)) rfl rfl rfl rfl ?_
      refine ev_iconst (pc' := 65) (b := (1 : Int32)) rfl rfl rfl ?_
      refine ev_iadd (pc' := 66) rfl rfl ?_
      refine ev_putfield (pc' := 69) (ci := 11) (f := 22) (z := 0) rfl rfl rfl rfl rfl ?_
      refine ev_iinc (pc' := 72) (L' := [.ref 85, .int x1, w2, .int (x3 + (-1 : Int32))]) (b := (-1 : Int32)) rfl rfl rfl rfl rfl ?_
      refine ev_goto (pc' := 36) rfl rfl ?_
      exact ih h
def fm_feed (N : Nat) (a1 : Int32) (a2 : Int32) (σ : am_S) : Option (Int32 × am_S) := (if (fm_isIn a2 (1 : Int32) (4 : Int32) σ) = 0 then (fm_finding (1 : Int32) σ).bind fun q2 => some (q2.1, q2.2) else (if ((σ 85 22) + a2) ≤ (50 : Int32) then fm_feed_b36 N N a1 (a2 - (1 : Int32)) σ else (fm_finding (4 : Int32) σ).bind fun q4 => some (q4.1, q4.2)))
set_option maxRecDepth 100000 in
theorem fm_feed_e {X : Nat} {xs : Nat → Int32} {d : Nat} {N : Nat} {a1 : Int32} {a2 : Int32} {σ : am_S} {o : Int32 × am_S} (h : fm_feed N a1 a2 σ = some o) : am_Ev am_sh (am_exx X xs) (d + 1) mm_160 0 [.ref 85, .int a1, .int a2, .null] [] σ (some (.int o.1)) o.2 := by
  unfold fm_feed at h
  refine ev_iload_n (pc' := 1) rfl rfl rfl ?_
  refine ev_iconst (pc' := 2) (b := (1 : Int32)) rfl rfl rfl ?_
  refine ev_iconst (pc' := 3) (b := (4 : Int32)) rfl rfl rfl ?_
  refine ev_call (mi := 170) (as := [.int a2, .int (1 : Int32), .int (4 : Int32)]) (rest := []) rfl rfl (Nat.le_of_ble_eq_true rfl) (fm_isIn_e (d := d) rfl) ?_
  show am_Ev _ _ _ _ 6 _ _ _ _ _
  rcases am_if h with ⟨hc1, h⟩ | ⟨hc1, h⟩
  · refine ev_if_f (pc' := 9) rfl (by decide) rfl (cb_ne_f hc1) ?_
    refine ev_aload_n (pc' := 10) rfl rfl rfl ?_
    refine ev_iconst (pc' := 11) (b := (1 : Int32)) rfl rfl rfl ?_
    refine am_bd h (fun q2 hq2 h => ?_)
    refine ev_call (mi := 159) (as := [.ref 85, .int (1 : Int32)]) (rest := []) rfl rfl (Nat.le_of_ble_eq_true rfl) (fm_finding_e (d := d) hq2) ?_
    show am_Ev _ _ _ _ 14 _ _ _ _ _
    obtain rfl := Option.some.inj h
    exact ev_ireturn rfl rfl
  · refine ev_if_t (pc' := 15) rfl rfl (cb_ne_t hc1) ?_
    refine ev_aload_n (pc' := 16) rfl rfl rfl ?_
    refine ev_getfield (pc' := 19) (w := .int (σ 85 22)) rfl rfl rfl rfl ?_
    refine ev_iload_n (pc' := 20) rfl rfl rfl ?_
    refine ev_iadd (pc' := 21) rfl rfl ?_
    refine ev_bipush (pc' := 23) (b := (50 : Int32)) rfl rfl rfl ?_
    rcases am_if h with ⟨hc3, h⟩ | ⟨hc3, h⟩
    · refine ev_ic_t (pc' := 32) rfl rfl (cb_le_t hc3) ?_
      refine ev_iload_n (pc' := 33) rfl rfl rfl ?_
      refine ev_iconst (pc' := 34) (b := (1 : Int32)) rfl rfl rfl ?_
      refine ev_isub (pc' := 35) rfl rfl ?_
      refine ev_istore_n (pc' := 36) (L' := [.ref 85, .int a1, .int a2, .int (a2 - (1 : Int32))]) rfl rfl rfl rfl ?_
      exact fm_feed_b36_e h
    · refine ev_ic_f (pc' := 26) rfl (by decide) rfl (cb_le_f hc3) ?_
      refine ev_aload_n (pc' := 27) rfl rfl rfl ?_
      refine ev_iconst (pc' := 28) (b := (4 : Int32)) rfl rfl rfl ?_
      refine am_bd h (fun q4 hq4 h => ?_)
      refine ev_call (mi := 159) (as := [.ref 85, .int (4 : Int32)]) (rest := []) rfl rfl (Nat.le_of_ble_eq_true rfl) (fm_finding_e (d := d) hq4) ?_
      show am_Ev _ _ _ _ 31 _ _ _ _ _
      obtain rfl := Option.some.inj h
      exact ev_ireturn rfl rfl
/-! PartedLandModel.read (85, 102, 'I', 'I'): S -/
def fm_read_85_102_b529 (N : Nat) (k54 : Int32 → Int32 → Int32 → am_S → Option (Int32 × am_S)) (x2 : Int32) (x3 : Int32) (x4 : Int32) (x6 : Int32) (σ : am_S) : Option (Int32 × am_S) := (if x6 = 0 then some (x4, σ) else (if x3 ≤ x4 then some (x4, σ) else am_g (am_in (x2 + x4) 50) <| (if (σ 102 (x2 + x4).toNatClampNeg) = (59 : Int32) then k54 x2 x3 (x4 + (1 : Int32)) σ else some (x4, σ))))
set_option maxRecDepth 100000 in
theorem fm_read_85_102_b529_e {X : Nat} {xs : Nat → Int32} {d : Nat} {N : Nat} {k54 : Int32 → Int32 → Int32 → am_S → Option (Int32 × am_S)} (hk54 : ∀ {x2 : Int32} {x3 : Int32} {x4 : Int32} {w5 : Value} {w6 : Value} {w7 : Value} {w8 : Value} {σ : am_S} {o : Int32 × am_S}, k54 x2 x3 x4 σ = some o → am_Ev am_sh (am_exx X xs) (d + 1) mm_153 54 [.ref 85, .ref 102, .int x2, .int x3, .int x4, w5, w6, w7, w8] [] σ (some (.int o.1)) o.2) {x2 : Int32} {x3 : Int32} {x4 : Int32} {x6 : Int32} {w5 : Value} {w7 : Value} {w8 : Value} {σ : am_S} {o : Int32 × am_S} (h : fm_read_85_102_b529 N k54 x2 x3 x4 x6 σ = some o) : am_Ev am_sh (am_exx X xs) (d + 1) mm_153 529 [.ref 85, .ref 102, .int x2, .int x3, .int x4, w5, .int x6, w7, w8] [] σ (some (.int o.1)) o.2 := by
  unfold fm_read_85_102_b529 at h
  refine ev_iload (pc' := 531) rfl rfl rfl ?_
  rcases am_if h with ⟨hc1, h⟩ | ⟨hc1, h⟩
  · refine ev_if_t (pc' := 551) rfl rfl (cb_eq_t hc1) ?_
    refine ev_iload (pc' := 553) rfl rfl rfl ?_
    obtain rfl := Option.some.inj h
    exact ev_ireturn rfl rfl
  · refine ev_if_f (pc' := 534) rfl (by decide) rfl (cb_eq_f hc1) ?_
    refine ev_iload (pc' := 536) rfl rfl rfl ?_
    refine ev_iload_n (pc' := 537) rfl rfl rfl ?_
    rcases am_if h with ⟨hc2, h⟩ | ⟨hc2, h⟩
    · refine ev_ic_t (pc' := 551) rfl rfl (cb_ge_t hc2) ?_
      refine ev_iload (pc' := 553) rfl rfl rfl ?_
      obtain rfl := Option.some.inj h
      exact ev_ireturn rfl rfl
    · refine ev_ic_f (pc' := 540) rfl (by decide) rfl (cb_ge_f hc2) ?_
      refine ev_aload_n (pc' := 541) rfl rfl rfl ?_
      refine ev_iload_n (pc' := 542) rfl rfl rfl ?_
      refine ev_iload (pc' := 544) rfl rfl rfl ?_
      refine ev_iadd (pc' := 545) rfl rfl ?_
      obtain ⟨hg3, h⟩ := am_g_some h
      refine ev_iaload (pc' := 546) rfl rfl rfl hg3 ?_
      refine ev_bipush (pc' := 548) (b := (59 : Int32)) rfl rfl rfl ?_
      rcases am_if h with ⟨hc4, h⟩ | ⟨hc4, h⟩
      · refine ev_ic_t (pc' := 554) rfl rfl (cb_eq_t hc4) ?_
        refine ev_iinc (pc' := 557) (L' := [.ref 85, .ref 102, .int x2, .int x3, .int (x4 + (1 : Int32)), w5, .int x6, w7, w8]) (b := (1 : Int32)) rfl rfl rfl rfl rfl ?_
        refine ev_goto (pc' := 54) rfl rfl ?_
        exact hk54 h
      · refine ev_ic_f (pc' := 551) rfl (by decide) rfl (cb_eq_f hc4) ?_
        refine ev_iload (pc' := 553) rfl rfl rfl ?_
        obtain rfl := Option.some.inj h
        exact ev_ireturn rfl rfl
def fm_read_85_102_b231 (N : Nat) (k54 : Int32 → Int32 → Int32 → am_S → Option (Int32 × am_S)) (x2 : Int32) (x3 : Int32) (x4 : Int32) (σ : am_S) : Option (Int32 × am_S) := fm_read_85_102_b529 N k54 x2 x3 x4 (σ 85 55) σ
set_option maxRecDepth 100000 in
theorem fm_read_85_102_b231_e {X : Nat} {xs : Nat → Int32} {d : Nat} {N : Nat} {k54 : Int32 → Int32 → Int32 → am_S → Option (Int32 × am_S)} (hk54 : ∀ {x2 : Int32} {x3 : Int32} {x4 : Int32} {w5 : Value} {w6 : Value} {w7 : Value} {w8 : Value} {σ : am_S} {o : Int32 × am_S}, k54 x2 x3 x4 σ = some o → am_Ev am_sh (am_exx X xs) (d + 1) mm_153 54 [.ref 85, .ref 102, .int x2, .int x3, .int x4, w5, w6, w7, w8] [] σ (some (.int o.1)) o.2) {x2 : Int32} {x3 : Int32} {x4 : Int32} {w5 : Value} {w6 : Value} {w7 : Value} {w8 : Value} {σ : am_S} {o : Int32 × am_S} (h : fm_read_85_102_b231 N k54 x2 x3 x4 σ = some o) : am_Ev am_sh (am_exx X xs) (d + 1) mm_153 231 [.ref 85, .ref 102, .int x2, .int x3, .int x4, w5, w6, w7, w8] [] σ (some (.int o.1)) o.2 := by
  unfold fm_read_85_102_b231 at h
  refine ev_aload_n (pc' := 232) rfl rfl rfl ?_
  refine ev_getfield (pc' := 235) (w := .int (σ 85 55)) rfl rfl rfl rfl ?_
  refine ev_istore (pc' := 237) (L' := [.ref 85, .ref 102, .int x2, .int x3, .int x4, w5, .int (σ 85 55), w7, w8]) rfl rfl rfl rfl ?_
  refine ev_goto (pc' := 529) rfl rfl ?_
  exact fm_read_85_102_b529_e (hk54 := hk54) h
def fm_read_85_102_b173 (N : Nat) (k54 : Int32 → Int32 → Int32 → am_S → Option (Int32 × am_S)) : Nat → Int32 → Int32 → Int32 → am_S → Option (Int32 × am_S)
  | 0, _, _, _, _ => none
  | n + 1, x2, x3, x4, σ => (if x3 ≤ x4 then fm_read_85_102_b231 N k54 x2 x3 x4 σ else (if (4 : Int32) ≤ (σ 85 55) then fm_read_85_102_b231 N k54 x2 x3 x4 σ else am_g (am_in (x2 + x4) 50) <| (fm_isGround N (σ 102 (x2 + x4).toNatClampNeg) σ).bind fun q4 => (if q4 = 0 then fm_read_85_102_b231 N k54 x2 x3 x4 σ else am_g (am_in (x2 + x4) 50) <| am_g (am_in (σ 85 55) 4) <| fm_read_85_102_b173 N k54 n x2 x3 (x4 + (1 : Int32)) (am_up (am_up σ 125 (σ 85 55).toNatClampNeg (σ 102 (x2 + x4).toNatClampNeg)) 85 55 ((σ 85 55) + (1 : Int32))))))
set_option maxRecDepth 100000 in
theorem fm_read_85_102_b173_e {X : Nat} {xs : Nat → Int32} {d : Nat} {N : Nat} {k54 : Int32 → Int32 → Int32 → am_S → Option (Int32 × am_S)} (hk54 : ∀ {x2 : Int32} {x3 : Int32} {x4 : Int32} {w5 : Value} {w6 : Value} {w7 : Value} {w8 : Value} {σ : am_S} {o : Int32 × am_S}, k54 x2 x3 x4 σ = some o → am_Ev am_sh (am_exx X xs) (d + 1) mm_153 54 [.ref 85, .ref 102, .int x2, .int x3, .int x4, w5, w6, w7, w8] [] σ (some (.int o.1)) o.2) : ∀ {n : Nat} {x2 : Int32} {x3 : Int32} {x4 : Int32} {w5 : Value} {w6 : Value} {w7 : Value} {w8 : Value} {σ : am_S} {o : Int32 × am_S}, fm_read_85_102_b173 N k54 n x2 x3 x4 σ = some o → am_Ev am_sh (am_exx X xs) (d + 1) mm_153 173 [.ref 85, .ref 102, .int x2, .int x3, .int x4, w5, w6, w7, w8] [] σ (some (.int o.1)) o.2 := by
  intro n
  induction n with
  | zero => intro x2 x3 x4 w5 w6 w7 w8 σ o h; cases h
  | succ n ih =>
    intro x2 x3 x4 w5 w6 w7 w8 σ o h
    unfold fm_read_85_102_b173 at h
    refine ev_iload (pc' := 175) rfl rfl rfl ?_
    refine ev_iload_n (pc' := 176) rfl rfl rfl ?_
    rcases am_if h with ⟨hc1, h⟩ | ⟨hc1, h⟩
    · refine ev_ic_t (pc' := 231) rfl rfl (cb_ge_t hc1) ?_
      exact fm_read_85_102_b231_e (hk54 := hk54) h
    · refine ev_ic_f (pc' := 179) rfl (by decide) rfl (cb_ge_f hc1) ?_
      refine ev_aload_n (pc' := 180) rfl rfl rfl ?_
      refine ev_getfield (pc' := 183) (w := .int (σ 85 55)) rfl rfl rfl rfl ?_
      refine ev_iconst (pc' := 184) (b := (4 : Int32)) rfl rfl rfl ?_
      rcases am_if h with ⟨hc2, h⟩ | ⟨hc2, h⟩
      · refine ev_ic_t (pc' := 231) rfl rfl (cb_ge_t hc2) ?_
        exact fm_read_85_102_b231_e (hk54 := hk54) h
      · refine ev_ic_f (pc' := 187) rfl (by decide) rfl (cb_ge_f hc2) ?_
        refine ev_aload_n (pc' := 188) rfl rfl rfl ?_
        refine ev_aload_n (pc' := 189) rfl rfl rfl ?_
        refine ev_iload_n (pc' := 190) rfl rfl rfl ?_
        refine ev_iload (pc' := 192) rfl rfl rfl ?_
        refine ev_iadd (pc' := 193) rfl rfl ?_
        obtain ⟨hg3, h⟩ := am_g_some h
        refine ev_iaload (pc' := 194) rfl rfl rfl hg3 ?_
        refine am_bd h (fun q4 hq4 h => ?_)
        refine ev_call (mi := 154) (as := [.ref 85, .int (σ 102 (x2 + x4).toNatClampNeg)]) (rest := []) rfl rfl (Nat.le_of_ble_eq_true rfl) (fm_isGround_e (d := d) hq4) ?_
        show am_Ev _ _ _ _ 197 _ _ _ _ _
        rcases am_if h with ⟨hc5, h⟩ | ⟨hc5, h⟩
        · refine ev_if_t (pc' := 231) rfl rfl (cb_eq_t hc5) ?_
          exact fm_read_85_102_b231_e (hk54 := hk54) h
        · refine ev_if_f (pc' := 200) rfl (by decide) rfl (cb_eq_f hc5) ?_
          refine ev_aload_n (pc' := 201) rfl rfl rfl ?_
          refine ev_getfield (pc' := 204) (w := .ref 125) rfl rfl rfl rfl ?_
          refine ev_aload_n (pc' := 205) rfl rfl rfl ?_
          refine ev_getfield (pc' := 208) (w := .int (σ 85 55)) rfl rfl rfl rfl ?_
          refine ev_aload_n (pc' := 209) rfl rfl rfl ?_
          refine ev_iload_n (pc' := 210) rfl rfl rfl ?_
          refine ev_iload (pc' := 212) rfl rfl rfl ?_
          refine ev_iadd (pc' := 213) rfl rfl ?_
          obtain ⟨hg6, h⟩ := am_g_some h
          refine ev_iaload (pc' := 214) rfl rfl rfl hg6 ?_
          obtain ⟨hg7, h⟩ := am_g_some h
          refine ev_iastore (pc' := 215) rfl rfl rfl hg7 ?_
          refine ev_aload_n (pc' := 216) rfl rfl rfl ?_
          refine ev_dup (pc' := 217) rfl rfl ?_
          refine ev_getfield (pc' := 220) (w := .int (σ 85 55)) rfl rfl rfl rfl ?_
          refine ev_iconst (pc' := 221) (b := (1 : Int32)) rfl rfl rfl ?_
          refine ev_iadd (pc' := 222) rfl rfl ?_
          refine ev_putfield (pc' := 225) (ci := 11) (f := 55) (z := 0) rfl rfl rfl rfl rfl ?_
          refine ev_iinc (pc' := 228) (L' := [.ref 85, .ref 102, .int x2, .int x3, .int (x4 + (1 : Int32)), w5, w6, w7, w8]) (b := (1 : Int32)) rfl rfl rfl rfl rfl ?_
          refine ev_goto (pc' := 173) rfl rfl ?_
          exact ih h
def fm_read_85_102_b285 (N : Nat) (k54 : Int32 → Int32 → Int32 → am_S → Option (Int32 × am_S)) (x2 : Int32) (x3 : Int32) (x4 : Int32) (s0 : Int32) (σ : am_S) : Option (Int32 × am_S) := fm_read_85_102_b529 N k54 x2 x3 (x4 + (1 : Int32)) (1 : Int32) (am_up σ 85 58 s0)
set_option maxRecDepth 100000 in
theorem fm_read_85_102_b285_e {X : Nat} {xs : Nat → Int32} {d : Nat} {N : Nat} {k54 : Int32 → Int32 → Int32 → am_S → Option (Int32 × am_S)} (hk54 : ∀ {x2 : Int32} {x3 : Int32} {x4 : Int32} {w5 : Value} {w6 : Value} {w7 : Value} {w8 : Value} {σ : am_S} {o : Int32 × am_S}, k54 x2 x3 x4 σ = some o → am_Ev am_sh (am_exx X xs) (d + 1) mm_153 54 [.ref 85, .ref 102, .int x2, .int x3, .int x4, w5, w6, w7, w8] [] σ (some (.int o.1)) o.2) {x2 : Int32} {x3 : Int32} {x4 : Int32} {s0 : Int32} {w5 : Value} {w6 : Value} {w7 : Value} {w8 : Value} {σ : am_S} {o : Int32 × am_S} (h : fm_read_85_102_b285 N k54 x2 x3 x4 s0 σ = some o) : am_Ev am_sh (am_exx X xs) (d + 1) mm_153 285 [.ref 85, .ref 102, .int x2, .int x3, .int x4, w5, w6, w7, w8] [.int s0, .ref 85] σ (some (.int o.1)) o.2 := by
  unfold fm_read_85_102_b285 at h
  refine ev_putfield (pc' := 288) (ci := 11) (f := 58) (z := 0) rfl rfl rfl rfl rfl ?_
  refine ev_iconst (pc' := 289) (b := (1 : Int32)) rfl rfl rfl ?_
  refine ev_istore (pc' := 291) (L' := [.ref 85, .ref 102, .int x2, .int x3, .int x4, w5, .int (1 : Int32), w7, w8]) rfl rfl rfl rfl ?_
  refine ev_iinc (pc' := 294) (L' := [.ref 85, .ref 102, .int x2, .int x3, .int (x4 + (1 : Int32)), w5, .int (1 : Int32), w7, w8]) (b := (1 : Int32)) rfl rfl rfl rfl rfl ?_
  refine ev_goto (pc' := 529) rfl rfl ?_
  exact fm_read_85_102_b529_e (hk54 := hk54) h
def fm_read_85_102_b268 (N : Nat) (k54 : Int32 → Int32 → Int32 → am_S → Option (Int32 × am_S)) (x2 : Int32) (x3 : Int32) (x4 : Int32) (σ : am_S) : Option (Int32 × am_S) := am_g (am_in (x2 + x4) 50) <| (if (σ 102 (x2 + x4).toNatClampNeg) = (108 : Int32) then fm_read_85_102_b285 N k54 x2 x3 x4 (1 : Int32) σ else fm_read_85_102_b285 N k54 x2 x3 x4 (0 : Int32) σ)
set_option maxRecDepth 100000 in
theorem fm_read_85_102_b268_e {X : Nat} {xs : Nat → Int32} {d : Nat} {N : Nat} {k54 : Int32 → Int32 → Int32 → am_S → Option (Int32 × am_S)} (hk54 : ∀ {x2 : Int32} {x3 : Int32} {x4 : Int32} {w5 : Value} {w6 : Value} {w7 : Value} {w8 : Value} {σ : am_S} {o : Int32 × am_S}, k54 x2 x3 x4 σ = some o → am_Ev am_sh (am_exx X xs) (d + 1) mm_153 54 [.ref 85, .ref 102, .int x2, .int x3, .int x4, w5, w6, w7, w8] [] σ (some (.int o.1)) o.2) {x2 : Int32} {x3 : Int32} {x4 : Int32} {w5 : Value} {w6 : Value} {w7 : Value} {w8 : Value} {σ : am_S} {o : Int32 × am_S} (h : fm_read_85_102_b268 N k54 x2 x3 x4 σ = some o) : am_Ev am_sh (am_exx X xs) (d + 1) mm_153 268 [.ref 85, .ref 102, .int x2, .int x3, .int x4, w5, w6, w7, w8] [] σ (some (.int o.1)) o.2 := by
  unfold fm_read_85_102_b268 at h
  refine ev_aload_n (pc' := 269) rfl rfl rfl ?_
  refine ev_aload_n (pc' := 270) rfl rfl rfl ?_
  refine ev_iload_n (pc' := 271) rfl rfl rfl ?_
  refine ev_iload (pc' := 273) rfl rfl rfl ?_
  refine ev_iadd (pc' := 274) rfl rfl ?_
  obtain ⟨hg1, h⟩ := am_g_some h
  refine ev_iaload (pc' := 275) rfl rfl rfl hg1 ?_
  refine ev_bipush (pc' := 277) (b := (108 : Int32)) rfl rfl rfl ?_
  rcases am_if h with ⟨hc2, h⟩ | ⟨hc2, h⟩
  · refine ev_ic_f (pc' := 280) rfl (by decide) rfl (cb_ne_f hc2) ?_
    refine ev_iconst (pc' := 281) (b := (1 : Int32)) rfl rfl rfl ?_
    refine ev_goto (pc' := 285) rfl rfl ?_
    exact fm_read_85_102_b285_e (hk54 := hk54) h
  · refine ev_ic_t (pc' := 284) rfl rfl (cb_ne_t hc2) ?_
    refine ev_iconst (pc' := 285) (b := (0 : Int32)) rfl rfl rfl ?_
    exact fm_read_85_102_b285_e (hk54 := hk54) h
def fm_read_85_102_b387 (N : Nat) (k54 : Int32 → Int32 → Int32 → am_S → Option (Int32 × am_S)) (k322 : Int32 → Int32 → Int32 → Int32 → Int32 → Int32 → Int32 → am_S → Option (Int32 × am_S)) (x2 : Int32) (x3 : Int32) (x4 : Int32) (x5 : Int32) (x6 : Int32) (x7 : Int32) (x8 : Int32) (σ : am_S) : Option (Int32 × am_S) := am_g (am_in (x2 + x4) 50) <| k322 x2 x3 (x4 + (1 : Int32)) x5 (x6 + (1 : Int32)) ((((10 : Int32) * x7) + (σ 102 (x2 + x4).toNatClampNeg)) - (48 : Int32)) x8 σ
set_option maxRecDepth 100000 in
theorem fm_read_85_102_b387_e {X : Nat} {xs : Nat → Int32} {d : Nat} {N : Nat} {k54 : Int32 → Int32 → Int32 → am_S → Option (Int32 × am_S)} (hk54 : ∀ {x2 : Int32} {x3 : Int32} {x4 : Int32} {w5 : Value} {w6 : Value} {w7 : Value} {w8 : Value} {σ : am_S} {o : Int32 × am_S}, k54 x2 x3 x4 σ = some o → am_Ev am_sh (am_exx X xs) (d + 1) mm_153 54 [.ref 85, .ref 102, .int x2, .int x3, .int x4, w5, w6, w7, w8] [] σ (some (.int o.1)) o.2) {k322 : Int32 → Int32 → Int32 → Int32 → Int32 → Int32 → Int32 → am_S → Option (Int32 × am_S)} (hk322 : ∀ {x2 : Int32} {x3 : Int32} {x4 : Int32} {x5 : Int32} {x6 : Int32} {x7 : Int32} {x8 : Int32} {σ : am_S} {o : Int32 × am_S}, k322 x2 x3 x4 x5 x6 x7 x8 σ = some o → am_Ev am_sh (am_exx X xs) (d + 1) mm_153 322 [.ref 85, .ref 102, .int x2, .int x3, .int x4, .int x5, .int x6, .int x7, .int x8] [] σ (some (.int o.1)) o.2) {x2 : Int32} {x3 : Int32} {x4 : Int32} {x5 : Int32} {x6 : Int32} {x7 : Int32} {x8 : Int32} {σ : am_S} {o : Int32 × am_S} (h : fm_read_85_102_b387 N k54 k322 x2 x3 x4 x5 x6 x7 x8 σ = some o) : am_Ev am_sh (am_exx X xs) (d + 1) mm_153 387 [.ref 85, .ref 102, .int x2, .int x3, .int x4, .int x5, .int x6, .int x7, .int x8] [] σ (some (.int o.1)) o.2 := by
  unfold fm_read_85_102_b387 at h
  refine ev_bipush (pc' := 389) (b := (10 : Int32)) rfl rfl rfl ?_
  refine ev_iload (pc' := 391) rfl rfl rfl ?_
  refine ev_imul (pc' := 392) rfl rfl ?_
  refine ev_aload_n (pc' := 393) rfl rfl rfl ?_
  refine ev_iload_n (pc' := 394) rfl rfl rfl ?_
  refine ev_iload (pc' := 396) rfl rfl rfl ?_
  refine ev_iadd (pc' := 397) rfl rfl ?_
  obtain ⟨hg1, h⟩ := am_g_some h
  refine ev_iaload (pc' := 398) rfl rfl rfl hg1 ?_
  refine ev_iadd (pc' := 399) rfl rfl ?_
  refine ev_bipush (pc' := 401) (b := (48 : Int32)) rfl rfl rfl ?_
  refine ev_isub (pc' := 402) rfl rfl ?_
  refine ev_istore (pc' := 404) (L' := [.ref 85, .ref 102, .int x2, .int x3, .int x4, .int x5, .int x6, .int ((((10 : Int32) * x7) + (σ 102 (x2 + x4).toNatClampNeg)) - (48 : Int32)), .int x8]) rfl rfl rfl rfl ?_
  refine ev_iinc (pc' := 407) (L' := [.ref 85, .ref 102, .int x2, .int x3, .int x4, .int x5, .int (x6 + (1 : Int32)), .int ((((10 : Int32) * x7) + (σ 102 (x2 + x4).toNatClampNeg)) - (48 : Int32)), .int x8]) (b := (1 : Int32)) rfl rfl rfl rfl rfl ?_
  refine ev_iinc (pc' := 410) (L' := [.ref 85, .ref 102, .int x2, .int x3, .int (x4 + (1 : Int32)), .int x5, .int (x6 + (1 : Int32)), .int ((((10 : Int32) * x7) + (σ 102 (x2 + x4).toNatClampNeg)) - (48 : Int32)), .int x8]) (b := (1 : Int32)) rfl rfl rfl rfl rfl ?_
  refine ev_goto (pc' := 322) rfl rfl ?_
  exact hk322 h
def fm_read_85_102_b518 (N : Nat) (k54 : Int32 → Int32 → Int32 → am_S → Option (Int32 × am_S)) (x2 : Int32) (x3 : Int32) (x4 : Int32) (x6 : Int32) (s0 : Int32) (σ : am_S) : Option (Int32 × am_S) := fm_read_85_102_b529 N k54 x2 x3 x4 x6 (am_up σ 85 60 s0)
set_option maxRecDepth 100000 in
theorem fm_read_85_102_b518_e {X : Nat} {xs : Nat → Int32} {d : Nat} {N : Nat} {k54 : Int32 → Int32 → Int32 → am_S → Option (Int32 × am_S)} (hk54 : ∀ {x2 : Int32} {x3 : Int32} {x4 : Int32} {w5 : Value} {w6 : Value} {w7 : Value} {w8 : Value} {σ : am_S} {o : Int32 × am_S}, k54 x2 x3 x4 σ = some o → am_Ev am_sh (am_exx X xs) (d + 1) mm_153 54 [.ref 85, .ref 102, .int x2, .int x3, .int x4, w5, w6, w7, w8] [] σ (some (.int o.1)) o.2) {x2 : Int32} {x3 : Int32} {x4 : Int32} {x6 : Int32} {s0 : Int32} {w5 : Value} {w7 : Value} {w8 : Value} {σ : am_S} {o : Int32 × am_S} (h : fm_read_85_102_b518 N k54 x2 x3 x4 x6 s0 σ = some o) : am_Ev am_sh (am_exx X xs) (d + 1) mm_153 518 [.ref 85, .ref 102, .int x2, .int x3, .int x4, w5, .int x6, w7, w8] [.int s0, .ref 85] σ (some (.int o.1)) o.2 := by
  unfold fm_read_85_102_b518 at h
  refine ev_putfield (pc' := 521) (ci := 11) (f := 60) (z := 0) rfl rfl rfl rfl rfl ?_
  refine ev_goto (pc' := 529) rfl rfl ?_
  exact fm_read_85_102_b529_e (hk54 := hk54) h
def fm_read_85_102_b498 (N : Nat) (k54 : Int32 → Int32 → Int32 → am_S → Option (Int32 × am_S)) (x2 : Int32) (x3 : Int32) (x4 : Int32) (x5 : Int32) (x6 : Int32) (x7 : Int32) (s0 : Int32) (σ : am_S) : Option (Int32 × am_S) := (if x5 = (117 : Int32) then fm_read_85_102_b518 N k54 x2 x3 x4 x6 x7 (am_up σ 85 59 s0) else fm_read_85_102_b518 N k54 x2 x3 x4 x6 (σ 85 60) (am_up σ 85 59 s0))
set_option maxRecDepth 100000 in
theorem fm_read_85_102_b498_e {X : Nat} {xs : Nat → Int32} {d : Nat} {N : Nat} {k54 : Int32 → Int32 → Int32 → am_S → Option (Int32 × am_S)} (hk54 : ∀ {x2 : Int32} {x3 : Int32} {x4 : Int32} {w5 : Value} {w6 : Value} {w7 : Value} {w8 : Value} {σ : am_S} {o : Int32 × am_S}, k54 x2 x3 x4 σ = some o → am_Ev am_sh (am_exx X xs) (d + 1) mm_153 54 [.ref 85, .ref 102, .int x2, .int x3, .int x4, w5, w6, w7, w8] [] σ (some (.int o.1)) o.2) {x2 : Int32} {x3 : Int32} {x4 : Int32} {x5 : Int32} {x6 : Int32} {x7 : Int32} {s0 : Int32} {w8 : Value} {σ : am_S} {o : Int32 × am_S} (h : fm_read_85_102_b498 N k54 x2 x3 x4 x5 x6 x7 s0 σ = some o) : am_Ev am_sh (am_exx X xs) (d + 1) mm_153 498 [.ref 85, .ref 102, .int x2, .int x3, .int x4, .int x5, .int x6, .int x7, w8] [.int s0, .ref 85] σ (some (.int o.1)) o.2 := by
  unfold fm_read_85_102_b498 at h
  refine ev_putfield (pc' := 501) (ci := 11) (f := 59) (z := 0) rfl rfl rfl rfl rfl ?_
  refine ev_aload_n (pc' := 502) rfl rfl rfl ?_
  refine ev_iload (pc' := 504) rfl rfl rfl ?_
  refine ev_bipush (pc' := 506) (b := (117 : Int32)) rfl rfl rfl ?_
  rcases am_if h with ⟨hc1, h⟩ | ⟨hc1, h⟩
  · refine ev_ic_f (pc' := 509) rfl (by decide) rfl (cb_ne_f hc1) ?_
    refine ev_iload (pc' := 511) rfl rfl rfl ?_
    refine ev_goto (pc' := 518) rfl rfl ?_
    exact fm_read_85_102_b518_e (hk54 := hk54) h
  · refine ev_ic_t (pc' := 514) rfl rfl (cb_ne_t hc1) ?_
    refine ev_aload_n (pc' := 515) rfl rfl rfl ?_
    refine ev_getfield (pc' := 518) (w := .int (σ 85 60)) rfl rfl rfl rfl ?_
    exact fm_read_85_102_b518_e (hk54 := hk54) h
def fm_read_85_102_b478 (N : Nat) (k54 : Int32 → Int32 → Int32 → am_S → Option (Int32 × am_S)) (x2 : Int32) (x3 : Int32) (x4 : Int32) (x5 : Int32) (x6 : Int32) (x7 : Int32) (s0 : Int32) (σ : am_S) : Option (Int32 × am_S) := (if x5 = (99 : Int32) then fm_read_85_102_b498 N k54 x2 x3 x4 x5 x6 x7 x7 (am_up σ 85 57 s0) else fm_read_85_102_b498 N k54 x2 x3 x4 x5 x6 x7 (σ 85 59) (am_up σ 85 57 s0))
set_option maxRecDepth 100000 in
theorem fm_read_85_102_b478_e {X : Nat} {xs : Nat → Int32} {d : Nat} {N : Nat} {k54 : Int32 → Int32 → Int32 → am_S → Option (Int32 × am_S)} (hk54 : ∀ {x2 : Int32} {x3 : Int32} {x4 : Int32} {w5 : Value} {w6 : Value} {w7 : Value} {w8 : Value} {σ : am_S} {o : Int32 × am_S}, k54 x2 x3 x4 σ = some o → am_Ev am_sh (am_exx X xs) (d + 1) mm_153 54 [.ref 85, .ref 102, .int x2, .int x3, .int x4, w5, w6, w7, w8] [] σ (some (.int o.1)) o.2) {x2 : Int32} {x3 : Int32} {x4 : Int32} {x5 : Int32} {x6 : Int32} {x7 : Int32} {s0 : Int32} {w8 : Value} {σ : am_S} {o : Int32 × am_S} (h : fm_read_85_102_b478 N k54 x2 x3 x4 x5 x6 x7 s0 σ = some o) : am_Ev am_sh (am_exx X xs) (d + 1) mm_153 478 [.ref 85, .ref 102, .int x2, .int x3, .int x4, .int x5, .int x6, .int x7, w8] [.int s0, .ref 85] σ (some (.int o.1)) o.2 := by
  unfold fm_read_85_102_b478 at h
  refine ev_putfield (pc' := 481) (ci := 11) (f := 57) (z := 0) rfl rfl rfl rfl rfl ?_
  refine ev_aload_n (pc' := 482) rfl rfl rfl ?_
  refine ev_iload (pc' := 484) rfl rfl rfl ?_
  refine ev_bipush (pc' := 486) (b := (99 : Int32)) rfl rfl rfl ?_
  rcases am_if h with ⟨hc1, h⟩ | ⟨hc1, h⟩
  · refine ev_ic_f (pc' := 489) rfl (by decide) rfl (cb_ne_f hc1) ?_
    refine ev_iload (pc' := 491) rfl rfl rfl ?_
    refine ev_goto (pc' := 498) rfl rfl ?_
    exact fm_read_85_102_b498_e (hk54 := hk54) h
  · refine ev_ic_t (pc' := 494) rfl rfl (cb_ne_t hc1) ?_
    refine ev_aload_n (pc' := 495) rfl rfl rfl ?_
    refine ev_getfield (pc' := 498) (w := .int (σ 85 59)) rfl rfl rfl rfl ?_
    exact fm_read_85_102_b498_e (hk54 := hk54) h
def fm_read_85_102_b458 (N : Nat) (k54 : Int32 → Int32 → Int32 → am_S → Option (Int32 × am_S)) (x2 : Int32) (x3 : Int32) (x4 : Int32) (x5 : Int32) (x6 : Int32) (x7 : Int32) (s0 : Int32) (σ : am_S) : Option (Int32 × am_S) := (if x5 = (115 : Int32) then fm_read_85_102_b478 N k54 x2 x3 x4 x5 x6 x7 x7 (am_up σ 85 56 s0) else fm_read_85_102_b478 N k54 x2 x3 x4 x5 x6 x7 (σ 85 57) (am_up σ 85 56 s0))
set_option maxRecDepth 100000 in
theorem fm_read_85_102_b458_e {X : Nat} {xs : Nat → Int32} {d : Nat} {N : Nat} {k54 : Int32 → Int32 → Int32 → am_S → Option (Int32 × am_S)} (hk54 : ∀ {x2 : Int32} {x3 : Int32} {x4 : Int32} {w5 : Value} {w6 : Value} {w7 : Value} {w8 : Value} {σ : am_S} {o : Int32 × am_S}, k54 x2 x3 x4 σ = some o → am_Ev am_sh (am_exx X xs) (d + 1) mm_153 54 [.ref 85, .ref 102, .int x2, .int x3, .int x4, w5, w6, w7, w8] [] σ (some (.int o.1)) o.2) {x2 : Int32} {x3 : Int32} {x4 : Int32} {x5 : Int32} {x6 : Int32} {x7 : Int32} {s0 : Int32} {w8 : Value} {σ : am_S} {o : Int32 × am_S} (h : fm_read_85_102_b458 N k54 x2 x3 x4 x5 x6 x7 s0 σ = some o) : am_Ev am_sh (am_exx X xs) (d + 1) mm_153 458 [.ref 85, .ref 102, .int x2, .int x3, .int x4, .int x5, .int x6, .int x7, w8] [.int s0, .ref 85] σ (some (.int o.1)) o.2 := by
  unfold fm_read_85_102_b458 at h
  refine ev_putfield (pc' := 461) (ci := 11) (f := 56) (z := 0) rfl rfl rfl rfl rfl ?_
  refine ev_aload_n (pc' := 462) rfl rfl rfl ?_
  refine ev_iload (pc' := 464) rfl rfl rfl ?_
  refine ev_bipush (pc' := 466) (b := (115 : Int32)) rfl rfl rfl ?_
  rcases am_if h with ⟨hc1, h⟩ | ⟨hc1, h⟩
  · refine ev_ic_f (pc' := 469) rfl (by decide) rfl (cb_ne_f hc1) ?_
    refine ev_iload (pc' := 471) rfl rfl rfl ?_
    refine ev_goto (pc' := 478) rfl rfl ?_
    exact fm_read_85_102_b478_e (hk54 := hk54) h
  · refine ev_ic_t (pc' := 474) rfl rfl (cb_ne_t hc1) ?_
    refine ev_aload_n (pc' := 475) rfl rfl rfl ?_
    refine ev_getfield (pc' := 478) (w := .int (σ 85 57)) rfl rfl rfl rfl ?_
    exact fm_read_85_102_b478_e (hk54 := hk54) h
def fm_read_85_102_b439 (N : Nat) (k54 : Int32 → Int32 → Int32 → am_S → Option (Int32 × am_S)) (x2 : Int32) (x3 : Int32) (x4 : Int32) (x5 : Int32) (x7 : Int32) (s0 : Int32) (σ : am_S) : Option (Int32 × am_S) := (if x5 = (107 : Int32) then fm_read_85_102_b458 N k54 x2 x3 x4 x5 s0 x7 x7 σ else fm_read_85_102_b458 N k54 x2 x3 x4 x5 s0 x7 (σ 85 56) σ)
set_option maxRecDepth 100000 in
theorem fm_read_85_102_b439_e {X : Nat} {xs : Nat → Int32} {d : Nat} {N : Nat} {k54 : Int32 → Int32 → Int32 → am_S → Option (Int32 × am_S)} (hk54 : ∀ {x2 : Int32} {x3 : Int32} {x4 : Int32} {w5 : Value} {w6 : Value} {w7 : Value} {w8 : Value} {σ : am_S} {o : Int32 × am_S}, k54 x2 x3 x4 σ = some o → am_Ev am_sh (am_exx X xs) (d + 1) mm_153 54 [.ref 85, .ref 102, .int x2, .int x3, .int x4, w5, w6, w7, w8] [] σ (some (.int o.1)) o.2) {x2 : Int32} {x3 : Int32} {x4 : Int32} {x5 : Int32} {x7 : Int32} {s0 : Int32} {w6 : Value} {w8 : Value} {σ : am_S} {o : Int32 × am_S} (h : fm_read_85_102_b439 N k54 x2 x3 x4 x5 x7 s0 σ = some o) : am_Ev am_sh (am_exx X xs) (d + 1) mm_153 439 [.ref 85, .ref 102, .int x2, .int x3, .int x4, .int x5, w6, .int x7, w8] [.int s0] σ (some (.int o.1)) o.2 := by
  unfold fm_read_85_102_b439 at h
  refine ev_istore (pc' := 441) (L' := [.ref 85, .ref 102, .int x2, .int x3, .int x4, .int x5, .int s0, .int x7, w8]) rfl rfl rfl rfl ?_
  refine ev_aload_n (pc' := 442) rfl rfl rfl ?_
  refine ev_iload (pc' := 444) rfl rfl rfl ?_
  refine ev_bipush (pc' := 446) (b := (107 : Int32)) rfl rfl rfl ?_
  rcases am_if h with ⟨hc1, h⟩ | ⟨hc1, h⟩
  · refine ev_ic_f (pc' := 449) rfl (by decide) rfl (cb_ne_f hc1) ?_
    refine ev_iload (pc' := 451) rfl rfl rfl ?_
    refine ev_goto (pc' := 458) rfl rfl ?_
    exact fm_read_85_102_b458_e (hk54 := hk54) h
  · refine ev_ic_t (pc' := 454) rfl rfl (cb_ne_t hc1) ?_
    refine ev_aload_n (pc' := 455) rfl rfl rfl ?_
    refine ev_getfield (pc' := 458) (w := .int (σ 85 56)) rfl rfl rfl rfl ?_
    exact fm_read_85_102_b458_e (hk54 := hk54) h
def fm_read_85_102_b437 (N : Nat) (k54 : Int32 → Int32 → Int32 → am_S → Option (Int32 × am_S)) (x2 : Int32) (x3 : Int32) (x4 : Int32) (x5 : Int32) (x6 : Int32) (x7 : Int32) (σ : am_S) : Option (Int32 × am_S) := fm_read_85_102_b439 N k54 x2 x3 x4 x5 x7 x6 σ
set_option maxRecDepth 100000 in
theorem fm_read_85_102_b437_e {X : Nat} {xs : Nat → Int32} {d : Nat} {N : Nat} {k54 : Int32 → Int32 → Int32 → am_S → Option (Int32 × am_S)} (hk54 : ∀ {x2 : Int32} {x3 : Int32} {x4 : Int32} {w5 : Value} {w6 : Value} {w7 : Value} {w8 : Value} {σ : am_S} {o : Int32 × am_S}, k54 x2 x3 x4 σ = some o → am_Ev am_sh (am_exx X xs) (d + 1) mm_153 54 [.ref 85, .ref 102, .int x2, .int x3, .int x4, w5, w6, w7, w8] [] σ (some (.int o.1)) o.2) {x2 : Int32} {x3 : Int32} {x4 : Int32} {x5 : Int32} {x6 : Int32} {x7 : Int32} {w8 : Value} {σ : am_S} {o : Int32 × am_S} (h : fm_read_85_102_b437 N k54 x2 x3 x4 x5 x6 x7 σ = some o) : am_Ev am_sh (am_exx X xs) (d + 1) mm_153 437 [.ref 85, .ref 102, .int x2, .int x3, .int x4, .int x5, .int x6, .int x7, w8] [] σ (some (.int o.1)) o.2 := by
  unfold fm_read_85_102_b437 at h
  refine ev_iload (pc' := 439) rfl rfl rfl ?_
  exact fm_read_85_102_b439_e (hk54 := hk54) h
def fm_read_85_102_b427 (N : Nat) (k54 : Int32 → Int32 → Int32 → am_S → Option (Int32 × am_S)) (x2 : Int32) (x3 : Int32) (x4 : Int32) (x5 : Int32) (x6 : Int32) (x7 : Int32) (σ : am_S) : Option (Int32 × am_S) := (if (2 : Int32) ≤ x6 then fm_read_85_102_b437 N k54 x2 x3 x4 x5 x6 x7 σ else fm_read_85_102_b439 N k54 x2 x3 x4 x5 x7 (0 : Int32) σ)
set_option maxRecDepth 100000 in
theorem fm_read_85_102_b427_e {X : Nat} {xs : Nat → Int32} {d : Nat} {N : Nat} {k54 : Int32 → Int32 → Int32 → am_S → Option (Int32 × am_S)} (hk54 : ∀ {x2 : Int32} {x3 : Int32} {x4 : Int32} {w5 : Value} {w6 : Value} {w7 : Value} {w8 : Value} {σ : am_S} {o : Int32 × am_S}, k54 x2 x3 x4 σ = some o → am_Ev am_sh (am_exx X xs) (d + 1) mm_153 54 [.ref 85, .ref 102, .int x2, .int x3, .int x4, w5, w6, w7, w8] [] σ (some (.int o.1)) o.2) {x2 : Int32} {x3 : Int32} {x4 : Int32} {x5 : Int32} {x6 : Int32} {x7 : Int32} {w8 : Value} {σ : am_S} {o : Int32 × am_S} (h : fm_read_85_102_b427 N k54 x2 x3 x4 x5 x6 x7 σ = some o) : am_Ev am_sh (am_exx X xs) (d + 1) mm_153 427 [.ref 85, .ref 102, .int x2, .int x3, .int x4, .int x5, .int x6, .int x7, w8] [] σ (some (.int o.1)) o.2 := by
  unfold fm_read_85_102_b427 at h
  refine ev_iload (pc' := 429) rfl rfl rfl ?_
  refine ev_iconst (pc' := 430) (b := (2 : Int32)) rfl rfl rfl ?_
  rcases am_if h with ⟨hc1, h⟩ | ⟨hc1, h⟩
  · refine ev_ic_t (pc' := 437) rfl rfl (cb_ge_t hc1) ?_
    exact fm_read_85_102_b437_e (hk54 := hk54) h
  · refine ev_ic_f (pc' := 433) rfl (by decide) rfl (cb_ge_f hc1) ?_
    refine ev_iconst (pc' := 434) (b := (0 : Int32)) rfl rfl rfl ?_
    refine ev_goto (pc' := 439) rfl rfl ?_
    exact fm_read_85_102_b439_e (hk54 := hk54) h
def fm_read_85_102_b413 (N : Nat) (k54 : Int32 → Int32 → Int32 → am_S → Option (Int32 × am_S)) (x2 : Int32) (x3 : Int32) (x4 : Int32) (x5 : Int32) (x6 : Int32) (x7 : Int32) (σ : am_S) : Option (Int32 × am_S) := (if x5 = (115 : Int32) then fm_read_85_102_b427 N k54 x2 x3 x4 x5 x6 x7 σ else (if x5 = (117 : Int32) then fm_read_85_102_b427 N k54 x2 x3 x4 x5 x6 x7 σ else fm_read_85_102_b437 N k54 x2 x3 x4 x5 x6 x7 σ))
set_option maxRecDepth 100000 in
theorem fm_read_85_102_b413_e {X : Nat} {xs : Nat → Int32} {d : Nat} {N : Nat} {k54 : Int32 → Int32 → Int32 → am_S → Option (Int32 × am_S)} (hk54 : ∀ {x2 : Int32} {x3 : Int32} {x4 : Int32} {w5 : Value} {w6 : Value} {w7 : Value} {w8 : Value} {σ : am_S} {o : Int32 × am_S}, k54 x2 x3 x4 σ = some o → am_Ev am_sh (am_exx X xs) (d + 1) mm_153 54 [.ref 85, .ref 102, .int x2, .int x3, .int x4, w5, w6, w7, w8] [] σ (some (.int o.1)) o.2) {x2 : Int32} {x3 : Int32} {x4 : Int32} {x5 : Int32} {x6 : Int32} {x7 : Int32} {w8 : Value} {σ : am_S} {o : Int32 × am_S} (h : fm_read_85_102_b413 N k54 x2 x3 x4 x5 x6 x7 σ = some o) : am_Ev am_sh (am_exx X xs) (d + 1) mm_153 413 [.ref 85, .ref 102, .int x2, .int x3, .int x4, .int x5, .int x6, .int x7, w8] [] σ (some (.int o.1)) o.2 := by
  unfold fm_read_85_102_b413 at h
  refine ev_iload (pc' := 415) rfl rfl rfl ?_
  refine ev_bipush (pc' := 417) (b := (115 : Int32)) rfl rfl rfl ?_
  rcases am_if h with ⟨hc1, h⟩ | ⟨hc1, h⟩
  · refine ev_ic_t (pc' := 427) rfl rfl (cb_eq_t hc1) ?_
    exact fm_read_85_102_b427_e (hk54 := hk54) h
  · refine ev_ic_f (pc' := 420) rfl (by decide) rfl (cb_eq_f hc1) ?_
    refine ev_iload (pc' := 422) rfl rfl rfl ?_
    refine ev_bipush (pc' := 424) (b := (117 : Int32)) rfl rfl rfl ?_
    rcases am_if h with ⟨hc2, h⟩ | ⟨hc2, h⟩
    · refine ev_ic_f (pc' := 427) rfl (by decide) rfl (cb_ne_f hc2) ?_
      exact fm_read_85_102_b427_e (hk54 := hk54) h
    · refine ev_ic_t (pc' := 437) rfl rfl (cb_ne_t hc2) ?_
      exact fm_read_85_102_b437_e (hk54 := hk54) h
def fm_read_85_102_b384 (N : Nat) (k54 : Int32 → Int32 → Int32 → am_S → Option (Int32 × am_S)) (k322 : Int32 → Int32 → Int32 → Int32 → Int32 → Int32 → Int32 → am_S → Option (Int32 × am_S)) (x2 : Int32) (x3 : Int32) (x4 : Int32) (x5 : Int32) (x6 : Int32) (x7 : Int32) (x8 : Int32) (s0 : Int32) (s1 : Int32) (σ : am_S) : Option (Int32 × am_S) := (if s0 < s1 then fm_read_85_102_b413 N k54 x2 x3 x4 x5 x6 x7 σ else fm_read_85_102_b387 N k54 k322 x2 x3 x4 x5 x6 x7 x8 σ)
set_option maxRecDepth 100000 in
theorem fm_read_85_102_b384_e {X : Nat} {xs : Nat → Int32} {d : Nat} {N : Nat} {k54 : Int32 → Int32 → Int32 → am_S → Option (Int32 × am_S)} (hk54 : ∀ {x2 : Int32} {x3 : Int32} {x4 : Int32} {w5 : Value} {w6 : Value} {w7 : Value} {w8 : Value} {σ : am_S} {o : Int32 × am_S}, k54 x2 x3 x4 σ = some o → am_Ev am_sh (am_exx X xs) (d + 1) mm_153 54 [.ref 85, .ref 102, .int x2, .int x3, .int x4, w5, w6, w7, w8] [] σ (some (.int o.1)) o.2) {k322 : Int32 → Int32 → Int32 → Int32 → Int32 → Int32 → Int32 → am_S → Option (Int32 × am_S)} (hk322 : ∀ {x2 : Int32} {x3 : Int32} {x4 : Int32} {x5 : Int32} {x6 : Int32} {x7 : Int32} {x8 : Int32} {σ : am_S} {o : Int32 × am_S}, k322 x2 x3 x4 x5 x6 x7 x8 σ = some o → am_Ev am_sh (am_exx X xs) (d + 1) mm_153 322 [.ref 85, .ref 102, .int x2, .int x3, .int x4, .int x5, .int x6, .int x7, .int x8] [] σ (some (.int o.1)) o.2) {x2 : Int32} {x3 : Int32} {x4 : Int32} {x5 : Int32} {x6 : Int32} {x7 : Int32} {x8 : Int32} {s0 : Int32} {s1 : Int32} {σ : am_S} {o : Int32 × am_S} (h : fm_read_85_102_b384 N k54 k322 x2 x3 x4 x5 x6 x7 x8 s0 s1 σ = some o) : am_Ev am_sh (am_exx X xs) (d + 1) mm_153 384 [.ref 85, .ref 102, .int x2, .int x3, .int x4, .int x5, .int x6, .int x7, .int x8] [.int s0, .int s1] σ (some (.int o.1)) o.2 := by
  unfold fm_read_85_102_b384 at h
  rcases am_if h with ⟨hc1, h⟩ | ⟨hc1, h⟩
  · refine ev_ic_t (pc' := 413) rfl rfl (cb_gt_t hc1) ?_
    exact fm_read_85_102_b413_e (hk54 := hk54) h
  · refine ev_ic_f (pc' := 387) rfl (by decide) rfl (cb_gt_f hc1) ?_
    exact fm_read_85_102_b387_e (hk54 := hk54) (hk322 := hk322) h
def fm_read_85_102_b322 (N : Nat) (k54 : Int32 → Int32 → Int32 → am_S → Option (Int32 × am_S)) : Nat → Int32 → Int32 → Int32 → Int32 → Int32 → Int32 → Int32 → am_S → Option (Int32 × am_S)
  | 0, _, _, _, _, _, _, _, _ => none
  | n + 1, x2, x3, x4, x5, x6, x7, x8, σ => (if x3 ≤ x4 then fm_read_85_102_b413 N k54 x2 x3 x4 x5 x6 x7 σ else (if x8 ≤ x6 then fm_read_85_102_b413 N k54 x2 x3 x4 x5 x6 x7 σ else am_g (am_in (x2 + x4) 50) <| (if (fm_isIn (σ 102 (x2 + x4).toNatClampNeg) (48 : Int32) (57 : Int32) σ) = 0 then fm_read_85_102_b413 N k54 x2 x3 x4 x5 x6 x7 σ else (if x5 = (117 : Int32) then am_g (am_in (x2 + x4) 50) <| (if x6 = 0 then fm_read_85_102_b384 N k54 (fun x2 x3 x4 x5 x6 x7 x8 σ => fm_read_85_102_b322 N k54 n x2 x3 x4 x5 x6 x7 x8 σ) x2 x3 x4 x5 x6 x7 x8 (2 : Int32) ((((10 : Int32) * x7) + (σ 102 (x2 + x4).toNatClampNeg)) - (48 : Int32)) σ else fm_read_85_102_b384 N k54 (fun x2 x3 x4 x5 x6 x7 x8 σ => fm_read_85_102_b322 N k54 n x2 x3 x4 x5 x6 x7 x8 σ) x2 x3 x4 x5 x6 x7 x8 (24 : Int32) ((((10 : Int32) * x7) + (σ 102 (x2 + x4).toNatClampNeg)) - (48 : Int32)) σ) else fm_read_85_102_b387 N k54 (fun x2 x3 x4 x5 x6 x7 x8 σ => fm_read_85_102_b322 N k54 n x2 x3 x4 x5 x6 x7 x8 σ) x2 x3 x4 x5 x6 x7 x8 σ))))
set_option maxRecDepth 100000 in
theorem fm_read_85_102_b322_e {X : Nat} {xs : Nat → Int32} {d : Nat} {N : Nat} {k54 : Int32 → Int32 → Int32 → am_S → Option (Int32 × am_S)} (hk54 : ∀ {x2 : Int32} {x3 : Int32} {x4 : Int32} {w5 : Value} {w6 : Value} {w7 : Value} {w8 : Value} {σ : am_S} {o : Int32 × am_S}, k54 x2 x3 x4 σ = some o → am_Ev am_sh (am_exx X xs) (d + 1) mm_153 54 [.ref 85, .ref 102, .int x2, .int x3, .int x4, w5, w6, w7, w8] [] σ (some (.int o.1)) o.2) : ∀ {n : Nat} {x2 : Int32} {x3 : Int32} {x4 : Int32} {x5 : Int32} {x6 : Int32} {x7 : Int32} {x8 : Int32} {σ : am_S} {o : Int32 × am_S}, fm_read_85_102_b322 N k54 n x2 x3 x4 x5 x6 x7 x8 σ = some o → am_Ev am_sh (am_exx X xs) (d + 1) mm_153 322 [.ref 85, .ref 102, .int x2, .int x3, .int x4, .int x5, .int x6, .int x7, .int x8] [] σ (some (.int o.1)) o.2 := by
  intro n
  induction n with
  | zero => intro x2 x3 x4 x5 x6 x7 x8 σ o h; cases h
  | succ n ih =>
    intro x2 x3 x4 x5 x6 x7 x8 σ o h
    unfold fm_read_85_102_b322 at h
    refine ev_iload (pc' := 324) rfl rfl rfl ?_
    refine ev_iload_n (pc' := 325) rfl rfl rfl ?_
    rcases am_if h with ⟨hc1, h⟩ | ⟨hc1, h⟩
    · refine ev_ic_t (pc' := 413) rfl rfl (cb_ge_t hc1) ?_
      exact fm_read_85_102_b413_e (hk54 := hk54) h
    · refine ev_ic_f (pc' := 328) rfl (by decide) rfl (cb_ge_f hc1) ?_
      refine ev_iload (pc' := 330) rfl rfl rfl ?_
      refine ev_iload (pc' := 332) rfl rfl rfl ?_
      rcases am_if h with ⟨hc2, h⟩ | ⟨hc2, h⟩
      · refine ev_ic_t (pc' := 413) rfl rfl (cb_ge_t hc2) ?_
        exact fm_read_85_102_b413_e (hk54 := hk54) h
      · refine ev_ic_f (pc' := 335) rfl (by decide) rfl (cb_ge_f hc2) ?_
        refine ev_aload_n (pc' := 336) rfl rfl rfl ?_
        refine ev_iload_n (pc' := 337) rfl rfl rfl ?_
        refine ev_iload (pc' := 339) rfl rfl rfl ?_
        refine ev_iadd (pc' := 340) rfl rfl ?_
        obtain ⟨hg3, h⟩ := am_g_some h
        refine ev_iaload (pc' := 341) rfl rfl rfl hg3 ?_
        refine ev_bipush (pc' := 343) (b := (48 : Int32)) rfl rfl rfl ?_
        refine ev_bipush (pc' := 345) (b := (57 : Int32)) rfl rfl rfl ?_
        refine ev_call (mi := 170) (as := [.int (σ 102 (x2 + x4).toNatClampNeg), .int (48 : Int32), .int (57 : Int32)]) (rest := []) rfl rfl (Nat.le_of_ble_eq_true rfl) (fm_isIn_e (d := d) rfl) ?_
        show am_Ev _ _ _ _ 348 _ _ _ _ _
        rcases am_if h with ⟨hc4, h⟩ | ⟨hc4, h⟩
        · refine ev_if_t (pc' := 413) rfl rfl (cb_eq_t hc4) ?_
          exact fm_read_85_102_b413_e (hk54 := hk54) h
        · refine ev_if_f (pc' := 351) rfl (by decide) rfl (cb_eq_f hc4) ?_
          refine ev_iload (pc' := 353) rfl rfl rfl ?_
          refine ev_bipush (pc' := 355) (b := (117 : Int32)) rfl rfl rfl ?_
          rcases am_if h with ⟨hc5, h⟩ | ⟨hc5, h⟩
          · refine ev_ic_f (pc' := 358) rfl (by decide) rfl (cb_ne_f hc5) ?_
            refine ev_bipush (pc' := 360) (b := (10 : Int32)) rfl rfl rfl ?_
            refine ev_iload (pc' := 362) rfl rfl rfl ?_
            refine ev_imul (pc' := 363) rfl rfl ?_
            refine ev_aload_n (pc' := 364) rfl rfl rfl ?_
            refine ev_iload_n (pc' := 365) rfl rfl rfl ?_
            refine ev_iload (pc' := 367) rfl rfl rfl ?_
            refine ev_iadd (pc' := 368) rfl rfl ?_
            obtain ⟨hg6, h⟩ := am_g_some h
            refine ev_iaload (pc' := 369) rfl rfl rfl hg6 ?_
            refine ev_iadd (pc' := 370) rfl rfl ?_
            refine ev_bipush (pc' := 372) (b := (48 : Int32)) rfl rfl rfl ?_
            refine ev_isub (pc' := 373) rfl rfl ?_
            refine ev_iload (pc' := 375) rfl rfl rfl ?_
            rcases am_if h with ⟨hc7, h⟩ | ⟨hc7, h⟩
            · refine ev_if_f (pc' := 378) rfl (by decide) rfl (cb_ne_f hc7) ?_
              refine ev_iconst (pc' := 379) (b := (2 : Int32)) rfl rfl rfl ?_
              refine ev_goto (pc' := 384) rfl rfl ?_
              exact fm_read_85_102_b384_e (hk54 := hk54) (hk322 := fun h => ih h) h
            · refine ev_if_t (pc' := 382) rfl rfl (cb_ne_t hc7) ?_
              refine ev_bipush (pc' := 384) (b := (24 : Int32)) rfl rfl rfl ?_
              exact fm_read_85_102_b384_e (hk54 := hk54) (hk322 := fun h => ih h) h
          · refine ev_ic_t (pc' := 387) rfl rfl (cb_ne_t hc5) ?_
            exact fm_read_85_102_b387_e (hk54 := hk54) (hk322 := fun h => ih h) h
def fm_read_85_102_b320 (N : Nat) (k54 : Int32 → Int32 → Int32 → am_S → Option (Int32 × am_S)) (x2 : Int32) (x3 : Int32) (x4 : Int32) (x5 : Int32) (x6 : Int32) (x7 : Int32) (s0 : Int32) (σ : am_S) : Option (Int32 × am_S) := fm_read_85_102_b322 N k54 N x2 x3 x4 x5 x6 x7 s0 σ
set_option maxRecDepth 100000 in
theorem fm_read_85_102_b320_e {X : Nat} {xs : Nat → Int32} {d : Nat} {N : Nat} {k54 : Int32 → Int32 → Int32 → am_S → Option (Int32 × am_S)} (hk54 : ∀ {x2 : Int32} {x3 : Int32} {x4 : Int32} {w5 : Value} {w6 : Value} {w7 : Value} {w8 : Value} {σ : am_S} {o : Int32 × am_S}, k54 x2 x3 x4 σ = some o → am_Ev am_sh (am_exx X xs) (d + 1) mm_153 54 [.ref 85, .ref 102, .int x2, .int x3, .int x4, w5, w6, w7, w8] [] σ (some (.int o.1)) o.2) {x2 : Int32} {x3 : Int32} {x4 : Int32} {x5 : Int32} {x6 : Int32} {x7 : Int32} {s0 : Int32} {w8 : Value} {σ : am_S} {o : Int32 × am_S} (h : fm_read_85_102_b320 N k54 x2 x3 x4 x5 x6 x7 s0 σ = some o) : am_Ev am_sh (am_exx X xs) (d + 1) mm_153 320 [.ref 85, .ref 102, .int x2, .int x3, .int x4, .int x5, .int x6, .int x7, w8] [.int s0] σ (some (.int o.1)) o.2 := by
  unfold fm_read_85_102_b320 at h
  refine ev_istore (pc' := 322) (L' := [.ref 85, .ref 102, .int x2, .int x3, .int x4, .int x5, .int x6, .int x7, .int s0]) rfl rfl rfl rfl ?_
  exact fm_read_85_102_b322_e (hk54 := hk54) h
def fm_read_85_102_b54 (N : Nat) : Nat → Int32 → Int32 → Int32 → am_S → Option (Int32 × am_S)
  | 0, _, _, _, _ => none
  | n + 1, x2, x3, x4, σ => (if x3 ≤ x4 then some ((-1 : Int32), σ) else am_g (am_in (x2 + x4) 50) <| (if (σ 102 (x2 + x4).toNatClampNeg) = (99 : Int32) then (if (σ 102 (x2 + x4).toNatClampNeg) = (107 : Int32) then fm_read_85_102_b320 N (fun x2 x3 x4 σ => fm_read_85_102_b54 N n x2 x3 x4 σ) x2 x3 (x4 + (1 : Int32)) (σ 102 (x2 + x4).toNatClampNeg) (0 : Int32) (0 : Int32) (3 : Int32) σ else (if (σ 102 (x2 + x4).toNatClampNeg) = (99 : Int32) then fm_read_85_102_b320 N (fun x2 x3 x4 σ => fm_read_85_102_b54 N n x2 x3 x4 σ) x2 x3 (x4 + (1 : Int32)) (σ 102 (x2 + x4).toNatClampNeg) (0 : Int32) (0 : Int32) (1 : Int32) σ else fm_read_85_102_b320 N (fun x2 x3 x4 σ => fm_read_85_102_b54 N n x2 x3 x4 σ) x2 x3 (x4 + (1 : Int32)) (σ 102 (x2 + x4).toNatClampNeg) (0 : Int32) (0 : Int32) (2 : Int32) σ)) else (if (σ 102 (x2 + x4).toNatClampNeg) = (100 : Int32) then (if x3 ≤ (x4 + (1 : Int32)) then fm_read_85_102_b529 N (fun x2 x3 x4 σ => fm_read_85_102_b54 N n x2 x3 x4 σ) x2 x3 (x4 + (1 : Int32)) (0 : Int32) σ else am_g (am_in (x2 + (x4 + (1 : Int32))) 50) <| (if (σ 102 (x2 + (x4 + (1 : Int32))).toNatClampNeg) = (108 : Int32) then fm_read_85_102_b268 N (fun x2 x3 x4 σ => fm_read_85_102_b54 N n x2 x3 x4 σ) x2 x3 (x4 + (1 : Int32)) σ else am_g (am_in (x2 + (x4 + (1 : Int32))) 50) <| (if (σ 102 (x2 + (x4 + (1 : Int32))).toNatClampNeg) = (115 : Int32) then fm_read_85_102_b268 N (fun x2 x3 x4 σ => fm_read_85_102_b54 N n x2 x3 x4 σ) x2 x3 (x4 + (1 : Int32)) σ else fm_read_85_102_b529 N (fun x2 x3 x4 σ => fm_read_85_102_b54 N n x2 x3 x4 σ) x2 x3 (x4 + (1 : Int32)) (0 : Int32) σ))) else (if (σ 102 (x2 + x4).toNatClampNeg) = (107 : Int32) then (if (σ 102 (x2 + x4).toNatClampNeg) = (107 : Int32) then fm_read_85_102_b320 N (fun x2 x3 x4 σ => fm_read_85_102_b54 N n x2 x3 x4 σ) x2 x3 (x4 + (1 : Int32)) (σ 102 (x2 + x4).toNatClampNeg) (0 : Int32) (0 : Int32) (3 : Int32) σ else (if (σ 102 (x2 + x4).toNatClampNeg) = (99 : Int32) then fm_read_85_102_b320 N (fun x2 x3 x4 σ => fm_read_85_102_b54 N n x2 x3 x4 σ) x2 x3 (x4 + (1 : Int32)) (σ 102 (x2 + x4).toNatClampNeg) (0 : Int32) (0 : Int32) (1 : Int32) σ else fm_read_85_102_b320 N (fun x2 x3 x4 σ => fm_read_85_102_b54 N n x2 x3 x4 σ) x2 x3 (x4 + (1 : Int32)) (σ 102 (x2 + x4).toNatClampNeg) (0 : Int32) (0 : Int32) (2 : Int32) σ)) else (if (σ 102 (x2 + x4).toNatClampNeg) = (112 : Int32) then fm_read_85_102_b173 N (fun x2 x3 x4 σ => fm_read_85_102_b54 N n x2 x3 x4 σ) N x2 x3 (x4 + (1 : Int32)) (am_up σ 85 55 (0 : Int32)) else (if (σ 102 (x2 + x4).toNatClampNeg) = (115 : Int32) then (if (σ 102 (x2 + x4).toNatClampNeg) = (107 : Int32) then fm_read_85_102_b320 N (fun x2 x3 x4 σ => fm_read_85_102_b54 N n x2 x3 x4 σ) x2 x3 (x4 + (1 : Int32)) (σ 102 (x2 + x4).toNatClampNeg) (0 : Int32) (0 : Int32) (3 : Int32) σ else (if (σ 102 (x2 + x4).toNatClampNeg) = (99 : Int32) then fm_read_85_102_b320 N (fun x2 x3 x4 σ => fm_read_85_102_b54 N n x2 x3 x4 σ) x2 x3 (x4 + (1 : Int32)) (σ 102 (x2 + x4).toNatClampNeg) (0 : Int32) (0 : Int32) (1 : Int32) σ else fm_read_85_102_b320 N (fun x2 x3 x4 σ => fm_read_85_102_b54 N n x2 x3 x4 σ) x2 x3 (x4 + (1 : Int32)) (σ 102 (x2 + x4).toNatClampNeg) (0 : Int32) (0 : Int32) (2 : Int32) σ)) else (if (σ 102 (x2 + x4).toNatClampNeg) = (117 : Int32) then (if (σ 102 (x2 + x4).toNatClampNeg) = (107 : Int32) then fm_read_85_102_b320 N (fun x2 x3 x4 σ => fm_read_85_102_b54 N n x2 x3 x4 σ) x2 x3 (x4 + (1 : Int32)) (σ 102 (x2 + x4).toNatClampNeg) (0 : Int32) (0 : Int32) (3 : Int32) σ else (if (σ 102 (x2 + x4).toNatClampNeg) = (99 : Int32) then fm_read_85_102_b320 N (fun x2 x3 x4 σ => fm_read_85_102_b54 N n x2 x3 x4 σ) x2 x3 (x4 + (1 : Int32)) (σ 102 (x2 + x4).toNatClampNeg) (0 : Int32) (0 : Int32) (1 : Int32) σ else fm_read_85_102_b320 N (fun x2 x3 x4 σ => fm_read_85_102_b54 N n x2 x3 x4 σ) x2 x3 (x4 + (1 : Int32)) (σ 102 (x2 + x4).toNatClampNeg) (0 : Int32) (0 : Int32) (2 : Int32) σ)) else some (((x4 + (1 : Int32)) - (1 : Int32)), σ))))))))
set_option maxRecDepth 100000 in
theorem fm_read_85_102_b54_e {X : Nat} {xs : Nat → Int32} {d : Nat} {N : Nat} : ∀ {n : Nat} {x2 : Int32} {x3 : Int32} {x4 : Int32} {w5 : Value} {w6 : Value} {w7 : Value} {w8 : Value} {σ : am_S} {o : Int32 × am_S}, fm_read_85_102_b54 N n x2 x3 x4 σ = some o → am_Ev am_sh (am_exx X xs) (d + 1) mm_153 54 [.ref 85, .ref 102, .int x2, .int x3, .int x4, w5, w6, w7, w8] [] σ (some (.int o.1)) o.2 := by
  intro n
  induction n with
  | zero => intro x2 x3 x4 w5 w6 w7 w8 σ o h; cases h
  | succ n ih =>
    intro x2 x3 x4 w5 w6 w7 w8 σ o h
    unfold fm_read_85_102_b54 at h
    refine ev_iload (pc' := 56) rfl rfl rfl ?_
    refine ev_iload_n (pc' := 57) rfl rfl rfl ?_
    rcases am_if h with ⟨hc1, h⟩ | ⟨hc1, h⟩
    · refine ev_ic_t (pc' := 560) rfl rfl (cb_ge_t hc1) ?_
      refine ev_iconst (pc' := 561) (b := (-1 : Int32)) rfl rfl rfl ?_
      obtain rfl := Option.some.inj h
      exact ev_ireturn rfl rfl
    · refine ev_ic_f (pc' := 60) rfl (by decide) rfl (cb_ge_f hc1) ?_
      refine ev_aload_n (pc' := 61) rfl rfl rfl ?_
      refine ev_iload_n (pc' := 62) rfl rfl rfl ?_
      refine ev_iload (pc' := 64) rfl rfl rfl ?_
      refine ev_iadd (pc' := 65) rfl rfl ?_
      obtain ⟨hg2, h⟩ := am_g_some h
      refine ev_iaload (pc' := 66) rfl rfl rfl hg2 ?_
      refine ev_istore (pc' := 68) (L' := [.ref 85, .ref 102, .int x2, .int x3, .int x4, .int (σ 102 (x2 + x4).toNatClampNeg), w6, w7, w8]) rfl rfl rfl rfl ?_
      refine ev_iinc (pc' := 71) (L' := [.ref 85, .ref 102, .int x2, .int x3, .int (x4 + (1 : Int32)), .int (σ 102 (x2 + x4).toNatClampNeg), w6, w7, w8]) (b := (1 : Int32)) rfl rfl rfl rfl rfl ?_
      refine ev_iconst (pc' := 72) (b := (0 : Int32)) rfl rfl rfl ?_
      refine ev_istore (pc' := 74) (L' := [.ref 85, .ref 102, .int x2, .int x3, .int (x4 + (1 : Int32)), .int (σ 102 (x2 + x4).toNatClampNeg), .int (0 : Int32), w7, w8]) rfl rfl rfl rfl ?_
      refine ev_iconst (pc' := 75) (b := (0 : Int32)) rfl rfl rfl ?_
      refine ev_istore (pc' := 77) (L' := [.ref 85, .ref 102, .int x2, .int x3, .int (x4 + (1 : Int32)), .int (σ 102 (x2 + x4).toNatClampNeg), .int (0 : Int32), .int (0 : Int32), w8]) rfl rfl rfl rfl ?_
      refine ev_iload (pc' := 79) rfl rfl rfl ?_
      rcases am_if h with ⟨hc3, h⟩ | ⟨hc3, h⟩
      · refine ev_tsw (pc' := 297) (off := 218) rfl (by rw [hc3]; decide +kernel) (by rw [hc3]; decide +kernel) rfl ?_
        refine ev_iload (pc' := 299) rfl rfl rfl ?_
        refine ev_bipush (pc' := 301) (b := (107 : Int32)) rfl rfl rfl ?_
        rcases am_if h with ⟨hc4, h⟩ | ⟨hc4, h⟩
        · refine ev_ic_f (pc' := 304) rfl (by decide) rfl (cb_ne_f hc4) ?_
          refine ev_iconst (pc' := 305) (b := (3 : Int32)) rfl rfl rfl ?_
          refine ev_goto (pc' := 320) rfl rfl ?_
          exact fm_read_85_102_b320_e (hk54 := fun h => ih h) h
        · refine ev_ic_t (pc' := 308) rfl rfl (cb_ne_t hc4) ?_
          refine ev_iload (pc' := 310) rfl rfl rfl ?_
          refine ev_bipush (pc' := 312) (b := (99 : Int32)) rfl rfl rfl ?_
          rcases am_if h with ⟨hc5, h⟩ | ⟨hc5, h⟩
          · refine ev_ic_f (pc' := 315) rfl (by decide) rfl (cb_ne_f hc5) ?_
            refine ev_iconst (pc' := 316) (b := (1 : Int32)) rfl rfl rfl ?_
            refine ev_goto (pc' := 320) rfl rfl ?_
            exact fm_read_85_102_b320_e (hk54 := fun h => ih h) h
          · refine ev_ic_t (pc' := 319) rfl rfl (cb_ne_t hc5) ?_
            refine ev_iconst (pc' := 320) (b := (2 : Int32)) rfl rfl rfl ?_
            exact fm_read_85_102_b320_e (hk54 := fun h => ih h) h
      rcases am_if h with ⟨hc6, h⟩ | ⟨hc6, h⟩
      · refine ev_tsw (pc' := 240) (off := 161) rfl (by rw [hc6]; decide +kernel) (by rw [hc6]; decide +kernel) rfl ?_
        refine ev_iload (pc' := 242) rfl rfl rfl ?_
        refine ev_iload_n (pc' := 243) rfl rfl rfl ?_
        rcases am_if h with ⟨hc7, h⟩ | ⟨hc7, h⟩
        · refine ev_ic_t (pc' := 529) rfl rfl (cb_ge_t hc7) ?_
          exact fm_read_85_102_b529_e (hk54 := fun h => ih h) h
        · refine ev_ic_f (pc' := 246) rfl (by decide) rfl (cb_ge_f hc7) ?_
          refine ev_aload_n (pc' := 247) rfl rfl rfl ?_
          refine ev_iload_n (pc' := 248) rfl rfl rfl ?_
          refine ev_iload (pc' := 250) rfl rfl rfl ?_
          refine ev_iadd (pc' := 251) rfl rfl ?_
          obtain ⟨hg8, h⟩ := am_g_some h
          refine ev_iaload (pc' := 252) rfl rfl rfl hg8 ?_
          refine ev_bipush (pc' := 254) (b := (108 : Int32)) rfl rfl rfl ?_
          rcases am_if h with ⟨hc9, h⟩ | ⟨hc9, h⟩
          · refine ev_ic_t (pc' := 268) rfl rfl (cb_eq_t hc9) ?_
            exact fm_read_85_102_b268_e (hk54 := fun h => ih h) h
          · refine ev_ic_f (pc' := 257) rfl (by decide) rfl (cb_eq_f hc9) ?_
            refine ev_aload_n (pc' := 258) rfl rfl rfl ?_
            refine ev_iload_n (pc' := 259) rfl rfl rfl ?_
            refine ev_iload (pc' := 261) rfl rfl rfl ?_
            refine ev_iadd (pc' := 262) rfl rfl ?_
            obtain ⟨hg10, h⟩ := am_g_some h
            refine ev_iaload (pc' := 263) rfl rfl rfl hg10 ?_
            refine ev_bipush (pc' := 265) (b := (115 : Int32)) rfl rfl rfl ?_
            rcases am_if h with ⟨hc11, h⟩ | ⟨hc11, h⟩
            · refine ev_ic_f (pc' := 268) rfl (by decide) rfl (cb_ne_f hc11) ?_
              exact fm_read_85_102_b268_e (hk54 := fun h => ih h) h
            · refine ev_ic_t (pc' := 529) rfl rfl (cb_ne_t hc11) ?_
              exact fm_read_85_102_b529_e (hk54 := fun h => ih h) h
      rcases am_if h with ⟨hc12, h⟩ | ⟨hc12, h⟩
      · refine ev_tsw (pc' := 297) (off := 218) rfl (by rw [hc12]; decide +kernel) (by rw [hc12]; decide +kernel) rfl ?_
        refine ev_iload (pc' := 299) rfl rfl rfl ?_
        refine ev_bipush (pc' := 301) (b := (107 : Int32)) rfl rfl rfl ?_
        rcases am_if h with ⟨hc13, h⟩ | ⟨hc13, h⟩
        · refine ev_ic_f (pc' := 304) rfl (by decide) rfl (cb_ne_f hc13) ?_
          refine ev_iconst (pc' := 305) (b := (3 : Int32)) rfl rfl rfl ?_
          refine ev_goto (pc' := 320) rfl rfl ?_
          exact fm_read_85_102_b320_e (hk54 := fun h => ih h) h
        · refine ev_ic_t (pc' := 308) rfl rfl (cb_ne_t hc13) ?_
          refine ev_iload (pc' := 310) rfl rfl rfl ?_
          refine ev_bipush (pc' := 312) (b := (99 : Int32)) rfl rfl rfl ?_
          rcases am_if h with ⟨hc14, h⟩ | ⟨hc14, h⟩
          · refine ev_ic_f (pc' := 315) rfl (by decide) rfl (cb_ne_f hc14) ?_
            refine ev_iconst (pc' := 316) (b := (1 : Int32)) rfl rfl rfl ?_
            refine ev_goto (pc' := 320) rfl rfl ?_
            exact fm_read_85_102_b320_e (hk54 := fun h => ih h) h
          · refine ev_ic_t (pc' := 319) rfl rfl (cb_ne_t hc14) ?_
            refine ev_iconst (pc' := 320) (b := (2 : Int32)) rfl rfl rfl ?_
            exact fm_read_85_102_b320_e (hk54 := fun h => ih h) h
      rcases am_if h with ⟨hc15, h⟩ | ⟨hc15, h⟩
      · refine ev_tsw (pc' := 168) (off := 89) rfl (by rw [hc15]; decide +kernel) (by rw [hc15]; decide +kernel) rfl ?_
        refine ev_aload_n (pc' := 169) rfl rfl rfl ?_
        refine ev_iconst (pc' := 170) (b := (0 : Int32)) rfl rfl rfl ?_
        refine ev_putfield (pc' := 173) (ci := 11) (f := 55) (z := 0) rfl rfl rfl rfl rfl ?_
        exact fm_read_85_102_b173_e (hk54 := fun h => ih h) h
      rcases am_if h with ⟨hc16, h⟩ | ⟨hc16, h⟩
      · refine ev_tsw (pc' := 297) (off := 218) rfl (by rw [hc16]; decide +kernel) (by rw [hc16]; decide +kernel) rfl ?_
        refine ev_iload (pc' := 299) rfl rfl rfl ?_
        refine ev_bipush (pc' := 301) (b := (107 : Int32)) rfl rfl rfl ?_
        rcases am_if h with ⟨hc17, h⟩ | ⟨hc17, h⟩
        · refine ev_ic_f (pc' := 304) rfl (by decide) rfl (cb_ne_f hc17) ?_
          refine ev_iconst (pc' := 305) (b := (3 : Int32)) rfl rfl rfl ?_
          refine ev_goto (pc' := 320) rfl rfl ?_
          exact fm_read_85_102_b320_e (hk54 := fun h => ih h) h
        · refine ev_ic_t (pc' := 308) rfl rfl (cb_ne_t hc17) ?_
          refine ev_iload (pc' := 310) rfl rfl rfl ?_
          refine ev_bipush (pc' := 312) (b := (99 : Int32)) rfl rfl rfl ?_
          rcases am_if h with ⟨hc18, h⟩ | ⟨hc18, h⟩
          · refine ev_ic_f (pc' := 315) rfl (by decide) rfl (cb_ne_f hc18) ?_
            refine ev_iconst (pc' := 316) (b := (1 : Int32)) rfl rfl rfl ?_
            refine ev_goto (pc' := 320) rfl rfl ?_
            exact fm_read_85_102_b320_e (hk54 := fun h => ih h) h
          · refine ev_ic_t (pc' := 319) rfl rfl (cb_ne_t hc18) ?_
            refine ev_iconst (pc' := 320) (b := (2 : Int32)) rfl rfl rfl ?_
            exact fm_read_85_102_b320_e (hk54 := fun h => ih h) h
      rcases am_if h with ⟨hc19, h⟩ | ⟨hc19, h⟩
      · refine ev_tsw (pc' := 297) (off := 218) rfl (by rw [hc19]; decide +kernel) (by rw [hc19]; decide +kernel) rfl ?_
        refine ev_iload (pc' := 299) rfl rfl rfl ?_
        refine ev_bipush (pc' := 301) (b := (107 : Int32)) rfl rfl rfl ?_
        rcases am_if h with ⟨hc20, h⟩ | ⟨hc20, h⟩
        · refine ev_ic_f (pc' := 304) rfl (by decide) rfl (cb_ne_f hc20) ?_
          refine ev_iconst (pc' := 305) (b := (3 : Int32)) rfl rfl rfl ?_
          refine ev_goto (pc' := 320) rfl rfl ?_
          exact fm_read_85_102_b320_e (hk54 := fun h => ih h) h
        · refine ev_ic_t (pc' := 308) rfl rfl (cb_ne_t hc20) ?_
          refine ev_iload (pc' := 310) rfl rfl rfl ?_
          refine ev_bipush (pc' := 312) (b := (99 : Int32)) rfl rfl rfl ?_
          rcases am_if h with ⟨hc21, h⟩ | ⟨hc21, h⟩
          · refine ev_ic_f (pc' := 315) rfl (by decide) rfl (cb_ne_f hc21) ?_
            refine ev_iconst (pc' := 316) (b := (1 : Int32)) rfl rfl rfl ?_
            refine ev_goto (pc' := 320) rfl rfl ?_
            exact fm_read_85_102_b320_e (hk54 := fun h => ih h) h
          · refine ev_ic_t (pc' := 319) rfl rfl (cb_ne_t hc21) ?_
            refine ev_iconst (pc' := 320) (b := (2 : Int32)) rfl rfl rfl ?_
            exact fm_read_85_102_b320_e (hk54 := fun h => ih h) h
      have hd22 : (σ 102 (x2 + x4).toNatClampNeg).toInt < 99 ∨ 117 < (σ 102 (x2 + x4).toNatClampNeg).toInt ∨ True := Or.inr (Or.inr trivial)
      have hk22 : ∀ (Lq Sq : List Value) (v : Option Value) (σ2 : am_S), am_Ev am_sh (am_exx X xs) (d + 1) mm_153 524 Lq Sq σ v σ2 → am_Ev am_sh (am_exx X xs) (d + 1) mm_153 79 Lq (.int (σ 102 (x2 + x4).toNatClampNeg) :: Sq) σ v σ2 := fun Lq Sq v σ2 hz => by
        by_cases hr : (σ 102 (x2 + x4).toNatClampNeg).toInt < 99 ∨ 117 < (σ 102 (x2 + x4).toNatClampNeg).toInt
        · exact ev_tsd rfl hr rfl hz
        · obtain ⟨j, hj, hx⟩ := am_rg 19 hr (by decide)
          rcases (show j = 0 ∨ j = 1 ∨ j = 2 ∨ j = 3 ∨ j = 4 ∨ j = 5 ∨ j = 6 ∨ j = 7 ∨ j = 8 ∨ j = 9 ∨ j = 10 ∨ j = 11 ∨ j = 12 ∨ j = 13 ∨ j = 14 ∨ j = 15 ∨ j = 16 ∨ j = 17 ∨ j = 18 by omega) with rfl | rfl | rfl | rfl | rfl | rfl | rfl | rfl | rfl | rfl | rfl | rfl | rfl | rfl | rfl | rfl | rfl | rfl | rfl
          · exact absurd (hx.trans (by decide +kernel)) hc3
          · exact absurd (hx.trans (by decide +kernel)) hc6
          · exact ev_tsw (off := 445) rfl hr (by rw [hx]; decide +kernel) rfl hz
          · exact ev_tsw (off := 445) rfl hr (by rw [hx]; decide +kernel) rfl hz
          · exact ev_tsw (off := 445) rfl hr (by rw [hx]; decide +kernel) rfl hz
          · exact ev_tsw (off := 445) rfl hr (by rw [hx]; decide +kernel) rfl hz
          · exact ev_tsw (off := 445) rfl hr (by rw [hx]; decide +kernel) rfl hz
          · exact ev_tsw (off := 445) rfl hr (by rw [hx]; decide +kernel) rfl hz
          · exact absurd (hx.trans (by decide +kernel)) hc12
          · exact ev_tsw (off := 445) rfl hr (by rw [hx]; decide +kernel) rfl hz
          · exact ev_tsw (off := 445) rfl hr (by rw [hx]; decide +kernel) rfl hz
          · exact ev_tsw (off := 445) rfl hr (by rw [hx]; decide +kernel) rfl hz
          · exact ev_tsw (off := 445) rfl hr (by rw [hx]; decide +kernel) rfl hz
          · exact absurd (hx.trans (by decide +kernel)) hc15
          · exact ev_tsw (off := 445) rfl hr (by rw [hx]; decide +kernel) rfl hz
          · exact ev_tsw (off := 445) rfl hr (by rw [hx]; decide +kernel) rfl hz
          · exact absurd (hx.trans (by decide +kernel)) hc16
          · exact ev_tsw (off := 445) rfl hr (by rw [hx]; decide +kernel) rfl hz
          · exact absurd (hx.trans (by decide +kernel)) hc19
      refine hk22 _ _ _ _ ?_
      refine ev_iload (pc' := 526) rfl rfl rfl ?_
      refine ev_iconst (pc' := 527) (b := (1 : Int32)) rfl rfl rfl ?_
      refine ev_isub (pc' := 528) rfl rfl ?_
      obtain rfl := Option.some.inj h
      exact ev_ireturn rfl rfl
def fm_read_85_102 (N : Nat) (a2 : Int32) (a3 : Int32) (σ : am_S) : Option (Int32 × am_S) := am_g (am_in (0 : Int32) 4) <| am_g (am_in (1 : Int32) 4) <| fm_read_85_102_b54 N N a2 a3 (0 : Int32) (am_up (am_up (am_up (am_up (am_up (am_up (am_up (am_up σ 125 (0 : Int32).toNatClampNeg (104 : Int32)) 125 (1 : Int32).toNatClampNeg (98 : Int32)) 85 55 (2 : Int32)) 85 56 (400 : Int32)) 85 57 (50 : Int32)) 85 58 (0 : Int32)) 85 59 (9 : Int32)) 85 60 (12 : Int32))
set_option maxRecDepth 100000 in
theorem fm_read_85_102_e {X : Nat} {xs : Nat → Int32} {d : Nat} {N : Nat} {a2 : Int32} {a3 : Int32} {σ : am_S} {o : Int32 × am_S} (h : fm_read_85_102 N a2 a3 σ = some o) : am_Ev am_sh (am_exx X xs) (d + 1) mm_153 0 [.ref 85, .ref 102, .int a2, .int a3, .null, .null, .null, .null, .null] [] σ (some (.int o.1)) o.2 := by
  unfold fm_read_85_102 at h
  refine ev_aload_n (pc' := 1) rfl rfl rfl ?_
  refine ev_getfield (pc' := 4) (w := .ref 125) rfl rfl rfl rfl ?_
  refine ev_iconst (pc' := 5) (b := (0 : Int32)) rfl rfl rfl ?_
  refine ev_bipush (pc' := 7) (b := (104 : Int32)) rfl rfl rfl ?_
  obtain ⟨hg1, h⟩ := am_g_some h
  refine ev_iastore (pc' := 8) rfl rfl rfl hg1 ?_
  refine ev_aload_n (pc' := 9) rfl rfl rfl ?_
  refine ev_getfield (pc' := 12) (w := .ref 125) rfl rfl rfl rfl ?_
  refine ev_iconst (pc' := 13) (b := (1 : Int32)) rfl rfl rfl ?_
  refine ev_bipush (pc' := 15) (b := (98 : Int32)) rfl rfl rfl ?_
  obtain ⟨hg2, h⟩ := am_g_some h
  refine ev_iastore (pc' := 16) rfl rfl rfl hg2 ?_
  refine ev_aload_n (pc' := 17) rfl rfl rfl ?_
  refine ev_iconst (pc' := 18) (b := (2 : Int32)) rfl rfl rfl ?_
  refine ev_putfield (pc' := 21) (ci := 11) (f := 55) (z := 0) rfl rfl rfl rfl rfl ?_
  refine ev_aload_n (pc' := 22) rfl rfl rfl ?_
  refine ev_sipush (pc' := 25) (b := (400 : Int32)) rfl rfl rfl ?_
  refine ev_putfield (pc' := 28) (ci := 11) (f := 56) (z := 0) rfl rfl rfl rfl rfl ?_
  refine ev_aload_n (pc' := 29) rfl rfl rfl ?_
  refine ev_bipush (pc' := 31) (b := (50 : Int32)) rfl rfl rfl ?_
  refine ev_putfield (pc' := 34) (ci := 11) (f := 57) (z := 0) rfl rfl rfl rfl rfl ?_
  refine ev_aload_n (pc' := 35) rfl rfl rfl ?_
  refine ev_iconst (pc' := 36) (b := (0 : Int32)) rfl rfl rfl ?_
  refine ev_putfield (pc' := 39) (ci := 11) (f := 58) (z := 0) rfl rfl rfl rfl rfl ?_
  refine ev_aload_n (pc' := 40) rfl rfl rfl ?_
  refine ev_bipush (pc' := 42) (b := (9 : Int32)) rfl rfl rfl ?_
  refine ev_putfield (pc' := 45) (ci := 11) (f := 59) (z := 0) rfl rfl rfl rfl rfl ?_
  refine ev_aload_n (pc' := 46) rfl rfl rfl ?_
  refine ev_bipush (pc' := 48) (b := (12 : Int32)) rfl rfl rfl ?_
  refine ev_putfield (pc' := 51) (ci := 11) (f := 60) (z := 0) rfl rfl rfl rfl rfl ?_
  refine ev_iconst (pc' := 52) (b := (0 : Int32)) rfl rfl rfl ?_
  refine ev_istore (pc' := 54) (L' := [.ref 85, .ref 102, .int a2, .int a3, .int (0 : Int32), .null, .null, .null, .null]) rfl rfl rfl rfl ?_
  exact fm_read_85_102_b54_e h
