/-! ===== calls that change little: helpers ===== -/
def hsE (x : Int32) (n : Nat) : Int32 := if x < 0 then 0 else if nI n ≤ x then 0 else 1
theorem hsE_c (x : Int32) (n : Nat) (hn : n < 2 ^ 31) : hsE x n = 0 ∨ ∃ j, j < n ∧ x = nI j ∧ hsE x n = 1 := hb_has (rfl : nI n = nI n) hn
theorem hx_p {σ : am_S} {n : Nat} (x : Int32) (h : σ 1 11 = nI n) : fx_Land_hasParish x σ = hsE x n := by unfold fx_Land_hasParish hsE; rw [h]
theorem hm_p {σ : am_S} {n : Nat} (x : Int32) (h : σ 85 1 = nI n) : fm_isParish x σ = hsE x n := by unfold fm_isParish hsE; rw [h]
theorem hx_q {σ : am_S} {n : Nat} (x : Int32) (h : σ 13 7 = nI n) : fx_People_hasPerson x σ = hsE x n := by unfold fx_People_hasPerson hsE; rw [h]
theorem hm_q {σ : am_S} {n : Nat} (x : Int32) (h : σ 85 14 = nI n) : fm_isPerson x σ = hsE x n := by unfold fm_isPerson hsE; rw [h]
theorem hx_t {σ : am_S} {n : Nat} (x : Int32) (h : σ 34 6 = nI n) : fx_Estate_hasThing x σ = hsE x n := by unfold fx_Estate_hasThing hsE; rw [h]
theorem hm_t {σ : am_S} {n : Nat} (x : Int32) (h : σ 85 26 = nI n) : fm_isThing x σ = hsE x n := by unfold fm_isThing hsE; rw [h]
theorem hx_w {σ : am_S} {n : Nat} (x : Int32) (h : σ 48 4 = nI n) : fx_Wagons_hasWagon x σ = hsE x n := by unfold fx_Wagons_hasWagon hsE; rw [h]
theorem hm_w {σ : am_S} {n : Nat} (x : Int32) (h : σ 85 37 = nI n) : fm_isWagon x σ = hsE x n := by unfold fm_isWagon hsE; rw [h]
theorem hx_c {σ : am_S} {n : Nat} (x : Int32) (h : σ 73 4 = nI n) : fx_Cases_hasCase x σ = hsE x n := by unfold fx_Cases_hasCase hsE; rw [h]
theorem hm_c {σ : am_S} {n : Nat} (x : Int32) (h : σ 85 42 = nI n) : fm_isCase x σ = hsE x n := by unfold fm_isCase hsE; rw [h]
theorem hx_k {σ : am_S} {n : Nat} (x : Int32) (h : σ 78 4 = nI n) : fx_Tasks_hasTask x σ = hsE x n := by unfold fx_Tasks_hasTask hsE; rw [h]
theorem hm_k {σ : am_S} {n : Nat} (x : Int32) (h : σ 85 47 = nI n) : fm_isTask x σ = hsE x n := by unfold fm_isTask hsE; rw [h]
def zoE (x : Int32) : Int32 := if x = 0 then 1 else if x = 1 then 1 else 0
theorem zoE_c (x : Int32) : zoE x = 0 ∨ ((x = 0 ∨ x = 1) ∧ zoE x = 1) := by
  unfold zoE
  by_cases c0 : x = 0
  · exact Or.inr ⟨Or.inl c0, if_pos c0⟩
  · rw [if_neg c0]
    by_cases c1 : x = 1
    · exact Or.inr ⟨Or.inr c1, if_pos c1⟩
    · exact Or.inl (if_neg c1)
theorem zx_x (x : Int32) (σ : am_S) : fx_isZeroOrOne x σ = zoE x := rfl
theorem zx_s (x : Int32) (σ : am_S) : fm_isSide x σ = zoE x := rfl
def inE (x lo hi : Int32) : Int32 := if x < lo then 0 else if hi < x then 0 else 1
theorem inE_c (x lo hi : Int32) : (inE x lo hi = 0 ∧ (x < lo ∨ hi < x)) ∨ (inE x lo hi = 1 ∧ ¬ x < lo ∧ ¬ hi < x) := by
  unfold inE
  by_cases c0 : x < lo
  · exact Or.inl ⟨if_pos c0, Or.inl c0⟩
  · rw [if_neg c0]
    by_cases c1 : hi < x
    · exact Or.inl ⟨if_pos c1, Or.inr c1⟩
    · exact Or.inr ⟨if_neg c1, c0, c1⟩
theorem in_m (x lo hi : Int32) (σ : am_S) : fm_isIn x lo hi σ = inE x lo hi := rfl
theorem zx_i (x : Int32) : inE x 0 1 = zoE x := by
  unfold zoE
  by_cases c0 : x = 0
  · subst c0; rfl
  · rw [if_neg c0]
    by_cases c1 : x = 1
    · subst c1; rfl
    · rw [if_neg c1]
      rcases inE_c x 0 1 with h | ⟨_, l, g⟩
      · exact h.1
      · exfalso
        have r1 : ¬ x.toInt < 0 := fun q => l ((fa_lt _ _).2 q)
        have r2 : ¬ 1 < x.toInt := fun q => g ((fa_lt _ _).2 q)
        have r3 : x.toInt ≠ 0 := fun q => c0 ((fa_eq _ _).2 q)
        have r4 : x.toInt ≠ 1 := fun q => c1 ((fa_eq _ _).2 q)
        omega
theorem in_nat {x : Int32} {hi : Nat} (hh : hi < 2 ^ 31) (h0 : ¬ x < 0) (h1 : ¬ nI hi < x) : okc x hi := by
  obtain ⟨j, a, b⟩ := nI_of h0
  refine ⟨j, ?_, b⟩
  rw [b] at h1
  exact Classical.byContradiction fun q => h1 (nI_lt (by omega) (by omega))
theorem ng {x y : Int32} : x ≤ y ↔ ¬ y < x := by rw [fa_le, fa_lt]; omega
theorem tw1 {f g : am_S → Option (Int32 × am_S)} {σ : am_S} (h : R σ) (hf : f σ = some (-1000000001, fnd 1 σ)) (hg : g (fnd 1 σ) = some (-1000000001, fmd 1 (fnd 1 σ))) : tw f g σ := tw_f 1 h hf hg
theorem tw2 {f g : am_S → Option (Int32 × am_S)} {σ : am_S} (h : R σ) (hf : f σ = some (-1000000002, fnd 2 σ)) (hg : g (fnd 2 σ) = some (-1000000002, fmd 2 (fnd 2 σ))) : tw f g σ := tw_f 2 h hf hg
theorem tw3 {f g : am_S → Option (Int32 × am_S)} {σ : am_S} (h : R σ) (hf : f σ = some (-1000000003, fnd 3 σ)) (hg : g (fnd 3 σ) = some (-1000000003, fmd 3 (fnd 3 σ))) : tw f g σ := tw_f 3 h hf hg
theorem tw4 {f g : am_S → Option (Int32 × am_S)} {σ : am_S} (h : R σ) (hf : f σ = some (-1000000004, fnd 4 σ)) (hg : g (fnd 4 σ) = some (-1000000004, fmd 4 (fnd 4 σ))) : tw f g σ := tw_f 4 h hf hg
theorem tw5 {f g : am_S → Option (Int32 × am_S)} {σ : am_S} (h : R σ) (hf : f σ = some (-1000000005, fnd 5 σ)) (hg : g (fnd 5 σ) = some (-1000000005, fmd 5 (fnd 5 σ))) : tw f g σ := tw_f 5 h hf hg
/-- more parishes -/
theorem rL_n {n e p : Nat} {st se A B Dd py : Nat → Int32} (h : rL n e p st se A B Dd py) (hn : n < 12) : rL (n + 1) e p st se A B Dd py := by
  obtain ⟨a1, a2, a3, a4, a5, a6, a7, a8⟩ := h
  refine ⟨by omega, a2, a3, a4, ?_, ?_, a7, a8⟩
  · intro i
    obtain ⟨s, b1, b2⟩ := a5 i
    exact ⟨s, b1, by omega⟩
  · intro k hk
    obtain ⟨b1, b2, b3, b4, b5, b6, b7, b8⟩ := a6 k hk
    exact ⟨b1, b2, b3, by omega, by omega, b6, b7, b8⟩
theorem rP_n {n pe : Nat} {bi ho fm sm ch hd : Nat → Int32} (h : rP n pe bi ho fm sm ch hd) : rP (n + 1) pe bi ho fm sm ch hd := by
  obtain ⟨a1, a2, a3⟩ := h
  refine ⟨a1, fun i hi => ?_, a3⟩
  obtain ⟨⟨a, b1, b2⟩, ⟨b, b3, b4⟩, b5⟩ := a2 i hi
  exact ⟨⟨a, by omega, b2⟩, ⟨b, by omega, b4⟩, b5⟩
theorem rE_n {n th ti : Nat} {K PL W CP A B : Nat → Int32} (h : rE n th ti K PL W CP A B) : rE (n + 1) th ti K PL W CP A B := by
  obtain ⟨a1, a2, a3⟩ := h
  refine ⟨a1, fun i hi => ⟨fun q => ?_, (a2 i hi).2⟩, a3⟩
  obtain ⟨a, b1, b2⟩ := (a2 i hi).1 q
  exact ⟨a, by omega, b2⟩
theorem rG_n {n wa : Nat} {σ : am_S} (h : rG n wa σ) : rG (n + 1) wa σ := by
  obtain ⟨a1, a2, a3⟩ := h
  refine ⟨a1, fun w hw => ?_, a3⟩
  obtain ⟨b1, c, b2, b3, b4, b5⟩ := a2 w hw
  refine ⟨b1, c, b2, b3, b4, fun k hk => ?_⟩
  obtain ⟨d1, ⟨a, d2, d3⟩, d4⟩ := b5 k hk
  exact ⟨d1, ⟨a, by omega, d3⟩, d4⟩
theorem rCa_n {n pe th ca : Nat} {co ps pp K : Nat → Int32} (h : rCa n pe th ca co ps pp K) : rCa (n + 1) pe th ca co ps pp K := by
  obtain ⟨a1, a2⟩ := h
  refine ⟨a1, fun i hi => ?_⟩
  obtain ⟨⟨a, b1, b2⟩, b3⟩ := a2 i hi
  exact ⟨⟨a, by omega, b2⟩, b3⟩

theorem C_parish {σ : am_S} (a1 a2 : Int32) (h : R σ) : tw (fx_parish a1 a2) (fm_parish a1 a2) σ := by
  by_cases m1 : (if a1 < 0 then (0 : Int32) else if 99 < a1 then 0 else 1) = 0
  · refine tw1 h ?_ ?_
    · unfold fx_parish fx_parish_b14 fx_Land_isOnMap; rw [if_pos m1, fx_f1]; rfl
    · unfold fm_parish fm_parish_b20 fm_isIn; rw [if_pos m1, fm_f1]; rfl
  · by_cases m2 : (if a2 < 0 then (0 : Int32) else if 99 < a2 then 0 else 1) = 0
    · refine tw1 h ?_ ?_
      · unfold fx_parish fx_parish_b14 fx_Land_isOnMap; rw [if_neg m1, if_pos m2, fx_f1]; rfl
      · unfold fm_parish fm_parish_b20 fm_isIn; rw [if_neg m1, if_pos m2, fm_f1]; rfl
    · obtain ⟨n, e, p, pe, th, ti, wa, ca, ta, dd, wt, tl, cn, ce, cp, cpe, cth, cti, cwa, cca, cta, cdy, cwt, ctl, f1_11, f1_12, f1_13, f13_7, f22_2, f21_6, f34_6, f34_7, f47_2, f47_3, f48_4, f73_4, f78_4, f0_11, f0_12, f47_0, f47_1, r2, r3, r4, r5, r6, r7, r8, r9, r10, r11, r14, r15, r18, r19, r20, r23, r35, r36, r37, r38, r39, r40, r49, r50, r74, r75, r76, r77, r79, r80, r84, hM, hL, hP, hE, hW, hG, hC, hT, hD, hX0, hX1, hX2, hK⟩ := h.1
      have hn12 := hL.1
      have m85 : σ 85 1 = nI n := by rw [← f1_11]; exact cn
      by_cases q : n < 12
      · refine ⟨nI n, am_up (am_up (am_up σ 2 n a1) 3 n a2) 1 11 (nI (n + 1)), am_up (am_up (am_up (am_up (am_up (am_up σ 2 n a1) 3 n a2) 1 11 (nI (n + 1))) 86 n a1) 87 n a2) 85 1 (nI (n + 1)), ?_, ?_, ?_, ?_⟩
        · unfold fx_parish fx_Land_isOnMap fx_Land_addParish
          rw [if_neg m1, if_neg m2, cn, if_pos (by rw [hb_L12]; exact nI_lt q (by decide)), hb_g q (by decide), hb_g q (by decide), hb_bind, nI_clamp (by omega), nI_1, nI_pred]
        · unfold fm_parish fm_isIn
          rw [if_neg m1, if_neg m2, hb_up_ne (by decide), hb_up_ne (by decide), hb_up_ne (by decide), m85, if_neg (by rw [hb_L12, nI_eq (by omega) (by decide)]; omega), hb_g q (by decide), hb_g q (by decide), nI_clamp (by omega), nI_1, nI_pred]
        · exact ⟨n + 1, e, p, pe, th, ti, wa, ca, ta, dd, wt, tl, rfl, ce, cp, cpe, cth, cti, cwa, cca, cta, cdy, cwt, ctl, rfl, f1_12, f1_13, f13_7, f22_2, f21_6, f34_6, f34_7, f47_2, f47_3, f48_4, f73_4, f78_4, f0_11, f0_12, f47_0, f47_1, congrArg (fun f => upd f n a1) r2, congrArg (fun f => upd f n a2) r3, r4, r5, r6, r7, r8, r9, r10, r11, r14, r15, r18, r19, r20, r23, r35, r36, r37, r38, r39, r40, r49, r50, r74, r75, r76, r77, r79, r80, r84, hM, rL_n hL q, rP_n hP, rE_n hE, hW, (by repeat (first | exact rG_n hG | refine rG_up (by decide) ?_)), rCa_n hC, hT, hD, hX0, hX1, hX2, hK⟩
        · exact h.2
      · refine tw4 h ?_ ?_
        · unfold fx_parish fx_Land_isOnMap
          rw [if_neg m1, if_neg m2, cn, if_neg (by rw [hb_L12]; exact nI_nlt (by omega) (by omega)), fx_f4]; rfl
        · unfold fm_parish fm_isIn
          have e : fnd 4 σ 85 1 = nI n := m85
          rw [if_neg m1, if_neg m2, e, if_pos (by rw [hb_L12, nI_eq (by omega) (by decide)]; omega), fm_f4]; rfl
