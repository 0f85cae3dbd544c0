/-! check: the day-book of whose -/
def ck (wt pe : Nat) (f d : Nat → Int32) : Nat → Nat → Int32
  | 0, _ => 0
  | r + 1, k => if wt ≤ k then 0 else if pe ≤ k then nI (k + 1) else if f k = d k then ck wt pe f d r (k + 1) else nI (k + 1)
theorem ow_85 {p k i : Nat} {σ : am_S} {x ld : Int32} : ∀ gs, ow p (am_up σ 85 k x) ld i gs = ow p σ ld i gs := by
  intro gs
  induction gs with
  | nil => rfl
  | cons g gs ih => rw [ow, ow, ih]; rfl
theorem ct_v {N : Nat} {σ : am_S} {a1 : Int32} (z : a1 = 0 ∨ a1 = 1 ∨ a1 = 2 ∨ a1 = 3 ∨ a1 = 4 ∨ a1 = 5 ∨ a1 = 6 ∨ a1 = 7 ∨ a1 = 8 ∨ a1 = 9 ∨ a1 = 10 ∨ a1 = 11) : ∃ v, fx_count N a1 σ = some (v, σ) := by
  rcases z with z | z | z | z | z | z | z | z | z | z | z | z <;> (subst z; exact ⟨_, rfl⟩)
theorem ct_eq {N : Nat} {σ : am_S} {a1 : Int32} (h : R0 σ) (z : a1 = 0 ∨ a1 = 1 ∨ a1 = 2 ∨ a1 = 3 ∨ a1 = 4 ∨ a1 = 5 ∨ a1 = 6 ∨ a1 = 7 ∨ a1 = 8 ∨ a1 = 9 ∨ a1 = 10 ∨ a1 = 11) : fm_count N a1 σ = fx_count N a1 σ := by
  have st : σ 1 11 = σ 85 1 ∧ σ 1 12 = σ 85 5 ∧ σ 1 13 = σ 85 10 ∧ σ 13 7 = σ 85 14 ∧ σ 34 6 = σ 85 26 ∧ σ 34 7 = σ 85 31 ∧ σ 48 4 = σ 85 37 ∧ σ 73 4 = σ 85 42 ∧ σ 78 4 = σ 85 47 ∧ σ 22 2 = σ 85 22 ∧ σ 0 12 = σ 85 0 ∧ σ 0 11 = σ 85 50 := by
    obtain ⟨n, e, p, pe, th, ti, wa, ca, ta, dd, wt, tl, cn, ce, cp, cpe, cth, cti, cwa, cca, cta, cdy, cwt, ctl, f1_11, f1_12, f1_13, f13_7, f22_2, f21_6, f34_6, f34_7, f47_2, f47_3, f48_4, f73_4, f78_4, f0_11, f0_12, f47_0, f47_1, r2, r3, r4, r5, r6, r7, r8, r9, r10, r11, r14, r15, r18, r19, r20, r23, r35, r36, r37, r38, r39, r40, r49, r50, r74, r75, r76, r77, r79, r80, r84, hM, hL, hP, hE, hW, hG, hC, hT, hD, hX0, hX1, hX2, hK⟩ := h
    exact ⟨f1_11, f1_12, f1_13, f13_7, f34_6, f34_7, f48_4, f73_4, f78_4, f22_2, f0_12, f0_11⟩
  obtain ⟨g0, g1, g2, g3, g4, g5, g6, g7, g8, g9, g10, g11⟩ := st
  have pr : ∀ x y : Int32, x = y → some (y, σ) = some (x, σ) := fun x y h => by rw [h]
  rcases z with z | z | z | z | z | z | z | z | z | z | z | z
  · subst z; exact pr _ _ g0
  · subst z; exact pr _ _ g1
  · subst z; exact pr _ _ g2
  · subst z; exact pr _ _ g3
  · subst z; exact pr _ _ g4
  · subst z; exact pr _ _ g5
  · subst z; exact pr _ _ g6
  · subst z; exact pr _ _ g7
  · subst z; exact pr _ _ g8
  · subst z; exact pr _ _ g9
  · subst z; exact pr _ _ g10
  · subst z; exact pr _ _ g11
theorem ck_x {N wt pe : Nat} {f : Nat → Int32} {σ : am_S} (hw : wt ≤ 16) (h1 : σ 13 7 = nI pe) (hp : pe ≤ 16) (hf : ∀ k, k < pe → fx_People_ownerBy N (nI k) σ = some (f k)) : ∀ r k q, wt ≤ k + r → k ≤ wt → r < q → fx_check_b12 N q (nI wt) (nI k) σ = some (ck wt pe f (σ 84) (r + 1) k, σ) := by
  intro r
  induction r with
  | zero =>
    intro k q a1 a2 a3
    obtain ⟨q, rfl⟩ : ∃ m, q = m + 1 := ⟨q - 1, by omega⟩
    rw [fx_check_b12, if_pos (nI_le (by omega) (by omega)), ck, if_pos (by omega)]
  | succ r ih =>
    intro k q a1 a2 a3
    obtain ⟨q, rfl⟩ : ∃ m, q = m + 1 := ⟨q - 1, by omega⟩
    rw [fx_check_b12, ck]
    by_cases z : wt ≤ k
    · rw [if_pos (nI_le (by omega) (by omega)), if_pos z]
    · rw [if_neg (nI_ge (by omega) (by omega)), if_neg z, hx_q _ h1]
      unfold fx_check_b56
      have e1 : (1 : Int32) + nI k = nI (k + 1) := by rw [Int32.add_comm, nI_1]
      by_cases y : pe ≤ k
      · have c1 : hsE (nI k) pe = 0 := by unfold hsE; rw [if_neg (nI_pos (by omega)), if_pos (nI_le (by omega) (by omega))]
        rw [if_pos c1, if_pos y, e1]
      · have c1 : ¬ hsE (nI k) pe = 0 := by unfold hsE; rw [if_neg (nI_pos (by omega)), if_neg (nI_ge (by omega) (by omega))]; decide
        rw [if_neg c1, if_neg y, hf k (by omega), hb_bind, hb_g (by omega) (by decide), nI_clamp (by omega), e1, nI_1, ih (k + 1) q (by omega) (by omega) (by omega)]
        by_cases w : f k = σ 84 k
        · rw [if_pos w, if_pos w]
        · rw [if_neg w, if_neg w]
theorem ck_m {N wt pe : Nat} {f : Nat → Int32} {σ : am_S} (hw : wt ≤ 16) (h1 : σ 85 14 = nI pe) (hp : pe ≤ 16) (hf : ∀ k, k < pe → fm_whoseBy N (nI k) σ = some (f k)) : ∀ r k q, wt ≤ k + r → k ≤ wt → r < q → fm_check_b18 N q (nI wt) (nI k) σ = some (ck wt pe f (σ 122) (r + 1) k, σ) := by
  intro r
  induction r with
  | zero =>
    intro k q a1 a2 a3
    obtain ⟨q, rfl⟩ : ∃ m, q = m + 1 := ⟨q - 1, by omega⟩
    rw [fm_check_b18, if_pos (nI_le (by omega) (by omega)), ck, if_pos (by omega)]
  | succ r ih =>
    intro k q a1 a2 a3
    obtain ⟨q, rfl⟩ : ∃ m, q = m + 1 := ⟨q - 1, by omega⟩
    rw [fm_check_b18, ck]
    by_cases z : wt ≤ k
    · rw [if_pos (nI_le (by omega) (by omega)), if_pos z]
    · rw [if_neg (nI_ge (by omega) (by omega)), if_neg z, h1]
      unfold fm_check_b45
      have e1 : (1 : Int32) + nI k = nI (k + 1) := by rw [Int32.add_comm, nI_1]
      by_cases y : pe ≤ k
      · rw [if_pos (nI_le (by omega) (by omega)), if_pos y, e1]
      · rw [if_neg (nI_ge (by omega) (by omega)), if_neg y, hb_g (by omega) (by decide), hf k (by omega), hb_bind, nI_clamp (by omega), e1, nI_1, ih (k + 1) q (by omega) (by omega) (by omega)]
        by_cases w : f k = σ 122 k
        · rw [if_pos w.symm, if_pos w]
        · rw [if_neg (fun u => w u.symm), if_neg w]
theorem C_check {N : Nat} {σ : am_S} (hN : 20000 ≤ N) (h : R σ) : tw (fx_check N) (fm_check N) σ := by
  have st : ∃ n e p pe wt : Nat, R_all n e p pe σ ∧ σ 0 11 = nI wt ∧ σ 85 50 = nI wt ∧ wt ≤ 16 ∧ σ 84 = σ 122 ∧ R (am_up (am_up σ 0 11 0) 85 50 0) := by
    obtain ⟨n, e, p, pe, th, ti, wa, ca, ta, dd, wt, tl, cn, ce, cp, cpe, cth, cti, cwa, cca, cta, cdy, cwt, ctl, f1_11, f1_12, f1_13, f13_7, f22_2, f21_6, f34_6, f34_7, f47_2, f47_3, f48_4, f73_4, f78_4, f0_11, f0_12, f47_0, f47_1, r2, r3, r4, r5, r6, r7, r8, r9, r10, r11, r14, r15, r18, r19, r20, r23, r35, r36, r37, r38, r39, r40, r49, r50, r74, r75, r76, r77, r79, r80, r84, hM, hL, hP, hE, hW, hG, hC, hT, hD, hX0, hX1, hX2, hK⟩ := h.1
    refine ⟨n, e, p, pe, wt, ⟨⟨cn, ce, cp, hL, by rw [← f1_11]; exact cn, by rw [← f1_12]; exact ce, by rw [← f1_13]; exact cp, r2, r3, r4, r5, r6, r7, r8, r9, r10, r11⟩, ⟨cpe, by rw [← f13_7]; exact cpe, hP, hM, r14, r15, r18, r19, r20⟩, hX0, hX1, hX2⟩, cwt, by rw [← f0_11]; exact cwt, hD.2.1, r84, ?_, ?_⟩
    · exact ⟨n, e, p, pe, th, ti, wa, ca, ta, dd, 0, tl, cn, ce, cp, cpe, cth, cti, cwa, cca, cta, cdy, rfl, ctl, f1_11, f1_12, f1_13, f13_7, f22_2, f21_6, f34_6, f34_7, f47_2, f47_3, f48_4, f73_4, f78_4, rfl, f0_12, f47_0, f47_1, r2, r3, r4, r5, r6, r7, r8, r9, r10, r11, r14, r15, r18, r19, r20, r23, r35, r36, r37, r38, r39, r40, r49, r50, r74, r75, r76, r77, r79, r80, r84, hM, hL, hP, hE, hW, (by repeat (first | exact hG | refine rG_up (by decide) ?_)), hC, hT, ⟨hD.1, Nat.zero_le _, hD.2.2⟩, hX0, hX1, hX2, hK⟩
    · exact h.2
  obtain ⟨n, e, p, pe, wt, ha, w1, w2, w3, r84, hR⟩ := st
  have l3 := ha.2.1.2.2.1.1
  have ha1 : R_all n e p pe (am_up σ 0 11 0) := ha
  have ha2 : R_all n e p pe (am_up (am_up σ 0 11 0) 85 50 0) := ha
  obtain ⟨F, f1, f2, f3⟩ := lw_rd (N := N) hN ha2
  have f1' : rgF F (am_up σ 0 11 0 31) (am_up σ 0 11 0 33) := f1
  obtain ⟨τ2, t1, t2, t3⟩ := f3 _ (Or.inl (sc_refl _))
  have s2 := rm_sc t2
  have hx := ck_x (N := N) (σ := am_up σ 0 11 0) (f := fun k => ow p (am_up (am_up σ 0 11 0) 85 50 0) F.2.1 k F.1) w3 ha1.2.1.1 l3 (fun k hk => by
    rw [ob_31 (N := N) hN ha1 hk f1' f2]
    exact congrArg some (ow_85 _).symm) 16 0 N (by omega) (by omega) (by omega)
  have hm := ck_m (N := N) (σ := τ2) (f := fun k => ow p (am_up (am_up σ 0 11 0) 85 50 0) F.2.1 k F.1) w3 (R_all_sc s2 ha2).2.1.2.1 l3 (fun k hk => by
    rw [ob_m (N := N) hN (R_all_sc s2 ha2) hk t3 f2, ow_sc s2]) 16 0 N (by omega) (by omega) (by omega)
  have e84 : τ2 122 = am_up σ 0 11 0 84 := by
    rw [t2.1 122 (by decide) (by decide)]
    show σ 122 = σ 84
    exact r84.symm
  rw [e84] at hm
  refine ⟨ck wt pe (fun k => ow p (am_up (am_up σ 0 11 0) 85 50 0) F.2.1 k F.1) (am_up σ 0 11 0 84) 17 0, am_up σ 0 11 0, τ2, ?_, ?_, R_sc s2 hR⟩
  · unfold fx_check; rw [w1]; exact hx
  · unfold fm_check
    rw [t1, hb_bind]
    have z : am_up σ 0 11 0 85 50 = nI wt := w2
    rw [z]; exact hm
/-! counting enclaves and nobody's -/
def cs (n : Nat) (f : Nat → Int32) : Nat → Nat → Int32 → Int32
  | 0, _, x => x
  | r + 1, k, x => if n ≤ k then x else cs n f r (k + 1) (x + f k)
theorem cs_ex {N n e p : Nat} {σ : am_S} (hN : 20000 ≤ N) (h : ld_ok n e p σ) : ∀ r k q x, n ≤ k + r → k ≤ n → r < q → fx_Land_enclaves_b4 N q x (nI k) σ = some (cs n (ld_en n e p σ) (r + 1) k x) := by
  have l1 := h.2.2.2.1.1
  intro r
  induction r with
  | zero =>
    intro k q x a1 a2 a3
    obtain ⟨q, rfl⟩ : ∃ m, q = m + 1 := ⟨q - 1, by omega⟩
    rw [fx_Land_enclaves_b4, h.1, if_pos (nI_le (by omega) (by omega)), cs, if_pos (by omega)]
  | succ r ih =>
    intro k q x a1 a2 a3
    obtain ⟨q, rfl⟩ : ∃ m, q = m + 1 := ⟨q - 1, by omega⟩
    rw [fx_Land_enclaves_b4, cs, h.1]
    by_cases z : n ≤ k
    · rw [if_pos (nI_le (by omega) (by omega)), if_pos z]
    · rw [if_neg (nI_ge (by omega) (by omega)), if_neg z, en_x hN h (by omega), hb_bind]
      unfold fx_Land_enclaves_b23
      rw [nI_1]
      rcases en_01 (n := n) (e := e) (p := p) (σ := σ) k with y | y
      · rw [y, if_pos rfl, Int32.add_zero]; exact ih (k + 1) q x (by omega) (by omega) (by omega)
      · rw [y, if_neg (by decide)]; exact ih (k + 1) q (x + 1) (by omega) (by omega) (by omega)
theorem cs_em {N n e p : Nat} {σ : am_S} (hN : 20000 ≤ N) (h : ld_ok n e p σ) : ∀ r k q x, n ≤ k + r → k ≤ n → r < q → fm_count_b134 N q x (nI k) σ = some (cs n (ld_en n e p σ) (r + 1) k x, σ) := by
  have l1 := h.2.2.2.1.1
  intro r
  induction r with
  | zero =>
    intro k q x a1 a2 a3
    obtain ⟨q, rfl⟩ : ∃ m, q = m + 1 := ⟨q - 1, by omega⟩
    rw [fm_count_b134, h.2.2.2.2.1, if_pos (nI_le (by omega) (by omega)), cs, if_pos (by omega)]
  | succ r ih =>
    intro k q x a1 a2 a3
    obtain ⟨q, rfl⟩ : ∃ m, q = m + 1 := ⟨q - 1, by omega⟩
    rw [fm_count_b134, cs, h.2.2.2.2.1]
    by_cases z : n ≤ k
    · rw [if_pos (nI_le (by omega) (by omega)), if_pos z]
    · rw [if_neg (nI_ge (by omega) (by omega)), if_neg z, en_m hN h (by omega), hb_bind]
      unfold fm_count_b156
      rw [nI_1]
      rcases en_01 (n := n) (e := e) (p := p) (σ := σ) k with y | y
      · rw [y, if_pos rfl]; exact ih (k + 1) q (x + 0) (by omega) (by omega) (by omega)
      · rw [y, if_neg (by decide)]; exact ih (k + 1) q (x + 1) (by omega) (by omega) (by omega)
def n1 (f : Nat → Int32) (k : Nat) : Int32 := if f k = -1 then 1 else 0
theorem cs_nx {N pe : Nat} {f : Nat → Int32} {σ : am_S} (h1 : σ 13 7 = nI pe) (hp : pe ≤ 16) (hf : ∀ k, k < pe → fx_People_ownerBy N (nI k) σ = some (f k)) : ∀ r k q x, pe ≤ k + r → k ≤ pe → r < q → fx_People_nobodysBy_b5 N q x (nI k) σ = some (cs pe (n1 f) (r + 1) k x) := by
  intro r
  induction r with
  | zero =>
    intro k q x a1 a2 a3
    obtain ⟨q, rfl⟩ : ∃ m, q = m + 1 := ⟨q - 1, by omega⟩
    rw [fx_People_nobodysBy_b5, h1, if_pos (nI_le (by omega) (by omega)), cs, if_pos (by omega)]
  | succ r ih =>
    intro k q x a1 a2 a3
    obtain ⟨q, rfl⟩ : ∃ m, q = m + 1 := ⟨q - 1, by omega⟩
    rw [fx_People_nobodysBy_b5, cs, h1]
    by_cases z : pe ≤ k
    · rw [if_pos (nI_le (by omega) (by omega)), if_pos z]
    · rw [if_neg (nI_ge (by omega) (by omega)), if_neg z, hf k (by omega), hb_bind]
      unfold fx_People_nobodysBy_b29 n1
      rw [nI_1]
      by_cases y : f k = -1
      · rw [if_pos y, if_pos y]; exact ih (k + 1) q (x + 1) (by omega) (by omega) (by omega)
      · rw [if_neg y, if_neg y, Int32.add_zero]; exact ih (k + 1) q x (by omega) (by omega) (by omega)
theorem cs_nm {N pe : Nat} {f : Nat → Int32} {σ : am_S} (h1 : σ 85 14 = nI pe) (hp : pe ≤ 16) (h3 : ∀ k, k < pe → f k = -1 ∨ f k = 0 ∨ f k = 1) (hf : ∀ k, k < pe → fm_whoseBy N (nI k) σ = some (f k)) : ∀ r k q x, pe ≤ k + r → k ≤ pe → r < q → fm_nobodys_b10 N q x (nI k) σ = some (cs pe (n1 f) (r + 1) k x, σ) := by
  intro r
  induction r with
  | zero =>
    intro k q x a1 a2 a3
    obtain ⟨q, rfl⟩ : ∃ m, q = m + 1 := ⟨q - 1, by omega⟩
    rw [fm_nobodys_b10, h1, if_pos (nI_le (by omega) (by omega)), cs, if_pos (by omega)]
  | succ r ih =>
    intro k q x a1 a2 a3
    obtain ⟨q, rfl⟩ : ∃ m, q = m + 1 := ⟨q - 1, by omega⟩
    rw [fm_nobodys_b10, cs, h1]
    by_cases z : pe ≤ k
    · rw [if_pos (nI_le (by omega) (by omega)), if_pos z]
    · rw [if_neg (nI_ge (by omega) (by omega)), if_neg z, hf k (by omega), hb_bind]
      have lt := m1_lt (h3 k (by omega))
      unfold fm_nobodys_b32 n1
      rw [nI_1]
      by_cases y : f k = -1
      · rw [if_neg (fun u => (lt.2.1 u) y), if_pos y]; exact ih (k + 1) q (x + 1) (by omega) (by omega) (by omega)
      · rw [if_pos (lt.2.2 y), if_neg y]; exact ih (k + 1) q (x + 0) (by omega) (by omega) (by omega)
theorem C_count {N : Nat} {σ : am_S} (a1 : Int32) (hN : 20000 ≤ N) (h : R σ) : tw (fx_count N a1) (fm_count N a1) σ := by
  obtain ⟨n, e, p, pe, ha⟩ := R0_all h.1
  have l3 := ha.2.1.2.2.1.1
  have l1 := ha.1.2.2.2.1.1
  by_cases c12 : a1 = 12
  · subst c12
    refine tw_a (v := cs n (ld_en n e p σ) 13 0 0) σ σ h (sc_refl σ) (sc_refl σ) ?_ ?_
    · have := cs_ex (N := N) hN ha.1 12 0 N 0 (by omega) (by omega) (by omega)
      show (fx_Land_enclaves N σ).bind _ = _
      unfold fx_Land_enclaves
      rw [show (0 : Int32) = nI 0 from rfl] at this ⊢
      rw [this]; rfl
    · exact cs_em (N := N) hN ha.1 12 0 N 0 (by omega) (by omega) (by omega)
  by_cases c13 : a1 = 13
  · subst c13
    obtain ⟨F, f1, f2, f3⟩ := lw_rd (N := N) hN ha
    obtain ⟨τ2, t1, t2, t3⟩ := f3 σ (Or.inl (sc_refl σ))
    have s2 := rm_sc t2
    refine tw_a (v := cs pe (n1 (fun k => ow p σ F.2.1 k F.1)) 17 0 0) σ τ2 h (sc_refl σ) s2 ?_ ?_
    · have := cs_nx (N := N) (σ := σ) (f := fun k => ow p σ F.2.1 k F.1) ha.2.1.1 l3 (fun k hk => ob_31 hN ha hk f1 f2) 16 0 N 0 (by omega) (by omega) (by omega)
      show (fx_People_nobodysBy N σ).bind _ = _
      unfold fx_People_nobodysBy
      rw [show (0 : Int32) = nI 0 from rfl] at this ⊢
      rw [this]; rfl
    · have := cs_nm (N := N) (σ := τ2) (f := fun k => ow p σ F.2.1 k F.1) (R_all_sc s2 ha).2.1.2.1 l3 (fun k hk => ow_3 ha hk _) (fun k hk => by rw [ob_m (N := N) hN (R_all_sc s2 ha) hk t3 f2, ow_sc s2]) 16 0 N 0 (by omega) (by omega) (by omega)
      show (fm_nobodys N σ).bind _ = _
      unfold fm_nobodys
      rw [t1, hb_bind]
      rw [show (0 : Int32) = nI 0 from rfl] at this ⊢
      rw [this]; rfl
  have st : fm_count N a1 σ = (if a1 = 0 ∨ a1 = 1 ∨ a1 = 2 ∨ a1 = 3 ∨ a1 = 4 ∨ a1 = 5 ∨ a1 = 6 ∨ a1 = 7 ∨ a1 = 8 ∨ a1 = 9 ∨ a1 = 10 ∨ a1 = 11 then fx_count N a1 σ else fm_count N a1 σ) := by
    split
    · rename_i z
      exact ct_eq h.1 z
    · rfl
  by_cases z : a1 = 0 ∨ a1 = 1 ∨ a1 = 2 ∨ a1 = 3 ∨ a1 = 4 ∨ a1 = 5 ∨ a1 = 6 ∨ a1 = 7 ∨ a1 = 8 ∨ a1 = 9 ∨ a1 = 10 ∨ a1 = 11
  · rw [if_pos z] at st
    obtain ⟨v, hv⟩ := ct_v (N := N) (σ := σ) z
    exact tw_a (v := v) σ σ h (sc_refl σ) (sc_refl σ) hv (by rw [st]; exact hv)
  · have z' : ¬ a1 = 0 ∧ ¬ a1 = 1 ∧ ¬ a1 = 2 ∧ ¬ a1 = 3 ∧ ¬ a1 = 4 ∧ ¬ a1 = 5 ∧ ¬ a1 = 6 ∧ ¬ a1 = 7 ∧ ¬ a1 = 8 ∧ ¬ a1 = 9 ∧ ¬ a1 = 10 ∧ ¬ a1 = 11 := by simpa only [not_or] using z
    obtain ⟨z0, z1, z2, z3, z4, z5, z6, z7, z8, z9, z10, z11⟩ := z'
    refine tw1 h ?_ ?_
    · unfold fx_count
      rw [if_neg z0, if_neg z1, if_neg z2, if_neg z3, if_neg z4, if_neg z5, if_neg z6, if_neg z7, if_neg z8, if_neg z9, if_neg z10, if_neg z11, if_neg c12, if_neg c13, fx_f1]; rfl
    · unfold fm_count
      rw [if_neg z0, if_neg z1, if_neg z2, if_neg z3, if_neg z4, if_neg z5, if_neg z6, if_neg z7, if_neg z8, if_neg z9, if_neg z10, if_neg z11, if_neg c12, if_neg c13, fm_f1]; rfl

