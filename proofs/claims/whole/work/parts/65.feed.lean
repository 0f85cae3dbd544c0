/-! ===== feed ===== -/
theorem fd_bi (y : Int32) : y.toInt = if 2 * y.toBitVec.toNat < 4294967296 then (y.toBitVec.toNat : Int) else (y.toBitVec.toNat : Int) - 4294967296 := by
  have := BitVec.toInt_eq_toNat_cond y.toBitVec
  exact this
theorem fd_byte (x : Int32) (k : Nat) (hk : k < 4) : ((x.toUInt32 >>> ((nI (8 * k)).toUInt32 &&& Int32.toUInt32 31)).toInt32) &&& 255 = (x >>> (nI (8 * k) &&& 31)) &&& 255 := by
  rw [pk_and _ 8 (show (255 : Int32).toBitVec.toNat = 2 ^ 8 - 1 from rfl), pk_and (x >>> (nI (8 * k) &&& 31)) 8 (show (255 : Int32).toBitVec.toNat = 2 ^ 8 - 1 from rfl)]
  congr 1
  have h2 := pk_shr x (nI (8 * k) &&& 31) (8 * k) (eb_sl (8 * k) (by omega))
  have hx := fd_bi x
  have hy := fd_bi (x >>> (nI (8 * k) &&& 31))
  have lx := x.toBitVec.isLt
  have ly := (x >>> (nI (8 * k) &&& 31)).toBitVec.isLt
  rw [Int.shiftRight_eq_div_pow] at h2
  have hk' : k = 0 ∨ k = 1 ∨ k = 2 ∨ k = 3 := by omega
  rcases hk' with e | e | e | e
  · subst e
    rw [pk_ushr x (nI (8 * 0)) 0 (by decide)]
    generalize (x >>> (nI (8 * 0) &&& 31)).toBitVec.toNat = Y at *
    generalize x.toBitVec.toNat = X at *
    rw [h2, hx] at hy
    have p : ((2 ^ (8 * 0) : Nat) : Int) = 1 := rfl
    rw [p] at hy
    omega
  · subst e
    rw [pk_ushr x (nI (8 * 1)) 8 (by decide)]
    generalize (x >>> (nI (8 * 1) &&& 31)).toBitVec.toNat = Y at *
    generalize x.toBitVec.toNat = X at *
    rw [h2, hx] at hy
    have p : ((2 ^ (8 * 1) : Nat) : Int) = 256 := rfl
    rw [p] at hy
    omega
  · subst e
    rw [pk_ushr x (nI (8 * 2)) 16 (by decide)]
    generalize (x >>> (nI (8 * 2) &&& 31)).toBitVec.toNat = Y at *
    generalize x.toBitVec.toNat = X at *
    rw [h2, hx] at hy
    have p : ((2 ^ (8 * 2) : Nat) : Int) = 65536 := rfl
    rw [p] at hy
    omega
  · subst e
    rw [pk_ushr x (nI (8 * 3)) 24 (by decide)]
    generalize (x >>> (nI (8 * 3) &&& 31)).toBitVec.toNat = Y at *
    generalize x.toBitVec.toNat = X at *
    rw [h2, hx] at hy
    have p : ((2 ^ (8 * 3) : Nat) : Int) = 16777216 := rfl
    rw [p] at hy
    omega
def fd_v (x : Int32) (k : Nat) : Int32 := (x >>> (nI (8 * k) &&& 31)) &&& 255
def fd_r (x : Int32) : Nat → (Nat → Int32) → Nat → Nat → Int32
  | 0, f, _ => f
  | t + 1, f, l => fd_r x t (upd f l (fd_v x t)) (l + 1)
def fd_xs (σ : am_S) (f : Nat → Int32) (v : Int32) : am_S := am_set (am_set σ 23 f) 22 (upd (σ 22) 2 v)
def fd_ms (σ : am_S) (f : Nat → Int32) (v : Int32) : am_S := am_set (am_set σ 102 f) 85 (upd (σ 85) 22 v)
theorem fd_xu {σ : am_S} {f : Nat → Int32} {v w x : Int32} {k : Nat} : am_up (am_up (fd_xs σ f v) 23 k x) 22 2 w = fd_xs σ (upd f k x) w := by
  funext c
  unfold fd_xs am_up am_set
  by_cases e : c = 22
  · subst e; simp only [↓reduceIte, show (22 : Nat) ≠ 23 by decide, fa_upd_twice]
  · simp only [if_neg e]
    by_cases e2 : c = 23
    · subst e2; simp only [↓reduceIte, show (23 : Nat) ≠ 22 by decide]
    · simp only [if_neg e2]
theorem fd_mu {σ : am_S} {f : Nat → Int32} {v w x : Int32} {k : Nat} : am_up (am_up (fd_ms σ f v) 102 k x) 85 22 w = fd_ms σ (upd f k x) w := by
  funext c
  unfold fd_ms am_up am_set
  by_cases e : c = 85
  · subst e; simp only [↓reduceIte, show (85 : Nat) ≠ 102 by decide, fa_upd_twice]
  · simp only [if_neg e]
    by_cases e2 : c = 102
    · subst e2; simp only [↓reduceIte, show (102 : Nat) ≠ 85 by decide]
    · simp only [if_neg e2]
theorem fd_x {N : Nat} {σ : am_S} {x : Int32} : ∀ i l q f, i < 4 → l + i + 1 ≤ 50 → i + 1 < q → fx_feed_b45 N q x (nI i) (fd_xs σ f (nI l)) = some (nI (l + i + 1), fd_xs σ (fd_r x (i + 1) f l) (nI (l + i + 1))) := by
  intro i
  induction i with
  | zero =>
    intro l q f h1 h2 h3
    obtain ⟨q, rfl⟩ : ∃ m, q = m + 2 := ⟨q - 2, by omega⟩
    rw [fx_feed_b45, if_neg (nI_pos (by decide))]
    unfold fx_Text_append
    have e : fd_xs σ f (nI l) 22 2 = nI l := rfl
    rw [e, if_neg (by rw [hb_L50]; exact nI_ge (by omega) (by decide)), hb_g (by omega) (by decide), hb_bind, nI_clamp (by omega), nI_1, hb_L8, pk_mul, fd_byte x 0 (by omega), fd_xu]
    show fx_feed_b45 N (q + 1) x (nI 0 + (-1)) _ = _
    rw [fx_feed_b45, if_pos (by decide)]
    rfl
  | succ i ih =>
    intro l q f h1 h2 h3
    obtain ⟨q, rfl⟩ : ∃ m, q = m + 1 := ⟨q - 1, by omega⟩
    rw [fx_feed_b45, if_neg (nI_pos (by omega))]
    unfold fx_Text_append
    have e : fd_xs σ f (nI l) 22 2 = nI l := rfl
    rw [e, if_neg (by rw [hb_L50]; exact nI_ge (by omega) (by decide)), hb_g (by omega) (by decide), hb_bind, nI_clamp (by omega), nI_1, hb_L8, pk_mul, fd_byte x (i + 1) (by omega), fd_xu, pk_m1]
    have := ih (l + 1) q (upd f l (fd_v x (i + 1))) (by omega) (by omega) (by omega)
    rw [show l + 1 + i + 1 = l + (i + 1) + 1 by omega] at this
    exact this
theorem fd_m {N : Nat} {σ : am_S} {x : Int32} : ∀ i l q f, i < 4 → l + i + 1 ≤ 50 → i + 1 < q → fm_feed_b36 N q x (nI i) (fd_ms σ f (nI l)) = some (nI (l + i + 1), fd_ms σ (fd_r x (i + 1) f l) (nI (l + i + 1))) := by
  intro i
  induction i with
  | zero =>
    intro l q f h1 h2 h3
    obtain ⟨q, rfl⟩ : ∃ m, q = m + 2 := ⟨q - 2, by omega⟩
    have e : fd_ms σ f (nI l) 85 22 = nI l := rfl
    rw [fm_feed_b36, if_neg (nI_pos (by decide)), e, hb_g (by omega) (by decide), nI_clamp (by omega), nI_1, hb_L8, pk_mul, fd_mu]
    show fm_feed_b36 N (q + 1) x (nI 0 + (-1)) _ = _
    rw [fm_feed_b36, if_pos (by decide)]
    rfl
  | succ i ih =>
    intro l q f h1 h2 h3
    obtain ⟨q, rfl⟩ : ∃ m, q = m + 1 := ⟨q - 1, by omega⟩
    have e : fd_ms σ f (nI l) 85 22 = nI l := rfl
    rw [fm_feed_b36, if_neg (nI_pos (by omega)), e, hb_g (by omega) (by decide), nI_clamp (by omega), nI_1, hb_L8, pk_mul, fd_mu, pk_m1]
    have := ih (l + 1) q (upd f l (fd_v x (i + 1))) (by omega) (by omega) (by omega)
    rw [show l + 1 + i + 1 = l + (i + 1) + 1 by omega] at this
    exact this
theorem C_feed {N : Nat} {σ : am_S} (a1 a2 : Int32) (hN : 20000 ≤ N) (h : R σ) : tw (fx_feed N a1 a2) (fm_feed N a1 a2) σ := by
  rcases inE_c a2 1 4 with ⟨c1, k⟩ | ⟨c1, k1, k2⟩
  · refine tw1 h ?_ ?_
    · unfold fx_feed fx_feed_b10
      by_cases z : a2 < 1
      · rw [if_pos z, fx_f1]; rfl
      · rw [if_neg z, if_neg (fun u => (ng.1 u) (k.resolve_left z)), fx_f1]; rfl
    · unfold fm_feed; rw [in_m, if_pos c1, fm_f1]; rfl
  have d1 : ¬ inE a2 1 4 = 0 := by rw [c1]; decide
  obtain ⟨c, c4, ec⟩ : okc a2 4 := in_nat (by decide) (fun z => k1 (by rw [fa_lt] at z ⊢; have : (0 : Int32).toInt = 0 := rfl; have : (1 : Int32).toInt = 1 := rfl; omega)) k2
  have c0 : 1 ≤ c := Classical.byContradiction fun z => k1 (by rw [ec]; exact nI_lt (b := 1) (by omega) (by decide))
  subst ec
  obtain ⟨n, e, p, pe, th, ti, wa, ca, ta, dd, wt, tl, cn, ce, cp, cpe, cth, cti, cwa, cca, cta, cdy, cwt, ctl, f1_11, f1_12, f1_13, f13_7, f22_2, f21_6, f34_6, f34_7, f47_2, f47_3, f48_4, f73_4, f78_4, f0_11, f0_12, f47_0, f47_1, r2, r3, r4, r5, r6, r7, r8, r9, r10, r11, r14, r15, r18, r19, r20, r23, r35, r36, r37, r38, r39, r40, r49, r50, r74, r75, r76, r77, r79, r80, r84, hM, hL, hP, hE, hW, hG, hC, hT, hD, hX0, hX1, hX2, hK⟩ := h.1
  have m22 : σ 85 22 = nI tl := by rw [← f22_2]; exact ctl
  have l3 := hD.2.2
  by_cases q : tl + c ≤ 50
  · have sx : fd_xs σ (σ 23) (nI tl) = σ := by
      unfold fd_xs
      rw [hb_set_self, fa_upd_same ctl, hb_set_self]
    have x1 := fd_x (N := N) (σ := σ) (x := a1) (c - 1) tl N (σ 23) (by omega) (by omega) (by omega)
    rw [sx, show c - 1 + 1 = c by omega, show tl + (c - 1) + 1 = tl + c by omega] at x1
    have sm : fd_ms (fd_xs σ (fd_r a1 c (σ 23) tl) (nI (tl + c))) (σ 102) (nI tl) = fd_xs σ (fd_r a1 c (σ 23) tl) (nI (tl + c)) := by
      unfold fd_ms
      have e1 : (fd_xs σ (fd_r a1 c (σ 23) tl) (nI (tl + c))) 102 = σ 102 := rfl
      have e2 : (fd_xs σ (fd_r a1 c (σ 23) tl) (nI (tl + c))) 85 22 = nI tl := m22
      rw [← e1, hb_set_self, fa_upd_same e2, hb_set_self]
    have y1 := fd_m (N := N) (σ := fd_xs σ (fd_r a1 c (σ 23) tl) (nI (tl + c))) (x := a1) (c - 1) tl N (σ 102) (by omega) (by omega) (by omega)
    rw [sm, show c - 1 + 1 = c by omega, show tl + (c - 1) + 1 = tl + c by omega] at y1
    refine ⟨nI (tl + c), fd_xs σ (fd_r a1 c (σ 23) tl) (nI (tl + c)), fd_ms (fd_xs σ (fd_r a1 c (σ 23) tl) (nI (tl + c))) (fd_r a1 c (σ 102) tl) (nI (tl + c)), ?_, ?_, ?_, ?_⟩
    · unfold fx_feed
      rw [if_neg k1, if_pos (ng.2 k2), ctl, nI_add, if_pos (by rw [hb_L50]; exact nI_le q (by decide)), hb_L1, pk_sub (by omega)]
      exact x1
    · unfold fm_feed
      rw [in_m, if_neg d1, show (fd_xs σ (fd_r a1 c (σ 23) tl) (nI (tl + c))) 85 22 = nI tl from m22, nI_add, if_pos (by rw [hb_L50]; exact nI_le q (by decide)), hb_L1, pk_sub (by omega)]
      exact y1
    · have hG' : rG n wa (fd_ms (fd_xs σ (fd_r a1 c (σ 23) tl) (nI (tl + c))) (fd_r a1 c (σ 102) tl) (nI (tl + c))) := by
        refine rG_fr (fun c' hc => ?_) hG
        unfold fd_ms fd_xs
        rw [hb_set_ne (by omega), hb_set_ne (by omega), hb_set_ne (by omega), hb_set_ne (by omega)]
      exact ⟨n, e, p, pe, th, ti, wa, ca, ta, dd, wt, tl + c, cn, ce, cp, cpe, cth, cti, cwa, cca, cta, cdy, cwt, rfl, f1_11, f1_12, f1_13, f13_7, rfl, f21_6, f34_6, f34_7, f47_2, f47_3, f48_4, f73_4, f78_4, f0_11, f0_12, f47_0, f47_1, r2, r3, r4, r5, r6, r7, r8, r9, r10, r11, r14, r15, r18, r19, r20, congrArg (fun f => fd_r a1 c f tl) r23, r35, r36, r37, r38, r39, r40, r49, r50, r74, r75, r76, r77, r79, r80, r84, hM, hL, hP, hE, hW, hG', hC, hT, ⟨hD.1, hD.2.1, q⟩, hX0, hX1, hX2, hK⟩
    · exact h.2
  · refine tw4 h ?_ ?_
    · unfold fx_feed
      rw [if_neg k1, if_pos (ng.2 k2), ctl, nI_add, if_neg (by rw [hb_L50]; exact nI_ge (by omega) (by omega)), fx_f4]; rfl
    · unfold fm_feed
      rw [in_m, if_neg d1, show fnd 4 σ 85 22 = nI tl from m22, nI_add, if_neg (by rw [hb_L50]; exact nI_ge (by omega) (by omega)), fm_f4]; rfl

