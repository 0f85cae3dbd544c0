/-! ===== send ===== -/
theorem min_ex {p : Nat → Prop} : ∀ v, p v → ∃ q, p q ∧ ∀ w, w < q → ¬ p w := by
  intro v
  induction v using Nat.strongRecOn with
  | ind v ih =>
    intro hv
    by_cases h : ∃ w, w < v ∧ p w
    · obtain ⟨w, w1, w2⟩ := h
      exact ih w w1 w2
    · exact ⟨v, hv, fun w hw hp => h ⟨w, hw, hp⟩⟩
theorem ds_pos {n e p b u : Nat} {σ : am_S} {D : Nat → Nat → Nat} (h : ld_ok n e p σ) (hD : dsD e 1 σ D) (hb : b < n) (hu : u < n) (hne : u ≠ b) (hr : D b u < 100000) : ∃ q, nxt n e σ D b u q ∧ D b q < D b u := by
  have l1 := h.2.2.2.1.1
  obtain ⟨k, k1, k2, k3⟩ := hD.2.2.2.2 b u (by omega) (by omega) (fun z => hne z.symm) hr
  obtain ⟨A, B, L, b1, b2, b3, b4, b5⟩ := eg_at h.2.2.2.1.2.2.2.2.2.1 k1
  have c9 : ¬ σ 9 k = 0 := by
    have := of_decide_eq_true k2
    rcases this with z | z
    · exact absurd z (by decide)
    · exact z
  have k3' : (nv (σ 7 k) = u ∧ D b (nv (σ 6 k)) + nv (σ 8 k) ≤ D b u) ∨ (nv (σ 6 k) = u ∧ D b (nv (σ 7 k)) + nv (σ 8 k) ≤ D b u) := k3
  have ex : ∃ v, nb e σ D b u v := by
    rcases k3' with z | z
    · have t : rbt σ u (nv (σ 6 k)) k = true := decide_eq_true ⟨Or.inr ⟨rfl, z.1⟩, c9⟩
      have := (nb_tri h hD hb k1 t).1
      exact ⟨_, k, k1, t, by omega⟩
    · have t : rbt σ u (nv (σ 7 k)) k = true := decide_eq_true ⟨Or.inl ⟨z.1, rfl⟩, c9⟩
      have := (nb_tri h hD hb k1 t).1
      exact ⟨_, k, k1, t, by omega⟩
  obtain ⟨v, hv⟩ := ex
  obtain ⟨q, q1, q2⟩ := min_ex (p := fun v => nb e σ D b u v) v hv
  obtain ⟨j, j1, j2, j3⟩ := q1
  have t := nb_tri h hD hb j1 j2
  have bb := (eg_at h.2.2.2.1.2.2.2.2.2.1 j1).2.2.2.2.2.2.1
  exact ⟨q, ⟨t.2.2, ⟨j, j1, j2, j3⟩, q2⟩, by omega⟩
def pa (n e : Nat) (σ : am_S) (D : Nat → Nat → Nat) (b : Nat) (P : Nat → Nat) (c : Nat) : Prop := 1 ≤ c ∧ P (c - 1) = b ∧ (∀ k, k < c → P k < n ∧ D b (P k) < 100000 ∧ D b (P k) ≤ D b (P 0)) ∧ ∀ k, k + 1 < c → P k ≠ b ∧ nxt n e σ D b (P k) (P (k + 1))
theorem pa_ex {n e p b : Nat} {σ : am_S} {D : Nat → Nat → Nat} (h : ld_ok n e p σ) (hD : dsD e 1 σ D) (hb : b < n) : ∀ r u, u < n → D b u < 100000 → ds_rk n D b u ≤ r → ∃ P c, c ≤ r + 1 ∧ P 0 = u ∧ pa n e σ D b P c := by
  have l1 := h.2.2.2.1.1
  have d0 : D b b = 0 := hD.1 b (by omega)
  have base : ∀ r, b < n → D b b < 100000 → ∃ P c, c ≤ r + 1 ∧ P 0 = b ∧ pa n e σ D b P c := by
    intro r _ hr
    refine ⟨fun _ => b, 1, by omega, rfl, by omega, rfl, fun k _ => ⟨hb, hr, Nat.le_refl _⟩, fun k hk => absurd hk (by omega)⟩
  intro r
  induction r with
  | zero =>
    intro u hu hr hk
    by_cases z : u = b
    · subst z; exact base 0 hu hr
    · obtain ⟨q, q1, q2⟩ := ds_pos h hD hb hu z hr
      have := ds_rk_lt (D := D) (i := b) q1.1 q2
      omega
  | succ r ih =>
    intro u hu hr hk
    by_cases z : u = b
    · subst z; exact base (r + 1) hu hr
    · obtain ⟨q, q1, q2⟩ := ds_pos h hD hb hu z hr
      have lt := ds_rk_lt (D := D) (i := b) q1.1 q2
      obtain ⟨P, c, c1, c2, c3, c4, c5, c6⟩ := ih q q1.1 (by omega) (by omega)
      refine ⟨fun k => if k = 0 then u else P (k - 1), c + 1, by omega, if_pos rfl, by omega, ?_, ?_, ?_⟩
      · show (if c + 1 - 1 = 0 then u else P (c + 1 - 1 - 1)) = b
        rw [if_neg (by omega)]
        exact c4
      · intro k hk'
        show (if k = 0 then u else P (k - 1)) < n ∧ D b (if k = 0 then u else P (k - 1)) < 100000 ∧ D b (if k = 0 then u else P (k - 1)) ≤ D b u
        by_cases y : k = 0
        · rw [if_pos y]; exact ⟨hu, hr, Nat.le_refl _⟩
        · rw [if_neg y]
          have := c5 (k - 1) (by omega)
          rw [c2] at this
          exact ⟨this.1, this.2.1, by omega⟩
      · intro k hk'
        show (if k = 0 then u else P (k - 1)) ≠ b ∧ nxt n e σ D b (if k = 0 then u else P (k - 1)) (if k + 1 = 0 then u else P (k + 1 - 1))
        rw [if_neg (show ¬ k + 1 = 0 by omega), Nat.add_sub_cancel]
        by_cases y : k = 0
        · rw [if_pos y, y, c2]; exact ⟨z, q1⟩
        · rw [if_neg y]
          have := c6 (k - 1) (by omega)
          rw [Nat.sub_add_cancel (by omega)] at this
          exact this
theorem upd_same {f : Nat → Int32} {k : Nat} {v : Int32} (h : f k = v) : upd f k v = f := by
  funext j
  by_cases z : j = k
  · rw [z, hb_us, h]
  · rw [hb_un z]
theorem upd_upd {f : Nat → Int32} {k : Nat} {v v' : Int32} : upd (upd f k v) k v' = upd f k v' := by
  funext j
  by_cases z : j = k
  · rw [z, hb_us, hb_us]
  · rw [hb_un z, hb_un z, hb_un z]
theorem as_x {w k : Nat} {q d : Int32} {τ : am_S} (hw : w < 10) (hk : k < 12) (h : τ 50 w = nI k) : fx_Wagons_addStop (nI w) q d τ = some (am_up (am_up (am_up τ (52 + w) k q) (63 + w) k d) 50 w (nI (k + 1))) := by
  unfold fx_Wagons_addStop
  rw [hb_g hw (by decide), nI_clamp (by omega), h, if_neg (by rw [hb_L12]; exact nI_ge hk (by omega)), (ar_w w hw).1, hb_bind, hb_gt (ar_c hw hk).1, (ar_w w hw).2, hb_bind, hb_gt (ar_c hw hk).2, hb_g hw (by decide), nI_clamp (by omega), nI_1]
theorem rt_x {N n e p b w c dd X : Nat} {xs : Nat → Int32} {σ : am_S} {D : Nat → Nat → Nat} {P : Nat → Nat} (hN : 20000 ≤ N) (h : ld_ok n e p σ) (hD : dsD e 1 σ D) (hb : b < n) (hw : w < 10) (hp : pa n e σ D b P c) (hc : c ≤ 12) (hd : dd ≤ 400) : ∀ r k q τ, k + r + 1 = c → r < q → τ 1 = σ 1 → τ 6 = σ 6 → τ 7 = σ 7 → τ 8 = σ 8 → τ 9 = σ 9 → (∀ v, v < n → τ 12 v = nI (ds_x D b v)) → τ 50 w = nI (k + 1) → ∃ τ', fx_Wagons_route_b56 N X xs q (nI w) (nI b) (nI dd) (nI (D b (P 0))) (nI (P k)) (nI (k + 1)) τ = some (nI (dd + D b (P 0)), τ') ∧ (∀ c', c' ≠ 50 → c' ≠ 52 + w → c' ≠ 63 + w → τ' c' = τ c') ∧ τ' 50 = upd (τ 50) w (nI c) ∧ (∀ j, j < k + 1 → τ' (52 + w) j = τ (52 + w) j ∧ τ' (63 + w) j = τ (63 + w) j) ∧ (∀ j, k + 1 ≤ j → j < c → τ' (52 + w) j = nI (P j) ∧ τ' (63 + w) j = nI (dd + D b (P 0) - D b (P j))) := by
  obtain ⟨p1, p2, p3, p4⟩ := hp
  have l1 := h.2.2.2.1.1
  intro r
  induction r with
  | zero =>
    intro k q τ a1 a2 t1 t6 t7 t8 t9 t12 t50
    obtain ⟨q, rfl⟩ : ∃ m, q = m + 1 := ⟨q - 1, by omega⟩
    have ek : c - 1 = k := by omega
    rw [ek] at p2
    refine ⟨τ, ?_, fun _ _ _ _ => rfl, ?_, fun _ _ => ⟨rfl, rfl⟩, fun j b1 b2 => absurd b1 (by omega)⟩
    · rw [fx_Wagons_route_b56]
      unfold fx_Wagons_route_b112
      rw [nI_add, p2]
      split
      · rfl
      · rw [if_pos rfl]
    · rw [upd_same]; rw [t50]; exact congrArg nI (by omega)
  | succ r ih =>
    intro k q τ a1 a2 t1 t6 t7 t8 t9 t12 t50
    obtain ⟨q, rfl⟩ : ∃ m, q = m + 1 := ⟨q - 1, by omega⟩
    obtain ⟨ne, nq⟩ := p4 k (by omega)
    obtain ⟨k1, k2, k3⟩ := p3 k (by omega)
    obtain ⟨q1, q2, q3⟩ := p3 (k + 1) (by omega)
    obtain ⟨x, x1, x2⟩ := nx_x (N := N) (G := σ 12) hN h hD hb k1 k2 t1 t6 t7 t8 t9 t12
    have ex : x = nI (P (k + 1)) := by
      rcases x2 with ⟨_, y⟩ | ⟨q0, y1, y2, y3, y4⟩
      · exact absurd nq.2.1 (y _)
      · have e1 := y4 _ nq.2.1
        have e2 : ¬ q0 < P (k + 1) := fun z => nq.2.2 q0 z y3
        rw [y2]; exact congrArg nI (by omega)
    have z12 : τ 12 (P (k + 1)) = nI (D b (P (k + 1))) := by rw [t12 _ q1]; unfold ds_x; rw [if_pos q2]
    have z99 := dt_99 h hD hb (p3 0 (by omega)).1 (p3 0 (by omega)).2.1
    obtain ⟨τ', y1, y2, y3, y4, y5⟩ := ih (k + 1) q (am_up (am_up (am_up τ (52 + w) (k + 1) (nI (P (k + 1)))) (63 + w) (k + 1) (nI (dd + D b (P 0) - D b (P (k + 1))))) 50 w (nI (k + 1 + 1))) (by omega) (by omega)
      (by rw [hb_up_ne (by decide), hb_up_ne (by omega), hb_up_ne (by omega)]; exact t1) (by rw [hb_up_ne (by decide), hb_up_ne (by omega), hb_up_ne (by omega)]; exact t6) (by rw [hb_up_ne (by decide), hb_up_ne (by omega), hb_up_ne (by omega)]; exact t7) (by rw [hb_up_ne (by decide), hb_up_ne (by omega), hb_up_ne (by omega)]; exact t8) (by rw [hb_up_ne (by decide), hb_up_ne (by omega), hb_up_ne (by omega)]; exact t9) (by rw [hb_up_ne (by decide), hb_up_ne (by omega), hb_up_ne (by omega)]; exact t12) (by rw [hb_up_eq, hb_us])
    refine ⟨τ', ?_, ?_, ?_, ?_, ?_⟩
    · rw [fx_Wagons_route_b56, if_neg (by rw [hb_L12]; exact nI_ge (by omega) (by omega)), if_neg (fun z => ne ((nI_eq (by omega) (by omega)).1 z)), x1, hb_bind, ex, if_pos (nI_pos' (by omega)), hb_g (by omega) (by decide), nI_clamp (by omega), z12, nI_add, pk_sub (by omega), as_x hw (by omega) t50, hb_bind, nI_1]
      exact y1
    · intro c' b1 b2 b3
      rw [y2 c' b1 b2 b3, hb_up_ne b1, hb_up_ne b3, hb_up_ne b2]
    · rw [y3, hb_up_eq, upd_upd, hb_up_ne (by omega), hb_up_ne (by omega)]
    · intro j hj
      rw [(y4 j (by omega)).1, (y4 j (by omega)).2, hb_up_ne (by omega), hb_up_ne (by omega), hb_up_eq, hb_un (by omega), hb_up_ne (by omega), hb_up_eq, hb_up_ne (by omega), hb_un (by omega)]
      exact ⟨rfl, rfl⟩
    · intro j b1 b2
      by_cases z : j = k + 1
      · subst z
        rw [(y4 (k + 1) (by omega)).1, (y4 (k + 1) (by omega)).2, hb_up_ne (by omega), hb_up_ne (by omega), hb_up_eq, hb_us, hb_up_ne (by omega), hb_up_eq, hb_us]
        exact ⟨rfl, rfl⟩
      · exact y5 j (by omega) b2
/-! the reference's way -/
theorem rb_c {ρ σ : am_S} {u v : Nat} (h6 : ρ 6 = σ 6) (h7 : ρ 7 = σ 7) (h8 : ρ 8 = σ 8) (h9 : ρ 9 = σ 9) : ∀ m, rb ρ u v m = rb σ u v m
  | 0 => rfl
  | m + 1 => by
    have t : rbt ρ u v m = rbt σ u v m := by unfold rbt; rw [h6, h7, h9]
    rw [rb, rb, t, rb_c h6 h7 h8 h9 m, h8]
theorem sn_m {N n e p b w cc u qs : Nat} {σ ρ : am_S} {D : Nat → Nat → Nat} {x4 : Int32} {K : Int32 → Int32 → Int32 → Int32 → am_S → Option (Int32 × am_S)} (hN : 20000 ≤ N) (h : ld_ok n e p σ) (hD : dsD e 1 σ D) (hb : b < n) (hu : u < n) (hr : D b u < 100000) (hw : w < 10) (hq : nxt n e σ D b u qs) (hl : ld_ok n e p ρ) (h6 : ρ 6 = σ 6) (h7 : ρ 7 = σ 7) (h8 : ρ 8 = σ 8) (h9 : ρ 9 = σ 9) (h124 : ∀ i j, i < n → j < n → ρ 124 (12 * i + j) = nI (D i j)) (hc : cc ≤ 11) (h115 : ρ 115 w = nI cc) : ∀ t q x5 x6, t ≤ 12 → t < q → (qs < t ∨ (x5 = nI qs ∧ x6 = nI (rb σ u qs e))) → fm_send_b108 N K q (nI w) (nI b) (nI u) x4 x5 x6 (nI t - 1) ρ = K (nI w) (nI b) (nI qs) (x4 + nI (rb σ u qs e)) (am_up (am_up (am_up ρ 113 (12 * w + cc) (nI qs)) 114 (12 * w + cc) (x4 + nI (rb σ u qs e))) 115 w (nI (cc + 1))) := by
  have l1 := h.2.2.2.1.1
  have u99 := dt_99 h hD hb hu hr
  have ix : ∀ i j : Nat, (12 : Int32) * nI i + nI j = nI (12 * i + j) := fun i j => by rw [hb_L12, pk_mul, nI_add]
  have sym : ∀ i, i < n → D i b = D b i := fun i hi => hD.2.1 i b (by omega) (by omega)
  intro t
  induction t with
  | zero =>
    intro q x5 x6 a1 a2 hi
    obtain ⟨q, rfl⟩ : ∃ m, q = m + 1 := ⟨q - 1, by omega⟩
    rcases hi with z | ⟨z1, z2⟩
    · exact absurd z (Nat.not_lt_zero _)
    · have e1 : am_up ρ 113 (12 * w + cc) x5 115 w = nI cc := by rw [hb_up_ne (by decide)]; exact h115
      rw [fm_send_b108, if_pos (by decide)]
      rw [hb_g hw (by decide), nI_clamp (show w < 2 ^ 31 by omega), h115, ix, hb_g (by omega) (by decide), hb_g hw (by decide), hb_g (by omega) (by decide), hb_g hw (by decide), hb_g hw (by decide), nI_clamp (by omega), nI_1, z1, z2]
  | succ t ih =>
    intro q x5 x6 a1 a2 hi
    obtain ⟨q, rfl⟩ : ∃ m, q = m + 1 := ⟨q - 1, by omega⟩
    have et : nI (t + 1) - 1 = nI t := by rw [hb_L1, pk_sub (by omega)]; rfl
    have em : nI t + (-1) = nI t - 1 := (Int32.sub_eq_add_neg _ _).symm
    rw [fm_send_b108, et, if_neg (nI_pos (by omega)), rb_m hN hl (by omega) (by omega), hb_bind, rb_c h6 h7 h8 h9]
    unfold fm_send_b166
    rw [em]
    have nr := nb_rb (u := u) (v := t) h hD hb
    have rl := rb_le (σ := σ) (u := u) (v := t) e
    by_cases c1 : rb σ u t e < 100000
    · have tn : t < n := by
        rcases rb_sp (σ := σ) (u := u) (v := t) (fun k hk => (eg_at h.2.2.2.1.2.2.2.2.2.1 hk).2.2.2.2.2.2.2) e (Nat.le_refl _) with ⟨y1, _⟩ | ⟨_, ⟨k, k1, k2, _⟩, _⟩
        · omega
        · exact (nb_tri h hD hb k1 k2).2.2
      have bt' := dt_b h hD hb tn
      rw [if_neg (show ¬ (100000 : Int32) ≤ nI (rb σ u t e) by rw [hb_L100000]; exact nI_ge (by omega) (by omega)), ix, ix, hb_g (by omega) (by decide), hb_g (by omega) (by decide), nI_clamp (by omega), nI_clamp (by omega), h124 t b tn hb, h124 u b hu hb, sym t tn, sym u hu, nI_add]
      by_cases y : rb σ u t e + D b t = D b u
      · rw [if_pos (by rw [y])]
        have nbt := nr.1 ⟨c1, y⟩
        refine ih q _ _ (by omega) (by omega) ?_
        have : ¬ t < qs := fun z => hq.2.2 t z nbt
        by_cases z : t = qs
        · right; rw [z]; exact ⟨rfl, rfl⟩
        · left; omega
      · rw [if_neg (fun z => y ((nI_eq (by omega) (by omega)).1 z))]
        refine ih q _ _ (by omega) (by omega) ?_
        rcases hi with z | z
        · left
          have : t ≠ qs := fun v => y (by rw [v]; exact (nb_rb (u := u) (v := qs) h hD hb).2 hq.2.1 |>.2)
          omega
        · exact Or.inr z
    · rw [if_pos (show (100000 : Int32) ≤ nI (rb σ u t e) by rw [hb_L100000]; exact nI_le (by omega) (by omega))]
      refine ih q _ _ (by omega) (by omega) ?_
      rcases hi with z | z
      · left
        have : t ≠ qs := fun v => c1 (by rw [v]; exact (nb_rb (u := u) (v := qs) h hD hb).2 hq.2.1 |>.1)
        omega
      · exact Or.inr z

