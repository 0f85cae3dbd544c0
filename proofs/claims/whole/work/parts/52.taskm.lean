/-! ===== the reference's best order ===== -/
def tm_ok (n : Nat) (dy nd : Nat → Nat) (L : Int) (σ : am_S) : Prop := n ≤ 9 ∧ σ 85 47 = nI n ∧ (∀ t, t < n → σ 120 t = nI (dy t) ∧ dy t ≤ 200) ∧ (∀ t, t < n → σ 121 t = nI (nd t) ∧ nd t < 512) ∧ ((365 : Int32) - σ 85 0).toInt = L
def tm_s (σ : am_S) (f g : Nat → Int32) : am_S := am_set (am_set σ 129 f) 130 g
theorem tm_ok_s {n : Nat} {dy nd : Nat → Nat} {L : Int} {σ : am_S} {f g : Nat → Int32} (h : tm_ok n dy nd L σ) : tm_ok n dy nd L (tm_s σ f g) := by
  unfold tm_ok tm_s
  rw [hb_set_ne (by decide), hb_set_ne (by decide), hb_set_ne (by decide), hb_set_ne (by decide), hb_set_ne (by decide), hb_set_ne (by decide)]
  exact h
theorem tm_129 {σ : am_S} {f g : Nat → Int32} : tm_s σ f g 129 = f := by unfold tm_s; rw [hb_set_ne (by decide), hb_set_eq]
theorem tm_130 {σ : am_S} {f g : Nat → Int32} : tm_s σ f g 130 = g := by unfold tm_s; rw [hb_set_eq]
theorem tm_u129 {σ : am_S} {f g : Nat → Int32} {k : Nat} {v : Int32} : am_up (tm_s σ f g) 129 k v = tm_s σ (upd f k v) g := by
  unfold am_up
  rw [tm_129]
  funext c
  unfold tm_s am_set
  by_cases e : c = 129
  · subst e; rw [if_pos rfl, if_neg (by decide), if_pos rfl]
  · rw [if_neg e]
    by_cases e2 : c = 130
    · rw [if_pos e2, if_pos e2]
    · rw [if_neg e2, if_neg e2, if_neg e, if_neg e]
theorem tm_u130 {σ : am_S} {f g : Nat → Int32} {k : Nat} {v : Int32} : am_up (tm_s σ f g) 130 k v = tm_s σ f (upd g k v) := by
  unfold am_up
  rw [tm_130]
  funext c
  unfold tm_s am_set
  by_cases e2 : c = 130
  · rw [if_pos e2, if_pos e2]
  · rw [if_neg e2, if_neg e2, if_neg e2]
theorem tm_days {N n w : Nat} {dy nd : Nat → Nat} {L : Int} {σ : am_S} (hN : 200 ≤ N) (h : tm_ok n dy nd L σ) (hw : w < 512) : fm_daysOf N (nI w) σ = some (nI (tk_d dy w n)) := by
  obtain ⟨hn, h4, hd, _⟩ := h
  have : ∀ r t q, t + r = n → r < q → fm_daysOf_b4 N q (nI w) (nI (tk_d dy w t)) (nI t) σ = some (nI (tk_d dy w n)) := by
    intro r
    induction r with
    | zero =>
      intro t q h1 h2
      obtain ⟨q, rfl⟩ : ∃ m, q = m + 1 := ⟨q - 1, by omega⟩
      have e : t = n := by omega
      subst e
      rw [fm_daysOf_b4, h4, if_pos (nI_le (Nat.le_refl _) (by omega))]
    | succ r ih =>
      intro t q h1 h2
      obtain ⟨q, rfl⟩ : ∃ m, q = m + 1 := ⟨q - 1, by omega⟩
      have nx := ih (t + 1) q (by omega) (by omega)
      rw [tk_d] at nx
      rw [fm_daysOf_b4, h4, if_neg (nI_ge (by omega) (by omega)), eb_bit (by omega) (by omega)]
      unfold fm_daysOf_b32
      rw [nI_1]
      cases ht : w.testBit t
      · rw [if_neg (show ¬ nI (if false = true then 1 else 0) = 1 by decide)]
        rw [ht, if_neg (by decide), Nat.add_zero] at nx
        rw [Int32.add_zero]
        exact nx
      · rw [if_pos (show nI (if true = true then 1 else 0) = 1 from rfl), hb_g (by omega) (by decide), nI_clamp (by omega), (hd t (by omega)).1, nI_add]
        rw [ht, if_pos rfl] at nx
        exact nx
  exact this n 0 N (by omega) (by omega)
theorem tm_or {n s t : Nat} (hn : n ≤ 9) (hs : s < 2 ^ n) (ht : t < n) : s ||| 2 ^ t < 2 ^ n := Nat.or_lt_two_pow hs (Nat.pow_lt_pow_right (by decide) ht)
theorem tm_can {N n s t : Nat} {dy nd : Nat → Nat} {L : Int} {σ : am_S} (hN : 200 ≤ N) (h : tm_ok n dy nd L σ) (hs : s < 2 ^ n) (ht : t < n) : fm_canFollow N (nI s) (nI t) σ = some (if tk_cf n dy nd L s t = true then 1 else 0) := by
  have hn := h.1
  have hs5 := tx_512 hn hs
  have ho := tx_512 hn (tm_or hn hs ht)
  obtain ⟨e1, e2⟩ := h.2.2.2.1 t ht
  have db := tk_d_bd (dy := dy) (w := s ||| 2 ^ t) n (fun u hu => (h.2.2.1 u hu).2)
  unfold fm_canFollow
  rw [eb_bit (by omega) (by omega), eb_sh (by omega), fa_or, tm_days hN h ho, hb_bind]
  have ec : ((365 : Int32) - σ 85 0 < nI (tk_d dy (s ||| 2 ^ t) n)) ↔ ¬ (tk_d dy (s ||| 2 ^ t) n : Int) ≤ L := by
    rw [fa_lt, nI_toInt (by omega), h.2.2.2.2]
    omega
  cases hb : s.testBit t
  · rw [if_pos (show nI (if false = true then 1 else 0) = 0 from rfl), hb_g (by omega) (by decide), nI_clamp (by omega), e1]
    by_cases c : nd t &&& s = nd t
    · rw [if_pos ((eb_sub2 (by omega)).2 c)]
      by_cases c2 : (tk_d dy (s ||| 2 ^ t) n : Int) ≤ L
      · rw [if_neg (fun q => (ec.1 q) c2), if_pos (cf_t.2 ⟨hb, c, c2⟩)]
      · rw [if_pos (ec.2 c2), if_neg (fun q => c2 (cf_t.1 q).2.2)]
    · rw [if_neg (fun q => c ((eb_sub2 (by omega)).1 q)), if_neg (fun q => c (cf_t.1 q).2.1)]
  · rw [if_neg (show ¬ nI (if true = true then 1 else 0) = 0 by decide), if_neg (fun q => by rw [(cf_t.1 q).1] at hb; exact absurd hb (by decide))]
def tm_T (n : Nat) (dy nd : Nat → Nat) (L : Int) (m : Nat) (f g : Nat → Int32) : Prop := ∀ s, m ≤ s → s < 2 ^ n → f s = nI (nv (f s)) ∧ g s = nI (nv (g s)) ∧ tk_B n dy nd L s (nv (f s)) (nv (g s))
theorem tk_B_bd {n : Nat} {dy nd : Nat → Nat} {L : Int} {s m f : Nat} (hd : ∀ t, t < n → dy t ≤ 200) (h : tk_B n dy nd L s m f) : m ≤ n ∧ f ≤ 200 * n := by
  obtain ⟨⟨o, K, _, a2, a3⟩, _⟩ := h
  have h1 : tk_p n (dn s o K) ≤ n := fb_ct_le _ n
  have h2 := tk_d_bd (dy := dy) (w := dn s o K) n hd
  omega
theorem tm_b59 {N n s : Nat} {dy nd : Nat → Nat} {L : Int} {σ : am_S} {f g : Nat → Int32} {K : Int32 → am_S → Option am_S} (hN : 200 ≤ N) (h : tm_ok n dy nd L σ) (hs : s < 2 ^ n) (hT : tm_T n dy nd L (s + 1) f g) : ∀ r t q, t + r = n → r < q → fm_tellTasks_b59 N K q (nI s) (nI t) (tm_s σ (upd f s (nI (tk_in n dy nd L (fun u => nv (f u)) (fun u => nv (g u)) s t).1)) (upd g s (nI (tk_in n dy nd L (fun u => nv (f u)) (fun u => nv (g u)) s t).2))) = K (nI s + (-1)) (tm_s σ (upd f s (nI (tk_in n dy nd L (fun u => nv (f u)) (fun u => nv (g u)) s n).1)) (upd g s (nI (tk_in n dy nd L (fun u => nv (f u)) (fun u => nv (g u)) s n).2))) := by
  have hn := h.1
  have hs5 := tx_512 hn hs
  have hd : ∀ t, t < n → dy t ≤ 200 := fun t ht => (h.2.2.1 t ht).2
  have inb : ∀ t, t ≤ n → (tk_in n dy nd L (fun u => nv (f u)) (fun u => nv (g u)) s t).1 ≤ n ∧ (tk_in n dy nd L (fun u => nv (f u)) (fun u => nv (g u)) s t).2 ≤ 200 * n := by
    intro t
    induction t with
    | zero => intro _; exact ⟨fb_ct_le _ n, tk_d_bd n hd⟩
    | succ t ih =>
      intro ht
      rw [tk_in]
      by_cases c : tk_cf n dy nd L s t = true ∧ ((tk_in n dy nd L (fun u => nv (f u)) (fun u => nv (g u)) s t).1 < nv (f (s ||| 2 ^ t)) ∨ (nv (f (s ||| 2 ^ t)) = (tk_in n dy nd L (fun u => nv (f u)) (fun u => nv (g u)) s t).1 ∧ nv (g (s ||| 2 ^ t)) < (tk_in n dy nd L (fun u => nv (f u)) (fun u => nv (g u)) s t).2))
      · rw [if_pos c]
        have gt : s < s ||| 2 ^ t := by
          refine Nat.lt_of_le_of_ne (Nat.left_le_or) (fun e => ?_)
          have b := (cf_t.1 c.1).1
          rw [e, tk_bit, if_pos rfl] at b
          exact absurd b (by decide)
        exact tk_B_bd hd (hT _ gt (tm_or hn hs (by omega))).2.2
      · rw [if_neg c]
        exact ih (by omega)
  intro r
  induction r with
  | zero =>
    intro t q h1 h2
    obtain ⟨q, rfl⟩ : ∃ m, q = m + 1 := ⟨q - 1, by omega⟩
    have e : t = n := by omega
    subst e
    rw [fm_tellTasks_b59, (tm_ok_s h).2.1, if_pos (nI_le (Nat.le_refl _) (by omega))]
  | succ r ih =>
    intro t q h1 h2
    obtain ⟨q, rfl⟩ : ∃ m, q = m + 1 := ⟨q - 1, by omega⟩
    have ht : t < n := by omega
    have nx := ih (t + 1) q (by omega) (by omega)
    obtain ⟨p1, p2⟩ := inb t (by omega)
    rw [tk_in] at nx
    rw [fm_tellTasks_b59, (tm_ok_s h).2.1, if_neg (nI_ge (by omega) (by omega)), tm_can hN (tm_ok_s h) hs ht, hb_bind]
    unfold fm_tellTasks_b157
    rw [nI_1]
    by_cases c : tk_cf n dy nd L s t = true
    · have gt : s < s ||| 2 ^ t := by
        refine Nat.lt_of_le_of_ne (Nat.left_le_or) (fun e => ?_)
        have b := (cf_t.1 c).1
        rw [e, tk_bit, if_pos rfl] at b
        exact absurd b (by decide)
      have lo := tm_or hn hs ht
      have lo5 := tx_512 hn lo
      obtain ⟨q1, q2, q3⟩ := hT _ gt lo
      obtain ⟨q4, q5⟩ := tk_B_bd hd q3
      rw [if_pos c, if_neg (by decide)]
      unfold fm_tellTasks_b131 fm_tellTasks_b157
      generalize tk_in n dy nd L (fun u => nv (f u)) (fun u => nv (g u)) s t = I at *
      simp only [eb_sh (show t < 31 by omega), fa_or, hb_g (show s ||| 2 ^ t < 512 from lo5) (by decide), hb_g (show s < 512 from hs5) (by decide), nI_clamp (show s ||| 2 ^ t < 2 ^ 31 by omega), nI_clamp (show s < 2 ^ 31 by omega), tm_129, tm_130, hb_us, hb_un (show s ||| 2 ^ t ≠ s by omega), tm_u129, tm_u130, fa_upd_twice, nI_1]
      rw [q1, q2]
      by_cases d1 : I.1 < nv (f (s ||| 2 ^ t))
      · rw [if_pos (nI_lt d1 (by omega))]
        rw [if_pos ⟨c, Or.inl d1⟩] at nx
        exact nx
      · rw [if_neg (nI_nlt (by omega) (by omega))]
        by_cases d2 : nv (f (s ||| 2 ^ t)) = I.1
        · rw [if_pos (by rw [d2])]
          by_cases d3 : I.2 ≤ nv (g (s ||| 2 ^ t))
          · rw [if_pos (nI_le d3 (by omega))]
            rw [if_neg (fun q => q.2.elim d1 (fun q => by omega))] at nx
            exact nx
          · rw [if_neg (nI_ge (by omega) (by omega))]
            rw [if_pos ⟨c, Or.inr ⟨d2, by omega⟩⟩] at nx
            exact nx
        · rw [if_neg (by rw [nI_eq (by omega) (by omega)]; exact d2)]
          rw [if_neg (fun q => q.2.elim d1 (fun q => d2 q.1))] at nx
          exact nx
    · rw [if_neg c, if_pos rfl]
      rw [if_neg (fun q => c q.1)] at nx
      exact nx
theorem tm_b17 {N n s : Nat} {dy nd : Nat → Nat} {L : Int} {σ : am_S} {f g : Nat → Int32} {K : Int32 → am_S → Option am_S} (hN : 200 ≤ N) (h : tm_ok n dy nd L σ) (hs : s < 2 ^ n) : ∀ r t q, t + r = n → r < q → fm_tellTasks_b17 N K q (nI s) (nI (fb_ct (fun u => s.testBit u) t)) (nI t) (tm_s σ f g) = fm_tellTasks_b59 N K N (nI s) 0 (tm_s σ (upd f s (nI (tk_p n s))) (upd g s (nI (tk_d dy s n)))) := by
  have hn := h.1
  have hs5 := tx_512 hn hs
  intro r
  induction r with
  | zero =>
    intro t q h1 h2
    obtain ⟨q, rfl⟩ : ∃ m, q = m + 1 := ⟨q - 1, by omega⟩
    have e : t = n := by omega
    subst e
    rw [fm_tellTasks_b17, (tm_ok_s h).2.1, if_pos (nI_le (Nat.le_refl _) (by omega)), hb_g (by omega) (by decide), nI_clamp (by omega), tm_u129, tm_days hN (tm_ok_s h) hs5, hb_bind, hb_g (by omega) (by decide), tm_u130]
    rfl
  | succ r ih =>
    intro t q h1 h2
    obtain ⟨q, rfl⟩ : ∃ m, q = m + 1 := ⟨q - 1, by omega⟩
    have nx := ih (t + 1) q (by omega) (by omega)
    rw [fm_tellTasks_b17, (tm_ok_s h).2.1, if_neg (nI_ge (by omega) (by omega)), eb_bit (by omega) (by omega), nI_add, nI_1]
    rw [fb_ct_succ] at nx
    exact nx
theorem tm_b9 {N n : Nat} {dy nd : Nat → Nat} {L : Int} {σ : am_S} (hN : 200 ≤ N) (h : tm_ok n dy nd L σ) : ∀ s q f g, s < 2 ^ n → s + 1 < q → tm_T n dy nd L (s + 1) f g → ∃ f' g', fm_tellTasks_b9 N q (nI s) (tm_s σ f g) = some (tm_s σ f' g') ∧ tm_T n dy nd L 0 f' g' := by
  have hn := h.1
  have hd : ∀ t, t < n → dy t ≤ 200 := fun t ht => (h.2.2.1 t ht).2
  intro s
  induction s with
  | zero =>
    intro q f g hs hq hT
    obtain ⟨q, rfl⟩ : ∃ m, q = m + 2 := ⟨q - 2, by omega⟩
    have key : tm_T n dy nd L 0 (upd f 0 (nI (tk_in n dy nd L (fun u => nv (f u)) (fun u => nv (g u)) 0 n).1)) (upd g 0 (nI (tk_in n dy nd L (fun u => nv (f u)) (fun u => nv (g u)) 0 n).2)) := by
      intro u _ hu
      by_cases e : u = 0
      · subst e
        have B := tk_in_B (mt := fun u => nv (f u)) (fd := fun u => nv (g u)) (s := 0) (fun t ht hc => (hT _ (by
          refine Nat.lt_of_le_of_ne (Nat.zero_le _) (fun e => ?_)
          have b := (cf_t.1 hc).1
          rw [e, tk_bit, if_pos rfl] at b
          exact absurd b (by decide)) (tm_or hn hs ht)).2.2)
        obtain ⟨b1, b2⟩ := tk_B_bd hd B
        rw [hb_us, hb_us]
        have n1 : nv (nI (tk_in n dy nd L (fun u => nv (f u)) (fun u => nv (g u)) 0 n).1) = (tk_in n dy nd L (fun u => nv (f u)) (fun u => nv (g u)) 0 n).1 := nI_clamp (by omega)
        have n2 : nv (nI (tk_in n dy nd L (fun u => nv (f u)) (fun u => nv (g u)) 0 n).2) = (tk_in n dy nd L (fun u => nv (f u)) (fun u => nv (g u)) 0 n).2 := nI_clamp (by omega)
        rw [n1, n2]
        exact ⟨rfl, rfl, B⟩
      · rw [hb_un e, hb_un e]
        exact hT u (by omega) hu
    refine ⟨_, _, ?_, key⟩
    rw [fm_tellTasks_b9, if_neg (nI_pos (by omega))]
    have a := tm_b17 (N := N) (K := fun x1 σ => fm_tellTasks_b9 N (q + 1) x1 σ) (f := f) (g := g) hN h hs n 0 N (by omega) (by omega)
    have b := tm_b59 (N := N) (K := fun x1 σ => fm_tellTasks_b9 N (q + 1) x1 σ) hN h hs hT n 0 N (by omega) (by omega)
    refine Eq.trans a (Eq.trans b ?_)
    show fm_tellTasks_b9 N (q + 1) (nI 0 + (-1)) _ = _
    rw [fm_tellTasks_b9, if_pos (by decide)]
  | succ s ih =>
    intro q f g hs hq hT
    obtain ⟨q, rfl⟩ : ∃ m, q = m + 1 := ⟨q - 1, by omega⟩
    have l9 : 2 ^ n ≤ 2 ^ 9 := Nat.pow_le_pow_right (by decide) hn
    have key : tm_T n dy nd L (s + 1) (upd f (s + 1) (nI (tk_in n dy nd L (fun u => nv (f u)) (fun u => nv (g u)) (s + 1) n).1)) (upd g (s + 1) (nI (tk_in n dy nd L (fun u => nv (f u)) (fun u => nv (g u)) (s + 1) n).2)) := by
      intro u hu0 hu
      by_cases e : u = s + 1
      · subst e
        have B := tk_in_B (mt := fun u => nv (f u)) (fd := fun u => nv (g u)) (s := s + 1) (fun t ht hc => (hT _ (by
          refine Nat.lt_of_le_of_ne (Nat.left_le_or) (fun e => ?_)
          have b := (cf_t.1 hc).1
          rw [e, tk_bit, if_pos rfl] at b
          exact absurd b (by decide)) (tm_or hn hs ht)).2.2)
        obtain ⟨b1, b2⟩ := tk_B_bd hd B
        rw [hb_us, hb_us]
        have n1 : nv (nI (tk_in n dy nd L (fun u => nv (f u)) (fun u => nv (g u)) (s + 1) n).1) = (tk_in n dy nd L (fun u => nv (f u)) (fun u => nv (g u)) (s + 1) n).1 := nI_clamp (by omega)
        have n2 : nv (nI (tk_in n dy nd L (fun u => nv (f u)) (fun u => nv (g u)) (s + 1) n).2) = (tk_in n dy nd L (fun u => nv (f u)) (fun u => nv (g u)) (s + 1) n).2 := nI_clamp (by omega)
        rw [n1, n2]
        exact ⟨rfl, rfl, B⟩
      · rw [hb_un e, hb_un e]
        exact hT u (by omega) hu
    obtain ⟨f', g', e1, e2⟩ := ih q _ _ (by omega) (by omega) key
    refine ⟨f', g', ?_, e2⟩
    rw [fm_tellTasks_b9, if_neg (nI_pos (by omega))]
    have a := tm_b17 (N := N) (K := fun x1 σ => fm_tellTasks_b9 N q x1 σ) (f := f) (g := g) hN h hs n 0 N (by omega) (by omega)
    have b := tm_b59 (N := N) (K := fun x1 σ => fm_tellTasks_b9 N q x1 σ) hN h hs hT n 0 N (by omega) (by omega)
    refine Eq.trans a (Eq.trans b ?_)
    show fm_tellTasks_b9 N q (nI (s + 1) + (-1)) _ = _
    rw [pk_m1]
    exact e1
theorem sm_table {N n : Nat} {dy nd : Nat → Nat} {L : Int} {σ : am_S} (hN : 20000 ≤ N) (h : tm_ok n dy nd L σ) : ∃ f g, fm_tellTasks N σ = some (tm_s σ f g) ∧ tm_T n dy nd L 0 f g := by
  have hn := h.1
  have l9 : 2 ^ n ≤ 2 ^ 9 := Nat.pow_le_pow_right (by decide) hn
  have p0 : 0 < 2 ^ n := Nat.two_pow_pos n
  obtain ⟨f, g, e1, e2⟩ := tm_b9 (N := N) (by omega) h (2 ^ n - 1) N (σ 129) (σ 130) (by omega) (by omega) (fun s h1 h2 => by omega)
  refine ⟨f, g, ?_, e2⟩
  have e0 : tm_s σ (σ 129) (σ 130) = σ := by
    unfold tm_s
    rw [hb_set_self]
    exact hb_set_self
  rw [e0] at e1
  unfold fm_tellTasks
  rw [h.2.1, eb_sh (by omega), hb_L1, pk_sub (by omega)]
  exact e1
/-! the steps of the reference's answer -/
def tm_P (n : Nat) (dy nd : Nat → Nat) (L : Int) (mt fd : Nat → Nat) (s t : Nat) : Bool := tk_cf n dy nd L s t && decide (mt (s ||| 2 ^ t) = mt 0) && decide (fd (s ||| 2 ^ t) = fd 0)
def tm_gs (n : Nat) (dy nd : Nat → Nat) (L : Int) (mt fd : Nat → Nat) : Nat → Nat
  | 0 => 0
  | k + 1 => tm_gs n dy nd L mt fd k ||| 2 ^ fa_first (tm_P n dy nd L mt fd (tm_gs n dy nd L mt fd k)) n
def tm_q (n : Nat) (dy nd : Nat → Nat) (L : Int) (mt fd : Nat → Nat) (k : Nat) : Nat := fa_first (tm_P n dy nd L mt fd (tm_gs n dy nd L mt fd k)) n
theorem tm_dn {n : Nat} {dy nd : Nat → Nat} {L : Int} {mt fd : Nat → Nat} : ∀ k, dn 0 (tm_q n dy nd L mt fd) k = tm_gs n dy nd L mt fd k
  | 0 => rfl
  | k + 1 => by rw [dn, tm_dn k, tm_gs]; rfl
theorem tm_P_t {n : Nat} {dy nd : Nat → Nat} {L : Int} {mt fd : Nat → Nat} {s t : Nat} : tm_P n dy nd L mt fd s t = true ↔ tk_cf n dy nd L s t = true ∧ mt (s ||| 2 ^ t) = mt 0 ∧ fd (s ||| 2 ^ t) = fd 0 := by
  unfold tm_P
  rw [Bool.and_eq_true, Bool.and_eq_true, decide_eq_true_eq, decide_eq_true_eq, and_assoc]
theorem tm_ex {n : Nat} {dy nd : Nat → Nat} {L : Int} {mt fd : Nat → Nat} {s : Nat} (hn : n ≤ 9) (hT : ∀ s, s < 2 ^ n → tk_B n dy nd L s (mt s) (fd s)) (hs : s < 2 ^ n) (h1 : mt s = mt 0) (h2 : fd s = fd 0) (hp : tk_p n s < mt 0) : ∃ t, t < n ∧ tm_P n dy nd L mt fd s t = true := by
  have B := hT s hs
  obtain ⟨⟨o, K, a1, a2, a3⟩, bB⟩ := B
  have hK : K ≠ 0 := by
    intro e
    subst e
    have : dn s o 0 = s := rfl
    rw [this] at a2
    omega
  obtain ⟨J, rfl⟩ : ∃ J, K = J + 1 := ⟨K - 1, by omega⟩
  obtain ⟨r1, r2, r3, r4⟩ := rn_tl a1
  refine ⟨o 0, r1, tm_P_t.2 ⟨r2, ?_⟩⟩
  obtain ⟨⟨o2, K2, d1, d2, d3⟩, bB2⟩ := hT (s ||| 2 ^ o 0) (tm_or hn hs r1)
  have c1 := bB2 _ _ r3
  rw [← r4] at c1
  have c2 := bB _ _ (rn_cs r1 r2 d1)
  rw [dn_cs] at c2
  omega
theorem tm_go {n : Nat} {dy nd : Nat → Nat} {L : Int} {mt fd : Nat → Nat} (hn : n ≤ 9) (hT : ∀ s, s < 2 ^ n → tk_B n dy nd L s (mt s) (fd s)) : ∀ k, k ≤ mt 0 → tm_gs n dy nd L mt fd k < 2 ^ n ∧ mt (tm_gs n dy nd L mt fd k) = mt 0 ∧ fd (tm_gs n dy nd L mt fd k) = fd 0 ∧ tk_p n (tm_gs n dy nd L mt fd k) = k ∧ (k < mt 0 → tm_q n dy nd L mt fd k < n ∧ tm_P n dy nd L mt fd (tm_gs n dy nd L mt fd k) (tm_q n dy nd L mt fd k) = true)
  | 0, h0 => by
    refine ⟨Nat.two_pow_pos n, rfl, rfl, tk_p0, fun hk => ?_⟩
    have ex := tm_ex hn hT (Nat.two_pow_pos n) rfl rfl (by rw [tk_p0]; exact hk)
    have lt : fa_first (tm_P n dy nd L mt fd 0) n < n := by
      obtain ⟨t, t1, t2⟩ := ex
      refine Classical.byContradiction fun q => ?_
      have := fa_first_no (tm_P n dy nd L mt fd 0) n t (by omega)
      rw [t2] at this
      exact absurd this (by decide)
    exact ⟨lt, fa_first_yes _ n lt⟩
  | k + 1, hk => by
    obtain ⟨i1, i2, i3, i4, i5⟩ := tm_go hn hT k (by omega)
    obtain ⟨j1, j2⟩ := i5 (by omega)
    have P := tm_P_t.1 j2
    have e : tm_gs n dy nd L mt fd (k + 1) = tm_gs n dy nd L mt fd k ||| 2 ^ tm_q n dy nd L mt fd k := rfl
    rw [e]
    have lt := tm_or hn i1 j1
    have pp : tk_p n (tm_gs n dy nd L mt fd k ||| 2 ^ tm_q n dy nd L mt fd k) = k + 1 := by rw [tk_p_add j1 (cf_t.1 P.1).1, i4]
    refine ⟨lt, P.2.1, P.2.2, pp, fun hk2 => ?_⟩
    have ex := tm_ex hn hT lt P.2.1 P.2.2 (by omega)
    have lt2 : fa_first (tm_P n dy nd L mt fd (tm_gs n dy nd L mt fd (k + 1))) n < n := by
      obtain ⟨t, t1, t2⟩ := ex
      refine Classical.byContradiction fun q => ?_
      have := fa_first_no (tm_P n dy nd L mt fd (tm_gs n dy nd L mt fd (k + 1))) n t (by omega)
      rw [e, t2] at this
      exact absurd this (by decide)
    exact ⟨lt2, fa_first_yes _ n lt2⟩
theorem tm_b72 {N n s x1 k : Nat} {dy nd : Nat → Nat} {L : Int} {σ : am_S} {f g : Nat → Int32} {K64 : Int32 → Int32 → Int32 → Int32 → am_S → Option (Int32 × am_S)} (hN : 200 ≤ N) (h : tm_ok n dy nd L σ) (hT : tm_T n dy nd L 0 f g) (hs : s < 2 ^ n) (hf : fa_first (tm_P n dy nd L (fun u => nv (f u)) (fun u => nv (g u)) s) n < n) : ∀ r t q, t + r = fa_first (tm_P n dy nd L (fun u => nv (f u)) (fun u => nv (g u)) s) n → r < q → fm_best_b72 N K64 q (nI x1) (nI s) (nI t) (nI k) (tm_s σ f g) = K64 (nI x1) (nI (s ||| 2 ^ fa_first (tm_P n dy nd L (fun u => nv (f u)) (fun u => nv (g u)) s) n)) (nI (fa_first (tm_P n dy nd L (fun u => nv (f u)) (fun u => nv (g u)) s) n)) (nI (k + 1)) (tm_s σ f g) := by
  have hn := h.1
  have hd : ∀ t, t < n → dy t ≤ 200 := fun t ht => (h.2.2.1 t ht).2
  have p0 : 0 < 2 ^ n := Nat.two_pow_pos n
  obtain ⟨z1, z2, z3⟩ := hT 0 (Nat.le_refl 0) p0
  obtain ⟨z4, z5⟩ := tk_B_bd hd z3
  have run : ∀ t q, t < n → fm_best_b72 N K64 (q + 1) (nI x1) (nI s) (nI t) (nI k) (tm_s σ f g) = if tm_P n dy nd L (fun u => nv (f u)) (fun u => nv (g u)) s t = true then K64 (nI x1) (nI (s ||| 2 ^ t)) (nI t) (nI (k + 1)) (tm_s σ f g) else fm_best_b72 N K64 q (nI x1) (nI s) (nI (t + 1)) (nI k) (tm_s σ f g) := by
    intro t q ht
    have lo := tm_or hn hs ht
    have lo5 := tx_512 hn lo
    obtain ⟨y1, y2, y3⟩ := hT _ (Nat.zero_le _) lo
    obtain ⟨y4, y5⟩ := tk_B_bd hd y3
    rw [fm_best_b72, tm_can hN (tm_ok_s h) hs ht, hb_bind]
    unfold fm_best_b119
    rw [nI_1, nI_1, eb_sh (by omega), fa_or]
    by_cases c : tk_cf n dy nd L s t = true
    · rw [if_pos c, if_neg (by decide)]
      simp only [hb_g (show s ||| 2 ^ t < 512 from lo5) (by decide), hb_gt (hb_in0 (show 0 < 512 by decide) (by decide)), nI_clamp (show s ||| 2 ^ t < 2 ^ 31 by omega), hb_cl0, tm_129, tm_130]
      rw [y1, y2, z1, z2]
      by_cases d1 : nv (f (s ||| 2 ^ t)) = nv (f 0)
      · rw [if_pos (by rw [d1])]
        by_cases d2 : nv (g (s ||| 2 ^ t)) = nv (g 0)
        · rw [if_pos (by rw [d2]), if_pos (tm_P_t.2 ⟨c, d1, d2⟩)]
        · rw [if_neg (by rw [nI_eq (by omega) (by omega)]; exact d2), if_neg (fun q => d2 (tm_P_t.1 q).2.2)]
      · rw [if_neg (by rw [nI_eq (by omega) (by omega)]; exact d1), if_neg (fun q => d1 (tm_P_t.1 q).2.1)]
    · rw [if_neg c, if_pos rfl, if_neg (fun q => c (tm_P_t.1 q).1)]
  intro r
  induction r with
  | zero =>
    intro t q h1 h2
    obtain ⟨q, rfl⟩ : ∃ m, q = m + 1 := ⟨q - 1, by omega⟩
    have e : t = fa_first (tm_P n dy nd L (fun u => nv (f u)) (fun u => nv (g u)) s) n := by omega
    rw [run t q (by omega), e, if_pos (fa_first_yes _ n hf)]
  | succ r ih =>
    intro t q h1 h2
    obtain ⟨q, rfl⟩ : ∃ m, q = m + 1 := ⟨q - 1, by omega⟩
    have no := fa_first_no (tm_P n dy nd L (fun u => nv (f u)) (fun u => nv (g u)) s) n t (by omega)
    rw [run t q (by omega), if_neg (by rw [no]; decide)]
    exact ih (t + 1) q (by omega) (by omega)
theorem tm_b64 {N n x1 : Nat} {dy nd : Nat → Nat} {L : Int} {σ : am_S} {f g : Nat → Int32} (hN : 200 ≤ N) (h : tm_ok n dy nd L σ) (hT : tm_T n dy nd L 0 f g) (hx : x1 < nv (f 0)) : ∀ r k q (x3 : Int32), k + r = x1 + 1 → r < q → (k = 0 ∨ x3 = nI (tm_q n dy nd L (fun u => nv (f u)) (fun u => nv (g u)) (k - 1))) → fm_best_b64 N q (nI x1) (nI (tm_gs n dy nd L (fun u => nv (f u)) (fun u => nv (g u)) k)) x3 (nI k) (tm_s σ f g) = some (nI (tm_q n dy nd L (fun u => nv (f u)) (fun u => nv (g u)) x1), tm_s σ f g) := by
  have hn := h.1
  have hd : ∀ t, t < n → dy t ≤ 200 := fun t ht => (h.2.2.1 t ht).2
  have p0 : 0 < 2 ^ n := Nat.two_pow_pos n
  obtain ⟨z4, z5⟩ := tk_B_bd hd (hT 0 (Nat.le_refl 0) p0).2.2
  have hT' : ∀ s, s < 2 ^ n → tk_B n dy nd L s (nv (f s)) (nv (g s)) := fun s hs => (hT s (Nat.zero_le s) hs).2.2
  intro r
  induction r with
  | zero =>
    intro k q x3 h1 h2 h3
    obtain ⟨q, rfl⟩ : ∃ m, q = m + 1 := ⟨q - 1, by omega⟩
    rw [fm_best_b64, if_pos (nI_lt (by omega) (by omega))]
    rcases h3 with h3 | h3
    · omega
    · rw [h3, show k - 1 = x1 by omega]
  | succ r ih =>
    intro k q x3 h1 h2 h3
    obtain ⟨q, rfl⟩ : ∃ m, q = m + 1 := ⟨q - 1, by omega⟩
    obtain ⟨i1, i2, i3, i4, i5⟩ := tm_go (mt := fun u => nv (f u)) (fd := fun u => nv (g u)) hn hT' k (by show k ≤ nv (f 0); omega)
    obtain ⟨j1, j2⟩ := i5 (by show k < nv (f 0); omega)
    have le := fa_first_le (tm_P n dy nd L (fun u => nv (f u)) (fun u => nv (g u)) (tm_gs n dy nd L (fun u => nv (f u)) (fun u => nv (g u)) k)) n
    rw [fm_best_b64, if_neg (nI_nlt (by omega) (by omega)), hb_L0]
    rw [tm_b72 (N := N) hN h hT i1 j1 (fa_first (tm_P n dy nd L (fun u => nv (f u)) (fun u => nv (g u)) (tm_gs n dy nd L (fun u => nv (f u)) (fun u => nv (g u)) k)) n) 0 N (by omega) (by omega)]
    exact ih (k + 1) q _ (by omega) (by omega) (Or.inr rfl)
