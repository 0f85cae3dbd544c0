/-! ===== the class's days from one parish ===== -/
theorem bx_fill {N : Nat} {σ : am_S} {v : Int32} : ∀ r k n f, k + r = 12 → r < n → (∀ m, m < k → f m = v) → ∃ g, fx_Arr_fill_12_b5 N n v (nI k) 12 (am_set σ 12 f) = some (am_set σ 12 g) ∧ ∀ m, m < 12 → g m = v := by
  intro r
  induction r with
  | zero =>
    intro k n f h1 h2 h3
    obtain ⟨n, rfl⟩ : ∃ m, n = m + 1 := ⟨n - 1, by omega⟩
    have e : k = 12 := by omega
    subst e
    refine ⟨f, ?_, h3⟩
    rw [fx_Arr_fill_12_b5, hb_L12, if_pos (nI_le (Nat.le_refl _) (by decide))]
  | succ r ih =>
    intro k n f h1 h2 h3
    obtain ⟨n, rfl⟩ : ∃ m, n = m + 1 := ⟨n - 1, by omega⟩
    have hst : ∀ m, m < k + 1 → upd f k v m = v := by
      intro m hm
      by_cases e : m = k
      · subst e; rw [hb_us]
      · rw [hb_un e]; exact h3 m (by omega)
    obtain ⟨g, a, b⟩ := ih (k + 1) n _ (by omega) (by omega) hst
    refine ⟨g, ?_, b⟩
    rw [← a, fx_Arr_fill_12_b5, if_neg (by rw [hb_L12]; exact nI_ge (by omega) (by decide)), hb_g (by omega) (by decide), nI_clamp (by omega), hb_upset, nI_1]
def bx_rp (g : Nat → Int32) (f : Nat → Nat) : Prop := ∀ v, v < 12 → g v = nI (f v)
theorem bx_sh {N n e : Nat} {ea eb ed : Nat → Nat} {σ : am_S} {x1 : Int32} {f : Nat → Nat} (hn : n ≤ 12) (he : e ≤ 30) (h5 : σ 1 12 = nI e) (hE : eg_ok n e (σ 6) (σ 7) (σ 8) ea eb ed) (hf : ∀ v, v < 12 → f v ≤ 1000000) : ∀ r m q g fl, m + r = e → r < q → bx_rp g (bf_rd ea eb ed (ds_ok x1 (σ 9)) m f) → (fl = 0 ∨ fl = 1) → (fl = 0 → (∀ v, bf_rd ea eb ed (ds_ok x1 (σ 9)) m f v = f v) ∧ bf_st m ea eb ed (ds_ok x1 (σ 9)) f) → ∃ g' fl', fx_Land_shorten_b4 N q x1 fl (nI m) (am_set σ 12 g) = some (fl', am_set σ 12 g') ∧ bx_rp g' (bf_rd ea eb ed (ds_ok x1 (σ 9)) e f) ∧ (fl' = 0 → (∀ v, bf_rd ea eb ed (ds_ok x1 (σ 9)) e f v = f v) ∧ bf_st e ea eb ed (ds_ok x1 (σ 9)) f) := by
  intro r
  induction r with
  | zero =>
    intro m q g fl h1 h2 h3 h4 h6
    obtain ⟨q, rfl⟩ : ∃ m, q = m + 1 := ⟨q - 1, by omega⟩
    have e1 : m = e := by omega
    subst e1
    refine ⟨g, fl, ?_, h3, h6⟩
    rw [fx_Land_shorten_b4, hb_set_ne (by decide), h5, if_pos (nI_le (Nat.le_refl _) (by omega))]
    refine hb_gt ?_
    rcases h4 with h | h
    · rw [h]; rfl
    · rw [h]; rfl
  | succ r ih =>
    intro m q g fl h1 h2 h3 h4 h6
    obtain ⟨q, rfl⟩ : ∃ m, q = m + 1 := ⟨q - 1, by omega⟩
    have hm : m < e := by omega
    obtain ⟨hA, hB, hL, ha, hb, hne, hd1, hd9⟩ := hE m hm
    have va := h3 (ea m) (by omega)
    have vb := h3 (eb m) (by omega)
    have ba := Nat.le_trans (bf_rd_mono (ea := ea) (eb := eb) (ed := ed) (ok := ds_ok x1 (σ 9)) (f := f) (ea m) (Nat.zero_le m)) (hf (ea m) (by omega))
    have bb := Nat.le_trans (bf_rd_mono (ea := ea) (eb := eb) (ed := ed) (ok := ds_ok x1 (σ 9)) (f := f) (eb m) (Nat.zero_le m)) (hf (eb m) (by omega))
    by_cases ho : ds_ok x1 (σ 9) m = true
    · have es : bf_rd ea eb ed (ds_ok x1 (σ 9)) (m + 1) f = bf_rx (ea m) (eb m) (ed m) (bf_rd ea eb ed (ds_ok x1 (σ 9)) m f) := by rw [bf_rd, if_pos ho]
      have key : ∃ g' fl', fx_Land_shorten_b28 N (fun x1 x2 x3 σ => fx_Land_shorten_b4 N q x1 x2 x3 σ) x1 fl (nI m) (am_set σ 12 g) = some (fl', am_set σ 12 g') ∧ bx_rp g' (bf_rd ea eb ed (ds_ok x1 (σ 9)) e f) ∧ (fl' = 0 → (∀ v, bf_rd ea eb ed (ds_ok x1 (σ 9)) e f v = f v) ∧ bf_st e ea eb ed (ds_ok x1 (σ 9)) f) := by
        generalize hF : bf_rd ea eb ed (ds_ok x1 (σ 9)) m f = F at *
        unfold fx_Land_shorten_b28
        simp only [hb_set_ne (show 6 ≠ 12 by decide), hb_set_ne (show 7 ≠ 12 by decide), hb_set_ne (show 8 ≠ 12 by decide), hb_g (show m < 30 by omega) (by decide), nI_clamp (show m < 2 ^ 31 by omega), hA, hB, hL, hb_g (show ea m < 12 by omega) (by decide), hb_g (show eb m < 12 by omega) (by decide), nI_clamp (show ea m < 2 ^ 31 by omega), nI_clamp (show eb m < 2 ^ 31 by omega), hb_set_eq, va, vb, nI_add, nI_leI (show F (eb m) < 2 ^ 31 by omega) (show F (ea m) + ed m < 2 ^ 31 by omega), nI_leI (show F (ea m) < 2 ^ 31 by omega) (show F (eb m) + ed m < 2 ^ 31 by omega), fx_Land_shorten_b141, hb_upset, nI_1]
        by_cases c1 : F (eb m) ≤ F (ea m) + ed m
        · rw [if_pos c1]
          by_cases c2 : F (ea m) ≤ F (eb m) + ed m
          · rw [if_pos c2]
            have same : ∀ v, bf_rx (ea m) (eb m) (ed m) F v = F v := by
              intro v; unfold bf_rx; rw [if_neg (by omega), if_neg (by omega)]
            refine ih (m + 1) q g fl (by omega) (by omega) ?_ h4 ?_
            · intro v hv; rw [es, same v]; exact h3 v hv
            · intro hz
              obtain ⟨k1, k2⟩ := h6 hz
              refine ⟨?_, ?_⟩
              · intro v; rw [es, same v]; exact k1 v
              · intro k hk hok
                by_cases e1 : k = m
                · subst e1; rw [← k1 (eb k), ← k1 (ea k)]; exact ⟨c1, c2⟩
                · exact k2 k (by omega) hok
          · rw [if_neg c2]
            refine ih (m + 1) q _ 1 (by omega) (by omega) ?_ (Or.inr rfl) (fun h => absurd h (by decide))
            intro v hv
            rw [es]
            unfold bf_rx
            rw [if_neg (by omega), if_pos (by omega)]
            by_cases e1 : v = ea m
            · subst e1; rw [hb_us, if_pos rfl]
            · rw [hb_un e1, if_neg e1]; exact h3 v hv
        · rw [if_neg c1]
          refine ih (m + 1) q _ 1 (by omega) (by omega) ?_ (Or.inr rfl) (fun h => absurd h (by decide))
          intro v hv
          rw [es]
          unfold bf_rx
          rw [if_pos (by omega)]
          by_cases e1 : v = eb m
          · subst e1; rw [hb_us, if_pos rfl]
          · rw [hb_un e1, if_neg e1]; exact h3 v hv
      rw [fx_Land_shorten_b4, hb_set_ne (by decide), h5, if_neg (nI_ge hm (by omega))]
      have ho2 := of_decide_eq_true ho
      by_cases q2 : x1 = 0
      · rw [if_pos q2]; exact key
      · rw [if_neg q2, hb_g (by omega) (by decide), hb_set_ne (by decide), nI_clamp (by omega), if_neg (ho2.resolve_left q2)]
        exact key
    · have es : bf_rd ea eb ed (ds_ok x1 (σ 9)) (m + 1) f = bf_rd ea eb ed (ds_ok x1 (σ 9)) m f := by rw [bf_rd, if_neg ho]
      have ho2 : ¬ (x1 = 0 ∨ ¬ σ 9 m = 0) := fun h => ho (decide_eq_true h)
      have q2 : σ 9 m = 0 := Classical.byContradiction (fun h => ho2 (Or.inr h))
      have q3 : ¬ x1 = 0 := fun h => ho2 (Or.inl h)
      rw [fx_Land_shorten_b4, hb_set_ne (by decide), h5, if_neg (nI_ge hm (by omega)), if_neg q3, hb_g (by omega) (by decide), hb_set_ne (by decide), nI_clamp (by omega), if_pos q2]
      unfold fx_Land_shorten_b141
      rw [nI_1]
      refine ih (m + 1) q g fl (by omega) (by omega) ?_ h4 ?_
      · rw [es]; exact h3
      · intro hz
        obtain ⟨k1, k2⟩ := h6 hz
        refine ⟨?_, ?_⟩
        · rw [es]; exact k1
        · intro k hk hok
          by_cases e1 : k = m
          · subst e1; exact absurd hok ho
          · exact k2 k (by omega) hok
theorem bx_ms {N n e s : Nat} {ea eb ed : Nat → Nat} {σ : am_S} {x1 : Int32} {D : Nat → Nat → Nat} (hN : 200 ≤ N) (hn : n ≤ 12) (he : e ≤ 30) (h4 : σ 1 11 = nI n) (h5 : σ 1 12 = nI e) (hE : eg_ok n e (σ 6) (σ 7) (σ 8) ea eb ed) (hs : s < n) (hD : ds_D e ea eb ed (ds_ok x1 (σ 9)) D) : ∀ r k q g f, k + r = n → 1 ≤ k → r < q → bx_rp g f → (∀ v, v < 12 → f v ≤ 1000000) → bf_lb n s D f → bf_ub n (k - 1) s D f → f s = 0 → ∃ g', fx_Land_measureFrom_b18 N q x1 (nI k) (am_set σ 12 g) = some (am_set σ 12 g') ∧ ∀ v, v < n → g' v = nI (ds_x D s v) := by
  intro r
  induction r with
  | zero =>
    intro k q g f h1 h2 h3 hr hf hl hu h0
    obtain ⟨q, rfl⟩ : ∃ m, q = m + 1 := ⟨q - 1, by omega⟩
    have e1 : k = n := by omega
    subst e1
    refine ⟨g, ?_, ?_⟩
    · rw [fx_Land_measureFrom_b18, hb_set_ne (by decide), h4, if_pos (nI_le (Nat.le_refl _) (by omega))]
    · intro v hv
      rw [hr v (by omega), ds_fin (r := k) hl (fun u hu1 hu2 => hu u hu1 hu2 (by have := ds_rk_n (D := D) (i := s) hu1; omega)) hv]
  | succ r ih =>
    intro k q g f h1 h2 h3 hr hf hl hu h0
    obtain ⟨q, rfl⟩ : ∃ m, q = m + 1 := ⟨q - 1, by omega⟩
    obtain ⟨g1, fl, a1, a2, a3⟩ := bx_sh (N := N) (x1 := x1) hn he h5 hE hf e 0 N g 0 (by omega) (by omega) hr (Or.inl rfl) (fun _ => ⟨fun v => rfl, fun k hk => absurd hk (Nat.not_lt_zero k)⟩)
    rw [fx_Land_measureFrom_b18, hb_set_ne (by decide), h4, if_neg (nI_ge (by omega) (by omega))]
    unfold fx_Land_shorten
    rw [hb_L0] at a1 ⊢
    rw [a1, hb_bind]
    by_cases hz : fl = nI 0
    · rw [if_pos hz]
      obtain ⟨b1, b2⟩ := a3 hz
      refine ⟨g1, rfl, ?_⟩
      intro v hv
      rw [a2 v (by omega), b1 v, ds_fin (r := k) hl (fun u hu1 hu2 => bf_st_ub hn (eg_E hE) hD hs h0 b2 _ u hu1 hu2 rfl) hv]
    · rw [if_neg hz, nI_1]
      have m0 := bf_rd_mono (ea := ea) (eb := eb) (ed := ed) (ok := ds_ok x1 (σ 9)) (f := f)
      have e2 : k + 1 - 1 = k - 1 + 1 := by omega
      refine ih (k + 1) q g1 _ (by omega) (by omega) (by omega) a2 (fun v hv => Nat.le_trans (m0 v (Nat.zero_le e)) (hf v hv)) (bf_rd_lb hn (eg_E hE) hD hs hl e (Nat.le_refl e)) ?_ ?_
      · rw [e2]
        exact bf_rd_ub hn (eg_E hE) hD hs hu
      · have := m0 s (Nat.zero_le e)
        have e0 : bf_rd ea eb ed (ds_ok x1 (σ 9)) 0 f s = f s := rfl
        omega
theorem sx_meas {N n e s : Nat} {ea eb ed : Nat → Nat} {σ : am_S} {x1 : Int32} {D : Nat → Nat → Nat} (hN : 200 ≤ N) (hn : n ≤ 12) (he : e ≤ 30) (h4 : σ 1 11 = nI n) (h5 : σ 1 12 = nI e) (hE : eg_ok n e (σ 6) (σ 7) (σ 8) ea eb ed) (hs : s < n) (hD : ds_D e ea eb ed (ds_ok x1 (σ 9)) D) : ∃ g, fx_Land_measureFrom N (nI s) x1 σ = some (am_set σ 12 g) ∧ ∀ v, v < n → g v = nI (ds_x D s v) := by
  obtain ⟨g0, a, b⟩ := bx_fill (N := N) (σ := σ) (v := 1000000) 12 0 N (σ 12) (by omega) (by omega) (fun m hm => absurd hm (Nat.not_lt_zero m))
  rw [hb_set_self] at a
  have hr : bx_rp (upd g0 s 0) (fun v => if v = s then 0 else 1000000) := by
    intro v hv
    show upd g0 s 0 v = nI (if v = s then 0 else 1000000)
    by_cases e1 : v = s
    · subst e1; rw [hb_us, if_pos rfl]; rfl
    · rw [hb_un e1, if_neg e1, b v hv]; rfl
  have hss := hD.1 s (by omega)
  obtain ⟨g', c, d⟩ := bx_ms (x1 := x1) hN hn he h4 h5 hE hs hD (n - 1) 1 N (upd g0 s 0) (fun v => if v = s then 0 else 1000000) (by omega) (by omega) (by omega) hr
    (fun v _ => by show (if v = s then 0 else 1000000) ≤ 1000000; split <;> omega)
    (by
      intro v hv
      show (if v = s then 0 else 1000000) ≤ 1000000 ∧ ((if v = s then 0 else 1000000) < 1000000 → D s v < 100000 ∧ D s v ≤ (if v = s then 0 else 1000000))
      by_cases e1 : v = s
      · subst e1; rw [if_pos rfl]; omega
      · rw [if_neg e1]; omega)
    (by
      intro v hv hlt hrk
      show (if v = s then 0 else 1000000) ≤ D s v
      by_cases e1 : v = s
      · rw [if_pos e1]; omega
      · exfalso
        obtain ⟨k, k1, k2, k3⟩ := hD.2.2.2.2 s v (by omega) (by omega) (fun h => e1 h.symm) hlt
        have k4 := hE k k1
        have k5 := ds_rk_lt (D := D) (i := s) (u := s) (v := v) hs (by omega)
        omega)
    (if_pos rfl)
  refine ⟨g', ?_, d⟩
  unfold fx_Land_measureFrom fx_Arr_fill_12
  have a' : fx_Arr_fill_12_b5 N N 1000000 0 12 σ = some (am_set σ 12 g0) := a
  rw [a', hb_bind, hb_g (by omega) (by decide), nI_clamp (by omega), hb_upset]
  exact c
