/-! ===== the reference's table of ways ===== -/
theorem hb_upset {σ : am_S} {c k : Nat} {f : Nat → Int32} {v : Int32} : am_up (am_set σ c f) c k v = am_set σ c (upd f k v) := by
  unfold am_up
  rw [hb_set_eq]
  funext c'
  unfold am_set
  split <;> rfl
theorem hb_set_self {σ : am_S} {c : Nat} : am_set σ c (σ c) = σ := by
  funext c'
  unfold am_set
  split
  · rename_i h; rw [h]
  · rfl
theorem hb_setset {σ : am_S} {c : Nat} {f g : Nat → Int32} : am_set (am_set σ c f) c g = am_set σ c g := by
  funext c'
  unfold am_set
  split <;> rfl
def wy_rp (f : Nat → Int32) (D : Nat → Nat → Nat) : Prop := ∀ i j, i < 12 → j < 12 → f (12 * i + j) = nI (D i j)
def wy_mx (k i j : Nat) (D : Nat → Nat → Nat) : Nat → Nat → Nat := fun i' j' => if i' < i ∨ (i' = i ∧ j' < j) then ds_fw k D i' j' else D i' j'
theorem wy_mx_ik {k i j : Nat} {D : Nat → Nat → Nat} (h0 : D k k = 0) : wy_mx k i j D i k = D i k := by
  unfold wy_mx ds_fw
  split <;> omega
theorem wy_mx_kj {k i j : Nat} {D : Nat → Nat → Nat} (h0 : D k k = 0) : wy_mx k i j D k j = D k j := by
  unfold wy_mx ds_fw
  split <;> omega
theorem wy_mx_ij {k i j : Nat} {D : Nat → Nat → Nat} : wy_mx k i j D i j = D i j := by
  unfold wy_mx
  rw [if_neg (by omega)]
theorem wy_ix {i j : Nat} : (12 : Int32) * nI i + nI j = nI (12 * i + j) := by
  rw [hb_L12, pk_mul, nI_add]
theorem wy_b166 {N k i : Nat} {D : Nat → Nat → Nat} {K149 : Int32 → am_S → Option am_S} {K157 : Int32 → Int32 → am_S → Option am_S} {σ : am_S} (hk : k < 12) (hi : i < 12) (h0 : D k k = 0) (hD : ∀ i j, i < 12 → j < 12 → D i j ≤ 100000) : ∀ r j n f, j + r = 12 → r < n → wy_rp f (wy_mx k i j D) → ∃ g, fm_tellWays_b166 N K149 K157 n (nI k) (nI i) (nI j) (am_set σ 124 f) = K157 (nI k) (nI (i + 1)) (am_set σ 124 g) ∧ wy_rp g (wy_mx k (i + 1) 0 D) := by
  intro r
  induction r with
  | zero =>
    intro j n f h1 h2 h3
    obtain ⟨n, rfl⟩ : ∃ m, n = m + 1 := ⟨n - 1, by omega⟩
    have e : j = 12 := by omega
    subst e
    refine ⟨f, ?_, ?_⟩
    · rw [fm_tellWays_b166, hb_L12, if_pos (nI_le (Nat.le_refl _) (by decide)), nI_1]
    · intro a b ha hb
      rw [h3 a b ha hb]
      unfold wy_mx
      by_cases q : a < i ∨ (a = i ∧ b < 12)
      · rw [if_pos q, if_pos (by omega)]
      · rw [if_neg q, if_neg (by omega)]
  | succ r ih =>
    intro j n f h1 h2 h3
    obtain ⟨n, rfl⟩ : ∃ m, n = m + 1 := ⟨n - 1, by omega⟩
    have hj : j < 12 := by omega
    have v1 := h3 i k hi hk
    have v2 := h3 k j hk hj
    have v3 := h3 i j hi hj
    rw [wy_mx_ik h0] at v1
    rw [wy_mx_kj h0] at v2
    rw [wy_mx_ij] at v3
    have b1 := hD i k hi hk
    have b2 := hD k j hk hj
    have b3 := hD i j hi hj
    have hst : wy_rp (upd f (12 * i + j) (nI (ds_fw k D i j))) (wy_mx k i (j + 1) D) := by
      intro a b ha hb
      by_cases q : a = i ∧ b = j
      · obtain ⟨rfl, rfl⟩ := q
        rw [hb_us]
        unfold wy_mx
        rw [if_pos (by omega)]
      · rw [hb_un (by omega), h3 a b ha hb]
        unfold wy_mx
        by_cases q2 : a < i ∨ (a = i ∧ b < j)
        · rw [if_pos q2, if_pos (by omega)]
        · rw [if_neg q2, if_neg (by omega)]
    obtain ⟨g, hg1, hg2⟩ := ih (j + 1) n _ (by omega) (by omega) hst
    refine ⟨g, ?_, hg2⟩
    rw [fm_tellWays_b166, if_neg (by rw [hb_L12]; exact nI_ge hj (by decide))]
    simp only [wy_ix, hb_g (show 12 * i + k < 144 by omega) (by decide), hb_g (show 12 * k + j < 144 by omega) (by decide), hb_g (show 12 * i + j < 144 by omega) (by decide), nI_clamp (show 12 * i + k < 2 ^ 31 by omega), nI_clamp (show 12 * k + j < 2 ^ 31 by omega), nI_clamp (show 12 * i + j < 2 ^ 31 by omega), hb_set_eq, v1, v2, v3, nI_add, fm_tellWays_b244, hb_upset, nI_1, nI_leI (show D i j < 2 ^ 31 by omega) (show D i k + D k j < 2 ^ 31 by omega)]
    rw [← hg1]
    by_cases q : D i j ≤ D i k + D k j
    · rw [if_pos q]
      have e : ds_fw k D i j = D i j := by unfold ds_fw; omega
      rw [e]
    · rw [if_neg q]
      have e : ds_fw k D i j = D i k + D k j := by unfold ds_fw; omega
      rw [e]
theorem wy_b157 {N k : Nat} {D : Nat → Nat → Nat} {K149 : Int32 → am_S → Option am_S} {σ : am_S} (hN : 200 ≤ N) (hk : k < 12) (h0 : D k k = 0) (hD : ∀ i j, i < 12 → j < 12 → D i j ≤ 100000) : ∀ r i n f, i + r = 12 → r < n → wy_rp f (wy_mx k i 0 D) → ∃ g, fm_tellWays_b157 N K149 n (nI k) (nI i) (am_set σ 124 f) = K149 (nI (k + 1)) (am_set σ 124 g) ∧ wy_rp g (ds_fw k D) := by
  intro r
  induction r with
  | zero =>
    intro i n f h1 h2 h3
    obtain ⟨n, rfl⟩ : ∃ m, n = m + 1 := ⟨n - 1, by omega⟩
    have e : i = 12 := by omega
    subst e
    refine ⟨f, ?_, ?_⟩
    · rw [fm_tellWays_b157, hb_L12, if_pos (nI_le (Nat.le_refl _) (by decide)), nI_1]
    · intro a b ha hb
      rw [h3 a b ha hb]
      unfold wy_mx
      rw [if_pos (by omega)]
  | succ r ih =>
    intro i n f h1 h2 h3
    obtain ⟨n, rfl⟩ : ∃ m, n = m + 1 := ⟨n - 1, by omega⟩
    have hi : i < 12 := by omega
    obtain ⟨g, hg1, hg2⟩ := wy_b166 (N := N) (K149 := K149) (K157 := fun x2 x3 σ => fm_tellWays_b157 N K149 n x2 x3 σ) (σ := σ) hk hi h0 hD 12 0 N f (by omega) (by omega) h3
    obtain ⟨g2, hg3, hg4⟩ := ih (i + 1) n g (by omega) (by omega) hg2
    refine ⟨g2, ?_, hg4⟩
    rw [fm_tellWays_b157, if_neg (by rw [hb_L12]; exact nI_ge hi (by decide)), hb_L0, hg1]
    exact hg3
theorem wy_b149 {N e : Nat} {ea eb ed : Nat → Nat} {ok : Nat → Bool} {σ : am_S} (hN : 200 ≤ N) : ∀ r k n f D, k + r = 12 → r < n → wy_rp f D → ds_I k e ea eb ed ok D → ∃ g D', fm_tellWays_b149 N n (nI k) (am_set σ 124 f) = some (am_set σ 124 g) ∧ wy_rp g D' ∧ ds_I 12 e ea eb ed ok D' := by
  intro r
  induction r with
  | zero =>
    intro k n f D h1 h2 h3 h4
    obtain ⟨n, rfl⟩ : ∃ m, n = m + 1 := ⟨n - 1, by omega⟩
    have e : k = 12 := by omega
    subst e
    refine ⟨f, D, ?_, h3, h4⟩
    rw [fm_tellWays_b149, hb_L12, if_pos (nI_le (Nat.le_refl _) (by decide))]
  | succ r ih =>
    intro k n f D h1 h2 h3 h4
    obtain ⟨n, rfl⟩ : ∃ m, n = m + 1 := ⟨n - 1, by omega⟩
    have hk : k < 12 := by omega
    have h30 : wy_rp f (wy_mx k 0 0 D) := by
      intro a b ha hb
      rw [h3 a b ha hb]
      unfold wy_mx
      rw [if_neg (by omega)]
    obtain ⟨g, hg1, hg2⟩ := wy_b157 (N := N) (K149 := fun x2 σ => fm_tellWays_b149 N n x2 σ) (σ := σ) hN hk (h4.1 k hk) h4.2.2.1 12 0 N f (by omega) (by omega) h30
    obtain ⟨g2, D2, hg3, hg4, hg5⟩ := ih (k + 1) n g (ds_fw k D) (by omega) (by omega) hg2 (ds_step hk h4)
    refine ⟨g2, D2, ?_, hg4, hg5⟩
    rw [fm_tellWays_b149, if_neg (by rw [hb_L12]; exact nI_ge hk (by decide)), hb_L0, hg1]
    exact hg3
def ds_ok (x1 : Int32) (R : Nat → Int32) (k : Nat) : Bool := decide (x1 = 0 ∨ ¬ R k = 0)
def wy_J (m : Nat) (ea eb ed : Nat → Nat) (ok : Nat → Bool) (D : Nat → Nat → Nat) : Prop :=
  (∀ i, i < 12 → D i i = 0) ∧ (∀ i j, i < 12 → j < 12 → D i j = D j i) ∧ (∀ i j, i < 12 → j < 12 → D i j ≤ 100000) ∧
  (∀ k, k < m → ok k = true → D (ea k) (eb k) ≤ ed k) ∧
  (∀ i j, i < 12 → j < 12 → i ≠ j → D i j < 100000 → ∃ k, k < m ∧ ok k = true ∧ ((ea k = i ∧ eb k = j) ∨ (ea k = j ∧ eb k = i)) ∧ ed k ≤ D i j)
theorem wy_J_end {e : Nat} {ea eb ed : Nat → Nat} {ok : Nat → Bool} {D : Nat → Nat → Nat} (h : wy_J e ea eb ed ok D) : ds_I 0 e ea eb ed ok D := by
  obtain ⟨h1, h2, h3, h4, h5⟩ := h
  refine ⟨h1, h2, h3, h4, fun x i j hx => absurd hx (Nat.not_lt_zero x), ?_⟩
  intro i j hi hj hne hlt
  obtain ⟨k, a, b, c, d⟩ := h5 i j hi hj hne hlt
  have h0 := h1 i hi
  refine ⟨k, a, b, ?_⟩
  rcases c with ⟨c1, c2⟩ | ⟨c1, c2⟩
  · left; refine ⟨c2, ?_⟩; rw [c1]; omega
  · right; refine ⟨c1, ?_⟩; rw [c2]; omega
def wy_pt (a b d : Nat) (D : Nat → Nat → Nat) : Nat → Nat → Nat := fun i j => if (i = a ∧ j = b) ∨ (i = b ∧ j = a) then min (D a b) d else D i j
theorem wy_J_put {m n : Nat} {ea eb ed : Nat → Nat} {ok : Nat → Bool} {D : Nat → Nat → Nat} (hn : n ≤ 12) (ha : ea m < n) (hb : eb m < n) (hne : ea m ≠ eb m) (ho : ok m = true) (h : wy_J m ea eb ed ok D) : wy_J (m + 1) ea eb ed ok (wy_pt (ea m) (eb m) (ed m) D) := by
  obtain ⟨h1, h2, h3, h4, h5⟩ := h
  have hs := h2 (ea m) (eb m) (by omega) (by omega)
  refine ⟨?_, ?_, ?_, ?_, ?_⟩
  · intro i hi; unfold wy_pt; rw [if_neg (by omega)]; exact h1 i hi
  · intro i j hi hj
    unfold wy_pt
    by_cases q : (i = ea m ∧ j = eb m) ∨ (i = eb m ∧ j = ea m)
    · rw [if_pos q, if_pos (by omega)]
    · rw [if_neg q, if_neg (by omega)]; exact h2 i j hi hj
  · intro i j hi hj
    unfold wy_pt
    have q1 := h3 i j hi hj
    have q2 := h3 (ea m) (eb m) (by omega) (by omega)
    split <;> omega
  · intro k hk hok
    unfold wy_pt
    by_cases e : k = m
    · subst e; rw [if_pos (Or.inl ⟨rfl, rfl⟩)]; omega
    · have q := h4 k (by omega) hok
      by_cases q2 : (ea k = ea m ∧ eb k = eb m) ∨ (ea k = eb m ∧ eb k = ea m)
      · rw [if_pos q2]
        rcases q2 with ⟨q3, q4⟩ | ⟨q3, q4⟩
        · rw [q3, q4] at q; omega
        · rw [q3, q4] at q; omega
      · rw [if_neg q2]; exact q
  · intro i j hi hj hij hlt
    unfold wy_pt at hlt ⊢
    by_cases q2 : (i = ea m ∧ j = eb m) ∨ (i = eb m ∧ j = ea m)
    · rw [if_pos q2] at hlt ⊢
      rcases Nat.lt_or_ge (ed m) (D (ea m) (eb m)) with q3 | q3
      · exact ⟨m, by omega, ho, by omega, by omega⟩
      · obtain ⟨k, a, b, c, d⟩ := h5 (ea m) (eb m) (by omega) (by omega) hne (by omega)
        exact ⟨k, by omega, b, by omega, by omega⟩
    · rw [if_neg q2] at hlt ⊢
      obtain ⟨k, a, b, c, d⟩ := h5 i j hi hj hij hlt
      exact ⟨k, by omega, b, c, d⟩
theorem wy_J_skip {m : Nat} {ea eb ed : Nat → Nat} {ok : Nat → Bool} {D : Nat → Nat → Nat} (ho : ¬ ok m = true) (h : wy_J m ea eb ed ok D) : wy_J (m + 1) ea eb ed ok D := by
  obtain ⟨h1, h2, h3, h4, h5⟩ := h
  refine ⟨h1, h2, h3, ?_, ?_⟩
  · intro k hk hok
    by_cases e : k = m
    · subst e; exact absurd hok ho
    · exact h4 k (by omega) hok
  · intro i j hi hj hij hlt
    obtain ⟨k, a, b, c, d⟩ := h5 i j hi hj hij hlt
    exact ⟨k, by omega, b, c, d⟩
def eg_ok (n e : Nat) (A B L : Nat → Int32) (ea eb ed : Nat → Nat) : Prop := ∀ k, k < e → A k = nI (ea k) ∧ B k = nI (eb k) ∧ L k = nI (ed k) ∧ ea k < n ∧ eb k < n ∧ ea k ≠ eb k ∧ 1 ≤ ed k ∧ ed k ≤ 9
theorem eg_E {n e : Nat} {A B L : Nat → Int32} {ea eb ed : Nat → Nat} (h : eg_ok n e A B L ea eb ed) : ds_E n e ea eb ed := by
  intro k hk
  obtain ⟨_, _, _, h4, h5, _, h7, h8⟩ := h k hk
  exact ⟨h4, h5, h7, h8⟩
theorem wy_b36 {N n e : Nat} {ea eb ed : Nat → Nat} {σ : am_S} {x1 : Int32} (hN : 200 ≤ N) (hn : n ≤ 12) (he : e ≤ 30) (h5 : σ 85 5 = nI e) (hE : eg_ok n e (σ 89) (σ 90) (σ 91) ea eb ed) : ∀ r m q f D, m + r = e → r < q → wy_rp f D → wy_J m ea eb ed (ds_ok x1 (σ 92)) D → ∃ g D', fm_tellWays_b36 N q x1 (nI m) (am_set σ 124 f) = some (am_set σ 124 g) ∧ wy_rp g D' ∧ ds_I 12 e ea eb ed (ds_ok x1 (σ 92)) D' := by
  intro r
  induction r with
  | zero =>
    intro m q f D h1 h2 h3 h4
    obtain ⟨q, rfl⟩ : ∃ m, q = m + 1 := ⟨q - 1, by omega⟩
    have e1 : m = e := by omega
    subst e1
    obtain ⟨g, D', a, b, c⟩ := wy_b149 (N := N) (σ := σ) hN 12 0 N f D (by omega) (by omega) h3 (wy_J_end h4)
    refine ⟨g, D', ?_, b, c⟩
    rw [fm_tellWays_b36, hb_set_ne (by decide), h5, if_pos (nI_le (Nat.le_refl _) (by omega)), hb_L0]
    exact a
  | succ r ih =>
    intro m q f D h1 h2 h3 h4
    obtain ⟨q, rfl⟩ : ∃ m, q = m + 1 := ⟨q - 1, by omega⟩
    have hm : m < e := by omega
    obtain ⟨hA, hB, hL, ha, hb, hne, hd1, hd9⟩ := hE m hm
    have v1 := h3 (ea m) (eb m) (by omega) (by omega)
    have bd := h4.2.2.1 (ea m) (eb m) (by omega) (by omega)
    by_cases ho : ds_ok x1 (σ 92) m = true
    · have hst : wy_rp (upd (upd f (12 * ea m + eb m) (nI (min (D (ea m) (eb m)) (ed m)))) (12 * eb m + ea m) (nI (min (D (ea m) (eb m)) (ed m)))) (wy_pt (ea m) (eb m) (ed m) D) := by
        intro i j hi hj
        unfold wy_pt
        by_cases q2 : i = eb m ∧ j = ea m
        · obtain ⟨rfl, rfl⟩ := q2
          rw [hb_us, if_pos (Or.inr ⟨rfl, rfl⟩)]
        · rw [hb_un (by omega)]
          by_cases q3 : i = ea m ∧ j = eb m
          · obtain ⟨rfl, rfl⟩ := q3
            rw [hb_us, if_pos (Or.inl ⟨rfl, rfl⟩)]
          · rw [hb_un (by omega), if_neg (by omega)]
            exact h3 i j hi hj
      obtain ⟨g, D', a, b, c⟩ := ih (m + 1) q _ _ (by omega) (by omega) hst (wy_J_put hn ha hb hne ho h4)
      refine ⟨g, D', ?_, b, c⟩
      rw [← a]
      have key : fm_tellWays_b57 N (fun x1 x2 σ => fm_tellWays_b36 N q x1 x2 σ) x1 (nI m) (am_set σ 124 f) = fm_tellWays_b36 N q x1 (nI (m + 1)) (am_set σ 124 (upd (upd f (12 * ea m + eb m) (nI (min (D (ea m) (eb m)) (ed m)))) (12 * eb m + ea m) (nI (min (D (ea m) (eb m)) (ed m))))) := by
        unfold fm_tellWays_b57
        simp only [hb_set_ne (show 89 ≠ 124 by decide), hb_set_ne (show 90 ≠ 124 by decide), hb_set_ne (show 91 ≠ 124 by decide), hb_g (show m < 30 by omega) (by decide), nI_clamp (show m < 2 ^ 31 by omega), hA, hB, hL, wy_ix, hb_g (show 12 * ea m + eb m < 144 by omega) (by decide), nI_clamp (show 12 * ea m + eb m < 2 ^ 31 by omega), hb_set_eq, v1, nI_leI (show D (ea m) (eb m) < 2 ^ 31 by omega) (show ed m < 2 ^ 31 by omega), fm_tellWays_b127, hb_g (show 12 * eb m + ea m < 144 by omega) (by decide), nI_clamp (show 12 * eb m + ea m < 2 ^ 31 by omega), fm_tellWays_b141, hb_upset, hb_us, nI_1]
        by_cases q2 : D (ea m) (eb m) ≤ ed m
        · rw [if_pos q2, Nat.min_eq_left q2]
        · rw [if_neg q2, Nat.min_eq_right (by omega)]
      rw [fm_tellWays_b36, hb_set_ne (by decide), h5, if_neg (nI_ge hm (by omega)), hb_g (by omega) (by decide), hb_set_ne (by decide), nI_clamp (by omega)]
      have ho2 := of_decide_eq_true ho
      by_cases q2 : σ 92 m = 0
      · rw [if_pos q2, if_pos (ho2.resolve_right (fun h => h q2))]
        exact key
      · rw [if_neg q2]
        exact key
    · obtain ⟨g, D', a, b, c⟩ := ih (m + 1) q f D (by omega) (by omega) h3 (wy_J_skip ho h4)
      refine ⟨g, D', ?_, b, c⟩
      rw [← a]
      have ho2 : ¬ (x1 = 0 ∨ ¬ σ 92 m = 0) := fun h => ho (decide_eq_true h)
      have q2 : σ 92 m = 0 := Classical.byContradiction (fun h => ho2 (Or.inr h))
      have q3 : ¬ x1 = 0 := fun h => ho2 (Or.inl h)
      rw [fm_tellWays_b36, hb_set_ne (by decide), h5, if_neg (nI_ge hm (by omega)), hb_g (by omega) (by decide), hb_set_ne (by decide), nI_clamp (by omega), if_pos q2, if_neg q3, fm_tellWays_b141, nI_1]
theorem wy_b2 {N : Nat} {σ : am_S} {x1 : Int32} : ∀ r k n f, k + r = 144 → r < n → (∀ m, m < k → f m = nI (if m % 13 = 0 then 0 else 100000)) → ∃ g, fm_tellWays_b2 N n x1 (nI k) (am_set σ 124 f) = fm_tellWays_b36 N N x1 0 (am_set σ 124 g) ∧ ∀ m, m < 144 → g m = nI (if m % 13 = 0 then 0 else 100000) := by
  intro r
  induction r with
  | zero =>
    intro k n f h1 h2 h3
    obtain ⟨n, rfl⟩ : ∃ m, n = m + 1 := ⟨n - 1, by omega⟩
    have e : k = 144 := by omega
    subst e
    refine ⟨f, ?_, h3⟩
    rw [fm_tellWays_b2, hb_L144, if_pos (nI_le (Nat.le_refl _) (by decide))]
  | succ r ih =>
    intro k n f h1 h2 h3
    obtain ⟨n, rfl⟩ : ∃ m, n = m + 1 := ⟨n - 1, by omega⟩
    have hst : ∀ m, m < k + 1 → upd f k (nI (if k % 13 = 0 then 0 else 100000)) m = nI (if m % 13 = 0 then 0 else 100000) := by
      intro m hm
      by_cases e : m = k
      · subst e; rw [hb_us]
      · rw [hb_un e]; exact h3 m (by omega)
    obtain ⟨g, a, b⟩ := ih (k + 1) n _ (by omega) (by omega) hst
    refine ⟨g, ?_, b⟩
    rw [← a, fm_tellWays_b2, if_neg (by rw [hb_L144]; exact nI_ge (by omega) (by decide)), hb_L13, pk_rem (by omega) (by decide) (by decide)]
    unfold fm_tellWays_b27
    rw [hb_g (by omega) (by decide), nI_clamp (by omega), hb_upset, hb_upset, nI_1, hb_g (by omega) (by decide)]
    by_cases q : k % 13 = 0
    · rw [if_pos q, if_pos (by rw [q]; rfl)]; rfl
    · rw [if_neg q, if_neg (nI_ne0 (by omega) (by omega))]; rfl
theorem sm_ways {N n e : Nat} {ea eb ed : Nat → Nat} {σ : am_S} (x1 : Int32) (hN : 200 ≤ N) (hn : n ≤ 12) (he : e ≤ 30) (h5 : σ 85 5 = nI e) (hE : eg_ok n e (σ 89) (σ 90) (σ 91) ea eb ed) : ∃ g D, fm_tellWays N x1 σ = some (am_set σ 124 g) ∧ wy_rp g D ∧ ds_D e ea eb ed (ds_ok x1 (σ 92)) D := by
  obtain ⟨g, a, b⟩ := wy_b2 (N := N) (σ := σ) (x1 := x1) 144 0 N (σ 124) (by omega) (by omega) (fun m hm => absurd hm (Nat.not_lt_zero m))
  have h3 : wy_rp g (fun i j => if i = j then 0 else 100000) := by
    intro i j hi hj
    rw [b _ (by omega)]
    show nI (if (12 * i + j) % 13 = 0 then 0 else 100000) = nI (if i = j then 0 else 100000)
    by_cases q : i = j
    · rw [if_pos q, if_pos (by omega)]
    · rw [if_neg q, if_neg (by omega)]
  have h4 : wy_J 0 ea eb ed (ds_ok x1 (σ 92)) (fun i j => if i = j then 0 else 100000) := by
    refine ⟨fun i _ => if_pos rfl, ?_, ?_, fun k hk => absurd hk (Nat.not_lt_zero k), ?_⟩
    · intro i j _ _
      show (if i = j then 0 else 100000) = (if j = i then 0 else 100000)
      by_cases q : i = j
      · rw [if_pos q, if_pos q.symm]
      · rw [if_neg q, if_neg (fun h => q h.symm)]
    · intro i j _ _
      show (if i = j then 0 else 100000) ≤ 100000
      split <;> omega
    · intro i j _ _ hne hlt
      exfalso
      have : (if i = j then 0 else 100000) < 100000 := hlt
      rw [if_neg hne] at this
      omega
  obtain ⟨g2, D', c, d, e2⟩ := wy_b36 (N := N) (x1 := x1) hN hn he h5 hE e 0 N g _ (by omega) (by omega) h3 h4
  refine ⟨g2, D', ?_, d, ds_end (fun k hk => ?_) e2⟩
  · unfold fm_tellWays
    rw [hb_set_self] at a
    rw [hb_L0] at a ⊢
    rw [a]
    exact c
  · have := hE k hk
    omega
