/-! ===== fewest days: what both tables are ===== -/
def ds_D (e : Nat) (ea eb ed : Nat → Nat) (ok : Nat → Bool) (D : Nat → Nat → Nat) : Prop :=
  (∀ i, i < 12 → D i i = 0) ∧ (∀ i j, i < 12 → j < 12 → D i j = D j i) ∧ (∀ i j, i < 12 → j < 12 → D i j ≤ 100000) ∧
  (∀ i k, i < 12 → k < e → ok k = true → D i (eb k) ≤ D i (ea k) + ed k ∧ D i (ea k) ≤ D i (eb k) + ed k) ∧
  (∀ i j, i < 12 → j < 12 → i ≠ j → D i j < 100000 → ∃ k, k < e ∧ ok k = true ∧ ((eb k = j ∧ D i (ea k) + ed k ≤ D i j) ∨ (ea k = j ∧ D i (eb k) + ed k ≤ D i j)))
def ds_I (m e : Nat) (ea eb ed : Nat → Nat) (ok : Nat → Bool) (D : Nat → Nat → Nat) : Prop :=
  (∀ i, i < 12 → D i i = 0) ∧ (∀ i j, i < 12 → j < 12 → D i j = D j i) ∧ (∀ i j, i < 12 → j < 12 → D i j ≤ 100000) ∧
  (∀ k, k < e → ok k = true → D (ea k) (eb k) ≤ ed k) ∧
  (∀ x i j, x < m → i < 12 → j < 12 → D i j ≤ D i x + D x j) ∧
  (∀ i j, i < 12 → j < 12 → i ≠ j → D i j < 100000 → ∃ k, k < e ∧ ok k = true ∧ ((eb k = j ∧ D i (ea k) + ed k ≤ D i j) ∨ (ea k = j ∧ D i (eb k) + ed k ≤ D i j)))
def ds_fw (k : Nat) (D : Nat → Nat → Nat) : Nat → Nat → Nat := fun i j => min (D i j) (D i k + D k j)
theorem ds_step {m e : Nat} {ea eb ed : Nat → Nat} {ok : Nat → Bool} {D : Nat → Nat → Nat} (hm : m < 12) (h : ds_I m e ea eb ed ok D) : ds_I (m + 1) e ea eb ed ok (ds_fw m D) := by
  obtain ⟨h1, h2, h3, h4, h5, h6⟩ := h
  have hmm := h1 m hm
  refine ⟨?_, ?_, ?_, ?_, ?_, ?_⟩
  · intro i hi; simp only [ds_fw]; have := h1 i hi; omega
  · intro i j hi hj; simp only [ds_fw]; have a := h2 i j hi hj; have b := h2 i m hi hm; have c := h2 m j hm hj; omega
  · intro i j hi hj; simp only [ds_fw]; have := h3 i j hi hj; omega
  · intro k hk ho; simp only [ds_fw]; have := h4 k hk ho; omega
  · intro x i j hx hi hj
    simp only [ds_fw]
    by_cases e : x = m
    · subst e; omega
    · have hx' : x < m := by omega
      have a := h5 x i j hx' hi hj
      have b := h5 x m j hx' hm hj
      have c := h5 x i m hx' hi hm
      omega
  · intro i j hi hj hne hlt
    simp only [ds_fw] at hlt
    by_cases q : D i j ≤ D i m + D m j
    · obtain ⟨k, a, b, c⟩ := h6 i j hi hj hne (by omega)
      refine ⟨k, a, b, ?_⟩
      simp only [ds_fw]
      rcases c with ⟨c1, c2⟩ | ⟨c1, c2⟩
      · left; exact ⟨c1, by omega⟩
      · right; exact ⟨c1, by omega⟩
    · have hmj : m ≠ j := by intro e; subst e; omega
      obtain ⟨k, a, b, c⟩ := h6 m j hm hj hmj (by omega)
      refine ⟨k, a, b, ?_⟩
      simp only [ds_fw]
      rcases c with ⟨c1, c2⟩ | ⟨c1, c2⟩
      · left; exact ⟨c1, by omega⟩
      · right; exact ⟨c1, by omega⟩
theorem ds_end {e : Nat} {ea eb ed : Nat → Nat} {ok : Nat → Bool} {D : Nat → Nat → Nat} (hE : ∀ k, k < e → ea k < 12 ∧ eb k < 12) (h : ds_I 12 e ea eb ed ok D) : ds_D e ea eb ed ok D := by
  obtain ⟨h1, h2, h3, h4, h5, h6⟩ := h
  refine ⟨h1, h2, h3, ?_, h6⟩
  intro i k hi hk ho
  obtain ⟨ha, hb⟩ := hE k hk
  have a := h4 k hk ho
  have b := h5 (ea k) i (eb k) ha hi hb
  have c := h5 (eb k) i (ea k) hb hi ha
  have d := h2 (ea k) (eb k) ha hb
  omega
theorem ct_lt {p q : Nat → Bool} {u : Nat} (hp : p u = false) (hq : q u = true) : ∀ {n : Nat}, u < n → (∀ k, k < n → p k = true → q k = true) → fb_ct p n < fb_ct q n
  | 0, h, _ => absurd h (Nat.not_lt_zero u)
  | n + 1, h, hs => by
    rw [fb_ct_succ, fb_ct_succ]
    rcases Nat.lt_or_ge u n with r | r
    · have ih := ct_lt hp hq r (fun k hk => hs k (by omega))
      have hn := hs n (by omega)
      cases hpn : p n
      · rw [if_neg (by decide)]; split <;> omega
      · rw [if_pos rfl, if_pos (hn hpn)]; omega
    · have e : u = n := by omega
      subst e
      have := fb_ct_sub (p := p) (q := q) (n := u) (fun k hk => hs k (by omega))
      rw [hp, hq, if_neg (by decide), if_pos rfl]
      omega
def ds_rk (n : Nat) (D : Nat → Nat → Nat) (i j : Nat) : Nat := fb_ct (fun u => decide (D i u < D i j)) n
theorem ds_rk_lt {n : Nat} {D : Nat → Nat → Nat} {i u v : Nat} (hu : u < n) (h : D i u < D i v) : ds_rk n D i u < ds_rk n D i v := by
  unfold ds_rk
  refine ct_lt (u := u) (decide_eq_false (by omega)) (decide_eq_true h) hu ?_
  intro k _ hk
  have := of_decide_eq_true hk
  exact decide_eq_true (by omega)
theorem ds_rk_n {n : Nat} {D : Nat → Nat → Nat} {i v : Nat} (hv : v < n) : ds_rk n D i v < n := by
  unfold ds_rk
  have h1 := fb_ct_le (fun u => decide (D i u < D i v)) n
  rcases Nat.lt_or_ge (fb_ct (fun u => decide (D i u < D i v)) n) n with q | q
  · exact q
  · have h2 := (fb_ct_all (p := fun u => decide (D i u < D i v)) (n := n)).1 (by omega) v hv
    have := of_decide_eq_true h2
    omega
/-- the edges: below n, 1 to 9 days long -/
def ds_E (n e : Nat) (ea eb ed : Nat → Nat) : Prop := ∀ k, k < e → ea k < n ∧ eb k < n ∧ 1 ≤ ed k ∧ ed k ≤ 9
theorem ds_bd {n e : Nat} {ea eb ed : Nat → Nat} {ok : Nat → Bool} {D : Nat → Nat → Nat} (hn : n ≤ 12) (hE : ds_E n e ea eb ed) (h : ds_D e ea eb ed ok D) {i : Nat} (hi : i < n) : ∀ m j, j < n → D i j < 100000 → D i j = m → m ≤ 9 * ds_rk n D i j := by
  obtain ⟨h1, h2, h3, h4, h5⟩ := h
  intro m
  induction m using Nat.strongRecOn with
  | _ m ih =>
    intro j hj hlt hm
    by_cases e : i = j
    · subst e; have := h1 i (by omega); omega
    · obtain ⟨k, a, b, c⟩ := h5 i j (by omega) (by omega) e hlt
      obtain ⟨e1, e2, e3, e4⟩ := hE k a
      have f := h4 i k (by omega) a b
      rcases c with ⟨c1, c2⟩ | ⟨c1, c2⟩
      · have g := ds_rk_lt (D := D) (i := i) (v := j) e1 (by omega)
        have := ih (D i (ea k)) (by omega) (ea k) e1 (by omega) rfl
        rw [c1] at f
        omega
      · have g := ds_rk_lt (D := D) (i := i) (v := j) e2 (by omega)
        have := ih (D i (eb k)) (by omega) (eb k) e2 (by omega) rfl
        rw [c1] at f
        omega
theorem ds_99 {n e : Nat} {ea eb ed : Nat → Nat} {ok : Nat → Bool} {D : Nat → Nat → Nat} (hn : n ≤ 12) (hE : ds_E n e ea eb ed) (h : ds_D e ea eb ed ok D) {i j : Nat} (hi : i < n) (hj : j < n) (hlt : D i j < 100000) : D i j ≤ 99 := by
  have a := ds_bd hn hE h hi _ j hj hlt rfl
  have b := ds_rk_n (D := D) (i := i) hj
  omega
/-! one edge shortened, a round of all edges -/
def bf_rx (a b d : Nat) (f : Nat → Nat) : Nat → Nat := fun v => if f a + d < f b then (if v = b then f a + d else f v) else if f b + d < f a then (if v = a then f b + d else f v) else f v
def bf_rd (ea eb ed : Nat → Nat) (ok : Nat → Bool) : Nat → (Nat → Nat) → Nat → Nat
  | 0, f => f
  | m + 1, f => if ok m = true then bf_rx (ea m) (eb m) (ed m) (bf_rd ea eb ed ok m f) else bf_rd ea eb ed ok m f
theorem bf_rx_le {a b d : Nat} {f : Nat → Nat} (v : Nat) : bf_rx a b d f v ≤ f v := by
  unfold bf_rx
  split
  · split
    · rename_i h e; subst e; omega
    · omega
  · split
    · split
      · rename_i h e; subst e; omega
      · omega
    · omega
theorem bf_rx_ok {a b d : Nat} {f : Nat → Nat} (hd : 1 ≤ d) : bf_rx a b d f b ≤ f a + d ∧ bf_rx a b d f a ≤ f b + d := by
  have h1 := bf_rx_le (a := a) (b := b) (d := d) (f := f) a
  have h2 := bf_rx_le (a := a) (b := b) (d := d) (f := f) b
  constructor
  · unfold bf_rx
    split
    · rw [if_pos rfl]; omega
    · split
      · split <;> omega
      · omega
  · unfold bf_rx
    split
    · split <;> omega
    · split
      · rw [if_pos rfl]; omega
      · omega
theorem bf_rd_le {ea eb ed : Nat → Nat} {ok : Nat → Bool} {f : Nat → Nat} (v m : Nat) : ∀ r, bf_rd ea eb ed ok (m + r) f v ≤ bf_rd ea eb ed ok m f v
  | 0 => Nat.le_refl _
  | r + 1 => by
    have ih := bf_rd_le (ea := ea) (eb := eb) (ed := ed) (ok := ok) (f := f) v m r
    show bf_rd ea eb ed ok ((m + r) + 1) f v ≤ _
    rw [bf_rd]
    split
    · have := bf_rx_le (a := ea (m + r)) (b := eb (m + r)) (d := ed (m + r)) (f := bf_rd ea eb ed ok (m + r) f) v
      omega
    · exact ih
theorem bf_rd_mono {ea eb ed : Nat → Nat} {ok : Nat → Bool} {f : Nat → Nat} (v : Nat) {m e : Nat} (h : m ≤ e) : bf_rd ea eb ed ok e f v ≤ bf_rd ea eb ed ok m f v := by
  have := bf_rd_le (ea := ea) (eb := eb) (ed := ed) (ok := ok) (f := f) v m (e - m)
  rwa [Nat.add_sub_cancel' h] at this
/-- never below the fewest days -/
def bf_lb (n s : Nat) (D : Nat → Nat → Nat) (f : Nat → Nat) : Prop := ∀ v, v < n → f v ≤ 1000000 ∧ (f v < 1000000 → D s v < 100000 ∧ D s v ≤ f v)
theorem bf_rx_lb {n e s k : Nat} {ea eb ed : Nat → Nat} {ok : Nat → Bool} {D : Nat → Nat → Nat} {f : Nat → Nat} (hn : n ≤ 12) (hE : ds_E n e ea eb ed) (h : ds_D e ea eb ed ok D) (hs : s < n) (hk : k < e) (ho : ok k = true) (hf : bf_lb n s D f) : bf_lb n s D (bf_rx (ea k) (eb k) (ed k) f) := by
  intro v hv
  obtain ⟨e1, e2, e3, e4⟩ := hE k hk
  have f4 := h.2.2.2.1 s k (by omega) hk ho
  have le := bf_rx_le (a := ea k) (b := eb k) (d := ed k) (f := f) v
  have hv1 := hf v hv
  have ha1 := hf (ea k) e1
  have hb1 := hf (eb k) e2
  refine ⟨by omega, ?_⟩
  unfold bf_rx
  split
  · rename_i c
    split
    · rename_i e; subst e
      intro _
      have q := ds_99 hn hE h hs e1 (by omega)
      omega
    · exact hv1.2
  · split
    · rename_i c1 c
      split
      · rename_i e; subst e
        intro _
        have q := ds_99 hn hE h hs e2 (by omega)
        omega
      · exact hv1.2
    · exact hv1.2
theorem bf_rd_lb {n e s : Nat} {ea eb ed : Nat → Nat} {ok : Nat → Bool} {D : Nat → Nat → Nat} {f : Nat → Nat} (hn : n ≤ 12) (hE : ds_E n e ea eb ed) (h : ds_D e ea eb ed ok D) (hs : s < n) (hf : bf_lb n s D f) : ∀ m, m ≤ e → bf_lb n s D (bf_rd ea eb ed ok m f)
  | 0, _ => hf
  | m + 1, hm => by
    have ih := bf_rd_lb hn hE h hs hf m (by omega)
    rw [bf_rd]
    split
    · rename_i ho; exact bf_rx_lb hn hE h hs (by omega) ho ih
    · exact ih
/-- at most the fewest days, for those with few nearer ones -/
def bf_ub (n r s : Nat) (D : Nat → Nat → Nat) (f : Nat → Nat) : Prop := ∀ v, v < n → D s v < 100000 → ds_rk n D s v ≤ r → f v ≤ D s v
theorem bf_rd_ub {n e r s : Nat} {ea eb ed : Nat → Nat} {ok : Nat → Bool} {D : Nat → Nat → Nat} {f : Nat → Nat} (hn : n ≤ 12) (hE : ds_E n e ea eb ed) (h : ds_D e ea eb ed ok D) (hs : s < n) (hf : bf_ub n r s D f) : bf_ub n (r + 1) s D (bf_rd ea eb ed ok e f) := by
  intro v hv hlt hr
  have hle := bf_rd_mono (ea := ea) (eb := eb) (ed := ed) (ok := ok) (f := f) v (Nat.zero_le e)
  by_cases es : s = v
  · subst es
    have h0 := h.1 s (by omega)
    have hr0 : ds_rk n D s s ≤ r := by
      have : ds_rk n D s s = 0 := by
        unfold ds_rk
        rw [fb_ct_zero]
        intro k _
        exact decide_eq_false (by omega)
      omega
    have := hf s hv hlt hr0
    have e0 : bf_rd ea eb ed ok 0 f s = f s := rfl
    omega
  · obtain ⟨k, a, b, c⟩ := h.2.2.2.2 s v (by omega) (by omega) es hlt
    obtain ⟨e1, e2, e3, e4⟩ := hE k a
    have m1 := bf_rd_mono (ea := ea) (eb := eb) (ed := ed) (ok := ok) (f := f) v (show k + 1 ≤ e by omega)
    have e5 : bf_rd ea eb ed ok (k + 1) f = bf_rx (ea k) (eb k) (ed k) (bf_rd ea eb ed ok k f) := by rw [bf_rd, if_pos b]
    have o := bf_rx_ok (a := ea k) (b := eb k) (d := ed k) (f := bf_rd ea eb ed ok k f) e3
    rw [e5] at m1
    rcases c with ⟨c1, c2⟩ | ⟨c1, c2⟩
    · have g := ds_rk_lt (D := D) (i := s) (v := v) e1 (by omega)
      have u := hf (ea k) e1 (by omega) (by omega)
      have m2 := bf_rd_mono (ea := ea) (eb := eb) (ed := ed) (ok := ok) (f := f) (ea k) (Nat.zero_le k)
      have e0 : bf_rd ea eb ed ok 0 f (ea k) = f (ea k) := rfl
      rw [c1] at o m1
      omega
    · have g := ds_rk_lt (D := D) (i := s) (v := v) e2 (by omega)
      have u := hf (eb k) e2 (by omega) (by omega)
      have m2 := bf_rd_mono (ea := ea) (eb := eb) (ed := ed) (ok := ok) (f := f) (eb k) (Nat.zero_le k)
      have e0 : bf_rd ea eb ed ok 0 f (eb k) = f (eb k) := rfl
      rw [c1] at o m1
      omega
/-- no edge shortens anything -/
def bf_st (e : Nat) (ea eb ed : Nat → Nat) (ok : Nat → Bool) (f : Nat → Nat) : Prop := ∀ k, k < e → ok k = true → f (eb k) ≤ f (ea k) + ed k ∧ f (ea k) ≤ f (eb k) + ed k
theorem bf_st_ub {n e s : Nat} {ea eb ed : Nat → Nat} {ok : Nat → Bool} {D : Nat → Nat → Nat} {f : Nat → Nat} (hn : n ≤ 12) (hE : ds_E n e ea eb ed) (h : ds_D e ea eb ed ok D) (hs : s < n) (h0 : f s = 0) (hf : bf_st e ea eb ed ok f) : ∀ m v, v < n → D s v < 100000 → D s v = m → f v ≤ m := by
  intro m
  induction m using Nat.strongRecOn with
  | _ m ih =>
    intro v hv hlt hm
    by_cases es : s = v
    · subst es; omega
    · obtain ⟨k, a, b, c⟩ := h.2.2.2.2 s v (by omega) (by omega) es hlt
      obtain ⟨e1, e2, e3, e4⟩ := hE k a
      have o := hf k a b
      rcases c with ⟨c1, c2⟩ | ⟨c1, c2⟩
      · have := ih (D s (ea k)) (by omega) (ea k) e1 (by omega) rfl
        rw [c1] at o
        omega
      · have := ih (D s (eb k)) (by omega) (eb k) e2 (by omega) rfl
        rw [c1] at o
        omega
def ds_x (D : Nat → Nat → Nat) (s v : Nat) : Nat := if D s v < 100000 then D s v else 1000000
theorem ds_fin {n r s : Nat} {D : Nat → Nat → Nat} {f : Nat → Nat} (hl : bf_lb n s D f) (hu : ∀ v, v < n → D s v < 100000 → f v ≤ D s v) {v : Nat} (hv : v < n) : f v = ds_x D s v := by
  unfold ds_x
  have a := hl v hv
  split
  · rename_i q
    have b := hu v hv q
    have := a.2 (by omega)
    omega
  · rename_i q
    rcases Nat.lt_or_ge (f v) 1000000 with c | c
    · exact absurd (a.2 c).1 q
    · omega
