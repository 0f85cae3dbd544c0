/-! ===== the parting as one plain function; the class's cache; both sides ===== -/
theorem d100 (x : Int32) : -22000000 ≤ (x / 100).toInt ∧ (x / 100).toInt ≤ 22000000 := by
  have e : (x / 100).toInt = x.toInt.tdiv 100 := Jvm.Kit.i32_div (by
    intro h
    have : (100 : Int32).toInt = 100 := rfl
    omega)
  have r := fb_rng x
  have n : (x.toInt.tdiv 100).natAbs = x.toInt.natAbs / 100 := by rw [Int.natAbs_tdiv]; rfl
  rw [e]
  omega
def nv (x : Int32) : Nat := x.toNatClampNeg
def pt_cn (K : Nat → Int32) (dl : Bool) : Nat → Bool := gp_cn (fun i => nv (K i)) dl
def pt_cw (K W : Nat → Int32) : Nat → Int32 := gp_cw (fun i => nv (K i)) W
def pt_rt (t : Nat) (A B : Nat → Int32) : Nat → Nat := rt_it t (fun k => nv (A k)) (fun k => nv (B k)) t (fun v => v)
def pt_S (n t : Nat) (K W A B : Nat → Int32) (dl : Bool) : Nat × (Nat → Nat) × (Nat → Int32) := gp_S (pt_cn K dl) (pt_rt t A B) (pt_cw K W) n
def pt_tot (n : Nat) (K W : Nat → Int32) (dl : Bool) : Int32 := gp_tot (pt_cn K dl) (pt_cw K W) n
def pt_aim (n : Nat) (K W : Nat → Int32) (dl : Bool) (sh : Int32) : Int32 := pt_tot n K W dl * sh / 100
def pt_lv (n t : Nat) (K W A B : Nat → Int32) (dl : Bool) (sh : Int32) : Nat := se_b (se_D (pt_aim n K W dl sh) (nr_S (pt_S n t K W A B dl).1 (pt_S n t K W A B dl).2.2)) (2 ^ (pt_S n t K W A B dl).1)
def pt_rest (n t : Nat) (K W A B : Nat → Int32) (dl : Bool) (sh : Int32) : Int32 := pt_aim n K W dl sh - nr_S (pt_S n t K W A B dl).1 (pt_S n t K W A B dl).2.2 (pt_lv n t K W A B dl sh)
def pt_ok (n t : Nat) (K W A B : Nat → Int32) (dl : Bool) (sh G T Q L : Int32) (O : Nat → Int32) : Prop :=
  G = nI (pt_S n t K W A B dl).1 ∧ T = pt_tot n K W dl ∧ (∀ o, o < n → O o = gp_gv (pt_cn K dl) (pt_S n t K W A B dl).2.1 o) ∧ ((pt_S n t K W A B dl).1 ≤ 14 → Q = pt_rest n t K W A B dl sh ∧ L = nI (pt_lv n t K W A B dl sh))
/-- things and ties are in order -/
def es_ok (n t : Nat) (K W A B : Nat → Int32) : Prop := n ≤ 24 ∧ t ≤ 12 ∧ (∀ i, i < n → okc (K i) 6) ∧ (∀ i, i < n → okc (W i) 10000) ∧ (∀ k, k < t → (∃ a, a < n ∧ A k = nI a) ∧ (∃ b, b < n ∧ B k = nI b))
theorem es_tl {n t : Nat} {K W A B : Nat → Int32} (h : es_ok n t K W A B) : tl_ok n t A B (fun k => nv (A k)) (fun k => nv (B k)) := by
  obtain ⟨h1, h2, h3, h4, h5⟩ := h
  intro k hk
  obtain ⟨⟨a, ha, ea⟩, ⟨b, hb, eb⟩⟩ := h5 k hk
  have e1 : nv (A k) = a := by unfold nv; rw [ea, nI_clamp (by omega)]
  have e2 : nv (B k) = b := by unfold nv; rw [eb, nI_clamp (by omega)]
  show A k = nI (nv (A k)) ∧ B k = nI (nv (B k)) ∧ nv (A k) < n ∧ nv (B k) < n
  rw [e1, e2]
  exact ⟨ea, eb, ha, hb⟩
theorem es_kd {n t : Nat} {K W A B : Nat → Int32} (h : es_ok n t K W A B) : ∀ o, o < n → K o = nI (nv (K o)) ∧ nv (K o) ≤ 6 := by
  intro o ho
  obtain ⟨k, hk, ek⟩ := h.2.2.1 o ho
  unfold nv
  rw [ek, nI_clamp (by omega)]
  exact ⟨rfl, hk⟩
theorem es_rt {n t : Nat} {K W A B : Nat → Int32} {g : Nat → Int32} (h : es_ok n t K W A B) (hg : rt_rp n g (rt_it t (fun k => nv (A k)) (fun k => nv (B k)) t (fun v => v))) : ∀ o, o < n → g o = nI (pt_rt t A B o) ∧ pt_rt t A B o < 24 := by
  intro o ho
  have := h.1
  have l := rt_it_mono (t := t) (ta := fun k => nv (A k)) (tb := fun k => nv (B k)) (r := fun v => v) o (Nat.zero_le t)
  have l0 : rt_it t (fun k => nv (A k)) (fun k => nv (B k)) 0 (fun v => v) o = o := rfl
  refine ⟨hg o ho, ?_⟩
  unfold pt_rt
  omega
theorem sq_upd {f : Nat → Int32} {k : Nat} {c : Int32} : ∀ {n : Nat}, k < n → sq_s (upd f k (f k + c)) n = sq_s f n + c
  | 0, h => absurd h (Nat.not_lt_zero k)
  | n + 1, h => by
    rw [sq_s, sq_s]
    rcases Nat.lt_or_ge k n with q | q
    · rw [sq_upd q, hb_un (by omega), Int32.add_assoc, Int32.add_assoc, Int32.add_comm c]
    · have e : k = n := by omega
      subst e
      rw [hb_us, sq_cong (f := upd f k (f k + c)) (g := f) (fun j hj => hb_un (by omega)), Int32.add_assoc]
theorem gp_sum {cn : Nat → Bool} {rt : Nat → Nat} {cw : Nat → Int32} : ∀ i, gp_tot cn cw i = sq_s (gp_S cn rt cw i).2.2 (gp_S cn rt cw i).1
  | 0 => rfl
  | i + 1 => by
    obtain ⟨i1, i2, i3⟩ := gp_inv (cn := cn) (rt := rt) (cw := cw) i
    have ih := gp_sum (cn := cn) (rt := rt) (cw := cw) i
    rw [gp_S, gp_tot]
    generalize gp_S cn rt cw i = S at *
    by_cases c : cn i = true
    · rw [if_pos c, if_pos c, ih]
      cases hl : gp_lk cn rt S.2.1 (rt i) i with
      | none =>
        show sq_s S.2.2 S.1 + cw i = sq_s (upd S.2.2 S.1 (S.2.2 S.1 + cw i)) (S.1 + 1)
        rw [sq_s, hb_us, i3 S.1 (Nat.le_refl _), Int32.zero_add, sq_cong (f := upd S.2.2 S.1 (cw i)) (g := S.2.2) (fun j hj => hb_un (by omega))]
      | some x =>
        have hx := gp_lk_lt (g := S.1) i2 hl
        show sq_s S.2.2 S.1 + cw i = sq_s (upd S.2.2 x (S.2.2 x + cw i)) S.1
        rw [sq_upd hx]
    · rw [if_neg c, if_neg c, ih]
theorem gp_bd {cn : Nat → Bool} {rt : Nat → Nat} {cw : Nat → Int32} {n : Nat} (hn : n ≤ 24) (h : ∀ o, o < n → -10000 ≤ (cw o).toInt ∧ (cw o).toInt ≤ 10000) : ∀ i, i ≤ n → ∀ x, -(10000 * (i : Int)) ≤ ((gp_S cn rt cw i).2.2 x).toInt ∧ ((gp_S cn rt cw i).2.2 x).toInt ≤ 10000 * (i : Int)
  | 0, _, x => by
    show -(10000 * ((0 : Nat) : Int)) ≤ (0 : Int) ∧ (0 : Int) ≤ 10000 * ((0 : Nat) : Int)
    omega
  | i + 1, hi, x => by
    have ih := gp_bd (cn := cn) (rt := rt) (cw := cw) hn h i (by omega)
    have hc := h i (by omega)
    have hx := ih x
    have up : ∀ y, -(10000 * ((i + 1 : Nat) : Int)) ≤ (upd (gp_S cn rt cw i).2.2 y ((gp_S cn rt cw i).2.2 y + cw i) x).toInt ∧ (upd (gp_S cn rt cw i).2.2 y ((gp_S cn rt cw i).2.2 y + cw i) x).toInt ≤ 10000 * ((i + 1 : Nat) : Int) := by
      intro y
      by_cases e : x = y
      · subst e
        rw [hb_us, fb_addI (by omega) (by omega)]
        omega
      · rw [hb_un e]
        omega
    rw [gp_S]
    by_cases c : cn i = true
    · rw [if_pos c]
      cases gp_lk cn rt (gp_S cn rt cw i).2.1 (rt i) i with
      | none => exact up _
      | some y => exact up _
    · rw [if_neg c]
      omega
theorem pt_bd {n t : Nat} {K W A B : Nat → Int32} {dl : Bool} (h : es_ok n t K W A B) : ∀ x, -240000 ≤ ((pt_S n t K W A B dl).2.2 x).toInt ∧ ((pt_S n t K W A B dl).2.2 x).toInt ≤ 240000 := by
  intro x
  obtain ⟨h1, h2, h3, h4, h5⟩ := h
  have := gp_bd (cn := pt_cn K dl) (rt := pt_rt t A B) (cw := pt_cw K W) (n := n) h1 (by
    intro o ho
    obtain ⟨w, hw, ew⟩ := h4 o ho
    unfold pt_cw gp_cw
    have wi : (W o).toInt = w := by rw [ew, nI_toInt (by omega)]
    split
    · rw [fb_negI (by omega)]; omega
    · omega) n (Nat.le_refl n) x
  unfold pt_S
  omega
theorem pt_sum {n t : Nat} {K W A B : Nat → Int32} {dl : Bool} : pt_tot n K W dl = sq_s (pt_S n t K W A B dl).2.2 (pt_S n t K W A B dl).1 := gp_sum n
theorem pt_le {n t : Nat} {K W A B : Nat → Int32} {dl : Bool} : (pt_S n t K W A B dl).1 ≤ n := (gp_inv n).1
def es_dl (x : Int32) (dl : Bool) : Prop := (x = 0 ∧ dl = false) ∨ (x = 1 ∧ dl = true)
theorem sx_reckon {N n t : Nat} {dl : Bool} {σ : am_S} (hN : 20000 ≤ N) (h6 : σ 34 6 = nI n) (h7 : σ 34 7 = nI t) (he : es_ok n t (σ 35) (σ 37) (σ 39) (σ 40)) (hd : es_dl (σ 31 6) dl) : ∃ τ, fx_Parting_reckon N σ = some τ ∧ (∀ c, c < 41 ∨ 46 < c → τ c = σ c) ∧ τ 41 5 = 1 ∧ pt_ok n t (σ 35) (σ 37) (σ 39) (σ 40) dl (σ 31 5) (τ 41 6) (τ 41 7) (τ 41 8) (τ 41 9) (τ 44) := by
  obtain ⟨g, e1, e2⟩ := sx_roots (N := N) (by omega) he.1 he.2.1 h6 h7 (es_tl he)
  have hk := es_kd he
  have hr := es_rt he e2
  obtain ⟨τ1, f1, f2⟩ := sx_groups (N := N) (σ := am_set σ 42 g) (kd := fun i => nv (σ 35 i)) (dl := dl) (x2 := σ 31 6) (rt := pt_rt t (σ 39) (σ 40)) (n := n) (by omega) he.1 (by rw [hb_set_ne (by decide)]; exact h6) (by rw [hb_set_ne (by decide)]; exact hk) hd (by rw [hb_set_eq]; exact hr)
  obtain ⟨a1, a2, a3, a4, a5, a6, a7⟩ := f2
  rw [hb_set_ne (show 37 ≠ 42 by decide)] at a3 a4 a5 a6 a7
  have eS : gp_S (gp_cn (fun i => nv (σ 35 i)) dl) (pt_rt t (σ 39) (σ 40)) (gp_cw (fun i => nv (σ 35 i)) (σ 37)) n = pt_S n t (σ 35) (σ 37) (σ 39) (σ 40) dl := rfl
  have eT : gp_tot (gp_cn (fun i => nv (σ 35 i)) dl) (gp_cw (fun i => nv (σ 35 i)) (σ 37)) n = pt_tot n (σ 35) (σ 37) dl := rfl
  rw [eS] at a3 a5 a6 a7
  rw [eT] at a4
  have hle := pt_le (n := n) (t := t) (K := σ 35) (W := σ 37) (A := σ 39) (B := σ 40) (dl := dl)
  have hn := he.1
  have t31 : τ1 31 = σ 31 := by rw [a1 31 (by decide) (by decide) (by decide) (by decide), hb_set_ne (by decide)]
  unfold fx_Parting_reckon fx_Parting_isTooMany fx_Parting_reckon_b37
  rw [e1, hb_bind, hb_set_ne (by decide), f1, hb_bind, a3]
  by_cases c : (pt_S n t (σ 35) (σ 37) (σ 39) (σ 40) dl).1 ≤ 14
  · rw [if_pos (show nI (pt_S n t (σ 35) (σ 37) (σ 39) (σ 40) dl).1 ≤ 14 by rw [hb_L14]; exact nI_le c (by decide)), if_pos rfl]
    obtain ⟨τ2, b1, b2, b3, b4, b5⟩ := sx_near (N := N) (σ := τ1) (g := (pt_S n t (σ 35) (σ 37) (σ 39) (σ 40) dl).1) (s := (pt_S n t (σ 35) (σ 37) (σ 39) (σ 40) dl).2.2) (aim := pt_aim n (σ 35) (σ 37) dl (σ 31 5)) hN c a3 (by rw [a4]; exact pt_sum) a7 (pt_bd he) (d100 _)
    have ea : τ1 41 7 * τ1 31 5 / 100 = pt_aim n (σ 35) (σ 37) dl (σ 31 5) := by rw [a4, t31]; rfl
    rw [ea, b1, hb_bind]
    refine ⟨_, rfl, ?_, ?_, ?_⟩
    · intro c' hc
      rw [hb_up_ne (by omega), b2 c' (by omega) (by omega), a1 c' (by omega) (by omega) (by omega) (by omega), hb_set_ne (by omega)]
    · rw [hb_up_eq, hb_us]
    · refine ⟨?_, ?_, ?_, ?_⟩
      · rw [hb_up_eq, hb_un (by decide), b3 6 (by decide) (by decide)]; exact a3
      · rw [hb_up_eq, hb_un (by decide), b3 7 (by decide) (by decide)]; exact a4
      · intro o ho
        rw [hb_up_ne (by decide), b2 44 (by decide) (by decide)]
        exact a6 o ho
      · intro _
        refine ⟨?_, ?_⟩
        · rw [hb_up_eq, hb_un (by decide)]; exact b5
        · rw [hb_up_eq, hb_un (by decide)]; exact b4
  · rw [if_neg (show ¬ nI (pt_S n t (σ 35) (σ 37) (σ 39) (σ 40) dl).1 ≤ 14 by rw [hb_L14]; exact nI_ge (by omega) (by omega)), if_neg (by decide)]
    refine ⟨_, rfl, ?_, ?_, ?_⟩
    · intro c' hc
      rw [hb_up_ne (by omega), a1 c' (by omega) (by omega) (by omega) (by omega), hb_set_ne (by omega)]
    · rw [hb_up_eq, hb_us]
    · refine ⟨?_, ?_, ?_, ?_⟩
      · rw [hb_up_eq, hb_un (by decide)]; exact a3
      · rw [hb_up_eq, hb_un (by decide)]; exact a4
      · intro o ho
        rw [hb_up_ne (by decide)]
        exact a6 o ho
      · intro q; exact absurd q c
theorem sx_parts {N n t : Nat} {dl : Bool} {σ : am_S} (hN : 20000 ≤ N) (h6 : σ 34 6 = nI n) (h7 : σ 34 7 = nI t) (he : es_ok n t (σ 35) (σ 37) (σ 39) (σ 40)) (hd : es_dl (σ 31 6) dl) (hc : σ 41 5 = 0 ∨ (σ 41 5 = 1 ∧ pt_ok n t (σ 35) (σ 37) (σ 39) (σ 40) dl (σ 31 5) (σ 41 6) (σ 41 7) (σ 41 8) (σ 41 9) (σ 44))) : ∃ τ, fx_partThings N σ = some τ ∧ (∀ c, c < 41 ∨ 46 < c → τ c = σ c) ∧ τ 41 5 = 1 ∧ pt_ok n t (σ 35) (σ 37) (σ 39) (σ 40) dl (σ 31 5) (τ 41 6) (τ 41 7) (τ 41 8) (τ 41 9) (τ 44) := by
  unfold fx_partThings
  rcases hc with hc | ⟨hc, hp⟩
  · obtain ⟨τ, e1, e2, e3, e4⟩ := sx_reckon hN h6 h7 he hd
    rw [if_pos hc, e1, hb_bind]
    exact ⟨τ, rfl, e2, e3, e4⟩
  · rw [hc, if_neg (by decide)]
    exact ⟨σ, rfl, fun _ _ => rfl, hc, hp⟩
/-! the reference: groups and the way, once its law is read -/
theorem sm_tell {N n t : Nat} {dl : Bool} {σ : am_S} (hN : 20000 ≤ N) (h6 : σ 85 26 = nI n) (h7 : σ 85 31 = nI t) (he : es_ok n t (σ 105) (σ 106) (σ 109) (σ 110)) (hd : es_dl (σ 85 58) dl) : ∃ τ, fm_tellGroups_b8 N N 0 σ = some τ ∧ (∀ c, c ≠ 85 → c ≠ 126 → c ≠ 127 → c ≠ 128 → τ c = σ c) ∧ (∀ k, k ≠ 64 → τ 85 k = σ 85 k) ∧ τ 85 64 = nI (pt_S n t (σ 105) (σ 106) (σ 109) (σ 110) dl).1 ∧ (∀ o, o < n → τ 127 o = gp_gv (pt_cn (σ 105) dl) (pt_S n t (σ 105) (σ 106) (σ 109) (σ 110) dl).2.1 o) ∧ (∀ x, x < (pt_S n t (σ 105) (σ 106) (σ 109) (σ 110) dl).1 → τ 128 x = (pt_S n t (σ 105) (σ 106) (σ 109) (σ 110) dl).2.2 x) := by
  obtain ⟨g, e1, e2⟩ := sm_roots (N := N) (by omega) he.1 he.2.1 h6 h7 (es_tl he)
  have hk := es_kd he
  have hr := es_rt he e2
  have hn := he.1
  obtain ⟨τ1, f1, f2⟩ := sm_groups (N := N) (σ := am_up (am_set σ 126 g) 85 64 0) (kd := fun i => nv (σ 105 i)) (dl := dl) (rt := pt_rt t (σ 109) (σ 110)) (n := n) (by omega) he.1 (by rw [hb_up_eq, hb_un (by decide), hb_set_ne (by decide)]; exact h6) (by rw [hb_up_ne (by decide), hb_set_ne (by decide)]; exact hk) (by rw [hb_up_eq, hb_un (by decide), hb_set_ne (by decide)]; exact hd) (by rw [hb_up_ne (by decide), hb_set_eq]; exact hr) n 0 N (am_up (am_set σ 126 g) 85 64 0) (by omega) (by omega) (by
    refine ⟨fun _ _ _ _ => rfl, fun _ _ => rfl, ?_, fun o ho => absurd ho (Nat.not_lt_zero o), fun x hx => absurd hx (Nat.not_lt_zero x)⟩
    rw [hb_up_eq, hb_us]; rfl)
  obtain ⟨a1, a2, a3, a4, a5⟩ := f2
  rw [hb_up_ne (show 106 ≠ 85 by decide), hb_set_ne (show 106 ≠ 126 by decide)] at a3 a4 a5
  refine ⟨τ1, ?_, ?_, ?_, a3, a4, a5⟩
  · rw [e1]; exact f1
  · intro c p1 p2 p3 p4
    rw [a1 c p1 p3 p4, hb_up_ne p1, hb_set_ne p2]
  · intro k p
    rw [a2 k p, hb_up_eq, hb_un p, hb_set_ne (by decide)]
