theorem rx_rd {N a len l m : Nat} {σ : am_S} (hN : 200 ≤ N) (hl : len ≤ 50) (h : σ 22 2 = nI len) (ha : a < 2 ^ 20) (hm : m ≤ 3) (hlm : l ≤ m) : fx_Text_readDigits N (nI a) (nI l) (nI m) σ = some (if rs_nd (σ 23) len m a < l then (-1) - nI (a + rs_nd (σ 23) len m a) else nI (a + rs_nd (σ 23) len m a)) := by
  unfold fx_Text_readDigits
  have hn := rs_nd_le (b := σ 23) (len := len) m a
  rw [rx_dig hl h m a N (by omega) (by omega) (nI_add a m)]
  unfold fx_Text_readDigits_b29 fx_Text_faultAt
  rw [nI_add]
  by_cases q : rs_nd (σ 23) len m a < l
  · rw [if_neg (nI_ge (by omega) (by omega)), if_pos q]
  · rw [if_pos (nI_le (by omega) (by omega)), if_neg q]
theorem rx_neg {p : Nat} (hp : p < 2 ^ 30) : (-1 : Int32) - nI p < 0 := by
  rw [fa_lt, fb_subI]
  · rw [nI_toInt (by omega)]; show (-1 : Int) - p < 0; omega
  · rw [nI_toInt (by omega)]; show (-2147483648 : Int) ≤ -1 - p; omega
  · rw [nI_toInt (by omega)]; show (-1 : Int) - p < 2147483648; omega
theorem rx_neg' {p : Nat} (hp : p < 2 ^ 30) : ¬ 0 ≤ (-1 : Int32) - nI p := by
  have := (fa_lt _ _).1 (rx_neg hp)
  rw [fa_le]
  omega
theorem rx_fp {p : Nat} (hp : p < 2 ^ 30) : (-1 : Int32) - ((-1) - nI p) = nI p := by
  have e1 : ((-1 : Int32) - nI p).toInt = -1 - (p : Int) := by
    rw [fb_subI]
    · rw [nI_toInt (by omega)]; rfl
    · rw [nI_toInt (by omega)]; show (-2147483648 : Int) ≤ -1 - p; omega
    · rw [nI_toInt (by omega)]; show (-1 : Int) - p < 2147483648; omega
  rw [fa_eq, fb_subI]
  · rw [e1, nI_toInt (by omega)]; show (-1 : Int) - (-1 - p) = p; omega
  · rw [e1]; show (-2147483648 : Int) ≤ -1 - (-1 - p); omega
  · rw [e1]; show (-1 : Int) - (-1 - p) < 2147483648; omega
theorem rs_end_b {b : Nat → Int32} {len e : Nat} {F : rs_F} : (rs_end b len e F).2.1 ≤ e + 1 := by
  unfold rs_end
  split
  · exact Nat.le_refl _
  · exact Nat.le_succ _
theorem rs_gr_b {b : Nat → Int32} {len : Nat} : ∀ m a gs, (rs_gr b len m a gs).1 ≤ a + m := by
  intro m
  induction m with
  | zero => intro a gs; exact Nat.le_refl _
  | succ m ih =>
    intro a gs
    rw [rs_gr]
    have := ih (a + 1) (gs ++ [rs_bt b len a])
    split
    · omega
    · exact Nat.le_add_right _ _
theorem rs_row_b {b : Nat → Int32} {len a : Nat} {F : rs_F} : (rs_row b len a F).2.1 ≤ a + 6 := by
  have h1 := rs_gr_b (b := b) (len := len) 4 (a + 1) []
  have h2 := rs_nd_le (b := b) (len := len) 3 (a + 1)
  have h3 := rs_nd_le (b := b) (len := len) 2 (a + 1)
  unfold rs_row
  repeat' split
  all_goals first
    | exact Nat.le_trans rs_end_b (by omega)
    | (simp only []; omega)
    | (dsimp only; omega)
theorem rx_fin {len e k : Nat} {v : Int32} {σ : am_S} (F : rs_F) (hl : len ≤ 50) (h : σ 22 2 = nI len) (he : e < 2 ^ 30) (hk : k ≠ 2) : fx_Text_readRowEnd (nI e) (am_up σ 22 k v) = some (rx_v (rs_end (σ 23) len e F)) := by
  have := rx_end (σ := am_up σ 22 k v) (len := len) F hl (by rw [hb_up_eq, hb_un (by omega), h]) he
  rw [hb_up_ne (by decide)] at this
  exact this
theorem rx_ff {p : Nat} {F : rs_F} : rx_v (false, p, F) = (-1) - nI p := if_neg Bool.noConfusion
theorem rx_end_F {b : Nat → Int32} {len e : Nat} {F : rs_F} {σ : am_S} (hF : rx_F F σ) : (rs_end b len e F).1 = true → rx_F (rs_end b len e F).2.2 σ := by
  intro h
  rw [(rs_end_t h).2.2.1]
  exact hF
theorem rx_no {p : Nat} {F G : rs_F} {σ : am_S} : ((false, p, F) : Bool × Nat × rs_F).1 = true → rx_F G σ := fun h => Bool.noConfusion h
theorem rx_row {N a len : Nat} {F : rs_F} {σ : am_S} (hN : 200 ≤ N) (hl : len ≤ 50) (h : σ 22 2 = nI len) (ha : a ≤ 60) (hF : rx_F F σ) : ∃ σ', fx_Text_readRow N (nI a) σ = some (rx_v (rs_row (σ 23) len a F), σ') ∧ rx_fr σ' σ ∧ ((rs_row (σ 23) len a F).1 = true → rx_F (rs_row (σ 23) len a F).2.2 σ') := by
  unfold fx_Text_readRow
  rw [rx_byte hl h (by omega), hb_bind, nI_1]
  by_cases c99 : rs_bt (σ 23) len a = 99
  · have es : rs_row (σ 23) len a F = (if rs_nd (σ 23) len 1 (a + 1) < 1 then (false, a + 1, F) else rs_end (σ 23) len (a + 1 + 1) (F.1, F.2.1, F.2.2.1, F.2.2.2.1, rs_vl (σ 23) len 1 (a + 1) 0, F.2.2.2.2.2)) := by
      unfold rs_row
      rw [c99, if_neg (by decide), if_neg (by decide), if_neg (by decide), if_neg (by decide), if_pos rfl]
    have hn := rs_nd_le (b := σ 23) (len := len) 1 (a + 1)
    rw [if_pos c99, es]
    unfold fx_Text_readCourtStage fx_Text_numberAt
    rw [hb_L1, rx_rd hN hl h (by omega) (by omega) (by omega), hb_bind]
    by_cases q : rs_nd (σ 23) len 1 (a + 1) < 1
    · have e0 : rs_nd (σ 23) len 1 (a + 1) = 0 := by omega
      rw [if_pos q, if_neg (rx_neg' (by omega)), hb_bind, if_pos q, rx_ff, e0]
      exact ⟨σ, rfl, rx_fr_refl σ, rx_no⟩
    · have e0 : rs_nd (σ 23) len 1 (a + 1) = 1 := by omega
      rw [if_neg q, if_pos (nI_pos' (by omega)), e0, rx_num hl h 1 (a + 1) 0 N (by omega) (by omega), hb_bind, rx_fin (F.1, F.2.1, F.2.2.1, F.2.2.2.1, rs_vl (σ 23) len 1 (a + 1) 0, F.2.2.2.2.2) hl h (by omega) (by decide), hb_bind, hb_bind, if_neg (by omega)]
      exact ⟨_, rfl, rx_fr_up (by decide), rx_end_F (rx_set hF _).2.2.2.1⟩
  · rw [if_neg c99]
    by_cases c100 : rs_bt (σ 23) len a = 100
    · have es : rs_row (σ 23) len a F = (if rs_bt (σ 23) len (a + 1) = 108 then rs_end (σ 23) len (a + 2) (F.1, F.2.1, F.2.2.1, 1, F.2.2.2.2) else if rs_bt (σ 23) len (a + 1) = 115 then rs_end (σ 23) len (a + 2) (F.1, F.2.1, F.2.2.1, 0, F.2.2.2.2) else (false, a + 1, F)) := by
        unfold rs_row
        rw [c100, if_neg (by decide), if_neg (by decide), if_neg (by decide), if_pos rfl]
      rw [if_pos c100, es]
      unfold fx_Text_readDebts fx_Text_readDebts_b23 fx_Text_readDebts_b35
      rw [rx_byte hl h (by omega), hb_bind, nI_1]
      by_cases d1 : rs_bt (σ 23) len (a + 1) = 108
      · simp only [if_pos d1]
        rw [hb_gt hb_bo1, rx_fin (F.1, F.2.1, F.2.2.1, 1, F.2.2.2.2) hl h (by omega) (by decide), hb_bind, hb_bind]
        exact ⟨_, rfl, rx_fr_up (by decide), rx_end_F (rx_set hF _).2.2.1⟩
      · simp only [if_neg d1]
        by_cases d2 : rs_bt (σ 23) len (a + 1) = 115
        · simp only [if_pos d2]
          rw [hb_gt hb_bo0, rx_fin (F.1, F.2.1, F.2.2.1, 0, F.2.2.2.2) hl h (by omega) (by decide), hb_bind, hb_bind]
          exact ⟨_, rfl, rx_fr_up (by decide), rx_end_F (rx_set hF _).2.2.1⟩
        · simp only [if_neg d2]
          rw [hb_bind, rx_ff]
          exact ⟨σ, rfl, rx_fr_refl σ, fun h => by simp at h⟩
    · rw [if_neg c100]
      by_cases c107 : rs_bt (σ 23) len a = 107
      · have es : rs_row (σ 23) len a F = (if rs_nd (σ 23) len 3 (a + 1) < 1 then (false, a + 1 + rs_nd (σ 23) len 3 (a + 1), F) else rs_end (σ 23) len (a + 1 + rs_nd (σ 23) len 3 (a + 1)) (F.1, rs_vl (σ 23) len (rs_nd (σ 23) len 3 (a + 1)) (a + 1) 0, F.2.2)) := by
          unfold rs_row
          rw [c107, if_neg (by decide), if_pos rfl]
        have hn := rs_nd_le (b := σ 23) (len := len) 3 (a + 1)
        rw [if_pos c107, es]
        unfold fx_Text_readLastChoiceDay fx_Text_numberAt
        rw [hb_L1, hb_L3, rx_rd hN hl h (by omega) (by omega) (by omega), hb_bind]
        by_cases q : rs_nd (σ 23) len 3 (a + 1) < 1
        · rw [if_pos q, if_neg (rx_neg' (by omega)), hb_bind, if_pos q, rx_ff]
          exact ⟨σ, rfl, rx_fr_refl σ, rx_no⟩
        · rw [if_neg q, if_pos (nI_pos' (by omega)), rx_num hl h _ (a + 1) 0 N (by omega) (by omega), hb_bind, rx_fin (F.1, rs_vl (σ 23) len (rs_nd (σ 23) len 3 (a + 1)) (a + 1) 0, F.2.2) hl h (by omega) (by decide), hb_bind, hb_bind, if_neg q]
          exact ⟨_, rfl, rx_fr_up (by decide), rx_end_F (rx_set hF _).1⟩
      · rw [if_neg c107]
        by_cases c112 : rs_bt (σ 23) len a = 112
        · have es : rs_row (σ 23) len a F = (if (rs_gr (σ 23) len 4 (a + 1) []).2 = [] then (false, a + 1, F) else rs_end (σ 23) len (rs_gr (σ 23) len 4 (a + 1) []).1 ((rs_gr (σ 23) len 4 (a + 1) []).2, F.2)) := by
            unfold rs_row
            rw [c112, if_pos rfl]
          rw [if_pos c112, es]
          unfold fx_Text_readGrounds
          have g0 : rx_g [] (am_up σ 22 3 0) σ := by
            refine ⟨by decide, ?_, fun i hi => absurd hi (Nat.not_lt_zero i), fun c h1 _ => hb_up_ne h1, fun k hk => by rw [hb_up_eq, hb_un hk]⟩
            rw [hb_up_eq, hb_us]; rfl
          obtain ⟨σ2, hσ2, hg⟩ := rx_gr (N := N) (x1 := nI (a + 1)) hN hl h 4 (a + 1) N [] (am_up σ 22 3 0) rfl (by omega) (by omega) g0
          have hb9 : (rs_gr (σ 23) len 4 (a + 1) []).1 < 2 ^ 30 := by
            have := rs_gr_b (b := σ 23) (len := len) 4 (a + 1) []
            omega
          rw [hσ2]
          generalize rs_gr (σ 23) len 4 (a + 1) [] = G at *
          obtain ⟨g1, g2, g3, g4, g5⟩ := hg
          have hfr : rx_fr σ2 σ := ⟨g4, g5 2 (by decide)⟩
          have hl2 : σ2 22 2 = nI len := by rw [g5 2 (by decide), h]
          have hr2 : σ2 23 = σ 23 := g4 23 (by decide) (by decide)
          have hFn : rx_F (G.2, F.2) σ2 := by
            obtain ⟨f1, f2, f3, f4, f5, f6, f7, f8⟩ := hF
            exact ⟨g1, g2, g3, by rw [g5 4 (by decide)]; exact f4, by rw [g5 5 (by decide)]; exact f5, by rw [g5 6 (by decide)]; exact f6, by rw [g5 7 (by decide)]; exact f7, by rw [g5 8 (by decide)]; exact f8⟩
          unfold fx_Text_readGrounds_b57 fx_Text_faultAt
          rw [g2]
          by_cases q : G.2 = []
          · rw [if_pos (show nI G.2.length = 0 by rw [q]; rfl), hb_bind, if_pos q, rx_ff]
            exact ⟨σ2, rfl, hfr, rx_no⟩
          · have : G.2.length ≠ 0 := fun e => q (List.eq_nil_of_length_eq_zero e)
            have he := rx_end (σ := σ2) (len := len) (e := G.1) (G.2, F.2) hl hl2 hb9
            rw [hr2] at he
            rw [if_neg (nI_ne0 (by omega) (by omega)), if_neg q, he, hb_bind, hb_bind]
            exact ⟨σ2, rfl, hfr, rx_end_F hFn⟩
        · rw [if_neg c112]
          by_cases c115 : rs_bt (σ 23) len a = 115
          · have es : rs_row (σ 23) len a F = (if rs_nd (σ 23) len 2 (a + 1) < 2 then (false, a + 1 + rs_nd (σ 23) len 2 (a + 1), F) else rs_end (σ 23) len (a + 1 + 2) (F.1, F.2.1, rs_vl (σ 23) len 2 (a + 1) 0, F.2.2.2)) := by
              unfold rs_row
              rw [c115, if_neg (by decide), if_neg (by decide), if_pos rfl]
            have hn := rs_nd_le (b := σ 23) (len := len) 2 (a + 1)
            rw [if_pos c115, es]
            unfold fx_Text_readShare fx_Text_numberAt
            rw [hb_L2, rx_rd hN hl h (by omega) (by omega) (by omega), hb_bind]
            by_cases q : rs_nd (σ 23) len 2 (a + 1) < 2
            · rw [if_pos q, if_neg (rx_neg' (by omega)), hb_bind, if_pos q, rx_ff]
              exact ⟨σ, rfl, rx_fr_refl σ, rx_no⟩
            · have e0 : rs_nd (σ 23) len 2 (a + 1) = 2 := by omega
              rw [if_neg q, if_pos (nI_pos' (by omega)), e0, rx_num hl h _ (a + 1) 0 N (by omega) (by omega), hb_bind, rx_fin (F.1, F.2.1, rs_vl (σ 23) len 2 (a + 1) 0, F.2.2.2) hl h (by omega) (by decide), hb_bind, hb_bind, if_neg (by omega)]
              exact ⟨_, rfl, rx_fr_up (by decide), rx_end_F (rx_set hF _).2.1⟩
          · rw [if_neg c115]
            by_cases c117 : rs_bt (σ 23) len a = 117
            · have es : rs_row (σ 23) len a F = (if rs_dg (rs_bt (σ 23) len (a + 1)) = true ∧ ¬ 50 < rs_bt (σ 23) len (a + 1) then (if rs_dg (rs_bt (σ 23) len (a + 2)) = true ∧ ¬ 24 < rs_vl (σ 23) len 2 (a + 1) 0 then rs_end (σ 23) len (a + 3) (F.1, F.2.1, F.2.2.1, F.2.2.2.1, F.2.2.2.2.1, rs_vl (σ 23) len 2 (a + 1) 0) else (false, a + 2, F)) else (false, a + 1, F)) := by
                unfold rs_row
                rw [c117, if_neg (by decide), if_neg (by decide), if_neg (by decide), if_neg (by decide), if_neg (by decide), if_pos rfl]
              rw [if_pos c117, es]
              unfold fx_Text_readHours fx_Text_numberAt fx_Text_faultAt
              rw [rx_byte hl h (by omega), hb_bind]
              by_cases u1 : rs_bt (σ 23) len (a + 1) ≤ 50
              · have u1' : ¬ 50 < rs_bt (σ 23) len (a + 1) := fun q => by rw [fa_lt] at q; rw [fa_le] at u1; omega
                rw [if_pos u1, hb_L2, rx_rd hN hl h (by omega) (by omega) (by omega), hb_bind]
                by_cases d1 : rs_dg (rs_bt (σ 23) len (a + 1)) = true
                · simp only [if_pos (And.intro d1 u1')]
                  by_cases d2 : rs_dg (rs_bt (σ 23) len (a + 2)) = true
                  · have e0 : rs_nd (σ 23) len 2 (a + 1) = 2 := by
                      rw [rs_nd, if_pos d1, rs_nd, if_pos d2]; rfl
                    rw [e0, if_neg (show ¬ 2 < 2 by omega), if_pos (show 0 ≤ nI (a + 1 + 2) from nI_pos' (by omega)), rx_num hl h _ (a + 1) 0 N (by omega) (by omega), hb_bind]
                    by_cases u2 : rs_vl (σ 23) len 2 (a + 1) 0 ≤ 24
                    · have u2' : ¬ 24 < rs_vl (σ 23) len 2 (a + 1) 0 := fun q => by rw [fa_lt] at q; rw [fa_le] at u2; omega
                      rw [if_pos u2, rx_fin (F.1, F.2.1, F.2.2.1, F.2.2.2.1, F.2.2.2.2.1, rs_vl (σ 23) len 2 (a + 1) 0) hl h (by omega) (by decide), hb_bind, hb_bind, if_pos (And.intro d2 u2')]
                      exact ⟨_, rfl, rx_fr_up (by decide), rx_end_F (rx_set hF _).2.2.2.2⟩
                    · have u2' : 24 < rs_vl (σ 23) len 2 (a + 1) 0 := fa_of_nle u2
                      rw [if_neg u2, hb_bind, if_neg (fun q => q.2 u2'), rx_ff, nI_1]
                      exact ⟨_, rfl, rx_fr_up (by decide), rx_no⟩
                  · have e0 : rs_nd (σ 23) len 2 (a + 1) = 1 := by
                      rw [rs_nd, if_pos d1, rs_nd, if_neg d2]
                    rw [e0, if_pos (show 1 < 2 by omega), if_neg (rx_neg' (p := a + 1 + 1) (by omega)), hb_bind, if_neg (fun q => d2 q.1), rx_ff]
                    exact ⟨_, rfl, rx_fr_refl σ, rx_no⟩
                · have e0 : rs_nd (σ 23) len 2 (a + 1) = 0 := by
                    rw [rs_nd, if_neg d1]
                  rw [e0, if_pos (show 0 < 2 by omega), if_neg (rx_neg' (p := a + 1 + 0) (by omega)), hb_bind, if_neg (fun q => d1 q.1), rx_ff]
                  exact ⟨_, rfl, rx_fr_refl σ, rx_no⟩
              · have u1' : 50 < rs_bt (σ 23) len (a + 1) := fa_of_nle u1
                rw [if_neg u1, hb_bind, if_neg (fun q => q.2 u1'), rx_ff]
                exact ⟨_, rfl, rx_fr_refl σ, rx_no⟩
            · have es : rs_row (σ 23) len a F = (false, a, F) := by
                unfold rs_row
                rw [if_neg c112, if_neg c107, if_neg c115, if_neg c100, if_neg c99, if_neg c117]
              unfold fx_Text_faultAt
              rw [if_neg c117, es, rx_ff]
              exact ⟨_, rfl, rx_fr_refl σ, rx_no⟩
theorem rx_rows {N len : Nat} {τ : am_S} (hN : 200 ≤ N) (hl : len ≤ 50) : ∀ m r a q F σ, m + r = 51 → 1 ≤ m → r ≤ a → a ≤ len → m < q → σ 22 2 = nI len → σ 23 = τ 23 → rx_fr σ τ → rx_F F σ → ∃ σ', fx_Text_readRows_b8 N q (nI a) (nI r) σ = some ((if (rs_rows (τ 23) len m a F).1 = true then -1 else nI (rs_rows (τ 23) len m a F).2.1), σ') ∧ rx_fr σ' τ ∧ ((rs_rows (τ 23) len m a F).1 = true → rx_F (rs_rows (τ 23) len m a F).2.2 σ') := by
  intro m
  induction m with
  | zero => intro r a q F σ h1 h2; omega
  | succ m ih =>
    intro r a q F σ h1 h2 h3 h4 h5 h6 h7 h8 hF
    obtain ⟨q, rfl⟩ : ∃ m, q = m + 1 := ⟨q - 1, by omega⟩
    rw [fx_Text_readRows_b8, rs_rows, h6]
    by_cases c1 : len ≤ a
    · rw [if_pos c1, if_pos rfl, if_pos (nI_le c1 (by omega))]
      refine ⟨σ, ?_, h8, fun _ => hF⟩
      split <;> rfl
    · rw [if_neg c1, if_neg (by rw [hb_L50]; exact nI_ge (by omega) (by decide)), if_neg (nI_ge (by omega) (by omega))]
      obtain ⟨σ1, e1, e2, e3⟩ := rx_row (F := F) hN hl h6 (show a ≤ 60 by omega) hF
      rw [h7] at e1 e3
      rw [e1, hb_bind]
      have hfr : rx_fr σ1 τ := ⟨fun c a1 a2 => by rw [e2.1 c a1 a2, h8.1 c a1 a2], by rw [e2.2, h8.2]⟩
      by_cases c2 : (rs_row (τ 23) len a F).1 = true
      · obtain ⟨k1, k2⟩ := rs_row_t c2
        rw [if_pos c2]
        unfold rx_v
        rw [if_pos c2, if_pos (nI_pos' (by omega)), nI_1]
        exact ih (r + 1) _ q _ σ1 (by omega) (by omega) (by omega) k2 (by omega) (by rw [e2.2, h6]) (by rw [e2.1 23 (by decide) (by decide), h7]) hfr (e3 c2)
      · rw [if_neg c2]
        unfold rx_v fx_Text_faultPlace
        have hp : (rs_row (τ 23) len a F).2.1 < 2 ^ 30 := by
          have := rs_row_b (b := τ 23) (len := len) (a := a) (F := F)
          omega
        rw [if_neg c2, if_neg (rx_neg' hp)]
        exact ⟨σ1, by rw [rx_fp hp]; rfl, hfr, fun q => Bool.noConfusion q⟩
