/-! ===== how the two objects stand to each other ===== -/
def rL (n e p : Nat) (st se A B Dd py : Nat → Int32) : Prop := n ≤ 12 ∧ e ≤ 30 ∧ p ≤ 8 ∧ (∀ i, okc (st i) 1) ∧ (∀ i, ∃ s : Nat, se i = nI s ∧ (s < n ∨ s = 0)) ∧ eg_ok n e A B Dd (fun k => nv (A k)) (fun k => nv (B k)) (fun k => nv (Dd k)) ∧ (∀ i, i < p → okc (py i) 99) ∧ sp_rise p py
def rP (n pe : Nat) (bi ho fm sm ch hd : Nat → Int32) : Prop := pe ≤ 16 ∧ (∀ i, i < pe → (∃ a : Nat, a < n ∧ bi i = nI a) ∧ (∃ a : Nat, a < n ∧ ho i = nI a) ∧ (ch i = -1 ∨ ch i = 0 ∨ ch i = 1)) ∧ (∀ i, okc (fm i) 600) ∧ (∀ i, okc (sm i) 600) ∧ (∀ i, okc (hd i) 9999)
def rE (n th ti : Nat) (K PL W CP A B : Nat → Int32) : Prop := es_ok th ti K W A B ∧ (∀ i, i < th → ((nv (K i) = 1 ∨ nv (K i) = 2) → ∃ a : Nat, a < n ∧ PL i = nI a) ∧ (nv (K i) = 5 → ∃ a : Nat, a < th ∧ PL i = nI a ∧ (nv (K a) = 1 ∨ nv (K a) = 2))) ∧ (∀ i, CP i = 0 ∨ CP i = 1) ∧ (∀ i, th ≤ i → CP i = 0)
def rW (a b l d : Int32) : Prop := (∃ x : Nat, 1 ≤ x ∧ x ≤ 200 ∧ a = nI x) ∧ (∃ x : Nat, 1 ≤ x ∧ x ≤ 200 ∧ b = nI x) ∧ okc l 9999 ∧ okc d 9
def rG (n wa : Nat) (σ : am_S) : Prop := wa ≤ 10 ∧ (∀ w, w < wa → (σ 49 w = 0 ∨ σ 49 w = 1) ∧ ∃ c : Nat, 1 ≤ c ∧ c ≤ 12 ∧ σ 50 w = nI c ∧ ∀ k, k < c → σ (52 + w) k = σ 113 (12 * w + k) ∧ (∃ a : Nat, a < n ∧ σ (52 + w) k = nI a) ∧ (1 ≤ k → σ (63 + w) k = σ 114 (12 * w + k))) ∧ (∀ w, wa ≤ w → w < 10 → σ 50 w = 0)
def rCa (n pe th ca : Nat) (co ps pp K : Nat → Int32) : Prop := ca ≤ 10 ∧ ∀ i, i < ca → (∃ a : Nat, a < n ∧ co i = nI a) ∧ (∃ a : Nat, a < pe ∧ ps i = nI a) ∧ (pp i = -1 ∨ ∃ a : Nat, a < th ∧ pp i = nI a ∧ nv (K a) = 4)
def rT (ta : Nat) (dy nd : Nat → Int32) : Prop := ta ≤ 9 ∧ (∀ t, t < ta → okc (dy t) 200) ∧ (∀ t, okc (nd t) 511) ∧ (∀ t, ta ≤ t → nd t = 0)
def rgF (F : rs_F) (o gr : Nat → Int32) : Prop := F.1.length ≤ 4 ∧ o 3 = nI F.1.length ∧ (∀ i (h : i < F.1.length), gr i = F.1[i]) ∧ o 4 = F.2.1 ∧ o 5 = F.2.2.1 ∧ o 6 = F.2.2.2.1 ∧ o 7 = F.2.2.2.2.1 ∧ o 8 = F.2.2.2.2.2
def rXt (L : Int32) (b gr o mb : Nat → Int32) (mo : Nat) : Prop := ∃ len : Nat, len ≤ 50 ∧ L = nI len ∧ o 2 = nI len ∧ (∀ k, k < len → b k = mb (mo + k)) ∧ (rs_all b len).1 = true ∧ rgF (rs_all b len).2.2 o gr
def rXp (fl L : Int32) (b gr o mb : Nat → Int32) (mo : Nat) : Prop := (fl = 0 ∧ L = -1) ∨ (fl = 1 ∧ rXt L b gr o mb mo)
def rK (th ti : Nat) (K W A B : Nat → Int32) (sh dl : Int32) (C O : Nat → Int32) : Prop := C 5 = 0 ∨ (C 5 = 1 ∧ pt_ok th ti K W A B (decide (dl = 1)) sh (C 6) (C 7) (C 8) (C 9) O)
def R0 (σ : am_S) : Prop := ∃ n e p pe th ti wa ca ta dd wt tl : Nat, (σ 1 11 = nI n) ∧ (σ 1 12 = nI e) ∧ (σ 1 13 = nI p) ∧ (σ 13 7 = nI pe) ∧ (σ 34 6 = nI th) ∧ (σ 34 7 = nI ti) ∧ (σ 48 4 = nI wa) ∧ (σ 73 4 = nI ca) ∧ (σ 78 4 = nI ta) ∧ (σ 0 12 = nI dd) ∧ (σ 0 11 = nI wt) ∧ (σ 22 2 = nI tl) ∧ (σ 1 11 = σ 85 1) ∧ (σ 1 12 = σ 85 5) ∧ (σ 1 13 = σ 85 10) ∧ (σ 13 7 = σ 85 14) ∧ (σ 22 2 = σ 85 22) ∧ (σ 21 6 = σ 85 25) ∧ (σ 34 6 = σ 85 26) ∧ (σ 34 7 = σ 85 31) ∧ (σ 47 2 = σ 85 35) ∧ (σ 47 3 = σ 85 36) ∧ (σ 48 4 = σ 85 37) ∧ (σ 73 4 = σ 85 42) ∧ (σ 78 4 = σ 85 47) ∧ (σ 0 11 = σ 85 50) ∧ (σ 0 12 = σ 85 0) ∧ (σ 47 0 = σ 111 0) ∧ (σ 47 1 = σ 111 1) ∧ (σ 2 = σ 86) ∧ (σ 3 = σ 87) ∧ (σ 4 = σ 88) ∧ (σ 5 = σ 95) ∧ (σ 6 = σ 89) ∧ (σ 7 = σ 90) ∧ (σ 8 = σ 91) ∧ (σ 9 = σ 92) ∧ (σ 10 = σ 93) ∧ (σ 11 = σ 94) ∧ (σ 14 = σ 96) ∧ (σ 15 = σ 97) ∧ (σ 18 = σ 99) ∧ (σ 19 = σ 100) ∧ (σ 20 = σ 101) ∧ (σ 23 = σ 102) ∧ (σ 35 = σ 105) ∧ (σ 36 = σ 107) ∧ (σ 37 = σ 106) ∧ (σ 38 = σ 108) ∧ (σ 39 = σ 109) ∧ (σ 40 = σ 110) ∧ (σ 49 = σ 112) ∧ (σ 50 = σ 115) ∧ (σ 74 = σ 116) ∧ (σ 75 = σ 117) ∧ (σ 76 = σ 118) ∧ (σ 77 = σ 119) ∧ (σ 79 = σ 120) ∧ (σ 80 = σ 121) ∧ (σ 84 = σ 122) ∧ (∀ i, σ 16 i = σ 98 (2 * i) ∧ σ 17 i = σ 98 (2 * i + 1)) ∧ (rL n e p (σ 4) (σ 5) (σ 6) (σ 7) (σ 8) (σ 11)) ∧ (rP n pe (σ 14) (σ 15) (σ 16) (σ 17) (σ 18) (σ 20)) ∧ (rE n th ti (σ 35) (σ 36) (σ 37) (σ 38) (σ 39) (σ 40)) ∧ (rW (σ 47 0) (σ 47 1) (σ 47 2) (σ 47 3)) ∧ (rG n wa σ) ∧ (rCa n pe th ca (σ 74) (σ 75) (σ 77) (σ 35)) ∧ (rT ta (σ 79) (σ 80)) ∧ (dd ≤ 400 ∧ wt ≤ 16 ∧ tl ≤ 50) ∧ (rXp (σ 21 4) (σ 104 0) (σ 26) (σ 27) (σ 25) (σ 103) 0) ∧ (rXp (σ 21 5) (σ 104 1) (σ 29) (σ 30) (σ 28) (σ 103) 50) ∧ (rXt (σ 104 2) (σ 32) (σ 33) (σ 31) (σ 103) 100) ∧ (rK th ti (σ 35) (σ 37) (σ 39) (σ 40) (σ 31 5) (σ 31 6) (σ 41) (σ 44))
def R (σ : am_S) : Prop := R0 σ ∧ σ 83 = σ 123
def tw (f g : am_S → Option (Int32 × am_S)) (σ : am_S) : Prop := ∃ v σ1 σ2, f σ = some (v, σ1) ∧ g σ1 = some (v, σ2) ∧ R σ2
theorem rG_fr {n wa : Nat} {σ σ' : am_S} (h : ∀ c, (49 ≤ c ∧ c ≤ 72) ∨ c = 113 ∨ c = 114 → σ' c = σ c) (hG : rG n wa σ) : rG n wa σ' := by
  obtain ⟨h1, h2, h3⟩ := hG
  refine ⟨h1, ?_, ?_⟩
  · intro w hw
    obtain ⟨a1, c, a2, a3, a4, a5⟩ := h2 w hw
    rw [h 49 (by omega), h 50 (by omega)]
    refine ⟨a1, c, a2, a3, a4, fun k hk => ?_⟩
    rw [h (52 + w) (by omega), h (63 + w) (by omega), h 113 (by omega), h 114 (by omega)]
    exact a5 k hk
  · intro w b1 b2
    rw [h 50 (by omega)]
    exact h3 w b1 b2
theorem rG_up {n wa c k : Nat} {v : Int32} {σ : am_S} (hc : ¬ ((49 ≤ c ∧ c ≤ 72) ∨ c = 113 ∨ c = 114)) (hG : rG n wa σ) : rG n wa (am_up σ c k v) := rG_fr (fun c' h => hb_up_ne (fun e => hc (by rw [← e]; exact h))) hG
theorem rG_set {n wa c : Nat} {f : Nat → Int32} {σ : am_S} (hc : ¬ ((49 ≤ c ∧ c ≤ 72) ∨ c = 113 ∨ c = 114)) (hG : rG n wa σ) : rG n wa (am_set σ c f) := rG_fr (fun c' h => hb_set_ne (fun e => hc (by rw [← e]; exact h))) hG
theorem R0_83 {σ : am_S} {k : Nat} {v : Int32} (h : R0 σ) : R0 (am_up σ 83 k v) := by
  obtain ⟨n, e, p, pe, th, ti, wa, ca, ta, dd, wt, tl, cn, ce, cp, cpe, cth, cti, cwa, cca, cta, cdy, cwt, ctl, f1_11, f1_12, f1_13, f13_7, f22_2, f21_6, f34_6, f34_7, f47_2, f47_3, f48_4, f73_4, f78_4, f0_11, f0_12, f47_0, f47_1, r2, r3, r4, r5, r6, r7, r8, r9, r10, r11, r14, r15, r18, r19, r20, r23, r35, r36, r37, r38, r39, r40, r49, r50, r74, r75, r76, r77, r79, r80, r84, hM, hL, hP, hE, hW, hG, hC, hT, hD, hX0, hX1, hX2, hK⟩ := h
  exact ⟨n, e, p, pe, th, ti, wa, ca, ta, dd, wt, tl, cn, ce, cp, cpe, cth, cti, cwa, cca, cta, cdy, cwt, ctl, f1_11, f1_12, f1_13, f13_7, f22_2, f21_6, f34_6, f34_7, f47_2, f47_3, f48_4, f73_4, f78_4, f0_11, f0_12, f47_0, f47_1, r2, r3, r4, r5, r6, r7, r8, r9, r10, r11, r14, r15, r18, r19, r20, r23, r35, r36, r37, r38, r39, r40, r49, r50, r74, r75, r76, r77, r79, r80, r84, hM, hL, hP, hE, hW, rG_up (by decide) hG, hC, hT, hD, hX0, hX1, hX2, hK⟩
theorem R0_123 {σ : am_S} {k : Nat} {v : Int32} (h : R0 σ) : R0 (am_up σ 123 k v) := by
  obtain ⟨n, e, p, pe, th, ti, wa, ca, ta, dd, wt, tl, cn, ce, cp, cpe, cth, cti, cwa, cca, cta, cdy, cwt, ctl, f1_11, f1_12, f1_13, f13_7, f22_2, f21_6, f34_6, f34_7, f47_2, f47_3, f48_4, f73_4, f78_4, f0_11, f0_12, f47_0, f47_1, r2, r3, r4, r5, r6, r7, r8, r9, r10, r11, r14, r15, r18, r19, r20, r23, r35, r36, r37, r38, r39, r40, r49, r50, r74, r75, r76, r77, r79, r80, r84, hM, hL, hP, hE, hW, hG, hC, hT, hD, hX0, hX1, hX2, hK⟩ := h
  exact ⟨n, e, p, pe, th, ti, wa, ca, ta, dd, wt, tl, cn, ce, cp, cpe, cth, cti, cwa, cca, cta, cdy, cwt, ctl, f1_11, f1_12, f1_13, f13_7, f22_2, f21_6, f34_6, f34_7, f47_2, f47_3, f48_4, f73_4, f78_4, f0_11, f0_12, f47_0, f47_1, r2, r3, r4, r5, r6, r7, r8, r9, r10, r11, r14, r15, r18, r19, r20, r23, r35, r36, r37, r38, r39, r40, r49, r50, r74, r75, r76, r77, r79, r80, r84, hM, hL, hP, hE, hW, rG_up (by decide) hG, hC, hT, hD, hX0, hX1, hX2, hK⟩
def fnd (k : Nat) (σ : am_S) : am_S := am_up σ 83 k (σ 83 k + 1)
def fmd (k : Nat) (σ : am_S) : am_S := am_up σ 123 k (σ 123 k + 1)
theorem fx_f1 (σ : am_S) : fx_finding (-1000000001) σ = some (-1000000001, fnd 1 σ) := rfl
theorem fx_f2 (σ : am_S) : fx_finding (-1000000002) σ = some (-1000000002, fnd 2 σ) := rfl
theorem fx_f3 (σ : am_S) : fx_finding (-1000000003) σ = some (-1000000003, fnd 3 σ) := rfl
theorem fx_f4 (σ : am_S) : fx_finding (-1000000004) σ = some (-1000000004, fnd 4 σ) := rfl
theorem fx_f5 (σ : am_S) : fx_finding (-1000000005) σ = some (-1000000005, fnd 5 σ) := rfl
theorem fm_f1 (σ : am_S) : fm_finding 1 σ = some (-1000000001, fmd 1 σ) := rfl
theorem fm_f2 (σ : am_S) : fm_finding 2 σ = some (-1000000002, fmd 2 σ) := rfl
theorem fm_f3 (σ : am_S) : fm_finding 3 σ = some (-1000000003, fmd 3 σ) := rfl
theorem fm_f4 (σ : am_S) : fm_finding 4 σ = some (-1000000004, fmd 4 σ) := rfl
theorem fm_f5 (σ : am_S) : fm_finding 5 σ = some (-1000000005, fmd 5 σ) := rfl
theorem R_find {σ : am_S} (k : Nat) (h : R σ) : R (fmd k (fnd k σ)) := by
  refine ⟨R0_123 (R0_83 h.1), ?_⟩
  unfold fmd fnd
  rw [hb_up_ne (by decide), hb_up_eq, hb_up_eq, hb_up_ne (by decide), h.2]
/-- both answer the same finding -/
theorem tw_f {f g : am_S → Option (Int32 × am_S)} {σ : am_S} {v : Int32} (k : Nat) (h : R σ) (hf : f σ = some (v, fnd k σ)) (hg : g (fnd k σ) = some (v, fmd k (fnd k σ))) : tw f g σ := ⟨v, _, _, hf, hg, R_find k h⟩

