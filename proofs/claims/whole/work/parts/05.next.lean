section AMX
variable {p : Program} {l : Launch} {e : Env} {R : Room} {s : State} {m : MethodId} {args : Array Value} {below : List Frame} {meth : Method} {c : Code} {H : Heap} {locs : List Loc} {cells slots : Nat} {Q : State → Prop}
set_option maxHeartbeats 4000000 in
theorem am_next {P : Nat → Option am_M} {sh : List am_Sh} {ex : am_X} {aC : Nat → ClassId} {adr : Nat → Nat} {D : va_G} {d : Nat} {M : am_M} {pc pc' len : Nat} {i : Instr} {L L' S S' : List Value} {σ σ' : am_S} {ls : Array Slot}
    (hM : am_ok P M) (C0 : am_Cx p s m args c M sh ex aC adr D) (hR : d + 1 ≤ R.frames ∧ 12 + 40 * d ≤ R.locals) (hcs : cells ≤ R.cells ∧ slots ≤ R.slots)
    (hd : decode (am_by M) pc = .ok (i, len)) (hlen : am_il i = 0 ∨ len = am_il i)
    (h : am_ex P sh ex d M pc i L S σ = some (.inl (pc', L', S', σ')))
    (hP : va_P D am_cl (am_W aC adr sh σ) H) (hS : va_S (am_A adr sh) s.heap H locs) (hl : lv_has ls (am_ml M) (am_lv adr 0 L)) (hL : L.length = am_ml M)
    (kk : ∀ (H' : Heap) (locs' : List Loc) (ls' : Array Slot), va_P D am_cl (am_W aC adr sh σ') H' → va_S (am_A adr sh) s.heap H' locs' → lv_has ls' (am_ml M) (am_lv adr 0 L') → L'.length = am_ml M → W p l e R s m args below meth c H' locs' cells slots Q (F0 m pc' ls' (S'.map (am_v adr)))) :
    W p l e R s m args below meth c H locs cells slots Q (F0 m pc ls (S.map (am_v adr))) := by
  obtain ⟨hx, hb, hml, hown, hts, hK, hE, hinj⟩ := id C0
  have hD : va_D (am_A adr sh) (am_W aC adr sh σ) := am_D hinj σ
  obtain ⟨hM1, hMf, hMm, hMc, hMx⟩ := id hM
  cases i
  case aload_n k =>
    obtain rfl : len = 1 := by rcases hlen with q | q; exact absurd q (show ¬ (1 : Nat) = 0 by decide); exact q
    simp only [am_ex] at h
    split at h
    · rename_i a ha
      simp only [am_nx, Option.some.injEq, Sum.inl.injEq, Prod.mk.injEq] at h
      obtain ⟨rfl, rfl, rfl, rfl⟩ := h
      exact lv_aload_n hx hb hd rfl (am_at_ref hl ha) (kk _ _ _ hP hS hl hL)
    · cases h
  case aload k =>
    obtain rfl : len = 2 := by rcases hlen with q | q; exact absurd q (show ¬ (2 : Nat) = 0 by decide); exact q
    simp only [am_ex] at h
    split at h
    · rename_i a ha
      simp only [am_nx, Option.some.injEq, Sum.inl.injEq, Prod.mk.injEq] at h
      obtain ⟨rfl, rfl, rfl, rfl⟩ := h
      exact lv_aload hx hb hd (am_at_ref hl ha) (kk _ _ _ hP hS hl hL)
    · cases h
  case iload_n k =>
    obtain rfl : len = 1 := by rcases hlen with q | q; exact absurd q (show ¬ (1 : Nat) = 0 by decide); exact q
    simp only [am_ex] at h
    split at h
    · rename_i a ha
      simp only [am_nx, Option.some.injEq, Sum.inl.injEq, Prod.mk.injEq] at h
      obtain ⟨rfl, rfl, rfl, rfl⟩ := h
      exact lv_iload_n hx hb hd rfl (am_at_int hl ha) (kk _ _ _ hP hS hl hL)
    · cases h
  case iload k =>
    obtain rfl : len = 2 := by rcases hlen with q | q; exact absurd q (show ¬ (2 : Nat) = 0 by decide); exact q
    simp only [am_ex] at h
    split at h
    · rename_i a ha
      simp only [am_nx, Option.some.injEq, Sum.inl.injEq, Prod.mk.injEq] at h
      obtain ⟨rfl, rfl, rfl, rfl⟩ := h
      exact lv_iload hx hb hd (am_at_int hl ha) (kk _ _ _ hP hS hl hL)
    · cases h
  case istore_n k =>
    obtain rfl : len = 1 := by rcases hlen with q | q; exact absurd q (show ¬ (1 : Nat) = 0 by decide); exact q
    simp only [am_ex] at h
    split at h
    · rename_i x S0
      split at h
      · rename_i hk
        simp only [am_nx, Option.some.injEq, Sum.inl.injEq, Prod.mk.injEq] at h
        obtain ⟨rfl, rfl, rfl, rfl⟩ := h
        refine lv_istore_n hx hb hd rfl hl (by omega) rfl (fun ls' hl' => ?_)
        exact kk _ _ _ hP hS (am_has_set (v := .int x) (Or.inl ⟨x, rfl⟩) hl') (by rw [List.length_set]; exact hL)
      · cases h
    · cases h
  case istore k =>
    obtain rfl : len = 2 := by rcases hlen with q | q; exact absurd q (show ¬ (2 : Nat) = 0 by decide); exact q
    simp only [am_ex] at h
    split at h
    · rename_i x S0
      split at h
      · rename_i hk
        simp only [am_nx, Option.some.injEq, Sum.inl.injEq, Prod.mk.injEq] at h
        obtain ⟨rfl, rfl, rfl, rfl⟩ := h
        refine lv_istore hx hb hd hl (by omega) rfl (fun ls' hl' => ?_)
        exact kk _ _ _ hP hS (am_has_set (v := .int x) (Or.inl ⟨x, rfl⟩) hl') (by rw [List.length_set]; exact hL)
      · cases h
    · cases h
  case astore_n k =>
    obtain rfl : len = 1 := by rcases hlen with q | q; exact absurd q (show ¬ (1 : Nat) = 0 by decide); exact q
    simp only [am_ex] at h
    split at h
    · rename_i x S0
      split at h
      · rename_i hk
        simp only [am_nx, Option.some.injEq, Sum.inl.injEq, Prod.mk.injEq] at h
        obtain ⟨rfl, rfl, rfl, rfl⟩ := h
        refine lv_astore_n hx hb hd rfl hl (by omega) rfl (fun ls' hl' => ?_)
        exact kk _ _ _ hP hS (am_has_set (v := .ref x) (Or.inr ⟨x, rfl⟩) hl') (by rw [List.length_set]; exact hL)
      · cases h
    · cases h
  case iinc k n =>
    obtain rfl : len = 3 := by rcases hlen with q | q; exact absurd q (show ¬ (3 : Nat) = 0 by decide); exact q
    simp only [am_ex] at h
    split at h
    · rename_i a ha
      simp only [am_nx, Option.some.injEq, Sum.inl.injEq, Prod.mk.injEq] at h
      obtain ⟨rfl, rfl, rfl, rfl⟩ := h
      have hm := am_lv_int (adr := adr) (k := 0) ha
      rw [Nat.zero_add] at hm
      obtain ⟨j, hj⟩ := List.getElem?_of_mem hm
      have hk : k < am_ml M := by rw [← hL]; exact (List.getElem?_eq_some_iff.mp ha).1
      refine lv_iinc hx hb hd hl hj rfl hk rfl (fun ls' hl' => ?_)
      exact kk _ _ _ hP hS (am_has_set (v := .int (a + Int32.ofInt n)) (Or.inl ⟨_, rfl⟩) hl') (by rw [List.length_set]; exact hL)
    · cases h
  case iconst n =>
    obtain rfl : len = 1 := by rcases hlen with q | q; exact absurd q (show ¬ (1 : Nat) = 0 by decide); exact q
    simp only [am_ex] at h
    simp only [am_nx, Option.some.injEq, Sum.inl.injEq, Prod.mk.injEq] at h
    obtain ⟨rfl, rfl, rfl, rfl⟩ := h
    exact lv_iconst hx hb hd rfl (kk _ _ _ hP hS hl hL)
  case bipush n =>
    obtain rfl : len = 2 := by rcases hlen with q | q; exact absurd q (show ¬ (2 : Nat) = 0 by decide); exact q
    simp only [am_ex] at h
    simp only [am_nx, Option.some.injEq, Sum.inl.injEq, Prod.mk.injEq] at h
    obtain ⟨rfl, rfl, rfl, rfl⟩ := h
    exact lv_bipush hx hb hd rfl (kk _ _ _ hP hS hl hL)
  case sipush n =>
    obtain rfl : len = 3 := by rcases hlen with q | q; exact absurd q (show ¬ (3 : Nat) = 0 by decide); exact q
    simp only [am_ex] at h
    simp only [am_nx, Option.some.injEq, Sum.inl.injEq, Prod.mk.injEq] at h
    obtain ⟨rfl, rfl, rfl, rfl⟩ := h
    exact lv_sipush hx hb hd rfl (kk _ _ _ hP hS hl hL)
  case ldc k =>
    obtain rfl : len = 2 := by rcases hlen with q | q; exact absurd q (show ¬ (2 : Nat) = 0 by decide); exact q
    simp only [am_ex] at h
    split at h
    · rename_i v hv
      simp only [am_nx, Option.some.injEq, Sum.inl.injEq, Prod.mk.injEq] at h
      obtain ⟨rfl, rfl, rfl, rfl⟩ := h
      exact lv_ldc hx hb hown (hts _ (hMc k v hv)) hd (kk _ _ _ hP hS hl hL)
    · cases h
  case ldc_w k =>
    obtain rfl : len = 3 := by rcases hlen with q | q; exact absurd q (show ¬ (3 : Nat) = 0 by decide); exact q
    simp only [am_ex] at h
    split at h
    · rename_i v hv
      simp only [am_nx, Option.some.injEq, Sum.inl.injEq, Prod.mk.injEq] at h
      obtain ⟨rfl, rfl, rfl, rfl⟩ := h
      exact lv_ldcw hx hb hown (hts _ (hMc k v hv)) hd (kk _ _ _ hP hS hl hL)
    · cases h
  case getfield k =>
    obtain rfl : len = 3 := by rcases hlen with q | q; exact absurd q (show ¬ (3 : Nat) = 0 by decide); exact q
    simp only [am_ex] at h
    split at h
    · rename_i cc S0
      split at h
      · rename_i q hq
        obtain ⟨C, T, N, hc, hk, hlink, -, -⟩ := hMf k q hq
        obtain ⟨hin, hty, hnm⟩ := am_cl_ok _ _ _ _ hc
        split at h
        · rename_i v hv
          simp only [am_nx, Option.some.injEq, Sum.inl.injEq, Prod.mk.injEq] at h
          obtain ⟨rfl, rfl, rfl, rfl⟩ := h
          unfold am_gf at hv
          split at hv
          · rename_i o ho
            split at hv
            · rename_i hci
              have hw := am_W_at (aC := aC) (adr := adr) (σ := σ) ho
              have hw2 : (am_W aC adr sh σ)[cc]? = some (adr cc, .inr (o.1, am_fs adr σ cc o.2)) := hw
              rw [hci] at hw2
              split at hv
              · rename_i hf
                cases hv
                exact va_get hx hb hts hin hown hK hP cc hw2 hc q.2.1 hk (hts _ hlink) (fun _ h => h) (am_fs_at hf) hd (kk _ _ _ hP hS hl hL)
              · rename_i r hf
                cases hv
                exact va_get hx hb hts hin hown hK hP cc hw2 hc q.2.1 hk (hts _ hlink) (fun _ h => h) (am_fs_at hf) hd (kk _ _ _ hP hS hl hL)
              · cases hv
            · cases hv
          · cases hv
        · cases h
      · cases h
    · cases h
  case putfield k =>
    obtain rfl : len = 3 := by rcases hlen with q | q; exact absurd q (show ¬ (3 : Nat) = 0 by decide); exact q
    simp only [am_ex] at h
    split at h
    · rename_i v cc S0
      split at h
      · rename_i q hq
        obtain ⟨C, T, N, hc, hk, hlink, hz0, hz1⟩ := hMf k q hq
        obtain ⟨hin, hty, hnm⟩ := am_cl_ok _ _ _ _ hc
        split at h
        · rename_i hcond
          obtain ⟨hcp, hle, hbo⟩ := hcond
          simp only [am_nx, Option.some.injEq, Sum.inl.injEq, Prod.mk.injEq] at h
          obtain ⟨rfl, rfl, rfl, rfl⟩ := h
          unfold am_cpf at hcp
          split at hcp
          · rename_i o ho
            simp only [Bool.and_eq_true, decide_eq_true_eq] at hcp
            obtain ⟨hci, hf⟩ := hcp
            have hw2 : (am_W aC adr sh σ)[cc]? = some (adr cc, .inr (o.1, am_fs adr σ cc o.2)) := am_W_at (aC := aC) (adr := adr) (σ := σ) ho
            have hset := am_W_setf (aC := aC) (adr := adr) (σ := σ) (v := v) ho hf
            rw [hci] at hw2 hset
            have hlk : q.2.1 < (am_fs adr σ cc o.2).length := by rw [am_fs_len]; exact (List.getElem?_eq_some_iff.mp hf).1
            have hty1 := hty q.2.1 hk
            by_cases hz : q.2.2 = 0
            · obtain ⟨hfin, hti⟩ := hz0 hz
              rw [hti] at hty1
              refine va_put hx hb hts hin (am_ty q.1) hty hnm hown hK hP hD hS cc hw2 hc q.2.1 hk (hts _ hlink) (fun _ h => h) hfin (v := .int v) hty1 rfl rfl hlk hd (fun H1 locs1 hP1 _ hS1 => ?_)
              rw [hset] at hP1
              exact kk _ _ _ hP1 hS1 hl hL
            · have hz' : q.2.2 = 1 := by omega
              obtain ⟨hfin, hti⟩ := hz1 hz'
              obtain ⟨hn1, hn2, -⟩ := am_bo_nar (hbo hz')
              rw [hti] at hty1
              refine va_put hx hb hts hin (am_ty q.1) hty hnm hown hK hP hD hS cc hw2 hc q.2.1 hk (hts _ hlink) (fun _ h => h) hfin (v := .int v) hty1 hn1 hn2 hlk hd (fun H1 locs1 hP1 _ hS1 => ?_)
              rw [hset] at hP1
              exact kk _ _ _ hP1 hS1 hl hL
          · cases hcp
        · cases h
      · cases h
    · cases h
  case getstatic k =>
    obtain rfl : len = 3 := by rcases hlen with q | q; exact absurd q (show ¬ (3 : Nat) = 0 by decide); exact q
    simp only [am_ex] at h
    split at h
    · rename_i hk
      simp only [am_nx, Option.some.injEq, Sum.inl.injEq, Prod.mk.injEq] at h
      obtain ⟨rfl, rfl, rfl, rfl⟩ := h
      exact va_gets hx hb hE.2 hS hown (hts _ ((hMx k).1 hk)) (fun _ h => h) hd (kk _ _ _ hP hS hl hL)
    · cases h
  case iaload =>
    obtain rfl : len = 1 := by rcases hlen with q | q; exact absurd q (show ¬ (1 : Nat) = 0 by decide); exact q
    simp only [am_ex] at h
    split at h
    · rename_i i cc S0
      split at h
      · rename_i v hv
        simp only [am_nx, Option.some.injEq, Sum.inl.injEq, Prod.mk.injEq] at h
        obtain ⟨rfl, rfl, rfl, rfl⟩ := h
        unfold am_ild at hv
        split at hv
        · rename_i q hq
          split at hv
          · rename_i hi
            cases hv
            have hw2 : (am_W aC adr sh σ)[cc]? = some (adr cc, .inl (aC q.1, q.2, .inl (σ cc))) := am_W_at (aC := aC) (adr := adr) (σ := σ) hq
            rw [hi.1] at hw2
            exact va_iald hx hb hK hP cc 0 hw2 rfl (am_in_vp hi.2) hd (kk _ _ _ hP hS hl hL)
          · cases hv
        · cases hv
        · cases hv
        · split at hv
          · rename_i q hq
            split at hv
            · rename_i hi
              cases hv
              exact am_tint hx hb (hE.1 cc q hq) hS (am_in_vp hi) hd (kk _ _ _ hP hS hl hL)
            · cases hv
          · cases hv
      · cases h
    · cases h
  case baload =>
    obtain rfl : len = 1 := by rcases hlen with q | q; exact absurd q (show ¬ (1 : Nat) = 0 by decide); exact q
    simp only [am_ex] at h
    split at h
    · rename_i i cc S0
      split at h
      · rename_i v hv
        simp only [am_nx, Option.some.injEq, Sum.inl.injEq, Prod.mk.injEq] at h
        obtain ⟨rfl, rfl, rfl, rfl⟩ := h
        unfold am_bld at hv
        split at hv
        · rename_i q hq
          split at hv
          · rename_i hi
            cases hv
            have hw2 : (am_W aC adr sh σ)[cc]? = some (adr cc, .inl (aC q.1, q.2, .inl (σ cc))) := am_W_at (aC := aC) (adr := adr) (σ := σ) hq
            rw [hi.1] at hw2
            exact va_zald hx hb hK hP cc 1 hw2 rfl (am_in_vp hi.2) hd (kk _ _ _ hP hS hl hL)
          · cases hv
        · cases hv
      · cases h
    · cases h
  case aaload =>
    obtain rfl : len = 1 := by rcases hlen with q | q; exact absurd q (show ¬ (1 : Nat) = 0 by decide); exact q
    simp only [am_ex] at h
    split at h
    · rename_i i cc S0
      split at h
      · rename_i v hv
        simp only [am_nx, Option.some.injEq, Sum.inl.injEq, Prod.mk.injEq] at h
        obtain ⟨rfl, rfl, rfl, rfl⟩ := h
        unfold am_ald at hv
        split at hv
        · rename_i q hq
          split at hv
          · rename_i hi
            have hw2 : (am_W aC adr sh σ)[cc]? = some (adr cc, .inl (aC 2, q.length, .inr (.inr (.inr (.inr (fun k => (q[k]?).map adr)))))) := am_W_at (aC := aC) (adr := adr) (σ := σ) hq
            refine am_aald hx hb hK hP cc 2 hw2 rfl (am_in_vp hi) hd ?_
            rw [hv]
            exact kk _ _ _ hP hS hl hL
          · cases hv
        · cases hv
      · cases h
    · cases h
  case iastore =>
    obtain rfl : len = 1 := by rcases hlen with q | q; exact absurd q (show ¬ (1 : Nat) = 0 by decide); exact q
    simp only [am_ex] at h
    split at h
    · rename_i x i cc S0
      split at h
      · rename_i hv
        simp only [am_nx, Option.some.injEq, Sum.inl.injEq, Prod.mk.injEq] at h
        obtain ⟨rfl, rfl, rfl, rfl⟩ := h
        unfold am_can at hv
        split at hv
        · rename_i q hq
          simp only [Bool.and_eq_true, decide_eq_true_eq] at hv
          have hw2 : (am_W aC adr sh σ)[cc]? = some (adr cc, .inl (aC q.1, q.2, .inl (σ cc))) := am_W_at (aC := aC) (adr := adr) (σ := σ) hq
          have hset := am_W_set (aC := aC) (adr := adr) (σ := σ) hq (upd (σ cc) i.toNatClampNeg x)
          rw [hv.1] at hw2 hset
          refine va_iast hx hb hK hP hD hS cc 0 hw2 rfl (am_in_vp hv.2) hd (fun H1 locs1 hP1 _ hS1 => ?_)
          rw [hset] at hP1
          exact kk _ _ _ hP1 hS1 hl hL
        · cases hv
      · cases h
    · cases h
  case bastore =>
    obtain rfl : len = 1 := by rcases hlen with q | q; exact absurd q (show ¬ (1 : Nat) = 0 by decide); exact q
    simp only [am_ex] at h
    split at h
    · rename_i x i cc S0
      split at h
      · rename_i hvv
        obtain ⟨hv, hbo⟩ := hvv
        simp only [am_nx, Option.some.injEq, Sum.inl.injEq, Prod.mk.injEq] at h
        obtain ⟨rfl, rfl, rfl, rfl⟩ := h
        unfold am_can at hv
        split at hv
        · rename_i q hq
          simp only [Bool.and_eq_true, decide_eq_true_eq] at hv
          have hw2 : (am_W aC adr sh σ)[cc]? = some (adr cc, .inl (aC q.1, q.2, .inl (σ cc))) := am_W_at (aC := aC) (adr := adr) (σ := σ) hq
          have hset := am_W_set (aC := aC) (adr := adr) (σ := σ) hq (upd (σ cc) i.toNatClampNeg x)
          rw [hv.1] at hw2 hset
          refine va_zast hx hb hK hP hD hS cc 1 hw2 rfl (am_in_vp hv.2) hd (fun H1 locs1 hP1 _ hS1 => ?_)
          rw [(am_bo_nar hbo).2.2, hset] at hP1
          exact kk _ _ _ hP1 hS1 hl hL
        · cases hv
      · cases h
    · cases h
  case arraylength =>
    obtain rfl : len = 1 := by rcases hlen with q | q; exact absurd q (show ¬ (1 : Nat) = 0 by decide); exact q
    simp only [am_ex] at h
    split at h
    · rename_i cc S0
      split at h
      · rename_i n hn
        simp only [am_nx, Option.some.injEq, Sum.inl.injEq, Prod.mk.injEq] at h
        obtain ⟨rfl, rfl, rfl, rfl⟩ := h
        unfold am_len at hn
        split at hn
        · rename_i q hq
          have hw2 : (am_W aC adr sh σ)[cc]? = some (adr cc, .inl (aC q.1, q.2, .inl (σ cc))) := am_W_at (aC := aC) (adr := adr) (σ := σ) hq
          by_cases ht0 : q.1 = 0
          · rw [if_pos ht0] at hn
            cases hn
            rw [ht0] at hw2
            exact va_alen hx hb hK hP cc 0 hw2 rfl rfl hd (kk _ _ _ hP hS hl hL)
          · rw [if_neg ht0] at hn
            cases hn
        · rename_i q hq
          cases hn
          have hw2 : (am_W aC adr sh σ)[cc]? = some (adr cc, .inl (aC 2, q.length, .inr (.inr (.inr (.inr (fun k => (q[k]?).map adr)))))) := am_W_at (aC := aC) (adr := adr) (σ := σ) hq
          exact va_alen hx hb hK hP cc 2 hw2 rfl rfl hd (kk _ _ _ hP hS hl hL)
        · cases hn
        · split at hn
          · rename_i q hq
            cases hn
            exact va_tlen hx hb (hE.1 cc q hq) hS rfl hd (kk _ _ _ hP hS hl hL)
          · cases hn
      · cases h
    · cases h
  case iadd =>
    obtain rfl : len = 1 := by rcases hlen with q | q; exact absurd q (show ¬ (1 : Nat) = 0 by decide); exact q
    simp only [am_ex] at h
    split at h
    · simp only [am_nx, Option.some.injEq, Sum.inl.injEq, Prod.mk.injEq] at h
      obtain ⟨rfl, rfl, rfl, rfl⟩ := h
      exact lv_iadd hx hb hd (kk _ _ _ hP hS hl hL)
    · cases h
  case isub =>
    obtain rfl : len = 1 := by rcases hlen with q | q; exact absurd q (show ¬ (1 : Nat) = 0 by decide); exact q
    simp only [am_ex] at h
    split at h
    · simp only [am_nx, Option.some.injEq, Sum.inl.injEq, Prod.mk.injEq] at h
      obtain ⟨rfl, rfl, rfl, rfl⟩ := h
      exact lv_isub hx hb hd (kk _ _ _ hP hS hl hL)
    · cases h
  case imul =>
    obtain rfl : len = 1 := by rcases hlen with q | q; exact absurd q (show ¬ (1 : Nat) = 0 by decide); exact q
    simp only [am_ex] at h
    split at h
    · simp only [am_nx, Option.some.injEq, Sum.inl.injEq, Prod.mk.injEq] at h
      obtain ⟨rfl, rfl, rfl, rfl⟩ := h
      exact lv_imul hx hb hd (kk _ _ _ hP hS hl hL)
    · cases h
  case iand =>
    obtain rfl : len = 1 := by rcases hlen with q | q; exact absurd q (show ¬ (1 : Nat) = 0 by decide); exact q
    simp only [am_ex] at h
    split at h
    · simp only [am_nx, Option.some.injEq, Sum.inl.injEq, Prod.mk.injEq] at h
      obtain ⟨rfl, rfl, rfl, rfl⟩ := h
      exact lv_iand hx hb hd (kk _ _ _ hP hS hl hL)
    · cases h
  case ior =>
    obtain rfl : len = 1 := by rcases hlen with q | q; exact absurd q (show ¬ (1 : Nat) = 0 by decide); exact q
    simp only [am_ex] at h
    split at h
    · simp only [am_nx, Option.some.injEq, Sum.inl.injEq, Prod.mk.injEq] at h
      obtain ⟨rfl, rfl, rfl, rfl⟩ := h
      exact lv_ior hx hb hd (kk _ _ _ hP hS hl hL)
    · cases h
  case ixor =>
    obtain rfl : len = 1 := by rcases hlen with q | q; exact absurd q (show ¬ (1 : Nat) = 0 by decide); exact q
    simp only [am_ex] at h
    split at h
    · simp only [am_nx, Option.some.injEq, Sum.inl.injEq, Prod.mk.injEq] at h
      obtain ⟨rfl, rfl, rfl, rfl⟩ := h
      exact lv_ixor hx hb hd (kk _ _ _ hP hS hl hL)
    · cases h
  case ishl =>
    obtain rfl : len = 1 := by rcases hlen with q | q; exact absurd q (show ¬ (1 : Nat) = 0 by decide); exact q
    simp only [am_ex] at h
    split at h
    · simp only [am_nx, Option.some.injEq, Sum.inl.injEq, Prod.mk.injEq] at h
      obtain ⟨rfl, rfl, rfl, rfl⟩ := h
      exact lv_ishl hx hb hd (kk _ _ _ hP hS hl hL)
    · cases h
  case ishr =>
    obtain rfl : len = 1 := by rcases hlen with q | q; exact absurd q (show ¬ (1 : Nat) = 0 by decide); exact q
    simp only [am_ex] at h
    split at h
    · simp only [am_nx, Option.some.injEq, Sum.inl.injEq, Prod.mk.injEq] at h
      obtain ⟨rfl, rfl, rfl, rfl⟩ := h
      exact lv_ishr hx hb hd (kk _ _ _ hP hS hl hL)
    · cases h
  case iushr =>
    obtain rfl : len = 1 := by rcases hlen with q | q; exact absurd q (show ¬ (1 : Nat) = 0 by decide); exact q
    simp only [am_ex] at h
    split at h
    · simp only [am_nx, Option.some.injEq, Sum.inl.injEq, Prod.mk.injEq] at h
      obtain ⟨rfl, rfl, rfl, rfl⟩ := h
      exact lv_iushr hx hb hd rfl (kk _ _ _ hP hS hl hL)
    · cases h
  case ineg =>
    obtain rfl : len = 1 := by rcases hlen with q | q; exact absurd q (show ¬ (1 : Nat) = 0 by decide); exact q
    simp only [am_ex] at h
    split at h
    · simp only [am_nx, Option.some.injEq, Sum.inl.injEq, Prod.mk.injEq] at h
      obtain ⟨rfl, rfl, rfl, rfl⟩ := h
      exact lv_ineg hx hb hd (kk _ _ _ hP hS hl hL)
    · cases h
  case idiv =>
    obtain rfl : len = 1 := by rcases hlen with q | q; exact absurd q (show ¬ (1 : Nat) = 0 by decide); exact q
    simp only [am_ex] at h
    split at h
    · split at h
      · cases h
      · rename_i hy
        simp only [am_nx, Option.some.injEq, Sum.inl.injEq, Prod.mk.injEq] at h
        obtain ⟨rfl, rfl, rfl, rfl⟩ := h
        exact lv_idiv hx hb hd hy (kk _ _ _ hP hS hl hL)
    · cases h
  case irem =>
    obtain rfl : len = 1 := by rcases hlen with q | q; exact absurd q (show ¬ (1 : Nat) = 0 by decide); exact q
    simp only [am_ex] at h
    split at h
    · split at h
      · cases h
      · rename_i hy
        simp only [am_nx, Option.some.injEq, Sum.inl.injEq, Prod.mk.injEq] at h
        obtain ⟨rfl, rfl, rfl, rfl⟩ := h
        exact lv_irem hx hb hd hy (kk _ _ _ hP hS hl hL)
    · cases h
  case dup =>
    obtain rfl : len = 1 := by rcases hlen with q | q; exact absurd q (show ¬ (1 : Nat) = 0 by decide); exact q
    simp only [am_ex] at h
    split at h
    · simp only [am_nx, Option.some.injEq, Sum.inl.injEq, Prod.mk.injEq] at h
      obtain ⟨rfl, rfl, rfl, rfl⟩ := h
      exact lv_dup hx hb hd (am_v_cat adr _) (kk _ _ _ hP hS hl hL)
    · cases h
  case dup2 =>
    obtain rfl : len = 1 := by rcases hlen with q | q; exact absurd q (show ¬ (1 : Nat) = 0 by decide); exact q
    simp only [am_ex] at h
    split at h
    · simp only [am_nx, Option.some.injEq, Sum.inl.injEq, Prod.mk.injEq] at h
      obtain ⟨rfl, rfl, rfl, rfl⟩ := h
      exact lv_dup2_11 hx hb hd (am_v_cat adr _) (am_v_cat adr _) (kk _ _ _ hP hS hl hL)
    · cases h
  case goto off =>
    obtain rfl : len = 3 := by rcases hlen with q | q; exact absurd q (show ¬ (3 : Nat) = 0 by decide); exact q
    simp only [am_ex] at h
    split at h
    · rename_i h0
      simp only [am_nx, Option.some.injEq, Sum.inl.injEq, Prod.mk.injEq] at h
      obtain ⟨rfl, rfl, rfl, rfl⟩ := h
      exact lv_goto hx hb hd (am_tg_eq h0) (kk _ _ _ hP hS hl hL)
    · cases h
  case ifCond cd off =>
    obtain rfl : len = 3 := by rcases hlen with q | q; exact absurd q (show ¬ (3 : Nat) = 0 by decide); exact q
    simp only [am_ex] at h
    split at h
    · rename_i x S0
      split at h
      · rename_i h0
        simp only [am_nx, Option.some.injEq, Sum.inl.injEq, Prod.mk.injEq] at h
        obtain ⟨rfl, rfl, rfl, rfl⟩ := h
        cases cd with
        | eq =>
          refine lv_if_eq hx hb hd (am_tg_eq h0) (fun q => ?_) (fun q => ?_)
          · have hq : am_cb .eq x 0 = true := decide_eq_true q
            rw [if_pos hq] at kk
            exact kk _ _ _ hP hS hl hL
          · have hq : ¬ am_cb .eq x 0 = true := fun z => absurd (of_decide_eq_true z) q
            rw [if_neg hq] at kk
            exact kk _ _ _ hP hS hl hL
        | ne =>
          refine lv_if_ne hx hb hd (am_tg_eq h0) (fun q => ?_) (fun q => ?_)
          · have hq : am_cb .ne x 0 = true := decide_eq_true q
            rw [if_pos hq] at kk
            exact kk _ _ _ hP hS hl hL
          · have hq : ¬ am_cb .ne x 0 = true := fun z => absurd q (of_decide_eq_true z)
            rw [if_neg hq] at kk
            exact kk _ _ _ hP hS hl hL
        | lt =>
          refine lv_if_lt hx hb hd (am_tg_eq h0) (fun q => ?_) (fun q => ?_)
          · have hq : am_cb .lt x 0 = true := decide_eq_true q
            rw [if_pos hq] at kk
            exact kk _ _ _ hP hS hl hL
          · have hq : ¬ am_cb .lt x 0 = true := fun z => absurd (of_decide_eq_true z) q
            rw [if_neg hq] at kk
            exact kk _ _ _ hP hS hl hL
        | ge =>
          refine lv_if_ge hx hb hd (am_tg_eq h0) (fun q => ?_) (fun q => ?_)
          · have hq : am_cb .ge x 0 = true := decide_eq_true q
            rw [if_pos hq] at kk
            exact kk _ _ _ hP hS hl hL
          · have hq : ¬ am_cb .ge x 0 = true := fun z => absurd (of_decide_eq_true z) q
            rw [if_neg hq] at kk
            exact kk _ _ _ hP hS hl hL
        | gt =>
          refine lv_if_gt hx hb hd (am_tg_eq h0) (fun q => ?_) (fun q => ?_)
          · have hq : am_cb .gt x 0 = true := decide_eq_true q
            rw [if_pos hq] at kk
            exact kk _ _ _ hP hS hl hL
          · have hq : ¬ am_cb .gt x 0 = true := fun z => absurd (of_decide_eq_true z) q
            rw [if_neg hq] at kk
            exact kk _ _ _ hP hS hl hL
        | le =>
          refine lv_if_le hx hb hd (am_tg_eq h0) (fun q => ?_) (fun q => ?_)
          · have hq : am_cb .le x 0 = true := decide_eq_true q
            rw [if_pos hq] at kk
            exact kk _ _ _ hP hS hl hL
          · have hq : ¬ am_cb .le x 0 = true := fun z => absurd (of_decide_eq_true z) q
            rw [if_neg hq] at kk
            exact kk _ _ _ hP hS hl hL
      · cases h
    · cases h
  case if_icmp cd off =>
    obtain rfl : len = 3 := by rcases hlen with q | q; exact absurd q (show ¬ (3 : Nat) = 0 by decide); exact q
    simp only [am_ex] at h
    split at h
    · rename_i y x S0
      split at h
      · rename_i h0
        simp only [am_nx, Option.some.injEq, Sum.inl.injEq, Prod.mk.injEq] at h
        obtain ⟨rfl, rfl, rfl, rfl⟩ := h
        cases cd with
        | eq =>
          refine lv_icmp_eq hx hb hd (am_tg_eq h0) (fun q => ?_) (fun q => ?_)
          · have hq : am_cb .eq x y = true := decide_eq_true q
            rw [if_pos hq] at kk
            exact kk _ _ _ hP hS hl hL
          · have hq : ¬ am_cb .eq x y = true := fun z => absurd (of_decide_eq_true z) q
            rw [if_neg hq] at kk
            exact kk _ _ _ hP hS hl hL
        | ne =>
          refine lv_icmp_ne hx hb hd (am_tg_eq h0) (fun q => ?_) (fun q => ?_)
          · have hq : am_cb .ne x y = true := decide_eq_true q
            rw [if_pos hq] at kk
            exact kk _ _ _ hP hS hl hL
          · have hq : ¬ am_cb .ne x y = true := fun z => absurd q (of_decide_eq_true z)
            rw [if_neg hq] at kk
            exact kk _ _ _ hP hS hl hL
        | lt =>
          refine lv_icmp_lt hx hb hd (am_tg_eq h0) (fun q => ?_) (fun q => ?_)
          · have hq : am_cb .lt x y = true := decide_eq_true q
            rw [if_pos hq] at kk
            exact kk _ _ _ hP hS hl hL
          · have hq : ¬ am_cb .lt x y = true := fun z => absurd (of_decide_eq_true z) q
            rw [if_neg hq] at kk
            exact kk _ _ _ hP hS hl hL
        | ge =>
          refine lv_icmp_ge hx hb hd (am_tg_eq h0) (fun q => ?_) (fun q => ?_)
          · have hq : am_cb .ge x y = true := decide_eq_true q
            rw [if_pos hq] at kk
            exact kk _ _ _ hP hS hl hL
          · have hq : ¬ am_cb .ge x y = true := fun z => absurd (of_decide_eq_true z) q
            rw [if_neg hq] at kk
            exact kk _ _ _ hP hS hl hL
        | gt =>
          refine lv_icmp_gt hx hb hd (am_tg_eq h0) (fun q => ?_) (fun q => ?_)
          · have hq : am_cb .gt x y = true := decide_eq_true q
            rw [if_pos hq] at kk
            exact kk _ _ _ hP hS hl hL
          · have hq : ¬ am_cb .gt x y = true := fun z => absurd (of_decide_eq_true z) q
            rw [if_neg hq] at kk
            exact kk _ _ _ hP hS hl hL
        | le =>
          refine lv_icmp_le hx hb hd (am_tg_eq h0) (fun q => ?_) (fun q => ?_)
          · have hq : am_cb .le x y = true := decide_eq_true q
            rw [if_pos hq] at kk
            exact kk _ _ _ hP hS hl hL
          · have hq : ¬ am_cb .le x y = true := fun z => absurd (of_decide_eq_true z) q
            rw [if_neg hq] at kk
            exact kk _ _ _ hP hS hl hL
      · cases h
    · cases h
  case tableswitch df lo hi os =>
    simp only [am_ex] at h
    split at h
    · rename_i x S0
      split at h
      · rename_i h1
        split at h
        · rename_i h0
          simp only [am_nx, Option.some.injEq, Sum.inl.injEq, Prod.mk.injEq] at h
          obtain ⟨rfl, rfl, rfl, rfl⟩ := h
          exact lv_tableOut hx hb hd h1 (am_tg_eq h0) (kk _ _ _ hP hS hl hL)
        · cases h
      · rename_i h1
        split at h
        · rename_i off ho
          split at h
          · rename_i h0
            simp only [am_nx, Option.some.injEq, Sum.inl.injEq, Prod.mk.injEq] at h
            obtain ⟨rfl, rfl, rfl, rfl⟩ := h
            exact lv_tableIn hx hb hd (fun q => h1 (Or.inl q)) (fun q => h1 (Or.inr q)) ho (am_tg_eq h0) (kk _ _ _ hP hS hl hL)
          · cases h
        · cases h
    · cases h
  case lookupswitch df ps =>
    simp only [am_ex] at h
    split at h
    · rename_i x S0
      split at h
      · rename_i h1
        simp only [am_nx, Option.some.injEq, Sum.inl.injEq, Prod.mk.injEq] at h
        obtain ⟨rfl, rfl, rfl, rfl⟩ := h
        exact lv_lookup hx hb hd h1.1 rfl (am_tg_eq h1.2) (kk _ _ _ hP hS hl hL)
      · cases h
    · cases h
  case invokestatic k =>
    obtain rfl : len = 3 := by rcases hlen with q | q; exact absurd q (show ¬ (3 : Nat) = 0 by decide); exact q
    simp only [am_ex] at h
    split at h
    · rename_i hk
      split at h
      · rename_i n dp c1 sp c0 S0
        split at h
        · rename_i hc
          obtain ⟨hcp, hlen8, hd1⟩ := hc
          simp only [am_nx, Option.some.injEq, Sum.inl.injEq, Prod.mk.injEq] at h
          obtain ⟨rfl, rfl, rfl, rfl⟩ := h
          unfold am_cpy at hcp
          split at hcp
          · rename_i q0 q1 hq0 hq1
            simp only [Bool.and_eq_true, decide_eq_true_eq] at hcp
            obtain ⟨⟨⟨⟨⟨⟨e0, e1⟩, g1⟩, g2⟩, g3⟩, g4⟩, g5⟩ := hcp
            have hw0 : (am_W aC adr sh σ)[c0]? = some (adr c0, .inl (aC q0.1, q0.2, .inl (σ c0))) := am_W_at (aC := aC) (adr := adr) (σ := σ) hq0
            have hw1 : (am_W aC adr sh σ)[c1]? = some (adr c1, .inl (aC q1.1, q1.2, .inl (σ c1))) := am_W_at (aC := aC) (adr := adr) (σ := σ) hq1
            have hset := am_W_set (aC := aC) (adr := adr) (σ := σ) hq1 (va_cpy (σ c0) (σ c1) sp.toNatClampNeg dp.toNatClampNeg n.toNatClampNeg)
            rw [e0] at hw0
            rw [e1] at hw1 hset
            obtain ⟨a1, a2, a3⟩ := am_arr
            have hcs8 := am_cat_sum adr S0
            refine va_copyi hx hb (by rw [hl.1]; exact hml) hown (hts _ ((hMx k).2.1 hk)) (hts _ a1) (hts _ a2) (hts _ a3) hK hP hD hS c0 c1 0 0 hw0 hw1 rfl rfl rfl g1 g2 g3 g4 g5 (fun _ _ => rfl) (by omega) ?_ hd (fun H1 locs1 hP1 _ hS1 => ?_)
            · have hz : nativeFrameWords "java/lang/System" "arraycopy" 5 = 7 := by decide +kernel
              rw [hz, hcs8]
              omega
            · rw [hset] at hP1
              exact kk _ _ _ hP1 hS1 hl hL
          · cases hcp
        · cases h
      · cases h
    split at h
    · rename_i hk
      split at h
      · rename_i y x S0
        split at h
        · rename_i hc
          simp only [am_nx, Option.some.injEq, Sum.inl.injEq, Prod.mk.injEq] at h
          obtain ⟨rfl, rfl, rfl, rfl⟩ := h
          obtain ⟨a1, a2, a3, a4, a5⟩ := am_mth
          have hcs8 := am_cat_sum adr S0
          exact va_mmin hx hb (by rw [hl.1]; exact hml) hown (hts _ ((hMx k).2.2.1 hk)) (hts _ a1) (hts _ a3) (hts _ a4) (by omega) (by rw [hcs8]; omega) hcs.1 hcs.2 hd (kk _ _ _ hP hS hl hL)
        · cases h
      · cases h
    split at h
    · rename_i hk
      split at h
      · rename_i x S0
        split at h
        · rename_i hc
          simp only [am_nx, Option.some.injEq, Sum.inl.injEq, Prod.mk.injEq] at h
          obtain ⟨rfl, rfl, rfl, rfl⟩ := h
          obtain ⟨a1, a2, a3, a4, a5⟩ := am_mth
          have hcs8 := am_cat_sum adr S0
          exact va_mabs hx hb (by rw [hl.1]; exact hml) hown (hts _ ((hMx k).2.2.2 hk)) (hts _ a2) (hts _ a3) (hts _ a5) (by omega) (by rw [hcs8]; omega) hcs.1 hcs.2 hd (kk _ _ _ hP hS hl hL)
        · cases h
      · cases h
    · split at h
      · split at h
        · split at h
          · split at h <;> cases h
          · cases h
        · cases h
      · cases h
  case invokevirtual k =>
    simp only [am_ex] at h
    split at h
    · split at h
      · split at h
        · split at h
          · split at h <;> cases h
          · cases h
        · cases h
      · cases h
    · cases h
  case ireturn =>
    simp only [am_ex] at h
    split at h
    · split at h
      · cases h
      · split at h <;> cases h
      · cases h
    · cases h
  case areturn =>
    simp only [am_ex] at h
    split at h
    · split at h <;> cases h
    · cases h
  case return_ =>
    simp only [am_ex] at h
    split at h
    · split at h <;> cases h
    · cases h
  all_goals (simp only [am_ex] at h; cases h)
end AMX
