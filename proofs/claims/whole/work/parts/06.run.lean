/-! ===== a run of the abstract machine is one of the machine ===== -/
def am_room (d : Nat) : Room := { frames := d + 1, cells := 0, slots := 0, locals := 12 + 40 * d }
def am_ws (M : am_M) : List Cond := Cond.code (am_y M) (am_by M) (am_ml M) (am_rt M) :: am_tbl
def am_Wd (sh : List am_Sh) (ex : am_X) (aC : Nat → ClassId) (adr : Nat → Nat) (D : va_G) (σ : am_S) (U : State) : Prop := va_P D am_cl (am_W aC adr sh σ) U.heap ∧ va_K D am_cl (am_tys aC) U ∧ am_EX ex adr (am_A adr sh) U U.heap
def am_Q (sh : List am_Sh) (aC : Nat → ClassId) (adr : Nat → Nat) (D : va_G) (v : Option Value) (σ : am_S) : Array Value → State → Outcome → State → Prop := fun _ st oc t => oc = .returned (v.map (am_v adr)) ∧ va_P D am_cl (am_W aC adr sh σ) t.heap ∧ va_F (am_A adr sh) st t
/-- a method's own end: what it answers, and the instruction that ends it -/
def am_end (M : am_M) (v : Option Value) (i : Instr) : Prop :=
  (∃ x, v = some (.int x) ∧ i = .ireturn ∧ (am_rt M = some .int ∨ (am_rt M = some .boolean ∧ am_bo x = true))) ∨ (v = none ∧ i = .return_ ∧ am_rt M = none) ∨ (∃ (x : Nat) (n : String), v = some (.ref x) ∧ i = .areturn ∧ am_rt M = some (.object n))
theorem am_good {w : Cond} (h : w ∈ am_tbl) : (w.onTables && w.keeps) = true ∨ ∃ ty, w = .arrayClass ty := good_of_word (List.mem_filter.mp h).2
theorem am_EX.moved {ex : am_X} {adr : Nat → Nat} {A : Nat → Prop} {u U : State} {H : Heap} (hvm : u.vm.Alike U.vm) (h : am_EX ex adr A u H) : am_EX ex adr A U H := ⟨fun k q hq => (h.1 k q hq).moved hvm, h.2.moved hvm⟩
theorem am_EX.kept {ex : am_X} {adr : Nat → Nat} {A : Nat → Prop} {U : State} {H H1 : Heap} (h : am_EX ex adr A U H) (hq : ∀ a : Nat, a < H.size → ¬ A a → H1[a]? = H[a]?) : am_EX ex adr A U H1 := ⟨fun k q hk => (h.1 k q hk).kept hq, h.2.kept hq⟩
theorem am_Wd.blind {sh : List am_Sh} {ex : am_X} {aC : Nat → ClassId} {adr : Nat → Nat} {D : va_G} {σ : am_S} {av : List Value} : FrameBlind (va_Pc av (am_Wd sh ex aC adr D σ)) := fun a U g mk q => by
  obtain ⟨q0, qP, qK, qE⟩ := q
  exact ⟨q0, qP, va_K.moved (u := U) (U := U.calling g mk a) (Vm.Alike.refl U.vm) qK, am_EX.moved (u := U) (U := U.calling g mk a) (Vm.Alike.refl U.vm) qE⟩
section AMR
variable {p : Program} {l : Launch} {e : Env} {R : Room} {s : State} {m : MethodId} {args : Array Value} {below : List Frame} {meth : Method} {c : Code} {H : Heap} {locs : List Loc} {cells slots : Nat} {Q : State → Prop}
theorem am_call {sh : List am_Sh} {aC : Nat → ClassId} {adr : Nat → Nat} {D : va_G} {v : Option Value} {σ : am_S} {pc : Nat} {ls : Array Slot} {rest st0 : List Value} {a : Array Value} (hr : va_Run p l e R s m args below meth c H locs cells slots 0 0 (F0 m pc ls st0) rest (am_Q sh aC adr D v σ a) (am_A adr sh)) (hS : va_S (am_A adr sh) s.heap H locs)
    (kk : ∀ (H1 : Heap) (locs1 : List Loc), va_P D am_cl (am_W aC adr sh σ) H1 → va_S (am_A adr sh) s.heap H1 locs1 → W p l e R s m args below meth c H1 locs1 cells slots Q (F0 m (pc + 3) ls ((v.map (am_v adr)).toList ++ rest))) : W p l e R s m args below meth c H locs cells slots Q (F0 m pc ls st0) := by
  intro T hT X
  obtain ⟨w, st₀, t, T', L, h0, X', hL, e1, e2, ⟨hv, hp, hz, hk⟩, st⟩ := hr T hT X
  cases hv
  rw [h0] at hz hk
  obtain ⟨t2, a1, b1⟩ := kk T'.heap (locs ++ L) (by rw [e1]; exact hp)
    ⟨Nat.le_trans hS.1 (by rw [e1]; exact hz), fun q h1 h2 => by rw [e1, hk q (Nat.lt_of_lt_of_le h1 hS.1) h2]; exact hS.2.1 q h1 h2, fun q hq => by
      rcases List.mem_append.mp hq with h | h
      · exact hS.2.2 q h
      · exact hL q h⟩ T' rfl X'
  exact ⟨t2, st t2 a1, b1⟩
/-- the statement of soundness for n steps -/
def am_Snd (P : Nat → Option am_M) (sh : List am_Sh) (ex : am_X) (aC : Nat → ClassId) (adr : Nat → Nat) (D : va_G) (l : Launch) (n : Nat) : Prop :=
  ∀ (d : Nat) (M : am_M) (pc : Nat) (L S : List Value) (σ : am_S) (v : Option Value) (σ' : am_S), am_ok P M → am_run P sh ex n d M pc L S σ = some (v, σ') →
    ∀ (p : Program) (e : Env) (R : Room) (s : State) (m : MethodId) (args : Array Value) (below : List Frame) (meth : Method) (c : Code) (H : Heap) (locs : List Loc) (cells slots : Nat) (Q : State → Prop) (ls : Array Slot),
      am_Cx p s m args c M sh ex aC adr D → (d + 1 ≤ R.frames ∧ 12 + 40 * d ≤ R.locals) → (cells ≤ R.cells ∧ slots ≤ R.slots) →
      va_P D am_cl (am_W aC adr sh σ) H → va_S (am_A adr sh) s.heap H locs → lv_has ls (am_ml M) (am_lv adr 0 L) → L.length = am_ml M →
      (∀ (pc' : Nat) (i : Instr) (ls' : Array Slot) (H' : Heap) (locs' : List Loc), decode (am_by M) pc' = .ok (i, 1) → am_end M v i → va_P D am_cl (am_W aC adr sh σ') H' → va_S (am_A adr sh) s.heap H' locs' → W p l e R s m args below meth c H' locs' cells slots Q (F0 m pc' ls' ((v.map (am_v adr)).toList))) →
      W p l e R s m args below meth c H locs cells slots Q (F0 m pc ls (S.map (am_v adr)))
theorem am_pad_len {n : Nat} {as : List Value} (h : as.length ≤ n) : (am_pad n as).length = n := by
  simp [am_pad]; omega
theorem am_lg_sl (adr : Nat → Nat) (as : List Value) : lg_sl (as.map (am_v adr)) = (as.map (am_v adr)).map Slot.val := by
  induction as with
  | nil => rfl
  | cons v as ih =>
    have hc := am_v_cat adr v
    simp only [lg_sl, List.map_cons, List.flatMap_cons, hc] at ih ⊢
    simp only [ih]
    rfl
theorem am_lv_args (adr : Nat → Nat) : ∀ (as : List Value) (k : Nat), (∀ q ∈ lv_args k (as.map (am_v adr)), True) ∧ ∀ (i : Nat) (v : Value), as[i]? = some v → (k + i, am_v adr v) ∈ lv_args k (as.map (am_v adr))
  | [], k => ⟨fun _ _ => trivial, fun i v h => by simp at h⟩
  | w :: as, k => by
    refine ⟨fun _ _ => trivial, fun i v h => ?_⟩
    have hc := am_v_cat adr w
    have he : lv_args k ((w :: as).map (am_v adr)) = (k, am_v adr w) :: lv_args (k + 1) (as.map (am_v adr)) := by
      simp only [List.map_cons, lv_args, hc]
      rfl
    rw [he]
    cases i with
    | zero =>
      rw [List.getElem?_cons_zero] at h
      cases h
      exact List.mem_cons_self
    | succ i =>
      rw [List.getElem?_cons_succ] at h
      have := (am_lv_args adr as (k + 1)).2 i v h
      rw [show k + 1 + i = k + (i + 1) by omega] at this
      exact List.mem_cons_of_mem _ this
theorem am_entry (adr : Nat → Nat) (as : List Value) {n : Nat} (h : as.length ≤ n) : lv_has ((lg_sl (as.map (am_v adr)) ++ List.replicate (n - (lg_sl (as.map (am_v adr))).length) Slot.unset).toArray) n (am_lv adr 0 (am_pad n as)) := by
  have hlen : (lg_sl (as.map (am_v adr))).length = as.length := by rw [am_lg_sl]; simp
  have h0 := lv_entry (as.map (am_v adr)) (n := n) (by rw [hlen]; exact h)
  refine ⟨h0.1, h0.2.1, fun q hq => ?_⟩
  obtain ⟨i, v, h1, h2, h3, h4⟩ := am_lv_mem hq
  rw [Nat.zero_add] at h1
  have hi : as[i]? = some v := by
    unfold am_pad at h2
    by_cases hl : i < as.length
    · rw [List.getElem?_append_left hl] at h2
      exact h2
    · rw [List.getElem?_append_right (by omega)] at h2
      have := List.mem_of_getElem? h2
      have hv := (List.mem_replicate.mp this).2
      obtain ⟨x, hx | ⟨a, ha⟩⟩ := h4
      · rw [hv] at hx; cases hx
      · rw [hv] at ha; cases ha
  have := (am_lv_args adr as 0).2 i v hi
  rw [Nat.zero_add] at this
  have hq' : q = (i, am_v adr v) := by rw [← h1, ← h3]
  rw [hq']
  exact h0.2.2 _ this
/-- a method's contract -/
theorem am_met {P : Nat → Option am_M} {sh : List am_Sh} {ex : am_X} {aC : Nat → ClassId} {adr : Nat → Nat} {D : va_G} {l : Launch} {n : Nat} (hn : am_Snd P sh ex aC adr D l n) (hinj : ∀ i j, i < sh.length → j < sh.length → adr i = adr j → i = j)
    {d : Nat} {M : am_M} {as : List Value} {σ σ' : am_S} {v : Option Value} (hMc : am_okc M) (hM : am_ok P M) (hl : as.length ≤ am_ml M) (h : am_run P sh ex n d M 0 (am_pad (am_ml M) as) [] σ = some (v, σ')) :
    Met l (am_y M) (am_ws M) (am_room d) (va_Pc (as.map (am_v adr)) (am_Wd sh ex aC adr D σ)) (am_Q sh aC adr D v σ') 0 0 (am_A adr sh) := by
  refine Met.ofW (cc := am_by M) (maxL := am_ml M) (ret := am_rt M) hMc.1 rfl ?_
  intro p e s m args below meth c s₁ B hml hv
  obtain ⟨rfl, hP, hK, hE⟩ := hv
  have hx := B.exec
  have hb := B.bytes
  have hr := B.returns
  have hlocks := B.notSynchronized
  have hts0 := atoms_spec (ws := am_ws M) B.pre
  have hown : s.vm.findClass (am_y M).cls = some m.cls := findClass_of_methodNamed B.named
  rw [lg_entry_eq]
  have hC : am_Cx p s m (as.map (am_v adr)).toArray c M sh ex aC adr D := ⟨hx, hb, hml, hown, fun w hw => hts0 w (List.mem_cons_of_mem _ hw), hK, hE, hinj⟩
  refine hn d M 0 (am_pad (am_ml M) as) [] σ v σ' hM h p e _ s m _ below meth c s.heap [] 0 0 _ _ hC ⟨Nat.le_refl _, Nat.le_refl _⟩ ⟨Nat.le_refl _, Nat.le_refl _⟩ hP va_S.rf (am_entry adr as hl) (am_pad_len hl) ?_
  intro pc' i ls' H' locs' hdg hend hP' hS'
  have hf : ∀ q ∈ locs', am_A adr sh q.base := hS'.2.2
  have post : ∀ t : State, t.heap = H' → s.WarmedH t.vm → am_Q sh aC adr D v σ' (as.map (am_v adr)).toArray s (.returned (v.map (am_v adr))) t := fun t ht _ => ⟨rfl, by rw [ht]; exact hP', hS'.F ht⟩
  rcases hend with ⟨x, rfl, rfl, hrt | ⟨hrt, hbo⟩⟩ | ⟨rfl, rfl, hrt⟩ | ⟨x, nm, rfl, rfl, hrt⟩
  · exact W.iret hx hb (hr.trans hrt) post hf hdg
  · exact W.zret hx hb (hr.trans hrt) (am_bo_nar hbo).1 post hf hdg
  · exact W.vret hx hb (hr.trans hrt) post hf hdg
  · exact W.aret hx hb (hr.trans hrt) (Or.inl ⟨nm, rfl⟩) (Or.inr ⟨_, rfl⟩) post hf hdg
theorem am_cat_le {adr : Nat → Nat} {rest : List Value} (h : rest.length ≤ 8) : ((rest.map (am_v adr)).map (fun v => v.category)).sum ≤ 8 := by
  rw [am_cat_sum]; exact h
set_option maxHeartbeats 4000000 in
theorem am_ret {P : Nat → Option am_M} {sh : List am_Sh} {ex : am_X} {d : Nat} {M : am_M} {pc len : Nat} {i : Instr} {L S : List Value} {σ : am_S} {w : Option Value} (hd : decode (am_by M) pc = .ok (i, len)) (hlen : am_il i = 0 ∨ len = am_il i) (h : am_ex P sh ex d M pc i L S σ = some (.inr (.inl w))) : ∃ i', am_end M w i' ∧ decode (am_by M) pc = .ok (i', 1) ∧ S = w.toList := by
  cases i
  case ireturn =>
    obtain rfl : len = 1 := by rcases hlen with q | q; exact absurd q (show ¬ (1 : Nat) = 0 by decide); exact q
    simp only [am_ex] at h
    split at h
    · rename_i x
      split at h
      · rename_i hrt
        simp only [Option.some.injEq, Sum.inr.injEq, Sum.inl.injEq] at h
        subst h
        exact ⟨.ireturn, Or.inl ⟨x, rfl, rfl, Or.inl hrt⟩, hd, rfl⟩
      · rename_i hrt
        split at h
        · rename_i hbo
          simp only [Option.some.injEq, Sum.inr.injEq, Sum.inl.injEq] at h
          subst h
          exact ⟨.ireturn, Or.inl ⟨x, rfl, rfl, Or.inr ⟨hrt, hbo⟩⟩, hd, rfl⟩
        · cases h
      · cases h
    · cases h
  case areturn =>
    obtain rfl : len = 1 := by rcases hlen with q | q; exact absurd q (show ¬ (1 : Nat) = 0 by decide); exact q
    simp only [am_ex] at h
    split at h
    · rename_i x
      split at h
      · rename_i nm hrt
        simp only [Option.some.injEq, Sum.inr.injEq, Sum.inl.injEq] at h
        subst h
        exact ⟨.areturn, Or.inr (Or.inr ⟨x, nm, rfl, rfl, hrt⟩), hd, rfl⟩
      · cases h
    · cases h
  case return_ =>
    obtain rfl : len = 1 := by rcases hlen with q | q; exact absurd q (show ¬ (1 : Nat) = 0 by decide); exact q
    simp only [am_ex] at h
    split at h
    · split at h
      · rename_i hrt
        simp only [Option.some.injEq, Sum.inr.injEq, Sum.inl.injEq] at h
        subst h
        exact ⟨.return_, Or.inr (Or.inl ⟨rfl, rfl, hrt⟩), hd, rfl⟩
      · cases h
    · cases h
  all_goals (exfalso; simp only [am_ex, am_nx] at h; first | (cases h; done) | ((repeat' split at h) <;> cases h))
theorem am_rev_map (adr : Nat → Nat) (n : Nat) (S : List Value) : S.map (am_v adr) = (((S.take n).reverse).map (am_v adr)).reverse ++ (S.drop n).map (am_v adr) := by
  rw [List.map_reverse, List.reverse_reverse, ← List.map_append, List.take_append_drop]
set_option maxHeartbeats 4000000 in
theorem am_docall {P : Nat → Option am_M} {sh : List am_Sh} {ex : am_X} {aC : Nat → ClassId} {adr : Nat → Nat} {D : va_G} {n : Nat} (ih : am_Snd P sh ex aC adr D l n) (hPok : ∀ mi M, P mi = some M → am_okc M ∧ am_ok P M)
    {d : Nat} {M M' : am_M} {pc len mi : Nat} {i : Instr} {L S as rest : List Value} {σ σ1 : am_S} {w : Option Value} {ls : Array Slot}
    (hM : am_ok P M) (C0 : am_Cx p s m args c M sh ex aC adr D) (hR : d + 1 + 1 ≤ R.frames ∧ 12 + 40 * (d + 1) ≤ R.locals) (hcs : cells ≤ R.cells ∧ slots ≤ R.slots)
    (hd : decode (am_by M) pc = .ok (i, len)) (hlen : am_il i = 0 ∨ len = am_il i) (h : am_ex P sh ex (d + 1) M pc i L S σ = some (.inr (.inr (mi, as, rest))))
    (hPm : P mi = some M') (hal : as.length ≤ am_ml M') (hw : am_run P sh ex n d M' 0 (am_pad (am_ml M') as) [] σ = some (w, σ1))
    (hP : va_P D am_cl (am_W aC adr sh σ) H) (hS : va_S (am_A adr sh) s.heap H locs) (hl : lv_has ls (am_ml M) (am_lv adr 0 L))
    (kk : ∀ (H1 : Heap) (locs1 : List Loc), va_P D am_cl (am_W aC adr sh σ1) H1 → va_S (am_A adr sh) s.heap H1 locs1 → W p l e R s m args below meth c H1 locs1 cells slots Q (F0 m (pc + 3) ls ((w.map (am_v adr)).toList ++ rest.map (am_v adr)))) :
    W p l e R s m args below meth c H locs cells slots Q (F0 m pc ls (S.map (am_v adr))) := by
  obtain ⟨hx, hb, hml, hown, hts, hK, hE, hinj⟩ := id C0
  obtain ⟨hMc', hM'⟩ := hPok mi M' hPm
  have hmet := am_met ih hinj (l := l) hMc' hM' hal hw
  obtain ⟨h1, h2, h3, h4, hini, hkind⟩ := hMc'
  have hroom : (am_room d).frames + 1 ≤ R.frames ∧ 8 + (am_ml M' + 11) + (am_room d).locals ≤ R.locals := by
    simp only [am_room]
    omega
  have hG : GoodIn am_tbl (am_ws M') := fun w hw => by
    rcases List.mem_cons.mp hw with q | q
    · rw [q]
      exact ⟨h2, am_good h2⟩
    · exact ⟨q, am_good q⟩
  have hfit : cells + 0 ≤ R.cells ∧ slots + 0 ≤ R.slots := hcs
  have hpre : ∀ U : State, U.heap = H → s.WarmedH U.vm → am_Wd sh ex aC adr D σ U := fun U hU hW => ⟨by rw [hU]; exact hP, va_K.moved hW.alike hK, by rw [hU]; exact am_EX.moved hW.alike (hE.kept hS.2.1)⟩
  cases i
  case invokevirtual k =>
    obtain rfl : len = 3 := by rcases hlen with q | q; exact absurd q (show ¬ (3 : Nat) = 0 by decide); exact q
    simp only [am_ex] at h
    split at h
    · rename_i mi' hmi
      split at h
      · rename_i M2 hM2
        split at h
        · rename_i ci hci
          split at h
          · rename_i cc rest' hdrop
            split at h
            · rename_i hc
              simp only [Option.some.injEq, Sum.inr.injEq, Prod.mk.injEq] at h
              obtain ⟨rfl, rfl, rfl⟩ := h
              rw [hPm] at hM2
              cases hM2
              obtain ⟨hc1, hc2, hc3⟩ := hc
              obtain ⟨M3, hM3, hlink⟩ := hM.2.2.1 k mi' hmi
              rw [hPm] at hM3
              cases hM3
              rcases hkind with ⟨ci', T, N, e1, e2, e3, e4⟩ | ⟨e1, -⟩
              · rw [hci] at e1
                cases e1
                have hcl : ∃ fl, sh[cc]? = some (.inl (ci, fl)) := by
                  unfold am_cls at hc2
                  split at hc2
                  · rename_i q hq
                    cases hc2
                    exact ⟨q.2, hq⟩
                  · cases hc2
                obtain ⟨fl, hfl⟩ := hcl
                have hw2 : (am_W aC adr sh σ)[cc]? = some (adr cc, .inr (ci, am_fs adr σ cc fl)) := am_W_at (aC := aC) (adr := adr) (σ := σ) hfl
                have hcw : CallW R s args (am_y M).cls (am_y M').cls k (am_y M') (am_by M') (am_ml M') (am_rt M') (am_ws M') (am_room d) 0 0 (am_np M') := ⟨callB_of (am_np M') hts hG rfl rfl rfl (hts _ hini) (hts _ hlink) h4 hroom, hts _ e3, hts _ e4⟩
                refine am_call (va_runV (As := ((S.take (am_np M')).reverse).map (am_v adr)) (b := adr cc) (rest := rest'.map (am_v adr)) (Ts := am_tbl) ⟨hx, hb, hml, hown, hts⟩ hmet hcw ⟨am_Wd.blind, va_recv hK hP e2 hw2, fun U hU hW => ⟨rfl, hpre U hU hW⟩⟩ rfl (by rw [List.length_map, List.length_reverse]; exact hc1) hl.1 ?_ (lv_room (am_cat_le hc3)) hd hfit) hS kk
                show S.map (am_v adr) = _
                rw [am_rev_map adr (am_np M') S, hdrop]
                rfl
              · rw [hci] at e1
                cases e1
            · cases h
          · cases h
        · cases h
      · cases h
    · cases h
  case invokestatic k =>
    obtain rfl : len = 3 := by rcases hlen with q | q; exact absurd q (show ¬ (3 : Nat) = 0 by decide); exact q
    simp only [am_ex] at h
    split at h
    · split at h
      · split at h <;> cases h
      · cases h
    split at h
    · split at h
      · split at h <;> cases h
      · cases h
    split at h
    · split at h
      · split at h <;> cases h
      · cases h
    · split at h
      · rename_i mi' hmi
        split at h
        · rename_i M2 hM2
          split at h
          · rename_i hci
            split at h
            · rename_i hc
              simp only [Option.some.injEq, Sum.inr.injEq, Prod.mk.injEq] at h
              obtain ⟨rfl, rfl, rfl⟩ := h
              rw [hPm] at hM2
              cases hM2
              obtain ⟨hc1, hc3⟩ := hc
              obtain ⟨M3, hM3, hlink⟩ := hM.2.2.1 k mi' hmi
              rw [hPm] at hM3
              cases hM3
              rcases hkind with ⟨ci', T, N, e1, -⟩ | ⟨-, e3⟩
              · rw [hci] at e1
                cases e1
              · have hcw : CallB R s args (am_y M).cls k (am_y M') (am_by M') (am_ml M') (am_rt M') (am_ws M') (am_room d) 0 0 (am_np M') ∧ (Cond.static (am_y M')).before args s = true := ⟨callB_of (am_np M') hts hG rfl rfl rfl (hts _ hini) (hts _ hlink) h4 hroom, hts _ e3⟩
                refine am_call (va_runS (As := ((S.take (am_np M')).reverse).map (am_v adr)) (rest := (S.drop (am_np M')).map (am_v adr)) (Ts := am_tbl) ⟨hx, hb, hml, hown, hts⟩ hmet hcw ⟨am_Wd.blind, fun U hU hW => ⟨rfl, hpre U hU hW⟩⟩ rfl (by rw [List.length_map, List.length_reverse]; exact hc1) hl.1 ?_ (lv_room (am_cat_le hc3)) hd hfit) hS kk
                exact am_rev_map adr (am_np M') S
            · cases h
          · cases h
        · cases h
      · cases h
  all_goals (exfalso; simp only [am_ex, am_nx] at h; first | (cases h; done) | ((repeat' split at h) <;> cases h))
set_option maxHeartbeats 4000000 in
theorem am_sound {P : Nat → Option am_M} {sh : List am_Sh} {ex : am_X} {aC : Nat → ClassId} {adr : Nat → Nat} {D : va_G} {l : Launch} (hPok : ∀ mi M, P mi = some M → am_okc M ∧ am_ok P M) : ∀ n, am_Snd P sh ex aC adr D l n
  | 0 => fun d M pc L S σ v σ' _ h => by simp [am_run] at h
  | n + 1 => by
    intro d M pc L S σ v σ' hM h p e R s m args below meth c H locs cells slots Q ls C0 hR hcs hP hS hl hL hret
    have ih := am_sound (sh := sh) (ex := ex) (aC := aC) (adr := adr) (D := D) (l := l) hPok n
    unfold am_run at h
    generalize hst : am_step P sh ex d M pc L S σ = r at h
    unfold am_step at hst
    cases hco : am_co M pc with
    | none => rw [hco] at hst; subst hst; cases h
    | some q =>
      rw [hco] at hst
      obtain ⟨i, len⟩ := q
      obtain ⟨hdec, hlen⟩ := hM.1 pc _ hco
      dsimp only at hst hlen
      match r, hst, h with
      | some (.inl (pc', L', S', σ1)), hst, h =>
        exact am_next hM C0 hR hcs hdec hlen hst hP hS hl hL (fun H' locs' ls' hP' hS' hl' hL' => ih d M pc' L' S' σ1 v σ' hM h p e R s m args below meth c H' locs' cells slots Q ls' C0 hR hcs hP' hS' hl' hL' hret)
      | some (.inr (.inl w)), hst, h =>
        simp only [Option.some.injEq, Prod.mk.injEq] at h
        obtain ⟨rfl, rfl⟩ := h
        have hz : ∃ i', am_end M w i' ∧ decode (am_by M) pc = .ok (i', 1) ∧ S = w.toList := am_ret hdec hlen hst
        obtain ⟨i', he, hd', hS0⟩ := hz
        have := hret pc i' ls H locs hd' he hP hS
        rw [hS0]
        cases w with
        | none => exact this
        | some w => exact this
      | some (.inr (.inr (mi, as, rest))), hst, h =>
        cases d with
        | zero => cases h
        | succ d' =>
          dsimp only at h
          cases hPm : P mi with
          | none => rw [hPm] at h; cases h
          | some M' =>
            rw [hPm] at h
            dsimp only at h
            split at h
            · rename_i hal
              split at h
              · rename_i w σ1 hw
                exact am_docall ih hPok hM C0 hR hcs hdec hlen hst hPm hal hw hP hS hl (fun H1 locs1 hP1 hS1 => by
                  have := ih (d' + 1) M (pc + 3) L (w.toList ++ rest) σ1 v σ' hM h p e R s m args below meth c H1 locs1 cells slots Q ls C0 hR hcs hP1 hS1 hl hL hret
                  cases w with
                  | none => exact this
                  | some w => exact this)
              · cases h
            · cases h
      | none, hst, h => cases h
end AMR
