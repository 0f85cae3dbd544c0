/-! ===== the shape of the world behind both constructors; what a run comes to, instruction by instruction ===== -/
def am_sh : List am_Sh := [.inl (10, [some 1, some 13, some 21, some 34, some 41, some 47, some 48, some 73, some 78, some 83, some 84, none, none]), .inl (3, [some 2, some 3, some 4, some 5, some 6, some 7, some 8, some 9, some 10, some 11, some 12, none, none, none]), .inr (.inl (0, 12)), .inr (.inl (0, 12)), .inr (.inl (0, 12)), .inr (.inl (0, 2)), .inr (.inl (0, 30)), .inr (.inl (0, 30)), .inr (.inl (0, 30)), .inr (.inl (1, 30)), .inr (.inl (0, 8)), .inr (.inl (0, 8)), .inr (.inl (0, 12)), .inl (5, [some 14, some 15, some 16, some 17, some 18, some 19, some 20, none]), .inr (.inl (0, 16)), .inr (.inl (0, 16)), .inr (.inl (0, 16)), .inr (.inl (0, 16)), .inr (.inl (0, 16)), .inr (.inl (0, 16)), .inr (.inl (0, 16)), .inl (2, [some 22, some 25, some 28, some 31, none, none, none]), .inl (7, [some 23, some 24, none, none, none, none, none, none, none]), .inr (.inl (0, 50)), .inr (.inl (0, 4)), .inl (7, [some 26, some 27, none, none, none, none, none, none, none]), .inr (.inl (0, 50)), .inr (.inl (0, 4)), .inl (7, [some 29, some 30, none, none, none, none, none, none, none]), .inr (.inl (0, 50)), .inr (.inl (0, 4)), .inl (7, [some 32, some 33, none, none, none, none, none, none, none]), .inr (.inl (0, 50)), .inr (.inl (0, 4)), .inl (1, [some 35, some 36, some 37, some 38, some 39, some 40, none, none]), .inr (.inl (0, 24)), .inr (.inl (0, 24)), .inr (.inl (0, 24)), .inr (.inl (1, 24)), .inr (.inl (0, 12)), .inr (.inl (0, 12)), .inl (4, [some 42, some 43, some 44, some 45, some 46, none, none, none, none, none]), .inr (.inl (0, 24)), .inr (.inl (0, 24)), .inr (.inl (0, 24)), .inr (.inl (0, 24)), .inr (.inl (0, 14)), .inl (9, [none, none, none, none]), .inl (8, [some 49, some 50, some 51, some 62, none]), .inr (.inl (0, 10)), .inr (.inl (0, 10)), .inr (.inr [52, 53, 54, 55, 56, 57, 58, 59, 60, 61]), .inr (.inl (0, 12)), .inr (.inl (0, 12)), .inr (.inl (0, 12)), .inr (.inl (0, 12)), .inr (.inl (0, 12)), .inr (.inl (0, 12)), .inr (.inl (0, 12)), .inr (.inl (0, 12)), .inr (.inl (0, 12)), .inr (.inl (0, 12)), .inr (.inr [63, 64, 65, 66, 67, 68, 69, 70, 71, 72]), .inr (.inl (0, 12)), .inr (.inl (0, 12)), .inr (.inl (0, 12)), .inr (.inl (0, 12)), .inr (.inl (0, 12)), .inr (.inl (0, 12)), .inr (.inl (0, 12)), .inr (.inl (0, 12)), .inr (.inl (0, 12)), .inr (.inl (0, 12)), .inl (0, [some 74, some 75, some 76, some 77, none]), .inr (.inl (0, 10)), .inr (.inl (0, 10)), .inr (.inl (0, 10)), .inr (.inl (0, 10)), .inl (6, [some 79, some 80, some 81, some 82, none, none, none]), .inr (.inl (0, 9)), .inr (.inl (0, 9)), .inr (.inl (0, 9)), .inr (.inl (0, 9)), .inr (.inl (0, 6)), .inr (.inl (0, 16)), .inl (11, [none, none, some 86, some 87, some 88, none, some 89, some 90, some 91, some 92, none, some 93, some 94, some 95, none, some 96, some 97, some 98, some 99, some 100, some 101, some 102, none, some 103, some 104, none, none, some 105, some 106, some 107, some 108, none, some 109, some 110, some 111, none, none, none, some 112, some 113, some 114, some 115, none, some 116, some 117, some 118, some 119, none, some 120, some 121, none, some 122, some 123, some 124, some 125, none, none, none, none, none, none, some 126, some 127, some 128, none, some 129, some 130]), .inr (.inl (0, 12)), .inr (.inl (0, 12)), .inr (.inl (0, 12)), .inr (.inl (0, 30)), .inr (.inl (0, 30)), .inr (.inl (0, 30)), .inr (.inl (1, 30)), .inr (.inl (0, 8)), .inr (.inl (0, 8)), .inr (.inl (0, 2)), .inr (.inl (0, 16)), .inr (.inl (0, 16)), .inr (.inl (0, 32)), .inr (.inl (0, 16)), .inr (.inl (0, 16)), .inr (.inl (0, 16)), .inr (.inl (0, 50)), .inr (.inl (0, 150)), .inr (.inl (0, 3)), .inr (.inl (0, 24)), .inr (.inl (0, 24)), .inr (.inl (0, 24)), .inr (.inl (1, 24)), .inr (.inl (0, 12)), .inr (.inl (0, 12)), .inr (.inl (0, 2)), .inr (.inl (0, 10)), .inr (.inl (0, 120)), .inr (.inl (0, 120)), .inr (.inl (0, 10)), .inr (.inl (0, 10)), .inr (.inl (0, 10)), .inr (.inl (0, 10)), .inr (.inl (0, 10)), .inr (.inl (0, 9)), .inr (.inl (0, 9)), .inr (.inl (0, 16)), .inr (.inl (0, 6)), .inr (.inl (0, 144)), .inr (.inl (0, 4)), .inr (.inl (0, 24)), .inr (.inl (0, 24)), .inr (.inl (0, 24)), .inr (.inl (0, 512)), .inr (.inl (0, 512))]
def am_abv : Nat → Int32 := fun k => bif Nat.beq k 0 then -1 else bif Nat.beq k 1 then 0 else bif Nat.beq k 2 then 1 else bif Nat.beq k 3 then 0 else 3
def am_exx (X : Nat) (xs : Nat → Int32) : am_X := fun c => bif Nat.beq c 1000 then some (7, am_abv) else bif Nat.beq c 1001 then some (X, xs) else none
/-- from here the run comes to its end, with this answer and this store -/
def am_Ev (sh : List am_Sh) (ex : am_X) (d : Nat) (M : am_M) (pc : Nat) (L S : List Value) (σ : am_S) (v : Option Value) (σ' : am_S) : Prop := ∃ n, am_run am_P sh ex n d M pc L S σ = some (v, σ')
theorem am_run_mono {P : Nat → Option am_M} {sh : List am_Sh} {ex : am_X} : ∀ (n k d : Nat) (M : am_M) (pc : Nat) (L S : List Value) (σ : am_S) (r : Option Value × am_S), am_run P sh ex n d M pc L S σ = some r → am_run P sh ex (n + k) d M pc L S σ = some r
  | 0, k, d, M, pc, L, S, σ, r, h => by simp [am_run] at h
  | n + 1, k, d, M, pc, L, S, σ, r, h => by
    rw [show n + 1 + k = (n + k) + 1 by omega]
    unfold am_run at h ⊢
    generalize am_step P sh ex d M pc L S σ = z at h
    match z, h with
    | some (.inl (pc', L', S', σ1)), h => exact am_run_mono n k d M pc' L' S' σ1 r h
    | some (.inr (.inl w)), h => exact h
    | some (.inr (.inr (mi, as, rest))), h =>
      cases d with
      | zero => cases h
      | succ d' =>
        dsimp only at h ⊢
        cases hPm : P mi with
        | none => rw [hPm] at h; cases h
        | some M' =>
          rw [hPm] at h
          dsimp only at h ⊢
          split at h
          · rename_i hal
            rw [if_pos hal]
            split at h
            · rename_i w σ1 hw
              rw [am_run_mono n k d' M' 0 _ _ _ _ hw]
              exact am_run_mono n k (d' + 1) M (pc + 3) L _ σ1 r h
            · cases h
          · cases h
    | none, h => cases h
section EVR
variable {sh : List am_Sh} {ex : am_X} {d : Nat} {M : am_M} {pc pc' : Nat} {L L' S S' : List Value} {σ σ1 σ' : am_S} {v : Option Value}
theorem ev_next (hs : am_step am_P sh ex d M pc L S σ = some (.inl (pc', L', S', σ1))) (h : am_Ev sh ex d M pc' L' S' σ1 v σ') : am_Ev sh ex d M pc L S σ v σ' := by
  obtain ⟨n, hn⟩ := h
  refine ⟨n + 1, ?_⟩
  unfold am_run
  rw [hs]
  exact hn
theorem ev_end (hs : am_step am_P sh ex d M pc L S σ = some (.inr (.inl v))) : am_Ev sh ex d M pc L S σ v σ := by
  refine ⟨1, ?_⟩
  unfold am_run
  rw [hs]
theorem ev_call {M' : am_M} {mi : Nat} {as rest : List Value} {w : Option Value} (hs : am_step am_P sh ex (d + 1) M pc L S σ = some (.inr (.inr (mi, as, rest)))) (hP : am_P mi = some M') (hal : as.length ≤ am_ml M') (hc : am_Ev sh ex d M' 0 (am_pad (am_ml M') as) [] σ w σ1) (h : am_Ev sh ex (d + 1) M (pc + 3) L (w.toList ++ rest) σ1 v σ') : am_Ev sh ex (d + 1) M pc L S σ v σ' := by
  obtain ⟨n, hn⟩ := h
  obtain ⟨k, hk⟩ := hc
  refine ⟨(k + n) + 1, ?_⟩
  unfold am_run
  rw [hs]
  dsimp only
  rw [hP]
  dsimp only
  rw [if_pos hal, am_run_mono k n _ _ _ _ _ _ _ hk]
  rw [Nat.add_comm k n]
  exact am_run_mono n k _ _ _ _ _ _ _ hn
theorem ev_step {i : Instr} {len : Nat} (hco : am_co M pc = some (i, len)) : am_step am_P sh ex d M pc L S σ = am_ex am_P sh ex d M pc i L S σ := by
  unfold am_step
  rw [hco]
theorem ev_aload_n {k : Fin 4} {a : Nat} (hco : am_co M pc = some (.aload_n k, 1)) (hp : pc + 1 = pc') (hl : L[k.val]? = some (.ref a)) (h : am_Ev sh ex d M pc' L (.ref a :: S) σ v σ') : am_Ev sh ex d M pc L S σ v σ' := by
  subst hp
  refine ev_next ?_ h
  rw [ev_step hco]
  simp only [am_ex, hl]
  rfl
theorem ev_aload {k : Nat} {a : Nat} (hco : am_co M pc = some (.aload k, 2)) (hp : pc + 2 = pc') (hl : L[k]? = some (.ref a)) (h : am_Ev sh ex d M pc' L (.ref a :: S) σ v σ') : am_Ev sh ex d M pc L S σ v σ' := by
  subst hp
  refine ev_next ?_ h
  rw [ev_step hco]
  simp only [am_ex, hl]
  rfl
theorem ev_iload_n {k : Fin 4} {a : Int32} (hco : am_co M pc = some (.iload_n k, 1)) (hp : pc + 1 = pc') (hl : L[k.val]? = some (.int a)) (h : am_Ev sh ex d M pc' L (.int a :: S) σ v σ') : am_Ev sh ex d M pc L S σ v σ' := by
  subst hp
  refine ev_next ?_ h
  rw [ev_step hco]
  simp only [am_ex, hl]
  rfl
theorem ev_iload {k : Nat} {a : Int32} (hco : am_co M pc = some (.iload k, 2)) (hp : pc + 2 = pc') (hl : L[k]? = some (.int a)) (h : am_Ev sh ex d M pc' L (.int a :: S) σ v σ') : am_Ev sh ex d M pc L S σ v σ' := by
  subst hp
  refine ev_next ?_ h
  rw [ev_step hco]
  simp only [am_ex, hl]
  rfl
theorem ev_istore_n {k : Fin 4} {a : Int32} (hco : am_co M pc = some (.istore_n k, 1)) (hp : pc + 1 = pc') (hk : Nat.blt k.val L.length = true) (hl : L.set k.val (.int a) = L') (h : am_Ev sh ex d M pc' L' S σ v σ') : am_Ev sh ex d M pc L (.int a :: S) σ v σ' := by
  subst hp
  subst hl
  refine ev_next ?_ h
  rw [ev_step hco]
  simp only [am_ex]
  rw [if_pos (show _ < L.length from Nat.le_of_ble_eq_true hk)]
  rfl
theorem ev_istore {k : Nat} {a : Int32} (hco : am_co M pc = some (.istore k, 2)) (hp : pc + 2 = pc') (hk : Nat.blt k L.length = true) (hl : L.set k (.int a) = L') (h : am_Ev sh ex d M pc' L' S σ v σ') : am_Ev sh ex d M pc L (.int a :: S) σ v σ' := by
  subst hp
  subst hl
  refine ev_next ?_ h
  rw [ev_step hco]
  simp only [am_ex]
  rw [if_pos (show _ < L.length from Nat.le_of_ble_eq_true hk)]
  rfl
theorem ev_astore_n {k : Fin 4} {a : Nat} (hco : am_co M pc = some (.astore_n k, 1)) (hp : pc + 1 = pc') (hk : Nat.blt k.val L.length = true) (hl : L.set k.val (.ref a) = L') (h : am_Ev sh ex d M pc' L' S σ v σ') : am_Ev sh ex d M pc L (.ref a :: S) σ v σ' := by
  subst hp
  subst hl
  refine ev_next ?_ h
  rw [ev_step hco]
  simp only [am_ex]
  rw [if_pos (show _ < L.length from Nat.le_of_ble_eq_true hk)]
  rfl
theorem ev_iinc {k : Nat} {n : Int} {a b : Int32} (hco : am_co M pc = some (.iinc k n, 3)) (hp : pc + 3 = pc') (hl : L[k]? = some (.int a)) (hb : Int32.ofInt n = b) (hs : L.set k (.int (a + b)) = L') (h : am_Ev sh ex d M pc' L' S σ v σ') : am_Ev sh ex d M pc L S σ v σ' := by
  subst hp
  subst hb
  subst hs
  refine ev_next ?_ h
  rw [ev_step hco]
  simp only [am_ex, hl]
  rfl
theorem ev_iconst {n : Int} {b : Int32} (hco : am_co M pc = some (.iconst n, 1)) (hp : pc + 1 = pc') (hb : Int32.ofInt n = b) (h : am_Ev sh ex d M pc' L (.int b :: S) σ v σ') : am_Ev sh ex d M pc L S σ v σ' := by
  subst hp
  subst hb
  refine ev_next ?_ h
  rw [ev_step hco]
  rfl
theorem ev_bipush {n : Int} {b : Int32} (hco : am_co M pc = some (.bipush n, 2)) (hp : pc + 2 = pc') (hb : (Int8.ofInt n).toInt32 = b) (h : am_Ev sh ex d M pc' L (.int b :: S) σ v σ') : am_Ev sh ex d M pc L S σ v σ' := by
  subst hp
  subst hb
  refine ev_next ?_ h
  rw [ev_step hco]
  rfl
theorem ev_sipush {n : Int} {b : Int32} (hco : am_co M pc = some (.sipush n, 3)) (hp : pc + 3 = pc') (hb : (Int16.ofInt n).toInt32 = b) (h : am_Ev sh ex d M pc' L (.int b :: S) σ v σ') : am_Ev sh ex d M pc L S σ v σ' := by
  subst hp
  subst hb
  refine ev_next ?_ h
  rw [ev_step hco]
  rfl
theorem ev_ldc {k : Nat} {b : Int32} (hco : am_co M pc = some (.ldc k, 2)) (hp : pc + 2 = pc') (hb : am_lc M k = some b) (h : am_Ev sh ex d M pc' L (.int b :: S) σ v σ') : am_Ev sh ex d M pc L S σ v σ' := by
  subst hp
  refine ev_next ?_ h
  rw [ev_step hco]
  simp only [am_ex, hb]
  rfl
theorem ev_ldc_w {k : Nat} {b : Int32} (hco : am_co M pc = some (.ldc_w k, 3)) (hp : pc + 3 = pc') (hb : am_lc M k = some b) (h : am_Ev sh ex d M pc' L (.int b :: S) σ v σ') : am_Ev sh ex d M pc L S σ v σ' := by
  subst hp
  refine ev_next ?_ h
  rw [ev_step hco]
  simp only [am_ex, hb]
  rfl
theorem ev_getfield {k c : Nat} {q : Nat × Nat × Nat} {w : Value} (hco : am_co M pc = some (.getfield k, 3)) (hp : pc + 3 = pc') (hf : am_lf M k = some q) (hg : am_gf sh σ c q.1 q.2.1 = some w) (h : am_Ev sh ex d M pc' L (w :: S) σ v σ') : am_Ev sh ex d M pc L (.ref c :: S) σ v σ' := by
  subst hp
  refine ev_next ?_ h
  rw [ev_step hco]
  simp only [am_ex, hf, hg]
  rfl
theorem ev_putfield {k c f : Nat} {ci z : Nat} {x : Int32} (hco : am_co M pc = some (.putfield k, 3)) (hp : pc + 3 = pc') (hf : am_lf M k = some (ci, f, z)) (hg : am_cpf sh c ci f = true) (hz : (Nat.beq z 0 || (Nat.beq z 1 && am_bo x)) = true) (h : am_Ev sh ex d M pc' L S (am_up σ c f x) v σ') : am_Ev sh ex d M pc L (.int x :: .ref c :: S) σ v σ' := by
  subst hp
  refine ev_next ?_ h
  rw [ev_step hco]
  simp only [am_ex, hf]
  rw [if_pos]
  · rfl
  · simp only [Bool.or_eq_true, Bool.and_eq_true] at hz
    refine ⟨hg, ?_, fun e => ?_⟩
    · show z ≤ 1
      rcases hz with q | q
      · have := Nat.eq_of_beq_eq_true q
        omega
      · have := Nat.eq_of_beq_eq_true q.1
        omega
    · have e' : z = 1 := e
      rcases hz with q | q
      · have := Nat.eq_of_beq_eq_true q
        omega
      · exact q.2
theorem ev_getstatic {k : Nat} (hco : am_co M pc = some (.getstatic k, 3)) (hp : pc + 3 = pc') (hf : am_lx M k = 1) (h : am_Ev sh ex d M pc' L (.ref 1000 :: S) σ v σ') : am_Ev sh ex d M pc L S σ v σ' := by
  subst hp
  refine ev_next ?_ h
  rw [ev_step hco]
  simp only [am_ex, hf]
  rfl
theorem ev_iaload {c n : Nat} {i : Int32} (hco : am_co M pc = some (.iaload, 1)) (hp : pc + 1 = pc') (hs : sh[c]? = some (.inr (.inl (0, n)))) (hi : am_in i n = true) (h : am_Ev sh ex d M pc' L (.int (σ c i.toNatClampNeg) :: S) σ v σ') : am_Ev sh ex d M pc L (.int i :: .ref c :: S) σ v σ' := by
  subst hp
  refine ev_next ?_ h
  rw [ev_step hco]
  simp only [am_ex, am_ild, hs, hi, and_self, if_true]
  rfl
theorem ev_iaload_x {c n : Nat} {f : Nat → Int32} {i : Int32} (hco : am_co M pc = some (.iaload, 1)) (hp : pc + 1 = pc') (hs : sh[c]? = none) (hx : ex c = some (n, f)) (hi : am_in i n = true) (h : am_Ev sh ex d M pc' L (.int (f i.toNatClampNeg) :: S) σ v σ') : am_Ev sh ex d M pc L (.int i :: .ref c :: S) σ v σ' := by
  subst hp
  refine ev_next ?_ h
  rw [ev_step hco]
  simp only [am_ex, am_ild, hs, hx, hi, if_true]
  rfl
theorem ev_iaload_d {c : Nat} {i w : Int32} (hco : am_co M pc = some (.iaload, 1)) (hp : pc + 1 = pc') (hi : am_ild sh ex σ c i = some w) (h : am_Ev sh ex d M pc' L (.int w :: S) σ v σ') : am_Ev sh ex d M pc L (.int i :: .ref c :: S) σ v σ' := by
  subst hp
  refine ev_next ?_ h
  rw [ev_step hco]
  simp only [am_ex, hi]
  rfl
theorem ev_baload {c n : Nat} {i : Int32} (hco : am_co M pc = some (.baload, 1)) (hp : pc + 1 = pc') (hs : sh[c]? = some (.inr (.inl (1, n)))) (hi : am_in i n = true) (h : am_Ev sh ex d M pc' L (.int (σ c i.toNatClampNeg) :: S) σ v σ') : am_Ev sh ex d M pc L (.int i :: .ref c :: S) σ v σ' := by
  subst hp
  refine ev_next ?_ h
  rw [ev_step hco]
  simp only [am_ex, am_bld, hs, hi, and_self, if_true]
  rfl
theorem ev_aaload {c w : Nat} {i : Int32} (hco : am_co M pc = some (.aaload, 1)) (hp : pc + 1 = pc') (hi : am_ald sh c i = some w) (h : am_Ev sh ex d M pc' L (.ref w :: S) σ v σ') : am_Ev sh ex d M pc L (.int i :: .ref c :: S) σ v σ' := by
  subst hp
  refine ev_next ?_ h
  rw [ev_step hco]
  simp only [am_ex, hi]
  rfl
theorem ev_iastore {c n : Nat} {i x : Int32} (hco : am_co M pc = some (.iastore, 1)) (hp : pc + 1 = pc') (hs : sh[c]? = some (.inr (.inl (0, n)))) (hi : am_in i n = true) (h : am_Ev sh ex d M pc' L S (am_up σ c i.toNatClampNeg x) v σ') : am_Ev sh ex d M pc L (.int x :: .int i :: .ref c :: S) σ v σ' := by
  subst hp
  refine ev_next ?_ h
  rw [ev_step hco]
  simp only [am_ex, am_can, hs, hi, decide_true, Bool.and_self, if_true]
  rfl
theorem ev_iastore_d {c : Nat} {i x : Int32} (hco : am_co M pc = some (.iastore, 1)) (hp : pc + 1 = pc') (hi : am_can sh 0 c i = true) (h : am_Ev sh ex d M pc' L S (am_up σ c i.toNatClampNeg x) v σ') : am_Ev sh ex d M pc L (.int x :: .int i :: .ref c :: S) σ v σ' := by
  subst hp
  refine ev_next ?_ h
  rw [ev_step hco]
  simp only [am_ex, hi, if_true]
  rfl
theorem ev_bastore {c n : Nat} {i x : Int32} (hco : am_co M pc = some (.bastore, 1)) (hp : pc + 1 = pc') (hs : sh[c]? = some (.inr (.inl (1, n)))) (hb : am_bo x = true) (hi : am_in i n = true) (h : am_Ev sh ex d M pc' L S (am_up σ c i.toNatClampNeg x) v σ') : am_Ev sh ex d M pc L (.int x :: .int i :: .ref c :: S) σ v σ' := by
  subst hp
  refine ev_next ?_ h
  rw [ev_step hco]
  simp only [am_ex, am_can, hs, hi, hb, decide_true, Bool.and_self, and_self, if_true]
  rfl
theorem ev_arraylength {c n : Nat} {b : Int32} (hco : am_co M pc = some (.arraylength, 1)) (hp : pc + 1 = pc') (hi : am_len sh ex c = some n) (hb : Int32.ofNat n = b) (h : am_Ev sh ex d M pc' L (.int b :: S) σ v σ') : am_Ev sh ex d M pc L (.ref c :: S) σ v σ' := by
  subst hp
  subst hb
  refine ev_next ?_ h
  rw [ev_step hco]
  simp only [am_ex, hi]
  rfl
theorem ev_iadd {x y : Int32} (hco : am_co M pc = some (.iadd, 1)) (hp : pc + 1 = pc') (h : am_Ev sh ex d M pc' L (.int (x + y) :: S) σ v σ') : am_Ev sh ex d M pc L (.int y :: .int x :: S) σ v σ' := by
  subst hp
  refine ev_next ?_ h
  rw [ev_step hco]
  rfl
theorem ev_isub {x y : Int32} (hco : am_co M pc = some (.isub, 1)) (hp : pc + 1 = pc') (h : am_Ev sh ex d M pc' L (.int (x - y) :: S) σ v σ') : am_Ev sh ex d M pc L (.int y :: .int x :: S) σ v σ' := by
  subst hp
  refine ev_next ?_ h
  rw [ev_step hco]
  rfl
theorem ev_imul {x y : Int32} (hco : am_co M pc = some (.imul, 1)) (hp : pc + 1 = pc') (h : am_Ev sh ex d M pc' L (.int (x * y) :: S) σ v σ') : am_Ev sh ex d M pc L (.int y :: .int x :: S) σ v σ' := by
  subst hp
  refine ev_next ?_ h
  rw [ev_step hco]
  rfl
theorem ev_iand {x y : Int32} (hco : am_co M pc = some (.iand, 1)) (hp : pc + 1 = pc') (h : am_Ev sh ex d M pc' L (.int (x &&& y) :: S) σ v σ') : am_Ev sh ex d M pc L (.int y :: .int x :: S) σ v σ' := by
  subst hp
  refine ev_next ?_ h
  rw [ev_step hco]
  rfl
theorem ev_ior {x y : Int32} (hco : am_co M pc = some (.ior, 1)) (hp : pc + 1 = pc') (h : am_Ev sh ex d M pc' L (.int (x ||| y) :: S) σ v σ') : am_Ev sh ex d M pc L (.int y :: .int x :: S) σ v σ' := by
  subst hp
  refine ev_next ?_ h
  rw [ev_step hco]
  rfl
theorem ev_ixor {x y : Int32} (hco : am_co M pc = some (.ixor, 1)) (hp : pc + 1 = pc') (h : am_Ev sh ex d M pc' L (.int (x ^^^ y) :: S) σ v σ') : am_Ev sh ex d M pc L (.int y :: .int x :: S) σ v σ' := by
  subst hp
  refine ev_next ?_ h
  rw [ev_step hco]
  rfl
theorem ev_ishl {x y : Int32} (hco : am_co M pc = some (.ishl, 1)) (hp : pc + 1 = pc') (h : am_Ev sh ex d M pc' L (.int (x <<< (y &&& 31)) :: S) σ v σ') : am_Ev sh ex d M pc L (.int y :: .int x :: S) σ v σ' := by
  subst hp
  refine ev_next ?_ h
  rw [ev_step hco]
  rfl
theorem ev_ishr {x y : Int32} (hco : am_co M pc = some (.ishr, 1)) (hp : pc + 1 = pc') (h : am_Ev sh ex d M pc' L (.int (x >>> (y &&& 31)) :: S) σ v σ') : am_Ev sh ex d M pc L (.int y :: .int x :: S) σ v σ' := by
  subst hp
  refine ev_next ?_ h
  rw [ev_step hco]
  rfl
theorem ev_iushr {x y : Int32} (hco : am_co M pc = some (.iushr, 1)) (hp : pc + 1 = pc') (h : am_Ev sh ex d M pc' L (.int ((x.toUInt32 >>> (y.toUInt32 &&& Int32.toUInt32 31)).toInt32) :: S) σ v σ') : am_Ev sh ex d M pc L (.int y :: .int x :: S) σ v σ' := by
  subst hp
  refine ev_next ?_ h
  rw [ev_step hco]
  rfl
theorem ev_idiv {x y : Int32} (hco : am_co M pc = some (.idiv, 1)) (hp : pc + 1 = pc') (hy : ¬ y = 0) (h : am_Ev sh ex d M pc' L (.int (x / y) :: S) σ v σ') : am_Ev sh ex d M pc L (.int y :: .int x :: S) σ v σ' := by
  subst hp
  refine ev_next ?_ h
  rw [ev_step hco]
  simp only [am_ex]
  rw [if_neg hy]
  rfl
theorem ev_irem {x y : Int32} (hco : am_co M pc = some (.irem, 1)) (hp : pc + 1 = pc') (hy : ¬ y = 0) (h : am_Ev sh ex d M pc' L (.int (x - x / y * y) :: S) σ v σ') : am_Ev sh ex d M pc L (.int y :: .int x :: S) σ v σ' := by
  subst hp
  refine ev_next ?_ h
  rw [ev_step hco]
  simp only [am_ex]
  rw [if_neg hy]
  rfl
theorem ev_ineg {x : Int32} (hco : am_co M pc = some (.ineg, 1)) (hp : pc + 1 = pc') (h : am_Ev sh ex d M pc' L (.int (-x) :: S) σ v σ') : am_Ev sh ex d M pc L (.int x :: S) σ v σ' := by
  subst hp
  refine ev_next ?_ h
  rw [ev_step hco]
  rfl
theorem ev_dup {w : Value} (hco : am_co M pc = some (.dup, 1)) (hp : pc + 1 = pc') (h : am_Ev sh ex d M pc' L (w :: w :: S) σ v σ') : am_Ev sh ex d M pc L (w :: S) σ v σ' := by
  subst hp
  refine ev_next ?_ h
  rw [ev_step hco]
  rfl
theorem ev_dup2 {w z : Value} (hco : am_co M pc = some (.dup2, 1)) (hp : pc + 1 = pc') (h : am_Ev sh ex d M pc' L (w :: z :: w :: z :: S) σ v σ') : am_Ev sh ex d M pc L (w :: z :: S) σ v σ' := by
  subst hp
  refine ev_next ?_ h
  rw [ev_step hco]
  rfl
theorem ev_tg {off : Int} (ht : (pc : Int) + off = (pc' : Int)) : 0 ≤ (pc : Int) + off ∧ am_tg pc off = pc' := by
  unfold am_tg
  omega
theorem ev_goto {off : Int} (hco : am_co M pc = some (.goto off, 3)) (ht : (pc : Int) + off = (pc' : Int)) (h : am_Ev sh ex d M pc' L S σ v σ') : am_Ev sh ex d M pc L S σ v σ' := by
  obtain ⟨h0, rfl⟩ := ev_tg ht
  refine ev_next ?_ h
  rw [ev_step hco]
  simp only [am_ex, if_pos h0]
  rfl
theorem ev_if_t {cd : ClassFile.Cond} {off : Int} {x : Int32} (hco : am_co M pc = some (.ifCond cd off, 3)) (ht : (pc : Int) + off = (pc' : Int)) (hc : am_cb cd x 0 = true) (h : am_Ev sh ex d M pc' L S σ v σ') : am_Ev sh ex d M pc L (.int x :: S) σ v σ' := by
  obtain ⟨h0, rfl⟩ := ev_tg ht
  refine ev_next ?_ h
  rw [ev_step hco]
  simp only [am_ex, if_pos h0, hc, if_true]
  rfl
theorem ev_if_f {cd : ClassFile.Cond} {off : Int} {x : Int32} (hco : am_co M pc = some (.ifCond cd off, 3)) (h0 : 0 ≤ (pc : Int) + off) (hp : pc + 3 = pc') (hc : am_cb cd x 0 = false) (h : am_Ev sh ex d M pc' L S σ v σ') : am_Ev sh ex d M pc L (.int x :: S) σ v σ' := by
  subst hp
  refine ev_next ?_ h
  rw [ev_step hco]
  simp only [am_ex, if_pos h0, hc]
  rfl
theorem ev_ic_t {cd : ClassFile.Cond} {off : Int} {x y : Int32} (hco : am_co M pc = some (.if_icmp cd off, 3)) (ht : (pc : Int) + off = (pc' : Int)) (hc : am_cb cd x y = true) (h : am_Ev sh ex d M pc' L S σ v σ') : am_Ev sh ex d M pc L (.int y :: .int x :: S) σ v σ' := by
  obtain ⟨h0, rfl⟩ := ev_tg ht
  refine ev_next ?_ h
  rw [ev_step hco]
  simp only [am_ex, if_pos h0, hc, if_true]
  rfl
theorem ev_ic_f {cd : ClassFile.Cond} {off : Int} {x y : Int32} (hco : am_co M pc = some (.if_icmp cd off, 3)) (h0 : 0 ≤ (pc : Int) + off) (hp : pc + 3 = pc') (hc : am_cb cd x y = false) (h : am_Ev sh ex d M pc' L S σ v σ') : am_Ev sh ex d M pc L (.int y :: .int x :: S) σ v σ' := by
  subst hp
  refine ev_next ?_ h
  rw [ev_step hco]
  simp only [am_ex, if_pos h0, hc]
  rfl
theorem ev_ireturn {x : Int32} (hco : am_co M pc = some (.ireturn, 1)) (hr : am_rt M = some .int) : am_Ev sh ex d M pc L [.int x] σ (some (.int x)) σ := by
  refine ev_end ?_
  rw [ev_step hco]
  simp only [am_ex, hr]
theorem ev_zreturn {x : Int32} (hco : am_co M pc = some (.ireturn, 1)) (hr : am_rt M = some .boolean) (hb : am_bo x = true) : am_Ev sh ex d M pc L [.int x] σ (some (.int x)) σ := by
  refine ev_end ?_
  rw [ev_step hco]
  simp only [am_ex, hr, hb, if_true]
theorem ev_areturn {x : Nat} {nm : String} (hco : am_co M pc = some (.areturn, 1)) (hr : am_rt M = some (.object nm)) : am_Ev sh ex d M pc L [.ref x] σ (some (.ref x)) σ := by
  refine ev_end ?_
  rw [ev_step hco]
  simp only [am_ex, hr]
theorem ev_return (hco : am_co M pc = some (.return_, 1)) (hr : am_rt M = none) : am_Ev sh ex d M pc L [] σ none σ := by
  refine ev_end ?_
  rw [ev_step hco]
  simp only [am_ex, hr]
theorem ev_min {k : Nat} {x y : Int32} (hco : am_co M pc = some (.invokestatic k, 3)) (hp : pc + 3 = pc') (hx : am_lx M k = 3) (hS : Nat.ble S.length 8 = true) (h : am_Ev sh ex (d + 1) M pc' L (.int (if y < x then y else x) :: S) σ v σ') : am_Ev sh ex (d + 1) M pc L (.int y :: .int x :: S) σ v σ' := by
  subst hp
  refine ev_next ?_ h
  rw [ev_step hco]
  have e2 : ¬ am_lx M k = 2 := by rw [hx]; decide
  have e3 : S.length ≤ 8 ∧ 1 ≤ d + 1 := ⟨Nat.le_of_ble_eq_true hS, by omega⟩
  simp only [am_ex, if_neg e2, if_pos hx, if_pos e3]
  rfl
theorem ev_abs {k : Nat} {x : Int32} (hco : am_co M pc = some (.invokestatic k, 3)) (hp : pc + 3 = pc') (hx : am_lx M k = 4) (hS : Nat.ble S.length 8 = true) (h : am_Ev sh ex (d + 1) M pc' L (.int (if 0 ≤ x then x else 0 - x) :: S) σ v σ') : am_Ev sh ex (d + 1) M pc L (.int x :: S) σ v σ' := by
  subst hp
  refine ev_next ?_ h
  rw [ev_step hco]
  have e2 : ¬ am_lx M k = 2 := by rw [hx]; decide
  have e4 : ¬ am_lx M k = 3 := by rw [hx]; decide
  have e3 : S.length ≤ 8 ∧ 1 ≤ d + 1 := ⟨Nat.le_of_ble_eq_true hS, by omega⟩
  simp only [am_ex, if_neg e2, if_neg e4, if_pos hx, if_pos e3]
  rfl
theorem ev_copy {k c0 c1 : Nat} {sp dp n : Int32} (hco : am_co M pc = some (.invokestatic k, 3)) (hp : pc + 3 = pc') (hx : am_lx M k = 2) (hS : Nat.ble S.length 8 = true) (hc : am_cpy sh c0 c1 sp dp n = true) (h : am_Ev sh ex (d + 1) M pc' L S (am_set σ c1 (va_cpy (σ c0) (σ c1) sp.toNatClampNeg dp.toNatClampNeg n.toNatClampNeg)) v σ') : am_Ev sh ex (d + 1) M pc L (.int n :: .int dp :: .ref c1 :: .int sp :: .ref c0 :: S) σ v σ' := by
  subst hp
  refine ev_next ?_ h
  rw [ev_step hco]
  have e3 : am_cpy sh c0 c1 sp dp n = true ∧ S.length ≤ 8 ∧ 1 ≤ d + 1 := ⟨hc, Nat.le_of_ble_eq_true hS, by omega⟩
  simp only [am_ex, if_pos hx, if_pos e3]
  rfl
/-! switches -/
theorem ev_tsw {df lo hi : Int} {os : Array Int} {len : Nat} {x : Int32} {off : Int} (hco : am_co M pc = some (.tableswitch df lo hi os, len)) (h1 : ¬ (x.toInt < lo ∨ hi < x.toInt)) (ho : os[(x.toInt - lo).toNat]? = some off) (ht : (pc : Int) + off = (pc' : Int)) (h : am_Ev sh ex d M pc' L S σ v σ') : am_Ev sh ex d M pc L (.int x :: S) σ v σ' := by
  obtain ⟨h0, rfl⟩ := ev_tg ht
  refine ev_next ?_ h
  rw [ev_step hco]
  simp only [am_ex, if_neg h1, ho, if_pos h0]
  rfl
theorem ev_tsd {df lo hi : Int} {os : Array Int} {len : Nat} {x : Int32} (hco : am_co M pc = some (.tableswitch df lo hi os, len)) (h1 : x.toInt < lo ∨ hi < x.toInt) (ht : (pc : Int) + df = (pc' : Int)) (h : am_Ev sh ex d M pc' L S σ v σ') : am_Ev sh ex d M pc L (.int x :: S) σ v σ' := by
  obtain ⟨h0, rfl⟩ := ev_tg ht
  refine ev_next ?_ h
  rw [ev_step hco]
  simp only [am_ex, if_pos h1, if_pos h0]
  rfl
theorem ev_lsw {df : Int} {ps : Array (Int × Int)} {len : Nat} {x : Int32} {off : Int} (hco : am_co M pc = some (.lookupswitch df ps, len)) (hp : (ps.toList.zip (ps.toList.drop 1)).all (fun (a, next) => a.1 < next.1) = true) (ho : Op.lookupswitch.offset ps.toList df x.toInt = off) (ht : (pc : Int) + off = (pc' : Int)) (h : am_Ev sh ex d M pc' L S σ v σ') : am_Ev sh ex d M pc L (.int x :: S) σ v σ' := by
  subst ho
  obtain ⟨h0, rfl⟩ := ev_tg ht
  refine ev_next ?_ h
  rw [ev_step hco]
  simp only [am_ex]
  rw [if_pos ⟨hp, h0⟩]
  rfl
end EVR
theorem am_rg {x : Int32} {lo hi : Int} (n : Nat) (h : ¬ (x.toInt < lo ∨ hi < x.toInt)) (hn : hi - lo < n) : ∃ j : Nat, j < n ∧ x = Int32.ofInt (lo + j) := by
  refine ⟨(x.toInt - lo).toNat, by omega, ?_⟩
  have e : lo + ((x.toInt - lo).toNat : Int) = x.toInt := by omega
  rw [e, Int32.ofInt_toInt]
/-! guards -/
def am_g {α : Type} (b : Bool) (x : Option α) : Option α := bif b then x else none
theorem am_g_t {α : Type} (x : Option α) : am_g true x = x := rfl
theorem am_g_some {α : Type} {b : Bool} {x : Option α} {r : α} (h : am_g b x = some r) : b = true ∧ x = some r := by
  cases b with
  | true => exact ⟨rfl, h⟩
  | false => cases h
theorem am_bd {α β : Type} {o : Option α} {f : α → Option β} {b : β} {P : Prop} (h : o.bind f = some b) (k : ∀ a, o = some a → f a = some b → P) : P := by
  obtain ⟨a, h1, h2⟩ := Option.bind_eq_some_iff.mp h
  exact k a h1 h2
