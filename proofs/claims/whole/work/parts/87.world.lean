/-! ===== the world behind both constructors is the abstract machine's ===== -/
def st_fs (adr : Nat → Nat) (f : Nat → Int32) : Nat → List (Option Nat) → List Value
  | _, [] => []
  | k, none :: l => .int (f k) :: st_fs adr f (k + 1) l
  | k, some r :: l => .ref (adr r) :: st_fs adr f (k + 1) l
theorem st_fs_at (adr : Nat → Nat) (σ : am_S) (c : Nat) : ∀ (l : List (Option Nat)) (k i : Nat), (st_fs adr (σ c) k l)[i]? = (l[i]?).map (fun x => am_fv adr σ c (k + i) x)
  | [], k, i => rfl
  | none :: l, k, 0 => rfl
  | some r :: l, k, 0 => rfl
  | none :: l, k, i + 1 => by
    show (st_fs adr (σ c) (k + 1) l)[i]? = (l[i]?).map _
    rw [st_fs_at adr σ c l (k + 1) i, show k + 1 + i = k + (i + 1) by omega]
  | some r :: l, k, i + 1 => by
    show (st_fs adr (σ c) (k + 1) l)[i]? = (l[i]?).map _
    rw [st_fs_at adr σ c l (k + 1) i, show k + 1 + i = k + (i + 1) by omega]
theorem st_fs_e (adr : Nat → Nat) (σ : am_S) (c : Nat) (l : List (Option Nat)) : am_fs adr σ c l = st_fs adr (σ c) 0 l := by
  apply List.ext_getElem?
  intro i
  rw [st_fs_at, Nat.zero_add]
  simp only [am_fs, List.getElem?_mapIdx]
def st_cell (aC : Nat → ClassId) (adr : Nat → Nat) (f : Nat → Int32) (x : am_Sh) : va_E := match x with
  | .inl q => .inr (q.1, st_fs adr f 0 q.2)
  | .inr (.inl q) => .inl (aC q.1, q.2, .inl f)
  | .inr (.inr rs) => .inl (aC 2, rs.length, .inr (.inr (.inr (.inr (fun k => (rs[k]?).map adr)))))
theorem st_cell_e (aC : Nat → ClassId) (adr : Nat → Nat) (σ : am_S) (c : Nat) (x : am_Sh) : am_cell aC adr σ c x = st_cell aC adr (σ c) x := by
  unfold am_cell st_cell
  split
  · rw [st_fs_e]
  · rfl
  · rfl
def st_L (aC : Nat → ClassId) (adr : Nat → Nat) (σ : am_S) : Nat → List am_Sh → va_W
  | _, [] => []
  | k, x :: xs => (adr k, st_cell aC adr (σ k) x) :: st_L aC adr σ (k + 1) xs
theorem st_L_at (aC : Nat → ClassId) (adr : Nat → Nat) (σ : am_S) : ∀ (l : List am_Sh) (k i : Nat), (st_L aC adr σ k l)[i]? = (l[i]?).map (fun x => (adr (k + i), st_cell aC adr (σ (k + i)) x))
  | [], k, i => rfl
  | x :: l, k, 0 => rfl
  | x :: l, k, i + 1 => by
    show (st_L aC adr σ (k + 1) l)[i]? = (l[i]?).map _
    rw [st_L_at aC adr σ l (k + 1) i, show k + 1 + i = k + (i + 1) by omega]
theorem st_L_e (aC : Nat → ClassId) (adr : Nat → Nat) (σ : am_S) (l : List am_Sh) : am_W aC adr l σ = st_L aC adr σ 0 l := by
  apply List.ext_getElem?
  intro i
  rw [st_L_at, Nat.zero_add]
  simp only [am_W, List.getElem?_mapIdx, st_cell_e]
theorem st_L_app (aC : Nat → ClassId) (adr : Nat → Nat) (σ : am_S) : ∀ (a b : List am_Sh) (k : Nat), st_L aC adr σ k (a ++ b) = st_L aC adr σ k a ++ st_L aC adr σ (k + a.length) b
  | [], b, k => rfl
  | x :: a, b, k => by
    show _ :: st_L aC adr σ (k + 1) (a ++ b) = _ :: (st_L aC adr σ (k + 1) a ++ st_L aC adr σ (k + (a.length + 1)) b)
    rw [st_L_app aC adr σ a b (k + 1), show k + 1 + a.length = k + (a.length + 1) by omega]
def sh_F3 : List am_Sh := [.inl (3, [some 2, some 3, some 4, some 5, some 6, some 7, some 8, some 9, some 10, some 11, some 12, none, none, none]), .inr (.inl (0, 12)), .inr (.inl (0, 12)), .inr (.inl (0, 12)), .inr (.inl (0, 2)), .inr (.inl (0, 30)), .inr (.inl (0, 30)), .inr (.inl (0, 30)), .inr (.inl (1, 30)), .inr (.inl (0, 8)), .inr (.inl (0, 8)), .inr (.inl (0, 12))]
def sh_F5 : List am_Sh := [.inl (5, [some 14, some 15, some 16, some 17, some 18, some 19, some 20, none]), .inr (.inl (0, 16)), .inr (.inl (0, 16)), .inr (.inl (0, 16)), .inr (.inl (0, 16)), .inr (.inl (0, 16)), .inr (.inl (0, 16)), .inr (.inl (0, 16))]
def sh_F2 : List am_Sh := [.inl (2, [some 22, some 25, some 28, some 31, none, none, none]), .inl (7, [some 23, some 24, none, none, none, none, none, none, none]), .inr (.inl (0, 50)), .inr (.inl (0, 4)), .inl (7, [some 26, some 27, none, none, none, none, none, none, none]), .inr (.inl (0, 50)), .inr (.inl (0, 4)), .inl (7, [some 29, some 30, none, none, none, none, none, none, none]), .inr (.inl (0, 50)), .inr (.inl (0, 4)), .inl (7, [some 32, some 33, none, none, none, none, none, none, none]), .inr (.inl (0, 50)), .inr (.inl (0, 4))]
def sh_F1 : List am_Sh := [.inl (1, [some 35, some 36, some 37, some 38, some 39, some 40, none, none]), .inr (.inl (0, 24)), .inr (.inl (0, 24)), .inr (.inl (0, 24)), .inr (.inl (1, 24)), .inr (.inl (0, 12)), .inr (.inl (0, 12))]
def sh_F4 : List am_Sh := [.inl (4, [some 42, some 43, some 44, some 45, some 46, none, none, none, none, none]), .inr (.inl (0, 24)), .inr (.inl (0, 24)), .inr (.inl (0, 24)), .inr (.inl (0, 24)), .inr (.inl (0, 14))]
def sh_F9 : List am_Sh := [.inl (9, [none, none, none, none])]
def sh_F8 : List am_Sh := [.inl (8, [some 49, some 50, some 51, some 62, none]), .inr (.inl (0, 10)), .inr (.inl (0, 10)), .inr (.inr [52, 53, 54, 55, 56, 57, 58, 59, 60, 61]), .inr (.inl (0, 12)), .inr (.inl (0, 12)), .inr (.inl (0, 12)), .inr (.inl (0, 12)), .inr (.inl (0, 12)), .inr (.inl (0, 12)), .inr (.inl (0, 12)), .inr (.inl (0, 12)), .inr (.inl (0, 12)), .inr (.inl (0, 12)), .inr (.inr [63, 64, 65, 66, 67, 68, 69, 70, 71, 72]), .inr (.inl (0, 12)), .inr (.inl (0, 12)), .inr (.inl (0, 12)), .inr (.inl (0, 12)), .inr (.inl (0, 12)), .inr (.inl (0, 12)), .inr (.inl (0, 12)), .inr (.inl (0, 12)), .inr (.inl (0, 12)), .inr (.inl (0, 12))]
def sh_F0 : List am_Sh := [.inl (0, [some 74, some 75, some 76, some 77, none]), .inr (.inl (0, 10)), .inr (.inl (0, 10)), .inr (.inl (0, 10)), .inr (.inl (0, 10))]
def sh_F6 : List am_Sh := [.inl (6, [some 79, some 80, some 81, some 82, none, none, none]), .inr (.inl (0, 9)), .inr (.inl (0, 9)), .inr (.inl (0, 9)), .inr (.inl (0, 9))]
def sh_F11 : List am_Sh := [.inl (11, [none, none, some 86, some 87, some 88, none, some 89, some 90, some 91, some 92, none, some 93, some 94, some 95, none, some 96, some 97, some 98, some 99, some 100, some 101, some 102, none, some 103, some 104, none, none, some 105, some 106, some 107, some 108, none, some 109, some 110, some 111, none, none, none, some 112, some 113, some 114, some 115, none, some 116, some 117, some 118, some 119, none, some 120, some 121, none, some 122, some 123, some 124, some 125, none, none, none, none, none, none, some 126, some 127, some 128, none, some 129, some 130]), .inr (.inl (0, 12)), .inr (.inl (0, 12)), .inr (.inl (0, 12)), .inr (.inl (0, 30)), .inr (.inl (0, 30)), .inr (.inl (0, 30)), .inr (.inl (1, 30)), .inr (.inl (0, 8)), .inr (.inl (0, 8)), .inr (.inl (0, 2)), .inr (.inl (0, 16)), .inr (.inl (0, 16)), .inr (.inl (0, 32)), .inr (.inl (0, 16)), .inr (.inl (0, 16)), .inr (.inl (0, 16)), .inr (.inl (0, 50)), .inr (.inl (0, 150)), .inr (.inl (0, 3)), .inr (.inl (0, 24)), .inr (.inl (0, 24)), .inr (.inl (0, 24)), .inr (.inl (1, 24)), .inr (.inl (0, 12)), .inr (.inl (0, 12)), .inr (.inl (0, 2)), .inr (.inl (0, 10)), .inr (.inl (0, 120)), .inr (.inl (0, 120)), .inr (.inl (0, 10)), .inr (.inl (0, 10)), .inr (.inl (0, 10)), .inr (.inl (0, 10)), .inr (.inl (0, 10)), .inr (.inl (0, 9)), .inr (.inl (0, 9)), .inr (.inl (0, 16)), .inr (.inl (0, 6)), .inr (.inl (0, 144)), .inr (.inl (0, 4)), .inr (.inl (0, 24)), .inr (.inl (0, 24)), .inr (.inl (0, 24)), .inr (.inl (0, 512)), .inr (.inl (0, 512))]
theorem sh_all : am_sh = (.inl (10, [some 1, some 13, some 21, some 34, some 41, some 47, some 48, some 73, some 78, some 83, some 84, none, none])) :: (sh_F3 ++ (sh_F5 ++ (sh_F2 ++ (sh_F1 ++ (sh_F4 ++ (sh_F9 ++ (sh_F8 ++ (sh_F0 ++ (sh_F6 ++ ((.inr (.inl (0, 6))) :: (.inr (.inl (0, 16))) :: sh_F11)))))))))) := rfl
theorem st_F3 (aC : Nat → ClassId) (adr : Nat → Nat) : ct_F3 aC (adr 1) (fun i => adr (1 + i)) = st_L aC adr s0 1 sh_F3 := rfl
theorem st_F5 (aC : Nat → ClassId) (adr : Nat → Nat) : ct_F5 aC (adr 13) (fun i => adr (13 + i)) = st_L aC adr s0 13 sh_F5 := rfl
theorem st_F2 (aC : Nat → ClassId) (adr : Nat → Nat) : ct_F2 aC (adr 21) (fun i => adr (21 + i)) = st_L aC adr s0 21 sh_F2 := rfl
theorem st_F1 (aC : Nat → ClassId) (adr : Nat → Nat) : ct_F1 aC (adr 34) (fun i => adr (34 + i)) = st_L aC adr s0 34 sh_F1 := rfl
theorem st_F4 (aC : Nat → ClassId) (adr : Nat → Nat) : ct_F4 aC (adr 41) (fun i => adr (41 + i)) = st_L aC adr s0 41 sh_F4 := rfl
theorem st_F9 (aC : Nat → ClassId) (adr : Nat → Nat) : ct_F9 aC (adr 47) (fun i => adr (47 + i)) = st_L aC adr s0 47 sh_F9 := rfl
theorem st_F8 (aC : Nat → ClassId) (adr : Nat → Nat) : ct_F8 aC (adr 48) (fun i => adr (48 + i)) = st_L aC adr s0 48 sh_F8 := by
  unfold ct_F8
  rw [ct_refs (rs := [4, 5, 6, 7, 8, 9, 10, 11, 12, 13]) (f := fun i => adr (48 + i)) (rs' := [52, 53, 54, 55, 56, 57, 58, 59, 60, 61]) (f' := adr) rfl, ct_refs (rs := [15, 16, 17, 18, 19, 20, 21, 22, 23, 24]) (f := fun i => adr (48 + i)) (rs' := [63, 64, 65, 66, 67, 68, 69, 70, 71, 72]) (f' := adr) rfl]
  rfl
theorem st_F0 (aC : Nat → ClassId) (adr : Nat → Nat) : ct_F0 aC (adr 73) (fun i => adr (73 + i)) = st_L aC adr s0 73 sh_F0 := rfl
theorem st_F6 (aC : Nat → ClassId) (adr : Nat → Nat) : ct_F6 aC (adr 78) (fun i => adr (78 + i)) = st_L aC adr s0 78 sh_F6 := rfl
def ct_X0 (h0 : Nat) (g : Nat → Nat) : va_W := [(h0, .inr (11, [.int (0 : Int32), .int 0, .ref (g 1), .ref (g 2), .ref (g 3), .int 0, .ref (g 4), .ref (g 5), .ref (g 6), .ref (g 7), .int 0, .ref (g 8), .ref (g 9), .ref (g 10), .int 0, .ref (g 11), .ref (g 12), .ref (g 13), .ref (g 14), .ref (g 15), .ref (g 16), .ref (g 17), .int 0, .ref (g 18), .ref (g 19), .int 0, .int 0, .ref (g 20), .ref (g 21), .ref (g 22), .ref (g 23), .int 0, .ref (g 24), .ref (g 25), .ref (g 26), .int (9999 : Int32), .int (7 : Int32), .int 0, .ref (g 27), .ref (g 28), .ref (g 29), .ref (g 30), .int 0, .ref (g 31), .ref (g 32), .ref (g 33), .ref (g 34), .int 0, .ref (g 35), .ref (g 36), .int 0, .ref (g 37), .ref (g 38), .ref (g 39), .ref (g 40), .int 0, .int 0, .int 0, .int 0, .int 0, .int 0, .ref (g 41), .ref (g 42), .ref (g 43), .int 0, .ref (g 44), .ref (g 45)]))]
def ct_X1 (aC : Nat → ClassId) (g : Nat → Nat) : va_W := [((g 1), .inl (aC 0, 12, .inl (fun _ => 0))), ((g 2), .inl (aC 0, 12, .inl (fun _ => 0))), ((g 3), .inl (aC 0, 12, .inl (fun _ => 0))), ((g 4), .inl (aC 0, 30, .inl (fun _ => 0))), ((g 5), .inl (aC 0, 30, .inl (fun _ => 0))), ((g 6), .inl (aC 0, 30, .inl (fun _ => 0))), ((g 7), .inl (aC 1, 30, .inl (fun _ => 0))), ((g 8), .inl (aC 0, 8, .inl (fun _ => 0))), ((g 9), .inl (aC 0, 8, .inl (fun _ => 0))), ((g 10), .inl (aC 0, 2, .inl (fun _ => 0)))]
def ct_X2 (aC : Nat → ClassId) (g : Nat → Nat) : va_W := [((g 11), .inl (aC 0, 16, .inl (fun _ => 0))), ((g 12), .inl (aC 0, 16, .inl (fun _ => 0))), ((g 13), .inl (aC 0, 32, .inl (fun _ => 0))), ((g 14), .inl (aC 0, 16, .inl (fun _ => 0))), ((g 15), .inl (aC 0, 16, .inl (fun _ => 0))), ((g 16), .inl (aC 0, 16, .inl (fun _ => 0))), ((g 17), .inl (aC 0, 50, .inl (fun _ => 0))), ((g 18), .inl (aC 0, 150, .inl (fun _ => 0))), ((g 19), .inl (aC 0, 3, .inl (upd (upd (upd (fun _ => 0) 0 (-1 : Int32)) 1 (-1 : Int32)) 2 (0 : Int32)))), ((g 20), .inl (aC 0, 24, .inl (fun _ => 0)))]
def ct_X3 (aC : Nat → ClassId) (g : Nat → Nat) : va_W := [((g 21), .inl (aC 0, 24, .inl (fun _ => 0))), ((g 22), .inl (aC 0, 24, .inl (fun _ => 0))), ((g 23), .inl (aC 1, 24, .inl (fun _ => 0))), ((g 24), .inl (aC 0, 12, .inl (fun _ => 0))), ((g 25), .inl (aC 0, 12, .inl (fun _ => 0))), ((g 26), .inl (aC 0, 2, .inl (upd (upd (fun _ => 0) 0 (100 : Int32)) 1 (100 : Int32)))), ((g 27), .inl (aC 0, 10, .inl (fun _ => 0))), ((g 28), .inl (aC 0, 120, .inl (fun _ => 0))), ((g 29), .inl (aC 0, 120, .inl (fun _ => 0))), ((g 30), .inl (aC 0, 10, .inl (fun _ => 0)))]
def ct_X4 (aC : Nat → ClassId) (g : Nat → Nat) : va_W := [((g 31), .inl (aC 0, 10, .inl (fun _ => 0))), ((g 32), .inl (aC 0, 10, .inl (fun _ => 0))), ((g 33), .inl (aC 0, 10, .inl (fun _ => 0))), ((g 34), .inl (aC 0, 10, .inl (fun _ => 0))), ((g 35), .inl (aC 0, 9, .inl (fun _ => 0))), ((g 36), .inl (aC 0, 9, .inl (fun _ => 0))), ((g 37), .inl (aC 0, 16, .inl (fun _ => 0))), ((g 38), .inl (aC 0, 6, .inl (fun _ => 0))), ((g 39), .inl (aC 0, 144, .inl (fun _ => 0))), ((g 40), .inl (aC 0, 4, .inl (fun _ => 0)))]
def ct_X5 (aC : Nat → ClassId) (g : Nat → Nat) : va_W := [((g 41), .inl (aC 0, 24, .inl (fun _ => 0))), ((g 42), .inl (aC 0, 24, .inl (fun _ => 0))), ((g 43), .inl (aC 0, 24, .inl (fun _ => 0))), ((g 44), .inl (aC 0, 512, .inl (fun _ => 0))), ((g 45), .inl (aC 0, 512, .inl (fun _ => 0)))]
set_option maxRecDepth 100000 in
theorem ct_F11_flat (aC : Nat → ClassId) (h0 : Nat) (g : Nat → Nat) : ct_F11 aC h0 g = ct_X0 h0 g ++ (ct_X1 aC g ++ (ct_X2 aC g ++ (ct_X3 aC g ++ (ct_X4 aC g ++ ct_X5 aC g)))) := by
  unfold ct_F11 ct_X0 ct_X1 ct_X2 ct_X3 ct_X4 ct_X5
  simp only [List.nil_append, List.append_assoc, List.cons_append]
def sh_X0 : List am_Sh := [.inl (11, [none, none, some 86, some 87, some 88, none, some 89, some 90, some 91, some 92, none, some 93, some 94, some 95, none, some 96, some 97, some 98, some 99, some 100, some 101, some 102, none, some 103, some 104, none, none, some 105, some 106, some 107, some 108, none, some 109, some 110, some 111, none, none, none, some 112, some 113, some 114, some 115, none, some 116, some 117, some 118, some 119, none, some 120, some 121, none, some 122, some 123, some 124, some 125, none, none, none, none, none, none, some 126, some 127, some 128, none, some 129, some 130])]
def sh_X1 : List am_Sh := [.inr (.inl (0, 12)), .inr (.inl (0, 12)), .inr (.inl (0, 12)), .inr (.inl (0, 30)), .inr (.inl (0, 30)), .inr (.inl (0, 30)), .inr (.inl (1, 30)), .inr (.inl (0, 8)), .inr (.inl (0, 8)), .inr (.inl (0, 2))]
def sh_X2 : List am_Sh := [.inr (.inl (0, 16)), .inr (.inl (0, 16)), .inr (.inl (0, 32)), .inr (.inl (0, 16)), .inr (.inl (0, 16)), .inr (.inl (0, 16)), .inr (.inl (0, 50)), .inr (.inl (0, 150)), .inr (.inl (0, 3)), .inr (.inl (0, 24))]
def sh_X3 : List am_Sh := [.inr (.inl (0, 24)), .inr (.inl (0, 24)), .inr (.inl (1, 24)), .inr (.inl (0, 12)), .inr (.inl (0, 12)), .inr (.inl (0, 2)), .inr (.inl (0, 10)), .inr (.inl (0, 120)), .inr (.inl (0, 120)), .inr (.inl (0, 10))]
def sh_X4 : List am_Sh := [.inr (.inl (0, 10)), .inr (.inl (0, 10)), .inr (.inl (0, 10)), .inr (.inl (0, 10)), .inr (.inl (0, 9)), .inr (.inl (0, 9)), .inr (.inl (0, 16)), .inr (.inl (0, 6)), .inr (.inl (0, 144)), .inr (.inl (0, 4))]
def sh_X5 : List am_Sh := [.inr (.inl (0, 24)), .inr (.inl (0, 24)), .inr (.inl (0, 24)), .inr (.inl (0, 512)), .inr (.inl (0, 512))]
theorem sh_F11_e : sh_F11 = sh_X0 ++ (sh_X1 ++ (sh_X2 ++ (sh_X3 ++ (sh_X4 ++ sh_X5)))) := rfl
set_option maxRecDepth 100000 in
theorem st_X0 (aC : Nat → ClassId) (adr : Nat → Nat) : ct_X0 (adr 85) (fun i => adr (85 + i)) = st_L aC adr s0 85 sh_X0 := rfl
theorem st_X1 (aC : Nat → ClassId) (adr : Nat → Nat) : ct_X1 aC (fun i => adr (85 + i)) = st_L aC adr s0 86 sh_X1 := rfl
theorem sh_x1 : sh_X1.length = 10 := rfl
theorem st_X2 (aC : Nat → ClassId) (adr : Nat → Nat) : ct_X2 aC (fun i => adr (85 + i)) = st_L aC adr s0 96 sh_X2 := rfl
theorem sh_x2 : sh_X2.length = 10 := rfl
theorem st_X3 (aC : Nat → ClassId) (adr : Nat → Nat) : ct_X3 aC (fun i => adr (85 + i)) = st_L aC adr s0 106 sh_X3 := rfl
theorem sh_x3 : sh_X3.length = 10 := rfl
theorem st_X4 (aC : Nat → ClassId) (adr : Nat → Nat) : ct_X4 aC (fun i => adr (85 + i)) = st_L aC adr s0 116 sh_X4 := rfl
theorem sh_x4 : sh_X4.length = 10 := rfl
theorem st_X5 (aC : Nat → ClassId) (adr : Nat → Nat) : ct_X5 aC (fun i => adr (85 + i)) = st_L aC adr s0 126 sh_X5 := rfl
theorem sh_x5 : sh_X5.length = 5 := rfl
theorem sh_x0 : sh_X0.length = 1 := rfl
theorem st_F11 (aC : Nat → ClassId) (adr : Nat → Nat) : ct_F11 aC (adr 85) (fun i => adr (85 + i)) = st_L aC adr s0 85 sh_F11 := by
  rw [ct_F11_flat, sh_F11_e, st_L_app, st_L_app, st_L_app, st_L_app, st_L_app, st_X0 aC, st_X1, st_X2, st_X3, st_X4, st_X5, sh_x0, sh_x1, sh_x2, sh_x3, sh_x4]
theorem sh_l3 : sh_F3.length = 12 := rfl
theorem sh_l5 : sh_F5.length = 8 := rfl
theorem sh_l2 : sh_F2.length = 13 := rfl
theorem sh_l1 : sh_F1.length = 7 := rfl
theorem sh_l4 : sh_F4.length = 6 := rfl
theorem sh_l9 : sh_F9.length = 1 := rfl
theorem sh_l8 : sh_F8.length = 25 := rfl
theorem sh_l0 : sh_F0.length = 5 := rfl
theorem sh_l6 : sh_F6.length = 5 := rfl
theorem st_F10 (aC : Nat → ClassId) (adr : Nat → Nat) : ct_F10 aC (adr 0) adr ++ ct_F11 aC (adr 85) (fun i => adr (85 + i)) = am_W aC adr am_sh s0 := by
  rw [st_L_e, sh_all, st_F11]
  unfold ct_F10
  rw [st_F3, st_F5, st_F2, st_F1, st_F4, st_F9, st_F8, st_F0, st_F6]
  show _ = (adr 0, st_cell aC adr (s0 0) _) :: st_L aC adr s0 1 _
  rw [st_L_app, st_L_app, st_L_app, st_L_app, st_L_app, st_L_app, st_L_app, st_L_app, st_L_app]
  simp only [List.nil_append, List.append_assoc, List.cons_append, sh_l3, sh_l5, sh_l2, sh_l1, sh_l4, sh_l9, sh_l8, sh_l0, sh_l6, Nat.reduceAdd]
  rfl
