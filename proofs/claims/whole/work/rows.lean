section
-- ===== PART A: goes FIRST, ahead of the names: the tables' words, and 'selects' of the private methods out of them =====
/-- a private method of a class that the tables say can be made, by its rows of tables_1 -/
def lw_okq (q : MethodName × Nat) : Prop := (q.1.cls ≠ "java/lang/invoke/MethodHandle" ∧ q.1.cls ≠ "java/lang/invoke/VarHandle") ∧ Cond.instantiable q.1.cls q.2 ∈ tables_1 ∧ Cond.privateMethod q.1 ∈ tables_1 ∧ Cond.instanceMethod q.1 ∈ tables_1
theorem lw_p0 : lw_okq (⟨"PartedLand", "finding", "(I)I"⟩, 13) := ⟨⟨by decide +kernel, by decide +kernel⟩, List.mem_of_getElem? (i := 18) (by decide +kernel), List.mem_of_getElem? (i := 442) (by decide +kernel), List.mem_of_getElem? (i := 443) (by decide +kernel)⟩
theorem lw_p1 : lw_okq (⟨"PartedLand", "isPlaceOf", "(II)Z"⟩, 13) := ⟨⟨by decide +kernel, by decide +kernel⟩, List.mem_of_getElem? (i := 18) (by decide +kernel), List.mem_of_getElem? (i := 723) (by decide +kernel), List.mem_of_getElem? (i := 724) (by decide +kernel)⟩
theorem lw_p2 : lw_okq (⟨"PartedLand", "partThings", "()V"⟩, 13) := ⟨⟨by decide +kernel, by decide +kernel⟩, List.mem_of_getElem? (i := 18) (by decide +kernel), List.mem_of_getElem? (i := 773) (by decide +kernel), List.mem_of_getElem? (i := 774) (by decide +kernel)⟩
theorem lw_p3 : lw_okq (⟨"PartedLandModel", "finding", "(I)I"⟩, 67) := ⟨⟨by decide +kernel, by decide +kernel⟩, List.mem_of_getElem? (i := 1035) (by decide +kernel), List.mem_of_getElem? (i := 1250) (by decide +kernel), List.mem_of_getElem? (i := 1251) (by decide +kernel)⟩
theorem lw_p4 : lw_okq (⟨"PartedLandModel", "isParish", "(I)Z"⟩, 67) := ⟨⟨by decide +kernel, by decide +kernel⟩, List.mem_of_getElem? (i := 1035) (by decide +kernel), List.mem_of_getElem? (i := 1259) (by decide +kernel), List.mem_of_getElem? (i := 1260) (by decide +kernel)⟩
theorem lw_p5 : lw_okq (⟨"PartedLandModel", "sideOf", "(I)I"⟩, 67) := ⟨⟨by decide +kernel, by decide +kernel⟩, List.mem_of_getElem? (i := 1035) (by decide +kernel), List.mem_of_getElem? (i := 1282) (by decide +kernel), List.mem_of_getElem? (i := 1283) (by decide +kernel)⟩
theorem lw_p6 : lw_okq (⟨"PartedLandModel", "lineAt", "(I)I"⟩, 67) := ⟨⟨by decide +kernel, by decide +kernel⟩, List.mem_of_getElem? (i := 1035) (by decide +kernel), List.mem_of_getElem? (i := 1286) (by decide +kernel), List.mem_of_getElem? (i := 1287) (by decide +kernel)⟩
theorem lw_p7 : lw_okq (⟨"PartedLandModel", "isEnclave", "(I)Z"⟩, 67) := ⟨⟨by decide +kernel, by decide +kernel⟩, List.mem_of_getElem? (i := 1035) (by decide +kernel), List.mem_of_getElem? (i := 1294) (by decide +kernel), List.mem_of_getElem? (i := 1295) (by decide +kernel)⟩
theorem lw_p8 : lw_okq (⟨"PartedLandModel", "tellWays", "(Z)V"⟩, 67) := ⟨⟨by decide +kernel, by decide +kernel⟩, List.mem_of_getElem? (i := 1035) (by decide +kernel), List.mem_of_getElem? (i := 1302) (by decide +kernel), List.mem_of_getElem? (i := 1303) (by decide +kernel)⟩
theorem lw_p9 : lw_okq (⟨"PartedLandModel", "isPerson", "(I)Z"⟩, 67) := ⟨⟨by decide +kernel, by decide +kernel⟩, List.mem_of_getElem? (i := 1035) (by decide +kernel), List.mem_of_getElem? (i := 1315) (by decide +kernel), List.mem_of_getElem? (i := 1316) (by decide +kernel)⟩
theorem lw_p10 : lw_okq (⟨"PartedLandModel", "readLaw", "(I)I"⟩, 67) := ⟨⟨by decide +kernel, by decide +kernel⟩, List.mem_of_getElem? (i := 1035) (by decide +kernel), List.mem_of_getElem? (i := 1331) (by decide +kernel), List.mem_of_getElem? (i := 1332) (by decide +kernel)⟩
theorem lw_p11 : lw_okq (⟨"PartedLandModel", "read", "([III)I"⟩, 67) := ⟨⟨by decide +kernel, by decide +kernel⟩, List.mem_of_getElem? (i := 1035) (by decide +kernel), List.mem_of_getElem? (i := 1335) (by decide +kernel), List.mem_of_getElem? (i := 1336) (by decide +kernel)⟩
theorem lw_p12 : lw_okq (⟨"PartedLandModel", "isGround", "(I)Z"⟩, 67) := ⟨⟨by decide +kernel, by decide +kernel⟩, List.mem_of_getElem? (i := 1035) (by decide +kernel), List.mem_of_getElem? (i := 1339) (by decide +kernel), List.mem_of_getElem? (i := 1340) (by decide +kernel)⟩
theorem lw_p13 : lw_okq (⟨"PartedLandModel", "whoseBy", "(I)I"⟩, 67) := ⟨⟨by decide +kernel, by decide +kernel⟩, List.mem_of_getElem? (i := 1035) (by decide +kernel), List.mem_of_getElem? (i := 1343) (by decide +kernel), List.mem_of_getElem? (i := 1344) (by decide +kernel)⟩
theorem lw_p14 : lw_okq (⟨"PartedLandModel", "unlike", "(II)I"⟩, 67) := ⟨⟨by decide +kernel, by decide +kernel⟩, List.mem_of_getElem? (i := 1035) (by decide +kernel), List.mem_of_getElem? (i := 1359) (by decide +kernel), List.mem_of_getElem? (i := 1360) (by decide +kernel)⟩
theorem lw_p15 : lw_okq (⟨"PartedLandModel", "isThing", "(I)Z"⟩, 67) := ⟨⟨by decide +kernel, by decide +kernel⟩, List.mem_of_getElem? (i := 1035) (by decide +kernel), List.mem_of_getElem? (i := 1375) (by decide +kernel), List.mem_of_getElem? (i := 1376) (by decide +kernel)⟩
def lw_privs_1 : List (MethodName × Nat) := [(⟨"PartedLand", "finding", "(I)I"⟩, 13), (⟨"PartedLand", "isPlaceOf", "(II)Z"⟩, 13), (⟨"PartedLand", "partThings", "()V"⟩, 13), (⟨"PartedLandModel", "finding", "(I)I"⟩, 67), (⟨"PartedLandModel", "isParish", "(I)Z"⟩, 67), (⟨"PartedLandModel", "sideOf", "(I)I"⟩, 67), (⟨"PartedLandModel", "lineAt", "(I)I"⟩, 67), (⟨"PartedLandModel", "isEnclave", "(I)Z"⟩, 67), (⟨"PartedLandModel", "tellWays", "(Z)V"⟩, 67), (⟨"PartedLandModel", "isPerson", "(I)Z"⟩, 67), (⟨"PartedLandModel", "readLaw", "(I)I"⟩, 67), (⟨"PartedLandModel", "read", "([III)I"⟩, 67), (⟨"PartedLandModel", "isGround", "(I)Z"⟩, 67), (⟨"PartedLandModel", "whoseBy", "(I)I"⟩, 67), (⟨"PartedLandModel", "unlike", "(II)I"⟩, 67), (⟨"PartedLandModel", "isThing", "(I)Z"⟩, 67)]
theorem lw_r1 : ∀ q ∈ lw_privs_1, lw_okq q := List.forall_mem_cons.mpr ⟨lw_p0, List.forall_mem_cons.mpr ⟨lw_p1, List.forall_mem_cons.mpr ⟨lw_p2, List.forall_mem_cons.mpr ⟨lw_p3, List.forall_mem_cons.mpr ⟨lw_p4, List.forall_mem_cons.mpr ⟨lw_p5, List.forall_mem_cons.mpr ⟨lw_p6, List.forall_mem_cons.mpr ⟨lw_p7, List.forall_mem_cons.mpr ⟨lw_p8, List.forall_mem_cons.mpr ⟨lw_p9, List.forall_mem_cons.mpr ⟨lw_p10, List.forall_mem_cons.mpr ⟨lw_p11, List.forall_mem_cons.mpr ⟨lw_p12, List.forall_mem_cons.mpr ⟨lw_p13, List.forall_mem_cons.mpr ⟨lw_p14, List.forall_mem_cons.mpr ⟨lw_p15, fun _ h => absurd h List.not_mem_nil⟩⟩⟩⟩⟩⟩⟩⟩⟩⟩⟩⟩⟩⟩⟩⟩
theorem lw_p16 : lw_okq (⟨"PartedLandModel", "whereOf", "(I)I"⟩, 67) := ⟨⟨by decide +kernel, by decide +kernel⟩, List.mem_of_getElem? (i := 1035) (by decide +kernel), List.mem_of_getElem? (i := 1398) (by decide +kernel), List.mem_of_getElem? (i := 1399) (by decide +kernel)⟩
theorem lw_p17 : lw_okq (⟨"PartedLandModel", "tellGroups", "()V"⟩, 67) := ⟨⟨by decide +kernel, by decide +kernel⟩, List.mem_of_getElem? (i := 1035) (by decide +kernel), List.mem_of_getElem? (i := 1402) (by decide +kernel), List.mem_of_getElem? (i := 1403) (by decide +kernel)⟩
theorem lw_p18 : lw_okq (⟨"PartedLandModel", "counts", "(I)Z"⟩, 67) := ⟨⟨by decide +kernel, by decide +kernel⟩, List.mem_of_getElem? (i := 1035) (by decide +kernel), List.mem_of_getElem? (i := 1406) (by decide +kernel), List.mem_of_getElem? (i := 1407) (by decide +kernel)⟩
theorem lw_p19 : lw_okq (⟨"PartedLandModel", "parting", "()I"⟩, 67) := ⟨⟨by decide +kernel, by decide +kernel⟩, List.mem_of_getElem? (i := 1035) (by decide +kernel), List.mem_of_getElem? (i := 1410) (by decide +kernel), List.mem_of_getElem? (i := 1411) (by decide +kernel)⟩
theorem lw_p20 : lw_okq (⟨"PartedLandModel", "wanted", "()I"⟩, 67) := ⟨⟨by decide +kernel, by decide +kernel⟩, List.mem_of_getElem? (i := 1035) (by decide +kernel), List.mem_of_getElem? (i := 1414) (by decide +kernel), List.mem_of_getElem? (i := 1415) (by decide +kernel)⟩
theorem lw_p21 : lw_okq (⟨"PartedLandModel", "allWorth", "()I"⟩, 67) := ⟨⟨by decide +kernel, by decide +kernel⟩, List.mem_of_getElem? (i := 1035) (by decide +kernel), List.mem_of_getElem? (i := 1418) (by decide +kernel), List.mem_of_getElem? (i := 1419) (by decide +kernel)⟩
theorem lw_p22 : lw_okq (⟨"PartedLandModel", "sumOf", "(I)I"⟩, 67) := ⟨⟨by decide +kernel, by decide +kernel⟩, List.mem_of_getElem? (i := 1035) (by decide +kernel), List.mem_of_getElem? (i := 1423) (by decide +kernel), List.mem_of_getElem? (i := 1424) (by decide +kernel)⟩
theorem lw_p23 : lw_okq (⟨"PartedLandModel", "carries", "(I)I"⟩, 67) := ⟨⟨by decide +kernel, by decide +kernel⟩, List.mem_of_getElem? (i := 1035) (by decide +kernel), List.mem_of_getElem? (i := 1443) (by decide +kernel), List.mem_of_getElem? (i := 1444) (by decide +kernel)⟩
theorem lw_p24 : lw_okq (⟨"PartedLandModel", "isWagon", "(I)Z"⟩, 67) := ⟨⟨by decide +kernel, by decide +kernel⟩, List.mem_of_getElem? (i := 1035) (by decide +kernel), List.mem_of_getElem? (i := 1455) (by decide +kernel), List.mem_of_getElem? (i := 1456) (by decide +kernel)⟩
theorem lw_p25 : lw_okq (⟨"PartedLandModel", "placeOn", "(II)I"⟩, 67) := ⟨⟨by decide +kernel, by decide +kernel⟩, List.mem_of_getElem? (i := 1035) (by decide +kernel), List.mem_of_getElem? (i := 1459) (by decide +kernel), List.mem_of_getElem? (i := 1460) (by decide +kernel)⟩
theorem lw_p26 : lw_okq (⟨"PartedLandModel", "railBetween", "(II)I"⟩, 67) := ⟨⟨by decide +kernel, by decide +kernel⟩, List.mem_of_getElem? (i := 1035) (by decide +kernel), List.mem_of_getElem? (i := 1463) (by decide +kernel), List.mem_of_getElem? (i := 1464) (by decide +kernel)⟩
theorem lw_p27 : lw_okq (⟨"PartedLandModel", "isCase", "(I)Z"⟩, 67) := ⟨⟨by decide +kernel, by decide +kernel⟩, List.mem_of_getElem? (i := 1035) (by decide +kernel), List.mem_of_getElem? (i := 1491) (by decide +kernel), List.mem_of_getElem? (i := 1492) (by decide +kernel)⟩
theorem lw_p28 : lw_okq (⟨"PartedLandModel", "courtOf", "(I)I"⟩, 67) := ⟨⟨by decide +kernel, by decide +kernel⟩, List.mem_of_getElem? (i := 1035) (by decide +kernel), List.mem_of_getElem? (i := 1495) (by decide +kernel), List.mem_of_getElem? (i := 1496) (by decide +kernel)⟩
theorem lw_p29 : lw_okq (⟨"PartedLandModel", "isTask", "(I)Z"⟩, 67) := ⟨⟨by decide +kernel, by decide +kernel⟩, List.mem_of_getElem? (i := 1035) (by decide +kernel), List.mem_of_getElem? (i := 1511) (by decide +kernel), List.mem_of_getElem? (i := 1512) (by decide +kernel)⟩
theorem lw_p30 : lw_okq (⟨"PartedLandModel", "tellTasks", "()V"⟩, 67) := ⟨⟨by decide +kernel, by decide +kernel⟩, List.mem_of_getElem? (i := 1035) (by decide +kernel), List.mem_of_getElem? (i := 1519) (by decide +kernel), List.mem_of_getElem? (i := 1520) (by decide +kernel)⟩
theorem lw_p31 : lw_okq (⟨"PartedLandModel", "daysOf", "(I)I"⟩, 67) := ⟨⟨by decide +kernel, by decide +kernel⟩, List.mem_of_getElem? (i := 1035) (by decide +kernel), List.mem_of_getElem? (i := 1523) (by decide +kernel), List.mem_of_getElem? (i := 1524) (by decide +kernel)⟩
def lw_privs_2 : List (MethodName × Nat) := [(⟨"PartedLandModel", "whereOf", "(I)I"⟩, 67), (⟨"PartedLandModel", "tellGroups", "()V"⟩, 67), (⟨"PartedLandModel", "counts", "(I)Z"⟩, 67), (⟨"PartedLandModel", "parting", "()I"⟩, 67), (⟨"PartedLandModel", "wanted", "()I"⟩, 67), (⟨"PartedLandModel", "allWorth", "()I"⟩, 67), (⟨"PartedLandModel", "sumOf", "(I)I"⟩, 67), (⟨"PartedLandModel", "carries", "(I)I"⟩, 67), (⟨"PartedLandModel", "isWagon", "(I)Z"⟩, 67), (⟨"PartedLandModel", "placeOn", "(II)I"⟩, 67), (⟨"PartedLandModel", "railBetween", "(II)I"⟩, 67), (⟨"PartedLandModel", "isCase", "(I)Z"⟩, 67), (⟨"PartedLandModel", "courtOf", "(I)I"⟩, 67), (⟨"PartedLandModel", "isTask", "(I)Z"⟩, 67), (⟨"PartedLandModel", "tellTasks", "()V"⟩, 67), (⟨"PartedLandModel", "daysOf", "(I)I"⟩, 67)]
theorem lw_r2 : ∀ q ∈ lw_privs_2, lw_okq q := List.forall_mem_cons.mpr ⟨lw_p16, List.forall_mem_cons.mpr ⟨lw_p17, List.forall_mem_cons.mpr ⟨lw_p18, List.forall_mem_cons.mpr ⟨lw_p19, List.forall_mem_cons.mpr ⟨lw_p20, List.forall_mem_cons.mpr ⟨lw_p21, List.forall_mem_cons.mpr ⟨lw_p22, List.forall_mem_cons.mpr ⟨lw_p23, List.forall_mem_cons.mpr ⟨lw_p24, List.forall_mem_cons.mpr ⟨lw_p25, List.forall_mem_cons.mpr ⟨lw_p26, List.forall_mem_cons.mpr ⟨lw_p27, List.forall_mem_cons.mpr ⟨lw_p28, List.forall_mem_cons.mpr ⟨lw_p29, List.forall_mem_cons.mpr ⟨lw_p30, List.forall_mem_cons.mpr ⟨lw_p31, fun _ h => absurd h List.not_mem_nil⟩⟩⟩⟩⟩⟩⟩⟩⟩⟩⟩⟩⟩⟩⟩⟩
theorem lw_p32 : lw_okq (⟨"PartedLandModel", "canFollow", "(II)Z"⟩, 67) := ⟨⟨by decide +kernel, by decide +kernel⟩, List.mem_of_getElem? (i := 1035) (by decide +kernel), List.mem_of_getElem? (i := 1527) (by decide +kernel), List.mem_of_getElem? (i := 1528) (by decide +kernel)⟩
theorem lw_p33 : lw_okq (⟨"PartedLandModel", "nobodys", "()I"⟩, 67) := ⟨⟨by decide +kernel, by decide +kernel⟩, List.mem_of_getElem? (i := 1035) (by decide +kernel), List.mem_of_getElem? (i := 1543) (by decide +kernel), List.mem_of_getElem? (i := 1544) (by decide +kernel)⟩
def lw_privs_3 : List (MethodName × Nat) := [(⟨"PartedLandModel", "canFollow", "(II)Z"⟩, 67), (⟨"PartedLandModel", "nobodys", "()I"⟩, 67)]
theorem lw_r3 : ∀ q ∈ lw_privs_3, lw_okq q := List.forall_mem_cons.mpr ⟨lw_p32, List.forall_mem_cons.mpr ⟨lw_p33, fun _ h => absurd h List.not_mem_nil⟩⟩
def lw_privs : List (MethodName × Nat) := lw_privs_1 ++ (lw_privs_2 ++ (lw_privs_3))
def lw_tbl : List Cond := k2_sels lw_privs ++ tables_1
theorem lw_privs_ok : ∀ q ∈ lw_privs, lw_okq q := by
  show ∀ q ∈ lw_privs_1 ++ (lw_privs_2 ++ (lw_privs_3)), lw_okq q
  exact List.forall_mem_append.mpr ⟨lw_r1, List.forall_mem_append.mpr ⟨lw_r2, lw_r3⟩⟩
end
section
-- class names, field tables (printed names of the claim)
def RX0 : String := "PartedLand$Cases"
def TX0 : u_T := fun k => match k with
  | 0 => ("PartedLand$Cases", "courts", "[I", true)
  | 1 => ("PartedLand$Cases", "persons", "[I", true)
  | 2 => ("PartedLand$Cases", "stages", "[I", true)
  | 3 => ("PartedLand$Cases", "papers", "[I", true)
  | _ => ("PartedLand$Cases", "cases", "I", false)
def tyX0 : Nat → FieldType := fun k => match k with
  | 0 => .array .int
  | 1 => .array .int
  | 2 => .array .int
  | 3 => .array .int
  | _ => .int
theorem nmX0 : ∀ a, a < 5 → ∀ b, b < 5 → a ≠ b → (TX0 a).2.1 ≠ (TX0 b).2.1 := by decide +kernel
theorem tyX0_ok : ∀ k, k < 5 → parseFieldDescriptor (TX0 k).2.2.1 = some (tyX0 k) := by decide +kernel
def RX1 : String := "PartedLand$Estate"
def TX1 : u_T := fun k => match k with
  | 0 => ("PartedLand$Estate", "kinds", "[I", true)
  | 1 => ("PartedLand$Estate", "places", "[I", true)
  | 2 => ("PartedLand$Estate", "worths", "[I", true)
  | 3 => ("PartedLand$Estate", "copied", "[Z", true)
  | 4 => ("PartedLand$Estate", "tiedOnes", "[I", true)
  | 5 => ("PartedLand$Estate", "tiedOthers", "[I", true)
  | 6 => ("PartedLand$Estate", "things", "I", false)
  | _ => ("PartedLand$Estate", "ties", "I", false)
def tyX1 : Nat → FieldType := fun k => match k with
  | 0 => .array .int
  | 1 => .array .int
  | 2 => .array .int
  | 3 => .array .boolean
  | 4 => .array .int
  | 5 => .array .int
  | 6 => .int
  | _ => .int
theorem nmX1 : ∀ a, a < 8 → ∀ b, b < 8 → a ≠ b → (TX1 a).2.1 ≠ (TX1 b).2.1 := by decide +kernel
theorem tyX1_ok : ∀ k, k < 8 → parseFieldDescriptor (TX1 k).2.2.1 = some (tyX1 k) := by decide +kernel
def RX2 : String := "PartedLand$Houses"
def TX2 : u_T := fun k => match k with
  | 0 => ("PartedLand$Houses", "tape", "LPartedLand$Text;", true)
  | 1 => ("PartedLand$Houses", "first", "LPartedLand$Text;", true)
  | 2 => ("PartedLand$Houses", "second", "LPartedLand$Text;", true)
  | 3 => ("PartedLand$Houses", "law", "LPartedLand$Text;", true)
  | 4 => ("PartedLand$Houses", "firstProposed", "Z", false)
  | 5 => ("PartedLand$Houses", "secondProposed", "Z", false)
  | _ => ("PartedLand$Houses", "lawSince", "I", false)
def tyX2 : Nat → FieldType := fun k => match k with
  | 0 => .object "PartedLand$Text"
  | 1 => .object "PartedLand$Text"
  | 2 => .object "PartedLand$Text"
  | 3 => .object "PartedLand$Text"
  | 4 => .boolean
  | 5 => .boolean
  | _ => .int
theorem nmX2 : ∀ a, a < 7 → ∀ b, b < 7 → a ≠ b → (TX2 a).2.1 ≠ (TX2 b).2.1 := by decide +kernel
theorem tyX2_ok : ∀ k, k < 7 → parseFieldDescriptor (TX2 k).2.2.1 = some (tyX2 k) := by decide +kernel
def RX3 : String := "PartedLand$Land"
def TX3 : u_T := fun k => match k with
  | 0 => ("PartedLand$Land", "xs", "[I", true)
  | 1 => ("PartedLand$Land", "ys", "[I", true)
  | 2 => ("PartedLand$Land", "settled", "[I", true)
  | 3 => ("PartedLand$Land", "seats", "[I", true)
  | 4 => ("PartedLand$Land", "ends", "[I", true)
  | 5 => ("PartedLand$Land", "otherEnds", "[I", true)
  | 6 => ("PartedLand$Land", "edgeDays", "[I", true)
  | 7 => ("PartedLand$Land", "rails", "[Z", true)
  | 8 => ("PartedLand$Land", "pegXs", "[I", true)
  | 9 => ("PartedLand$Land", "pegYs", "[I", true)
  | 10 => ("PartedLand$Land", "away", "[I", true)
  | 11 => ("PartedLand$Land", "parishes", "I", false)
  | 12 => ("PartedLand$Land", "edges", "I", false)
  | _ => ("PartedLand$Land", "pegs", "I", false)
def tyX3 : Nat → FieldType := fun k => match k with
  | 0 => .array .int
  | 1 => .array .int
  | 2 => .array .int
  | 3 => .array .int
  | 4 => .array .int
  | 5 => .array .int
  | 6 => .array .int
  | 7 => .array .boolean
  | 8 => .array .int
  | 9 => .array .int
  | 10 => .array .int
  | 11 => .int
  | 12 => .int
  | _ => .int
theorem nmX3 : ∀ a, a < 14 → ∀ b, b < 14 → a ≠ b → (TX3 a).2.1 ≠ (TX3 b).2.1 := by decide +kernel
theorem tyX3_ok : ∀ k, k < 14 → parseFieldDescriptor (TX3 k).2.2.1 = some (tyX3 k) := by decide +kernel
def RX4 : String := "PartedLand$Parting"
def TX4 : u_T := fun k => match k with
  | 0 => ("PartedLand$Parting", "roots", "[I", true)
  | 1 => ("PartedLand$Parting", "groupOfRoot", "[I", true)
  | 2 => ("PartedLand$Parting", "groupOfThing", "[I", true)
  | 3 => ("PartedLand$Parting", "groupWorths", "[I", true)
  | 4 => ("PartedLand$Parting", "changes", "[I", true)
  | 5 => ("PartedLand$Parting", "isKnown", "Z", false)
  | 6 => ("PartedLand$Parting", "groups", "I", false)
  | 7 => ("PartedLand$Parting", "total", "I", false)
  | 8 => ("PartedLand$Parting", "rest", "I", false)
  | _ => ("PartedLand$Parting", "leaving", "I", false)
def tyX4 : Nat → FieldType := fun k => match k with
  | 0 => .array .int
  | 1 => .array .int
  | 2 => .array .int
  | 3 => .array .int
  | 4 => .array .int
  | 5 => .boolean
  | 6 => .int
  | 7 => .int
  | 8 => .int
  | _ => .int
theorem nmX4 : ∀ a, a < 10 → ∀ b, b < 10 → a ≠ b → (TX4 a).2.1 ≠ (TX4 b).2.1 := by decide +kernel
theorem tyX4_ok : ∀ k, k < 10 → parseFieldDescriptor (TX4 k).2.2.1 = some (tyX4 k) := by decide +kernel
def RX5 : String := "PartedLand$People"
def TX5 : u_T := fun k => match k with
  | 0 => ("PartedLand$People", "births", "[I", true)
  | 1 => ("PartedLand$People", "homes", "[I", true)
  | 2 => ("PartedLand$People", "firstMonths", "[I", true)
  | 3 => ("PartedLand$People", "secondMonths", "[I", true)
  | 4 => ("PartedLand$People", "choices", "[I", true)
  | 5 => ("PartedLand$People", "choiceDays", "[I", true)
  | 6 => ("PartedLand$People", "hoards", "[I", true)
  | _ => ("PartedLand$People", "persons", "I", false)
def tyX5 : Nat → FieldType := fun k => match k with
  | 0 => .array .int
  | 1 => .array .int
  | 2 => .array .int
  | 3 => .array .int
  | 4 => .array .int
  | 5 => .array .int
  | 6 => .array .int
  | _ => .int
theorem nmX5 : ∀ a, a < 8 → ∀ b, b < 8 → a ≠ b → (TX5 a).2.1 ≠ (TX5 b).2.1 := by decide +kernel
theorem tyX5_ok : ∀ k, k < 8 → parseFieldDescriptor (TX5 k).2.2.1 = some (tyX5 k) := by decide +kernel
def RX6 : String := "PartedLand$Tasks"
def TX6 : u_T := fun k => match k with
  | 0 => ("PartedLand$Tasks", "taskDays", "[I", true)
  | 1 => ("PartedLand$Tasks", "needed", "[I", true)
  | 2 => ("PartedLand$Tasks", "trial", "[I", true)
  | 3 => ("PartedLand$Tasks", "bestOrder", "[I", true)
  | 4 => ("PartedLand$Tasks", "tasks", "I", false)
  | 5 => ("PartedLand$Tasks", "bestCount", "I", false)
  | _ => ("PartedLand$Tasks", "bestDays", "I", false)
def tyX6 : Nat → FieldType := fun k => match k with
  | 0 => .array .int
  | 1 => .array .int
  | 2 => .array .int
  | 3 => .array .int
  | 4 => .int
  | 5 => .int
  | _ => .int
theorem nmX6 : ∀ a, a < 7 → ∀ b, b < 7 → a ≠ b → (TX6 a).2.1 ≠ (TX6 b).2.1 := by decide +kernel
theorem tyX6_ok : ∀ k, k < 7 → parseFieldDescriptor (TX6 k).2.2.1 = some (tyX6 k) := by decide +kernel
def RX7 : String := "PartedLand$Text"
def TX7 : u_T := fun k => match k with
  | 0 => ("PartedLand$Text", "bytes", "[I", true)
  | 1 => ("PartedLand$Text", "grounds", "[I", true)
  | 2 => ("PartedLand$Text", "length", "I", false)
  | 3 => ("PartedLand$Text", "groundCount", "I", false)
  | 4 => ("PartedLand$Text", "lastChoiceDay", "I", false)
  | 5 => ("PartedLand$Text", "share", "I", false)
  | 6 => ("PartedLand$Text", "debtsByLand", "Z", false)
  | 7 => ("PartedLand$Text", "courtStage", "I", false)
  | _ => ("PartedLand$Text", "hours", "I", false)
def tyX7 : Nat → FieldType := fun k => match k with
  | 0 => .array .int
  | 1 => .array .int
  | 2 => .int
  | 3 => .int
  | 4 => .int
  | 5 => .int
  | 6 => .boolean
  | 7 => .int
  | _ => .int
theorem nmX7 : ∀ a, a < 9 → ∀ b, b < 9 → a ≠ b → (TX7 a).2.1 ≠ (TX7 b).2.1 := by decide +kernel
theorem tyX7_ok : ∀ k, k < 9 → parseFieldDescriptor (TX7 k).2.2.1 = some (tyX7 k) := by decide +kernel
def RX8 : String := "PartedLand$Wagons"
def TX8 : u_T := fun k => match k with
  | 0 => ("PartedLand$Wagons", "owners", "[I", true)
  | 1 => ("PartedLand$Wagons", "stopCounts", "[I", true)
  | 2 => ("PartedLand$Wagons", "stops", "[[I", true)
  | 3 => ("PartedLand$Wagons", "arrivals", "[[I", true)
  | _ => ("PartedLand$Wagons", "wagons", "I", false)
def tyX8 : Nat → FieldType := fun k => match k with
  | 0 => .array .int
  | 1 => .array .int
  | 2 => .array (.array .int)
  | 3 => .array (.array .int)
  | _ => .int
theorem nmX8 : ∀ a, a < 5 → ∀ b, b < 5 → a ≠ b → (TX8 a).2.1 ≠ (TX8 b).2.1 := by decide +kernel
theorem tyX8_ok : ∀ k, k < 5 → parseFieldDescriptor (TX8 k).2.2.1 = some (tyX8 k) := by decide +kernel
def RX9 : String := "PartedLand$Week"
def TX9 : u_T := fun k => match k with
  | 0 => ("PartedLand$Week", "firstRate", "I", false)
  | 1 => ("PartedLand$Week", "secondRate", "I", false)
  | 2 => ("PartedLand$Week", "limit", "I", false)
  | _ => ("PartedLand$Week", "dayCount", "I", false)
def tyX9 : Nat → FieldType := fun k => match k with
  | 0 => .int
  | 1 => .int
  | 2 => .int
  | _ => .int
theorem nmX9 : ∀ a, a < 4 → ∀ b, b < 4 → a ≠ b → (TX9 a).2.1 ≠ (TX9 b).2.1 := by decide +kernel
theorem tyX9_ok : ∀ k, k < 4 → parseFieldDescriptor (TX9 k).2.2.1 = some (tyX9 k) := by decide +kernel
def RX10 : String := "PartedLand"
def TX10 : u_T := fun k => match k with
  | 0 => ("PartedLand", "land", "LPartedLand$Land;", true)
  | 1 => ("PartedLand", "people", "LPartedLand$People;", true)
  | 2 => ("PartedLand", "houses", "LPartedLand$Houses;", true)
  | 3 => ("PartedLand", "estate", "LPartedLand$Estate;", true)
  | 4 => ("PartedLand", "parting", "LPartedLand$Parting;", true)
  | 5 => ("PartedLand", "coinWeek", "LPartedLand$Week;", true)
  | 6 => ("PartedLand", "wagons", "LPartedLand$Wagons;", true)
  | 7 => ("PartedLand", "cases", "LPartedLand$Cases;", true)
  | 8 => ("PartedLand", "tasks", "LPartedLand$Tasks;", true)
  | 9 => ("PartedLand", "findings", "[I", true)
  | 10 => ("PartedLand", "waiting", "[I", true)
  | 11 => ("PartedLand", "waitingCount", "I", false)
  | _ => ("PartedLand", "today", "I", false)
def tyX10 : Nat → FieldType := fun k => match k with
  | 0 => .object "PartedLand$Land"
  | 1 => .object "PartedLand$People"
  | 2 => .object "PartedLand$Houses"
  | 3 => .object "PartedLand$Estate"
  | 4 => .object "PartedLand$Parting"
  | 5 => .object "PartedLand$Week"
  | 6 => .object "PartedLand$Wagons"
  | 7 => .object "PartedLand$Cases"
  | 8 => .object "PartedLand$Tasks"
  | 9 => .array .int
  | 10 => .array .int
  | 11 => .int
  | _ => .int
theorem nmX10 : ∀ a, a < 13 → ∀ b, b < 13 → a ≠ b → (TX10 a).2.1 ≠ (TX10 b).2.1 := by decide +kernel
theorem tyX10_ok : ∀ k, k < 13 → parseFieldDescriptor (TX10 k).2.2.1 = some (tyX10 k) := by decide +kernel
def RX11 : String := "PartedLandModel"
def TX11 : u_T := fun k => match k with
  | 0 => ("PartedLandModel", "today", "I", false)
  | 1 => ("PartedLandModel", "parishes", "I", false)
  | 2 => ("PartedLandModel", "px", "[I", true)
  | 3 => ("PartedLandModel", "py", "[I", true)
  | 4 => ("PartedLandModel", "settled", "[I", true)
  | 5 => ("PartedLandModel", "edges", "I", false)
  | 6 => ("PartedLandModel", "edgeA", "[I", true)
  | 7 => ("PartedLandModel", "edgeB", "[I", true)
  | 8 => ("PartedLandModel", "edgeDays", "[I", true)
  | 9 => ("PartedLandModel", "isRail", "[Z", true)
  | 10 => ("PartedLandModel", "pegs", "I", false)
  | 11 => ("PartedLandModel", "pegX", "[I", true)
  | 12 => ("PartedLandModel", "pegY", "[I", true)
  | 13 => ("PartedLandModel", "seats", "[I", true)
  | 14 => ("PartedLandModel", "persons", "I", false)
  | 15 => ("PartedLandModel", "birth", "[I", true)
  | 16 => ("PartedLandModel", "homes", "[I", true)
  | 17 => ("PartedLandModel", "months", "[I", true)
  | 18 => ("PartedLandModel", "choice", "[I", true)
  | 19 => ("PartedLandModel", "choiceDay", "[I", true)
  | 20 => ("PartedLandModel", "hoards", "[I", true)
  | 21 => ("PartedLandModel", "tape", "[I", true)
  | 22 => ("PartedLandModel", "taped", "I", false)
  | 23 => ("PartedLandModel", "texts", "[I", true)
  | 24 => ("PartedLandModel", "sizes", "[I", true)
  | 25 => ("PartedLandModel", "since", "I", false)
  | 26 => ("PartedLandModel", "things", "I", false)
  | 27 => ("PartedLandModel", "kind", "[I", true)
  | 28 => ("PartedLandModel", "value", "[I", true)
  | 29 => ("PartedLandModel", "of", "[I", true)
  | 30 => ("PartedLandModel", "isCopied", "[Z", true)
  | 31 => ("PartedLandModel", "ties", "I", false)
  | 32 => ("PartedLandModel", "tieA", "[I", true)
  | 33 => ("PartedLandModel", "tieB", "[I", true)
  | 34 => ("PartedLandModel", "rates", "[I", true)
  | 35 => ("PartedLandModel", "limit", "I", false)
  | 36 => ("PartedLandModel", "weekDays", "I", false)
  | 37 => ("PartedLandModel", "wagons", "I", false)
  | 38 => ("PartedLandModel", "wagonSide", "[I", true)
  | 39 => ("PartedLandModel", "stops", "[I", true)
  | 40 => ("PartedLandModel", "stopDay", "[I", true)
  | 41 => ("PartedLandModel", "stopMany", "[I", true)
  | 42 => ("PartedLandModel", "cases", "I", false)
  | 43 => ("PartedLandModel", "caseCourt", "[I", true)
  | 44 => ("PartedLandModel", "casePerson", "[I", true)
  | 45 => ("PartedLandModel", "stage", "[I", true)
  | 46 => ("PartedLandModel", "casePaper", "[I", true)
  | 47 => ("PartedLandModel", "tasks", "I", false)
  | 48 => ("PartedLandModel", "taskDays", "[I", true)
  | 49 => ("PartedLandModel", "before", "[I", true)
  | 50 => ("PartedLandModel", "numbers", "I", false)
  | 51 => ("PartedLandModel", "waiting", "[I", true)
  | 52 => ("PartedLandModel", "found", "[I", true)
  | 53 => ("PartedLandModel", "ways", "[I", true)
  | 54 => ("PartedLandModel", "grounds", "[I", true)
  | 55 => ("PartedLandModel", "groundMany", "I", false)
  | 56 => ("PartedLandModel", "lastDay", "I", false)
  | 57 => ("PartedLandModel", "share", "I", false)
  | 58 => ("PartedLandModel", "goesWithLand", "I", false)
  | 59 => ("PartedLandModel", "stays", "I", false)
  | 60 => ("PartedLandModel", "hours", "I", false)
  | 61 => ("PartedLandModel", "root", "[I", true)
  | 62 => ("PartedLandModel", "groupOf", "[I", true)
  | 63 => ("PartedLandModel", "sums", "[I", true)
  | 64 => ("PartedLandModel", "groups", "I", false)
  | 65 => ("PartedLandModel", "mostTasks", "[I", true)
  | _ => ("PartedLandModel", "fewestDays", "[I", true)
def tyX11 : Nat → FieldType := fun k => match k with
  | 0 => .int
  | 1 => .int
  | 2 => .array .int
  | 3 => .array .int
  | 4 => .array .int
  | 5 => .int
  | 6 => .array .int
  | 7 => .array .int
  | 8 => .array .int
  | 9 => .array .boolean
  | 10 => .int
  | 11 => .array .int
  | 12 => .array .int
  | 13 => .array .int
  | 14 => .int
  | 15 => .array .int
  | 16 => .array .int
  | 17 => .array .int
  | 18 => .array .int
  | 19 => .array .int
  | 20 => .array .int
  | 21 => .array .int
  | 22 => .int
  | 23 => .array .int
  | 24 => .array .int
  | 25 => .int
  | 26 => .int
  | 27 => .array .int
  | 28 => .array .int
  | 29 => .array .int
  | 30 => .array .boolean
  | 31 => .int
  | 32 => .array .int
  | 33 => .array .int
  | 34 => .array .int
  | 35 => .int
  | 36 => .int
  | 37 => .int
  | 38 => .array .int
  | 39 => .array .int
  | 40 => .array .int
  | 41 => .array .int
  | 42 => .int
  | 43 => .array .int
  | 44 => .array .int
  | 45 => .array .int
  | 46 => .array .int
  | 47 => .int
  | 48 => .array .int
  | 49 => .array .int
  | 50 => .int
  | 51 => .array .int
  | 52 => .array .int
  | 53 => .array .int
  | 54 => .array .int
  | 55 => .int
  | 56 => .int
  | 57 => .int
  | 58 => .int
  | 59 => .int
  | 60 => .int
  | 61 => .array .int
  | 62 => .array .int
  | 63 => .array .int
  | 64 => .int
  | 65 => .array .int
  | _ => .array .int
theorem nmX11 : ∀ a, a < 67 → ∀ b, b < 67 → a ≠ b → (TX11 a).2.1 ≠ (TX11 b).2.1 := by decide +kernel
theorem tyX11_ok : ∀ k, k < 67 → parseFieldDescriptor (TX11 k).2.2.1 = some (tyX11 k) := by decide +kernel
abbrev am_cl : List vw_C := [(RX0, TX0, 5), (RX1, TX1, 8), (RX2, TX2, 7), (RX3, TX3, 14), (RX4, TX4, 10), (RX5, TX5, 8), (RX6, TX6, 7), (RX7, TX7, 9), (RX8, TX8, 5), (RX9, TX9, 4), (RX10, TX10, 13), (RX11, TX11, 67)]
def am_tbl : List Cond := lw_tbl.filter goodWord
def am_ty (ci : Nat) : Nat → FieldType := match ci with
  | 0 => tyX0
  | 1 => tyX1
  | 2 => tyX2
  | 3 => tyX3
  | 4 => tyX4
  | 5 => tyX5
  | 6 => tyX6
  | 7 => tyX7
  | 8 => tyX8
  | 9 => tyX9
  | 10 => tyX10
  | _ => tyX11
theorem am_inX0 : ((u_ws RX0 TX0 5).all (fun w => decide (w ∈ lw_tbl) && goodWord w)) = true := by decide +kernel
theorem am_inX1 : ((u_ws RX1 TX1 8).all (fun w => decide (w ∈ lw_tbl) && goodWord w)) = true := by decide +kernel
theorem am_inX2 : ((u_ws RX2 TX2 7).all (fun w => decide (w ∈ lw_tbl) && goodWord w)) = true := by decide +kernel
theorem am_inX3 : ((u_ws RX3 TX3 14).all (fun w => decide (w ∈ lw_tbl) && goodWord w)) = true := by decide +kernel
theorem am_inX4 : ((u_ws RX4 TX4 10).all (fun w => decide (w ∈ lw_tbl) && goodWord w)) = true := by decide +kernel
theorem am_inX5 : ((u_ws RX5 TX5 8).all (fun w => decide (w ∈ lw_tbl) && goodWord w)) = true := by decide +kernel
theorem am_inX6 : ((u_ws RX6 TX6 7).all (fun w => decide (w ∈ lw_tbl) && goodWord w)) = true := by decide +kernel
theorem am_inX7 : ((u_ws RX7 TX7 9).all (fun w => decide (w ∈ lw_tbl) && goodWord w)) = true := by decide +kernel
theorem am_inX8 : ((u_ws RX8 TX8 5).all (fun w => decide (w ∈ lw_tbl) && goodWord w)) = true := by decide +kernel
theorem am_inX9 : ((u_ws RX9 TX9 4).all (fun w => decide (w ∈ lw_tbl) && goodWord w)) = true := by decide +kernel
theorem am_inX10 : ((u_ws RX10 TX10 13).all (fun w => decide (w ∈ lw_tbl) && goodWord w)) = true := by decide +kernel
theorem am_inX11 : ((u_ws RX11 TX11 67).all (fun w => decide (w ∈ lw_tbl) && goodWord w)) = true := by decide +kernel
theorem am_in_of {ws : List Cond} (h : ws.all (fun w => decide (w ∈ lw_tbl) && goodWord w) = true) : ∀ w ∈ ws, w ∈ am_tbl := by
  intro w hw
  have h1 := List.all_eq_true.mp h w hw
  simp only [Bool.and_eq_true, decide_eq_true_eq] at h1
  exact List.mem_filter.mpr ⟨h1.1, h1.2⟩
theorem am_cl_ok : ∀ (ci : Nat) (C : String) (T : u_T) (N : Nat), am_cl[ci]? = some (C, T, N) → (∀ w ∈ u_ws C T N, w ∈ am_tbl) ∧ (∀ k, k < N → parseFieldDescriptor (T k).2.2.1 = some (am_ty ci k)) ∧ (∀ a, a < N → ∀ b, b < N → a ≠ b → (T a).2.1 ≠ (T b).2.1) := by
  intro ci C T N h
  match ci, h with
  | 0, h => cases h; exact ⟨am_in_of am_inX0, tyX0_ok, nmX0⟩
  | 1, h => cases h; exact ⟨am_in_of am_inX1, tyX1_ok, nmX1⟩
  | 2, h => cases h; exact ⟨am_in_of am_inX2, tyX2_ok, nmX2⟩
  | 3, h => cases h; exact ⟨am_in_of am_inX3, tyX3_ok, nmX3⟩
  | 4, h => cases h; exact ⟨am_in_of am_inX4, tyX4_ok, nmX4⟩
  | 5, h => cases h; exact ⟨am_in_of am_inX5, tyX5_ok, nmX5⟩
  | 6, h => cases h; exact ⟨am_in_of am_inX6, tyX6_ok, nmX6⟩
  | 7, h => cases h; exact ⟨am_in_of am_inX7, tyX7_ok, nmX7⟩
  | 8, h => cases h; exact ⟨am_in_of am_inX8, tyX8_ok, nmX8⟩
  | 9, h => cases h; exact ⟨am_in_of am_inX9, tyX9_ok, nmX9⟩
  | 10, h => cases h; exact ⟨am_in_of am_inX10, tyX10_ok, nmX10⟩
  | 11, h => cases h; exact ⟨am_in_of am_inX11, tyX11_ok, nmX11⟩
  | k + 12, h => simp [am_cl] at h
end
section
/-! ===== the abstract machine: a store of numbers over a fixed shape of cells; the methods' own instructions ===== -/
abbrev am_S : Type := Nat → Nat → Int32
/-- a cell: an object (its class's number; of each field: none an int, some r the cell r), an array of ints (0) or booleans (1) of a length, an array of cells -/
abbrev am_Sh : Type := (Nat × List (Option Nat)) ⊕ (Nat × Nat) ⊕ List Nat
abbrev am_X : Type := Nat → Option (Nat × (Nat → Int32))
/-- a method: name, bytes, locals, answer, parameters, class's number (none: static), instructions, field links (class, field; 0 an int, 1 a boolean, 2 never put), method links, constants, links of the static row (1) and of arraycopy (2) -/
abbrev am_M : Type := MethodName × ByteArray × Nat × Option FieldType × Nat × Option Nat × (Nat → Option (Instr × Nat)) × (Nat → Option (Nat × Nat × Nat)) × (Nat → Option Nat) × (Nat → Option Int32) × (Nat → Nat)
abbrev am_y (M : am_M) : MethodName := M.1
abbrev am_by (M : am_M) : ByteArray := M.2.1
abbrev am_ml (M : am_M) : Nat := M.2.2.1
abbrev am_rt (M : am_M) : Option FieldType := M.2.2.2.1
abbrev am_np (M : am_M) : Nat := M.2.2.2.2.1
abbrev am_ci (M : am_M) : Option Nat := M.2.2.2.2.2.1
abbrev am_co (M : am_M) : Nat → Option (Instr × Nat) := M.2.2.2.2.2.2.1
abbrev am_lf (M : am_M) : Nat → Option (Nat × Nat × Nat) := M.2.2.2.2.2.2.2.1
abbrev am_lm (M : am_M) : Nat → Option Nat := M.2.2.2.2.2.2.2.2.1
abbrev am_lc (M : am_M) : Nat → Option Int32 := M.2.2.2.2.2.2.2.2.2.1
abbrev am_lx (M : am_M) : Nat → Nat := M.2.2.2.2.2.2.2.2.2.2
abbrev am_R : Type := (Nat × List Value × List Value × am_S) ⊕ Option Value ⊕ (Nat × List Value × List Value)
def am_cb (c : ClassFile.Cond) (x y : Int32) : Bool := match c with
  | .eq => decide (x = y)
  | .ne => decide (¬ x = y)
  | .lt => decide (x < y)
  | .ge => decide (y ≤ x)
  | .gt => decide (y < x)
  | .le => decide (x ≤ y)
def am_in (i : Int32) (n : Nat) : Bool := decide (¬ i < 0) && decide (i.toNatClampNeg < n)
def am_bo (v : Int32) : Bool := decide (v = 0) || decide (v = 1)
def am_set (σ : am_S) (c : Nat) (f : Nat → Int32) : am_S := fun c' => if c' = c then f else σ c'
def am_up (σ : am_S) (c k : Nat) (v : Int32) : am_S := am_set σ c (upd (σ c) k v)
def am_tg (pc : Nat) (off : Int) : Nat := ((pc : Int) + off).toNat
def am_nx (pc : Nat) (L S : List Value) (σ : am_S) : Option am_R := some (.inl (pc, L, S, σ))
def am_len (sh : List am_Sh) (ex : am_X) (c : Nat) : Option Nat := match sh[c]? with
  | some (.inr (.inl q)) => if q.1 = 0 then some q.2 else none
  | some (.inr (.inr rs)) => some rs.length
  | some (.inl _) => none
  | none => match ex c with
    | some q => some q.1
    | none => none
def am_ild (sh : List am_Sh) (ex : am_X) (σ : am_S) (c : Nat) (i : Int32) : Option Int32 := match sh[c]? with
  | some (.inr (.inl q)) => if q.1 = 0 ∧ am_in i q.2 = true then some (σ c i.toNatClampNeg) else none
  | some (.inr (.inr _)) => none
  | some (.inl _) => none
  | none => match ex c with
    | some q => if am_in i q.1 = true then some (q.2 i.toNatClampNeg) else none
    | none => none
def am_bld (sh : List am_Sh) (σ : am_S) (c : Nat) (i : Int32) : Option Int32 := match sh[c]? with
  | some (.inr (.inl q)) => if q.1 = 1 ∧ am_in i q.2 = true then some (σ c i.toNatClampNeg) else none
  | _ => none
def am_ald (sh : List am_Sh) (c : Nat) (i : Int32) : Option Nat := match sh[c]? with
  | some (.inr (.inr rs)) => if am_in i rs.length = true then rs[i.toNatClampNeg]? else none
  | _ => none
def am_can (sh : List am_Sh) (ty c : Nat) (i : Int32) : Bool := match sh[c]? with
  | some (.inr (.inl q)) => decide (q.1 = ty) && am_in i q.2
  | _ => false
def am_gf (sh : List am_Sh) (σ : am_S) (c ci k : Nat) : Option Value := match sh[c]? with
  | some (.inl q) => if q.1 = ci then (match q.2[k]? with
    | some none => some (.int (σ c k))
    | some (some r) => some (.ref r)
    | none => none) else none
  | _ => none
def am_cpf (sh : List am_Sh) (c ci k : Nat) : Bool := match sh[c]? with
  | some (.inl q) => decide (q.1 = ci) && decide (q.2[k]? = some none)
  | _ => false
def am_cls (sh : List am_Sh) (c : Nat) : Option Nat := match sh[c]? with
  | some (.inl q) => some q.1
  | _ => none
def am_cpy (sh : List am_Sh) (c0 c1 : Nat) (sp dp n : Int32) : Bool := match sh[c0]?, sh[c1]? with
  | some (.inr (.inl q0)), some (.inr (.inl q1)) => decide (q0.1 = 0) && decide (q1.1 = 0) && decide (¬ sp < 0) && decide (¬ dp < 0) && decide (¬ n < 0) && decide (sp.toNatClampNeg + n.toNatClampNeg ≤ q0.2) && decide (dp.toNatClampNeg + n.toNatClampNeg ≤ q1.2)
  | _, _ => false
/-- what one instruction does -/
def am_ex (P : Nat → Option am_M) (sh : List am_Sh) (ex : am_X) (d : Nat) (M : am_M) (pc : Nat) (i : Instr) (L S : List Value) (σ : am_S) : Option am_R := match i with
  | .aload_n k => match L[k.val]? with
    | some (.ref a) => am_nx (pc + 1) L (.ref a :: S) σ
    | _ => none
  | .aload k => match L[k]? with
    | some (.ref a) => am_nx (pc + 2) L (.ref a :: S) σ
    | _ => none
  | .iload_n k => match L[k.val]? with
    | some (.int a) => am_nx (pc + 1) L (.int a :: S) σ
    | _ => none
  | .iload k => match L[k]? with
    | some (.int a) => am_nx (pc + 2) L (.int a :: S) σ
    | _ => none
  | .istore_n k => match S with
    | .int x :: S => if k.val < L.length then am_nx (pc + 1) (L.set k.val (.int x)) S σ else none
    | _ => none
  | .istore k => match S with
    | .int x :: S => if k < L.length then am_nx (pc + 2) (L.set k (.int x)) S σ else none
    | _ => none
  | .astore_n k => match S with
    | .ref x :: S => if k.val < L.length then am_nx (pc + 1) (L.set k.val (.ref x)) S σ else none
    | _ => none
  | .iinc k n => match L[k]? with
    | some (.int a) => am_nx (pc + 3) (L.set k (.int (a + Int32.ofInt n))) S σ
    | _ => none
  | .iconst n => am_nx (pc + 1) L (.int (Int32.ofInt n) :: S) σ
  | .bipush n => am_nx (pc + 2) L (.int (Int8.ofInt n).toInt32 :: S) σ
  | .sipush n => am_nx (pc + 3) L (.int (Int16.ofInt n).toInt32 :: S) σ
  | .ldc k => match am_lc M k with
    | some v => am_nx (pc + 2) L (.int v :: S) σ
    | none => none
  | .ldc_w k => match am_lc M k with
    | some v => am_nx (pc + 3) L (.int v :: S) σ
    | none => none
  | .getfield k => match S with
    | .ref c :: S => match am_lf M k with
      | some q => match am_gf sh σ c q.1 q.2.1 with
        | some v => am_nx (pc + 3) L (v :: S) σ
        | none => none
      | none => none
    | _ => none
  | .putfield k => match S with
    | .int v :: .ref c :: S => match am_lf M k with
      | some q => if am_cpf sh c q.1 q.2.1 = true ∧ q.2.2 ≤ 1 ∧ (q.2.2 = 1 → am_bo v = true) then am_nx (pc + 3) L S (am_up σ c q.2.1 v) else none
      | none => none
    | _ => none
  | .getstatic k => if am_lx M k = 1 then am_nx (pc + 3) L (.ref 1000 :: S) σ else none
  | .iaload => match S with
    | .int i :: .ref c :: S => match am_ild sh ex σ c i with
      | some v => am_nx (pc + 1) L (.int v :: S) σ
      | none => none
    | _ => none
  | .baload => match S with
    | .int i :: .ref c :: S => match am_bld sh σ c i with
      | some v => am_nx (pc + 1) L (.int v :: S) σ
      | none => none
    | _ => none
  | .aaload => match S with
    | .int i :: .ref c :: S => match am_ald sh c i with
      | some v => am_nx (pc + 1) L (.ref v :: S) σ
      | none => none
    | _ => none
  | .iastore => match S with
    | .int x :: .int i :: .ref c :: S => if am_can sh 0 c i = true then am_nx (pc + 1) L S (am_up σ c i.toNatClampNeg x) else none
    | _ => none
  | .bastore => match S with
    | .int x :: .int i :: .ref c :: S => if am_can sh 1 c i = true ∧ am_bo x = true then am_nx (pc + 1) L S (am_up σ c i.toNatClampNeg x) else none
    | _ => none
  | .arraylength => match S with
    | .ref c :: S => match am_len sh ex c with
      | some n => am_nx (pc + 1) L (.int (Int32.ofNat n) :: S) σ
      | none => none
    | _ => none
  | .iadd => match S with
    | .int y :: .int x :: S => am_nx (pc + 1) L (.int (x + y) :: S) σ
    | _ => none
  | .isub => match S with
    | .int y :: .int x :: S => am_nx (pc + 1) L (.int (x - y) :: S) σ
    | _ => none
  | .imul => match S with
    | .int y :: .int x :: S => am_nx (pc + 1) L (.int (x * y) :: S) σ
    | _ => none
  | .idiv => match S with
    | .int y :: .int x :: S => if y = 0 then none else am_nx (pc + 1) L (.int (x / y) :: S) σ
    | _ => none
  | .irem => match S with
    | .int y :: .int x :: S => if y = 0 then none else am_nx (pc + 1) L (.int (x - x / y * y) :: S) σ
    | _ => none
  | .ineg => match S with
    | .int x :: S => am_nx (pc + 1) L (.int (-x) :: S) σ
    | _ => none
  | .iand => match S with
    | .int y :: .int x :: S => am_nx (pc + 1) L (.int (x &&& y) :: S) σ
    | _ => none
  | .ior => match S with
    | .int y :: .int x :: S => am_nx (pc + 1) L (.int (x ||| y) :: S) σ
    | _ => none
  | .ixor => match S with
    | .int y :: .int x :: S => am_nx (pc + 1) L (.int (x ^^^ y) :: S) σ
    | _ => none
  | .ishl => match S with
    | .int y :: .int x :: S => am_nx (pc + 1) L (.int (x <<< (y &&& 31)) :: S) σ
    | _ => none
  | .ishr => match S with
    | .int y :: .int x :: S => am_nx (pc + 1) L (.int (x >>> (y &&& 31)) :: S) σ
    | _ => none
  | .iushr => match S with
    | .int y :: .int x :: S => am_nx (pc + 1) L (.int (x.toUInt32 >>> (y.toUInt32 &&& Int32.toUInt32 31)).toInt32 :: S) σ
    | _ => none
  | .dup => match S with
    | v :: S => am_nx (pc + 1) L (v :: v :: S) σ
    | _ => none
  | .dup2 => match S with
    | v :: w :: S => am_nx (pc + 1) L (v :: w :: v :: w :: S) σ
    | _ => none
  | .goto off => if 0 ≤ (pc : Int) + off then am_nx (am_tg pc off) L S σ else none
  | .ifCond cd off => match S with
    | .int x :: S => if 0 ≤ (pc : Int) + off then am_nx (if am_cb cd x 0 = true then am_tg pc off else pc + 3) L S σ else none
    | _ => none
  | .if_icmp cd off => match S with
    | .int y :: .int x :: S => if 0 ≤ (pc : Int) + off then am_nx (if am_cb cd x y = true then am_tg pc off else pc + 3) L S σ else none
    | _ => none
  | .tableswitch df lo hi os => match S with
    | .int x :: S => if x.toInt < lo ∨ hi < x.toInt then (if 0 ≤ (pc : Int) + df then am_nx (am_tg pc df) L S σ else none) else (match os[(x.toInt - lo).toNat]? with
      | some off => if 0 ≤ (pc : Int) + off then am_nx (am_tg pc off) L S σ else none
      | none => none)
    | _ => none
  | .lookupswitch df ps => match S with
    | .int x :: S => if (ps.toList.zip (ps.toList.drop 1)).all (fun (a, next) => a.1 < next.1) = true ∧ 0 ≤ (pc : Int) + Op.lookupswitch.offset ps.toList df x.toInt then am_nx (am_tg pc (Op.lookupswitch.offset ps.toList df x.toInt)) L S σ else none
    | _ => none
  | .ireturn => match S with
    | [.int x] => match am_rt M with
      | some .int => some (.inr (.inl (some (.int x))))
      | some .boolean => if am_bo x = true then some (.inr (.inl (some (.int x)))) else none
      | _ => none
    | _ => none
  | .areturn => match S with
    | [.ref x] => match am_rt M with
      | some (.object _) => some (.inr (.inl (some (.ref x))))
      | _ => none
    | _ => none
  | .return_ => match S with
    | [] => match am_rt M with
      | none => some (.inr (.inl none))
      | _ => none
    | _ => none
  | .invokevirtual k => match am_lm M k with
    | some mi => match P mi with
      | some M' => match am_ci M' with
        | some ci => match S.drop (am_np M') with
          | .ref c :: rest => if (S.take (am_np M')).length = am_np M' ∧ am_cls sh c = some ci ∧ rest.length ≤ 8 then some (.inr (.inr (mi, .ref c :: (S.take (am_np M')).reverse, rest))) else none
          | _ => none
        | none => none
      | none => none
    | none => none
  | .invokestatic k => if am_lx M k = 2 then (match S with
      | .int n :: .int dp :: .ref c1 :: .int sp :: .ref c0 :: S => if am_cpy sh c0 c1 sp dp n = true ∧ S.length ≤ 8 ∧ 1 ≤ d then am_nx (pc + 3) L S (am_set σ c1 (va_cpy (σ c0) (σ c1) sp.toNatClampNeg dp.toNatClampNeg n.toNatClampNeg)) else none
      | _ => none)
    else match am_lm M k with
    | some mi => match P mi with
      | some M' => match am_ci M' with
        | none => if (S.take (am_np M')).length = am_np M' ∧ (S.drop (am_np M')).length ≤ 8 then some (.inr (.inr (mi, (S.take (am_np M')).reverse, S.drop (am_np M')))) else none
        | some _ => none
      | none => none
    | none => none
  | _ => none
def am_step (P : Nat → Option am_M) (sh : List am_Sh) (ex : am_X) (d : Nat) (M : am_M) (pc : Nat) (L S : List Value) (σ : am_S) : Option am_R := match am_co M pc with
  | some q => am_ex P sh ex d M pc q.1 L S σ
  | none => none
def am_pad (n : Nat) (args : List Value) : List Value := args ++ List.replicate (n - args.length) .null
def am_run (P : Nat → Option am_M) (sh : List am_Sh) (ex : am_X) : Nat → Nat → am_M → Nat → List Value → List Value → am_S → Option (Option Value × am_S)
  | 0, _, _, _, _, _, _ => none
  | n + 1, d, M, pc, L, S, σ => match am_step P sh ex d M pc L S σ with
    | some (.inl (pc', L', S', σ')) => am_run P sh ex n d M pc' L' S' σ'
    | some (.inr (.inl v)) => some (v, σ)
    | some (.inr (.inr (mi, args, rest))) => match d with
      | 0 => none
      | d' + 1 => match P mi with
        | none => none
        | some M' => if args.length ≤ am_ml M' then (match am_run P sh ex n d' M' 0 (am_pad (am_ml M') args) [] σ with
          | some (v, σ') => am_run P sh ex n d M (pc + 3) L (v.toList ++ rest) σ'
          | none => none) else none
    | none => none
end
section
/-! ===== what the abstract machine does, the machine does ===== -/
def am_v (adr : Nat → Nat) : Value → Value
  | .int x => .int x
  | .ref a => .ref (adr a)
  | _ => .null
theorem am_v_cat (adr : Nat → Nat) (v : Value) : (am_v adr v).category = 1 := by cases v <;> rfl
theorem am_cat_sum (adr : Nat → Nat) (S : List Value) : ((S.map (am_v adr)).map (fun v => v.category)).sum = S.length := by
  induction S with
  | nil => rfl
  | cons v S ih => simp only [List.map_cons, List.sum_cons, am_v_cat, ih, List.length_cons]; omega
def am_fv (adr : Nat → Nat) (σ : am_S) (c k : Nat) (f : Option Nat) : Value := match f with
  | none => .int (σ c k)
  | some r => .ref (adr r)
def am_fs (adr : Nat → Nat) (σ : am_S) (c : Nat) (fl : List (Option Nat)) : List Value := fl.mapIdx (fun k f => am_fv adr σ c k f)
def am_cell (aC : Nat → ClassId) (adr : Nat → Nat) (σ : am_S) (c : Nat) (x : am_Sh) : va_E := match x with
  | .inl q => .inr (q.1, am_fs adr σ c q.2)
  | .inr (.inl q) => .inl (aC q.1, q.2, .inl (σ c))
  | .inr (.inr rs) => .inl (aC 2, rs.length, .inr (.inr (.inr (.inr (fun k => (rs[k]?).map adr)))))
def am_W (aC : Nat → ClassId) (adr : Nat → Nat) (sh : List am_Sh) (σ : am_S) : va_W := sh.mapIdx (fun c x => (adr c, am_cell aC adr σ c x))
def am_tys (aC : Nat → ClassId) : List (ClassId × FieldType) := [(aC 0, .int), (aC 1, .boolean), (aC 2, .array .int)]
def am_A (adr : Nat → Nat) (sh : List am_Sh) : Nat → Prop := fun q => ∃ c, c < sh.length ∧ adr c = q
theorem am_W_at {aC : Nat → ClassId} {adr : Nat → Nat} {sh : List am_Sh} {σ : am_S} {c : Nat} {x : am_Sh} (h : sh[c]? = some x) : (am_W aC adr sh σ)[c]? = some (adr c, am_cell aC adr σ c x) := by
  simp [am_W, List.getElem?_mapIdx, h]
theorem am_W_get {aC : Nat → ClassId} {adr : Nat → Nat} {sh : List am_Sh} {σ : am_S} {c : Nat} {q : Nat × va_E} (h : (am_W aC adr sh σ)[c]? = some q) : c < sh.length ∧ q.1 = adr c := by
  simp only [am_W, List.getElem?_mapIdx, Option.map_eq_some_iff] at h
  obtain ⟨x, hx, rfl⟩ := h
  exact ⟨(List.getElem?_eq_some_iff.mp hx).1, rfl⟩
theorem am_D {aC : Nat → ClassId} {adr : Nat → Nat} {sh : List am_Sh} (hi : ∀ i j, i < sh.length → j < sh.length → adr i = adr j → i = j) (σ : am_S) : va_D (am_A adr sh) (am_W aC adr sh σ) := by
  refine ⟨fun i j p q h1 h2 e => ?_, fun k q h => ?_⟩
  · obtain ⟨a1, b1⟩ := am_W_get h1
    obtain ⟨a2, b2⟩ := am_W_get h2
    exact hi i j a1 a2 (by rw [← b1, ← b2]; exact e)
  · obtain ⟨a1, b1⟩ := am_W_get h
    exact ⟨k, a1, b1.symm⟩
theorem am_set_eq (σ : am_S) (c : Nat) (f : Nat → Int32) : am_set σ c f c = f := if_pos rfl
theorem am_set_ne (σ : am_S) {c c' : Nat} (f : Nat → Int32) (h : c' ≠ c) : am_set σ c f c' = σ c' := if_neg h
theorem am_cell_ne {aC : Nat → ClassId} {adr : Nat → Nat} {σ : am_S} {c c' : Nat} {f : Nat → Int32} (h : c' ≠ c) (x : am_Sh) : am_cell aC adr (am_set σ c f) c' x = am_cell aC adr σ c' x := by
  unfold am_cell am_fs am_fv
  rw [am_set_ne σ f h]
theorem am_W_set {aC : Nat → ClassId} {adr : Nat → Nat} {sh : List am_Sh} {σ : am_S} {c : Nat} {q : Nat × Nat} (h : sh[c]? = some (.inr (.inl q))) (f : Nat → Int32) : (am_W aC adr sh σ).set c (adr c, .inl (aC q.1, q.2, .inl f)) = am_W aC adr sh (am_set σ c f) := by
  apply List.ext_getElem?
  intro i
  have hl : c < (am_W aC adr sh σ).length := (List.getElem?_eq_some_iff.mp (am_W_at (σ := σ) (aC := aC) (adr := adr) h)).1
  by_cases e : i = c
  · subst e
    rw [List.getElem?_set_self hl, am_W_at h]
    show _ = some (adr i, am_cell aC adr (am_set σ i f) i (.inr (.inl q)))
    unfold am_cell
    rw [am_set_eq]
  · rw [List.getElem?_set_ne (Ne.symm e)]
    simp only [am_W, List.getElem?_mapIdx]
    cases sh[i]? with
    | none => rfl
    | some x => simp only [Option.map_some]; rw [am_cell_ne e]
theorem am_fs_at {adr : Nat → Nat} {σ : am_S} {c : Nat} {fl : List (Option Nat)} {k : Nat} {f : Option Nat} (h : fl[k]? = some f) : (am_fs adr σ c fl)[k]? = some (am_fv adr σ c k f) := by
  simp only [am_fs, List.getElem?_mapIdx, h, Option.map_some]
theorem am_fs_len {adr : Nat → Nat} {σ : am_S} {c : Nat} {fl : List (Option Nat)} : (am_fs adr σ c fl).length = fl.length := by
  simp [am_fs]
theorem am_fs_set {adr : Nat → Nat} {σ : am_S} {c : Nat} {fl : List (Option Nat)} {k : Nat} {v : Int32} (h : fl[k]? = some none) : (am_fs adr σ c fl).set k (.int v) = am_fs adr (am_up σ c k v) c fl := by
  apply List.ext_getElem?
  intro i
  have hl : k < (am_fs adr σ c fl).length := by rw [am_fs_len]; exact (List.getElem?_eq_some_iff.mp h).1
  by_cases e : i = k
  · subst e
    rw [List.getElem?_set_self hl, am_fs_at h]
    simp only [am_fv, am_up, am_set_eq, upd, if_true]
  · rw [List.getElem?_set_ne (Ne.symm e)]
    simp only [am_fs, List.getElem?_mapIdx]
    cases fl[i]? with
    | none => rfl
    | some x =>
      simp only [Option.map_some]
      cases x with
      | none => simp only [am_fv, am_up, am_set_eq, upd, if_neg e]
      | some r => rfl
theorem am_W_setf {aC : Nat → ClassId} {adr : Nat → Nat} {sh : List am_Sh} {σ : am_S} {c : Nat} {q : Nat × List (Option Nat)} {k : Nat} {v : Int32} (h : sh[c]? = some (.inl q)) (hk : q.2[k]? = some none) : (am_W aC adr sh σ).set c (adr c, .inr (q.1, (am_fs adr σ c q.2).set k (.int v))) = am_W aC adr sh (am_up σ c k v) := by
  apply List.ext_getElem?
  intro i
  have hl : c < (am_W aC adr sh σ).length := (List.getElem?_eq_some_iff.mp (am_W_at (σ := σ) (aC := aC) (adr := adr) h)).1
  by_cases e : i = c
  · subst e
    rw [List.getElem?_set_self hl, am_W_at h]
    show _ = some (adr i, am_cell aC adr (am_up σ i k v) i (.inl q))
    unfold am_cell
    rw [am_fs_set hk]
  · rw [List.getElem?_set_ne (Ne.symm e)]
    simp only [am_W, List.getElem?_mapIdx]
    cases sh[i]? with
    | none => rfl
    | some x => simp only [Option.map_some]; unfold am_up; rw [am_cell_ne e]
/-! locals -/
def am_lv (adr : Nat → Nat) : Nat → List Value → List (Nat × Value)
  | _, [] => []
  | k, .int x :: L => (k, .int x) :: am_lv adr (k + 1) L
  | k, .ref a :: L => (k, .ref (adr a)) :: am_lv adr (k + 1) L
  | k, _ :: L => am_lv adr (k + 1) L
theorem am_lv_int {adr : Nat → Nat} : ∀ {L : List Value} {i k : Nat} {x : Int32}, L[i]? = some (.int x) → (k + i, Value.int x) ∈ am_lv adr k L
  | [], i, k, x, h => by simp at h
  | v :: L, 0, k, x, h => by
    simp only [List.getElem?_cons_zero, Option.some.injEq] at h
    subst h
    exact List.mem_cons_self
  | v :: L, i + 1, k, x, h => by
    rw [List.getElem?_cons_succ] at h
    have h1 := am_lv_int (adr := adr) (k := k + 1) h
    rw [show k + 1 + i = k + (i + 1) by omega] at h1
    cases v <;> first | exact List.mem_cons_of_mem _ h1 | exact h1
theorem am_lv_ref {adr : Nat → Nat} : ∀ {L : List Value} {i k : Nat} {a : Nat}, L[i]? = some (.ref a) → (k + i, Value.ref (adr a)) ∈ am_lv adr k L
  | [], i, k, x, h => by simp at h
  | v :: L, 0, k, x, h => by
    simp only [List.getElem?_cons_zero, Option.some.injEq] at h
    subst h
    exact List.mem_cons_self
  | v :: L, i + 1, k, x, h => by
    rw [List.getElem?_cons_succ] at h
    have h1 := am_lv_ref (adr := adr) (k := k + 1) h
    rw [show k + 1 + i = k + (i + 1) by omega] at h1
    cases v <;> first | exact List.mem_cons_of_mem _ h1 | exact h1
theorem am_lv_mem {adr : Nat → Nat} : ∀ {L : List Value} {k : Nat} {q : Nat × Value}, q ∈ am_lv adr k L → ∃ (i : Nat) (v : Value), q.1 = k + i ∧ L[i]? = some v ∧ q.2 = am_v adr v ∧ (∃ x, v = .int x ∨ ∃ a, v = .ref a)
  | [], k, q, h => by cases h
  | v :: L, k, q, h => by
    have tail : q ∈ am_lv adr (k + 1) L → ∃ (i : Nat) (w : Value), q.1 = k + i ∧ (v :: L)[i]? = some w ∧ q.2 = am_v adr w ∧ (∃ x, w = .int x ∨ ∃ a, w = .ref a) := fun h => by
      obtain ⟨i, w, h1, h2, h3, h4⟩ := am_lv_mem h
      exact ⟨i + 1, w, by omega, by rw [List.getElem?_cons_succ]; exact h2, h3, h4⟩
    cases v with
    | int x =>
      rcases List.mem_cons.mp h with e | e
      · subst e
        exact ⟨0, .int x, rfl, rfl, rfl, x, Or.inl rfl⟩
      · exact tail e
    | ref a =>
      rcases List.mem_cons.mp h with e | e
      · subst e
        exact ⟨0, .ref a, rfl, rfl, rfl, 0, Or.inr ⟨a, rfl⟩⟩
      · exact tail e
    | null => exact tail h
    | long _ => exact tail h
    | float _ => exact tail h
    | double _ => exact tail h
    | retAddr _ => exact tail h
theorem am_has_set {adr : Nat → Nat} {ls : Array Slot} {nL : Nat} {L : List Value} {i : Nat} {v : Value} (hv : (∃ x, v = .int x) ∨ ∃ a, v = .ref a) (h : lv_has ls nL ((i, am_v adr v) :: (am_lv adr 0 L).filter (fun q => !(q.1 == i) && !(q.1 + 1 == i && q.2.category == 2)))) : lv_has ls nL (am_lv adr 0 (L.set i v)) := by
  refine ⟨h.1, h.2.1, fun q hq => ?_⟩
  obtain ⟨j, w, h1, h2, h3, h4⟩ := am_lv_mem hq
  rw [Nat.zero_add] at h1
  by_cases e : j = i
  · subst e
    have hl : j < L.length := by
      have := (List.getElem?_eq_some_iff.mp h2).1
      rw [List.length_set] at this
      exact this
    rw [List.getElem?_set_self hl] at h2
    cases h2
    have hq' : q = (j, am_v adr v) := by rw [← h1, ← h3]
    rw [hq']
    exact h.2.2 _ List.mem_cons_self
  · rw [List.getElem?_set_ne (Ne.symm e)] at h2
    refine h.2.2 q (List.mem_cons_of_mem _ (List.mem_filter.mpr ⟨?_, ?_⟩))
    · have hq' : q = (j, am_v adr w) := by rw [← h1, ← h3]
      rw [hq']
      obtain ⟨x, hx | ⟨a, ha⟩⟩ := h4
      · subst hx
        have := am_lv_int (adr := adr) (k := 0) h2
        rw [Nat.zero_add] at this
        exact this
      · subst ha
        have := am_lv_ref (adr := adr) (k := 0) h2
        rw [Nat.zero_add] at this
        exact this
    · rw [h1, h3]
      have hc := am_v_cat adr w
      simp [hc, e]
theorem am_at_int {adr : Nat → Nat} {ls : Array Slot} {nL : Nat} {L : List Value} {i : Nat} {x : Int32} (h : lv_has ls nL (am_lv adr 0 L)) (hi : L[i]? = some (.int x)) : ls[i]? = some (.val (.int x)) := by
  have := am_lv_int (adr := adr) (k := 0) hi
  rw [Nat.zero_add] at this
  exact h.2.2 _ this
theorem am_at_ref {adr : Nat → Nat} {ls : Array Slot} {nL : Nat} {L : List Value} {i : Nat} {a : Nat} (h : lv_has ls nL (am_lv adr 0 L)) (hi : L[i]? = some (.ref a)) : ls[i]? = some (.val (.ref (adr a))) := by
  have := am_lv_ref (adr := adr) (k := 0) hi
  rw [Nat.zero_add] at this
  exact h.2.2 _ this
/-! what holds around a method of the tables -/
def am_il : Instr → Nat
  | .aload_n _ => 1
  | .aload _ => 2
  | .iload_n _ => 1
  | .iload _ => 2
  | .istore_n _ => 1
  | .istore _ => 2
  | .astore_n _ => 1
  | .iinc _ _ => 3
  | .iconst _ => 1
  | .bipush _ => 2
  | .sipush _ => 3
  | .ldc _ => 2
  | .ldc_w _ => 3
  | .getfield _ => 3
  | .putfield _ => 3
  | .getstatic _ => 3
  | .goto _ => 3
  | .ifCond _ _ => 3
  | .if_icmp _ _ => 3
  | .invokevirtual _ => 3
  | .invokestatic _ => 3
  | .tableswitch _ _ _ _ => 0
  | .lookupswitch _ _ => 0
  | _ => 1
def am_okm (P : Nat → Option am_M) (M : am_M) (k mi : Nat) : Prop := ∃ M', P mi = some M' ∧ Cond.methodLink (am_y M).cls k (am_y M') ∈ am_tbl ∧ Cond.initialized (am_y M').cls ∈ am_tbl ∧ ((∃ (ci : Nat) (T : u_T) (N : Nat), am_ci M' = some ci ∧ am_cl[ci]? = some ((am_y M').cls, T, N) ∧ Cond.instanceMethod (am_y M') ∈ am_tbl ∧ Cond.selects (am_y M').cls (am_y M') (am_y M') ∈ am_tbl) ∨ (am_ci M' = none ∧ Cond.static (am_y M') ∈ am_tbl))
def am_okf (M : am_M) (k : Nat) (q : Nat × Nat × Nat) : Prop := ∃ (C : String) (T : u_T) (N : Nat), am_cl[q.1]? = some (C, T, N) ∧ q.2.1 < N ∧ Cond.fieldLink (am_y M).cls k (T q.2.1).1 (T q.2.1).2.1 (T q.2.1).2.2.1 ∈ am_tbl ∧ (q.2.2 = 0 → (T q.2.1).2.2.2 = false ∧ am_ty q.1 q.2.1 = .int) ∧ (q.2.2 = 1 → (T q.2.1).2.2.2 = false ∧ am_ty q.1 q.2.1 = .boolean)
def am_ok (P : Nat → Option am_M) (M : am_M) : Prop :=
  (plainName (am_y M).cls = true ∧ Cond.code (am_y M) (am_by M) (am_ml M) (am_rt M) ∈ am_tbl ∧ am_ml M ≤ 21 ∧ ((am_y M).cls ≠ "java/lang/invoke/MethodHandle" ∧ (am_y M).cls ≠ "java/lang/invoke/VarHandle" ∧ (parseMethodDescriptor (am_y M).desc).map (fun d => d.parameters.length) = some (am_np M))) ∧
  (∀ (pc : Nat) (q : Instr × Nat), am_co M pc = some q → decode (am_by M) pc = .ok q ∧ (am_il q.1 = 0 ∨ q.2 = am_il q.1)) ∧
  (∀ (k : Nat) (q : Nat × Nat × Nat), am_lf M k = some q → am_okf M k q) ∧
  (∀ k mi : Nat, am_lm M k = some mi → am_okm P M k mi) ∧
  (∀ (k : Nat) (v : Int32), am_lc M k = some v → Cond.constant (am_y M).cls k v ∈ am_tbl) ∧
  (∀ k : Nat, (am_lx M k = 1 → Cond.fieldLink (am_y M).cls k "PartedLand$Estate" "ABOVE" "[I" ∈ am_tbl) ∧ (am_lx M k = 2 → Cond.methodLink (am_y M).cls k arraycopyName ∈ am_tbl))
def am_EX (ex : am_X) (adr : Nat → Nat) (A : Nat → Prop) (U : State) (H : Heap) : Prop := (∀ (k : Nat) (q : Nat × (Nat → Int32)), ex k = some q → va_T .int (adr k) q.1 (fun j => .int (q.2 j)) A U H) ∧ va_Z "PartedLand$Estate" "ABOVE" "[I" (.ref (adr 1000)) A U H
def am_Cx (p : Program) (s : State) (m : MethodId) (args : Array Value) (c : Code) (M : am_M) (sh : List am_Sh) (ex : am_X) (aC : Nat → ClassId) (adr : Nat → Nat) (D : va_G) : Prop :=
  p.tables.exec = Jvm.exec ∧ c.code = am_by M ∧ c.maxLocals = am_ml M ∧ s.vm.findClass (am_y M).cls = some m.cls ∧ (∀ w ∈ am_tbl, w.before args s = true) ∧ va_K D am_cl (am_tys aC) s ∧ am_EX ex adr (am_A adr sh) s s.heap ∧ (∀ i j, i < sh.length → j < sh.length → adr i = adr j → i = j)
theorem am_arr : Cond.native arraycopyName ∈ am_tbl ∧ Cond.static arraycopyName ∈ am_tbl ∧ Cond.initialized "java/lang/System" ∈ am_tbl := by
  refine ⟨List.mem_filter.mpr ⟨?_, ?_⟩, List.mem_filter.mpr ⟨?_, ?_⟩, List.mem_filter.mpr ⟨?_, ?_⟩⟩ <;> decide +kernel
theorem am_bo_iff {v : Int32} : am_bo v = true ↔ v = 0 ∨ v = 1 := by
  simp [am_bo]
theorem am_bo_nar {v : Int32} (h : am_bo v = true) : narrow .boolean (.int v) = .int v ∧ fits .boolean (.int v) = true ∧ vp_nar .boolean v = v := by
  rcases am_bo_iff.mp h with rfl | rfl <;> decide +kernel
theorem am_in_vp {i : Int32} {n : Nat} (h : am_in i n = true) : vp_in i n := by
  simp only [am_in, Bool.and_eq_true, decide_eq_true_eq] at h
  rintro (q | q)
  · exact h.1 q
  · omega
theorem am_tg_eq {pc : Nat} {off : Int} (h : 0 ≤ (pc : Int) + off) : (pc : Int) + off = (am_tg pc off : Int) := by
  unfold am_tg
  omega
section AMN
variable {p : Program} {l : Launch} {e : Env} {R : Room} {s : State} {m : MethodId} {args : Array Value} {below : List Frame} {meth : Method} {c : Code} {H : Heap} {locs : List Loc} {cells slots : Nat} {Q : State → Prop}
variable {cc : ByteArray} {pc : Nat} {ls : Array Slot} {rest : List Value} {D : va_G} {cl : List vw_C} {A : Nat → Prop} {a : Nat} {tys : List (ClassId × FieldType)} {ws : va_W} {H0 : Heap}
theorem am_aald (hexec : p.tables.exec = Jvm.exec) (hb : c.code = cc) (hK : va_K D cl tys s) (hP : va_P D cl ws H) (q0 t0 : Nat) {cA : ClassId} {ty : FieldType} {n : Nat} {f : Nat → Option Nat} (ha : ws[q0]? = some (a, .inl (cA, n, .inr (.inr (.inr (.inr f)))))) (ht : tys[t0]? = some (cA, .array ty)) {i : Int32} (hin : vp_in i n) (hdg : decode cc pc = .ok (.aaload, 1))
    (kk : W p l e R s m args below meth c H locs cells slots Q (F0 m (pc + 1) ls (va_rf (f i.toNatClampNeg) :: rest))) : W p l e R s m args below meth c H locs cells slots Q (F0 m pc ls (.int i :: .ref a :: rest)) := by
  have hlt : i.toNatClampNeg < n := Nat.not_le.mp fun q => hin (Or.inr q)
  exact W.aald (v := va_rf (f i.toNatClampNeg)) (ty := .array ty) hexec hb (hP q0 _ ha) ((hK.2 t0 _ ht).1 n (fun j => va_rf (f j))) rfl (fun q => by cases q) (by show ¬ (i < 0 ∨ (arrV _ _ _).slots.size ≤ _); rw [arrV_size]; exact hin) (by show (arrV _ _ _).slots[_]? = _; rw [arrV_read _ _ hlt]) rfl rfl hdg kk
theorem am_tint (hexec : p.tables.exec = Jvm.exec) (hb : c.code = cc) {t N : Nat} {f : Nat → Value} (hT : va_T .int t N f A s s.heap) (hS : va_S A s.heap H locs) {i : Int32} (hin : vp_in i N) (hdg : decode cc pc = .ok (.iaload, 1))
    (kk : W p l e R s m args below meth c H locs cells slots Q (F0 m (pc + 1) ls (f i.toNatClampNeg :: rest))) : W p l e R s m args below meth c H locs cells slots Q (F0 m pc ls (.int i :: .ref t :: rest)) := by
  have hlt : i.toNatClampNeg < N := Nat.not_le.mp fun q => hin (Or.inr q)
  obtain ⟨cell, h1, h2, h3, h4, h5, h6, h7⟩ := hT
  have hc : H[t]? = some cell := by rw [hS.2.1 t (Array.getElem?_eq_some_iff.mp h1).1 h7]; exact h1
  exact W.iald hexec hb hc h2 h3 (fun q => by rcases q with q | q; exact hin (Or.inl q); omega) (h6 _ hlt) rfl rfl hdg kk
end AMN
end
section
section AMX
variable {p : Program} {l : Launch} {e : Env} {R : Room} {s : State} {m : MethodId} {args : Array Value} {below : List Frame} {meth : Method} {c : Code} {H : Heap} {locs : List Loc} {cells slots : Nat} {Q : State → Prop}
set_option maxHeartbeats 4000000 in
theorem am_next {P : Nat → Option am_M} {sh : List am_Sh} {ex : am_X} {aC : Nat → ClassId} {adr : Nat → Nat} {D : va_G} {d : Nat} {M : am_M} {pc pc' len : Nat} {i : Instr} {L L' S S' : List Value} {σ σ' : am_S} {ls : Array Slot}
    (hM : am_ok P M) (C0 : am_Cx p s m args c M sh ex aC adr D) (hR : d + 1 ≤ R.frames ∧ 12 + 40 * d ≤ R.locals)
    (hd : decode (am_by M) pc = .ok (i, len)) (hlen : am_il i = 0 ∨ len = am_il i)
    (h : am_ex P sh ex d M pc i L S σ = some (.inl (pc', L', S', σ')))
    (hP : va_P D am_cl (am_W aC adr sh σ) H) (hS : va_S (am_A adr sh) s.heap H locs) (hl : lv_has ls (am_ml M) (am_lv adr 0 L)) (hL : L.length = am_ml M)
    (kk : ∀ (H' : Heap) (locs' : List Loc) (ls' : Array Slot), va_P D am_cl (am_W aC adr sh σ') H' → va_S (am_A adr sh) s.heap H' locs' → lv_has ls' (am_ml M) (am_lv adr 0 L') → L'.length = am_ml M → W p l e R s m args below meth c H' locs' cells slots Q (F0 m pc' ls' (S'.map (am_v adr)))) :
    W p l e R s m args below meth c H locs cells slots Q (F0 m pc ls (S.map (am_v adr))) := by
  obtain ⟨hx, hb, hml, hown, hts, hK, hE, hinj⟩ := id C0
  have hD : va_D (am_A adr sh) (am_W aC adr sh σ) := am_D hinj σ
  obtain ⟨hM0, hM1, hMf, hMm, hMc, hMx⟩ := id hM
  cases i
  case aload_n k =>
    obtain rfl : len = 1 := by rcases hlen with q | q; exact absurd q (show ¬ (1 : Nat) = 0 by decide); exact q
    simp only [am_ex] at h
    split at h
    · rename_i a ha
      simp only [am_nx, Option.some.injEq, Sum.inl.injEq, Prod.mk.injEq] at h
      obtain ⟨rfl, rfl, rfl, rfl⟩ := h
      exact lv_aload_n hx hb hd rfl (am_at_ref hl ha) (kk _ _ _ hP hS hl hL)
    · cases h
  case aload k =>
    obtain rfl : len = 2 := by rcases hlen with q | q; exact absurd q (show ¬ (2 : Nat) = 0 by decide); exact q
    simp only [am_ex] at h
    split at h
    · rename_i a ha
      simp only [am_nx, Option.some.injEq, Sum.inl.injEq, Prod.mk.injEq] at h
      obtain ⟨rfl, rfl, rfl, rfl⟩ := h
      exact lv_aload hx hb hd (am_at_ref hl ha) (kk _ _ _ hP hS hl hL)
    · cases h
  case iload_n k =>
    obtain rfl : len = 1 := by rcases hlen with q | q; exact absurd q (show ¬ (1 : Nat) = 0 by decide); exact q
    simp only [am_ex] at h
    split at h
    · rename_i a ha
      simp only [am_nx, Option.some.injEq, Sum.inl.injEq, Prod.mk.injEq] at h
      obtain ⟨rfl, rfl, rfl, rfl⟩ := h
      exact lv_iload_n hx hb hd rfl (am_at_int hl ha) (kk _ _ _ hP hS hl hL)
    · cases h
  case iload k =>
    obtain rfl : len = 2 := by rcases hlen with q | q; exact absurd q (show ¬ (2 : Nat) = 0 by decide); exact q
    simp only [am_ex] at h
    split at h
    · rename_i a ha
      simp only [am_nx, Option.some.injEq, Sum.inl.injEq, Prod.mk.injEq] at h
      obtain ⟨rfl, rfl, rfl, rfl⟩ := h
      exact lv_iload hx hb hd (am_at_int hl ha) (kk _ _ _ hP hS hl hL)
    · cases h
  case istore_n k =>
    obtain rfl : len = 1 := by rcases hlen with q | q; exact absurd q (show ¬ (1 : Nat) = 0 by decide); exact q
    simp only [am_ex] at h
    split at h
    · rename_i x S0
      split at h
      · rename_i hk
        simp only [am_nx, Option.some.injEq, Sum.inl.injEq, Prod.mk.injEq] at h
        obtain ⟨rfl, rfl, rfl, rfl⟩ := h
        refine lv_istore_n hx hb hd rfl hl (by omega) rfl (fun ls' hl' => ?_)
        exact kk _ _ _ hP hS (am_has_set (v := .int x) (Or.inl ⟨x, rfl⟩) hl') (by rw [List.length_set]; exact hL)
      · cases h
    · cases h
  case istore k =>
    obtain rfl : len = 2 := by rcases hlen with q | q; exact absurd q (show ¬ (2 : Nat) = 0 by decide); exact q
    simp only [am_ex] at h
    split at h
    · rename_i x S0
      split at h
      · rename_i hk
        simp only [am_nx, Option.some.injEq, Sum.inl.injEq, Prod.mk.injEq] at h
        obtain ⟨rfl, rfl, rfl, rfl⟩ := h
        refine lv_istore hx hb hd hl (by omega) rfl (fun ls' hl' => ?_)
        exact kk _ _ _ hP hS (am_has_set (v := .int x) (Or.inl ⟨x, rfl⟩) hl') (by rw [List.length_set]; exact hL)
      · cases h
    · cases h
  case astore_n k =>
    obtain rfl : len = 1 := by rcases hlen with q | q; exact absurd q (show ¬ (1 : Nat) = 0 by decide); exact q
    simp only [am_ex] at h
    split at h
    · rename_i x S0
      split at h
      · rename_i hk
        simp only [am_nx, Option.some.injEq, Sum.inl.injEq, Prod.mk.injEq] at h
        obtain ⟨rfl, rfl, rfl, rfl⟩ := h
        refine lv_astore_n hx hb hd rfl hl (by omega) rfl (fun ls' hl' => ?_)
        exact kk _ _ _ hP hS (am_has_set (v := .ref x) (Or.inr ⟨x, rfl⟩) hl') (by rw [List.length_set]; exact hL)
      · cases h
    · cases h
  case iinc k n =>
    obtain rfl : len = 3 := by rcases hlen with q | q; exact absurd q (show ¬ (3 : Nat) = 0 by decide); exact q
    simp only [am_ex] at h
    split at h
    · rename_i a ha
      simp only [am_nx, Option.some.injEq, Sum.inl.injEq, Prod.mk.injEq] at h
      obtain ⟨rfl, rfl, rfl, rfl⟩ := h
      have hm := am_lv_int (adr := adr) (k := 0) ha
      rw [Nat.zero_add] at hm
      obtain ⟨j, hj⟩ := List.getElem?_of_mem hm
      have hk : k < am_ml M := by rw [← hL]; exact (List.getElem?_eq_some_iff.mp ha).1
      refine lv_iinc hx hb hd hl hj rfl hk rfl (fun ls' hl' => ?_)
      exact kk _ _ _ hP hS (am_has_set (v := .int (a + Int32.ofInt n)) (Or.inl ⟨_, rfl⟩) hl') (by rw [List.length_set]; exact hL)
    · cases h
  case iconst n =>
    obtain rfl : len = 1 := by rcases hlen with q | q; exact absurd q (show ¬ (1 : Nat) = 0 by decide); exact q
    simp only [am_ex] at h
    simp only [am_nx, Option.some.injEq, Sum.inl.injEq, Prod.mk.injEq] at h
    obtain ⟨rfl, rfl, rfl, rfl⟩ := h
    exact lv_iconst hx hb hd rfl (kk _ _ _ hP hS hl hL)
  case bipush n =>
    obtain rfl : len = 2 := by rcases hlen with q | q; exact absurd q (show ¬ (2 : Nat) = 0 by decide); exact q
    simp only [am_ex] at h
    simp only [am_nx, Option.some.injEq, Sum.inl.injEq, Prod.mk.injEq] at h
    obtain ⟨rfl, rfl, rfl, rfl⟩ := h
    exact lv_bipush hx hb hd rfl (kk _ _ _ hP hS hl hL)
  case sipush n =>
    obtain rfl : len = 3 := by rcases hlen with q | q; exact absurd q (show ¬ (3 : Nat) = 0 by decide); exact q
    simp only [am_ex] at h
    simp only [am_nx, Option.some.injEq, Sum.inl.injEq, Prod.mk.injEq] at h
    obtain ⟨rfl, rfl, rfl, rfl⟩ := h
    exact lv_sipush hx hb hd rfl (kk _ _ _ hP hS hl hL)
  case ldc k =>
    obtain rfl : len = 2 := by rcases hlen with q | q; exact absurd q (show ¬ (2 : Nat) = 0 by decide); exact q
    simp only [am_ex] at h
    split at h
    · rename_i v hv
      simp only [am_nx, Option.some.injEq, Sum.inl.injEq, Prod.mk.injEq] at h
      obtain ⟨rfl, rfl, rfl, rfl⟩ := h
      exact lv_ldc hx hb hown (hts _ (hMc k v hv)) hd (kk _ _ _ hP hS hl hL)
    · cases h
  case ldc_w k =>
    obtain rfl : len = 3 := by rcases hlen with q | q; exact absurd q (show ¬ (3 : Nat) = 0 by decide); exact q
    simp only [am_ex] at h
    split at h
    · rename_i v hv
      simp only [am_nx, Option.some.injEq, Sum.inl.injEq, Prod.mk.injEq] at h
      obtain ⟨rfl, rfl, rfl, rfl⟩ := h
      exact lv_ldcw hx hb hown (hts _ (hMc k v hv)) hd (kk _ _ _ hP hS hl hL)
    · cases h
  case getfield k =>
    obtain rfl : len = 3 := by rcases hlen with q | q; exact absurd q (show ¬ (3 : Nat) = 0 by decide); exact q
    simp only [am_ex] at h
    split at h
    · rename_i cc S0
      split at h
      · rename_i q hq
        obtain ⟨C, T, N, hc, hk, hlink, -, -⟩ := hMf k q hq
        obtain ⟨hin, hty, hnm⟩ := am_cl_ok _ _ _ _ hc
        split at h
        · rename_i v hv
          simp only [am_nx, Option.some.injEq, Sum.inl.injEq, Prod.mk.injEq] at h
          obtain ⟨rfl, rfl, rfl, rfl⟩ := h
          unfold am_gf at hv
          split at hv
          · rename_i o ho
            split at hv
            · rename_i hci
              have hw := am_W_at (aC := aC) (adr := adr) (σ := σ) ho
              have hw2 : (am_W aC adr sh σ)[cc]? = some (adr cc, .inr (o.1, am_fs adr σ cc o.2)) := hw
              rw [hci] at hw2
              split at hv
              · rename_i hf
                cases hv
                exact va_get hx hb hts hin hown hK hP cc hw2 hc q.2.1 hk (hts _ hlink) (fun _ h => h) (am_fs_at hf) hd (kk _ _ _ hP hS hl hL)
              · rename_i r hf
                cases hv
                exact va_get hx hb hts hin hown hK hP cc hw2 hc q.2.1 hk (hts _ hlink) (fun _ h => h) (am_fs_at hf) hd (kk _ _ _ hP hS hl hL)
              · cases hv
            · cases hv
          · cases hv
        · cases h
      · cases h
    · cases h
  case putfield k =>
    obtain rfl : len = 3 := by rcases hlen with q | q; exact absurd q (show ¬ (3 : Nat) = 0 by decide); exact q
    simp only [am_ex] at h
    split at h
    · rename_i v cc S0
      split at h
      · rename_i q hq
        obtain ⟨C, T, N, hc, hk, hlink, hz0, hz1⟩ := hMf k q hq
        obtain ⟨hin, hty, hnm⟩ := am_cl_ok _ _ _ _ hc
        split at h
        · rename_i hcond
          obtain ⟨hcp, hle, hbo⟩ := hcond
          simp only [am_nx, Option.some.injEq, Sum.inl.injEq, Prod.mk.injEq] at h
          obtain ⟨rfl, rfl, rfl, rfl⟩ := h
          unfold am_cpf at hcp
          split at hcp
          · rename_i o ho
            simp only [Bool.and_eq_true, decide_eq_true_eq] at hcp
            obtain ⟨hci, hf⟩ := hcp
            have hw2 : (am_W aC adr sh σ)[cc]? = some (adr cc, .inr (o.1, am_fs adr σ cc o.2)) := am_W_at (aC := aC) (adr := adr) (σ := σ) ho
            have hset := am_W_setf (aC := aC) (adr := adr) (σ := σ) (v := v) ho hf
            rw [hci] at hw2 hset
            have hlk : q.2.1 < (am_fs adr σ cc o.2).length := by rw [am_fs_len]; exact (List.getElem?_eq_some_iff.mp hf).1
            have hty1 := hty q.2.1 hk
            by_cases hz : q.2.2 = 0
            · obtain ⟨hfin, hti⟩ := hz0 hz
              rw [hti] at hty1
              refine va_put hx hb hts hin (am_ty q.1) hty hnm hown hK hP hD hS cc hw2 hc q.2.1 hk (hts _ hlink) (fun _ h => h) hfin (v := .int v) hty1 rfl rfl hlk hd (fun H1 locs1 hP1 _ hS1 => ?_)
              rw [hset] at hP1
              exact kk _ _ _ hP1 hS1 hl hL
            · have hz' : q.2.2 = 1 := by omega
              obtain ⟨hfin, hti⟩ := hz1 hz'
              obtain ⟨hn1, hn2, -⟩ := am_bo_nar (hbo hz')
              rw [hti] at hty1
              refine va_put hx hb hts hin (am_ty q.1) hty hnm hown hK hP hD hS cc hw2 hc q.2.1 hk (hts _ hlink) (fun _ h => h) hfin (v := .int v) hty1 hn1 hn2 hlk hd (fun H1 locs1 hP1 _ hS1 => ?_)
              rw [hset] at hP1
              exact kk _ _ _ hP1 hS1 hl hL
          · cases hcp
        · cases h
      · cases h
    · cases h
  case getstatic k =>
    obtain rfl : len = 3 := by rcases hlen with q | q; exact absurd q (show ¬ (3 : Nat) = 0 by decide); exact q
    simp only [am_ex] at h
    split at h
    · rename_i hk
      simp only [am_nx, Option.some.injEq, Sum.inl.injEq, Prod.mk.injEq] at h
      obtain ⟨rfl, rfl, rfl, rfl⟩ := h
      exact va_gets hx hb hE.2 hS hown (hts _ ((hMx k).1 hk)) (fun _ h => h) hd (kk _ _ _ hP hS hl hL)
    · cases h
  case iaload =>
    obtain rfl : len = 1 := by rcases hlen with q | q; exact absurd q (show ¬ (1 : Nat) = 0 by decide); exact q
    simp only [am_ex] at h
    split at h
    · rename_i i cc S0
      split at h
      · rename_i v hv
        simp only [am_nx, Option.some.injEq, Sum.inl.injEq, Prod.mk.injEq] at h
        obtain ⟨rfl, rfl, rfl, rfl⟩ := h
        unfold am_ild at hv
        split at hv
        · rename_i q hq
          split at hv
          · rename_i hi
            cases hv
            have hw2 : (am_W aC adr sh σ)[cc]? = some (adr cc, .inl (aC q.1, q.2, .inl (σ cc))) := am_W_at (aC := aC) (adr := adr) (σ := σ) hq
            rw [hi.1] at hw2
            exact va_iald hx hb hK hP cc 0 hw2 rfl (am_in_vp hi.2) hd (kk _ _ _ hP hS hl hL)
          · cases hv
        · cases hv
        · cases hv
        · split at hv
          · rename_i q hq
            split at hv
            · rename_i hi
              cases hv
              exact am_tint hx hb (hE.1 cc q hq) hS (am_in_vp hi) hd (kk _ _ _ hP hS hl hL)
            · cases hv
          · cases hv
      · cases h
    · cases h
  case baload =>
    obtain rfl : len = 1 := by rcases hlen with q | q; exact absurd q (show ¬ (1 : Nat) = 0 by decide); exact q
    simp only [am_ex] at h
    split at h
    · rename_i i cc S0
      split at h
      · rename_i v hv
        simp only [am_nx, Option.some.injEq, Sum.inl.injEq, Prod.mk.injEq] at h
        obtain ⟨rfl, rfl, rfl, rfl⟩ := h
        unfold am_bld at hv
        split at hv
        · rename_i q hq
          split at hv
          · rename_i hi
            cases hv
            have hw2 : (am_W aC adr sh σ)[cc]? = some (adr cc, .inl (aC q.1, q.2, .inl (σ cc))) := am_W_at (aC := aC) (adr := adr) (σ := σ) hq
            rw [hi.1] at hw2
            exact va_zald hx hb hK hP cc 1 hw2 rfl (am_in_vp hi.2) hd (kk _ _ _ hP hS hl hL)
          · cases hv
        · cases hv
      · cases h
    · cases h
  case aaload =>
    obtain rfl : len = 1 := by rcases hlen with q | q; exact absurd q (show ¬ (1 : Nat) = 0 by decide); exact q
    simp only [am_ex] at h
    split at h
    · rename_i i cc S0
      split at h
      · rename_i v hv
        simp only [am_nx, Option.some.injEq, Sum.inl.injEq, Prod.mk.injEq] at h
        obtain ⟨rfl, rfl, rfl, rfl⟩ := h
        unfold am_ald at hv
        split at hv
        · rename_i q hq
          split at hv
          · rename_i hi
            have hw2 : (am_W aC adr sh σ)[cc]? = some (adr cc, .inl (aC 2, q.length, .inr (.inr (.inr (.inr (fun k => (q[k]?).map adr)))))) := am_W_at (aC := aC) (adr := adr) (σ := σ) hq
            refine am_aald hx hb hK hP cc 2 hw2 rfl (am_in_vp hi) hd ?_
            rw [hv]
            exact kk _ _ _ hP hS hl hL
          · cases hv
        · cases hv
      · cases h
    · cases h
  case iastore =>
    obtain rfl : len = 1 := by rcases hlen with q | q; exact absurd q (show ¬ (1 : Nat) = 0 by decide); exact q
    simp only [am_ex] at h
    split at h
    · rename_i x i cc S0
      split at h
      · rename_i hv
        simp only [am_nx, Option.some.injEq, Sum.inl.injEq, Prod.mk.injEq] at h
        obtain ⟨rfl, rfl, rfl, rfl⟩ := h
        unfold am_can at hv
        split at hv
        · rename_i q hq
          simp only [Bool.and_eq_true, decide_eq_true_eq] at hv
          have hw2 : (am_W aC adr sh σ)[cc]? = some (adr cc, .inl (aC q.1, q.2, .inl (σ cc))) := am_W_at (aC := aC) (adr := adr) (σ := σ) hq
          have hset := am_W_set (aC := aC) (adr := adr) (σ := σ) hq (upd (σ cc) i.toNatClampNeg x)
          rw [hv.1] at hw2 hset
          refine va_iast hx hb hK hP hD hS cc 0 hw2 rfl (am_in_vp hv.2) hd (fun H1 locs1 hP1 _ hS1 => ?_)
          rw [hset] at hP1
          exact kk _ _ _ hP1 hS1 hl hL
        · cases hv
      · cases h
    · cases h
  case bastore =>
    obtain rfl : len = 1 := by rcases hlen with q | q; exact absurd q (show ¬ (1 : Nat) = 0 by decide); exact q
    simp only [am_ex] at h
    split at h
    · rename_i x i cc S0
      split at h
      · rename_i hvv
        obtain ⟨hv, hbo⟩ := hvv
        simp only [am_nx, Option.some.injEq, Sum.inl.injEq, Prod.mk.injEq] at h
        obtain ⟨rfl, rfl, rfl, rfl⟩ := h
        unfold am_can at hv
        split at hv
        · rename_i q hq
          simp only [Bool.and_eq_true, decide_eq_true_eq] at hv
          have hw2 : (am_W aC adr sh σ)[cc]? = some (adr cc, .inl (aC q.1, q.2, .inl (σ cc))) := am_W_at (aC := aC) (adr := adr) (σ := σ) hq
          have hset := am_W_set (aC := aC) (adr := adr) (σ := σ) hq (upd (σ cc) i.toNatClampNeg x)
          rw [hv.1] at hw2 hset
          refine va_zast hx hb hK hP hD hS cc 1 hw2 rfl (am_in_vp hv.2) hd (fun H1 locs1 hP1 _ hS1 => ?_)
          rw [(am_bo_nar hbo).2.2, hset] at hP1
          exact kk _ _ _ hP1 hS1 hl hL
        · cases hv
      · cases h
    · cases h
  case arraylength =>
    obtain rfl : len = 1 := by rcases hlen with q | q; exact absurd q (show ¬ (1 : Nat) = 0 by decide); exact q
    simp only [am_ex] at h
    split at h
    · rename_i cc S0
      split at h
      · rename_i n hn
        simp only [am_nx, Option.some.injEq, Sum.inl.injEq, Prod.mk.injEq] at h
        obtain ⟨rfl, rfl, rfl, rfl⟩ := h
        unfold am_len at hn
        split at hn
        · rename_i q hq
          have hw2 : (am_W aC adr sh σ)[cc]? = some (adr cc, .inl (aC q.1, q.2, .inl (σ cc))) := am_W_at (aC := aC) (adr := adr) (σ := σ) hq
          by_cases ht0 : q.1 = 0
          · rw [if_pos ht0] at hn
            cases hn
            rw [ht0] at hw2
            exact va_alen hx hb hK hP cc 0 hw2 rfl rfl hd (kk _ _ _ hP hS hl hL)
          · rw [if_neg ht0] at hn
            cases hn
        · rename_i q hq
          cases hn
          have hw2 : (am_W aC adr sh σ)[cc]? = some (adr cc, .inl (aC 2, q.length, .inr (.inr (.inr (.inr (fun k => (q[k]?).map adr)))))) := am_W_at (aC := aC) (adr := adr) (σ := σ) hq
          exact va_alen hx hb hK hP cc 2 hw2 rfl rfl hd (kk _ _ _ hP hS hl hL)
        · cases hn
        · split at hn
          · rename_i q hq
            cases hn
            exact va_tlen hx hb (hE.1 cc q hq) hS rfl hd (kk _ _ _ hP hS hl hL)
          · cases hn
      · cases h
    · cases h
  case iadd =>
    obtain rfl : len = 1 := by rcases hlen with q | q; exact absurd q (show ¬ (1 : Nat) = 0 by decide); exact q
    simp only [am_ex] at h
    split at h
    · simp only [am_nx, Option.some.injEq, Sum.inl.injEq, Prod.mk.injEq] at h
      obtain ⟨rfl, rfl, rfl, rfl⟩ := h
      exact lv_iadd hx hb hd (kk _ _ _ hP hS hl hL)
    · cases h
  case isub =>
    obtain rfl : len = 1 := by rcases hlen with q | q; exact absurd q (show ¬ (1 : Nat) = 0 by decide); exact q
    simp only [am_ex] at h
    split at h
    · simp only [am_nx, Option.some.injEq, Sum.inl.injEq, Prod.mk.injEq] at h
      obtain ⟨rfl, rfl, rfl, rfl⟩ := h
      exact lv_isub hx hb hd (kk _ _ _ hP hS hl hL)
    · cases h
  case imul =>
    obtain rfl : len = 1 := by rcases hlen with q | q; exact absurd q (show ¬ (1 : Nat) = 0 by decide); exact q
    simp only [am_ex] at h
    split at h
    · simp only [am_nx, Option.some.injEq, Sum.inl.injEq, Prod.mk.injEq] at h
      obtain ⟨rfl, rfl, rfl, rfl⟩ := h
      exact lv_imul hx hb hd (kk _ _ _ hP hS hl hL)
    · cases h
  case iand =>
    obtain rfl : len = 1 := by rcases hlen with q | q; exact absurd q (show ¬ (1 : Nat) = 0 by decide); exact q
    simp only [am_ex] at h
    split at h
    · simp only [am_nx, Option.some.injEq, Sum.inl.injEq, Prod.mk.injEq] at h
      obtain ⟨rfl, rfl, rfl, rfl⟩ := h
      exact lv_iand hx hb hd (kk _ _ _ hP hS hl hL)
    · cases h
  case ior =>
    obtain rfl : len = 1 := by rcases hlen with q | q; exact absurd q (show ¬ (1 : Nat) = 0 by decide); exact q
    simp only [am_ex] at h
    split at h
    · simp only [am_nx, Option.some.injEq, Sum.inl.injEq, Prod.mk.injEq] at h
      obtain ⟨rfl, rfl, rfl, rfl⟩ := h
      exact lv_ior hx hb hd (kk _ _ _ hP hS hl hL)
    · cases h
  case ixor =>
    obtain rfl : len = 1 := by rcases hlen with q | q; exact absurd q (show ¬ (1 : Nat) = 0 by decide); exact q
    simp only [am_ex] at h
    split at h
    · simp only [am_nx, Option.some.injEq, Sum.inl.injEq, Prod.mk.injEq] at h
      obtain ⟨rfl, rfl, rfl, rfl⟩ := h
      exact lv_ixor hx hb hd (kk _ _ _ hP hS hl hL)
    · cases h
  case ishl =>
    obtain rfl : len = 1 := by rcases hlen with q | q; exact absurd q (show ¬ (1 : Nat) = 0 by decide); exact q
    simp only [am_ex] at h
    split at h
    · simp only [am_nx, Option.some.injEq, Sum.inl.injEq, Prod.mk.injEq] at h
      obtain ⟨rfl, rfl, rfl, rfl⟩ := h
      exact lv_ishl hx hb hd (kk _ _ _ hP hS hl hL)
    · cases h
  case ishr =>
    obtain rfl : len = 1 := by rcases hlen with q | q; exact absurd q (show ¬ (1 : Nat) = 0 by decide); exact q
    simp only [am_ex] at h
    split at h
    · simp only [am_nx, Option.some.injEq, Sum.inl.injEq, Prod.mk.injEq] at h
      obtain ⟨rfl, rfl, rfl, rfl⟩ := h
      exact lv_ishr hx hb hd (kk _ _ _ hP hS hl hL)
    · cases h
  case iushr =>
    obtain rfl : len = 1 := by rcases hlen with q | q; exact absurd q (show ¬ (1 : Nat) = 0 by decide); exact q
    simp only [am_ex] at h
    split at h
    · simp only [am_nx, Option.some.injEq, Sum.inl.injEq, Prod.mk.injEq] at h
      obtain ⟨rfl, rfl, rfl, rfl⟩ := h
      exact lv_iushr hx hb hd rfl (kk _ _ _ hP hS hl hL)
    · cases h
  case ineg =>
    obtain rfl : len = 1 := by rcases hlen with q | q; exact absurd q (show ¬ (1 : Nat) = 0 by decide); exact q
    simp only [am_ex] at h
    split at h
    · simp only [am_nx, Option.some.injEq, Sum.inl.injEq, Prod.mk.injEq] at h
      obtain ⟨rfl, rfl, rfl, rfl⟩ := h
      exact lv_ineg hx hb hd (kk _ _ _ hP hS hl hL)
    · cases h
  case idiv =>
    obtain rfl : len = 1 := by rcases hlen with q | q; exact absurd q (show ¬ (1 : Nat) = 0 by decide); exact q
    simp only [am_ex] at h
    split at h
    · split at h
      · cases h
      · rename_i hy
        simp only [am_nx, Option.some.injEq, Sum.inl.injEq, Prod.mk.injEq] at h
        obtain ⟨rfl, rfl, rfl, rfl⟩ := h
        exact lv_idiv hx hb hd hy (kk _ _ _ hP hS hl hL)
    · cases h
  case irem =>
    obtain rfl : len = 1 := by rcases hlen with q | q; exact absurd q (show ¬ (1 : Nat) = 0 by decide); exact q
    simp only [am_ex] at h
    split at h
    · split at h
      · cases h
      · rename_i hy
        simp only [am_nx, Option.some.injEq, Sum.inl.injEq, Prod.mk.injEq] at h
        obtain ⟨rfl, rfl, rfl, rfl⟩ := h
        exact lv_irem hx hb hd hy (kk _ _ _ hP hS hl hL)
    · cases h
  case dup =>
    obtain rfl : len = 1 := by rcases hlen with q | q; exact absurd q (show ¬ (1 : Nat) = 0 by decide); exact q
    simp only [am_ex] at h
    split at h
    · simp only [am_nx, Option.some.injEq, Sum.inl.injEq, Prod.mk.injEq] at h
      obtain ⟨rfl, rfl, rfl, rfl⟩ := h
      exact lv_dup hx hb hd (am_v_cat adr _) (kk _ _ _ hP hS hl hL)
    · cases h
  case dup2 =>
    obtain rfl : len = 1 := by rcases hlen with q | q; exact absurd q (show ¬ (1 : Nat) = 0 by decide); exact q
    simp only [am_ex] at h
    split at h
    · simp only [am_nx, Option.some.injEq, Sum.inl.injEq, Prod.mk.injEq] at h
      obtain ⟨rfl, rfl, rfl, rfl⟩ := h
      exact lv_dup2_11 hx hb hd (am_v_cat adr _) (am_v_cat adr _) (kk _ _ _ hP hS hl hL)
    · cases h
  case goto off =>
    obtain rfl : len = 3 := by rcases hlen with q | q; exact absurd q (show ¬ (3 : Nat) = 0 by decide); exact q
    simp only [am_ex] at h
    split at h
    · rename_i h0
      simp only [am_nx, Option.some.injEq, Sum.inl.injEq, Prod.mk.injEq] at h
      obtain ⟨rfl, rfl, rfl, rfl⟩ := h
      exact lv_goto hx hb hd (am_tg_eq h0) (kk _ _ _ hP hS hl hL)
    · cases h
  case ifCond cd off =>
    obtain rfl : len = 3 := by rcases hlen with q | q; exact absurd q (show ¬ (3 : Nat) = 0 by decide); exact q
    simp only [am_ex] at h
    split at h
    · rename_i x S0
      split at h
      · rename_i h0
        simp only [am_nx, Option.some.injEq, Sum.inl.injEq, Prod.mk.injEq] at h
        obtain ⟨rfl, rfl, rfl, rfl⟩ := h
        cases cd with
        | eq =>
          refine lv_if_eq hx hb hd (am_tg_eq h0) (fun q => ?_) (fun q => ?_)
          · have hq : am_cb .eq x 0 = true := decide_eq_true q
            rw [if_pos hq] at kk
            exact kk _ _ _ hP hS hl hL
          · have hq : ¬ am_cb .eq x 0 = true := fun z => absurd (of_decide_eq_true z) q
            rw [if_neg hq] at kk
            exact kk _ _ _ hP hS hl hL
        | ne =>
          refine lv_if_ne hx hb hd (am_tg_eq h0) (fun q => ?_) (fun q => ?_)
          · have hq : am_cb .ne x 0 = true := decide_eq_true q
            rw [if_pos hq] at kk
            exact kk _ _ _ hP hS hl hL
          · have hq : ¬ am_cb .ne x 0 = true := fun z => absurd q (of_decide_eq_true z)
            rw [if_neg hq] at kk
            exact kk _ _ _ hP hS hl hL
        | lt =>
          refine lv_if_lt hx hb hd (am_tg_eq h0) (fun q => ?_) (fun q => ?_)
          · have hq : am_cb .lt x 0 = true := decide_eq_true q
            rw [if_pos hq] at kk
            exact kk _ _ _ hP hS hl hL
          · have hq : ¬ am_cb .lt x 0 = true := fun z => absurd (of_decide_eq_true z) q
            rw [if_neg hq] at kk
            exact kk _ _ _ hP hS hl hL
        | ge =>
          refine lv_if_ge hx hb hd (am_tg_eq h0) (fun q => ?_) (fun q => ?_)
          · have hq : am_cb .ge x 0 = true := decide_eq_true q
            rw [if_pos hq] at kk
            exact kk _ _ _ hP hS hl hL
          · have hq : ¬ am_cb .ge x 0 = true := fun z => absurd (of_decide_eq_true z) q
            rw [if_neg hq] at kk
            exact kk _ _ _ hP hS hl hL
        | gt =>
          refine lv_if_gt hx hb hd (am_tg_eq h0) (fun q => ?_) (fun q => ?_)
          · have hq : am_cb .gt x 0 = true := decide_eq_true q
            rw [if_pos hq] at kk
            exact kk _ _ _ hP hS hl hL
          · have hq : ¬ am_cb .gt x 0 = true := fun z => absurd (of_decide_eq_true z) q
            rw [if_neg hq] at kk
            exact kk _ _ _ hP hS hl hL
        | le =>
          refine lv_if_le hx hb hd (am_tg_eq h0) (fun q => ?_) (fun q => ?_)
          · have hq : am_cb .le x 0 = true := decide_eq_true q
            rw [if_pos hq] at kk
            exact kk _ _ _ hP hS hl hL
          · have hq : ¬ am_cb .le x 0 = true := fun z => absurd (of_decide_eq_true z) q
            rw [if_neg hq] at kk
            exact kk _ _ _ hP hS hl hL
      · cases h
    · cases h
  case if_icmp cd off =>
    obtain rfl : len = 3 := by rcases hlen with q | q; exact absurd q (show ¬ (3 : Nat) = 0 by decide); exact q
    simp only [am_ex] at h
    split at h
    · rename_i y x S0
      split at h
      · rename_i h0
        simp only [am_nx, Option.some.injEq, Sum.inl.injEq, Prod.mk.injEq] at h
        obtain ⟨rfl, rfl, rfl, rfl⟩ := h
        cases cd with
        | eq =>
          refine lv_icmp_eq hx hb hd (am_tg_eq h0) (fun q => ?_) (fun q => ?_)
          · have hq : am_cb .eq x y = true := decide_eq_true q
            rw [if_pos hq] at kk
            exact kk _ _ _ hP hS hl hL
          · have hq : ¬ am_cb .eq x y = true := fun z => absurd (of_decide_eq_true z) q
            rw [if_neg hq] at kk
            exact kk _ _ _ hP hS hl hL
        | ne =>
          refine lv_icmp_ne hx hb hd (am_tg_eq h0) (fun q => ?_) (fun q => ?_)
          · have hq : am_cb .ne x y = true := decide_eq_true q
            rw [if_pos hq] at kk
            exact kk _ _ _ hP hS hl hL
          · have hq : ¬ am_cb .ne x y = true := fun z => absurd q (of_decide_eq_true z)
            rw [if_neg hq] at kk
            exact kk _ _ _ hP hS hl hL
        | lt =>
          refine lv_icmp_lt hx hb hd (am_tg_eq h0) (fun q => ?_) (fun q => ?_)
          · have hq : am_cb .lt x y = true := decide_eq_true q
            rw [if_pos hq] at kk
            exact kk _ _ _ hP hS hl hL
          · have hq : ¬ am_cb .lt x y = true := fun z => absurd (of_decide_eq_true z) q
            rw [if_neg hq] at kk
            exact kk _ _ _ hP hS hl hL
        | ge =>
          refine lv_icmp_ge hx hb hd (am_tg_eq h0) (fun q => ?_) (fun q => ?_)
          · have hq : am_cb .ge x y = true := decide_eq_true q
            rw [if_pos hq] at kk
            exact kk _ _ _ hP hS hl hL
          · have hq : ¬ am_cb .ge x y = true := fun z => absurd (of_decide_eq_true z) q
            rw [if_neg hq] at kk
            exact kk _ _ _ hP hS hl hL
        | gt =>
          refine lv_icmp_gt hx hb hd (am_tg_eq h0) (fun q => ?_) (fun q => ?_)
          · have hq : am_cb .gt x y = true := decide_eq_true q
            rw [if_pos hq] at kk
            exact kk _ _ _ hP hS hl hL
          · have hq : ¬ am_cb .gt x y = true := fun z => absurd (of_decide_eq_true z) q
            rw [if_neg hq] at kk
            exact kk _ _ _ hP hS hl hL
        | le =>
          refine lv_icmp_le hx hb hd (am_tg_eq h0) (fun q => ?_) (fun q => ?_)
          · have hq : am_cb .le x y = true := decide_eq_true q
            rw [if_pos hq] at kk
            exact kk _ _ _ hP hS hl hL
          · have hq : ¬ am_cb .le x y = true := fun z => absurd (of_decide_eq_true z) q
            rw [if_neg hq] at kk
            exact kk _ _ _ hP hS hl hL
      · cases h
    · cases h
  case tableswitch df lo hi os =>
    simp only [am_ex] at h
    split at h
    · rename_i x S0
      split at h
      · rename_i h1
        split at h
        · rename_i h0
          simp only [am_nx, Option.some.injEq, Sum.inl.injEq, Prod.mk.injEq] at h
          obtain ⟨rfl, rfl, rfl, rfl⟩ := h
          exact lv_tableOut hx hb hd h1 (am_tg_eq h0) (kk _ _ _ hP hS hl hL)
        · cases h
      · rename_i h1
        split at h
        · rename_i off ho
          split at h
          · rename_i h0
            simp only [am_nx, Option.some.injEq, Sum.inl.injEq, Prod.mk.injEq] at h
            obtain ⟨rfl, rfl, rfl, rfl⟩ := h
            exact lv_tableIn hx hb hd (fun q => h1 (Or.inl q)) (fun q => h1 (Or.inr q)) ho (am_tg_eq h0) (kk _ _ _ hP hS hl hL)
          · cases h
        · cases h
    · cases h
  case lookupswitch df ps =>
    simp only [am_ex] at h
    split at h
    · rename_i x S0
      split at h
      · rename_i h1
        simp only [am_nx, Option.some.injEq, Sum.inl.injEq, Prod.mk.injEq] at h
        obtain ⟨rfl, rfl, rfl, rfl⟩ := h
        exact lv_lookup hx hb hd h1.1 rfl (am_tg_eq h1.2) (kk _ _ _ hP hS hl hL)
      · cases h
    · cases h
  case invokestatic k =>
    obtain rfl : len = 3 := by rcases hlen with q | q; exact absurd q (show ¬ (3 : Nat) = 0 by decide); exact q
    simp only [am_ex] at h
    split at h
    · rename_i hk
      split at h
      · rename_i n dp c1 sp c0 S0
        split at h
        · rename_i hc
          obtain ⟨hcp, hlen8, hd1⟩ := hc
          simp only [am_nx, Option.some.injEq, Sum.inl.injEq, Prod.mk.injEq] at h
          obtain ⟨rfl, rfl, rfl, rfl⟩ := h
          unfold am_cpy at hcp
          split at hcp
          · rename_i q0 q1 hq0 hq1
            simp only [Bool.and_eq_true, decide_eq_true_eq] at hcp
            obtain ⟨⟨⟨⟨⟨⟨e0, e1⟩, g1⟩, g2⟩, g3⟩, g4⟩, g5⟩ := hcp
            have hw0 : (am_W aC adr sh σ)[c0]? = some (adr c0, .inl (aC q0.1, q0.2, .inl (σ c0))) := am_W_at (aC := aC) (adr := adr) (σ := σ) hq0
            have hw1 : (am_W aC adr sh σ)[c1]? = some (adr c1, .inl (aC q1.1, q1.2, .inl (σ c1))) := am_W_at (aC := aC) (adr := adr) (σ := σ) hq1
            have hset := am_W_set (aC := aC) (adr := adr) (σ := σ) hq1 (va_cpy (σ c0) (σ c1) sp.toNatClampNeg dp.toNatClampNeg n.toNatClampNeg)
            rw [e0] at hw0
            rw [e1] at hw1 hset
            obtain ⟨a1, a2, a3⟩ := am_arr
            have hcs := am_cat_sum adr S0
            refine va_copyi hx hb (by rw [hl.1]; exact hml) hown (hts _ ((hMx k).2 hk)) (hts _ a1) (hts _ a2) (hts _ a3) hK hP hD hS c0 c1 0 0 hw0 hw1 rfl rfl rfl g1 g2 g3 g4 g5 (fun _ _ => rfl) (by omega) ?_ hd (fun H1 locs1 hP1 _ hS1 => ?_)
            · have hz : nativeFrameWords "java/lang/System" "arraycopy" 5 = 7 := by decide +kernel
              rw [hz, hcs]
              omega
            · rw [hset] at hP1
              exact kk _ _ _ hP1 hS1 hl hL
          · cases hcp
        · cases h
      · cases h
    · split at h
      · split at h
        · split at h
          · split at h <;> cases h
          · cases h
        · cases h
      · cases h
  case invokevirtual k =>
    simp only [am_ex] at h
    split at h
    · split at h
      · split at h
        · split at h
          · split at h <;> cases h
          · cases h
        · cases h
      · cases h
    · cases h
  case ireturn =>
    simp only [am_ex] at h
    split at h
    · split at h
      · cases h
      · split at h <;> cases h
      · cases h
    · cases h
  case areturn =>
    simp only [am_ex] at h
    split at h
    · split at h <;> cases h
    · cases h
  case return_ =>
    simp only [am_ex] at h
    split at h
    · split at h <;> cases h
    · cases h
  all_goals (simp only [am_ex] at h; cases h)
end AMX
end
section
/-! ===== a run of the abstract machine is one of the machine ===== -/
def am_room (d : Nat) : Room := { frames := d + 1, cells := 0, slots := 0, locals := 12 + 40 * d }
def am_ws (M : am_M) : List Cond := Cond.code (am_y M) (am_by M) (am_ml M) (am_rt M) :: am_tbl
def am_Wd (sh : List am_Sh) (ex : am_X) (aC : Nat → ClassId) (adr : Nat → Nat) (D : va_G) (σ : am_S) (U : State) : Prop := va_P D am_cl (am_W aC adr sh σ) U.heap ∧ va_K D am_cl (am_tys aC) U ∧ am_EX ex adr (am_A adr sh) U U.heap
def am_Q (sh : List am_Sh) (aC : Nat → ClassId) (adr : Nat → Nat) (D : va_G) (v : Option Value) (σ : am_S) : Array Value → State → Outcome → State → Prop := fun _ st oc t => oc = .returned (v.map (am_v adr)) ∧ va_P D am_cl (am_W aC adr sh σ) t.heap ∧ va_F (am_A adr sh) st t
/-- a method's own end: what it answers, and the instruction that ends it -/
def am_end (M : am_M) (v : Option Value) (i : Instr) : Prop :=
  (∃ x, v = some (.int x) ∧ i = .ireturn ∧ (am_rt M = some .int ∨ (am_rt M = some .boolean ∧ am_bo x = true))) ∨ (v = none ∧ i = .return_ ∧ am_rt M = none) ∨ (∃ (x : Nat) (n : String), v = some (.ref x) ∧ i = .areturn ∧ am_rt M = some (.object n))
theorem am_good {w : Cond} (h : w ∈ am_tbl) : (w.onTables && w.keeps) = true ∨ ∃ ty, w = .arrayClass ty := good_of_word (List.mem_filter.mp h).2
theorem am_EX.moved {ex : am_X} {adr : Nat → Nat} {A : Nat → Prop} {u U : State} {H : Heap} (hvm : u.vm.Alike U.vm) (h : am_EX ex adr A u H) : am_EX ex adr A U H := ⟨fun k q hq => (h.1 k q hq).moved hvm, h.2.moved hvm⟩
theorem am_EX.kept {ex : am_X} {adr : Nat → Nat} {A : Nat → Prop} {U : State} {H H1 : Heap} (h : am_EX ex adr A U H) (hq : ∀ a : Nat, a < H.size → ¬ A a → H1[a]? = H[a]?) : am_EX ex adr A U H1 := ⟨fun k q hk => (h.1 k q hk).kept hq, h.2.kept hq⟩
theorem am_Wd.blind {sh : List am_Sh} {ex : am_X} {aC : Nat → ClassId} {adr : Nat → Nat} {D : va_G} {σ : am_S} {av : List Value} : FrameBlind (va_Pc av (am_Wd sh ex aC adr D σ)) := fun a U g mk q => by
  obtain ⟨q0, qP, qK, qE⟩ := q
  exact ⟨q0, qP, va_K.moved (u := U) (U := U.calling g mk a) (Vm.Alike.refl U.vm) qK, am_EX.moved (u := U) (U := U.calling g mk a) (Vm.Alike.refl U.vm) qE⟩
section AMR
variable {p : Program} {l : Launch} {e : Env} {R : Room} {s : State} {m : MethodId} {args : Array Value} {below : List Frame} {meth : Method} {c : Code} {H : Heap} {locs : List Loc} {cells slots : Nat} {Q : State → Prop}
theorem am_call {sh : List am_Sh} {aC : Nat → ClassId} {adr : Nat → Nat} {D : va_G} {v : Option Value} {σ : am_S} {pc : Nat} {ls : Array Slot} {rest st0 : List Value} {a : Array Value} (hr : va_Run p l e R s m args below meth c H locs cells slots 0 0 (F0 m pc ls st0) rest (am_Q sh aC adr D v σ a) (am_A adr sh)) (hS : va_S (am_A adr sh) s.heap H locs)
    (kk : ∀ (H1 : Heap) (locs1 : List Loc), va_P D am_cl (am_W aC adr sh σ) H1 → va_S (am_A adr sh) s.heap H1 locs1 → W p l e R s m args below meth c H1 locs1 cells slots Q (F0 m (pc + 3) ls ((v.map (am_v adr)).toList ++ rest))) : W p l e R s m args below meth c H locs cells slots Q (F0 m pc ls st0) := by
  intro T hT X
  obtain ⟨w, st₀, t, T', L, h0, X', hL, e1, e2, ⟨hv, hp, hz, hk⟩, st⟩ := hr T hT X
  cases hv
  rw [h0] at hz hk
  obtain ⟨t2, a1, b1⟩ := kk T'.heap (locs ++ L) (by rw [e1]; exact hp)
    ⟨Nat.le_trans hS.1 (by rw [e1]; exact hz), fun q h1 h2 => by rw [e1, hk q (Nat.lt_of_lt_of_le h1 hS.1) h2]; exact hS.2.1 q h1 h2, fun q hq => by
      rcases List.mem_append.mp hq with h | h
      · exact hS.2.2 q h
      · exact hL q h⟩ T' rfl X'
  exact ⟨t2, st t2 a1, b1⟩
/-- the statement of soundness for n steps -/
def am_Snd (P : Nat → Option am_M) (sh : List am_Sh) (ex : am_X) (aC : Nat → ClassId) (adr : Nat → Nat) (D : va_G) (l : Launch) (n : Nat) : Prop :=
  ∀ (d : Nat) (M : am_M) (pc : Nat) (L S : List Value) (σ : am_S) (v : Option Value) (σ' : am_S), am_ok P M → am_run P sh ex n d M pc L S σ = some (v, σ') →
    ∀ (p : Program) (e : Env) (R : Room) (s : State) (m : MethodId) (args : Array Value) (below : List Frame) (meth : Method) (c : Code) (H : Heap) (locs : List Loc) (cells slots : Nat) (Q : State → Prop) (ls : Array Slot),
      am_Cx p s m args c M sh ex aC adr D → (d + 1 ≤ R.frames ∧ 12 + 40 * d ≤ R.locals) → (cells ≤ R.cells ∧ slots ≤ R.slots) →
      va_P D am_cl (am_W aC adr sh σ) H → va_S (am_A adr sh) s.heap H locs → lv_has ls (am_ml M) (am_lv adr 0 L) → L.length = am_ml M →
      (∀ (pc' : Nat) (i : Instr) (ls' : Array Slot) (H' : Heap) (locs' : List Loc), decode (am_by M) pc' = .ok (i, 1) → am_end M v i → va_P D am_cl (am_W aC adr sh σ') H' → va_S (am_A adr sh) s.heap H' locs' → W p l e R s m args below meth c H' locs' cells slots Q (F0 m pc' ls' ((v.map (am_v adr)).toList))) →
      W p l e R s m args below meth c H locs cells slots Q (F0 m pc ls (S.map (am_v adr)))
theorem am_pad_len {n : Nat} {as : List Value} (h : as.length ≤ n) : (am_pad n as).length = n := by
  simp [am_pad]; omega
theorem am_lg_sl (adr : Nat → Nat) (as : List Value) : lg_sl (as.map (am_v adr)) = (as.map (am_v adr)).map Slot.val := by
  induction as with
  | nil => rfl
  | cons v as ih =>
    have hc := am_v_cat adr v
    simp only [lg_sl, List.map_cons, List.flatMap_cons, hc] at ih ⊢
    simp only [ih]
    rfl
theorem am_lv_args (adr : Nat → Nat) : ∀ (as : List Value) (k : Nat), (∀ q ∈ lv_args k (as.map (am_v adr)), True) ∧ ∀ (i : Nat) (v : Value), as[i]? = some v → (k + i, am_v adr v) ∈ lv_args k (as.map (am_v adr))
  | [], k => ⟨fun _ _ => trivial, fun i v h => by simp at h⟩
  | w :: as, k => by
    refine ⟨fun _ _ => trivial, fun i v h => ?_⟩
    have hc := am_v_cat adr w
    have he : lv_args k ((w :: as).map (am_v adr)) = (k, am_v adr w) :: lv_args (k + 1) (as.map (am_v adr)) := by
      simp only [List.map_cons, lv_args, hc]
      rfl
    rw [he]
    cases i with
    | zero =>
      rw [List.getElem?_cons_zero] at h
      cases h
      exact List.mem_cons_self
    | succ i =>
      rw [List.getElem?_cons_succ] at h
      have := (am_lv_args adr as (k + 1)).2 i v h
      rw [show k + 1 + i = k + (i + 1) by omega] at this
      exact List.mem_cons_of_mem _ this
theorem am_entry (adr : Nat → Nat) (as : List Value) {n : Nat} (h : as.length ≤ n) : lv_has ((lg_sl (as.map (am_v adr)) ++ List.replicate (n - (lg_sl (as.map (am_v adr))).length) Slot.unset).toArray) n (am_lv adr 0 (am_pad n as)) := by
  have hlen : (lg_sl (as.map (am_v adr))).length = as.length := by rw [am_lg_sl]; simp
  have h0 := lv_entry (as.map (am_v adr)) (n := n) (by rw [hlen]; exact h)
  refine ⟨h0.1, h0.2.1, fun q hq => ?_⟩
  obtain ⟨i, v, h1, h2, h3, h4⟩ := am_lv_mem hq
  rw [Nat.zero_add] at h1
  have hi : as[i]? = some v := by
    unfold am_pad at h2
    by_cases hl : i < as.length
    · rw [List.getElem?_append_left hl] at h2
      exact h2
    · rw [List.getElem?_append_right (by omega)] at h2
      have := List.mem_of_getElem? h2
      have hv := (List.mem_replicate.mp this).2
      obtain ⟨x, hx | ⟨a, ha⟩⟩ := h4
      · rw [hv] at hx; cases hx
      · rw [hv] at ha; cases ha
  have := (am_lv_args adr as 0).2 i v hi
  rw [Nat.zero_add] at this
  have hq' : q = (i, am_v adr v) := by rw [← h1, ← h3]
  rw [hq']
  exact h0.2.2 _ this
/-- a method's contract -/
theorem am_met {P : Nat → Option am_M} {sh : List am_Sh} {ex : am_X} {aC : Nat → ClassId} {adr : Nat → Nat} {D : va_G} {l : Launch} {n : Nat} (hn : am_Snd P sh ex aC adr D l n) (hinj : ∀ i j, i < sh.length → j < sh.length → adr i = adr j → i = j)
    {d : Nat} {M : am_M} {as : List Value} {σ σ' : am_S} {v : Option Value} (hM : am_ok P M) (hl : as.length ≤ am_ml M) (h : am_run P sh ex n d M 0 (am_pad (am_ml M) as) [] σ = some (v, σ')) :
    Met l (am_y M) (am_ws M) (am_room d) (va_Pc (as.map (am_v adr)) (am_Wd sh ex aC adr D σ)) (am_Q sh aC adr D v σ') 0 0 (am_A adr sh) := by
  refine Met.ofW (cc := am_by M) (maxL := am_ml M) (ret := am_rt M) hM.1.1 rfl ?_
  intro p e s m args below meth c s₁ B hml hv
  obtain ⟨rfl, hP, hK, hE⟩ := hv
  have hx := B.exec
  have hb := B.bytes
  have hr := B.returns
  have hlocks := B.notSynchronized
  have hts0 := atoms_spec (ws := am_ws M) B.pre
  have hown : s.vm.findClass (am_y M).cls = some m.cls := findClass_of_methodNamed B.named
  rw [lg_entry_eq]
  have hC : am_Cx p s m (as.map (am_v adr)).toArray c M sh ex aC adr D := ⟨hx, hb, hml, hown, fun w hw => hts0 w (List.mem_cons_of_mem _ hw), hK, hE, hinj⟩
  refine hn d M 0 (am_pad (am_ml M) as) [] σ v σ' hM h p e _ s m _ below meth c s.heap [] 0 0 _ _ hC ⟨Nat.le_refl _, Nat.le_refl _⟩ ⟨Nat.le_refl _, Nat.le_refl _⟩ hP va_S.rf (am_entry adr as hl) (am_pad_len hl) ?_
  intro pc' i ls' H' locs' hdg hend hP' hS'
  have hf : ∀ q ∈ locs', am_A adr sh q.base := hS'.2.2
  have post : ∀ t : State, t.heap = H' → s.WarmedH t.vm → am_Q sh aC adr D v σ' (as.map (am_v adr)).toArray s (.returned (v.map (am_v adr))) t := fun t ht _ => ⟨rfl, by rw [ht]; exact hP', hS'.F ht⟩
  rcases hend with ⟨x, rfl, rfl, hrt | ⟨hrt, hbo⟩⟩ | ⟨rfl, rfl, hrt⟩ | ⟨x, nm, rfl, rfl, hrt⟩
  · exact W.iret hx hb (hr.trans hrt) post hf hdg
  · exact W.zret hx hb (hr.trans hrt) (am_bo_nar hbo).1 post hf hdg
  · exact W.vret hx hb (hr.trans hrt) post hf hdg
  · exact W.aret hx hb (hr.trans hrt) (Or.inl ⟨nm, rfl⟩) (Or.inr ⟨_, rfl⟩) post hf hdg
theorem am_cat_le {adr : Nat → Nat} {rest : List Value} (h : rest.length ≤ 8) : ((rest.map (am_v adr)).map (fun v => v.category)).sum ≤ 8 := by
  rw [am_cat_sum]; exact h
set_option maxHeartbeats 4000000 in
theorem am_ret {P : Nat → Option am_M} {sh : List am_Sh} {ex : am_X} {d : Nat} {M : am_M} {pc len : Nat} {i : Instr} {L S : List Value} {σ : am_S} {w : Option Value} (hd : decode (am_by M) pc = .ok (i, len)) (hlen : am_il i = 0 ∨ len = am_il i) (h : am_ex P sh ex d M pc i L S σ = some (.inr (.inl w))) : ∃ i', am_end M w i' ∧ decode (am_by M) pc = .ok (i', 1) ∧ S = w.toList := by
  cases i
  case ireturn =>
    obtain rfl : len = 1 := by rcases hlen with q | q; exact absurd q (show ¬ (1 : Nat) = 0 by decide); exact q
    simp only [am_ex] at h
    split at h
    · rename_i x
      split at h
      · rename_i hrt
        simp only [Option.some.injEq, Sum.inr.injEq, Sum.inl.injEq] at h
        subst h
        exact ⟨.ireturn, Or.inl ⟨x, rfl, rfl, Or.inl hrt⟩, hd, rfl⟩
      · rename_i hrt
        split at h
        · rename_i hbo
          simp only [Option.some.injEq, Sum.inr.injEq, Sum.inl.injEq] at h
          subst h
          exact ⟨.ireturn, Or.inl ⟨x, rfl, rfl, Or.inr ⟨hrt, hbo⟩⟩, hd, rfl⟩
        · cases h
      · cases h
    · cases h
  case areturn =>
    obtain rfl : len = 1 := by rcases hlen with q | q; exact absurd q (show ¬ (1 : Nat) = 0 by decide); exact q
    simp only [am_ex] at h
    split at h
    · rename_i x
      split at h
      · rename_i nm hrt
        simp only [Option.some.injEq, Sum.inr.injEq, Sum.inl.injEq] at h
        subst h
        exact ⟨.areturn, Or.inr (Or.inr ⟨x, nm, rfl, rfl, hrt⟩), hd, rfl⟩
      · cases h
    · cases h
  case return_ =>
    obtain rfl : len = 1 := by rcases hlen with q | q; exact absurd q (show ¬ (1 : Nat) = 0 by decide); exact q
    simp only [am_ex] at h
    split at h
    · split at h
      · rename_i hrt
        simp only [Option.some.injEq, Sum.inr.injEq, Sum.inl.injEq] at h
        subst h
        exact ⟨.return_, Or.inr (Or.inl ⟨rfl, rfl, hrt⟩), hd, rfl⟩
      · cases h
    · cases h
  all_goals (exfalso; simp only [am_ex, am_nx] at h; first | (cases h; done) | ((repeat' split at h) <;> cases h))
theorem am_rev_map (adr : Nat → Nat) (n : Nat) (S : List Value) : S.map (am_v adr) = (((S.take n).reverse).map (am_v adr)).reverse ++ (S.drop n).map (am_v adr) := by
  rw [List.map_reverse, List.reverse_reverse, ← List.map_append, List.take_append_drop]
set_option maxHeartbeats 4000000 in
theorem am_docall {P : Nat → Option am_M} {sh : List am_Sh} {ex : am_X} {aC : Nat → ClassId} {adr : Nat → Nat} {D : va_G} {n : Nat} (ih : am_Snd P sh ex aC adr D l n) (hPok : ∀ mi M, P mi = some M → am_ok P M)
    {d : Nat} {M M' : am_M} {pc len mi : Nat} {i : Instr} {L S as rest : List Value} {σ σ1 : am_S} {w : Option Value} {ls : Array Slot}
    (hM : am_ok P M) (C0 : am_Cx p s m args c M sh ex aC adr D) (hR : d + 1 + 1 ≤ R.frames ∧ 12 + 40 * (d + 1) ≤ R.locals) (hcs : cells ≤ R.cells ∧ slots ≤ R.slots)
    (hd : decode (am_by M) pc = .ok (i, len)) (hlen : am_il i = 0 ∨ len = am_il i) (h : am_ex P sh ex (d + 1) M pc i L S σ = some (.inr (.inr (mi, as, rest))))
    (hPm : P mi = some M') (hal : as.length ≤ am_ml M') (hw : am_run P sh ex n d M' 0 (am_pad (am_ml M') as) [] σ = some (w, σ1))
    (hP : va_P D am_cl (am_W aC adr sh σ) H) (hS : va_S (am_A adr sh) s.heap H locs) (hl : lv_has ls (am_ml M) (am_lv adr 0 L))
    (kk : ∀ (H1 : Heap) (locs1 : List Loc), va_P D am_cl (am_W aC adr sh σ1) H1 → va_S (am_A adr sh) s.heap H1 locs1 → W p l e R s m args below meth c H1 locs1 cells slots Q (F0 m (pc + 3) ls ((w.map (am_v adr)).toList ++ rest.map (am_v adr)))) :
    W p l e R s m args below meth c H locs cells slots Q (F0 m pc ls (S.map (am_v adr))) := by
  obtain ⟨hx, hb, hml, hown, hts, hK, hE, hinj⟩ := id C0
  have hM' := hPok mi M' hPm
  have hmet := am_met ih hinj (l := l) hM' hal hw
  obtain ⟨h1, h2, h3, h4⟩ := hM'.1
  have hroom : (am_room d).frames + 1 ≤ R.frames ∧ 8 + (am_ml M' + 11) + (am_room d).locals ≤ R.locals := by
    simp only [am_room]
    omega
  have hG : GoodIn am_tbl (am_ws M') := fun w hw => by
    rcases List.mem_cons.mp hw with q | q
    · rw [q]
      exact ⟨h2, am_good h2⟩
    · exact ⟨q, am_good q⟩
  have hfit : cells + 0 ≤ R.cells ∧ slots + 0 ≤ R.slots := hcs
  have hpre : ∀ U : State, U.heap = H → s.WarmedH U.vm → am_Wd sh ex aC adr D σ U := fun U hU hW => ⟨by rw [hU]; exact hP, va_K.moved hW.alike hK, by rw [hU]; exact am_EX.moved hW.alike (hE.kept hS.2.1)⟩
  cases i
  case invokevirtual k =>
    obtain rfl : len = 3 := by rcases hlen with q | q; exact absurd q (show ¬ (3 : Nat) = 0 by decide); exact q
    simp only [am_ex] at h
    split at h
    · rename_i mi' hmi
      split at h
      · rename_i M2 hM2
        split at h
        · rename_i ci hci
          split at h
          · rename_i cc rest' hdrop
            split at h
            · rename_i hc
              simp only [Option.some.injEq, Sum.inr.injEq, Prod.mk.injEq] at h
              obtain ⟨rfl, rfl, rfl⟩ := h
              rw [hPm] at hM2
              cases hM2
              obtain ⟨hc1, hc2, hc3⟩ := hc
              obtain ⟨M3, hM3, hlink, hini, hkind⟩ := hM.2.2.2.1 k mi' hmi
              rw [hPm] at hM3
              cases hM3
              rcases hkind with ⟨ci', T, N, e1, e2, e3, e4⟩ | ⟨e1, -⟩
              · rw [hci] at e1
                cases e1
                have hcl : ∃ fl, sh[cc]? = some (.inl (ci, fl)) := by
                  unfold am_cls at hc2
                  split at hc2
                  · rename_i q hq
                    cases hc2
                    exact ⟨q.2, hq⟩
                  · cases hc2
                obtain ⟨fl, hfl⟩ := hcl
                have hw2 : (am_W aC adr sh σ)[cc]? = some (adr cc, .inr (ci, am_fs adr σ cc fl)) := am_W_at (aC := aC) (adr := adr) (σ := σ) hfl
                have hcw : CallW R s args (am_y M).cls (am_y M').cls k (am_y M') (am_by M') (am_ml M') (am_rt M') (am_ws M') (am_room d) 0 0 (am_np M') := ⟨callB_of (am_np M') hts hG rfl rfl rfl (hts _ hini) (hts _ hlink) h4 hroom, hts _ e3, hts _ e4⟩
                refine am_call (va_runV (As := ((S.take (am_np M')).reverse).map (am_v adr)) (b := adr cc) (rest := rest'.map (am_v adr)) (Ts := am_tbl) ⟨hx, hb, hml, hown, hts⟩ hmet hcw ⟨am_Wd.blind, va_recv hK hP e2 hw2, fun U hU hW => ⟨rfl, hpre U hU hW⟩⟩ rfl (by rw [List.length_map, List.length_reverse]; exact hc1) hl.1 ?_ (lv_room (am_cat_le hc3)) hd hfit) hS kk
                show S.map (am_v adr) = _
                rw [am_rev_map adr (am_np M') S, hdrop]
                rfl
              · rw [hci] at e1
                cases e1
            · cases h
          · cases h
        · cases h
      · cases h
    · cases h
  case invokestatic k =>
    obtain rfl : len = 3 := by rcases hlen with q | q; exact absurd q (show ¬ (3 : Nat) = 0 by decide); exact q
    simp only [am_ex] at h
    split at h
    · split at h
      · split at h <;> cases h
      · cases h
    · split at h
      · rename_i mi' hmi
        split at h
        · rename_i M2 hM2
          split at h
          · rename_i hci
            split at h
            · rename_i hc
              simp only [Option.some.injEq, Sum.inr.injEq, Prod.mk.injEq] at h
              obtain ⟨rfl, rfl, rfl⟩ := h
              rw [hPm] at hM2
              cases hM2
              obtain ⟨hc1, hc3⟩ := hc
              obtain ⟨M3, hM3, hlink, hini, hkind⟩ := hM.2.2.2.1 k mi' hmi
              rw [hPm] at hM3
              cases hM3
              rcases hkind with ⟨ci', T, N, e1, -⟩ | ⟨-, e3⟩
              · rw [hci] at e1
                cases e1
              · have hcw : CallB R s args (am_y M).cls k (am_y M') (am_by M') (am_ml M') (am_rt M') (am_ws M') (am_room d) 0 0 (am_np M') ∧ (Cond.static (am_y M')).before args s = true := ⟨callB_of (am_np M') hts hG rfl rfl rfl (hts _ hini) (hts _ hlink) h4 hroom, hts _ e3⟩
                refine am_call (va_runS (As := ((S.take (am_np M')).reverse).map (am_v adr)) (rest := (S.drop (am_np M')).map (am_v adr)) (Ts := am_tbl) ⟨hx, hb, hml, hown, hts⟩ hmet hcw ⟨am_Wd.blind, fun U hU hW => ⟨rfl, hpre U hU hW⟩⟩ rfl (by rw [List.length_map, List.length_reverse]; exact hc1) hl.1 ?_ (lv_room (am_cat_le hc3)) hd hfit) hS kk
                exact am_rev_map adr (am_np M') S
            · cases h
          · cases h
        · cases h
      · cases h
  all_goals (exfalso; simp only [am_ex, am_nx] at h; first | (cases h; done) | ((repeat' split at h) <;> cases h))
set_option maxHeartbeats 4000000 in
theorem am_sound {P : Nat → Option am_M} {sh : List am_Sh} {ex : am_X} {aC : Nat → ClassId} {adr : Nat → Nat} {D : va_G} {l : Launch} (hPok : ∀ mi M, P mi = some M → am_ok P M) : ∀ n, am_Snd P sh ex aC adr D l n
  | 0 => fun d M pc L S σ v σ' _ h => by simp [am_run] at h
  | n + 1 => by
    intro d M pc L S σ v σ' hM h p e R s m args below meth c H locs cells slots Q ls C0 hR hcs hP hS hl hL hret
    have ih := am_sound (sh := sh) (ex := ex) (aC := aC) (adr := adr) (D := D) (l := l) hPok n
    unfold am_run at h
    generalize hst : am_step P sh ex d M pc L S σ = r at h
    unfold am_step at hst
    cases hco : am_co M pc with
    | none => rw [hco] at hst; subst hst; cases h
    | some q =>
      rw [hco] at hst
      obtain ⟨i, len⟩ := q
      obtain ⟨hdec, hlen⟩ := hM.2.1 pc _ hco
      dsimp only at hst hlen
      match r, hst, h with
      | some (.inl (pc', L', S', σ1)), hst, h =>
        exact am_next hM C0 hR hdec hlen hst hP hS hl hL (fun H' locs' ls' hP' hS' hl' hL' => ih d M pc' L' S' σ1 v σ' hM h p e R s m args below meth c H' locs' cells slots Q ls' C0 hR hcs hP' hS' hl' hL' hret)
      | some (.inr (.inl w)), hst, h =>
        simp only [Option.some.injEq, Prod.mk.injEq] at h
        obtain ⟨rfl, rfl⟩ := h
        have hz : ∃ i', am_end M w i' ∧ decode (am_by M) pc = .ok (i', 1) ∧ S = w.toList := am_ret hdec hlen hst
        obtain ⟨i', he, hd', hS0⟩ := hz
        have := hret pc i' ls H locs hd' he hP hS
        rw [hS0]
        cases w with
        | none => exact this
        | some w => exact this
      | some (.inr (.inr (mi, as, rest))), hst, h =>
        cases d with
        | zero => cases h
        | succ d' =>
          dsimp only at h
          cases hPm : P mi with
          | none => rw [hPm] at h; cases h
          | some M' =>
            rw [hPm] at h
            dsimp only at h
            split at h
            · rename_i hal
              split at h
              · rename_i w σ1 hw
                exact am_docall ih hPok hM C0 hR hcs hdec hlen hst hPm hal hw hP hS hl (fun H1 locs1 hP1 hS1 => by
                  have := ih (d' + 1) M (pc + 3) L (w.toList ++ rest) σ1 v σ' hM h p e R s m args below meth c H1 locs1 cells slots Q ls C0 hR hcs hP1 hS1 hl hL hret
                  cases w with
                  | none => exact this
                  | some w => exact this)
              · cases h
            · cases h
      | none, hst, h => cases h
end AMR
end
