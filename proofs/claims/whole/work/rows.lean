section
-- ===== PART A: goes FIRST, ahead of the names: the tables' words, and 'selects' of the private methods out of them =====
/-- a private method of a class that the tables say can be made, by its rows of tables_1 -/
def lw_okq (q : MethodName × Nat) : Prop := (q.1.cls ≠ "java/lang/invoke/MethodHandle" ∧ q.1.cls ≠ "java/lang/invoke/VarHandle") ∧ Cond.instantiable q.1.cls q.2 ∈ tables_1 ∧ Cond.privateMethod q.1 ∈ tables_1 ∧ Cond.instanceMethod q.1 ∈ tables_1
theorem lw_p0 : lw_okq (⟨"PartedLand", "finding", "(I)I"⟩, 13) := ⟨⟨by decide +kernel, by decide +kernel⟩, List.mem_of_getElem? (i := 18) (by decide +kernel), List.mem_of_getElem? (i := 442) (by decide +kernel), List.mem_of_getElem? (i := 443) (by decide +kernel)⟩
theorem lw_p1 : lw_okq (⟨"PartedLand", "isPlaceOf", "(II)Z"⟩, 13) := ⟨⟨by decide +kernel, by decide +kernel⟩, List.mem_of_getElem? (i := 18) (by decide +kernel), List.mem_of_getElem? (i := 723) (by decide +kernel), List.mem_of_getElem? (i := 724) (by decide +kernel)⟩
theorem lw_p2 : lw_okq (⟨"PartedLand", "partThings", "()V"⟩, 13) := ⟨⟨by decide +kernel, by decide +kernel⟩, List.mem_of_getElem? (i := 18) (by decide +kernel), List.mem_of_getElem? (i := 773) (by decide +kernel), List.mem_of_getElem? (i := 774) (by decide +kernel)⟩
theorem lw_p3 : lw_okq (⟨"PartedLandModel", "finding", "(I)I"⟩, 67) := ⟨⟨by decide +kernel, by decide +kernel⟩, List.mem_of_getElem? (i := 1035) (by decide +kernel), List.mem_of_getElem? (i := 1250) (by decide +kernel), List.mem_of_getElem? (i := 1251) (by decide +kernel)⟩
theorem lw_p4 : lw_okq (⟨"PartedLandModel", "isParish", "(I)Z"⟩, 67) := ⟨⟨by decide +kernel, by decide +kernel⟩, List.mem_of_getElem? (i := 1035) (by decide +kernel), List.mem_of_getElem? (i := 1259) (by decide +kernel), List.mem_of_getElem? (i := 1260) (by decide +kernel)⟩
theorem lw_p5 : lw_okq (⟨"PartedLandModel", "sideOf", "(I)I"⟩, 67) := ⟨⟨by decide +kernel, by decide +kernel⟩, List.mem_of_getElem? (i := 1035) (by decide +kernel), List.mem_of_getElem? (i := 1282) (by decide +kernel), List.mem_of_getElem? (i := 1283) (by decide +kernel)⟩
theorem lw_p6 : lw_okq (⟨"PartedLandModel", "lineAt", "(I)I"⟩, 67) := ⟨⟨by decide +kernel, by decide +kernel⟩, List.mem_of_getElem? (i := 1035) (by decide +kernel), List.mem_of_getElem? (i := 1286) (by decide +kernel), List.mem_of_getElem? (i := 1287) (by decide +kernel)⟩
theorem lw_p7 : lw_okq (⟨"PartedLandModel", "isEnclave", "(I)Z"⟩, 67) := ⟨⟨by decide +kernel, by decide +kernel⟩, List.mem_of_getElem? (i := 1035) (by decide +kernel), List.mem_of_getElem? (i := 1294) (by decide +kernel), List.mem_of_getElem? (i := 1295) (by decide +kernel)⟩
theorem lw_p8 : lw_okq (⟨"PartedLandModel", "tellWays", "(Z)V"⟩, 67) := ⟨⟨by decide +kernel, by decide +kernel⟩, List.mem_of_getElem? (i := 1035) (by decide +kernel), List.mem_of_getElem? (i := 1302) (by decide +kernel), List.mem_of_getElem? (i := 1303) (by decide +kernel)⟩
theorem lw_p9 : lw_okq (⟨"PartedLandModel", "isPerson", "(I)Z"⟩, 67) := ⟨⟨by decide +kernel, by decide +kernel⟩, List.mem_of_getElem? (i := 1035) (by decide +kernel), List.mem_of_getElem? (i := 1315) (by decide +kernel), List.mem_of_getElem? (i := 1316) (by decide +kernel)⟩
theorem lw_p10 : lw_okq (⟨"PartedLandModel", "readLaw", "(I)I"⟩, 67) := ⟨⟨by decide +kernel, by decide +kernel⟩, List.mem_of_getElem? (i := 1035) (by decide +kernel), List.mem_of_getElem? (i := 1331) (by decide +kernel), List.mem_of_getElem? (i := 1332) (by decide +kernel)⟩
theorem lw_p11 : lw_okq (⟨"PartedLandModel", "read", "([III)I"⟩, 67) := ⟨⟨by decide +kernel, by decide +kernel⟩, List.mem_of_getElem? (i := 1035) (by decide +kernel), List.mem_of_getElem? (i := 1335) (by decide +kernel), List.mem_of_getElem? (i := 1336) (by decide +kernel)⟩
theorem lw_p12 : lw_okq (⟨"PartedLandModel", "isGround", "(I)Z"⟩, 67) := ⟨⟨by decide +kernel, by decide +kernel⟩, List.mem_of_getElem? (i := 1035) (by decide +kernel), List.mem_of_getElem? (i := 1339) (by decide +kernel), List.mem_of_getElem? (i := 1340) (by decide +kernel)⟩
theorem lw_p13 : lw_okq (⟨"PartedLandModel", "whoseBy", "(I)I"⟩, 67) := ⟨⟨by decide +kernel, by decide +kernel⟩, List.mem_of_getElem? (i := 1035) (by decide +kernel), List.mem_of_getElem? (i := 1343) (by decide +kernel), List.mem_of_getElem? (i := 1344) (by decide +kernel)⟩
theorem lw_p14 : lw_okq (⟨"PartedLandModel", "unlike", "(II)I"⟩, 67) := ⟨⟨by decide +kernel, by decide +kernel⟩, List.mem_of_getElem? (i := 1035) (by decide +kernel), List.mem_of_getElem? (i := 1359) (by decide +kernel), List.mem_of_getElem? (i := 1360) (by decide +kernel)⟩
theorem lw_p15 : lw_okq (⟨"PartedLandModel", "isThing", "(I)Z"⟩, 67) := ⟨⟨by decide +kernel, by decide +kernel⟩, List.mem_of_getElem? (i := 1035) (by decide +kernel), List.mem_of_getElem? (i := 1375) (by decide +kernel), List.mem_of_getElem? (i := 1376) (by decide +kernel)⟩
def lw_privs_1 : List (MethodName × Nat) := [(⟨"PartedLand", "finding", "(I)I"⟩, 13), (⟨"PartedLand", "isPlaceOf", "(II)Z"⟩, 13), (⟨"PartedLand", "partThings", "()V"⟩, 13), (⟨"PartedLandModel", "finding", "(I)I"⟩, 67), (⟨"PartedLandModel", "isParish", "(I)Z"⟩, 67), (⟨"PartedLandModel", "sideOf", "(I)I"⟩, 67), (⟨"PartedLandModel", "lineAt", "(I)I"⟩, 67), (⟨"PartedLandModel", "isEnclave", "(I)Z"⟩, 67), (⟨"PartedLandModel", "tellWays", "(Z)V"⟩, 67), (⟨"PartedLandModel", "isPerson", "(I)Z"⟩, 67), (⟨"PartedLandModel", "readLaw", "(I)I"⟩, 67), (⟨"PartedLandModel", "read", "([III)I"⟩, 67), (⟨"PartedLandModel", "isGround", "(I)Z"⟩, 67), (⟨"PartedLandModel", "whoseBy", "(I)I"⟩, 67), (⟨"PartedLandModel", "unlike", "(II)I"⟩, 67), (⟨"PartedLandModel", "isThing", "(I)Z"⟩, 67)]
theorem lw_r1 : ∀ q ∈ lw_privs_1, lw_okq q := List.forall_mem_cons.mpr ⟨lw_p0, List.forall_mem_cons.mpr ⟨lw_p1, List.forall_mem_cons.mpr ⟨lw_p2, List.forall_mem_cons.mpr ⟨lw_p3, List.forall_mem_cons.mpr ⟨lw_p4, List.forall_mem_cons.mpr ⟨lw_p5, List.forall_mem_cons.mpr ⟨lw_p6, List.forall_mem_cons.mpr ⟨lw_p7, List.forall_mem_cons.mpr ⟨lw_p8, List.forall_mem_cons.mpr ⟨lw_p9, List.forall_mem_cons.mpr ⟨lw_p10, List.forall_mem_cons.mpr ⟨lw_p11, List.forall_mem_cons.mpr ⟨lw_p12, List.forall_mem_cons.mpr ⟨lw_p13, List.forall_mem_cons.mpr ⟨lw_p14, List.forall_mem_cons.mpr ⟨lw_p15, fun _ h => absurd h List.not_mem_nil⟩⟩⟩⟩⟩⟩⟩⟩⟩⟩⟩⟩⟩⟩⟩⟩
theorem lw_p16 : lw_okq (⟨"PartedLandModel", "whereOf", "(I)I"⟩, 67) := ⟨⟨by decide +kernel, by decide +kernel⟩, List.mem_of_getElem? (i := 1035) (by decide +kernel), List.mem_of_getElem? (i := 1398) (by decide +kernel), List.mem_of_getElem? (i := 1399) (by decide +kernel)⟩
theorem lw_p17 : lw_okq (⟨"PartedLandModel", "tellGroups", "()V"⟩, 67) := ⟨⟨by decide +kernel, by decide +kernel⟩, List.mem_of_getElem? (i := 1035) (by decide +kernel), List.mem_of_getElem? (i := 1402) (by decide +kernel), List.mem_of_getElem? (i := 1403) (by decide +kernel)⟩
theorem lw_p18 : lw_okq (⟨"PartedLandModel", "counts", "(I)Z"⟩, 67) := ⟨⟨by decide +kernel, by decide +kernel⟩, List.mem_of_getElem? (i := 1035) (by decide +kernel), List.mem_of_getElem? (i := 1406) (by decide +kernel), List.mem_of_getElem? (i := 1407) (by decide +kernel)⟩
theorem lw_p19 : lw_okq (⟨"PartedLandModel", "parting", "()I"⟩, 67) := ⟨⟨by decide +kernel, by decide +kernel⟩, List.mem_of_getElem? (i := 1035) (by decide +kernel), List.mem_of_getElem? (i := 1410) (by decide +kernel), List.mem_of_getElem? (i := 1411) (by decide +kernel)⟩
theorem lw_p20 : lw_okq (⟨"PartedLandModel", "wanted", "()I"⟩, 67) := ⟨⟨by decide +kernel, by decide +kernel⟩, List.mem_of_getElem? (i := 1035) (by decide +kernel), List.mem_of_getElem? (i := 1414) (by decide +kernel), List.mem_of_getElem? (i := 1415) (by decide +kernel)⟩
theorem lw_p21 : lw_okq (⟨"PartedLandModel", "allWorth", "()I"⟩, 67) := ⟨⟨by decide +kernel, by decide +kernel⟩, List.mem_of_getElem? (i := 1035) (by decide +kernel), List.mem_of_getElem? (i := 1418) (by decide +kernel), List.mem_of_getElem? (i := 1419) (by decide +kernel)⟩
theorem lw_p22 : lw_okq (⟨"PartedLandModel", "sumOf", "(I)I"⟩, 67) := ⟨⟨by decide +kernel, by decide +kernel⟩, List.mem_of_getElem? (i := 1035) (by decide +kernel), List.mem_of_getElem? (i := 1423) (by decide +kernel), List.mem_of_getElem? (i := 1424) (by decide +kernel)⟩
theorem lw_p23 : lw_okq (⟨"PartedLandModel", "carries", "(I)I"⟩, 67) := ⟨⟨by decide +kernel, by decide +kernel⟩, List.mem_of_getElem? (i := 1035) (by decide +kernel), List.mem_of_getElem? (i := 1443) (by decide +kernel), List.mem_of_getElem? (i := 1444) (by decide +kernel)⟩
theorem lw_p24 : lw_okq (⟨"PartedLandModel", "isWagon", "(I)Z"⟩, 67) := ⟨⟨by decide +kernel, by decide +kernel⟩, List.mem_of_getElem? (i := 1035) (by decide +kernel), List.mem_of_getElem? (i := 1455) (by decide +kernel), List.mem_of_getElem? (i := 1456) (by decide +kernel)⟩
theorem lw_p25 : lw_okq (⟨"PartedLandModel", "placeOn", "(II)I"⟩, 67) := ⟨⟨by decide +kernel, by decide +kernel⟩, List.mem_of_getElem? (i := 1035) (by decide +kernel), List.mem_of_getElem? (i := 1459) (by decide +kernel), List.mem_of_getElem? (i := 1460) (by decide +kernel)⟩
theorem lw_p26 : lw_okq (⟨"PartedLandModel", "railBetween", "(II)I"⟩, 67) := ⟨⟨by decide +kernel, by decide +kernel⟩, List.mem_of_getElem? (i := 1035) (by decide +kernel), List.mem_of_getElem? (i := 1463) (by decide +kernel), List.mem_of_getElem? (i := 1464) (by decide +kernel)⟩
theorem lw_p27 : lw_okq (⟨"PartedLandModel", "isCase", "(I)Z"⟩, 67) := ⟨⟨by decide +kernel, by decide +kernel⟩, List.mem_of_getElem? (i := 1035) (by decide +kernel), List.mem_of_getElem? (i := 1491) (by decide +kernel), List.mem_of_getElem? (i := 1492) (by decide +kernel)⟩
theorem lw_p28 : lw_okq (⟨"PartedLandModel", "courtOf", "(I)I"⟩, 67) := ⟨⟨by decide +kernel, by decide +kernel⟩, List.mem_of_getElem? (i := 1035) (by decide +kernel), List.mem_of_getElem? (i := 1495) (by decide +kernel), List.mem_of_getElem? (i := 1496) (by decide +kernel)⟩
theorem lw_p29 : lw_okq (⟨"PartedLandModel", "isTask", "(I)Z"⟩, 67) := ⟨⟨by decide +kernel, by decide +kernel⟩, List.mem_of_getElem? (i := 1035) (by decide +kernel), List.mem_of_getElem? (i := 1511) (by decide +kernel), List.mem_of_getElem? (i := 1512) (by decide +kernel)⟩
theorem lw_p30 : lw_okq (⟨"PartedLandModel", "tellTasks", "()V"⟩, 67) := ⟨⟨by decide +kernel, by decide +kernel⟩, List.mem_of_getElem? (i := 1035) (by decide +kernel), List.mem_of_getElem? (i := 1519) (by decide +kernel), List.mem_of_getElem? (i := 1520) (by decide +kernel)⟩
theorem lw_p31 : lw_okq (⟨"PartedLandModel", "daysOf", "(I)I"⟩, 67) := ⟨⟨by decide +kernel, by decide +kernel⟩, List.mem_of_getElem? (i := 1035) (by decide +kernel), List.mem_of_getElem? (i := 1523) (by decide +kernel), List.mem_of_getElem? (i := 1524) (by decide +kernel)⟩
def lw_privs_2 : List (MethodName × Nat) := [(⟨"PartedLandModel", "whereOf", "(I)I"⟩, 67), (⟨"PartedLandModel", "tellGroups", "()V"⟩, 67), (⟨"PartedLandModel", "counts", "(I)Z"⟩, 67), (⟨"PartedLandModel", "parting", "()I"⟩, 67), (⟨"PartedLandModel", "wanted", "()I"⟩, 67), (⟨"PartedLandModel", "allWorth", "()I"⟩, 67), (⟨"PartedLandModel", "sumOf", "(I)I"⟩, 67), (⟨"PartedLandModel", "carries", "(I)I"⟩, 67), (⟨"PartedLandModel", "isWagon", "(I)Z"⟩, 67), (⟨"PartedLandModel", "placeOn", "(II)I"⟩, 67), (⟨"PartedLandModel", "railBetween", "(II)I"⟩, 67), (⟨"PartedLandModel", "isCase", "(I)Z"⟩, 67), (⟨"PartedLandModel", "courtOf", "(I)I"⟩, 67), (⟨"PartedLandModel", "isTask", "(I)Z"⟩, 67), (⟨"PartedLandModel", "tellTasks", "()V"⟩, 67), (⟨"PartedLandModel", "daysOf", "(I)I"⟩, 67)]
theorem lw_r2 : ∀ q ∈ lw_privs_2, lw_okq q := List.forall_mem_cons.mpr ⟨lw_p16, List.forall_mem_cons.mpr ⟨lw_p17, List.forall_mem_cons.mpr ⟨lw_p18, List.forall_mem_cons.mpr ⟨lw_p19, List.forall_mem_cons.mpr ⟨lw_p20, List.forall_mem_cons.mpr ⟨lw_p21, List.forall_mem_cons.mpr ⟨lw_p22, List.forall_mem_cons.mpr ⟨lw_p23, List.forall_mem_cons.mpr ⟨lw_p24, List.forall_mem_cons.mpr ⟨lw_p25, List.forall_mem_cons.mpr ⟨lw_p26, List.forall_mem_cons.mpr ⟨lw_p27, List.forall_mem_cons.mpr ⟨lw_p28, List.forall_mem_cons.mpr ⟨lw_p29, List.forall_mem_cons.mpr ⟨lw_p30, List.forall_mem_cons.mpr ⟨lw_p31, fun _ h => absurd h List.not_mem_nil⟩⟩⟩⟩⟩⟩⟩⟩⟩⟩⟩⟩⟩⟩⟩⟩
theorem lw_p32 : lw_okq (⟨"PartedLandModel", "canFollow", "(II)Z"⟩, 67) := ⟨⟨by decide +kernel, by decide +kernel⟩, List.mem_of_getElem? (i := 1035) (by decide +kernel), List.mem_of_getElem? (i := 1527) (by decide +kernel), List.mem_of_getElem? (i := 1528) (by decide +kernel)⟩
theorem lw_p33 : lw_okq (⟨"PartedLandModel", "nobodys", "()I"⟩, 67) := ⟨⟨by decide +kernel, by decide +kernel⟩, List.mem_of_getElem? (i := 1035) (by decide +kernel), List.mem_of_getElem? (i := 1543) (by decide +kernel), List.mem_of_getElem? (i := 1544) (by decide +kernel)⟩
def lw_privs_3 : List (MethodName × Nat) := [(⟨"PartedLandModel", "canFollow", "(II)Z"⟩, 67), (⟨"PartedLandModel", "nobodys", "()I"⟩, 67)]
theorem lw_r3 : ∀ q ∈ lw_privs_3, lw_okq q := List.forall_mem_cons.mpr ⟨lw_p32, List.forall_mem_cons.mpr ⟨lw_p33, fun _ h => absurd h List.not_mem_nil⟩⟩
def lw_privs : List (MethodName × Nat) := lw_privs_1 ++ (lw_privs_2 ++ (lw_privs_3))
def lw_tbl : List Cond := k2_sels lw_privs ++ tables_1
theorem lw_privs_ok : ∀ q ∈ lw_privs, lw_okq q := by
  show ∀ q ∈ lw_privs_1 ++ (lw_privs_2 ++ (lw_privs_3)), lw_okq q
  exact List.forall_mem_append.mpr ⟨lw_r1, List.forall_mem_append.mpr ⟨lw_r2, lw_r3⟩⟩
end
section
-- class names, field tables (printed names of the claim)
def RX0 : String := "PartedLand$Cases"
def TX0 : u_T := fun k => match k with
  | 0 => ("PartedLand$Cases", "courts", "[I", true)
  | 1 => ("PartedLand$Cases", "persons", "[I", true)
  | 2 => ("PartedLand$Cases", "stages", "[I", true)
  | 3 => ("PartedLand$Cases", "papers", "[I", true)
  | _ => ("PartedLand$Cases", "cases", "I", false)
def tyX0 : Nat → FieldType := fun k => match k with
  | 0 => .array .int
  | 1 => .array .int
  | 2 => .array .int
  | 3 => .array .int
  | _ => .int
theorem nmX0 : ∀ a, a < 5 → ∀ b, b < 5 → a ≠ b → (TX0 a).2.1 ≠ (TX0 b).2.1 := by decide +kernel
theorem tyX0_ok : ∀ k, k < 5 → parseFieldDescriptor (TX0 k).2.2.1 = some (tyX0 k) := by decide +kernel
def RX1 : String := "PartedLand$Estate"
def TX1 : u_T := fun k => match k with
  | 0 => ("PartedLand$Estate", "kinds", "[I", true)
  | 1 => ("PartedLand$Estate", "places", "[I", true)
  | 2 => ("PartedLand$Estate", "worths", "[I", true)
  | 3 => ("PartedLand$Estate", "copied", "[Z", true)
  | 4 => ("PartedLand$Estate", "tiedOnes", "[I", true)
  | 5 => ("PartedLand$Estate", "tiedOthers", "[I", true)
  | 6 => ("PartedLand$Estate", "things", "I", false)
  | _ => ("PartedLand$Estate", "ties", "I", false)
def tyX1 : Nat → FieldType := fun k => match k with
  | 0 => .array .int
  | 1 => .array .int
  | 2 => .array .int
  | 3 => .array .boolean
  | 4 => .array .int
  | 5 => .array .int
  | 6 => .int
  | _ => .int
theorem nmX1 : ∀ a, a < 8 → ∀ b, b < 8 → a ≠ b → (TX1 a).2.1 ≠ (TX1 b).2.1 := by decide +kernel
theorem tyX1_ok : ∀ k, k < 8 → parseFieldDescriptor (TX1 k).2.2.1 = some (tyX1 k) := by decide +kernel
def RX2 : String := "PartedLand$Houses"
def TX2 : u_T := fun k => match k with
  | 0 => ("PartedLand$Houses", "tape", "LPartedLand$Text;", true)
  | 1 => ("PartedLand$Houses", "first", "LPartedLand$Text;", true)
  | 2 => ("PartedLand$Houses", "second", "LPartedLand$Text;", true)
  | 3 => ("PartedLand$Houses", "law", "LPartedLand$Text;", true)
  | 4 => ("PartedLand$Houses", "firstProposed", "Z", false)
  | 5 => ("PartedLand$Houses", "secondProposed", "Z", false)
  | _ => ("PartedLand$Houses", "lawSince", "I", false)
def tyX2 : Nat → FieldType := fun k => match k with
  | 0 => .object "PartedLand$Text"
  | 1 => .object "PartedLand$Text"
  | 2 => .object "PartedLand$Text"
  | 3 => .object "PartedLand$Text"
  | 4 => .boolean
  | 5 => .boolean
  | _ => .int
theorem nmX2 : ∀ a, a < 7 → ∀ b, b < 7 → a ≠ b → (TX2 a).2.1 ≠ (TX2 b).2.1 := by decide +kernel
theorem tyX2_ok : ∀ k, k < 7 → parseFieldDescriptor (TX2 k).2.2.1 = some (tyX2 k) := by decide +kernel
def RX3 : String := "PartedLand$Land"
def TX3 : u_T := fun k => match k with
  | 0 => ("PartedLand$Land", "xs", "[I", true)
  | 1 => ("PartedLand$Land", "ys", "[I", true)
  | 2 => ("PartedLand$Land", "settled", "[I", true)
  | 3 => ("PartedLand$Land", "seats", "[I", true)
  | 4 => ("PartedLand$Land", "ends", "[I", true)
  | 5 => ("PartedLand$Land", "otherEnds", "[I", true)
  | 6 => ("PartedLand$Land", "edgeDays", "[I", true)
  | 7 => ("PartedLand$Land", "rails", "[Z", true)
  | 8 => ("PartedLand$Land", "pegXs", "[I", true)
  | 9 => ("PartedLand$Land", "pegYs", "[I", true)
  | 10 => ("PartedLand$Land", "away", "[I", true)
  | 11 => ("PartedLand$Land", "parishes", "I", false)
  | 12 => ("PartedLand$Land", "edges", "I", false)
  | _ => ("PartedLand$Land", "pegs", "I", false)
def tyX3 : Nat → FieldType := fun k => match k with
  | 0 => .array .int
  | 1 => .array .int
  | 2 => .array .int
  | 3 => .array .int
  | 4 => .array .int
  | 5 => .array .int
  | 6 => .array .int
  | 7 => .array .boolean
  | 8 => .array .int
  | 9 => .array .int
  | 10 => .array .int
  | 11 => .int
  | 12 => .int
  | _ => .int
theorem nmX3 : ∀ a, a < 14 → ∀ b, b < 14 → a ≠ b → (TX3 a).2.1 ≠ (TX3 b).2.1 := by decide +kernel
theorem tyX3_ok : ∀ k, k < 14 → parseFieldDescriptor (TX3 k).2.2.1 = some (tyX3 k) := by decide +kernel
def RX4 : String := "PartedLand$Parting"
def TX4 : u_T := fun k => match k with
  | 0 => ("PartedLand$Parting", "roots", "[I", true)
  | 1 => ("PartedLand$Parting", "groupOfRoot", "[I", true)
  | 2 => ("PartedLand$Parting", "groupOfThing", "[I", true)
  | 3 => ("PartedLand$Parting", "groupWorths", "[I", true)
  | 4 => ("PartedLand$Parting", "changes", "[I", true)
  | 5 => ("PartedLand$Parting", "isKnown", "Z", false)
  | 6 => ("PartedLand$Parting", "groups", "I", false)
  | 7 => ("PartedLand$Parting", "total", "I", false)
  | 8 => ("PartedLand$Parting", "rest", "I", false)
  | _ => ("PartedLand$Parting", "leaving", "I", false)
def tyX4 : Nat → FieldType := fun k => match k with
  | 0 => .array .int
  | 1 => .array .int
  | 2 => .array .int
  | 3 => .array .int
  | 4 => .array .int
  | 5 => .boolean
  | 6 => .int
  | 7 => .int
  | 8 => .int
  | _ => .int
theorem nmX4 : ∀ a, a < 10 → ∀ b, b < 10 → a ≠ b → (TX4 a).2.1 ≠ (TX4 b).2.1 := by decide +kernel
theorem tyX4_ok : ∀ k, k < 10 → parseFieldDescriptor (TX4 k).2.2.1 = some (tyX4 k) := by decide +kernel
def RX5 : String := "PartedLand$People"
def TX5 : u_T := fun k => match k with
  | 0 => ("PartedLand$People", "births", "[I", true)
  | 1 => ("PartedLand$People", "homes", "[I", true)
  | 2 => ("PartedLand$People", "firstMonths", "[I", true)
  | 3 => ("PartedLand$People", "secondMonths", "[I", true)
  | 4 => ("PartedLand$People", "choices", "[I", true)
  | 5 => ("PartedLand$People", "choiceDays", "[I", true)
  | 6 => ("PartedLand$People", "hoards", "[I", true)
  | _ => ("PartedLand$People", "persons", "I", false)
def tyX5 : Nat → FieldType := fun k => match k with
  | 0 => .array .int
  | 1 => .array .int
  | 2 => .array .int
  | 3 => .array .int
  | 4 => .array .int
  | 5 => .array .int
  | 6 => .array .int
  | _ => .int
theorem nmX5 : ∀ a, a < 8 → ∀ b, b < 8 → a ≠ b → (TX5 a).2.1 ≠ (TX5 b).2.1 := by decide +kernel
theorem tyX5_ok : ∀ k, k < 8 → parseFieldDescriptor (TX5 k).2.2.1 = some (tyX5 k) := by decide +kernel
def RX6 : String := "PartedLand$Tasks"
def TX6 : u_T := fun k => match k with
  | 0 => ("PartedLand$Tasks", "taskDays", "[I", true)
  | 1 => ("PartedLand$Tasks", "needed", "[I", true)
  | 2 => ("PartedLand$Tasks", "trial", "[I", true)
  | 3 => ("PartedLand$Tasks", "bestOrder", "[I", true)
  | 4 => ("PartedLand$Tasks", "tasks", "I", false)
  | 5 => ("PartedLand$Tasks", "bestCount", "I", false)
  | _ => ("PartedLand$Tasks", "bestDays", "I", false)
def tyX6 : Nat → FieldType := fun k => match k with
  | 0 => .array .int
  | 1 => .array .int
  | 2 => .array .int
  | 3 => .array .int
  | 4 => .int
  | 5 => .int
  | _ => .int
theorem nmX6 : ∀ a, a < 7 → ∀ b, b < 7 → a ≠ b → (TX6 a).2.1 ≠ (TX6 b).2.1 := by decide +kernel
theorem tyX6_ok : ∀ k, k < 7 → parseFieldDescriptor (TX6 k).2.2.1 = some (tyX6 k) := by decide +kernel
def RX7 : String := "PartedLand$Text"
def TX7 : u_T := fun k => match k with
  | 0 => ("PartedLand$Text", "bytes", "[I", true)
  | 1 => ("PartedLand$Text", "grounds", "[I", true)
  | 2 => ("PartedLand$Text", "length", "I", false)
  | 3 => ("PartedLand$Text", "groundCount", "I", false)
  | 4 => ("PartedLand$Text", "lastChoiceDay", "I", false)
  | 5 => ("PartedLand$Text", "share", "I", false)
  | 6 => ("PartedLand$Text", "debtsByLand", "Z", false)
  | 7 => ("PartedLand$Text", "courtStage", "I", false)
  | _ => ("PartedLand$Text", "hours", "I", false)
def tyX7 : Nat → FieldType := fun k => match k with
  | 0 => .array .int
  | 1 => .array .int
  | 2 => .int
  | 3 => .int
  | 4 => .int
  | 5 => .int
  | 6 => .boolean
  | 7 => .int
  | _ => .int
theorem nmX7 : ∀ a, a < 9 → ∀ b, b < 9 → a ≠ b → (TX7 a).2.1 ≠ (TX7 b).2.1 := by decide +kernel
theorem tyX7_ok : ∀ k, k < 9 → parseFieldDescriptor (TX7 k).2.2.1 = some (tyX7 k) := by decide +kernel
def RX8 : String := "PartedLand$Wagons"
def TX8 : u_T := fun k => match k with
  | 0 => ("PartedLand$Wagons", "owners", "[I", true)
  | 1 => ("PartedLand$Wagons", "stopCounts", "[I", true)
  | 2 => ("PartedLand$Wagons", "stops", "[[I", true)
  | 3 => ("PartedLand$Wagons", "arrivals", "[[I", true)
  | _ => ("PartedLand$Wagons", "wagons", "I", false)
def tyX8 : Nat → FieldType := fun k => match k with
  | 0 => .array .int
  | 1 => .array .int
  | 2 => .array (.array .int)
  | 3 => .array (.array .int)
  | _ => .int
theorem nmX8 : ∀ a, a < 5 → ∀ b, b < 5 → a ≠ b → (TX8 a).2.1 ≠ (TX8 b).2.1 := by decide +kernel
theorem tyX8_ok : ∀ k, k < 5 → parseFieldDescriptor (TX8 k).2.2.1 = some (tyX8 k) := by decide +kernel
def RX9 : String := "PartedLand$Week"
def TX9 : u_T := fun k => match k with
  | 0 => ("PartedLand$Week", "firstRate", "I", false)
  | 1 => ("PartedLand$Week", "secondRate", "I", false)
  | 2 => ("PartedLand$Week", "limit", "I", false)
  | _ => ("PartedLand$Week", "dayCount", "I", false)
def tyX9 : Nat → FieldType := fun k => match k with
  | 0 => .int
  | 1 => .int
  | 2 => .int
  | _ => .int
theorem nmX9 : ∀ a, a < 4 → ∀ b, b < 4 → a ≠ b → (TX9 a).2.1 ≠ (TX9 b).2.1 := by decide +kernel
theorem tyX9_ok : ∀ k, k < 4 → parseFieldDescriptor (TX9 k).2.2.1 = some (tyX9 k) := by decide +kernel
def RX10 : String := "PartedLand"
def TX10 : u_T := fun k => match k with
  | 0 => ("PartedLand", "land", "LPartedLand$Land;", true)
  | 1 => ("PartedLand", "people", "LPartedLand$People;", true)
  | 2 => ("PartedLand", "houses", "LPartedLand$Houses;", true)
  | 3 => ("PartedLand", "estate", "LPartedLand$Estate;", true)
  | 4 => ("PartedLand", "parting", "LPartedLand$Parting;", true)
  | 5 => ("PartedLand", "coinWeek", "LPartedLand$Week;", true)
  | 6 => ("PartedLand", "wagons", "LPartedLand$Wagons;", true)
  | 7 => ("PartedLand", "cases", "LPartedLand$Cases;", true)
  | 8 => ("PartedLand", "tasks", "LPartedLand$Tasks;", true)
  | 9 => ("PartedLand", "findings", "[I", true)
  | 10 => ("PartedLand", "waiting", "[I", true)
  | 11 => ("PartedLand", "waitingCount", "I", false)
  | _ => ("PartedLand", "today", "I", false)
def tyX10 : Nat → FieldType := fun k => match k with
  | 0 => .object "PartedLand$Land"
  | 1 => .object "PartedLand$People"
  | 2 => .object "PartedLand$Houses"
  | 3 => .object "PartedLand$Estate"
  | 4 => .object "PartedLand$Parting"
  | 5 => .object "PartedLand$Week"
  | 6 => .object "PartedLand$Wagons"
  | 7 => .object "PartedLand$Cases"
  | 8 => .object "PartedLand$Tasks"
  | 9 => .array .int
  | 10 => .array .int
  | 11 => .int
  | _ => .int
theorem nmX10 : ∀ a, a < 13 → ∀ b, b < 13 → a ≠ b → (TX10 a).2.1 ≠ (TX10 b).2.1 := by decide +kernel
theorem tyX10_ok : ∀ k, k < 13 → parseFieldDescriptor (TX10 k).2.2.1 = some (tyX10 k) := by decide +kernel
def RX11 : String := "PartedLandModel"
def TX11 : u_T := fun k => match k with
  | 0 => ("PartedLandModel", "today", "I", false)
  | 1 => ("PartedLandModel", "parishes", "I", false)
  | 2 => ("PartedLandModel", "px", "[I", true)
  | 3 => ("PartedLandModel", "py", "[I", true)
  | 4 => ("PartedLandModel", "settled", "[I", true)
  | 5 => ("PartedLandModel", "edges", "I", false)
  | 6 => ("PartedLandModel", "edgeA", "[I", true)
  | 7 => ("PartedLandModel", "edgeB", "[I", true)
  | 8 => ("PartedLandModel", "edgeDays", "[I", true)
  | 9 => ("PartedLandModel", "isRail", "[Z", true)
  | 10 => ("PartedLandModel", "pegs", "I", false)
  | 11 => ("PartedLandModel", "pegX", "[I", true)
  | 12 => ("PartedLandModel", "pegY", "[I", true)
  | 13 => ("PartedLandModel", "seats", "[I", true)
  | 14 => ("PartedLandModel", "persons", "I", false)
  | 15 => ("PartedLandModel", "birth", "[I", true)
  | 16 => ("PartedLandModel", "homes", "[I", true)
  | 17 => ("PartedLandModel", "months", "[I", true)
  | 18 => ("PartedLandModel", "choice", "[I", true)
  | 19 => ("PartedLandModel", "choiceDay", "[I", true)
  | 20 => ("PartedLandModel", "hoards", "[I", true)
  | 21 => ("PartedLandModel", "tape", "[I", true)
  | 22 => ("PartedLandModel", "taped", "I", false)
  | 23 => ("PartedLandModel", "texts", "[I", true)
  | 24 => ("PartedLandModel", "sizes", "[I", true)
  | 25 => ("PartedLandModel", "since", "I", false)
  | 26 => ("PartedLandModel", "things", "I", false)
  | 27 => ("PartedLandModel", "kind", "[I", true)
  | 28 => ("PartedLandModel", "value", "[I", true)
  | 29 => ("PartedLandModel", "of", "[I", true)
  | 30 => ("PartedLandModel", "isCopied", "[Z", true)
  | 31 => ("PartedLandModel", "ties", "I", false)
  | 32 => ("PartedLandModel", "tieA", "[I", true)
  | 33 => ("PartedLandModel", "tieB", "[I", true)
  | 34 => ("PartedLandModel", "rates", "[I", true)
  | 35 => ("PartedLandModel", "limit", "I", false)
  | 36 => ("PartedLandModel", "weekDays", "I", false)
  | 37 => ("PartedLandModel", "wagons", "I", false)
  | 38 => ("PartedLandModel", "wagonSide", "[I", true)
  | 39 => ("PartedLandModel", "stops", "[I", true)
  | 40 => ("PartedLandModel", "stopDay", "[I", true)
  | 41 => ("PartedLandModel", "stopMany", "[I", true)
  | 42 => ("PartedLandModel", "cases", "I", false)
  | 43 => ("PartedLandModel", "caseCourt", "[I", true)
  | 44 => ("PartedLandModel", "casePerson", "[I", true)
  | 45 => ("PartedLandModel", "stage", "[I", true)
  | 46 => ("PartedLandModel", "casePaper", "[I", true)
  | 47 => ("PartedLandModel", "tasks", "I", false)
  | 48 => ("PartedLandModel", "taskDays", "[I", true)
  | 49 => ("PartedLandModel", "before", "[I", true)
  | 50 => ("PartedLandModel", "numbers", "I", false)
  | 51 => ("PartedLandModel", "waiting", "[I", true)
  | 52 => ("PartedLandModel", "found", "[I", true)
  | 53 => ("PartedLandModel", "ways", "[I", true)
  | 54 => ("PartedLandModel", "grounds", "[I", true)
  | 55 => ("PartedLandModel", "groundMany", "I", false)
  | 56 => ("PartedLandModel", "lastDay", "I", false)
  | 57 => ("PartedLandModel", "share", "I", false)
  | 58 => ("PartedLandModel", "goesWithLand", "I", false)
  | 59 => ("PartedLandModel", "stays", "I", false)
  | 60 => ("PartedLandModel", "hours", "I", false)
  | 61 => ("PartedLandModel", "root", "[I", true)
  | 62 => ("PartedLandModel", "groupOf", "[I", true)
  | 63 => ("PartedLandModel", "sums", "[I", true)
  | 64 => ("PartedLandModel", "groups", "I", false)
  | 65 => ("PartedLandModel", "mostTasks", "[I", true)
  | _ => ("PartedLandModel", "fewestDays", "[I", true)
def tyX11 : Nat → FieldType := fun k => match k with
  | 0 => .int
  | 1 => .int
  | 2 => .array .int
  | 3 => .array .int
  | 4 => .array .int
  | 5 => .int
  | 6 => .array .int
  | 7 => .array .int
  | 8 => .array .int
  | 9 => .array .boolean
  | 10 => .int
  | 11 => .array .int
  | 12 => .array .int
  | 13 => .array .int
  | 14 => .int
  | 15 => .array .int
  | 16 => .array .int
  | 17 => .array .int
  | 18 => .array .int
  | 19 => .array .int
  | 20 => .array .int
  | 21 => .array .int
  | 22 => .int
  | 23 => .array .int
  | 24 => .array .int
  | 25 => .int
  | 26 => .int
  | 27 => .array .int
  | 28 => .array .int
  | 29 => .array .int
  | 30 => .array .boolean
  | 31 => .int
  | 32 => .array .int
  | 33 => .array .int
  | 34 => .array .int
  | 35 => .int
  | 36 => .int
  | 37 => .int
  | 38 => .array .int
  | 39 => .array .int
  | 40 => .array .int
  | 41 => .array .int
  | 42 => .int
  | 43 => .array .int
  | 44 => .array .int
  | 45 => .array .int
  | 46 => .array .int
  | 47 => .int
  | 48 => .array .int
  | 49 => .array .int
  | 50 => .int
  | 51 => .array .int
  | 52 => .array .int
  | 53 => .array .int
  | 54 => .array .int
  | 55 => .int
  | 56 => .int
  | 57 => .int
  | 58 => .int
  | 59 => .int
  | 60 => .int
  | 61 => .array .int
  | 62 => .array .int
  | 63 => .array .int
  | 64 => .int
  | 65 => .array .int
  | _ => .array .int
theorem nmX11 : ∀ a, a < 67 → ∀ b, b < 67 → a ≠ b → (TX11 a).2.1 ≠ (TX11 b).2.1 := by decide +kernel
theorem tyX11_ok : ∀ k, k < 67 → parseFieldDescriptor (TX11 k).2.2.1 = some (tyX11 k) := by decide +kernel
abbrev am_cl : List vw_C := [(RX0, TX0, 5), (RX1, TX1, 8), (RX2, TX2, 7), (RX3, TX3, 14), (RX4, TX4, 10), (RX5, TX5, 8), (RX6, TX6, 7), (RX7, TX7, 9), (RX8, TX8, 5), (RX9, TX9, 4), (RX10, TX10, 13), (RX11, TX11, 67)]
def am_tbl : List Cond := lw_tbl.filter goodWord
def am_ty (ci : Nat) : Nat → FieldType := match ci with
  | 0 => tyX0
  | 1 => tyX1
  | 2 => tyX2
  | 3 => tyX3
  | 4 => tyX4
  | 5 => tyX5
  | 6 => tyX6
  | 7 => tyX7
  | 8 => tyX8
  | 9 => tyX9
  | 10 => tyX10
  | _ => tyX11
theorem am_inX0 : ((u_ws RX0 TX0 5).all (fun w => decide (w ∈ lw_tbl) && goodWord w)) = true := by decide +kernel
theorem am_inX1 : ((u_ws RX1 TX1 8).all (fun w => decide (w ∈ lw_tbl) && goodWord w)) = true := by decide +kernel
theorem am_inX2 : ((u_ws RX2 TX2 7).all (fun w => decide (w ∈ lw_tbl) && goodWord w)) = true := by decide +kernel
theorem am_inX3 : ((u_ws RX3 TX3 14).all (fun w => decide (w ∈ lw_tbl) && goodWord w)) = true := by decide +kernel
theorem am_inX4 : ((u_ws RX4 TX4 10).all (fun w => decide (w ∈ lw_tbl) && goodWord w)) = true := by decide +kernel
theorem am_inX5 : ((u_ws RX5 TX5 8).all (fun w => decide (w ∈ lw_tbl) && goodWord w)) = true := by decide +kernel
theorem am_inX6 : ((u_ws RX6 TX6 7).all (fun w => decide (w ∈ lw_tbl) && goodWord w)) = true := by decide +kernel
theorem am_inX7 : ((u_ws RX7 TX7 9).all (fun w => decide (w ∈ lw_tbl) && goodWord w)) = true := by decide +kernel
theorem am_inX8 : ((u_ws RX8 TX8 5).all (fun w => decide (w ∈ lw_tbl) && goodWord w)) = true := by decide +kernel
theorem am_inX9 : ((u_ws RX9 TX9 4).all (fun w => decide (w ∈ lw_tbl) && goodWord w)) = true := by decide +kernel
theorem am_inX10 : ((u_ws RX10 TX10 13).all (fun w => decide (w ∈ lw_tbl) && goodWord w)) = true := by decide +kernel
theorem am_inX11 : ((u_ws RX11 TX11 67).all (fun w => decide (w ∈ lw_tbl) && goodWord w)) = true := by decide +kernel
theorem am_in_of {ws : List Cond} (h : ws.all (fun w => decide (w ∈ lw_tbl) && goodWord w) = true) : ∀ w ∈ ws, w ∈ am_tbl := by
  intro w hw
  have h1 := List.all_eq_true.mp h w hw
  simp only [Bool.and_eq_true, decide_eq_true_eq] at h1
  exact List.mem_filter.mpr ⟨h1.1, h1.2⟩
theorem am_cl_ok : ∀ (ci : Nat) (C : String) (T : u_T) (N : Nat), am_cl[ci]? = some (C, T, N) → (∀ w ∈ u_ws C T N, w ∈ am_tbl) ∧ (∀ k, k < N → parseFieldDescriptor (T k).2.2.1 = some (am_ty ci k)) ∧ (∀ a, a < N → ∀ b, b < N → a ≠ b → (T a).2.1 ≠ (T b).2.1) := by
  intro ci C T N h
  match ci, h with
  | 0, h => cases h; exact ⟨am_in_of am_inX0, tyX0_ok, nmX0⟩
  | 1, h => cases h; exact ⟨am_in_of am_inX1, tyX1_ok, nmX1⟩
  | 2, h => cases h; exact ⟨am_in_of am_inX2, tyX2_ok, nmX2⟩
  | 3, h => cases h; exact ⟨am_in_of am_inX3, tyX3_ok, nmX3⟩
  | 4, h => cases h; exact ⟨am_in_of am_inX4, tyX4_ok, nmX4⟩
  | 5, h => cases h; exact ⟨am_in_of am_inX5, tyX5_ok, nmX5⟩
  | 6, h => cases h; exact ⟨am_in_of am_inX6, tyX6_ok, nmX6⟩
  | 7, h => cases h; exact ⟨am_in_of am_inX7, tyX7_ok, nmX7⟩
  | 8, h => cases h; exact ⟨am_in_of am_inX8, tyX8_ok, nmX8⟩
  | 9, h => cases h; exact ⟨am_in_of am_inX9, tyX9_ok, nmX9⟩
  | 10, h => cases h; exact ⟨am_in_of am_inX10, tyX10_ok, nmX10⟩
  | 11, h => cases h; exact ⟨am_in_of am_inX11, tyX11_ok, nmX11⟩
  | k + 12, h => simp [am_cl] at h
end
section
/-! ===== the abstract machine: a store of numbers over a fixed shape of cells; the methods' own instructions ===== -/
abbrev am_S : Type := Nat → Nat → Int32
/-- a cell: an object (its class's number; of each field: none an int, some r the cell r), an array of ints (0) or booleans (1) of a length, an array of cells -/
abbrev am_Sh : Type := (Nat × List (Option Nat)) ⊕ (Nat × Nat) ⊕ List Nat
abbrev am_X : Type := Nat → Option (Nat × (Nat → Int32))
/-- a method: name, bytes, locals, answer, parameters, class's number (none: static), instructions, field links (class, field; 0 an int, 1 a boolean, 2 never put), method links, constants, links of the static row (1) and of arraycopy (2) -/
abbrev am_M : Type := MethodName × ByteArray × Nat × Option FieldType × Nat × Option Nat × (Nat → Option (Instr × Nat)) × (Nat → Option (Nat × Nat × Nat)) × (Nat → Option Nat) × (Nat → Option Int32) × (Nat → Nat)
abbrev am_y (M : am_M) : MethodName := M.1
abbrev am_by (M : am_M) : ByteArray := M.2.1
abbrev am_ml (M : am_M) : Nat := M.2.2.1
abbrev am_rt (M : am_M) : Option FieldType := M.2.2.2.1
abbrev am_np (M : am_M) : Nat := M.2.2.2.2.1
abbrev am_ci (M : am_M) : Option Nat := M.2.2.2.2.2.1
abbrev am_co (M : am_M) : Nat → Option (Instr × Nat) := M.2.2.2.2.2.2.1
abbrev am_lf (M : am_M) : Nat → Option (Nat × Nat × Nat) := M.2.2.2.2.2.2.2.1
abbrev am_lm (M : am_M) : Nat → Option Nat := M.2.2.2.2.2.2.2.2.1
abbrev am_lc (M : am_M) : Nat → Option Int32 := M.2.2.2.2.2.2.2.2.2.1
abbrev am_lx (M : am_M) : Nat → Nat := M.2.2.2.2.2.2.2.2.2.2
abbrev am_R : Type := (Nat × List Value × List Value × am_S) ⊕ Option Value ⊕ (Nat × List Value × List Value)
def am_cb (c : ClassFile.Cond) (x y : Int32) : Bool := match c with
  | .eq => decide (x = y)
  | .ne => decide (¬ x = y)
  | .lt => decide (x < y)
  | .ge => decide (y ≤ x)
  | .gt => decide (y < x)
  | .le => decide (x ≤ y)
def am_in (i : Int32) (n : Nat) : Bool := decide (¬ i < 0) && decide (i.toNatClampNeg < n)
def am_bo (v : Int32) : Bool := decide (v = 0) || decide (v = 1)
def am_set (σ : am_S) (c : Nat) (f : Nat → Int32) : am_S := fun c' => if c' = c then f else σ c'
def am_up (σ : am_S) (c k : Nat) (v : Int32) : am_S := am_set σ c (upd (σ c) k v)
def am_tg (pc : Nat) (off : Int) : Nat := ((pc : Int) + off).toNat
def am_nx (pc : Nat) (L S : List Value) (σ : am_S) : Option am_R := some (.inl (pc, L, S, σ))
def am_len (sh : List am_Sh) (ex : am_X) (c : Nat) : Option Nat := match sh[c]? with
  | some (.inr (.inl q)) => some q.2
  | some (.inr (.inr rs)) => some rs.length
  | some (.inl _) => none
  | none => match ex c with
    | some q => some q.1
    | none => none
def am_ild (sh : List am_Sh) (ex : am_X) (σ : am_S) (c : Nat) (i : Int32) : Option Int32 := match sh[c]? with
  | some (.inr (.inl q)) => if q.1 = 0 ∧ am_in i q.2 = true then some (σ c i.toNatClampNeg) else none
  | some (.inr (.inr _)) => none
  | some (.inl _) => none
  | none => match ex c with
    | some q => if am_in i q.1 = true then some (q.2 i.toNatClampNeg) else none
    | none => none
def am_bld (sh : List am_Sh) (σ : am_S) (c : Nat) (i : Int32) : Option Int32 := match sh[c]? with
  | some (.inr (.inl q)) => if q.1 = 1 ∧ am_in i q.2 = true then some (σ c i.toNatClampNeg) else none
  | _ => none
def am_ald (sh : List am_Sh) (c : Nat) (i : Int32) : Option Nat := match sh[c]? with
  | some (.inr (.inr rs)) => if am_in i rs.length = true then rs[i.toNatClampNeg]? else none
  | _ => none
def am_can (sh : List am_Sh) (ty c : Nat) (i : Int32) : Bool := match sh[c]? with
  | some (.inr (.inl q)) => decide (q.1 = ty) && am_in i q.2
  | _ => false
def am_gf (sh : List am_Sh) (σ : am_S) (c ci k : Nat) : Option Value := match sh[c]? with
  | some (.inl q) => if q.1 = ci then (match q.2[k]? with
    | some none => some (.int (σ c k))
    | some (some r) => some (.ref r)
    | none => none) else none
  | _ => none
def am_cpf (sh : List am_Sh) (c ci k : Nat) : Bool := match sh[c]? with
  | some (.inl q) => decide (q.1 = ci) && decide (q.2[k]? = some none)
  | _ => false
def am_cls (sh : List am_Sh) (c : Nat) : Option Nat := match sh[c]? with
  | some (.inl q) => some q.1
  | _ => none
def am_cpy (sh : List am_Sh) (c0 c1 : Nat) (sp dp n : Int32) : Bool := match sh[c0]?, sh[c1]? with
  | some (.inr (.inl q0)), some (.inr (.inl q1)) => decide (q0.1 = 0) && decide (q1.1 = 0) && decide (¬ sp < 0) && decide (¬ dp < 0) && decide (¬ n < 0) && decide (sp.toNatClampNeg + n.toNatClampNeg ≤ q0.2) && decide (dp.toNatClampNeg + n.toNatClampNeg ≤ q1.2)
  | _, _ => false
/-- what one instruction does -/
def am_ex (P : Nat → Option am_M) (sh : List am_Sh) (ex : am_X) (d : Nat) (M : am_M) (pc : Nat) (i : Instr) (L S : List Value) (σ : am_S) : Option am_R := match i with
  | .aload_n k => match L[k.val]? with
    | some (.ref a) => am_nx (pc + 1) L (.ref a :: S) σ
    | _ => none
  | .aload k => match L[k]? with
    | some (.ref a) => am_nx (pc + 2) L (.ref a :: S) σ
    | _ => none
  | .iload_n k => match L[k.val]? with
    | some (.int a) => am_nx (pc + 1) L (.int a :: S) σ
    | _ => none
  | .iload k => match L[k]? with
    | some (.int a) => am_nx (pc + 2) L (.int a :: S) σ
    | _ => none
  | .istore_n k => match S with
    | .int x :: S => if k.val < L.length then am_nx (pc + 1) (L.set k.val (.int x)) S σ else none
    | _ => none
  | .istore k => match S with
    | .int x :: S => if k < L.length then am_nx (pc + 2) (L.set k (.int x)) S σ else none
    | _ => none
  | .astore_n k => match S with
    | .ref x :: S => if k.val < L.length then am_nx (pc + 1) (L.set k.val (.ref x)) S σ else none
    | _ => none
  | .iinc k n => match L[k]? with
    | some (.int a) => am_nx (pc + 3) (L.set k (.int (a + Int32.ofInt n))) S σ
    | _ => none
  | .iconst n => am_nx (pc + 1) L (.int (Int32.ofInt n) :: S) σ
  | .bipush n => am_nx (pc + 2) L (.int (Int8.ofInt n).toInt32 :: S) σ
  | .sipush n => am_nx (pc + 3) L (.int (Int16.ofInt n).toInt32 :: S) σ
  | .ldc k => match am_lc M k with
    | some v => am_nx (pc + 2) L (.int v :: S) σ
    | none => none
  | .ldc_w k => match am_lc M k with
    | some v => am_nx (pc + 3) L (.int v :: S) σ
    | none => none
  | .getfield k => match S with
    | .ref c :: S => match am_lf M k with
      | some q => match am_gf sh σ c q.1 q.2.1 with
        | some v => am_nx (pc + 3) L (v :: S) σ
        | none => none
      | none => none
    | _ => none
  | .putfield k => match S with
    | .int v :: .ref c :: S => match am_lf M k with
      | some q => if am_cpf sh c q.1 q.2.1 = true ∧ q.2.2 ≤ 1 ∧ (q.2.2 = 1 → am_bo v = true) then am_nx (pc + 3) L S (am_up σ c q.2.1 v) else none
      | none => none
    | _ => none
  | .getstatic k => if am_lx M k = 1 then am_nx (pc + 3) L (.ref 1000 :: S) σ else none
  | .iaload => match S with
    | .int i :: .ref c :: S => match am_ild sh ex σ c i with
      | some v => am_nx (pc + 1) L (.int v :: S) σ
      | none => none
    | _ => none
  | .baload => match S with
    | .int i :: .ref c :: S => match am_bld sh σ c i with
      | some v => am_nx (pc + 1) L (.int v :: S) σ
      | none => none
    | _ => none
  | .aaload => match S with
    | .int i :: .ref c :: S => match am_ald sh c i with
      | some v => am_nx (pc + 1) L (.ref v :: S) σ
      | none => none
    | _ => none
  | .iastore => match S with
    | .int x :: .int i :: .ref c :: S => if am_can sh 0 c i = true then am_nx (pc + 1) L S (am_up σ c i.toNatClampNeg x) else none
    | _ => none
  | .bastore => match S with
    | .int x :: .int i :: .ref c :: S => if am_can sh 1 c i = true ∧ am_bo x = true then am_nx (pc + 1) L S (am_up σ c i.toNatClampNeg x) else none
    | _ => none
  | .arraylength => match S with
    | .ref c :: S => match am_len sh ex c with
      | some n => am_nx (pc + 1) L (.int (Int32.ofNat n) :: S) σ
      | none => none
    | _ => none
  | .iadd => match S with
    | .int y :: .int x :: S => am_nx (pc + 1) L (.int (x + y) :: S) σ
    | _ => none
  | .isub => match S with
    | .int y :: .int x :: S => am_nx (pc + 1) L (.int (x - y) :: S) σ
    | _ => none
  | .imul => match S with
    | .int y :: .int x :: S => am_nx (pc + 1) L (.int (x * y) :: S) σ
    | _ => none
  | .idiv => match S with
    | .int y :: .int x :: S => if y = 0 then none else am_nx (pc + 1) L (.int (x / y) :: S) σ
    | _ => none
  | .irem => match S with
    | .int y :: .int x :: S => if y = 0 then none else am_nx (pc + 1) L (.int (x - x / y * y) :: S) σ
    | _ => none
  | .ineg => match S with
    | .int x :: S => am_nx (pc + 1) L (.int (-x) :: S) σ
    | _ => none
  | .iand => match S with
    | .int y :: .int x :: S => am_nx (pc + 1) L (.int (x &&& y) :: S) σ
    | _ => none
  | .ior => match S with
    | .int y :: .int x :: S => am_nx (pc + 1) L (.int (x ||| y) :: S) σ
    | _ => none
  | .ixor => match S with
    | .int y :: .int x :: S => am_nx (pc + 1) L (.int (x ^^^ y) :: S) σ
    | _ => none
  | .ishl => match S with
    | .int y :: .int x :: S => am_nx (pc + 1) L (.int (x <<< (y &&& 31)) :: S) σ
    | _ => none
  | .ishr => match S with
    | .int y :: .int x :: S => am_nx (pc + 1) L (.int (x >>> (y &&& 31)) :: S) σ
    | _ => none
  | .iushr => match S with
    | .int y :: .int x :: S => am_nx (pc + 1) L (.int (x.toUInt32 >>> (y.toUInt32 &&& Int32.toUInt32 31)).toInt32 :: S) σ
    | _ => none
  | .dup => match S with
    | v :: S => am_nx (pc + 1) L (v :: v :: S) σ
    | _ => none
  | .dup2 => match S with
    | v :: w :: S => am_nx (pc + 1) L (v :: w :: v :: w :: S) σ
    | _ => none
  | .goto off => if 0 ≤ (pc : Int) + off then am_nx (am_tg pc off) L S σ else none
  | .ifCond cd off => match S with
    | .int x :: S => if 0 ≤ (pc : Int) + off then am_nx (if am_cb cd x 0 = true then am_tg pc off else pc + 3) L S σ else none
    | _ => none
  | .if_icmp cd off => match S with
    | .int y :: .int x :: S => if 0 ≤ (pc : Int) + off then am_nx (if am_cb cd x y = true then am_tg pc off else pc + 3) L S σ else none
    | _ => none
  | .tableswitch df lo hi os => match S with
    | .int x :: S => if x.toInt < lo ∨ hi < x.toInt then (if 0 ≤ (pc : Int) + df then am_nx (am_tg pc df) L S σ else none) else (match os[(x.toInt - lo).toNat]? with
      | some off => if 0 ≤ (pc : Int) + off then am_nx (am_tg pc off) L S σ else none
      | none => none)
    | _ => none
  | .lookupswitch df ps => match S with
    | .int x :: S => if (ps.toList.zip (ps.toList.drop 1)).all (fun (a, next) => a.1 < next.1) = true ∧ 0 ≤ (pc : Int) + Op.lookupswitch.offset ps.toList df x.toInt then am_nx (am_tg pc (Op.lookupswitch.offset ps.toList df x.toInt)) L S σ else none
    | _ => none
  | .ireturn => match S with
    | [.int x] => match am_rt M with
      | some .int => some (.inr (.inl (some (.int x))))
      | some .boolean => if am_bo x = true then some (.inr (.inl (some (.int x)))) else none
      | _ => none
    | _ => none
  | .areturn => match S with
    | [.ref x] => match am_rt M with
      | some (.object _) => some (.inr (.inl (some (.ref x))))
      | _ => none
    | _ => none
  | .return_ => match S with
    | [] => match am_rt M with
      | none => some (.inr (.inl none))
      | _ => none
    | _ => none
  | .invokevirtual k => match am_lm M k with
    | some mi => match P mi with
      | some M' => match am_ci M' with
        | some ci => match S.drop (am_np M') with
          | .ref c :: rest => if (S.take (am_np M')).length = am_np M' ∧ am_cls sh c = some ci ∧ rest.length ≤ 8 then some (.inr (.inr (mi, .ref c :: (S.take (am_np M')).reverse, rest))) else none
          | _ => none
        | none => none
      | none => none
    | none => none
  | .invokestatic k => if am_lx M k = 2 then (match S with
      | .int n :: .int dp :: .ref c1 :: .int sp :: .ref c0 :: S => if am_cpy sh c0 c1 sp dp n = true ∧ S.length ≤ 8 ∧ 1 ≤ d then am_nx (pc + 3) L S (am_set σ c1 (va_cpy (σ c0) (σ c1) sp.toNatClampNeg dp.toNatClampNeg n.toNatClampNeg)) else none
      | _ => none)
    else match am_lm M k with
    | some mi => match P mi with
      | some M' => match am_ci M' with
        | none => if (S.take (am_np M')).length = am_np M' ∧ (S.drop (am_np M')).length ≤ 8 then some (.inr (.inr (mi, (S.take (am_np M')).reverse, S.drop (am_np M')))) else none
        | some _ => none
      | none => none
    | none => none
  | _ => none
def am_step (P : Nat → Option am_M) (sh : List am_Sh) (ex : am_X) (d : Nat) (M : am_M) (pc : Nat) (L S : List Value) (σ : am_S) : Option am_R := match am_co M pc with
  | some q => am_ex P sh ex d M pc q.1 L S σ
  | none => none
def am_pad (n : Nat) (args : List Value) : List Value := args ++ List.replicate (n - args.length) .null
def am_run (P : Nat → Option am_M) (sh : List am_Sh) (ex : am_X) : Nat → Nat → am_M → Nat → List Value → List Value → am_S → Option (Option Value × am_S)
  | 0, _, _, _, _, _, _ => none
  | n + 1, d, M, pc, L, S, σ => match am_step P sh ex d M pc L S σ with
    | some (.inl (pc', L', S', σ')) => am_run P sh ex n d M pc' L' S' σ'
    | some (.inr (.inl v)) => some (v, σ)
    | some (.inr (.inr (mi, args, rest))) => match d with
      | 0 => none
      | d' + 1 => match P mi with
        | none => none
        | some M' => if args.length ≤ am_ml M' then (match am_run P sh ex n d' M' 0 (am_pad (am_ml M') args) [] σ with
          | some (v, σ') => am_run P sh ex n d M (pc + 3) L (v.toList ++ rest) σ'
          | none => none) else none
    | none => none
end
section
/-! ===== what the abstract machine does, the machine does ===== -/
def am_v (adr : Nat → Nat) : Value → Value
  | .int x => .int x
  | .ref a => .ref (adr a)
  | _ => .null
theorem am_v_cat (adr : Nat → Nat) (v : Value) : (am_v adr v).category = 1 := by cases v <;> rfl
theorem am_cat_sum (adr : Nat → Nat) (S : List Value) : ((S.map (am_v adr)).map (fun v => v.category)).sum = S.length := by
  induction S with
  | nil => rfl
  | cons v S ih => simp only [List.map_cons, List.sum_cons, am_v_cat, ih, List.length_cons]; omega
def am_fv (adr : Nat → Nat) (σ : am_S) (c k : Nat) (f : Option Nat) : Value := match f with
  | none => .int (σ c k)
  | some r => .ref (adr r)
def am_fs (adr : Nat → Nat) (σ : am_S) (c : Nat) (fl : List (Option Nat)) : List Value := fl.mapIdx (fun k f => am_fv adr σ c k f)
def am_cell (aC : Nat → ClassId) (adr : Nat → Nat) (σ : am_S) (c : Nat) (x : am_Sh) : va_E := match x with
  | .inl q => .inr (q.1, am_fs adr σ c q.2)
  | .inr (.inl q) => .inl (aC q.1, q.2, .inl (σ c))
  | .inr (.inr rs) => .inl (aC 2, rs.length, .inr (.inr (.inr (.inr (fun k => (rs[k]?).map adr)))))
def am_W (aC : Nat → ClassId) (adr : Nat → Nat) (sh : List am_Sh) (σ : am_S) : va_W := sh.mapIdx (fun c x => (adr c, am_cell aC adr σ c x))
def am_tys (aC : Nat → ClassId) : List (ClassId × FieldType) := [(aC 0, .int), (aC 1, .boolean), (aC 2, .array .int)]
def am_A (adr : Nat → Nat) (sh : List am_Sh) : Nat → Prop := fun q => ∃ c, c < sh.length ∧ adr c = q
theorem am_W_at {aC : Nat → ClassId} {adr : Nat → Nat} {sh : List am_Sh} {σ : am_S} {c : Nat} {x : am_Sh} (h : sh[c]? = some x) : (am_W aC adr sh σ)[c]? = some (adr c, am_cell aC adr σ c x) := by
  simp [am_W, List.getElem?_mapIdx, h]
theorem am_W_get {aC : Nat → ClassId} {adr : Nat → Nat} {sh : List am_Sh} {σ : am_S} {c : Nat} {q : Nat × va_E} (h : (am_W aC adr sh σ)[c]? = some q) : c < sh.length ∧ q.1 = adr c := by
  simp only [am_W, List.getElem?_mapIdx, Option.map_eq_some_iff] at h
  obtain ⟨x, hx, rfl⟩ := h
  exact ⟨(List.getElem?_eq_some_iff.mp hx).1, rfl⟩
theorem am_D {aC : Nat → ClassId} {adr : Nat → Nat} {sh : List am_Sh} (hi : ∀ i j, i < sh.length → j < sh.length → adr i = adr j → i = j) (σ : am_S) : va_D (am_A adr sh) (am_W aC adr sh σ) := by
  refine ⟨fun i j p q h1 h2 e => ?_, fun k q h => ?_⟩
  · obtain ⟨a1, b1⟩ := am_W_get h1
    obtain ⟨a2, b2⟩ := am_W_get h2
    exact hi i j a1 a2 (by rw [← b1, ← b2]; exact e)
  · obtain ⟨a1, b1⟩ := am_W_get h
    exact ⟨k, a1, b1.symm⟩
theorem am_set_eq (σ : am_S) (c : Nat) (f : Nat → Int32) : am_set σ c f c = f := if_pos rfl
theorem am_set_ne (σ : am_S) {c c' : Nat} (f : Nat → Int32) (h : c' ≠ c) : am_set σ c f c' = σ c' := if_neg h
theorem am_cell_ne {aC : Nat → ClassId} {adr : Nat → Nat} {σ : am_S} {c c' : Nat} {f : Nat → Int32} (h : c' ≠ c) (x : am_Sh) : am_cell aC adr (am_set σ c f) c' x = am_cell aC adr σ c' x := by
  unfold am_cell am_fs am_fv
  rw [am_set_ne σ f h]
theorem am_W_set {aC : Nat → ClassId} {adr : Nat → Nat} {sh : List am_Sh} {σ : am_S} {c : Nat} {q : Nat × Nat} (h : sh[c]? = some (.inr (.inl q))) (f : Nat → Int32) : (am_W aC adr sh σ).set c (adr c, .inl (aC q.1, q.2, .inl f)) = am_W aC adr sh (am_set σ c f) := by
  apply List.ext_getElem?
  intro i
  have hl : c < (am_W aC adr sh σ).length := (List.getElem?_eq_some_iff.mp (am_W_at (σ := σ) (aC := aC) (adr := adr) h)).1
  by_cases e : i = c
  · subst e
    rw [List.getElem?_set_self hl, am_W_at h]
    show _ = some (adr i, am_cell aC adr (am_set σ i f) i (.inr (.inl q)))
    unfold am_cell
    rw [am_set_eq]
  · rw [List.getElem?_set_ne (Ne.symm e)]
    simp only [am_W, List.getElem?_mapIdx]
    cases sh[i]? with
    | none => rfl
    | some x => simp only [Option.map_some]; rw [am_cell_ne e]
theorem am_fs_at {adr : Nat → Nat} {σ : am_S} {c : Nat} {fl : List (Option Nat)} {k : Nat} {f : Option Nat} (h : fl[k]? = some f) : (am_fs adr σ c fl)[k]? = some (am_fv adr σ c k f) := by
  simp only [am_fs, List.getElem?_mapIdx, h, Option.map_some]
theorem am_fs_len {adr : Nat → Nat} {σ : am_S} {c : Nat} {fl : List (Option Nat)} : (am_fs adr σ c fl).length = fl.length := by
  simp [am_fs]
theorem am_fs_set {adr : Nat → Nat} {σ : am_S} {c : Nat} {fl : List (Option Nat)} {k : Nat} {v : Int32} (h : fl[k]? = some none) : (am_fs adr σ c fl).set k (.int v) = am_fs adr (am_up σ c k v) c fl := by
  apply List.ext_getElem?
  intro i
  have hl : k < (am_fs adr σ c fl).length := by rw [am_fs_len]; exact (List.getElem?_eq_some_iff.mp h).1
  by_cases e : i = k
  · subst e
    rw [List.getElem?_set_self hl, am_fs_at h]
    simp only [am_fv, am_up, am_set_eq, upd, if_true]
  · rw [List.getElem?_set_ne (Ne.symm e)]
    simp only [am_fs, List.getElem?_mapIdx]
    cases fl[i]? with
    | none => rfl
    | some x =>
      simp only [Option.map_some]
      cases x with
      | none => simp only [am_fv, am_up, am_set_eq, upd, if_neg e]
      | some r => rfl
theorem am_W_setf {aC : Nat → ClassId} {adr : Nat → Nat} {sh : List am_Sh} {σ : am_S} {c : Nat} {q : Nat × List (Option Nat)} {k : Nat} {v : Int32} (h : sh[c]? = some (.inl q)) (hk : q.2[k]? = some none) : (am_W aC adr sh σ).set c (adr c, .inr (q.1, (am_fs adr σ c q.2).set k (.int v))) = am_W aC adr sh (am_up σ c k v) := by
  apply List.ext_getElem?
  intro i
  have hl : c < (am_W aC adr sh σ).length := (List.getElem?_eq_some_iff.mp (am_W_at (σ := σ) (aC := aC) (adr := adr) h)).1
  by_cases e : i = c
  · subst e
    rw [List.getElem?_set_self hl, am_W_at h]
    show _ = some (adr i, am_cell aC adr (am_up σ i k v) i (.inl q))
    unfold am_cell
    rw [am_fs_set hk]
  · rw [List.getElem?_set_ne (Ne.symm e)]
    simp only [am_W, List.getElem?_mapIdx]
    cases sh[i]? with
    | none => rfl
    | some x => simp only [Option.map_some]; unfold am_up; rw [am_cell_ne e]
/-! locals -/
def am_lv (adr : Nat → Nat) : Nat → List Value → List (Nat × Value)
  | _, [] => []
  | k, .int x :: L => (k, .int x) :: am_lv adr (k + 1) L
  | k, .ref a :: L => (k, .ref (adr a)) :: am_lv adr (k + 1) L
  | k, _ :: L => am_lv adr (k + 1) L
theorem am_lv_int {adr : Nat → Nat} : ∀ {L : List Value} {i k : Nat} {x : Int32}, L[i]? = some (.int x) → (k + i, Value.int x) ∈ am_lv adr k L
  | [], i, k, x, h => by simp at h
  | v :: L, 0, k, x, h => by
    simp only [List.getElem?_cons_zero, Option.some.injEq] at h
    subst h
    exact List.mem_cons_self
  | v :: L, i + 1, k, x, h => by
    rw [List.getElem?_cons_succ] at h
    have h1 := am_lv_int (adr := adr) (k := k + 1) h
    rw [show k + 1 + i = k + (i + 1) by omega] at h1
    cases v <;> first | exact List.mem_cons_of_mem _ h1 | exact h1
theorem am_lv_ref {adr : Nat → Nat} : ∀ {L : List Value} {i k : Nat} {a : Nat}, L[i]? = some (.ref a) → (k + i, Value.ref (adr a)) ∈ am_lv adr k L
  | [], i, k, x, h => by simp at h
  | v :: L, 0, k, x, h => by
    simp only [List.getElem?_cons_zero, Option.some.injEq] at h
    subst h
    exact List.mem_cons_self
  | v :: L, i + 1, k, x, h => by
    rw [List.getElem?_cons_succ] at h
    have h1 := am_lv_ref (adr := adr) (k := k + 1) h
    rw [show k + 1 + i = k + (i + 1) by omega] at h1
    cases v <;> first | exact List.mem_cons_of_mem _ h1 | exact h1
theorem am_lv_mem {adr : Nat → Nat} : ∀ {L : List Value} {k : Nat} {q : Nat × Value}, q ∈ am_lv adr k L → ∃ (i : Nat) (v : Value), q.1 = k + i ∧ L[i]? = some v ∧ q.2 = am_v adr v ∧ (∃ x, v = .int x ∨ ∃ a, v = .ref a)
  | [], k, q, h => by cases h
  | v :: L, k, q, h => by
    have tail : q ∈ am_lv adr (k + 1) L → ∃ (i : Nat) (w : Value), q.1 = k + i ∧ (v :: L)[i]? = some w ∧ q.2 = am_v adr w ∧ (∃ x, w = .int x ∨ ∃ a, w = .ref a) := fun h => by
      obtain ⟨i, w, h1, h2, h3, h4⟩ := am_lv_mem h
      exact ⟨i + 1, w, by omega, by rw [List.getElem?_cons_succ]; exact h2, h3, h4⟩
    cases v with
    | int x =>
      rcases List.mem_cons.mp h with e | e
      · subst e
        exact ⟨0, .int x, rfl, rfl, rfl, x, Or.inl rfl⟩
      · exact tail e
    | ref a =>
      rcases List.mem_cons.mp h with e | e
      · subst e
        exact ⟨0, .ref a, rfl, rfl, rfl, 0, Or.inr ⟨a, rfl⟩⟩
      · exact tail e
    | null => exact tail h
    | long _ => exact tail h
    | float _ => exact tail h
    | double _ => exact tail h
    | retAddr _ => exact tail h
theorem am_has_set {adr : Nat → Nat} {ls : Array Slot} {nL : Nat} {L : List Value} {i : Nat} {v : Value} (hv : (∃ x, v = .int x) ∨ ∃ a, v = .ref a) (h : lv_has ls nL ((i, am_v adr v) :: (am_lv adr 0 L).filter (fun q => !(q.1 == i) && !(q.1 + 1 == i && q.2.category == 2)))) : lv_has ls nL (am_lv adr 0 (L.set i v)) := by
  refine ⟨h.1, h.2.1, fun q hq => ?_⟩
  obtain ⟨j, w, h1, h2, h3, h4⟩ := am_lv_mem hq
  rw [Nat.zero_add] at h1
  by_cases e : j = i
  · subst e
    have hl : j < L.length := by
      have := (List.getElem?_eq_some_iff.mp h2).1
      rw [List.length_set] at this
      exact this
    rw [List.getElem?_set_self hl] at h2
    cases h2
    have hq' : q = (j, am_v adr v) := by rw [← h1, ← h3]
    rw [hq']
    exact h.2.2 _ List.mem_cons_self
  · rw [List.getElem?_set_ne (Ne.symm e)] at h2
    refine h.2.2 q (List.mem_cons_of_mem _ (List.mem_filter.mpr ⟨?_, ?_⟩))
    · have hq' : q = (j, am_v adr w) := by rw [← h1, ← h3]
      rw [hq']
      obtain ⟨x, hx | ⟨a, ha⟩⟩ := h4
      · subst hx
        have := am_lv_int (adr := adr) (k := 0) h2
        rw [Nat.zero_add] at this
        exact this
      · subst ha
        have := am_lv_ref (adr := adr) (k := 0) h2
        rw [Nat.zero_add] at this
        exact this
    · rw [h1, h3]
      have hc := am_v_cat adr w
      simp [hc, e]
theorem am_at_int {adr : Nat → Nat} {ls : Array Slot} {nL : Nat} {L : List Value} {i : Nat} {x : Int32} (h : lv_has ls nL (am_lv adr 0 L)) (hi : L[i]? = some (.int x)) : ls[i]? = some (.val (.int x)) := by
  have := am_lv_int (adr := adr) (k := 0) hi
  rw [Nat.zero_add] at this
  exact h.2.2 _ this
theorem am_at_ref {adr : Nat → Nat} {ls : Array Slot} {nL : Nat} {L : List Value} {i : Nat} {a : Nat} (h : lv_has ls nL (am_lv adr 0 L)) (hi : L[i]? = some (.ref a)) : ls[i]? = some (.val (.ref (adr a))) := by
  have := am_lv_ref (adr := adr) (k := 0) hi
  rw [Nat.zero_add] at this
  exact h.2.2 _ this
/-! what holds around a method of the tables -/
def am_il : Instr → Nat
  | .aload_n _ => 1
  | .aload _ => 2
  | .iload_n _ => 1
  | .iload _ => 2
  | .istore_n _ => 1
  | .istore _ => 2
  | .astore_n _ => 1
  | .iinc _ _ => 3
  | .iconst _ => 1
  | .bipush _ => 2
  | .sipush _ => 3
  | .ldc _ => 2
  | .ldc_w _ => 3
  | .getfield _ => 3
  | .putfield _ => 3
  | .getstatic _ => 3
  | .goto _ => 3
  | .ifCond _ _ => 3
  | .if_icmp _ _ => 3
  | .invokevirtual _ => 3
  | .invokestatic _ => 3
  | .tableswitch _ _ _ _ => 0
  | .lookupswitch _ _ => 0
  | _ => 1
def am_okm (P : Nat → Option am_M) (M : am_M) (k mi : Nat) : Prop := ∃ M', P mi = some M' ∧ Cond.methodLink (am_y M).cls k (am_y M') ∈ am_tbl ∧ Cond.initialized (am_y M').cls ∈ am_tbl ∧ ((∃ (ci : Nat) (T : u_T) (N : Nat), am_ci M' = some ci ∧ am_cl[ci]? = some ((am_y M').cls, T, N) ∧ Cond.instanceMethod (am_y M') ∈ am_tbl ∧ Cond.selects (am_y M').cls (am_y M') (am_y M') ∈ am_tbl) ∨ (am_ci M' = none ∧ Cond.static (am_y M') ∈ am_tbl))
def am_okf (M : am_M) (k : Nat) (q : Nat × Nat × Nat) : Prop := ∃ (C : String) (T : u_T) (N : Nat), am_cl[q.1]? = some (C, T, N) ∧ q.2.1 < N ∧ Cond.fieldLink (am_y M).cls k (T q.2.1).1 (T q.2.1).2.1 (T q.2.1).2.2.1 ∈ am_tbl ∧ (q.2.2 = 0 → (T q.2.1).2.2.2 = false ∧ am_ty q.1 q.2.1 = .int) ∧ (q.2.2 = 1 → (T q.2.1).2.2.2 = false ∧ am_ty q.1 q.2.1 = .boolean)
def am_ok (P : Nat → Option am_M) (M : am_M) : Prop :=
  (plainName (am_y M).cls = true ∧ Cond.code (am_y M) (am_by M) (am_ml M) (am_rt M) ∈ am_tbl ∧ am_ml M ≤ 21 ∧ ((am_y M).cls ≠ "java/lang/invoke/MethodHandle" ∧ (am_y M).cls ≠ "java/lang/invoke/VarHandle" ∧ (parseMethodDescriptor (am_y M).desc).map (fun d => d.parameters.length) = some (am_np M))) ∧
  (∀ (pc : Nat) (q : Instr × Nat), am_co M pc = some q → decode (am_by M) pc = .ok q ∧ (am_il q.1 = 0 ∨ q.2 = am_il q.1)) ∧
  (∀ (k : Nat) (q : Nat × Nat × Nat), am_lf M k = some q → am_okf M k q) ∧
  (∀ k mi : Nat, am_lm M k = some mi → am_okm P M k mi) ∧
  (∀ (k : Nat) (v : Int32), am_lc M k = some v → Cond.constant (am_y M).cls k v ∈ am_tbl) ∧
  (∀ k : Nat, (am_lx M k = 1 → Cond.fieldLink (am_y M).cls k "PartedLand$Estate" "ABOVE" "[I" ∈ am_tbl) ∧ (am_lx M k = 2 → Cond.methodLink (am_y M).cls k arraycopyName ∈ am_tbl))
def am_EX (ex : am_X) (adr : Nat → Nat) (A : Nat → Prop) (U : State) (H : Heap) : Prop := (∀ (k : Nat) (q : Nat × (Nat → Int32)), ex k = some q → va_T .int (adr k) q.1 (fun j => .int (q.2 j)) A U H) ∧ va_Z "PartedLand$Estate" "ABOVE" "[I" (.ref (adr 1000)) A U H
def am_Cx (p : Program) (s : State) (m : MethodId) (args : Array Value) (c : Code) (M : am_M) (sh : List am_Sh) (ex : am_X) (aC : Nat → ClassId) (adr : Nat → Nat) (D : va_G) : Prop :=
  p.tables.exec = Jvm.exec ∧ c.code = am_by M ∧ c.maxLocals = am_ml M ∧ s.vm.findClass (am_y M).cls = some m.cls ∧ (∀ w ∈ am_tbl, w.before args s = true) ∧ va_K D am_cl (am_tys aC) s ∧ am_EX ex adr (am_A adr sh) s s.heap ∧ (∀ i j, i < sh.length → j < sh.length → adr i = adr j → i = j)
theorem am_arr : Cond.native arraycopyName ∈ am_tbl ∧ Cond.static arraycopyName ∈ am_tbl ∧ Cond.initialized "java/lang/System" ∈ am_tbl := by
  refine ⟨List.mem_filter.mpr ⟨?_, ?_⟩, List.mem_filter.mpr ⟨?_, ?_⟩, List.mem_filter.mpr ⟨?_, ?_⟩⟩ <;> decide +kernel
theorem am_bo_iff {v : Int32} : am_bo v = true ↔ v = 0 ∨ v = 1 := by
  simp [am_bo]
theorem am_bo_nar {v : Int32} (h : am_bo v = true) : narrow .boolean (.int v) = .int v ∧ fits .boolean (.int v) = true ∧ vp_nar .boolean v = v := by
  rcases am_bo_iff.mp h with rfl | rfl <;> decide +kernel
theorem am_in_vp {i : Int32} {n : Nat} (h : am_in i n = true) : vp_in i n := by
  simp only [am_in, Bool.and_eq_true, decide_eq_true_eq] at h
  rintro (q | q)
  · exact h.1 q
  · omega
theorem am_tg_eq {pc : Nat} {off : Int} (h : 0 ≤ (pc : Int) + off) : (pc : Int) + off = (am_tg pc off : Int) := by
  unfold am_tg
  omega
section AMN
variable {p : Program} {l : Launch} {e : Env} {R : Room} {s : State} {m : MethodId} {args : Array Value} {below : List Frame} {meth : Method} {c : Code} {H : Heap} {locs : List Loc} {cells slots : Nat} {Q : State → Prop}
variable {cc : ByteArray} {pc : Nat} {ls : Array Slot} {rest : List Value} {D : va_G} {cl : List vw_C} {A : Nat → Prop} {a : Nat} {tys : List (ClassId × FieldType)} {ws : va_W} {H0 : Heap}
theorem am_aald (hexec : p.tables.exec = Jvm.exec) (hb : c.code = cc) (hK : va_K D cl tys s) (hP : va_P D cl ws H) (q0 t0 : Nat) {cA : ClassId} {ty : FieldType} {n : Nat} {f : Nat → Option Nat} (ha : ws[q0]? = some (a, .inl (cA, n, .inr (.inr (.inr (.inr f)))))) (ht : tys[t0]? = some (cA, .array ty)) {i : Int32} (hin : vp_in i n) (hdg : decode cc pc = .ok (.aaload, 1))
    (kk : W p l e R s m args below meth c H locs cells slots Q (F0 m (pc + 1) ls (va_rf (f i.toNatClampNeg) :: rest))) : W p l e R s m args below meth c H locs cells slots Q (F0 m pc ls (.int i :: .ref a :: rest)) := by
  have hlt : i.toNatClampNeg < n := Nat.not_le.mp fun q => hin (Or.inr q)
  exact W.aald (v := va_rf (f i.toNatClampNeg)) (ty := .array ty) hexec hb (hP q0 _ ha) ((hK.2 t0 _ ht).1 n (fun j => va_rf (f j))) rfl (fun q => by cases q) (by show ¬ (i < 0 ∨ (arrV _ _ _).slots.size ≤ _); rw [arrV_size]; exact hin) (by show (arrV _ _ _).slots[_]? = _; rw [arrV_read _ _ hlt]) rfl rfl hdg kk
theorem am_tint (hexec : p.tables.exec = Jvm.exec) (hb : c.code = cc) {t N : Nat} {f : Nat → Value} (hT : va_T .int t N f A s s.heap) (hS : va_S A s.heap H locs) {i : Int32} (hin : vp_in i N) (hdg : decode cc pc = .ok (.iaload, 1))
    (kk : W p l e R s m args below meth c H locs cells slots Q (F0 m (pc + 1) ls (f i.toNatClampNeg :: rest))) : W p l e R s m args below meth c H locs cells slots Q (F0 m pc ls (.int i :: .ref t :: rest)) := by
  have hlt : i.toNatClampNeg < N := Nat.not_le.mp fun q => hin (Or.inr q)
  obtain ⟨cell, h1, h2, h3, h4, h5, h6, h7⟩ := hT
  have hc : H[t]? = some cell := by rw [hS.2.1 t (Array.getElem?_eq_some_iff.mp h1).1 h7]; exact h1
  exact W.iald hexec hb hc h2 h3 (fun q => by rcases q with q | q; exact hin (Or.inl q); omega) (h6 _ hlt) rfl rfl hdg kk
end AMN
end
