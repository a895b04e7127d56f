section
-- ===== PART A: goes FIRST, ahead of the names: the tables' words, and 'selects' of the private methods out of them =====
/-- a private method of a class that the tables say can be made, by its rows of tables_1 -/
def lw_okq (q : MethodName × Nat) : Prop := (q.1.cls ≠ "java/lang/invoke/MethodHandle" ∧ q.1.cls ≠ "java/lang/invoke/VarHandle") ∧ Cond.instantiable q.1.cls q.2 ∈ tables_1 ∧ Cond.privateMethod q.1 ∈ tables_1 ∧ Cond.instanceMethod q.1 ∈ tables_1
theorem lw_p0 : lw_okq (⟨"LineTables", "hasNumber", "(III)Z"⟩, 4) := ⟨⟨by decide +kernel, by decide +kernel⟩, List.mem_of_getElem? (i := 14) (by decide +kernel), List.mem_of_getElem? (i := 162) (by decide +kernel), List.mem_of_getElem? (i := 163) (by decide +kernel)⟩
theorem lw_p1 : lw_okq (⟨"LineTables", "sweep", "(LLineTables$Table;I)I"⟩, 4) := ⟨⟨by decide +kernel, by decide +kernel⟩, List.mem_of_getElem? (i := 14) (by decide +kernel), List.mem_of_getElem? (i := 187) (by decide +kernel), List.mem_of_getElem? (i := 188) (by decide +kernel)⟩
theorem lw_p2 : lw_okq (⟨"LineTables", "pivot", "(LLineTables$Table;II)V"⟩, 4) := ⟨⟨by decide +kernel, by decide +kernel⟩, List.mem_of_getElem? (i := 14) (by decide +kernel), List.mem_of_getElem? (i := 207) (by decide +kernel), List.mem_of_getElem? (i := 208) (by decide +kernel)⟩
theorem lw_p3 : lw_okq (⟨"LineTables", "kindOf", "(LLineTables$Table;)LLineTables$Kind;"⟩, 4) := ⟨⟨by decide +kernel, by decide +kernel⟩, List.mem_of_getElem? (i := 14) (by decide +kernel), List.mem_of_getElem? (i := 211) (by decide +kernel), List.mem_of_getElem? (i := 212) (by decide +kernel)⟩
theorem lw_p4 : lw_okq (⟨"LineTables$Rationals", "findCommon", "(I)V"⟩, 8) := ⟨⟨by decide +kernel, by decide +kernel⟩, List.mem_of_getElem? (i := 63) (by decide +kernel), List.mem_of_getElem? (i := 228) (by decide +kernel), List.mem_of_getElem? (i := 229) (by decide +kernel)⟩
theorem lw_p5 : lw_okq (⟨"LineTables$Whole", "topBelow", "(II)J"⟩, 3) := ⟨⟨by decide +kernel, by decide +kernel⟩, List.mem_of_getElem? (i := 73) (by decide +kernel), List.mem_of_getElem? (i := 255) (by decide +kernel), List.mem_of_getElem? (i := 256) (by decide +kernel)⟩
theorem lw_p6 : lw_okq (⟨"LineTables$Whole", "takeAway", "(LLineTables$Whole;JI)I"⟩, 3) := ⟨⟨by decide +kernel, by decide +kernel⟩, List.mem_of_getElem? (i := 73) (by decide +kernel), List.mem_of_getElem? (i := 266) (by decide +kernel), List.mem_of_getElem? (i := 267) (by decide +kernel)⟩
theorem lw_p7 : lw_okq (⟨"LineTables$Whole", "trim", "()V"⟩, 3) := ⟨⟨by decide +kernel, by decide +kernel⟩, List.mem_of_getElem? (i := 73) (by decide +kernel), List.mem_of_getElem? (i := 270) (by decide +kernel), List.mem_of_getElem? (i := 271) (by decide +kernel)⟩
theorem lw_p8 : lw_okq (⟨"LineTables$Rationals", "storeLine", "(LLineTables$Table;I)V"⟩, 8) := ⟨⟨by decide +kernel, by decide +kernel⟩, List.mem_of_getElem? (i := 63) (by decide +kernel), List.mem_of_getElem? (i := 274) (by decide +kernel), List.mem_of_getElem? (i := 275) (by decide +kernel)⟩
theorem lw_p9 : lw_okq (⟨"LineTables$Whole", "addSize", "(LLineTables$Whole;)V"⟩, 3) := ⟨⟨by decide +kernel, by decide +kernel⟩, List.mem_of_getElem? (i := 73) (by decide +kernel), List.mem_of_getElem? (i := 323) (by decide +kernel), List.mem_of_getElem? (i := 324) (by decide +kernel)⟩
theorem lw_p10 : lw_okq (⟨"LineTables$Whole", "limbAt", "(I)I"⟩, 3) := ⟨⟨by decide +kernel, by decide +kernel⟩, List.mem_of_getElem? (i := 73) (by decide +kernel), List.mem_of_getElem? (i := 331) (by decide +kernel), List.mem_of_getElem? (i := 332) (by decide +kernel)⟩
theorem lw_p11 : lw_okq (⟨"LineTables$Whole", "compareSize", "(LLineTables$Whole;)I"⟩, 3) := ⟨⟨by decide +kernel, by decide +kernel⟩, List.mem_of_getElem? (i := 73) (by decide +kernel), List.mem_of_getElem? (i := 336) (by decide +kernel), List.mem_of_getElem? (i := 337) (by decide +kernel)⟩
theorem lw_p12 : lw_okq (⟨"LineTables$Whole", "setDifference", "(LLineTables$Whole;LLineTables$Whole;)V"⟩, 3) := ⟨⟨by decide +kernel, by decide +kernel⟩, List.mem_of_getElem? (i := 73) (by decide +kernel), List.mem_of_getElem? (i := 343) (by decide +kernel), List.mem_of_getElem? (i := 344) (by decide +kernel)⟩
theorem lw_p13 : lw_okq (⟨"LineTables", "isReduced", "(I)Z"⟩, 4) := ⟨⟨by decide +kernel, by decide +kernel⟩, List.mem_of_getElem? (i := 14) (by decide +kernel), List.mem_of_getElem? (i := 358) (by decide +kernel), List.mem_of_getElem? (i := 359) (by decide +kernel)⟩
theorem lw_p14 : lw_okq (⟨"LineTables$Rationals", "balance", "(LLineTables$Table;ILLineTables$Table;II)V"⟩, 8) := ⟨⟨by decide +kernel, by decide +kernel⟩, List.mem_of_getElem? (i := 63) (by decide +kernel), List.mem_of_getElem? (i := 374) (by decide +kernel), List.mem_of_getElem? (i := 375) (by decide +kernel)⟩
theorem lw_p15 : lw_okq (⟨"LineTables", "keepSpare", "(II)I"⟩, 4) := ⟨⟨by decide +kernel, by decide +kernel⟩, List.mem_of_getElem? (i := 14) (by decide +kernel), List.mem_of_getElem? (i := 385) (by decide +kernel), List.mem_of_getElem? (i := 386) (by decide +kernel)⟩
def lw_privs_1 : List (MethodName × Nat) := [(⟨"LineTables", "hasNumber", "(III)Z"⟩, 4), (⟨"LineTables", "sweep", "(LLineTables$Table;I)I"⟩, 4), (⟨"LineTables", "pivot", "(LLineTables$Table;II)V"⟩, 4), (⟨"LineTables", "kindOf", "(LLineTables$Table;)LLineTables$Kind;"⟩, 4), (⟨"LineTables$Rationals", "findCommon", "(I)V"⟩, 8), (⟨"LineTables$Whole", "topBelow", "(II)J"⟩, 3), (⟨"LineTables$Whole", "takeAway", "(LLineTables$Whole;JI)I"⟩, 3), (⟨"LineTables$Whole", "trim", "()V"⟩, 3), (⟨"LineTables$Rationals", "storeLine", "(LLineTables$Table;I)V"⟩, 8), (⟨"LineTables$Whole", "addSize", "(LLineTables$Whole;)V"⟩, 3), (⟨"LineTables$Whole", "limbAt", "(I)I"⟩, 3), (⟨"LineTables$Whole", "compareSize", "(LLineTables$Whole;)I"⟩, 3), (⟨"LineTables$Whole", "setDifference", "(LLineTables$Whole;LLineTables$Whole;)V"⟩, 3), (⟨"LineTables", "isReduced", "(I)Z"⟩, 4), (⟨"LineTables$Rationals", "balance", "(LLineTables$Table;ILLineTables$Table;II)V"⟩, 8), (⟨"LineTables", "keepSpare", "(II)I"⟩, 4)]
theorem lw_r1 : ∀ q ∈ lw_privs_1, lw_okq q := List.forall_mem_cons.mpr ⟨lw_p0, List.forall_mem_cons.mpr ⟨lw_p1, List.forall_mem_cons.mpr ⟨lw_p2, List.forall_mem_cons.mpr ⟨lw_p3, List.forall_mem_cons.mpr ⟨lw_p4, List.forall_mem_cons.mpr ⟨lw_p5, List.forall_mem_cons.mpr ⟨lw_p6, List.forall_mem_cons.mpr ⟨lw_p7, List.forall_mem_cons.mpr ⟨lw_p8, List.forall_mem_cons.mpr ⟨lw_p9, List.forall_mem_cons.mpr ⟨lw_p10, List.forall_mem_cons.mpr ⟨lw_p11, List.forall_mem_cons.mpr ⟨lw_p12, List.forall_mem_cons.mpr ⟨lw_p13, List.forall_mem_cons.mpr ⟨lw_p14, List.forall_mem_cons.mpr ⟨lw_p15, fun _ h => absurd h List.not_mem_nil⟩⟩⟩⟩⟩⟩⟩⟩⟩⟩⟩⟩⟩⟩⟩⟩
theorem lw_p16 : lw_okq (⟨"LineTablesModel", "empty", "(III)V"⟩, 25) := ⟨⟨by decide +kernel, by decide +kernel⟩, List.mem_of_getElem? (i := 433) (by decide +kernel), List.mem_of_getElem? (i := 546) (by decide +kernel), List.mem_of_getElem? (i := 547) (by decide +kernel)⟩
theorem lw_p17 : lw_okq (⟨"LineTablesModel", "keep", "(I)V"⟩, 25) := ⟨⟨by decide +kernel, by decide +kernel⟩, List.mem_of_getElem? (i := 433) (by decide +kernel), List.mem_of_getElem? (i := 560) (by decide +kernel), List.mem_of_getElem? (i := 561) (by decide +kernel)⟩
theorem lw_p18 : lw_okq (⟨"LineTablesModel", "isCell", "(III)Z"⟩, 25) := ⟨⟨by decide +kernel, by decide +kernel⟩, List.mem_of_getElem? (i := 433) (by decide +kernel), List.mem_of_getElem? (i := 571) (by decide +kernel), List.mem_of_getElem? (i := 572) (by decide +kernel)⟩
theorem lw_p19 : lw_okq (⟨"LineTablesModel", "load", "(I)V"⟩, 25) := ⟨⟨by decide +kernel, by decide +kernel⟩, List.mem_of_getElem? (i := 433) (by decide +kernel), List.mem_of_getElem? (i := 579) (by decide +kernel), List.mem_of_getElem? (i := 580) (by decide +kernel)⟩
theorem lw_p20 : lw_okq (⟨"LineTablesModel", "bring", "(IIII)V"⟩, 25) := ⟨⟨by decide +kernel, by decide +kernel⟩, List.mem_of_getElem? (i := 433) (by decide +kernel), List.mem_of_getElem? (i := 583) (by decide +kernel), List.mem_of_getElem? (i := 584) (by decide +kernel)⟩
theorem lw_p21 : lw_okq (⟨"LineTablesModel", "finish", "(I)I"⟩, 25) := ⟨⟨by decide +kernel, by decide +kernel⟩, List.mem_of_getElem? (i := 433) (by decide +kernel), List.mem_of_getElem? (i := 590) (by decide +kernel), List.mem_of_getElem? (i := 591) (by decide +kernel)⟩
theorem lw_p22 : lw_okq (⟨"LineTablesModel", "reduceAll", "()V"⟩, 25) := ⟨⟨by decide +kernel, by decide +kernel⟩, List.mem_of_getElem? (i := 433) (by decide +kernel), List.mem_of_getElem? (i := 594) (by decide +kernel), List.mem_of_getElem? (i := 595) (by decide +kernel)⟩
theorem lw_p23 : lw_okq (⟨"LineTablesModel", "isZero", "(I)Z"⟩, 25) := ⟨⟨by decide +kernel, by decide +kernel⟩, List.mem_of_getElem? (i := 433) (by decide +kernel), List.mem_of_getElem? (i := 598) (by decide +kernel), List.mem_of_getElem? (i := 599) (by decide +kernel)⟩
theorem lw_p24 : lw_okq (⟨"LineTablesModel", "swap", "(II)V"⟩, 25) := ⟨⟨by decide +kernel, by decide +kernel⟩, List.mem_of_getElem? (i := 433) (by decide +kernel), List.mem_of_getElem? (i := 602) (by decide +kernel), List.mem_of_getElem? (i := 603) (by decide +kernel)⟩
theorem lw_p25 : lw_okq (⟨"LineTablesModel", "give", "(II)V"⟩, 25) := ⟨⟨by decide +kernel, by decide +kernel⟩, List.mem_of_getElem? (i := 433) (by decide +kernel), List.mem_of_getElem? (i := 610) (by decide +kernel), List.mem_of_getElem? (i := 611) (by decide +kernel)⟩
theorem lw_p26 : lw_okq (⟨"LineTablesModel", "divide", "(II)V"⟩, 25) := ⟨⟨by decide +kernel, by decide +kernel⟩, List.mem_of_getElem? (i := 433) (by decide +kernel), List.mem_of_getElem? (i := 614) (by decide +kernel), List.mem_of_getElem? (i := 615) (by decide +kernel)⟩
theorem lw_p27 : lw_okq (⟨"LineTablesModel", "inverse", "(I)I"⟩, 25) := ⟨⟨by decide +kernel, by decide +kernel⟩, List.mem_of_getElem? (i := 433) (by decide +kernel), List.mem_of_getElem? (i := 618) (by decide +kernel), List.mem_of_getElem? (i := 619) (by decide +kernel)⟩
theorem lw_p28 : lw_okq (⟨"LineTablesModel", "settle", "(I)V"⟩, 25) := ⟨⟨by decide +kernel, by decide +kernel⟩, List.mem_of_getElem? (i := 433) (by decide +kernel), List.mem_of_getElem? (i := 630) (by decide +kernel), List.mem_of_getElem? (i := 631) (by decide +kernel)⟩
theorem lw_p29 : lw_okq (⟨"LineTablesModel", "divisor", "(LLineTablesModel$Num;LLineTablesModel$Num;)V"⟩, 25) := ⟨⟨by decide +kernel, by decide +kernel⟩, List.mem_of_getElem? (i := 433) (by decide +kernel), List.mem_of_getElem? (i := 634) (by decide +kernel), List.mem_of_getElem? (i := 635) (by decide +kernel)⟩
theorem lw_p30 : lw_okq (⟨"LineTablesModel", "take", "(III)V"⟩, 25) := ⟨⟨by decide +kernel, by decide +kernel⟩, List.mem_of_getElem? (i := 433) (by decide +kernel), List.mem_of_getElem? (i := 658) (by decide +kernel), List.mem_of_getElem? (i := 659) (by decide +kernel)⟩
theorem lw_p31 : lw_okq (⟨"LineTablesModel", "isReduced", "(I)Z"⟩, 25) := ⟨⟨by decide +kernel, by decide +kernel⟩, List.mem_of_getElem? (i := 433) (by decide +kernel), List.mem_of_getElem? (i := 671) (by decide +kernel), List.mem_of_getElem? (i := 672) (by decide +kernel)⟩
def lw_privs_2 : List (MethodName × Nat) := [(⟨"LineTablesModel", "empty", "(III)V"⟩, 25), (⟨"LineTablesModel", "keep", "(I)V"⟩, 25), (⟨"LineTablesModel", "isCell", "(III)Z"⟩, 25), (⟨"LineTablesModel", "load", "(I)V"⟩, 25), (⟨"LineTablesModel", "bring", "(IIII)V"⟩, 25), (⟨"LineTablesModel", "finish", "(I)I"⟩, 25), (⟨"LineTablesModel", "reduceAll", "()V"⟩, 25), (⟨"LineTablesModel", "isZero", "(I)Z"⟩, 25), (⟨"LineTablesModel", "swap", "(II)V"⟩, 25), (⟨"LineTablesModel", "give", "(II)V"⟩, 25), (⟨"LineTablesModel", "divide", "(II)V"⟩, 25), (⟨"LineTablesModel", "inverse", "(I)I"⟩, 25), (⟨"LineTablesModel", "settle", "(I)V"⟩, 25), (⟨"LineTablesModel", "divisor", "(LLineTablesModel$Num;LLineTablesModel$Num;)V"⟩, 25), (⟨"LineTablesModel", "take", "(III)V"⟩, 25), (⟨"LineTablesModel", "isReduced", "(I)Z"⟩, 25)]
theorem lw_r2 : ∀ q ∈ lw_privs_2, lw_okq q := List.forall_mem_cons.mpr ⟨lw_p16, List.forall_mem_cons.mpr ⟨lw_p17, List.forall_mem_cons.mpr ⟨lw_p18, List.forall_mem_cons.mpr ⟨lw_p19, List.forall_mem_cons.mpr ⟨lw_p20, List.forall_mem_cons.mpr ⟨lw_p21, List.forall_mem_cons.mpr ⟨lw_p22, List.forall_mem_cons.mpr ⟨lw_p23, List.forall_mem_cons.mpr ⟨lw_p24, List.forall_mem_cons.mpr ⟨lw_p25, List.forall_mem_cons.mpr ⟨lw_p26, List.forall_mem_cons.mpr ⟨lw_p27, List.forall_mem_cons.mpr ⟨lw_p28, List.forall_mem_cons.mpr ⟨lw_p29, List.forall_mem_cons.mpr ⟨lw_p30, List.forall_mem_cons.mpr ⟨lw_p31, fun _ h => absurd h List.not_mem_nil⟩⟩⟩⟩⟩⟩⟩⟩⟩⟩⟩⟩⟩⟩⟩⟩
theorem lw_p32 : lw_okq (⟨"LineTablesModel", "shift", "(II)V"⟩, 25) := ⟨⟨by decide +kernel, by decide +kernel⟩, List.mem_of_getElem? (i := 433) (by decide +kernel), List.mem_of_getElem? (i := 683) (by decide +kernel), List.mem_of_getElem? (i := 684) (by decide +kernel)⟩
def lw_privs_3 : List (MethodName × Nat) := [(⟨"LineTablesModel", "shift", "(II)V"⟩, 25)]
theorem lw_r3 : ∀ q ∈ lw_privs_3, lw_okq q := List.forall_mem_cons.mpr ⟨lw_p32, fun _ h => absurd h List.not_mem_nil⟩
def lw_privs : List (MethodName × Nat) := lw_privs_1 ++ (lw_privs_2 ++ (lw_privs_3))
def lw_tbl : List Cond := k2_sels lw_privs ++ tables_1
theorem lw_privs_ok : ∀ q ∈ lw_privs, lw_okq q := by
  show ∀ q ∈ lw_privs_1 ++ (lw_privs_2 ++ (lw_privs_3)), lw_okq q
  exact List.forall_mem_append.mpr ⟨lw_r1, List.forall_mem_append.mpr ⟨lw_r2, lw_r3⟩⟩
end
section
-- ===== names: classes, methods (written by wip/gen/names.py) =====
def R_A : String := "LineTables"
def R_K : String := "LineTables$Kind"
def R_Q : String := "LineTables$Rationals"
def R_P : String := "LineTables$Residues"
def R_T : String := "LineTables$Table"
def R_W : String := "LineTables$Whole"
def R_M : String := "LineTablesModel"
def R_N : String := "LineTablesModel$Num"
def R_JI : String := "java/lang/Integer"
def R_JM : String := "java/lang/Math"
def R_JS : String := "java/lang/System"
def R_JA : String := "java/util/Arrays"
def R_L : String := "LineTablesLaw"
-- LineTables: 4 fields, 4 laid: tables rationals residues spare
def F_A : u_T := fun k => match k with
  | 0 => ("LineTables", "tables", "[LLineTables$Table;", true)
  | 1 => ("LineTables", "rationals", "LLineTables$Rationals;", true)
  | 2 => ("LineTables", "residues", "LLineTables$Residues;", true)
  | _ => ("LineTables", "spare", "LLineTables$Table;", false)
def ft_A : Nat → FieldType := fun k => match k with
  | 0 => .array (.object "LineTables$Table")
  | 1 => .object "LineTables$Rationals"
  | 2 => .object "LineTables$Residues"
  | _ => .object "LineTables$Table"
theorem fn_A : ∀ a, a < 4 → ∀ b, b < 4 → a ≠ b → (F_A a).2.1 ≠ (F_A b).2.1 := by decide +kernel
theorem ft_A_ok : ∀ k, k < 4 → parseFieldDescriptor (F_A k).2.2.1 = some (ft_A k) := by decide +kernel
-- LineTables$Rationals: 8 fields, 8 laid: line number product rowFactor leaderFactor quotient common rest
def F_Q : u_T := fun k => match k with
  | 0 => ("LineTables$Rationals", "line", "[LLineTables$Whole;", true)
  | 1 => ("LineTables$Rationals", "number", "LLineTables$Whole;", true)
  | 2 => ("LineTables$Rationals", "product", "LLineTables$Whole;", true)
  | 3 => ("LineTables$Rationals", "rowFactor", "LLineTables$Whole;", true)
  | 4 => ("LineTables$Rationals", "leaderFactor", "LLineTables$Whole;", true)
  | 5 => ("LineTables$Rationals", "quotient", "LLineTables$Whole;", true)
  | 6 => ("LineTables$Rationals", "common", "LLineTables$Whole;", false)
  | _ => ("LineTables$Rationals", "rest", "LLineTables$Whole;", false)
def ft_Q : Nat → FieldType := fun k => match k with
  | 0 => .array (.object "LineTables$Whole")
  | 1 => .object "LineTables$Whole"
  | 2 => .object "LineTables$Whole"
  | 3 => .object "LineTables$Whole"
  | 4 => .object "LineTables$Whole"
  | 5 => .object "LineTables$Whole"
  | 6 => .object "LineTables$Whole"
  | _ => .object "LineTables$Whole"
theorem fn_Q : ∀ a, a < 8 → ∀ b, b < 8 → a ≠ b → (F_Q a).2.1 ≠ (F_Q b).2.1 := by decide +kernel
theorem ft_Q_ok : ∀ k, k < 8 → parseFieldDescriptor (F_Q k).2.2.1 = some (ft_Q k) := by decide +kernel
-- LineTables$Residues: 0 fields, 0 laid: 
def F_P : u_T := fun k => match k with
  | _ => ("", "", "", false)
def ft_P : Nat → FieldType := fun k => match k with
  | _ => .int
theorem fn_P : ∀ a, a < 0 → ∀ b, b < 0 → a ≠ b → (F_P a).2.1 ≠ (F_P b).2.1 := by decide +kernel
theorem ft_P_ok : ∀ k, k < 0 → parseFieldDescriptor (F_P k).2.2.1 = some (ft_P k) := by decide +kernel
-- LineTables$Table: 6 fields, 6 laid: field rows columns reduced places numbers
def F_T : u_T := fun k => match k with
  | 0 => ("LineTables$Table", "field", "I", false)
  | 1 => ("LineTables$Table", "rows", "I", false)
  | 2 => ("LineTables$Table", "columns", "I", false)
  | 3 => ("LineTables$Table", "reduced", "Z", false)
  | 4 => ("LineTables$Table", "places", "[I", true)
  | _ => ("LineTables$Table", "numbers", "[[I", true)
def ft_T : Nat → FieldType := fun k => match k with
  | 0 => .int
  | 1 => .int
  | 2 => .int
  | 3 => .boolean
  | 4 => .array (.int)
  | _ => .array (.array (.int))
theorem fn_T : ∀ a, a < 6 → ∀ b, b < 6 → a ≠ b → (F_T a).2.1 ≠ (F_T b).2.1 := by decide +kernel
theorem ft_T_ok : ∀ k, k < 6 → parseFieldDescriptor (F_T k).2.2.1 = some (ft_T k) := by decide +kernel
-- LineTables$Whole: 3 fields, 3 laid: limbs count signum
def F_W : u_T := fun k => match k with
  | 0 => ("LineTables$Whole", "limbs", "[I", true)
  | 1 => ("LineTables$Whole", "count", "I", false)
  | _ => ("LineTables$Whole", "signum", "I", false)
def ft_W : Nat → FieldType := fun k => match k with
  | 0 => .array (.int)
  | 1 => .int
  | _ => .int
theorem fn_W : ∀ a, a < 3 → ∀ b, b < 3 → a ≠ b → (F_W a).2.1 ≠ (F_W b).2.1 := by decide +kernel
theorem ft_W_ok : ∀ k, k < 3 → parseFieldDescriptor (F_W k).2.2.1 = some (ft_W k) := by decide +kernel
-- LineTablesModel: 25 fields, 25 laid: one two three four five six seven eight fields rowCounts columnCounts loose places tops bottoms residues top bottom small place prime rows columns above under
def F_M : u_T := fun k => match k with
  | 0 => ("LineTablesModel", "one", "LLineTablesModel$Num;", true)
  | 1 => ("LineTablesModel", "two", "LLineTablesModel$Num;", true)
  | 2 => ("LineTablesModel", "three", "LLineTablesModel$Num;", true)
  | 3 => ("LineTablesModel", "four", "LLineTablesModel$Num;", true)
  | 4 => ("LineTablesModel", "five", "LLineTablesModel$Num;", true)
  | 5 => ("LineTablesModel", "six", "LLineTablesModel$Num;", true)
  | 6 => ("LineTablesModel", "seven", "LLineTablesModel$Num;", true)
  | 7 => ("LineTablesModel", "eight", "LLineTablesModel$Num;", true)
  | 8 => ("LineTablesModel", "fields", "[I", true)
  | 9 => ("LineTablesModel", "rowCounts", "[I", true)
  | 10 => ("LineTablesModel", "columnCounts", "[I", true)
  | 11 => ("LineTablesModel", "loose", "[Z", true)
  | 12 => ("LineTablesModel", "places", "[I", true)
  | 13 => ("LineTablesModel", "tops", "[I", true)
  | 14 => ("LineTablesModel", "bottoms", "[I", true)
  | 15 => ("LineTablesModel", "residues", "[I", true)
  | 16 => ("LineTablesModel", "top", "[LLineTablesModel$Num;", true)
  | 17 => ("LineTablesModel", "bottom", "[LLineTablesModel$Num;", true)
  | 18 => ("LineTablesModel", "small", "[I", true)
  | 19 => ("LineTablesModel", "place", "[I", true)
  | 20 => ("LineTablesModel", "prime", "I", false)
  | 21 => ("LineTablesModel", "rows", "I", false)
  | 22 => ("LineTablesModel", "columns", "I", false)
  | 23 => ("LineTablesModel", "above", "LLineTablesModel$Num;", true)
  | _ => ("LineTablesModel", "under", "LLineTablesModel$Num;", true)
def ft_M : Nat → FieldType := fun k => match k with
  | 0 => .object "LineTablesModel$Num"
  | 1 => .object "LineTablesModel$Num"
  | 2 => .object "LineTablesModel$Num"
  | 3 => .object "LineTablesModel$Num"
  | 4 => .object "LineTablesModel$Num"
  | 5 => .object "LineTablesModel$Num"
  | 6 => .object "LineTablesModel$Num"
  | 7 => .object "LineTablesModel$Num"
  | 8 => .array (.int)
  | 9 => .array (.int)
  | 10 => .array (.int)
  | 11 => .array (.boolean)
  | 12 => .array (.int)
  | 13 => .array (.int)
  | 14 => .array (.int)
  | 15 => .array (.int)
  | 16 => .array (.object "LineTablesModel$Num")
  | 17 => .array (.object "LineTablesModel$Num")
  | 18 => .array (.int)
  | 19 => .array (.int)
  | 20 => .int
  | 21 => .int
  | 22 => .int
  | 23 => .object "LineTablesModel$Num"
  | _ => .object "LineTablesModel$Num"
theorem fn_M : ∀ a, a < 25 → ∀ b, b < 25 → a ≠ b → (F_M a).2.1 ≠ (F_M b).2.1 := by decide +kernel
theorem ft_M_ok : ∀ k, k < 25 → parseFieldDescriptor (F_M k).2.2.1 = some (ft_M k) := by decide +kernel
-- LineTablesModel$Num: 3 fields, 3 laid: d n minus
def F_N : u_T := fun k => match k with
  | 0 => ("LineTablesModel$Num", "d", "[I", true)
  | 1 => ("LineTablesModel$Num", "n", "I", false)
  | _ => ("LineTablesModel$Num", "minus", "Z", false)
def ft_N : Nat → FieldType := fun k => match k with
  | 0 => .array (.int)
  | 1 => .int
  | _ => .boolean
theorem fn_N : ∀ a, a < 3 → ∀ b, b < 3 → a ≠ b → (F_N a).2.1 ≠ (F_N b).2.1 := by decide +kernel
theorem ft_N_ok : ∀ k, k < 3 → parseFieldDescriptor (F_N k).2.2.1 = some (ft_N k) := by decide +kernel
abbrev c_A_init : ByteArray := prog_1_method_1_code
def y_A_init : MethodName := ⟨"LineTables", "<init>", "()V"⟩
abbrev c_O_init : ByteArray := object_method_1_code
def y_O_init : MethodName := ⟨"java/lang/Object", "<init>", "()V"⟩
abbrev c_T_init : ByteArray := prog_5_method_1_code
def y_T_init : MethodName := ⟨"LineTables$Table", "<init>", "()V"⟩
abbrev c_Q_init : ByteArray := prog_3_method_1_code
def y_Q_init : MethodName := ⟨"LineTables$Rationals", "<init>", "()V"⟩
abbrev c_K_init : ByteArray := prog_2_method_1_code
def y_K_init : MethodName := ⟨"LineTables$Kind", "<init>", "()V"⟩
abbrev c_W_init : ByteArray := prog_6_method_1_code
def y_W_init : MethodName := ⟨"LineTables$Whole", "<init>", "()V"⟩
abbrev c_P_init : ByteArray := prog_4_method_1_code
def y_P_init : MethodName := ⟨"LineTables$Residues", "<init>", "()V"⟩
abbrev c_A_begin : ByteArray := prog_1_method_2_code
def y_A_begin : MethodName := ⟨"LineTables", "begin", "(IIII)Z"⟩
abbrev c_A_isTable : ByteArray := prog_1_method_13_code
def y_A_isTable : MethodName := ⟨"LineTables", "isTable", "(I)Z"⟩
abbrev c_A_isField : ByteArray := prog_1_method_15_code
def y_A_isField : MethodName := ⟨"LineTables", "isField", "(I)Z"⟩
abbrev c_A_isAmount : ByteArray := prog_1_method_14_code
def y_A_isAmount : MethodName := ⟨"LineTables", "isAmount", "(I)Z"⟩
abbrev c_T_start : ByteArray := prog_5_method_2_code
def y_T_start : MethodName := ⟨"LineTables$Table", "start", "(III)V"⟩
abbrev c_JA_fill_0 : ByteArray := prog_13_method_103_code
def y_JA_fill_0 : MethodName := ⟨"java/util/Arrays", "fill", "([II)V"⟩
abbrev c_A_put : ByteArray := prog_1_method_3_code
def y_A_put : MethodName := ⟨"LineTables", "put", "(IIII)Z"⟩
abbrev c_A_hasNumber : ByteArray := prog_1_method_17_code
def y_A_hasNumber : MethodName := ⟨"LineTables", "hasNumber", "(III)Z"⟩
abbrev c_T_has : ByteArray := prog_5_method_3_code
def y_T_has : MethodName := ⟨"LineTables$Table", "has", "(II)Z"⟩
abbrev c_JM_floorMod : ByteArray := prog_11_method_50_code
def y_JM_floorMod : MethodName := ⟨"java/lang/Math", "floorMod", "(II)I"⟩
abbrev c_T_setSmall : ByteArray := prog_5_method_9_code
def y_T_setSmall : MethodName := ⟨"LineTables$Table", "setSmall", "(III)V"⟩
abbrev c_JI_signum : ByteArray := prog_10_method_56_code
def y_JI_signum : MethodName := ⟨"java/lang/Integer", "signum", "(I)I"⟩
abbrev c_JM_abs : ByteArray := prog_11_method_59_code
def y_JM_abs : MethodName := ⟨"java/lang/Math", "abs", "(I)I"⟩
abbrev c_A_reduce : ByteArray := prog_1_method_4_code
def y_A_reduce : MethodName := ⟨"LineTables", "reduce", "(I)I"⟩
abbrev c_A_sweep : ByteArray := prog_1_method_20_code
def y_A_sweep : MethodName := ⟨"LineTables", "sweep", "(LLineTables$Table;I)I"⟩
abbrev c_T_findRow : ByteArray := prog_5_method_5_code
def y_T_findRow : MethodName := ⟨"LineTables$Table", "findRow", "(II)I"⟩
abbrev c_T_isZero : ByteArray := prog_5_method_7_code
def y_T_isZero : MethodName := ⟨"LineTables$Table", "isZero", "(II)Z"⟩
abbrev c_T_head : ByteArray := prog_5_method_6_code
def y_T_head : MethodName := ⟨"LineTables$Table", "head", "(II)I"⟩
abbrev c_T_swapRows : ByteArray := prog_5_method_14_code
def y_T_swapRows : MethodName := ⟨"LineTables$Table", "swapRows", "(II)V"⟩
abbrev c_A_pivot : ByteArray := prog_1_method_21_code
def y_A_pivot : MethodName := ⟨"LineTables", "pivot", "(LLineTables$Table;II)V"⟩
abbrev c_A_kindOf : ByteArray := prog_1_method_18_code
def y_A_kindOf : MethodName := ⟨"LineTables", "kindOf", "(LLineTables$Table;)LLineTables$Kind;"⟩
abbrev c_Q_lead : ByteArray := prog_3_method_2_code
def y_Q_lead : MethodName := ⟨"LineTables$Rationals", "lead", "(LLineTables$Table;II)V"⟩
abbrev c_T_load : ByteArray := prog_5_method_10_code
def y_T_load : MethodName := ⟨"LineTables$Table", "load", "(IILLineTables$Whole;)V"⟩
abbrev c_Q_findCommon : ByteArray := prog_3_method_6_code
def y_Q_findCommon : MethodName := ⟨"LineTables$Rationals", "findCommon", "(I)V"⟩
abbrev c_W_setZero : ByteArray := prog_6_method_3_code
def y_W_setZero : MethodName := ⟨"LineTables$Whole", "setZero", "()V"⟩
abbrev c_W_isOne : ByteArray := prog_6_method_2_code
def y_W_isOne : MethodName := ⟨"LineTables$Whole", "isOne", "()Z"⟩
abbrev c_W_setSize : ByteArray := prog_6_method_4_code
def y_W_setSize : MethodName := ⟨"LineTables$Whole", "setSize", "(LLineTables$Whole;)V"⟩
abbrev c_W_divide : ByteArray := prog_6_method_8_code
def y_W_divide : MethodName := ⟨"LineTables$Whole", "divide", "(LLineTables$Whole;LLineTables$Whole;)V"⟩
abbrev c_JI_numberOfLeadingZeros : ByteArray := prog_10_method_47_code
def y_JI_numberOfLeadingZeros : MethodName := ⟨"java/lang/Integer", "numberOfLeadingZeros", "(I)I"⟩
abbrev c_W_topBelow : ByteArray := prog_6_method_9_code
def y_W_topBelow : MethodName := ⟨"LineTables$Whole", "topBelow", "(II)J"⟩
abbrev c_JM_max_0 : ByteArray := prog_11_method_66_code
def y_JM_max_0 : MethodName := ⟨"java/lang/Math", "max", "(JJ)J"⟩
abbrev c_JM_min_0 : ByteArray := prog_11_method_70_code
def y_JM_min_0 : MethodName := ⟨"java/lang/Math", "min", "(JJ)J"⟩
abbrev c_W_takeAway : ByteArray := prog_6_method_10_code
def y_W_takeAway : MethodName := ⟨"LineTables$Whole", "takeAway", "(LLineTables$Whole;JI)I"⟩
abbrev c_W_trim : ByteArray := prog_6_method_15_code
def y_W_trim : MethodName := ⟨"LineTables$Whole", "trim", "()V"⟩
abbrev c_Q_storeLine : ByteArray := prog_3_method_7_code
def y_Q_storeLine : MethodName := ⟨"LineTables$Rationals", "storeLine", "(LLineTables$Table;I)V"⟩
abbrev c_T_store : ByteArray := prog_5_method_11_code
def y_T_store : MethodName := ⟨"LineTables$Table", "store", "(IILLineTables$Whole;)V"⟩
abbrev c_JM_min_1 : ByteArray := prog_11_method_69_code
def y_JM_min_1 : MethodName := ⟨"java/lang/Math", "min", "(II)I"⟩
abbrev c_T_negateRow : ByteArray := prog_5_method_13_code
def y_T_negateRow : MethodName := ⟨"LineTables$Table", "negateRow", "(I)V"⟩
abbrev c_P_lead : ByteArray := prog_4_method_2_code
def y_P_lead : MethodName := ⟨"LineTables$Residues", "lead", "(LLineTables$Table;II)V"⟩
abbrev c_T_small : ByteArray := prog_5_method_8_code
def y_T_small : MethodName := ⟨"LineTables$Table", "small", "(II)I"⟩
abbrev c_P_inverse : ByteArray := prog_4_method_5_code
def y_P_inverse : MethodName := ⟨"LineTables$Residues", "inverse", "(II)I"⟩
abbrev c_Q_clear : ByteArray := prog_3_method_3_code
def y_Q_clear : MethodName := ⟨"LineTables$Rationals", "clear", "(LLineTables$Table;III)V"⟩
abbrev c_W_setProduct : ByteArray := prog_6_method_6_code
def y_W_setProduct : MethodName := ⟨"LineTables$Whole", "setProduct", "(LLineTables$Whole;LLineTables$Whole;)V"⟩
abbrev c_JA_fill_1 : ByteArray := prog_13_method_104_code
def y_JA_fill_1 : MethodName := ⟨"java/util/Arrays", "fill", "([IIII)V"⟩
abbrev c_JA_rangeCheck : ByteArray := prog_13_method_30_code
def y_JA_rangeCheck : MethodName := ⟨"java/util/Arrays", "rangeCheck", "(III)V"⟩
abbrev c_W_subtract : ByteArray := prog_6_method_7_code
def y_W_subtract : MethodName := ⟨"LineTables$Whole", "subtract", "(LLineTables$Whole;)V"⟩
abbrev c_W_addSize : ByteArray := prog_6_method_13_code
def y_W_addSize : MethodName := ⟨"LineTables$Whole", "addSize", "(LLineTables$Whole;)V"⟩
abbrev c_JM_max_1 : ByteArray := prog_11_method_65_code
def y_JM_max_1 : MethodName := ⟨"java/lang/Math", "max", "(II)I"⟩
abbrev c_W_limbAt : ByteArray := prog_6_method_11_code
def y_W_limbAt : MethodName := ⟨"LineTables$Whole", "limbAt", "(I)I"⟩
abbrev c_W_compareSize : ByteArray := prog_6_method_12_code
def y_W_compareSize : MethodName := ⟨"LineTables$Whole", "compareSize", "(LLineTables$Whole;)I"⟩
abbrev c_JI_compare : ByteArray := prog_10_method_40_code
def y_JI_compare : MethodName := ⟨"java/lang/Integer", "compare", "(II)I"⟩
abbrev c_W_setDifference : ByteArray := prog_6_method_14_code
def y_W_setDifference : MethodName := ⟨"LineTables$Whole", "setDifference", "(LLineTables$Whole;LLineTables$Whole;)V"⟩
abbrev c_P_clear : ByteArray := prog_4_method_3_code
def y_P_clear : MethodName := ⟨"LineTables$Residues", "clear", "(LLineTables$Table;III)V"⟩
abbrev c_A_turn : ByteArray := prog_1_method_5_code
def y_A_turn : MethodName := ⟨"LineTables", "turn", "(III)I"⟩
abbrev c_A_dual : ByteArray := prog_1_method_6_code
def y_A_dual : MethodName := ⟨"LineTables", "dual", "(II)I"⟩
abbrev c_A_isReduced : ByteArray := prog_1_method_16_code
def y_A_isReduced : MethodName := ⟨"LineTables", "isReduced", "(I)Z"⟩
abbrev c_T_hasPlace : ByteArray := prog_5_method_4_code
def y_T_hasPlace : MethodName := ⟨"LineTables$Table", "hasPlace", "(I)Z"⟩
abbrev c_Q_fillDual : ByteArray := prog_3_method_4_code
def y_Q_fillDual : MethodName := ⟨"LineTables$Rationals", "fillDual", "(LLineTables$Table;ILLineTables$Table;I)V"⟩
abbrev c_Q_balance : ByteArray := prog_3_method_5_code
def y_Q_balance : MethodName := ⟨"LineTables$Rationals", "balance", "(LLineTables$Table;ILLineTables$Table;II)V"⟩
abbrev c_W_negate : ByteArray := prog_6_method_5_code
def y_W_negate : MethodName := ⟨"LineTables$Whole", "negate", "()V"⟩
abbrev c_P_fillDual : ByteArray := prog_4_method_4_code
def y_P_fillDual : MethodName := ⟨"LineTables$Residues", "fillDual", "(LLineTables$Table;ILLineTables$Table;I)V"⟩
abbrev c_A_keepSpare : ByteArray := prog_1_method_19_code
def y_A_keepSpare : MethodName := ⟨"LineTables", "keepSpare", "(II)I"⟩
abbrev c_A_leave : ByteArray := prog_1_method_7_code
def y_A_leave : MethodName := ⟨"LineTables", "leave", "(IIIZ)I"⟩
abbrev c_T_copyNumbers : ByteArray := prog_5_method_15_code
def y_T_copyNumbers : MethodName := ⟨"LineTables$Table", "copyNumbers", "(LLineTables$Table;II)V"⟩
abbrev c_T_dropFirstRows : ByteArray := prog_5_method_16_code
def y_T_dropFirstRows : MethodName := ⟨"LineTables$Table", "dropFirstRows", "(I)V"⟩
abbrev c_T_dropColumns : ByteArray := prog_5_method_17_code
def y_T_dropColumns : MethodName := ⟨"LineTables$Table", "dropColumns", "(I)V"⟩
abbrev c_A_sum : ByteArray := prog_1_method_8_code
def y_A_sum : MethodName := ⟨"LineTables", "sum", "(III)I"⟩
abbrev c_A_of : ByteArray := prog_1_method_9_code
def y_A_of : MethodName := ⟨"LineTables", "of", "(II)I"⟩
abbrev c_A_place : ByteArray := prog_1_method_10_code
def y_A_place : MethodName := ⟨"LineTables", "place", "(II)I"⟩
abbrev c_A_sign : ByteArray := prog_1_method_11_code
def y_A_sign : MethodName := ⟨"LineTables", "sign", "(III)I"⟩
abbrev c_A_digit : ByteArray := prog_1_method_12_code
def y_A_digit : MethodName := ⟨"LineTables", "digit", "(IIII)I"⟩
abbrev c_T_toldDigit : ByteArray := prog_5_method_12_code
def y_T_toldDigit : MethodName := ⟨"LineTables$Table", "toldDigit", "(III)I"⟩
abbrev c_M_init : ByteArray := prog_8_method_2_code
def y_M_init : MethodName := ⟨"LineTablesModel", "<init>", "()V"⟩
abbrev c_N_init : ByteArray := prog_9_method_1_code
def y_N_init : MethodName := ⟨"LineTablesModel$Num", "<init>", "()V"⟩
abbrev c_M_begin : ByteArray := prog_8_method_23_code
def y_M_begin : MethodName := ⟨"LineTablesModel", "begin", "(IIII)Z"⟩
abbrev c_M_isTable : ByteArray := prog_8_method_6_code
def y_M_isTable : MethodName := ⟨"LineTablesModel", "isTable", "(I)Z"⟩
abbrev c_M_isField : ByteArray := prog_8_method_9_code
def y_M_isField : MethodName := ⟨"LineTablesModel", "isField", "(I)Z"⟩
abbrev c_M_empty : ByteArray := prog_8_method_10_code
def y_M_empty : MethodName := ⟨"LineTablesModel", "empty", "(III)V"⟩
abbrev c_N_zero : ByteArray := prog_9_method_2_code
def y_N_zero : MethodName := ⟨"LineTablesModel$Num", "zero", "()V"⟩
abbrev c_N_small : ByteArray := prog_9_method_4_code
def y_N_small : MethodName := ⟨"LineTablesModel$Num", "small", "(J)V"⟩
abbrev c_M_keep : ByteArray := prog_8_method_12_code
def y_M_keep : MethodName := ⟨"LineTablesModel", "keep", "(I)V"⟩
abbrev c_M_store : ByteArray := prog_8_method_4_code
def y_M_store : MethodName := ⟨"LineTablesModel", "store", "(LLineTablesModel$Num;[II)V"⟩
abbrev c_M_put : ByteArray := prog_8_method_24_code
def y_M_put : MethodName := ⟨"LineTablesModel", "put", "(IIII)Z"⟩
abbrev c_M_isCell : ByteArray := prog_8_method_8_code
def y_M_isCell : MethodName := ⟨"LineTablesModel", "isCell", "(III)Z"⟩
abbrev c_M_reduce : ByteArray := prog_8_method_25_code
def y_M_reduce : MethodName := ⟨"LineTablesModel", "reduce", "(I)I"⟩
abbrev c_M_load : ByteArray := prog_8_method_13_code
def y_M_load : MethodName := ⟨"LineTablesModel", "load", "(I)V"⟩
abbrev c_M_bring : ByteArray := prog_8_method_11_code
def y_M_bring : MethodName := ⟨"LineTablesModel", "bring", "(IIII)V"⟩
abbrev c_M_fetch : ByteArray := prog_8_method_5_code
def y_M_fetch : MethodName := ⟨"LineTablesModel", "fetch", "(LLineTablesModel$Num;[II)V"⟩
abbrev c_M_finish : ByteArray := prog_8_method_22_code
def y_M_finish : MethodName := ⟨"LineTablesModel", "finish", "(I)I"⟩
abbrev c_M_reduceAll : ByteArray := prog_8_method_21_code
def y_M_reduceAll : MethodName := ⟨"LineTablesModel", "reduceAll", "()V"⟩
abbrev c_M_isZero : ByteArray := prog_8_method_14_code
def y_M_isZero : MethodName := ⟨"LineTablesModel", "isZero", "(I)Z"⟩
abbrev c_M_swap : ByteArray := prog_8_method_19_code
def y_M_swap : MethodName := ⟨"LineTablesModel", "swap", "(II)V"⟩
abbrev c_N_copy : ByteArray := prog_9_method_3_code
def y_N_copy : MethodName := ⟨"LineTablesModel$Num", "copy", "(LLineTablesModel$Num;)V"⟩
abbrev c_M_give : ByteArray := prog_8_method_20_code
def y_M_give : MethodName := ⟨"LineTablesModel", "give", "(II)V"⟩
abbrev c_M_divide : ByteArray := prog_8_method_17_code
def y_M_divide : MethodName := ⟨"LineTablesModel", "divide", "(II)V"⟩
abbrev c_M_inverse : ByteArray := prog_8_method_16_code
def y_M_inverse : MethodName := ⟨"LineTablesModel", "inverse", "(I)I"⟩
abbrev c_N_product : ByteArray := prog_9_method_11_code
def y_N_product : MethodName := ⟨"LineTablesModel$Num", "product", "(LLineTablesModel$Num;LLineTablesModel$Num;)V"⟩
abbrev c_N_trim : ByteArray := prog_9_method_8_code
def y_N_trim : MethodName := ⟨"LineTablesModel$Num", "trim", "()V"⟩
abbrev c_M_settle : ByteArray := prog_8_method_15_code
def y_M_settle : MethodName := ⟨"LineTablesModel", "settle", "(I)V"⟩
abbrev c_M_divisor : ByteArray := prog_8_method_1_code
def y_M_divisor : MethodName := ⟨"LineTablesModel", "divisor", "(LLineTablesModel$Num;LLineTablesModel$Num;)V"⟩
abbrev c_N_quotient : ByteArray := prog_9_method_12_code
def y_N_quotient : MethodName := ⟨"LineTablesModel$Num", "quotient", "(LLineTablesModel$Num;LLineTablesModel$Num;LLineTablesModel$Num;)V"⟩
abbrev c_N_compareSize : ByteArray := prog_9_method_9_code
def y_N_compareSize : MethodName := ⟨"LineTablesModel$Num", "compareSize", "(LLineTablesModel$Num;)I"⟩
abbrev c_N_often : ByteArray := prog_9_method_13_code
def y_N_often : MethodName := ⟨"LineTablesModel$Num", "often", "(LLineTablesModel$Num;LLineTablesModel$Num;)I"⟩
abbrev c_N_isAtMost : ByteArray := prog_9_method_14_code
def y_N_isAtMost : MethodName := ⟨"LineTablesModel$Num", "isAtMost", "(LLineTablesModel$Num;ILLineTablesModel$Num;)Z"⟩
abbrev c_N_turn : ByteArray := prog_9_method_7_code
def y_N_turn : MethodName := ⟨"LineTablesModel$Num", "turn", "()V"⟩
abbrev c_M_take : ByteArray := prog_8_method_18_code
def y_M_take : MethodName := ⟨"LineTablesModel", "take", "(III)V"⟩
abbrev c_N_less : ByteArray := prog_9_method_10_code
def y_N_less : MethodName := ⟨"LineTablesModel$Num", "less", "(LLineTablesModel$Num;LLineTablesModel$Num;)V"⟩
abbrev c_M_turn : ByteArray := prog_8_method_26_code
def y_M_turn : MethodName := ⟨"LineTablesModel", "turn", "(III)I"⟩
abbrev c_M_isReduced : ByteArray := prog_8_method_7_code
def y_M_isReduced : MethodName := ⟨"LineTablesModel", "isReduced", "(I)Z"⟩
abbrev c_M_dual : ByteArray := prog_8_method_27_code
def y_M_dual : MethodName := ⟨"LineTablesModel", "dual", "(II)I"⟩
abbrev c_M_leave : ByteArray := prog_8_method_28_code
def y_M_leave : MethodName := ⟨"LineTablesModel", "leave", "(IIIZ)I"⟩
abbrev c_M_shift : ByteArray := prog_8_method_29_code
def y_M_shift : MethodName := ⟨"LineTablesModel", "shift", "(II)V"⟩
abbrev c_M_sum : ByteArray := prog_8_method_30_code
def y_M_sum : MethodName := ⟨"LineTablesModel", "sum", "(III)I"⟩
abbrev c_M_of : ByteArray := prog_8_method_31_code
def y_M_of : MethodName := ⟨"LineTablesModel", "of", "(II)I"⟩
abbrev c_M_place : ByteArray := prog_8_method_32_code
def y_M_place : MethodName := ⟨"LineTablesModel", "place", "(II)I"⟩
abbrev c_M_sign : ByteArray := prog_8_method_33_code
def y_M_sign : MethodName := ⟨"LineTablesModel", "sign", "(III)I"⟩
abbrev c_M_digit : ByteArray := prog_8_method_34_code
def y_M_digit : MethodName := ⟨"LineTablesModel", "digit", "(IIII)I"⟩
end
section
-- ===== the words of the tables that hold for every caller: G; each is there (written by wip/gen/names.py) =====
def G : List Cond := lw_tbl.filter goodWord
theorem inG {w : Cond} (h : w ∈ lw_tbl) (hg : goodWord w = true) : w ∈ G := List.mem_filter.mpr ⟨h, hg⟩
theorem inT {w : Cond} (n : Nat) (h : tables_1[n]? = some w) (hg : goodWord w = true) : w ∈ G := inG (List.mem_append_right _ (List.mem_of_getElem? h)) hg
theorem inS {w : Cond} (n : Nat) (h : (k2_sels lw_privs)[n]? = some w) (hg : goodWord w = true) : w ∈ G := inG (List.mem_append_left _ (List.mem_of_getElem? h)) hg
theorem goodG {ws : List Cond} (h : ∀ w ∈ ws, w ∈ G) : GoodIn G ws := fun w hw => ⟨h w hw, good_of_word (List.mem_filter.mp (h w hw)).2⟩
theorem in_L : Cond.initialized R_L ∈ G := inT 0 (by decide +kernel) rfl
theorem in_A : Cond.initialized R_A ∈ G := inT 1 (by decide +kernel) rfl
theorem in_T : Cond.initialized R_T ∈ G := inT 2 (by decide +kernel) rfl
theorem in_K : Cond.initialized R_K ∈ G := inT 3 (by decide +kernel) rfl
theorem in_Q : Cond.initialized R_Q ∈ G := inT 4 (by decide +kernel) rfl
theorem in_W : Cond.initialized R_W ∈ G := inT 5 (by decide +kernel) rfl
theorem in_P : Cond.initialized R_P ∈ G := inT 6 (by decide +kernel) rfl
theorem in_M : Cond.initialized R_M ∈ G := inT 7 (by decide +kernel) rfl
theorem in_N : Cond.initialized R_N ∈ G := inT 8 (by decide +kernel) rfl
theorem in_JA : Cond.initialized R_JA ∈ G := inT 9 (by decide +kernel) rfl
theorem in_JM : Cond.initialized R_JM ∈ G := inT 10 (by decide +kernel) rfl
theorem in_JI : Cond.initialized R_JI ∈ G := inT 11 (by decide +kernel) rfl
theorem in_JS : Cond.initialized R_JS ∈ G := inT 12 (by decide +kernel) rfl
theorem cl_L_7 : Cond.classLink R_L 7 "LineTables" ∈ G := inT 13 (by decide +kernel) rfl
theorem ia_A : Cond.instantiable R_A 4 ∈ G := inT 14 (by decide +kernel) rfl
theorem ml_L_9 : Cond.methodLink R_L 9 y_A_init ∈ G := inT 15 (by decide +kernel) rfl
theorem im_A_init : Cond.instanceMethod y_A_init ∈ G := inT 16 (by decide +kernel) rfl
theorem co_A_init : Cond.code y_A_init c_A_init 2 none ∈ G := inT 17 (by decide +kernel) rfl
theorem ml_A_3 : Cond.methodLink R_A 3 objectInit ∈ G := inT 18 (by decide +kernel) rfl
theorem im_objectInit : Cond.instanceMethod objectInit ∈ G := inT 19 (by decide +kernel) rfl
theorem co_objectInit : Cond.code objectInit ⟨#[0xb1]⟩ 1 none ∈ G := inT 20 (by decide +kernel) rfl
theorem cl_A_9 : Cond.classLink R_A 9 "LineTables$Table" ∈ G := inT 21 (by decide +kernel) rfl
theorem ia_T : Cond.instantiable R_T 6 ∈ G := inT 23 (by decide +kernel) rfl
theorem ml_A_15 : Cond.methodLink R_A 15 y_T_init ∈ G := inT 24 (by decide +kernel) rfl
theorem im_T_init : Cond.instanceMethod y_T_init ∈ G := inT 25 (by decide +kernel) rfl
theorem co_T_init : Cond.code y_T_init c_T_init 1 none ∈ G := inT 26 (by decide +kernel) rfl
theorem ml_T_5 : Cond.methodLink R_T 5 objectInit ∈ G := inT 27 (by decide +kernel) rfl
theorem cl_T_19 : Cond.classLink R_T 19 "[[I" ∈ G := inT 28 (by decide +kernel) rfl
theorem fl_T_24 : Cond.fieldLink R_T 24 "LineTables$Table" "field" "I" ∈ G := inT 30 (by decide +kernel) rfl
theorem fl_P_13 : Cond.fieldLink R_P 13 "LineTables$Table" "field" "I" ∈ G := inT 31 (by decide +kernel) rfl
theorem fl_A_56 : Cond.fieldLink R_A 56 "LineTables$Table" "field" "I" ∈ G := inT 32 (by decide +kernel) rfl
theorem fl_T_28 : Cond.fieldLink R_T 28 "LineTables$Table" "rows" "I" ∈ G := inT 33 (by decide +kernel) rfl
theorem fl_Q_77 : Cond.fieldLink R_Q 77 "LineTables$Table" "rows" "I" ∈ G := inT 34 (by decide +kernel) rfl
theorem fl_P_34 : Cond.fieldLink R_P 34 "LineTables$Table" "rows" "I" ∈ G := inT 35 (by decide +kernel) rfl
theorem fl_A_73 : Cond.fieldLink R_A 73 "LineTables$Table" "rows" "I" ∈ G := inT 36 (by decide +kernel) rfl
theorem fl_Q_40 : Cond.fieldLink R_Q 40 "LineTables$Table" "columns" "I" ∈ G := inT 37 (by decide +kernel) rfl
theorem fl_T_31 : Cond.fieldLink R_T 31 "LineTables$Table" "columns" "I" ∈ G := inT 38 (by decide +kernel) rfl
theorem fl_P_22 : Cond.fieldLink R_P 22 "LineTables$Table" "columns" "I" ∈ G := inT 39 (by decide +kernel) rfl
theorem fl_A_91 : Cond.fieldLink R_A 91 "LineTables$Table" "columns" "I" ∈ G := inT 40 (by decide +kernel) rfl
theorem fl_T_11 : Cond.fieldLink R_T 11 "LineTables$Table" "reduced" "Z" ∈ G := inT 41 (by decide +kernel) rfl
theorem fl_A_52 : Cond.fieldLink R_A 52 "LineTables$Table" "reduced" "Z" ∈ G := inT 42 (by decide +kernel) rfl
theorem fl_T_15 : Cond.fieldLink R_T 15 "LineTables$Table" "places" "[I" ∈ G := inT 43 (by decide +kernel) rfl
theorem fl_P_37 : Cond.fieldLink R_P 37 "LineTables$Table" "places" "[I" ∈ G := inT 44 (by decide +kernel) rfl
theorem fl_Q_88 : Cond.fieldLink R_Q 88 "LineTables$Table" "places" "[I" ∈ G := inT 45 (by decide +kernel) rfl
theorem fl_A_80 : Cond.fieldLink R_A 80 "LineTables$Table" "places" "[I" ∈ G := inT 46 (by decide +kernel) rfl
theorem fl_T_21 : Cond.fieldLink R_T 21 "LineTables$Table" "numbers" "[[I" ∈ G := inT 47 (by decide +kernel) rfl
theorem ac_int : Cond.arrayClass .int ∈ G := inT 61 (by decide +kernel) rfl
theorem cl_A_20 : Cond.classLink R_A 20 "LineTables$Rationals" ∈ G := inT 62 (by decide +kernel) rfl
theorem ia_Q : Cond.instantiable R_Q 8 ∈ G := inT 63 (by decide +kernel) rfl
theorem ml_A_22 : Cond.methodLink R_A 22 y_Q_init ∈ G := inT 64 (by decide +kernel) rfl
theorem im_Q_init : Cond.instanceMethod y_Q_init ∈ G := inT 65 (by decide +kernel) rfl
theorem co_Q_init : Cond.code y_Q_init c_Q_init 2 none ∈ G := inT 66 (by decide +kernel) rfl
theorem im_K_init : Cond.instanceMethod y_K_init ∈ G := inT 68 (by decide +kernel) rfl
theorem co_K_init : Cond.code y_K_init c_K_init 1 none ∈ G := inT 69 (by decide +kernel) rfl
theorem ml_K_1 : Cond.methodLink R_K 1 objectInit ∈ G := inT 70 (by decide +kernel) rfl
theorem cl_Q_9 : Cond.classLink R_Q 9 "LineTables$Whole" ∈ G := inT 71 (by decide +kernel) rfl
theorem ia_W : Cond.instantiable R_W 3 ∈ G := inT 73 (by decide +kernel) rfl
theorem ml_Q_17 : Cond.methodLink R_Q 17 y_W_init ∈ G := inT 74 (by decide +kernel) rfl
theorem im_W_init : Cond.instanceMethod y_W_init ∈ G := inT 75 (by decide +kernel) rfl
theorem co_W_init : Cond.code y_W_init c_W_init 1 none ∈ G := inT 76 (by decide +kernel) rfl
theorem ml_W_5 : Cond.methodLink R_W 5 objectInit ∈ G := inT 77 (by decide +kernel) rfl
theorem fl_W_11 : Cond.fieldLink R_W 11 "LineTables$Whole" "limbs" "[I" ∈ G := inT 78 (by decide +kernel) rfl
theorem fl_T_66 : Cond.fieldLink R_T 66 "LineTables$Whole" "limbs" "[I" ∈ G := inT 79 (by decide +kernel) rfl
theorem fl_W_15 : Cond.fieldLink R_W 15 "LineTables$Whole" "count" "I" ∈ G := inT 80 (by decide +kernel) rfl
theorem fl_T_59 : Cond.fieldLink R_T 59 "LineTables$Whole" "count" "I" ∈ G := inT 81 (by decide +kernel) rfl
theorem fl_W_19 : Cond.fieldLink R_W 19 "LineTables$Whole" "signum" "I" ∈ G := inT 82 (by decide +kernel) rfl
theorem fl_Q_105 : Cond.fieldLink R_Q 105 "LineTables$Whole" "signum" "I" ∈ G := inT 83 (by decide +kernel) rfl
theorem fl_T_64 : Cond.fieldLink R_T 64 "LineTables$Whole" "signum" "I" ∈ G := inT 84 (by decide +kernel) rfl
theorem fl_Q_11 : Cond.fieldLink R_Q 11 "LineTables$Rationals" "line" "[LLineTables$Whole;" ∈ G := inT 92 (by decide +kernel) rfl
theorem fl_Q_18 : Cond.fieldLink R_Q 18 "LineTables$Rationals" "number" "LLineTables$Whole;" ∈ G := inT 93 (by decide +kernel) rfl
theorem fl_Q_22 : Cond.fieldLink R_Q 22 "LineTables$Rationals" "product" "LLineTables$Whole;" ∈ G := inT 94 (by decide +kernel) rfl
theorem fl_Q_25 : Cond.fieldLink R_Q 25 "LineTables$Rationals" "rowFactor" "LLineTables$Whole;" ∈ G := inT 95 (by decide +kernel) rfl
theorem fl_Q_28 : Cond.fieldLink R_Q 28 "LineTables$Rationals" "leaderFactor" "LLineTables$Whole;" ∈ G := inT 96 (by decide +kernel) rfl
theorem fl_Q_31 : Cond.fieldLink R_Q 31 "LineTables$Rationals" "quotient" "LLineTables$Whole;" ∈ G := inT 97 (by decide +kernel) rfl
theorem fl_Q_34 : Cond.fieldLink R_Q 34 "LineTables$Rationals" "common" "LLineTables$Whole;" ∈ G := inT 98 (by decide +kernel) rfl
theorem fl_Q_37 : Cond.fieldLink R_Q 37 "LineTables$Rationals" "rest" "LLineTables$Whole;" ∈ G := inT 99 (by decide +kernel) rfl
theorem cl_A_27 : Cond.classLink R_A 27 "LineTables$Residues" ∈ G := inT 117 (by decide +kernel) rfl
theorem ia_P : Cond.instantiable R_P 0 ∈ G := inT 118 (by decide +kernel) rfl
theorem im_P_init : Cond.instanceMethod y_P_init ∈ G := inT 120 (by decide +kernel) rfl
theorem co_P_init : Cond.code y_P_init c_P_init 1 none ∈ G := inT 121 (by decide +kernel) rfl
theorem fl_A_11 : Cond.fieldLink R_A 11 "LineTables" "tables" "[LLineTables$Table;" ∈ G := inT 124 (by decide +kernel) rfl
theorem fl_A_23 : Cond.fieldLink R_A 23 "LineTables" "rationals" "LLineTables$Rationals;" ∈ G := inT 125 (by decide +kernel) rfl
theorem fl_A_30 : Cond.fieldLink R_A 30 "LineTables" "residues" "LLineTables$Residues;" ∈ G := inT 126 (by decide +kernel) rfl
theorem fl_A_16 : Cond.fieldLink R_A 16 "LineTables" "spare" "LLineTables$Table;" ∈ G := inT 127 (by decide +kernel) rfl
theorem ml_L_13 : Cond.methodLink R_L 13 y_A_begin ∈ G := inT 137 (by decide +kernel) rfl
theorem im_A_begin : Cond.instanceMethod y_A_begin ∈ G := inT 138 (by decide +kernel) rfl
theorem se_A_A_begin : Cond.selects R_A y_A_begin y_A_begin ∈ G := inT 139 (by decide +kernel) rfl
theorem co_A_begin : Cond.code y_A_begin c_A_begin 5 (some .boolean) ∈ G := inT 140 (by decide +kernel) rfl
theorem ml_A_34 : Cond.methodLink R_A 34 y_A_isTable ∈ G := inT 141 (by decide +kernel) rfl
theorem st_A_isTable : Cond.static y_A_isTable ∈ G := inT 142 (by decide +kernel) rfl
theorem co_A_isTable : Cond.code y_A_isTable c_A_isTable 1 (some .boolean) ∈ G := inT 143 (by decide +kernel) rfl
theorem ml_A_38 : Cond.methodLink R_A 38 y_A_isField ∈ G := inT 144 (by decide +kernel) rfl
theorem st_A_isField : Cond.static y_A_isField ∈ G := inT 145 (by decide +kernel) rfl
theorem co_A_isField : Cond.code y_A_isField c_A_isField 2 (some .boolean) ∈ G := inT 146 (by decide +kernel) rfl
theorem ml_A_41 : Cond.methodLink R_A 41 y_A_isAmount ∈ G := inT 147 (by decide +kernel) rfl
theorem st_A_isAmount : Cond.static y_A_isAmount ∈ G := inT 148 (by decide +kernel) rfl
theorem co_A_isAmount : Cond.code y_A_isAmount c_A_isAmount 1 (some .boolean) ∈ G := inT 149 (by decide +kernel) rfl
theorem ml_A_44 : Cond.methodLink R_A 44 y_T_start ∈ G := inT 150 (by decide +kernel) rfl
theorem im_T_start : Cond.instanceMethod y_T_start ∈ G := inT 151 (by decide +kernel) rfl
theorem se_T_T_start : Cond.selects R_T y_T_start y_T_start ∈ G := inT 152 (by decide +kernel) rfl
theorem co_T_start : Cond.code y_T_start c_T_start 5 none ∈ G := inT 153 (by decide +kernel) rfl
theorem ml_T_34 : Cond.methodLink R_T 34 y_JA_fill_0 ∈ G := inT 154 (by decide +kernel) rfl
theorem st_JA_fill_0 : Cond.static y_JA_fill_0 ∈ G := inT 155 (by decide +kernel) rfl
theorem co_JA_fill_0 : Cond.code y_JA_fill_0 c_JA_fill_0 4 none ∈ G := inT 156 (by decide +kernel) rfl
theorem ml_L_18 : Cond.methodLink R_L 18 y_A_put ∈ G := inT 157 (by decide +kernel) rfl
theorem im_A_put : Cond.instanceMethod y_A_put ∈ G := inT 158 (by decide +kernel) rfl
theorem se_A_A_put : Cond.selects R_A y_A_put y_A_put ∈ G := inT 159 (by decide +kernel) rfl
theorem co_A_put : Cond.code y_A_put c_A_put 6 (some .boolean) ∈ G := inT 160 (by decide +kernel) rfl
theorem ml_A_48 : Cond.methodLink R_A 48 y_A_hasNumber ∈ G := inT 161 (by decide +kernel) rfl
theorem im_A_hasNumber : Cond.instanceMethod y_A_hasNumber ∈ G := inT 163 (by decide +kernel) rfl
theorem co_A_hasNumber : Cond.code y_A_hasNumber c_A_hasNumber 4 (some .boolean) ∈ G := inT 164 (by decide +kernel) rfl
theorem ml_A_133 : Cond.methodLink R_A 133 y_T_has ∈ G := inT 165 (by decide +kernel) rfl
theorem im_T_has : Cond.instanceMethod y_T_has ∈ G := inT 166 (by decide +kernel) rfl
theorem se_T_T_has : Cond.selects R_T y_T_has y_T_has ∈ G := inT 167 (by decide +kernel) rfl
theorem co_T_has : Cond.code y_T_has c_T_has 3 (some .boolean) ∈ G := inT 168 (by decide +kernel) rfl
theorem ml_A_60 : Cond.methodLink R_A 60 y_JM_floorMod ∈ G := inT 169 (by decide +kernel) rfl
theorem st_JM_floorMod : Cond.static y_JM_floorMod ∈ G := inT 170 (by decide +kernel) rfl
theorem co_JM_floorMod : Cond.code y_JM_floorMod c_JM_floorMod 3 (some .int) ∈ G := inT 171 (by decide +kernel) rfl
theorem ml_A_66 : Cond.methodLink R_A 66 y_T_setSmall ∈ G := inT 172 (by decide +kernel) rfl
theorem im_T_setSmall : Cond.instanceMethod y_T_setSmall ∈ G := inT 173 (by decide +kernel) rfl
theorem se_T_T_setSmall : Cond.selects R_T y_T_setSmall y_T_setSmall ∈ G := inT 174 (by decide +kernel) rfl
theorem co_T_setSmall : Cond.code y_T_setSmall c_T_setSmall 4 none ∈ G := inT 175 (by decide +kernel) rfl
theorem ml_T_48 : Cond.methodLink R_T 48 y_JI_signum ∈ G := inT 176 (by decide +kernel) rfl
theorem st_JI_signum : Cond.static y_JI_signum ∈ G := inT 177 (by decide +kernel) rfl
theorem co_JI_signum : Cond.code y_JI_signum c_JI_signum 1 (some .int) ∈ G := inT 178 (by decide +kernel) rfl
theorem ml_T_54 : Cond.methodLink R_T 54 y_JM_abs ∈ G := inT 179 (by decide +kernel) rfl
theorem st_JM_abs : Cond.static y_JM_abs ∈ G := inT 180 (by decide +kernel) rfl
theorem co_JM_abs : Cond.code y_JM_abs c_JM_abs 1 (some .int) ∈ G := inT 181 (by decide +kernel) rfl
theorem ml_L_22 : Cond.methodLink R_L 22 y_A_reduce ∈ G := inT 182 (by decide +kernel) rfl
theorem im_A_reduce : Cond.instanceMethod y_A_reduce ∈ G := inT 183 (by decide +kernel) rfl
theorem se_A_A_reduce : Cond.selects R_A y_A_reduce y_A_reduce ∈ G := inT 184 (by decide +kernel) rfl
theorem co_A_reduce : Cond.code y_A_reduce c_A_reduce 3 (some .int) ∈ G := inT 185 (by decide +kernel) rfl
theorem ml_A_69 : Cond.methodLink R_A 69 y_A_sweep ∈ G := inT 186 (by decide +kernel) rfl
theorem im_A_sweep : Cond.instanceMethod y_A_sweep ∈ G := inT 188 (by decide +kernel) rfl
theorem co_A_sweep : Cond.code y_A_sweep c_A_sweep 6 (some .int) ∈ G := inT 189 (by decide +kernel) rfl
theorem ml_A_136 : Cond.methodLink R_A 136 y_T_findRow ∈ G := inT 190 (by decide +kernel) rfl
theorem im_T_findRow : Cond.instanceMethod y_T_findRow ∈ G := inT 191 (by decide +kernel) rfl
theorem se_T_T_findRow : Cond.selects R_T y_T_findRow y_T_findRow ∈ G := inT 192 (by decide +kernel) rfl
theorem co_T_findRow : Cond.code y_T_findRow c_T_findRow 4 (some .int) ∈ G := inT 193 (by decide +kernel) rfl
theorem ml_T_40 : Cond.methodLink R_T 40 y_T_isZero ∈ G := inT 194 (by decide +kernel) rfl
theorem im_T_isZero : Cond.instanceMethod y_T_isZero ∈ G := inT 195 (by decide +kernel) rfl
theorem se_T_T_isZero : Cond.selects R_T y_T_isZero y_T_isZero ∈ G := inT 196 (by decide +kernel) rfl
theorem co_T_isZero : Cond.code y_T_isZero c_T_isZero 3 (some .boolean) ∈ G := inT 197 (by decide +kernel) rfl
theorem ml_T_44 : Cond.methodLink R_T 44 y_T_head ∈ G := inT 198 (by decide +kernel) rfl
theorem im_T_head : Cond.instanceMethod y_T_head ∈ G := inT 199 (by decide +kernel) rfl
theorem se_T_T_head : Cond.selects R_T y_T_head y_T_head ∈ G := inT 200 (by decide +kernel) rfl
theorem co_T_head : Cond.code y_T_head c_T_head 3 (some .int) ∈ G := inT 201 (by decide +kernel) rfl
theorem ml_A_139 : Cond.methodLink R_A 139 y_T_swapRows ∈ G := inT 202 (by decide +kernel) rfl
theorem im_T_swapRows : Cond.instanceMethod y_T_swapRows ∈ G := inT 203 (by decide +kernel) rfl
theorem se_T_T_swapRows : Cond.selects R_T y_T_swapRows y_T_swapRows ∈ G := inT 204 (by decide +kernel) rfl
theorem co_T_swapRows : Cond.code y_T_swapRows c_T_swapRows 4 none ∈ G := inT 205 (by decide +kernel) rfl
theorem ml_A_84 : Cond.methodLink R_A 84 y_A_pivot ∈ G := inT 206 (by decide +kernel) rfl
theorem im_A_pivot : Cond.instanceMethod y_A_pivot ∈ G := inT 208 (by decide +kernel) rfl
theorem co_A_pivot : Cond.code y_A_pivot c_A_pivot 6 none ∈ G := inT 209 (by decide +kernel) rfl
theorem ml_A_97 : Cond.methodLink R_A 97 y_A_kindOf ∈ G := inT 210 (by decide +kernel) rfl
theorem im_A_kindOf : Cond.instanceMethod y_A_kindOf ∈ G := inT 212 (by decide +kernel) rfl
theorem co_A_kindOf : Cond.code y_A_kindOf c_A_kindOf 2 (some (.object "LineTables$Kind")) ∈ G := inT 213 (by decide +kernel) rfl
theorem ml_A_143 : Cond.methodLink R_A 143 ⟨"LineTables$Kind", "lead", "(LLineTables$Table;II)V"⟩ ∈ G := inT 214 (by decide +kernel) rfl
theorem se_Q_Q_lead : Cond.selects R_Q ⟨"LineTables$Kind", "lead", "(LLineTables$Table;II)V"⟩ y_Q_lead ∈ G := inT 217 (by decide +kernel) rfl
theorem im_Q_lead : Cond.instanceMethod y_Q_lead ∈ G := inT 218 (by decide +kernel) rfl
theorem co_Q_lead : Cond.code y_Q_lead c_Q_lead 5 none ∈ G := inT 219 (by decide +kernel) rfl
theorem ml_Q_46 : Cond.methodLink R_Q 46 y_T_load ∈ G := inT 220 (by decide +kernel) rfl
theorem im_T_load : Cond.instanceMethod y_T_load ∈ G := inT 221 (by decide +kernel) rfl
theorem se_T_T_load : Cond.selects R_T y_T_load y_T_load ∈ G := inT 222 (by decide +kernel) rfl
theorem co_T_load : Cond.code y_T_load c_T_load 5 none ∈ G := inT 223 (by decide +kernel) rfl
theorem ml_T_69 : Cond.methodLink R_T 69 ⟨"java/lang/System", "arraycopy", "(Ljava/lang/Object;ILjava/lang/Object;II)V"⟩ ∈ G := inT 224 (by decide +kernel) rfl
theorem st_X225 : Cond.static ⟨"java/lang/System", "arraycopy", "(Ljava/lang/Object;ILjava/lang/Object;II)V"⟩ ∈ G := inT 225 (by decide +kernel) rfl
theorem nv_arraycopy : Cond.native arraycopyName ∈ G := inT 226 (by decide +kernel) rfl
theorem ml_Q_50 : Cond.methodLink R_Q 50 y_Q_findCommon ∈ G := inT 227 (by decide +kernel) rfl
theorem im_Q_findCommon : Cond.instanceMethod y_Q_findCommon ∈ G := inT 229 (by decide +kernel) rfl
theorem co_Q_findCommon : Cond.code y_Q_findCommon c_Q_findCommon 5 none ∈ G := inT 230 (by decide +kernel) rfl
theorem ml_Q_95 : Cond.methodLink R_Q 95 y_W_setZero ∈ G := inT 231 (by decide +kernel) rfl
theorem im_W_setZero : Cond.instanceMethod y_W_setZero ∈ G := inT 232 (by decide +kernel) rfl
theorem se_W_W_setZero : Cond.selects R_W y_W_setZero y_W_setZero ∈ G := inT 233 (by decide +kernel) rfl
theorem co_W_setZero : Cond.code y_W_setZero c_W_setZero 1 none ∈ G := inT 234 (by decide +kernel) rfl
theorem ml_Q_98 : Cond.methodLink R_Q 98 y_W_isOne ∈ G := inT 235 (by decide +kernel) rfl
theorem im_W_isOne : Cond.instanceMethod y_W_isOne ∈ G := inT 236 (by decide +kernel) rfl
theorem se_W_W_isOne : Cond.selects R_W y_W_isOne y_W_isOne ∈ G := inT 237 (by decide +kernel) rfl
theorem co_W_isOne : Cond.code y_W_isOne c_W_isOne 1 (some .boolean) ∈ G := inT 238 (by decide +kernel) rfl
theorem ml_Q_102 : Cond.methodLink R_Q 102 y_W_setSize ∈ G := inT 239 (by decide +kernel) rfl
theorem im_W_setSize : Cond.instanceMethod y_W_setSize ∈ G := inT 240 (by decide +kernel) rfl
theorem se_W_W_setSize : Cond.selects R_W y_W_setSize y_W_setSize ∈ G := inT 241 (by decide +kernel) rfl
theorem co_W_setSize : Cond.code y_W_setSize c_W_setSize 2 none ∈ G := inT 242 (by decide +kernel) rfl
theorem ml_W_22 : Cond.methodLink R_W 22 ⟨"java/lang/System", "arraycopy", "(Ljava/lang/Object;ILjava/lang/Object;II)V"⟩ ∈ G := inT 243 (by decide +kernel) rfl
theorem ml_W_28 : Cond.methodLink R_W 28 y_JM_abs ∈ G := inT 244 (by decide +kernel) rfl
theorem ml_Q_108 : Cond.methodLink R_Q 108 y_W_divide ∈ G := inT 245 (by decide +kernel) rfl
theorem im_W_divide : Cond.instanceMethod y_W_divide ∈ G := inT 246 (by decide +kernel) rfl
theorem se_W_W_divide : Cond.selects R_W y_W_divide y_W_divide ∈ G := inT 247 (by decide +kernel) rfl
theorem co_W_divide : Cond.code y_W_divide c_W_divide 10 none ∈ G := inT 248 (by decide +kernel) rfl
theorem ml_W_34 : Cond.methodLink R_W 34 y_W_setZero ∈ G := inT 249 (by decide +kernel) rfl
theorem ml_W_60 : Cond.methodLink R_W 60 y_JI_numberOfLeadingZeros ∈ G := inT 250 (by decide +kernel) rfl
theorem st_JI_numberOfLeadingZeros : Cond.static y_JI_numberOfLeadingZeros ∈ G := inT 251 (by decide +kernel) rfl
theorem co_JI_numberOfLeadingZeros : Cond.code y_JI_numberOfLeadingZeros c_JI_numberOfLeadingZeros 2 (some .int) ∈ G := inT 252 (by decide +kernel) rfl
theorem ct_JI_264 : Cond.constant R_JI 264 (65536) ∈ G := inT 253 (by decide +kernel) rfl
theorem ml_W_65 : Cond.methodLink R_W 65 y_W_topBelow ∈ G := inT 254 (by decide +kernel) rfl
theorem im_W_topBelow : Cond.instanceMethod y_W_topBelow ∈ G := inT 256 (by decide +kernel) rfl
theorem co_W_topBelow : Cond.code y_W_topBelow c_W_topBelow 9 (some .long) ∈ G := inT 257 (by decide +kernel) rfl
theorem ml_W_69 : Cond.methodLink R_W 69 y_JM_max_0 ∈ G := inT 258 (by decide +kernel) rfl
theorem st_JM_max_0 : Cond.static y_JM_max_0 ∈ G := inT 259 (by decide +kernel) rfl
theorem co_JM_max_0 : Cond.code y_JM_max_0 c_JM_max_0 4 (some .long) ∈ G := inT 260 (by decide +kernel) rfl
theorem ct_W_43 : Cond.constantLong R_W 43 (1073741823) ∈ G := inT 261 (by decide +kernel) rfl
theorem ml_W_73 : Cond.methodLink R_W 73 y_JM_min_0 ∈ G := inT 262 (by decide +kernel) rfl
theorem st_JM_min_0 : Cond.static y_JM_min_0 ∈ G := inT 263 (by decide +kernel) rfl
theorem co_JM_min_0 : Cond.code y_JM_min_0 c_JM_min_0 4 (some .long) ∈ G := inT 264 (by decide +kernel) rfl
theorem ml_W_76 : Cond.methodLink R_W 76 y_W_takeAway ∈ G := inT 265 (by decide +kernel) rfl
theorem im_W_takeAway : Cond.instanceMethod y_W_takeAway ∈ G := inT 267 (by decide +kernel) rfl
theorem co_W_takeAway : Cond.code y_W_takeAway c_W_takeAway 12 (some .int) ∈ G := inT 268 (by decide +kernel) rfl
theorem ml_W_45 : Cond.methodLink R_W 45 y_W_trim ∈ G := inT 269 (by decide +kernel) rfl
theorem im_W_trim : Cond.instanceMethod y_W_trim ∈ G := inT 271 (by decide +kernel) rfl
theorem co_W_trim : Cond.code y_W_trim c_W_trim 1 none ∈ G := inT 272 (by decide +kernel) rfl
theorem ml_Q_54 : Cond.methodLink R_Q 54 y_Q_storeLine ∈ G := inT 273 (by decide +kernel) rfl
theorem im_Q_storeLine : Cond.instanceMethod y_Q_storeLine ∈ G := inT 275 (by decide +kernel) rfl
theorem co_Q_storeLine : Cond.code y_Q_storeLine c_Q_storeLine 4 none ∈ G := inT 276 (by decide +kernel) rfl
theorem ml_Q_111 : Cond.methodLink R_Q 111 y_T_store ∈ G := inT 277 (by decide +kernel) rfl
theorem im_T_store : Cond.instanceMethod y_T_store ∈ G := inT 278 (by decide +kernel) rfl
theorem se_T_T_store : Cond.selects R_T y_T_store y_T_store ∈ G := inT 279 (by decide +kernel) rfl
theorem co_T_store : Cond.code y_T_store c_T_store 5 none ∈ G := inT 280 (by decide +kernel) rfl
theorem ml_T_75 : Cond.methodLink R_T 75 y_JM_min_1 ∈ G := inT 281 (by decide +kernel) rfl
theorem st_JM_min_1 : Cond.static y_JM_min_1 ∈ G := inT 282 (by decide +kernel) rfl
theorem co_JM_min_1 : Cond.code y_JM_min_1 c_JM_min_1 2 (some .int) ∈ G := inT 283 (by decide +kernel) rfl
theorem ml_Q_58 : Cond.methodLink R_Q 58 y_T_head ∈ G := inT 284 (by decide +kernel) rfl
theorem ml_Q_62 : Cond.methodLink R_Q 62 y_T_negateRow ∈ G := inT 285 (by decide +kernel) rfl
theorem im_T_negateRow : Cond.instanceMethod y_T_negateRow ∈ G := inT 286 (by decide +kernel) rfl
theorem se_T_T_negateRow : Cond.selects R_T y_T_negateRow y_T_negateRow ∈ G := inT 287 (by decide +kernel) rfl
theorem co_T_negateRow : Cond.code y_T_negateRow c_T_negateRow 3 none ∈ G := inT 288 (by decide +kernel) rfl
theorem se_P_P_lead : Cond.selects R_P ⟨"LineTables$Kind", "lead", "(LLineTables$Table;II)V"⟩ y_P_lead ∈ G := inT 289 (by decide +kernel) rfl
theorem im_P_lead : Cond.instanceMethod y_P_lead ∈ G := inT 290 (by decide +kernel) rfl
theorem co_P_lead : Cond.code y_P_lead c_P_lead 6 none ∈ G := inT 291 (by decide +kernel) rfl
theorem ml_P_7 : Cond.methodLink R_P 7 y_T_small ∈ G := inT 292 (by decide +kernel) rfl
theorem im_T_small : Cond.instanceMethod y_T_small ∈ G := inT 293 (by decide +kernel) rfl
theorem se_T_T_small : Cond.selects R_T y_T_small y_T_small ∈ G := inT 294 (by decide +kernel) rfl
theorem co_T_small : Cond.code y_T_small c_T_small 3 (some .int) ∈ G := inT 295 (by decide +kernel) rfl
theorem ml_P_17 : Cond.methodLink R_P 17 y_P_inverse ∈ G := inT 296 (by decide +kernel) rfl
theorem st_P_inverse : Cond.static y_P_inverse ∈ G := inT 297 (by decide +kernel) rfl
theorem co_P_inverse : Cond.code y_P_inverse c_P_inverse 3 (some .int) ∈ G := inT 298 (by decide +kernel) rfl
theorem ml_P_25 : Cond.methodLink R_P 25 y_JM_floorMod ∈ G := inT 299 (by decide +kernel) rfl
theorem ml_P_30 : Cond.methodLink R_P 30 y_T_setSmall ∈ G := inT 300 (by decide +kernel) rfl
theorem ml_A_76 : Cond.methodLink R_A 76 y_T_isZero ∈ G := inT 301 (by decide +kernel) rfl
theorem ml_A_146 : Cond.methodLink R_A 146 ⟨"LineTables$Kind", "clear", "(LLineTables$Table;III)V"⟩ ∈ G := inT 302 (by decide +kernel) rfl
theorem se_Q_Q_clear : Cond.selects R_Q ⟨"LineTables$Kind", "clear", "(LLineTables$Table;III)V"⟩ y_Q_clear ∈ G := inT 305 (by decide +kernel) rfl
theorem im_Q_clear : Cond.instanceMethod y_Q_clear ∈ G := inT 306 (by decide +kernel) rfl
theorem co_Q_clear : Cond.code y_Q_clear c_Q_clear 6 none ∈ G := inT 307 (by decide +kernel) rfl
theorem ml_Q_65 : Cond.methodLink R_Q 65 y_W_setProduct ∈ G := inT 308 (by decide +kernel) rfl
theorem im_W_setProduct : Cond.instanceMethod y_W_setProduct ∈ G := inT 309 (by decide +kernel) rfl
theorem se_W_W_setProduct : Cond.selects R_W y_W_setProduct y_W_setProduct ∈ G := inT 310 (by decide +kernel) rfl
theorem co_W_setProduct : Cond.code y_W_setProduct c_W_setProduct 9 none ∈ G := inT 311 (by decide +kernel) rfl
theorem ml_W_37 : Cond.methodLink R_W 37 y_JA_fill_1 ∈ G := inT 312 (by decide +kernel) rfl
theorem st_JA_fill_1 : Cond.static y_JA_fill_1 ∈ G := inT 313 (by decide +kernel) rfl
theorem co_JA_fill_1 : Cond.code y_JA_fill_1 c_JA_fill_1 5 none ∈ G := inT 314 (by decide +kernel) rfl
theorem ml_JA_13 : Cond.methodLink R_JA 13 y_JA_rangeCheck ∈ G := inT 315 (by decide +kernel) rfl
theorem st_JA_rangeCheck : Cond.static y_JA_rangeCheck ∈ G := inT 316 (by decide +kernel) rfl
theorem co_JA_rangeCheck : Cond.code y_JA_rangeCheck c_JA_rangeCheck 3 none ∈ G := inT 317 (by decide +kernel) rfl
theorem ml_Q_69 : Cond.methodLink R_Q 69 y_W_subtract ∈ G := inT 318 (by decide +kernel) rfl
theorem im_W_subtract : Cond.instanceMethod y_W_subtract ∈ G := inT 319 (by decide +kernel) rfl
theorem se_W_W_subtract : Cond.selects R_W y_W_subtract y_W_subtract ∈ G := inT 320 (by decide +kernel) rfl
theorem co_W_subtract : Cond.code y_W_subtract c_W_subtract 2 none ∈ G := inT 321 (by decide +kernel) rfl
theorem ml_W_48 : Cond.methodLink R_W 48 y_W_addSize ∈ G := inT 322 (by decide +kernel) rfl
theorem im_W_addSize : Cond.instanceMethod y_W_addSize ∈ G := inT 324 (by decide +kernel) rfl
theorem co_W_addSize : Cond.code y_W_addSize c_W_addSize 5 none ∈ G := inT 325 (by decide +kernel) rfl
theorem ml_W_84 : Cond.methodLink R_W 84 y_JM_max_1 ∈ G := inT 326 (by decide +kernel) rfl
theorem st_JM_max_1 : Cond.static y_JM_max_1 ∈ G := inT 327 (by decide +kernel) rfl
theorem co_JM_max_1 : Cond.code y_JM_max_1 c_JM_max_1 2 (some .int) ∈ G := inT 328 (by decide +kernel) rfl
theorem ml_W_86 : Cond.methodLink R_W 86 y_JM_min_1 ∈ G := inT 329 (by decide +kernel) rfl
theorem ml_W_88 : Cond.methodLink R_W 88 y_W_limbAt ∈ G := inT 330 (by decide +kernel) rfl
theorem im_W_limbAt : Cond.instanceMethod y_W_limbAt ∈ G := inT 332 (by decide +kernel) rfl
theorem co_W_limbAt : Cond.code y_W_limbAt c_W_limbAt 2 (some .int) ∈ G := inT 333 (by decide +kernel) rfl
theorem ct_W_91 : Cond.constant R_W 91 (1073741823) ∈ G := inT 334 (by decide +kernel) rfl
theorem ml_W_52 : Cond.methodLink R_W 52 y_W_compareSize ∈ G := inT 335 (by decide +kernel) rfl
theorem im_W_compareSize : Cond.instanceMethod y_W_compareSize ∈ G := inT 337 (by decide +kernel) rfl
theorem co_W_compareSize : Cond.code y_W_compareSize c_W_compareSize 3 (some .int) ∈ G := inT 338 (by decide +kernel) rfl
theorem ml_W_80 : Cond.methodLink R_W 80 y_JI_compare ∈ G := inT 339 (by decide +kernel) rfl
theorem st_JI_compare : Cond.static y_JI_compare ∈ G := inT 340 (by decide +kernel) rfl
theorem co_JI_compare : Cond.code y_JI_compare c_JI_compare 2 (some .int) ∈ G := inT 341 (by decide +kernel) rfl
theorem ml_W_56 : Cond.methodLink R_W 56 y_W_setDifference ∈ G := inT 342 (by decide +kernel) rfl
theorem im_W_setDifference : Cond.instanceMethod y_W_setDifference ∈ G := inT 344 (by decide +kernel) rfl
theorem co_W_setDifference : Cond.code y_W_setDifference c_W_setDifference 5 none ∈ G := inT 345 (by decide +kernel) rfl
theorem se_P_P_clear : Cond.selects R_P ⟨"LineTables$Kind", "clear", "(LLineTables$Table;III)V"⟩ y_P_clear ∈ G := inT 346 (by decide +kernel) rfl
theorem im_P_clear : Cond.instanceMethod y_P_clear ∈ G := inT 347 (by decide +kernel) rfl
theorem co_P_clear : Cond.code y_P_clear c_P_clear 8 none ∈ G := inT 348 (by decide +kernel) rfl
theorem ml_L_27 : Cond.methodLink R_L 27 y_A_turn ∈ G := inT 349 (by decide +kernel) rfl
theorem im_A_turn : Cond.instanceMethod y_A_turn ∈ G := inT 350 (by decide +kernel) rfl
theorem se_A_A_turn : Cond.selects R_A y_A_turn y_A_turn ∈ G := inT 351 (by decide +kernel) rfl
theorem co_A_turn : Cond.code y_A_turn c_A_turn 5 (some .int) ∈ G := inT 352 (by decide +kernel) rfl
theorem ml_L_32 : Cond.methodLink R_L 32 y_A_dual ∈ G := inT 353 (by decide +kernel) rfl
theorem im_A_dual : Cond.instanceMethod y_A_dual ∈ G := inT 354 (by decide +kernel) rfl
theorem se_A_A_dual : Cond.selects R_A y_A_dual y_A_dual ∈ G := inT 355 (by decide +kernel) rfl
theorem co_A_dual : Cond.code y_A_dual c_A_dual 6 (some .int) ∈ G := inT 356 (by decide +kernel) rfl
theorem ml_A_88 : Cond.methodLink R_A 88 y_A_isReduced ∈ G := inT 357 (by decide +kernel) rfl
theorem im_A_isReduced : Cond.instanceMethod y_A_isReduced ∈ G := inT 359 (by decide +kernel) rfl
theorem co_A_isReduced : Cond.code y_A_isReduced c_A_isReduced 2 (some .boolean) ∈ G := inT 360 (by decide +kernel) rfl
theorem ml_A_94 : Cond.methodLink R_A 94 y_T_hasPlace ∈ G := inT 361 (by decide +kernel) rfl
theorem im_T_hasPlace : Cond.instanceMethod y_T_hasPlace ∈ G := inT 362 (by decide +kernel) rfl
theorem se_T_T_hasPlace : Cond.selects R_T y_T_hasPlace y_T_hasPlace ∈ G := inT 363 (by decide +kernel) rfl
theorem co_T_hasPlace : Cond.code y_T_hasPlace c_T_hasPlace 3 (some .boolean) ∈ G := inT 364 (by decide +kernel) rfl
theorem ml_A_101 : Cond.methodLink R_A 101 ⟨"LineTables$Kind", "fillDual", "(LLineTables$Table;ILLineTables$Table;I)V"⟩ ∈ G := inT 365 (by decide +kernel) rfl
theorem se_Q_Q_fillDual : Cond.selects R_Q ⟨"LineTables$Kind", "fillDual", "(LLineTables$Table;ILLineTables$Table;I)V"⟩ y_Q_fillDual ∈ G := inT 368 (by decide +kernel) rfl
theorem im_Q_fillDual : Cond.instanceMethod y_Q_fillDual ∈ G := inT 369 (by decide +kernel) rfl
theorem co_Q_fillDual : Cond.code y_Q_fillDual c_Q_fillDual 6 none ∈ G := inT 370 (by decide +kernel) rfl
theorem ml_Q_73 : Cond.methodLink R_Q 73 y_T_setSmall ∈ G := inT 371 (by decide +kernel) rfl
theorem ml_Q_80 : Cond.methodLink R_Q 80 y_T_isZero ∈ G := inT 372 (by decide +kernel) rfl
theorem ml_Q_84 : Cond.methodLink R_Q 84 y_Q_balance ∈ G := inT 373 (by decide +kernel) rfl
theorem im_Q_balance : Cond.instanceMethod y_Q_balance ∈ G := inT 375 (by decide +kernel) rfl
theorem co_Q_balance : Cond.code y_Q_balance c_Q_balance 8 none ∈ G := inT 376 (by decide +kernel) rfl
theorem ml_Q_92 : Cond.methodLink R_Q 92 y_W_negate ∈ G := inT 377 (by decide +kernel) rfl
theorem im_W_negate : Cond.instanceMethod y_W_negate ∈ G := inT 378 (by decide +kernel) rfl
theorem se_W_W_negate : Cond.selects R_W y_W_negate y_W_negate ∈ G := inT 379 (by decide +kernel) rfl
theorem co_W_negate : Cond.code y_W_negate c_W_negate 1 none ∈ G := inT 380 (by decide +kernel) rfl
theorem se_P_P_fillDual : Cond.selects R_P ⟨"LineTables$Kind", "fillDual", "(LLineTables$Table;ILLineTables$Table;I)V"⟩ y_P_fillDual ∈ G := inT 381 (by decide +kernel) rfl
theorem im_P_fillDual : Cond.instanceMethod y_P_fillDual ∈ G := inT 382 (by decide +kernel) rfl
theorem co_P_fillDual : Cond.code y_P_fillDual c_P_fillDual 7 none ∈ G := inT 383 (by decide +kernel) rfl
theorem ml_A_107 : Cond.methodLink R_A 107 y_A_keepSpare ∈ G := inT 384 (by decide +kernel) rfl
theorem im_A_keepSpare : Cond.instanceMethod y_A_keepSpare ∈ G := inT 386 (by decide +kernel) rfl
theorem co_A_keepSpare : Cond.code y_A_keepSpare c_A_keepSpare 4 (some .int) ∈ G := inT 387 (by decide +kernel) rfl
theorem ml_L_37 : Cond.methodLink R_L 37 y_A_leave ∈ G := inT 388 (by decide +kernel) rfl
theorem im_A_leave : Cond.instanceMethod y_A_leave ∈ G := inT 389 (by decide +kernel) rfl
theorem se_A_A_leave : Cond.selects R_A y_A_leave y_A_leave ∈ G := inT 390 (by decide +kernel) rfl
theorem co_A_leave : Cond.code y_A_leave c_A_leave 6 (some .int) ∈ G := inT 391 (by decide +kernel) rfl
theorem ml_A_110 : Cond.methodLink R_A 110 y_T_copyNumbers ∈ G := inT 392 (by decide +kernel) rfl
theorem im_T_copyNumbers : Cond.instanceMethod y_T_copyNumbers ∈ G := inT 393 (by decide +kernel) rfl
theorem se_T_T_copyNumbers : Cond.selects R_T y_T_copyNumbers y_T_copyNumbers ∈ G := inT 394 (by decide +kernel) rfl
theorem co_T_copyNumbers : Cond.code y_T_copyNumbers c_T_copyNumbers 6 none ∈ G := inT 395 (by decide +kernel) rfl
theorem ml_A_113 : Cond.methodLink R_A 113 y_T_dropFirstRows ∈ G := inT 396 (by decide +kernel) rfl
theorem im_T_dropFirstRows : Cond.instanceMethod y_T_dropFirstRows ∈ G := inT 397 (by decide +kernel) rfl
theorem se_T_T_dropFirstRows : Cond.selects R_T y_T_dropFirstRows y_T_dropFirstRows ∈ G := inT 398 (by decide +kernel) rfl
theorem co_T_dropFirstRows : Cond.code y_T_dropFirstRows c_T_dropFirstRows 3 none ∈ G := inT 399 (by decide +kernel) rfl
theorem ml_T_79 : Cond.methodLink R_T 79 y_T_swapRows ∈ G := inT 400 (by decide +kernel) rfl
theorem ml_A_117 : Cond.methodLink R_A 117 y_T_dropColumns ∈ G := inT 401 (by decide +kernel) rfl
theorem im_T_dropColumns : Cond.instanceMethod y_T_dropColumns ∈ G := inT 402 (by decide +kernel) rfl
theorem se_T_T_dropColumns : Cond.selects R_T y_T_dropColumns y_T_dropColumns ∈ G := inT 403 (by decide +kernel) rfl
theorem co_T_dropColumns : Cond.code y_T_dropColumns c_T_dropColumns 6 none ∈ G := inT 404 (by decide +kernel) rfl
theorem ml_L_42 : Cond.methodLink R_L 42 y_A_sum ∈ G := inT 405 (by decide +kernel) rfl
theorem im_A_sum : Cond.instanceMethod y_A_sum ∈ G := inT 406 (by decide +kernel) rfl
theorem se_A_A_sum : Cond.selects R_A y_A_sum y_A_sum ∈ G := inT 407 (by decide +kernel) rfl
theorem co_A_sum : Cond.code y_A_sum c_A_sum 6 (some .int) ∈ G := inT 408 (by decide +kernel) rfl
theorem ml_L_46 : Cond.methodLink R_L 46 y_A_of ∈ G := inT 409 (by decide +kernel) rfl
theorem im_A_of : Cond.instanceMethod y_A_of ∈ G := inT 410 (by decide +kernel) rfl
theorem se_A_A_of : Cond.selects R_A y_A_of y_A_of ∈ G := inT 411 (by decide +kernel) rfl
theorem co_A_of : Cond.code y_A_of c_A_of 3 (some .int) ∈ G := inT 412 (by decide +kernel) rfl
theorem ml_L_50 : Cond.methodLink R_L 50 y_A_place ∈ G := inT 413 (by decide +kernel) rfl
theorem im_A_place : Cond.instanceMethod y_A_place ∈ G := inT 414 (by decide +kernel) rfl
theorem se_A_A_place : Cond.selects R_A y_A_place y_A_place ∈ G := inT 415 (by decide +kernel) rfl
theorem co_A_place : Cond.code y_A_place c_A_place 3 (some .int) ∈ G := inT 416 (by decide +kernel) rfl
theorem ml_L_54 : Cond.methodLink R_L 54 y_A_sign ∈ G := inT 417 (by decide +kernel) rfl
theorem im_A_sign : Cond.instanceMethod y_A_sign ∈ G := inT 418 (by decide +kernel) rfl
theorem se_A_A_sign : Cond.selects R_A y_A_sign y_A_sign ∈ G := inT 419 (by decide +kernel) rfl
theorem co_A_sign : Cond.code y_A_sign c_A_sign 4 (some .int) ∈ G := inT 420 (by decide +kernel) rfl
theorem ml_A_120 : Cond.methodLink R_A 120 y_T_head ∈ G := inT 421 (by decide +kernel) rfl
theorem ml_A_123 : Cond.methodLink R_A 123 y_JI_signum ∈ G := inT 422 (by decide +kernel) rfl
theorem ml_L_58 : Cond.methodLink R_L 58 y_A_digit ∈ G := inT 423 (by decide +kernel) rfl
theorem im_A_digit : Cond.instanceMethod y_A_digit ∈ G := inT 424 (by decide +kernel) rfl
theorem se_A_A_digit : Cond.selects R_A y_A_digit y_A_digit ∈ G := inT 425 (by decide +kernel) rfl
theorem co_A_digit : Cond.code y_A_digit c_A_digit 5 (some .int) ∈ G := inT 426 (by decide +kernel) rfl
theorem ml_A_129 : Cond.methodLink R_A 129 y_T_toldDigit ∈ G := inT 427 (by decide +kernel) rfl
theorem im_T_toldDigit : Cond.instanceMethod y_T_toldDigit ∈ G := inT 428 (by decide +kernel) rfl
theorem se_T_T_toldDigit : Cond.selects R_T y_T_toldDigit y_T_toldDigit ∈ G := inT 429 (by decide +kernel) rfl
theorem co_T_toldDigit : Cond.code y_T_toldDigit c_T_toldDigit 12 (some .int) ∈ G := inT 430 (by decide +kernel) rfl
theorem ct_T_78 : Cond.constant R_T 78 (65535) ∈ G := inT 431 (by decide +kernel) rfl
theorem cl_L_10 : Cond.classLink R_L 10 "LineTablesModel" ∈ G := inT 432 (by decide +kernel) rfl
theorem ia_M : Cond.instantiable R_M 25 ∈ G := inT 433 (by decide +kernel) rfl
theorem ml_L_12 : Cond.methodLink R_L 12 y_M_init ∈ G := inT 434 (by decide +kernel) rfl
theorem im_M_init : Cond.instanceMethod y_M_init ∈ G := inT 435 (by decide +kernel) rfl
theorem co_M_init : Cond.code y_M_init c_M_init 2 none ∈ G := inT 436 (by decide +kernel) rfl
theorem ml_M_34 : Cond.methodLink R_M 34 objectInit ∈ G := inT 437 (by decide +kernel) rfl
theorem cl_M_8 : Cond.classLink R_M 8 "LineTablesModel$Num" ∈ G := inT 438 (by decide +kernel) rfl
theorem ia_N : Cond.instantiable R_N 3 ∈ G := inT 439 (by decide +kernel) rfl
theorem im_N_init : Cond.instanceMethod y_N_init ∈ G := inT 441 (by decide +kernel) rfl
theorem co_N_init : Cond.code y_N_init c_N_init 1 none ∈ G := inT 442 (by decide +kernel) rfl
theorem ml_N_1 : Cond.methodLink R_N 1 objectInit ∈ G := inT 443 (by decide +kernel) rfl
theorem fl_N_7 : Cond.fieldLink R_N 7 "LineTablesModel$Num" "d" "[I" ∈ G := inT 444 (by decide +kernel) rfl
theorem fl_M_98 : Cond.fieldLink R_M 98 "LineTablesModel$Num" "d" "[I" ∈ G := inT 445 (by decide +kernel) rfl
theorem fl_M_20 : Cond.fieldLink R_M 20 "LineTablesModel$Num" "n" "I" ∈ G := inT 446 (by decide +kernel) rfl
theorem fl_N_13 : Cond.fieldLink R_N 13 "LineTablesModel$Num" "n" "I" ∈ G := inT 447 (by decide +kernel) rfl
theorem fl_M_13 : Cond.fieldLink R_M 13 "LineTablesModel$Num" "minus" "Z" ∈ G := inT 448 (by decide +kernel) rfl
theorem fl_N_17 : Cond.fieldLink R_N 17 "LineTablesModel$Num" "minus" "Z" ∈ G := inT 449 (by decide +kernel) rfl
theorem fl_M_41 : Cond.fieldLink R_M 41 "LineTablesModel" "one" "LLineTablesModel$Num;" ∈ G := inT 458 (by decide +kernel) rfl
theorem fl_M_27 : Cond.fieldLink R_M 27 "LineTablesModel" "two" "LLineTablesModel$Num;" ∈ G := inT 459 (by decide +kernel) rfl
theorem fl_M_24 : Cond.fieldLink R_M 24 "LineTablesModel" "three" "LLineTablesModel$Num;" ∈ G := inT 460 (by decide +kernel) rfl
theorem fl_M_17 : Cond.fieldLink R_M 17 "LineTablesModel" "four" "LLineTablesModel$Num;" ∈ G := inT 461 (by decide +kernel) rfl
theorem fl_M_1 : Cond.fieldLink R_M 1 "LineTablesModel" "five" "LLineTablesModel$Num;" ∈ G := inT 462 (by decide +kernel) rfl
theorem fl_M_44 : Cond.fieldLink R_M 44 "LineTablesModel" "six" "LLineTablesModel$Num;" ∈ G := inT 463 (by decide +kernel) rfl
theorem fl_M_47 : Cond.fieldLink R_M 47 "LineTablesModel" "seven" "LLineTablesModel$Num;" ∈ G := inT 464 (by decide +kernel) rfl
theorem fl_M_50 : Cond.fieldLink R_M 50 "LineTablesModel" "eight" "LLineTablesModel$Num;" ∈ G := inT 465 (by decide +kernel) rfl
theorem fl_M_53 : Cond.fieldLink R_M 53 "LineTablesModel" "fields" "[I" ∈ G := inT 466 (by decide +kernel) rfl
theorem fl_M_57 : Cond.fieldLink R_M 57 "LineTablesModel" "rowCounts" "[I" ∈ G := inT 467 (by decide +kernel) rfl
theorem fl_M_60 : Cond.fieldLink R_M 60 "LineTablesModel" "columnCounts" "[I" ∈ G := inT 468 (by decide +kernel) rfl
theorem fl_M_63 : Cond.fieldLink R_M 63 "LineTablesModel" "loose" "[Z" ∈ G := inT 469 (by decide +kernel) rfl
theorem fl_M_67 : Cond.fieldLink R_M 67 "LineTablesModel" "places" "[I" ∈ G := inT 470 (by decide +kernel) rfl
theorem fl_M_70 : Cond.fieldLink R_M 70 "LineTablesModel" "tops" "[I" ∈ G := inT 471 (by decide +kernel) rfl
theorem fl_M_73 : Cond.fieldLink R_M 73 "LineTablesModel" "bottoms" "[I" ∈ G := inT 472 (by decide +kernel) rfl
theorem fl_M_76 : Cond.fieldLink R_M 76 "LineTablesModel" "residues" "[I" ∈ G := inT 473 (by decide +kernel) rfl
theorem fl_M_79 : Cond.fieldLink R_M 79 "LineTablesModel" "top" "[LLineTablesModel$Num;" ∈ G := inT 474 (by decide +kernel) rfl
theorem fl_M_83 : Cond.fieldLink R_M 83 "LineTablesModel" "bottom" "[LLineTablesModel$Num;" ∈ G := inT 475 (by decide +kernel) rfl
theorem fl_M_86 : Cond.fieldLink R_M 86 "LineTablesModel" "small" "[I" ∈ G := inT 476 (by decide +kernel) rfl
theorem fl_M_89 : Cond.fieldLink R_M 89 "LineTablesModel" "place" "[I" ∈ G := inT 477 (by decide +kernel) rfl
theorem fl_M_105 : Cond.fieldLink R_M 105 "LineTablesModel" "prime" "I" ∈ G := inT 478 (by decide +kernel) rfl
theorem fl_M_108 : Cond.fieldLink R_M 108 "LineTablesModel" "rows" "I" ∈ G := inT 479 (by decide +kernel) rfl
theorem fl_M_111 : Cond.fieldLink R_M 111 "LineTablesModel" "columns" "I" ∈ G := inT 480 (by decide +kernel) rfl
theorem fl_M_92 : Cond.fieldLink R_M 92 "LineTablesModel" "above" "LLineTablesModel$Num;" ∈ G := inT 481 (by decide +kernel) rfl
theorem fl_M_95 : Cond.fieldLink R_M 95 "LineTablesModel" "under" "LLineTablesModel$Num;" ∈ G := inT 482 (by decide +kernel) rfl
theorem ac_boolean : Cond.arrayClass .boolean ∈ G := inT 534 (by decide +kernel) rfl
theorem ml_L_17 : Cond.methodLink R_L 17 y_M_begin ∈ G := inT 535 (by decide +kernel) rfl
theorem im_M_begin : Cond.instanceMethod y_M_begin ∈ G := inT 536 (by decide +kernel) rfl
theorem se_M_M_begin : Cond.selects R_M y_M_begin y_M_begin ∈ G := inT 537 (by decide +kernel) rfl
theorem co_M_begin : Cond.code y_M_begin c_M_begin 5 (some .boolean) ∈ G := inT 538 (by decide +kernel) rfl
theorem ml_M_101 : Cond.methodLink R_M 101 y_M_isTable ∈ G := inT 539 (by decide +kernel) rfl
theorem st_M_isTable : Cond.static y_M_isTable ∈ G := inT 540 (by decide +kernel) rfl
theorem co_M_isTable : Cond.code y_M_isTable c_M_isTable 1 (some .boolean) ∈ G := inT 541 (by decide +kernel) rfl
theorem ml_M_178 : Cond.methodLink R_M 178 y_M_isField ∈ G := inT 542 (by decide +kernel) rfl
theorem st_M_isField : Cond.static y_M_isField ∈ G := inT 543 (by decide +kernel) rfl
theorem co_M_isField : Cond.code y_M_isField c_M_isField 3 (some .boolean) ∈ G := inT 544 (by decide +kernel) rfl
theorem ml_M_127 : Cond.methodLink R_M 127 y_M_empty ∈ G := inT 545 (by decide +kernel) rfl
theorem im_M_empty : Cond.instanceMethod y_M_empty ∈ G := inT 547 (by decide +kernel) rfl
theorem co_M_empty : Cond.code y_M_empty c_M_empty 5 none ∈ G := inT 548 (by decide +kernel) rfl
theorem ml_M_114 : Cond.methodLink R_M 114 y_N_zero ∈ G := inT 549 (by decide +kernel) rfl
theorem im_N_zero : Cond.instanceMethod y_N_zero ∈ G := inT 550 (by decide +kernel) rfl
theorem se_N_N_zero : Cond.selects R_N y_N_zero y_N_zero ∈ G := inT 551 (by decide +kernel) rfl
theorem co_N_zero : Cond.code y_N_zero c_N_zero 1 none ∈ G := inT 552 (by decide +kernel) rfl
theorem ml_M_117 : Cond.methodLink R_M 117 y_N_small ∈ G := inT 553 (by decide +kernel) rfl
theorem im_N_small : Cond.instanceMethod y_N_small ∈ G := inT 554 (by decide +kernel) rfl
theorem se_N_N_small : Cond.selects R_N y_N_small y_N_small ∈ G := inT 555 (by decide +kernel) rfl
theorem co_N_small : Cond.code y_N_small c_N_small 5 none ∈ G := inT 556 (by decide +kernel) rfl
theorem ml_N_21 : Cond.methodLink R_N 21 y_N_zero ∈ G := inT 557 (by decide +kernel) rfl
theorem ct_N_24 : Cond.constantLong R_N 24 (65536) ∈ G := inT 558 (by decide +kernel) rfl
theorem ml_M_175 : Cond.methodLink R_M 175 y_M_keep ∈ G := inT 559 (by decide +kernel) rfl
theorem im_M_keep : Cond.instanceMethod y_M_keep ∈ G := inT 561 (by decide +kernel) rfl
theorem co_M_keep : Cond.code y_M_keep c_M_keep 5 none ∈ G := inT 562 (by decide +kernel) rfl
theorem ml_M_124 : Cond.methodLink R_M 124 y_M_store ∈ G := inT 563 (by decide +kernel) rfl
theorem st_M_store : Cond.static y_M_store ∈ G := inT 564 (by decide +kernel) rfl
theorem co_M_store : Cond.code y_M_store c_M_store 4 none ∈ G := inT 565 (by decide +kernel) rfl
theorem ml_L_21 : Cond.methodLink R_L 21 y_M_put ∈ G := inT 566 (by decide +kernel) rfl
theorem im_M_put : Cond.instanceMethod y_M_put ∈ G := inT 567 (by decide +kernel) rfl
theorem se_M_M_put : Cond.selects R_M y_M_put y_M_put ∈ G := inT 568 (by decide +kernel) rfl
theorem co_M_put : Cond.code y_M_put c_M_put 6 (some .boolean) ∈ G := inT 569 (by decide +kernel) rfl
theorem ml_M_181 : Cond.methodLink R_M 181 y_M_isCell ∈ G := inT 570 (by decide +kernel) rfl
theorem im_M_isCell : Cond.instanceMethod y_M_isCell ∈ G := inT 572 (by decide +kernel) rfl
theorem co_M_isCell : Cond.code y_M_isCell c_M_isCell 4 (some .boolean) ∈ G := inT 573 (by decide +kernel) rfl
theorem ml_L_26 : Cond.methodLink R_L 26 y_M_reduce ∈ G := inT 574 (by decide +kernel) rfl
theorem im_M_reduce : Cond.instanceMethod y_M_reduce ∈ G := inT 575 (by decide +kernel) rfl
theorem se_M_M_reduce : Cond.selects R_M y_M_reduce y_M_reduce ∈ G := inT 576 (by decide +kernel) rfl
theorem co_M_reduce : Cond.code y_M_reduce c_M_reduce 2 (some .int) ∈ G := inT 577 (by decide +kernel) rfl
theorem ml_M_185 : Cond.methodLink R_M 185 y_M_load ∈ G := inT 578 (by decide +kernel) rfl
theorem im_M_load : Cond.instanceMethod y_M_load ∈ G := inT 580 (by decide +kernel) rfl
theorem co_M_load : Cond.code y_M_load c_M_load 4 none ∈ G := inT 581 (by decide +kernel) rfl
theorem ml_M_131 : Cond.methodLink R_M 131 y_M_bring ∈ G := inT 582 (by decide +kernel) rfl
theorem im_M_bring : Cond.instanceMethod y_M_bring ∈ G := inT 584 (by decide +kernel) rfl
theorem co_M_bring : Cond.code y_M_bring c_M_bring 6 none ∈ G := inT 585 (by decide +kernel) rfl
theorem ml_M_120 : Cond.methodLink R_M 120 y_M_fetch ∈ G := inT 586 (by decide +kernel) rfl
theorem st_M_fetch : Cond.static y_M_fetch ∈ G := inT 587 (by decide +kernel) rfl
theorem co_M_fetch : Cond.code y_M_fetch c_M_fetch 4 none ∈ G := inT 588 (by decide +kernel) rfl
theorem ml_M_188 : Cond.methodLink R_M 188 y_M_finish ∈ G := inT 589 (by decide +kernel) rfl
theorem im_M_finish : Cond.instanceMethod y_M_finish ∈ G := inT 591 (by decide +kernel) rfl
theorem co_M_finish : Cond.code y_M_finish c_M_finish 2 (some .int) ∈ G := inT 592 (by decide +kernel) rfl
theorem ml_M_172 : Cond.methodLink R_M 172 y_M_reduceAll ∈ G := inT 593 (by decide +kernel) rfl
theorem im_M_reduceAll : Cond.instanceMethod y_M_reduceAll ∈ G := inT 595 (by decide +kernel) rfl
theorem co_M_reduceAll : Cond.code y_M_reduceAll c_M_reduceAll 4 none ∈ G := inT 596 (by decide +kernel) rfl
theorem ml_M_160 : Cond.methodLink R_M 160 y_M_isZero ∈ G := inT 597 (by decide +kernel) rfl
theorem im_M_isZero : Cond.instanceMethod y_M_isZero ∈ G := inT 599 (by decide +kernel) rfl
theorem co_M_isZero : Cond.code y_M_isZero c_M_isZero 2 (some .boolean) ∈ G := inT 600 (by decide +kernel) rfl
theorem ml_M_166 : Cond.methodLink R_M 166 y_M_swap ∈ G := inT 601 (by decide +kernel) rfl
theorem im_M_swap : Cond.instanceMethod y_M_swap ∈ G := inT 603 (by decide +kernel) rfl
theorem co_M_swap : Cond.code y_M_swap c_M_swap 7 none ∈ G := inT 604 (by decide +kernel) rfl
theorem ml_M_7 : Cond.methodLink R_M 7 y_N_copy ∈ G := inT 605 (by decide +kernel) rfl
theorem im_N_copy : Cond.instanceMethod y_N_copy ∈ G := inT 606 (by decide +kernel) rfl
theorem se_N_N_copy : Cond.selects R_N y_N_copy y_N_copy ∈ G := inT 607 (by decide +kernel) rfl
theorem co_N_copy : Cond.code y_N_copy c_N_copy 3 none ∈ G := inT 608 (by decide +kernel) rfl
theorem ml_M_169 : Cond.methodLink R_M 169 y_M_give ∈ G := inT 609 (by decide +kernel) rfl
theorem im_M_give : Cond.instanceMethod y_M_give ∈ G := inT 611 (by decide +kernel) rfl
theorem co_M_give : Cond.code y_M_give c_M_give 4 none ∈ G := inT 612 (by decide +kernel) rfl
theorem ml_M_156 : Cond.methodLink R_M 156 y_M_divide ∈ G := inT 613 (by decide +kernel) rfl
theorem im_M_divide : Cond.instanceMethod y_M_divide ∈ G := inT 615 (by decide +kernel) rfl
theorem co_M_divide : Cond.code y_M_divide c_M_divide 6 none ∈ G := inT 616 (by decide +kernel) rfl
theorem ml_M_142 : Cond.methodLink R_M 142 y_M_inverse ∈ G := inT 617 (by decide +kernel) rfl
theorem im_M_inverse : Cond.instanceMethod y_M_inverse ∈ G := inT 619 (by decide +kernel) rfl
theorem co_M_inverse : Cond.code y_M_inverse c_M_inverse 3 (some .int) ∈ G := inT 620 (by decide +kernel) rfl
theorem ml_M_146 : Cond.methodLink R_M 146 y_N_product ∈ G := inT 621 (by decide +kernel) rfl
theorem im_N_product : Cond.instanceMethod y_N_product ∈ G := inT 622 (by decide +kernel) rfl
theorem se_N_N_product : Cond.selects R_N y_N_product y_N_product ∈ G := inT 623 (by decide +kernel) rfl
theorem co_N_product : Cond.code y_N_product c_N_product 7 none ∈ G := inT 624 (by decide +kernel) rfl
theorem ml_N_27 : Cond.methodLink R_N 27 y_N_trim ∈ G := inT 625 (by decide +kernel) rfl
theorem im_N_trim : Cond.instanceMethod y_N_trim ∈ G := inT 626 (by decide +kernel) rfl
theorem se_N_N_trim : Cond.selects R_N y_N_trim y_N_trim ∈ G := inT 627 (by decide +kernel) rfl
theorem co_N_trim : Cond.code y_N_trim c_N_trim 1 none ∈ G := inT 628 (by decide +kernel) rfl
theorem ml_M_149 : Cond.methodLink R_M 149 y_M_settle ∈ G := inT 629 (by decide +kernel) rfl
theorem im_M_settle : Cond.instanceMethod y_M_settle ∈ G := inT 631 (by decide +kernel) rfl
theorem co_M_settle : Cond.code y_M_settle c_M_settle 2 none ∈ G := inT 632 (by decide +kernel) rfl
theorem ml_M_135 : Cond.methodLink R_M 135 y_M_divisor ∈ G := inT 633 (by decide +kernel) rfl
theorem im_M_divisor : Cond.instanceMethod y_M_divisor ∈ G := inT 635 (by decide +kernel) rfl
theorem co_M_divisor : Cond.code y_M_divisor c_M_divisor 3 none ∈ G := inT 636 (by decide +kernel) rfl
theorem ml_M_30 : Cond.methodLink R_M 30 y_N_quotient ∈ G := inT 637 (by decide +kernel) rfl
theorem im_N_quotient : Cond.instanceMethod y_N_quotient ∈ G := inT 638 (by decide +kernel) rfl
theorem se_N_N_quotient : Cond.selects R_N y_N_quotient y_N_quotient ∈ G := inT 639 (by decide +kernel) rfl
theorem co_N_quotient : Cond.code y_N_quotient c_N_quotient 6 none ∈ G := inT 640 (by decide +kernel) rfl
theorem ml_N_30 : Cond.methodLink R_N 30 y_N_compareSize ∈ G := inT 641 (by decide +kernel) rfl
theorem im_N_compareSize : Cond.instanceMethod y_N_compareSize ∈ G := inT 642 (by decide +kernel) rfl
theorem se_N_N_compareSize : Cond.selects R_N y_N_compareSize y_N_compareSize ∈ G := inT 643 (by decide +kernel) rfl
theorem co_N_compareSize : Cond.code y_N_compareSize c_N_compareSize 3 (some .int) ∈ G := inT 644 (by decide +kernel) rfl
theorem ml_N_34 : Cond.methodLink R_N 34 y_N_often ∈ G := inT 645 (by decide +kernel) rfl
theorem st_N_often : Cond.static y_N_often ∈ G := inT 646 (by decide +kernel) rfl
theorem co_N_often : Cond.code y_N_often c_N_often 9 (some .int) ∈ G := inT 647 (by decide +kernel) rfl
theorem ct_N_38 : Cond.constant R_N 38 (65535) ∈ G := inT 648 (by decide +kernel) rfl
theorem ml_N_39 : Cond.methodLink R_N 39 y_N_isAtMost ∈ G := inT 649 (by decide +kernel) rfl
theorem st_N_isAtMost : Cond.static y_N_isAtMost ∈ G := inT 650 (by decide +kernel) rfl
theorem co_N_isAtMost : Cond.code y_N_isAtMost c_N_isAtMost 8 (some .boolean) ∈ G := inT 651 (by decide +kernel) rfl
theorem ct_N_43 : Cond.constantLong R_N 43 (65535) ∈ G := inT 652 (by decide +kernel) rfl
theorem ml_M_139 : Cond.methodLink R_M 139 y_N_turn ∈ G := inT 653 (by decide +kernel) rfl
theorem im_N_turn : Cond.instanceMethod y_N_turn ∈ G := inT 654 (by decide +kernel) rfl
theorem se_N_N_turn : Cond.selects R_N y_N_turn y_N_turn ∈ G := inT 655 (by decide +kernel) rfl
theorem co_N_turn : Cond.code y_N_turn c_N_turn 1 none ∈ G := inT 656 (by decide +kernel) rfl
theorem ml_M_163 : Cond.methodLink R_M 163 y_M_take ∈ G := inT 657 (by decide +kernel) rfl
theorem im_M_take : Cond.instanceMethod y_M_take ∈ G := inT 659 (by decide +kernel) rfl
theorem co_M_take : Cond.code y_M_take c_M_take 9 none ∈ G := inT 660 (by decide +kernel) rfl
theorem ml_M_153 : Cond.methodLink R_M 153 y_N_less ∈ G := inT 661 (by decide +kernel) rfl
theorem im_N_less : Cond.instanceMethod y_N_less ∈ G := inT 662 (by decide +kernel) rfl
theorem se_N_N_less : Cond.selects R_N y_N_less y_N_less ∈ G := inT 663 (by decide +kernel) rfl
theorem co_N_less : Cond.code y_N_less c_N_less 10 none ∈ G := inT 664 (by decide +kernel) rfl
theorem ct_N_26 : Cond.constant R_N 26 (65536) ∈ G := inT 665 (by decide +kernel) rfl
theorem ml_L_31 : Cond.methodLink R_L 31 y_M_turn ∈ G := inT 666 (by decide +kernel) rfl
theorem im_M_turn : Cond.instanceMethod y_M_turn ∈ G := inT 667 (by decide +kernel) rfl
theorem se_M_M_turn : Cond.selects R_M y_M_turn y_M_turn ∈ G := inT 668 (by decide +kernel) rfl
theorem co_M_turn : Cond.code y_M_turn c_M_turn 5 (some .int) ∈ G := inT 669 (by decide +kernel) rfl
theorem ml_M_191 : Cond.methodLink R_M 191 y_M_isReduced ∈ G := inT 670 (by decide +kernel) rfl
theorem im_M_isReduced : Cond.instanceMethod y_M_isReduced ∈ G := inT 672 (by decide +kernel) rfl
theorem co_M_isReduced : Cond.code y_M_isReduced c_M_isReduced 2 (some .boolean) ∈ G := inT 673 (by decide +kernel) rfl
theorem ml_L_36 : Cond.methodLink R_L 36 y_M_dual ∈ G := inT 674 (by decide +kernel) rfl
theorem im_M_dual : Cond.instanceMethod y_M_dual ∈ G := inT 675 (by decide +kernel) rfl
theorem se_M_M_dual : Cond.selects R_M y_M_dual y_M_dual ∈ G := inT 676 (by decide +kernel) rfl
theorem co_M_dual : Cond.code y_M_dual c_M_dual 7 (some .int) ∈ G := inT 677 (by decide +kernel) rfl
theorem ml_L_41 : Cond.methodLink R_L 41 y_M_leave ∈ G := inT 678 (by decide +kernel) rfl
theorem im_M_leave : Cond.instanceMethod y_M_leave ∈ G := inT 679 (by decide +kernel) rfl
theorem se_M_M_leave : Cond.selects R_M y_M_leave y_M_leave ∈ G := inT 680 (by decide +kernel) rfl
theorem co_M_leave : Cond.code y_M_leave c_M_leave 10 (some .int) ∈ G := inT 681 (by decide +kernel) rfl
theorem ml_M_194 : Cond.methodLink R_M 194 y_M_shift ∈ G := inT 682 (by decide +kernel) rfl
theorem im_M_shift : Cond.instanceMethod y_M_shift ∈ G := inT 684 (by decide +kernel) rfl
theorem co_M_shift : Cond.code y_M_shift c_M_shift 7 none ∈ G := inT 685 (by decide +kernel) rfl
theorem ml_L_45 : Cond.methodLink R_L 45 y_M_sum ∈ G := inT 686 (by decide +kernel) rfl
theorem im_M_sum : Cond.instanceMethod y_M_sum ∈ G := inT 687 (by decide +kernel) rfl
theorem se_M_M_sum : Cond.selects R_M y_M_sum y_M_sum ∈ G := inT 688 (by decide +kernel) rfl
theorem co_M_sum : Cond.code y_M_sum c_M_sum 6 (some .int) ∈ G := inT 689 (by decide +kernel) rfl
theorem ml_L_49 : Cond.methodLink R_L 49 y_M_of ∈ G := inT 690 (by decide +kernel) rfl
theorem im_M_of : Cond.instanceMethod y_M_of ∈ G := inT 691 (by decide +kernel) rfl
theorem se_M_M_of : Cond.selects R_M y_M_of y_M_of ∈ G := inT 692 (by decide +kernel) rfl
theorem co_M_of : Cond.code y_M_of c_M_of 3 (some .int) ∈ G := inT 693 (by decide +kernel) rfl
theorem ml_L_53 : Cond.methodLink R_L 53 y_M_place ∈ G := inT 694 (by decide +kernel) rfl
theorem im_M_place : Cond.instanceMethod y_M_place ∈ G := inT 695 (by decide +kernel) rfl
theorem se_M_M_place : Cond.selects R_M y_M_place y_M_place ∈ G := inT 696 (by decide +kernel) rfl
theorem co_M_place : Cond.code y_M_place c_M_place 3 (some .int) ∈ G := inT 697 (by decide +kernel) rfl
theorem ml_L_57 : Cond.methodLink R_L 57 y_M_sign ∈ G := inT 698 (by decide +kernel) rfl
theorem im_M_sign : Cond.instanceMethod y_M_sign ∈ G := inT 699 (by decide +kernel) rfl
theorem se_M_M_sign : Cond.selects R_M y_M_sign y_M_sign ∈ G := inT 700 (by decide +kernel) rfl
theorem co_M_sign : Cond.code y_M_sign c_M_sign 6 (some .int) ∈ G := inT 701 (by decide +kernel) rfl
theorem ml_L_62 : Cond.methodLink R_L 62 y_M_digit ∈ G := inT 702 (by decide +kernel) rfl
theorem im_M_digit : Cond.instanceMethod y_M_digit ∈ G := inT 703 (by decide +kernel) rfl
theorem se_M_M_digit : Cond.selects R_M y_M_digit y_M_digit ∈ G := inT 704 (by decide +kernel) rfl
theorem co_M_digit : Cond.code y_M_digit c_M_digit 7 (some .int) ∈ G := inT 705 (by decide +kernel) rfl
theorem se_A_A_hasNumber : Cond.selects R_A y_A_hasNumber y_A_hasNumber ∈ G := inS 0 (by decide +kernel) rfl
theorem se_A_A_sweep : Cond.selects R_A y_A_sweep y_A_sweep ∈ G := inS 1 (by decide +kernel) rfl
theorem se_A_A_pivot : Cond.selects R_A y_A_pivot y_A_pivot ∈ G := inS 2 (by decide +kernel) rfl
theorem se_A_A_kindOf : Cond.selects R_A y_A_kindOf y_A_kindOf ∈ G := inS 3 (by decide +kernel) rfl
theorem se_Q_Q_findCommon : Cond.selects R_Q y_Q_findCommon y_Q_findCommon ∈ G := inS 4 (by decide +kernel) rfl
theorem se_W_W_topBelow : Cond.selects R_W y_W_topBelow y_W_topBelow ∈ G := inS 5 (by decide +kernel) rfl
theorem se_W_W_takeAway : Cond.selects R_W y_W_takeAway y_W_takeAway ∈ G := inS 6 (by decide +kernel) rfl
theorem se_W_W_trim : Cond.selects R_W y_W_trim y_W_trim ∈ G := inS 7 (by decide +kernel) rfl
theorem se_Q_Q_storeLine : Cond.selects R_Q y_Q_storeLine y_Q_storeLine ∈ G := inS 8 (by decide +kernel) rfl
theorem se_W_W_addSize : Cond.selects R_W y_W_addSize y_W_addSize ∈ G := inS 9 (by decide +kernel) rfl
theorem se_W_W_limbAt : Cond.selects R_W y_W_limbAt y_W_limbAt ∈ G := inS 10 (by decide +kernel) rfl
theorem se_W_W_compareSize : Cond.selects R_W y_W_compareSize y_W_compareSize ∈ G := inS 11 (by decide +kernel) rfl
theorem se_W_W_setDifference : Cond.selects R_W y_W_setDifference y_W_setDifference ∈ G := inS 12 (by decide +kernel) rfl
theorem se_A_A_isReduced : Cond.selects R_A y_A_isReduced y_A_isReduced ∈ G := inS 13 (by decide +kernel) rfl
theorem se_Q_Q_balance : Cond.selects R_Q y_Q_balance y_Q_balance ∈ G := inS 14 (by decide +kernel) rfl
theorem se_A_A_keepSpare : Cond.selects R_A y_A_keepSpare y_A_keepSpare ∈ G := inS 15 (by decide +kernel) rfl
theorem se_M_M_empty : Cond.selects R_M y_M_empty y_M_empty ∈ G := inS 16 (by decide +kernel) rfl
theorem se_M_M_keep : Cond.selects R_M y_M_keep y_M_keep ∈ G := inS 17 (by decide +kernel) rfl
theorem se_M_M_isCell : Cond.selects R_M y_M_isCell y_M_isCell ∈ G := inS 18 (by decide +kernel) rfl
theorem se_M_M_load : Cond.selects R_M y_M_load y_M_load ∈ G := inS 19 (by decide +kernel) rfl
theorem se_M_M_bring : Cond.selects R_M y_M_bring y_M_bring ∈ G := inS 20 (by decide +kernel) rfl
theorem se_M_M_finish : Cond.selects R_M y_M_finish y_M_finish ∈ G := inS 21 (by decide +kernel) rfl
theorem se_M_M_reduceAll : Cond.selects R_M y_M_reduceAll y_M_reduceAll ∈ G := inS 22 (by decide +kernel) rfl
theorem se_M_M_isZero : Cond.selects R_M y_M_isZero y_M_isZero ∈ G := inS 23 (by decide +kernel) rfl
theorem se_M_M_swap : Cond.selects R_M y_M_swap y_M_swap ∈ G := inS 24 (by decide +kernel) rfl
theorem se_M_M_give : Cond.selects R_M y_M_give y_M_give ∈ G := inS 25 (by decide +kernel) rfl
theorem se_M_M_divide : Cond.selects R_M y_M_divide y_M_divide ∈ G := inS 26 (by decide +kernel) rfl
theorem se_M_M_inverse : Cond.selects R_M y_M_inverse y_M_inverse ∈ G := inS 27 (by decide +kernel) rfl
theorem se_M_M_settle : Cond.selects R_M y_M_settle y_M_settle ∈ G := inS 28 (by decide +kernel) rfl
theorem se_M_M_divisor : Cond.selects R_M y_M_divisor y_M_divisor ∈ G := inS 29 (by decide +kernel) rfl
theorem se_M_M_take : Cond.selects R_M y_M_take y_M_take ∈ G := inS 30 (by decide +kernel) rfl
theorem se_M_M_isReduced : Cond.selects R_M y_M_isReduced y_M_isReduced ∈ G := inS 31 (by decide +kernel) rfl
theorem se_M_M_shift : Cond.selects R_M y_M_shift y_M_shift ∈ G := inS 32 (by decide +kernel) rfl
theorem lay_A : ∀ w ∈ u_ws R_A F_A 4, w ∈ G := by decide +kernel
theorem lay_Q : ∀ w ∈ u_ws R_Q F_Q 8, w ∈ G := by decide +kernel
theorem lay_T : ∀ w ∈ u_ws R_T F_T 6, w ∈ G := by decide +kernel
theorem lay_W : ∀ w ∈ u_ws R_W F_W 3, w ∈ G := by decide +kernel
theorem lay_M : ∀ w ∈ u_ws R_M F_M 25, w ∈ G := by decide +kernel
theorem lay_N : ∀ w ∈ u_ws R_N F_N 3, w ∈ G := by decide +kernel
end
section
-- ===== decode rows (written by wip/gen/names.py) =====
theorem d_T_init_0 : decode c_T_init 0 = .ok (.aload_n 0, 1) := by decide +kernel
theorem d_T_init_1 : decode c_T_init 1 = .ok (.invokespecial 5, 3) := by decide +kernel
theorem d_T_init_4 : decode c_T_init 4 = .ok (.aload_n 0, 1) := by decide +kernel
theorem d_T_init_5 : decode c_T_init 5 = .ok (.iconst 1, 1) := by decide +kernel
theorem d_T_init_6 : decode c_T_init 6 = .ok (.putfield 11, 3) := by decide +kernel
theorem d_T_init_9 : decode c_T_init 9 = .ok (.aload_n 0, 1) := by decide +kernel
theorem d_T_init_10 : decode c_T_init 10 = .ok (.bipush 12, 2) := by decide +kernel
theorem d_T_init_12 : decode c_T_init 12 = .ok (.newarray .int, 2) := by decide +kernel
theorem d_T_init_14 : decode c_T_init 14 = .ok (.putfield 15, 3) := by decide +kernel
theorem d_T_init_17 : decode c_T_init 17 = .ok (.aload_n 0, 1) := by decide +kernel
theorem d_T_init_18 : decode c_T_init 18 = .ok (.bipush 12, 2) := by decide +kernel
theorem d_T_init_20 : decode c_T_init 20 = .ok (.bipush 72, 2) := by decide +kernel
theorem d_T_init_22 : decode c_T_init 22 = .ok (.multianewarray 19 2, 4) := by decide +kernel
theorem d_T_init_26 : decode c_T_init 26 = .ok (.putfield 21, 3) := by decide +kernel
theorem d_T_init_29 : decode c_T_init 29 = .ok (.return_, 1) := by decide +kernel
theorem d_W_init_0 : decode c_W_init 0 = .ok (.aload_n 0, 1) := by decide +kernel
theorem d_W_init_1 : decode c_W_init 1 = .ok (.invokespecial 5, 3) := by decide +kernel
theorem d_W_init_4 : decode c_W_init 4 = .ok (.aload_n 0, 1) := by decide +kernel
theorem d_W_init_5 : decode c_W_init 5 = .ok (.bipush 12, 2) := by decide +kernel
theorem d_W_init_7 : decode c_W_init 7 = .ok (.newarray .int, 2) := by decide +kernel
theorem d_W_init_9 : decode c_W_init 9 = .ok (.putfield 11, 3) := by decide +kernel
theorem d_W_init_12 : decode c_W_init 12 = .ok (.return_, 1) := by decide +kernel
theorem d_T_start_0 : decode c_T_start 0 = .ok (.aload_n 0, 1) := by decide +kernel
theorem d_T_start_1 : decode c_T_start 1 = .ok (.iload_n 1, 1) := by decide +kernel
theorem d_T_start_2 : decode c_T_start 2 = .ok (.putfield 24, 3) := by decide +kernel
theorem d_T_start_5 : decode c_T_start 5 = .ok (.aload_n 0, 1) := by decide +kernel
theorem d_T_start_6 : decode c_T_start 6 = .ok (.iload_n 2, 1) := by decide +kernel
theorem d_T_start_7 : decode c_T_start 7 = .ok (.putfield 28, 3) := by decide +kernel
theorem d_T_start_10 : decode c_T_start 10 = .ok (.aload_n 0, 1) := by decide +kernel
theorem d_T_start_11 : decode c_T_start 11 = .ok (.iload_n 3, 1) := by decide +kernel
theorem d_T_start_12 : decode c_T_start 12 = .ok (.putfield 31, 3) := by decide +kernel
theorem d_T_start_15 : decode c_T_start 15 = .ok (.aload_n 0, 1) := by decide +kernel
theorem d_T_start_16 : decode c_T_start 16 = .ok (.iconst 0, 1) := by decide +kernel
theorem d_T_start_17 : decode c_T_start 17 = .ok (.putfield 11, 3) := by decide +kernel
theorem d_T_start_20 : decode c_T_start 20 = .ok (.iconst 0, 1) := by decide +kernel
theorem d_T_start_21 : decode c_T_start 21 = .ok (.istore 4, 2) := by decide +kernel
theorem d_T_start_23 : decode c_T_start 23 = .ok (.iload 4, 2) := by decide +kernel
theorem d_T_start_25 : decode c_T_start 25 = .ok (.iload_n 2, 1) := by decide +kernel
theorem d_T_start_26 : decode c_T_start 26 = .ok (.if_icmp .ge 20, 3) := by decide +kernel
theorem d_T_start_29 : decode c_T_start 29 = .ok (.aload_n 0, 1) := by decide +kernel
theorem d_T_start_30 : decode c_T_start 30 = .ok (.getfield 21, 3) := by decide +kernel
theorem d_T_start_33 : decode c_T_start 33 = .ok (.iload 4, 2) := by decide +kernel
theorem d_T_start_35 : decode c_T_start 35 = .ok (.aaload, 1) := by decide +kernel
theorem d_T_start_36 : decode c_T_start 36 = .ok (.iconst 0, 1) := by decide +kernel
theorem d_T_start_37 : decode c_T_start 37 = .ok (.invokestatic 34, 3) := by decide +kernel
theorem d_T_start_40 : decode c_T_start 40 = .ok (.iinc 4 1, 3) := by decide +kernel
theorem d_T_start_43 : decode c_T_start 43 = .ok (.goto (-20), 3) := by decide +kernel
theorem d_T_start_46 : decode c_T_start 46 = .ok (.return_, 1) := by decide +kernel
theorem d_T_has_0 : decode c_T_has 0 = .ok (.iload_n 1, 1) := by decide +kernel
theorem d_T_has_1 : decode c_T_has 1 = .ok (.ifCond .lt 27, 3) := by decide +kernel
theorem d_T_has_4 : decode c_T_has 4 = .ok (.iload_n 1, 1) := by decide +kernel
theorem d_T_has_5 : decode c_T_has 5 = .ok (.aload_n 0, 1) := by decide +kernel
theorem d_T_has_6 : decode c_T_has 6 = .ok (.getfield 28, 3) := by decide +kernel
theorem d_T_has_9 : decode c_T_has 9 = .ok (.if_icmp .ge 19, 3) := by decide +kernel
theorem d_T_has_12 : decode c_T_has 12 = .ok (.iload_n 2, 1) := by decide +kernel
theorem d_T_has_13 : decode c_T_has 13 = .ok (.ifCond .lt 15, 3) := by decide +kernel
theorem d_T_has_16 : decode c_T_has 16 = .ok (.iload_n 2, 1) := by decide +kernel
theorem d_T_has_17 : decode c_T_has 17 = .ok (.aload_n 0, 1) := by decide +kernel
theorem d_T_has_18 : decode c_T_has 18 = .ok (.getfield 31, 3) := by decide +kernel
theorem d_T_has_21 : decode c_T_has 21 = .ok (.if_icmp .ge 7, 3) := by decide +kernel
theorem d_T_has_24 : decode c_T_has 24 = .ok (.iconst 1, 1) := by decide +kernel
theorem d_T_has_25 : decode c_T_has 25 = .ok (.goto 4, 3) := by decide +kernel
theorem d_T_has_28 : decode c_T_has 28 = .ok (.iconst 0, 1) := by decide +kernel
theorem d_T_has_29 : decode c_T_has 29 = .ok (.ireturn, 1) := by decide +kernel
theorem d_T_setSmall_0 : decode c_T_setSmall 0 = .ok (.aload_n 0, 1) := by decide +kernel
theorem d_T_setSmall_1 : decode c_T_setSmall 1 = .ok (.getfield 21, 3) := by decide +kernel
theorem d_T_setSmall_4 : decode c_T_setSmall 4 = .ok (.iload_n 1, 1) := by decide +kernel
theorem d_T_setSmall_5 : decode c_T_setSmall 5 = .ok (.aaload, 1) := by decide +kernel
theorem d_T_setSmall_6 : decode c_T_setSmall 6 = .ok (.iload_n 2, 1) := by decide +kernel
theorem d_T_setSmall_7 : decode c_T_setSmall 7 = .ok (.bipush 6, 2) := by decide +kernel
theorem d_T_setSmall_9 : decode c_T_setSmall 9 = .ok (.imul, 1) := by decide +kernel
theorem d_T_setSmall_10 : decode c_T_setSmall 10 = .ok (.iload_n 3, 1) := by decide +kernel
theorem d_T_setSmall_11 : decode c_T_setSmall 11 = .ok (.invokestatic 48, 3) := by decide +kernel
theorem d_T_setSmall_14 : decode c_T_setSmall 14 = .ok (.iastore, 1) := by decide +kernel
theorem d_T_setSmall_15 : decode c_T_setSmall 15 = .ok (.aload_n 0, 1) := by decide +kernel
theorem d_T_setSmall_16 : decode c_T_setSmall 16 = .ok (.getfield 21, 3) := by decide +kernel
theorem d_T_setSmall_19 : decode c_T_setSmall 19 = .ok (.iload_n 1, 1) := by decide +kernel
theorem d_T_setSmall_20 : decode c_T_setSmall 20 = .ok (.aaload, 1) := by decide +kernel
theorem d_T_setSmall_21 : decode c_T_setSmall 21 = .ok (.iload_n 2, 1) := by decide +kernel
theorem d_T_setSmall_22 : decode c_T_setSmall 22 = .ok (.bipush 6, 2) := by decide +kernel
theorem d_T_setSmall_24 : decode c_T_setSmall 24 = .ok (.imul, 1) := by decide +kernel
theorem d_T_setSmall_25 : decode c_T_setSmall 25 = .ok (.iconst 1, 1) := by decide +kernel
theorem d_T_setSmall_26 : decode c_T_setSmall 26 = .ok (.iadd, 1) := by decide +kernel
theorem d_T_setSmall_27 : decode c_T_setSmall 27 = .ok (.iload_n 3, 1) := by decide +kernel
theorem d_T_setSmall_28 : decode c_T_setSmall 28 = .ok (.invokestatic 54, 3) := by decide +kernel
theorem d_T_setSmall_31 : decode c_T_setSmall 31 = .ok (.iastore, 1) := by decide +kernel
theorem d_T_setSmall_32 : decode c_T_setSmall 32 = .ok (.return_, 1) := by decide +kernel
theorem d_T_findRow_0 : decode c_T_findRow 0 = .ok (.iload_n 1, 1) := by decide +kernel
theorem d_T_findRow_1 : decode c_T_findRow 1 = .ok (.istore_n 3, 1) := by decide +kernel
theorem d_T_findRow_2 : decode c_T_findRow 2 = .ok (.iload_n 3, 1) := by decide +kernel
theorem d_T_findRow_3 : decode c_T_findRow 3 = .ok (.aload_n 0, 1) := by decide +kernel
theorem d_T_findRow_4 : decode c_T_findRow 4 = .ok (.getfield 28, 3) := by decide +kernel
theorem d_T_findRow_7 : decode c_T_findRow 7 = .ok (.if_icmp .ge 20, 3) := by decide +kernel
theorem d_T_findRow_10 : decode c_T_findRow 10 = .ok (.aload_n 0, 1) := by decide +kernel
theorem d_T_findRow_11 : decode c_T_findRow 11 = .ok (.iload_n 3, 1) := by decide +kernel
theorem d_T_findRow_12 : decode c_T_findRow 12 = .ok (.iload_n 2, 1) := by decide +kernel
theorem d_T_findRow_13 : decode c_T_findRow 13 = .ok (.invokevirtual 40, 3) := by decide +kernel
theorem d_T_findRow_16 : decode c_T_findRow 16 = .ok (.ifCond .ne 5, 3) := by decide +kernel
theorem d_T_findRow_19 : decode c_T_findRow 19 = .ok (.iload_n 3, 1) := by decide +kernel
theorem d_T_findRow_20 : decode c_T_findRow 20 = .ok (.ireturn, 1) := by decide +kernel
theorem d_T_findRow_21 : decode c_T_findRow 21 = .ok (.iinc 3 1, 3) := by decide +kernel
theorem d_T_findRow_24 : decode c_T_findRow 24 = .ok (.goto (-22), 3) := by decide +kernel
theorem d_T_findRow_27 : decode c_T_findRow 27 = .ok (.iconst (-1), 1) := by decide +kernel
theorem d_T_findRow_28 : decode c_T_findRow 28 = .ok (.ireturn, 1) := by decide +kernel
theorem d_T_isZero_0 : decode c_T_isZero 0 = .ok (.aload_n 0, 1) := by decide +kernel
theorem d_T_isZero_1 : decode c_T_isZero 1 = .ok (.iload_n 1, 1) := by decide +kernel
theorem d_T_isZero_2 : decode c_T_isZero 2 = .ok (.iload_n 2, 1) := by decide +kernel
theorem d_T_isZero_3 : decode c_T_isZero 3 = .ok (.invokevirtual 44, 3) := by decide +kernel
theorem d_T_isZero_6 : decode c_T_isZero 6 = .ok (.ifCond .ne 7, 3) := by decide +kernel
theorem d_T_isZero_9 : decode c_T_isZero 9 = .ok (.iconst 1, 1) := by decide +kernel
theorem d_T_isZero_10 : decode c_T_isZero 10 = .ok (.goto 4, 3) := by decide +kernel
theorem d_T_isZero_13 : decode c_T_isZero 13 = .ok (.iconst 0, 1) := by decide +kernel
theorem d_T_isZero_14 : decode c_T_isZero 14 = .ok (.ireturn, 1) := by decide +kernel
theorem d_T_head_0 : decode c_T_head 0 = .ok (.aload_n 0, 1) := by decide +kernel
theorem d_T_head_1 : decode c_T_head 1 = .ok (.getfield 21, 3) := by decide +kernel
theorem d_T_head_4 : decode c_T_head 4 = .ok (.iload_n 1, 1) := by decide +kernel
theorem d_T_head_5 : decode c_T_head 5 = .ok (.aaload, 1) := by decide +kernel
theorem d_T_head_6 : decode c_T_head 6 = .ok (.iload_n 2, 1) := by decide +kernel
theorem d_T_head_7 : decode c_T_head 7 = .ok (.bipush 6, 2) := by decide +kernel
theorem d_T_head_9 : decode c_T_head 9 = .ok (.imul, 1) := by decide +kernel
theorem d_T_head_10 : decode c_T_head 10 = .ok (.iaload, 1) := by decide +kernel
theorem d_T_head_11 : decode c_T_head 11 = .ok (.ireturn, 1) := by decide +kernel
theorem d_T_swapRows_0 : decode c_T_swapRows 0 = .ok (.aload_n 0, 1) := by decide +kernel
theorem d_T_swapRows_1 : decode c_T_swapRows 1 = .ok (.getfield 21, 3) := by decide +kernel
theorem d_T_swapRows_4 : decode c_T_swapRows 4 = .ok (.iload_n 1, 1) := by decide +kernel
theorem d_T_swapRows_5 : decode c_T_swapRows 5 = .ok (.aaload, 1) := by decide +kernel
theorem d_T_swapRows_6 : decode c_T_swapRows 6 = .ok (.astore_n 3, 1) := by decide +kernel
theorem d_T_swapRows_7 : decode c_T_swapRows 7 = .ok (.aload_n 0, 1) := by decide +kernel
theorem d_T_swapRows_8 : decode c_T_swapRows 8 = .ok (.getfield 21, 3) := by decide +kernel
theorem d_T_swapRows_11 : decode c_T_swapRows 11 = .ok (.iload_n 1, 1) := by decide +kernel
theorem d_T_swapRows_12 : decode c_T_swapRows 12 = .ok (.aload_n 0, 1) := by decide +kernel
theorem d_T_swapRows_13 : decode c_T_swapRows 13 = .ok (.getfield 21, 3) := by decide +kernel
theorem d_T_swapRows_16 : decode c_T_swapRows 16 = .ok (.iload_n 2, 1) := by decide +kernel
theorem d_T_swapRows_17 : decode c_T_swapRows 17 = .ok (.aaload, 1) := by decide +kernel
theorem d_T_swapRows_18 : decode c_T_swapRows 18 = .ok (.aastore, 1) := by decide +kernel
theorem d_T_swapRows_19 : decode c_T_swapRows 19 = .ok (.aload_n 0, 1) := by decide +kernel
theorem d_T_swapRows_20 : decode c_T_swapRows 20 = .ok (.getfield 21, 3) := by decide +kernel
theorem d_T_swapRows_23 : decode c_T_swapRows 23 = .ok (.iload_n 2, 1) := by decide +kernel
theorem d_T_swapRows_24 : decode c_T_swapRows 24 = .ok (.aload_n 3, 1) := by decide +kernel
theorem d_T_swapRows_25 : decode c_T_swapRows 25 = .ok (.aastore, 1) := by decide +kernel
theorem d_T_swapRows_26 : decode c_T_swapRows 26 = .ok (.return_, 1) := by decide +kernel
theorem d_T_load_0 : decode c_T_load 0 = .ok (.aload_n 0, 1) := by decide +kernel
theorem d_T_load_1 : decode c_T_load 1 = .ok (.iload_n 1, 1) := by decide +kernel
theorem d_T_load_2 : decode c_T_load 2 = .ok (.iload_n 2, 1) := by decide +kernel
theorem d_T_load_3 : decode c_T_load 3 = .ok (.invokevirtual 44, 3) := by decide +kernel
theorem d_T_load_6 : decode c_T_load 6 = .ok (.istore 4, 2) := by decide +kernel
theorem d_T_load_8 : decode c_T_load 8 = .ok (.aload_n 3, 1) := by decide +kernel
theorem d_T_load_9 : decode c_T_load 9 = .ok (.iload 4, 2) := by decide +kernel
theorem d_T_load_11 : decode c_T_load 11 = .ok (.invokestatic 54, 3) := by decide +kernel
theorem d_T_load_14 : decode c_T_load 14 = .ok (.putfield 59, 3) := by decide +kernel
theorem d_T_load_17 : decode c_T_load 17 = .ok (.aload_n 3, 1) := by decide +kernel
theorem d_T_load_18 : decode c_T_load 18 = .ok (.iload 4, 2) := by decide +kernel
theorem d_T_load_20 : decode c_T_load 20 = .ok (.invokestatic 48, 3) := by decide +kernel
theorem d_T_load_23 : decode c_T_load 23 = .ok (.putfield 64, 3) := by decide +kernel
theorem d_T_load_26 : decode c_T_load 26 = .ok (.aload_n 0, 1) := by decide +kernel
theorem d_T_load_27 : decode c_T_load 27 = .ok (.getfield 21, 3) := by decide +kernel
theorem d_T_load_30 : decode c_T_load 30 = .ok (.iload_n 1, 1) := by decide +kernel
theorem d_T_load_31 : decode c_T_load 31 = .ok (.aaload, 1) := by decide +kernel
theorem d_T_load_32 : decode c_T_load 32 = .ok (.iload_n 2, 1) := by decide +kernel
theorem d_T_load_33 : decode c_T_load 33 = .ok (.bipush 6, 2) := by decide +kernel
theorem d_T_load_35 : decode c_T_load 35 = .ok (.imul, 1) := by decide +kernel
theorem d_T_load_36 : decode c_T_load 36 = .ok (.iconst 1, 1) := by decide +kernel
theorem d_T_load_37 : decode c_T_load 37 = .ok (.iadd, 1) := by decide +kernel
theorem d_T_load_38 : decode c_T_load 38 = .ok (.aload_n 3, 1) := by decide +kernel
theorem d_T_load_39 : decode c_T_load 39 = .ok (.getfield 66, 3) := by decide +kernel
theorem d_T_load_42 : decode c_T_load 42 = .ok (.iconst 0, 1) := by decide +kernel
theorem d_T_load_43 : decode c_T_load 43 = .ok (.aload_n 3, 1) := by decide +kernel
theorem d_T_load_44 : decode c_T_load 44 = .ok (.getfield 59, 3) := by decide +kernel
theorem d_T_load_47 : decode c_T_load 47 = .ok (.invokestatic 69, 3) := by decide +kernel
theorem d_T_load_50 : decode c_T_load 50 = .ok (.return_, 1) := by decide +kernel
theorem d_W_setZero_0 : decode c_W_setZero 0 = .ok (.aload_n 0, 1) := by decide +kernel
theorem d_W_setZero_1 : decode c_W_setZero 1 = .ok (.iconst 0, 1) := by decide +kernel
theorem d_W_setZero_2 : decode c_W_setZero 2 = .ok (.putfield 15, 3) := by decide +kernel
theorem d_W_setZero_5 : decode c_W_setZero 5 = .ok (.aload_n 0, 1) := by decide +kernel
theorem d_W_setZero_6 : decode c_W_setZero 6 = .ok (.iconst 0, 1) := by decide +kernel
theorem d_W_setZero_7 : decode c_W_setZero 7 = .ok (.putfield 19, 3) := by decide +kernel
theorem d_W_setZero_10 : decode c_W_setZero 10 = .ok (.return_, 1) := by decide +kernel
theorem d_W_isOne_0 : decode c_W_isOne 0 = .ok (.aload_n 0, 1) := by decide +kernel
theorem d_W_isOne_1 : decode c_W_isOne 1 = .ok (.getfield 15, 3) := by decide +kernel
theorem d_W_isOne_4 : decode c_W_isOne 4 = .ok (.iconst 1, 1) := by decide +kernel
theorem d_W_isOne_5 : decode c_W_isOne 5 = .ok (.if_icmp .ne 25, 3) := by decide +kernel
theorem d_W_isOne_8 : decode c_W_isOne 8 = .ok (.aload_n 0, 1) := by decide +kernel
theorem d_W_isOne_9 : decode c_W_isOne 9 = .ok (.getfield 11, 3) := by decide +kernel
theorem d_W_isOne_12 : decode c_W_isOne 12 = .ok (.iconst 0, 1) := by decide +kernel
theorem d_W_isOne_13 : decode c_W_isOne 13 = .ok (.iaload, 1) := by decide +kernel
theorem d_W_isOne_14 : decode c_W_isOne 14 = .ok (.iconst 1, 1) := by decide +kernel
theorem d_W_isOne_15 : decode c_W_isOne 15 = .ok (.if_icmp .ne 15, 3) := by decide +kernel
theorem d_W_isOne_18 : decode c_W_isOne 18 = .ok (.aload_n 0, 1) := by decide +kernel
theorem d_W_isOne_19 : decode c_W_isOne 19 = .ok (.getfield 19, 3) := by decide +kernel
theorem d_W_isOne_22 : decode c_W_isOne 22 = .ok (.iconst 1, 1) := by decide +kernel
theorem d_W_isOne_23 : decode c_W_isOne 23 = .ok (.if_icmp .ne 7, 3) := by decide +kernel
theorem d_W_isOne_26 : decode c_W_isOne 26 = .ok (.iconst 1, 1) := by decide +kernel
theorem d_W_isOne_27 : decode c_W_isOne 27 = .ok (.goto 4, 3) := by decide +kernel
theorem d_W_isOne_30 : decode c_W_isOne 30 = .ok (.iconst 0, 1) := by decide +kernel
theorem d_W_isOne_31 : decode c_W_isOne 31 = .ok (.ireturn, 1) := by decide +kernel
theorem d_W_setSize_0 : decode c_W_setSize 0 = .ok (.aload_n 1, 1) := by decide +kernel
theorem d_W_setSize_1 : decode c_W_setSize 1 = .ok (.getfield 11, 3) := by decide +kernel
theorem d_W_setSize_4 : decode c_W_setSize 4 = .ok (.iconst 0, 1) := by decide +kernel
theorem d_W_setSize_5 : decode c_W_setSize 5 = .ok (.aload_n 0, 1) := by decide +kernel
theorem d_W_setSize_6 : decode c_W_setSize 6 = .ok (.getfield 11, 3) := by decide +kernel
theorem d_W_setSize_9 : decode c_W_setSize 9 = .ok (.iconst 0, 1) := by decide +kernel
theorem d_W_setSize_10 : decode c_W_setSize 10 = .ok (.aload_n 1, 1) := by decide +kernel
theorem d_W_setSize_11 : decode c_W_setSize 11 = .ok (.getfield 15, 3) := by decide +kernel
theorem d_W_setSize_14 : decode c_W_setSize 14 = .ok (.invokestatic 22, 3) := by decide +kernel
theorem d_W_setSize_17 : decode c_W_setSize 17 = .ok (.aload_n 0, 1) := by decide +kernel
theorem d_W_setSize_18 : decode c_W_setSize 18 = .ok (.aload_n 1, 1) := by decide +kernel
theorem d_W_setSize_19 : decode c_W_setSize 19 = .ok (.getfield 15, 3) := by decide +kernel
theorem d_W_setSize_22 : decode c_W_setSize 22 = .ok (.putfield 15, 3) := by decide +kernel
theorem d_W_setSize_25 : decode c_W_setSize 25 = .ok (.aload_n 0, 1) := by decide +kernel
theorem d_W_setSize_26 : decode c_W_setSize 26 = .ok (.aload_n 1, 1) := by decide +kernel
theorem d_W_setSize_27 : decode c_W_setSize 27 = .ok (.getfield 19, 3) := by decide +kernel
theorem d_W_setSize_30 : decode c_W_setSize 30 = .ok (.invokestatic 28, 3) := by decide +kernel
theorem d_W_setSize_33 : decode c_W_setSize 33 = .ok (.putfield 19, 3) := by decide +kernel
theorem d_W_setSize_36 : decode c_W_setSize 36 = .ok (.return_, 1) := by decide +kernel
theorem d_W_divide_0 : decode c_W_divide 0 = .ok (.aload_n 1, 1) := by decide +kernel
theorem d_W_divide_1 : decode c_W_divide 1 = .ok (.getfield 15, 3) := by decide +kernel
theorem d_W_divide_4 : decode c_W_divide 4 = .ok (.istore_n 3, 1) := by decide +kernel
theorem d_W_divide_5 : decode c_W_divide 5 = .ok (.aload_n 2, 1) := by decide +kernel
theorem d_W_divide_6 : decode c_W_divide 6 = .ok (.invokevirtual 34, 3) := by decide +kernel
theorem d_W_divide_9 : decode c_W_divide 9 = .ok (.iload_n 3, 1) := by decide +kernel
theorem d_W_divide_10 : decode c_W_divide 10 = .ok (.ifCond .eq 20, 3) := by decide +kernel
theorem d_W_divide_13 : decode c_W_divide 13 = .ok (.aload_n 0, 1) := by decide +kernel
theorem d_W_divide_14 : decode c_W_divide 14 = .ok (.getfield 15, 3) := by decide +kernel
theorem d_W_divide_17 : decode c_W_divide 17 = .ok (.iload_n 3, 1) := by decide +kernel
theorem d_W_divide_18 : decode c_W_divide 18 = .ok (.if_icmp .lt 12, 3) := by decide +kernel
theorem d_W_divide_21 : decode c_W_divide 21 = .ok (.aload_n 0, 1) := by decide +kernel
theorem d_W_divide_22 : decode c_W_divide 22 = .ok (.getfield 15, 3) := by decide +kernel
theorem d_W_divide_25 : decode c_W_divide 25 = .ok (.bipush 12, 2) := by decide +kernel
theorem d_W_divide_27 : decode c_W_divide 27 = .ok (.if_icmp .lt 4, 3) := by decide +kernel
theorem d_W_divide_30 : decode c_W_divide 30 = .ok (.return_, 1) := by decide +kernel
theorem d_W_divide_31 : decode c_W_divide 31 = .ok (.aload_n 1, 1) := by decide +kernel
theorem d_W_divide_32 : decode c_W_divide 32 = .ok (.getfield 11, 3) := by decide +kernel
theorem d_W_divide_35 : decode c_W_divide 35 = .ok (.iload_n 3, 1) := by decide +kernel
theorem d_W_divide_36 : decode c_W_divide 36 = .ok (.iconst 1, 1) := by decide +kernel
theorem d_W_divide_37 : decode c_W_divide 37 = .ok (.isub, 1) := by decide +kernel
theorem d_W_divide_38 : decode c_W_divide 38 = .ok (.iaload, 1) := by decide +kernel
theorem d_W_divide_39 : decode c_W_divide 39 = .ok (.invokestatic 60, 3) := by decide +kernel
theorem d_W_divide_42 : decode c_W_divide 42 = .ok (.iconst 2, 1) := by decide +kernel
theorem d_W_divide_43 : decode c_W_divide 43 = .ok (.isub, 1) := by decide +kernel
theorem d_W_divide_44 : decode c_W_divide 44 = .ok (.istore 4, 2) := by decide +kernel
theorem d_W_divide_46 : decode c_W_divide 46 = .ok (.lconst 1, 1) := by decide +kernel
theorem d_W_divide_47 : decode c_W_divide 47 = .ok (.aload_n 1, 1) := by decide +kernel
theorem d_W_divide_48 : decode c_W_divide 48 = .ok (.iload_n 3, 1) := by decide +kernel
theorem d_W_divide_49 : decode c_W_divide 49 = .ok (.iload 4, 2) := by decide +kernel
theorem d_W_divide_51 : decode c_W_divide 51 = .ok (.invokevirtual 65, 3) := by decide +kernel
theorem d_W_divide_54 : decode c_W_divide 54 = .ok (.bipush 30, 2) := by decide +kernel
theorem d_W_divide_56 : decode c_W_divide 56 = .ok (.lshr, 1) := by decide +kernel
theorem d_W_divide_57 : decode c_W_divide 57 = .ok (.invokestatic 69, 3) := by decide +kernel
theorem d_W_divide_60 : decode c_W_divide 60 = .ok (.lstore 5, 2) := by decide +kernel
theorem d_W_divide_62 : decode c_W_divide 62 = .ok (.aload_n 2, 1) := by decide +kernel
theorem d_W_divide_63 : decode c_W_divide 63 = .ok (.aload_n 0, 1) := by decide +kernel
theorem d_W_divide_64 : decode c_W_divide 64 = .ok (.getfield 15, 3) := by decide +kernel
theorem d_W_divide_67 : decode c_W_divide 67 = .ok (.iload_n 3, 1) := by decide +kernel
theorem d_W_divide_68 : decode c_W_divide 68 = .ok (.isub, 1) := by decide +kernel
theorem d_W_divide_69 : decode c_W_divide 69 = .ok (.iconst 1, 1) := by decide +kernel
theorem d_W_divide_70 : decode c_W_divide 70 = .ok (.iadd, 1) := by decide +kernel
theorem d_W_divide_71 : decode c_W_divide 71 = .ok (.putfield 15, 3) := by decide +kernel
theorem d_W_divide_74 : decode c_W_divide 74 = .ok (.aload_n 2, 1) := by decide +kernel
theorem d_W_divide_75 : decode c_W_divide 75 = .ok (.aload_n 0, 1) := by decide +kernel
theorem d_W_divide_76 : decode c_W_divide 76 = .ok (.getfield 19, 3) := by decide +kernel
theorem d_W_divide_79 : decode c_W_divide 79 = .ok (.aload_n 1, 1) := by decide +kernel
theorem d_W_divide_80 : decode c_W_divide 80 = .ok (.getfield 19, 3) := by decide +kernel
theorem d_W_divide_83 : decode c_W_divide 83 = .ok (.imul, 1) := by decide +kernel
theorem d_W_divide_84 : decode c_W_divide 84 = .ok (.putfield 19, 3) := by decide +kernel
theorem d_W_divide_87 : decode c_W_divide 87 = .ok (.aload_n 0, 1) := by decide +kernel
theorem d_W_divide_88 : decode c_W_divide 88 = .ok (.getfield 11, 3) := by decide +kernel
theorem d_W_divide_91 : decode c_W_divide 91 = .ok (.aload_n 0, 1) := by decide +kernel
theorem d_W_divide_92 : decode c_W_divide 92 = .ok (.getfield 15, 3) := by decide +kernel
theorem d_W_divide_95 : decode c_W_divide 95 = .ok (.iconst 0, 1) := by decide +kernel
theorem d_W_divide_96 : decode c_W_divide 96 = .ok (.iastore, 1) := by decide +kernel
theorem d_W_divide_97 : decode c_W_divide 97 = .ok (.aload_n 0, 1) := by decide +kernel
theorem d_W_divide_98 : decode c_W_divide 98 = .ok (.getfield 15, 3) := by decide +kernel
theorem d_W_divide_101 : decode c_W_divide 101 = .ok (.iload_n 3, 1) := by decide +kernel
theorem d_W_divide_102 : decode c_W_divide 102 = .ok (.isub, 1) := by decide +kernel
theorem d_W_divide_103 : decode c_W_divide 103 = .ok (.istore 7, 2) := by decide +kernel
theorem d_W_divide_105 : decode c_W_divide 105 = .ok (.iload 7, 2) := by decide +kernel
theorem d_W_divide_107 : decode c_W_divide 107 = .ok (.ifCond .lt 48, 3) := by decide +kernel
theorem d_W_divide_110 : decode c_W_divide 110 = .ok (.aload_n 0, 1) := by decide +kernel
theorem d_W_divide_111 : decode c_W_divide 111 = .ok (.iload 7, 2) := by decide +kernel
theorem d_W_divide_113 : decode c_W_divide 113 = .ok (.iload_n 3, 1) := by decide +kernel
theorem d_W_divide_114 : decode c_W_divide 114 = .ok (.iadd, 1) := by decide +kernel
theorem d_W_divide_115 : decode c_W_divide 115 = .ok (.iconst 1, 1) := by decide +kernel
theorem d_W_divide_116 : decode c_W_divide 116 = .ok (.iadd, 1) := by decide +kernel
theorem d_W_divide_117 : decode c_W_divide 117 = .ok (.iload 4, 2) := by decide +kernel
theorem d_W_divide_119 : decode c_W_divide 119 = .ok (.invokevirtual 65, 3) := by decide +kernel
theorem d_W_divide_122 : decode c_W_divide 122 = .ok (.lload 5, 2) := by decide +kernel
theorem d_W_divide_124 : decode c_W_divide 124 = .ok (.ldiv, 1) := by decide +kernel
theorem d_W_divide_125 : decode c_W_divide 125 = .ok (.ldc2_w 43, 3) := by decide +kernel
theorem d_W_divide_128 : decode c_W_divide 128 = .ok (.invokestatic 73, 3) := by decide +kernel
theorem d_W_divide_131 : decode c_W_divide 131 = .ok (.lstore 8, 2) := by decide +kernel
theorem d_W_divide_133 : decode c_W_divide 133 = .ok (.aload_n 2, 1) := by decide +kernel
theorem d_W_divide_134 : decode c_W_divide 134 = .ok (.getfield 11, 3) := by decide +kernel
theorem d_W_divide_137 : decode c_W_divide 137 = .ok (.iload 7, 2) := by decide +kernel
theorem d_W_divide_139 : decode c_W_divide 139 = .ok (.aload_n 0, 1) := by decide +kernel
theorem d_W_divide_140 : decode c_W_divide 140 = .ok (.aload_n 1, 1) := by decide +kernel
theorem d_W_divide_141 : decode c_W_divide 141 = .ok (.lload 8, 2) := by decide +kernel
theorem d_W_divide_143 : decode c_W_divide 143 = .ok (.iload 7, 2) := by decide +kernel
theorem d_W_divide_145 : decode c_W_divide 145 = .ok (.invokevirtual 76, 3) := by decide +kernel
theorem d_W_divide_148 : decode c_W_divide 148 = .ok (.iastore, 1) := by decide +kernel
theorem d_W_divide_149 : decode c_W_divide 149 = .ok (.iinc 7 (-1), 3) := by decide +kernel
theorem d_W_divide_152 : decode c_W_divide 152 = .ok (.goto (-47), 3) := by decide +kernel
theorem d_W_divide_155 : decode c_W_divide 155 = .ok (.aload_n 2, 1) := by decide +kernel
theorem d_W_divide_156 : decode c_W_divide 156 = .ok (.invokevirtual 45, 3) := by decide +kernel
theorem d_W_divide_159 : decode c_W_divide 159 = .ok (.aload_n 0, 1) := by decide +kernel
theorem d_W_divide_160 : decode c_W_divide 160 = .ok (.iload_n 3, 1) := by decide +kernel
theorem d_W_divide_161 : decode c_W_divide 161 = .ok (.putfield 15, 3) := by decide +kernel
theorem d_W_divide_164 : decode c_W_divide 164 = .ok (.aload_n 0, 1) := by decide +kernel
theorem d_W_divide_165 : decode c_W_divide 165 = .ok (.invokevirtual 45, 3) := by decide +kernel
theorem d_W_divide_168 : decode c_W_divide 168 = .ok (.return_, 1) := by decide +kernel
theorem d_W_topBelow_0 : decode c_W_topBelow 0 = .ok (.iload_n 1, 1) := by decide +kernel
theorem d_W_topBelow_1 : decode c_W_topBelow 1 = .ok (.iconst 1, 1) := by decide +kernel
theorem d_W_topBelow_2 : decode c_W_topBelow 2 = .ok (.if_icmp .lt 15, 3) := by decide +kernel
theorem d_W_topBelow_5 : decode c_W_topBelow 5 = .ok (.aload_n 0, 1) := by decide +kernel
theorem d_W_topBelow_6 : decode c_W_topBelow 6 = .ok (.getfield 11, 3) := by decide +kernel
theorem d_W_topBelow_9 : decode c_W_topBelow 9 = .ok (.iload_n 1, 1) := by decide +kernel
theorem d_W_topBelow_10 : decode c_W_topBelow 10 = .ok (.iconst 1, 1) := by decide +kernel
theorem d_W_topBelow_11 : decode c_W_topBelow 11 = .ok (.isub, 1) := by decide +kernel
theorem d_W_topBelow_12 : decode c_W_topBelow 12 = .ok (.iaload, 1) := by decide +kernel
theorem d_W_topBelow_13 : decode c_W_topBelow 13 = .ok (.i2l, 1) := by decide +kernel
theorem d_W_topBelow_14 : decode c_W_topBelow 14 = .ok (.goto 4, 3) := by decide +kernel
theorem d_W_topBelow_17 : decode c_W_topBelow 17 = .ok (.lconst 0, 1) := by decide +kernel
theorem d_W_topBelow_18 : decode c_W_topBelow 18 = .ok (.lstore_n 3, 1) := by decide +kernel
theorem d_W_topBelow_19 : decode c_W_topBelow 19 = .ok (.iload_n 1, 1) := by decide +kernel
theorem d_W_topBelow_20 : decode c_W_topBelow 20 = .ok (.iconst 2, 1) := by decide +kernel
theorem d_W_topBelow_21 : decode c_W_topBelow 21 = .ok (.if_icmp .lt 15, 3) := by decide +kernel
theorem d_W_topBelow_24 : decode c_W_topBelow 24 = .ok (.aload_n 0, 1) := by decide +kernel
theorem d_W_topBelow_25 : decode c_W_topBelow 25 = .ok (.getfield 11, 3) := by decide +kernel
theorem d_W_topBelow_28 : decode c_W_topBelow 28 = .ok (.iload_n 1, 1) := by decide +kernel
theorem d_W_topBelow_29 : decode c_W_topBelow 29 = .ok (.iconst 2, 1) := by decide +kernel
theorem d_W_topBelow_30 : decode c_W_topBelow 30 = .ok (.isub, 1) := by decide +kernel
theorem d_W_topBelow_31 : decode c_W_topBelow 31 = .ok (.iaload, 1) := by decide +kernel
theorem d_W_topBelow_32 : decode c_W_topBelow 32 = .ok (.i2l, 1) := by decide +kernel
theorem d_W_topBelow_33 : decode c_W_topBelow 33 = .ok (.goto 4, 3) := by decide +kernel
theorem d_W_topBelow_36 : decode c_W_topBelow 36 = .ok (.lconst 0, 1) := by decide +kernel
theorem d_W_topBelow_37 : decode c_W_topBelow 37 = .ok (.lstore 5, 2) := by decide +kernel
theorem d_W_topBelow_39 : decode c_W_topBelow 39 = .ok (.iload_n 1, 1) := by decide +kernel
theorem d_W_topBelow_40 : decode c_W_topBelow 40 = .ok (.iconst 3, 1) := by decide +kernel
theorem d_W_topBelow_41 : decode c_W_topBelow 41 = .ok (.if_icmp .lt 15, 3) := by decide +kernel
theorem d_W_topBelow_44 : decode c_W_topBelow 44 = .ok (.aload_n 0, 1) := by decide +kernel
theorem d_W_topBelow_45 : decode c_W_topBelow 45 = .ok (.getfield 11, 3) := by decide +kernel
theorem d_W_topBelow_48 : decode c_W_topBelow 48 = .ok (.iload_n 1, 1) := by decide +kernel
theorem d_W_topBelow_49 : decode c_W_topBelow 49 = .ok (.iconst 3, 1) := by decide +kernel
theorem d_W_topBelow_50 : decode c_W_topBelow 50 = .ok (.isub, 1) := by decide +kernel
theorem d_W_topBelow_51 : decode c_W_topBelow 51 = .ok (.iaload, 1) := by decide +kernel
theorem d_W_topBelow_52 : decode c_W_topBelow 52 = .ok (.i2l, 1) := by decide +kernel
theorem d_W_topBelow_53 : decode c_W_topBelow 53 = .ok (.goto 4, 3) := by decide +kernel
theorem d_W_topBelow_56 : decode c_W_topBelow 56 = .ok (.lconst 0, 1) := by decide +kernel
theorem d_W_topBelow_57 : decode c_W_topBelow 57 = .ok (.lstore 7, 2) := by decide +kernel
theorem d_W_topBelow_59 : decode c_W_topBelow 59 = .ok (.lload_n 3, 1) := by decide +kernel
theorem d_W_topBelow_60 : decode c_W_topBelow 60 = .ok (.bipush 30, 2) := by decide +kernel
theorem d_W_topBelow_62 : decode c_W_topBelow 62 = .ok (.lshl, 1) := by decide +kernel
theorem d_W_topBelow_63 : decode c_W_topBelow 63 = .ok (.lload 5, 2) := by decide +kernel
theorem d_W_topBelow_65 : decode c_W_topBelow 65 = .ok (.lor, 1) := by decide +kernel
theorem d_W_topBelow_66 : decode c_W_topBelow 66 = .ok (.iload_n 2, 1) := by decide +kernel
theorem d_W_topBelow_67 : decode c_W_topBelow 67 = .ok (.lshl, 1) := by decide +kernel
theorem d_W_topBelow_68 : decode c_W_topBelow 68 = .ok (.lload 7, 2) := by decide +kernel
theorem d_W_topBelow_70 : decode c_W_topBelow 70 = .ok (.bipush 30, 2) := by decide +kernel
theorem d_W_topBelow_72 : decode c_W_topBelow 72 = .ok (.iload_n 2, 1) := by decide +kernel
theorem d_W_topBelow_73 : decode c_W_topBelow 73 = .ok (.isub, 1) := by decide +kernel
theorem d_W_topBelow_74 : decode c_W_topBelow 74 = .ok (.lshr, 1) := by decide +kernel
theorem d_W_topBelow_75 : decode c_W_topBelow 75 = .ok (.lor, 1) := by decide +kernel
theorem d_W_topBelow_76 : decode c_W_topBelow 76 = .ok (.lreturn, 1) := by decide +kernel
theorem d_W_takeAway_0 : decode c_W_takeAway 0 = .ok (.iload 4, 2) := by decide +kernel
theorem d_W_takeAway_2 : decode c_W_takeAway 2 = .ok (.aload_n 1, 1) := by decide +kernel
theorem d_W_takeAway_3 : decode c_W_takeAway 3 = .ok (.getfield 15, 3) := by decide +kernel
theorem d_W_takeAway_6 : decode c_W_takeAway 6 = .ok (.iadd, 1) := by decide +kernel
theorem d_W_takeAway_7 : decode c_W_takeAway 7 = .ok (.istore 5, 2) := by decide +kernel
theorem d_W_takeAway_9 : decode c_W_takeAway 9 = .ok (.lconst 0, 1) := by decide +kernel
theorem d_W_takeAway_10 : decode c_W_takeAway 10 = .ok (.lstore 6, 2) := by decide +kernel
theorem d_W_takeAway_12 : decode c_W_takeAway 12 = .ok (.iconst 0, 1) := by decide +kernel
theorem d_W_takeAway_13 : decode c_W_takeAway 13 = .ok (.istore 8, 2) := by decide +kernel
theorem d_W_takeAway_15 : decode c_W_takeAway 15 = .ok (.iload 8, 2) := by decide +kernel
theorem d_W_takeAway_17 : decode c_W_takeAway 17 = .ok (.aload_n 1, 1) := by decide +kernel
theorem d_W_takeAway_18 : decode c_W_takeAway 18 = .ok (.getfield 15, 3) := by decide +kernel
theorem d_W_takeAway_21 : decode c_W_takeAway 21 = .ok (.if_icmp .ge 60, 3) := by decide +kernel
theorem d_W_takeAway_24 : decode c_W_takeAway 24 = .ok (.lload 6, 2) := by decide +kernel
theorem d_W_takeAway_26 : decode c_W_takeAway 26 = .ok (.aload_n 0, 1) := by decide +kernel
theorem d_W_takeAway_27 : decode c_W_takeAway 27 = .ok (.getfield 11, 3) := by decide +kernel
theorem d_W_takeAway_30 : decode c_W_takeAway 30 = .ok (.iload 4, 2) := by decide +kernel
theorem d_W_takeAway_32 : decode c_W_takeAway 32 = .ok (.iload 8, 2) := by decide +kernel
theorem d_W_takeAway_34 : decode c_W_takeAway 34 = .ok (.iadd, 1) := by decide +kernel
theorem d_W_takeAway_35 : decode c_W_takeAway 35 = .ok (.iaload, 1) := by decide +kernel
theorem d_W_takeAway_36 : decode c_W_takeAway 36 = .ok (.i2l, 1) := by decide +kernel
theorem d_W_takeAway_37 : decode c_W_takeAway 37 = .ok (.lload_n 2, 1) := by decide +kernel
theorem d_W_takeAway_38 : decode c_W_takeAway 38 = .ok (.aload_n 1, 1) := by decide +kernel
theorem d_W_takeAway_39 : decode c_W_takeAway 39 = .ok (.getfield 11, 3) := by decide +kernel
theorem d_W_takeAway_42 : decode c_W_takeAway 42 = .ok (.iload 8, 2) := by decide +kernel
theorem d_W_takeAway_44 : decode c_W_takeAway 44 = .ok (.iaload, 1) := by decide +kernel
theorem d_W_takeAway_45 : decode c_W_takeAway 45 = .ok (.i2l, 1) := by decide +kernel
theorem d_W_takeAway_46 : decode c_W_takeAway 46 = .ok (.lmul, 1) := by decide +kernel
theorem d_W_takeAway_47 : decode c_W_takeAway 47 = .ok (.lsub, 1) := by decide +kernel
theorem d_W_takeAway_48 : decode c_W_takeAway 48 = .ok (.ladd, 1) := by decide +kernel
theorem d_W_takeAway_49 : decode c_W_takeAway 49 = .ok (.lstore 6, 2) := by decide +kernel
theorem d_W_takeAway_51 : decode c_W_takeAway 51 = .ok (.aload_n 0, 1) := by decide +kernel
theorem d_W_takeAway_52 : decode c_W_takeAway 52 = .ok (.getfield 11, 3) := by decide +kernel
theorem d_W_takeAway_55 : decode c_W_takeAway 55 = .ok (.iload 4, 2) := by decide +kernel
theorem d_W_takeAway_57 : decode c_W_takeAway 57 = .ok (.iload 8, 2) := by decide +kernel
theorem d_W_takeAway_59 : decode c_W_takeAway 59 = .ok (.iadd, 1) := by decide +kernel
theorem d_W_takeAway_60 : decode c_W_takeAway 60 = .ok (.lload 6, 2) := by decide +kernel
theorem d_W_takeAway_62 : decode c_W_takeAway 62 = .ok (.ldc2_w 43, 3) := by decide +kernel
theorem d_W_takeAway_65 : decode c_W_takeAway 65 = .ok (.land, 1) := by decide +kernel
theorem d_W_takeAway_66 : decode c_W_takeAway 66 = .ok (.l2i, 1) := by decide +kernel
theorem d_W_takeAway_67 : decode c_W_takeAway 67 = .ok (.iastore, 1) := by decide +kernel
theorem d_W_takeAway_68 : decode c_W_takeAway 68 = .ok (.lload 6, 2) := by decide +kernel
theorem d_W_takeAway_70 : decode c_W_takeAway 70 = .ok (.bipush 30, 2) := by decide +kernel
theorem d_W_takeAway_72 : decode c_W_takeAway 72 = .ok (.lshr, 1) := by decide +kernel
theorem d_W_takeAway_73 : decode c_W_takeAway 73 = .ok (.lstore 6, 2) := by decide +kernel
theorem d_W_takeAway_75 : decode c_W_takeAway 75 = .ok (.iinc 8 1, 3) := by decide +kernel
theorem d_W_takeAway_78 : decode c_W_takeAway 78 = .ok (.goto (-63), 3) := by decide +kernel
theorem d_W_takeAway_81 : decode c_W_takeAway 81 = .ok (.aload_n 0, 1) := by decide +kernel
theorem d_W_takeAway_82 : decode c_W_takeAway 82 = .ok (.getfield 11, 3) := by decide +kernel
theorem d_W_takeAway_85 : decode c_W_takeAway 85 = .ok (.iload 5, 2) := by decide +kernel
theorem d_W_takeAway_87 : decode c_W_takeAway 87 = .ok (.iaload, 1) := by decide +kernel
theorem d_W_takeAway_88 : decode c_W_takeAway 88 = .ok (.i2l, 1) := by decide +kernel
theorem d_W_takeAway_89 : decode c_W_takeAway 89 = .ok (.lload 6, 2) := by decide +kernel
theorem d_W_takeAway_91 : decode c_W_takeAway 91 = .ok (.ladd, 1) := by decide +kernel
theorem d_W_takeAway_92 : decode c_W_takeAway 92 = .ok (.l2i, 1) := by decide +kernel
theorem d_W_takeAway_93 : decode c_W_takeAway 93 = .ok (.istore 8, 2) := by decide +kernel
theorem d_W_takeAway_95 : decode c_W_takeAway 95 = .ok (.lload_n 2, 1) := by decide +kernel
theorem d_W_takeAway_96 : decode c_W_takeAway 96 = .ok (.l2i, 1) := by decide +kernel
theorem d_W_takeAway_97 : decode c_W_takeAway 97 = .ok (.istore 9, 2) := by decide +kernel
theorem d_W_takeAway_99 : decode c_W_takeAway 99 = .ok (.iconst 0, 1) := by decide +kernel
theorem d_W_takeAway_100 : decode c_W_takeAway 100 = .ok (.istore 10, 2) := by decide +kernel
theorem d_W_takeAway_102 : decode c_W_takeAway 102 = .ok (.iload 10, 2) := by decide +kernel
theorem d_W_takeAway_104 : decode c_W_takeAway 104 = .ok (.iconst 2, 1) := by decide +kernel
theorem d_W_takeAway_105 : decode c_W_takeAway 105 = .ok (.if_icmp .ge 94, 3) := by decide +kernel
theorem d_W_takeAway_108 : decode c_W_takeAway 108 = .ok (.iload 8, 2) := by decide +kernel
theorem d_W_takeAway_110 : decode c_W_takeAway 110 = .ok (.ifCond .ge 89, 3) := by decide +kernel
theorem d_W_takeAway_113 : decode c_W_takeAway 113 = .ok (.lconst 0, 1) := by decide +kernel
theorem d_W_takeAway_114 : decode c_W_takeAway 114 = .ok (.lstore 6, 2) := by decide +kernel
theorem d_W_takeAway_116 : decode c_W_takeAway 116 = .ok (.iconst 0, 1) := by decide +kernel
theorem d_W_takeAway_117 : decode c_W_takeAway 117 = .ok (.istore 11, 2) := by decide +kernel
theorem d_W_takeAway_119 : decode c_W_takeAway 119 = .ok (.iload 11, 2) := by decide +kernel
theorem d_W_takeAway_121 : decode c_W_takeAway 121 = .ok (.aload_n 1, 1) := by decide +kernel
theorem d_W_takeAway_122 : decode c_W_takeAway 122 = .ok (.getfield 15, 3) := by decide +kernel
theorem d_W_takeAway_125 : decode c_W_takeAway 125 = .ok (.if_icmp .ge 57, 3) := by decide +kernel
theorem d_W_takeAway_128 : decode c_W_takeAway 128 = .ok (.lload 6, 2) := by decide +kernel
theorem d_W_takeAway_130 : decode c_W_takeAway 130 = .ok (.aload_n 0, 1) := by decide +kernel
theorem d_W_takeAway_131 : decode c_W_takeAway 131 = .ok (.getfield 11, 3) := by decide +kernel
theorem d_W_takeAway_134 : decode c_W_takeAway 134 = .ok (.iload 4, 2) := by decide +kernel
theorem d_W_takeAway_136 : decode c_W_takeAway 136 = .ok (.iload 11, 2) := by decide +kernel
theorem d_W_takeAway_138 : decode c_W_takeAway 138 = .ok (.iadd, 1) := by decide +kernel
theorem d_W_takeAway_139 : decode c_W_takeAway 139 = .ok (.iaload, 1) := by decide +kernel
theorem d_W_takeAway_140 : decode c_W_takeAway 140 = .ok (.aload_n 1, 1) := by decide +kernel
theorem d_W_takeAway_141 : decode c_W_takeAway 141 = .ok (.getfield 11, 3) := by decide +kernel
theorem d_W_takeAway_144 : decode c_W_takeAway 144 = .ok (.iload 11, 2) := by decide +kernel
theorem d_W_takeAway_146 : decode c_W_takeAway 146 = .ok (.iaload, 1) := by decide +kernel
theorem d_W_takeAway_147 : decode c_W_takeAway 147 = .ok (.iadd, 1) := by decide +kernel
theorem d_W_takeAway_148 : decode c_W_takeAway 148 = .ok (.i2l, 1) := by decide +kernel
theorem d_W_takeAway_149 : decode c_W_takeAway 149 = .ok (.ladd, 1) := by decide +kernel
theorem d_W_takeAway_150 : decode c_W_takeAway 150 = .ok (.lstore 6, 2) := by decide +kernel
theorem d_W_takeAway_152 : decode c_W_takeAway 152 = .ok (.aload_n 0, 1) := by decide +kernel
theorem d_W_takeAway_153 : decode c_W_takeAway 153 = .ok (.getfield 11, 3) := by decide +kernel
theorem d_W_takeAway_156 : decode c_W_takeAway 156 = .ok (.iload 4, 2) := by decide +kernel
theorem d_W_takeAway_158 : decode c_W_takeAway 158 = .ok (.iload 11, 2) := by decide +kernel
theorem d_W_takeAway_160 : decode c_W_takeAway 160 = .ok (.iadd, 1) := by decide +kernel
theorem d_W_takeAway_161 : decode c_W_takeAway 161 = .ok (.lload 6, 2) := by decide +kernel
theorem d_W_takeAway_163 : decode c_W_takeAway 163 = .ok (.ldc2_w 43, 3) := by decide +kernel
theorem d_W_takeAway_166 : decode c_W_takeAway 166 = .ok (.land, 1) := by decide +kernel
theorem d_W_takeAway_167 : decode c_W_takeAway 167 = .ok (.l2i, 1) := by decide +kernel
theorem d_W_takeAway_168 : decode c_W_takeAway 168 = .ok (.iastore, 1) := by decide +kernel
theorem d_W_takeAway_169 : decode c_W_takeAway 169 = .ok (.lload 6, 2) := by decide +kernel
theorem d_W_takeAway_171 : decode c_W_takeAway 171 = .ok (.bipush 30, 2) := by decide +kernel
theorem d_W_takeAway_173 : decode c_W_takeAway 173 = .ok (.lshr, 1) := by decide +kernel
theorem d_W_takeAway_174 : decode c_W_takeAway 174 = .ok (.lstore 6, 2) := by decide +kernel
theorem d_W_takeAway_176 : decode c_W_takeAway 176 = .ok (.iinc 11 1, 3) := by decide +kernel
theorem d_W_takeAway_179 : decode c_W_takeAway 179 = .ok (.goto (-60), 3) := by decide +kernel
theorem d_W_takeAway_182 : decode c_W_takeAway 182 = .ok (.iload 8, 2) := by decide +kernel
theorem d_W_takeAway_184 : decode c_W_takeAway 184 = .ok (.lload 6, 2) := by decide +kernel
theorem d_W_takeAway_186 : decode c_W_takeAway 186 = .ok (.l2i, 1) := by decide +kernel
theorem d_W_takeAway_187 : decode c_W_takeAway 187 = .ok (.iadd, 1) := by decide +kernel
theorem d_W_takeAway_188 : decode c_W_takeAway 188 = .ok (.istore 8, 2) := by decide +kernel
theorem d_W_takeAway_190 : decode c_W_takeAway 190 = .ok (.iinc 9 (-1), 3) := by decide +kernel
theorem d_W_takeAway_193 : decode c_W_takeAway 193 = .ok (.iinc 10 1, 3) := by decide +kernel
theorem d_W_takeAway_196 : decode c_W_takeAway 196 = .ok (.goto (-94), 3) := by decide +kernel
theorem d_W_takeAway_199 : decode c_W_takeAway 199 = .ok (.aload_n 0, 1) := by decide +kernel
theorem d_W_takeAway_200 : decode c_W_takeAway 200 = .ok (.getfield 11, 3) := by decide +kernel
theorem d_W_takeAway_203 : decode c_W_takeAway 203 = .ok (.iload 5, 2) := by decide +kernel
theorem d_W_takeAway_205 : decode c_W_takeAway 205 = .ok (.iload 8, 2) := by decide +kernel
theorem d_W_takeAway_207 : decode c_W_takeAway 207 = .ok (.iastore, 1) := by decide +kernel
theorem d_W_takeAway_208 : decode c_W_takeAway 208 = .ok (.iload 9, 2) := by decide +kernel
theorem d_W_takeAway_210 : decode c_W_takeAway 210 = .ok (.ireturn, 1) := by decide +kernel
theorem d_W_trim_0 : decode c_W_trim 0 = .ok (.aload_n 0, 1) := by decide +kernel
theorem d_W_trim_1 : decode c_W_trim 1 = .ok (.getfield 15, 3) := by decide +kernel
theorem d_W_trim_4 : decode c_W_trim 4 = .ok (.ifCond .le 30, 3) := by decide +kernel
theorem d_W_trim_7 : decode c_W_trim 7 = .ok (.aload_n 0, 1) := by decide +kernel
theorem d_W_trim_8 : decode c_W_trim 8 = .ok (.getfield 11, 3) := by decide +kernel
theorem d_W_trim_11 : decode c_W_trim 11 = .ok (.aload_n 0, 1) := by decide +kernel
theorem d_W_trim_12 : decode c_W_trim 12 = .ok (.getfield 15, 3) := by decide +kernel
theorem d_W_trim_15 : decode c_W_trim 15 = .ok (.iconst 1, 1) := by decide +kernel
theorem d_W_trim_16 : decode c_W_trim 16 = .ok (.isub, 1) := by decide +kernel
theorem d_W_trim_17 : decode c_W_trim 17 = .ok (.iaload, 1) := by decide +kernel
theorem d_W_trim_18 : decode c_W_trim 18 = .ok (.ifCond .ne 16, 3) := by decide +kernel
theorem d_W_trim_21 : decode c_W_trim 21 = .ok (.aload_n 0, 1) := by decide +kernel
theorem d_W_trim_22 : decode c_W_trim 22 = .ok (.dup, 1) := by decide +kernel
theorem d_W_trim_23 : decode c_W_trim 23 = .ok (.getfield 15, 3) := by decide +kernel
theorem d_W_trim_26 : decode c_W_trim 26 = .ok (.iconst 1, 1) := by decide +kernel
theorem d_W_trim_27 : decode c_W_trim 27 = .ok (.isub, 1) := by decide +kernel
theorem d_W_trim_28 : decode c_W_trim 28 = .ok (.putfield 15, 3) := by decide +kernel
theorem d_W_trim_31 : decode c_W_trim 31 = .ok (.goto (-31), 3) := by decide +kernel
theorem d_W_trim_34 : decode c_W_trim 34 = .ok (.aload_n 0, 1) := by decide +kernel
theorem d_W_trim_35 : decode c_W_trim 35 = .ok (.getfield 15, 3) := by decide +kernel
theorem d_W_trim_38 : decode c_W_trim 38 = .ok (.ifCond .ne 8, 3) := by decide +kernel
theorem d_W_trim_41 : decode c_W_trim 41 = .ok (.aload_n 0, 1) := by decide +kernel
theorem d_W_trim_42 : decode c_W_trim 42 = .ok (.iconst 0, 1) := by decide +kernel
theorem d_W_trim_43 : decode c_W_trim 43 = .ok (.putfield 19, 3) := by decide +kernel
theorem d_W_trim_46 : decode c_W_trim 46 = .ok (.return_, 1) := by decide +kernel
theorem d_T_store_0 : decode c_T_store 0 = .ok (.aload_n 3, 1) := by decide +kernel
theorem d_T_store_1 : decode c_T_store 1 = .ok (.getfield 59, 3) := by decide +kernel
theorem d_T_store_4 : decode c_T_store 4 = .ok (.iconst 5, 1) := by decide +kernel
theorem d_T_store_5 : decode c_T_store 5 = .ok (.invokestatic 75, 3) := by decide +kernel
theorem d_T_store_8 : decode c_T_store 8 = .ok (.istore 4, 2) := by decide +kernel
theorem d_T_store_10 : decode c_T_store 10 = .ok (.aload_n 0, 1) := by decide +kernel
theorem d_T_store_11 : decode c_T_store 11 = .ok (.getfield 21, 3) := by decide +kernel
theorem d_T_store_14 : decode c_T_store 14 = .ok (.iload_n 1, 1) := by decide +kernel
theorem d_T_store_15 : decode c_T_store 15 = .ok (.aaload, 1) := by decide +kernel
theorem d_T_store_16 : decode c_T_store 16 = .ok (.iload_n 2, 1) := by decide +kernel
theorem d_T_store_17 : decode c_T_store 17 = .ok (.bipush 6, 2) := by decide +kernel
theorem d_T_store_19 : decode c_T_store 19 = .ok (.imul, 1) := by decide +kernel
theorem d_T_store_20 : decode c_T_store 20 = .ok (.aload_n 3, 1) := by decide +kernel
theorem d_T_store_21 : decode c_T_store 21 = .ok (.getfield 64, 3) := by decide +kernel
theorem d_T_store_24 : decode c_T_store 24 = .ok (.iload 4, 2) := by decide +kernel
theorem d_T_store_26 : decode c_T_store 26 = .ok (.imul, 1) := by decide +kernel
theorem d_T_store_27 : decode c_T_store 27 = .ok (.iastore, 1) := by decide +kernel
theorem d_T_store_28 : decode c_T_store 28 = .ok (.aload_n 3, 1) := by decide +kernel
theorem d_T_store_29 : decode c_T_store 29 = .ok (.getfield 66, 3) := by decide +kernel
theorem d_T_store_32 : decode c_T_store 32 = .ok (.iconst 0, 1) := by decide +kernel
theorem d_T_store_33 : decode c_T_store 33 = .ok (.aload_n 0, 1) := by decide +kernel
theorem d_T_store_34 : decode c_T_store 34 = .ok (.getfield 21, 3) := by decide +kernel
theorem d_T_store_37 : decode c_T_store 37 = .ok (.iload_n 1, 1) := by decide +kernel
theorem d_T_store_38 : decode c_T_store 38 = .ok (.aaload, 1) := by decide +kernel
theorem d_T_store_39 : decode c_T_store 39 = .ok (.iload_n 2, 1) := by decide +kernel
theorem d_T_store_40 : decode c_T_store 40 = .ok (.bipush 6, 2) := by decide +kernel
theorem d_T_store_42 : decode c_T_store 42 = .ok (.imul, 1) := by decide +kernel
theorem d_T_store_43 : decode c_T_store 43 = .ok (.iconst 1, 1) := by decide +kernel
theorem d_T_store_44 : decode c_T_store 44 = .ok (.iadd, 1) := by decide +kernel
theorem d_T_store_45 : decode c_T_store 45 = .ok (.iload 4, 2) := by decide +kernel
theorem d_T_store_47 : decode c_T_store 47 = .ok (.invokestatic 69, 3) := by decide +kernel
theorem d_T_store_50 : decode c_T_store 50 = .ok (.return_, 1) := by decide +kernel
theorem d_T_negateRow_0 : decode c_T_negateRow 0 = .ok (.iconst 0, 1) := by decide +kernel
theorem d_T_negateRow_1 : decode c_T_negateRow 1 = .ok (.istore_n 2, 1) := by decide +kernel
theorem d_T_negateRow_2 : decode c_T_negateRow 2 = .ok (.iload_n 2, 1) := by decide +kernel
theorem d_T_negateRow_3 : decode c_T_negateRow 3 = .ok (.aload_n 0, 1) := by decide +kernel
theorem d_T_negateRow_4 : decode c_T_negateRow 4 = .ok (.getfield 31, 3) := by decide +kernel
theorem d_T_negateRow_7 : decode c_T_negateRow 7 = .ok (.if_icmp .ge 32, 3) := by decide +kernel
theorem d_T_negateRow_10 : decode c_T_negateRow 10 = .ok (.aload_n 0, 1) := by decide +kernel
theorem d_T_negateRow_11 : decode c_T_negateRow 11 = .ok (.getfield 21, 3) := by decide +kernel
theorem d_T_negateRow_14 : decode c_T_negateRow 14 = .ok (.iload_n 1, 1) := by decide +kernel
theorem d_T_negateRow_15 : decode c_T_negateRow 15 = .ok (.aaload, 1) := by decide +kernel
theorem d_T_negateRow_16 : decode c_T_negateRow 16 = .ok (.iload_n 2, 1) := by decide +kernel
theorem d_T_negateRow_17 : decode c_T_negateRow 17 = .ok (.bipush 6, 2) := by decide +kernel
theorem d_T_negateRow_19 : decode c_T_negateRow 19 = .ok (.imul, 1) := by decide +kernel
theorem d_T_negateRow_20 : decode c_T_negateRow 20 = .ok (.aload_n 0, 1) := by decide +kernel
theorem d_T_negateRow_21 : decode c_T_negateRow 21 = .ok (.getfield 21, 3) := by decide +kernel
theorem d_T_negateRow_24 : decode c_T_negateRow 24 = .ok (.iload_n 1, 1) := by decide +kernel
theorem d_T_negateRow_25 : decode c_T_negateRow 25 = .ok (.aaload, 1) := by decide +kernel
theorem d_T_negateRow_26 : decode c_T_negateRow 26 = .ok (.iload_n 2, 1) := by decide +kernel
theorem d_T_negateRow_27 : decode c_T_negateRow 27 = .ok (.bipush 6, 2) := by decide +kernel
theorem d_T_negateRow_29 : decode c_T_negateRow 29 = .ok (.imul, 1) := by decide +kernel
theorem d_T_negateRow_30 : decode c_T_negateRow 30 = .ok (.iaload, 1) := by decide +kernel
theorem d_T_negateRow_31 : decode c_T_negateRow 31 = .ok (.ineg, 1) := by decide +kernel
theorem d_T_negateRow_32 : decode c_T_negateRow 32 = .ok (.iastore, 1) := by decide +kernel
theorem d_T_negateRow_33 : decode c_T_negateRow 33 = .ok (.iinc 2 1, 3) := by decide +kernel
theorem d_T_negateRow_36 : decode c_T_negateRow 36 = .ok (.goto (-34), 3) := by decide +kernel
theorem d_T_negateRow_39 : decode c_T_negateRow 39 = .ok (.return_, 1) := by decide +kernel
theorem d_T_small_0 : decode c_T_small 0 = .ok (.aload_n 0, 1) := by decide +kernel
theorem d_T_small_1 : decode c_T_small 1 = .ok (.iload_n 1, 1) := by decide +kernel
theorem d_T_small_2 : decode c_T_small 2 = .ok (.iload_n 2, 1) := by decide +kernel
theorem d_T_small_3 : decode c_T_small 3 = .ok (.invokevirtual 44, 3) := by decide +kernel
theorem d_T_small_6 : decode c_T_small 6 = .ok (.aload_n 0, 1) := by decide +kernel
theorem d_T_small_7 : decode c_T_small 7 = .ok (.getfield 21, 3) := by decide +kernel
theorem d_T_small_10 : decode c_T_small 10 = .ok (.iload_n 1, 1) := by decide +kernel
theorem d_T_small_11 : decode c_T_small 11 = .ok (.aaload, 1) := by decide +kernel
theorem d_T_small_12 : decode c_T_small 12 = .ok (.iload_n 2, 1) := by decide +kernel
theorem d_T_small_13 : decode c_T_small 13 = .ok (.bipush 6, 2) := by decide +kernel
theorem d_T_small_15 : decode c_T_small 15 = .ok (.imul, 1) := by decide +kernel
theorem d_T_small_16 : decode c_T_small 16 = .ok (.iconst 1, 1) := by decide +kernel
theorem d_T_small_17 : decode c_T_small 17 = .ok (.iadd, 1) := by decide +kernel
theorem d_T_small_18 : decode c_T_small 18 = .ok (.iaload, 1) := by decide +kernel
theorem d_T_small_19 : decode c_T_small 19 = .ok (.imul, 1) := by decide +kernel
theorem d_T_small_20 : decode c_T_small 20 = .ok (.ireturn, 1) := by decide +kernel
theorem d_W_setProduct_0 : decode c_W_setProduct 0 = .ok (.aload_n 0, 1) := by decide +kernel
theorem d_W_setProduct_1 : decode c_W_setProduct 1 = .ok (.invokevirtual 34, 3) := by decide +kernel
theorem d_W_setProduct_4 : decode c_W_setProduct 4 = .ok (.aload_n 1, 1) := by decide +kernel
theorem d_W_setProduct_5 : decode c_W_setProduct 5 = .ok (.getfield 19, 3) := by decide +kernel
theorem d_W_setProduct_8 : decode c_W_setProduct 8 = .ok (.ifCond .eq 24, 3) := by decide +kernel
theorem d_W_setProduct_11 : decode c_W_setProduct 11 = .ok (.aload_n 2, 1) := by decide +kernel
theorem d_W_setProduct_12 : decode c_W_setProduct 12 = .ok (.getfield 19, 3) := by decide +kernel
theorem d_W_setProduct_15 : decode c_W_setProduct 15 = .ok (.ifCond .eq 17, 3) := by decide +kernel
theorem d_W_setProduct_18 : decode c_W_setProduct 18 = .ok (.aload_n 1, 1) := by decide +kernel
theorem d_W_setProduct_19 : decode c_W_setProduct 19 = .ok (.getfield 15, 3) := by decide +kernel
theorem d_W_setProduct_22 : decode c_W_setProduct 22 = .ok (.aload_n 2, 1) := by decide +kernel
theorem d_W_setProduct_23 : decode c_W_setProduct 23 = .ok (.getfield 15, 3) := by decide +kernel
theorem d_W_setProduct_26 : decode c_W_setProduct 26 = .ok (.iadd, 1) := by decide +kernel
theorem d_W_setProduct_27 : decode c_W_setProduct 27 = .ok (.bipush 12, 2) := by decide +kernel
theorem d_W_setProduct_29 : decode c_W_setProduct 29 = .ok (.if_icmp .le 4, 3) := by decide +kernel
theorem d_W_setProduct_32 : decode c_W_setProduct 32 = .ok (.return_, 1) := by decide +kernel
theorem d_W_setProduct_33 : decode c_W_setProduct 33 = .ok (.aload_n 0, 1) := by decide +kernel
theorem d_W_setProduct_34 : decode c_W_setProduct 34 = .ok (.aload_n 1, 1) := by decide +kernel
theorem d_W_setProduct_35 : decode c_W_setProduct 35 = .ok (.getfield 15, 3) := by decide +kernel
theorem d_W_setProduct_38 : decode c_W_setProduct 38 = .ok (.aload_n 2, 1) := by decide +kernel
theorem d_W_setProduct_39 : decode c_W_setProduct 39 = .ok (.getfield 15, 3) := by decide +kernel
theorem d_W_setProduct_42 : decode c_W_setProduct 42 = .ok (.iadd, 1) := by decide +kernel
theorem d_W_setProduct_43 : decode c_W_setProduct 43 = .ok (.putfield 15, 3) := by decide +kernel
theorem d_W_setProduct_46 : decode c_W_setProduct 46 = .ok (.aload_n 0, 1) := by decide +kernel
theorem d_W_setProduct_47 : decode c_W_setProduct 47 = .ok (.aload_n 1, 1) := by decide +kernel
theorem d_W_setProduct_48 : decode c_W_setProduct 48 = .ok (.getfield 19, 3) := by decide +kernel
theorem d_W_setProduct_51 : decode c_W_setProduct 51 = .ok (.aload_n 2, 1) := by decide +kernel
theorem d_W_setProduct_52 : decode c_W_setProduct 52 = .ok (.getfield 19, 3) := by decide +kernel
theorem d_W_setProduct_55 : decode c_W_setProduct 55 = .ok (.imul, 1) := by decide +kernel
theorem d_W_setProduct_56 : decode c_W_setProduct 56 = .ok (.putfield 19, 3) := by decide +kernel
theorem d_W_setProduct_59 : decode c_W_setProduct 59 = .ok (.aload_n 0, 1) := by decide +kernel
theorem d_W_setProduct_60 : decode c_W_setProduct 60 = .ok (.getfield 11, 3) := by decide +kernel
theorem d_W_setProduct_63 : decode c_W_setProduct 63 = .ok (.iconst 0, 1) := by decide +kernel
theorem d_W_setProduct_64 : decode c_W_setProduct 64 = .ok (.aload_n 0, 1) := by decide +kernel
theorem d_W_setProduct_65 : decode c_W_setProduct 65 = .ok (.getfield 15, 3) := by decide +kernel
theorem d_W_setProduct_68 : decode c_W_setProduct 68 = .ok (.iconst 0, 1) := by decide +kernel
theorem d_W_setProduct_69 : decode c_W_setProduct 69 = .ok (.invokestatic 37, 3) := by decide +kernel
theorem d_W_setProduct_72 : decode c_W_setProduct 72 = .ok (.iconst 0, 1) := by decide +kernel
theorem d_W_setProduct_73 : decode c_W_setProduct 73 = .ok (.istore_n 3, 1) := by decide +kernel
theorem d_W_setProduct_74 : decode c_W_setProduct 74 = .ok (.iload_n 3, 1) := by decide +kernel
theorem d_W_setProduct_75 : decode c_W_setProduct 75 = .ok (.aload_n 1, 1) := by decide +kernel
theorem d_W_setProduct_76 : decode c_W_setProduct 76 = .ok (.getfield 15, 3) := by decide +kernel
theorem d_W_setProduct_79 : decode c_W_setProduct 79 = .ok (.if_icmp .ge 103, 3) := by decide +kernel
theorem d_W_setProduct_82 : decode c_W_setProduct 82 = .ok (.aload_n 1, 1) := by decide +kernel
theorem d_W_setProduct_83 : decode c_W_setProduct 83 = .ok (.getfield 11, 3) := by decide +kernel
theorem d_W_setProduct_86 : decode c_W_setProduct 86 = .ok (.iload_n 3, 1) := by decide +kernel
theorem d_W_setProduct_87 : decode c_W_setProduct 87 = .ok (.iaload, 1) := by decide +kernel
theorem d_W_setProduct_88 : decode c_W_setProduct 88 = .ok (.i2l, 1) := by decide +kernel
theorem d_W_setProduct_89 : decode c_W_setProduct 89 = .ok (.lstore 4, 2) := by decide +kernel
theorem d_W_setProduct_91 : decode c_W_setProduct 91 = .ok (.lconst 0, 1) := by decide +kernel
theorem d_W_setProduct_92 : decode c_W_setProduct 92 = .ok (.lstore 6, 2) := by decide +kernel
theorem d_W_setProduct_94 : decode c_W_setProduct 94 = .ok (.iconst 0, 1) := by decide +kernel
theorem d_W_setProduct_95 : decode c_W_setProduct 95 = .ok (.istore 8, 2) := by decide +kernel
theorem d_W_setProduct_97 : decode c_W_setProduct 97 = .ok (.iload 8, 2) := by decide +kernel
theorem d_W_setProduct_99 : decode c_W_setProduct 99 = .ok (.aload_n 2, 1) := by decide +kernel
theorem d_W_setProduct_100 : decode c_W_setProduct 100 = .ok (.getfield 15, 3) := by decide +kernel
theorem d_W_setProduct_103 : decode c_W_setProduct 103 = .ok (.if_icmp .ge 59, 3) := by decide +kernel
theorem d_W_setProduct_106 : decode c_W_setProduct 106 = .ok (.lload 6, 2) := by decide +kernel
theorem d_W_setProduct_108 : decode c_W_setProduct 108 = .ok (.aload_n 0, 1) := by decide +kernel
theorem d_W_setProduct_109 : decode c_W_setProduct 109 = .ok (.getfield 11, 3) := by decide +kernel
theorem d_W_setProduct_112 : decode c_W_setProduct 112 = .ok (.iload_n 3, 1) := by decide +kernel
theorem d_W_setProduct_113 : decode c_W_setProduct 113 = .ok (.iload 8, 2) := by decide +kernel
theorem d_W_setProduct_115 : decode c_W_setProduct 115 = .ok (.iadd, 1) := by decide +kernel
theorem d_W_setProduct_116 : decode c_W_setProduct 116 = .ok (.iaload, 1) := by decide +kernel
theorem d_W_setProduct_117 : decode c_W_setProduct 117 = .ok (.i2l, 1) := by decide +kernel
theorem d_W_setProduct_118 : decode c_W_setProduct 118 = .ok (.lload 4, 2) := by decide +kernel
theorem d_W_setProduct_120 : decode c_W_setProduct 120 = .ok (.aload_n 2, 1) := by decide +kernel
theorem d_W_setProduct_121 : decode c_W_setProduct 121 = .ok (.getfield 11, 3) := by decide +kernel
theorem d_W_setProduct_124 : decode c_W_setProduct 124 = .ok (.iload 8, 2) := by decide +kernel
theorem d_W_setProduct_126 : decode c_W_setProduct 126 = .ok (.iaload, 1) := by decide +kernel
theorem d_W_setProduct_127 : decode c_W_setProduct 127 = .ok (.i2l, 1) := by decide +kernel
theorem d_W_setProduct_128 : decode c_W_setProduct 128 = .ok (.lmul, 1) := by decide +kernel
theorem d_W_setProduct_129 : decode c_W_setProduct 129 = .ok (.ladd, 1) := by decide +kernel
theorem d_W_setProduct_130 : decode c_W_setProduct 130 = .ok (.ladd, 1) := by decide +kernel
theorem d_W_setProduct_131 : decode c_W_setProduct 131 = .ok (.lstore 6, 2) := by decide +kernel
theorem d_W_setProduct_133 : decode c_W_setProduct 133 = .ok (.aload_n 0, 1) := by decide +kernel
theorem d_W_setProduct_134 : decode c_W_setProduct 134 = .ok (.getfield 11, 3) := by decide +kernel
theorem d_W_setProduct_137 : decode c_W_setProduct 137 = .ok (.iload_n 3, 1) := by decide +kernel
theorem d_W_setProduct_138 : decode c_W_setProduct 138 = .ok (.iload 8, 2) := by decide +kernel
theorem d_W_setProduct_140 : decode c_W_setProduct 140 = .ok (.iadd, 1) := by decide +kernel
theorem d_W_setProduct_141 : decode c_W_setProduct 141 = .ok (.lload 6, 2) := by decide +kernel
theorem d_W_setProduct_143 : decode c_W_setProduct 143 = .ok (.ldc2_w 43, 3) := by decide +kernel
theorem d_W_setProduct_146 : decode c_W_setProduct 146 = .ok (.land, 1) := by decide +kernel
theorem d_W_setProduct_147 : decode c_W_setProduct 147 = .ok (.l2i, 1) := by decide +kernel
theorem d_W_setProduct_148 : decode c_W_setProduct 148 = .ok (.iastore, 1) := by decide +kernel
theorem d_W_setProduct_149 : decode c_W_setProduct 149 = .ok (.lload 6, 2) := by decide +kernel
theorem d_W_setProduct_151 : decode c_W_setProduct 151 = .ok (.bipush 30, 2) := by decide +kernel
theorem d_W_setProduct_153 : decode c_W_setProduct 153 = .ok (.lshr, 1) := by decide +kernel
theorem d_W_setProduct_154 : decode c_W_setProduct 154 = .ok (.lstore 6, 2) := by decide +kernel
theorem d_W_setProduct_156 : decode c_W_setProduct 156 = .ok (.iinc 8 1, 3) := by decide +kernel
theorem d_W_setProduct_159 : decode c_W_setProduct 159 = .ok (.goto (-62), 3) := by decide +kernel
theorem d_W_setProduct_162 : decode c_W_setProduct 162 = .ok (.aload_n 0, 1) := by decide +kernel
theorem d_W_setProduct_163 : decode c_W_setProduct 163 = .ok (.getfield 11, 3) := by decide +kernel
theorem d_W_setProduct_166 : decode c_W_setProduct 166 = .ok (.iload_n 3, 1) := by decide +kernel
theorem d_W_setProduct_167 : decode c_W_setProduct 167 = .ok (.aload_n 2, 1) := by decide +kernel
theorem d_W_setProduct_168 : decode c_W_setProduct 168 = .ok (.getfield 15, 3) := by decide +kernel
theorem d_W_setProduct_171 : decode c_W_setProduct 171 = .ok (.iadd, 1) := by decide +kernel
theorem d_W_setProduct_172 : decode c_W_setProduct 172 = .ok (.lload 6, 2) := by decide +kernel
theorem d_W_setProduct_174 : decode c_W_setProduct 174 = .ok (.l2i, 1) := by decide +kernel
theorem d_W_setProduct_175 : decode c_W_setProduct 175 = .ok (.iastore, 1) := by decide +kernel
theorem d_W_setProduct_176 : decode c_W_setProduct 176 = .ok (.iinc 3 1, 3) := by decide +kernel
theorem d_W_setProduct_179 : decode c_W_setProduct 179 = .ok (.goto (-105), 3) := by decide +kernel
theorem d_W_setProduct_182 : decode c_W_setProduct 182 = .ok (.aload_n 0, 1) := by decide +kernel
theorem d_W_setProduct_183 : decode c_W_setProduct 183 = .ok (.invokevirtual 45, 3) := by decide +kernel
theorem d_W_setProduct_186 : decode c_W_setProduct 186 = .ok (.return_, 1) := by decide +kernel
theorem d_W_subtract_0 : decode c_W_subtract 0 = .ok (.aload_n 0, 1) := by decide +kernel
theorem d_W_subtract_1 : decode c_W_subtract 1 = .ok (.getfield 19, 3) := by decide +kernel
theorem d_W_subtract_4 : decode c_W_subtract 4 = .ok (.aload_n 1, 1) := by decide +kernel
theorem d_W_subtract_5 : decode c_W_subtract 5 = .ok (.getfield 19, 3) := by decide +kernel
theorem d_W_subtract_8 : decode c_W_subtract 8 = .ok (.imul, 1) := by decide +kernel
theorem d_W_subtract_9 : decode c_W_subtract 9 = .ok (.ifCond .ge 11, 3) := by decide +kernel
theorem d_W_subtract_12 : decode c_W_subtract 12 = .ok (.aload_n 0, 1) := by decide +kernel
theorem d_W_subtract_13 : decode c_W_subtract 13 = .ok (.aload_n 1, 1) := by decide +kernel
theorem d_W_subtract_14 : decode c_W_subtract 14 = .ok (.invokevirtual 48, 3) := by decide +kernel
theorem d_W_subtract_17 : decode c_W_subtract 17 = .ok (.goto 35, 3) := by decide +kernel
theorem d_W_subtract_20 : decode c_W_subtract 20 = .ok (.aload_n 0, 1) := by decide +kernel
theorem d_W_subtract_21 : decode c_W_subtract 21 = .ok (.aload_n 1, 1) := by decide +kernel
theorem d_W_subtract_22 : decode c_W_subtract 22 = .ok (.invokevirtual 52, 3) := by decide +kernel
theorem d_W_subtract_25 : decode c_W_subtract 25 = .ok (.ifCond .lt 12, 3) := by decide +kernel
theorem d_W_subtract_28 : decode c_W_subtract 28 = .ok (.aload_n 0, 1) := by decide +kernel
theorem d_W_subtract_29 : decode c_W_subtract 29 = .ok (.aload_n 0, 1) := by decide +kernel
theorem d_W_subtract_30 : decode c_W_subtract 30 = .ok (.aload_n 1, 1) := by decide +kernel
theorem d_W_subtract_31 : decode c_W_subtract 31 = .ok (.invokevirtual 56, 3) := by decide +kernel
theorem d_W_subtract_34 : decode c_W_subtract 34 = .ok (.goto 18, 3) := by decide +kernel
theorem d_W_subtract_37 : decode c_W_subtract 37 = .ok (.aload_n 0, 1) := by decide +kernel
theorem d_W_subtract_38 : decode c_W_subtract 38 = .ok (.aload_n 1, 1) := by decide +kernel
theorem d_W_subtract_39 : decode c_W_subtract 39 = .ok (.aload_n 0, 1) := by decide +kernel
theorem d_W_subtract_40 : decode c_W_subtract 40 = .ok (.invokevirtual 56, 3) := by decide +kernel
theorem d_W_subtract_43 : decode c_W_subtract 43 = .ok (.aload_n 0, 1) := by decide +kernel
theorem d_W_subtract_44 : decode c_W_subtract 44 = .ok (.aload_n 1, 1) := by decide +kernel
theorem d_W_subtract_45 : decode c_W_subtract 45 = .ok (.getfield 19, 3) := by decide +kernel
theorem d_W_subtract_48 : decode c_W_subtract 48 = .ok (.ineg, 1) := by decide +kernel
theorem d_W_subtract_49 : decode c_W_subtract 49 = .ok (.putfield 19, 3) := by decide +kernel
theorem d_W_subtract_52 : decode c_W_subtract 52 = .ok (.aload_n 0, 1) := by decide +kernel
theorem d_W_subtract_53 : decode c_W_subtract 53 = .ok (.invokevirtual 45, 3) := by decide +kernel
theorem d_W_subtract_56 : decode c_W_subtract 56 = .ok (.return_, 1) := by decide +kernel
theorem d_W_addSize_0 : decode c_W_addSize 0 = .ok (.aload_n 0, 1) := by decide +kernel
theorem d_W_addSize_1 : decode c_W_addSize 1 = .ok (.getfield 15, 3) := by decide +kernel
theorem d_W_addSize_4 : decode c_W_addSize 4 = .ok (.aload_n 1, 1) := by decide +kernel
theorem d_W_addSize_5 : decode c_W_addSize 5 = .ok (.getfield 15, 3) := by decide +kernel
theorem d_W_addSize_8 : decode c_W_addSize 8 = .ok (.invokestatic 84, 3) := by decide +kernel
theorem d_W_addSize_11 : decode c_W_addSize 11 = .ok (.bipush 11, 2) := by decide +kernel
theorem d_W_addSize_13 : decode c_W_addSize 13 = .ok (.invokestatic 86, 3) := by decide +kernel
theorem d_W_addSize_16 : decode c_W_addSize 16 = .ok (.istore_n 2, 1) := by decide +kernel
theorem d_W_addSize_17 : decode c_W_addSize 17 = .ok (.iconst 0, 1) := by decide +kernel
theorem d_W_addSize_18 : decode c_W_addSize 18 = .ok (.istore_n 3, 1) := by decide +kernel
theorem d_W_addSize_19 : decode c_W_addSize 19 = .ok (.iconst 0, 1) := by decide +kernel
theorem d_W_addSize_20 : decode c_W_addSize 20 = .ok (.istore 4, 2) := by decide +kernel
theorem d_W_addSize_22 : decode c_W_addSize 22 = .ok (.iload 4, 2) := by decide +kernel
theorem d_W_addSize_24 : decode c_W_addSize 24 = .ok (.iload_n 2, 1) := by decide +kernel
theorem d_W_addSize_25 : decode c_W_addSize 25 = .ok (.if_icmp .ge 41, 3) := by decide +kernel
theorem d_W_addSize_28 : decode c_W_addSize 28 = .ok (.iload_n 3, 1) := by decide +kernel
theorem d_W_addSize_29 : decode c_W_addSize 29 = .ok (.aload_n 0, 1) := by decide +kernel
theorem d_W_addSize_30 : decode c_W_addSize 30 = .ok (.iload 4, 2) := by decide +kernel
theorem d_W_addSize_32 : decode c_W_addSize 32 = .ok (.invokevirtual 88, 3) := by decide +kernel
theorem d_W_addSize_35 : decode c_W_addSize 35 = .ok (.aload_n 1, 1) := by decide +kernel
theorem d_W_addSize_36 : decode c_W_addSize 36 = .ok (.iload 4, 2) := by decide +kernel
theorem d_W_addSize_38 : decode c_W_addSize 38 = .ok (.invokevirtual 88, 3) := by decide +kernel
theorem d_W_addSize_41 : decode c_W_addSize 41 = .ok (.iadd, 1) := by decide +kernel
theorem d_W_addSize_42 : decode c_W_addSize 42 = .ok (.iadd, 1) := by decide +kernel
theorem d_W_addSize_43 : decode c_W_addSize 43 = .ok (.istore_n 3, 1) := by decide +kernel
theorem d_W_addSize_44 : decode c_W_addSize 44 = .ok (.aload_n 0, 1) := by decide +kernel
theorem d_W_addSize_45 : decode c_W_addSize 45 = .ok (.getfield 11, 3) := by decide +kernel
theorem d_W_addSize_48 : decode c_W_addSize 48 = .ok (.iload 4, 2) := by decide +kernel
theorem d_W_addSize_50 : decode c_W_addSize 50 = .ok (.iload_n 3, 1) := by decide +kernel
theorem d_W_addSize_51 : decode c_W_addSize 51 = .ok (.ldc 91, 2) := by decide +kernel
theorem d_W_addSize_53 : decode c_W_addSize 53 = .ok (.iand, 1) := by decide +kernel
theorem d_W_addSize_54 : decode c_W_addSize 54 = .ok (.iastore, 1) := by decide +kernel
theorem d_W_addSize_55 : decode c_W_addSize 55 = .ok (.iload_n 3, 1) := by decide +kernel
theorem d_W_addSize_56 : decode c_W_addSize 56 = .ok (.bipush 30, 2) := by decide +kernel
theorem d_W_addSize_58 : decode c_W_addSize 58 = .ok (.ishr, 1) := by decide +kernel
theorem d_W_addSize_59 : decode c_W_addSize 59 = .ok (.istore_n 3, 1) := by decide +kernel
theorem d_W_addSize_60 : decode c_W_addSize 60 = .ok (.iinc 4 1, 3) := by decide +kernel
theorem d_W_addSize_63 : decode c_W_addSize 63 = .ok (.goto (-41), 3) := by decide +kernel
theorem d_W_addSize_66 : decode c_W_addSize 66 = .ok (.aload_n 0, 1) := by decide +kernel
theorem d_W_addSize_67 : decode c_W_addSize 67 = .ok (.getfield 11, 3) := by decide +kernel
theorem d_W_addSize_70 : decode c_W_addSize 70 = .ok (.iload_n 2, 1) := by decide +kernel
theorem d_W_addSize_71 : decode c_W_addSize 71 = .ok (.iload_n 3, 1) := by decide +kernel
theorem d_W_addSize_72 : decode c_W_addSize 72 = .ok (.iastore, 1) := by decide +kernel
theorem d_W_addSize_73 : decode c_W_addSize 73 = .ok (.aload_n 0, 1) := by decide +kernel
theorem d_W_addSize_74 : decode c_W_addSize 74 = .ok (.iload_n 2, 1) := by decide +kernel
theorem d_W_addSize_75 : decode c_W_addSize 75 = .ok (.iconst 1, 1) := by decide +kernel
theorem d_W_addSize_76 : decode c_W_addSize 76 = .ok (.iadd, 1) := by decide +kernel
theorem d_W_addSize_77 : decode c_W_addSize 77 = .ok (.putfield 15, 3) := by decide +kernel
theorem d_W_addSize_80 : decode c_W_addSize 80 = .ok (.return_, 1) := by decide +kernel
theorem d_W_limbAt_0 : decode c_W_limbAt 0 = .ok (.iload_n 1, 1) := by decide +kernel
theorem d_W_limbAt_1 : decode c_W_limbAt 1 = .ok (.aload_n 0, 1) := by decide +kernel
theorem d_W_limbAt_2 : decode c_W_limbAt 2 = .ok (.getfield 15, 3) := by decide +kernel
theorem d_W_limbAt_5 : decode c_W_limbAt 5 = .ok (.if_icmp .ge 12, 3) := by decide +kernel
theorem d_W_limbAt_8 : decode c_W_limbAt 8 = .ok (.aload_n 0, 1) := by decide +kernel
theorem d_W_limbAt_9 : decode c_W_limbAt 9 = .ok (.getfield 11, 3) := by decide +kernel
theorem d_W_limbAt_12 : decode c_W_limbAt 12 = .ok (.iload_n 1, 1) := by decide +kernel
theorem d_W_limbAt_13 : decode c_W_limbAt 13 = .ok (.iaload, 1) := by decide +kernel
theorem d_W_limbAt_14 : decode c_W_limbAt 14 = .ok (.goto 4, 3) := by decide +kernel
theorem d_W_limbAt_17 : decode c_W_limbAt 17 = .ok (.iconst 0, 1) := by decide +kernel
theorem d_W_limbAt_18 : decode c_W_limbAt 18 = .ok (.ireturn, 1) := by decide +kernel
theorem d_W_compareSize_0 : decode c_W_compareSize 0 = .ok (.aload_n 0, 1) := by decide +kernel
theorem d_W_compareSize_1 : decode c_W_compareSize 1 = .ok (.getfield 15, 3) := by decide +kernel
theorem d_W_compareSize_4 : decode c_W_compareSize 4 = .ok (.aload_n 1, 1) := by decide +kernel
theorem d_W_compareSize_5 : decode c_W_compareSize 5 = .ok (.getfield 15, 3) := by decide +kernel
theorem d_W_compareSize_8 : decode c_W_compareSize 8 = .ok (.if_icmp .eq 15, 3) := by decide +kernel
theorem d_W_compareSize_11 : decode c_W_compareSize 11 = .ok (.aload_n 0, 1) := by decide +kernel
theorem d_W_compareSize_12 : decode c_W_compareSize 12 = .ok (.getfield 15, 3) := by decide +kernel
theorem d_W_compareSize_15 : decode c_W_compareSize 15 = .ok (.aload_n 1, 1) := by decide +kernel
theorem d_W_compareSize_16 : decode c_W_compareSize 16 = .ok (.getfield 15, 3) := by decide +kernel
theorem d_W_compareSize_19 : decode c_W_compareSize 19 = .ok (.invokestatic 80, 3) := by decide +kernel
theorem d_W_compareSize_22 : decode c_W_compareSize 22 = .ok (.ireturn, 1) := by decide +kernel
theorem d_W_compareSize_23 : decode c_W_compareSize 23 = .ok (.aload_n 0, 1) := by decide +kernel
theorem d_W_compareSize_24 : decode c_W_compareSize 24 = .ok (.getfield 15, 3) := by decide +kernel
theorem d_W_compareSize_27 : decode c_W_compareSize 27 = .ok (.iconst 1, 1) := by decide +kernel
theorem d_W_compareSize_28 : decode c_W_compareSize 28 = .ok (.isub, 1) := by decide +kernel
theorem d_W_compareSize_29 : decode c_W_compareSize 29 = .ok (.istore_n 2, 1) := by decide +kernel
theorem d_W_compareSize_30 : decode c_W_compareSize 30 = .ok (.iload_n 2, 1) := by decide +kernel
theorem d_W_compareSize_31 : decode c_W_compareSize 31 = .ok (.ifCond .lt 40, 3) := by decide +kernel
theorem d_W_compareSize_34 : decode c_W_compareSize 34 = .ok (.aload_n 0, 1) := by decide +kernel
theorem d_W_compareSize_35 : decode c_W_compareSize 35 = .ok (.getfield 11, 3) := by decide +kernel
theorem d_W_compareSize_38 : decode c_W_compareSize 38 = .ok (.iload_n 2, 1) := by decide +kernel
theorem d_W_compareSize_39 : decode c_W_compareSize 39 = .ok (.iaload, 1) := by decide +kernel
theorem d_W_compareSize_40 : decode c_W_compareSize 40 = .ok (.aload_n 1, 1) := by decide +kernel
theorem d_W_compareSize_41 : decode c_W_compareSize 41 = .ok (.getfield 11, 3) := by decide +kernel
theorem d_W_compareSize_44 : decode c_W_compareSize 44 = .ok (.iload_n 2, 1) := by decide +kernel
theorem d_W_compareSize_45 : decode c_W_compareSize 45 = .ok (.iaload, 1) := by decide +kernel
theorem d_W_compareSize_46 : decode c_W_compareSize 46 = .ok (.if_icmp .eq 19, 3) := by decide +kernel
theorem d_W_compareSize_49 : decode c_W_compareSize 49 = .ok (.aload_n 0, 1) := by decide +kernel
theorem d_W_compareSize_50 : decode c_W_compareSize 50 = .ok (.getfield 11, 3) := by decide +kernel
theorem d_W_compareSize_53 : decode c_W_compareSize 53 = .ok (.iload_n 2, 1) := by decide +kernel
theorem d_W_compareSize_54 : decode c_W_compareSize 54 = .ok (.iaload, 1) := by decide +kernel
theorem d_W_compareSize_55 : decode c_W_compareSize 55 = .ok (.aload_n 1, 1) := by decide +kernel
theorem d_W_compareSize_56 : decode c_W_compareSize 56 = .ok (.getfield 11, 3) := by decide +kernel
theorem d_W_compareSize_59 : decode c_W_compareSize 59 = .ok (.iload_n 2, 1) := by decide +kernel
theorem d_W_compareSize_60 : decode c_W_compareSize 60 = .ok (.iaload, 1) := by decide +kernel
theorem d_W_compareSize_61 : decode c_W_compareSize 61 = .ok (.invokestatic 80, 3) := by decide +kernel
theorem d_W_compareSize_64 : decode c_W_compareSize 64 = .ok (.ireturn, 1) := by decide +kernel
theorem d_W_compareSize_65 : decode c_W_compareSize 65 = .ok (.iinc 2 (-1), 3) := by decide +kernel
theorem d_W_compareSize_68 : decode c_W_compareSize 68 = .ok (.goto (-38), 3) := by decide +kernel
theorem d_W_compareSize_71 : decode c_W_compareSize 71 = .ok (.iconst 0, 1) := by decide +kernel
theorem d_W_compareSize_72 : decode c_W_compareSize 72 = .ok (.ireturn, 1) := by decide +kernel
theorem d_W_setDifference_0 : decode c_W_setDifference 0 = .ok (.iconst 0, 1) := by decide +kernel
theorem d_W_setDifference_1 : decode c_W_setDifference 1 = .ok (.istore_n 3, 1) := by decide +kernel
theorem d_W_setDifference_2 : decode c_W_setDifference 2 = .ok (.iconst 0, 1) := by decide +kernel
theorem d_W_setDifference_3 : decode c_W_setDifference 3 = .ok (.istore 4, 2) := by decide +kernel
theorem d_W_setDifference_5 : decode c_W_setDifference 5 = .ok (.iload 4, 2) := by decide +kernel
theorem d_W_setDifference_7 : decode c_W_setDifference 7 = .ok (.aload_n 1, 1) := by decide +kernel
theorem d_W_setDifference_8 : decode c_W_setDifference 8 = .ok (.getfield 15, 3) := by decide +kernel
theorem d_W_setDifference_11 : decode c_W_setDifference 11 = .ok (.if_icmp .ge 42, 3) := by decide +kernel
theorem d_W_setDifference_14 : decode c_W_setDifference 14 = .ok (.iload_n 3, 1) := by decide +kernel
theorem d_W_setDifference_15 : decode c_W_setDifference 15 = .ok (.aload_n 1, 1) := by decide +kernel
theorem d_W_setDifference_16 : decode c_W_setDifference 16 = .ok (.getfield 11, 3) := by decide +kernel
theorem d_W_setDifference_19 : decode c_W_setDifference 19 = .ok (.iload 4, 2) := by decide +kernel
theorem d_W_setDifference_21 : decode c_W_setDifference 21 = .ok (.iaload, 1) := by decide +kernel
theorem d_W_setDifference_22 : decode c_W_setDifference 22 = .ok (.aload_n 2, 1) := by decide +kernel
theorem d_W_setDifference_23 : decode c_W_setDifference 23 = .ok (.iload 4, 2) := by decide +kernel
theorem d_W_setDifference_25 : decode c_W_setDifference 25 = .ok (.invokevirtual 88, 3) := by decide +kernel
theorem d_W_setDifference_28 : decode c_W_setDifference 28 = .ok (.isub, 1) := by decide +kernel
theorem d_W_setDifference_29 : decode c_W_setDifference 29 = .ok (.iadd, 1) := by decide +kernel
theorem d_W_setDifference_30 : decode c_W_setDifference 30 = .ok (.istore_n 3, 1) := by decide +kernel
theorem d_W_setDifference_31 : decode c_W_setDifference 31 = .ok (.aload_n 0, 1) := by decide +kernel
theorem d_W_setDifference_32 : decode c_W_setDifference 32 = .ok (.getfield 11, 3) := by decide +kernel
theorem d_W_setDifference_35 : decode c_W_setDifference 35 = .ok (.iload 4, 2) := by decide +kernel
theorem d_W_setDifference_37 : decode c_W_setDifference 37 = .ok (.iload_n 3, 1) := by decide +kernel
theorem d_W_setDifference_38 : decode c_W_setDifference 38 = .ok (.ldc 91, 2) := by decide +kernel
theorem d_W_setDifference_40 : decode c_W_setDifference 40 = .ok (.iand, 1) := by decide +kernel
theorem d_W_setDifference_41 : decode c_W_setDifference 41 = .ok (.iastore, 1) := by decide +kernel
theorem d_W_setDifference_42 : decode c_W_setDifference 42 = .ok (.iload_n 3, 1) := by decide +kernel
theorem d_W_setDifference_43 : decode c_W_setDifference 43 = .ok (.bipush 30, 2) := by decide +kernel
theorem d_W_setDifference_45 : decode c_W_setDifference 45 = .ok (.ishr, 1) := by decide +kernel
theorem d_W_setDifference_46 : decode c_W_setDifference 46 = .ok (.istore_n 3, 1) := by decide +kernel
theorem d_W_setDifference_47 : decode c_W_setDifference 47 = .ok (.iinc 4 1, 3) := by decide +kernel
theorem d_W_setDifference_50 : decode c_W_setDifference 50 = .ok (.goto (-45), 3) := by decide +kernel
theorem d_W_setDifference_53 : decode c_W_setDifference 53 = .ok (.aload_n 0, 1) := by decide +kernel
theorem d_W_setDifference_54 : decode c_W_setDifference 54 = .ok (.aload_n 1, 1) := by decide +kernel
theorem d_W_setDifference_55 : decode c_W_setDifference 55 = .ok (.getfield 15, 3) := by decide +kernel
theorem d_W_setDifference_58 : decode c_W_setDifference 58 = .ok (.putfield 15, 3) := by decide +kernel
theorem d_W_setDifference_61 : decode c_W_setDifference 61 = .ok (.return_, 1) := by decide +kernel
theorem d_T_hasPlace_0 : decode c_T_hasPlace 0 = .ok (.iconst 0, 1) := by decide +kernel
theorem d_T_hasPlace_1 : decode c_T_hasPlace 1 = .ok (.istore_n 2, 1) := by decide +kernel
theorem d_T_hasPlace_2 : decode c_T_hasPlace 2 = .ok (.iload_n 2, 1) := by decide +kernel
theorem d_T_hasPlace_3 : decode c_T_hasPlace 3 = .ok (.aload_n 0, 1) := by decide +kernel
theorem d_T_hasPlace_4 : decode c_T_hasPlace 4 = .ok (.getfield 28, 3) := by decide +kernel
theorem d_T_hasPlace_7 : decode c_T_hasPlace 7 = .ok (.if_icmp .ge 21, 3) := by decide +kernel
theorem d_T_hasPlace_10 : decode c_T_hasPlace 10 = .ok (.aload_n 0, 1) := by decide +kernel
theorem d_T_hasPlace_11 : decode c_T_hasPlace 11 = .ok (.getfield 15, 3) := by decide +kernel
theorem d_T_hasPlace_14 : decode c_T_hasPlace 14 = .ok (.iload_n 2, 1) := by decide +kernel
theorem d_T_hasPlace_15 : decode c_T_hasPlace 15 = .ok (.iaload, 1) := by decide +kernel
theorem d_T_hasPlace_16 : decode c_T_hasPlace 16 = .ok (.iload_n 1, 1) := by decide +kernel
theorem d_T_hasPlace_17 : decode c_T_hasPlace 17 = .ok (.if_icmp .ne 5, 3) := by decide +kernel
theorem d_T_hasPlace_20 : decode c_T_hasPlace 20 = .ok (.iconst 1, 1) := by decide +kernel
theorem d_T_hasPlace_21 : decode c_T_hasPlace 21 = .ok (.ireturn, 1) := by decide +kernel
theorem d_T_hasPlace_22 : decode c_T_hasPlace 22 = .ok (.iinc 2 1, 3) := by decide +kernel
theorem d_T_hasPlace_25 : decode c_T_hasPlace 25 = .ok (.goto (-23), 3) := by decide +kernel
theorem d_T_hasPlace_28 : decode c_T_hasPlace 28 = .ok (.iconst 0, 1) := by decide +kernel
theorem d_T_hasPlace_29 : decode c_T_hasPlace 29 = .ok (.ireturn, 1) := by decide +kernel
theorem d_W_negate_0 : decode c_W_negate 0 = .ok (.aload_n 0, 1) := by decide +kernel
theorem d_W_negate_1 : decode c_W_negate 1 = .ok (.aload_n 0, 1) := by decide +kernel
theorem d_W_negate_2 : decode c_W_negate 2 = .ok (.getfield 19, 3) := by decide +kernel
theorem d_W_negate_5 : decode c_W_negate 5 = .ok (.ineg, 1) := by decide +kernel
theorem d_W_negate_6 : decode c_W_negate 6 = .ok (.putfield 19, 3) := by decide +kernel
theorem d_W_negate_9 : decode c_W_negate 9 = .ok (.return_, 1) := by decide +kernel
theorem d_T_copyNumbers_0 : decode c_T_copyNumbers 0 = .ok (.iconst 0, 1) := by decide +kernel
theorem d_T_copyNumbers_1 : decode c_T_copyNumbers 1 = .ok (.istore 4, 2) := by decide +kernel
theorem d_T_copyNumbers_3 : decode c_T_copyNumbers 3 = .ok (.iload 4, 2) := by decide +kernel
theorem d_T_copyNumbers_5 : decode c_T_copyNumbers 5 = .ok (.aload_n 1, 1) := by decide +kernel
theorem d_T_copyNumbers_6 : decode c_T_copyNumbers 6 = .ok (.getfield 28, 3) := by decide +kernel
theorem d_T_copyNumbers_9 : decode c_T_copyNumbers 9 = .ok (.if_icmp .ge 44, 3) := by decide +kernel
theorem d_T_copyNumbers_12 : decode c_T_copyNumbers 12 = .ok (.aload_n 0, 1) := by decide +kernel
theorem d_T_copyNumbers_13 : decode c_T_copyNumbers 13 = .ok (.getfield 21, 3) := by decide +kernel
theorem d_T_copyNumbers_16 : decode c_T_copyNumbers 16 = .ok (.iload_n 2, 1) := by decide +kernel
theorem d_T_copyNumbers_17 : decode c_T_copyNumbers 17 = .ok (.iload 4, 2) := by decide +kernel
theorem d_T_copyNumbers_19 : decode c_T_copyNumbers 19 = .ok (.iadd, 1) := by decide +kernel
theorem d_T_copyNumbers_20 : decode c_T_copyNumbers 20 = .ok (.aaload, 1) := by decide +kernel
theorem d_T_copyNumbers_21 : decode c_T_copyNumbers 21 = .ok (.astore 5, 2) := by decide +kernel
theorem d_T_copyNumbers_23 : decode c_T_copyNumbers 23 = .ok (.aload_n 1, 1) := by decide +kernel
theorem d_T_copyNumbers_24 : decode c_T_copyNumbers 24 = .ok (.getfield 21, 3) := by decide +kernel
theorem d_T_copyNumbers_27 : decode c_T_copyNumbers 27 = .ok (.iload 4, 2) := by decide +kernel
theorem d_T_copyNumbers_29 : decode c_T_copyNumbers 29 = .ok (.aaload, 1) := by decide +kernel
theorem d_T_copyNumbers_30 : decode c_T_copyNumbers 30 = .ok (.iconst 0, 1) := by decide +kernel
theorem d_T_copyNumbers_31 : decode c_T_copyNumbers 31 = .ok (.aload 5, 2) := by decide +kernel
theorem d_T_copyNumbers_33 : decode c_T_copyNumbers 33 = .ok (.iload_n 3, 1) := by decide +kernel
theorem d_T_copyNumbers_34 : decode c_T_copyNumbers 34 = .ok (.bipush 6, 2) := by decide +kernel
theorem d_T_copyNumbers_36 : decode c_T_copyNumbers 36 = .ok (.imul, 1) := by decide +kernel
theorem d_T_copyNumbers_37 : decode c_T_copyNumbers 37 = .ok (.aload_n 1, 1) := by decide +kernel
theorem d_T_copyNumbers_38 : decode c_T_copyNumbers 38 = .ok (.getfield 31, 3) := by decide +kernel
theorem d_T_copyNumbers_41 : decode c_T_copyNumbers 41 = .ok (.bipush 6, 2) := by decide +kernel
theorem d_T_copyNumbers_43 : decode c_T_copyNumbers 43 = .ok (.imul, 1) := by decide +kernel
theorem d_T_copyNumbers_44 : decode c_T_copyNumbers 44 = .ok (.invokestatic 69, 3) := by decide +kernel
theorem d_T_copyNumbers_47 : decode c_T_copyNumbers 47 = .ok (.iinc 4 1, 3) := by decide +kernel
theorem d_T_copyNumbers_50 : decode c_T_copyNumbers 50 = .ok (.goto (-47), 3) := by decide +kernel
theorem d_T_copyNumbers_53 : decode c_T_copyNumbers 53 = .ok (.return_, 1) := by decide +kernel
theorem d_T_dropFirstRows_0 : decode c_T_dropFirstRows 0 = .ok (.aload_n 0, 1) := by decide +kernel
theorem d_T_dropFirstRows_1 : decode c_T_dropFirstRows 1 = .ok (.dup, 1) := by decide +kernel
theorem d_T_dropFirstRows_2 : decode c_T_dropFirstRows 2 = .ok (.getfield 28, 3) := by decide +kernel
theorem d_T_dropFirstRows_5 : decode c_T_dropFirstRows 5 = .ok (.iload_n 1, 1) := by decide +kernel
theorem d_T_dropFirstRows_6 : decode c_T_dropFirstRows 6 = .ok (.isub, 1) := by decide +kernel
theorem d_T_dropFirstRows_7 : decode c_T_dropFirstRows 7 = .ok (.putfield 28, 3) := by decide +kernel
theorem d_T_dropFirstRows_10 : decode c_T_dropFirstRows 10 = .ok (.iconst 0, 1) := by decide +kernel
theorem d_T_dropFirstRows_11 : decode c_T_dropFirstRows 11 = .ok (.istore_n 2, 1) := by decide +kernel
theorem d_T_dropFirstRows_12 : decode c_T_dropFirstRows 12 = .ok (.iload_n 2, 1) := by decide +kernel
theorem d_T_dropFirstRows_13 : decode c_T_dropFirstRows 13 = .ok (.aload_n 0, 1) := by decide +kernel
theorem d_T_dropFirstRows_14 : decode c_T_dropFirstRows 14 = .ok (.getfield 28, 3) := by decide +kernel
theorem d_T_dropFirstRows_17 : decode c_T_dropFirstRows 17 = .ok (.if_icmp .ge 17, 3) := by decide +kernel
theorem d_T_dropFirstRows_20 : decode c_T_dropFirstRows 20 = .ok (.aload_n 0, 1) := by decide +kernel
theorem d_T_dropFirstRows_21 : decode c_T_dropFirstRows 21 = .ok (.iload_n 2, 1) := by decide +kernel
theorem d_T_dropFirstRows_22 : decode c_T_dropFirstRows 22 = .ok (.iload_n 2, 1) := by decide +kernel
theorem d_T_dropFirstRows_23 : decode c_T_dropFirstRows 23 = .ok (.iload_n 1, 1) := by decide +kernel
theorem d_T_dropFirstRows_24 : decode c_T_dropFirstRows 24 = .ok (.iadd, 1) := by decide +kernel
theorem d_T_dropFirstRows_25 : decode c_T_dropFirstRows 25 = .ok (.invokevirtual 79, 3) := by decide +kernel
theorem d_T_dropFirstRows_28 : decode c_T_dropFirstRows 28 = .ok (.iinc 2 1, 3) := by decide +kernel
theorem d_T_dropFirstRows_31 : decode c_T_dropFirstRows 31 = .ok (.goto (-19), 3) := by decide +kernel
theorem d_T_dropFirstRows_34 : decode c_T_dropFirstRows 34 = .ok (.return_, 1) := by decide +kernel
theorem d_T_dropColumns_0 : decode c_T_dropColumns 0 = .ok (.iconst 0, 1) := by decide +kernel
theorem d_T_dropColumns_1 : decode c_T_dropColumns 1 = .ok (.istore_n 2, 1) := by decide +kernel
theorem d_T_dropColumns_2 : decode c_T_dropColumns 2 = .ok (.iconst 0, 1) := by decide +kernel
theorem d_T_dropColumns_3 : decode c_T_dropColumns 3 = .ok (.istore_n 3, 1) := by decide +kernel
theorem d_T_dropColumns_4 : decode c_T_dropColumns 4 = .ok (.iload_n 3, 1) := by decide +kernel
theorem d_T_dropColumns_5 : decode c_T_dropColumns 5 = .ok (.aload_n 0, 1) := by decide +kernel
theorem d_T_dropColumns_6 : decode c_T_dropColumns 6 = .ok (.getfield 31, 3) := by decide +kernel
theorem d_T_dropColumns_9 : decode c_T_dropColumns 9 = .ok (.if_icmp .ge 64, 3) := by decide +kernel
theorem d_T_dropColumns_12 : decode c_T_dropColumns 12 = .ok (.iload_n 1, 1) := by decide +kernel
theorem d_T_dropColumns_13 : decode c_T_dropColumns 13 = .ok (.iload_n 3, 1) := by decide +kernel
theorem d_T_dropColumns_14 : decode c_T_dropColumns 14 = .ok (.ishr, 1) := by decide +kernel
theorem d_T_dropColumns_15 : decode c_T_dropColumns 15 = .ok (.iconst 1, 1) := by decide +kernel
theorem d_T_dropColumns_16 : decode c_T_dropColumns 16 = .ok (.iand, 1) := by decide +kernel
theorem d_T_dropColumns_17 : decode c_T_dropColumns 17 = .ok (.ifCond .ne 50, 3) := by decide +kernel
theorem d_T_dropColumns_20 : decode c_T_dropColumns 20 = .ok (.iconst 0, 1) := by decide +kernel
theorem d_T_dropColumns_21 : decode c_T_dropColumns 21 = .ok (.istore 4, 2) := by decide +kernel
theorem d_T_dropColumns_23 : decode c_T_dropColumns 23 = .ok (.iload 4, 2) := by decide +kernel
theorem d_T_dropColumns_25 : decode c_T_dropColumns 25 = .ok (.aload_n 0, 1) := by decide +kernel
theorem d_T_dropColumns_26 : decode c_T_dropColumns 26 = .ok (.getfield 28, 3) := by decide +kernel
theorem d_T_dropColumns_29 : decode c_T_dropColumns 29 = .ok (.if_icmp .ge 35, 3) := by decide +kernel
theorem d_T_dropColumns_32 : decode c_T_dropColumns 32 = .ok (.aload_n 0, 1) := by decide +kernel
theorem d_T_dropColumns_33 : decode c_T_dropColumns 33 = .ok (.getfield 21, 3) := by decide +kernel
theorem d_T_dropColumns_36 : decode c_T_dropColumns 36 = .ok (.iload 4, 2) := by decide +kernel
theorem d_T_dropColumns_38 : decode c_T_dropColumns 38 = .ok (.aaload, 1) := by decide +kernel
theorem d_T_dropColumns_39 : decode c_T_dropColumns 39 = .ok (.astore 5, 2) := by decide +kernel
theorem d_T_dropColumns_41 : decode c_T_dropColumns 41 = .ok (.aload 5, 2) := by decide +kernel
theorem d_T_dropColumns_43 : decode c_T_dropColumns 43 = .ok (.iload_n 3, 1) := by decide +kernel
theorem d_T_dropColumns_44 : decode c_T_dropColumns 44 = .ok (.bipush 6, 2) := by decide +kernel
theorem d_T_dropColumns_46 : decode c_T_dropColumns 46 = .ok (.imul, 1) := by decide +kernel
theorem d_T_dropColumns_47 : decode c_T_dropColumns 47 = .ok (.aload 5, 2) := by decide +kernel
theorem d_T_dropColumns_49 : decode c_T_dropColumns 49 = .ok (.iload_n 2, 1) := by decide +kernel
theorem d_T_dropColumns_50 : decode c_T_dropColumns 50 = .ok (.bipush 6, 2) := by decide +kernel
theorem d_T_dropColumns_52 : decode c_T_dropColumns 52 = .ok (.imul, 1) := by decide +kernel
theorem d_T_dropColumns_53 : decode c_T_dropColumns 53 = .ok (.bipush 6, 2) := by decide +kernel
theorem d_T_dropColumns_55 : decode c_T_dropColumns 55 = .ok (.invokestatic 69, 3) := by decide +kernel
theorem d_T_dropColumns_58 : decode c_T_dropColumns 58 = .ok (.iinc 4 1, 3) := by decide +kernel
theorem d_T_dropColumns_61 : decode c_T_dropColumns 61 = .ok (.goto (-38), 3) := by decide +kernel
theorem d_T_dropColumns_64 : decode c_T_dropColumns 64 = .ok (.iinc 2 1, 3) := by decide +kernel
theorem d_T_dropColumns_67 : decode c_T_dropColumns 67 = .ok (.iinc 3 1, 3) := by decide +kernel
theorem d_T_dropColumns_70 : decode c_T_dropColumns 70 = .ok (.goto (-66), 3) := by decide +kernel
theorem d_T_dropColumns_73 : decode c_T_dropColumns 73 = .ok (.aload_n 0, 1) := by decide +kernel
theorem d_T_dropColumns_74 : decode c_T_dropColumns 74 = .ok (.iload_n 2, 1) := by decide +kernel
theorem d_T_dropColumns_75 : decode c_T_dropColumns 75 = .ok (.putfield 31, 3) := by decide +kernel
theorem d_T_dropColumns_78 : decode c_T_dropColumns 78 = .ok (.return_, 1) := by decide +kernel
theorem d_T_toldDigit_0 : decode c_T_toldDigit 0 = .ok (.aload_n 0, 1) := by decide +kernel
theorem d_T_toldDigit_1 : decode c_T_toldDigit 1 = .ok (.iload_n 1, 1) := by decide +kernel
theorem d_T_toldDigit_2 : decode c_T_toldDigit 2 = .ok (.iload_n 2, 1) := by decide +kernel
theorem d_T_toldDigit_3 : decode c_T_toldDigit 3 = .ok (.invokevirtual 44, 3) := by decide +kernel
theorem d_T_toldDigit_6 : decode c_T_toldDigit 6 = .ok (.invokestatic 54, 3) := by decide +kernel
theorem d_T_toldDigit_9 : decode c_T_toldDigit 9 = .ok (.istore 4, 2) := by decide +kernel
theorem d_T_toldDigit_11 : decode c_T_toldDigit 11 = .ok (.iload_n 3, 1) := by decide +kernel
theorem d_T_toldDigit_12 : decode c_T_toldDigit 12 = .ok (.iload 4, 2) := by decide +kernel
theorem d_T_toldDigit_14 : decode c_T_toldDigit 14 = .ok (.bipush 30, 2) := by decide +kernel
theorem d_T_toldDigit_16 : decode c_T_toldDigit 16 = .ok (.imul, 1) := by decide +kernel
theorem d_T_toldDigit_17 : decode c_T_toldDigit 17 = .ok (.bipush 16, 2) := by decide +kernel
theorem d_T_toldDigit_19 : decode c_T_toldDigit 19 = .ok (.idiv, 1) := by decide +kernel
theorem d_T_toldDigit_20 : decode c_T_toldDigit 20 = .ok (.if_icmp .le 5, 3) := by decide +kernel
theorem d_T_toldDigit_23 : decode c_T_toldDigit 23 = .ok (.iconst 0, 1) := by decide +kernel
theorem d_T_toldDigit_24 : decode c_T_toldDigit 24 = .ok (.ireturn, 1) := by decide +kernel
theorem d_T_toldDigit_25 : decode c_T_toldDigit 25 = .ok (.iload_n 3, 1) := by decide +kernel
theorem d_T_toldDigit_26 : decode c_T_toldDigit 26 = .ok (.bipush 16, 2) := by decide +kernel
theorem d_T_toldDigit_28 : decode c_T_toldDigit 28 = .ok (.imul, 1) := by decide +kernel
theorem d_T_toldDigit_29 : decode c_T_toldDigit 29 = .ok (.bipush 30, 2) := by decide +kernel
theorem d_T_toldDigit_31 : decode c_T_toldDigit 31 = .ok (.idiv, 1) := by decide +kernel
theorem d_T_toldDigit_32 : decode c_T_toldDigit 32 = .ok (.istore 5, 2) := by decide +kernel
theorem d_T_toldDigit_34 : decode c_T_toldDigit 34 = .ok (.iload_n 3, 1) := by decide +kernel
theorem d_T_toldDigit_35 : decode c_T_toldDigit 35 = .ok (.bipush 16, 2) := by decide +kernel
theorem d_T_toldDigit_37 : decode c_T_toldDigit 37 = .ok (.imul, 1) := by decide +kernel
theorem d_T_toldDigit_38 : decode c_T_toldDigit 38 = .ok (.bipush 30, 2) := by decide +kernel
theorem d_T_toldDigit_40 : decode c_T_toldDigit 40 = .ok (.irem, 1) := by decide +kernel
theorem d_T_toldDigit_41 : decode c_T_toldDigit 41 = .ok (.istore 6, 2) := by decide +kernel
theorem d_T_toldDigit_43 : decode c_T_toldDigit 43 = .ok (.iload_n 2, 1) := by decide +kernel
theorem d_T_toldDigit_44 : decode c_T_toldDigit 44 = .ok (.bipush 6, 2) := by decide +kernel
theorem d_T_toldDigit_46 : decode c_T_toldDigit 46 = .ok (.imul, 1) := by decide +kernel
theorem d_T_toldDigit_47 : decode c_T_toldDigit 47 = .ok (.iconst 1, 1) := by decide +kernel
theorem d_T_toldDigit_48 : decode c_T_toldDigit 48 = .ok (.iadd, 1) := by decide +kernel
theorem d_T_toldDigit_49 : decode c_T_toldDigit 49 = .ok (.istore 7, 2) := by decide +kernel
theorem d_T_toldDigit_51 : decode c_T_toldDigit 51 = .ok (.iload 5, 2) := by decide +kernel
theorem d_T_toldDigit_53 : decode c_T_toldDigit 53 = .ok (.iload 4, 2) := by decide +kernel
theorem d_T_toldDigit_55 : decode c_T_toldDigit 55 = .ok (.if_icmp .ge 19, 3) := by decide +kernel
theorem d_T_toldDigit_58 : decode c_T_toldDigit 58 = .ok (.aload_n 0, 1) := by decide +kernel
theorem d_T_toldDigit_59 : decode c_T_toldDigit 59 = .ok (.getfield 21, 3) := by decide +kernel
theorem d_T_toldDigit_62 : decode c_T_toldDigit 62 = .ok (.iload_n 1, 1) := by decide +kernel
theorem d_T_toldDigit_63 : decode c_T_toldDigit 63 = .ok (.aaload, 1) := by decide +kernel
theorem d_T_toldDigit_64 : decode c_T_toldDigit 64 = .ok (.iload 7, 2) := by decide +kernel
theorem d_T_toldDigit_66 : decode c_T_toldDigit 66 = .ok (.iload 5, 2) := by decide +kernel
theorem d_T_toldDigit_68 : decode c_T_toldDigit 68 = .ok (.iadd, 1) := by decide +kernel
theorem d_T_toldDigit_69 : decode c_T_toldDigit 69 = .ok (.iaload, 1) := by decide +kernel
theorem d_T_toldDigit_70 : decode c_T_toldDigit 70 = .ok (.i2l, 1) := by decide +kernel
theorem d_T_toldDigit_71 : decode c_T_toldDigit 71 = .ok (.goto 4, 3) := by decide +kernel
theorem d_T_toldDigit_74 : decode c_T_toldDigit 74 = .ok (.lconst 0, 1) := by decide +kernel
theorem d_T_toldDigit_75 : decode c_T_toldDigit 75 = .ok (.lstore 8, 2) := by decide +kernel
theorem d_T_toldDigit_77 : decode c_T_toldDigit 77 = .ok (.iload 5, 2) := by decide +kernel
theorem d_T_toldDigit_79 : decode c_T_toldDigit 79 = .ok (.iconst 1, 1) := by decide +kernel
theorem d_T_toldDigit_80 : decode c_T_toldDigit 80 = .ok (.iadd, 1) := by decide +kernel
theorem d_T_toldDigit_81 : decode c_T_toldDigit 81 = .ok (.iload 4, 2) := by decide +kernel
theorem d_T_toldDigit_83 : decode c_T_toldDigit 83 = .ok (.if_icmp .ge 21, 3) := by decide +kernel
theorem d_T_toldDigit_86 : decode c_T_toldDigit 86 = .ok (.aload_n 0, 1) := by decide +kernel
theorem d_T_toldDigit_87 : decode c_T_toldDigit 87 = .ok (.getfield 21, 3) := by decide +kernel
theorem d_T_toldDigit_90 : decode c_T_toldDigit 90 = .ok (.iload_n 1, 1) := by decide +kernel
theorem d_T_toldDigit_91 : decode c_T_toldDigit 91 = .ok (.aaload, 1) := by decide +kernel
theorem d_T_toldDigit_92 : decode c_T_toldDigit 92 = .ok (.iload 7, 2) := by decide +kernel
theorem d_T_toldDigit_94 : decode c_T_toldDigit 94 = .ok (.iload 5, 2) := by decide +kernel
theorem d_T_toldDigit_96 : decode c_T_toldDigit 96 = .ok (.iadd, 1) := by decide +kernel
theorem d_T_toldDigit_97 : decode c_T_toldDigit 97 = .ok (.iconst 1, 1) := by decide +kernel
theorem d_T_toldDigit_98 : decode c_T_toldDigit 98 = .ok (.iadd, 1) := by decide +kernel
theorem d_T_toldDigit_99 : decode c_T_toldDigit 99 = .ok (.iaload, 1) := by decide +kernel
theorem d_T_toldDigit_100 : decode c_T_toldDigit 100 = .ok (.i2l, 1) := by decide +kernel
theorem d_T_toldDigit_101 : decode c_T_toldDigit 101 = .ok (.goto 4, 3) := by decide +kernel
theorem d_T_toldDigit_104 : decode c_T_toldDigit 104 = .ok (.lconst 0, 1) := by decide +kernel
theorem d_T_toldDigit_105 : decode c_T_toldDigit 105 = .ok (.lstore 10, 2) := by decide +kernel
theorem d_T_toldDigit_107 : decode c_T_toldDigit 107 = .ok (.lload 10, 2) := by decide +kernel
theorem d_T_toldDigit_109 : decode c_T_toldDigit 109 = .ok (.bipush 30, 2) := by decide +kernel
theorem d_T_toldDigit_111 : decode c_T_toldDigit 111 = .ok (.lshl, 1) := by decide +kernel
theorem d_T_toldDigit_112 : decode c_T_toldDigit 112 = .ok (.lload 8, 2) := by decide +kernel
theorem d_T_toldDigit_114 : decode c_T_toldDigit 114 = .ok (.lor, 1) := by decide +kernel
theorem d_T_toldDigit_115 : decode c_T_toldDigit 115 = .ok (.iload 6, 2) := by decide +kernel
theorem d_T_toldDigit_117 : decode c_T_toldDigit 117 = .ok (.lshr, 1) := by decide +kernel
theorem d_T_toldDigit_118 : decode c_T_toldDigit 118 = .ok (.l2i, 1) := by decide +kernel
theorem d_T_toldDigit_119 : decode c_T_toldDigit 119 = .ok (.ldc 78, 2) := by decide +kernel
theorem d_T_toldDigit_121 : decode c_T_toldDigit 121 = .ok (.iand, 1) := by decide +kernel
theorem d_T_toldDigit_122 : decode c_T_toldDigit 122 = .ok (.ireturn, 1) := by decide +kernel
end
section
-- ===== decode rows (written by wip/gen/names.py) =====
theorem d_A_init_0 : decode c_A_init 0 = .ok (.aload_n 0, 1) := by decide +kernel
theorem d_A_init_1 : decode c_A_init 1 = .ok (.invokespecial 3, 3) := by decide +kernel
theorem d_A_init_4 : decode c_A_init 4 = .ok (.aload_n 0, 1) := by decide +kernel
theorem d_A_init_5 : decode c_A_init 5 = .ok (.bipush 8, 2) := by decide +kernel
theorem d_A_init_7 : decode c_A_init 7 = .ok (.anewarray 9, 3) := by decide +kernel
theorem d_A_init_10 : decode c_A_init 10 = .ok (.putfield 11, 3) := by decide +kernel
theorem d_A_init_13 : decode c_A_init 13 = .ok (.iconst 0, 1) := by decide +kernel
theorem d_A_init_14 : decode c_A_init 14 = .ok (.istore_n 1, 1) := by decide +kernel
theorem d_A_init_15 : decode c_A_init 15 = .ok (.iload_n 1, 1) := by decide +kernel
theorem d_A_init_16 : decode c_A_init 16 = .ok (.bipush 8, 2) := by decide +kernel
theorem d_A_init_18 : decode c_A_init 18 = .ok (.if_icmp .ge 22, 3) := by decide +kernel
theorem d_A_init_21 : decode c_A_init 21 = .ok (.aload_n 0, 1) := by decide +kernel
theorem d_A_init_22 : decode c_A_init 22 = .ok (.getfield 11, 3) := by decide +kernel
theorem d_A_init_25 : decode c_A_init 25 = .ok (.iload_n 1, 1) := by decide +kernel
theorem d_A_init_26 : decode c_A_init 26 = .ok (.new 9, 3) := by decide +kernel
theorem d_A_init_29 : decode c_A_init 29 = .ok (.dup, 1) := by decide +kernel
theorem d_A_init_30 : decode c_A_init 30 = .ok (.invokespecial 15, 3) := by decide +kernel
theorem d_A_init_33 : decode c_A_init 33 = .ok (.aastore, 1) := by decide +kernel
theorem d_A_init_34 : decode c_A_init 34 = .ok (.iinc 1 1, 3) := by decide +kernel
theorem d_A_init_37 : decode c_A_init 37 = .ok (.goto (-22), 3) := by decide +kernel
theorem d_A_init_40 : decode c_A_init 40 = .ok (.aload_n 0, 1) := by decide +kernel
theorem d_A_init_41 : decode c_A_init 41 = .ok (.new 9, 3) := by decide +kernel
theorem d_A_init_44 : decode c_A_init 44 = .ok (.dup, 1) := by decide +kernel
theorem d_A_init_45 : decode c_A_init 45 = .ok (.invokespecial 15, 3) := by decide +kernel
theorem d_A_init_48 : decode c_A_init 48 = .ok (.putfield 16, 3) := by decide +kernel
theorem d_A_init_51 : decode c_A_init 51 = .ok (.aload_n 0, 1) := by decide +kernel
theorem d_A_init_52 : decode c_A_init 52 = .ok (.new 20, 3) := by decide +kernel
theorem d_A_init_55 : decode c_A_init 55 = .ok (.dup, 1) := by decide +kernel
theorem d_A_init_56 : decode c_A_init 56 = .ok (.invokespecial 22, 3) := by decide +kernel
theorem d_A_init_59 : decode c_A_init 59 = .ok (.putfield 23, 3) := by decide +kernel
theorem d_A_init_62 : decode c_A_init 62 = .ok (.aload_n 0, 1) := by decide +kernel
theorem d_A_init_63 : decode c_A_init 63 = .ok (.new 27, 3) := by decide +kernel
theorem d_A_init_66 : decode c_A_init 66 = .ok (.dup, 1) := by decide +kernel
theorem d_A_init_67 : decode c_A_init 67 = .ok (.invokespecial 29, 3) := by decide +kernel
theorem d_A_init_70 : decode c_A_init 70 = .ok (.putfield 30, 3) := by decide +kernel
theorem d_A_init_73 : decode c_A_init 73 = .ok (.return_, 1) := by decide +kernel
theorem d_Q_init_0 : decode c_Q_init 0 = .ok (.aload_n 0, 1) := by decide +kernel
theorem d_Q_init_1 : decode c_Q_init 1 = .ok (.invokespecial 3, 3) := by decide +kernel
theorem d_Q_init_4 : decode c_Q_init 4 = .ok (.aload_n 0, 1) := by decide +kernel
theorem d_Q_init_5 : decode c_Q_init 5 = .ok (.bipush 12, 2) := by decide +kernel
theorem d_Q_init_7 : decode c_Q_init 7 = .ok (.anewarray 9, 3) := by decide +kernel
theorem d_Q_init_10 : decode c_Q_init 10 = .ok (.putfield 11, 3) := by decide +kernel
theorem d_Q_init_13 : decode c_Q_init 13 = .ok (.iconst 0, 1) := by decide +kernel
theorem d_Q_init_14 : decode c_Q_init 14 = .ok (.istore_n 1, 1) := by decide +kernel
theorem d_Q_init_15 : decode c_Q_init 15 = .ok (.iload_n 1, 1) := by decide +kernel
theorem d_Q_init_16 : decode c_Q_init 16 = .ok (.bipush 12, 2) := by decide +kernel
theorem d_Q_init_18 : decode c_Q_init 18 = .ok (.if_icmp .ge 22, 3) := by decide +kernel
theorem d_Q_init_21 : decode c_Q_init 21 = .ok (.aload_n 0, 1) := by decide +kernel
theorem d_Q_init_22 : decode c_Q_init 22 = .ok (.getfield 11, 3) := by decide +kernel
theorem d_Q_init_25 : decode c_Q_init 25 = .ok (.iload_n 1, 1) := by decide +kernel
theorem d_Q_init_26 : decode c_Q_init 26 = .ok (.new 9, 3) := by decide +kernel
theorem d_Q_init_29 : decode c_Q_init 29 = .ok (.dup, 1) := by decide +kernel
theorem d_Q_init_30 : decode c_Q_init 30 = .ok (.invokespecial 17, 3) := by decide +kernel
theorem d_Q_init_33 : decode c_Q_init 33 = .ok (.aastore, 1) := by decide +kernel
theorem d_Q_init_34 : decode c_Q_init 34 = .ok (.iinc 1 1, 3) := by decide +kernel
theorem d_Q_init_37 : decode c_Q_init 37 = .ok (.goto (-22), 3) := by decide +kernel
theorem d_Q_init_40 : decode c_Q_init 40 = .ok (.aload_n 0, 1) := by decide +kernel
theorem d_Q_init_41 : decode c_Q_init 41 = .ok (.new 9, 3) := by decide +kernel
theorem d_Q_init_44 : decode c_Q_init 44 = .ok (.dup, 1) := by decide +kernel
theorem d_Q_init_45 : decode c_Q_init 45 = .ok (.invokespecial 17, 3) := by decide +kernel
theorem d_Q_init_48 : decode c_Q_init 48 = .ok (.putfield 18, 3) := by decide +kernel
theorem d_Q_init_51 : decode c_Q_init 51 = .ok (.aload_n 0, 1) := by decide +kernel
theorem d_Q_init_52 : decode c_Q_init 52 = .ok (.new 9, 3) := by decide +kernel
theorem d_Q_init_55 : decode c_Q_init 55 = .ok (.dup, 1) := by decide +kernel
theorem d_Q_init_56 : decode c_Q_init 56 = .ok (.invokespecial 17, 3) := by decide +kernel
theorem d_Q_init_59 : decode c_Q_init 59 = .ok (.putfield 22, 3) := by decide +kernel
theorem d_Q_init_62 : decode c_Q_init 62 = .ok (.aload_n 0, 1) := by decide +kernel
theorem d_Q_init_63 : decode c_Q_init 63 = .ok (.new 9, 3) := by decide +kernel
theorem d_Q_init_66 : decode c_Q_init 66 = .ok (.dup, 1) := by decide +kernel
theorem d_Q_init_67 : decode c_Q_init 67 = .ok (.invokespecial 17, 3) := by decide +kernel
theorem d_Q_init_70 : decode c_Q_init 70 = .ok (.putfield 25, 3) := by decide +kernel
theorem d_Q_init_73 : decode c_Q_init 73 = .ok (.aload_n 0, 1) := by decide +kernel
theorem d_Q_init_74 : decode c_Q_init 74 = .ok (.new 9, 3) := by decide +kernel
theorem d_Q_init_77 : decode c_Q_init 77 = .ok (.dup, 1) := by decide +kernel
theorem d_Q_init_78 : decode c_Q_init 78 = .ok (.invokespecial 17, 3) := by decide +kernel
theorem d_Q_init_81 : decode c_Q_init 81 = .ok (.putfield 28, 3) := by decide +kernel
theorem d_Q_init_84 : decode c_Q_init 84 = .ok (.aload_n 0, 1) := by decide +kernel
theorem d_Q_init_85 : decode c_Q_init 85 = .ok (.new 9, 3) := by decide +kernel
theorem d_Q_init_88 : decode c_Q_init 88 = .ok (.dup, 1) := by decide +kernel
theorem d_Q_init_89 : decode c_Q_init 89 = .ok (.invokespecial 17, 3) := by decide +kernel
theorem d_Q_init_92 : decode c_Q_init 92 = .ok (.putfield 31, 3) := by decide +kernel
theorem d_Q_init_95 : decode c_Q_init 95 = .ok (.aload_n 0, 1) := by decide +kernel
theorem d_Q_init_96 : decode c_Q_init 96 = .ok (.new 9, 3) := by decide +kernel
theorem d_Q_init_99 : decode c_Q_init 99 = .ok (.dup, 1) := by decide +kernel
theorem d_Q_init_100 : decode c_Q_init 100 = .ok (.invokespecial 17, 3) := by decide +kernel
theorem d_Q_init_103 : decode c_Q_init 103 = .ok (.putfield 34, 3) := by decide +kernel
theorem d_Q_init_106 : decode c_Q_init 106 = .ok (.aload_n 0, 1) := by decide +kernel
theorem d_Q_init_107 : decode c_Q_init 107 = .ok (.new 9, 3) := by decide +kernel
theorem d_Q_init_110 : decode c_Q_init 110 = .ok (.dup, 1) := by decide +kernel
theorem d_Q_init_111 : decode c_Q_init 111 = .ok (.invokespecial 17, 3) := by decide +kernel
theorem d_Q_init_114 : decode c_Q_init 114 = .ok (.putfield 37, 3) := by decide +kernel
theorem d_Q_init_117 : decode c_Q_init 117 = .ok (.return_, 1) := by decide +kernel
theorem d_K_init_0 : decode c_K_init 0 = .ok (.aload_n 0, 1) := by decide +kernel
theorem d_K_init_1 : decode c_K_init 1 = .ok (.invokespecial 1, 3) := by decide +kernel
theorem d_K_init_4 : decode c_K_init 4 = .ok (.return_, 1) := by decide +kernel
theorem d_P_init_0 : decode c_P_init 0 = .ok (.aload_n 0, 1) := by decide +kernel
theorem d_P_init_1 : decode c_P_init 1 = .ok (.invokespecial 1, 3) := by decide +kernel
theorem d_P_init_4 : decode c_P_init 4 = .ok (.return_, 1) := by decide +kernel
theorem d_A_begin_0 : decode c_A_begin 0 = .ok (.iload_n 1, 1) := by decide +kernel
theorem d_A_begin_1 : decode c_A_begin 1 = .ok (.invokestatic 34, 3) := by decide +kernel
theorem d_A_begin_4 : decode c_A_begin 4 = .ok (.ifCond .eq 25, 3) := by decide +kernel
theorem d_A_begin_7 : decode c_A_begin 7 = .ok (.iload_n 2, 1) := by decide +kernel
theorem d_A_begin_8 : decode c_A_begin 8 = .ok (.invokestatic 38, 3) := by decide +kernel
theorem d_A_begin_11 : decode c_A_begin 11 = .ok (.ifCond .eq 18, 3) := by decide +kernel
theorem d_A_begin_14 : decode c_A_begin 14 = .ok (.iload_n 3, 1) := by decide +kernel
theorem d_A_begin_15 : decode c_A_begin 15 = .ok (.invokestatic 41, 3) := by decide +kernel
theorem d_A_begin_18 : decode c_A_begin 18 = .ok (.ifCond .eq 11, 3) := by decide +kernel
theorem d_A_begin_21 : decode c_A_begin 21 = .ok (.iload 4, 2) := by decide +kernel
theorem d_A_begin_23 : decode c_A_begin 23 = .ok (.invokestatic 41, 3) := by decide +kernel
theorem d_A_begin_26 : decode c_A_begin 26 = .ok (.ifCond .ne 5, 3) := by decide +kernel
theorem d_A_begin_29 : decode c_A_begin 29 = .ok (.iconst 0, 1) := by decide +kernel
theorem d_A_begin_30 : decode c_A_begin 30 = .ok (.ireturn, 1) := by decide +kernel
theorem d_A_begin_31 : decode c_A_begin 31 = .ok (.aload_n 0, 1) := by decide +kernel
theorem d_A_begin_32 : decode c_A_begin 32 = .ok (.getfield 11, 3) := by decide +kernel
theorem d_A_begin_35 : decode c_A_begin 35 = .ok (.iload_n 1, 1) := by decide +kernel
theorem d_A_begin_36 : decode c_A_begin 36 = .ok (.aaload, 1) := by decide +kernel
theorem d_A_begin_37 : decode c_A_begin 37 = .ok (.iload_n 2, 1) := by decide +kernel
theorem d_A_begin_38 : decode c_A_begin 38 = .ok (.iload_n 3, 1) := by decide +kernel
theorem d_A_begin_39 : decode c_A_begin 39 = .ok (.iload 4, 2) := by decide +kernel
theorem d_A_begin_41 : decode c_A_begin 41 = .ok (.invokevirtual 44, 3) := by decide +kernel
theorem d_A_begin_44 : decode c_A_begin 44 = .ok (.iconst 1, 1) := by decide +kernel
theorem d_A_begin_45 : decode c_A_begin 45 = .ok (.ireturn, 1) := by decide +kernel
theorem d_A_isTable_0 : decode c_A_isTable 0 = .ok (.iload_n 0, 1) := by decide +kernel
theorem d_A_isTable_1 : decode c_A_isTable 1 = .ok (.ifCond .lt 13, 3) := by decide +kernel
theorem d_A_isTable_4 : decode c_A_isTable 4 = .ok (.iload_n 0, 1) := by decide +kernel
theorem d_A_isTable_5 : decode c_A_isTable 5 = .ok (.bipush 8, 2) := by decide +kernel
theorem d_A_isTable_7 : decode c_A_isTable 7 = .ok (.if_icmp .ge 7, 3) := by decide +kernel
theorem d_A_isTable_10 : decode c_A_isTable 10 = .ok (.iconst 1, 1) := by decide +kernel
theorem d_A_isTable_11 : decode c_A_isTable 11 = .ok (.goto 4, 3) := by decide +kernel
theorem d_A_isTable_14 : decode c_A_isTable 14 = .ok (.iconst 0, 1) := by decide +kernel
theorem d_A_isTable_15 : decode c_A_isTable 15 = .ok (.ireturn, 1) := by decide +kernel
theorem d_A_isField_0 : decode c_A_isField 0 = .ok (.iload_n 0, 1) := by decide +kernel
theorem d_A_isField_1 : decode c_A_isField 1 = .ok (.ifCond .ne 5, 3) := by decide +kernel
theorem d_A_isField_4 : decode c_A_isField 4 = .ok (.iconst 1, 1) := by decide +kernel
theorem d_A_isField_5 : decode c_A_isField 5 = .ok (.ireturn, 1) := by decide +kernel
theorem d_A_isField_6 : decode c_A_isField 6 = .ok (.iload_n 0, 1) := by decide +kernel
theorem d_A_isField_7 : decode c_A_isField 7 = .ok (.iconst 2, 1) := by decide +kernel
theorem d_A_isField_8 : decode c_A_isField 8 = .ok (.if_icmp .lt 10, 3) := by decide +kernel
theorem d_A_isField_11 : decode c_A_isField 11 = .ok (.iload_n 0, 1) := by decide +kernel
theorem d_A_isField_12 : decode c_A_isField 12 = .ok (.sipush 251, 3) := by decide +kernel
theorem d_A_isField_15 : decode c_A_isField 15 = .ok (.if_icmp .le 5, 3) := by decide +kernel
theorem d_A_isField_18 : decode c_A_isField 18 = .ok (.iconst 0, 1) := by decide +kernel
theorem d_A_isField_19 : decode c_A_isField 19 = .ok (.ireturn, 1) := by decide +kernel
theorem d_A_isField_20 : decode c_A_isField 20 = .ok (.iconst 2, 1) := by decide +kernel
theorem d_A_isField_21 : decode c_A_isField 21 = .ok (.istore_n 1, 1) := by decide +kernel
theorem d_A_isField_22 : decode c_A_isField 22 = .ok (.iload_n 1, 1) := by decide +kernel
theorem d_A_isField_23 : decode c_A_isField 23 = .ok (.iload_n 1, 1) := by decide +kernel
theorem d_A_isField_24 : decode c_A_isField 24 = .ok (.imul, 1) := by decide +kernel
theorem d_A_isField_25 : decode c_A_isField 25 = .ok (.iload_n 0, 1) := by decide +kernel
theorem d_A_isField_26 : decode c_A_isField 26 = .ok (.if_icmp .gt 17, 3) := by decide +kernel
theorem d_A_isField_29 : decode c_A_isField 29 = .ok (.iload_n 0, 1) := by decide +kernel
theorem d_A_isField_30 : decode c_A_isField 30 = .ok (.iload_n 1, 1) := by decide +kernel
theorem d_A_isField_31 : decode c_A_isField 31 = .ok (.irem, 1) := by decide +kernel
theorem d_A_isField_32 : decode c_A_isField 32 = .ok (.ifCond .ne 5, 3) := by decide +kernel
theorem d_A_isField_35 : decode c_A_isField 35 = .ok (.iconst 0, 1) := by decide +kernel
theorem d_A_isField_36 : decode c_A_isField 36 = .ok (.ireturn, 1) := by decide +kernel
theorem d_A_isField_37 : decode c_A_isField 37 = .ok (.iinc 1 1, 3) := by decide +kernel
theorem d_A_isField_40 : decode c_A_isField 40 = .ok (.goto (-18), 3) := by decide +kernel
theorem d_A_isField_43 : decode c_A_isField 43 = .ok (.iconst 1, 1) := by decide +kernel
theorem d_A_isField_44 : decode c_A_isField 44 = .ok (.ireturn, 1) := by decide +kernel
theorem d_A_isAmount_0 : decode c_A_isAmount 0 = .ok (.iload_n 0, 1) := by decide +kernel
theorem d_A_isAmount_1 : decode c_A_isAmount 1 = .ok (.ifCond .lt 13, 3) := by decide +kernel
theorem d_A_isAmount_4 : decode c_A_isAmount 4 = .ok (.iload_n 0, 1) := by decide +kernel
theorem d_A_isAmount_5 : decode c_A_isAmount 5 = .ok (.bipush 12, 2) := by decide +kernel
theorem d_A_isAmount_7 : decode c_A_isAmount 7 = .ok (.if_icmp .gt 7, 3) := by decide +kernel
theorem d_A_isAmount_10 : decode c_A_isAmount 10 = .ok (.iconst 1, 1) := by decide +kernel
theorem d_A_isAmount_11 : decode c_A_isAmount 11 = .ok (.goto 4, 3) := by decide +kernel
theorem d_A_isAmount_14 : decode c_A_isAmount 14 = .ok (.iconst 0, 1) := by decide +kernel
theorem d_A_isAmount_15 : decode c_A_isAmount 15 = .ok (.ireturn, 1) := by decide +kernel
theorem d_JA_fill_0_0 : decode c_JA_fill_0 0 = .ok (.iconst 0, 1) := by decide +kernel
theorem d_JA_fill_0_1 : decode c_JA_fill_0 1 = .ok (.istore_n 2, 1) := by decide +kernel
theorem d_JA_fill_0_2 : decode c_JA_fill_0 2 = .ok (.aload_n 0, 1) := by decide +kernel
theorem d_JA_fill_0_3 : decode c_JA_fill_0 3 = .ok (.arraylength, 1) := by decide +kernel
theorem d_JA_fill_0_4 : decode c_JA_fill_0 4 = .ok (.istore_n 3, 1) := by decide +kernel
theorem d_JA_fill_0_5 : decode c_JA_fill_0 5 = .ok (.iload_n 2, 1) := by decide +kernel
theorem d_JA_fill_0_6 : decode c_JA_fill_0 6 = .ok (.iload_n 3, 1) := by decide +kernel
theorem d_JA_fill_0_7 : decode c_JA_fill_0 7 = .ok (.if_icmp .ge 13, 3) := by decide +kernel
theorem d_JA_fill_0_10 : decode c_JA_fill_0 10 = .ok (.aload_n 0, 1) := by decide +kernel
theorem d_JA_fill_0_11 : decode c_JA_fill_0 11 = .ok (.iload_n 2, 1) := by decide +kernel
theorem d_JA_fill_0_12 : decode c_JA_fill_0 12 = .ok (.iload_n 1, 1) := by decide +kernel
theorem d_JA_fill_0_13 : decode c_JA_fill_0 13 = .ok (.iastore, 1) := by decide +kernel
theorem d_JA_fill_0_14 : decode c_JA_fill_0 14 = .ok (.iinc 2 1, 3) := by decide +kernel
theorem d_JA_fill_0_17 : decode c_JA_fill_0 17 = .ok (.goto (-12), 3) := by decide +kernel
theorem d_JA_fill_0_20 : decode c_JA_fill_0 20 = .ok (.return_, 1) := by decide +kernel
theorem d_A_put_0 : decode c_A_put 0 = .ok (.aload_n 0, 1) := by decide +kernel
theorem d_A_put_1 : decode c_A_put 1 = .ok (.iload_n 1, 1) := by decide +kernel
theorem d_A_put_2 : decode c_A_put 2 = .ok (.iload_n 2, 1) := by decide +kernel
theorem d_A_put_3 : decode c_A_put 3 = .ok (.iload_n 3, 1) := by decide +kernel
theorem d_A_put_4 : decode c_A_put 4 = .ok (.invokevirtual 48, 3) := by decide +kernel
theorem d_A_put_7 : decode c_A_put 7 = .ok (.ifCond .eq 31, 3) := by decide +kernel
theorem d_A_put_10 : decode c_A_put 10 = .ok (.aload_n 0, 1) := by decide +kernel
theorem d_A_put_11 : decode c_A_put 11 = .ok (.getfield 11, 3) := by decide +kernel
theorem d_A_put_14 : decode c_A_put 14 = .ok (.iload_n 1, 1) := by decide +kernel
theorem d_A_put_15 : decode c_A_put 15 = .ok (.aaload, 1) := by decide +kernel
theorem d_A_put_16 : decode c_A_put 16 = .ok (.getfield 52, 3) := by decide +kernel
theorem d_A_put_19 : decode c_A_put 19 = .ok (.ifCond .ne 19, 3) := by decide +kernel
theorem d_A_put_22 : decode c_A_put 22 = .ok (.iload 4, 2) := by decide +kernel
theorem d_A_put_24 : decode c_A_put 24 = .ok (.sipush (-999), 3) := by decide +kernel
theorem d_A_put_27 : decode c_A_put 27 = .ok (.if_icmp .lt 11, 3) := by decide +kernel
theorem d_A_put_30 : decode c_A_put 30 = .ok (.iload 4, 2) := by decide +kernel
theorem d_A_put_32 : decode c_A_put 32 = .ok (.sipush 999, 3) := by decide +kernel
theorem d_A_put_35 : decode c_A_put 35 = .ok (.if_icmp .le 5, 3) := by decide +kernel
theorem d_A_put_38 : decode c_A_put 38 = .ok (.iconst 0, 1) := by decide +kernel
theorem d_A_put_39 : decode c_A_put 39 = .ok (.ireturn, 1) := by decide +kernel
theorem d_A_put_40 : decode c_A_put 40 = .ok (.aload_n 0, 1) := by decide +kernel
theorem d_A_put_41 : decode c_A_put 41 = .ok (.getfield 11, 3) := by decide +kernel
theorem d_A_put_44 : decode c_A_put 44 = .ok (.iload_n 1, 1) := by decide +kernel
theorem d_A_put_45 : decode c_A_put 45 = .ok (.aaload, 1) := by decide +kernel
theorem d_A_put_46 : decode c_A_put 46 = .ok (.getfield 56, 3) := by decide +kernel
theorem d_A_put_49 : decode c_A_put 49 = .ok (.istore 5, 2) := by decide +kernel
theorem d_A_put_51 : decode c_A_put 51 = .ok (.aload_n 0, 1) := by decide +kernel
theorem d_A_put_52 : decode c_A_put 52 = .ok (.getfield 11, 3) := by decide +kernel
theorem d_A_put_55 : decode c_A_put 55 = .ok (.iload_n 1, 1) := by decide +kernel
theorem d_A_put_56 : decode c_A_put 56 = .ok (.aaload, 1) := by decide +kernel
theorem d_A_put_57 : decode c_A_put 57 = .ok (.iload_n 2, 1) := by decide +kernel
theorem d_A_put_58 : decode c_A_put 58 = .ok (.iload_n 3, 1) := by decide +kernel
theorem d_A_put_59 : decode c_A_put 59 = .ok (.iload 5, 2) := by decide +kernel
theorem d_A_put_61 : decode c_A_put 61 = .ok (.ifCond .ne 8, 3) := by decide +kernel
theorem d_A_put_64 : decode c_A_put 64 = .ok (.iload 4, 2) := by decide +kernel
theorem d_A_put_66 : decode c_A_put 66 = .ok (.goto 10, 3) := by decide +kernel
theorem d_A_put_69 : decode c_A_put 69 = .ok (.iload 4, 2) := by decide +kernel
theorem d_A_put_71 : decode c_A_put 71 = .ok (.iload 5, 2) := by decide +kernel
theorem d_A_put_73 : decode c_A_put 73 = .ok (.invokestatic 60, 3) := by decide +kernel
theorem d_A_put_76 : decode c_A_put 76 = .ok (.invokevirtual 66, 3) := by decide +kernel
theorem d_A_put_79 : decode c_A_put 79 = .ok (.iconst 1, 1) := by decide +kernel
theorem d_A_put_80 : decode c_A_put 80 = .ok (.ireturn, 1) := by decide +kernel
theorem d_A_hasNumber_0 : decode c_A_hasNumber 0 = .ok (.iload_n 1, 1) := by decide +kernel
theorem d_A_hasNumber_1 : decode c_A_hasNumber 1 = .ok (.invokestatic 34, 3) := by decide +kernel
theorem d_A_hasNumber_4 : decode c_A_hasNumber 4 = .ok (.ifCond .eq 21, 3) := by decide +kernel
theorem d_A_hasNumber_7 : decode c_A_hasNumber 7 = .ok (.aload_n 0, 1) := by decide +kernel
theorem d_A_hasNumber_8 : decode c_A_hasNumber 8 = .ok (.getfield 11, 3) := by decide +kernel
theorem d_A_hasNumber_11 : decode c_A_hasNumber 11 = .ok (.iload_n 1, 1) := by decide +kernel
theorem d_A_hasNumber_12 : decode c_A_hasNumber 12 = .ok (.aaload, 1) := by decide +kernel
theorem d_A_hasNumber_13 : decode c_A_hasNumber 13 = .ok (.iload_n 2, 1) := by decide +kernel
theorem d_A_hasNumber_14 : decode c_A_hasNumber 14 = .ok (.iload_n 3, 1) := by decide +kernel
theorem d_A_hasNumber_15 : decode c_A_hasNumber 15 = .ok (.invokevirtual 133, 3) := by decide +kernel
theorem d_A_hasNumber_18 : decode c_A_hasNumber 18 = .ok (.ifCond .eq 7, 3) := by decide +kernel
theorem d_A_hasNumber_21 : decode c_A_hasNumber 21 = .ok (.iconst 1, 1) := by decide +kernel
theorem d_A_hasNumber_22 : decode c_A_hasNumber 22 = .ok (.goto 4, 3) := by decide +kernel
theorem d_A_hasNumber_25 : decode c_A_hasNumber 25 = .ok (.iconst 0, 1) := by decide +kernel
theorem d_A_hasNumber_26 : decode c_A_hasNumber 26 = .ok (.ireturn, 1) := by decide +kernel
theorem d_JM_floorMod_0 : decode c_JM_floorMod 0 = .ok (.iload_n 0, 1) := by decide +kernel
theorem d_JM_floorMod_1 : decode c_JM_floorMod 1 = .ok (.iload_n 1, 1) := by decide +kernel
theorem d_JM_floorMod_2 : decode c_JM_floorMod 2 = .ok (.irem, 1) := by decide +kernel
theorem d_JM_floorMod_3 : decode c_JM_floorMod 3 = .ok (.istore_n 2, 1) := by decide +kernel
theorem d_JM_floorMod_4 : decode c_JM_floorMod 4 = .ok (.iload_n 0, 1) := by decide +kernel
theorem d_JM_floorMod_5 : decode c_JM_floorMod 5 = .ok (.iload_n 1, 1) := by decide +kernel
theorem d_JM_floorMod_6 : decode c_JM_floorMod 6 = .ok (.ixor, 1) := by decide +kernel
theorem d_JM_floorMod_7 : decode c_JM_floorMod 7 = .ok (.ifCond .ge 11, 3) := by decide +kernel
theorem d_JM_floorMod_10 : decode c_JM_floorMod 10 = .ok (.iload_n 2, 1) := by decide +kernel
theorem d_JM_floorMod_11 : decode c_JM_floorMod 11 = .ok (.ifCond .eq 7, 3) := by decide +kernel
theorem d_JM_floorMod_14 : decode c_JM_floorMod 14 = .ok (.iload_n 2, 1) := by decide +kernel
theorem d_JM_floorMod_15 : decode c_JM_floorMod 15 = .ok (.iload_n 1, 1) := by decide +kernel
theorem d_JM_floorMod_16 : decode c_JM_floorMod 16 = .ok (.iadd, 1) := by decide +kernel
theorem d_JM_floorMod_17 : decode c_JM_floorMod 17 = .ok (.ireturn, 1) := by decide +kernel
theorem d_JM_floorMod_18 : decode c_JM_floorMod 18 = .ok (.iload_n 2, 1) := by decide +kernel
theorem d_JM_floorMod_19 : decode c_JM_floorMod 19 = .ok (.ireturn, 1) := by decide +kernel
theorem d_JI_signum_0 : decode c_JI_signum 0 = .ok (.iload_n 0, 1) := by decide +kernel
theorem d_JI_signum_1 : decode c_JI_signum 1 = .ok (.bipush 31, 2) := by decide +kernel
theorem d_JI_signum_3 : decode c_JI_signum 3 = .ok (.ishr, 1) := by decide +kernel
theorem d_JI_signum_4 : decode c_JI_signum 4 = .ok (.iload_n 0, 1) := by decide +kernel
theorem d_JI_signum_5 : decode c_JI_signum 5 = .ok (.ineg, 1) := by decide +kernel
theorem d_JI_signum_6 : decode c_JI_signum 6 = .ok (.bipush 31, 2) := by decide +kernel
theorem d_JI_signum_8 : decode c_JI_signum 8 = .ok (.iushr, 1) := by decide +kernel
theorem d_JI_signum_9 : decode c_JI_signum 9 = .ok (.ior, 1) := by decide +kernel
theorem d_JI_signum_10 : decode c_JI_signum 10 = .ok (.ireturn, 1) := by decide +kernel
theorem d_JM_abs_0 : decode c_JM_abs 0 = .ok (.iload_n 0, 1) := by decide +kernel
theorem d_JM_abs_1 : decode c_JM_abs 1 = .ok (.ifCond .ge 8, 3) := by decide +kernel
theorem d_JM_abs_4 : decode c_JM_abs 4 = .ok (.iload_n 0, 1) := by decide +kernel
theorem d_JM_abs_5 : decode c_JM_abs 5 = .ok (.ineg, 1) := by decide +kernel
theorem d_JM_abs_6 : decode c_JM_abs 6 = .ok (.goto 4, 3) := by decide +kernel
theorem d_JM_abs_9 : decode c_JM_abs 9 = .ok (.iload_n 0, 1) := by decide +kernel
theorem d_JM_abs_10 : decode c_JM_abs 10 = .ok (.ireturn, 1) := by decide +kernel
theorem d_A_reduce_0 : decode c_A_reduce 0 = .ok (.iload_n 1, 1) := by decide +kernel
theorem d_A_reduce_1 : decode c_A_reduce 1 = .ok (.invokestatic 34, 3) := by decide +kernel
theorem d_A_reduce_4 : decode c_A_reduce 4 = .ok (.ifCond .ne 5, 3) := by decide +kernel
theorem d_A_reduce_7 : decode c_A_reduce 7 = .ok (.iconst (-1), 1) := by decide +kernel
theorem d_A_reduce_8 : decode c_A_reduce 8 = .ok (.ireturn, 1) := by decide +kernel
theorem d_A_reduce_9 : decode c_A_reduce 9 = .ok (.aload_n 0, 1) := by decide +kernel
theorem d_A_reduce_10 : decode c_A_reduce 10 = .ok (.getfield 11, 3) := by decide +kernel
theorem d_A_reduce_13 : decode c_A_reduce 13 = .ok (.iload_n 1, 1) := by decide +kernel
theorem d_A_reduce_14 : decode c_A_reduce 14 = .ok (.aaload, 1) := by decide +kernel
theorem d_A_reduce_15 : decode c_A_reduce 15 = .ok (.astore_n 2, 1) := by decide +kernel
theorem d_A_reduce_16 : decode c_A_reduce 16 = .ok (.aload_n 2, 1) := by decide +kernel
theorem d_A_reduce_17 : decode c_A_reduce 17 = .ok (.getfield 52, 3) := by decide +kernel
theorem d_A_reduce_20 : decode c_A_reduce 20 = .ok (.ifCond .ne 20, 3) := by decide +kernel
theorem d_A_reduce_23 : decode c_A_reduce 23 = .ok (.aload_n 2, 1) := by decide +kernel
theorem d_A_reduce_24 : decode c_A_reduce 24 = .ok (.aload_n 0, 1) := by decide +kernel
theorem d_A_reduce_25 : decode c_A_reduce 25 = .ok (.aload_n 2, 1) := by decide +kernel
theorem d_A_reduce_26 : decode c_A_reduce 26 = .ok (.sipush 4095, 3) := by decide +kernel
theorem d_A_reduce_29 : decode c_A_reduce 29 = .ok (.invokevirtual 69, 3) := by decide +kernel
theorem d_A_reduce_32 : decode c_A_reduce 32 = .ok (.putfield 73, 3) := by decide +kernel
theorem d_A_reduce_35 : decode c_A_reduce 35 = .ok (.aload_n 2, 1) := by decide +kernel
theorem d_A_reduce_36 : decode c_A_reduce 36 = .ok (.iconst 1, 1) := by decide +kernel
theorem d_A_reduce_37 : decode c_A_reduce 37 = .ok (.putfield 52, 3) := by decide +kernel
theorem d_A_reduce_40 : decode c_A_reduce 40 = .ok (.aload_n 2, 1) := by decide +kernel
theorem d_A_reduce_41 : decode c_A_reduce 41 = .ok (.getfield 73, 3) := by decide +kernel
theorem d_A_reduce_44 : decode c_A_reduce 44 = .ok (.ireturn, 1) := by decide +kernel
theorem d_A_sweep_0 : decode c_A_sweep 0 = .ok (.iconst 0, 1) := by decide +kernel
theorem d_A_sweep_1 : decode c_A_sweep 1 = .ok (.istore_n 3, 1) := by decide +kernel
theorem d_A_sweep_2 : decode c_A_sweep 2 = .ok (.iconst 0, 1) := by decide +kernel
theorem d_A_sweep_3 : decode c_A_sweep 3 = .ok (.istore 4, 2) := by decide +kernel
theorem d_A_sweep_5 : decode c_A_sweep 5 = .ok (.iload 4, 2) := by decide +kernel
theorem d_A_sweep_7 : decode c_A_sweep 7 = .ok (.aload_n 1, 1) := by decide +kernel
theorem d_A_sweep_8 : decode c_A_sweep 8 = .ok (.getfield 91, 3) := by decide +kernel
theorem d_A_sweep_11 : decode c_A_sweep 11 = .ok (.if_icmp .ge 55, 3) := by decide +kernel
theorem d_A_sweep_14 : decode c_A_sweep 14 = .ok (.iload_n 2, 1) := by decide +kernel
theorem d_A_sweep_15 : decode c_A_sweep 15 = .ok (.iload 4, 2) := by decide +kernel
theorem d_A_sweep_17 : decode c_A_sweep 17 = .ok (.ishr, 1) := by decide +kernel
theorem d_A_sweep_18 : decode c_A_sweep 18 = .ok (.iconst 1, 1) := by decide +kernel
theorem d_A_sweep_19 : decode c_A_sweep 19 = .ok (.iand, 1) := by decide +kernel
theorem d_A_sweep_20 : decode c_A_sweep 20 = .ok (.ifCond .ne 7, 3) := by decide +kernel
theorem d_A_sweep_23 : decode c_A_sweep 23 = .ok (.iconst (-1), 1) := by decide +kernel
theorem d_A_sweep_24 : decode c_A_sweep 24 = .ok (.goto 10, 3) := by decide +kernel
theorem d_A_sweep_27 : decode c_A_sweep 27 = .ok (.aload_n 1, 1) := by decide +kernel
theorem d_A_sweep_28 : decode c_A_sweep 28 = .ok (.iload_n 3, 1) := by decide +kernel
theorem d_A_sweep_29 : decode c_A_sweep 29 = .ok (.iload 4, 2) := by decide +kernel
theorem d_A_sweep_31 : decode c_A_sweep 31 = .ok (.invokevirtual 136, 3) := by decide +kernel
theorem d_A_sweep_34 : decode c_A_sweep 34 = .ok (.istore 5, 2) := by decide +kernel
theorem d_A_sweep_36 : decode c_A_sweep 36 = .ok (.iload 5, 2) := by decide +kernel
theorem d_A_sweep_38 : decode c_A_sweep 38 = .ok (.iconst (-1), 1) := by decide +kernel
theorem d_A_sweep_39 : decode c_A_sweep 39 = .ok (.if_icmp .eq 21, 3) := by decide +kernel
theorem d_A_sweep_42 : decode c_A_sweep 42 = .ok (.aload_n 1, 1) := by decide +kernel
theorem d_A_sweep_43 : decode c_A_sweep 43 = .ok (.iload_n 3, 1) := by decide +kernel
theorem d_A_sweep_44 : decode c_A_sweep 44 = .ok (.iload 5, 2) := by decide +kernel
theorem d_A_sweep_46 : decode c_A_sweep 46 = .ok (.invokevirtual 139, 3) := by decide +kernel
theorem d_A_sweep_49 : decode c_A_sweep 49 = .ok (.aload_n 0, 1) := by decide +kernel
theorem d_A_sweep_50 : decode c_A_sweep 50 = .ok (.aload_n 1, 1) := by decide +kernel
theorem d_A_sweep_51 : decode c_A_sweep 51 = .ok (.iload_n 3, 1) := by decide +kernel
theorem d_A_sweep_52 : decode c_A_sweep 52 = .ok (.iload 4, 2) := by decide +kernel
theorem d_A_sweep_54 : decode c_A_sweep 54 = .ok (.invokevirtual 84, 3) := by decide +kernel
theorem d_A_sweep_57 : decode c_A_sweep 57 = .ok (.iinc 3 1, 3) := by decide +kernel
theorem d_A_sweep_60 : decode c_A_sweep 60 = .ok (.iinc 4 1, 3) := by decide +kernel
theorem d_A_sweep_63 : decode c_A_sweep 63 = .ok (.goto (-58), 3) := by decide +kernel
theorem d_A_sweep_66 : decode c_A_sweep 66 = .ok (.iload_n 3, 1) := by decide +kernel
theorem d_A_sweep_67 : decode c_A_sweep 67 = .ok (.ireturn, 1) := by decide +kernel
theorem d_A_pivot_0 : decode c_A_pivot 0 = .ok (.aload_n 0, 1) := by decide +kernel
theorem d_A_pivot_1 : decode c_A_pivot 1 = .ok (.aload_n 1, 1) := by decide +kernel
theorem d_A_pivot_2 : decode c_A_pivot 2 = .ok (.invokevirtual 97, 3) := by decide +kernel
theorem d_A_pivot_5 : decode c_A_pivot 5 = .ok (.astore 4, 2) := by decide +kernel
theorem d_A_pivot_7 : decode c_A_pivot 7 = .ok (.aload 4, 2) := by decide +kernel
theorem d_A_pivot_9 : decode c_A_pivot 9 = .ok (.aload_n 1, 1) := by decide +kernel
theorem d_A_pivot_10 : decode c_A_pivot 10 = .ok (.iload_n 2, 1) := by decide +kernel
theorem d_A_pivot_11 : decode c_A_pivot 11 = .ok (.iload_n 3, 1) := by decide +kernel
theorem d_A_pivot_12 : decode c_A_pivot 12 = .ok (.invokevirtual 143, 3) := by decide +kernel
theorem d_A_pivot_15 : decode c_A_pivot 15 = .ok (.iconst 0, 1) := by decide +kernel
theorem d_A_pivot_16 : decode c_A_pivot 16 = .ok (.istore 5, 2) := by decide +kernel
theorem d_A_pivot_18 : decode c_A_pivot 18 = .ok (.iload 5, 2) := by decide +kernel
theorem d_A_pivot_20 : decode c_A_pivot 20 = .ok (.aload_n 1, 1) := by decide +kernel
theorem d_A_pivot_21 : decode c_A_pivot 21 = .ok (.getfield 73, 3) := by decide +kernel
theorem d_A_pivot_24 : decode c_A_pivot 24 = .ok (.if_icmp .ge 35, 3) := by decide +kernel
theorem d_A_pivot_27 : decode c_A_pivot 27 = .ok (.iload 5, 2) := by decide +kernel
theorem d_A_pivot_29 : decode c_A_pivot 29 = .ok (.iload_n 2, 1) := by decide +kernel
theorem d_A_pivot_30 : decode c_A_pivot 30 = .ok (.if_icmp .eq 23, 3) := by decide +kernel
theorem d_A_pivot_33 : decode c_A_pivot 33 = .ok (.aload_n 1, 1) := by decide +kernel
theorem d_A_pivot_34 : decode c_A_pivot 34 = .ok (.iload 5, 2) := by decide +kernel
theorem d_A_pivot_36 : decode c_A_pivot 36 = .ok (.iload_n 3, 1) := by decide +kernel
theorem d_A_pivot_37 : decode c_A_pivot 37 = .ok (.invokevirtual 76, 3) := by decide +kernel
theorem d_A_pivot_40 : decode c_A_pivot 40 = .ok (.ifCond .ne 13, 3) := by decide +kernel
theorem d_A_pivot_43 : decode c_A_pivot 43 = .ok (.aload 4, 2) := by decide +kernel
theorem d_A_pivot_45 : decode c_A_pivot 45 = .ok (.aload_n 1, 1) := by decide +kernel
theorem d_A_pivot_46 : decode c_A_pivot 46 = .ok (.iload 5, 2) := by decide +kernel
theorem d_A_pivot_48 : decode c_A_pivot 48 = .ok (.iload_n 2, 1) := by decide +kernel
theorem d_A_pivot_49 : decode c_A_pivot 49 = .ok (.iload_n 3, 1) := by decide +kernel
theorem d_A_pivot_50 : decode c_A_pivot 50 = .ok (.invokevirtual 146, 3) := by decide +kernel
theorem d_A_pivot_53 : decode c_A_pivot 53 = .ok (.iinc 5 1, 3) := by decide +kernel
theorem d_A_pivot_56 : decode c_A_pivot 56 = .ok (.goto (-38), 3) := by decide +kernel
theorem d_A_pivot_59 : decode c_A_pivot 59 = .ok (.aload_n 1, 1) := by decide +kernel
theorem d_A_pivot_60 : decode c_A_pivot 60 = .ok (.getfield 80, 3) := by decide +kernel
theorem d_A_pivot_63 : decode c_A_pivot 63 = .ok (.iload_n 2, 1) := by decide +kernel
theorem d_A_pivot_64 : decode c_A_pivot 64 = .ok (.iload_n 3, 1) := by decide +kernel
theorem d_A_pivot_65 : decode c_A_pivot 65 = .ok (.iastore, 1) := by decide +kernel
theorem d_A_pivot_66 : decode c_A_pivot 66 = .ok (.return_, 1) := by decide +kernel
theorem d_A_kindOf_0 : decode c_A_kindOf 0 = .ok (.aload_n 1, 1) := by decide +kernel
theorem d_A_kindOf_1 : decode c_A_kindOf 1 = .ok (.getfield 56, 3) := by decide +kernel
theorem d_A_kindOf_4 : decode c_A_kindOf 4 = .ok (.ifCond .ne 10, 3) := by decide +kernel
theorem d_A_kindOf_7 : decode c_A_kindOf 7 = .ok (.aload_n 0, 1) := by decide +kernel
theorem d_A_kindOf_8 : decode c_A_kindOf 8 = .ok (.getfield 23, 3) := by decide +kernel
theorem d_A_kindOf_11 : decode c_A_kindOf 11 = .ok (.goto 7, 3) := by decide +kernel
theorem d_A_kindOf_14 : decode c_A_kindOf 14 = .ok (.aload_n 0, 1) := by decide +kernel
theorem d_A_kindOf_15 : decode c_A_kindOf 15 = .ok (.getfield 30, 3) := by decide +kernel
theorem d_A_kindOf_18 : decode c_A_kindOf 18 = .ok (.areturn, 1) := by decide +kernel
theorem d_Q_lead_0 : decode c_Q_lead 0 = .ok (.iconst 0, 1) := by decide +kernel
theorem d_Q_lead_1 : decode c_Q_lead 1 = .ok (.istore 4, 2) := by decide +kernel
theorem d_Q_lead_3 : decode c_Q_lead 3 = .ok (.iload 4, 2) := by decide +kernel
theorem d_Q_lead_5 : decode c_Q_lead 5 = .ok (.aload_n 1, 1) := by decide +kernel
theorem d_Q_lead_6 : decode c_Q_lead 6 = .ok (.getfield 40, 3) := by decide +kernel
theorem d_Q_lead_9 : decode c_Q_lead 9 = .ok (.if_icmp .ge 23, 3) := by decide +kernel
theorem d_Q_lead_12 : decode c_Q_lead 12 = .ok (.aload_n 1, 1) := by decide +kernel
theorem d_Q_lead_13 : decode c_Q_lead 13 = .ok (.iload_n 2, 1) := by decide +kernel
theorem d_Q_lead_14 : decode c_Q_lead 14 = .ok (.iload 4, 2) := by decide +kernel
theorem d_Q_lead_16 : decode c_Q_lead 16 = .ok (.aload_n 0, 1) := by decide +kernel
theorem d_Q_lead_17 : decode c_Q_lead 17 = .ok (.getfield 11, 3) := by decide +kernel
theorem d_Q_lead_20 : decode c_Q_lead 20 = .ok (.iload 4, 2) := by decide +kernel
theorem d_Q_lead_22 : decode c_Q_lead 22 = .ok (.aaload, 1) := by decide +kernel
theorem d_Q_lead_23 : decode c_Q_lead 23 = .ok (.invokevirtual 46, 3) := by decide +kernel
theorem d_Q_lead_26 : decode c_Q_lead 26 = .ok (.iinc 4 1, 3) := by decide +kernel
theorem d_Q_lead_29 : decode c_Q_lead 29 = .ok (.goto (-26), 3) := by decide +kernel
theorem d_Q_lead_32 : decode c_Q_lead 32 = .ok (.aload_n 0, 1) := by decide +kernel
theorem d_Q_lead_33 : decode c_Q_lead 33 = .ok (.aload_n 1, 1) := by decide +kernel
theorem d_Q_lead_34 : decode c_Q_lead 34 = .ok (.getfield 40, 3) := by decide +kernel
theorem d_Q_lead_37 : decode c_Q_lead 37 = .ok (.invokevirtual 50, 3) := by decide +kernel
theorem d_Q_lead_40 : decode c_Q_lead 40 = .ok (.aload_n 0, 1) := by decide +kernel
theorem d_Q_lead_41 : decode c_Q_lead 41 = .ok (.aload_n 1, 1) := by decide +kernel
theorem d_Q_lead_42 : decode c_Q_lead 42 = .ok (.iload_n 2, 1) := by decide +kernel
theorem d_Q_lead_43 : decode c_Q_lead 43 = .ok (.invokevirtual 54, 3) := by decide +kernel
theorem d_Q_lead_46 : decode c_Q_lead 46 = .ok (.aload_n 1, 1) := by decide +kernel
theorem d_Q_lead_47 : decode c_Q_lead 47 = .ok (.iload_n 2, 1) := by decide +kernel
theorem d_Q_lead_48 : decode c_Q_lead 48 = .ok (.iload_n 3, 1) := by decide +kernel
theorem d_Q_lead_49 : decode c_Q_lead 49 = .ok (.invokevirtual 58, 3) := by decide +kernel
theorem d_Q_lead_52 : decode c_Q_lead 52 = .ok (.ifCond .ge 8, 3) := by decide +kernel
theorem d_Q_lead_55 : decode c_Q_lead 55 = .ok (.aload_n 1, 1) := by decide +kernel
theorem d_Q_lead_56 : decode c_Q_lead 56 = .ok (.iload_n 2, 1) := by decide +kernel
theorem d_Q_lead_57 : decode c_Q_lead 57 = .ok (.invokevirtual 62, 3) := by decide +kernel
theorem d_Q_lead_60 : decode c_Q_lead 60 = .ok (.return_, 1) := by decide +kernel
theorem d_Q_findCommon_0 : decode c_Q_findCommon 0 = .ok (.aload_n 0, 1) := by decide +kernel
theorem d_Q_findCommon_1 : decode c_Q_findCommon 1 = .ok (.getfield 34, 3) := by decide +kernel
theorem d_Q_findCommon_4 : decode c_Q_findCommon 4 = .ok (.invokevirtual 95, 3) := by decide +kernel
theorem d_Q_findCommon_7 : decode c_Q_findCommon 7 = .ok (.iconst 0, 1) := by decide +kernel
theorem d_Q_findCommon_8 : decode c_Q_findCommon 8 = .ok (.istore_n 2, 1) := by decide +kernel
theorem d_Q_findCommon_9 : decode c_Q_findCommon 9 = .ok (.iload_n 2, 1) := by decide +kernel
theorem d_Q_findCommon_10 : decode c_Q_findCommon 10 = .ok (.iload_n 1, 1) := by decide +kernel
theorem d_Q_findCommon_11 : decode c_Q_findCommon 11 = .ok (.if_icmp .ge 92, 3) := by decide +kernel
theorem d_Q_findCommon_14 : decode c_Q_findCommon 14 = .ok (.aload_n 0, 1) := by decide +kernel
theorem d_Q_findCommon_15 : decode c_Q_findCommon 15 = .ok (.getfield 34, 3) := by decide +kernel
theorem d_Q_findCommon_18 : decode c_Q_findCommon 18 = .ok (.invokevirtual 98, 3) := by decide +kernel
theorem d_Q_findCommon_21 : decode c_Q_findCommon 21 = .ok (.ifCond .ne 82, 3) := by decide +kernel
theorem d_Q_findCommon_24 : decode c_Q_findCommon 24 = .ok (.aload_n 0, 1) := by decide +kernel
theorem d_Q_findCommon_25 : decode c_Q_findCommon 25 = .ok (.getfield 37, 3) := by decide +kernel
theorem d_Q_findCommon_28 : decode c_Q_findCommon 28 = .ok (.aload_n 0, 1) := by decide +kernel
theorem d_Q_findCommon_29 : decode c_Q_findCommon 29 = .ok (.getfield 11, 3) := by decide +kernel
theorem d_Q_findCommon_32 : decode c_Q_findCommon 32 = .ok (.iload_n 2, 1) := by decide +kernel
theorem d_Q_findCommon_33 : decode c_Q_findCommon 33 = .ok (.aaload, 1) := by decide +kernel
theorem d_Q_findCommon_34 : decode c_Q_findCommon 34 = .ok (.invokevirtual 102, 3) := by decide +kernel
theorem d_Q_findCommon_37 : decode c_Q_findCommon 37 = .ok (.iconst 0, 1) := by decide +kernel
theorem d_Q_findCommon_38 : decode c_Q_findCommon 38 = .ok (.istore_n 3, 1) := by decide +kernel
theorem d_Q_findCommon_39 : decode c_Q_findCommon 39 = .ok (.iload_n 3, 1) := by decide +kernel
theorem d_Q_findCommon_40 : decode c_Q_findCommon 40 = .ok (.sipush 10000, 3) := by decide +kernel
theorem d_Q_findCommon_43 : decode c_Q_findCommon 43 = .ok (.if_icmp .ge 54, 3) := by decide +kernel
theorem d_Q_findCommon_46 : decode c_Q_findCommon 46 = .ok (.aload_n 0, 1) := by decide +kernel
theorem d_Q_findCommon_47 : decode c_Q_findCommon 47 = .ok (.getfield 37, 3) := by decide +kernel
theorem d_Q_findCommon_50 : decode c_Q_findCommon 50 = .ok (.getfield 105, 3) := by decide +kernel
theorem d_Q_findCommon_53 : decode c_Q_findCommon 53 = .ok (.ifCond .eq 44, 3) := by decide +kernel
theorem d_Q_findCommon_56 : decode c_Q_findCommon 56 = .ok (.aload_n 0, 1) := by decide +kernel
theorem d_Q_findCommon_57 : decode c_Q_findCommon 57 = .ok (.getfield 34, 3) := by decide +kernel
theorem d_Q_findCommon_60 : decode c_Q_findCommon 60 = .ok (.aload_n 0, 1) := by decide +kernel
theorem d_Q_findCommon_61 : decode c_Q_findCommon 61 = .ok (.getfield 37, 3) := by decide +kernel
theorem d_Q_findCommon_64 : decode c_Q_findCommon 64 = .ok (.aload_n 0, 1) := by decide +kernel
theorem d_Q_findCommon_65 : decode c_Q_findCommon 65 = .ok (.getfield 31, 3) := by decide +kernel
theorem d_Q_findCommon_68 : decode c_Q_findCommon 68 = .ok (.invokevirtual 108, 3) := by decide +kernel
theorem d_Q_findCommon_71 : decode c_Q_findCommon 71 = .ok (.aload_n 0, 1) := by decide +kernel
theorem d_Q_findCommon_72 : decode c_Q_findCommon 72 = .ok (.getfield 34, 3) := by decide +kernel
theorem d_Q_findCommon_75 : decode c_Q_findCommon 75 = .ok (.astore 4, 2) := by decide +kernel
theorem d_Q_findCommon_77 : decode c_Q_findCommon 77 = .ok (.aload_n 0, 1) := by decide +kernel
theorem d_Q_findCommon_78 : decode c_Q_findCommon 78 = .ok (.aload_n 0, 1) := by decide +kernel
theorem d_Q_findCommon_79 : decode c_Q_findCommon 79 = .ok (.getfield 37, 3) := by decide +kernel
theorem d_Q_findCommon_82 : decode c_Q_findCommon 82 = .ok (.putfield 34, 3) := by decide +kernel
theorem d_Q_findCommon_85 : decode c_Q_findCommon 85 = .ok (.aload_n 0, 1) := by decide +kernel
theorem d_Q_findCommon_86 : decode c_Q_findCommon 86 = .ok (.aload 4, 2) := by decide +kernel
theorem d_Q_findCommon_88 : decode c_Q_findCommon 88 = .ok (.putfield 37, 3) := by decide +kernel
theorem d_Q_findCommon_91 : decode c_Q_findCommon 91 = .ok (.iinc 3 1, 3) := by decide +kernel
theorem d_Q_findCommon_94 : decode c_Q_findCommon 94 = .ok (.goto (-55), 3) := by decide +kernel
theorem d_Q_findCommon_97 : decode c_Q_findCommon 97 = .ok (.iinc 2 1, 3) := by decide +kernel
theorem d_Q_findCommon_100 : decode c_Q_findCommon 100 = .ok (.goto (-91), 3) := by decide +kernel
theorem d_Q_findCommon_103 : decode c_Q_findCommon 103 = .ok (.return_, 1) := by decide +kernel
theorem d_JI_numberOfLeadingZeros_0 : decode c_JI_numberOfLeadingZeros 0 = .ok (.iload_n 0, 1) := by decide +kernel
theorem d_JI_numberOfLeadingZeros_1 : decode c_JI_numberOfLeadingZeros 1 = .ok (.ifCond .gt 14, 3) := by decide +kernel
theorem d_JI_numberOfLeadingZeros_4 : decode c_JI_numberOfLeadingZeros 4 = .ok (.iload_n 0, 1) := by decide +kernel
theorem d_JI_numberOfLeadingZeros_5 : decode c_JI_numberOfLeadingZeros 5 = .ok (.ifCond .ne 8, 3) := by decide +kernel
theorem d_JI_numberOfLeadingZeros_8 : decode c_JI_numberOfLeadingZeros 8 = .ok (.bipush 32, 2) := by decide +kernel
theorem d_JI_numberOfLeadingZeros_10 : decode c_JI_numberOfLeadingZeros 10 = .ok (.goto 4, 3) := by decide +kernel
theorem d_JI_numberOfLeadingZeros_13 : decode c_JI_numberOfLeadingZeros 13 = .ok (.iconst 0, 1) := by decide +kernel
theorem d_JI_numberOfLeadingZeros_14 : decode c_JI_numberOfLeadingZeros 14 = .ok (.ireturn, 1) := by decide +kernel
theorem d_JI_numberOfLeadingZeros_15 : decode c_JI_numberOfLeadingZeros 15 = .ok (.bipush 31, 2) := by decide +kernel
theorem d_JI_numberOfLeadingZeros_17 : decode c_JI_numberOfLeadingZeros 17 = .ok (.istore_n 1, 1) := by decide +kernel
theorem d_JI_numberOfLeadingZeros_18 : decode c_JI_numberOfLeadingZeros 18 = .ok (.iload_n 0, 1) := by decide +kernel
theorem d_JI_numberOfLeadingZeros_19 : decode c_JI_numberOfLeadingZeros 19 = .ok (.ldc_w 264, 3) := by decide +kernel
theorem d_JI_numberOfLeadingZeros_22 : decode c_JI_numberOfLeadingZeros 22 = .ok (.if_icmp .lt 11, 3) := by decide +kernel
theorem d_JI_numberOfLeadingZeros_25 : decode c_JI_numberOfLeadingZeros 25 = .ok (.iinc 1 (-16), 3) := by decide +kernel
theorem d_JI_numberOfLeadingZeros_28 : decode c_JI_numberOfLeadingZeros 28 = .ok (.iload_n 0, 1) := by decide +kernel
theorem d_JI_numberOfLeadingZeros_29 : decode c_JI_numberOfLeadingZeros 29 = .ok (.bipush 16, 2) := by decide +kernel
theorem d_JI_numberOfLeadingZeros_31 : decode c_JI_numberOfLeadingZeros 31 = .ok (.iushr, 1) := by decide +kernel
theorem d_JI_numberOfLeadingZeros_32 : decode c_JI_numberOfLeadingZeros 32 = .ok (.istore_n 0, 1) := by decide +kernel
theorem d_JI_numberOfLeadingZeros_33 : decode c_JI_numberOfLeadingZeros 33 = .ok (.iload_n 0, 1) := by decide +kernel
theorem d_JI_numberOfLeadingZeros_34 : decode c_JI_numberOfLeadingZeros 34 = .ok (.sipush 256, 3) := by decide +kernel
theorem d_JI_numberOfLeadingZeros_37 : decode c_JI_numberOfLeadingZeros 37 = .ok (.if_icmp .lt 11, 3) := by decide +kernel
theorem d_JI_numberOfLeadingZeros_40 : decode c_JI_numberOfLeadingZeros 40 = .ok (.iinc 1 (-8), 3) := by decide +kernel
theorem d_JI_numberOfLeadingZeros_43 : decode c_JI_numberOfLeadingZeros 43 = .ok (.iload_n 0, 1) := by decide +kernel
theorem d_JI_numberOfLeadingZeros_44 : decode c_JI_numberOfLeadingZeros 44 = .ok (.bipush 8, 2) := by decide +kernel
theorem d_JI_numberOfLeadingZeros_46 : decode c_JI_numberOfLeadingZeros 46 = .ok (.iushr, 1) := by decide +kernel
theorem d_JI_numberOfLeadingZeros_47 : decode c_JI_numberOfLeadingZeros 47 = .ok (.istore_n 0, 1) := by decide +kernel
theorem d_JI_numberOfLeadingZeros_48 : decode c_JI_numberOfLeadingZeros 48 = .ok (.iload_n 0, 1) := by decide +kernel
theorem d_JI_numberOfLeadingZeros_49 : decode c_JI_numberOfLeadingZeros 49 = .ok (.bipush 16, 2) := by decide +kernel
theorem d_JI_numberOfLeadingZeros_51 : decode c_JI_numberOfLeadingZeros 51 = .ok (.if_icmp .lt 10, 3) := by decide +kernel
theorem d_JI_numberOfLeadingZeros_54 : decode c_JI_numberOfLeadingZeros 54 = .ok (.iinc 1 (-4), 3) := by decide +kernel
theorem d_JI_numberOfLeadingZeros_57 : decode c_JI_numberOfLeadingZeros 57 = .ok (.iload_n 0, 1) := by decide +kernel
theorem d_JI_numberOfLeadingZeros_58 : decode c_JI_numberOfLeadingZeros 58 = .ok (.iconst 4, 1) := by decide +kernel
theorem d_JI_numberOfLeadingZeros_59 : decode c_JI_numberOfLeadingZeros 59 = .ok (.iushr, 1) := by decide +kernel
theorem d_JI_numberOfLeadingZeros_60 : decode c_JI_numberOfLeadingZeros 60 = .ok (.istore_n 0, 1) := by decide +kernel
theorem d_JI_numberOfLeadingZeros_61 : decode c_JI_numberOfLeadingZeros 61 = .ok (.iload_n 0, 1) := by decide +kernel
theorem d_JI_numberOfLeadingZeros_62 : decode c_JI_numberOfLeadingZeros 62 = .ok (.iconst 4, 1) := by decide +kernel
theorem d_JI_numberOfLeadingZeros_63 : decode c_JI_numberOfLeadingZeros 63 = .ok (.if_icmp .lt 10, 3) := by decide +kernel
theorem d_JI_numberOfLeadingZeros_66 : decode c_JI_numberOfLeadingZeros 66 = .ok (.iinc 1 (-2), 3) := by decide +kernel
theorem d_JI_numberOfLeadingZeros_69 : decode c_JI_numberOfLeadingZeros 69 = .ok (.iload_n 0, 1) := by decide +kernel
theorem d_JI_numberOfLeadingZeros_70 : decode c_JI_numberOfLeadingZeros 70 = .ok (.iconst 2, 1) := by decide +kernel
theorem d_JI_numberOfLeadingZeros_71 : decode c_JI_numberOfLeadingZeros 71 = .ok (.iushr, 1) := by decide +kernel
theorem d_JI_numberOfLeadingZeros_72 : decode c_JI_numberOfLeadingZeros 72 = .ok (.istore_n 0, 1) := by decide +kernel
theorem d_JI_numberOfLeadingZeros_73 : decode c_JI_numberOfLeadingZeros 73 = .ok (.iload_n 1, 1) := by decide +kernel
theorem d_JI_numberOfLeadingZeros_74 : decode c_JI_numberOfLeadingZeros 74 = .ok (.iload_n 0, 1) := by decide +kernel
theorem d_JI_numberOfLeadingZeros_75 : decode c_JI_numberOfLeadingZeros 75 = .ok (.iconst 1, 1) := by decide +kernel
theorem d_JI_numberOfLeadingZeros_76 : decode c_JI_numberOfLeadingZeros 76 = .ok (.iushr, 1) := by decide +kernel
theorem d_JI_numberOfLeadingZeros_77 : decode c_JI_numberOfLeadingZeros 77 = .ok (.isub, 1) := by decide +kernel
theorem d_JI_numberOfLeadingZeros_78 : decode c_JI_numberOfLeadingZeros 78 = .ok (.ireturn, 1) := by decide +kernel
theorem d_JM_max_0_0 : decode c_JM_max_0 0 = .ok (.lload_n 0, 1) := by decide +kernel
theorem d_JM_max_0_1 : decode c_JM_max_0 1 = .ok (.lload_n 2, 1) := by decide +kernel
theorem d_JM_max_0_2 : decode c_JM_max_0 2 = .ok (.lcmp, 1) := by decide +kernel
theorem d_JM_max_0_3 : decode c_JM_max_0 3 = .ok (.ifCond .lt 7, 3) := by decide +kernel
theorem d_JM_max_0_6 : decode c_JM_max_0 6 = .ok (.lload_n 0, 1) := by decide +kernel
theorem d_JM_max_0_7 : decode c_JM_max_0 7 = .ok (.goto 4, 3) := by decide +kernel
theorem d_JM_max_0_10 : decode c_JM_max_0 10 = .ok (.lload_n 2, 1) := by decide +kernel
theorem d_JM_max_0_11 : decode c_JM_max_0 11 = .ok (.lreturn, 1) := by decide +kernel
theorem d_JM_min_0_0 : decode c_JM_min_0 0 = .ok (.lload_n 0, 1) := by decide +kernel
theorem d_JM_min_0_1 : decode c_JM_min_0 1 = .ok (.lload_n 2, 1) := by decide +kernel
theorem d_JM_min_0_2 : decode c_JM_min_0 2 = .ok (.lcmp, 1) := by decide +kernel
theorem d_JM_min_0_3 : decode c_JM_min_0 3 = .ok (.ifCond .gt 7, 3) := by decide +kernel
theorem d_JM_min_0_6 : decode c_JM_min_0 6 = .ok (.lload_n 0, 1) := by decide +kernel
theorem d_JM_min_0_7 : decode c_JM_min_0 7 = .ok (.goto 4, 3) := by decide +kernel
theorem d_JM_min_0_10 : decode c_JM_min_0 10 = .ok (.lload_n 2, 1) := by decide +kernel
theorem d_JM_min_0_11 : decode c_JM_min_0 11 = .ok (.lreturn, 1) := by decide +kernel
theorem d_Q_storeLine_0 : decode c_Q_storeLine 0 = .ok (.iconst 0, 1) := by decide +kernel
theorem d_Q_storeLine_1 : decode c_Q_storeLine 1 = .ok (.istore_n 3, 1) := by decide +kernel
theorem d_Q_storeLine_2 : decode c_Q_storeLine 2 = .ok (.iload_n 3, 1) := by decide +kernel
theorem d_Q_storeLine_3 : decode c_Q_storeLine 3 = .ok (.aload_n 1, 1) := by decide +kernel
theorem d_Q_storeLine_4 : decode c_Q_storeLine 4 = .ok (.getfield 40, 3) := by decide +kernel
theorem d_Q_storeLine_7 : decode c_Q_storeLine 7 = .ok (.if_icmp .ge 61, 3) := by decide +kernel
theorem d_Q_storeLine_10 : decode c_Q_storeLine 10 = .ok (.aload_n 0, 1) := by decide +kernel
theorem d_Q_storeLine_11 : decode c_Q_storeLine 11 = .ok (.getfield 34, 3) := by decide +kernel
theorem d_Q_storeLine_14 : decode c_Q_storeLine 14 = .ok (.invokevirtual 98, 3) := by decide +kernel
theorem d_Q_storeLine_17 : decode c_Q_storeLine 17 = .ok (.ifCond .eq 18, 3) := by decide +kernel
theorem d_Q_storeLine_20 : decode c_Q_storeLine 20 = .ok (.aload_n 1, 1) := by decide +kernel
theorem d_Q_storeLine_21 : decode c_Q_storeLine 21 = .ok (.iload_n 2, 1) := by decide +kernel
theorem d_Q_storeLine_22 : decode c_Q_storeLine 22 = .ok (.iload_n 3, 1) := by decide +kernel
theorem d_Q_storeLine_23 : decode c_Q_storeLine 23 = .ok (.aload_n 0, 1) := by decide +kernel
theorem d_Q_storeLine_24 : decode c_Q_storeLine 24 = .ok (.getfield 11, 3) := by decide +kernel
theorem d_Q_storeLine_27 : decode c_Q_storeLine 27 = .ok (.iload_n 3, 1) := by decide +kernel
theorem d_Q_storeLine_28 : decode c_Q_storeLine 28 = .ok (.aaload, 1) := by decide +kernel
theorem d_Q_storeLine_29 : decode c_Q_storeLine 29 = .ok (.invokevirtual 111, 3) := by decide +kernel
theorem d_Q_storeLine_32 : decode c_Q_storeLine 32 = .ok (.goto 30, 3) := by decide +kernel
theorem d_Q_storeLine_35 : decode c_Q_storeLine 35 = .ok (.aload_n 0, 1) := by decide +kernel
theorem d_Q_storeLine_36 : decode c_Q_storeLine 36 = .ok (.getfield 11, 3) := by decide +kernel
theorem d_Q_storeLine_39 : decode c_Q_storeLine 39 = .ok (.iload_n 3, 1) := by decide +kernel
theorem d_Q_storeLine_40 : decode c_Q_storeLine 40 = .ok (.aaload, 1) := by decide +kernel
theorem d_Q_storeLine_41 : decode c_Q_storeLine 41 = .ok (.aload_n 0, 1) := by decide +kernel
theorem d_Q_storeLine_42 : decode c_Q_storeLine 42 = .ok (.getfield 34, 3) := by decide +kernel
theorem d_Q_storeLine_45 : decode c_Q_storeLine 45 = .ok (.aload_n 0, 1) := by decide +kernel
theorem d_Q_storeLine_46 : decode c_Q_storeLine 46 = .ok (.getfield 31, 3) := by decide +kernel
theorem d_Q_storeLine_49 : decode c_Q_storeLine 49 = .ok (.invokevirtual 108, 3) := by decide +kernel
theorem d_Q_storeLine_52 : decode c_Q_storeLine 52 = .ok (.aload_n 1, 1) := by decide +kernel
theorem d_Q_storeLine_53 : decode c_Q_storeLine 53 = .ok (.iload_n 2, 1) := by decide +kernel
theorem d_Q_storeLine_54 : decode c_Q_storeLine 54 = .ok (.iload_n 3, 1) := by decide +kernel
theorem d_Q_storeLine_55 : decode c_Q_storeLine 55 = .ok (.aload_n 0, 1) := by decide +kernel
theorem d_Q_storeLine_56 : decode c_Q_storeLine 56 = .ok (.getfield 31, 3) := by decide +kernel
theorem d_Q_storeLine_59 : decode c_Q_storeLine 59 = .ok (.invokevirtual 111, 3) := by decide +kernel
theorem d_Q_storeLine_62 : decode c_Q_storeLine 62 = .ok (.iinc 3 1, 3) := by decide +kernel
theorem d_Q_storeLine_65 : decode c_Q_storeLine 65 = .ok (.goto (-63), 3) := by decide +kernel
theorem d_Q_storeLine_68 : decode c_Q_storeLine 68 = .ok (.return_, 1) := by decide +kernel
theorem d_JM_min_1_0 : decode c_JM_min_1 0 = .ok (.iload_n 0, 1) := by decide +kernel
theorem d_JM_min_1_1 : decode c_JM_min_1 1 = .ok (.iload_n 1, 1) := by decide +kernel
theorem d_JM_min_1_2 : decode c_JM_min_1 2 = .ok (.if_icmp .gt 7, 3) := by decide +kernel
theorem d_JM_min_1_5 : decode c_JM_min_1 5 = .ok (.iload_n 0, 1) := by decide +kernel
theorem d_JM_min_1_6 : decode c_JM_min_1 6 = .ok (.goto 4, 3) := by decide +kernel
theorem d_JM_min_1_9 : decode c_JM_min_1 9 = .ok (.iload_n 1, 1) := by decide +kernel
theorem d_JM_min_1_10 : decode c_JM_min_1 10 = .ok (.ireturn, 1) := by decide +kernel
theorem d_P_lead_0 : decode c_P_lead 0 = .ok (.aload_n 1, 1) := by decide +kernel
theorem d_P_lead_1 : decode c_P_lead 1 = .ok (.iload_n 2, 1) := by decide +kernel
theorem d_P_lead_2 : decode c_P_lead 2 = .ok (.iload_n 3, 1) := by decide +kernel
theorem d_P_lead_3 : decode c_P_lead 3 = .ok (.invokevirtual 7, 3) := by decide +kernel
theorem d_P_lead_6 : decode c_P_lead 6 = .ok (.aload_n 1, 1) := by decide +kernel
theorem d_P_lead_7 : decode c_P_lead 7 = .ok (.getfield 13, 3) := by decide +kernel
theorem d_P_lead_10 : decode c_P_lead 10 = .ok (.invokestatic 17, 3) := by decide +kernel
theorem d_P_lead_13 : decode c_P_lead 13 = .ok (.istore 4, 2) := by decide +kernel
theorem d_P_lead_15 : decode c_P_lead 15 = .ok (.iconst 0, 1) := by decide +kernel
theorem d_P_lead_16 : decode c_P_lead 16 = .ok (.istore 5, 2) := by decide +kernel
theorem d_P_lead_18 : decode c_P_lead 18 = .ok (.iload 5, 2) := by decide +kernel
theorem d_P_lead_20 : decode c_P_lead 20 = .ok (.aload_n 1, 1) := by decide +kernel
theorem d_P_lead_21 : decode c_P_lead 21 = .ok (.getfield 22, 3) := by decide +kernel
theorem d_P_lead_24 : decode c_P_lead 24 = .ok (.if_icmp .ge 33, 3) := by decide +kernel
theorem d_P_lead_27 : decode c_P_lead 27 = .ok (.aload_n 1, 1) := by decide +kernel
theorem d_P_lead_28 : decode c_P_lead 28 = .ok (.iload_n 2, 1) := by decide +kernel
theorem d_P_lead_29 : decode c_P_lead 29 = .ok (.iload 5, 2) := by decide +kernel
theorem d_P_lead_31 : decode c_P_lead 31 = .ok (.iload 4, 2) := by decide +kernel
theorem d_P_lead_33 : decode c_P_lead 33 = .ok (.aload_n 1, 1) := by decide +kernel
theorem d_P_lead_34 : decode c_P_lead 34 = .ok (.iload_n 2, 1) := by decide +kernel
theorem d_P_lead_35 : decode c_P_lead 35 = .ok (.iload 5, 2) := by decide +kernel
theorem d_P_lead_37 : decode c_P_lead 37 = .ok (.invokevirtual 7, 3) := by decide +kernel
theorem d_P_lead_40 : decode c_P_lead 40 = .ok (.imul, 1) := by decide +kernel
theorem d_P_lead_41 : decode c_P_lead 41 = .ok (.aload_n 1, 1) := by decide +kernel
theorem d_P_lead_42 : decode c_P_lead 42 = .ok (.getfield 13, 3) := by decide +kernel
theorem d_P_lead_45 : decode c_P_lead 45 = .ok (.invokestatic 25, 3) := by decide +kernel
theorem d_P_lead_48 : decode c_P_lead 48 = .ok (.invokevirtual 30, 3) := by decide +kernel
theorem d_P_lead_51 : decode c_P_lead 51 = .ok (.iinc 5 1, 3) := by decide +kernel
theorem d_P_lead_54 : decode c_P_lead 54 = .ok (.goto (-36), 3) := by decide +kernel
theorem d_P_lead_57 : decode c_P_lead 57 = .ok (.return_, 1) := by decide +kernel
theorem d_P_inverse_0 : decode c_P_inverse 0 = .ok (.iconst 1, 1) := by decide +kernel
theorem d_P_inverse_1 : decode c_P_inverse 1 = .ok (.istore_n 2, 1) := by decide +kernel
theorem d_P_inverse_2 : decode c_P_inverse 2 = .ok (.iload_n 2, 1) := by decide +kernel
theorem d_P_inverse_3 : decode c_P_inverse 3 = .ok (.iload_n 1, 1) := by decide +kernel
theorem d_P_inverse_4 : decode c_P_inverse 4 = .ok (.if_icmp .ge 20, 3) := by decide +kernel
theorem d_P_inverse_7 : decode c_P_inverse 7 = .ok (.iload_n 2, 1) := by decide +kernel
theorem d_P_inverse_8 : decode c_P_inverse 8 = .ok (.iload_n 0, 1) := by decide +kernel
theorem d_P_inverse_9 : decode c_P_inverse 9 = .ok (.imul, 1) := by decide +kernel
theorem d_P_inverse_10 : decode c_P_inverse 10 = .ok (.iload_n 1, 1) := by decide +kernel
theorem d_P_inverse_11 : decode c_P_inverse 11 = .ok (.irem, 1) := by decide +kernel
theorem d_P_inverse_12 : decode c_P_inverse 12 = .ok (.iconst 1, 1) := by decide +kernel
theorem d_P_inverse_13 : decode c_P_inverse 13 = .ok (.if_icmp .ne 5, 3) := by decide +kernel
theorem d_P_inverse_16 : decode c_P_inverse 16 = .ok (.iload_n 2, 1) := by decide +kernel
theorem d_P_inverse_17 : decode c_P_inverse 17 = .ok (.ireturn, 1) := by decide +kernel
theorem d_P_inverse_18 : decode c_P_inverse 18 = .ok (.iinc 2 1, 3) := by decide +kernel
theorem d_P_inverse_21 : decode c_P_inverse 21 = .ok (.goto (-19), 3) := by decide +kernel
theorem d_P_inverse_24 : decode c_P_inverse 24 = .ok (.iconst 1, 1) := by decide +kernel
theorem d_P_inverse_25 : decode c_P_inverse 25 = .ok (.ireturn, 1) := by decide +kernel
theorem d_Q_clear_0 : decode c_Q_clear 0 = .ok (.aload_n 1, 1) := by decide +kernel
theorem d_Q_clear_1 : decode c_Q_clear 1 = .ok (.iload_n 3, 1) := by decide +kernel
theorem d_Q_clear_2 : decode c_Q_clear 2 = .ok (.iload 4, 2) := by decide +kernel
theorem d_Q_clear_4 : decode c_Q_clear 4 = .ok (.aload_n 0, 1) := by decide +kernel
theorem d_Q_clear_5 : decode c_Q_clear 5 = .ok (.getfield 25, 3) := by decide +kernel
theorem d_Q_clear_8 : decode c_Q_clear 8 = .ok (.invokevirtual 46, 3) := by decide +kernel
theorem d_Q_clear_11 : decode c_Q_clear 11 = .ok (.aload_n 1, 1) := by decide +kernel
theorem d_Q_clear_12 : decode c_Q_clear 12 = .ok (.iload_n 2, 1) := by decide +kernel
theorem d_Q_clear_13 : decode c_Q_clear 13 = .ok (.iload 4, 2) := by decide +kernel
theorem d_Q_clear_15 : decode c_Q_clear 15 = .ok (.aload_n 0, 1) := by decide +kernel
theorem d_Q_clear_16 : decode c_Q_clear 16 = .ok (.getfield 28, 3) := by decide +kernel
theorem d_Q_clear_19 : decode c_Q_clear 19 = .ok (.invokevirtual 46, 3) := by decide +kernel
theorem d_Q_clear_22 : decode c_Q_clear 22 = .ok (.iconst 0, 1) := by decide +kernel
theorem d_Q_clear_23 : decode c_Q_clear 23 = .ok (.istore 5, 2) := by decide +kernel
theorem d_Q_clear_25 : decode c_Q_clear 25 = .ok (.iload 5, 2) := by decide +kernel
theorem d_Q_clear_27 : decode c_Q_clear 27 = .ok (.aload_n 1, 1) := by decide +kernel
theorem d_Q_clear_28 : decode c_Q_clear 28 = .ok (.getfield 40, 3) := by decide +kernel
theorem d_Q_clear_31 : decode c_Q_clear 31 = .ok (.if_icmp .ge 78, 3) := by decide +kernel
theorem d_Q_clear_34 : decode c_Q_clear 34 = .ok (.aload_n 1, 1) := by decide +kernel
theorem d_Q_clear_35 : decode c_Q_clear 35 = .ok (.iload_n 2, 1) := by decide +kernel
theorem d_Q_clear_36 : decode c_Q_clear 36 = .ok (.iload 5, 2) := by decide +kernel
theorem d_Q_clear_38 : decode c_Q_clear 38 = .ok (.aload_n 0, 1) := by decide +kernel
theorem d_Q_clear_39 : decode c_Q_clear 39 = .ok (.getfield 18, 3) := by decide +kernel
theorem d_Q_clear_42 : decode c_Q_clear 42 = .ok (.invokevirtual 46, 3) := by decide +kernel
theorem d_Q_clear_45 : decode c_Q_clear 45 = .ok (.aload_n 0, 1) := by decide +kernel
theorem d_Q_clear_46 : decode c_Q_clear 46 = .ok (.getfield 11, 3) := by decide +kernel
theorem d_Q_clear_49 : decode c_Q_clear 49 = .ok (.iload 5, 2) := by decide +kernel
theorem d_Q_clear_51 : decode c_Q_clear 51 = .ok (.aaload, 1) := by decide +kernel
theorem d_Q_clear_52 : decode c_Q_clear 52 = .ok (.aload_n 0, 1) := by decide +kernel
theorem d_Q_clear_53 : decode c_Q_clear 53 = .ok (.getfield 18, 3) := by decide +kernel
theorem d_Q_clear_56 : decode c_Q_clear 56 = .ok (.aload_n 0, 1) := by decide +kernel
theorem d_Q_clear_57 : decode c_Q_clear 57 = .ok (.getfield 25, 3) := by decide +kernel
theorem d_Q_clear_60 : decode c_Q_clear 60 = .ok (.invokevirtual 65, 3) := by decide +kernel
theorem d_Q_clear_63 : decode c_Q_clear 63 = .ok (.aload_n 1, 1) := by decide +kernel
theorem d_Q_clear_64 : decode c_Q_clear 64 = .ok (.iload_n 3, 1) := by decide +kernel
theorem d_Q_clear_65 : decode c_Q_clear 65 = .ok (.iload 5, 2) := by decide +kernel
theorem d_Q_clear_67 : decode c_Q_clear 67 = .ok (.aload_n 0, 1) := by decide +kernel
theorem d_Q_clear_68 : decode c_Q_clear 68 = .ok (.getfield 18, 3) := by decide +kernel
theorem d_Q_clear_71 : decode c_Q_clear 71 = .ok (.invokevirtual 46, 3) := by decide +kernel
theorem d_Q_clear_74 : decode c_Q_clear 74 = .ok (.aload_n 0, 1) := by decide +kernel
theorem d_Q_clear_75 : decode c_Q_clear 75 = .ok (.getfield 22, 3) := by decide +kernel
theorem d_Q_clear_78 : decode c_Q_clear 78 = .ok (.aload_n 0, 1) := by decide +kernel
theorem d_Q_clear_79 : decode c_Q_clear 79 = .ok (.getfield 18, 3) := by decide +kernel
theorem d_Q_clear_82 : decode c_Q_clear 82 = .ok (.aload_n 0, 1) := by decide +kernel
theorem d_Q_clear_83 : decode c_Q_clear 83 = .ok (.getfield 28, 3) := by decide +kernel
theorem d_Q_clear_86 : decode c_Q_clear 86 = .ok (.invokevirtual 65, 3) := by decide +kernel
theorem d_Q_clear_89 : decode c_Q_clear 89 = .ok (.aload_n 0, 1) := by decide +kernel
theorem d_Q_clear_90 : decode c_Q_clear 90 = .ok (.getfield 11, 3) := by decide +kernel
theorem d_Q_clear_93 : decode c_Q_clear 93 = .ok (.iload 5, 2) := by decide +kernel
theorem d_Q_clear_95 : decode c_Q_clear 95 = .ok (.aaload, 1) := by decide +kernel
theorem d_Q_clear_96 : decode c_Q_clear 96 = .ok (.aload_n 0, 1) := by decide +kernel
theorem d_Q_clear_97 : decode c_Q_clear 97 = .ok (.getfield 22, 3) := by decide +kernel
theorem d_Q_clear_100 : decode c_Q_clear 100 = .ok (.invokevirtual 69, 3) := by decide +kernel
theorem d_Q_clear_103 : decode c_Q_clear 103 = .ok (.iinc 5 1, 3) := by decide +kernel
theorem d_Q_clear_106 : decode c_Q_clear 106 = .ok (.goto (-81), 3) := by decide +kernel
theorem d_Q_clear_109 : decode c_Q_clear 109 = .ok (.aload_n 0, 1) := by decide +kernel
theorem d_Q_clear_110 : decode c_Q_clear 110 = .ok (.aload_n 1, 1) := by decide +kernel
theorem d_Q_clear_111 : decode c_Q_clear 111 = .ok (.getfield 40, 3) := by decide +kernel
theorem d_Q_clear_114 : decode c_Q_clear 114 = .ok (.invokevirtual 50, 3) := by decide +kernel
theorem d_Q_clear_117 : decode c_Q_clear 117 = .ok (.aload_n 0, 1) := by decide +kernel
theorem d_Q_clear_118 : decode c_Q_clear 118 = .ok (.aload_n 1, 1) := by decide +kernel
theorem d_Q_clear_119 : decode c_Q_clear 119 = .ok (.iload_n 2, 1) := by decide +kernel
theorem d_Q_clear_120 : decode c_Q_clear 120 = .ok (.invokevirtual 54, 3) := by decide +kernel
theorem d_Q_clear_123 : decode c_Q_clear 123 = .ok (.return_, 1) := by decide +kernel
theorem d_JA_fill_1_0 : decode c_JA_fill_1 0 = .ok (.aload_n 0, 1) := by decide +kernel
theorem d_JA_fill_1_1 : decode c_JA_fill_1 1 = .ok (.arraylength, 1) := by decide +kernel
theorem d_JA_fill_1_2 : decode c_JA_fill_1 2 = .ok (.iload_n 1, 1) := by decide +kernel
theorem d_JA_fill_1_3 : decode c_JA_fill_1 3 = .ok (.iload_n 2, 1) := by decide +kernel
theorem d_JA_fill_1_4 : decode c_JA_fill_1 4 = .ok (.invokestatic 13, 3) := by decide +kernel
theorem d_JA_fill_1_7 : decode c_JA_fill_1 7 = .ok (.iload_n 1, 1) := by decide +kernel
theorem d_JA_fill_1_8 : decode c_JA_fill_1 8 = .ok (.istore 4, 2) := by decide +kernel
theorem d_JA_fill_1_10 : decode c_JA_fill_1 10 = .ok (.iload 4, 2) := by decide +kernel
theorem d_JA_fill_1_12 : decode c_JA_fill_1 12 = .ok (.iload_n 2, 1) := by decide +kernel
theorem d_JA_fill_1_13 : decode c_JA_fill_1 13 = .ok (.if_icmp .ge 14, 3) := by decide +kernel
theorem d_JA_fill_1_16 : decode c_JA_fill_1 16 = .ok (.aload_n 0, 1) := by decide +kernel
theorem d_JA_fill_1_17 : decode c_JA_fill_1 17 = .ok (.iload 4, 2) := by decide +kernel
theorem d_JA_fill_1_19 : decode c_JA_fill_1 19 = .ok (.iload_n 3, 1) := by decide +kernel
theorem d_JA_fill_1_20 : decode c_JA_fill_1 20 = .ok (.iastore, 1) := by decide +kernel
theorem d_JA_fill_1_21 : decode c_JA_fill_1 21 = .ok (.iinc 4 1, 3) := by decide +kernel
theorem d_JA_fill_1_24 : decode c_JA_fill_1 24 = .ok (.goto (-14), 3) := by decide +kernel
theorem d_JA_fill_1_27 : decode c_JA_fill_1 27 = .ok (.return_, 1) := by decide +kernel
theorem d_JA_rangeCheck_0 : decode c_JA_rangeCheck 0 = .ok (.iload_n 1, 1) := by decide +kernel
theorem d_JA_rangeCheck_1 : decode c_JA_rangeCheck 1 = .ok (.iload_n 2, 1) := by decide +kernel
theorem d_JA_rangeCheck_2 : decode c_JA_rangeCheck 2 = .ok (.if_icmp .le 44, 3) := by decide +kernel
theorem d_JA_rangeCheck_5 : decode c_JA_rangeCheck 5 = .ok (.new 43, 3) := by decide +kernel
theorem d_JA_rangeCheck_8 : decode c_JA_rangeCheck 8 = .ok (.dup, 1) := by decide +kernel
theorem d_JA_rangeCheck_9 : decode c_JA_rangeCheck 9 = .ok (.new 45, 3) := by decide +kernel
theorem d_JA_rangeCheck_12 : decode c_JA_rangeCheck 12 = .ok (.dup, 1) := by decide +kernel
theorem d_JA_rangeCheck_13 : decode c_JA_rangeCheck 13 = .ok (.invokespecial 47, 3) := by decide +kernel
theorem d_JA_rangeCheck_16 : decode c_JA_rangeCheck 16 = .ok (.ldc 48, 2) := by decide +kernel
theorem d_JA_rangeCheck_18 : decode c_JA_rangeCheck 18 = .ok (.invokevirtual 50, 3) := by decide +kernel
theorem d_JA_rangeCheck_21 : decode c_JA_rangeCheck 21 = .ok (.iload_n 1, 1) := by decide +kernel
theorem d_JA_rangeCheck_22 : decode c_JA_rangeCheck 22 = .ok (.invokevirtual 54, 3) := by decide +kernel
theorem d_JA_rangeCheck_25 : decode c_JA_rangeCheck 25 = .ok (.ldc 57, 2) := by decide +kernel
theorem d_JA_rangeCheck_27 : decode c_JA_rangeCheck 27 = .ok (.invokevirtual 50, 3) := by decide +kernel
theorem d_JA_rangeCheck_30 : decode c_JA_rangeCheck 30 = .ok (.iload_n 2, 1) := by decide +kernel
theorem d_JA_rangeCheck_31 : decode c_JA_rangeCheck 31 = .ok (.invokevirtual 54, 3) := by decide +kernel
theorem d_JA_rangeCheck_34 : decode c_JA_rangeCheck 34 = .ok (.ldc 59, 2) := by decide +kernel
theorem d_JA_rangeCheck_36 : decode c_JA_rangeCheck 36 = .ok (.invokevirtual 50, 3) := by decide +kernel
theorem d_JA_rangeCheck_39 : decode c_JA_rangeCheck 39 = .ok (.invokevirtual 61, 3) := by decide +kernel
theorem d_JA_rangeCheck_42 : decode c_JA_rangeCheck 42 = .ok (.invokespecial 65, 3) := by decide +kernel
theorem d_JA_rangeCheck_45 : decode c_JA_rangeCheck 45 = .ok (.athrow, 1) := by decide +kernel
theorem d_JA_rangeCheck_46 : decode c_JA_rangeCheck 46 = .ok (.iload_n 1, 1) := by decide +kernel
theorem d_JA_rangeCheck_47 : decode c_JA_rangeCheck 47 = .ok (.ifCond .ge 12, 3) := by decide +kernel
theorem d_JA_rangeCheck_50 : decode c_JA_rangeCheck 50 = .ok (.new 68, 3) := by decide +kernel
theorem d_JA_rangeCheck_53 : decode c_JA_rangeCheck 53 = .ok (.dup, 1) := by decide +kernel
theorem d_JA_rangeCheck_54 : decode c_JA_rangeCheck 54 = .ok (.iload_n 1, 1) := by decide +kernel
theorem d_JA_rangeCheck_55 : decode c_JA_rangeCheck 55 = .ok (.invokespecial 70, 3) := by decide +kernel
theorem d_JA_rangeCheck_58 : decode c_JA_rangeCheck 58 = .ok (.athrow, 1) := by decide +kernel
theorem d_JA_rangeCheck_59 : decode c_JA_rangeCheck 59 = .ok (.iload_n 2, 1) := by decide +kernel
theorem d_JA_rangeCheck_60 : decode c_JA_rangeCheck 60 = .ok (.iload_n 0, 1) := by decide +kernel
theorem d_JA_rangeCheck_61 : decode c_JA_rangeCheck 61 = .ok (.if_icmp .le 12, 3) := by decide +kernel
theorem d_JA_rangeCheck_64 : decode c_JA_rangeCheck 64 = .ok (.new 68, 3) := by decide +kernel
theorem d_JA_rangeCheck_67 : decode c_JA_rangeCheck 67 = .ok (.dup, 1) := by decide +kernel
theorem d_JA_rangeCheck_68 : decode c_JA_rangeCheck 68 = .ok (.iload_n 2, 1) := by decide +kernel
theorem d_JA_rangeCheck_69 : decode c_JA_rangeCheck 69 = .ok (.invokespecial 70, 3) := by decide +kernel
theorem d_JA_rangeCheck_72 : decode c_JA_rangeCheck 72 = .ok (.athrow, 1) := by decide +kernel
theorem d_JA_rangeCheck_73 : decode c_JA_rangeCheck 73 = .ok (.return_, 1) := by decide +kernel
theorem d_JM_max_1_0 : decode c_JM_max_1 0 = .ok (.iload_n 0, 1) := by decide +kernel
theorem d_JM_max_1_1 : decode c_JM_max_1 1 = .ok (.iload_n 1, 1) := by decide +kernel
theorem d_JM_max_1_2 : decode c_JM_max_1 2 = .ok (.if_icmp .lt 7, 3) := by decide +kernel
theorem d_JM_max_1_5 : decode c_JM_max_1 5 = .ok (.iload_n 0, 1) := by decide +kernel
theorem d_JM_max_1_6 : decode c_JM_max_1 6 = .ok (.goto 4, 3) := by decide +kernel
theorem d_JM_max_1_9 : decode c_JM_max_1 9 = .ok (.iload_n 1, 1) := by decide +kernel
theorem d_JM_max_1_10 : decode c_JM_max_1 10 = .ok (.ireturn, 1) := by decide +kernel
theorem d_JI_compare_0 : decode c_JI_compare 0 = .ok (.iload_n 0, 1) := by decide +kernel
theorem d_JI_compare_1 : decode c_JI_compare 1 = .ok (.iload_n 1, 1) := by decide +kernel
theorem d_JI_compare_2 : decode c_JI_compare 2 = .ok (.if_icmp .ge 7, 3) := by decide +kernel
theorem d_JI_compare_5 : decode c_JI_compare 5 = .ok (.iconst (-1), 1) := by decide +kernel
theorem d_JI_compare_6 : decode c_JI_compare 6 = .ok (.goto 13, 3) := by decide +kernel
theorem d_JI_compare_9 : decode c_JI_compare 9 = .ok (.iload_n 0, 1) := by decide +kernel
theorem d_JI_compare_10 : decode c_JI_compare 10 = .ok (.iload_n 1, 1) := by decide +kernel
theorem d_JI_compare_11 : decode c_JI_compare 11 = .ok (.if_icmp .ne 7, 3) := by decide +kernel
theorem d_JI_compare_14 : decode c_JI_compare 14 = .ok (.iconst 0, 1) := by decide +kernel
theorem d_JI_compare_15 : decode c_JI_compare 15 = .ok (.goto 4, 3) := by decide +kernel
theorem d_JI_compare_18 : decode c_JI_compare 18 = .ok (.iconst 1, 1) := by decide +kernel
theorem d_JI_compare_19 : decode c_JI_compare 19 = .ok (.ireturn, 1) := by decide +kernel
theorem d_P_clear_0 : decode c_P_clear 0 = .ok (.aload_n 1, 1) := by decide +kernel
theorem d_P_clear_1 : decode c_P_clear 1 = .ok (.iload_n 2, 1) := by decide +kernel
theorem d_P_clear_2 : decode c_P_clear 2 = .ok (.iload 4, 2) := by decide +kernel
theorem d_P_clear_4 : decode c_P_clear 4 = .ok (.invokevirtual 7, 3) := by decide +kernel
theorem d_P_clear_7 : decode c_P_clear 7 = .ok (.istore 5, 2) := by decide +kernel
theorem d_P_clear_9 : decode c_P_clear 9 = .ok (.iconst 0, 1) := by decide +kernel
theorem d_P_clear_10 : decode c_P_clear 10 = .ok (.istore 6, 2) := by decide +kernel
theorem d_P_clear_12 : decode c_P_clear 12 = .ok (.iload 6, 2) := by decide +kernel
theorem d_P_clear_14 : decode c_P_clear 14 = .ok (.aload_n 1, 1) := by decide +kernel
theorem d_P_clear_15 : decode c_P_clear 15 = .ok (.getfield 22, 3) := by decide +kernel
theorem d_P_clear_18 : decode c_P_clear 18 = .ok (.if_icmp .ge 45, 3) := by decide +kernel
theorem d_P_clear_21 : decode c_P_clear 21 = .ok (.aload_n 1, 1) := by decide +kernel
theorem d_P_clear_22 : decode c_P_clear 22 = .ok (.iload_n 2, 1) := by decide +kernel
theorem d_P_clear_23 : decode c_P_clear 23 = .ok (.iload 6, 2) := by decide +kernel
theorem d_P_clear_25 : decode c_P_clear 25 = .ok (.invokevirtual 7, 3) := by decide +kernel
theorem d_P_clear_28 : decode c_P_clear 28 = .ok (.iload 5, 2) := by decide +kernel
theorem d_P_clear_30 : decode c_P_clear 30 = .ok (.aload_n 1, 1) := by decide +kernel
theorem d_P_clear_31 : decode c_P_clear 31 = .ok (.iload_n 3, 1) := by decide +kernel
theorem d_P_clear_32 : decode c_P_clear 32 = .ok (.iload 6, 2) := by decide +kernel
theorem d_P_clear_34 : decode c_P_clear 34 = .ok (.invokevirtual 7, 3) := by decide +kernel
theorem d_P_clear_37 : decode c_P_clear 37 = .ok (.imul, 1) := by decide +kernel
theorem d_P_clear_38 : decode c_P_clear 38 = .ok (.isub, 1) := by decide +kernel
theorem d_P_clear_39 : decode c_P_clear 39 = .ok (.istore 7, 2) := by decide +kernel
theorem d_P_clear_41 : decode c_P_clear 41 = .ok (.aload_n 1, 1) := by decide +kernel
theorem d_P_clear_42 : decode c_P_clear 42 = .ok (.iload_n 2, 1) := by decide +kernel
theorem d_P_clear_43 : decode c_P_clear 43 = .ok (.iload 6, 2) := by decide +kernel
theorem d_P_clear_45 : decode c_P_clear 45 = .ok (.iload 7, 2) := by decide +kernel
theorem d_P_clear_47 : decode c_P_clear 47 = .ok (.aload_n 1, 1) := by decide +kernel
theorem d_P_clear_48 : decode c_P_clear 48 = .ok (.getfield 13, 3) := by decide +kernel
theorem d_P_clear_51 : decode c_P_clear 51 = .ok (.invokestatic 25, 3) := by decide +kernel
theorem d_P_clear_54 : decode c_P_clear 54 = .ok (.invokevirtual 30, 3) := by decide +kernel
theorem d_P_clear_57 : decode c_P_clear 57 = .ok (.iinc 6 1, 3) := by decide +kernel
theorem d_P_clear_60 : decode c_P_clear 60 = .ok (.goto (-48), 3) := by decide +kernel
theorem d_P_clear_63 : decode c_P_clear 63 = .ok (.return_, 1) := by decide +kernel
theorem d_A_turn_0 : decode c_A_turn 0 = .ok (.aload_n 0, 1) := by decide +kernel
theorem d_A_turn_1 : decode c_A_turn 1 = .ok (.iload_n 1, 1) := by decide +kernel
theorem d_A_turn_2 : decode c_A_turn 2 = .ok (.iload_n 2, 1) := by decide +kernel
theorem d_A_turn_3 : decode c_A_turn 3 = .ok (.iload_n 3, 1) := by decide +kernel
theorem d_A_turn_4 : decode c_A_turn 4 = .ok (.invokevirtual 48, 3) := by decide +kernel
theorem d_A_turn_7 : decode c_A_turn 7 = .ok (.ifCond .eq 29, 3) := by decide +kernel
theorem d_A_turn_10 : decode c_A_turn 10 = .ok (.aload_n 0, 1) := by decide +kernel
theorem d_A_turn_11 : decode c_A_turn 11 = .ok (.getfield 11, 3) := by decide +kernel
theorem d_A_turn_14 : decode c_A_turn 14 = .ok (.iload_n 1, 1) := by decide +kernel
theorem d_A_turn_15 : decode c_A_turn 15 = .ok (.aaload, 1) := by decide +kernel
theorem d_A_turn_16 : decode c_A_turn 16 = .ok (.getfield 52, 3) := by decide +kernel
theorem d_A_turn_19 : decode c_A_turn 19 = .ok (.ifCond .eq 17, 3) := by decide +kernel
theorem d_A_turn_22 : decode c_A_turn 22 = .ok (.aload_n 0, 1) := by decide +kernel
theorem d_A_turn_23 : decode c_A_turn 23 = .ok (.getfield 11, 3) := by decide +kernel
theorem d_A_turn_26 : decode c_A_turn 26 = .ok (.iload_n 1, 1) := by decide +kernel
theorem d_A_turn_27 : decode c_A_turn 27 = .ok (.aaload, 1) := by decide +kernel
theorem d_A_turn_28 : decode c_A_turn 28 = .ok (.iload_n 2, 1) := by decide +kernel
theorem d_A_turn_29 : decode c_A_turn 29 = .ok (.iload_n 3, 1) := by decide +kernel
theorem d_A_turn_30 : decode c_A_turn 30 = .ok (.invokevirtual 76, 3) := by decide +kernel
theorem d_A_turn_33 : decode c_A_turn 33 = .ok (.ifCond .eq 5, 3) := by decide +kernel
theorem d_A_turn_36 : decode c_A_turn 36 = .ok (.iconst (-1), 1) := by decide +kernel
theorem d_A_turn_37 : decode c_A_turn 37 = .ok (.ireturn, 1) := by decide +kernel
theorem d_A_turn_38 : decode c_A_turn 38 = .ok (.aload_n 0, 1) := by decide +kernel
theorem d_A_turn_39 : decode c_A_turn 39 = .ok (.getfield 11, 3) := by decide +kernel
theorem d_A_turn_42 : decode c_A_turn 42 = .ok (.iload_n 1, 1) := by decide +kernel
theorem d_A_turn_43 : decode c_A_turn 43 = .ok (.aaload, 1) := by decide +kernel
theorem d_A_turn_44 : decode c_A_turn 44 = .ok (.getfield 80, 3) := by decide +kernel
theorem d_A_turn_47 : decode c_A_turn 47 = .ok (.iload_n 2, 1) := by decide +kernel
theorem d_A_turn_48 : decode c_A_turn 48 = .ok (.iaload, 1) := by decide +kernel
theorem d_A_turn_49 : decode c_A_turn 49 = .ok (.istore 4, 2) := by decide +kernel
theorem d_A_turn_51 : decode c_A_turn 51 = .ok (.aload_n 0, 1) := by decide +kernel
theorem d_A_turn_52 : decode c_A_turn 52 = .ok (.aload_n 0, 1) := by decide +kernel
theorem d_A_turn_53 : decode c_A_turn 53 = .ok (.getfield 11, 3) := by decide +kernel
theorem d_A_turn_56 : decode c_A_turn 56 = .ok (.iload_n 1, 1) := by decide +kernel
theorem d_A_turn_57 : decode c_A_turn 57 = .ok (.aaload, 1) := by decide +kernel
theorem d_A_turn_58 : decode c_A_turn 58 = .ok (.iload_n 2, 1) := by decide +kernel
theorem d_A_turn_59 : decode c_A_turn 59 = .ok (.iload_n 3, 1) := by decide +kernel
theorem d_A_turn_60 : decode c_A_turn 60 = .ok (.invokevirtual 84, 3) := by decide +kernel
theorem d_A_turn_63 : decode c_A_turn 63 = .ok (.iload 4, 2) := by decide +kernel
theorem d_A_turn_65 : decode c_A_turn 65 = .ok (.ireturn, 1) := by decide +kernel
theorem d_A_dual_0 : decode c_A_dual 0 = .ok (.iload_n 1, 1) := by decide +kernel
theorem d_A_dual_1 : decode c_A_dual 1 = .ok (.invokestatic 34, 3) := by decide +kernel
theorem d_A_dual_4 : decode c_A_dual 4 = .ok (.ifCond .eq 11, 3) := by decide +kernel
theorem d_A_dual_7 : decode c_A_dual 7 = .ok (.aload_n 0, 1) := by decide +kernel
theorem d_A_dual_8 : decode c_A_dual 8 = .ok (.iload_n 2, 1) := by decide +kernel
theorem d_A_dual_9 : decode c_A_dual 9 = .ok (.invokevirtual 88, 3) := by decide +kernel
theorem d_A_dual_12 : decode c_A_dual 12 = .ok (.ifCond .ne 5, 3) := by decide +kernel
theorem d_A_dual_15 : decode c_A_dual 15 = .ok (.iconst (-1), 1) := by decide +kernel
theorem d_A_dual_16 : decode c_A_dual 16 = .ok (.ireturn, 1) := by decide +kernel
theorem d_A_dual_17 : decode c_A_dual 17 = .ok (.aload_n 0, 1) := by decide +kernel
theorem d_A_dual_18 : decode c_A_dual 18 = .ok (.getfield 11, 3) := by decide +kernel
theorem d_A_dual_21 : decode c_A_dual 21 = .ok (.iload_n 2, 1) := by decide +kernel
theorem d_A_dual_22 : decode c_A_dual 22 = .ok (.aaload, 1) := by decide +kernel
theorem d_A_dual_23 : decode c_A_dual 23 = .ok (.astore_n 3, 1) := by decide +kernel
theorem d_A_dual_24 : decode c_A_dual 24 = .ok (.aload_n 0, 1) := by decide +kernel
theorem d_A_dual_25 : decode c_A_dual 25 = .ok (.getfield 16, 3) := by decide +kernel
theorem d_A_dual_28 : decode c_A_dual 28 = .ok (.aload_n 3, 1) := by decide +kernel
theorem d_A_dual_29 : decode c_A_dual 29 = .ok (.getfield 56, 3) := by decide +kernel
theorem d_A_dual_32 : decode c_A_dual 32 = .ok (.aload_n 3, 1) := by decide +kernel
theorem d_A_dual_33 : decode c_A_dual 33 = .ok (.getfield 91, 3) := by decide +kernel
theorem d_A_dual_36 : decode c_A_dual 36 = .ok (.aload_n 3, 1) := by decide +kernel
theorem d_A_dual_37 : decode c_A_dual 37 = .ok (.getfield 73, 3) := by decide +kernel
theorem d_A_dual_40 : decode c_A_dual 40 = .ok (.isub, 1) := by decide +kernel
theorem d_A_dual_41 : decode c_A_dual 41 = .ok (.aload_n 3, 1) := by decide +kernel
theorem d_A_dual_42 : decode c_A_dual 42 = .ok (.getfield 91, 3) := by decide +kernel
theorem d_A_dual_45 : decode c_A_dual 45 = .ok (.invokevirtual 44, 3) := by decide +kernel
theorem d_A_dual_48 : decode c_A_dual 48 = .ok (.iconst 0, 1) := by decide +kernel
theorem d_A_dual_49 : decode c_A_dual 49 = .ok (.istore 4, 2) := by decide +kernel
theorem d_A_dual_51 : decode c_A_dual 51 = .ok (.iconst 0, 1) := by decide +kernel
theorem d_A_dual_52 : decode c_A_dual 52 = .ok (.istore 5, 2) := by decide +kernel
theorem d_A_dual_54 : decode c_A_dual 54 = .ok (.iload 5, 2) := by decide +kernel
theorem d_A_dual_56 : decode c_A_dual 56 = .ok (.aload_n 3, 1) := by decide +kernel
theorem d_A_dual_57 : decode c_A_dual 57 = .ok (.getfield 91, 3) := by decide +kernel
theorem d_A_dual_60 : decode c_A_dual 60 = .ok (.if_icmp .ge 50, 3) := by decide +kernel
theorem d_A_dual_63 : decode c_A_dual 63 = .ok (.aload_n 3, 1) := by decide +kernel
theorem d_A_dual_64 : decode c_A_dual 64 = .ok (.iload 5, 2) := by decide +kernel
theorem d_A_dual_66 : decode c_A_dual 66 = .ok (.invokevirtual 94, 3) := by decide +kernel
theorem d_A_dual_69 : decode c_A_dual 69 = .ok (.ifCond .ne 35, 3) := by decide +kernel
theorem d_A_dual_72 : decode c_A_dual 72 = .ok (.iload 4, 2) := by decide +kernel
theorem d_A_dual_74 : decode c_A_dual 74 = .ok (.aload_n 0, 1) := by decide +kernel
theorem d_A_dual_75 : decode c_A_dual 75 = .ok (.getfield 16, 3) := by decide +kernel
theorem d_A_dual_78 : decode c_A_dual 78 = .ok (.getfield 73, 3) := by decide +kernel
theorem d_A_dual_81 : decode c_A_dual 81 = .ok (.if_icmp .ge 23, 3) := by decide +kernel
theorem d_A_dual_84 : decode c_A_dual 84 = .ok (.aload_n 0, 1) := by decide +kernel
theorem d_A_dual_85 : decode c_A_dual 85 = .ok (.aload_n 3, 1) := by decide +kernel
theorem d_A_dual_86 : decode c_A_dual 86 = .ok (.invokevirtual 97, 3) := by decide +kernel
theorem d_A_dual_89 : decode c_A_dual 89 = .ok (.aload_n 0, 1) := by decide +kernel
theorem d_A_dual_90 : decode c_A_dual 90 = .ok (.getfield 16, 3) := by decide +kernel
theorem d_A_dual_93 : decode c_A_dual 93 = .ok (.iload 4, 2) := by decide +kernel
theorem d_A_dual_95 : decode c_A_dual 95 = .ok (.aload_n 3, 1) := by decide +kernel
theorem d_A_dual_96 : decode c_A_dual 96 = .ok (.iload 5, 2) := by decide +kernel
theorem d_A_dual_98 : decode c_A_dual 98 = .ok (.invokevirtual 101, 3) := by decide +kernel
theorem d_A_dual_101 : decode c_A_dual 101 = .ok (.iinc 4 1, 3) := by decide +kernel
theorem d_A_dual_104 : decode c_A_dual 104 = .ok (.iinc 5 1, 3) := by decide +kernel
theorem d_A_dual_107 : decode c_A_dual 107 = .ok (.goto (-53), 3) := by decide +kernel
theorem d_A_dual_110 : decode c_A_dual 110 = .ok (.aload_n 0, 1) := by decide +kernel
theorem d_A_dual_111 : decode c_A_dual 111 = .ok (.iload_n 1, 1) := by decide +kernel
theorem d_A_dual_112 : decode c_A_dual 112 = .ok (.aload_n 0, 1) := by decide +kernel
theorem d_A_dual_113 : decode c_A_dual 113 = .ok (.aload_n 0, 1) := by decide +kernel
theorem d_A_dual_114 : decode c_A_dual 114 = .ok (.getfield 16, 3) := by decide +kernel
theorem d_A_dual_117 : decode c_A_dual 117 = .ok (.sipush 4095, 3) := by decide +kernel
theorem d_A_dual_120 : decode c_A_dual 120 = .ok (.invokevirtual 69, 3) := by decide +kernel
theorem d_A_dual_123 : decode c_A_dual 123 = .ok (.invokevirtual 107, 3) := by decide +kernel
theorem d_A_dual_126 : decode c_A_dual 126 = .ok (.ireturn, 1) := by decide +kernel
theorem d_A_isReduced_0 : decode c_A_isReduced 0 = .ok (.iload_n 1, 1) := by decide +kernel
theorem d_A_isReduced_1 : decode c_A_isReduced 1 = .ok (.invokestatic 34, 3) := by decide +kernel
theorem d_A_isReduced_4 : decode c_A_isReduced 4 = .ok (.ifCond .eq 19, 3) := by decide +kernel
theorem d_A_isReduced_7 : decode c_A_isReduced 7 = .ok (.aload_n 0, 1) := by decide +kernel
theorem d_A_isReduced_8 : decode c_A_isReduced 8 = .ok (.getfield 11, 3) := by decide +kernel
theorem d_A_isReduced_11 : decode c_A_isReduced 11 = .ok (.iload_n 1, 1) := by decide +kernel
theorem d_A_isReduced_12 : decode c_A_isReduced 12 = .ok (.aaload, 1) := by decide +kernel
theorem d_A_isReduced_13 : decode c_A_isReduced 13 = .ok (.getfield 52, 3) := by decide +kernel
theorem d_A_isReduced_16 : decode c_A_isReduced 16 = .ok (.ifCond .eq 7, 3) := by decide +kernel
theorem d_A_isReduced_19 : decode c_A_isReduced 19 = .ok (.iconst 1, 1) := by decide +kernel
theorem d_A_isReduced_20 : decode c_A_isReduced 20 = .ok (.goto 4, 3) := by decide +kernel
theorem d_A_isReduced_23 : decode c_A_isReduced 23 = .ok (.iconst 0, 1) := by decide +kernel
theorem d_A_isReduced_24 : decode c_A_isReduced 24 = .ok (.ireturn, 1) := by decide +kernel
theorem d_Q_fillDual_0 : decode c_Q_fillDual 0 = .ok (.aload_n 1, 1) := by decide +kernel
theorem d_Q_fillDual_1 : decode c_Q_fillDual 1 = .ok (.iload_n 2, 1) := by decide +kernel
theorem d_Q_fillDual_2 : decode c_Q_fillDual 2 = .ok (.iload 4, 2) := by decide +kernel
theorem d_Q_fillDual_4 : decode c_Q_fillDual 4 = .ok (.iconst 1, 1) := by decide +kernel
theorem d_Q_fillDual_5 : decode c_Q_fillDual 5 = .ok (.invokevirtual 73, 3) := by decide +kernel
theorem d_Q_fillDual_8 : decode c_Q_fillDual 8 = .ok (.iconst 0, 1) := by decide +kernel
theorem d_Q_fillDual_9 : decode c_Q_fillDual 9 = .ok (.istore 5, 2) := by decide +kernel
theorem d_Q_fillDual_11 : decode c_Q_fillDual 11 = .ok (.iload 5, 2) := by decide +kernel
theorem d_Q_fillDual_13 : decode c_Q_fillDual 13 = .ok (.aload_n 3, 1) := by decide +kernel
theorem d_Q_fillDual_14 : decode c_Q_fillDual 14 = .ok (.getfield 77, 3) := by decide +kernel
theorem d_Q_fillDual_17 : decode c_Q_fillDual 17 = .ok (.if_icmp .ge 31, 3) := by decide +kernel
theorem d_Q_fillDual_20 : decode c_Q_fillDual 20 = .ok (.aload_n 3, 1) := by decide +kernel
theorem d_Q_fillDual_21 : decode c_Q_fillDual 21 = .ok (.iload 5, 2) := by decide +kernel
theorem d_Q_fillDual_23 : decode c_Q_fillDual 23 = .ok (.iload 4, 2) := by decide +kernel
theorem d_Q_fillDual_25 : decode c_Q_fillDual 25 = .ok (.invokevirtual 80, 3) := by decide +kernel
theorem d_Q_fillDual_28 : decode c_Q_fillDual 28 = .ok (.ifCond .ne 14, 3) := by decide +kernel
theorem d_Q_fillDual_31 : decode c_Q_fillDual 31 = .ok (.aload_n 0, 1) := by decide +kernel
theorem d_Q_fillDual_32 : decode c_Q_fillDual 32 = .ok (.aload_n 1, 1) := by decide +kernel
theorem d_Q_fillDual_33 : decode c_Q_fillDual 33 = .ok (.iload_n 2, 1) := by decide +kernel
theorem d_Q_fillDual_34 : decode c_Q_fillDual 34 = .ok (.aload_n 3, 1) := by decide +kernel
theorem d_Q_fillDual_35 : decode c_Q_fillDual 35 = .ok (.iload 5, 2) := by decide +kernel
theorem d_Q_fillDual_37 : decode c_Q_fillDual 37 = .ok (.iload 4, 2) := by decide +kernel
theorem d_Q_fillDual_39 : decode c_Q_fillDual 39 = .ok (.invokevirtual 84, 3) := by decide +kernel
theorem d_Q_fillDual_42 : decode c_Q_fillDual 42 = .ok (.iinc 5 1, 3) := by decide +kernel
theorem d_Q_fillDual_45 : decode c_Q_fillDual 45 = .ok (.goto (-34), 3) := by decide +kernel
theorem d_Q_fillDual_48 : decode c_Q_fillDual 48 = .ok (.return_, 1) := by decide +kernel
theorem d_Q_balance_0 : decode c_Q_balance 0 = .ok (.aload_n 3, 1) := by decide +kernel
theorem d_Q_balance_1 : decode c_Q_balance 1 = .ok (.getfield 88, 3) := by decide +kernel
theorem d_Q_balance_4 : decode c_Q_balance 4 = .ok (.iload 4, 2) := by decide +kernel
theorem d_Q_balance_6 : decode c_Q_balance 6 = .ok (.iaload, 1) := by decide +kernel
theorem d_Q_balance_7 : decode c_Q_balance 7 = .ok (.istore 6, 2) := by decide +kernel
theorem d_Q_balance_9 : decode c_Q_balance 9 = .ok (.aload_n 3, 1) := by decide +kernel
theorem d_Q_balance_10 : decode c_Q_balance 10 = .ok (.iload 4, 2) := by decide +kernel
theorem d_Q_balance_12 : decode c_Q_balance 12 = .ok (.iload 6, 2) := by decide +kernel
theorem d_Q_balance_14 : decode c_Q_balance 14 = .ok (.aload_n 0, 1) := by decide +kernel
theorem d_Q_balance_15 : decode c_Q_balance 15 = .ok (.getfield 25, 3) := by decide +kernel
theorem d_Q_balance_18 : decode c_Q_balance 18 = .ok (.invokevirtual 46, 3) := by decide +kernel
theorem d_Q_balance_21 : decode c_Q_balance 21 = .ok (.aload_n 3, 1) := by decide +kernel
theorem d_Q_balance_22 : decode c_Q_balance 22 = .ok (.iload 4, 2) := by decide +kernel
theorem d_Q_balance_24 : decode c_Q_balance 24 = .ok (.iload 5, 2) := by decide +kernel
theorem d_Q_balance_26 : decode c_Q_balance 26 = .ok (.aload_n 0, 1) := by decide +kernel
theorem d_Q_balance_27 : decode c_Q_balance 27 = .ok (.getfield 28, 3) := by decide +kernel
theorem d_Q_balance_30 : decode c_Q_balance 30 = .ok (.invokevirtual 46, 3) := by decide +kernel
theorem d_Q_balance_33 : decode c_Q_balance 33 = .ok (.iconst 0, 1) := by decide +kernel
theorem d_Q_balance_34 : decode c_Q_balance 34 = .ok (.istore 7, 2) := by decide +kernel
theorem d_Q_balance_36 : decode c_Q_balance 36 = .ok (.iload 7, 2) := by decide +kernel
theorem d_Q_balance_38 : decode c_Q_balance 38 = .ok (.aload_n 1, 1) := by decide +kernel
theorem d_Q_balance_39 : decode c_Q_balance 39 = .ok (.getfield 40, 3) := by decide +kernel
theorem d_Q_balance_42 : decode c_Q_balance 42 = .ok (.if_icmp .ge 38, 3) := by decide +kernel
theorem d_Q_balance_45 : decode c_Q_balance 45 = .ok (.aload_n 1, 1) := by decide +kernel
theorem d_Q_balance_46 : decode c_Q_balance 46 = .ok (.iload_n 2, 1) := by decide +kernel
theorem d_Q_balance_47 : decode c_Q_balance 47 = .ok (.iload 7, 2) := by decide +kernel
theorem d_Q_balance_49 : decode c_Q_balance 49 = .ok (.aload_n 0, 1) := by decide +kernel
theorem d_Q_balance_50 : decode c_Q_balance 50 = .ok (.getfield 18, 3) := by decide +kernel
theorem d_Q_balance_53 : decode c_Q_balance 53 = .ok (.invokevirtual 46, 3) := by decide +kernel
theorem d_Q_balance_56 : decode c_Q_balance 56 = .ok (.aload_n 0, 1) := by decide +kernel
theorem d_Q_balance_57 : decode c_Q_balance 57 = .ok (.getfield 11, 3) := by decide +kernel
theorem d_Q_balance_60 : decode c_Q_balance 60 = .ok (.iload 7, 2) := by decide +kernel
theorem d_Q_balance_62 : decode c_Q_balance 62 = .ok (.aaload, 1) := by decide +kernel
theorem d_Q_balance_63 : decode c_Q_balance 63 = .ok (.aload_n 0, 1) := by decide +kernel
theorem d_Q_balance_64 : decode c_Q_balance 64 = .ok (.getfield 18, 3) := by decide +kernel
theorem d_Q_balance_67 : decode c_Q_balance 67 = .ok (.aload_n 0, 1) := by decide +kernel
theorem d_Q_balance_68 : decode c_Q_balance 68 = .ok (.getfield 25, 3) := by decide +kernel
theorem d_Q_balance_71 : decode c_Q_balance 71 = .ok (.invokevirtual 65, 3) := by decide +kernel
theorem d_Q_balance_74 : decode c_Q_balance 74 = .ok (.iinc 7 1, 3) := by decide +kernel
theorem d_Q_balance_77 : decode c_Q_balance 77 = .ok (.goto (-41), 3) := by decide +kernel
theorem d_Q_balance_80 : decode c_Q_balance 80 = .ok (.aload_n 1, 1) := by decide +kernel
theorem d_Q_balance_81 : decode c_Q_balance 81 = .ok (.iload_n 2, 1) := by decide +kernel
theorem d_Q_balance_82 : decode c_Q_balance 82 = .ok (.iload 5, 2) := by decide +kernel
theorem d_Q_balance_84 : decode c_Q_balance 84 = .ok (.aload_n 0, 1) := by decide +kernel
theorem d_Q_balance_85 : decode c_Q_balance 85 = .ok (.getfield 18, 3) := by decide +kernel
theorem d_Q_balance_88 : decode c_Q_balance 88 = .ok (.invokevirtual 46, 3) := by decide +kernel
theorem d_Q_balance_91 : decode c_Q_balance 91 = .ok (.aload_n 0, 1) := by decide +kernel
theorem d_Q_balance_92 : decode c_Q_balance 92 = .ok (.getfield 11, 3) := by decide +kernel
theorem d_Q_balance_95 : decode c_Q_balance 95 = .ok (.iload 6, 2) := by decide +kernel
theorem d_Q_balance_97 : decode c_Q_balance 97 = .ok (.aaload, 1) := by decide +kernel
theorem d_Q_balance_98 : decode c_Q_balance 98 = .ok (.aload_n 0, 1) := by decide +kernel
theorem d_Q_balance_99 : decode c_Q_balance 99 = .ok (.getfield 18, 3) := by decide +kernel
theorem d_Q_balance_102 : decode c_Q_balance 102 = .ok (.aload_n 0, 1) := by decide +kernel
theorem d_Q_balance_103 : decode c_Q_balance 103 = .ok (.getfield 28, 3) := by decide +kernel
theorem d_Q_balance_106 : decode c_Q_balance 106 = .ok (.invokevirtual 65, 3) := by decide +kernel
theorem d_Q_balance_109 : decode c_Q_balance 109 = .ok (.aload_n 0, 1) := by decide +kernel
theorem d_Q_balance_110 : decode c_Q_balance 110 = .ok (.getfield 11, 3) := by decide +kernel
theorem d_Q_balance_113 : decode c_Q_balance 113 = .ok (.iload 6, 2) := by decide +kernel
theorem d_Q_balance_115 : decode c_Q_balance 115 = .ok (.aaload, 1) := by decide +kernel
theorem d_Q_balance_116 : decode c_Q_balance 116 = .ok (.invokevirtual 92, 3) := by decide +kernel
theorem d_Q_balance_119 : decode c_Q_balance 119 = .ok (.aload_n 0, 1) := by decide +kernel
theorem d_Q_balance_120 : decode c_Q_balance 120 = .ok (.aload_n 1, 1) := by decide +kernel
theorem d_Q_balance_121 : decode c_Q_balance 121 = .ok (.getfield 40, 3) := by decide +kernel
theorem d_Q_balance_124 : decode c_Q_balance 124 = .ok (.invokevirtual 50, 3) := by decide +kernel
theorem d_Q_balance_127 : decode c_Q_balance 127 = .ok (.aload_n 0, 1) := by decide +kernel
theorem d_Q_balance_128 : decode c_Q_balance 128 = .ok (.aload_n 1, 1) := by decide +kernel
theorem d_Q_balance_129 : decode c_Q_balance 129 = .ok (.iload_n 2, 1) := by decide +kernel
theorem d_Q_balance_130 : decode c_Q_balance 130 = .ok (.invokevirtual 54, 3) := by decide +kernel
theorem d_Q_balance_133 : decode c_Q_balance 133 = .ok (.return_, 1) := by decide +kernel
theorem d_P_fillDual_0 : decode c_P_fillDual 0 = .ok (.aload_n 1, 1) := by decide +kernel
theorem d_P_fillDual_1 : decode c_P_fillDual 1 = .ok (.iload_n 2, 1) := by decide +kernel
theorem d_P_fillDual_2 : decode c_P_fillDual 2 = .ok (.iload 4, 2) := by decide +kernel
theorem d_P_fillDual_4 : decode c_P_fillDual 4 = .ok (.iconst 1, 1) := by decide +kernel
theorem d_P_fillDual_5 : decode c_P_fillDual 5 = .ok (.invokevirtual 30, 3) := by decide +kernel
theorem d_P_fillDual_8 : decode c_P_fillDual 8 = .ok (.iconst 0, 1) := by decide +kernel
theorem d_P_fillDual_9 : decode c_P_fillDual 9 = .ok (.istore 5, 2) := by decide +kernel
theorem d_P_fillDual_11 : decode c_P_fillDual 11 = .ok (.iload 5, 2) := by decide +kernel
theorem d_P_fillDual_13 : decode c_P_fillDual 13 = .ok (.aload_n 3, 1) := by decide +kernel
theorem d_P_fillDual_14 : decode c_P_fillDual 14 = .ok (.getfield 34, 3) := by decide +kernel
theorem d_P_fillDual_17 : decode c_P_fillDual 17 = .ok (.if_icmp .ge 41, 3) := by decide +kernel
theorem d_P_fillDual_20 : decode c_P_fillDual 20 = .ok (.aload_n 3, 1) := by decide +kernel
theorem d_P_fillDual_21 : decode c_P_fillDual 21 = .ok (.iload 5, 2) := by decide +kernel
theorem d_P_fillDual_23 : decode c_P_fillDual 23 = .ok (.iload 4, 2) := by decide +kernel
theorem d_P_fillDual_25 : decode c_P_fillDual 25 = .ok (.invokevirtual 7, 3) := by decide +kernel
theorem d_P_fillDual_28 : decode c_P_fillDual 28 = .ok (.ineg, 1) := by decide +kernel
theorem d_P_fillDual_29 : decode c_P_fillDual 29 = .ok (.aload_n 3, 1) := by decide +kernel
theorem d_P_fillDual_30 : decode c_P_fillDual 30 = .ok (.getfield 13, 3) := by decide +kernel
theorem d_P_fillDual_33 : decode c_P_fillDual 33 = .ok (.invokestatic 25, 3) := by decide +kernel
theorem d_P_fillDual_36 : decode c_P_fillDual 36 = .ok (.istore 6, 2) := by decide +kernel
theorem d_P_fillDual_38 : decode c_P_fillDual 38 = .ok (.aload_n 1, 1) := by decide +kernel
theorem d_P_fillDual_39 : decode c_P_fillDual 39 = .ok (.iload_n 2, 1) := by decide +kernel
theorem d_P_fillDual_40 : decode c_P_fillDual 40 = .ok (.aload_n 3, 1) := by decide +kernel
theorem d_P_fillDual_41 : decode c_P_fillDual 41 = .ok (.getfield 37, 3) := by decide +kernel
theorem d_P_fillDual_44 : decode c_P_fillDual 44 = .ok (.iload 5, 2) := by decide +kernel
theorem d_P_fillDual_46 : decode c_P_fillDual 46 = .ok (.iaload, 1) := by decide +kernel
theorem d_P_fillDual_47 : decode c_P_fillDual 47 = .ok (.iload 6, 2) := by decide +kernel
theorem d_P_fillDual_49 : decode c_P_fillDual 49 = .ok (.invokevirtual 30, 3) := by decide +kernel
theorem d_P_fillDual_52 : decode c_P_fillDual 52 = .ok (.iinc 5 1, 3) := by decide +kernel
theorem d_P_fillDual_55 : decode c_P_fillDual 55 = .ok (.goto (-44), 3) := by decide +kernel
theorem d_P_fillDual_58 : decode c_P_fillDual 58 = .ok (.return_, 1) := by decide +kernel
theorem d_A_keepSpare_0 : decode c_A_keepSpare 0 = .ok (.aload_n 0, 1) := by decide +kernel
theorem d_A_keepSpare_1 : decode c_A_keepSpare 1 = .ok (.getfield 16, 3) := by decide +kernel
theorem d_A_keepSpare_4 : decode c_A_keepSpare 4 = .ok (.astore_n 3, 1) := by decide +kernel
theorem d_A_keepSpare_5 : decode c_A_keepSpare 5 = .ok (.aload_n 0, 1) := by decide +kernel
theorem d_A_keepSpare_6 : decode c_A_keepSpare 6 = .ok (.aload_n 0, 1) := by decide +kernel
theorem d_A_keepSpare_7 : decode c_A_keepSpare 7 = .ok (.getfield 11, 3) := by decide +kernel
theorem d_A_keepSpare_10 : decode c_A_keepSpare 10 = .ok (.iload_n 1, 1) := by decide +kernel
theorem d_A_keepSpare_11 : decode c_A_keepSpare 11 = .ok (.aaload, 1) := by decide +kernel
theorem d_A_keepSpare_12 : decode c_A_keepSpare 12 = .ok (.putfield 16, 3) := by decide +kernel
theorem d_A_keepSpare_15 : decode c_A_keepSpare 15 = .ok (.aload_n 0, 1) := by decide +kernel
theorem d_A_keepSpare_16 : decode c_A_keepSpare 16 = .ok (.getfield 11, 3) := by decide +kernel
theorem d_A_keepSpare_19 : decode c_A_keepSpare 19 = .ok (.iload_n 1, 1) := by decide +kernel
theorem d_A_keepSpare_20 : decode c_A_keepSpare 20 = .ok (.aload_n 3, 1) := by decide +kernel
theorem d_A_keepSpare_21 : decode c_A_keepSpare 21 = .ok (.aastore, 1) := by decide +kernel
theorem d_A_keepSpare_22 : decode c_A_keepSpare 22 = .ok (.aload_n 3, 1) := by decide +kernel
theorem d_A_keepSpare_23 : decode c_A_keepSpare 23 = .ok (.iload_n 2, 1) := by decide +kernel
theorem d_A_keepSpare_24 : decode c_A_keepSpare 24 = .ok (.putfield 73, 3) := by decide +kernel
theorem d_A_keepSpare_27 : decode c_A_keepSpare 27 = .ok (.aload_n 3, 1) := by decide +kernel
theorem d_A_keepSpare_28 : decode c_A_keepSpare 28 = .ok (.iconst 1, 1) := by decide +kernel
theorem d_A_keepSpare_29 : decode c_A_keepSpare 29 = .ok (.putfield 52, 3) := by decide +kernel
theorem d_A_keepSpare_32 : decode c_A_keepSpare 32 = .ok (.iload_n 2, 1) := by decide +kernel
theorem d_A_keepSpare_33 : decode c_A_keepSpare 33 = .ok (.ireturn, 1) := by decide +kernel
theorem d_A_leave_0 : decode c_A_leave 0 = .ok (.iload_n 1, 1) := by decide +kernel
theorem d_A_leave_1 : decode c_A_leave 1 = .ok (.invokestatic 34, 3) := by decide +kernel
theorem d_A_leave_4 : decode c_A_leave 4 = .ok (.ifCond .eq 29, 3) := by decide +kernel
theorem d_A_leave_7 : decode c_A_leave 7 = .ok (.aload_n 0, 1) := by decide +kernel
theorem d_A_leave_8 : decode c_A_leave 8 = .ok (.iload_n 2, 1) := by decide +kernel
theorem d_A_leave_9 : decode c_A_leave 9 = .ok (.invokevirtual 88, 3) := by decide +kernel
theorem d_A_leave_12 : decode c_A_leave 12 = .ok (.ifCond .eq 21, 3) := by decide +kernel
theorem d_A_leave_15 : decode c_A_leave 15 = .ok (.iload_n 3, 1) := by decide +kernel
theorem d_A_leave_16 : decode c_A_leave 16 = .ok (.ifCond .lt 17, 3) := by decide +kernel
theorem d_A_leave_19 : decode c_A_leave 19 = .ok (.iload_n 3, 1) := by decide +kernel
theorem d_A_leave_20 : decode c_A_leave 20 = .ok (.aload_n 0, 1) := by decide +kernel
theorem d_A_leave_21 : decode c_A_leave 21 = .ok (.getfield 11, 3) := by decide +kernel
theorem d_A_leave_24 : decode c_A_leave 24 = .ok (.iload_n 2, 1) := by decide +kernel
theorem d_A_leave_25 : decode c_A_leave 25 = .ok (.aaload, 1) := by decide +kernel
theorem d_A_leave_26 : decode c_A_leave 26 = .ok (.getfield 91, 3) := by decide +kernel
theorem d_A_leave_29 : decode c_A_leave 29 = .ok (.ishr, 1) := by decide +kernel
theorem d_A_leave_30 : decode c_A_leave 30 = .ok (.ifCond .eq 5, 3) := by decide +kernel
theorem d_A_leave_33 : decode c_A_leave 33 = .ok (.iconst (-1), 1) := by decide +kernel
theorem d_A_leave_34 : decode c_A_leave 34 = .ok (.ireturn, 1) := by decide +kernel
theorem d_A_leave_35 : decode c_A_leave 35 = .ok (.aload_n 0, 1) := by decide +kernel
theorem d_A_leave_36 : decode c_A_leave 36 = .ok (.getfield 11, 3) := by decide +kernel
theorem d_A_leave_39 : decode c_A_leave 39 = .ok (.iload_n 2, 1) := by decide +kernel
theorem d_A_leave_40 : decode c_A_leave 40 = .ok (.aaload, 1) := by decide +kernel
theorem d_A_leave_41 : decode c_A_leave 41 = .ok (.astore 5, 2) := by decide +kernel
theorem d_A_leave_43 : decode c_A_leave 43 = .ok (.aload_n 0, 1) := by decide +kernel
theorem d_A_leave_44 : decode c_A_leave 44 = .ok (.getfield 16, 3) := by decide +kernel
theorem d_A_leave_47 : decode c_A_leave 47 = .ok (.aload 5, 2) := by decide +kernel
theorem d_A_leave_49 : decode c_A_leave 49 = .ok (.getfield 56, 3) := by decide +kernel
theorem d_A_leave_52 : decode c_A_leave 52 = .ok (.aload 5, 2) := by decide +kernel
theorem d_A_leave_54 : decode c_A_leave 54 = .ok (.getfield 73, 3) := by decide +kernel
theorem d_A_leave_57 : decode c_A_leave 57 = .ok (.aload 5, 2) := by decide +kernel
theorem d_A_leave_59 : decode c_A_leave 59 = .ok (.getfield 91, 3) := by decide +kernel
theorem d_A_leave_62 : decode c_A_leave 62 = .ok (.invokevirtual 44, 3) := by decide +kernel
theorem d_A_leave_65 : decode c_A_leave 65 = .ok (.aload_n 0, 1) := by decide +kernel
theorem d_A_leave_66 : decode c_A_leave 66 = .ok (.getfield 16, 3) := by decide +kernel
theorem d_A_leave_69 : decode c_A_leave 69 = .ok (.aload 5, 2) := by decide +kernel
theorem d_A_leave_71 : decode c_A_leave 71 = .ok (.iconst 0, 1) := by decide +kernel
theorem d_A_leave_72 : decode c_A_leave 72 = .ok (.iconst 0, 1) := by decide +kernel
theorem d_A_leave_73 : decode c_A_leave 73 = .ok (.invokevirtual 110, 3) := by decide +kernel
theorem d_A_leave_76 : decode c_A_leave 76 = .ok (.iload 4, 2) := by decide +kernel
theorem d_A_leave_78 : decode c_A_leave 78 = .ok (.ifCond .eq 19, 3) := by decide +kernel
theorem d_A_leave_81 : decode c_A_leave 81 = .ok (.aload_n 0, 1) := by decide +kernel
theorem d_A_leave_82 : decode c_A_leave 82 = .ok (.getfield 16, 3) := by decide +kernel
theorem d_A_leave_85 : decode c_A_leave 85 = .ok (.aload_n 0, 1) := by decide +kernel
theorem d_A_leave_86 : decode c_A_leave 86 = .ok (.aload_n 0, 1) := by decide +kernel
theorem d_A_leave_87 : decode c_A_leave 87 = .ok (.getfield 16, 3) := by decide +kernel
theorem d_A_leave_90 : decode c_A_leave 90 = .ok (.iload_n 3, 1) := by decide +kernel
theorem d_A_leave_91 : decode c_A_leave 91 = .ok (.invokevirtual 69, 3) := by decide +kernel
theorem d_A_leave_94 : decode c_A_leave 94 = .ok (.invokevirtual 113, 3) := by decide +kernel
theorem d_A_leave_97 : decode c_A_leave 97 = .ok (.aload_n 0, 1) := by decide +kernel
theorem d_A_leave_98 : decode c_A_leave 98 = .ok (.getfield 16, 3) := by decide +kernel
theorem d_A_leave_101 : decode c_A_leave 101 = .ok (.iload_n 3, 1) := by decide +kernel
theorem d_A_leave_102 : decode c_A_leave 102 = .ok (.invokevirtual 117, 3) := by decide +kernel
theorem d_A_leave_105 : decode c_A_leave 105 = .ok (.aload_n 0, 1) := by decide +kernel
theorem d_A_leave_106 : decode c_A_leave 106 = .ok (.iload_n 1, 1) := by decide +kernel
theorem d_A_leave_107 : decode c_A_leave 107 = .ok (.aload_n 0, 1) := by decide +kernel
theorem d_A_leave_108 : decode c_A_leave 108 = .ok (.aload_n 0, 1) := by decide +kernel
theorem d_A_leave_109 : decode c_A_leave 109 = .ok (.getfield 16, 3) := by decide +kernel
theorem d_A_leave_112 : decode c_A_leave 112 = .ok (.sipush 4095, 3) := by decide +kernel
theorem d_A_leave_115 : decode c_A_leave 115 = .ok (.invokevirtual 69, 3) := by decide +kernel
theorem d_A_leave_118 : decode c_A_leave 118 = .ok (.invokevirtual 107, 3) := by decide +kernel
theorem d_A_leave_121 : decode c_A_leave 121 = .ok (.ireturn, 1) := by decide +kernel
theorem d_A_sum_0 : decode c_A_sum 0 = .ok (.iload_n 1, 1) := by decide +kernel
theorem d_A_sum_1 : decode c_A_sum 1 = .ok (.invokestatic 34, 3) := by decide +kernel
theorem d_A_sum_4 : decode c_A_sum 4 = .ok (.ifCond .eq 19, 3) := by decide +kernel
theorem d_A_sum_7 : decode c_A_sum 7 = .ok (.aload_n 0, 1) := by decide +kernel
theorem d_A_sum_8 : decode c_A_sum 8 = .ok (.iload_n 2, 1) := by decide +kernel
theorem d_A_sum_9 : decode c_A_sum 9 = .ok (.invokevirtual 88, 3) := by decide +kernel
theorem d_A_sum_12 : decode c_A_sum 12 = .ok (.ifCond .eq 11, 3) := by decide +kernel
theorem d_A_sum_15 : decode c_A_sum 15 = .ok (.aload_n 0, 1) := by decide +kernel
theorem d_A_sum_16 : decode c_A_sum 16 = .ok (.iload_n 3, 1) := by decide +kernel
theorem d_A_sum_17 : decode c_A_sum 17 = .ok (.invokevirtual 88, 3) := by decide +kernel
theorem d_A_sum_20 : decode c_A_sum 20 = .ok (.ifCond .ne 5, 3) := by decide +kernel
theorem d_A_sum_23 : decode c_A_sum 23 = .ok (.iconst (-1), 1) := by decide +kernel
theorem d_A_sum_24 : decode c_A_sum 24 = .ok (.ireturn, 1) := by decide +kernel
theorem d_A_sum_25 : decode c_A_sum 25 = .ok (.aload_n 0, 1) := by decide +kernel
theorem d_A_sum_26 : decode c_A_sum 26 = .ok (.getfield 11, 3) := by decide +kernel
theorem d_A_sum_29 : decode c_A_sum 29 = .ok (.iload_n 2, 1) := by decide +kernel
theorem d_A_sum_30 : decode c_A_sum 30 = .ok (.aaload, 1) := by decide +kernel
theorem d_A_sum_31 : decode c_A_sum 31 = .ok (.astore 4, 2) := by decide +kernel
theorem d_A_sum_33 : decode c_A_sum 33 = .ok (.aload_n 0, 1) := by decide +kernel
theorem d_A_sum_34 : decode c_A_sum 34 = .ok (.getfield 11, 3) := by decide +kernel
theorem d_A_sum_37 : decode c_A_sum 37 = .ok (.iload_n 3, 1) := by decide +kernel
theorem d_A_sum_38 : decode c_A_sum 38 = .ok (.aaload, 1) := by decide +kernel
theorem d_A_sum_39 : decode c_A_sum 39 = .ok (.astore 5, 2) := by decide +kernel
theorem d_A_sum_41 : decode c_A_sum 41 = .ok (.aload 4, 2) := by decide +kernel
theorem d_A_sum_43 : decode c_A_sum 43 = .ok (.getfield 56, 3) := by decide +kernel
theorem d_A_sum_46 : decode c_A_sum 46 = .ok (.aload 5, 2) := by decide +kernel
theorem d_A_sum_48 : decode c_A_sum 48 = .ok (.getfield 56, 3) := by decide +kernel
theorem d_A_sum_51 : decode c_A_sum 51 = .ok (.if_icmp .ne 19, 3) := by decide +kernel
theorem d_A_sum_54 : decode c_A_sum 54 = .ok (.aload 4, 2) := by decide +kernel
theorem d_A_sum_56 : decode c_A_sum 56 = .ok (.getfield 91, 3) := by decide +kernel
theorem d_A_sum_59 : decode c_A_sum 59 = .ok (.aload 5, 2) := by decide +kernel
theorem d_A_sum_61 : decode c_A_sum 61 = .ok (.getfield 91, 3) := by decide +kernel
theorem d_A_sum_64 : decode c_A_sum 64 = .ok (.iadd, 1) := by decide +kernel
theorem d_A_sum_65 : decode c_A_sum 65 = .ok (.bipush 12, 2) := by decide +kernel
theorem d_A_sum_67 : decode c_A_sum 67 = .ok (.if_icmp .le 5, 3) := by decide +kernel
theorem d_A_sum_70 : decode c_A_sum 70 = .ok (.iconst (-1), 1) := by decide +kernel
theorem d_A_sum_71 : decode c_A_sum 71 = .ok (.ireturn, 1) := by decide +kernel
theorem d_A_sum_72 : decode c_A_sum 72 = .ok (.aload_n 0, 1) := by decide +kernel
theorem d_A_sum_73 : decode c_A_sum 73 = .ok (.getfield 16, 3) := by decide +kernel
theorem d_A_sum_76 : decode c_A_sum 76 = .ok (.aload 4, 2) := by decide +kernel
theorem d_A_sum_78 : decode c_A_sum 78 = .ok (.getfield 56, 3) := by decide +kernel
theorem d_A_sum_81 : decode c_A_sum 81 = .ok (.aload 4, 2) := by decide +kernel
theorem d_A_sum_83 : decode c_A_sum 83 = .ok (.getfield 73, 3) := by decide +kernel
theorem d_A_sum_86 : decode c_A_sum 86 = .ok (.aload 5, 2) := by decide +kernel
theorem d_A_sum_88 : decode c_A_sum 88 = .ok (.getfield 73, 3) := by decide +kernel
theorem d_A_sum_91 : decode c_A_sum 91 = .ok (.iadd, 1) := by decide +kernel
theorem d_A_sum_92 : decode c_A_sum 92 = .ok (.aload 4, 2) := by decide +kernel
theorem d_A_sum_94 : decode c_A_sum 94 = .ok (.getfield 91, 3) := by decide +kernel
theorem d_A_sum_97 : decode c_A_sum 97 = .ok (.aload 5, 2) := by decide +kernel
theorem d_A_sum_99 : decode c_A_sum 99 = .ok (.getfield 91, 3) := by decide +kernel
theorem d_A_sum_102 : decode c_A_sum 102 = .ok (.iadd, 1) := by decide +kernel
theorem d_A_sum_103 : decode c_A_sum 103 = .ok (.invokevirtual 44, 3) := by decide +kernel
theorem d_A_sum_106 : decode c_A_sum 106 = .ok (.aload_n 0, 1) := by decide +kernel
theorem d_A_sum_107 : decode c_A_sum 107 = .ok (.getfield 16, 3) := by decide +kernel
theorem d_A_sum_110 : decode c_A_sum 110 = .ok (.aload 4, 2) := by decide +kernel
theorem d_A_sum_112 : decode c_A_sum 112 = .ok (.iconst 0, 1) := by decide +kernel
theorem d_A_sum_113 : decode c_A_sum 113 = .ok (.iconst 0, 1) := by decide +kernel
theorem d_A_sum_114 : decode c_A_sum 114 = .ok (.invokevirtual 110, 3) := by decide +kernel
theorem d_A_sum_117 : decode c_A_sum 117 = .ok (.aload_n 0, 1) := by decide +kernel
theorem d_A_sum_118 : decode c_A_sum 118 = .ok (.getfield 16, 3) := by decide +kernel
theorem d_A_sum_121 : decode c_A_sum 121 = .ok (.aload 5, 2) := by decide +kernel
theorem d_A_sum_123 : decode c_A_sum 123 = .ok (.aload 4, 2) := by decide +kernel
theorem d_A_sum_125 : decode c_A_sum 125 = .ok (.getfield 73, 3) := by decide +kernel
theorem d_A_sum_128 : decode c_A_sum 128 = .ok (.aload 4, 2) := by decide +kernel
theorem d_A_sum_130 : decode c_A_sum 130 = .ok (.getfield 91, 3) := by decide +kernel
theorem d_A_sum_133 : decode c_A_sum 133 = .ok (.invokevirtual 110, 3) := by decide +kernel
theorem d_A_sum_136 : decode c_A_sum 136 = .ok (.aload_n 0, 1) := by decide +kernel
theorem d_A_sum_137 : decode c_A_sum 137 = .ok (.iload_n 1, 1) := by decide +kernel
theorem d_A_sum_138 : decode c_A_sum 138 = .ok (.aload_n 0, 1) := by decide +kernel
theorem d_A_sum_139 : decode c_A_sum 139 = .ok (.aload_n 0, 1) := by decide +kernel
theorem d_A_sum_140 : decode c_A_sum 140 = .ok (.getfield 16, 3) := by decide +kernel
theorem d_A_sum_143 : decode c_A_sum 143 = .ok (.sipush 4095, 3) := by decide +kernel
theorem d_A_sum_146 : decode c_A_sum 146 = .ok (.invokevirtual 69, 3) := by decide +kernel
theorem d_A_sum_149 : decode c_A_sum 149 = .ok (.invokevirtual 107, 3) := by decide +kernel
theorem d_A_sum_152 : decode c_A_sum 152 = .ok (.ireturn, 1) := by decide +kernel
theorem d_A_of_0 : decode c_A_of 0 = .ok (.iload_n 1, 1) := by decide +kernel
theorem d_A_of_1 : decode c_A_of 1 = .ok (.invokestatic 34, 3) := by decide +kernel
theorem d_A_of_4 : decode c_A_of 4 = .ok (.ifCond .ne 5, 3) := by decide +kernel
theorem d_A_of_7 : decode c_A_of 7 = .ok (.iconst (-1), 1) := by decide +kernel
theorem d_A_of_8 : decode c_A_of 8 = .ok (.ireturn, 1) := by decide +kernel
theorem d_A_of_9 : decode c_A_of 9 = .ok (.iload_n 2, 1) := by decide +kernel
theorem d_A_of_10 : decode c_A_of 10 = .ok (.tableswitch 78 0 3 #[30, 40, 50, 60], 30) := by decide +kernel
theorem d_A_of_40 : decode c_A_of 40 = .ok (.aload_n 0, 1) := by decide +kernel
theorem d_A_of_41 : decode c_A_of 41 = .ok (.getfield 11, 3) := by decide +kernel
theorem d_A_of_44 : decode c_A_of 44 = .ok (.iload_n 1, 1) := by decide +kernel
theorem d_A_of_45 : decode c_A_of 45 = .ok (.aaload, 1) := by decide +kernel
theorem d_A_of_46 : decode c_A_of 46 = .ok (.getfield 56, 3) := by decide +kernel
theorem d_A_of_49 : decode c_A_of 49 = .ok (.ireturn, 1) := by decide +kernel
theorem d_A_of_50 : decode c_A_of 50 = .ok (.aload_n 0, 1) := by decide +kernel
theorem d_A_of_51 : decode c_A_of 51 = .ok (.getfield 11, 3) := by decide +kernel
theorem d_A_of_54 : decode c_A_of 54 = .ok (.iload_n 1, 1) := by decide +kernel
theorem d_A_of_55 : decode c_A_of 55 = .ok (.aaload, 1) := by decide +kernel
theorem d_A_of_56 : decode c_A_of 56 = .ok (.getfield 73, 3) := by decide +kernel
theorem d_A_of_59 : decode c_A_of 59 = .ok (.ireturn, 1) := by decide +kernel
theorem d_A_of_60 : decode c_A_of 60 = .ok (.aload_n 0, 1) := by decide +kernel
theorem d_A_of_61 : decode c_A_of 61 = .ok (.getfield 11, 3) := by decide +kernel
theorem d_A_of_64 : decode c_A_of 64 = .ok (.iload_n 1, 1) := by decide +kernel
theorem d_A_of_65 : decode c_A_of 65 = .ok (.aaload, 1) := by decide +kernel
theorem d_A_of_66 : decode c_A_of 66 = .ok (.getfield 91, 3) := by decide +kernel
theorem d_A_of_69 : decode c_A_of 69 = .ok (.ireturn, 1) := by decide +kernel
theorem d_A_of_70 : decode c_A_of 70 = .ok (.aload_n 0, 1) := by decide +kernel
theorem d_A_of_71 : decode c_A_of 71 = .ok (.getfield 11, 3) := by decide +kernel
theorem d_A_of_74 : decode c_A_of 74 = .ok (.iload_n 1, 1) := by decide +kernel
theorem d_A_of_75 : decode c_A_of 75 = .ok (.aaload, 1) := by decide +kernel
theorem d_A_of_76 : decode c_A_of 76 = .ok (.getfield 52, 3) := by decide +kernel
theorem d_A_of_79 : decode c_A_of 79 = .ok (.ifCond .eq 7, 3) := by decide +kernel
theorem d_A_of_82 : decode c_A_of 82 = .ok (.iconst 1, 1) := by decide +kernel
theorem d_A_of_83 : decode c_A_of 83 = .ok (.goto 4, 3) := by decide +kernel
theorem d_A_of_86 : decode c_A_of 86 = .ok (.iconst 0, 1) := by decide +kernel
theorem d_A_of_87 : decode c_A_of 87 = .ok (.ireturn, 1) := by decide +kernel
theorem d_A_of_88 : decode c_A_of 88 = .ok (.iconst (-1), 1) := by decide +kernel
theorem d_A_of_89 : decode c_A_of 89 = .ok (.ireturn, 1) := by decide +kernel
theorem d_A_place_0 : decode c_A_place 0 = .ok (.aload_n 0, 1) := by decide +kernel
theorem d_A_place_1 : decode c_A_place 1 = .ok (.iload_n 1, 1) := by decide +kernel
theorem d_A_place_2 : decode c_A_place 2 = .ok (.invokevirtual 88, 3) := by decide +kernel
theorem d_A_place_5 : decode c_A_place 5 = .ok (.ifCond .eq 20, 3) := by decide +kernel
theorem d_A_place_8 : decode c_A_place 8 = .ok (.iload_n 2, 1) := by decide +kernel
theorem d_A_place_9 : decode c_A_place 9 = .ok (.ifCond .lt 16, 3) := by decide +kernel
theorem d_A_place_12 : decode c_A_place 12 = .ok (.iload_n 2, 1) := by decide +kernel
theorem d_A_place_13 : decode c_A_place 13 = .ok (.aload_n 0, 1) := by decide +kernel
theorem d_A_place_14 : decode c_A_place 14 = .ok (.getfield 11, 3) := by decide +kernel
theorem d_A_place_17 : decode c_A_place 17 = .ok (.iload_n 1, 1) := by decide +kernel
theorem d_A_place_18 : decode c_A_place 18 = .ok (.aaload, 1) := by decide +kernel
theorem d_A_place_19 : decode c_A_place 19 = .ok (.getfield 73, 3) := by decide +kernel
theorem d_A_place_22 : decode c_A_place 22 = .ok (.if_icmp .lt 5, 3) := by decide +kernel
theorem d_A_place_25 : decode c_A_place 25 = .ok (.iconst (-1), 1) := by decide +kernel
theorem d_A_place_26 : decode c_A_place 26 = .ok (.ireturn, 1) := by decide +kernel
theorem d_A_place_27 : decode c_A_place 27 = .ok (.aload_n 0, 1) := by decide +kernel
theorem d_A_place_28 : decode c_A_place 28 = .ok (.getfield 11, 3) := by decide +kernel
theorem d_A_place_31 : decode c_A_place 31 = .ok (.iload_n 1, 1) := by decide +kernel
theorem d_A_place_32 : decode c_A_place 32 = .ok (.aaload, 1) := by decide +kernel
theorem d_A_place_33 : decode c_A_place 33 = .ok (.getfield 80, 3) := by decide +kernel
theorem d_A_place_36 : decode c_A_place 36 = .ok (.iload_n 2, 1) := by decide +kernel
theorem d_A_place_37 : decode c_A_place 37 = .ok (.iaload, 1) := by decide +kernel
theorem d_A_place_38 : decode c_A_place 38 = .ok (.ireturn, 1) := by decide +kernel
theorem d_A_sign_0 : decode c_A_sign 0 = .ok (.aload_n 0, 1) := by decide +kernel
theorem d_A_sign_1 : decode c_A_sign 1 = .ok (.iload_n 1, 1) := by decide +kernel
theorem d_A_sign_2 : decode c_A_sign 2 = .ok (.iload_n 2, 1) := by decide +kernel
theorem d_A_sign_3 : decode c_A_sign 3 = .ok (.iload_n 3, 1) := by decide +kernel
theorem d_A_sign_4 : decode c_A_sign 4 = .ok (.invokevirtual 48, 3) := by decide +kernel
theorem d_A_sign_7 : decode c_A_sign 7 = .ok (.ifCond .ne 5, 3) := by decide +kernel
theorem d_A_sign_10 : decode c_A_sign 10 = .ok (.iconst 0, 1) := by decide +kernel
theorem d_A_sign_11 : decode c_A_sign 11 = .ok (.ireturn, 1) := by decide +kernel
theorem d_A_sign_12 : decode c_A_sign 12 = .ok (.aload_n 0, 1) := by decide +kernel
theorem d_A_sign_13 : decode c_A_sign 13 = .ok (.getfield 11, 3) := by decide +kernel
theorem d_A_sign_16 : decode c_A_sign 16 = .ok (.iload_n 1, 1) := by decide +kernel
theorem d_A_sign_17 : decode c_A_sign 17 = .ok (.aaload, 1) := by decide +kernel
theorem d_A_sign_18 : decode c_A_sign 18 = .ok (.iload_n 2, 1) := by decide +kernel
theorem d_A_sign_19 : decode c_A_sign 19 = .ok (.iload_n 3, 1) := by decide +kernel
theorem d_A_sign_20 : decode c_A_sign 20 = .ok (.invokevirtual 120, 3) := by decide +kernel
theorem d_A_sign_23 : decode c_A_sign 23 = .ok (.invokestatic 123, 3) := by decide +kernel
theorem d_A_sign_26 : decode c_A_sign 26 = .ok (.ireturn, 1) := by decide +kernel
theorem d_A_digit_0 : decode c_A_digit 0 = .ok (.aload_n 0, 1) := by decide +kernel
theorem d_A_digit_1 : decode c_A_digit 1 = .ok (.iload_n 1, 1) := by decide +kernel
theorem d_A_digit_2 : decode c_A_digit 2 = .ok (.iload_n 2, 1) := by decide +kernel
theorem d_A_digit_3 : decode c_A_digit 3 = .ok (.iload_n 3, 1) := by decide +kernel
theorem d_A_digit_4 : decode c_A_digit 4 = .ok (.invokevirtual 48, 3) := by decide +kernel
theorem d_A_digit_7 : decode c_A_digit 7 = .ok (.ifCond .eq 8, 3) := by decide +kernel
theorem d_A_digit_10 : decode c_A_digit 10 = .ok (.iload 4, 2) := by decide +kernel
theorem d_A_digit_12 : decode c_A_digit 12 = .ok (.ifCond .ge 5, 3) := by decide +kernel
theorem d_A_digit_15 : decode c_A_digit 15 = .ok (.iconst (-1), 1) := by decide +kernel
theorem d_A_digit_16 : decode c_A_digit 16 = .ok (.ireturn, 1) := by decide +kernel
theorem d_A_digit_17 : decode c_A_digit 17 = .ok (.aload_n 0, 1) := by decide +kernel
theorem d_A_digit_18 : decode c_A_digit 18 = .ok (.getfield 11, 3) := by decide +kernel
theorem d_A_digit_21 : decode c_A_digit 21 = .ok (.iload_n 1, 1) := by decide +kernel
theorem d_A_digit_22 : decode c_A_digit 22 = .ok (.aaload, 1) := by decide +kernel
theorem d_A_digit_23 : decode c_A_digit 23 = .ok (.iload_n 2, 1) := by decide +kernel
theorem d_A_digit_24 : decode c_A_digit 24 = .ok (.iload_n 3, 1) := by decide +kernel
theorem d_A_digit_25 : decode c_A_digit 25 = .ok (.iload 4, 2) := by decide +kernel
theorem d_A_digit_27 : decode c_A_digit 27 = .ok (.invokevirtual 129, 3) := by decide +kernel
theorem d_A_digit_30 : decode c_A_digit 30 = .ok (.ireturn, 1) := by decide +kernel
end
section
-- ===== decode rows (written by wip/gen/names.py) =====
theorem d_N_init_0 : decode c_N_init 0 = .ok (.aload_n 0, 1) := by decide +kernel
theorem d_N_init_1 : decode c_N_init 1 = .ok (.invokespecial 1, 3) := by decide +kernel
theorem d_N_init_4 : decode c_N_init 4 = .ok (.aload_n 0, 1) := by decide +kernel
theorem d_N_init_5 : decode c_N_init 5 = .ok (.sipush 160, 3) := by decide +kernel
theorem d_N_init_8 : decode c_N_init 8 = .ok (.newarray .int, 2) := by decide +kernel
theorem d_N_init_10 : decode c_N_init 10 = .ok (.putfield 7, 3) := by decide +kernel
theorem d_N_init_13 : decode c_N_init 13 = .ok (.return_, 1) := by decide +kernel
theorem d_N_zero_0 : decode c_N_zero 0 = .ok (.aload_n 0, 1) := by decide +kernel
theorem d_N_zero_1 : decode c_N_zero 1 = .ok (.iconst 0, 1) := by decide +kernel
theorem d_N_zero_2 : decode c_N_zero 2 = .ok (.putfield 13, 3) := by decide +kernel
theorem d_N_zero_5 : decode c_N_zero 5 = .ok (.aload_n 0, 1) := by decide +kernel
theorem d_N_zero_6 : decode c_N_zero 6 = .ok (.iconst 0, 1) := by decide +kernel
theorem d_N_zero_7 : decode c_N_zero 7 = .ok (.putfield 17, 3) := by decide +kernel
theorem d_N_zero_10 : decode c_N_zero 10 = .ok (.return_, 1) := by decide +kernel
theorem d_N_small_0 : decode c_N_small 0 = .ok (.aload_n 0, 1) := by decide +kernel
theorem d_N_small_1 : decode c_N_small 1 = .ok (.invokevirtual 21, 3) := by decide +kernel
theorem d_N_small_4 : decode c_N_small 4 = .ok (.aload_n 0, 1) := by decide +kernel
theorem d_N_small_5 : decode c_N_small 5 = .ok (.lload_n 1, 1) := by decide +kernel
theorem d_N_small_6 : decode c_N_small 6 = .ok (.lconst 0, 1) := by decide +kernel
theorem d_N_small_7 : decode c_N_small 7 = .ok (.lcmp, 1) := by decide +kernel
theorem d_N_small_8 : decode c_N_small 8 = .ok (.ifCond .ge 7, 3) := by decide +kernel
theorem d_N_small_11 : decode c_N_small 11 = .ok (.iconst 1, 1) := by decide +kernel
theorem d_N_small_12 : decode c_N_small 12 = .ok (.goto 4, 3) := by decide +kernel
theorem d_N_small_15 : decode c_N_small 15 = .ok (.iconst 0, 1) := by decide +kernel
theorem d_N_small_16 : decode c_N_small 16 = .ok (.putfield 17, 3) := by decide +kernel
theorem d_N_small_19 : decode c_N_small 19 = .ok (.lload_n 1, 1) := by decide +kernel
theorem d_N_small_20 : decode c_N_small 20 = .ok (.lconst 0, 1) := by decide +kernel
theorem d_N_small_21 : decode c_N_small 21 = .ok (.lcmp, 1) := by decide +kernel
theorem d_N_small_22 : decode c_N_small 22 = .ok (.ifCond .ge 8, 3) := by decide +kernel
theorem d_N_small_25 : decode c_N_small 25 = .ok (.lload_n 1, 1) := by decide +kernel
theorem d_N_small_26 : decode c_N_small 26 = .ok (.lneg, 1) := by decide +kernel
theorem d_N_small_27 : decode c_N_small 27 = .ok (.goto 4, 3) := by decide +kernel
theorem d_N_small_30 : decode c_N_small 30 = .ok (.lload_n 1, 1) := by decide +kernel
theorem d_N_small_31 : decode c_N_small 31 = .ok (.lstore_n 3, 1) := by decide +kernel
theorem d_N_small_32 : decode c_N_small 32 = .ok (.lload_n 3, 1) := by decide +kernel
theorem d_N_small_33 : decode c_N_small 33 = .ok (.lconst 0, 1) := by decide +kernel
theorem d_N_small_34 : decode c_N_small 34 = .ok (.lcmp, 1) := by decide +kernel
theorem d_N_small_35 : decode c_N_small 35 = .ok (.ifCond .le 37, 3) := by decide +kernel
theorem d_N_small_38 : decode c_N_small 38 = .ok (.aload_n 0, 1) := by decide +kernel
theorem d_N_small_39 : decode c_N_small 39 = .ok (.getfield 7, 3) := by decide +kernel
theorem d_N_small_42 : decode c_N_small 42 = .ok (.aload_n 0, 1) := by decide +kernel
theorem d_N_small_43 : decode c_N_small 43 = .ok (.getfield 13, 3) := by decide +kernel
theorem d_N_small_46 : decode c_N_small 46 = .ok (.lload_n 3, 1) := by decide +kernel
theorem d_N_small_47 : decode c_N_small 47 = .ok (.ldc2_w 24, 3) := by decide +kernel
theorem d_N_small_50 : decode c_N_small 50 = .ok (.lrem, 1) := by decide +kernel
theorem d_N_small_51 : decode c_N_small 51 = .ok (.l2i, 1) := by decide +kernel
theorem d_N_small_52 : decode c_N_small 52 = .ok (.iastore, 1) := by decide +kernel
theorem d_N_small_53 : decode c_N_small 53 = .ok (.aload_n 0, 1) := by decide +kernel
theorem d_N_small_54 : decode c_N_small 54 = .ok (.dup, 1) := by decide +kernel
theorem d_N_small_55 : decode c_N_small 55 = .ok (.getfield 13, 3) := by decide +kernel
theorem d_N_small_58 : decode c_N_small 58 = .ok (.iconst 1, 1) := by decide +kernel
theorem d_N_small_59 : decode c_N_small 59 = .ok (.iadd, 1) := by decide +kernel
theorem d_N_small_60 : decode c_N_small 60 = .ok (.putfield 13, 3) := by decide +kernel
theorem d_N_small_63 : decode c_N_small 63 = .ok (.lload_n 3, 1) := by decide +kernel
theorem d_N_small_64 : decode c_N_small 64 = .ok (.ldc2_w 24, 3) := by decide +kernel
theorem d_N_small_67 : decode c_N_small 67 = .ok (.ldiv, 1) := by decide +kernel
theorem d_N_small_68 : decode c_N_small 68 = .ok (.lstore_n 3, 1) := by decide +kernel
theorem d_N_small_69 : decode c_N_small 69 = .ok (.goto (-37), 3) := by decide +kernel
theorem d_N_small_72 : decode c_N_small 72 = .ok (.return_, 1) := by decide +kernel
theorem d_N_copy_0 : decode c_N_copy 0 = .ok (.aload_n 0, 1) := by decide +kernel
theorem d_N_copy_1 : decode c_N_copy 1 = .ok (.aload_n 1, 1) := by decide +kernel
theorem d_N_copy_2 : decode c_N_copy 2 = .ok (.getfield 13, 3) := by decide +kernel
theorem d_N_copy_5 : decode c_N_copy 5 = .ok (.putfield 13, 3) := by decide +kernel
theorem d_N_copy_8 : decode c_N_copy 8 = .ok (.aload_n 0, 1) := by decide +kernel
theorem d_N_copy_9 : decode c_N_copy 9 = .ok (.aload_n 1, 1) := by decide +kernel
theorem d_N_copy_10 : decode c_N_copy 10 = .ok (.getfield 17, 3) := by decide +kernel
theorem d_N_copy_13 : decode c_N_copy 13 = .ok (.putfield 17, 3) := by decide +kernel
theorem d_N_copy_16 : decode c_N_copy 16 = .ok (.iconst 0, 1) := by decide +kernel
theorem d_N_copy_17 : decode c_N_copy 17 = .ok (.istore_n 2, 1) := by decide +kernel
theorem d_N_copy_18 : decode c_N_copy 18 = .ok (.iload_n 2, 1) := by decide +kernel
theorem d_N_copy_19 : decode c_N_copy 19 = .ok (.aload_n 0, 1) := by decide +kernel
theorem d_N_copy_20 : decode c_N_copy 20 = .ok (.getfield 13, 3) := by decide +kernel
theorem d_N_copy_23 : decode c_N_copy 23 = .ok (.if_icmp .ge 21, 3) := by decide +kernel
theorem d_N_copy_26 : decode c_N_copy 26 = .ok (.aload_n 0, 1) := by decide +kernel
theorem d_N_copy_27 : decode c_N_copy 27 = .ok (.getfield 7, 3) := by decide +kernel
theorem d_N_copy_30 : decode c_N_copy 30 = .ok (.iload_n 2, 1) := by decide +kernel
theorem d_N_copy_31 : decode c_N_copy 31 = .ok (.aload_n 1, 1) := by decide +kernel
theorem d_N_copy_32 : decode c_N_copy 32 = .ok (.getfield 7, 3) := by decide +kernel
theorem d_N_copy_35 : decode c_N_copy 35 = .ok (.iload_n 2, 1) := by decide +kernel
theorem d_N_copy_36 : decode c_N_copy 36 = .ok (.iaload, 1) := by decide +kernel
theorem d_N_copy_37 : decode c_N_copy 37 = .ok (.iastore, 1) := by decide +kernel
theorem d_N_copy_38 : decode c_N_copy 38 = .ok (.iinc 2 1, 3) := by decide +kernel
theorem d_N_copy_41 : decode c_N_copy 41 = .ok (.goto (-23), 3) := by decide +kernel
theorem d_N_copy_44 : decode c_N_copy 44 = .ok (.return_, 1) := by decide +kernel
theorem d_N_product_0 : decode c_N_product 0 = .ok (.aload_n 0, 1) := by decide +kernel
theorem d_N_product_1 : decode c_N_product 1 = .ok (.aload_n 1, 1) := by decide +kernel
theorem d_N_product_2 : decode c_N_product 2 = .ok (.getfield 13, 3) := by decide +kernel
theorem d_N_product_5 : decode c_N_product 5 = .ok (.aload_n 2, 1) := by decide +kernel
theorem d_N_product_6 : decode c_N_product 6 = .ok (.getfield 13, 3) := by decide +kernel
theorem d_N_product_9 : decode c_N_product 9 = .ok (.iadd, 1) := by decide +kernel
theorem d_N_product_10 : decode c_N_product 10 = .ok (.putfield 13, 3) := by decide +kernel
theorem d_N_product_13 : decode c_N_product 13 = .ok (.iconst 0, 1) := by decide +kernel
theorem d_N_product_14 : decode c_N_product 14 = .ok (.istore_n 3, 1) := by decide +kernel
theorem d_N_product_15 : decode c_N_product 15 = .ok (.iload_n 3, 1) := by decide +kernel
theorem d_N_product_16 : decode c_N_product 16 = .ok (.aload_n 0, 1) := by decide +kernel
theorem d_N_product_17 : decode c_N_product 17 = .ok (.getfield 13, 3) := by decide +kernel
theorem d_N_product_20 : decode c_N_product 20 = .ok (.if_icmp .ge 16, 3) := by decide +kernel
theorem d_N_product_23 : decode c_N_product 23 = .ok (.aload_n 0, 1) := by decide +kernel
theorem d_N_product_24 : decode c_N_product 24 = .ok (.getfield 7, 3) := by decide +kernel
theorem d_N_product_27 : decode c_N_product 27 = .ok (.iload_n 3, 1) := by decide +kernel
theorem d_N_product_28 : decode c_N_product 28 = .ok (.iconst 0, 1) := by decide +kernel
theorem d_N_product_29 : decode c_N_product 29 = .ok (.iastore, 1) := by decide +kernel
theorem d_N_product_30 : decode c_N_product 30 = .ok (.iinc 3 1, 3) := by decide +kernel
theorem d_N_product_33 : decode c_N_product 33 = .ok (.goto (-18), 3) := by decide +kernel
theorem d_N_product_36 : decode c_N_product 36 = .ok (.iconst 0, 1) := by decide +kernel
theorem d_N_product_37 : decode c_N_product 37 = .ok (.istore_n 3, 1) := by decide +kernel
theorem d_N_product_38 : decode c_N_product 38 = .ok (.iload_n 3, 1) := by decide +kernel
theorem d_N_product_39 : decode c_N_product 39 = .ok (.aload_n 1, 1) := by decide +kernel
theorem d_N_product_40 : decode c_N_product 40 = .ok (.getfield 13, 3) := by decide +kernel
theorem d_N_product_43 : decode c_N_product 43 = .ok (.if_icmp .ge 100, 3) := by decide +kernel
theorem d_N_product_46 : decode c_N_product 46 = .ok (.lconst 0, 1) := by decide +kernel
theorem d_N_product_47 : decode c_N_product 47 = .ok (.lstore 4, 2) := by decide +kernel
theorem d_N_product_49 : decode c_N_product 49 = .ok (.iconst 0, 1) := by decide +kernel
theorem d_N_product_50 : decode c_N_product 50 = .ok (.istore 6, 2) := by decide +kernel
theorem d_N_product_52 : decode c_N_product 52 = .ok (.iload 6, 2) := by decide +kernel
theorem d_N_product_54 : decode c_N_product 54 = .ok (.aload_n 2, 1) := by decide +kernel
theorem d_N_product_55 : decode c_N_product 55 = .ok (.getfield 13, 3) := by decide +kernel
theorem d_N_product_58 : decode c_N_product 58 = .ok (.if_icmp .ge 65, 3) := by decide +kernel
theorem d_N_product_61 : decode c_N_product 61 = .ok (.lload 4, 2) := by decide +kernel
theorem d_N_product_63 : decode c_N_product 63 = .ok (.aload_n 1, 1) := by decide +kernel
theorem d_N_product_64 : decode c_N_product 64 = .ok (.getfield 7, 3) := by decide +kernel
theorem d_N_product_67 : decode c_N_product 67 = .ok (.iload_n 3, 1) := by decide +kernel
theorem d_N_product_68 : decode c_N_product 68 = .ok (.iaload, 1) := by decide +kernel
theorem d_N_product_69 : decode c_N_product 69 = .ok (.i2l, 1) := by decide +kernel
theorem d_N_product_70 : decode c_N_product 70 = .ok (.aload_n 2, 1) := by decide +kernel
theorem d_N_product_71 : decode c_N_product 71 = .ok (.getfield 7, 3) := by decide +kernel
theorem d_N_product_74 : decode c_N_product 74 = .ok (.iload 6, 2) := by decide +kernel
theorem d_N_product_76 : decode c_N_product 76 = .ok (.iaload, 1) := by decide +kernel
theorem d_N_product_77 : decode c_N_product 77 = .ok (.i2l, 1) := by decide +kernel
theorem d_N_product_78 : decode c_N_product 78 = .ok (.lmul, 1) := by decide +kernel
theorem d_N_product_79 : decode c_N_product 79 = .ok (.aload_n 0, 1) := by decide +kernel
theorem d_N_product_80 : decode c_N_product 80 = .ok (.getfield 7, 3) := by decide +kernel
theorem d_N_product_83 : decode c_N_product 83 = .ok (.iload_n 3, 1) := by decide +kernel
theorem d_N_product_84 : decode c_N_product 84 = .ok (.iload 6, 2) := by decide +kernel
theorem d_N_product_86 : decode c_N_product 86 = .ok (.iadd, 1) := by decide +kernel
theorem d_N_product_87 : decode c_N_product 87 = .ok (.iaload, 1) := by decide +kernel
theorem d_N_product_88 : decode c_N_product 88 = .ok (.i2l, 1) := by decide +kernel
theorem d_N_product_89 : decode c_N_product 89 = .ok (.ladd, 1) := by decide +kernel
theorem d_N_product_90 : decode c_N_product 90 = .ok (.ladd, 1) := by decide +kernel
theorem d_N_product_91 : decode c_N_product 91 = .ok (.lstore 4, 2) := by decide +kernel
theorem d_N_product_93 : decode c_N_product 93 = .ok (.aload_n 0, 1) := by decide +kernel
theorem d_N_product_94 : decode c_N_product 94 = .ok (.getfield 7, 3) := by decide +kernel
theorem d_N_product_97 : decode c_N_product 97 = .ok (.iload_n 3, 1) := by decide +kernel
theorem d_N_product_98 : decode c_N_product 98 = .ok (.iload 6, 2) := by decide +kernel
theorem d_N_product_100 : decode c_N_product 100 = .ok (.iadd, 1) := by decide +kernel
theorem d_N_product_101 : decode c_N_product 101 = .ok (.lload 4, 2) := by decide +kernel
theorem d_N_product_103 : decode c_N_product 103 = .ok (.ldc2_w 24, 3) := by decide +kernel
theorem d_N_product_106 : decode c_N_product 106 = .ok (.lrem, 1) := by decide +kernel
theorem d_N_product_107 : decode c_N_product 107 = .ok (.l2i, 1) := by decide +kernel
theorem d_N_product_108 : decode c_N_product 108 = .ok (.iastore, 1) := by decide +kernel
theorem d_N_product_109 : decode c_N_product 109 = .ok (.lload 4, 2) := by decide +kernel
theorem d_N_product_111 : decode c_N_product 111 = .ok (.ldc2_w 24, 3) := by decide +kernel
theorem d_N_product_114 : decode c_N_product 114 = .ok (.ldiv, 1) := by decide +kernel
theorem d_N_product_115 : decode c_N_product 115 = .ok (.lstore 4, 2) := by decide +kernel
theorem d_N_product_117 : decode c_N_product 117 = .ok (.iinc 6 1, 3) := by decide +kernel
theorem d_N_product_120 : decode c_N_product 120 = .ok (.goto (-68), 3) := by decide +kernel
theorem d_N_product_123 : decode c_N_product 123 = .ok (.aload_n 0, 1) := by decide +kernel
theorem d_N_product_124 : decode c_N_product 124 = .ok (.getfield 7, 3) := by decide +kernel
theorem d_N_product_127 : decode c_N_product 127 = .ok (.iload_n 3, 1) := by decide +kernel
theorem d_N_product_128 : decode c_N_product 128 = .ok (.aload_n 2, 1) := by decide +kernel
theorem d_N_product_129 : decode c_N_product 129 = .ok (.getfield 13, 3) := by decide +kernel
theorem d_N_product_132 : decode c_N_product 132 = .ok (.iadd, 1) := by decide +kernel
theorem d_N_product_133 : decode c_N_product 133 = .ok (.lload 4, 2) := by decide +kernel
theorem d_N_product_135 : decode c_N_product 135 = .ok (.l2i, 1) := by decide +kernel
theorem d_N_product_136 : decode c_N_product 136 = .ok (.iastore, 1) := by decide +kernel
theorem d_N_product_137 : decode c_N_product 137 = .ok (.iinc 3 1, 3) := by decide +kernel
theorem d_N_product_140 : decode c_N_product 140 = .ok (.goto (-102), 3) := by decide +kernel
theorem d_N_product_143 : decode c_N_product 143 = .ok (.aload_n 0, 1) := by decide +kernel
theorem d_N_product_144 : decode c_N_product 144 = .ok (.aload_n 1, 1) := by decide +kernel
theorem d_N_product_145 : decode c_N_product 145 = .ok (.getfield 17, 3) := by decide +kernel
theorem d_N_product_148 : decode c_N_product 148 = .ok (.aload_n 2, 1) := by decide +kernel
theorem d_N_product_149 : decode c_N_product 149 = .ok (.getfield 17, 3) := by decide +kernel
theorem d_N_product_152 : decode c_N_product 152 = .ok (.if_icmp .eq 7, 3) := by decide +kernel
theorem d_N_product_155 : decode c_N_product 155 = .ok (.iconst 1, 1) := by decide +kernel
theorem d_N_product_156 : decode c_N_product 156 = .ok (.goto 4, 3) := by decide +kernel
theorem d_N_product_159 : decode c_N_product 159 = .ok (.iconst 0, 1) := by decide +kernel
theorem d_N_product_160 : decode c_N_product 160 = .ok (.putfield 17, 3) := by decide +kernel
theorem d_N_product_163 : decode c_N_product 163 = .ok (.aload_n 0, 1) := by decide +kernel
theorem d_N_product_164 : decode c_N_product 164 = .ok (.invokevirtual 27, 3) := by decide +kernel
theorem d_N_product_167 : decode c_N_product 167 = .ok (.return_, 1) := by decide +kernel
theorem d_N_trim_0 : decode c_N_trim 0 = .ok (.aload_n 0, 1) := by decide +kernel
theorem d_N_trim_1 : decode c_N_trim 1 = .ok (.getfield 13, 3) := by decide +kernel
theorem d_N_trim_4 : decode c_N_trim 4 = .ok (.ifCond .le 30, 3) := by decide +kernel
theorem d_N_trim_7 : decode c_N_trim 7 = .ok (.aload_n 0, 1) := by decide +kernel
theorem d_N_trim_8 : decode c_N_trim 8 = .ok (.getfield 7, 3) := by decide +kernel
theorem d_N_trim_11 : decode c_N_trim 11 = .ok (.aload_n 0, 1) := by decide +kernel
theorem d_N_trim_12 : decode c_N_trim 12 = .ok (.getfield 13, 3) := by decide +kernel
theorem d_N_trim_15 : decode c_N_trim 15 = .ok (.iconst 1, 1) := by decide +kernel
theorem d_N_trim_16 : decode c_N_trim 16 = .ok (.isub, 1) := by decide +kernel
theorem d_N_trim_17 : decode c_N_trim 17 = .ok (.iaload, 1) := by decide +kernel
theorem d_N_trim_18 : decode c_N_trim 18 = .ok (.ifCond .ne 16, 3) := by decide +kernel
theorem d_N_trim_21 : decode c_N_trim 21 = .ok (.aload_n 0, 1) := by decide +kernel
theorem d_N_trim_22 : decode c_N_trim 22 = .ok (.dup, 1) := by decide +kernel
theorem d_N_trim_23 : decode c_N_trim 23 = .ok (.getfield 13, 3) := by decide +kernel
theorem d_N_trim_26 : decode c_N_trim 26 = .ok (.iconst 1, 1) := by decide +kernel
theorem d_N_trim_27 : decode c_N_trim 27 = .ok (.isub, 1) := by decide +kernel
theorem d_N_trim_28 : decode c_N_trim 28 = .ok (.putfield 13, 3) := by decide +kernel
theorem d_N_trim_31 : decode c_N_trim 31 = .ok (.goto (-31), 3) := by decide +kernel
theorem d_N_trim_34 : decode c_N_trim 34 = .ok (.aload_n 0, 1) := by decide +kernel
theorem d_N_trim_35 : decode c_N_trim 35 = .ok (.aload_n 0, 1) := by decide +kernel
theorem d_N_trim_36 : decode c_N_trim 36 = .ok (.getfield 17, 3) := by decide +kernel
theorem d_N_trim_39 : decode c_N_trim 39 = .ok (.ifCond .eq 14, 3) := by decide +kernel
theorem d_N_trim_42 : decode c_N_trim 42 = .ok (.aload_n 0, 1) := by decide +kernel
theorem d_N_trim_43 : decode c_N_trim 43 = .ok (.getfield 13, 3) := by decide +kernel
theorem d_N_trim_46 : decode c_N_trim 46 = .ok (.ifCond .le 7, 3) := by decide +kernel
theorem d_N_trim_49 : decode c_N_trim 49 = .ok (.iconst 1, 1) := by decide +kernel
theorem d_N_trim_50 : decode c_N_trim 50 = .ok (.goto 4, 3) := by decide +kernel
theorem d_N_trim_53 : decode c_N_trim 53 = .ok (.iconst 0, 1) := by decide +kernel
theorem d_N_trim_54 : decode c_N_trim 54 = .ok (.putfield 17, 3) := by decide +kernel
theorem d_N_trim_57 : decode c_N_trim 57 = .ok (.return_, 1) := by decide +kernel
theorem d_N_quotient_0 : decode c_N_quotient 0 = .ok (.aload_n 3, 1) := by decide +kernel
theorem d_N_quotient_1 : decode c_N_quotient 1 = .ok (.invokevirtual 21, 3) := by decide +kernel
theorem d_N_quotient_4 : decode c_N_quotient 4 = .ok (.aload_n 1, 1) := by decide +kernel
theorem d_N_quotient_5 : decode c_N_quotient 5 = .ok (.getfield 13, 3) := by decide +kernel
theorem d_N_quotient_8 : decode c_N_quotient 8 = .ok (.iconst 1, 1) := by decide +kernel
theorem d_N_quotient_9 : decode c_N_quotient 9 = .ok (.isub, 1) := by decide +kernel
theorem d_N_quotient_10 : decode c_N_quotient 10 = .ok (.istore 4, 2) := by decide +kernel
theorem d_N_quotient_12 : decode c_N_quotient 12 = .ok (.iload 4, 2) := by decide +kernel
theorem d_N_quotient_14 : decode c_N_quotient 14 = .ok (.ifCond .lt 97, 3) := by decide +kernel
theorem d_N_quotient_17 : decode c_N_quotient 17 = .ok (.aload_n 3, 1) := by decide +kernel
theorem d_N_quotient_18 : decode c_N_quotient 18 = .ok (.getfield 13, 3) := by decide +kernel
theorem d_N_quotient_21 : decode c_N_quotient 21 = .ok (.istore 5, 2) := by decide +kernel
theorem d_N_quotient_23 : decode c_N_quotient 23 = .ok (.iload 5, 2) := by decide +kernel
theorem d_N_quotient_25 : decode c_N_quotient 25 = .ok (.ifCond .le 25, 3) := by decide +kernel
theorem d_N_quotient_28 : decode c_N_quotient 28 = .ok (.aload_n 3, 1) := by decide +kernel
theorem d_N_quotient_29 : decode c_N_quotient 29 = .ok (.getfield 7, 3) := by decide +kernel
theorem d_N_quotient_32 : decode c_N_quotient 32 = .ok (.iload 5, 2) := by decide +kernel
theorem d_N_quotient_34 : decode c_N_quotient 34 = .ok (.aload_n 3, 1) := by decide +kernel
theorem d_N_quotient_35 : decode c_N_quotient 35 = .ok (.getfield 7, 3) := by decide +kernel
theorem d_N_quotient_38 : decode c_N_quotient 38 = .ok (.iload 5, 2) := by decide +kernel
theorem d_N_quotient_40 : decode c_N_quotient 40 = .ok (.iconst 1, 1) := by decide +kernel
theorem d_N_quotient_41 : decode c_N_quotient 41 = .ok (.isub, 1) := by decide +kernel
theorem d_N_quotient_42 : decode c_N_quotient 42 = .ok (.iaload, 1) := by decide +kernel
theorem d_N_quotient_43 : decode c_N_quotient 43 = .ok (.iastore, 1) := by decide +kernel
theorem d_N_quotient_44 : decode c_N_quotient 44 = .ok (.iinc 5 (-1), 3) := by decide +kernel
theorem d_N_quotient_47 : decode c_N_quotient 47 = .ok (.goto (-24), 3) := by decide +kernel
theorem d_N_quotient_50 : decode c_N_quotient 50 = .ok (.aload_n 3, 1) := by decide +kernel
theorem d_N_quotient_51 : decode c_N_quotient 51 = .ok (.getfield 7, 3) := by decide +kernel
theorem d_N_quotient_54 : decode c_N_quotient 54 = .ok (.iconst 0, 1) := by decide +kernel
theorem d_N_quotient_55 : decode c_N_quotient 55 = .ok (.aload_n 1, 1) := by decide +kernel
theorem d_N_quotient_56 : decode c_N_quotient 56 = .ok (.getfield 7, 3) := by decide +kernel
theorem d_N_quotient_59 : decode c_N_quotient 59 = .ok (.iload 4, 2) := by decide +kernel
theorem d_N_quotient_61 : decode c_N_quotient 61 = .ok (.iaload, 1) := by decide +kernel
theorem d_N_quotient_62 : decode c_N_quotient 62 = .ok (.iastore, 1) := by decide +kernel
theorem d_N_quotient_63 : decode c_N_quotient 63 = .ok (.aload_n 3, 1) := by decide +kernel
theorem d_N_quotient_64 : decode c_N_quotient 64 = .ok (.dup, 1) := by decide +kernel
theorem d_N_quotient_65 : decode c_N_quotient 65 = .ok (.getfield 13, 3) := by decide +kernel
theorem d_N_quotient_68 : decode c_N_quotient 68 = .ok (.iconst 1, 1) := by decide +kernel
theorem d_N_quotient_69 : decode c_N_quotient 69 = .ok (.iadd, 1) := by decide +kernel
theorem d_N_quotient_70 : decode c_N_quotient 70 = .ok (.putfield 13, 3) := by decide +kernel
theorem d_N_quotient_73 : decode c_N_quotient 73 = .ok (.aload_n 3, 1) := by decide +kernel
theorem d_N_quotient_74 : decode c_N_quotient 74 = .ok (.invokevirtual 27, 3) := by decide +kernel
theorem d_N_quotient_77 : decode c_N_quotient 77 = .ok (.aload_n 0, 1) := by decide +kernel
theorem d_N_quotient_78 : decode c_N_quotient 78 = .ok (.getfield 7, 3) := by decide +kernel
theorem d_N_quotient_81 : decode c_N_quotient 81 = .ok (.iload 4, 2) := by decide +kernel
theorem d_N_quotient_83 : decode c_N_quotient 83 = .ok (.iconst 0, 1) := by decide +kernel
theorem d_N_quotient_84 : decode c_N_quotient 84 = .ok (.iastore, 1) := by decide +kernel
theorem d_N_quotient_85 : decode c_N_quotient 85 = .ok (.aload_n 3, 1) := by decide +kernel
theorem d_N_quotient_86 : decode c_N_quotient 86 = .ok (.aload_n 2, 1) := by decide +kernel
theorem d_N_quotient_87 : decode c_N_quotient 87 = .ok (.invokevirtual 30, 3) := by decide +kernel
theorem d_N_quotient_90 : decode c_N_quotient 90 = .ok (.ifCond .lt 15, 3) := by decide +kernel
theorem d_N_quotient_93 : decode c_N_quotient 93 = .ok (.aload_n 0, 1) := by decide +kernel
theorem d_N_quotient_94 : decode c_N_quotient 94 = .ok (.getfield 7, 3) := by decide +kernel
theorem d_N_quotient_97 : decode c_N_quotient 97 = .ok (.iload 4, 2) := by decide +kernel
theorem d_N_quotient_99 : decode c_N_quotient 99 = .ok (.aload_n 3, 1) := by decide +kernel
theorem d_N_quotient_100 : decode c_N_quotient 100 = .ok (.aload_n 2, 1) := by decide +kernel
theorem d_N_quotient_101 : decode c_N_quotient 101 = .ok (.invokestatic 34, 3) := by decide +kernel
theorem d_N_quotient_104 : decode c_N_quotient 104 = .ok (.iastore, 1) := by decide +kernel
theorem d_N_quotient_105 : decode c_N_quotient 105 = .ok (.iinc 4 (-1), 3) := by decide +kernel
theorem d_N_quotient_108 : decode c_N_quotient 108 = .ok (.goto (-96), 3) := by decide +kernel
theorem d_N_quotient_111 : decode c_N_quotient 111 = .ok (.aload_n 0, 1) := by decide +kernel
theorem d_N_quotient_112 : decode c_N_quotient 112 = .ok (.aload_n 1, 1) := by decide +kernel
theorem d_N_quotient_113 : decode c_N_quotient 113 = .ok (.getfield 13, 3) := by decide +kernel
theorem d_N_quotient_116 : decode c_N_quotient 116 = .ok (.putfield 13, 3) := by decide +kernel
theorem d_N_quotient_119 : decode c_N_quotient 119 = .ok (.aload_n 0, 1) := by decide +kernel
theorem d_N_quotient_120 : decode c_N_quotient 120 = .ok (.aload_n 1, 1) := by decide +kernel
theorem d_N_quotient_121 : decode c_N_quotient 121 = .ok (.getfield 17, 3) := by decide +kernel
theorem d_N_quotient_124 : decode c_N_quotient 124 = .ok (.aload_n 2, 1) := by decide +kernel
theorem d_N_quotient_125 : decode c_N_quotient 125 = .ok (.getfield 17, 3) := by decide +kernel
theorem d_N_quotient_128 : decode c_N_quotient 128 = .ok (.if_icmp .eq 7, 3) := by decide +kernel
theorem d_N_quotient_131 : decode c_N_quotient 131 = .ok (.iconst 1, 1) := by decide +kernel
theorem d_N_quotient_132 : decode c_N_quotient 132 = .ok (.goto 4, 3) := by decide +kernel
theorem d_N_quotient_135 : decode c_N_quotient 135 = .ok (.iconst 0, 1) := by decide +kernel
theorem d_N_quotient_136 : decode c_N_quotient 136 = .ok (.putfield 17, 3) := by decide +kernel
theorem d_N_quotient_139 : decode c_N_quotient 139 = .ok (.aload_n 0, 1) := by decide +kernel
theorem d_N_quotient_140 : decode c_N_quotient 140 = .ok (.invokevirtual 27, 3) := by decide +kernel
theorem d_N_quotient_143 : decode c_N_quotient 143 = .ok (.return_, 1) := by decide +kernel
theorem d_N_compareSize_0 : decode c_N_compareSize 0 = .ok (.aload_n 0, 1) := by decide +kernel
theorem d_N_compareSize_1 : decode c_N_compareSize 1 = .ok (.getfield 13, 3) := by decide +kernel
theorem d_N_compareSize_4 : decode c_N_compareSize 4 = .ok (.aload_n 1, 1) := by decide +kernel
theorem d_N_compareSize_5 : decode c_N_compareSize 5 = .ok (.getfield 13, 3) := by decide +kernel
theorem d_N_compareSize_8 : decode c_N_compareSize 8 = .ok (.if_icmp .eq 20, 3) := by decide +kernel
theorem d_N_compareSize_11 : decode c_N_compareSize 11 = .ok (.aload_n 0, 1) := by decide +kernel
theorem d_N_compareSize_12 : decode c_N_compareSize 12 = .ok (.getfield 13, 3) := by decide +kernel
theorem d_N_compareSize_15 : decode c_N_compareSize 15 = .ok (.aload_n 1, 1) := by decide +kernel
theorem d_N_compareSize_16 : decode c_N_compareSize 16 = .ok (.getfield 13, 3) := by decide +kernel
theorem d_N_compareSize_19 : decode c_N_compareSize 19 = .ok (.if_icmp .ge 7, 3) := by decide +kernel
theorem d_N_compareSize_22 : decode c_N_compareSize 22 = .ok (.iconst (-1), 1) := by decide +kernel
theorem d_N_compareSize_23 : decode c_N_compareSize 23 = .ok (.goto 4, 3) := by decide +kernel
theorem d_N_compareSize_26 : decode c_N_compareSize 26 = .ok (.iconst 1, 1) := by decide +kernel
theorem d_N_compareSize_27 : decode c_N_compareSize 27 = .ok (.ireturn, 1) := by decide +kernel
theorem d_N_compareSize_28 : decode c_N_compareSize 28 = .ok (.aload_n 0, 1) := by decide +kernel
theorem d_N_compareSize_29 : decode c_N_compareSize 29 = .ok (.getfield 13, 3) := by decide +kernel
theorem d_N_compareSize_32 : decode c_N_compareSize 32 = .ok (.iconst 1, 1) := by decide +kernel
theorem d_N_compareSize_33 : decode c_N_compareSize 33 = .ok (.isub, 1) := by decide +kernel
theorem d_N_compareSize_34 : decode c_N_compareSize 34 = .ok (.istore_n 2, 1) := by decide +kernel
theorem d_N_compareSize_35 : decode c_N_compareSize 35 = .ok (.iload_n 2, 1) := by decide +kernel
theorem d_N_compareSize_36 : decode c_N_compareSize 36 = .ok (.ifCond .lt 24, 3) := by decide +kernel
theorem d_N_compareSize_39 : decode c_N_compareSize 39 = .ok (.aload_n 0, 1) := by decide +kernel
theorem d_N_compareSize_40 : decode c_N_compareSize 40 = .ok (.getfield 7, 3) := by decide +kernel
theorem d_N_compareSize_43 : decode c_N_compareSize 43 = .ok (.iload_n 2, 1) := by decide +kernel
theorem d_N_compareSize_44 : decode c_N_compareSize 44 = .ok (.iaload, 1) := by decide +kernel
theorem d_N_compareSize_45 : decode c_N_compareSize 45 = .ok (.aload_n 1, 1) := by decide +kernel
theorem d_N_compareSize_46 : decode c_N_compareSize 46 = .ok (.getfield 7, 3) := by decide +kernel
theorem d_N_compareSize_49 : decode c_N_compareSize 49 = .ok (.iload_n 2, 1) := by decide +kernel
theorem d_N_compareSize_50 : decode c_N_compareSize 50 = .ok (.iaload, 1) := by decide +kernel
theorem d_N_compareSize_51 : decode c_N_compareSize 51 = .ok (.if_icmp .ne 9, 3) := by decide +kernel
theorem d_N_compareSize_54 : decode c_N_compareSize 54 = .ok (.iinc 2 (-1), 3) := by decide +kernel
theorem d_N_compareSize_57 : decode c_N_compareSize 57 = .ok (.goto (-22), 3) := by decide +kernel
theorem d_N_compareSize_60 : decode c_N_compareSize 60 = .ok (.iload_n 2, 1) := by decide +kernel
theorem d_N_compareSize_61 : decode c_N_compareSize 61 = .ok (.ifCond .ge 7, 3) := by decide +kernel
theorem d_N_compareSize_64 : decode c_N_compareSize 64 = .ok (.iconst 0, 1) := by decide +kernel
theorem d_N_compareSize_65 : decode c_N_compareSize 65 = .ok (.goto 23, 3) := by decide +kernel
theorem d_N_compareSize_68 : decode c_N_compareSize 68 = .ok (.aload_n 0, 1) := by decide +kernel
theorem d_N_compareSize_69 : decode c_N_compareSize 69 = .ok (.getfield 7, 3) := by decide +kernel
theorem d_N_compareSize_72 : decode c_N_compareSize 72 = .ok (.iload_n 2, 1) := by decide +kernel
theorem d_N_compareSize_73 : decode c_N_compareSize 73 = .ok (.iaload, 1) := by decide +kernel
theorem d_N_compareSize_74 : decode c_N_compareSize 74 = .ok (.aload_n 1, 1) := by decide +kernel
theorem d_N_compareSize_75 : decode c_N_compareSize 75 = .ok (.getfield 7, 3) := by decide +kernel
theorem d_N_compareSize_78 : decode c_N_compareSize 78 = .ok (.iload_n 2, 1) := by decide +kernel
theorem d_N_compareSize_79 : decode c_N_compareSize 79 = .ok (.iaload, 1) := by decide +kernel
theorem d_N_compareSize_80 : decode c_N_compareSize 80 = .ok (.if_icmp .ge 7, 3) := by decide +kernel
theorem d_N_compareSize_83 : decode c_N_compareSize 83 = .ok (.iconst (-1), 1) := by decide +kernel
theorem d_N_compareSize_84 : decode c_N_compareSize 84 = .ok (.goto 4, 3) := by decide +kernel
theorem d_N_compareSize_87 : decode c_N_compareSize 87 = .ok (.iconst 1, 1) := by decide +kernel
theorem d_N_compareSize_88 : decode c_N_compareSize 88 = .ok (.ireturn, 1) := by decide +kernel
theorem d_N_often_0 : decode c_N_often 0 = .ok (.iconst 1, 1) := by decide +kernel
theorem d_N_often_1 : decode c_N_often 1 = .ok (.istore_n 2, 1) := by decide +kernel
theorem d_N_often_2 : decode c_N_often 2 = .ok (.ldc 38, 2) := by decide +kernel
theorem d_N_often_4 : decode c_N_often 4 = .ok (.istore_n 3, 1) := by decide +kernel
theorem d_N_often_5 : decode c_N_often 5 = .ok (.iload_n 2, 1) := by decide +kernel
theorem d_N_often_6 : decode c_N_often 6 = .ok (.iload_n 3, 1) := by decide +kernel
theorem d_N_often_7 : decode c_N_often 7 = .ok (.if_icmp .ge 36, 3) := by decide +kernel
theorem d_N_often_10 : decode c_N_often 10 = .ok (.iload_n 2, 1) := by decide +kernel
theorem d_N_often_11 : decode c_N_often 11 = .ok (.iload_n 3, 1) := by decide +kernel
theorem d_N_often_12 : decode c_N_often 12 = .ok (.iadd, 1) := by decide +kernel
theorem d_N_often_13 : decode c_N_often 13 = .ok (.iconst 1, 1) := by decide +kernel
theorem d_N_often_14 : decode c_N_often 14 = .ok (.iadd, 1) := by decide +kernel
theorem d_N_often_15 : decode c_N_often 15 = .ok (.iconst 2, 1) := by decide +kernel
theorem d_N_often_16 : decode c_N_often 16 = .ok (.idiv, 1) := by decide +kernel
theorem d_N_often_17 : decode c_N_often 17 = .ok (.istore 4, 2) := by decide +kernel
theorem d_N_often_19 : decode c_N_often 19 = .ok (.aload_n 1, 1) := by decide +kernel
theorem d_N_often_20 : decode c_N_often 20 = .ok (.iload 4, 2) := by decide +kernel
theorem d_N_often_22 : decode c_N_often 22 = .ok (.aload_n 0, 1) := by decide +kernel
theorem d_N_often_23 : decode c_N_often 23 = .ok (.invokestatic 39, 3) := by decide +kernel
theorem d_N_often_26 : decode c_N_often 26 = .ok (.ifCond .eq 9, 3) := by decide +kernel
theorem d_N_often_29 : decode c_N_often 29 = .ok (.iload 4, 2) := by decide +kernel
theorem d_N_often_31 : decode c_N_often 31 = .ok (.istore_n 2, 1) := by decide +kernel
theorem d_N_often_32 : decode c_N_often 32 = .ok (.goto 8, 3) := by decide +kernel
theorem d_N_often_35 : decode c_N_often 35 = .ok (.iload 4, 2) := by decide +kernel
theorem d_N_often_37 : decode c_N_often 37 = .ok (.iconst 1, 1) := by decide +kernel
theorem d_N_often_38 : decode c_N_often 38 = .ok (.isub, 1) := by decide +kernel
theorem d_N_often_39 : decode c_N_often 39 = .ok (.istore_n 3, 1) := by decide +kernel
theorem d_N_often_40 : decode c_N_often 40 = .ok (.goto (-35), 3) := by decide +kernel
theorem d_N_often_43 : decode c_N_often 43 = .ok (.lconst 0, 1) := by decide +kernel
theorem d_N_often_44 : decode c_N_often 44 = .ok (.lstore 4, 2) := by decide +kernel
theorem d_N_often_46 : decode c_N_often 46 = .ok (.iconst 0, 1) := by decide +kernel
theorem d_N_often_47 : decode c_N_often 47 = .ok (.istore 6, 2) := by decide +kernel
theorem d_N_often_49 : decode c_N_often 49 = .ok (.iload 6, 2) := by decide +kernel
theorem d_N_often_51 : decode c_N_often 51 = .ok (.aload_n 0, 1) := by decide +kernel
theorem d_N_often_52 : decode c_N_often 52 = .ok (.getfield 13, 3) := by decide +kernel
theorem d_N_often_55 : decode c_N_often 55 = .ok (.if_icmp .ge 87, 3) := by decide +kernel
theorem d_N_often_58 : decode c_N_often 58 = .ok (.aload_n 0, 1) := by decide +kernel
theorem d_N_often_59 : decode c_N_often 59 = .ok (.getfield 7, 3) := by decide +kernel
theorem d_N_often_62 : decode c_N_often 62 = .ok (.iload 6, 2) := by decide +kernel
theorem d_N_often_64 : decode c_N_often 64 = .ok (.iaload, 1) := by decide +kernel
theorem d_N_often_65 : decode c_N_often 65 = .ok (.i2l, 1) := by decide +kernel
theorem d_N_often_66 : decode c_N_often 66 = .ok (.lload 4, 2) := by decide +kernel
theorem d_N_often_68 : decode c_N_often 68 = .ok (.lsub, 1) := by decide +kernel
theorem d_N_often_69 : decode c_N_often 69 = .ok (.iload 6, 2) := by decide +kernel
theorem d_N_often_71 : decode c_N_often 71 = .ok (.aload_n 1, 1) := by decide +kernel
theorem d_N_often_72 : decode c_N_often 72 = .ok (.getfield 13, 3) := by decide +kernel
theorem d_N_often_75 : decode c_N_often 75 = .ok (.if_icmp .ge 17, 3) := by decide +kernel
theorem d_N_often_78 : decode c_N_often 78 = .ok (.aload_n 1, 1) := by decide +kernel
theorem d_N_often_79 : decode c_N_often 79 = .ok (.getfield 7, 3) := by decide +kernel
theorem d_N_often_82 : decode c_N_often 82 = .ok (.iload 6, 2) := by decide +kernel
theorem d_N_often_84 : decode c_N_often 84 = .ok (.iaload, 1) := by decide +kernel
theorem d_N_often_85 : decode c_N_often 85 = .ok (.i2l, 1) := by decide +kernel
theorem d_N_often_86 : decode c_N_often 86 = .ok (.iload_n 2, 1) := by decide +kernel
theorem d_N_often_87 : decode c_N_often 87 = .ok (.i2l, 1) := by decide +kernel
theorem d_N_often_88 : decode c_N_often 88 = .ok (.lmul, 1) := by decide +kernel
theorem d_N_often_89 : decode c_N_often 89 = .ok (.goto 4, 3) := by decide +kernel
theorem d_N_often_92 : decode c_N_often 92 = .ok (.lconst 0, 1) := by decide +kernel
theorem d_N_often_93 : decode c_N_often 93 = .ok (.lsub, 1) := by decide +kernel
theorem d_N_often_94 : decode c_N_often 94 = .ok (.lstore 7, 2) := by decide +kernel
theorem d_N_often_96 : decode c_N_often 96 = .ok (.lload 7, 2) := by decide +kernel
theorem d_N_often_98 : decode c_N_often 98 = .ok (.lconst 0, 1) := by decide +kernel
theorem d_N_often_99 : decode c_N_often 99 = .ok (.lcmp, 1) := by decide +kernel
theorem d_N_often_100 : decode c_N_often 100 = .ok (.ifCond .ge 16, 3) := by decide +kernel
theorem d_N_often_103 : decode c_N_often 103 = .ok (.ldc2_w 43, 3) := by decide +kernel
theorem d_N_often_106 : decode c_N_often 106 = .ok (.lload 7, 2) := by decide +kernel
theorem d_N_often_108 : decode c_N_often 108 = .ok (.lsub, 1) := by decide +kernel
theorem d_N_often_109 : decode c_N_often 109 = .ok (.ldc2_w 24, 3) := by decide +kernel
theorem d_N_often_112 : decode c_N_often 112 = .ok (.ldiv, 1) := by decide +kernel
theorem d_N_often_113 : decode c_N_often 113 = .ok (.goto 4, 3) := by decide +kernel
theorem d_N_often_116 : decode c_N_often 116 = .ok (.lconst 0, 1) := by decide +kernel
theorem d_N_often_117 : decode c_N_often 117 = .ok (.lstore 4, 2) := by decide +kernel
theorem d_N_often_119 : decode c_N_often 119 = .ok (.aload_n 0, 1) := by decide +kernel
theorem d_N_often_120 : decode c_N_often 120 = .ok (.getfield 7, 3) := by decide +kernel
theorem d_N_often_123 : decode c_N_often 123 = .ok (.iload 6, 2) := by decide +kernel
theorem d_N_often_125 : decode c_N_often 125 = .ok (.lload 7, 2) := by decide +kernel
theorem d_N_often_127 : decode c_N_often 127 = .ok (.ldc2_w 24, 3) := by decide +kernel
theorem d_N_often_130 : decode c_N_often 130 = .ok (.lload 4, 2) := by decide +kernel
theorem d_N_often_132 : decode c_N_often 132 = .ok (.lmul, 1) := by decide +kernel
theorem d_N_often_133 : decode c_N_often 133 = .ok (.ladd, 1) := by decide +kernel
theorem d_N_often_134 : decode c_N_often 134 = .ok (.l2i, 1) := by decide +kernel
theorem d_N_often_135 : decode c_N_often 135 = .ok (.iastore, 1) := by decide +kernel
theorem d_N_often_136 : decode c_N_often 136 = .ok (.iinc 6 1, 3) := by decide +kernel
theorem d_N_often_139 : decode c_N_often 139 = .ok (.goto (-90), 3) := by decide +kernel
theorem d_N_often_142 : decode c_N_often 142 = .ok (.aload_n 0, 1) := by decide +kernel
theorem d_N_often_143 : decode c_N_often 143 = .ok (.invokevirtual 27, 3) := by decide +kernel
theorem d_N_often_146 : decode c_N_often 146 = .ok (.iload_n 2, 1) := by decide +kernel
theorem d_N_often_147 : decode c_N_often 147 = .ok (.ireturn, 1) := by decide +kernel
theorem d_N_isAtMost_0 : decode c_N_isAtMost 0 = .ok (.lconst 0, 1) := by decide +kernel
theorem d_N_isAtMost_1 : decode c_N_isAtMost 1 = .ok (.lstore_n 3, 1) := by decide +kernel
theorem d_N_isAtMost_2 : decode c_N_isAtMost 2 = .ok (.iconst 0, 1) := by decide +kernel
theorem d_N_isAtMost_3 : decode c_N_isAtMost 3 = .ok (.istore 5, 2) := by decide +kernel
theorem d_N_isAtMost_5 : decode c_N_isAtMost 5 = .ok (.iload 5, 2) := by decide +kernel
theorem d_N_isAtMost_7 : decode c_N_isAtMost 7 = .ok (.aload_n 2, 1) := by decide +kernel
theorem d_N_isAtMost_8 : decode c_N_isAtMost 8 = .ok (.getfield 13, 3) := by decide +kernel
theorem d_N_isAtMost_11 : decode c_N_isAtMost 11 = .ok (.if_icmp .ge 68, 3) := by decide +kernel
theorem d_N_isAtMost_14 : decode c_N_isAtMost 14 = .ok (.aload_n 2, 1) := by decide +kernel
theorem d_N_isAtMost_15 : decode c_N_isAtMost 15 = .ok (.getfield 7, 3) := by decide +kernel
theorem d_N_isAtMost_18 : decode c_N_isAtMost 18 = .ok (.iload 5, 2) := by decide +kernel
theorem d_N_isAtMost_20 : decode c_N_isAtMost 20 = .ok (.iaload, 1) := by decide +kernel
theorem d_N_isAtMost_21 : decode c_N_isAtMost 21 = .ok (.i2l, 1) := by decide +kernel
theorem d_N_isAtMost_22 : decode c_N_isAtMost 22 = .ok (.lload_n 3, 1) := by decide +kernel
theorem d_N_isAtMost_23 : decode c_N_isAtMost 23 = .ok (.lsub, 1) := by decide +kernel
theorem d_N_isAtMost_24 : decode c_N_isAtMost 24 = .ok (.iload 5, 2) := by decide +kernel
theorem d_N_isAtMost_26 : decode c_N_isAtMost 26 = .ok (.aload_n 0, 1) := by decide +kernel
theorem d_N_isAtMost_27 : decode c_N_isAtMost 27 = .ok (.getfield 13, 3) := by decide +kernel
theorem d_N_isAtMost_30 : decode c_N_isAtMost 30 = .ok (.if_icmp .ge 17, 3) := by decide +kernel
theorem d_N_isAtMost_33 : decode c_N_isAtMost 33 = .ok (.aload_n 0, 1) := by decide +kernel
theorem d_N_isAtMost_34 : decode c_N_isAtMost 34 = .ok (.getfield 7, 3) := by decide +kernel
theorem d_N_isAtMost_37 : decode c_N_isAtMost 37 = .ok (.iload 5, 2) := by decide +kernel
theorem d_N_isAtMost_39 : decode c_N_isAtMost 39 = .ok (.iaload, 1) := by decide +kernel
theorem d_N_isAtMost_40 : decode c_N_isAtMost 40 = .ok (.i2l, 1) := by decide +kernel
theorem d_N_isAtMost_41 : decode c_N_isAtMost 41 = .ok (.iload_n 1, 1) := by decide +kernel
theorem d_N_isAtMost_42 : decode c_N_isAtMost 42 = .ok (.i2l, 1) := by decide +kernel
theorem d_N_isAtMost_43 : decode c_N_isAtMost 43 = .ok (.lmul, 1) := by decide +kernel
theorem d_N_isAtMost_44 : decode c_N_isAtMost 44 = .ok (.goto 4, 3) := by decide +kernel
theorem d_N_isAtMost_47 : decode c_N_isAtMost 47 = .ok (.lconst 0, 1) := by decide +kernel
theorem d_N_isAtMost_48 : decode c_N_isAtMost 48 = .ok (.lsub, 1) := by decide +kernel
theorem d_N_isAtMost_49 : decode c_N_isAtMost 49 = .ok (.lstore 6, 2) := by decide +kernel
theorem d_N_isAtMost_51 : decode c_N_isAtMost 51 = .ok (.lload 6, 2) := by decide +kernel
theorem d_N_isAtMost_53 : decode c_N_isAtMost 53 = .ok (.lconst 0, 1) := by decide +kernel
theorem d_N_isAtMost_54 : decode c_N_isAtMost 54 = .ok (.lcmp, 1) := by decide +kernel
theorem d_N_isAtMost_55 : decode c_N_isAtMost 55 = .ok (.ifCond .ge 16, 3) := by decide +kernel
theorem d_N_isAtMost_58 : decode c_N_isAtMost 58 = .ok (.ldc2_w 43, 3) := by decide +kernel
theorem d_N_isAtMost_61 : decode c_N_isAtMost 61 = .ok (.lload 6, 2) := by decide +kernel
theorem d_N_isAtMost_63 : decode c_N_isAtMost 63 = .ok (.lsub, 1) := by decide +kernel
theorem d_N_isAtMost_64 : decode c_N_isAtMost 64 = .ok (.ldc2_w 24, 3) := by decide +kernel
theorem d_N_isAtMost_67 : decode c_N_isAtMost 67 = .ok (.ldiv, 1) := by decide +kernel
theorem d_N_isAtMost_68 : decode c_N_isAtMost 68 = .ok (.goto 4, 3) := by decide +kernel
theorem d_N_isAtMost_71 : decode c_N_isAtMost 71 = .ok (.lconst 0, 1) := by decide +kernel
theorem d_N_isAtMost_72 : decode c_N_isAtMost 72 = .ok (.lstore_n 3, 1) := by decide +kernel
theorem d_N_isAtMost_73 : decode c_N_isAtMost 73 = .ok (.iinc 5 1, 3) := by decide +kernel
theorem d_N_isAtMost_76 : decode c_N_isAtMost 76 = .ok (.goto (-71), 3) := by decide +kernel
theorem d_N_isAtMost_79 : decode c_N_isAtMost 79 = .ok (.lload_n 3, 1) := by decide +kernel
theorem d_N_isAtMost_80 : decode c_N_isAtMost 80 = .ok (.lconst 0, 1) := by decide +kernel
theorem d_N_isAtMost_81 : decode c_N_isAtMost 81 = .ok (.lcmp, 1) := by decide +kernel
theorem d_N_isAtMost_82 : decode c_N_isAtMost 82 = .ok (.ifCond .ne 7, 3) := by decide +kernel
theorem d_N_isAtMost_85 : decode c_N_isAtMost 85 = .ok (.iconst 1, 1) := by decide +kernel
theorem d_N_isAtMost_86 : decode c_N_isAtMost 86 = .ok (.goto 4, 3) := by decide +kernel
theorem d_N_isAtMost_89 : decode c_N_isAtMost 89 = .ok (.iconst 0, 1) := by decide +kernel
theorem d_N_isAtMost_90 : decode c_N_isAtMost 90 = .ok (.ireturn, 1) := by decide +kernel
theorem d_N_turn_0 : decode c_N_turn 0 = .ok (.aload_n 0, 1) := by decide +kernel
theorem d_N_turn_1 : decode c_N_turn 1 = .ok (.aload_n 0, 1) := by decide +kernel
theorem d_N_turn_2 : decode c_N_turn 2 = .ok (.getfield 13, 3) := by decide +kernel
theorem d_N_turn_5 : decode c_N_turn 5 = .ok (.ifCond .le 14, 3) := by decide +kernel
theorem d_N_turn_8 : decode c_N_turn 8 = .ok (.aload_n 0, 1) := by decide +kernel
theorem d_N_turn_9 : decode c_N_turn 9 = .ok (.getfield 17, 3) := by decide +kernel
theorem d_N_turn_12 : decode c_N_turn 12 = .ok (.ifCond .ne 7, 3) := by decide +kernel
theorem d_N_turn_15 : decode c_N_turn 15 = .ok (.iconst 1, 1) := by decide +kernel
theorem d_N_turn_16 : decode c_N_turn 16 = .ok (.goto 4, 3) := by decide +kernel
theorem d_N_turn_19 : decode c_N_turn 19 = .ok (.iconst 0, 1) := by decide +kernel
theorem d_N_turn_20 : decode c_N_turn 20 = .ok (.putfield 17, 3) := by decide +kernel
theorem d_N_turn_23 : decode c_N_turn 23 = .ok (.return_, 1) := by decide +kernel
theorem d_N_less_0 : decode c_N_less 0 = .ok (.aload_n 2, 1) := by decide +kernel
theorem d_N_less_1 : decode c_N_less 1 = .ok (.getfield 13, 3) := by decide +kernel
theorem d_N_less_4 : decode c_N_less 4 = .ok (.ifCond .le 14, 3) := by decide +kernel
theorem d_N_less_7 : decode c_N_less 7 = .ok (.aload_n 2, 1) := by decide +kernel
theorem d_N_less_8 : decode c_N_less 8 = .ok (.getfield 17, 3) := by decide +kernel
theorem d_N_less_11 : decode c_N_less 11 = .ok (.ifCond .ne 7, 3) := by decide +kernel
theorem d_N_less_14 : decode c_N_less 14 = .ok (.iconst 1, 1) := by decide +kernel
theorem d_N_less_15 : decode c_N_less 15 = .ok (.goto 4, 3) := by decide +kernel
theorem d_N_less_18 : decode c_N_less 18 = .ok (.iconst 0, 1) := by decide +kernel
theorem d_N_less_19 : decode c_N_less 19 = .ok (.istore_n 3, 1) := by decide +kernel
theorem d_N_less_20 : decode c_N_less 20 = .ok (.aload_n 1, 1) := by decide +kernel
theorem d_N_less_21 : decode c_N_less 21 = .ok (.getfield 13, 3) := by decide +kernel
theorem d_N_less_24 : decode c_N_less 24 = .ok (.ifCond .eq 18, 3) := by decide +kernel
theorem d_N_less_27 : decode c_N_less 27 = .ok (.aload_n 2, 1) := by decide +kernel
theorem d_N_less_28 : decode c_N_less 28 = .ok (.getfield 13, 3) := by decide +kernel
theorem d_N_less_31 : decode c_N_less 31 = .ok (.ifCond .eq 11, 3) := by decide +kernel
theorem d_N_less_34 : decode c_N_less 34 = .ok (.aload_n 1, 1) := by decide +kernel
theorem d_N_less_35 : decode c_N_less 35 = .ok (.getfield 17, 3) := by decide +kernel
theorem d_N_less_38 : decode c_N_less 38 = .ok (.iload_n 3, 1) := by decide +kernel
theorem d_N_less_39 : decode c_N_less 39 = .ok (.if_icmp .ne 152, 3) := by decide +kernel
theorem d_N_less_42 : decode c_N_less 42 = .ok (.aload_n 1, 1) := by decide +kernel
theorem d_N_less_43 : decode c_N_less 43 = .ok (.getfield 13, 3) := by decide +kernel
theorem d_N_less_46 : decode c_N_less 46 = .ok (.aload_n 2, 1) := by decide +kernel
theorem d_N_less_47 : decode c_N_less 47 = .ok (.getfield 13, 3) := by decide +kernel
theorem d_N_less_50 : decode c_N_less 50 = .ok (.if_icmp .le 10, 3) := by decide +kernel
theorem d_N_less_53 : decode c_N_less 53 = .ok (.aload_n 1, 1) := by decide +kernel
theorem d_N_less_54 : decode c_N_less 54 = .ok (.getfield 13, 3) := by decide +kernel
theorem d_N_less_57 : decode c_N_less 57 = .ok (.goto 7, 3) := by decide +kernel
theorem d_N_less_60 : decode c_N_less 60 = .ok (.aload_n 2, 1) := by decide +kernel
theorem d_N_less_61 : decode c_N_less 61 = .ok (.getfield 13, 3) := by decide +kernel
theorem d_N_less_64 : decode c_N_less 64 = .ok (.istore 4, 2) := by decide +kernel
theorem d_N_less_66 : decode c_N_less 66 = .ok (.iconst 0, 1) := by decide +kernel
theorem d_N_less_67 : decode c_N_less 67 = .ok (.istore 5, 2) := by decide +kernel
theorem d_N_less_69 : decode c_N_less 69 = .ok (.iconst 0, 1) := by decide +kernel
theorem d_N_less_70 : decode c_N_less 70 = .ok (.istore 6, 2) := by decide +kernel
theorem d_N_less_72 : decode c_N_less 72 = .ok (.iload 6, 2) := by decide +kernel
theorem d_N_less_74 : decode c_N_less 74 = .ok (.iload 4, 2) := by decide +kernel
theorem d_N_less_76 : decode c_N_less 76 = .ok (.if_icmp .ge 74, 3) := by decide +kernel
theorem d_N_less_79 : decode c_N_less 79 = .ok (.iload 5, 2) := by decide +kernel
theorem d_N_less_81 : decode c_N_less 81 = .ok (.iload 6, 2) := by decide +kernel
theorem d_N_less_83 : decode c_N_less 83 = .ok (.aload_n 1, 1) := by decide +kernel
theorem d_N_less_84 : decode c_N_less 84 = .ok (.getfield 13, 3) := by decide +kernel
theorem d_N_less_87 : decode c_N_less 87 = .ok (.if_icmp .ge 13, 3) := by decide +kernel
theorem d_N_less_90 : decode c_N_less 90 = .ok (.aload_n 1, 1) := by decide +kernel
theorem d_N_less_91 : decode c_N_less 91 = .ok (.getfield 7, 3) := by decide +kernel
theorem d_N_less_94 : decode c_N_less 94 = .ok (.iload 6, 2) := by decide +kernel
theorem d_N_less_96 : decode c_N_less 96 = .ok (.iaload, 1) := by decide +kernel
theorem d_N_less_97 : decode c_N_less 97 = .ok (.goto 4, 3) := by decide +kernel
theorem d_N_less_100 : decode c_N_less 100 = .ok (.iconst 0, 1) := by decide +kernel
theorem d_N_less_101 : decode c_N_less 101 = .ok (.iload 6, 2) := by decide +kernel
theorem d_N_less_103 : decode c_N_less 103 = .ok (.aload_n 2, 1) := by decide +kernel
theorem d_N_less_104 : decode c_N_less 104 = .ok (.getfield 13, 3) := by decide +kernel
theorem d_N_less_107 : decode c_N_less 107 = .ok (.if_icmp .ge 13, 3) := by decide +kernel
theorem d_N_less_110 : decode c_N_less 110 = .ok (.aload_n 2, 1) := by decide +kernel
theorem d_N_less_111 : decode c_N_less 111 = .ok (.getfield 7, 3) := by decide +kernel
theorem d_N_less_114 : decode c_N_less 114 = .ok (.iload 6, 2) := by decide +kernel
theorem d_N_less_116 : decode c_N_less 116 = .ok (.iaload, 1) := by decide +kernel
theorem d_N_less_117 : decode c_N_less 117 = .ok (.goto 4, 3) := by decide +kernel
theorem d_N_less_120 : decode c_N_less 120 = .ok (.iconst 0, 1) := by decide +kernel
theorem d_N_less_121 : decode c_N_less 121 = .ok (.iadd, 1) := by decide +kernel
theorem d_N_less_122 : decode c_N_less 122 = .ok (.iadd, 1) := by decide +kernel
theorem d_N_less_123 : decode c_N_less 123 = .ok (.istore 5, 2) := by decide +kernel
theorem d_N_less_125 : decode c_N_less 125 = .ok (.aload_n 0, 1) := by decide +kernel
theorem d_N_less_126 : decode c_N_less 126 = .ok (.getfield 7, 3) := by decide +kernel
theorem d_N_less_129 : decode c_N_less 129 = .ok (.iload 6, 2) := by decide +kernel
theorem d_N_less_131 : decode c_N_less 131 = .ok (.iload 5, 2) := by decide +kernel
theorem d_N_less_133 : decode c_N_less 133 = .ok (.ldc 26, 2) := by decide +kernel
theorem d_N_less_135 : decode c_N_less 135 = .ok (.irem, 1) := by decide +kernel
theorem d_N_less_136 : decode c_N_less 136 = .ok (.iastore, 1) := by decide +kernel
theorem d_N_less_137 : decode c_N_less 137 = .ok (.iload 5, 2) := by decide +kernel
theorem d_N_less_139 : decode c_N_less 139 = .ok (.ldc 26, 2) := by decide +kernel
theorem d_N_less_141 : decode c_N_less 141 = .ok (.idiv, 1) := by decide +kernel
theorem d_N_less_142 : decode c_N_less 142 = .ok (.istore 5, 2) := by decide +kernel
theorem d_N_less_144 : decode c_N_less 144 = .ok (.iinc 6 1, 3) := by decide +kernel
theorem d_N_less_147 : decode c_N_less 147 = .ok (.goto (-75), 3) := by decide +kernel
theorem d_N_less_150 : decode c_N_less 150 = .ok (.aload_n 0, 1) := by decide +kernel
theorem d_N_less_151 : decode c_N_less 151 = .ok (.getfield 7, 3) := by decide +kernel
theorem d_N_less_154 : decode c_N_less 154 = .ok (.iload 4, 2) := by decide +kernel
theorem d_N_less_156 : decode c_N_less 156 = .ok (.iload 5, 2) := by decide +kernel
theorem d_N_less_158 : decode c_N_less 158 = .ok (.iastore, 1) := by decide +kernel
theorem d_N_less_159 : decode c_N_less 159 = .ok (.aload_n 0, 1) := by decide +kernel
theorem d_N_less_160 : decode c_N_less 160 = .ok (.iload 4, 2) := by decide +kernel
theorem d_N_less_162 : decode c_N_less 162 = .ok (.iconst 1, 1) := by decide +kernel
theorem d_N_less_163 : decode c_N_less 163 = .ok (.iadd, 1) := by decide +kernel
theorem d_N_less_164 : decode c_N_less 164 = .ok (.putfield 13, 3) := by decide +kernel
theorem d_N_less_167 : decode c_N_less 167 = .ok (.aload_n 0, 1) := by decide +kernel
theorem d_N_less_168 : decode c_N_less 168 = .ok (.aload_n 1, 1) := by decide +kernel
theorem d_N_less_169 : decode c_N_less 169 = .ok (.getfield 13, 3) := by decide +kernel
theorem d_N_less_172 : decode c_N_less 172 = .ok (.ifCond .ne 7, 3) := by decide +kernel
theorem d_N_less_175 : decode c_N_less 175 = .ok (.iload_n 3, 1) := by decide +kernel
theorem d_N_less_176 : decode c_N_less 176 = .ok (.goto 7, 3) := by decide +kernel
theorem d_N_less_179 : decode c_N_less 179 = .ok (.aload_n 1, 1) := by decide +kernel
theorem d_N_less_180 : decode c_N_less 180 = .ok (.getfield 17, 3) := by decide +kernel
theorem d_N_less_183 : decode c_N_less 183 = .ok (.putfield 17, 3) := by decide +kernel
theorem d_N_less_186 : decode c_N_less 186 = .ok (.aload_n 0, 1) := by decide +kernel
theorem d_N_less_187 : decode c_N_less 187 = .ok (.invokevirtual 27, 3) := by decide +kernel
theorem d_N_less_190 : decode c_N_less 190 = .ok (.return_, 1) := by decide +kernel
theorem d_N_less_191 : decode c_N_less 191 = .ok (.aload_n 1, 1) := by decide +kernel
theorem d_N_less_192 : decode c_N_less 192 = .ok (.aload_n 2, 1) := by decide +kernel
theorem d_N_less_193 : decode c_N_less 193 = .ok (.invokevirtual 30, 3) := by decide +kernel
theorem d_N_less_196 : decode c_N_less 196 = .ok (.ifCond .lt 7, 3) := by decide +kernel
theorem d_N_less_199 : decode c_N_less 199 = .ok (.iconst 1, 1) := by decide +kernel
theorem d_N_less_200 : decode c_N_less 200 = .ok (.goto 4, 3) := by decide +kernel
theorem d_N_less_203 : decode c_N_less 203 = .ok (.iconst 0, 1) := by decide +kernel
theorem d_N_less_204 : decode c_N_less 204 = .ok (.istore 4, 2) := by decide +kernel
theorem d_N_less_206 : decode c_N_less 206 = .ok (.iload 4, 2) := by decide +kernel
theorem d_N_less_208 : decode c_N_less 208 = .ok (.ifCond .eq 7, 3) := by decide +kernel
theorem d_N_less_211 : decode c_N_less 211 = .ok (.aload_n 1, 1) := by decide +kernel
theorem d_N_less_212 : decode c_N_less 212 = .ok (.goto 4, 3) := by decide +kernel
theorem d_N_less_215 : decode c_N_less 215 = .ok (.aload_n 2, 1) := by decide +kernel
theorem d_N_less_216 : decode c_N_less 216 = .ok (.astore 5, 2) := by decide +kernel
theorem d_N_less_218 : decode c_N_less 218 = .ok (.iload 4, 2) := by decide +kernel
theorem d_N_less_220 : decode c_N_less 220 = .ok (.ifCond .eq 7, 3) := by decide +kernel
theorem d_N_less_223 : decode c_N_less 223 = .ok (.aload_n 2, 1) := by decide +kernel
theorem d_N_less_224 : decode c_N_less 224 = .ok (.goto 4, 3) := by decide +kernel
theorem d_N_less_227 : decode c_N_less 227 = .ok (.aload_n 1, 1) := by decide +kernel
theorem d_N_less_228 : decode c_N_less 228 = .ok (.astore 6, 2) := by decide +kernel
theorem d_N_less_230 : decode c_N_less 230 = .ok (.iconst 0, 1) := by decide +kernel
theorem d_N_less_231 : decode c_N_less 231 = .ok (.istore 7, 2) := by decide +kernel
theorem d_N_less_233 : decode c_N_less 233 = .ok (.iconst 0, 1) := by decide +kernel
theorem d_N_less_234 : decode c_N_less 234 = .ok (.istore 8, 2) := by decide +kernel
theorem d_N_less_236 : decode c_N_less 236 = .ok (.iload 8, 2) := by decide +kernel
theorem d_N_less_238 : decode c_N_less 238 = .ok (.aload 5, 2) := by decide +kernel
theorem d_N_less_240 : decode c_N_less 240 = .ok (.getfield 13, 3) := by decide +kernel
theorem d_N_less_243 : decode c_N_less 243 = .ok (.if_icmp .ge 72, 3) := by decide +kernel
theorem d_N_less_246 : decode c_N_less 246 = .ok (.aload 5, 2) := by decide +kernel
theorem d_N_less_248 : decode c_N_less 248 = .ok (.getfield 7, 3) := by decide +kernel
theorem d_N_less_251 : decode c_N_less 251 = .ok (.iload 8, 2) := by decide +kernel
theorem d_N_less_253 : decode c_N_less 253 = .ok (.iaload, 1) := by decide +kernel
theorem d_N_less_254 : decode c_N_less 254 = .ok (.iload 8, 2) := by decide +kernel
theorem d_N_less_256 : decode c_N_less 256 = .ok (.aload 6, 2) := by decide +kernel
theorem d_N_less_258 : decode c_N_less 258 = .ok (.getfield 13, 3) := by decide +kernel
theorem d_N_less_261 : decode c_N_less 261 = .ok (.if_icmp .ge 14, 3) := by decide +kernel
theorem d_N_less_264 : decode c_N_less 264 = .ok (.aload 6, 2) := by decide +kernel
theorem d_N_less_266 : decode c_N_less 266 = .ok (.getfield 7, 3) := by decide +kernel
theorem d_N_less_269 : decode c_N_less 269 = .ok (.iload 8, 2) := by decide +kernel
theorem d_N_less_271 : decode c_N_less 271 = .ok (.iaload, 1) := by decide +kernel
theorem d_N_less_272 : decode c_N_less 272 = .ok (.goto 4, 3) := by decide +kernel
theorem d_N_less_275 : decode c_N_less 275 = .ok (.iconst 0, 1) := by decide +kernel
theorem d_N_less_276 : decode c_N_less 276 = .ok (.isub, 1) := by decide +kernel
theorem d_N_less_277 : decode c_N_less 277 = .ok (.iload 7, 2) := by decide +kernel
theorem d_N_less_279 : decode c_N_less 279 = .ok (.isub, 1) := by decide +kernel
theorem d_N_less_280 : decode c_N_less 280 = .ok (.istore 9, 2) := by decide +kernel
theorem d_N_less_282 : decode c_N_less 282 = .ok (.iload 9, 2) := by decide +kernel
theorem d_N_less_284 : decode c_N_less 284 = .ok (.ifCond .ge 7, 3) := by decide +kernel
theorem d_N_less_287 : decode c_N_less 287 = .ok (.iconst 1, 1) := by decide +kernel
theorem d_N_less_288 : decode c_N_less 288 = .ok (.goto 4, 3) := by decide +kernel
theorem d_N_less_291 : decode c_N_less 291 = .ok (.iconst 0, 1) := by decide +kernel
theorem d_N_less_292 : decode c_N_less 292 = .ok (.istore 7, 2) := by decide +kernel
theorem d_N_less_294 : decode c_N_less 294 = .ok (.aload_n 0, 1) := by decide +kernel
theorem d_N_less_295 : decode c_N_less 295 = .ok (.getfield 7, 3) := by decide +kernel
theorem d_N_less_298 : decode c_N_less 298 = .ok (.iload 8, 2) := by decide +kernel
theorem d_N_less_300 : decode c_N_less 300 = .ok (.iload 9, 2) := by decide +kernel
theorem d_N_less_302 : decode c_N_less 302 = .ok (.ldc 26, 2) := by decide +kernel
theorem d_N_less_304 : decode c_N_less 304 = .ok (.iload 7, 2) := by decide +kernel
theorem d_N_less_306 : decode c_N_less 306 = .ok (.imul, 1) := by decide +kernel
theorem d_N_less_307 : decode c_N_less 307 = .ok (.iadd, 1) := by decide +kernel
theorem d_N_less_308 : decode c_N_less 308 = .ok (.iastore, 1) := by decide +kernel
theorem d_N_less_309 : decode c_N_less 309 = .ok (.iinc 8 1, 3) := by decide +kernel
theorem d_N_less_312 : decode c_N_less 312 = .ok (.goto (-76), 3) := by decide +kernel
theorem d_N_less_315 : decode c_N_less 315 = .ok (.aload_n 0, 1) := by decide +kernel
theorem d_N_less_316 : decode c_N_less 316 = .ok (.aload 5, 2) := by decide +kernel
theorem d_N_less_318 : decode c_N_less 318 = .ok (.getfield 13, 3) := by decide +kernel
theorem d_N_less_321 : decode c_N_less 321 = .ok (.putfield 13, 3) := by decide +kernel
theorem d_N_less_324 : decode c_N_less 324 = .ok (.aload_n 0, 1) := by decide +kernel
theorem d_N_less_325 : decode c_N_less 325 = .ok (.iload 4, 2) := by decide +kernel
theorem d_N_less_327 : decode c_N_less 327 = .ok (.ifCond .eq 10, 3) := by decide +kernel
theorem d_N_less_330 : decode c_N_less 330 = .ok (.aload_n 1, 1) := by decide +kernel
theorem d_N_less_331 : decode c_N_less 331 = .ok (.getfield 17, 3) := by decide +kernel
theorem d_N_less_334 : decode c_N_less 334 = .ok (.goto 4, 3) := by decide +kernel
theorem d_N_less_337 : decode c_N_less 337 = .ok (.iload_n 3, 1) := by decide +kernel
theorem d_N_less_338 : decode c_N_less 338 = .ok (.putfield 17, 3) := by decide +kernel
theorem d_N_less_341 : decode c_N_less 341 = .ok (.aload_n 0, 1) := by decide +kernel
theorem d_N_less_342 : decode c_N_less 342 = .ok (.invokevirtual 27, 3) := by decide +kernel
theorem d_N_less_345 : decode c_N_less 345 = .ok (.return_, 1) := by decide +kernel
end
section
-- ===== decode rows (written by wip/gen/names.py) =====
theorem d_M_init_0 : decode c_M_init 0 = .ok (.aload_n 0, 1) := by decide +kernel
theorem d_M_init_1 : decode c_M_init 1 = .ok (.invokespecial 34, 3) := by decide +kernel
theorem d_M_init_4 : decode c_M_init 4 = .ok (.aload_n 0, 1) := by decide +kernel
theorem d_M_init_5 : decode c_M_init 5 = .ok (.new 8, 3) := by decide +kernel
theorem d_M_init_8 : decode c_M_init 8 = .ok (.dup, 1) := by decide +kernel
theorem d_M_init_9 : decode c_M_init 9 = .ok (.invokespecial 40, 3) := by decide +kernel
theorem d_M_init_12 : decode c_M_init 12 = .ok (.putfield 41, 3) := by decide +kernel
theorem d_M_init_15 : decode c_M_init 15 = .ok (.aload_n 0, 1) := by decide +kernel
theorem d_M_init_16 : decode c_M_init 16 = .ok (.new 8, 3) := by decide +kernel
theorem d_M_init_19 : decode c_M_init 19 = .ok (.dup, 1) := by decide +kernel
theorem d_M_init_20 : decode c_M_init 20 = .ok (.invokespecial 40, 3) := by decide +kernel
theorem d_M_init_23 : decode c_M_init 23 = .ok (.putfield 27, 3) := by decide +kernel
theorem d_M_init_26 : decode c_M_init 26 = .ok (.aload_n 0, 1) := by decide +kernel
theorem d_M_init_27 : decode c_M_init 27 = .ok (.new 8, 3) := by decide +kernel
theorem d_M_init_30 : decode c_M_init 30 = .ok (.dup, 1) := by decide +kernel
theorem d_M_init_31 : decode c_M_init 31 = .ok (.invokespecial 40, 3) := by decide +kernel
theorem d_M_init_34 : decode c_M_init 34 = .ok (.putfield 24, 3) := by decide +kernel
theorem d_M_init_37 : decode c_M_init 37 = .ok (.aload_n 0, 1) := by decide +kernel
theorem d_M_init_38 : decode c_M_init 38 = .ok (.new 8, 3) := by decide +kernel
theorem d_M_init_41 : decode c_M_init 41 = .ok (.dup, 1) := by decide +kernel
theorem d_M_init_42 : decode c_M_init 42 = .ok (.invokespecial 40, 3) := by decide +kernel
theorem d_M_init_45 : decode c_M_init 45 = .ok (.putfield 17, 3) := by decide +kernel
theorem d_M_init_48 : decode c_M_init 48 = .ok (.aload_n 0, 1) := by decide +kernel
theorem d_M_init_49 : decode c_M_init 49 = .ok (.new 8, 3) := by decide +kernel
theorem d_M_init_52 : decode c_M_init 52 = .ok (.dup, 1) := by decide +kernel
theorem d_M_init_53 : decode c_M_init 53 = .ok (.invokespecial 40, 3) := by decide +kernel
theorem d_M_init_56 : decode c_M_init 56 = .ok (.putfield 1, 3) := by decide +kernel
theorem d_M_init_59 : decode c_M_init 59 = .ok (.aload_n 0, 1) := by decide +kernel
theorem d_M_init_60 : decode c_M_init 60 = .ok (.new 8, 3) := by decide +kernel
theorem d_M_init_63 : decode c_M_init 63 = .ok (.dup, 1) := by decide +kernel
theorem d_M_init_64 : decode c_M_init 64 = .ok (.invokespecial 40, 3) := by decide +kernel
theorem d_M_init_67 : decode c_M_init 67 = .ok (.putfield 44, 3) := by decide +kernel
theorem d_M_init_70 : decode c_M_init 70 = .ok (.aload_n 0, 1) := by decide +kernel
theorem d_M_init_71 : decode c_M_init 71 = .ok (.new 8, 3) := by decide +kernel
theorem d_M_init_74 : decode c_M_init 74 = .ok (.dup, 1) := by decide +kernel
theorem d_M_init_75 : decode c_M_init 75 = .ok (.invokespecial 40, 3) := by decide +kernel
theorem d_M_init_78 : decode c_M_init 78 = .ok (.putfield 47, 3) := by decide +kernel
theorem d_M_init_81 : decode c_M_init 81 = .ok (.aload_n 0, 1) := by decide +kernel
theorem d_M_init_82 : decode c_M_init 82 = .ok (.new 8, 3) := by decide +kernel
theorem d_M_init_85 : decode c_M_init 85 = .ok (.dup, 1) := by decide +kernel
theorem d_M_init_86 : decode c_M_init 86 = .ok (.invokespecial 40, 3) := by decide +kernel
theorem d_M_init_89 : decode c_M_init 89 = .ok (.putfield 50, 3) := by decide +kernel
theorem d_M_init_92 : decode c_M_init 92 = .ok (.aload_n 0, 1) := by decide +kernel
theorem d_M_init_93 : decode c_M_init 93 = .ok (.bipush 8, 2) := by decide +kernel
theorem d_M_init_95 : decode c_M_init 95 = .ok (.newarray .int, 2) := by decide +kernel
theorem d_M_init_97 : decode c_M_init 97 = .ok (.putfield 53, 3) := by decide +kernel
theorem d_M_init_100 : decode c_M_init 100 = .ok (.aload_n 0, 1) := by decide +kernel
theorem d_M_init_101 : decode c_M_init 101 = .ok (.bipush 8, 2) := by decide +kernel
theorem d_M_init_103 : decode c_M_init 103 = .ok (.newarray .int, 2) := by decide +kernel
theorem d_M_init_105 : decode c_M_init 105 = .ok (.putfield 57, 3) := by decide +kernel
theorem d_M_init_108 : decode c_M_init 108 = .ok (.aload_n 0, 1) := by decide +kernel
theorem d_M_init_109 : decode c_M_init 109 = .ok (.bipush 8, 2) := by decide +kernel
theorem d_M_init_111 : decode c_M_init 111 = .ok (.newarray .int, 2) := by decide +kernel
theorem d_M_init_113 : decode c_M_init 113 = .ok (.putfield 60, 3) := by decide +kernel
theorem d_M_init_116 : decode c_M_init 116 = .ok (.aload_n 0, 1) := by decide +kernel
theorem d_M_init_117 : decode c_M_init 117 = .ok (.bipush 8, 2) := by decide +kernel
theorem d_M_init_119 : decode c_M_init 119 = .ok (.newarray .boolean, 2) := by decide +kernel
theorem d_M_init_121 : decode c_M_init 121 = .ok (.putfield 63, 3) := by decide +kernel
theorem d_M_init_124 : decode c_M_init 124 = .ok (.aload_n 0, 1) := by decide +kernel
theorem d_M_init_125 : decode c_M_init 125 = .ok (.bipush 96, 2) := by decide +kernel
theorem d_M_init_127 : decode c_M_init 127 = .ok (.newarray .int, 2) := by decide +kernel
theorem d_M_init_129 : decode c_M_init 129 = .ok (.putfield 67, 3) := by decide +kernel
theorem d_M_init_132 : decode c_M_init 132 = .ok (.aload_n 0, 1) := by decide +kernel
theorem d_M_init_133 : decode c_M_init 133 = .ok (.sipush 18432, 3) := by decide +kernel
theorem d_M_init_136 : decode c_M_init 136 = .ok (.newarray .int, 2) := by decide +kernel
theorem d_M_init_138 : decode c_M_init 138 = .ok (.putfield 70, 3) := by decide +kernel
theorem d_M_init_141 : decode c_M_init 141 = .ok (.aload_n 0, 1) := by decide +kernel
theorem d_M_init_142 : decode c_M_init 142 = .ok (.sipush 18432, 3) := by decide +kernel
theorem d_M_init_145 : decode c_M_init 145 = .ok (.newarray .int, 2) := by decide +kernel
theorem d_M_init_147 : decode c_M_init 147 = .ok (.putfield 73, 3) := by decide +kernel
theorem d_M_init_150 : decode c_M_init 150 = .ok (.aload_n 0, 1) := by decide +kernel
theorem d_M_init_151 : decode c_M_init 151 = .ok (.sipush 1152, 3) := by decide +kernel
theorem d_M_init_154 : decode c_M_init 154 = .ok (.newarray .int, 2) := by decide +kernel
theorem d_M_init_156 : decode c_M_init 156 = .ok (.putfield 76, 3) := by decide +kernel
theorem d_M_init_159 : decode c_M_init 159 = .ok (.aload_n 0, 1) := by decide +kernel
theorem d_M_init_160 : decode c_M_init 160 = .ok (.sipush 144, 3) := by decide +kernel
theorem d_M_init_163 : decode c_M_init 163 = .ok (.anewarray 8, 3) := by decide +kernel
theorem d_M_init_166 : decode c_M_init 166 = .ok (.putfield 79, 3) := by decide +kernel
theorem d_M_init_169 : decode c_M_init 169 = .ok (.aload_n 0, 1) := by decide +kernel
theorem d_M_init_170 : decode c_M_init 170 = .ok (.sipush 144, 3) := by decide +kernel
theorem d_M_init_173 : decode c_M_init 173 = .ok (.anewarray 8, 3) := by decide +kernel
theorem d_M_init_176 : decode c_M_init 176 = .ok (.putfield 83, 3) := by decide +kernel
theorem d_M_init_179 : decode c_M_init 179 = .ok (.aload_n 0, 1) := by decide +kernel
theorem d_M_init_180 : decode c_M_init 180 = .ok (.sipush 144, 3) := by decide +kernel
theorem d_M_init_183 : decode c_M_init 183 = .ok (.newarray .int, 2) := by decide +kernel
theorem d_M_init_185 : decode c_M_init 185 = .ok (.putfield 86, 3) := by decide +kernel
theorem d_M_init_188 : decode c_M_init 188 = .ok (.aload_n 0, 1) := by decide +kernel
theorem d_M_init_189 : decode c_M_init 189 = .ok (.bipush 12, 2) := by decide +kernel
theorem d_M_init_191 : decode c_M_init 191 = .ok (.newarray .int, 2) := by decide +kernel
theorem d_M_init_193 : decode c_M_init 193 = .ok (.putfield 89, 3) := by decide +kernel
theorem d_M_init_196 : decode c_M_init 196 = .ok (.aload_n 0, 1) := by decide +kernel
theorem d_M_init_197 : decode c_M_init 197 = .ok (.new 8, 3) := by decide +kernel
theorem d_M_init_200 : decode c_M_init 200 = .ok (.dup, 1) := by decide +kernel
theorem d_M_init_201 : decode c_M_init 201 = .ok (.invokespecial 40, 3) := by decide +kernel
theorem d_M_init_204 : decode c_M_init 204 = .ok (.putfield 92, 3) := by decide +kernel
theorem d_M_init_207 : decode c_M_init 207 = .ok (.aload_n 0, 1) := by decide +kernel
theorem d_M_init_208 : decode c_M_init 208 = .ok (.new 8, 3) := by decide +kernel
theorem d_M_init_211 : decode c_M_init 211 = .ok (.dup, 1) := by decide +kernel
theorem d_M_init_212 : decode c_M_init 212 = .ok (.invokespecial 40, 3) := by decide +kernel
theorem d_M_init_215 : decode c_M_init 215 = .ok (.putfield 95, 3) := by decide +kernel
theorem d_M_init_218 : decode c_M_init 218 = .ok (.iconst 0, 1) := by decide +kernel
theorem d_M_init_219 : decode c_M_init 219 = .ok (.istore_n 1, 1) := by decide +kernel
theorem d_M_init_220 : decode c_M_init 220 = .ok (.iload_n 1, 1) := by decide +kernel
theorem d_M_init_221 : decode c_M_init 221 = .ok (.sipush 144, 3) := by decide +kernel
theorem d_M_init_224 : decode c_M_init 224 = .ok (.if_icmp .ge 35, 3) := by decide +kernel
theorem d_M_init_227 : decode c_M_init 227 = .ok (.aload_n 0, 1) := by decide +kernel
theorem d_M_init_228 : decode c_M_init 228 = .ok (.getfield 79, 3) := by decide +kernel
theorem d_M_init_231 : decode c_M_init 231 = .ok (.iload_n 1, 1) := by decide +kernel
theorem d_M_init_232 : decode c_M_init 232 = .ok (.new 8, 3) := by decide +kernel
theorem d_M_init_235 : decode c_M_init 235 = .ok (.dup, 1) := by decide +kernel
theorem d_M_init_236 : decode c_M_init 236 = .ok (.invokespecial 40, 3) := by decide +kernel
theorem d_M_init_239 : decode c_M_init 239 = .ok (.aastore, 1) := by decide +kernel
theorem d_M_init_240 : decode c_M_init 240 = .ok (.aload_n 0, 1) := by decide +kernel
theorem d_M_init_241 : decode c_M_init 241 = .ok (.getfield 83, 3) := by decide +kernel
theorem d_M_init_244 : decode c_M_init 244 = .ok (.iload_n 1, 1) := by decide +kernel
theorem d_M_init_245 : decode c_M_init 245 = .ok (.new 8, 3) := by decide +kernel
theorem d_M_init_248 : decode c_M_init 248 = .ok (.dup, 1) := by decide +kernel
theorem d_M_init_249 : decode c_M_init 249 = .ok (.invokespecial 40, 3) := by decide +kernel
theorem d_M_init_252 : decode c_M_init 252 = .ok (.aastore, 1) := by decide +kernel
theorem d_M_init_253 : decode c_M_init 253 = .ok (.iinc 1 1, 3) := by decide +kernel
theorem d_M_init_256 : decode c_M_init 256 = .ok (.goto (-36), 3) := by decide +kernel
theorem d_M_init_259 : decode c_M_init 259 = .ok (.return_, 1) := by decide +kernel
theorem d_M_begin_0 : decode c_M_begin 0 = .ok (.iload_n 1, 1) := by decide +kernel
theorem d_M_begin_1 : decode c_M_begin 1 = .ok (.invokestatic 101, 3) := by decide +kernel
theorem d_M_begin_4 : decode c_M_begin 4 = .ok (.ifCond .eq 32, 3) := by decide +kernel
theorem d_M_begin_7 : decode c_M_begin 7 = .ok (.iload_n 2, 1) := by decide +kernel
theorem d_M_begin_8 : decode c_M_begin 8 = .ok (.invokestatic 178, 3) := by decide +kernel
theorem d_M_begin_11 : decode c_M_begin 11 = .ok (.ifCond .eq 25, 3) := by decide +kernel
theorem d_M_begin_14 : decode c_M_begin 14 = .ok (.iload_n 3, 1) := by decide +kernel
theorem d_M_begin_15 : decode c_M_begin 15 = .ok (.ifCond .lt 21, 3) := by decide +kernel
theorem d_M_begin_18 : decode c_M_begin 18 = .ok (.iload_n 3, 1) := by decide +kernel
theorem d_M_begin_19 : decode c_M_begin 19 = .ok (.bipush 12, 2) := by decide +kernel
theorem d_M_begin_21 : decode c_M_begin 21 = .ok (.if_icmp .gt 15, 3) := by decide +kernel
theorem d_M_begin_24 : decode c_M_begin 24 = .ok (.iload 4, 2) := by decide +kernel
theorem d_M_begin_26 : decode c_M_begin 26 = .ok (.ifCond .lt 10, 3) := by decide +kernel
theorem d_M_begin_29 : decode c_M_begin 29 = .ok (.iload 4, 2) := by decide +kernel
theorem d_M_begin_31 : decode c_M_begin 31 = .ok (.bipush 12, 2) := by decide +kernel
theorem d_M_begin_33 : decode c_M_begin 33 = .ok (.if_icmp .le 5, 3) := by decide +kernel
theorem d_M_begin_36 : decode c_M_begin 36 = .ok (.iconst 0, 1) := by decide +kernel
theorem d_M_begin_37 : decode c_M_begin 37 = .ok (.ireturn, 1) := by decide +kernel
theorem d_M_begin_38 : decode c_M_begin 38 = .ok (.aload_n 0, 1) := by decide +kernel
theorem d_M_begin_39 : decode c_M_begin 39 = .ok (.iload_n 2, 1) := by decide +kernel
theorem d_M_begin_40 : decode c_M_begin 40 = .ok (.iload_n 3, 1) := by decide +kernel
theorem d_M_begin_41 : decode c_M_begin 41 = .ok (.iload 4, 2) := by decide +kernel
theorem d_M_begin_43 : decode c_M_begin 43 = .ok (.invokevirtual 127, 3) := by decide +kernel
theorem d_M_begin_46 : decode c_M_begin 46 = .ok (.aload_n 0, 1) := by decide +kernel
theorem d_M_begin_47 : decode c_M_begin 47 = .ok (.iload_n 1, 1) := by decide +kernel
theorem d_M_begin_48 : decode c_M_begin 48 = .ok (.invokevirtual 175, 3) := by decide +kernel
theorem d_M_begin_51 : decode c_M_begin 51 = .ok (.aload_n 0, 1) := by decide +kernel
theorem d_M_begin_52 : decode c_M_begin 52 = .ok (.getfield 63, 3) := by decide +kernel
theorem d_M_begin_55 : decode c_M_begin 55 = .ok (.iload_n 1, 1) := by decide +kernel
theorem d_M_begin_56 : decode c_M_begin 56 = .ok (.iconst 1, 1) := by decide +kernel
theorem d_M_begin_57 : decode c_M_begin 57 = .ok (.bastore, 1) := by decide +kernel
theorem d_M_begin_58 : decode c_M_begin 58 = .ok (.iconst 1, 1) := by decide +kernel
theorem d_M_begin_59 : decode c_M_begin 59 = .ok (.ireturn, 1) := by decide +kernel
theorem d_M_isTable_0 : decode c_M_isTable 0 = .ok (.iload_n 0, 1) := by decide +kernel
theorem d_M_isTable_1 : decode c_M_isTable 1 = .ok (.ifCond .lt 13, 3) := by decide +kernel
theorem d_M_isTable_4 : decode c_M_isTable 4 = .ok (.iload_n 0, 1) := by decide +kernel
theorem d_M_isTable_5 : decode c_M_isTable 5 = .ok (.bipush 8, 2) := by decide +kernel
theorem d_M_isTable_7 : decode c_M_isTable 7 = .ok (.if_icmp .ge 7, 3) := by decide +kernel
theorem d_M_isTable_10 : decode c_M_isTable 10 = .ok (.iconst 1, 1) := by decide +kernel
theorem d_M_isTable_11 : decode c_M_isTable 11 = .ok (.goto 4, 3) := by decide +kernel
theorem d_M_isTable_14 : decode c_M_isTable 14 = .ok (.iconst 0, 1) := by decide +kernel
theorem d_M_isTable_15 : decode c_M_isTable 15 = .ok (.ireturn, 1) := by decide +kernel
theorem d_M_isField_0 : decode c_M_isField 0 = .ok (.iload_n 0, 1) := by decide +kernel
theorem d_M_isField_1 : decode c_M_isField 1 = .ok (.ifCond .eq 15, 3) := by decide +kernel
theorem d_M_isField_4 : decode c_M_isField 4 = .ok (.iload_n 0, 1) := by decide +kernel
theorem d_M_isField_5 : decode c_M_isField 5 = .ok (.iconst 2, 1) := by decide +kernel
theorem d_M_isField_6 : decode c_M_isField 6 = .ok (.if_icmp .lt 14, 3) := by decide +kernel
theorem d_M_isField_9 : decode c_M_isField 9 = .ok (.iload_n 0, 1) := by decide +kernel
theorem d_M_isField_10 : decode c_M_isField 10 = .ok (.sipush 251, 3) := by decide +kernel
theorem d_M_isField_13 : decode c_M_isField 13 = .ok (.if_icmp .gt 7, 3) := by decide +kernel
theorem d_M_isField_16 : decode c_M_isField 16 = .ok (.iconst 1, 1) := by decide +kernel
theorem d_M_isField_17 : decode c_M_isField 17 = .ok (.goto 4, 3) := by decide +kernel
theorem d_M_isField_20 : decode c_M_isField 20 = .ok (.iconst 0, 1) := by decide +kernel
theorem d_M_isField_21 : decode c_M_isField 21 = .ok (.istore_n 1, 1) := by decide +kernel
theorem d_M_isField_22 : decode c_M_isField 22 = .ok (.iconst 2, 1) := by decide +kernel
theorem d_M_isField_23 : decode c_M_isField 23 = .ok (.istore_n 2, 1) := by decide +kernel
theorem d_M_isField_24 : decode c_M_isField 24 = .ok (.iload_n 2, 1) := by decide +kernel
theorem d_M_isField_25 : decode c_M_isField 25 = .ok (.iload_n 2, 1) := by decide +kernel
theorem d_M_isField_26 : decode c_M_isField 26 = .ok (.imul, 1) := by decide +kernel
theorem d_M_isField_27 : decode c_M_isField 27 = .ok (.iload_n 0, 1) := by decide +kernel
theorem d_M_isField_28 : decode c_M_isField 28 = .ok (.if_icmp .gt 25, 3) := by decide +kernel
theorem d_M_isField_31 : decode c_M_isField 31 = .ok (.iload_n 1, 1) := by decide +kernel
theorem d_M_isField_32 : decode c_M_isField 32 = .ok (.ifCond .eq 21, 3) := by decide +kernel
theorem d_M_isField_35 : decode c_M_isField 35 = .ok (.iload_n 0, 1) := by decide +kernel
theorem d_M_isField_36 : decode c_M_isField 36 = .ok (.iload_n 2, 1) := by decide +kernel
theorem d_M_isField_37 : decode c_M_isField 37 = .ok (.irem, 1) := by decide +kernel
theorem d_M_isField_38 : decode c_M_isField 38 = .ok (.ifCond .eq 7, 3) := by decide +kernel
theorem d_M_isField_41 : decode c_M_isField 41 = .ok (.iconst 1, 1) := by decide +kernel
theorem d_M_isField_42 : decode c_M_isField 42 = .ok (.goto 4, 3) := by decide +kernel
theorem d_M_isField_45 : decode c_M_isField 45 = .ok (.iconst 0, 1) := by decide +kernel
theorem d_M_isField_46 : decode c_M_isField 46 = .ok (.istore_n 1, 1) := by decide +kernel
theorem d_M_isField_47 : decode c_M_isField 47 = .ok (.iinc 2 1, 3) := by decide +kernel
theorem d_M_isField_50 : decode c_M_isField 50 = .ok (.goto (-26), 3) := by decide +kernel
theorem d_M_isField_53 : decode c_M_isField 53 = .ok (.iload_n 1, 1) := by decide +kernel
theorem d_M_isField_54 : decode c_M_isField 54 = .ok (.ireturn, 1) := by decide +kernel
theorem d_M_empty_0 : decode c_M_empty 0 = .ok (.aload_n 0, 1) := by decide +kernel
theorem d_M_empty_1 : decode c_M_empty 1 = .ok (.iload_n 1, 1) := by decide +kernel
theorem d_M_empty_2 : decode c_M_empty 2 = .ok (.putfield 105, 3) := by decide +kernel
theorem d_M_empty_5 : decode c_M_empty 5 = .ok (.aload_n 0, 1) := by decide +kernel
theorem d_M_empty_6 : decode c_M_empty 6 = .ok (.iload_n 2, 1) := by decide +kernel
theorem d_M_empty_7 : decode c_M_empty 7 = .ok (.putfield 108, 3) := by decide +kernel
theorem d_M_empty_10 : decode c_M_empty 10 = .ok (.aload_n 0, 1) := by decide +kernel
theorem d_M_empty_11 : decode c_M_empty 11 = .ok (.iload_n 3, 1) := by decide +kernel
theorem d_M_empty_12 : decode c_M_empty 12 = .ok (.putfield 111, 3) := by decide +kernel
theorem d_M_empty_15 : decode c_M_empty 15 = .ok (.iconst 0, 1) := by decide +kernel
theorem d_M_empty_16 : decode c_M_empty 16 = .ok (.istore 4, 2) := by decide +kernel
theorem d_M_empty_18 : decode c_M_empty 18 = .ok (.iload 4, 2) := by decide +kernel
theorem d_M_empty_20 : decode c_M_empty 20 = .ok (.sipush 144, 3) := by decide +kernel
theorem d_M_empty_23 : decode c_M_empty 23 = .ok (.if_icmp .ge 38, 3) := by decide +kernel
theorem d_M_empty_26 : decode c_M_empty 26 = .ok (.aload_n 0, 1) := by decide +kernel
theorem d_M_empty_27 : decode c_M_empty 27 = .ok (.getfield 79, 3) := by decide +kernel
theorem d_M_empty_30 : decode c_M_empty 30 = .ok (.iload 4, 2) := by decide +kernel
theorem d_M_empty_32 : decode c_M_empty 32 = .ok (.aaload, 1) := by decide +kernel
theorem d_M_empty_33 : decode c_M_empty 33 = .ok (.invokevirtual 114, 3) := by decide +kernel
theorem d_M_empty_36 : decode c_M_empty 36 = .ok (.aload_n 0, 1) := by decide +kernel
theorem d_M_empty_37 : decode c_M_empty 37 = .ok (.getfield 83, 3) := by decide +kernel
theorem d_M_empty_40 : decode c_M_empty 40 = .ok (.iload 4, 2) := by decide +kernel
theorem d_M_empty_42 : decode c_M_empty 42 = .ok (.aaload, 1) := by decide +kernel
theorem d_M_empty_43 : decode c_M_empty 43 = .ok (.lconst 1, 1) := by decide +kernel
theorem d_M_empty_44 : decode c_M_empty 44 = .ok (.invokevirtual 117, 3) := by decide +kernel
theorem d_M_empty_47 : decode c_M_empty 47 = .ok (.aload_n 0, 1) := by decide +kernel
theorem d_M_empty_48 : decode c_M_empty 48 = .ok (.getfield 86, 3) := by decide +kernel
theorem d_M_empty_51 : decode c_M_empty 51 = .ok (.iload 4, 2) := by decide +kernel
theorem d_M_empty_53 : decode c_M_empty 53 = .ok (.iconst 0, 1) := by decide +kernel
theorem d_M_empty_54 : decode c_M_empty 54 = .ok (.iastore, 1) := by decide +kernel
theorem d_M_empty_55 : decode c_M_empty 55 = .ok (.iinc 4 1, 3) := by decide +kernel
theorem d_M_empty_58 : decode c_M_empty 58 = .ok (.goto (-40), 3) := by decide +kernel
theorem d_M_empty_61 : decode c_M_empty 61 = .ok (.return_, 1) := by decide +kernel
theorem d_M_keep_0 : decode c_M_keep 0 = .ok (.aload_n 0, 1) := by decide +kernel
theorem d_M_keep_1 : decode c_M_keep 1 = .ok (.getfield 53, 3) := by decide +kernel
theorem d_M_keep_4 : decode c_M_keep 4 = .ok (.iload_n 1, 1) := by decide +kernel
theorem d_M_keep_5 : decode c_M_keep 5 = .ok (.aload_n 0, 1) := by decide +kernel
theorem d_M_keep_6 : decode c_M_keep 6 = .ok (.getfield 105, 3) := by decide +kernel
theorem d_M_keep_9 : decode c_M_keep 9 = .ok (.iastore, 1) := by decide +kernel
theorem d_M_keep_10 : decode c_M_keep 10 = .ok (.aload_n 0, 1) := by decide +kernel
theorem d_M_keep_11 : decode c_M_keep 11 = .ok (.getfield 57, 3) := by decide +kernel
theorem d_M_keep_14 : decode c_M_keep 14 = .ok (.iload_n 1, 1) := by decide +kernel
theorem d_M_keep_15 : decode c_M_keep 15 = .ok (.aload_n 0, 1) := by decide +kernel
theorem d_M_keep_16 : decode c_M_keep 16 = .ok (.getfield 108, 3) := by decide +kernel
theorem d_M_keep_19 : decode c_M_keep 19 = .ok (.iastore, 1) := by decide +kernel
theorem d_M_keep_20 : decode c_M_keep 20 = .ok (.aload_n 0, 1) := by decide +kernel
theorem d_M_keep_21 : decode c_M_keep 21 = .ok (.getfield 60, 3) := by decide +kernel
theorem d_M_keep_24 : decode c_M_keep 24 = .ok (.iload_n 1, 1) := by decide +kernel
theorem d_M_keep_25 : decode c_M_keep 25 = .ok (.aload_n 0, 1) := by decide +kernel
theorem d_M_keep_26 : decode c_M_keep 26 = .ok (.getfield 111, 3) := by decide +kernel
theorem d_M_keep_29 : decode c_M_keep 29 = .ok (.iastore, 1) := by decide +kernel
theorem d_M_keep_30 : decode c_M_keep 30 = .ok (.iconst 0, 1) := by decide +kernel
theorem d_M_keep_31 : decode c_M_keep 31 = .ok (.istore_n 2, 1) := by decide +kernel
theorem d_M_keep_32 : decode c_M_keep 32 = .ok (.iload_n 2, 1) := by decide +kernel
theorem d_M_keep_33 : decode c_M_keep 33 = .ok (.bipush 12, 2) := by decide +kernel
theorem d_M_keep_35 : decode c_M_keep 35 = .ok (.if_icmp .ge 118, 3) := by decide +kernel
theorem d_M_keep_38 : decode c_M_keep 38 = .ok (.aload_n 0, 1) := by decide +kernel
theorem d_M_keep_39 : decode c_M_keep 39 = .ok (.getfield 67, 3) := by decide +kernel
theorem d_M_keep_42 : decode c_M_keep 42 = .ok (.bipush 12, 2) := by decide +kernel
theorem d_M_keep_44 : decode c_M_keep 44 = .ok (.iload_n 1, 1) := by decide +kernel
theorem d_M_keep_45 : decode c_M_keep 45 = .ok (.imul, 1) := by decide +kernel
theorem d_M_keep_46 : decode c_M_keep 46 = .ok (.iload_n 2, 1) := by decide +kernel
theorem d_M_keep_47 : decode c_M_keep 47 = .ok (.iadd, 1) := by decide +kernel
theorem d_M_keep_48 : decode c_M_keep 48 = .ok (.aload_n 0, 1) := by decide +kernel
theorem d_M_keep_49 : decode c_M_keep 49 = .ok (.getfield 89, 3) := by decide +kernel
theorem d_M_keep_52 : decode c_M_keep 52 = .ok (.iload_n 2, 1) := by decide +kernel
theorem d_M_keep_53 : decode c_M_keep 53 = .ok (.iaload, 1) := by decide +kernel
theorem d_M_keep_54 : decode c_M_keep 54 = .ok (.iastore, 1) := by decide +kernel
theorem d_M_keep_55 : decode c_M_keep 55 = .ok (.iconst 0, 1) := by decide +kernel
theorem d_M_keep_56 : decode c_M_keep 56 = .ok (.istore_n 3, 1) := by decide +kernel
theorem d_M_keep_57 : decode c_M_keep 57 = .ok (.iload_n 3, 1) := by decide +kernel
theorem d_M_keep_58 : decode c_M_keep 58 = .ok (.bipush 12, 2) := by decide +kernel
theorem d_M_keep_60 : decode c_M_keep 60 = .ok (.if_icmp .ge 87, 3) := by decide +kernel
theorem d_M_keep_63 : decode c_M_keep 63 = .ok (.bipush 12, 2) := by decide +kernel
theorem d_M_keep_65 : decode c_M_keep 65 = .ok (.iload_n 2, 1) := by decide +kernel
theorem d_M_keep_66 : decode c_M_keep 66 = .ok (.imul, 1) := by decide +kernel
theorem d_M_keep_67 : decode c_M_keep 67 = .ok (.iload_n 3, 1) := by decide +kernel
theorem d_M_keep_68 : decode c_M_keep 68 = .ok (.iadd, 1) := by decide +kernel
theorem d_M_keep_69 : decode c_M_keep 69 = .ok (.istore 4, 2) := by decide +kernel
theorem d_M_keep_71 : decode c_M_keep 71 = .ok (.aload_n 0, 1) := by decide +kernel
theorem d_M_keep_72 : decode c_M_keep 72 = .ok (.getfield 79, 3) := by decide +kernel
theorem d_M_keep_75 : decode c_M_keep 75 = .ok (.iload 4, 2) := by decide +kernel
theorem d_M_keep_77 : decode c_M_keep 77 = .ok (.aaload, 1) := by decide +kernel
theorem d_M_keep_78 : decode c_M_keep 78 = .ok (.aload_n 0, 1) := by decide +kernel
theorem d_M_keep_79 : decode c_M_keep 79 = .ok (.getfield 70, 3) := by decide +kernel
theorem d_M_keep_82 : decode c_M_keep 82 = .ok (.bipush 16, 2) := by decide +kernel
theorem d_M_keep_84 : decode c_M_keep 84 = .ok (.sipush 144, 3) := by decide +kernel
theorem d_M_keep_87 : decode c_M_keep 87 = .ok (.iload_n 1, 1) := by decide +kernel
theorem d_M_keep_88 : decode c_M_keep 88 = .ok (.imul, 1) := by decide +kernel
theorem d_M_keep_89 : decode c_M_keep 89 = .ok (.iload 4, 2) := by decide +kernel
theorem d_M_keep_91 : decode c_M_keep 91 = .ok (.iadd, 1) := by decide +kernel
theorem d_M_keep_92 : decode c_M_keep 92 = .ok (.imul, 1) := by decide +kernel
theorem d_M_keep_93 : decode c_M_keep 93 = .ok (.invokestatic 124, 3) := by decide +kernel
theorem d_M_keep_96 : decode c_M_keep 96 = .ok (.aload_n 0, 1) := by decide +kernel
theorem d_M_keep_97 : decode c_M_keep 97 = .ok (.getfield 83, 3) := by decide +kernel
theorem d_M_keep_100 : decode c_M_keep 100 = .ok (.iload 4, 2) := by decide +kernel
theorem d_M_keep_102 : decode c_M_keep 102 = .ok (.aaload, 1) := by decide +kernel
theorem d_M_keep_103 : decode c_M_keep 103 = .ok (.aload_n 0, 1) := by decide +kernel
theorem d_M_keep_104 : decode c_M_keep 104 = .ok (.getfield 73, 3) := by decide +kernel
theorem d_M_keep_107 : decode c_M_keep 107 = .ok (.bipush 16, 2) := by decide +kernel
theorem d_M_keep_109 : decode c_M_keep 109 = .ok (.sipush 144, 3) := by decide +kernel
theorem d_M_keep_112 : decode c_M_keep 112 = .ok (.iload_n 1, 1) := by decide +kernel
theorem d_M_keep_113 : decode c_M_keep 113 = .ok (.imul, 1) := by decide +kernel
theorem d_M_keep_114 : decode c_M_keep 114 = .ok (.iload 4, 2) := by decide +kernel
theorem d_M_keep_116 : decode c_M_keep 116 = .ok (.iadd, 1) := by decide +kernel
theorem d_M_keep_117 : decode c_M_keep 117 = .ok (.imul, 1) := by decide +kernel
theorem d_M_keep_118 : decode c_M_keep 118 = .ok (.invokestatic 124, 3) := by decide +kernel
theorem d_M_keep_121 : decode c_M_keep 121 = .ok (.aload_n 0, 1) := by decide +kernel
theorem d_M_keep_122 : decode c_M_keep 122 = .ok (.getfield 76, 3) := by decide +kernel
theorem d_M_keep_125 : decode c_M_keep 125 = .ok (.sipush 144, 3) := by decide +kernel
theorem d_M_keep_128 : decode c_M_keep 128 = .ok (.iload_n 1, 1) := by decide +kernel
theorem d_M_keep_129 : decode c_M_keep 129 = .ok (.imul, 1) := by decide +kernel
theorem d_M_keep_130 : decode c_M_keep 130 = .ok (.iload 4, 2) := by decide +kernel
theorem d_M_keep_132 : decode c_M_keep 132 = .ok (.iadd, 1) := by decide +kernel
theorem d_M_keep_133 : decode c_M_keep 133 = .ok (.aload_n 0, 1) := by decide +kernel
theorem d_M_keep_134 : decode c_M_keep 134 = .ok (.getfield 86, 3) := by decide +kernel
theorem d_M_keep_137 : decode c_M_keep 137 = .ok (.iload 4, 2) := by decide +kernel
theorem d_M_keep_139 : decode c_M_keep 139 = .ok (.iaload, 1) := by decide +kernel
theorem d_M_keep_140 : decode c_M_keep 140 = .ok (.iastore, 1) := by decide +kernel
theorem d_M_keep_141 : decode c_M_keep 141 = .ok (.iinc 3 1, 3) := by decide +kernel
theorem d_M_keep_144 : decode c_M_keep 144 = .ok (.goto (-87), 3) := by decide +kernel
theorem d_M_keep_147 : decode c_M_keep 147 = .ok (.iinc 2 1, 3) := by decide +kernel
theorem d_M_keep_150 : decode c_M_keep 150 = .ok (.goto (-118), 3) := by decide +kernel
theorem d_M_keep_153 : decode c_M_keep 153 = .ok (.return_, 1) := by decide +kernel
theorem d_M_store_0 : decode c_M_store 0 = .ok (.aload_n 1, 1) := by decide +kernel
theorem d_M_store_1 : decode c_M_store 1 = .ok (.iload_n 2, 1) := by decide +kernel
theorem d_M_store_2 : decode c_M_store 2 = .ok (.aload_n 0, 1) := by decide +kernel
theorem d_M_store_3 : decode c_M_store 3 = .ok (.getfield 13, 3) := by decide +kernel
theorem d_M_store_6 : decode c_M_store 6 = .ok (.ifCond .eq 11, 3) := by decide +kernel
theorem d_M_store_9 : decode c_M_store 9 = .ok (.aload_n 0, 1) := by decide +kernel
theorem d_M_store_10 : decode c_M_store 10 = .ok (.getfield 20, 3) := by decide +kernel
theorem d_M_store_13 : decode c_M_store 13 = .ok (.ineg, 1) := by decide +kernel
theorem d_M_store_14 : decode c_M_store 14 = .ok (.goto 7, 3) := by decide +kernel
theorem d_M_store_17 : decode c_M_store 17 = .ok (.aload_n 0, 1) := by decide +kernel
theorem d_M_store_18 : decode c_M_store 18 = .ok (.getfield 20, 3) := by decide +kernel
theorem d_M_store_21 : decode c_M_store 21 = .ok (.iastore, 1) := by decide +kernel
theorem d_M_store_22 : decode c_M_store 22 = .ok (.iconst 0, 1) := by decide +kernel
theorem d_M_store_23 : decode c_M_store 23 = .ok (.istore_n 3, 1) := by decide +kernel
theorem d_M_store_24 : decode c_M_store 24 = .ok (.iload_n 3, 1) := by decide +kernel
theorem d_M_store_25 : decode c_M_store 25 = .ok (.aload_n 0, 1) := by decide +kernel
theorem d_M_store_26 : decode c_M_store 26 = .ok (.getfield 20, 3) := by decide +kernel
theorem d_M_store_29 : decode c_M_store 29 = .ok (.if_icmp .ge 22, 3) := by decide +kernel
theorem d_M_store_32 : decode c_M_store 32 = .ok (.aload_n 1, 1) := by decide +kernel
theorem d_M_store_33 : decode c_M_store 33 = .ok (.iload_n 2, 1) := by decide +kernel
theorem d_M_store_34 : decode c_M_store 34 = .ok (.iconst 1, 1) := by decide +kernel
theorem d_M_store_35 : decode c_M_store 35 = .ok (.iadd, 1) := by decide +kernel
theorem d_M_store_36 : decode c_M_store 36 = .ok (.iload_n 3, 1) := by decide +kernel
theorem d_M_store_37 : decode c_M_store 37 = .ok (.iadd, 1) := by decide +kernel
theorem d_M_store_38 : decode c_M_store 38 = .ok (.aload_n 0, 1) := by decide +kernel
theorem d_M_store_39 : decode c_M_store 39 = .ok (.getfield 98, 3) := by decide +kernel
theorem d_M_store_42 : decode c_M_store 42 = .ok (.iload_n 3, 1) := by decide +kernel
theorem d_M_store_43 : decode c_M_store 43 = .ok (.iaload, 1) := by decide +kernel
theorem d_M_store_44 : decode c_M_store 44 = .ok (.iastore, 1) := by decide +kernel
theorem d_M_store_45 : decode c_M_store 45 = .ok (.iinc 3 1, 3) := by decide +kernel
theorem d_M_store_48 : decode c_M_store 48 = .ok (.goto (-24), 3) := by decide +kernel
theorem d_M_store_51 : decode c_M_store 51 = .ok (.return_, 1) := by decide +kernel
theorem d_M_put_0 : decode c_M_put 0 = .ok (.aload_n 0, 1) := by decide +kernel
theorem d_M_put_1 : decode c_M_put 1 = .ok (.iload_n 1, 1) := by decide +kernel
theorem d_M_put_2 : decode c_M_put 2 = .ok (.iload_n 2, 1) := by decide +kernel
theorem d_M_put_3 : decode c_M_put 3 = .ok (.iload_n 3, 1) := by decide +kernel
theorem d_M_put_4 : decode c_M_put 4 = .ok (.invokevirtual 181, 3) := by decide +kernel
theorem d_M_put_7 : decode c_M_put 7 = .ok (.ifCond .eq 28, 3) := by decide +kernel
theorem d_M_put_10 : decode c_M_put 10 = .ok (.aload_n 0, 1) := by decide +kernel
theorem d_M_put_11 : decode c_M_put 11 = .ok (.getfield 63, 3) := by decide +kernel
theorem d_M_put_14 : decode c_M_put 14 = .ok (.iload_n 1, 1) := by decide +kernel
theorem d_M_put_15 : decode c_M_put 15 = .ok (.baload, 1) := by decide +kernel
theorem d_M_put_16 : decode c_M_put 16 = .ok (.ifCond .eq 19, 3) := by decide +kernel
theorem d_M_put_19 : decode c_M_put 19 = .ok (.iload 4, 2) := by decide +kernel
theorem d_M_put_21 : decode c_M_put 21 = .ok (.sipush (-999), 3) := by decide +kernel
theorem d_M_put_24 : decode c_M_put 24 = .ok (.if_icmp .lt 11, 3) := by decide +kernel
theorem d_M_put_27 : decode c_M_put 27 = .ok (.iload 4, 2) := by decide +kernel
theorem d_M_put_29 : decode c_M_put 29 = .ok (.sipush 999, 3) := by decide +kernel
theorem d_M_put_32 : decode c_M_put 32 = .ok (.if_icmp .le 5, 3) := by decide +kernel
theorem d_M_put_35 : decode c_M_put 35 = .ok (.iconst 0, 1) := by decide +kernel
theorem d_M_put_36 : decode c_M_put 36 = .ok (.ireturn, 1) := by decide +kernel
theorem d_M_put_37 : decode c_M_put 37 = .ok (.sipush 144, 3) := by decide +kernel
theorem d_M_put_40 : decode c_M_put 40 = .ok (.iload_n 1, 1) := by decide +kernel
theorem d_M_put_41 : decode c_M_put 41 = .ok (.imul, 1) := by decide +kernel
theorem d_M_put_42 : decode c_M_put 42 = .ok (.bipush 12, 2) := by decide +kernel
theorem d_M_put_44 : decode c_M_put 44 = .ok (.iload_n 2, 1) := by decide +kernel
theorem d_M_put_45 : decode c_M_put 45 = .ok (.imul, 1) := by decide +kernel
theorem d_M_put_46 : decode c_M_put 46 = .ok (.iadd, 1) := by decide +kernel
theorem d_M_put_47 : decode c_M_put 47 = .ok (.iload_n 3, 1) := by decide +kernel
theorem d_M_put_48 : decode c_M_put 48 = .ok (.iadd, 1) := by decide +kernel
theorem d_M_put_49 : decode c_M_put 49 = .ok (.istore 5, 2) := by decide +kernel
theorem d_M_put_51 : decode c_M_put 51 = .ok (.aload_n 0, 1) := by decide +kernel
theorem d_M_put_52 : decode c_M_put 52 = .ok (.getfield 41, 3) := by decide +kernel
theorem d_M_put_55 : decode c_M_put 55 = .ok (.iload 4, 2) := by decide +kernel
theorem d_M_put_57 : decode c_M_put 57 = .ok (.i2l, 1) := by decide +kernel
theorem d_M_put_58 : decode c_M_put 58 = .ok (.invokevirtual 117, 3) := by decide +kernel
theorem d_M_put_61 : decode c_M_put 61 = .ok (.aload_n 0, 1) := by decide +kernel
theorem d_M_put_62 : decode c_M_put 62 = .ok (.getfield 41, 3) := by decide +kernel
theorem d_M_put_65 : decode c_M_put 65 = .ok (.aload_n 0, 1) := by decide +kernel
theorem d_M_put_66 : decode c_M_put 66 = .ok (.getfield 70, 3) := by decide +kernel
theorem d_M_put_69 : decode c_M_put 69 = .ok (.bipush 16, 2) := by decide +kernel
theorem d_M_put_71 : decode c_M_put 71 = .ok (.iload 5, 2) := by decide +kernel
theorem d_M_put_73 : decode c_M_put 73 = .ok (.imul, 1) := by decide +kernel
theorem d_M_put_74 : decode c_M_put 74 = .ok (.invokestatic 124, 3) := by decide +kernel
theorem d_M_put_77 : decode c_M_put 77 = .ok (.aload_n 0, 1) := by decide +kernel
theorem d_M_put_78 : decode c_M_put 78 = .ok (.getfield 76, 3) := by decide +kernel
theorem d_M_put_81 : decode c_M_put 81 = .ok (.iload 5, 2) := by decide +kernel
theorem d_M_put_83 : decode c_M_put 83 = .ok (.aload_n 0, 1) := by decide +kernel
theorem d_M_put_84 : decode c_M_put 84 = .ok (.getfield 53, 3) := by decide +kernel
theorem d_M_put_87 : decode c_M_put 87 = .ok (.iload_n 1, 1) := by decide +kernel
theorem d_M_put_88 : decode c_M_put 88 = .ok (.iaload, 1) := by decide +kernel
theorem d_M_put_89 : decode c_M_put 89 = .ok (.ifCond .ne 7, 3) := by decide +kernel
theorem d_M_put_92 : decode c_M_put 92 = .ok (.iconst 0, 1) := by decide +kernel
theorem d_M_put_93 : decode c_M_put 93 = .ok (.goto 26, 3) := by decide +kernel
theorem d_M_put_96 : decode c_M_put 96 = .ok (.iload 4, 2) := by decide +kernel
theorem d_M_put_98 : decode c_M_put 98 = .ok (.aload_n 0, 1) := by decide +kernel
theorem d_M_put_99 : decode c_M_put 99 = .ok (.getfield 53, 3) := by decide +kernel
theorem d_M_put_102 : decode c_M_put 102 = .ok (.iload_n 1, 1) := by decide +kernel
theorem d_M_put_103 : decode c_M_put 103 = .ok (.iaload, 1) := by decide +kernel
theorem d_M_put_104 : decode c_M_put 104 = .ok (.irem, 1) := by decide +kernel
theorem d_M_put_105 : decode c_M_put 105 = .ok (.aload_n 0, 1) := by decide +kernel
theorem d_M_put_106 : decode c_M_put 106 = .ok (.getfield 53, 3) := by decide +kernel
theorem d_M_put_109 : decode c_M_put 109 = .ok (.iload_n 1, 1) := by decide +kernel
theorem d_M_put_110 : decode c_M_put 110 = .ok (.iaload, 1) := by decide +kernel
theorem d_M_put_111 : decode c_M_put 111 = .ok (.iadd, 1) := by decide +kernel
theorem d_M_put_112 : decode c_M_put 112 = .ok (.aload_n 0, 1) := by decide +kernel
theorem d_M_put_113 : decode c_M_put 113 = .ok (.getfield 53, 3) := by decide +kernel
theorem d_M_put_116 : decode c_M_put 116 = .ok (.iload_n 1, 1) := by decide +kernel
theorem d_M_put_117 : decode c_M_put 117 = .ok (.iaload, 1) := by decide +kernel
theorem d_M_put_118 : decode c_M_put 118 = .ok (.irem, 1) := by decide +kernel
theorem d_M_put_119 : decode c_M_put 119 = .ok (.iastore, 1) := by decide +kernel
theorem d_M_put_120 : decode c_M_put 120 = .ok (.iconst 1, 1) := by decide +kernel
theorem d_M_put_121 : decode c_M_put 121 = .ok (.ireturn, 1) := by decide +kernel
theorem d_M_isCell_0 : decode c_M_isCell 0 = .ok (.iload_n 1, 1) := by decide +kernel
theorem d_M_isCell_1 : decode c_M_isCell 1 = .ok (.invokestatic 101, 3) := by decide +kernel
theorem d_M_isCell_4 : decode c_M_isCell 4 = .ok (.ifCond .eq 35, 3) := by decide +kernel
theorem d_M_isCell_7 : decode c_M_isCell 7 = .ok (.iload_n 2, 1) := by decide +kernel
theorem d_M_isCell_8 : decode c_M_isCell 8 = .ok (.ifCond .lt 31, 3) := by decide +kernel
theorem d_M_isCell_11 : decode c_M_isCell 11 = .ok (.iload_n 2, 1) := by decide +kernel
theorem d_M_isCell_12 : decode c_M_isCell 12 = .ok (.aload_n 0, 1) := by decide +kernel
theorem d_M_isCell_13 : decode c_M_isCell 13 = .ok (.getfield 57, 3) := by decide +kernel
theorem d_M_isCell_16 : decode c_M_isCell 16 = .ok (.iload_n 1, 1) := by decide +kernel
theorem d_M_isCell_17 : decode c_M_isCell 17 = .ok (.iaload, 1) := by decide +kernel
theorem d_M_isCell_18 : decode c_M_isCell 18 = .ok (.if_icmp .ge 21, 3) := by decide +kernel
theorem d_M_isCell_21 : decode c_M_isCell 21 = .ok (.iload_n 3, 1) := by decide +kernel
theorem d_M_isCell_22 : decode c_M_isCell 22 = .ok (.ifCond .lt 17, 3) := by decide +kernel
theorem d_M_isCell_25 : decode c_M_isCell 25 = .ok (.iload_n 3, 1) := by decide +kernel
theorem d_M_isCell_26 : decode c_M_isCell 26 = .ok (.aload_n 0, 1) := by decide +kernel
theorem d_M_isCell_27 : decode c_M_isCell 27 = .ok (.getfield 60, 3) := by decide +kernel
theorem d_M_isCell_30 : decode c_M_isCell 30 = .ok (.iload_n 1, 1) := by decide +kernel
theorem d_M_isCell_31 : decode c_M_isCell 31 = .ok (.iaload, 1) := by decide +kernel
theorem d_M_isCell_32 : decode c_M_isCell 32 = .ok (.if_icmp .ge 7, 3) := by decide +kernel
theorem d_M_isCell_35 : decode c_M_isCell 35 = .ok (.iconst 1, 1) := by decide +kernel
theorem d_M_isCell_36 : decode c_M_isCell 36 = .ok (.goto 4, 3) := by decide +kernel
theorem d_M_isCell_39 : decode c_M_isCell 39 = .ok (.iconst 0, 1) := by decide +kernel
theorem d_M_isCell_40 : decode c_M_isCell 40 = .ok (.ireturn, 1) := by decide +kernel
theorem d_M_reduce_0 : decode c_M_reduce 0 = .ok (.iload_n 1, 1) := by decide +kernel
theorem d_M_reduce_1 : decode c_M_reduce 1 = .ok (.invokestatic 101, 3) := by decide +kernel
theorem d_M_reduce_4 : decode c_M_reduce 4 = .ok (.ifCond .ne 5, 3) := by decide +kernel
theorem d_M_reduce_7 : decode c_M_reduce 7 = .ok (.iconst (-1), 1) := by decide +kernel
theorem d_M_reduce_8 : decode c_M_reduce 8 = .ok (.ireturn, 1) := by decide +kernel
theorem d_M_reduce_9 : decode c_M_reduce 9 = .ok (.aload_n 0, 1) := by decide +kernel
theorem d_M_reduce_10 : decode c_M_reduce 10 = .ok (.getfield 63, 3) := by decide +kernel
theorem d_M_reduce_13 : decode c_M_reduce 13 = .ok (.iload_n 1, 1) := by decide +kernel
theorem d_M_reduce_14 : decode c_M_reduce 14 = .ok (.baload, 1) := by decide +kernel
theorem d_M_reduce_15 : decode c_M_reduce 15 = .ok (.ifCond .ne 10, 3) := by decide +kernel
theorem d_M_reduce_18 : decode c_M_reduce 18 = .ok (.aload_n 0, 1) := by decide +kernel
theorem d_M_reduce_19 : decode c_M_reduce 19 = .ok (.getfield 57, 3) := by decide +kernel
theorem d_M_reduce_22 : decode c_M_reduce 22 = .ok (.iload_n 1, 1) := by decide +kernel
theorem d_M_reduce_23 : decode c_M_reduce 23 = .ok (.iaload, 1) := by decide +kernel
theorem d_M_reduce_24 : decode c_M_reduce 24 = .ok (.ireturn, 1) := by decide +kernel
theorem d_M_reduce_25 : decode c_M_reduce 25 = .ok (.aload_n 0, 1) := by decide +kernel
theorem d_M_reduce_26 : decode c_M_reduce 26 = .ok (.iload_n 1, 1) := by decide +kernel
theorem d_M_reduce_27 : decode c_M_reduce 27 = .ok (.invokevirtual 185, 3) := by decide +kernel
theorem d_M_reduce_30 : decode c_M_reduce 30 = .ok (.aload_n 0, 1) := by decide +kernel
theorem d_M_reduce_31 : decode c_M_reduce 31 = .ok (.iload_n 1, 1) := by decide +kernel
theorem d_M_reduce_32 : decode c_M_reduce 32 = .ok (.invokevirtual 188, 3) := by decide +kernel
theorem d_M_reduce_35 : decode c_M_reduce 35 = .ok (.ireturn, 1) := by decide +kernel
theorem d_M_load_0 : decode c_M_load 0 = .ok (.aload_n 0, 1) := by decide +kernel
theorem d_M_load_1 : decode c_M_load 1 = .ok (.aload_n 0, 1) := by decide +kernel
theorem d_M_load_2 : decode c_M_load 2 = .ok (.getfield 53, 3) := by decide +kernel
theorem d_M_load_5 : decode c_M_load 5 = .ok (.iload_n 1, 1) := by decide +kernel
theorem d_M_load_6 : decode c_M_load 6 = .ok (.iaload, 1) := by decide +kernel
theorem d_M_load_7 : decode c_M_load 7 = .ok (.aload_n 0, 1) := by decide +kernel
theorem d_M_load_8 : decode c_M_load 8 = .ok (.getfield 57, 3) := by decide +kernel
theorem d_M_load_11 : decode c_M_load 11 = .ok (.iload_n 1, 1) := by decide +kernel
theorem d_M_load_12 : decode c_M_load 12 = .ok (.iaload, 1) := by decide +kernel
theorem d_M_load_13 : decode c_M_load 13 = .ok (.aload_n 0, 1) := by decide +kernel
theorem d_M_load_14 : decode c_M_load 14 = .ok (.getfield 60, 3) := by decide +kernel
theorem d_M_load_17 : decode c_M_load 17 = .ok (.iload_n 1, 1) := by decide +kernel
theorem d_M_load_18 : decode c_M_load 18 = .ok (.iaload, 1) := by decide +kernel
theorem d_M_load_19 : decode c_M_load 19 = .ok (.invokevirtual 127, 3) := by decide +kernel
theorem d_M_load_22 : decode c_M_load 22 = .ok (.iconst 0, 1) := by decide +kernel
theorem d_M_load_23 : decode c_M_load 23 = .ok (.istore_n 2, 1) := by decide +kernel
theorem d_M_load_24 : decode c_M_load 24 = .ok (.iload_n 2, 1) := by decide +kernel
theorem d_M_load_25 : decode c_M_load 25 = .ok (.aload_n 0, 1) := by decide +kernel
theorem d_M_load_26 : decode c_M_load 26 = .ok (.getfield 108, 3) := by decide +kernel
theorem d_M_load_29 : decode c_M_load 29 = .ok (.if_icmp .ge 55, 3) := by decide +kernel
theorem d_M_load_32 : decode c_M_load 32 = .ok (.aload_n 0, 1) := by decide +kernel
theorem d_M_load_33 : decode c_M_load 33 = .ok (.getfield 89, 3) := by decide +kernel
theorem d_M_load_36 : decode c_M_load 36 = .ok (.iload_n 2, 1) := by decide +kernel
theorem d_M_load_37 : decode c_M_load 37 = .ok (.aload_n 0, 1) := by decide +kernel
theorem d_M_load_38 : decode c_M_load 38 = .ok (.getfield 67, 3) := by decide +kernel
theorem d_M_load_41 : decode c_M_load 41 = .ok (.bipush 12, 2) := by decide +kernel
theorem d_M_load_43 : decode c_M_load 43 = .ok (.iload_n 1, 1) := by decide +kernel
theorem d_M_load_44 : decode c_M_load 44 = .ok (.imul, 1) := by decide +kernel
theorem d_M_load_45 : decode c_M_load 45 = .ok (.iload_n 2, 1) := by decide +kernel
theorem d_M_load_46 : decode c_M_load 46 = .ok (.iadd, 1) := by decide +kernel
theorem d_M_load_47 : decode c_M_load 47 = .ok (.iaload, 1) := by decide +kernel
theorem d_M_load_48 : decode c_M_load 48 = .ok (.iastore, 1) := by decide +kernel
theorem d_M_load_49 : decode c_M_load 49 = .ok (.iconst 0, 1) := by decide +kernel
theorem d_M_load_50 : decode c_M_load 50 = .ok (.istore_n 3, 1) := by decide +kernel
theorem d_M_load_51 : decode c_M_load 51 = .ok (.iload_n 3, 1) := by decide +kernel
theorem d_M_load_52 : decode c_M_load 52 = .ok (.aload_n 0, 1) := by decide +kernel
theorem d_M_load_53 : decode c_M_load 53 = .ok (.getfield 111, 3) := by decide +kernel
theorem d_M_load_56 : decode c_M_load 56 = .ok (.if_icmp .ge 22, 3) := by decide +kernel
theorem d_M_load_59 : decode c_M_load 59 = .ok (.aload_n 0, 1) := by decide +kernel
theorem d_M_load_60 : decode c_M_load 60 = .ok (.iload_n 1, 1) := by decide +kernel
theorem d_M_load_61 : decode c_M_load 61 = .ok (.iload_n 2, 1) := by decide +kernel
theorem d_M_load_62 : decode c_M_load 62 = .ok (.iload_n 3, 1) := by decide +kernel
theorem d_M_load_63 : decode c_M_load 63 = .ok (.bipush 12, 2) := by decide +kernel
theorem d_M_load_65 : decode c_M_load 65 = .ok (.iload_n 2, 1) := by decide +kernel
theorem d_M_load_66 : decode c_M_load 66 = .ok (.imul, 1) := by decide +kernel
theorem d_M_load_67 : decode c_M_load 67 = .ok (.iload_n 3, 1) := by decide +kernel
theorem d_M_load_68 : decode c_M_load 68 = .ok (.iadd, 1) := by decide +kernel
theorem d_M_load_69 : decode c_M_load 69 = .ok (.invokevirtual 131, 3) := by decide +kernel
theorem d_M_load_72 : decode c_M_load 72 = .ok (.iinc 3 1, 3) := by decide +kernel
theorem d_M_load_75 : decode c_M_load 75 = .ok (.goto (-24), 3) := by decide +kernel
theorem d_M_load_78 : decode c_M_load 78 = .ok (.iinc 2 1, 3) := by decide +kernel
theorem d_M_load_81 : decode c_M_load 81 = .ok (.goto (-57), 3) := by decide +kernel
theorem d_M_load_84 : decode c_M_load 84 = .ok (.return_, 1) := by decide +kernel
theorem d_M_bring_0 : decode c_M_bring 0 = .ok (.sipush 144, 3) := by decide +kernel
theorem d_M_bring_3 : decode c_M_bring 3 = .ok (.iload_n 1, 1) := by decide +kernel
theorem d_M_bring_4 : decode c_M_bring 4 = .ok (.imul, 1) := by decide +kernel
theorem d_M_bring_5 : decode c_M_bring 5 = .ok (.bipush 12, 2) := by decide +kernel
theorem d_M_bring_7 : decode c_M_bring 7 = .ok (.iload_n 2, 1) := by decide +kernel
theorem d_M_bring_8 : decode c_M_bring 8 = .ok (.imul, 1) := by decide +kernel
theorem d_M_bring_9 : decode c_M_bring 9 = .ok (.iadd, 1) := by decide +kernel
theorem d_M_bring_10 : decode c_M_bring 10 = .ok (.iload_n 3, 1) := by decide +kernel
theorem d_M_bring_11 : decode c_M_bring 11 = .ok (.iadd, 1) := by decide +kernel
theorem d_M_bring_12 : decode c_M_bring 12 = .ok (.istore 5, 2) := by decide +kernel
theorem d_M_bring_14 : decode c_M_bring 14 = .ok (.aload_n 0, 1) := by decide +kernel
theorem d_M_bring_15 : decode c_M_bring 15 = .ok (.getfield 79, 3) := by decide +kernel
theorem d_M_bring_18 : decode c_M_bring 18 = .ok (.iload 4, 2) := by decide +kernel
theorem d_M_bring_20 : decode c_M_bring 20 = .ok (.aaload, 1) := by decide +kernel
theorem d_M_bring_21 : decode c_M_bring 21 = .ok (.aload_n 0, 1) := by decide +kernel
theorem d_M_bring_22 : decode c_M_bring 22 = .ok (.getfield 70, 3) := by decide +kernel
theorem d_M_bring_25 : decode c_M_bring 25 = .ok (.bipush 16, 2) := by decide +kernel
theorem d_M_bring_27 : decode c_M_bring 27 = .ok (.iload 5, 2) := by decide +kernel
theorem d_M_bring_29 : decode c_M_bring 29 = .ok (.imul, 1) := by decide +kernel
theorem d_M_bring_30 : decode c_M_bring 30 = .ok (.invokestatic 120, 3) := by decide +kernel
theorem d_M_bring_33 : decode c_M_bring 33 = .ok (.aload_n 0, 1) := by decide +kernel
theorem d_M_bring_34 : decode c_M_bring 34 = .ok (.getfield 83, 3) := by decide +kernel
theorem d_M_bring_37 : decode c_M_bring 37 = .ok (.iload 4, 2) := by decide +kernel
theorem d_M_bring_39 : decode c_M_bring 39 = .ok (.aaload, 1) := by decide +kernel
theorem d_M_bring_40 : decode c_M_bring 40 = .ok (.aload_n 0, 1) := by decide +kernel
theorem d_M_bring_41 : decode c_M_bring 41 = .ok (.getfield 73, 3) := by decide +kernel
theorem d_M_bring_44 : decode c_M_bring 44 = .ok (.bipush 16, 2) := by decide +kernel
theorem d_M_bring_46 : decode c_M_bring 46 = .ok (.iload 5, 2) := by decide +kernel
theorem d_M_bring_48 : decode c_M_bring 48 = .ok (.imul, 1) := by decide +kernel
theorem d_M_bring_49 : decode c_M_bring 49 = .ok (.invokestatic 120, 3) := by decide +kernel
theorem d_M_bring_52 : decode c_M_bring 52 = .ok (.aload_n 0, 1) := by decide +kernel
theorem d_M_bring_53 : decode c_M_bring 53 = .ok (.getfield 86, 3) := by decide +kernel
theorem d_M_bring_56 : decode c_M_bring 56 = .ok (.iload 4, 2) := by decide +kernel
theorem d_M_bring_58 : decode c_M_bring 58 = .ok (.aload_n 0, 1) := by decide +kernel
theorem d_M_bring_59 : decode c_M_bring 59 = .ok (.getfield 76, 3) := by decide +kernel
theorem d_M_bring_62 : decode c_M_bring 62 = .ok (.iload 5, 2) := by decide +kernel
theorem d_M_bring_64 : decode c_M_bring 64 = .ok (.iaload, 1) := by decide +kernel
theorem d_M_bring_65 : decode c_M_bring 65 = .ok (.iastore, 1) := by decide +kernel
theorem d_M_bring_66 : decode c_M_bring 66 = .ok (.return_, 1) := by decide +kernel
theorem d_M_fetch_0 : decode c_M_fetch 0 = .ok (.aload_n 0, 1) := by decide +kernel
theorem d_M_fetch_1 : decode c_M_fetch 1 = .ok (.aload_n 1, 1) := by decide +kernel
theorem d_M_fetch_2 : decode c_M_fetch 2 = .ok (.iload_n 2, 1) := by decide +kernel
theorem d_M_fetch_3 : decode c_M_fetch 3 = .ok (.iaload, 1) := by decide +kernel
theorem d_M_fetch_4 : decode c_M_fetch 4 = .ok (.ifCond .ge 7, 3) := by decide +kernel
theorem d_M_fetch_7 : decode c_M_fetch 7 = .ok (.iconst 1, 1) := by decide +kernel
theorem d_M_fetch_8 : decode c_M_fetch 8 = .ok (.goto 4, 3) := by decide +kernel
theorem d_M_fetch_11 : decode c_M_fetch 11 = .ok (.iconst 0, 1) := by decide +kernel
theorem d_M_fetch_12 : decode c_M_fetch 12 = .ok (.putfield 13, 3) := by decide +kernel
theorem d_M_fetch_15 : decode c_M_fetch 15 = .ok (.aload_n 0, 1) := by decide +kernel
theorem d_M_fetch_16 : decode c_M_fetch 16 = .ok (.aload_n 0, 1) := by decide +kernel
theorem d_M_fetch_17 : decode c_M_fetch 17 = .ok (.getfield 13, 3) := by decide +kernel
theorem d_M_fetch_20 : decode c_M_fetch 20 = .ok (.ifCond .eq 10, 3) := by decide +kernel
theorem d_M_fetch_23 : decode c_M_fetch 23 = .ok (.aload_n 1, 1) := by decide +kernel
theorem d_M_fetch_24 : decode c_M_fetch 24 = .ok (.iload_n 2, 1) := by decide +kernel
theorem d_M_fetch_25 : decode c_M_fetch 25 = .ok (.iaload, 1) := by decide +kernel
theorem d_M_fetch_26 : decode c_M_fetch 26 = .ok (.ineg, 1) := by decide +kernel
theorem d_M_fetch_27 : decode c_M_fetch 27 = .ok (.goto 6, 3) := by decide +kernel
theorem d_M_fetch_30 : decode c_M_fetch 30 = .ok (.aload_n 1, 1) := by decide +kernel
theorem d_M_fetch_31 : decode c_M_fetch 31 = .ok (.iload_n 2, 1) := by decide +kernel
theorem d_M_fetch_32 : decode c_M_fetch 32 = .ok (.iaload, 1) := by decide +kernel
theorem d_M_fetch_33 : decode c_M_fetch 33 = .ok (.putfield 20, 3) := by decide +kernel
theorem d_M_fetch_36 : decode c_M_fetch 36 = .ok (.iconst 0, 1) := by decide +kernel
theorem d_M_fetch_37 : decode c_M_fetch 37 = .ok (.istore_n 3, 1) := by decide +kernel
theorem d_M_fetch_38 : decode c_M_fetch 38 = .ok (.iload_n 3, 1) := by decide +kernel
theorem d_M_fetch_39 : decode c_M_fetch 39 = .ok (.aload_n 0, 1) := by decide +kernel
theorem d_M_fetch_40 : decode c_M_fetch 40 = .ok (.getfield 20, 3) := by decide +kernel
theorem d_M_fetch_43 : decode c_M_fetch 43 = .ok (.if_icmp .ge 22, 3) := by decide +kernel
theorem d_M_fetch_46 : decode c_M_fetch 46 = .ok (.aload_n 0, 1) := by decide +kernel
theorem d_M_fetch_47 : decode c_M_fetch 47 = .ok (.getfield 98, 3) := by decide +kernel
theorem d_M_fetch_50 : decode c_M_fetch 50 = .ok (.iload_n 3, 1) := by decide +kernel
theorem d_M_fetch_51 : decode c_M_fetch 51 = .ok (.aload_n 1, 1) := by decide +kernel
theorem d_M_fetch_52 : decode c_M_fetch 52 = .ok (.iload_n 2, 1) := by decide +kernel
theorem d_M_fetch_53 : decode c_M_fetch 53 = .ok (.iconst 1, 1) := by decide +kernel
theorem d_M_fetch_54 : decode c_M_fetch 54 = .ok (.iadd, 1) := by decide +kernel
theorem d_M_fetch_55 : decode c_M_fetch 55 = .ok (.iload_n 3, 1) := by decide +kernel
theorem d_M_fetch_56 : decode c_M_fetch 56 = .ok (.iadd, 1) := by decide +kernel
theorem d_M_fetch_57 : decode c_M_fetch 57 = .ok (.iaload, 1) := by decide +kernel
theorem d_M_fetch_58 : decode c_M_fetch 58 = .ok (.iastore, 1) := by decide +kernel
theorem d_M_fetch_59 : decode c_M_fetch 59 = .ok (.iinc 3 1, 3) := by decide +kernel
theorem d_M_fetch_62 : decode c_M_fetch 62 = .ok (.goto (-24), 3) := by decide +kernel
theorem d_M_fetch_65 : decode c_M_fetch 65 = .ok (.return_, 1) := by decide +kernel
theorem d_M_finish_0 : decode c_M_finish 0 = .ok (.aload_n 0, 1) := by decide +kernel
theorem d_M_finish_1 : decode c_M_finish 1 = .ok (.invokevirtual 172, 3) := by decide +kernel
theorem d_M_finish_4 : decode c_M_finish 4 = .ok (.aload_n 0, 1) := by decide +kernel
theorem d_M_finish_5 : decode c_M_finish 5 = .ok (.iload_n 1, 1) := by decide +kernel
theorem d_M_finish_6 : decode c_M_finish 6 = .ok (.invokevirtual 175, 3) := by decide +kernel
theorem d_M_finish_9 : decode c_M_finish 9 = .ok (.aload_n 0, 1) := by decide +kernel
theorem d_M_finish_10 : decode c_M_finish 10 = .ok (.getfield 63, 3) := by decide +kernel
theorem d_M_finish_13 : decode c_M_finish 13 = .ok (.iload_n 1, 1) := by decide +kernel
theorem d_M_finish_14 : decode c_M_finish 14 = .ok (.iconst 0, 1) := by decide +kernel
theorem d_M_finish_15 : decode c_M_finish 15 = .ok (.bastore, 1) := by decide +kernel
theorem d_M_finish_16 : decode c_M_finish 16 = .ok (.aload_n 0, 1) := by decide +kernel
theorem d_M_finish_17 : decode c_M_finish 17 = .ok (.getfield 108, 3) := by decide +kernel
theorem d_M_finish_20 : decode c_M_finish 20 = .ok (.ireturn, 1) := by decide +kernel
theorem d_M_reduceAll_0 : decode c_M_reduceAll 0 = .ok (.iconst 0, 1) := by decide +kernel
theorem d_M_reduceAll_1 : decode c_M_reduceAll 1 = .ok (.istore_n 1, 1) := by decide +kernel
theorem d_M_reduceAll_2 : decode c_M_reduceAll 2 = .ok (.iconst 0, 1) := by decide +kernel
theorem d_M_reduceAll_3 : decode c_M_reduceAll 3 = .ok (.istore_n 2, 1) := by decide +kernel
theorem d_M_reduceAll_4 : decode c_M_reduceAll 4 = .ok (.iload_n 2, 1) := by decide +kernel
theorem d_M_reduceAll_5 : decode c_M_reduceAll 5 = .ok (.aload_n 0, 1) := by decide +kernel
theorem d_M_reduceAll_6 : decode c_M_reduceAll 6 = .ok (.getfield 111, 3) := by decide +kernel
theorem d_M_reduceAll_9 : decode c_M_reduceAll 9 = .ok (.if_icmp .ge 61, 3) := by decide +kernel
theorem d_M_reduceAll_12 : decode c_M_reduceAll 12 = .ok (.iload_n 1, 1) := by decide +kernel
theorem d_M_reduceAll_13 : decode c_M_reduceAll 13 = .ok (.istore_n 3, 1) := by decide +kernel
theorem d_M_reduceAll_14 : decode c_M_reduceAll 14 = .ok (.iload_n 3, 1) := by decide +kernel
theorem d_M_reduceAll_15 : decode c_M_reduceAll 15 = .ok (.aload_n 0, 1) := by decide +kernel
theorem d_M_reduceAll_16 : decode c_M_reduceAll 16 = .ok (.getfield 108, 3) := by decide +kernel
theorem d_M_reduceAll_19 : decode c_M_reduceAll 19 = .ok (.if_icmp .ge 22, 3) := by decide +kernel
theorem d_M_reduceAll_22 : decode c_M_reduceAll 22 = .ok (.aload_n 0, 1) := by decide +kernel
theorem d_M_reduceAll_23 : decode c_M_reduceAll 23 = .ok (.bipush 12, 2) := by decide +kernel
theorem d_M_reduceAll_25 : decode c_M_reduceAll 25 = .ok (.iload_n 3, 1) := by decide +kernel
theorem d_M_reduceAll_26 : decode c_M_reduceAll 26 = .ok (.imul, 1) := by decide +kernel
theorem d_M_reduceAll_27 : decode c_M_reduceAll 27 = .ok (.iload_n 2, 1) := by decide +kernel
theorem d_M_reduceAll_28 : decode c_M_reduceAll 28 = .ok (.iadd, 1) := by decide +kernel
theorem d_M_reduceAll_29 : decode c_M_reduceAll 29 = .ok (.invokevirtual 160, 3) := by decide +kernel
theorem d_M_reduceAll_32 : decode c_M_reduceAll 32 = .ok (.ifCond .eq 9, 3) := by decide +kernel
theorem d_M_reduceAll_35 : decode c_M_reduceAll 35 = .ok (.iinc 3 1, 3) := by decide +kernel
theorem d_M_reduceAll_38 : decode c_M_reduceAll 38 = .ok (.goto (-24), 3) := by decide +kernel
theorem d_M_reduceAll_41 : decode c_M_reduceAll 41 = .ok (.iload_n 3, 1) := by decide +kernel
theorem d_M_reduceAll_42 : decode c_M_reduceAll 42 = .ok (.aload_n 0, 1) := by decide +kernel
theorem d_M_reduceAll_43 : decode c_M_reduceAll 43 = .ok (.getfield 108, 3) := by decide +kernel
theorem d_M_reduceAll_46 : decode c_M_reduceAll 46 = .ok (.if_icmp .ge 18, 3) := by decide +kernel
theorem d_M_reduceAll_49 : decode c_M_reduceAll 49 = .ok (.aload_n 0, 1) := by decide +kernel
theorem d_M_reduceAll_50 : decode c_M_reduceAll 50 = .ok (.iload_n 3, 1) := by decide +kernel
theorem d_M_reduceAll_51 : decode c_M_reduceAll 51 = .ok (.iload_n 1, 1) := by decide +kernel
theorem d_M_reduceAll_52 : decode c_M_reduceAll 52 = .ok (.invokevirtual 166, 3) := by decide +kernel
theorem d_M_reduceAll_55 : decode c_M_reduceAll 55 = .ok (.aload_n 0, 1) := by decide +kernel
theorem d_M_reduceAll_56 : decode c_M_reduceAll 56 = .ok (.iload_n 1, 1) := by decide +kernel
theorem d_M_reduceAll_57 : decode c_M_reduceAll 57 = .ok (.iload_n 2, 1) := by decide +kernel
theorem d_M_reduceAll_58 : decode c_M_reduceAll 58 = .ok (.invokevirtual 169, 3) := by decide +kernel
theorem d_M_reduceAll_61 : decode c_M_reduceAll 61 = .ok (.iinc 1 1, 3) := by decide +kernel
theorem d_M_reduceAll_64 : decode c_M_reduceAll 64 = .ok (.iinc 2 1, 3) := by decide +kernel
theorem d_M_reduceAll_67 : decode c_M_reduceAll 67 = .ok (.goto (-63), 3) := by decide +kernel
theorem d_M_reduceAll_70 : decode c_M_reduceAll 70 = .ok (.aload_n 0, 1) := by decide +kernel
theorem d_M_reduceAll_71 : decode c_M_reduceAll 71 = .ok (.iload_n 1, 1) := by decide +kernel
theorem d_M_reduceAll_72 : decode c_M_reduceAll 72 = .ok (.putfield 108, 3) := by decide +kernel
theorem d_M_reduceAll_75 : decode c_M_reduceAll 75 = .ok (.return_, 1) := by decide +kernel
theorem d_M_isZero_0 : decode c_M_isZero 0 = .ok (.aload_n 0, 1) := by decide +kernel
theorem d_M_isZero_1 : decode c_M_isZero 1 = .ok (.getfield 105, 3) := by decide +kernel
theorem d_M_isZero_4 : decode c_M_isZero 4 = .ok (.ifCond .ne 23, 3) := by decide +kernel
theorem d_M_isZero_7 : decode c_M_isZero 7 = .ok (.aload_n 0, 1) := by decide +kernel
theorem d_M_isZero_8 : decode c_M_isZero 8 = .ok (.getfield 79, 3) := by decide +kernel
theorem d_M_isZero_11 : decode c_M_isZero 11 = .ok (.iload_n 1, 1) := by decide +kernel
theorem d_M_isZero_12 : decode c_M_isZero 12 = .ok (.aaload, 1) := by decide +kernel
theorem d_M_isZero_13 : decode c_M_isZero 13 = .ok (.getfield 20, 3) := by decide +kernel
theorem d_M_isZero_16 : decode c_M_isZero 16 = .ok (.ifCond .ne 7, 3) := by decide +kernel
theorem d_M_isZero_19 : decode c_M_isZero 19 = .ok (.iconst 1, 1) := by decide +kernel
theorem d_M_isZero_20 : decode c_M_isZero 20 = .ok (.goto 21, 3) := by decide +kernel
theorem d_M_isZero_23 : decode c_M_isZero 23 = .ok (.iconst 0, 1) := by decide +kernel
theorem d_M_isZero_24 : decode c_M_isZero 24 = .ok (.goto 17, 3) := by decide +kernel
theorem d_M_isZero_27 : decode c_M_isZero 27 = .ok (.aload_n 0, 1) := by decide +kernel
theorem d_M_isZero_28 : decode c_M_isZero 28 = .ok (.getfield 86, 3) := by decide +kernel
theorem d_M_isZero_31 : decode c_M_isZero 31 = .ok (.iload_n 1, 1) := by decide +kernel
theorem d_M_isZero_32 : decode c_M_isZero 32 = .ok (.iaload, 1) := by decide +kernel
theorem d_M_isZero_33 : decode c_M_isZero 33 = .ok (.ifCond .ne 7, 3) := by decide +kernel
theorem d_M_isZero_36 : decode c_M_isZero 36 = .ok (.iconst 1, 1) := by decide +kernel
theorem d_M_isZero_37 : decode c_M_isZero 37 = .ok (.goto 4, 3) := by decide +kernel
theorem d_M_isZero_40 : decode c_M_isZero 40 = .ok (.iconst 0, 1) := by decide +kernel
theorem d_M_isZero_41 : decode c_M_isZero 41 = .ok (.ireturn, 1) := by decide +kernel
theorem d_M_swap_0 : decode c_M_swap 0 = .ok (.iconst 0, 1) := by decide +kernel
theorem d_M_swap_1 : decode c_M_swap 1 = .ok (.istore_n 3, 1) := by decide +kernel
theorem d_M_swap_2 : decode c_M_swap 2 = .ok (.iload_n 3, 1) := by decide +kernel
theorem d_M_swap_3 : decode c_M_swap 3 = .ok (.aload_n 0, 1) := by decide +kernel
theorem d_M_swap_4 : decode c_M_swap 4 = .ok (.getfield 111, 3) := by decide +kernel
theorem d_M_swap_7 : decode c_M_swap 7 = .ok (.if_icmp .ge 152, 3) := by decide +kernel
theorem d_M_swap_10 : decode c_M_swap 10 = .ok (.iload_n 1, 1) := by decide +kernel
theorem d_M_swap_11 : decode c_M_swap 11 = .ok (.iload_n 2, 1) := by decide +kernel
theorem d_M_swap_12 : decode c_M_swap 12 = .ok (.if_icmp .eq 147, 3) := by decide +kernel
theorem d_M_swap_15 : decode c_M_swap 15 = .ok (.bipush 12, 2) := by decide +kernel
theorem d_M_swap_17 : decode c_M_swap 17 = .ok (.iload_n 1, 1) := by decide +kernel
theorem d_M_swap_18 : decode c_M_swap 18 = .ok (.imul, 1) := by decide +kernel
theorem d_M_swap_19 : decode c_M_swap 19 = .ok (.iload_n 3, 1) := by decide +kernel
theorem d_M_swap_20 : decode c_M_swap 20 = .ok (.iadd, 1) := by decide +kernel
theorem d_M_swap_21 : decode c_M_swap 21 = .ok (.istore 4, 2) := by decide +kernel
theorem d_M_swap_23 : decode c_M_swap 23 = .ok (.bipush 12, 2) := by decide +kernel
theorem d_M_swap_25 : decode c_M_swap 25 = .ok (.iload_n 2, 1) := by decide +kernel
theorem d_M_swap_26 : decode c_M_swap 26 = .ok (.imul, 1) := by decide +kernel
theorem d_M_swap_27 : decode c_M_swap 27 = .ok (.iload_n 3, 1) := by decide +kernel
theorem d_M_swap_28 : decode c_M_swap 28 = .ok (.iadd, 1) := by decide +kernel
theorem d_M_swap_29 : decode c_M_swap 29 = .ok (.istore 5, 2) := by decide +kernel
theorem d_M_swap_31 : decode c_M_swap 31 = .ok (.aload_n 0, 1) := by decide +kernel
theorem d_M_swap_32 : decode c_M_swap 32 = .ok (.getfield 41, 3) := by decide +kernel
theorem d_M_swap_35 : decode c_M_swap 35 = .ok (.aload_n 0, 1) := by decide +kernel
theorem d_M_swap_36 : decode c_M_swap 36 = .ok (.getfield 79, 3) := by decide +kernel
theorem d_M_swap_39 : decode c_M_swap 39 = .ok (.iload 4, 2) := by decide +kernel
theorem d_M_swap_41 : decode c_M_swap 41 = .ok (.aaload, 1) := by decide +kernel
theorem d_M_swap_42 : decode c_M_swap 42 = .ok (.invokevirtual 7, 3) := by decide +kernel
theorem d_M_swap_45 : decode c_M_swap 45 = .ok (.aload_n 0, 1) := by decide +kernel
theorem d_M_swap_46 : decode c_M_swap 46 = .ok (.getfield 79, 3) := by decide +kernel
theorem d_M_swap_49 : decode c_M_swap 49 = .ok (.iload 4, 2) := by decide +kernel
theorem d_M_swap_51 : decode c_M_swap 51 = .ok (.aaload, 1) := by decide +kernel
theorem d_M_swap_52 : decode c_M_swap 52 = .ok (.aload_n 0, 1) := by decide +kernel
theorem d_M_swap_53 : decode c_M_swap 53 = .ok (.getfield 79, 3) := by decide +kernel
theorem d_M_swap_56 : decode c_M_swap 56 = .ok (.iload 5, 2) := by decide +kernel
theorem d_M_swap_58 : decode c_M_swap 58 = .ok (.aaload, 1) := by decide +kernel
theorem d_M_swap_59 : decode c_M_swap 59 = .ok (.invokevirtual 7, 3) := by decide +kernel
theorem d_M_swap_62 : decode c_M_swap 62 = .ok (.aload_n 0, 1) := by decide +kernel
theorem d_M_swap_63 : decode c_M_swap 63 = .ok (.getfield 79, 3) := by decide +kernel
theorem d_M_swap_66 : decode c_M_swap 66 = .ok (.iload 5, 2) := by decide +kernel
theorem d_M_swap_68 : decode c_M_swap 68 = .ok (.aaload, 1) := by decide +kernel
theorem d_M_swap_69 : decode c_M_swap 69 = .ok (.aload_n 0, 1) := by decide +kernel
theorem d_M_swap_70 : decode c_M_swap 70 = .ok (.getfield 41, 3) := by decide +kernel
theorem d_M_swap_73 : decode c_M_swap 73 = .ok (.invokevirtual 7, 3) := by decide +kernel
theorem d_M_swap_76 : decode c_M_swap 76 = .ok (.aload_n 0, 1) := by decide +kernel
theorem d_M_swap_77 : decode c_M_swap 77 = .ok (.getfield 41, 3) := by decide +kernel
theorem d_M_swap_80 : decode c_M_swap 80 = .ok (.aload_n 0, 1) := by decide +kernel
theorem d_M_swap_81 : decode c_M_swap 81 = .ok (.getfield 83, 3) := by decide +kernel
theorem d_M_swap_84 : decode c_M_swap 84 = .ok (.iload 4, 2) := by decide +kernel
theorem d_M_swap_86 : decode c_M_swap 86 = .ok (.aaload, 1) := by decide +kernel
theorem d_M_swap_87 : decode c_M_swap 87 = .ok (.invokevirtual 7, 3) := by decide +kernel
theorem d_M_swap_90 : decode c_M_swap 90 = .ok (.aload_n 0, 1) := by decide +kernel
theorem d_M_swap_91 : decode c_M_swap 91 = .ok (.getfield 83, 3) := by decide +kernel
theorem d_M_swap_94 : decode c_M_swap 94 = .ok (.iload 4, 2) := by decide +kernel
theorem d_M_swap_96 : decode c_M_swap 96 = .ok (.aaload, 1) := by decide +kernel
theorem d_M_swap_97 : decode c_M_swap 97 = .ok (.aload_n 0, 1) := by decide +kernel
theorem d_M_swap_98 : decode c_M_swap 98 = .ok (.getfield 83, 3) := by decide +kernel
theorem d_M_swap_101 : decode c_M_swap 101 = .ok (.iload 5, 2) := by decide +kernel
theorem d_M_swap_103 : decode c_M_swap 103 = .ok (.aaload, 1) := by decide +kernel
theorem d_M_swap_104 : decode c_M_swap 104 = .ok (.invokevirtual 7, 3) := by decide +kernel
theorem d_M_swap_107 : decode c_M_swap 107 = .ok (.aload_n 0, 1) := by decide +kernel
theorem d_M_swap_108 : decode c_M_swap 108 = .ok (.getfield 83, 3) := by decide +kernel
theorem d_M_swap_111 : decode c_M_swap 111 = .ok (.iload 5, 2) := by decide +kernel
theorem d_M_swap_113 : decode c_M_swap 113 = .ok (.aaload, 1) := by decide +kernel
theorem d_M_swap_114 : decode c_M_swap 114 = .ok (.aload_n 0, 1) := by decide +kernel
theorem d_M_swap_115 : decode c_M_swap 115 = .ok (.getfield 41, 3) := by decide +kernel
theorem d_M_swap_118 : decode c_M_swap 118 = .ok (.invokevirtual 7, 3) := by decide +kernel
theorem d_M_swap_121 : decode c_M_swap 121 = .ok (.aload_n 0, 1) := by decide +kernel
theorem d_M_swap_122 : decode c_M_swap 122 = .ok (.getfield 86, 3) := by decide +kernel
theorem d_M_swap_125 : decode c_M_swap 125 = .ok (.iload 4, 2) := by decide +kernel
theorem d_M_swap_127 : decode c_M_swap 127 = .ok (.iaload, 1) := by decide +kernel
theorem d_M_swap_128 : decode c_M_swap 128 = .ok (.istore 6, 2) := by decide +kernel
theorem d_M_swap_130 : decode c_M_swap 130 = .ok (.aload_n 0, 1) := by decide +kernel
theorem d_M_swap_131 : decode c_M_swap 131 = .ok (.getfield 86, 3) := by decide +kernel
theorem d_M_swap_134 : decode c_M_swap 134 = .ok (.iload 4, 2) := by decide +kernel
theorem d_M_swap_136 : decode c_M_swap 136 = .ok (.aload_n 0, 1) := by decide +kernel
theorem d_M_swap_137 : decode c_M_swap 137 = .ok (.getfield 86, 3) := by decide +kernel
theorem d_M_swap_140 : decode c_M_swap 140 = .ok (.iload 5, 2) := by decide +kernel
theorem d_M_swap_142 : decode c_M_swap 142 = .ok (.iaload, 1) := by decide +kernel
theorem d_M_swap_143 : decode c_M_swap 143 = .ok (.iastore, 1) := by decide +kernel
theorem d_M_swap_144 : decode c_M_swap 144 = .ok (.aload_n 0, 1) := by decide +kernel
theorem d_M_swap_145 : decode c_M_swap 145 = .ok (.getfield 86, 3) := by decide +kernel
theorem d_M_swap_148 : decode c_M_swap 148 = .ok (.iload 5, 2) := by decide +kernel
theorem d_M_swap_150 : decode c_M_swap 150 = .ok (.iload 6, 2) := by decide +kernel
theorem d_M_swap_152 : decode c_M_swap 152 = .ok (.iastore, 1) := by decide +kernel
theorem d_M_swap_153 : decode c_M_swap 153 = .ok (.iinc 3 1, 3) := by decide +kernel
theorem d_M_swap_156 : decode c_M_swap 156 = .ok (.goto (-154), 3) := by decide +kernel
theorem d_M_swap_159 : decode c_M_swap 159 = .ok (.return_, 1) := by decide +kernel
theorem d_M_give_0 : decode c_M_give 0 = .ok (.aload_n 0, 1) := by decide +kernel
theorem d_M_give_1 : decode c_M_give 1 = .ok (.iload_n 1, 1) := by decide +kernel
theorem d_M_give_2 : decode c_M_give 2 = .ok (.iload_n 2, 1) := by decide +kernel
theorem d_M_give_3 : decode c_M_give 3 = .ok (.invokevirtual 156, 3) := by decide +kernel
theorem d_M_give_6 : decode c_M_give 6 = .ok (.iconst 0, 1) := by decide +kernel
theorem d_M_give_7 : decode c_M_give 7 = .ok (.istore_n 3, 1) := by decide +kernel
theorem d_M_give_8 : decode c_M_give 8 = .ok (.iload_n 3, 1) := by decide +kernel
theorem d_M_give_9 : decode c_M_give 9 = .ok (.aload_n 0, 1) := by decide +kernel
theorem d_M_give_10 : decode c_M_give 10 = .ok (.getfield 108, 3) := by decide +kernel
theorem d_M_give_13 : decode c_M_give 13 = .ok (.if_icmp .ge 34, 3) := by decide +kernel
theorem d_M_give_16 : decode c_M_give 16 = .ok (.iload_n 3, 1) := by decide +kernel
theorem d_M_give_17 : decode c_M_give 17 = .ok (.iload_n 1, 1) := by decide +kernel
theorem d_M_give_18 : decode c_M_give 18 = .ok (.if_icmp .eq 23, 3) := by decide +kernel
theorem d_M_give_21 : decode c_M_give 21 = .ok (.aload_n 0, 1) := by decide +kernel
theorem d_M_give_22 : decode c_M_give 22 = .ok (.bipush 12, 2) := by decide +kernel
theorem d_M_give_24 : decode c_M_give 24 = .ok (.iload_n 3, 1) := by decide +kernel
theorem d_M_give_25 : decode c_M_give 25 = .ok (.imul, 1) := by decide +kernel
theorem d_M_give_26 : decode c_M_give 26 = .ok (.iload_n 2, 1) := by decide +kernel
theorem d_M_give_27 : decode c_M_give 27 = .ok (.iadd, 1) := by decide +kernel
theorem d_M_give_28 : decode c_M_give 28 = .ok (.invokevirtual 160, 3) := by decide +kernel
theorem d_M_give_31 : decode c_M_give 31 = .ok (.ifCond .ne 10, 3) := by decide +kernel
theorem d_M_give_34 : decode c_M_give 34 = .ok (.aload_n 0, 1) := by decide +kernel
theorem d_M_give_35 : decode c_M_give 35 = .ok (.iload_n 3, 1) := by decide +kernel
theorem d_M_give_36 : decode c_M_give 36 = .ok (.iload_n 1, 1) := by decide +kernel
theorem d_M_give_37 : decode c_M_give 37 = .ok (.iload_n 2, 1) := by decide +kernel
theorem d_M_give_38 : decode c_M_give 38 = .ok (.invokevirtual 163, 3) := by decide +kernel
theorem d_M_give_41 : decode c_M_give 41 = .ok (.iinc 3 1, 3) := by decide +kernel
theorem d_M_give_44 : decode c_M_give 44 = .ok (.goto (-36), 3) := by decide +kernel
theorem d_M_give_47 : decode c_M_give 47 = .ok (.aload_n 0, 1) := by decide +kernel
theorem d_M_give_48 : decode c_M_give 48 = .ok (.getfield 89, 3) := by decide +kernel
theorem d_M_give_51 : decode c_M_give 51 = .ok (.iload_n 1, 1) := by decide +kernel
theorem d_M_give_52 : decode c_M_give 52 = .ok (.iload_n 2, 1) := by decide +kernel
theorem d_M_give_53 : decode c_M_give 53 = .ok (.iastore, 1) := by decide +kernel
theorem d_M_give_54 : decode c_M_give 54 = .ok (.return_, 1) := by decide +kernel
theorem d_M_divide_0 : decode c_M_divide 0 = .ok (.bipush 12, 2) := by decide +kernel
theorem d_M_divide_2 : decode c_M_divide 2 = .ok (.iload_n 1, 1) := by decide +kernel
theorem d_M_divide_3 : decode c_M_divide 3 = .ok (.imul, 1) := by decide +kernel
theorem d_M_divide_4 : decode c_M_divide 4 = .ok (.iload_n 2, 1) := by decide +kernel
theorem d_M_divide_5 : decode c_M_divide 5 = .ok (.iadd, 1) := by decide +kernel
theorem d_M_divide_6 : decode c_M_divide 6 = .ok (.istore_n 3, 1) := by decide +kernel
theorem d_M_divide_7 : decode c_M_divide 7 = .ok (.aload_n 0, 1) := by decide +kernel
theorem d_M_divide_8 : decode c_M_divide 8 = .ok (.getfield 105, 3) := by decide +kernel
theorem d_M_divide_11 : decode c_M_divide 11 = .ok (.ifCond .le 66, 3) := by decide +kernel
theorem d_M_divide_14 : decode c_M_divide 14 = .ok (.aload_n 0, 1) := by decide +kernel
theorem d_M_divide_15 : decode c_M_divide 15 = .ok (.aload_n 0, 1) := by decide +kernel
theorem d_M_divide_16 : decode c_M_divide 16 = .ok (.getfield 86, 3) := by decide +kernel
theorem d_M_divide_19 : decode c_M_divide 19 = .ok (.iload_n 3, 1) := by decide +kernel
theorem d_M_divide_20 : decode c_M_divide 20 = .ok (.iaload, 1) := by decide +kernel
theorem d_M_divide_21 : decode c_M_divide 21 = .ok (.invokevirtual 142, 3) := by decide +kernel
theorem d_M_divide_24 : decode c_M_divide 24 = .ok (.istore 4, 2) := by decide +kernel
theorem d_M_divide_26 : decode c_M_divide 26 = .ok (.iconst 0, 1) := by decide +kernel
theorem d_M_divide_27 : decode c_M_divide 27 = .ok (.istore 5, 2) := by decide +kernel
theorem d_M_divide_29 : decode c_M_divide 29 = .ok (.iload 5, 2) := by decide +kernel
theorem d_M_divide_31 : decode c_M_divide 31 = .ok (.aload_n 0, 1) := by decide +kernel
theorem d_M_divide_32 : decode c_M_divide 32 = .ok (.getfield 111, 3) := by decide +kernel
theorem d_M_divide_35 : decode c_M_divide 35 = .ok (.if_icmp .ge 41, 3) := by decide +kernel
theorem d_M_divide_38 : decode c_M_divide 38 = .ok (.aload_n 0, 1) := by decide +kernel
theorem d_M_divide_39 : decode c_M_divide 39 = .ok (.getfield 86, 3) := by decide +kernel
theorem d_M_divide_42 : decode c_M_divide 42 = .ok (.bipush 12, 2) := by decide +kernel
theorem d_M_divide_44 : decode c_M_divide 44 = .ok (.iload_n 1, 1) := by decide +kernel
theorem d_M_divide_45 : decode c_M_divide 45 = .ok (.imul, 1) := by decide +kernel
theorem d_M_divide_46 : decode c_M_divide 46 = .ok (.iload 5, 2) := by decide +kernel
theorem d_M_divide_48 : decode c_M_divide 48 = .ok (.iadd, 1) := by decide +kernel
theorem d_M_divide_49 : decode c_M_divide 49 = .ok (.aload_n 0, 1) := by decide +kernel
theorem d_M_divide_50 : decode c_M_divide 50 = .ok (.getfield 86, 3) := by decide +kernel
theorem d_M_divide_53 : decode c_M_divide 53 = .ok (.bipush 12, 2) := by decide +kernel
theorem d_M_divide_55 : decode c_M_divide 55 = .ok (.iload_n 1, 1) := by decide +kernel
theorem d_M_divide_56 : decode c_M_divide 56 = .ok (.imul, 1) := by decide +kernel
theorem d_M_divide_57 : decode c_M_divide 57 = .ok (.iload 5, 2) := by decide +kernel
theorem d_M_divide_59 : decode c_M_divide 59 = .ok (.iadd, 1) := by decide +kernel
theorem d_M_divide_60 : decode c_M_divide 60 = .ok (.iaload, 1) := by decide +kernel
theorem d_M_divide_61 : decode c_M_divide 61 = .ok (.iload 4, 2) := by decide +kernel
theorem d_M_divide_63 : decode c_M_divide 63 = .ok (.imul, 1) := by decide +kernel
theorem d_M_divide_64 : decode c_M_divide 64 = .ok (.aload_n 0, 1) := by decide +kernel
theorem d_M_divide_65 : decode c_M_divide 65 = .ok (.getfield 105, 3) := by decide +kernel
theorem d_M_divide_68 : decode c_M_divide 68 = .ok (.irem, 1) := by decide +kernel
theorem d_M_divide_69 : decode c_M_divide 69 = .ok (.iastore, 1) := by decide +kernel
theorem d_M_divide_70 : decode c_M_divide 70 = .ok (.iinc 5 1, 3) := by decide +kernel
theorem d_M_divide_73 : decode c_M_divide 73 = .ok (.goto (-44), 3) := by decide +kernel
theorem d_M_divide_76 : decode c_M_divide 76 = .ok (.return_, 1) := by decide +kernel
theorem d_M_divide_77 : decode c_M_divide 77 = .ok (.aload_n 0, 1) := by decide +kernel
theorem d_M_divide_78 : decode c_M_divide 78 = .ok (.getfield 92, 3) := by decide +kernel
theorem d_M_divide_81 : decode c_M_divide 81 = .ok (.aload_n 0, 1) := by decide +kernel
theorem d_M_divide_82 : decode c_M_divide 82 = .ok (.getfield 79, 3) := by decide +kernel
theorem d_M_divide_85 : decode c_M_divide 85 = .ok (.iload_n 3, 1) := by decide +kernel
theorem d_M_divide_86 : decode c_M_divide 86 = .ok (.aaload, 1) := by decide +kernel
theorem d_M_divide_87 : decode c_M_divide 87 = .ok (.invokevirtual 7, 3) := by decide +kernel
theorem d_M_divide_90 : decode c_M_divide 90 = .ok (.aload_n 0, 1) := by decide +kernel
theorem d_M_divide_91 : decode c_M_divide 91 = .ok (.getfield 95, 3) := by decide +kernel
theorem d_M_divide_94 : decode c_M_divide 94 = .ok (.aload_n 0, 1) := by decide +kernel
theorem d_M_divide_95 : decode c_M_divide 95 = .ok (.getfield 83, 3) := by decide +kernel
theorem d_M_divide_98 : decode c_M_divide 98 = .ok (.iload_n 3, 1) := by decide +kernel
theorem d_M_divide_99 : decode c_M_divide 99 = .ok (.aaload, 1) := by decide +kernel
theorem d_M_divide_100 : decode c_M_divide 100 = .ok (.invokevirtual 7, 3) := by decide +kernel
theorem d_M_divide_103 : decode c_M_divide 103 = .ok (.iconst 0, 1) := by decide +kernel
theorem d_M_divide_104 : decode c_M_divide 104 = .ok (.istore 4, 2) := by decide +kernel
theorem d_M_divide_106 : decode c_M_divide 106 = .ok (.iload 4, 2) := by decide +kernel
theorem d_M_divide_108 : decode c_M_divide 108 = .ok (.aload_n 0, 1) := by decide +kernel
theorem d_M_divide_109 : decode c_M_divide 109 = .ok (.getfield 111, 3) := by decide +kernel
theorem d_M_divide_112 : decode c_M_divide 112 = .ok (.if_icmp .ge 88, 3) := by decide +kernel
theorem d_M_divide_115 : decode c_M_divide 115 = .ok (.bipush 12, 2) := by decide +kernel
theorem d_M_divide_117 : decode c_M_divide 117 = .ok (.iload_n 1, 1) := by decide +kernel
theorem d_M_divide_118 : decode c_M_divide 118 = .ok (.imul, 1) := by decide +kernel
theorem d_M_divide_119 : decode c_M_divide 119 = .ok (.iload 4, 2) := by decide +kernel
theorem d_M_divide_121 : decode c_M_divide 121 = .ok (.iadd, 1) := by decide +kernel
theorem d_M_divide_122 : decode c_M_divide 122 = .ok (.istore 5, 2) := by decide +kernel
theorem d_M_divide_124 : decode c_M_divide 124 = .ok (.aload_n 0, 1) := by decide +kernel
theorem d_M_divide_125 : decode c_M_divide 125 = .ok (.getfield 44, 3) := by decide +kernel
theorem d_M_divide_128 : decode c_M_divide 128 = .ok (.aload_n 0, 1) := by decide +kernel
theorem d_M_divide_129 : decode c_M_divide 129 = .ok (.getfield 79, 3) := by decide +kernel
theorem d_M_divide_132 : decode c_M_divide 132 = .ok (.iload 5, 2) := by decide +kernel
theorem d_M_divide_134 : decode c_M_divide 134 = .ok (.aaload, 1) := by decide +kernel
theorem d_M_divide_135 : decode c_M_divide 135 = .ok (.aload_n 0, 1) := by decide +kernel
theorem d_M_divide_136 : decode c_M_divide 136 = .ok (.getfield 95, 3) := by decide +kernel
theorem d_M_divide_139 : decode c_M_divide 139 = .ok (.invokevirtual 146, 3) := by decide +kernel
theorem d_M_divide_142 : decode c_M_divide 142 = .ok (.aload_n 0, 1) := by decide +kernel
theorem d_M_divide_143 : decode c_M_divide 143 = .ok (.getfield 47, 3) := by decide +kernel
theorem d_M_divide_146 : decode c_M_divide 146 = .ok (.aload_n 0, 1) := by decide +kernel
theorem d_M_divide_147 : decode c_M_divide 147 = .ok (.getfield 83, 3) := by decide +kernel
theorem d_M_divide_150 : decode c_M_divide 150 = .ok (.iload 5, 2) := by decide +kernel
theorem d_M_divide_152 : decode c_M_divide 152 = .ok (.aaload, 1) := by decide +kernel
theorem d_M_divide_153 : decode c_M_divide 153 = .ok (.aload_n 0, 1) := by decide +kernel
theorem d_M_divide_154 : decode c_M_divide 154 = .ok (.getfield 92, 3) := by decide +kernel
theorem d_M_divide_157 : decode c_M_divide 157 = .ok (.invokevirtual 146, 3) := by decide +kernel
theorem d_M_divide_160 : decode c_M_divide 160 = .ok (.aload_n 0, 1) := by decide +kernel
theorem d_M_divide_161 : decode c_M_divide 161 = .ok (.getfield 79, 3) := by decide +kernel
theorem d_M_divide_164 : decode c_M_divide 164 = .ok (.iload 5, 2) := by decide +kernel
theorem d_M_divide_166 : decode c_M_divide 166 = .ok (.aaload, 1) := by decide +kernel
theorem d_M_divide_167 : decode c_M_divide 167 = .ok (.aload_n 0, 1) := by decide +kernel
theorem d_M_divide_168 : decode c_M_divide 168 = .ok (.getfield 44, 3) := by decide +kernel
theorem d_M_divide_171 : decode c_M_divide 171 = .ok (.invokevirtual 7, 3) := by decide +kernel
theorem d_M_divide_174 : decode c_M_divide 174 = .ok (.aload_n 0, 1) := by decide +kernel
theorem d_M_divide_175 : decode c_M_divide 175 = .ok (.getfield 83, 3) := by decide +kernel
theorem d_M_divide_178 : decode c_M_divide 178 = .ok (.iload 5, 2) := by decide +kernel
theorem d_M_divide_180 : decode c_M_divide 180 = .ok (.aaload, 1) := by decide +kernel
theorem d_M_divide_181 : decode c_M_divide 181 = .ok (.aload_n 0, 1) := by decide +kernel
theorem d_M_divide_182 : decode c_M_divide 182 = .ok (.getfield 47, 3) := by decide +kernel
theorem d_M_divide_185 : decode c_M_divide 185 = .ok (.invokevirtual 7, 3) := by decide +kernel
theorem d_M_divide_188 : decode c_M_divide 188 = .ok (.aload_n 0, 1) := by decide +kernel
theorem d_M_divide_189 : decode c_M_divide 189 = .ok (.iload 5, 2) := by decide +kernel
theorem d_M_divide_191 : decode c_M_divide 191 = .ok (.invokevirtual 149, 3) := by decide +kernel
theorem d_M_divide_194 : decode c_M_divide 194 = .ok (.iinc 4 1, 3) := by decide +kernel
theorem d_M_divide_197 : decode c_M_divide 197 = .ok (.goto (-91), 3) := by decide +kernel
theorem d_M_divide_200 : decode c_M_divide 200 = .ok (.return_, 1) := by decide +kernel
theorem d_M_inverse_0 : decode c_M_inverse 0 = .ok (.iconst 1, 1) := by decide +kernel
theorem d_M_inverse_1 : decode c_M_inverse 1 = .ok (.istore_n 2, 1) := by decide +kernel
theorem d_M_inverse_2 : decode c_M_inverse 2 = .ok (.iload_n 2, 1) := by decide +kernel
theorem d_M_inverse_3 : decode c_M_inverse 3 = .ok (.iload_n 1, 1) := by decide +kernel
theorem d_M_inverse_4 : decode c_M_inverse 4 = .ok (.imul, 1) := by decide +kernel
theorem d_M_inverse_5 : decode c_M_inverse 5 = .ok (.aload_n 0, 1) := by decide +kernel
theorem d_M_inverse_6 : decode c_M_inverse 6 = .ok (.getfield 105, 3) := by decide +kernel
theorem d_M_inverse_9 : decode c_M_inverse 9 = .ok (.irem, 1) := by decide +kernel
theorem d_M_inverse_10 : decode c_M_inverse 10 = .ok (.iconst 1, 1) := by decide +kernel
theorem d_M_inverse_11 : decode c_M_inverse 11 = .ok (.if_icmp .eq 9, 3) := by decide +kernel
theorem d_M_inverse_14 : decode c_M_inverse 14 = .ok (.iinc 2 1, 3) := by decide +kernel
theorem d_M_inverse_17 : decode c_M_inverse 17 = .ok (.goto (-15), 3) := by decide +kernel
theorem d_M_inverse_20 : decode c_M_inverse 20 = .ok (.iload_n 2, 1) := by decide +kernel
theorem d_M_inverse_21 : decode c_M_inverse 21 = .ok (.ireturn, 1) := by decide +kernel
theorem d_M_settle_0 : decode c_M_settle 0 = .ok (.aload_n 0, 1) := by decide +kernel
theorem d_M_settle_1 : decode c_M_settle 1 = .ok (.aload_n 0, 1) := by decide +kernel
theorem d_M_settle_2 : decode c_M_settle 2 = .ok (.getfield 79, 3) := by decide +kernel
theorem d_M_settle_5 : decode c_M_settle 5 = .ok (.iload_n 1, 1) := by decide +kernel
theorem d_M_settle_6 : decode c_M_settle 6 = .ok (.aaload, 1) := by decide +kernel
theorem d_M_settle_7 : decode c_M_settle 7 = .ok (.aload_n 0, 1) := by decide +kernel
theorem d_M_settle_8 : decode c_M_settle 8 = .ok (.getfield 83, 3) := by decide +kernel
theorem d_M_settle_11 : decode c_M_settle 11 = .ok (.iload_n 1, 1) := by decide +kernel
theorem d_M_settle_12 : decode c_M_settle 12 = .ok (.aaload, 1) := by decide +kernel
theorem d_M_settle_13 : decode c_M_settle 13 = .ok (.invokevirtual 135, 3) := by decide +kernel
theorem d_M_settle_16 : decode c_M_settle 16 = .ok (.aload_n 0, 1) := by decide +kernel
theorem d_M_settle_17 : decode c_M_settle 17 = .ok (.getfield 44, 3) := by decide +kernel
theorem d_M_settle_20 : decode c_M_settle 20 = .ok (.aload_n 0, 1) := by decide +kernel
theorem d_M_settle_21 : decode c_M_settle 21 = .ok (.getfield 1, 3) := by decide +kernel
theorem d_M_settle_24 : decode c_M_settle 24 = .ok (.invokevirtual 7, 3) := by decide +kernel
theorem d_M_settle_27 : decode c_M_settle 27 = .ok (.aload_n 0, 1) := by decide +kernel
theorem d_M_settle_28 : decode c_M_settle 28 = .ok (.getfield 47, 3) := by decide +kernel
theorem d_M_settle_31 : decode c_M_settle 31 = .ok (.aload_n 0, 1) := by decide +kernel
theorem d_M_settle_32 : decode c_M_settle 32 = .ok (.getfield 79, 3) := by decide +kernel
theorem d_M_settle_35 : decode c_M_settle 35 = .ok (.iload_n 1, 1) := by decide +kernel
theorem d_M_settle_36 : decode c_M_settle 36 = .ok (.aaload, 1) := by decide +kernel
theorem d_M_settle_37 : decode c_M_settle 37 = .ok (.aload_n 0, 1) := by decide +kernel
theorem d_M_settle_38 : decode c_M_settle 38 = .ok (.getfield 44, 3) := by decide +kernel
theorem d_M_settle_41 : decode c_M_settle 41 = .ok (.aload_n 0, 1) := by decide +kernel
theorem d_M_settle_42 : decode c_M_settle 42 = .ok (.getfield 27, 3) := by decide +kernel
theorem d_M_settle_45 : decode c_M_settle 45 = .ok (.invokevirtual 30, 3) := by decide +kernel
theorem d_M_settle_48 : decode c_M_settle 48 = .ok (.aload_n 0, 1) := by decide +kernel
theorem d_M_settle_49 : decode c_M_settle 49 = .ok (.getfield 50, 3) := by decide +kernel
theorem d_M_settle_52 : decode c_M_settle 52 = .ok (.aload_n 0, 1) := by decide +kernel
theorem d_M_settle_53 : decode c_M_settle 53 = .ok (.getfield 83, 3) := by decide +kernel
theorem d_M_settle_56 : decode c_M_settle 56 = .ok (.iload_n 1, 1) := by decide +kernel
theorem d_M_settle_57 : decode c_M_settle 57 = .ok (.aaload, 1) := by decide +kernel
theorem d_M_settle_58 : decode c_M_settle 58 = .ok (.aload_n 0, 1) := by decide +kernel
theorem d_M_settle_59 : decode c_M_settle 59 = .ok (.getfield 44, 3) := by decide +kernel
theorem d_M_settle_62 : decode c_M_settle 62 = .ok (.aload_n 0, 1) := by decide +kernel
theorem d_M_settle_63 : decode c_M_settle 63 = .ok (.getfield 27, 3) := by decide +kernel
theorem d_M_settle_66 : decode c_M_settle 66 = .ok (.invokevirtual 30, 3) := by decide +kernel
theorem d_M_settle_69 : decode c_M_settle 69 = .ok (.aload_n 0, 1) := by decide +kernel
theorem d_M_settle_70 : decode c_M_settle 70 = .ok (.getfield 50, 3) := by decide +kernel
theorem d_M_settle_73 : decode c_M_settle 73 = .ok (.getfield 13, 3) := by decide +kernel
theorem d_M_settle_76 : decode c_M_settle 76 = .ok (.ifCond .eq 17, 3) := by decide +kernel
theorem d_M_settle_79 : decode c_M_settle 79 = .ok (.aload_n 0, 1) := by decide +kernel
theorem d_M_settle_80 : decode c_M_settle 80 = .ok (.getfield 50, 3) := by decide +kernel
theorem d_M_settle_83 : decode c_M_settle 83 = .ok (.invokevirtual 139, 3) := by decide +kernel
theorem d_M_settle_86 : decode c_M_settle 86 = .ok (.aload_n 0, 1) := by decide +kernel
theorem d_M_settle_87 : decode c_M_settle 87 = .ok (.getfield 47, 3) := by decide +kernel
theorem d_M_settle_90 : decode c_M_settle 90 = .ok (.invokevirtual 139, 3) := by decide +kernel
theorem d_M_settle_93 : decode c_M_settle 93 = .ok (.aload_n 0, 1) := by decide +kernel
theorem d_M_settle_94 : decode c_M_settle 94 = .ok (.getfield 79, 3) := by decide +kernel
theorem d_M_settle_97 : decode c_M_settle 97 = .ok (.iload_n 1, 1) := by decide +kernel
theorem d_M_settle_98 : decode c_M_settle 98 = .ok (.aaload, 1) := by decide +kernel
theorem d_M_settle_99 : decode c_M_settle 99 = .ok (.aload_n 0, 1) := by decide +kernel
theorem d_M_settle_100 : decode c_M_settle 100 = .ok (.getfield 47, 3) := by decide +kernel
theorem d_M_settle_103 : decode c_M_settle 103 = .ok (.invokevirtual 7, 3) := by decide +kernel
theorem d_M_settle_106 : decode c_M_settle 106 = .ok (.aload_n 0, 1) := by decide +kernel
theorem d_M_settle_107 : decode c_M_settle 107 = .ok (.getfield 83, 3) := by decide +kernel
theorem d_M_settle_110 : decode c_M_settle 110 = .ok (.iload_n 1, 1) := by decide +kernel
theorem d_M_settle_111 : decode c_M_settle 111 = .ok (.aaload, 1) := by decide +kernel
theorem d_M_settle_112 : decode c_M_settle 112 = .ok (.aload_n 0, 1) := by decide +kernel
theorem d_M_settle_113 : decode c_M_settle 113 = .ok (.getfield 50, 3) := by decide +kernel
theorem d_M_settle_116 : decode c_M_settle 116 = .ok (.invokevirtual 7, 3) := by decide +kernel
theorem d_M_settle_119 : decode c_M_settle 119 = .ok (.return_, 1) := by decide +kernel
theorem d_M_divisor_0 : decode c_M_divisor 0 = .ok (.aload_n 0, 1) := by decide +kernel
theorem d_M_divisor_1 : decode c_M_divisor 1 = .ok (.getfield 1, 3) := by decide +kernel
theorem d_M_divisor_4 : decode c_M_divisor 4 = .ok (.aload_n 1, 1) := by decide +kernel
theorem d_M_divisor_5 : decode c_M_divisor 5 = .ok (.invokevirtual 7, 3) := by decide +kernel
theorem d_M_divisor_8 : decode c_M_divisor 8 = .ok (.aload_n 0, 1) := by decide +kernel
theorem d_M_divisor_9 : decode c_M_divisor 9 = .ok (.getfield 1, 3) := by decide +kernel
theorem d_M_divisor_12 : decode c_M_divisor 12 = .ok (.iconst 0, 1) := by decide +kernel
theorem d_M_divisor_13 : decode c_M_divisor 13 = .ok (.putfield 13, 3) := by decide +kernel
theorem d_M_divisor_16 : decode c_M_divisor 16 = .ok (.aload_n 0, 1) := by decide +kernel
theorem d_M_divisor_17 : decode c_M_divisor 17 = .ok (.getfield 17, 3) := by decide +kernel
theorem d_M_divisor_20 : decode c_M_divisor 20 = .ok (.aload_n 2, 1) := by decide +kernel
theorem d_M_divisor_21 : decode c_M_divisor 21 = .ok (.invokevirtual 7, 3) := by decide +kernel
theorem d_M_divisor_24 : decode c_M_divisor 24 = .ok (.aload_n 0, 1) := by decide +kernel
theorem d_M_divisor_25 : decode c_M_divisor 25 = .ok (.getfield 17, 3) := by decide +kernel
theorem d_M_divisor_28 : decode c_M_divisor 28 = .ok (.iconst 0, 1) := by decide +kernel
theorem d_M_divisor_29 : decode c_M_divisor 29 = .ok (.putfield 13, 3) := by decide +kernel
theorem d_M_divisor_32 : decode c_M_divisor 32 = .ok (.aload_n 0, 1) := by decide +kernel
theorem d_M_divisor_33 : decode c_M_divisor 33 = .ok (.getfield 17, 3) := by decide +kernel
theorem d_M_divisor_36 : decode c_M_divisor 36 = .ok (.getfield 20, 3) := by decide +kernel
theorem d_M_divisor_39 : decode c_M_divisor 39 = .ok (.ifCond .le 47, 3) := by decide +kernel
theorem d_M_divisor_42 : decode c_M_divisor 42 = .ok (.aload_n 0, 1) := by decide +kernel
theorem d_M_divisor_43 : decode c_M_divisor 43 = .ok (.getfield 24, 3) := by decide +kernel
theorem d_M_divisor_46 : decode c_M_divisor 46 = .ok (.aload_n 0, 1) := by decide +kernel
theorem d_M_divisor_47 : decode c_M_divisor 47 = .ok (.getfield 1, 3) := by decide +kernel
theorem d_M_divisor_50 : decode c_M_divisor 50 = .ok (.aload_n 0, 1) := by decide +kernel
theorem d_M_divisor_51 : decode c_M_divisor 51 = .ok (.getfield 17, 3) := by decide +kernel
theorem d_M_divisor_54 : decode c_M_divisor 54 = .ok (.aload_n 0, 1) := by decide +kernel
theorem d_M_divisor_55 : decode c_M_divisor 55 = .ok (.getfield 27, 3) := by decide +kernel
theorem d_M_divisor_58 : decode c_M_divisor 58 = .ok (.invokevirtual 30, 3) := by decide +kernel
theorem d_M_divisor_61 : decode c_M_divisor 61 = .ok (.aload_n 0, 1) := by decide +kernel
theorem d_M_divisor_62 : decode c_M_divisor 62 = .ok (.getfield 1, 3) := by decide +kernel
theorem d_M_divisor_65 : decode c_M_divisor 65 = .ok (.aload_n 0, 1) := by decide +kernel
theorem d_M_divisor_66 : decode c_M_divisor 66 = .ok (.getfield 17, 3) := by decide +kernel
theorem d_M_divisor_69 : decode c_M_divisor 69 = .ok (.invokevirtual 7, 3) := by decide +kernel
theorem d_M_divisor_72 : decode c_M_divisor 72 = .ok (.aload_n 0, 1) := by decide +kernel
theorem d_M_divisor_73 : decode c_M_divisor 73 = .ok (.getfield 17, 3) := by decide +kernel
theorem d_M_divisor_76 : decode c_M_divisor 76 = .ok (.aload_n 0, 1) := by decide +kernel
theorem d_M_divisor_77 : decode c_M_divisor 77 = .ok (.getfield 27, 3) := by decide +kernel
theorem d_M_divisor_80 : decode c_M_divisor 80 = .ok (.invokevirtual 7, 3) := by decide +kernel
theorem d_M_divisor_83 : decode c_M_divisor 83 = .ok (.goto (-51), 3) := by decide +kernel
theorem d_M_divisor_86 : decode c_M_divisor 86 = .ok (.return_, 1) := by decide +kernel
theorem d_M_take_0 : decode c_M_take 0 = .ok (.bipush 12, 2) := by decide +kernel
theorem d_M_take_2 : decode c_M_take 2 = .ok (.iload_n 1, 1) := by decide +kernel
theorem d_M_take_3 : decode c_M_take 3 = .ok (.imul, 1) := by decide +kernel
theorem d_M_take_4 : decode c_M_take 4 = .ok (.iload_n 3, 1) := by decide +kernel
theorem d_M_take_5 : decode c_M_take 5 = .ok (.iadd, 1) := by decide +kernel
theorem d_M_take_6 : decode c_M_take 6 = .ok (.istore 4, 2) := by decide +kernel
theorem d_M_take_8 : decode c_M_take 8 = .ok (.aload_n 0, 1) := by decide +kernel
theorem d_M_take_9 : decode c_M_take 9 = .ok (.getfield 86, 3) := by decide +kernel
theorem d_M_take_12 : decode c_M_take 12 = .ok (.iload 4, 2) := by decide +kernel
theorem d_M_take_14 : decode c_M_take 14 = .ok (.iaload, 1) := by decide +kernel
theorem d_M_take_15 : decode c_M_take 15 = .ok (.istore 5, 2) := by decide +kernel
theorem d_M_take_17 : decode c_M_take 17 = .ok (.aload_n 0, 1) := by decide +kernel
theorem d_M_take_18 : decode c_M_take 18 = .ok (.getfield 92, 3) := by decide +kernel
theorem d_M_take_21 : decode c_M_take 21 = .ok (.aload_n 0, 1) := by decide +kernel
theorem d_M_take_22 : decode c_M_take 22 = .ok (.getfield 79, 3) := by decide +kernel
theorem d_M_take_25 : decode c_M_take 25 = .ok (.iload 4, 2) := by decide +kernel
theorem d_M_take_27 : decode c_M_take 27 = .ok (.aaload, 1) := by decide +kernel
theorem d_M_take_28 : decode c_M_take 28 = .ok (.invokevirtual 7, 3) := by decide +kernel
theorem d_M_take_31 : decode c_M_take 31 = .ok (.aload_n 0, 1) := by decide +kernel
theorem d_M_take_32 : decode c_M_take 32 = .ok (.getfield 95, 3) := by decide +kernel
theorem d_M_take_35 : decode c_M_take 35 = .ok (.aload_n 0, 1) := by decide +kernel
theorem d_M_take_36 : decode c_M_take 36 = .ok (.getfield 83, 3) := by decide +kernel
theorem d_M_take_39 : decode c_M_take 39 = .ok (.iload 4, 2) := by decide +kernel
theorem d_M_take_41 : decode c_M_take 41 = .ok (.aaload, 1) := by decide +kernel
theorem d_M_take_42 : decode c_M_take 42 = .ok (.invokevirtual 7, 3) := by decide +kernel
theorem d_M_take_45 : decode c_M_take 45 = .ok (.iconst 0, 1) := by decide +kernel
theorem d_M_take_46 : decode c_M_take 46 = .ok (.istore 6, 2) := by decide +kernel
theorem d_M_take_48 : decode c_M_take 48 = .ok (.iload 6, 2) := by decide +kernel
theorem d_M_take_50 : decode c_M_take 50 = .ok (.aload_n 0, 1) := by decide +kernel
theorem d_M_take_51 : decode c_M_take 51 = .ok (.getfield 111, 3) := by decide +kernel
theorem d_M_take_54 : decode c_M_take 54 = .ok (.if_icmp .ge 200, 3) := by decide +kernel
theorem d_M_take_57 : decode c_M_take 57 = .ok (.bipush 12, 2) := by decide +kernel
theorem d_M_take_59 : decode c_M_take 59 = .ok (.iload_n 1, 1) := by decide +kernel
theorem d_M_take_60 : decode c_M_take 60 = .ok (.imul, 1) := by decide +kernel
theorem d_M_take_61 : decode c_M_take 61 = .ok (.iload 6, 2) := by decide +kernel
theorem d_M_take_63 : decode c_M_take 63 = .ok (.iadd, 1) := by decide +kernel
theorem d_M_take_64 : decode c_M_take 64 = .ok (.istore 7, 2) := by decide +kernel
theorem d_M_take_66 : decode c_M_take 66 = .ok (.bipush 12, 2) := by decide +kernel
theorem d_M_take_68 : decode c_M_take 68 = .ok (.iload_n 2, 1) := by decide +kernel
theorem d_M_take_69 : decode c_M_take 69 = .ok (.imul, 1) := by decide +kernel
theorem d_M_take_70 : decode c_M_take 70 = .ok (.iload 6, 2) := by decide +kernel
theorem d_M_take_72 : decode c_M_take 72 = .ok (.iadd, 1) := by decide +kernel
theorem d_M_take_73 : decode c_M_take 73 = .ok (.istore 8, 2) := by decide +kernel
theorem d_M_take_75 : decode c_M_take 75 = .ok (.aload_n 0, 1) := by decide +kernel
theorem d_M_take_76 : decode c_M_take 76 = .ok (.getfield 105, 3) := by decide +kernel
theorem d_M_take_79 : decode c_M_take 79 = .ok (.ifCond .le 41, 3) := by decide +kernel
theorem d_M_take_82 : decode c_M_take 82 = .ok (.aload_n 0, 1) := by decide +kernel
theorem d_M_take_83 : decode c_M_take 83 = .ok (.getfield 86, 3) := by decide +kernel
theorem d_M_take_86 : decode c_M_take 86 = .ok (.iload 7, 2) := by decide +kernel
theorem d_M_take_88 : decode c_M_take 88 = .ok (.aload_n 0, 1) := by decide +kernel
theorem d_M_take_89 : decode c_M_take 89 = .ok (.getfield 86, 3) := by decide +kernel
theorem d_M_take_92 : decode c_M_take 92 = .ok (.iload 7, 2) := by decide +kernel
theorem d_M_take_94 : decode c_M_take 94 = .ok (.iaload, 1) := by decide +kernel
theorem d_M_take_95 : decode c_M_take 95 = .ok (.aload_n 0, 1) := by decide +kernel
theorem d_M_take_96 : decode c_M_take 96 = .ok (.getfield 105, 3) := by decide +kernel
theorem d_M_take_99 : decode c_M_take 99 = .ok (.iload 5, 2) := by decide +kernel
theorem d_M_take_101 : decode c_M_take 101 = .ok (.isub, 1) := by decide +kernel
theorem d_M_take_102 : decode c_M_take 102 = .ok (.aload_n 0, 1) := by decide +kernel
theorem d_M_take_103 : decode c_M_take 103 = .ok (.getfield 86, 3) := by decide +kernel
theorem d_M_take_106 : decode c_M_take 106 = .ok (.iload 8, 2) := by decide +kernel
theorem d_M_take_108 : decode c_M_take 108 = .ok (.iaload, 1) := by decide +kernel
theorem d_M_take_109 : decode c_M_take 109 = .ok (.imul, 1) := by decide +kernel
theorem d_M_take_110 : decode c_M_take 110 = .ok (.iadd, 1) := by decide +kernel
theorem d_M_take_111 : decode c_M_take 111 = .ok (.aload_n 0, 1) := by decide +kernel
theorem d_M_take_112 : decode c_M_take 112 = .ok (.getfield 105, 3) := by decide +kernel
theorem d_M_take_115 : decode c_M_take 115 = .ok (.irem, 1) := by decide +kernel
theorem d_M_take_116 : decode c_M_take 116 = .ok (.iastore, 1) := by decide +kernel
theorem d_M_take_117 : decode c_M_take 117 = .ok (.goto 131, 3) := by decide +kernel
theorem d_M_take_120 : decode c_M_take 120 = .ok (.aload_n 0, 1) := by decide +kernel
theorem d_M_take_121 : decode c_M_take 121 = .ok (.getfield 44, 3) := by decide +kernel
theorem d_M_take_124 : decode c_M_take 124 = .ok (.aload_n 0, 1) := by decide +kernel
theorem d_M_take_125 : decode c_M_take 125 = .ok (.getfield 95, 3) := by decide +kernel
theorem d_M_take_128 : decode c_M_take 128 = .ok (.aload_n 0, 1) := by decide +kernel
theorem d_M_take_129 : decode c_M_take 129 = .ok (.getfield 83, 3) := by decide +kernel
theorem d_M_take_132 : decode c_M_take 132 = .ok (.iload 8, 2) := by decide +kernel
theorem d_M_take_134 : decode c_M_take 134 = .ok (.aaload, 1) := by decide +kernel
theorem d_M_take_135 : decode c_M_take 135 = .ok (.invokevirtual 146, 3) := by decide +kernel
theorem d_M_take_138 : decode c_M_take 138 = .ok (.aload_n 0, 1) := by decide +kernel
theorem d_M_take_139 : decode c_M_take 139 = .ok (.getfield 47, 3) := by decide +kernel
theorem d_M_take_142 : decode c_M_take 142 = .ok (.aload_n 0, 1) := by decide +kernel
theorem d_M_take_143 : decode c_M_take 143 = .ok (.getfield 79, 3) := by decide +kernel
theorem d_M_take_146 : decode c_M_take 146 = .ok (.iload 7, 2) := by decide +kernel
theorem d_M_take_148 : decode c_M_take 148 = .ok (.aaload, 1) := by decide +kernel
theorem d_M_take_149 : decode c_M_take 149 = .ok (.aload_n 0, 1) := by decide +kernel
theorem d_M_take_150 : decode c_M_take 150 = .ok (.getfield 44, 3) := by decide +kernel
theorem d_M_take_153 : decode c_M_take 153 = .ok (.invokevirtual 146, 3) := by decide +kernel
theorem d_M_take_156 : decode c_M_take 156 = .ok (.aload_n 0, 1) := by decide +kernel
theorem d_M_take_157 : decode c_M_take 157 = .ok (.getfield 50, 3) := by decide +kernel
theorem d_M_take_160 : decode c_M_take 160 = .ok (.aload_n 0, 1) := by decide +kernel
theorem d_M_take_161 : decode c_M_take 161 = .ok (.getfield 92, 3) := by decide +kernel
theorem d_M_take_164 : decode c_M_take 164 = .ok (.aload_n 0, 1) := by decide +kernel
theorem d_M_take_165 : decode c_M_take 165 = .ok (.getfield 79, 3) := by decide +kernel
theorem d_M_take_168 : decode c_M_take 168 = .ok (.iload 8, 2) := by decide +kernel
theorem d_M_take_170 : decode c_M_take 170 = .ok (.aaload, 1) := by decide +kernel
theorem d_M_take_171 : decode c_M_take 171 = .ok (.invokevirtual 146, 3) := by decide +kernel
theorem d_M_take_174 : decode c_M_take 174 = .ok (.aload_n 0, 1) := by decide +kernel
theorem d_M_take_175 : decode c_M_take 175 = .ok (.getfield 41, 3) := by decide +kernel
theorem d_M_take_178 : decode c_M_take 178 = .ok (.aload_n 0, 1) := by decide +kernel
theorem d_M_take_179 : decode c_M_take 179 = .ok (.getfield 50, 3) := by decide +kernel
theorem d_M_take_182 : decode c_M_take 182 = .ok (.aload_n 0, 1) := by decide +kernel
theorem d_M_take_183 : decode c_M_take 183 = .ok (.getfield 83, 3) := by decide +kernel
theorem d_M_take_186 : decode c_M_take 186 = .ok (.iload 7, 2) := by decide +kernel
theorem d_M_take_188 : decode c_M_take 188 = .ok (.aaload, 1) := by decide +kernel
theorem d_M_take_189 : decode c_M_take 189 = .ok (.invokevirtual 146, 3) := by decide +kernel
theorem d_M_take_192 : decode c_M_take 192 = .ok (.aload_n 0, 1) := by decide +kernel
theorem d_M_take_193 : decode c_M_take 193 = .ok (.getfield 50, 3) := by decide +kernel
theorem d_M_take_196 : decode c_M_take 196 = .ok (.aload_n 0, 1) := by decide +kernel
theorem d_M_take_197 : decode c_M_take 197 = .ok (.getfield 83, 3) := by decide +kernel
theorem d_M_take_200 : decode c_M_take 200 = .ok (.iload 7, 2) := by decide +kernel
theorem d_M_take_202 : decode c_M_take 202 = .ok (.aaload, 1) := by decide +kernel
theorem d_M_take_203 : decode c_M_take 203 = .ok (.aload_n 0, 1) := by decide +kernel
theorem d_M_take_204 : decode c_M_take 204 = .ok (.getfield 44, 3) := by decide +kernel
theorem d_M_take_207 : decode c_M_take 207 = .ok (.invokevirtual 146, 3) := by decide +kernel
theorem d_M_take_210 : decode c_M_take 210 = .ok (.aload_n 0, 1) := by decide +kernel
theorem d_M_take_211 : decode c_M_take 211 = .ok (.getfield 79, 3) := by decide +kernel
theorem d_M_take_214 : decode c_M_take 214 = .ok (.iload 7, 2) := by decide +kernel
theorem d_M_take_216 : decode c_M_take 216 = .ok (.aaload, 1) := by decide +kernel
theorem d_M_take_217 : decode c_M_take 217 = .ok (.aload_n 0, 1) := by decide +kernel
theorem d_M_take_218 : decode c_M_take 218 = .ok (.getfield 47, 3) := by decide +kernel
theorem d_M_take_221 : decode c_M_take 221 = .ok (.aload_n 0, 1) := by decide +kernel
theorem d_M_take_222 : decode c_M_take 222 = .ok (.getfield 41, 3) := by decide +kernel
theorem d_M_take_225 : decode c_M_take 225 = .ok (.invokevirtual 153, 3) := by decide +kernel
theorem d_M_take_228 : decode c_M_take 228 = .ok (.aload_n 0, 1) := by decide +kernel
theorem d_M_take_229 : decode c_M_take 229 = .ok (.getfield 83, 3) := by decide +kernel
theorem d_M_take_232 : decode c_M_take 232 = .ok (.iload 7, 2) := by decide +kernel
theorem d_M_take_234 : decode c_M_take 234 = .ok (.aaload, 1) := by decide +kernel
theorem d_M_take_235 : decode c_M_take 235 = .ok (.aload_n 0, 1) := by decide +kernel
theorem d_M_take_236 : decode c_M_take 236 = .ok (.getfield 50, 3) := by decide +kernel
theorem d_M_take_239 : decode c_M_take 239 = .ok (.invokevirtual 7, 3) := by decide +kernel
theorem d_M_take_242 : decode c_M_take 242 = .ok (.aload_n 0, 1) := by decide +kernel
theorem d_M_take_243 : decode c_M_take 243 = .ok (.iload 7, 2) := by decide +kernel
theorem d_M_take_245 : decode c_M_take 245 = .ok (.invokevirtual 149, 3) := by decide +kernel
theorem d_M_take_248 : decode c_M_take 248 = .ok (.iinc 6 1, 3) := by decide +kernel
theorem d_M_take_251 : decode c_M_take 251 = .ok (.goto (-203), 3) := by decide +kernel
theorem d_M_take_254 : decode c_M_take 254 = .ok (.return_, 1) := by decide +kernel
theorem d_M_turn_0 : decode c_M_turn 0 = .ok (.aload_n 0, 1) := by decide +kernel
theorem d_M_turn_1 : decode c_M_turn 1 = .ok (.iload_n 1, 1) := by decide +kernel
theorem d_M_turn_2 : decode c_M_turn 2 = .ok (.invokevirtual 191, 3) := by decide +kernel
theorem d_M_turn_5 : decode c_M_turn 5 = .ok (.ifCond .eq 13, 3) := by decide +kernel
theorem d_M_turn_8 : decode c_M_turn 8 = .ok (.aload_n 0, 1) := by decide +kernel
theorem d_M_turn_9 : decode c_M_turn 9 = .ok (.iload_n 1, 1) := by decide +kernel
theorem d_M_turn_10 : decode c_M_turn 10 = .ok (.iload_n 2, 1) := by decide +kernel
theorem d_M_turn_11 : decode c_M_turn 11 = .ok (.iload_n 3, 1) := by decide +kernel
theorem d_M_turn_12 : decode c_M_turn 12 = .ok (.invokevirtual 181, 3) := by decide +kernel
theorem d_M_turn_15 : decode c_M_turn 15 = .ok (.ifCond .ne 5, 3) := by decide +kernel
theorem d_M_turn_18 : decode c_M_turn 18 = .ok (.iconst (-1), 1) := by decide +kernel
theorem d_M_turn_19 : decode c_M_turn 19 = .ok (.ireturn, 1) := by decide +kernel
theorem d_M_turn_20 : decode c_M_turn 20 = .ok (.aload_n 0, 1) := by decide +kernel
theorem d_M_turn_21 : decode c_M_turn 21 = .ok (.iload_n 1, 1) := by decide +kernel
theorem d_M_turn_22 : decode c_M_turn 22 = .ok (.invokevirtual 185, 3) := by decide +kernel
theorem d_M_turn_25 : decode c_M_turn 25 = .ok (.aload_n 0, 1) := by decide +kernel
theorem d_M_turn_26 : decode c_M_turn 26 = .ok (.bipush 12, 2) := by decide +kernel
theorem d_M_turn_28 : decode c_M_turn 28 = .ok (.iload_n 2, 1) := by decide +kernel
theorem d_M_turn_29 : decode c_M_turn 29 = .ok (.imul, 1) := by decide +kernel
theorem d_M_turn_30 : decode c_M_turn 30 = .ok (.iload_n 3, 1) := by decide +kernel
theorem d_M_turn_31 : decode c_M_turn 31 = .ok (.iadd, 1) := by decide +kernel
theorem d_M_turn_32 : decode c_M_turn 32 = .ok (.invokevirtual 160, 3) := by decide +kernel
theorem d_M_turn_35 : decode c_M_turn 35 = .ok (.ifCond .eq 5, 3) := by decide +kernel
theorem d_M_turn_38 : decode c_M_turn 38 = .ok (.iconst (-1), 1) := by decide +kernel
theorem d_M_turn_39 : decode c_M_turn 39 = .ok (.ireturn, 1) := by decide +kernel
theorem d_M_turn_40 : decode c_M_turn 40 = .ok (.aload_n 0, 1) := by decide +kernel
theorem d_M_turn_41 : decode c_M_turn 41 = .ok (.getfield 89, 3) := by decide +kernel
theorem d_M_turn_44 : decode c_M_turn 44 = .ok (.iload_n 2, 1) := by decide +kernel
theorem d_M_turn_45 : decode c_M_turn 45 = .ok (.iaload, 1) := by decide +kernel
theorem d_M_turn_46 : decode c_M_turn 46 = .ok (.istore 4, 2) := by decide +kernel
theorem d_M_turn_48 : decode c_M_turn 48 = .ok (.aload_n 0, 1) := by decide +kernel
theorem d_M_turn_49 : decode c_M_turn 49 = .ok (.iload_n 2, 1) := by decide +kernel
theorem d_M_turn_50 : decode c_M_turn 50 = .ok (.iload_n 3, 1) := by decide +kernel
theorem d_M_turn_51 : decode c_M_turn 51 = .ok (.invokevirtual 169, 3) := by decide +kernel
theorem d_M_turn_54 : decode c_M_turn 54 = .ok (.aload_n 0, 1) := by decide +kernel
theorem d_M_turn_55 : decode c_M_turn 55 = .ok (.iload_n 1, 1) := by decide +kernel
theorem d_M_turn_56 : decode c_M_turn 56 = .ok (.invokevirtual 175, 3) := by decide +kernel
theorem d_M_turn_59 : decode c_M_turn 59 = .ok (.iload 4, 2) := by decide +kernel
theorem d_M_turn_61 : decode c_M_turn 61 = .ok (.ireturn, 1) := by decide +kernel
theorem d_M_isReduced_0 : decode c_M_isReduced 0 = .ok (.iload_n 1, 1) := by decide +kernel
theorem d_M_isReduced_1 : decode c_M_isReduced 1 = .ok (.invokestatic 101, 3) := by decide +kernel
theorem d_M_isReduced_4 : decode c_M_isReduced 4 = .ok (.ifCond .eq 16, 3) := by decide +kernel
theorem d_M_isReduced_7 : decode c_M_isReduced 7 = .ok (.aload_n 0, 1) := by decide +kernel
theorem d_M_isReduced_8 : decode c_M_isReduced 8 = .ok (.getfield 63, 3) := by decide +kernel
theorem d_M_isReduced_11 : decode c_M_isReduced 11 = .ok (.iload_n 1, 1) := by decide +kernel
theorem d_M_isReduced_12 : decode c_M_isReduced 12 = .ok (.baload, 1) := by decide +kernel
theorem d_M_isReduced_13 : decode c_M_isReduced 13 = .ok (.ifCond .ne 7, 3) := by decide +kernel
theorem d_M_isReduced_16 : decode c_M_isReduced 16 = .ok (.iconst 1, 1) := by decide +kernel
theorem d_M_isReduced_17 : decode c_M_isReduced 17 = .ok (.goto 4, 3) := by decide +kernel
theorem d_M_isReduced_20 : decode c_M_isReduced 20 = .ok (.iconst 0, 1) := by decide +kernel
theorem d_M_isReduced_21 : decode c_M_isReduced 21 = .ok (.ireturn, 1) := by decide +kernel
theorem d_M_dual_0 : decode c_M_dual 0 = .ok (.iload_n 1, 1) := by decide +kernel
theorem d_M_dual_1 : decode c_M_dual 1 = .ok (.invokestatic 101, 3) := by decide +kernel
theorem d_M_dual_4 : decode c_M_dual 4 = .ok (.ifCond .eq 11, 3) := by decide +kernel
theorem d_M_dual_7 : decode c_M_dual 7 = .ok (.aload_n 0, 1) := by decide +kernel
theorem d_M_dual_8 : decode c_M_dual 8 = .ok (.iload_n 2, 1) := by decide +kernel
theorem d_M_dual_9 : decode c_M_dual 9 = .ok (.invokevirtual 191, 3) := by decide +kernel
theorem d_M_dual_12 : decode c_M_dual 12 = .ok (.ifCond .ne 5, 3) := by decide +kernel
theorem d_M_dual_15 : decode c_M_dual 15 = .ok (.iconst (-1), 1) := by decide +kernel
theorem d_M_dual_16 : decode c_M_dual 16 = .ok (.ireturn, 1) := by decide +kernel
theorem d_M_dual_17 : decode c_M_dual 17 = .ok (.aload_n 0, 1) := by decide +kernel
theorem d_M_dual_18 : decode c_M_dual 18 = .ok (.aload_n 0, 1) := by decide +kernel
theorem d_M_dual_19 : decode c_M_dual 19 = .ok (.getfield 53, 3) := by decide +kernel
theorem d_M_dual_22 : decode c_M_dual 22 = .ok (.iload_n 2, 1) := by decide +kernel
theorem d_M_dual_23 : decode c_M_dual 23 = .ok (.iaload, 1) := by decide +kernel
theorem d_M_dual_24 : decode c_M_dual 24 = .ok (.iconst 0, 1) := by decide +kernel
theorem d_M_dual_25 : decode c_M_dual 25 = .ok (.aload_n 0, 1) := by decide +kernel
theorem d_M_dual_26 : decode c_M_dual 26 = .ok (.getfield 60, 3) := by decide +kernel
theorem d_M_dual_29 : decode c_M_dual 29 = .ok (.iload_n 2, 1) := by decide +kernel
theorem d_M_dual_30 : decode c_M_dual 30 = .ok (.iaload, 1) := by decide +kernel
theorem d_M_dual_31 : decode c_M_dual 31 = .ok (.invokevirtual 127, 3) := by decide +kernel
theorem d_M_dual_34 : decode c_M_dual 34 = .ok (.iconst 0, 1) := by decide +kernel
theorem d_M_dual_35 : decode c_M_dual 35 = .ok (.istore_n 3, 1) := by decide +kernel
theorem d_M_dual_36 : decode c_M_dual 36 = .ok (.iload_n 3, 1) := by decide +kernel
theorem d_M_dual_37 : decode c_M_dual 37 = .ok (.aload_n 0, 1) := by decide +kernel
theorem d_M_dual_38 : decode c_M_dual 38 = .ok (.getfield 111, 3) := by decide +kernel
theorem d_M_dual_41 : decode c_M_dual 41 = .ok (.if_icmp .ge 208, 3) := by decide +kernel
theorem d_M_dual_44 : decode c_M_dual 44 = .ok (.iconst 0, 1) := by decide +kernel
theorem d_M_dual_45 : decode c_M_dual 45 = .ok (.istore 4, 2) := by decide +kernel
theorem d_M_dual_47 : decode c_M_dual 47 = .ok (.iconst 0, 1) := by decide +kernel
theorem d_M_dual_48 : decode c_M_dual 48 = .ok (.istore 5, 2) := by decide +kernel
theorem d_M_dual_50 : decode c_M_dual 50 = .ok (.iload 5, 2) := by decide +kernel
theorem d_M_dual_52 : decode c_M_dual 52 = .ok (.aload_n 0, 1) := by decide +kernel
theorem d_M_dual_53 : decode c_M_dual 53 = .ok (.getfield 57, 3) := by decide +kernel
theorem d_M_dual_56 : decode c_M_dual 56 = .ok (.iload_n 2, 1) := by decide +kernel
theorem d_M_dual_57 : decode c_M_dual 57 = .ok (.iaload, 1) := by decide +kernel
theorem d_M_dual_58 : decode c_M_dual 58 = .ok (.if_icmp .ge 37, 3) := by decide +kernel
theorem d_M_dual_61 : decode c_M_dual 61 = .ok (.iload 4, 2) := by decide +kernel
theorem d_M_dual_63 : decode c_M_dual 63 = .ok (.ifCond .ne 19, 3) := by decide +kernel
theorem d_M_dual_66 : decode c_M_dual 66 = .ok (.aload_n 0, 1) := by decide +kernel
theorem d_M_dual_67 : decode c_M_dual 67 = .ok (.getfield 67, 3) := by decide +kernel
theorem d_M_dual_70 : decode c_M_dual 70 = .ok (.bipush 12, 2) := by decide +kernel
theorem d_M_dual_72 : decode c_M_dual 72 = .ok (.iload_n 2, 1) := by decide +kernel
theorem d_M_dual_73 : decode c_M_dual 73 = .ok (.imul, 1) := by decide +kernel
theorem d_M_dual_74 : decode c_M_dual 74 = .ok (.iload 5, 2) := by decide +kernel
theorem d_M_dual_76 : decode c_M_dual 76 = .ok (.iadd, 1) := by decide +kernel
theorem d_M_dual_77 : decode c_M_dual 77 = .ok (.iaload, 1) := by decide +kernel
theorem d_M_dual_78 : decode c_M_dual 78 = .ok (.iload_n 3, 1) := by decide +kernel
theorem d_M_dual_79 : decode c_M_dual 79 = .ok (.if_icmp .ne 7, 3) := by decide +kernel
theorem d_M_dual_82 : decode c_M_dual 82 = .ok (.iconst 1, 1) := by decide +kernel
theorem d_M_dual_83 : decode c_M_dual 83 = .ok (.goto 4, 3) := by decide +kernel
theorem d_M_dual_86 : decode c_M_dual 86 = .ok (.iconst 0, 1) := by decide +kernel
theorem d_M_dual_87 : decode c_M_dual 87 = .ok (.istore 4, 2) := by decide +kernel
theorem d_M_dual_89 : decode c_M_dual 89 = .ok (.iinc 5 1, 3) := by decide +kernel
theorem d_M_dual_92 : decode c_M_dual 92 = .ok (.goto (-42), 3) := by decide +kernel
theorem d_M_dual_95 : decode c_M_dual 95 = .ok (.iload 4, 2) := by decide +kernel
theorem d_M_dual_97 : decode c_M_dual 97 = .ok (.ifCond .eq 6, 3) := by decide +kernel
theorem d_M_dual_100 : decode c_M_dual 100 = .ok (.goto 143, 3) := by decide +kernel
theorem d_M_dual_103 : decode c_M_dual 103 = .ok (.aload_n 0, 1) := by decide +kernel
theorem d_M_dual_104 : decode c_M_dual 104 = .ok (.getfield 79, 3) := by decide +kernel
theorem d_M_dual_107 : decode c_M_dual 107 = .ok (.bipush 12, 2) := by decide +kernel
theorem d_M_dual_109 : decode c_M_dual 109 = .ok (.aload_n 0, 1) := by decide +kernel
theorem d_M_dual_110 : decode c_M_dual 110 = .ok (.getfield 108, 3) := by decide +kernel
theorem d_M_dual_113 : decode c_M_dual 113 = .ok (.imul, 1) := by decide +kernel
theorem d_M_dual_114 : decode c_M_dual 114 = .ok (.iload_n 3, 1) := by decide +kernel
theorem d_M_dual_115 : decode c_M_dual 115 = .ok (.iadd, 1) := by decide +kernel
theorem d_M_dual_116 : decode c_M_dual 116 = .ok (.aaload, 1) := by decide +kernel
theorem d_M_dual_117 : decode c_M_dual 117 = .ok (.lconst 1, 1) := by decide +kernel
theorem d_M_dual_118 : decode c_M_dual 118 = .ok (.invokevirtual 117, 3) := by decide +kernel
theorem d_M_dual_121 : decode c_M_dual 121 = .ok (.aload_n 0, 1) := by decide +kernel
theorem d_M_dual_122 : decode c_M_dual 122 = .ok (.getfield 86, 3) := by decide +kernel
theorem d_M_dual_125 : decode c_M_dual 125 = .ok (.bipush 12, 2) := by decide +kernel
theorem d_M_dual_127 : decode c_M_dual 127 = .ok (.aload_n 0, 1) := by decide +kernel
theorem d_M_dual_128 : decode c_M_dual 128 = .ok (.getfield 108, 3) := by decide +kernel
theorem d_M_dual_131 : decode c_M_dual 131 = .ok (.imul, 1) := by decide +kernel
theorem d_M_dual_132 : decode c_M_dual 132 = .ok (.iload_n 3, 1) := by decide +kernel
theorem d_M_dual_133 : decode c_M_dual 133 = .ok (.iadd, 1) := by decide +kernel
theorem d_M_dual_134 : decode c_M_dual 134 = .ok (.iconst 1, 1) := by decide +kernel
theorem d_M_dual_135 : decode c_M_dual 135 = .ok (.iastore, 1) := by decide +kernel
theorem d_M_dual_136 : decode c_M_dual 136 = .ok (.iconst 0, 1) := by decide +kernel
theorem d_M_dual_137 : decode c_M_dual 137 = .ok (.istore 5, 2) := by decide +kernel
theorem d_M_dual_139 : decode c_M_dual 139 = .ok (.iload 5, 2) := by decide +kernel
theorem d_M_dual_141 : decode c_M_dual 141 = .ok (.aload_n 0, 1) := by decide +kernel
theorem d_M_dual_142 : decode c_M_dual 142 = .ok (.getfield 57, 3) := by decide +kernel
theorem d_M_dual_145 : decode c_M_dual 145 = .ok (.iload_n 2, 1) := by decide +kernel
theorem d_M_dual_146 : decode c_M_dual 146 = .ok (.iaload, 1) := by decide +kernel
theorem d_M_dual_147 : decode c_M_dual 147 = .ok (.if_icmp .ge 86, 3) := by decide +kernel
theorem d_M_dual_150 : decode c_M_dual 150 = .ok (.bipush 12, 2) := by decide +kernel
theorem d_M_dual_152 : decode c_M_dual 152 = .ok (.aload_n 0, 1) := by decide +kernel
theorem d_M_dual_153 : decode c_M_dual 153 = .ok (.getfield 108, 3) := by decide +kernel
theorem d_M_dual_156 : decode c_M_dual 156 = .ok (.imul, 1) := by decide +kernel
theorem d_M_dual_157 : decode c_M_dual 157 = .ok (.aload_n 0, 1) := by decide +kernel
theorem d_M_dual_158 : decode c_M_dual 158 = .ok (.getfield 67, 3) := by decide +kernel
theorem d_M_dual_161 : decode c_M_dual 161 = .ok (.bipush 12, 2) := by decide +kernel
theorem d_M_dual_163 : decode c_M_dual 163 = .ok (.iload_n 2, 1) := by decide +kernel
theorem d_M_dual_164 : decode c_M_dual 164 = .ok (.imul, 1) := by decide +kernel
theorem d_M_dual_165 : decode c_M_dual 165 = .ok (.iload 5, 2) := by decide +kernel
theorem d_M_dual_167 : decode c_M_dual 167 = .ok (.iadd, 1) := by decide +kernel
theorem d_M_dual_168 : decode c_M_dual 168 = .ok (.iaload, 1) := by decide +kernel
theorem d_M_dual_169 : decode c_M_dual 169 = .ok (.iadd, 1) := by decide +kernel
theorem d_M_dual_170 : decode c_M_dual 170 = .ok (.istore 6, 2) := by decide +kernel
theorem d_M_dual_172 : decode c_M_dual 172 = .ok (.aload_n 0, 1) := by decide +kernel
theorem d_M_dual_173 : decode c_M_dual 173 = .ok (.iload_n 2, 1) := by decide +kernel
theorem d_M_dual_174 : decode c_M_dual 174 = .ok (.iload 5, 2) := by decide +kernel
theorem d_M_dual_176 : decode c_M_dual 176 = .ok (.iload_n 3, 1) := by decide +kernel
theorem d_M_dual_177 : decode c_M_dual 177 = .ok (.iload 6, 2) := by decide +kernel
theorem d_M_dual_179 : decode c_M_dual 179 = .ok (.invokevirtual 131, 3) := by decide +kernel
theorem d_M_dual_182 : decode c_M_dual 182 = .ok (.aload_n 0, 1) := by decide +kernel
theorem d_M_dual_183 : decode c_M_dual 183 = .ok (.getfield 79, 3) := by decide +kernel
theorem d_M_dual_186 : decode c_M_dual 186 = .ok (.iload 6, 2) := by decide +kernel
theorem d_M_dual_188 : decode c_M_dual 188 = .ok (.aaload, 1) := by decide +kernel
theorem d_M_dual_189 : decode c_M_dual 189 = .ok (.invokevirtual 139, 3) := by decide +kernel
theorem d_M_dual_192 : decode c_M_dual 192 = .ok (.aload_n 0, 1) := by decide +kernel
theorem d_M_dual_193 : decode c_M_dual 193 = .ok (.getfield 86, 3) := by decide +kernel
theorem d_M_dual_196 : decode c_M_dual 196 = .ok (.iload 6, 2) := by decide +kernel
theorem d_M_dual_198 : decode c_M_dual 198 = .ok (.aload_n 0, 1) := by decide +kernel
theorem d_M_dual_199 : decode c_M_dual 199 = .ok (.getfield 105, 3) := by decide +kernel
theorem d_M_dual_202 : decode c_M_dual 202 = .ok (.ifCond .ne 7, 3) := by decide +kernel
theorem d_M_dual_205 : decode c_M_dual 205 = .ok (.iconst 0, 1) := by decide +kernel
theorem d_M_dual_206 : decode c_M_dual 206 = .ok (.goto 20, 3) := by decide +kernel
theorem d_M_dual_209 : decode c_M_dual 209 = .ok (.aload_n 0, 1) := by decide +kernel
theorem d_M_dual_210 : decode c_M_dual 210 = .ok (.getfield 105, 3) := by decide +kernel
theorem d_M_dual_213 : decode c_M_dual 213 = .ok (.aload_n 0, 1) := by decide +kernel
theorem d_M_dual_214 : decode c_M_dual 214 = .ok (.getfield 86, 3) := by decide +kernel
theorem d_M_dual_217 : decode c_M_dual 217 = .ok (.iload 6, 2) := by decide +kernel
theorem d_M_dual_219 : decode c_M_dual 219 = .ok (.iaload, 1) := by decide +kernel
theorem d_M_dual_220 : decode c_M_dual 220 = .ok (.isub, 1) := by decide +kernel
theorem d_M_dual_221 : decode c_M_dual 221 = .ok (.aload_n 0, 1) := by decide +kernel
theorem d_M_dual_222 : decode c_M_dual 222 = .ok (.getfield 105, 3) := by decide +kernel
theorem d_M_dual_225 : decode c_M_dual 225 = .ok (.irem, 1) := by decide +kernel
theorem d_M_dual_226 : decode c_M_dual 226 = .ok (.iastore, 1) := by decide +kernel
theorem d_M_dual_227 : decode c_M_dual 227 = .ok (.iinc 5 1, 3) := by decide +kernel
theorem d_M_dual_230 : decode c_M_dual 230 = .ok (.goto (-91), 3) := by decide +kernel
theorem d_M_dual_233 : decode c_M_dual 233 = .ok (.aload_n 0, 1) := by decide +kernel
theorem d_M_dual_234 : decode c_M_dual 234 = .ok (.dup, 1) := by decide +kernel
theorem d_M_dual_235 : decode c_M_dual 235 = .ok (.getfield 108, 3) := by decide +kernel
theorem d_M_dual_238 : decode c_M_dual 238 = .ok (.iconst 1, 1) := by decide +kernel
theorem d_M_dual_239 : decode c_M_dual 239 = .ok (.iadd, 1) := by decide +kernel
theorem d_M_dual_240 : decode c_M_dual 240 = .ok (.putfield 108, 3) := by decide +kernel
theorem d_M_dual_243 : decode c_M_dual 243 = .ok (.iinc 3 1, 3) := by decide +kernel
theorem d_M_dual_246 : decode c_M_dual 246 = .ok (.goto (-210), 3) := by decide +kernel
theorem d_M_dual_249 : decode c_M_dual 249 = .ok (.aload_n 0, 1) := by decide +kernel
theorem d_M_dual_250 : decode c_M_dual 250 = .ok (.iload_n 1, 1) := by decide +kernel
theorem d_M_dual_251 : decode c_M_dual 251 = .ok (.invokevirtual 188, 3) := by decide +kernel
theorem d_M_dual_254 : decode c_M_dual 254 = .ok (.ireturn, 1) := by decide +kernel
theorem d_M_leave_0 : decode c_M_leave 0 = .ok (.iload_n 1, 1) := by decide +kernel
theorem d_M_leave_1 : decode c_M_leave 1 = .ok (.invokestatic 101, 3) := by decide +kernel
theorem d_M_leave_4 : decode c_M_leave 4 = .ok (.ifCond .eq 27, 3) := by decide +kernel
theorem d_M_leave_7 : decode c_M_leave 7 = .ok (.aload_n 0, 1) := by decide +kernel
theorem d_M_leave_8 : decode c_M_leave 8 = .ok (.iload_n 2, 1) := by decide +kernel
theorem d_M_leave_9 : decode c_M_leave 9 = .ok (.invokevirtual 191, 3) := by decide +kernel
theorem d_M_leave_12 : decode c_M_leave 12 = .ok (.ifCond .eq 19, 3) := by decide +kernel
theorem d_M_leave_15 : decode c_M_leave 15 = .ok (.iload_n 3, 1) := by decide +kernel
theorem d_M_leave_16 : decode c_M_leave 16 = .ok (.ifCond .lt 15, 3) := by decide +kernel
theorem d_M_leave_19 : decode c_M_leave 19 = .ok (.iload_n 3, 1) := by decide +kernel
theorem d_M_leave_20 : decode c_M_leave 20 = .ok (.iconst 1, 1) := by decide +kernel
theorem d_M_leave_21 : decode c_M_leave 21 = .ok (.aload_n 0, 1) := by decide +kernel
theorem d_M_leave_22 : decode c_M_leave 22 = .ok (.getfield 60, 3) := by decide +kernel
theorem d_M_leave_25 : decode c_M_leave 25 = .ok (.iload_n 2, 1) := by decide +kernel
theorem d_M_leave_26 : decode c_M_leave 26 = .ok (.iaload, 1) := by decide +kernel
theorem d_M_leave_27 : decode c_M_leave 27 = .ok (.ishl, 1) := by decide +kernel
theorem d_M_leave_28 : decode c_M_leave 28 = .ok (.if_icmp .lt 5, 3) := by decide +kernel
theorem d_M_leave_31 : decode c_M_leave 31 = .ok (.iconst (-1), 1) := by decide +kernel
theorem d_M_leave_32 : decode c_M_leave 32 = .ok (.ireturn, 1) := by decide +kernel
theorem d_M_leave_33 : decode c_M_leave 33 = .ok (.aload_n 0, 1) := by decide +kernel
theorem d_M_leave_34 : decode c_M_leave 34 = .ok (.aload_n 0, 1) := by decide +kernel
theorem d_M_leave_35 : decode c_M_leave 35 = .ok (.getfield 53, 3) := by decide +kernel
theorem d_M_leave_38 : decode c_M_leave 38 = .ok (.iload_n 2, 1) := by decide +kernel
theorem d_M_leave_39 : decode c_M_leave 39 = .ok (.iaload, 1) := by decide +kernel
theorem d_M_leave_40 : decode c_M_leave 40 = .ok (.aload_n 0, 1) := by decide +kernel
theorem d_M_leave_41 : decode c_M_leave 41 = .ok (.getfield 57, 3) := by decide +kernel
theorem d_M_leave_44 : decode c_M_leave 44 = .ok (.iload_n 2, 1) := by decide +kernel
theorem d_M_leave_45 : decode c_M_leave 45 = .ok (.iaload, 1) := by decide +kernel
theorem d_M_leave_46 : decode c_M_leave 46 = .ok (.aload_n 0, 1) := by decide +kernel
theorem d_M_leave_47 : decode c_M_leave 47 = .ok (.getfield 60, 3) := by decide +kernel
theorem d_M_leave_50 : decode c_M_leave 50 = .ok (.iload_n 2, 1) := by decide +kernel
theorem d_M_leave_51 : decode c_M_leave 51 = .ok (.iaload, 1) := by decide +kernel
theorem d_M_leave_52 : decode c_M_leave 52 = .ok (.invokevirtual 127, 3) := by decide +kernel
theorem d_M_leave_55 : decode c_M_leave 55 = .ok (.iconst 0, 1) := by decide +kernel
theorem d_M_leave_56 : decode c_M_leave 56 = .ok (.istore 5, 2) := by decide +kernel
theorem d_M_leave_58 : decode c_M_leave 58 = .ok (.iconst 0, 1) := by decide +kernel
theorem d_M_leave_59 : decode c_M_leave 59 = .ok (.istore 6, 2) := by decide +kernel
theorem d_M_leave_61 : decode c_M_leave 61 = .ok (.iload 6, 2) := by decide +kernel
theorem d_M_leave_63 : decode c_M_leave 63 = .ok (.aload_n 0, 1) := by decide +kernel
theorem d_M_leave_64 : decode c_M_leave 64 = .ok (.getfield 111, 3) := by decide +kernel
theorem d_M_leave_67 : decode c_M_leave 67 = .ok (.if_icmp .ge 20, 3) := by decide +kernel
theorem d_M_leave_70 : decode c_M_leave 70 = .ok (.iload 5, 2) := by decide +kernel
theorem d_M_leave_72 : decode c_M_leave 72 = .ok (.iload_n 3, 1) := by decide +kernel
theorem d_M_leave_73 : decode c_M_leave 73 = .ok (.iload 6, 2) := by decide +kernel
theorem d_M_leave_75 : decode c_M_leave 75 = .ok (.ishr, 1) := by decide +kernel
theorem d_M_leave_76 : decode c_M_leave 76 = .ok (.iconst 1, 1) := by decide +kernel
theorem d_M_leave_77 : decode c_M_leave 77 = .ok (.iand, 1) := by decide +kernel
theorem d_M_leave_78 : decode c_M_leave 78 = .ok (.iadd, 1) := by decide +kernel
theorem d_M_leave_79 : decode c_M_leave 79 = .ok (.istore 5, 2) := by decide +kernel
theorem d_M_leave_81 : decode c_M_leave 81 = .ok (.iinc 6 1, 3) := by decide +kernel
theorem d_M_leave_84 : decode c_M_leave 84 = .ok (.goto (-23), 3) := by decide +kernel
theorem d_M_leave_87 : decode c_M_leave 87 = .ok (.iconst 0, 1) := by decide +kernel
theorem d_M_leave_88 : decode c_M_leave 88 = .ok (.istore 6, 2) := by decide +kernel
theorem d_M_leave_90 : decode c_M_leave 90 = .ok (.iload 6, 2) := by decide +kernel
theorem d_M_leave_92 : decode c_M_leave 92 = .ok (.aload_n 0, 1) := by decide +kernel
theorem d_M_leave_93 : decode c_M_leave 93 = .ok (.getfield 108, 3) := by decide +kernel
theorem d_M_leave_96 : decode c_M_leave 96 = .ok (.if_icmp .ge 87, 3) := by decide +kernel
theorem d_M_leave_99 : decode c_M_leave 99 = .ok (.iconst 0, 1) := by decide +kernel
theorem d_M_leave_100 : decode c_M_leave 100 = .ok (.istore 7, 2) := by decide +kernel
theorem d_M_leave_102 : decode c_M_leave 102 = .ok (.iload 5, 2) := by decide +kernel
theorem d_M_leave_104 : decode c_M_leave 104 = .ok (.istore 8, 2) := by decide +kernel
theorem d_M_leave_106 : decode c_M_leave 106 = .ok (.iconst 0, 1) := by decide +kernel
theorem d_M_leave_107 : decode c_M_leave 107 = .ok (.istore 9, 2) := by decide +kernel
theorem d_M_leave_109 : decode c_M_leave 109 = .ok (.iload 9, 2) := by decide +kernel
theorem d_M_leave_111 : decode c_M_leave 111 = .ok (.aload_n 0, 1) := by decide +kernel
theorem d_M_leave_112 : decode c_M_leave 112 = .ok (.getfield 111, 3) := by decide +kernel
theorem d_M_leave_115 : decode c_M_leave 115 = .ok (.if_icmp .ge 62, 3) := by decide +kernel
theorem d_M_leave_118 : decode c_M_leave 118 = .ok (.iload_n 3, 1) := by decide +kernel
theorem d_M_leave_119 : decode c_M_leave 119 = .ok (.iload 9, 2) := by decide +kernel
theorem d_M_leave_121 : decode c_M_leave 121 = .ok (.ishr, 1) := by decide +kernel
theorem d_M_leave_122 : decode c_M_leave 122 = .ok (.iconst 1, 1) := by decide +kernel
theorem d_M_leave_123 : decode c_M_leave 123 = .ok (.iand, 1) := by decide +kernel
theorem d_M_leave_124 : decode c_M_leave 124 = .ok (.iconst 1, 1) := by decide +kernel
theorem d_M_leave_125 : decode c_M_leave 125 = .ok (.if_icmp .ne 26, 3) := by decide +kernel
theorem d_M_leave_128 : decode c_M_leave 128 = .ok (.aload_n 0, 1) := by decide +kernel
theorem d_M_leave_129 : decode c_M_leave 129 = .ok (.iload_n 2, 1) := by decide +kernel
theorem d_M_leave_130 : decode c_M_leave 130 = .ok (.iload 6, 2) := by decide +kernel
theorem d_M_leave_132 : decode c_M_leave 132 = .ok (.iload 9, 2) := by decide +kernel
theorem d_M_leave_134 : decode c_M_leave 134 = .ok (.bipush 12, 2) := by decide +kernel
theorem d_M_leave_136 : decode c_M_leave 136 = .ok (.iload 6, 2) := by decide +kernel
theorem d_M_leave_138 : decode c_M_leave 138 = .ok (.imul, 1) := by decide +kernel
theorem d_M_leave_139 : decode c_M_leave 139 = .ok (.iload 7, 2) := by decide +kernel
theorem d_M_leave_141 : decode c_M_leave 141 = .ok (.iadd, 1) := by decide +kernel
theorem d_M_leave_142 : decode c_M_leave 142 = .ok (.invokevirtual 131, 3) := by decide +kernel
theorem d_M_leave_145 : decode c_M_leave 145 = .ok (.iinc 7 1, 3) := by decide +kernel
theorem d_M_leave_148 : decode c_M_leave 148 = .ok (.goto 23, 3) := by decide +kernel
theorem d_M_leave_151 : decode c_M_leave 151 = .ok (.aload_n 0, 1) := by decide +kernel
theorem d_M_leave_152 : decode c_M_leave 152 = .ok (.iload_n 2, 1) := by decide +kernel
theorem d_M_leave_153 : decode c_M_leave 153 = .ok (.iload 6, 2) := by decide +kernel
theorem d_M_leave_155 : decode c_M_leave 155 = .ok (.iload 9, 2) := by decide +kernel
theorem d_M_leave_157 : decode c_M_leave 157 = .ok (.bipush 12, 2) := by decide +kernel
theorem d_M_leave_159 : decode c_M_leave 159 = .ok (.iload 6, 2) := by decide +kernel
theorem d_M_leave_161 : decode c_M_leave 161 = .ok (.imul, 1) := by decide +kernel
theorem d_M_leave_162 : decode c_M_leave 162 = .ok (.iload 8, 2) := by decide +kernel
theorem d_M_leave_164 : decode c_M_leave 164 = .ok (.iadd, 1) := by decide +kernel
theorem d_M_leave_165 : decode c_M_leave 165 = .ok (.invokevirtual 131, 3) := by decide +kernel
theorem d_M_leave_168 : decode c_M_leave 168 = .ok (.iinc 8 1, 3) := by decide +kernel
theorem d_M_leave_171 : decode c_M_leave 171 = .ok (.iinc 9 1, 3) := by decide +kernel
theorem d_M_leave_174 : decode c_M_leave 174 = .ok (.goto (-65), 3) := by decide +kernel
theorem d_M_leave_177 : decode c_M_leave 177 = .ok (.iinc 6 1, 3) := by decide +kernel
theorem d_M_leave_180 : decode c_M_leave 180 = .ok (.goto (-90), 3) := by decide +kernel
theorem d_M_leave_183 : decode c_M_leave 183 = .ok (.iconst 0, 1) := by decide +kernel
theorem d_M_leave_184 : decode c_M_leave 184 = .ok (.istore 6, 2) := by decide +kernel
theorem d_M_leave_186 : decode c_M_leave 186 = .ok (.iload 4, 2) := by decide +kernel
theorem d_M_leave_188 : decode c_M_leave 188 = .ok (.ifCond .eq 34, 3) := by decide +kernel
theorem d_M_leave_191 : decode c_M_leave 191 = .ok (.aload_n 0, 1) := by decide +kernel
theorem d_M_leave_192 : decode c_M_leave 192 = .ok (.invokevirtual 172, 3) := by decide +kernel
theorem d_M_leave_195 : decode c_M_leave 195 = .ok (.iload 6, 2) := by decide +kernel
theorem d_M_leave_197 : decode c_M_leave 197 = .ok (.aload_n 0, 1) := by decide +kernel
theorem d_M_leave_198 : decode c_M_leave 198 = .ok (.getfield 108, 3) := by decide +kernel
theorem d_M_leave_201 : decode c_M_leave 201 = .ok (.if_icmp .ge 21, 3) := by decide +kernel
theorem d_M_leave_204 : decode c_M_leave 204 = .ok (.aload_n 0, 1) := by decide +kernel
theorem d_M_leave_205 : decode c_M_leave 205 = .ok (.getfield 89, 3) := by decide +kernel
theorem d_M_leave_208 : decode c_M_leave 208 = .ok (.iload 6, 2) := by decide +kernel
theorem d_M_leave_210 : decode c_M_leave 210 = .ok (.iaload, 1) := by decide +kernel
theorem d_M_leave_211 : decode c_M_leave 211 = .ok (.iload 5, 2) := by decide +kernel
theorem d_M_leave_213 : decode c_M_leave 213 = .ok (.if_icmp .ge 9, 3) := by decide +kernel
theorem d_M_leave_216 : decode c_M_leave 216 = .ok (.iinc 6 1, 3) := by decide +kernel
theorem d_M_leave_219 : decode c_M_leave 219 = .ok (.goto (-24), 3) := by decide +kernel
theorem d_M_leave_222 : decode c_M_leave 222 = .ok (.aload_n 0, 1) := by decide +kernel
theorem d_M_leave_223 : decode c_M_leave 223 = .ok (.iload 6, 2) := by decide +kernel
theorem d_M_leave_225 : decode c_M_leave 225 = .ok (.iload 5, 2) := by decide +kernel
theorem d_M_leave_227 : decode c_M_leave 227 = .ok (.invokevirtual 194, 3) := by decide +kernel
theorem d_M_leave_230 : decode c_M_leave 230 = .ok (.aload_n 0, 1) := by decide +kernel
theorem d_M_leave_231 : decode c_M_leave 231 = .ok (.iload_n 1, 1) := by decide +kernel
theorem d_M_leave_232 : decode c_M_leave 232 = .ok (.invokevirtual 188, 3) := by decide +kernel
theorem d_M_leave_235 : decode c_M_leave 235 = .ok (.ireturn, 1) := by decide +kernel
theorem d_M_shift_0 : decode c_M_shift 0 = .ok (.iload_n 1, 1) := by decide +kernel
theorem d_M_shift_1 : decode c_M_shift 1 = .ok (.istore_n 3, 1) := by decide +kernel
theorem d_M_shift_2 : decode c_M_shift 2 = .ok (.iload_n 3, 1) := by decide +kernel
theorem d_M_shift_3 : decode c_M_shift 3 = .ok (.aload_n 0, 1) := by decide +kernel
theorem d_M_shift_4 : decode c_M_shift 4 = .ok (.getfield 108, 3) := by decide +kernel
theorem d_M_shift_7 : decode c_M_shift 7 = .ok (.if_icmp .ge 104, 3) := by decide +kernel
theorem d_M_shift_10 : decode c_M_shift 10 = .ok (.iload_n 2, 1) := by decide +kernel
theorem d_M_shift_11 : decode c_M_shift 11 = .ok (.istore 4, 2) := by decide +kernel
theorem d_M_shift_13 : decode c_M_shift 13 = .ok (.iload 4, 2) := by decide +kernel
theorem d_M_shift_15 : decode c_M_shift 15 = .ok (.aload_n 0, 1) := by decide +kernel
theorem d_M_shift_16 : decode c_M_shift 16 = .ok (.getfield 111, 3) := by decide +kernel
theorem d_M_shift_19 : decode c_M_shift 19 = .ok (.if_icmp .ge 86, 3) := by decide +kernel
theorem d_M_shift_22 : decode c_M_shift 22 = .ok (.bipush 12, 2) := by decide +kernel
theorem d_M_shift_24 : decode c_M_shift 24 = .ok (.iload_n 3, 1) := by decide +kernel
theorem d_M_shift_25 : decode c_M_shift 25 = .ok (.imul, 1) := by decide +kernel
theorem d_M_shift_26 : decode c_M_shift 26 = .ok (.iload 4, 2) := by decide +kernel
theorem d_M_shift_28 : decode c_M_shift 28 = .ok (.iadd, 1) := by decide +kernel
theorem d_M_shift_29 : decode c_M_shift 29 = .ok (.istore 5, 2) := by decide +kernel
theorem d_M_shift_31 : decode c_M_shift 31 = .ok (.bipush 12, 2) := by decide +kernel
theorem d_M_shift_33 : decode c_M_shift 33 = .ok (.iload_n 3, 1) := by decide +kernel
theorem d_M_shift_34 : decode c_M_shift 34 = .ok (.iload_n 1, 1) := by decide +kernel
theorem d_M_shift_35 : decode c_M_shift 35 = .ok (.isub, 1) := by decide +kernel
theorem d_M_shift_36 : decode c_M_shift 36 = .ok (.imul, 1) := by decide +kernel
theorem d_M_shift_37 : decode c_M_shift 37 = .ok (.iload 4, 2) := by decide +kernel
theorem d_M_shift_39 : decode c_M_shift 39 = .ok (.iadd, 1) := by decide +kernel
theorem d_M_shift_40 : decode c_M_shift 40 = .ok (.iload_n 2, 1) := by decide +kernel
theorem d_M_shift_41 : decode c_M_shift 41 = .ok (.isub, 1) := by decide +kernel
theorem d_M_shift_42 : decode c_M_shift 42 = .ok (.istore 6, 2) := by decide +kernel
theorem d_M_shift_44 : decode c_M_shift 44 = .ok (.iload 5, 2) := by decide +kernel
theorem d_M_shift_46 : decode c_M_shift 46 = .ok (.iload 6, 2) := by decide +kernel
theorem d_M_shift_48 : decode c_M_shift 48 = .ok (.if_icmp .eq 51, 3) := by decide +kernel
theorem d_M_shift_51 : decode c_M_shift 51 = .ok (.aload_n 0, 1) := by decide +kernel
theorem d_M_shift_52 : decode c_M_shift 52 = .ok (.getfield 79, 3) := by decide +kernel
theorem d_M_shift_55 : decode c_M_shift 55 = .ok (.iload 6, 2) := by decide +kernel
theorem d_M_shift_57 : decode c_M_shift 57 = .ok (.aaload, 1) := by decide +kernel
theorem d_M_shift_58 : decode c_M_shift 58 = .ok (.aload_n 0, 1) := by decide +kernel
theorem d_M_shift_59 : decode c_M_shift 59 = .ok (.getfield 79, 3) := by decide +kernel
theorem d_M_shift_62 : decode c_M_shift 62 = .ok (.iload 5, 2) := by decide +kernel
theorem d_M_shift_64 : decode c_M_shift 64 = .ok (.aaload, 1) := by decide +kernel
theorem d_M_shift_65 : decode c_M_shift 65 = .ok (.invokevirtual 7, 3) := by decide +kernel
theorem d_M_shift_68 : decode c_M_shift 68 = .ok (.aload_n 0, 1) := by decide +kernel
theorem d_M_shift_69 : decode c_M_shift 69 = .ok (.getfield 83, 3) := by decide +kernel
theorem d_M_shift_72 : decode c_M_shift 72 = .ok (.iload 6, 2) := by decide +kernel
theorem d_M_shift_74 : decode c_M_shift 74 = .ok (.aaload, 1) := by decide +kernel
theorem d_M_shift_75 : decode c_M_shift 75 = .ok (.aload_n 0, 1) := by decide +kernel
theorem d_M_shift_76 : decode c_M_shift 76 = .ok (.getfield 83, 3) := by decide +kernel
theorem d_M_shift_79 : decode c_M_shift 79 = .ok (.iload 5, 2) := by decide +kernel
theorem d_M_shift_81 : decode c_M_shift 81 = .ok (.aaload, 1) := by decide +kernel
theorem d_M_shift_82 : decode c_M_shift 82 = .ok (.invokevirtual 7, 3) := by decide +kernel
theorem d_M_shift_85 : decode c_M_shift 85 = .ok (.aload_n 0, 1) := by decide +kernel
theorem d_M_shift_86 : decode c_M_shift 86 = .ok (.getfield 86, 3) := by decide +kernel
theorem d_M_shift_89 : decode c_M_shift 89 = .ok (.iload 6, 2) := by decide +kernel
theorem d_M_shift_91 : decode c_M_shift 91 = .ok (.aload_n 0, 1) := by decide +kernel
theorem d_M_shift_92 : decode c_M_shift 92 = .ok (.getfield 86, 3) := by decide +kernel
theorem d_M_shift_95 : decode c_M_shift 95 = .ok (.iload 5, 2) := by decide +kernel
theorem d_M_shift_97 : decode c_M_shift 97 = .ok (.iaload, 1) := by decide +kernel
theorem d_M_shift_98 : decode c_M_shift 98 = .ok (.iastore, 1) := by decide +kernel
theorem d_M_shift_99 : decode c_M_shift 99 = .ok (.iinc 4 1, 3) := by decide +kernel
theorem d_M_shift_102 : decode c_M_shift 102 = .ok (.goto (-89), 3) := by decide +kernel
theorem d_M_shift_105 : decode c_M_shift 105 = .ok (.iinc 3 1, 3) := by decide +kernel
theorem d_M_shift_108 : decode c_M_shift 108 = .ok (.goto (-106), 3) := by decide +kernel
theorem d_M_shift_111 : decode c_M_shift 111 = .ok (.aload_n 0, 1) := by decide +kernel
theorem d_M_shift_112 : decode c_M_shift 112 = .ok (.dup, 1) := by decide +kernel
theorem d_M_shift_113 : decode c_M_shift 113 = .ok (.getfield 108, 3) := by decide +kernel
theorem d_M_shift_116 : decode c_M_shift 116 = .ok (.iload_n 1, 1) := by decide +kernel
theorem d_M_shift_117 : decode c_M_shift 117 = .ok (.isub, 1) := by decide +kernel
theorem d_M_shift_118 : decode c_M_shift 118 = .ok (.putfield 108, 3) := by decide +kernel
theorem d_M_shift_121 : decode c_M_shift 121 = .ok (.aload_n 0, 1) := by decide +kernel
theorem d_M_shift_122 : decode c_M_shift 122 = .ok (.dup, 1) := by decide +kernel
theorem d_M_shift_123 : decode c_M_shift 123 = .ok (.getfield 111, 3) := by decide +kernel
theorem d_M_shift_126 : decode c_M_shift 126 = .ok (.iload_n 2, 1) := by decide +kernel
theorem d_M_shift_127 : decode c_M_shift 127 = .ok (.isub, 1) := by decide +kernel
theorem d_M_shift_128 : decode c_M_shift 128 = .ok (.putfield 111, 3) := by decide +kernel
theorem d_M_shift_131 : decode c_M_shift 131 = .ok (.return_, 1) := by decide +kernel
theorem d_M_sum_0 : decode c_M_sum 0 = .ok (.iload_n 1, 1) := by decide +kernel
theorem d_M_sum_1 : decode c_M_sum 1 = .ok (.invokestatic 101, 3) := by decide +kernel
theorem d_M_sum_4 : decode c_M_sum 4 = .ok (.ifCond .eq 52, 3) := by decide +kernel
theorem d_M_sum_7 : decode c_M_sum 7 = .ok (.aload_n 0, 1) := by decide +kernel
theorem d_M_sum_8 : decode c_M_sum 8 = .ok (.iload_n 2, 1) := by decide +kernel
theorem d_M_sum_9 : decode c_M_sum 9 = .ok (.invokevirtual 191, 3) := by decide +kernel
theorem d_M_sum_12 : decode c_M_sum 12 = .ok (.ifCond .eq 44, 3) := by decide +kernel
theorem d_M_sum_15 : decode c_M_sum 15 = .ok (.aload_n 0, 1) := by decide +kernel
theorem d_M_sum_16 : decode c_M_sum 16 = .ok (.iload_n 3, 1) := by decide +kernel
theorem d_M_sum_17 : decode c_M_sum 17 = .ok (.invokevirtual 191, 3) := by decide +kernel
theorem d_M_sum_20 : decode c_M_sum 20 = .ok (.ifCond .eq 36, 3) := by decide +kernel
theorem d_M_sum_23 : decode c_M_sum 23 = .ok (.aload_n 0, 1) := by decide +kernel
theorem d_M_sum_24 : decode c_M_sum 24 = .ok (.getfield 53, 3) := by decide +kernel
theorem d_M_sum_27 : decode c_M_sum 27 = .ok (.iload_n 2, 1) := by decide +kernel
theorem d_M_sum_28 : decode c_M_sum 28 = .ok (.iaload, 1) := by decide +kernel
theorem d_M_sum_29 : decode c_M_sum 29 = .ok (.aload_n 0, 1) := by decide +kernel
theorem d_M_sum_30 : decode c_M_sum 30 = .ok (.getfield 53, 3) := by decide +kernel
theorem d_M_sum_33 : decode c_M_sum 33 = .ok (.iload_n 3, 1) := by decide +kernel
theorem d_M_sum_34 : decode c_M_sum 34 = .ok (.iaload, 1) := by decide +kernel
theorem d_M_sum_35 : decode c_M_sum 35 = .ok (.if_icmp .ne 21, 3) := by decide +kernel
theorem d_M_sum_38 : decode c_M_sum 38 = .ok (.aload_n 0, 1) := by decide +kernel
theorem d_M_sum_39 : decode c_M_sum 39 = .ok (.getfield 60, 3) := by decide +kernel
theorem d_M_sum_42 : decode c_M_sum 42 = .ok (.iload_n 2, 1) := by decide +kernel
theorem d_M_sum_43 : decode c_M_sum 43 = .ok (.iaload, 1) := by decide +kernel
theorem d_M_sum_44 : decode c_M_sum 44 = .ok (.aload_n 0, 1) := by decide +kernel
theorem d_M_sum_45 : decode c_M_sum 45 = .ok (.getfield 60, 3) := by decide +kernel
theorem d_M_sum_48 : decode c_M_sum 48 = .ok (.iload_n 3, 1) := by decide +kernel
theorem d_M_sum_49 : decode c_M_sum 49 = .ok (.iaload, 1) := by decide +kernel
theorem d_M_sum_50 : decode c_M_sum 50 = .ok (.iadd, 1) := by decide +kernel
theorem d_M_sum_51 : decode c_M_sum 51 = .ok (.bipush 12, 2) := by decide +kernel
theorem d_M_sum_53 : decode c_M_sum 53 = .ok (.if_icmp .le 5, 3) := by decide +kernel
theorem d_M_sum_56 : decode c_M_sum 56 = .ok (.iconst (-1), 1) := by decide +kernel
theorem d_M_sum_57 : decode c_M_sum 57 = .ok (.ireturn, 1) := by decide +kernel
theorem d_M_sum_58 : decode c_M_sum 58 = .ok (.aload_n 0, 1) := by decide +kernel
theorem d_M_sum_59 : decode c_M_sum 59 = .ok (.aload_n 0, 1) := by decide +kernel
theorem d_M_sum_60 : decode c_M_sum 60 = .ok (.getfield 53, 3) := by decide +kernel
theorem d_M_sum_63 : decode c_M_sum 63 = .ok (.iload_n 2, 1) := by decide +kernel
theorem d_M_sum_64 : decode c_M_sum 64 = .ok (.iaload, 1) := by decide +kernel
theorem d_M_sum_65 : decode c_M_sum 65 = .ok (.aload_n 0, 1) := by decide +kernel
theorem d_M_sum_66 : decode c_M_sum 66 = .ok (.getfield 57, 3) := by decide +kernel
theorem d_M_sum_69 : decode c_M_sum 69 = .ok (.iload_n 2, 1) := by decide +kernel
theorem d_M_sum_70 : decode c_M_sum 70 = .ok (.iaload, 1) := by decide +kernel
theorem d_M_sum_71 : decode c_M_sum 71 = .ok (.aload_n 0, 1) := by decide +kernel
theorem d_M_sum_72 : decode c_M_sum 72 = .ok (.getfield 57, 3) := by decide +kernel
theorem d_M_sum_75 : decode c_M_sum 75 = .ok (.iload_n 3, 1) := by decide +kernel
theorem d_M_sum_76 : decode c_M_sum 76 = .ok (.iaload, 1) := by decide +kernel
theorem d_M_sum_77 : decode c_M_sum 77 = .ok (.iadd, 1) := by decide +kernel
theorem d_M_sum_78 : decode c_M_sum 78 = .ok (.aload_n 0, 1) := by decide +kernel
theorem d_M_sum_79 : decode c_M_sum 79 = .ok (.getfield 60, 3) := by decide +kernel
theorem d_M_sum_82 : decode c_M_sum 82 = .ok (.iload_n 2, 1) := by decide +kernel
theorem d_M_sum_83 : decode c_M_sum 83 = .ok (.iaload, 1) := by decide +kernel
theorem d_M_sum_84 : decode c_M_sum 84 = .ok (.aload_n 0, 1) := by decide +kernel
theorem d_M_sum_85 : decode c_M_sum 85 = .ok (.getfield 60, 3) := by decide +kernel
theorem d_M_sum_88 : decode c_M_sum 88 = .ok (.iload_n 3, 1) := by decide +kernel
theorem d_M_sum_89 : decode c_M_sum 89 = .ok (.iaload, 1) := by decide +kernel
theorem d_M_sum_90 : decode c_M_sum 90 = .ok (.iadd, 1) := by decide +kernel
theorem d_M_sum_91 : decode c_M_sum 91 = .ok (.invokevirtual 127, 3) := by decide +kernel
theorem d_M_sum_94 : decode c_M_sum 94 = .ok (.iconst 0, 1) := by decide +kernel
theorem d_M_sum_95 : decode c_M_sum 95 = .ok (.istore 4, 2) := by decide +kernel
theorem d_M_sum_97 : decode c_M_sum 97 = .ok (.iload 4, 2) := by decide +kernel
theorem d_M_sum_99 : decode c_M_sum 99 = .ok (.aload_n 0, 1) := by decide +kernel
theorem d_M_sum_100 : decode c_M_sum 100 = .ok (.getfield 57, 3) := by decide +kernel
theorem d_M_sum_103 : decode c_M_sum 103 = .ok (.iload_n 2, 1) := by decide +kernel
theorem d_M_sum_104 : decode c_M_sum 104 = .ok (.iaload, 1) := by decide +kernel
theorem d_M_sum_105 : decode c_M_sum 105 = .ok (.if_icmp .ge 46, 3) := by decide +kernel
theorem d_M_sum_108 : decode c_M_sum 108 = .ok (.iconst 0, 1) := by decide +kernel
theorem d_M_sum_109 : decode c_M_sum 109 = .ok (.istore 5, 2) := by decide +kernel
theorem d_M_sum_111 : decode c_M_sum 111 = .ok (.iload 5, 2) := by decide +kernel
theorem d_M_sum_113 : decode c_M_sum 113 = .ok (.aload_n 0, 1) := by decide +kernel
theorem d_M_sum_114 : decode c_M_sum 114 = .ok (.getfield 60, 3) := by decide +kernel
theorem d_M_sum_117 : decode c_M_sum 117 = .ok (.iload_n 2, 1) := by decide +kernel
theorem d_M_sum_118 : decode c_M_sum 118 = .ok (.iaload, 1) := by decide +kernel
theorem d_M_sum_119 : decode c_M_sum 119 = .ok (.if_icmp .ge 26, 3) := by decide +kernel
theorem d_M_sum_122 : decode c_M_sum 122 = .ok (.aload_n 0, 1) := by decide +kernel
theorem d_M_sum_123 : decode c_M_sum 123 = .ok (.iload_n 2, 1) := by decide +kernel
theorem d_M_sum_124 : decode c_M_sum 124 = .ok (.iload 4, 2) := by decide +kernel
theorem d_M_sum_126 : decode c_M_sum 126 = .ok (.iload 5, 2) := by decide +kernel
theorem d_M_sum_128 : decode c_M_sum 128 = .ok (.bipush 12, 2) := by decide +kernel
theorem d_M_sum_130 : decode c_M_sum 130 = .ok (.iload 4, 2) := by decide +kernel
theorem d_M_sum_132 : decode c_M_sum 132 = .ok (.imul, 1) := by decide +kernel
theorem d_M_sum_133 : decode c_M_sum 133 = .ok (.iload 5, 2) := by decide +kernel
theorem d_M_sum_135 : decode c_M_sum 135 = .ok (.iadd, 1) := by decide +kernel
theorem d_M_sum_136 : decode c_M_sum 136 = .ok (.invokevirtual 131, 3) := by decide +kernel
theorem d_M_sum_139 : decode c_M_sum 139 = .ok (.iinc 5 1, 3) := by decide +kernel
theorem d_M_sum_142 : decode c_M_sum 142 = .ok (.goto (-31), 3) := by decide +kernel
theorem d_M_sum_145 : decode c_M_sum 145 = .ok (.iinc 4 1, 3) := by decide +kernel
theorem d_M_sum_148 : decode c_M_sum 148 = .ok (.goto (-51), 3) := by decide +kernel
theorem d_M_sum_151 : decode c_M_sum 151 = .ok (.iconst 0, 1) := by decide +kernel
theorem d_M_sum_152 : decode c_M_sum 152 = .ok (.istore 4, 2) := by decide +kernel
theorem d_M_sum_154 : decode c_M_sum 154 = .ok (.iload 4, 2) := by decide +kernel
theorem d_M_sum_156 : decode c_M_sum 156 = .ok (.aload_n 0, 1) := by decide +kernel
theorem d_M_sum_157 : decode c_M_sum 157 = .ok (.getfield 57, 3) := by decide +kernel
theorem d_M_sum_160 : decode c_M_sum 160 = .ok (.iload_n 3, 1) := by decide +kernel
theorem d_M_sum_161 : decode c_M_sum 161 = .ok (.iaload, 1) := by decide +kernel
theorem d_M_sum_162 : decode c_M_sum 162 = .ok (.if_icmp .ge 60, 3) := by decide +kernel
theorem d_M_sum_165 : decode c_M_sum 165 = .ok (.iconst 0, 1) := by decide +kernel
theorem d_M_sum_166 : decode c_M_sum 166 = .ok (.istore 5, 2) := by decide +kernel
theorem d_M_sum_168 : decode c_M_sum 168 = .ok (.iload 5, 2) := by decide +kernel
theorem d_M_sum_170 : decode c_M_sum 170 = .ok (.aload_n 0, 1) := by decide +kernel
theorem d_M_sum_171 : decode c_M_sum 171 = .ok (.getfield 60, 3) := by decide +kernel
theorem d_M_sum_174 : decode c_M_sum 174 = .ok (.iload_n 3, 1) := by decide +kernel
theorem d_M_sum_175 : decode c_M_sum 175 = .ok (.iaload, 1) := by decide +kernel
theorem d_M_sum_176 : decode c_M_sum 176 = .ok (.if_icmp .ge 40, 3) := by decide +kernel
theorem d_M_sum_179 : decode c_M_sum 179 = .ok (.aload_n 0, 1) := by decide +kernel
theorem d_M_sum_180 : decode c_M_sum 180 = .ok (.iload_n 3, 1) := by decide +kernel
theorem d_M_sum_181 : decode c_M_sum 181 = .ok (.iload 4, 2) := by decide +kernel
theorem d_M_sum_183 : decode c_M_sum 183 = .ok (.iload 5, 2) := by decide +kernel
theorem d_M_sum_185 : decode c_M_sum 185 = .ok (.bipush 12, 2) := by decide +kernel
theorem d_M_sum_187 : decode c_M_sum 187 = .ok (.aload_n 0, 1) := by decide +kernel
theorem d_M_sum_188 : decode c_M_sum 188 = .ok (.getfield 57, 3) := by decide +kernel
theorem d_M_sum_191 : decode c_M_sum 191 = .ok (.iload_n 2, 1) := by decide +kernel
theorem d_M_sum_192 : decode c_M_sum 192 = .ok (.iaload, 1) := by decide +kernel
theorem d_M_sum_193 : decode c_M_sum 193 = .ok (.iload 4, 2) := by decide +kernel
theorem d_M_sum_195 : decode c_M_sum 195 = .ok (.iadd, 1) := by decide +kernel
theorem d_M_sum_196 : decode c_M_sum 196 = .ok (.imul, 1) := by decide +kernel
theorem d_M_sum_197 : decode c_M_sum 197 = .ok (.aload_n 0, 1) := by decide +kernel
theorem d_M_sum_198 : decode c_M_sum 198 = .ok (.getfield 60, 3) := by decide +kernel
theorem d_M_sum_201 : decode c_M_sum 201 = .ok (.iload_n 2, 1) := by decide +kernel
theorem d_M_sum_202 : decode c_M_sum 202 = .ok (.iaload, 1) := by decide +kernel
theorem d_M_sum_203 : decode c_M_sum 203 = .ok (.iadd, 1) := by decide +kernel
theorem d_M_sum_204 : decode c_M_sum 204 = .ok (.iload 5, 2) := by decide +kernel
theorem d_M_sum_206 : decode c_M_sum 206 = .ok (.iadd, 1) := by decide +kernel
theorem d_M_sum_207 : decode c_M_sum 207 = .ok (.invokevirtual 131, 3) := by decide +kernel
theorem d_M_sum_210 : decode c_M_sum 210 = .ok (.iinc 5 1, 3) := by decide +kernel
theorem d_M_sum_213 : decode c_M_sum 213 = .ok (.goto (-45), 3) := by decide +kernel
theorem d_M_sum_216 : decode c_M_sum 216 = .ok (.iinc 4 1, 3) := by decide +kernel
theorem d_M_sum_219 : decode c_M_sum 219 = .ok (.goto (-65), 3) := by decide +kernel
theorem d_M_sum_222 : decode c_M_sum 222 = .ok (.aload_n 0, 1) := by decide +kernel
theorem d_M_sum_223 : decode c_M_sum 223 = .ok (.iload_n 1, 1) := by decide +kernel
theorem d_M_sum_224 : decode c_M_sum 224 = .ok (.invokevirtual 188, 3) := by decide +kernel
theorem d_M_sum_227 : decode c_M_sum 227 = .ok (.ireturn, 1) := by decide +kernel
theorem d_M_of_0 : decode c_M_of 0 = .ok (.iload_n 1, 1) := by decide +kernel
theorem d_M_of_1 : decode c_M_of 1 = .ok (.invokestatic 101, 3) := by decide +kernel
theorem d_M_of_4 : decode c_M_of 4 = .ok (.ifCond .ne 5, 3) := by decide +kernel
theorem d_M_of_7 : decode c_M_of 7 = .ok (.iconst (-1), 1) := by decide +kernel
theorem d_M_of_8 : decode c_M_of 8 = .ok (.ireturn, 1) := by decide +kernel
theorem d_M_of_9 : decode c_M_of 9 = .ok (.iload_n 2, 1) := by decide +kernel
theorem d_M_of_10 : decode c_M_of 10 = .ok (.ifCond .ne 12, 3) := by decide +kernel
theorem d_M_of_13 : decode c_M_of 13 = .ok (.aload_n 0, 1) := by decide +kernel
theorem d_M_of_14 : decode c_M_of 14 = .ok (.getfield 53, 3) := by decide +kernel
theorem d_M_of_17 : decode c_M_of 17 = .ok (.iload_n 1, 1) := by decide +kernel
theorem d_M_of_18 : decode c_M_of 18 = .ok (.iaload, 1) := by decide +kernel
theorem d_M_of_19 : decode c_M_of 19 = .ok (.goto 54, 3) := by decide +kernel
theorem d_M_of_22 : decode c_M_of 22 = .ok (.iload_n 2, 1) := by decide +kernel
theorem d_M_of_23 : decode c_M_of 23 = .ok (.iconst 1, 1) := by decide +kernel
theorem d_M_of_24 : decode c_M_of 24 = .ok (.if_icmp .ne 12, 3) := by decide +kernel
theorem d_M_of_27 : decode c_M_of 27 = .ok (.aload_n 0, 1) := by decide +kernel
theorem d_M_of_28 : decode c_M_of 28 = .ok (.getfield 57, 3) := by decide +kernel
theorem d_M_of_31 : decode c_M_of 31 = .ok (.iload_n 1, 1) := by decide +kernel
theorem d_M_of_32 : decode c_M_of 32 = .ok (.iaload, 1) := by decide +kernel
theorem d_M_of_33 : decode c_M_of 33 = .ok (.goto 40, 3) := by decide +kernel
theorem d_M_of_36 : decode c_M_of 36 = .ok (.iload_n 2, 1) := by decide +kernel
theorem d_M_of_37 : decode c_M_of 37 = .ok (.iconst 2, 1) := by decide +kernel
theorem d_M_of_38 : decode c_M_of 38 = .ok (.if_icmp .ne 12, 3) := by decide +kernel
theorem d_M_of_41 : decode c_M_of 41 = .ok (.aload_n 0, 1) := by decide +kernel
theorem d_M_of_42 : decode c_M_of 42 = .ok (.getfield 60, 3) := by decide +kernel
theorem d_M_of_45 : decode c_M_of 45 = .ok (.iload_n 1, 1) := by decide +kernel
theorem d_M_of_46 : decode c_M_of 46 = .ok (.iaload, 1) := by decide +kernel
theorem d_M_of_47 : decode c_M_of 47 = .ok (.goto 26, 3) := by decide +kernel
theorem d_M_of_50 : decode c_M_of 50 = .ok (.iload_n 2, 1) := by decide +kernel
theorem d_M_of_51 : decode c_M_of 51 = .ok (.iconst 3, 1) := by decide +kernel
theorem d_M_of_52 : decode c_M_of 52 = .ok (.if_icmp .ne 20, 3) := by decide +kernel
theorem d_M_of_55 : decode c_M_of 55 = .ok (.aload_n 0, 1) := by decide +kernel
theorem d_M_of_56 : decode c_M_of 56 = .ok (.getfield 63, 3) := by decide +kernel
theorem d_M_of_59 : decode c_M_of 59 = .ok (.iload_n 1, 1) := by decide +kernel
theorem d_M_of_60 : decode c_M_of 60 = .ok (.baload, 1) := by decide +kernel
theorem d_M_of_61 : decode c_M_of 61 = .ok (.ifCond .eq 7, 3) := by decide +kernel
theorem d_M_of_64 : decode c_M_of 64 = .ok (.iconst 0, 1) := by decide +kernel
theorem d_M_of_65 : decode c_M_of 65 = .ok (.goto 8, 3) := by decide +kernel
theorem d_M_of_68 : decode c_M_of 68 = .ok (.iconst 1, 1) := by decide +kernel
theorem d_M_of_69 : decode c_M_of 69 = .ok (.goto 4, 3) := by decide +kernel
theorem d_M_of_72 : decode c_M_of 72 = .ok (.iconst (-1), 1) := by decide +kernel
theorem d_M_of_73 : decode c_M_of 73 = .ok (.ireturn, 1) := by decide +kernel
theorem d_M_place_0 : decode c_M_place 0 = .ok (.aload_n 0, 1) := by decide +kernel
theorem d_M_place_1 : decode c_M_place 1 = .ok (.iload_n 1, 1) := by decide +kernel
theorem d_M_place_2 : decode c_M_place 2 = .ok (.invokevirtual 191, 3) := by decide +kernel
theorem d_M_place_5 : decode c_M_place 5 = .ok (.ifCond .eq 31, 3) := by decide +kernel
theorem d_M_place_8 : decode c_M_place 8 = .ok (.iload_n 2, 1) := by decide +kernel
theorem d_M_place_9 : decode c_M_place 9 = .ok (.ifCond .lt 27, 3) := by decide +kernel
theorem d_M_place_12 : decode c_M_place 12 = .ok (.iload_n 2, 1) := by decide +kernel
theorem d_M_place_13 : decode c_M_place 13 = .ok (.aload_n 0, 1) := by decide +kernel
theorem d_M_place_14 : decode c_M_place 14 = .ok (.getfield 57, 3) := by decide +kernel
theorem d_M_place_17 : decode c_M_place 17 = .ok (.iload_n 1, 1) := by decide +kernel
theorem d_M_place_18 : decode c_M_place 18 = .ok (.iaload, 1) := by decide +kernel
theorem d_M_place_19 : decode c_M_place 19 = .ok (.if_icmp .ge 17, 3) := by decide +kernel
theorem d_M_place_22 : decode c_M_place 22 = .ok (.aload_n 0, 1) := by decide +kernel
theorem d_M_place_23 : decode c_M_place 23 = .ok (.getfield 67, 3) := by decide +kernel
theorem d_M_place_26 : decode c_M_place 26 = .ok (.bipush 12, 2) := by decide +kernel
theorem d_M_place_28 : decode c_M_place 28 = .ok (.iload_n 1, 1) := by decide +kernel
theorem d_M_place_29 : decode c_M_place 29 = .ok (.imul, 1) := by decide +kernel
theorem d_M_place_30 : decode c_M_place 30 = .ok (.iload_n 2, 1) := by decide +kernel
theorem d_M_place_31 : decode c_M_place 31 = .ok (.iadd, 1) := by decide +kernel
theorem d_M_place_32 : decode c_M_place 32 = .ok (.iaload, 1) := by decide +kernel
theorem d_M_place_33 : decode c_M_place 33 = .ok (.goto 4, 3) := by decide +kernel
theorem d_M_place_36 : decode c_M_place 36 = .ok (.iconst (-1), 1) := by decide +kernel
theorem d_M_place_37 : decode c_M_place 37 = .ok (.ireturn, 1) := by decide +kernel
theorem d_M_sign_0 : decode c_M_sign 0 = .ok (.aload_n 0, 1) := by decide +kernel
theorem d_M_sign_1 : decode c_M_sign 1 = .ok (.iload_n 1, 1) := by decide +kernel
theorem d_M_sign_2 : decode c_M_sign 2 = .ok (.iload_n 2, 1) := by decide +kernel
theorem d_M_sign_3 : decode c_M_sign 3 = .ok (.iload_n 3, 1) := by decide +kernel
theorem d_M_sign_4 : decode c_M_sign 4 = .ok (.invokevirtual 181, 3) := by decide +kernel
theorem d_M_sign_7 : decode c_M_sign 7 = .ok (.ifCond .ne 5, 3) := by decide +kernel
theorem d_M_sign_10 : decode c_M_sign 10 = .ok (.iconst 0, 1) := by decide +kernel
theorem d_M_sign_11 : decode c_M_sign 11 = .ok (.ireturn, 1) := by decide +kernel
theorem d_M_sign_12 : decode c_M_sign 12 = .ok (.sipush 144, 3) := by decide +kernel
theorem d_M_sign_15 : decode c_M_sign 15 = .ok (.iload_n 1, 1) := by decide +kernel
theorem d_M_sign_16 : decode c_M_sign 16 = .ok (.imul, 1) := by decide +kernel
theorem d_M_sign_17 : decode c_M_sign 17 = .ok (.bipush 12, 2) := by decide +kernel
theorem d_M_sign_19 : decode c_M_sign 19 = .ok (.iload_n 2, 1) := by decide +kernel
theorem d_M_sign_20 : decode c_M_sign 20 = .ok (.imul, 1) := by decide +kernel
theorem d_M_sign_21 : decode c_M_sign 21 = .ok (.iadd, 1) := by decide +kernel
theorem d_M_sign_22 : decode c_M_sign 22 = .ok (.iload_n 3, 1) := by decide +kernel
theorem d_M_sign_23 : decode c_M_sign 23 = .ok (.iadd, 1) := by decide +kernel
theorem d_M_sign_24 : decode c_M_sign 24 = .ok (.istore 4, 2) := by decide +kernel
theorem d_M_sign_26 : decode c_M_sign 26 = .ok (.aload_n 0, 1) := by decide +kernel
theorem d_M_sign_27 : decode c_M_sign 27 = .ok (.getfield 53, 3) := by decide +kernel
theorem d_M_sign_30 : decode c_M_sign 30 = .ok (.iload_n 1, 1) := by decide +kernel
theorem d_M_sign_31 : decode c_M_sign 31 = .ok (.iaload, 1) := by decide +kernel
theorem d_M_sign_32 : decode c_M_sign 32 = .ok (.ifCond .ne 16, 3) := by decide +kernel
theorem d_M_sign_35 : decode c_M_sign 35 = .ok (.aload_n 0, 1) := by decide +kernel
theorem d_M_sign_36 : decode c_M_sign 36 = .ok (.getfield 70, 3) := by decide +kernel
theorem d_M_sign_39 : decode c_M_sign 39 = .ok (.bipush 16, 2) := by decide +kernel
theorem d_M_sign_41 : decode c_M_sign 41 = .ok (.iload 4, 2) := by decide +kernel
theorem d_M_sign_43 : decode c_M_sign 43 = .ok (.imul, 1) := by decide +kernel
theorem d_M_sign_44 : decode c_M_sign 44 = .ok (.iaload, 1) := by decide +kernel
theorem d_M_sign_45 : decode c_M_sign 45 = .ok (.goto 10, 3) := by decide +kernel
theorem d_M_sign_48 : decode c_M_sign 48 = .ok (.aload_n 0, 1) := by decide +kernel
theorem d_M_sign_49 : decode c_M_sign 49 = .ok (.getfield 76, 3) := by decide +kernel
theorem d_M_sign_52 : decode c_M_sign 52 = .ok (.iload 4, 2) := by decide +kernel
theorem d_M_sign_54 : decode c_M_sign 54 = .ok (.iaload, 1) := by decide +kernel
theorem d_M_sign_55 : decode c_M_sign 55 = .ok (.istore 5, 2) := by decide +kernel
theorem d_M_sign_57 : decode c_M_sign 57 = .ok (.iload 5, 2) := by decide +kernel
theorem d_M_sign_59 : decode c_M_sign 59 = .ok (.ifCond .ge 7, 3) := by decide +kernel
theorem d_M_sign_62 : decode c_M_sign 62 = .ok (.iconst (-1), 1) := by decide +kernel
theorem d_M_sign_63 : decode c_M_sign 63 = .ok (.goto 13, 3) := by decide +kernel
theorem d_M_sign_66 : decode c_M_sign 66 = .ok (.iload 5, 2) := by decide +kernel
theorem d_M_sign_68 : decode c_M_sign 68 = .ok (.ifCond .le 7, 3) := by decide +kernel
theorem d_M_sign_71 : decode c_M_sign 71 = .ok (.iconst 1, 1) := by decide +kernel
theorem d_M_sign_72 : decode c_M_sign 72 = .ok (.goto 4, 3) := by decide +kernel
theorem d_M_sign_75 : decode c_M_sign 75 = .ok (.iconst 0, 1) := by decide +kernel
theorem d_M_sign_76 : decode c_M_sign 76 = .ok (.ireturn, 1) := by decide +kernel
theorem d_M_digit_0 : decode c_M_digit 0 = .ok (.aload_n 0, 1) := by decide +kernel
theorem d_M_digit_1 : decode c_M_digit 1 = .ok (.iload_n 1, 1) := by decide +kernel
theorem d_M_digit_2 : decode c_M_digit 2 = .ok (.iload_n 2, 1) := by decide +kernel
theorem d_M_digit_3 : decode c_M_digit 3 = .ok (.iload_n 3, 1) := by decide +kernel
theorem d_M_digit_4 : decode c_M_digit 4 = .ok (.invokevirtual 181, 3) := by decide +kernel
theorem d_M_digit_7 : decode c_M_digit 7 = .ok (.ifCond .eq 8, 3) := by decide +kernel
theorem d_M_digit_10 : decode c_M_digit 10 = .ok (.iload 4, 2) := by decide +kernel
theorem d_M_digit_12 : decode c_M_digit 12 = .ok (.ifCond .ge 5, 3) := by decide +kernel
theorem d_M_digit_15 : decode c_M_digit 15 = .ok (.iconst (-1), 1) := by decide +kernel
theorem d_M_digit_16 : decode c_M_digit 16 = .ok (.ireturn, 1) := by decide +kernel
theorem d_M_digit_17 : decode c_M_digit 17 = .ok (.sipush 144, 3) := by decide +kernel
theorem d_M_digit_20 : decode c_M_digit 20 = .ok (.iload_n 1, 1) := by decide +kernel
theorem d_M_digit_21 : decode c_M_digit 21 = .ok (.imul, 1) := by decide +kernel
theorem d_M_digit_22 : decode c_M_digit 22 = .ok (.bipush 12, 2) := by decide +kernel
theorem d_M_digit_24 : decode c_M_digit 24 = .ok (.iload_n 2, 1) := by decide +kernel
theorem d_M_digit_25 : decode c_M_digit 25 = .ok (.imul, 1) := by decide +kernel
theorem d_M_digit_26 : decode c_M_digit 26 = .ok (.iadd, 1) := by decide +kernel
theorem d_M_digit_27 : decode c_M_digit 27 = .ok (.iload_n 3, 1) := by decide +kernel
theorem d_M_digit_28 : decode c_M_digit 28 = .ok (.iadd, 1) := by decide +kernel
theorem d_M_digit_29 : decode c_M_digit 29 = .ok (.istore 5, 2) := by decide +kernel
theorem d_M_digit_31 : decode c_M_digit 31 = .ok (.aload_n 0, 1) := by decide +kernel
theorem d_M_digit_32 : decode c_M_digit 32 = .ok (.getfield 53, 3) := by decide +kernel
theorem d_M_digit_35 : decode c_M_digit 35 = .ok (.iload_n 1, 1) := by decide +kernel
theorem d_M_digit_36 : decode c_M_digit 36 = .ok (.iaload, 1) := by decide +kernel
theorem d_M_digit_37 : decode c_M_digit 37 = .ok (.ifCond .le 20, 3) := by decide +kernel
theorem d_M_digit_40 : decode c_M_digit 40 = .ok (.iload 4, 2) := by decide +kernel
theorem d_M_digit_42 : decode c_M_digit 42 = .ok (.ifCond .ne 13, 3) := by decide +kernel
theorem d_M_digit_45 : decode c_M_digit 45 = .ok (.aload_n 0, 1) := by decide +kernel
theorem d_M_digit_46 : decode c_M_digit 46 = .ok (.getfield 76, 3) := by decide +kernel
theorem d_M_digit_49 : decode c_M_digit 49 = .ok (.iload 5, 2) := by decide +kernel
theorem d_M_digit_51 : decode c_M_digit 51 = .ok (.iaload, 1) := by decide +kernel
theorem d_M_digit_52 : decode c_M_digit 52 = .ok (.goto 4, 3) := by decide +kernel
theorem d_M_digit_55 : decode c_M_digit 55 = .ok (.iconst 0, 1) := by decide +kernel
theorem d_M_digit_56 : decode c_M_digit 56 = .ok (.ireturn, 1) := by decide +kernel
theorem d_M_digit_57 : decode c_M_digit 57 = .ok (.aload_n 0, 1) := by decide +kernel
theorem d_M_digit_58 : decode c_M_digit 58 = .ok (.getfield 92, 3) := by decide +kernel
theorem d_M_digit_61 : decode c_M_digit 61 = .ok (.lconst 1, 1) := by decide +kernel
theorem d_M_digit_62 : decode c_M_digit 62 = .ok (.invokevirtual 117, 3) := by decide +kernel
theorem d_M_digit_65 : decode c_M_digit 65 = .ok (.iconst 0, 1) := by decide +kernel
theorem d_M_digit_66 : decode c_M_digit 66 = .ok (.istore 6, 2) := by decide +kernel
theorem d_M_digit_68 : decode c_M_digit 68 = .ok (.iload 6, 2) := by decide +kernel
theorem d_M_digit_70 : decode c_M_digit 70 = .ok (.aload_n 0, 1) := by decide +kernel
theorem d_M_digit_71 : decode c_M_digit 71 = .ok (.getfield 60, 3) := by decide +kernel
theorem d_M_digit_74 : decode c_M_digit 74 = .ok (.iload_n 1, 1) := by decide +kernel
theorem d_M_digit_75 : decode c_M_digit 75 = .ok (.iaload, 1) := by decide +kernel
theorem d_M_digit_76 : decode c_M_digit 76 = .ok (.if_icmp .ge 104, 3) := by decide +kernel
theorem d_M_digit_79 : decode c_M_digit 79 = .ok (.aload_n 0, 1) := by decide +kernel
theorem d_M_digit_80 : decode c_M_digit 80 = .ok (.getfield 95, 3) := by decide +kernel
theorem d_M_digit_83 : decode c_M_digit 83 = .ok (.aload_n 0, 1) := by decide +kernel
theorem d_M_digit_84 : decode c_M_digit 84 = .ok (.getfield 73, 3) := by decide +kernel
theorem d_M_digit_87 : decode c_M_digit 87 = .ok (.bipush 16, 2) := by decide +kernel
theorem d_M_digit_89 : decode c_M_digit 89 = .ok (.sipush 144, 3) := by decide +kernel
theorem d_M_digit_92 : decode c_M_digit 92 = .ok (.iload_n 1, 1) := by decide +kernel
theorem d_M_digit_93 : decode c_M_digit 93 = .ok (.imul, 1) := by decide +kernel
theorem d_M_digit_94 : decode c_M_digit 94 = .ok (.bipush 12, 2) := by decide +kernel
theorem d_M_digit_96 : decode c_M_digit 96 = .ok (.iload_n 2, 1) := by decide +kernel
theorem d_M_digit_97 : decode c_M_digit 97 = .ok (.imul, 1) := by decide +kernel
theorem d_M_digit_98 : decode c_M_digit 98 = .ok (.iadd, 1) := by decide +kernel
theorem d_M_digit_99 : decode c_M_digit 99 = .ok (.iload 6, 2) := by decide +kernel
theorem d_M_digit_101 : decode c_M_digit 101 = .ok (.iadd, 1) := by decide +kernel
theorem d_M_digit_102 : decode c_M_digit 102 = .ok (.imul, 1) := by decide +kernel
theorem d_M_digit_103 : decode c_M_digit 103 = .ok (.invokestatic 120, 3) := by decide +kernel
theorem d_M_digit_106 : decode c_M_digit 106 = .ok (.aload_n 0, 1) := by decide +kernel
theorem d_M_digit_107 : decode c_M_digit 107 = .ok (.aload_n 0, 1) := by decide +kernel
theorem d_M_digit_108 : decode c_M_digit 108 = .ok (.getfield 92, 3) := by decide +kernel
theorem d_M_digit_111 : decode c_M_digit 111 = .ok (.aload_n 0, 1) := by decide +kernel
theorem d_M_digit_112 : decode c_M_digit 112 = .ok (.getfield 95, 3) := by decide +kernel
theorem d_M_digit_115 : decode c_M_digit 115 = .ok (.invokevirtual 135, 3) := by decide +kernel
theorem d_M_digit_118 : decode c_M_digit 118 = .ok (.aload_n 0, 1) := by decide +kernel
theorem d_M_digit_119 : decode c_M_digit 119 = .ok (.getfield 44, 3) := by decide +kernel
theorem d_M_digit_122 : decode c_M_digit 122 = .ok (.aload_n 0, 1) := by decide +kernel
theorem d_M_digit_123 : decode c_M_digit 123 = .ok (.getfield 1, 3) := by decide +kernel
theorem d_M_digit_126 : decode c_M_digit 126 = .ok (.invokevirtual 7, 3) := by decide +kernel
theorem d_M_digit_129 : decode c_M_digit 129 = .ok (.aload_n 0, 1) := by decide +kernel
theorem d_M_digit_130 : decode c_M_digit 130 = .ok (.getfield 47, 3) := by decide +kernel
theorem d_M_digit_133 : decode c_M_digit 133 = .ok (.aload_n 0, 1) := by decide +kernel
theorem d_M_digit_134 : decode c_M_digit 134 = .ok (.getfield 95, 3) := by decide +kernel
theorem d_M_digit_137 : decode c_M_digit 137 = .ok (.aload_n 0, 1) := by decide +kernel
theorem d_M_digit_138 : decode c_M_digit 138 = .ok (.getfield 44, 3) := by decide +kernel
theorem d_M_digit_141 : decode c_M_digit 141 = .ok (.aload_n 0, 1) := by decide +kernel
theorem d_M_digit_142 : decode c_M_digit 142 = .ok (.getfield 27, 3) := by decide +kernel
theorem d_M_digit_145 : decode c_M_digit 145 = .ok (.invokevirtual 30, 3) := by decide +kernel
theorem d_M_digit_148 : decode c_M_digit 148 = .ok (.aload_n 0, 1) := by decide +kernel
theorem d_M_digit_149 : decode c_M_digit 149 = .ok (.getfield 50, 3) := by decide +kernel
theorem d_M_digit_152 : decode c_M_digit 152 = .ok (.aload_n 0, 1) := by decide +kernel
theorem d_M_digit_153 : decode c_M_digit 153 = .ok (.getfield 92, 3) := by decide +kernel
theorem d_M_digit_156 : decode c_M_digit 156 = .ok (.aload_n 0, 1) := by decide +kernel
theorem d_M_digit_157 : decode c_M_digit 157 = .ok (.getfield 47, 3) := by decide +kernel
theorem d_M_digit_160 : decode c_M_digit 160 = .ok (.invokevirtual 146, 3) := by decide +kernel
theorem d_M_digit_163 : decode c_M_digit 163 = .ok (.aload_n 0, 1) := by decide +kernel
theorem d_M_digit_164 : decode c_M_digit 164 = .ok (.getfield 92, 3) := by decide +kernel
theorem d_M_digit_167 : decode c_M_digit 167 = .ok (.aload_n 0, 1) := by decide +kernel
theorem d_M_digit_168 : decode c_M_digit 168 = .ok (.getfield 50, 3) := by decide +kernel
theorem d_M_digit_171 : decode c_M_digit 171 = .ok (.invokevirtual 7, 3) := by decide +kernel
theorem d_M_digit_174 : decode c_M_digit 174 = .ok (.iinc 6 1, 3) := by decide +kernel
theorem d_M_digit_177 : decode c_M_digit 177 = .ok (.goto (-109), 3) := by decide +kernel
theorem d_M_digit_180 : decode c_M_digit 180 = .ok (.aload_n 0, 1) := by decide +kernel
theorem d_M_digit_181 : decode c_M_digit 181 = .ok (.getfield 95, 3) := by decide +kernel
theorem d_M_digit_184 : decode c_M_digit 184 = .ok (.aload_n 0, 1) := by decide +kernel
theorem d_M_digit_185 : decode c_M_digit 185 = .ok (.getfield 73, 3) := by decide +kernel
theorem d_M_digit_188 : decode c_M_digit 188 = .ok (.bipush 16, 2) := by decide +kernel
theorem d_M_digit_190 : decode c_M_digit 190 = .ok (.iload 5, 2) := by decide +kernel
theorem d_M_digit_192 : decode c_M_digit 192 = .ok (.imul, 1) := by decide +kernel
theorem d_M_digit_193 : decode c_M_digit 193 = .ok (.invokestatic 120, 3) := by decide +kernel
theorem d_M_digit_196 : decode c_M_digit 196 = .ok (.aload_n 0, 1) := by decide +kernel
theorem d_M_digit_197 : decode c_M_digit 197 = .ok (.getfield 47, 3) := by decide +kernel
theorem d_M_digit_200 : decode c_M_digit 200 = .ok (.aload_n 0, 1) := by decide +kernel
theorem d_M_digit_201 : decode c_M_digit 201 = .ok (.getfield 92, 3) := by decide +kernel
theorem d_M_digit_204 : decode c_M_digit 204 = .ok (.aload_n 0, 1) := by decide +kernel
theorem d_M_digit_205 : decode c_M_digit 205 = .ok (.getfield 95, 3) := by decide +kernel
theorem d_M_digit_208 : decode c_M_digit 208 = .ok (.aload_n 0, 1) := by decide +kernel
theorem d_M_digit_209 : decode c_M_digit 209 = .ok (.getfield 27, 3) := by decide +kernel
theorem d_M_digit_212 : decode c_M_digit 212 = .ok (.invokevirtual 30, 3) := by decide +kernel
theorem d_M_digit_215 : decode c_M_digit 215 = .ok (.aload_n 0, 1) := by decide +kernel
theorem d_M_digit_216 : decode c_M_digit 216 = .ok (.getfield 95, 3) := by decide +kernel
theorem d_M_digit_219 : decode c_M_digit 219 = .ok (.aload_n 0, 1) := by decide +kernel
theorem d_M_digit_220 : decode c_M_digit 220 = .ok (.getfield 70, 3) := by decide +kernel
theorem d_M_digit_223 : decode c_M_digit 223 = .ok (.bipush 16, 2) := by decide +kernel
theorem d_M_digit_225 : decode c_M_digit 225 = .ok (.iload 5, 2) := by decide +kernel
theorem d_M_digit_227 : decode c_M_digit 227 = .ok (.imul, 1) := by decide +kernel
theorem d_M_digit_228 : decode c_M_digit 228 = .ok (.invokestatic 120, 3) := by decide +kernel
theorem d_M_digit_231 : decode c_M_digit 231 = .ok (.aload_n 0, 1) := by decide +kernel
theorem d_M_digit_232 : decode c_M_digit 232 = .ok (.getfield 50, 3) := by decide +kernel
theorem d_M_digit_235 : decode c_M_digit 235 = .ok (.aload_n 0, 1) := by decide +kernel
theorem d_M_digit_236 : decode c_M_digit 236 = .ok (.getfield 95, 3) := by decide +kernel
theorem d_M_digit_239 : decode c_M_digit 239 = .ok (.aload_n 0, 1) := by decide +kernel
theorem d_M_digit_240 : decode c_M_digit 240 = .ok (.getfield 47, 3) := by decide +kernel
theorem d_M_digit_243 : decode c_M_digit 243 = .ok (.invokevirtual 146, 3) := by decide +kernel
theorem d_M_digit_246 : decode c_M_digit 246 = .ok (.iload 4, 2) := by decide +kernel
theorem d_M_digit_248 : decode c_M_digit 248 = .ok (.aload_n 0, 1) := by decide +kernel
theorem d_M_digit_249 : decode c_M_digit 249 = .ok (.getfield 50, 3) := by decide +kernel
theorem d_M_digit_252 : decode c_M_digit 252 = .ok (.getfield 20, 3) := by decide +kernel
theorem d_M_digit_255 : decode c_M_digit 255 = .ok (.if_icmp .ge 16, 3) := by decide +kernel
theorem d_M_digit_258 : decode c_M_digit 258 = .ok (.aload_n 0, 1) := by decide +kernel
theorem d_M_digit_259 : decode c_M_digit 259 = .ok (.getfield 50, 3) := by decide +kernel
theorem d_M_digit_262 : decode c_M_digit 262 = .ok (.getfield 98, 3) := by decide +kernel
theorem d_M_digit_265 : decode c_M_digit 265 = .ok (.iload 4, 2) := by decide +kernel
theorem d_M_digit_267 : decode c_M_digit 267 = .ok (.iaload, 1) := by decide +kernel
theorem d_M_digit_268 : decode c_M_digit 268 = .ok (.goto 4, 3) := by decide +kernel
theorem d_M_digit_271 : decode c_M_digit 271 = .ok (.iconst 0, 1) := by decide +kernel
theorem d_M_digit_272 : decode c_M_digit 272 = .ok (.ireturn, 1) := by decide +kernel
end
section
-- ===== decode rows (written by wip/gen/names.py) =====
theorem d_L_law_0 : decode code 0 = .ok (.new 7, 3) := by decide +kernel
theorem d_L_law_3 : decode code 3 = .ok (.dup, 1) := by decide +kernel
theorem d_L_law_4 : decode code 4 = .ok (.invokespecial 9, 3) := by decide +kernel
theorem d_L_law_7 : decode code 7 = .ok (.astore_n 1, 1) := by decide +kernel
theorem d_L_law_8 : decode code 8 = .ok (.new 10, 3) := by decide +kernel
theorem d_L_law_11 : decode code 11 = .ok (.dup, 1) := by decide +kernel
theorem d_L_law_12 : decode code 12 = .ok (.invokespecial 12, 3) := by decide +kernel
theorem d_L_law_15 : decode code 15 = .ok (.astore_n 2, 1) := by decide +kernel
theorem d_L_law_16 : decode code 16 = .ok (.iconst 0, 1) := by decide +kernel
theorem d_L_law_17 : decode code 17 = .ok (.istore_n 3, 1) := by decide +kernel
theorem d_L_law_18 : decode code 18 = .ok (.iload_n 3, 1) := by decide +kernel
theorem d_L_law_19 : decode code 19 = .ok (.aload_n 0, 1) := by decide +kernel
theorem d_L_law_20 : decode code 20 = .ok (.arraylength, 1) := by decide +kernel
theorem d_L_law_21 : decode code 21 = .ok (.iconst 5, 1) := by decide +kernel
theorem d_L_law_22 : decode code 22 = .ok (.isub, 1) := by decide +kernel
theorem d_L_law_23 : decode code 23 = .ok (.if_icmp .gt 554, 3) := by decide +kernel
theorem d_L_law_26 : decode code 26 = .ok (.aload_n 0, 1) := by decide +kernel
theorem d_L_law_27 : decode code 27 = .ok (.iload_n 3, 1) := by decide +kernel
theorem d_L_law_28 : decode code 28 = .ok (.iaload, 1) := by decide +kernel
theorem d_L_law_29 : decode code 29 = .ok (.bipush 15, 2) := by decide +kernel
theorem d_L_law_31 : decode code 31 = .ok (.iand, 1) := by decide +kernel
theorem d_L_law_32 : decode code 32 = .ok (.tableswitch 539 0 10 #[60, 113, 166, 189, 232, 265, 334, 377, 410, 443, 486], 60) := by decide +kernel
theorem d_L_law_92 : decode code 92 = .ok (.aload_n 1, 1) := by decide +kernel
theorem d_L_law_93 : decode code 93 = .ok (.aload_n 0, 1) := by decide +kernel
theorem d_L_law_94 : decode code 94 = .ok (.iload_n 3, 1) := by decide +kernel
theorem d_L_law_95 : decode code 95 = .ok (.iconst 1, 1) := by decide +kernel
theorem d_L_law_96 : decode code 96 = .ok (.iadd, 1) := by decide +kernel
theorem d_L_law_97 : decode code 97 = .ok (.iaload, 1) := by decide +kernel
theorem d_L_law_98 : decode code 98 = .ok (.aload_n 0, 1) := by decide +kernel
theorem d_L_law_99 : decode code 99 = .ok (.iload_n 3, 1) := by decide +kernel
theorem d_L_law_100 : decode code 100 = .ok (.iconst 2, 1) := by decide +kernel
theorem d_L_law_101 : decode code 101 = .ok (.iadd, 1) := by decide +kernel
theorem d_L_law_102 : decode code 102 = .ok (.iaload, 1) := by decide +kernel
theorem d_L_law_103 : decode code 103 = .ok (.aload_n 0, 1) := by decide +kernel
theorem d_L_law_104 : decode code 104 = .ok (.iload_n 3, 1) := by decide +kernel
theorem d_L_law_105 : decode code 105 = .ok (.iconst 3, 1) := by decide +kernel
theorem d_L_law_106 : decode code 106 = .ok (.iadd, 1) := by decide +kernel
theorem d_L_law_107 : decode code 107 = .ok (.iaload, 1) := by decide +kernel
theorem d_L_law_108 : decode code 108 = .ok (.aload_n 0, 1) := by decide +kernel
theorem d_L_law_109 : decode code 109 = .ok (.iload_n 3, 1) := by decide +kernel
theorem d_L_law_110 : decode code 110 = .ok (.iconst 4, 1) := by decide +kernel
theorem d_L_law_111 : decode code 111 = .ok (.iadd, 1) := by decide +kernel
theorem d_L_law_112 : decode code 112 = .ok (.iaload, 1) := by decide +kernel
theorem d_L_law_113 : decode code 113 = .ok (.invokevirtual 13, 3) := by decide +kernel
theorem d_L_law_116 : decode code 116 = .ok (.aload_n 2, 1) := by decide +kernel
theorem d_L_law_117 : decode code 117 = .ok (.aload_n 0, 1) := by decide +kernel
theorem d_L_law_118 : decode code 118 = .ok (.iload_n 3, 1) := by decide +kernel
theorem d_L_law_119 : decode code 119 = .ok (.iconst 1, 1) := by decide +kernel
theorem d_L_law_120 : decode code 120 = .ok (.iadd, 1) := by decide +kernel
theorem d_L_law_121 : decode code 121 = .ok (.iaload, 1) := by decide +kernel
theorem d_L_law_122 : decode code 122 = .ok (.aload_n 0, 1) := by decide +kernel
theorem d_L_law_123 : decode code 123 = .ok (.iload_n 3, 1) := by decide +kernel
theorem d_L_law_124 : decode code 124 = .ok (.iconst 2, 1) := by decide +kernel
theorem d_L_law_125 : decode code 125 = .ok (.iadd, 1) := by decide +kernel
theorem d_L_law_126 : decode code 126 = .ok (.iaload, 1) := by decide +kernel
theorem d_L_law_127 : decode code 127 = .ok (.aload_n 0, 1) := by decide +kernel
theorem d_L_law_128 : decode code 128 = .ok (.iload_n 3, 1) := by decide +kernel
theorem d_L_law_129 : decode code 129 = .ok (.iconst 3, 1) := by decide +kernel
theorem d_L_law_130 : decode code 130 = .ok (.iadd, 1) := by decide +kernel
theorem d_L_law_131 : decode code 131 = .ok (.iaload, 1) := by decide +kernel
theorem d_L_law_132 : decode code 132 = .ok (.aload_n 0, 1) := by decide +kernel
theorem d_L_law_133 : decode code 133 = .ok (.iload_n 3, 1) := by decide +kernel
theorem d_L_law_134 : decode code 134 = .ok (.iconst 4, 1) := by decide +kernel
theorem d_L_law_135 : decode code 135 = .ok (.iadd, 1) := by decide +kernel
theorem d_L_law_136 : decode code 136 = .ok (.iaload, 1) := by decide +kernel
theorem d_L_law_137 : decode code 137 = .ok (.invokevirtual 17, 3) := by decide +kernel
theorem d_L_law_140 : decode code 140 = .ok (.if_icmp .eq 431, 3) := by decide +kernel
theorem d_L_law_143 : decode code 143 = .ok (.iconst 0, 1) := by decide +kernel
theorem d_L_law_144 : decode code 144 = .ok (.ireturn, 1) := by decide +kernel
theorem d_L_law_145 : decode code 145 = .ok (.aload_n 1, 1) := by decide +kernel
theorem d_L_law_146 : decode code 146 = .ok (.aload_n 0, 1) := by decide +kernel
theorem d_L_law_147 : decode code 147 = .ok (.iload_n 3, 1) := by decide +kernel
theorem d_L_law_148 : decode code 148 = .ok (.iconst 1, 1) := by decide +kernel
theorem d_L_law_149 : decode code 149 = .ok (.iadd, 1) := by decide +kernel
theorem d_L_law_150 : decode code 150 = .ok (.iaload, 1) := by decide +kernel
theorem d_L_law_151 : decode code 151 = .ok (.aload_n 0, 1) := by decide +kernel
theorem d_L_law_152 : decode code 152 = .ok (.iload_n 3, 1) := by decide +kernel
theorem d_L_law_153 : decode code 153 = .ok (.iconst 2, 1) := by decide +kernel
theorem d_L_law_154 : decode code 154 = .ok (.iadd, 1) := by decide +kernel
theorem d_L_law_155 : decode code 155 = .ok (.iaload, 1) := by decide +kernel
theorem d_L_law_156 : decode code 156 = .ok (.aload_n 0, 1) := by decide +kernel
theorem d_L_law_157 : decode code 157 = .ok (.iload_n 3, 1) := by decide +kernel
theorem d_L_law_158 : decode code 158 = .ok (.iconst 3, 1) := by decide +kernel
theorem d_L_law_159 : decode code 159 = .ok (.iadd, 1) := by decide +kernel
theorem d_L_law_160 : decode code 160 = .ok (.iaload, 1) := by decide +kernel
theorem d_L_law_161 : decode code 161 = .ok (.aload_n 0, 1) := by decide +kernel
theorem d_L_law_162 : decode code 162 = .ok (.iload_n 3, 1) := by decide +kernel
theorem d_L_law_163 : decode code 163 = .ok (.iconst 4, 1) := by decide +kernel
theorem d_L_law_164 : decode code 164 = .ok (.iadd, 1) := by decide +kernel
theorem d_L_law_165 : decode code 165 = .ok (.iaload, 1) := by decide +kernel
theorem d_L_law_166 : decode code 166 = .ok (.invokevirtual 18, 3) := by decide +kernel
theorem d_L_law_169 : decode code 169 = .ok (.aload_n 2, 1) := by decide +kernel
theorem d_L_law_170 : decode code 170 = .ok (.aload_n 0, 1) := by decide +kernel
theorem d_L_law_171 : decode code 171 = .ok (.iload_n 3, 1) := by decide +kernel
theorem d_L_law_172 : decode code 172 = .ok (.iconst 1, 1) := by decide +kernel
theorem d_L_law_173 : decode code 173 = .ok (.iadd, 1) := by decide +kernel
theorem d_L_law_174 : decode code 174 = .ok (.iaload, 1) := by decide +kernel
theorem d_L_law_175 : decode code 175 = .ok (.aload_n 0, 1) := by decide +kernel
theorem d_L_law_176 : decode code 176 = .ok (.iload_n 3, 1) := by decide +kernel
theorem d_L_law_177 : decode code 177 = .ok (.iconst 2, 1) := by decide +kernel
theorem d_L_law_178 : decode code 178 = .ok (.iadd, 1) := by decide +kernel
theorem d_L_law_179 : decode code 179 = .ok (.iaload, 1) := by decide +kernel
theorem d_L_law_180 : decode code 180 = .ok (.aload_n 0, 1) := by decide +kernel
theorem d_L_law_181 : decode code 181 = .ok (.iload_n 3, 1) := by decide +kernel
theorem d_L_law_182 : decode code 182 = .ok (.iconst 3, 1) := by decide +kernel
theorem d_L_law_183 : decode code 183 = .ok (.iadd, 1) := by decide +kernel
theorem d_L_law_184 : decode code 184 = .ok (.iaload, 1) := by decide +kernel
theorem d_L_law_185 : decode code 185 = .ok (.aload_n 0, 1) := by decide +kernel
theorem d_L_law_186 : decode code 186 = .ok (.iload_n 3, 1) := by decide +kernel
theorem d_L_law_187 : decode code 187 = .ok (.iconst 4, 1) := by decide +kernel
theorem d_L_law_188 : decode code 188 = .ok (.iadd, 1) := by decide +kernel
theorem d_L_law_189 : decode code 189 = .ok (.iaload, 1) := by decide +kernel
theorem d_L_law_190 : decode code 190 = .ok (.invokevirtual 21, 3) := by decide +kernel
theorem d_L_law_193 : decode code 193 = .ok (.if_icmp .eq 378, 3) := by decide +kernel
theorem d_L_law_196 : decode code 196 = .ok (.iconst 0, 1) := by decide +kernel
theorem d_L_law_197 : decode code 197 = .ok (.ireturn, 1) := by decide +kernel
theorem d_L_law_198 : decode code 198 = .ok (.aload_n 1, 1) := by decide +kernel
theorem d_L_law_199 : decode code 199 = .ok (.aload_n 0, 1) := by decide +kernel
theorem d_L_law_200 : decode code 200 = .ok (.iload_n 3, 1) := by decide +kernel
theorem d_L_law_201 : decode code 201 = .ok (.iconst 1, 1) := by decide +kernel
theorem d_L_law_202 : decode code 202 = .ok (.iadd, 1) := by decide +kernel
theorem d_L_law_203 : decode code 203 = .ok (.iaload, 1) := by decide +kernel
theorem d_L_law_204 : decode code 204 = .ok (.invokevirtual 22, 3) := by decide +kernel
theorem d_L_law_207 : decode code 207 = .ok (.aload_n 2, 1) := by decide +kernel
theorem d_L_law_208 : decode code 208 = .ok (.aload_n 0, 1) := by decide +kernel
theorem d_L_law_209 : decode code 209 = .ok (.iload_n 3, 1) := by decide +kernel
theorem d_L_law_210 : decode code 210 = .ok (.iconst 1, 1) := by decide +kernel
theorem d_L_law_211 : decode code 211 = .ok (.iadd, 1) := by decide +kernel
theorem d_L_law_212 : decode code 212 = .ok (.iaload, 1) := by decide +kernel
theorem d_L_law_213 : decode code 213 = .ok (.invokevirtual 26, 3) := by decide +kernel
theorem d_L_law_216 : decode code 216 = .ok (.if_icmp .eq 355, 3) := by decide +kernel
theorem d_L_law_219 : decode code 219 = .ok (.iconst 0, 1) := by decide +kernel
theorem d_L_law_220 : decode code 220 = .ok (.ireturn, 1) := by decide +kernel
theorem d_L_law_221 : decode code 221 = .ok (.aload_n 1, 1) := by decide +kernel
theorem d_L_law_222 : decode code 222 = .ok (.aload_n 0, 1) := by decide +kernel
theorem d_L_law_223 : decode code 223 = .ok (.iload_n 3, 1) := by decide +kernel
theorem d_L_law_224 : decode code 224 = .ok (.iconst 1, 1) := by decide +kernel
theorem d_L_law_225 : decode code 225 = .ok (.iadd, 1) := by decide +kernel
theorem d_L_law_226 : decode code 226 = .ok (.iaload, 1) := by decide +kernel
theorem d_L_law_227 : decode code 227 = .ok (.aload_n 0, 1) := by decide +kernel
theorem d_L_law_228 : decode code 228 = .ok (.iload_n 3, 1) := by decide +kernel
theorem d_L_law_229 : decode code 229 = .ok (.iconst 2, 1) := by decide +kernel
theorem d_L_law_230 : decode code 230 = .ok (.iadd, 1) := by decide +kernel
theorem d_L_law_231 : decode code 231 = .ok (.iaload, 1) := by decide +kernel
theorem d_L_law_232 : decode code 232 = .ok (.aload_n 0, 1) := by decide +kernel
theorem d_L_law_233 : decode code 233 = .ok (.iload_n 3, 1) := by decide +kernel
theorem d_L_law_234 : decode code 234 = .ok (.iconst 3, 1) := by decide +kernel
theorem d_L_law_235 : decode code 235 = .ok (.iadd, 1) := by decide +kernel
theorem d_L_law_236 : decode code 236 = .ok (.iaload, 1) := by decide +kernel
theorem d_L_law_237 : decode code 237 = .ok (.invokevirtual 27, 3) := by decide +kernel
theorem d_L_law_240 : decode code 240 = .ok (.aload_n 2, 1) := by decide +kernel
theorem d_L_law_241 : decode code 241 = .ok (.aload_n 0, 1) := by decide +kernel
theorem d_L_law_242 : decode code 242 = .ok (.iload_n 3, 1) := by decide +kernel
theorem d_L_law_243 : decode code 243 = .ok (.iconst 1, 1) := by decide +kernel
theorem d_L_law_244 : decode code 244 = .ok (.iadd, 1) := by decide +kernel
theorem d_L_law_245 : decode code 245 = .ok (.iaload, 1) := by decide +kernel
theorem d_L_law_246 : decode code 246 = .ok (.aload_n 0, 1) := by decide +kernel
theorem d_L_law_247 : decode code 247 = .ok (.iload_n 3, 1) := by decide +kernel
theorem d_L_law_248 : decode code 248 = .ok (.iconst 2, 1) := by decide +kernel
theorem d_L_law_249 : decode code 249 = .ok (.iadd, 1) := by decide +kernel
theorem d_L_law_250 : decode code 250 = .ok (.iaload, 1) := by decide +kernel
theorem d_L_law_251 : decode code 251 = .ok (.aload_n 0, 1) := by decide +kernel
theorem d_L_law_252 : decode code 252 = .ok (.iload_n 3, 1) := by decide +kernel
theorem d_L_law_253 : decode code 253 = .ok (.iconst 3, 1) := by decide +kernel
theorem d_L_law_254 : decode code 254 = .ok (.iadd, 1) := by decide +kernel
theorem d_L_law_255 : decode code 255 = .ok (.iaload, 1) := by decide +kernel
theorem d_L_law_256 : decode code 256 = .ok (.invokevirtual 31, 3) := by decide +kernel
theorem d_L_law_259 : decode code 259 = .ok (.if_icmp .eq 312, 3) := by decide +kernel
theorem d_L_law_262 : decode code 262 = .ok (.iconst 0, 1) := by decide +kernel
theorem d_L_law_263 : decode code 263 = .ok (.ireturn, 1) := by decide +kernel
theorem d_L_law_264 : decode code 264 = .ok (.aload_n 1, 1) := by decide +kernel
theorem d_L_law_265 : decode code 265 = .ok (.aload_n 0, 1) := by decide +kernel
theorem d_L_law_266 : decode code 266 = .ok (.iload_n 3, 1) := by decide +kernel
theorem d_L_law_267 : decode code 267 = .ok (.iconst 1, 1) := by decide +kernel
theorem d_L_law_268 : decode code 268 = .ok (.iadd, 1) := by decide +kernel
theorem d_L_law_269 : decode code 269 = .ok (.iaload, 1) := by decide +kernel
theorem d_L_law_270 : decode code 270 = .ok (.aload_n 0, 1) := by decide +kernel
theorem d_L_law_271 : decode code 271 = .ok (.iload_n 3, 1) := by decide +kernel
theorem d_L_law_272 : decode code 272 = .ok (.iconst 2, 1) := by decide +kernel
theorem d_L_law_273 : decode code 273 = .ok (.iadd, 1) := by decide +kernel
theorem d_L_law_274 : decode code 274 = .ok (.iaload, 1) := by decide +kernel
theorem d_L_law_275 : decode code 275 = .ok (.invokevirtual 32, 3) := by decide +kernel
theorem d_L_law_278 : decode code 278 = .ok (.aload_n 2, 1) := by decide +kernel
theorem d_L_law_279 : decode code 279 = .ok (.aload_n 0, 1) := by decide +kernel
theorem d_L_law_280 : decode code 280 = .ok (.iload_n 3, 1) := by decide +kernel
theorem d_L_law_281 : decode code 281 = .ok (.iconst 1, 1) := by decide +kernel
theorem d_L_law_282 : decode code 282 = .ok (.iadd, 1) := by decide +kernel
theorem d_L_law_283 : decode code 283 = .ok (.iaload, 1) := by decide +kernel
theorem d_L_law_284 : decode code 284 = .ok (.aload_n 0, 1) := by decide +kernel
theorem d_L_law_285 : decode code 285 = .ok (.iload_n 3, 1) := by decide +kernel
theorem d_L_law_286 : decode code 286 = .ok (.iconst 2, 1) := by decide +kernel
theorem d_L_law_287 : decode code 287 = .ok (.iadd, 1) := by decide +kernel
theorem d_L_law_288 : decode code 288 = .ok (.iaload, 1) := by decide +kernel
theorem d_L_law_289 : decode code 289 = .ok (.invokevirtual 36, 3) := by decide +kernel
theorem d_L_law_292 : decode code 292 = .ok (.if_icmp .eq 279, 3) := by decide +kernel
theorem d_L_law_295 : decode code 295 = .ok (.iconst 0, 1) := by decide +kernel
theorem d_L_law_296 : decode code 296 = .ok (.ireturn, 1) := by decide +kernel
theorem d_L_law_297 : decode code 297 = .ok (.aload_n 1, 1) := by decide +kernel
theorem d_L_law_298 : decode code 298 = .ok (.aload_n 0, 1) := by decide +kernel
theorem d_L_law_299 : decode code 299 = .ok (.iload_n 3, 1) := by decide +kernel
theorem d_L_law_300 : decode code 300 = .ok (.iconst 1, 1) := by decide +kernel
theorem d_L_law_301 : decode code 301 = .ok (.iadd, 1) := by decide +kernel
theorem d_L_law_302 : decode code 302 = .ok (.iaload, 1) := by decide +kernel
theorem d_L_law_303 : decode code 303 = .ok (.aload_n 0, 1) := by decide +kernel
theorem d_L_law_304 : decode code 304 = .ok (.iload_n 3, 1) := by decide +kernel
theorem d_L_law_305 : decode code 305 = .ok (.iconst 2, 1) := by decide +kernel
theorem d_L_law_306 : decode code 306 = .ok (.iadd, 1) := by decide +kernel
theorem d_L_law_307 : decode code 307 = .ok (.iaload, 1) := by decide +kernel
theorem d_L_law_308 : decode code 308 = .ok (.aload_n 0, 1) := by decide +kernel
theorem d_L_law_309 : decode code 309 = .ok (.iload_n 3, 1) := by decide +kernel
theorem d_L_law_310 : decode code 310 = .ok (.iconst 3, 1) := by decide +kernel
theorem d_L_law_311 : decode code 311 = .ok (.iadd, 1) := by decide +kernel
theorem d_L_law_312 : decode code 312 = .ok (.iaload, 1) := by decide +kernel
theorem d_L_law_313 : decode code 313 = .ok (.aload_n 0, 1) := by decide +kernel
theorem d_L_law_314 : decode code 314 = .ok (.iload_n 3, 1) := by decide +kernel
theorem d_L_law_315 : decode code 315 = .ok (.iconst 4, 1) := by decide +kernel
theorem d_L_law_316 : decode code 316 = .ok (.iadd, 1) := by decide +kernel
theorem d_L_law_317 : decode code 317 = .ok (.iaload, 1) := by decide +kernel
theorem d_L_law_318 : decode code 318 = .ok (.ifCond .eq 7, 3) := by decide +kernel
theorem d_L_law_321 : decode code 321 = .ok (.iconst 1, 1) := by decide +kernel
theorem d_L_law_322 : decode code 322 = .ok (.goto 4, 3) := by decide +kernel
theorem d_L_law_325 : decode code 325 = .ok (.iconst 0, 1) := by decide +kernel
theorem d_L_law_326 : decode code 326 = .ok (.invokevirtual 37, 3) := by decide +kernel
theorem d_L_law_329 : decode code 329 = .ok (.aload_n 2, 1) := by decide +kernel
theorem d_L_law_330 : decode code 330 = .ok (.aload_n 0, 1) := by decide +kernel
theorem d_L_law_331 : decode code 331 = .ok (.iload_n 3, 1) := by decide +kernel
theorem d_L_law_332 : decode code 332 = .ok (.iconst 1, 1) := by decide +kernel
theorem d_L_law_333 : decode code 333 = .ok (.iadd, 1) := by decide +kernel
theorem d_L_law_334 : decode code 334 = .ok (.iaload, 1) := by decide +kernel
theorem d_L_law_335 : decode code 335 = .ok (.aload_n 0, 1) := by decide +kernel
theorem d_L_law_336 : decode code 336 = .ok (.iload_n 3, 1) := by decide +kernel
theorem d_L_law_337 : decode code 337 = .ok (.iconst 2, 1) := by decide +kernel
theorem d_L_law_338 : decode code 338 = .ok (.iadd, 1) := by decide +kernel
theorem d_L_law_339 : decode code 339 = .ok (.iaload, 1) := by decide +kernel
theorem d_L_law_340 : decode code 340 = .ok (.aload_n 0, 1) := by decide +kernel
theorem d_L_law_341 : decode code 341 = .ok (.iload_n 3, 1) := by decide +kernel
theorem d_L_law_342 : decode code 342 = .ok (.iconst 3, 1) := by decide +kernel
theorem d_L_law_343 : decode code 343 = .ok (.iadd, 1) := by decide +kernel
theorem d_L_law_344 : decode code 344 = .ok (.iaload, 1) := by decide +kernel
theorem d_L_law_345 : decode code 345 = .ok (.aload_n 0, 1) := by decide +kernel
theorem d_L_law_346 : decode code 346 = .ok (.iload_n 3, 1) := by decide +kernel
theorem d_L_law_347 : decode code 347 = .ok (.iconst 4, 1) := by decide +kernel
theorem d_L_law_348 : decode code 348 = .ok (.iadd, 1) := by decide +kernel
theorem d_L_law_349 : decode code 349 = .ok (.iaload, 1) := by decide +kernel
theorem d_L_law_350 : decode code 350 = .ok (.ifCond .eq 7, 3) := by decide +kernel
theorem d_L_law_353 : decode code 353 = .ok (.iconst 1, 1) := by decide +kernel
theorem d_L_law_354 : decode code 354 = .ok (.goto 4, 3) := by decide +kernel
theorem d_L_law_357 : decode code 357 = .ok (.iconst 0, 1) := by decide +kernel
theorem d_L_law_358 : decode code 358 = .ok (.invokevirtual 41, 3) := by decide +kernel
theorem d_L_law_361 : decode code 361 = .ok (.if_icmp .eq 210, 3) := by decide +kernel
theorem d_L_law_364 : decode code 364 = .ok (.iconst 0, 1) := by decide +kernel
theorem d_L_law_365 : decode code 365 = .ok (.ireturn, 1) := by decide +kernel
theorem d_L_law_366 : decode code 366 = .ok (.aload_n 1, 1) := by decide +kernel
theorem d_L_law_367 : decode code 367 = .ok (.aload_n 0, 1) := by decide +kernel
theorem d_L_law_368 : decode code 368 = .ok (.iload_n 3, 1) := by decide +kernel
theorem d_L_law_369 : decode code 369 = .ok (.iconst 1, 1) := by decide +kernel
theorem d_L_law_370 : decode code 370 = .ok (.iadd, 1) := by decide +kernel
theorem d_L_law_371 : decode code 371 = .ok (.iaload, 1) := by decide +kernel
theorem d_L_law_372 : decode code 372 = .ok (.aload_n 0, 1) := by decide +kernel
theorem d_L_law_373 : decode code 373 = .ok (.iload_n 3, 1) := by decide +kernel
theorem d_L_law_374 : decode code 374 = .ok (.iconst 2, 1) := by decide +kernel
theorem d_L_law_375 : decode code 375 = .ok (.iadd, 1) := by decide +kernel
theorem d_L_law_376 : decode code 376 = .ok (.iaload, 1) := by decide +kernel
theorem d_L_law_377 : decode code 377 = .ok (.aload_n 0, 1) := by decide +kernel
theorem d_L_law_378 : decode code 378 = .ok (.iload_n 3, 1) := by decide +kernel
theorem d_L_law_379 : decode code 379 = .ok (.iconst 3, 1) := by decide +kernel
theorem d_L_law_380 : decode code 380 = .ok (.iadd, 1) := by decide +kernel
theorem d_L_law_381 : decode code 381 = .ok (.iaload, 1) := by decide +kernel
theorem d_L_law_382 : decode code 382 = .ok (.invokevirtual 42, 3) := by decide +kernel
theorem d_L_law_385 : decode code 385 = .ok (.aload_n 2, 1) := by decide +kernel
theorem d_L_law_386 : decode code 386 = .ok (.aload_n 0, 1) := by decide +kernel
theorem d_L_law_387 : decode code 387 = .ok (.iload_n 3, 1) := by decide +kernel
theorem d_L_law_388 : decode code 388 = .ok (.iconst 1, 1) := by decide +kernel
theorem d_L_law_389 : decode code 389 = .ok (.iadd, 1) := by decide +kernel
theorem d_L_law_390 : decode code 390 = .ok (.iaload, 1) := by decide +kernel
theorem d_L_law_391 : decode code 391 = .ok (.aload_n 0, 1) := by decide +kernel
theorem d_L_law_392 : decode code 392 = .ok (.iload_n 3, 1) := by decide +kernel
theorem d_L_law_393 : decode code 393 = .ok (.iconst 2, 1) := by decide +kernel
theorem d_L_law_394 : decode code 394 = .ok (.iadd, 1) := by decide +kernel
theorem d_L_law_395 : decode code 395 = .ok (.iaload, 1) := by decide +kernel
theorem d_L_law_396 : decode code 396 = .ok (.aload_n 0, 1) := by decide +kernel
theorem d_L_law_397 : decode code 397 = .ok (.iload_n 3, 1) := by decide +kernel
theorem d_L_law_398 : decode code 398 = .ok (.iconst 3, 1) := by decide +kernel
theorem d_L_law_399 : decode code 399 = .ok (.iadd, 1) := by decide +kernel
theorem d_L_law_400 : decode code 400 = .ok (.iaload, 1) := by decide +kernel
theorem d_L_law_401 : decode code 401 = .ok (.invokevirtual 45, 3) := by decide +kernel
theorem d_L_law_404 : decode code 404 = .ok (.if_icmp .eq 167, 3) := by decide +kernel
theorem d_L_law_407 : decode code 407 = .ok (.iconst 0, 1) := by decide +kernel
theorem d_L_law_408 : decode code 408 = .ok (.ireturn, 1) := by decide +kernel
theorem d_L_law_409 : decode code 409 = .ok (.aload_n 1, 1) := by decide +kernel
theorem d_L_law_410 : decode code 410 = .ok (.aload_n 0, 1) := by decide +kernel
theorem d_L_law_411 : decode code 411 = .ok (.iload_n 3, 1) := by decide +kernel
theorem d_L_law_412 : decode code 412 = .ok (.iconst 1, 1) := by decide +kernel
theorem d_L_law_413 : decode code 413 = .ok (.iadd, 1) := by decide +kernel
theorem d_L_law_414 : decode code 414 = .ok (.iaload, 1) := by decide +kernel
theorem d_L_law_415 : decode code 415 = .ok (.aload_n 0, 1) := by decide +kernel
theorem d_L_law_416 : decode code 416 = .ok (.iload_n 3, 1) := by decide +kernel
theorem d_L_law_417 : decode code 417 = .ok (.iconst 2, 1) := by decide +kernel
theorem d_L_law_418 : decode code 418 = .ok (.iadd, 1) := by decide +kernel
theorem d_L_law_419 : decode code 419 = .ok (.iaload, 1) := by decide +kernel
theorem d_L_law_420 : decode code 420 = .ok (.invokevirtual 46, 3) := by decide +kernel
theorem d_L_law_423 : decode code 423 = .ok (.aload_n 2, 1) := by decide +kernel
theorem d_L_law_424 : decode code 424 = .ok (.aload_n 0, 1) := by decide +kernel
theorem d_L_law_425 : decode code 425 = .ok (.iload_n 3, 1) := by decide +kernel
theorem d_L_law_426 : decode code 426 = .ok (.iconst 1, 1) := by decide +kernel
theorem d_L_law_427 : decode code 427 = .ok (.iadd, 1) := by decide +kernel
theorem d_L_law_428 : decode code 428 = .ok (.iaload, 1) := by decide +kernel
theorem d_L_law_429 : decode code 429 = .ok (.aload_n 0, 1) := by decide +kernel
theorem d_L_law_430 : decode code 430 = .ok (.iload_n 3, 1) := by decide +kernel
theorem d_L_law_431 : decode code 431 = .ok (.iconst 2, 1) := by decide +kernel
theorem d_L_law_432 : decode code 432 = .ok (.iadd, 1) := by decide +kernel
theorem d_L_law_433 : decode code 433 = .ok (.iaload, 1) := by decide +kernel
theorem d_L_law_434 : decode code 434 = .ok (.invokevirtual 49, 3) := by decide +kernel
theorem d_L_law_437 : decode code 437 = .ok (.if_icmp .eq 134, 3) := by decide +kernel
theorem d_L_law_440 : decode code 440 = .ok (.iconst 0, 1) := by decide +kernel
theorem d_L_law_441 : decode code 441 = .ok (.ireturn, 1) := by decide +kernel
theorem d_L_law_442 : decode code 442 = .ok (.aload_n 1, 1) := by decide +kernel
theorem d_L_law_443 : decode code 443 = .ok (.aload_n 0, 1) := by decide +kernel
theorem d_L_law_444 : decode code 444 = .ok (.iload_n 3, 1) := by decide +kernel
theorem d_L_law_445 : decode code 445 = .ok (.iconst 1, 1) := by decide +kernel
theorem d_L_law_446 : decode code 446 = .ok (.iadd, 1) := by decide +kernel
theorem d_L_law_447 : decode code 447 = .ok (.iaload, 1) := by decide +kernel
theorem d_L_law_448 : decode code 448 = .ok (.aload_n 0, 1) := by decide +kernel
theorem d_L_law_449 : decode code 449 = .ok (.iload_n 3, 1) := by decide +kernel
theorem d_L_law_450 : decode code 450 = .ok (.iconst 2, 1) := by decide +kernel
theorem d_L_law_451 : decode code 451 = .ok (.iadd, 1) := by decide +kernel
theorem d_L_law_452 : decode code 452 = .ok (.iaload, 1) := by decide +kernel
theorem d_L_law_453 : decode code 453 = .ok (.invokevirtual 50, 3) := by decide +kernel
theorem d_L_law_456 : decode code 456 = .ok (.aload_n 2, 1) := by decide +kernel
theorem d_L_law_457 : decode code 457 = .ok (.aload_n 0, 1) := by decide +kernel
theorem d_L_law_458 : decode code 458 = .ok (.iload_n 3, 1) := by decide +kernel
theorem d_L_law_459 : decode code 459 = .ok (.iconst 1, 1) := by decide +kernel
theorem d_L_law_460 : decode code 460 = .ok (.iadd, 1) := by decide +kernel
theorem d_L_law_461 : decode code 461 = .ok (.iaload, 1) := by decide +kernel
theorem d_L_law_462 : decode code 462 = .ok (.aload_n 0, 1) := by decide +kernel
theorem d_L_law_463 : decode code 463 = .ok (.iload_n 3, 1) := by decide +kernel
theorem d_L_law_464 : decode code 464 = .ok (.iconst 2, 1) := by decide +kernel
theorem d_L_law_465 : decode code 465 = .ok (.iadd, 1) := by decide +kernel
theorem d_L_law_466 : decode code 466 = .ok (.iaload, 1) := by decide +kernel
theorem d_L_law_467 : decode code 467 = .ok (.invokevirtual 53, 3) := by decide +kernel
theorem d_L_law_470 : decode code 470 = .ok (.if_icmp .eq 101, 3) := by decide +kernel
theorem d_L_law_473 : decode code 473 = .ok (.iconst 0, 1) := by decide +kernel
theorem d_L_law_474 : decode code 474 = .ok (.ireturn, 1) := by decide +kernel
theorem d_L_law_475 : decode code 475 = .ok (.aload_n 1, 1) := by decide +kernel
theorem d_L_law_476 : decode code 476 = .ok (.aload_n 0, 1) := by decide +kernel
theorem d_L_law_477 : decode code 477 = .ok (.iload_n 3, 1) := by decide +kernel
theorem d_L_law_478 : decode code 478 = .ok (.iconst 1, 1) := by decide +kernel
theorem d_L_law_479 : decode code 479 = .ok (.iadd, 1) := by decide +kernel
theorem d_L_law_480 : decode code 480 = .ok (.iaload, 1) := by decide +kernel
theorem d_L_law_481 : decode code 481 = .ok (.aload_n 0, 1) := by decide +kernel
theorem d_L_law_482 : decode code 482 = .ok (.iload_n 3, 1) := by decide +kernel
theorem d_L_law_483 : decode code 483 = .ok (.iconst 2, 1) := by decide +kernel
theorem d_L_law_484 : decode code 484 = .ok (.iadd, 1) := by decide +kernel
theorem d_L_law_485 : decode code 485 = .ok (.iaload, 1) := by decide +kernel
theorem d_L_law_486 : decode code 486 = .ok (.aload_n 0, 1) := by decide +kernel
theorem d_L_law_487 : decode code 487 = .ok (.iload_n 3, 1) := by decide +kernel
theorem d_L_law_488 : decode code 488 = .ok (.iconst 3, 1) := by decide +kernel
theorem d_L_law_489 : decode code 489 = .ok (.iadd, 1) := by decide +kernel
theorem d_L_law_490 : decode code 490 = .ok (.iaload, 1) := by decide +kernel
theorem d_L_law_491 : decode code 491 = .ok (.invokevirtual 54, 3) := by decide +kernel
theorem d_L_law_494 : decode code 494 = .ok (.aload_n 2, 1) := by decide +kernel
theorem d_L_law_495 : decode code 495 = .ok (.aload_n 0, 1) := by decide +kernel
theorem d_L_law_496 : decode code 496 = .ok (.iload_n 3, 1) := by decide +kernel
theorem d_L_law_497 : decode code 497 = .ok (.iconst 1, 1) := by decide +kernel
theorem d_L_law_498 : decode code 498 = .ok (.iadd, 1) := by decide +kernel
theorem d_L_law_499 : decode code 499 = .ok (.iaload, 1) := by decide +kernel
theorem d_L_law_500 : decode code 500 = .ok (.aload_n 0, 1) := by decide +kernel
theorem d_L_law_501 : decode code 501 = .ok (.iload_n 3, 1) := by decide +kernel
theorem d_L_law_502 : decode code 502 = .ok (.iconst 2, 1) := by decide +kernel
theorem d_L_law_503 : decode code 503 = .ok (.iadd, 1) := by decide +kernel
theorem d_L_law_504 : decode code 504 = .ok (.iaload, 1) := by decide +kernel
theorem d_L_law_505 : decode code 505 = .ok (.aload_n 0, 1) := by decide +kernel
theorem d_L_law_506 : decode code 506 = .ok (.iload_n 3, 1) := by decide +kernel
theorem d_L_law_507 : decode code 507 = .ok (.iconst 3, 1) := by decide +kernel
theorem d_L_law_508 : decode code 508 = .ok (.iadd, 1) := by decide +kernel
theorem d_L_law_509 : decode code 509 = .ok (.iaload, 1) := by decide +kernel
theorem d_L_law_510 : decode code 510 = .ok (.invokevirtual 57, 3) := by decide +kernel
theorem d_L_law_513 : decode code 513 = .ok (.if_icmp .eq 58, 3) := by decide +kernel
theorem d_L_law_516 : decode code 516 = .ok (.iconst 0, 1) := by decide +kernel
theorem d_L_law_517 : decode code 517 = .ok (.ireturn, 1) := by decide +kernel
theorem d_L_law_518 : decode code 518 = .ok (.aload_n 1, 1) := by decide +kernel
theorem d_L_law_519 : decode code 519 = .ok (.aload_n 0, 1) := by decide +kernel
theorem d_L_law_520 : decode code 520 = .ok (.iload_n 3, 1) := by decide +kernel
theorem d_L_law_521 : decode code 521 = .ok (.iconst 1, 1) := by decide +kernel
theorem d_L_law_522 : decode code 522 = .ok (.iadd, 1) := by decide +kernel
theorem d_L_law_523 : decode code 523 = .ok (.iaload, 1) := by decide +kernel
theorem d_L_law_524 : decode code 524 = .ok (.aload_n 0, 1) := by decide +kernel
theorem d_L_law_525 : decode code 525 = .ok (.iload_n 3, 1) := by decide +kernel
theorem d_L_law_526 : decode code 526 = .ok (.iconst 2, 1) := by decide +kernel
theorem d_L_law_527 : decode code 527 = .ok (.iadd, 1) := by decide +kernel
theorem d_L_law_528 : decode code 528 = .ok (.iaload, 1) := by decide +kernel
theorem d_L_law_529 : decode code 529 = .ok (.aload_n 0, 1) := by decide +kernel
theorem d_L_law_530 : decode code 530 = .ok (.iload_n 3, 1) := by decide +kernel
theorem d_L_law_531 : decode code 531 = .ok (.iconst 3, 1) := by decide +kernel
theorem d_L_law_532 : decode code 532 = .ok (.iadd, 1) := by decide +kernel
theorem d_L_law_533 : decode code 533 = .ok (.iaload, 1) := by decide +kernel
theorem d_L_law_534 : decode code 534 = .ok (.aload_n 0, 1) := by decide +kernel
theorem d_L_law_535 : decode code 535 = .ok (.iload_n 3, 1) := by decide +kernel
theorem d_L_law_536 : decode code 536 = .ok (.iconst 4, 1) := by decide +kernel
theorem d_L_law_537 : decode code 537 = .ok (.iadd, 1) := by decide +kernel
theorem d_L_law_538 : decode code 538 = .ok (.iaload, 1) := by decide +kernel
theorem d_L_law_539 : decode code 539 = .ok (.invokevirtual 58, 3) := by decide +kernel
theorem d_L_law_542 : decode code 542 = .ok (.aload_n 2, 1) := by decide +kernel
theorem d_L_law_543 : decode code 543 = .ok (.aload_n 0, 1) := by decide +kernel
theorem d_L_law_544 : decode code 544 = .ok (.iload_n 3, 1) := by decide +kernel
theorem d_L_law_545 : decode code 545 = .ok (.iconst 1, 1) := by decide +kernel
theorem d_L_law_546 : decode code 546 = .ok (.iadd, 1) := by decide +kernel
theorem d_L_law_547 : decode code 547 = .ok (.iaload, 1) := by decide +kernel
theorem d_L_law_548 : decode code 548 = .ok (.aload_n 0, 1) := by decide +kernel
theorem d_L_law_549 : decode code 549 = .ok (.iload_n 3, 1) := by decide +kernel
theorem d_L_law_550 : decode code 550 = .ok (.iconst 2, 1) := by decide +kernel
theorem d_L_law_551 : decode code 551 = .ok (.iadd, 1) := by decide +kernel
theorem d_L_law_552 : decode code 552 = .ok (.iaload, 1) := by decide +kernel
theorem d_L_law_553 : decode code 553 = .ok (.aload_n 0, 1) := by decide +kernel
theorem d_L_law_554 : decode code 554 = .ok (.iload_n 3, 1) := by decide +kernel
theorem d_L_law_555 : decode code 555 = .ok (.iconst 3, 1) := by decide +kernel
theorem d_L_law_556 : decode code 556 = .ok (.iadd, 1) := by decide +kernel
theorem d_L_law_557 : decode code 557 = .ok (.iaload, 1) := by decide +kernel
theorem d_L_law_558 : decode code 558 = .ok (.aload_n 0, 1) := by decide +kernel
theorem d_L_law_559 : decode code 559 = .ok (.iload_n 3, 1) := by decide +kernel
theorem d_L_law_560 : decode code 560 = .ok (.iconst 4, 1) := by decide +kernel
theorem d_L_law_561 : decode code 561 = .ok (.iadd, 1) := by decide +kernel
theorem d_L_law_562 : decode code 562 = .ok (.iaload, 1) := by decide +kernel
theorem d_L_law_563 : decode code 563 = .ok (.invokevirtual 62, 3) := by decide +kernel
theorem d_L_law_566 : decode code 566 = .ok (.if_icmp .eq 5, 3) := by decide +kernel
theorem d_L_law_569 : decode code 569 = .ok (.iconst 0, 1) := by decide +kernel
theorem d_L_law_570 : decode code 570 = .ok (.ireturn, 1) := by decide +kernel
theorem d_L_law_571 : decode code 571 = .ok (.iinc 3 5, 3) := by decide +kernel
theorem d_L_law_574 : decode code 574 = .ok (.goto (-556), 3) := by decide +kernel
theorem d_L_law_577 : decode code 577 = .ok (.iconst 1, 1) := by decide +kernel
theorem d_L_law_578 : decode code 578 = .ok (.ireturn, 1) := by decide +kernel
end
section
-- ===== sums of integers, and the spaces of rows modulo p (p = 0: the rationals; p a prime: its residues) =====
def sm : Nat → (Nat → Int) → Int
  | 0, _ => 0
  | k + 1, f => sm k f + f k
theorem sm_congr {n : Nat} {f g : Nat → Int} (h : ∀ i, i < n → f i = g i) : sm n f = sm n g := by
  induction n with
  | zero => rfl
  | succ n ih =>
    show sm n f + f n = sm n g + g n
    rw [ih (fun i hi => h i (by omega)), h n (by omega)]
theorem sm_add (n : Nat) (f g : Nat → Int) : sm n (fun i => f i + g i) = sm n f + sm n g := by
  induction n with
  | zero => rfl
  | succ n ih =>
    show sm n (fun i => f i + g i) + (f n + g n) = (sm n f + f n) + (sm n g + g n)
    rw [ih]; omega
theorem sm_mul (n : Nat) (c : Int) (f : Nat → Int) : sm n (fun i => c * f i) = c * sm n f := by
  induction n with
  | zero => show (0 : Int) = c * 0; rw [Int.mul_zero]
  | succ n ih =>
    show sm n (fun i => c * f i) + c * f n = c * (sm n f + f n)
    rw [ih, Int.mul_add]
theorem sm_zero {n : Nat} {f : Nat → Int} (h : ∀ i, i < n → f i = 0) : sm n f = 0 := by
  induction n with
  | zero => rfl
  | succ n ih =>
    show sm n f + f n = 0
    rw [ih (fun i hi => h i (by omega)), h n (by omega)]; rfl
theorem sm_dvd {p : Int} {n : Nat} {f : Nat → Int} (h : ∀ i, i < n → p ∣ f i) : p ∣ sm n f := by
  induction n with
  | zero => exact Int.dvd_zero p
  | succ n ih => exact Int.dvd_add (ih (fun i hi => h i (by omega))) (h n (by omega))
theorem sm_dvd1 {p : Int} {n k : Nat} {f : Nat → Int} (hk : k < n) (h : ∀ i, i < n → i ≠ k → p ∣ f i) : p ∣ sm n f - f k := by
  induction n with
  | zero => omega
  | succ n ih =>
    show p ∣ sm n f + f n - f k
    by_cases e : k = n
    · subst e
      have : p ∣ sm k f := sm_dvd (fun i hi => h i (by omega) (by omega))
      rw [show sm k f + f k - f k = sm k f by omega]
      exact this
    · have h1 := ih (by omega) (fun i hi => h i (by omega))
      have h2 := h n (by omega) (by omega)
      rw [show sm n f + f n - f k = (sm n f - f k) + f n by omega]
      exact Int.dvd_add h1 h2
theorem sm_one {n k : Nat} {f : Nat → Int} (hk : k < n) (h : ∀ i, i < n → i ≠ k → f i = 0) : sm n f = f k := by
  have h0 : (0 : Int) ∣ sm n f - f k := sm_dvd1 hk (fun i hi hne => by rw [h i hi hne]; exact Int.dvd_refl 0)
  have := Int.zero_dvd.mp h0
  omega
theorem sm_swap (n m : Nat) (f : Nat → Nat → Int) : sm n (fun i => sm m (fun j => f i j)) = sm m (fun j => sm n (fun i => f i j)) := by
  induction n with
  | zero =>
    show (0 : Int) = sm m (fun j => 0)
    exact (sm_zero (fun _ _ => rfl)).symm
  | succ n ih =>
    show sm n (fun i => sm m (fun j => f i j)) + sm m (fun j => f n j) = sm m (fun j => sm n (fun i => f i j) + f n j)
    rw [ih, sm_add]
-- the numbers modulo p are a domain
def dm (p : Int) : Prop := ¬ p ∣ 1 ∧ ∀ a b : Int, p ∣ a * b → p ∣ a ∨ p ∣ b
theorem dm0 : dm 0 := by
  refine ⟨fun h => by have := Int.zero_dvd.mp h; omega, fun a b h => ?_⟩
  have := Int.zero_dvd.mp h
  rcases Int.mul_eq_zero.mp this with h | h
  · exact Or.inl (Int.zero_dvd.mpr h)
  · exact Or.inr (Int.zero_dvd.mpr h)
theorem dm.mul {p : Int} (h : dm p) {a b : Int} (ha : ¬ p ∣ a) (hb : ¬ p ∣ b) : ¬ p ∣ a * b := fun q => (h.2 a b q).elim ha hb
theorem dm.left {p : Int} (h : dm p) {a b : Int} (ha : ¬ p ∣ a) (hb : p ∣ a * b) : p ∣ b := (h.2 a b hb).resolve_left ha
-- the space of k rows A of n columns: x times a number that isn't 0 is a sum of multiples of rows
def sp (p : Int) (n k : Nat) (A : Nat → Nat → Int) (x : Nat → Int) : Prop := ∃ (s : Int) (c : Nat → Int), ¬ p ∣ s ∧ ∀ j, j < n → p ∣ s * x j - sm k (fun i => c i * A i j)
theorem sp_0 {p : Int} (hp : dm p) {n k : Nat} {A : Nat → Nat → Int} {x : Nat → Int} (h : ∀ j, j < n → p ∣ x j) : sp p n k A x := by
  refine ⟨1, fun _ => 0, hp.1, fun j hj => ?_⟩
  rw [sm_zero (fun i _ => by rw [Int.zero_mul]), Int.one_mul, Int.sub_zero]
  exact h j hj
theorem sp_row {p : Int} (hp : dm p) {n k : Nat} {A : Nat → Nat → Int} {r : Nat} (hr : r < k) : sp p n k A (A r) := by
  refine ⟨1, fun i => if i = r then 1 else 0, hp.1, fun j hj => ?_⟩
  rw [sm_one hr (fun i _ hne => by show (if i = r then (1 : Int) else 0) * A i j = 0; rw [if_neg hne, Int.zero_mul])]
  show p ∣ 1 * A r j - (if r = r then (1 : Int) else 0) * A r j
  rw [if_pos rfl, Int.sub_self]
  exact Int.dvd_zero p
/-- t z is a x + b y: then z is there with x and y -/
theorem sp_comb {p : Int} (hp : dm p) {n k : Nat} {A : Nat → Nat → Int} {x y z : Nat → Int} {t a b : Int} (hx : sp p n k A x) (hy : sp p n k A y) (ht : ¬ p ∣ t) (h : ∀ j, j < n → p ∣ t * z j - (a * x j + b * y j)) : sp p n k A z := by
  obtain ⟨s, c, hs, hc⟩ := hx
  obtain ⟨s', c', hs', hc'⟩ := hy
  refine ⟨s * s' * t, fun i => s' * a * c i + s * b * c' i, hp.mul (hp.mul hs hs') ht, fun j hj => ?_⟩
  have e : sm k (fun i => (s' * a * c i + s * b * c' i) * A i j) = s' * a * sm k (fun i => c i * A i j) + s * b * sm k (fun i => c' i * A i j) := by
    rw [← sm_mul, ← sm_mul, ← sm_add]
    exact sm_congr (fun i _ => by grind)
  rw [e]
  obtain ⟨u, hu⟩ := h j hj
  obtain ⟨v, hv⟩ := hc j hj
  obtain ⟨w, hw⟩ := hc' j hj
  generalize sm k (fun i => c i * A i j) = X at hv ⊢
  generalize sm k (fun i => c' i * A i j) = Y at hw ⊢
  refine ⟨s * s' * u + s' * a * v + s * b * w, ?_⟩
  grind
theorem sp_scale {p : Int} (hp : dm p) {n k : Nat} {A : Nat → Nat → Int} {x z : Nat → Int} {t a : Int} (hx : sp p n k A x) (ht : ¬ p ∣ t) (h : ∀ j, j < n → p ∣ t * z j - a * x j) : sp p n k A z :=
  sp_comb (a := a) (b := 0) hp hx hx ht (fun j hj => by rw [Int.zero_mul, Int.add_zero]; exact h j hj)
theorem sp_congr {p : Int} (hp : dm p) {n k : Nat} {A : Nat → Nat → Int} {x z : Nat → Int} (hx : sp p n k A x) (h : ∀ j, j < n → p ∣ z j - x j) : sp p n k A z :=
  sp_scale (a := 1) (t := 1) hp hx hp.1 (fun j hj => by rw [Int.one_mul, Int.one_mul]; exact h j hj)
theorem sp_sum {p : Int} (hp : dm p) {n k m : Nat} {A B : Nat → Nat → Int} {c : Nat → Int} (h : ∀ i, i < m → sp p n k A (B i)) : sp p n k A (fun j => sm m (fun i => c i * B i j)) := by
  induction m with
  | zero => exact sp_0 hp (fun j _ => Int.dvd_zero p)
  | succ m ih =>
    refine sp_comb (t := 1) (a := 1) (b := c m) hp (ih (fun i hi => h i (by omega))) (h m (by omega)) hp.1 (fun j _ => ?_)
    show p ∣ 1 * (sm m (fun i => c i * B i j) + c m * B m j) - (1 * sm m (fun i => c i * B i j) + c m * B m j)
    rw [Int.one_mul, Int.one_mul, Int.sub_self]
    exact Int.dvd_zero p
theorem sp_trans {p : Int} (hp : dm p) {n k m : Nat} {A B : Nat → Nat → Int} {x : Nat → Int} (hx : sp p n m B x) (h : ∀ i, i < m → sp p n k A (B i)) : sp p n k A x := by
  obtain ⟨s, c, hs, hc⟩ := hx
  exact sp_scale (a := 1) hp (sp_sum (c := c) hp h) hs (fun j hj => by rw [Int.one_mul]; exact hc j hj)
-- reduced: each row has a place, where all others are 0
def rd (p : Int) (n k : Nat) (T : Nat → Nat → Int) (pl : Nat → Nat) : Prop := (∀ r, r < k → pl r < n ∧ ¬ p ∣ T r (pl r)) ∧ ∀ r q, r < k → q < k → q ≠ r → p ∣ T q (pl r)
theorem rd_at {p : Int} {n k : Nat} {T : Nat → Nat → Int} {pl : Nat → Nat} (h : rd p n k T pl) {c : Nat → Int} {r : Nat} (hr : r < k) : p ∣ sm k (fun i => c i * T i (pl r)) - c r * T r (pl r) :=
  sm_dvd1 (f := fun i => c i * T i (pl r)) hr (fun i hi hne => Int.dvd_mul_of_dvd_right (h.2 r i hr hi hne))
/-- what is 0 at all places is 0 -/
theorem rd_zero {p : Int} (hp : dm p) {n k : Nat} {T : Nat → Nat → Int} {pl : Nat → Nat} {x : Nat → Int} (h : rd p n k T pl) (hx : sp p n k T x) (h0 : ∀ r, r < k → p ∣ x (pl r)) : ∀ j, j < n → p ∣ x j := by
  obtain ⟨s, c, hs, hc⟩ := hx
  have hcr : ∀ r, r < k → p ∣ c r := by
    intro r hr
    obtain ⟨hn, ht⟩ := h.1 r hr
    have h1 := hc (pl r) hn
    have h2 := rd_at (c := c) h hr
    have h3 : p ∣ s * x (pl r) := Int.dvd_mul_of_dvd_right (h0 r hr)
    have h4 : p ∣ T r (pl r) * c r := by
      obtain ⟨u, hu⟩ := h1
      obtain ⟨v, hv⟩ := h2
      obtain ⟨w, hw⟩ := h3
      refine ⟨w - u - v, ?_⟩
      generalize sm k (fun i => c i * T i (pl r)) = X at hu hv
      grind
    exact hp.left ht h4
  intro j hj
  have h1 := hc j hj
  have h2 : p ∣ sm k (fun i => c i * T i j) := sm_dvd (fun i hi => Int.dvd_mul_of_dvd_left (hcr i hi))
  have h3 : p ∣ s * x j := by
    have := Int.dvd_add h1 h2
    rwa [Int.sub_add_cancel] at this
  exact hp.left hs h3
/-- what is 0 at all places but row r's is a multiple of row r -/
theorem rd_row {p : Int} (hp : dm p) {n k : Nat} {T : Nat → Nat → Int} {pl : Nat → Nat} {x : Nat → Int} (h : rd p n k T pl) (hx : sp p n k T x) {r : Nat} (hr : r < k) (h0 : ∀ q, q < k → q ≠ r → p ∣ x (pl q)) : ∀ j, j < n → p ∣ T r (pl r) * x j - x (pl r) * T r j := by
  have hy : sp p n k T (fun j => T r (pl r) * x j - x (pl r) * T r j) := by
    refine sp_comb (t := 1) (a := T r (pl r)) (b := - x (pl r)) hp hx (sp_row hp hr) hp.1 (fun j _ => ⟨0, ?_⟩)
    grind
  refine rd_zero hp h hy (fun q hq => ?_)
  by_cases e : q = r
  · subst e
    show p ∣ T q (pl q) * x (pl q) - x (pl q) * T q (pl q)
    rw [Int.mul_comm, Int.sub_self]
    exact Int.dvd_zero p
  · exact Int.dvd_sub (Int.dvd_mul_of_dvd_right (h0 q hq e)) (Int.dvd_mul_of_dvd_right (h.2 q r hq hr (Ne.symm e)))
-- as it is told: p = 0: whole numbers with no divisor in common, above 0 at the place; else 0 .. p - 1, and 1 at the place
def pm (n : Nat) (x : Nat → Int) : Prop := ∀ d : Int, (∀ j, j < n → d ∣ x j) → d ∣ 1
def tl (p : Int) (n : Nat) (x : Nat → Int) (c : Nat) : Prop := if p = 0 then pm n x ∧ 0 < x c else x c = 1 ∧ ∀ j, j < n → 0 ≤ x j ∧ x j < p
theorem dvd1_pos {a : Int} (h : 0 < a) (h1 : a ∣ 1) : a = 1 := by
  have := Int.le_of_dvd (by omega) h1
  omega
theorem idvd {k m n : Int} (h : Int.gcd k m = 1) (h2 : k ∣ m * n) : k ∣ n := by
  have h3 : k.natAbs ∣ m.natAbs * n.natAbs := by rw [← Int.natAbs_mul]; exact Int.natAbs_dvd_natAbs.mpr h2
  exact Int.natAbs_dvd_natAbs.mp (Nat.Coprime.dvd_of_dvd_mul_left h h3)
theorem pm_eq {n : Nat} {x y : Nat → Int} {a b : Int} (ha : 0 < a) (hb : 0 < b) (hx : pm n x) (hy : pm n y) (h : ∀ j, j < n → a * x j = b * y j) : ∀ j, j < n → x j = y j := by
  -- reduce a / b to lowest terms
  have hg : 0 < (Int.gcd a b : Int) := by
    have : Int.gcd a b ≠ 0 := fun e => by have := (Int.gcd_eq_zero_iff.mp e).1; omega
    omega
  obtain ⟨a', ha'⟩ : (Int.gcd a b : Int) ∣ a := Int.gcd_dvd_left ..
  obtain ⟨b', hb'⟩ : (Int.gcd a b : Int) ∣ b := Int.gcd_dvd_right ..
  generalize hG : (Int.gcd a b : Int) = g at *
  have hco : Int.gcd a' b' = 1 := by
    have h1 : Int.gcd a b = Int.gcd (g * a') (g * b') := by rw [← ha', ← hb']
    rw [Int.gcd_mul_left] at h1
    have h2 : (Int.gcd a b : Int) = (g.natAbs * Int.gcd a' b' : Nat) := by rw [h1]
    rw [hG] at h2
    have h3 : (g.natAbs : Int) = g := Int.natAbs_of_nonneg (by omega)
    rw [Int.natCast_mul, h3] at h2
    have h4 : g * (Int.gcd a' b' : Int) = g * 1 := by rw [← h2, Int.mul_one]
    have := Int.eq_of_mul_eq_mul_left (by omega) h4
    omega
  have ha0 : 0 < a' := by
    rcases Int.lt_trichotomy a' 0 with h | h | h
    · have := Int.mul_neg_of_pos_of_neg hg h; omega
    · rw [h, Int.mul_zero] at ha'; omega
    · exact h
  have hb0 : 0 < b' := by
    rcases Int.lt_trichotomy b' 0 with h | h | h
    · have := Int.mul_neg_of_pos_of_neg hg h; omega
    · rw [h, Int.mul_zero] at hb'; omega
    · exact h
  have h' : ∀ j, j < n → a' * x j = b' * y j := by
    intro j hj
    have := h j hj
    rw [ha', hb', Int.mul_assoc, Int.mul_assoc] at this
    exact Int.eq_of_mul_eq_mul_left (by omega) this
  have hb1 : b' ∣ 1 := hx b' (fun j hj => by
    have h1 : b' ∣ a' * x j := ⟨y j, h' j hj⟩
    exact idvd (by rw [Int.gcd_comm]; exact hco) h1)
  have ha1 : a' ∣ 1 := hy a' (fun j hj => by
    have h1 : a' ∣ b' * y j := ⟨x j, (h' j hj).symm⟩
    exact idvd hco h1)
  have e1 := dvd1_pos ha0 ha1
  have e2 := dvd1_pos hb0 hb1
  intro j hj
  have := h' j hj
  rw [e1, e2, Int.one_mul, Int.one_mul] at this
  exact this
end
section
-- ===== a reduced table is known by its space, its places and how rows are told =====
theorem tl_eq {p : Int} (h0p : 0 ≤ p) {n : Nat} {x y : Nat → Int} {c : Nat} (hc : c < n) (hx : tl p n x c) (hy : tl p n y c) (h : ∀ j, j < n → p ∣ x c * y j - y c * x j) : ∀ j, j < n → x j = y j := by
  unfold tl at hx hy
  by_cases e : p = 0
  · rw [if_pos e] at hx hy
    subst e
    refine pm_eq hy.2 hx.2 hx.1 hy.1 (fun j hj => ?_)
    have := Int.zero_dvd.mp (h j hj)
    omega
  · rw [if_neg e] at hx hy
    intro j hj
    obtain ⟨u, hu⟩ := h j hj
    rw [hx.1, hy.1, Int.one_mul, Int.one_mul] at hu
    have h1 := hx.2 j hj
    have h2 := hy.2 j hj
    have hu0 : u = 0 := by
      rcases Int.lt_trichotomy u 0 with h | h | h
      · have : p * u ≤ p * (-1) := Int.mul_le_mul_of_nonneg_left (by omega) (by omega)
        omega
      · exact h
      · have : p * 1 ≤ p * u := Int.mul_le_mul_of_nonneg_left (by omega) (by omega)
        omega
    rw [hu0, Int.mul_zero] at hu
    omega
/-- two reduced tables of one space, with the same places, told -/
theorem rd_eq {p : Int} (hp : dm p) (h0p : 0 ≤ p) {n k : Nat} {T S : Nat → Nat → Int} {pl : Nat → Nat} (hT : rd p n k T pl) (hS : rd p n k S pl) (hTS : ∀ r, r < k → sp p n k T (S r)) (tT : ∀ r, r < k → tl p n (T r) (pl r)) (tS : ∀ r, r < k → tl p n (S r) (pl r)) : ∀ r j, r < k → j < n → T r j = S r j := by
  intro r j hr hj
  exact tl_eq h0p (hT.1 r hr).1 (tT r hr) (tS r hr) (rd_row hp hT (hTS r hr) hr (fun q hq hne => hS.2 q r hq hr (Ne.symm hne))) j hj
-- from the left: places rise, and a row is 0 ahead of its place
def lf (p : Int) (k : Nat) (T : Nat → Nat → Int) (pl : Nat → Nat) : Prop := (∀ r q, r < q → q < k → pl r < pl q) ∧ ∀ r j, r < k → j < pl r → p ∣ T r j
theorem lf_le {p : Int} (hp : dm p) {n k k' : Nat} {T S : Nat → Nat → Int} {pl pl' : Nat → Nat} (hT : rd p n k T pl) (hS : rd p n k' S pl') (lT : lf p k T pl) (lS : lf p k' S pl') (hST : ∀ r, r < k → sp p n k' S (T r)) {r : Nat} (hr : r < k) (hb : ∀ i, i < r → i < k' ∧ pl i = pl' i) : r < k' ∧ pl' r ≤ pl r := by
  obtain ⟨s, c, hs, hc⟩ := hST r hr
  obtain ⟨hn, ht⟩ := hT.1 r hr
  have hcr : ∀ i, i < r → p ∣ c i := by
    intro i hi
    obtain ⟨hi', he⟩ := hb i hi
    have h1 := hc (pl' i) (hS.1 i hi').1
    have h2 := rd_at (c := c) hS hi'
    have h3 : p ∣ T r (pl i) := hT.2 i r (by omega) hr (by omega)
    rw [he] at h3
    have h4 : p ∣ S i (pl' i) * c i := by
      obtain ⟨u, hu⟩ := h1
      obtain ⟨v, hv⟩ := h2
      obtain ⟨w, hw⟩ := h3
      refine ⟨s * w - u - v, ?_⟩
      generalize sm k' (fun i => c i * S i (pl' i)) = X at hu hv
      grind
    exact hp.left (hS.1 i hi').2 h4
  by_cases hcase : r < k' ∧ pl' r ≤ pl r
  · exact hcase
  · exfalso
    have h1 := hc (pl r) hn
    have h2 : p ∣ sm k' (fun i => c i * S i (pl r)) := by
      refine sm_dvd (fun i hi => ?_)
      by_cases hir : i < r
      · exact Int.dvd_mul_of_dvd_left (hcr i hir)
      · have hrk : r < k' := by omega
        have hlt : pl r < pl' r := by
          have : ¬ pl' r ≤ pl r := fun h => hcase ⟨hrk, h⟩
          omega
        have hle : pl' r ≤ pl' i := by
          by_cases e : r = i
          · rw [e]; exact Nat.le_refl _
          · exact Nat.le_of_lt (lS.1 r i (by omega) hi)
        exact Int.dvd_mul_of_dvd_right (lS.2 i (pl r) hi (by omega))
    have h3 : p ∣ s * T r (pl r) := by
      have := Int.dvd_add h1 h2
      rwa [Int.sub_add_cancel] at this
    exact ht (hp.left hs h3)
theorem lf_pl {p : Int} (hp : dm p) {n k k' : Nat} {T S : Nat → Nat → Int} {pl pl' : Nat → Nat} (hT : rd p n k T pl) (hS : rd p n k' S pl') (lT : lf p k T pl) (lS : lf p k' S pl') (hST : ∀ r, r < k → sp p n k' S (T r)) (hTS : ∀ r, r < k' → sp p n k T (S r)) : ∀ r, r < k → r < k' ∧ pl r = pl' r := by
  intro r
  induction r using Nat.strongRecOn with
  | _ r ih =>
    intro hr
    have hb : ∀ i, i < r → i < k' ∧ pl i = pl' i := fun i hi => ih i hi (by omega)
    obtain ⟨h1, h2⟩ := lf_le hp hT hS lT lS hST hr hb
    obtain ⟨-, h3⟩ := lf_le hp hS hT lS lT hTS h1 (fun i hi => ⟨by omega, (hb i hi).2.symm⟩)
    exact ⟨h1, by omega⟩
/-- two tables of one space, both reduced from the left, told: they are one -/
theorem lf_eq {p : Int} (hp : dm p) (h0p : 0 ≤ p) {n k k' : Nat} {T S : Nat → Nat → Int} {pl pl' : Nat → Nat} (hT : rd p n k T pl) (hS : rd p n k' S pl') (lT : lf p k T pl) (lS : lf p k' S pl') (hST : ∀ r, r < k → sp p n k' S (T r)) (hTS : ∀ r, r < k' → sp p n k T (S r)) (tT : ∀ r, r < k → tl p n (T r) (pl r)) (tS : ∀ r, r < k' → tl p n (S r) (pl' r)) : k = k' ∧ (∀ r, r < k → pl r = pl' r) ∧ ∀ r j, r < k → j < n → T r j = S r j := by
  have h1 := lf_pl hp hT hS lT lS hST hTS
  have h2 := lf_pl hp hS hT lS lT hTS hST
  have hk : k = k' := by
    rcases Nat.lt_trichotomy k k' with h | h | h
    · have := (h2 k h).1; omega
    · exact h
    · have := (h1 k' h).1; omega
  subst hk
  have hpl : ∀ r, r < k → pl r = pl' r := fun r hr => (h1 r hr).2
  refine ⟨rfl, hpl, ?_⟩
  have hS' : rd p n k S pl := ⟨fun r hr => by rw [hpl r hr]; exact hS.1 r hr, fun r q hr hq hne => by rw [hpl r hr]; exact hS.2 r q hr hq hne⟩
  exact rd_eq hp h0p hT hS' hTS tT (fun r hr => by rw [hpl r hr]; exact tS r hr)
-- a prime modulus is a domain
def prm (q : Nat) : Prop := 2 ≤ q ∧ ∀ d : Nat, d ∣ q → d = 1 ∨ d = q
theorem dmP {q : Nat} (h : prm q) : dm (q : Int) := by
  refine ⟨fun h1 => ?_, fun a b hab => ?_⟩
  · have := Int.le_of_dvd (by omega) h1
    have := h.1
    omega
  · have hg : Int.gcd (q : Int) a ∣ q := by
      have := Int.gcd_dvd_left (a := (q : Int)) (b := a)
      exact Int.natCast_dvd_natCast.mp this
    rcases h.2 _ hg with e | e
    · right
      exact idvd e hab
    · left
      have := Int.gcd_dvd_right (a := (q : Int)) (b := a)
      rw [e] at this
      exact this
end
section
-- ===== small solutions: the pigeonhole, and Siegel's bound =====
/-- more things than holes: two lie in one -/
theorem php : ∀ (m n : Nat) (f : Nat → Nat), m < n → (∀ i, i < n → f i < m) → ∃ i j, i < j ∧ j < n ∧ f i = f j
  | 0, n, f, hn, h => by
    have := h 0 (by omega)
    omega
  | m + 1, n, f, hn, h => by
    by_cases hex : ∃ i, i + 1 < n ∧ f i = f (n - 1)
    · obtain ⟨i, h1, h2⟩ := hex
      exact ⟨i, n - 1, by omega, by omega, h2⟩
    · have hne : ∀ i, i + 1 < n → f i ≠ f (n - 1) := fun i hi he => hex ⟨i, hi, he⟩
      have hl := h (n - 1) (by omega)
      obtain ⟨i, j, h1, h2, h3⟩ := php m (n - 1) (fun i => if f i = m then f (n - 1) else f i) (by omega) (fun i hi => by
        have a1 := h i (by omega)
        have a2 := hne i (by omega)
        show (if f i = m then f (n - 1) else f i) < m
        by_cases e : f i = m
        · rw [if_pos e]; omega
        · rw [if_neg e]; omega)
      refine ⟨i, j, h1, by omega, ?_⟩
      have b1 := hne i (by omega)
      have b2 := hne j (by omega)
      have h3 : (if f i = m then f (n - 1) else f i) = (if f j = m then f (n - 1) else f j) := h3
      by_cases e1 : f i = m <;> by_cases e2 : f j = m
      · omega
      · rw [if_pos e1, if_neg e2] at h3; exact absurd h3.symm b2
      · rw [if_neg e1, if_pos e2] at h3; exact absurd h3 b1
      · rw [if_neg e1, if_neg e2] at h3; exact h3
-- digits to a base
def dg (b : Nat) (x i : Nat) : Nat := x / b ^ i % b
theorem dg_lt {b x i : Nat} (hb : 0 < b) : dg b x i < b := Nat.mod_lt _ hb
/-- a number below b ^ m is known by its m digits -/
theorem dg_inj {b : Nat} (hb : 0 < b) : ∀ (m x y : Nat), x < b ^ m → y < b ^ m → (∀ i, i < m → dg b x i = dg b y i) → x = y
  | 0, x, y, hx, hy, _ => by
    rw [Nat.pow_zero] at hx hy
    omega
  | m + 1, x, y, hx, hy, h => by
    have h0 := h 0 (by omega)
    unfold dg at h0
    rw [Nat.pow_zero, Nat.div_one, Nat.div_one] at h0
    have hx' : x / b < b ^ m := by rw [Nat.div_lt_iff_lt_mul hb]; rw [Nat.pow_succ] at hx; exact hx
    have hy' : y / b < b ^ m := by rw [Nat.div_lt_iff_lt_mul hb]; rw [Nat.pow_succ] at hy; exact hy
    have := dg_inj hb m (x / b) (y / b) hx' hy' (fun i hi => by
      have := h (i + 1) (by omega)
      unfold dg at this ⊢
      rw [Nat.div_div_eq_div_mul, Nat.div_div_eq_div_mul, ← Nat.pow_succ']
      exact this)
    have e1 := Nat.div_add_mod x b
    have e2 := Nat.div_add_mod y b
    rw [this, h0] at e1
    omega
-- the number whose digits to the base b are given
def cd (b : Nat) : Nat → (Nat → Nat) → Nat
  | 0, _ => 0
  | m + 1, d => cd b m d + d m * b ^ m
theorem cd_lt {b : Nat} : ∀ (m : Nat) {d : Nat → Nat}, (∀ i, i < m → d i < b) → cd b m d < b ^ m
  | 0, d, _ => by show 0 < b ^ 0; rw [Nat.pow_zero]; omega
  | m + 1, d, h => by
    have h1 := cd_lt m (d := d) (fun i hi => h i (by omega))
    have h2 := h m (by omega)
    show cd b m d + d m * b ^ m < b ^ (m + 1)
    rw [Nat.pow_succ, Nat.mul_comm (b ^ m) b]
    have h3 : (d m + 1) * b ^ m ≤ b * b ^ m := Nat.mul_le_mul_right _ (by omega)
    rw [Nat.add_mul, Nat.one_mul] at h3
    omega
theorem cd_inj {b : Nat} : ∀ (m : Nat) {d e : Nat → Nat}, (∀ i, i < m → d i < b) → (∀ i, i < m → e i < b) → cd b m d = cd b m e → ∀ i, i < m → d i = e i
  | 0, d, e, _, _, _ => fun i hi => by omega
  | m + 1, d, e, hd, he, h => by
    have a1 := cd_lt m (d := d) (fun i hi => hd i (by omega))
    have a2 := cd_lt m (d := e) (fun i hi => he i (by omega))
    have h : cd b m d + d m * b ^ m = cd b m e + e m * b ^ m := h
    have hm : d m = e m := by
      have q1 : (cd b m d + d m * b ^ m) / b ^ m = d m := by
        rw [Nat.add_mul_div_right _ _ (by omega), Nat.div_eq_of_lt a1]; omega
      have q2 : (cd b m e + e m * b ^ m) / b ^ m = e m := by
        rw [Nat.add_mul_div_right _ _ (by omega), Nat.div_eq_of_lt a2]; omega
      rw [← q1, h, q2]
    have hr : cd b m d = cd b m e := by rw [hm] at h; omega
    have ih := cd_inj m (fun i hi => hd i (by omega)) (fun i hi => he i (by omega)) hr
    intro i hi
    by_cases e1 : i = m
    · rw [e1]; exact hm
    · exact ih i (by omega)
theorem sm_abs {n : Nat} {f : Nat → Int} {B : Nat} (h : ∀ i, i < n → (f i).natAbs ≤ B) : (sm n f).natAbs ≤ n * B := by
  induction n with
  | zero => show (0 : Int).natAbs ≤ _; simp
  | succ n ih =>
    show (sm n f + f n).natAbs ≤ (n + 1) * B
    have h1 := ih (fun i hi => h i (by omega))
    have h2 := h n (by omega)
    rw [Nat.add_mul, Nat.one_mul]
    have := Int.natAbs_add_le (sm n f) (f n)
    omega
/-- M equations in M + 1 unknowns, with whole numbers up to C: a solution, not 0, of whole numbers up to ((M + 1) C) ^ M -/
theorem siegel (M C : Nat) (hC : 0 < C) (E : Nat → Nat → Int) (hE : ∀ r i, r < M → i < M + 1 → (E r i).natAbs ≤ C) : ∃ y : Nat → Int, (∃ i, i < M + 1 ∧ y i ≠ 0) ∧ (∀ i, (y i).natAbs ≤ ((M + 1) * C) ^ M) ∧ ∀ r, r < M → sm (M + 1) (fun i => y i * E r i) = 0 := by
  generalize hY : ((M + 1) * C) ^ M = Y
  generalize hB : (M + 1) * C * Y + 1 = B
  have hN : 0 < (M + 1) * C := Nat.mul_pos (by omega) hC
  -- a row's value at the digits of x, moved up by what can be taken away
  let ng : Nat → Int := fun r => sm (M + 1) (fun i => ((Y * ((- E r i).toNat) : Nat) : Int))
  let val : Nat → Nat → Int := fun x r => sm (M + 1) (fun i => ((dg (Y + 1) x i : Nat) : Int) * E r i) + ng r
  have hval : ∀ x r, r < M → 0 ≤ val x r ∧ val x r < B := by
    intro x r hr
    have e1 : val x r = sm (M + 1) (fun i => ((dg (Y + 1) x i : Nat) : Int) * E r i + ((Y * ((- E r i).toNat) : Nat) : Int)) := (sm_add _ _ _).symm
    have key : ∀ i, i < M + 1 → 0 ≤ ((dg (Y + 1) x i : Nat) : Int) * E r i + ((Y * ((- E r i).toNat) : Nat) : Int) ∧ ((dg (Y + 1) x i : Nat) : Int) * E r i + ((Y * ((- E r i).toNat) : Nat) : Int) ≤ ((C * Y : Nat) : Int) := by
      intro i hi
      have hd : dg (Y + 1) x i ≤ Y := Nat.le_of_lt_succ (dg_lt (by omega))
      have hc := hE r i hr hi
      generalize dg (Y + 1) x i = d at hd
      generalize E r i = z at hc
      rcases Int.lt_or_le z 0 with hz | hz
      · obtain ⟨w, rfl⟩ : ∃ w : Nat, z = -(w : Int) := ⟨z.natAbs, by omega⟩
        have hw : w ≤ C := by omega
        have h1 : (- -(w : Int)).toNat = w := by omega
        rw [h1]
        have h2 : d * w ≤ Y * w := Nat.mul_le_mul_right _ hd
        have h3 : Y * w ≤ C * Y := by rw [Nat.mul_comm]; exact Nat.mul_le_mul_right _ hw
        have h4 : (d : Int) * -(w : Int) = -((d * w : Nat) : Int) := by rw [Int.natCast_mul, Int.mul_neg]
        rw [h4]
        omega
      · obtain ⟨w, rfl⟩ : ∃ w : Nat, z = (w : Int) := ⟨z.natAbs, by omega⟩
        have hw : w ≤ C := by omega
        have h1 : (-(w : Int)).toNat = 0 := by omega
        rw [h1]
        have h2 : d * w ≤ C * Y := by rw [Nat.mul_comm]; exact Nat.mul_le_mul hw hd
        have h4 : (d : Int) * (w : Int) = ((d * w : Nat) : Int) := by rw [Int.natCast_mul]
        rw [h4, Nat.mul_zero]
        omega
    have lo : ∀ (m : Nat) (g : Nat → Int) (K : Nat), (∀ i, i < m → 0 ≤ g i ∧ g i ≤ (K : Int)) → 0 ≤ sm m g ∧ sm m g ≤ ((m * K : Nat) : Int) := by
      intro m g K
      induction m with
      | zero => intro _; exact ⟨Int.le_refl 0, by show (0 : Int) ≤ _; omega⟩
      | succ m ih =>
        intro h
        have h1 := ih (fun i hi => h i (by omega))
        have h2 := h m (by omega)
        have h3 : ((m + 1) * K : Nat) = m * K + K := by rw [Nat.add_mul, Nat.one_mul]
        show 0 ≤ sm m g + g m ∧ sm m g + g m ≤ (((m + 1) * K : Nat) : Int)
        rw [h3]
        omega
    have := lo (M + 1) _ (C * Y) key
    rw [e1]
    have h5 : (M + 1) * (C * Y) = (M + 1) * C * Y := (Nat.mul_assoc _ _ _).symm
    rw [h5] at this
    omega
  have hhole : B ^ M < (Y + 1) ^ (M + 1) := by
    have h1 : B ≤ (M + 1) * C * (Y + 1) := by rw [Nat.mul_add, Nat.mul_one]; omega
    have h2 : B ^ M ≤ ((M + 1) * C * (Y + 1)) ^ M := Nat.pow_le_pow_left h1 M
    rw [Nat.mul_pow, hY] at h2
    have h3 : Y * (Y + 1) ^ M < (Y + 1) * (Y + 1) ^ M := Nat.mul_lt_mul_of_pos_right (by omega) (Nat.pow_pos (by omega))
    rw [Nat.pow_succ, Nat.mul_comm ((Y + 1) ^ M) (Y + 1)]
    omega
  obtain ⟨x, x', h1, h2, h3⟩ := php (B ^ M) ((Y + 1) ^ (M + 1)) (fun x => cd B M (fun r => (val x r).toNat)) hhole (fun x _ => cd_lt M (fun r hr => by have := hval x r hr; omega))
  have h4 := cd_inj M (fun r hr => by have := hval x r hr; omega) (fun r hr => by have := hval x' r hr; omega) h3
  refine ⟨fun i => ((dg (Y + 1) x i : Nat) : Int) - ((dg (Y + 1) x' i : Nat) : Int), ?_, ?_, ?_⟩
  · by_cases hex : ∃ i, i < M + 1 ∧ dg (Y + 1) x i ≠ dg (Y + 1) x' i
    · obtain ⟨i, hi, hne⟩ := hex
      exact ⟨i, hi, by show ((dg (Y + 1) x i : Nat) : Int) - ((dg (Y + 1) x' i : Nat) : Int) ≠ 0; omega⟩
    · exfalso
      have := dg_inj (b := Y + 1) (by omega) (M + 1) x x' (by omega) h2 (fun i hi => Classical.byContradiction fun hne => hex ⟨i, hi, hne⟩)
      omega
  · intro i
    have a1 : dg (Y + 1) x i ≤ Y := Nat.le_of_lt_succ (dg_lt (by omega))
    have a2 : dg (Y + 1) x' i ≤ Y := Nat.le_of_lt_succ (dg_lt (by omega))
    show (((dg (Y + 1) x i : Nat) : Int) - ((dg (Y + 1) x' i : Nat) : Int)).natAbs ≤ Y
    omega
  · intro r hr
    have a1 := hval x r hr
    have a2 := hval x' r hr
    have a3 := h4 r hr
    have a4 : val x r = val x' r := by omega
    have a5 : sm (M + 1) (fun i => ((dg (Y + 1) x i : Nat) : Int) * E r i) = sm (M + 1) (fun i => ((dg (Y + 1) x' i : Nat) : Int) * E r i) := by
      have : sm (M + 1) (fun i => ((dg (Y + 1) x i : Nat) : Int) * E r i) + ng r = sm (M + 1) (fun i => ((dg (Y + 1) x' i : Nat) : Int) * E r i) + ng r := a4
      omega
    have a6 : sm (M + 1) (fun i => (((dg (Y + 1) x i : Nat) : Int) - ((dg (Y + 1) x' i : Nat) : Int)) * E r i) = sm (M + 1) (fun i => ((dg (Y + 1) x i : Nat) : Int) * E r i) + (-1) * sm (M + 1) (fun i => ((dg (Y + 1) x' i : Nat) : Int) * E r i) := by
      rw [← sm_mul, ← sm_add]
      exact sm_congr (fun i _ => by grind)
    rw [a6, a5]
    omega
end
section
-- ===== spaces over the rationals that hold small vectors: under each vector of theirs lies one of small whole numbers =====
theorem sm_sub (n : Nat) (f g : Nat → Int) : sm n (fun i => f i - g i) = sm n f - sm n g := by
  induction n with
  | zero => rfl
  | succ n ih =>
    show sm n (fun i => f i - g i) + (f n - g n) = (sm n f + f n) - (sm n g + g n)
    rw [ih]; omega
theorem sm_upd {n k : Nat} {v : Int} {f : Nat → Int} (hk : k < n) : sm n (fun i => if i = k then v else f i) = sm n f - f k + v := by
  induction n with
  | zero => omega
  | succ n ih =>
    show sm n (fun i => if i = k then v else f i) + (if n = k then v else f n) = sm n f + f n - f k + v
    by_cases e : n = k
    · subst e
      rw [if_pos rfl, sm_congr (g := f) (fun i hi => if_neg (by omega))]
      omega
    · rw [if_neg e, ih (by omega)]
      omega
/-- the k-th goes out, the last comes in its stead -/
theorem sm_out {n k : Nat} {f : Nat → Int} (hk : k < n + 1) : sm (n + 1) f = sm n (fun i => if i = k then f n else f i) + f k := by
  show sm n f + f n = _
  by_cases e : k = n
  · subst e
    rw [sm_congr (f := fun i => if i = k then f k else f i) (g := f) (fun i hi => if_neg (by omega))]
  · rw [sm_upd (by omega)]
    omega
noncomputable def ct : Nat → (Nat → Prop) → Nat
  | 0, _ => 0
  | n + 1, P => ct n P + @ite Nat (P n) (Classical.propDecidable _) 1 0
theorem ct_t {n : Nat} {P : Nat → Prop} (h : P n) : ct (n + 1) P = ct n P + 1 := by
  show ct n P + @ite Nat (P n) (Classical.propDecidable _) 1 0 = _
  rw [if_pos h]
theorem ct_f {n : Nat} {P : Nat → Prop} (h : ¬ P n) : ct (n + 1) P = ct n P := by
  show ct n P + @ite Nat (P n) (Classical.propDecidable _) 1 0 = _
  rw [if_neg h]; omega
theorem ct_le (n : Nat) (P : Nat → Prop) : ct n P ≤ n := by
  induction n with
  | zero => exact Nat.le_refl 0
  | succ n ih =>
    by_cases h : P n
    · rw [ct_t h]; omega
    · rw [ct_f h]; omega
theorem ct_1 {n j : Nat} {P : Nat → Prop} (hj : j < n) (h : ¬ P j) : ct n P + 1 ≤ n := by
  induction n with
  | zero => omega
  | succ n ih =>
    by_cases e : j = n
    · subst e
      rw [ct_f h]
      have := ct_le j P
      omega
    · have := ih (by omega)
      by_cases hp : P n
      · rw [ct_t hp]; omega
      · rw [ct_f hp]; omega
theorem ct_2 {n i j : Nat} {P : Nat → Prop} (hij : i < j) (hj : j < n) (h : ¬ P i) (h' : ¬ P j) : ct n P + 2 ≤ n := by
  induction n with
  | zero => omega
  | succ n ih =>
    by_cases e : j = n
    · subst e
      rw [ct_f h']
      have := ct_1 (n := j) (P := P) hij h
      omega
    · have := ih (by omega)
      by_cases hp : P n
      · rw [ct_t hp]; omega
      · rw [ct_f hp]; omega
/-- of q equations in m unknowns M speak for all, and the solutions are the sums of m - M of them -/
theorem cutE (m : Nat) (E : Nat → Nat → Int) (P : Nat → Prop) (hP : ∀ r, ¬ P r → ∀ i, i < m → E r i = 0) : ∀ q : Nat, ∃ (d M : Nat) (ch : Nat → Nat) (b : Nat → Nat → Int), d + M = m ∧ M ≤ ct q P ∧ (∀ r, r < M → ch r < q) ∧ (∀ i r, i < d → r < q → sm m (fun u => b i u * E r u) = 0) ∧
    ∀ z : Nat → Int, (∀ r, r < M → sm m (fun u => z u * E (ch r) u) = 0) → ∃ (t : Int) (c : Nat → Int), t ≠ 0 ∧ ∀ u, u < m → t * z u = sm d (fun i => c i * b i u) := by
  intro q
  induction q with
  | zero =>
    refine ⟨m, 0, fun _ => 0, fun i u => if u = i then 1 else 0, by omega, Nat.zero_le _, fun r h => by omega, fun i r _ h => by omega, fun z _ => ⟨1, z, by omega, fun u hu => ?_⟩⟩
    rw [sm_one hu (fun i _ hne => by show z i * (if u = i then (1 : Int) else 0) = 0; rw [if_neg (by omega), Int.mul_zero])]
    show 1 * z u = z u * (if u = u then (1 : Int) else 0)
    rw [if_pos rfl]
    omega
  | succ q ih =>
    obtain ⟨d, M, ch, b, h1, h2, h3, h4, h5⟩ := ih
    by_cases hex : ∃ i, i < d ∧ sm m (fun u => b i u * E q u) ≠ 0
    · obtain ⟨k, hk, hne⟩ := hex
      obtain ⟨d', rfl⟩ : ∃ d', d = d' + 1 := ⟨d - 1, by omega⟩
      have hPq : P q := Classical.byContradiction fun hn => hne (sm_zero (fun u hu => by rw [hP q hn u hu, Int.mul_zero]))
      generalize hL : (fun i => sm m (fun u => b i u * E q u)) = L
      have hLk : ∀ i, sm m (fun u => b i u * E q u) = L i := fun i => by rw [← hL]
      rw [hLk] at hne
      let b' : Nat → Nat → Int := fun i u => if i = k then L k * b d' u - L d' * b k u else L k * b i u - L i * b k u
      have hb' : ∀ i r, sm m (fun u => b' i u * E r u) = if i = k then L k * sm m (fun u => b d' u * E r u) - L d' * sm m (fun u => b k u * E r u) else L k * sm m (fun u => b i u * E r u) - L i * sm m (fun u => b k u * E r u) := by
        intro i r
        by_cases e : i = k
        · rw [if_pos e, ← sm_mul, ← sm_mul, ← sm_sub]
          refine sm_congr (fun u _ => ?_)
          show (if i = k then L k * b d' u - L d' * b k u else L k * b i u - L i * b k u) * E r u = _
          rw [if_pos e]
          grind
        · rw [if_neg e, ← sm_mul, ← sm_mul, ← sm_sub]
          refine sm_congr (fun u _ => ?_)
          show (if i = k then L k * b d' u - L d' * b k u else L k * b i u - L i * b k u) * E r u = _
          rw [if_neg e]
          grind
      refine ⟨d', M + 1, fun r => if r = M then q else ch r, b', by omega, by rw [ct_t hPq]; omega, fun r hr => ?_, fun i r hi hr => ?_, fun z hz => ?_⟩
      · show (if r = M then q else ch r) < q + 1
        by_cases e : r = M
        · rw [if_pos e]; omega
        · rw [if_neg e]; have := h3 r (by omega); omega
      · rw [hb' i r]
        by_cases e : r = q
        · subst e
          rw [hLk, hLk, hLk]
          by_cases e2 : i = k
          · rw [if_pos e2, Int.mul_comm, Int.sub_self]
          · rw [if_neg e2, Int.mul_comm, Int.sub_self]
        · rw [h4 d' r (by omega) (by omega), h4 k r hk (by omega)]
          by_cases e2 : i = k
          · rw [if_pos e2]; simp
          · rw [if_neg e2, h4 i r (by omega) (by omega)]; simp
      · obtain ⟨t, c, ht, hc⟩ := h5 z (fun r hr => by
          have := hz r (by omega)
          simp only [if_neg (show r ≠ M by omega)] at this
          exact this)
        have hq := hz M (by omega)
        simp only [if_pos] at hq
        -- the new equation says that the sum of c i * L i is 0
        have hcl : sm (d' + 1) (fun i => c i * L i) = 0 := by
          have e1 : t * sm m (fun u => z u * E q u) = sm m (fun u => sm (d' + 1) (fun i => c i * b i u * E q u)) := by
            rw [← sm_mul]
            refine sm_congr (fun u hu => ?_)
            have e2 : sm (d' + 1) (fun i => c i * b i u * E q u) = E q u * sm (d' + 1) (fun i => c i * b i u) := by
              rw [← sm_mul]
              exact sm_congr (fun i _ => by grind)
            rw [e2, ← hc u hu]
            grind
          rw [hq, Int.mul_zero, sm_swap] at e1
          rw [e1]
          refine sm_congr (fun i _ => ?_)
          rw [← hLk i, ← sm_mul]
          exact sm_congr (fun u _ => by grind)
        refine ⟨L k * t, fun i => if i = k then c d' else c i, fun e => by rcases Int.mul_eq_zero.mp e with h | h; exact hne h; exact ht h, fun u hu => ?_⟩
        have e1 : L k * t * z u = L k * sm (d' + 1) (fun i => c i * b i u) - b k u * sm (d' + 1) (fun i => c i * L i) := by
          rw [hcl, Int.mul_zero, Int.sub_zero, ← hc u hu]
          grind
        have e2 : L k * sm (d' + 1) (fun i => c i * b i u) - b k u * sm (d' + 1) (fun i => c i * L i) = sm (d' + 1) (fun i => c i * (L k * b i u - L i * b k u)) := by
          rw [← sm_mul, ← sm_mul, ← sm_sub]
          exact sm_congr (fun i _ => by grind)
        have e3 : c k * (L k * b k u - L k * b k u) = 0 := by rw [Int.sub_self, Int.mul_zero]
        rw [e1, e2, sm_out hk, e3, Int.add_zero]
        refine sm_congr (fun i _ => ?_)
        show _ = (if i = k then c d' else c i) * (if i = k then L k * b d' u - L d' * b k u else L k * b i u - L i * b k u)
        by_cases e : i = k
        · rw [if_pos e, if_pos e, if_pos e]
        · rw [if_neg e, if_neg e, if_neg e]
    · refine ⟨d, M, ch, b, h1, ?_, fun r hr => by have := h3 r hr; omega, fun i r hi hr => ?_, h5⟩
      · by_cases hp : P q
        · rw [ct_t hp]; omega
        · rw [ct_f hp]; exact h2
      · by_cases e : r = q
        · subst e
          exact Classical.byContradiction fun hn => hex ⟨i, hi, hn⟩
        · exact h4 i r hi (by omega)
/-- a system with a solution has a small one -/
theorem smallE {m q C : Nat} (hC : 0 < C) {E : Nat → Nat → Int} {P : Nat → Prop} (hP : ∀ r, ¬ P r → ∀ i, i < m → E r i = 0) (hE : ∀ r i, r < q → i < m → (E r i).natAbs ≤ C) {x : Nat → Int} (hx : ∀ r, r < q → sm m (fun u => x u * E r u) = 0) (hn : ∃ i, i < m ∧ x i ≠ 0) :
    ∃ (M : Nat) (y : Nat → Int), M < m ∧ M ≤ ct q P ∧ (∃ i, i < m ∧ y i ≠ 0) ∧ (∀ i, M < i → y i = 0) ∧ (∀ i, (y i).natAbs ≤ ((M + 1) * C) ^ M) ∧ ∀ r, r < q → sm m (fun u => y u * E r u) = 0 := by
  obtain ⟨d, M, ch, b, h1, h2, h3, h4, h5⟩ := cutE m E P hP q
  have hM : M < m := by
    obtain ⟨t, c, ht, hc⟩ := h5 x (fun r hr => hx _ (h3 r hr))
    rcases Nat.eq_zero_or_pos d with h | h
    · subst h
      obtain ⟨i, hi, hne⟩ := hn
      have := hc i hi
      have h0 : sm 0 (fun i_1 => c i_1 * b i_1 i) = 0 := rfl
      rw [h0] at this
      rcases Int.mul_eq_zero.mp this with h | h
      · exact absurd h ht
      · exact absurd h hne
    · omega
  obtain ⟨y, ⟨i, hi, hne⟩, hb, hs⟩ := siegel M C hC (fun r i => E (ch r) i) (fun r i hr hi => hE _ _ (h3 r hr) (by omega))
  let y' : Nat → Int := fun i => if i < M + 1 then y i else 0
  have hy' : ∀ r, sm m (fun u => y' u * E r u) = sm (M + 1) (fun u => y u * E r u) := by
    intro r
    have : ∀ k, M + 1 + k ≤ m → sm (M + 1 + k) (fun u => y' u * E r u) = sm (M + 1) (fun u => y u * E r u) := by
      intro k
      induction k with
      | zero =>
        intro _
        refine sm_congr (fun u hu => ?_)
        show (if u < M + 1 then y u else 0) * E r u = _
        rw [if_pos hu]
      | succ k ih =>
        intro hk
        show sm (M + 1 + k) (fun u => y' u * E r u) + (if M + 1 + k < M + 1 then y (M + 1 + k) else 0) * E r (M + 1 + k) = _
        rw [ih (by omega), if_neg (by omega), Int.zero_mul, Int.add_zero]
    have h := this (m - (M + 1)) (by omega)
    rw [show M + 1 + (m - (M + 1)) = m by omega] at h
    exact h
  refine ⟨M, y', hM, h2, ⟨i, by omega, ?_⟩, fun i hi => ?_, fun i => ?_, fun r hr => ?_⟩
  · show (if i < M + 1 then y i else 0) ≠ 0
    rw [if_pos hi]; exact hne
  · show (if i < M + 1 then y i else 0) = 0
    rw [if_neg (by omega)]
  · show (if i < M + 1 then y i else 0).natAbs ≤ _
    by_cases e : i < M + 1
    · rw [if_pos e]; exact hb i
    · rw [if_neg e]; exact Nat.zero_le _
  · obtain ⟨t, c, ht, hc⟩ := h5 y' (fun r hr => by rw [hy']; exact hs r hr)
    have e1 : t * sm m (fun u => y' u * E r u) = sm m (fun u => sm d (fun i => c i * b i u * E r u)) := by
      rw [← sm_mul]
      refine sm_congr (fun u hu => ?_)
      have e2 : sm d (fun i => c i * b i u * E r u) = E r u * sm d (fun i => c i * b i u) := by
        rw [← sm_mul]
        exact sm_congr (fun i _ => by grind)
      rw [e2, ← hc u hu]
      grind
    have e3 : sm d (fun j => sm m (fun i => c j * b j i * E r i)) = 0 := sm_zero (fun i hi => by
      have : sm m (fun u => c i * b i u * E r u) = c i * sm m (fun u => b i u * E r u) := by
        rw [← sm_mul]
        exact sm_congr (fun u _ => by grind)
      rw [this, h4 i r hi hr, Int.mul_zero])
    rw [sm_swap, e3] at e1
    rcases Int.mul_eq_zero.mp e1 with h | h
    · exact absurd h ht
    · exact h
end
section
-- ===== spaces with small vectors: where they come from =====
def NB : Nat := 2 ^ 150 - 1
def nz (n : Nat) (x : Nat → Int) : Prop := ∃ j, j < n ∧ x j ≠ 0
def sml (n : Nat) (V : (Nat → Int) → Prop) : Prop := ∀ x, V x → nz n x → ∃ y, V y ∧ nz n y ∧ (∀ j, j < n → x j = 0 → y j = 0) ∧ ∀ j, j < n → (y j).natAbs ≤ NB
def og (n k : Nat) (A : Nat → Nat → Int) (y : Nat → Int) : Prop := ∀ i, i < k → sm n (fun j => y j * A i j) = 0
theorem sp0_of {n k : Nat} {A : Nat → Nat → Int} {x : Nat → Int} (h : sp 0 n k A x) : ∃ (s : Int) (c : Nat → Int), s ≠ 0 ∧ ∀ j, j < n → s * x j = sm k (fun i => c i * A i j) := by
  obtain ⟨s, c, hs, hc⟩ := h
  exact ⟨s, c, fun e => hs (by rw [e]; exact Int.dvd_refl 0), fun j hj => by have := Int.zero_dvd.mp (hc j hj); omega⟩
theorem sp0_mk {n k : Nat} {A : Nat → Nat → Int} {x : Nat → Int} {s : Int} {c : Nat → Int} (hs : s ≠ 0) (hc : ∀ j, j < n → s * x j = sm k (fun i => c i * A i j)) : sp 0 n k A x :=
  ⟨s, c, fun h => hs (Int.zero_dvd.mp h), fun j hj => by rw [hc j hj, Int.sub_self]; exact Int.dvd_refl 0⟩
theorem sm_cut {n m : Nat} {f : Nat → Int} (h : m ≤ n) (h0 : ∀ i, m ≤ i → i < n → f i = 0) : sm n f = sm m f := by
  induction n with
  | zero => rw [show m = 0 by omega]
  | succ n ih =>
    by_cases e : m = n + 1
    · rw [e]
    · show sm n f + f n = _
      rw [ih (by omega) (fun i h1 h2 => h0 i h1 (by omega)), h0 n (by omega) (by omega), Int.add_zero]
theorem bd12 {M : Nat} (h : M ≤ 11) : ((M + 1) * 999) ^ M ≤ NB := by
  have h1 : ((M + 1) * 999) ^ M ≤ (12 * 999) ^ M := Nat.pow_le_pow_left (Nat.mul_le_mul_right _ (by omega)) M
  have h2 : (12 * 999) ^ M ≤ (12 * 999) ^ 11 := Nat.pow_le_pow_right (by omega) h
  have h3 : (12 * 999) ^ 11 ≤ NB := by decide +kernel
  exact Nat.le_trans h1 (Nat.le_trans h2 h3)
theorem bd11 {M : Nat} (h : M ≤ 10) : (M + 1) * (((M + 1) * 999) ^ M * 999) ≤ NB := by
  have e : (M + 1) * (((M + 1) * 999) ^ M * 999) = ((M + 1) * 999) ^ (M + 1) := by
    rw [Nat.pow_succ, Nat.mul_comm (((M + 1) * 999) ^ M) 999, ← Nat.mul_assoc, Nat.mul_comm]
  rw [e]
  have h1 : ((M + 1) * 999) ^ (M + 1) ≤ (11 * 999) ^ (M + 1) := Nat.pow_le_pow_left (Nat.mul_le_mul_right _ (by omega)) (M + 1)
  have h2 : (11 * 999) ^ (M + 1) ≤ (11 * 999) ^ 11 := Nat.pow_le_pow_right (by omega) (by omega)
  have h3 : (11 * 999) ^ 11 ≤ NB := by decide +kernel
  exact Nat.le_trans h1 (Nat.le_trans h2 h3)
/-- what stands across small rows -/
theorem sml_og {n k : Nat} (hn : n ≤ 12) {A : Nat → Nat → Int} (hA : ∀ i j, i < k → j < n → (A i j).natAbs ≤ 999) : sml n (og n k A) := by
  intro x hx hnz
  let E : Nat → Nat → Int := fun r u => if r < k then A r u else if x (r - k) = 0 ∧ u = r - k then 1 else 0
  have hxE : ∀ r, r < k + n → sm n (fun u => x u * E r u) = 0 := by
    intro r hr
    by_cases e : r < k
    · rw [← hx r e]
      refine sm_congr (fun u _ => ?_)
      show x u * (if r < k then A r u else _) = _
      rw [if_pos e]
    · refine sm_zero (fun u hu => ?_)
      show x u * (if r < k then A r u else if x (r - k) = 0 ∧ u = r - k then 1 else 0) = 0
      rw [if_neg e]
      by_cases e2 : x (r - k) = 0 ∧ u = r - k
      · rw [if_pos e2, e2.2, e2.1]; rfl
      · rw [if_neg e2, Int.mul_zero]
  obtain ⟨M, y, hM, -, hny, -, hb, hs⟩ := smallE (m := n) (q := k + n) (C := 999) (E := E) (P := fun _ => True) (by omega) (fun r h => absurd trivial h) (fun r u hr hu => by
    show (if r < k then A r u else if x (r - k) = 0 ∧ u = r - k then (1 : Int) else 0).natAbs ≤ 999
    by_cases e : r < k
    · rw [if_pos e]; exact hA r u e hu
    · rw [if_neg e]
      by_cases e2 : x (r - k) = 0 ∧ u = r - k
      · rw [if_pos e2]; decide
      · rw [if_neg e2]; decide) hxE hnz
  refine ⟨y, fun i hi => ?_, hny, fun j hj h0 => ?_, fun j _ => Nat.le_trans (hb j) (bd12 (by omega))⟩
  · rw [← hs i (by omega)]
    refine sm_congr (fun u _ => ?_)
    show _ = y u * (if i < k then A i u else _)
    rw [if_pos hi]
  · have h1 := hs (k + j) (by omega)
    have h2 : sm n (fun u => y u * E (k + j) u) = y j * E (k + j) j := sm_one hj (fun u _ hne => by
      show y u * (if k + j < k then A (k + j) u else if x (k + j - k) = 0 ∧ u = k + j - k then 1 else 0) = 0
      rw [if_neg (by omega), if_neg (by omega), Int.mul_zero])
    rw [h2] at h1
    have h3 : E (k + j) j = 1 := by
      show (if k + j < k then A (k + j) j else if x (k + j - k) = 0 ∧ j = k + j - k then (1 : Int) else 0) = 1
      rw [if_neg (by omega), show k + j - k = j by omega, if_pos ⟨h0, rfl⟩]
    rw [h3, Int.mul_one] at h1
    exact h1
/-- the space of small rows -/
theorem sml_sp {n : Nat} (hn : n ≤ 12) : ∀ (k : Nat) (A : Nat → Nat → Int), (∀ i j, i < k → j < n → (A i j).natAbs ≤ 999) → sml n (sp 0 n k A)
  | 0, A, _ => fun x hx hnz => by
    obtain ⟨s, c, hs, hc⟩ := sp0_of hx
    obtain ⟨j, hj, hne⟩ := hnz
    have h1 := hc j hj
    have h2 : sm 0 (fun i => c i * A i j) = 0 := rfl
    rw [h2] at h1
    rcases Int.mul_eq_zero.mp h1 with h | h
    · exact absurd h hs
    · exact absurd h hne
  | k + 1, A, hA => by
    by_cases hdep : ∃ c : Nat → Int, nz (k + 1) c ∧ ∀ j, j < n → sm (k + 1) (fun i => c i * A i j) = 0
    · obtain ⟨c, ⟨i0, hi0, hne⟩, hc⟩ := hdep
      let A' : Nat → Nat → Int := fun i => if i = i0 then A k else A i
      have hA' : ∀ i, i < k → ∃ i', i' < k + 1 ∧ A' i = A i' := by
        intro i hi
        by_cases e : i = i0
        · exact ⟨k, by omega, by show (if i = i0 then A k else A i) = _; rw [if_pos e]⟩
        · exact ⟨i, by omega, by show (if i = i0 then A k else A i) = _; rw [if_neg e]⟩
      have hsub : ∀ i, i < k + 1 → sp 0 n k A' (A i) := by
        intro i hi
        by_cases e : i = i0
        · subst e
          refine sp0_mk (s := c i) (c := fun q => - (if q = i then c k else c q)) hne (fun j hj => ?_)
          have h1 := hc j hj
          rw [sm_out hi] at h1
          have h2 : sm k (fun q => -(if q = i then c k else c q) * A' q j) = - sm k (fun q => if q = i then c k * A k j else c q * A q j) := by
            have h3 : - sm k (fun q => if q = i then c k * A k j else c q * A q j) = (-1) * sm k (fun q => if q = i then c k * A k j else c q * A q j) := by omega
            rw [h3, ← sm_mul]
            refine sm_congr (fun q _ => ?_)
            show -(if q = i then c k else c q) * (if q = i then A k else A q) j = (-1) * (if q = i then c k * A k j else c q * A q j)
            by_cases e : q = i
            · rw [if_pos e, if_pos e, if_pos e]; grind
            · rw [if_neg e, if_neg e, if_neg e]; grind
          rw [h2]
          omega
        · by_cases e2 : i = k
          · have h1 : A' i0 = A i := by show (if i0 = i0 then A k else A i0) = _; rw [if_pos rfl, e2]
            rw [← h1]
            exact sp_row dm0 (by omega)
          · have h1 : A' i = A i := by show (if i = i0 then A k else A i) = _; rw [if_neg e]
            rw [← h1]
            exact sp_row dm0 (by omega)
      have ih := sml_sp hn k A' (fun i j hi hj => by
        obtain ⟨i', h1, h2⟩ := hA' i hi
        rw [h2]
        exact hA i' j h1 hj)
      intro x hx hnz
      obtain ⟨y, h1, h2⟩ := ih x (sp_trans dm0 hx hsub) hnz
      exact ⟨y, sp_trans dm0 h1 (fun i hi => by
        obtain ⟨i', g1, g2⟩ := hA' i hi
        rw [g2]
        exact sp_row dm0 g1), h2⟩
    · intro x hx hnz
      have hx' := hx
      obtain ⟨s, c, hs, hc⟩ := sp0_of hx
      obtain ⟨j0, hj0, hne0⟩ := hnz
      by_cases htwo : ∃ i j, i < j ∧ j < n ∧ x i ≠ 0 ∧ x j ≠ 0
      · obtain ⟨i, j, hij, hj, hi1, hj1⟩ := htwo
        have hcn : nz (k + 1) c := Classical.byContradiction fun hn => by
          have h0 : ∀ i, i < k + 1 → c i = 0 := fun i hi => Classical.byContradiction fun h => hn ⟨i, hi, h⟩
          have h1 := hc j0 hj0
          rw [sm_zero (fun i hi => by rw [h0 i hi, Int.zero_mul])] at h1
          rcases Int.mul_eq_zero.mp h1 with h | h
          · exact hs h
          · exact hne0 h
        let E : Nat → Nat → Int := fun r u => if x r = 0 then A u r else 0
        obtain ⟨M, y, hM, hMc, hny, hy0, hb, hsol⟩ := smallE (m := k + 1) (q := n) (C := 999) (E := E) (P := fun r => x r = 0) (by omega) (fun r h i _ => by show (if x r = 0 then A i r else 0) = 0; rw [if_neg h]) (fun r u hr hu => by
          show (if x r = 0 then A u r else 0).natAbs ≤ 999
          by_cases e : x r = 0
          · rw [if_pos e]; exact hA u r hu hr
          · rw [if_neg e]; decide) (x := c) (fun r hr => by
          by_cases e : x r = 0
          · have h1 := hc r hr
            rw [e, Int.mul_zero] at h1
            rw [h1]
            refine sm_congr (fun u _ => ?_)
            show c u * (if x r = 0 then A u r else 0) = _
            rw [if_pos e]
          · refine sm_zero (fun u _ => ?_)
            show c u * (if x r = 0 then A u r else 0) = _
            rw [if_neg e, Int.mul_zero]) hcn
        have hM10 : M ≤ 10 := by
          have := ct_2 (n := n) (P := fun r => x r = 0) hij hj hi1 hj1
          omega
        refine ⟨fun j => sm (k + 1) (fun i => y i * A i j), sp0_mk (s := 1) (c := y) (by omega) (fun j _ => by rw [Int.one_mul]), ?_, fun j hj h0 => ?_, fun j hj => ?_⟩
        · exact Classical.byContradiction fun hn => hdep ⟨y, hny, fun j hj => Classical.byContradiction fun h => hn ⟨j, hj, h⟩⟩
        · have h1 := hsol j hj
          have h2 : sm (k + 1) (fun u => y u * E j u) = sm (k + 1) (fun i => y i * A i j) := sm_congr (fun u _ => by
            show y u * (if x j = 0 then A u j else 0) = _
            rw [if_pos h0])
          rw [h2] at h1
          exact h1
        · show (sm (k + 1) (fun i => y i * A i j)).natAbs ≤ NB
          rw [sm_cut (m := M + 1) (by omega) (fun i h1 _ => by rw [hy0 i (by omega), Int.zero_mul])]
          refine Nat.le_trans (sm_abs (B := ((M + 1) * 999) ^ M * 999) (fun i hi => ?_)) (bd11 hM10)
          rw [Int.natAbs_mul]
          exact Nat.mul_le_mul (hb i) (hA i j (by omega) hj)
      · have hone : ∀ j, j < n → j ≠ j0 → x j = 0 := fun j hj hne => Classical.byContradiction fun h => htwo (by
          rcases Nat.lt_or_gt_of_ne hne with h1 | h1
          · exact ⟨j, j0, h1, hj0, h, hne0⟩
          · exact ⟨j0, j, h1, hj, hne0, h⟩)
        refine ⟨fun j => if j = j0 then 1 else 0, sp_scale (t := x j0) (a := 1) dm0 hx' (fun h => hne0 (Int.zero_dvd.mp h)) (fun j hj => ?_), ⟨j0, hj0, by show (if j0 = j0 then (1 : Int) else 0) ≠ 0; rw [if_pos rfl]; omega⟩, fun j hj h0 => ?_, fun j hj => ?_⟩
        · show 0 ∣ x j0 * (if j = j0 then 1 else 0) - 1 * x j
          by_cases e : j = j0
          · rw [if_pos e, e]; exact ⟨0, by omega⟩
          · rw [if_neg e, hone j hj e]; exact ⟨0, by omega⟩
        · show (if j = j0 then (1 : Int) else 0) = 0
          rw [if_neg (fun e => hne0 (by rw [← e]; exact h0))]
        · show (if j = j0 then (1 : Int) else 0).natAbs ≤ NB
          by_cases e : j = j0
          · rw [if_pos e]; decide +kernel
          · rw [if_neg e]; exact Nat.zero_le _
end
section
-- ===== spaces with small vectors: what is left of one without some columns, sums =====
theorem sml_iff {n : Nat} {V W : (Nat → Int) → Prop} (h : ∀ x, V x ↔ W x) (hV : sml n V) : sml n W := by
  intro x hx hn
  obtain ⟨y, h1, h2⟩ := hV x ((h x).mpr hx) hn
  exact ⟨y, (h y).mp h1, h2⟩
/-- those that are 0 in some columns -/
theorem sml_sec {n : Nat} {V W : (Nat → Int) → Prop} {Z : Nat → Prop} (h : ∀ x, W x ↔ V x ∧ ∀ j, j < n → Z j → x j = 0) (hV : sml n V) : sml n W := by
  intro x hx hn
  obtain ⟨h1, h2⟩ := (h x).mp hx
  obtain ⟨y, g1, g2, g3, g4⟩ := hV x h1 hn
  exact ⟨y, (h y).mpr ⟨g1, fun j hj hz => g3 j hj (h2 j hj hz)⟩, g2, g3, g4⟩
/-- closed under what rows do -/
def lin (n : Nat) (V : (Nat → Int) → Prop) : Prop := ∀ (x y z : Nat → Int) (t a b : Int), V x → V y → t ≠ 0 → (∀ j, j < n → t * z j = a * x j + b * y j) → V z
theorem lin_sp (n k : Nat) (A : Nat → Nat → Int) : lin n (sp 0 n k A) := fun x y z t a b hx hy ht h =>
  sp_comb (a := a) (b := b) dm0 hx hy (fun q => ht (Int.zero_dvd.mp q)) (fun j hj => by rw [h j hj, Int.sub_self]; exact Int.dvd_refl 0)
theorem lin_og (n k : Nat) (A : Nat → Nat → Int) : lin n (og n k A) := fun x y z t a b hx hy ht h => by
  intro i hi
  have h1 : t * sm n (fun j => z j * A i j) = a * sm n (fun j => x j * A i j) + b * sm n (fun j => y j * A i j) := by
    rw [← sm_mul, ← sm_mul, ← sm_mul, ← sm_add]
    refine sm_congr (fun j hj => ?_)
    have := h j hj
    rw [← Int.mul_assoc, this]
    grind
  rw [hx i hi, hy i hi] at h1
  rcases Int.mul_eq_zero.mp (h1.trans (by omega)) with q | q
  · exact absurd q ht
  · exact q
/-- what the vectors have in some columns: column j of the new ones is column g j of the old -/
def del (n n' : Nat) (g : Nat → Nat) (V : (Nat → Int) → Prop) (z : Nat → Int) : Prop := ∃ (x : Nat → Int) (t : Int), V x ∧ t ≠ 0 ∧ ∀ j, j < n' → t * z j = x (g j)
theorem ct_lt {n : Nat} {P Q : Nat → Prop} (h : ∀ j, j < n → P j → Q j) {i : Nat} (hi : i < n) (hQ : Q i) (hP : ¬ P i) : ct n P < ct n Q := by
  have le : ∀ m, m ≤ n → ct m P ≤ ct m Q := by
    intro m
    induction m with
    | zero => intro _; exact Nat.le_refl 0
    | succ m ih =>
      intro hm
      have := ih (by omega)
      by_cases hp : P m
      · rw [ct_t hp, ct_t (h m (by omega) hp)]; omega
      · rw [ct_f hp]
        by_cases hq : Q m
        · rw [ct_t hq]; omega
        · rw [ct_f hq]; omega
  have : ∀ m, i < m → m ≤ n → ct m P < ct m Q := by
    intro m
    induction m with
    | zero => omega
    | succ m ih =>
      intro h1 h2
      by_cases e : i = m
      · subst e
        rw [ct_f hP, ct_t hQ]
        have := le i (by omega)
        omega
      · have := ih (by omega) (by omega)
        by_cases hp : P m
        · rw [ct_t hp, ct_t (h m (by omega) hp)]; omega
        · rw [ct_f hp]
          by_cases hq : Q m
          · rw [ct_t hq]; omega
          · rw [ct_f hq]; omega
  exact this n hi (Nat.le_refl n)
theorem sml_del {n n' : Nat} {g : Nat → Nat} (hg : ∀ j, j < n' → g j < n) {V : (Nat → Int) → Prop} (hl : lin n V) (hV : sml n V) : sml n' (del n n' g V) := by
  have key : ∀ (d : Nat) (x : Nat → Int), ct n (fun j => x j ≠ 0) = d → V x → (∃ j, j < n' ∧ x (g j) ≠ 0) → ∃ y, V y ∧ (∃ j, j < n' ∧ y (g j) ≠ 0) ∧ (∀ j, j < n' → x (g j) = 0 → y (g j) = 0) ∧ ∀ j, j < n → (y j).natAbs ≤ NB := by
    intro d
    induction d using Nat.strongRecOn with
    | _ d ih =>
      intro x hd hx hn
      obtain ⟨j0, hj0, hne0⟩ := hn
      obtain ⟨y, h1, ⟨i, hi, hne⟩, h3, h4⟩ := hV x hx ⟨g j0, hg j0 hj0, hne0⟩
      by_cases hin : ∃ j, j < n' ∧ y (g j) ≠ 0
      · exact ⟨y, h1, hin, fun j hj h0 => h3 (g j) (hg j hj) h0, h4⟩
      · have hy0 : ∀ j, j < n' → y (g j) = 0 := fun j hj => Classical.byContradiction fun h => hin ⟨j, hj, h⟩
        have hx2 : V (fun j => y i * x j - x i * y j) := hl x y _ 1 (y i) (- x i) hx h1 (by omega) (fun j _ => by grind)
        have hxi : x i ≠ 0 := fun h => hne (h3 i hi h)
        have hlt : ct n (fun j => y i * x j - x i * y j ≠ 0) < d := by
          rw [← hd]
          refine ct_lt (fun j hj hp hx0 => hp ?_) hi hxi (fun hp => hp ?_)
          · rw [hx0, h3 j hj hx0]; simp
          · rw [Int.mul_comm, Int.sub_self]
        obtain ⟨y2, g1, g2, g3, g4⟩ := ih _ hlt _ rfl hx2 ⟨j0, hj0, fun h => by
          have h5 : y i * x (g j0) - x i * y (g j0) = 0 := h
          rw [hy0 j0 hj0, Int.mul_zero, Int.sub_zero] at h5
          rcases Int.mul_eq_zero.mp h5 with q | q
          · exact hne q
          · exact hne0 q⟩
        exact ⟨y2, g1, g2, fun j hj h0 => g3 j hj (by show y i * x (g j) - x i * y (g j) = 0; rw [h0, hy0 j hj]; simp), g4⟩
  intro z hz hn
  obtain ⟨x, t, hx, ht, hzx⟩ := hz
  obtain ⟨j0, hj0, hne0⟩ := hn
  obtain ⟨y, h1, ⟨j1, hj1, hne1⟩, h3, h4⟩ := key _ x rfl hx ⟨j0, hj0, fun h => by
    have h5 := hzx j0 hj0
    rw [h] at h5
    rcases Int.mul_eq_zero.mp h5 with q | q
    · exact ht q
    · exact hne0 q⟩
  exact ⟨fun j => y (g j), ⟨y, 1, h1, by omega, fun j _ => by rw [Int.one_mul]⟩, ⟨j1, hj1, hne1⟩, fun j hj h0 => h3 j hj (by rw [← hzx j hj, h0, Int.mul_zero]), fun j hj => h4 (g j) (hg j hj)⟩
/-- a whole row that has no divisor in common, and under whose zeros nothing else lies, is small -/
theorem sml_pm {n : Nat} {V : (Nat → Int) → Prop} (hV : sml n V) {x : Nat → Int} (hx : V x) (hp : pm n x) {c : Nat} (hc : c < n) (hxc : x c ≠ 0) (hu : ∀ y, V y → (∀ j, j < n → x j = 0 → y j = 0) → ∀ j, j < n → x c * y j = y c * x j) : ∀ j, j < n → (x j).natAbs ≤ NB := by
  obtain ⟨y, h1, ⟨i, hi, hne⟩, h3, h4⟩ := hV x hx ⟨c, hc, hxc⟩
  have hy := hu y h1 h3
  have hyc : y c ≠ 0 := fun h => by
    have := hy i hi
    rw [h, Int.zero_mul] at this
    rcases Int.mul_eq_zero.mp this with q | q
    · exact hxc q
    · exact hne q
  -- x c divides y c
  have hd : x c ∣ y c := by
    have hg : Int.gcd (x c) (y c) ≠ 0 := fun e => hxc (Int.gcd_eq_zero_iff.mp e).1
    obtain ⟨a, ha⟩ : (Int.gcd (x c) (y c) : Int) ∣ x c := Int.gcd_dvd_left ..
    obtain ⟨b, hb⟩ : (Int.gcd (x c) (y c) : Int) ∣ y c := Int.gcd_dvd_right ..
    have hco : Int.gcd a b = 1 := by
      have h5 : Int.gcd (x c) (y c) = Int.gcd ((Int.gcd (x c) (y c) : Int) * a) ((Int.gcd (x c) (y c) : Int) * b) := by rw [← ha, ← hb]
      rw [Int.gcd_mul_left, Int.natAbs_natCast] at h5
      have h6 : Int.gcd (x c) (y c) * 1 = Int.gcd (x c) (y c) * Int.gcd a b := by rw [Nat.mul_one]; exact h5
      exact (Nat.eq_of_mul_eq_mul_left (by omega) h6).symm
    generalize (Int.gcd (x c) (y c) : Int) = g at ha hb
    have hg0 : g ≠ 0 := fun e => hxc (by rw [ha, e, Int.zero_mul])
    have hax : ∀ j, j < n → a ∣ x j := by
      intro j hj
      have h5 := hy j hj
      rw [ha, hb, Int.mul_assoc, Int.mul_assoc] at h5
      have h6 := Int.eq_of_mul_eq_mul_left hg0 h5
      have h7 : a ∣ b * x j := ⟨y j, h6.symm⟩
      exact idvd hco h7
    have ha1 := hp a hax
    obtain ⟨u, hu1⟩ := ha1
    refine ⟨u * b, ?_⟩
    rw [ha, hb]
    have : g * a * (u * b) = g * b * (a * u) := by grind
    rw [this, ← hu1, Int.mul_one]
  obtain ⟨w, hw⟩ := hd
  have hw0 : w ≠ 0 := fun e => hyc (by rw [hw, e, Int.mul_zero])
  intro j hj
  have h5 := hy j hj
  rw [hw, Int.mul_assoc] at h5
  have h6 := Int.eq_of_mul_eq_mul_left hxc h5
  have h7 := h4 j hj
  rw [h6, Int.natAbs_mul] at h7
  have h8 : 1 * (x j).natAbs ≤ w.natAbs * (x j).natAbs := Nat.mul_le_mul_right _ (by omega)
  omega
end
section
-- ===== numbers as digits: carries, products, differences, the guess of a division =====
theorem cd_congr {b : Nat} : ∀ (m : Nat) {d e : Nat → Nat}, (∀ i, i < m → d i = e i) → cd b m d = cd b m e
  | 0, _, _, _ => rfl
  | m + 1, d, e, h => by
    show cd b m d + d m * b ^ m = cd b m e + e m * b ^ m
    rw [cd_congr m (fun i hi => h i (by omega)), h m (by omega)]
theorem cd_split {b : Nat} (i : Nat) : ∀ (n : Nat) (d : Nat → Nat), cd b (i + n) d = cd b i d + b ^ i * cd b n (fun t => d (i + t))
  | 0, d => by show cd b i d = _; rw [show cd b 0 (fun t => d (i + t)) = 0 from rfl]; omega
  | n + 1, d => by
    show cd b (i + n) d + d (i + n) * b ^ (i + n) = _ + b ^ i * (cd b n (fun t => d (i + t)) + d (i + n) * b ^ n)
    rw [cd_split i n d, Nat.mul_add, Nat.pow_add]
    have : d (i + n) * (b ^ i * b ^ n) = b ^ i * (d (i + n) * b ^ n) := by rw [Nat.mul_left_comm]
    omega
theorem cd_0 {b : Nat} : ∀ (n : Nat) {d : Nat → Nat}, (∀ i, i < n → d i = 0) → cd b n d = 0
  | 0, _, _ => rfl
  | n + 1, d, h => by
    show cd b n d + d n * b ^ n = 0
    rw [cd_0 n (fun i hi => h i (by omega)), h n (by omega)]; simp
/-- the digits that are 0 at the top don't count -/
theorem cd_top {b m n : Nat} {d : Nat → Nat} (hmn : m ≤ n) (h : ∀ i, m ≤ i → i < n → d i = 0) : cd b n d = cd b m d := by
  obtain ⟨k, rfl⟩ : ∃ k, n = m + k := ⟨n - m, by omega⟩
  rw [cd_split, cd_0 k (fun i hi => h (m + i) (by omega) (by omega))]; simp
theorem cd_ge {b n : Nat} {d : Nat → Nat} (h : d n ≠ 0) : b ^ n ≤ cd b (n + 1) d := by
  show b ^ n ≤ cd b n d + d n * b ^ n
  have : 1 * b ^ n ≤ d n * b ^ n := Nat.mul_le_mul_right _ (by omega)
  omega
/-- one step of a carry -/
theorem carry1 {B : Nat} (hB : 0 < B) {i : Nat} {R c w : Int} {S : Int} (h : R + c * (B : Int) ^ i = S) : (R + ((c + w) % (B : Int)) * (B : Int) ^ i) + ((c + w) / (B : Int)) * (B : Int) ^ (i + 1) = S + w * (B : Int) ^ i := by
  have h1 := Int.emod_add_mul_ediv (c + w) B
  rw [Int.pow_succ]
  generalize (c + w) % (B : Int) = r at h1 ⊢
  generalize (c + w) / (B : Int) = q at h1 ⊢
  generalize (B : Int) ^ i = P at h ⊢
  have h2 : c + w = r + (B : Int) * q := by omega
  have h3 : c = r + (B : Int) * q - w := by omega
  rw [← h, h3]
  grind
/-- which of two numbers of n digits is the larger is said by the first digit from the top in which they differ -/
theorem cd_cmp {b n k : Nat} {d e : Nat → Nat} (hd : ∀ i, i < n → d i < b) (hk : k < n) (heq : ∀ i, k < i → i < n → d i = e i) (hlt : d k < e k) : cd b n d < cd b n e := by
  obtain ⟨m, rfl⟩ : ∃ m, n = (k + 1) + m := ⟨n - (k + 1), by omega⟩
  rw [cd_split (k + 1) m d, cd_split (k + 1) m e, cd_congr m (d := fun t => d (k + 1 + t)) (e := fun t => e (k + 1 + t)) (fun i hi => heq _ (by omega) (by omega))]
  have h1 : cd b (k + 1) d < cd b (k + 1) e := by
    show cd b k d + d k * b ^ k < cd b k e + e k * b ^ k
    have a1 := cd_lt k (d := d) (fun i hi => hd i (by omega))
    have a2 : (d k + 1) * b ^ k ≤ e k * b ^ k := Nat.mul_le_mul_right _ hlt
    rw [Nat.add_mul, Nat.one_mul] at a2
    omega
  omega
theorem cd_short {b m n : Nat} {d e : Nat → Nat} (hd : ∀ i, i < m → d i < b) (hmn : m < n) (hb : 0 < b) (htop : e (n - 1) ≠ 0) : cd b m d < cd b n e := by
  have h1 := cd_lt m hd
  obtain ⟨k, rfl⟩ : ∃ k, n = k + 1 := ⟨n - 1, by omega⟩
  have h2 := cd_ge (b := b) (n := k) (d := e) htop
  have h3 : b ^ m ≤ b ^ k := Nat.pow_le_pow_right hb (by omega)
  omega
/-- the guess of a quotient's digit is never too small, and at most 2 too large -/
theorem guess {B P S D X t xt g : Nat} (hB : 2 ≤ B) (hP : 0 < P) (hD : 0 < D) (hX : X < D * B) (ht : t = S * D / P) (ht2 : B ≤ 2 * t) (hlo : S * X / P ≤ xt) (hhi : if P = 1 then xt < S * (X + 1) else xt * P ≤ S * X) (hg : g = min (xt / t) (B - 1)) : X / D ≤ g ∧ g ≤ X / D + 2 := by
  have htpos : 0 < t := by omega
  generalize hq : X / D = q
  have hq1 : q * D ≤ X := by rw [← hq]; exact Nat.div_mul_le_self X D
  have hq2 : X < (q + 1) * D := by
    have := Nat.lt_mul_div_succ X hD
    rw [hq, Nat.mul_comm] at this
    exact this
  have hqB : q ≤ B - 1 := by
    have : q < B := by rw [← hq]; exact Nat.div_lt_of_lt_mul hX
    omega
  have htP : t * P ≤ S * D := by rw [ht]; exact Nat.div_mul_le_self _ _
  refine ⟨?_, ?_⟩
  · have h1 : q * t * P ≤ S * X := by
      have a1 : q * (t * P) ≤ q * (S * D) := Nat.mul_le_mul_left _ htP
      have a2 : S * (q * D) ≤ S * X := Nat.mul_le_mul_left _ hq1
      have a3 : q * (S * D) = S * (q * D) := Nat.mul_left_comm _ _ _
      have a4 : q * t * P = q * (t * P) := Nat.mul_assoc _ _ _
      omega
    have h2 : q * t ≤ S * X / P := (Nat.le_div_iff_mul_le hP).mpr h1
    have h3 : q ≤ xt / t := (Nat.le_div_iff_mul_le htpos).mpr (by omega)
    rw [hg]
    exact Nat.le_min.mpr ⟨h3, hqB⟩
  · apply Classical.byContradiction
    intro hcon
    have hg3 : q + 3 ≤ g := by omega
    have hg4 : q + 3 ≤ xt / t := by rw [hg] at hg3; exact Nat.le_trans hg3 (Nat.min_le_left _ _)
    have hg5 : q + 3 ≤ B - 1 := by rw [hg] at hg3; exact Nat.le_trans hg3 (Nat.min_le_right _ _)
    have h1 : (q + 3) * t ≤ xt := (Nat.le_div_iff_mul_le htpos).mp hg4
    by_cases e : P = 1
    · rw [if_pos e] at hhi
      rw [e, Nat.div_one] at ht
      rw [ht] at h1
      have h2 : S * ((q + 3) * D) < S * (X + 1) := by
        have : (q + 3) * (S * D) = S * ((q + 3) * D) := Nat.mul_left_comm _ _ _
        omega
      have h3 : (q + 3) * D < X + 1 := Nat.lt_of_mul_lt_mul_left h2
      have h4 : (q + 1) * D ≤ (q + 3) * D := Nat.mul_le_mul_right _ (by omega)
      omega
    · rw [if_neg e] at hhi
      have h2 : (q + 3) * t * P ≤ xt * P := Nat.mul_le_mul_right _ h1
      have h3 : S * X < S * ((q + 1) * D) := by
        have hS : 0 < S := by
          rcases Nat.eq_zero_or_pos S with h | h
          · rw [h, Nat.zero_mul, Nat.zero_div] at ht; omega
          · exact h
        exact Nat.mul_lt_mul_of_pos_left hq2 hS
      have h4 : S * D < (t + 1) * P := by
        have := Nat.lt_mul_div_succ (S * D) hP
        rw [← ht, Nat.mul_comm P] at this
        exact this
      have h5 : (q + 1) * (S * D) ≤ (q + 1) * ((t + 1) * P) := Nat.mul_le_mul_left _ (by omega)
      have h6 : S * ((q + 1) * D) = (q + 1) * (S * D) := Nat.mul_left_comm _ _ _
      have h7 : (q + 3) * t * P < (q + 1) * (t + 1) * P := by
        have : (q + 1) * ((t + 1) * P) = (q + 1) * (t + 1) * P := (Nat.mul_assoc _ _ _).symm
        omega
      have h8 : (q + 3) * t < (q + 1) * (t + 1) := Nat.lt_of_mul_lt_mul_right h7
      have h9 : (q + 3) * t = q * t + 3 * t := Nat.add_mul _ _ _
      have h10 : (q + 1) * (t + 1) = q * t + q + (t + 1) := by rw [Nat.add_mul, Nat.mul_add, Nat.mul_one, Nat.one_mul]
      omega
end
section
-- ===== one world for all methods: the cells at the addresses of L, each holding what f says =====
/-- arrays of arrays of ints: their class, and what it holds -/
def ao (U : State) : Prop := (Cond.arrayOver (.array .int)).before #[] U = true
theorem ao_idx (vm : Vm) (comp : ClassId) : (vm.bare.classes.findIdx? fun (x : Class) => match x.kind with | .array component _ => component == comp | _ => false) = (vm.classes.findIdx? fun (x : Class) => match x.kind with | .array component _ => component == comp | _ => false) := va_idx_bare vm comp
theorem ao.moved {u U : State} (hvm : u.vm.Alike U.vm) (h : ao u) : ao U := by
  obtain ⟨comp, c, kA, h1, h2, h3, h4, h5⟩ := arrayOverA_spec h
  obtain ⟨k', hk', he⟩ := hvm.2.2 _ _ h3
  have hi : (U.vm.classes.findIdx? fun (x : Class) => match x.kind with | .array component _ => component == comp | _ => false) = some c := by
    rw [← ao_idx]
    first | rw [hvm.bare_eq] | rw [← hvm.bare_eq]
    rw [ao_idx]
    exact h2
  have hkind : k'.kind = .array comp (.array .int) := by rw [he]; exact h4
  have f1 : U.vm.findClass (FieldType.array .int).toString = some comp := by rw [hvm.findClass]; exact h1
  have f2 : U.vm.findClass ("[" ++ (FieldType.array .int).toString) = some c := by rw [hvm.findClass]; exact h5
  unfold ao Cond.before Cond.holds
  simp only [Cond.value]
  rw [f1, Option.bind_some]
  refine (congrArg (fun o : Option Nat => (o.bind (fun c => (U.vm.classes[c]?).map fun (k : Class) => match k.kind with | .array _ ty => decide (ty = FieldType.array .int) && decide (U.vm.findClass ("[" ++ (FieldType.array .int).toString) = some c) | _ => false) == some true)) hi).trans ?_
  simp [hk', hkind, f2]
def xK (D : va_G) (cl : List vw_C) (tys : List (ClassId × FieldType)) (U : State) : Prop := va_K D cl tys U ∧ ao U
theorem xK.moved {D : va_G} {cl : List vw_C} {tys : List (ClassId × FieldType)} {u U : State} (hvm : u.vm.Alike U.vm) (h : xK D cl tys u) : xK D cl tys U := ⟨va_K.moved hvm h.1, ao.moved hvm h.2⟩
def gw (D : va_G) (cl : List vw_C) (tys : List (ClassId × FieldType)) (L : List Nat) (s : State) (H0 : Heap) (f : Nat → va_E) (H : Heap) (locs : List Loc) : Prop :=
  xK D cl tys s ∧ va_P D cl (va_pl L f) H ∧ va_D (fun q => q ∈ L) (va_pl L f) ∧ va_S (fun q => q ∈ L) H0 H locs
/-- what a method that makes nothing needs, and what it leaves -/
def mpre (D : va_G) (cl : List vw_C) (tys : List (ClassId × FieldType)) (L : List Nat) (f : Nat → va_E) (as : List Value) : Array Value → State → Prop := fun v U => v = as.toArray ∧ xK D cl tys U ∧ va_P D cl (va_pl L f) U.heap ∧ va_D (fun q => q ∈ L) (va_pl L f)
def mst (D : va_G) (cl : List vw_C) (tys : List (ClassId × FieldType)) (L : List Nat) (f : Nat → va_E) (t : State) : Prop := xK D cl tys t ∧ va_P D cl (va_pl L f) t.heap ∧ va_D (fun q => q ∈ L) (va_pl L f)
abbrev Mi (l : Launch) (y : MethodName) (ws : List Cond) (rm : Room) (D : va_G) (cl : List vw_C) (tys : List (ClassId × FieldType)) (L : List Nat) (f : Nat → va_E) (as : List Value) (post : Int32 → (Nat → va_E) → Prop) : Prop := Met l y ws rm (mpre D cl tys L f as) (va_Qi post (mst D cl tys L) (fun q => q ∈ L)) 0 0 (fun q => q ∈ L)
abbrev Ml (l : Launch) (y : MethodName) (ws : List Cond) (rm : Room) (D : va_G) (cl : List vw_C) (tys : List (ClassId × FieldType)) (L : List Nat) (f : Nat → va_E) (as : List Value) (post : Int64 → (Nat → va_E) → Prop) : Prop := Met l y ws rm (mpre D cl tys L f as) (va_Ql post (mst D cl tys L) (fun q => q ∈ L)) 0 0 (fun q => q ∈ L)
abbrev Mv (l : Launch) (y : MethodName) (ws : List Cond) (rm : Room) (D : va_G) (cl : List vw_C) (tys : List (ClassId × FieldType)) (L : List Nat) (f : Nat → va_E) (as : List Value) (post : (Nat → va_E) → Prop) : Prop := Met l y ws rm (mpre D cl tys L f as) (va_Qv post (mst D cl tys L) (fun q => q ∈ L)) 0 0 (fun q => q ∈ L)
abbrev Mr (l : Launch) (y : MethodName) (ws : List Cond) (rm : Room) (D : va_G) (cl : List vw_C) (tys : List (ClassId × FieldType)) (L : List Nat) (f : Nat → va_E) (as : List Value) (post : Nat → (Nat → va_E) → Prop) : Prop := Met l y ws rm (mpre D cl tys L f as) (va_Qr (fun _ : Nat → va_E => True) (fun f' a t => mst D cl tys L f' t ∧ post a f') (fun q => q ∈ L)) 0 0 (fun q => q ∈ L)
theorem mpre_blind {D : va_G} {cl : List vw_C} {tys : List (ClassId × FieldType)} {L : List Nat} {f : Nat → va_E} {as : List Value} : FrameBlind (mpre D cl tys L f as) := fun a U g mk q => ⟨q.1, xK.moved (u := U) (U := U.calling g mk a) (Vm.Alike.refl U.vm) q.2.1, q.2.2.1, q.2.2.2⟩
theorem pl_ix {L : List Nat} {f : Nat → va_E} {a : Nat} {e : va_E} (h : a ∈ L) (he : f a = e) : ∃ k : Nat, (va_pl L f)[k]? = some (a, e) := by
  subst he
  exact va_pl_get (X := []) h
theorem pl_up {A : Nat → Prop} {L : List Nat} {f : Nat → va_E} {a k : Nat} {e e0 : va_E} (hD : va_D A (va_pl L f)) (h : a ∈ L) (he : f a = e0) (hk : (va_pl L f)[k]? = some (a, e0)) : (va_pl L f).set k (a, e) = va_pl L (va_up f a e) := by
  subst he
  exact va_pl_set (X := []) hD h hk
section MEM
variable {p : Program} {l : Launch} {e : Env} {R : Room} {s : State} {m : MethodId} {args : Array Value} {below : List Frame} {meth : Method} {c : Code} {H : Heap} {locs : List Loc} {cells slots : Nat} {Q : State → Prop}
variable {cc : ByteArray} {pc : Nat} {ls : Array Slot} {rest st0 : List Value} {D : va_G} {cl : List vw_C} {a : Nat} {tys : List (ClassId × FieldType)} {H0 : Heap} {L : List Nat} {f : Nat → va_E}
theorem g_get (hexec : p.tables.exec = Jvm.exec) (hb : c.code = cc) {own ref C : String} {T : u_T} {N ci index : Nat} {Ts : List Cond} (hts : ∀ w ∈ Ts, w.before args s = true) (hin : ∀ w ∈ u_ws C T N, w ∈ Ts) (hown : s.vm.findClass own = some m.cls) (hw : gw D cl tys L s H0 f H locs) (ha : a ∈ L) {fs : List Value} (he : f a = .inr (ci, fs)) (hc : cl[ci]? = some (C, T, N)) (k : Nat) (hk : k < N) (hlink : (Cond.fieldLink own index ref (T k).2.1 (T k).2.2.1).before args s = true) (hsame : ∀ x, s.fieldFound? (T k).1 (T k).2.1 (T k).2.2.1 = some x → s.fieldFound? ref (T k).2.1 (T k).2.2.1 = some x) {v : Value} (hv : fs[k]? = some v) (hdg : decode cc pc = .ok (.getfield index, 3))
    (kk : W p l e R s m args below meth c H locs cells slots Q (F0 m (pc + 3) ls (v :: rest))) : W p l e R s m args below meth c H locs cells slots Q (F0 m pc ls (.ref a :: rest)) := by
  obtain ⟨q0, hq⟩ := pl_ix ha he
  exact va_get hexec hb hts hin hown hw.1.1 hw.2.1 q0 hq hc k hk hlink hsame hv hdg kk
theorem g_put (hexec : p.tables.exec = Jvm.exec) (hb : c.code = cc) {own ref C : String} {T : u_T} {N ci index : Nat} {Ts : List Cond} (hts : ∀ w ∈ Ts, w.before args s = true) (hin : ∀ w ∈ u_ws C T N, w ∈ Ts) (ty0 : Nat → FieldType) (hty : ∀ k, k < N → parseFieldDescriptor (T k).2.2.1 = some (ty0 k)) (hnm : ∀ a, a < N → ∀ b, b < N → a ≠ b → (T a).2.1 ≠ (T b).2.1) (hown : s.vm.findClass own = some m.cls) (hw : gw D cl tys L s H0 f H locs) (ha : a ∈ L) {fs : List Value} (he : f a = .inr (ci, fs)) (hc : cl[ci]? = some (C, T, N)) (k : Nat) (hk : k < N) (hlink : (Cond.fieldLink own index ref (T k).2.1 (T k).2.2.1).before args s = true) (hsame : ∀ x, s.fieldFound? (T k).1 (T k).2.1 (T k).2.2.1 = some x → s.fieldFound? ref (T k).2.1 (T k).2.2.1 = some x) (hfin : (T k).2.2.2 = false) {ty : FieldType} {v : Value} (hd : parseFieldDescriptor (T k).2.2.1 = some ty) (hn : narrow ty v = v) (hfit : fits ty v = true) (hl : k < fs.length)
    (hdg : decode cc pc = .ok (.putfield index, 3)) (kk : ∀ (H1 : Heap) (locs1 : List Loc), gw D cl tys L s H0 (va_up f a (.inr (ci, fs.set k v))) H1 locs1 → W p l e R s m args below meth c H1 locs1 cells slots Q (F0 m (pc + 3) ls rest)) : W p l e R s m args below meth c H locs cells slots Q (F0 m pc ls (v :: .ref a :: rest)) := by
  obtain ⟨q0, hq⟩ := pl_ix ha he
  refine va_put hexec hb hts hin ty0 hty hnm hown hw.1.1 hw.2.1 hw.2.2.1 hw.2.2.2 q0 hq hc k hk hlink hsame hfin hd hn hfit hl hdg (fun H1 locs1 h1 h2 h3 => ?_)
  rw [pl_up hw.2.2.1 ha he hq] at h1 h2
  exact kk H1 locs1 ⟨hw.1, h1, h2, h3⟩
theorem g_iald (hexec : p.tables.exec = Jvm.exec) (hb : c.code = cc) (hw : gw D cl tys L s H0 f H locs) (ha : a ∈ L) (t0 : Nat) {cA : ClassId} {n : Nat} {z : Nat → Int32} (he : f a = .inl (cA, n, .inl z)) (ht : tys[t0]? = some (cA, .int)) {i : Int32} (k : Nat) (hi : i = nI k) (hk : k < n) (hn : n < 2 ^ 31) (hdg : decode cc pc = .ok (.iaload, 1))
    (kk : W p l e R s m args below meth c H locs cells slots Q (F0 m (pc + 1) ls (.int (z k) :: rest))) : W p l e R s m args below meth c H locs cells slots Q (F0 m pc ls (.int i :: .ref a :: rest)) := by
  obtain ⟨q0, hq⟩ := pl_ix ha he
  subst hi
  refine va_iald hexec hb hw.1.1 hw.2.1 q0 t0 hq ht (vp_in_nI hk hn) hdg ?_
  rw [nI_clamp (by omega)]
  exact kk
theorem g_iast (hexec : p.tables.exec = Jvm.exec) (hb : c.code = cc) (hw : gw D cl tys L s H0 f H locs) (ha : a ∈ L) (t0 : Nat) {cA : ClassId} {n : Nat} {z : Nat → Int32} (he : f a = .inl (cA, n, .inl z)) (ht : tys[t0]? = some (cA, .int)) {i x : Int32} (k : Nat) (hi : i = nI k) (hk : k < n) (hn : n < 2 ^ 31) (hdg : decode cc pc = .ok (.iastore, 1))
    (kk : ∀ (H1 : Heap) (locs1 : List Loc), gw D cl tys L s H0 (va_up f a (.inl (cA, n, .inl (upd z k x)))) H1 locs1 → W p l e R s m args below meth c H1 locs1 cells slots Q (F0 m (pc + 1) ls rest)) : W p l e R s m args below meth c H locs cells slots Q (F0 m pc ls (.int x :: .int i :: .ref a :: rest)) := by
  obtain ⟨q0, hq⟩ := pl_ix ha he
  subst hi
  refine va_iast hexec hb hw.1.1 hw.2.1 hw.2.2.1 hw.2.2.2 q0 t0 hq ht (vp_in_nI hk hn) hdg (fun H1 locs1 h1 h2 h3 => ?_)
  rw [nI_clamp (by omega), pl_up hw.2.2.1 ha he hq] at h1 h2
  exact kk H1 locs1 ⟨hw.1, h1, h2, h3⟩
/-- an array of objects -/
theorem g_aald (hexec : p.tables.exec = Jvm.exec) (hb : c.code = cc) (hw : gw D cl tys L s H0 f H locs) (ha : a ∈ L) (t0 : Nat) {cA : ClassId} {C : String} {n : Nat} {z : Nat → Option Nat} (he : f a = .inl (cA, n, .inr (.inr (.inr (.inr z))))) (ht : tys[t0]? = some (cA, .object C)) {i : Int32} (k : Nat) (hi : i = nI k) (hk : k < n) (hn : n < 2 ^ 31) {b : Nat} (hz : z k = some b) (hdg : decode cc pc = .ok (.aaload, 1))
    (kk : W p l e R s m args below meth c H locs cells slots Q (F0 m (pc + 1) ls (.ref b :: rest))) : W p l e R s m args below meth c H locs cells slots Q (F0 m pc ls (.int i :: .ref a :: rest)) := by
  obtain ⟨q0, hq⟩ := pl_ix ha he
  subst hi
  refine va_aldq hexec hb hw.1.1 hw.2.1 q0 t0 hq ht (vp_in_nI hk hn) hdg ?_
  rw [nI_clamp (by omega), hz]
  exact kk
/-- calls of methods that make nothing -/
theorem g_pre {as : List Value} (hw : gw D cl tys L s H0 f H locs) : ∀ U : State, U.heap = H → s.WarmedH U.vm → mpre D cl tys L f as as.toArray U := fun U hU hW => ⟨rfl, xK.moved hW.alike hw.1, by rw [hU]; exact hw.2.1, hw.2.2.1⟩
theorem g_recv {b ci : Nat} {fs : List Value} {q : vw_C} (hw : gw D cl tys L s H0 f H locs) (hb : b ∈ L) (he : f b = .inr (ci, fs)) (hc : cl[ci]? = some q) : ∃ cellB : Cell, H[b]? = some cellB ∧ cellB.vm.isStatics = false ∧ s.vm.findClass q.1 = some cellB.cls := by
  obtain ⟨q0, hq⟩ := pl_ix hb he
  exact va_recv hw.1.1 hw.2.1 hc hq
theorem g_back {t : State} {f' : Nat → va_E} {H1 : Heap} {locs1 : List Loc} (ht : t.heap = H1) (hvm : s.vm.Alike t.vm) (hB : mst D cl tys L f' t) (hS : va_S (fun q => q ∈ L) H0 H1 locs1) : gw D cl tys L s H0 f' H1 locs1 := ⟨xK.moved hvm.symm hB.1, by rw [← ht]; exact hB.2.1, hB.2.2, hS⟩
theorem g_oi {a9 : Array Value} {post : Int32 → (Nat → va_E) → Prop} (hr : va_Run p l e R s m args below meth c H locs cells slots 0 0 (F0 m pc ls st0) rest (va_Qi post (mst D cl tys L) (fun q => q ∈ L) a9) (fun q => q ∈ L)) (hw : gw D cl tys L s H0 f H locs)
    (kk : ∀ (r : Int32) (f' : Nat → va_E) (H1 : Heap) (locs1 : List Loc), post r f' → gw D cl tys L s H0 f' H1 locs1 → W p l e R s m args below meth c H1 locs1 cells slots Q (F0 m (pc + 3) ls (.int r :: rest))) : W p l e R s m args below meth c H locs cells slots Q (F0 m pc ls st0) :=
  va_calli hr hw.2.2.2 (fun _ _ h => h) (fun _ h => h) (fun r f' t H1 locs1 ht hvm hp hB _ _ hS => kk r f' H1 locs1 hp (g_back ht hvm hB hS))
theorem g_ol {a9 : Array Value} {post : Int64 → (Nat → va_E) → Prop} (hr : va_Run p l e R s m args below meth c H locs cells slots 0 0 (F0 m pc ls st0) rest (va_Ql post (mst D cl tys L) (fun q => q ∈ L) a9) (fun q => q ∈ L)) (hw : gw D cl tys L s H0 f H locs)
    (kk : ∀ (r : Int64) (f' : Nat → va_E) (H1 : Heap) (locs1 : List Loc), post r f' → gw D cl tys L s H0 f' H1 locs1 → W p l e R s m args below meth c H1 locs1 cells slots Q (F0 m (pc + 3) ls (.long r :: rest))) : W p l e R s m args below meth c H locs cells slots Q (F0 m pc ls st0) :=
  va_calll hr hw.2.2.2 (fun _ _ h => h) (fun _ h => h) (fun r f' t H1 locs1 ht hvm hp hB _ _ hS => kk r f' H1 locs1 hp (g_back ht hvm hB hS))
theorem g_ov {a9 : Array Value} {post : (Nat → va_E) → Prop} (hr : va_Run p l e R s m args below meth c H locs cells slots 0 0 (F0 m pc ls st0) rest (va_Qv post (mst D cl tys L) (fun q => q ∈ L) a9) (fun q => q ∈ L)) (hw : gw D cl tys L s H0 f H locs)
    (kk : ∀ (f' : Nat → va_E) (H1 : Heap) (locs1 : List Loc), post f' → gw D cl tys L s H0 f' H1 locs1 → W p l e R s m args below meth c H1 locs1 cells slots Q (F0 m (pc + 3) ls rest)) : W p l e R s m args below meth c H locs cells slots Q (F0 m pc ls st0) :=
  va_callv hr hw.2.2.2 (fun _ _ h => h) (fun _ h => h) (fun f' t H1 locs1 ht hvm hp hB _ _ hS => kk f' H1 locs1 hp (g_back ht hvm hB hS))
theorem g_or {a9 : Array Value} {post : Nat → (Nat → va_E) → Prop} (hr : va_Run p l e R s m args below meth c H locs cells slots 0 0 (F0 m pc ls st0) rest (va_Qr (fun _ : Nat → va_E => True) (fun f' a t => mst D cl tys L f' t ∧ post a f') (fun q => q ∈ L) a9) (fun q => q ∈ L)) (hw : gw D cl tys L s H0 f H locs)
    (kk : ∀ (r : Nat) (f' : Nat → va_E) (H1 : Heap) (locs1 : List Loc), post r f' → gw D cl tys L s H0 f' H1 locs1 → W p l e R s m args below meth c H1 locs1 cells slots Q (F0 m (pc + 3) ls (.ref r :: rest))) : W p l e R s m args below meth c H locs cells slots Q (F0 m pc ls st0) :=
  va_callr hr hw.2.2.2 (fun _ _ h => h) (fun _ h => h) (fun f' r t H1 locs1 ht hvm _ hB _ _ hS => kk r f' H1 locs1 hB.2 (g_back ht hvm hB.1 hS))
/-- ends -/
theorem g_reti {post : Int32 → (Nat → va_E) → Prop} (hexec : p.tables.exec = Jvm.exec) (hb : c.code = cc) (hr : meth.sig.returnType = some .int) (hlocks : meth.locks = false) (hw : gw D cl tys L s s.heap f H locs) {v : Int32} (hp : post v f) (hdg : decode cc pc = .ok (.ireturn, 1)) :
    W p l e R s m args below meth c H locs cells slots (MQ below (va_Qi post (mst D cl tys L) (fun q => q ∈ L)) args s cells slots (fun q => q ∈ L)) (F0 m pc ls [.int v]) :=
  W.iret hexec hb hr (fun t ht hW => ⟨⟨v, f, rfl, hp, xK.moved hW.alike hw.1, by rw [ht]; exact hw.2.1, hw.2.2.1⟩, hw.2.2.2.F ht⟩) hw.2.2.2.2.2 hdg hlocks
theorem g_retz {post : Int32 → (Nat → va_E) → Prop} {ty : FieldType} (hexec : p.tables.exec = Jvm.exec) (hb : c.code = cc) (hr : meth.sig.returnType = some ty) (hlocks : meth.locks = false) (hw : gw D cl tys L s s.heap f H locs) {v : Int32} (hn : narrow ty (.int v) = .int v) (hp : post v f) (hdg : decode cc pc = .ok (.ireturn, 1)) :
    W p l e R s m args below meth c H locs cells slots (MQ below (va_Qi post (mst D cl tys L) (fun q => q ∈ L)) args s cells slots (fun q => q ∈ L)) (F0 m pc ls [.int v]) :=
  W.zret hexec hb hr hn (fun t ht hW => ⟨⟨v, f, rfl, hp, xK.moved hW.alike hw.1, by rw [ht]; exact hw.2.1, hw.2.2.1⟩, hw.2.2.2.F ht⟩) hw.2.2.2.2.2 hdg hlocks
theorem g_retl {post : Int64 → (Nat → va_E) → Prop} (hexec : p.tables.exec = Jvm.exec) (hb : c.code = cc) (hr : meth.sig.returnType = some .long) (hlocks : meth.locks = false) (hw : gw D cl tys L s s.heap f H locs) {v : Int64} (hp : post v f) (hdg : decode cc pc = .ok (.lreturn, 1)) :
    W p l e R s m args below meth c H locs cells slots (MQ below (va_Ql post (mst D cl tys L) (fun q => q ∈ L)) args s cells slots (fun q => q ∈ L)) (F0 m pc ls [.long v]) :=
  W.lret hexec hb hr (fun t ht hW => ⟨⟨v, f, rfl, hp, xK.moved hW.alike hw.1, by rw [ht]; exact hw.2.1, hw.2.2.1⟩, hw.2.2.2.F ht⟩) hw.2.2.2.2.2 hdg hlocks
theorem g_retv {post : (Nat → va_E) → Prop} (hexec : p.tables.exec = Jvm.exec) (hb : c.code = cc) (hr : meth.sig.returnType = none) (hlocks : meth.locks = false) (hw : gw D cl tys L s s.heap f H locs) (hp : post f) (hdg : decode cc pc = .ok (.return_, 1)) :
    W p l e R s m args below meth c H locs cells slots (MQ below (va_Qv post (mst D cl tys L) (fun q => q ∈ L)) args s cells slots (fun q => q ∈ L)) (F0 m pc ls []) :=
  W.vret hexec hb hr (fun t ht hW => ⟨⟨f, rfl, hp, xK.moved hW.alike hw.1, by rw [ht]; exact hw.2.1, hw.2.2.1⟩, hw.2.2.2.F ht⟩) hw.2.2.2.2.2 hdg hlocks
/-- a method's beginning -/
theorem g_start {v : Array Value} {as : List Value} (h : mpre D cl tys L f as v s) : v = as.toArray ∧ gw D cl tys L s s.heap f s.heap [] := ⟨h.1, h.2.1, h.2.2.1, h.2.2.2, va_S.rf⟩
end MEM
end
section
-- ===== known cells: a list of addresses and what they hold; all other cells of the pool are as at f0 =====
def kn (L : List Nat) (f0 f : Nat → va_E) (ws : va_W) : Prop := (∀ (k : Nat) (q : Nat × va_E), ws[k]? = some q → q.1 ∈ L ∧ f q.1 = q.2) ∧ (∀ (i j : Nat) (x y : Nat × va_E), ws[i]? = some x → ws[j]? = some y → x.1 = y.1 → i = j) ∧ ∀ q : Nat, (∀ (k : Nat) (e : va_E), ws[k]? ≠ some (q, e)) → f q = f0 q
theorem kn_nil (L : List Nat) (f : Nat → va_E) : kn L f f [] := ⟨(fun k q h => by cases h), (fun i j x y h => by cases h), (fun _ _ => rfl)⟩
theorem kn_put {L : List Nat} {f0 f : Nat → va_E} {ws : va_W} (h : kn L f0 f ws) {i a : Nat} {e0 e : va_E} (hi : ws[i]? = some (a, e0)) : kn L f0 (va_up f a e) (ws.set i (a, e)) := by
  have hil : i < ws.length := (List.getElem?_eq_some_iff.mp hi).1
  have key : ∀ (k : Nat) (q : Nat × va_E), (ws.set i (a, e))[k]? = some q → (k = i ∧ q = (a, e)) ∨ (k ≠ i ∧ ws[k]? = some q) := by
    intro k q hk
    by_cases hki : k = i
    · subst hki
      rw [List.getElem?_set_self hil] at hk
      exact Or.inl ⟨rfl, (Option.some.inj hk).symm⟩
    · rw [List.getElem?_set_ne (Ne.symm hki)] at hk
      exact Or.inr ⟨hki, hk⟩
  have back : ∀ (k : Nat) (q : Nat × va_E), (ws.set i (a, e))[k]? = some q → ∃ e1, ws[k]? = some (q.1, e1) := by
    intro k q hk
    rcases key k q hk with ⟨h1, h2⟩ | ⟨_, h2⟩
    · subst h1; subst h2; exact ⟨e0, hi⟩
    · exact ⟨q.2, h2⟩
  refine ⟨fun k q hk => ?_, fun k j x y hk hj hxy => ?_, fun q hq => ?_⟩
  · rcases key k q hk with ⟨h1, h2⟩ | ⟨h1, h2⟩
    · subst h2
      exact ⟨(h.1 i _ hi).1, va_up_self f a e⟩
    · refine ⟨(h.1 k q h2).1, ?_⟩
      rw [va_up_ne f e (fun ha => h1 (h.2.1 k i q (a, e0) h2 hi ha))]
      exact (h.1 k q h2).2
  · obtain ⟨e1, h1⟩ := back k x hk
    obtain ⟨e2, h2⟩ := back j y hj
    exact h.2.1 k j (x.1, e1) (y.1, e2) h1 h2 hxy
  · have hqa : q ≠ a := fun ha => by
      subst ha
      exact hq i e (List.getElem?_set_self hil)
    rw [va_up_ne f e hqa]
    refine h.2.2 q (fun k e1 hk => ?_)
    by_cases hki : k = i
    · subst hki
      rw [hi] at hk
      exact hqa (congrArg Prod.fst (Option.some.inj hk)).symm
    · exact hq k e1 (by rw [List.getElem?_set_ne (Ne.symm hki)]; exact hk)
/-- one cell more is looked at -/
theorem kn_add {L : List Nat} {f0 f : Nat → va_E} {ws : va_W} (h : kn L f0 f ws) {a : Nat} {e : va_E} (ha : a ∈ L) (he : f0 a = e) (hn : ∀ (k : Nat) (q : Nat × va_E), ws[k]? = some q → q.1 ≠ a) : kn L f0 f (ws ++ [(a, e)]) := by
  have hfa : f a = f0 a := h.2.2 a (fun k e1 hk => hn k _ hk rfl)
  have key : ∀ (k : Nat) (q : Nat × va_E), (ws ++ [(a, e)])[k]? = some q → (k < ws.length ∧ ws[k]? = some q) ∨ (k = ws.length ∧ q = (a, e)) := by
    intro k q hk
    by_cases hl : k < ws.length
    · rw [List.getElem?_append_left hl] at hk
      exact Or.inl ⟨hl, hk⟩
    · rw [List.getElem?_append_right (by omega)] at hk
      have h0 : k - ws.length < 1 := (List.getElem?_eq_some_iff.mp hk).1
      rw [show k - ws.length = 0 by omega] at hk
      exact Or.inr ⟨by omega, (Option.some.inj hk).symm⟩
  refine ⟨fun k q hk => ?_, fun i j x y hi hj hxy => ?_, fun q hq => ?_⟩
  · rcases key k q hk with ⟨_, h2⟩ | ⟨_, h2⟩
    · exact h.1 k q h2
    · subst h2
      exact ⟨ha, hfa.trans he⟩
  · rcases key i x hi with ⟨h1, h2⟩ | ⟨h1, h2⟩ <;> rcases key j y hj with ⟨h3, h4⟩ | ⟨h3, h4⟩
    · exact h.2.1 i j x y h2 h4 hxy
    · exact absurd (by rw [hxy, h4]) (hn i x h2)
    · exact absurd (by rw [← hxy, h2]) (hn j y h4)
    · omega
  · refine h.2.2 q (fun k e1 hk => hq k e1 ?_)
    rw [List.getElem?_append_left (List.getElem?_eq_some_iff.mp hk).1]
    exact hk
/-- behind a call: it knew the cells at the places is, and left them as wc' -/
def kset : va_W → List Nat → va_W → va_W
  | ws, i :: is, x :: xs => kset (ws.set i x) is xs
  | ws, _, _ => ws
def kw (D : va_G) (cl : List vw_C) (tys : List (ClassId × FieldType)) (L : List Nat) (s : State) (H0 : Heap) (f0 : Nat → va_E) (ws : va_W) (H : Heap) (locs : List Loc) : Prop := ∃ f : Nat → va_E, gw D cl tys L s H0 f H locs ∧ kn L f0 f ws
section KMEM
variable {p : Program} {l : Launch} {e : Env} {R : Room} {s : State} {m : MethodId} {args : Array Value} {below : List Frame} {meth : Method} {c : Code} {H : Heap} {locs : List Loc} {cells slots : Nat} {Q : State → Prop}
variable {cc : ByteArray} {pc : Nat} {ls : Array Slot} {rest st0 : List Value} {D : va_G} {cl : List vw_C} {a : Nat} {tys : List (ClassId × FieldType)} {H0 : Heap} {L : List Nat} {f0 : Nat → va_E} {ws : va_W}
theorem k_add (hw : kw D cl tys L s H0 f0 ws H locs) {ea : va_E} (ha : a ∈ L) (he : f0 a = ea) (hn : ∀ (k : Nat) (q : Nat × va_E), ws[k]? = some q → q.1 ≠ a) : kw D cl tys L s H0 f0 (ws ++ [(a, ea)]) H locs := by
  obtain ⟨f, h1, h2⟩ := hw
  exact ⟨f, h1, kn_add h2 ha he hn⟩
theorem k_get (hexec : p.tables.exec = Jvm.exec) (hb : c.code = cc) {own ref C : String} {T : u_T} {N ci index : Nat} {Ts : List Cond} (hts : ∀ w ∈ Ts, w.before args s = true) (hin : ∀ w ∈ u_ws C T N, w ∈ Ts) (hown : s.vm.findClass own = some m.cls) (hw : kw D cl tys L s H0 f0 ws H locs) (i : Nat) {fs : List Value} (hi : ws[i]? = some (a, .inr (ci, fs))) (hc : cl[ci]? = some (C, T, N)) (k : Nat) (hk : k < N) (hlink : (Cond.fieldLink own index ref (T k).2.1 (T k).2.2.1).before args s = true) (hsame : ∀ x, s.fieldFound? (T k).1 (T k).2.1 (T k).2.2.1 = some x → s.fieldFound? ref (T k).2.1 (T k).2.2.1 = some x) {v : Value} (hv : fs[k]? = some v) (hdg : decode cc pc = .ok (.getfield index, 3))
    (kk : W p l e R s m args below meth c H locs cells slots Q (F0 m (pc + 3) ls (v :: rest))) : W p l e R s m args below meth c H locs cells slots Q (F0 m pc ls (.ref a :: rest)) := by
  obtain ⟨f, h1, h2⟩ := hw
  obtain ⟨g1, g2⟩ := h2.1 i _ hi
  exact g_get hexec hb hts hin hown h1 g1 g2 hc k hk hlink hsame hv hdg kk
theorem k_put (hexec : p.tables.exec = Jvm.exec) (hb : c.code = cc) {own ref C : String} {T : u_T} {N ci index : Nat} {Ts : List Cond} (hts : ∀ w ∈ Ts, w.before args s = true) (hin : ∀ w ∈ u_ws C T N, w ∈ Ts) (ty0 : Nat → FieldType) (hty : ∀ k, k < N → parseFieldDescriptor (T k).2.2.1 = some (ty0 k)) (hnm : ∀ a, a < N → ∀ b, b < N → a ≠ b → (T a).2.1 ≠ (T b).2.1) (hown : s.vm.findClass own = some m.cls) (hw : kw D cl tys L s H0 f0 ws H locs) (i : Nat) {fs : List Value} (hi : ws[i]? = some (a, .inr (ci, fs))) (hc : cl[ci]? = some (C, T, N)) (k : Nat) (hk : k < N) (hlink : (Cond.fieldLink own index ref (T k).2.1 (T k).2.2.1).before args s = true) (hsame : ∀ x, s.fieldFound? (T k).1 (T k).2.1 (T k).2.2.1 = some x → s.fieldFound? ref (T k).2.1 (T k).2.2.1 = some x) (hfin : (T k).2.2.2 = false) {ty : FieldType} {v : Value} (hd : parseFieldDescriptor (T k).2.2.1 = some ty) (hn : narrow ty v = v) (hfit : fits ty v = true) (hl : k < fs.length)
    (hdg : decode cc pc = .ok (.putfield index, 3)) (kk : ∀ (H1 : Heap) (locs1 : List Loc), kw D cl tys L s H0 f0 (ws.set i (a, .inr (ci, fs.set k v))) H1 locs1 → W p l e R s m args below meth c H1 locs1 cells slots Q (F0 m (pc + 3) ls rest)) : W p l e R s m args below meth c H locs cells slots Q (F0 m pc ls (v :: .ref a :: rest)) := by
  obtain ⟨f, h1, h2⟩ := hw
  obtain ⟨g1, g2⟩ := h2.1 i _ hi
  exact g_put hexec hb hts hin ty0 hty hnm hown h1 g1 g2 hc k hk hlink hsame hfin hd hn hfit hl hdg (fun H1 locs1 h => kk H1 locs1 ⟨_, h, kn_put h2 hi⟩)
theorem k_iald (hexec : p.tables.exec = Jvm.exec) (hb : c.code = cc) (hw : kw D cl tys L s H0 f0 ws H locs) (q0 t0 : Nat) {cA : ClassId} {n : Nat} {z : Nat → Int32} (hi : ws[q0]? = some (a, .inl (cA, n, .inl z))) (ht : tys[t0]? = some (cA, .int)) {i : Int32} (k : Nat) (hik : i = nI k) (hk : k < n) (hn : n < 2 ^ 31) (hdg : decode cc pc = .ok (.iaload, 1))
    (kk : W p l e R s m args below meth c H locs cells slots Q (F0 m (pc + 1) ls (.int (z k) :: rest))) : W p l e R s m args below meth c H locs cells slots Q (F0 m pc ls (.int i :: .ref a :: rest)) := by
  obtain ⟨f, h1, h2⟩ := hw
  obtain ⟨g1, g2⟩ := h2.1 q0 _ hi
  exact g_iald hexec hb h1 g1 t0 g2 ht k hik hk hn hdg kk
theorem k_iast (hexec : p.tables.exec = Jvm.exec) (hb : c.code = cc) (hw : kw D cl tys L s H0 f0 ws H locs) (q0 t0 : Nat) {cA : ClassId} {n : Nat} {z : Nat → Int32} (hi : ws[q0]? = some (a, .inl (cA, n, .inl z))) (ht : tys[t0]? = some (cA, .int)) {i x : Int32} (k : Nat) (hik : i = nI k) (hk : k < n) (hn : n < 2 ^ 31) (hdg : decode cc pc = .ok (.iastore, 1))
    (kk : ∀ (H1 : Heap) (locs1 : List Loc), kw D cl tys L s H0 f0 (ws.set q0 (a, .inl (cA, n, .inl (upd z k x)))) H1 locs1 → W p l e R s m args below meth c H1 locs1 cells slots Q (F0 m (pc + 1) ls rest)) : W p l e R s m args below meth c H locs cells slots Q (F0 m pc ls (.int x :: .int i :: .ref a :: rest)) := by
  obtain ⟨f, h1, h2⟩ := hw
  obtain ⟨g1, g2⟩ := h2.1 q0 _ hi
  exact g_iast hexec hb h1 g1 t0 g2 ht k hik hk hn hdg (fun H1 locs1 h => kk H1 locs1 ⟨_, h, kn_put h2 hi⟩)
end KMEM
end
section
-- ===== ints and longs by whole numbers =====
def zI (z : Int) : Int32 := Int32.ofInt z
def zL (z : Int) : Int64 := Int64.ofInt z
def rI (z : Int) : Prop := -2147483648 ≤ z ∧ z < 2147483648
def rL (z : Int) : Prop := -9223372036854775808 ≤ z ∧ z < 9223372036854775808
theorem zI_n (n : Nat) : zI (n : Int) = nI n := rfl
theorem zL_n (n : Nat) : zL (n : Int) = lN n := rfl
theorem zI_add (a b : Int) : zI a + zI b = zI (a + b) := (Int32.ofInt_add a b).symm
theorem zI_sub (a b : Int) : zI a - zI b = zI (a - b) := (Int32.ofInt_sub a b).symm
theorem zI_mul (a b : Int) : zI a * zI b = zI (a * b) := (Int32.ofInt_mul a b).symm
theorem zI_neg (a : Int) : -zI a = zI (-a) := (Int32.ofInt_neg a).symm
theorem zL_add (a b : Int) : zL a + zL b = zL (a + b) := (Int64.ofInt_add a b).symm
theorem zL_sub (a b : Int) : zL a - zL b = zL (a - b) := (Int64.ofInt_sub a b).symm
theorem zL_mul (a b : Int) : zL a * zL b = zL (a * b) := (Int64.ofInt_mul a b).symm
theorem zI_t {a : Int} (h : rI a) : (zI a).toInt = a := Int32.toInt_ofInt_of_le h.1 h.2
theorem zL_t {a : Int} (h : rL a) : (zL a).toInt = a := Int64.toInt_ofInt_of_le h.1 h.2
theorem zI_of (x : Int32) : x = zI x.toInt ∧ rI x.toInt := ⟨(Int32.ofInt_toInt x).symm, Int32.le_toInt x, Int32.toInt_lt x⟩
theorem zI_lt {a b : Int} (ha : rI a) (hb : rI b) : zI a < zI b ↔ a < b := by rw [Int32.lt_iff_toInt_lt, zI_t ha, zI_t hb]
theorem zI_le {a b : Int} (ha : rI a) (hb : rI b) : zI a ≤ zI b ↔ a ≤ b := by rw [Int32.le_iff_toInt_le, zI_t ha, zI_t hb]
theorem zI_eq {a b : Int} (ha : rI a) (hb : rI b) : zI a = zI b ↔ a = b := by rw [← Int32.toInt_inj, zI_t ha, zI_t hb]
theorem zL_lt {a b : Int} (ha : rL a) (hb : rL b) : zL a < zL b ↔ a < b := by rw [Int64.lt_iff_toInt_lt, zL_t ha, zL_t hb]
theorem zL_le {a b : Int} (ha : rL a) (hb : rL b) : zL a ≤ zL b ↔ a ≤ b := by rw [Int64.le_iff_toInt_le, zL_t ha, zL_t hb]
theorem zL_eq {a b : Int} (ha : rL a) (hb : rL b) : zL a = zL b ↔ a = b := by rw [← Int64.toInt_inj, zL_t ha, zL_t hb]
theorem zIL {a : Int} (h : rI a) : (zI a).toInt64 = zL a := Int64.toInt_inj.mp (by rw [Int32.toInt_toInt64, zI_t h, zL_t ⟨by have := h.1; omega, by have := h.2; omega⟩])
theorem zLI (a : Int) : (zL a).toInt32 = zI a := Int64.toInt32_ofInt
theorem zI_bv (a : Int) : (zI a).toBitVec.toNat = (a % 4294967296).toNat := by
  show (BitVec.ofInt 32 a).toNat = _
  rw [BitVec.toNat_ofInt]
  rfl
theorem zL_bv (a : Int) : (zL a).toBitVec.toNat = (a % 18446744073709551616).toNat := by
  show (BitVec.ofInt 64 a).toNat = _
  rw [BitVec.toNat_ofInt]
  rfl
theorem zI_and30 (a : Int) : zI a &&& 1073741823 = zI (a % 1073741824) := by
  rw [pk_and (zI a) 30 (by decide), zI_bv]
  have h : ((a % 4294967296).toNat % 2 ^ 30 : Nat) = (a % 1073741824).toNat := by omega
  rw [h, ← zI_n]
  congr 1
  omega
theorem zI_shr30 {a : Int} (h : rI a) : zI a >>> ((30 : Int32) &&& 31) = zI (a / 1073741824) := by
  apply Int32.toInt_inj.mp
  rw [pk_shr (zI a) _ 30 (by decide), zI_t h, Int.shiftRight_eq_div_pow, zI_t]
  · rfl
  · have h1 := h.1
    have h2 := h.2
    constructor <;> omega
theorem zL_and30 (a : Int) : zL a &&& 1073741823 = zL (a % 1073741824) := by
  apply Int64.toBitVec_inj.mp
  apply BitVec.eq_of_toNat_eq
  rw [Int64.toBitVec_and, BitVec.toNat_and, zL_bv, zL_bv]
  have e : (1073741823 : Int64).toBitVec.toNat = 2 ^ 30 - 1 := by decide
  rw [e, Nat.and_two_pow_sub_one_eq_mod]
  omega
theorem zL_shr30 {a : Int} (h : rL a) : zL a >>> ((30 : Int32).toInt64 &&& 63) = zL (a / 1073741824) := by
  apply Int64.toInt_inj.mp
  have e : (zL a >>> ((30 : Int32).toInt64 &&& 63)).toInt = (zL a).toInt >>> 30 := by
    show (zL a >>> ((30 : Int32).toInt64 &&& 63)).toBitVec.toInt = _
    rw [Int64.toBitVec_shiftRight, BitVec.sshiftRight_eq', BitVec.toInt_sshiftRight]
    rfl
  rw [e, zL_t h, Int.shiftRight_eq_div_pow, zL_t]
  · rfl
  · have h1 := h.1
    have h2 := h.2
    constructor <;> omega
theorem zI_rem {a b : Int} (ha : rI a) (hb : rI b) (h0 : 0 < b) : zI a - zI a / zI b * zI b = zI (a.tmod b) := by
  have hd : zI a / zI b = zI (a.tdiv b) := by
    apply Int32.toInt_inj.mp
    rw [Int32.toInt_div_of_ne_right _ _ (fun h => by
      have := (zI_eq hb (b := -1) ⟨by decide, by decide⟩).mp (h.trans (by decide))
      omega), zI_t ha, zI_t hb, zI_t]
    have h1 := ha.1
    have h2 := ha.2
    rcases Int.lt_or_le a 0 with h | h
    · have e : a.tdiv b = -((-a).tdiv b) := by rw [Int.neg_tdiv]; omega
      have h3 : 0 ≤ (-a).tdiv b := Int.tdiv_nonneg (by omega) (by omega)
      have h4 : (-a).tdiv b ≤ -a := Int.tdiv_le_self _ (by omega)
      rw [e]
      constructor <;> omega
    · have h3 : 0 ≤ a.tdiv b := Int.tdiv_nonneg h (by omega)
      have h4 : a.tdiv b ≤ a := Int.tdiv_le_self _ h
      constructor <;> omega
  rw [hd, zI_mul, zI_sub]
  congr 1
  have := Int.tmod_add_mul_tdiv a b
  rw [Int.mul_comm] at this
  omega
theorem z_0 : (0 : Int32) = zI 0 := rfl
theorem z_1 : (1 : Int32) = zI 1 := rfl
theorem z_m1 : (-1 : Int32) = zI (-1) := by decide
theorem rI_n {n : Nat} (h : n < 2147483648) : rI (n : Int) := ⟨by omega, by omega⟩
end
section
-- ===== further rows over the known cells: lengths, arrays of objects and of arrays, copies =====
section KM3
variable {p : Program} {l : Launch} {e : Env} {R : Room} {s : State} {m : MethodId} {args : Array Value} {below : List Frame} {meth : Method} {c : Code} {H : Heap} {locs : List Loc} {cells slots : Nat} {Q : State → Prop}
variable {cc : ByteArray} {pc : Nat} {ls : Array Slot} {rest st0 : List Value} {D : va_G} {cl : List vw_C} {a : Nat} {tys : List (ClassId × FieldType)} {H0 : Heap} {L : List Nat} {f0 f : Nat → va_E} {ws : va_W}
theorem g_alen (hexec : p.tables.exec = Jvm.exec) (hb : c.code = cc) (hw : gw D cl tys L s H0 f H locs) (ha : a ∈ L) (t0 : Nat) {cA : ClassId} {x : vp_A} (he : f a = .inl (cA, x)) {ty : FieldType} (ht : tys[t0]? = some (cA, ty)) (hdg : decode cc pc = .ok (.arraylength, 1))
    (kk : W p l e R s m args below meth c H locs cells slots Q (F0 m (pc + 1) ls (.int (nI x.1) :: rest))) : W p l e R s m args below meth c H locs cells slots Q (F0 m pc ls (.ref a :: rest)) := by
  obtain ⟨q0, hq⟩ := pl_ix ha he
  exact va_alen hexec hb hw.1.1 hw.2.1 q0 t0 hq ht rfl hdg kk
theorem k_alen (hexec : p.tables.exec = Jvm.exec) (hb : c.code = cc) (hw : kw D cl tys L s H0 f0 ws H locs) (q0 t0 : Nat) {cA : ClassId} {x : vp_A} (hi : ws[q0]? = some (a, .inl (cA, x))) {ty : FieldType} (ht : tys[t0]? = some (cA, ty)) (hdg : decode cc pc = .ok (.arraylength, 1))
    (kk : W p l e R s m args below meth c H locs cells slots Q (F0 m (pc + 1) ls (.int (nI x.1) :: rest))) : W p l e R s m args below meth c H locs cells slots Q (F0 m pc ls (.ref a :: rest)) := by
  obtain ⟨f, h1, h2⟩ := hw
  obtain ⟨g1, g2⟩ := h2.1 q0 _ hi
  exact g_alen hexec hb h1 g1 t0 g2 ht hdg kk
theorem k_aald (hexec : p.tables.exec = Jvm.exec) (hb : c.code = cc) (hw : kw D cl tys L s H0 f0 ws H locs) (q0 t0 : Nat) {cA : ClassId} {C : String} {n : Nat} {z : Nat → Option Nat} (hi : ws[q0]? = some (a, .inl (cA, n, .inr (.inr (.inr (.inr z)))))) (ht : tys[t0]? = some (cA, .object C)) {i : Int32} (k : Nat) (hik : i = nI k) (hk : k < n) (hn : n < 2 ^ 31) {b : Nat} (hz : z k = some b) (hdg : decode cc pc = .ok (.aaload, 1))
    (kk : W p l e R s m args below meth c H locs cells slots Q (F0 m (pc + 1) ls (.ref b :: rest))) : W p l e R s m args below meth c H locs cells slots Q (F0 m pc ls (.int i :: .ref a :: rest)) := by
  obtain ⟨f, h1, h2⟩ := hw
  obtain ⟨g1, g2⟩ := h2.1 q0 _ hi
  exact g_aald hexec hb h1 g1 t0 g2 ht k hik hk hn hz hdg kk
/-- a row of an array of arrays -/
theorem g_aaldA (hexec : p.tables.exec = Jvm.exec) (hb : c.code = cc) (hw : gw D cl tys L s H0 f H locs) (ha : a ∈ L) (t0 : Nat) {cA : ClassId} {t : FieldType} {n : Nat} {z : Nat → Option Nat} (he : f a = .inl (cA, n, .inr (.inr (.inr (.inr z))))) (ht : tys[t0]? = some (cA, .array t)) {i : Int32} (k : Nat) (hi : i = nI k) (hk : k < n) (hn : n < 2 ^ 31) {b : Nat} (hz : z k = some b) (hdg : decode cc pc = .ok (.aaload, 1))
    (kk : W p l e R s m args below meth c H locs cells slots Q (F0 m (pc + 1) ls (.ref b :: rest))) : W p l e R s m args below meth c H locs cells slots Q (F0 m pc ls (.int i :: .ref a :: rest)) := by
  obtain ⟨q0, hq⟩ := pl_ix ha he
  subst hi
  have hin : vp_in (nI k) n := vp_in_nI hk hn
  refine W.aald (v := .ref b) (ty := .array t) hexec hb (hw.2.1 q0 _ hq) ((hw.1.1.2 t0 _ ht).1 n (fun j => va_rf (z j))) rfl (fun q => by cases q) (by show ¬ (_ ∨ (arrV _ _ _).slots.size ≤ _); rw [arrV_size]; exact hin) ?_ rfl rfl hdg kk
  show (arrV _ _ _).slots[_]? = _
  rw [arrV_read _ _ (by rw [nI_clamp (by omega)]; exact hk), nI_clamp (by omega), hz]
  rfl
theorem k_aaldA (hexec : p.tables.exec = Jvm.exec) (hb : c.code = cc) (hw : kw D cl tys L s H0 f0 ws H locs) (q0 t0 : Nat) {cA : ClassId} {t : FieldType} {n : Nat} {z : Nat → Option Nat} (hi : ws[q0]? = some (a, .inl (cA, n, .inr (.inr (.inr (.inr z)))))) (ht : tys[t0]? = some (cA, .array t)) {i : Int32} (k : Nat) (hik : i = nI k) (hk : k < n) (hn : n < 2 ^ 31) {b : Nat} (hz : z k = some b) (hdg : decode cc pc = .ok (.aaload, 1))
    (kk : W p l e R s m args below meth c H locs cells slots Q (F0 m (pc + 1) ls (.ref b :: rest))) : W p l e R s m args below meth c H locs cells slots Q (F0 m pc ls (.int i :: .ref a :: rest)) := by
  obtain ⟨f, h1, h2⟩ := hw
  obtain ⟨g1, g2⟩ := h2.1 q0 _ hi
  exact g_aaldA hexec hb h1 g1 t0 g2 ht k hik hk hn hz hdg kk
/-- a row of ints is put into an array of arrays of ints -/
theorem g_aastA (hexec : p.tables.exec = Jvm.exec) (hb : c.code = cc) (hw : gw D cl tys L s H0 f H locs) (ha : a ∈ L) (t0 t1 : Nat) {cA cR : ClassId} {n v : Nat} {z : Nat → Option Nat} {x : vp_A} (he : f a = .inl (cA, n, .inr (.inr (.inr (.inr z))))) (ht : tys[t0]? = some (cA, .array .int)) (ht1 : tys[t1]? = some (cR, .int)) (hv : v ∈ L) (hev : f v = .inl (cR, x)) {i : Int32} (k : Nat) (hi : i = nI k) (hk : k < n) (hn : n < 2 ^ 31) (hdg : decode cc pc = .ok (.aastore, 1))
    (kk : ∀ (H1 : Heap) (locs1 : List Loc), gw D cl tys L s H0 (va_up f a (.inl (cA, n, .inr (.inr (.inr (.inr (va_up z k (some v)))))))) H1 locs1 → W p l e R s m args below meth c H1 locs1 cells slots Q (F0 m (pc + 1) ls rest)) : W p l e R s m args below meth c H locs cells slots Q (F0 m pc ls (.ref v :: .int i :: .ref a :: rest)) := by
  obtain ⟨q0, hq⟩ := pl_ix ha he
  obtain ⟨q1, hq1⟩ := pl_ix hv hev
  subst hi
  have hin : vp_in (nI k) n := vp_in_nI hk hn
  obtain ⟨comp, cA2, kA, k3, -, k1, k2, k4⟩ := arrayOverA_spec (args := args) (show (Cond.arrayOver (.array .int)).before args s = true from hw.1.2)
  have hR : s.vm.findClass ("[" ++ (FieldType.int).toString) = some cR := (hw.1.1.2 t1 _ ht1).2
  cases ((hw.1.1.2 t0 _ ht).2 : s.vm.findClass ("[" ++ (FieldType.array .int).toString) = some cA).symm.trans k4
  cases k3.symm.trans hR
  obtain ⟨kE, hkE, -⟩ := Vm.findClass_spec k3
  have hcv : H[v]? = some (vp_cell cR x) := hw.2.1 q1 _ hq1
  have hcls : (vp_cell cR x).cls = cR := by
    obtain ⟨n', g | g | g | g | g⟩ := x <;> rfl
  have hst : (vp_cell cR x).vm = .none := by
    obtain ⟨n', g | g | g | g | g⟩ := x <;> rfl
  refine W.aast hexec hb (hw.2.1 q0 _ hq) (fun q h => by cases h) (fun h => by cases h) k1 k2 rfl hkE ⟨fun q => hin (Or.inl q), by show _ < (arrV _ _ _).slots.size; rw [arrV_size]; exact Nat.not_le.mp fun q => hin (Or.inr q)⟩ hcv (fun q h => by rw [hst] at h; cases h) (by rw [hcls]; exact hkE) (by rw [hcls]; exact va_asg _ _) rfl rfl hdg fun H1 e1 z1 oq => ?_
  have hset : va_at D cl (a, .inl (cA, n, .inr (.inr (.inr (.inr (va_up z k (some v))))))) H1 := by
    show H1[a]? = some (vp_cell _ _)
    rw [e1, vp_cell_q, vp_cell_q, arrV_store, nI_clamp (by omega)]
    congr 2
    funext q
    by_cases hqk : q = k
    · subst hqk
      simp [updV, va_up, va_rf]
    · simp [updV, va_up, hqk]
  have h1 := hw.2.1.set hw.2.2.1 hq hset oq
  have h2 := hw.2.2.1.set (e := .inl (cA, n, .inr (.inr (.inr (.inr (va_up z k (some v))))))) hq
  rw [pl_up hw.2.2.1 ha he hq] at h1 h2
  exact kk H1 _ ⟨hw.1, h1, h2, hw.2.2.2.put z1 oq ha⟩
theorem g_copyi (hexec : p.tables.exec = Jvm.exec) (hb : c.code = cc) (hml : c.maxLocals = ls.size) {own : String} {index : Nat} (hown : s.vm.findClass own = some m.cls) (hlink : (Cond.methodLink own index arraycopyName).before args s = true) (hnat : (Cond.native arraycopyName).before args s = true) (hstat : (Cond.static arraycopyName).before args s = true) (hini : (Cond.initialized "java/lang/System").before args s = true)
    (hw : gw D cl tys L s H0 f H locs) (t0 : Nat) {a0 : Nat} {cA : ClassId} {n0 n1 : Nat} {z0 z1 : Nat → Int32} (hm0 : a0 ∈ L) (hm1 : a ∈ L) (he0 : f a0 = .inl (cA, n0, .inl z0)) (he1 : f a = .inl (cA, n1, .inl z1)) (ht : tys[t0]? = some (cA, .int)) {sp dp n : Int32} (a1 b1 k1 : Nat) (hsp : sp = nI a1) (hdp : dp = nI b1) (hnn : n = nI k1) (h4 : a1 + k1 ≤ n0) (h5 : b1 + k1 ≤ n1) (h6 : n0 < 2 ^ 31) (h7 : n1 < 2 ^ 31)
    (hframes : 1 ≤ R.frames) (hlocals : (rest.map fun v => v.category).sum + (nativeFrameWords "java/lang/System" "arraycopy" 5 + 11) ≤ R.locals) (hdg : decode cc pc = .ok (.invokestatic index, 3))
    (kk : ∀ (H1 : Heap) (locs1 : List Loc), gw D cl tys L s H0 (va_up f a (.inl (cA, n1, .inl (va_cpy z0 z1 a1 b1 k1)))) H1 locs1 → W p l e R s m args below meth c H1 locs1 cells slots Q (F0 m (pc + 3) ls rest)) : W p l e R s m args below meth c H locs cells slots Q (F0 m pc ls (.int n :: .int dp :: .ref a :: .int sp :: .ref a0 :: rest)) := by
  obtain ⟨q0, hq0⟩ := pl_ix hm0 he0
  obtain ⟨q1, hq1⟩ := pl_ix hm1 he1
  subst hsp
  subst hdp
  subst hnn
  refine va_copyi hexec hb hml hown hlink hnat hstat hini hw.1.1 hw.2.1 hw.2.2.1 hw.2.2.2 q0 q1 t0 t0 hq0 hq1 ht ht rfl (nI_pos (by omega)) (nI_pos (by omega)) (nI_pos (by omega)) (by rw [nI_clamp (by omega), nI_clamp (by omega)]; exact h4) (by rw [nI_clamp (by omega), nI_clamp (by omega)]; exact h5) (fun _ _ => rfl) hframes hlocals hdg (fun H1 locs1 h1 h2 h3 => ?_)
  rw [nI_clamp (by omega), nI_clamp (by omega), nI_clamp (by omega), pl_up hw.2.2.1 hm1 he1 hq1] at h1 h2
  exact kk H1 locs1 ⟨hw.1, h1, h2, h3⟩
theorem k_copyi (hexec : p.tables.exec = Jvm.exec) (hb : c.code = cc) (hml : c.maxLocals = ls.size) {own : String} {index : Nat} (hown : s.vm.findClass own = some m.cls) (hlink : (Cond.methodLink own index arraycopyName).before args s = true) (hnat : (Cond.native arraycopyName).before args s = true) (hstat : (Cond.static arraycopyName).before args s = true) (hini : (Cond.initialized "java/lang/System").before args s = true)
    (hw : kw D cl tys L s H0 f0 ws H locs) (q0 q1 t0 : Nat) {a0 : Nat} {cA : ClassId} {n0 n1 : Nat} {z0 z1 : Nat → Int32} (hi0 : ws[q0]? = some (a0, .inl (cA, n0, .inl z0))) (hi1 : ws[q1]? = some (a, .inl (cA, n1, .inl z1))) (ht : tys[t0]? = some (cA, .int)) {sp dp n : Int32} (a1 b1 k1 : Nat) (hsp : sp = nI a1) (hdp : dp = nI b1) (hnn : n = nI k1) (h4 : a1 + k1 ≤ n0) (h5 : b1 + k1 ≤ n1) (h6 : n0 < 2 ^ 31) (h7 : n1 < 2 ^ 31)
    (hframes : 1 ≤ R.frames) (hlocals : (rest.map fun v => v.category).sum + (nativeFrameWords "java/lang/System" "arraycopy" 5 + 11) ≤ R.locals) (hdg : decode cc pc = .ok (.invokestatic index, 3))
    (kk : ∀ (H1 : Heap) (locs1 : List Loc), kw D cl tys L s H0 f0 (ws.set q1 (a, .inl (cA, n1, .inl (va_cpy z0 z1 a1 b1 k1)))) H1 locs1 → W p l e R s m args below meth c H1 locs1 cells slots Q (F0 m (pc + 3) ls rest)) : W p l e R s m args below meth c H locs cells slots Q (F0 m pc ls (.int n :: .int dp :: .ref a :: .int sp :: .ref a0 :: rest)) := by
  obtain ⟨f, g1, g2⟩ := hw
  obtain ⟨x1, x2⟩ := g2.1 q0 _ hi0
  obtain ⟨y1, y2⟩ := g2.1 q1 _ hi1
  exact g_copyi hexec hb hml hown hlink hnat hstat hini g1 t0 x1 y1 x2 y2 ht a1 b1 k1 hsp hdp hnn h4 h5 h6 h7 hframes hlocals hdg (fun H1 locs1 h => kk H1 locs1 ⟨_, h, kn_put g2 hi1⟩)
end KM3
end
section
-- ===== bits of longs: families wb_, g_, pf_ of kit/laws/BITS.to-paste.lean.txt =====
theorem wb_tb (n : Nat) : (lN n).toBitVec = BitVec.ofNat 64 n := rfl
theorem wb_inj {a b : Int64} (h : a.toBitVec = b.toBitVec) : a = b := Int64.toBitVec_inj.mp h
theorem wb_tn {n : Nat} (h : n < 2 ^ 64) : (lN n).toBitVec.toNat = n := by rw [wb_tb, BitVec.toNat_ofNat, Nat.mod_eq_of_lt h]
theorem wb_of (x : Int64) : ∃ n, n < 2 ^ 64 ∧ x = lN n := ⟨x.toBitVec.toNat, x.toBitVec.isLt, wb_inj (by rw [wb_tb]; simp)⟩
theorem wb_of32 (x : Int32) : ∃ n, n < 2 ^ 32 ∧ x = nI n := ⟨x.toBitVec.toNat, x.toBitVec.isLt, Int32.toBitVec_inj.mp (by show _ = BitVec.ofNat 32 _; simp)⟩
theorem wb_c : ∀ k, k < 64 → ((nI k).toInt64 &&& 63) = lN k := by decide +kernel
theorem wb_cu : ∀ k, k < 64 → ((nI k).toInt64.toUInt64 &&& Int64.toUInt64 63) = UInt64.ofNat k := by decide +kernel
theorem wb_sm : ∀ k, k < 64 → (BitVec.ofNat 64 k).smod 64 = BitVec.ofNat 64 k := by decide +kernel
theorem wb_pw {a b : Nat} (h : a ≤ b) : 2 ^ b = 2 ^ a * 2 ^ (b - a) := by rw [← Nat.pow_add]; congr 1; omega
theorem wb_lt2 {a b : Nat} (h : a < b) : 2 ^ a < 2 ^ b := Nat.pow_lt_pow_right (by decide) h
theorem wb_mod (n : Nat) : lN n = lN (n % 2 ^ 64) := wb_inj (by rw [wb_tb, wb_tb]; apply BitVec.eq_of_toNat_eq; rw [BitVec.toNat_ofNat, BitVec.toNat_ofNat, Nat.mod_mod])
theorem wb_shl (n : Nat) {k : Nat} (hk : k < 64) : lN n <<< ((nI k).toInt64 &&& 63) = lN (n * 2 ^ k) := by
  rw [wb_c k hk]
  apply wb_inj
  rw [Int64.toBitVec_shiftLeft, wb_tb, wb_tb, wb_tb, wb_sm k hk]
  apply BitVec.eq_of_toNat_eq
  rw [BitVec.shiftLeft_eq', BitVec.toNat_shiftLeft, BitVec.toNat_ofNat, BitVec.toNat_ofNat, BitVec.toNat_ofNat, Nat.mod_eq_of_lt (show k < 2 ^ 64 by omega), Nat.shiftLeft_eq, Nat.mul_mod, Nat.mod_mod, ← Nat.mul_mod]
theorem wb_or {a b : Nat} (ha : a < 2 ^ 64) (hb : b < 2 ^ 64) : lN a ||| lN b = lN (a ||| b) := by
  apply wb_inj
  rw [Int64.toBitVec_or, wb_tb, wb_tb, wb_tb]
  apply BitVec.eq_of_toNat_eq
  rw [BitVec.toNat_or, BitVec.toNat_ofNat, BitVec.toNat_ofNat, BitVec.toNat_ofNat, Nat.mod_eq_of_lt ha, Nat.mod_eq_of_lt hb, Nat.mod_eq_of_lt (Nat.or_lt_two_pow ha hb)]
theorem u_tn {n : Nat} (h : n < 2 ^ 64) : (UInt64.ofNat n).toNat = n := Nat.mod_eq_of_lt h
theorem gl_or {k p a b : Nat} (hp : 2 ^ k = p) (ha : a < p) (h : b * p + a < 2 ^ 64) : lN (b * p) ||| lN a = lN (b * p + a) := by
  subst hp
  have h1 : b * 2 ^ k ||| a = b * 2 ^ k + a := by rw [← Nat.shiftLeft_eq, Nat.shiftLeft_add_eq_or_of_lt ha]
  have h3 : UInt64.ofNat (b * 2 ^ k) ||| UInt64.ofNat a = UInt64.ofNat (b * 2 ^ k + a) := UInt64.toNat_inj.mp (by rw [UInt64.toNat_or, u_tn (by omega), u_tn (by omega), u_tn h, h1])
  have h2 := congrArg UInt64.toInt64 h3
  exact h2
theorem pf_lI {a : Nat} (h : a < 2 ^ 63) : (lN a).toInt = (a : Int) := lg_ofNat_toInt h
theorem pf_shr {a d : Nat} {D : Int64} (hD : (D.toBitVec.smod 64).toNat = d) (h : a < 2 ^ 62) : lN a >>> D = lN (a / 2 ^ d) := by
  have hd : a / 2 ^ d ≤ a := Nat.div_le_self _ _
  apply Int64.toInt_inj.mp
  have e : (lN a >>> D).toInt = (lN a).toInt >>> d := by
    rw [← hD]
    exact BitVec.toInt_sshiftRight ..
  rw [e, Int.shiftRight_eq_div_pow, pf_lI (by omega), pf_lI (by omega)]
  rfl
end
section
-- ===== what all walks share: classes, kinds of arrays, a method's beginning, calls =====
abbrev cls : List vw_C := [(R_A, F_A, 4), (R_Q, F_Q, 8), (R_P, F_P, 0), (R_T, F_T, 6), (R_W, F_W, 3), (R_M, F_M, 25), (R_N, F_N, 3)]
abbrev tyl (k : Nat → ClassId) : List (ClassId × FieldType) := [(k 0, .int), (k 1, .array .int), (k 2, .object "LineTables$Table"), (k 3, .object "LineTables$Whole"), (k 4, .object "LineTablesModel$Num"), (k 5, .boolean)]
abbrev rmN (k : Nat) : Room := { frames := k, cells := 0, slots := 0, locals := 30 * k }
theorem kn_of {L : List Nat} {f : Nat → va_E} {ws : va_W} (h : ∀ q ∈ ws, q.1 ∈ L ∧ f q.1 = q.2) (hn : (ws.map (fun q => q.1)).Nodup) : kn L f f ws := by
  refine ⟨fun k q hk => h q (List.mem_of_getElem? hk), fun i j x y hi hj hxy => ?_, fun _ _ => rfl⟩
  have h1 : (ws.map (fun q => q.1))[i]? = some x.1 := by rw [List.getElem?_map, hi]; rfl
  have h2 : (ws.map (fun q => q.1))[j]? = some x.1 := by rw [List.getElem?_map, hj, hxy]; rfl
  have hil := (List.getElem?_eq_some_iff.mp h1).1
  have hjl := (List.getElem?_eq_some_iff.mp h2).1
  exact (List.getElem_inj (h₀ := hil) (h₁ := hjl) hn).mp (by rw [(List.getElem?_eq_some_iff.mp h1).2, (List.getElem?_eq_some_iff.mp h2).2])
theorem kn_val {L : List Nat} {f0 f : Nat → va_E} {ws : va_W} (h : kn L f0 f ws) {q : Nat × va_E} (hq : q ∈ ws) : q.1 ∈ L ∧ f q.1 = q.2 := by
  obtain ⟨k, hk⟩ := List.getElem?_of_mem hq
  exact h.1 k q hk
theorem kn_nd {L : List Nat} {f0 f : Nat → va_E} {ws : va_W} (h : kn L f0 f ws) : (ws.map (fun q => q.1)).Nodup := by
  refine List.pairwise_iff_getElem.mpr (fun i j hi hj hij he => ?_)
  rw [List.length_map] at hi hj
  rw [List.getElem_map, List.getElem_map] at he
  have := h.2.1 i j ws[i] ws[j] (List.getElem?_eq_getElem hi) (List.getElem?_eq_getElem hj) he
  omega
theorem kn_off {L : List Nat} {f0 f : Nat → va_E} {ws : va_W} (h : kn L f0 f ws) {a : Nat} (ha : a ∉ ws.map (fun q => q.1)) : f a = f0 a :=
  h.2.2 a (fun k e hk => ha (List.mem_map.mpr ⟨(a, e), List.mem_of_getElem? hk, rfl⟩))
/-- behind a call that knew some of the cells -/
theorem kn_join {L : List Nat} {f0 f f' : Nat → va_E} {ws ws' wc : va_W} (hk : kn L f0 f ws) (h : kn L f f' wc) (hsub : ∀ q ∈ wc, q.1 ∈ ws.map (fun q => q.1)) (ha : ws'.map (fun q => q.1) = ws.map (fun q => q.1)) (hv : ∀ q ∈ ws', f' q.1 = q.2) : kn L f0 f' ws' := by
  have hnd := kn_nd hk
  refine ⟨fun k q hq => ⟨?_, hv q (List.mem_of_getElem? hq)⟩, fun i j x y hi hj hxy => ?_, fun a h9 => ?_⟩
  · have h1 : q.1 ∈ ws'.map (fun q => q.1) := List.mem_map.mpr ⟨q, List.mem_of_getElem? hq, rfl⟩
    rw [ha] at h1
    obtain ⟨q2, h2, h3⟩ := List.mem_map.mp h1
    rw [← h3]
    exact (kn_val hk h2).1
  · have h1 : (ws'.map (fun q => q.1))[i]? = some x.1 := by rw [List.getElem?_map, hi]; rfl
    have h2 : (ws'.map (fun q => q.1))[j]? = some x.1 := by rw [List.getElem?_map, hj, hxy]; rfl
    have hil := (List.getElem?_eq_some_iff.mp h1).1
    have hjl := (List.getElem?_eq_some_iff.mp h2).1
    exact (List.getElem_inj (h₀ := hil) (h₁ := hjl) (by rw [ha]; exact hnd)).mp (by rw [(List.getElem?_eq_some_iff.mp h1).2, (List.getElem?_eq_some_iff.mp h2).2])
  · have h1 : a ∉ ws.map (fun q => q.1) := fun hm => by
      rw [← ha] at hm
      obtain ⟨q, hq, e⟩ := List.mem_map.mp hm
      obtain ⟨k, hk⟩ := List.getElem?_of_mem hq
      exact h9 k q.2 (by rw [hk, ← e])
    have h2 : a ∉ wc.map (fun q => q.1) := fun hm => by
      obtain ⟨q, hq, e⟩ := List.mem_map.mp hm
      exact h1 (by rw [← e]; exact hsub q hq)
    rw [kn_off h h2, kn_off hk h1]
theorem kn_trans {L : List Nat} {f0 f f' : Nat → va_E} {ws ws' : va_W} (hk : kn L f0 f ws) (h : kn L f f' ws') (ha : ws'.map (fun q => q.1) = ws.map (fun q => q.1)) : kn L f0 f' ws' :=
  kn_join hk h (fun q hq => by rw [← ha]; exact List.mem_map.mpr ⟨q, hq, rfl⟩) ha (fun q hq => (kn_val h hq).2)
/-- some of the known cells -/
theorem kn_sub {L : List Nat} {f0 f : Nat → va_E} {ws ws' : va_W} (h : kn L f0 f ws) (is : List Nat) (hn : va_nd is = true) (hs : is.map (fun i => ws[i]?) = ws'.map some) : kn L f f ws' := by
  refine ⟨fun k q hk => ?_, (va_D.sub (A := fun _ => True) ⟨h.2.1, fun _ _ _ => trivial⟩ is hn hs).1, fun _ _ => rfl⟩
  have h1 : (is.map (fun i => ws[i]?))[k]? = some (some q) := by rw [hs, List.getElem?_map, hk]; rfl
  rw [List.getElem?_map] at h1
  cases hi : is[k]? with
  | none => rw [hi] at h1; cases h1
  | some i => rw [hi] at h1; exact h.1 i q (Option.some.inj h1)
section BASE
variable {p : Program} {l : Launch} {e : Env} {R : Room} {s : State} {m : MethodId} {args : Array Value} {below : List Frame} {meth : Method} {c : Code} {H : Heap} {locs : List Loc} {cells slots : Nat} {Q : State → Prop}
variable {cc : ByteArray} {pc nL : Nat} {ls : Array Slot} {rest st0 : List Value} {D : va_G} {cl : List vw_C} {tys : List (ClassId × FieldType)} {H0 : Heap} {L : List Nat} {f : Nat → va_E} {own : String}
theorem l_top {x y : Int32} (h : x = y) (k : W p l e R s m args below meth c H locs cells slots Q (F0 m pc ls (.int y :: rest))) : W p l e R s m args below meth c H locs cells slots Q (F0 m pc ls (.int x :: rest)) := h ▸ k
theorem l_topl {x y : Int64} (h : x = y) (k : W p l e R s m args below meth c H locs cells slots Q (F0 m pc ls (.long y :: rest))) : W p l e R s m args below meth c H locs cells slots Q (F0 m pc ls (.long x :: rest)) := h ▸ k
/-- a method that makes nothing, from its beginning -/
theorem mk_met {y : MethodName} {n : Nat} {ret : Option FieldType} {rm : Room} {as : List Value} {Qc : Array Value → State → Outcome → State → Prop} {free : Addr → Prop} (hy : plainName y.cls = true) (hlen : (lg_sl as).length ≤ n)
    (body : ∀ (p : Program) (e : Env) (s : State) (m : MethodId) (below : List Frame) (meth : Method) (c : Code) (ls : Array Slot), CallFix p m c cc n s as.toArray G y.cls → meth.sig.returnType = ret → meth.locks = false → gw D cl tys L s s.heap f s.heap [] → lv_has ls n (lv_args 0 as) →
      W p l e rm s m as.toArray below meth c s.heap [] 0 0 (MQ below Qc as.toArray s 0 0 free) (F0 m 0 ls [])) : Met l y (Cond.code y cc n ret :: G) rm (mpre D cl tys L f as) Qc 0 0 free := by
  refine Met.ofW (cc := cc) (maxL := n) (ret := ret) hy rfl ?_
  intro p e s m args below meth c s₁ B hml hv
  obtain ⟨rfl, hw⟩ := g_start hv
  have hts := atoms_spec (ws := Cond.code y cc n ret :: G) B.pre
  have hown : s.vm.findClass y.cls = some m.cls := findClass_of_methodNamed B.named
  rw [lg_entry_eq]
  exact body p e s m below meth c _ ⟨B.exec, B.bytes, hml, hown, fun w h => hts w (List.mem_cons_of_mem _ h)⟩ B.returns B.notSynchronized hw (lv_entry as hlen)
theorem goodC {own C : String} {i : Nat} {y : MethodName} {c' : ByteArray} {n' : Nat} {r' : Option FieldType} (h1 : Cond.methodLink own i y ∈ G) (h2 : Cond.instanceMethod y ∈ G) (h3 : Cond.selects C y y ∈ G) (h4 : Cond.initialized C ∈ G) (h5 : Cond.code y c' n' r' ∈ G) : GoodIn G (wsV own i C y (Cond.code y c' n' r' :: G)) := goodG (fun w hw => by
  unfold wsV at hw
  rcases List.mem_append.mp hw with h | h
  · simp only [List.mem_cons, List.not_mem_nil, or_false] at h
    rcases h with rfl | rfl | rfl | rfl <;> assumption
  · rcases List.mem_cons.mp h with rfl | h
    · exact h5
    · exact h)
theorem goodS {own : String} {i : Nat} {y : MethodName} {c' : ByteArray} {n' : Nat} {r' : Option FieldType} (h1 : Cond.methodLink own i y ∈ G) (h2 : Cond.static y ∈ G) (h4 : Cond.initialized own ∈ G) (h5 : Cond.code y c' n' r' ∈ G) : GoodIn G (wsS own i y (Cond.code y c' n' r' :: G)) := goodG (fun w hw => by
  unfold wsS at hw
  rcases List.mem_append.mp hw with h | h
  · simp only [List.mem_cons, List.not_mem_nil, or_false] at h
    rcases h with rfl | rfl | rfl <;> assumption
  · rcases List.mem_cons.mp h with rfl | h
    · exact h5
    · exact h)
/-- invokevirtual of a method that makes nothing -/
theorem c_V {y : MethodName} {c' : ByteArray} {n' np index ci : Nat} {r' : Option FieldType} {rm : Room} {b : Nat} {As : List Value} {Qc : Array Value → State → Outcome → State → Prop} {free : Addr → Prop} {fs : List Value} {C : String} {T : u_T} {N : Nat} (S : CallFix p m c cc nL s args G own)
    (hM : Met l y (Cond.code y c' n' r' :: G) rm (mpre D cl tys L f (.ref b :: As)) Qc 0 0 free) (hw : gw D cl tys L s H0 f H locs) (hbL : b ∈ L) (he : f b = .inr (ci, fs)) (hc : cl[ci]? = some (C, T, N))
    (h1 : Cond.methodLink own index y ∈ G) (h2 : Cond.instanceMethod y ∈ G) (h3 : Cond.selects C y y ∈ G) (h4 : Cond.initialized C ∈ G) (h5 : Cond.code y c' n' r' ∈ G)
    (hd : y.cls = C ∧ y.cls ≠ "java/lang/invoke/MethodHandle" ∧ y.cls ≠ "java/lang/invoke/VarHandle" ∧ (parseMethodDescriptor y.desc).map (fun d => d.parameters.length) = some np) (hn : As.length = np)
    (hrm : rm.cells = 0 ∧ rm.slots = 0 ∧ rm.frames + 1 ≤ R.frames ∧ 8 + (n' + 11) + rm.locals ≤ R.locals) (hls : ls.size = nL) (hst : st0 = As.reverse ++ .ref b :: rest) (hW : (rest.map fun v => v.category).sum ≤ 8) (hdg : decode cc pc = .ok (.invokevirtual index, 3)) (hf : cells ≤ R.cells ∧ slots ≤ R.slots) :
    va_Run p l e R s m args below meth c H locs cells slots 0 0 (F0 m pc ls st0) rest (Qc (Value.ref b :: As).toArray) free :=
  va_runV S hM (cwV np S.2.2.2.2 (goodC h1 h2 h3 h4 h5) rfl hrm.1 hrm.2.1 hd hrm.2.2) ⟨mpre_blind, g_recv hw hbL he hc, g_pre hw⟩ rfl hn hls hst (lv_room hW) hdg hf
/-- invokestatic of a method of the same class that makes nothing -/
theorem c_S {y : MethodName} {c' : ByteArray} {n' np index : Nat} {r' : Option FieldType} {rm : Room} {As : List Value} {Qc : Array Value → State → Outcome → State → Prop} {free : Addr → Prop} (S : CallFix p m c cc nL s args G own)
    (hM : Met l y (Cond.code y c' n' r' :: G) rm (mpre D cl tys L f As) Qc 0 0 free) (hw : gw D cl tys L s H0 f H locs)
    (h1 : Cond.methodLink own index y ∈ G) (h2 : Cond.static y ∈ G) (h4 : Cond.initialized own ∈ G) (h5 : Cond.code y c' n' r' ∈ G)
    (hd : y.cls = own ∧ y.cls ≠ "java/lang/invoke/MethodHandle" ∧ y.cls ≠ "java/lang/invoke/VarHandle" ∧ (parseMethodDescriptor y.desc).map (fun d => d.parameters.length) = some np) (hn : As.length = np)
    (hrm : rm.cells = 0 ∧ rm.slots = 0 ∧ rm.frames + 1 ≤ R.frames ∧ 8 + (n' + 11) + rm.locals ≤ R.locals) (hls : ls.size = nL) (hst : st0 = As.reverse ++ rest) (hW : (rest.map fun v => v.category).sum ≤ 8) (hdg : decode cc pc = .ok (.invokestatic index, 3)) (hf : cells ≤ R.cells ∧ slots ≤ R.slots) :
    va_Run p l e R s m args below meth c H locs cells slots 0 0 (F0 m pc ls st0) rest (Qc As.toArray) free :=
  va_runS S hM (cwS np S.2.2.2.2 (goodS h1 h2 h4 h5) rfl hrm.1 hrm.2.1 hd hrm.2.2) ⟨mpre_blind, g_pre hw⟩ rfl hn hls hst (lv_room hW) hdg hf
/-- a JDK's method that makes nothing, from its beginning -/
theorem mk_metF {y : MethodName} {n : Nat} {ret : Option FieldType} {rm : Room} {as : List Value} {Qc : Array Value → State → Outcome → State → Prop} {free : Addr → Prop} (hy : plainFor y = true) (hlen : (lg_sl as).length ≤ n)
    (body : ∀ (p : Program) (e : Env) (s : State) (m : MethodId) (below : List Frame) (meth : Method) (c : Code) (ls : Array Slot), CallFix p m c cc n s as.toArray G y.cls → meth.sig.returnType = ret → meth.locks = false → gw D cl tys L s s.heap f s.heap [] → lv_has ls n (lv_args 0 as) →
      W p l e rm s m as.toArray below meth c s.heap [] 0 0 (MQ below Qc as.toArray s 0 0 free) (F0 m 0 ls [])) : Met l y (Cond.code y cc n ret :: G) rm (mpre D cl tys L f as) Qc 0 0 free := by
  refine va_MetF (cc := cc) (maxL := n) (ret := ret) hy rfl ?_
  intro p e s m args below meth c s₁ B hml hv
  obtain ⟨rfl, hw⟩ := g_start hv
  have hts := atoms_spec (ws := Cond.code y cc n ret :: G) B.pre
  have hown : s.vm.findClass y.cls = some m.cls := findClass_of_methodNamed B.named
  rw [lg_entry_eq]
  exact body p e s m below meth c _ ⟨B.exec, B.bytes, hml, hown, fun w h => hts w (List.mem_cons_of_mem _ h)⟩ B.returns B.notSynchronized hw (lv_entry as hlen)
theorem goodX {own : String} {i : Nat} {y : MethodName} {c' : ByteArray} {n' : Nat} {r' : Option FieldType} (h1 : Cond.methodLink own i y ∈ G) (h2 : Cond.static y ∈ G) (h4 : Cond.initialized y.cls ∈ G) (h5 : Cond.code y c' n' r' ∈ G) : GoodIn G (va_wsS own i y (Cond.code y c' n' r' :: G)) := goodG (fun w hw => by
  unfold va_wsS at hw
  rcases List.mem_append.mp hw with h | h
  · simp only [List.mem_cons, List.not_mem_nil, or_false] at h
    rcases h with rfl | rfl | rfl <;> assumption
  · rcases List.mem_cons.mp h with rfl | h
    · exact h5
    · exact h)
/-- invokestatic of a method of any class that makes nothing -/
theorem c_X {y : MethodName} {c' : ByteArray} {n' np index : Nat} {r' : Option FieldType} {rm : Room} {As : List Value} {Qc : Array Value → State → Outcome → State → Prop} {free : Addr → Prop} (S : CallFix p m c cc nL s args G own)
    (hM : Met l y (Cond.code y c' n' r' :: G) rm (mpre D cl tys L f As) Qc 0 0 free) (hw : gw D cl tys L s H0 f H locs)
    (h1 : Cond.methodLink own index y ∈ G) (h2 : Cond.static y ∈ G) (h4 : Cond.initialized y.cls ∈ G) (h5 : Cond.code y c' n' r' ∈ G)
    (hd : y.cls ≠ "java/lang/invoke/MethodHandle" ∧ y.cls ≠ "java/lang/invoke/VarHandle" ∧ (parseMethodDescriptor y.desc).map (fun d => d.parameters.length) = some np) (hn : As.length = np)
    (hrm : rm.cells = 0 ∧ rm.slots = 0 ∧ rm.frames + 1 ≤ R.frames ∧ 8 + (n' + 11) + rm.locals ≤ R.locals) (hls : ls.size = nL) (hst : st0 = As.reverse ++ rest) (hW : (rest.map fun v => v.category).sum ≤ 8) (hdg : decode cc pc = .ok (.invokestatic index, 3)) (hf : cells ≤ R.cells ∧ slots ≤ R.slots) :
    va_Run p l e R s m args below meth c H locs cells slots 0 0 (F0 m pc ls st0) rest (Qc As.toArray) free :=
  va_runS S hM (va_cwS np S.2.2.2.2 (goodX h1 h2 h4 h5) rfl hrm.1 hrm.2.1 hd hrm.2.2) ⟨mpre_blind, g_pre hw⟩ rfl hn hls hst (lv_room hW) hdg hf
end BASE
theorem st_arraycopy : Cond.static arraycopyName ∈ G := st_X225
-- numbers: digits in arrays, whole numbers as ints and longs
def B30 : Nat := 1073741824
def nD (d : Nat → Nat) : Nat → Int32 := fun i => nI (d i)
theorem nD_upd (d : Nat → Nat) (k v : Nat) : upd (nD d) k (nI v) = nD (va_up d k v) := by
  funext j
  by_cases h : j = k
  · subst h
    show upd (nD d) j (nI v) j = nI (va_up d j v j)
    rw [pk_us, va_up_self]
  · show upd (nD d) k (nI v) j = nI (va_up d k v j)
    rw [pk_un h, va_up_ne d v h]
    rfl
theorem ii1 (a : Nat) : nI a + Int32.ofInt 1 = nI (a + 1) := nI_1 a
theorem nI_m1 (n : Nat) (h : 0 < n) : nI n - 1 = nI (n - 1) := by
  obtain ⟨k, rfl⟩ : ∃ k, n = k + 1 := ⟨n - 1, by omega⟩
  exact nI_pred k
end
section
-- ===== the JDK's small functions =====
set_option maxRecDepth 100000 in
set_option maxHeartbeats 4000000 in
theorem m_compare (l : Launch) (D : va_G) (k : Nat → ClassId) (L : List Nat) (f : Nat → va_E) (x y : Int32) : Mi l y_JI_compare (Cond.code y_JI_compare c_JI_compare 2 (some .int) :: G) (rmN 0) D cls (tyl k) L f [.int x, .int y] (fun r f' => f' = f ∧ r = if x < y then -1 else if x = y then 0 else 1) := by
  -- METHOD JI_compare | loc 0=x 1=y | ws
  refine mk_metF (by decide +kernel) (Nat.le_of_ble_eq_true rfl) (fun p e s m below meth c ls S hr hlocks hw hl => ?_)
  have hx := S.1
  have hb := S.2.1
  have hown : s.vm.findClass R_JI = some m.cls := S.2.2.2.1
  have hG := S.2.2.2.2
  have hl : lv_has ls 2 [(0, .int x), (1, .int y)] := hl
  have hg := hw
  refine lv_iload_n hx hb d_JI_compare_0 rfl (lv_at hl 0 rfl) ?_
  refine lv_iload_n hx hb d_JI_compare_1 rfl (lv_at hl 1 rfl) ?_
  refine lv_icmp_ge (tgt := 9) hx hb d_JI_compare_2 (by decide) (fun hc => ?_) (fun hc => ?_)
  · have h1 : ¬ x < y := Int32.not_lt.mpr hc
    refine lv_iload_n hx hb d_JI_compare_9 rfl (lv_at hl 0 rfl) ?_
    refine lv_iload_n hx hb d_JI_compare_10 rfl (lv_at hl 1 rfl) ?_
    refine lv_icmp_ne (tgt := 18) hx hb d_JI_compare_11 (by decide) (fun hc => ?_) (fun hc => ?_)
    · -- STK
      refine lv_iconst (v := 1) hx hb d_JI_compare_18 (by decide) ?_
      exact g_reti hx hb hr hlocks hg ⟨rfl, by rw [if_neg h1, if_neg hc]⟩ d_JI_compare_19
    · -- STK
      refine lv_iconst (v := 0) hx hb d_JI_compare_14 (by decide) ?_
      refine lv_goto (tgt := 19) hx hb d_JI_compare_15 (by decide) ?_
      exact g_reti hx hb hr hlocks hg ⟨rfl, by rw [if_neg h1, if_pos hc]⟩ d_JI_compare_19
  · have h1 : x < y := Int32.not_le.mp hc
    refine lv_iconst (v := (-1)) hx hb d_JI_compare_5 (by decide) ?_
    refine lv_goto (tgt := 19) hx hb d_JI_compare_6 (by decide) ?_
    exact g_reti hx hb hr hlocks hg ⟨rfl, by rw [if_pos h1]⟩ d_JI_compare_19
set_option maxRecDepth 100000 in
set_option maxHeartbeats 4000000 in
theorem m_abs (l : Launch) (D : va_G) (k : Nat → ClassId) (L : List Nat) (f : Nat → va_E) (x : Int32) : Mi l y_JM_abs (Cond.code y_JM_abs c_JM_abs 1 (some .int) :: G) (rmN 0) D cls (tyl k) L f [.int x] (fun r f' => f' = f ∧ r = if 0 ≤ x then x else -x) := by
  -- METHOD JM_abs | loc 0=x | ws
  refine mk_metF (by decide +kernel) (Nat.le_of_ble_eq_true rfl) (fun p e s m below meth c ls S hr hlocks hw hl => ?_)
  have hx := S.1
  have hb := S.2.1
  have hown : s.vm.findClass R_JM = some m.cls := S.2.2.2.1
  have hG := S.2.2.2.2
  have hl : lv_has ls 1 [(0, .int x)] := hl
  have hg := hw
  refine lv_iload_n hx hb d_JM_abs_0 rfl (lv_at hl 0 rfl) ?_
  refine lv_if_ge (tgt := 9) hx hb d_JM_abs_1 (by decide) (fun hc => ?_) (fun hc => ?_)
  · refine lv_iload_n hx hb d_JM_abs_9 rfl (lv_at hl 0 rfl) ?_
    exact g_reti hx hb hr hlocks hg ⟨rfl, by rw [if_pos hc]⟩ d_JM_abs_10
  · -- STK
    refine lv_iload_n hx hb d_JM_abs_4 rfl (lv_at hl 0 rfl) ?_
    refine lv_ineg hx hb d_JM_abs_5 ?_
    refine lv_goto (tgt := 10) hx hb d_JM_abs_6 (by decide) ?_
    exact g_reti hx hb hr hlocks hg ⟨rfl, by rw [if_neg hc]⟩ d_JM_abs_10
set_option maxRecDepth 100000 in
set_option maxHeartbeats 4000000 in
theorem m_max (l : Launch) (D : va_G) (k : Nat → ClassId) (L : List Nat) (f : Nat → va_E) (x y : Int32) : Mi l y_JM_max_1 (Cond.code y_JM_max_1 c_JM_max_1 2 (some .int) :: G) (rmN 0) D cls (tyl k) L f [.int x, .int y] (fun r f' => f' = f ∧ r = if x < y then y else x) := by
  -- METHOD JM_max_1 | loc 0=x 1=y | ws
  refine mk_metF (by decide +kernel) (Nat.le_of_ble_eq_true rfl) (fun p e s m below meth c ls S hr hlocks hw hl => ?_)
  have hx := S.1
  have hb := S.2.1
  have hown : s.vm.findClass R_JM = some m.cls := S.2.2.2.1
  have hG := S.2.2.2.2
  have hl : lv_has ls 2 [(0, .int x), (1, .int y)] := hl
  have hg := hw
  refine lv_iload_n hx hb d_JM_max_1_0 rfl (lv_at hl 0 rfl) ?_
  refine lv_iload_n hx hb d_JM_max_1_1 rfl (lv_at hl 1 rfl) ?_
  refine lv_icmp_lt (tgt := 9) hx hb d_JM_max_1_2 (by decide) (fun hc => ?_) (fun hc => ?_)
  · refine lv_iload_n hx hb d_JM_max_1_9 rfl (lv_at hl 1 rfl) ?_
    exact g_reti hx hb hr hlocks hg ⟨rfl, by rw [if_pos hc]⟩ d_JM_max_1_10
  · -- STK
    refine lv_iload_n hx hb d_JM_max_1_5 rfl (lv_at hl 0 rfl) ?_
    refine lv_goto (tgt := 10) hx hb d_JM_max_1_6 (by decide) ?_
    exact g_reti hx hb hr hlocks hg ⟨rfl, by rw [if_neg hc]⟩ d_JM_max_1_10
set_option maxRecDepth 100000 in
set_option maxHeartbeats 4000000 in
theorem m_min (l : Launch) (D : va_G) (k : Nat → ClassId) (L : List Nat) (f : Nat → va_E) (x y : Int32) : Mi l y_JM_min_1 (Cond.code y_JM_min_1 c_JM_min_1 2 (some .int) :: G) (rmN 0) D cls (tyl k) L f [.int x, .int y] (fun r f' => f' = f ∧ r = if y < x then y else x) := by
  -- METHOD JM_min_1 | loc 0=x 1=y | ws
  refine mk_metF (by decide +kernel) (Nat.le_of_ble_eq_true rfl) (fun p e s m below meth c ls S hr hlocks hw hl => ?_)
  have hx := S.1
  have hb := S.2.1
  have hown : s.vm.findClass R_JM = some m.cls := S.2.2.2.1
  have hG := S.2.2.2.2
  have hl : lv_has ls 2 [(0, .int x), (1, .int y)] := hl
  have hg := hw
  refine lv_iload_n hx hb d_JM_min_1_0 rfl (lv_at hl 0 rfl) ?_
  refine lv_iload_n hx hb d_JM_min_1_1 rfl (lv_at hl 1 rfl) ?_
  refine lv_icmp_gt (tgt := 9) hx hb d_JM_min_1_2 (by decide) (fun hc => ?_) (fun hc => ?_)
  · refine lv_iload_n hx hb d_JM_min_1_9 rfl (lv_at hl 1 rfl) ?_
    exact g_reti hx hb hr hlocks hg ⟨rfl, by rw [if_pos hc]⟩ d_JM_min_1_10
  · -- STK
    refine lv_iload_n hx hb d_JM_min_1_5 rfl (lv_at hl 0 rfl) ?_
    refine lv_goto (tgt := 10) hx hb d_JM_min_1_6 (by decide) ?_
    exact g_reti hx hb hr hlocks hg ⟨rfl, by rw [if_neg hc]⟩ d_JM_min_1_10
set_option maxRecDepth 100000 in
set_option maxHeartbeats 4000000 in
theorem m_floorMod (l : Launch) (D : va_G) (k : Nat → ClassId) (L : List Nat) (f : Nat → va_E) (a b : Int) (ha : rI a) (hb0 : 0 < b) (hb1 : rI b) : Mi l y_JM_floorMod (Cond.code y_JM_floorMod c_JM_floorMod 3 (some .int) :: G) (rmN 0) D cls (tyl k) L f [.int (zI a), .int (zI b)] (fun r f' => f' = f ∧ r = zI (a % b)) := by
  -- METHOD JM_floorMod | loc 0=x 1=y | ws
  refine mk_metF (by decide +kernel) (Nat.le_of_ble_eq_true rfl) (fun p e s m below meth c ls S hr hlocks hw hl => ?_)
  have hx := S.1
  have hb := S.2.1
  have hown : s.vm.findClass R_JM = some m.cls := S.2.2.2.1
  have hG := S.2.2.2.2
  have hl : lv_has ls 3 [(0, .int (zI a)), (1, .int (zI b))] := hl
  have hg := hw
  have hbn : ¬ zI b = 0 := fun h => by have := (zI_eq hb1 (b := 0) ⟨by decide, by decide⟩).mp h; omega
  refine lv_iload_n hx hb d_JM_floorMod_0 rfl (lv_at hl 0 rfl) ?_
  refine lv_iload_n hx hb d_JM_floorMod_1 rfl (lv_at hl 1 rfl) ?_
  refine lv_irem hx hb d_JM_floorMod_2 hbn ?_
  refine l_top (zI_rem ha hb1 hb0) ?_
  have hemod : a % b = if 0 ≤ a ∨ b ∣ a then a.tmod b else a.tmod b + b.natAbs := by
    rw [Int.emod_eq_tmod]
    by_cases h : 0 ≤ a ∨ b ∣ a
    · rw [if_pos h, if_pos h]; exact Int.add_zero _
    · rw [if_neg h, if_neg h]
  have hnat : (b.natAbs : Int) = b := by omega
  have hmr : rI (a.tmod b) := by
    have h1 := Int.tmod_lt_of_pos a hb0
    have h2 : -b < a.tmod b := by
      rcases Int.lt_or_le a 0 with h | h
      · have := Int.tmod_lt_of_pos (-a) hb0
        rw [Int.neg_tmod] at this
        omega
      · have := Int.tmod_nonneg b h
        omega
    have := hb1.2
    exact ⟨by omega, by omega⟩
  have hsg : (0 ≤ zI a ^^^ zI b) ↔ 0 ≤ a := by
    have hbp : (zI b).toBitVec.msb = false := by
      rw [BitVec.msb_eq_toInt]
      show decide ((zI b).toInt < 0) = false
      rw [zI_t hb1]
      exact decide_eq_false (by omega)
    have h1 : (zI a ^^^ zI b).toBitVec.msb = (zI a).toBitVec.msb := by
      rw [Int32.toBitVec_xor, BitVec.msb_xor, hbp, Bool.xor_false]
    have h2 : ∀ x : Int32, 0 ≤ x ↔ x.toBitVec.msb = false := by
      intro x
      rw [BitVec.msb_eq_toInt, Int32.le_iff_toInt_le]
      show (0 : Int) ≤ x.toInt ↔ decide (x.toInt < 0) = false
      rw [decide_eq_false_iff_not]
      omega
    rw [h2, h1, ← h2, z_0, zI_le ⟨by decide, by decide⟩ ha]
  refine lv_istore_n hx hb d_JM_floorMod_3 rfl hl (by decide) rfl (fun ls hl => ?_)
  refine lv_iload_n hx hb d_JM_floorMod_4 rfl (lv_at hl 1 rfl) ?_
  refine lv_iload_n hx hb d_JM_floorMod_5 rfl (lv_at hl 2 rfl) ?_
  refine lv_ixor hx hb d_JM_floorMod_6 ?_
  refine lv_if_ge (tgt := 18) hx hb d_JM_floorMod_7 (by decide) (fun hc => ?_) (fun hc => ?_)
  · have h0 : 0 ≤ a := hsg.mp hc
    refine lv_iload_n hx hb d_JM_floorMod_18 rfl (lv_at hl 0 rfl) ?_
    exact g_reti hx hb hr hlocks hg ⟨rfl, by rw [hemod, if_pos (Or.inl h0)]⟩ d_JM_floorMod_19
  · have h0 : ¬ 0 ≤ a := fun h => hc (hsg.mpr h)
    refine lv_iload_n hx hb d_JM_floorMod_10 rfl (lv_at hl 0 rfl) ?_
    refine lv_if_eq (tgt := 18) hx hb d_JM_floorMod_11 (by decide) (fun hc => ?_) (fun hc => ?_)
    · have hz : a.tmod b = 0 := (zI_eq hmr (b := 0) ⟨by decide, by decide⟩).mp hc
      refine lv_iload_n hx hb d_JM_floorMod_18 rfl (lv_at hl 0 rfl) ?_
      exact g_reti hx hb hr hlocks hg ⟨rfl, by rw [hemod, if_pos (Or.inr (Int.dvd_of_tmod_eq_zero hz))]⟩ d_JM_floorMod_19
    · have hz : ¬ b ∣ a := fun h => hc (by rw [Int.tmod_eq_zero_of_dvd h]; rfl)
      refine lv_iload_n hx hb d_JM_floorMod_14 rfl (lv_at hl 0 rfl) ?_
      refine lv_iload_n hx hb d_JM_floorMod_15 rfl (lv_at hl 2 rfl) ?_
      refine lv_iadd hx hb d_JM_floorMod_16 ?_
      refine l_top (zI_add _ _) ?_
      exact g_reti hx hb hr hlocks hg ⟨rfl, by rw [hemod, if_neg (by rintro (h | h); exact h0 h; exact hz h), hnat]⟩ d_JM_floorMod_17
end
section
-- ===== the JDK's functions: fills, longs, signs, leading zeros =====
section FILL
variable {p : Program} {l : Launch} {e : Env} {R : Room} {s : State} {m : MethodId} {args : Array Value} {below : List Frame} {meth : Method} {c : Code} {cells slots : Nat} {Q : State → Prop} {D : va_G} {k : Nat → ClassId} {L : List Nat} {f0 : Nat → va_E} {H0 : Heap}
theorem fill_up {v : Int32} {z : Nat → Int32} {lo i : Nat} (h : lo ≤ i) : upd (fun t => if lo ≤ t ∧ t < i then v else z t) i v = fun t => if lo ≤ t ∧ t < i + 1 then v else z t := by
  funext t
  by_cases e : t = i
  · subst e
    rw [pk_us, if_pos (by omega)]
  · rw [pk_un e]
    by_cases e2 : lo ≤ t ∧ t < i
    · rw [if_pos e2, if_pos (by omega)]
    · rw [if_neg e2, if_neg (by omega)]
set_option maxRecDepth 100000 in
set_option maxHeartbeats 4000000 in
theorem w_JA_fill_0 (S : CallFix p m c c_JA_fill_0 4 s args G R_JA) {a n  : Nat} {v : Int32} {z : Nat → Int32} (hn : n < 2 ^ 31) : ∀ (j i : Nat) (H : Heap) (locs : List Loc) (ls : Array Slot), i + j = n → 0 ≤ i → lv_has ls 4 [(0, .ref a), (1, .int v), (2, .int (nI i)), (3, .int (nI n))] → kw D cls (tyl k) L s H0 f0 [(a, .inl (k 0, n, .inl (fun t => if 0 ≤ t ∧ t < i then v else z t)))] H locs →
    (∀ (H : Heap) (locs : List Loc) (ls : Array Slot), kw D cls (tyl k) L s H0 f0 [(a, .inl (k 0, n, .inl (fun t => if 0 ≤ t ∧ t < n then v else z t)))] H locs → W p l e R s m args below meth c H locs cells slots Q (F0 m 20 ls [])) →
    W p l e R s m args below meth c H locs cells slots Q (F0 m 5 ls []) := by
  have hx := S.1
  have hb := S.2.1
  have hown : s.vm.findClass R_JA = some m.cls := S.2.2.2.1
  have hG := S.2.2.2.2
  intro j
  induction j with
  | zero =>
    intro i H locs ls hij hlo hl hw kx
    have hij : i = n := by omega
    subst hij
    -- METHOD JA_fill_0 | loc 0=a 1=v 2=i 3=n | ws a
    refine lv_iload_n hx hb d_JA_fill_0_5 rfl (lv_at hl 2 rfl) ?_
    refine lv_iload_n hx hb d_JA_fill_0_6 rfl (lv_at hl 3 rfl) ?_
    refine lv_icmp_ge (tgt := 20) hx hb d_JA_fill_0_7 (by decide) (fun hc => ?_) (fun hc => ?_)
    · exact kx H locs ls hw
    · exact absurd (nI_le (Nat.le_refl _) (by omega)) hc
  | succ j ih =>
    intro i H locs ls hij hlo hl hw kx
    -- METHOD JA_fill_0 | loc 0=a 1=v 2=i 3=n | ws a
    refine lv_iload_n hx hb d_JA_fill_0_5 rfl (lv_at hl 2 rfl) ?_
    refine lv_iload_n hx hb d_JA_fill_0_6 rfl (lv_at hl 3 rfl) ?_
    refine lv_icmp_ge (tgt := 20) hx hb d_JA_fill_0_7 (by decide) (fun hc => ?_) (fun hc => ?_)
    · exact absurd hc (nI_ge (by omega) (by omega))
    · -- STK
      refine lv_aload_n hx hb d_JA_fill_0_10 rfl (lv_at hl 0 rfl) ?_
      refine lv_iload_n hx hb d_JA_fill_0_11 rfl (lv_at hl 2 rfl) ?_
      refine lv_iload_n hx hb d_JA_fill_0_12 rfl (lv_at hl 1 rfl) ?_
      refine k_iast hx hb hw 0 0 rfl rfl (i) (rfl) (by omega) (by first | decide | omega) d_JA_fill_0_13 (fun H locs hw => ?_)
      refine lv_iinc (k := 2) hx hb d_JA_fill_0_14 hl rfl (ii1 i) (by decide) rfl (fun ls hl => ?_)
      refine lv_goto (tgt := 5) hx hb d_JA_fill_0_17 (by decide) ?_
      have hl := lv_sub hl [1, 2, 0, 3] rfl
      rw [show [(a, (Sum.inl (k 0, n, Sum.inl (fun t => if 0 ≤ t ∧ t < i then v else z t)) : va_E))].set 0 (a, Sum.inl (k 0, n, Sum.inl (upd (fun t => if 0 ≤ t ∧ t < i then v else z t) i v))) = [(a, Sum.inl (k 0, n, Sum.inl (upd (fun t => if 0 ≤ t ∧ t < i then v else z t) i v)))] from rfl, fill_up hlo] at hw
      exact ih (i + 1) H locs ls (by omega) (by omega) hl hw kx
set_option maxRecDepth 100000 in
set_option maxHeartbeats 4000000 in
theorem w_JA_fill_1 (S : CallFix p m c c_JA_fill_1 5 s args G R_JA) {a n lo hi : Nat} {v : Int32} {z : Nat → Int32} (hn : n < 2 ^ 31) (hhi : hi ≤ n) : ∀ (j i : Nat) (H : Heap) (locs : List Loc) (ls : Array Slot), i + j = hi → lo ≤ i → lv_has ls 5 [(0, .ref a), (1, .int (nI lo)), (2, .int (nI hi)), (3, .int v), (4, .int (nI i))] → kw D cls (tyl k) L s H0 f0 [(a, .inl (k 0, n, .inl (fun t => if lo ≤ t ∧ t < i then v else z t)))] H locs →
    (∀ (H : Heap) (locs : List Loc) (ls : Array Slot), kw D cls (tyl k) L s H0 f0 [(a, .inl (k 0, n, .inl (fun t => if lo ≤ t ∧ t < hi then v else z t)))] H locs → W p l e R s m args below meth c H locs cells slots Q (F0 m 27 ls [])) →
    W p l e R s m args below meth c H locs cells slots Q (F0 m 10 ls []) := by
  have hx := S.1
  have hb := S.2.1
  have hown : s.vm.findClass R_JA = some m.cls := S.2.2.2.1
  have hG := S.2.2.2.2
  intro j
  induction j with
  | zero =>
    intro i H locs ls hij hlo hl hw kx
    have hij : i = hi := by omega
    subst hij
    -- METHOD JA_fill_1 | loc 0=a 1=lo 2=hi 3=v 4=i | ws a
    refine lv_iload hx hb d_JA_fill_1_10 (lv_at hl 4 rfl) ?_
    refine lv_iload_n hx hb d_JA_fill_1_12 rfl (lv_at hl 2 rfl) ?_
    refine lv_icmp_ge (tgt := 27) hx hb d_JA_fill_1_13 (by decide) (fun hc => ?_) (fun hc => ?_)
    · exact kx H locs ls hw
    · exact absurd (nI_le (Nat.le_refl _) (by omega)) hc
  | succ j ih =>
    intro i H locs ls hij hlo hl hw kx
    -- METHOD JA_fill_1 | loc 0=a 1=lo 2=hi 3=v 4=i | ws a
    refine lv_iload hx hb d_JA_fill_1_10 (lv_at hl 4 rfl) ?_
    refine lv_iload_n hx hb d_JA_fill_1_12 rfl (lv_at hl 2 rfl) ?_
    refine lv_icmp_ge (tgt := 27) hx hb d_JA_fill_1_13 (by decide) (fun hc => ?_) (fun hc => ?_)
    · exact absurd hc (nI_ge (by omega) (by omega))
    · -- STK
      refine lv_aload_n hx hb d_JA_fill_1_16 rfl (lv_at hl 0 rfl) ?_
      refine lv_iload hx hb d_JA_fill_1_17 (lv_at hl 4 rfl) ?_
      refine lv_iload_n hx hb d_JA_fill_1_19 rfl (lv_at hl 3 rfl) ?_
      refine k_iast hx hb hw 0 0 rfl rfl (i) (rfl) (by omega) (by first | decide | omega) d_JA_fill_1_20 (fun H locs hw => ?_)
      refine lv_iinc (k := 4) hx hb d_JA_fill_1_21 hl rfl (ii1 i) (by decide) rfl (fun ls hl => ?_)
      refine lv_goto (tgt := 10) hx hb d_JA_fill_1_24 (by decide) ?_
      have hl := lv_sub hl [1, 2, 3, 4, 0] rfl
      rw [show [(a, (Sum.inl (k 0, n, Sum.inl (fun t => if lo ≤ t ∧ t < i then v else z t)) : va_E))].set 0 (a, Sum.inl (k 0, n, Sum.inl (upd (fun t => if lo ≤ t ∧ t < i then v else z t) i v))) = [(a, Sum.inl (k 0, n, Sum.inl (upd (fun t => if lo ≤ t ∧ t < i then v else z t) i v)))] from rfl, fill_up hlo] at hw
      exact ih (i + 1) H locs ls (by omega) (by omega) hl hw kx
end FILL
set_option maxRecDepth 100000 in
set_option maxHeartbeats 4000000 in
theorem m_fill (l : Launch) (D : va_G) (k : Nat → ClassId) (L : List Nat) (f : Nat → va_E) (a n : Nat) (v : Int32) (z : Nat → Int32) (hn : n < 2 ^ 31) (hk : kn L f f [(a, .inl (k 0, n, .inl z))]) : Mv l y_JA_fill_0 (Cond.code y_JA_fill_0 c_JA_fill_0 4 none :: G) (rmN 0) D cls (tyl k) L f [.ref a, .int v] (fun f' => kn L f f' [(a, .inl (k 0, n, .inl (fun t => if 0 ≤ t ∧ t < n then v else z t)))]) := by
  -- METHOD JA_fill_0 | loc 0=a 1=v | ws a
  refine mk_metF (by decide +kernel) (Nat.le_of_ble_eq_true rfl) (fun p e s m below meth c ls S hr hlocks hw hl => ?_)
  have hx := S.1
  have hb := S.2.1
  have hown : s.vm.findClass R_JA = some m.cls := S.2.2.2.1
  have hG := S.2.2.2.2
  have hl : lv_has ls 4 [(0, .ref a), (1, .int v)] := hl
  have hg := hw
  have hw : kw D cls (tyl k) L s s.heap f [(a, .inl (k 0, n, .inl z))] s.heap [] := ⟨f, hw, hk⟩
  refine lv_iconst (v := 0) hx hb d_JA_fill_0_0 (by decide) ?_
  refine lv_istore_n hx hb d_JA_fill_0_1 rfl hl (by decide) rfl (fun ls hl => ?_)
  refine lv_aload_n hx hb d_JA_fill_0_2 rfl (lv_at hl 1 rfl) ?_
  refine k_alen hx hb hw 0 0 rfl rfl d_JA_fill_0_3 ?_
  refine lv_istore_n hx hb d_JA_fill_0_4 rfl hl (by decide) rfl (fun ls hl => ?_)
  have hl := lv_sub hl [2, 3, 1, 0] rfl
  have hw : kw D cls (tyl k) L s s.heap f [(a, .inl (k 0, n, .inl (fun t => if 0 ≤ t ∧ t < 0 then v else z t)))] s.heap [] := by
    rw [show (fun t => if 0 ≤ t ∧ t < 0 then v else z t) = z from funext fun t => if_neg (by omega)]
    exact hw
  refine w_JA_fill_0 S hn n 0 _ _ ls (by omega) (by omega) hl hw (fun H locs ls hw => ?_)
  obtain ⟨f', hw, hk⟩ := hw
  exact g_retv hx hb hr hlocks hw hk d_JA_fill_0_20
set_option maxRecDepth 100000 in
set_option maxHeartbeats 4000000 in
theorem m_rangeCheck (l : Launch) (D : va_G) (k : Nat → ClassId) (L : List Nat) (f : Nat → va_E) (n lo hi : Nat) (hn : n < 2 ^ 31) (h1 : lo ≤ hi) (h2 : hi ≤ n) : Mv l y_JA_rangeCheck (Cond.code y_JA_rangeCheck c_JA_rangeCheck 3 none :: G) (rmN 0) D cls (tyl k) L f [.int (nI n), .int (nI lo), .int (nI hi)] (fun f' => f' = f) := by
  -- METHOD JA_rangeCheck | loc 0=n 1=lo 2=hi | ws
  refine mk_metF (by decide +kernel) (Nat.le_of_ble_eq_true rfl) (fun p e s m below meth c ls S hr hlocks hw hl => ?_)
  have hx := S.1
  have hb := S.2.1
  have hown : s.vm.findClass R_JA = some m.cls := S.2.2.2.1
  have hG := S.2.2.2.2
  have hl : lv_has ls 3 [(0, .int (nI n)), (1, .int (nI lo)), (2, .int (nI hi))] := hl
  have hg := hw
  refine lv_iload_n hx hb d_JA_rangeCheck_0 rfl (lv_at hl 1 rfl) ?_
  refine lv_iload_n hx hb d_JA_rangeCheck_1 rfl (lv_at hl 2 rfl) ?_
  refine lv_icmp_le (tgt := 46) hx hb d_JA_rangeCheck_2 (by decide) (fun hc => ?_) (fun hc => ?_)
  · -- STK
    refine lv_iload_n hx hb d_JA_rangeCheck_46 rfl (lv_at hl 1 rfl) ?_
    refine lv_if_ge (tgt := 59) hx hb d_JA_rangeCheck_47 (by decide) (fun hc => ?_) (fun hc => ?_)
    · -- STK
      refine lv_iload_n hx hb d_JA_rangeCheck_59 rfl (lv_at hl 2 rfl) ?_
      refine lv_iload_n hx hb d_JA_rangeCheck_60 rfl (lv_at hl 0 rfl) ?_
      refine lv_icmp_le (tgt := 73) hx hb d_JA_rangeCheck_61 (by decide) (fun hc => ?_) (fun hc => ?_)
      · exact g_retv hx hb hr hlocks hg rfl d_JA_rangeCheck_73
      · exact absurd (nI_le h2 (by omega)) hc
    · exact absurd (nI_pos' (by omega)) hc
  · exact absurd (nI_le h1 (by omega)) hc
set_option maxRecDepth 100000 in
set_option maxHeartbeats 4000000 in
theorem m_fillR (l : Launch) (D : va_G) (k : Nat → ClassId) (L : List Nat) (f : Nat → va_E) (a n lo hi : Nat) (v : Int32) (z : Nat → Int32) (hn : n < 2 ^ 31) (h1 : lo ≤ hi) (h2 : hi ≤ n) (hk : kn L f f [(a, .inl (k 0, n, .inl z))]) : Mv l y_JA_fill_1 (Cond.code y_JA_fill_1 c_JA_fill_1 5 none :: G) (rmN 1) D cls (tyl k) L f [.ref a, .int (nI lo), .int (nI hi), .int v] (fun f' => kn L f f' [(a, .inl (k 0, n, .inl (fun t => if lo ≤ t ∧ t < hi then v else z t)))]) := by
  -- METHOD JA_fill_1 | loc 0=a 1=lo 2=hi 3=v | ws a
  refine mk_metF (by decide +kernel) (Nat.le_of_ble_eq_true rfl) (fun p e s m below meth c ls S hr hlocks hw hl => ?_)
  have hx := S.1
  have hb := S.2.1
  have hown : s.vm.findClass R_JA = some m.cls := S.2.2.2.1
  have hG := S.2.2.2.2
  have hl : lv_has ls 5 [(0, .ref a), (1, .int (nI lo)), (2, .int (nI hi)), (3, .int v)] := hl
  have hg := hw
  have hw : kw D cls (tyl k) L s s.heap f [(a, .inl (k 0, n, .inl z))] s.heap [] := ⟨f, hw, hk⟩
  refine lv_aload_n hx hb d_JA_fill_1_0 rfl (lv_at hl 0 rfl) ?_
  refine k_alen hx hb hw 0 0 rfl rfl d_JA_fill_1_1 ?_
  refine lv_iload_n hx hb d_JA_fill_1_2 rfl (lv_at hl 1 rfl) ?_
  refine lv_iload_n hx hb d_JA_fill_1_3 rfl (lv_at hl 2 rfl) ?_
  have hw := hg
  refine g_ov (c_X (np := 3) S (m_rangeCheck l D k L f n lo hi hn h1 h2) hw ml_JA_13 st_JA_rangeCheck in_JA co_JA_rangeCheck (by decide +kernel) rfl ⟨rfl, rfl, by decide, by decide⟩ hl.1 rfl (by simp [Value.category]) d_JA_fill_1_4 ⟨Nat.zero_le _, Nat.zero_le _⟩) hw (fun f2 H locs hp hw2 => ?_)
  rw [hp] at hw2
  have hw : kw D cls (tyl k) L s s.heap f [(a, .inl (k 0, n, .inl (fun t => if lo ≤ t ∧ t < lo then v else z t)))] H locs := by
    rw [show (fun t => if lo ≤ t ∧ t < lo then v else z t) = z from funext fun t => if_neg (by omega)]
    exact ⟨f, hw2, hk⟩
  refine lv_iload_n hx hb d_JA_fill_1_7 rfl (lv_at hl 1 rfl) ?_
  refine lv_istore hx hb d_JA_fill_1_8 hl (by decide) rfl (fun ls hl => ?_)
  have hl := lv_sub hl [1, 2, 3, 4, 0] rfl
  refine w_JA_fill_1 S hn h2 (hi - lo) lo _ _ ls (by omega) (by omega) hl hw (fun H locs ls hw => ?_)
  obtain ⟨f', hw, hk⟩ := hw
  exact g_retv hx hb hr hlocks hw hk d_JA_fill_1_27
set_option maxRecDepth 100000 in
set_option maxHeartbeats 4000000 in
theorem m_minL (l : Launch) (D : va_G) (k : Nat → ClassId) (L : List Nat) (f : Nat → va_E) (a b : Int) (ha : rL a) (hb1 : rL b) : Ml l y_JM_min_0 (Cond.code y_JM_min_0 c_JM_min_0 4 (some .long) :: G) (rmN 0) D cls (tyl k) L f [.long (zL a), .long (zL b)] (fun r f' => f' = f ∧ r = zL (min a b)) := by
  -- METHOD JM_min_0 | loc 0=x 2=y | ws
  refine mk_metF (by decide +kernel) (Nat.le_of_ble_eq_true rfl) (fun p e s m below meth c ls S hr hlocks hw hl => ?_)
  have hx := S.1
  have hb := S.2.1
  have hown : s.vm.findClass R_JM = some m.cls := S.2.2.2.1
  have hG := S.2.2.2.2
  have hl : lv_has ls 4 [(0, .long (zL a)), (2, .long (zL b))] := hl
  have hg := hw
  refine lv_lload_n hx hb d_JM_min_0_0 rfl (lv_at hl 0 rfl) ?_
  refine lv_lload_n hx hb d_JM_min_0_1 rfl (lv_at hl 1 rfl) ?_
  refine W.lcmp hx hb d_JM_min_0_2 ?_
  refine lv_if_gt (tgt := 10) hx hb d_JM_min_0_3 (by decide) (fun hc => ?_) (fun hc => ?_)
  · have h1 : b < a := (zL_lt hb1 ha).mp ((lg_cmp_gt _ _).mp hc)
    refine lv_lload_n hx hb d_JM_min_0_10 rfl (lv_at hl 1 rfl) ?_
    exact g_retl hx hb hr hlocks hg ⟨rfl, by rw [Int.min_eq_right (by omega)]⟩ d_JM_min_0_11
  · have h1 : ¬ b < a := fun h => hc ((lg_cmp_gt _ _).mpr ((zL_lt hb1 ha).mpr h))
    refine lv_lload_n hx hb d_JM_min_0_6 rfl (lv_at hl 0 rfl) ?_
    refine lv_goto (tgt := 11) hx hb d_JM_min_0_7 (by decide) ?_
    exact g_retl hx hb hr hlocks hg ⟨rfl, by rw [Int.min_eq_left (by omega)]⟩ d_JM_min_0_11
set_option maxRecDepth 100000 in
set_option maxHeartbeats 4000000 in
theorem m_maxL (l : Launch) (D : va_G) (k : Nat → ClassId) (L : List Nat) (f : Nat → va_E) (a b : Int) (ha : rL a) (hb1 : rL b) : Ml l y_JM_max_0 (Cond.code y_JM_max_0 c_JM_max_0 4 (some .long) :: G) (rmN 0) D cls (tyl k) L f [.long (zL a), .long (zL b)] (fun r f' => f' = f ∧ r = zL (max a b)) := by
  -- METHOD JM_max_0 | loc 0=x 2=y | ws
  refine mk_metF (by decide +kernel) (Nat.le_of_ble_eq_true rfl) (fun p e s m below meth c ls S hr hlocks hw hl => ?_)
  have hx := S.1
  have hb := S.2.1
  have hown : s.vm.findClass R_JM = some m.cls := S.2.2.2.1
  have hG := S.2.2.2.2
  have hl : lv_has ls 4 [(0, .long (zL a)), (2, .long (zL b))] := hl
  have hg := hw
  refine lv_lload_n hx hb d_JM_max_0_0 rfl (lv_at hl 0 rfl) ?_
  refine lv_lload_n hx hb d_JM_max_0_1 rfl (lv_at hl 1 rfl) ?_
  refine W.lcmp hx hb d_JM_max_0_2 ?_
  refine lv_if_lt (tgt := 10) hx hb d_JM_max_0_3 (by decide) (fun hc => ?_) (fun hc => ?_)
  · have h1 : a < b := (zL_lt ha hb1).mp ((lg_cmp_lt _ _).mp hc)
    refine lv_lload_n hx hb d_JM_max_0_10 rfl (lv_at hl 1 rfl) ?_
    exact g_retl hx hb hr hlocks hg ⟨rfl, by rw [Int.max_eq_right (by omega)]⟩ d_JM_max_0_11
  · have h1 : ¬ a < b := fun h => hc ((lg_cmp_lt _ _).mpr ((zL_lt ha hb1).mpr h))
    refine lv_lload_n hx hb d_JM_max_0_6 rfl (lv_at hl 0 rfl) ?_
    refine lv_goto (tgt := 11) hx hb d_JM_max_0_7 (by decide) ?_
    exact g_retl hx hb hr hlocks hg ⟨rfl, by rw [Int.max_eq_left (by omega)]⟩ d_JM_max_0_11
theorem bvI {x : Int32} {n : Nat} (h : x.toBitVec.toNat = n) (hn : n < 2 ^ 32) : x = nI n := by
  apply Int32.toBitVec_inj.mp
  apply BitVec.eq_of_toNat_eq
  rw [h, pk_tn hn]
theorem sgn_bits {a : Int} (h : -2147483648 < a ∧ a < 2147483648) : (zI a >>> ((31 : Int32) &&& 31)) ||| (((-zI a).toUInt32 >>> ((31 : Int32).toUInt32 &&& Int32.toUInt32 31)).toInt32) = zI a.sign := by
  have hr : rI a := ⟨by omega, h.2⟩
  have h1 : zI a >>> ((31 : Int32) &&& 31) = zI (a / 2147483648) := by
    apply Int32.toInt_inj.mp
    rw [pk_shr (zI a) _ 31 (by decide), zI_t hr, Int.shiftRight_eq_div_pow, zI_t ⟨by omega, by omega⟩]
    rfl
  have h2 : ((-zI a).toUInt32 >>> ((31 : Int32).toUInt32 &&& Int32.toUInt32 31)).toInt32 = nI (((-a) % 4294967296).toNat / 2147483648) := by
    apply bvI
    · rw [pk_ushr _ _ 31 (by decide), zI_neg, zI_bv]
    · omega
  rw [h1, h2]
  rcases Int.lt_trichotomy a 0 with h0 | h0 | h0
  · rw [show a / 2147483648 = -1 by omega, show ((-a) % 4294967296).toNat / 2147483648 = 0 by omega, Int.sign_eq_neg_one_of_neg h0]
    decide
  · subst h0
    decide
  · rw [show a / 2147483648 = 0 by omega, show ((-a) % 4294967296).toNat / 2147483648 = 1 by omega, Int.sign_eq_one_of_pos h0]
    decide
set_option maxRecDepth 100000 in
set_option maxHeartbeats 4000000 in
theorem m_signum (l : Launch) (D : va_G) (k : Nat → ClassId) (L : List Nat) (f : Nat → va_E) (a : Int) (ha : -2147483648 < a ∧ a < 2147483648) : Mi l y_JI_signum (Cond.code y_JI_signum c_JI_signum 1 (some .int) :: G) (rmN 0) D cls (tyl k) L f [.int (zI a)] (fun r f' => f' = f ∧ r = zI a.sign) := by
  -- METHOD JI_signum | loc 0=x | ws
  refine mk_metF (by decide +kernel) (Nat.le_of_ble_eq_true rfl) (fun p e s m below meth c ls S hr hlocks hw hl => ?_)
  have hx := S.1
  have hb := S.2.1
  have hown : s.vm.findClass R_JI = some m.cls := S.2.2.2.1
  have hG := S.2.2.2.2
  have hl : lv_has ls 1 [(0, .int (zI a))] := hl
  have hg := hw
  refine lv_iload_n hx hb d_JI_signum_0 rfl (lv_at hl 0 rfl) ?_
  refine lv_bipush (v := 31) hx hb d_JI_signum_1 (by decide) ?_
  refine lv_ishr hx hb d_JI_signum_3 ?_
  refine lv_iload_n hx hb d_JI_signum_4 rfl (lv_at hl 0 rfl) ?_
  refine lv_ineg hx hb d_JI_signum_5 ?_
  refine lv_bipush (v := 31) hx hb d_JI_signum_6 (by decide) ?_
  refine lv_iushr hx hb d_JI_signum_8 rfl ?_
  refine lv_ior hx hb d_JI_signum_9 ?_
  exact g_reti hx hb hr hlocks hg ⟨rfl, sgn_bits ha⟩ d_JI_signum_10
theorem ii_dec (n k : Nat) (h : k ≤ n) : nI n + Int32.ofInt (-(k : Int)) = nI (n - k) := by
  rw [← zI_n, ← zI_n]
  show zI _ + zI _ = _
  rw [zI_add]
  congr 1
  omega
section NLZ
variable {p : Program} {l : Launch} {e : Env} {R : Room} {s : State} {m : MethodId} {args : Array Value} {below : List Frame} {meth : Method} {c : Code} {cells slots : Nat} {Q : State → Prop}
theorem nlz_n {v t i : Nat} (k : Nat) (h : i = v / 2 ^ t) : i / 2 ^ k = v / 2 ^ (t + k) := by rw [h, Nat.div_div_eq_div_mul, Nat.pow_add]
theorem nlz_e {v t i : Nat} (h : i = v / 2 ^ t) (h1 : 1 ≤ i) (h4 : i < 4) : 2 ^ (t + i / 2) ≤ v ∧ v < 2 ^ (t + i / 2 + 1) := by
  have hp : 0 < 2 ^ t := Nat.pow_pos (by omega)
  have a1 : i * 2 ^ t ≤ v := by rw [h]; exact Nat.div_mul_le_self _ _
  have a2 : v < (i + 1) * 2 ^ t := by
    have := Nat.lt_mul_div_succ v hp
    rw [← h, Nat.mul_comm] at this
    exact this
  rcases (show i = 1 ∨ i = 2 ∨ i = 3 by omega) with rfl | rfl | rfl
  · rw [show t + 1 / 2 = t by omega, Nat.pow_succ]; omega
  · rw [show t + 2 / 2 = t + 1 by omega, Nat.pow_succ, Nat.pow_succ]; omega
  · rw [show t + 3 / 2 = t + 1 by omega, Nat.pow_succ, Nat.pow_succ]; omega
set_option maxRecDepth 100000 in
set_option maxHeartbeats 4000000 in
theorem w_nlz61 (S : CallFix p m c c_JI_numberOfLeadingZeros 2 s args G R_JI) {v : Nat} {H : Heap} {locs : List Loc} (t i : Nat) (ls : Array Slot) (ht : i = v / 2 ^ t) (h1 : 1 ≤ i) (h4 : i < 16) (h5 : t ≤ 28) (hl : lv_has ls 2 [(0, .int (nI i)), (1, .int (nI (31 - t)))])
    (kx : (∀ (t i : Nat) (ls : Array Slot), i = v / 2 ^ t → 1 ≤ i → i < 4 → t ≤ 30 → lv_has ls 2 [(0, .int (nI i)), (1, .int (nI (31 - t)))] → W p l e R s m args below meth c H locs cells slots Q (F0 m 73 ls []))) : W p l e R s m args below meth c H locs cells slots Q (F0 m 61 ls []) := by
  have hx := S.1
  have hb := S.2.1
  have hown : s.vm.findClass R_JI = some m.cls := S.2.2.2.1
  have hG := S.2.2.2.2
  -- METHOD JI_numberOfLeadingZeros | loc 0=i 1=n | ws
  refine lv_iload_n hx hb d_JI_numberOfLeadingZeros_61 rfl (lv_at hl 0 rfl) ?_
  refine lv_iconst (v := 4) hx hb d_JI_numberOfLeadingZeros_62 (by decide) ?_
  refine lv_icmp_lt (tgt := 73) hx hb d_JI_numberOfLeadingZeros_63 (by decide) (fun hc => ?_) (fun hc => ?_)
  · have hlt : i < 4 := (nI_ltI (by omega) (by omega)).mp hc
    exact kx t i ls ht h1 (by omega) (by omega) hl
  · have hge : 4 ≤ i := Nat.le_of_not_lt fun h => hc ((nI_ltI (b := 4) (by omega) (by omega)).mpr h)
    refine lv_iinc (k := 1) hx hb d_JI_numberOfLeadingZeros_66 hl rfl (ii_dec (31 - t) 2 (by omega)) (by decide) rfl (fun ls hl => ?_)
    refine lv_iload_n hx hb d_JI_numberOfLeadingZeros_69 rfl (lv_at hl 1 rfl) ?_
    refine lv_iconst (v := 2) hx hb d_JI_numberOfLeadingZeros_70 (by decide) ?_
    refine lv_iushr hx hb d_JI_numberOfLeadingZeros_71 (pk_ushrN (by omega) _ 2 (by decide)) ?_
    refine lv_istore_n hx hb d_JI_numberOfLeadingZeros_72 rfl hl (by decide) rfl (fun ls hl => ?_)
    have hl := lv_sub hl [0, 1] rfl
    rw [show 31 - t - 2 = 31 - (t + 2) by omega] at hl
    exact kx (t + 2) (i / 2 ^ 2) ls (nlz_n 2 ht) (by omega) (by omega) (by omega) hl
set_option maxRecDepth 100000 in
set_option maxHeartbeats 4000000 in
theorem w_nlz48 (S : CallFix p m c c_JI_numberOfLeadingZeros 2 s args G R_JI) {v : Nat} {H : Heap} {locs : List Loc} (t i : Nat) (ls : Array Slot) (ht : i = v / 2 ^ t) (h1 : 1 ≤ i) (h4 : i < 256) (h5 : t ≤ 24) (hl : lv_has ls 2 [(0, .int (nI i)), (1, .int (nI (31 - t)))])
    (kx : (∀ (t i : Nat) (ls : Array Slot), i = v / 2 ^ t → 1 ≤ i → i < 4 → t ≤ 30 → lv_has ls 2 [(0, .int (nI i)), (1, .int (nI (31 - t)))] → W p l e R s m args below meth c H locs cells slots Q (F0 m 73 ls []))) : W p l e R s m args below meth c H locs cells slots Q (F0 m 48 ls []) := by
  have hx := S.1
  have hb := S.2.1
  have hown : s.vm.findClass R_JI = some m.cls := S.2.2.2.1
  have hG := S.2.2.2.2
  -- METHOD JI_numberOfLeadingZeros | loc 0=i 1=n | ws
  refine lv_iload_n hx hb d_JI_numberOfLeadingZeros_48 rfl (lv_at hl 0 rfl) ?_
  refine lv_bipush (v := 16) hx hb d_JI_numberOfLeadingZeros_49 (by decide) ?_
  refine lv_icmp_lt (tgt := 61) hx hb d_JI_numberOfLeadingZeros_51 (by decide) (fun hc => ?_) (fun hc => ?_)
  · have hlt : i < 16 := (nI_ltI (by omega) (by omega)).mp hc
    exact w_nlz61 S t i ls ht h1 (by omega) (by omega) hl kx
  · have hge : 16 ≤ i := Nat.le_of_not_lt fun h => hc ((nI_ltI (b := 16) (by omega) (by omega)).mpr h)
    refine lv_iinc (k := 1) hx hb d_JI_numberOfLeadingZeros_54 hl rfl (ii_dec (31 - t) 4 (by omega)) (by decide) rfl (fun ls hl => ?_)
    refine lv_iload_n hx hb d_JI_numberOfLeadingZeros_57 rfl (lv_at hl 1 rfl) ?_
    refine lv_iconst (v := 4) hx hb d_JI_numberOfLeadingZeros_58 (by decide) ?_
    refine lv_iushr hx hb d_JI_numberOfLeadingZeros_59 (pk_ushrN (by omega) _ 4 (by decide)) ?_
    refine lv_istore_n hx hb d_JI_numberOfLeadingZeros_60 rfl hl (by decide) rfl (fun ls hl => ?_)
    have hl := lv_sub hl [0, 1] rfl
    rw [show 31 - t - 4 = 31 - (t + 4) by omega] at hl
    exact w_nlz61 S (t + 4) (i / 2 ^ 4) ls (nlz_n 4 ht) (by omega) (by omega) (by omega) hl kx
set_option maxRecDepth 100000 in
set_option maxHeartbeats 4000000 in
theorem w_nlz33 (S : CallFix p m c c_JI_numberOfLeadingZeros 2 s args G R_JI) {v : Nat} {H : Heap} {locs : List Loc} (t i : Nat) (ls : Array Slot) (ht : i = v / 2 ^ t) (h1 : 1 ≤ i) (h4 : i < 65536) (h5 : t ≤ 16) (hl : lv_has ls 2 [(0, .int (nI i)), (1, .int (nI (31 - t)))])
    (kx : (∀ (t i : Nat) (ls : Array Slot), i = v / 2 ^ t → 1 ≤ i → i < 4 → t ≤ 30 → lv_has ls 2 [(0, .int (nI i)), (1, .int (nI (31 - t)))] → W p l e R s m args below meth c H locs cells slots Q (F0 m 73 ls []))) : W p l e R s m args below meth c H locs cells slots Q (F0 m 33 ls []) := by
  have hx := S.1
  have hb := S.2.1
  have hown : s.vm.findClass R_JI = some m.cls := S.2.2.2.1
  have hG := S.2.2.2.2
  -- METHOD JI_numberOfLeadingZeros | loc 0=i 1=n | ws
  refine lv_iload_n hx hb d_JI_numberOfLeadingZeros_33 rfl (lv_at hl 0 rfl) ?_
  refine lv_sipush (v := 256) hx hb d_JI_numberOfLeadingZeros_34 (by decide) ?_
  refine lv_icmp_lt (tgt := 48) hx hb d_JI_numberOfLeadingZeros_37 (by decide) (fun hc => ?_) (fun hc => ?_)
  · have hlt : i < 256 := (nI_ltI (by omega) (by omega)).mp hc
    exact w_nlz48 S t i ls ht h1 (by omega) (by omega) hl kx
  · have hge : 256 ≤ i := Nat.le_of_not_lt fun h => hc ((nI_ltI (b := 256) (by omega) (by omega)).mpr h)
    refine lv_iinc (k := 1) hx hb d_JI_numberOfLeadingZeros_40 hl rfl (ii_dec (31 - t) 8 (by omega)) (by decide) rfl (fun ls hl => ?_)
    refine lv_iload_n hx hb d_JI_numberOfLeadingZeros_43 rfl (lv_at hl 1 rfl) ?_
    refine lv_bipush (v := 8) hx hb d_JI_numberOfLeadingZeros_44 (by decide) ?_
    refine lv_iushr hx hb d_JI_numberOfLeadingZeros_46 (pk_ushrN (by omega) _ 8 (by decide)) ?_
    refine lv_istore_n hx hb d_JI_numberOfLeadingZeros_47 rfl hl (by decide) rfl (fun ls hl => ?_)
    have hl := lv_sub hl [0, 1] rfl
    rw [show 31 - t - 8 = 31 - (t + 8) by omega] at hl
    exact w_nlz48 S (t + 8) (i / 2 ^ 8) ls (nlz_n 8 ht) (by omega) (by omega) (by omega) hl kx
set_option maxRecDepth 100000 in
set_option maxHeartbeats 4000000 in
theorem w_nlz18 (S : CallFix p m c c_JI_numberOfLeadingZeros 2 s args G R_JI) {v : Nat} {H : Heap} {locs : List Loc} (t i : Nat) (ls : Array Slot) (ht : i = v / 2 ^ t) (h1 : 1 ≤ i) (h4 : i < 2147483648) (h5 : t ≤ 0) (hl : lv_has ls 2 [(0, .int (nI i)), (1, .int (nI (31 - t)))])
    (kx : (∀ (t i : Nat) (ls : Array Slot), i = v / 2 ^ t → 1 ≤ i → i < 4 → t ≤ 30 → lv_has ls 2 [(0, .int (nI i)), (1, .int (nI (31 - t)))] → W p l e R s m args below meth c H locs cells slots Q (F0 m 73 ls []))) : W p l e R s m args below meth c H locs cells slots Q (F0 m 18 ls []) := by
  have hx := S.1
  have hb := S.2.1
  have hown : s.vm.findClass R_JI = some m.cls := S.2.2.2.1
  have hG := S.2.2.2.2
  -- METHOD JI_numberOfLeadingZeros | loc 0=i 1=n | ws
  refine lv_iload_n hx hb d_JI_numberOfLeadingZeros_18 rfl (lv_at hl 0 rfl) ?_
  refine lv_ldcw hx hb hown (hG _ ct_JI_264) d_JI_numberOfLeadingZeros_19 ?_
  refine lv_icmp_lt (tgt := 33) hx hb d_JI_numberOfLeadingZeros_22 (by decide) (fun hc => ?_) (fun hc => ?_)
  · have hlt : i < 65536 := (nI_ltI (by omega) (by omega)).mp hc
    exact w_nlz33 S t i ls ht h1 (by omega) (by omega) hl kx
  · have hge : 65536 ≤ i := Nat.le_of_not_lt fun h => hc ((nI_ltI (b := 65536) (by omega) (by omega)).mpr h)
    refine lv_iinc (k := 1) hx hb d_JI_numberOfLeadingZeros_25 hl rfl (ii_dec (31 - t) 16 (by omega)) (by decide) rfl (fun ls hl => ?_)
    refine lv_iload_n hx hb d_JI_numberOfLeadingZeros_28 rfl (lv_at hl 1 rfl) ?_
    refine lv_bipush (v := 16) hx hb d_JI_numberOfLeadingZeros_29 (by decide) ?_
    refine lv_iushr hx hb d_JI_numberOfLeadingZeros_31 (pk_ushrN (by omega) _ 16 (by decide)) ?_
    refine lv_istore_n hx hb d_JI_numberOfLeadingZeros_32 rfl hl (by decide) rfl (fun ls hl => ?_)
    have hl := lv_sub hl [0, 1] rfl
    rw [show 31 - t - 16 = 31 - (t + 16) by omega] at hl
    exact w_nlz33 S (t + 16) (i / 2 ^ 16) ls (nlz_n 16 ht) (by omega) (by omega) (by omega) hl kx
end NLZ
set_option maxRecDepth 100000 in
set_option maxHeartbeats 4000000 in
theorem m_nlz (l : Launch) (D : va_G) (k : Nat → ClassId) (L : List Nat) (f : Nat → va_E) (v : Nat) (h0 : 0 < v) (hv : v < 2147483648) : Mi l y_JI_numberOfLeadingZeros (Cond.code y_JI_numberOfLeadingZeros c_JI_numberOfLeadingZeros 2 (some .int) :: G) (rmN 0) D cls (tyl k) L f [.int (nI v)] (fun r f' => f' = f ∧ ∃ b, b ≤ 31 ∧ r = nI (31 - b) ∧ 2 ^ b ≤ v ∧ v < 2 ^ (b + 1)) := by
  -- METHOD JI_numberOfLeadingZeros | loc 0=i | ws
  refine mk_metF (by decide +kernel) (Nat.le_of_ble_eq_true rfl) (fun p e s m below meth c ls S hr hlocks hw hl => ?_)
  have hx := S.1
  have hb := S.2.1
  have hown : s.vm.findClass R_JI = some m.cls := S.2.2.2.1
  have hG := S.2.2.2.2
  have hl : lv_has ls 2 [(0, .int (nI v))] := hl
  have hg := hw
  refine lv_iload_n hx hb d_JI_numberOfLeadingZeros_0 rfl (lv_at hl 0 rfl) ?_
  refine lv_if_gt (tgt := 15) hx hb d_JI_numberOfLeadingZeros_1 (by decide) (fun hc => ?_) (fun hc => ?_)
  · -- STK
    refine lv_bipush (v := 31) hx hb d_JI_numberOfLeadingZeros_15 (by decide) ?_
    refine lv_istore_n hx hb d_JI_numberOfLeadingZeros_17 rfl hl (by decide) rfl (fun ls hl => ?_)
    have hl := lv_sub hl [1, 0] rfl
    refine w_nlz18 S 0 v ls (by rw [Nat.pow_zero, Nat.div_one]) h0 hv (by omega) hl (fun t i ls ht h1 h4 h5 hl => ?_)
    obtain ⟨e1, e2⟩ := nlz_e ht h1 h4
    refine lv_iload_n hx hb d_JI_numberOfLeadingZeros_73 rfl (lv_at hl 1 rfl) ?_
    refine lv_iload_n hx hb d_JI_numberOfLeadingZeros_74 rfl (lv_at hl 0 rfl) ?_
    refine lv_iconst (v := 1) hx hb d_JI_numberOfLeadingZeros_75 (by decide) ?_
    refine lv_iushr hx hb d_JI_numberOfLeadingZeros_76 (pk_ushrN (by omega) _ 1 (by decide)) ?_
    refine lv_isub hx hb d_JI_numberOfLeadingZeros_77 ?_
    refine l_top (pk_sub (by omega)) ?_
    exact g_reti hx hb hr hlocks hg ⟨rfl, t + i / 2, by omega, by rw [show 31 - t - i / 2 ^ 1 = 31 - (t + i / 2) by omega], e1, e2⟩ d_JI_numberOfLeadingZeros_78
  · exact absurd (by rw [← nI_0]; exact nI_lt h0 (by omega)) hc
end
section
-- ===== Whole: the small methods =====
abbrev cW (xl n : Nat) (g : Int32) : va_E := .inr (4, [.ref xl, .int (nI n), .int g])
abbrev cD (k : Nat → ClassId) (d : Nat → Nat) : va_E := .inl (k 0, 12, .inl (nD d))
set_option maxRecDepth 100000 in
set_option maxHeartbeats 4000000 in
/-- setZero(): count and sign become 0 -/
theorem m_W_setZero (l : Launch) (D : va_G) (k : Nat → ClassId) (L : List Nat) (f : Nat → va_E) (x xl n : Nat) (g : Int32) (hk : kn L f f [(x, cW xl n g)]) : Mv l y_W_setZero (Cond.code y_W_setZero c_W_setZero 1 none :: G) (rmN 0) D cls (tyl k) L f [.ref x] (fun f' => kn L f f' [(x, cW xl 0 0)]) := by
  -- METHOD W_setZero | loc 0=x | ws x
  refine mk_met (by decide) (Nat.le_of_ble_eq_true rfl) (fun p e s m below meth c ls S hr hlocks hw hl => ?_)
  have hx := S.1
  have hb := S.2.1
  have hown : s.vm.findClass R_W = some m.cls := S.2.2.2.1
  have hG := S.2.2.2.2
  have hl : lv_has ls 1 [(0, .ref x)] := hl
  have hg := hw
  have hw : kw D cls (tyl k) L s s.heap f [(x, cW xl n g)] s.heap [] := ⟨f, hw, hk⟩
  refine lv_aload_n hx hb d_W_setZero_0 rfl (lv_at hl 0 rfl) ?_
  refine lv_iconst (v := 0) hx hb d_W_setZero_1 (by decide) ?_
  refine k_put (ty := .int) hx hb hG lay_W ft_W ft_W_ok fn_W hown hw 0 rfl rfl 1 (by decide) (hG _ fl_W_15) (fun _ h9 => h9) rfl (by decide +kernel) rfl rfl (by simp) d_W_setZero_2 (fun H locs hw => ?_)
  refine lv_aload_n hx hb d_W_setZero_5 rfl (lv_at hl 0 rfl) ?_
  refine lv_iconst (v := 0) hx hb d_W_setZero_6 (by decide) ?_
  refine k_put (ty := .int) hx hb hG lay_W ft_W ft_W_ok fn_W hown hw 0 rfl rfl 2 (by decide) (hG _ fl_W_19) (fun _ h9 => h9) rfl (by decide +kernel) rfl rfl (by simp) d_W_setZero_7 (fun H locs hw => ?_)
  obtain ⟨f', hw, hk⟩ := hw
  exact g_retv hx hb hr hlocks hw hk d_W_setZero_10
set_option maxRecDepth 100000 in
set_option maxHeartbeats 4000000 in
/-- negate() -/
theorem m_W_negate (l : Launch) (D : va_G) (k : Nat → ClassId) (L : List Nat) (f : Nat → va_E) (x xl n : Nat) (g : Int32) (hk : kn L f f [(x, cW xl n g)]) : Mv l y_W_negate (Cond.code y_W_negate c_W_negate 1 none :: G) (rmN 0) D cls (tyl k) L f [.ref x] (fun f' => kn L f f' [(x, cW xl n (-g))]) := by
  -- METHOD W_negate | loc 0=x | ws x
  refine mk_met (by decide) (Nat.le_of_ble_eq_true rfl) (fun p e s m below meth c ls S hr hlocks hw hl => ?_)
  have hx := S.1
  have hb := S.2.1
  have hown : s.vm.findClass R_W = some m.cls := S.2.2.2.1
  have hG := S.2.2.2.2
  have hl : lv_has ls 1 [(0, .ref x)] := hl
  have hg := hw
  have hw : kw D cls (tyl k) L s s.heap f [(x, cW xl n g)] s.heap [] := ⟨f, hw, hk⟩
  refine lv_aload_n hx hb d_W_negate_0 rfl (lv_at hl 0 rfl) ?_
  refine lv_aload_n hx hb d_W_negate_1 rfl (lv_at hl 0 rfl) ?_
  refine k_get hx hb hG lay_W hown hw 0 rfl rfl 2 (by decide) (hG _ fl_W_19) (fun _ h9 => h9) rfl d_W_negate_2 ?_
  refine lv_ineg hx hb d_W_negate_5 ?_
  refine k_put (ty := .int) hx hb hG lay_W ft_W ft_W_ok fn_W hown hw 0 rfl rfl 2 (by decide) (hG _ fl_W_19) (fun _ h9 => h9) rfl (by decide +kernel) rfl rfl (by simp) d_W_negate_6 (fun H locs hw => ?_)
  obtain ⟨f', hw, hk⟩ := hw
  exact g_retv hx hb hr hlocks hw hk d_W_negate_9
set_option maxRecDepth 100000 in
set_option maxHeartbeats 4000000 in
/-- limbAt(i): the digit, 0 behind the end -/
theorem m_W_limbAt (l : Launch) (D : va_G) (k : Nat → ClassId) (L : List Nat) (f : Nat → va_E) (x xl n : Nat) (g : Int32) (d : Nat → Nat) (i : Nat) (hn : n ≤ 12) (hi : i < 2 ^ 31) (hk : kn L f f [(x, cW xl n g), (xl, cD k d)]) : Mi l y_W_limbAt (Cond.code y_W_limbAt c_W_limbAt 2 (some .int) :: G) (rmN 0) D cls (tyl k) L f [.ref x, .int (nI i)] (fun r f' => f' = f ∧ r = nI (if i < n then d i else 0)) := by
  -- METHOD W_limbAt | loc 0=x 1=i | ws x xl | fld x.limbs=xl
  refine mk_met (by decide) (Nat.le_of_ble_eq_true rfl) (fun p e s m below meth c ls S hr hlocks hw hl => ?_)
  have hx := S.1
  have hb := S.2.1
  have hown : s.vm.findClass R_W = some m.cls := S.2.2.2.1
  have hG := S.2.2.2.2
  have hl : lv_has ls 2 [(0, .ref x), (1, .int (nI i))] := hl
  have hg := hw
  have hw : kw D cls (tyl k) L s s.heap f [(x, cW xl n g), (xl, cD k d)] s.heap [] := ⟨f, hw, hk⟩
  refine lv_iload_n hx hb d_W_limbAt_0 rfl (lv_at hl 1 rfl) ?_
  refine lv_aload_n hx hb d_W_limbAt_1 rfl (lv_at hl 0 rfl) ?_
  refine k_get hx hb hG lay_W hown hw 0 rfl rfl 1 (by decide) (hG _ fl_W_15) (fun _ h9 => h9) rfl d_W_limbAt_2 ?_
  refine lv_icmp_ge (tgt := 17) hx hb d_W_limbAt_5 (by decide) (fun hc => ?_) (fun hc => ?_)
  · have hc' : n ≤ i := (nI_leI (by omega) hi).mp hc
    refine lv_iconst (v := 0) hx hb d_W_limbAt_17 (by decide) ?_
    exact g_reti hx hb hr hlocks hg ⟨rfl, by rw [if_neg (by omega)]; rfl⟩ d_W_limbAt_18
  · have hc' : i < n := Nat.lt_of_not_le fun h => hc ((nI_leI (by omega) hi).mpr h)
    refine lv_aload_n hx hb d_W_limbAt_8 rfl (lv_at hl 0 rfl) ?_
    refine k_get hx hb hG lay_W hown hw 0 rfl rfl 0 (by decide) (hG _ fl_W_11) (fun _ h9 => h9) rfl d_W_limbAt_9 ?_
    refine lv_iload_n hx hb d_W_limbAt_12 rfl (lv_at hl 1 rfl) ?_
    refine k_iald hx hb hw 1 0 rfl rfl (i) (rfl) (by omega) (by first | decide | omega) d_W_limbAt_13 ?_
    refine lv_goto (tgt := 18) hx hb d_W_limbAt_14 (by decide) ?_
    exact g_reti hx hb hr hlocks hg ⟨rfl, by rw [if_pos (by omega)]; rfl⟩ d_W_limbAt_18
section TRIM
variable {p : Program} {l : Launch} {e : Env} {R : Room} {s : State} {m : MethodId} {args : Array Value} {below : List Frame} {meth : Method} {c : Code} {cells slots : Nat} {Q : State → Prop} {D : va_G} {k : Nat → ClassId} {L : List Nat} {f0 : Nat → va_E} {H0 : Heap}
set_option maxRecDepth 100000 in
set_option maxHeartbeats 4000000 in
theorem w_trim (S : CallFix p m c c_W_trim 1 s args G R_W) {x xl : Nat} {g : Int32} {d : Nat → Nat} (hd : ∀ i, i < 12 → d i < B30) : ∀ (n : Nat) (H : Heap) (locs : List Loc) (ls : Array Slot), n ≤ 12 → lv_has ls 1 [(0, .ref x)] → kw D cls (tyl k) L s H0 f0 [(x, cW xl n g), (xl, cD k d)] H locs →
    (∀ (n' : Nat) (H : Heap) (locs : List Loc) (ls : Array Slot), n' ≤ n → (∀ i, n' ≤ i → i < n → d i = 0) → (0 < n' → d (n' - 1) ≠ 0) → lv_has ls 1 [(0, .ref x)] → kw D cls (tyl k) L s H0 f0 [(x, cW xl n' g), (xl, cD k d)] H locs → W p l e R s m args below meth c H locs cells slots Q (F0 m 34 ls [])) →
    W p l e R s m args below meth c H locs cells slots Q (F0 m 0 ls []) := by
  have hx := S.1
  have hb := S.2.1
  have hown : s.vm.findClass R_W = some m.cls := S.2.2.2.1
  have hG := S.2.2.2.2
  intro n
  induction n with
  | zero =>
    intro H locs ls _ hl hw kx
    -- METHOD W_trim | loc 0=x | ws x xl | fld x.limbs=xl
    refine lv_aload_n hx hb d_W_trim_0 rfl (lv_at hl 0 rfl) ?_
    refine k_get hx hb hG lay_W hown hw 0 rfl rfl 1 (by decide) (hG _ fl_W_15) (fun _ h9 => h9) rfl d_W_trim_1 ?_
    refine lv_if_le (tgt := 34) hx hb d_W_trim_4 (by decide) (fun hc => ?_) (fun hc => ?_)
    · exact kx 0 H locs ls (Nat.le_refl 0) (fun i h1 h2 => by omega) (fun h => by omega) hl hw
    · exact absurd (by decide) hc
  | succ n ih =>
    intro H locs ls hn hl hw kx
    refine lv_aload_n hx hb d_W_trim_0 rfl (lv_at hl 0 rfl) ?_
    refine k_get hx hb hG lay_W hown hw 0 rfl rfl 1 (by decide) (hG _ fl_W_15) (fun _ h9 => h9) rfl d_W_trim_1 ?_
    refine lv_if_le (tgt := 34) hx hb d_W_trim_4 (by decide) (fun hc => ?_) (fun hc => ?_)
    · exact absurd hc (nI_nle (by omega) (by omega))
    · -- STK
      refine lv_aload_n hx hb d_W_trim_7 rfl (lv_at hl 0 rfl) ?_
      refine k_get hx hb hG lay_W hown hw 0 rfl rfl 0 (by decide) (hG _ fl_W_11) (fun _ h9 => h9) rfl d_W_trim_8 ?_
      refine lv_aload_n hx hb d_W_trim_11 rfl (lv_at hl 0 rfl) ?_
      refine k_get hx hb hG lay_W hown hw 0 rfl rfl 1 (by decide) (hG _ fl_W_15) (fun _ h9 => h9) rfl d_W_trim_12 ?_
      refine lv_iconst (v := 1) hx hb d_W_trim_15 (by decide) ?_
      refine lv_isub hx hb d_W_trim_16 ?_
      refine l_top (nI_pred n) ?_
      refine k_iald hx hb hw 1 0 rfl rfl (n) (rfl) (by omega) (by first | decide | omega) d_W_trim_17 ?_
      refine lv_if_ne (tgt := 34) hx hb d_W_trim_18 (by decide) (fun hc => ?_) (fun hc => ?_)
      · exact kx (n + 1) H locs ls (Nat.le_refl _) (fun i h1 h2 => by omega) (fun _ h0 => hc (by show nI (d n) = 0; have h0 : d n = 0 := h0; rw [h0]; rfl)) hl hw
      · have h0 : d n = 0 := Classical.byContradiction fun h => nI_ne0 (by omega) (by have := hd n (by omega); unfold B30 at this; omega) hc
        refine lv_aload_n hx hb d_W_trim_21 rfl (lv_at hl 0 rfl) ?_
        refine lv_dup hx hb d_W_trim_22 rfl ?_
        refine k_get hx hb hG lay_W hown hw 0 rfl rfl 1 (by decide) (hG _ fl_W_15) (fun _ h9 => h9) rfl d_W_trim_23 ?_
        refine lv_iconst (v := 1) hx hb d_W_trim_26 (by decide) ?_
        refine lv_isub hx hb d_W_trim_27 ?_
        refine l_top (nI_pred n) ?_
        refine k_put (ty := .int) hx hb hG lay_W ft_W ft_W_ok fn_W hown hw 0 rfl rfl 1 (by decide) (hG _ fl_W_15) (fun _ h9 => h9) rfl (by decide +kernel) rfl rfl (by simp) d_W_trim_28 (fun H locs hw => ?_)
        refine lv_goto (tgt := 0) hx hb d_W_trim_31 (by decide) ?_
        refine ih H locs ls (by omega) hl hw (fun n' H locs ls h1 h2 h3 hl hw => kx n' H locs ls (by omega) (fun i q1 q2 => ?_) h3 hl hw)
        by_cases e : i = n
        · rw [e]; exact h0
        · exact h2 i q1 (by omega)
end TRIM
set_option maxRecDepth 100000 in
set_option maxHeartbeats 4000000 in
/-- trim(): zeros at the top go; the sign of 0 is 0 -/
theorem m_W_trim (l : Launch) (D : va_G) (k : Nat → ClassId) (L : List Nat) (f : Nat → va_E) (x xl n : Nat) (g : Int32) (d : Nat → Nat) (hn : n ≤ 12) (hd : ∀ i, i < 12 → d i < B30) (hk : kn L f f [(x, cW xl n g), (xl, cD k d)]) : Mv l y_W_trim (Cond.code y_W_trim c_W_trim 1 none :: G) (rmN 0) D cls (tyl k) L f [.ref x] (fun f' => ∃ n', n' ≤ n ∧ (∀ i, n' ≤ i → i < n → d i = 0) ∧ (0 < n' → d (n' - 1) ≠ 0) ∧ kn L f f' [(x, cW xl n' (if n' = 0 then 0 else g)), (xl, cD k d)]) := by
  refine mk_met (by decide) (Nat.le_of_ble_eq_true rfl) (fun p e s m below meth c ls S hr hlocks hw hl => ?_)
  have hx := S.1
  have hb := S.2.1
  have hown : s.vm.findClass R_W = some m.cls := S.2.2.2.1
  have hG := S.2.2.2.2
  have hl : lv_has ls 1 [(0, .ref x)] := hl
  have hg := hw
  have hw : kw D cls (tyl k) L s s.heap f [(x, cW xl n g), (xl, cD k d)] s.heap [] := ⟨f, hw, hk⟩
  refine w_trim S hd n _ _ ls hn hl hw (fun n' H locs ls h1 h2 h3 hl hw => ?_)
  -- METHOD W_trim | loc 0=x | ws x xl | fld x.limbs=xl
  refine lv_aload_n hx hb d_W_trim_34 rfl (lv_at hl 0 rfl) ?_
  refine k_get hx hb hG lay_W hown hw 0 rfl rfl 1 (by decide) (hG _ fl_W_15) (fun _ h9 => h9) rfl d_W_trim_35 ?_
  refine lv_if_ne (tgt := 46) hx hb d_W_trim_38 (by decide) (fun hc => ?_) (fun hc => ?_)
  · have hn0 : n' ≠ 0 := fun h => hc (by rw [h]; rfl)
    obtain ⟨f', hw, hk⟩ := hw
    exact g_retv hx hb hr hlocks hw ⟨n', h1, h2, h3, by rw [if_neg hn0]; exact hk⟩ d_W_trim_46
  · have hn0 : n' = 0 := Classical.byContradiction fun h => nI_ne0 (by omega) (by omega) hc
    subst hn0
    refine lv_aload_n hx hb d_W_trim_41 rfl (lv_at hl 0 rfl) ?_
    refine lv_iconst (v := 0) hx hb d_W_trim_42 (by decide) ?_
    refine k_put (ty := .int) hx hb hG lay_W ft_W ft_W_ok fn_W hown hw 0 rfl rfl 2 (by decide) (hG _ fl_W_19) (fun _ h9 => h9) rfl (by decide +kernel) rfl rfl (by simp) d_W_trim_43 (fun H locs hw => ?_)
    obtain ⟨f', hw, hk⟩ := hw
    exact g_retv hx hb hr hlocks hw ⟨0, h1, h2, h3, hk⟩ d_W_trim_46
end
section
-- ===== Whole: values; isOne, setSize, compareSize =====
/-- the cells' numbers are this whole number, as the class keeps it -/
def wr (n : Nat) (g : Int32) (d : Nat → Nat) (v : Int) : Prop := n ≤ 12 ∧ (∀ i, i < 12 → d i < B30) ∧ ((n = 0 ∧ g = 0 ∧ v = 0) ∨ (0 < n ∧ d (n - 1) ≠ 0 ∧ ((g = 1 ∧ v = (cd B30 n d : Int)) ∨ (g = -1 ∧ v = -(cd B30 n d : Int)))))
theorem wr_abs {n : Nat} {g : Int32} {d : Nat → Nat} {v : Int} (h : wr n g d v) : v.natAbs = cd B30 n d := by
  rcases h.2.2 with ⟨h1, -, h3⟩ | ⟨-, -, ⟨-, h3⟩ | ⟨-, h3⟩⟩
  · rw [h3, h1]; rfl
  · omega
  · omega
theorem wr_top {n : Nat} {g : Int32} {d : Nat → Nat} {v : Int} (h : wr n g d v) : 0 < n → d (n - 1) ≠ 0 := by
  intro hn
  rcases h.2.2 with ⟨h1, -⟩ | ⟨-, h2, -⟩
  · omega
  · exact h2
/-- zeros at the top taken off -/
theorem wr_trim {n n' : Nat} {g : Int32} {d : Nat → Nat} {v : Int} (hn : n ≤ 12) (hd : ∀ i, i < 12 → d i < B30) (hn' : n' ≤ n) (h0 : ∀ i, n' ≤ i → i < n → d i = 0) (ht : 0 < n' → d (n' - 1) ≠ 0) (hg : (g = 1 ∧ v = (cd B30 n d : Int)) ∨ (g = -1 ∧ v = -(cd B30 n d : Int)) ∨ (v = 0 ∧ cd B30 n d = 0)) : wr n' (if n' = 0 then 0 else g) d v := by
  have e := cd_top (b := B30) hn' h0
  refine ⟨by omega, hd, ?_⟩
  by_cases hz : n' = 0
  · subst hz
    have e0 : cd B30 n d = 0 := e
    refine Or.inl ⟨rfl, if_pos rfl, ?_⟩
    rcases hg with ⟨-, h⟩ | ⟨-, h⟩ | ⟨h, -⟩ <;> omega
  · rw [if_neg hz]
    refine Or.inr ⟨by omega, ht (by omega), ?_⟩
    rcases hg with h | h | ⟨-, h⟩
    · rw [e] at h; exact Or.inl h
    · rw [e] at h; exact Or.inr h
    · exfalso
      obtain ⟨m, rfl⟩ : ∃ m, n' = m + 1 := ⟨n' - 1, by omega⟩
      have h1 := cd_ge (b := B30) (n := m) (d := d) (ht (by omega))
      have h2 : 0 < B30 ^ m := Nat.pow_pos (by decide)
      omega
theorem dI {d : Nat → Nat} {i : Nat} (h : d i < B30) : d i < 2147483648 := by unfold B30 at h; omega
theorem wr_one {n : Nat} {g : Int32} {d : Nat → Nat} {v : Int} (h : wr n g d v) : v = 1 ↔ n = 1 ∧ d 0 = 1 ∧ g = 1 := by
  constructor
  · intro hv
    rcases h.2.2 with ⟨-, -, h3⟩ | ⟨h1, h2, ⟨h3, h4⟩ | ⟨-, h4⟩⟩
    · omega
    · obtain ⟨m, rfl⟩ : ∃ m, n = m + 1 := ⟨n - 1, by omega⟩
      have e1 : cd B30 (m + 1) d = 1 := by omega
      have h5 := cd_ge (b := B30) (n := m) (d := d) h2
      have hm : m = 0 := by
        rcases Nat.eq_zero_or_pos m with h | h
        · exact h
        · have : B30 ^ 1 ≤ B30 ^ m := Nat.pow_le_pow_right (by decide) h
          rw [Nat.pow_one] at this
          have : B30 = 1073741824 := rfl
          omega
      subst hm
      have e1 : cd B30 1 d = 1 := e1
      have e2 : cd B30 1 d = 0 + d 0 * B30 ^ 0 := rfl
      rw [Nat.pow_zero] at e2
      exact ⟨rfl, by omega, h3⟩
    · omega
  · rintro ⟨rfl, h2, h3⟩
    have e2 : cd B30 1 d = 0 + d 0 * B30 ^ 0 := rfl
    rw [Nat.pow_zero] at e2
    rcases h.2.2 with ⟨h1, -⟩ | ⟨-, -, ⟨-, h4⟩ | ⟨h4, -⟩⟩
    · omega
    · omega
    · rw [h3] at h4; exact absurd h4 (by decide)
set_option maxRecDepth 100000 in
set_option maxHeartbeats 4000000 in
theorem m_W_isOne (l : Launch) (D : va_G) (k : Nat → ClassId) (L : List Nat) (f : Nat → va_E) (x xl n : Nat) (g : Int32) (d : Nat → Nat) (v : Int) (hk : kn L f f [(x, cW xl n g), (xl, cD k d)]) (hv : wr n g d v) : Mi l y_W_isOne (Cond.code y_W_isOne c_W_isOne 1 (some .boolean) :: G) (rmN 0) D cls (tyl k) L f [.ref x] (fun r f' => f' = f ∧ r = if v = 1 then 1 else 0) := by
  -- METHOD W_isOne | loc 0=x | ws x xl | fld x.limbs=xl
  refine mk_met (by decide) (Nat.le_of_ble_eq_true rfl) (fun p e s m below meth c ls S hr hlocks hw hl => ?_)
  have hx := S.1
  have hb := S.2.1
  have hown : s.vm.findClass R_W = some m.cls := S.2.2.2.1
  have hG := S.2.2.2.2
  have hl : lv_has ls 1 [(0, .ref x)] := hl
  have hg := hw
  have hn := hv.1
  have hd := hv.2.1
  have hw : kw D cls (tyl k) L s s.heap f [(x, cW xl n g), (xl, cD k d)] s.heap [] := ⟨f, hw, hk⟩
  refine lv_aload_n hx hb d_W_isOne_0 rfl (lv_at hl 0 rfl) ?_
  refine k_get hx hb hG lay_W hown hw 0 rfl rfl 1 (by decide) (hG _ fl_W_15) (fun _ h9 => h9) rfl d_W_isOne_1 ?_
  refine lv_iconst (v := 1) hx hb d_W_isOne_4 (by decide) ?_
  refine lv_icmp_ne (tgt := 30) hx hb d_W_isOne_5 (by decide) (fun hc => ?_) (fun hc => ?_)
  · have h1 : ¬ v = 1 := fun h => hc (by rw [((wr_one hv).mp h).1]; rfl)
    refine lv_iconst (v := 0) hx hb d_W_isOne_30 (by decide) ?_
    exact g_retz hx hb hr hlocks hg rfl ⟨rfl, by rw [if_neg h1]⟩ d_W_isOne_31
  · have hn1 : n = 1 := (nI_eq (b := 1) (by omega) (by omega)).mp hc
    refine lv_aload_n hx hb d_W_isOne_8 rfl (lv_at hl 0 rfl) ?_
    refine k_get hx hb hG lay_W hown hw 0 rfl rfl 0 (by decide) (hG _ fl_W_11) (fun _ h9 => h9) rfl d_W_isOne_9 ?_
    refine lv_iconst (v := 0) hx hb d_W_isOne_12 (by decide) ?_
    refine k_iald hx hb hw 1 0 rfl rfl (0) (rfl) (by decide) (by first | decide | omega) d_W_isOne_13 ?_
    refine lv_iconst (v := 1) hx hb d_W_isOne_14 (by decide) ?_
    refine lv_icmp_ne (tgt := 30) hx hb d_W_isOne_15 (by decide) (fun hc => ?_) (fun hc => ?_)
    · have h1 : ¬ v = 1 := fun h => hc (by show nI (d 0) = 1; rw [((wr_one hv).mp h).2.1]; rfl)
      refine lv_iconst (v := 0) hx hb d_W_isOne_30 (by decide) ?_
      exact g_retz hx hb hr hlocks hg rfl ⟨rfl, by rw [if_neg h1]⟩ d_W_isOne_31
    · have hd0 : d 0 = 1 := (nI_eq (b := 1) (dI (hd 0 (by omega))) (by omega)).mp hc
      refine lv_aload_n hx hb d_W_isOne_18 rfl (lv_at hl 0 rfl) ?_
      refine k_get hx hb hG lay_W hown hw 0 rfl rfl 2 (by decide) (hG _ fl_W_19) (fun _ h9 => h9) rfl d_W_isOne_19 ?_
      refine lv_iconst (v := 1) hx hb d_W_isOne_22 (by decide) ?_
      refine lv_icmp_ne (tgt := 30) hx hb d_W_isOne_23 (by decide) (fun hc => ?_) (fun hc => ?_)
      · have h1 : ¬ v = 1 := fun h => hc ((wr_one hv).mp h).2.2
        refine lv_iconst (v := 0) hx hb d_W_isOne_30 (by decide) ?_
        exact g_retz hx hb hr hlocks hg rfl ⟨rfl, by rw [if_neg h1]⟩ d_W_isOne_31
      · have h1 : v = 1 := (wr_one hv).mpr ⟨hn1, hd0, hc⟩
        refine lv_iconst (v := 1) hx hb d_W_isOne_26 (by decide) ?_
        refine lv_goto (tgt := 31) hx hb d_W_isOne_27 (by decide) ?_
        exact g_retz hx hb hr hlocks hg rfl ⟨rfl, by rw [if_pos h1]⟩ d_W_isOne_31
theorem nD_cpy (d e : Nat → Nat) (a b n : Nat) : va_cpy (nD d) (nD e) a b n = nD (va_cpy d e a b n) := by
  funext t
  by_cases h : b ≤ t ∧ t < b + n
  · rw [pk_cpy_in h.1 h.2]
    show nI (d _) = nI (va_cpy d e a b n t)
    rw [pk_cpy_in h.1 h.2]
  · have h' : t < b ∨ b + n ≤ t := by omega
    rw [pk_cpy_out h']
    show nI (e _) = nI (va_cpy d e a b n t)
    rw [pk_cpy_out h']
theorem wr_g {n : Nat} {g : Int32} {d : Nat → Nat} {v : Int} (h : wr n g d v) : g = zI v.sign := by
  rcases h.2.2 with ⟨-, h2, h3⟩ | ⟨h1, h2, h3⟩
  · rw [h2, h3]; rfl
  · have hpos : 0 < cd B30 n d := by
      obtain ⟨m, rfl⟩ : ∃ m, n = m + 1 := ⟨n - 1, by omega⟩
      have h5 := cd_ge (b := B30) (n := m) (d := d) h2
      have h6 : 0 < B30 ^ m := Nat.pow_pos (by decide)
      omega
    rcases h3 with ⟨h3, h4⟩ | ⟨h3, h4⟩
    · rw [h3, Int.sign_eq_one_of_pos (by omega)]; rfl
    · rw [h3, Int.sign_eq_neg_one_of_neg (by omega)]; decide
set_option maxRecDepth 100000 in
set_option maxHeartbeats 4000000 in
/-- setSize(o): the size of another number -/
theorem m_W_setSize (l : Launch) (D : va_G) (k : Nat → ClassId) (L : List Nat) (f : Nat → va_E) (x xl n o ol n2 : Nat) (g g2 : Int32) (d d2 : Nat → Nat) (v : Int) (hd : ∀ i, i < 12 → d i < B30) (hk : kn L f f [(x, cW xl n g), (xl, cD k d), (o, cW ol n2 g2), (ol, cD k d2)]) (hv : wr n2 g2 d2 v) : Mv l y_W_setSize (Cond.code y_W_setSize c_W_setSize 2 none :: G) (rmN 1) D cls (tyl k) L f [.ref x, .ref o] (fun f' => ∃ (g' : Int32) (d' : Nat → Nat), wr n2 g' d' v.natAbs ∧ kn L f f' [(x, cW xl n2 g'), (xl, cD k d'), (o, cW ol n2 g2), (ol, cD k d2)]) := by
  -- METHOD W_setSize | loc 0=x 1=o | ws x xl o ol | fld x.limbs=xl o.limbs=ol
  refine mk_met (by decide) (Nat.le_of_ble_eq_true rfl) (fun p e s m below meth c ls S hr hlocks hw hl => ?_)
  have hx := S.1
  have hb := S.2.1
  have hown : s.vm.findClass R_W = some m.cls := S.2.2.2.1
  have hG := S.2.2.2.2
  have hl : lv_has ls 2 [(0, .ref x), (1, .ref o)] := hl
  have hg := hw
  have hn2 := hv.1
  have hd2 := hv.2.1
  have hw : kw D cls (tyl k) L s s.heap f [(x, cW xl n g), (xl, cD k d), (o, cW ol n2 g2), (ol, cD k d2)] s.heap [] := ⟨f, hw, hk⟩
  refine lv_aload_n hx hb d_W_setSize_0 rfl (lv_at hl 1 rfl) ?_
  refine k_get hx hb hG lay_W hown hw 2 rfl rfl 0 (by decide) (hG _ fl_W_11) (fun _ h9 => h9) rfl d_W_setSize_1 ?_
  refine lv_iconst (v := 0) hx hb d_W_setSize_4 (by decide) ?_
  refine lv_aload_n hx hb d_W_setSize_5 rfl (lv_at hl 0 rfl) ?_
  refine k_get hx hb hG lay_W hown hw 0 rfl rfl 0 (by decide) (hG _ fl_W_11) (fun _ h9 => h9) rfl d_W_setSize_6 ?_
  refine lv_iconst (v := 0) hx hb d_W_setSize_9 (by decide) ?_
  refine lv_aload_n hx hb d_W_setSize_10 rfl (lv_at hl 1 rfl) ?_
  refine k_get hx hb hG lay_W hown hw 2 rfl rfl 1 (by decide) (hG _ fl_W_15) (fun _ h9 => h9) rfl d_W_setSize_11 ?_
  refine k_copyi hx hb (by rw [S.2.2.1]; exact hl.1.symm) hown (hG _ ml_W_22) (hG _ nv_arraycopy) (hG _ st_arraycopy) (hG _ in_JS) hw 3 1 0 rfl rfl rfl 0 0 n2 rfl rfl rfl (by omega) (by omega) (by decide) (by decide) (by decide) (by simp [Value.category]; decide) d_W_setSize_14 (fun H locs hw => ?_)
  rw [nD_cpy] at hw
  refine lv_aload_n hx hb d_W_setSize_17 rfl (lv_at hl 0 rfl) ?_
  refine lv_aload_n hx hb d_W_setSize_18 rfl (lv_at hl 1 rfl) ?_
  refine k_get hx hb hG lay_W hown hw 2 rfl rfl 1 (by decide) (hG _ fl_W_15) (fun _ h9 => h9) rfl d_W_setSize_19 ?_
  refine k_put (ty := .int) hx hb hG lay_W ft_W ft_W_ok fn_W hown hw 0 rfl rfl 1 (by decide) (hG _ fl_W_15) (fun _ h9 => h9) rfl (by decide +kernel) rfl rfl (by simp) d_W_setSize_22 (fun H locs hw => ?_)
  refine lv_aload_n hx hb d_W_setSize_25 rfl (lv_at hl 0 rfl) ?_
  refine lv_aload_n hx hb d_W_setSize_26 rfl (lv_at hl 1 rfl) ?_
  refine k_get hx hb hG lay_W hown hw 2 rfl rfl 2 (by decide) (hG _ fl_W_19) (fun _ h9 => h9) rfl d_W_setSize_27 ?_
  obtain ⟨f1, hw, hk1⟩ := hw
  refine g_oi (c_X (np := 1) S (m_abs l D k L f1 g2) hw ml_W_28 st_JM_abs in_JM co_JM_abs (by decide +kernel) rfl ⟨rfl, rfl, by decide, by decide⟩ hl.1 rfl (by simp [Value.category]) d_W_setSize_30 ⟨Nat.zero_le _, Nat.zero_le _⟩) hw (fun r f2 H locs hp hw2 => ?_)
  rw [hp.1] at hw2
  have hw : kw D cls (tyl k) L s s.heap f [(x, cW xl n2 g), (xl, cD k (va_cpy d2 d 0 0 n2)), (o, cW ol n2 g2), (ol, cD k d2)] H locs := ⟨f1, hw2, hk1⟩
  refine k_put (ty := .int) hx hb hG lay_W ft_W ft_W_ok fn_W hown hw 0 rfl rfl 2 (by decide) (hG _ fl_W_19) (fun _ h9 => h9) rfl (by decide +kernel) rfl rfl (by simp) d_W_setSize_33 (fun H locs hw => ?_)
  obtain ⟨f3, hw, hk3⟩ := hw
  refine g_retv hx hb hr hlocks hw ⟨r, va_cpy d2 d 0 0 n2, ?_, hk3⟩ d_W_setSize_36
  have hc : cd B30 n2 (va_cpy d2 d 0 0 n2) = cd B30 n2 d2 := cd_congr n2 (fun i hi => by rw [pk_cpy_in (by omega) (by omega)]; congr 1; omega)
  have hdig : ∀ i, i < 12 → va_cpy d2 d 0 0 n2 i < B30 := fun i hi => by
    by_cases h : i < n2
    · rw [pk_cpy_in (by omega) (by omega)]; exact hd2 _ (by omega)
    · rw [pk_cpy_out (by omega)]; exact hd i hi
  have ha := wr_abs hv
  refine ⟨hn2, hdig, ?_⟩
  rcases hv.2.2 with ⟨h1, h2, h3⟩ | ⟨h1, h2, h3⟩
  · exact Or.inl ⟨h1, by rw [hp.2, h2]; rfl, by omega⟩
  · refine Or.inr ⟨h1, by rw [pk_cpy_in (by omega) (by omega)]; rw [show 0 + (n2 - 1 - 0) = n2 - 1 by omega]; exact h2, Or.inl ⟨?_, by rw [hc]; omega⟩⟩
    rcases h3 with ⟨h3, -⟩ | ⟨h3, -⟩
    · rw [hp.2, h3]; rfl
    · rw [hp.2, h3]; decide
end
section
-- ===== Whole: compareSize, addSize, setDifference =====
/-- how two sizes compare -/
def cmpR (r : Int32) (A B : Nat) : Prop := (r = -1 ∧ A < B) ∨ (r = 0 ∧ A = B) ∨ (r = 1 ∧ B < A)
theorem cmpR_of {a b : Nat} (ha : a < 2147483648) (hb : b < 2147483648) {A B : Nat} (h1 : a < b → A < B) (h2 : b < a → B < A) (h3 : a ≠ b) : cmpR (if nI a < nI b then -1 else if nI a = nI b then 0 else 1) A B := by
  by_cases h : a < b
  · rw [if_pos (nI_lt h (by omega))]; exact Or.inl ⟨rfl, h1 h⟩
  · rw [if_neg (nI_nlt (by omega) (by omega)), if_neg (fun e => h3 ((nI_eq (by omega) (by omega)).mp e))]
    exact Or.inr (Or.inr ⟨rfl, h2 (by omega)⟩)
section CMP
variable {p : Program} {l : Launch} {e : Env} {R : Room} {s : State} {m : MethodId} {args : Array Value} {below : List Frame} {meth : Method} {c : Code} {cells slots : Nat} {Q : State → Prop} {D : va_G} {k : Nat → ClassId} {L : List Nat} {f0 : Nat → va_E} {H0 : Heap}
set_option maxRecDepth 100000 in
set_option maxHeartbeats 4000000 in
theorem w_cmp (S : CallFix p m c c_W_compareSize 3 s args G R_W) (hrR : (30 : Nat) * 1 ≤ R.locals ∧ 1 ≤ R.frames) (hr : meth.sig.returnType = some .int) (hlocks : meth.locks = false) {x xl o ol n : Nat} {g g2 : Int32} {d d2 : Nat → Nat} (hn : n ≤ 12) (hd : ∀ i, i < 12 → d i < B30) (hd2 : ∀ i, i < 12 → d2 i < B30) (hg : gw D cls (tyl k) L s s.heap f0 s.heap []) (hk : kn L f0 f0 [(x, cW xl n g), (xl, cD k d), (o, cW ol n g2), (ol, cD k d2)]) :
    ∀ (j : Nat) (ls : Array Slot), j ≤ n → (∀ i, j ≤ i → i < n → d i = d2 i) → lv_has ls 3 [(0, .ref x), (1, .ref o), (2, .int (zI ((j : Int) - 1)))] →
    W p l e R s m args below meth c s.heap [] 0 0 (MQ below (va_Qi (fun r f' => f' = f0 ∧ cmpR r (cd B30 n d) (cd B30 n d2)) (mst D cls (tyl k) L) (fun q => q ∈ L)) args s 0 0 (fun q => q ∈ L)) (F0 m 30 ls []) := by
  have hx := S.1
  have hb := S.2.1
  have hown : s.vm.findClass R_W = some m.cls := S.2.2.2.1
  have hG := S.2.2.2.2
  intro j
  induction j with
  | zero =>
    intro ls _ he hl
    have hw : kw D cls (tyl k) L s s.heap f0 [(x, cW xl n g), (xl, cD k d), (o, cW ol n g2), (ol, cD k d2)] s.heap [] := ⟨f0, hg, hk⟩
    -- METHOD W_compareSize | loc 0=x 1=o 2=i | ws x xl o ol | fld x.limbs=xl o.limbs=ol
    refine lv_iload_n hx hb d_W_compareSize_30 rfl (lv_at hl 2 rfl) ?_
    refine lv_if_lt (tgt := 71) hx hb d_W_compareSize_31 (by decide) (fun hc => ?_) (fun hc => ?_)
    · -- STK
      refine lv_iconst (v := 0) hx hb d_W_compareSize_71 (by decide) ?_
      exact g_reti hx hb hr hlocks hg ⟨rfl, Or.inr (Or.inl ⟨rfl, cd_congr n (fun i hi => he i (by omega) hi)⟩)⟩ d_W_compareSize_72
    · exact absurd (by decide) hc
  | succ j ih =>
    intro ls hj he hl
    have hw : kw D cls (tyl k) L s s.heap f0 [(x, cW xl n g), (xl, cD k d), (o, cW ol n g2), (ol, cD k d2)] s.heap [] := ⟨f0, hg, hk⟩
    have ej : zI (((j + 1 : Nat) : Int) - 1) = nI j := by rw [← zI_n]; congr 1; omega
    rw [ej] at hl
    -- METHOD W_compareSize | loc 0=x 1=o 2=i | ws x xl o ol | fld x.limbs=xl o.limbs=ol
    refine lv_iload_n hx hb d_W_compareSize_30 rfl (lv_at hl 2 rfl) ?_
    refine lv_if_lt (tgt := 71) hx hb d_W_compareSize_31 (by decide) (fun hc => ?_) (fun hc => ?_)
    · exact absurd hc (nI_pos (by omega))
    · -- STK
      refine lv_aload_n hx hb d_W_compareSize_34 rfl (lv_at hl 0 rfl) ?_
      refine k_get hx hb hG lay_W hown hw 0 rfl rfl 0 (by decide) (hG _ fl_W_11) (fun _ h9 => h9) rfl d_W_compareSize_35 ?_
      refine lv_iload_n hx hb d_W_compareSize_38 rfl (lv_at hl 2 rfl) ?_
      refine k_iald hx hb hw 1 0 rfl rfl (j) (rfl) (by omega) (by first | decide | omega) d_W_compareSize_39 ?_
      refine lv_aload_n hx hb d_W_compareSize_40 rfl (lv_at hl 1 rfl) ?_
      refine k_get hx hb hG lay_W hown hw 2 rfl rfl 0 (by decide) (hG _ fl_W_11) (fun _ h9 => h9) rfl d_W_compareSize_41 ?_
      refine lv_iload_n hx hb d_W_compareSize_44 rfl (lv_at hl 2 rfl) ?_
      refine k_iald hx hb hw 3 0 rfl rfl (j) (rfl) (by omega) (by first | decide | omega) d_W_compareSize_45 ?_
      refine lv_icmp_eq (tgt := 65) hx hb d_W_compareSize_46 (by decide) (fun hc => ?_) (fun hc => ?_)
      · have hdj : d j = d2 j := (nI_eq (dI (hd j (by omega))) (dI (hd2 j (by omega)))).mp hc
        refine lv_iinc (k := 2) hx hb d_W_compareSize_65 hl rfl rfl (by decide) rfl (fun ls hl => ?_)
        refine lv_goto (tgt := 30) hx hb d_W_compareSize_68 (by decide) ?_
        have hl := lv_sub hl [1, 2, 0] rfl
        refine ih ls (by omega) (fun i h1 h2 => ?_) (show lv_has ls 3 [(0, .ref x), (1, .ref o), (2, .int (zI ((j : Int) - 1)))] from ?_)
        · by_cases e : i = j
          · rw [e]; exact hdj
          · exact he i (by omega) h2
        · have e2 : nI j + Int32.ofInt (-1) = zI ((j : Int) - 1) := by rw [← zI_n]; show zI _ + zI _ = _; rw [zI_add]; congr 1
          rw [← e2]; exact hl
      · have hne : d j ≠ d2 j := fun h => hc (by show nI (d j) = nI (d2 j); rw [h])
        refine lv_aload_n hx hb d_W_compareSize_49 rfl (lv_at hl 0 rfl) ?_
        refine k_get hx hb hG lay_W hown hw 0 rfl rfl 0 (by decide) (hG _ fl_W_11) (fun _ h9 => h9) rfl d_W_compareSize_50 ?_
        refine lv_iload_n hx hb d_W_compareSize_53 rfl (lv_at hl 2 rfl) ?_
        refine k_iald hx hb hw 1 0 rfl rfl (j) (rfl) (by omega) (by first | decide | omega) d_W_compareSize_54 ?_
        refine lv_aload_n hx hb d_W_compareSize_55 rfl (lv_at hl 1 rfl) ?_
        refine k_get hx hb hG lay_W hown hw 2 rfl rfl 0 (by decide) (hG _ fl_W_11) (fun _ h9 => h9) rfl d_W_compareSize_56 ?_
        refine lv_iload_n hx hb d_W_compareSize_59 rfl (lv_at hl 2 rfl) ?_
        refine k_iald hx hb hw 3 0 rfl rfl (j) (rfl) (by omega) (by first | decide | omega) d_W_compareSize_60 ?_
        have hw := hg
        refine g_oi (c_X (np := 2) S (m_compare l D k L f0 (nI (d j)) (nI (d2 j))) hw ml_W_80 st_JI_compare in_JI co_JI_compare (by decide +kernel) rfl ⟨rfl, rfl, by have := hrR.2; show 0 + 1 ≤ R.frames; omega, by have := hrR.1; show 8 + (2 + 11) + 30 * 0 ≤ R.locals; omega⟩ hl.1 rfl (by simp) d_W_compareSize_61 ⟨Nat.zero_le _, Nat.zero_le _⟩) hw (fun r f2 H2 locs2 hp hw2 => ?_)
        refine g_reti hx hb hr hlocks hw2 ⟨hp.1, ?_⟩ d_W_compareSize_64
        rw [hp.2]
        exact cmpR_of (dI (hd j (by omega))) (dI (hd2 j (by omega))) (fun h => cd_cmp (fun i hi => hd i (by omega)) (show j < n by omega) (fun i h1 h2 => he i (by omega) h2) h) (fun h => cd_cmp (fun i hi => hd2 i (by omega)) (show j < n by omega) (fun i h1 h2 => (he i (by omega) h2).symm) h) hne
end CMP
set_option maxRecDepth 100000 in
set_option maxHeartbeats 4000000 in
theorem m_W_compareSize (l : Launch) (D : va_G) (k : Nat → ClassId) (L : List Nat) (f : Nat → va_E) (x xl n o ol n2 : Nat) (g g2 : Int32) (d d2 : Nat → Nat) (hn : n ≤ 12) (hn2 : n2 ≤ 12) (hd : ∀ i, i < 12 → d i < B30) (hd2 : ∀ i, i < 12 → d2 i < B30) (ht : 0 < n → d (n - 1) ≠ 0) (ht2 : 0 < n2 → d2 (n2 - 1) ≠ 0) (hk : kn L f f [(x, cW xl n g), (xl, cD k d), (o, cW ol n2 g2), (ol, cD k d2)]) : Mi l y_W_compareSize (Cond.code y_W_compareSize c_W_compareSize 3 (some .int) :: G) (rmN 1) D cls (tyl k) L f [.ref x, .ref o] (fun r f' => f' = f ∧ cmpR r (cd B30 n d) (cd B30 n2 d2)) := by
  -- METHOD W_compareSize | loc 0=x 1=o | ws x xl o ol | fld x.limbs=xl o.limbs=ol
  refine mk_met (by decide) (Nat.le_of_ble_eq_true rfl) (fun p e s m below meth c ls S hr hlocks hw hl => ?_)
  have hx := S.1
  have hb := S.2.1
  have hown : s.vm.findClass R_W = some m.cls := S.2.2.2.1
  have hG := S.2.2.2.2
  have hl : lv_has ls 3 [(0, .ref x), (1, .ref o)] := hl
  have hg := hw
  have hw : kw D cls (tyl k) L s s.heap f [(x, cW xl n g), (xl, cD k d), (o, cW ol n2 g2), (ol, cD k d2)] s.heap [] := ⟨f, hw, hk⟩
  refine lv_aload_n hx hb d_W_compareSize_0 rfl (lv_at hl 0 rfl) ?_
  refine k_get hx hb hG lay_W hown hw 0 rfl rfl 1 (by decide) (hG _ fl_W_15) (fun _ h9 => h9) rfl d_W_compareSize_1 ?_
  refine lv_aload_n hx hb d_W_compareSize_4 rfl (lv_at hl 1 rfl) ?_
  refine k_get hx hb hG lay_W hown hw 2 rfl rfl 1 (by decide) (hG _ fl_W_15) (fun _ h9 => h9) rfl d_W_compareSize_5 ?_
  refine lv_icmp_eq (tgt := 23) hx hb d_W_compareSize_8 (by decide) (fun hc => ?_) (fun hc => ?_)
  · have hnn : n = n2 := (nI_eq (by omega) (by omega)).mp hc
    subst hnn
    refine lv_aload_n hx hb d_W_compareSize_23 rfl (lv_at hl 0 rfl) ?_
    refine k_get hx hb hG lay_W hown hw 0 rfl rfl 1 (by decide) (hG _ fl_W_15) (fun _ h9 => h9) rfl d_W_compareSize_24 ?_
    refine lv_iconst (v := 1) hx hb d_W_compareSize_27 (by decide) ?_
    refine lv_isub hx hb d_W_compareSize_28 ?_
    refine lv_istore_n hx hb d_W_compareSize_29 rfl hl (by decide) rfl (fun ls hl => ?_)
    have hl := lv_sub hl [1, 2, 0] rfl
    refine w_cmp S ⟨by decide, by decide⟩ hr hlocks hn hd hd2 hg hk n ls (Nat.le_refl _) (fun i h1 h2 => by omega) ?_
    have e2 : nI n - 1 = zI ((n : Int) - 1) := by rw [← zI_n, z_1, zI_sub]
    rw [← e2]; exact hl
  · have hne : n ≠ n2 := fun h => hc (by rw [h])
    refine lv_aload_n hx hb d_W_compareSize_11 rfl (lv_at hl 0 rfl) ?_
    refine k_get hx hb hG lay_W hown hw 0 rfl rfl 1 (by decide) (hG _ fl_W_15) (fun _ h9 => h9) rfl d_W_compareSize_12 ?_
    refine lv_aload_n hx hb d_W_compareSize_15 rfl (lv_at hl 1 rfl) ?_
    refine k_get hx hb hG lay_W hown hw 2 rfl rfl 1 (by decide) (hG _ fl_W_15) (fun _ h9 => h9) rfl d_W_compareSize_16 ?_
    have hw := hg
    refine g_oi (c_X (np := 2) S (m_compare l D k L f (nI n) (nI n2)) hw ml_W_80 st_JI_compare in_JI co_JI_compare (by decide +kernel) rfl ⟨rfl, rfl, by decide, by decide⟩ hl.1 rfl (by simp [Value.category]) d_W_compareSize_19 ⟨Nat.zero_le _, Nat.zero_le _⟩) hw (fun r f2 H2 locs2 hp hw2 => ?_)
    refine g_reti hx hb hr hlocks hw2 ⟨hp.1, ?_⟩ d_W_compareSize_22
    rw [hp.2]
    exact cmpR_of (by omega) (by omega) (fun h => cd_short (fun i hi => hd i (by omega)) h (by decide) (ht2 (by omega))) (fun h => cd_short (fun i hi => hd2 i (by omega)) h (by decide) (ht (by omega))) hne
theorem cd_put {b : Nat} (i v : Nat) (d : Nat → Nat) : cd b (i + 1) (va_up d i v) = cd b i d + v * b ^ i := by
  show cd b i (va_up d i v) + va_up d i v i * b ^ i = _
  rw [va_up_self, cd_congr i (fun t ht => va_up_ne d v (by omega))]
theorem add_step {B i cy a b S : Nat} {r : Nat → Nat} (h : cd B i r + cy * B ^ i = S) : cd B (i + 1) (va_up r i ((cy + (a + b)) % B)) + (cy + (a + b)) / B * B ^ (i + 1) = S + (a + b) * B ^ i := by
  rw [cd_put, Nat.pow_succ]
  have h1 := Nat.mod_add_div (cy + (a + b)) B
  generalize (cy + (a + b)) % B = u at h1 ⊢
  generalize (cy + (a + b)) / B = w at h1 ⊢
  generalize B ^ i = P at h ⊢
  have h2 : (u + B * w) * P = (cy + (a + b)) * P := by rw [h1]
  rw [Nat.add_mul, Nat.add_mul] at h2
  have h3 : w * (P * B) = B * w * P := by rw [Nat.mul_comm B w, Nat.mul_assoc, Nat.mul_comm P B]
  omega
section ADD
variable {p : Program} {l : Launch} {e : Env} {s : State} {m : MethodId} {args : Array Value} {below : List Frame} {meth : Method} {c : Code} {Q : State → Prop} {D : va_G} {k : Nat → ClassId} {L : List Nat} {f0 : Nat → va_E} {H0 : Heap}
set_option maxRecDepth 100000 in
set_option maxHeartbeats 4000000 in
theorem w_add (S : CallFix p m c c_W_addSize 5 s args G R_W) {x xl o ol n n2 en : Nat} {g g2 : Int32} {d d2 : Nat → Nat} (hn : n ≤ 12) (hn2 : n2 ≤ 12) (hen : en ≤ 11) (hd2 : ∀ i, i < 12 → d2 i < B30) :
    ∀ (j i cy : Nat) (r : Nat → Nat) (H : Heap) (locs : List Loc) (ls : Array Slot), i + j = en → cy ≤ 1 → (∀ t, t < 12 → r t < B30) → (∀ t, i ≤ t → r t = d t) → cd B30 i r + cy * B30 ^ i = cd B30 i (fun t => if t < n then d t else 0) + cd B30 i (fun t => if t < n2 then d2 t else 0) →
    lv_has ls 5 [(0, .ref x), (1, .ref o), (2, .int (nI en)), (3, .int (nI cy)), (4, .int (nI i))] → kw D cls (tyl k) L s H0 f0 [(x, cW xl n g), (xl, cD k r), (o, cW ol n2 g2), (ol, cD k d2)] H locs →
    (∀ (cy : Nat) (r : Nat → Nat) (H : Heap) (locs : List Loc) (ls : Array Slot), cy ≤ 1 → (∀ t, t < 12 → r t < B30) → cd B30 en r + cy * B30 ^ en = cd B30 en (fun t => if t < n then d t else 0) + cd B30 en (fun t => if t < n2 then d2 t else 0) → lv_has ls 5 [(0, .ref x), (1, .ref o), (2, .int (nI en)), (3, .int (nI cy)), (4, .int (nI en))] → kw D cls (tyl k) L s H0 f0 [(x, cW xl n g), (xl, cD k r), (o, cW ol n2 g2), (ol, cD k d2)] H locs → W p l e (rmN 1) s m args below meth c H locs 0 0 Q (F0 m 66 ls [])) →
    W p l e (rmN 1) s m args below meth c H locs 0 0 Q (F0 m 22 ls []) := by
  have hx := S.1
  have hb := S.2.1
  have hown : s.vm.findClass R_W = some m.cls := S.2.2.2.1
  have hG := S.2.2.2.2
  intro j
  induction j with
  | zero =>
    intro i cy r H locs ls hij hcy hrr hrd he hl hw kx
    have hij : i = en := by omega
    subst hij
    -- METHOD W_addSize | loc 0=x 1=o 2=en 3=cy 4=i | ws x xl o ol | fld x.limbs=xl o.limbs=ol
    refine lv_iload hx hb d_W_addSize_22 (lv_at hl 4 rfl) ?_
    refine lv_iload_n hx hb d_W_addSize_24 rfl (lv_at hl 2 rfl) ?_
    refine lv_icmp_ge (tgt := 66) hx hb d_W_addSize_25 (by decide) (fun hc => ?_) (fun hc => ?_)
    · exact kx cy r H locs ls hcy hrr he hl hw
    · exact absurd (nI_le (Nat.le_refl _) (by omega)) hc
  | succ j ih =>
    intro i cy r H locs ls hij hcy hrr hrd he hl hw kx
    -- METHOD W_addSize | loc 0=x 1=o 2=en 3=cy 4=i | ws x xl o ol | fld x.limbs=xl o.limbs=ol
    refine lv_iload hx hb d_W_addSize_22 (lv_at hl 4 rfl) ?_
    refine lv_iload_n hx hb d_W_addSize_24 rfl (lv_at hl 2 rfl) ?_
    refine lv_icmp_ge (tgt := 66) hx hb d_W_addSize_25 (by decide) (fun hc => ?_) (fun hc => ?_)
    · exact absurd hc (nI_ge (by omega) (by omega))
    · obtain ⟨f, hw, hk⟩ := hw
      refine lv_iload_n hx hb d_W_addSize_28 rfl (lv_at hl 3 rfl) ?_
      refine lv_aload_n hx hb d_W_addSize_29 rfl (lv_at hl 0 rfl) ?_
      refine lv_iload hx hb d_W_addSize_30 (lv_at hl 4 rfl) ?_
      refine g_oi (c_V (np := 1) S (m_W_limbAt l D k L f x xl n g r i hn (by omega) (kn_sub hk [0, 1] rfl rfl)) hw ((hk.1 0 _ rfl).1) ((hk.1 0 _ rfl).2) rfl ml_W_88 im_W_limbAt se_W_W_limbAt in_W co_W_limbAt (by decide +kernel) rfl ⟨rfl, rfl, by decide, by decide⟩ hl.1 rfl (by simp [Value.category]) d_W_addSize_32 ⟨Nat.zero_le _, Nat.zero_le _⟩) hw (fun r1 f1 H locs hp hw2 => ?_)
      rw [hp.1] at hw2
      have hw := hw2
      refine l_top hp.2 ?_
      refine lv_aload_n hx hb d_W_addSize_35 rfl (lv_at hl 1 rfl) ?_
      refine lv_iload hx hb d_W_addSize_36 (lv_at hl 4 rfl) ?_
      refine g_oi (c_V (np := 1) S (m_W_limbAt l D k L f o ol n2 g2 d2 i hn2 (by omega) (kn_sub hk [2, 3] rfl rfl)) hw ((hk.1 2 _ rfl).1) ((hk.1 2 _ rfl).2) rfl ml_W_88 im_W_limbAt se_W_W_limbAt in_W co_W_limbAt (by decide +kernel) rfl ⟨rfl, rfl, by decide, by decide⟩ hl.1 rfl (by simp [Value.category]) d_W_addSize_38 ⟨Nat.zero_le _, Nat.zero_le _⟩) hw (fun r2 f2 H locs hp2 hw3 => ?_)
      rw [hp2.1] at hw3
      have hw : kw D cls (tyl k) L s H0 f0 [(x, cW xl n g), (xl, cD k r), (o, cW ol n2 g2), (ol, cD k d2)] H locs := ⟨f, hw3, hk⟩
      refine l_top hp2.2 ?_
      have ea : (if i < n then r i else 0) = (if i < n then d i else 0) := by rw [hrd i (Nat.le_refl _)]
      rw [ea]
      have ha : (if i < n then d i else 0) < B30 := by
        by_cases h : i < n
        · rw [if_pos h, ← hrd i (Nat.le_refl _)]; exact hrr i (by omega)
        · rw [if_neg h]; decide
      have hb2 : (if i < n2 then d2 i else 0) < B30 := by
        by_cases h : i < n2
        · rw [if_pos h]; exact hd2 i (by omega)
        · rw [if_neg h]; decide
      generalize hA : (if i < n then d i else 0) = A at ha ⊢
      generalize hB : (if i < n2 then d2 i else 0) = B at hb2 ⊢
      have hB30 : B30 = 1073741824 := rfl
      refine lv_iadd hx hb d_W_addSize_41 ?_
      refine l_top (nI_add _ _) ?_
      refine lv_iadd hx hb d_W_addSize_42 ?_
      refine l_top (nI_add _ _) ?_
      refine lv_istore_n hx hb d_W_addSize_43 rfl hl (by decide) rfl (fun ls hl => ?_)
      refine lv_aload_n hx hb d_W_addSize_44 rfl (lv_at hl 1 rfl) ?_
      refine k_get hx hb hG lay_W hown hw 0 rfl rfl 0 (by decide) (hG _ fl_W_11) (fun _ h9 => h9) rfl d_W_addSize_45 ?_
      refine lv_iload hx hb d_W_addSize_48 (lv_at hl 4 rfl) ?_
      refine lv_iload_n hx hb d_W_addSize_50 rfl (lv_at hl 0 rfl) ?_
      refine lv_ldc hx hb hown (hG _ ct_W_91) d_W_addSize_51 ?_
      refine lv_iand hx hb d_W_addSize_53 ?_
      refine l_top (pk_andN (by omega) 30 (by decide)) ?_
      refine k_iast hx hb hw 1 0 rfl rfl (i) (rfl) (by omega) (by first | decide | omega) d_W_addSize_54 (fun H locs hw => ?_)
      rw [nD_upd] at hw
      refine lv_iload_n hx hb d_W_addSize_55 rfl (lv_at hl 0 rfl) ?_
      refine lv_bipush (v := 30) hx hb d_W_addSize_56 (by decide) ?_
      refine lv_ishr hx hb d_W_addSize_58 ?_
      refine l_top (pk_shrN (by omega) _ 30 (by decide)) ?_
      refine lv_istore_n hx hb d_W_addSize_59 rfl hl (by decide) rfl (fun ls hl => ?_)
      refine lv_iinc (k := 4) hx hb d_W_addSize_60 hl rfl (ii1 i) (by decide) rfl (fun ls hl => ?_)
      refine lv_goto (tgt := 22) hx hb d_W_addSize_63 (by decide) ?_
      have hl := lv_sub hl [2, 3, 4, 1, 0] rfl
      have e1 : (cy + (A + B)) % 2 ^ 30 = (cy + (A + B)) % B30 := rfl
      have e2 : (cy + (A + B)) / 2 ^ 30 = (cy + (A + B)) / B30 := rfl
      rw [e1] at hw
      rw [e2] at hl
      refine ih (i + 1) ((cy + (A + B)) / B30) (va_up r i ((cy + (A + B)) % B30)) H locs ls (by omega) ?_ (fun t ht => ?_) (fun t ht => ?_) ?_ hl hw kx
      · have : (cy + (A + B)) / B30 < 2 := by rw [Nat.div_lt_iff_lt_mul (by decide)]; omega
        omega
      · by_cases e : t = i
        · rw [e, va_up_self]; exact Nat.mod_lt _ (by decide)
        · rw [va_up_ne _ _ e]; exact hrr t ht
      · rw [va_up_ne _ _ (by omega)]; exact hrd t (by omega)
      · rw [add_step he]
        show _ = (cd B30 i _ + (if i < n then d i else 0) * B30 ^ i) + (cd B30 i _ + (if i < n2 then d2 i else 0) * B30 ^ i)
        rw [hA, hB, Nat.add_mul]
        omega
end ADD
set_option maxRecDepth 100000 in
set_option maxHeartbeats 4000000 in
/-- addSize(o): the size grows by the other's; zeros may stand at the top -/
theorem m_W_addSize (l : Launch) (D : va_G) (k : Nat → ClassId) (L : List Nat) (f : Nat → va_E) (x xl n o ol n2 : Nat) (g g2 : Int32) (d d2 : Nat → Nat) (hn : n ≤ 11) (hn2 : n2 ≤ 11) (hd : ∀ i, i < 12 → d i < B30) (hd2 : ∀ i, i < 12 → d2 i < B30) (hk : kn L f f [(x, cW xl n g), (xl, cD k d), (o, cW ol n2 g2), (ol, cD k d2)]) : Mv l y_W_addSize (Cond.code y_W_addSize c_W_addSize 5 none :: G) (rmN 1) D cls (tyl k) L f [.ref x, .ref o] (fun f' => ∃ (n' : Nat) (r : Nat → Nat), n' ≤ 12 ∧ (∀ i, i < 12 → r i < B30) ∧ cd B30 n' r = cd B30 n d + cd B30 n2 d2 ∧ kn L f f' [(x, cW xl n' g), (xl, cD k r), (o, cW ol n2 g2), (ol, cD k d2)]) := by
  -- METHOD W_addSize | loc 0=x 1=o | ws x xl o ol | fld x.limbs=xl o.limbs=ol
  refine mk_met (by decide) (Nat.le_of_ble_eq_true rfl) (fun p e s m below meth c ls S hr hlocks hw hl => ?_)
  have hx := S.1
  have hb := S.2.1
  have hown : s.vm.findClass R_W = some m.cls := S.2.2.2.1
  have hG := S.2.2.2.2
  have hl : lv_has ls 5 [(0, .ref x), (1, .ref o)] := hl
  have hg := hw
  have hw : kw D cls (tyl k) L s s.heap f [(x, cW xl n g), (xl, cD k d), (o, cW ol n2 g2), (ol, cD k d2)] s.heap [] := ⟨f, hw, hk⟩
  refine lv_aload_n hx hb d_W_addSize_0 rfl (lv_at hl 0 rfl) ?_
  refine k_get hx hb hG lay_W hown hw 0 rfl rfl 1 (by decide) (hG _ fl_W_15) (fun _ h9 => h9) rfl d_W_addSize_1 ?_
  refine lv_aload_n hx hb d_W_addSize_4 rfl (lv_at hl 1 rfl) ?_
  refine k_get hx hb hG lay_W hown hw 2 rfl rfl 1 (by decide) (hG _ fl_W_15) (fun _ h9 => h9) rfl d_W_addSize_5 ?_
  have hw := hg
  refine g_oi (c_X (np := 2) S (m_max l D k L f (nI n) (nI n2)) hw ml_W_84 st_JM_max_1 in_JM co_JM_max_1 (by decide +kernel) rfl ⟨rfl, rfl, by decide, by decide⟩ hl.1 rfl (by simp [Value.category]) d_W_addSize_8 ⟨Nat.zero_le _, Nat.zero_le _⟩) hw (fun r1 f1 H locs hp hw2 => ?_)
  have e1 : r1 = nI (max n n2) := by
    rw [hp.2]
    by_cases h : n < n2
    · rw [if_pos (nI_lt h (by omega)), Nat.max_eq_right (by omega)]
    · rw [if_neg (nI_nlt (by omega) (by omega)), Nat.max_eq_left (by omega)]
  rw [hp.1] at hw2
  have hw := hw2
  refine l_top e1 ?_
  refine lv_bipush (v := 11) hx hb d_W_addSize_11 (by decide) ?_
  refine g_oi (c_X (np := 2) S (m_min l D k L f (nI (max n n2)) 11) hw ml_W_86 st_JM_min_1 in_JM co_JM_min_1 (by decide +kernel) rfl ⟨rfl, rfl, by decide, by decide⟩ hl.1 rfl (by simp [Value.category]) d_W_addSize_13 ⟨Nat.zero_le _, Nat.zero_le _⟩) hw (fun r2 f2 H locs hp2 hw3 => ?_)
  have e2 : r2 = nI (max n n2) := by
    rw [hp2.2, if_neg]
    exact nI_nlt (a := 11) (b := max n n2) (by omega) (by omega)
  rw [hp2.1] at hw3
  refine l_top e2 ?_
  have hw : kw D cls (tyl k) L s s.heap f [(x, cW xl n g), (xl, cD k d), (o, cW ol n2 g2), (ol, cD k d2)] H locs := ⟨f, hw3, hk⟩
  refine lv_istore_n hx hb d_W_addSize_16 rfl hl (by decide) rfl (fun ls hl => ?_)
  refine lv_iconst (v := 0) hx hb d_W_addSize_17 (by decide) ?_
  refine lv_istore_n hx hb d_W_addSize_18 rfl hl (by decide) rfl (fun ls hl => ?_)
  refine lv_iconst (v := 0) hx hb d_W_addSize_19 (by decide) ?_
  refine lv_istore hx hb d_W_addSize_20 hl (by decide) rfl (fun ls hl => ?_)
  have hl := lv_sub hl [3, 4, 2, 1, 0] rfl
  refine w_add (d := d) S (by omega) (by omega) (show max n n2 ≤ 11 by omega) hd2 (max n n2) 0 0 d _ _ ls (by omega) (by omega) hd (fun _ _ => rfl) rfl hl hw (fun cy r H locs ls hcy hrr he hl hw => ?_)
  -- METHOD W_addSize | loc 0=x 1=o 2=en 3=cy 4=i | ws x xl o ol | fld x.limbs=xl o.limbs=ol
  refine lv_aload_n hx hb d_W_addSize_66 rfl (lv_at hl 0 rfl) ?_
  refine k_get hx hb hG lay_W hown hw 0 rfl rfl 0 (by decide) (hG _ fl_W_11) (fun _ h9 => h9) rfl d_W_addSize_67 ?_
  refine lv_iload_n hx hb d_W_addSize_70 rfl (lv_at hl 2 rfl) ?_
  refine lv_iload_n hx hb d_W_addSize_71 rfl (lv_at hl 3 rfl) ?_
  refine k_iast hx hb hw 1 0 rfl rfl ((max n n2)) (rfl) (by omega) (by first | decide | omega) d_W_addSize_72 (fun H locs hw => ?_)
  rw [nD_upd] at hw
  refine lv_aload_n hx hb d_W_addSize_73 rfl (lv_at hl 0 rfl) ?_
  refine lv_iload_n hx hb d_W_addSize_74 rfl (lv_at hl 2 rfl) ?_
  refine lv_iconst (v := 1) hx hb d_W_addSize_75 (by decide) ?_
  refine lv_iadd hx hb d_W_addSize_76 ?_
  refine l_top (nI_1 _) ?_
  refine k_put (ty := .int) hx hb hG lay_W ft_W ft_W_ok fn_W hown hw 0 rfl rfl 1 (by decide) (hG _ fl_W_15) (fun _ h9 => h9) rfl (by decide +kernel) rfl rfl (by simp) d_W_addSize_77 (fun H locs hw => ?_)
  obtain ⟨f', hw, hk'⟩ := hw
  refine g_retv hx hb hr hlocks hw ⟨max n n2 + 1, va_up r (max n n2) cy, by omega, fun t ht => ?_, ?_, hk'⟩ d_W_addSize_80
  · by_cases e : t = max n n2
    · rw [e, va_up_self]; unfold B30; omega
    · rw [va_up_ne _ _ e]; exact hrr t ht
  · rw [cd_put, he]
    have q1 : cd B30 (max n n2) (fun t => if t < n then d t else 0) = cd B30 n d := by
      rw [cd_top (m := n) (by omega) (fun i h1 _ => if_neg (by omega))]
      exact cd_congr n (fun i hi => if_pos hi)
    have q2 : cd B30 (max n n2) (fun t => if t < n2 then d2 t else 0) = cd B30 n2 d2 := by
      rw [cd_top (m := n2) (by omega) (fun i h1 _ => if_neg (by omega))]
      exact cd_congr n2 (fun i hi => if_pos hi)
    rw [q1, q2]
end
section
-- ===== Whole: setDifference, subtract =====
theorem sub_step {i : Nat} {cy w : Int} {r : Nat → Nat} {S : Int} (h : (cd B30 i r : Int) + cy * (B30 : Int) ^ i = S) : (cd B30 (i + 1) (va_up r i ((cy + w) % 1073741824).toNat) : Int) + (cy + w) / 1073741824 * (B30 : Int) ^ (i + 1) = S + w * (B30 : Int) ^ i := by
  have h1 := carry1 (B := B30) (by decide) (w := w) h
  rw [cd_put, Int.natCast_add, Int.natCast_mul, Int.natCast_pow]
  have e1 : (((cy + w) % 1073741824).toNat : Int) = (cy + w) % (B30 : Int) := by
    have : (B30 : Int) = 1073741824 := rfl
    rw [this]; omega
  have e2 : (cy + w) / 1073741824 = (cy + w) / (B30 : Int) := rfl
  rw [e1, e2]
  exact h1
theorem cd_int_succ (i : Nat) (d : Nat → Nat) : (cd B30 (i + 1) d : Int) = (cd B30 i d : Int) + (d i : Int) * (B30 : Int) ^ i := by
  show ((cd B30 i d + d i * B30 ^ i : Nat) : Int) = _
  rw [Int.natCast_add, Int.natCast_mul, Int.natCast_pow]
section DIFF
variable {p : Program} {l : Launch} {e : Env} {s : State} {m : MethodId} {args : Array Value} {below : List Frame} {meth : Method} {c : Code} {Q : State → Prop} {D : va_G} {k : Nat → ClassId} {L : List Nat} {f0 : Nat → va_E} {H0 : Heap}
set_option maxRecDepth 100000 in
set_option maxHeartbeats 4000000 in
theorem w_diffA (S : CallFix p m c c_W_setDifference 5 s args G R_W) {x xl o ol n n2 : Nat} {g g2 : Int32} {d d2 : Nat → Nat} (hn : n ≤ 12) (hn2 : n2 ≤ 12) (hd2 : ∀ i, i < 12 → d2 i < B30) :
    ∀ (j i : Nat) (cy : Int) (r : Nat → Nat) (H : Heap) (locs : List Loc) (ls : Array Slot), i + j = n → (cy = 0 ∨ cy = -1) → (∀ t, t < 12 → r t < B30) → (∀ t, i ≤ t → r t = d t) → (cd B30 i r : Int) + cy * (B30 : Int) ^ i = (cd B30 i d : Int) - (cd B30 i (fun t => if t < n2 then d2 t else 0) : Int) →
    lv_has ls 5 [(0, .ref x), (1, .ref x), (2, .ref o), (3, .int (zI cy)), (4, .int (nI i))] → kw D cls (tyl k) L s H0 f0 [(x, cW xl n g), (xl, cD k r), (o, cW ol n2 g2), (ol, cD k d2)] H locs →
    (∀ (cy : Int) (r : Nat → Nat) (H : Heap) (locs : List Loc) (ls : Array Slot), (cy = 0 ∨ cy = -1) → (∀ t, t < 12 → r t < B30) → (cd B30 n r : Int) + cy * (B30 : Int) ^ n = (cd B30 n d : Int) - (cd B30 n (fun t => if t < n2 then d2 t else 0) : Int) → lv_has ls 5 [(0, .ref x), (1, .ref x), (2, .ref o), (3, .int (zI cy)), (4, .int (nI n))] → kw D cls (tyl k) L s H0 f0 [(x, cW xl n g), (xl, cD k r), (o, cW ol n2 g2), (ol, cD k d2)] H locs → W p l e (rmN 1) s m args below meth c H locs 0 0 Q (F0 m 53 ls [])) →
    W p l e (rmN 1) s m args below meth c H locs 0 0 Q (F0 m 5 ls []) := by
  have hx := S.1
  have hb := S.2.1
  have hown : s.vm.findClass R_W = some m.cls := S.2.2.2.1
  have hG := S.2.2.2.2
  intro j
  induction j with
  | zero =>
    intro i cy r H locs ls hij hcy hrr hrd he hl hw kx
    have hij : i = n := by omega
    subst hij
    -- METHOD W_setDifference | loc 0=x 1=x 2=o 3=cy 4=i | ws x xl o ol | fld x.limbs=xl o.limbs=ol
    refine lv_iload hx hb d_W_setDifference_5 (lv_at hl 4 rfl) ?_
    refine lv_aload_n hx hb d_W_setDifference_7 rfl (lv_at hl 1 rfl) ?_
    refine k_get hx hb hG lay_W hown hw 0 rfl rfl 1 (by decide) (hG _ fl_W_15) (fun _ h9 => h9) rfl d_W_setDifference_8 ?_
    refine lv_icmp_ge (tgt := 53) hx hb d_W_setDifference_11 (by decide) (fun hc => ?_) (fun hc => ?_)
    · exact kx cy r H locs ls hcy hrr he hl hw
    · exact absurd (nI_le (Nat.le_refl _) (by omega)) hc
  | succ j ih =>
    intro i cy r H locs ls hij hcy hrr hrd he hl hw kx
    -- METHOD W_setDifference | loc 0=x 1=x 2=o 3=cy 4=i | ws x xl o ol | fld x.limbs=xl o.limbs=ol
    refine lv_iload hx hb d_W_setDifference_5 (lv_at hl 4 rfl) ?_
    refine lv_aload_n hx hb d_W_setDifference_7 rfl (lv_at hl 1 rfl) ?_
    refine k_get hx hb hG lay_W hown hw 0 rfl rfl 1 (by decide) (hG _ fl_W_15) (fun _ h9 => h9) rfl d_W_setDifference_8 ?_
    refine lv_icmp_ge (tgt := 53) hx hb d_W_setDifference_11 (by decide) (fun hc => ?_) (fun hc => ?_)
    · exact absurd hc (nI_ge (by omega) (by omega))
    · -- STK
      refine lv_iload_n hx hb d_W_setDifference_14 rfl (lv_at hl 3 rfl) ?_
      refine lv_aload_n hx hb d_W_setDifference_15 rfl (lv_at hl 1 rfl) ?_
      refine k_get hx hb hG lay_W hown hw 0 rfl rfl 0 (by decide) (hG _ fl_W_11) (fun _ h9 => h9) rfl d_W_setDifference_16 ?_
      refine lv_iload hx hb d_W_setDifference_19 (lv_at hl 4 rfl) ?_
      refine k_iald hx hb hw 1 0 rfl rfl (i) (rfl) (by omega) (by first | decide | omega) d_W_setDifference_21 ?_
      refine l_top (show nD r i = nI (d i) from by rw [← hrd i (Nat.le_refl _)]; rfl) ?_
      obtain ⟨f, hw, hk⟩ := hw
      refine lv_aload_n hx hb d_W_setDifference_22 rfl (lv_at hl 2 rfl) ?_
      refine lv_iload hx hb d_W_setDifference_23 (lv_at hl 4 rfl) ?_
      refine g_oi (c_V (np := 1) S (m_W_limbAt l D k L f o ol n2 g2 d2 i hn2 (by omega) (kn_sub hk [2, 3] rfl rfl)) hw ((hk.1 2 _ rfl).1) ((hk.1 2 _ rfl).2) rfl ml_W_88 im_W_limbAt se_W_W_limbAt in_W co_W_limbAt (by decide +kernel) rfl ⟨rfl, rfl, by decide, by decide⟩ hl.1 rfl (by simp [Value.category]) d_W_setDifference_25 ⟨Nat.zero_le _, Nat.zero_le _⟩) hw (fun r1 f1 H locs hp hw2 => ?_)
      rw [hp.1] at hw2
      have hw : kw D cls (tyl k) L s H0 f0 [(x, cW xl n g), (xl, cD k r), (o, cW ol n2 g2), (ol, cD k d2)] H locs := ⟨f, hw2, hk⟩
      refine l_top hp.2 ?_
      have ha : d i < B30 := hrd i (Nat.le_refl _) ▸ hrr i (by omega)
      have hb2 : (if i < n2 then d2 i else 0) < B30 := by
        by_cases h : i < n2
        · rw [if_pos h]; exact hd2 i (by omega)
        · rw [if_neg h]; decide
      generalize hA : d i = A at ha ⊢
      generalize hB : (if i < n2 then d2 i else 0) = B at hb2 ⊢
      have hB30 : B30 = 1073741824 := rfl
      have hcr : -1 ≤ cy ∧ cy ≤ 0 := by omega
      refine lv_isub hx hb d_W_setDifference_28 ?_
      refine l_top (show nI A - nI B = zI ((A : Int) - B) by rw [← zI_n, ← zI_n, zI_sub]) ?_
      refine lv_iadd hx hb d_W_setDifference_29 ?_
      refine l_top (zI_add _ _) ?_
      refine lv_istore_n hx hb d_W_setDifference_30 rfl hl (by decide) rfl (fun ls hl => ?_)
      refine lv_aload_n hx hb d_W_setDifference_31 rfl (lv_at hl 1 rfl) ?_
      refine k_get hx hb hG lay_W hown hw 0 rfl rfl 0 (by decide) (hG _ fl_W_11) (fun _ h9 => h9) rfl d_W_setDifference_32 ?_
      refine lv_iload hx hb d_W_setDifference_35 (lv_at hl 4 rfl) ?_
      refine lv_iload_n hx hb d_W_setDifference_37 rfl (lv_at hl 0 rfl) ?_
      refine lv_ldc hx hb hown (hG _ ct_W_91) d_W_setDifference_38 ?_
      refine lv_iand hx hb d_W_setDifference_40 ?_
      refine l_top (zI_and30 _) ?_
      refine l_top (show zI ((cy + ((A : Int) - B)) % 1073741824) = nI ((cy + ((A : Int) - B)) % 1073741824).toNat by rw [← zI_n]; congr 1; omega) ?_
      refine k_iast hx hb hw 1 0 rfl rfl (i) (rfl) (by omega) (by first | decide | omega) d_W_setDifference_41 (fun H locs hw => ?_)
      rw [nD_upd] at hw
      refine lv_iload_n hx hb d_W_setDifference_42 rfl (lv_at hl 0 rfl) ?_
      refine lv_bipush (v := 30) hx hb d_W_setDifference_43 (by decide) ?_
      refine lv_ishr hx hb d_W_setDifference_45 ?_
      refine l_top (zI_shr30 ⟨by omega, by omega⟩) ?_
      refine lv_istore_n hx hb d_W_setDifference_46 rfl hl (by decide) rfl (fun ls hl => ?_)
      refine lv_iinc (k := 4) hx hb d_W_setDifference_47 hl rfl (ii1 i) (by decide) rfl (fun ls hl => ?_)
      refine lv_goto (tgt := 5) hx hb d_W_setDifference_50 (by decide) ?_
      have hl := lv_sub hl [2, 3, 4, 1, 0] rfl
      refine ih (i + 1) ((cy + ((A : Int) - B)) / 1073741824) (va_up r i ((cy + ((A : Int) - B)) % 1073741824).toNat) H locs ls (by omega) (by omega) (fun t ht => ?_) (fun t ht => ?_) ?_ hl hw kx
      · by_cases e : t = i
        · rw [e, va_up_self, hB30]; omega
        · rw [va_up_ne _ _ e]; exact hrr t ht
      · rw [va_up_ne _ _ (by omega)]; exact hrd t (by omega)
      · rw [sub_step he, cd_int_succ, cd_int_succ]
        show _ = _ - (_ + ((if i < n2 then d2 i else 0 : Nat) : Int) * _)
        rw [hA, hB, Int.sub_mul]
        omega
set_option maxRecDepth 100000 in
set_option maxHeartbeats 4000000 in
theorem w_diffB (S : CallFix p m c c_W_setDifference 5 s args G R_W) {x xl o ol n n2 : Nat} {g g2 : Int32} {d d2 : Nat → Nat} (hn : n ≤ 12) (hn2 : n2 ≤ 12) (hd2 : ∀ i, i < 12 → d2 i < B30) :
    ∀ (j i : Nat) (cy : Int) (r : Nat → Nat) (H : Heap) (locs : List Loc) (ls : Array Slot), i + j = n2 → (cy = 0 ∨ cy = -1) → (∀ t, t < 12 → r t < B30) → (∀ t, i ≤ t → r t = d t) → (cd B30 i r : Int) + cy * (B30 : Int) ^ i = (cd B30 i d2 : Int) - (cd B30 i (fun t => if t < n then d t else 0) : Int) →
    lv_has ls 5 [(0, .ref x), (1, .ref o), (2, .ref x), (3, .int (zI cy)), (4, .int (nI i))] → kw D cls (tyl k) L s H0 f0 [(x, cW xl n g), (xl, cD k r), (o, cW ol n2 g2), (ol, cD k d2)] H locs →
    (∀ (cy : Int) (r : Nat → Nat) (H : Heap) (locs : List Loc) (ls : Array Slot), (cy = 0 ∨ cy = -1) → (∀ t, t < 12 → r t < B30) → (cd B30 n2 r : Int) + cy * (B30 : Int) ^ n2 = (cd B30 n2 d2 : Int) - (cd B30 n2 (fun t => if t < n then d t else 0) : Int) → lv_has ls 5 [(0, .ref x), (1, .ref o), (2, .ref x), (3, .int (zI cy)), (4, .int (nI n2))] → kw D cls (tyl k) L s H0 f0 [(x, cW xl n g), (xl, cD k r), (o, cW ol n2 g2), (ol, cD k d2)] H locs → W p l e (rmN 1) s m args below meth c H locs 0 0 Q (F0 m 53 ls [])) →
    W p l e (rmN 1) s m args below meth c H locs 0 0 Q (F0 m 5 ls []) := by
  have hx := S.1
  have hb := S.2.1
  have hown : s.vm.findClass R_W = some m.cls := S.2.2.2.1
  have hG := S.2.2.2.2
  intro j
  induction j with
  | zero =>
    intro i cy r H locs ls hij hcy hrr hrd he hl hw kx
    have hij : i = n2 := by omega
    subst hij
    -- METHOD W_setDifference | loc 0=x 1=o 2=x 3=cy 4=i | ws x xl o ol | fld x.limbs=xl o.limbs=ol
    refine lv_iload hx hb d_W_setDifference_5 (lv_at hl 4 rfl) ?_
    refine lv_aload_n hx hb d_W_setDifference_7 rfl (lv_at hl 1 rfl) ?_
    refine k_get hx hb hG lay_W hown hw 2 rfl rfl 1 (by decide) (hG _ fl_W_15) (fun _ h9 => h9) rfl d_W_setDifference_8 ?_
    refine lv_icmp_ge (tgt := 53) hx hb d_W_setDifference_11 (by decide) (fun hc => ?_) (fun hc => ?_)
    · exact kx cy r H locs ls hcy hrr he hl hw
    · exact absurd (nI_le (Nat.le_refl _) (by omega)) hc
  | succ j ih =>
    intro i cy r H locs ls hij hcy hrr hrd he hl hw kx
    -- METHOD W_setDifference | loc 0=x 1=o 2=x 3=cy 4=i | ws x xl o ol | fld x.limbs=xl o.limbs=ol
    refine lv_iload hx hb d_W_setDifference_5 (lv_at hl 4 rfl) ?_
    refine lv_aload_n hx hb d_W_setDifference_7 rfl (lv_at hl 1 rfl) ?_
    refine k_get hx hb hG lay_W hown hw 2 rfl rfl 1 (by decide) (hG _ fl_W_15) (fun _ h9 => h9) rfl d_W_setDifference_8 ?_
    refine lv_icmp_ge (tgt := 53) hx hb d_W_setDifference_11 (by decide) (fun hc => ?_) (fun hc => ?_)
    · exact absurd hc (nI_ge (by omega) (by omega))
    · -- STK
      refine lv_iload_n hx hb d_W_setDifference_14 rfl (lv_at hl 3 rfl) ?_
      refine lv_aload_n hx hb d_W_setDifference_15 rfl (lv_at hl 1 rfl) ?_
      refine k_get hx hb hG lay_W hown hw 2 rfl rfl 0 (by decide) (hG _ fl_W_11) (fun _ h9 => h9) rfl d_W_setDifference_16 ?_
      refine lv_iload hx hb d_W_setDifference_19 (lv_at hl 4 rfl) ?_
      refine k_iald hx hb hw 3 0 rfl rfl (i) (rfl) (by omega) (by first | decide | omega) d_W_setDifference_21 ?_
      refine l_top (show nD d2 i = nI (d2 i) from rfl) ?_
      obtain ⟨f, hw, hk⟩ := hw
      refine lv_aload_n hx hb d_W_setDifference_22 rfl (lv_at hl 2 rfl) ?_
      refine lv_iload hx hb d_W_setDifference_23 (lv_at hl 4 rfl) ?_
      refine g_oi (c_V (np := 1) S (m_W_limbAt l D k L f x xl n g r i hn (by omega) (kn_sub hk [0, 1] rfl rfl)) hw ((hk.1 0 _ rfl).1) ((hk.1 0 _ rfl).2) rfl ml_W_88 im_W_limbAt se_W_W_limbAt in_W co_W_limbAt (by decide +kernel) rfl ⟨rfl, rfl, by decide, by decide⟩ hl.1 rfl (by simp [Value.category]) d_W_setDifference_25 ⟨Nat.zero_le _, Nat.zero_le _⟩) hw (fun r1 f1 H locs hp hw2 => ?_)
      rw [hp.1] at hw2
      have hw : kw D cls (tyl k) L s H0 f0 [(x, cW xl n g), (xl, cD k r), (o, cW ol n2 g2), (ol, cD k d2)] H locs := ⟨f, hw2, hk⟩
      refine l_top hp.2 ?_
      rw [show (if i < n then r i else 0) = (if i < n then d i else 0) by rw [hrd i (Nat.le_refl _)]]
      have ha : d2 i < B30 := hd2 i (by omega)
      have hb2 : (if i < n then d i else 0) < B30 := by
        by_cases h : i < n
        · rw [if_pos h, ← hrd i (Nat.le_refl _)]; exact hrr i (by omega)
        · rw [if_neg h]; decide
      generalize hA : d2 i = A at ha ⊢
      generalize hB : (if i < n then d i else 0) = B at hb2 ⊢
      have hB30 : B30 = 1073741824 := rfl
      have hcr : -1 ≤ cy ∧ cy ≤ 0 := by omega
      refine lv_isub hx hb d_W_setDifference_28 ?_
      refine l_top (show nI A - nI B = zI ((A : Int) - B) by rw [← zI_n, ← zI_n, zI_sub]) ?_
      refine lv_iadd hx hb d_W_setDifference_29 ?_
      refine l_top (zI_add _ _) ?_
      refine lv_istore_n hx hb d_W_setDifference_30 rfl hl (by decide) rfl (fun ls hl => ?_)
      refine lv_aload_n hx hb d_W_setDifference_31 rfl (lv_at hl 1 rfl) ?_
      refine k_get hx hb hG lay_W hown hw 0 rfl rfl 0 (by decide) (hG _ fl_W_11) (fun _ h9 => h9) rfl d_W_setDifference_32 ?_
      refine lv_iload hx hb d_W_setDifference_35 (lv_at hl 4 rfl) ?_
      refine lv_iload_n hx hb d_W_setDifference_37 rfl (lv_at hl 0 rfl) ?_
      refine lv_ldc hx hb hown (hG _ ct_W_91) d_W_setDifference_38 ?_
      refine lv_iand hx hb d_W_setDifference_40 ?_
      refine l_top (zI_and30 _) ?_
      refine l_top (show zI ((cy + ((A : Int) - B)) % 1073741824) = nI ((cy + ((A : Int) - B)) % 1073741824).toNat by rw [← zI_n]; congr 1; omega) ?_
      refine k_iast hx hb hw 1 0 rfl rfl (i) (rfl) (by omega) (by first | decide | omega) d_W_setDifference_41 (fun H locs hw => ?_)
      rw [nD_upd] at hw
      refine lv_iload_n hx hb d_W_setDifference_42 rfl (lv_at hl 0 rfl) ?_
      refine lv_bipush (v := 30) hx hb d_W_setDifference_43 (by decide) ?_
      refine lv_ishr hx hb d_W_setDifference_45 ?_
      refine l_top (zI_shr30 ⟨by omega, by omega⟩) ?_
      refine lv_istore_n hx hb d_W_setDifference_46 rfl hl (by decide) rfl (fun ls hl => ?_)
      refine lv_iinc (k := 4) hx hb d_W_setDifference_47 hl rfl (ii1 i) (by decide) rfl (fun ls hl => ?_)
      refine lv_goto (tgt := 5) hx hb d_W_setDifference_50 (by decide) ?_
      have hl := lv_sub hl [2, 3, 4, 1, 0] rfl
      refine ih (i + 1) ((cy + ((A : Int) - B)) / 1073741824) (va_up r i ((cy + ((A : Int) - B)) % 1073741824).toNat) H locs ls (by omega) (by omega) (fun t ht => ?_) (fun t ht => ?_) ?_ hl hw kx
      · by_cases e : t = i
        · rw [e, va_up_self, hB30]; omega
        · rw [va_up_ne _ _ e]; exact hrr t ht
      · rw [va_up_ne _ _ (by omega)]; exact hrd t (by omega)
      · rw [sub_step he, cd_int_succ, cd_int_succ]
        show _ = _ - (_ + ((if i < n then d i else 0 : Nat) : Int) * _)
        rw [hA, hB, Int.sub_mul]
        omega
end DIFF
set_option maxRecDepth 100000 in
set_option maxHeartbeats 4000000 in
theorem m_W_diffA (l : Launch) (D : va_G) (k : Nat → ClassId) (L : List Nat) (f : Nat → va_E) (x xl n o ol n2 : Nat) (g g2 : Int32) (d d2 : Nat → Nat) (hn : n ≤ 12) (hn2 : n2 ≤ 12) (hd : ∀ i, i < 12 → d i < B30) (hd2 : ∀ i, i < 12 → d2 i < B30) (hle : cd B30 n2 d2 ≤ cd B30 n d) (hnn : n2 ≤ n) (hk : kn L f f [(x, cW xl n g), (xl, cD k d), (o, cW ol n2 g2), (ol, cD k d2)]) : Mv l y_W_setDifference (Cond.code y_W_setDifference c_W_setDifference 5 none :: G) (rmN 1) D cls (tyl k) L f [.ref x, .ref x, .ref o] (fun f' => ∃ (r : Nat → Nat), (∀ i, i < 12 → r i < B30) ∧ cd B30 n r + cd B30 n2 d2 = cd B30 n d ∧ kn L f f' [(x, cW xl n g), (xl, cD k r), (o, cW ol n2 g2), (ol, cD k d2)]) := by
  -- METHOD W_setDifference | loc 0=x 1=x 2=o | ws x xl o ol | fld x.limbs=xl o.limbs=ol
  refine mk_met (by decide) (Nat.le_of_ble_eq_true rfl) (fun p e s m below meth c ls S hr hlocks hw hl => ?_)
  have hx := S.1
  have hb := S.2.1
  have hown : s.vm.findClass R_W = some m.cls := S.2.2.2.1
  have hG := S.2.2.2.2
  have hl : lv_has ls 5 [(0, .ref x), (1, .ref x), (2, .ref o)] := hl
  have hg := hw
  have hw : kw D cls (tyl k) L s s.heap f [(x, cW xl n g), (xl, cD k d), (o, cW ol n2 g2), (ol, cD k d2)] s.heap [] := ⟨f, hw, hk⟩
  refine lv_iconst (v := 0) hx hb d_W_setDifference_0 (by decide) ?_
  refine lv_istore_n hx hb d_W_setDifference_1 rfl hl (by decide) rfl (fun ls hl => ?_)
  refine lv_iconst (v := 0) hx hb d_W_setDifference_2 (by decide) ?_
  refine lv_istore hx hb d_W_setDifference_3 hl (by decide) rfl (fun ls hl => ?_)
  have hl := lv_sub hl [2, 3, 4, 1, 0] rfl
  refine w_diffA (d := d) S hn hn2 hd2 n 0 0 d _ _ ls (by omega) (Or.inl rfl) hd (fun _ _ => rfl) rfl hl hw (fun cy r H locs ls hcy hrr he hl hw => ?_)
  -- METHOD W_setDifference | loc 0=x 1=x 2=o 3=cy 4=i | ws x xl o ol | fld x.limbs=xl o.limbs=ol
  refine lv_aload_n hx hb d_W_setDifference_53 rfl (lv_at hl 0 rfl) ?_
  refine lv_aload_n hx hb d_W_setDifference_54 rfl (lv_at hl 1 rfl) ?_
  refine k_get hx hb hG lay_W hown hw 0 rfl rfl 1 (by decide) (hG _ fl_W_15) (fun _ h9 => h9) rfl d_W_setDifference_55 ?_
  refine k_put (ty := .int) hx hb hG lay_W ft_W ft_W_ok fn_W hown hw 0 rfl rfl 1 (by decide) (hG _ fl_W_15) (fun _ h9 => h9) rfl (by decide +kernel) rfl rfl (by simp) d_W_setDifference_58 (fun H locs hw => ?_)
  obtain ⟨f', hw, hk'⟩ := hw
  refine g_retv hx hb hr hlocks hw ⟨r, hrr, ?_, hk'⟩ d_W_setDifference_61
  have q2 : cd B30 n (fun t => if t < n2 then d2 t else 0) = cd B30 n2 d2 := by
    rw [cd_top (m := n2) hnn (fun i h1 _ => if_neg (by omega))]
    exact cd_congr n2 (fun i hi => if_pos hi)
  rw [q2] at he
  have hlt := cd_lt n (b := B30) (d := r) (fun i hi => hrr i (by omega))
  have hP : (B30 : Int) ^ n = ((B30 ^ n : Nat) : Int) := (Int.natCast_pow _ _).symm
  rw [hP] at he
  rcases hcy with h | h
  · rw [h, Int.zero_mul] at he; omega
  · rw [h] at he; omega
set_option maxRecDepth 100000 in
set_option maxHeartbeats 4000000 in
theorem m_W_diffB (l : Launch) (D : va_G) (k : Nat → ClassId) (L : List Nat) (f : Nat → va_E) (x xl n o ol n2 : Nat) (g g2 : Int32) (d d2 : Nat → Nat) (hn : n ≤ 12) (hn2 : n2 ≤ 12) (hd : ∀ i, i < 12 → d i < B30) (hd2 : ∀ i, i < 12 → d2 i < B30) (hle : cd B30 n d ≤ cd B30 n2 d2) (hnn : n ≤ n2) (hk : kn L f f [(x, cW xl n g), (xl, cD k d), (o, cW ol n2 g2), (ol, cD k d2)]) : Mv l y_W_setDifference (Cond.code y_W_setDifference c_W_setDifference 5 none :: G) (rmN 1) D cls (tyl k) L f [.ref x, .ref o, .ref x] (fun f' => ∃ (r : Nat → Nat), (∀ i, i < 12 → r i < B30) ∧ cd B30 n2 r + cd B30 n d = cd B30 n2 d2 ∧ kn L f f' [(x, cW xl n2 g), (xl, cD k r), (o, cW ol n2 g2), (ol, cD k d2)]) := by
  -- METHOD W_setDifference | loc 0=x 1=o 2=x | ws x xl o ol | fld x.limbs=xl o.limbs=ol
  refine mk_met (by decide) (Nat.le_of_ble_eq_true rfl) (fun p e s m below meth c ls S hr hlocks hw hl => ?_)
  have hx := S.1
  have hb := S.2.1
  have hown : s.vm.findClass R_W = some m.cls := S.2.2.2.1
  have hG := S.2.2.2.2
  have hl : lv_has ls 5 [(0, .ref x), (1, .ref o), (2, .ref x)] := hl
  have hg := hw
  have hw : kw D cls (tyl k) L s s.heap f [(x, cW xl n g), (xl, cD k d), (o, cW ol n2 g2), (ol, cD k d2)] s.heap [] := ⟨f, hw, hk⟩
  refine lv_iconst (v := 0) hx hb d_W_setDifference_0 (by decide) ?_
  refine lv_istore_n hx hb d_W_setDifference_1 rfl hl (by decide) rfl (fun ls hl => ?_)
  refine lv_iconst (v := 0) hx hb d_W_setDifference_2 (by decide) ?_
  refine lv_istore hx hb d_W_setDifference_3 hl (by decide) rfl (fun ls hl => ?_)
  have hl := lv_sub hl [2, 3, 4, 1, 0] rfl
  refine w_diffB (d := d) S hn hn2 hd2 n2 0 0 d _ _ ls (by omega) (Or.inl rfl) hd (fun _ _ => rfl) rfl hl hw (fun cy r H locs ls hcy hrr he hl hw => ?_)
  -- METHOD W_setDifference | loc 0=x 1=o 2=x 3=cy 4=i | ws x xl o ol | fld x.limbs=xl o.limbs=ol
  refine lv_aload_n hx hb d_W_setDifference_53 rfl (lv_at hl 0 rfl) ?_
  refine lv_aload_n hx hb d_W_setDifference_54 rfl (lv_at hl 1 rfl) ?_
  refine k_get hx hb hG lay_W hown hw 2 rfl rfl 1 (by decide) (hG _ fl_W_15) (fun _ h9 => h9) rfl d_W_setDifference_55 ?_
  refine k_put (ty := .int) hx hb hG lay_W ft_W ft_W_ok fn_W hown hw 0 rfl rfl 1 (by decide) (hG _ fl_W_15) (fun _ h9 => h9) rfl (by decide +kernel) rfl rfl (by simp) d_W_setDifference_58 (fun H locs hw => ?_)
  obtain ⟨f', hw, hk'⟩ := hw
  refine g_retv hx hb hr hlocks hw ⟨r, hrr, ?_, hk'⟩ d_W_setDifference_61
  have q2 : cd B30 n2 (fun t => if t < n then d t else 0) = cd B30 n d := by
    rw [cd_top (m := n) hnn (fun i h1 _ => if_neg (by omega))]
    exact cd_congr n (fun i hi => if_pos hi)
  rw [q2] at he
  have hlt := cd_lt n2 (b := B30) (d := r) (fun i hi => hrr i (by omega))
  have hP : (B30 : Int) ^ n2 = ((B30 ^ n2 : Nat) : Int) := (Int.natCast_pow _ _).symm
  rw [hP] at he
  rcases hcy with h | h
  · rw [h, Int.zero_mul] at he; omega
  · rw [h] at he; omega
set_option maxRecDepth 100000 in
set_option maxHeartbeats 4000000 in
/-- subtract(o): the difference -/
theorem m_W_subtract (l : Launch) (D : va_G) (k : Nat → ClassId) (L : List Nat) (f : Nat → va_E) (x xl n o ol n2 : Nat) (g g2 : Int32) (d d2 : Nat → Nat) (v w : Int) (hv : wr n g d v) (hv2 : wr n2 g2 d2 w) (hn : n ≤ 11) (hn2 : n2 ≤ 11) (hk : kn L f f [(x, cW xl n g), (xl, cD k d), (o, cW ol n2 g2), (ol, cD k d2)]) : Mv l y_W_subtract (Cond.code y_W_subtract c_W_subtract 2 none :: G) (rmN 2) D cls (tyl k) L f [.ref x, .ref o] (fun f' => ∃ (n' : Nat) (g' : Int32) (r : Nat → Nat), wr n' g' r (v - w) ∧ kn L f f' [(x, cW xl n' g'), (xl, cD k r), (o, cW ol n2 g2), (ol, cD k d2)]) := by
  -- METHOD W_subtract | loc 0=x 1=o | ws x xl o ol | fld x.limbs=xl o.limbs=ol
  refine mk_met (by decide) (Nat.le_of_ble_eq_true rfl) (fun p e s m below meth c ls S hr hlocks hw hl => ?_)
  have hx := S.1
  have hb := S.2.1
  have hown : s.vm.findClass R_W = some m.cls := S.2.2.2.1
  have hG := S.2.2.2.2
  have hl : lv_has ls 2 [(0, .ref x), (1, .ref o)] := hl
  have hg := hw
  have hd := hv.2.1
  have hd2 := hv2.2.1
  have hA := wr_abs hv
  have hB := wr_abs hv2
  have eg := wr_g hv
  have eg2 := wr_g hv2
  have hs1 : -1 ≤ v.sign ∧ v.sign ≤ 1 := by rcases Int.lt_trichotomy v 0 with h | h | h <;> simp [Int.sign_eq_neg_one_of_neg, Int.sign_eq_one_of_pos, h]
  have hs2 : -1 ≤ w.sign ∧ w.sign ≤ 1 := by rcases Int.lt_trichotomy w 0 with h | h | h <;> simp [Int.sign_eq_neg_one_of_neg, Int.sign_eq_one_of_pos, h]
  have hend : ∀ (n' : Nat) (g' : Int32) (r : Nat → Nat) (f1 : Nat → va_E) (H : Heap) (locs : List Loc) (ls : Array Slot), n' ≤ 12 → (∀ i, i < 12 → r i < B30) → ((g' = 1 ∧ v - w = (cd B30 n' r : Int)) ∨ (g' = -1 ∧ v - w = -(cd B30 n' r : Int)) ∨ (v - w = 0 ∧ cd B30 n' r = 0)) → lv_has ls 2 [(0, .ref x), (1, .ref o)] → gw D cls (tyl k) L s s.heap f1 H locs → kn L f f1 [(x, cW xl n' g'), (xl, cD k r), (o, cW ol n2 g2), (ol, cD k d2)] → W p l e (rmN 2) s m [Value.ref x, .ref o].toArray below meth c H locs 0 0 (MQ below (va_Qv (fun f' => ∃ (n' : Nat) (g' : Int32) (r : Nat → Nat), wr n' g' r (v - w) ∧ kn L f f' [(x, cW xl n' g'), (xl, cD k r), (o, cW ol n2 g2), (ol, cD k d2)]) (mst D cls (tyl k) L) (fun q => q ∈ L)) [Value.ref x, .ref o].toArray s 0 0 (fun q => q ∈ L)) (F0 m 52 ls []) := by
    intro n' g' r f1 H locs ls hn' hr' hval hl hw hk1
    refine lv_aload_n hx hb d_W_subtract_52 rfl (lv_at hl 0 rfl) ?_
    refine g_ov (c_V (np := 0) S (m_W_trim l D k L f1 x xl n' g' r hn' hr' (kn_sub hk1 [0, 1] rfl rfl)) hw ((hk1.1 0 _ rfl).1) ((hk1.1 0 _ rfl).2) rfl ml_W_45 im_W_trim se_W_W_trim in_W co_W_trim (by decide +kernel) rfl ⟨rfl, rfl, by decide, by decide⟩ hl.1 rfl (by simp [Value.category]) d_W_subtract_53 ⟨Nat.zero_le _, Nat.zero_le _⟩) hw (fun f2 H locs hp hw => ?_)
    obtain ⟨n3, h1, h2, h3, hk2⟩ := hp
    refine g_retv hx hb hr hlocks hw ⟨n3, _, r, wr_trim hn' hr' h1 h2 h3 hval, ?_⟩ d_W_subtract_56
    refine kn_join hk1 hk2 (by simp) rfl (fun q hq => ?_)
    simp only [List.mem_cons, List.not_mem_nil, or_false] at hq
    have nd := kn_nd hk1
    simp only [List.map_cons, List.map_nil, List.nodup_cons, List.mem_cons, List.not_mem_nil, or_false, not_or] at nd
    rcases hq with rfl | rfl | rfl | rfl
    · exact (hk2.1 0 _ rfl).2
    · exact (hk2.1 1 _ rfl).2
    · rw [kn_off hk2 (by simp; exact ⟨Ne.symm nd.1.2.1, Ne.symm nd.2.1.1⟩)]; exact (hk1.1 2 _ rfl).2
    · rw [kn_off hk2 (by simp; exact ⟨Ne.symm nd.1.2.2, Ne.symm nd.2.1.2⟩)]; exact (hk1.1 3 _ rfl).2
  have hw : kw D cls (tyl k) L s s.heap f [(x, cW xl n g), (xl, cD k d), (o, cW ol n2 g2), (ol, cD k d2)] s.heap [] := ⟨f, hw, hk⟩
  -- METHOD W_subtract | loc 0=x 1=o | ws x xl o ol | fld x.limbs=xl o.limbs=ol
  refine lv_aload_n hx hb d_W_subtract_0 rfl (lv_at hl 0 rfl) ?_
  refine k_get hx hb hG lay_W hown hw 0 rfl rfl 2 (by decide) (hG _ fl_W_19) (fun _ h9 => h9) rfl d_W_subtract_1 ?_
  refine lv_aload_n hx hb d_W_subtract_4 rfl (lv_at hl 1 rfl) ?_
  refine k_get hx hb hG lay_W hown hw 2 rfl rfl 2 (by decide) (hG _ fl_W_19) (fun _ h9 => h9) rfl d_W_subtract_5 ?_
  refine lv_imul hx hb d_W_subtract_8 ?_
  refine l_top (show g * g2 = zI (v.sign * w.sign) by rw [eg, eg2, zI_mul]) ?_
  have hrng : rI (v.sign * w.sign) := by
    rcases Int.lt_trichotomy v 0 with h | h | h <;> rcases Int.lt_trichotomy w 0 with h' | h' | h' <;> simp [Int.sign_eq_neg_one_of_neg, Int.sign_eq_one_of_pos, h, h'] <;> exact ⟨by decide, by decide⟩
  refine lv_if_ge (tgt := 20) hx hb d_W_subtract_9 (by decide) (fun hc => ?_) (fun hc => ?_)
  · have hc' : 0 ≤ v.sign * w.sign := (zI_le (a := 0) ⟨by decide, by decide⟩ hrng).mp hc
    have hw := hg
    refine lv_aload_n hx hb d_W_subtract_20 rfl (lv_at hl 0 rfl) ?_
    refine lv_aload_n hx hb d_W_subtract_21 rfl (lv_at hl 1 rfl) ?_
    refine g_oi (c_V (np := 1) S (m_W_compareSize l D k L f x xl n o ol n2 g g2 d d2 (by omega) (by omega) hd hd2 (wr_top hv) (wr_top hv2) hk) hw ((hk.1 0 _ rfl).1) ((hk.1 0 _ rfl).2) rfl ml_W_52 im_W_compareSize se_W_W_compareSize in_W co_W_compareSize (by decide +kernel) rfl ⟨rfl, rfl, by decide, by decide⟩ hl.1 rfl (by simp [Value.category]) d_W_subtract_22 ⟨Nat.zero_le _, Nat.zero_le _⟩) hw (fun r1 f1 H locs hp hw2 => ?_)
    rw [hp.1] at hw2
    have hw := hw2
    have hcm := hp.2
    refine lv_if_lt (tgt := 37) hx hb d_W_subtract_25 (by decide) (fun hc => ?_) (fun hc => ?_)
    · have hlt : cd B30 n d < cd B30 n2 d2 := by
        rcases hcm with ⟨-, h⟩ | ⟨h, -⟩ | ⟨h, -⟩
        · exact h
        · rw [h] at hc; exact absurd hc (by decide)
        · rw [h] at hc; exact absurd hc (by decide)
      have hnn : n ≤ n2 := Nat.le_of_not_lt fun h => by
        have := cd_short (b := B30) (d := d2) (e := d) (fun i hi => hd2 i (by omega)) h (by decide) (wr_top hv (by omega))
        omega
      refine lv_aload_n hx hb d_W_subtract_37 rfl (lv_at hl 0 rfl) ?_
      refine lv_aload_n hx hb d_W_subtract_38 rfl (lv_at hl 1 rfl) ?_
      refine lv_aload_n hx hb d_W_subtract_39 rfl (lv_at hl 0 rfl) ?_
      refine g_ov (c_V (np := 2) S (m_W_diffB l D k L f x xl n o ol n2 g g2 d d2 (by omega) (by omega) hd hd2 (by omega) hnn hk) hw ((hk.1 0 _ rfl).1) ((hk.1 0 _ rfl).2) rfl ml_W_56 im_W_setDifference se_W_W_setDifference in_W co_W_setDifference (by decide +kernel) rfl ⟨rfl, rfl, by decide, by decide⟩ hl.1 rfl (by simp [Value.category]) d_W_subtract_40 ⟨Nat.zero_le _, Nat.zero_le _⟩) hw (fun f3 H locs hp3 hw => ?_)
      obtain ⟨r, hr1, hr2, hk3⟩ := hp3
      have hw : kw D cls (tyl k) L s s.heap f [(x, cW xl n2 g), (xl, cD k r), (o, cW ol n2 g2), (ol, cD k d2)] H locs := ⟨f3, hw, hk3⟩
      refine lv_aload_n hx hb d_W_subtract_43 rfl (lv_at hl 0 rfl) ?_
      refine lv_aload_n hx hb d_W_subtract_44 rfl (lv_at hl 1 rfl) ?_
      refine k_get hx hb hG lay_W hown hw 2 rfl rfl 2 (by decide) (hG _ fl_W_19) (fun _ h9 => h9) rfl d_W_subtract_45 ?_
      refine lv_ineg hx hb d_W_subtract_48 ?_
      refine k_put (ty := .int) hx hb hG lay_W ft_W ft_W_ok fn_W hown hw 0 rfl rfl 2 (by decide) (hG _ fl_W_19) (fun _ h9 => h9) rfl (by decide +kernel) rfl rfl (by simp) d_W_subtract_49 (fun H locs hw => ?_)
      obtain ⟨f4, hw, hk4⟩ := hw
      refine hend n2 (-g2) r f4 H locs ls (by omega) hr1 ?_ hl hw hk4
      rcases Int.lt_trichotomy w 0 with h | h | h
      · refine Or.inl ⟨by rw [eg2, Int.sign_eq_neg_one_of_neg h]; decide, ?_⟩
        have : v ≤ 0 := Int.le_of_not_gt fun h' => by rw [Int.sign_eq_one_of_pos h', Int.sign_eq_neg_one_of_neg h] at hc'; omega
        omega
      · omega
      · refine Or.inr (Or.inl ⟨by rw [eg2, Int.sign_eq_one_of_pos h]; decide, ?_⟩)
        have : 0 ≤ v := Int.le_of_not_gt fun h' => by rw [Int.sign_eq_neg_one_of_neg h', Int.sign_eq_one_of_pos h] at hc'; omega
        omega
    · have hge : cd B30 n2 d2 ≤ cd B30 n d := by
        rcases hcm with ⟨h, -⟩ | ⟨-, h⟩ | ⟨-, h⟩
        · rw [h] at hc; exact absurd (by decide) hc
        · omega
        · omega
      have hnn : n2 ≤ n := Nat.le_of_not_lt fun h => by
        have := cd_short (b := B30) (d := d) (e := d2) (fun i hi => hd i (by omega)) h (by decide) (wr_top hv2 (by omega))
        omega
      refine lv_aload_n hx hb d_W_subtract_28 rfl (lv_at hl 0 rfl) ?_
      refine lv_aload_n hx hb d_W_subtract_29 rfl (lv_at hl 0 rfl) ?_
      refine lv_aload_n hx hb d_W_subtract_30 rfl (lv_at hl 1 rfl) ?_
      refine g_ov (c_V (np := 2) S (m_W_diffA l D k L f x xl n o ol n2 g g2 d d2 (by omega) (by omega) hd hd2 hge hnn hk) hw ((hk.1 0 _ rfl).1) ((hk.1 0 _ rfl).2) rfl ml_W_56 im_W_setDifference se_W_W_setDifference in_W co_W_setDifference (by decide +kernel) rfl ⟨rfl, rfl, by decide, by decide⟩ hl.1 rfl (by simp [Value.category]) d_W_subtract_31 ⟨Nat.zero_le _, Nat.zero_le _⟩) hw (fun f3 H locs hp3 hw => ?_)
      refine lv_goto (tgt := 52) hx hb d_W_subtract_34 (by decide) ?_
      obtain ⟨r, hr1, hr2, hk3⟩ := hp3
      refine hend n g r f3 H locs ls (by omega) hr1 ?_ hl hw hk3
      rcases Int.lt_trichotomy v 0 with h | h | h
      · refine Or.inr (Or.inl ⟨by rw [eg, Int.sign_eq_neg_one_of_neg h]; decide, ?_⟩)
        have : w ≤ 0 := Int.le_of_not_gt fun h' => by rw [Int.sign_eq_one_of_pos h', Int.sign_eq_neg_one_of_neg h] at hc'; omega
        omega
      · exact Or.inr (Or.inr ⟨by omega, by omega⟩)
      · refine Or.inl ⟨by rw [eg, Int.sign_eq_one_of_pos h]; rfl, ?_⟩
        have : 0 ≤ w := Int.le_of_not_gt fun h' => by rw [Int.sign_eq_neg_one_of_neg h', Int.sign_eq_one_of_pos h] at hc'; omega
        omega
  · have hc' : v.sign * w.sign < 0 := Int.not_le.mp fun h => hc ((zI_le (a := 0) ⟨by decide, by decide⟩ hrng).mpr h)
    have hw := hg
    refine lv_aload_n hx hb d_W_subtract_12 rfl (lv_at hl 0 rfl) ?_
    refine lv_aload_n hx hb d_W_subtract_13 rfl (lv_at hl 1 rfl) ?_
    refine g_ov (c_V (np := 1) S (m_W_addSize l D k L f x xl n o ol n2 g g2 d d2 hn hn2 hd hd2 hk) hw ((hk.1 0 _ rfl).1) ((hk.1 0 _ rfl).2) rfl ml_W_48 im_W_addSize se_W_W_addSize in_W co_W_addSize (by decide +kernel) rfl ⟨rfl, rfl, by decide, by decide⟩ hl.1 rfl (by simp [Value.category]) d_W_subtract_14 ⟨Nat.zero_le _, Nat.zero_le _⟩) hw (fun f3 H locs hp3 hw => ?_)
    refine lv_goto (tgt := 52) hx hb d_W_subtract_17 (by decide) ?_
    obtain ⟨n', r, hn', hr1, hr2, hk3⟩ := hp3
    refine hend n' g r f3 H locs ls hn' hr1 ?_ hl hw hk3
    rcases Int.lt_trichotomy v 0 with h | h | h
    · refine Or.inr (Or.inl ⟨by rw [eg, Int.sign_eq_neg_one_of_neg h]; decide, ?_⟩)
      have : 0 < w := Int.lt_of_not_ge fun h' => by
        rw [Int.sign_eq_neg_one_of_neg h] at hc'
        rcases Int.lt_trichotomy w 0 with h2 | h2 | h2
        · rw [Int.sign_eq_neg_one_of_neg h2] at hc'; omega
        · rw [h2] at hc'; exact absurd hc' (by decide)
        · omega
      omega
    · rw [h] at hc'; simp at hc'
    · refine Or.inl ⟨by rw [eg, Int.sign_eq_one_of_pos h]; rfl, ?_⟩
      have : w < 0 := Int.lt_of_not_ge fun h' => by
        rw [Int.sign_eq_one_of_pos h] at hc'
        rcases Int.lt_trichotomy w 0 with h2 | h2 | h2
        · omega
        · rw [h2] at hc'; exact absurd hc' (by decide)
        · rw [Int.sign_eq_one_of_pos h2] at hc'; omega
      omega
end
section
-- ===== Whole: setProduct =====
theorem lN_and30 (n : Nat) : lN n &&& 1073741823 = lN (n % 1073741824) := by
  rw [← zL_n, zL_and30, ← zL_n]
  congr 1
theorem lN_shr30 {n : Nat} (h : n < 9223372036854775808) : lN n >>> ((30 : Int32).toInt64 &&& 63) = lN (n / 1073741824) := by
  rw [← zL_n, zL_shr30 ⟨by omega, by omega⟩, ← zL_n]
  congr 1
theorem mul_step {B i j cy A S : Nat} {r db : Nat → Nat} (h : cd B j (fun t => r (i + t)) + cy * B ^ j = S + A * cd B j db) : cd B (j + 1) (fun t => va_up r (i + j) ((cy + (r (i + j) + A * db j)) % B) (i + t)) + (cy + (r (i + j) + A * db j)) / B * B ^ (j + 1) = (S + r (i + j) * B ^ j) + A * cd B (j + 1) db := by
  have h0 : cd B (j + 1) (fun t => va_up r (i + j) ((cy + (r (i + j) + A * db j)) % B) (i + t)) = cd B j (fun t => r (i + t)) + (cy + (r (i + j) + A * db j)) % B * B ^ j := by
    show cd B j _ + va_up r (i + j) ((cy + (r (i + j) + A * db j)) % B) (i + j) * B ^ j = _
    rw [va_up_self, cd_congr j (d := fun t => va_up r (i + j) ((cy + (r (i + j) + A * db j)) % B) (i + t)) (e := fun t => r (i + t)) (fun t ht => va_up_ne _ _ (by omega))]
  have h9 : A * cd B (j + 1) db = A * cd B j db + A * db j * B ^ j := by
    show A * (cd B j db + db j * B ^ j) = _
    rw [Nat.mul_add, Nat.mul_assoc]
  rw [h0, h9, Nat.pow_succ]
  have h1 := Nat.mod_add_div (cy + (r (i + j) + A * db j)) B
  generalize (cy + (r (i + j) + A * db j)) % B = u at h1 ⊢
  generalize (cy + (r (i + j) + A * db j)) / B = w at h1 ⊢
  generalize B ^ j = P at h ⊢
  have h2 : (u + B * w) * P = (cy + (r (i + j) + A * db j)) * P := by rw [h1]
  rw [Nat.add_mul, Nat.add_mul, Nat.add_mul] at h2
  have h3 : w * (P * B) = B * w * P := by rw [Nat.mul_comm B w, Nat.mul_assoc, Nat.mul_comm P B]
  omega
section MUL
variable {p : Program} {l : Launch} {e : Env} {s : State} {m : MethodId} {args : Array Value} {below : List Frame} {meth : Method} {c : Code} {Q : State → Prop} {D : va_G} {k : Nat → ClassId} {L : List Nat} {f0 : Nat → va_E} {H0 : Heap}
set_option maxRecDepth 100000 in
set_option maxHeartbeats 4000000 in
theorem w_mulI (S : CallFix p m c c_W_setProduct 9 s args G R_W) {x xl n a al na b bl nb i : Nat} {g ga gb : Int32} {da db r0 : Nat → Nat} (hin : i + nb < 12) (hi : i < na) (hna : na ≤ 12) (hda : ∀ t, t < 12 → da t < B30) (hdb : ∀ t, t < 12 → db t < B30) :
    ∀ (q j cy : Nat) (r : Nat → Nat) (H : Heap) (locs : List Loc) (ls : Array Slot), j + q = nb → cy < B30 → (∀ t, t < 12 → r t < B30) → (∀ t, t < i ∨ i + j ≤ t → r t = r0 t) → cd B30 j (fun t => r (i + t)) + cy * B30 ^ j = cd B30 j (fun t => r0 (i + t)) + da i * cd B30 j db →
    lv_has ls 9 [(0, .ref x), (1, .ref a), (2, .ref b), (3, .int (nI i)), (4, .long (lN (da i))), (6, .long (lN cy)), (8, .int (nI j))] → kw D cls (tyl k) L s H0 f0 [(x, cW xl n g), (xl, cD k r), (a, cW al na ga), (al, cD k da), (b, cW bl nb gb), (bl, cD k db)] H locs →
    (∀ (cy : Nat) (r : Nat → Nat) (H : Heap) (locs : List Loc) (ls : Array Slot), cy < B30 → (∀ t, t < 12 → r t < B30) → (∀ t, t < i ∨ i + nb ≤ t → r t = r0 t) → cd B30 nb (fun t => r (i + t)) + cy * B30 ^ nb = cd B30 nb (fun t => r0 (i + t)) + da i * cd B30 nb db → lv_has ls 9 [(0, .ref x), (1, .ref a), (2, .ref b), (3, .int (nI i)), (4, .long (lN (da i))), (6, .long (lN cy)), (8, .int (nI nb))] → kw D cls (tyl k) L s H0 f0 [(x, cW xl n g), (xl, cD k r), (a, cW al na ga), (al, cD k da), (b, cW bl nb gb), (bl, cD k db)] H locs → W p l e (rmN 2) s m args below meth c H locs 0 0 Q (F0 m 162 ls [])) →
    W p l e (rmN 2) s m args below meth c H locs 0 0 Q (F0 m 97 ls []) := by
  have hx := S.1
  have hb := S.2.1
  have hown : s.vm.findClass R_W = some m.cls := S.2.2.2.1
  have hG := S.2.2.2.2
  intro q
  induction q with
  | zero =>
    intro j cy r H locs ls hij hcy hrr hr0 he hl hw kx
    have hij : j = nb := by omega
    subst hij
    -- METHOD W_setProduct | loc 0=x 1=a 2=b 3=i 4=A 6=cy 8=j | ws x xl a al b bl | fld x.limbs=xl a.limbs=al b.limbs=bl
    refine lv_iload hx hb d_W_setProduct_97 (lv_at hl 6 rfl) ?_
    refine lv_aload_n hx hb d_W_setProduct_99 rfl (lv_at hl 2 rfl) ?_
    refine k_get hx hb hG lay_W hown hw 4 rfl rfl 1 (by decide) (hG _ fl_W_15) (fun _ h9 => h9) rfl d_W_setProduct_100 ?_
    refine lv_icmp_ge (tgt := 162) hx hb d_W_setProduct_103 (by decide) (fun hc => ?_) (fun hc => ?_)
    · exact kx cy r H locs ls hcy hrr hr0 he hl hw
    · exact absurd (nI_le (Nat.le_refl _) (by omega)) hc
  | succ q ih =>
    intro j cy r H locs ls hij hcy hrr hr0 he hl hw kx
    -- METHOD W_setProduct | loc 0=x 1=a 2=b 3=i 4=A 6=cy 8=j | ws x xl a al b bl | fld x.limbs=xl a.limbs=al b.limbs=bl
    refine lv_iload hx hb d_W_setProduct_97 (lv_at hl 6 rfl) ?_
    refine lv_aload_n hx hb d_W_setProduct_99 rfl (lv_at hl 2 rfl) ?_
    refine k_get hx hb hG lay_W hown hw 4 rfl rfl 1 (by decide) (hG _ fl_W_15) (fun _ h9 => h9) rfl d_W_setProduct_100 ?_
    refine lv_icmp_ge (tgt := 162) hx hb d_W_setProduct_103 (by decide) (fun hc => ?_) (fun hc => ?_)
    · exact absurd hc (nI_ge (by omega) (by omega))
    · have hr1 : r (i + j) < B30 := hrr _ (by omega)
      have hd1 : db j < B30 := hdb _ (by omega)
      have hd2 : da i < B30 := hda _ (by omega)
      have hB30 : B30 = 1073741824 := rfl
      have hprod : da i * db j ≤ 1073741823 * 1073741823 := Nat.mul_le_mul (by omega) (by omega)
      refine lv_lload hx hb d_W_setProduct_106 (lv_at hl 5 rfl) ?_
      refine lv_aload_n hx hb d_W_setProduct_108 rfl (lv_at hl 0 rfl) ?_
      refine k_get hx hb hG lay_W hown hw 0 rfl rfl 0 (by decide) (hG _ fl_W_11) (fun _ h9 => h9) rfl d_W_setProduct_109 ?_
      refine lv_iload_n hx hb d_W_setProduct_112 rfl (lv_at hl 3 rfl) ?_
      refine lv_iload hx hb d_W_setProduct_113 (lv_at hl 6 rfl) ?_
      refine lv_iadd hx hb d_W_setProduct_115 ?_
      refine k_iald hx hb hw 1 0 rfl rfl ((i + j)) (nI_add i j) (by omega) (by first | decide | omega) d_W_setProduct_116 ?_
      refine lv_i2l hx hb d_W_setProduct_117 (show (nD r (i + j)).toInt64 = lN (r (i + j)) from nI_l (by omega)) ?_
      refine lv_lload hx hb d_W_setProduct_118 (lv_at hl 4 rfl) ?_
      refine lv_aload_n hx hb d_W_setProduct_120 rfl (lv_at hl 2 rfl) ?_
      refine k_get hx hb hG lay_W hown hw 4 rfl rfl 0 (by decide) (hG _ fl_W_11) (fun _ h9 => h9) rfl d_W_setProduct_121 ?_
      refine lv_iload hx hb d_W_setProduct_124 (lv_at hl 6 rfl) ?_
      refine k_iald hx hb hw 5 0 rfl rfl (j) (rfl) (by omega) (by first | decide | omega) d_W_setProduct_126 ?_
      refine lv_i2l hx hb d_W_setProduct_127 (show (nD db j).toInt64 = lN (db j) from nI_l (by omega)) ?_
      refine lv_lmul hx hb d_W_setProduct_128 ?_
      refine l_topl (lN_mul _ _) ?_
      refine lv_ladd hx hb d_W_setProduct_129 ?_
      refine l_topl (lN_add _ _) ?_
      refine lv_ladd hx hb d_W_setProduct_130 ?_
      refine l_topl (lN_add _ _) ?_
      refine lv_lstore hx hb d_W_setProduct_131 hl (by decide) rfl (fun ls hl => ?_)
      refine lv_aload_n hx hb d_W_setProduct_133 rfl (lv_at hl 1 rfl) ?_
      refine k_get hx hb hG lay_W hown hw 0 rfl rfl 0 (by decide) (hG _ fl_W_11) (fun _ h9 => h9) rfl d_W_setProduct_134 ?_
      refine lv_iload_n hx hb d_W_setProduct_137 rfl (lv_at hl 4 rfl) ?_
      refine lv_iload hx hb d_W_setProduct_138 (lv_at hl 6 rfl) ?_
      refine lv_iadd hx hb d_W_setProduct_140 ?_
      refine lv_lload hx hb d_W_setProduct_141 (lv_at hl 0 rfl) ?_
      refine lv_ldc2 hx hb hown (hG _ ct_W_43) d_W_setProduct_143 ?_
      refine lv_land hx hb d_W_setProduct_146 ?_
      refine l_topl (lN_and30 _) ?_
      refine lv_l2i hx hb d_W_setProduct_147 (lN_i _) ?_
      refine k_iast hx hb hw 1 0 rfl rfl ((i + j)) (nI_add i j) (by omega) (by first | decide | omega) d_W_setProduct_148 (fun H locs hw => ?_)
      rw [nD_upd] at hw
      refine lv_lload hx hb d_W_setProduct_149 (lv_at hl 0 rfl) ?_
      refine lv_bipush (v := 30) hx hb d_W_setProduct_151 (by decide) ?_
      refine lv_lshr hx hb d_W_setProduct_153 (lN_shr30 (by omega)) ?_
      refine lv_lstore hx hb d_W_setProduct_154 hl (by decide) rfl (fun ls hl => ?_)
      refine lv_iinc (k := 6) hx hb d_W_setProduct_156 hl rfl (ii1 j) (by decide) rfl (fun ls hl => ?_)
      refine lv_goto (tgt := 97) hx hb d_W_setProduct_159 (by decide) ?_
      have hl := lv_sub hl [2, 3, 4, 5, 6, 1, 0] rfl
      have hwlt : cy + (r (i + j) + da i * db j) < B30 * B30 := by rw [hB30] at hcy hr1 ⊢; omega
      refine ih (j + 1) ((cy + (r (i + j) + da i * db j)) / 1073741824) (va_up r (i + j) ((cy + (r (i + j) + da i * db j)) % 1073741824)) H locs ls (by omega) ?_ (fun t ht => ?_) (fun t ht => ?_) ?_ hl hw kx
      · rw [Nat.div_lt_iff_lt_mul (by decide)]; exact hwlt
      · by_cases e : t = i + j
        · rw [e, va_up_self]; exact Nat.mod_lt _ (by decide)
        · rw [va_up_ne _ _ e]; exact hrr t ht
      · rw [va_up_ne _ _ (by omega)]; exact hr0 t (by omega)
      · have h5 := mul_step (B := B30) (i := i) (j := j) (cy := cy) (A := da i) (r := r) (db := db) (S := cd B30 j (fun t => r0 (i + t))) he
        have h6 : cd B30 (j + 1) (fun t => r0 (i + t)) = cd B30 j (fun t => r0 (i + t)) + r (i + j) * B30 ^ j := by
          rw [hr0 (i + j) (by omega)]; rfl
        rw [h6]
        exact h5
set_option maxRecDepth 100000 in
set_option maxHeartbeats 4000000 in
theorem w_mulO (S : CallFix p m c c_W_setProduct 9 s args G R_W) {x xl n a al na b bl nb : Nat} {g ga gb : Int32} {da db : Nat → Nat} (hin : na + nb ≤ 12) (hda : ∀ t, t < 12 → da t < B30) (hdb : ∀ t, t < 12 → db t < B30) :
    ∀ (q i : Nat) (r : Nat → Nat) (H : Heap) (locs : List Loc) (ls : Array Slot), i + q = na → (∀ t, t < 12 → r t < B30) → (∀ t, i + nb ≤ t → t < na + nb → r t = 0) → cd B30 (i + nb) r = cd B30 i da * cd B30 nb db →
    lv_has ls 9 [(0, .ref x), (1, .ref a), (2, .ref b), (3, .int (nI i))] → kw D cls (tyl k) L s H0 f0 [(x, cW xl n g), (xl, cD k r), (a, cW al na ga), (al, cD k da), (b, cW bl nb gb), (bl, cD k db)] H locs →
    (∀ (r : Nat → Nat) (H : Heap) (locs : List Loc) (ls : Array Slot), (∀ t, t < 12 → r t < B30) → cd B30 (na + nb) r = cd B30 na da * cd B30 nb db → lv_has ls 9 [(0, .ref x), (1, .ref a), (2, .ref b), (3, .int (nI na))] → kw D cls (tyl k) L s H0 f0 [(x, cW xl n g), (xl, cD k r), (a, cW al na ga), (al, cD k da), (b, cW bl nb gb), (bl, cD k db)] H locs → W p l e (rmN 2) s m args below meth c H locs 0 0 Q (F0 m 182 ls [])) →
    W p l e (rmN 2) s m args below meth c H locs 0 0 Q (F0 m 74 ls []) := by
  have hx := S.1
  have hb := S.2.1
  have hown : s.vm.findClass R_W = some m.cls := S.2.2.2.1
  have hG := S.2.2.2.2
  intro q
  induction q with
  | zero =>
    intro i r H locs ls hij hrr hr0 he hl hw kx
    have hij : i = na := by omega
    subst hij
    -- METHOD W_setProduct | loc 0=x 1=a 2=b 3=i | ws x xl a al b bl | fld x.limbs=xl a.limbs=al b.limbs=bl
    refine lv_iload_n hx hb d_W_setProduct_74 rfl (lv_at hl 3 rfl) ?_
    refine lv_aload_n hx hb d_W_setProduct_75 rfl (lv_at hl 1 rfl) ?_
    refine k_get hx hb hG lay_W hown hw 2 rfl rfl 1 (by decide) (hG _ fl_W_15) (fun _ h9 => h9) rfl d_W_setProduct_76 ?_
    refine lv_icmp_ge (tgt := 182) hx hb d_W_setProduct_79 (by decide) (fun hc => ?_) (fun hc => ?_)
    · exact kx r H locs ls hrr he hl hw
    · exact absurd (nI_le (Nat.le_refl _) (by omega)) hc
  | succ q ih =>
    intro i r H locs ls hij hrr hr0 he hl hw kx
    -- METHOD W_setProduct | loc 0=x 1=a 2=b 3=i | ws x xl a al b bl | fld x.limbs=xl a.limbs=al b.limbs=bl
    refine lv_iload_n hx hb d_W_setProduct_74 rfl (lv_at hl 3 rfl) ?_
    refine lv_aload_n hx hb d_W_setProduct_75 rfl (lv_at hl 1 rfl) ?_
    refine k_get hx hb hG lay_W hown hw 2 rfl rfl 1 (by decide) (hG _ fl_W_15) (fun _ h9 => h9) rfl d_W_setProduct_76 ?_
    refine lv_icmp_ge (tgt := 182) hx hb d_W_setProduct_79 (by decide) (fun hc => ?_) (fun hc => ?_)
    · exact absurd hc (nI_ge (by omega) (by omega))
    · have hd2 : da i < B30 := hda _ (by omega)
      have hB30 : B30 = 1073741824 := rfl
      refine lv_aload_n hx hb d_W_setProduct_82 rfl (lv_at hl 1 rfl) ?_
      refine k_get hx hb hG lay_W hown hw 2 rfl rfl 0 (by decide) (hG _ fl_W_11) (fun _ h9 => h9) rfl d_W_setProduct_83 ?_
      refine lv_iload_n hx hb d_W_setProduct_86 rfl (lv_at hl 3 rfl) ?_
      refine k_iald hx hb hw 3 0 rfl rfl (i) (rfl) (by omega) (by first | decide | omega) d_W_setProduct_87 ?_
      refine lv_i2l hx hb d_W_setProduct_88 (show (nD da i).toInt64 = lN (da i) from nI_l (by omega)) ?_
      refine lv_lstore hx hb d_W_setProduct_89 hl (by decide) rfl (fun ls hl => ?_)
      refine lv_lconst (v := 0) hx hb d_W_setProduct_91 (by decide) ?_
      refine lv_lstore hx hb d_W_setProduct_92 hl (by decide) rfl (fun ls hl => ?_)
      refine lv_iconst (v := 0) hx hb d_W_setProduct_94 (by decide) ?_
      refine lv_istore hx hb d_W_setProduct_95 hl (by decide) rfl (fun ls hl => ?_)
      have hl := lv_sub hl [3, 4, 5, 6, 2, 1, 0] rfl
      refine w_mulI (r0 := r) S (i := i) (by omega) (by omega) (by omega) hda hdb nb 0 0 r H locs ls (by omega) (by decide) hrr (fun _ _ => rfl) rfl hl hw (fun cy r1 H locs ls hcy hrr1 hr1 he1 hl hw => ?_)
      refine lv_aload_n hx hb d_W_setProduct_162 rfl (lv_at hl 0 rfl) ?_
      refine k_get hx hb hG lay_W hown hw 0 rfl rfl 0 (by decide) (hG _ fl_W_11) (fun _ h9 => h9) rfl d_W_setProduct_163 ?_
      refine lv_iload_n hx hb d_W_setProduct_166 rfl (lv_at hl 3 rfl) ?_
      refine lv_aload_n hx hb d_W_setProduct_167 rfl (lv_at hl 2 rfl) ?_
      refine k_get hx hb hG lay_W hown hw 4 rfl rfl 1 (by decide) (hG _ fl_W_15) (fun _ h9 => h9) rfl d_W_setProduct_168 ?_
      refine lv_iadd hx hb d_W_setProduct_171 ?_
      refine lv_lload hx hb d_W_setProduct_172 (lv_at hl 5 rfl) ?_
      refine lv_l2i hx hb d_W_setProduct_174 (lN_i _) ?_
      refine k_iast hx hb hw 1 0 rfl rfl ((i + nb)) (nI_add i nb) (by omega) (by first | decide | omega) d_W_setProduct_175 (fun H locs hw => ?_)
      rw [nD_upd] at hw
      refine lv_iinc (k := 3) hx hb d_W_setProduct_176 hl rfl (ii1 i) (by decide) rfl (fun ls hl => ?_)
      refine lv_goto (tgt := 74) hx hb d_W_setProduct_179 (by decide) ?_
      have hl := lv_sub hl [1, 2, 3, 0] rfl
      refine ih (i + 1) (va_up r1 (i + nb) cy) H locs ls (by omega) (fun t ht => ?_) (fun t h1 h2 => ?_) ?_ hl hw kx
      · by_cases e : t = i + nb
        · rw [e, va_up_self]; exact hcy
        · rw [va_up_ne _ _ e]; exact hrr1 t ht
      · rw [va_up_ne _ _ (by omega), hr1 t (by omega)]; exact hr0 t (by omega) h2
      · rw [show i + 1 + nb = i + (nb + 1) by omega, cd_split i (nb + 1)]
        have e1 : cd B30 i (va_up r1 (i + nb) cy) = cd B30 i r := cd_congr i (fun t ht => by rw [va_up_ne _ _ (by omega)]; exact hr1 t (by omega))
        have e2 : cd B30 (nb + 1) (fun t => va_up r1 (i + nb) cy (i + t)) = cd B30 nb (fun t => r1 (i + t)) + cy * B30 ^ nb := by
          show cd B30 nb _ + va_up r1 (i + nb) cy (i + nb) * B30 ^ nb = _
          rw [va_up_self, cd_congr nb (d := fun t => va_up r1 (i + nb) cy (i + t)) (e := fun t => r1 (i + t)) (fun t ht => va_up_ne _ _ (by omega))]
        rw [e1, e2, he1, Nat.mul_add, ← Nat.add_assoc, ← cd_split i nb r, he]
        show _ = (cd B30 i da + da i * B30 ^ i) * cd B30 nb db
        rw [Nat.add_mul]
        congr 1
        rw [Nat.mul_left_comm, Nat.mul_assoc]
end MUL
set_option maxRecDepth 100000 in
set_option maxHeartbeats 4000000 in
/-- setProduct(a, b): the product of two other numbers -/
theorem m_W_setProduct (l : Launch) (D : va_G) (k : Nat → ClassId) (L : List Nat) (f : Nat → va_E) (x xl n a al na b bl nb : Nat) (g ga gb : Int32) (d da db : Nat → Nat) (v w : Int) (hv : wr na ga da v) (hw2 : wr nb gb db w) (hd : ∀ i, i < 12 → d i < B30) (hnn : na + nb ≤ 12) (hk : kn L f f [(x, cW xl n g), (xl, cD k d), (a, cW al na ga), (al, cD k da), (b, cW bl nb gb), (bl, cD k db)]) : Mv l y_W_setProduct (Cond.code y_W_setProduct c_W_setProduct 9 none :: G) (rmN 2) D cls (tyl k) L f [.ref x, .ref a, .ref b] (fun f' => ∃ (n' : Nat) (g' : Int32) (r : Nat → Nat), wr n' g' r (v * w) ∧ kn L f f' [(x, cW xl n' g'), (xl, cD k r), (a, cW al na ga), (al, cD k da), (b, cW bl nb gb), (bl, cD k db)]) := by
  -- METHOD W_setProduct | loc 0=x 1=a 2=b | ws x xl a al b bl | fld x.limbs=xl a.limbs=al b.limbs=bl
  refine mk_met (by decide) (Nat.le_of_ble_eq_true rfl) (fun p e s m below meth c ls S hr hlocks hw hl => ?_)
  have hx := S.1
  have hb := S.2.1
  have hown : s.vm.findClass R_W = some m.cls := S.2.2.2.1
  have hG := S.2.2.2.2
  have hl : lv_has ls 9 [(0, .ref x), (1, .ref a), (2, .ref b)] := hl
  have hg := hw
  have hda := hv.2.1
  have hdb := hw2.2.1
  have eg := wr_g hv
  have eg2 := wr_g hw2
  have nd := kn_nd hk
  simp only [List.map_cons, List.map_nil, List.nodup_cons, List.mem_cons, List.not_mem_nil, or_false, not_or] at nd
  obtain ⟨⟨nx1, nx2, nx3, nx4, nx5⟩, ⟨nl2, nl3, nl4, nl5⟩, ⟨na1, na2, na3⟩, ⟨nal1, nal2⟩, nb1, -⟩ := nd
  refine lv_aload_n hx hb d_W_setProduct_0 rfl (lv_at hl 0 rfl) ?_
  refine g_ov (c_V (np := 0) S (m_W_setZero l D k L f x xl n g (kn_sub hk [0] rfl rfl)) hw ((hk.1 0 _ rfl).1) ((hk.1 0 _ rfl).2) rfl ml_W_34 im_W_setZero se_W_W_setZero in_W co_W_setZero (by decide +kernel) rfl ⟨rfl, rfl, by decide, by decide⟩ hl.1 rfl (by simp [Value.category]) d_W_setProduct_1 ⟨Nat.zero_le _, Nat.zero_le _⟩) hw (fun f1 H locs hp hw => ?_)
  have hk1 : kn L f f1 [(x, cW xl 0 0), (xl, cD k d), (a, cW al na ga), (al, cD k da), (b, cW bl nb gb), (bl, cD k db)] := by
    refine kn_join hk hp (by simp) rfl (fun q hq => ?_)
    simp only [List.mem_cons, List.not_mem_nil, or_false] at hq
    rcases hq with rfl | rfl | rfl | rfl | rfl | rfl
    · exact (hp.1 0 _ rfl).2
    · rw [kn_off hp (by simp; exact Ne.symm nx1)]; exact (hk.1 1 _ rfl).2
    · rw [kn_off hp (by simp; exact Ne.symm nx2)]; exact (hk.1 2 _ rfl).2
    · rw [kn_off hp (by simp; exact Ne.symm nx3)]; exact (hk.1 3 _ rfl).2
    · rw [kn_off hp (by simp; exact Ne.symm nx4)]; exact (hk.1 4 _ rfl).2
    · rw [kn_off hp (by simp; exact Ne.symm nx5)]; exact (hk.1 5 _ rfl).2
  have hg1 := hw
  have hw : kw D cls (tyl k) L s s.heap f [(x, cW xl 0 0), (xl, cD k d), (a, cW al na ga), (al, cD k da), (b, cW bl nb gb), (bl, cD k db)] H locs := ⟨f1, hw, hk1⟩
  refine lv_aload_n hx hb d_W_setProduct_4 rfl (lv_at hl 1 rfl) ?_
  refine k_get hx hb hG lay_W hown hw 2 rfl rfl 2 (by decide) (hG _ fl_W_19) (fun _ h9 => h9) rfl d_W_setProduct_5 ?_
  refine lv_if_eq (tgt := 32) hx hb d_W_setProduct_8 (by decide) (fun hc => ?_) (fun hc => ?_)
  · have hv0 : v = 0 := by
      rw [eg] at hc
      rcases Int.lt_trichotomy v 0 with h | h | h
      · rw [Int.sign_eq_neg_one_of_neg h] at hc; exact absurd hc (by decide)
      · exact h
      · rw [Int.sign_eq_one_of_pos h] at hc; exact absurd hc (by decide)
    exact g_retv hx hb hr hlocks hg1 ⟨0, 0, d, ⟨by omega, hd, Or.inl ⟨rfl, rfl, by rw [hv0, Int.zero_mul]⟩⟩, hk1⟩ d_W_setProduct_32
  · -- STK
    refine lv_aload_n hx hb d_W_setProduct_11 rfl (lv_at hl 2 rfl) ?_
    refine k_get hx hb hG lay_W hown hw 4 rfl rfl 2 (by decide) (hG _ fl_W_19) (fun _ h9 => h9) rfl d_W_setProduct_12 ?_
    refine lv_if_eq (tgt := 32) hx hb d_W_setProduct_15 (by decide) (fun hc => ?_) (fun hc => ?_)
    · have hv0 : w = 0 := by
        rw [eg2] at hc
        rcases Int.lt_trichotomy w 0 with h | h | h
        · rw [Int.sign_eq_neg_one_of_neg h] at hc; exact absurd hc (by decide)
        · exact h
        · rw [Int.sign_eq_one_of_pos h] at hc; exact absurd hc (by decide)
      exact g_retv hx hb hr hlocks hg1 ⟨0, 0, d, ⟨by omega, hd, Or.inl ⟨rfl, rfl, by rw [hv0, Int.mul_zero]⟩⟩, hk1⟩ d_W_setProduct_32
    · -- STK
      refine lv_aload_n hx hb d_W_setProduct_18 rfl (lv_at hl 1 rfl) ?_
      refine k_get hx hb hG lay_W hown hw 2 rfl rfl 1 (by decide) (hG _ fl_W_15) (fun _ h9 => h9) rfl d_W_setProduct_19 ?_
      refine lv_aload_n hx hb d_W_setProduct_22 rfl (lv_at hl 2 rfl) ?_
      refine k_get hx hb hG lay_W hown hw 4 rfl rfl 1 (by decide) (hG _ fl_W_15) (fun _ h9 => h9) rfl d_W_setProduct_23 ?_
      refine lv_iadd hx hb d_W_setProduct_26 ?_
      refine l_top (nI_add _ _) ?_
      refine lv_bipush (v := 12) hx hb d_W_setProduct_27 (by decide) ?_
      refine lv_icmp_le (tgt := 33) hx hb d_W_setProduct_29 (by decide) (fun hc => ?_) (fun hc => ?_)
      · -- STK
        refine lv_aload_n hx hb d_W_setProduct_33 rfl (lv_at hl 0 rfl) ?_
        refine lv_aload_n hx hb d_W_setProduct_34 rfl (lv_at hl 1 rfl) ?_
        refine k_get hx hb hG lay_W hown hw 2 rfl rfl 1 (by decide) (hG _ fl_W_15) (fun _ h9 => h9) rfl d_W_setProduct_35 ?_
        refine lv_aload_n hx hb d_W_setProduct_38 rfl (lv_at hl 2 rfl) ?_
        refine k_get hx hb hG lay_W hown hw 4 rfl rfl 1 (by decide) (hG _ fl_W_15) (fun _ h9 => h9) rfl d_W_setProduct_39 ?_
        refine lv_iadd hx hb d_W_setProduct_42 ?_
        refine l_top (nI_add _ _) ?_
        refine k_put (ty := .int) hx hb hG lay_W ft_W ft_W_ok fn_W hown hw 0 rfl rfl 1 (by decide) (hG _ fl_W_15) (fun _ h9 => h9) rfl (by decide +kernel) rfl rfl (by simp) d_W_setProduct_43 (fun H locs hw => ?_)
        refine lv_aload_n hx hb d_W_setProduct_46 rfl (lv_at hl 0 rfl) ?_
        refine lv_aload_n hx hb d_W_setProduct_47 rfl (lv_at hl 1 rfl) ?_
        refine k_get hx hb hG lay_W hown hw 2 rfl rfl 2 (by decide) (hG _ fl_W_19) (fun _ h9 => h9) rfl d_W_setProduct_48 ?_
        refine lv_aload_n hx hb d_W_setProduct_51 rfl (lv_at hl 2 rfl) ?_
        refine k_get hx hb hG lay_W hown hw 4 rfl rfl 2 (by decide) (hG _ fl_W_19) (fun _ h9 => h9) rfl d_W_setProduct_52 ?_
        refine lv_imul hx hb d_W_setProduct_55 ?_
        refine k_put (ty := .int) hx hb hG lay_W ft_W ft_W_ok fn_W hown hw 0 rfl rfl 2 (by decide) (hG _ fl_W_19) (fun _ h9 => h9) rfl (by decide +kernel) rfl rfl (by simp) d_W_setProduct_56 (fun H locs hw => ?_)
        refine lv_aload_n hx hb d_W_setProduct_59 rfl (lv_at hl 0 rfl) ?_
        refine k_get hx hb hG lay_W hown hw 0 rfl rfl 0 (by decide) (hG _ fl_W_11) (fun _ h9 => h9) rfl d_W_setProduct_60 ?_
        refine lv_iconst (v := 0) hx hb d_W_setProduct_63 (by decide) ?_
        refine lv_aload_n hx hb d_W_setProduct_64 rfl (lv_at hl 0 rfl) ?_
        refine k_get hx hb hG lay_W hown hw 0 rfl rfl 1 (by decide) (hG _ fl_W_15) (fun _ h9 => h9) rfl d_W_setProduct_65 ?_
        refine lv_iconst (v := 0) hx hb d_W_setProduct_68 (by decide) ?_
        obtain ⟨f2, hw, hk2⟩ := hw
        refine g_ov (c_X (np := 4) S (m_fillR l D k L f2 xl 12 0 (na + nb) 0 (nD d) (by decide) (Nat.zero_le _) hnn (kn_sub hk2 [1] rfl rfl)) hw ml_W_37 st_JA_fill_1 in_JA co_JA_fill_1 (by decide +kernel) rfl ⟨rfl, rfl, by decide, by decide⟩ hl.1 rfl (by simp [Value.category]) d_W_setProduct_69 ⟨Nat.zero_le _, Nat.zero_le _⟩) hw (fun f3 H locs hp3 hw => ?_)
        have ez : (fun t => if 0 ≤ t ∧ t < na + nb then (0 : Int32) else nD d t) = nD (fun t => if t < na + nb then 0 else d t) := by
          funext t
          by_cases h : t < na + nb
          · rw [if_pos ⟨Nat.zero_le _, h⟩]
            show 0 = nI (if t < na + nb then 0 else d t)
            rw [if_pos h]; rfl
          · rw [if_neg (fun q => h q.2)]
            show nI (d t) = nI (if t < na + nb then 0 else d t)
            rw [if_neg h]
        rw [ez] at hp3
        have hk3 : kn L f f3 [(x, cW xl (na + nb) (ga * gb)), (xl, cD k (fun t => if t < na + nb then 0 else d t)), (a, cW al na ga), (al, cD k da), (b, cW bl nb gb), (bl, cD k db)] := by
          refine kn_join hk2 hp3 (by simp) rfl (fun q hq => ?_)
          simp only [List.mem_cons, List.not_mem_nil, or_false] at hq
          rcases hq with rfl | rfl | rfl | rfl | rfl | rfl
          · rw [kn_off hp3 (by simp; exact nx1)]; exact (hk2.1 0 _ rfl).2
          · exact (hp3.1 0 _ rfl).2
          · rw [kn_off hp3 (by simp; exact Ne.symm nl2)]; exact (hk2.1 2 _ rfl).2
          · rw [kn_off hp3 (by simp; exact Ne.symm nl3)]; exact (hk2.1 3 _ rfl).2
          · rw [kn_off hp3 (by simp; exact Ne.symm nl4)]; exact (hk2.1 4 _ rfl).2
          · rw [kn_off hp3 (by simp; exact Ne.symm nl5)]; exact (hk2.1 5 _ rfl).2
        have hw : kw D cls (tyl k) L s s.heap f [(x, cW xl (na + nb) (ga * gb)), (xl, cD k (fun t => if t < na + nb then 0 else d t)), (a, cW al na ga), (al, cD k da), (b, cW bl nb gb), (bl, cD k db)] H locs := ⟨f3, hw, hk3⟩
        refine lv_iconst (v := 0) hx hb d_W_setProduct_72 (by decide) ?_
        refine lv_istore_n hx hb d_W_setProduct_73 rfl hl (by decide) rfl (fun ls hl => ?_)
        have hl := lv_sub hl [1, 2, 3, 0] rfl
        refine w_mulO S hnn hda hdb na 0 _ H locs ls (by omega) (fun t ht => ?_) (fun t h1 h2 => if_pos h2) ?_ hl hw (fun r H locs ls hrr he hl hw => ?_)
        · show (if t < na + nb then 0 else d t) < B30
          by_cases h : t < na + nb
          · rw [if_pos h]; decide
          · rw [if_neg h]; exact hd t ht
        · rw [cd_0 (0 + nb) (fun t ht => if_pos (by omega))]
          show 0 = 0 * _
          rw [Nat.zero_mul]
        · obtain ⟨f4, hw, hk4⟩ := hw
          refine lv_aload_n hx hb d_W_setProduct_182 rfl (lv_at hl 0 rfl) ?_
          refine g_ov (c_V (np := 0) S (m_W_trim l D k L f4 x xl (na + nb) (ga * gb) r hnn hrr (kn_sub hk4 [0, 1] rfl rfl)) hw ((hk4.1 0 _ rfl).1) ((hk4.1 0 _ rfl).2) rfl ml_W_45 im_W_trim se_W_W_trim in_W co_W_trim (by decide +kernel) rfl ⟨rfl, rfl, by decide, by decide⟩ hl.1 rfl (by simp [Value.category]) d_W_setProduct_183 ⟨Nat.zero_le _, Nat.zero_le _⟩) hw (fun f5 H locs hp5 hw => ?_)
          obtain ⟨n3, h1, h2, h3, hk5⟩ := hp5
          refine g_retv hx hb hr hlocks hw ⟨n3, (if n3 = 0 then 0 else ga * gb), r, wr_trim hnn hrr h1 h2 h3 ?_, ?_⟩ d_W_setProduct_186
          · have hA := wr_abs hv
            have hB := wr_abs hw2
            rw [he, ← hA, ← hB, ← Int.natAbs_mul]
            rcases Int.lt_trichotomy (v * w) 0 with h | h | h
            · refine Or.inr (Or.inl ⟨?_, by omega⟩)
              rw [eg, eg2, zI_mul, ← Int.sign_mul, Int.sign_eq_neg_one_of_neg h]; decide
            · exact Or.inr (Or.inr ⟨h, by omega⟩)
            · refine Or.inl ⟨?_, by omega⟩
              rw [eg, eg2, zI_mul, ← Int.sign_mul, Int.sign_eq_one_of_pos h]; rfl
          · refine kn_join hk4 hk5 (by simp) rfl (fun q hq => ?_)
            simp only [List.mem_cons, List.not_mem_nil, or_false] at hq
            rcases hq with rfl | rfl | rfl | rfl | rfl | rfl
            · exact (hk5.1 0 _ rfl).2
            · exact (hk5.1 1 _ rfl).2
            · rw [kn_off hk5 (by simp; exact ⟨Ne.symm nx2, Ne.symm nl2⟩)]; exact (hk4.1 2 _ rfl).2
            · rw [kn_off hk5 (by simp; exact ⟨Ne.symm nx3, Ne.symm nl3⟩)]; exact (hk4.1 3 _ rfl).2
            · rw [kn_off hk5 (by simp; exact ⟨Ne.symm nx4, Ne.symm nl4⟩)]; exact (hk4.1 4 _ rfl).2
            · rw [kn_off hk5 (by simp; exact ⟨Ne.symm nx5, Ne.symm nl5⟩)]; exact (hk4.1 5 _ rfl).2
      · exact absurd (nI_le (b := 12) hnn (by omega)) hc
end
section
-- ===== Whole: topBelow =====
theorem lN_shrK {a k : Nat} (hk : k < 64) (h : a < 2 ^ 62) : lN a >>> ((nI k).toInt64 &&& 63) = lN (a / 2 ^ k) := pf_shr (by rw [wb_c k hk, wb_tb, wb_sm k hk, BitVec.toNat_ofNat]; omega) h
/-- the limb at a place below an end, 0 below the lowest -/
def lb (d : Nat → Nat) (en q : Nat) : Nat := if q ≤ en then d (en - q) else 0
theorem lb_lt {d : Nat → Nat} {en q : Nat} (hd : ∀ i, i < 12 → d i < B30) (he : en ≤ 12) (hq : 0 < q) : lb d en q < B30 := by
  unfold lb
  by_cases h : q ≤ en
  · rw [if_pos h]; exact hd _ (by omega)
  · rw [if_neg h]; decide
def tb (d : Nat → Nat) (en sh : Nat) : Nat := (lb d en 1 * B30 + lb d en 2) * 2 ^ sh + lb d en 3 / 2 ^ (30 - sh)
set_option maxRecDepth 100000 in
set_option maxHeartbeats 4000000 in
theorem m_W_topBelow (l : Launch) (D : va_G) (k : Nat → ClassId) (L : List Nat) (f : Nat → va_E) (x xl n : Nat) (g : Int32) (d : Nat → Nat) (en sh : Nat) (hd : ∀ i, i < 12 → d i < B30) (hen : en ≤ 12) (hsh : sh ≤ 29) (hh : lb d en 1 < 2 ^ (30 - sh)) (hk : kn L f f [(x, cW xl n g), (xl, cD k d)]) : Ml l y_W_topBelow (Cond.code y_W_topBelow c_W_topBelow 9 (some .long) :: G) (rmN 0) D cls (tyl k) L f [.ref x, .int (nI en), .int (nI sh)] (fun r f' => f' = f ∧ r = lN (tb d en sh)) := by
  -- METHOD W_topBelow | loc 0=x 1=en 2=sh | ws x xl | fld x.limbs=xl
  refine mk_met (by decide) (Nat.le_of_ble_eq_true rfl) (fun p e s m below meth c ls S hr hlocks hw hl => ?_)
  have hx := S.1
  have hb := S.2.1
  have hown : s.vm.findClass R_W = some m.cls := S.2.2.2.1
  have hG := S.2.2.2.2
  have hl : lv_has ls 9 [(0, .ref x), (1, .int (nI en)), (2, .int (nI sh))] := hl
  have hg := hw
  have hw : kw D cls (tyl k) L s s.heap f [(x, cW xl n g), (xl, cD k d)] s.heap [] := ⟨f, hw, hk⟩
  have hB30 : B30 = 1073741824 := rfl
  have h1 := lb_lt (q := 1) hd hen (by omega)
  have h2 := lb_lt (q := 2) hd hen (by omega)
  have h3 := lb_lt (q := 3) hd hen (by omega)
  -- the end
  have hE : ∀ ls, lv_has ls 9 [(7, .long (lN (lb d en 3))), (5, .long (lN (lb d en 2))), (3, .long (lN (lb d en 1))), (0, .ref x), (1, .int (nI en)), (2, .int (nI sh))] → W p l e (rmN 0) s m [Value.ref x, .int (nI en), .int (nI sh)].toArray below meth c s.heap [] 0 0 (MQ below (va_Ql (fun r f' => f' = f ∧ r = lN (tb d en sh)) (mst D cls (tyl k) L) (fun q => q ∈ L)) [Value.ref x, .int (nI en), .int (nI sh)].toArray s 0 0 (fun q => q ∈ L)) (F0 m 59 ls []) := by
    intro ls hl
    refine lv_lload_n hx hb d_W_topBelow_59 rfl (lv_at hl 2 rfl) ?_
    refine lv_bipush (v := 30) hx hb d_W_topBelow_60 (by decide) ?_
    refine lv_lshl hx hb d_W_topBelow_62 (show lN (lb d en 1) <<< ((30 : Int32).toInt64 &&& 63) = lN (lb d en 1 * B30) from wb_shl _ (k := 30) (by decide)) ?_
    refine lv_lload hx hb d_W_topBelow_63 (lv_at hl 1 rfl) ?_
    refine lv_lor hx hb d_W_topBelow_65 ?_
    have q0 : lb d en 1 * B30 + lb d en 2 < 2 ^ 64 := by rw [hB30] at h1 h2 ⊢; omega
    refine l_topl (gl_or (k := 30) (p := B30) (by decide) h2 q0) ?_
    have hp : (lb d en 1 * B30 + lb d en 2) * 2 ^ sh < 2 ^ 60 := by
      have q1 : lb d en 1 * B30 + lb d en 2 < 2 ^ (30 - sh) * B30 := by
        have : (lb d en 1 + 1) * B30 ≤ 2 ^ (30 - sh) * B30 := Nat.mul_le_mul_right _ hh
        rw [Nat.add_mul, Nat.one_mul] at this
        omega
      have q2 : (lb d en 1 * B30 + lb d en 2) * 2 ^ sh < 2 ^ (30 - sh) * B30 * 2 ^ sh := Nat.mul_lt_mul_of_pos_right q1 (Nat.pow_pos (by omega))
      have q3 : 2 ^ (30 - sh) * B30 * 2 ^ sh = 2 ^ 60 := by
        rw [show B30 = 2 ^ 30 from rfl, Nat.mul_right_comm, ← Nat.pow_add, show 30 - sh + sh = 30 by omega, ← Nat.pow_add]
      omega
    have hbe : lb d en 3 / 2 ^ (30 - sh) < 2 ^ sh := by
      rw [Nat.div_lt_iff_lt_mul (Nat.pow_pos (by omega)), ← Nat.pow_add, show sh + (30 - sh) = 30 by omega]
      exact h3
    refine lv_iload_n hx hb d_W_topBelow_66 rfl (lv_at hl 5 rfl) ?_
    refine lv_lshl hx hb d_W_topBelow_67 (wb_shl _ (k := sh) (by omega)) ?_
    refine lv_lload hx hb d_W_topBelow_68 (lv_at hl 0 rfl) ?_
    refine lv_bipush (v := 30) hx hb d_W_topBelow_70 (by decide) ?_
    refine lv_iload_n hx hb d_W_topBelow_72 rfl (lv_at hl 5 rfl) ?_
    refine lv_isub hx hb d_W_topBelow_73 ?_
    refine l_top (show (30 : Int32) - nI sh = nI (30 - sh) from pk_sub (a := 30) (by omega)) ?_
    refine lv_lshr hx hb d_W_topBelow_74 (lN_shrK (k := 30 - sh) (by omega) (by omega)) ?_
    refine lv_lor hx hb d_W_topBelow_75 ?_
    have q5 : 2 ^ sh ≤ 2 ^ 29 := Nat.pow_le_pow_right (by omega) hsh
    have q6 : (lb d en 1 * B30 + lb d en 2) * 2 ^ sh + lb d en 3 / 2 ^ (30 - sh) < 2 ^ 64 := by omega
    refine l_topl (gl_or (k := sh) rfl hbe q6) ?_
    exact g_retl hx hb hr hlocks hg ⟨rfl, rfl⟩ d_W_topBelow_76
  -- from the third limb
  have hC : ∀ ls, lv_has ls 9 [(5, .long (lN (lb d en 2))), (3, .long (lN (lb d en 1))), (0, .ref x), (1, .int (nI en)), (2, .int (nI sh))] → W p l e (rmN 0) s m [Value.ref x, .int (nI en), .int (nI sh)].toArray below meth c s.heap [] 0 0 (MQ below (va_Ql (fun r f' => f' = f ∧ r = lN (tb d en sh)) (mst D cls (tyl k) L) (fun q => q ∈ L)) [Value.ref x, .int (nI en), .int (nI sh)].toArray s 0 0 (fun q => q ∈ L)) (F0 m 39 ls []) := by
    intro ls hl
    refine lv_iload_n hx hb d_W_topBelow_39 rfl (lv_at hl 3 rfl) ?_
    refine lv_iconst (v := 3) hx hb d_W_topBelow_40 (by decide) ?_
    refine lv_icmp_lt (tgt := 56) hx hb d_W_topBelow_41 (by decide) (fun hc => ?_) (fun hc => ?_)
    · have hlt : en < 3 := (nI_ltI (b := 3) (by omega) (by omega)).mp hc
      have e0 : lb d en 3 = 0 := if_neg (by omega)
      refine lv_lconst (v := 0) hx hb d_W_topBelow_56 (by decide) ?_
      refine l_topl (show (0 : Int64) = lN (lb d en 3) by rw [e0]; rfl) ?_
      refine lv_lstore hx hb d_W_topBelow_57 hl (by decide) rfl (fun ls hl => ?_)
      exact hE ls hl
    · have hge : 3 ≤ en := Nat.le_of_not_lt fun h => hc ((nI_ltI (b := 3) (by omega) (by omega)).mpr h)
      have e0 : lb d en 3 = d (en - 3) := if_pos hge
      refine lv_aload_n hx hb d_W_topBelow_44 rfl (lv_at hl 2 rfl) ?_
      refine k_get hx hb hG lay_W hown hw 0 rfl rfl 0 (by decide) (hG _ fl_W_11) (fun _ h9 => h9) rfl d_W_topBelow_45 ?_
      refine lv_iload_n hx hb d_W_topBelow_48 rfl (lv_at hl 3 rfl) ?_
      refine lv_iconst (v := 3) hx hb d_W_topBelow_49 (by decide) ?_
      refine lv_isub hx hb d_W_topBelow_50 ?_
      refine k_iald hx hb hw 1 0 rfl rfl ((en - 3)) ((show nI en - 3 = nI (en - 3) from pk_sub (b := 3) hge)) (by omega) (by first | decide | omega) d_W_topBelow_51 ?_
      refine lv_i2l hx hb d_W_topBelow_52 (show (nD d (en - 3)).toInt64 = lN (lb d en 3) by rw [e0]; exact nI_l (by omega)) ?_
      refine lv_goto (tgt := 57) hx hb d_W_topBelow_53 (by decide) ?_
      refine lv_lstore hx hb d_W_topBelow_57 hl (by decide) rfl (fun ls hl => ?_)
      exact hE ls hl
  have hB : ∀ ls, lv_has ls 9 [(3, .long (lN (lb d en 1))), (0, .ref x), (1, .int (nI en)), (2, .int (nI sh))] → W p l e (rmN 0) s m [Value.ref x, .int (nI en), .int (nI sh)].toArray below meth c s.heap [] 0 0 (MQ below (va_Ql (fun r f' => f' = f ∧ r = lN (tb d en sh)) (mst D cls (tyl k) L) (fun q => q ∈ L)) [Value.ref x, .int (nI en), .int (nI sh)].toArray s 0 0 (fun q => q ∈ L)) (F0 m 19 ls []) := by
    intro ls hl
    refine lv_iload_n hx hb d_W_topBelow_19 rfl (lv_at hl 2 rfl) ?_
    refine lv_iconst (v := 2) hx hb d_W_topBelow_20 (by decide) ?_
    refine lv_icmp_lt (tgt := 36) hx hb d_W_topBelow_21 (by decide) (fun hc => ?_) (fun hc => ?_)
    · have hlt : en < 2 := (nI_ltI (b := 2) (by omega) (by omega)).mp hc
      have e0 : lb d en 2 = 0 := if_neg (by omega)
      refine lv_lconst (v := 0) hx hb d_W_topBelow_36 (by decide) ?_
      refine l_topl (show (0 : Int64) = lN (lb d en 2) by rw [e0]; rfl) ?_
      refine lv_lstore hx hb d_W_topBelow_37 hl (by decide) rfl (fun ls hl => ?_)
      exact hC ls hl
    · have hge : 2 ≤ en := Nat.le_of_not_lt fun h => hc ((nI_ltI (b := 2) (by omega) (by omega)).mpr h)
      have e0 : lb d en 2 = d (en - 2) := if_pos hge
      refine lv_aload_n hx hb d_W_topBelow_24 rfl (lv_at hl 1 rfl) ?_
      refine k_get hx hb hG lay_W hown hw 0 rfl rfl 0 (by decide) (hG _ fl_W_11) (fun _ h9 => h9) rfl d_W_topBelow_25 ?_
      refine lv_iload_n hx hb d_W_topBelow_28 rfl (lv_at hl 2 rfl) ?_
      refine lv_iconst (v := 2) hx hb d_W_topBelow_29 (by decide) ?_
      refine lv_isub hx hb d_W_topBelow_30 ?_
      refine k_iald hx hb hw 1 0 rfl rfl ((en - 2)) ((show nI en - 2 = nI (en - 2) from pk_sub (b := 2) hge)) (by omega) (by first | decide | omega) d_W_topBelow_31 ?_
      refine lv_i2l hx hb d_W_topBelow_32 (show (nD d (en - 2)).toInt64 = lN (lb d en 2) by rw [e0]; exact nI_l (by omega)) ?_
      refine lv_goto (tgt := 37) hx hb d_W_topBelow_33 (by decide) ?_
      refine lv_lstore hx hb d_W_topBelow_37 hl (by decide) rfl (fun ls hl => ?_)
      exact hC ls hl
  refine lv_iload_n hx hb d_W_topBelow_0 rfl (lv_at hl 1 rfl) ?_
  refine lv_iconst (v := 1) hx hb d_W_topBelow_1 (by decide) ?_
  refine lv_icmp_lt (tgt := 17) hx hb d_W_topBelow_2 (by decide) (fun hc => ?_) (fun hc => ?_)
  · have hlt : en < 1 := (nI_ltI (b := 1) (by omega) (by omega)).mp hc
    have e0 : lb d en 1 = 0 := if_neg (by omega)
    refine lv_lconst (v := 0) hx hb d_W_topBelow_17 (by decide) ?_
    refine l_topl (show (0 : Int64) = lN (lb d en 1) by rw [e0]; rfl) ?_
    refine lv_lstore_n hx hb d_W_topBelow_18 rfl hl (by decide) rfl (fun ls hl => ?_)
    exact hB ls hl
  · have hge : 1 ≤ en := Nat.le_of_not_lt fun h => hc ((nI_ltI (b := 1) (by omega) (by omega)).mpr h)
    have e0 : lb d en 1 = d (en - 1) := if_pos hge
    refine lv_aload_n hx hb d_W_topBelow_5 rfl (lv_at hl 0 rfl) ?_
    refine k_get hx hb hG lay_W hown hw 0 rfl rfl 0 (by decide) (hG _ fl_W_11) (fun _ h9 => h9) rfl d_W_topBelow_6 ?_
    refine lv_iload_n hx hb d_W_topBelow_9 rfl (lv_at hl 1 rfl) ?_
    refine lv_iconst (v := 1) hx hb d_W_topBelow_10 (by decide) ?_
    refine lv_isub hx hb d_W_topBelow_11 ?_
    refine k_iald hx hb hw 1 0 rfl rfl ((en - 1)) ((show nI en - 1 = nI (en - 1) from pk_sub (b := 1) hge)) (by omega) (by first | decide | omega) d_W_topBelow_12 ?_
    refine lv_i2l hx hb d_W_topBelow_13 (show (nD d (en - 1)).toInt64 = lN (lb d en 1) by rw [e0]; exact nI_l (by omega)) ?_
    refine lv_goto (tgt := 18) hx hb d_W_topBelow_14 (by decide) ?_
    refine lv_lstore_n hx hb d_W_topBelow_18 rfl hl (by decide) rfl (fun ls hl => ?_)
    exact hB ls hl
/-- what topBelow says, by division -/
theorem tb_val {d : Nat → Nat} {en sh : Nat} (hd : ∀ i, i < en → d i < B30) (h1 : 1 ≤ en) (hsh : sh ≤ 30) : tb d en sh = 2 ^ sh * (B30 * cd B30 en d) / B30 ^ (en - 1) := by
  have hBp : B30 = 2 ^ sh * 2 ^ (30 - sh) := by rw [← Nat.pow_add, show sh + (30 - sh) = 30 by omega]; rfl
  have hB0 : 0 < B30 := by decide
  obtain ⟨m, rfl⟩ : ∃ m, en = m + 1 := ⟨en - 1, by omega⟩
  rw [show m + 1 - 1 = m by omega]
  have a1 : lb d (m + 1) 1 = d m := by unfold lb; rw [if_pos (by omega)]; congr 1
  unfold tb
  rw [a1]
  rcases m with _ | m
  · have a2 : lb d (0 + 1) 2 = 0 := if_neg (by omega)
    have a3 : lb d (0 + 1) 3 = 0 := if_neg (by omega)
    have a4 : cd B30 (0 + 1) d = d 0 := by show 0 + d 0 * B30 ^ 0 = d 0; rw [Nat.pow_zero]; omega
    rw [a2, a3, a4, Nat.zero_div, Nat.pow_zero, Nat.div_one, Nat.add_zero, Nat.add_zero, Nat.mul_comm, Nat.mul_comm (d 0) B30]
  · have a2 : lb d (m + 1 + 1) 2 = d m := by unfold lb; rw [if_pos (by omega)]; congr 1
    rw [a2]
    -- 2^sh * B * V / B^(m+1) = 2^sh * V / B^m
    rw [Nat.pow_succ, Nat.mul_left_comm, Nat.mul_comm (B30 ^ m) B30, Nat.mul_div_mul_left _ _ hB0]
    have hV : cd B30 (m + 1 + 1) d = cd B30 m d + (d (m + 1) * B30 + d m) * B30 ^ m := by
      show cd B30 m d + d m * B30 ^ m + d (m + 1) * B30 ^ (m + 1) = _
      rw [Nat.add_mul, Nat.pow_succ, Nat.mul_assoc, Nat.mul_comm B30 (B30 ^ m)]
      omega
    rw [hV, Nat.mul_add, ← Nat.mul_assoc (2 ^ sh), Nat.add_mul_div_right _ _ (Nat.pow_pos hB0), Nat.mul_comm (2 ^ sh) (d (m + 1) * B30 + d m), Nat.add_comm]
    congr 1
    rcases m with _ | m
    · have a3 : lb d (0 + 1 + 1) 3 = 0 := if_neg (by omega)
      rw [a3, Nat.zero_div]
      show _ = 2 ^ sh * 0 / _
      rw [Nat.mul_zero, Nat.zero_div]
    · have a3 : lb d (m + 1 + 1 + 1) 3 = d m := by unfold lb; rw [if_pos (by omega)]; congr 1
      rw [a3]
      show _ = 2 ^ sh * (cd B30 m d + d m * B30 ^ m) / B30 ^ (m + 1)
      have hlt := cd_lt m (b := B30) (d := d) (fun i hi => hd i (by omega))
      have e1 : B30 ^ (m + 1) = 2 ^ sh * (B30 ^ m * 2 ^ (30 - sh)) := by
        rw [Nat.pow_succ]
        have h9 : B30 ^ m * B30 = B30 ^ m * (2 ^ sh * 2 ^ (30 - sh)) := congrArg (B30 ^ m * ·) hBp
        rw [h9, Nat.mul_left_comm]
      rw [e1, Nat.mul_div_mul_left _ _ (Nat.pow_pos (by omega)), ← Nat.div_div_eq_div_mul, Nat.add_mul_div_right _ _ (Nat.pow_pos hB0), Nat.div_eq_of_lt hlt, Nat.zero_add]
end
section
-- ===== Whole: takeAway =====
theorem sub_stepS {i q : Nat} {cy w : Int} {r : Nat → Nat} {S : Int} (h : (cd B30 i (fun t => r (q + t)) : Int) + cy * (B30 : Int) ^ i = S) : (cd B30 (i + 1) (fun t => va_up r (q + i) ((cy + w) % 1073741824).toNat (q + t)) : Int) + (cy + w) / 1073741824 * (B30 : Int) ^ (i + 1) = S + w * (B30 : Int) ^ i := by
  have h0 : cd B30 (i + 1) (fun t => va_up r (q + i) ((cy + w) % 1073741824).toNat (q + t)) = cd B30 (i + 1) (va_up (fun t => r (q + t)) i ((cy + w) % 1073741824).toNat) := cd_congr (i + 1) (fun t ht => by
    by_cases e : t = i
    · subst e; rw [va_up_self, va_up_self]
    · rw [va_up_ne _ _ (by omega), va_up_ne _ _ e])
  rw [h0]
  exact sub_step h
theorem zL_dig {d : Nat → Nat} {i : Nat} (h : d i < B30) : (nD d i).toInt64 = zL ((d i : Nat) : Int) := nI_l (by unfold B30 at h; omega)
theorem zL_lowI (w : Int) : (zL (w % 1073741824)).toInt32 = nI (w % 1073741824).toNat := by
  rw [zLI, ← zI_n]
  congr 1
  omega
section TAKE
variable {p : Program} {l : Launch} {e : Env} {s : State} {m : MethodId} {args : Array Value} {below : List Frame} {meth : Method} {c : Code} {Q : State → Prop} {D : va_G} {k : Nat → ClassId} {L : List Nat} {f0 : Nat → va_E} {H0 : Heap} {R : Room} {cells slots : Nat}
set_option maxRecDepth 100000 in
set_option maxHeartbeats 4000000 in
theorem w_ta1 (S : CallFix p m c c_W_takeAway 12 s args G R_W) {x xl n o ol n2 at0 G0 : Nat} {g g2 : Int32} {d d2 : Nat → Nat} (hat : at0 + n2 < 12) (hG0 : G0 ≤ 1073741823) (hd2 : ∀ t, t < 12 → d2 t < B30) :
    ∀ (j i : Nat) (cy : Int) (r : Nat → Nat) (H : Heap) (locs : List Loc) (ls : Array Slot), i + j = n2 → (-1073741824 ≤ cy ∧ cy ≤ 0) → (∀ t, t < 12 → r t < B30) → (∀ t, t < at0 ∨ at0 + i ≤ t → r t = d t) → (cd B30 i (fun t => r (at0 + t)) : Int) + cy * (B30 : Int) ^ i = (cd B30 i (fun t => d (at0 + t)) : Int) - (G0 : Int) * (cd B30 i d2 : Int) →
    lv_has ls 12 [(0, .ref x), (1, .ref o), (2, .long (zL (G0 : Int))), (4, .int (nI at0)), (5, .int (nI (at0 + n2))), (6, .long (zL cy)), (8, .int (nI i))] → kw D cls (tyl k) L s H0 f0 [(x, cW xl n g), (xl, cD k r), (o, cW ol n2 g2), (ol, cD k d2)] H locs →
    (∀ (cy : Int) (r : Nat → Nat) (H : Heap) (locs : List Loc) (ls : Array Slot), (-1073741824 ≤ cy ∧ cy ≤ 0) → (∀ t, t < 12 → r t < B30) → (∀ t, t < at0 ∨ at0 + n2 ≤ t → r t = d t) → (cd B30 n2 (fun t => r (at0 + t)) : Int) + cy * (B30 : Int) ^ n2 = (cd B30 n2 (fun t => d (at0 + t)) : Int) - (G0 : Int) * (cd B30 n2 d2 : Int) → lv_has ls 12 [(0, .ref x), (1, .ref o), (2, .long (zL (G0 : Int))), (4, .int (nI at0)), (5, .int (nI (at0 + n2))), (6, .long (zL cy)), (8, .int (nI n2))] → kw D cls (tyl k) L s H0 f0 [(x, cW xl n g), (xl, cD k r), (o, cW ol n2 g2), (ol, cD k d2)] H locs → W p l e R s m args below meth c H locs cells slots Q (F0 m 81 ls [])) →
    W p l e R s m args below meth c H locs cells slots Q (F0 m 15 ls []) := by
  have hx := S.1
  have hb := S.2.1
  have hown : s.vm.findClass R_W = some m.cls := S.2.2.2.1
  have hG := S.2.2.2.2
  intro j
  induction j with
  | zero =>
    intro i cy r H locs ls hij hcy hrr hr0 he hl hw kx
    have hij : i = n2 := by omega
    subst hij
    -- METHOD W_takeAway | loc 0=x 1=o 2=Q 4=at 5=en 6=cy 8=i | ws x xl o ol | fld x.limbs=xl o.limbs=ol
    refine lv_iload hx hb d_W_takeAway_15 (lv_at hl 6 rfl) ?_
    refine lv_aload_n hx hb d_W_takeAway_17 rfl (lv_at hl 1 rfl) ?_
    refine k_get hx hb hG lay_W hown hw 2 rfl rfl 1 (by decide) (hG _ fl_W_15) (fun _ h9 => h9) rfl d_W_takeAway_18 ?_
    refine lv_icmp_ge (tgt := 81) hx hb d_W_takeAway_21 (by decide) (fun hc => ?_) (fun hc => ?_)
    · exact kx cy r H locs ls hcy hrr hr0 he hl hw
    · exact absurd (nI_le (Nat.le_refl _) (by omega)) hc
  | succ j ih =>
    intro i cy r H locs ls hij hcy hrr hr0 he hl hw kx
    -- METHOD W_takeAway | loc 0=x 1=o 2=Q 4=at 5=en 6=cy 8=i | ws x xl o ol | fld x.limbs=xl o.limbs=ol
    refine lv_iload hx hb d_W_takeAway_15 (lv_at hl 6 rfl) ?_
    refine lv_aload_n hx hb d_W_takeAway_17 rfl (lv_at hl 1 rfl) ?_
    refine k_get hx hb hG lay_W hown hw 2 rfl rfl 1 (by decide) (hG _ fl_W_15) (fun _ h9 => h9) rfl d_W_takeAway_18 ?_
    refine lv_icmp_ge (tgt := 81) hx hb d_W_takeAway_21 (by decide) (fun hc => ?_) (fun hc => ?_)
    · exact absurd hc (nI_ge (by omega) (by omega))
    · have hr1 : r (at0 + i) < B30 := hrr _ (by omega)
      have hd1 : d2 i < B30 := hd2 _ (by omega)
      have hB30 : B30 = 1073741824 := rfl
      have hprod : G0 * d2 i ≤ 1073741823 * 1073741823 := Nat.mul_le_mul hG0 (by omega)
      have hpI : (G0 : Int) * (d2 i : Int) = ((G0 * d2 i : Nat) : Int) := (Int.natCast_mul _ _).symm
      have hrd : r (at0 + i) = d (at0 + i) := hr0 _ (by omega)
      refine lv_lload hx hb d_W_takeAway_24 (lv_at hl 5 rfl) ?_
      refine lv_aload_n hx hb d_W_takeAway_26 rfl (lv_at hl 0 rfl) ?_
      refine k_get hx hb hG lay_W hown hw 0 rfl rfl 0 (by decide) (hG _ fl_W_11) (fun _ h9 => h9) rfl d_W_takeAway_27 ?_
      refine lv_iload hx hb d_W_takeAway_30 (lv_at hl 3 rfl) ?_
      refine lv_iload hx hb d_W_takeAway_32 (lv_at hl 6 rfl) ?_
      refine lv_iadd hx hb d_W_takeAway_34 ?_
      refine k_iald hx hb hw 1 0 rfl rfl ((at0 + i)) (nI_add at0 i) (by omega) (by first | decide | omega) d_W_takeAway_35 ?_
      refine lv_i2l hx hb d_W_takeAway_36 (zL_dig hr1) ?_
      refine lv_lload_n hx hb d_W_takeAway_37 rfl (lv_at hl 2 rfl) ?_
      refine lv_aload_n hx hb d_W_takeAway_38 rfl (lv_at hl 1 rfl) ?_
      refine k_get hx hb hG lay_W hown hw 2 rfl rfl 0 (by decide) (hG _ fl_W_11) (fun _ h9 => h9) rfl d_W_takeAway_39 ?_
      refine lv_iload hx hb d_W_takeAway_42 (lv_at hl 6 rfl) ?_
      refine k_iald hx hb hw 3 0 rfl rfl (i) (rfl) (by omega) (by first | decide | omega) d_W_takeAway_44 ?_
      refine lv_i2l hx hb d_W_takeAway_45 (zL_dig hd1) ?_
      refine lv_lmul hx hb d_W_takeAway_46 ?_
      refine l_topl (zL_mul _ _) ?_
      refine lv_lsub hx hb d_W_takeAway_47 ?_
      refine l_topl (zL_sub _ _) ?_
      refine lv_ladd hx hb d_W_takeAway_48 ?_
      refine l_topl (zL_add _ _) ?_
      refine lv_lstore hx hb d_W_takeAway_49 hl (by decide) rfl (fun ls hl => ?_)
      refine lv_aload_n hx hb d_W_takeAway_51 rfl (lv_at hl 1 rfl) ?_
      refine k_get hx hb hG lay_W hown hw 0 rfl rfl 0 (by decide) (hG _ fl_W_11) (fun _ h9 => h9) rfl d_W_takeAway_52 ?_
      refine lv_iload hx hb d_W_takeAway_55 (lv_at hl 4 rfl) ?_
      refine lv_iload hx hb d_W_takeAway_57 (lv_at hl 6 rfl) ?_
      refine lv_iadd hx hb d_W_takeAway_59 ?_
      refine lv_lload hx hb d_W_takeAway_60 (lv_at hl 0 rfl) ?_
      refine lv_ldc2 hx hb hown (hG _ ct_W_43) d_W_takeAway_62 ?_
      refine lv_land hx hb d_W_takeAway_65 ?_
      refine l_topl (zL_and30 _) ?_
      refine lv_l2i hx hb d_W_takeAway_66 (zL_lowI _) ?_
      refine k_iast hx hb hw 1 0 rfl rfl ((at0 + i)) (nI_add at0 i) (by omega) (by first | decide | omega) d_W_takeAway_67 (fun H locs hw => ?_)
      rw [nD_upd] at hw
      refine lv_lload hx hb d_W_takeAway_68 (lv_at hl 0 rfl) ?_
      refine lv_bipush (v := 30) hx hb d_W_takeAway_70 (by decide) ?_
      refine lv_lshr hx hb d_W_takeAway_72 (zL_shr30 ⟨by rw [hpI]; omega, by rw [hpI]; omega⟩) ?_
      refine lv_lstore hx hb d_W_takeAway_73 hl (by decide) rfl (fun ls hl => ?_)
      refine lv_iinc (k := 6) hx hb d_W_takeAway_75 hl rfl (ii1 i) (by decide) rfl (fun ls hl => ?_)
      refine lv_goto (tgt := 15) hx hb d_W_takeAway_78 (by decide) ?_
      have hl := lv_sub hl [2, 3, 4, 5, 6, 1, 0] rfl
      refine ih (i + 1) ((cy + ((r (at0 + i) : Int) - (G0 : Int) * (d2 i : Int))) / 1073741824) (va_up r (at0 + i) ((cy + ((r (at0 + i) : Int) - (G0 : Int) * (d2 i : Int))) % 1073741824).toNat) H locs ls (by omega) (by rw [hpI]; omega) (fun t ht => ?_) (fun t ht => ?_) ?_ hl hw kx
      · by_cases e : t = at0 + i
        · rw [e, va_up_self, hB30]; omega
        · rw [va_up_ne _ _ e]; exact hrr t ht
      · rw [va_up_ne _ _ (by omega)]; exact hr0 t (by omega)
      · rw [sub_stepS he, cd_int_succ, cd_int_succ, hrd, Int.sub_mul, Int.mul_add, Int.mul_assoc]
        omega
set_option maxRecDepth 100000 in
set_option maxHeartbeats 4000000 in
theorem w_ta3 (S : CallFix p m c c_W_takeAway 12 s args G R_W) {x xl n o ol n2 at0 G0 a : Nat} {g g2 : Int32} {d d2 : Nat → Nat} {hi T : Int} (hat : at0 + n2 < 12) (hd2 : ∀ t, t < 12 → d2 t < B30) :
    ∀ (j i : Nat) (cy : Int) (r : Nat → Nat) (H : Heap) (locs : List Loc) (ls : Array Slot), i + j = n2 → (0 ≤ cy ∧ cy ≤ 1) → (∀ t, t < 12 → r t < B30) → (∀ t, t < at0 ∨ at0 + i ≤ t → r t = d t) → (cd B30 i (fun t => r (at0 + t)) : Int) + cy * (B30 : Int) ^ i = (cd B30 i (fun t => d (at0 + t)) : Int) + (cd B30 i d2 : Int) →
    lv_has ls 12 [(0, .ref x), (1, .ref o), (2, .long (zL (G0 : Int))), (4, .int (nI at0)), (5, .int (nI (at0 + n2))), (6, .long (zL cy)), (8, .int (zI hi)), (9, .int (zI T)), (10, .int (nI a)), (11, .int (nI i))] → kw D cls (tyl k) L s H0 f0 [(x, cW xl n g), (xl, cD k r), (o, cW ol n2 g2), (ol, cD k d2)] H locs →
    (∀ (cy : Int) (r : Nat → Nat) (H : Heap) (locs : List Loc) (ls : Array Slot), (0 ≤ cy ∧ cy ≤ 1) → (∀ t, t < 12 → r t < B30) → (∀ t, t < at0 ∨ at0 + n2 ≤ t → r t = d t) → (cd B30 n2 (fun t => r (at0 + t)) : Int) + cy * (B30 : Int) ^ n2 = (cd B30 n2 (fun t => d (at0 + t)) : Int) + (cd B30 n2 d2 : Int) → lv_has ls 12 [(0, .ref x), (1, .ref o), (2, .long (zL (G0 : Int))), (4, .int (nI at0)), (5, .int (nI (at0 + n2))), (6, .long (zL cy)), (8, .int (zI hi)), (9, .int (zI T)), (10, .int (nI a)), (11, .int (nI n2))] → kw D cls (tyl k) L s H0 f0 [(x, cW xl n g), (xl, cD k r), (o, cW ol n2 g2), (ol, cD k d2)] H locs → W p l e R s m args below meth c H locs cells slots Q (F0 m 182 ls [])) →
    W p l e R s m args below meth c H locs cells slots Q (F0 m 119 ls []) := by
  have hx := S.1
  have hb := S.2.1
  have hown : s.vm.findClass R_W = some m.cls := S.2.2.2.1
  have hG := S.2.2.2.2
  intro j
  induction j with
  | zero =>
    intro i cy r H locs ls hij hcy hrr hr0 he hl hw kx
    have hij : i = n2 := by omega
    subst hij
    -- METHOD W_takeAway | loc 0=x 1=o 2=Q 4=at 5=en 6=cy 8=hi 9=T 10=a 11=i | ws x xl o ol | fld x.limbs=xl o.limbs=ol
    refine lv_iload hx hb d_W_takeAway_119 (lv_at hl 9 rfl) ?_
    refine lv_aload_n hx hb d_W_takeAway_121 rfl (lv_at hl 1 rfl) ?_
    refine k_get hx hb hG lay_W hown hw 2 rfl rfl 1 (by decide) (hG _ fl_W_15) (fun _ h9 => h9) rfl d_W_takeAway_122 ?_
    refine lv_icmp_ge (tgt := 182) hx hb d_W_takeAway_125 (by decide) (fun hc => ?_) (fun hc => ?_)
    · exact kx cy r H locs ls hcy hrr hr0 he hl hw
    · exact absurd (nI_le (Nat.le_refl _) (by omega)) hc
  | succ j ih =>
    intro i cy r H locs ls hij hcy hrr hr0 he hl hw kx
    -- METHOD W_takeAway | loc 0=x 1=o 2=Q 4=at 5=en 6=cy 8=hi 9=T 10=a 11=i | ws x xl o ol | fld x.limbs=xl o.limbs=ol
    refine lv_iload hx hb d_W_takeAway_119 (lv_at hl 9 rfl) ?_
    refine lv_aload_n hx hb d_W_takeAway_121 rfl (lv_at hl 1 rfl) ?_
    refine k_get hx hb hG lay_W hown hw 2 rfl rfl 1 (by decide) (hG _ fl_W_15) (fun _ h9 => h9) rfl d_W_takeAway_122 ?_
    refine lv_icmp_ge (tgt := 182) hx hb d_W_takeAway_125 (by decide) (fun hc => ?_) (fun hc => ?_)
    · exact absurd hc (nI_ge (by omega) (by omega))
    · have hr1 : r (at0 + i) < B30 := hrr _ (by omega)
      have hd1 : d2 i < B30 := hd2 _ (by omega)
      have hB30 : B30 = 1073741824 := rfl
      have hrd : r (at0 + i) = d (at0 + i) := hr0 _ (by omega)
      refine lv_lload hx hb d_W_takeAway_128 (lv_at hl 5 rfl) ?_
      refine lv_aload_n hx hb d_W_takeAway_130 rfl (lv_at hl 0 rfl) ?_
      refine k_get hx hb hG lay_W hown hw 0 rfl rfl 0 (by decide) (hG _ fl_W_11) (fun _ h9 => h9) rfl d_W_takeAway_131 ?_
      refine lv_iload hx hb d_W_takeAway_134 (lv_at hl 3 rfl) ?_
      refine lv_iload hx hb d_W_takeAway_136 (lv_at hl 9 rfl) ?_
      refine lv_iadd hx hb d_W_takeAway_138 ?_
      refine k_iald hx hb hw 1 0 rfl rfl ((at0 + i)) (nI_add at0 i) (by omega) (by first | decide | omega) d_W_takeAway_139 ?_
      refine lv_aload_n hx hb d_W_takeAway_140 rfl (lv_at hl 1 rfl) ?_
      refine k_get hx hb hG lay_W hown hw 2 rfl rfl 0 (by decide) (hG _ fl_W_11) (fun _ h9 => h9) rfl d_W_takeAway_141 ?_
      refine lv_iload hx hb d_W_takeAway_144 (lv_at hl 9 rfl) ?_
      refine k_iald hx hb hw 3 0 rfl rfl (i) (rfl) (by omega) (by first | decide | omega) d_W_takeAway_146 ?_
      refine lv_iadd hx hb d_W_takeAway_147 ?_
      refine l_top (show nD r (at0 + i) + nD d2 i = nI (r (at0 + i) + d2 i) from nI_add _ _) ?_
      refine lv_i2l hx hb d_W_takeAway_148 (show (nI (r (at0 + i) + d2 i)).toInt64 = zL ((r (at0 + i) : Int) + (d2 i : Int)) from nI_l (by omega)) ?_
      refine lv_ladd hx hb d_W_takeAway_149 ?_
      refine l_topl (zL_add _ _) ?_
      refine lv_lstore hx hb d_W_takeAway_150 hl (by decide) rfl (fun ls hl => ?_)
      refine lv_aload_n hx hb d_W_takeAway_152 rfl (lv_at hl 1 rfl) ?_
      refine k_get hx hb hG lay_W hown hw 0 rfl rfl 0 (by decide) (hG _ fl_W_11) (fun _ h9 => h9) rfl d_W_takeAway_153 ?_
      refine lv_iload hx hb d_W_takeAway_156 (lv_at hl 4 rfl) ?_
      refine lv_iload hx hb d_W_takeAway_158 (lv_at hl 9 rfl) ?_
      refine lv_iadd hx hb d_W_takeAway_160 ?_
      refine lv_lload hx hb d_W_takeAway_161 (lv_at hl 0 rfl) ?_
      refine lv_ldc2 hx hb hown (hG _ ct_W_43) d_W_takeAway_163 ?_
      refine lv_land hx hb d_W_takeAway_166 ?_
      refine l_topl (zL_and30 _) ?_
      refine lv_l2i hx hb d_W_takeAway_167 (zL_lowI _) ?_
      refine k_iast hx hb hw 1 0 rfl rfl ((at0 + i)) (nI_add at0 i) (by omega) (by first | decide | omega) d_W_takeAway_168 (fun H locs hw => ?_)
      rw [nD_upd] at hw
      refine lv_lload hx hb d_W_takeAway_169 (lv_at hl 0 rfl) ?_
      refine lv_bipush (v := 30) hx hb d_W_takeAway_171 (by decide) ?_
      refine lv_lshr hx hb d_W_takeAway_173 (zL_shr30 ⟨by omega, by omega⟩) ?_
      refine lv_lstore hx hb d_W_takeAway_174 hl (by decide) rfl (fun ls hl => ?_)
      refine lv_iinc (k := 9) hx hb d_W_takeAway_176 hl rfl (ii1 i) (by decide) rfl (fun ls hl => ?_)
      refine lv_goto (tgt := 119) hx hb d_W_takeAway_179 (by decide) ?_
      have hl := lv_sub hl [2, 3, 4, 5, 6, 1, 7, 8, 9, 0] rfl
      refine ih (i + 1) ((cy + ((r (at0 + i) : Int) + (d2 i : Int))) / 1073741824) (va_up r (at0 + i) ((cy + ((r (at0 + i) : Int) + (d2 i : Int))) % 1073741824).toNat) H locs ls (by omega) (by omega) (fun t ht => ?_) (fun t ht => ?_) ?_ hl hw kx
      · by_cases e : t = at0 + i
        · rw [e, va_up_self, hB30]; omega
        · rw [va_up_ne _ _ e]; exact hrr t ht
      · rw [va_up_ne _ _ (by omega)]; exact hr0 t (by omega)
      · rw [sub_stepS he, cd_int_succ, cd_int_succ, hrd, Int.add_mul]
        omega
set_option maxRecDepth 100000 in
set_option maxHeartbeats 4000000 in
theorem w_ta2 (S : CallFix p m c c_W_takeAway 12 s args G R_W) {x xl n o ol n2 at0 G0 X : Nat} {g g2 : Int32} {d d2 : Nat → Nat} (hat : at0 + n2 < 12) (hG0 : G0 ≤ 1073741823) (hd2 : ∀ t, t < 12 → d2 t < B30) (hD : 0 < cd B30 n2 d2) (hq : G0 ≤ X / cd B30 n2 d2 + 2) :
    ∀ (j a : Nat) (hi T : Int) (r : Nat → Nat) (H : Heap) (locs : List Loc) (ls : Array Slot), a + j = 2 → (-1073741824 ≤ hi ∧ hi ≤ 1073741824) → T = (G0 : Int) - a → ((X / cd B30 n2 d2 : Nat) : Int) ≤ T → (∀ t, t < 12 → r t < B30) → (∀ t, t < at0 ∨ at0 + n2 ≤ t → r t = d t) → (cd B30 n2 (fun t => r (at0 + t)) : Int) + hi * (B30 : Int) ^ n2 = (X : Int) - T * (cd B30 n2 d2 : Int) →
    lv_has ls 12 [(0, .ref x), (1, .ref o), (2, .long (zL (G0 : Int))), (4, .int (nI at0)), (5, .int (nI (at0 + n2))), (8, .int (zI hi)), (9, .int (zI T)), (10, .int (nI a))] → kw D cls (tyl k) L s H0 f0 [(x, cW xl n g), (xl, cD k r), (o, cW ol n2 g2), (ol, cD k d2)] H locs →
    (∀ (hi T : Int) (r : Nat → Nat) (H : Heap) (locs : List Loc) (ls : Array Slot) (a : Nat), 0 ≤ hi → hi ≤ 1073741824 → (-2 ≤ T ∧ T ≤ 1073741823) → ((X / cd B30 n2 d2 : Nat) : Int) ≤ T → (∀ t, t < 12 → r t < B30) → (∀ t, t < at0 ∨ at0 + n2 ≤ t → r t = d t) → (cd B30 n2 (fun t => r (at0 + t)) : Int) + hi * (B30 : Int) ^ n2 = (X : Int) - T * (cd B30 n2 d2 : Int) → lv_has ls 12 [(0, .ref x), (1, .ref o), (2, .long (zL (G0 : Int))), (4, .int (nI at0)), (5, .int (nI (at0 + n2))), (8, .int (zI hi)), (9, .int (zI T)), (10, .int (nI a))] → kw D cls (tyl k) L s H0 f0 [(x, cW xl n g), (xl, cD k r), (o, cW ol n2 g2), (ol, cD k d2)] H locs → W p l e R s m args below meth c H locs cells slots Q (F0 m 199 ls [])) →
    W p l e R s m args below meth c H locs cells slots Q (F0 m 102 ls []) := by
  have hx := S.1
  have hb := S.2.1
  have hown : s.vm.findClass R_W = some m.cls := S.2.2.2.1
  have hG := S.2.2.2.2
  have neg : ∀ (hi T : Int) (r : Nat → Nat), (∀ t, t < 12 → r t < B30) → (cd B30 n2 (fun t => r (at0 + t)) : Int) + hi * (B30 : Int) ^ n2 = (X : Int) - T * (cd B30 n2 d2 : Int) → hi < 0 → ((X / cd B30 n2 d2 : Nat) : Int) + 1 ≤ T := by
    intro hi T r hrr he hneg
    have hlt := cd_lt n2 (b := B30) (d := fun t => r (at0 + t)) (fun i hi => hrr _ (by omega))
    have hP : (B30 : Int) ^ n2 = ((B30 ^ n2 : Nat) : Int) := (Int.natCast_pow _ _).symm
    rw [hP] at he
    have h1 : hi * ((B30 ^ n2 : Nat) : Int) ≤ (-1) * ((B30 ^ n2 : Nat) : Int) := Int.mul_le_mul_of_nonneg_right (by omega) (by omega)
    have h2 : (X : Int) < T * (cd B30 n2 d2 : Int) := by omega
    have h3 : ((X / cd B30 n2 d2 * cd B30 n2 d2 : Nat) : Int) ≤ (X : Int) := by have := Nat.div_mul_le_self X (cd B30 n2 d2); omega
    rw [Int.natCast_mul] at h3
    have h4 : ((X / cd B30 n2 d2 : Nat) : Int) * (cd B30 n2 d2 : Int) < T * (cd B30 n2 d2 : Int) := by omega
    have := Int.lt_of_mul_lt_mul_right h4 (by omega)
    omega
  intro j
  induction j with
  | zero =>
    intro a hi T r H locs ls haj hh hT hTq hrr hr0 he hl hw kx
    have ha2 : a = 2 := by omega
    subst ha2
    -- METHOD W_takeAway | loc 0=x 1=o 2=Q 4=at 5=en 8=hi 9=T 10=a | ws x xl o ol | fld x.limbs=xl o.limbs=ol
    refine lv_iload hx hb d_W_takeAway_102 (lv_at hl 7 rfl) ?_
    refine lv_iconst (v := 2) hx hb d_W_takeAway_104 (by decide) ?_
    refine lv_icmp_ge (tgt := 199) hx hb d_W_takeAway_105 (by decide) (fun hc => ?_) (fun hc => ?_)
    · have hnn : 0 ≤ hi := Int.not_lt.mp fun h => by
        have := neg hi T r hrr he h
        omega
      exact kx hi T r H locs ls 2 hnn hh.2 (by omega) hTq hrr hr0 he hl hw
    · exact absurd (by decide) hc
  | succ j ih =>
    intro a hi T r H locs ls haj hh hT hTq hrr hr0 he hl hw kx
    -- METHOD W_takeAway | loc 0=x 1=o 2=Q 4=at 5=en 8=hi 9=T 10=a | ws x xl o ol | fld x.limbs=xl o.limbs=ol
    refine lv_iload hx hb d_W_takeAway_102 (lv_at hl 7 rfl) ?_
    refine lv_iconst (v := 2) hx hb d_W_takeAway_104 (by decide) ?_
    refine lv_icmp_ge (tgt := 199) hx hb d_W_takeAway_105 (by decide) (fun hc => ?_) (fun hc => ?_)
    · exact absurd hc (nI_ge (b := 2) (by omega) (by omega))
    · -- STK
      refine lv_iload hx hb d_W_takeAway_108 (lv_at hl 5 rfl) ?_
      refine lv_if_ge (tgt := 199) hx hb d_W_takeAway_110 (by decide) (fun hc => ?_) (fun hc => ?_)
      · have hnn : 0 ≤ hi := (zI_le (a := 0) ⟨by decide, by decide⟩ ⟨by omega, by omega⟩).mp hc
        exact kx hi T r H locs ls a hnn hh.2 (by omega) hTq hrr hr0 he hl hw
      · have hneg : hi < 0 := Int.not_le.mp fun h => hc ((zI_le (a := 0) ⟨by decide, by decide⟩ ⟨by omega, by omega⟩).mpr h)
        have hTn := neg hi T r hrr he hneg
        refine lv_lconst (v := 0) hx hb d_W_takeAway_113 (by decide) ?_
        refine lv_lstore hx hb d_W_takeAway_114 hl (by decide) rfl (fun ls hl => ?_)
        refine lv_iconst (v := 0) hx hb d_W_takeAway_116 (by decide) ?_
        refine lv_istore hx hb d_W_takeAway_117 hl (by decide) rfl (fun ls hl => ?_)
        have hl := lv_sub hl [2, 3, 4, 5, 6, 1, 7, 8, 9, 0] rfl
        refine w_ta3 (d := r) (hi := hi) (T := T) (a := a) (G0 := G0) S hat hd2 n2 0 0 r H locs ls (by omega) (by omega) hrr (fun _ _ => rfl) rfl hl hw (fun cy r1 H locs ls hcy hrr1 hr1 he1 hl hw => ?_)
        -- METHOD W_takeAway | loc 0=x 1=o 2=Q 4=at 5=en 6=cy 8=hi 9=T 10=a 11=i | ws x xl o ol | fld x.limbs=xl o.limbs=ol
        refine lv_iload hx hb d_W_takeAway_182 (lv_at hl 6 rfl) ?_
        refine lv_lload hx hb d_W_takeAway_184 (lv_at hl 5 rfl) ?_
        refine lv_l2i hx hb d_W_takeAway_186 (zLI _) ?_
        refine lv_iadd hx hb d_W_takeAway_187 ?_
        refine l_top (zI_add _ _) ?_
        refine lv_istore hx hb d_W_takeAway_188 hl (by decide) rfl (fun ls hl => ?_)
        refine lv_iinc (k := 7) hx hb d_W_takeAway_190 hl rfl (show zI T + Int32.ofInt (-1) = zI (T - 1) from zI_add T (-1)) (by decide) rfl (fun ls hl => ?_)
        refine lv_iinc (k := 8) hx hb d_W_takeAway_193 hl rfl (ii1 a) (by decide) rfl (fun ls hl => ?_)
        refine lv_goto (tgt := 102) hx hb d_W_takeAway_196 (by decide) ?_
        have hl := lv_sub hl [3, 4, 5, 6, 7, 2, 1, 0] rfl
        refine ih (a + 1) (hi + cy) (T - 1) r1 H locs ls (by omega) (by omega) (by omega) (by omega) hrr1 (fun t ht => (hr1 t (by omega)).trans (hr0 t ht)) ?_ hl hw kx
        rw [Int.add_mul, Int.sub_mul, Int.one_mul]
        omega
end TAKE
set_option maxRecDepth 100000 in
set_option maxHeartbeats 4000000 in
/-- takeAway(o, guess, at): the quotient's digit, and what is left in its place -/
theorem m_W_takeAway (l : Launch) (D : va_G) (k : Nat → ClassId) (L : List Nat) (f : Nat → va_E) (x xl n o ol n2 at0 G0 : Nat) (g g2 : Int32) (d d2 : Nat → Nat) (hat : at0 + n2 < 12) (hG0 : G0 ≤ 1073741823) (hd : ∀ t, t < 12 → d t < B30) (hd2 : ∀ t, t < 12 → d2 t < B30) (hD : 0 < cd B30 n2 d2) (hq1 : cd B30 (n2 + 1) (fun t => d (at0 + t)) / cd B30 n2 d2 ≤ G0) (hq : G0 ≤ cd B30 (n2 + 1) (fun t => d (at0 + t)) / cd B30 n2 d2 + 2) (hk : kn L f f [(x, cW xl n g), (xl, cD k d), (o, cW ol n2 g2), (ol, cD k d2)]) : Mi l y_W_takeAway (Cond.code y_W_takeAway c_W_takeAway 12 (some .int) :: G) (rmN 0) D cls (tyl k) L f [.ref x, .ref o, .long (lN G0), .int (nI at0)] (fun r f' => r = nI (cd B30 (n2 + 1) (fun t => d (at0 + t)) / cd B30 n2 d2) ∧ ∃ d' : Nat → Nat, (∀ t, t < 12 → d' t < B30) ∧ (∀ t, t < at0 ∨ at0 + n2 < t → d' t = d t) ∧ d' (at0 + n2) = 0 ∧ cd B30 n2 (fun t => d' (at0 + t)) = cd B30 (n2 + 1) (fun t => d (at0 + t)) % cd B30 n2 d2 ∧ kn L f f' [(x, cW xl n g), (xl, cD k d'), (o, cW ol n2 g2), (ol, cD k d2)]) := by
  generalize hX : cd B30 (n2 + 1) (fun t => d (at0 + t)) = X at hq1 hq ⊢
  -- METHOD W_takeAway | loc 0=x 1=o 2=Q 4=at | ws x xl o ol | fld x.limbs=xl o.limbs=ol
  refine mk_met (by decide) (Nat.le_of_ble_eq_true rfl) (fun p e s m below meth c ls S hr hlocks hw hl => ?_)
  have hx := S.1
  have hb := S.2.1
  have hown : s.vm.findClass R_W = some m.cls := S.2.2.2.1
  have hG := S.2.2.2.2
  have hl : lv_has ls 12 [(0, .ref x), (1, .ref o), (2, .long (zL (G0 : Int))), (4, .int (nI at0))] := hl
  have hg := hw
  have hw : kw D cls (tyl k) L s s.heap f [(x, cW xl n g), (xl, cD k d), (o, cW ol n2 g2), (ol, cD k d2)] s.heap [] := ⟨f, hw, hk⟩
  have hB30 : B30 = 1073741824 := rfl
  refine lv_iload hx hb d_W_takeAway_0 (lv_at hl 3 rfl) ?_
  refine lv_aload_n hx hb d_W_takeAway_2 rfl (lv_at hl 1 rfl) ?_
  refine k_get hx hb hG lay_W hown hw 2 rfl rfl 1 (by decide) (hG _ fl_W_15) (fun _ h9 => h9) rfl d_W_takeAway_3 ?_
  refine lv_iadd hx hb d_W_takeAway_6 ?_
  refine l_top (nI_add _ _) ?_
  refine lv_istore hx hb d_W_takeAway_7 hl (by decide) rfl (fun ls hl => ?_)
  refine lv_lconst (v := 0) hx hb d_W_takeAway_9 (by decide) ?_
  refine lv_lstore hx hb d_W_takeAway_10 hl (by decide) rfl (fun ls hl => ?_)
  refine lv_iconst (v := 0) hx hb d_W_takeAway_12 (by decide) ?_
  refine lv_istore hx hb d_W_takeAway_13 hl (by decide) rfl (fun ls hl => ?_)
  have hl := lv_sub hl [3, 4, 5, 6, 2, 1, 0] rfl
  refine w_ta1 (d := d) S hat hG0 hd2 n2 0 0 d _ _ ls (by omega) (by omega) hd (fun _ _ => rfl) (by show (0 : Int) + 0 * _ = 0 - _ * 0; omega) hl hw (fun cy r H locs ls hcy hrr hr0 he hl hw => ?_)
  have htop : r (at0 + n2) = d (at0 + n2) := hr0 _ (by omega)
  have htl : d (at0 + n2) < B30 := hd _ hat
  -- METHOD W_takeAway | loc 0=x 1=o 2=Q 4=at 5=en 6=cy 8=i | ws x xl o ol | fld x.limbs=xl o.limbs=ol
  refine lv_aload_n hx hb d_W_takeAway_81 rfl (lv_at hl 0 rfl) ?_
  refine k_get hx hb hG lay_W hown hw 0 rfl rfl 0 (by decide) (hG _ fl_W_11) (fun _ h9 => h9) rfl d_W_takeAway_82 ?_
  refine lv_iload hx hb d_W_takeAway_85 (lv_at hl 4 rfl) ?_
  refine k_iald hx hb hw 1 0 rfl rfl ((at0 + n2)) (rfl) (hat) (by first | decide | omega) d_W_takeAway_87 ?_
  refine lv_i2l hx hb d_W_takeAway_88 (show (nD r (at0 + n2)).toInt64 = zL ((d (at0 + n2) : Nat) : Int) by rw [← htop]; exact zL_dig (hrr _ hat)) ?_
  refine lv_lload hx hb d_W_takeAway_89 (lv_at hl 5 rfl) ?_
  refine lv_ladd hx hb d_W_takeAway_91 ?_
  refine l_topl (zL_add _ _) ?_
  refine lv_l2i hx hb d_W_takeAway_92 (zLI _) ?_
  refine lv_istore hx hb d_W_takeAway_93 hl (by decide) rfl (fun ls hl => ?_)
  refine lv_lload_n hx hb d_W_takeAway_95 rfl (lv_at hl 3 rfl) ?_
  refine lv_l2i hx hb d_W_takeAway_96 (zLI _) ?_
  refine lv_istore hx hb d_W_takeAway_97 hl (by decide) rfl (fun ls hl => ?_)
  refine lv_iconst (v := 0) hx hb d_W_takeAway_99 (by decide) ?_
  refine lv_istore hx hb d_W_takeAway_100 hl (by decide) rfl (fun ls hl => ?_)
  have hl := lv_sub hl [3, 4, 5, 6, 7, 2, 1, 0] rfl
  refine w_ta2 (d := d) (X := X) S hat hG0 hd2 hD hq 2 0 ((d (at0 + n2) : Int) + cy) (G0 : Int) r H locs ls (by omega) (by omega) (by omega) (by omega) hrr hr0 ?_ hl hw (fun hi T r H locs ls a h0 h1 hTr hTq hrr hr0 he hl hw => ?_)
  · rw [← hX, cd_int_succ, Int.add_mul]
    omega
  · have hTeq : T = ((X / cd B30 n2 d2 : Nat) : Int) := by
      have hlt : (0 : Int) ≤ (X : Int) - T * (cd B30 n2 d2 : Int) := by
        rw [← he]
        have : 0 ≤ hi * (B30 : Int) ^ n2 := Int.mul_nonneg h0 (Int.pow_nonneg (by omega))
        omega
      have h3 : (X : Int) < (((X / cd B30 n2 d2 + 1) * cd B30 n2 d2 : Nat) : Int) := by
        have := Nat.lt_mul_div_succ X hD
        rw [Nat.mul_comm] at this
        omega
      rw [Int.natCast_mul] at h3
      have h4 : T * (cd B30 n2 d2 : Int) < ((X / cd B30 n2 d2 + 1 : Nat) : Int) * (cd B30 n2 d2 : Int) := by omega
      have := Int.lt_of_mul_lt_mul_right h4 (by omega)
      omega
    subst hTeq
    have hmod : (X : Int) - ((X / cd B30 n2 d2 : Nat) : Int) * (cd B30 n2 d2 : Int) = ((X % cd B30 n2 d2 : Nat) : Int) := by
      have h5 := Nat.mod_add_div X (cd B30 n2 d2)
      rw [Nat.mul_comm] at h5
      rw [← Int.natCast_mul]
      omega
    rw [hmod] at he
    have hml := Nat.mod_lt X hD
    have hDl := cd_lt n2 (b := B30) (d := d2) (fun i hi => hd2 i (by omega))
    have hP : (B30 : Int) ^ n2 = ((B30 ^ n2 : Nat) : Int) := (Int.natCast_pow _ _).symm
    have hz : hi = 0 := by
      rcases Int.lt_or_le 0 hi with h | h
      · exfalso
        have h6 : 1 * ((B30 ^ n2 : Nat) : Int) ≤ hi * ((B30 ^ n2 : Nat) : Int) := Int.mul_le_mul_of_nonneg_right (by omega) (by omega)
        rw [hP] at he
        omega
      · omega
    subst hz
    rw [Int.zero_mul, Int.add_zero] at he
    -- METHOD W_takeAway | loc 0=x 1=o 2=Q 4=at 5=en 8=hi 9=T 10=a | ws x xl o ol | fld x.limbs=xl o.limbs=ol
    refine lv_aload_n hx hb d_W_takeAway_199 rfl (lv_at hl 0 rfl) ?_
    refine k_get hx hb hG lay_W hown hw 0 rfl rfl 0 (by decide) (hG _ fl_W_11) (fun _ h9 => h9) rfl d_W_takeAway_200 ?_
    refine lv_iload hx hb d_W_takeAway_203 (lv_at hl 4 rfl) ?_
    refine lv_iload hx hb d_W_takeAway_205 (lv_at hl 5 rfl) ?_
    refine l_top (show zI 0 = nI 0 from rfl) ?_
    refine k_iast hx hb hw 1 0 rfl rfl ((at0 + n2)) (rfl) (hat) (by first | decide | omega) d_W_takeAway_207 (fun H locs hw => ?_)
    rw [nD_upd] at hw
    refine lv_iload hx hb d_W_takeAway_208 (lv_at hl 6 rfl) ?_
    obtain ⟨f', hw, hk'⟩ := hw
    refine g_reti hx hb hr hlocks hw ⟨rfl, va_up r (at0 + n2) 0, fun t ht => ?_, fun t ht => ?_, va_up_self _ _ _, ?_, hk'⟩ d_W_takeAway_210
    · by_cases e : t = at0 + n2
      · rw [e, va_up_self]; decide
      · rw [va_up_ne _ _ e]; exact hrr t ht
    · rw [va_up_ne _ _ (by omega)]; exact hr0 t (by omega)
    · rw [cd_congr n2 (d := fun t => va_up r (at0 + n2) 0 (at0 + t)) (e := fun t => r (at0 + t)) (fun t ht => va_up_ne _ _ (by omega))]
      omega
end
section
-- ===== Whole: divide =====
theorem xt_facts {r : Nat → Nat} {j no sh : Nat} (hr : ∀ t, t < j + no + 1 → r t < B30) (hno : 1 ≤ no) (hsh : sh ≤ 30) : 2 ^ sh * cd B30 (no + 1) (fun t => r (j + t)) / B30 ^ (no - 1) ≤ tb r (j + no + 1) sh ∧ (if B30 ^ (no - 1) = 1 then tb r (j + no + 1) sh < 2 ^ sh * (cd B30 (no + 1) (fun t => r (j + t)) + 1) else tb r (j + no + 1) sh * B30 ^ (no - 1) ≤ 2 ^ sh * cd B30 (no + 1) (fun t => r (j + t))) := by
  have hB0 : 0 < B30 := by decide
  have hPj : 0 < B30 ^ j := Nat.pow_pos hB0
  obtain ⟨m, rfl⟩ : ∃ m, no = m + 1 := ⟨no - 1, by omega⟩
  rw [show m + 1 - 1 = m by omega]
  have hlow := cd_lt j (b := B30) (d := r) (fun i hi => hr i (by omega))
  have hV : cd B30 (j + (m + 1) + 1) r = cd B30 j r + B30 ^ j * cd B30 (m + 1 + 1) (fun t => r (j + t)) := by
    rw [show j + (m + 1) + 1 = j + (m + 1 + 1) by omega]; exact cd_split j _ r
  have hxt : tb r (j + (m + 1) + 1) sh = 2 ^ sh * cd B30 (j + (m + 1) + 1) r / (B30 ^ j * B30 ^ m) := by
    rw [tb_val hr (by omega) hsh, show j + (m + 1) + 1 - 1 = (j + m) + 1 by omega, Nat.pow_succ, Nat.pow_add, Nat.mul_left_comm, Nat.mul_comm (B30 ^ j * B30 ^ m) B30, Nat.mul_div_mul_left _ _ hB0]
  generalize cd B30 (m + 1 + 1) (fun t => r (j + t)) = X at hV ⊢
  rw [hxt, hV]
  generalize cd B30 j r = low at hlow ⊢
  rcases m with _ | m
  · rw [Nat.pow_zero, if_pos rfl, Nat.div_one, Nat.mul_one]
    refine ⟨?_, ?_⟩
    · rw [Nat.le_div_iff_mul_le hPj, Nat.mul_add, Nat.mul_assoc, Nat.mul_comm X (B30 ^ j)]
      omega
    · rw [Nat.div_lt_iff_lt_mul hPj, Nat.mul_assoc]
      refine Nat.mul_lt_mul_of_pos_left ?_ (Nat.pow_pos (by omega))
      rw [Nat.add_mul, Nat.one_mul, Nat.mul_comm X]
      omega
  · have hP : B30 ^ (m + 1) = 2 ^ sh * (B30 ^ m * 2 ^ (30 - sh)) := by
      have hBp : B30 = 2 ^ sh * 2 ^ (30 - sh) := by rw [← Nat.pow_add, show sh + (30 - sh) = 30 by omega]; rfl
      rw [Nat.pow_succ]
      have h9 : B30 ^ m * B30 = B30 ^ m * (2 ^ sh * 2 ^ (30 - sh)) := congrArg (B30 ^ m * ·) hBp
      rw [h9, Nat.mul_left_comm]
    have hne : B30 ^ (m + 1) ≠ 1 := by
      have : B30 ^ 1 ≤ B30 ^ (m + 1) := Nat.pow_le_pow_right hB0 (by omega)
      rw [Nat.pow_one] at this
      have : B30 = 1073741824 := rfl
      omega
    rw [if_neg hne]
    have hs0 : 0 < 2 ^ sh := Nat.pow_pos (by omega)
    have e1 : 2 ^ sh * (low + B30 ^ j * X) / (B30 ^ j * B30 ^ (m + 1)) = 2 ^ sh * X / B30 ^ (m + 1) := by
      rw [hP, Nat.mul_left_comm (B30 ^ j), Nat.mul_div_mul_left _ _ hs0, Nat.mul_div_mul_left _ _ hs0, ← Nat.div_div_eq_div_mul, Nat.mul_comm (B30 ^ j) X, Nat.add_mul_div_right _ _ hPj, Nat.div_eq_of_lt hlow, Nat.zero_add]
    rw [e1]
    exact ⟨Nat.le_refl _, Nat.div_mul_le_self _ _⟩
theorem top_facts {d : Nat → Nat} {no sh : Nat} (hd : ∀ t, t < no → d t < B30) (hno : 1 ≤ no) (hsh : sh ≤ 30) : tb d no sh / 1073741824 = 2 ^ sh * cd B30 no d / B30 ^ (no - 1) := by
  rw [tb_val hd hno hsh, Nat.div_div_eq_div_mul]
  show 2 ^ sh * (B30 * cd B30 no d) / (B30 ^ (no - 1) * B30) = _
  rw [Nat.mul_left_comm, Nat.mul_comm (B30 ^ (no - 1)) B30, Nat.mul_div_mul_left _ _ (by decide)]
theorem rL_n {n : Nat} (h : n < 9223372036854775808) : rL (n : Int) := ⟨by omega, by omega⟩
theorem td_abs (v w : Int) : (v.tdiv w).natAbs = v.natAbs / w.natAbs := Int.natAbs_tdiv v w
theorem tm_neg {v w : Int} (h : v < 0) : v.tmod w = -((v.natAbs % w.natAbs : Nat) : Int) := by
  obtain ⟨a, rfl⟩ : ∃ a : Nat, v = -(a : Int) := ⟨v.natAbs, by omega⟩
  rw [Int.neg_tmod, Int.natAbs_neg, Int.natAbs_natCast]
  congr 1
  rcases Int.le_total 0 w with h' | h'
  · obtain ⟨b, rfl⟩ : ∃ b : Nat, w = (b : Int) := ⟨w.natAbs, by omega⟩
    rw [Int.natAbs_natCast]; rfl
  · obtain ⟨b, rfl⟩ : ∃ b : Nat, w = -(b : Int) := ⟨w.natAbs, by omega⟩
    rw [Int.natAbs_neg, Int.natAbs_natCast, Int.tmod_neg]; rfl
theorem tm_pos {v w : Int} (h : 0 < v) : v.tmod w = ((v.natAbs % w.natAbs : Nat) : Int) := by
  have h1 := tm_neg (v := -v) (w := w) (by omega)
  rw [Int.neg_tmod, Int.natAbs_neg] at h1
  generalize v.tmod w = a at h1 ⊢
  generalize ((v.natAbs % w.natAbs : Nat) : Int) = b at h1 ⊢
  omega
theorem td_sgn (v w : Int) : v.tdiv w = v.sign * w.sign * ((v.natAbs / w.natAbs : Nat) : Int) := by
  have key : ∀ a b : Nat, ((a : Int)).tdiv (b : Int) = ((a / b : Nat) : Int) := fun _ _ => rfl
  rcases Int.lt_trichotomy v 0 with h | h | h <;> rcases Int.lt_trichotomy w 0 with h' | h' | h'
  · obtain ⟨a, rfl⟩ : ∃ a : Nat, v = -(a : Int) := ⟨v.natAbs, by omega⟩
    obtain ⟨b, rfl⟩ : ∃ b : Nat, w = -(b : Int) := ⟨w.natAbs, by omega⟩
    rw [Int.sign_eq_neg_one_of_neg h, Int.sign_eq_neg_one_of_neg h', Int.neg_tdiv, Int.tdiv_neg, Int.natAbs_neg, Int.natAbs_neg, Int.natAbs_natCast, Int.natAbs_natCast, key]
    generalize ((a / b : Nat) : Int) = t
    omega
  · subst h'
    simp
  · obtain ⟨a, rfl⟩ : ∃ a : Nat, v = -(a : Int) := ⟨v.natAbs, by omega⟩
    obtain ⟨b, rfl⟩ : ∃ b : Nat, w = (b : Int) := ⟨w.natAbs, by omega⟩
    rw [Int.sign_eq_neg_one_of_neg h, Int.sign_eq_one_of_pos h', Int.neg_tdiv, Int.natAbs_neg, Int.natAbs_natCast, Int.natAbs_natCast, key]
    generalize ((a / b : Nat) : Int) = t
    omega
  · subst h; simp
  · subst h; simp
  · subst h; simp
  · obtain ⟨a, rfl⟩ : ∃ a : Nat, v = (a : Int) := ⟨v.natAbs, by omega⟩
    obtain ⟨b, rfl⟩ : ∃ b : Nat, w = -(b : Int) := ⟨w.natAbs, by omega⟩
    rw [Int.sign_eq_one_of_pos h, Int.sign_eq_neg_one_of_neg h', Int.tdiv_neg, Int.natAbs_neg, Int.natAbs_natCast, Int.natAbs_natCast, key]
    generalize ((a / b : Nat) : Int) = t
    omega
  · subst h'
    simp
  · obtain ⟨a, rfl⟩ : ∃ a : Nat, v = (a : Int) := ⟨v.natAbs, by omega⟩
    obtain ⟨b, rfl⟩ : ∃ b : Nat, w = (b : Int) := ⟨w.natAbs, by omega⟩
    rw [Int.sign_eq_one_of_pos h, Int.sign_eq_one_of_pos h', Int.natAbs_natCast, Int.natAbs_natCast, key]
    generalize ((a / b : Nat) : Int) = t
    omega
theorem maskL : (1073741823 : Int64) = zL ((1073741823 : Nat) : Int) := by decide +kernel
theorem oneL : (1 : Int64) = zL ((1 : Nat) : Int) := by decide +kernel
theorem pk_lMin (a b : Nat) : zL (min (a : Int) (b : Int)) = lN (min a b) := by
  rw [← zL_n]
  congr 1
  omega
theorem pk_lMax (a b : Nat) : zL (max (a : Int) (b : Int)) = lN (max a b) := by
  rw [← zL_n]
  congr 1
  omega
end
section
-- ===== Whole: divide, its loop =====
section DIV
variable {p : Program} {l : Launch} {e : Env} {s : State} {m : MethodId} {args : Array Value} {below : List Frame} {meth : Method} {c : Code} {Q : State → Prop} {D : va_G} {k : Nat → ClassId} {L : List Nat} {f0 : Nat → va_E} {H0 : Heap}
set_option maxRecDepth 100000 in
set_option maxHeartbeats 4000000 in
theorem w_div (S : CallFix p m c c_W_divide 10 s args G R_W) {x xl nx o ol no q ql nq sh tp V : Nat} {gx go gq : Int32} {dd : Nat → Nat} (hnx : nx ≤ 11) (hno : 1 ≤ no) (hnn : no ≤ nx) (hnq : nq = nx - no + 1) (hsh : sh ≤ 29) (hdd : ∀ t, t < 12 → dd t < B30) (hD : 0 < cd B30 no dd) (htop : dd (no - 1) < 2 ^ (30 - sh)) (htp : tp = 2 ^ sh * cd B30 no dd / B30 ^ (no - 1)) (htp2 : B30 ≤ 2 * tp) (htp3 : tp < 1073741824) :
    ∀ (j : Nat) (r rq : Nat → Nat) (H : Heap) (locs : List Loc) (ls : Array Slot), j ≤ nq → (∀ t, t < 12 → r t < B30) → (∀ t, t < 12 → rq t < B30) → V = cd B30 no dd * (B30 ^ j * cd B30 (nq - j) (fun t => rq (j + t))) + cd B30 (j + no) r ∧ cd B30 (j + no) r < cd B30 no dd * B30 ^ j →
    lv_has ls 10 [(0, .ref x), (1, .ref o), (2, .ref q), (3, .int (nI no)), (4, .int (nI sh)), (5, .long (lN tp)), (7, .int (zI ((j : Int) - 1)))] → kw D cls (tyl k) L s H0 f0 [(x, cW xl nx gx), (xl, cD k r), (o, cW ol no go), (ol, cD k dd), (q, cW ql nq gq), (ql, cD k rq)] H locs →
    (∀ (r rq : Nat → Nat) (H : Heap) (locs : List Loc) (ls : Array Slot), (∀ t, t < 12 → r t < B30) → (∀ t, t < 12 → rq t < B30) → V = cd B30 no dd * cd B30 nq rq + cd B30 no r → cd B30 no r < cd B30 no dd → lv_has ls 10 [(0, .ref x), (1, .ref o), (2, .ref q), (3, .int (nI no))] → kw D cls (tyl k) L s H0 f0 [(x, cW xl nx gx), (xl, cD k r), (o, cW ol no go), (ol, cD k dd), (q, cW ql nq gq), (ql, cD k rq)] H locs → W p l e (rmN 2) s m args below meth c H locs 0 0 Q (F0 m 155 ls [])) →
    W p l e (rmN 2) s m args below meth c H locs 0 0 Q (F0 m 105 ls []) := by
  have hx := S.1
  have hb := S.2.1
  have hown : s.vm.findClass R_W = some m.cls := S.2.2.2.1
  have hG := S.2.2.2.2
  intro j
  induction j with
  | zero =>
    intro r rq H locs ls hjq hrr hrq he hl hw kx
    -- METHOD W_divide | loc 0=x 1=o 2=q 3=no 4=sh 5=tp 7=at | ws x xl o ol q ql | fld x.limbs=xl o.limbs=ol q.limbs=ql
    refine lv_iload hx hb d_W_divide_105 (lv_at hl 6 rfl) ?_
    refine lv_if_lt (tgt := 155) hx hb d_W_divide_107 (by decide) (fun hc => ?_) (fun hc => ?_)
    · -- STK
      have hl := lv_sub hl [0, 1, 2, 3] rfl
      refine kx r rq H locs ls hrr hrq ?_ ?_ hl hw
      · have h1 := he.1
        rw [Nat.pow_zero, Nat.one_mul, Nat.sub_zero, Nat.zero_add] at h1
        rw [h1]
        congr 2
        exact cd_congr nq (fun t _ => by rw [Nat.zero_add])
      · have h1 := he.2
        rw [Nat.pow_zero, Nat.mul_one, Nat.zero_add] at h1
        exact h1
    · exact absurd (by decide) hc
  | succ j ih =>
    intro r rq H locs ls hjq hrr hrq he hl hw kx
    have ej : zI (((j + 1 : Nat) : Int) - 1) = nI j := by rw [← zI_n]; congr 1; omega
    rw [ej] at hl
    have hB30 : B30 = 1073741824 := rfl
    have hB0 : 0 < B30 := by decide
    have hPj : 0 < B30 ^ j := Nat.pow_pos hB0
    have hjn : j + no + 1 ≤ 12 := by omega
    generalize hX : cd B30 (no + 1) (fun t => r (j + t)) = X
    have hsplit : cd B30 (j + 1 + no) r = cd B30 j r + B30 ^ j * X := by
      rw [show j + 1 + no = j + (no + 1) by omega, ← hX]; exact cd_split j _ r
    have hlow := cd_lt j (b := B30) (d := r) (fun i hi => hrr i (by omega))
    have hXlt : X < cd B30 no dd * B30 := by
      have h2 := he.2
      rw [hsplit, Nat.pow_succ] at h2
      have h3 : B30 ^ j * X < B30 ^ j * (cd B30 no dd * B30) := by
        rw [Nat.mul_left_comm]
        omega
      exact Nat.lt_of_mul_lt_mul_left h3
    have hDlt : cd B30 no dd < 2 ^ (30 - sh) * B30 ^ (no - 1) := by
      obtain ⟨m, rfl⟩ : ∃ m, no = m + 1 := ⟨no - 1, by omega⟩
      rw [show m + 1 - 1 = m by omega] at htop ⊢
      have h5 := cd_lt m (b := B30) (d := dd) (fun i hi => hdd i (by omega))
      have h6 : (dd m + 1) * B30 ^ m ≤ 2 ^ (30 - sh) * B30 ^ m := Nat.mul_le_mul_right _ htop
      rw [Nat.add_mul, Nat.one_mul] at h6
      show cd B30 m dd + dd m * B30 ^ m < _
      omega
    have hhi : r (j + no) < 2 ^ (30 - sh) := by
      have h7 : r (j + no) * B30 ^ no ≤ X := by rw [← hX]; exact Nat.le_add_left _ _
      have h8 : r (j + no) * B30 ^ no < 2 ^ (30 - sh) * B30 ^ no := by
        have h9 : cd B30 no dd * B30 ≤ 2 ^ (30 - sh) * B30 ^ (no - 1) * B30 := Nat.mul_le_mul_right _ (by omega)
        rw [Nat.mul_assoc, ← Nat.pow_succ, show (no - 1).succ = no by omega] at h9
        omega
      exact Nat.lt_of_mul_lt_mul_right h8
    have hlb : lb r (j + no + 1) 1 < 2 ^ (30 - sh) := by
      unfold lb
      rw [if_pos (by omega), show j + no + 1 - 1 = j + no by omega]
      exact hhi
    have hxt := xt_facts (r := r) (j := j) (no := no) (sh := sh) (fun t ht => hrr t (by omega)) hno (by omega)
    rw [hX] at hxt
    have hgs := guess (B := B30) (P := B30 ^ (no - 1)) (S := 2 ^ sh) (D := cd B30 no dd) (X := X) (t := tp) (xt := tb r (j + no + 1) sh) (g := min (tb r (j + no + 1) sh / tp) (B30 - 1)) (by omega) (Nat.pow_pos hB0) hD hXlt htp htp2 hxt.1 hxt.2 rfl
    rw [show B30 - 1 = 1073741823 by decide +kernel] at hgs
    have hxtlt : tb r (j + no + 1) sh < 9223372036854775808 := by
      have h1 := lb_lt (d := r) (en := j + no + 1) (q := 2) hrr hjn (by omega)
      have h3 := lb_lt (d := r) (en := j + no + 1) (q := 3) hrr hjn (by omega)
      have q1 : lb r (j + no + 1) 1 * B30 + lb r (j + no + 1) 2 < 2 ^ (30 - sh) * B30 := by
        have : (lb r (j + no + 1) 1 + 1) * B30 ≤ 2 ^ (30 - sh) * B30 := Nat.mul_le_mul_right _ hlb
        rw [Nat.add_mul, Nat.one_mul] at this
        omega
      have q2 : (lb r (j + no + 1) 1 * B30 + lb r (j + no + 1) 2) * 2 ^ sh < 2 ^ (30 - sh) * B30 * 2 ^ sh := Nat.mul_lt_mul_of_pos_right q1 (Nat.pow_pos (by omega))
      have q3 : 2 ^ (30 - sh) * B30 * 2 ^ sh = 2 ^ 60 := by
        rw [show B30 = 2 ^ 30 from rfl, Nat.mul_right_comm, ← Nat.pow_add, show 30 - sh + sh = 30 by omega, ← Nat.pow_add]
      have q4 : lb r (j + no + 1) 3 / 2 ^ (30 - sh) ≤ lb r (j + no + 1) 3 := Nat.div_le_self _ _
      unfold tb
      omega
    -- METHOD W_divide | loc 0=x 1=o 2=q 3=no 4=sh 5=tp 7=at | ws x xl o ol q ql | fld x.limbs=xl o.limbs=ol q.limbs=ql
    refine lv_iload hx hb d_W_divide_105 (lv_at hl 6 rfl) ?_
    refine lv_if_lt (tgt := 155) hx hb d_W_divide_107 (by decide) (fun hc => ?_) (fun hc => ?_)
    · exact absurd hc (nI_pos (by omega))
    · obtain ⟨f, hw, hk⟩ := hw
      refine lv_aload_n hx hb d_W_divide_110 rfl (lv_at hl 0 rfl) ?_
      refine lv_iload hx hb d_W_divide_111 (lv_at hl 6 rfl) ?_
      refine lv_iload_n hx hb d_W_divide_113 rfl (lv_at hl 3 rfl) ?_
      refine lv_iadd hx hb d_W_divide_114 ?_
      refine l_top (nI_add _ _) ?_
      refine lv_iconst (v := 1) hx hb d_W_divide_115 (by decide) ?_
      refine lv_iadd hx hb d_W_divide_116 ?_
      refine l_top (nI_1 _) ?_
      refine lv_iload hx hb d_W_divide_117 (lv_at hl 4 rfl) ?_
      refine g_ol (c_V (np := 2) S (m_W_topBelow l D k L f x xl nx gx r (j + no + 1) sh hrr hjn hsh hlb (kn_sub hk [0, 1] rfl rfl)) hw ((hk.1 0 _ rfl).1) ((hk.1 0 _ rfl).2) rfl ml_W_65 im_W_topBelow se_W_W_topBelow in_W co_W_topBelow (by decide +kernel) rfl ⟨rfl, rfl, by decide, by decide⟩ hl.1 rfl (by simp [Value.category]) d_W_divide_119 ⟨Nat.zero_le _, Nat.zero_le _⟩) hw (fun r1 f1 H locs hp hw2 => ?_)
      rw [hp.1] at hw2
      have hw := hw2
      refine l_topl hp.2 ?_
      refine lv_lload hx hb d_W_divide_122 (lv_at hl 5 rfl) ?_
      refine lv_ldiv hx hb d_W_divide_124 (fun h => by have := (pk_lEQ (a := tp) (b := 0) (by omega) (by omega)).mp h; omega) ?_
      refine l_topl (pk_lDiv hxtlt (by omega) (by omega)) ?_
      refine l_topl (zL_n _).symm ?_
      refine lv_ldc2 hx hb hown (hG _ ct_W_43) d_W_divide_125 ?_
      refine l_topl maskL ?_
      refine g_ol (c_X (np := 2) S (m_minL l D k L f ((tb r (j + no + 1) sh / tp : Nat) : Int) ((1073741823 : Nat) : Int) (rL_n (Nat.lt_of_le_of_lt (Nat.div_le_self _ _) hxtlt)) (rL_n (n := 1073741823) (by omega))) hw ml_W_73 st_JM_min_0 in_JM co_JM_min_0 (by decide +kernel) rfl ⟨rfl, rfl, by decide, by decide⟩ hl.1 rfl (by simp [Value.category]) d_W_divide_128 ⟨Nat.zero_le _, Nat.zero_le _⟩) hw (fun r2 f2 H locs hp2 hw3 => ?_)
      rw [hp2.1] at hw3
      refine l_topl (hp2.2.trans (pk_lMin _ _)) ?_
      have hw : kw D cls (tyl k) L s H0 f0 [(x, cW xl nx gx), (xl, cD k r), (o, cW ol no go), (ol, cD k dd), (q, cW ql nq gq), (ql, cD k rq)] H locs := ⟨f, hw3, hk⟩
      refine lv_lstore hx hb d_W_divide_131 hl (by decide) rfl (fun ls hl => ?_)
      refine lv_aload_n hx hb d_W_divide_133 rfl (lv_at hl 3 rfl) ?_
      refine k_get hx hb hG lay_W hown hw 4 rfl rfl 0 (by decide) (hG _ fl_W_11) (fun _ h9 => h9) rfl d_W_divide_134 ?_
      refine lv_iload hx hb d_W_divide_137 (lv_at hl 7 rfl) ?_
      refine lv_aload_n hx hb d_W_divide_139 rfl (lv_at hl 1 rfl) ?_
      refine lv_aload_n hx hb d_W_divide_140 rfl (lv_at hl 2 rfl) ?_
      refine lv_lload hx hb d_W_divide_141 (lv_at hl 0 rfl) ?_
      refine lv_iload hx hb d_W_divide_143 (lv_at hl 7 rfl) ?_
      obtain ⟨f3, hw, hk3⟩ := hw
      generalize hG0 : min (tb r (j + no + 1) sh / tp) 1073741823 = G0 at hl ⊢
      have hgs1 : X / cd B30 no dd ≤ G0 := by rw [← hG0]; exact hgs.1
      have hgs2 : G0 ≤ X / cd B30 no dd + 2 := by rw [← hG0]; exact hgs.2
      have hG1 : G0 ≤ 1073741823 := by rw [← hG0]; exact Nat.min_le_right _ _
      refine g_oi (c_V (np := 3) S (m_W_takeAway l D k L f3 x xl nx o ol no j G0 gx go r dd (by omega) hG1 hrr hdd hD (by rw [hX]; exact hgs1) (by rw [hX]; exact hgs2) (kn_sub hk3 [0, 1, 2, 3] rfl rfl)) hw ((hk3.1 0 _ rfl).1) ((hk3.1 0 _ rfl).2) rfl ml_W_76 im_W_takeAway se_W_W_takeAway in_W co_W_takeAway (by decide +kernel) rfl ⟨rfl, rfl, by decide, by decide⟩ hl.1 rfl (by simp [Value.category]) d_W_divide_145 ⟨Nat.zero_le _, Nat.zero_le _⟩) hw (fun r4 f4 H locs hp4 hw => ?_)
      rw [hX] at hp4
      obtain ⟨hr4, r', hrr', hro, hrt, hrm, hk4⟩ := hp4
      have hk5 : kn L f0 f4 [(x, cW xl nx gx), (xl, cD k r'), (o, cW ol no go), (ol, cD k dd), (q, cW ql nq gq), (ql, cD k rq)] := by
        have nd := kn_nd hk3
        simp only [List.map_cons, List.map_nil, List.nodup_cons, List.mem_cons, List.not_mem_nil, or_false, not_or] at nd
        obtain ⟨⟨n01, n02, n03, n04, n05⟩, ⟨n12, n13, n14, n15⟩, ⟨n23, n24, n25⟩, ⟨n34, n35⟩, n45, -⟩ := nd
        refine kn_join hk3 hk4 (by simp) rfl (fun q hq => ?_)
        simp only [List.mem_cons, List.not_mem_nil, or_false] at hq
        rcases hq with rfl | rfl | rfl | rfl | rfl | rfl
        · exact (hk4.1 0 _ rfl).2
        · exact (hk4.1 1 _ rfl).2
        · exact (hk4.1 2 _ rfl).2
        · exact (hk4.1 3 _ rfl).2
        · rw [kn_off hk4 (by simp; exact ⟨Ne.symm n04, Ne.symm n14, Ne.symm n24, Ne.symm n34⟩)]; exact (hk3.1 4 _ rfl).2
        · rw [kn_off hk4 (by simp; exact ⟨Ne.symm n05, Ne.symm n15, Ne.symm n25, Ne.symm n35⟩)]; exact (hk3.1 5 _ rfl).2
      have hw : kw D cls (tyl k) L s H0 f0 [(x, cW xl nx gx), (xl, cD k r'), (o, cW ol no go), (ol, cD k dd), (q, cW ql nq gq), (ql, cD k rq)] H locs := ⟨f4, hw, hk5⟩
      refine l_top hr4 ?_
      have hqd : X / cd B30 no dd < B30 := Nat.div_lt_of_lt_mul hXlt
      refine k_iast hx hb hw 5 0 rfl rfl (j) (rfl) (by omega) (by first | decide | omega) d_W_divide_148 (fun H locs hw => ?_)
      rw [nD_upd] at hw
      refine lv_iinc (k := 7) hx hb d_W_divide_149 hl rfl rfl (by decide) rfl (fun ls hl => ?_)
      refine lv_goto (tgt := 105) hx hb d_W_divide_152 (by decide) ?_
      have hl := lv_sub hl [2, 3, 4, 5, 6, 7, 0] rfl
      refine ih r' (va_up rq j (X / cd B30 no dd)) H locs ls (by omega) hrr' (fun t ht => ?_) ⟨?_, ?_⟩ (show lv_has ls 10 [(0, .ref x), (1, .ref o), (2, .ref q), (3, .int (nI no)), (4, .int (nI sh)), (5, .long (lN tp)), (7, .int (zI ((j : Int) - 1)))] from ?_) hw kx
      · by_cases e : t = j
        · rw [e, va_up_self]; exact hqd
        · rw [va_up_ne _ _ e]; exact hrq t ht
      · have e1 : cd B30 (nq - j) (fun t => va_up rq j (X / cd B30 no dd) (j + t)) = X / cd B30 no dd + B30 * cd B30 (nq - (j + 1)) (fun t => rq (j + 1 + t)) := by
          rw [show nq - j = 1 + (nq - (j + 1)) by omega, cd_split 1]
          have a1 : cd B30 1 (fun t => va_up rq j (X / cd B30 no dd) (j + t)) = X / cd B30 no dd := by
            show 0 + va_up rq j (X / cd B30 no dd) (j + 0) * B30 ^ 0 = _
            rw [Nat.add_zero, va_up_self, Nat.pow_zero]; omega
          rw [a1, Nat.pow_one, cd_congr (nq - (j + 1)) (d := fun t => va_up rq j (X / cd B30 no dd) (j + (1 + t))) (e := fun t => rq (j + 1 + t)) (fun t _ => by rw [va_up_ne _ _ (by omega)]; congr 1; omega)]
        have e2 : cd B30 (j + no) r' = cd B30 j r + B30 ^ j * (X % cd B30 no dd) := by
          rw [cd_split j no r', hrm, cd_congr j (d := r') (e := r) (fun t ht => hro t (by omega))]
        have e3 := he.1
        rw [hsplit, Nat.pow_succ] at e3
        rw [e1, e2, e3]
        have e4 := Nat.mod_add_div X (cd B30 no dd)
        generalize cd B30 (nq - (j + 1)) (fun t => rq (j + 1 + t)) = QQ
        generalize X / cd B30 no dd = qd at e4 ⊢
        generalize X % cd B30 no dd = md at e4 ⊢
        rw [← e4]
        generalize cd B30 no dd = DD
        generalize B30 ^ j = PP
        generalize cd B30 j r = lw
        generalize B30 = BB
        rw [Nat.mul_add, Nat.mul_add, Nat.mul_add, Nat.mul_left_comm PP DD qd, ← Nat.mul_assoc PP BB QQ]
        omega
      · have e2 : cd B30 (j + no) r' = cd B30 j r + B30 ^ j * (X % cd B30 no dd) := by
          rw [cd_split j no r', hrm, cd_congr j (d := r') (e := r) (fun t ht => hro t (by omega))]
        rw [e2]
        have hml := Nat.mod_lt X hD
        have h7 : B30 ^ j * (X % cd B30 no dd + 1) ≤ B30 ^ j * cd B30 no dd := Nat.mul_le_mul_left _ hml
        rw [Nat.mul_add, Nat.mul_one] at h7
        rw [Nat.mul_comm (cd B30 no dd)]
        omega
      · have e5 : nI j + Int32.ofInt (-1) = zI ((j : Int) - 1) := by rw [← zI_n]; show zI _ + zI _ = _; rw [zI_add]; congr 1
        rw [← e5]; exact hl
end DIV
end
section
-- ===== Whole: divide =====
set_option maxRecDepth 100000 in
set_option maxHeartbeats 4000000 in
/-- divide(o, q): the remainder stays here, q becomes the quotient, both as Java rounds (o is not 0) -/
theorem m_W_divide (l : Launch) (D : va_G) (k : Nat → ClassId) (L : List Nat) (f : Nat → va_E) (x xl nx o ol no q ql nq0 : Nat) (gx go gq0 : Int32) (dx dd dq : Nat → Nat) (v w : Int) (hv : wr nx gx dx v) (hw2 : wr no go dd w) (hw0 : w ≠ 0) (hnx : nx ≤ 11) (hdq : ∀ t, t < 12 → dq t < B30) (hk : kn L f f [(x, cW xl nx gx), (xl, cD k dx), (o, cW ol no go), (ol, cD k dd), (q, cW ql nq0 gq0), (ql, cD k dq)]) : Mv l y_W_divide (Cond.code y_W_divide c_W_divide 10 none :: G) (rmN 2) D cls (tyl k) L f [.ref x, .ref o, .ref q] (fun f' => ∃ (n1 : Nat) (g1 : Int32) (r : Nat → Nat) (n2 : Nat) (g2 : Int32) (rq : Nat → Nat), wr n1 g1 r (v.tmod w) ∧ wr n2 g2 rq (v.tdiv w) ∧ kn L f f' [(x, cW xl n1 g1), (xl, cD k r), (o, cW ol no go), (ol, cD k dd), (q, cW ql n2 g2), (ql, cD k rq)]) := by
  -- METHOD W_divide | loc 0=x 1=o 2=q | ws x xl o ol q ql | fld x.limbs=xl o.limbs=ol q.limbs=ql
  refine mk_met (by decide) (Nat.le_of_ble_eq_true rfl) (fun p e s m below meth c ls S hr hlocks hw hl => ?_)
  have hx := S.1
  have hb := S.2.1
  have hown : s.vm.findClass R_W = some m.cls := S.2.2.2.1
  have hG := S.2.2.2.2
  have hl : lv_has ls 10 [(0, .ref x), (1, .ref o), (2, .ref q)] := hl
  have hg := hw
  have hdx := hv.2.1
  have hdd := hw2.2.1
  have hA := wr_abs hv
  have hB := wr_abs hw2
  have eg := wr_g hv
  have eg2 := wr_g hw2
  have hno : 1 ≤ no := by
    rcases hw2.2.2 with ⟨-, -, h⟩ | ⟨h, -⟩
    · exact absurd h hw0
    · exact h
  have hno12 := hw2.1
  have hDpos : 0 < cd B30 no dd := by omega
  have hB30 : B30 = 1073741824 := rfl
  have nd := kn_nd hk
  simp only [List.map_cons, List.map_nil, List.nodup_cons, List.mem_cons, List.not_mem_nil, or_false, not_or] at nd
  obtain ⟨⟨n01, n02, n03, n04, n05⟩, ⟨n12, n13, n14, n15⟩, ⟨n23, n24, n25⟩, ⟨n34, n35⟩, n45, -⟩ := nd
  have hw : kw D cls (tyl k) L s s.heap f [(x, cW xl nx gx), (xl, cD k dx), (o, cW ol no go), (ol, cD k dd), (q, cW ql nq0 gq0), (ql, cD k dq)] s.heap [] := ⟨f, hw, hk⟩
  refine lv_aload_n hx hb d_W_divide_0 rfl (lv_at hl 1 rfl) ?_
  refine k_get hx hb hG lay_W hown hw 2 rfl rfl 1 (by decide) (hG _ fl_W_15) (fun _ h9 => h9) rfl d_W_divide_1 ?_
  refine lv_istore_n hx hb d_W_divide_4 rfl hl (by decide) rfl (fun ls hl => ?_)
  refine lv_aload_n hx hb d_W_divide_5 rfl (lv_at hl 3 rfl) ?_
  have hw := hg
  refine g_ov (c_V (np := 0) S (m_W_setZero l D k L f q ql nq0 gq0 (kn_sub hk [4] rfl rfl)) hw ((hk.1 4 _ rfl).1) ((hk.1 4 _ rfl).2) rfl ml_W_34 im_W_setZero se_W_W_setZero in_W co_W_setZero (by decide +kernel) rfl ⟨rfl, rfl, by decide, by decide⟩ hl.1 rfl (by simp [Value.category]) d_W_divide_6 ⟨Nat.zero_le _, Nat.zero_le _⟩) hw (fun f1 H locs hp hw => ?_)
  have hk1 : kn L f f1 [(x, cW xl nx gx), (xl, cD k dx), (o, cW ol no go), (ol, cD k dd), (q, cW ql 0 0), (ql, cD k dq)] := by
    refine kn_join hk hp (by simp) rfl (fun q hq => ?_)
    simp only [List.mem_cons, List.not_mem_nil, or_false] at hq
    rcases hq with rfl | rfl | rfl | rfl | rfl | rfl
    · rw [kn_off hp (by simp; exact n04)]; exact (hk.1 0 _ rfl).2
    · rw [kn_off hp (by simp; exact n14)]; exact (hk.1 1 _ rfl).2
    · rw [kn_off hp (by simp; exact n24)]; exact (hk.1 2 _ rfl).2
    · rw [kn_off hp (by simp; exact n34)]; exact (hk.1 3 _ rfl).2
    · exact (hp.1 0 _ rfl).2
    · rw [kn_off hp (by simp; exact Ne.symm n45)]; exact (hk.1 5 _ rfl).2
  have hg1 := hw
  have hw : kw D cls (tyl k) L s s.heap f [(x, cW xl nx gx), (xl, cD k dx), (o, cW ol no go), (ol, cD k dd), (q, cW ql 0 0), (ql, cD k dq)] H locs := ⟨f1, hw, hk1⟩
  refine lv_iload_n hx hb d_W_divide_9 rfl (lv_at hl 0 rfl) ?_
  refine lv_if_eq (tgt := 30) hx hb d_W_divide_10 (by decide) (fun hc => ?_) (fun hc => ?_)
  · exact absurd hc (nI_ne0 (by omega) (by omega))
  · -- STK
    refine lv_aload_n hx hb d_W_divide_13 rfl (lv_at hl 1 rfl) ?_
    refine k_get hx hb hG lay_W hown hw 0 rfl rfl 1 (by decide) (hG _ fl_W_15) (fun _ h9 => h9) rfl d_W_divide_14 ?_
    refine lv_iload_n hx hb d_W_divide_17 rfl (lv_at hl 0 rfl) ?_
    refine lv_icmp_lt (tgt := 30) hx hb d_W_divide_18 (by decide) (fun hc => ?_) (fun hc => ?_)
    · have hlt : nx < no := (nI_ltI (by have := hv.1; omega) (by omega)).mp hc
      have hVD : cd B30 nx dx < cd B30 no dd := cd_short (fun i hi => hdx i (by omega)) hlt (by decide) (wr_top hw2 (by omega))
      have e1 : v.tdiv w = 0 := by
        apply Int.natAbs_eq_zero.mp
        rw [td_abs, Nat.div_eq_of_lt (by omega)]
      have e2 : v.tmod w = v := by
        have := Int.tmod_add_mul_tdiv v w
        rw [e1, Int.mul_zero] at this
        omega
      exact g_retv hx hb hr hlocks hg1 ⟨nx, gx, dx, 0, 0, dq, by rw [e2]; exact hv, ⟨by omega, hdq, Or.inl ⟨rfl, rfl, e1⟩⟩, hk1⟩ d_W_divide_30
    · have hge : no ≤ nx := Nat.le_of_not_lt fun h => hc ((nI_ltI (by have := hv.1; omega) (by omega)).mpr h)
      refine lv_aload_n hx hb d_W_divide_21 rfl (lv_at hl 1 rfl) ?_
      refine k_get hx hb hG lay_W hown hw 0 rfl rfl 1 (by decide) (hG _ fl_W_15) (fun _ h9 => h9) rfl d_W_divide_22 ?_
      refine lv_bipush (v := 12) hx hb d_W_divide_25 (by decide) ?_
      refine lv_icmp_lt (tgt := 31) hx hb d_W_divide_27 (by decide) (fun hc => ?_) (fun hc => ?_)
      · have hvne : v ≠ 0 := by
          rcases hv.2.2 with ⟨h, -⟩ | ⟨h1, h2, -⟩
          · omega
          · intro h0
            obtain ⟨m9, rfl⟩ : ∃ m9, nx = m9 + 1 := ⟨nx - 1, by omega⟩
            have h5 := cd_ge (b := B30) (n := m9) (d := dx) h2
            have h6 : 0 < B30 ^ m9 := Nat.pow_pos (by decide)
            omega
        have htop0 : dd (no - 1) ≠ 0 := wr_top hw2 (by omega)
        have htopl : dd (no - 1) < B30 := hdd _ (by omega)
        refine lv_aload_n hx hb d_W_divide_31 rfl (lv_at hl 2 rfl) ?_
        refine k_get hx hb hG lay_W hown hw 2 rfl rfl 0 (by decide) (hG _ fl_W_11) (fun _ h9 => h9) rfl d_W_divide_32 ?_
        refine lv_iload_n hx hb d_W_divide_35 rfl (lv_at hl 0 rfl) ?_
        refine lv_iconst (v := 1) hx hb d_W_divide_36 (by decide) ?_
        refine lv_isub hx hb d_W_divide_37 ?_
        refine k_iald hx hb hw 3 0 rfl rfl ((no - 1)) (nI_m1 no (by omega)) (by omega) (by first | decide | omega) d_W_divide_38 ?_
        obtain ⟨f2, hw, hk2⟩ := hw
        refine g_oi (c_X (np := 1) S (m_nlz l D k L f2 (dd (no - 1)) (by omega) (by omega)) hw ml_W_60 st_JI_numberOfLeadingZeros in_JI co_JI_numberOfLeadingZeros (by decide +kernel) rfl ⟨rfl, rfl, by decide, by decide⟩ hl.1 rfl (by simp [Value.category]) d_W_divide_39 ⟨Nat.zero_le _, Nat.zero_le _⟩) hw (fun r1 f3 H locs hp3 hw3 => ?_)
        obtain ⟨hf3, b, hb31, hr1, hb1, hb2⟩ := hp3
        rw [hf3] at hw3
        have hw := hw3
        have hb29 : b ≤ 29 := Nat.le_of_not_lt fun h => by
          have : 2 ^ 30 ≤ 2 ^ b := Nat.pow_le_pow_right (by omega) (by omega)
          omega
        refine l_top hr1 ?_
        refine lv_iconst (v := 2) hx hb d_W_divide_42 (by decide) ?_
        refine lv_isub hx hb d_W_divide_43 ?_
        refine l_top (show nI (31 - b) - 2 = nI (29 - b) by rw [show (2 : Int32) = nI 2 from rfl, pk_sub (by omega)]; congr 1; omega) ?_
        generalize hsh : 29 - b = sh
        have hsh29 : sh ≤ 29 := by omega
        have htop : dd (no - 1) < 2 ^ (30 - sh) := by rw [show 30 - sh = b + 1 by omega]; exact hb2
        have htopb : 2 ^ 29 ≤ 2 ^ sh * dd (no - 1) := by
          have : 2 ^ sh * 2 ^ b ≤ 2 ^ sh * dd (no - 1) := Nat.mul_le_mul_left _ hb1
          rw [← Nat.pow_add, show sh + b = 29 by omega] at this
          exact this
        have hlb : lb dd no 1 < 2 ^ (30 - sh) := by
          unfold lb
          rw [if_pos (by omega)]
          exact htop
        have htf := top_facts (d := dd) (no := no) (sh := sh) (fun t ht => hdd t (by omega)) hno (by omega)
        generalize htp : 2 ^ sh * cd B30 no dd / B30 ^ (no - 1) = tp at htf
        have hP0 : 0 < B30 ^ (no - 1) := Nat.pow_pos (by decide)
        have hcdn : cd B30 no dd = cd B30 (no - 1) dd + dd (no - 1) * B30 ^ (no - 1) := by
          obtain ⟨m9, rfl⟩ : ∃ m9, no = m9 + 1 := ⟨no - 1, by omega⟩
          rfl
        have htp2 : B30 ≤ 2 * tp := by
          have : 2 ^ 29 ≤ tp := by
            rw [← htp, Nat.le_div_iff_mul_le hP0, hcdn, Nat.mul_add, ← Nat.mul_assoc]
            have : 2 ^ 29 * B30 ^ (no - 1) ≤ 2 ^ sh * dd (no - 1) * B30 ^ (no - 1) := Nat.mul_le_mul_right _ htopb
            omega
          omega
        have htp3 : tp < 1073741824 := by
          rw [← htp, Nat.div_lt_iff_lt_mul hP0, hcdn]
          have h5 := cd_lt (no - 1) (b := B30) (d := dd) (fun i hi => hdd i (by omega))
          have h6 : (dd (no - 1) + 1) * B30 ^ (no - 1) ≤ 2 ^ (30 - sh) * B30 ^ (no - 1) := Nat.mul_le_mul_right _ htop
          rw [Nat.add_mul, Nat.one_mul] at h6
          have h7 : 2 ^ sh * (cd B30 (no - 1) dd + dd (no - 1) * B30 ^ (no - 1)) < 2 ^ sh * (2 ^ (30 - sh) * B30 ^ (no - 1)) := Nat.mul_lt_mul_of_pos_left (by omega) (Nat.pow_pos (by omega))
          rw [← Nat.mul_assoc, ← Nat.pow_add, show sh + (30 - sh) = 30 by omega] at h7
          exact h7
        have htblt : tb dd no sh < 9223372036854775808 := by
          have := Nat.div_add_mod (tb dd no sh) 1073741824
          have := Nat.mod_lt (tb dd no sh) (show 1073741824 > 0 by decide)
          omega
        refine lv_istore hx hb d_W_divide_44 hl (by decide) rfl (fun ls hl => ?_)
        refine lv_lconst (v := 1) hx hb d_W_divide_46 (by decide) ?_
        refine l_topl oneL ?_
        refine lv_aload_n hx hb d_W_divide_47 rfl (lv_at hl 3 rfl) ?_
        refine lv_iload_n hx hb d_W_divide_48 rfl (lv_at hl 1 rfl) ?_
        refine lv_iload hx hb d_W_divide_49 (lv_at hl 0 rfl) ?_
        refine g_ol (c_V (np := 2) S (m_W_topBelow l D k L f2 o ol no go dd no sh hdd hno12 hsh29 hlb (kn_sub hk2 [2, 3] rfl rfl)) hw ((hk2.1 2 _ rfl).1) ((hk2.1 2 _ rfl).2) rfl ml_W_65 im_W_topBelow se_W_W_topBelow in_W co_W_topBelow (by decide +kernel) rfl ⟨rfl, rfl, by decide, by decide⟩ hl.1 rfl (by simp [Value.category]) d_W_divide_51 ⟨Nat.zero_le _, Nat.zero_le _⟩) hw (fun r4 f4 H locs hp4 hw4 => ?_)
        rw [hp4.1] at hw4
        have hw := hw4
        refine l_topl hp4.2 ?_
        refine lv_bipush (v := 30) hx hb d_W_divide_54 (by decide) ?_
        refine lv_lshr hx hb d_W_divide_56 (lN_shr30 htblt) ?_
        refine l_topl (show lN (tb dd no sh / 1073741824) = zL ((tp : Nat) : Int) by rw [htf, zL_n]) ?_
        refine g_ol (c_X (np := 2) S (m_maxL l D k L f2 ((1 : Nat) : Int) (tp : Int) (rL_n (by omega)) (rL_n (by omega))) hw ml_W_69 st_JM_max_0 in_JM co_JM_max_0 (by decide +kernel) rfl ⟨rfl, rfl, by decide, by decide⟩ hl.1 rfl (by simp [Value.category]) d_W_divide_57 ⟨Nat.zero_le _, Nat.zero_le _⟩) hw (fun r5 f5 H locs hp5 hw5 => ?_)
        rw [hp5.1] at hw5
        refine l_topl (hp5.2.trans ((pk_lMax 1 tp).trans (by rw [Nat.max_eq_right (by omega)]))) ?_
        have hw : kw D cls (tyl k) L s s.heap f [(x, cW xl nx gx), (xl, cD k dx), (o, cW ol no go), (ol, cD k dd), (q, cW ql 0 0), (ql, cD k dq)] H locs := ⟨f2, hw5, hk2⟩
        refine lv_lstore hx hb d_W_divide_60 hl (by decide) rfl (fun ls hl => ?_)
        refine lv_aload_n hx hb d_W_divide_62 rfl (lv_at hl 5 rfl) ?_
        refine lv_aload_n hx hb d_W_divide_63 rfl (lv_at hl 3 rfl) ?_
        refine k_get hx hb hG lay_W hown hw 0 rfl rfl 1 (by decide) (hG _ fl_W_15) (fun _ h9 => h9) rfl d_W_divide_64 ?_
        refine lv_iload_n hx hb d_W_divide_67 rfl (lv_at hl 2 rfl) ?_
        refine lv_isub hx hb d_W_divide_68 ?_
        refine l_top (pk_sub hge) ?_
        refine lv_iconst (v := 1) hx hb d_W_divide_69 (by decide) ?_
        refine lv_iadd hx hb d_W_divide_70 ?_
        refine l_top (nI_1 _) ?_
        refine k_put (ty := .int) hx hb hG lay_W ft_W ft_W_ok fn_W hown hw 4 rfl rfl 1 (by decide) (hG _ fl_W_15) (fun _ h9 => h9) rfl (by decide +kernel) rfl rfl (by simp) d_W_divide_71 (fun H locs hw => ?_)
        refine lv_aload_n hx hb d_W_divide_74 rfl (lv_at hl 5 rfl) ?_
        refine lv_aload_n hx hb d_W_divide_75 rfl (lv_at hl 3 rfl) ?_
        refine k_get hx hb hG lay_W hown hw 0 rfl rfl 2 (by decide) (hG _ fl_W_19) (fun _ h9 => h9) rfl d_W_divide_76 ?_
        refine lv_aload_n hx hb d_W_divide_79 rfl (lv_at hl 4 rfl) ?_
        refine k_get hx hb hG lay_W hown hw 2 rfl rfl 2 (by decide) (hG _ fl_W_19) (fun _ h9 => h9) rfl d_W_divide_80 ?_
        refine lv_imul hx hb d_W_divide_83 ?_
        refine k_put (ty := .int) hx hb hG lay_W ft_W ft_W_ok fn_W hown hw 4 rfl rfl 2 (by decide) (hG _ fl_W_19) (fun _ h9 => h9) rfl (by decide +kernel) rfl rfl (by simp) d_W_divide_84 (fun H locs hw => ?_)
        refine lv_aload_n hx hb d_W_divide_87 rfl (lv_at hl 3 rfl) ?_
        refine k_get hx hb hG lay_W hown hw 0 rfl rfl 0 (by decide) (hG _ fl_W_11) (fun _ h9 => h9) rfl d_W_divide_88 ?_
        refine lv_aload_n hx hb d_W_divide_91 rfl (lv_at hl 3 rfl) ?_
        refine k_get hx hb hG lay_W hown hw 0 rfl rfl 1 (by decide) (hG _ fl_W_15) (fun _ h9 => h9) rfl d_W_divide_92 ?_
        refine lv_iconst (v := 0) hx hb d_W_divide_95 (by decide) ?_
        refine k_iast hx hb hw 1 0 rfl rfl (nx) (rfl) (by omega) (by first | decide | omega) d_W_divide_96 (fun H locs hw => ?_)
        rw [show (0 : Int32) = nI 0 from rfl, nD_upd] at hw
        refine lv_aload_n hx hb d_W_divide_97 rfl (lv_at hl 3 rfl) ?_
        refine k_get hx hb hG lay_W hown hw 0 rfl rfl 1 (by decide) (hG _ fl_W_15) (fun _ h9 => h9) rfl d_W_divide_98 ?_
        refine lv_iload_n hx hb d_W_divide_101 rfl (lv_at hl 2 rfl) ?_
        refine lv_isub hx hb d_W_divide_102 ?_
        refine l_top (pk_sub hge) ?_
        refine lv_istore hx hb d_W_divide_103 hl (by decide) rfl (fun ls hl => ?_)
        have hl := lv_sub hl [4, 5, 6, 3, 2, 1, 0] rfl
        refine w_div (V := cd B30 nx dx) S hnx hno hge rfl hsh29 hdd hDpos htop htp.symm htp2 htp3 (nx - no + 1) (va_up dx nx 0) dq H locs ls (Nat.le_refl _) (fun t ht => ?_) hdq ⟨?_, ?_⟩ (show lv_has ls 10 [(0, .ref x), (1, .ref o), (2, .ref q), (3, .int (nI no)), (4, .int (nI sh)), (5, .long (lN tp)), (7, .int (zI (((nx - no + 1 : Nat) : Int) - 1)))] from ?_) hw (fun r rq H locs ls hrr hrq he1 he2 hl hw => ?_)
        · by_cases e : t = nx
          · rw [e, va_up_self]; decide
          · rw [va_up_ne _ _ e]; exact hdx t ht
        · rw [Nat.sub_self, show nx - no + 1 + no = nx + 1 by omega, cd_put]
          show _ = _ * (_ * 0) + _
          omega
        · rw [show nx - no + 1 + no = nx + 1 by omega, cd_put, Nat.zero_mul, Nat.add_zero]
          have h5 := cd_lt nx (b := B30) (d := dx) (fun i hi => hdx i (by omega))
          have h6 : B30 ^ (no - 1) ≤ cd B30 no dd := by
            rw [hcdn]
            have : 1 * B30 ^ (no - 1) ≤ dd (no - 1) * B30 ^ (no - 1) := Nat.mul_le_mul_right _ (by omega)
            omega
          have h7 : B30 ^ (no - 1) * B30 ^ (nx - no + 1) ≤ cd B30 no dd * B30 ^ (nx - no + 1) := Nat.mul_le_mul_right _ h6
          rw [← Nat.pow_add, show no - 1 + (nx - no + 1) = nx by omega] at h7
          omega
        · have e6 : nI (nx - no) = zI (((nx - no + 1 : Nat) : Int) - 1) := by rw [← zI_n]; congr 1; omega
          rw [← e6]; exact hl
        · have hquo : cd B30 (nx - no + 1) rq = cd B30 nx dx / cd B30 no dd := by
            rw [he1, Nat.mul_add_div hDpos, Nat.div_eq_of_lt he2]; rfl
          have hrem : cd B30 no r = cd B30 nx dx % cd B30 no dd := by
            rw [he1, Nat.mul_add_mod, Nat.mod_eq_of_lt he2]
          obtain ⟨f6, hw, hk6⟩ := hw
          -- METHOD W_divide | loc 0=x 1=o 2=q 3=no | ws x xl o ol q ql | fld x.limbs=xl o.limbs=ol q.limbs=ql
          refine lv_aload_n hx hb d_W_divide_155 rfl (lv_at hl 2 rfl) ?_
          refine g_ov (c_V (np := 0) S (m_W_trim l D k L f6 q ql (nx - no + 1) (gx * go) rq (by omega) hrq (kn_sub hk6 [4, 5] rfl rfl)) hw ((hk6.1 4 _ rfl).1) ((hk6.1 4 _ rfl).2) rfl ml_W_45 im_W_trim se_W_W_trim in_W co_W_trim (by decide +kernel) rfl ⟨rfl, rfl, by decide, by decide⟩ hl.1 rfl (by simp [Value.category]) d_W_divide_156 ⟨Nat.zero_le _, Nat.zero_le _⟩) hw (fun f7 H locs hp7 hw => ?_)
          obtain ⟨n7, h1, h2, h3, hk7⟩ := hp7
          have hk8 : kn L f f7 [(x, cW xl nx gx), (xl, cD k r), (o, cW ol no go), (ol, cD k dd), (q, cW ql n7 (if n7 = 0 then 0 else gx * go)), (ql, cD k rq)] := by
            refine kn_join hk6 hk7 (by simp) rfl (fun q hq => ?_)
            simp only [List.mem_cons, List.not_mem_nil, or_false] at hq
            rcases hq with rfl | rfl | rfl | rfl | rfl | rfl
            · rw [kn_off hk7 (by simp; exact ⟨n04, n05⟩)]; exact (hk6.1 0 _ rfl).2
            · rw [kn_off hk7 (by simp; exact ⟨n14, n15⟩)]; exact (hk6.1 1 _ rfl).2
            · rw [kn_off hk7 (by simp; exact ⟨n24, n25⟩)]; exact (hk6.1 2 _ rfl).2
            · rw [kn_off hk7 (by simp; exact ⟨n34, n35⟩)]; exact (hk6.1 3 _ rfl).2
            · exact (hk7.1 0 _ rfl).2
            · exact (hk7.1 1 _ rfl).2
          have hw : kw D cls (tyl k) L s s.heap f [(x, cW xl nx gx), (xl, cD k r), (o, cW ol no go), (ol, cD k dd), (q, cW ql n7 (if n7 = 0 then 0 else gx * go)), (ql, cD k rq)] H locs := ⟨f7, hw, hk8⟩
          refine lv_aload_n hx hb d_W_divide_159 rfl (lv_at hl 0 rfl) ?_
          refine lv_iload_n hx hb d_W_divide_160 rfl (lv_at hl 3 rfl) ?_
          refine k_put (ty := .int) hx hb hG lay_W ft_W ft_W_ok fn_W hown hw 0 rfl rfl 1 (by decide) (hG _ fl_W_15) (fun _ h9 => h9) rfl (by decide +kernel) rfl rfl (by simp) d_W_divide_161 (fun H locs hw => ?_)
          obtain ⟨f8, hw, hk9⟩ := hw
          refine lv_aload_n hx hb d_W_divide_164 rfl (lv_at hl 0 rfl) ?_
          refine g_ov (c_V (np := 0) S (m_W_trim l D k L f8 x xl no gx r hno12 hrr (kn_sub hk9 [0, 1] rfl rfl)) hw ((hk9.1 0 _ rfl).1) ((hk9.1 0 _ rfl).2) rfl ml_W_45 im_W_trim se_W_W_trim in_W co_W_trim (by decide +kernel) rfl ⟨rfl, rfl, by decide, by decide⟩ hl.1 rfl (by simp [Value.category]) d_W_divide_165 ⟨Nat.zero_le _, Nat.zero_le _⟩) hw (fun f9 H locs hp9 hw => ?_)
          obtain ⟨n9, h4, h5, h6, hk10⟩ := hp9
          refine g_retv hx hb hr hlocks hw ⟨n9, (if n9 = 0 then 0 else gx), r, n7, (if n7 = 0 then 0 else gx * go), rq, wr_trim hno12 hrr h4 h5 h6 ?_, wr_trim (by omega) hrq h1 h2 h3 ?_, ?_⟩ d_W_divide_168
          · rw [hrem, ← hA, ← hB]
            rcases Int.lt_trichotomy v 0 with h | h | h
            · exact Or.inr (Or.inl ⟨by rw [eg, Int.sign_eq_neg_one_of_neg h]; decide, tm_neg h⟩)
            · exact absurd h hvne
            · exact Or.inl ⟨by rw [eg, Int.sign_eq_one_of_pos h]; rfl, tm_pos h⟩
          · rw [hquo, ← hA, ← hB, eg, eg2, zI_mul, td_sgn]
            generalize ((v.natAbs / w.natAbs : Nat) : Int) = t
            rcases Int.lt_trichotomy v 0 with h | h | h
            · rcases Int.lt_trichotomy w 0 with h' | h' | h'
              · refine Or.inl ⟨by rw [Int.sign_eq_neg_one_of_neg h, Int.sign_eq_neg_one_of_neg h']; rfl, ?_⟩
                rw [Int.sign_eq_neg_one_of_neg h, Int.sign_eq_neg_one_of_neg h']; omega
              · exact absurd h' hw0
              · refine Or.inr (Or.inl ⟨by rw [Int.sign_eq_neg_one_of_neg h, Int.sign_eq_one_of_pos h']; decide, ?_⟩)
                rw [Int.sign_eq_neg_one_of_neg h, Int.sign_eq_one_of_pos h']; omega
            · exact absurd h hvne
            · rcases Int.lt_trichotomy w 0 with h' | h' | h'
              · refine Or.inr (Or.inl ⟨by rw [Int.sign_eq_one_of_pos h, Int.sign_eq_neg_one_of_neg h']; decide, ?_⟩)
                rw [Int.sign_eq_one_of_pos h, Int.sign_eq_neg_one_of_neg h']; omega
              · exact absurd h' hw0
              · refine Or.inl ⟨by rw [Int.sign_eq_one_of_pos h, Int.sign_eq_one_of_pos h']; rfl, ?_⟩
                rw [Int.sign_eq_one_of_pos h, Int.sign_eq_one_of_pos h']; omega
          · show kn L f f9 [(x, cW xl n9 (if n9 = 0 then 0 else gx)), (xl, cD k r), (o, cW ol no go), (ol, cD k dd), (q, cW ql n7 (if n7 = 0 then 0 else gx * go)), (ql, cD k rq)]
            refine kn_join hk9 hk10 (by simp) rfl (fun q hq => ?_)
            simp only [List.mem_cons, List.not_mem_nil, or_false] at hq
            rcases hq with rfl | rfl | rfl | rfl | rfl | rfl
            · exact (hk10.1 0 _ rfl).2
            · exact (hk10.1 1 _ rfl).2
            · rw [kn_off hk10 (by simp; exact ⟨Ne.symm n02, Ne.symm n12⟩)]; exact (hk9.1 2 _ rfl).2
            · rw [kn_off hk10 (by simp; exact ⟨Ne.symm n03, Ne.symm n13⟩)]; exact (hk9.1 3 _ rfl).2
            · rw [kn_off hk10 (by simp; exact ⟨Ne.symm n04, Ne.symm n14⟩)]; exact (hk9.1 4 _ rfl).2
            · rw [kn_off hk10 (by simp; exact ⟨Ne.symm n05, Ne.symm n15⟩)]; exact (hk9.1 5 _ rfl).2
      · exact absurd (nI_lt (b := 12) (by omega) (by omega)) hc
end
section
-- ===== Table: one number =====
abbrev cT (fd rw cl rd : Int32) (pa nu : Nat) : va_E := .inr (3, [.int fd, .int rw, .int cl, .int rd, .ref pa, .ref nu])
abbrev cO (k : Nat → ClassId) (z : Nat → Option Nat) : va_E := .inl (k 1, 12, .inr (.inr (.inr (.inr z))))
abbrev cR (k : Nat → ClassId) (w : Nat → Int32) : va_E := .inl (k 0, 72, .inl w)
/-- the number in a column of a row of ints -/
def nm (w : Nat → Int32) (j : Nat) (v : Int) : Prop := ∃ (n : Nat) (d : Nat → Nat), n ≤ 5 ∧ (∀ i, i < n → w (j * 6 + 1 + i) = nI (d i) ∧ d i < B30) ∧ (0 < n → d (n - 1) ≠ 0) ∧ w (j * 6) = zI (v.sign * n) ∧ v.natAbs = cd B30 n d
theorem abs_zI {a : Int} (h : -2147483648 < a ∧ a < 2147483648) : (if 0 ≤ zI a then zI a else -zI a) = zI (a.natAbs : Int) := by
  have hle : (0 : Int32) ≤ zI a ↔ 0 ≤ a := zI_le (a := 0) ⟨by decide, by decide⟩ ⟨by omega, by omega⟩
  by_cases h0 : 0 ≤ a
  · rw [if_pos (hle.mpr h0)]; congr 1; omega
  · rw [if_neg (fun q => h0 (hle.mp q)), zI_neg]; congr 1; omega
theorem six (a : Nat) : nI a * 6 = nI (a * 6) := pk_mul a 6
set_option maxRecDepth 100000 in
set_option maxHeartbeats 4000000 in
theorem m_T_head (l : Launch) (D : va_G) (k : Nat → ClassId) (L : List Nat) (f : Nat → va_E) (t pa nu rr : Nat) (fd rw cl rd : Int32) (z : Nat → Option Nat) (w : Nat → Int32) (row col : Nat) (hrow : row < 12) (hcol : col < 12) (hz : z row = some rr) (hk : kn L f f [(t, cT fd rw cl rd pa nu), (nu, cO k z), (rr, cR k w)]) : Mi l y_T_head (Cond.code y_T_head c_T_head 3 (some .int) :: G) (rmN 0) D cls (tyl k) L f [.ref t, .int (nI row), .int (nI col)] (fun r f' => f' = f ∧ r = w (col * 6)) := by
  -- METHOD T_head | loc 0=t 1=row 2=col | ws t nu rr | fld t.numbers=nu
  refine mk_met (by decide) (Nat.le_of_ble_eq_true rfl) (fun p e s m below meth c ls S hr hlocks hw hl => ?_)
  have hx := S.1
  have hb := S.2.1
  have hown : s.vm.findClass R_T = some m.cls := S.2.2.2.1
  have hG := S.2.2.2.2
  have hl : lv_has ls 3 [(0, .ref t), (1, .int (nI row)), (2, .int (nI col))] := hl
  have hg := hw
  have hw : kw D cls (tyl k) L s s.heap f [(t, cT fd rw cl rd pa nu), (nu, cO k z), (rr, cR k w)] s.heap [] := ⟨f, hw, hk⟩
  refine lv_aload_n hx hb d_T_head_0 rfl (lv_at hl 0 rfl) ?_
  refine k_get hx hb hG lay_T hown hw 0 rfl rfl 5 (by decide) (hG _ fl_T_21) (fun _ h9 => h9) rfl d_T_head_1 ?_
  refine lv_iload_n hx hb d_T_head_4 rfl (lv_at hl 1 rfl) ?_
  refine k_aaldA hx hb hw 1 1 rfl rfl (row) (rfl) (hrow) (by first | decide | omega) (hz) d_T_head_5 ?_
  refine lv_iload_n hx hb d_T_head_6 rfl (lv_at hl 2 rfl) ?_
  refine lv_bipush (v := 6) hx hb d_T_head_7 (by decide) ?_
  refine lv_imul hx hb d_T_head_9 ?_
  refine k_iald hx hb hw 2 0 rfl rfl ((col * 6)) (six col) (by omega) (by first | decide | omega) d_T_head_10 ?_
  exact g_reti hx hb hr hlocks hg ⟨rfl, rfl⟩ d_T_head_11
set_option maxRecDepth 100000 in
set_option maxHeartbeats 4000000 in
theorem m_T_isZero (l : Launch) (D : va_G) (k : Nat → ClassId) (L : List Nat) (f : Nat → va_E) (t pa nu rr : Nat) (fd rw cl rd : Int32) (z : Nat → Option Nat) (w : Nat → Int32) (row col : Nat) (hrow : row < 12) (hcol : col < 12) (hz : z row = some rr) (hk : kn L f f [(t, cT fd rw cl rd pa nu), (nu, cO k z), (rr, cR k w)]) : Mi l y_T_isZero (Cond.code y_T_isZero c_T_isZero 3 (some .boolean) :: G) (rmN 1) D cls (tyl k) L f [.ref t, .int (nI row), .int (nI col)] (fun r f' => f' = f ∧ r = if w (col * 6) = 0 then 1 else 0) := by
  -- METHOD T_isZero | loc 0=t 1=row 2=col | ws t nu rr | fld t.numbers=nu
  refine mk_met (by decide) (Nat.le_of_ble_eq_true rfl) (fun p e s m below meth c ls S hr hlocks hw hl => ?_)
  have hx := S.1
  have hb := S.2.1
  have hown : s.vm.findClass R_T = some m.cls := S.2.2.2.1
  have hG := S.2.2.2.2
  have hl : lv_has ls 3 [(0, .ref t), (1, .int (nI row)), (2, .int (nI col))] := hl
  have hg := hw
  refine lv_aload_n hx hb d_T_isZero_0 rfl (lv_at hl 0 rfl) ?_
  refine lv_iload_n hx hb d_T_isZero_1 rfl (lv_at hl 1 rfl) ?_
  refine lv_iload_n hx hb d_T_isZero_2 rfl (lv_at hl 2 rfl) ?_
  refine g_oi (c_V (np := 2) S (m_T_head l D k L f t pa nu rr fd rw cl rd z w row col hrow hcol hz hk) hw ((hk.1 0 _ rfl).1) ((hk.1 0 _ rfl).2) rfl ml_T_44 im_T_head se_T_T_head in_T co_T_head (by decide +kernel) rfl ⟨rfl, rfl, by decide, by decide⟩ hl.1 rfl (by simp [Value.category]) d_T_isZero_3 ⟨Nat.zero_le _, Nat.zero_le _⟩) hw (fun r1 f1 H locs hp hw2 => ?_)
  rw [hp.1] at hw2
  refine l_top hp.2 ?_
  refine lv_if_ne (tgt := 13) hx hb d_T_isZero_6 (by decide) (fun hc => ?_) (fun hc => ?_)
  · -- STK
    refine lv_iconst (v := 0) hx hb d_T_isZero_13 (by decide) ?_
    exact g_retz hx hb hr hlocks hw2 rfl ⟨rfl, by rw [if_neg hc]⟩ d_T_isZero_14
  · -- STK
    refine lv_iconst (v := 1) hx hb d_T_isZero_9 (by decide) ?_
    refine lv_goto (tgt := 14) hx hb d_T_isZero_10 (by decide) ?_
    exact g_retz hx hb hr hlocks hw2 rfl ⟨rfl, by rw [if_pos hc]⟩ d_T_isZero_14
set_option maxRecDepth 100000 in
set_option maxHeartbeats 4000000 in
theorem m_T_small (l : Launch) (D : va_G) (k : Nat → ClassId) (L : List Nat) (f : Nat → va_E) (t pa nu rr : Nat) (fd rw cl rd : Int32) (z : Nat → Option Nat) (w : Nat → Int32) (row col : Nat) (hrow : row < 12) (hcol : col < 12) (hz : z row = some rr) (hk : kn L f f [(t, cT fd rw cl rd pa nu), (nu, cO k z), (rr, cR k w)]) : Mi l y_T_small (Cond.code y_T_small c_T_small 3 (some .int) :: G) (rmN 1) D cls (tyl k) L f [.ref t, .int (nI row), .int (nI col)] (fun r f' => f' = f ∧ r = w (col * 6) * w (col * 6 + 1)) := by
  -- METHOD T_small | loc 0=t 1=row 2=col | ws t nu rr | fld t.numbers=nu
  refine mk_met (by decide) (Nat.le_of_ble_eq_true rfl) (fun p e s m below meth c ls S hr hlocks hw hl => ?_)
  have hx := S.1
  have hb := S.2.1
  have hown : s.vm.findClass R_T = some m.cls := S.2.2.2.1
  have hG := S.2.2.2.2
  have hl : lv_has ls 3 [(0, .ref t), (1, .int (nI row)), (2, .int (nI col))] := hl
  have hg := hw
  refine lv_aload_n hx hb d_T_small_0 rfl (lv_at hl 0 rfl) ?_
  refine lv_iload_n hx hb d_T_small_1 rfl (lv_at hl 1 rfl) ?_
  refine lv_iload_n hx hb d_T_small_2 rfl (lv_at hl 2 rfl) ?_
  refine g_oi (c_V (np := 2) S (m_T_head l D k L f t pa nu rr fd rw cl rd z w row col hrow hcol hz hk) hw ((hk.1 0 _ rfl).1) ((hk.1 0 _ rfl).2) rfl ml_T_44 im_T_head se_T_T_head in_T co_T_head (by decide +kernel) rfl ⟨rfl, rfl, by decide, by decide⟩ hl.1 rfl (by simp [Value.category]) d_T_small_3 ⟨Nat.zero_le _, Nat.zero_le _⟩) hw (fun r1 f1 H locs hp hw2 => ?_)
  rw [hp.1] at hw2
  refine l_top hp.2 ?_
  have hw : kw D cls (tyl k) L s s.heap f [(t, cT fd rw cl rd pa nu), (nu, cO k z), (rr, cR k w)] H locs := ⟨f, hw2, hk⟩
  refine lv_aload_n hx hb d_T_small_6 rfl (lv_at hl 0 rfl) ?_
  refine k_get hx hb hG lay_T hown hw 0 rfl rfl 5 (by decide) (hG _ fl_T_21) (fun _ h9 => h9) rfl d_T_small_7 ?_
  refine lv_iload_n hx hb d_T_small_10 rfl (lv_at hl 1 rfl) ?_
  refine k_aaldA hx hb hw 1 1 rfl rfl (row) (rfl) (hrow) (by first | decide | omega) (hz) d_T_small_11 ?_
  refine lv_iload_n hx hb d_T_small_12 rfl (lv_at hl 2 rfl) ?_
  refine lv_bipush (v := 6) hx hb d_T_small_13 (by decide) ?_
  refine lv_imul hx hb d_T_small_15 ?_
  refine l_top (six col) ?_
  refine lv_iconst (v := 1) hx hb d_T_small_16 (by decide) ?_
  refine lv_iadd hx hb d_T_small_17 ?_
  refine k_iald hx hb hw 2 0 rfl rfl ((col * 6 + 1)) (nI_1 _) (by omega) (by first | decide | omega) d_T_small_18 ?_
  refine lv_imul hx hb d_T_small_19 ?_
  exact g_reti hx hb hr hlocks hw2 ⟨rfl, rfl⟩ d_T_small_20
set_option maxRecDepth 100000 in
set_option maxHeartbeats 4000000 in
theorem m_T_setSmall (l : Launch) (D : va_G) (k : Nat → ClassId) (L : List Nat) (f : Nat → va_E) (t pa nu rr : Nat) (fd rw cl rd : Int32) (z : Nat → Option Nat) (w : Nat → Int32) (row col : Nat) (hrow : row < 12) (hcol : col < 12) (hz : z row = some rr) (v : Int) (hv : -2147483648 < v ∧ v < 2147483648) (hk : kn L f f [(t, cT fd rw cl rd pa nu), (nu, cO k z), (rr, cR k w)]) : Mv l y_T_setSmall (Cond.code y_T_setSmall c_T_setSmall 4 none :: G) (rmN 1) D cls (tyl k) L f [.ref t, .int (nI row), .int (nI col), .int (zI v)] (fun f' => kn L f f' [(t, cT fd rw cl rd pa nu), (nu, cO k z), (rr, cR k (upd (upd w (col * 6) (zI v.sign)) (col * 6 + 1) (zI v.natAbs)))]) := by
  -- METHOD T_setSmall | loc 0=t 1=row 2=col 3=v | ws t nu rr | fld t.numbers=nu
  refine mk_met (by decide) (Nat.le_of_ble_eq_true rfl) (fun p e s m below meth c ls S hr hlocks hw hl => ?_)
  have hx := S.1
  have hb := S.2.1
  have hown : s.vm.findClass R_T = some m.cls := S.2.2.2.1
  have hG := S.2.2.2.2
  have hl : lv_has ls 4 [(0, .ref t), (1, .int (nI row)), (2, .int (nI col)), (3, .int (zI v))] := hl
  have hg := hw
  have hw : kw D cls (tyl k) L s s.heap f [(t, cT fd rw cl rd pa nu), (nu, cO k z), (rr, cR k w)] s.heap [] := ⟨f, hw, hk⟩
  refine lv_aload_n hx hb d_T_setSmall_0 rfl (lv_at hl 0 rfl) ?_
  refine k_get hx hb hG lay_T hown hw 0 rfl rfl 5 (by decide) (hG _ fl_T_21) (fun _ h9 => h9) rfl d_T_setSmall_1 ?_
  refine lv_iload_n hx hb d_T_setSmall_4 rfl (lv_at hl 1 rfl) ?_
  refine k_aaldA hx hb hw 1 1 rfl rfl (row) (rfl) (hrow) (by first | decide | omega) (hz) d_T_setSmall_5 ?_
  refine lv_iload_n hx hb d_T_setSmall_6 rfl (lv_at hl 2 rfl) ?_
  refine lv_bipush (v := 6) hx hb d_T_setSmall_7 (by decide) ?_
  refine lv_imul hx hb d_T_setSmall_9 ?_
  refine l_top (six col) ?_
  refine lv_iload_n hx hb d_T_setSmall_10 rfl (lv_at hl 3 rfl) ?_
  obtain ⟨f1, hw, hk1⟩ := hw
  refine g_oi (c_X (np := 1) S (m_signum l D k L f1 v hv) hw ml_T_48 st_JI_signum in_JI co_JI_signum (by decide +kernel) rfl ⟨rfl, rfl, by decide, by decide⟩ hl.1 rfl (by simp [Value.category]) d_T_setSmall_11 ⟨Nat.zero_le _, Nat.zero_le _⟩) hw (fun r1 f2 H locs hp hw2 => ?_)
  rw [hp.1] at hw2
  refine l_top hp.2 ?_
  have hw : kw D cls (tyl k) L s s.heap f [(t, cT fd rw cl rd pa nu), (nu, cO k z), (rr, cR k w)] H locs := ⟨f1, hw2, hk1⟩
  refine k_iast hx hb hw 2 0 rfl rfl ((col * 6)) (rfl) (by omega) (by first | decide | omega) d_T_setSmall_14 (fun H locs hw => ?_)
  refine lv_aload_n hx hb d_T_setSmall_15 rfl (lv_at hl 0 rfl) ?_
  refine k_get hx hb hG lay_T hown hw 0 rfl rfl 5 (by decide) (hG _ fl_T_21) (fun _ h9 => h9) rfl d_T_setSmall_16 ?_
  refine lv_iload_n hx hb d_T_setSmall_19 rfl (lv_at hl 1 rfl) ?_
  refine k_aaldA hx hb hw 1 1 rfl rfl (row) (rfl) (hrow) (by first | decide | omega) (hz) d_T_setSmall_20 ?_
  refine lv_iload_n hx hb d_T_setSmall_21 rfl (lv_at hl 2 rfl) ?_
  refine lv_bipush (v := 6) hx hb d_T_setSmall_22 (by decide) ?_
  refine lv_imul hx hb d_T_setSmall_24 ?_
  refine l_top (six col) ?_
  refine lv_iconst (v := 1) hx hb d_T_setSmall_25 (by decide) ?_
  refine lv_iadd hx hb d_T_setSmall_26 ?_
  refine l_top (nI_1 _) ?_
  refine lv_iload_n hx hb d_T_setSmall_27 rfl (lv_at hl 3 rfl) ?_
  obtain ⟨f3, hw, hk3⟩ := hw
  refine g_oi (c_X (np := 1) S (m_abs l D k L f3 (zI v)) hw ml_T_54 st_JM_abs in_JM co_JM_abs (by decide +kernel) rfl ⟨rfl, rfl, by decide, by decide⟩ hl.1 rfl (by simp [Value.category]) d_T_setSmall_28 ⟨Nat.zero_le _, Nat.zero_le _⟩) hw (fun r4 f4 H locs hp4 hw4 => ?_)
  rw [hp4.1] at hw4
  have e4 : r4 = zI v.natAbs := by rw [hp4.2]; exact abs_zI hv
  refine l_top e4 ?_
  have hw : kw D cls (tyl k) L s s.heap f [(t, cT fd rw cl rd pa nu), (nu, cO k z), (rr, cR k (upd w (col * 6) (zI v.sign)))] H locs := ⟨f3, hw4, hk3⟩
  refine k_iast hx hb hw 2 0 rfl rfl ((col * 6 + 1)) (rfl) (by omega) (by first | decide | omega) d_T_setSmall_31 (fun H locs hw => ?_)
  obtain ⟨f5, hw, hk5⟩ := hw
  exact g_retv hx hb hr hlocks hw hk5 d_T_setSmall_32
theorem nm_small {w : Nat → Int32} {j : Nat} {v : Int} (h1 : w (j * 6) = zI v.sign) (h2 : w (j * 6 + 1) = zI v.natAbs) (hv : v.natAbs < B30) : nm w j v := by
  by_cases h : v = 0
  · subst h
    exact ⟨0, fun _ => 0, by omega, fun i hi => by omega, fun h => by omega, h1, rfl⟩
  · have hd1 : ∀ i, i < 1 → w (j * 6 + 1 + i) = nI ((fun _ : Nat => v.natAbs) i) ∧ (fun _ : Nat => v.natAbs) i < B30 := by
      intro i hi
      have e0 : i = 0 := by omega
      subst e0
      exact ⟨h2, hv⟩
    refine ⟨1, fun _ => v.natAbs, by omega, hd1, fun _ => by show v.natAbs ≠ 0; omega, by rw [h1, Int.natCast_one, Int.mul_one], ?_⟩
    show v.natAbs = 0 + v.natAbs * B30 ^ 0
    rw [Nat.pow_zero]; omega
set_option maxRecDepth 100000 in
set_option maxHeartbeats 4000000 in
/-- load(row, column, o): o becomes the number -/
theorem m_T_load (l : Launch) (D : va_G) (k : Nat → ClassId) (L : List Nat) (f : Nat → va_E) (t pa nu rr : Nat) (fd rw cl rd : Int32) (z : Nat → Option Nat) (w : Nat → Int32) (row col : Nat) (hrow : row < 12) (hcol : col < 12) (hz : z row = some rr) (o ol n2 : Nat) (g2 : Int32) (d2 : Nat → Nat) (v : Int) (hv : nm w col v) (hd2 : ∀ i, i < 12 → d2 i < B30) (hk : kn L f f [(t, cT fd rw cl rd pa nu), (nu, cO k z), (rr, cR k w), (o, cW ol n2 g2), (ol, cD k d2)]) : Mv l y_T_load (Cond.code y_T_load c_T_load 5 none :: G) (rmN 1) D cls (tyl k) L f [.ref t, .int (nI row), .int (nI col), .ref o] (fun f' => ∃ (n' : Nat) (g' : Int32) (d' : Nat → Nat), wr n' g' d' v ∧ n' ≤ 5 ∧ kn L f f' [(t, cT fd rw cl rd pa nu), (nu, cO k z), (rr, cR k w), (o, cW ol n' g'), (ol, cD k d')]) := by
  obtain ⟨n, d, hn, hdg, htop, hhd, habs⟩ := hv
  have hs1 : -1 ≤ v.sign ∧ v.sign ≤ 1 := by rcases Int.lt_trichotomy v 0 with h | h | h <;> simp [Int.sign_eq_neg_one_of_neg, Int.sign_eq_one_of_pos, h]
  have hn0 : n = 0 ↔ v = 0 := by
    constructor
    · intro h; rw [h] at habs; have : cd B30 0 d = 0 := rfl; omega
    · intro h
      apply Classical.byContradiction
      intro h0
      obtain ⟨m9, rfl⟩ : ∃ m9, n = m9 + 1 := ⟨n - 1, by omega⟩
      have h5 := cd_ge (b := B30) (n := m9) (d := d) (htop (by omega))
      have h6 : 0 < B30 ^ m9 := Nat.pow_pos (by decide)
      omega
  have hab : (v.sign * (n : Int)).natAbs = n := by
    rcases Int.lt_trichotomy v 0 with h | h | h
    · rw [Int.sign_eq_neg_one_of_neg h]; omega
    · have e0 := hn0.mpr h
      subst e0; simp
    · rw [Int.sign_eq_one_of_pos h]; omega
  have hsn : (v.sign * (n : Int)).sign = v.sign := by
    rw [Int.sign_mul, Int.sign_sign]
    by_cases h : n = 0
    · rw [hn0.mp h]; simp
    · rw [Int.sign_eq_one_of_pos (show (0 : Int) < n by omega), Int.mul_one]
  have hrng : -5 ≤ v.sign * (n : Int) ∧ v.sign * (n : Int) ≤ 5 := by omega
  -- METHOD T_load | loc 0=t 1=row 2=col 3=o | ws t nu rr o ol | fld t.numbers=nu o.limbs=ol
  refine mk_met (by decide) (Nat.le_of_ble_eq_true rfl) (fun p e s m below meth c ls S hr hlocks hw hl => ?_)
  have hx := S.1
  have hb := S.2.1
  have hown : s.vm.findClass R_T = some m.cls := S.2.2.2.1
  have hG := S.2.2.2.2
  have hl : lv_has ls 5 [(0, .ref t), (1, .int (nI row)), (2, .int (nI col)), (3, .ref o)] := hl
  have hg := hw
  refine lv_aload_n hx hb d_T_load_0 rfl (lv_at hl 0 rfl) ?_
  refine lv_iload_n hx hb d_T_load_1 rfl (lv_at hl 1 rfl) ?_
  refine lv_iload_n hx hb d_T_load_2 rfl (lv_at hl 2 rfl) ?_
  refine g_oi (c_V (np := 2) S (m_T_head l D k L f t pa nu rr fd rw cl rd z w row col hrow hcol hz (kn_sub hk [0, 1, 2] rfl rfl)) hw ((hk.1 0 _ rfl).1) ((hk.1 0 _ rfl).2) rfl ml_T_44 im_T_head se_T_T_head in_T co_T_head (by decide +kernel) rfl ⟨rfl, rfl, by decide, by decide⟩ hl.1 rfl (by simp [Value.category]) d_T_load_3 ⟨Nat.zero_le _, Nat.zero_le _⟩) hw (fun r1 f1 H locs hp hw2 => ?_)
  rw [hp.1] at hw2
  have hw := hw2
  refine l_top (hp.2.trans hhd) ?_
  refine lv_istore hx hb d_T_load_6 hl (by decide) rfl (fun ls hl => ?_)
  refine lv_aload_n hx hb d_T_load_8 rfl (lv_at hl 4 rfl) ?_
  refine lv_iload hx hb d_T_load_9 (lv_at hl 0 rfl) ?_
  refine g_oi (c_X (np := 1) S (m_abs l D k L f (zI (v.sign * (n : Int)))) hw ml_T_54 st_JM_abs in_JM co_JM_abs (by decide +kernel) rfl ⟨rfl, rfl, by decide, by decide⟩ hl.1 rfl (by simp [Value.category]) d_T_load_11 ⟨Nat.zero_le _, Nat.zero_le _⟩) hw (fun r4 f4 H locs hp4 hw4 => ?_)
  rw [hp4.1] at hw4
  have e4 : r4 = nI n := by
    rw [hp4.2, abs_zI ⟨by omega, by omega⟩, hab, zI_n]
  refine l_top e4 ?_
  have hw : kw D cls (tyl k) L s s.heap f [(t, cT fd rw cl rd pa nu), (nu, cO k z), (rr, cR k w), (o, cW ol n2 g2), (ol, cD k d2)] H locs := ⟨f, hw4, hk⟩
  refine k_put (ty := .int) hx hb hG lay_W ft_W ft_W_ok fn_W hown hw 3 rfl rfl 1 (by decide) (hG _ fl_T_59) (fun _ h9 => h9) rfl (by decide +kernel) rfl rfl (by simp) d_T_load_14 (fun H locs hw => ?_)
  refine lv_aload_n hx hb d_T_load_17 rfl (lv_at hl 4 rfl) ?_
  refine lv_iload hx hb d_T_load_18 (lv_at hl 0 rfl) ?_
  obtain ⟨f5, hw, hk5⟩ := hw
  refine g_oi (c_X (np := 1) S (m_signum l D k L f5 (v.sign * (n : Int)) ⟨by omega, by omega⟩) hw ml_T_48 st_JI_signum in_JI co_JI_signum (by decide +kernel) rfl ⟨rfl, rfl, by decide, by decide⟩ hl.1 rfl (by simp [Value.category]) d_T_load_20 ⟨Nat.zero_le _, Nat.zero_le _⟩) hw (fun r6 f6 H locs hp6 hw6 => ?_)
  rw [hp6.1] at hw6
  refine l_top (hp6.2.trans (by rw [hsn])) ?_
  have hw : kw D cls (tyl k) L s s.heap f [(t, cT fd rw cl rd pa nu), (nu, cO k z), (rr, cR k w), (o, cW ol n g2), (ol, cD k d2)] H locs := ⟨f5, hw6, hk5⟩
  refine k_put (ty := .int) hx hb hG lay_W ft_W ft_W_ok fn_W hown hw 3 rfl rfl 2 (by decide) (hG _ fl_T_64) (fun _ h9 => h9) rfl (by decide +kernel) rfl rfl (by simp) d_T_load_23 (fun H locs hw => ?_)
  refine lv_aload_n hx hb d_T_load_26 rfl (lv_at hl 1 rfl) ?_
  refine k_get hx hb hG lay_T hown hw 0 rfl rfl 5 (by decide) (hG _ fl_T_21) (fun _ h9 => h9) rfl d_T_load_27 ?_
  refine lv_iload_n hx hb d_T_load_30 rfl (lv_at hl 2 rfl) ?_
  refine k_aaldA hx hb hw 1 1 rfl rfl (row) (rfl) (hrow) (by first | decide | omega) (hz) d_T_load_31 ?_
  refine lv_iload_n hx hb d_T_load_32 rfl (lv_at hl 3 rfl) ?_
  refine lv_bipush (v := 6) hx hb d_T_load_33 (by decide) ?_
  refine lv_imul hx hb d_T_load_35 ?_
  refine l_top (six col) ?_
  refine lv_iconst (v := 1) hx hb d_T_load_36 (by decide) ?_
  refine lv_iadd hx hb d_T_load_37 ?_
  refine l_top (nI_1 _) ?_
  refine lv_aload_n hx hb d_T_load_38 rfl (lv_at hl 4 rfl) ?_
  refine k_get hx hb hG lay_W hown hw 3 rfl rfl 0 (by decide) (hG _ fl_T_66) (fun _ h9 => h9) rfl d_T_load_39 ?_
  refine lv_iconst (v := 0) hx hb d_T_load_42 (by decide) ?_
  refine lv_aload_n hx hb d_T_load_43 rfl (lv_at hl 4 rfl) ?_
  refine k_get hx hb hG lay_W hown hw 3 rfl rfl 1 (by decide) (hG _ fl_T_59) (fun _ h9 => h9) rfl d_T_load_44 ?_
  refine k_copyi hx hb (by rw [S.2.2.1]; exact hl.1.symm) hown (hG _ ml_T_69) (hG _ nv_arraycopy) (hG _ st_arraycopy) (hG _ in_JS) hw 2 4 0 rfl rfl rfl (col * 6 + 1) 0 n rfl rfl rfl (by omega) (by omega) (by decide) (by decide) (by decide) (by simp [Value.category]; decide) d_T_load_47 (fun H locs hw => ?_)
  have ecp : va_cpy w (nD d2) (col * 6 + 1) 0 n = nD (va_cpy d d2 0 0 n) := by
    funext i
    by_cases h : i < n
    · rw [pk_cpy_in (by omega) (by omega)]
      show w _ = nI (va_cpy d d2 0 0 n i)
      rw [pk_cpy_in (by omega) (by omega), ← (hdg (0 + (i - 0)) (by omega)).1]
      congr 1
      omega
    · rw [pk_cpy_out (by omega)]
      show nI (d2 i) = nI (va_cpy d d2 0 0 n i)
      rw [pk_cpy_out (by omega)]
  rw [ecp] at hw
  obtain ⟨f7, hw, hk7⟩ := hw
  have hcd : cd B30 n (va_cpy d d2 0 0 n) = cd B30 n d := cd_congr n (fun i hi => by rw [pk_cpy_in (by omega) (by omega)]; congr 1; omega)
  refine g_retv hx hb hr hlocks hw ⟨n, zI v.sign, va_cpy d d2 0 0 n, ⟨by omega, fun i hi => ?_, ?_⟩, hn, hk7⟩ d_T_load_50
  · by_cases h : i < n
    · rw [pk_cpy_in (by omega) (by omega)]; exact (hdg _ (by omega)).2
    · rw [pk_cpy_out (by omega)]; exact hd2 i hi
  · rcases Int.lt_trichotomy v 0 with h | h | h
    · have hne : n ≠ 0 := fun q => by have := hn0.mp q; omega
      refine Or.inr ⟨by omega, by rw [pk_cpy_in (by omega) (by omega), show 0 + (n - 1 - 0) = n - 1 by omega]; exact htop (by omega), Or.inr ⟨by rw [Int.sign_eq_neg_one_of_neg h]; decide, by rw [hcd]; omega⟩⟩
    · exact Or.inl ⟨hn0.mpr h, by rw [h]; rfl, h⟩
    · have hne : n ≠ 0 := fun q => by have := hn0.mp q; omega
      refine Or.inr ⟨by omega, by rw [pk_cpy_in (by omega) (by omega), show 0 + (n - 1 - 0) = n - 1 by omega]; exact htop (by omega), Or.inl ⟨by rw [Int.sign_eq_one_of_pos h]; rfl, by rw [hcd]; omega⟩⟩
set_option maxRecDepth 100000 in
set_option maxHeartbeats 4000000 in
/-- store(row, column, o): the number becomes o's, if that has 5 limbs at most -/
theorem m_T_store (l : Launch) (D : va_G) (k : Nat → ClassId) (L : List Nat) (f : Nat → va_E) (t pa nu rr : Nat) (fd rw cl rd : Int32) (z : Nat → Option Nat) (w : Nat → Int32) (row col : Nat) (hrow : row < 12) (hcol : col < 12) (hz : z row = some rr) (o ol n2 : Nat) (g2 : Int32) (d2 : Nat → Nat) (v : Int) (hv : wr n2 g2 d2 v) (hn5 : n2 ≤ 5) (hk : kn L f f [(t, cT fd rw cl rd pa nu), (nu, cO k z), (rr, cR k w), (o, cW ol n2 g2), (ol, cD k d2)]) : Mv l y_T_store (Cond.code y_T_store c_T_store 5 none :: G) (rmN 1) D cls (tyl k) L f [.ref t, .int (nI row), .int (nI col), .ref o] (fun f' => ∃ w' : Nat → Int32, nm w' col v ∧ (∀ i, i < col * 6 ∨ col * 6 + 6 ≤ i → w' i = w i) ∧ kn L f f' [(t, cT fd rw cl rd pa nu), (nu, cO k z), (rr, cR k w'), (o, cW ol n2 g2), (ol, cD k d2)]) := by
  have eg := wr_g hv
  have habs := wr_abs hv
  -- METHOD T_store | loc 0=t 1=row 2=col 3=o | ws t nu rr o ol | fld t.numbers=nu o.limbs=ol
  refine mk_met (by decide) (Nat.le_of_ble_eq_true rfl) (fun p e s m below meth c ls S hr hlocks hw hl => ?_)
  have hx := S.1
  have hb := S.2.1
  have hown : s.vm.findClass R_T = some m.cls := S.2.2.2.1
  have hG := S.2.2.2.2
  have hl : lv_has ls 5 [(0, .ref t), (1, .int (nI row)), (2, .int (nI col)), (3, .ref o)] := hl
  have hg := hw
  have hw : kw D cls (tyl k) L s s.heap f [(t, cT fd rw cl rd pa nu), (nu, cO k z), (rr, cR k w), (o, cW ol n2 g2), (ol, cD k d2)] s.heap [] := ⟨f, hw, hk⟩
  refine lv_aload_n hx hb d_T_store_0 rfl (lv_at hl 3 rfl) ?_
  refine k_get hx hb hG lay_W hown hw 3 rfl rfl 1 (by decide) (hG _ fl_T_59) (fun _ h9 => h9) rfl d_T_store_1 ?_
  refine lv_iconst (v := 5) hx hb d_T_store_4 (by decide) ?_
  have hw := hg
  refine g_oi (c_X (np := 2) S (m_min l D k L f (nI n2) 5) hw ml_T_75 st_JM_min_1 in_JM co_JM_min_1 (by decide +kernel) rfl ⟨rfl, rfl, by decide, by decide⟩ hl.1 rfl (by simp [Value.category]) d_T_store_5 ⟨Nat.zero_le _, Nat.zero_le _⟩) hw (fun r1 f1 H locs hp hw2 => ?_)
  rw [hp.1] at hw2
  refine l_top (show r1 = nI n2 from hp.2.trans (if_neg (show ¬ (5 : Int32) < nI n2 from nI_nlt (a := 5) hn5 (by omega)))) ?_
  have hw : kw D cls (tyl k) L s s.heap f [(t, cT fd rw cl rd pa nu), (nu, cO k z), (rr, cR k w), (o, cW ol n2 g2), (ol, cD k d2)] H locs := ⟨f, hw2, hk⟩
  refine lv_istore hx hb d_T_store_8 hl (by decide) rfl (fun ls hl => ?_)
  refine lv_aload_n hx hb d_T_store_10 rfl (lv_at hl 1 rfl) ?_
  refine k_get hx hb hG lay_T hown hw 0 rfl rfl 5 (by decide) (hG _ fl_T_21) (fun _ h9 => h9) rfl d_T_store_11 ?_
  refine lv_iload_n hx hb d_T_store_14 rfl (lv_at hl 2 rfl) ?_
  refine k_aaldA hx hb hw 1 1 rfl rfl (row) (rfl) (hrow) (by first | decide | omega) (hz) d_T_store_15 ?_
  refine lv_iload_n hx hb d_T_store_16 rfl (lv_at hl 3 rfl) ?_
  refine lv_bipush (v := 6) hx hb d_T_store_17 (by decide) ?_
  refine lv_imul hx hb d_T_store_19 ?_
  refine l_top (six col) ?_
  refine lv_aload_n hx hb d_T_store_20 rfl (lv_at hl 4 rfl) ?_
  refine k_get hx hb hG lay_W hown hw 3 rfl rfl 2 (by decide) (hG _ fl_T_64) (fun _ h9 => h9) rfl d_T_store_21 ?_
  refine lv_iload hx hb d_T_store_24 (lv_at hl 0 rfl) ?_
  refine lv_imul hx hb d_T_store_26 ?_
  refine l_top (show g2 * nI n2 = zI (v.sign * n2) by rw [eg, ← zI_n, zI_mul]) ?_
  refine k_iast hx hb hw 2 0 rfl rfl ((col * 6)) (rfl) (by omega) (by first | decide | omega) d_T_store_27 (fun H locs hw => ?_)
  refine lv_aload_n hx hb d_T_store_28 rfl (lv_at hl 4 rfl) ?_
  refine k_get hx hb hG lay_W hown hw 3 rfl rfl 0 (by decide) (hG _ fl_T_66) (fun _ h9 => h9) rfl d_T_store_29 ?_
  refine lv_iconst (v := 0) hx hb d_T_store_32 (by decide) ?_
  refine lv_aload_n hx hb d_T_store_33 rfl (lv_at hl 1 rfl) ?_
  refine k_get hx hb hG lay_T hown hw 0 rfl rfl 5 (by decide) (hG _ fl_T_21) (fun _ h9 => h9) rfl d_T_store_34 ?_
  refine lv_iload_n hx hb d_T_store_37 rfl (lv_at hl 2 rfl) ?_
  refine k_aaldA hx hb hw 1 1 rfl rfl (row) (rfl) (hrow) (by first | decide | omega) (hz) d_T_store_38 ?_
  refine lv_iload_n hx hb d_T_store_39 rfl (lv_at hl 3 rfl) ?_
  refine lv_bipush (v := 6) hx hb d_T_store_40 (by decide) ?_
  refine lv_imul hx hb d_T_store_42 ?_
  refine l_top (six col) ?_
  refine lv_iconst (v := 1) hx hb d_T_store_43 (by decide) ?_
  refine lv_iadd hx hb d_T_store_44 ?_
  refine l_top (nI_1 _) ?_
  refine lv_iload hx hb d_T_store_45 (lv_at hl 0 rfl) ?_
  refine k_copyi hx hb (by rw [S.2.2.1]; exact hl.1.symm) hown (hG _ ml_T_69) (hG _ nv_arraycopy) (hG _ st_arraycopy) (hG _ in_JS) hw 4 2 0 rfl rfl rfl 0 (col * 6 + 1) n2 rfl rfl rfl (by omega) (by omega) (by decide) (by decide) (by decide) (by simp [Value.category]; decide) d_T_store_47 (fun H locs hw => ?_)
  obtain ⟨f7, hw, hk7⟩ := hw
  refine g_retv hx hb hr hlocks hw ⟨_, ⟨n2, d2, hn5, fun i hi => ⟨?_, hv.2.1 i (by omega)⟩, wr_top hv, ?_, habs⟩, fun i hi => ?_, hk7⟩ d_T_store_50
  · rw [pk_cpy_in (by omega) (by omega)]
    show nI (d2 _) = _
    congr 2
    omega
  · rw [pk_cpy_out (by omega), pk_us]
  · rw [pk_cpy_out (by omega), pk_un (by omega)]
end
section
-- ===== a family of Wholes: number i lies at adr (2 i), its limbs at adr (2 i + 1) =====
def fv (L : List Nat) (k : Nat → ClassId) (adr : Nat → Nat) (N : Nat) (f : Nat → va_E) (vals : Nat → Int) : Prop := ∀ i, i < N → adr (2 * i) ∈ L ∧ adr (2 * i + 1) ∈ L ∧ ∃ (n : Nat) (g : Int32) (d : Nat → Nat), f (adr (2 * i)) = cW (adr (2 * i + 1)) n g ∧ f (adr (2 * i + 1)) = cD k d ∧ wr n g d (vals i)
/-- what is not of the family is as it was -/
def fo (adr : Nat → Nat) (N : Nat) (f f' : Nat → va_E) : Prop := ∀ q, (∀ x, x < 2 * N → q ≠ adr x) → f' q = f q
theorem fo.rf {adr : Nat → Nat} {N : Nat} {f : Nat → va_E} : fo adr N f f := fun _ _ => rfl
theorem fo.trans {adr : Nat → Nat} {N : Nat} {f g h : Nat → va_E} (h1 : fo adr N f g) (h2 : fo adr N g h) : fo adr N f h := fun q hq => (h2 q hq).trans (h1 q hq)
theorem nd_map {adr : Nat → Nat} {M : Nat} {l : List Nat} (inj : ∀ x y, x < M → y < M → adr x = adr y → x = y) (hl : ∀ x ∈ l, x < M) (hn : l.Nodup) : (l.map adr).Nodup := by
  induction l with
  | nil => exact List.nodup_nil
  | cons a l ih =>
    rw [List.nodup_cons] at hn
    rw [List.map_cons, List.nodup_cons]
    refine ⟨fun hm => ?_, ih (fun x hx => hl x (List.mem_cons_of_mem _ hx)) hn.2⟩
    obtain ⟨b, hb, e⟩ := List.mem_map.mp hm
    have := inj b a (hl b (List.mem_cons_of_mem _ hb)) (hl a List.mem_cons_self) e
    exact hn.1 (this ▸ hb)
theorem fv_step {L : List Nat} {k : Nat → ClassId} {adr : Nat → Nat} {N : Nat} {f f' : Nat → va_E} {vals vals' : Nat → Int} {ws : va_W} (inj : ∀ x y, x < 2 * N → y < 2 * N → adr x = adr y → x = y) (hf : fv L k adr N f vals) (l : List Nat) (hws : ws.map (fun q => q.1) = l.map adr) (hl : ∀ x ∈ l, x < 2 * N) (hk : kn L f f' ws)
    (hold : ∀ j, j < N → 2 * j ∉ l → 2 * j + 1 ∉ l ∧ vals' j = vals j) (hnew : ∀ j, j < N → 2 * j ∈ l → ∃ (n : Nat) (g : Int32) (d : Nat → Nat), f' (adr (2 * j)) = cW (adr (2 * j + 1)) n g ∧ f' (adr (2 * j + 1)) = cD k d ∧ wr n g d (vals' j)) : fv L k adr N f' vals' ∧ fo adr N f f' := by
  refine ⟨fun j hj => ?_, fun q hq => ?_⟩
  · obtain ⟨h1, h2, h3⟩ := hf j hj
    refine ⟨h1, h2, ?_⟩
    by_cases hm : 2 * j ∈ l
    · exact hnew j hj hm
    · obtain ⟨n, g, d, e1, e2, e3⟩ := h3
      obtain ⟨hm2, ev⟩ := hold j hj hm
      have off : ∀ x, x < 2 * N → x ∉ l → f' (adr x) = f (adr x) := fun x hx hxl => by
        refine kn_off hk ?_
        rw [hws]
        intro hin
        obtain ⟨y, hy, e⟩ := List.mem_map.mp hin
        exact hxl (inj y x (hl y hy) hx e ▸ hy)
      refine ⟨n, g, d, by rw [off _ (by omega) hm]; exact e1, by rw [off _ (by omega) hm2]; exact e2, by rw [ev]; exact e3⟩
  · refine kn_off hk ?_
    rw [hws]
    intro hin
    obtain ⟨y, hy, e⟩ := List.mem_map.mp hin
    exact hq y (hl y hy) e.symm
/-- a number below B30 ^ m has m limbs at most -/
theorem wr_cnt {n m : Nat} {g : Int32} {d : Nat → Nat} {v : Int} (h : wr n g d v) (hv : v.natAbs < B30 ^ m) : n ≤ m := by
  rcases h.2.2 with ⟨h1, -⟩ | ⟨h1, h2, -⟩
  · omega
  · rw [wr_abs h] at hv
    obtain ⟨n', rfl⟩ : ∃ n', n = n' + 1 := ⟨n - 1, by omega⟩
    have h5 := cd_ge (b := B30) (n := n') (d := d) h2
    have h6 : B30 ^ n' < B30 ^ m := by omega
    have := (Nat.pow_lt_pow_iff_right (show 1 < B30 by decide)).mp h6
    omega
theorem Met_mono {l : Launch} {y : MethodName} {ws : List Cond} {rm : Room} {D : va_G} {cl : List vw_C} {tys : List (ClassId × FieldType)} {L : List Nat} {f : Nat → va_E} {as : List Value} {post post' : (Nat → va_E) → Prop} (h : Mv l y ws rm D cl tys L f as post) (hp : ∀ f', post f' → post' f') : Mv l y ws rm D cl tys L f as post' := by
  refine MetFree.mono h (fun _ _ hq => hq) (fun _ _ _ _ _ hq => hq) (fun a st o t _ hq => ?_)
  obtain ⟨⟨⟨u, h1, h2, h3⟩, h4⟩, h5⟩ := hq
  exact ⟨⟨⟨u, h1, hp u h2, h3⟩, h4⟩, h5⟩
set_option maxRecDepth 100000 in
set_option maxHeartbeats 4000000 in
theorem n_setZero (l : Launch) (D : va_G) (k : Nat → ClassId) (L : List Nat) (f : Nat → va_E) (adr : Nat → Nat) (N : Nat) (vals : Nat → Int) (inj : ∀ x y, x < 2 * N → y < 2 * N → adr x = adr y → x = y) (hf : fv L k adr N f vals) (i : Nat) (hi : i < N)   : Mv l y_W_setZero (Cond.code y_W_setZero c_W_setZero 1 none :: G) (rmN 0) D cls (tyl k) L f [.ref (adr (2 * i))] (fun f' => fv L k adr N f' (va_up vals i (0)) ∧ fo adr N f f') := by
  obtain ⟨m0, ml0, n0, g0, d0, e0, el0, w0⟩ := hf i hi
  have hk : kn L f f [(adr (2 * i), cW (adr (2 * i + 1)) n0 g0), (adr (2 * i + 1), cD k d0)] := by
    refine kn_of (fun q hq => ?_) (nd_map (l := [2 * i, 2 * i + 1]) inj (fun x hx => ?_) ?_)
    · simp only [List.mem_cons, List.not_mem_nil, or_false] at hq
      rcases hq with rfl | rfl
      · exact ⟨m0, e0⟩
      · exact ⟨ml0, el0⟩
    · simp only [List.mem_cons, List.not_mem_nil, or_false] at hx
      omega
    · simp only [List.nodup_cons, List.mem_cons, List.not_mem_nil, or_false, not_or, List.nodup_nil, not_false_eq_true, and_true]
      omega
  refine Met_mono (m_W_setZero l D k L f _ _ n0 g0 (kn_sub hk [0] rfl rfl)) (fun f' hp => ?_)
  have hk2 : kn L f f' [(adr (2 * i), cW (adr (2 * i + 1)) 0 0), (adr (2 * i + 1), cD k d0)] := by
    have nd := kn_nd hk
    simp only [List.map_cons, List.map_nil, List.nodup_cons, List.mem_cons, List.not_mem_nil, or_false, not_or] at nd
    obtain ⟨n01, -⟩ := nd
    refine kn_join hk hp (by simp) rfl (fun q hq => ?_)
    simp only [List.mem_cons, List.not_mem_nil, or_false] at hq
    rcases hq with rfl | rfl
    · exact (hp.1 0 _ rfl).2
    · rw [kn_off hp (by simp; exact Ne.symm n01)]; exact (hk.1 1 _ rfl).2
  refine fv_step inj hf [2 * i, 2 * i + 1] rfl (fun x hx => by simp only [List.mem_cons, List.not_mem_nil, or_false] at hx; omega) hk2 (fun j hj hjl => ?_) (fun j hj hjl => ?_)
  · simp only [List.mem_cons, List.not_mem_nil, or_false, not_or] at hjl ⊢
    refine ⟨by omega, ?_⟩
    rw [va_up_ne _ _ (show j ≠ i by omega)]
  · simp only [List.mem_cons, List.not_mem_nil, or_false] at hjl
    rcases (show j = i by omega) with e
    · rw [e]; exact ⟨0, 0, d0, (hk2.1 0 _ rfl).2, (hk2.1 1 _ rfl).2, by rw [va_up_self]; exact ⟨by omega, w0.2.1, Or.inl ⟨rfl, rfl, rfl⟩⟩⟩
theorem wr_neg {n : Nat} {g : Int32} {d : Nat → Nat} {v : Int} (h : wr n g d v) : wr n (-g) d (-v) := by
  refine ⟨h.1, h.2.1, ?_⟩
  rcases h.2.2 with ⟨h1, h2, h3⟩ | ⟨h1, h2, ⟨h3, h4⟩ | ⟨h3, h4⟩⟩
  · exact Or.inl ⟨h1, by rw [h2]; decide, by omega⟩
  · exact Or.inr ⟨h1, h2, Or.inr ⟨by rw [h3], by omega⟩⟩
  · exact Or.inr ⟨h1, h2, Or.inl ⟨by rw [h3]; decide, by omega⟩⟩
set_option maxRecDepth 100000 in
set_option maxHeartbeats 4000000 in
theorem n_negate (l : Launch) (D : va_G) (k : Nat → ClassId) (L : List Nat) (f : Nat → va_E) (adr : Nat → Nat) (N : Nat) (vals : Nat → Int) (inj : ∀ x y, x < 2 * N → y < 2 * N → adr x = adr y → x = y) (hf : fv L k adr N f vals) (i : Nat) (hi : i < N)   : Mv l y_W_negate (Cond.code y_W_negate c_W_negate 1 none :: G) (rmN 0) D cls (tyl k) L f [.ref (adr (2 * i))] (fun f' => fv L k adr N f' (va_up vals i (-vals i)) ∧ fo adr N f f') := by
  obtain ⟨m0, ml0, n0, g0, d0, e0, el0, w0⟩ := hf i hi
  have hk : kn L f f [(adr (2 * i), cW (adr (2 * i + 1)) n0 g0), (adr (2 * i + 1), cD k d0)] := by
    refine kn_of (fun q hq => ?_) (nd_map (l := [2 * i, 2 * i + 1]) inj (fun x hx => ?_) ?_)
    · simp only [List.mem_cons, List.not_mem_nil, or_false] at hq
      rcases hq with rfl | rfl
      · exact ⟨m0, e0⟩
      · exact ⟨ml0, el0⟩
    · simp only [List.mem_cons, List.not_mem_nil, or_false] at hx
      omega
    · simp only [List.nodup_cons, List.mem_cons, List.not_mem_nil, or_false, not_or, List.nodup_nil, not_false_eq_true, and_true]
      omega
  refine Met_mono (m_W_negate l D k L f _ _ n0 g0 (kn_sub hk [0] rfl rfl)) (fun f' hp => ?_)
  have hk2 : kn L f f' [(adr (2 * i), cW (adr (2 * i + 1)) n0 (-g0)), (adr (2 * i + 1), cD k d0)] := by
    have nd := kn_nd hk
    simp only [List.map_cons, List.map_nil, List.nodup_cons, List.mem_cons, List.not_mem_nil, or_false, not_or] at nd
    obtain ⟨n01, -⟩ := nd
    refine kn_join hk hp (by simp) rfl (fun q hq => ?_)
    simp only [List.mem_cons, List.not_mem_nil, or_false] at hq
    rcases hq with rfl | rfl
    · exact (hp.1 0 _ rfl).2
    · rw [kn_off hp (by simp; exact Ne.symm n01)]; exact (hk.1 1 _ rfl).2
  refine fv_step inj hf [2 * i, 2 * i + 1] rfl (fun x hx => by simp only [List.mem_cons, List.not_mem_nil, or_false] at hx; omega) hk2 (fun j hj hjl => ?_) (fun j hj hjl => ?_)
  · simp only [List.mem_cons, List.not_mem_nil, or_false, not_or] at hjl ⊢
    refine ⟨by omega, ?_⟩
    rw [va_up_ne _ _ (show j ≠ i by omega)]
  · simp only [List.mem_cons, List.not_mem_nil, or_false] at hjl
    rcases (show j = i by omega) with e
    · rw [e]; exact ⟨n0, (-g0), d0, (hk2.1 0 _ rfl).2, (hk2.1 1 _ rfl).2, by rw [va_up_self]; exact wr_neg w0⟩
set_option maxRecDepth 100000 in
set_option maxHeartbeats 4000000 in
theorem n_setSize (l : Launch) (D : va_G) (k : Nat → ClassId) (L : List Nat) (f : Nat → va_E) (adr : Nat → Nat) (N : Nat) (vals : Nat → Int) (inj : ∀ x y, x < 2 * N → y < 2 * N → adr x = adr y → x = y) (hf : fv L k adr N f vals) (i : Nat) (hi : i < N) (a : Nat) (ha : a < N) (neia : i ≠ a)  : Mv l y_W_setSize (Cond.code y_W_setSize c_W_setSize 2 none :: G) (rmN 1) D cls (tyl k) L f [.ref (adr (2 * i)), .ref (adr (2 * a))] (fun f' => fv L k adr N f' (va_up vals i (((vals a).natAbs : Int))) ∧ fo adr N f f') := by
  obtain ⟨m0, ml0, n0, g0, d0, e0, el0, w0⟩ := hf i hi
  obtain ⟨m1, ml1, n1, g1, d1, e1, el1, w1⟩ := hf a ha
  have hk : kn L f f [(adr (2 * i), cW (adr (2 * i + 1)) n0 g0), (adr (2 * i + 1), cD k d0), (adr (2 * a), cW (adr (2 * a + 1)) n1 g1), (adr (2 * a + 1), cD k d1)] := by
    refine kn_of (fun q hq => ?_) (nd_map (l := [2 * i, 2 * i + 1, 2 * a, 2 * a + 1]) inj (fun x hx => ?_) ?_)
    · simp only [List.mem_cons, List.not_mem_nil, or_false] at hq
      rcases hq with rfl | rfl | rfl | rfl
      · exact ⟨m0, e0⟩
      · exact ⟨ml0, el0⟩
      · exact ⟨m1, e1⟩
      · exact ⟨ml1, el1⟩
    · simp only [List.mem_cons, List.not_mem_nil, or_false] at hx
      omega
    · simp only [List.nodup_cons, List.mem_cons, List.not_mem_nil, or_false, not_or, List.nodup_nil, not_false_eq_true, and_true]
      omega
  refine Met_mono (m_W_setSize l D k L f _ _ n0 _ _ n1 g0 g1 d0 d1 _ w0.2.1 hk w1) (fun f' hp => ?_)
  obtain ⟨g', d', w', hk2⟩ := hp
  refine fv_step inj hf [2 * i, 2 * i + 1, 2 * a, 2 * a + 1] rfl (fun x hx => by simp only [List.mem_cons, List.not_mem_nil, or_false] at hx; omega) hk2 (fun j hj hjl => ?_) (fun j hj hjl => ?_)
  · simp only [List.mem_cons, List.not_mem_nil, or_false, not_or] at hjl ⊢
    refine ⟨by omega, ?_⟩
    rw [va_up_ne _ _ (show j ≠ i by omega)]
  · simp only [List.mem_cons, List.not_mem_nil, or_false] at hjl
    rcases (show j = i ∨ j = a by omega) with e | e
    · rw [e]; exact ⟨n1, g', d', (hk2.1 0 _ rfl).2, (hk2.1 1 _ rfl).2, by rw [va_up_self]; exact w'⟩
    · rw [e]; exact ⟨n1, g1, d1, (hk2.1 2 _ rfl).2, (hk2.1 3 _ rfl).2, by rw [va_up_ne _ _ (show a ≠ i by omega)]; exact w1⟩
set_option maxRecDepth 100000 in
set_option maxHeartbeats 4000000 in
theorem n_setProduct (l : Launch) (D : va_G) (k : Nat → ClassId) (L : List Nat) (f : Nat → va_E) (adr : Nat → Nat) (N : Nat) (vals : Nat → Int) (inj : ∀ x y, x < 2 * N → y < 2 * N → adr x = adr y → x = y) (hf : fv L k adr N f vals) (i : Nat) (hi : i < N) (a : Nat) (ha : a < N) (b : Nat) (hb : b < N) (neia : i ≠ a) (neib : i ≠ b) (neab : a ≠ b) (ha5 : (vals a).natAbs < B30 ^ 6) (hb5 : (vals b).natAbs < B30 ^ 6) : Mv l y_W_setProduct (Cond.code y_W_setProduct c_W_setProduct 9 none :: G) (rmN 2) D cls (tyl k) L f [.ref (adr (2 * i)), .ref (adr (2 * a)), .ref (adr (2 * b))] (fun f' => fv L k adr N f' (va_up vals i (vals a * vals b)) ∧ fo adr N f f') := by
  obtain ⟨m0, ml0, n0, g0, d0, e0, el0, w0⟩ := hf i hi
  obtain ⟨m1, ml1, n1, g1, d1, e1, el1, w1⟩ := hf a ha
  obtain ⟨m2, ml2, n2, g2, d2, e2, el2, w2⟩ := hf b hb
  have hk : kn L f f [(adr (2 * i), cW (adr (2 * i + 1)) n0 g0), (adr (2 * i + 1), cD k d0), (adr (2 * a), cW (adr (2 * a + 1)) n1 g1), (adr (2 * a + 1), cD k d1), (adr (2 * b), cW (adr (2 * b + 1)) n2 g2), (adr (2 * b + 1), cD k d2)] := by
    refine kn_of (fun q hq => ?_) (nd_map (l := [2 * i, 2 * i + 1, 2 * a, 2 * a + 1, 2 * b, 2 * b + 1]) inj (fun x hx => ?_) ?_)
    · simp only [List.mem_cons, List.not_mem_nil, or_false] at hq
      rcases hq with rfl | rfl | rfl | rfl | rfl | rfl
      · exact ⟨m0, e0⟩
      · exact ⟨ml0, el0⟩
      · exact ⟨m1, e1⟩
      · exact ⟨ml1, el1⟩
      · exact ⟨m2, e2⟩
      · exact ⟨ml2, el2⟩
    · simp only [List.mem_cons, List.not_mem_nil, or_false] at hx
      omega
    · simp only [List.nodup_cons, List.mem_cons, List.not_mem_nil, or_false, not_or, List.nodup_nil, not_false_eq_true, and_true]
      omega
  refine Met_mono (m_W_setProduct l D k L f _ _ n0 _ _ n1 _ _ n2 g0 g1 g2 d0 d1 d2 _ _ w1 w2 w0.2.1 (by have q1 := wr_cnt w1 ha5; have q2 := wr_cnt w2 hb5; omega) hk) (fun f' hp => ?_)
  obtain ⟨n', g', d', w', hk2⟩ := hp
  refine fv_step inj hf [2 * i, 2 * i + 1, 2 * a, 2 * a + 1, 2 * b, 2 * b + 1] rfl (fun x hx => by simp only [List.mem_cons, List.not_mem_nil, or_false] at hx; omega) hk2 (fun j hj hjl => ?_) (fun j hj hjl => ?_)
  · simp only [List.mem_cons, List.not_mem_nil, or_false, not_or] at hjl ⊢
    refine ⟨by omega, ?_⟩
    rw [va_up_ne _ _ (show j ≠ i by omega)]
  · simp only [List.mem_cons, List.not_mem_nil, or_false] at hjl
    rcases (show j = i ∨ j = a ∨ j = b by omega) with e | e | e
    · rw [e]; exact ⟨n', g', d', (hk2.1 0 _ rfl).2, (hk2.1 1 _ rfl).2, by rw [va_up_self]; exact w'⟩
    · rw [e]; exact ⟨n1, g1, d1, (hk2.1 2 _ rfl).2, (hk2.1 3 _ rfl).2, by rw [va_up_ne _ _ (show a ≠ i by omega)]; exact w1⟩
    · rw [e]; exact ⟨n2, g2, d2, (hk2.1 4 _ rfl).2, (hk2.1 5 _ rfl).2, by rw [va_up_ne _ _ (show b ≠ i by omega)]; exact w2⟩
set_option maxRecDepth 100000 in
set_option maxHeartbeats 4000000 in
theorem n_subtract (l : Launch) (D : va_G) (k : Nat → ClassId) (L : List Nat) (f : Nat → va_E) (adr : Nat → Nat) (N : Nat) (vals : Nat → Int) (inj : ∀ x y, x < 2 * N → y < 2 * N → adr x = adr y → x = y) (hf : fv L k adr N f vals) (i : Nat) (hi : i < N) (a : Nat) (ha : a < N) (neia : i ≠ a) (hi5 : (vals i).natAbs < B30 ^ 11) (ha5 : (vals a).natAbs < B30 ^ 11) : Mv l y_W_subtract (Cond.code y_W_subtract c_W_subtract 2 none :: G) (rmN 2) D cls (tyl k) L f [.ref (adr (2 * i)), .ref (adr (2 * a))] (fun f' => fv L k adr N f' (va_up vals i (vals i - vals a)) ∧ fo adr N f f') := by
  obtain ⟨m0, ml0, n0, g0, d0, e0, el0, w0⟩ := hf i hi
  obtain ⟨m1, ml1, n1, g1, d1, e1, el1, w1⟩ := hf a ha
  have hk : kn L f f [(adr (2 * i), cW (adr (2 * i + 1)) n0 g0), (adr (2 * i + 1), cD k d0), (adr (2 * a), cW (adr (2 * a + 1)) n1 g1), (adr (2 * a + 1), cD k d1)] := by
    refine kn_of (fun q hq => ?_) (nd_map (l := [2 * i, 2 * i + 1, 2 * a, 2 * a + 1]) inj (fun x hx => ?_) ?_)
    · simp only [List.mem_cons, List.not_mem_nil, or_false] at hq
      rcases hq with rfl | rfl | rfl | rfl
      · exact ⟨m0, e0⟩
      · exact ⟨ml0, el0⟩
      · exact ⟨m1, e1⟩
      · exact ⟨ml1, el1⟩
    · simp only [List.mem_cons, List.not_mem_nil, or_false] at hx
      omega
    · simp only [List.nodup_cons, List.mem_cons, List.not_mem_nil, or_false, not_or, List.nodup_nil, not_false_eq_true, and_true]
      omega
  refine Met_mono (m_W_subtract l D k L f _ _ n0 _ _ n1 g0 g1 d0 d1 _ _ w0 w1 (wr_cnt w0 hi5) (wr_cnt w1 ha5) hk) (fun f' hp => ?_)
  obtain ⟨n', g', d', w', hk2⟩ := hp
  refine fv_step inj hf [2 * i, 2 * i + 1, 2 * a, 2 * a + 1] rfl (fun x hx => by simp only [List.mem_cons, List.not_mem_nil, or_false] at hx; omega) hk2 (fun j hj hjl => ?_) (fun j hj hjl => ?_)
  · simp only [List.mem_cons, List.not_mem_nil, or_false, not_or] at hjl ⊢
    refine ⟨by omega, ?_⟩
    rw [va_up_ne _ _ (show j ≠ i by omega)]
  · simp only [List.mem_cons, List.not_mem_nil, or_false] at hjl
    rcases (show j = i ∨ j = a by omega) with e | e
    · rw [e]; exact ⟨n', g', d', (hk2.1 0 _ rfl).2, (hk2.1 1 _ rfl).2, by rw [va_up_self]; exact w'⟩
    · rw [e]; exact ⟨n1, g1, d1, (hk2.1 2 _ rfl).2, (hk2.1 3 _ rfl).2, by rw [va_up_ne _ _ (show a ≠ i by omega)]; exact w1⟩
set_option maxRecDepth 100000 in
set_option maxHeartbeats 4000000 in
theorem n_divide (l : Launch) (D : va_G) (k : Nat → ClassId) (L : List Nat) (f : Nat → va_E) (adr : Nat → Nat) (N : Nat) (vals : Nat → Int) (inj : ∀ x y, x < 2 * N → y < 2 * N → adr x = adr y → x = y) (hf : fv L k adr N f vals) (i : Nat) (hi : i < N) (a : Nat) (ha : a < N) (b : Nat) (hb : b < N) (neia : i ≠ a) (neib : i ≠ b) (neab : a ≠ b) (ha0 : vals a ≠ 0) (hi5 : (vals i).natAbs < B30 ^ 11) : Mv l y_W_divide (Cond.code y_W_divide c_W_divide 10 none :: G) (rmN 2) D cls (tyl k) L f [.ref (adr (2 * i)), .ref (adr (2 * a)), .ref (adr (2 * b))] (fun f' => fv L k adr N f' (va_up (va_up vals i ((vals i).tmod (vals a))) b ((vals i).tdiv (vals a))) ∧ fo adr N f f') := by
  obtain ⟨m0, ml0, n0, g0, d0, e0, el0, w0⟩ := hf i hi
  obtain ⟨m1, ml1, n1, g1, d1, e1, el1, w1⟩ := hf a ha
  obtain ⟨m2, ml2, n2, g2, d2, e2, el2, w2⟩ := hf b hb
  have hk : kn L f f [(adr (2 * i), cW (adr (2 * i + 1)) n0 g0), (adr (2 * i + 1), cD k d0), (adr (2 * a), cW (adr (2 * a + 1)) n1 g1), (adr (2 * a + 1), cD k d1), (adr (2 * b), cW (adr (2 * b + 1)) n2 g2), (adr (2 * b + 1), cD k d2)] := by
    refine kn_of (fun q hq => ?_) (nd_map (l := [2 * i, 2 * i + 1, 2 * a, 2 * a + 1, 2 * b, 2 * b + 1]) inj (fun x hx => ?_) ?_)
    · simp only [List.mem_cons, List.not_mem_nil, or_false] at hq
      rcases hq with rfl | rfl | rfl | rfl | rfl | rfl
      · exact ⟨m0, e0⟩
      · exact ⟨ml0, el0⟩
      · exact ⟨m1, e1⟩
      · exact ⟨ml1, el1⟩
      · exact ⟨m2, e2⟩
      · exact ⟨ml2, el2⟩
    · simp only [List.mem_cons, List.not_mem_nil, or_false] at hx
      omega
    · simp only [List.nodup_cons, List.mem_cons, List.not_mem_nil, or_false, not_or, List.nodup_nil, not_false_eq_true, and_true]
      omega
  refine Met_mono (m_W_divide l D k L f _ _ n0 _ _ n1 _ _ n2 g0 g1 g2 d0 d1 d2 _ _ w0 w1 ha0 (wr_cnt w0 hi5) w2.2.1 hk) (fun f' hp => ?_)
  obtain ⟨n', g', d', n'', g'', d'', w', w'', hk2⟩ := hp
  refine fv_step inj hf [2 * i, 2 * i + 1, 2 * a, 2 * a + 1, 2 * b, 2 * b + 1] rfl (fun x hx => by simp only [List.mem_cons, List.not_mem_nil, or_false] at hx; omega) hk2 (fun j hj hjl => ?_) (fun j hj hjl => ?_)
  · simp only [List.mem_cons, List.not_mem_nil, or_false, not_or] at hjl ⊢
    refine ⟨by omega, ?_⟩
    rw [va_up_ne _ _ (show j ≠ b by omega), va_up_ne _ _ (show j ≠ i by omega)]
  · simp only [List.mem_cons, List.not_mem_nil, or_false] at hjl
    rcases (show j = i ∨ j = a ∨ j = b by omega) with e | e | e
    · rw [e]; exact ⟨n', g', d', (hk2.1 0 _ rfl).2, (hk2.1 1 _ rfl).2, by rw [va_up_ne _ _ (show i ≠ b by omega), va_up_self]; exact w'⟩
    · rw [e]; exact ⟨n1, g1, d1, (hk2.1 2 _ rfl).2, (hk2.1 3 _ rfl).2, by rw [va_up_ne _ _ (show a ≠ b by omega), va_up_ne _ _ (show a ≠ i by omega)]; exact w1⟩
    · rw [e]; exact ⟨n'', g'', d'', (hk2.1 4 _ rfl).2, (hk2.1 5 _ rfl).2, by rw [va_up_self]; exact w''⟩
end
section
-- ===== Rationals: findCommon =====
abbrev cQ (ln : Nat) (adr : Nat → Nat) (c r : Nat) : va_E := .inr (1, [.ref ln, .ref (adr (2 * 12)), .ref (adr (2 * 13)), .ref (adr (2 * 14)), .ref (adr (2 * 15)), .ref (adr (2 * 16)), .ref (adr (2 * c)), .ref (adr (2 * r))])
abbrev cLn (k : Nat → ClassId) (zl : Nat → Option Nat) : va_E := .inl (k 3, 12, .inr (.inr (.inr (.inr zl))))
/-- where the Rationals' cells lie: the object, its line, and 19 Wholes (the line's 12, then number, product, rowFactor, leaderFactor, quotient, common and rest) -/
def qs (L : List Nat) (adr : Nat → Nat) (qa ln : Nat) (zl : Nat → Option Nat) : Prop := qa ∈ L ∧ ln ∈ L ∧ qa ≠ ln ∧ (∀ x, x < 38 → qa ≠ adr x ∧ ln ≠ adr x) ∧ (∀ x y, x < 2 * 19 → y < 2 * 19 → adr x = adr y → x = y) ∧ ∀ j, j < 12 → zl j = some (adr (2 * j))
theorem qs_kn {L : List Nat} {adr : Nat → Nat} {qa ln : Nat} {zl : Nat → Option Nat} {f : Nat → va_E} {a b : va_E} (h : qs L adr qa ln zl) (h1 : f qa = a) (h2 : f ln = b) : kn L f f [(qa, a), (ln, b)] := by
  refine kn_of (fun q hq => ?_) (by simp; exact h.2.2.1)
  simp only [List.mem_cons, List.not_mem_nil, or_false] at hq
  rcases hq with rfl | rfl
  · exact ⟨h.1, h1⟩
  · exact ⟨h.2.1, h2⟩
def cr (c r : Nat) : Prop := (c = 17 ∧ r = 18) ∨ (c = 18 ∧ r = 17)
/-- the greatest common divisor of the first ones -/
def gd (vals : Nat → Int) : Nat → Nat
  | 0 => 0
  | j + 1 => Nat.gcd (gd vals j) (vals j).natAbs
theorem gd_one {vals : Nat → Int} {j : Nat} (h : gd vals j = 1) : ∀ i, gd vals (j + i) = 1
  | 0 => h
  | i + 1 => by
    show Nat.gcd (gd vals (j + i)) _ = 1
    rw [gd_one h i, Nat.gcd_one_left]
theorem gd_lt {vals : Nat → Int} {B : Nat} (hB : 0 < B) : ∀ j, (∀ i, i < j → (vals i).natAbs < B) → gd vals j < B
  | 0, _ => hB
  | j + 1, h => by
    show Nat.gcd (gd vals j) (vals j).natAbs < B
    by_cases h0 : (vals j).natAbs = 0
    · rw [h0, Nat.gcd_zero_right]; exact gd_lt hB j (fun i hi => h i (by omega))
    · have := Nat.le_of_dvd (by omega) (Nat.gcd_dvd_right (gd vals j) (vals j).natAbs)
      have := h j (by omega)
      omega
section FC
variable {p : Program} {l : Launch} {e : Env} {s : State} {m : MethodId} {args : Array Value} {below : List Frame} {meth : Method} {c : Code} {Q : State → Prop} {D : va_G} {k : Nat → ClassId} {L : List Nat} {H0 : Heap}
set_option maxRecDepth 100000 in
set_option maxHeartbeats 4000000 in
/-- one step of Euclid -/
theorem w_it (S : CallFix p m c c_Q_findCommon 5 s args G R_Q) {adr : Nat → Nat} {qa ln cols j st A B cc rr : Nat} {zl : Nat → Option Nat} (hq : qs L adr qa ln zl) (hcr : cr cc rr) {f : Nat → va_E} {vals : Nat → Int} {H : Heap} {locs : List Loc} {ls : Array Slot} (hf : fv L k adr 19 f vals) (hfq : f qa = cQ ln adr cc rr) (hfl : f ln = cLn k zl) (hA : vals cc = (A : Int)) (hB : vals rr = (B : Int)) (hB0 : B ≠ 0) (hAl : A < B30 ^ 11) (hst : st < 10000) (hl : lv_has ls 5 [(0, .ref qa), (1, .int (nI cols)), (2, .int (nI j)), (3, .int (nI st))]) (hg : gw D cls (tyl k) L s H0 f H locs)
    (kx : ∀ (f' : Nat → va_E) (vals' : Nat → Int) (H : Heap) (locs : List Loc) (ls : Array Slot), fv L k adr 19 f' vals' → f' qa = cQ ln adr rr cc → f' ln = cLn k zl → vals' rr = (B : Int) → vals' cc = ((A % B : Nat) : Int) → (∀ i, i ≠ 16 → i ≠ 17 → i ≠ 18 → vals' i = vals i) → (∀ q, q ≠ qa → (∀ x, x < 2 * 19 → q ≠ adr x) → f' q = f q) → lv_has ls 5 [(0, .ref qa), (1, .int (nI cols)), (2, .int (nI j)), (3, .int (nI (st + 1)))] → gw D cls (tyl k) L s H0 f' H locs → W p l e (rmN 3) s m args below meth c H locs 0 0 Q (F0 m 39 ls [])) :
    W p l e (rmN 3) s m args below meth c H locs 0 0 Q (F0 m 39 ls []) := by
  have hx := S.1
  have hb := S.2.1
  have hown : s.vm.findClass R_Q = some m.cls := S.2.2.2.1
  have hG := S.2.2.2.2
  have hcc : cc < 19 := by unfold cr at hcr; omega
  have hrr : rr < 19 := by unfold cr at hcr; omega
  have hne1 : cc ≠ rr := by unfold cr at hcr; omega
  have hne2 : cc ≠ 16 := by unfold cr at hcr; omega
  have hne3 : rr ≠ 16 := by unfold cr at hcr; omega
  have hw : kw D cls (tyl k) L s H0 f [(qa, cQ ln adr cc rr), (ln, cLn k zl)] H locs := ⟨f, hg, qs_kn hq hfq hfl⟩
  obtain ⟨mr, mlr, nr, gr, dr, er, elr, wrr⟩ := hf rr hrr
  obtain ⟨mc, mlc, nc, gc, dc, ec, elc, wrc⟩ := hf cc hcc
  have hgr : ¬ gr = 0 := by
    rw [wr_g wrr, hB, Int.sign_eq_one_of_pos (by omega)]; decide
  -- METHOD Q_findCommon | loc 0=qa 1=cols 2=j 3=st | ws qa ln | fld qa.line=ln qa.common=cm qa.rest=rs qa.quotient=qu
  refine lv_iload_n hx hb d_Q_findCommon_39 rfl (lv_at hl 3 rfl) ?_
  refine lv_sipush (v := 10000) hx hb d_Q_findCommon_40 (by decide) ?_
  refine lv_icmp_ge (tgt := 97) hx hb d_Q_findCommon_43 (by decide) (fun hc => ?_) (fun hc => ?_)
  · exact absurd hc (nI_ge (b := 10000) hst (by omega))
  · -- STK
    refine lv_aload_n hx hb d_Q_findCommon_46 rfl (lv_at hl 0 rfl) ?_
    refine k_get hx hb hG lay_Q hown hw 0 rfl rfl 7 (by decide) (hG _ fl_Q_37) (fun _ h9 => h9) rfl d_Q_findCommon_47 ?_
    refine g_get hx hb hG lay_W hown hg mr er rfl 2 (by decide) (hG _ fl_Q_105) (fun _ h9 => h9) rfl d_Q_findCommon_50 ?_
    refine lv_if_eq (tgt := 97) hx hb d_Q_findCommon_53 (by decide) (fun hc => ?_) (fun hc => ?_)
    · exact absurd hc hgr
    · -- STK
      refine lv_aload_n hx hb d_Q_findCommon_56 rfl (lv_at hl 0 rfl) ?_
      refine k_get hx hb hG lay_Q hown hw 0 rfl rfl 6 (by decide) (hG _ fl_Q_34) (fun _ h9 => h9) rfl d_Q_findCommon_57 ?_
      refine lv_aload_n hx hb d_Q_findCommon_60 rfl (lv_at hl 0 rfl) ?_
      refine k_get hx hb hG lay_Q hown hw 0 rfl rfl 7 (by decide) (hG _ fl_Q_37) (fun _ h9 => h9) rfl d_Q_findCommon_61 ?_
      refine lv_aload_n hx hb d_Q_findCommon_64 rfl (lv_at hl 0 rfl) ?_
      refine k_get hx hb hG lay_Q hown hw 0 rfl rfl 5 (by decide) (hG _ fl_Q_31) (fun _ h9 => h9) rfl d_Q_findCommon_65 ?_
      have hw := hg
      refine g_ov (c_V (np := 2) S (n_divide l D k L f adr 19 vals hq.2.2.2.2.1 hf cc hcc rr hrr 16 (by omega) hne1 hne2 hne3 (by rw [hB]; omega) (by rw [hA]; exact hAl)) hw (mc) (ec) rfl ml_Q_108 im_W_divide se_W_W_divide in_W co_W_divide (by decide +kernel) rfl ⟨rfl, rfl, by decide, by decide⟩ hl.1 rfl (by simp [Value.category]) d_Q_findCommon_68 ⟨Nat.zero_le _, Nat.zero_le _⟩) hw (fun f1 H locs hp hw => ?_)
      obtain ⟨hf1, ho1⟩ := hp
      have hfq1 : f1 qa = cQ ln adr cc rr := (ho1 qa (fun x hx => (hq.2.2.2.1 x hx).1)).trans hfq
      have hfl1 : f1 ln = cLn k zl := (ho1 ln (fun x hx => (hq.2.2.2.1 x hx).2)).trans hfl
      have hw : kw D cls (tyl k) L s H0 f1 [(qa, cQ ln adr cc rr), (ln, cLn k zl)] H locs := ⟨f1, hw, qs_kn hq hfq1 hfl1⟩
      refine lv_aload_n hx hb d_Q_findCommon_71 rfl (lv_at hl 0 rfl) ?_
      refine k_get hx hb hG lay_Q hown hw 0 rfl rfl 6 (by decide) (hG _ fl_Q_34) (fun _ h9 => h9) rfl d_Q_findCommon_72 ?_
      refine lv_astore hx hb d_Q_findCommon_75 hl (by decide) rfl (fun ls hl => ?_)
      refine lv_aload_n hx hb d_Q_findCommon_77 rfl (lv_at hl 1 rfl) ?_
      refine lv_aload_n hx hb d_Q_findCommon_78 rfl (lv_at hl 1 rfl) ?_
      refine k_get hx hb hG lay_Q hown hw 0 rfl rfl 7 (by decide) (hG _ fl_Q_37) (fun _ h9 => h9) rfl d_Q_findCommon_79 ?_
      refine k_put (ty := .object "LineTables$Whole") hx hb hG lay_Q ft_Q ft_Q_ok fn_Q hown hw 0 rfl rfl 6 (by decide) (hG _ fl_Q_34) (fun _ h9 => h9) rfl (by decide +kernel) rfl rfl (by simp) d_Q_findCommon_82 (fun H locs hw => ?_)
      refine lv_aload_n hx hb d_Q_findCommon_85 rfl (lv_at hl 1 rfl) ?_
      refine lv_aload hx hb d_Q_findCommon_86 (lv_at hl 0 rfl) ?_
      refine k_put (ty := .object "LineTables$Whole") hx hb hG lay_Q ft_Q ft_Q_ok fn_Q hown hw 0 rfl rfl 7 (by decide) (hG _ fl_Q_37) (fun _ h9 => h9) rfl (by decide +kernel) rfl rfl (by simp) d_Q_findCommon_88 (fun H locs hw => ?_)
      refine lv_iinc (k := 4) hx hb d_Q_findCommon_91 hl rfl (ii1 st) (by decide) rfl (fun ls hl => ?_)
      refine lv_goto (tgt := 39) hx hb d_Q_findCommon_94 (by decide) ?_
      have hl := lv_sub hl [2, 3, 4, 0] rfl
      obtain ⟨f2, hw, hk2⟩ := hw
      have hoff : ∀ q, q ≠ qa → q ≠ ln → f2 q = f1 q := fun q h1 h2 => kn_off hk2 (by simp; exact ⟨h1, h2⟩)
      have hfl2 : f2 ln = cLn k zl := (hk2.1 1 _ rfl).2
      have hfq2 : f2 qa = cQ ln adr rr cc := (hk2.1 0 _ rfl).2
      have hf2 : fv L k adr 19 f2 (va_up (va_up vals cc ((vals cc).tmod (vals rr))) 16 ((vals cc).tdiv (vals rr))) := by
        intro i hi
        obtain ⟨q1, q2, n, g, d, q3, q4, q5⟩ := hf1 i hi
        refine ⟨q1, q2, n, g, d, ?_, ?_, q5⟩
        · rw [hoff _ (fun h => (hq.2.2.2.1 (2 * i) (by omega)).1 h.symm) (fun h => (hq.2.2.2.1 (2 * i) (by omega)).2 h.symm)]; exact q3
        · rw [hoff _ (fun h => (hq.2.2.2.1 (2 * i + 1) (by omega)).1 h.symm) (fun h => (hq.2.2.2.1 (2 * i + 1) (by omega)).2 h.symm)]; exact q4
      refine kx f2 _ H locs ls hf2 hfq2 hfl2 ?_ ?_ (fun i h1 h2 h3 => ?_) (fun q h1 h2 => ?_) hl hw
      · rw [va_up_ne _ _ hne3, va_up_ne _ _ (Ne.symm hne1)]; exact hB
      · rw [va_up_ne _ _ hne2, va_up_self, hA, hB]; rfl
      · rw [va_up_ne _ _ h1, va_up_ne _ _ (by unfold cr at hcr; omega)]
      · by_cases e : q = ln
        · rw [e, hfl2, hfl]
        · rw [hoff q h1 e]; exact ho1 q h2
set_option maxRecDepth 100000 in
set_option maxHeartbeats 4000000 in
theorem w_ex (S : CallFix p m c c_Q_findCommon 5 s args G R_Q) {adr : Nat → Nat} {qa ln cols j st cc rr : Nat} {zl : Nat → Option Nat} (hq : qs L adr qa ln zl) (hcr : cr cc rr) {f : Nat → va_E} {vals : Nat → Int} {H : Heap} {locs : List Loc} {ls : Array Slot} (hf : fv L k adr 19 f vals) (hfq : f qa = cQ ln adr cc rr) (hfl : f ln = cLn k zl) (hB : vals rr = 0) (hst : st < 10000) (hl : lv_has ls 5 [(0, .ref qa), (1, .int (nI cols)), (2, .int (nI j)), (3, .int (nI st))]) (hg : gw D cls (tyl k) L s H0 f H locs) (kx : W p l e (rmN 3) s m args below meth c H locs 0 0 Q (F0 m 97 ls [])) : W p l e (rmN 3) s m args below meth c H locs 0 0 Q (F0 m 39 ls []) := by
  have hx := S.1
  have hb := S.2.1
  have hown : s.vm.findClass R_Q = some m.cls := S.2.2.2.1
  have hG := S.2.2.2.2
  have hrr : rr < 19 := by unfold cr at hcr; omega
  have hw : kw D cls (tyl k) L s H0 f [(qa, cQ ln adr cc rr), (ln, cLn k zl)] H locs := ⟨f, hg, qs_kn hq hfq hfl⟩
  obtain ⟨mr, mlr, nr, gr, dr, er, elr, wrr⟩ := hf rr hrr
  have hgr : gr = 0 := by rw [wr_g wrr, hB]; rfl
  -- METHOD Q_findCommon | loc 0=qa 1=cols 2=j 3=st | ws qa ln | fld qa.line=ln qa.common=cm qa.rest=rs qa.quotient=qu
  refine lv_iload_n hx hb d_Q_findCommon_39 rfl (lv_at hl 3 rfl) ?_
  refine lv_sipush (v := 10000) hx hb d_Q_findCommon_40 (by decide) ?_
  refine lv_icmp_ge (tgt := 97) hx hb d_Q_findCommon_43 (by decide) (fun hc => ?_) (fun hc => ?_)
  · exact absurd hc (nI_ge (b := 10000) hst (by omega))
  · -- STK
    refine lv_aload_n hx hb d_Q_findCommon_46 rfl (lv_at hl 0 rfl) ?_
    refine k_get hx hb hG lay_Q hown hw 0 rfl rfl 7 (by decide) (hG _ fl_Q_37) (fun _ h9 => h9) rfl d_Q_findCommon_47 ?_
    refine g_get hx hb hG lay_W hown hg mr er rfl 2 (by decide) (hG _ fl_Q_105) (fun _ h9 => h9) rfl d_Q_findCommon_50 ?_
    refine lv_if_eq (tgt := 97) hx hb d_Q_findCommon_53 (by decide) (fun hc => ?_) (fun hc => ?_)
    · exact kx
    · exact absurd hgr hc
set_option maxRecDepth 100000 in
set_option maxHeartbeats 4000000 in
theorem w_euc (S : CallFix p m c c_Q_findCommon 5 s args G R_Q) {adr : Nat → Nat} {qa ln cols j : Nat} {zl : Nat → Option Nat} (hq : qs L adr qa ln zl) :
    ∀ (M A B st cc rr : Nat) (f : Nat → va_E) (vals : Nat → Int) (H : Heap) (locs : List Loc) (ls : Array Slot), cr cc rr → fv L k adr 19 f vals → f qa = cQ ln adr cc rr → f ln = cLn k zl → vals cc = (A : Int) → vals rr = (B : Int) → B ≤ A → A * B < 2 ^ M → A < B30 ^ 11 → st + M + 1 ≤ 10000 → lv_has ls 5 [(0, .ref qa), (1, .int (nI cols)), (2, .int (nI j)), (3, .int (nI st))] → gw D cls (tyl k) L s H0 f H locs →
    (∀ (f' : Nat → va_E) (vals' : Nat → Int) (cc rr st : Nat) (H : Heap) (locs : List Loc) (ls : Array Slot), cr cc rr → fv L k adr 19 f' vals' → f' qa = cQ ln adr cc rr → f' ln = cLn k zl → vals' cc = ((Nat.gcd A B : Nat) : Int) → (∀ i, i ≠ 16 → i ≠ 17 → i ≠ 18 → vals' i = vals i) → (∀ q, q ≠ qa → (∀ x, x < 2 * 19 → q ≠ adr x) → f' q = f q) → lv_has ls 5 [(0, .ref qa), (1, .int (nI cols)), (2, .int (nI j)), (3, .int (nI st))] → gw D cls (tyl k) L s H0 f' H locs → W p l e (rmN 3) s m args below meth c H locs 0 0 Q (F0 m 97 ls [])) → W p l e (rmN 3) s m args below meth c H locs 0 0 Q (F0 m 39 ls []) := by
  intro M
  induction M with
  | zero =>
    intro A B st cc rr f vals H locs ls hcr hf hfq hfl hA hB hBA hAB hAl hst hl hg kx
    have hB0 : B = 0 := by
      rw [Nat.pow_zero] at hAB
      have h0 : A * B = 0 := by omega
      rcases Nat.mul_eq_zero.mp h0 with h | h <;> omega
    subst hB0
    exact w_ex S hq hcr hf hfq hfl hB (by omega) hl hg (kx f vals cc rr st H locs ls hcr hf hfq hfl (by rw [Nat.gcd_zero_right]; exact hA) (fun _ _ _ _ => rfl) (fun _ _ _ => rfl) hl hg)
  | succ M ih =>
    intro A B st cc rr f vals H locs ls hcr hf hfq hfl hA hB hBA hAB hAl hst hl hg kx
    by_cases hB0 : B = 0
    · subst hB0
      exact w_ex S hq hcr hf hfq hfl hB (by omega) hl hg (kx f vals cc rr st H locs ls hcr hf hfq hfl (by rw [Nat.gcd_zero_right]; exact hA) (fun _ _ _ _ => rfl) (fun _ _ _ => rfl) hl hg)
    · refine w_it S hq hcr hf hfq hfl hA hB hB0 hAl (by omega) hl hg (fun f1 vals1 H locs ls hf1 hfq1 hfl1 hB1 hA1 hv1 ho1 hl hg => ?_)
      have hmod := Nat.mod_lt A (show 0 < B by omega)
      have hdm := Nat.div_add_mod A B
      have hdiv : 1 ≤ A / B := (Nat.le_div_iff_mul_le (by omega)).mpr (by omega)
      have h2 : 2 * (A % B) ≤ A := by
        have : B * 1 ≤ B * (A / B) := Nat.mul_le_mul_left _ hdiv
        omega
      have h3 : B * (A % B) < 2 ^ M := by
        have h4 : B * (2 * (A % B)) ≤ B * A := Nat.mul_le_mul_left _ h2
        rw [Nat.mul_left_comm, Nat.mul_comm B A] at h4
        rw [Nat.pow_succ] at hAB
        omega
      refine ih B (A % B) (st + 1) rr cc f1 vals1 H locs ls (by unfold cr at hcr ⊢; omega) hf1 hfq1 hfl1 hB1 hA1 (by omega) h3 (by omega) (by omega) hl hg (fun f2 vals2 c2 r2 st2 H locs ls hcr2 hf2 hfq2 hfl2 hv2 hvv2 ho2 hl hg => kx f2 vals2 c2 r2 st2 H locs ls hcr2 hf2 hfq2 hfl2 ?_ (fun i h1 h2 h3 => (hvv2 i h1 h2 h3).trans (hv1 i h1 h2 h3)) (fun q h1 h2 => (ho2 q h1 h2).trans (ho1 q h1 h2)) hl hg)
      rw [hv2, Nat.gcd_comm A B, Nat.gcd_rec B A, Nat.gcd_comm]
set_option maxRecDepth 100000 in
set_option maxHeartbeats 4000000 in
theorem w_eucG (S : CallFix p m c c_Q_findCommon 5 s args G R_Q) {adr : Nat → Nat} {qa ln cols j A B cc rr : Nat} {zl : Nat → Option Nat} (hq : qs L adr qa ln zl) {f : Nat → va_E} {vals : Nat → Int} {H : Heap} {locs : List Loc} {ls : Array Slot} (hcr : cr cc rr) (hf : fv L k adr 19 f vals) (hfq : f qa = cQ ln adr cc rr) (hfl : f ln = cLn k zl) (hA : vals cc = (A : Int)) (hB : vals rr = (B : Int)) (hAl : A < B30 ^ 11) (hBl : B < B30 ^ 11) (hl : lv_has ls 5 [(0, .ref qa), (1, .int (nI cols)), (2, .int (nI j)), (3, .int (nI 0))]) (hg : gw D cls (tyl k) L s H0 f H locs) (kx : ∀ (f' : Nat → va_E) (vals' : Nat → Int) (cc rr st : Nat) (H : Heap) (locs : List Loc) (ls : Array Slot), cr cc rr → fv L k adr 19 f' vals' → f' qa = cQ ln adr cc rr → f' ln = cLn k zl → vals' cc = ((Nat.gcd A B : Nat) : Int) → (∀ i, i ≠ 16 → i ≠ 17 → i ≠ 18 → vals' i = vals i) → (∀ q, q ≠ qa → (∀ x, x < 2 * 19 → q ≠ adr x) → f' q = f q) → lv_has ls 5 [(0, .ref qa), (1, .int (nI cols)), (2, .int (nI j)), (3, .int (nI st))] → gw D cls (tyl k) L s H0 f' H locs → W p l e (rmN 3) s m args below meth c H locs 0 0 Q (F0 m 97 ls [])) : W p l e (rmN 3) s m args below meth c H locs 0 0 Q (F0 m 39 ls []) := by
  have hprod : A * B < 2 ^ 660 := by
    have h1 : A * B < B30 ^ 11 * B30 ^ 11 := Nat.mul_lt_mul'' hAl hBl
    have h2 : B30 ^ 11 * B30 ^ 11 = 2 ^ 660 := by decide +kernel
    omega
  by_cases hBA : B ≤ A
  · exact w_euc S hq 660 A B 0 cc rr f vals H locs ls hcr hf hfq hfl hA hB hBA hprod hAl (by omega) hl hg kx
  · refine w_it S hq hcr hf hfq hfl hA hB (by omega) hAl (by omega) hl hg (fun f1 vals1 H locs ls hf1 hfq1 hfl1 hB1 hA1 hv1 ho1 hl hg => ?_)
    rw [Nat.mod_eq_of_lt (by omega)] at hA1
    refine w_euc S hq 660 B A 1 rr cc f1 vals1 H locs ls (by unfold cr at hcr ⊢; omega) hf1 hfq1 hfl1 hB1 hA1 (by omega) (by rw [Nat.mul_comm]; exact hprod) hBl (by omega) hl hg (fun f2 vals2 c2 r2 st2 H locs ls hcr2 hf2 hfq2 hfl2 hv2 hvv2 ho2 hl hg => kx f2 vals2 c2 r2 st2 H locs ls hcr2 hf2 hfq2 hfl2 ?_ (fun i h1 h2 h3 => (hvv2 i h1 h2 h3).trans (hv1 i h1 h2 h3)) (fun q h1 h2 => (ho2 q h1 h2).trans (ho1 q h1 h2)) hl hg)
    rw [hv2, Nat.gcd_comm]
set_option maxRecDepth 100000 in
set_option maxHeartbeats 4000000 in
theorem w_fc (S : CallFix p m c c_Q_findCommon 5 s args G R_Q) (hr : meth.sig.returnType = none) (hlocks : meth.locks = false) {adr : Nat → Nat} {qa ln cols : Nat} {zl : Nat → Option Nat} (hq : qs L adr qa ln zl) (hcols : cols ≤ 12) {vals : Nat → Int} {f0 : Nat → va_E} (hbd : ∀ i, i < 12 → (vals i).natAbs < B30 ^ 11) :
    ∀ (t j cc rr : Nat) (f : Nat → va_E) (cur : Nat → Int) (H : Heap) (locs : List Loc) (ls : Array Slot), j + t = cols → cr cc rr → fv L k adr 19 f cur → f qa = cQ ln adr cc rr → f ln = cLn k zl → cur cc = ((gd vals j : Nat) : Int) → (∀ i, i ≠ 16 → i ≠ 17 → i ≠ 18 → cur i = vals i) → (∀ q, q ≠ qa → (∀ x, x < 2 * 19 → q ≠ adr x) → f q = f0 q) → lv_has ls 5 [(0, .ref qa), (1, .int (nI cols)), (2, .int (nI j))] → gw D cls (tyl k) L s s.heap f H locs →
    W p l e (rmN 3) s m args below meth c H locs 0 0 (MQ below (va_Qv (fun f' => ∃ (c1 r1 : Nat) (vals1 : Nat → Int), cr c1 r1 ∧ fv L k adr 19 f' vals1 ∧ f' qa = cQ ln adr c1 r1 ∧ f' ln = cLn k zl ∧ vals1 c1 = ((gd vals cols : Nat) : Int) ∧ (∀ i, i ≠ 16 → i ≠ 17 → i ≠ 18 → vals1 i = vals i) ∧ ∀ q, q ≠ qa → (∀ x, x < 2 * 19 → q ≠ adr x) → f' q = f0 q) (mst D cls (tyl k) L) (fun q => q ∈ L)) args s 0 0 (fun q => q ∈ L)) (F0 m 9 ls []) := by
  have hx := S.1
  have hb := S.2.1
  have hown : s.vm.findClass R_Q = some m.cls := S.2.2.2.1
  have hG := S.2.2.2.2
  intro t
  induction t with
  | zero =>
    intro j cc rr f cur H locs ls hj hcr hf hfq hfl hgc hcv ho hl hg
    have hj : j = cols := by omega
    subst hj
    -- METHOD Q_findCommon | loc 0=qa 1=cols 2=j | ws qa ln | fld qa.line=ln qa.common=cm qa.rest=rs qa.quotient=qu
    refine lv_iload_n hx hb d_Q_findCommon_9 rfl (lv_at hl 2 rfl) ?_
    refine lv_iload_n hx hb d_Q_findCommon_10 rfl (lv_at hl 1 rfl) ?_
    refine lv_icmp_ge (tgt := 103) hx hb d_Q_findCommon_11 (by decide) (fun hc => ?_) (fun hc => ?_)
    · exact g_retv hx hb hr hlocks hg ⟨cc, rr, cur, hcr, hf, hfq, hfl, hgc, hcv, ho⟩ d_Q_findCommon_103
    · exact absurd (nI_le (Nat.le_refl _) (by omega)) hc
  | succ t ih =>
    intro j cc rr f cur H locs ls hj hcr hf hfq hfl hgc hcv ho hl hg
    have hcc : cc < 19 := by unfold cr at hcr; omega
    have hrr : rr < 19 := by unfold cr at hcr; omega
    have hne1 : rr ≠ j := by unfold cr at hcr; omega
    have hne2 : cc ≠ rr := by unfold cr at hcr; omega
    obtain ⟨mc, mlc, nc, gc, dc, ec, elc, wrc⟩ := hf cc hcc
    obtain ⟨mr, mlr, nr, gr, dr, er, elr, wrr⟩ := hf rr hrr
    have hw : kw D cls (tyl k) L s s.heap f [(qa, cQ ln adr cc rr), (ln, cLn k zl)] H locs := ⟨f, hg, qs_kn hq hfq hfl⟩
    have hkc : kn L f f [(adr (2 * cc), cW (adr (2 * cc + 1)) nc gc), (adr (2 * cc + 1), cD k dc)] := by
      refine kn_of (fun q hq => ?_) (nd_map (l := [2 * cc, 2 * cc + 1]) hq.2.2.2.2.1 (fun x hx => ?_) ?_)
      · simp only [List.mem_cons, List.not_mem_nil, or_false] at hq
        rcases hq with rfl | rfl
        · exact ⟨mc, ec⟩
        · exact ⟨mlc, elc⟩
      · simp only [List.mem_cons, List.not_mem_nil, or_false] at hx
        omega
      · simp
    -- METHOD Q_findCommon | loc 0=qa 1=cols 2=j | ws qa ln | fld qa.line=ln qa.common=cm qa.rest=rs qa.quotient=qu
    refine lv_iload_n hx hb d_Q_findCommon_9 rfl (lv_at hl 2 rfl) ?_
    refine lv_iload_n hx hb d_Q_findCommon_10 rfl (lv_at hl 1 rfl) ?_
    refine lv_icmp_ge (tgt := 103) hx hb d_Q_findCommon_11 (by decide) (fun hc => ?_) (fun hc => ?_)
    · exact absurd hc (nI_ge (by omega) (by omega))
    · -- STK
      refine lv_aload_n hx hb d_Q_findCommon_14 rfl (lv_at hl 0 rfl) ?_
      refine k_get hx hb hG lay_Q hown hw 0 rfl rfl 6 (by decide) (hG _ fl_Q_34) (fun _ h9 => h9) rfl d_Q_findCommon_15 ?_
      have hw := hg
      refine g_oi (c_V (np := 0) S (m_W_isOne l D k L f _ _ nc gc dc _ hkc wrc) hw (mc) (ec) rfl ml_Q_98 im_W_isOne se_W_W_isOne in_W co_W_isOne (by decide +kernel) rfl ⟨rfl, rfl, by decide, by decide⟩ hl.1 rfl (by simp [Value.category]) d_Q_findCommon_18 ⟨Nat.zero_le _, Nat.zero_le _⟩) hw (fun r1 f1 H locs hp hw2 => ?_)
      rw [hp.1] at hw2
      have hg := hw2
      refine l_top hp.2 ?_
      rw [hgc]
      refine lv_if_ne (tgt := 103) hx hb d_Q_findCommon_21 (by decide) (fun hc => ?_) (fun hc => ?_)
      · have h1 : gd vals j = 1 := Classical.byContradiction fun h => hc (by rw [if_neg (by omega)])
        have h2 := gd_one h1 (cols - j)
        rw [show j + (cols - j) = cols by omega] at h2
        exact g_retv hx hb hr hlocks hg ⟨cc, rr, cur, hcr, hf, hfq, hfl, by rw [hgc, h1, h2], hcv, ho⟩ d_Q_findCommon_103
      · have hw : kw D cls (tyl k) L s s.heap f [(qa, cQ ln adr cc rr), (ln, cLn k zl)] H locs := ⟨f, hg, qs_kn hq hfq hfl⟩
        refine lv_aload_n hx hb d_Q_findCommon_24 rfl (lv_at hl 0 rfl) ?_
        refine k_get hx hb hG lay_Q hown hw 0 rfl rfl 7 (by decide) (hG _ fl_Q_37) (fun _ h9 => h9) rfl d_Q_findCommon_25 ?_
        refine lv_aload_n hx hb d_Q_findCommon_28 rfl (lv_at hl 0 rfl) ?_
        refine k_get hx hb hG lay_Q hown hw 0 rfl rfl 0 (by decide) (hG _ fl_Q_11) (fun _ h9 => h9) rfl d_Q_findCommon_29 ?_
        refine lv_iload_n hx hb d_Q_findCommon_32 rfl (lv_at hl 2 rfl) ?_
        refine k_aald hx hb hw 1 3 rfl rfl (j) (rfl) (by omega) (by first | decide | omega) (hq.2.2.2.2.2 j (by omega)) d_Q_findCommon_33 ?_
        have hw := hg
        refine g_ov (c_V (np := 1) S (n_setSize l D k L f adr 19 cur hq.2.2.2.2.1 hf rr hrr j (by omega) hne1) hw (mr) (er) rfl ml_Q_102 im_W_setSize se_W_W_setSize in_W co_W_setSize (by decide +kernel) rfl ⟨rfl, rfl, by decide, by decide⟩ hl.1 rfl (by simp [Value.category]) d_Q_findCommon_34 ⟨Nat.zero_le _, Nat.zero_le _⟩) hw (fun f3 H locs hp3 hw3 => ?_)
        obtain ⟨hf3, ho3⟩ := hp3
        have hg := hw3
        refine lv_iconst (v := 0) hx hb d_Q_findCommon_37 (by decide) ?_
        refine lv_istore_n hx hb d_Q_findCommon_38 rfl hl (by decide) rfl (fun ls hl => ?_)
        have hl := lv_sub hl [1, 2, 3, 0] rfl
        have hjv : cur j = vals j := hcv j (by omega) (by omega) (by omega)
        have hAl : gd vals j < B30 ^ 11 := gd_lt (Nat.pow_pos (by decide)) j (fun i hi => hbd i (by omega))
        refine w_eucG (A := gd vals j) (B := (vals j).natAbs) S hq hcr hf3 ((ho3 qa (fun x hx => (hq.2.2.2.1 x hx).1)).trans hfq) ((ho3 ln (fun x hx => (hq.2.2.2.1 x hx).2)).trans hfl) (by rw [va_up_ne _ _ hne2]; exact hgc) (by rw [va_up_self, hjv]) hAl (hbd j (by omega)) hl hg (fun f4 vals4 c4 r4 st4 H locs ls hcr4 hf4 hfq4 hfl4 hv4 hvv4 ho4 hl hg => ?_)
        -- METHOD Q_findCommon | loc 0=qa 1=cols 2=j 3=st | ws qa ln | fld qa.line=ln qa.common=cm qa.rest=rs qa.quotient=qu
        refine lv_iinc (k := 2) hx hb d_Q_findCommon_97 hl rfl (ii1 j) (by decide) rfl (fun ls hl => ?_)
        refine lv_goto (tgt := 9) hx hb d_Q_findCommon_100 (by decide) ?_
        have hl := lv_sub hl [1, 2, 0] rfl
        refine ih (j + 1) c4 r4 f4 vals4 H locs ls (by omega) hcr4 hf4 hfq4 hfl4 hv4 (fun i h1 h2 h3 => ?_) (fun q h1 h2 => ?_) hl hg
        · rw [hvv4 i h1 h2 h3, va_up_ne _ _ (by unfold cr at hcr; omega)]; exact hcv i h1 h2 h3
        · rw [ho4 q h1 h2, ho3 q h2]; exact ho q h1 h2
end FC
set_option maxRecDepth 100000 in
set_option maxHeartbeats 4000000 in
/-- findCommon(columns): common becomes the greatest common divisor of the line's first numbers -/
theorem m_Q_findCommon (l : Launch) (D : va_G) (k : Nat → ClassId) (L : List Nat) (f0 : Nat → va_E) (adr : Nat → Nat) (qa ln cols cc rr : Nat) (zl : Nat → Option Nat) (vals : Nat → Int) (hq : qs L adr qa ln zl) (hcr : cr cc rr) (hcols : cols ≤ 12) (hf : fv L k adr 19 f0 vals) (hfq : f0 qa = cQ ln adr cc rr) (hfl : f0 ln = cLn k zl) (hbd : ∀ i, i < 12 → (vals i).natAbs < B30 ^ 11) : Mv l y_Q_findCommon (Cond.code y_Q_findCommon c_Q_findCommon 5 none :: G) (rmN 3) D cls (tyl k) L f0 [.ref qa, .int (nI cols)] (fun f' => ∃ (c1 r1 : Nat) (vals1 : Nat → Int), cr c1 r1 ∧ fv L k adr 19 f' vals1 ∧ f' qa = cQ ln adr c1 r1 ∧ f' ln = cLn k zl ∧ vals1 c1 = ((gd vals cols : Nat) : Int) ∧ (∀ i, i ≠ 16 → i ≠ 17 → i ≠ 18 → vals1 i = vals i) ∧ ∀ q, q ≠ qa → (∀ x, x < 2 * 19 → q ≠ adr x) → f' q = f0 q) := by
  -- METHOD Q_findCommon | loc 0=qa 1=cols | ws qa ln | fld qa.line=ln qa.common=cm qa.rest=rs qa.quotient=qu
  refine mk_met (by decide) (Nat.le_of_ble_eq_true rfl) (fun p e s m below meth c ls S hr hlocks hw hl => ?_)
  have hx := S.1
  have hb := S.2.1
  have hown : s.vm.findClass R_Q = some m.cls := S.2.2.2.1
  have hG := S.2.2.2.2
  have hl : lv_has ls 5 [(0, .ref qa), (1, .int (nI cols))] := hl
  have hg := hw
  have hcc : cc < 19 := by unfold cr at hcr; omega
  obtain ⟨mc, mlc, nc, gc, dc, ec, elc, wrc⟩ := hf cc hcc
  have hw : kw D cls (tyl k) L s s.heap f0 [(qa, cQ ln adr cc rr), (ln, cLn k zl)] s.heap [] := ⟨f0, hg, qs_kn hq hfq hfl⟩
  refine lv_aload_n hx hb d_Q_findCommon_0 rfl (lv_at hl 0 rfl) ?_
  refine k_get hx hb hG lay_Q hown hw 0 rfl rfl 6 (by decide) (hG _ fl_Q_34) (fun _ h9 => h9) rfl d_Q_findCommon_1 ?_
  have hw := hg
  refine g_ov (c_V (np := 0) S (n_setZero l D k L f0 adr 19 vals hq.2.2.2.2.1 hf cc hcc) hw (mc) (ec) rfl ml_Q_95 im_W_setZero se_W_W_setZero in_W co_W_setZero (by decide +kernel) rfl ⟨rfl, rfl, by decide, by decide⟩ hl.1 rfl (by simp [Value.category]) d_Q_findCommon_4 ⟨Nat.zero_le _, Nat.zero_le _⟩) hw (fun f1 H locs hp hw2 => ?_)
  obtain ⟨hf1, ho1⟩ := hp
  refine lv_iconst (v := 0) hx hb d_Q_findCommon_7 (by decide) ?_
  refine lv_istore_n hx hb d_Q_findCommon_8 rfl hl (by decide) rfl (fun ls hl => ?_)
  have hl := lv_sub hl [1, 2, 0] rfl
  exact w_fc S hr hlocks hq hcols hbd cols 0 cc rr f1 _ H locs ls (by omega) hcr hf1 ((ho1 qa (fun x hx => (hq.2.2.2.1 x hx).1)).trans hfq) ((ho1 ln (fun x hx => (hq.2.2.2.1 x hx).2)).trans hfl) (by rw [va_up_self]; rfl) (fun i h1 h2 h3 => va_up_ne _ _ (by unfold cr at hcr; omega)) (fun q h1 h2 => ho1 q h2) hl hw2
end
section
-- ===== numbers of a table and the family; storeLine =====
set_option maxRecDepth 100000 in
set_option maxHeartbeats 4000000 in
theorem m_W_divide0 (l : Launch) (D : va_G) (k : Nat → ClassId) (L : List Nat) (f : Nat → va_E) (x xl nx o ol q ql nq0 : Nat) (gx go gq0 : Int32) (dx dd dq : Nat → Nat) (hk : kn L f f [(x, cW xl nx gx), (xl, cD k dx), (o, cW ol 0 go), (ol, cD k dd), (q, cW ql nq0 gq0), (ql, cD k dq)]) : Mv l y_W_divide (Cond.code y_W_divide c_W_divide 10 none :: G) (rmN 2) D cls (tyl k) L f [.ref x, .ref o, .ref q] (fun f' => kn L f f' [(x, cW xl nx gx), (xl, cD k dx), (o, cW ol 0 go), (ol, cD k dd), (q, cW ql 0 0), (ql, cD k dq)]) := by
  -- METHOD W_divide | loc 0=x 1=o 2=q | ws x xl o ol q ql | fld x.limbs=xl o.limbs=ol q.limbs=ql
  refine mk_met (by decide) (Nat.le_of_ble_eq_true rfl) (fun p e s m below meth c ls S hr hlocks hw hl => ?_)
  have hx := S.1
  have hb := S.2.1
  have hown : s.vm.findClass R_W = some m.cls := S.2.2.2.1
  have hG := S.2.2.2.2
  have hl : lv_has ls 10 [(0, .ref x), (1, .ref o), (2, .ref q)] := hl
  have hg := hw
  have nd := kn_nd hk
  simp only [List.map_cons, List.map_nil, List.nodup_cons, List.mem_cons, List.not_mem_nil, or_false, not_or] at nd
  obtain ⟨⟨n01, n02, n03, n04, n05⟩, ⟨n12, n13, n14, n15⟩, ⟨n23, n24, n25⟩, ⟨n34, n35⟩, n45, -⟩ := nd
  have hw : kw D cls (tyl k) L s s.heap f [(x, cW xl nx gx), (xl, cD k dx), (o, cW ol 0 go), (ol, cD k dd), (q, cW ql nq0 gq0), (ql, cD k dq)] s.heap [] := ⟨f, hw, hk⟩
  refine lv_aload_n hx hb d_W_divide_0 rfl (lv_at hl 1 rfl) ?_
  refine k_get hx hb hG lay_W hown hw 2 rfl rfl 1 (by decide) (hG _ fl_W_15) (fun _ h9 => h9) rfl d_W_divide_1 ?_
  refine lv_istore_n hx hb d_W_divide_4 rfl hl (by decide) rfl (fun ls hl => ?_)
  refine lv_aload_n hx hb d_W_divide_5 rfl (lv_at hl 3 rfl) ?_
  have hw := hg
  refine g_ov (c_V (np := 0) S (m_W_setZero l D k L f q ql nq0 gq0 (kn_sub hk [4] rfl rfl)) hw ((hk.1 4 _ rfl).1) ((hk.1 4 _ rfl).2) rfl ml_W_34 im_W_setZero se_W_W_setZero in_W co_W_setZero (by decide +kernel) rfl ⟨rfl, rfl, by decide, by decide⟩ hl.1 rfl (by simp [Value.category]) d_W_divide_6 ⟨Nat.zero_le _, Nat.zero_le _⟩) hw (fun f1 H locs hp hw => ?_)
  have hk1 : kn L f f1 [(x, cW xl nx gx), (xl, cD k dx), (o, cW ol 0 go), (ol, cD k dd), (q, cW ql 0 0), (ql, cD k dq)] := by
    refine kn_join hk hp (by simp) rfl (fun q hq => ?_)
    simp only [List.mem_cons, List.not_mem_nil, or_false] at hq
    rcases hq with rfl | rfl | rfl | rfl | rfl | rfl
    · rw [kn_off hp (by simp; exact n04)]; exact (hk.1 0 _ rfl).2
    · rw [kn_off hp (by simp; exact n14)]; exact (hk.1 1 _ rfl).2
    · rw [kn_off hp (by simp; exact n24)]; exact (hk.1 2 _ rfl).2
    · rw [kn_off hp (by simp; exact n34)]; exact (hk.1 3 _ rfl).2
    · exact (hp.1 0 _ rfl).2
    · rw [kn_off hp (by simp; exact Ne.symm n45)]; exact (hk.1 5 _ rfl).2
  refine lv_iload_n hx hb d_W_divide_9 rfl (lv_at hl 0 rfl) ?_
  refine lv_if_eq (tgt := 30) hx hb d_W_divide_10 (by decide) (fun hc => ?_) (fun hc => ?_)
  · exact g_retv hx hb hr hlocks hw hk1 d_W_divide_30
  · exact absurd rfl hc
set_option maxRecDepth 100000 in
set_option maxHeartbeats 4000000 in
theorem n_divide0 (l : Launch) (D : va_G) (k : Nat → ClassId) (L : List Nat) (f : Nat → va_E) (adr : Nat → Nat) (N : Nat) (vals : Nat → Int) (inj : ∀ x y, x < 2 * N → y < 2 * N → adr x = adr y → x = y) (hf : fv L k adr N f vals) (i : Nat) (hi : i < N) (a : Nat) (ha : a < N) (b : Nat) (hb : b < N) (neia : i ≠ a) (neib : i ≠ b) (neab : a ≠ b) (ha0 : vals a = 0) : Mv l y_W_divide (Cond.code y_W_divide c_W_divide 10 none :: G) (rmN 2) D cls (tyl k) L f [.ref (adr (2 * i)), .ref (adr (2 * a)), .ref (adr (2 * b))] (fun f' => fv L k adr N f' (va_up vals b (0)) ∧ fo adr N f f') := by
  obtain ⟨m0, ml0, n0, g0, d0, e0, el0, w0⟩ := hf i hi
  obtain ⟨m1, ml1, n1, g1, d1, e1, el1, w1⟩ := hf a ha
  obtain ⟨m2, ml2, n2, g2, d2, e2, el2, w2⟩ := hf b hb
  have hk : kn L f f [(adr (2 * i), cW (adr (2 * i + 1)) n0 g0), (adr (2 * i + 1), cD k d0), (adr (2 * a), cW (adr (2 * a + 1)) n1 g1), (adr (2 * a + 1), cD k d1), (adr (2 * b), cW (adr (2 * b + 1)) n2 g2), (adr (2 * b + 1), cD k d2)] := by
    refine kn_of (fun q hq => ?_) (nd_map (l := [2 * i, 2 * i + 1, 2 * a, 2 * a + 1, 2 * b, 2 * b + 1]) inj (fun x hx => ?_) ?_)
    · simp only [List.mem_cons, List.not_mem_nil, or_false] at hq
      rcases hq with rfl | rfl | rfl | rfl | rfl | rfl
      · exact ⟨m0, e0⟩
      · exact ⟨ml0, el0⟩
      · exact ⟨m1, e1⟩
      · exact ⟨ml1, el1⟩
      · exact ⟨m2, e2⟩
      · exact ⟨ml2, el2⟩
    · simp only [List.mem_cons, List.not_mem_nil, or_false] at hx
      omega
    · simp only [List.nodup_cons, List.mem_cons, List.not_mem_nil, or_false, not_or, List.nodup_nil, not_false_eq_true, and_true]
      omega
  have hn1 : n1 = 0 := by
    rcases w1.2.2 with ⟨h, -⟩ | ⟨h1, h2, h3⟩
    · exact h
    · exfalso
      obtain ⟨m9, rfl⟩ : ∃ m9, n1 = m9 + 1 := ⟨n1 - 1, by omega⟩
      have h5 := cd_ge (b := B30) (n := m9) (d := d1) h2
      have h6 : 0 < B30 ^ m9 := Nat.pow_pos (by decide)
      rcases h3 with ⟨-, h3⟩ | ⟨-, h3⟩ <;> omega
  subst hn1
  refine Met_mono (m_W_divide0 l D k L f _ _ n0 _ _ _ _ n2 g0 g1 g2 d0 d1 d2 hk) (fun f' hp => ?_)
  have hk2 := hp
  refine fv_step inj hf [2 * i, 2 * i + 1, 2 * a, 2 * a + 1, 2 * b, 2 * b + 1] rfl (fun x hx => by simp only [List.mem_cons, List.not_mem_nil, or_false] at hx; omega) hk2 (fun j hj hjl => ?_) (fun j hj hjl => ?_)
  · simp only [List.mem_cons, List.not_mem_nil, or_false, not_or] at hjl ⊢
    refine ⟨by omega, ?_⟩
    rw [va_up_ne _ _ (show j ≠ b by omega)]
  · simp only [List.mem_cons, List.not_mem_nil, or_false] at hjl
    rcases (show j = i ∨ j = a ∨ j = b by omega) with e | e | e
    · rw [e]; exact ⟨n0, g0, d0, (hk2.1 0 _ rfl).2, (hk2.1 1 _ rfl).2, by rw [va_up_ne _ _ (show i ≠ b by omega)]; exact w0⟩
    · rw [e]; exact ⟨0, g1, d1, (hk2.1 2 _ rfl).2, (hk2.1 3 _ rfl).2, by rw [va_up_ne _ _ (show a ≠ b by omega)]; exact w1⟩
    · rw [e]; exact ⟨0, 0, d2, (hk2.1 4 _ rfl).2, (hk2.1 5 _ rfl).2, by rw [va_up_self]; exact ⟨by omega, w2.2.1, Or.inl ⟨rfl, rfl, rfl⟩⟩⟩
/-- a table's object, its array of rows and one row, apart from the family -/
def tc (L : List Nat) (k : Nat → ClassId) (f : Nat → va_E) (adr : Nat → Nat) (N : Nat) (t pa nu rr : Nat) (fd rw cl rd : Int32) (z : Nat → Option Nat) (w : Nat → Int32) (row : Nat) : Prop := row < 12 ∧ z row = some rr ∧ t ∈ L ∧ nu ∈ L ∧ rr ∈ L ∧ f t = cT fd rw cl rd pa nu ∧ f nu = cO k z ∧ f rr = cR k w ∧ t ≠ nu ∧ t ≠ rr ∧ nu ≠ rr ∧ ∀ x, x < 2 * N → t ≠ adr x ∧ nu ≠ adr x ∧ rr ≠ adr x
theorem tc_kn {L : List Nat} {k : Nat → ClassId} {f : Nat → va_E} {adr : Nat → Nat} {N t pa nu rr : Nat} {fd rw cl rd : Int32} {z : Nat → Option Nat} {w : Nat → Int32} {row i : Nat} (h : tc L k f adr N t pa nu rr fd rw cl rd z w row) (inj : ∀ x y, x < 2 * N → y < 2 * N → adr x = adr y → x = y) (hi : i < N) {n : Nat} {g : Int32} {d : Nat → Nat} (m0 : adr (2 * i) ∈ L) (m1 : adr (2 * i + 1) ∈ L) (e0 : f (adr (2 * i)) = cW (adr (2 * i + 1)) n g) (e1 : f (adr (2 * i + 1)) = cD k d) : kn L f f [(t, cT fd rw cl rd pa nu), (nu, cO k z), (rr, cR k w), (adr (2 * i), cW (adr (2 * i + 1)) n g), (adr (2 * i + 1), cD k d)] := by
  obtain ⟨h1, h2, h3, h4, h5, h6, h7, h8, h9, h10, h11, h12⟩ := h
  have q1 := h12 (2 * i) (by omega)
  have q2 := h12 (2 * i + 1) (by omega)
  have q3 : adr (2 * i) ≠ adr (2 * i + 1) := fun e => by have := inj _ _ (by omega) (by omega) e; omega
  refine kn_of (fun q hq => ?_) (by simp; exact ⟨⟨h9, h10, q1.1, q2.1⟩, ⟨h11, q1.2.1, q2.2.1⟩, ⟨q1.2.2, q2.2.2⟩, q3⟩)
  simp only [List.mem_cons, List.not_mem_nil, or_false] at hq
  rcases hq with rfl | rfl | rfl | rfl | rfl
  · exact ⟨h3, h6⟩
  · exact ⟨h4, h7⟩
  · exact ⟨h5, h8⟩
  · exact ⟨m0, e0⟩
  · exact ⟨m1, e1⟩
set_option maxRecDepth 100000 in
set_option maxHeartbeats 4000000 in
theorem n_load (l : Launch) (D : va_G) (k : Nat → ClassId) (L : List Nat) (f : Nat → va_E) (adr : Nat → Nat) (N : Nat) (vals : Nat → Int) (inj : ∀ x y, x < 2 * N → y < 2 * N → adr x = adr y → x = y) (hf : fv L k adr N f vals) (t pa nu rr : Nat) (fd rw cl rd : Int32) (z : Nat → Option Nat) (w : Nat → Int32) (row : Nat) (h : tc L k f adr N t pa nu rr fd rw cl rd z w row) (col i : Nat) (hcol : col < 12) (hi : i < N) (v : Int) (hv : nm w col v) : Mv l y_T_load (Cond.code y_T_load c_T_load 5 none :: G) (rmN 1) D cls (tyl k) L f [.ref t, .int (nI row), .int (nI col), .ref (adr (2 * i))] (fun f' => fv L k adr N f' (va_up vals i v) ∧ fo adr N f f') := by
  obtain ⟨m0, ml0, n0, g0, d0, e0, el0, w0⟩ := hf i hi
  have hk := tc_kn h inj hi m0 ml0 e0 el0
  refine Met_mono (m_T_load l D k L f t pa nu rr fd rw cl rd z w row col h.1 hcol h.2.1 _ _ n0 g0 d0 v hv w0.2.1 hk) (fun f' hp => ?_)
  obtain ⟨n1, g1, d1, w1, hn5, hk2⟩ := hp
  have hk3 : kn L f f' [(adr (2 * i), cW (adr (2 * i + 1)) n1 g1), (adr (2 * i + 1), cD k d1)] := by
    refine ⟨fun q x hq => ?_, fun a b x y ha hb hxy => ?_, fun q hq => ?_⟩
    · rcases q with _ | _ | q
      · cases hq; exact hk2.1 3 _ rfl
      · cases hq; exact hk2.1 4 _ rfl
      · cases hq
    · have q3 : adr (2 * i) ≠ adr (2 * i + 1) := fun e => by have := inj _ _ (by omega) (by omega) e; omega
      rcases a with _ | _ | a <;> rcases b with _ | _ | b <;> (try cases ha) <;> (try cases hb)
      · rfl
      · exact absurd hxy q3
      · exact absurd hxy.symm q3
      · rfl
    · by_cases c1 : q = t
      · rw [c1, (hk2.1 0 _ rfl).2, (hk.1 0 _ rfl).2]
      · by_cases c2 : q = nu
        · rw [c2, (hk2.1 1 _ rfl).2, (hk.1 1 _ rfl).2]
        · by_cases c3 : q = rr
          · rw [c3, (hk2.1 2 _ rfl).2, (hk.1 2 _ rfl).2]
          · refine kn_off hk2 ?_
            simp only [List.map_cons, List.map_nil, List.mem_cons, List.not_mem_nil, or_false, not_or]
            exact ⟨c1, c2, c3, fun e => hq 0 (cW (adr (2 * i + 1)) n1 g1) (by rw [e]; rfl), fun e => hq 1 (cD k d1) (by rw [e]; rfl)⟩
  refine fv_step inj hf [2 * i, 2 * i + 1] rfl (fun x hx => by simp only [List.mem_cons, List.not_mem_nil, or_false] at hx; omega) hk3 (fun j hj hjl => ?_) (fun j hj hjl => ?_)
  · simp only [List.mem_cons, List.not_mem_nil, or_false, not_or] at hjl ⊢
    exact ⟨by omega, va_up_ne _ _ (by omega)⟩
  · simp only [List.mem_cons, List.not_mem_nil, or_false] at hjl
    have e : j = i := by omega
    rw [e]
    exact ⟨n1, g1, d1, (hk3.1 0 _ rfl).2, (hk3.1 1 _ rfl).2, by rw [va_up_self]; exact w1⟩
set_option maxRecDepth 100000 in
set_option maxHeartbeats 4000000 in
theorem n_store (l : Launch) (D : va_G) (k : Nat → ClassId) (L : List Nat) (f : Nat → va_E) (adr : Nat → Nat) (N : Nat) (vals : Nat → Int) (inj : ∀ x y, x < 2 * N → y < 2 * N → adr x = adr y → x = y) (hf : fv L k adr N f vals) (t pa nu rr : Nat) (fd rw cl rd : Int32) (z : Nat → Option Nat) (w : Nat → Int32) (row : Nat) (h : tc L k f adr N t pa nu rr fd rw cl rd z w row) (col i : Nat) (hcol : col < 12) (hi : i < N) (hv : (vals i).natAbs < B30 ^ 5) : Mv l y_T_store (Cond.code y_T_store c_T_store 5 none :: G) (rmN 1) D cls (tyl k) L f [.ref t, .int (nI row), .int (nI col), .ref (adr (2 * i))] (fun f' => ∃ w' : Nat → Int32, nm w' col (vals i) ∧ (∀ i, i < col * 6 ∨ col * 6 + 6 ≤ i → w' i = w i) ∧ f' rr = cR k w' ∧ ∀ q, q ≠ rr → f' q = f q) := by
  obtain ⟨m0, ml0, n0, g0, d0, e0, el0, w0⟩ := hf i hi
  have hk := tc_kn h inj hi m0 ml0 e0 el0
  refine Met_mono (m_T_store l D k L f t pa nu rr fd rw cl rd z w row col h.1 hcol h.2.1 _ _ n0 g0 d0 (vals i) w0 (wr_cnt w0 hv) hk) (fun f' hp => ?_)
  obtain ⟨w', h1, h2, hk2⟩ := hp
  refine ⟨w', h1, h2, (hk2.1 2 _ rfl).2, fun q hq => ?_⟩
  by_cases c1 : q = t
  · rw [c1, (hk2.1 0 _ rfl).2, (hk.1 0 _ rfl).2]
  · by_cases c2 : q = nu
    · rw [c2, (hk2.1 1 _ rfl).2, (hk.1 1 _ rfl).2]
    · by_cases c4 : q = adr (2 * i)
      · rw [c4, (hk2.1 3 _ rfl).2, (hk.1 3 _ rfl).2]
      · by_cases c5 : q = adr (2 * i + 1)
        · rw [c5, (hk2.1 4 _ rfl).2, (hk.1 4 _ rfl).2]
        · exact kn_off hk2 (by simp; exact ⟨c1, c2, hq, c4, c5⟩)
end
