section
-- ===== PART A: goes FIRST, ahead of the names: the tables' words, and 'selects' of the private methods out of them =====
/-- a private method of a class that the tables say can be made, by its rows of tables_1 -/
def lw_okq (q : MethodName × Nat) : Prop := (q.1.cls ≠ "java/lang/invoke/MethodHandle" ∧ q.1.cls ≠ "java/lang/invoke/VarHandle") ∧ Cond.instantiable q.1.cls q.2 ∈ tables_1 ∧ Cond.privateMethod q.1 ∈ tables_1 ∧ Cond.instanceMethod q.1 ∈ tables_1
theorem lw_p0 : lw_okq (⟨"BeltHall", "finding", "(I)I"⟩, 6) := ⟨⟨by decide +kernel, by decide +kernel⟩, List.mem_of_getElem? (i := 14) (by decide +kernel), List.mem_of_getElem? (i := 273) (by decide +kernel), List.mem_of_getElem? (i := 274) (by decide +kernel)⟩
theorem lw_p1 : lw_okq (⟨"BeltHall$Cards", "falls", "(II)Z"⟩, 11) := ⟨⟨by decide +kernel, by decide +kernel⟩, List.mem_of_getElem? (i := 102) (by decide +kernel), List.mem_of_getElem? (i := 354) (by decide +kernel), List.mem_of_getElem? (i := 355) (by decide +kernel)⟩
theorem lw_p2 : lw_okq (⟨"BeltHall$Cards", "raise", "(I)V"⟩, 11) := ⟨⟨by decide +kernel, by decide +kernel⟩, List.mem_of_getElem? (i := 102) (by decide +kernel), List.mem_of_getElem? (i := 362) (by decide +kernel), List.mem_of_getElem? (i := 363) (by decide +kernel)⟩
theorem lw_p3 : lw_okq (⟨"BeltHall$Cards", "counts", "(III)Z"⟩, 11) := ⟨⟨by decide +kernel, by decide +kernel⟩, List.mem_of_getElem? (i := 102) (by decide +kernel), List.mem_of_getElem? (i := 374) (by decide +kernel), List.mem_of_getElem? (i := 375) (by decide +kernel)⟩
theorem lw_p4 : lw_okq (⟨"BeltHall", "isAsked", "(IIII)Z"⟩, 6) := ⟨⟨by decide +kernel, by decide +kernel⟩, List.mem_of_getElem? (i := 14) (by decide +kernel), List.mem_of_getElem? (i := 382) (by decide +kernel), List.mem_of_getElem? (i := 383) (by decide +kernel)⟩
theorem lw_p5 : lw_okq (⟨"BeltHall$Candidates", "listOptions", "(LBeltHall$Books;III)V"⟩, 7) := ⟨⟨by decide +kernel, by decide +kernel⟩, List.mem_of_getElem? (i := 189) (by decide +kernel), List.mem_of_getElem? (i := 499) (by decide +kernel), List.mem_of_getElem? (i := 500) (by decide +kernel)⟩
theorem lw_p6 : lw_okq (⟨"BeltHall$Candidates", "listPanels", "(II)V"⟩, 7) := ⟨⟨by decide +kernel, by decide +kernel⟩, List.mem_of_getElem? (i := 189) (by decide +kernel), List.mem_of_getElem? (i := 507) (by decide +kernel), List.mem_of_getElem? (i := 508) (by decide +kernel)⟩
theorem lw_p7 : lw_okq (⟨"BeltHall$Candidates", "place", "(III)Z"⟩, 7) := ⟨⟨by decide +kernel, by decide +kernel⟩, List.mem_of_getElem? (i := 189) (by decide +kernel), List.mem_of_getElem? (i := 511) (by decide +kernel), List.mem_of_getElem? (i := 512) (by decide +kernel)⟩
theorem lw_p8 : lw_okq (⟨"BeltHall$Candidates", "ableFrom", "(I)I"⟩, 7) := ⟨⟨by decide +kernel, by decide +kernel⟩, List.mem_of_getElem? (i := 189) (by decide +kernel), List.mem_of_getElem? (i := 515) (by decide +kernel), List.mem_of_getElem? (i := 516) (by decide +kernel)⟩
theorem lw_p9 : lw_okq (⟨"BeltHall$Candidates", "fullAhead", "(II)I"⟩, 7) := ⟨⟨by decide +kernel, by decide +kernel⟩, List.mem_of_getElem? (i := 189) (by decide +kernel), List.mem_of_getElem? (i := 519) (by decide +kernel), List.mem_of_getElem? (i := 520) (by decide +kernel)⟩
theorem lw_p10 : lw_okq (⟨"BeltHall$Exams", "upTo", "(II)I"⟩, 4) := ⟨⟨by decide +kernel, by decide +kernel⟩, List.mem_of_getElem? (i := 220) (by decide +kernel), List.mem_of_getElem? (i := 565) (by decide +kernel), List.mem_of_getElem? (i := 566) (by decide +kernel)⟩
theorem lw_p11 : lw_okq (⟨"BeltHallModel", "finding", "(I)I"⟩, 44) := ⟨⟨by decide +kernel, by decide +kernel⟩, List.mem_of_getElem? (i := 607) (by decide +kernel), List.mem_of_getElem? (i := 757) (by decide +kernel), List.mem_of_getElem? (i := 758) (by decide +kernel)⟩
theorem lw_p12 : lw_okq (⟨"BeltHallModel", "isPerson", "(I)Z"⟩, 44) := ⟨⟨by decide +kernel, by decide +kernel⟩, List.mem_of_getElem? (i := 607) (by decide +kernel), List.mem_of_getElem? (i := 767) (by decide +kernel), List.mem_of_getElem? (i := 768) (by decide +kernel)⟩
theorem lw_p13 : lw_okq (⟨"BeltHallModel", "ruleOf", "(III)I"⟩, 44) := ⟨⟨by decide +kernel, by decide +kernel⟩, List.mem_of_getElem? (i := 607) (by decide +kernel), List.mem_of_getElem? (i := 805) (by decide +kernel), List.mem_of_getElem? (i := 806) (by decide +kernel)⟩
theorem lw_p14 : lw_okq (⟨"BeltHallModel", "findStanding", "(I)V"⟩, 44) := ⟨⟨by decide +kernel, by decide +kernel⟩, List.mem_of_getElem? (i := 607) (by decide +kernel), List.mem_of_getElem? (i := 814) (by decide +kernel), List.mem_of_getElem? (i := 815) (by decide +kernel)⟩
theorem lw_p15 : lw_okq (⟨"BeltHallModel", "counts", "(III)I"⟩, 44) := ⟨⟨by decide +kernel, by decide +kernel⟩, List.mem_of_getElem? (i := 607) (by decide +kernel), List.mem_of_getElem? (i := 818) (by decide +kernel), List.mem_of_getElem? (i := 819) (by decide +kernel)⟩
def lw_privs_1 : List (MethodName × Nat) := [(⟨"BeltHall", "finding", "(I)I"⟩, 6), (⟨"BeltHall$Cards", "falls", "(II)Z"⟩, 11), (⟨"BeltHall$Cards", "raise", "(I)V"⟩, 11), (⟨"BeltHall$Cards", "counts", "(III)Z"⟩, 11), (⟨"BeltHall", "isAsked", "(IIII)Z"⟩, 6), (⟨"BeltHall$Candidates", "listOptions", "(LBeltHall$Books;III)V"⟩, 7), (⟨"BeltHall$Candidates", "listPanels", "(II)V"⟩, 7), (⟨"BeltHall$Candidates", "place", "(III)Z"⟩, 7), (⟨"BeltHall$Candidates", "ableFrom", "(I)I"⟩, 7), (⟨"BeltHall$Candidates", "fullAhead", "(II)I"⟩, 7), (⟨"BeltHall$Exams", "upTo", "(II)I"⟩, 4), (⟨"BeltHallModel", "finding", "(I)I"⟩, 44), (⟨"BeltHallModel", "isPerson", "(I)Z"⟩, 44), (⟨"BeltHallModel", "ruleOf", "(III)I"⟩, 44), (⟨"BeltHallModel", "findStanding", "(I)V"⟩, 44), (⟨"BeltHallModel", "counts", "(III)I"⟩, 44)]
theorem lw_r1 : ∀ q ∈ lw_privs_1, lw_okq q := List.forall_mem_cons.mpr ⟨lw_p0, List.forall_mem_cons.mpr ⟨lw_p1, List.forall_mem_cons.mpr ⟨lw_p2, List.forall_mem_cons.mpr ⟨lw_p3, List.forall_mem_cons.mpr ⟨lw_p4, List.forall_mem_cons.mpr ⟨lw_p5, List.forall_mem_cons.mpr ⟨lw_p6, List.forall_mem_cons.mpr ⟨lw_p7, List.forall_mem_cons.mpr ⟨lw_p8, List.forall_mem_cons.mpr ⟨lw_p9, List.forall_mem_cons.mpr ⟨lw_p10, List.forall_mem_cons.mpr ⟨lw_p11, List.forall_mem_cons.mpr ⟨lw_p12, List.forall_mem_cons.mpr ⟨lw_p13, List.forall_mem_cons.mpr ⟨lw_p14, List.forall_mem_cons.mpr ⟨lw_p15, fun _ h => absurd h List.not_mem_nil⟩⟩⟩⟩⟩⟩⟩⟩⟩⟩⟩⟩⟩⟩⟩⟩
theorem lw_p16 : lw_okq (⟨"BeltHallModel", "falls", "(II)Z"⟩, 44) := ⟨⟨by decide +kernel, by decide +kernel⟩, List.mem_of_getElem? (i := 607) (by decide +kernel), List.mem_of_getElem? (i := 823) (by decide +kernel), List.mem_of_getElem? (i := 824) (by decide +kernel)⟩
theorem lw_p17 : lw_okq (⟨"BeltHallModel", "isStruck", "(III)Z"⟩, 44) := ⟨⟨by decide +kernel, by decide +kernel⟩, List.mem_of_getElem? (i := 607) (by decide +kernel), List.mem_of_getElem? (i := 827) (by decide +kernel), List.mem_of_getElem? (i := 828) (by decide +kernel)⟩
theorem lw_p18 : lw_okq (⟨"BeltHallModel", "hasOf", "(III)I"⟩, 44) := ⟨⟨by decide +kernel, by decide +kernel⟩, List.mem_of_getElem? (i := 607) (by decide +kernel), List.mem_of_getElem? (i := 831) (by decide +kernel), List.mem_of_getElem? (i := 832) (by decide +kernel)⟩
theorem lw_p19 : lw_okq (⟨"BeltHallModel", "canAsk", "(IIII)Z"⟩, 44) := ⟨⟨by decide +kernel, by decide +kernel⟩, List.mem_of_getElem? (i := 607) (by decide +kernel), List.mem_of_getElem? (i := 839) (by decide +kernel), List.mem_of_getElem? (i := 840) (by decide +kernel)⟩
theorem lw_p20 : lw_okq (⟨"BeltHallModel", "whyOf", "(IIII)I"⟩, 44) := ⟨⟨by decide +kernel, by decide +kernel⟩, List.mem_of_getElem? (i := 607) (by decide +kernel), List.mem_of_getElem? (i := 843) (by decide +kernel), List.mem_of_getElem? (i := 844) (by decide +kernel)⟩
theorem lw_p21 : lw_okq (⟨"BeltHallModel", "isPanel", "(I)Z"⟩, 44) := ⟨⟨by decide +kernel, by decide +kernel⟩, List.mem_of_getElem? (i := 607) (by decide +kernel), List.mem_of_getElem? (i := 851) (by decide +kernel), List.mem_of_getElem? (i := 852) (by decide +kernel)⟩
theorem lw_p22 : lw_okq (⟨"BeltHallModel", "panelOf", "(IIIII)I"⟩, 44) := ⟨⟨by decide +kernel, by decide +kernel⟩, List.mem_of_getElem? (i := 607) (by decide +kernel), List.mem_of_getElem? (i := 855) (by decide +kernel), List.mem_of_getElem? (i := 856) (by decide +kernel)⟩
theorem lw_p23 : lw_okq (⟨"BeltHallModel", "against", "(IIIII)I"⟩, 44) := ⟨⟨by decide +kernel, by decide +kernel⟩, List.mem_of_getElem? (i := 607) (by decide +kernel), List.mem_of_getElem? (i := 859) (by decide +kernel), List.mem_of_getElem? (i := 860) (by decide +kernel)⟩
theorem lw_p24 : lw_okq (⟨"BeltHallModel", "standing", "()I"⟩, 44) := ⟨⟨by decide +kernel, by decide +kernel⟩, List.mem_of_getElem? (i := 607) (by decide +kernel), List.mem_of_getElem? (i := 883) (by decide +kernel), List.mem_of_getElem? (i := 884) (by decide +kernel)⟩
theorem lw_p25 : lw_okq (⟨"BeltHallModel", "findPanels", "(II)V"⟩, 44) := ⟨⟨by decide +kernel, by decide +kernel⟩, List.mem_of_getElem? (i := 607) (by decide +kernel), List.mem_of_getElem? (i := 903) (by decide +kernel), List.mem_of_getElem? (i := 904) (by decide +kernel)⟩
theorem lw_p26 : lw_okq (⟨"BeltHallModel", "tryAll", "(I)V"⟩, 44) := ⟨⟨by decide +kernel, by decide +kernel⟩, List.mem_of_getElem? (i := 607) (by decide +kernel), List.mem_of_getElem? (i := 907) (by decide +kernel), List.mem_of_getElem? (i := 908) (by decide +kernel)⟩
theorem lw_p27 : lw_okq (⟨"BeltHallModel", "loads", "(II)V"⟩, 44) := ⟨⟨by decide +kernel, by decide +kernel⟩, List.mem_of_getElem? (i := 607) (by decide +kernel), List.mem_of_getElem? (i := 911) (by decide +kernel), List.mem_of_getElem? (i := 912) (by decide +kernel)⟩
theorem lw_p28 : lw_okq (⟨"BeltHallModel", "isLight", "(II)Z"⟩, 44) := ⟨⟨by decide +kernel, by decide +kernel⟩, List.mem_of_getElem? (i := 607) (by decide +kernel), List.mem_of_getElem? (i := 915) (by decide +kernel), List.mem_of_getElem? (i := 916) (by decide +kernel)⟩
theorem lw_p29 : lw_okq (⟨"BeltHallModel", "isExam", "(I)Z"⟩, 44) := ⟨⟨by decide +kernel, by decide +kernel⟩, List.mem_of_getElem? (i := 607) (by decide +kernel), List.mem_of_getElem? (i := 931) (by decide +kernel), List.mem_of_getElem? (i := 932) (by decide +kernel)⟩
theorem lw_p30 : lw_okq (⟨"BeltHallModel", "middleOf", "(I)I"⟩, 44) := ⟨⟨by decide +kernel, by decide +kernel⟩, List.mem_of_getElem? (i := 607) (by decide +kernel), List.mem_of_getElem? (i := 939) (by decide +kernel), List.mem_of_getElem? (i := 940) (by decide +kernel)⟩
def lw_privs_2 : List (MethodName × Nat) := [(⟨"BeltHallModel", "falls", "(II)Z"⟩, 44), (⟨"BeltHallModel", "isStruck", "(III)Z"⟩, 44), (⟨"BeltHallModel", "hasOf", "(III)I"⟩, 44), (⟨"BeltHallModel", "canAsk", "(IIII)Z"⟩, 44), (⟨"BeltHallModel", "whyOf", "(IIII)I"⟩, 44), (⟨"BeltHallModel", "isPanel", "(I)Z"⟩, 44), (⟨"BeltHallModel", "panelOf", "(IIIII)I"⟩, 44), (⟨"BeltHallModel", "against", "(IIIII)I"⟩, 44), (⟨"BeltHallModel", "standing", "()I"⟩, 44), (⟨"BeltHallModel", "findPanels", "(II)V"⟩, 44), (⟨"BeltHallModel", "tryAll", "(I)V"⟩, 44), (⟨"BeltHallModel", "loads", "(II)V"⟩, 44), (⟨"BeltHallModel", "isLight", "(II)Z"⟩, 44), (⟨"BeltHallModel", "isExam", "(I)Z"⟩, 44), (⟨"BeltHallModel", "middleOf", "(I)I"⟩, 44)]
theorem lw_r2 : ∀ q ∈ lw_privs_2, lw_okq q := List.forall_mem_cons.mpr ⟨lw_p16, List.forall_mem_cons.mpr ⟨lw_p17, List.forall_mem_cons.mpr ⟨lw_p18, List.forall_mem_cons.mpr ⟨lw_p19, List.forall_mem_cons.mpr ⟨lw_p20, List.forall_mem_cons.mpr ⟨lw_p21, List.forall_mem_cons.mpr ⟨lw_p22, List.forall_mem_cons.mpr ⟨lw_p23, List.forall_mem_cons.mpr ⟨lw_p24, List.forall_mem_cons.mpr ⟨lw_p25, List.forall_mem_cons.mpr ⟨lw_p26, List.forall_mem_cons.mpr ⟨lw_p27, List.forall_mem_cons.mpr ⟨lw_p28, List.forall_mem_cons.mpr ⟨lw_p29, List.forall_mem_cons.mpr ⟨lw_p30, fun _ h => absurd h List.not_mem_nil⟩⟩⟩⟩⟩⟩⟩⟩⟩⟩⟩⟩⟩⟩⟩
def lw_privs : List (MethodName × Nat) := lw_privs_1 ++ (lw_privs_2)
def lw_tbl : List Cond := k2_sels lw_privs ++ tables_1
theorem lw_privs_ok : ∀ q ∈ lw_privs, lw_okq q := by
  show ∀ q ∈ lw_privs_1 ++ (lw_privs_2), lw_okq q
  exact List.forall_mem_append.mpr ⟨lw_r1, lw_r2⟩
def RX0 : String := "BeltHall$Books"
def TX0 : u_T := fun k => match k with
  | 0 => ("BeltHall$Books", "persons", "LBeltHall$Persons;", true)
  | 1 => ("BeltHall$Books", "rules", "LBeltHall$Rules;", true)
  | _ => ("BeltHall$Books", "cards", "LBeltHall$Cards;", true)
def tyX0 : Nat → FieldType := fun k => match k with
  | 0 => .object "BeltHall$Persons"
  | 1 => .object "BeltHall$Rules"
  | _ => .object "BeltHall$Cards"
abbrev wsX00 : List Cond := u_ws RX0 TX0 3
theorem nmX0 : ∀ a, a < 3 → ∀ b, b < 3 → a ≠ b → (TX0 a).2.1 ≠ (TX0 b).2.1 := by decide +kernel
theorem tyX0_ok : ∀ k, k < 3 → parseFieldDescriptor (TX0 k).2.2.1 = some (tyX0 k) := by decide +kernel
abbrev cX0_init : ByteArray := prog_2_method_1_code
def yX0_init : MethodName := ⟨RX0, "<init>", "()V"⟩
abbrev cX0_whyNot : ByteArray := prog_2_method_2_code
def yX0_whyNot : MethodName := ⟨RX0, "whyNot", "(IIII)I"⟩
abbrev cX0_whyNoPanel : ByteArray := prog_2_method_3_code
def yX0_whyNoPanel : MethodName := ⟨RX0, "whyNoPanel", "(IIIII)I"⟩
abbrev cX0_whyNoJudge : ByteArray := prog_2_method_4_code
def yX0_whyNoJudge : MethodName := ⟨RX0, "whyNoJudge", "(IIIII)I"⟩
def RX1 : String := "BeltHall$Candidates"
def TX1 : u_T := fun k => match k with
  | 0 => ("BeltHall$Candidates", "waiting", "[I", true)
  | 1 => ("BeltHall$Candidates", "options", "[I", true)
  | 2 => ("BeltHall$Candidates", "optionCount", "[I", true)
  | 3 => ("BeltHall$Candidates", "chosen", "[I", true)
  | 4 => ("BeltHall$Candidates", "judges", "[I", true)
  | 5 => ("BeltHall$Candidates", "size", "I", false)
  | _ => ("BeltHall$Candidates", "areSeated", "Z", false)
def tyX1 : Nat → FieldType := fun k => match k with
  | 0 => .array .int
  | 1 => .array .int
  | 2 => .array .int
  | 3 => .array .int
  | 4 => .array .int
  | 5 => .int
  | _ => .boolean
abbrev wsX10 : List Cond := u_ws RX1 TX1 7
theorem nmX1 : ∀ a, a < 7 → ∀ b, b < 7 → a ≠ b → (TX1 a).2.1 ≠ (TX1 b).2.1 := by decide +kernel
theorem tyX1_ok : ∀ k, k < 7 → parseFieldDescriptor (TX1 k).2.2.1 = some (tyX1 k) := by decide +kernel
abbrev cX1_init : ByteArray := prog_3_method_1_code
def yX1_init : MethodName := ⟨RX1, "<init>", "()V"⟩
abbrev cX1_holds : ByteArray := prog_3_method_2_code
def yX1_holds : MethodName := ⟨RX1, "holds", "(I)Z"⟩
abbrev cX1_add : ByteArray := prog_3_method_3_code
def yX1_add : MethodName := ⟨RX1, "add", "(I)V"⟩
abbrev cX1_clear : ByteArray := prog_3_method_4_code
def yX1_clear : MethodName := ⟨RX1, "clear", "()V"⟩
abbrev cX1_seat : ByteArray := prog_3_method_5_code
def yX1_seat : MethodName := ⟨RX1, "seat", "(LBeltHall$Books;III)I"⟩
abbrev cX1_listOptions : ByteArray := prog_3_method_6_code
def yX1_listOptions : MethodName := ⟨RX1, "listOptions", "(LBeltHall$Books;III)V"⟩
abbrev cX1_listPanels : ByteArray := prog_3_method_7_code
def yX1_listPanels : MethodName := ⟨RX1, "listPanels", "(II)V"⟩
abbrev cX1_place : ByteArray := prog_3_method_8_code
def yX1_place : MethodName := ⟨RX1, "place", "(III)Z"⟩
abbrev cX1_ableFrom : ByteArray := prog_3_method_9_code
def yX1_ableFrom : MethodName := ⟨RX1, "ableFrom", "(I)I"⟩
abbrev cX1_fullAhead : ByteArray := prog_3_method_10_code
def yX1_fullAhead : MethodName := ⟨RX1, "fullAhead", "(II)I"⟩
def RX2 : String := "BeltHall$Cards"
def TX2 : u_T := fun k => match k with
  | 0 => ("BeltHall$Cards", "strikes", "LBeltHall$Strikes;", true)
  | 1 => ("BeltHall$Cards", "ways", "[I", true)
  | 2 => ("BeltHall$Cards", "values", "[I", true)
  | 3 => ("BeltHall$Cards", "owner", "[I", true)
  | 4 => ("BeltHall$Cards", "union", "[I", true)
  | 5 => ("BeltHall$Cards", "grade", "[I", true)
  | 6 => ("BeltHall$Cards", "date", "[I", true)
  | 7 => ("BeltHall$Cards", "judges", "[I", true)
  | 8 => ("BeltHall$Cards", "standing", "[Z", true)
  | 9 => ("BeltHall$Cards", "soFar", "[I", true)
  | _ => ("BeltHall$Cards", "size", "I", false)
def tyX2 : Nat → FieldType := fun k => match k with
  | 0 => .object "BeltHall$Strikes"
  | 1 => .array .int
  | 2 => .array .int
  | 3 => .array .int
  | 4 => .array .int
  | 5 => .array .int
  | 6 => .array .int
  | 7 => .array .int
  | 8 => .array .boolean
  | 9 => .array .int
  | _ => .int
abbrev wsX20 : List Cond := u_ws RX2 TX2 11
theorem nmX2 : ∀ a, a < 11 → ∀ b, b < 11 → a ≠ b → (TX2 a).2.1 ≠ (TX2 b).2.1 := by decide +kernel
theorem tyX2_ok : ∀ k, k < 11 → parseFieldDescriptor (TX2 k).2.2.1 = some (tyX2 k) := by decide +kernel
abbrev cX2_init : ByteArray := prog_4_method_1_code
def yX2_init : MethodName := ⟨RX2, "<init>", "()V"⟩
abbrev cX2_holds : ByteArray := prog_4_method_2_code
def yX2_holds : MethodName := ⟨RX2, "holds", "(I)Z"⟩
abbrev cX2_latestDay : ByteArray := prog_4_method_3_code
def yX2_latestDay : MethodName := ⟨RX2, "latestDay", "()I"⟩
abbrev cX2_value : ByteArray := prog_4_method_4_code
def yX2_value : MethodName := ⟨RX2, "value", "(III)I"⟩
abbrev cX2_setValue : ByteArray := prog_4_method_5_code
def yX2_setValue : MethodName := ⟨RX2, "setValue", "(IIII)V"⟩
abbrev cX2_add : ByteArray := prog_4_method_6_code
def yX2_add : MethodName := ⟨RX2, "add", "(IIIII)I"⟩
abbrev cX2_know : ByteArray := prog_4_method_7_code
def yX2_know : MethodName := ⟨RX2, "know", "(I)V"⟩
abbrev cX2_falls : ByteArray := prog_4_method_8_code
def yX2_falls : MethodName := ⟨RX2, "falls", "(II)Z"⟩
abbrev cX2_raise : ByteArray := prog_4_method_9_code
def yX2_raise : MethodName := ⟨RX2, "raise", "(I)V"⟩
abbrev cX2_standingAtLast : ByteArray := prog_4_method_10_code
def yX2_standingAtLast : MethodName := ⟨RX2, "standingAtLast", "()I"⟩
abbrev cX2_counts : ByteArray := prog_4_method_11_code
def yX2_counts : MethodName := ⟨RX2, "counts", "(III)Z"⟩
abbrev cX2_heldOn : ByteArray := prog_4_method_12_code
def yX2_heldOn : MethodName := ⟨RX2, "heldOn", "(III)I"⟩
abbrev cX2_lastGraded : ByteArray := prog_4_method_13_code
def yX2_lastGraded : MethodName := ⟨RX2, "lastGraded", "(II)I"⟩
def RX3 : String := "BeltHall$Exams"
def TX3 : u_T := fun k => match k with
  | 0 => ("BeltHall$Exams", "markCount", "[I", true)
  | 1 => ("BeltHall$Exams", "marker", "[I", true)
  | 2 => ("BeltHall$Exams", "marks", "[I", true)
  | _ => ("BeltHall$Exams", "size", "I", false)
def tyX3 : Nat → FieldType := fun k => match k with
  | 0 => .array .int
  | 1 => .array .int
  | 2 => .array .int
  | _ => .int
abbrev wsX30 : List Cond := u_ws RX3 TX3 4
theorem nmX3 : ∀ a, a < 4 → ∀ b, b < 4 → a ≠ b → (TX3 a).2.1 ≠ (TX3 b).2.1 := by decide +kernel
theorem tyX3_ok : ∀ k, k < 4 → parseFieldDescriptor (TX3 k).2.2.1 = some (tyX3 k) := by decide +kernel
abbrev cX3_init : ByteArray := prog_5_method_1_code
def yX3_init : MethodName := ⟨RX3, "<init>", "()V"⟩
abbrev cX3_holds : ByteArray := prog_5_method_2_code
def yX3_holds : MethodName := ⟨RX3, "holds", "(I)Z"⟩
abbrev cX3_add : ByteArray := prog_5_method_3_code
def yX3_add : MethodName := ⟨RX3, "add", "()I"⟩
abbrev cX3_isWhole : ByteArray := prog_5_method_4_code
def yX3_isWhole : MethodName := ⟨RX3, "isWhole", "(I)Z"⟩
abbrev cX3_placeFor : ByteArray := prog_5_method_5_code
def yX3_placeFor : MethodName := ⟨RX3, "placeFor", "(II)I"⟩
abbrev cX3_put : ByteArray := prog_5_method_6_code
def yX3_put : MethodName := ⟨RX3, "put", "(IIII)I"⟩
abbrev cX3_upTo : ByteArray := prog_5_method_7_code
def yX3_upTo : MethodName := ⟨RX3, "upTo", "(II)I"⟩
abbrev cX3_middleOf : ByteArray := prog_5_method_8_code
def yX3_middleOf : MethodName := ⟨RX3, "middleOf", "(I)I"⟩
abbrev cX3_awayFromMiddle : ByteArray := prog_5_method_9_code
def yX3_awayFromMiddle : MethodName := ⟨RX3, "awayFromMiddle", "(II)I"⟩
abbrev cX3_hardness : ByteArray := prog_5_method_10_code
def yX3_hardness : MethodName := ⟨RX3, "hardness", "(I)I"⟩
def RX4 : String := "BeltHall$Persons"
def TX4 : u_T := fun k => match k with
  | 0 => ("BeltHall$Persons", "kind", "[I", true)
  | 1 => ("BeltHall$Persons", "born", "[I", true)
  | 2 => ("BeltHall$Persons", "home", "[I", true)
  | 3 => ("BeltHall$Persons", "licensed", "[I", true)
  | 4 => ("BeltHall$Persons", "passed", "[I", true)
  | 5 => ("BeltHall$Persons", "size", "I", false)
  | _ => ("BeltHall$Persons", "examiners", "I", false)
def tyX4 : Nat → FieldType := fun k => match k with
  | 0 => .array .int
  | 1 => .array .int
  | 2 => .array .int
  | 3 => .array .int
  | 4 => .array .int
  | 5 => .int
  | _ => .int
abbrev wsX40 : List Cond := u_ws RX4 TX4 7
theorem nmX4 : ∀ a, a < 7 → ∀ b, b < 7 → a ≠ b → (TX4 a).2.1 ≠ (TX4 b).2.1 := by decide +kernel
theorem tyX4_ok : ∀ k, k < 7 → parseFieldDescriptor (TX4 k).2.2.1 = some (tyX4 k) := by decide +kernel
abbrev cX4_init : ByteArray := prog_6_method_1_code
def yX4_init : MethodName := ⟨RX4, "<init>", "()V"⟩
abbrev cX4_holds : ByteArray := prog_6_method_2_code
def yX4_holds : MethodName := ⟨RX4, "holds", "(I)Z"⟩
abbrev cX4_areAll : ByteArray := prog_6_method_3_code
def yX4_areAll : MethodName := ⟨RX4, "areAll", "(I)Z"⟩
abbrev cX4_isExaminer : ByteArray := prog_6_method_4_code
def yX4_isExaminer : MethodName := ⟨RX4, "isExaminer", "(I)Z"⟩
abbrev cX4_hasRoomFor : ByteArray := prog_6_method_5_code
def yX4_hasRoomFor : MethodName := ⟨RX4, "hasRoomFor", "(I)Z"⟩
abbrev cX4_add : ByteArray := prog_6_method_6_code
def yX4_add : MethodName := ⟨RX4, "add", "(III)I"⟩
abbrev cX4_passedAll : ByteArray := prog_6_method_7_code
def yX4_passedAll : MethodName := ⟨RX4, "passedAll", "(IIII)Z"⟩
def RX5 : String := "BeltHall$Rules"
def TX5 : u_T := fun k => match k with
  | 0 => ("BeltHall$Rules", "subject", "[I", true)
  | 1 => ("BeltHall$Rules", "start", "[I", true)
  | 2 => ("BeltHall$Rules", "daysSince", "[I", true)
  | 3 => ("BeltHall$Rules", "leastAge", "[I", true)
  | 4 => ("BeltHall$Rules", "parts", "[I", true)
  | 5 => ("BeltHall$Rules", "needed", "[I", true)
  | _ => ("BeltHall$Rules", "size", "I", false)
def tyX5 : Nat → FieldType := fun k => match k with
  | 0 => .array .int
  | 1 => .array .int
  | 2 => .array .int
  | 3 => .array .int
  | 4 => .array .int
  | 5 => .array .int
  | _ => .int
abbrev wsX50 : List Cond := u_ws RX5 TX5 7
theorem nmX5 : ∀ a, a < 7 → ∀ b, b < 7 → a ≠ b → (TX5 a).2.1 ≠ (TX5 b).2.1 := by decide +kernel
theorem tyX5_ok : ∀ k, k < 7 → parseFieldDescriptor (TX5 k).2.2.1 = some (tyX5 k) := by decide +kernel
abbrev cX5_init : ByteArray := prog_7_method_1_code
def yX5_init : MethodName := ⟨RX5, "<init>", "()V"⟩
abbrev cX5_add : ByteArray := prog_7_method_2_code
def yX5_add : MethodName := ⟨RX5, "add", "(IIIII)V"⟩
abbrev cX5_inForce : ByteArray := prog_7_method_3_code
def yX5_inForce : MethodName := ⟨RX5, "inForce", "(III)I"⟩
def RX6 : String := "BeltHall$Strikes"
def TX6 : u_T := fun k => match k with
  | 0 => ("BeltHall$Strikes", "struck", "[I", true)
  | 1 => ("BeltHall$Strikes", "start", "[I", true)
  | 2 => ("BeltHall$Strikes", "toldOn", "[I", true)
  | _ => ("BeltHall$Strikes", "size", "I", false)
def tyX6 : Nat → FieldType := fun k => match k with
  | 0 => .array .int
  | 1 => .array .int
  | 2 => .array .int
  | _ => .int
abbrev wsX60 : List Cond := u_ws RX6 TX6 4
theorem nmX6 : ∀ a, a < 4 → ∀ b, b < 4 → a ≠ b → (TX6 a).2.1 ≠ (TX6 b).2.1 := by decide +kernel
theorem tyX6_ok : ∀ k, k < 4 → parseFieldDescriptor (TX6 k).2.2.1 = some (tyX6 k) := by decide +kernel
abbrev cX6_init : ByteArray := prog_8_method_1_code
def yX6_init : MethodName := ⟨RX6, "<init>", "()V"⟩
abbrev cX6_add : ByteArray := prog_8_method_2_code
def yX6_add : MethodName := ⟨RX6, "add", "(III)V"⟩
abbrev cX6_hit : ByteArray := prog_8_method_3_code
def yX6_hit : MethodName := ⟨RX6, "hit", "(III)Z"⟩
def RX7 : String := "BeltHall"
def TX7 : u_T := fun k => match k with
  | 0 => ("BeltHall", "books", "LBeltHall$Books;", true)
  | 1 => ("BeltHall", "candidates", "LBeltHall$Candidates;", true)
  | 2 => ("BeltHall", "exams", "LBeltHall$Exams;", true)
  | 3 => ("BeltHall", "numbers", "[I", true)
  | 4 => ("BeltHall", "findings", "[I", true)
  | _ => ("BeltHall", "numberCount", "I", false)
def tyX7 : Nat → FieldType := fun k => match k with
  | 0 => .object "BeltHall$Books"
  | 1 => .object "BeltHall$Candidates"
  | 2 => .object "BeltHall$Exams"
  | 3 => .array .int
  | 4 => .array .int
  | _ => .int
abbrev wsX70 : List Cond := u_ws RX7 TX7 6
theorem nmX7 : ∀ a, a < 6 → ∀ b, b < 6 → a ≠ b → (TX7 a).2.1 ≠ (TX7 b).2.1 := by decide +kernel
theorem tyX7_ok : ∀ k, k < 6 → parseFieldDescriptor (TX7 k).2.2.1 = some (tyX7 k) := by decide +kernel
abbrev cX7_init : ByteArray := prog_1_method_1_code
def yX7_init : MethodName := ⟨RX7, "<init>", "()V"⟩
abbrev cX7_person : ByteArray := prog_1_method_2_code
def yX7_person : MethodName := ⟨RX7, "person", "(III)I"⟩
abbrev cX7_as : ByteArray := prog_1_method_3_code
def yX7_as : MethodName := ⟨RX7, "as", "(II)I"⟩
abbrev cX7_licence : ByteArray := prog_1_method_4_code
def yX7_licence : MethodName := ⟨RX7, "licence", "(II)I"⟩
abbrev cX7_part : ByteArray := prog_1_method_5_code
def yX7_part : MethodName := ⟨RX7, "part", "(III)I"⟩
abbrev cX7_worth : ByteArray := prog_1_method_6_code
def yX7_worth : MethodName := ⟨RX7, "worth", "(IIII)I"⟩
abbrev cX7_way : ByteArray := prog_1_method_7_code
def yX7_way : MethodName := ⟨RX7, "way", "(II)I"⟩
abbrev cX7_rule : ByteArray := prog_1_method_8_code
def yX7_rule : MethodName := ⟨RX7, "rule", "(IIIII)I"⟩
abbrev cX7_force : ByteArray := prog_1_method_9_code
def yX7_force : MethodName := ⟨RX7, "force", "(III)I"⟩
abbrev cX7_has : ByteArray := prog_1_method_10_code
def yX7_has : MethodName := ⟨RX7, "has", "(IIII)I"⟩
abbrev cX7_why : ByteArray := prog_1_method_11_code
def yX7_why : MethodName := ⟨RX7, "why", "(IIII)I"⟩
abbrev cX7_panel : ByteArray := prog_1_method_12_code
def yX7_panel : MethodName := ⟨RX7, "panel", "(IIIII)I"⟩
abbrev cX7_give : ByteArray := prog_1_method_13_code
def yX7_give : MethodName := ⟨RX7, "give", "(IIIII)I"⟩
abbrev cX7_entry : ByteArray := prog_1_method_14_code
def yX7_entry : MethodName := ⟨RX7, "entry", "(II)I"⟩
abbrev cX7_stands : ByteArray := prog_1_method_15_code
def yX7_stands : MethodName := ⟨RX7, "stands", "(II)I"⟩
abbrev cX7_strike : ByteArray := prog_1_method_16_code
def yX7_strike : MethodName := ⟨RX7, "strike", "(III)I"⟩
abbrev cX7_unstrike : ByteArray := prog_1_method_17_code
def yX7_unstrike : MethodName := ⟨RX7, "unstrike", "()I"⟩
abbrev cX7_wait : ByteArray := prog_1_method_18_code
def yX7_wait : MethodName := ⟨RX7, "wait", "(I)I"⟩
abbrev cX7_go : ByteArray := prog_1_method_19_code
def yX7_go : MethodName := ⟨RX7, "go", "()I"⟩
abbrev cX7_best : ByteArray := prog_1_method_20_code
def yX7_best : MethodName := ⟨RX7, "best", "(III)I"⟩
abbrev cX7_given : ByteArray := prog_1_method_21_code
def yX7_given : MethodName := ⟨RX7, "given", "(I)I"⟩
abbrev cX7_exam : ByteArray := prog_1_method_22_code
def yX7_exam : MethodName := ⟨RX7, "exam", "()I"⟩
abbrev cX7_mark : ByteArray := prog_1_method_23_code
def yX7_mark : MethodName := ⟨RX7, "mark", "(III)I"⟩
abbrev cX7_middle : ByteArray := prog_1_method_24_code
def yX7_middle : MethodName := ⟨RX7, "middle", "(I)I"⟩
abbrev cX7_apart : ByteArray := prog_1_method_25_code
def yX7_apart : MethodName := ⟨RX7, "apart", "(II)I"⟩
abbrev cX7_hard : ByteArray := prog_1_method_26_code
def yX7_hard : MethodName := ⟨RX7, "hard", "(I)I"⟩
abbrev cX7_tell : ByteArray := prog_1_method_27_code
def yX7_tell : MethodName := ⟨RX7, "tell", "(I)I"⟩
abbrev cX7_check : ByteArray := prog_1_method_28_code
def yX7_check : MethodName := ⟨RX7, "check", "(I)I"⟩
abbrev cX7_count : ByteArray := prog_1_method_29_code
def yX7_count : MethodName := ⟨RX7, "count", "(I)I"⟩
abbrev cX7_found : ByteArray := prog_1_method_30_code
def yX7_found : MethodName := ⟨RX7, "found", "(I)I"⟩
abbrev cX7_finding : ByteArray := prog_1_method_31_code
def yX7_finding : MethodName := ⟨RX7, "finding", "(I)I"⟩
abbrev cX7_isAsked : ByteArray := prog_1_method_32_code
def yX7_isAsked : MethodName := ⟨RX7, "isAsked", "(IIII)Z"⟩
abbrev cX7_isWithin : ByteArray := prog_1_method_33_code
def yX7_isWithin : MethodName := ⟨RX7, "isWithin", "(III)Z"⟩
abbrev cX7_isDay : ByteArray := prog_1_method_34_code
def yX7_isDay : MethodName := ⟨RX7, "isDay", "(I)Z"⟩
abbrev cX7_isUnion : ByteArray := prog_1_method_35_code
def yX7_isUnion : MethodName := ⟨RX7, "isUnion", "(I)Z"⟩
abbrev cX7_isGrade : ByteArray := prog_1_method_36_code
def yX7_isGrade : MethodName := ⟨RX7, "isGrade", "(I)Z"⟩
abbrev cX7_isKind : ByteArray := prog_1_method_37_code
def yX7_isKind : MethodName := ⟨RX7, "isKind", "(I)Z"⟩
def RX8 : String := "BeltHallModel"
def TX8 : u_T := fun k => match k with
  | 0 => ("BeltHallModel", "persons", "I", false)
  | 1 => ("BeltHallModel", "examiners", "I", false)
  | 2 => ("BeltHallModel", "kindOf", "[I", true)
  | 3 => ("BeltHallModel", "born", "[I", true)
  | 4 => ("BeltHallModel", "hall", "[I", true)
  | 5 => ("BeltHallModel", "licence", "[I", true)
  | 6 => ("BeltHallModel", "passed", "[I", true)
  | 7 => ("BeltHallModel", "worth", "[I", true)
  | 8 => ("BeltHallModel", "ways", "[I", true)
  | 9 => ("BeltHallModel", "rules", "I", false)
  | 10 => ("BeltHallModel", "ruleFor", "[I", true)
  | 11 => ("BeltHallModel", "ruleFrom", "[I", true)
  | 12 => ("BeltHallModel", "ruleDays", "[I", true)
  | 13 => ("BeltHallModel", "ruleAge", "[I", true)
  | 14 => ("BeltHallModel", "ruleParts", "[I", true)
  | 15 => ("BeltHallModel", "rulePanel", "[I", true)
  | 16 => ("BeltHallModel", "entries", "I", false)
  | 17 => ("BeltHallModel", "entryOf", "[I", true)
  | 18 => ("BeltHallModel", "entryUnion", "[I", true)
  | 19 => ("BeltHallModel", "entryGrade", "[I", true)
  | 20 => ("BeltHallModel", "entryDay", "[I", true)
  | 21 => ("BeltHallModel", "entryPanel", "[I", true)
  | 22 => ("BeltHallModel", "strikes", "I", false)
  | 23 => ("BeltHallModel", "struck", "[I", true)
  | 24 => ("BeltHallModel", "struckFrom", "[I", true)
  | 25 => ("BeltHallModel", "struckTold", "[I", true)
  | 26 => ("BeltHallModel", "waiting", "I", false)
  | 27 => ("BeltHallModel", "candidates", "[I", true)
  | 28 => ("BeltHallModel", "isFound", "Z", false)
  | 29 => ("BeltHallModel", "given", "[I", true)
  | 30 => ("BeltHallModel", "exams", "I", false)
  | 31 => ("BeltHallModel", "marks", "[I", true)
  | 32 => ("BeltHallModel", "marker", "[I", true)
  | 33 => ("BeltHallModel", "marked", "[I", true)
  | 34 => ("BeltHallModel", "tells", "I", false)
  | 35 => ("BeltHallModel", "told", "[I", true)
  | 36 => ("BeltHallModel", "findings", "[I", true)
  | 37 => ("BeltHallModel", "stand", "[Z", true)
  | 38 => ("BeltHallModel", "panels", "I", false)
  | 39 => ("BeltHallModel", "panelAt", "[I", true)
  | 40 => ("BeltHallModel", "may", "[Z", true)
  | 41 => ("BeltHallModel", "tried", "[I", true)
  | 42 => ("BeltHallModel", "load", "[I", true)
  | _ => ("BeltHallModel", "graded", "I", false)
def tyX8 : Nat → FieldType := fun k => match k with
  | 0 => .int
  | 1 => .int
  | 2 => .array .int
  | 3 => .array .int
  | 4 => .array .int
  | 5 => .array .int
  | 6 => .array .int
  | 7 => .array .int
  | 8 => .array .int
  | 9 => .int
  | 10 => .array .int
  | 11 => .array .int
  | 12 => .array .int
  | 13 => .array .int
  | 14 => .array .int
  | 15 => .array .int
  | 16 => .int
  | 17 => .array .int
  | 18 => .array .int
  | 19 => .array .int
  | 20 => .array .int
  | 21 => .array .int
  | 22 => .int
  | 23 => .array .int
  | 24 => .array .int
  | 25 => .array .int
  | 26 => .int
  | 27 => .array .int
  | 28 => .boolean
  | 29 => .array .int
  | 30 => .int
  | 31 => .array .int
  | 32 => .array .int
  | 33 => .array .int
  | 34 => .int
  | 35 => .array .int
  | 36 => .array .int
  | 37 => .array .boolean
  | 38 => .int
  | 39 => .array .int
  | 40 => .array .boolean
  | 41 => .array .int
  | 42 => .array .int
  | _ => .int
abbrev wsX80 : List Cond := u_ws RX8 TX8 44
theorem nmX8 : ∀ a, a < 44 → ∀ b, b < 44 → a ≠ b → (TX8 a).2.1 ≠ (TX8 b).2.1 := by decide +kernel
theorem tyX8_ok : ∀ k, k < 44 → parseFieldDescriptor (TX8 k).2.2.1 = some (tyX8 k) := by decide +kernel
abbrev cX8_init : ByteArray := prog_10_method_1_code
def yX8_init : MethodName := ⟨RX8, "<init>", "()V"⟩
abbrev cX8_finding : ByteArray := prog_10_method_2_code
def yX8_finding : MethodName := ⟨RX8, "finding", "(I)I"⟩
abbrev cX8_within : ByteArray := prog_10_method_3_code
def yX8_within : MethodName := ⟨RX8, "within", "(III)Z"⟩
abbrev cX8_isDay : ByteArray := prog_10_method_4_code
def yX8_isDay : MethodName := ⟨RX8, "isDay", "(I)Z"⟩
abbrev cX8_isUnion : ByteArray := prog_10_method_5_code
def yX8_isUnion : MethodName := ⟨RX8, "isUnion", "(I)Z"⟩
abbrev cX8_isGrade : ByteArray := prog_10_method_6_code
def yX8_isGrade : MethodName := ⟨RX8, "isGrade", "(I)Z"⟩
abbrev cX8_isPerson : ByteArray := prog_10_method_7_code
def yX8_isPerson : MethodName := ⟨RX8, "isPerson", "(I)Z"⟩
abbrev cX8_person : ByteArray := prog_10_method_8_code
def yX8_person : MethodName := ⟨RX8, "person", "(III)I"⟩
abbrev cX8_as : ByteArray := prog_10_method_9_code
def yX8_as : MethodName := ⟨RX8, "as", "(II)I"⟩
abbrev cX8_licence : ByteArray := prog_10_method_10_code
def yX8_licence : MethodName := ⟨RX8, "licence", "(II)I"⟩
abbrev cX8_part : ByteArray := prog_10_method_11_code
def yX8_part : MethodName := ⟨RX8, "part", "(III)I"⟩
abbrev cX8_worthAt : ByteArray := prog_10_method_12_code
def yX8_worthAt : MethodName := ⟨RX8, "worthAt", "(III)I"⟩
abbrev cX8_worth : ByteArray := prog_10_method_13_code
def yX8_worth : MethodName := ⟨RX8, "worth", "(IIII)I"⟩
abbrev cX8_counts : ByteArray := prog_10_method_14_code
def yX8_counts : MethodName := ⟨RX8, "counts", "(III)I"⟩
abbrev cX8_way : ByteArray := prog_10_method_15_code
def yX8_way : MethodName := ⟨RX8, "way", "(II)I"⟩
abbrev cX8_rule : ByteArray := prog_10_method_16_code
def yX8_rule : MethodName := ⟨RX8, "rule", "(IIIII)I"⟩
abbrev cX8_ruleOf : ByteArray := prog_10_method_17_code
def yX8_ruleOf : MethodName := ⟨RX8, "ruleOf", "(III)I"⟩
abbrev cX8_force : ByteArray := prog_10_method_18_code
def yX8_force : MethodName := ⟨RX8, "force", "(III)I"⟩
abbrev cX8_isStruck : ByteArray := prog_10_method_19_code
def yX8_isStruck : MethodName := ⟨RX8, "isStruck", "(III)Z"⟩
abbrev cX8_falls : ByteArray := prog_10_method_20_code
def yX8_falls : MethodName := ⟨RX8, "falls", "(II)Z"⟩
abbrev cX8_findStanding : ByteArray := prog_10_method_21_code
def yX8_findStanding : MethodName := ⟨RX8, "findStanding", "(I)V"⟩
abbrev cX8_hasOf : ByteArray := prog_10_method_22_code
def yX8_hasOf : MethodName := ⟨RX8, "hasOf", "(III)I"⟩
abbrev cX8_has : ByteArray := prog_10_method_23_code
def yX8_has : MethodName := ⟨RX8, "has", "(IIII)I"⟩
abbrev cX8_whyOf : ByteArray := prog_10_method_24_code
def yX8_whyOf : MethodName := ⟨RX8, "whyOf", "(IIII)I"⟩
abbrev cX8_canAsk : ByteArray := prog_10_method_25_code
def yX8_canAsk : MethodName := ⟨RX8, "canAsk", "(IIII)Z"⟩
abbrev cX8_why : ByteArray := prog_10_method_26_code
def yX8_why : MethodName := ⟨RX8, "why", "(IIII)I"⟩
abbrev cX8_against : ByteArray := prog_10_method_27_code
def yX8_against : MethodName := ⟨RX8, "against", "(IIIII)I"⟩
abbrev cX8_panelOf : ByteArray := prog_10_method_28_code
def yX8_panelOf : MethodName := ⟨RX8, "panelOf", "(IIIII)I"⟩
abbrev cX8_isPanel : ByteArray := prog_10_method_29_code
def yX8_isPanel : MethodName := ⟨RX8, "isPanel", "(I)Z"⟩
abbrev cX8_panel : ByteArray := prog_10_method_30_code
def yX8_panel : MethodName := ⟨RX8, "panel", "(IIIII)I"⟩
abbrev cX8_give : ByteArray := prog_10_method_31_code
def yX8_give : MethodName := ⟨RX8, "give", "(IIIII)I"⟩
abbrev cX8_entry : ByteArray := prog_10_method_32_code
def yX8_entry : MethodName := ⟨RX8, "entry", "(II)I"⟩
abbrev cX8_stands : ByteArray := prog_10_method_33_code
def yX8_stands : MethodName := ⟨RX8, "stands", "(II)I"⟩
abbrev cX8_standing : ByteArray := prog_10_method_34_code
def yX8_standing : MethodName := ⟨RX8, "standing", "()I"⟩
abbrev cX8_strike : ByteArray := prog_10_method_35_code
def yX8_strike : MethodName := ⟨RX8, "strike", "(III)I"⟩
abbrev cX8_unstrike : ByteArray := prog_10_method_36_code
def yX8_unstrike : MethodName := ⟨RX8, "unstrike", "()I"⟩
abbrev cX8_wait : ByteArray := prog_10_method_37_code
def yX8_wait : MethodName := ⟨RX8, "wait", "(I)I"⟩
abbrev cX8_go : ByteArray := prog_10_method_38_code
def yX8_go : MethodName := ⟨RX8, "go", "()I"⟩
abbrev cX8_findPanels : ByteArray := prog_10_method_39_code
def yX8_findPanels : MethodName := ⟨RX8, "findPanels", "(II)V"⟩
abbrev cX8_loads : ByteArray := prog_10_method_40_code
def yX8_loads : MethodName := ⟨RX8, "loads", "(II)V"⟩
abbrev cX8_isLight : ByteArray := prog_10_method_41_code
def yX8_isLight : MethodName := ⟨RX8, "isLight", "(II)Z"⟩
abbrev cX8_tryAll : ByteArray := prog_10_method_42_code
def yX8_tryAll : MethodName := ⟨RX8, "tryAll", "(I)V"⟩
abbrev cX8_best : ByteArray := prog_10_method_43_code
def yX8_best : MethodName := ⟨RX8, "best", "(III)I"⟩
abbrev cX8_given : ByteArray := prog_10_method_44_code
def yX8_given : MethodName := ⟨RX8, "given", "(I)I"⟩
abbrev cX8_exam : ByteArray := prog_10_method_45_code
def yX8_exam : MethodName := ⟨RX8, "exam", "()I"⟩
abbrev cX8_isExam : ByteArray := prog_10_method_46_code
def yX8_isExam : MethodName := ⟨RX8, "isExam", "(I)Z"⟩
abbrev cX8_mark : ByteArray := prog_10_method_47_code
def yX8_mark : MethodName := ⟨RX8, "mark", "(III)I"⟩
abbrev cX8_middleOf : ByteArray := prog_10_method_48_code
def yX8_middleOf : MethodName := ⟨RX8, "middleOf", "(I)I"⟩
abbrev cX8_middle : ByteArray := prog_10_method_49_code
def yX8_middle : MethodName := ⟨RX8, "middle", "(I)I"⟩
abbrev cX8_apart : ByteArray := prog_10_method_50_code
def yX8_apart : MethodName := ⟨RX8, "apart", "(II)I"⟩
abbrev cX8_hard : ByteArray := prog_10_method_51_code
def yX8_hard : MethodName := ⟨RX8, "hard", "(I)I"⟩
abbrev cX8_tell : ByteArray := prog_10_method_52_code
def yX8_tell : MethodName := ⟨RX8, "tell", "(I)I"⟩
abbrev cX8_check : ByteArray := prog_10_method_53_code
def yX8_check : MethodName := ⟨RX8, "check", "(I)I"⟩
abbrev cX8_count : ByteArray := prog_10_method_54_code
def yX8_count : MethodName := ⟨RX8, "count", "(I)I"⟩
abbrev cX8_found : ByteArray := prog_10_method_55_code
def yX8_found : MethodName := ⟨RX8, "found", "(I)I"⟩
def RJ6 : String := "java/lang/Integer"
def TJ6 : u_T := fun k => match k with
  | _ => ("", "", "", false)
def tyJ6 : Nat → FieldType := fun k => match k with
  | _ => .int
abbrev wsJ60 : List Cond := u_ws RJ6 TJ6 0
theorem nmJ6 : ∀ a, a < 0 → ∀ b, b < 0 → a ≠ b → (TJ6 a).2.1 ≠ (TJ6 b).2.1 := by decide +kernel
theorem tyJ6_ok : ∀ k, k < 0 → parseFieldDescriptor (TJ6 k).2.2.1 = some (tyJ6 k) := by decide +kernel
abbrev cJ6_bitCount_0f7a4 : ByteArray := prog_11_method_49_code
def yJ6_bitCount_0f7a4 : MethodName := ⟨RJ6, "bitCount", "(I)I"⟩
def RJ9 : String := "java/lang/Math"
def TJ9 : u_T := fun k => match k with
  | _ => ("", "", "", false)
def tyJ9 : Nat → FieldType := fun k => match k with
  | _ => .int
abbrev wsJ90 : List Cond := u_ws RJ9 TJ9 0
theorem nmJ9 : ∀ a, a < 0 → ∀ b, b < 0 → a ≠ b → (TJ9 a).2.1 ≠ (TJ9 b).2.1 := by decide +kernel
theorem tyJ9_ok : ∀ k, k < 0 → parseFieldDescriptor (TJ9 k).2.2.1 = some (tyJ9 k) := by decide +kernel
abbrev cJ9_abs_0f7a4 : ByteArray := prog_12_method_59_code
def yJ9_abs_0f7a4 : MethodName := ⟨RJ9, "abs", "(I)I"⟩
abbrev cJ9_max_7cf53 : ByteArray := prog_12_method_65_code
def yJ9_max_7cf53 : MethodName := ⟨RJ9, "max", "(II)I"⟩
abbrev cJ9_min_7cf53 : ByteArray := prog_12_method_69_code
def yJ9_min_7cf53 : MethodName := ⟨RJ9, "min", "(II)I"⟩
def RJ7 : String := "java/util/Arrays"
def TJ7 : u_T := fun k => match k with
  | _ => ("", "", "", false)
def tyJ7 : Nat → FieldType := fun k => match k with
  | _ => .int
abbrev wsJ70 : List Cond := u_ws RJ7 TJ7 0
theorem nmJ7 : ∀ a, a < 0 → ∀ b, b < 0 → a ≠ b → (TJ7 a).2.1 ≠ (TJ7 b).2.1 := by decide +kernel
theorem tyJ7_ok : ∀ k, k < 0 → parseFieldDescriptor (TJ7 k).2.2.1 = some (tyJ7 k) := by decide +kernel
abbrev cJ7_fill_53178 : ByteArray := prog_13_method_103_code
def yJ7_fill_53178 : MethodName := ⟨RJ7, "fill", "([II)V"⟩
def RL : String := "BeltHallLaw"
abbrev cL_law : ByteArray := code
def yL_law : MethodName := ⟨RL, "law", "([I)Z"⟩
abbrev vwCl : List vw_C := [(RX0, TX0, 3), (RX1, TX1, 7), (RX2, TX2, 11), (RX3, TX3, 4), (RX4, TX4, 7), (RX5, TX5, 7), (RX6, TX6, 4), (RX7, TX7, 6), (RX8, TX8, 44)]
theorem inX0 : ∀ w ∈ wsX00, w ∈ lw_tbl := by decide +kernel
theorem inX1 : ∀ w ∈ wsX10, w ∈ lw_tbl := by decide +kernel
theorem inX2 : ∀ w ∈ wsX20, w ∈ lw_tbl := by decide +kernel
theorem inX3 : ∀ w ∈ wsX30, w ∈ lw_tbl := by decide +kernel
theorem inX4 : ∀ w ∈ wsX40, w ∈ lw_tbl := by decide +kernel
theorem inX5 : ∀ w ∈ wsX50, w ∈ lw_tbl := by decide +kernel
theorem inX6 : ∀ w ∈ wsX60, w ∈ lw_tbl := by decide +kernel
theorem inX7 : ∀ w ∈ wsX70, w ∈ lw_tbl := by decide +kernel
theorem inX8 : ∀ w ∈ wsX80, w ∈ lw_tbl := by decide +kernel
end
section
theorem dX0_init_0 : decode cX0_init 0 = .ok (.aload_n 0, 1) := by decide +kernel
theorem dX0_init_1 : decode cX0_init 1 = .ok (.invokespecial 3, 3) := by decide +kernel
theorem dX0_init_4 : decode cX0_init 4 = .ok (.aload_n 0, 1) := by decide +kernel
theorem dX0_init_5 : decode cX0_init 5 = .ok (.new 9, 3) := by decide +kernel
theorem dX0_init_8 : decode cX0_init 8 = .ok (.dup, 1) := by decide +kernel
theorem dX0_init_9 : decode cX0_init 9 = .ok (.invokespecial 11, 3) := by decide +kernel
theorem dX0_init_12 : decode cX0_init 12 = .ok (.putfield 12, 3) := by decide +kernel
theorem dX0_init_15 : decode cX0_init 15 = .ok (.aload_n 0, 1) := by decide +kernel
theorem dX0_init_16 : decode cX0_init 16 = .ok (.new 18, 3) := by decide +kernel
theorem dX0_init_19 : decode cX0_init 19 = .ok (.dup, 1) := by decide +kernel
theorem dX0_init_20 : decode cX0_init 20 = .ok (.invokespecial 20, 3) := by decide +kernel
theorem dX0_init_23 : decode cX0_init 23 = .ok (.putfield 21, 3) := by decide +kernel
theorem dX0_init_26 : decode cX0_init 26 = .ok (.aload_n 0, 1) := by decide +kernel
theorem dX0_init_27 : decode cX0_init 27 = .ok (.new 25, 3) := by decide +kernel
theorem dX0_init_30 : decode cX0_init 30 = .ok (.dup, 1) := by decide +kernel
theorem dX0_init_31 : decode cX0_init 31 = .ok (.invokespecial 27, 3) := by decide +kernel
theorem dX0_init_34 : decode cX0_init 34 = .ok (.putfield 28, 3) := by decide +kernel
theorem dX0_init_37 : decode cX0_init 37 = .ok (.return_, 1) := by decide +kernel
theorem dX0_whyNot_0 : decode cX0_whyNot 0 = .ok (.aload_n 0, 1) := by decide +kernel
theorem dX0_whyNot_1 : decode cX0_whyNot 1 = .ok (.getfield 21, 3) := by decide +kernel
theorem dX0_whyNot_4 : decode cX0_whyNot 4 = .ok (.iload_n 2, 1) := by decide +kernel
theorem dX0_whyNot_5 : decode cX0_whyNot 5 = .ok (.iload_n 3, 1) := by decide +kernel
theorem dX0_whyNot_6 : decode cX0_whyNot 6 = .ok (.iload 4, 2) := by decide +kernel
theorem dX0_whyNot_8 : decode cX0_whyNot 8 = .ok (.invokevirtual 32, 3) := by decide +kernel
theorem dX0_whyNot_11 : decode cX0_whyNot 11 = .ok (.istore 5, 2) := by decide +kernel
theorem dX0_whyNot_13 : decode cX0_whyNot 13 = .ok (.aload_n 0, 1) := by decide +kernel
theorem dX0_whyNot_14 : decode cX0_whyNot 14 = .ok (.getfield 12, 3) := by decide +kernel
theorem dX0_whyNot_17 : decode cX0_whyNot 17 = .ok (.getfield 36, 3) := by decide +kernel
theorem dX0_whyNot_20 : decode cX0_whyNot 20 = .ok (.iload_n 1, 1) := by decide +kernel
theorem dX0_whyNot_21 : decode cX0_whyNot 21 = .ok (.iaload, 1) := by decide +kernel
theorem dX0_whyNot_22 : decode cX0_whyNot 22 = .ok (.iconst 2, 1) := by decide +kernel
theorem dX0_whyNot_23 : decode cX0_whyNot 23 = .ok (.if_icmp .ne 7, 3) := by decide +kernel
theorem dX0_whyNot_26 : decode cX0_whyNot 26 = .ok (.iconst 1, 1) := by decide +kernel
theorem dX0_whyNot_27 : decode cX0_whyNot 27 = .ok (.goto 4, 3) := by decide +kernel
theorem dX0_whyNot_30 : decode cX0_whyNot 30 = .ok (.iconst 0, 1) := by decide +kernel
theorem dX0_whyNot_31 : decode cX0_whyNot 31 = .ok (.istore 6, 2) := by decide +kernel
theorem dX0_whyNot_33 : decode cX0_whyNot 33 = .ok (.iload 5, 2) := by decide +kernel
theorem dX0_whyNot_35 : decode cX0_whyNot 35 = .ok (.ifCond .lt 13, 3) := by decide +kernel
theorem dX0_whyNot_38 : decode cX0_whyNot 38 = .ok (.iload 6, 2) := by decide +kernel
theorem dX0_whyNot_40 : decode cX0_whyNot 40 = .ok (.ifCond .eq 10, 3) := by decide +kernel
theorem dX0_whyNot_43 : decode cX0_whyNot 43 = .ok (.iload_n 3, 1) := by decide +kernel
theorem dX0_whyNot_44 : decode cX0_whyNot 44 = .ok (.iconst 4, 1) := by decide +kernel
theorem dX0_whyNot_45 : decode cX0_whyNot 45 = .ok (.if_icmp .le 5, 3) := by decide +kernel
theorem dX0_whyNot_48 : decode cX0_whyNot 48 = .ok (.iconst 1, 1) := by decide +kernel
theorem dX0_whyNot_49 : decode cX0_whyNot 49 = .ok (.ireturn, 1) := by decide +kernel
theorem dX0_whyNot_50 : decode cX0_whyNot 50 = .ok (.aload_n 0, 1) := by decide +kernel
theorem dX0_whyNot_51 : decode cX0_whyNot 51 = .ok (.getfield 28, 3) := by decide +kernel
theorem dX0_whyNot_54 : decode cX0_whyNot 54 = .ok (.iload_n 1, 1) := by decide +kernel
theorem dX0_whyNot_55 : decode cX0_whyNot 55 = .ok (.iload_n 2, 1) := by decide +kernel
theorem dX0_whyNot_56 : decode cX0_whyNot 56 = .ok (.iload 4, 2) := by decide +kernel
theorem dX0_whyNot_58 : decode cX0_whyNot 58 = .ok (.invokevirtual 40, 3) := by decide +kernel
theorem dX0_whyNot_61 : decode cX0_whyNot 61 = .ok (.iload_n 3, 1) := by decide +kernel
theorem dX0_whyNot_62 : decode cX0_whyNot 62 = .ok (.iconst 1, 1) := by decide +kernel
theorem dX0_whyNot_63 : decode cX0_whyNot 63 = .ok (.isub, 1) := by decide +kernel
theorem dX0_whyNot_64 : decode cX0_whyNot 64 = .ok (.if_icmp .eq 5, 3) := by decide +kernel
theorem dX0_whyNot_67 : decode cX0_whyNot 67 = .ok (.iconst 2, 1) := by decide +kernel
theorem dX0_whyNot_68 : decode cX0_whyNot 68 = .ok (.ireturn, 1) := by decide +kernel
theorem dX0_whyNot_69 : decode cX0_whyNot 69 = .ok (.aload_n 0, 1) := by decide +kernel
theorem dX0_whyNot_70 : decode cX0_whyNot 70 = .ok (.getfield 12, 3) := by decide +kernel
theorem dX0_whyNot_73 : decode cX0_whyNot 73 = .ok (.getfield 43, 3) := by decide +kernel
theorem dX0_whyNot_76 : decode cX0_whyNot 76 = .ok (.iload_n 1, 1) := by decide +kernel
theorem dX0_whyNot_77 : decode cX0_whyNot 77 = .ok (.iaload, 1) := by decide +kernel
theorem dX0_whyNot_78 : decode cX0_whyNot 78 = .ok (.iload 4, 2) := by decide +kernel
theorem dX0_whyNot_80 : decode cX0_whyNot 80 = .ok (.if_icmp .ge 5, 3) := by decide +kernel
theorem dX0_whyNot_83 : decode cX0_whyNot 83 = .ok (.iconst 3, 1) := by decide +kernel
theorem dX0_whyNot_84 : decode cX0_whyNot 84 = .ok (.ireturn, 1) := by decide +kernel
theorem dX0_whyNot_85 : decode cX0_whyNot 85 = .ok (.iload 4, 2) := by decide +kernel
theorem dX0_whyNot_87 : decode cX0_whyNot 87 = .ok (.aload_n 0, 1) := by decide +kernel
theorem dX0_whyNot_88 : decode cX0_whyNot 88 = .ok (.getfield 12, 3) := by decide +kernel
theorem dX0_whyNot_91 : decode cX0_whyNot 91 = .ok (.getfield 46, 3) := by decide +kernel
theorem dX0_whyNot_94 : decode cX0_whyNot 94 = .ok (.iload_n 1, 1) := by decide +kernel
theorem dX0_whyNot_95 : decode cX0_whyNot 95 = .ok (.iaload, 1) := by decide +kernel
theorem dX0_whyNot_96 : decode cX0_whyNot 96 = .ok (.isub, 1) := by decide +kernel
theorem dX0_whyNot_97 : decode cX0_whyNot 97 = .ok (.aload_n 0, 1) := by decide +kernel
theorem dX0_whyNot_98 : decode cX0_whyNot 98 = .ok (.getfield 21, 3) := by decide +kernel
theorem dX0_whyNot_101 : decode cX0_whyNot 101 = .ok (.getfield 49, 3) := by decide +kernel
theorem dX0_whyNot_104 : decode cX0_whyNot 104 = .ok (.iload 5, 2) := by decide +kernel
theorem dX0_whyNot_106 : decode cX0_whyNot 106 = .ok (.iaload, 1) := by decide +kernel
theorem dX0_whyNot_107 : decode cX0_whyNot 107 = .ok (.if_icmp .ge 5, 3) := by decide +kernel
theorem dX0_whyNot_110 : decode cX0_whyNot 110 = .ok (.iconst 4, 1) := by decide +kernel
theorem dX0_whyNot_111 : decode cX0_whyNot 111 = .ok (.ireturn, 1) := by decide +kernel
theorem dX0_whyNot_112 : decode cX0_whyNot 112 = .ok (.aload_n 0, 1) := by decide +kernel
theorem dX0_whyNot_113 : decode cX0_whyNot 113 = .ok (.getfield 28, 3) := by decide +kernel
theorem dX0_whyNot_116 : decode cX0_whyNot 116 = .ok (.iload_n 1, 1) := by decide +kernel
theorem dX0_whyNot_117 : decode cX0_whyNot 117 = .ok (.iload 4, 2) := by decide +kernel
theorem dX0_whyNot_119 : decode cX0_whyNot 119 = .ok (.invokevirtual 52, 3) := by decide +kernel
theorem dX0_whyNot_122 : decode cX0_whyNot 122 = .ok (.istore 7, 2) := by decide +kernel
theorem dX0_whyNot_124 : decode cX0_whyNot 124 = .ok (.iload 6, 2) := by decide +kernel
theorem dX0_whyNot_126 : decode cX0_whyNot 126 = .ok (.ifCond .eq 18, 3) := by decide +kernel
theorem dX0_whyNot_129 : decode cX0_whyNot 129 = .ok (.aload_n 0, 1) := by decide +kernel
theorem dX0_whyNot_130 : decode cX0_whyNot 130 = .ok (.getfield 21, 3) := by decide +kernel
theorem dX0_whyNot_133 : decode cX0_whyNot 133 = .ok (.getfield 56, 3) := by decide +kernel
theorem dX0_whyNot_136 : decode cX0_whyNot 136 = .ok (.iload 5, 2) := by decide +kernel
theorem dX0_whyNot_138 : decode cX0_whyNot 138 = .ok (.iaload, 1) := by decide +kernel
theorem dX0_whyNot_139 : decode cX0_whyNot 139 = .ok (.iconst 2, 1) := by decide +kernel
theorem dX0_whyNot_140 : decode cX0_whyNot 140 = .ok (.idiv, 1) := by decide +kernel
theorem dX0_whyNot_141 : decode cX0_whyNot 141 = .ok (.goto 13, 3) := by decide +kernel
theorem dX0_whyNot_144 : decode cX0_whyNot 144 = .ok (.aload_n 0, 1) := by decide +kernel
theorem dX0_whyNot_145 : decode cX0_whyNot 145 = .ok (.getfield 21, 3) := by decide +kernel
theorem dX0_whyNot_148 : decode cX0_whyNot 148 = .ok (.getfield 56, 3) := by decide +kernel
theorem dX0_whyNot_151 : decode cX0_whyNot 151 = .ok (.iload 5, 2) := by decide +kernel
theorem dX0_whyNot_153 : decode cX0_whyNot 153 = .ok (.iaload, 1) := by decide +kernel
theorem dX0_whyNot_154 : decode cX0_whyNot 154 = .ok (.istore 8, 2) := by decide +kernel
theorem dX0_whyNot_156 : decode cX0_whyNot 156 = .ok (.iload 7, 2) := by decide +kernel
theorem dX0_whyNot_158 : decode cX0_whyNot 158 = .ok (.ifCond .lt 15, 3) := by decide +kernel
theorem dX0_whyNot_161 : decode cX0_whyNot 161 = .ok (.iload 4, 2) := by decide +kernel
theorem dX0_whyNot_163 : decode cX0_whyNot 163 = .ok (.iload 7, 2) := by decide +kernel
theorem dX0_whyNot_165 : decode cX0_whyNot 165 = .ok (.isub, 1) := by decide +kernel
theorem dX0_whyNot_166 : decode cX0_whyNot 166 = .ok (.iload 8, 2) := by decide +kernel
theorem dX0_whyNot_168 : decode cX0_whyNot 168 = .ok (.if_icmp .ge 5, 3) := by decide +kernel
theorem dX0_whyNot_171 : decode cX0_whyNot 171 = .ok (.iconst 5, 1) := by decide +kernel
theorem dX0_whyNot_172 : decode cX0_whyNot 172 = .ok (.ireturn, 1) := by decide +kernel
theorem dX0_whyNot_173 : decode cX0_whyNot 173 = .ok (.aload_n 0, 1) := by decide +kernel
theorem dX0_whyNot_174 : decode cX0_whyNot 174 = .ok (.getfield 12, 3) := by decide +kernel
theorem dX0_whyNot_177 : decode cX0_whyNot 177 = .ok (.iload_n 1, 1) := by decide +kernel
theorem dX0_whyNot_178 : decode cX0_whyNot 178 = .ok (.aload_n 0, 1) := by decide +kernel
theorem dX0_whyNot_179 : decode cX0_whyNot 179 = .ok (.getfield 21, 3) := by decide +kernel
theorem dX0_whyNot_182 : decode cX0_whyNot 182 = .ok (.getfield 59, 3) := by decide +kernel
theorem dX0_whyNot_185 : decode cX0_whyNot 185 = .ok (.iload 5, 2) := by decide +kernel
theorem dX0_whyNot_187 : decode cX0_whyNot 187 = .ok (.iaload, 1) := by decide +kernel
theorem dX0_whyNot_188 : decode cX0_whyNot 188 = .ok (.iload 7, 2) := by decide +kernel
theorem dX0_whyNot_190 : decode cX0_whyNot 190 = .ok (.iconst 0, 1) := by decide +kernel
theorem dX0_whyNot_191 : decode cX0_whyNot 191 = .ok (.invokestatic 62, 3) := by decide +kernel
theorem dX0_whyNot_194 : decode cX0_whyNot 194 = .ok (.iload 4, 2) := by decide +kernel
theorem dX0_whyNot_196 : decode cX0_whyNot 196 = .ok (.invokevirtual 67, 3) := by decide +kernel
theorem dX0_whyNot_199 : decode cX0_whyNot 199 = .ok (.ifCond .eq 7, 3) := by decide +kernel
theorem dX0_whyNot_202 : decode cX0_whyNot 202 = .ok (.iconst 0, 1) := by decide +kernel
theorem dX0_whyNot_203 : decode cX0_whyNot 203 = .ok (.goto 5, 3) := by decide +kernel
theorem dX0_whyNot_206 : decode cX0_whyNot 206 = .ok (.bipush 6, 2) := by decide +kernel
theorem dX0_whyNot_208 : decode cX0_whyNot 208 = .ok (.ireturn, 1) := by decide +kernel
theorem dX0_whyNoPanel_0 : decode cX0_whyNoPanel 0 = .ok (.iload 4, 2) := by decide +kernel
theorem dX0_whyNoPanel_2 : decode cX0_whyNoPanel 2 = .ok (.invokestatic 71, 3) := by decide +kernel
theorem dX0_whyNoPanel_5 : decode cX0_whyNoPanel 5 = .ok (.iconst 3, 1) := by decide +kernel
theorem dX0_whyNoPanel_6 : decode cX0_whyNoPanel 6 = .ok (.if_icmp .eq 5, 3) := by decide +kernel
theorem dX0_whyNoPanel_9 : decode cX0_whyNoPanel 9 = .ok (.iconst 1, 1) := by decide +kernel
theorem dX0_whyNoPanel_10 : decode cX0_whyNoPanel 10 = .ok (.ireturn, 1) := by decide +kernel
theorem dX0_whyNoPanel_11 : decode cX0_whyNoPanel 11 = .ok (.iconst 0, 1) := by decide +kernel
theorem dX0_whyNoPanel_12 : decode cX0_whyNoPanel 12 = .ok (.istore 6, 2) := by decide +kernel
theorem dX0_whyNoPanel_14 : decode cX0_whyNoPanel 14 = .ok (.iconst 0, 1) := by decide +kernel
theorem dX0_whyNoPanel_15 : decode cX0_whyNoPanel 15 = .ok (.istore 7, 2) := by decide +kernel
theorem dX0_whyNoPanel_17 : decode cX0_whyNoPanel 17 = .ok (.iload 7, 2) := by decide +kernel
theorem dX0_whyNoPanel_19 : decode cX0_whyNoPanel 19 = .ok (.aload_n 0, 1) := by decide +kernel
theorem dX0_whyNoPanel_20 : decode cX0_whyNoPanel 20 = .ok (.getfield 12, 3) := by decide +kernel
theorem dX0_whyNoPanel_23 : decode cX0_whyNoPanel 23 = .ok (.getfield 77, 3) := by decide +kernel
theorem dX0_whyNoPanel_26 : decode cX0_whyNoPanel 26 = .ok (.if_icmp .ge 53, 3) := by decide +kernel
theorem dX0_whyNoPanel_29 : decode cX0_whyNoPanel 29 = .ok (.iload 4, 2) := by decide +kernel
theorem dX0_whyNoPanel_31 : decode cX0_whyNoPanel 31 = .ok (.iload 7, 2) := by decide +kernel
theorem dX0_whyNoPanel_33 : decode cX0_whyNoPanel 33 = .ok (.ishr, 1) := by decide +kernel
theorem dX0_whyNoPanel_34 : decode cX0_whyNoPanel 34 = .ok (.iconst 1, 1) := by decide +kernel
theorem dX0_whyNoPanel_35 : decode cX0_whyNoPanel 35 = .ok (.iand, 1) := by decide +kernel
theorem dX0_whyNoPanel_36 : decode cX0_whyNoPanel 36 = .ok (.ifCond .eq 37, 3) := by decide +kernel
theorem dX0_whyNoPanel_39 : decode cX0_whyNoPanel 39 = .ok (.aload_n 0, 1) := by decide +kernel
theorem dX0_whyNoPanel_40 : decode cX0_whyNoPanel 40 = .ok (.iload_n 1, 1) := by decide +kernel
theorem dX0_whyNoPanel_41 : decode cX0_whyNoPanel 41 = .ok (.iload_n 2, 1) := by decide +kernel
theorem dX0_whyNoPanel_42 : decode cX0_whyNoPanel 42 = .ok (.iload_n 3, 1) := by decide +kernel
theorem dX0_whyNoPanel_43 : decode cX0_whyNoPanel 43 = .ok (.iload 7, 2) := by decide +kernel
theorem dX0_whyNoPanel_45 : decode cX0_whyNoPanel 45 = .ok (.iload 5, 2) := by decide +kernel
theorem dX0_whyNoPanel_47 : decode cX0_whyNoPanel 47 = .ok (.invokevirtual 81, 3) := by decide +kernel
theorem dX0_whyNoPanel_50 : decode cX0_whyNoPanel 50 = .ok (.istore 8, 2) := by decide +kernel
theorem dX0_whyNoPanel_52 : decode cX0_whyNoPanel 52 = .ok (.iload 8, 2) := by decide +kernel
theorem dX0_whyNoPanel_54 : decode cX0_whyNoPanel 54 = .ok (.ifCond .eq 19, 3) := by decide +kernel
theorem dX0_whyNoPanel_57 : decode cX0_whyNoPanel 57 = .ok (.iload 6, 2) := by decide +kernel
theorem dX0_whyNoPanel_59 : decode cX0_whyNoPanel 59 = .ok (.ifCond .eq 10, 3) := by decide +kernel
theorem dX0_whyNoPanel_62 : decode cX0_whyNoPanel 62 = .ok (.iload 8, 2) := by decide +kernel
theorem dX0_whyNoPanel_64 : decode cX0_whyNoPanel 64 = .ok (.iload 6, 2) := by decide +kernel
theorem dX0_whyNoPanel_66 : decode cX0_whyNoPanel 66 = .ok (.if_icmp .ge 7, 3) := by decide +kernel
theorem dX0_whyNoPanel_69 : decode cX0_whyNoPanel 69 = .ok (.iload 8, 2) := by decide +kernel
theorem dX0_whyNoPanel_71 : decode cX0_whyNoPanel 71 = .ok (.istore 6, 2) := by decide +kernel
theorem dX0_whyNoPanel_73 : decode cX0_whyNoPanel 73 = .ok (.iinc 7 1, 3) := by decide +kernel
theorem dX0_whyNoPanel_76 : decode cX0_whyNoPanel 76 = .ok (.goto (-59), 3) := by decide +kernel
theorem dX0_whyNoPanel_79 : decode cX0_whyNoPanel 79 = .ok (.iload 6, 2) := by decide +kernel
theorem dX0_whyNoPanel_81 : decode cX0_whyNoPanel 81 = .ok (.ireturn, 1) := by decide +kernel
theorem dX0_whyNoJudge_0 : decode cX0_whyNoJudge 0 = .ok (.aload_n 0, 1) := by decide +kernel
theorem dX0_whyNoJudge_1 : decode cX0_whyNoJudge 1 = .ok (.getfield 12, 3) := by decide +kernel
theorem dX0_whyNoJudge_4 : decode cX0_whyNoJudge 4 = .ok (.iload 4, 2) := by decide +kernel
theorem dX0_whyNoJudge_6 : decode cX0_whyNoJudge 6 = .ok (.invokevirtual 85, 3) := by decide +kernel
theorem dX0_whyNoJudge_9 : decode cX0_whyNoJudge 9 = .ok (.ifCond .ne 5, 3) := by decide +kernel
theorem dX0_whyNoJudge_12 : decode cX0_whyNoJudge 12 = .ok (.iconst 2, 1) := by decide +kernel
theorem dX0_whyNoJudge_13 : decode cX0_whyNoJudge 13 = .ok (.ireturn, 1) := by decide +kernel
theorem dX0_whyNoJudge_14 : decode cX0_whyNoJudge 14 = .ok (.iload 4, 2) := by decide +kernel
theorem dX0_whyNoJudge_16 : decode cX0_whyNoJudge 16 = .ok (.iload_n 1, 1) := by decide +kernel
theorem dX0_whyNoJudge_17 : decode cX0_whyNoJudge 17 = .ok (.if_icmp .eq 25, 3) := by decide +kernel
theorem dX0_whyNoJudge_20 : decode cX0_whyNoJudge 20 = .ok (.aload_n 0, 1) := by decide +kernel
theorem dX0_whyNoJudge_21 : decode cX0_whyNoJudge 21 = .ok (.getfield 12, 3) := by decide +kernel
theorem dX0_whyNoJudge_24 : decode cX0_whyNoJudge 24 = .ok (.getfield 89, 3) := by decide +kernel
theorem dX0_whyNoJudge_27 : decode cX0_whyNoJudge 27 = .ok (.iload 4, 2) := by decide +kernel
theorem dX0_whyNoJudge_29 : decode cX0_whyNoJudge 29 = .ok (.iaload, 1) := by decide +kernel
theorem dX0_whyNoJudge_30 : decode cX0_whyNoJudge 30 = .ok (.aload_n 0, 1) := by decide +kernel
theorem dX0_whyNoJudge_31 : decode cX0_whyNoJudge 31 = .ok (.getfield 12, 3) := by decide +kernel
theorem dX0_whyNoJudge_34 : decode cX0_whyNoJudge 34 = .ok (.getfield 89, 3) := by decide +kernel
theorem dX0_whyNoJudge_37 : decode cX0_whyNoJudge 37 = .ok (.iload_n 1, 1) := by decide +kernel
theorem dX0_whyNoJudge_38 : decode cX0_whyNoJudge 38 = .ok (.iaload, 1) := by decide +kernel
theorem dX0_whyNoJudge_39 : decode cX0_whyNoJudge 39 = .ok (.if_icmp .ne 5, 3) := by decide +kernel
theorem dX0_whyNoJudge_42 : decode cX0_whyNoJudge 42 = .ok (.iconst 3, 1) := by decide +kernel
theorem dX0_whyNoJudge_43 : decode cX0_whyNoJudge 43 = .ok (.ireturn, 1) := by decide +kernel
theorem dX0_whyNoJudge_44 : decode cX0_whyNoJudge 44 = .ok (.aload_n 0, 1) := by decide +kernel
theorem dX0_whyNoJudge_45 : decode cX0_whyNoJudge 45 = .ok (.getfield 12, 3) := by decide +kernel
theorem dX0_whyNoJudge_48 : decode cX0_whyNoJudge 48 = .ok (.getfield 43, 3) := by decide +kernel
theorem dX0_whyNoJudge_51 : decode cX0_whyNoJudge 51 = .ok (.iload 4, 2) := by decide +kernel
theorem dX0_whyNoJudge_53 : decode cX0_whyNoJudge 53 = .ok (.iaload, 1) := by decide +kernel
theorem dX0_whyNoJudge_54 : decode cX0_whyNoJudge 54 = .ok (.iload_n 3, 1) := by decide +kernel
theorem dX0_whyNoJudge_55 : decode cX0_whyNoJudge 55 = .ok (.if_icmp .ge 5, 3) := by decide +kernel
theorem dX0_whyNoJudge_58 : decode cX0_whyNoJudge 58 = .ok (.iconst 4, 1) := by decide +kernel
theorem dX0_whyNoJudge_59 : decode cX0_whyNoJudge 59 = .ok (.ireturn, 1) := by decide +kernel
theorem dX0_whyNoJudge_60 : decode cX0_whyNoJudge 60 = .ok (.aload_n 0, 1) := by decide +kernel
theorem dX0_whyNoJudge_61 : decode cX0_whyNoJudge 61 = .ok (.getfield 28, 3) := by decide +kernel
theorem dX0_whyNoJudge_64 : decode cX0_whyNoJudge 64 = .ok (.getfield 92, 3) := by decide +kernel
theorem dX0_whyNoJudge_67 : decode cX0_whyNoJudge 67 = .ok (.iconst 1, 1) := by decide +kernel
theorem dX0_whyNoJudge_68 : decode cX0_whyNoJudge 68 = .ok (.iload 4, 2) := by decide +kernel
theorem dX0_whyNoJudge_70 : decode cX0_whyNoJudge 70 = .ok (.ishl, 1) := by decide +kernel
theorem dX0_whyNoJudge_71 : decode cX0_whyNoJudge 71 = .ok (.iload_n 3, 1) := by decide +kernel
theorem dX0_whyNoJudge_72 : decode cX0_whyNoJudge 72 = .ok (.iload_n 3, 1) := by decide +kernel
theorem dX0_whyNoJudge_73 : decode cX0_whyNoJudge 73 = .ok (.invokevirtual 96, 3) := by decide +kernel
theorem dX0_whyNoJudge_76 : decode cX0_whyNoJudge 76 = .ok (.ifCond .eq 5, 3) := by decide +kernel
theorem dX0_whyNoJudge_79 : decode cX0_whyNoJudge 79 = .ok (.iconst 5, 1) := by decide +kernel
theorem dX0_whyNoJudge_80 : decode cX0_whyNoJudge 80 = .ok (.ireturn, 1) := by decide +kernel
theorem dX0_whyNoJudge_81 : decode cX0_whyNoJudge 81 = .ok (.aload_n 0, 1) := by decide +kernel
theorem dX0_whyNoJudge_82 : decode cX0_whyNoJudge 82 = .ok (.getfield 28, 3) := by decide +kernel
theorem dX0_whyNoJudge_85 : decode cX0_whyNoJudge 85 = .ok (.iload 4, 2) := by decide +kernel
theorem dX0_whyNoJudge_87 : decode cX0_whyNoJudge 87 = .ok (.iload_n 2, 1) := by decide +kernel
theorem dX0_whyNoJudge_88 : decode cX0_whyNoJudge 88 = .ok (.iload_n 3, 1) := by decide +kernel
theorem dX0_whyNoJudge_89 : decode cX0_whyNoJudge 89 = .ok (.invokevirtual 40, 3) := by decide +kernel
theorem dX0_whyNoJudge_92 : decode cX0_whyNoJudge 92 = .ok (.iload 5, 2) := by decide +kernel
theorem dX0_whyNoJudge_94 : decode cX0_whyNoJudge 94 = .ok (.if_icmp .ge 8, 3) := by decide +kernel
theorem dX0_whyNoJudge_97 : decode cX0_whyNoJudge 97 = .ok (.bipush 6, 2) := by decide +kernel
theorem dX0_whyNoJudge_99 : decode cX0_whyNoJudge 99 = .ok (.goto 4, 3) := by decide +kernel
theorem dX0_whyNoJudge_102 : decode cX0_whyNoJudge 102 = .ok (.iconst 0, 1) := by decide +kernel
theorem dX0_whyNoJudge_103 : decode cX0_whyNoJudge 103 = .ok (.ireturn, 1) := by decide +kernel
theorem dX1_init_0 : decode cX1_init 0 = .ok (.aload_n 0, 1) := by decide +kernel
theorem dX1_init_1 : decode cX1_init 1 = .ok (.invokespecial 3, 3) := by decide +kernel
theorem dX1_init_4 : decode cX1_init 4 = .ok (.aload_n 0, 1) := by decide +kernel
theorem dX1_init_5 : decode cX1_init 5 = .ok (.iconst 4, 1) := by decide +kernel
theorem dX1_init_6 : decode cX1_init 6 = .ok (.newarray .int, 2) := by decide +kernel
theorem dX1_init_8 : decode cX1_init 8 = .ok (.putfield 9, 3) := by decide +kernel
theorem dX1_init_11 : decode cX1_init 11 = .ok (.aload_n 0, 1) := by decide +kernel
theorem dX1_init_12 : decode cX1_init 12 = .ok (.bipush 80, 2) := by decide +kernel
theorem dX1_init_14 : decode cX1_init 14 = .ok (.newarray .int, 2) := by decide +kernel
theorem dX1_init_16 : decode cX1_init 16 = .ok (.putfield 15, 3) := by decide +kernel
theorem dX1_init_19 : decode cX1_init 19 = .ok (.aload_n 0, 1) := by decide +kernel
theorem dX1_init_20 : decode cX1_init 20 = .ok (.iconst 4, 1) := by decide +kernel
theorem dX1_init_21 : decode cX1_init 21 = .ok (.newarray .int, 2) := by decide +kernel
theorem dX1_init_23 : decode cX1_init 23 = .ok (.putfield 18, 3) := by decide +kernel
theorem dX1_init_26 : decode cX1_init 26 = .ok (.aload_n 0, 1) := by decide +kernel
theorem dX1_init_27 : decode cX1_init 27 = .ok (.iconst 4, 1) := by decide +kernel
theorem dX1_init_28 : decode cX1_init 28 = .ok (.newarray .int, 2) := by decide +kernel
theorem dX1_init_30 : decode cX1_init 30 = .ok (.putfield 21, 3) := by decide +kernel
theorem dX1_init_33 : decode cX1_init 33 = .ok (.aload_n 0, 1) := by decide +kernel
theorem dX1_init_34 : decode cX1_init 34 = .ok (.bipush 6, 2) := by decide +kernel
theorem dX1_init_36 : decode cX1_init 36 = .ok (.newarray .int, 2) := by decide +kernel
theorem dX1_init_38 : decode cX1_init 38 = .ok (.putfield 24, 3) := by decide +kernel
theorem dX1_init_41 : decode cX1_init 41 = .ok (.return_, 1) := by decide +kernel
theorem dX1_holds_0 : decode cX1_holds 0 = .ok (.iconst 0, 1) := by decide +kernel
theorem dX1_holds_1 : decode cX1_holds 1 = .ok (.istore_n 2, 1) := by decide +kernel
theorem dX1_holds_2 : decode cX1_holds 2 = .ok (.iload_n 2, 1) := by decide +kernel
theorem dX1_holds_3 : decode cX1_holds 3 = .ok (.aload_n 0, 1) := by decide +kernel
theorem dX1_holds_4 : decode cX1_holds 4 = .ok (.getfield 27, 3) := by decide +kernel
theorem dX1_holds_7 : decode cX1_holds 7 = .ok (.if_icmp .ge 21, 3) := by decide +kernel
theorem dX1_holds_10 : decode cX1_holds 10 = .ok (.aload_n 0, 1) := by decide +kernel
theorem dX1_holds_11 : decode cX1_holds 11 = .ok (.getfield 9, 3) := by decide +kernel
theorem dX1_holds_14 : decode cX1_holds 14 = .ok (.iload_n 2, 1) := by decide +kernel
theorem dX1_holds_15 : decode cX1_holds 15 = .ok (.iaload, 1) := by decide +kernel
theorem dX1_holds_16 : decode cX1_holds 16 = .ok (.iload_n 1, 1) := by decide +kernel
theorem dX1_holds_17 : decode cX1_holds 17 = .ok (.if_icmp .ne 5, 3) := by decide +kernel
theorem dX1_holds_20 : decode cX1_holds 20 = .ok (.iconst 1, 1) := by decide +kernel
theorem dX1_holds_21 : decode cX1_holds 21 = .ok (.ireturn, 1) := by decide +kernel
theorem dX1_holds_22 : decode cX1_holds 22 = .ok (.iinc 2 1, 3) := by decide +kernel
theorem dX1_holds_25 : decode cX1_holds 25 = .ok (.goto (-23), 3) := by decide +kernel
theorem dX1_holds_28 : decode cX1_holds 28 = .ok (.iconst 0, 1) := by decide +kernel
theorem dX1_holds_29 : decode cX1_holds 29 = .ok (.ireturn, 1) := by decide +kernel
theorem dX1_add_0 : decode cX1_add 0 = .ok (.aload_n 0, 1) := by decide +kernel
theorem dX1_add_1 : decode cX1_add 1 = .ok (.getfield 9, 3) := by decide +kernel
theorem dX1_add_4 : decode cX1_add 4 = .ok (.aload_n 0, 1) := by decide +kernel
theorem dX1_add_5 : decode cX1_add 5 = .ok (.getfield 27, 3) := by decide +kernel
theorem dX1_add_8 : decode cX1_add 8 = .ok (.iload_n 1, 1) := by decide +kernel
theorem dX1_add_9 : decode cX1_add 9 = .ok (.iastore, 1) := by decide +kernel
theorem dX1_add_10 : decode cX1_add 10 = .ok (.aload_n 0, 1) := by decide +kernel
theorem dX1_add_11 : decode cX1_add 11 = .ok (.dup, 1) := by decide +kernel
theorem dX1_add_12 : decode cX1_add 12 = .ok (.getfield 27, 3) := by decide +kernel
theorem dX1_add_15 : decode cX1_add 15 = .ok (.iconst 1, 1) := by decide +kernel
theorem dX1_add_16 : decode cX1_add 16 = .ok (.iadd, 1) := by decide +kernel
theorem dX1_add_17 : decode cX1_add 17 = .ok (.putfield 27, 3) := by decide +kernel
theorem dX1_add_20 : decode cX1_add 20 = .ok (.aload_n 0, 1) := by decide +kernel
theorem dX1_add_21 : decode cX1_add 21 = .ok (.iconst 0, 1) := by decide +kernel
theorem dX1_add_22 : decode cX1_add 22 = .ok (.putfield 31, 3) := by decide +kernel
theorem dX1_add_25 : decode cX1_add 25 = .ok (.return_, 1) := by decide +kernel
theorem dX1_clear_0 : decode cX1_clear 0 = .ok (.aload_n 0, 1) := by decide +kernel
theorem dX1_clear_1 : decode cX1_clear 1 = .ok (.iconst 0, 1) := by decide +kernel
theorem dX1_clear_2 : decode cX1_clear 2 = .ok (.putfield 27, 3) := by decide +kernel
theorem dX1_clear_5 : decode cX1_clear 5 = .ok (.aload_n 0, 1) := by decide +kernel
theorem dX1_clear_6 : decode cX1_clear 6 = .ok (.iconst 0, 1) := by decide +kernel
theorem dX1_clear_7 : decode cX1_clear 7 = .ok (.putfield 31, 3) := by decide +kernel
theorem dX1_clear_10 : decode cX1_clear 10 = .ok (.return_, 1) := by decide +kernel
theorem dX1_seat_0 : decode cX1_seat 0 = .ok (.iconst 0, 1) := by decide +kernel
theorem dX1_seat_1 : decode cX1_seat 1 = .ok (.istore 5, 2) := by decide +kernel
theorem dX1_seat_3 : decode cX1_seat 3 = .ok (.iload 5, 2) := by decide +kernel
theorem dX1_seat_5 : decode cX1_seat 5 = .ok (.aload_n 0, 1) := by decide +kernel
theorem dX1_seat_6 : decode cX1_seat 6 = .ok (.getfield 27, 3) := by decide +kernel
theorem dX1_seat_9 : decode cX1_seat 9 = .ok (.if_icmp .ge 18, 3) := by decide +kernel
theorem dX1_seat_12 : decode cX1_seat 12 = .ok (.aload_n 0, 1) := by decide +kernel
theorem dX1_seat_13 : decode cX1_seat 13 = .ok (.aload_n 1, 1) := by decide +kernel
theorem dX1_seat_14 : decode cX1_seat 14 = .ok (.iload 5, 2) := by decide +kernel
theorem dX1_seat_16 : decode cX1_seat 16 = .ok (.iload_n 2, 1) := by decide +kernel
theorem dX1_seat_17 : decode cX1_seat 17 = .ok (.iload_n 3, 1) := by decide +kernel
theorem dX1_seat_18 : decode cX1_seat 18 = .ok (.invokevirtual 35, 3) := by decide +kernel
theorem dX1_seat_21 : decode cX1_seat 21 = .ok (.iinc 5 1, 3) := by decide +kernel
theorem dX1_seat_24 : decode cX1_seat 24 = .ok (.goto (-21), 3) := by decide +kernel
theorem dX1_seat_27 : decode cX1_seat 27 = .ok (.aload_n 0, 1) := by decide +kernel
theorem dX1_seat_28 : decode cX1_seat 28 = .ok (.iconst 1, 1) := by decide +kernel
theorem dX1_seat_29 : decode cX1_seat 29 = .ok (.putfield 31, 3) := by decide +kernel
theorem dX1_seat_32 : decode cX1_seat 32 = .ok (.aload_n 0, 1) := by decide +kernel
theorem dX1_seat_33 : decode cX1_seat 33 = .ok (.getfield 27, 3) := by decide +kernel
theorem dX1_seat_36 : decode cX1_seat 36 = .ok (.istore 5, 2) := by decide +kernel
theorem dX1_seat_38 : decode cX1_seat 38 = .ok (.iload 5, 2) := by decide +kernel
theorem dX1_seat_40 : decode cX1_seat 40 = .ok (.ifCond .le 21, 3) := by decide +kernel
theorem dX1_seat_43 : decode cX1_seat 43 = .ok (.aload_n 0, 1) := by decide +kernel
theorem dX1_seat_44 : decode cX1_seat 44 = .ok (.iconst 0, 1) := by decide +kernel
theorem dX1_seat_45 : decode cX1_seat 45 = .ok (.iload 5, 2) := by decide +kernel
theorem dX1_seat_47 : decode cX1_seat 47 = .ok (.iload 4, 2) := by decide +kernel
theorem dX1_seat_49 : decode cX1_seat 49 = .ok (.invokevirtual 39, 3) := by decide +kernel
theorem dX1_seat_52 : decode cX1_seat 52 = .ok (.ifCond .ne 9, 3) := by decide +kernel
theorem dX1_seat_55 : decode cX1_seat 55 = .ok (.iinc 5 (-1), 3) := by decide +kernel
theorem dX1_seat_58 : decode cX1_seat 58 = .ok (.goto (-20), 3) := by decide +kernel
theorem dX1_seat_61 : decode cX1_seat 61 = .ok (.iload 5, 2) := by decide +kernel
theorem dX1_seat_63 : decode cX1_seat 63 = .ok (.ifCond .ne 11, 3) := by decide +kernel
theorem dX1_seat_66 : decode cX1_seat 66 = .ok (.aload_n 0, 1) := by decide +kernel
theorem dX1_seat_67 : decode cX1_seat 67 = .ok (.getfield 21, 3) := by decide +kernel
theorem dX1_seat_70 : decode cX1_seat 70 = .ok (.iconst 0, 1) := by decide +kernel
theorem dX1_seat_71 : decode cX1_seat 71 = .ok (.invokestatic 43, 3) := by decide +kernel
theorem dX1_seat_74 : decode cX1_seat 74 = .ok (.iload 5, 2) := by decide +kernel
theorem dX1_seat_76 : decode cX1_seat 76 = .ok (.ireturn, 1) := by decide +kernel
theorem dX1_listOptions_0 : decode cX1_listOptions 0 = .ok (.aload_n 0, 1) := by decide +kernel
theorem dX1_listOptions_1 : decode cX1_listOptions 1 = .ok (.getfield 18, 3) := by decide +kernel
theorem dX1_listOptions_4 : decode cX1_listOptions 4 = .ok (.iload_n 2, 1) := by decide +kernel
theorem dX1_listOptions_5 : decode cX1_listOptions 5 = .ok (.iconst 0, 1) := by decide +kernel
theorem dX1_listOptions_6 : decode cX1_listOptions 6 = .ok (.iastore, 1) := by decide +kernel
theorem dX1_listOptions_7 : decode cX1_listOptions 7 = .ok (.aload_n 0, 1) := by decide +kernel
theorem dX1_listOptions_8 : decode cX1_listOptions 8 = .ok (.getfield 9, 3) := by decide +kernel
theorem dX1_listOptions_11 : decode cX1_listOptions 11 = .ok (.iload_n 2, 1) := by decide +kernel
theorem dX1_listOptions_12 : decode cX1_listOptions 12 = .ok (.iaload, 1) := by decide +kernel
theorem dX1_listOptions_13 : decode cX1_listOptions 13 = .ok (.istore 5, 2) := by decide +kernel
theorem dX1_listOptions_15 : decode cX1_listOptions 15 = .ok (.aload_n 1, 1) := by decide +kernel
theorem dX1_listOptions_16 : decode cX1_listOptions 16 = .ok (.getfield 49, 3) := by decide +kernel
theorem dX1_listOptions_19 : decode cX1_listOptions 19 = .ok (.iload 5, 2) := by decide +kernel
theorem dX1_listOptions_21 : decode cX1_listOptions 21 = .ok (.iload_n 3, 1) := by decide +kernel
theorem dX1_listOptions_22 : decode cX1_listOptions 22 = .ok (.iload 4, 2) := by decide +kernel
theorem dX1_listOptions_24 : decode cX1_listOptions 24 = .ok (.invokevirtual 55, 3) := by decide +kernel
theorem dX1_listOptions_27 : decode cX1_listOptions 27 = .ok (.iconst 1, 1) := by decide +kernel
theorem dX1_listOptions_28 : decode cX1_listOptions 28 = .ok (.iadd, 1) := by decide +kernel
theorem dX1_listOptions_29 : decode cX1_listOptions 29 = .ok (.istore 6, 2) := by decide +kernel
theorem dX1_listOptions_31 : decode cX1_listOptions 31 = .ok (.aload_n 1, 1) := by decide +kernel
theorem dX1_listOptions_32 : decode cX1_listOptions 32 = .ok (.getfield 61, 3) := by decide +kernel
theorem dX1_listOptions_35 : decode cX1_listOptions 35 = .ok (.iload_n 3, 1) := by decide +kernel
theorem dX1_listOptions_36 : decode cX1_listOptions 36 = .ok (.iload 6, 2) := by decide +kernel
theorem dX1_listOptions_38 : decode cX1_listOptions 38 = .ok (.iload 4, 2) := by decide +kernel
theorem dX1_listOptions_40 : decode cX1_listOptions 40 = .ok (.invokevirtual 65, 3) := by decide +kernel
theorem dX1_listOptions_43 : decode cX1_listOptions 43 = .ok (.istore 7, 2) := by decide +kernel
theorem dX1_listOptions_45 : decode cX1_listOptions 45 = .ok (.iload 7, 2) := by decide +kernel
theorem dX1_listOptions_47 : decode cX1_listOptions 47 = .ok (.ifCond .lt 17, 3) := by decide +kernel
theorem dX1_listOptions_50 : decode cX1_listOptions 50 = .ok (.aload_n 1, 1) := by decide +kernel
theorem dX1_listOptions_51 : decode cX1_listOptions 51 = .ok (.iload 5, 2) := by decide +kernel
theorem dX1_listOptions_53 : decode cX1_listOptions 53 = .ok (.iload_n 3, 1) := by decide +kernel
theorem dX1_listOptions_54 : decode cX1_listOptions 54 = .ok (.iload 6, 2) := by decide +kernel
theorem dX1_listOptions_56 : decode cX1_listOptions 56 = .ok (.iload 4, 2) := by decide +kernel
theorem dX1_listOptions_58 : decode cX1_listOptions 58 = .ok (.invokevirtual 70, 3) := by decide +kernel
theorem dX1_listOptions_61 : decode cX1_listOptions 61 = .ok (.ifCond .eq 4, 3) := by decide +kernel
theorem dX1_listOptions_64 : decode cX1_listOptions 64 = .ok (.return_, 1) := by decide +kernel
theorem dX1_listOptions_65 : decode cX1_listOptions 65 = .ok (.iconst 0, 1) := by decide +kernel
theorem dX1_listOptions_66 : decode cX1_listOptions 66 = .ok (.istore 8, 2) := by decide +kernel
theorem dX1_listOptions_68 : decode cX1_listOptions 68 = .ok (.iconst 0, 1) := by decide +kernel
theorem dX1_listOptions_69 : decode cX1_listOptions 69 = .ok (.istore 9, 2) := by decide +kernel
theorem dX1_listOptions_71 : decode cX1_listOptions 71 = .ok (.iload 9, 2) := by decide +kernel
theorem dX1_listOptions_73 : decode cX1_listOptions 73 = .ok (.aload_n 1, 1) := by decide +kernel
theorem dX1_listOptions_74 : decode cX1_listOptions 74 = .ok (.getfield 74, 3) := by decide +kernel
theorem dX1_listOptions_77 : decode cX1_listOptions 77 = .ok (.getfield 78, 3) := by decide +kernel
theorem dX1_listOptions_80 : decode cX1_listOptions 80 = .ok (.if_icmp .ge 52, 3) := by decide +kernel
theorem dX1_listOptions_83 : decode cX1_listOptions 83 = .ok (.iload 8, 2) := by decide +kernel
theorem dX1_listOptions_85 : decode cX1_listOptions 85 = .ok (.bipush 6, 2) := by decide +kernel
theorem dX1_listOptions_87 : decode cX1_listOptions 87 = .ok (.if_icmp .ge 39, 3) := by decide +kernel
theorem dX1_listOptions_90 : decode cX1_listOptions 90 = .ok (.aload_n 1, 1) := by decide +kernel
theorem dX1_listOptions_91 : decode cX1_listOptions 91 = .ok (.iload 5, 2) := by decide +kernel
theorem dX1_listOptions_93 : decode cX1_listOptions 93 = .ok (.iload_n 3, 1) := by decide +kernel
theorem dX1_listOptions_94 : decode cX1_listOptions 94 = .ok (.iload 4, 2) := by decide +kernel
theorem dX1_listOptions_96 : decode cX1_listOptions 96 = .ok (.iload 9, 2) := by decide +kernel
theorem dX1_listOptions_98 : decode cX1_listOptions 98 = .ok (.aload_n 1, 1) := by decide +kernel
theorem dX1_listOptions_99 : decode cX1_listOptions 99 = .ok (.getfield 61, 3) := by decide +kernel
theorem dX1_listOptions_102 : decode cX1_listOptions 102 = .ok (.getfield 81, 3) := by decide +kernel
theorem dX1_listOptions_105 : decode cX1_listOptions 105 = .ok (.iload 7, 2) := by decide +kernel
theorem dX1_listOptions_107 : decode cX1_listOptions 107 = .ok (.iaload, 1) := by decide +kernel
theorem dX1_listOptions_108 : decode cX1_listOptions 108 = .ok (.invokevirtual 84, 3) := by decide +kernel
theorem dX1_listOptions_111 : decode cX1_listOptions 111 = .ok (.ifCond .ne 15, 3) := by decide +kernel
theorem dX1_listOptions_114 : decode cX1_listOptions 114 = .ok (.aload_n 0, 1) := by decide +kernel
theorem dX1_listOptions_115 : decode cX1_listOptions 115 = .ok (.getfield 24, 3) := by decide +kernel
theorem dX1_listOptions_118 : decode cX1_listOptions 118 = .ok (.iload 8, 2) := by decide +kernel
theorem dX1_listOptions_120 : decode cX1_listOptions 120 = .ok (.iload 9, 2) := by decide +kernel
theorem dX1_listOptions_122 : decode cX1_listOptions 122 = .ok (.iastore, 1) := by decide +kernel
theorem dX1_listOptions_123 : decode cX1_listOptions 123 = .ok (.iinc 8 1, 3) := by decide +kernel
theorem dX1_listOptions_126 : decode cX1_listOptions 126 = .ok (.iinc 9 1, 3) := by decide +kernel
theorem dX1_listOptions_129 : decode cX1_listOptions 129 = .ok (.goto (-58), 3) := by decide +kernel
theorem dX1_listOptions_132 : decode cX1_listOptions 132 = .ok (.aload_n 0, 1) := by decide +kernel
theorem dX1_listOptions_133 : decode cX1_listOptions 133 = .ok (.iload_n 2, 1) := by decide +kernel
theorem dX1_listOptions_134 : decode cX1_listOptions 134 = .ok (.iload 8, 2) := by decide +kernel
theorem dX1_listOptions_136 : decode cX1_listOptions 136 = .ok (.invokevirtual 88, 3) := by decide +kernel
theorem dX1_listOptions_139 : decode cX1_listOptions 139 = .ok (.return_, 1) := by decide +kernel
theorem dX1_listPanels_0 : decode cX1_listPanels 0 = .ok (.iconst 2, 1) := by decide +kernel
theorem dX1_listPanels_1 : decode cX1_listPanels 1 = .ok (.istore_n 3, 1) := by decide +kernel
theorem dX1_listPanels_2 : decode cX1_listPanels 2 = .ok (.iload_n 3, 1) := by decide +kernel
theorem dX1_listPanels_3 : decode cX1_listPanels 3 = .ok (.iload_n 2, 1) := by decide +kernel
theorem dX1_listPanels_4 : decode cX1_listPanels 4 = .ok (.if_icmp .ge 98, 3) := by decide +kernel
theorem dX1_listPanels_7 : decode cX1_listPanels 7 = .ok (.iconst 1, 1) := by decide +kernel
theorem dX1_listPanels_8 : decode cX1_listPanels 8 = .ok (.istore 4, 2) := by decide +kernel
theorem dX1_listPanels_10 : decode cX1_listPanels 10 = .ok (.iload 4, 2) := by decide +kernel
theorem dX1_listPanels_12 : decode cX1_listPanels 12 = .ok (.iload_n 3, 1) := by decide +kernel
theorem dX1_listPanels_13 : decode cX1_listPanels 13 = .ok (.if_icmp .ge 83, 3) := by decide +kernel
theorem dX1_listPanels_16 : decode cX1_listPanels 16 = .ok (.iconst 0, 1) := by decide +kernel
theorem dX1_listPanels_17 : decode cX1_listPanels 17 = .ok (.istore 5, 2) := by decide +kernel
theorem dX1_listPanels_19 : decode cX1_listPanels 19 = .ok (.iload 5, 2) := by decide +kernel
theorem dX1_listPanels_21 : decode cX1_listPanels 21 = .ok (.iload 4, 2) := by decide +kernel
theorem dX1_listPanels_23 : decode cX1_listPanels 23 = .ok (.if_icmp .ge 67, 3) := by decide +kernel
theorem dX1_listPanels_26 : decode cX1_listPanels 26 = .ok (.iconst 1, 1) := by decide +kernel
theorem dX1_listPanels_27 : decode cX1_listPanels 27 = .ok (.aload_n 0, 1) := by decide +kernel
theorem dX1_listPanels_28 : decode cX1_listPanels 28 = .ok (.getfield 24, 3) := by decide +kernel
theorem dX1_listPanels_31 : decode cX1_listPanels 31 = .ok (.iload 5, 2) := by decide +kernel
theorem dX1_listPanels_33 : decode cX1_listPanels 33 = .ok (.iaload, 1) := by decide +kernel
theorem dX1_listPanels_34 : decode cX1_listPanels 34 = .ok (.ishl, 1) := by decide +kernel
theorem dX1_listPanels_35 : decode cX1_listPanels 35 = .ok (.iconst 1, 1) := by decide +kernel
theorem dX1_listPanels_36 : decode cX1_listPanels 36 = .ok (.aload_n 0, 1) := by decide +kernel
theorem dX1_listPanels_37 : decode cX1_listPanels 37 = .ok (.getfield 24, 3) := by decide +kernel
theorem dX1_listPanels_40 : decode cX1_listPanels 40 = .ok (.iload 4, 2) := by decide +kernel
theorem dX1_listPanels_42 : decode cX1_listPanels 42 = .ok (.iaload, 1) := by decide +kernel
theorem dX1_listPanels_43 : decode cX1_listPanels 43 = .ok (.ishl, 1) := by decide +kernel
theorem dX1_listPanels_44 : decode cX1_listPanels 44 = .ok (.ior, 1) := by decide +kernel
theorem dX1_listPanels_45 : decode cX1_listPanels 45 = .ok (.iconst 1, 1) := by decide +kernel
theorem dX1_listPanels_46 : decode cX1_listPanels 46 = .ok (.aload_n 0, 1) := by decide +kernel
theorem dX1_listPanels_47 : decode cX1_listPanels 47 = .ok (.getfield 24, 3) := by decide +kernel
theorem dX1_listPanels_50 : decode cX1_listPanels 50 = .ok (.iload_n 3, 1) := by decide +kernel
theorem dX1_listPanels_51 : decode cX1_listPanels 51 = .ok (.iaload, 1) := by decide +kernel
theorem dX1_listPanels_52 : decode cX1_listPanels 52 = .ok (.ishl, 1) := by decide +kernel
theorem dX1_listPanels_53 : decode cX1_listPanels 53 = .ok (.ior, 1) := by decide +kernel
theorem dX1_listPanels_54 : decode cX1_listPanels 54 = .ok (.istore 6, 2) := by decide +kernel
theorem dX1_listPanels_56 : decode cX1_listPanels 56 = .ok (.aload_n 0, 1) := by decide +kernel
theorem dX1_listPanels_57 : decode cX1_listPanels 57 = .ok (.getfield 15, 3) := by decide +kernel
theorem dX1_listPanels_60 : decode cX1_listPanels 60 = .ok (.iload_n 1, 1) := by decide +kernel
theorem dX1_listPanels_61 : decode cX1_listPanels 61 = .ok (.bipush 20, 2) := by decide +kernel
theorem dX1_listPanels_63 : decode cX1_listPanels 63 = .ok (.imul, 1) := by decide +kernel
theorem dX1_listPanels_64 : decode cX1_listPanels 64 = .ok (.aload_n 0, 1) := by decide +kernel
theorem dX1_listPanels_65 : decode cX1_listPanels 65 = .ok (.getfield 18, 3) := by decide +kernel
theorem dX1_listPanels_68 : decode cX1_listPanels 68 = .ok (.iload_n 1, 1) := by decide +kernel
theorem dX1_listPanels_69 : decode cX1_listPanels 69 = .ok (.iaload, 1) := by decide +kernel
theorem dX1_listPanels_70 : decode cX1_listPanels 70 = .ok (.iadd, 1) := by decide +kernel
theorem dX1_listPanels_71 : decode cX1_listPanels 71 = .ok (.iload 6, 2) := by decide +kernel
theorem dX1_listPanels_73 : decode cX1_listPanels 73 = .ok (.iastore, 1) := by decide +kernel
theorem dX1_listPanels_74 : decode cX1_listPanels 74 = .ok (.aload_n 0, 1) := by decide +kernel
theorem dX1_listPanels_75 : decode cX1_listPanels 75 = .ok (.getfield 18, 3) := by decide +kernel
theorem dX1_listPanels_78 : decode cX1_listPanels 78 = .ok (.iload_n 1, 1) := by decide +kernel
theorem dX1_listPanels_79 : decode cX1_listPanels 79 = .ok (.dup2, 1) := by decide +kernel
theorem dX1_listPanels_80 : decode cX1_listPanels 80 = .ok (.iaload, 1) := by decide +kernel
theorem dX1_listPanels_81 : decode cX1_listPanels 81 = .ok (.iconst 1, 1) := by decide +kernel
theorem dX1_listPanels_82 : decode cX1_listPanels 82 = .ok (.iadd, 1) := by decide +kernel
theorem dX1_listPanels_83 : decode cX1_listPanels 83 = .ok (.iastore, 1) := by decide +kernel
theorem dX1_listPanels_84 : decode cX1_listPanels 84 = .ok (.iinc 5 1, 3) := by decide +kernel
theorem dX1_listPanels_87 : decode cX1_listPanels 87 = .ok (.goto (-68), 3) := by decide +kernel
theorem dX1_listPanels_90 : decode cX1_listPanels 90 = .ok (.iinc 4 1, 3) := by decide +kernel
theorem dX1_listPanels_93 : decode cX1_listPanels 93 = .ok (.goto (-83), 3) := by decide +kernel
theorem dX1_listPanels_96 : decode cX1_listPanels 96 = .ok (.iinc 3 1, 3) := by decide +kernel
theorem dX1_listPanels_99 : decode cX1_listPanels 99 = .ok (.goto (-97), 3) := by decide +kernel
theorem dX1_listPanels_102 : decode cX1_listPanels 102 = .ok (.return_, 1) := by decide +kernel
theorem dX1_place_0 : decode cX1_place 0 = .ok (.iload_n 2, 1) := by decide +kernel
theorem dX1_place_1 : decode cX1_place 1 = .ok (.aload_n 0, 1) := by decide +kernel
theorem dX1_place_2 : decode cX1_place 2 = .ok (.iload_n 1, 1) := by decide +kernel
theorem dX1_place_3 : decode cX1_place 3 = .ok (.invokevirtual 92, 3) := by decide +kernel
theorem dX1_place_6 : decode cX1_place 6 = .ok (.if_icmp .le 5, 3) := by decide +kernel
theorem dX1_place_9 : decode cX1_place 9 = .ok (.iconst 0, 1) := by decide +kernel
theorem dX1_place_10 : decode cX1_place 10 = .ok (.ireturn, 1) := by decide +kernel
theorem dX1_place_11 : decode cX1_place 11 = .ok (.iload_n 1, 1) := by decide +kernel
theorem dX1_place_12 : decode cX1_place 12 = .ok (.aload_n 0, 1) := by decide +kernel
theorem dX1_place_13 : decode cX1_place 13 = .ok (.getfield 27, 3) := by decide +kernel
theorem dX1_place_16 : decode cX1_place 16 = .ok (.if_icmp .lt 5, 3) := by decide +kernel
theorem dX1_place_19 : decode cX1_place 19 = .ok (.iconst 1, 1) := by decide +kernel
theorem dX1_place_20 : decode cX1_place 20 = .ok (.ireturn, 1) := by decide +kernel
theorem dX1_place_21 : decode cX1_place 21 = .ok (.aload_n 0, 1) := by decide +kernel
theorem dX1_place_22 : decode cX1_place 22 = .ok (.iload_n 1, 1) := by decide +kernel
theorem dX1_place_23 : decode cX1_place 23 = .ok (.iload_n 3, 1) := by decide +kernel
theorem dX1_place_24 : decode cX1_place 24 = .ok (.invokevirtual 96, 3) := by decide +kernel
theorem dX1_place_27 : decode cX1_place 27 = .ok (.istore 4, 2) := by decide +kernel
theorem dX1_place_29 : decode cX1_place 29 = .ok (.iconst 0, 1) := by decide +kernel
theorem dX1_place_30 : decode cX1_place 30 = .ok (.istore 5, 2) := by decide +kernel
theorem dX1_place_32 : decode cX1_place 32 = .ok (.iload 5, 2) := by decide +kernel
theorem dX1_place_34 : decode cX1_place 34 = .ok (.aload_n 0, 1) := by decide +kernel
theorem dX1_place_35 : decode cX1_place 35 = .ok (.getfield 18, 3) := by decide +kernel
theorem dX1_place_38 : decode cX1_place 38 = .ok (.iload_n 1, 1) := by decide +kernel
theorem dX1_place_39 : decode cX1_place 39 = .ok (.iaload, 1) := by decide +kernel
theorem dX1_place_40 : decode cX1_place 40 = .ok (.if_icmp .ge 55, 3) := by decide +kernel
theorem dX1_place_43 : decode cX1_place 43 = .ok (.aload_n 0, 1) := by decide +kernel
theorem dX1_place_44 : decode cX1_place 44 = .ok (.getfield 15, 3) := by decide +kernel
theorem dX1_place_47 : decode cX1_place 47 = .ok (.iload_n 1, 1) := by decide +kernel
theorem dX1_place_48 : decode cX1_place 48 = .ok (.bipush 20, 2) := by decide +kernel
theorem dX1_place_50 : decode cX1_place 50 = .ok (.imul, 1) := by decide +kernel
theorem dX1_place_51 : decode cX1_place 51 = .ok (.iload 5, 2) := by decide +kernel
theorem dX1_place_53 : decode cX1_place 53 = .ok (.iadd, 1) := by decide +kernel
theorem dX1_place_54 : decode cX1_place 54 = .ok (.iaload, 1) := by decide +kernel
theorem dX1_place_55 : decode cX1_place 55 = .ok (.istore 6, 2) := by decide +kernel
theorem dX1_place_57 : decode cX1_place 57 = .ok (.iload 6, 2) := by decide +kernel
theorem dX1_place_59 : decode cX1_place 59 = .ok (.iload 4, 2) := by decide +kernel
theorem dX1_place_61 : decode cX1_place 61 = .ok (.iand, 1) := by decide +kernel
theorem dX1_place_62 : decode cX1_place 62 = .ok (.ifCond .ne 27, 3) := by decide +kernel
theorem dX1_place_65 : decode cX1_place 65 = .ok (.aload_n 0, 1) := by decide +kernel
theorem dX1_place_66 : decode cX1_place 66 = .ok (.getfield 21, 3) := by decide +kernel
theorem dX1_place_69 : decode cX1_place 69 = .ok (.iload_n 1, 1) := by decide +kernel
theorem dX1_place_70 : decode cX1_place 70 = .ok (.iload 6, 2) := by decide +kernel
theorem dX1_place_72 : decode cX1_place 72 = .ok (.iastore, 1) := by decide +kernel
theorem dX1_place_73 : decode cX1_place 73 = .ok (.aload_n 0, 1) := by decide +kernel
theorem dX1_place_74 : decode cX1_place 74 = .ok (.iload_n 1, 1) := by decide +kernel
theorem dX1_place_75 : decode cX1_place 75 = .ok (.iconst 1, 1) := by decide +kernel
theorem dX1_place_76 : decode cX1_place 76 = .ok (.iadd, 1) := by decide +kernel
theorem dX1_place_77 : decode cX1_place 77 = .ok (.iload_n 2, 1) := by decide +kernel
theorem dX1_place_78 : decode cX1_place 78 = .ok (.iconst 1, 1) := by decide +kernel
theorem dX1_place_79 : decode cX1_place 79 = .ok (.isub, 1) := by decide +kernel
theorem dX1_place_80 : decode cX1_place 80 = .ok (.iload_n 3, 1) := by decide +kernel
theorem dX1_place_81 : decode cX1_place 81 = .ok (.invokevirtual 39, 3) := by decide +kernel
theorem dX1_place_84 : decode cX1_place 84 = .ok (.ifCond .eq 5, 3) := by decide +kernel
theorem dX1_place_87 : decode cX1_place 87 = .ok (.iconst 1, 1) := by decide +kernel
theorem dX1_place_88 : decode cX1_place 88 = .ok (.ireturn, 1) := by decide +kernel
theorem dX1_place_89 : decode cX1_place 89 = .ok (.iinc 5 1, 3) := by decide +kernel
theorem dX1_place_92 : decode cX1_place 92 = .ok (.goto (-60), 3) := by decide +kernel
theorem dX1_place_95 : decode cX1_place 95 = .ok (.aload_n 0, 1) := by decide +kernel
theorem dX1_place_96 : decode cX1_place 96 = .ok (.getfield 21, 3) := by decide +kernel
theorem dX1_place_99 : decode cX1_place 99 = .ok (.iload_n 1, 1) := by decide +kernel
theorem dX1_place_100 : decode cX1_place 100 = .ok (.iconst 0, 1) := by decide +kernel
theorem dX1_place_101 : decode cX1_place 101 = .ok (.iastore, 1) := by decide +kernel
theorem dX1_place_102 : decode cX1_place 102 = .ok (.aload_n 0, 1) := by decide +kernel
theorem dX1_place_103 : decode cX1_place 103 = .ok (.iload_n 1, 1) := by decide +kernel
theorem dX1_place_104 : decode cX1_place 104 = .ok (.iconst 1, 1) := by decide +kernel
theorem dX1_place_105 : decode cX1_place 105 = .ok (.iadd, 1) := by decide +kernel
theorem dX1_place_106 : decode cX1_place 106 = .ok (.iload_n 2, 1) := by decide +kernel
theorem dX1_place_107 : decode cX1_place 107 = .ok (.iload_n 3, 1) := by decide +kernel
theorem dX1_place_108 : decode cX1_place 108 = .ok (.invokevirtual 39, 3) := by decide +kernel
theorem dX1_place_111 : decode cX1_place 111 = .ok (.ireturn, 1) := by decide +kernel
theorem dX1_ableFrom_0 : decode cX1_ableFrom 0 = .ok (.iconst 0, 1) := by decide +kernel
theorem dX1_ableFrom_1 : decode cX1_ableFrom 1 = .ok (.istore_n 2, 1) := by decide +kernel
theorem dX1_ableFrom_2 : decode cX1_ableFrom 2 = .ok (.iload_n 1, 1) := by decide +kernel
theorem dX1_ableFrom_3 : decode cX1_ableFrom 3 = .ok (.istore_n 3, 1) := by decide +kernel
theorem dX1_ableFrom_4 : decode cX1_ableFrom 4 = .ok (.iload_n 3, 1) := by decide +kernel
theorem dX1_ableFrom_5 : decode cX1_ableFrom 5 = .ok (.aload_n 0, 1) := by decide +kernel
theorem dX1_ableFrom_6 : decode cX1_ableFrom 6 = .ok (.getfield 27, 3) := by decide +kernel
theorem dX1_ableFrom_9 : decode cX1_ableFrom 9 = .ok (.if_icmp .ge 21, 3) := by decide +kernel
theorem dX1_ableFrom_12 : decode cX1_ableFrom 12 = .ok (.aload_n 0, 1) := by decide +kernel
theorem dX1_ableFrom_13 : decode cX1_ableFrom 13 = .ok (.getfield 18, 3) := by decide +kernel
theorem dX1_ableFrom_16 : decode cX1_ableFrom 16 = .ok (.iload_n 3, 1) := by decide +kernel
theorem dX1_ableFrom_17 : decode cX1_ableFrom 17 = .ok (.iaload, 1) := by decide +kernel
theorem dX1_ableFrom_18 : decode cX1_ableFrom 18 = .ok (.ifCond .le 6, 3) := by decide +kernel
theorem dX1_ableFrom_21 : decode cX1_ableFrom 21 = .ok (.iinc 2 1, 3) := by decide +kernel
theorem dX1_ableFrom_24 : decode cX1_ableFrom 24 = .ok (.iinc 3 1, 3) := by decide +kernel
theorem dX1_ableFrom_27 : decode cX1_ableFrom 27 = .ok (.goto (-23), 3) := by decide +kernel
theorem dX1_ableFrom_30 : decode cX1_ableFrom 30 = .ok (.iload_n 2, 1) := by decide +kernel
theorem dX1_ableFrom_31 : decode cX1_ableFrom 31 = .ok (.ireturn, 1) := by decide +kernel
theorem dX1_fullAhead_0 : decode cX1_fullAhead 0 = .ok (.iconst 0, 1) := by decide +kernel
theorem dX1_fullAhead_1 : decode cX1_fullAhead 1 = .ok (.istore_n 3, 1) := by decide +kernel
theorem dX1_fullAhead_2 : decode cX1_fullAhead 2 = .ok (.iconst 0, 1) := by decide +kernel
theorem dX1_fullAhead_3 : decode cX1_fullAhead 3 = .ok (.istore 4, 2) := by decide +kernel
theorem dX1_fullAhead_5 : decode cX1_fullAhead 5 = .ok (.iconst 0, 1) := by decide +kernel
theorem dX1_fullAhead_6 : decode cX1_fullAhead 6 = .ok (.istore 5, 2) := by decide +kernel
theorem dX1_fullAhead_8 : decode cX1_fullAhead 8 = .ok (.iconst 0, 1) := by decide +kernel
theorem dX1_fullAhead_9 : decode cX1_fullAhead 9 = .ok (.istore 6, 2) := by decide +kernel
theorem dX1_fullAhead_11 : decode cX1_fullAhead 11 = .ok (.iload 6, 2) := by decide +kernel
theorem dX1_fullAhead_13 : decode cX1_fullAhead 13 = .ok (.iload_n 1, 1) := by decide +kernel
theorem dX1_fullAhead_14 : decode cX1_fullAhead 14 = .ok (.if_icmp .ge 48, 3) := by decide +kernel
theorem dX1_fullAhead_17 : decode cX1_fullAhead 17 = .ok (.iload 5, 2) := by decide +kernel
theorem dX1_fullAhead_19 : decode cX1_fullAhead 19 = .ok (.iload 4, 2) := by decide +kernel
theorem dX1_fullAhead_21 : decode cX1_fullAhead 21 = .ok (.aload_n 0, 1) := by decide +kernel
theorem dX1_fullAhead_22 : decode cX1_fullAhead 22 = .ok (.getfield 21, 3) := by decide +kernel
theorem dX1_fullAhead_25 : decode cX1_fullAhead 25 = .ok (.iload 6, 2) := by decide +kernel
theorem dX1_fullAhead_27 : decode cX1_fullAhead 27 = .ok (.iaload, 1) := by decide +kernel
theorem dX1_fullAhead_28 : decode cX1_fullAhead 28 = .ok (.iand, 1) := by decide +kernel
theorem dX1_fullAhead_29 : decode cX1_fullAhead 29 = .ok (.ior, 1) := by decide +kernel
theorem dX1_fullAhead_30 : decode cX1_fullAhead 30 = .ok (.istore 5, 2) := by decide +kernel
theorem dX1_fullAhead_32 : decode cX1_fullAhead 32 = .ok (.iload 4, 2) := by decide +kernel
theorem dX1_fullAhead_34 : decode cX1_fullAhead 34 = .ok (.iload_n 3, 1) := by decide +kernel
theorem dX1_fullAhead_35 : decode cX1_fullAhead 35 = .ok (.aload_n 0, 1) := by decide +kernel
theorem dX1_fullAhead_36 : decode cX1_fullAhead 36 = .ok (.getfield 21, 3) := by decide +kernel
theorem dX1_fullAhead_39 : decode cX1_fullAhead 39 = .ok (.iload 6, 2) := by decide +kernel
theorem dX1_fullAhead_41 : decode cX1_fullAhead 41 = .ok (.iaload, 1) := by decide +kernel
theorem dX1_fullAhead_42 : decode cX1_fullAhead 42 = .ok (.iand, 1) := by decide +kernel
theorem dX1_fullAhead_43 : decode cX1_fullAhead 43 = .ok (.ior, 1) := by decide +kernel
theorem dX1_fullAhead_44 : decode cX1_fullAhead 44 = .ok (.istore 4, 2) := by decide +kernel
theorem dX1_fullAhead_46 : decode cX1_fullAhead 46 = .ok (.iload_n 3, 1) := by decide +kernel
theorem dX1_fullAhead_47 : decode cX1_fullAhead 47 = .ok (.aload_n 0, 1) := by decide +kernel
theorem dX1_fullAhead_48 : decode cX1_fullAhead 48 = .ok (.getfield 21, 3) := by decide +kernel
theorem dX1_fullAhead_51 : decode cX1_fullAhead 51 = .ok (.iload 6, 2) := by decide +kernel
theorem dX1_fullAhead_53 : decode cX1_fullAhead 53 = .ok (.iaload, 1) := by decide +kernel
theorem dX1_fullAhead_54 : decode cX1_fullAhead 54 = .ok (.ior, 1) := by decide +kernel
theorem dX1_fullAhead_55 : decode cX1_fullAhead 55 = .ok (.istore_n 3, 1) := by decide +kernel
theorem dX1_fullAhead_56 : decode cX1_fullAhead 56 = .ok (.iinc 6 1, 3) := by decide +kernel
theorem dX1_fullAhead_59 : decode cX1_fullAhead 59 = .ok (.goto (-48), 3) := by decide +kernel
theorem dX1_fullAhead_62 : decode cX1_fullAhead 62 = .ok (.iload_n 2, 1) := by decide +kernel
theorem dX1_fullAhead_63 : decode cX1_fullAhead 63 = .ok (.tableswitch 33 1 3 #[25, 27, 30], 25) := by decide +kernel
theorem dX1_fullAhead_88 : decode cX1_fullAhead 88 = .ok (.iload_n 3, 1) := by decide +kernel
theorem dX1_fullAhead_89 : decode cX1_fullAhead 89 = .ok (.ireturn, 1) := by decide +kernel
theorem dX1_fullAhead_90 : decode cX1_fullAhead 90 = .ok (.iload 4, 2) := by decide +kernel
theorem dX1_fullAhead_92 : decode cX1_fullAhead 92 = .ok (.ireturn, 1) := by decide +kernel
theorem dX1_fullAhead_93 : decode cX1_fullAhead 93 = .ok (.iload 5, 2) := by decide +kernel
theorem dX1_fullAhead_95 : decode cX1_fullAhead 95 = .ok (.ireturn, 1) := by decide +kernel
theorem dX1_fullAhead_96 : decode cX1_fullAhead 96 = .ok (.iconst 0, 1) := by decide +kernel
theorem dX1_fullAhead_97 : decode cX1_fullAhead 97 = .ok (.ireturn, 1) := by decide +kernel
theorem dX2_init_0 : decode cX2_init 0 = .ok (.aload_n 0, 1) := by decide +kernel
theorem dX2_init_1 : decode cX2_init 1 = .ok (.invokespecial 3, 3) := by decide +kernel
theorem dX2_init_4 : decode cX2_init 4 = .ok (.aload_n 0, 1) := by decide +kernel
theorem dX2_init_5 : decode cX2_init 5 = .ok (.new 9, 3) := by decide +kernel
theorem dX2_init_8 : decode cX2_init 8 = .ok (.dup, 1) := by decide +kernel
theorem dX2_init_9 : decode cX2_init 9 = .ok (.invokespecial 11, 3) := by decide +kernel
theorem dX2_init_12 : decode cX2_init 12 = .ok (.putfield 12, 3) := by decide +kernel
theorem dX2_init_15 : decode cX2_init 15 = .ok (.aload_n 0, 1) := by decide +kernel
theorem dX2_init_16 : decode cX2_init 16 = .ok (.iconst 3, 1) := by decide +kernel
theorem dX2_init_17 : decode cX2_init 17 = .ok (.newarray .int, 2) := by decide +kernel
theorem dX2_init_19 : decode cX2_init 19 = .ok (.putfield 18, 3) := by decide +kernel
theorem dX2_init_22 : decode cX2_init 22 = .ok (.aload_n 0, 1) := by decide +kernel
theorem dX2_init_23 : decode cX2_init 23 = .ok (.bipush 99, 2) := by decide +kernel
theorem dX2_init_25 : decode cX2_init 25 = .ok (.newarray .int, 2) := by decide +kernel
theorem dX2_init_27 : decode cX2_init 27 = .ok (.putfield 22, 3) := by decide +kernel
theorem dX2_init_30 : decode cX2_init 30 = .ok (.aload_n 0, 1) := by decide +kernel
theorem dX2_init_31 : decode cX2_init 31 = .ok (.bipush 60, 2) := by decide +kernel
theorem dX2_init_33 : decode cX2_init 33 = .ok (.newarray .int, 2) := by decide +kernel
theorem dX2_init_35 : decode cX2_init 35 = .ok (.putfield 25, 3) := by decide +kernel
theorem dX2_init_38 : decode cX2_init 38 = .ok (.aload_n 0, 1) := by decide +kernel
theorem dX2_init_39 : decode cX2_init 39 = .ok (.bipush 60, 2) := by decide +kernel
theorem dX2_init_41 : decode cX2_init 41 = .ok (.newarray .int, 2) := by decide +kernel
theorem dX2_init_43 : decode cX2_init 43 = .ok (.putfield 28, 3) := by decide +kernel
theorem dX2_init_46 : decode cX2_init 46 = .ok (.aload_n 0, 1) := by decide +kernel
theorem dX2_init_47 : decode cX2_init 47 = .ok (.bipush 60, 2) := by decide +kernel
theorem dX2_init_49 : decode cX2_init 49 = .ok (.newarray .int, 2) := by decide +kernel
theorem dX2_init_51 : decode cX2_init 51 = .ok (.putfield 31, 3) := by decide +kernel
theorem dX2_init_54 : decode cX2_init 54 = .ok (.aload_n 0, 1) := by decide +kernel
theorem dX2_init_55 : decode cX2_init 55 = .ok (.bipush 60, 2) := by decide +kernel
theorem dX2_init_57 : decode cX2_init 57 = .ok (.newarray .int, 2) := by decide +kernel
theorem dX2_init_59 : decode cX2_init 59 = .ok (.putfield 34, 3) := by decide +kernel
theorem dX2_init_62 : decode cX2_init 62 = .ok (.aload_n 0, 1) := by decide +kernel
theorem dX2_init_63 : decode cX2_init 63 = .ok (.bipush 60, 2) := by decide +kernel
theorem dX2_init_65 : decode cX2_init 65 = .ok (.newarray .int, 2) := by decide +kernel
theorem dX2_init_67 : decode cX2_init 67 = .ok (.putfield 37, 3) := by decide +kernel
theorem dX2_init_70 : decode cX2_init 70 = .ok (.aload_n 0, 1) := by decide +kernel
theorem dX2_init_71 : decode cX2_init 71 = .ok (.bipush 60, 2) := by decide +kernel
theorem dX2_init_73 : decode cX2_init 73 = .ok (.newarray .boolean, 2) := by decide +kernel
theorem dX2_init_75 : decode cX2_init 75 = .ok (.putfield 40, 3) := by decide +kernel
theorem dX2_init_78 : decode cX2_init 78 = .ok (.aload_n 0, 1) := by decide +kernel
theorem dX2_init_79 : decode cX2_init 79 = .ok (.bipush 60, 2) := by decide +kernel
theorem dX2_init_81 : decode cX2_init 81 = .ok (.newarray .int, 2) := by decide +kernel
theorem dX2_init_83 : decode cX2_init 83 = .ok (.putfield 44, 3) := by decide +kernel
theorem dX2_init_86 : decode cX2_init 86 = .ok (.iconst 0, 1) := by decide +kernel
theorem dX2_init_87 : decode cX2_init 87 = .ok (.istore_n 1, 1) := by decide +kernel
theorem dX2_init_88 : decode cX2_init 88 = .ok (.iload_n 1, 1) := by decide +kernel
theorem dX2_init_89 : decode cX2_init 89 = .ok (.iconst 3, 1) := by decide +kernel
theorem dX2_init_90 : decode cX2_init 90 = .ok (.if_icmp .ge 39, 3) := by decide +kernel
theorem dX2_init_93 : decode cX2_init 93 = .ok (.iconst 1, 1) := by decide +kernel
theorem dX2_init_94 : decode cX2_init 94 = .ok (.istore_n 2, 1) := by decide +kernel
theorem dX2_init_95 : decode cX2_init 95 = .ok (.iload_n 2, 1) := by decide +kernel
theorem dX2_init_96 : decode cX2_init 96 = .ok (.bipush 10, 2) := by decide +kernel
theorem dX2_init_98 : decode cX2_init 98 = .ok (.if_icmp .gt 25, 3) := by decide +kernel
theorem dX2_init_101 : decode cX2_init 101 = .ok (.aload_n 0, 1) := by decide +kernel
theorem dX2_init_102 : decode cX2_init 102 = .ok (.getfield 22, 3) := by decide +kernel
theorem dX2_init_105 : decode cX2_init 105 = .ok (.iload_n 1, 1) := by decide +kernel
theorem dX2_init_106 : decode cX2_init 106 = .ok (.iconst 3, 1) := by decide +kernel
theorem dX2_init_107 : decode cX2_init 107 = .ok (.imul, 1) := by decide +kernel
theorem dX2_init_108 : decode cX2_init 108 = .ok (.iload_n 1, 1) := by decide +kernel
theorem dX2_init_109 : decode cX2_init 109 = .ok (.iadd, 1) := by decide +kernel
theorem dX2_init_110 : decode cX2_init 110 = .ok (.bipush 11, 2) := by decide +kernel
theorem dX2_init_112 : decode cX2_init 112 = .ok (.imul, 1) := by decide +kernel
theorem dX2_init_113 : decode cX2_init 113 = .ok (.iload_n 2, 1) := by decide +kernel
theorem dX2_init_114 : decode cX2_init 114 = .ok (.iadd, 1) := by decide +kernel
theorem dX2_init_115 : decode cX2_init 115 = .ok (.iload_n 2, 1) := by decide +kernel
theorem dX2_init_116 : decode cX2_init 116 = .ok (.iastore, 1) := by decide +kernel
theorem dX2_init_117 : decode cX2_init 117 = .ok (.iinc 2 1, 3) := by decide +kernel
theorem dX2_init_120 : decode cX2_init 120 = .ok (.goto (-25), 3) := by decide +kernel
theorem dX2_init_123 : decode cX2_init 123 = .ok (.iinc 1 1, 3) := by decide +kernel
theorem dX2_init_126 : decode cX2_init 126 = .ok (.goto (-38), 3) := by decide +kernel
theorem dX2_init_129 : decode cX2_init 129 = .ok (.return_, 1) := by decide +kernel
theorem dX2_holds_0 : decode cX2_holds 0 = .ok (.iload_n 1, 1) := by decide +kernel
theorem dX2_holds_1 : decode cX2_holds 1 = .ok (.ifCond .lt 15, 3) := by decide +kernel
theorem dX2_holds_4 : decode cX2_holds 4 = .ok (.iload_n 1, 1) := by decide +kernel
theorem dX2_holds_5 : decode cX2_holds 5 = .ok (.aload_n 0, 1) := by decide +kernel
theorem dX2_holds_6 : decode cX2_holds 6 = .ok (.getfield 47, 3) := by decide +kernel
theorem dX2_holds_9 : decode cX2_holds 9 = .ok (.if_icmp .ge 7, 3) := by decide +kernel
theorem dX2_holds_12 : decode cX2_holds 12 = .ok (.iconst 1, 1) := by decide +kernel
theorem dX2_holds_13 : decode cX2_holds 13 = .ok (.goto 4, 3) := by decide +kernel
theorem dX2_holds_16 : decode cX2_holds 16 = .ok (.iconst 0, 1) := by decide +kernel
theorem dX2_holds_17 : decode cX2_holds 17 = .ok (.ireturn, 1) := by decide +kernel
theorem dX2_latestDay_0 : decode cX2_latestDay 0 = .ok (.aload_n 0, 1) := by decide +kernel
theorem dX2_latestDay_1 : decode cX2_latestDay 1 = .ok (.getfield 47, 3) := by decide +kernel
theorem dX2_latestDay_4 : decode cX2_latestDay 4 = .ok (.ifCond .le 17, 3) := by decide +kernel
theorem dX2_latestDay_7 : decode cX2_latestDay 7 = .ok (.aload_n 0, 1) := by decide +kernel
theorem dX2_latestDay_8 : decode cX2_latestDay 8 = .ok (.getfield 34, 3) := by decide +kernel
theorem dX2_latestDay_11 : decode cX2_latestDay 11 = .ok (.aload_n 0, 1) := by decide +kernel
theorem dX2_latestDay_12 : decode cX2_latestDay 12 = .ok (.getfield 47, 3) := by decide +kernel
theorem dX2_latestDay_15 : decode cX2_latestDay 15 = .ok (.iconst 1, 1) := by decide +kernel
theorem dX2_latestDay_16 : decode cX2_latestDay 16 = .ok (.isub, 1) := by decide +kernel
theorem dX2_latestDay_17 : decode cX2_latestDay 17 = .ok (.iaload, 1) := by decide +kernel
theorem dX2_latestDay_18 : decode cX2_latestDay 18 = .ok (.goto 4, 3) := by decide +kernel
theorem dX2_latestDay_21 : decode cX2_latestDay 21 = .ok (.iconst 0, 1) := by decide +kernel
theorem dX2_latestDay_22 : decode cX2_latestDay 22 = .ok (.ireturn, 1) := by decide +kernel
theorem dX2_value_0 : decode cX2_value 0 = .ok (.aload_n 0, 1) := by decide +kernel
theorem dX2_value_1 : decode cX2_value 1 = .ok (.getfield 22, 3) := by decide +kernel
theorem dX2_value_4 : decode cX2_value 4 = .ok (.iload_n 1, 1) := by decide +kernel
theorem dX2_value_5 : decode cX2_value 5 = .ok (.iconst 3, 1) := by decide +kernel
theorem dX2_value_6 : decode cX2_value 6 = .ok (.imul, 1) := by decide +kernel
theorem dX2_value_7 : decode cX2_value 7 = .ok (.iload_n 2, 1) := by decide +kernel
theorem dX2_value_8 : decode cX2_value 8 = .ok (.iadd, 1) := by decide +kernel
theorem dX2_value_9 : decode cX2_value 9 = .ok (.bipush 11, 2) := by decide +kernel
theorem dX2_value_11 : decode cX2_value 11 = .ok (.imul, 1) := by decide +kernel
theorem dX2_value_12 : decode cX2_value 12 = .ok (.iload_n 3, 1) := by decide +kernel
theorem dX2_value_13 : decode cX2_value 13 = .ok (.iadd, 1) := by decide +kernel
theorem dX2_value_14 : decode cX2_value 14 = .ok (.iaload, 1) := by decide +kernel
theorem dX2_value_15 : decode cX2_value 15 = .ok (.ireturn, 1) := by decide +kernel
theorem dX2_setValue_0 : decode cX2_setValue 0 = .ok (.aload_n 0, 1) := by decide +kernel
theorem dX2_setValue_1 : decode cX2_setValue 1 = .ok (.getfield 22, 3) := by decide +kernel
theorem dX2_setValue_4 : decode cX2_setValue 4 = .ok (.iload_n 1, 1) := by decide +kernel
theorem dX2_setValue_5 : decode cX2_setValue 5 = .ok (.iconst 3, 1) := by decide +kernel
theorem dX2_setValue_6 : decode cX2_setValue 6 = .ok (.imul, 1) := by decide +kernel
theorem dX2_setValue_7 : decode cX2_setValue 7 = .ok (.iload_n 2, 1) := by decide +kernel
theorem dX2_setValue_8 : decode cX2_setValue 8 = .ok (.iadd, 1) := by decide +kernel
theorem dX2_setValue_9 : decode cX2_setValue 9 = .ok (.bipush 11, 2) := by decide +kernel
theorem dX2_setValue_11 : decode cX2_setValue 11 = .ok (.imul, 1) := by decide +kernel
theorem dX2_setValue_12 : decode cX2_setValue 12 = .ok (.iload_n 3, 1) := by decide +kernel
theorem dX2_setValue_13 : decode cX2_setValue 13 = .ok (.iadd, 1) := by decide +kernel
theorem dX2_setValue_14 : decode cX2_setValue 14 = .ok (.iload 4, 2) := by decide +kernel
theorem dX2_setValue_16 : decode cX2_setValue 16 = .ok (.iastore, 1) := by decide +kernel
theorem dX2_setValue_17 : decode cX2_setValue 17 = .ok (.return_, 1) := by decide +kernel
theorem dX2_add_0 : decode cX2_add 0 = .ok (.aload_n 0, 1) := by decide +kernel
theorem dX2_add_1 : decode cX2_add 1 = .ok (.getfield 47, 3) := by decide +kernel
theorem dX2_add_4 : decode cX2_add 4 = .ok (.istore 6, 2) := by decide +kernel
theorem dX2_add_6 : decode cX2_add 6 = .ok (.aload_n 0, 1) := by decide +kernel
theorem dX2_add_7 : decode cX2_add 7 = .ok (.getfield 25, 3) := by decide +kernel
theorem dX2_add_10 : decode cX2_add 10 = .ok (.iload 6, 2) := by decide +kernel
theorem dX2_add_12 : decode cX2_add 12 = .ok (.iload_n 1, 1) := by decide +kernel
theorem dX2_add_13 : decode cX2_add 13 = .ok (.iastore, 1) := by decide +kernel
theorem dX2_add_14 : decode cX2_add 14 = .ok (.aload_n 0, 1) := by decide +kernel
theorem dX2_add_15 : decode cX2_add 15 = .ok (.getfield 28, 3) := by decide +kernel
theorem dX2_add_18 : decode cX2_add 18 = .ok (.iload 6, 2) := by decide +kernel
theorem dX2_add_20 : decode cX2_add 20 = .ok (.iload_n 2, 1) := by decide +kernel
theorem dX2_add_21 : decode cX2_add 21 = .ok (.iastore, 1) := by decide +kernel
theorem dX2_add_22 : decode cX2_add 22 = .ok (.aload_n 0, 1) := by decide +kernel
theorem dX2_add_23 : decode cX2_add 23 = .ok (.getfield 31, 3) := by decide +kernel
theorem dX2_add_26 : decode cX2_add 26 = .ok (.iload 6, 2) := by decide +kernel
theorem dX2_add_28 : decode cX2_add 28 = .ok (.iload_n 3, 1) := by decide +kernel
theorem dX2_add_29 : decode cX2_add 29 = .ok (.iastore, 1) := by decide +kernel
theorem dX2_add_30 : decode cX2_add 30 = .ok (.aload_n 0, 1) := by decide +kernel
theorem dX2_add_31 : decode cX2_add 31 = .ok (.getfield 34, 3) := by decide +kernel
theorem dX2_add_34 : decode cX2_add 34 = .ok (.iload 6, 2) := by decide +kernel
theorem dX2_add_36 : decode cX2_add 36 = .ok (.iload 4, 2) := by decide +kernel
theorem dX2_add_38 : decode cX2_add 38 = .ok (.iastore, 1) := by decide +kernel
theorem dX2_add_39 : decode cX2_add 39 = .ok (.aload_n 0, 1) := by decide +kernel
theorem dX2_add_40 : decode cX2_add 40 = .ok (.getfield 37, 3) := by decide +kernel
theorem dX2_add_43 : decode cX2_add 43 = .ok (.iload 6, 2) := by decide +kernel
theorem dX2_add_45 : decode cX2_add 45 = .ok (.iload 5, 2) := by decide +kernel
theorem dX2_add_47 : decode cX2_add 47 = .ok (.iastore, 1) := by decide +kernel
theorem dX2_add_48 : decode cX2_add 48 = .ok (.aload_n 0, 1) := by decide +kernel
theorem dX2_add_49 : decode cX2_add 49 = .ok (.dup, 1) := by decide +kernel
theorem dX2_add_50 : decode cX2_add 50 = .ok (.getfield 47, 3) := by decide +kernel
theorem dX2_add_53 : decode cX2_add 53 = .ok (.iconst 1, 1) := by decide +kernel
theorem dX2_add_54 : decode cX2_add 54 = .ok (.iadd, 1) := by decide +kernel
theorem dX2_add_55 : decode cX2_add 55 = .ok (.putfield 47, 3) := by decide +kernel
theorem dX2_add_58 : decode cX2_add 58 = .ok (.iload 6, 2) := by decide +kernel
theorem dX2_add_60 : decode cX2_add 60 = .ok (.ireturn, 1) := by decide +kernel
theorem dX2_know_0 : decode cX2_know 0 = .ok (.aload_n 0, 1) := by decide +kernel
theorem dX2_know_1 : decode cX2_know 1 = .ok (.getfield 44, 3) := by decide +kernel
theorem dX2_know_4 : decode cX2_know 4 = .ok (.iconst 0, 1) := by decide +kernel
theorem dX2_know_5 : decode cX2_know 5 = .ok (.invokestatic 51, 3) := by decide +kernel
theorem dX2_know_8 : decode cX2_know 8 = .ok (.iconst 0, 1) := by decide +kernel
theorem dX2_know_9 : decode cX2_know 9 = .ok (.istore_n 2, 1) := by decide +kernel
theorem dX2_know_10 : decode cX2_know 10 = .ok (.iload_n 2, 1) := by decide +kernel
theorem dX2_know_11 : decode cX2_know 11 = .ok (.aload_n 0, 1) := by decide +kernel
theorem dX2_know_12 : decode cX2_know 12 = .ok (.getfield 47, 3) := by decide +kernel
theorem dX2_know_15 : decode cX2_know 15 = .ok (.if_icmp .ge 76, 3) := by decide +kernel
theorem dX2_know_18 : decode cX2_know 18 = .ok (.aload_n 0, 1) := by decide +kernel
theorem dX2_know_19 : decode cX2_know 19 = .ok (.getfield 44, 3) := by decide +kernel
theorem dX2_know_22 : decode cX2_know 22 = .ok (.aload_n 0, 1) := by decide +kernel
theorem dX2_know_23 : decode cX2_know 23 = .ok (.getfield 25, 3) := by decide +kernel
theorem dX2_know_26 : decode cX2_know 26 = .ok (.iload_n 2, 1) := by decide +kernel
theorem dX2_know_27 : decode cX2_know 27 = .ok (.iaload, 1) := by decide +kernel
theorem dX2_know_28 : decode cX2_know 28 = .ok (.iconst 3, 1) := by decide +kernel
theorem dX2_know_29 : decode cX2_know 29 = .ok (.imul, 1) := by decide +kernel
theorem dX2_know_30 : decode cX2_know 30 = .ok (.aload_n 0, 1) := by decide +kernel
theorem dX2_know_31 : decode cX2_know 31 = .ok (.getfield 28, 3) := by decide +kernel
theorem dX2_know_34 : decode cX2_know 34 = .ok (.iload_n 2, 1) := by decide +kernel
theorem dX2_know_35 : decode cX2_know 35 = .ok (.iaload, 1) := by decide +kernel
theorem dX2_know_36 : decode cX2_know 36 = .ok (.iadd, 1) := by decide +kernel
theorem dX2_know_37 : decode cX2_know 37 = .ok (.iaload, 1) := by decide +kernel
theorem dX2_know_38 : decode cX2_know 38 = .ok (.istore_n 3, 1) := by decide +kernel
theorem dX2_know_39 : decode cX2_know 39 = .ok (.aload_n 0, 1) := by decide +kernel
theorem dX2_know_40 : decode cX2_know 40 = .ok (.getfield 40, 3) := by decide +kernel
theorem dX2_know_43 : decode cX2_know 43 = .ok (.iload_n 2, 1) := by decide +kernel
theorem dX2_know_44 : decode cX2_know 44 = .ok (.iload_n 3, 1) := by decide +kernel
theorem dX2_know_45 : decode cX2_know 45 = .ok (.aload_n 0, 1) := by decide +kernel
theorem dX2_know_46 : decode cX2_know 46 = .ok (.getfield 31, 3) := by decide +kernel
theorem dX2_know_49 : decode cX2_know 49 = .ok (.iload_n 2, 1) := by decide +kernel
theorem dX2_know_50 : decode cX2_know 50 = .ok (.iaload, 1) := by decide +kernel
theorem dX2_know_51 : decode cX2_know 51 = .ok (.iconst 1, 1) := by decide +kernel
theorem dX2_know_52 : decode cX2_know 52 = .ok (.isub, 1) := by decide +kernel
theorem dX2_know_53 : decode cX2_know 53 = .ok (.if_icmp .lt 16, 3) := by decide +kernel
theorem dX2_know_56 : decode cX2_know 56 = .ok (.aload_n 0, 1) := by decide +kernel
theorem dX2_know_57 : decode cX2_know 57 = .ok (.iload_n 2, 1) := by decide +kernel
theorem dX2_know_58 : decode cX2_know 58 = .ok (.iload_n 1, 1) := by decide +kernel
theorem dX2_know_59 : decode cX2_know 59 = .ok (.invokevirtual 57, 3) := by decide +kernel
theorem dX2_know_62 : decode cX2_know 62 = .ok (.ifCond .ne 7, 3) := by decide +kernel
theorem dX2_know_65 : decode cX2_know 65 = .ok (.iconst 1, 1) := by decide +kernel
theorem dX2_know_66 : decode cX2_know 66 = .ok (.goto 4, 3) := by decide +kernel
theorem dX2_know_69 : decode cX2_know 69 = .ok (.iconst 0, 1) := by decide +kernel
theorem dX2_know_70 : decode cX2_know 70 = .ok (.bastore, 1) := by decide +kernel
theorem dX2_know_71 : decode cX2_know 71 = .ok (.aload_n 0, 1) := by decide +kernel
theorem dX2_know_72 : decode cX2_know 72 = .ok (.getfield 40, 3) := by decide +kernel
theorem dX2_know_75 : decode cX2_know 75 = .ok (.iload_n 2, 1) := by decide +kernel
theorem dX2_know_76 : decode cX2_know 76 = .ok (.baload, 1) := by decide +kernel
theorem dX2_know_77 : decode cX2_know 77 = .ok (.ifCond .eq 8, 3) := by decide +kernel
theorem dX2_know_80 : decode cX2_know 80 = .ok (.aload_n 0, 1) := by decide +kernel
theorem dX2_know_81 : decode cX2_know 81 = .ok (.iload_n 2, 1) := by decide +kernel
theorem dX2_know_82 : decode cX2_know 82 = .ok (.invokevirtual 61, 3) := by decide +kernel
theorem dX2_know_85 : decode cX2_know 85 = .ok (.iinc 2 1, 3) := by decide +kernel
theorem dX2_know_88 : decode cX2_know 88 = .ok (.goto (-78), 3) := by decide +kernel
theorem dX2_know_91 : decode cX2_know 91 = .ok (.return_, 1) := by decide +kernel
theorem dX2_falls_0 : decode cX2_falls 0 = .ok (.aload_n 0, 1) := by decide +kernel
theorem dX2_falls_1 : decode cX2_falls 1 = .ok (.getfield 18, 3) := by decide +kernel
theorem dX2_falls_4 : decode cX2_falls 4 = .ok (.aload_n 0, 1) := by decide +kernel
theorem dX2_falls_5 : decode cX2_falls 5 = .ok (.getfield 28, 3) := by decide +kernel
theorem dX2_falls_8 : decode cX2_falls 8 = .ok (.iload_n 1, 1) := by decide +kernel
theorem dX2_falls_9 : decode cX2_falls 9 = .ok (.iaload, 1) := by decide +kernel
theorem dX2_falls_10 : decode cX2_falls 10 = .ok (.iaload, 1) := by decide +kernel
theorem dX2_falls_11 : decode cX2_falls 11 = .ok (.iconst 1, 1) := by decide +kernel
theorem dX2_falls_12 : decode cX2_falls 12 = .ok (.if_icmp .ne 30, 3) := by decide +kernel
theorem dX2_falls_15 : decode cX2_falls 15 = .ok (.aload_n 0, 1) := by decide +kernel
theorem dX2_falls_16 : decode cX2_falls 16 = .ok (.getfield 12, 3) := by decide +kernel
theorem dX2_falls_19 : decode cX2_falls 19 = .ok (.aload_n 0, 1) := by decide +kernel
theorem dX2_falls_20 : decode cX2_falls 20 = .ok (.getfield 37, 3) := by decide +kernel
theorem dX2_falls_23 : decode cX2_falls 23 = .ok (.iload_n 1, 1) := by decide +kernel
theorem dX2_falls_24 : decode cX2_falls 24 = .ok (.iaload, 1) := by decide +kernel
theorem dX2_falls_25 : decode cX2_falls 25 = .ok (.aload_n 0, 1) := by decide +kernel
theorem dX2_falls_26 : decode cX2_falls 26 = .ok (.getfield 34, 3) := by decide +kernel
theorem dX2_falls_29 : decode cX2_falls 29 = .ok (.iload_n 1, 1) := by decide +kernel
theorem dX2_falls_30 : decode cX2_falls 30 = .ok (.iaload, 1) := by decide +kernel
theorem dX2_falls_31 : decode cX2_falls 31 = .ok (.iload_n 2, 1) := by decide +kernel
theorem dX2_falls_32 : decode cX2_falls 32 = .ok (.invokevirtual 65, 3) := by decide +kernel
theorem dX2_falls_35 : decode cX2_falls 35 = .ok (.ifCond .eq 7, 3) := by decide +kernel
theorem dX2_falls_38 : decode cX2_falls 38 = .ok (.iconst 1, 1) := by decide +kernel
theorem dX2_falls_39 : decode cX2_falls 39 = .ok (.goto 4, 3) := by decide +kernel
theorem dX2_falls_42 : decode cX2_falls 42 = .ok (.iconst 0, 1) := by decide +kernel
theorem dX2_falls_43 : decode cX2_falls 43 = .ok (.ireturn, 1) := by decide +kernel
theorem dX2_raise_0 : decode cX2_raise 0 = .ok (.iconst 0, 1) := by decide +kernel
theorem dX2_raise_1 : decode cX2_raise 1 = .ok (.istore_n 2, 1) := by decide +kernel
theorem dX2_raise_2 : decode cX2_raise 2 = .ok (.iload_n 2, 1) := by decide +kernel
theorem dX2_raise_3 : decode cX2_raise 3 = .ok (.iconst 3, 1) := by decide +kernel
theorem dX2_raise_4 : decode cX2_raise 4 = .ok (.if_icmp .ge 52, 3) := by decide +kernel
theorem dX2_raise_7 : decode cX2_raise 7 = .ok (.aload_n 0, 1) := by decide +kernel
theorem dX2_raise_8 : decode cX2_raise 8 = .ok (.getfield 25, 3) := by decide +kernel
theorem dX2_raise_11 : decode cX2_raise 11 = .ok (.iload_n 1, 1) := by decide +kernel
theorem dX2_raise_12 : decode cX2_raise 12 = .ok (.iaload, 1) := by decide +kernel
theorem dX2_raise_13 : decode cX2_raise 13 = .ok (.iconst 3, 1) := by decide +kernel
theorem dX2_raise_14 : decode cX2_raise 14 = .ok (.imul, 1) := by decide +kernel
theorem dX2_raise_15 : decode cX2_raise 15 = .ok (.iload_n 2, 1) := by decide +kernel
theorem dX2_raise_16 : decode cX2_raise 16 = .ok (.iadd, 1) := by decide +kernel
theorem dX2_raise_17 : decode cX2_raise 17 = .ok (.istore_n 3, 1) := by decide +kernel
theorem dX2_raise_18 : decode cX2_raise 18 = .ok (.aload_n 0, 1) := by decide +kernel
theorem dX2_raise_19 : decode cX2_raise 19 = .ok (.getfield 44, 3) := by decide +kernel
theorem dX2_raise_22 : decode cX2_raise 22 = .ok (.iload_n 3, 1) := by decide +kernel
theorem dX2_raise_23 : decode cX2_raise 23 = .ok (.aload_n 0, 1) := by decide +kernel
theorem dX2_raise_24 : decode cX2_raise 24 = .ok (.getfield 44, 3) := by decide +kernel
theorem dX2_raise_27 : decode cX2_raise 27 = .ok (.iload_n 3, 1) := by decide +kernel
theorem dX2_raise_28 : decode cX2_raise 28 = .ok (.iaload, 1) := by decide +kernel
theorem dX2_raise_29 : decode cX2_raise 29 = .ok (.aload_n 0, 1) := by decide +kernel
theorem dX2_raise_30 : decode cX2_raise 30 = .ok (.iload_n 2, 1) := by decide +kernel
theorem dX2_raise_31 : decode cX2_raise 31 = .ok (.aload_n 0, 1) := by decide +kernel
theorem dX2_raise_32 : decode cX2_raise 32 = .ok (.getfield 28, 3) := by decide +kernel
theorem dX2_raise_35 : decode cX2_raise 35 = .ok (.iload_n 1, 1) := by decide +kernel
theorem dX2_raise_36 : decode cX2_raise 36 = .ok (.iaload, 1) := by decide +kernel
theorem dX2_raise_37 : decode cX2_raise 37 = .ok (.aload_n 0, 1) := by decide +kernel
theorem dX2_raise_38 : decode cX2_raise 38 = .ok (.getfield 31, 3) := by decide +kernel
theorem dX2_raise_41 : decode cX2_raise 41 = .ok (.iload_n 1, 1) := by decide +kernel
theorem dX2_raise_42 : decode cX2_raise 42 = .ok (.iaload, 1) := by decide +kernel
theorem dX2_raise_43 : decode cX2_raise 43 = .ok (.invokevirtual 69, 3) := by decide +kernel
theorem dX2_raise_46 : decode cX2_raise 46 = .ok (.invokestatic 73, 3) := by decide +kernel
theorem dX2_raise_49 : decode cX2_raise 49 = .ok (.iastore, 1) := by decide +kernel
theorem dX2_raise_50 : decode cX2_raise 50 = .ok (.iinc 2 1, 3) := by decide +kernel
theorem dX2_raise_53 : decode cX2_raise 53 = .ok (.goto (-51), 3) := by decide +kernel
theorem dX2_raise_56 : decode cX2_raise 56 = .ok (.return_, 1) := by decide +kernel
theorem dX2_standingAtLast_0 : decode cX2_standingAtLast 0 = .ok (.aload_n 0, 1) := by decide +kernel
theorem dX2_standingAtLast_1 : decode cX2_standingAtLast 1 = .ok (.sipush 30000, 3) := by decide +kernel
theorem dX2_standingAtLast_4 : decode cX2_standingAtLast 4 = .ok (.invokevirtual 79, 3) := by decide +kernel
theorem dX2_standingAtLast_7 : decode cX2_standingAtLast 7 = .ok (.iconst 0, 1) := by decide +kernel
theorem dX2_standingAtLast_8 : decode cX2_standingAtLast 8 = .ok (.istore_n 1, 1) := by decide +kernel
theorem dX2_standingAtLast_9 : decode cX2_standingAtLast 9 = .ok (.iconst 0, 1) := by decide +kernel
theorem dX2_standingAtLast_10 : decode cX2_standingAtLast 10 = .ok (.istore_n 2, 1) := by decide +kernel
theorem dX2_standingAtLast_11 : decode cX2_standingAtLast 11 = .ok (.iload_n 2, 1) := by decide +kernel
theorem dX2_standingAtLast_12 : decode cX2_standingAtLast 12 = .ok (.aload_n 0, 1) := by decide +kernel
theorem dX2_standingAtLast_13 : decode cX2_standingAtLast 13 = .ok (.getfield 47, 3) := by decide +kernel
theorem dX2_standingAtLast_16 : decode cX2_standingAtLast 16 = .ok (.if_icmp .ge 21, 3) := by decide +kernel
theorem dX2_standingAtLast_19 : decode cX2_standingAtLast 19 = .ok (.aload_n 0, 1) := by decide +kernel
theorem dX2_standingAtLast_20 : decode cX2_standingAtLast 20 = .ok (.getfield 40, 3) := by decide +kernel
theorem dX2_standingAtLast_23 : decode cX2_standingAtLast 23 = .ok (.iload_n 2, 1) := by decide +kernel
theorem dX2_standingAtLast_24 : decode cX2_standingAtLast 24 = .ok (.baload, 1) := by decide +kernel
theorem dX2_standingAtLast_25 : decode cX2_standingAtLast 25 = .ok (.ifCond .eq 6, 3) := by decide +kernel
theorem dX2_standingAtLast_28 : decode cX2_standingAtLast 28 = .ok (.iinc 1 1, 3) := by decide +kernel
theorem dX2_standingAtLast_31 : decode cX2_standingAtLast 31 = .ok (.iinc 2 1, 3) := by decide +kernel
theorem dX2_standingAtLast_34 : decode cX2_standingAtLast 34 = .ok (.goto (-23), 3) := by decide +kernel
theorem dX2_standingAtLast_37 : decode cX2_standingAtLast 37 = .ok (.iload_n 1, 1) := by decide +kernel
theorem dX2_standingAtLast_38 : decode cX2_standingAtLast 38 = .ok (.ireturn, 1) := by decide +kernel
theorem dX2_counts_0 : decode cX2_counts 0 = .ok (.aload_n 0, 1) := by decide +kernel
theorem dX2_counts_1 : decode cX2_counts 1 = .ok (.getfield 25, 3) := by decide +kernel
theorem dX2_counts_4 : decode cX2_counts 4 = .ok (.iload_n 1, 1) := by decide +kernel
theorem dX2_counts_5 : decode cX2_counts 5 = .ok (.iaload, 1) := by decide +kernel
theorem dX2_counts_6 : decode cX2_counts 6 = .ok (.iload_n 2, 1) := by decide +kernel
theorem dX2_counts_7 : decode cX2_counts 7 = .ok (.if_icmp .ne 26, 3) := by decide +kernel
theorem dX2_counts_10 : decode cX2_counts 10 = .ok (.aload_n 0, 1) := by decide +kernel
theorem dX2_counts_11 : decode cX2_counts 11 = .ok (.getfield 34, 3) := by decide +kernel
theorem dX2_counts_14 : decode cX2_counts 14 = .ok (.iload_n 1, 1) := by decide +kernel
theorem dX2_counts_15 : decode cX2_counts 15 = .ok (.iaload, 1) := by decide +kernel
theorem dX2_counts_16 : decode cX2_counts 16 = .ok (.iload_n 3, 1) := by decide +kernel
theorem dX2_counts_17 : decode cX2_counts 17 = .ok (.if_icmp .gt 16, 3) := by decide +kernel
theorem dX2_counts_20 : decode cX2_counts 20 = .ok (.aload_n 0, 1) := by decide +kernel
theorem dX2_counts_21 : decode cX2_counts 21 = .ok (.getfield 40, 3) := by decide +kernel
theorem dX2_counts_24 : decode cX2_counts 24 = .ok (.iload_n 1, 1) := by decide +kernel
theorem dX2_counts_25 : decode cX2_counts 25 = .ok (.baload, 1) := by decide +kernel
theorem dX2_counts_26 : decode cX2_counts 26 = .ok (.ifCond .eq 7, 3) := by decide +kernel
theorem dX2_counts_29 : decode cX2_counts 29 = .ok (.iconst 1, 1) := by decide +kernel
theorem dX2_counts_30 : decode cX2_counts 30 = .ok (.goto 4, 3) := by decide +kernel
theorem dX2_counts_33 : decode cX2_counts 33 = .ok (.iconst 0, 1) := by decide +kernel
theorem dX2_counts_34 : decode cX2_counts 34 = .ok (.ireturn, 1) := by decide +kernel
theorem dX2_heldOn_0 : decode cX2_heldOn 0 = .ok (.iconst 0, 1) := by decide +kernel
theorem dX2_heldOn_1 : decode cX2_heldOn 1 = .ok (.istore 4, 2) := by decide +kernel
theorem dX2_heldOn_3 : decode cX2_heldOn 3 = .ok (.iconst 0, 1) := by decide +kernel
theorem dX2_heldOn_4 : decode cX2_heldOn 4 = .ok (.istore 5, 2) := by decide +kernel
theorem dX2_heldOn_6 : decode cX2_heldOn 6 = .ok (.iload 5, 2) := by decide +kernel
theorem dX2_heldOn_8 : decode cX2_heldOn 8 = .ok (.aload_n 0, 1) := by decide +kernel
theorem dX2_heldOn_9 : decode cX2_heldOn 9 = .ok (.getfield 47, 3) := by decide +kernel
theorem dX2_heldOn_12 : decode cX2_heldOn 12 = .ok (.if_icmp .ge 46, 3) := by decide +kernel
theorem dX2_heldOn_15 : decode cX2_heldOn 15 = .ok (.aload_n 0, 1) := by decide +kernel
theorem dX2_heldOn_16 : decode cX2_heldOn 16 = .ok (.iload 5, 2) := by decide +kernel
theorem dX2_heldOn_18 : decode cX2_heldOn 18 = .ok (.iload_n 1, 1) := by decide +kernel
theorem dX2_heldOn_19 : decode cX2_heldOn 19 = .ok (.iload_n 3, 1) := by decide +kernel
theorem dX2_heldOn_20 : decode cX2_heldOn 20 = .ok (.invokevirtual 82, 3) := by decide +kernel
theorem dX2_heldOn_23 : decode cX2_heldOn 23 = .ok (.ifCond .eq 29, 3) := by decide +kernel
theorem dX2_heldOn_26 : decode cX2_heldOn 26 = .ok (.iload 4, 2) := by decide +kernel
theorem dX2_heldOn_28 : decode cX2_heldOn 28 = .ok (.aload_n 0, 1) := by decide +kernel
theorem dX2_heldOn_29 : decode cX2_heldOn 29 = .ok (.iload_n 2, 1) := by decide +kernel
theorem dX2_heldOn_30 : decode cX2_heldOn 30 = .ok (.aload_n 0, 1) := by decide +kernel
theorem dX2_heldOn_31 : decode cX2_heldOn 31 = .ok (.getfield 28, 3) := by decide +kernel
theorem dX2_heldOn_34 : decode cX2_heldOn 34 = .ok (.iload 5, 2) := by decide +kernel
theorem dX2_heldOn_36 : decode cX2_heldOn 36 = .ok (.iaload, 1) := by decide +kernel
theorem dX2_heldOn_37 : decode cX2_heldOn 37 = .ok (.aload_n 0, 1) := by decide +kernel
theorem dX2_heldOn_38 : decode cX2_heldOn 38 = .ok (.getfield 31, 3) := by decide +kernel
theorem dX2_heldOn_41 : decode cX2_heldOn 41 = .ok (.iload 5, 2) := by decide +kernel
theorem dX2_heldOn_43 : decode cX2_heldOn 43 = .ok (.iaload, 1) := by decide +kernel
theorem dX2_heldOn_44 : decode cX2_heldOn 44 = .ok (.invokevirtual 69, 3) := by decide +kernel
theorem dX2_heldOn_47 : decode cX2_heldOn 47 = .ok (.invokestatic 73, 3) := by decide +kernel
theorem dX2_heldOn_50 : decode cX2_heldOn 50 = .ok (.istore 4, 2) := by decide +kernel
theorem dX2_heldOn_52 : decode cX2_heldOn 52 = .ok (.iinc 5 1, 3) := by decide +kernel
theorem dX2_heldOn_55 : decode cX2_heldOn 55 = .ok (.goto (-49), 3) := by decide +kernel
theorem dX2_heldOn_58 : decode cX2_heldOn 58 = .ok (.iload 4, 2) := by decide +kernel
theorem dX2_heldOn_60 : decode cX2_heldOn 60 = .ok (.ireturn, 1) := by decide +kernel
theorem dX2_lastGraded_0 : decode cX2_lastGraded 0 = .ok (.iconst (-1), 1) := by decide +kernel
theorem dX2_lastGraded_1 : decode cX2_lastGraded 1 = .ok (.istore_n 3, 1) := by decide +kernel
theorem dX2_lastGraded_2 : decode cX2_lastGraded 2 = .ok (.iconst 0, 1) := by decide +kernel
theorem dX2_lastGraded_3 : decode cX2_lastGraded 3 = .ok (.istore 4, 2) := by decide +kernel
theorem dX2_lastGraded_5 : decode cX2_lastGraded 5 = .ok (.iload 4, 2) := by decide +kernel
theorem dX2_lastGraded_7 : decode cX2_lastGraded 7 = .ok (.aload_n 0, 1) := by decide +kernel
theorem dX2_lastGraded_8 : decode cX2_lastGraded 8 = .ok (.getfield 47, 3) := by decide +kernel
theorem dX2_lastGraded_11 : decode cX2_lastGraded 11 = .ok (.if_icmp .ge 28, 3) := by decide +kernel
theorem dX2_lastGraded_14 : decode cX2_lastGraded 14 = .ok (.aload_n 0, 1) := by decide +kernel
theorem dX2_lastGraded_15 : decode cX2_lastGraded 15 = .ok (.iload 4, 2) := by decide +kernel
theorem dX2_lastGraded_17 : decode cX2_lastGraded 17 = .ok (.iload_n 1, 1) := by decide +kernel
theorem dX2_lastGraded_18 : decode cX2_lastGraded 18 = .ok (.iload_n 2, 1) := by decide +kernel
theorem dX2_lastGraded_19 : decode cX2_lastGraded 19 = .ok (.invokevirtual 82, 3) := by decide +kernel
theorem dX2_lastGraded_22 : decode cX2_lastGraded 22 = .ok (.ifCond .eq 11, 3) := by decide +kernel
theorem dX2_lastGraded_25 : decode cX2_lastGraded 25 = .ok (.aload_n 0, 1) := by decide +kernel
theorem dX2_lastGraded_26 : decode cX2_lastGraded 26 = .ok (.getfield 34, 3) := by decide +kernel
theorem dX2_lastGraded_29 : decode cX2_lastGraded 29 = .ok (.iload 4, 2) := by decide +kernel
theorem dX2_lastGraded_31 : decode cX2_lastGraded 31 = .ok (.iaload, 1) := by decide +kernel
theorem dX2_lastGraded_32 : decode cX2_lastGraded 32 = .ok (.istore_n 3, 1) := by decide +kernel
theorem dX2_lastGraded_33 : decode cX2_lastGraded 33 = .ok (.iinc 4 1, 3) := by decide +kernel
theorem dX2_lastGraded_36 : decode cX2_lastGraded 36 = .ok (.goto (-31), 3) := by decide +kernel
theorem dX2_lastGraded_39 : decode cX2_lastGraded 39 = .ok (.iload_n 3, 1) := by decide +kernel
theorem dX2_lastGraded_40 : decode cX2_lastGraded 40 = .ok (.ireturn, 1) := by decide +kernel
theorem dX3_init_0 : decode cX3_init 0 = .ok (.aload_n 0, 1) := by decide +kernel
theorem dX3_init_1 : decode cX3_init 1 = .ok (.invokespecial 3, 3) := by decide +kernel
theorem dX3_init_4 : decode cX3_init 4 = .ok (.aload_n 0, 1) := by decide +kernel
theorem dX3_init_5 : decode cX3_init 5 = .ok (.bipush 20, 2) := by decide +kernel
theorem dX3_init_7 : decode cX3_init 7 = .ok (.newarray .int, 2) := by decide +kernel
theorem dX3_init_9 : decode cX3_init 9 = .ok (.putfield 9, 3) := by decide +kernel
theorem dX3_init_12 : decode cX3_init 12 = .ok (.aload_n 0, 1) := by decide +kernel
theorem dX3_init_13 : decode cX3_init 13 = .ok (.bipush 100, 2) := by decide +kernel
theorem dX3_init_15 : decode cX3_init 15 = .ok (.newarray .int, 2) := by decide +kernel
theorem dX3_init_17 : decode cX3_init 17 = .ok (.putfield 15, 3) := by decide +kernel
theorem dX3_init_20 : decode cX3_init 20 = .ok (.aload_n 0, 1) := by decide +kernel
theorem dX3_init_21 : decode cX3_init 21 = .ok (.bipush 100, 2) := by decide +kernel
theorem dX3_init_23 : decode cX3_init 23 = .ok (.newarray .int, 2) := by decide +kernel
theorem dX3_init_25 : decode cX3_init 25 = .ok (.putfield 18, 3) := by decide +kernel
theorem dX3_init_28 : decode cX3_init 28 = .ok (.return_, 1) := by decide +kernel
theorem dX3_holds_0 : decode cX3_holds 0 = .ok (.iload_n 1, 1) := by decide +kernel
theorem dX3_holds_1 : decode cX3_holds 1 = .ok (.ifCond .lt 15, 3) := by decide +kernel
theorem dX3_holds_4 : decode cX3_holds 4 = .ok (.iload_n 1, 1) := by decide +kernel
theorem dX3_holds_5 : decode cX3_holds 5 = .ok (.aload_n 0, 1) := by decide +kernel
theorem dX3_holds_6 : decode cX3_holds 6 = .ok (.getfield 21, 3) := by decide +kernel
theorem dX3_holds_9 : decode cX3_holds 9 = .ok (.if_icmp .ge 7, 3) := by decide +kernel
theorem dX3_holds_12 : decode cX3_holds 12 = .ok (.iconst 1, 1) := by decide +kernel
theorem dX3_holds_13 : decode cX3_holds 13 = .ok (.goto 4, 3) := by decide +kernel
theorem dX3_holds_16 : decode cX3_holds 16 = .ok (.iconst 0, 1) := by decide +kernel
theorem dX3_holds_17 : decode cX3_holds 17 = .ok (.ireturn, 1) := by decide +kernel
theorem dX3_add_0 : decode cX3_add 0 = .ok (.aload_n 0, 1) := by decide +kernel
theorem dX3_add_1 : decode cX3_add 1 = .ok (.getfield 21, 3) := by decide +kernel
theorem dX3_add_4 : decode cX3_add 4 = .ok (.istore_n 1, 1) := by decide +kernel
theorem dX3_add_5 : decode cX3_add 5 = .ok (.aload_n 0, 1) := by decide +kernel
theorem dX3_add_6 : decode cX3_add 6 = .ok (.dup, 1) := by decide +kernel
theorem dX3_add_7 : decode cX3_add 7 = .ok (.getfield 21, 3) := by decide +kernel
theorem dX3_add_10 : decode cX3_add 10 = .ok (.iconst 1, 1) := by decide +kernel
theorem dX3_add_11 : decode cX3_add 11 = .ok (.iadd, 1) := by decide +kernel
theorem dX3_add_12 : decode cX3_add 12 = .ok (.putfield 21, 3) := by decide +kernel
theorem dX3_add_15 : decode cX3_add 15 = .ok (.iload_n 1, 1) := by decide +kernel
theorem dX3_add_16 : decode cX3_add 16 = .ok (.ireturn, 1) := by decide +kernel
theorem dX3_isWhole_0 : decode cX3_isWhole 0 = .ok (.aload_n 0, 1) := by decide +kernel
theorem dX3_isWhole_1 : decode cX3_isWhole 1 = .ok (.getfield 9, 3) := by decide +kernel
theorem dX3_isWhole_4 : decode cX3_isWhole 4 = .ok (.iload_n 1, 1) := by decide +kernel
theorem dX3_isWhole_5 : decode cX3_isWhole 5 = .ok (.iaload, 1) := by decide +kernel
theorem dX3_isWhole_6 : decode cX3_isWhole 6 = .ok (.iconst 5, 1) := by decide +kernel
theorem dX3_isWhole_7 : decode cX3_isWhole 7 = .ok (.if_icmp .ne 7, 3) := by decide +kernel
theorem dX3_isWhole_10 : decode cX3_isWhole 10 = .ok (.iconst 1, 1) := by decide +kernel
theorem dX3_isWhole_11 : decode cX3_isWhole 11 = .ok (.goto 4, 3) := by decide +kernel
theorem dX3_isWhole_14 : decode cX3_isWhole 14 = .ok (.iconst 0, 1) := by decide +kernel
theorem dX3_isWhole_15 : decode cX3_isWhole 15 = .ok (.ireturn, 1) := by decide +kernel
theorem dX3_placeFor_0 : decode cX3_placeFor 0 = .ok (.iconst 0, 1) := by decide +kernel
theorem dX3_placeFor_1 : decode cX3_placeFor 1 = .ok (.istore_n 3, 1) := by decide +kernel
theorem dX3_placeFor_2 : decode cX3_placeFor 2 = .ok (.iload_n 3, 1) := by decide +kernel
theorem dX3_placeFor_3 : decode cX3_placeFor 3 = .ok (.aload_n 0, 1) := by decide +kernel
theorem dX3_placeFor_4 : decode cX3_placeFor 4 = .ok (.getfield 9, 3) := by decide +kernel
theorem dX3_placeFor_7 : decode cX3_placeFor 7 = .ok (.iload_n 1, 1) := by decide +kernel
theorem dX3_placeFor_8 : decode cX3_placeFor 8 = .ok (.iaload, 1) := by decide +kernel
theorem dX3_placeFor_9 : decode cX3_placeFor 9 = .ok (.if_icmp .ge 25, 3) := by decide +kernel
theorem dX3_placeFor_12 : decode cX3_placeFor 12 = .ok (.aload_n 0, 1) := by decide +kernel
theorem dX3_placeFor_13 : decode cX3_placeFor 13 = .ok (.getfield 15, 3) := by decide +kernel
theorem dX3_placeFor_16 : decode cX3_placeFor 16 = .ok (.iload_n 1, 1) := by decide +kernel
theorem dX3_placeFor_17 : decode cX3_placeFor 17 = .ok (.iconst 5, 1) := by decide +kernel
theorem dX3_placeFor_18 : decode cX3_placeFor 18 = .ok (.imul, 1) := by decide +kernel
theorem dX3_placeFor_19 : decode cX3_placeFor 19 = .ok (.iload_n 3, 1) := by decide +kernel
theorem dX3_placeFor_20 : decode cX3_placeFor 20 = .ok (.iadd, 1) := by decide +kernel
theorem dX3_placeFor_21 : decode cX3_placeFor 21 = .ok (.iaload, 1) := by decide +kernel
theorem dX3_placeFor_22 : decode cX3_placeFor 22 = .ok (.iload_n 2, 1) := by decide +kernel
theorem dX3_placeFor_23 : decode cX3_placeFor 23 = .ok (.if_icmp .ne 5, 3) := by decide +kernel
theorem dX3_placeFor_26 : decode cX3_placeFor 26 = .ok (.iload_n 3, 1) := by decide +kernel
theorem dX3_placeFor_27 : decode cX3_placeFor 27 = .ok (.ireturn, 1) := by decide +kernel
theorem dX3_placeFor_28 : decode cX3_placeFor 28 = .ok (.iinc 3 1, 3) := by decide +kernel
theorem dX3_placeFor_31 : decode cX3_placeFor 31 = .ok (.goto (-29), 3) := by decide +kernel
theorem dX3_placeFor_34 : decode cX3_placeFor 34 = .ok (.aload_n 0, 1) := by decide +kernel
theorem dX3_placeFor_35 : decode cX3_placeFor 35 = .ok (.getfield 9, 3) := by decide +kernel
theorem dX3_placeFor_38 : decode cX3_placeFor 38 = .ok (.iload_n 1, 1) := by decide +kernel
theorem dX3_placeFor_39 : decode cX3_placeFor 39 = .ok (.iaload, 1) := by decide +kernel
theorem dX3_placeFor_40 : decode cX3_placeFor 40 = .ok (.ireturn, 1) := by decide +kernel
theorem dX3_put_0 : decode cX3_put 0 = .ok (.aload_n 0, 1) := by decide +kernel
theorem dX3_put_1 : decode cX3_put 1 = .ok (.getfield 15, 3) := by decide +kernel
theorem dX3_put_4 : decode cX3_put 4 = .ok (.iload_n 1, 1) := by decide +kernel
theorem dX3_put_5 : decode cX3_put 5 = .ok (.iconst 5, 1) := by decide +kernel
theorem dX3_put_6 : decode cX3_put 6 = .ok (.imul, 1) := by decide +kernel
theorem dX3_put_7 : decode cX3_put 7 = .ok (.iload_n 2, 1) := by decide +kernel
theorem dX3_put_8 : decode cX3_put 8 = .ok (.iadd, 1) := by decide +kernel
theorem dX3_put_9 : decode cX3_put 9 = .ok (.iload_n 3, 1) := by decide +kernel
theorem dX3_put_10 : decode cX3_put 10 = .ok (.iastore, 1) := by decide +kernel
theorem dX3_put_11 : decode cX3_put 11 = .ok (.aload_n 0, 1) := by decide +kernel
theorem dX3_put_12 : decode cX3_put 12 = .ok (.getfield 18, 3) := by decide +kernel
theorem dX3_put_15 : decode cX3_put 15 = .ok (.iload_n 1, 1) := by decide +kernel
theorem dX3_put_16 : decode cX3_put 16 = .ok (.iconst 5, 1) := by decide +kernel
theorem dX3_put_17 : decode cX3_put 17 = .ok (.imul, 1) := by decide +kernel
theorem dX3_put_18 : decode cX3_put 18 = .ok (.iload_n 2, 1) := by decide +kernel
theorem dX3_put_19 : decode cX3_put 19 = .ok (.iadd, 1) := by decide +kernel
theorem dX3_put_20 : decode cX3_put 20 = .ok (.iload 4, 2) := by decide +kernel
theorem dX3_put_22 : decode cX3_put 22 = .ok (.iastore, 1) := by decide +kernel
theorem dX3_put_23 : decode cX3_put 23 = .ok (.aload_n 0, 1) := by decide +kernel
theorem dX3_put_24 : decode cX3_put 24 = .ok (.getfield 9, 3) := by decide +kernel
theorem dX3_put_27 : decode cX3_put 27 = .ok (.iload_n 1, 1) := by decide +kernel
theorem dX3_put_28 : decode cX3_put 28 = .ok (.aload_n 0, 1) := by decide +kernel
theorem dX3_put_29 : decode cX3_put 29 = .ok (.getfield 9, 3) := by decide +kernel
theorem dX3_put_32 : decode cX3_put 32 = .ok (.iload_n 1, 1) := by decide +kernel
theorem dX3_put_33 : decode cX3_put 33 = .ok (.iaload, 1) := by decide +kernel
theorem dX3_put_34 : decode cX3_put 34 = .ok (.iload_n 2, 1) := by decide +kernel
theorem dX3_put_35 : decode cX3_put 35 = .ok (.iconst 1, 1) := by decide +kernel
theorem dX3_put_36 : decode cX3_put 36 = .ok (.iadd, 1) := by decide +kernel
theorem dX3_put_37 : decode cX3_put 37 = .ok (.invokestatic 25, 3) := by decide +kernel
theorem dX3_put_40 : decode cX3_put 40 = .ok (.iastore, 1) := by decide +kernel
theorem dX3_put_41 : decode cX3_put 41 = .ok (.aload_n 0, 1) := by decide +kernel
theorem dX3_put_42 : decode cX3_put 42 = .ok (.getfield 9, 3) := by decide +kernel
theorem dX3_put_45 : decode cX3_put 45 = .ok (.iload_n 1, 1) := by decide +kernel
theorem dX3_put_46 : decode cX3_put 46 = .ok (.iaload, 1) := by decide +kernel
theorem dX3_put_47 : decode cX3_put 47 = .ok (.ireturn, 1) := by decide +kernel
theorem dX3_upTo_0 : decode cX3_upTo 0 = .ok (.iconst 0, 1) := by decide +kernel
theorem dX3_upTo_1 : decode cX3_upTo 1 = .ok (.istore_n 3, 1) := by decide +kernel
theorem dX3_upTo_2 : decode cX3_upTo 2 = .ok (.iconst 0, 1) := by decide +kernel
theorem dX3_upTo_3 : decode cX3_upTo 3 = .ok (.istore 4, 2) := by decide +kernel
theorem dX3_upTo_5 : decode cX3_upTo 5 = .ok (.iload 4, 2) := by decide +kernel
theorem dX3_upTo_7 : decode cX3_upTo 7 = .ok (.iconst 5, 1) := by decide +kernel
theorem dX3_upTo_8 : decode cX3_upTo 8 = .ok (.if_icmp .ge 27, 3) := by decide +kernel
theorem dX3_upTo_11 : decode cX3_upTo 11 = .ok (.aload_n 0, 1) := by decide +kernel
theorem dX3_upTo_12 : decode cX3_upTo 12 = .ok (.getfield 18, 3) := by decide +kernel
theorem dX3_upTo_15 : decode cX3_upTo 15 = .ok (.iload_n 1, 1) := by decide +kernel
theorem dX3_upTo_16 : decode cX3_upTo 16 = .ok (.iconst 5, 1) := by decide +kernel
theorem dX3_upTo_17 : decode cX3_upTo 17 = .ok (.imul, 1) := by decide +kernel
theorem dX3_upTo_18 : decode cX3_upTo 18 = .ok (.iload 4, 2) := by decide +kernel
theorem dX3_upTo_20 : decode cX3_upTo 20 = .ok (.iadd, 1) := by decide +kernel
theorem dX3_upTo_21 : decode cX3_upTo 21 = .ok (.iaload, 1) := by decide +kernel
theorem dX3_upTo_22 : decode cX3_upTo 22 = .ok (.iload_n 2, 1) := by decide +kernel
theorem dX3_upTo_23 : decode cX3_upTo 23 = .ok (.if_icmp .gt 6, 3) := by decide +kernel
theorem dX3_upTo_26 : decode cX3_upTo 26 = .ok (.iinc 3 1, 3) := by decide +kernel
theorem dX3_upTo_29 : decode cX3_upTo 29 = .ok (.iinc 4 1, 3) := by decide +kernel
theorem dX3_upTo_32 : decode cX3_upTo 32 = .ok (.goto (-27), 3) := by decide +kernel
theorem dX3_upTo_35 : decode cX3_upTo 35 = .ok (.iload_n 3, 1) := by decide +kernel
theorem dX3_upTo_36 : decode cX3_upTo 36 = .ok (.ireturn, 1) := by decide +kernel
theorem dX3_middleOf_0 : decode cX3_middleOf 0 = .ok (.bipush 100, 2) := by decide +kernel
theorem dX3_middleOf_2 : decode cX3_middleOf 2 = .ok (.istore_n 2, 1) := by decide +kernel
theorem dX3_middleOf_3 : decode cX3_middleOf 3 = .ok (.iconst 0, 1) := by decide +kernel
theorem dX3_middleOf_4 : decode cX3_middleOf 4 = .ok (.istore_n 3, 1) := by decide +kernel
theorem dX3_middleOf_5 : decode cX3_middleOf 5 = .ok (.iload_n 3, 1) := by decide +kernel
theorem dX3_middleOf_6 : decode cX3_middleOf 6 = .ok (.iconst 5, 1) := by decide +kernel
theorem dX3_middleOf_7 : decode cX3_middleOf 7 = .ok (.if_icmp .ge 41, 3) := by decide +kernel
theorem dX3_middleOf_10 : decode cX3_middleOf 10 = .ok (.aload_n 0, 1) := by decide +kernel
theorem dX3_middleOf_11 : decode cX3_middleOf 11 = .ok (.getfield 18, 3) := by decide +kernel
theorem dX3_middleOf_14 : decode cX3_middleOf 14 = .ok (.iload_n 1, 1) := by decide +kernel
theorem dX3_middleOf_15 : decode cX3_middleOf 15 = .ok (.iconst 5, 1) := by decide +kernel
theorem dX3_middleOf_16 : decode cX3_middleOf 16 = .ok (.imul, 1) := by decide +kernel
theorem dX3_middleOf_17 : decode cX3_middleOf 17 = .ok (.iload_n 3, 1) := by decide +kernel
theorem dX3_middleOf_18 : decode cX3_middleOf 18 = .ok (.iadd, 1) := by decide +kernel
theorem dX3_middleOf_19 : decode cX3_middleOf 19 = .ok (.iaload, 1) := by decide +kernel
theorem dX3_middleOf_20 : decode cX3_middleOf 20 = .ok (.istore 4, 2) := by decide +kernel
theorem dX3_middleOf_22 : decode cX3_middleOf 22 = .ok (.iload 4, 2) := by decide +kernel
theorem dX3_middleOf_24 : decode cX3_middleOf 24 = .ok (.iload_n 2, 1) := by decide +kernel
theorem dX3_middleOf_25 : decode cX3_middleOf 25 = .ok (.if_icmp .ge 17, 3) := by decide +kernel
theorem dX3_middleOf_28 : decode cX3_middleOf 28 = .ok (.aload_n 0, 1) := by decide +kernel
theorem dX3_middleOf_29 : decode cX3_middleOf 29 = .ok (.iload_n 1, 1) := by decide +kernel
theorem dX3_middleOf_30 : decode cX3_middleOf 30 = .ok (.iload 4, 2) := by decide +kernel
theorem dX3_middleOf_32 : decode cX3_middleOf 32 = .ok (.invokevirtual 31, 3) := by decide +kernel
theorem dX3_middleOf_35 : decode cX3_middleOf 35 = .ok (.iconst 3, 1) := by decide +kernel
theorem dX3_middleOf_36 : decode cX3_middleOf 36 = .ok (.if_icmp .lt 6, 3) := by decide +kernel
theorem dX3_middleOf_39 : decode cX3_middleOf 39 = .ok (.iload 4, 2) := by decide +kernel
theorem dX3_middleOf_41 : decode cX3_middleOf 41 = .ok (.istore_n 2, 1) := by decide +kernel
theorem dX3_middleOf_42 : decode cX3_middleOf 42 = .ok (.iinc 3 1, 3) := by decide +kernel
theorem dX3_middleOf_45 : decode cX3_middleOf 45 = .ok (.goto (-40), 3) := by decide +kernel
theorem dX3_middleOf_48 : decode cX3_middleOf 48 = .ok (.iload_n 2, 1) := by decide +kernel
theorem dX3_middleOf_49 : decode cX3_middleOf 49 = .ok (.ireturn, 1) := by decide +kernel
theorem dX3_awayFromMiddle_0 : decode cX3_awayFromMiddle 0 = .ok (.aload_n 0, 1) := by decide +kernel
theorem dX3_awayFromMiddle_1 : decode cX3_awayFromMiddle 1 = .ok (.iload_n 1, 1) := by decide +kernel
theorem dX3_awayFromMiddle_2 : decode cX3_awayFromMiddle 2 = .ok (.invokevirtual 34, 3) := by decide +kernel
theorem dX3_awayFromMiddle_5 : decode cX3_awayFromMiddle 5 = .ok (.istore_n 3, 1) := by decide +kernel
theorem dX3_awayFromMiddle_6 : decode cX3_awayFromMiddle 6 = .ok (.iconst 0, 1) := by decide +kernel
theorem dX3_awayFromMiddle_7 : decode cX3_awayFromMiddle 7 = .ok (.istore 4, 2) := by decide +kernel
theorem dX3_awayFromMiddle_9 : decode cX3_awayFromMiddle 9 = .ok (.iconst 0, 1) := by decide +kernel
theorem dX3_awayFromMiddle_10 : decode cX3_awayFromMiddle 10 = .ok (.istore 5, 2) := by decide +kernel
theorem dX3_awayFromMiddle_12 : decode cX3_awayFromMiddle 12 = .ok (.iload 5, 2) := by decide +kernel
theorem dX3_awayFromMiddle_14 : decode cX3_awayFromMiddle 14 = .ok (.iconst 5, 1) := by decide +kernel
theorem dX3_awayFromMiddle_15 : decode cX3_awayFromMiddle 15 = .ok (.if_icmp .ge 32, 3) := by decide +kernel
theorem dX3_awayFromMiddle_18 : decode cX3_awayFromMiddle 18 = .ok (.aload_n 0, 1) := by decide +kernel
theorem dX3_awayFromMiddle_19 : decode cX3_awayFromMiddle 19 = .ok (.getfield 18, 3) := by decide +kernel
theorem dX3_awayFromMiddle_22 : decode cX3_awayFromMiddle 22 = .ok (.iload_n 1, 1) := by decide +kernel
theorem dX3_awayFromMiddle_23 : decode cX3_awayFromMiddle 23 = .ok (.iconst 5, 1) := by decide +kernel
theorem dX3_awayFromMiddle_24 : decode cX3_awayFromMiddle 24 = .ok (.imul, 1) := by decide +kernel
theorem dX3_awayFromMiddle_25 : decode cX3_awayFromMiddle 25 = .ok (.iload 5, 2) := by decide +kernel
theorem dX3_awayFromMiddle_27 : decode cX3_awayFromMiddle 27 = .ok (.iadd, 1) := by decide +kernel
theorem dX3_awayFromMiddle_28 : decode cX3_awayFromMiddle 28 = .ok (.iaload, 1) := by decide +kernel
theorem dX3_awayFromMiddle_29 : decode cX3_awayFromMiddle 29 = .ok (.iload_n 3, 1) := by decide +kernel
theorem dX3_awayFromMiddle_30 : decode cX3_awayFromMiddle 30 = .ok (.isub, 1) := by decide +kernel
theorem dX3_awayFromMiddle_31 : decode cX3_awayFromMiddle 31 = .ok (.invokestatic 38, 3) := by decide +kernel
theorem dX3_awayFromMiddle_34 : decode cX3_awayFromMiddle 34 = .ok (.iload_n 2, 1) := by decide +kernel
theorem dX3_awayFromMiddle_35 : decode cX3_awayFromMiddle 35 = .ok (.if_icmp .le 6, 3) := by decide +kernel
theorem dX3_awayFromMiddle_38 : decode cX3_awayFromMiddle 38 = .ok (.iinc 4 1, 3) := by decide +kernel
theorem dX3_awayFromMiddle_41 : decode cX3_awayFromMiddle 41 = .ok (.iinc 5 1, 3) := by decide +kernel
theorem dX3_awayFromMiddle_44 : decode cX3_awayFromMiddle 44 = .ok (.goto (-32), 3) := by decide +kernel
theorem dX3_awayFromMiddle_47 : decode cX3_awayFromMiddle 47 = .ok (.iload 4, 2) := by decide +kernel
theorem dX3_awayFromMiddle_49 : decode cX3_awayFromMiddle 49 = .ok (.ireturn, 1) := by decide +kernel
theorem dX3_hardness_0 : decode cX3_hardness 0 = .ok (.iconst 0, 1) := by decide +kernel
theorem dX3_hardness_1 : decode cX3_hardness 1 = .ok (.istore_n 2, 1) := by decide +kernel
theorem dX3_hardness_2 : decode cX3_hardness 2 = .ok (.iconst 0, 1) := by decide +kernel
theorem dX3_hardness_3 : decode cX3_hardness 3 = .ok (.istore_n 3, 1) := by decide +kernel
theorem dX3_hardness_4 : decode cX3_hardness 4 = .ok (.iload_n 3, 1) := by decide +kernel
theorem dX3_hardness_5 : decode cX3_hardness 5 = .ok (.aload_n 0, 1) := by decide +kernel
theorem dX3_hardness_6 : decode cX3_hardness 6 = .ok (.getfield 21, 3) := by decide +kernel
theorem dX3_hardness_9 : decode cX3_hardness 9 = .ok (.if_icmp .ge 51, 3) := by decide +kernel
theorem dX3_hardness_12 : decode cX3_hardness 12 = .ok (.aload_n 0, 1) := by decide +kernel
theorem dX3_hardness_13 : decode cX3_hardness 13 = .ok (.iload_n 3, 1) := by decide +kernel
theorem dX3_hardness_14 : decode cX3_hardness 14 = .ok (.iload_n 1, 1) := by decide +kernel
theorem dX3_hardness_15 : decode cX3_hardness 15 = .ok (.invokevirtual 41, 3) := by decide +kernel
theorem dX3_hardness_18 : decode cX3_hardness 18 = .ok (.istore 4, 2) := by decide +kernel
theorem dX3_hardness_20 : decode cX3_hardness 20 = .ok (.aload_n 0, 1) := by decide +kernel
theorem dX3_hardness_21 : decode cX3_hardness 21 = .ok (.iload_n 3, 1) := by decide +kernel
theorem dX3_hardness_22 : decode cX3_hardness 22 = .ok (.invokevirtual 44, 3) := by decide +kernel
theorem dX3_hardness_25 : decode cX3_hardness 25 = .ok (.ifCond .eq 29, 3) := by decide +kernel
theorem dX3_hardness_28 : decode cX3_hardness 28 = .ok (.iload 4, 2) := by decide +kernel
theorem dX3_hardness_30 : decode cX3_hardness 30 = .ok (.iconst 5, 1) := by decide +kernel
theorem dX3_hardness_31 : decode cX3_hardness 31 = .ok (.if_icmp .ge 23, 3) := by decide +kernel
theorem dX3_hardness_34 : decode cX3_hardness 34 = .ok (.iload_n 2, 1) := by decide +kernel
theorem dX3_hardness_35 : decode cX3_hardness 35 = .ok (.aload_n 0, 1) := by decide +kernel
theorem dX3_hardness_36 : decode cX3_hardness 36 = .ok (.getfield 18, 3) := by decide +kernel
theorem dX3_hardness_39 : decode cX3_hardness 39 = .ok (.iload_n 3, 1) := by decide +kernel
theorem dX3_hardness_40 : decode cX3_hardness 40 = .ok (.iconst 5, 1) := by decide +kernel
theorem dX3_hardness_41 : decode cX3_hardness 41 = .ok (.imul, 1) := by decide +kernel
theorem dX3_hardness_42 : decode cX3_hardness 42 = .ok (.iload 4, 2) := by decide +kernel
theorem dX3_hardness_44 : decode cX3_hardness 44 = .ok (.iadd, 1) := by decide +kernel
theorem dX3_hardness_45 : decode cX3_hardness 45 = .ok (.iaload, 1) := by decide +kernel
theorem dX3_hardness_46 : decode cX3_hardness 46 = .ok (.aload_n 0, 1) := by decide +kernel
theorem dX3_hardness_47 : decode cX3_hardness 47 = .ok (.iload_n 3, 1) := by decide +kernel
theorem dX3_hardness_48 : decode cX3_hardness 48 = .ok (.invokevirtual 34, 3) := by decide +kernel
theorem dX3_hardness_51 : decode cX3_hardness 51 = .ok (.isub, 1) := by decide +kernel
theorem dX3_hardness_52 : decode cX3_hardness 52 = .ok (.iadd, 1) := by decide +kernel
theorem dX3_hardness_53 : decode cX3_hardness 53 = .ok (.istore_n 2, 1) := by decide +kernel
theorem dX3_hardness_54 : decode cX3_hardness 54 = .ok (.iinc 3 1, 3) := by decide +kernel
theorem dX3_hardness_57 : decode cX3_hardness 57 = .ok (.goto (-53), 3) := by decide +kernel
theorem dX3_hardness_60 : decode cX3_hardness 60 = .ok (.iload_n 2, 1) := by decide +kernel
theorem dX3_hardness_61 : decode cX3_hardness 61 = .ok (.ireturn, 1) := by decide +kernel
theorem dX4_init_0 : decode cX4_init 0 = .ok (.aload_n 0, 1) := by decide +kernel
theorem dX4_init_1 : decode cX4_init 1 = .ok (.invokespecial 3, 3) := by decide +kernel
theorem dX4_init_4 : decode cX4_init 4 = .ok (.aload_n 0, 1) := by decide +kernel
theorem dX4_init_5 : decode cX4_init 5 = .ok (.bipush 20, 2) := by decide +kernel
theorem dX4_init_7 : decode cX4_init 7 = .ok (.newarray .int, 2) := by decide +kernel
theorem dX4_init_9 : decode cX4_init 9 = .ok (.putfield 9, 3) := by decide +kernel
theorem dX4_init_12 : decode cX4_init 12 = .ok (.aload_n 0, 1) := by decide +kernel
theorem dX4_init_13 : decode cX4_init 13 = .ok (.bipush 20, 2) := by decide +kernel
theorem dX4_init_15 : decode cX4_init 15 = .ok (.newarray .int, 2) := by decide +kernel
theorem dX4_init_17 : decode cX4_init 17 = .ok (.putfield 15, 3) := by decide +kernel
theorem dX4_init_20 : decode cX4_init 20 = .ok (.aload_n 0, 1) := by decide +kernel
theorem dX4_init_21 : decode cX4_init 21 = .ok (.bipush 20, 2) := by decide +kernel
theorem dX4_init_23 : decode cX4_init 23 = .ok (.newarray .int, 2) := by decide +kernel
theorem dX4_init_25 : decode cX4_init 25 = .ok (.putfield 18, 3) := by decide +kernel
theorem dX4_init_28 : decode cX4_init 28 = .ok (.aload_n 0, 1) := by decide +kernel
theorem dX4_init_29 : decode cX4_init 29 = .ok (.bipush 20, 2) := by decide +kernel
theorem dX4_init_31 : decode cX4_init 31 = .ok (.newarray .int, 2) := by decide +kernel
theorem dX4_init_33 : decode cX4_init 33 = .ok (.putfield 21, 3) := by decide +kernel
theorem dX4_init_36 : decode cX4_init 36 = .ok (.aload_n 0, 1) := by decide +kernel
theorem dX4_init_37 : decode cX4_init 37 = .ok (.sipush 160, 3) := by decide +kernel
theorem dX4_init_40 : decode cX4_init 40 = .ok (.newarray .int, 2) := by decide +kernel
theorem dX4_init_42 : decode cX4_init 42 = .ok (.putfield 24, 3) := by decide +kernel
theorem dX4_init_45 : decode cX4_init 45 = .ok (.return_, 1) := by decide +kernel
theorem dX4_holds_0 : decode cX4_holds 0 = .ok (.iload_n 1, 1) := by decide +kernel
theorem dX4_holds_1 : decode cX4_holds 1 = .ok (.ifCond .lt 15, 3) := by decide +kernel
theorem dX4_holds_4 : decode cX4_holds 4 = .ok (.iload_n 1, 1) := by decide +kernel
theorem dX4_holds_5 : decode cX4_holds 5 = .ok (.aload_n 0, 1) := by decide +kernel
theorem dX4_holds_6 : decode cX4_holds 6 = .ok (.getfield 27, 3) := by decide +kernel
theorem dX4_holds_9 : decode cX4_holds 9 = .ok (.if_icmp .ge 7, 3) := by decide +kernel
theorem dX4_holds_12 : decode cX4_holds 12 = .ok (.iconst 1, 1) := by decide +kernel
theorem dX4_holds_13 : decode cX4_holds 13 = .ok (.goto 4, 3) := by decide +kernel
theorem dX4_holds_16 : decode cX4_holds 16 = .ok (.iconst 0, 1) := by decide +kernel
theorem dX4_holds_17 : decode cX4_holds 17 = .ok (.ireturn, 1) := by decide +kernel
theorem dX4_areAll_0 : decode cX4_areAll 0 = .ok (.iload_n 1, 1) := by decide +kernel
theorem dX4_areAll_1 : decode cX4_areAll 1 = .ok (.aload_n 0, 1) := by decide +kernel
theorem dX4_areAll_2 : decode cX4_areAll 2 = .ok (.getfield 27, 3) := by decide +kernel
theorem dX4_areAll_5 : decode cX4_areAll 5 = .ok (.iushr, 1) := by decide +kernel
theorem dX4_areAll_6 : decode cX4_areAll 6 = .ok (.ifCond .ne 7, 3) := by decide +kernel
theorem dX4_areAll_9 : decode cX4_areAll 9 = .ok (.iconst 1, 1) := by decide +kernel
theorem dX4_areAll_10 : decode cX4_areAll 10 = .ok (.goto 4, 3) := by decide +kernel
theorem dX4_areAll_13 : decode cX4_areAll 13 = .ok (.iconst 0, 1) := by decide +kernel
theorem dX4_areAll_14 : decode cX4_areAll 14 = .ok (.ireturn, 1) := by decide +kernel
theorem dX4_isExaminer_0 : decode cX4_isExaminer 0 = .ok (.aload_n 0, 1) := by decide +kernel
theorem dX4_isExaminer_1 : decode cX4_isExaminer 1 = .ok (.getfield 9, 3) := by decide +kernel
theorem dX4_isExaminer_4 : decode cX4_isExaminer 4 = .ok (.iload_n 1, 1) := by decide +kernel
theorem dX4_isExaminer_5 : decode cX4_isExaminer 5 = .ok (.iaload, 1) := by decide +kernel
theorem dX4_isExaminer_6 : decode cX4_isExaminer 6 = .ok (.iconst 1, 1) := by decide +kernel
theorem dX4_isExaminer_7 : decode cX4_isExaminer 7 = .ok (.if_icmp .ne 7, 3) := by decide +kernel
theorem dX4_isExaminer_10 : decode cX4_isExaminer 10 = .ok (.iconst 1, 1) := by decide +kernel
theorem dX4_isExaminer_11 : decode cX4_isExaminer 11 = .ok (.goto 4, 3) := by decide +kernel
theorem dX4_isExaminer_14 : decode cX4_isExaminer 14 = .ok (.iconst 0, 1) := by decide +kernel
theorem dX4_isExaminer_15 : decode cX4_isExaminer 15 = .ok (.ireturn, 1) := by decide +kernel
theorem dX4_hasRoomFor_0 : decode cX4_hasRoomFor 0 = .ok (.aload_n 0, 1) := by decide +kernel
theorem dX4_hasRoomFor_1 : decode cX4_hasRoomFor 1 = .ok (.getfield 27, 3) := by decide +kernel
theorem dX4_hasRoomFor_4 : decode cX4_hasRoomFor 4 = .ok (.bipush 20, 2) := by decide +kernel
theorem dX4_hasRoomFor_6 : decode cX4_hasRoomFor 6 = .ok (.if_icmp .ge 21, 3) := by decide +kernel
theorem dX4_hasRoomFor_9 : decode cX4_hasRoomFor 9 = .ok (.iload_n 1, 1) := by decide +kernel
theorem dX4_hasRoomFor_10 : decode cX4_hasRoomFor 10 = .ok (.iconst 1, 1) := by decide +kernel
theorem dX4_hasRoomFor_11 : decode cX4_hasRoomFor 11 = .ok (.if_icmp .ne 12, 3) := by decide +kernel
theorem dX4_hasRoomFor_14 : decode cX4_hasRoomFor 14 = .ok (.aload_n 0, 1) := by decide +kernel
theorem dX4_hasRoomFor_15 : decode cX4_hasRoomFor 15 = .ok (.getfield 31, 3) := by decide +kernel
theorem dX4_hasRoomFor_18 : decode cX4_hasRoomFor 18 = .ok (.bipush 6, 2) := by decide +kernel
theorem dX4_hasRoomFor_20 : decode cX4_hasRoomFor 20 = .ok (.if_icmp .ge 7, 3) := by decide +kernel
theorem dX4_hasRoomFor_23 : decode cX4_hasRoomFor 23 = .ok (.iconst 1, 1) := by decide +kernel
theorem dX4_hasRoomFor_24 : decode cX4_hasRoomFor 24 = .ok (.goto 4, 3) := by decide +kernel
theorem dX4_hasRoomFor_27 : decode cX4_hasRoomFor 27 = .ok (.iconst 0, 1) := by decide +kernel
theorem dX4_hasRoomFor_28 : decode cX4_hasRoomFor 28 = .ok (.ireturn, 1) := by decide +kernel
theorem dX4_add_0 : decode cX4_add 0 = .ok (.aload_n 0, 1) := by decide +kernel
theorem dX4_add_1 : decode cX4_add 1 = .ok (.getfield 27, 3) := by decide +kernel
theorem dX4_add_4 : decode cX4_add 4 = .ok (.istore 4, 2) := by decide +kernel
theorem dX4_add_6 : decode cX4_add 6 = .ok (.aload_n 0, 1) := by decide +kernel
theorem dX4_add_7 : decode cX4_add 7 = .ok (.getfield 9, 3) := by decide +kernel
theorem dX4_add_10 : decode cX4_add 10 = .ok (.iload 4, 2) := by decide +kernel
theorem dX4_add_12 : decode cX4_add 12 = .ok (.iload_n 1, 1) := by decide +kernel
theorem dX4_add_13 : decode cX4_add 13 = .ok (.iastore, 1) := by decide +kernel
theorem dX4_add_14 : decode cX4_add 14 = .ok (.aload_n 0, 1) := by decide +kernel
theorem dX4_add_15 : decode cX4_add 15 = .ok (.getfield 15, 3) := by decide +kernel
theorem dX4_add_18 : decode cX4_add 18 = .ok (.iload 4, 2) := by decide +kernel
theorem dX4_add_20 : decode cX4_add 20 = .ok (.iload_n 2, 1) := by decide +kernel
theorem dX4_add_21 : decode cX4_add 21 = .ok (.iastore, 1) := by decide +kernel
theorem dX4_add_22 : decode cX4_add 22 = .ok (.aload_n 0, 1) := by decide +kernel
theorem dX4_add_23 : decode cX4_add 23 = .ok (.getfield 18, 3) := by decide +kernel
theorem dX4_add_26 : decode cX4_add 26 = .ok (.iload 4, 2) := by decide +kernel
theorem dX4_add_28 : decode cX4_add 28 = .ok (.iload_n 3, 1) := by decide +kernel
theorem dX4_add_29 : decode cX4_add 29 = .ok (.iastore, 1) := by decide +kernel
theorem dX4_add_30 : decode cX4_add 30 = .ok (.aload_n 0, 1) := by decide +kernel
theorem dX4_add_31 : decode cX4_add 31 = .ok (.getfield 21, 3) := by decide +kernel
theorem dX4_add_34 : decode cX4_add 34 = .ok (.iload 4, 2) := by decide +kernel
theorem dX4_add_36 : decode cX4_add 36 = .ok (.sipush 30000, 3) := by decide +kernel
theorem dX4_add_39 : decode cX4_add 39 = .ok (.iastore, 1) := by decide +kernel
theorem dX4_add_40 : decode cX4_add 40 = .ok (.iconst 0, 1) := by decide +kernel
theorem dX4_add_41 : decode cX4_add 41 = .ok (.istore 5, 2) := by decide +kernel
theorem dX4_add_43 : decode cX4_add 43 = .ok (.iload 5, 2) := by decide +kernel
theorem dX4_add_45 : decode cX4_add 45 = .ok (.bipush 8, 2) := by decide +kernel
theorem dX4_add_47 : decode cX4_add 47 = .ok (.if_icmp .ge 23, 3) := by decide +kernel
theorem dX4_add_50 : decode cX4_add 50 = .ok (.aload_n 0, 1) := by decide +kernel
theorem dX4_add_51 : decode cX4_add 51 = .ok (.getfield 24, 3) := by decide +kernel
theorem dX4_add_54 : decode cX4_add 54 = .ok (.iload 4, 2) := by decide +kernel
theorem dX4_add_56 : decode cX4_add 56 = .ok (.bipush 8, 2) := by decide +kernel
theorem dX4_add_58 : decode cX4_add 58 = .ok (.imul, 1) := by decide +kernel
theorem dX4_add_59 : decode cX4_add 59 = .ok (.iload 5, 2) := by decide +kernel
theorem dX4_add_61 : decode cX4_add 61 = .ok (.iadd, 1) := by decide +kernel
theorem dX4_add_62 : decode cX4_add 62 = .ok (.iconst (-1), 1) := by decide +kernel
theorem dX4_add_63 : decode cX4_add 63 = .ok (.iastore, 1) := by decide +kernel
theorem dX4_add_64 : decode cX4_add 64 = .ok (.iinc 5 1, 3) := by decide +kernel
theorem dX4_add_67 : decode cX4_add 67 = .ok (.goto (-24), 3) := by decide +kernel
theorem dX4_add_70 : decode cX4_add 70 = .ok (.iload_n 1, 1) := by decide +kernel
theorem dX4_add_71 : decode cX4_add 71 = .ok (.iconst 1, 1) := by decide +kernel
theorem dX4_add_72 : decode cX4_add 72 = .ok (.if_icmp .ne 13, 3) := by decide +kernel
theorem dX4_add_75 : decode cX4_add 75 = .ok (.aload_n 0, 1) := by decide +kernel
theorem dX4_add_76 : decode cX4_add 76 = .ok (.dup, 1) := by decide +kernel
theorem dX4_add_77 : decode cX4_add 77 = .ok (.getfield 31, 3) := by decide +kernel
theorem dX4_add_80 : decode cX4_add 80 = .ok (.iconst 1, 1) := by decide +kernel
theorem dX4_add_81 : decode cX4_add 81 = .ok (.iadd, 1) := by decide +kernel
theorem dX4_add_82 : decode cX4_add 82 = .ok (.putfield 31, 3) := by decide +kernel
theorem dX4_add_85 : decode cX4_add 85 = .ok (.aload_n 0, 1) := by decide +kernel
theorem dX4_add_86 : decode cX4_add 86 = .ok (.dup, 1) := by decide +kernel
theorem dX4_add_87 : decode cX4_add 87 = .ok (.getfield 27, 3) := by decide +kernel
theorem dX4_add_90 : decode cX4_add 90 = .ok (.iconst 1, 1) := by decide +kernel
theorem dX4_add_91 : decode cX4_add 91 = .ok (.iadd, 1) := by decide +kernel
theorem dX4_add_92 : decode cX4_add 92 = .ok (.putfield 27, 3) := by decide +kernel
theorem dX4_add_95 : decode cX4_add 95 = .ok (.iload 4, 2) := by decide +kernel
theorem dX4_add_97 : decode cX4_add 97 = .ok (.ireturn, 1) := by decide +kernel
theorem dX4_passedAll_0 : decode cX4_passedAll 0 = .ok (.iconst 0, 1) := by decide +kernel
theorem dX4_passedAll_1 : decode cX4_passedAll 1 = .ok (.istore 5, 2) := by decide +kernel
theorem dX4_passedAll_3 : decode cX4_passedAll 3 = .ok (.iload 5, 2) := by decide +kernel
theorem dX4_passedAll_5 : decode cX4_passedAll 5 = .ok (.bipush 8, 2) := by decide +kernel
theorem dX4_passedAll_7 : decode cX4_passedAll 7 = .ok (.if_icmp .ge 47, 3) := by decide +kernel
theorem dX4_passedAll_10 : decode cX4_passedAll 10 = .ok (.aload_n 0, 1) := by decide +kernel
theorem dX4_passedAll_11 : decode cX4_passedAll 11 = .ok (.getfield 24, 3) := by decide +kernel
theorem dX4_passedAll_14 : decode cX4_passedAll 14 = .ok (.iload_n 1, 1) := by decide +kernel
theorem dX4_passedAll_15 : decode cX4_passedAll 15 = .ok (.bipush 8, 2) := by decide +kernel
theorem dX4_passedAll_17 : decode cX4_passedAll 17 = .ok (.imul, 1) := by decide +kernel
theorem dX4_passedAll_18 : decode cX4_passedAll 18 = .ok (.iload 5, 2) := by decide +kernel
theorem dX4_passedAll_20 : decode cX4_passedAll 20 = .ok (.iadd, 1) := by decide +kernel
theorem dX4_passedAll_21 : decode cX4_passedAll 21 = .ok (.iaload, 1) := by decide +kernel
theorem dX4_passedAll_22 : decode cX4_passedAll 22 = .ok (.istore 6, 2) := by decide +kernel
theorem dX4_passedAll_24 : decode cX4_passedAll 24 = .ok (.iload_n 2, 1) := by decide +kernel
theorem dX4_passedAll_25 : decode cX4_passedAll 25 = .ok (.iload 5, 2) := by decide +kernel
theorem dX4_passedAll_27 : decode cX4_passedAll 27 = .ok (.ishr, 1) := by decide +kernel
theorem dX4_passedAll_28 : decode cX4_passedAll 28 = .ok (.iconst 1, 1) := by decide +kernel
theorem dX4_passedAll_29 : decode cX4_passedAll 29 = .ok (.iand, 1) := by decide +kernel
theorem dX4_passedAll_30 : decode cX4_passedAll 30 = .ok (.ifCond .eq 18, 3) := by decide +kernel
theorem dX4_passedAll_33 : decode cX4_passedAll 33 = .ok (.iload 6, 2) := by decide +kernel
theorem dX4_passedAll_35 : decode cX4_passedAll 35 = .ok (.iload_n 3, 1) := by decide +kernel
theorem dX4_passedAll_36 : decode cX4_passedAll 36 = .ok (.if_icmp .lt 10, 3) := by decide +kernel
theorem dX4_passedAll_39 : decode cX4_passedAll 39 = .ok (.iload 6, 2) := by decide +kernel
theorem dX4_passedAll_41 : decode cX4_passedAll 41 = .ok (.iload 4, 2) := by decide +kernel
theorem dX4_passedAll_43 : decode cX4_passedAll 43 = .ok (.if_icmp .le 5, 3) := by decide +kernel
theorem dX4_passedAll_46 : decode cX4_passedAll 46 = .ok (.iconst 0, 1) := by decide +kernel
theorem dX4_passedAll_47 : decode cX4_passedAll 47 = .ok (.ireturn, 1) := by decide +kernel
theorem dX4_passedAll_48 : decode cX4_passedAll 48 = .ok (.iinc 5 1, 3) := by decide +kernel
theorem dX4_passedAll_51 : decode cX4_passedAll 51 = .ok (.goto (-48), 3) := by decide +kernel
theorem dX4_passedAll_54 : decode cX4_passedAll 54 = .ok (.iconst 1, 1) := by decide +kernel
theorem dX4_passedAll_55 : decode cX4_passedAll 55 = .ok (.ireturn, 1) := by decide +kernel
theorem dX5_init_0 : decode cX5_init 0 = .ok (.aload_n 0, 1) := by decide +kernel
theorem dX5_init_1 : decode cX5_init 1 = .ok (.invokespecial 3, 3) := by decide +kernel
theorem dX5_init_4 : decode cX5_init 4 = .ok (.aload_n 0, 1) := by decide +kernel
theorem dX5_init_5 : decode cX5_init 5 = .ok (.bipush 40, 2) := by decide +kernel
theorem dX5_init_7 : decode cX5_init 7 = .ok (.newarray .int, 2) := by decide +kernel
theorem dX5_init_9 : decode cX5_init 9 = .ok (.putfield 9, 3) := by decide +kernel
theorem dX5_init_12 : decode cX5_init 12 = .ok (.aload_n 0, 1) := by decide +kernel
theorem dX5_init_13 : decode cX5_init 13 = .ok (.bipush 40, 2) := by decide +kernel
theorem dX5_init_15 : decode cX5_init 15 = .ok (.newarray .int, 2) := by decide +kernel
theorem dX5_init_17 : decode cX5_init 17 = .ok (.putfield 15, 3) := by decide +kernel
theorem dX5_init_20 : decode cX5_init 20 = .ok (.aload_n 0, 1) := by decide +kernel
theorem dX5_init_21 : decode cX5_init 21 = .ok (.bipush 40, 2) := by decide +kernel
theorem dX5_init_23 : decode cX5_init 23 = .ok (.newarray .int, 2) := by decide +kernel
theorem dX5_init_25 : decode cX5_init 25 = .ok (.putfield 18, 3) := by decide +kernel
theorem dX5_init_28 : decode cX5_init 28 = .ok (.aload_n 0, 1) := by decide +kernel
theorem dX5_init_29 : decode cX5_init 29 = .ok (.bipush 40, 2) := by decide +kernel
theorem dX5_init_31 : decode cX5_init 31 = .ok (.newarray .int, 2) := by decide +kernel
theorem dX5_init_33 : decode cX5_init 33 = .ok (.putfield 21, 3) := by decide +kernel
theorem dX5_init_36 : decode cX5_init 36 = .ok (.aload_n 0, 1) := by decide +kernel
theorem dX5_init_37 : decode cX5_init 37 = .ok (.bipush 40, 2) := by decide +kernel
theorem dX5_init_39 : decode cX5_init 39 = .ok (.newarray .int, 2) := by decide +kernel
theorem dX5_init_41 : decode cX5_init 41 = .ok (.putfield 24, 3) := by decide +kernel
theorem dX5_init_44 : decode cX5_init 44 = .ok (.aload_n 0, 1) := by decide +kernel
theorem dX5_init_45 : decode cX5_init 45 = .ok (.bipush 40, 2) := by decide +kernel
theorem dX5_init_47 : decode cX5_init 47 = .ok (.newarray .int, 2) := by decide +kernel
theorem dX5_init_49 : decode cX5_init 49 = .ok (.putfield 27, 3) := by decide +kernel
theorem dX5_init_52 : decode cX5_init 52 = .ok (.return_, 1) := by decide +kernel
theorem dX5_add_0 : decode cX5_add 0 = .ok (.aload_n 0, 1) := by decide +kernel
theorem dX5_add_1 : decode cX5_add 1 = .ok (.getfield 9, 3) := by decide +kernel
theorem dX5_add_4 : decode cX5_add 4 = .ok (.aload_n 0, 1) := by decide +kernel
theorem dX5_add_5 : decode cX5_add 5 = .ok (.getfield 30, 3) := by decide +kernel
theorem dX5_add_8 : decode cX5_add 8 = .ok (.iload_n 1, 1) := by decide +kernel
theorem dX5_add_9 : decode cX5_add 9 = .ok (.iastore, 1) := by decide +kernel
theorem dX5_add_10 : decode cX5_add 10 = .ok (.aload_n 0, 1) := by decide +kernel
theorem dX5_add_11 : decode cX5_add 11 = .ok (.getfield 15, 3) := by decide +kernel
theorem dX5_add_14 : decode cX5_add 14 = .ok (.aload_n 0, 1) := by decide +kernel
theorem dX5_add_15 : decode cX5_add 15 = .ok (.getfield 30, 3) := by decide +kernel
theorem dX5_add_18 : decode cX5_add 18 = .ok (.iload_n 2, 1) := by decide +kernel
theorem dX5_add_19 : decode cX5_add 19 = .ok (.iastore, 1) := by decide +kernel
theorem dX5_add_20 : decode cX5_add 20 = .ok (.aload_n 0, 1) := by decide +kernel
theorem dX5_add_21 : decode cX5_add 21 = .ok (.getfield 18, 3) := by decide +kernel
theorem dX5_add_24 : decode cX5_add 24 = .ok (.aload_n 0, 1) := by decide +kernel
theorem dX5_add_25 : decode cX5_add 25 = .ok (.getfield 30, 3) := by decide +kernel
theorem dX5_add_28 : decode cX5_add 28 = .ok (.iload_n 3, 1) := by decide +kernel
theorem dX5_add_29 : decode cX5_add 29 = .ok (.iastore, 1) := by decide +kernel
theorem dX5_add_30 : decode cX5_add 30 = .ok (.aload_n 0, 1) := by decide +kernel
theorem dX5_add_31 : decode cX5_add 31 = .ok (.getfield 21, 3) := by decide +kernel
theorem dX5_add_34 : decode cX5_add 34 = .ok (.aload_n 0, 1) := by decide +kernel
theorem dX5_add_35 : decode cX5_add 35 = .ok (.getfield 30, 3) := by decide +kernel
theorem dX5_add_38 : decode cX5_add 38 = .ok (.iload 4, 2) := by decide +kernel
theorem dX5_add_40 : decode cX5_add 40 = .ok (.iastore, 1) := by decide +kernel
theorem dX5_add_41 : decode cX5_add 41 = .ok (.aload_n 0, 1) := by decide +kernel
theorem dX5_add_42 : decode cX5_add 42 = .ok (.getfield 24, 3) := by decide +kernel
theorem dX5_add_45 : decode cX5_add 45 = .ok (.aload_n 0, 1) := by decide +kernel
theorem dX5_add_46 : decode cX5_add 46 = .ok (.getfield 30, 3) := by decide +kernel
theorem dX5_add_49 : decode cX5_add 49 = .ok (.iload 5, 2) := by decide +kernel
theorem dX5_add_51 : decode cX5_add 51 = .ok (.iconst 4, 1) := by decide +kernel
theorem dX5_add_52 : decode cX5_add 52 = .ok (.ishr, 1) := by decide +kernel
theorem dX5_add_53 : decode cX5_add 53 = .ok (.iastore, 1) := by decide +kernel
theorem dX5_add_54 : decode cX5_add 54 = .ok (.aload_n 0, 1) := by decide +kernel
theorem dX5_add_55 : decode cX5_add 55 = .ok (.getfield 27, 3) := by decide +kernel
theorem dX5_add_58 : decode cX5_add 58 = .ok (.aload_n 0, 1) := by decide +kernel
theorem dX5_add_59 : decode cX5_add 59 = .ok (.getfield 30, 3) := by decide +kernel
theorem dX5_add_62 : decode cX5_add 62 = .ok (.iload 5, 2) := by decide +kernel
theorem dX5_add_64 : decode cX5_add 64 = .ok (.bipush 15, 2) := by decide +kernel
theorem dX5_add_66 : decode cX5_add 66 = .ok (.iand, 1) := by decide +kernel
theorem dX5_add_67 : decode cX5_add 67 = .ok (.iastore, 1) := by decide +kernel
theorem dX5_add_68 : decode cX5_add 68 = .ok (.aload_n 0, 1) := by decide +kernel
theorem dX5_add_69 : decode cX5_add 69 = .ok (.dup, 1) := by decide +kernel
theorem dX5_add_70 : decode cX5_add 70 = .ok (.getfield 30, 3) := by decide +kernel
theorem dX5_add_73 : decode cX5_add 73 = .ok (.iconst 1, 1) := by decide +kernel
theorem dX5_add_74 : decode cX5_add 74 = .ok (.iadd, 1) := by decide +kernel
theorem dX5_add_75 : decode cX5_add 75 = .ok (.putfield 30, 3) := by decide +kernel
theorem dX5_add_78 : decode cX5_add 78 = .ok (.return_, 1) := by decide +kernel
theorem dX5_inForce_0 : decode cX5_inForce 0 = .ok (.iconst (-1), 1) := by decide +kernel
theorem dX5_inForce_1 : decode cX5_inForce 1 = .ok (.istore 4, 2) := by decide +kernel
theorem dX5_inForce_3 : decode cX5_inForce 3 = .ok (.iconst 0, 1) := by decide +kernel
theorem dX5_inForce_4 : decode cX5_inForce 4 = .ok (.istore 5, 2) := by decide +kernel
theorem dX5_inForce_6 : decode cX5_inForce 6 = .ok (.iload 5, 2) := by decide +kernel
theorem dX5_inForce_8 : decode cX5_inForce 8 = .ok (.aload_n 0, 1) := by decide +kernel
theorem dX5_inForce_9 : decode cX5_inForce 9 = .ok (.getfield 30, 3) := by decide +kernel
theorem dX5_inForce_12 : decode cX5_inForce 12 = .ok (.if_icmp .ge 62, 3) := by decide +kernel
theorem dX5_inForce_15 : decode cX5_inForce 15 = .ok (.aload_n 0, 1) := by decide +kernel
theorem dX5_inForce_16 : decode cX5_inForce 16 = .ok (.getfield 9, 3) := by decide +kernel
theorem dX5_inForce_19 : decode cX5_inForce 19 = .ok (.iload 5, 2) := by decide +kernel
theorem dX5_inForce_21 : decode cX5_inForce 21 = .ok (.iaload, 1) := by decide +kernel
theorem dX5_inForce_22 : decode cX5_inForce 22 = .ok (.bipush 100, 2) := by decide +kernel
theorem dX5_inForce_24 : decode cX5_inForce 24 = .ok (.iload_n 1, 1) := by decide +kernel
theorem dX5_inForce_25 : decode cX5_inForce 25 = .ok (.imul, 1) := by decide +kernel
theorem dX5_inForce_26 : decode cX5_inForce 26 = .ok (.iload_n 2, 1) := by decide +kernel
theorem dX5_inForce_27 : decode cX5_inForce 27 = .ok (.iadd, 1) := by decide +kernel
theorem dX5_inForce_28 : decode cX5_inForce 28 = .ok (.if_icmp .ne 40, 3) := by decide +kernel
theorem dX5_inForce_31 : decode cX5_inForce 31 = .ok (.aload_n 0, 1) := by decide +kernel
theorem dX5_inForce_32 : decode cX5_inForce 32 = .ok (.getfield 15, 3) := by decide +kernel
theorem dX5_inForce_35 : decode cX5_inForce 35 = .ok (.iload 5, 2) := by decide +kernel
theorem dX5_inForce_37 : decode cX5_inForce 37 = .ok (.iaload, 1) := by decide +kernel
theorem dX5_inForce_38 : decode cX5_inForce 38 = .ok (.iload_n 3, 1) := by decide +kernel
theorem dX5_inForce_39 : decode cX5_inForce 39 = .ok (.if_icmp .gt 29, 3) := by decide +kernel
theorem dX5_inForce_42 : decode cX5_inForce 42 = .ok (.iload 4, 2) := by decide +kernel
theorem dX5_inForce_44 : decode cX5_inForce 44 = .ok (.ifCond .lt 20, 3) := by decide +kernel
theorem dX5_inForce_47 : decode cX5_inForce 47 = .ok (.aload_n 0, 1) := by decide +kernel
theorem dX5_inForce_48 : decode cX5_inForce 48 = .ok (.getfield 15, 3) := by decide +kernel
theorem dX5_inForce_51 : decode cX5_inForce 51 = .ok (.iload 5, 2) := by decide +kernel
theorem dX5_inForce_53 : decode cX5_inForce 53 = .ok (.iaload, 1) := by decide +kernel
theorem dX5_inForce_54 : decode cX5_inForce 54 = .ok (.aload_n 0, 1) := by decide +kernel
theorem dX5_inForce_55 : decode cX5_inForce 55 = .ok (.getfield 15, 3) := by decide +kernel
theorem dX5_inForce_58 : decode cX5_inForce 58 = .ok (.iload 4, 2) := by decide +kernel
theorem dX5_inForce_60 : decode cX5_inForce 60 = .ok (.iaload, 1) := by decide +kernel
theorem dX5_inForce_61 : decode cX5_inForce 61 = .ok (.if_icmp .lt 7, 3) := by decide +kernel
theorem dX5_inForce_64 : decode cX5_inForce 64 = .ok (.iload 5, 2) := by decide +kernel
theorem dX5_inForce_66 : decode cX5_inForce 66 = .ok (.istore 4, 2) := by decide +kernel
theorem dX5_inForce_68 : decode cX5_inForce 68 = .ok (.iinc 5 1, 3) := by decide +kernel
theorem dX5_inForce_71 : decode cX5_inForce 71 = .ok (.goto (-65), 3) := by decide +kernel
theorem dX5_inForce_74 : decode cX5_inForce 74 = .ok (.iload 4, 2) := by decide +kernel
theorem dX5_inForce_76 : decode cX5_inForce 76 = .ok (.ireturn, 1) := by decide +kernel
theorem dX6_init_0 : decode cX6_init 0 = .ok (.aload_n 0, 1) := by decide +kernel
theorem dX6_init_1 : decode cX6_init 1 = .ok (.invokespecial 3, 3) := by decide +kernel
theorem dX6_init_4 : decode cX6_init 4 = .ok (.aload_n 0, 1) := by decide +kernel
theorem dX6_init_5 : decode cX6_init 5 = .ok (.bipush 20, 2) := by decide +kernel
theorem dX6_init_7 : decode cX6_init 7 = .ok (.newarray .int, 2) := by decide +kernel
theorem dX6_init_9 : decode cX6_init 9 = .ok (.putfield 9, 3) := by decide +kernel
theorem dX6_init_12 : decode cX6_init 12 = .ok (.aload_n 0, 1) := by decide +kernel
theorem dX6_init_13 : decode cX6_init 13 = .ok (.bipush 20, 2) := by decide +kernel
theorem dX6_init_15 : decode cX6_init 15 = .ok (.newarray .int, 2) := by decide +kernel
theorem dX6_init_17 : decode cX6_init 17 = .ok (.putfield 15, 3) := by decide +kernel
theorem dX6_init_20 : decode cX6_init 20 = .ok (.aload_n 0, 1) := by decide +kernel
theorem dX6_init_21 : decode cX6_init 21 = .ok (.bipush 20, 2) := by decide +kernel
theorem dX6_init_23 : decode cX6_init 23 = .ok (.newarray .int, 2) := by decide +kernel
theorem dX6_init_25 : decode cX6_init 25 = .ok (.putfield 18, 3) := by decide +kernel
theorem dX6_init_28 : decode cX6_init 28 = .ok (.return_, 1) := by decide +kernel
theorem dX6_add_0 : decode cX6_add 0 = .ok (.aload_n 0, 1) := by decide +kernel
theorem dX6_add_1 : decode cX6_add 1 = .ok (.getfield 9, 3) := by decide +kernel
theorem dX6_add_4 : decode cX6_add 4 = .ok (.aload_n 0, 1) := by decide +kernel
theorem dX6_add_5 : decode cX6_add 5 = .ok (.getfield 21, 3) := by decide +kernel
theorem dX6_add_8 : decode cX6_add 8 = .ok (.iload_n 1, 1) := by decide +kernel
theorem dX6_add_9 : decode cX6_add 9 = .ok (.iastore, 1) := by decide +kernel
theorem dX6_add_10 : decode cX6_add 10 = .ok (.aload_n 0, 1) := by decide +kernel
theorem dX6_add_11 : decode cX6_add 11 = .ok (.getfield 15, 3) := by decide +kernel
theorem dX6_add_14 : decode cX6_add 14 = .ok (.aload_n 0, 1) := by decide +kernel
theorem dX6_add_15 : decode cX6_add 15 = .ok (.getfield 21, 3) := by decide +kernel
theorem dX6_add_18 : decode cX6_add 18 = .ok (.iload_n 2, 1) := by decide +kernel
theorem dX6_add_19 : decode cX6_add 19 = .ok (.iastore, 1) := by decide +kernel
theorem dX6_add_20 : decode cX6_add 20 = .ok (.aload_n 0, 1) := by decide +kernel
theorem dX6_add_21 : decode cX6_add 21 = .ok (.getfield 18, 3) := by decide +kernel
theorem dX6_add_24 : decode cX6_add 24 = .ok (.aload_n 0, 1) := by decide +kernel
theorem dX6_add_25 : decode cX6_add 25 = .ok (.getfield 21, 3) := by decide +kernel
theorem dX6_add_28 : decode cX6_add 28 = .ok (.iload_n 3, 1) := by decide +kernel
theorem dX6_add_29 : decode cX6_add 29 = .ok (.iastore, 1) := by decide +kernel
theorem dX6_add_30 : decode cX6_add 30 = .ok (.aload_n 0, 1) := by decide +kernel
theorem dX6_add_31 : decode cX6_add 31 = .ok (.dup, 1) := by decide +kernel
theorem dX6_add_32 : decode cX6_add 32 = .ok (.getfield 21, 3) := by decide +kernel
theorem dX6_add_35 : decode cX6_add 35 = .ok (.iconst 1, 1) := by decide +kernel
theorem dX6_add_36 : decode cX6_add 36 = .ok (.iadd, 1) := by decide +kernel
theorem dX6_add_37 : decode cX6_add 37 = .ok (.putfield 21, 3) := by decide +kernel
theorem dX6_add_40 : decode cX6_add 40 = .ok (.return_, 1) := by decide +kernel
theorem dX6_hit_0 : decode cX6_hit 0 = .ok (.iconst 0, 1) := by decide +kernel
theorem dX6_hit_1 : decode cX6_hit 1 = .ok (.istore 4, 2) := by decide +kernel
theorem dX6_hit_3 : decode cX6_hit 3 = .ok (.iload 4, 2) := by decide +kernel
theorem dX6_hit_5 : decode cX6_hit 5 = .ok (.aload_n 0, 1) := by decide +kernel
theorem dX6_hit_6 : decode cX6_hit 6 = .ok (.getfield 21, 3) := by decide +kernel
theorem dX6_hit_9 : decode cX6_hit 9 = .ok (.if_icmp .ge 47, 3) := by decide +kernel
theorem dX6_hit_12 : decode cX6_hit 12 = .ok (.iload_n 1, 1) := by decide +kernel
theorem dX6_hit_13 : decode cX6_hit 13 = .ok (.aload_n 0, 1) := by decide +kernel
theorem dX6_hit_14 : decode cX6_hit 14 = .ok (.getfield 9, 3) := by decide +kernel
theorem dX6_hit_17 : decode cX6_hit 17 = .ok (.iload 4, 2) := by decide +kernel
theorem dX6_hit_19 : decode cX6_hit 19 = .ok (.iaload, 1) := by decide +kernel
theorem dX6_hit_20 : decode cX6_hit 20 = .ok (.ishr, 1) := by decide +kernel
theorem dX6_hit_21 : decode cX6_hit 21 = .ok (.iconst 1, 1) := by decide +kernel
theorem dX6_hit_22 : decode cX6_hit 22 = .ok (.iand, 1) := by decide +kernel
theorem dX6_hit_23 : decode cX6_hit 23 = .ok (.ifCond .eq 27, 3) := by decide +kernel
theorem dX6_hit_26 : decode cX6_hit 26 = .ok (.aload_n 0, 1) := by decide +kernel
theorem dX6_hit_27 : decode cX6_hit 27 = .ok (.getfield 15, 3) := by decide +kernel
theorem dX6_hit_30 : decode cX6_hit 30 = .ok (.iload 4, 2) := by decide +kernel
theorem dX6_hit_32 : decode cX6_hit 32 = .ok (.iaload, 1) := by decide +kernel
theorem dX6_hit_33 : decode cX6_hit 33 = .ok (.iload_n 2, 1) := by decide +kernel
theorem dX6_hit_34 : decode cX6_hit 34 = .ok (.if_icmp .gt 16, 3) := by decide +kernel
theorem dX6_hit_37 : decode cX6_hit 37 = .ok (.aload_n 0, 1) := by decide +kernel
theorem dX6_hit_38 : decode cX6_hit 38 = .ok (.getfield 18, 3) := by decide +kernel
theorem dX6_hit_41 : decode cX6_hit 41 = .ok (.iload 4, 2) := by decide +kernel
theorem dX6_hit_43 : decode cX6_hit 43 = .ok (.iaload, 1) := by decide +kernel
theorem dX6_hit_44 : decode cX6_hit 44 = .ok (.iload_n 3, 1) := by decide +kernel
theorem dX6_hit_45 : decode cX6_hit 45 = .ok (.if_icmp .gt 5, 3) := by decide +kernel
theorem dX6_hit_48 : decode cX6_hit 48 = .ok (.iconst 1, 1) := by decide +kernel
theorem dX6_hit_49 : decode cX6_hit 49 = .ok (.ireturn, 1) := by decide +kernel
theorem dX6_hit_50 : decode cX6_hit 50 = .ok (.iinc 4 1, 3) := by decide +kernel
theorem dX6_hit_53 : decode cX6_hit 53 = .ok (.goto (-50), 3) := by decide +kernel
theorem dX6_hit_56 : decode cX6_hit 56 = .ok (.iconst 0, 1) := by decide +kernel
theorem dX6_hit_57 : decode cX6_hit 57 = .ok (.ireturn, 1) := by decide +kernel
theorem dJ6_bitCount_0f7a4_0 : decode cJ6_bitCount_0f7a4 0 = .ok (.iload_n 0, 1) := by decide +kernel
theorem dJ6_bitCount_0f7a4_1 : decode cJ6_bitCount_0f7a4 1 = .ok (.iload_n 0, 1) := by decide +kernel
theorem dJ6_bitCount_0f7a4_2 : decode cJ6_bitCount_0f7a4 2 = .ok (.iconst 1, 1) := by decide +kernel
theorem dJ6_bitCount_0f7a4_3 : decode cJ6_bitCount_0f7a4 3 = .ok (.iushr, 1) := by decide +kernel
theorem dJ6_bitCount_0f7a4_4 : decode cJ6_bitCount_0f7a4 4 = .ok (.ldc_w 265, 3) := by decide +kernel
theorem dJ6_bitCount_0f7a4_7 : decode cJ6_bitCount_0f7a4 7 = .ok (.iand, 1) := by decide +kernel
theorem dJ6_bitCount_0f7a4_8 : decode cJ6_bitCount_0f7a4 8 = .ok (.isub, 1) := by decide +kernel
theorem dJ6_bitCount_0f7a4_9 : decode cJ6_bitCount_0f7a4 9 = .ok (.istore_n 0, 1) := by decide +kernel
theorem dJ6_bitCount_0f7a4_10 : decode cJ6_bitCount_0f7a4 10 = .ok (.iload_n 0, 1) := by decide +kernel
theorem dJ6_bitCount_0f7a4_11 : decode cJ6_bitCount_0f7a4 11 = .ok (.ldc_w 266, 3) := by decide +kernel
theorem dJ6_bitCount_0f7a4_14 : decode cJ6_bitCount_0f7a4 14 = .ok (.iand, 1) := by decide +kernel
theorem dJ6_bitCount_0f7a4_15 : decode cJ6_bitCount_0f7a4 15 = .ok (.iload_n 0, 1) := by decide +kernel
theorem dJ6_bitCount_0f7a4_16 : decode cJ6_bitCount_0f7a4 16 = .ok (.iconst 2, 1) := by decide +kernel
theorem dJ6_bitCount_0f7a4_17 : decode cJ6_bitCount_0f7a4 17 = .ok (.iushr, 1) := by decide +kernel
theorem dJ6_bitCount_0f7a4_18 : decode cJ6_bitCount_0f7a4 18 = .ok (.ldc_w 266, 3) := by decide +kernel
theorem dJ6_bitCount_0f7a4_21 : decode cJ6_bitCount_0f7a4 21 = .ok (.iand, 1) := by decide +kernel
theorem dJ6_bitCount_0f7a4_22 : decode cJ6_bitCount_0f7a4 22 = .ok (.iadd, 1) := by decide +kernel
theorem dJ6_bitCount_0f7a4_23 : decode cJ6_bitCount_0f7a4 23 = .ok (.istore_n 0, 1) := by decide +kernel
theorem dJ6_bitCount_0f7a4_24 : decode cJ6_bitCount_0f7a4 24 = .ok (.iload_n 0, 1) := by decide +kernel
theorem dJ6_bitCount_0f7a4_25 : decode cJ6_bitCount_0f7a4 25 = .ok (.iload_n 0, 1) := by decide +kernel
theorem dJ6_bitCount_0f7a4_26 : decode cJ6_bitCount_0f7a4 26 = .ok (.iconst 4, 1) := by decide +kernel
theorem dJ6_bitCount_0f7a4_27 : decode cJ6_bitCount_0f7a4 27 = .ok (.iushr, 1) := by decide +kernel
theorem dJ6_bitCount_0f7a4_28 : decode cJ6_bitCount_0f7a4 28 = .ok (.iadd, 1) := by decide +kernel
theorem dJ6_bitCount_0f7a4_29 : decode cJ6_bitCount_0f7a4 29 = .ok (.ldc_w 267, 3) := by decide +kernel
theorem dJ6_bitCount_0f7a4_32 : decode cJ6_bitCount_0f7a4 32 = .ok (.iand, 1) := by decide +kernel
theorem dJ6_bitCount_0f7a4_33 : decode cJ6_bitCount_0f7a4 33 = .ok (.istore_n 0, 1) := by decide +kernel
theorem dJ6_bitCount_0f7a4_34 : decode cJ6_bitCount_0f7a4 34 = .ok (.iload_n 0, 1) := by decide +kernel
theorem dJ6_bitCount_0f7a4_35 : decode cJ6_bitCount_0f7a4 35 = .ok (.iload_n 0, 1) := by decide +kernel
theorem dJ6_bitCount_0f7a4_36 : decode cJ6_bitCount_0f7a4 36 = .ok (.bipush 8, 2) := by decide +kernel
theorem dJ6_bitCount_0f7a4_38 : decode cJ6_bitCount_0f7a4 38 = .ok (.iushr, 1) := by decide +kernel
theorem dJ6_bitCount_0f7a4_39 : decode cJ6_bitCount_0f7a4 39 = .ok (.iadd, 1) := by decide +kernel
theorem dJ6_bitCount_0f7a4_40 : decode cJ6_bitCount_0f7a4 40 = .ok (.istore_n 0, 1) := by decide +kernel
theorem dJ6_bitCount_0f7a4_41 : decode cJ6_bitCount_0f7a4 41 = .ok (.iload_n 0, 1) := by decide +kernel
theorem dJ6_bitCount_0f7a4_42 : decode cJ6_bitCount_0f7a4 42 = .ok (.iload_n 0, 1) := by decide +kernel
theorem dJ6_bitCount_0f7a4_43 : decode cJ6_bitCount_0f7a4 43 = .ok (.bipush 16, 2) := by decide +kernel
theorem dJ6_bitCount_0f7a4_45 : decode cJ6_bitCount_0f7a4 45 = .ok (.iushr, 1) := by decide +kernel
theorem dJ6_bitCount_0f7a4_46 : decode cJ6_bitCount_0f7a4 46 = .ok (.iadd, 1) := by decide +kernel
theorem dJ6_bitCount_0f7a4_47 : decode cJ6_bitCount_0f7a4 47 = .ok (.istore_n 0, 1) := by decide +kernel
theorem dJ6_bitCount_0f7a4_48 : decode cJ6_bitCount_0f7a4 48 = .ok (.iload_n 0, 1) := by decide +kernel
theorem dJ6_bitCount_0f7a4_49 : decode cJ6_bitCount_0f7a4 49 = .ok (.bipush 63, 2) := by decide +kernel
theorem dJ6_bitCount_0f7a4_51 : decode cJ6_bitCount_0f7a4 51 = .ok (.iand, 1) := by decide +kernel
theorem dJ6_bitCount_0f7a4_52 : decode cJ6_bitCount_0f7a4 52 = .ok (.ireturn, 1) := by decide +kernel
theorem dJ9_abs_0f7a4_0 : decode cJ9_abs_0f7a4 0 = .ok (.iload_n 0, 1) := by decide +kernel
theorem dJ9_abs_0f7a4_1 : decode cJ9_abs_0f7a4 1 = .ok (.ifCond .ge 8, 3) := by decide +kernel
theorem dJ9_abs_0f7a4_4 : decode cJ9_abs_0f7a4 4 = .ok (.iload_n 0, 1) := by decide +kernel
theorem dJ9_abs_0f7a4_5 : decode cJ9_abs_0f7a4 5 = .ok (.ineg, 1) := by decide +kernel
theorem dJ9_abs_0f7a4_6 : decode cJ9_abs_0f7a4 6 = .ok (.goto 4, 3) := by decide +kernel
theorem dJ9_abs_0f7a4_9 : decode cJ9_abs_0f7a4 9 = .ok (.iload_n 0, 1) := by decide +kernel
theorem dJ9_abs_0f7a4_10 : decode cJ9_abs_0f7a4 10 = .ok (.ireturn, 1) := by decide +kernel
theorem dJ9_max_7cf53_0 : decode cJ9_max_7cf53 0 = .ok (.iload_n 0, 1) := by decide +kernel
theorem dJ9_max_7cf53_1 : decode cJ9_max_7cf53 1 = .ok (.iload_n 1, 1) := by decide +kernel
theorem dJ9_max_7cf53_2 : decode cJ9_max_7cf53 2 = .ok (.if_icmp .lt 7, 3) := by decide +kernel
theorem dJ9_max_7cf53_5 : decode cJ9_max_7cf53 5 = .ok (.iload_n 0, 1) := by decide +kernel
theorem dJ9_max_7cf53_6 : decode cJ9_max_7cf53 6 = .ok (.goto 4, 3) := by decide +kernel
theorem dJ9_max_7cf53_9 : decode cJ9_max_7cf53 9 = .ok (.iload_n 1, 1) := by decide +kernel
theorem dJ9_max_7cf53_10 : decode cJ9_max_7cf53 10 = .ok (.ireturn, 1) := by decide +kernel
theorem dJ9_min_7cf53_0 : decode cJ9_min_7cf53 0 = .ok (.iload_n 0, 1) := by decide +kernel
theorem dJ9_min_7cf53_1 : decode cJ9_min_7cf53 1 = .ok (.iload_n 1, 1) := by decide +kernel
theorem dJ9_min_7cf53_2 : decode cJ9_min_7cf53 2 = .ok (.if_icmp .gt 7, 3) := by decide +kernel
theorem dJ9_min_7cf53_5 : decode cJ9_min_7cf53 5 = .ok (.iload_n 0, 1) := by decide +kernel
theorem dJ9_min_7cf53_6 : decode cJ9_min_7cf53 6 = .ok (.goto 4, 3) := by decide +kernel
theorem dJ9_min_7cf53_9 : decode cJ9_min_7cf53 9 = .ok (.iload_n 1, 1) := by decide +kernel
theorem dJ9_min_7cf53_10 : decode cJ9_min_7cf53 10 = .ok (.ireturn, 1) := by decide +kernel
theorem dJ7_fill_53178_0 : decode cJ7_fill_53178 0 = .ok (.iconst 0, 1) := by decide +kernel
theorem dJ7_fill_53178_1 : decode cJ7_fill_53178 1 = .ok (.istore_n 2, 1) := by decide +kernel
theorem dJ7_fill_53178_2 : decode cJ7_fill_53178 2 = .ok (.aload_n 0, 1) := by decide +kernel
theorem dJ7_fill_53178_3 : decode cJ7_fill_53178 3 = .ok (.arraylength, 1) := by decide +kernel
theorem dJ7_fill_53178_4 : decode cJ7_fill_53178 4 = .ok (.istore_n 3, 1) := by decide +kernel
theorem dJ7_fill_53178_5 : decode cJ7_fill_53178 5 = .ok (.iload_n 2, 1) := by decide +kernel
theorem dJ7_fill_53178_6 : decode cJ7_fill_53178 6 = .ok (.iload_n 3, 1) := by decide +kernel
theorem dJ7_fill_53178_7 : decode cJ7_fill_53178 7 = .ok (.if_icmp .ge 13, 3) := by decide +kernel
theorem dJ7_fill_53178_10 : decode cJ7_fill_53178 10 = .ok (.aload_n 0, 1) := by decide +kernel
theorem dJ7_fill_53178_11 : decode cJ7_fill_53178 11 = .ok (.iload_n 2, 1) := by decide +kernel
theorem dJ7_fill_53178_12 : decode cJ7_fill_53178 12 = .ok (.iload_n 1, 1) := by decide +kernel
theorem dJ7_fill_53178_13 : decode cJ7_fill_53178 13 = .ok (.iastore, 1) := by decide +kernel
theorem dJ7_fill_53178_14 : decode cJ7_fill_53178 14 = .ok (.iinc 2 1, 3) := by decide +kernel
theorem dJ7_fill_53178_17 : decode cJ7_fill_53178 17 = .ok (.goto (-12), 3) := by decide +kernel
theorem dJ7_fill_53178_20 : decode cJ7_fill_53178 20 = .ok (.return_, 1) := by decide +kernel
end
section
theorem dX7_init_0 : decode cX7_init 0 = .ok (.aload_n 0, 1) := by decide +kernel
theorem dX7_init_1 : decode cX7_init 1 = .ok (.invokespecial 3, 3) := by decide +kernel
theorem dX7_init_4 : decode cX7_init 4 = .ok (.aload_n 0, 1) := by decide +kernel
theorem dX7_init_5 : decode cX7_init 5 = .ok (.new 9, 3) := by decide +kernel
theorem dX7_init_8 : decode cX7_init 8 = .ok (.dup, 1) := by decide +kernel
theorem dX7_init_9 : decode cX7_init 9 = .ok (.invokespecial 11, 3) := by decide +kernel
theorem dX7_init_12 : decode cX7_init 12 = .ok (.putfield 12, 3) := by decide +kernel
theorem dX7_init_15 : decode cX7_init 15 = .ok (.aload_n 0, 1) := by decide +kernel
theorem dX7_init_16 : decode cX7_init 16 = .ok (.new 16, 3) := by decide +kernel
theorem dX7_init_19 : decode cX7_init 19 = .ok (.dup, 1) := by decide +kernel
theorem dX7_init_20 : decode cX7_init 20 = .ok (.invokespecial 18, 3) := by decide +kernel
theorem dX7_init_23 : decode cX7_init 23 = .ok (.putfield 19, 3) := by decide +kernel
theorem dX7_init_26 : decode cX7_init 26 = .ok (.aload_n 0, 1) := by decide +kernel
theorem dX7_init_27 : decode cX7_init 27 = .ok (.new 23, 3) := by decide +kernel
theorem dX7_init_30 : decode cX7_init 30 = .ok (.dup, 1) := by decide +kernel
theorem dX7_init_31 : decode cX7_init 31 = .ok (.invokespecial 25, 3) := by decide +kernel
theorem dX7_init_34 : decode cX7_init 34 = .ok (.putfield 26, 3) := by decide +kernel
theorem dX7_init_37 : decode cX7_init 37 = .ok (.aload_n 0, 1) := by decide +kernel
theorem dX7_init_38 : decode cX7_init 38 = .ok (.bipush 20, 2) := by decide +kernel
theorem dX7_init_40 : decode cX7_init 40 = .ok (.newarray .int, 2) := by decide +kernel
theorem dX7_init_42 : decode cX7_init 42 = .ok (.putfield 30, 3) := by decide +kernel
theorem dX7_init_45 : decode cX7_init 45 = .ok (.aload_n 0, 1) := by decide +kernel
theorem dX7_init_46 : decode cX7_init 46 = .ok (.bipush 6, 2) := by decide +kernel
theorem dX7_init_48 : decode cX7_init 48 = .ok (.newarray .int, 2) := by decide +kernel
theorem dX7_init_50 : decode cX7_init 50 = .ok (.putfield 34, 3) := by decide +kernel
theorem dX7_init_53 : decode cX7_init 53 = .ok (.return_, 1) := by decide +kernel
theorem dX7_person_0 : decode cX7_person 0 = .ok (.iload_n 1, 1) := by decide +kernel
theorem dX7_person_1 : decode cX7_person 1 = .ok (.invokestatic 37, 3) := by decide +kernel
theorem dX7_person_4 : decode cX7_person 4 = .ok (.ifCond .eq 20, 3) := by decide +kernel
theorem dX7_person_7 : decode cX7_person 7 = .ok (.iload_n 2, 1) := by decide +kernel
theorem dX7_person_8 : decode cX7_person 8 = .ok (.invokestatic 41, 3) := by decide +kernel
theorem dX7_person_11 : decode cX7_person 11 = .ok (.ifCond .eq 13, 3) := by decide +kernel
theorem dX7_person_14 : decode cX7_person 14 = .ok (.iload_n 3, 1) := by decide +kernel
theorem dX7_person_15 : decode cX7_person 15 = .ok (.iconst 0, 1) := by decide +kernel
theorem dX7_person_16 : decode cX7_person 16 = .ok (.bipush 7, 2) := by decide +kernel
theorem dX7_person_18 : decode cX7_person 18 = .ok (.invokestatic 44, 3) := by decide +kernel
theorem dX7_person_21 : decode cX7_person 21 = .ok (.ifCond .ne 10, 3) := by decide +kernel
theorem dX7_person_24 : decode cX7_person 24 = .ok (.aload_n 0, 1) := by decide +kernel
theorem dX7_person_25 : decode cX7_person 25 = .ok (.ldc 48, 2) := by decide +kernel
theorem dX7_person_27 : decode cX7_person 27 = .ok (.invokevirtual 49, 3) := by decide +kernel
theorem dX7_person_30 : decode cX7_person 30 = .ok (.ireturn, 1) := by decide +kernel
theorem dX7_person_31 : decode cX7_person 31 = .ok (.aload_n 0, 1) := by decide +kernel
theorem dX7_person_32 : decode cX7_person 32 = .ok (.getfield 12, 3) := by decide +kernel
theorem dX7_person_35 : decode cX7_person 35 = .ok (.getfield 53, 3) := by decide +kernel
theorem dX7_person_38 : decode cX7_person 38 = .ok (.iload_n 1, 1) := by decide +kernel
theorem dX7_person_39 : decode cX7_person 39 = .ok (.invokevirtual 57, 3) := by decide +kernel
theorem dX7_person_42 : decode cX7_person 42 = .ok (.ifCond .ne 10, 3) := by decide +kernel
theorem dX7_person_45 : decode cX7_person 45 = .ok (.aload_n 0, 1) := by decide +kernel
theorem dX7_person_46 : decode cX7_person 46 = .ok (.ldc 62, 2) := by decide +kernel
theorem dX7_person_48 : decode cX7_person 48 = .ok (.invokevirtual 49, 3) := by decide +kernel
theorem dX7_person_51 : decode cX7_person 51 = .ok (.ireturn, 1) := by decide +kernel
theorem dX7_person_52 : decode cX7_person 52 = .ok (.aload_n 0, 1) := by decide +kernel
theorem dX7_person_53 : decode cX7_person 53 = .ok (.getfield 12, 3) := by decide +kernel
theorem dX7_person_56 : decode cX7_person 56 = .ok (.getfield 53, 3) := by decide +kernel
theorem dX7_person_59 : decode cX7_person 59 = .ok (.iload_n 1, 1) := by decide +kernel
theorem dX7_person_60 : decode cX7_person 60 = .ok (.iload_n 2, 1) := by decide +kernel
theorem dX7_person_61 : decode cX7_person 61 = .ok (.iload_n 3, 1) := by decide +kernel
theorem dX7_person_62 : decode cX7_person 62 = .ok (.invokevirtual 63, 3) := by decide +kernel
theorem dX7_person_65 : decode cX7_person 65 = .ok (.ireturn, 1) := by decide +kernel
theorem dX7_as_0 : decode cX7_as 0 = .ok (.aload_n 0, 1) := by decide +kernel
theorem dX7_as_1 : decode cX7_as 1 = .ok (.getfield 12, 3) := by decide +kernel
theorem dX7_as_4 : decode cX7_as 4 = .ok (.getfield 53, 3) := by decide +kernel
theorem dX7_as_7 : decode cX7_as 7 = .ok (.iload_n 1, 1) := by decide +kernel
theorem dX7_as_8 : decode cX7_as 8 = .ok (.invokevirtual 67, 3) := by decide +kernel
theorem dX7_as_11 : decode cX7_as 11 = .ok (.ifCond .eq 10, 3) := by decide +kernel
theorem dX7_as_14 : decode cX7_as 14 = .ok (.iload_n 2, 1) := by decide +kernel
theorem dX7_as_15 : decode cX7_as 15 = .ok (.invokestatic 37, 3) := by decide +kernel
theorem dX7_as_18 : decode cX7_as 18 = .ok (.ifCond .ne 10, 3) := by decide +kernel
theorem dX7_as_21 : decode cX7_as 21 = .ok (.aload_n 0, 1) := by decide +kernel
theorem dX7_as_22 : decode cX7_as 22 = .ok (.ldc 48, 2) := by decide +kernel
theorem dX7_as_24 : decode cX7_as 24 = .ok (.invokevirtual 49, 3) := by decide +kernel
theorem dX7_as_27 : decode cX7_as 27 = .ok (.ireturn, 1) := by decide +kernel
theorem dX7_as_28 : decode cX7_as 28 = .ok (.iload_n 2, 1) := by decide +kernel
theorem dX7_as_29 : decode cX7_as 29 = .ok (.ifCond .eq 26, 3) := by decide +kernel
theorem dX7_as_32 : decode cX7_as 32 = .ok (.aload_n 0, 1) := by decide +kernel
theorem dX7_as_33 : decode cX7_as 33 = .ok (.getfield 12, 3) := by decide +kernel
theorem dX7_as_36 : decode cX7_as 36 = .ok (.getfield 53, 3) := by decide +kernel
theorem dX7_as_39 : decode cX7_as 39 = .ok (.getfield 70, 3) := by decide +kernel
theorem dX7_as_42 : decode cX7_as 42 = .ok (.iload_n 1, 1) := by decide +kernel
theorem dX7_as_43 : decode cX7_as 43 = .ok (.iaload, 1) := by decide +kernel
theorem dX7_as_44 : decode cX7_as 44 = .ok (.iload_n 2, 1) := by decide +kernel
theorem dX7_as_45 : decode cX7_as 45 = .ok (.if_icmp .eq 10, 3) := by decide +kernel
theorem dX7_as_48 : decode cX7_as 48 = .ok (.aload_n 0, 1) := by decide +kernel
theorem dX7_as_49 : decode cX7_as 49 = .ok (.ldc 73, 2) := by decide +kernel
theorem dX7_as_51 : decode cX7_as 51 = .ok (.invokevirtual 49, 3) := by decide +kernel
theorem dX7_as_54 : decode cX7_as 54 = .ok (.ireturn, 1) := by decide +kernel
theorem dX7_as_55 : decode cX7_as 55 = .ok (.aload_n 0, 1) := by decide +kernel
theorem dX7_as_56 : decode cX7_as 56 = .ok (.getfield 12, 3) := by decide +kernel
theorem dX7_as_59 : decode cX7_as 59 = .ok (.getfield 53, 3) := by decide +kernel
theorem dX7_as_62 : decode cX7_as 62 = .ok (.getfield 74, 3) := by decide +kernel
theorem dX7_as_65 : decode cX7_as 65 = .ok (.iload_n 1, 1) := by decide +kernel
theorem dX7_as_66 : decode cX7_as 66 = .ok (.iaload, 1) := by decide +kernel
theorem dX7_as_67 : decode cX7_as 67 = .ok (.ireturn, 1) := by decide +kernel
theorem dX7_licence_0 : decode cX7_licence 0 = .ok (.aload_n 0, 1) := by decide +kernel
theorem dX7_licence_1 : decode cX7_licence 1 = .ok (.getfield 12, 3) := by decide +kernel
theorem dX7_licence_4 : decode cX7_licence 4 = .ok (.getfield 53, 3) := by decide +kernel
theorem dX7_licence_7 : decode cX7_licence 7 = .ok (.iload_n 1, 1) := by decide +kernel
theorem dX7_licence_8 : decode cX7_licence 8 = .ok (.invokevirtual 67, 3) := by decide +kernel
theorem dX7_licence_11 : decode cX7_licence 11 = .ok (.ifCond .eq 10, 3) := by decide +kernel
theorem dX7_licence_14 : decode cX7_licence 14 = .ok (.iload_n 2, 1) := by decide +kernel
theorem dX7_licence_15 : decode cX7_licence 15 = .ok (.invokestatic 41, 3) := by decide +kernel
theorem dX7_licence_18 : decode cX7_licence 18 = .ok (.ifCond .ne 10, 3) := by decide +kernel
theorem dX7_licence_21 : decode cX7_licence 21 = .ok (.aload_n 0, 1) := by decide +kernel
theorem dX7_licence_22 : decode cX7_licence 22 = .ok (.ldc 48, 2) := by decide +kernel
theorem dX7_licence_24 : decode cX7_licence 24 = .ok (.invokevirtual 49, 3) := by decide +kernel
theorem dX7_licence_27 : decode cX7_licence 27 = .ok (.ireturn, 1) := by decide +kernel
theorem dX7_licence_28 : decode cX7_licence 28 = .ok (.aload_n 0, 1) := by decide +kernel
theorem dX7_licence_29 : decode cX7_licence 29 = .ok (.getfield 12, 3) := by decide +kernel
theorem dX7_licence_32 : decode cX7_licence 32 = .ok (.getfield 53, 3) := by decide +kernel
theorem dX7_licence_35 : decode cX7_licence 35 = .ok (.getfield 77, 3) := by decide +kernel
theorem dX7_licence_38 : decode cX7_licence 38 = .ok (.iload_n 1, 1) := by decide +kernel
theorem dX7_licence_39 : decode cX7_licence 39 = .ok (.iaload, 1) := by decide +kernel
theorem dX7_licence_40 : decode cX7_licence 40 = .ok (.istore_n 3, 1) := by decide +kernel
theorem dX7_licence_41 : decode cX7_licence 41 = .ok (.aload_n 0, 1) := by decide +kernel
theorem dX7_licence_42 : decode cX7_licence 42 = .ok (.getfield 12, 3) := by decide +kernel
theorem dX7_licence_45 : decode cX7_licence 45 = .ok (.getfield 53, 3) := by decide +kernel
theorem dX7_licence_48 : decode cX7_licence 48 = .ok (.getfield 77, 3) := by decide +kernel
theorem dX7_licence_51 : decode cX7_licence 51 = .ok (.iload_n 1, 1) := by decide +kernel
theorem dX7_licence_52 : decode cX7_licence 52 = .ok (.iload_n 2, 1) := by decide +kernel
theorem dX7_licence_53 : decode cX7_licence 53 = .ok (.iastore, 1) := by decide +kernel
theorem dX7_licence_54 : decode cX7_licence 54 = .ok (.iload_n 3, 1) := by decide +kernel
theorem dX7_licence_55 : decode cX7_licence 55 = .ok (.ireturn, 1) := by decide +kernel
theorem dX7_part_0 : decode cX7_part 0 = .ok (.aload_n 0, 1) := by decide +kernel
theorem dX7_part_1 : decode cX7_part 1 = .ok (.getfield 12, 3) := by decide +kernel
theorem dX7_part_4 : decode cX7_part 4 = .ok (.getfield 53, 3) := by decide +kernel
theorem dX7_part_7 : decode cX7_part 7 = .ok (.iload_n 1, 1) := by decide +kernel
theorem dX7_part_8 : decode cX7_part 8 = .ok (.invokevirtual 67, 3) := by decide +kernel
theorem dX7_part_11 : decode cX7_part 11 = .ok (.ifCond .eq 24, 3) := by decide +kernel
theorem dX7_part_14 : decode cX7_part 14 = .ok (.iload_n 2, 1) := by decide +kernel
theorem dX7_part_15 : decode cX7_part 15 = .ok (.iconst 0, 1) := by decide +kernel
theorem dX7_part_16 : decode cX7_part 16 = .ok (.bipush 7, 2) := by decide +kernel
theorem dX7_part_18 : decode cX7_part 18 = .ok (.invokestatic 44, 3) := by decide +kernel
theorem dX7_part_21 : decode cX7_part 21 = .ok (.ifCond .eq 14, 3) := by decide +kernel
theorem dX7_part_24 : decode cX7_part 24 = .ok (.iload_n 3, 1) := by decide +kernel
theorem dX7_part_25 : decode cX7_part 25 = .ok (.iconst (-1), 1) := by decide +kernel
theorem dX7_part_26 : decode cX7_part 26 = .ok (.sipush 30000, 3) := by decide +kernel
theorem dX7_part_29 : decode cX7_part 29 = .ok (.invokestatic 44, 3) := by decide +kernel
theorem dX7_part_32 : decode cX7_part 32 = .ok (.ifCond .ne 10, 3) := by decide +kernel
theorem dX7_part_35 : decode cX7_part 35 = .ok (.aload_n 0, 1) := by decide +kernel
theorem dX7_part_36 : decode cX7_part 36 = .ok (.ldc 48, 2) := by decide +kernel
theorem dX7_part_38 : decode cX7_part 38 = .ok (.invokevirtual 49, 3) := by decide +kernel
theorem dX7_part_41 : decode cX7_part 41 = .ok (.ireturn, 1) := by decide +kernel
theorem dX7_part_42 : decode cX7_part 42 = .ok (.iload_n 1, 1) := by decide +kernel
theorem dX7_part_43 : decode cX7_part 43 = .ok (.bipush 8, 2) := by decide +kernel
theorem dX7_part_45 : decode cX7_part 45 = .ok (.imul, 1) := by decide +kernel
theorem dX7_part_46 : decode cX7_part 46 = .ok (.iload_n 2, 1) := by decide +kernel
theorem dX7_part_47 : decode cX7_part 47 = .ok (.iadd, 1) := by decide +kernel
theorem dX7_part_48 : decode cX7_part 48 = .ok (.istore 4, 2) := by decide +kernel
theorem dX7_part_50 : decode cX7_part 50 = .ok (.aload_n 0, 1) := by decide +kernel
theorem dX7_part_51 : decode cX7_part 51 = .ok (.getfield 12, 3) := by decide +kernel
theorem dX7_part_54 : decode cX7_part 54 = .ok (.getfield 53, 3) := by decide +kernel
theorem dX7_part_57 : decode cX7_part 57 = .ok (.getfield 80, 3) := by decide +kernel
theorem dX7_part_60 : decode cX7_part 60 = .ok (.iload 4, 2) := by decide +kernel
theorem dX7_part_62 : decode cX7_part 62 = .ok (.iaload, 1) := by decide +kernel
theorem dX7_part_63 : decode cX7_part 63 = .ok (.istore 5, 2) := by decide +kernel
theorem dX7_part_65 : decode cX7_part 65 = .ok (.aload_n 0, 1) := by decide +kernel
theorem dX7_part_66 : decode cX7_part 66 = .ok (.getfield 12, 3) := by decide +kernel
theorem dX7_part_69 : decode cX7_part 69 = .ok (.getfield 53, 3) := by decide +kernel
theorem dX7_part_72 : decode cX7_part 72 = .ok (.getfield 80, 3) := by decide +kernel
theorem dX7_part_75 : decode cX7_part 75 = .ok (.iload 4, 2) := by decide +kernel
theorem dX7_part_77 : decode cX7_part 77 = .ok (.iload_n 3, 1) := by decide +kernel
theorem dX7_part_78 : decode cX7_part 78 = .ok (.iastore, 1) := by decide +kernel
theorem dX7_part_79 : decode cX7_part 79 = .ok (.iload 5, 2) := by decide +kernel
theorem dX7_part_81 : decode cX7_part 81 = .ok (.ireturn, 1) := by decide +kernel
theorem dX7_worth_0 : decode cX7_worth 0 = .ok (.iload_n 1, 1) := by decide +kernel
theorem dX7_worth_1 : decode cX7_worth 1 = .ok (.invokestatic 83, 3) := by decide +kernel
theorem dX7_worth_4 : decode cX7_worth 4 = .ok (.ifCond .eq 33, 3) := by decide +kernel
theorem dX7_worth_7 : decode cX7_worth 7 = .ok (.iload_n 2, 1) := by decide +kernel
theorem dX7_worth_8 : decode cX7_worth 8 = .ok (.invokestatic 83, 3) := by decide +kernel
theorem dX7_worth_11 : decode cX7_worth 11 = .ok (.ifCond .eq 26, 3) := by decide +kernel
theorem dX7_worth_14 : decode cX7_worth 14 = .ok (.iload_n 3, 1) := by decide +kernel
theorem dX7_worth_15 : decode cX7_worth 15 = .ok (.invokestatic 86, 3) := by decide +kernel
theorem dX7_worth_18 : decode cX7_worth 18 = .ok (.ifCond .eq 19, 3) := by decide +kernel
theorem dX7_worth_21 : decode cX7_worth 21 = .ok (.iload_n 1, 1) := by decide +kernel
theorem dX7_worth_22 : decode cX7_worth 22 = .ok (.iload_n 2, 1) := by decide +kernel
theorem dX7_worth_23 : decode cX7_worth 23 = .ok (.if_icmp .eq 14, 3) := by decide +kernel
theorem dX7_worth_26 : decode cX7_worth 26 = .ok (.iload 4, 2) := by decide +kernel
theorem dX7_worth_28 : decode cX7_worth 28 = .ok (.iconst 0, 1) := by decide +kernel
theorem dX7_worth_29 : decode cX7_worth 29 = .ok (.bipush 10, 2) := by decide +kernel
theorem dX7_worth_31 : decode cX7_worth 31 = .ok (.invokestatic 44, 3) := by decide +kernel
theorem dX7_worth_34 : decode cX7_worth 34 = .ok (.ifCond .ne 10, 3) := by decide +kernel
theorem dX7_worth_37 : decode cX7_worth 37 = .ok (.aload_n 0, 1) := by decide +kernel
theorem dX7_worth_38 : decode cX7_worth 38 = .ok (.ldc 48, 2) := by decide +kernel
theorem dX7_worth_40 : decode cX7_worth 40 = .ok (.invokevirtual 49, 3) := by decide +kernel
theorem dX7_worth_43 : decode cX7_worth 43 = .ok (.ireturn, 1) := by decide +kernel
theorem dX7_worth_44 : decode cX7_worth 44 = .ok (.aload_n 0, 1) := by decide +kernel
theorem dX7_worth_45 : decode cX7_worth 45 = .ok (.getfield 12, 3) := by decide +kernel
theorem dX7_worth_48 : decode cX7_worth 48 = .ok (.getfield 89, 3) := by decide +kernel
theorem dX7_worth_51 : decode cX7_worth 51 = .ok (.iload_n 1, 1) := by decide +kernel
theorem dX7_worth_52 : decode cX7_worth 52 = .ok (.iload_n 2, 1) := by decide +kernel
theorem dX7_worth_53 : decode cX7_worth 53 = .ok (.iload_n 3, 1) := by decide +kernel
theorem dX7_worth_54 : decode cX7_worth 54 = .ok (.invokevirtual 93, 3) := by decide +kernel
theorem dX7_worth_57 : decode cX7_worth 57 = .ok (.istore 5, 2) := by decide +kernel
theorem dX7_worth_59 : decode cX7_worth 59 = .ok (.aload_n 0, 1) := by decide +kernel
theorem dX7_worth_60 : decode cX7_worth 60 = .ok (.getfield 12, 3) := by decide +kernel
theorem dX7_worth_63 : decode cX7_worth 63 = .ok (.getfield 89, 3) := by decide +kernel
theorem dX7_worth_66 : decode cX7_worth 66 = .ok (.iload_n 1, 1) := by decide +kernel
theorem dX7_worth_67 : decode cX7_worth 67 = .ok (.iload_n 2, 1) := by decide +kernel
theorem dX7_worth_68 : decode cX7_worth 68 = .ok (.iload_n 3, 1) := by decide +kernel
theorem dX7_worth_69 : decode cX7_worth 69 = .ok (.iload 4, 2) := by decide +kernel
theorem dX7_worth_71 : decode cX7_worth 71 = .ok (.invokevirtual 98, 3) := by decide +kernel
theorem dX7_worth_74 : decode cX7_worth 74 = .ok (.iload 5, 2) := by decide +kernel
theorem dX7_worth_76 : decode cX7_worth 76 = .ok (.ireturn, 1) := by decide +kernel
theorem dX7_way_0 : decode cX7_way 0 = .ok (.iload_n 1, 1) := by decide +kernel
theorem dX7_way_1 : decode cX7_way 1 = .ok (.invokestatic 83, 3) := by decide +kernel
theorem dX7_way_4 : decode cX7_way 4 = .ok (.ifCond .eq 12, 3) := by decide +kernel
theorem dX7_way_7 : decode cX7_way 7 = .ok (.iload_n 2, 1) := by decide +kernel
theorem dX7_way_8 : decode cX7_way 8 = .ok (.iconst 0, 1) := by decide +kernel
theorem dX7_way_9 : decode cX7_way 9 = .ok (.iconst 1, 1) := by decide +kernel
theorem dX7_way_10 : decode cX7_way 10 = .ok (.invokestatic 44, 3) := by decide +kernel
theorem dX7_way_13 : decode cX7_way 13 = .ok (.ifCond .ne 10, 3) := by decide +kernel
theorem dX7_way_16 : decode cX7_way 16 = .ok (.aload_n 0, 1) := by decide +kernel
theorem dX7_way_17 : decode cX7_way 17 = .ok (.ldc 48, 2) := by decide +kernel
theorem dX7_way_19 : decode cX7_way 19 = .ok (.invokevirtual 49, 3) := by decide +kernel
theorem dX7_way_22 : decode cX7_way 22 = .ok (.ireturn, 1) := by decide +kernel
theorem dX7_way_23 : decode cX7_way 23 = .ok (.aload_n 0, 1) := by decide +kernel
theorem dX7_way_24 : decode cX7_way 24 = .ok (.getfield 12, 3) := by decide +kernel
theorem dX7_way_27 : decode cX7_way 27 = .ok (.getfield 89, 3) := by decide +kernel
theorem dX7_way_30 : decode cX7_way 30 = .ok (.getfield 102, 3) := by decide +kernel
theorem dX7_way_33 : decode cX7_way 33 = .ok (.iload_n 1, 1) := by decide +kernel
theorem dX7_way_34 : decode cX7_way 34 = .ok (.iaload, 1) := by decide +kernel
theorem dX7_way_35 : decode cX7_way 35 = .ok (.istore_n 3, 1) := by decide +kernel
theorem dX7_way_36 : decode cX7_way 36 = .ok (.aload_n 0, 1) := by decide +kernel
theorem dX7_way_37 : decode cX7_way 37 = .ok (.getfield 12, 3) := by decide +kernel
theorem dX7_way_40 : decode cX7_way 40 = .ok (.getfield 89, 3) := by decide +kernel
theorem dX7_way_43 : decode cX7_way 43 = .ok (.getfield 102, 3) := by decide +kernel
theorem dX7_way_46 : decode cX7_way 46 = .ok (.iload_n 1, 1) := by decide +kernel
theorem dX7_way_47 : decode cX7_way 47 = .ok (.iload_n 2, 1) := by decide +kernel
theorem dX7_way_48 : decode cX7_way 48 = .ok (.iastore, 1) := by decide +kernel
theorem dX7_way_49 : decode cX7_way 49 = .ok (.iload_n 3, 1) := by decide +kernel
theorem dX7_way_50 : decode cX7_way 50 = .ok (.ireturn, 1) := by decide +kernel
theorem dX7_rule_0 : decode cX7_rule 0 = .ok (.iload_n 1, 1) := by decide +kernel
theorem dX7_rule_1 : decode cX7_rule 1 = .ok (.ifCond .lt 78, 3) := by decide +kernel
theorem dX7_rule_4 : decode cX7_rule 4 = .ok (.iload_n 1, 1) := by decide +kernel
theorem dX7_rule_5 : decode cX7_rule 5 = .ok (.bipush 100, 2) := by decide +kernel
theorem dX7_rule_7 : decode cX7_rule 7 = .ok (.idiv, 1) := by decide +kernel
theorem dX7_rule_8 : decode cX7_rule 8 = .ok (.invokestatic 83, 3) := by decide +kernel
theorem dX7_rule_11 : decode cX7_rule 11 = .ok (.ifCond .eq 68, 3) := by decide +kernel
theorem dX7_rule_14 : decode cX7_rule 14 = .ok (.iload_n 1, 1) := by decide +kernel
theorem dX7_rule_15 : decode cX7_rule 15 = .ok (.bipush 100, 2) := by decide +kernel
theorem dX7_rule_17 : decode cX7_rule 17 = .ok (.irem, 1) := by decide +kernel
theorem dX7_rule_18 : decode cX7_rule 18 = .ok (.invokestatic 86, 3) := by decide +kernel
theorem dX7_rule_21 : decode cX7_rule 21 = .ok (.ifCond .eq 58, 3) := by decide +kernel
theorem dX7_rule_24 : decode cX7_rule 24 = .ok (.iload_n 2, 1) := by decide +kernel
theorem dX7_rule_25 : decode cX7_rule 25 = .ok (.invokestatic 41, 3) := by decide +kernel
theorem dX7_rule_28 : decode cX7_rule 28 = .ok (.ifCond .eq 51, 3) := by decide +kernel
theorem dX7_rule_31 : decode cX7_rule 31 = .ok (.iload_n 3, 1) := by decide +kernel
theorem dX7_rule_32 : decode cX7_rule 32 = .ok (.iconst 0, 1) := by decide +kernel
theorem dX7_rule_33 : decode cX7_rule 33 = .ok (.sipush 4000, 3) := by decide +kernel
theorem dX7_rule_36 : decode cX7_rule 36 = .ok (.invokestatic 44, 3) := by decide +kernel
theorem dX7_rule_39 : decode cX7_rule 39 = .ok (.ifCond .eq 40, 3) := by decide +kernel
theorem dX7_rule_42 : decode cX7_rule 42 = .ok (.iload 4, 2) := by decide +kernel
theorem dX7_rule_44 : decode cX7_rule 44 = .ok (.iconst 0, 1) := by decide +kernel
theorem dX7_rule_45 : decode cX7_rule 45 = .ok (.sipush 20000, 3) := by decide +kernel
theorem dX7_rule_48 : decode cX7_rule 48 = .ok (.invokestatic 44, 3) := by decide +kernel
theorem dX7_rule_51 : decode cX7_rule 51 = .ok (.ifCond .eq 28, 3) := by decide +kernel
theorem dX7_rule_54 : decode cX7_rule 54 = .ok (.iload 5, 2) := by decide +kernel
theorem dX7_rule_56 : decode cX7_rule 56 = .ok (.ifCond .lt 23, 3) := by decide +kernel
theorem dX7_rule_59 : decode cX7_rule 59 = .ok (.iload 5, 2) := by decide +kernel
theorem dX7_rule_61 : decode cX7_rule 61 = .ok (.iconst 4, 1) := by decide +kernel
theorem dX7_rule_62 : decode cX7_rule 62 = .ok (.ishr, 1) := by decide +kernel
theorem dX7_rule_63 : decode cX7_rule 63 = .ok (.sipush 256, 3) := by decide +kernel
theorem dX7_rule_66 : decode cX7_rule 66 = .ok (.if_icmp .ge 13, 3) := by decide +kernel
theorem dX7_rule_69 : decode cX7_rule 69 = .ok (.iload 5, 2) := by decide +kernel
theorem dX7_rule_71 : decode cX7_rule 71 = .ok (.bipush 15, 2) := by decide +kernel
theorem dX7_rule_73 : decode cX7_rule 73 = .ok (.iand, 1) := by decide +kernel
theorem dX7_rule_74 : decode cX7_rule 74 = .ok (.bipush 10, 2) := by decide +kernel
theorem dX7_rule_76 : decode cX7_rule 76 = .ok (.if_icmp .le 10, 3) := by decide +kernel
theorem dX7_rule_79 : decode cX7_rule 79 = .ok (.aload_n 0, 1) := by decide +kernel
theorem dX7_rule_80 : decode cX7_rule 80 = .ok (.ldc 48, 2) := by decide +kernel
theorem dX7_rule_82 : decode cX7_rule 82 = .ok (.invokevirtual 49, 3) := by decide +kernel
theorem dX7_rule_85 : decode cX7_rule 85 = .ok (.ireturn, 1) := by decide +kernel
theorem dX7_rule_86 : decode cX7_rule 86 = .ok (.aload_n 0, 1) := by decide +kernel
theorem dX7_rule_87 : decode cX7_rule 87 = .ok (.getfield 12, 3) := by decide +kernel
theorem dX7_rule_90 : decode cX7_rule 90 = .ok (.getfield 105, 3) := by decide +kernel
theorem dX7_rule_93 : decode cX7_rule 93 = .ok (.getfield 109, 3) := by decide +kernel
theorem dX7_rule_96 : decode cX7_rule 96 = .ok (.bipush 40, 2) := by decide +kernel
theorem dX7_rule_98 : decode cX7_rule 98 = .ok (.if_icmp .lt 10, 3) := by decide +kernel
theorem dX7_rule_101 : decode cX7_rule 101 = .ok (.aload_n 0, 1) := by decide +kernel
theorem dX7_rule_102 : decode cX7_rule 102 = .ok (.ldc 62, 2) := by decide +kernel
theorem dX7_rule_104 : decode cX7_rule 104 = .ok (.invokevirtual 49, 3) := by decide +kernel
theorem dX7_rule_107 : decode cX7_rule 107 = .ok (.ireturn, 1) := by decide +kernel
theorem dX7_rule_108 : decode cX7_rule 108 = .ok (.aload_n 0, 1) := by decide +kernel
theorem dX7_rule_109 : decode cX7_rule 109 = .ok (.getfield 12, 3) := by decide +kernel
theorem dX7_rule_112 : decode cX7_rule 112 = .ok (.getfield 105, 3) := by decide +kernel
theorem dX7_rule_115 : decode cX7_rule 115 = .ok (.iload_n 1, 1) := by decide +kernel
theorem dX7_rule_116 : decode cX7_rule 116 = .ok (.iload_n 2, 1) := by decide +kernel
theorem dX7_rule_117 : decode cX7_rule 117 = .ok (.iload_n 3, 1) := by decide +kernel
theorem dX7_rule_118 : decode cX7_rule 118 = .ok (.iload 4, 2) := by decide +kernel
theorem dX7_rule_120 : decode cX7_rule 120 = .ok (.iload 5, 2) := by decide +kernel
theorem dX7_rule_122 : decode cX7_rule 122 = .ok (.invokevirtual 115, 3) := by decide +kernel
theorem dX7_rule_125 : decode cX7_rule 125 = .ok (.aload_n 0, 1) := by decide +kernel
theorem dX7_rule_126 : decode cX7_rule 126 = .ok (.getfield 12, 3) := by decide +kernel
theorem dX7_rule_129 : decode cX7_rule 129 = .ok (.getfield 105, 3) := by decide +kernel
theorem dX7_rule_132 : decode cX7_rule 132 = .ok (.getfield 109, 3) := by decide +kernel
theorem dX7_rule_135 : decode cX7_rule 135 = .ok (.ireturn, 1) := by decide +kernel
theorem dX7_force_0 : decode cX7_force 0 = .ok (.iload_n 1, 1) := by decide +kernel
theorem dX7_force_1 : decode cX7_force 1 = .ok (.invokestatic 83, 3) := by decide +kernel
theorem dX7_force_4 : decode cX7_force 4 = .ok (.ifCond .eq 17, 3) := by decide +kernel
theorem dX7_force_7 : decode cX7_force 7 = .ok (.iload_n 2, 1) := by decide +kernel
theorem dX7_force_8 : decode cX7_force 8 = .ok (.invokestatic 86, 3) := by decide +kernel
theorem dX7_force_11 : decode cX7_force 11 = .ok (.ifCond .eq 10, 3) := by decide +kernel
theorem dX7_force_14 : decode cX7_force 14 = .ok (.iload_n 3, 1) := by decide +kernel
theorem dX7_force_15 : decode cX7_force 15 = .ok (.invokestatic 41, 3) := by decide +kernel
theorem dX7_force_18 : decode cX7_force 18 = .ok (.ifCond .ne 10, 3) := by decide +kernel
theorem dX7_force_21 : decode cX7_force 21 = .ok (.aload_n 0, 1) := by decide +kernel
theorem dX7_force_22 : decode cX7_force 22 = .ok (.ldc 48, 2) := by decide +kernel
theorem dX7_force_24 : decode cX7_force 24 = .ok (.invokevirtual 49, 3) := by decide +kernel
theorem dX7_force_27 : decode cX7_force 27 = .ok (.ireturn, 1) := by decide +kernel
theorem dX7_force_28 : decode cX7_force 28 = .ok (.aload_n 0, 1) := by decide +kernel
theorem dX7_force_29 : decode cX7_force 29 = .ok (.getfield 12, 3) := by decide +kernel
theorem dX7_force_32 : decode cX7_force 32 = .ok (.getfield 105, 3) := by decide +kernel
theorem dX7_force_35 : decode cX7_force 35 = .ok (.iload_n 1, 1) := by decide +kernel
theorem dX7_force_36 : decode cX7_force 36 = .ok (.iload_n 2, 1) := by decide +kernel
theorem dX7_force_37 : decode cX7_force 37 = .ok (.iload_n 3, 1) := by decide +kernel
theorem dX7_force_38 : decode cX7_force 38 = .ok (.invokevirtual 118, 3) := by decide +kernel
theorem dX7_force_41 : decode cX7_force 41 = .ok (.istore 4, 2) := by decide +kernel
theorem dX7_force_43 : decode cX7_force 43 = .ok (.iload 4, 2) := by decide +kernel
theorem dX7_force_45 : decode cX7_force 45 = .ok (.ifCond .ge 12, 3) := by decide +kernel
theorem dX7_force_48 : decode cX7_force 48 = .ok (.aload_n 0, 1) := by decide +kernel
theorem dX7_force_49 : decode cX7_force 49 = .ok (.ldc 121, 2) := by decide +kernel
theorem dX7_force_51 : decode cX7_force 51 = .ok (.invokevirtual 49, 3) := by decide +kernel
theorem dX7_force_54 : decode cX7_force 54 = .ok (.goto 5, 3) := by decide +kernel
theorem dX7_force_57 : decode cX7_force 57 = .ok (.iload 4, 2) := by decide +kernel
theorem dX7_force_59 : decode cX7_force 59 = .ok (.ireturn, 1) := by decide +kernel
theorem dX7_has_0 : decode cX7_has 0 = .ok (.aload_n 0, 1) := by decide +kernel
theorem dX7_has_1 : decode cX7_has 1 = .ok (.getfield 12, 3) := by decide +kernel
theorem dX7_has_4 : decode cX7_has 4 = .ok (.getfield 53, 3) := by decide +kernel
theorem dX7_has_7 : decode cX7_has 7 = .ok (.iload_n 1, 1) := by decide +kernel
theorem dX7_has_8 : decode cX7_has 8 = .ok (.invokevirtual 67, 3) := by decide +kernel
theorem dX7_has_11 : decode cX7_has 11 = .ok (.ifCond .eq 25, 3) := by decide +kernel
theorem dX7_has_14 : decode cX7_has 14 = .ok (.iload_n 2, 1) := by decide +kernel
theorem dX7_has_15 : decode cX7_has 15 = .ok (.invokestatic 83, 3) := by decide +kernel
theorem dX7_has_18 : decode cX7_has 18 = .ok (.ifCond .eq 18, 3) := by decide +kernel
theorem dX7_has_21 : decode cX7_has 21 = .ok (.iload_n 3, 1) := by decide +kernel
theorem dX7_has_22 : decode cX7_has 22 = .ok (.invokestatic 41, 3) := by decide +kernel
theorem dX7_has_25 : decode cX7_has 25 = .ok (.ifCond .eq 11, 3) := by decide +kernel
theorem dX7_has_28 : decode cX7_has 28 = .ok (.iload 4, 2) := by decide +kernel
theorem dX7_has_30 : decode cX7_has 30 = .ok (.invokestatic 41, 3) := by decide +kernel
theorem dX7_has_33 : decode cX7_has 33 = .ok (.ifCond .ne 10, 3) := by decide +kernel
theorem dX7_has_36 : decode cX7_has 36 = .ok (.aload_n 0, 1) := by decide +kernel
theorem dX7_has_37 : decode cX7_has 37 = .ok (.ldc 48, 2) := by decide +kernel
theorem dX7_has_39 : decode cX7_has 39 = .ok (.invokevirtual 49, 3) := by decide +kernel
theorem dX7_has_42 : decode cX7_has 42 = .ok (.ireturn, 1) := by decide +kernel
theorem dX7_has_43 : decode cX7_has 43 = .ok (.aload_n 0, 1) := by decide +kernel
theorem dX7_has_44 : decode cX7_has 44 = .ok (.getfield 12, 3) := by decide +kernel
theorem dX7_has_47 : decode cX7_has 47 = .ok (.getfield 89, 3) := by decide +kernel
theorem dX7_has_50 : decode cX7_has 50 = .ok (.iload 4, 2) := by decide +kernel
theorem dX7_has_52 : decode cX7_has 52 = .ok (.invokevirtual 122, 3) := by decide +kernel
theorem dX7_has_55 : decode cX7_has 55 = .ok (.aload_n 0, 1) := by decide +kernel
theorem dX7_has_56 : decode cX7_has 56 = .ok (.getfield 12, 3) := by decide +kernel
theorem dX7_has_59 : decode cX7_has 59 = .ok (.getfield 89, 3) := by decide +kernel
theorem dX7_has_62 : decode cX7_has 62 = .ok (.iload_n 1, 1) := by decide +kernel
theorem dX7_has_63 : decode cX7_has 63 = .ok (.iload_n 2, 1) := by decide +kernel
theorem dX7_has_64 : decode cX7_has 64 = .ok (.iload_n 3, 1) := by decide +kernel
theorem dX7_has_65 : decode cX7_has 65 = .ok (.invokevirtual 126, 3) := by decide +kernel
theorem dX7_has_68 : decode cX7_has 68 = .ok (.ireturn, 1) := by decide +kernel
theorem dX7_why_0 : decode cX7_why 0 = .ok (.aload_n 0, 1) := by decide +kernel
theorem dX7_why_1 : decode cX7_why 1 = .ok (.iload_n 1, 1) := by decide +kernel
theorem dX7_why_2 : decode cX7_why 2 = .ok (.iload_n 2, 1) := by decide +kernel
theorem dX7_why_3 : decode cX7_why 3 = .ok (.iload_n 3, 1) := by decide +kernel
theorem dX7_why_4 : decode cX7_why 4 = .ok (.iload 4, 2) := by decide +kernel
theorem dX7_why_6 : decode cX7_why 6 = .ok (.invokevirtual 129, 3) := by decide +kernel
theorem dX7_why_9 : decode cX7_why 9 = .ok (.ifCond .ne 10, 3) := by decide +kernel
theorem dX7_why_12 : decode cX7_why 12 = .ok (.aload_n 0, 1) := by decide +kernel
theorem dX7_why_13 : decode cX7_why 13 = .ok (.ldc 48, 2) := by decide +kernel
theorem dX7_why_15 : decode cX7_why 15 = .ok (.invokevirtual 49, 3) := by decide +kernel
theorem dX7_why_18 : decode cX7_why 18 = .ok (.ireturn, 1) := by decide +kernel
theorem dX7_why_19 : decode cX7_why 19 = .ok (.aload_n 0, 1) := by decide +kernel
theorem dX7_why_20 : decode cX7_why 20 = .ok (.getfield 12, 3) := by decide +kernel
theorem dX7_why_23 : decode cX7_why 23 = .ok (.getfield 89, 3) := by decide +kernel
theorem dX7_why_26 : decode cX7_why 26 = .ok (.iload 4, 2) := by decide +kernel
theorem dX7_why_28 : decode cX7_why 28 = .ok (.invokevirtual 122, 3) := by decide +kernel
theorem dX7_why_31 : decode cX7_why 31 = .ok (.aload_n 0, 1) := by decide +kernel
theorem dX7_why_32 : decode cX7_why 32 = .ok (.getfield 12, 3) := by decide +kernel
theorem dX7_why_35 : decode cX7_why 35 = .ok (.iload_n 1, 1) := by decide +kernel
theorem dX7_why_36 : decode cX7_why 36 = .ok (.iload_n 2, 1) := by decide +kernel
theorem dX7_why_37 : decode cX7_why 37 = .ok (.iload_n 3, 1) := by decide +kernel
theorem dX7_why_38 : decode cX7_why 38 = .ok (.iload 4, 2) := by decide +kernel
theorem dX7_why_40 : decode cX7_why 40 = .ok (.invokevirtual 133, 3) := by decide +kernel
theorem dX7_why_43 : decode cX7_why 43 = .ok (.ireturn, 1) := by decide +kernel
theorem dX7_panel_0 : decode cX7_panel 0 = .ok (.aload_n 0, 1) := by decide +kernel
theorem dX7_panel_1 : decode cX7_panel 1 = .ok (.iload_n 1, 1) := by decide +kernel
theorem dX7_panel_2 : decode cX7_panel 2 = .ok (.iload_n 2, 1) := by decide +kernel
theorem dX7_panel_3 : decode cX7_panel 3 = .ok (.iload_n 3, 1) := by decide +kernel
theorem dX7_panel_4 : decode cX7_panel 4 = .ok (.iload 4, 2) := by decide +kernel
theorem dX7_panel_6 : decode cX7_panel 6 = .ok (.invokevirtual 129, 3) := by decide +kernel
theorem dX7_panel_9 : decode cX7_panel 9 = .ok (.ifCond .eq 18, 3) := by decide +kernel
theorem dX7_panel_12 : decode cX7_panel 12 = .ok (.aload_n 0, 1) := by decide +kernel
theorem dX7_panel_13 : decode cX7_panel 13 = .ok (.getfield 12, 3) := by decide +kernel
theorem dX7_panel_16 : decode cX7_panel 16 = .ok (.getfield 53, 3) := by decide +kernel
theorem dX7_panel_19 : decode cX7_panel 19 = .ok (.iload 5, 2) := by decide +kernel
theorem dX7_panel_21 : decode cX7_panel 21 = .ok (.invokevirtual 137, 3) := by decide +kernel
theorem dX7_panel_24 : decode cX7_panel 24 = .ok (.ifCond .ne 10, 3) := by decide +kernel
theorem dX7_panel_27 : decode cX7_panel 27 = .ok (.aload_n 0, 1) := by decide +kernel
theorem dX7_panel_28 : decode cX7_panel 28 = .ok (.ldc 48, 2) := by decide +kernel
theorem dX7_panel_30 : decode cX7_panel 30 = .ok (.invokevirtual 49, 3) := by decide +kernel
theorem dX7_panel_33 : decode cX7_panel 33 = .ok (.ireturn, 1) := by decide +kernel
theorem dX7_panel_34 : decode cX7_panel 34 = .ok (.aload_n 0, 1) := by decide +kernel
theorem dX7_panel_35 : decode cX7_panel 35 = .ok (.getfield 12, 3) := by decide +kernel
theorem dX7_panel_38 : decode cX7_panel 38 = .ok (.getfield 105, 3) := by decide +kernel
theorem dX7_panel_41 : decode cX7_panel 41 = .ok (.iload_n 2, 1) := by decide +kernel
theorem dX7_panel_42 : decode cX7_panel 42 = .ok (.iload_n 3, 1) := by decide +kernel
theorem dX7_panel_43 : decode cX7_panel 43 = .ok (.iload 4, 2) := by decide +kernel
theorem dX7_panel_45 : decode cX7_panel 45 = .ok (.invokevirtual 118, 3) := by decide +kernel
theorem dX7_panel_48 : decode cX7_panel 48 = .ok (.istore 6, 2) := by decide +kernel
theorem dX7_panel_50 : decode cX7_panel 50 = .ok (.iload 6, 2) := by decide +kernel
theorem dX7_panel_52 : decode cX7_panel 52 = .ok (.ifCond .ge 10, 3) := by decide +kernel
theorem dX7_panel_55 : decode cX7_panel 55 = .ok (.aload_n 0, 1) := by decide +kernel
theorem dX7_panel_56 : decode cX7_panel 56 = .ok (.ldc 121, 2) := by decide +kernel
theorem dX7_panel_58 : decode cX7_panel 58 = .ok (.invokevirtual 49, 3) := by decide +kernel
theorem dX7_panel_61 : decode cX7_panel 61 = .ok (.ireturn, 1) := by decide +kernel
theorem dX7_panel_62 : decode cX7_panel 62 = .ok (.aload_n 0, 1) := by decide +kernel
theorem dX7_panel_63 : decode cX7_panel 63 = .ok (.getfield 12, 3) := by decide +kernel
theorem dX7_panel_66 : decode cX7_panel 66 = .ok (.getfield 89, 3) := by decide +kernel
theorem dX7_panel_69 : decode cX7_panel 69 = .ok (.iload 4, 2) := by decide +kernel
theorem dX7_panel_71 : decode cX7_panel 71 = .ok (.invokevirtual 122, 3) := by decide +kernel
theorem dX7_panel_74 : decode cX7_panel 74 = .ok (.aload_n 0, 1) := by decide +kernel
theorem dX7_panel_75 : decode cX7_panel 75 = .ok (.getfield 12, 3) := by decide +kernel
theorem dX7_panel_78 : decode cX7_panel 78 = .ok (.iload_n 1, 1) := by decide +kernel
theorem dX7_panel_79 : decode cX7_panel 79 = .ok (.iload_n 2, 1) := by decide +kernel
theorem dX7_panel_80 : decode cX7_panel 80 = .ok (.iload 4, 2) := by decide +kernel
theorem dX7_panel_82 : decode cX7_panel 82 = .ok (.iload 5, 2) := by decide +kernel
theorem dX7_panel_84 : decode cX7_panel 84 = .ok (.aload_n 0, 1) := by decide +kernel
theorem dX7_panel_85 : decode cX7_panel 85 = .ok (.getfield 12, 3) := by decide +kernel
theorem dX7_panel_88 : decode cX7_panel 88 = .ok (.getfield 105, 3) := by decide +kernel
theorem dX7_panel_91 : decode cX7_panel 91 = .ok (.getfield 140, 3) := by decide +kernel
theorem dX7_panel_94 : decode cX7_panel 94 = .ok (.iload 6, 2) := by decide +kernel
theorem dX7_panel_96 : decode cX7_panel 96 = .ok (.iaload, 1) := by decide +kernel
theorem dX7_panel_97 : decode cX7_panel 97 = .ok (.invokevirtual 143, 3) := by decide +kernel
theorem dX7_panel_100 : decode cX7_panel 100 = .ok (.ireturn, 1) := by decide +kernel
theorem dX7_give_0 : decode cX7_give 0 = .ok (.aload_n 0, 1) := by decide +kernel
theorem dX7_give_1 : decode cX7_give 1 = .ok (.iload_n 1, 1) := by decide +kernel
theorem dX7_give_2 : decode cX7_give 2 = .ok (.iload_n 2, 1) := by decide +kernel
theorem dX7_give_3 : decode cX7_give 3 = .ok (.iload_n 3, 1) := by decide +kernel
theorem dX7_give_4 : decode cX7_give 4 = .ok (.iload 4, 2) := by decide +kernel
theorem dX7_give_6 : decode cX7_give 6 = .ok (.invokevirtual 129, 3) := by decide +kernel
theorem dX7_give_9 : decode cX7_give 9 = .ok (.ifCond .eq 33, 3) := by decide +kernel
theorem dX7_give_12 : decode cX7_give 12 = .ok (.aload_n 0, 1) := by decide +kernel
theorem dX7_give_13 : decode cX7_give 13 = .ok (.getfield 12, 3) := by decide +kernel
theorem dX7_give_16 : decode cX7_give 16 = .ok (.getfield 53, 3) := by decide +kernel
theorem dX7_give_19 : decode cX7_give 19 = .ok (.iload 5, 2) := by decide +kernel
theorem dX7_give_21 : decode cX7_give 21 = .ok (.invokevirtual 137, 3) := by decide +kernel
theorem dX7_give_24 : decode cX7_give 24 = .ok (.ifCond .eq 18, 3) := by decide +kernel
theorem dX7_give_27 : decode cX7_give 27 = .ok (.iload 4, 2) := by decide +kernel
theorem dX7_give_29 : decode cX7_give 29 = .ok (.aload_n 0, 1) := by decide +kernel
theorem dX7_give_30 : decode cX7_give 30 = .ok (.getfield 12, 3) := by decide +kernel
theorem dX7_give_33 : decode cX7_give 33 = .ok (.getfield 89, 3) := by decide +kernel
theorem dX7_give_36 : decode cX7_give 36 = .ok (.invokevirtual 147, 3) := by decide +kernel
theorem dX7_give_39 : decode cX7_give 39 = .ok (.if_icmp .ge 10, 3) := by decide +kernel
theorem dX7_give_42 : decode cX7_give 42 = .ok (.aload_n 0, 1) := by decide +kernel
theorem dX7_give_43 : decode cX7_give 43 = .ok (.ldc 48, 2) := by decide +kernel
theorem dX7_give_45 : decode cX7_give 45 = .ok (.invokevirtual 49, 3) := by decide +kernel
theorem dX7_give_48 : decode cX7_give 48 = .ok (.ireturn, 1) := by decide +kernel
theorem dX7_give_49 : decode cX7_give 49 = .ok (.aload_n 0, 1) := by decide +kernel
theorem dX7_give_50 : decode cX7_give 50 = .ok (.getfield 12, 3) := by decide +kernel
theorem dX7_give_53 : decode cX7_give 53 = .ok (.getfield 89, 3) := by decide +kernel
theorem dX7_give_56 : decode cX7_give 56 = .ok (.iload 4, 2) := by decide +kernel
theorem dX7_give_58 : decode cX7_give 58 = .ok (.invokevirtual 122, 3) := by decide +kernel
theorem dX7_give_61 : decode cX7_give 61 = .ok (.aload_n 0, 1) := by decide +kernel
theorem dX7_give_62 : decode cX7_give 62 = .ok (.getfield 12, 3) := by decide +kernel
theorem dX7_give_65 : decode cX7_give 65 = .ok (.getfield 105, 3) := by decide +kernel
theorem dX7_give_68 : decode cX7_give 68 = .ok (.iload_n 2, 1) := by decide +kernel
theorem dX7_give_69 : decode cX7_give 69 = .ok (.iload_n 3, 1) := by decide +kernel
theorem dX7_give_70 : decode cX7_give 70 = .ok (.iload 4, 2) := by decide +kernel
theorem dX7_give_72 : decode cX7_give 72 = .ok (.invokevirtual 118, 3) := by decide +kernel
theorem dX7_give_75 : decode cX7_give 75 = .ok (.istore 6, 2) := by decide +kernel
theorem dX7_give_77 : decode cX7_give 77 = .ok (.iload 6, 2) := by decide +kernel
theorem dX7_give_79 : decode cX7_give 79 = .ok (.ifCond .lt 47, 3) := by decide +kernel
theorem dX7_give_82 : decode cX7_give 82 = .ok (.aload_n 0, 1) := by decide +kernel
theorem dX7_give_83 : decode cX7_give 83 = .ok (.getfield 12, 3) := by decide +kernel
theorem dX7_give_86 : decode cX7_give 86 = .ok (.iload_n 1, 1) := by decide +kernel
theorem dX7_give_87 : decode cX7_give 87 = .ok (.iload_n 2, 1) := by decide +kernel
theorem dX7_give_88 : decode cX7_give 88 = .ok (.iload_n 3, 1) := by decide +kernel
theorem dX7_give_89 : decode cX7_give 89 = .ok (.iload 4, 2) := by decide +kernel
theorem dX7_give_91 : decode cX7_give 91 = .ok (.invokevirtual 133, 3) := by decide +kernel
theorem dX7_give_94 : decode cX7_give 94 = .ok (.ifCond .ne 32, 3) := by decide +kernel
theorem dX7_give_97 : decode cX7_give 97 = .ok (.aload_n 0, 1) := by decide +kernel
theorem dX7_give_98 : decode cX7_give 98 = .ok (.getfield 12, 3) := by decide +kernel
theorem dX7_give_101 : decode cX7_give 101 = .ok (.iload_n 1, 1) := by decide +kernel
theorem dX7_give_102 : decode cX7_give 102 = .ok (.iload_n 2, 1) := by decide +kernel
theorem dX7_give_103 : decode cX7_give 103 = .ok (.iload 4, 2) := by decide +kernel
theorem dX7_give_105 : decode cX7_give 105 = .ok (.iload 5, 2) := by decide +kernel
theorem dX7_give_107 : decode cX7_give 107 = .ok (.aload_n 0, 1) := by decide +kernel
theorem dX7_give_108 : decode cX7_give 108 = .ok (.getfield 12, 3) := by decide +kernel
theorem dX7_give_111 : decode cX7_give 111 = .ok (.getfield 105, 3) := by decide +kernel
theorem dX7_give_114 : decode cX7_give 114 = .ok (.getfield 140, 3) := by decide +kernel
theorem dX7_give_117 : decode cX7_give 117 = .ok (.iload 6, 2) := by decide +kernel
theorem dX7_give_119 : decode cX7_give 119 = .ok (.iaload, 1) := by decide +kernel
theorem dX7_give_120 : decode cX7_give 120 = .ok (.invokevirtual 143, 3) := by decide +kernel
theorem dX7_give_123 : decode cX7_give 123 = .ok (.ifCond .eq 10, 3) := by decide +kernel
theorem dX7_give_126 : decode cX7_give 126 = .ok (.aload_n 0, 1) := by decide +kernel
theorem dX7_give_127 : decode cX7_give 127 = .ok (.ldc 151, 2) := by decide +kernel
theorem dX7_give_129 : decode cX7_give 129 = .ok (.invokevirtual 49, 3) := by decide +kernel
theorem dX7_give_132 : decode cX7_give 132 = .ok (.ireturn, 1) := by decide +kernel
theorem dX7_give_133 : decode cX7_give 133 = .ok (.aload_n 0, 1) := by decide +kernel
theorem dX7_give_134 : decode cX7_give 134 = .ok (.getfield 12, 3) := by decide +kernel
theorem dX7_give_137 : decode cX7_give 137 = .ok (.getfield 89, 3) := by decide +kernel
theorem dX7_give_140 : decode cX7_give 140 = .ok (.getfield 152, 3) := by decide +kernel
theorem dX7_give_143 : decode cX7_give 143 = .ok (.bipush 60, 2) := by decide +kernel
theorem dX7_give_145 : decode cX7_give 145 = .ok (.if_icmp .lt 10, 3) := by decide +kernel
theorem dX7_give_148 : decode cX7_give 148 = .ok (.aload_n 0, 1) := by decide +kernel
theorem dX7_give_149 : decode cX7_give 149 = .ok (.ldc 62, 2) := by decide +kernel
theorem dX7_give_151 : decode cX7_give 151 = .ok (.invokevirtual 49, 3) := by decide +kernel
theorem dX7_give_154 : decode cX7_give 154 = .ok (.ireturn, 1) := by decide +kernel
theorem dX7_give_155 : decode cX7_give 155 = .ok (.aload_n 0, 1) := by decide +kernel
theorem dX7_give_156 : decode cX7_give 156 = .ok (.getfield 12, 3) := by decide +kernel
theorem dX7_give_159 : decode cX7_give 159 = .ok (.getfield 89, 3) := by decide +kernel
theorem dX7_give_162 : decode cX7_give 162 = .ok (.iload_n 1, 1) := by decide +kernel
theorem dX7_give_163 : decode cX7_give 163 = .ok (.iload_n 2, 1) := by decide +kernel
theorem dX7_give_164 : decode cX7_give 164 = .ok (.iload_n 3, 1) := by decide +kernel
theorem dX7_give_165 : decode cX7_give 165 = .ok (.iload 4, 2) := by decide +kernel
theorem dX7_give_167 : decode cX7_give 167 = .ok (.iload 5, 2) := by decide +kernel
theorem dX7_give_169 : decode cX7_give 169 = .ok (.invokevirtual 153, 3) := by decide +kernel
theorem dX7_give_172 : decode cX7_give 172 = .ok (.ireturn, 1) := by decide +kernel
theorem dX7_entry_0 : decode cX7_entry 0 = .ok (.aload_n 0, 1) := by decide +kernel
theorem dX7_entry_1 : decode cX7_entry 1 = .ok (.getfield 12, 3) := by decide +kernel
theorem dX7_entry_4 : decode cX7_entry 4 = .ok (.getfield 89, 3) := by decide +kernel
theorem dX7_entry_7 : decode cX7_entry 7 = .ok (.iload_n 1, 1) := by decide +kernel
theorem dX7_entry_8 : decode cX7_entry 8 = .ok (.invokevirtual 155, 3) := by decide +kernel
theorem dX7_entry_11 : decode cX7_entry 11 = .ok (.ifCond .ne 10, 3) := by decide +kernel
theorem dX7_entry_14 : decode cX7_entry 14 = .ok (.aload_n 0, 1) := by decide +kernel
theorem dX7_entry_15 : decode cX7_entry 15 = .ok (.ldc 48, 2) := by decide +kernel
theorem dX7_entry_17 : decode cX7_entry 17 = .ok (.invokevirtual 49, 3) := by decide +kernel
theorem dX7_entry_20 : decode cX7_entry 20 = .ok (.ireturn, 1) := by decide +kernel
theorem dX7_entry_21 : decode cX7_entry 21 = .ok (.iload_n 2, 1) := by decide +kernel
theorem dX7_entry_22 : decode cX7_entry 22 = .ok (.tableswitch 99 0 4 #[34, 47, 60, 73, 86], 34) := by decide +kernel
theorem dX7_entry_56 : decode cX7_entry 56 = .ok (.aload_n 0, 1) := by decide +kernel
theorem dX7_entry_57 : decode cX7_entry 57 = .ok (.getfield 12, 3) := by decide +kernel
theorem dX7_entry_60 : decode cX7_entry 60 = .ok (.getfield 89, 3) := by decide +kernel
theorem dX7_entry_63 : decode cX7_entry 63 = .ok (.getfield 156, 3) := by decide +kernel
theorem dX7_entry_66 : decode cX7_entry 66 = .ok (.iload_n 1, 1) := by decide +kernel
theorem dX7_entry_67 : decode cX7_entry 67 = .ok (.iaload, 1) := by decide +kernel
theorem dX7_entry_68 : decode cX7_entry 68 = .ok (.ireturn, 1) := by decide +kernel
theorem dX7_entry_69 : decode cX7_entry 69 = .ok (.aload_n 0, 1) := by decide +kernel
theorem dX7_entry_70 : decode cX7_entry 70 = .ok (.getfield 12, 3) := by decide +kernel
theorem dX7_entry_73 : decode cX7_entry 73 = .ok (.getfield 89, 3) := by decide +kernel
theorem dX7_entry_76 : decode cX7_entry 76 = .ok (.getfield 159, 3) := by decide +kernel
theorem dX7_entry_79 : decode cX7_entry 79 = .ok (.iload_n 1, 1) := by decide +kernel
theorem dX7_entry_80 : decode cX7_entry 80 = .ok (.iaload, 1) := by decide +kernel
theorem dX7_entry_81 : decode cX7_entry 81 = .ok (.ireturn, 1) := by decide +kernel
theorem dX7_entry_82 : decode cX7_entry 82 = .ok (.aload_n 0, 1) := by decide +kernel
theorem dX7_entry_83 : decode cX7_entry 83 = .ok (.getfield 12, 3) := by decide +kernel
theorem dX7_entry_86 : decode cX7_entry 86 = .ok (.getfield 89, 3) := by decide +kernel
theorem dX7_entry_89 : decode cX7_entry 89 = .ok (.getfield 162, 3) := by decide +kernel
theorem dX7_entry_92 : decode cX7_entry 92 = .ok (.iload_n 1, 1) := by decide +kernel
theorem dX7_entry_93 : decode cX7_entry 93 = .ok (.iaload, 1) := by decide +kernel
theorem dX7_entry_94 : decode cX7_entry 94 = .ok (.ireturn, 1) := by decide +kernel
theorem dX7_entry_95 : decode cX7_entry 95 = .ok (.aload_n 0, 1) := by decide +kernel
theorem dX7_entry_96 : decode cX7_entry 96 = .ok (.getfield 12, 3) := by decide +kernel
theorem dX7_entry_99 : decode cX7_entry 99 = .ok (.getfield 89, 3) := by decide +kernel
theorem dX7_entry_102 : decode cX7_entry 102 = .ok (.getfield 165, 3) := by decide +kernel
theorem dX7_entry_105 : decode cX7_entry 105 = .ok (.iload_n 1, 1) := by decide +kernel
theorem dX7_entry_106 : decode cX7_entry 106 = .ok (.iaload, 1) := by decide +kernel
theorem dX7_entry_107 : decode cX7_entry 107 = .ok (.ireturn, 1) := by decide +kernel
theorem dX7_entry_108 : decode cX7_entry 108 = .ok (.aload_n 0, 1) := by decide +kernel
theorem dX7_entry_109 : decode cX7_entry 109 = .ok (.getfield 12, 3) := by decide +kernel
theorem dX7_entry_112 : decode cX7_entry 112 = .ok (.getfield 89, 3) := by decide +kernel
theorem dX7_entry_115 : decode cX7_entry 115 = .ok (.getfield 168, 3) := by decide +kernel
theorem dX7_entry_118 : decode cX7_entry 118 = .ok (.iload_n 1, 1) := by decide +kernel
theorem dX7_entry_119 : decode cX7_entry 119 = .ok (.iaload, 1) := by decide +kernel
theorem dX7_entry_120 : decode cX7_entry 120 = .ok (.ireturn, 1) := by decide +kernel
theorem dX7_entry_121 : decode cX7_entry 121 = .ok (.aload_n 0, 1) := by decide +kernel
theorem dX7_entry_122 : decode cX7_entry 122 = .ok (.ldc 48, 2) := by decide +kernel
theorem dX7_entry_124 : decode cX7_entry 124 = .ok (.invokevirtual 49, 3) := by decide +kernel
theorem dX7_entry_127 : decode cX7_entry 127 = .ok (.ireturn, 1) := by decide +kernel
theorem dX7_stands_0 : decode cX7_stands 0 = .ok (.aload_n 0, 1) := by decide +kernel
theorem dX7_stands_1 : decode cX7_stands 1 = .ok (.getfield 12, 3) := by decide +kernel
theorem dX7_stands_4 : decode cX7_stands 4 = .ok (.getfield 89, 3) := by decide +kernel
theorem dX7_stands_7 : decode cX7_stands 7 = .ok (.iload_n 1, 1) := by decide +kernel
theorem dX7_stands_8 : decode cX7_stands 8 = .ok (.invokevirtual 155, 3) := by decide +kernel
theorem dX7_stands_11 : decode cX7_stands 11 = .ok (.ifCond .eq 10, 3) := by decide +kernel
theorem dX7_stands_14 : decode cX7_stands 14 = .ok (.iload_n 2, 1) := by decide +kernel
theorem dX7_stands_15 : decode cX7_stands 15 = .ok (.invokestatic 41, 3) := by decide +kernel
theorem dX7_stands_18 : decode cX7_stands 18 = .ok (.ifCond .ne 10, 3) := by decide +kernel
theorem dX7_stands_21 : decode cX7_stands 21 = .ok (.aload_n 0, 1) := by decide +kernel
theorem dX7_stands_22 : decode cX7_stands 22 = .ok (.ldc 48, 2) := by decide +kernel
theorem dX7_stands_24 : decode cX7_stands 24 = .ok (.invokevirtual 49, 3) := by decide +kernel
theorem dX7_stands_27 : decode cX7_stands 27 = .ok (.ireturn, 1) := by decide +kernel
theorem dX7_stands_28 : decode cX7_stands 28 = .ok (.aload_n 0, 1) := by decide +kernel
theorem dX7_stands_29 : decode cX7_stands 29 = .ok (.getfield 12, 3) := by decide +kernel
theorem dX7_stands_32 : decode cX7_stands 32 = .ok (.getfield 89, 3) := by decide +kernel
theorem dX7_stands_35 : decode cX7_stands 35 = .ok (.iload_n 2, 1) := by decide +kernel
theorem dX7_stands_36 : decode cX7_stands 36 = .ok (.invokevirtual 122, 3) := by decide +kernel
theorem dX7_stands_39 : decode cX7_stands 39 = .ok (.aload_n 0, 1) := by decide +kernel
theorem dX7_stands_40 : decode cX7_stands 40 = .ok (.getfield 12, 3) := by decide +kernel
theorem dX7_stands_43 : decode cX7_stands 43 = .ok (.getfield 89, 3) := by decide +kernel
theorem dX7_stands_46 : decode cX7_stands 46 = .ok (.getfield 171, 3) := by decide +kernel
theorem dX7_stands_49 : decode cX7_stands 49 = .ok (.iload_n 1, 1) := by decide +kernel
theorem dX7_stands_50 : decode cX7_stands 50 = .ok (.baload, 1) := by decide +kernel
theorem dX7_stands_51 : decode cX7_stands 51 = .ok (.ifCond .eq 7, 3) := by decide +kernel
theorem dX7_stands_54 : decode cX7_stands 54 = .ok (.iconst 1, 1) := by decide +kernel
theorem dX7_stands_55 : decode cX7_stands 55 = .ok (.goto 4, 3) := by decide +kernel
theorem dX7_stands_58 : decode cX7_stands 58 = .ok (.iconst 0, 1) := by decide +kernel
theorem dX7_stands_59 : decode cX7_stands 59 = .ok (.ireturn, 1) := by decide +kernel
theorem dX7_strike_0 : decode cX7_strike 0 = .ok (.aload_n 0, 1) := by decide +kernel
theorem dX7_strike_1 : decode cX7_strike 1 = .ok (.getfield 12, 3) := by decide +kernel
theorem dX7_strike_4 : decode cX7_strike 4 = .ok (.getfield 53, 3) := by decide +kernel
theorem dX7_strike_7 : decode cX7_strike 7 = .ok (.iload_n 1, 1) := by decide +kernel
theorem dX7_strike_8 : decode cX7_strike 8 = .ok (.invokevirtual 67, 3) := by decide +kernel
theorem dX7_strike_11 : decode cX7_strike 11 = .ok (.ifCond .eq 17, 3) := by decide +kernel
theorem dX7_strike_14 : decode cX7_strike 14 = .ok (.iload_n 2, 1) := by decide +kernel
theorem dX7_strike_15 : decode cX7_strike 15 = .ok (.invokestatic 41, 3) := by decide +kernel
theorem dX7_strike_18 : decode cX7_strike 18 = .ok (.ifCond .eq 10, 3) := by decide +kernel
theorem dX7_strike_21 : decode cX7_strike 21 = .ok (.iload_n 3, 1) := by decide +kernel
theorem dX7_strike_22 : decode cX7_strike 22 = .ok (.invokestatic 41, 3) := by decide +kernel
theorem dX7_strike_25 : decode cX7_strike 25 = .ok (.ifCond .ne 10, 3) := by decide +kernel
theorem dX7_strike_28 : decode cX7_strike 28 = .ok (.aload_n 0, 1) := by decide +kernel
theorem dX7_strike_29 : decode cX7_strike 29 = .ok (.ldc 48, 2) := by decide +kernel
theorem dX7_strike_31 : decode cX7_strike 31 = .ok (.invokevirtual 49, 3) := by decide +kernel
theorem dX7_strike_34 : decode cX7_strike 34 = .ok (.ireturn, 1) := by decide +kernel
theorem dX7_strike_35 : decode cX7_strike 35 = .ok (.aload_n 0, 1) := by decide +kernel
theorem dX7_strike_36 : decode cX7_strike 36 = .ok (.getfield 12, 3) := by decide +kernel
theorem dX7_strike_39 : decode cX7_strike 39 = .ok (.getfield 53, 3) := by decide +kernel
theorem dX7_strike_42 : decode cX7_strike 42 = .ok (.iload_n 1, 1) := by decide +kernel
theorem dX7_strike_43 : decode cX7_strike 43 = .ok (.invokevirtual 175, 3) := by decide +kernel
theorem dX7_strike_46 : decode cX7_strike 46 = .ok (.ifCond .ne 10, 3) := by decide +kernel
theorem dX7_strike_49 : decode cX7_strike 49 = .ok (.aload_n 0, 1) := by decide +kernel
theorem dX7_strike_50 : decode cX7_strike 50 = .ok (.ldc 73, 2) := by decide +kernel
theorem dX7_strike_52 : decode cX7_strike 52 = .ok (.invokevirtual 49, 3) := by decide +kernel
theorem dX7_strike_55 : decode cX7_strike 55 = .ok (.ireturn, 1) := by decide +kernel
theorem dX7_strike_56 : decode cX7_strike 56 = .ok (.aload_n 0, 1) := by decide +kernel
theorem dX7_strike_57 : decode cX7_strike 57 = .ok (.getfield 12, 3) := by decide +kernel
theorem dX7_strike_60 : decode cX7_strike 60 = .ok (.getfield 89, 3) := by decide +kernel
theorem dX7_strike_63 : decode cX7_strike 63 = .ok (.getfield 178, 3) := by decide +kernel
theorem dX7_strike_66 : decode cX7_strike 66 = .ok (.getfield 182, 3) := by decide +kernel
theorem dX7_strike_69 : decode cX7_strike 69 = .ok (.bipush 20, 2) := by decide +kernel
theorem dX7_strike_71 : decode cX7_strike 71 = .ok (.if_icmp .lt 10, 3) := by decide +kernel
theorem dX7_strike_74 : decode cX7_strike 74 = .ok (.aload_n 0, 1) := by decide +kernel
theorem dX7_strike_75 : decode cX7_strike 75 = .ok (.ldc 62, 2) := by decide +kernel
theorem dX7_strike_77 : decode cX7_strike 77 = .ok (.invokevirtual 49, 3) := by decide +kernel
theorem dX7_strike_80 : decode cX7_strike 80 = .ok (.ireturn, 1) := by decide +kernel
theorem dX7_strike_81 : decode cX7_strike 81 = .ok (.aload_n 0, 1) := by decide +kernel
theorem dX7_strike_82 : decode cX7_strike 82 = .ok (.getfield 12, 3) := by decide +kernel
theorem dX7_strike_85 : decode cX7_strike 85 = .ok (.getfield 89, 3) := by decide +kernel
theorem dX7_strike_88 : decode cX7_strike 88 = .ok (.invokevirtual 185, 3) := by decide +kernel
theorem dX7_strike_91 : decode cX7_strike 91 = .ok (.istore 4, 2) := by decide +kernel
theorem dX7_strike_93 : decode cX7_strike 93 = .ok (.aload_n 0, 1) := by decide +kernel
theorem dX7_strike_94 : decode cX7_strike 94 = .ok (.getfield 12, 3) := by decide +kernel
theorem dX7_strike_97 : decode cX7_strike 97 = .ok (.getfield 89, 3) := by decide +kernel
theorem dX7_strike_100 : decode cX7_strike 100 = .ok (.getfield 178, 3) := by decide +kernel
theorem dX7_strike_103 : decode cX7_strike 103 = .ok (.iload_n 1, 1) := by decide +kernel
theorem dX7_strike_104 : decode cX7_strike 104 = .ok (.iload_n 2, 1) := by decide +kernel
theorem dX7_strike_105 : decode cX7_strike 105 = .ok (.iload_n 3, 1) := by decide +kernel
theorem dX7_strike_106 : decode cX7_strike 106 = .ok (.invokevirtual 188, 3) := by decide +kernel
theorem dX7_strike_109 : decode cX7_strike 109 = .ok (.iload 4, 2) := by decide +kernel
theorem dX7_strike_111 : decode cX7_strike 111 = .ok (.aload_n 0, 1) := by decide +kernel
theorem dX7_strike_112 : decode cX7_strike 112 = .ok (.getfield 12, 3) := by decide +kernel
theorem dX7_strike_115 : decode cX7_strike 115 = .ok (.getfield 89, 3) := by decide +kernel
theorem dX7_strike_118 : decode cX7_strike 118 = .ok (.invokevirtual 185, 3) := by decide +kernel
theorem dX7_strike_121 : decode cX7_strike 121 = .ok (.isub, 1) := by decide +kernel
theorem dX7_strike_122 : decode cX7_strike 122 = .ok (.ireturn, 1) := by decide +kernel
theorem dX7_unstrike_0 : decode cX7_unstrike 0 = .ok (.aload_n 0, 1) := by decide +kernel
theorem dX7_unstrike_1 : decode cX7_unstrike 1 = .ok (.getfield 12, 3) := by decide +kernel
theorem dX7_unstrike_4 : decode cX7_unstrike 4 = .ok (.getfield 89, 3) := by decide +kernel
theorem dX7_unstrike_7 : decode cX7_unstrike 7 = .ok (.getfield 178, 3) := by decide +kernel
theorem dX7_unstrike_10 : decode cX7_unstrike 10 = .ok (.getfield 182, 3) := by decide +kernel
theorem dX7_unstrike_13 : decode cX7_unstrike 13 = .ok (.ifCond .gt 10, 3) := by decide +kernel
theorem dX7_unstrike_16 : decode cX7_unstrike 16 = .ok (.aload_n 0, 1) := by decide +kernel
theorem dX7_unstrike_17 : decode cX7_unstrike 17 = .ok (.ldc 121, 2) := by decide +kernel
theorem dX7_unstrike_19 : decode cX7_unstrike 19 = .ok (.invokevirtual 49, 3) := by decide +kernel
theorem dX7_unstrike_22 : decode cX7_unstrike 22 = .ok (.ireturn, 1) := by decide +kernel
theorem dX7_unstrike_23 : decode cX7_unstrike 23 = .ok (.aload_n 0, 1) := by decide +kernel
theorem dX7_unstrike_24 : decode cX7_unstrike 24 = .ok (.getfield 12, 3) := by decide +kernel
theorem dX7_unstrike_27 : decode cX7_unstrike 27 = .ok (.getfield 89, 3) := by decide +kernel
theorem dX7_unstrike_30 : decode cX7_unstrike 30 = .ok (.getfield 178, 3) := by decide +kernel
theorem dX7_unstrike_33 : decode cX7_unstrike 33 = .ok (.dup, 1) := by decide +kernel
theorem dX7_unstrike_34 : decode cX7_unstrike 34 = .ok (.getfield 182, 3) := by decide +kernel
theorem dX7_unstrike_37 : decode cX7_unstrike 37 = .ok (.iconst 1, 1) := by decide +kernel
theorem dX7_unstrike_38 : decode cX7_unstrike 38 = .ok (.isub, 1) := by decide +kernel
theorem dX7_unstrike_39 : decode cX7_unstrike 39 = .ok (.putfield 182, 3) := by decide +kernel
theorem dX7_unstrike_42 : decode cX7_unstrike 42 = .ok (.aload_n 0, 1) := by decide +kernel
theorem dX7_unstrike_43 : decode cX7_unstrike 43 = .ok (.getfield 12, 3) := by decide +kernel
theorem dX7_unstrike_46 : decode cX7_unstrike 46 = .ok (.getfield 89, 3) := by decide +kernel
theorem dX7_unstrike_49 : decode cX7_unstrike 49 = .ok (.getfield 178, 3) := by decide +kernel
theorem dX7_unstrike_52 : decode cX7_unstrike 52 = .ok (.getfield 182, 3) := by decide +kernel
theorem dX7_unstrike_55 : decode cX7_unstrike 55 = .ok (.ireturn, 1) := by decide +kernel
theorem dX7_wait_0 : decode cX7_wait 0 = .ok (.aload_n 0, 1) := by decide +kernel
theorem dX7_wait_1 : decode cX7_wait 1 = .ok (.getfield 12, 3) := by decide +kernel
theorem dX7_wait_4 : decode cX7_wait 4 = .ok (.getfield 53, 3) := by decide +kernel
theorem dX7_wait_7 : decode cX7_wait 7 = .ok (.iload_n 1, 1) := by decide +kernel
theorem dX7_wait_8 : decode cX7_wait 8 = .ok (.invokevirtual 67, 3) := by decide +kernel
theorem dX7_wait_11 : decode cX7_wait 11 = .ok (.ifCond .ne 10, 3) := by decide +kernel
theorem dX7_wait_14 : decode cX7_wait 14 = .ok (.aload_n 0, 1) := by decide +kernel
theorem dX7_wait_15 : decode cX7_wait 15 = .ok (.ldc 48, 2) := by decide +kernel
theorem dX7_wait_17 : decode cX7_wait 17 = .ok (.invokevirtual 49, 3) := by decide +kernel
theorem dX7_wait_20 : decode cX7_wait 20 = .ok (.ireturn, 1) := by decide +kernel
theorem dX7_wait_21 : decode cX7_wait 21 = .ok (.aload_n 0, 1) := by decide +kernel
theorem dX7_wait_22 : decode cX7_wait 22 = .ok (.getfield 19, 3) := by decide +kernel
theorem dX7_wait_25 : decode cX7_wait 25 = .ok (.iload_n 1, 1) := by decide +kernel
theorem dX7_wait_26 : decode cX7_wait 26 = .ok (.invokevirtual 191, 3) := by decide +kernel
theorem dX7_wait_29 : decode cX7_wait 29 = .ok (.ifCond .eq 10, 3) := by decide +kernel
theorem dX7_wait_32 : decode cX7_wait 32 = .ok (.aload_n 0, 1) := by decide +kernel
theorem dX7_wait_33 : decode cX7_wait 33 = .ok (.ldc 151, 2) := by decide +kernel
theorem dX7_wait_35 : decode cX7_wait 35 = .ok (.invokevirtual 49, 3) := by decide +kernel
theorem dX7_wait_38 : decode cX7_wait 38 = .ok (.ireturn, 1) := by decide +kernel
theorem dX7_wait_39 : decode cX7_wait 39 = .ok (.aload_n 0, 1) := by decide +kernel
theorem dX7_wait_40 : decode cX7_wait 40 = .ok (.getfield 19, 3) := by decide +kernel
theorem dX7_wait_43 : decode cX7_wait 43 = .ok (.getfield 192, 3) := by decide +kernel
theorem dX7_wait_46 : decode cX7_wait 46 = .ok (.iconst 4, 1) := by decide +kernel
theorem dX7_wait_47 : decode cX7_wait 47 = .ok (.if_icmp .lt 10, 3) := by decide +kernel
theorem dX7_wait_50 : decode cX7_wait 50 = .ok (.aload_n 0, 1) := by decide +kernel
theorem dX7_wait_51 : decode cX7_wait 51 = .ok (.ldc 62, 2) := by decide +kernel
theorem dX7_wait_53 : decode cX7_wait 53 = .ok (.invokevirtual 49, 3) := by decide +kernel
theorem dX7_wait_56 : decode cX7_wait 56 = .ok (.ireturn, 1) := by decide +kernel
theorem dX7_wait_57 : decode cX7_wait 57 = .ok (.aload_n 0, 1) := by decide +kernel
theorem dX7_wait_58 : decode cX7_wait 58 = .ok (.getfield 19, 3) := by decide +kernel
theorem dX7_wait_61 : decode cX7_wait 61 = .ok (.iload_n 1, 1) := by decide +kernel
theorem dX7_wait_62 : decode cX7_wait 62 = .ok (.invokevirtual 193, 3) := by decide +kernel
theorem dX7_wait_65 : decode cX7_wait 65 = .ok (.aload_n 0, 1) := by decide +kernel
theorem dX7_wait_66 : decode cX7_wait 66 = .ok (.getfield 19, 3) := by decide +kernel
theorem dX7_wait_69 : decode cX7_wait 69 = .ok (.getfield 192, 3) := by decide +kernel
theorem dX7_wait_72 : decode cX7_wait 72 = .ok (.ireturn, 1) := by decide +kernel
theorem dX7_go_0 : decode cX7_go 0 = .ok (.aload_n 0, 1) := by decide +kernel
theorem dX7_go_1 : decode cX7_go 1 = .ok (.getfield 19, 3) := by decide +kernel
theorem dX7_go_4 : decode cX7_go 4 = .ok (.getfield 192, 3) := by decide +kernel
theorem dX7_go_7 : decode cX7_go 7 = .ok (.istore_n 1, 1) := by decide +kernel
theorem dX7_go_8 : decode cX7_go 8 = .ok (.aload_n 0, 1) := by decide +kernel
theorem dX7_go_9 : decode cX7_go 9 = .ok (.getfield 19, 3) := by decide +kernel
theorem dX7_go_12 : decode cX7_go 12 = .ok (.invokevirtual 195, 3) := by decide +kernel
theorem dX7_go_15 : decode cX7_go 15 = .ok (.iload_n 1, 1) := by decide +kernel
theorem dX7_go_16 : decode cX7_go 16 = .ok (.ireturn, 1) := by decide +kernel
theorem dX7_best_0 : decode cX7_best 0 = .ok (.iload_n 1, 1) := by decide +kernel
theorem dX7_best_1 : decode cX7_best 1 = .ok (.invokestatic 83, 3) := by decide +kernel
theorem dX7_best_4 : decode cX7_best 4 = .ok (.ifCond .eq 19, 3) := by decide +kernel
theorem dX7_best_7 : decode cX7_best 7 = .ok (.iload_n 2, 1) := by decide +kernel
theorem dX7_best_8 : decode cX7_best 8 = .ok (.invokestatic 41, 3) := by decide +kernel
theorem dX7_best_11 : decode cX7_best 11 = .ok (.ifCond .eq 12, 3) := by decide +kernel
theorem dX7_best_14 : decode cX7_best 14 = .ok (.iload_n 3, 1) := by decide +kernel
theorem dX7_best_15 : decode cX7_best 15 = .ok (.iconst 1, 1) := by decide +kernel
theorem dX7_best_16 : decode cX7_best 16 = .ok (.iconst 4, 1) := by decide +kernel
theorem dX7_best_17 : decode cX7_best 17 = .ok (.invokestatic 44, 3) := by decide +kernel
theorem dX7_best_20 : decode cX7_best 20 = .ok (.ifCond .ne 10, 3) := by decide +kernel
theorem dX7_best_23 : decode cX7_best 23 = .ok (.aload_n 0, 1) := by decide +kernel
theorem dX7_best_24 : decode cX7_best 24 = .ok (.ldc 48, 2) := by decide +kernel
theorem dX7_best_26 : decode cX7_best 26 = .ok (.invokevirtual 49, 3) := by decide +kernel
theorem dX7_best_29 : decode cX7_best 29 = .ok (.ireturn, 1) := by decide +kernel
theorem dX7_best_30 : decode cX7_best 30 = .ok (.aload_n 0, 1) := by decide +kernel
theorem dX7_best_31 : decode cX7_best 31 = .ok (.getfield 12, 3) := by decide +kernel
theorem dX7_best_34 : decode cX7_best 34 = .ok (.getfield 89, 3) := by decide +kernel
theorem dX7_best_37 : decode cX7_best 37 = .ok (.iload_n 2, 1) := by decide +kernel
theorem dX7_best_38 : decode cX7_best 38 = .ok (.invokevirtual 122, 3) := by decide +kernel
theorem dX7_best_41 : decode cX7_best 41 = .ok (.aload_n 0, 1) := by decide +kernel
theorem dX7_best_42 : decode cX7_best 42 = .ok (.getfield 19, 3) := by decide +kernel
theorem dX7_best_45 : decode cX7_best 45 = .ok (.aload_n 0, 1) := by decide +kernel
theorem dX7_best_46 : decode cX7_best 46 = .ok (.getfield 12, 3) := by decide +kernel
theorem dX7_best_49 : decode cX7_best 49 = .ok (.iload_n 1, 1) := by decide +kernel
theorem dX7_best_50 : decode cX7_best 50 = .ok (.iload_n 2, 1) := by decide +kernel
theorem dX7_best_51 : decode cX7_best 51 = .ok (.iload_n 3, 1) := by decide +kernel
theorem dX7_best_52 : decode cX7_best 52 = .ok (.invokevirtual 198, 3) := by decide +kernel
theorem dX7_best_55 : decode cX7_best 55 = .ok (.ireturn, 1) := by decide +kernel
theorem dX7_given_0 : decode cX7_given 0 = .ok (.iload_n 1, 1) := by decide +kernel
theorem dX7_given_1 : decode cX7_given 1 = .ok (.iconst 0, 1) := by decide +kernel
theorem dX7_given_2 : decode cX7_given 2 = .ok (.aload_n 0, 1) := by decide +kernel
theorem dX7_given_3 : decode cX7_given 3 = .ok (.getfield 19, 3) := by decide +kernel
theorem dX7_given_6 : decode cX7_given 6 = .ok (.getfield 192, 3) := by decide +kernel
theorem dX7_given_9 : decode cX7_given 9 = .ok (.iconst 1, 1) := by decide +kernel
theorem dX7_given_10 : decode cX7_given 10 = .ok (.isub, 1) := by decide +kernel
theorem dX7_given_11 : decode cX7_given 11 = .ok (.invokestatic 44, 3) := by decide +kernel
theorem dX7_given_14 : decode cX7_given 14 = .ok (.ifCond .ne 10, 3) := by decide +kernel
theorem dX7_given_17 : decode cX7_given 17 = .ok (.aload_n 0, 1) := by decide +kernel
theorem dX7_given_18 : decode cX7_given 18 = .ok (.ldc 48, 2) := by decide +kernel
theorem dX7_given_20 : decode cX7_given 20 = .ok (.invokevirtual 49, 3) := by decide +kernel
theorem dX7_given_23 : decode cX7_given 23 = .ok (.ireturn, 1) := by decide +kernel
theorem dX7_given_24 : decode cX7_given 24 = .ok (.aload_n 0, 1) := by decide +kernel
theorem dX7_given_25 : decode cX7_given 25 = .ok (.getfield 19, 3) := by decide +kernel
theorem dX7_given_28 : decode cX7_given 28 = .ok (.getfield 202, 3) := by decide +kernel
theorem dX7_given_31 : decode cX7_given 31 = .ok (.ifCond .ne 10, 3) := by decide +kernel
theorem dX7_given_34 : decode cX7_given 34 = .ok (.aload_n 0, 1) := by decide +kernel
theorem dX7_given_35 : decode cX7_given 35 = .ok (.ldc 151, 2) := by decide +kernel
theorem dX7_given_37 : decode cX7_given 37 = .ok (.invokevirtual 49, 3) := by decide +kernel
theorem dX7_given_40 : decode cX7_given 40 = .ok (.ireturn, 1) := by decide +kernel
theorem dX7_given_41 : decode cX7_given 41 = .ok (.aload_n 0, 1) := by decide +kernel
theorem dX7_given_42 : decode cX7_given 42 = .ok (.getfield 19, 3) := by decide +kernel
theorem dX7_given_45 : decode cX7_given 45 = .ok (.getfield 206, 3) := by decide +kernel
theorem dX7_given_48 : decode cX7_given 48 = .ok (.iload_n 1, 1) := by decide +kernel
theorem dX7_given_49 : decode cX7_given 49 = .ok (.iaload, 1) := by decide +kernel
theorem dX7_given_50 : decode cX7_given 50 = .ok (.ireturn, 1) := by decide +kernel
theorem dX7_exam_0 : decode cX7_exam 0 = .ok (.aload_n 0, 1) := by decide +kernel
theorem dX7_exam_1 : decode cX7_exam 1 = .ok (.getfield 26, 3) := by decide +kernel
theorem dX7_exam_4 : decode cX7_exam 4 = .ok (.getfield 209, 3) := by decide +kernel
theorem dX7_exam_7 : decode cX7_exam 7 = .ok (.bipush 20, 2) := by decide +kernel
theorem dX7_exam_9 : decode cX7_exam 9 = .ok (.if_icmp .lt 10, 3) := by decide +kernel
theorem dX7_exam_12 : decode cX7_exam 12 = .ok (.aload_n 0, 1) := by decide +kernel
theorem dX7_exam_13 : decode cX7_exam 13 = .ok (.ldc 62, 2) := by decide +kernel
theorem dX7_exam_15 : decode cX7_exam 15 = .ok (.invokevirtual 49, 3) := by decide +kernel
theorem dX7_exam_18 : decode cX7_exam 18 = .ok (.ireturn, 1) := by decide +kernel
theorem dX7_exam_19 : decode cX7_exam 19 = .ok (.aload_n 0, 1) := by decide +kernel
theorem dX7_exam_20 : decode cX7_exam 20 = .ok (.getfield 26, 3) := by decide +kernel
theorem dX7_exam_23 : decode cX7_exam 23 = .ok (.invokevirtual 210, 3) := by decide +kernel
theorem dX7_exam_26 : decode cX7_exam 26 = .ok (.ireturn, 1) := by decide +kernel
theorem dX7_mark_0 : decode cX7_mark 0 = .ok (.aload_n 0, 1) := by decide +kernel
theorem dX7_mark_1 : decode cX7_mark 1 = .ok (.getfield 26, 3) := by decide +kernel
theorem dX7_mark_4 : decode cX7_mark 4 = .ok (.iload_n 1, 1) := by decide +kernel
theorem dX7_mark_5 : decode cX7_mark 5 = .ok (.invokevirtual 212, 3) := by decide +kernel
theorem dX7_mark_8 : decode cX7_mark 8 = .ok (.ifCond .eq 27, 3) := by decide +kernel
theorem dX7_mark_11 : decode cX7_mark 11 = .ok (.aload_n 0, 1) := by decide +kernel
theorem dX7_mark_12 : decode cX7_mark 12 = .ok (.getfield 12, 3) := by decide +kernel
theorem dX7_mark_15 : decode cX7_mark 15 = .ok (.getfield 53, 3) := by decide +kernel
theorem dX7_mark_18 : decode cX7_mark 18 = .ok (.iload_n 2, 1) := by decide +kernel
theorem dX7_mark_19 : decode cX7_mark 19 = .ok (.invokevirtual 67, 3) := by decide +kernel
theorem dX7_mark_22 : decode cX7_mark 22 = .ok (.ifCond .eq 13, 3) := by decide +kernel
theorem dX7_mark_25 : decode cX7_mark 25 = .ok (.iload_n 3, 1) := by decide +kernel
theorem dX7_mark_26 : decode cX7_mark 26 = .ok (.iconst 0, 1) := by decide +kernel
theorem dX7_mark_27 : decode cX7_mark 27 = .ok (.bipush 100, 2) := by decide +kernel
theorem dX7_mark_29 : decode cX7_mark 29 = .ok (.invokestatic 44, 3) := by decide +kernel
theorem dX7_mark_32 : decode cX7_mark 32 = .ok (.ifCond .ne 10, 3) := by decide +kernel
theorem dX7_mark_35 : decode cX7_mark 35 = .ok (.aload_n 0, 1) := by decide +kernel
theorem dX7_mark_36 : decode cX7_mark 36 = .ok (.ldc 48, 2) := by decide +kernel
theorem dX7_mark_38 : decode cX7_mark 38 = .ok (.invokevirtual 49, 3) := by decide +kernel
theorem dX7_mark_41 : decode cX7_mark 41 = .ok (.ireturn, 1) := by decide +kernel
theorem dX7_mark_42 : decode cX7_mark 42 = .ok (.aload_n 0, 1) := by decide +kernel
theorem dX7_mark_43 : decode cX7_mark 43 = .ok (.getfield 12, 3) := by decide +kernel
theorem dX7_mark_46 : decode cX7_mark 46 = .ok (.getfield 53, 3) := by decide +kernel
theorem dX7_mark_49 : decode cX7_mark 49 = .ok (.iload_n 2, 1) := by decide +kernel
theorem dX7_mark_50 : decode cX7_mark 50 = .ok (.invokevirtual 175, 3) := by decide +kernel
theorem dX7_mark_53 : decode cX7_mark 53 = .ok (.ifCond .ne 10, 3) := by decide +kernel
theorem dX7_mark_56 : decode cX7_mark 56 = .ok (.aload_n 0, 1) := by decide +kernel
theorem dX7_mark_57 : decode cX7_mark 57 = .ok (.ldc 73, 2) := by decide +kernel
theorem dX7_mark_59 : decode cX7_mark 59 = .ok (.invokevirtual 49, 3) := by decide +kernel
theorem dX7_mark_62 : decode cX7_mark 62 = .ok (.ireturn, 1) := by decide +kernel
theorem dX7_mark_63 : decode cX7_mark 63 = .ok (.aload_n 0, 1) := by decide +kernel
theorem dX7_mark_64 : decode cX7_mark 64 = .ok (.getfield 26, 3) := by decide +kernel
theorem dX7_mark_67 : decode cX7_mark 67 = .ok (.iload_n 1, 1) := by decide +kernel
theorem dX7_mark_68 : decode cX7_mark 68 = .ok (.iload_n 2, 1) := by decide +kernel
theorem dX7_mark_69 : decode cX7_mark 69 = .ok (.invokevirtual 213, 3) := by decide +kernel
theorem dX7_mark_72 : decode cX7_mark 72 = .ok (.istore 4, 2) := by decide +kernel
theorem dX7_mark_74 : decode cX7_mark 74 = .ok (.iload 4, 2) := by decide +kernel
theorem dX7_mark_76 : decode cX7_mark 76 = .ok (.iconst 5, 1) := by decide +kernel
theorem dX7_mark_77 : decode cX7_mark 77 = .ok (.if_icmp .lt 10, 3) := by decide +kernel
theorem dX7_mark_80 : decode cX7_mark 80 = .ok (.aload_n 0, 1) := by decide +kernel
theorem dX7_mark_81 : decode cX7_mark 81 = .ok (.ldc 62, 2) := by decide +kernel
theorem dX7_mark_83 : decode cX7_mark 83 = .ok (.invokevirtual 49, 3) := by decide +kernel
theorem dX7_mark_86 : decode cX7_mark 86 = .ok (.ireturn, 1) := by decide +kernel
theorem dX7_mark_87 : decode cX7_mark 87 = .ok (.aload_n 0, 1) := by decide +kernel
theorem dX7_mark_88 : decode cX7_mark 88 = .ok (.getfield 26, 3) := by decide +kernel
theorem dX7_mark_91 : decode cX7_mark 91 = .ok (.iload_n 1, 1) := by decide +kernel
theorem dX7_mark_92 : decode cX7_mark 92 = .ok (.iload 4, 2) := by decide +kernel
theorem dX7_mark_94 : decode cX7_mark 94 = .ok (.iload_n 2, 1) := by decide +kernel
theorem dX7_mark_95 : decode cX7_mark 95 = .ok (.iload_n 3, 1) := by decide +kernel
theorem dX7_mark_96 : decode cX7_mark 96 = .ok (.invokevirtual 217, 3) := by decide +kernel
theorem dX7_mark_99 : decode cX7_mark 99 = .ok (.ireturn, 1) := by decide +kernel
theorem dX7_middle_0 : decode cX7_middle 0 = .ok (.aload_n 0, 1) := by decide +kernel
theorem dX7_middle_1 : decode cX7_middle 1 = .ok (.getfield 26, 3) := by decide +kernel
theorem dX7_middle_4 : decode cX7_middle 4 = .ok (.iload_n 1, 1) := by decide +kernel
theorem dX7_middle_5 : decode cX7_middle 5 = .ok (.invokevirtual 212, 3) := by decide +kernel
theorem dX7_middle_8 : decode cX7_middle 8 = .ok (.ifCond .ne 10, 3) := by decide +kernel
theorem dX7_middle_11 : decode cX7_middle 11 = .ok (.aload_n 0, 1) := by decide +kernel
theorem dX7_middle_12 : decode cX7_middle 12 = .ok (.ldc 48, 2) := by decide +kernel
theorem dX7_middle_14 : decode cX7_middle 14 = .ok (.invokevirtual 49, 3) := by decide +kernel
theorem dX7_middle_17 : decode cX7_middle 17 = .ok (.ireturn, 1) := by decide +kernel
theorem dX7_middle_18 : decode cX7_middle 18 = .ok (.aload_n 0, 1) := by decide +kernel
theorem dX7_middle_19 : decode cX7_middle 19 = .ok (.getfield 26, 3) := by decide +kernel
theorem dX7_middle_22 : decode cX7_middle 22 = .ok (.iload_n 1, 1) := by decide +kernel
theorem dX7_middle_23 : decode cX7_middle 23 = .ok (.invokevirtual 220, 3) := by decide +kernel
theorem dX7_middle_26 : decode cX7_middle 26 = .ok (.ifCond .ne 10, 3) := by decide +kernel
theorem dX7_middle_29 : decode cX7_middle 29 = .ok (.aload_n 0, 1) := by decide +kernel
theorem dX7_middle_30 : decode cX7_middle 30 = .ok (.ldc 151, 2) := by decide +kernel
theorem dX7_middle_32 : decode cX7_middle 32 = .ok (.invokevirtual 49, 3) := by decide +kernel
theorem dX7_middle_35 : decode cX7_middle 35 = .ok (.ireturn, 1) := by decide +kernel
theorem dX7_middle_36 : decode cX7_middle 36 = .ok (.aload_n 0, 1) := by decide +kernel
theorem dX7_middle_37 : decode cX7_middle 37 = .ok (.getfield 26, 3) := by decide +kernel
theorem dX7_middle_40 : decode cX7_middle 40 = .ok (.iload_n 1, 1) := by decide +kernel
theorem dX7_middle_41 : decode cX7_middle 41 = .ok (.invokevirtual 223, 3) := by decide +kernel
theorem dX7_middle_44 : decode cX7_middle 44 = .ok (.ireturn, 1) := by decide +kernel
theorem dX7_apart_0 : decode cX7_apart 0 = .ok (.aload_n 0, 1) := by decide +kernel
theorem dX7_apart_1 : decode cX7_apart 1 = .ok (.getfield 26, 3) := by decide +kernel
theorem dX7_apart_4 : decode cX7_apart 4 = .ok (.iload_n 1, 1) := by decide +kernel
theorem dX7_apart_5 : decode cX7_apart 5 = .ok (.invokevirtual 212, 3) := by decide +kernel
theorem dX7_apart_8 : decode cX7_apart 8 = .ok (.ifCond .eq 13, 3) := by decide +kernel
theorem dX7_apart_11 : decode cX7_apart 11 = .ok (.iload_n 2, 1) := by decide +kernel
theorem dX7_apart_12 : decode cX7_apart 12 = .ok (.iconst 0, 1) := by decide +kernel
theorem dX7_apart_13 : decode cX7_apart 13 = .ok (.bipush 100, 2) := by decide +kernel
theorem dX7_apart_15 : decode cX7_apart 15 = .ok (.invokestatic 44, 3) := by decide +kernel
theorem dX7_apart_18 : decode cX7_apart 18 = .ok (.ifCond .ne 10, 3) := by decide +kernel
theorem dX7_apart_21 : decode cX7_apart 21 = .ok (.aload_n 0, 1) := by decide +kernel
theorem dX7_apart_22 : decode cX7_apart 22 = .ok (.ldc 48, 2) := by decide +kernel
theorem dX7_apart_24 : decode cX7_apart 24 = .ok (.invokevirtual 49, 3) := by decide +kernel
theorem dX7_apart_27 : decode cX7_apart 27 = .ok (.ireturn, 1) := by decide +kernel
theorem dX7_apart_28 : decode cX7_apart 28 = .ok (.aload_n 0, 1) := by decide +kernel
theorem dX7_apart_29 : decode cX7_apart 29 = .ok (.getfield 26, 3) := by decide +kernel
theorem dX7_apart_32 : decode cX7_apart 32 = .ok (.iload_n 1, 1) := by decide +kernel
theorem dX7_apart_33 : decode cX7_apart 33 = .ok (.invokevirtual 220, 3) := by decide +kernel
theorem dX7_apart_36 : decode cX7_apart 36 = .ok (.ifCond .ne 10, 3) := by decide +kernel
theorem dX7_apart_39 : decode cX7_apart 39 = .ok (.aload_n 0, 1) := by decide +kernel
theorem dX7_apart_40 : decode cX7_apart 40 = .ok (.ldc 151, 2) := by decide +kernel
theorem dX7_apart_42 : decode cX7_apart 42 = .ok (.invokevirtual 49, 3) := by decide +kernel
theorem dX7_apart_45 : decode cX7_apart 45 = .ok (.ireturn, 1) := by decide +kernel
theorem dX7_apart_46 : decode cX7_apart 46 = .ok (.aload_n 0, 1) := by decide +kernel
theorem dX7_apart_47 : decode cX7_apart 47 = .ok (.getfield 26, 3) := by decide +kernel
theorem dX7_apart_50 : decode cX7_apart 50 = .ok (.iload_n 1, 1) := by decide +kernel
theorem dX7_apart_51 : decode cX7_apart 51 = .ok (.iload_n 2, 1) := by decide +kernel
theorem dX7_apart_52 : decode cX7_apart 52 = .ok (.invokevirtual 226, 3) := by decide +kernel
theorem dX7_apart_55 : decode cX7_apart 55 = .ok (.ireturn, 1) := by decide +kernel
theorem dX7_hard_0 : decode cX7_hard 0 = .ok (.aload_n 0, 1) := by decide +kernel
theorem dX7_hard_1 : decode cX7_hard 1 = .ok (.getfield 12, 3) := by decide +kernel
theorem dX7_hard_4 : decode cX7_hard 4 = .ok (.getfield 53, 3) := by decide +kernel
theorem dX7_hard_7 : decode cX7_hard 7 = .ok (.iload_n 1, 1) := by decide +kernel
theorem dX7_hard_8 : decode cX7_hard 8 = .ok (.invokevirtual 67, 3) := by decide +kernel
theorem dX7_hard_11 : decode cX7_hard 11 = .ok (.ifCond .ne 10, 3) := by decide +kernel
theorem dX7_hard_14 : decode cX7_hard 14 = .ok (.aload_n 0, 1) := by decide +kernel
theorem dX7_hard_15 : decode cX7_hard 15 = .ok (.ldc 48, 2) := by decide +kernel
theorem dX7_hard_17 : decode cX7_hard 17 = .ok (.invokevirtual 49, 3) := by decide +kernel
theorem dX7_hard_20 : decode cX7_hard 20 = .ok (.ireturn, 1) := by decide +kernel
theorem dX7_hard_21 : decode cX7_hard 21 = .ok (.aload_n 0, 1) := by decide +kernel
theorem dX7_hard_22 : decode cX7_hard 22 = .ok (.getfield 12, 3) := by decide +kernel
theorem dX7_hard_25 : decode cX7_hard 25 = .ok (.getfield 53, 3) := by decide +kernel
theorem dX7_hard_28 : decode cX7_hard 28 = .ok (.iload_n 1, 1) := by decide +kernel
theorem dX7_hard_29 : decode cX7_hard 29 = .ok (.invokevirtual 175, 3) := by decide +kernel
theorem dX7_hard_32 : decode cX7_hard 32 = .ok (.ifCond .ne 10, 3) := by decide +kernel
theorem dX7_hard_35 : decode cX7_hard 35 = .ok (.aload_n 0, 1) := by decide +kernel
theorem dX7_hard_36 : decode cX7_hard 36 = .ok (.ldc 73, 2) := by decide +kernel
theorem dX7_hard_38 : decode cX7_hard 38 = .ok (.invokevirtual 49, 3) := by decide +kernel
theorem dX7_hard_41 : decode cX7_hard 41 = .ok (.ireturn, 1) := by decide +kernel
theorem dX7_hard_42 : decode cX7_hard 42 = .ok (.aload_n 0, 1) := by decide +kernel
theorem dX7_hard_43 : decode cX7_hard 43 = .ok (.getfield 26, 3) := by decide +kernel
theorem dX7_hard_46 : decode cX7_hard 46 = .ok (.iload_n 1, 1) := by decide +kernel
theorem dX7_hard_47 : decode cX7_hard 47 = .ok (.invokevirtual 229, 3) := by decide +kernel
theorem dX7_hard_50 : decode cX7_hard 50 = .ok (.ireturn, 1) := by decide +kernel
theorem dX7_tell_0 : decode cX7_tell 0 = .ok (.aload_n 0, 1) := by decide +kernel
theorem dX7_tell_1 : decode cX7_tell 1 = .ok (.getfield 232, 3) := by decide +kernel
theorem dX7_tell_4 : decode cX7_tell 4 = .ok (.bipush 20, 2) := by decide +kernel
theorem dX7_tell_6 : decode cX7_tell 6 = .ok (.if_icmp .lt 10, 3) := by decide +kernel
theorem dX7_tell_9 : decode cX7_tell 9 = .ok (.aload_n 0, 1) := by decide +kernel
theorem dX7_tell_10 : decode cX7_tell 10 = .ok (.ldc 62, 2) := by decide +kernel
theorem dX7_tell_12 : decode cX7_tell 12 = .ok (.invokevirtual 49, 3) := by decide +kernel
theorem dX7_tell_15 : decode cX7_tell 15 = .ok (.ireturn, 1) := by decide +kernel
theorem dX7_tell_16 : decode cX7_tell 16 = .ok (.aload_n 0, 1) := by decide +kernel
theorem dX7_tell_17 : decode cX7_tell 17 = .ok (.getfield 30, 3) := by decide +kernel
theorem dX7_tell_20 : decode cX7_tell 20 = .ok (.aload_n 0, 1) := by decide +kernel
theorem dX7_tell_21 : decode cX7_tell 21 = .ok (.getfield 232, 3) := by decide +kernel
theorem dX7_tell_24 : decode cX7_tell 24 = .ok (.iload_n 1, 1) := by decide +kernel
theorem dX7_tell_25 : decode cX7_tell 25 = .ok (.iastore, 1) := by decide +kernel
theorem dX7_tell_26 : decode cX7_tell 26 = .ok (.aload_n 0, 1) := by decide +kernel
theorem dX7_tell_27 : decode cX7_tell 27 = .ok (.dup, 1) := by decide +kernel
theorem dX7_tell_28 : decode cX7_tell 28 = .ok (.getfield 232, 3) := by decide +kernel
theorem dX7_tell_31 : decode cX7_tell 31 = .ok (.iconst 1, 1) := by decide +kernel
theorem dX7_tell_32 : decode cX7_tell 32 = .ok (.iadd, 1) := by decide +kernel
theorem dX7_tell_33 : decode cX7_tell 33 = .ok (.putfield 232, 3) := by decide +kernel
theorem dX7_tell_36 : decode cX7_tell 36 = .ok (.aload_n 0, 1) := by decide +kernel
theorem dX7_tell_37 : decode cX7_tell 37 = .ok (.getfield 232, 3) := by decide +kernel
theorem dX7_tell_40 : decode cX7_tell 40 = .ok (.ireturn, 1) := by decide +kernel
theorem dX7_check_0 : decode cX7_check 0 = .ok (.aload_n 0, 1) := by decide +kernel
theorem dX7_check_1 : decode cX7_check 1 = .ok (.getfield 232, 3) := by decide +kernel
theorem dX7_check_4 : decode cX7_check 4 = .ok (.istore_n 2, 1) := by decide +kernel
theorem dX7_check_5 : decode cX7_check 5 = .ok (.aload_n 0, 1) := by decide +kernel
theorem dX7_check_6 : decode cX7_check 6 = .ok (.iconst 0, 1) := by decide +kernel
theorem dX7_check_7 : decode cX7_check 7 = .ok (.putfield 232, 3) := by decide +kernel
theorem dX7_check_10 : decode cX7_check 10 = .ok (.iload_n 1, 1) := by decide +kernel
theorem dX7_check_11 : decode cX7_check 11 = .ok (.invokestatic 41, 3) := by decide +kernel
theorem dX7_check_14 : decode cX7_check 14 = .ok (.ifCond .ne 10, 3) := by decide +kernel
theorem dX7_check_17 : decode cX7_check 17 = .ok (.aload_n 0, 1) := by decide +kernel
theorem dX7_check_18 : decode cX7_check 18 = .ok (.ldc 48, 2) := by decide +kernel
theorem dX7_check_20 : decode cX7_check 20 = .ok (.invokevirtual 49, 3) := by decide +kernel
theorem dX7_check_23 : decode cX7_check 23 = .ok (.ireturn, 1) := by decide +kernel
theorem dX7_check_24 : decode cX7_check 24 = .ok (.aload_n 0, 1) := by decide +kernel
theorem dX7_check_25 : decode cX7_check 25 = .ok (.getfield 12, 3) := by decide +kernel
theorem dX7_check_28 : decode cX7_check 28 = .ok (.getfield 89, 3) := by decide +kernel
theorem dX7_check_31 : decode cX7_check 31 = .ok (.iload_n 1, 1) := by decide +kernel
theorem dX7_check_32 : decode cX7_check 32 = .ok (.invokevirtual 122, 3) := by decide +kernel
theorem dX7_check_35 : decode cX7_check 35 = .ok (.iconst 0, 1) := by decide +kernel
theorem dX7_check_36 : decode cX7_check 36 = .ok (.istore_n 3, 1) := by decide +kernel
theorem dX7_check_37 : decode cX7_check 37 = .ok (.iconst 0, 1) := by decide +kernel
theorem dX7_check_38 : decode cX7_check 38 = .ok (.istore 4, 2) := by decide +kernel
theorem dX7_check_40 : decode cX7_check 40 = .ok (.iload 4, 2) := by decide +kernel
theorem dX7_check_42 : decode cX7_check 42 = .ok (.aload_n 0, 1) := by decide +kernel
theorem dX7_check_43 : decode cX7_check 43 = .ok (.getfield 12, 3) := by decide +kernel
theorem dX7_check_46 : decode cX7_check 46 = .ok (.getfield 89, 3) := by decide +kernel
theorem dX7_check_49 : decode cX7_check 49 = .ok (.getfield 152, 3) := by decide +kernel
theorem dX7_check_52 : decode cX7_check 52 = .ok (.if_icmp .ge 48, 3) := by decide +kernel
theorem dX7_check_55 : decode cX7_check 55 = .ok (.aload_n 0, 1) := by decide +kernel
theorem dX7_check_56 : decode cX7_check 56 = .ok (.getfield 12, 3) := by decide +kernel
theorem dX7_check_59 : decode cX7_check 59 = .ok (.getfield 89, 3) := by decide +kernel
theorem dX7_check_62 : decode cX7_check 62 = .ok (.getfield 171, 3) := by decide +kernel
theorem dX7_check_65 : decode cX7_check 65 = .ok (.iload 4, 2) := by decide +kernel
theorem dX7_check_67 : decode cX7_check 67 = .ok (.baload, 1) := by decide +kernel
theorem dX7_check_68 : decode cX7_check 68 = .ok (.ifCond .eq 26, 3) := by decide +kernel
theorem dX7_check_71 : decode cX7_check 71 = .ok (.iload_n 3, 1) := by decide +kernel
theorem dX7_check_72 : decode cX7_check 72 = .ok (.iload_n 2, 1) := by decide +kernel
theorem dX7_check_73 : decode cX7_check 73 = .ok (.if_icmp .ge 14, 3) := by decide +kernel
theorem dX7_check_76 : decode cX7_check 76 = .ok (.aload_n 0, 1) := by decide +kernel
theorem dX7_check_77 : decode cX7_check 77 = .ok (.getfield 30, 3) := by decide +kernel
theorem dX7_check_80 : decode cX7_check 80 = .ok (.iload_n 3, 1) := by decide +kernel
theorem dX7_check_81 : decode cX7_check 81 = .ok (.iaload, 1) := by decide +kernel
theorem dX7_check_82 : decode cX7_check 82 = .ok (.iload 4, 2) := by decide +kernel
theorem dX7_check_84 : decode cX7_check 84 = .ok (.if_icmp .eq 7, 3) := by decide +kernel
theorem dX7_check_87 : decode cX7_check 87 = .ok (.iconst 1, 1) := by decide +kernel
theorem dX7_check_88 : decode cX7_check 88 = .ok (.iload_n 3, 1) := by decide +kernel
theorem dX7_check_89 : decode cX7_check 89 = .ok (.iadd, 1) := by decide +kernel
theorem dX7_check_90 : decode cX7_check 90 = .ok (.ireturn, 1) := by decide +kernel
theorem dX7_check_91 : decode cX7_check 91 = .ok (.iinc 3 1, 3) := by decide +kernel
theorem dX7_check_94 : decode cX7_check 94 = .ok (.iinc 4 1, 3) := by decide +kernel
theorem dX7_check_97 : decode cX7_check 97 = .ok (.goto (-57), 3) := by decide +kernel
theorem dX7_check_100 : decode cX7_check 100 = .ok (.iload_n 3, 1) := by decide +kernel
theorem dX7_check_101 : decode cX7_check 101 = .ok (.iload_n 2, 1) := by decide +kernel
theorem dX7_check_102 : decode cX7_check 102 = .ok (.if_icmp .ge 8, 3) := by decide +kernel
theorem dX7_check_105 : decode cX7_check 105 = .ok (.bipush 99, 2) := by decide +kernel
theorem dX7_check_107 : decode cX7_check 107 = .ok (.goto 4, 3) := by decide +kernel
theorem dX7_check_110 : decode cX7_check 110 = .ok (.iconst 0, 1) := by decide +kernel
theorem dX7_check_111 : decode cX7_check 111 = .ok (.ireturn, 1) := by decide +kernel
theorem dX7_count_0 : decode cX7_count 0 = .ok (.iload_n 1, 1) := by decide +kernel
theorem dX7_count_1 : decode cX7_count 1 = .ok (.tableswitch 111 0 6 #[43, 54, 65, 76, 90, 98, 106], 43) := by decide +kernel
theorem dX7_count_44 : decode cX7_count 44 = .ok (.aload_n 0, 1) := by decide +kernel
theorem dX7_count_45 : decode cX7_count 45 = .ok (.getfield 12, 3) := by decide +kernel
theorem dX7_count_48 : decode cX7_count 48 = .ok (.getfield 53, 3) := by decide +kernel
theorem dX7_count_51 : decode cX7_count 51 = .ok (.getfield 235, 3) := by decide +kernel
theorem dX7_count_54 : decode cX7_count 54 = .ok (.ireturn, 1) := by decide +kernel
theorem dX7_count_55 : decode cX7_count 55 = .ok (.aload_n 0, 1) := by decide +kernel
theorem dX7_count_56 : decode cX7_count 56 = .ok (.getfield 12, 3) := by decide +kernel
theorem dX7_count_59 : decode cX7_count 59 = .ok (.getfield 105, 3) := by decide +kernel
theorem dX7_count_62 : decode cX7_count 62 = .ok (.getfield 109, 3) := by decide +kernel
theorem dX7_count_65 : decode cX7_count 65 = .ok (.ireturn, 1) := by decide +kernel
theorem dX7_count_66 : decode cX7_count 66 = .ok (.aload_n 0, 1) := by decide +kernel
theorem dX7_count_67 : decode cX7_count 67 = .ok (.getfield 12, 3) := by decide +kernel
theorem dX7_count_70 : decode cX7_count 70 = .ok (.getfield 89, 3) := by decide +kernel
theorem dX7_count_73 : decode cX7_count 73 = .ok (.getfield 152, 3) := by decide +kernel
theorem dX7_count_76 : decode cX7_count 76 = .ok (.ireturn, 1) := by decide +kernel
theorem dX7_count_77 : decode cX7_count 77 = .ok (.aload_n 0, 1) := by decide +kernel
theorem dX7_count_78 : decode cX7_count 78 = .ok (.getfield 12, 3) := by decide +kernel
theorem dX7_count_81 : decode cX7_count 81 = .ok (.getfield 89, 3) := by decide +kernel
theorem dX7_count_84 : decode cX7_count 84 = .ok (.getfield 178, 3) := by decide +kernel
theorem dX7_count_87 : decode cX7_count 87 = .ok (.getfield 182, 3) := by decide +kernel
theorem dX7_count_90 : decode cX7_count 90 = .ok (.ireturn, 1) := by decide +kernel
theorem dX7_count_91 : decode cX7_count 91 = .ok (.aload_n 0, 1) := by decide +kernel
theorem dX7_count_92 : decode cX7_count 92 = .ok (.getfield 26, 3) := by decide +kernel
theorem dX7_count_95 : decode cX7_count 95 = .ok (.getfield 209, 3) := by decide +kernel
theorem dX7_count_98 : decode cX7_count 98 = .ok (.ireturn, 1) := by decide +kernel
theorem dX7_count_99 : decode cX7_count 99 = .ok (.aload_n 0, 1) := by decide +kernel
theorem dX7_count_100 : decode cX7_count 100 = .ok (.getfield 19, 3) := by decide +kernel
theorem dX7_count_103 : decode cX7_count 103 = .ok (.getfield 192, 3) := by decide +kernel
theorem dX7_count_106 : decode cX7_count 106 = .ok (.ireturn, 1) := by decide +kernel
theorem dX7_count_107 : decode cX7_count 107 = .ok (.aload_n 0, 1) := by decide +kernel
theorem dX7_count_108 : decode cX7_count 108 = .ok (.getfield 232, 3) := by decide +kernel
theorem dX7_count_111 : decode cX7_count 111 = .ok (.ireturn, 1) := by decide +kernel
theorem dX7_count_112 : decode cX7_count 112 = .ok (.aload_n 0, 1) := by decide +kernel
theorem dX7_count_113 : decode cX7_count 113 = .ok (.ldc 48, 2) := by decide +kernel
theorem dX7_count_115 : decode cX7_count 115 = .ok (.invokevirtual 49, 3) := by decide +kernel
theorem dX7_count_118 : decode cX7_count 118 = .ok (.ireturn, 1) := by decide +kernel
theorem dX7_found_0 : decode cX7_found 0 = .ok (.iload_n 1, 1) := by decide +kernel
theorem dX7_found_1 : decode cX7_found 1 = .ok (.iconst 1, 1) := by decide +kernel
theorem dX7_found_2 : decode cX7_found 2 = .ok (.iconst 5, 1) := by decide +kernel
theorem dX7_found_3 : decode cX7_found 3 = .ok (.invokestatic 44, 3) := by decide +kernel
theorem dX7_found_6 : decode cX7_found 6 = .ok (.ifCond .ne 10, 3) := by decide +kernel
theorem dX7_found_9 : decode cX7_found 9 = .ok (.aload_n 0, 1) := by decide +kernel
theorem dX7_found_10 : decode cX7_found 10 = .ok (.ldc 48, 2) := by decide +kernel
theorem dX7_found_12 : decode cX7_found 12 = .ok (.invokevirtual 49, 3) := by decide +kernel
theorem dX7_found_15 : decode cX7_found 15 = .ok (.ireturn, 1) := by decide +kernel
theorem dX7_found_16 : decode cX7_found 16 = .ok (.aload_n 0, 1) := by decide +kernel
theorem dX7_found_17 : decode cX7_found 17 = .ok (.getfield 34, 3) := by decide +kernel
theorem dX7_found_20 : decode cX7_found 20 = .ok (.iload_n 1, 1) := by decide +kernel
theorem dX7_found_21 : decode cX7_found 21 = .ok (.iaload, 1) := by decide +kernel
theorem dX7_found_22 : decode cX7_found 22 = .ok (.ireturn, 1) := by decide +kernel
theorem dX7_finding_0 : decode cX7_finding 0 = .ok (.ldc 236, 2) := by decide +kernel
theorem dX7_finding_2 : decode cX7_finding 2 = .ok (.iload_n 1, 1) := by decide +kernel
theorem dX7_finding_3 : decode cX7_finding 3 = .ok (.isub, 1) := by decide +kernel
theorem dX7_finding_4 : decode cX7_finding 4 = .ok (.istore_n 2, 1) := by decide +kernel
theorem dX7_finding_5 : decode cX7_finding 5 = .ok (.iload_n 2, 1) := by decide +kernel
theorem dX7_finding_6 : decode cX7_finding 6 = .ok (.iconst 1, 1) := by decide +kernel
theorem dX7_finding_7 : decode cX7_finding 7 = .ok (.iconst 5, 1) := by decide +kernel
theorem dX7_finding_8 : decode cX7_finding 8 = .ok (.invokestatic 44, 3) := by decide +kernel
theorem dX7_finding_11 : decode cX7_finding 11 = .ok (.ifCond .eq 13, 3) := by decide +kernel
theorem dX7_finding_14 : decode cX7_finding 14 = .ok (.aload_n 0, 1) := by decide +kernel
theorem dX7_finding_15 : decode cX7_finding 15 = .ok (.getfield 34, 3) := by decide +kernel
theorem dX7_finding_18 : decode cX7_finding 18 = .ok (.iload_n 2, 1) := by decide +kernel
theorem dX7_finding_19 : decode cX7_finding 19 = .ok (.dup2, 1) := by decide +kernel
theorem dX7_finding_20 : decode cX7_finding 20 = .ok (.iaload, 1) := by decide +kernel
theorem dX7_finding_21 : decode cX7_finding 21 = .ok (.iconst 1, 1) := by decide +kernel
theorem dX7_finding_22 : decode cX7_finding 22 = .ok (.iadd, 1) := by decide +kernel
theorem dX7_finding_23 : decode cX7_finding 23 = .ok (.iastore, 1) := by decide +kernel
theorem dX7_finding_24 : decode cX7_finding 24 = .ok (.iload_n 1, 1) := by decide +kernel
theorem dX7_finding_25 : decode cX7_finding 25 = .ok (.ireturn, 1) := by decide +kernel
theorem dX7_isAsked_0 : decode cX7_isAsked 0 = .ok (.aload_n 0, 1) := by decide +kernel
theorem dX7_isAsked_1 : decode cX7_isAsked 1 = .ok (.getfield 12, 3) := by decide +kernel
theorem dX7_isAsked_4 : decode cX7_isAsked 4 = .ok (.getfield 53, 3) := by decide +kernel
theorem dX7_isAsked_7 : decode cX7_isAsked 7 = .ok (.iload_n 1, 1) := by decide +kernel
theorem dX7_isAsked_8 : decode cX7_isAsked 8 = .ok (.invokevirtual 67, 3) := by decide +kernel
theorem dX7_isAsked_11 : decode cX7_isAsked 11 = .ok (.ifCond .eq 29, 3) := by decide +kernel
theorem dX7_isAsked_14 : decode cX7_isAsked 14 = .ok (.iload_n 2, 1) := by decide +kernel
theorem dX7_isAsked_15 : decode cX7_isAsked 15 = .ok (.invokestatic 83, 3) := by decide +kernel
theorem dX7_isAsked_18 : decode cX7_isAsked 18 = .ok (.ifCond .eq 22, 3) := by decide +kernel
theorem dX7_isAsked_21 : decode cX7_isAsked 21 = .ok (.iload_n 3, 1) := by decide +kernel
theorem dX7_isAsked_22 : decode cX7_isAsked 22 = .ok (.invokestatic 86, 3) := by decide +kernel
theorem dX7_isAsked_25 : decode cX7_isAsked 25 = .ok (.ifCond .eq 15, 3) := by decide +kernel
theorem dX7_isAsked_28 : decode cX7_isAsked 28 = .ok (.iload 4, 2) := by decide +kernel
theorem dX7_isAsked_30 : decode cX7_isAsked 30 = .ok (.invokestatic 41, 3) := by decide +kernel
theorem dX7_isAsked_33 : decode cX7_isAsked 33 = .ok (.ifCond .eq 7, 3) := by decide +kernel
theorem dX7_isAsked_36 : decode cX7_isAsked 36 = .ok (.iconst 1, 1) := by decide +kernel
theorem dX7_isAsked_37 : decode cX7_isAsked 37 = .ok (.goto 4, 3) := by decide +kernel
theorem dX7_isAsked_40 : decode cX7_isAsked 40 = .ok (.iconst 0, 1) := by decide +kernel
theorem dX7_isAsked_41 : decode cX7_isAsked 41 = .ok (.ireturn, 1) := by decide +kernel
theorem dX7_isWithin_0 : decode cX7_isWithin 0 = .ok (.iload_n 0, 1) := by decide +kernel
theorem dX7_isWithin_1 : decode cX7_isWithin 1 = .ok (.iload_n 1, 1) := by decide +kernel
theorem dX7_isWithin_2 : decode cX7_isWithin 2 = .ok (.if_icmp .lt 12, 3) := by decide +kernel
theorem dX7_isWithin_5 : decode cX7_isWithin 5 = .ok (.iload_n 0, 1) := by decide +kernel
theorem dX7_isWithin_6 : decode cX7_isWithin 6 = .ok (.iload_n 2, 1) := by decide +kernel
theorem dX7_isWithin_7 : decode cX7_isWithin 7 = .ok (.if_icmp .gt 7, 3) := by decide +kernel
theorem dX7_isWithin_10 : decode cX7_isWithin 10 = .ok (.iconst 1, 1) := by decide +kernel
theorem dX7_isWithin_11 : decode cX7_isWithin 11 = .ok (.goto 4, 3) := by decide +kernel
theorem dX7_isWithin_14 : decode cX7_isWithin 14 = .ok (.iconst 0, 1) := by decide +kernel
theorem dX7_isWithin_15 : decode cX7_isWithin 15 = .ok (.ireturn, 1) := by decide +kernel
theorem dX7_isDay_0 : decode cX7_isDay 0 = .ok (.iload_n 0, 1) := by decide +kernel
theorem dX7_isDay_1 : decode cX7_isDay 1 = .ok (.iconst 0, 1) := by decide +kernel
theorem dX7_isDay_2 : decode cX7_isDay 2 = .ok (.sipush 30000, 3) := by decide +kernel
theorem dX7_isDay_5 : decode cX7_isDay 5 = .ok (.invokestatic 44, 3) := by decide +kernel
theorem dX7_isDay_8 : decode cX7_isDay 8 = .ok (.ireturn, 1) := by decide +kernel
theorem dX7_isUnion_0 : decode cX7_isUnion 0 = .ok (.iload_n 0, 1) := by decide +kernel
theorem dX7_isUnion_1 : decode cX7_isUnion 1 = .ok (.iconst 0, 1) := by decide +kernel
theorem dX7_isUnion_2 : decode cX7_isUnion 2 = .ok (.iconst 2, 1) := by decide +kernel
theorem dX7_isUnion_3 : decode cX7_isUnion 3 = .ok (.invokestatic 44, 3) := by decide +kernel
theorem dX7_isUnion_6 : decode cX7_isUnion 6 = .ok (.ireturn, 1) := by decide +kernel
theorem dX7_isGrade_0 : decode cX7_isGrade 0 = .ok (.iload_n 0, 1) := by decide +kernel
theorem dX7_isGrade_1 : decode cX7_isGrade 1 = .ok (.iconst 1, 1) := by decide +kernel
theorem dX7_isGrade_2 : decode cX7_isGrade 2 = .ok (.bipush 10, 2) := by decide +kernel
theorem dX7_isGrade_4 : decode cX7_isGrade 4 = .ok (.invokestatic 44, 3) := by decide +kernel
theorem dX7_isGrade_7 : decode cX7_isGrade 7 = .ok (.ireturn, 1) := by decide +kernel
theorem dX7_isKind_0 : decode cX7_isKind 0 = .ok (.iload_n 0, 1) := by decide +kernel
theorem dX7_isKind_1 : decode cX7_isKind 1 = .ok (.iconst 0, 1) := by decide +kernel
theorem dX7_isKind_2 : decode cX7_isKind 2 = .ok (.iconst 2, 1) := by decide +kernel
theorem dX7_isKind_3 : decode cX7_isKind 3 = .ok (.invokestatic 44, 3) := by decide +kernel
theorem dX7_isKind_6 : decode cX7_isKind 6 = .ok (.ireturn, 1) := by decide +kernel
end
section
theorem dX8_init_0 : decode cX8_init 0 = .ok (.aload_n 0, 1) := by decide +kernel
theorem dX8_init_1 : decode cX8_init 1 = .ok (.invokespecial 3, 3) := by decide +kernel
theorem dX8_init_4 : decode cX8_init 4 = .ok (.aload_n 0, 1) := by decide +kernel
theorem dX8_init_5 : decode cX8_init 5 = .ok (.bipush 20, 2) := by decide +kernel
theorem dX8_init_7 : decode cX8_init 7 = .ok (.newarray .int, 2) := by decide +kernel
theorem dX8_init_9 : decode cX8_init 9 = .ok (.putfield 9, 3) := by decide +kernel
theorem dX8_init_12 : decode cX8_init 12 = .ok (.aload_n 0, 1) := by decide +kernel
theorem dX8_init_13 : decode cX8_init 13 = .ok (.bipush 20, 2) := by decide +kernel
theorem dX8_init_15 : decode cX8_init 15 = .ok (.newarray .int, 2) := by decide +kernel
theorem dX8_init_17 : decode cX8_init 17 = .ok (.putfield 13, 3) := by decide +kernel
theorem dX8_init_20 : decode cX8_init 20 = .ok (.aload_n 0, 1) := by decide +kernel
theorem dX8_init_21 : decode cX8_init 21 = .ok (.bipush 20, 2) := by decide +kernel
theorem dX8_init_23 : decode cX8_init 23 = .ok (.newarray .int, 2) := by decide +kernel
theorem dX8_init_25 : decode cX8_init 25 = .ok (.putfield 16, 3) := by decide +kernel
theorem dX8_init_28 : decode cX8_init 28 = .ok (.aload_n 0, 1) := by decide +kernel
theorem dX8_init_29 : decode cX8_init 29 = .ok (.bipush 20, 2) := by decide +kernel
theorem dX8_init_31 : decode cX8_init 31 = .ok (.newarray .int, 2) := by decide +kernel
theorem dX8_init_33 : decode cX8_init 33 = .ok (.putfield 19, 3) := by decide +kernel
theorem dX8_init_36 : decode cX8_init 36 = .ok (.aload_n 0, 1) := by decide +kernel
theorem dX8_init_37 : decode cX8_init 37 = .ok (.sipush 160, 3) := by decide +kernel
theorem dX8_init_40 : decode cX8_init 40 = .ok (.newarray .int, 2) := by decide +kernel
theorem dX8_init_42 : decode cX8_init 42 = .ok (.putfield 22, 3) := by decide +kernel
theorem dX8_init_45 : decode cX8_init 45 = .ok (.aload_n 0, 1) := by decide +kernel
theorem dX8_init_46 : decode cX8_init 46 = .ok (.bipush 99, 2) := by decide +kernel
theorem dX8_init_48 : decode cX8_init 48 = .ok (.newarray .int, 2) := by decide +kernel
theorem dX8_init_50 : decode cX8_init 50 = .ok (.putfield 25, 3) := by decide +kernel
theorem dX8_init_53 : decode cX8_init 53 = .ok (.aload_n 0, 1) := by decide +kernel
theorem dX8_init_54 : decode cX8_init 54 = .ok (.iconst 3, 1) := by decide +kernel
theorem dX8_init_55 : decode cX8_init 55 = .ok (.newarray .int, 2) := by decide +kernel
theorem dX8_init_57 : decode cX8_init 57 = .ok (.putfield 28, 3) := by decide +kernel
theorem dX8_init_60 : decode cX8_init 60 = .ok (.aload_n 0, 1) := by decide +kernel
theorem dX8_init_61 : decode cX8_init 61 = .ok (.bipush 40, 2) := by decide +kernel
theorem dX8_init_63 : decode cX8_init 63 = .ok (.newarray .int, 2) := by decide +kernel
theorem dX8_init_65 : decode cX8_init 65 = .ok (.putfield 31, 3) := by decide +kernel
theorem dX8_init_68 : decode cX8_init 68 = .ok (.aload_n 0, 1) := by decide +kernel
theorem dX8_init_69 : decode cX8_init 69 = .ok (.bipush 40, 2) := by decide +kernel
theorem dX8_init_71 : decode cX8_init 71 = .ok (.newarray .int, 2) := by decide +kernel
theorem dX8_init_73 : decode cX8_init 73 = .ok (.putfield 34, 3) := by decide +kernel
theorem dX8_init_76 : decode cX8_init 76 = .ok (.aload_n 0, 1) := by decide +kernel
theorem dX8_init_77 : decode cX8_init 77 = .ok (.bipush 40, 2) := by decide +kernel
theorem dX8_init_79 : decode cX8_init 79 = .ok (.newarray .int, 2) := by decide +kernel
theorem dX8_init_81 : decode cX8_init 81 = .ok (.putfield 37, 3) := by decide +kernel
theorem dX8_init_84 : decode cX8_init 84 = .ok (.aload_n 0, 1) := by decide +kernel
theorem dX8_init_85 : decode cX8_init 85 = .ok (.bipush 40, 2) := by decide +kernel
theorem dX8_init_87 : decode cX8_init 87 = .ok (.newarray .int, 2) := by decide +kernel
theorem dX8_init_89 : decode cX8_init 89 = .ok (.putfield 40, 3) := by decide +kernel
theorem dX8_init_92 : decode cX8_init 92 = .ok (.aload_n 0, 1) := by decide +kernel
theorem dX8_init_93 : decode cX8_init 93 = .ok (.bipush 40, 2) := by decide +kernel
theorem dX8_init_95 : decode cX8_init 95 = .ok (.newarray .int, 2) := by decide +kernel
theorem dX8_init_97 : decode cX8_init 97 = .ok (.putfield 43, 3) := by decide +kernel
theorem dX8_init_100 : decode cX8_init 100 = .ok (.aload_n 0, 1) := by decide +kernel
theorem dX8_init_101 : decode cX8_init 101 = .ok (.bipush 40, 2) := by decide +kernel
theorem dX8_init_103 : decode cX8_init 103 = .ok (.newarray .int, 2) := by decide +kernel
theorem dX8_init_105 : decode cX8_init 105 = .ok (.putfield 46, 3) := by decide +kernel
theorem dX8_init_108 : decode cX8_init 108 = .ok (.aload_n 0, 1) := by decide +kernel
theorem dX8_init_109 : decode cX8_init 109 = .ok (.bipush 60, 2) := by decide +kernel
theorem dX8_init_111 : decode cX8_init 111 = .ok (.newarray .int, 2) := by decide +kernel
theorem dX8_init_113 : decode cX8_init 113 = .ok (.putfield 49, 3) := by decide +kernel
theorem dX8_init_116 : decode cX8_init 116 = .ok (.aload_n 0, 1) := by decide +kernel
theorem dX8_init_117 : decode cX8_init 117 = .ok (.bipush 60, 2) := by decide +kernel
theorem dX8_init_119 : decode cX8_init 119 = .ok (.newarray .int, 2) := by decide +kernel
theorem dX8_init_121 : decode cX8_init 121 = .ok (.putfield 52, 3) := by decide +kernel
theorem dX8_init_124 : decode cX8_init 124 = .ok (.aload_n 0, 1) := by decide +kernel
theorem dX8_init_125 : decode cX8_init 125 = .ok (.bipush 60, 2) := by decide +kernel
theorem dX8_init_127 : decode cX8_init 127 = .ok (.newarray .int, 2) := by decide +kernel
theorem dX8_init_129 : decode cX8_init 129 = .ok (.putfield 55, 3) := by decide +kernel
theorem dX8_init_132 : decode cX8_init 132 = .ok (.aload_n 0, 1) := by decide +kernel
theorem dX8_init_133 : decode cX8_init 133 = .ok (.bipush 60, 2) := by decide +kernel
theorem dX8_init_135 : decode cX8_init 135 = .ok (.newarray .int, 2) := by decide +kernel
theorem dX8_init_137 : decode cX8_init 137 = .ok (.putfield 58, 3) := by decide +kernel
theorem dX8_init_140 : decode cX8_init 140 = .ok (.aload_n 0, 1) := by decide +kernel
theorem dX8_init_141 : decode cX8_init 141 = .ok (.bipush 60, 2) := by decide +kernel
theorem dX8_init_143 : decode cX8_init 143 = .ok (.newarray .int, 2) := by decide +kernel
theorem dX8_init_145 : decode cX8_init 145 = .ok (.putfield 61, 3) := by decide +kernel
theorem dX8_init_148 : decode cX8_init 148 = .ok (.aload_n 0, 1) := by decide +kernel
theorem dX8_init_149 : decode cX8_init 149 = .ok (.bipush 20, 2) := by decide +kernel
theorem dX8_init_151 : decode cX8_init 151 = .ok (.newarray .int, 2) := by decide +kernel
theorem dX8_init_153 : decode cX8_init 153 = .ok (.putfield 64, 3) := by decide +kernel
theorem dX8_init_156 : decode cX8_init 156 = .ok (.aload_n 0, 1) := by decide +kernel
theorem dX8_init_157 : decode cX8_init 157 = .ok (.bipush 20, 2) := by decide +kernel
theorem dX8_init_159 : decode cX8_init 159 = .ok (.newarray .int, 2) := by decide +kernel
theorem dX8_init_161 : decode cX8_init 161 = .ok (.putfield 67, 3) := by decide +kernel
theorem dX8_init_164 : decode cX8_init 164 = .ok (.aload_n 0, 1) := by decide +kernel
theorem dX8_init_165 : decode cX8_init 165 = .ok (.bipush 20, 2) := by decide +kernel
theorem dX8_init_167 : decode cX8_init 167 = .ok (.newarray .int, 2) := by decide +kernel
theorem dX8_init_169 : decode cX8_init 169 = .ok (.putfield 70, 3) := by decide +kernel
theorem dX8_init_172 : decode cX8_init 172 = .ok (.aload_n 0, 1) := by decide +kernel
theorem dX8_init_173 : decode cX8_init 173 = .ok (.iconst 4, 1) := by decide +kernel
theorem dX8_init_174 : decode cX8_init 174 = .ok (.newarray .int, 2) := by decide +kernel
theorem dX8_init_176 : decode cX8_init 176 = .ok (.putfield 73, 3) := by decide +kernel
theorem dX8_init_179 : decode cX8_init 179 = .ok (.aload_n 0, 1) := by decide +kernel
theorem dX8_init_180 : decode cX8_init 180 = .ok (.iconst 4, 1) := by decide +kernel
theorem dX8_init_181 : decode cX8_init 181 = .ok (.newarray .int, 2) := by decide +kernel
theorem dX8_init_183 : decode cX8_init 183 = .ok (.putfield 76, 3) := by decide +kernel
theorem dX8_init_186 : decode cX8_init 186 = .ok (.aload_n 0, 1) := by decide +kernel
theorem dX8_init_187 : decode cX8_init 187 = .ok (.bipush 20, 2) := by decide +kernel
theorem dX8_init_189 : decode cX8_init 189 = .ok (.newarray .int, 2) := by decide +kernel
theorem dX8_init_191 : decode cX8_init 191 = .ok (.putfield 79, 3) := by decide +kernel
theorem dX8_init_194 : decode cX8_init 194 = .ok (.aload_n 0, 1) := by decide +kernel
theorem dX8_init_195 : decode cX8_init 195 = .ok (.bipush 100, 2) := by decide +kernel
theorem dX8_init_197 : decode cX8_init 197 = .ok (.newarray .int, 2) := by decide +kernel
theorem dX8_init_199 : decode cX8_init 199 = .ok (.putfield 82, 3) := by decide +kernel
theorem dX8_init_202 : decode cX8_init 202 = .ok (.aload_n 0, 1) := by decide +kernel
theorem dX8_init_203 : decode cX8_init 203 = .ok (.bipush 100, 2) := by decide +kernel
theorem dX8_init_205 : decode cX8_init 205 = .ok (.newarray .int, 2) := by decide +kernel
theorem dX8_init_207 : decode cX8_init 207 = .ok (.putfield 85, 3) := by decide +kernel
theorem dX8_init_210 : decode cX8_init 210 = .ok (.aload_n 0, 1) := by decide +kernel
theorem dX8_init_211 : decode cX8_init 211 = .ok (.bipush 20, 2) := by decide +kernel
theorem dX8_init_213 : decode cX8_init 213 = .ok (.newarray .int, 2) := by decide +kernel
theorem dX8_init_215 : decode cX8_init 215 = .ok (.putfield 88, 3) := by decide +kernel
theorem dX8_init_218 : decode cX8_init 218 = .ok (.aload_n 0, 1) := by decide +kernel
theorem dX8_init_219 : decode cX8_init 219 = .ok (.bipush 6, 2) := by decide +kernel
theorem dX8_init_221 : decode cX8_init 221 = .ok (.newarray .int, 2) := by decide +kernel
theorem dX8_init_223 : decode cX8_init 223 = .ok (.putfield 91, 3) := by decide +kernel
theorem dX8_init_226 : decode cX8_init 226 = .ok (.aload_n 0, 1) := by decide +kernel
theorem dX8_init_227 : decode cX8_init 227 = .ok (.bipush 60, 2) := by decide +kernel
theorem dX8_init_229 : decode cX8_init 229 = .ok (.newarray .boolean, 2) := by decide +kernel
theorem dX8_init_231 : decode cX8_init 231 = .ok (.putfield 94, 3) := by decide +kernel
theorem dX8_init_234 : decode cX8_init 234 = .ok (.aload_n 0, 1) := by decide +kernel
theorem dX8_init_235 : decode cX8_init 235 = .ok (.bipush 20, 2) := by decide +kernel
theorem dX8_init_237 : decode cX8_init 237 = .ok (.newarray .int, 2) := by decide +kernel
theorem dX8_init_239 : decode cX8_init 239 = .ok (.putfield 98, 3) := by decide +kernel
theorem dX8_init_242 : decode cX8_init 242 = .ok (.aload_n 0, 1) := by decide +kernel
theorem dX8_init_243 : decode cX8_init 243 = .ok (.bipush 80, 2) := by decide +kernel
theorem dX8_init_245 : decode cX8_init 245 = .ok (.newarray .boolean, 2) := by decide +kernel
theorem dX8_init_247 : decode cX8_init 247 = .ok (.putfield 101, 3) := by decide +kernel
theorem dX8_init_250 : decode cX8_init 250 = .ok (.aload_n 0, 1) := by decide +kernel
theorem dX8_init_251 : decode cX8_init 251 = .ok (.iconst 5, 1) := by decide +kernel
theorem dX8_init_252 : decode cX8_init 252 = .ok (.newarray .int, 2) := by decide +kernel
theorem dX8_init_254 : decode cX8_init 254 = .ok (.putfield 104, 3) := by decide +kernel
theorem dX8_init_257 : decode cX8_init 257 = .ok (.aload_n 0, 1) := by decide +kernel
theorem dX8_init_258 : decode cX8_init 258 = .ok (.bipush 20, 2) := by decide +kernel
theorem dX8_init_260 : decode cX8_init 260 = .ok (.newarray .int, 2) := by decide +kernel
theorem dX8_init_262 : decode cX8_init 262 = .ok (.putfield 107, 3) := by decide +kernel
theorem dX8_init_265 : decode cX8_init 265 = .ok (.return_, 1) := by decide +kernel
theorem dX8_finding_0 : decode cX8_finding 0 = .ok (.aload_n 0, 1) := by decide +kernel
theorem dX8_finding_1 : decode cX8_finding 1 = .ok (.getfield 91, 3) := by decide +kernel
theorem dX8_finding_4 : decode cX8_finding 4 = .ok (.ldc 110, 2) := by decide +kernel
theorem dX8_finding_6 : decode cX8_finding 6 = .ok (.iload_n 1, 1) := by decide +kernel
theorem dX8_finding_7 : decode cX8_finding 7 = .ok (.isub, 1) := by decide +kernel
theorem dX8_finding_8 : decode cX8_finding 8 = .ok (.dup2, 1) := by decide +kernel
theorem dX8_finding_9 : decode cX8_finding 9 = .ok (.iaload, 1) := by decide +kernel
theorem dX8_finding_10 : decode cX8_finding 10 = .ok (.iconst 1, 1) := by decide +kernel
theorem dX8_finding_11 : decode cX8_finding 11 = .ok (.iadd, 1) := by decide +kernel
theorem dX8_finding_12 : decode cX8_finding 12 = .ok (.iastore, 1) := by decide +kernel
theorem dX8_finding_13 : decode cX8_finding 13 = .ok (.iload_n 1, 1) := by decide +kernel
theorem dX8_finding_14 : decode cX8_finding 14 = .ok (.ireturn, 1) := by decide +kernel
theorem dX8_within_0 : decode cX8_within 0 = .ok (.iload_n 0, 1) := by decide +kernel
theorem dX8_within_1 : decode cX8_within 1 = .ok (.iload_n 1, 1) := by decide +kernel
theorem dX8_within_2 : decode cX8_within 2 = .ok (.if_icmp .lt 12, 3) := by decide +kernel
theorem dX8_within_5 : decode cX8_within 5 = .ok (.iload_n 0, 1) := by decide +kernel
theorem dX8_within_6 : decode cX8_within 6 = .ok (.iload_n 2, 1) := by decide +kernel
theorem dX8_within_7 : decode cX8_within 7 = .ok (.if_icmp .gt 7, 3) := by decide +kernel
theorem dX8_within_10 : decode cX8_within 10 = .ok (.iconst 1, 1) := by decide +kernel
theorem dX8_within_11 : decode cX8_within 11 = .ok (.goto 4, 3) := by decide +kernel
theorem dX8_within_14 : decode cX8_within 14 = .ok (.iconst 0, 1) := by decide +kernel
theorem dX8_within_15 : decode cX8_within 15 = .ok (.ireturn, 1) := by decide +kernel
theorem dX8_isDay_0 : decode cX8_isDay 0 = .ok (.iload_n 0, 1) := by decide +kernel
theorem dX8_isDay_1 : decode cX8_isDay 1 = .ok (.iconst 0, 1) := by decide +kernel
theorem dX8_isDay_2 : decode cX8_isDay 2 = .ok (.sipush 30000, 3) := by decide +kernel
theorem dX8_isDay_5 : decode cX8_isDay 5 = .ok (.invokestatic 111, 3) := by decide +kernel
theorem dX8_isDay_8 : decode cX8_isDay 8 = .ok (.ireturn, 1) := by decide +kernel
theorem dX8_isUnion_0 : decode cX8_isUnion 0 = .ok (.iload_n 0, 1) := by decide +kernel
theorem dX8_isUnion_1 : decode cX8_isUnion 1 = .ok (.iconst 0, 1) := by decide +kernel
theorem dX8_isUnion_2 : decode cX8_isUnion 2 = .ok (.iconst 2, 1) := by decide +kernel
theorem dX8_isUnion_3 : decode cX8_isUnion 3 = .ok (.invokestatic 111, 3) := by decide +kernel
theorem dX8_isUnion_6 : decode cX8_isUnion 6 = .ok (.ireturn, 1) := by decide +kernel
theorem dX8_isGrade_0 : decode cX8_isGrade 0 = .ok (.iload_n 0, 1) := by decide +kernel
theorem dX8_isGrade_1 : decode cX8_isGrade 1 = .ok (.iconst 1, 1) := by decide +kernel
theorem dX8_isGrade_2 : decode cX8_isGrade 2 = .ok (.bipush 10, 2) := by decide +kernel
theorem dX8_isGrade_4 : decode cX8_isGrade 4 = .ok (.invokestatic 111, 3) := by decide +kernel
theorem dX8_isGrade_7 : decode cX8_isGrade 7 = .ok (.ireturn, 1) := by decide +kernel
theorem dX8_isPerson_0 : decode cX8_isPerson 0 = .ok (.iload_n 1, 1) := by decide +kernel
theorem dX8_isPerson_1 : decode cX8_isPerson 1 = .ok (.iconst 0, 1) := by decide +kernel
theorem dX8_isPerson_2 : decode cX8_isPerson 2 = .ok (.aload_n 0, 1) := by decide +kernel
theorem dX8_isPerson_3 : decode cX8_isPerson 3 = .ok (.getfield 115, 3) := by decide +kernel
theorem dX8_isPerson_6 : decode cX8_isPerson 6 = .ok (.iconst 1, 1) := by decide +kernel
theorem dX8_isPerson_7 : decode cX8_isPerson 7 = .ok (.isub, 1) := by decide +kernel
theorem dX8_isPerson_8 : decode cX8_isPerson 8 = .ok (.invokestatic 111, 3) := by decide +kernel
theorem dX8_isPerson_11 : decode cX8_isPerson 11 = .ok (.ireturn, 1) := by decide +kernel
theorem dX8_person_0 : decode cX8_person 0 = .ok (.iload_n 1, 1) := by decide +kernel
theorem dX8_person_1 : decode cX8_person 1 = .ok (.iconst 0, 1) := by decide +kernel
theorem dX8_person_2 : decode cX8_person 2 = .ok (.iconst 2, 1) := by decide +kernel
theorem dX8_person_3 : decode cX8_person 3 = .ok (.invokestatic 111, 3) := by decide +kernel
theorem dX8_person_6 : decode cX8_person 6 = .ok (.ifCond .eq 20, 3) := by decide +kernel
theorem dX8_person_9 : decode cX8_person 9 = .ok (.iload_n 2, 1) := by decide +kernel
theorem dX8_person_10 : decode cX8_person 10 = .ok (.invokestatic 119, 3) := by decide +kernel
theorem dX8_person_13 : decode cX8_person 13 = .ok (.ifCond .eq 13, 3) := by decide +kernel
theorem dX8_person_16 : decode cX8_person 16 = .ok (.iload_n 3, 1) := by decide +kernel
theorem dX8_person_17 : decode cX8_person 17 = .ok (.iconst 0, 1) := by decide +kernel
theorem dX8_person_18 : decode cX8_person 18 = .ok (.bipush 7, 2) := by decide +kernel
theorem dX8_person_20 : decode cX8_person 20 = .ok (.invokestatic 111, 3) := by decide +kernel
theorem dX8_person_23 : decode cX8_person 23 = .ok (.ifCond .ne 10, 3) := by decide +kernel
theorem dX8_person_26 : decode cX8_person 26 = .ok (.aload_n 0, 1) := by decide +kernel
theorem dX8_person_27 : decode cX8_person 27 = .ok (.ldc 123, 2) := by decide +kernel
theorem dX8_person_29 : decode cX8_person 29 = .ok (.invokevirtual 124, 3) := by decide +kernel
theorem dX8_person_32 : decode cX8_person 32 = .ok (.ireturn, 1) := by decide +kernel
theorem dX8_person_33 : decode cX8_person 33 = .ok (.aload_n 0, 1) := by decide +kernel
theorem dX8_person_34 : decode cX8_person 34 = .ok (.getfield 115, 3) := by decide +kernel
theorem dX8_person_37 : decode cX8_person 37 = .ok (.bipush 20, 2) := by decide +kernel
theorem dX8_person_39 : decode cX8_person 39 = .ok (.if_icmp .eq 17, 3) := by decide +kernel
theorem dX8_person_42 : decode cX8_person 42 = .ok (.iload_n 1, 1) := by decide +kernel
theorem dX8_person_43 : decode cX8_person 43 = .ok (.iconst 1, 1) := by decide +kernel
theorem dX8_person_44 : decode cX8_person 44 = .ok (.if_icmp .ne 19, 3) := by decide +kernel
theorem dX8_person_47 : decode cX8_person 47 = .ok (.aload_n 0, 1) := by decide +kernel
theorem dX8_person_48 : decode cX8_person 48 = .ok (.getfield 128, 3) := by decide +kernel
theorem dX8_person_51 : decode cX8_person 51 = .ok (.bipush 6, 2) := by decide +kernel
theorem dX8_person_53 : decode cX8_person 53 = .ok (.if_icmp .ne 10, 3) := by decide +kernel
theorem dX8_person_56 : decode cX8_person 56 = .ok (.aload_n 0, 1) := by decide +kernel
theorem dX8_person_57 : decode cX8_person 57 = .ok (.ldc 131, 2) := by decide +kernel
theorem dX8_person_59 : decode cX8_person 59 = .ok (.invokevirtual 124, 3) := by decide +kernel
theorem dX8_person_62 : decode cX8_person 62 = .ok (.ireturn, 1) := by decide +kernel
theorem dX8_person_63 : decode cX8_person 63 = .ok (.aload_n 0, 1) := by decide +kernel
theorem dX8_person_64 : decode cX8_person 64 = .ok (.getfield 9, 3) := by decide +kernel
theorem dX8_person_67 : decode cX8_person 67 = .ok (.aload_n 0, 1) := by decide +kernel
theorem dX8_person_68 : decode cX8_person 68 = .ok (.getfield 115, 3) := by decide +kernel
theorem dX8_person_71 : decode cX8_person 71 = .ok (.iload_n 1, 1) := by decide +kernel
theorem dX8_person_72 : decode cX8_person 72 = .ok (.iastore, 1) := by decide +kernel
theorem dX8_person_73 : decode cX8_person 73 = .ok (.aload_n 0, 1) := by decide +kernel
theorem dX8_person_74 : decode cX8_person 74 = .ok (.getfield 13, 3) := by decide +kernel
theorem dX8_person_77 : decode cX8_person 77 = .ok (.aload_n 0, 1) := by decide +kernel
theorem dX8_person_78 : decode cX8_person 78 = .ok (.getfield 115, 3) := by decide +kernel
theorem dX8_person_81 : decode cX8_person 81 = .ok (.iload_n 2, 1) := by decide +kernel
theorem dX8_person_82 : decode cX8_person 82 = .ok (.iastore, 1) := by decide +kernel
theorem dX8_person_83 : decode cX8_person 83 = .ok (.aload_n 0, 1) := by decide +kernel
theorem dX8_person_84 : decode cX8_person 84 = .ok (.getfield 16, 3) := by decide +kernel
theorem dX8_person_87 : decode cX8_person 87 = .ok (.aload_n 0, 1) := by decide +kernel
theorem dX8_person_88 : decode cX8_person 88 = .ok (.getfield 115, 3) := by decide +kernel
theorem dX8_person_91 : decode cX8_person 91 = .ok (.iload_n 3, 1) := by decide +kernel
theorem dX8_person_92 : decode cX8_person 92 = .ok (.iastore, 1) := by decide +kernel
theorem dX8_person_93 : decode cX8_person 93 = .ok (.aload_n 0, 1) := by decide +kernel
theorem dX8_person_94 : decode cX8_person 94 = .ok (.getfield 19, 3) := by decide +kernel
theorem dX8_person_97 : decode cX8_person 97 = .ok (.aload_n 0, 1) := by decide +kernel
theorem dX8_person_98 : decode cX8_person 98 = .ok (.getfield 115, 3) := by decide +kernel
theorem dX8_person_101 : decode cX8_person 101 = .ok (.sipush 30000, 3) := by decide +kernel
theorem dX8_person_104 : decode cX8_person 104 = .ok (.iastore, 1) := by decide +kernel
theorem dX8_person_105 : decode cX8_person 105 = .ok (.iconst 0, 1) := by decide +kernel
theorem dX8_person_106 : decode cX8_person 106 = .ok (.istore 4, 2) := by decide +kernel
theorem dX8_person_108 : decode cX8_person 108 = .ok (.iload 4, 2) := by decide +kernel
theorem dX8_person_110 : decode cX8_person 110 = .ok (.bipush 8, 2) := by decide +kernel
theorem dX8_person_112 : decode cX8_person 112 = .ok (.if_icmp .ge 25, 3) := by decide +kernel
theorem dX8_person_115 : decode cX8_person 115 = .ok (.aload_n 0, 1) := by decide +kernel
theorem dX8_person_116 : decode cX8_person 116 = .ok (.getfield 22, 3) := by decide +kernel
theorem dX8_person_119 : decode cX8_person 119 = .ok (.bipush 8, 2) := by decide +kernel
theorem dX8_person_121 : decode cX8_person 121 = .ok (.aload_n 0, 1) := by decide +kernel
theorem dX8_person_122 : decode cX8_person 122 = .ok (.getfield 115, 3) := by decide +kernel
theorem dX8_person_125 : decode cX8_person 125 = .ok (.imul, 1) := by decide +kernel
theorem dX8_person_126 : decode cX8_person 126 = .ok (.iload 4, 2) := by decide +kernel
theorem dX8_person_128 : decode cX8_person 128 = .ok (.iadd, 1) := by decide +kernel
theorem dX8_person_129 : decode cX8_person 129 = .ok (.iconst (-1), 1) := by decide +kernel
theorem dX8_person_130 : decode cX8_person 130 = .ok (.iastore, 1) := by decide +kernel
theorem dX8_person_131 : decode cX8_person 131 = .ok (.iinc 4 1, 3) := by decide +kernel
theorem dX8_person_134 : decode cX8_person 134 = .ok (.goto (-26), 3) := by decide +kernel
theorem dX8_person_137 : decode cX8_person 137 = .ok (.aload_n 0, 1) := by decide +kernel
theorem dX8_person_138 : decode cX8_person 138 = .ok (.dup, 1) := by decide +kernel
theorem dX8_person_139 : decode cX8_person 139 = .ok (.getfield 128, 3) := by decide +kernel
theorem dX8_person_142 : decode cX8_person 142 = .ok (.iload_n 1, 1) := by decide +kernel
theorem dX8_person_143 : decode cX8_person 143 = .ok (.iconst 1, 1) := by decide +kernel
theorem dX8_person_144 : decode cX8_person 144 = .ok (.if_icmp .ne 7, 3) := by decide +kernel
theorem dX8_person_147 : decode cX8_person 147 = .ok (.iconst 1, 1) := by decide +kernel
theorem dX8_person_148 : decode cX8_person 148 = .ok (.goto 4, 3) := by decide +kernel
theorem dX8_person_151 : decode cX8_person 151 = .ok (.iconst 0, 1) := by decide +kernel
theorem dX8_person_152 : decode cX8_person 152 = .ok (.iadd, 1) := by decide +kernel
theorem dX8_person_153 : decode cX8_person 153 = .ok (.putfield 128, 3) := by decide +kernel
theorem dX8_person_156 : decode cX8_person 156 = .ok (.aload_n 0, 1) := by decide +kernel
theorem dX8_person_157 : decode cX8_person 157 = .ok (.dup, 1) := by decide +kernel
theorem dX8_person_158 : decode cX8_person 158 = .ok (.getfield 115, 3) := by decide +kernel
theorem dX8_person_161 : decode cX8_person 161 = .ok (.iconst 1, 1) := by decide +kernel
theorem dX8_person_162 : decode cX8_person 162 = .ok (.iadd, 1) := by decide +kernel
theorem dX8_person_163 : decode cX8_person 163 = .ok (.putfield 115, 3) := by decide +kernel
theorem dX8_person_166 : decode cX8_person 166 = .ok (.aload_n 0, 1) := by decide +kernel
theorem dX8_person_167 : decode cX8_person 167 = .ok (.getfield 115, 3) := by decide +kernel
theorem dX8_person_170 : decode cX8_person 170 = .ok (.iconst 1, 1) := by decide +kernel
theorem dX8_person_171 : decode cX8_person 171 = .ok (.isub, 1) := by decide +kernel
theorem dX8_person_172 : decode cX8_person 172 = .ok (.ireturn, 1) := by decide +kernel
theorem dX8_as_0 : decode cX8_as 0 = .ok (.aload_n 0, 1) := by decide +kernel
theorem dX8_as_1 : decode cX8_as 1 = .ok (.iload_n 1, 1) := by decide +kernel
theorem dX8_as_2 : decode cX8_as 2 = .ok (.invokevirtual 132, 3) := by decide +kernel
theorem dX8_as_5 : decode cX8_as 5 = .ok (.ifCond .eq 12, 3) := by decide +kernel
theorem dX8_as_8 : decode cX8_as 8 = .ok (.iload_n 2, 1) := by decide +kernel
theorem dX8_as_9 : decode cX8_as 9 = .ok (.iconst 0, 1) := by decide +kernel
theorem dX8_as_10 : decode cX8_as 10 = .ok (.iconst 2, 1) := by decide +kernel
theorem dX8_as_11 : decode cX8_as 11 = .ok (.invokestatic 111, 3) := by decide +kernel
theorem dX8_as_14 : decode cX8_as 14 = .ok (.ifCond .ne 10, 3) := by decide +kernel
theorem dX8_as_17 : decode cX8_as 17 = .ok (.aload_n 0, 1) := by decide +kernel
theorem dX8_as_18 : decode cX8_as 18 = .ok (.ldc 123, 2) := by decide +kernel
theorem dX8_as_20 : decode cX8_as 20 = .ok (.invokevirtual 124, 3) := by decide +kernel
theorem dX8_as_23 : decode cX8_as 23 = .ok (.ireturn, 1) := by decide +kernel
theorem dX8_as_24 : decode cX8_as 24 = .ok (.iload_n 2, 1) := by decide +kernel
theorem dX8_as_25 : decode cX8_as 25 = .ok (.ifCond .eq 13, 3) := by decide +kernel
theorem dX8_as_28 : decode cX8_as 28 = .ok (.aload_n 0, 1) := by decide +kernel
theorem dX8_as_29 : decode cX8_as 29 = .ok (.getfield 9, 3) := by decide +kernel
theorem dX8_as_32 : decode cX8_as 32 = .ok (.iload_n 1, 1) := by decide +kernel
theorem dX8_as_33 : decode cX8_as 33 = .ok (.iaload, 1) := by decide +kernel
theorem dX8_as_34 : decode cX8_as 34 = .ok (.iload_n 2, 1) := by decide +kernel
theorem dX8_as_35 : decode cX8_as 35 = .ok (.if_icmp .ne 12, 3) := by decide +kernel
theorem dX8_as_38 : decode cX8_as 38 = .ok (.aload_n 0, 1) := by decide +kernel
theorem dX8_as_39 : decode cX8_as 39 = .ok (.getfield 16, 3) := by decide +kernel
theorem dX8_as_42 : decode cX8_as 42 = .ok (.iload_n 1, 1) := by decide +kernel
theorem dX8_as_43 : decode cX8_as 43 = .ok (.iaload, 1) := by decide +kernel
theorem dX8_as_44 : decode cX8_as 44 = .ok (.goto 9, 3) := by decide +kernel
theorem dX8_as_47 : decode cX8_as 47 = .ok (.aload_n 0, 1) := by decide +kernel
theorem dX8_as_48 : decode cX8_as 48 = .ok (.ldc 135, 2) := by decide +kernel
theorem dX8_as_50 : decode cX8_as 50 = .ok (.invokevirtual 124, 3) := by decide +kernel
theorem dX8_as_53 : decode cX8_as 53 = .ok (.ireturn, 1) := by decide +kernel
theorem dX8_licence_0 : decode cX8_licence 0 = .ok (.aload_n 0, 1) := by decide +kernel
theorem dX8_licence_1 : decode cX8_licence 1 = .ok (.iload_n 1, 1) := by decide +kernel
theorem dX8_licence_2 : decode cX8_licence 2 = .ok (.invokevirtual 132, 3) := by decide +kernel
theorem dX8_licence_5 : decode cX8_licence 5 = .ok (.ifCond .eq 10, 3) := by decide +kernel
theorem dX8_licence_8 : decode cX8_licence 8 = .ok (.iload_n 2, 1) := by decide +kernel
theorem dX8_licence_9 : decode cX8_licence 9 = .ok (.invokestatic 119, 3) := by decide +kernel
theorem dX8_licence_12 : decode cX8_licence 12 = .ok (.ifCond .ne 10, 3) := by decide +kernel
theorem dX8_licence_15 : decode cX8_licence 15 = .ok (.aload_n 0, 1) := by decide +kernel
theorem dX8_licence_16 : decode cX8_licence 16 = .ok (.ldc 123, 2) := by decide +kernel
theorem dX8_licence_18 : decode cX8_licence 18 = .ok (.invokevirtual 124, 3) := by decide +kernel
theorem dX8_licence_21 : decode cX8_licence 21 = .ok (.ireturn, 1) := by decide +kernel
theorem dX8_licence_22 : decode cX8_licence 22 = .ok (.aload_n 0, 1) := by decide +kernel
theorem dX8_licence_23 : decode cX8_licence 23 = .ok (.getfield 19, 3) := by decide +kernel
theorem dX8_licence_26 : decode cX8_licence 26 = .ok (.iload_n 1, 1) := by decide +kernel
theorem dX8_licence_27 : decode cX8_licence 27 = .ok (.iaload, 1) := by decide +kernel
theorem dX8_licence_28 : decode cX8_licence 28 = .ok (.istore_n 3, 1) := by decide +kernel
theorem dX8_licence_29 : decode cX8_licence 29 = .ok (.aload_n 0, 1) := by decide +kernel
theorem dX8_licence_30 : decode cX8_licence 30 = .ok (.getfield 19, 3) := by decide +kernel
theorem dX8_licence_33 : decode cX8_licence 33 = .ok (.iload_n 1, 1) := by decide +kernel
theorem dX8_licence_34 : decode cX8_licence 34 = .ok (.iload_n 2, 1) := by decide +kernel
theorem dX8_licence_35 : decode cX8_licence 35 = .ok (.iastore, 1) := by decide +kernel
theorem dX8_licence_36 : decode cX8_licence 36 = .ok (.iload_n 3, 1) := by decide +kernel
theorem dX8_licence_37 : decode cX8_licence 37 = .ok (.ireturn, 1) := by decide +kernel
theorem dX8_part_0 : decode cX8_part 0 = .ok (.aload_n 0, 1) := by decide +kernel
theorem dX8_part_1 : decode cX8_part 1 = .ok (.iload_n 1, 1) := by decide +kernel
theorem dX8_part_2 : decode cX8_part 2 = .ok (.invokevirtual 132, 3) := by decide +kernel
theorem dX8_part_5 : decode cX8_part 5 = .ok (.ifCond .eq 24, 3) := by decide +kernel
theorem dX8_part_8 : decode cX8_part 8 = .ok (.iload_n 2, 1) := by decide +kernel
theorem dX8_part_9 : decode cX8_part 9 = .ok (.iconst 0, 1) := by decide +kernel
theorem dX8_part_10 : decode cX8_part 10 = .ok (.bipush 7, 2) := by decide +kernel
theorem dX8_part_12 : decode cX8_part 12 = .ok (.invokestatic 111, 3) := by decide +kernel
theorem dX8_part_15 : decode cX8_part 15 = .ok (.ifCond .eq 14, 3) := by decide +kernel
theorem dX8_part_18 : decode cX8_part 18 = .ok (.iload_n 3, 1) := by decide +kernel
theorem dX8_part_19 : decode cX8_part 19 = .ok (.iconst (-1), 1) := by decide +kernel
theorem dX8_part_20 : decode cX8_part 20 = .ok (.sipush 30000, 3) := by decide +kernel
theorem dX8_part_23 : decode cX8_part 23 = .ok (.invokestatic 111, 3) := by decide +kernel
theorem dX8_part_26 : decode cX8_part 26 = .ok (.ifCond .ne 10, 3) := by decide +kernel
theorem dX8_part_29 : decode cX8_part 29 = .ok (.aload_n 0, 1) := by decide +kernel
theorem dX8_part_30 : decode cX8_part 30 = .ok (.ldc 123, 2) := by decide +kernel
theorem dX8_part_32 : decode cX8_part 32 = .ok (.invokevirtual 124, 3) := by decide +kernel
theorem dX8_part_35 : decode cX8_part 35 = .ok (.ireturn, 1) := by decide +kernel
theorem dX8_part_36 : decode cX8_part 36 = .ok (.aload_n 0, 1) := by decide +kernel
theorem dX8_part_37 : decode cX8_part 37 = .ok (.getfield 22, 3) := by decide +kernel
theorem dX8_part_40 : decode cX8_part 40 = .ok (.bipush 8, 2) := by decide +kernel
theorem dX8_part_42 : decode cX8_part 42 = .ok (.iload_n 1, 1) := by decide +kernel
theorem dX8_part_43 : decode cX8_part 43 = .ok (.imul, 1) := by decide +kernel
theorem dX8_part_44 : decode cX8_part 44 = .ok (.iload_n 2, 1) := by decide +kernel
theorem dX8_part_45 : decode cX8_part 45 = .ok (.iadd, 1) := by decide +kernel
theorem dX8_part_46 : decode cX8_part 46 = .ok (.iaload, 1) := by decide +kernel
theorem dX8_part_47 : decode cX8_part 47 = .ok (.istore 4, 2) := by decide +kernel
theorem dX8_part_49 : decode cX8_part 49 = .ok (.aload_n 0, 1) := by decide +kernel
theorem dX8_part_50 : decode cX8_part 50 = .ok (.getfield 22, 3) := by decide +kernel
theorem dX8_part_53 : decode cX8_part 53 = .ok (.bipush 8, 2) := by decide +kernel
theorem dX8_part_55 : decode cX8_part 55 = .ok (.iload_n 1, 1) := by decide +kernel
theorem dX8_part_56 : decode cX8_part 56 = .ok (.imul, 1) := by decide +kernel
theorem dX8_part_57 : decode cX8_part 57 = .ok (.iload_n 2, 1) := by decide +kernel
theorem dX8_part_58 : decode cX8_part 58 = .ok (.iadd, 1) := by decide +kernel
theorem dX8_part_59 : decode cX8_part 59 = .ok (.iload_n 3, 1) := by decide +kernel
theorem dX8_part_60 : decode cX8_part 60 = .ok (.iastore, 1) := by decide +kernel
theorem dX8_part_61 : decode cX8_part 61 = .ok (.iload 4, 2) := by decide +kernel
theorem dX8_part_63 : decode cX8_part 63 = .ok (.ireturn, 1) := by decide +kernel
theorem dX8_worthAt_0 : decode cX8_worthAt 0 = .ok (.iconst 3, 1) := by decide +kernel
theorem dX8_worthAt_1 : decode cX8_worthAt 1 = .ok (.iload_n 0, 1) := by decide +kernel
theorem dX8_worthAt_2 : decode cX8_worthAt 2 = .ok (.imul, 1) := by decide +kernel
theorem dX8_worthAt_3 : decode cX8_worthAt 3 = .ok (.iload_n 1, 1) := by decide +kernel
theorem dX8_worthAt_4 : decode cX8_worthAt 4 = .ok (.iadd, 1) := by decide +kernel
theorem dX8_worthAt_5 : decode cX8_worthAt 5 = .ok (.bipush 11, 2) := by decide +kernel
theorem dX8_worthAt_7 : decode cX8_worthAt 7 = .ok (.imul, 1) := by decide +kernel
theorem dX8_worthAt_8 : decode cX8_worthAt 8 = .ok (.iload_n 2, 1) := by decide +kernel
theorem dX8_worthAt_9 : decode cX8_worthAt 9 = .ok (.iadd, 1) := by decide +kernel
theorem dX8_worthAt_10 : decode cX8_worthAt 10 = .ok (.ireturn, 1) := by decide +kernel
theorem dX8_worth_0 : decode cX8_worth 0 = .ok (.iload_n 1, 1) := by decide +kernel
theorem dX8_worth_1 : decode cX8_worth 1 = .ok (.invokestatic 136, 3) := by decide +kernel
theorem dX8_worth_4 : decode cX8_worth 4 = .ok (.ifCond .eq 33, 3) := by decide +kernel
theorem dX8_worth_7 : decode cX8_worth 7 = .ok (.iload_n 2, 1) := by decide +kernel
theorem dX8_worth_8 : decode cX8_worth 8 = .ok (.invokestatic 136, 3) := by decide +kernel
theorem dX8_worth_11 : decode cX8_worth 11 = .ok (.ifCond .eq 26, 3) := by decide +kernel
theorem dX8_worth_14 : decode cX8_worth 14 = .ok (.iload_n 3, 1) := by decide +kernel
theorem dX8_worth_15 : decode cX8_worth 15 = .ok (.invokestatic 139, 3) := by decide +kernel
theorem dX8_worth_18 : decode cX8_worth 18 = .ok (.ifCond .eq 19, 3) := by decide +kernel
theorem dX8_worth_21 : decode cX8_worth 21 = .ok (.iload_n 1, 1) := by decide +kernel
theorem dX8_worth_22 : decode cX8_worth 22 = .ok (.iload_n 2, 1) := by decide +kernel
theorem dX8_worth_23 : decode cX8_worth 23 = .ok (.if_icmp .eq 14, 3) := by decide +kernel
theorem dX8_worth_26 : decode cX8_worth 26 = .ok (.iload 4, 2) := by decide +kernel
theorem dX8_worth_28 : decode cX8_worth 28 = .ok (.iconst 0, 1) := by decide +kernel
theorem dX8_worth_29 : decode cX8_worth 29 = .ok (.bipush 10, 2) := by decide +kernel
theorem dX8_worth_31 : decode cX8_worth 31 = .ok (.invokestatic 111, 3) := by decide +kernel
theorem dX8_worth_34 : decode cX8_worth 34 = .ok (.ifCond .ne 10, 3) := by decide +kernel
theorem dX8_worth_37 : decode cX8_worth 37 = .ok (.aload_n 0, 1) := by decide +kernel
theorem dX8_worth_38 : decode cX8_worth 38 = .ok (.ldc 123, 2) := by decide +kernel
theorem dX8_worth_40 : decode cX8_worth 40 = .ok (.invokevirtual 124, 3) := by decide +kernel
theorem dX8_worth_43 : decode cX8_worth 43 = .ok (.ireturn, 1) := by decide +kernel
theorem dX8_worth_44 : decode cX8_worth 44 = .ok (.aload_n 0, 1) := by decide +kernel
theorem dX8_worth_45 : decode cX8_worth 45 = .ok (.getfield 25, 3) := by decide +kernel
theorem dX8_worth_48 : decode cX8_worth 48 = .ok (.iload_n 1, 1) := by decide +kernel
theorem dX8_worth_49 : decode cX8_worth 49 = .ok (.iload_n 2, 1) := by decide +kernel
theorem dX8_worth_50 : decode cX8_worth 50 = .ok (.iload_n 3, 1) := by decide +kernel
theorem dX8_worth_51 : decode cX8_worth 51 = .ok (.invokestatic 142, 3) := by decide +kernel
theorem dX8_worth_54 : decode cX8_worth 54 = .ok (.iaload, 1) := by decide +kernel
theorem dX8_worth_55 : decode cX8_worth 55 = .ok (.istore 5, 2) := by decide +kernel
theorem dX8_worth_57 : decode cX8_worth 57 = .ok (.aload_n 0, 1) := by decide +kernel
theorem dX8_worth_58 : decode cX8_worth 58 = .ok (.getfield 25, 3) := by decide +kernel
theorem dX8_worth_61 : decode cX8_worth 61 = .ok (.iload_n 1, 1) := by decide +kernel
theorem dX8_worth_62 : decode cX8_worth 62 = .ok (.iload_n 2, 1) := by decide +kernel
theorem dX8_worth_63 : decode cX8_worth 63 = .ok (.iload_n 3, 1) := by decide +kernel
theorem dX8_worth_64 : decode cX8_worth 64 = .ok (.invokestatic 142, 3) := by decide +kernel
theorem dX8_worth_67 : decode cX8_worth 67 = .ok (.iload 4, 2) := by decide +kernel
theorem dX8_worth_69 : decode cX8_worth 69 = .ok (.iastore, 1) := by decide +kernel
theorem dX8_worth_70 : decode cX8_worth 70 = .ok (.iload 5, 2) := by decide +kernel
theorem dX8_worth_72 : decode cX8_worth 72 = .ok (.ireturn, 1) := by decide +kernel
theorem dX8_counts_0 : decode cX8_counts 0 = .ok (.iload_n 1, 1) := by decide +kernel
theorem dX8_counts_1 : decode cX8_counts 1 = .ok (.iload_n 2, 1) := by decide +kernel
theorem dX8_counts_2 : decode cX8_counts 2 = .ok (.if_icmp .ne 7, 3) := by decide +kernel
theorem dX8_counts_5 : decode cX8_counts 5 = .ok (.iload_n 3, 1) := by decide +kernel
theorem dX8_counts_6 : decode cX8_counts 6 = .ok (.goto 14, 3) := by decide +kernel
theorem dX8_counts_9 : decode cX8_counts 9 = .ok (.aload_n 0, 1) := by decide +kernel
theorem dX8_counts_10 : decode cX8_counts 10 = .ok (.getfield 25, 3) := by decide +kernel
theorem dX8_counts_13 : decode cX8_counts 13 = .ok (.iload_n 1, 1) := by decide +kernel
theorem dX8_counts_14 : decode cX8_counts 14 = .ok (.iload_n 2, 1) := by decide +kernel
theorem dX8_counts_15 : decode cX8_counts 15 = .ok (.iload_n 3, 1) := by decide +kernel
theorem dX8_counts_16 : decode cX8_counts 16 = .ok (.invokestatic 142, 3) := by decide +kernel
theorem dX8_counts_19 : decode cX8_counts 19 = .ok (.iaload, 1) := by decide +kernel
theorem dX8_counts_20 : decode cX8_counts 20 = .ok (.ireturn, 1) := by decide +kernel
theorem dX8_way_0 : decode cX8_way 0 = .ok (.iload_n 1, 1) := by decide +kernel
theorem dX8_way_1 : decode cX8_way 1 = .ok (.invokestatic 136, 3) := by decide +kernel
theorem dX8_way_4 : decode cX8_way 4 = .ok (.ifCond .eq 12, 3) := by decide +kernel
theorem dX8_way_7 : decode cX8_way 7 = .ok (.iload_n 2, 1) := by decide +kernel
theorem dX8_way_8 : decode cX8_way 8 = .ok (.iconst 0, 1) := by decide +kernel
theorem dX8_way_9 : decode cX8_way 9 = .ok (.iconst 1, 1) := by decide +kernel
theorem dX8_way_10 : decode cX8_way 10 = .ok (.invokestatic 111, 3) := by decide +kernel
theorem dX8_way_13 : decode cX8_way 13 = .ok (.ifCond .ne 10, 3) := by decide +kernel
theorem dX8_way_16 : decode cX8_way 16 = .ok (.aload_n 0, 1) := by decide +kernel
theorem dX8_way_17 : decode cX8_way 17 = .ok (.ldc 123, 2) := by decide +kernel
theorem dX8_way_19 : decode cX8_way 19 = .ok (.invokevirtual 124, 3) := by decide +kernel
theorem dX8_way_22 : decode cX8_way 22 = .ok (.ireturn, 1) := by decide +kernel
theorem dX8_way_23 : decode cX8_way 23 = .ok (.aload_n 0, 1) := by decide +kernel
theorem dX8_way_24 : decode cX8_way 24 = .ok (.getfield 28, 3) := by decide +kernel
theorem dX8_way_27 : decode cX8_way 27 = .ok (.iload_n 1, 1) := by decide +kernel
theorem dX8_way_28 : decode cX8_way 28 = .ok (.iaload, 1) := by decide +kernel
theorem dX8_way_29 : decode cX8_way 29 = .ok (.istore_n 3, 1) := by decide +kernel
theorem dX8_way_30 : decode cX8_way 30 = .ok (.aload_n 0, 1) := by decide +kernel
theorem dX8_way_31 : decode cX8_way 31 = .ok (.getfield 28, 3) := by decide +kernel
theorem dX8_way_34 : decode cX8_way 34 = .ok (.iload_n 1, 1) := by decide +kernel
theorem dX8_way_35 : decode cX8_way 35 = .ok (.iload_n 2, 1) := by decide +kernel
theorem dX8_way_36 : decode cX8_way 36 = .ok (.iastore, 1) := by decide +kernel
theorem dX8_way_37 : decode cX8_way 37 = .ok (.iload_n 3, 1) := by decide +kernel
theorem dX8_way_38 : decode cX8_way 38 = .ok (.ireturn, 1) := by decide +kernel
theorem dX8_rule_0 : decode cX8_rule 0 = .ok (.iload_n 1, 1) := by decide +kernel
theorem dX8_rule_1 : decode cX8_rule 1 = .ok (.ifCond .lt 61, 3) := by decide +kernel
theorem dX8_rule_4 : decode cX8_rule 4 = .ok (.iload_n 1, 1) := by decide +kernel
theorem dX8_rule_5 : decode cX8_rule 5 = .ok (.bipush 100, 2) := by decide +kernel
theorem dX8_rule_7 : decode cX8_rule 7 = .ok (.idiv, 1) := by decide +kernel
theorem dX8_rule_8 : decode cX8_rule 8 = .ok (.invokestatic 136, 3) := by decide +kernel
theorem dX8_rule_11 : decode cX8_rule 11 = .ok (.ifCond .eq 51, 3) := by decide +kernel
theorem dX8_rule_14 : decode cX8_rule 14 = .ok (.iload_n 1, 1) := by decide +kernel
theorem dX8_rule_15 : decode cX8_rule 15 = .ok (.bipush 100, 2) := by decide +kernel
theorem dX8_rule_17 : decode cX8_rule 17 = .ok (.irem, 1) := by decide +kernel
theorem dX8_rule_18 : decode cX8_rule 18 = .ok (.invokestatic 139, 3) := by decide +kernel
theorem dX8_rule_21 : decode cX8_rule 21 = .ok (.ifCond .eq 41, 3) := by decide +kernel
theorem dX8_rule_24 : decode cX8_rule 24 = .ok (.iload 5, 2) := by decide +kernel
theorem dX8_rule_26 : decode cX8_rule 26 = .ok (.ifCond .lt 36, 3) := by decide +kernel
theorem dX8_rule_29 : decode cX8_rule 29 = .ok (.iload 5, 2) := by decide +kernel
theorem dX8_rule_31 : decode cX8_rule 31 = .ok (.bipush 16, 2) := by decide +kernel
theorem dX8_rule_33 : decode cX8_rule 33 = .ok (.idiv, 1) := by decide +kernel
theorem dX8_rule_34 : decode cX8_rule 34 = .ok (.iconst 0, 1) := by decide +kernel
theorem dX8_rule_35 : decode cX8_rule 35 = .ok (.sipush 255, 3) := by decide +kernel
theorem dX8_rule_38 : decode cX8_rule 38 = .ok (.invokestatic 111, 3) := by decide +kernel
theorem dX8_rule_41 : decode cX8_rule 41 = .ok (.ifCond .eq 21, 3) := by decide +kernel
theorem dX8_rule_44 : decode cX8_rule 44 = .ok (.iload 5, 2) := by decide +kernel
theorem dX8_rule_46 : decode cX8_rule 46 = .ok (.bipush 16, 2) := by decide +kernel
theorem dX8_rule_48 : decode cX8_rule 48 = .ok (.irem, 1) := by decide +kernel
theorem dX8_rule_49 : decode cX8_rule 49 = .ok (.iconst 0, 1) := by decide +kernel
theorem dX8_rule_50 : decode cX8_rule 50 = .ok (.bipush 10, 2) := by decide +kernel
theorem dX8_rule_52 : decode cX8_rule 52 = .ok (.invokestatic 111, 3) := by decide +kernel
theorem dX8_rule_55 : decode cX8_rule 55 = .ok (.ifCond .eq 7, 3) := by decide +kernel
theorem dX8_rule_58 : decode cX8_rule 58 = .ok (.iconst 1, 1) := by decide +kernel
theorem dX8_rule_59 : decode cX8_rule 59 = .ok (.goto 4, 3) := by decide +kernel
theorem dX8_rule_62 : decode cX8_rule 62 = .ok (.iconst 0, 1) := by decide +kernel
theorem dX8_rule_63 : decode cX8_rule 63 = .ok (.istore 6, 2) := by decide +kernel
theorem dX8_rule_65 : decode cX8_rule 65 = .ok (.iload 6, 2) := by decide +kernel
theorem dX8_rule_67 : decode cX8_rule 67 = .ok (.ifCond .eq 33, 3) := by decide +kernel
theorem dX8_rule_70 : decode cX8_rule 70 = .ok (.iload_n 2, 1) := by decide +kernel
theorem dX8_rule_71 : decode cX8_rule 71 = .ok (.invokestatic 119, 3) := by decide +kernel
theorem dX8_rule_74 : decode cX8_rule 74 = .ok (.ifCond .eq 26, 3) := by decide +kernel
theorem dX8_rule_77 : decode cX8_rule 77 = .ok (.iload_n 3, 1) := by decide +kernel
theorem dX8_rule_78 : decode cX8_rule 78 = .ok (.iconst 0, 1) := by decide +kernel
theorem dX8_rule_79 : decode cX8_rule 79 = .ok (.sipush 4000, 3) := by decide +kernel
theorem dX8_rule_82 : decode cX8_rule 82 = .ok (.invokestatic 111, 3) := by decide +kernel
theorem dX8_rule_85 : decode cX8_rule 85 = .ok (.ifCond .eq 15, 3) := by decide +kernel
theorem dX8_rule_88 : decode cX8_rule 88 = .ok (.iload 4, 2) := by decide +kernel
theorem dX8_rule_90 : decode cX8_rule 90 = .ok (.iconst 0, 1) := by decide +kernel
theorem dX8_rule_91 : decode cX8_rule 91 = .ok (.sipush 20000, 3) := by decide +kernel
theorem dX8_rule_94 : decode cX8_rule 94 = .ok (.invokestatic 111, 3) := by decide +kernel
theorem dX8_rule_97 : decode cX8_rule 97 = .ok (.ifCond .ne 10, 3) := by decide +kernel
theorem dX8_rule_100 : decode cX8_rule 100 = .ok (.aload_n 0, 1) := by decide +kernel
theorem dX8_rule_101 : decode cX8_rule 101 = .ok (.ldc 123, 2) := by decide +kernel
theorem dX8_rule_103 : decode cX8_rule 103 = .ok (.invokevirtual 124, 3) := by decide +kernel
theorem dX8_rule_106 : decode cX8_rule 106 = .ok (.ireturn, 1) := by decide +kernel
theorem dX8_rule_107 : decode cX8_rule 107 = .ok (.aload_n 0, 1) := by decide +kernel
theorem dX8_rule_108 : decode cX8_rule 108 = .ok (.getfield 146, 3) := by decide +kernel
theorem dX8_rule_111 : decode cX8_rule 111 = .ok (.bipush 40, 2) := by decide +kernel
theorem dX8_rule_113 : decode cX8_rule 113 = .ok (.if_icmp .ne 10, 3) := by decide +kernel
theorem dX8_rule_116 : decode cX8_rule 116 = .ok (.aload_n 0, 1) := by decide +kernel
theorem dX8_rule_117 : decode cX8_rule 117 = .ok (.ldc 131, 2) := by decide +kernel
theorem dX8_rule_119 : decode cX8_rule 119 = .ok (.invokevirtual 124, 3) := by decide +kernel
theorem dX8_rule_122 : decode cX8_rule 122 = .ok (.ireturn, 1) := by decide +kernel
theorem dX8_rule_123 : decode cX8_rule 123 = .ok (.aload_n 0, 1) := by decide +kernel
theorem dX8_rule_124 : decode cX8_rule 124 = .ok (.getfield 31, 3) := by decide +kernel
theorem dX8_rule_127 : decode cX8_rule 127 = .ok (.aload_n 0, 1) := by decide +kernel
theorem dX8_rule_128 : decode cX8_rule 128 = .ok (.getfield 146, 3) := by decide +kernel
theorem dX8_rule_131 : decode cX8_rule 131 = .ok (.iload_n 1, 1) := by decide +kernel
theorem dX8_rule_132 : decode cX8_rule 132 = .ok (.iastore, 1) := by decide +kernel
theorem dX8_rule_133 : decode cX8_rule 133 = .ok (.aload_n 0, 1) := by decide +kernel
theorem dX8_rule_134 : decode cX8_rule 134 = .ok (.getfield 34, 3) := by decide +kernel
theorem dX8_rule_137 : decode cX8_rule 137 = .ok (.aload_n 0, 1) := by decide +kernel
theorem dX8_rule_138 : decode cX8_rule 138 = .ok (.getfield 146, 3) := by decide +kernel
theorem dX8_rule_141 : decode cX8_rule 141 = .ok (.iload_n 2, 1) := by decide +kernel
theorem dX8_rule_142 : decode cX8_rule 142 = .ok (.iastore, 1) := by decide +kernel
theorem dX8_rule_143 : decode cX8_rule 143 = .ok (.aload_n 0, 1) := by decide +kernel
theorem dX8_rule_144 : decode cX8_rule 144 = .ok (.getfield 37, 3) := by decide +kernel
theorem dX8_rule_147 : decode cX8_rule 147 = .ok (.aload_n 0, 1) := by decide +kernel
theorem dX8_rule_148 : decode cX8_rule 148 = .ok (.getfield 146, 3) := by decide +kernel
theorem dX8_rule_151 : decode cX8_rule 151 = .ok (.iload_n 3, 1) := by decide +kernel
theorem dX8_rule_152 : decode cX8_rule 152 = .ok (.iastore, 1) := by decide +kernel
theorem dX8_rule_153 : decode cX8_rule 153 = .ok (.aload_n 0, 1) := by decide +kernel
theorem dX8_rule_154 : decode cX8_rule 154 = .ok (.getfield 40, 3) := by decide +kernel
theorem dX8_rule_157 : decode cX8_rule 157 = .ok (.aload_n 0, 1) := by decide +kernel
theorem dX8_rule_158 : decode cX8_rule 158 = .ok (.getfield 146, 3) := by decide +kernel
theorem dX8_rule_161 : decode cX8_rule 161 = .ok (.iload 4, 2) := by decide +kernel
theorem dX8_rule_163 : decode cX8_rule 163 = .ok (.iastore, 1) := by decide +kernel
theorem dX8_rule_164 : decode cX8_rule 164 = .ok (.aload_n 0, 1) := by decide +kernel
theorem dX8_rule_165 : decode cX8_rule 165 = .ok (.getfield 43, 3) := by decide +kernel
theorem dX8_rule_168 : decode cX8_rule 168 = .ok (.aload_n 0, 1) := by decide +kernel
theorem dX8_rule_169 : decode cX8_rule 169 = .ok (.getfield 146, 3) := by decide +kernel
theorem dX8_rule_172 : decode cX8_rule 172 = .ok (.iload 5, 2) := by decide +kernel
theorem dX8_rule_174 : decode cX8_rule 174 = .ok (.bipush 16, 2) := by decide +kernel
theorem dX8_rule_176 : decode cX8_rule 176 = .ok (.idiv, 1) := by decide +kernel
theorem dX8_rule_177 : decode cX8_rule 177 = .ok (.iastore, 1) := by decide +kernel
theorem dX8_rule_178 : decode cX8_rule 178 = .ok (.aload_n 0, 1) := by decide +kernel
theorem dX8_rule_179 : decode cX8_rule 179 = .ok (.getfield 46, 3) := by decide +kernel
theorem dX8_rule_182 : decode cX8_rule 182 = .ok (.aload_n 0, 1) := by decide +kernel
theorem dX8_rule_183 : decode cX8_rule 183 = .ok (.getfield 146, 3) := by decide +kernel
theorem dX8_rule_186 : decode cX8_rule 186 = .ok (.iload 5, 2) := by decide +kernel
theorem dX8_rule_188 : decode cX8_rule 188 = .ok (.bipush 16, 2) := by decide +kernel
theorem dX8_rule_190 : decode cX8_rule 190 = .ok (.irem, 1) := by decide +kernel
theorem dX8_rule_191 : decode cX8_rule 191 = .ok (.iastore, 1) := by decide +kernel
theorem dX8_rule_192 : decode cX8_rule 192 = .ok (.aload_n 0, 1) := by decide +kernel
theorem dX8_rule_193 : decode cX8_rule 193 = .ok (.dup, 1) := by decide +kernel
theorem dX8_rule_194 : decode cX8_rule 194 = .ok (.getfield 146, 3) := by decide +kernel
theorem dX8_rule_197 : decode cX8_rule 197 = .ok (.iconst 1, 1) := by decide +kernel
theorem dX8_rule_198 : decode cX8_rule 198 = .ok (.iadd, 1) := by decide +kernel
theorem dX8_rule_199 : decode cX8_rule 199 = .ok (.putfield 146, 3) := by decide +kernel
theorem dX8_rule_202 : decode cX8_rule 202 = .ok (.aload_n 0, 1) := by decide +kernel
theorem dX8_rule_203 : decode cX8_rule 203 = .ok (.getfield 146, 3) := by decide +kernel
theorem dX8_rule_206 : decode cX8_rule 206 = .ok (.ireturn, 1) := by decide +kernel
theorem dX8_ruleOf_0 : decode cX8_ruleOf 0 = .ok (.iconst (-1), 1) := by decide +kernel
theorem dX8_ruleOf_1 : decode cX8_ruleOf 1 = .ok (.istore 4, 2) := by decide +kernel
theorem dX8_ruleOf_3 : decode cX8_ruleOf 3 = .ok (.iconst 0, 1) := by decide +kernel
theorem dX8_ruleOf_4 : decode cX8_ruleOf 4 = .ok (.istore 5, 2) := by decide +kernel
theorem dX8_ruleOf_6 : decode cX8_ruleOf 6 = .ok (.iload 5, 2) := by decide +kernel
theorem dX8_ruleOf_8 : decode cX8_ruleOf 8 = .ok (.aload_n 0, 1) := by decide +kernel
theorem dX8_ruleOf_9 : decode cX8_ruleOf 9 = .ok (.getfield 146, 3) := by decide +kernel
theorem dX8_ruleOf_12 : decode cX8_ruleOf 12 = .ok (.if_icmp .ge 79, 3) := by decide +kernel
theorem dX8_ruleOf_15 : decode cX8_ruleOf 15 = .ok (.aload_n 0, 1) := by decide +kernel
theorem dX8_ruleOf_16 : decode cX8_ruleOf 16 = .ok (.getfield 31, 3) := by decide +kernel
theorem dX8_ruleOf_19 : decode cX8_ruleOf 19 = .ok (.iload 5, 2) := by decide +kernel
theorem dX8_ruleOf_21 : decode cX8_ruleOf 21 = .ok (.iaload, 1) := by decide +kernel
theorem dX8_ruleOf_22 : decode cX8_ruleOf 22 = .ok (.bipush 100, 2) := by decide +kernel
theorem dX8_ruleOf_24 : decode cX8_ruleOf 24 = .ok (.iload_n 1, 1) := by decide +kernel
theorem dX8_ruleOf_25 : decode cX8_ruleOf 25 = .ok (.imul, 1) := by decide +kernel
theorem dX8_ruleOf_26 : decode cX8_ruleOf 26 = .ok (.iload_n 2, 1) := by decide +kernel
theorem dX8_ruleOf_27 : decode cX8_ruleOf 27 = .ok (.iadd, 1) := by decide +kernel
theorem dX8_ruleOf_28 : decode cX8_ruleOf 28 = .ok (.if_icmp .ne 18, 3) := by decide +kernel
theorem dX8_ruleOf_31 : decode cX8_ruleOf 31 = .ok (.aload_n 0, 1) := by decide +kernel
theorem dX8_ruleOf_32 : decode cX8_ruleOf 32 = .ok (.getfield 34, 3) := by decide +kernel
theorem dX8_ruleOf_35 : decode cX8_ruleOf 35 = .ok (.iload 5, 2) := by decide +kernel
theorem dX8_ruleOf_37 : decode cX8_ruleOf 37 = .ok (.iaload, 1) := by decide +kernel
theorem dX8_ruleOf_38 : decode cX8_ruleOf 38 = .ok (.iload_n 3, 1) := by decide +kernel
theorem dX8_ruleOf_39 : decode cX8_ruleOf 39 = .ok (.if_icmp .gt 7, 3) := by decide +kernel
theorem dX8_ruleOf_42 : decode cX8_ruleOf 42 = .ok (.iconst 1, 1) := by decide +kernel
theorem dX8_ruleOf_43 : decode cX8_ruleOf 43 = .ok (.goto 4, 3) := by decide +kernel
theorem dX8_ruleOf_46 : decode cX8_ruleOf 46 = .ok (.iconst 0, 1) := by decide +kernel
theorem dX8_ruleOf_47 : decode cX8_ruleOf 47 = .ok (.istore 6, 2) := by decide +kernel
theorem dX8_ruleOf_49 : decode cX8_ruleOf 49 = .ok (.iload 6, 2) := by decide +kernel
theorem dX8_ruleOf_51 : decode cX8_ruleOf 51 = .ok (.ifCond .eq 30, 3) := by decide +kernel
theorem dX8_ruleOf_54 : decode cX8_ruleOf 54 = .ok (.iload 4, 2) := by decide +kernel
theorem dX8_ruleOf_56 : decode cX8_ruleOf 56 = .ok (.ifCond .lt 20, 3) := by decide +kernel
theorem dX8_ruleOf_59 : decode cX8_ruleOf 59 = .ok (.aload_n 0, 1) := by decide +kernel
theorem dX8_ruleOf_60 : decode cX8_ruleOf 60 = .ok (.getfield 34, 3) := by decide +kernel
theorem dX8_ruleOf_63 : decode cX8_ruleOf 63 = .ok (.iload 5, 2) := by decide +kernel
theorem dX8_ruleOf_65 : decode cX8_ruleOf 65 = .ok (.iaload, 1) := by decide +kernel
theorem dX8_ruleOf_66 : decode cX8_ruleOf 66 = .ok (.aload_n 0, 1) := by decide +kernel
theorem dX8_ruleOf_67 : decode cX8_ruleOf 67 = .ok (.getfield 34, 3) := by decide +kernel
theorem dX8_ruleOf_70 : decode cX8_ruleOf 70 = .ok (.iload 4, 2) := by decide +kernel
theorem dX8_ruleOf_72 : decode cX8_ruleOf 72 = .ok (.iaload, 1) := by decide +kernel
theorem dX8_ruleOf_73 : decode cX8_ruleOf 73 = .ok (.if_icmp .lt 8, 3) := by decide +kernel
theorem dX8_ruleOf_76 : decode cX8_ruleOf 76 = .ok (.iload 5, 2) := by decide +kernel
theorem dX8_ruleOf_78 : decode cX8_ruleOf 78 = .ok (.goto 5, 3) := by decide +kernel
theorem dX8_ruleOf_81 : decode cX8_ruleOf 81 = .ok (.iload 4, 2) := by decide +kernel
theorem dX8_ruleOf_83 : decode cX8_ruleOf 83 = .ok (.istore 4, 2) := by decide +kernel
theorem dX8_ruleOf_85 : decode cX8_ruleOf 85 = .ok (.iinc 5 1, 3) := by decide +kernel
theorem dX8_ruleOf_88 : decode cX8_ruleOf 88 = .ok (.goto (-82), 3) := by decide +kernel
theorem dX8_ruleOf_91 : decode cX8_ruleOf 91 = .ok (.iload 4, 2) := by decide +kernel
theorem dX8_ruleOf_93 : decode cX8_ruleOf 93 = .ok (.ireturn, 1) := by decide +kernel
theorem dX8_force_0 : decode cX8_force 0 = .ok (.iload_n 1, 1) := by decide +kernel
theorem dX8_force_1 : decode cX8_force 1 = .ok (.invokestatic 136, 3) := by decide +kernel
theorem dX8_force_4 : decode cX8_force 4 = .ok (.ifCond .eq 17, 3) := by decide +kernel
theorem dX8_force_7 : decode cX8_force 7 = .ok (.iload_n 2, 1) := by decide +kernel
theorem dX8_force_8 : decode cX8_force 8 = .ok (.invokestatic 139, 3) := by decide +kernel
theorem dX8_force_11 : decode cX8_force 11 = .ok (.ifCond .eq 10, 3) := by decide +kernel
theorem dX8_force_14 : decode cX8_force 14 = .ok (.iload_n 3, 1) := by decide +kernel
theorem dX8_force_15 : decode cX8_force 15 = .ok (.invokestatic 119, 3) := by decide +kernel
theorem dX8_force_18 : decode cX8_force 18 = .ok (.ifCond .ne 10, 3) := by decide +kernel
theorem dX8_force_21 : decode cX8_force 21 = .ok (.aload_n 0, 1) := by decide +kernel
theorem dX8_force_22 : decode cX8_force 22 = .ok (.ldc 123, 2) := by decide +kernel
theorem dX8_force_24 : decode cX8_force 24 = .ok (.invokevirtual 124, 3) := by decide +kernel
theorem dX8_force_27 : decode cX8_force 27 = .ok (.ireturn, 1) := by decide +kernel
theorem dX8_force_28 : decode cX8_force 28 = .ok (.aload_n 0, 1) := by decide +kernel
theorem dX8_force_29 : decode cX8_force 29 = .ok (.iload_n 1, 1) := by decide +kernel
theorem dX8_force_30 : decode cX8_force 30 = .ok (.iload_n 2, 1) := by decide +kernel
theorem dX8_force_31 : decode cX8_force 31 = .ok (.iload_n 3, 1) := by decide +kernel
theorem dX8_force_32 : decode cX8_force 32 = .ok (.invokevirtual 149, 3) := by decide +kernel
theorem dX8_force_35 : decode cX8_force 35 = .ok (.istore 4, 2) := by decide +kernel
theorem dX8_force_37 : decode cX8_force 37 = .ok (.iload 4, 2) := by decide +kernel
theorem dX8_force_39 : decode cX8_force 39 = .ok (.ifCond .ge 12, 3) := by decide +kernel
theorem dX8_force_42 : decode cX8_force 42 = .ok (.aload_n 0, 1) := by decide +kernel
theorem dX8_force_43 : decode cX8_force 43 = .ok (.ldc 152, 2) := by decide +kernel
theorem dX8_force_45 : decode cX8_force 45 = .ok (.invokevirtual 124, 3) := by decide +kernel
theorem dX8_force_48 : decode cX8_force 48 = .ok (.goto 5, 3) := by decide +kernel
theorem dX8_force_51 : decode cX8_force 51 = .ok (.iload 4, 2) := by decide +kernel
theorem dX8_force_53 : decode cX8_force 53 = .ok (.ireturn, 1) := by decide +kernel
theorem dX8_isStruck_0 : decode cX8_isStruck 0 = .ok (.iconst 0, 1) := by decide +kernel
theorem dX8_isStruck_1 : decode cX8_isStruck 1 = .ok (.istore 4, 2) := by decide +kernel
theorem dX8_isStruck_3 : decode cX8_isStruck 3 = .ok (.iconst 0, 1) := by decide +kernel
theorem dX8_isStruck_4 : decode cX8_isStruck 4 = .ok (.istore 5, 2) := by decide +kernel
theorem dX8_isStruck_6 : decode cX8_isStruck 6 = .ok (.iload 5, 2) := by decide +kernel
theorem dX8_isStruck_8 : decode cX8_isStruck 8 = .ok (.aload_n 0, 1) := by decide +kernel
theorem dX8_isStruck_9 : decode cX8_isStruck 9 = .ok (.getfield 153, 3) := by decide +kernel
theorem dX8_isStruck_12 : decode cX8_isStruck 12 = .ok (.if_icmp .ge 54, 3) := by decide +kernel
theorem dX8_isStruck_15 : decode cX8_isStruck 15 = .ok (.iload 4, 2) := by decide +kernel
theorem dX8_isStruck_17 : decode cX8_isStruck 17 = .ok (.ifCond .ne 36, 3) := by decide +kernel
theorem dX8_isStruck_20 : decode cX8_isStruck 20 = .ok (.aload_n 0, 1) := by decide +kernel
theorem dX8_isStruck_21 : decode cX8_isStruck 21 = .ok (.getfield 64, 3) := by decide +kernel
theorem dX8_isStruck_24 : decode cX8_isStruck 24 = .ok (.iload 5, 2) := by decide +kernel
theorem dX8_isStruck_26 : decode cX8_isStruck 26 = .ok (.iaload, 1) := by decide +kernel
theorem dX8_isStruck_27 : decode cX8_isStruck 27 = .ok (.iload_n 1, 1) := by decide +kernel
theorem dX8_isStruck_28 : decode cX8_isStruck 28 = .ok (.if_icmp .ne 29, 3) := by decide +kernel
theorem dX8_isStruck_31 : decode cX8_isStruck 31 = .ok (.aload_n 0, 1) := by decide +kernel
theorem dX8_isStruck_32 : decode cX8_isStruck 32 = .ok (.getfield 67, 3) := by decide +kernel
theorem dX8_isStruck_35 : decode cX8_isStruck 35 = .ok (.iload 5, 2) := by decide +kernel
theorem dX8_isStruck_37 : decode cX8_isStruck 37 = .ok (.iaload, 1) := by decide +kernel
theorem dX8_isStruck_38 : decode cX8_isStruck 38 = .ok (.iload_n 2, 1) := by decide +kernel
theorem dX8_isStruck_39 : decode cX8_isStruck 39 = .ok (.if_icmp .gt 18, 3) := by decide +kernel
theorem dX8_isStruck_42 : decode cX8_isStruck 42 = .ok (.aload_n 0, 1) := by decide +kernel
theorem dX8_isStruck_43 : decode cX8_isStruck 43 = .ok (.getfield 70, 3) := by decide +kernel
theorem dX8_isStruck_46 : decode cX8_isStruck 46 = .ok (.iload 5, 2) := by decide +kernel
theorem dX8_isStruck_48 : decode cX8_isStruck 48 = .ok (.iaload, 1) := by decide +kernel
theorem dX8_isStruck_49 : decode cX8_isStruck 49 = .ok (.iload_n 3, 1) := by decide +kernel
theorem dX8_isStruck_50 : decode cX8_isStruck 50 = .ok (.if_icmp .gt 7, 3) := by decide +kernel
theorem dX8_isStruck_53 : decode cX8_isStruck 53 = .ok (.iconst 1, 1) := by decide +kernel
theorem dX8_isStruck_54 : decode cX8_isStruck 54 = .ok (.goto 4, 3) := by decide +kernel
theorem dX8_isStruck_57 : decode cX8_isStruck 57 = .ok (.iconst 0, 1) := by decide +kernel
theorem dX8_isStruck_58 : decode cX8_isStruck 58 = .ok (.istore 4, 2) := by decide +kernel
theorem dX8_isStruck_60 : decode cX8_isStruck 60 = .ok (.iinc 5 1, 3) := by decide +kernel
theorem dX8_isStruck_63 : decode cX8_isStruck 63 = .ok (.goto (-57), 3) := by decide +kernel
theorem dX8_isStruck_66 : decode cX8_isStruck 66 = .ok (.iload 4, 2) := by decide +kernel
theorem dX8_isStruck_68 : decode cX8_isStruck 68 = .ok (.ireturn, 1) := by decide +kernel
theorem dX8_falls_0 : decode cX8_falls 0 = .ok (.iconst 0, 1) := by decide +kernel
theorem dX8_falls_1 : decode cX8_falls 1 = .ok (.istore_n 3, 1) := by decide +kernel
theorem dX8_falls_2 : decode cX8_falls 2 = .ok (.iconst 0, 1) := by decide +kernel
theorem dX8_falls_3 : decode cX8_falls 3 = .ok (.istore 4, 2) := by decide +kernel
theorem dX8_falls_5 : decode cX8_falls 5 = .ok (.iload 4, 2) := by decide +kernel
theorem dX8_falls_7 : decode cX8_falls 7 = .ok (.aload_n 0, 1) := by decide +kernel
theorem dX8_falls_8 : decode cX8_falls 8 = .ok (.getfield 115, 3) := by decide +kernel
theorem dX8_falls_11 : decode cX8_falls 11 = .ok (.if_icmp .ge 50, 3) := by decide +kernel
theorem dX8_falls_14 : decode cX8_falls 14 = .ok (.iload_n 3, 1) := by decide +kernel
theorem dX8_falls_15 : decode cX8_falls 15 = .ok (.ifCond .ne 34, 3) := by decide +kernel
theorem dX8_falls_18 : decode cX8_falls 18 = .ok (.aload_n 0, 1) := by decide +kernel
theorem dX8_falls_19 : decode cX8_falls 19 = .ok (.getfield 61, 3) := by decide +kernel
theorem dX8_falls_22 : decode cX8_falls 22 = .ok (.iload_n 1, 1) := by decide +kernel
theorem dX8_falls_23 : decode cX8_falls 23 = .ok (.iaload, 1) := by decide +kernel
theorem dX8_falls_24 : decode cX8_falls 24 = .ok (.iload 4, 2) := by decide +kernel
theorem dX8_falls_26 : decode cX8_falls 26 = .ok (.ishr, 1) := by decide +kernel
theorem dX8_falls_27 : decode cX8_falls 27 = .ok (.iconst 1, 1) := by decide +kernel
theorem dX8_falls_28 : decode cX8_falls 28 = .ok (.iand, 1) := by decide +kernel
theorem dX8_falls_29 : decode cX8_falls 29 = .ok (.iconst 1, 1) := by decide +kernel
theorem dX8_falls_30 : decode cX8_falls 30 = .ok (.if_icmp .ne 23, 3) := by decide +kernel
theorem dX8_falls_33 : decode cX8_falls 33 = .ok (.aload_n 0, 1) := by decide +kernel
theorem dX8_falls_34 : decode cX8_falls 34 = .ok (.iload 4, 2) := by decide +kernel
theorem dX8_falls_36 : decode cX8_falls 36 = .ok (.aload_n 0, 1) := by decide +kernel
theorem dX8_falls_37 : decode cX8_falls 37 = .ok (.getfield 58, 3) := by decide +kernel
theorem dX8_falls_40 : decode cX8_falls 40 = .ok (.iload_n 1, 1) := by decide +kernel
theorem dX8_falls_41 : decode cX8_falls 41 = .ok (.iaload, 1) := by decide +kernel
theorem dX8_falls_42 : decode cX8_falls 42 = .ok (.iload_n 2, 1) := by decide +kernel
theorem dX8_falls_43 : decode cX8_falls 43 = .ok (.invokevirtual 156, 3) := by decide +kernel
theorem dX8_falls_46 : decode cX8_falls 46 = .ok (.ifCond .eq 7, 3) := by decide +kernel
theorem dX8_falls_49 : decode cX8_falls 49 = .ok (.iconst 1, 1) := by decide +kernel
theorem dX8_falls_50 : decode cX8_falls 50 = .ok (.goto 4, 3) := by decide +kernel
theorem dX8_falls_53 : decode cX8_falls 53 = .ok (.iconst 0, 1) := by decide +kernel
theorem dX8_falls_54 : decode cX8_falls 54 = .ok (.istore_n 3, 1) := by decide +kernel
theorem dX8_falls_55 : decode cX8_falls 55 = .ok (.iinc 4 1, 3) := by decide +kernel
theorem dX8_falls_58 : decode cX8_falls 58 = .ok (.goto (-53), 3) := by decide +kernel
theorem dX8_falls_61 : decode cX8_falls 61 = .ok (.iload_n 3, 1) := by decide +kernel
theorem dX8_falls_62 : decode cX8_falls 62 = .ok (.ifCond .eq 22, 3) := by decide +kernel
theorem dX8_falls_65 : decode cX8_falls 65 = .ok (.aload_n 0, 1) := by decide +kernel
theorem dX8_falls_66 : decode cX8_falls 66 = .ok (.getfield 28, 3) := by decide +kernel
theorem dX8_falls_69 : decode cX8_falls 69 = .ok (.aload_n 0, 1) := by decide +kernel
theorem dX8_falls_70 : decode cX8_falls 70 = .ok (.getfield 52, 3) := by decide +kernel
theorem dX8_falls_73 : decode cX8_falls 73 = .ok (.iload_n 1, 1) := by decide +kernel
theorem dX8_falls_74 : decode cX8_falls 74 = .ok (.iaload, 1) := by decide +kernel
theorem dX8_falls_75 : decode cX8_falls 75 = .ok (.iaload, 1) := by decide +kernel
theorem dX8_falls_76 : decode cX8_falls 76 = .ok (.iconst 1, 1) := by decide +kernel
theorem dX8_falls_77 : decode cX8_falls 77 = .ok (.if_icmp .ne 7, 3) := by decide +kernel
theorem dX8_falls_80 : decode cX8_falls 80 = .ok (.iconst 1, 1) := by decide +kernel
theorem dX8_falls_81 : decode cX8_falls 81 = .ok (.goto 4, 3) := by decide +kernel
theorem dX8_falls_84 : decode cX8_falls 84 = .ok (.iconst 0, 1) := by decide +kernel
theorem dX8_falls_85 : decode cX8_falls 85 = .ok (.ireturn, 1) := by decide +kernel
theorem dX8_findStanding_0 : decode cX8_findStanding 0 = .ok (.iconst 0, 1) := by decide +kernel
theorem dX8_findStanding_1 : decode cX8_findStanding 1 = .ok (.istore_n 2, 1) := by decide +kernel
theorem dX8_findStanding_2 : decode cX8_findStanding 2 = .ok (.iload_n 2, 1) := by decide +kernel
theorem dX8_findStanding_3 : decode cX8_findStanding 3 = .ok (.aload_n 0, 1) := by decide +kernel
theorem dX8_findStanding_4 : decode cX8_findStanding 4 = .ok (.getfield 159, 3) := by decide +kernel
theorem dX8_findStanding_7 : decode cX8_findStanding 7 = .ok (.if_icmp .ge 123, 3) := by decide +kernel
theorem dX8_findStanding_10 : decode cX8_findStanding 10 = .ok (.iconst 0, 1) := by decide +kernel
theorem dX8_findStanding_11 : decode cX8_findStanding 11 = .ok (.istore_n 3, 1) := by decide +kernel
theorem dX8_findStanding_12 : decode cX8_findStanding 12 = .ok (.iconst 0, 1) := by decide +kernel
theorem dX8_findStanding_13 : decode cX8_findStanding 13 = .ok (.istore 4, 2) := by decide +kernel
theorem dX8_findStanding_15 : decode cX8_findStanding 15 = .ok (.iload 4, 2) := by decide +kernel
theorem dX8_findStanding_17 : decode cX8_findStanding 17 = .ok (.iload_n 2, 1) := by decide +kernel
theorem dX8_findStanding_18 : decode cX8_findStanding 18 = .ok (.if_icmp .ge 64, 3) := by decide +kernel
theorem dX8_findStanding_21 : decode cX8_findStanding 21 = .ok (.aload_n 0, 1) := by decide +kernel
theorem dX8_findStanding_22 : decode cX8_findStanding 22 = .ok (.getfield 94, 3) := by decide +kernel
theorem dX8_findStanding_25 : decode cX8_findStanding 25 = .ok (.iload 4, 2) := by decide +kernel
theorem dX8_findStanding_27 : decode cX8_findStanding 27 = .ok (.baload, 1) := by decide +kernel
theorem dX8_findStanding_28 : decode cX8_findStanding 28 = .ok (.ifCond .eq 48, 3) := by decide +kernel
theorem dX8_findStanding_31 : decode cX8_findStanding 31 = .ok (.aload_n 0, 1) := by decide +kernel
theorem dX8_findStanding_32 : decode cX8_findStanding 32 = .ok (.getfield 49, 3) := by decide +kernel
theorem dX8_findStanding_35 : decode cX8_findStanding 35 = .ok (.iload 4, 2) := by decide +kernel
theorem dX8_findStanding_37 : decode cX8_findStanding 37 = .ok (.iaload, 1) := by decide +kernel
theorem dX8_findStanding_38 : decode cX8_findStanding 38 = .ok (.aload_n 0, 1) := by decide +kernel
theorem dX8_findStanding_39 : decode cX8_findStanding 39 = .ok (.getfield 49, 3) := by decide +kernel
theorem dX8_findStanding_42 : decode cX8_findStanding 42 = .ok (.iload_n 2, 1) := by decide +kernel
theorem dX8_findStanding_43 : decode cX8_findStanding 43 = .ok (.iaload, 1) := by decide +kernel
theorem dX8_findStanding_44 : decode cX8_findStanding 44 = .ok (.if_icmp .ne 32, 3) := by decide +kernel
theorem dX8_findStanding_47 : decode cX8_findStanding 47 = .ok (.iload_n 3, 1) := by decide +kernel
theorem dX8_findStanding_48 : decode cX8_findStanding 48 = .ok (.aload_n 0, 1) := by decide +kernel
theorem dX8_findStanding_49 : decode cX8_findStanding 49 = .ok (.aload_n 0, 1) := by decide +kernel
theorem dX8_findStanding_50 : decode cX8_findStanding 50 = .ok (.getfield 52, 3) := by decide +kernel
theorem dX8_findStanding_53 : decode cX8_findStanding 53 = .ok (.iload_n 2, 1) := by decide +kernel
theorem dX8_findStanding_54 : decode cX8_findStanding 54 = .ok (.iaload, 1) := by decide +kernel
theorem dX8_findStanding_55 : decode cX8_findStanding 55 = .ok (.aload_n 0, 1) := by decide +kernel
theorem dX8_findStanding_56 : decode cX8_findStanding 56 = .ok (.getfield 52, 3) := by decide +kernel
theorem dX8_findStanding_59 : decode cX8_findStanding 59 = .ok (.iload 4, 2) := by decide +kernel
theorem dX8_findStanding_61 : decode cX8_findStanding 61 = .ok (.iaload, 1) := by decide +kernel
theorem dX8_findStanding_62 : decode cX8_findStanding 62 = .ok (.aload_n 0, 1) := by decide +kernel
theorem dX8_findStanding_63 : decode cX8_findStanding 63 = .ok (.getfield 55, 3) := by decide +kernel
theorem dX8_findStanding_66 : decode cX8_findStanding 66 = .ok (.iload 4, 2) := by decide +kernel
theorem dX8_findStanding_68 : decode cX8_findStanding 68 = .ok (.iaload, 1) := by decide +kernel
theorem dX8_findStanding_69 : decode cX8_findStanding 69 = .ok (.invokevirtual 162, 3) := by decide +kernel
theorem dX8_findStanding_72 : decode cX8_findStanding 72 = .ok (.invokestatic 165, 3) := by decide +kernel
theorem dX8_findStanding_75 : decode cX8_findStanding 75 = .ok (.istore_n 3, 1) := by decide +kernel
theorem dX8_findStanding_76 : decode cX8_findStanding 76 = .ok (.iinc 4 1, 3) := by decide +kernel
theorem dX8_findStanding_79 : decode cX8_findStanding 79 = .ok (.goto (-64), 3) := by decide +kernel
theorem dX8_findStanding_82 : decode cX8_findStanding 82 = .ok (.aload_n 0, 1) := by decide +kernel
theorem dX8_findStanding_83 : decode cX8_findStanding 83 = .ok (.getfield 94, 3) := by decide +kernel
theorem dX8_findStanding_86 : decode cX8_findStanding 86 = .ok (.iload_n 2, 1) := by decide +kernel
theorem dX8_findStanding_87 : decode cX8_findStanding 87 = .ok (.aload_n 0, 1) := by decide +kernel
theorem dX8_findStanding_88 : decode cX8_findStanding 88 = .ok (.iload_n 2, 1) := by decide +kernel
theorem dX8_findStanding_89 : decode cX8_findStanding 89 = .ok (.iload_n 1, 1) := by decide +kernel
theorem dX8_findStanding_90 : decode cX8_findStanding 90 = .ok (.invokevirtual 171, 3) := by decide +kernel
theorem dX8_findStanding_93 : decode cX8_findStanding 93 = .ok (.ifCond .ne 29, 3) := by decide +kernel
theorem dX8_findStanding_96 : decode cX8_findStanding 96 = .ok (.aload_n 0, 1) := by decide +kernel
theorem dX8_findStanding_97 : decode cX8_findStanding 97 = .ok (.getfield 55, 3) := by decide +kernel
theorem dX8_findStanding_100 : decode cX8_findStanding 100 = .ok (.iload_n 2, 1) := by decide +kernel
theorem dX8_findStanding_101 : decode cX8_findStanding 101 = .ok (.iaload, 1) := by decide +kernel
theorem dX8_findStanding_102 : decode cX8_findStanding 102 = .ok (.iconst 1, 1) := by decide +kernel
theorem dX8_findStanding_103 : decode cX8_findStanding 103 = .ok (.if_icmp .eq 15, 3) := by decide +kernel
theorem dX8_findStanding_106 : decode cX8_findStanding 106 = .ok (.iload_n 3, 1) := by decide +kernel
theorem dX8_findStanding_107 : decode cX8_findStanding 107 = .ok (.aload_n 0, 1) := by decide +kernel
theorem dX8_findStanding_108 : decode cX8_findStanding 108 = .ok (.getfield 55, 3) := by decide +kernel
theorem dX8_findStanding_111 : decode cX8_findStanding 111 = .ok (.iload_n 2, 1) := by decide +kernel
theorem dX8_findStanding_112 : decode cX8_findStanding 112 = .ok (.iaload, 1) := by decide +kernel
theorem dX8_findStanding_113 : decode cX8_findStanding 113 = .ok (.iconst 1, 1) := by decide +kernel
theorem dX8_findStanding_114 : decode cX8_findStanding 114 = .ok (.isub, 1) := by decide +kernel
theorem dX8_findStanding_115 : decode cX8_findStanding 115 = .ok (.if_icmp .lt 7, 3) := by decide +kernel
theorem dX8_findStanding_118 : decode cX8_findStanding 118 = .ok (.iconst 1, 1) := by decide +kernel
theorem dX8_findStanding_119 : decode cX8_findStanding 119 = .ok (.goto 4, 3) := by decide +kernel
theorem dX8_findStanding_122 : decode cX8_findStanding 122 = .ok (.iconst 0, 1) := by decide +kernel
theorem dX8_findStanding_123 : decode cX8_findStanding 123 = .ok (.bastore, 1) := by decide +kernel
theorem dX8_findStanding_124 : decode cX8_findStanding 124 = .ok (.iinc 2 1, 3) := by decide +kernel
theorem dX8_findStanding_127 : decode cX8_findStanding 127 = .ok (.goto (-125), 3) := by decide +kernel
theorem dX8_findStanding_130 : decode cX8_findStanding 130 = .ok (.return_, 1) := by decide +kernel
theorem dX8_hasOf_0 : decode cX8_hasOf 0 = .ok (.iconst 0, 1) := by decide +kernel
theorem dX8_hasOf_1 : decode cX8_hasOf 1 = .ok (.istore 4, 2) := by decide +kernel
theorem dX8_hasOf_3 : decode cX8_hasOf 3 = .ok (.iconst 0, 1) := by decide +kernel
theorem dX8_hasOf_4 : decode cX8_hasOf 4 = .ok (.istore 5, 2) := by decide +kernel
theorem dX8_hasOf_6 : decode cX8_hasOf 6 = .ok (.iload 5, 2) := by decide +kernel
theorem dX8_hasOf_8 : decode cX8_hasOf 8 = .ok (.aload_n 0, 1) := by decide +kernel
theorem dX8_hasOf_9 : decode cX8_hasOf 9 = .ok (.getfield 159, 3) := by decide +kernel
theorem dX8_hasOf_12 : decode cX8_hasOf 12 = .ok (.if_icmp .ge 67, 3) := by decide +kernel
theorem dX8_hasOf_15 : decode cX8_hasOf 15 = .ok (.aload_n 0, 1) := by decide +kernel
theorem dX8_hasOf_16 : decode cX8_hasOf 16 = .ok (.getfield 94, 3) := by decide +kernel
theorem dX8_hasOf_19 : decode cX8_hasOf 19 = .ok (.iload 5, 2) := by decide +kernel
theorem dX8_hasOf_21 : decode cX8_hasOf 21 = .ok (.baload, 1) := by decide +kernel
theorem dX8_hasOf_22 : decode cX8_hasOf 22 = .ok (.ifCond .eq 51, 3) := by decide +kernel
theorem dX8_hasOf_25 : decode cX8_hasOf 25 = .ok (.aload_n 0, 1) := by decide +kernel
theorem dX8_hasOf_26 : decode cX8_hasOf 26 = .ok (.getfield 49, 3) := by decide +kernel
theorem dX8_hasOf_29 : decode cX8_hasOf 29 = .ok (.iload 5, 2) := by decide +kernel
theorem dX8_hasOf_31 : decode cX8_hasOf 31 = .ok (.iaload, 1) := by decide +kernel
theorem dX8_hasOf_32 : decode cX8_hasOf 32 = .ok (.iload_n 1, 1) := by decide +kernel
theorem dX8_hasOf_33 : decode cX8_hasOf 33 = .ok (.if_icmp .ne 40, 3) := by decide +kernel
theorem dX8_hasOf_36 : decode cX8_hasOf 36 = .ok (.aload_n 0, 1) := by decide +kernel
theorem dX8_hasOf_37 : decode cX8_hasOf 37 = .ok (.getfield 58, 3) := by decide +kernel
theorem dX8_hasOf_40 : decode cX8_hasOf 40 = .ok (.iload 5, 2) := by decide +kernel
theorem dX8_hasOf_42 : decode cX8_hasOf 42 = .ok (.iaload, 1) := by decide +kernel
theorem dX8_hasOf_43 : decode cX8_hasOf 43 = .ok (.iload_n 3, 1) := by decide +kernel
theorem dX8_hasOf_44 : decode cX8_hasOf 44 = .ok (.if_icmp .gt 29, 3) := by decide +kernel
theorem dX8_hasOf_47 : decode cX8_hasOf 47 = .ok (.iload 4, 2) := by decide +kernel
theorem dX8_hasOf_49 : decode cX8_hasOf 49 = .ok (.aload_n 0, 1) := by decide +kernel
theorem dX8_hasOf_50 : decode cX8_hasOf 50 = .ok (.iload_n 2, 1) := by decide +kernel
theorem dX8_hasOf_51 : decode cX8_hasOf 51 = .ok (.aload_n 0, 1) := by decide +kernel
theorem dX8_hasOf_52 : decode cX8_hasOf 52 = .ok (.getfield 52, 3) := by decide +kernel
theorem dX8_hasOf_55 : decode cX8_hasOf 55 = .ok (.iload 5, 2) := by decide +kernel
theorem dX8_hasOf_57 : decode cX8_hasOf 57 = .ok (.iaload, 1) := by decide +kernel
theorem dX8_hasOf_58 : decode cX8_hasOf 58 = .ok (.aload_n 0, 1) := by decide +kernel
theorem dX8_hasOf_59 : decode cX8_hasOf 59 = .ok (.getfield 55, 3) := by decide +kernel
theorem dX8_hasOf_62 : decode cX8_hasOf 62 = .ok (.iload 5, 2) := by decide +kernel
theorem dX8_hasOf_64 : decode cX8_hasOf 64 = .ok (.iaload, 1) := by decide +kernel
theorem dX8_hasOf_65 : decode cX8_hasOf 65 = .ok (.invokevirtual 162, 3) := by decide +kernel
theorem dX8_hasOf_68 : decode cX8_hasOf 68 = .ok (.invokestatic 165, 3) := by decide +kernel
theorem dX8_hasOf_71 : decode cX8_hasOf 71 = .ok (.istore 4, 2) := by decide +kernel
theorem dX8_hasOf_73 : decode cX8_hasOf 73 = .ok (.iinc 5 1, 3) := by decide +kernel
theorem dX8_hasOf_76 : decode cX8_hasOf 76 = .ok (.goto (-70), 3) := by decide +kernel
theorem dX8_hasOf_79 : decode cX8_hasOf 79 = .ok (.iload 4, 2) := by decide +kernel
theorem dX8_hasOf_81 : decode cX8_hasOf 81 = .ok (.ireturn, 1) := by decide +kernel
theorem dX8_has_0 : decode cX8_has 0 = .ok (.aload_n 0, 1) := by decide +kernel
theorem dX8_has_1 : decode cX8_has 1 = .ok (.iload_n 1, 1) := by decide +kernel
theorem dX8_has_2 : decode cX8_has 2 = .ok (.invokevirtual 132, 3) := by decide +kernel
theorem dX8_has_5 : decode cX8_has 5 = .ok (.ifCond .eq 25, 3) := by decide +kernel
theorem dX8_has_8 : decode cX8_has 8 = .ok (.iload_n 2, 1) := by decide +kernel
theorem dX8_has_9 : decode cX8_has 9 = .ok (.invokestatic 136, 3) := by decide +kernel
theorem dX8_has_12 : decode cX8_has 12 = .ok (.ifCond .eq 18, 3) := by decide +kernel
theorem dX8_has_15 : decode cX8_has 15 = .ok (.iload_n 3, 1) := by decide +kernel
theorem dX8_has_16 : decode cX8_has 16 = .ok (.invokestatic 119, 3) := by decide +kernel
theorem dX8_has_19 : decode cX8_has 19 = .ok (.ifCond .eq 11, 3) := by decide +kernel
theorem dX8_has_22 : decode cX8_has 22 = .ok (.iload 4, 2) := by decide +kernel
theorem dX8_has_24 : decode cX8_has 24 = .ok (.invokestatic 119, 3) := by decide +kernel
theorem dX8_has_27 : decode cX8_has 27 = .ok (.ifCond .ne 10, 3) := by decide +kernel
theorem dX8_has_30 : decode cX8_has 30 = .ok (.aload_n 0, 1) := by decide +kernel
theorem dX8_has_31 : decode cX8_has 31 = .ok (.ldc 123, 2) := by decide +kernel
theorem dX8_has_33 : decode cX8_has 33 = .ok (.invokevirtual 124, 3) := by decide +kernel
theorem dX8_has_36 : decode cX8_has 36 = .ok (.ireturn, 1) := by decide +kernel
theorem dX8_has_37 : decode cX8_has 37 = .ok (.aload_n 0, 1) := by decide +kernel
theorem dX8_has_38 : decode cX8_has 38 = .ok (.iload 4, 2) := by decide +kernel
theorem dX8_has_40 : decode cX8_has 40 = .ok (.invokevirtual 175, 3) := by decide +kernel
theorem dX8_has_43 : decode cX8_has 43 = .ok (.aload_n 0, 1) := by decide +kernel
theorem dX8_has_44 : decode cX8_has 44 = .ok (.iload_n 1, 1) := by decide +kernel
theorem dX8_has_45 : decode cX8_has 45 = .ok (.iload_n 2, 1) := by decide +kernel
theorem dX8_has_46 : decode cX8_has 46 = .ok (.iload_n 3, 1) := by decide +kernel
theorem dX8_has_47 : decode cX8_has 47 = .ok (.invokevirtual 179, 3) := by decide +kernel
theorem dX8_has_50 : decode cX8_has 50 = .ok (.ireturn, 1) := by decide +kernel
theorem dX8_whyOf_0 : decode cX8_whyOf 0 = .ok (.aload_n 0, 1) := by decide +kernel
theorem dX8_whyOf_1 : decode cX8_whyOf 1 = .ok (.iload_n 2, 1) := by decide +kernel
theorem dX8_whyOf_2 : decode cX8_whyOf 2 = .ok (.iload_n 3, 1) := by decide +kernel
theorem dX8_whyOf_3 : decode cX8_whyOf 3 = .ok (.iload 4, 2) := by decide +kernel
theorem dX8_whyOf_5 : decode cX8_whyOf 5 = .ok (.invokevirtual 149, 3) := by decide +kernel
theorem dX8_whyOf_8 : decode cX8_whyOf 8 = .ok (.istore 5, 2) := by decide +kernel
theorem dX8_whyOf_10 : decode cX8_whyOf 10 = .ok (.iload 5, 2) := by decide +kernel
theorem dX8_whyOf_12 : decode cX8_whyOf 12 = .ok (.ifCond .lt 18, 3) := by decide +kernel
theorem dX8_whyOf_15 : decode cX8_whyOf 15 = .ok (.aload_n 0, 1) := by decide +kernel
theorem dX8_whyOf_16 : decode cX8_whyOf 16 = .ok (.getfield 9, 3) := by decide +kernel
theorem dX8_whyOf_19 : decode cX8_whyOf 19 = .ok (.iload_n 1, 1) := by decide +kernel
theorem dX8_whyOf_20 : decode cX8_whyOf 20 = .ok (.iaload, 1) := by decide +kernel
theorem dX8_whyOf_21 : decode cX8_whyOf 21 = .ok (.iconst 2, 1) := by decide +kernel
theorem dX8_whyOf_22 : decode cX8_whyOf 22 = .ok (.if_icmp .ne 10, 3) := by decide +kernel
theorem dX8_whyOf_25 : decode cX8_whyOf 25 = .ok (.iload_n 3, 1) := by decide +kernel
theorem dX8_whyOf_26 : decode cX8_whyOf 26 = .ok (.iconst 4, 1) := by decide +kernel
theorem dX8_whyOf_27 : decode cX8_whyOf 27 = .ok (.if_icmp .le 5, 3) := by decide +kernel
theorem dX8_whyOf_30 : decode cX8_whyOf 30 = .ok (.iconst 1, 1) := by decide +kernel
theorem dX8_whyOf_31 : decode cX8_whyOf 31 = .ok (.ireturn, 1) := by decide +kernel
theorem dX8_whyOf_32 : decode cX8_whyOf 32 = .ok (.aload_n 0, 1) := by decide +kernel
theorem dX8_whyOf_33 : decode cX8_whyOf 33 = .ok (.iload_n 1, 1) := by decide +kernel
theorem dX8_whyOf_34 : decode cX8_whyOf 34 = .ok (.iload_n 2, 1) := by decide +kernel
theorem dX8_whyOf_35 : decode cX8_whyOf 35 = .ok (.iload 4, 2) := by decide +kernel
theorem dX8_whyOf_37 : decode cX8_whyOf 37 = .ok (.invokevirtual 179, 3) := by decide +kernel
theorem dX8_whyOf_40 : decode cX8_whyOf 40 = .ok (.iload_n 3, 1) := by decide +kernel
theorem dX8_whyOf_41 : decode cX8_whyOf 41 = .ok (.iconst 1, 1) := by decide +kernel
theorem dX8_whyOf_42 : decode cX8_whyOf 42 = .ok (.isub, 1) := by decide +kernel
theorem dX8_whyOf_43 : decode cX8_whyOf 43 = .ok (.if_icmp .eq 5, 3) := by decide +kernel
theorem dX8_whyOf_46 : decode cX8_whyOf 46 = .ok (.iconst 2, 1) := by decide +kernel
theorem dX8_whyOf_47 : decode cX8_whyOf 47 = .ok (.ireturn, 1) := by decide +kernel
theorem dX8_whyOf_48 : decode cX8_whyOf 48 = .ok (.aload_n 0, 1) := by decide +kernel
theorem dX8_whyOf_49 : decode cX8_whyOf 49 = .ok (.getfield 19, 3) := by decide +kernel
theorem dX8_whyOf_52 : decode cX8_whyOf 52 = .ok (.iload_n 1, 1) := by decide +kernel
theorem dX8_whyOf_53 : decode cX8_whyOf 53 = .ok (.iaload, 1) := by decide +kernel
theorem dX8_whyOf_54 : decode cX8_whyOf 54 = .ok (.iload 4, 2) := by decide +kernel
theorem dX8_whyOf_56 : decode cX8_whyOf 56 = .ok (.if_icmp .ge 5, 3) := by decide +kernel
theorem dX8_whyOf_59 : decode cX8_whyOf 59 = .ok (.iconst 3, 1) := by decide +kernel
theorem dX8_whyOf_60 : decode cX8_whyOf 60 = .ok (.ireturn, 1) := by decide +kernel
theorem dX8_whyOf_61 : decode cX8_whyOf 61 = .ok (.iload 4, 2) := by decide +kernel
theorem dX8_whyOf_63 : decode cX8_whyOf 63 = .ok (.aload_n 0, 1) := by decide +kernel
theorem dX8_whyOf_64 : decode cX8_whyOf 64 = .ok (.getfield 13, 3) := by decide +kernel
theorem dX8_whyOf_67 : decode cX8_whyOf 67 = .ok (.iload_n 1, 1) := by decide +kernel
theorem dX8_whyOf_68 : decode cX8_whyOf 68 = .ok (.iaload, 1) := by decide +kernel
theorem dX8_whyOf_69 : decode cX8_whyOf 69 = .ok (.if_icmp .lt 22, 3) := by decide +kernel
theorem dX8_whyOf_72 : decode cX8_whyOf 72 = .ok (.iload 4, 2) := by decide +kernel
theorem dX8_whyOf_74 : decode cX8_whyOf 74 = .ok (.aload_n 0, 1) := by decide +kernel
theorem dX8_whyOf_75 : decode cX8_whyOf 75 = .ok (.getfield 13, 3) := by decide +kernel
theorem dX8_whyOf_78 : decode cX8_whyOf 78 = .ok (.iload_n 1, 1) := by decide +kernel
theorem dX8_whyOf_79 : decode cX8_whyOf 79 = .ok (.iaload, 1) := by decide +kernel
theorem dX8_whyOf_80 : decode cX8_whyOf 80 = .ok (.isub, 1) := by decide +kernel
theorem dX8_whyOf_81 : decode cX8_whyOf 81 = .ok (.aload_n 0, 1) := by decide +kernel
theorem dX8_whyOf_82 : decode cX8_whyOf 82 = .ok (.getfield 40, 3) := by decide +kernel
theorem dX8_whyOf_85 : decode cX8_whyOf 85 = .ok (.iload 5, 2) := by decide +kernel
theorem dX8_whyOf_87 : decode cX8_whyOf 87 = .ok (.iaload, 1) := by decide +kernel
theorem dX8_whyOf_88 : decode cX8_whyOf 88 = .ok (.if_icmp .ge 5, 3) := by decide +kernel
theorem dX8_whyOf_91 : decode cX8_whyOf 91 = .ok (.iconst 4, 1) := by decide +kernel
theorem dX8_whyOf_92 : decode cX8_whyOf 92 = .ok (.ireturn, 1) := by decide +kernel
theorem dX8_whyOf_93 : decode cX8_whyOf 93 = .ok (.iconst (-1), 1) := by decide +kernel
theorem dX8_whyOf_94 : decode cX8_whyOf 94 = .ok (.istore 6, 2) := by decide +kernel
theorem dX8_whyOf_96 : decode cX8_whyOf 96 = .ok (.iconst 0, 1) := by decide +kernel
theorem dX8_whyOf_97 : decode cX8_whyOf 97 = .ok (.istore 7, 2) := by decide +kernel
theorem dX8_whyOf_99 : decode cX8_whyOf 99 = .ok (.iload 7, 2) := by decide +kernel
theorem dX8_whyOf_101 : decode cX8_whyOf 101 = .ok (.aload_n 0, 1) := by decide +kernel
theorem dX8_whyOf_102 : decode cX8_whyOf 102 = .ok (.getfield 159, 3) := by decide +kernel
theorem dX8_whyOf_105 : decode cX8_whyOf 105 = .ok (.if_icmp .ge 56, 3) := by decide +kernel
theorem dX8_whyOf_108 : decode cX8_whyOf 108 = .ok (.aload_n 0, 1) := by decide +kernel
theorem dX8_whyOf_109 : decode cX8_whyOf 109 = .ok (.getfield 94, 3) := by decide +kernel
theorem dX8_whyOf_112 : decode cX8_whyOf 112 = .ok (.iload 7, 2) := by decide +kernel
theorem dX8_whyOf_114 : decode cX8_whyOf 114 = .ok (.baload, 1) := by decide +kernel
theorem dX8_whyOf_115 : decode cX8_whyOf 115 = .ok (.ifCond .eq 36, 3) := by decide +kernel
theorem dX8_whyOf_118 : decode cX8_whyOf 118 = .ok (.aload_n 0, 1) := by decide +kernel
theorem dX8_whyOf_119 : decode cX8_whyOf 119 = .ok (.getfield 49, 3) := by decide +kernel
theorem dX8_whyOf_122 : decode cX8_whyOf 122 = .ok (.iload 7, 2) := by decide +kernel
theorem dX8_whyOf_124 : decode cX8_whyOf 124 = .ok (.iaload, 1) := by decide +kernel
theorem dX8_whyOf_125 : decode cX8_whyOf 125 = .ok (.iload_n 1, 1) := by decide +kernel
theorem dX8_whyOf_126 : decode cX8_whyOf 126 = .ok (.if_icmp .ne 25, 3) := by decide +kernel
theorem dX8_whyOf_129 : decode cX8_whyOf 129 = .ok (.aload_n 0, 1) := by decide +kernel
theorem dX8_whyOf_130 : decode cX8_whyOf 130 = .ok (.getfield 58, 3) := by decide +kernel
theorem dX8_whyOf_133 : decode cX8_whyOf 133 = .ok (.iload 7, 2) := by decide +kernel
theorem dX8_whyOf_135 : decode cX8_whyOf 135 = .ok (.iaload, 1) := by decide +kernel
theorem dX8_whyOf_136 : decode cX8_whyOf 136 = .ok (.iload 4, 2) := by decide +kernel
theorem dX8_whyOf_138 : decode cX8_whyOf 138 = .ok (.if_icmp .gt 13, 3) := by decide +kernel
theorem dX8_whyOf_141 : decode cX8_whyOf 141 = .ok (.aload_n 0, 1) := by decide +kernel
theorem dX8_whyOf_142 : decode cX8_whyOf 142 = .ok (.getfield 58, 3) := by decide +kernel
theorem dX8_whyOf_145 : decode cX8_whyOf 145 = .ok (.iload 7, 2) := by decide +kernel
theorem dX8_whyOf_147 : decode cX8_whyOf 147 = .ok (.iaload, 1) := by decide +kernel
theorem dX8_whyOf_148 : decode cX8_whyOf 148 = .ok (.goto 5, 3) := by decide +kernel
theorem dX8_whyOf_151 : decode cX8_whyOf 151 = .ok (.iload 6, 2) := by decide +kernel
theorem dX8_whyOf_153 : decode cX8_whyOf 153 = .ok (.istore 6, 2) := by decide +kernel
theorem dX8_whyOf_155 : decode cX8_whyOf 155 = .ok (.iinc 7 1, 3) := by decide +kernel
theorem dX8_whyOf_158 : decode cX8_whyOf 158 = .ok (.goto (-59), 3) := by decide +kernel
theorem dX8_whyOf_161 : decode cX8_whyOf 161 = .ok (.iload 6, 2) := by decide +kernel
theorem dX8_whyOf_163 : decode cX8_whyOf 163 = .ok (.ifCond .lt 42, 3) := by decide +kernel
theorem dX8_whyOf_166 : decode cX8_whyOf 166 = .ok (.iload 4, 2) := by decide +kernel
theorem dX8_whyOf_168 : decode cX8_whyOf 168 = .ok (.iload 6, 2) := by decide +kernel
theorem dX8_whyOf_170 : decode cX8_whyOf 170 = .ok (.isub, 1) := by decide +kernel
theorem dX8_whyOf_171 : decode cX8_whyOf 171 = .ok (.aload_n 0, 1) := by decide +kernel
theorem dX8_whyOf_172 : decode cX8_whyOf 172 = .ok (.getfield 9, 3) := by decide +kernel
theorem dX8_whyOf_175 : decode cX8_whyOf 175 = .ok (.iload_n 1, 1) := by decide +kernel
theorem dX8_whyOf_176 : decode cX8_whyOf 176 = .ok (.iaload, 1) := by decide +kernel
theorem dX8_whyOf_177 : decode cX8_whyOf 177 = .ok (.iconst 2, 1) := by decide +kernel
theorem dX8_whyOf_178 : decode cX8_whyOf 178 = .ok (.if_icmp .ne 15, 3) := by decide +kernel
theorem dX8_whyOf_181 : decode cX8_whyOf 181 = .ok (.aload_n 0, 1) := by decide +kernel
theorem dX8_whyOf_182 : decode cX8_whyOf 182 = .ok (.getfield 37, 3) := by decide +kernel
theorem dX8_whyOf_185 : decode cX8_whyOf 185 = .ok (.iload 5, 2) := by decide +kernel
theorem dX8_whyOf_187 : decode cX8_whyOf 187 = .ok (.iaload, 1) := by decide +kernel
theorem dX8_whyOf_188 : decode cX8_whyOf 188 = .ok (.iconst 2, 1) := by decide +kernel
theorem dX8_whyOf_189 : decode cX8_whyOf 189 = .ok (.idiv, 1) := by decide +kernel
theorem dX8_whyOf_190 : decode cX8_whyOf 190 = .ok (.goto 10, 3) := by decide +kernel
theorem dX8_whyOf_193 : decode cX8_whyOf 193 = .ok (.aload_n 0, 1) := by decide +kernel
theorem dX8_whyOf_194 : decode cX8_whyOf 194 = .ok (.getfield 37, 3) := by decide +kernel
theorem dX8_whyOf_197 : decode cX8_whyOf 197 = .ok (.iload 5, 2) := by decide +kernel
theorem dX8_whyOf_199 : decode cX8_whyOf 199 = .ok (.iaload, 1) := by decide +kernel
theorem dX8_whyOf_200 : decode cX8_whyOf 200 = .ok (.if_icmp .ge 5, 3) := by decide +kernel
theorem dX8_whyOf_203 : decode cX8_whyOf 203 = .ok (.iconst 5, 1) := by decide +kernel
theorem dX8_whyOf_204 : decode cX8_whyOf 204 = .ok (.ireturn, 1) := by decide +kernel
theorem dX8_whyOf_205 : decode cX8_whyOf 205 = .ok (.iconst 0, 1) := by decide +kernel
theorem dX8_whyOf_206 : decode cX8_whyOf 206 = .ok (.istore 7, 2) := by decide +kernel
theorem dX8_whyOf_208 : decode cX8_whyOf 208 = .ok (.iload 7, 2) := by decide +kernel
theorem dX8_whyOf_210 : decode cX8_whyOf 210 = .ok (.bipush 8, 2) := by decide +kernel
theorem dX8_whyOf_212 : decode cX8_whyOf 212 = .ok (.if_icmp .ge 61, 3) := by decide +kernel
theorem dX8_whyOf_215 : decode cX8_whyOf 215 = .ok (.aload_n 0, 1) := by decide +kernel
theorem dX8_whyOf_216 : decode cX8_whyOf 216 = .ok (.getfield 22, 3) := by decide +kernel
theorem dX8_whyOf_219 : decode cX8_whyOf 219 = .ok (.bipush 8, 2) := by decide +kernel
theorem dX8_whyOf_221 : decode cX8_whyOf 221 = .ok (.iload_n 1, 1) := by decide +kernel
theorem dX8_whyOf_222 : decode cX8_whyOf 222 = .ok (.imul, 1) := by decide +kernel
theorem dX8_whyOf_223 : decode cX8_whyOf 223 = .ok (.iload 7, 2) := by decide +kernel
theorem dX8_whyOf_225 : decode cX8_whyOf 225 = .ok (.iadd, 1) := by decide +kernel
theorem dX8_whyOf_226 : decode cX8_whyOf 226 = .ok (.iaload, 1) := by decide +kernel
theorem dX8_whyOf_227 : decode cX8_whyOf 227 = .ok (.istore 8, 2) := by decide +kernel
theorem dX8_whyOf_229 : decode cX8_whyOf 229 = .ok (.aload_n 0, 1) := by decide +kernel
theorem dX8_whyOf_230 : decode cX8_whyOf 230 = .ok (.getfield 43, 3) := by decide +kernel
theorem dX8_whyOf_233 : decode cX8_whyOf 233 = .ok (.iload 5, 2) := by decide +kernel
theorem dX8_whyOf_235 : decode cX8_whyOf 235 = .ok (.iaload, 1) := by decide +kernel
theorem dX8_whyOf_236 : decode cX8_whyOf 236 = .ok (.iload 7, 2) := by decide +kernel
theorem dX8_whyOf_238 : decode cX8_whyOf 238 = .ok (.ishr, 1) := by decide +kernel
theorem dX8_whyOf_239 : decode cX8_whyOf 239 = .ok (.iconst 1, 1) := by decide +kernel
theorem dX8_whyOf_240 : decode cX8_whyOf 240 = .ok (.iand, 1) := by decide +kernel
theorem dX8_whyOf_241 : decode cX8_whyOf 241 = .ok (.iconst 1, 1) := by decide +kernel
theorem dX8_whyOf_242 : decode cX8_whyOf 242 = .ok (.if_icmp .ne 25, 3) := by decide +kernel
theorem dX8_whyOf_245 : decode cX8_whyOf 245 = .ok (.iload 8, 2) := by decide +kernel
theorem dX8_whyOf_247 : decode cX8_whyOf 247 = .ok (.ifCond .lt 17, 3) := by decide +kernel
theorem dX8_whyOf_250 : decode cX8_whyOf 250 = .ok (.iload 8, 2) := by decide +kernel
theorem dX8_whyOf_252 : decode cX8_whyOf 252 = .ok (.iload 4, 2) := by decide +kernel
theorem dX8_whyOf_254 : decode cX8_whyOf 254 = .ok (.if_icmp .gt 10, 3) := by decide +kernel
theorem dX8_whyOf_257 : decode cX8_whyOf 257 = .ok (.iload 8, 2) := by decide +kernel
theorem dX8_whyOf_259 : decode cX8_whyOf 259 = .ok (.iload 6, 2) := by decide +kernel
theorem dX8_whyOf_261 : decode cX8_whyOf 261 = .ok (.if_icmp .ge 6, 3) := by decide +kernel
theorem dX8_whyOf_264 : decode cX8_whyOf 264 = .ok (.bipush 6, 2) := by decide +kernel
theorem dX8_whyOf_266 : decode cX8_whyOf 266 = .ok (.ireturn, 1) := by decide +kernel
theorem dX8_whyOf_267 : decode cX8_whyOf 267 = .ok (.iinc 7 1, 3) := by decide +kernel
theorem dX8_whyOf_270 : decode cX8_whyOf 270 = .ok (.goto (-62), 3) := by decide +kernel
theorem dX8_whyOf_273 : decode cX8_whyOf 273 = .ok (.iconst 0, 1) := by decide +kernel
theorem dX8_whyOf_274 : decode cX8_whyOf 274 = .ok (.ireturn, 1) := by decide +kernel
theorem dX8_canAsk_0 : decode cX8_canAsk 0 = .ok (.aload_n 0, 1) := by decide +kernel
theorem dX8_canAsk_1 : decode cX8_canAsk 1 = .ok (.iload_n 1, 1) := by decide +kernel
theorem dX8_canAsk_2 : decode cX8_canAsk 2 = .ok (.invokevirtual 132, 3) := by decide +kernel
theorem dX8_canAsk_5 : decode cX8_canAsk 5 = .ok (.ifCond .eq 29, 3) := by decide +kernel
theorem dX8_canAsk_8 : decode cX8_canAsk 8 = .ok (.iload_n 2, 1) := by decide +kernel
theorem dX8_canAsk_9 : decode cX8_canAsk 9 = .ok (.invokestatic 136, 3) := by decide +kernel
theorem dX8_canAsk_12 : decode cX8_canAsk 12 = .ok (.ifCond .eq 22, 3) := by decide +kernel
theorem dX8_canAsk_15 : decode cX8_canAsk 15 = .ok (.iload_n 3, 1) := by decide +kernel
theorem dX8_canAsk_16 : decode cX8_canAsk 16 = .ok (.invokestatic 139, 3) := by decide +kernel
theorem dX8_canAsk_19 : decode cX8_canAsk 19 = .ok (.ifCond .eq 15, 3) := by decide +kernel
theorem dX8_canAsk_22 : decode cX8_canAsk 22 = .ok (.iload 4, 2) := by decide +kernel
theorem dX8_canAsk_24 : decode cX8_canAsk 24 = .ok (.invokestatic 119, 3) := by decide +kernel
theorem dX8_canAsk_27 : decode cX8_canAsk 27 = .ok (.ifCond .eq 7, 3) := by decide +kernel
theorem dX8_canAsk_30 : decode cX8_canAsk 30 = .ok (.iconst 1, 1) := by decide +kernel
theorem dX8_canAsk_31 : decode cX8_canAsk 31 = .ok (.goto 4, 3) := by decide +kernel
theorem dX8_canAsk_34 : decode cX8_canAsk 34 = .ok (.iconst 0, 1) := by decide +kernel
theorem dX8_canAsk_35 : decode cX8_canAsk 35 = .ok (.ireturn, 1) := by decide +kernel
theorem dX8_why_0 : decode cX8_why 0 = .ok (.aload_n 0, 1) := by decide +kernel
theorem dX8_why_1 : decode cX8_why 1 = .ok (.iload_n 1, 1) := by decide +kernel
theorem dX8_why_2 : decode cX8_why 2 = .ok (.iload_n 2, 1) := by decide +kernel
theorem dX8_why_3 : decode cX8_why 3 = .ok (.iload_n 3, 1) := by decide +kernel
theorem dX8_why_4 : decode cX8_why 4 = .ok (.iload 4, 2) := by decide +kernel
theorem dX8_why_6 : decode cX8_why 6 = .ok (.invokevirtual 182, 3) := by decide +kernel
theorem dX8_why_9 : decode cX8_why 9 = .ok (.ifCond .ne 10, 3) := by decide +kernel
theorem dX8_why_12 : decode cX8_why 12 = .ok (.aload_n 0, 1) := by decide +kernel
theorem dX8_why_13 : decode cX8_why 13 = .ok (.ldc 123, 2) := by decide +kernel
theorem dX8_why_15 : decode cX8_why 15 = .ok (.invokevirtual 124, 3) := by decide +kernel
theorem dX8_why_18 : decode cX8_why 18 = .ok (.ireturn, 1) := by decide +kernel
theorem dX8_why_19 : decode cX8_why 19 = .ok (.aload_n 0, 1) := by decide +kernel
theorem dX8_why_20 : decode cX8_why 20 = .ok (.iload 4, 2) := by decide +kernel
theorem dX8_why_22 : decode cX8_why 22 = .ok (.invokevirtual 175, 3) := by decide +kernel
theorem dX8_why_25 : decode cX8_why 25 = .ok (.aload_n 0, 1) := by decide +kernel
theorem dX8_why_26 : decode cX8_why 26 = .ok (.iload_n 1, 1) := by decide +kernel
theorem dX8_why_27 : decode cX8_why 27 = .ok (.iload_n 2, 1) := by decide +kernel
theorem dX8_why_28 : decode cX8_why 28 = .ok (.iload_n 3, 1) := by decide +kernel
theorem dX8_why_29 : decode cX8_why 29 = .ok (.iload 4, 2) := by decide +kernel
theorem dX8_why_31 : decode cX8_why 31 = .ok (.invokevirtual 186, 3) := by decide +kernel
theorem dX8_why_34 : decode cX8_why 34 = .ok (.ireturn, 1) := by decide +kernel
theorem dX8_against_0 : decode cX8_against 0 = .ok (.iload_n 1, 1) := by decide +kernel
theorem dX8_against_1 : decode cX8_against 1 = .ok (.iload_n 2, 1) := by decide +kernel
theorem dX8_against_2 : decode cX8_against 2 = .ok (.if_icmp .eq 18, 3) := by decide +kernel
theorem dX8_against_5 : decode cX8_against 5 = .ok (.aload_n 0, 1) := by decide +kernel
theorem dX8_against_6 : decode cX8_against 6 = .ok (.getfield 16, 3) := by decide +kernel
theorem dX8_against_9 : decode cX8_against 9 = .ok (.iload_n 1, 1) := by decide +kernel
theorem dX8_against_10 : decode cX8_against 10 = .ok (.iaload, 1) := by decide +kernel
theorem dX8_against_11 : decode cX8_against 11 = .ok (.aload_n 0, 1) := by decide +kernel
theorem dX8_against_12 : decode cX8_against 12 = .ok (.getfield 16, 3) := by decide +kernel
theorem dX8_against_15 : decode cX8_against 15 = .ok (.iload_n 2, 1) := by decide +kernel
theorem dX8_against_16 : decode cX8_against 16 = .ok (.iaload, 1) := by decide +kernel
theorem dX8_against_17 : decode cX8_against 17 = .ok (.if_icmp .ne 5, 3) := by decide +kernel
theorem dX8_against_20 : decode cX8_against 20 = .ok (.iconst 3, 1) := by decide +kernel
theorem dX8_against_21 : decode cX8_against 21 = .ok (.ireturn, 1) := by decide +kernel
theorem dX8_against_22 : decode cX8_against 22 = .ok (.aload_n 0, 1) := by decide +kernel
theorem dX8_against_23 : decode cX8_against 23 = .ok (.getfield 19, 3) := by decide +kernel
theorem dX8_against_26 : decode cX8_against 26 = .ok (.iload_n 1, 1) := by decide +kernel
theorem dX8_against_27 : decode cX8_against 27 = .ok (.iaload, 1) := by decide +kernel
theorem dX8_against_28 : decode cX8_against 28 = .ok (.iload 5, 2) := by decide +kernel
theorem dX8_against_30 : decode cX8_against 30 = .ok (.if_icmp .ge 5, 3) := by decide +kernel
theorem dX8_against_33 : decode cX8_against 33 = .ok (.iconst 4, 1) := by decide +kernel
theorem dX8_against_34 : decode cX8_against 34 = .ok (.ireturn, 1) := by decide +kernel
theorem dX8_against_35 : decode cX8_against 35 = .ok (.aload_n 0, 1) := by decide +kernel
theorem dX8_against_36 : decode cX8_against 36 = .ok (.iload_n 1, 1) := by decide +kernel
theorem dX8_against_37 : decode cX8_against 37 = .ok (.iload 5, 2) := by decide +kernel
theorem dX8_against_39 : decode cX8_against 39 = .ok (.iload 5, 2) := by decide +kernel
theorem dX8_against_41 : decode cX8_against 41 = .ok (.invokevirtual 156, 3) := by decide +kernel
theorem dX8_against_44 : decode cX8_against 44 = .ok (.ifCond .eq 5, 3) := by decide +kernel
theorem dX8_against_47 : decode cX8_against 47 = .ok (.iconst 5, 1) := by decide +kernel
theorem dX8_against_48 : decode cX8_against 48 = .ok (.ireturn, 1) := by decide +kernel
theorem dX8_against_49 : decode cX8_against 49 = .ok (.aload_n 0, 1) := by decide +kernel
theorem dX8_against_50 : decode cX8_against 50 = .ok (.iload_n 1, 1) := by decide +kernel
theorem dX8_against_51 : decode cX8_against 51 = .ok (.iload_n 3, 1) := by decide +kernel
theorem dX8_against_52 : decode cX8_against 52 = .ok (.iload 5, 2) := by decide +kernel
theorem dX8_against_54 : decode cX8_against 54 = .ok (.invokevirtual 179, 3) := by decide +kernel
theorem dX8_against_57 : decode cX8_against 57 = .ok (.aload_n 0, 1) := by decide +kernel
theorem dX8_against_58 : decode cX8_against 58 = .ok (.getfield 46, 3) := by decide +kernel
theorem dX8_against_61 : decode cX8_against 61 = .ok (.iload 4, 2) := by decide +kernel
theorem dX8_against_63 : decode cX8_against 63 = .ok (.iaload, 1) := by decide +kernel
theorem dX8_against_64 : decode cX8_against 64 = .ok (.if_icmp .ge 8, 3) := by decide +kernel
theorem dX8_against_67 : decode cX8_against 67 = .ok (.bipush 6, 2) := by decide +kernel
theorem dX8_against_69 : decode cX8_against 69 = .ok (.goto 4, 3) := by decide +kernel
theorem dX8_against_72 : decode cX8_against 72 = .ok (.iconst 0, 1) := by decide +kernel
theorem dX8_against_73 : decode cX8_against 73 = .ok (.ireturn, 1) := by decide +kernel
theorem dX8_panelOf_0 : decode cX8_panelOf 0 = .ok (.iconst 0, 1) := by decide +kernel
theorem dX8_panelOf_1 : decode cX8_panelOf 1 = .ok (.istore 6, 2) := by decide +kernel
theorem dX8_panelOf_3 : decode cX8_panelOf 3 = .ok (.iconst 1, 1) := by decide +kernel
theorem dX8_panelOf_4 : decode cX8_panelOf 4 = .ok (.istore 7, 2) := by decide +kernel
theorem dX8_panelOf_6 : decode cX8_panelOf 6 = .ok (.bipush 9, 2) := by decide +kernel
theorem dX8_panelOf_8 : decode cX8_panelOf 8 = .ok (.istore 8, 2) := by decide +kernel
theorem dX8_panelOf_10 : decode cX8_panelOf 10 = .ok (.iconst 0, 1) := by decide +kernel
theorem dX8_panelOf_11 : decode cX8_panelOf 11 = .ok (.istore 9, 2) := by decide +kernel
theorem dX8_panelOf_13 : decode cX8_panelOf 13 = .ok (.iload 9, 2) := by decide +kernel
theorem dX8_panelOf_15 : decode cX8_panelOf 15 = .ok (.aload_n 0, 1) := by decide +kernel
theorem dX8_panelOf_16 : decode cX8_panelOf 16 = .ok (.getfield 115, 3) := by decide +kernel
theorem dX8_panelOf_19 : decode cX8_panelOf 19 = .ok (.if_icmp .ge 80, 3) := by decide +kernel
theorem dX8_panelOf_22 : decode cX8_panelOf 22 = .ok (.iload 5, 2) := by decide +kernel
theorem dX8_panelOf_24 : decode cX8_panelOf 24 = .ok (.iload 9, 2) := by decide +kernel
theorem dX8_panelOf_26 : decode cX8_panelOf 26 = .ok (.ishr, 1) := by decide +kernel
theorem dX8_panelOf_27 : decode cX8_panelOf 27 = .ok (.iconst 1, 1) := by decide +kernel
theorem dX8_panelOf_28 : decode cX8_panelOf 28 = .ok (.iand, 1) := by decide +kernel
theorem dX8_panelOf_29 : decode cX8_panelOf 29 = .ok (.ifCond .ne 6, 3) := by decide +kernel
theorem dX8_panelOf_32 : decode cX8_panelOf 32 = .ok (.goto 61, 3) := by decide +kernel
theorem dX8_panelOf_35 : decode cX8_panelOf 35 = .ok (.iinc 6 1, 3) := by decide +kernel
theorem dX8_panelOf_38 : decode cX8_panelOf 38 = .ok (.iload 7, 2) := by decide +kernel
theorem dX8_panelOf_40 : decode cX8_panelOf 40 = .ok (.ifCond .eq 18, 3) := by decide +kernel
theorem dX8_panelOf_43 : decode cX8_panelOf 43 = .ok (.aload_n 0, 1) := by decide +kernel
theorem dX8_panelOf_44 : decode cX8_panelOf 44 = .ok (.getfield 9, 3) := by decide +kernel
theorem dX8_panelOf_47 : decode cX8_panelOf 47 = .ok (.iload 9, 2) := by decide +kernel
theorem dX8_panelOf_49 : decode cX8_panelOf 49 = .ok (.iaload, 1) := by decide +kernel
theorem dX8_panelOf_50 : decode cX8_panelOf 50 = .ok (.iconst 1, 1) := by decide +kernel
theorem dX8_panelOf_51 : decode cX8_panelOf 51 = .ok (.if_icmp .ne 7, 3) := by decide +kernel
theorem dX8_panelOf_54 : decode cX8_panelOf 54 = .ok (.iconst 1, 1) := by decide +kernel
theorem dX8_panelOf_55 : decode cX8_panelOf 55 = .ok (.goto 4, 3) := by decide +kernel
theorem dX8_panelOf_58 : decode cX8_panelOf 58 = .ok (.iconst 0, 1) := by decide +kernel
theorem dX8_panelOf_59 : decode cX8_panelOf 59 = .ok (.istore 7, 2) := by decide +kernel
theorem dX8_panelOf_61 : decode cX8_panelOf 61 = .ok (.aload_n 0, 1) := by decide +kernel
theorem dX8_panelOf_62 : decode cX8_panelOf 62 = .ok (.iload 9, 2) := by decide +kernel
theorem dX8_panelOf_64 : decode cX8_panelOf 64 = .ok (.iload_n 1, 1) := by decide +kernel
theorem dX8_panelOf_65 : decode cX8_panelOf 65 = .ok (.iload_n 2, 1) := by decide +kernel
theorem dX8_panelOf_66 : decode cX8_panelOf 66 = .ok (.iload_n 3, 1) := by decide +kernel
theorem dX8_panelOf_67 : decode cX8_panelOf 67 = .ok (.iload 4, 2) := by decide +kernel
theorem dX8_panelOf_69 : decode cX8_panelOf 69 = .ok (.invokevirtual 190, 3) := by decide +kernel
theorem dX8_panelOf_72 : decode cX8_panelOf 72 = .ok (.istore 10, 2) := by decide +kernel
theorem dX8_panelOf_74 : decode cX8_panelOf 74 = .ok (.iload 10, 2) := by decide +kernel
theorem dX8_panelOf_76 : decode cX8_panelOf 76 = .ok (.ifCond .le 13, 3) := by decide +kernel
theorem dX8_panelOf_79 : decode cX8_panelOf 79 = .ok (.iload 8, 2) := by decide +kernel
theorem dX8_panelOf_81 : decode cX8_panelOf 81 = .ok (.iload 10, 2) := by decide +kernel
theorem dX8_panelOf_83 : decode cX8_panelOf 83 = .ok (.invokestatic 194, 3) := by decide +kernel
theorem dX8_panelOf_86 : decode cX8_panelOf 86 = .ok (.goto 5, 3) := by decide +kernel
theorem dX8_panelOf_89 : decode cX8_panelOf 89 = .ok (.iload 8, 2) := by decide +kernel
theorem dX8_panelOf_91 : decode cX8_panelOf 91 = .ok (.istore 8, 2) := by decide +kernel
theorem dX8_panelOf_93 : decode cX8_panelOf 93 = .ok (.iinc 9 1, 3) := by decide +kernel
theorem dX8_panelOf_96 : decode cX8_panelOf 96 = .ok (.goto (-83), 3) := by decide +kernel
theorem dX8_panelOf_99 : decode cX8_panelOf 99 = .ok (.iload 6, 2) := by decide +kernel
theorem dX8_panelOf_101 : decode cX8_panelOf 101 = .ok (.iconst 3, 1) := by decide +kernel
theorem dX8_panelOf_102 : decode cX8_panelOf 102 = .ok (.if_icmp .eq 7, 3) := by decide +kernel
theorem dX8_panelOf_105 : decode cX8_panelOf 105 = .ok (.iconst 1, 1) := by decide +kernel
theorem dX8_panelOf_106 : decode cX8_panelOf 106 = .ok (.goto 25, 3) := by decide +kernel
theorem dX8_panelOf_109 : decode cX8_panelOf 109 = .ok (.iload 7, 2) := by decide +kernel
theorem dX8_panelOf_111 : decode cX8_panelOf 111 = .ok (.ifCond .ne 7, 3) := by decide +kernel
theorem dX8_panelOf_114 : decode cX8_panelOf 114 = .ok (.iconst 2, 1) := by decide +kernel
theorem dX8_panelOf_115 : decode cX8_panelOf 115 = .ok (.goto 16, 3) := by decide +kernel
theorem dX8_panelOf_118 : decode cX8_panelOf 118 = .ok (.iload 8, 2) := by decide +kernel
theorem dX8_panelOf_120 : decode cX8_panelOf 120 = .ok (.bipush 9, 2) := by decide +kernel
theorem dX8_panelOf_122 : decode cX8_panelOf 122 = .ok (.if_icmp .ge 8, 3) := by decide +kernel
theorem dX8_panelOf_125 : decode cX8_panelOf 125 = .ok (.iload 8, 2) := by decide +kernel
theorem dX8_panelOf_127 : decode cX8_panelOf 127 = .ok (.goto 4, 3) := by decide +kernel
theorem dX8_panelOf_130 : decode cX8_panelOf 130 = .ok (.iconst 0, 1) := by decide +kernel
theorem dX8_panelOf_131 : decode cX8_panelOf 131 = .ok (.ireturn, 1) := by decide +kernel
theorem dX8_isPanel_0 : decode cX8_isPanel 0 = .ok (.iload_n 1, 1) := by decide +kernel
theorem dX8_isPanel_1 : decode cX8_isPanel 1 = .ok (.ifCond .lt 17, 3) := by decide +kernel
theorem dX8_isPanel_4 : decode cX8_isPanel 4 = .ok (.iload_n 1, 1) := by decide +kernel
theorem dX8_isPanel_5 : decode cX8_isPanel 5 = .ok (.iconst 1, 1) := by decide +kernel
theorem dX8_isPanel_6 : decode cX8_isPanel 6 = .ok (.aload_n 0, 1) := by decide +kernel
theorem dX8_isPanel_7 : decode cX8_isPanel 7 = .ok (.getfield 115, 3) := by decide +kernel
theorem dX8_isPanel_10 : decode cX8_isPanel 10 = .ok (.ishl, 1) := by decide +kernel
theorem dX8_isPanel_11 : decode cX8_isPanel 11 = .ok (.if_icmp .ge 7, 3) := by decide +kernel
theorem dX8_isPanel_14 : decode cX8_isPanel 14 = .ok (.iconst 1, 1) := by decide +kernel
theorem dX8_isPanel_15 : decode cX8_isPanel 15 = .ok (.goto 4, 3) := by decide +kernel
theorem dX8_isPanel_18 : decode cX8_isPanel 18 = .ok (.iconst 0, 1) := by decide +kernel
theorem dX8_isPanel_19 : decode cX8_isPanel 19 = .ok (.ireturn, 1) := by decide +kernel
theorem dX8_panel_0 : decode cX8_panel 0 = .ok (.aload_n 0, 1) := by decide +kernel
theorem dX8_panel_1 : decode cX8_panel 1 = .ok (.iload_n 1, 1) := by decide +kernel
theorem dX8_panel_2 : decode cX8_panel 2 = .ok (.iload_n 2, 1) := by decide +kernel
theorem dX8_panel_3 : decode cX8_panel 3 = .ok (.iload_n 3, 1) := by decide +kernel
theorem dX8_panel_4 : decode cX8_panel 4 = .ok (.iload 4, 2) := by decide +kernel
theorem dX8_panel_6 : decode cX8_panel 6 = .ok (.invokevirtual 182, 3) := by decide +kernel
theorem dX8_panel_9 : decode cX8_panel 9 = .ok (.ifCond .eq 12, 3) := by decide +kernel
theorem dX8_panel_12 : decode cX8_panel 12 = .ok (.aload_n 0, 1) := by decide +kernel
theorem dX8_panel_13 : decode cX8_panel 13 = .ok (.iload 5, 2) := by decide +kernel
theorem dX8_panel_15 : decode cX8_panel 15 = .ok (.invokevirtual 197, 3) := by decide +kernel
theorem dX8_panel_18 : decode cX8_panel 18 = .ok (.ifCond .ne 10, 3) := by decide +kernel
theorem dX8_panel_21 : decode cX8_panel 21 = .ok (.aload_n 0, 1) := by decide +kernel
theorem dX8_panel_22 : decode cX8_panel 22 = .ok (.ldc 123, 2) := by decide +kernel
theorem dX8_panel_24 : decode cX8_panel 24 = .ok (.invokevirtual 124, 3) := by decide +kernel
theorem dX8_panel_27 : decode cX8_panel 27 = .ok (.ireturn, 1) := by decide +kernel
theorem dX8_panel_28 : decode cX8_panel 28 = .ok (.aload_n 0, 1) := by decide +kernel
theorem dX8_panel_29 : decode cX8_panel 29 = .ok (.iload_n 2, 1) := by decide +kernel
theorem dX8_panel_30 : decode cX8_panel 30 = .ok (.iload_n 3, 1) := by decide +kernel
theorem dX8_panel_31 : decode cX8_panel 31 = .ok (.iload 4, 2) := by decide +kernel
theorem dX8_panel_33 : decode cX8_panel 33 = .ok (.invokevirtual 149, 3) := by decide +kernel
theorem dX8_panel_36 : decode cX8_panel 36 = .ok (.istore 6, 2) := by decide +kernel
theorem dX8_panel_38 : decode cX8_panel 38 = .ok (.iload 6, 2) := by decide +kernel
theorem dX8_panel_40 : decode cX8_panel 40 = .ok (.ifCond .ge 10, 3) := by decide +kernel
theorem dX8_panel_43 : decode cX8_panel 43 = .ok (.aload_n 0, 1) := by decide +kernel
theorem dX8_panel_44 : decode cX8_panel 44 = .ok (.ldc 152, 2) := by decide +kernel
theorem dX8_panel_46 : decode cX8_panel 46 = .ok (.invokevirtual 124, 3) := by decide +kernel
theorem dX8_panel_49 : decode cX8_panel 49 = .ok (.ireturn, 1) := by decide +kernel
theorem dX8_panel_50 : decode cX8_panel 50 = .ok (.aload_n 0, 1) := by decide +kernel
theorem dX8_panel_51 : decode cX8_panel 51 = .ok (.iload 4, 2) := by decide +kernel
theorem dX8_panel_53 : decode cX8_panel 53 = .ok (.invokevirtual 175, 3) := by decide +kernel
theorem dX8_panel_56 : decode cX8_panel 56 = .ok (.aload_n 0, 1) := by decide +kernel
theorem dX8_panel_57 : decode cX8_panel 57 = .ok (.iload_n 1, 1) := by decide +kernel
theorem dX8_panel_58 : decode cX8_panel 58 = .ok (.iload_n 2, 1) := by decide +kernel
theorem dX8_panel_59 : decode cX8_panel 59 = .ok (.iload 6, 2) := by decide +kernel
theorem dX8_panel_61 : decode cX8_panel 61 = .ok (.iload 4, 2) := by decide +kernel
end
section
theorem dX8_panel_63 : decode cX8_panel 63 = .ok (.iload 5, 2) := by decide +kernel
theorem dX8_panel_65 : decode cX8_panel 65 = .ok (.invokevirtual 200, 3) := by decide +kernel
theorem dX8_panel_68 : decode cX8_panel 68 = .ok (.ireturn, 1) := by decide +kernel
theorem dX8_give_0 : decode cX8_give 0 = .ok (.aload_n 0, 1) := by decide +kernel
theorem dX8_give_1 : decode cX8_give 1 = .ok (.iload_n 1, 1) := by decide +kernel
theorem dX8_give_2 : decode cX8_give 2 = .ok (.iload_n 2, 1) := by decide +kernel
theorem dX8_give_3 : decode cX8_give 3 = .ok (.iload_n 3, 1) := by decide +kernel
theorem dX8_give_4 : decode cX8_give 4 = .ok (.iload 4, 2) := by decide +kernel
theorem dX8_give_6 : decode cX8_give 6 = .ok (.invokevirtual 182, 3) := by decide +kernel
theorem dX8_give_9 : decode cX8_give 9 = .ok (.ifCond .eq 35, 3) := by decide +kernel
theorem dX8_give_12 : decode cX8_give 12 = .ok (.aload_n 0, 1) := by decide +kernel
theorem dX8_give_13 : decode cX8_give 13 = .ok (.iload 5, 2) := by decide +kernel
theorem dX8_give_15 : decode cX8_give 15 = .ok (.invokevirtual 197, 3) := by decide +kernel
theorem dX8_give_18 : decode cX8_give 18 = .ok (.ifCond .eq 26, 3) := by decide +kernel
theorem dX8_give_21 : decode cX8_give 21 = .ok (.aload_n 0, 1) := by decide +kernel
theorem dX8_give_22 : decode cX8_give 22 = .ok (.getfield 159, 3) := by decide +kernel
theorem dX8_give_25 : decode cX8_give 25 = .ok (.ifCond .le 26, 3) := by decide +kernel
theorem dX8_give_28 : decode cX8_give 28 = .ok (.iload 4, 2) := by decide +kernel
theorem dX8_give_30 : decode cX8_give 30 = .ok (.aload_n 0, 1) := by decide +kernel
theorem dX8_give_31 : decode cX8_give 31 = .ok (.getfield 58, 3) := by decide +kernel
theorem dX8_give_34 : decode cX8_give 34 = .ok (.aload_n 0, 1) := by decide +kernel
theorem dX8_give_35 : decode cX8_give 35 = .ok (.getfield 159, 3) := by decide +kernel
theorem dX8_give_38 : decode cX8_give 38 = .ok (.iconst 1, 1) := by decide +kernel
theorem dX8_give_39 : decode cX8_give 39 = .ok (.isub, 1) := by decide +kernel
theorem dX8_give_40 : decode cX8_give 40 = .ok (.iaload, 1) := by decide +kernel
theorem dX8_give_41 : decode cX8_give 41 = .ok (.if_icmp .ge 10, 3) := by decide +kernel
theorem dX8_give_44 : decode cX8_give 44 = .ok (.aload_n 0, 1) := by decide +kernel
theorem dX8_give_45 : decode cX8_give 45 = .ok (.ldc 123, 2) := by decide +kernel
theorem dX8_give_47 : decode cX8_give 47 = .ok (.invokevirtual 124, 3) := by decide +kernel
theorem dX8_give_50 : decode cX8_give 50 = .ok (.ireturn, 1) := by decide +kernel
theorem dX8_give_51 : decode cX8_give 51 = .ok (.aload_n 0, 1) := by decide +kernel
theorem dX8_give_52 : decode cX8_give 52 = .ok (.iload 4, 2) := by decide +kernel
theorem dX8_give_54 : decode cX8_give 54 = .ok (.invokevirtual 175, 3) := by decide +kernel
theorem dX8_give_57 : decode cX8_give 57 = .ok (.aload_n 0, 1) := by decide +kernel
theorem dX8_give_58 : decode cX8_give 58 = .ok (.iload_n 1, 1) := by decide +kernel
theorem dX8_give_59 : decode cX8_give 59 = .ok (.iload_n 2, 1) := by decide +kernel
theorem dX8_give_60 : decode cX8_give 60 = .ok (.iload_n 3, 1) := by decide +kernel
theorem dX8_give_61 : decode cX8_give 61 = .ok (.iload 4, 2) := by decide +kernel
theorem dX8_give_63 : decode cX8_give 63 = .ok (.invokevirtual 186, 3) := by decide +kernel
theorem dX8_give_66 : decode cX8_give 66 = .ok (.ifCond .ne 24, 3) := by decide +kernel
theorem dX8_give_69 : decode cX8_give 69 = .ok (.aload_n 0, 1) := by decide +kernel
theorem dX8_give_70 : decode cX8_give 70 = .ok (.iload_n 1, 1) := by decide +kernel
theorem dX8_give_71 : decode cX8_give 71 = .ok (.iload_n 2, 1) := by decide +kernel
theorem dX8_give_72 : decode cX8_give 72 = .ok (.aload_n 0, 1) := by decide +kernel
theorem dX8_give_73 : decode cX8_give 73 = .ok (.iload_n 2, 1) := by decide +kernel
theorem dX8_give_74 : decode cX8_give 74 = .ok (.iload_n 3, 1) := by decide +kernel
theorem dX8_give_75 : decode cX8_give 75 = .ok (.iload 4, 2) := by decide +kernel
theorem dX8_give_77 : decode cX8_give 77 = .ok (.invokevirtual 149, 3) := by decide +kernel
theorem dX8_give_80 : decode cX8_give 80 = .ok (.iload 4, 2) := by decide +kernel
theorem dX8_give_82 : decode cX8_give 82 = .ok (.iload 5, 2) := by decide +kernel
theorem dX8_give_84 : decode cX8_give 84 = .ok (.invokevirtual 200, 3) := by decide +kernel
theorem dX8_give_87 : decode cX8_give 87 = .ok (.ifCond .eq 10, 3) := by decide +kernel
theorem dX8_give_90 : decode cX8_give 90 = .ok (.aload_n 0, 1) := by decide +kernel
theorem dX8_give_91 : decode cX8_give 91 = .ok (.ldc 203, 2) := by decide +kernel
theorem dX8_give_93 : decode cX8_give 93 = .ok (.invokevirtual 124, 3) := by decide +kernel
theorem dX8_give_96 : decode cX8_give 96 = .ok (.ireturn, 1) := by decide +kernel
theorem dX8_give_97 : decode cX8_give 97 = .ok (.aload_n 0, 1) := by decide +kernel
theorem dX8_give_98 : decode cX8_give 98 = .ok (.getfield 159, 3) := by decide +kernel
theorem dX8_give_101 : decode cX8_give 101 = .ok (.bipush 60, 2) := by decide +kernel
theorem dX8_give_103 : decode cX8_give 103 = .ok (.if_icmp .ne 10, 3) := by decide +kernel
theorem dX8_give_106 : decode cX8_give 106 = .ok (.aload_n 0, 1) := by decide +kernel
theorem dX8_give_107 : decode cX8_give 107 = .ok (.ldc 131, 2) := by decide +kernel
theorem dX8_give_109 : decode cX8_give 109 = .ok (.invokevirtual 124, 3) := by decide +kernel
theorem dX8_give_112 : decode cX8_give 112 = .ok (.ireturn, 1) := by decide +kernel
theorem dX8_give_113 : decode cX8_give 113 = .ok (.aload_n 0, 1) := by decide +kernel
theorem dX8_give_114 : decode cX8_give 114 = .ok (.getfield 49, 3) := by decide +kernel
theorem dX8_give_117 : decode cX8_give 117 = .ok (.aload_n 0, 1) := by decide +kernel
theorem dX8_give_118 : decode cX8_give 118 = .ok (.getfield 159, 3) := by decide +kernel
theorem dX8_give_121 : decode cX8_give 121 = .ok (.iload_n 1, 1) := by decide +kernel
theorem dX8_give_122 : decode cX8_give 122 = .ok (.iastore, 1) := by decide +kernel
theorem dX8_give_123 : decode cX8_give 123 = .ok (.aload_n 0, 1) := by decide +kernel
theorem dX8_give_124 : decode cX8_give 124 = .ok (.getfield 52, 3) := by decide +kernel
theorem dX8_give_127 : decode cX8_give 127 = .ok (.aload_n 0, 1) := by decide +kernel
theorem dX8_give_128 : decode cX8_give 128 = .ok (.getfield 159, 3) := by decide +kernel
theorem dX8_give_131 : decode cX8_give 131 = .ok (.iload_n 2, 1) := by decide +kernel
theorem dX8_give_132 : decode cX8_give 132 = .ok (.iastore, 1) := by decide +kernel
theorem dX8_give_133 : decode cX8_give 133 = .ok (.aload_n 0, 1) := by decide +kernel
theorem dX8_give_134 : decode cX8_give 134 = .ok (.getfield 55, 3) := by decide +kernel
theorem dX8_give_137 : decode cX8_give 137 = .ok (.aload_n 0, 1) := by decide +kernel
theorem dX8_give_138 : decode cX8_give 138 = .ok (.getfield 159, 3) := by decide +kernel
theorem dX8_give_141 : decode cX8_give 141 = .ok (.iload_n 3, 1) := by decide +kernel
theorem dX8_give_142 : decode cX8_give 142 = .ok (.iastore, 1) := by decide +kernel
theorem dX8_give_143 : decode cX8_give 143 = .ok (.aload_n 0, 1) := by decide +kernel
theorem dX8_give_144 : decode cX8_give 144 = .ok (.getfield 58, 3) := by decide +kernel
theorem dX8_give_147 : decode cX8_give 147 = .ok (.aload_n 0, 1) := by decide +kernel
theorem dX8_give_148 : decode cX8_give 148 = .ok (.getfield 159, 3) := by decide +kernel
theorem dX8_give_151 : decode cX8_give 151 = .ok (.iload 4, 2) := by decide +kernel
theorem dX8_give_153 : decode cX8_give 153 = .ok (.iastore, 1) := by decide +kernel
theorem dX8_give_154 : decode cX8_give 154 = .ok (.aload_n 0, 1) := by decide +kernel
theorem dX8_give_155 : decode cX8_give 155 = .ok (.getfield 61, 3) := by decide +kernel
theorem dX8_give_158 : decode cX8_give 158 = .ok (.aload_n 0, 1) := by decide +kernel
theorem dX8_give_159 : decode cX8_give 159 = .ok (.getfield 159, 3) := by decide +kernel
theorem dX8_give_162 : decode cX8_give 162 = .ok (.iload 5, 2) := by decide +kernel
theorem dX8_give_164 : decode cX8_give 164 = .ok (.iastore, 1) := by decide +kernel
theorem dX8_give_165 : decode cX8_give 165 = .ok (.aload_n 0, 1) := by decide +kernel
theorem dX8_give_166 : decode cX8_give 166 = .ok (.dup, 1) := by decide +kernel
theorem dX8_give_167 : decode cX8_give 167 = .ok (.getfield 159, 3) := by decide +kernel
theorem dX8_give_170 : decode cX8_give 170 = .ok (.iconst 1, 1) := by decide +kernel
theorem dX8_give_171 : decode cX8_give 171 = .ok (.iadd, 1) := by decide +kernel
theorem dX8_give_172 : decode cX8_give 172 = .ok (.putfield 159, 3) := by decide +kernel
theorem dX8_give_175 : decode cX8_give 175 = .ok (.aload_n 0, 1) := by decide +kernel
theorem dX8_give_176 : decode cX8_give 176 = .ok (.getfield 159, 3) := by decide +kernel
theorem dX8_give_179 : decode cX8_give 179 = .ok (.iconst 1, 1) := by decide +kernel
theorem dX8_give_180 : decode cX8_give 180 = .ok (.isub, 1) := by decide +kernel
theorem dX8_give_181 : decode cX8_give 181 = .ok (.ireturn, 1) := by decide +kernel
theorem dX8_entry_0 : decode cX8_entry 0 = .ok (.iload_n 1, 1) := by decide +kernel
theorem dX8_entry_1 : decode cX8_entry 1 = .ok (.iconst 0, 1) := by decide +kernel
theorem dX8_entry_2 : decode cX8_entry 2 = .ok (.aload_n 0, 1) := by decide +kernel
theorem dX8_entry_3 : decode cX8_entry 3 = .ok (.getfield 159, 3) := by decide +kernel
theorem dX8_entry_6 : decode cX8_entry 6 = .ok (.iconst 1, 1) := by decide +kernel
theorem dX8_entry_7 : decode cX8_entry 7 = .ok (.isub, 1) := by decide +kernel
theorem dX8_entry_8 : decode cX8_entry 8 = .ok (.invokestatic 111, 3) := by decide +kernel
theorem dX8_entry_11 : decode cX8_entry 11 = .ok (.ifCond .ne 10, 3) := by decide +kernel
theorem dX8_entry_14 : decode cX8_entry 14 = .ok (.aload_n 0, 1) := by decide +kernel
theorem dX8_entry_15 : decode cX8_entry 15 = .ok (.ldc 123, 2) := by decide +kernel
theorem dX8_entry_17 : decode cX8_entry 17 = .ok (.invokevirtual 124, 3) := by decide +kernel
theorem dX8_entry_20 : decode cX8_entry 20 = .ok (.ireturn, 1) := by decide +kernel
theorem dX8_entry_21 : decode cX8_entry 21 = .ok (.iload_n 2, 1) := by decide +kernel
theorem dX8_entry_22 : decode cX8_entry 22 = .ok (.tableswitch 69 0 4 #[34, 41, 48, 55, 62], 34) := by decide +kernel
theorem dX8_entry_56 : decode cX8_entry 56 = .ok (.aload_n 0, 1) := by decide +kernel
theorem dX8_entry_57 : decode cX8_entry 57 = .ok (.getfield 49, 3) := by decide +kernel
theorem dX8_entry_60 : decode cX8_entry 60 = .ok (.iload_n 1, 1) := by decide +kernel
theorem dX8_entry_61 : decode cX8_entry 61 = .ok (.iaload, 1) := by decide +kernel
theorem dX8_entry_62 : decode cX8_entry 62 = .ok (.ireturn, 1) := by decide +kernel
theorem dX8_entry_63 : decode cX8_entry 63 = .ok (.aload_n 0, 1) := by decide +kernel
theorem dX8_entry_64 : decode cX8_entry 64 = .ok (.getfield 52, 3) := by decide +kernel
theorem dX8_entry_67 : decode cX8_entry 67 = .ok (.iload_n 1, 1) := by decide +kernel
theorem dX8_entry_68 : decode cX8_entry 68 = .ok (.iaload, 1) := by decide +kernel
theorem dX8_entry_69 : decode cX8_entry 69 = .ok (.ireturn, 1) := by decide +kernel
theorem dX8_entry_70 : decode cX8_entry 70 = .ok (.aload_n 0, 1) := by decide +kernel
theorem dX8_entry_71 : decode cX8_entry 71 = .ok (.getfield 55, 3) := by decide +kernel
theorem dX8_entry_74 : decode cX8_entry 74 = .ok (.iload_n 1, 1) := by decide +kernel
theorem dX8_entry_75 : decode cX8_entry 75 = .ok (.iaload, 1) := by decide +kernel
theorem dX8_entry_76 : decode cX8_entry 76 = .ok (.ireturn, 1) := by decide +kernel
theorem dX8_entry_77 : decode cX8_entry 77 = .ok (.aload_n 0, 1) := by decide +kernel
theorem dX8_entry_78 : decode cX8_entry 78 = .ok (.getfield 58, 3) := by decide +kernel
theorem dX8_entry_81 : decode cX8_entry 81 = .ok (.iload_n 1, 1) := by decide +kernel
theorem dX8_entry_82 : decode cX8_entry 82 = .ok (.iaload, 1) := by decide +kernel
theorem dX8_entry_83 : decode cX8_entry 83 = .ok (.ireturn, 1) := by decide +kernel
theorem dX8_entry_84 : decode cX8_entry 84 = .ok (.aload_n 0, 1) := by decide +kernel
theorem dX8_entry_85 : decode cX8_entry 85 = .ok (.getfield 61, 3) := by decide +kernel
theorem dX8_entry_88 : decode cX8_entry 88 = .ok (.iload_n 1, 1) := by decide +kernel
theorem dX8_entry_89 : decode cX8_entry 89 = .ok (.iaload, 1) := by decide +kernel
theorem dX8_entry_90 : decode cX8_entry 90 = .ok (.ireturn, 1) := by decide +kernel
theorem dX8_entry_91 : decode cX8_entry 91 = .ok (.aload_n 0, 1) := by decide +kernel
theorem dX8_entry_92 : decode cX8_entry 92 = .ok (.ldc 123, 2) := by decide +kernel
theorem dX8_entry_94 : decode cX8_entry 94 = .ok (.invokevirtual 124, 3) := by decide +kernel
theorem dX8_entry_97 : decode cX8_entry 97 = .ok (.ireturn, 1) := by decide +kernel
theorem dX8_stands_0 : decode cX8_stands 0 = .ok (.iload_n 1, 1) := by decide +kernel
theorem dX8_stands_1 : decode cX8_stands 1 = .ok (.iconst 0, 1) := by decide +kernel
theorem dX8_stands_2 : decode cX8_stands 2 = .ok (.aload_n 0, 1) := by decide +kernel
theorem dX8_stands_3 : decode cX8_stands 3 = .ok (.getfield 159, 3) := by decide +kernel
theorem dX8_stands_6 : decode cX8_stands 6 = .ok (.iconst 1, 1) := by decide +kernel
theorem dX8_stands_7 : decode cX8_stands 7 = .ok (.isub, 1) := by decide +kernel
theorem dX8_stands_8 : decode cX8_stands 8 = .ok (.invokestatic 111, 3) := by decide +kernel
theorem dX8_stands_11 : decode cX8_stands 11 = .ok (.ifCond .eq 10, 3) := by decide +kernel
theorem dX8_stands_14 : decode cX8_stands 14 = .ok (.iload_n 2, 1) := by decide +kernel
theorem dX8_stands_15 : decode cX8_stands 15 = .ok (.invokestatic 119, 3) := by decide +kernel
theorem dX8_stands_18 : decode cX8_stands 18 = .ok (.ifCond .ne 10, 3) := by decide +kernel
theorem dX8_stands_21 : decode cX8_stands 21 = .ok (.aload_n 0, 1) := by decide +kernel
theorem dX8_stands_22 : decode cX8_stands 22 = .ok (.ldc 123, 2) := by decide +kernel
theorem dX8_stands_24 : decode cX8_stands 24 = .ok (.invokevirtual 124, 3) := by decide +kernel
theorem dX8_stands_27 : decode cX8_stands 27 = .ok (.ireturn, 1) := by decide +kernel
theorem dX8_stands_28 : decode cX8_stands 28 = .ok (.aload_n 0, 1) := by decide +kernel
theorem dX8_stands_29 : decode cX8_stands 29 = .ok (.iload_n 2, 1) := by decide +kernel
theorem dX8_stands_30 : decode cX8_stands 30 = .ok (.invokevirtual 175, 3) := by decide +kernel
theorem dX8_stands_33 : decode cX8_stands 33 = .ok (.aload_n 0, 1) := by decide +kernel
theorem dX8_stands_34 : decode cX8_stands 34 = .ok (.getfield 94, 3) := by decide +kernel
theorem dX8_stands_37 : decode cX8_stands 37 = .ok (.iload_n 1, 1) := by decide +kernel
theorem dX8_stands_38 : decode cX8_stands 38 = .ok (.baload, 1) := by decide +kernel
theorem dX8_stands_39 : decode cX8_stands 39 = .ok (.ifCond .eq 7, 3) := by decide +kernel
theorem dX8_stands_42 : decode cX8_stands 42 = .ok (.iconst 1, 1) := by decide +kernel
theorem dX8_stands_43 : decode cX8_stands 43 = .ok (.goto 4, 3) := by decide +kernel
theorem dX8_stands_46 : decode cX8_stands 46 = .ok (.iconst 0, 1) := by decide +kernel
theorem dX8_stands_47 : decode cX8_stands 47 = .ok (.ireturn, 1) := by decide +kernel
theorem dX8_standing_0 : decode cX8_standing 0 = .ok (.aload_n 0, 1) := by decide +kernel
theorem dX8_standing_1 : decode cX8_standing 1 = .ok (.sipush 30000, 3) := by decide +kernel
theorem dX8_standing_4 : decode cX8_standing 4 = .ok (.invokevirtual 175, 3) := by decide +kernel
theorem dX8_standing_7 : decode cX8_standing 7 = .ok (.iconst 0, 1) := by decide +kernel
theorem dX8_standing_8 : decode cX8_standing 8 = .ok (.istore_n 1, 1) := by decide +kernel
theorem dX8_standing_9 : decode cX8_standing 9 = .ok (.iconst 0, 1) := by decide +kernel
theorem dX8_standing_10 : decode cX8_standing 10 = .ok (.istore_n 2, 1) := by decide +kernel
theorem dX8_standing_11 : decode cX8_standing 11 = .ok (.iload_n 2, 1) := by decide +kernel
theorem dX8_standing_12 : decode cX8_standing 12 = .ok (.aload_n 0, 1) := by decide +kernel
theorem dX8_standing_13 : decode cX8_standing 13 = .ok (.getfield 159, 3) := by decide +kernel
theorem dX8_standing_16 : decode cX8_standing 16 = .ok (.if_icmp .ge 26, 3) := by decide +kernel
theorem dX8_standing_19 : decode cX8_standing 19 = .ok (.iload_n 1, 1) := by decide +kernel
theorem dX8_standing_20 : decode cX8_standing 20 = .ok (.aload_n 0, 1) := by decide +kernel
theorem dX8_standing_21 : decode cX8_standing 21 = .ok (.getfield 94, 3) := by decide +kernel
theorem dX8_standing_24 : decode cX8_standing 24 = .ok (.iload_n 2, 1) := by decide +kernel
theorem dX8_standing_25 : decode cX8_standing 25 = .ok (.baload, 1) := by decide +kernel
theorem dX8_standing_26 : decode cX8_standing 26 = .ok (.ifCond .eq 7, 3) := by decide +kernel
theorem dX8_standing_29 : decode cX8_standing 29 = .ok (.iconst 1, 1) := by decide +kernel
theorem dX8_standing_30 : decode cX8_standing 30 = .ok (.goto 4, 3) := by decide +kernel
theorem dX8_standing_33 : decode cX8_standing 33 = .ok (.iconst 0, 1) := by decide +kernel
theorem dX8_standing_34 : decode cX8_standing 34 = .ok (.iadd, 1) := by decide +kernel
theorem dX8_standing_35 : decode cX8_standing 35 = .ok (.istore_n 1, 1) := by decide +kernel
theorem dX8_standing_36 : decode cX8_standing 36 = .ok (.iinc 2 1, 3) := by decide +kernel
theorem dX8_standing_39 : decode cX8_standing 39 = .ok (.goto (-28), 3) := by decide +kernel
theorem dX8_standing_42 : decode cX8_standing 42 = .ok (.iload_n 1, 1) := by decide +kernel
theorem dX8_standing_43 : decode cX8_standing 43 = .ok (.ireturn, 1) := by decide +kernel
theorem dX8_strike_0 : decode cX8_strike 0 = .ok (.aload_n 0, 1) := by decide +kernel
theorem dX8_strike_1 : decode cX8_strike 1 = .ok (.iload_n 1, 1) := by decide +kernel
theorem dX8_strike_2 : decode cX8_strike 2 = .ok (.invokevirtual 132, 3) := by decide +kernel
theorem dX8_strike_5 : decode cX8_strike 5 = .ok (.ifCond .eq 17, 3) := by decide +kernel
theorem dX8_strike_8 : decode cX8_strike 8 = .ok (.iload_n 2, 1) := by decide +kernel
theorem dX8_strike_9 : decode cX8_strike 9 = .ok (.invokestatic 119, 3) := by decide +kernel
theorem dX8_strike_12 : decode cX8_strike 12 = .ok (.ifCond .eq 10, 3) := by decide +kernel
theorem dX8_strike_15 : decode cX8_strike 15 = .ok (.iload_n 3, 1) := by decide +kernel
theorem dX8_strike_16 : decode cX8_strike 16 = .ok (.invokestatic 119, 3) := by decide +kernel
theorem dX8_strike_19 : decode cX8_strike 19 = .ok (.ifCond .ne 10, 3) := by decide +kernel
theorem dX8_strike_22 : decode cX8_strike 22 = .ok (.aload_n 0, 1) := by decide +kernel
theorem dX8_strike_23 : decode cX8_strike 23 = .ok (.ldc 123, 2) := by decide +kernel
theorem dX8_strike_25 : decode cX8_strike 25 = .ok (.invokevirtual 124, 3) := by decide +kernel
theorem dX8_strike_28 : decode cX8_strike 28 = .ok (.ireturn, 1) := by decide +kernel
theorem dX8_strike_29 : decode cX8_strike 29 = .ok (.aload_n 0, 1) := by decide +kernel
theorem dX8_strike_30 : decode cX8_strike 30 = .ok (.getfield 9, 3) := by decide +kernel
theorem dX8_strike_33 : decode cX8_strike 33 = .ok (.iload_n 1, 1) := by decide +kernel
theorem dX8_strike_34 : decode cX8_strike 34 = .ok (.iaload, 1) := by decide +kernel
theorem dX8_strike_35 : decode cX8_strike 35 = .ok (.iconst 1, 1) := by decide +kernel
theorem dX8_strike_36 : decode cX8_strike 36 = .ok (.if_icmp .eq 10, 3) := by decide +kernel
theorem dX8_strike_39 : decode cX8_strike 39 = .ok (.aload_n 0, 1) := by decide +kernel
theorem dX8_strike_40 : decode cX8_strike 40 = .ok (.ldc 135, 2) := by decide +kernel
theorem dX8_strike_42 : decode cX8_strike 42 = .ok (.invokevirtual 124, 3) := by decide +kernel
theorem dX8_strike_45 : decode cX8_strike 45 = .ok (.ireturn, 1) := by decide +kernel
theorem dX8_strike_46 : decode cX8_strike 46 = .ok (.aload_n 0, 1) := by decide +kernel
theorem dX8_strike_47 : decode cX8_strike 47 = .ok (.getfield 153, 3) := by decide +kernel
theorem dX8_strike_50 : decode cX8_strike 50 = .ok (.bipush 20, 2) := by decide +kernel
theorem dX8_strike_52 : decode cX8_strike 52 = .ok (.if_icmp .ne 10, 3) := by decide +kernel
theorem dX8_strike_55 : decode cX8_strike 55 = .ok (.aload_n 0, 1) := by decide +kernel
theorem dX8_strike_56 : decode cX8_strike 56 = .ok (.ldc 131, 2) := by decide +kernel
theorem dX8_strike_58 : decode cX8_strike 58 = .ok (.invokevirtual 124, 3) := by decide +kernel
theorem dX8_strike_61 : decode cX8_strike 61 = .ok (.ireturn, 1) := by decide +kernel
theorem dX8_strike_62 : decode cX8_strike 62 = .ok (.aload_n 0, 1) := by decide +kernel
theorem dX8_strike_63 : decode cX8_strike 63 = .ok (.invokevirtual 204, 3) := by decide +kernel
theorem dX8_strike_66 : decode cX8_strike 66 = .ok (.istore 4, 2) := by decide +kernel
theorem dX8_strike_68 : decode cX8_strike 68 = .ok (.aload_n 0, 1) := by decide +kernel
theorem dX8_strike_69 : decode cX8_strike 69 = .ok (.getfield 64, 3) := by decide +kernel
theorem dX8_strike_72 : decode cX8_strike 72 = .ok (.aload_n 0, 1) := by decide +kernel
theorem dX8_strike_73 : decode cX8_strike 73 = .ok (.getfield 153, 3) := by decide +kernel
theorem dX8_strike_76 : decode cX8_strike 76 = .ok (.iload_n 1, 1) := by decide +kernel
theorem dX8_strike_77 : decode cX8_strike 77 = .ok (.iastore, 1) := by decide +kernel
theorem dX8_strike_78 : decode cX8_strike 78 = .ok (.aload_n 0, 1) := by decide +kernel
theorem dX8_strike_79 : decode cX8_strike 79 = .ok (.getfield 67, 3) := by decide +kernel
theorem dX8_strike_82 : decode cX8_strike 82 = .ok (.aload_n 0, 1) := by decide +kernel
theorem dX8_strike_83 : decode cX8_strike 83 = .ok (.getfield 153, 3) := by decide +kernel
theorem dX8_strike_86 : decode cX8_strike 86 = .ok (.iload_n 2, 1) := by decide +kernel
theorem dX8_strike_87 : decode cX8_strike 87 = .ok (.iastore, 1) := by decide +kernel
theorem dX8_strike_88 : decode cX8_strike 88 = .ok (.aload_n 0, 1) := by decide +kernel
theorem dX8_strike_89 : decode cX8_strike 89 = .ok (.getfield 70, 3) := by decide +kernel
theorem dX8_strike_92 : decode cX8_strike 92 = .ok (.aload_n 0, 1) := by decide +kernel
theorem dX8_strike_93 : decode cX8_strike 93 = .ok (.getfield 153, 3) := by decide +kernel
theorem dX8_strike_96 : decode cX8_strike 96 = .ok (.iload_n 3, 1) := by decide +kernel
theorem dX8_strike_97 : decode cX8_strike 97 = .ok (.iastore, 1) := by decide +kernel
theorem dX8_strike_98 : decode cX8_strike 98 = .ok (.aload_n 0, 1) := by decide +kernel
theorem dX8_strike_99 : decode cX8_strike 99 = .ok (.dup, 1) := by decide +kernel
theorem dX8_strike_100 : decode cX8_strike 100 = .ok (.getfield 153, 3) := by decide +kernel
theorem dX8_strike_103 : decode cX8_strike 103 = .ok (.iconst 1, 1) := by decide +kernel
theorem dX8_strike_104 : decode cX8_strike 104 = .ok (.iadd, 1) := by decide +kernel
theorem dX8_strike_105 : decode cX8_strike 105 = .ok (.putfield 153, 3) := by decide +kernel
theorem dX8_strike_108 : decode cX8_strike 108 = .ok (.iload 4, 2) := by decide +kernel
theorem dX8_strike_110 : decode cX8_strike 110 = .ok (.aload_n 0, 1) := by decide +kernel
theorem dX8_strike_111 : decode cX8_strike 111 = .ok (.invokevirtual 204, 3) := by decide +kernel
theorem dX8_strike_114 : decode cX8_strike 114 = .ok (.isub, 1) := by decide +kernel
theorem dX8_strike_115 : decode cX8_strike 115 = .ok (.ireturn, 1) := by decide +kernel
theorem dX8_unstrike_0 : decode cX8_unstrike 0 = .ok (.aload_n 0, 1) := by decide +kernel
theorem dX8_unstrike_1 : decode cX8_unstrike 1 = .ok (.getfield 153, 3) := by decide +kernel
theorem dX8_unstrike_4 : decode cX8_unstrike 4 = .ok (.ifCond .ne 10, 3) := by decide +kernel
theorem dX8_unstrike_7 : decode cX8_unstrike 7 = .ok (.aload_n 0, 1) := by decide +kernel
theorem dX8_unstrike_8 : decode cX8_unstrike 8 = .ok (.ldc 152, 2) := by decide +kernel
theorem dX8_unstrike_10 : decode cX8_unstrike 10 = .ok (.invokevirtual 124, 3) := by decide +kernel
theorem dX8_unstrike_13 : decode cX8_unstrike 13 = .ok (.ireturn, 1) := by decide +kernel
theorem dX8_unstrike_14 : decode cX8_unstrike 14 = .ok (.aload_n 0, 1) := by decide +kernel
theorem dX8_unstrike_15 : decode cX8_unstrike 15 = .ok (.dup, 1) := by decide +kernel
theorem dX8_unstrike_16 : decode cX8_unstrike 16 = .ok (.getfield 153, 3) := by decide +kernel
theorem dX8_unstrike_19 : decode cX8_unstrike 19 = .ok (.iconst 1, 1) := by decide +kernel
theorem dX8_unstrike_20 : decode cX8_unstrike 20 = .ok (.isub, 1) := by decide +kernel
theorem dX8_unstrike_21 : decode cX8_unstrike 21 = .ok (.putfield 153, 3) := by decide +kernel
theorem dX8_unstrike_24 : decode cX8_unstrike 24 = .ok (.aload_n 0, 1) := by decide +kernel
theorem dX8_unstrike_25 : decode cX8_unstrike 25 = .ok (.getfield 153, 3) := by decide +kernel
theorem dX8_unstrike_28 : decode cX8_unstrike 28 = .ok (.ireturn, 1) := by decide +kernel
theorem dX8_wait_0 : decode cX8_wait 0 = .ok (.aload_n 0, 1) := by decide +kernel
theorem dX8_wait_1 : decode cX8_wait 1 = .ok (.iload_n 1, 1) := by decide +kernel
theorem dX8_wait_2 : decode cX8_wait 2 = .ok (.invokevirtual 132, 3) := by decide +kernel
theorem dX8_wait_5 : decode cX8_wait 5 = .ok (.ifCond .ne 10, 3) := by decide +kernel
theorem dX8_wait_8 : decode cX8_wait 8 = .ok (.aload_n 0, 1) := by decide +kernel
theorem dX8_wait_9 : decode cX8_wait 9 = .ok (.ldc 123, 2) := by decide +kernel
theorem dX8_wait_11 : decode cX8_wait 11 = .ok (.invokevirtual 124, 3) := by decide +kernel
theorem dX8_wait_14 : decode cX8_wait 14 = .ok (.ireturn, 1) := by decide +kernel
theorem dX8_wait_15 : decode cX8_wait 15 = .ok (.iconst 0, 1) := by decide +kernel
theorem dX8_wait_16 : decode cX8_wait 16 = .ok (.istore_n 2, 1) := by decide +kernel
theorem dX8_wait_17 : decode cX8_wait 17 = .ok (.iload_n 2, 1) := by decide +kernel
theorem dX8_wait_18 : decode cX8_wait 18 = .ok (.aload_n 0, 1) := by decide +kernel
theorem dX8_wait_19 : decode cX8_wait 19 = .ok (.getfield 208, 3) := by decide +kernel
theorem dX8_wait_22 : decode cX8_wait 22 = .ok (.if_icmp .ge 26, 3) := by decide +kernel
theorem dX8_wait_25 : decode cX8_wait 25 = .ok (.aload_n 0, 1) := by decide +kernel
theorem dX8_wait_26 : decode cX8_wait 26 = .ok (.getfield 73, 3) := by decide +kernel
theorem dX8_wait_29 : decode cX8_wait 29 = .ok (.iload_n 2, 1) := by decide +kernel
theorem dX8_wait_30 : decode cX8_wait 30 = .ok (.iaload, 1) := by decide +kernel
theorem dX8_wait_31 : decode cX8_wait 31 = .ok (.iload_n 1, 1) := by decide +kernel
theorem dX8_wait_32 : decode cX8_wait 32 = .ok (.if_icmp .ne 10, 3) := by decide +kernel
theorem dX8_wait_35 : decode cX8_wait 35 = .ok (.aload_n 0, 1) := by decide +kernel
theorem dX8_wait_36 : decode cX8_wait 36 = .ok (.ldc 203, 2) := by decide +kernel
theorem dX8_wait_38 : decode cX8_wait 38 = .ok (.invokevirtual 124, 3) := by decide +kernel
theorem dX8_wait_41 : decode cX8_wait 41 = .ok (.ireturn, 1) := by decide +kernel
theorem dX8_wait_42 : decode cX8_wait 42 = .ok (.iinc 2 1, 3) := by decide +kernel
theorem dX8_wait_45 : decode cX8_wait 45 = .ok (.goto (-28), 3) := by decide +kernel
theorem dX8_wait_48 : decode cX8_wait 48 = .ok (.aload_n 0, 1) := by decide +kernel
theorem dX8_wait_49 : decode cX8_wait 49 = .ok (.getfield 208, 3) := by decide +kernel
theorem dX8_wait_52 : decode cX8_wait 52 = .ok (.iconst 4, 1) := by decide +kernel
theorem dX8_wait_53 : decode cX8_wait 53 = .ok (.if_icmp .ne 10, 3) := by decide +kernel
theorem dX8_wait_56 : decode cX8_wait 56 = .ok (.aload_n 0, 1) := by decide +kernel
theorem dX8_wait_57 : decode cX8_wait 57 = .ok (.ldc 131, 2) := by decide +kernel
theorem dX8_wait_59 : decode cX8_wait 59 = .ok (.invokevirtual 124, 3) := by decide +kernel
theorem dX8_wait_62 : decode cX8_wait 62 = .ok (.ireturn, 1) := by decide +kernel
theorem dX8_wait_63 : decode cX8_wait 63 = .ok (.aload_n 0, 1) := by decide +kernel
theorem dX8_wait_64 : decode cX8_wait 64 = .ok (.getfield 73, 3) := by decide +kernel
theorem dX8_wait_67 : decode cX8_wait 67 = .ok (.aload_n 0, 1) := by decide +kernel
theorem dX8_wait_68 : decode cX8_wait 68 = .ok (.getfield 208, 3) := by decide +kernel
theorem dX8_wait_71 : decode cX8_wait 71 = .ok (.iload_n 1, 1) := by decide +kernel
theorem dX8_wait_72 : decode cX8_wait 72 = .ok (.iastore, 1) := by decide +kernel
theorem dX8_wait_73 : decode cX8_wait 73 = .ok (.aload_n 0, 1) := by decide +kernel
theorem dX8_wait_74 : decode cX8_wait 74 = .ok (.dup, 1) := by decide +kernel
theorem dX8_wait_75 : decode cX8_wait 75 = .ok (.getfield 208, 3) := by decide +kernel
theorem dX8_wait_78 : decode cX8_wait 78 = .ok (.iconst 1, 1) := by decide +kernel
theorem dX8_wait_79 : decode cX8_wait 79 = .ok (.iadd, 1) := by decide +kernel
theorem dX8_wait_80 : decode cX8_wait 80 = .ok (.putfield 208, 3) := by decide +kernel
theorem dX8_wait_83 : decode cX8_wait 83 = .ok (.aload_n 0, 1) := by decide +kernel
theorem dX8_wait_84 : decode cX8_wait 84 = .ok (.iconst 0, 1) := by decide +kernel
theorem dX8_wait_85 : decode cX8_wait 85 = .ok (.putfield 211, 3) := by decide +kernel
theorem dX8_wait_88 : decode cX8_wait 88 = .ok (.aload_n 0, 1) := by decide +kernel
theorem dX8_wait_89 : decode cX8_wait 89 = .ok (.getfield 208, 3) := by decide +kernel
theorem dX8_wait_92 : decode cX8_wait 92 = .ok (.ireturn, 1) := by decide +kernel
theorem dX8_go_0 : decode cX8_go 0 = .ok (.aload_n 0, 1) := by decide +kernel
theorem dX8_go_1 : decode cX8_go 1 = .ok (.getfield 208, 3) := by decide +kernel
theorem dX8_go_4 : decode cX8_go 4 = .ok (.istore_n 1, 1) := by decide +kernel
theorem dX8_go_5 : decode cX8_go 5 = .ok (.aload_n 0, 1) := by decide +kernel
theorem dX8_go_6 : decode cX8_go 6 = .ok (.iconst 0, 1) := by decide +kernel
theorem dX8_go_7 : decode cX8_go 7 = .ok (.putfield 208, 3) := by decide +kernel
theorem dX8_go_10 : decode cX8_go 10 = .ok (.aload_n 0, 1) := by decide +kernel
theorem dX8_go_11 : decode cX8_go 11 = .ok (.iconst 0, 1) := by decide +kernel
theorem dX8_go_12 : decode cX8_go 12 = .ok (.putfield 211, 3) := by decide +kernel
theorem dX8_go_15 : decode cX8_go 15 = .ok (.iload_n 1, 1) := by decide +kernel
theorem dX8_go_16 : decode cX8_go 16 = .ok (.ireturn, 1) := by decide +kernel
theorem dX8_findPanels_0 : decode cX8_findPanels 0 = .ok (.aload_n 0, 1) := by decide +kernel
theorem dX8_findPanels_1 : decode cX8_findPanels 1 = .ok (.iconst 0, 1) := by decide +kernel
theorem dX8_findPanels_2 : decode cX8_findPanels 2 = .ok (.putfield 215, 3) := by decide +kernel
theorem dX8_findPanels_5 : decode cX8_findPanels 5 = .ok (.iconst 2, 1) := by decide +kernel
theorem dX8_findPanels_6 : decode cX8_findPanels 6 = .ok (.istore_n 3, 1) := by decide +kernel
theorem dX8_findPanels_7 : decode cX8_findPanels 7 = .ok (.iload_n 3, 1) := by decide +kernel
theorem dX8_findPanels_8 : decode cX8_findPanels 8 = .ok (.aload_n 0, 1) := by decide +kernel
theorem dX8_findPanels_9 : decode cX8_findPanels 9 = .ok (.getfield 115, 3) := by decide +kernel
theorem dX8_findPanels_12 : decode cX8_findPanels 12 = .ok (.if_icmp .ge 104, 3) := by decide +kernel
theorem dX8_findPanels_15 : decode cX8_findPanels 15 = .ok (.iconst 1, 1) := by decide +kernel
theorem dX8_findPanels_16 : decode cX8_findPanels 16 = .ok (.istore 4, 2) := by decide +kernel
theorem dX8_findPanels_18 : decode cX8_findPanels 18 = .ok (.iload 4, 2) := by decide +kernel
theorem dX8_findPanels_20 : decode cX8_findPanels 20 = .ok (.iload_n 3, 1) := by decide +kernel
theorem dX8_findPanels_21 : decode cX8_findPanels 21 = .ok (.if_icmp .ge 89, 3) := by decide +kernel
theorem dX8_findPanels_24 : decode cX8_findPanels 24 = .ok (.iconst 0, 1) := by decide +kernel
theorem dX8_findPanels_25 : decode cX8_findPanels 25 = .ok (.istore 5, 2) := by decide +kernel
theorem dX8_findPanels_27 : decode cX8_findPanels 27 = .ok (.iload 5, 2) := by decide +kernel
theorem dX8_findPanels_29 : decode cX8_findPanels 29 = .ok (.iload 4, 2) := by decide +kernel
theorem dX8_findPanels_31 : decode cX8_findPanels 31 = .ok (.if_icmp .ge 73, 3) := by decide +kernel
theorem dX8_findPanels_34 : decode cX8_findPanels 34 = .ok (.aload_n 0, 1) := by decide +kernel
theorem dX8_findPanels_35 : decode cX8_findPanels 35 = .ok (.getfield 9, 3) := by decide +kernel
theorem dX8_findPanels_38 : decode cX8_findPanels 38 = .ok (.iload 5, 2) := by decide +kernel
theorem dX8_findPanels_40 : decode cX8_findPanels 40 = .ok (.iaload, 1) := by decide +kernel
theorem dX8_findPanels_41 : decode cX8_findPanels 41 = .ok (.iconst 1, 1) := by decide +kernel
theorem dX8_findPanels_42 : decode cX8_findPanels 42 = .ok (.if_icmp .ne 56, 3) := by decide +kernel
theorem dX8_findPanels_45 : decode cX8_findPanels 45 = .ok (.aload_n 0, 1) := by decide +kernel
theorem dX8_findPanels_46 : decode cX8_findPanels 46 = .ok (.getfield 9, 3) := by decide +kernel
theorem dX8_findPanels_49 : decode cX8_findPanels 49 = .ok (.iload 4, 2) := by decide +kernel
theorem dX8_findPanels_51 : decode cX8_findPanels 51 = .ok (.iaload, 1) := by decide +kernel
theorem dX8_findPanels_52 : decode cX8_findPanels 52 = .ok (.iconst 1, 1) := by decide +kernel
theorem dX8_findPanels_53 : decode cX8_findPanels 53 = .ok (.if_icmp .ne 45, 3) := by decide +kernel
theorem dX8_findPanels_56 : decode cX8_findPanels 56 = .ok (.aload_n 0, 1) := by decide +kernel
theorem dX8_findPanels_57 : decode cX8_findPanels 57 = .ok (.getfield 9, 3) := by decide +kernel
theorem dX8_findPanels_60 : decode cX8_findPanels 60 = .ok (.iload_n 3, 1) := by decide +kernel
theorem dX8_findPanels_61 : decode cX8_findPanels 61 = .ok (.iaload, 1) := by decide +kernel
theorem dX8_findPanels_62 : decode cX8_findPanels 62 = .ok (.iconst 1, 1) := by decide +kernel
theorem dX8_findPanels_63 : decode cX8_findPanels 63 = .ok (.if_icmp .ne 35, 3) := by decide +kernel
theorem dX8_findPanels_66 : decode cX8_findPanels 66 = .ok (.aload_n 0, 1) := by decide +kernel
theorem dX8_findPanels_67 : decode cX8_findPanels 67 = .ok (.getfield 98, 3) := by decide +kernel
theorem dX8_findPanels_70 : decode cX8_findPanels 70 = .ok (.aload_n 0, 1) := by decide +kernel
theorem dX8_findPanels_71 : decode cX8_findPanels 71 = .ok (.getfield 215, 3) := by decide +kernel
theorem dX8_findPanels_74 : decode cX8_findPanels 74 = .ok (.iconst 1, 1) := by decide +kernel
theorem dX8_findPanels_75 : decode cX8_findPanels 75 = .ok (.iload 5, 2) := by decide +kernel
theorem dX8_findPanels_77 : decode cX8_findPanels 77 = .ok (.ishl, 1) := by decide +kernel
theorem dX8_findPanels_78 : decode cX8_findPanels 78 = .ok (.iconst 1, 1) := by decide +kernel
theorem dX8_findPanels_79 : decode cX8_findPanels 79 = .ok (.iload 4, 2) := by decide +kernel
theorem dX8_findPanels_81 : decode cX8_findPanels 81 = .ok (.ishl, 1) := by decide +kernel
theorem dX8_findPanels_82 : decode cX8_findPanels 82 = .ok (.ior, 1) := by decide +kernel
theorem dX8_findPanels_83 : decode cX8_findPanels 83 = .ok (.iconst 1, 1) := by decide +kernel
theorem dX8_findPanels_84 : decode cX8_findPanels 84 = .ok (.iload_n 3, 1) := by decide +kernel
theorem dX8_findPanels_85 : decode cX8_findPanels 85 = .ok (.ishl, 1) := by decide +kernel
theorem dX8_findPanels_86 : decode cX8_findPanels 86 = .ok (.ior, 1) := by decide +kernel
theorem dX8_findPanels_87 : decode cX8_findPanels 87 = .ok (.iastore, 1) := by decide +kernel
theorem dX8_findPanels_88 : decode cX8_findPanels 88 = .ok (.aload_n 0, 1) := by decide +kernel
theorem dX8_findPanels_89 : decode cX8_findPanels 89 = .ok (.dup, 1) := by decide +kernel
theorem dX8_findPanels_90 : decode cX8_findPanels 90 = .ok (.getfield 215, 3) := by decide +kernel
theorem dX8_findPanels_93 : decode cX8_findPanels 93 = .ok (.iconst 1, 1) := by decide +kernel
theorem dX8_findPanels_94 : decode cX8_findPanels 94 = .ok (.iadd, 1) := by decide +kernel
theorem dX8_findPanels_95 : decode cX8_findPanels 95 = .ok (.putfield 215, 3) := by decide +kernel
theorem dX8_findPanels_98 : decode cX8_findPanels 98 = .ok (.iinc 5 1, 3) := by decide +kernel
theorem dX8_findPanels_101 : decode cX8_findPanels 101 = .ok (.goto (-74), 3) := by decide +kernel
theorem dX8_findPanels_104 : decode cX8_findPanels 104 = .ok (.iinc 4 1, 3) := by decide +kernel
theorem dX8_findPanels_107 : decode cX8_findPanels 107 = .ok (.goto (-89), 3) := by decide +kernel
theorem dX8_findPanels_110 : decode cX8_findPanels 110 = .ok (.iinc 3 1, 3) := by decide +kernel
theorem dX8_findPanels_113 : decode cX8_findPanels 113 = .ok (.goto (-106), 3) := by decide +kernel
theorem dX8_findPanels_116 : decode cX8_findPanels 116 = .ok (.aload_n 0, 1) := by decide +kernel
theorem dX8_findPanels_117 : decode cX8_findPanels 117 = .ok (.iload_n 2, 1) := by decide +kernel
theorem dX8_findPanels_118 : decode cX8_findPanels 118 = .ok (.invokevirtual 175, 3) := by decide +kernel
theorem dX8_findPanels_121 : decode cX8_findPanels 121 = .ok (.iconst 0, 1) := by decide +kernel
theorem dX8_findPanels_122 : decode cX8_findPanels 122 = .ok (.istore_n 3, 1) := by decide +kernel
theorem dX8_findPanels_123 : decode cX8_findPanels 123 = .ok (.iload_n 3, 1) := by decide +kernel
theorem dX8_findPanels_124 : decode cX8_findPanels 124 = .ok (.aload_n 0, 1) := by decide +kernel
theorem dX8_findPanels_125 : decode cX8_findPanels 125 = .ok (.getfield 208, 3) := by decide +kernel
theorem dX8_findPanels_128 : decode cX8_findPanels 128 = .ok (.if_icmp .ge 122, 3) := by decide +kernel
theorem dX8_findPanels_131 : decode cX8_findPanels 131 = .ok (.aload_n 0, 1) := by decide +kernel
theorem dX8_findPanels_132 : decode cX8_findPanels 132 = .ok (.getfield 73, 3) := by decide +kernel
theorem dX8_findPanels_135 : decode cX8_findPanels 135 = .ok (.iload_n 3, 1) := by decide +kernel
theorem dX8_findPanels_136 : decode cX8_findPanels 136 = .ok (.iaload, 1) := by decide +kernel
theorem dX8_findPanels_137 : decode cX8_findPanels 137 = .ok (.istore 4, 2) := by decide +kernel
theorem dX8_findPanels_139 : decode cX8_findPanels 139 = .ok (.aload_n 0, 1) := by decide +kernel
theorem dX8_findPanels_140 : decode cX8_findPanels 140 = .ok (.iload 4, 2) := by decide +kernel
theorem dX8_findPanels_142 : decode cX8_findPanels 142 = .ok (.iload_n 1, 1) := by decide +kernel
theorem dX8_findPanels_143 : decode cX8_findPanels 143 = .ok (.iload_n 2, 1) := by decide +kernel
theorem dX8_findPanels_144 : decode cX8_findPanels 144 = .ok (.invokevirtual 179, 3) := by decide +kernel
theorem dX8_findPanels_147 : decode cX8_findPanels 147 = .ok (.iconst 1, 1) := by decide +kernel
theorem dX8_findPanels_148 : decode cX8_findPanels 148 = .ok (.iadd, 1) := by decide +kernel
theorem dX8_findPanels_149 : decode cX8_findPanels 149 = .ok (.istore 5, 2) := by decide +kernel
theorem dX8_findPanels_151 : decode cX8_findPanels 151 = .ok (.iload 5, 2) := by decide +kernel
theorem dX8_findPanels_153 : decode cX8_findPanels 153 = .ok (.bipush 10, 2) := by decide +kernel
theorem dX8_findPanels_155 : decode cX8_findPanels 155 = .ok (.if_icmp .gt 20, 3) := by decide +kernel
theorem dX8_findPanels_158 : decode cX8_findPanels 158 = .ok (.aload_n 0, 1) := by decide +kernel
theorem dX8_findPanels_159 : decode cX8_findPanels 159 = .ok (.iload 4, 2) := by decide +kernel
theorem dX8_findPanels_161 : decode cX8_findPanels 161 = .ok (.iload_n 1, 1) := by decide +kernel
theorem dX8_findPanels_162 : decode cX8_findPanels 162 = .ok (.iload 5, 2) := by decide +kernel
theorem dX8_findPanels_164 : decode cX8_findPanels 164 = .ok (.iload_n 2, 1) := by decide +kernel
theorem dX8_findPanels_165 : decode cX8_findPanels 165 = .ok (.invokevirtual 186, 3) := by decide +kernel
theorem dX8_findPanels_168 : decode cX8_findPanels 168 = .ok (.ifCond .ne 7, 3) := by decide +kernel
theorem dX8_findPanels_171 : decode cX8_findPanels 171 = .ok (.iconst 1, 1) := by decide +kernel
theorem dX8_findPanels_172 : decode cX8_findPanels 172 = .ok (.goto 4, 3) := by decide +kernel
theorem dX8_findPanels_175 : decode cX8_findPanels 175 = .ok (.iconst 0, 1) := by decide +kernel
theorem dX8_findPanels_176 : decode cX8_findPanels 176 = .ok (.istore 6, 2) := by decide +kernel
theorem dX8_findPanels_178 : decode cX8_findPanels 178 = .ok (.iconst 0, 1) := by decide +kernel
theorem dX8_findPanels_179 : decode cX8_findPanels 179 = .ok (.istore 7, 2) := by decide +kernel
theorem dX8_findPanels_181 : decode cX8_findPanels 181 = .ok (.iload 7, 2) := by decide +kernel
theorem dX8_findPanels_183 : decode cX8_findPanels 183 = .ok (.aload_n 0, 1) := by decide +kernel
theorem dX8_findPanels_184 : decode cX8_findPanels 184 = .ok (.getfield 215, 3) := by decide +kernel
theorem dX8_findPanels_187 : decode cX8_findPanels 187 = .ok (.if_icmp .ge 57, 3) := by decide +kernel
theorem dX8_findPanels_190 : decode cX8_findPanels 190 = .ok (.aload_n 0, 1) := by decide +kernel
theorem dX8_findPanels_191 : decode cX8_findPanels 191 = .ok (.getfield 101, 3) := by decide +kernel
theorem dX8_findPanels_194 : decode cX8_findPanels 194 = .ok (.bipush 20, 2) := by decide +kernel
theorem dX8_findPanels_196 : decode cX8_findPanels 196 = .ok (.iload_n 3, 1) := by decide +kernel
theorem dX8_findPanels_197 : decode cX8_findPanels 197 = .ok (.imul, 1) := by decide +kernel
theorem dX8_findPanels_198 : decode cX8_findPanels 198 = .ok (.iload 7, 2) := by decide +kernel
theorem dX8_findPanels_200 : decode cX8_findPanels 200 = .ok (.iadd, 1) := by decide +kernel
theorem dX8_findPanels_201 : decode cX8_findPanels 201 = .ok (.iload 6, 2) := by decide +kernel
theorem dX8_findPanels_203 : decode cX8_findPanels 203 = .ok (.ifCond .eq 33, 3) := by decide +kernel
theorem dX8_findPanels_206 : decode cX8_findPanels 206 = .ok (.aload_n 0, 1) := by decide +kernel
theorem dX8_findPanels_207 : decode cX8_findPanels 207 = .ok (.iload 4, 2) := by decide +kernel
theorem dX8_findPanels_209 : decode cX8_findPanels 209 = .ok (.iload_n 1, 1) := by decide +kernel
theorem dX8_findPanels_210 : decode cX8_findPanels 210 = .ok (.aload_n 0, 1) := by decide +kernel
theorem dX8_findPanels_211 : decode cX8_findPanels 211 = .ok (.iload_n 1, 1) := by decide +kernel
theorem dX8_findPanels_212 : decode cX8_findPanels 212 = .ok (.iload 5, 2) := by decide +kernel
theorem dX8_findPanels_214 : decode cX8_findPanels 214 = .ok (.iload_n 2, 1) := by decide +kernel
theorem dX8_findPanels_215 : decode cX8_findPanels 215 = .ok (.invokevirtual 149, 3) := by decide +kernel
theorem dX8_findPanels_218 : decode cX8_findPanels 218 = .ok (.iload_n 2, 1) := by decide +kernel
theorem dX8_findPanels_219 : decode cX8_findPanels 219 = .ok (.aload_n 0, 1) := by decide +kernel
theorem dX8_findPanels_220 : decode cX8_findPanels 220 = .ok (.getfield 98, 3) := by decide +kernel
theorem dX8_findPanels_223 : decode cX8_findPanels 223 = .ok (.iload 7, 2) := by decide +kernel
theorem dX8_findPanels_225 : decode cX8_findPanels 225 = .ok (.iaload, 1) := by decide +kernel
theorem dX8_findPanels_226 : decode cX8_findPanels 226 = .ok (.invokevirtual 200, 3) := by decide +kernel
theorem dX8_findPanels_229 : decode cX8_findPanels 229 = .ok (.ifCond .ne 7, 3) := by decide +kernel
theorem dX8_findPanels_232 : decode cX8_findPanels 232 = .ok (.iconst 1, 1) := by decide +kernel
theorem dX8_findPanels_233 : decode cX8_findPanels 233 = .ok (.goto 4, 3) := by decide +kernel
theorem dX8_findPanels_236 : decode cX8_findPanels 236 = .ok (.iconst 0, 1) := by decide +kernel
theorem dX8_findPanels_237 : decode cX8_findPanels 237 = .ok (.bastore, 1) := by decide +kernel
theorem dX8_findPanels_238 : decode cX8_findPanels 238 = .ok (.iinc 7 1, 3) := by decide +kernel
theorem dX8_findPanels_241 : decode cX8_findPanels 241 = .ok (.goto (-60), 3) := by decide +kernel
theorem dX8_findPanels_244 : decode cX8_findPanels 244 = .ok (.iinc 3 1, 3) := by decide +kernel
theorem dX8_findPanels_247 : decode cX8_findPanels 247 = .ok (.goto (-124), 3) := by decide +kernel
theorem dX8_findPanels_250 : decode cX8_findPanels 250 = .ok (.return_, 1) := by decide +kernel
theorem dX8_loads_0 : decode cX8_loads 0 = .ok (.iconst 0, 1) := by decide +kernel
theorem dX8_loads_1 : decode cX8_loads 1 = .ok (.istore_n 3, 1) := by decide +kernel
theorem dX8_loads_2 : decode cX8_loads 2 = .ok (.iload_n 3, 1) := by decide +kernel
theorem dX8_loads_3 : decode cX8_loads 3 = .ok (.aload_n 0, 1) := by decide +kernel
theorem dX8_loads_4 : decode cX8_loads 4 = .ok (.getfield 115, 3) := by decide +kernel
theorem dX8_loads_7 : decode cX8_loads 7 = .ok (.if_icmp .ge 32, 3) := by decide +kernel
theorem dX8_loads_10 : decode cX8_loads 10 = .ok (.aload_n 0, 1) := by decide +kernel
theorem dX8_loads_11 : decode cX8_loads 11 = .ok (.getfield 107, 3) := by decide +kernel
theorem dX8_loads_14 : decode cX8_loads 14 = .ok (.iload_n 3, 1) := by decide +kernel
theorem dX8_loads_15 : decode cX8_loads 15 = .ok (.dup2, 1) := by decide +kernel
theorem dX8_loads_16 : decode cX8_loads 16 = .ok (.iaload, 1) := by decide +kernel
theorem dX8_loads_17 : decode cX8_loads 17 = .ok (.iload_n 1, 1) := by decide +kernel
theorem dX8_loads_18 : decode cX8_loads 18 = .ok (.iload_n 3, 1) := by decide +kernel
theorem dX8_loads_19 : decode cX8_loads 19 = .ok (.ishr, 1) := by decide +kernel
theorem dX8_loads_20 : decode cX8_loads 20 = .ok (.iconst 1, 1) := by decide +kernel
theorem dX8_loads_21 : decode cX8_loads 21 = .ok (.iand, 1) := by decide +kernel
theorem dX8_loads_22 : decode cX8_loads 22 = .ok (.iconst 1, 1) := by decide +kernel
theorem dX8_loads_23 : decode cX8_loads 23 = .ok (.if_icmp .ne 7, 3) := by decide +kernel
theorem dX8_loads_26 : decode cX8_loads 26 = .ok (.iload_n 2, 1) := by decide +kernel
theorem dX8_loads_27 : decode cX8_loads 27 = .ok (.goto 4, 3) := by decide +kernel
theorem dX8_loads_30 : decode cX8_loads 30 = .ok (.iconst 0, 1) := by decide +kernel
theorem dX8_loads_31 : decode cX8_loads 31 = .ok (.iadd, 1) := by decide +kernel
theorem dX8_loads_32 : decode cX8_loads 32 = .ok (.iastore, 1) := by decide +kernel
theorem dX8_loads_33 : decode cX8_loads 33 = .ok (.iinc 3 1, 3) := by decide +kernel
theorem dX8_loads_36 : decode cX8_loads 36 = .ok (.goto (-34), 3) := by decide +kernel
theorem dX8_loads_39 : decode cX8_loads 39 = .ok (.return_, 1) := by decide +kernel
theorem dX8_isLight_0 : decode cX8_isLight 0 = .ok (.iconst 1, 1) := by decide +kernel
theorem dX8_isLight_1 : decode cX8_isLight 1 = .ok (.istore_n 3, 1) := by decide +kernel
theorem dX8_isLight_2 : decode cX8_isLight 2 = .ok (.iconst 0, 1) := by decide +kernel
theorem dX8_isLight_3 : decode cX8_isLight 3 = .ok (.istore 4, 2) := by decide +kernel
theorem dX8_isLight_5 : decode cX8_isLight 5 = .ok (.iload 4, 2) := by decide +kernel
theorem dX8_isLight_7 : decode cX8_isLight 7 = .ok (.aload_n 0, 1) := by decide +kernel
theorem dX8_isLight_8 : decode cX8_isLight 8 = .ok (.getfield 115, 3) := by decide +kernel
theorem dX8_isLight_11 : decode cX8_isLight 11 = .ok (.if_icmp .ge 39, 3) := by decide +kernel
theorem dX8_isLight_14 : decode cX8_isLight 14 = .ok (.iload_n 3, 1) := by decide +kernel
theorem dX8_isLight_15 : decode cX8_isLight 15 = .ok (.ifCond .eq 27, 3) := by decide +kernel
theorem dX8_isLight_18 : decode cX8_isLight 18 = .ok (.iload_n 1, 1) := by decide +kernel
theorem dX8_isLight_19 : decode cX8_isLight 19 = .ok (.iload 4, 2) := by decide +kernel
theorem dX8_isLight_21 : decode cX8_isLight 21 = .ok (.ishr, 1) := by decide +kernel
theorem dX8_isLight_22 : decode cX8_isLight 22 = .ok (.iconst 1, 1) := by decide +kernel
theorem dX8_isLight_23 : decode cX8_isLight 23 = .ok (.iand, 1) := by decide +kernel
theorem dX8_isLight_24 : decode cX8_isLight 24 = .ok (.ifCond .eq 14, 3) := by decide +kernel
theorem dX8_isLight_27 : decode cX8_isLight 27 = .ok (.aload_n 0, 1) := by decide +kernel
theorem dX8_isLight_28 : decode cX8_isLight 28 = .ok (.getfield 107, 3) := by decide +kernel
theorem dX8_isLight_31 : decode cX8_isLight 31 = .ok (.iload 4, 2) := by decide +kernel
theorem dX8_isLight_33 : decode cX8_isLight 33 = .ok (.iaload, 1) := by decide +kernel
theorem dX8_isLight_34 : decode cX8_isLight 34 = .ok (.iload_n 2, 1) := by decide +kernel
theorem dX8_isLight_35 : decode cX8_isLight 35 = .ok (.if_icmp .ge 7, 3) := by decide +kernel
theorem dX8_isLight_38 : decode cX8_isLight 38 = .ok (.iconst 1, 1) := by decide +kernel
theorem dX8_isLight_39 : decode cX8_isLight 39 = .ok (.goto 4, 3) := by decide +kernel
theorem dX8_isLight_42 : decode cX8_isLight 42 = .ok (.iconst 0, 1) := by decide +kernel
theorem dX8_isLight_43 : decode cX8_isLight 43 = .ok (.istore_n 3, 1) := by decide +kernel
theorem dX8_isLight_44 : decode cX8_isLight 44 = .ok (.iinc 4 1, 3) := by decide +kernel
theorem dX8_isLight_47 : decode cX8_isLight 47 = .ok (.goto (-42), 3) := by decide +kernel
theorem dX8_isLight_50 : decode cX8_isLight 50 = .ok (.iload_n 3, 1) := by decide +kernel
theorem dX8_isLight_51 : decode cX8_isLight 51 = .ok (.ireturn, 1) := by decide +kernel
theorem dX8_tryAll_0 : decode cX8_tryAll 0 = .ok (.aload_n 0, 1) := by decide +kernel
theorem dX8_tryAll_1 : decode cX8_tryAll 1 = .ok (.iconst (-1), 1) := by decide +kernel
theorem dX8_tryAll_2 : decode cX8_tryAll 2 = .ok (.putfield 218, 3) := by decide +kernel
theorem dX8_tryAll_5 : decode cX8_tryAll 5 = .ok (.iconst 0, 1) := by decide +kernel
theorem dX8_tryAll_6 : decode cX8_tryAll 6 = .ok (.istore_n 2, 1) := by decide +kernel
theorem dX8_tryAll_7 : decode cX8_tryAll 7 = .ok (.iconst 0, 1) := by decide +kernel
theorem dX8_tryAll_8 : decode cX8_tryAll 8 = .ok (.istore_n 3, 1) := by decide +kernel
theorem dX8_tryAll_9 : decode cX8_tryAll 9 = .ok (.iconst 0, 1) := by decide +kernel
theorem dX8_tryAll_10 : decode cX8_tryAll 10 = .ok (.istore 4, 2) := by decide +kernel
theorem dX8_tryAll_12 : decode cX8_tryAll 12 = .ok (.iload 4, 2) := by decide +kernel
theorem dX8_tryAll_14 : decode cX8_tryAll 14 = .ok (.bipush 20, 2) := by decide +kernel
theorem dX8_tryAll_16 : decode cX8_tryAll 16 = .ok (.if_icmp .ge 17, 3) := by decide +kernel
theorem dX8_tryAll_19 : decode cX8_tryAll 19 = .ok (.aload_n 0, 1) := by decide +kernel
theorem dX8_tryAll_20 : decode cX8_tryAll 20 = .ok (.getfield 107, 3) := by decide +kernel
theorem dX8_tryAll_23 : decode cX8_tryAll 23 = .ok (.iload 4, 2) := by decide +kernel
theorem dX8_tryAll_25 : decode cX8_tryAll 25 = .ok (.iconst 0, 1) := by decide +kernel
theorem dX8_tryAll_26 : decode cX8_tryAll 26 = .ok (.iastore, 1) := by decide +kernel
theorem dX8_tryAll_27 : decode cX8_tryAll 27 = .ok (.iinc 4 1, 3) := by decide +kernel
theorem dX8_tryAll_30 : decode cX8_tryAll 30 = .ok (.goto (-18), 3) := by decide +kernel
theorem dX8_tryAll_33 : decode cX8_tryAll 33 = .ok (.aload_n 0, 1) := by decide +kernel
theorem dX8_tryAll_34 : decode cX8_tryAll 34 = .ok (.getfield 104, 3) := by decide +kernel
theorem dX8_tryAll_37 : decode cX8_tryAll 37 = .ok (.iconst 0, 1) := by decide +kernel
theorem dX8_tryAll_38 : decode cX8_tryAll 38 = .ok (.iconst (-1), 1) := by decide +kernel
theorem dX8_tryAll_39 : decode cX8_tryAll 39 = .ok (.iastore, 1) := by decide +kernel
theorem dX8_tryAll_40 : decode cX8_tryAll 40 = .ok (.iload_n 2, 1) := by decide +kernel
theorem dX8_tryAll_41 : decode cX8_tryAll 41 = .ok (.ifCond .lt 264, 3) := by decide +kernel
theorem dX8_tryAll_44 : decode cX8_tryAll 44 = .ok (.iload_n 2, 1) := by decide +kernel
theorem dX8_tryAll_45 : decode cX8_tryAll 45 = .ok (.aload_n 0, 1) := by decide +kernel
theorem dX8_tryAll_46 : decode cX8_tryAll 46 = .ok (.getfield 208, 3) := by decide +kernel
theorem dX8_tryAll_49 : decode cX8_tryAll 49 = .ok (.if_icmp .ne 77, 3) := by decide +kernel
theorem dX8_tryAll_52 : decode cX8_tryAll 52 = .ok (.iload_n 3, 1) := by decide +kernel
theorem dX8_tryAll_53 : decode cX8_tryAll 53 = .ok (.aload_n 0, 1) := by decide +kernel
theorem dX8_tryAll_54 : decode cX8_tryAll 54 = .ok (.getfield 218, 3) := by decide +kernel
theorem dX8_tryAll_57 : decode cX8_tryAll 57 = .ok (.if_icmp .le 63, 3) := by decide +kernel
theorem dX8_tryAll_60 : decode cX8_tryAll 60 = .ok (.aload_n 0, 1) := by decide +kernel
theorem dX8_tryAll_61 : decode cX8_tryAll 61 = .ok (.iload_n 3, 1) := by decide +kernel
theorem dX8_tryAll_62 : decode cX8_tryAll 62 = .ok (.putfield 218, 3) := by decide +kernel
theorem dX8_tryAll_65 : decode cX8_tryAll 65 = .ok (.iconst 0, 1) := by decide +kernel
theorem dX8_tryAll_66 : decode cX8_tryAll 66 = .ok (.istore 4, 2) := by decide +kernel
theorem dX8_tryAll_68 : decode cX8_tryAll 68 = .ok (.iload 4, 2) := by decide +kernel
theorem dX8_tryAll_70 : decode cX8_tryAll 70 = .ok (.aload_n 0, 1) := by decide +kernel
theorem dX8_tryAll_71 : decode cX8_tryAll 71 = .ok (.getfield 208, 3) := by decide +kernel
theorem dX8_tryAll_74 : decode cX8_tryAll 74 = .ok (.if_icmp .ge 46, 3) := by decide +kernel
theorem dX8_tryAll_77 : decode cX8_tryAll 77 = .ok (.aload_n 0, 1) := by decide +kernel
theorem dX8_tryAll_78 : decode cX8_tryAll 78 = .ok (.getfield 76, 3) := by decide +kernel
theorem dX8_tryAll_81 : decode cX8_tryAll 81 = .ok (.iload 4, 2) := by decide +kernel
theorem dX8_tryAll_83 : decode cX8_tryAll 83 = .ok (.aload_n 0, 1) := by decide +kernel
theorem dX8_tryAll_84 : decode cX8_tryAll 84 = .ok (.getfield 104, 3) := by decide +kernel
theorem dX8_tryAll_87 : decode cX8_tryAll 87 = .ok (.iload 4, 2) := by decide +kernel
theorem dX8_tryAll_89 : decode cX8_tryAll 89 = .ok (.iaload, 1) := by decide +kernel
theorem dX8_tryAll_90 : decode cX8_tryAll 90 = .ok (.aload_n 0, 1) := by decide +kernel
theorem dX8_tryAll_91 : decode cX8_tryAll 91 = .ok (.getfield 215, 3) := by decide +kernel
theorem dX8_tryAll_94 : decode cX8_tryAll 94 = .ok (.if_icmp .ne 7, 3) := by decide +kernel
theorem dX8_tryAll_97 : decode cX8_tryAll 97 = .ok (.iconst 0, 1) := by decide +kernel
theorem dX8_tryAll_98 : decode cX8_tryAll 98 = .ok (.goto 15, 3) := by decide +kernel
theorem dX8_tryAll_101 : decode cX8_tryAll 101 = .ok (.aload_n 0, 1) := by decide +kernel
theorem dX8_tryAll_102 : decode cX8_tryAll 102 = .ok (.getfield 98, 3) := by decide +kernel
theorem dX8_tryAll_105 : decode cX8_tryAll 105 = .ok (.aload_n 0, 1) := by decide +kernel
theorem dX8_tryAll_106 : decode cX8_tryAll 106 = .ok (.getfield 104, 3) := by decide +kernel
theorem dX8_tryAll_109 : decode cX8_tryAll 109 = .ok (.iload 4, 2) := by decide +kernel
theorem dX8_tryAll_111 : decode cX8_tryAll 111 = .ok (.iaload, 1) := by decide +kernel
theorem dX8_tryAll_112 : decode cX8_tryAll 112 = .ok (.iaload, 1) := by decide +kernel
theorem dX8_tryAll_113 : decode cX8_tryAll 113 = .ok (.iastore, 1) := by decide +kernel
theorem dX8_tryAll_114 : decode cX8_tryAll 114 = .ok (.iinc 4 1, 3) := by decide +kernel
theorem dX8_tryAll_117 : decode cX8_tryAll 117 = .ok (.goto (-49), 3) := by decide +kernel
theorem dX8_tryAll_120 : decode cX8_tryAll 120 = .ok (.iinc 2 (-1), 3) := by decide +kernel
theorem dX8_tryAll_123 : decode cX8_tryAll 123 = .ok (.goto (-83), 3) := by decide +kernel
theorem dX8_tryAll_126 : decode cX8_tryAll 126 = .ok (.aload_n 0, 1) := by decide +kernel
theorem dX8_tryAll_127 : decode cX8_tryAll 127 = .ok (.getfield 104, 3) := by decide +kernel
theorem dX8_tryAll_130 : decode cX8_tryAll 130 = .ok (.iload_n 2, 1) := by decide +kernel
theorem dX8_tryAll_131 : decode cX8_tryAll 131 = .ok (.iaload, 1) := by decide +kernel
theorem dX8_tryAll_132 : decode cX8_tryAll 132 = .ok (.ifCond .lt 35, 3) := by decide +kernel
theorem dX8_tryAll_135 : decode cX8_tryAll 135 = .ok (.aload_n 0, 1) := by decide +kernel
theorem dX8_tryAll_136 : decode cX8_tryAll 136 = .ok (.getfield 104, 3) := by decide +kernel
theorem dX8_tryAll_139 : decode cX8_tryAll 139 = .ok (.iload_n 2, 1) := by decide +kernel
theorem dX8_tryAll_140 : decode cX8_tryAll 140 = .ok (.iaload, 1) := by decide +kernel
theorem dX8_tryAll_141 : decode cX8_tryAll 141 = .ok (.aload_n 0, 1) := by decide +kernel
theorem dX8_tryAll_142 : decode cX8_tryAll 142 = .ok (.getfield 215, 3) := by decide +kernel
theorem dX8_tryAll_145 : decode cX8_tryAll 145 = .ok (.if_icmp .ge 22, 3) := by decide +kernel
theorem dX8_tryAll_148 : decode cX8_tryAll 148 = .ok (.aload_n 0, 1) := by decide +kernel
theorem dX8_tryAll_149 : decode cX8_tryAll 149 = .ok (.aload_n 0, 1) := by decide +kernel
theorem dX8_tryAll_150 : decode cX8_tryAll 150 = .ok (.getfield 98, 3) := by decide +kernel
theorem dX8_tryAll_153 : decode cX8_tryAll 153 = .ok (.aload_n 0, 1) := by decide +kernel
theorem dX8_tryAll_154 : decode cX8_tryAll 154 = .ok (.getfield 104, 3) := by decide +kernel
theorem dX8_tryAll_157 : decode cX8_tryAll 157 = .ok (.iload_n 2, 1) := by decide +kernel
theorem dX8_tryAll_158 : decode cX8_tryAll 158 = .ok (.iaload, 1) := by decide +kernel
theorem dX8_tryAll_159 : decode cX8_tryAll 159 = .ok (.iaload, 1) := by decide +kernel
theorem dX8_tryAll_160 : decode cX8_tryAll 160 = .ok (.iconst (-1), 1) := by decide +kernel
theorem dX8_tryAll_161 : decode cX8_tryAll 161 = .ok (.invokevirtual 221, 3) := by decide +kernel
theorem dX8_tryAll_164 : decode cX8_tryAll 164 = .ok (.iinc 3 (-1), 3) := by decide +kernel
theorem dX8_tryAll_167 : decode cX8_tryAll 167 = .ok (.aload_n 0, 1) := by decide +kernel
theorem dX8_tryAll_168 : decode cX8_tryAll 168 = .ok (.getfield 104, 3) := by decide +kernel
theorem dX8_tryAll_171 : decode cX8_tryAll 171 = .ok (.iload_n 2, 1) := by decide +kernel
theorem dX8_tryAll_172 : decode cX8_tryAll 172 = .ok (.dup2, 1) := by decide +kernel
theorem dX8_tryAll_173 : decode cX8_tryAll 173 = .ok (.iaload, 1) := by decide +kernel
theorem dX8_tryAll_174 : decode cX8_tryAll 174 = .ok (.iconst 1, 1) := by decide +kernel
theorem dX8_tryAll_175 : decode cX8_tryAll 175 = .ok (.iadd, 1) := by decide +kernel
theorem dX8_tryAll_176 : decode cX8_tryAll 176 = .ok (.iastore, 1) := by decide +kernel
theorem dX8_tryAll_177 : decode cX8_tryAll 177 = .ok (.aload_n 0, 1) := by decide +kernel
theorem dX8_tryAll_178 : decode cX8_tryAll 178 = .ok (.getfield 104, 3) := by decide +kernel
theorem dX8_tryAll_181 : decode cX8_tryAll 181 = .ok (.iload_n 2, 1) := by decide +kernel
theorem dX8_tryAll_182 : decode cX8_tryAll 182 = .ok (.iaload, 1) := by decide +kernel
theorem dX8_tryAll_183 : decode cX8_tryAll 183 = .ok (.aload_n 0, 1) := by decide +kernel
theorem dX8_tryAll_184 : decode cX8_tryAll 184 = .ok (.getfield 215, 3) := by decide +kernel
theorem dX8_tryAll_187 : decode cX8_tryAll 187 = .ok (.if_icmp .ge 54, 3) := by decide +kernel
theorem dX8_tryAll_190 : decode cX8_tryAll 190 = .ok (.aload_n 0, 1) := by decide +kernel
theorem dX8_tryAll_191 : decode cX8_tryAll 191 = .ok (.getfield 101, 3) := by decide +kernel
theorem dX8_tryAll_194 : decode cX8_tryAll 194 = .ok (.bipush 20, 2) := by decide +kernel
theorem dX8_tryAll_196 : decode cX8_tryAll 196 = .ok (.iload_n 2, 1) := by decide +kernel
theorem dX8_tryAll_197 : decode cX8_tryAll 197 = .ok (.imul, 1) := by decide +kernel
theorem dX8_tryAll_198 : decode cX8_tryAll 198 = .ok (.aload_n 0, 1) := by decide +kernel
theorem dX8_tryAll_199 : decode cX8_tryAll 199 = .ok (.getfield 104, 3) := by decide +kernel
theorem dX8_tryAll_202 : decode cX8_tryAll 202 = .ok (.iload_n 2, 1) := by decide +kernel
theorem dX8_tryAll_203 : decode cX8_tryAll 203 = .ok (.iaload, 1) := by decide +kernel
theorem dX8_tryAll_204 : decode cX8_tryAll 204 = .ok (.iadd, 1) := by decide +kernel
theorem dX8_tryAll_205 : decode cX8_tryAll 205 = .ok (.baload, 1) := by decide +kernel
theorem dX8_tryAll_206 : decode cX8_tryAll 206 = .ok (.ifCond .eq 22, 3) := by decide +kernel
theorem dX8_tryAll_209 : decode cX8_tryAll 209 = .ok (.aload_n 0, 1) := by decide +kernel
theorem dX8_tryAll_210 : decode cX8_tryAll 210 = .ok (.aload_n 0, 1) := by decide +kernel
theorem dX8_tryAll_211 : decode cX8_tryAll 211 = .ok (.getfield 98, 3) := by decide +kernel
theorem dX8_tryAll_214 : decode cX8_tryAll 214 = .ok (.aload_n 0, 1) := by decide +kernel
theorem dX8_tryAll_215 : decode cX8_tryAll 215 = .ok (.getfield 104, 3) := by decide +kernel
theorem dX8_tryAll_218 : decode cX8_tryAll 218 = .ok (.iload_n 2, 1) := by decide +kernel
theorem dX8_tryAll_219 : decode cX8_tryAll 219 = .ok (.iaload, 1) := by decide +kernel
theorem dX8_tryAll_220 : decode cX8_tryAll 220 = .ok (.iaload, 1) := by decide +kernel
theorem dX8_tryAll_221 : decode cX8_tryAll 221 = .ok (.iload_n 1, 1) := by decide +kernel
theorem dX8_tryAll_222 : decode cX8_tryAll 222 = .ok (.invokevirtual 225, 3) := by decide +kernel
theorem dX8_tryAll_225 : decode cX8_tryAll 225 = .ok (.ifCond .ne 16, 3) := by decide +kernel
theorem dX8_tryAll_228 : decode cX8_tryAll 228 = .ok (.aload_n 0, 1) := by decide +kernel
theorem dX8_tryAll_229 : decode cX8_tryAll 229 = .ok (.getfield 104, 3) := by decide +kernel
theorem dX8_tryAll_232 : decode cX8_tryAll 232 = .ok (.iload_n 2, 1) := by decide +kernel
theorem dX8_tryAll_233 : decode cX8_tryAll 233 = .ok (.dup2, 1) := by decide +kernel
theorem dX8_tryAll_234 : decode cX8_tryAll 234 = .ok (.iaload, 1) := by decide +kernel
theorem dX8_tryAll_235 : decode cX8_tryAll 235 = .ok (.iconst 1, 1) := by decide +kernel
theorem dX8_tryAll_236 : decode cX8_tryAll 236 = .ok (.iadd, 1) := by decide +kernel
theorem dX8_tryAll_237 : decode cX8_tryAll 237 = .ok (.iastore, 1) := by decide +kernel
theorem dX8_tryAll_238 : decode cX8_tryAll 238 = .ok (.goto (-61), 3) := by decide +kernel
theorem dX8_tryAll_241 : decode cX8_tryAll 241 = .ok (.aload_n 0, 1) := by decide +kernel
theorem dX8_tryAll_242 : decode cX8_tryAll 242 = .ok (.getfield 104, 3) := by decide +kernel
theorem dX8_tryAll_245 : decode cX8_tryAll 245 = .ok (.iload_n 2, 1) := by decide +kernel
theorem dX8_tryAll_246 : decode cX8_tryAll 246 = .ok (.iaload, 1) := by decide +kernel
theorem dX8_tryAll_247 : decode cX8_tryAll 247 = .ok (.aload_n 0, 1) := by decide +kernel
theorem dX8_tryAll_248 : decode cX8_tryAll 248 = .ok (.getfield 215, 3) := by decide +kernel
theorem dX8_tryAll_251 : decode cX8_tryAll 251 = .ok (.if_icmp .le 9, 3) := by decide +kernel
theorem dX8_tryAll_254 : decode cX8_tryAll 254 = .ok (.iinc 2 (-1), 3) := by decide +kernel
theorem dX8_tryAll_257 : decode cX8_tryAll 257 = .ok (.goto (-217), 3) := by decide +kernel
theorem dX8_tryAll_260 : decode cX8_tryAll 260 = .ok (.aload_n 0, 1) := by decide +kernel
theorem dX8_tryAll_261 : decode cX8_tryAll 261 = .ok (.getfield 104, 3) := by decide +kernel
theorem dX8_tryAll_264 : decode cX8_tryAll 264 = .ok (.iload_n 2, 1) := by decide +kernel
theorem dX8_tryAll_265 : decode cX8_tryAll 265 = .ok (.iaload, 1) := by decide +kernel
theorem dX8_tryAll_266 : decode cX8_tryAll 266 = .ok (.aload_n 0, 1) := by decide +kernel
theorem dX8_tryAll_267 : decode cX8_tryAll 267 = .ok (.getfield 215, 3) := by decide +kernel
theorem dX8_tryAll_270 : decode cX8_tryAll 270 = .ok (.if_icmp .ge 22, 3) := by decide +kernel
theorem dX8_tryAll_273 : decode cX8_tryAll 273 = .ok (.aload_n 0, 1) := by decide +kernel
theorem dX8_tryAll_274 : decode cX8_tryAll 274 = .ok (.aload_n 0, 1) := by decide +kernel
theorem dX8_tryAll_275 : decode cX8_tryAll 275 = .ok (.getfield 98, 3) := by decide +kernel
theorem dX8_tryAll_278 : decode cX8_tryAll 278 = .ok (.aload_n 0, 1) := by decide +kernel
theorem dX8_tryAll_279 : decode cX8_tryAll 279 = .ok (.getfield 104, 3) := by decide +kernel
theorem dX8_tryAll_282 : decode cX8_tryAll 282 = .ok (.iload_n 2, 1) := by decide +kernel
theorem dX8_tryAll_283 : decode cX8_tryAll 283 = .ok (.iaload, 1) := by decide +kernel
theorem dX8_tryAll_284 : decode cX8_tryAll 284 = .ok (.iaload, 1) := by decide +kernel
theorem dX8_tryAll_285 : decode cX8_tryAll 285 = .ok (.iconst 1, 1) := by decide +kernel
theorem dX8_tryAll_286 : decode cX8_tryAll 286 = .ok (.invokevirtual 221, 3) := by decide +kernel
theorem dX8_tryAll_289 : decode cX8_tryAll 289 = .ok (.iinc 3 1, 3) := by decide +kernel
theorem dX8_tryAll_292 : decode cX8_tryAll 292 = .ok (.iinc 2 1, 3) := by decide +kernel
theorem dX8_tryAll_295 : decode cX8_tryAll 295 = .ok (.aload_n 0, 1) := by decide +kernel
theorem dX8_tryAll_296 : decode cX8_tryAll 296 = .ok (.getfield 104, 3) := by decide +kernel
theorem dX8_tryAll_299 : decode cX8_tryAll 299 = .ok (.iload_n 2, 1) := by decide +kernel
theorem dX8_tryAll_300 : decode cX8_tryAll 300 = .ok (.iconst (-1), 1) := by decide +kernel
theorem dX8_tryAll_301 : decode cX8_tryAll 301 = .ok (.iastore, 1) := by decide +kernel
theorem dX8_tryAll_302 : decode cX8_tryAll 302 = .ok (.goto (-262), 3) := by decide +kernel
theorem dX8_tryAll_305 : decode cX8_tryAll 305 = .ok (.return_, 1) := by decide +kernel
theorem dX8_best_0 : decode cX8_best 0 = .ok (.iload_n 1, 1) := by decide +kernel
theorem dX8_best_1 : decode cX8_best 1 = .ok (.invokestatic 136, 3) := by decide +kernel
theorem dX8_best_4 : decode cX8_best 4 = .ok (.ifCond .eq 19, 3) := by decide +kernel
theorem dX8_best_7 : decode cX8_best 7 = .ok (.iload_n 2, 1) := by decide +kernel
theorem dX8_best_8 : decode cX8_best 8 = .ok (.invokestatic 119, 3) := by decide +kernel
theorem dX8_best_11 : decode cX8_best 11 = .ok (.ifCond .eq 12, 3) := by decide +kernel
theorem dX8_best_14 : decode cX8_best 14 = .ok (.iload_n 3, 1) := by decide +kernel
theorem dX8_best_15 : decode cX8_best 15 = .ok (.iconst 1, 1) := by decide +kernel
theorem dX8_best_16 : decode cX8_best 16 = .ok (.iconst 4, 1) := by decide +kernel
theorem dX8_best_17 : decode cX8_best 17 = .ok (.invokestatic 111, 3) := by decide +kernel
theorem dX8_best_20 : decode cX8_best 20 = .ok (.ifCond .ne 10, 3) := by decide +kernel
theorem dX8_best_23 : decode cX8_best 23 = .ok (.aload_n 0, 1) := by decide +kernel
theorem dX8_best_24 : decode cX8_best 24 = .ok (.ldc 123, 2) := by decide +kernel
theorem dX8_best_26 : decode cX8_best 26 = .ok (.invokevirtual 124, 3) := by decide +kernel
theorem dX8_best_29 : decode cX8_best 29 = .ok (.ireturn, 1) := by decide +kernel
theorem dX8_best_30 : decode cX8_best 30 = .ok (.aload_n 0, 1) := by decide +kernel
theorem dX8_best_31 : decode cX8_best 31 = .ok (.iload_n 1, 1) := by decide +kernel
theorem dX8_best_32 : decode cX8_best 32 = .ok (.iload_n 2, 1) := by decide +kernel
theorem dX8_best_33 : decode cX8_best 33 = .ok (.invokevirtual 228, 3) := by decide +kernel
theorem dX8_best_36 : decode cX8_best 36 = .ok (.aload_n 0, 1) := by decide +kernel
theorem dX8_best_37 : decode cX8_best 37 = .ok (.iload_n 3, 1) := by decide +kernel
theorem dX8_best_38 : decode cX8_best 38 = .ok (.invokevirtual 231, 3) := by decide +kernel
theorem dX8_best_41 : decode cX8_best 41 = .ok (.aload_n 0, 1) := by decide +kernel
theorem dX8_best_42 : decode cX8_best 42 = .ok (.iconst 1, 1) := by decide +kernel
theorem dX8_best_43 : decode cX8_best 43 = .ok (.putfield 211, 3) := by decide +kernel
theorem dX8_best_46 : decode cX8_best 46 = .ok (.aload_n 0, 1) := by decide +kernel
theorem dX8_best_47 : decode cX8_best 47 = .ok (.getfield 218, 3) := by decide +kernel
theorem dX8_best_50 : decode cX8_best 50 = .ok (.ireturn, 1) := by decide +kernel
theorem dX8_given_0 : decode cX8_given 0 = .ok (.iload_n 1, 1) := by decide +kernel
theorem dX8_given_1 : decode cX8_given 1 = .ok (.iconst 0, 1) := by decide +kernel
theorem dX8_given_2 : decode cX8_given 2 = .ok (.aload_n 0, 1) := by decide +kernel
theorem dX8_given_3 : decode cX8_given 3 = .ok (.getfield 208, 3) := by decide +kernel
theorem dX8_given_6 : decode cX8_given 6 = .ok (.iconst 1, 1) := by decide +kernel
theorem dX8_given_7 : decode cX8_given 7 = .ok (.isub, 1) := by decide +kernel
theorem dX8_given_8 : decode cX8_given 8 = .ok (.invokestatic 111, 3) := by decide +kernel
theorem dX8_given_11 : decode cX8_given 11 = .ok (.ifCond .ne 10, 3) := by decide +kernel
theorem dX8_given_14 : decode cX8_given 14 = .ok (.aload_n 0, 1) := by decide +kernel
theorem dX8_given_15 : decode cX8_given 15 = .ok (.ldc 123, 2) := by decide +kernel
theorem dX8_given_17 : decode cX8_given 17 = .ok (.invokevirtual 124, 3) := by decide +kernel
theorem dX8_given_20 : decode cX8_given 20 = .ok (.ireturn, 1) := by decide +kernel
theorem dX8_given_21 : decode cX8_given 21 = .ok (.aload_n 0, 1) := by decide +kernel
theorem dX8_given_22 : decode cX8_given 22 = .ok (.getfield 211, 3) := by decide +kernel
theorem dX8_given_25 : decode cX8_given 25 = .ok (.ifCond .eq 12, 3) := by decide +kernel
theorem dX8_given_28 : decode cX8_given 28 = .ok (.aload_n 0, 1) := by decide +kernel
theorem dX8_given_29 : decode cX8_given 29 = .ok (.getfield 76, 3) := by decide +kernel
theorem dX8_given_32 : decode cX8_given 32 = .ok (.iload_n 1, 1) := by decide +kernel
theorem dX8_given_33 : decode cX8_given 33 = .ok (.iaload, 1) := by decide +kernel
theorem dX8_given_34 : decode cX8_given 34 = .ok (.goto 9, 3) := by decide +kernel
theorem dX8_given_37 : decode cX8_given 37 = .ok (.aload_n 0, 1) := by decide +kernel
theorem dX8_given_38 : decode cX8_given 38 = .ok (.ldc 203, 2) := by decide +kernel
theorem dX8_given_40 : decode cX8_given 40 = .ok (.invokevirtual 124, 3) := by decide +kernel
theorem dX8_given_43 : decode cX8_given 43 = .ok (.ireturn, 1) := by decide +kernel
theorem dX8_exam_0 : decode cX8_exam 0 = .ok (.aload_n 0, 1) := by decide +kernel
theorem dX8_exam_1 : decode cX8_exam 1 = .ok (.getfield 234, 3) := by decide +kernel
theorem dX8_exam_4 : decode cX8_exam 4 = .ok (.bipush 20, 2) := by decide +kernel
theorem dX8_exam_6 : decode cX8_exam 6 = .ok (.if_icmp .ne 10, 3) := by decide +kernel
theorem dX8_exam_9 : decode cX8_exam 9 = .ok (.aload_n 0, 1) := by decide +kernel
theorem dX8_exam_10 : decode cX8_exam 10 = .ok (.ldc 131, 2) := by decide +kernel
theorem dX8_exam_12 : decode cX8_exam 12 = .ok (.invokevirtual 124, 3) := by decide +kernel
theorem dX8_exam_15 : decode cX8_exam 15 = .ok (.ireturn, 1) := by decide +kernel
theorem dX8_exam_16 : decode cX8_exam 16 = .ok (.aload_n 0, 1) := by decide +kernel
theorem dX8_exam_17 : decode cX8_exam 17 = .ok (.dup, 1) := by decide +kernel
theorem dX8_exam_18 : decode cX8_exam 18 = .ok (.getfield 234, 3) := by decide +kernel
theorem dX8_exam_21 : decode cX8_exam 21 = .ok (.iconst 1, 1) := by decide +kernel
theorem dX8_exam_22 : decode cX8_exam 22 = .ok (.iadd, 1) := by decide +kernel
theorem dX8_exam_23 : decode cX8_exam 23 = .ok (.putfield 234, 3) := by decide +kernel
theorem dX8_exam_26 : decode cX8_exam 26 = .ok (.aload_n 0, 1) := by decide +kernel
theorem dX8_exam_27 : decode cX8_exam 27 = .ok (.getfield 234, 3) := by decide +kernel
theorem dX8_exam_30 : decode cX8_exam 30 = .ok (.iconst 1, 1) := by decide +kernel
theorem dX8_exam_31 : decode cX8_exam 31 = .ok (.isub, 1) := by decide +kernel
theorem dX8_exam_32 : decode cX8_exam 32 = .ok (.ireturn, 1) := by decide +kernel
theorem dX8_isExam_0 : decode cX8_isExam 0 = .ok (.iload_n 1, 1) := by decide +kernel
theorem dX8_isExam_1 : decode cX8_isExam 1 = .ok (.iconst 0, 1) := by decide +kernel
theorem dX8_isExam_2 : decode cX8_isExam 2 = .ok (.aload_n 0, 1) := by decide +kernel
theorem dX8_isExam_3 : decode cX8_isExam 3 = .ok (.getfield 234, 3) := by decide +kernel
theorem dX8_isExam_6 : decode cX8_isExam 6 = .ok (.iconst 1, 1) := by decide +kernel
theorem dX8_isExam_7 : decode cX8_isExam 7 = .ok (.isub, 1) := by decide +kernel
theorem dX8_isExam_8 : decode cX8_isExam 8 = .ok (.invokestatic 111, 3) := by decide +kernel
theorem dX8_isExam_11 : decode cX8_isExam 11 = .ok (.ireturn, 1) := by decide +kernel
theorem dX8_mark_0 : decode cX8_mark 0 = .ok (.aload_n 0, 1) := by decide +kernel
theorem dX8_mark_1 : decode cX8_mark 1 = .ok (.iload_n 1, 1) := by decide +kernel
theorem dX8_mark_2 : decode cX8_mark 2 = .ok (.invokevirtual 237, 3) := by decide +kernel
theorem dX8_mark_5 : decode cX8_mark 5 = .ok (.ifCond .eq 21, 3) := by decide +kernel
theorem dX8_mark_8 : decode cX8_mark 8 = .ok (.aload_n 0, 1) := by decide +kernel
theorem dX8_mark_9 : decode cX8_mark 9 = .ok (.iload_n 2, 1) := by decide +kernel
theorem dX8_mark_10 : decode cX8_mark 10 = .ok (.invokevirtual 132, 3) := by decide +kernel
theorem dX8_mark_13 : decode cX8_mark 13 = .ok (.ifCond .eq 13, 3) := by decide +kernel
theorem dX8_mark_16 : decode cX8_mark 16 = .ok (.iload_n 3, 1) := by decide +kernel
theorem dX8_mark_17 : decode cX8_mark 17 = .ok (.iconst 0, 1) := by decide +kernel
theorem dX8_mark_18 : decode cX8_mark 18 = .ok (.bipush 100, 2) := by decide +kernel
theorem dX8_mark_20 : decode cX8_mark 20 = .ok (.invokestatic 111, 3) := by decide +kernel
theorem dX8_mark_23 : decode cX8_mark 23 = .ok (.ifCond .ne 10, 3) := by decide +kernel
theorem dX8_mark_26 : decode cX8_mark 26 = .ok (.aload_n 0, 1) := by decide +kernel
theorem dX8_mark_27 : decode cX8_mark 27 = .ok (.ldc 123, 2) := by decide +kernel
theorem dX8_mark_29 : decode cX8_mark 29 = .ok (.invokevirtual 124, 3) := by decide +kernel
theorem dX8_mark_32 : decode cX8_mark 32 = .ok (.ireturn, 1) := by decide +kernel
theorem dX8_mark_33 : decode cX8_mark 33 = .ok (.aload_n 0, 1) := by decide +kernel
theorem dX8_mark_34 : decode cX8_mark 34 = .ok (.getfield 9, 3) := by decide +kernel
theorem dX8_mark_37 : decode cX8_mark 37 = .ok (.iload_n 2, 1) := by decide +kernel
theorem dX8_mark_38 : decode cX8_mark 38 = .ok (.iaload, 1) := by decide +kernel
theorem dX8_mark_39 : decode cX8_mark 39 = .ok (.iconst 1, 1) := by decide +kernel
theorem dX8_mark_40 : decode cX8_mark 40 = .ok (.if_icmp .eq 10, 3) := by decide +kernel
theorem dX8_mark_43 : decode cX8_mark 43 = .ok (.aload_n 0, 1) := by decide +kernel
theorem dX8_mark_44 : decode cX8_mark 44 = .ok (.ldc 135, 2) := by decide +kernel
theorem dX8_mark_46 : decode cX8_mark 46 = .ok (.invokevirtual 124, 3) := by decide +kernel
theorem dX8_mark_49 : decode cX8_mark 49 = .ok (.ireturn, 1) := by decide +kernel
theorem dX8_mark_50 : decode cX8_mark 50 = .ok (.iconst 0, 1) := by decide +kernel
theorem dX8_mark_51 : decode cX8_mark 51 = .ok (.istore 4, 2) := by decide +kernel
theorem dX8_mark_53 : decode cX8_mark 53 = .ok (.iload 4, 2) := by decide +kernel
theorem dX8_mark_55 : decode cX8_mark 55 = .ok (.aload_n 0, 1) := by decide +kernel
theorem dX8_mark_56 : decode cX8_mark 56 = .ok (.getfield 79, 3) := by decide +kernel
theorem dX8_mark_59 : decode cX8_mark 59 = .ok (.iload_n 1, 1) := by decide +kernel
theorem dX8_mark_60 : decode cX8_mark 60 = .ok (.iaload, 1) := by decide +kernel
theorem dX8_mark_61 : decode cX8_mark 61 = .ok (.if_icmp .ge 24, 3) := by decide +kernel
theorem dX8_mark_64 : decode cX8_mark 64 = .ok (.aload_n 0, 1) := by decide +kernel
theorem dX8_mark_65 : decode cX8_mark 65 = .ok (.getfield 82, 3) := by decide +kernel
theorem dX8_mark_68 : decode cX8_mark 68 = .ok (.iconst 5, 1) := by decide +kernel
theorem dX8_mark_69 : decode cX8_mark 69 = .ok (.iload_n 1, 1) := by decide +kernel
theorem dX8_mark_70 : decode cX8_mark 70 = .ok (.imul, 1) := by decide +kernel
theorem dX8_mark_71 : decode cX8_mark 71 = .ok (.iload 4, 2) := by decide +kernel
theorem dX8_mark_73 : decode cX8_mark 73 = .ok (.iadd, 1) := by decide +kernel
theorem dX8_mark_74 : decode cX8_mark 74 = .ok (.iaload, 1) := by decide +kernel
theorem dX8_mark_75 : decode cX8_mark 75 = .ok (.iload_n 2, 1) := by decide +kernel
theorem dX8_mark_76 : decode cX8_mark 76 = .ok (.if_icmp .eq 9, 3) := by decide +kernel
theorem dX8_mark_79 : decode cX8_mark 79 = .ok (.iinc 4 1, 3) := by decide +kernel
theorem dX8_mark_82 : decode cX8_mark 82 = .ok (.goto (-29), 3) := by decide +kernel
theorem dX8_mark_85 : decode cX8_mark 85 = .ok (.iload 4, 2) := by decide +kernel
theorem dX8_mark_87 : decode cX8_mark 87 = .ok (.iconst 5, 1) := by decide +kernel
theorem dX8_mark_88 : decode cX8_mark 88 = .ok (.if_icmp .ne 10, 3) := by decide +kernel
theorem dX8_mark_91 : decode cX8_mark 91 = .ok (.aload_n 0, 1) := by decide +kernel
theorem dX8_mark_92 : decode cX8_mark 92 = .ok (.ldc 131, 2) := by decide +kernel
theorem dX8_mark_94 : decode cX8_mark 94 = .ok (.invokevirtual 124, 3) := by decide +kernel
theorem dX8_mark_97 : decode cX8_mark 97 = .ok (.ireturn, 1) := by decide +kernel
theorem dX8_mark_98 : decode cX8_mark 98 = .ok (.aload_n 0, 1) := by decide +kernel
theorem dX8_mark_99 : decode cX8_mark 99 = .ok (.getfield 82, 3) := by decide +kernel
theorem dX8_mark_102 : decode cX8_mark 102 = .ok (.iconst 5, 1) := by decide +kernel
theorem dX8_mark_103 : decode cX8_mark 103 = .ok (.iload_n 1, 1) := by decide +kernel
theorem dX8_mark_104 : decode cX8_mark 104 = .ok (.imul, 1) := by decide +kernel
theorem dX8_mark_105 : decode cX8_mark 105 = .ok (.iload 4, 2) := by decide +kernel
theorem dX8_mark_107 : decode cX8_mark 107 = .ok (.iadd, 1) := by decide +kernel
theorem dX8_mark_108 : decode cX8_mark 108 = .ok (.iload_n 2, 1) := by decide +kernel
theorem dX8_mark_109 : decode cX8_mark 109 = .ok (.iastore, 1) := by decide +kernel
theorem dX8_mark_110 : decode cX8_mark 110 = .ok (.aload_n 0, 1) := by decide +kernel
theorem dX8_mark_111 : decode cX8_mark 111 = .ok (.getfield 85, 3) := by decide +kernel
theorem dX8_mark_114 : decode cX8_mark 114 = .ok (.iconst 5, 1) := by decide +kernel
theorem dX8_mark_115 : decode cX8_mark 115 = .ok (.iload_n 1, 1) := by decide +kernel
theorem dX8_mark_116 : decode cX8_mark 116 = .ok (.imul, 1) := by decide +kernel
theorem dX8_mark_117 : decode cX8_mark 117 = .ok (.iload 4, 2) := by decide +kernel
theorem dX8_mark_119 : decode cX8_mark 119 = .ok (.iadd, 1) := by decide +kernel
theorem dX8_mark_120 : decode cX8_mark 120 = .ok (.iload_n 3, 1) := by decide +kernel
theorem dX8_mark_121 : decode cX8_mark 121 = .ok (.iastore, 1) := by decide +kernel
theorem dX8_mark_122 : decode cX8_mark 122 = .ok (.aload_n 0, 1) := by decide +kernel
theorem dX8_mark_123 : decode cX8_mark 123 = .ok (.getfield 79, 3) := by decide +kernel
theorem dX8_mark_126 : decode cX8_mark 126 = .ok (.iload_n 1, 1) := by decide +kernel
theorem dX8_mark_127 : decode cX8_mark 127 = .ok (.aload_n 0, 1) := by decide +kernel
theorem dX8_mark_128 : decode cX8_mark 128 = .ok (.getfield 79, 3) := by decide +kernel
theorem dX8_mark_131 : decode cX8_mark 131 = .ok (.iload_n 1, 1) := by decide +kernel
theorem dX8_mark_132 : decode cX8_mark 132 = .ok (.iaload, 1) := by decide +kernel
theorem dX8_mark_133 : decode cX8_mark 133 = .ok (.iload 4, 2) := by decide +kernel
theorem dX8_mark_135 : decode cX8_mark 135 = .ok (.iconst 1, 1) := by decide +kernel
theorem dX8_mark_136 : decode cX8_mark 136 = .ok (.iadd, 1) := by decide +kernel
theorem dX8_mark_137 : decode cX8_mark 137 = .ok (.invokestatic 165, 3) := by decide +kernel
theorem dX8_mark_140 : decode cX8_mark 140 = .ok (.iastore, 1) := by decide +kernel
theorem dX8_mark_141 : decode cX8_mark 141 = .ok (.aload_n 0, 1) := by decide +kernel
theorem dX8_mark_142 : decode cX8_mark 142 = .ok (.getfield 79, 3) := by decide +kernel
theorem dX8_mark_145 : decode cX8_mark 145 = .ok (.iload_n 1, 1) := by decide +kernel
theorem dX8_mark_146 : decode cX8_mark 146 = .ok (.iaload, 1) := by decide +kernel
theorem dX8_mark_147 : decode cX8_mark 147 = .ok (.ireturn, 1) := by decide +kernel
theorem dX8_middleOf_0 : decode cX8_middleOf 0 = .ok (.iconst 0, 1) := by decide +kernel
theorem dX8_middleOf_1 : decode cX8_middleOf 1 = .ok (.istore_n 2, 1) := by decide +kernel
theorem dX8_middleOf_2 : decode cX8_middleOf 2 = .ok (.iconst 0, 1) := by decide +kernel
theorem dX8_middleOf_3 : decode cX8_middleOf 3 = .ok (.istore_n 3, 1) := by decide +kernel
theorem dX8_middleOf_4 : decode cX8_middleOf 4 = .ok (.iload_n 3, 1) := by decide +kernel
theorem dX8_middleOf_5 : decode cX8_middleOf 5 = .ok (.iconst 5, 1) := by decide +kernel
theorem dX8_middleOf_6 : decode cX8_middleOf 6 = .ok (.if_icmp .ge 113, 3) := by decide +kernel
theorem dX8_middleOf_9 : decode cX8_middleOf 9 = .ok (.aload_n 0, 1) := by decide +kernel
theorem dX8_middleOf_10 : decode cX8_middleOf 10 = .ok (.getfield 85, 3) := by decide +kernel
theorem dX8_middleOf_13 : decode cX8_middleOf 13 = .ok (.iconst 5, 1) := by decide +kernel
theorem dX8_middleOf_14 : decode cX8_middleOf 14 = .ok (.iload_n 1, 1) := by decide +kernel
theorem dX8_middleOf_15 : decode cX8_middleOf 15 = .ok (.imul, 1) := by decide +kernel
theorem dX8_middleOf_16 : decode cX8_middleOf 16 = .ok (.iload_n 3, 1) := by decide +kernel
theorem dX8_middleOf_17 : decode cX8_middleOf 17 = .ok (.iadd, 1) := by decide +kernel
theorem dX8_middleOf_18 : decode cX8_middleOf 18 = .ok (.iaload, 1) := by decide +kernel
theorem dX8_middleOf_19 : decode cX8_middleOf 19 = .ok (.istore 4, 2) := by decide +kernel
theorem dX8_middleOf_21 : decode cX8_middleOf 21 = .ok (.iconst 0, 1) := by decide +kernel
theorem dX8_middleOf_22 : decode cX8_middleOf 22 = .ok (.istore 5, 2) := by decide +kernel
theorem dX8_middleOf_24 : decode cX8_middleOf 24 = .ok (.iconst 0, 1) := by decide +kernel
theorem dX8_middleOf_25 : decode cX8_middleOf 25 = .ok (.istore 6, 2) := by decide +kernel
theorem dX8_middleOf_27 : decode cX8_middleOf 27 = .ok (.iconst 0, 1) := by decide +kernel
theorem dX8_middleOf_28 : decode cX8_middleOf 28 = .ok (.istore 7, 2) := by decide +kernel
theorem dX8_middleOf_30 : decode cX8_middleOf 30 = .ok (.iload 7, 2) := by decide +kernel
theorem dX8_middleOf_32 : decode cX8_middleOf 32 = .ok (.iconst 5, 1) := by decide +kernel
theorem dX8_middleOf_33 : decode cX8_middleOf 33 = .ok (.if_icmp .ge 61, 3) := by decide +kernel
theorem dX8_middleOf_36 : decode cX8_middleOf 36 = .ok (.iload 5, 2) := by decide +kernel
theorem dX8_middleOf_38 : decode cX8_middleOf 38 = .ok (.aload_n 0, 1) := by decide +kernel
theorem dX8_middleOf_39 : decode cX8_middleOf 39 = .ok (.getfield 85, 3) := by decide +kernel
theorem dX8_middleOf_42 : decode cX8_middleOf 42 = .ok (.iconst 5, 1) := by decide +kernel
theorem dX8_middleOf_43 : decode cX8_middleOf 43 = .ok (.iload_n 1, 1) := by decide +kernel
theorem dX8_middleOf_44 : decode cX8_middleOf 44 = .ok (.imul, 1) := by decide +kernel
theorem dX8_middleOf_45 : decode cX8_middleOf 45 = .ok (.iload 7, 2) := by decide +kernel
theorem dX8_middleOf_47 : decode cX8_middleOf 47 = .ok (.iadd, 1) := by decide +kernel
theorem dX8_middleOf_48 : decode cX8_middleOf 48 = .ok (.iaload, 1) := by decide +kernel
theorem dX8_middleOf_49 : decode cX8_middleOf 49 = .ok (.iload 4, 2) := by decide +kernel
theorem dX8_middleOf_51 : decode cX8_middleOf 51 = .ok (.if_icmp .ge 7, 3) := by decide +kernel
theorem dX8_middleOf_54 : decode cX8_middleOf 54 = .ok (.iconst 1, 1) := by decide +kernel
theorem dX8_middleOf_55 : decode cX8_middleOf 55 = .ok (.goto 4, 3) := by decide +kernel
theorem dX8_middleOf_58 : decode cX8_middleOf 58 = .ok (.iconst 0, 1) := by decide +kernel
theorem dX8_middleOf_59 : decode cX8_middleOf 59 = .ok (.iadd, 1) := by decide +kernel
theorem dX8_middleOf_60 : decode cX8_middleOf 60 = .ok (.istore 5, 2) := by decide +kernel
theorem dX8_middleOf_62 : decode cX8_middleOf 62 = .ok (.iload 6, 2) := by decide +kernel
theorem dX8_middleOf_64 : decode cX8_middleOf 64 = .ok (.aload_n 0, 1) := by decide +kernel
theorem dX8_middleOf_65 : decode cX8_middleOf 65 = .ok (.getfield 85, 3) := by decide +kernel
theorem dX8_middleOf_68 : decode cX8_middleOf 68 = .ok (.iconst 5, 1) := by decide +kernel
theorem dX8_middleOf_69 : decode cX8_middleOf 69 = .ok (.iload_n 1, 1) := by decide +kernel
theorem dX8_middleOf_70 : decode cX8_middleOf 70 = .ok (.imul, 1) := by decide +kernel
theorem dX8_middleOf_71 : decode cX8_middleOf 71 = .ok (.iload 7, 2) := by decide +kernel
theorem dX8_middleOf_73 : decode cX8_middleOf 73 = .ok (.iadd, 1) := by decide +kernel
theorem dX8_middleOf_74 : decode cX8_middleOf 74 = .ok (.iaload, 1) := by decide +kernel
theorem dX8_middleOf_75 : decode cX8_middleOf 75 = .ok (.iload 4, 2) := by decide +kernel
theorem dX8_middleOf_77 : decode cX8_middleOf 77 = .ok (.if_icmp .gt 7, 3) := by decide +kernel
theorem dX8_middleOf_80 : decode cX8_middleOf 80 = .ok (.iconst 1, 1) := by decide +kernel
theorem dX8_middleOf_81 : decode cX8_middleOf 81 = .ok (.goto 4, 3) := by decide +kernel
theorem dX8_middleOf_84 : decode cX8_middleOf 84 = .ok (.iconst 0, 1) := by decide +kernel
theorem dX8_middleOf_85 : decode cX8_middleOf 85 = .ok (.iadd, 1) := by decide +kernel
theorem dX8_middleOf_86 : decode cX8_middleOf 86 = .ok (.istore 6, 2) := by decide +kernel
theorem dX8_middleOf_88 : decode cX8_middleOf 88 = .ok (.iinc 7 1, 3) := by decide +kernel
theorem dX8_middleOf_91 : decode cX8_middleOf 91 = .ok (.goto (-61), 3) := by decide +kernel
theorem dX8_middleOf_94 : decode cX8_middleOf 94 = .ok (.iload 5, 2) := by decide +kernel
theorem dX8_middleOf_96 : decode cX8_middleOf 96 = .ok (.iconst 2, 1) := by decide +kernel
theorem dX8_middleOf_97 : decode cX8_middleOf 97 = .ok (.if_icmp .gt 14, 3) := by decide +kernel
theorem dX8_middleOf_100 : decode cX8_middleOf 100 = .ok (.iload 6, 2) := by decide +kernel
theorem dX8_middleOf_102 : decode cX8_middleOf 102 = .ok (.iconst 3, 1) := by decide +kernel
theorem dX8_middleOf_103 : decode cX8_middleOf 103 = .ok (.if_icmp .lt 8, 3) := by decide +kernel
theorem dX8_middleOf_106 : decode cX8_middleOf 106 = .ok (.iload 4, 2) := by decide +kernel
theorem dX8_middleOf_108 : decode cX8_middleOf 108 = .ok (.goto 4, 3) := by decide +kernel
theorem dX8_middleOf_111 : decode cX8_middleOf 111 = .ok (.iload_n 2, 1) := by decide +kernel
theorem dX8_middleOf_112 : decode cX8_middleOf 112 = .ok (.istore_n 2, 1) := by decide +kernel
theorem dX8_middleOf_113 : decode cX8_middleOf 113 = .ok (.iinc 3 1, 3) := by decide +kernel
theorem dX8_middleOf_116 : decode cX8_middleOf 116 = .ok (.goto (-112), 3) := by decide +kernel
theorem dX8_middleOf_119 : decode cX8_middleOf 119 = .ok (.iload_n 2, 1) := by decide +kernel
theorem dX8_middleOf_120 : decode cX8_middleOf 120 = .ok (.ireturn, 1) := by decide +kernel
theorem dX8_middle_0 : decode cX8_middle 0 = .ok (.aload_n 0, 1) := by decide +kernel
theorem dX8_middle_1 : decode cX8_middle 1 = .ok (.iload_n 1, 1) := by decide +kernel
theorem dX8_middle_2 : decode cX8_middle 2 = .ok (.invokevirtual 237, 3) := by decide +kernel
theorem dX8_middle_5 : decode cX8_middle 5 = .ok (.ifCond .ne 10, 3) := by decide +kernel
theorem dX8_middle_8 : decode cX8_middle 8 = .ok (.aload_n 0, 1) := by decide +kernel
theorem dX8_middle_9 : decode cX8_middle 9 = .ok (.ldc 123, 2) := by decide +kernel
theorem dX8_middle_11 : decode cX8_middle 11 = .ok (.invokevirtual 124, 3) := by decide +kernel
theorem dX8_middle_14 : decode cX8_middle 14 = .ok (.ireturn, 1) := by decide +kernel
theorem dX8_middle_15 : decode cX8_middle 15 = .ok (.aload_n 0, 1) := by decide +kernel
theorem dX8_middle_16 : decode cX8_middle 16 = .ok (.getfield 79, 3) := by decide +kernel
theorem dX8_middle_19 : decode cX8_middle 19 = .ok (.iload_n 1, 1) := by decide +kernel
theorem dX8_middle_20 : decode cX8_middle 20 = .ok (.iaload, 1) := by decide +kernel
theorem dX8_middle_21 : decode cX8_middle 21 = .ok (.iconst 5, 1) := by decide +kernel
theorem dX8_middle_22 : decode cX8_middle 22 = .ok (.if_icmp .ne 11, 3) := by decide +kernel
theorem dX8_middle_25 : decode cX8_middle 25 = .ok (.aload_n 0, 1) := by decide +kernel
theorem dX8_middle_26 : decode cX8_middle 26 = .ok (.iload_n 1, 1) := by decide +kernel
theorem dX8_middle_27 : decode cX8_middle 27 = .ok (.invokevirtual 240, 3) := by decide +kernel
theorem dX8_middle_30 : decode cX8_middle 30 = .ok (.goto 9, 3) := by decide +kernel
theorem dX8_middle_33 : decode cX8_middle 33 = .ok (.aload_n 0, 1) := by decide +kernel
theorem dX8_middle_34 : decode cX8_middle 34 = .ok (.ldc 203, 2) := by decide +kernel
theorem dX8_middle_36 : decode cX8_middle 36 = .ok (.invokevirtual 124, 3) := by decide +kernel
theorem dX8_middle_39 : decode cX8_middle 39 = .ok (.ireturn, 1) := by decide +kernel
theorem dX8_apart_0 : decode cX8_apart 0 = .ok (.aload_n 0, 1) := by decide +kernel
theorem dX8_apart_1 : decode cX8_apart 1 = .ok (.iload_n 1, 1) := by decide +kernel
theorem dX8_apart_2 : decode cX8_apart 2 = .ok (.invokevirtual 237, 3) := by decide +kernel
theorem dX8_apart_5 : decode cX8_apart 5 = .ok (.ifCond .eq 13, 3) := by decide +kernel
theorem dX8_apart_8 : decode cX8_apart 8 = .ok (.iload_n 2, 1) := by decide +kernel
theorem dX8_apart_9 : decode cX8_apart 9 = .ok (.iconst 0, 1) := by decide +kernel
theorem dX8_apart_10 : decode cX8_apart 10 = .ok (.bipush 100, 2) := by decide +kernel
theorem dX8_apart_12 : decode cX8_apart 12 = .ok (.invokestatic 111, 3) := by decide +kernel
theorem dX8_apart_15 : decode cX8_apart 15 = .ok (.ifCond .ne 10, 3) := by decide +kernel
theorem dX8_apart_18 : decode cX8_apart 18 = .ok (.aload_n 0, 1) := by decide +kernel
theorem dX8_apart_19 : decode cX8_apart 19 = .ok (.ldc 123, 2) := by decide +kernel
theorem dX8_apart_21 : decode cX8_apart 21 = .ok (.invokevirtual 124, 3) := by decide +kernel
theorem dX8_apart_24 : decode cX8_apart 24 = .ok (.ireturn, 1) := by decide +kernel
theorem dX8_apart_25 : decode cX8_apart 25 = .ok (.aload_n 0, 1) := by decide +kernel
theorem dX8_apart_26 : decode cX8_apart 26 = .ok (.getfield 79, 3) := by decide +kernel
theorem dX8_apart_29 : decode cX8_apart 29 = .ok (.iload_n 1, 1) := by decide +kernel
theorem dX8_apart_30 : decode cX8_apart 30 = .ok (.iaload, 1) := by decide +kernel
theorem dX8_apart_31 : decode cX8_apart 31 = .ok (.iconst 5, 1) := by decide +kernel
theorem dX8_apart_32 : decode cX8_apart 32 = .ok (.if_icmp .ge 10, 3) := by decide +kernel
theorem dX8_apart_35 : decode cX8_apart 35 = .ok (.aload_n 0, 1) := by decide +kernel
theorem dX8_apart_36 : decode cX8_apart 36 = .ok (.ldc 203, 2) := by decide +kernel
theorem dX8_apart_38 : decode cX8_apart 38 = .ok (.invokevirtual 124, 3) := by decide +kernel
theorem dX8_apart_41 : decode cX8_apart 41 = .ok (.ireturn, 1) := by decide +kernel
theorem dX8_apart_42 : decode cX8_apart 42 = .ok (.iconst 0, 1) := by decide +kernel
theorem dX8_apart_43 : decode cX8_apart 43 = .ok (.istore_n 3, 1) := by decide +kernel
theorem dX8_apart_44 : decode cX8_apart 44 = .ok (.iconst 0, 1) := by decide +kernel
theorem dX8_apart_45 : decode cX8_apart 45 = .ok (.istore 4, 2) := by decide +kernel
theorem dX8_apart_47 : decode cX8_apart 47 = .ok (.iload 4, 2) := by decide +kernel
theorem dX8_apart_49 : decode cX8_apart 49 = .ok (.iconst 5, 1) := by decide +kernel
theorem dX8_apart_50 : decode cX8_apart 50 = .ok (.if_icmp .ge 41, 3) := by decide +kernel
theorem dX8_apart_53 : decode cX8_apart 53 = .ok (.iload_n 3, 1) := by decide +kernel
theorem dX8_apart_54 : decode cX8_apart 54 = .ok (.aload_n 0, 1) := by decide +kernel
theorem dX8_apart_55 : decode cX8_apart 55 = .ok (.getfield 85, 3) := by decide +kernel
theorem dX8_apart_58 : decode cX8_apart 58 = .ok (.iconst 5, 1) := by decide +kernel
theorem dX8_apart_59 : decode cX8_apart 59 = .ok (.iload_n 1, 1) := by decide +kernel
theorem dX8_apart_60 : decode cX8_apart 60 = .ok (.imul, 1) := by decide +kernel
theorem dX8_apart_61 : decode cX8_apart 61 = .ok (.iload 4, 2) := by decide +kernel
theorem dX8_apart_63 : decode cX8_apart 63 = .ok (.iadd, 1) := by decide +kernel
theorem dX8_apart_64 : decode cX8_apart 64 = .ok (.iaload, 1) := by decide +kernel
theorem dX8_apart_65 : decode cX8_apart 65 = .ok (.aload_n 0, 1) := by decide +kernel
theorem dX8_apart_66 : decode cX8_apart 66 = .ok (.iload_n 1, 1) := by decide +kernel
theorem dX8_apart_67 : decode cX8_apart 67 = .ok (.invokevirtual 240, 3) := by decide +kernel
theorem dX8_apart_70 : decode cX8_apart 70 = .ok (.isub, 1) := by decide +kernel
theorem dX8_apart_71 : decode cX8_apart 71 = .ok (.invokestatic 243, 3) := by decide +kernel
theorem dX8_apart_74 : decode cX8_apart 74 = .ok (.iload_n 2, 1) := by decide +kernel
theorem dX8_apart_75 : decode cX8_apart 75 = .ok (.if_icmp .le 7, 3) := by decide +kernel
theorem dX8_apart_78 : decode cX8_apart 78 = .ok (.iconst 1, 1) := by decide +kernel
theorem dX8_apart_79 : decode cX8_apart 79 = .ok (.goto 4, 3) := by decide +kernel
theorem dX8_apart_82 : decode cX8_apart 82 = .ok (.iconst 0, 1) := by decide +kernel
theorem dX8_apart_83 : decode cX8_apart 83 = .ok (.iadd, 1) := by decide +kernel
theorem dX8_apart_84 : decode cX8_apart 84 = .ok (.istore_n 3, 1) := by decide +kernel
theorem dX8_apart_85 : decode cX8_apart 85 = .ok (.iinc 4 1, 3) := by decide +kernel
theorem dX8_apart_88 : decode cX8_apart 88 = .ok (.goto (-41), 3) := by decide +kernel
theorem dX8_apart_91 : decode cX8_apart 91 = .ok (.iload_n 3, 1) := by decide +kernel
theorem dX8_apart_92 : decode cX8_apart 92 = .ok (.ireturn, 1) := by decide +kernel
theorem dX8_hard_0 : decode cX8_hard 0 = .ok (.aload_n 0, 1) := by decide +kernel
theorem dX8_hard_1 : decode cX8_hard 1 = .ok (.iload_n 1, 1) := by decide +kernel
theorem dX8_hard_2 : decode cX8_hard 2 = .ok (.invokevirtual 132, 3) := by decide +kernel
theorem dX8_hard_5 : decode cX8_hard 5 = .ok (.ifCond .ne 10, 3) := by decide +kernel
theorem dX8_hard_8 : decode cX8_hard 8 = .ok (.aload_n 0, 1) := by decide +kernel
theorem dX8_hard_9 : decode cX8_hard 9 = .ok (.ldc 123, 2) := by decide +kernel
theorem dX8_hard_11 : decode cX8_hard 11 = .ok (.invokevirtual 124, 3) := by decide +kernel
theorem dX8_hard_14 : decode cX8_hard 14 = .ok (.ireturn, 1) := by decide +kernel
theorem dX8_hard_15 : decode cX8_hard 15 = .ok (.aload_n 0, 1) := by decide +kernel
theorem dX8_hard_16 : decode cX8_hard 16 = .ok (.getfield 9, 3) := by decide +kernel
theorem dX8_hard_19 : decode cX8_hard 19 = .ok (.iload_n 1, 1) := by decide +kernel
theorem dX8_hard_20 : decode cX8_hard 20 = .ok (.iaload, 1) := by decide +kernel
theorem dX8_hard_21 : decode cX8_hard 21 = .ok (.iconst 1, 1) := by decide +kernel
theorem dX8_hard_22 : decode cX8_hard 22 = .ok (.if_icmp .eq 10, 3) := by decide +kernel
theorem dX8_hard_25 : decode cX8_hard 25 = .ok (.aload_n 0, 1) := by decide +kernel
theorem dX8_hard_26 : decode cX8_hard 26 = .ok (.ldc 135, 2) := by decide +kernel
theorem dX8_hard_28 : decode cX8_hard 28 = .ok (.invokevirtual 124, 3) := by decide +kernel
theorem dX8_hard_31 : decode cX8_hard 31 = .ok (.ireturn, 1) := by decide +kernel
theorem dX8_hard_32 : decode cX8_hard 32 = .ok (.iconst 0, 1) := by decide +kernel
theorem dX8_hard_33 : decode cX8_hard 33 = .ok (.istore_n 2, 1) := by decide +kernel
theorem dX8_hard_34 : decode cX8_hard 34 = .ok (.iconst 0, 1) := by decide +kernel
theorem dX8_hard_35 : decode cX8_hard 35 = .ok (.istore_n 3, 1) := by decide +kernel
theorem dX8_hard_36 : decode cX8_hard 36 = .ok (.iload_n 3, 1) := by decide +kernel
theorem dX8_hard_37 : decode cX8_hard 37 = .ok (.aload_n 0, 1) := by decide +kernel
theorem dX8_hard_38 : decode cX8_hard 38 = .ok (.getfield 234, 3) := by decide +kernel
theorem dX8_hard_41 : decode cX8_hard 41 = .ok (.if_icmp .ge 73, 3) := by decide +kernel
theorem dX8_hard_44 : decode cX8_hard 44 = .ok (.iconst 0, 1) := by decide +kernel
theorem dX8_hard_45 : decode cX8_hard 45 = .ok (.istore 4, 2) := by decide +kernel
theorem dX8_hard_47 : decode cX8_hard 47 = .ok (.iload 4, 2) := by decide +kernel
theorem dX8_hard_49 : decode cX8_hard 49 = .ok (.iconst 5, 1) := by decide +kernel
theorem dX8_hard_50 : decode cX8_hard 50 = .ok (.if_icmp .ge 58, 3) := by decide +kernel
theorem dX8_hard_53 : decode cX8_hard 53 = .ok (.aload_n 0, 1) := by decide +kernel
theorem dX8_hard_54 : decode cX8_hard 54 = .ok (.getfield 79, 3) := by decide +kernel
theorem dX8_hard_57 : decode cX8_hard 57 = .ok (.iload_n 3, 1) := by decide +kernel
theorem dX8_hard_58 : decode cX8_hard 58 = .ok (.iaload, 1) := by decide +kernel
theorem dX8_hard_59 : decode cX8_hard 59 = .ok (.iconst 5, 1) := by decide +kernel
theorem dX8_hard_60 : decode cX8_hard 60 = .ok (.if_icmp .ne 48, 3) := by decide +kernel
theorem dX8_hard_63 : decode cX8_hard 63 = .ok (.iload_n 2, 1) := by decide +kernel
theorem dX8_hard_64 : decode cX8_hard 64 = .ok (.aload_n 0, 1) := by decide +kernel
theorem dX8_hard_65 : decode cX8_hard 65 = .ok (.getfield 82, 3) := by decide +kernel
theorem dX8_hard_68 : decode cX8_hard 68 = .ok (.iconst 5, 1) := by decide +kernel
theorem dX8_hard_69 : decode cX8_hard 69 = .ok (.iload_n 3, 1) := by decide +kernel
theorem dX8_hard_70 : decode cX8_hard 70 = .ok (.imul, 1) := by decide +kernel
theorem dX8_hard_71 : decode cX8_hard 71 = .ok (.iload 4, 2) := by decide +kernel
theorem dX8_hard_73 : decode cX8_hard 73 = .ok (.iadd, 1) := by decide +kernel
theorem dX8_hard_74 : decode cX8_hard 74 = .ok (.iaload, 1) := by decide +kernel
theorem dX8_hard_75 : decode cX8_hard 75 = .ok (.iload_n 1, 1) := by decide +kernel
theorem dX8_hard_76 : decode cX8_hard 76 = .ok (.if_icmp .ne 23, 3) := by decide +kernel
theorem dX8_hard_79 : decode cX8_hard 79 = .ok (.aload_n 0, 1) := by decide +kernel
theorem dX8_hard_80 : decode cX8_hard 80 = .ok (.getfield 85, 3) := by decide +kernel
theorem dX8_hard_83 : decode cX8_hard 83 = .ok (.iconst 5, 1) := by decide +kernel
theorem dX8_hard_84 : decode cX8_hard 84 = .ok (.iload_n 3, 1) := by decide +kernel
theorem dX8_hard_85 : decode cX8_hard 85 = .ok (.imul, 1) := by decide +kernel
theorem dX8_hard_86 : decode cX8_hard 86 = .ok (.iload 4, 2) := by decide +kernel
theorem dX8_hard_88 : decode cX8_hard 88 = .ok (.iadd, 1) := by decide +kernel
theorem dX8_hard_89 : decode cX8_hard 89 = .ok (.iaload, 1) := by decide +kernel
theorem dX8_hard_90 : decode cX8_hard 90 = .ok (.aload_n 0, 1) := by decide +kernel
theorem dX8_hard_91 : decode cX8_hard 91 = .ok (.iload_n 3, 1) := by decide +kernel
theorem dX8_hard_92 : decode cX8_hard 92 = .ok (.invokevirtual 240, 3) := by decide +kernel
theorem dX8_hard_95 : decode cX8_hard 95 = .ok (.isub, 1) := by decide +kernel
theorem dX8_hard_96 : decode cX8_hard 96 = .ok (.goto 4, 3) := by decide +kernel
theorem dX8_hard_99 : decode cX8_hard 99 = .ok (.iconst 0, 1) := by decide +kernel
theorem dX8_hard_100 : decode cX8_hard 100 = .ok (.iadd, 1) := by decide +kernel
theorem dX8_hard_101 : decode cX8_hard 101 = .ok (.istore_n 2, 1) := by decide +kernel
theorem dX8_hard_102 : decode cX8_hard 102 = .ok (.iinc 4 1, 3) := by decide +kernel
theorem dX8_hard_105 : decode cX8_hard 105 = .ok (.goto (-58), 3) := by decide +kernel
theorem dX8_hard_108 : decode cX8_hard 108 = .ok (.iinc 3 1, 3) := by decide +kernel
theorem dX8_hard_111 : decode cX8_hard 111 = .ok (.goto (-75), 3) := by decide +kernel
theorem dX8_hard_114 : decode cX8_hard 114 = .ok (.iload_n 2, 1) := by decide +kernel
theorem dX8_hard_115 : decode cX8_hard 115 = .ok (.ireturn, 1) := by decide +kernel
theorem dX8_tell_0 : decode cX8_tell 0 = .ok (.aload_n 0, 1) := by decide +kernel
theorem dX8_tell_1 : decode cX8_tell 1 = .ok (.getfield 246, 3) := by decide +kernel
theorem dX8_tell_4 : decode cX8_tell 4 = .ok (.bipush 20, 2) := by decide +kernel
theorem dX8_tell_6 : decode cX8_tell 6 = .ok (.if_icmp .ne 10, 3) := by decide +kernel
theorem dX8_tell_9 : decode cX8_tell 9 = .ok (.aload_n 0, 1) := by decide +kernel
theorem dX8_tell_10 : decode cX8_tell 10 = .ok (.ldc 131, 2) := by decide +kernel
theorem dX8_tell_12 : decode cX8_tell 12 = .ok (.invokevirtual 124, 3) := by decide +kernel
theorem dX8_tell_15 : decode cX8_tell 15 = .ok (.ireturn, 1) := by decide +kernel
theorem dX8_tell_16 : decode cX8_tell 16 = .ok (.aload_n 0, 1) := by decide +kernel
theorem dX8_tell_17 : decode cX8_tell 17 = .ok (.getfield 88, 3) := by decide +kernel
theorem dX8_tell_20 : decode cX8_tell 20 = .ok (.aload_n 0, 1) := by decide +kernel
theorem dX8_tell_21 : decode cX8_tell 21 = .ok (.getfield 246, 3) := by decide +kernel
theorem dX8_tell_24 : decode cX8_tell 24 = .ok (.iload_n 1, 1) := by decide +kernel
theorem dX8_tell_25 : decode cX8_tell 25 = .ok (.iastore, 1) := by decide +kernel
theorem dX8_tell_26 : decode cX8_tell 26 = .ok (.aload_n 0, 1) := by decide +kernel
theorem dX8_tell_27 : decode cX8_tell 27 = .ok (.dup, 1) := by decide +kernel
theorem dX8_tell_28 : decode cX8_tell 28 = .ok (.getfield 246, 3) := by decide +kernel
theorem dX8_tell_31 : decode cX8_tell 31 = .ok (.iconst 1, 1) := by decide +kernel
theorem dX8_tell_32 : decode cX8_tell 32 = .ok (.iadd, 1) := by decide +kernel
theorem dX8_tell_33 : decode cX8_tell 33 = .ok (.putfield 246, 3) := by decide +kernel
theorem dX8_tell_36 : decode cX8_tell 36 = .ok (.aload_n 0, 1) := by decide +kernel
theorem dX8_tell_37 : decode cX8_tell 37 = .ok (.getfield 246, 3) := by decide +kernel
theorem dX8_tell_40 : decode cX8_tell 40 = .ok (.ireturn, 1) := by decide +kernel
theorem dX8_check_0 : decode cX8_check 0 = .ok (.aload_n 0, 1) := by decide +kernel
theorem dX8_check_1 : decode cX8_check 1 = .ok (.getfield 246, 3) := by decide +kernel
theorem dX8_check_4 : decode cX8_check 4 = .ok (.istore_n 2, 1) := by decide +kernel
theorem dX8_check_5 : decode cX8_check 5 = .ok (.aload_n 0, 1) := by decide +kernel
theorem dX8_check_6 : decode cX8_check 6 = .ok (.iconst 0, 1) := by decide +kernel
theorem dX8_check_7 : decode cX8_check 7 = .ok (.putfield 246, 3) := by decide +kernel
theorem dX8_check_10 : decode cX8_check 10 = .ok (.iload_n 1, 1) := by decide +kernel
theorem dX8_check_11 : decode cX8_check 11 = .ok (.invokestatic 119, 3) := by decide +kernel
theorem dX8_check_14 : decode cX8_check 14 = .ok (.ifCond .ne 10, 3) := by decide +kernel
theorem dX8_check_17 : decode cX8_check 17 = .ok (.aload_n 0, 1) := by decide +kernel
theorem dX8_check_18 : decode cX8_check 18 = .ok (.ldc 123, 2) := by decide +kernel
theorem dX8_check_20 : decode cX8_check 20 = .ok (.invokevirtual 124, 3) := by decide +kernel
theorem dX8_check_23 : decode cX8_check 23 = .ok (.ireturn, 1) := by decide +kernel
theorem dX8_check_24 : decode cX8_check 24 = .ok (.aload_n 0, 1) := by decide +kernel
theorem dX8_check_25 : decode cX8_check 25 = .ok (.iload_n 1, 1) := by decide +kernel
theorem dX8_check_26 : decode cX8_check 26 = .ok (.invokevirtual 175, 3) := by decide +kernel
theorem dX8_check_29 : decode cX8_check 29 = .ok (.iconst 0, 1) := by decide +kernel
theorem dX8_check_30 : decode cX8_check 30 = .ok (.istore_n 3, 1) := by decide +kernel
theorem dX8_check_31 : decode cX8_check 31 = .ok (.iconst 0, 1) := by decide +kernel
theorem dX8_check_32 : decode cX8_check 32 = .ok (.istore 4, 2) := by decide +kernel
theorem dX8_check_34 : decode cX8_check 34 = .ok (.iload 4, 2) := by decide +kernel
theorem dX8_check_36 : decode cX8_check 36 = .ok (.aload_n 0, 1) := by decide +kernel
theorem dX8_check_37 : decode cX8_check 37 = .ok (.getfield 159, 3) := by decide +kernel
theorem dX8_check_40 : decode cX8_check 40 = .ok (.if_icmp .ge 42, 3) := by decide +kernel
theorem dX8_check_43 : decode cX8_check 43 = .ok (.aload_n 0, 1) := by decide +kernel
theorem dX8_check_44 : decode cX8_check 44 = .ok (.getfield 94, 3) := by decide +kernel
theorem dX8_check_47 : decode cX8_check 47 = .ok (.iload 4, 2) := by decide +kernel
theorem dX8_check_49 : decode cX8_check 49 = .ok (.baload, 1) := by decide +kernel
theorem dX8_check_50 : decode cX8_check 50 = .ok (.ifCond .eq 26, 3) := by decide +kernel
theorem dX8_check_53 : decode cX8_check 53 = .ok (.iload_n 3, 1) := by decide +kernel
theorem dX8_check_54 : decode cX8_check 54 = .ok (.iload_n 2, 1) := by decide +kernel
theorem dX8_check_55 : decode cX8_check 55 = .ok (.if_icmp .ge 14, 3) := by decide +kernel
theorem dX8_check_58 : decode cX8_check 58 = .ok (.aload_n 0, 1) := by decide +kernel
theorem dX8_check_59 : decode cX8_check 59 = .ok (.getfield 88, 3) := by decide +kernel
theorem dX8_check_62 : decode cX8_check 62 = .ok (.iload_n 3, 1) := by decide +kernel
theorem dX8_check_63 : decode cX8_check 63 = .ok (.iaload, 1) := by decide +kernel
theorem dX8_check_64 : decode cX8_check 64 = .ok (.iload 4, 2) := by decide +kernel
theorem dX8_check_66 : decode cX8_check 66 = .ok (.if_icmp .eq 7, 3) := by decide +kernel
theorem dX8_check_69 : decode cX8_check 69 = .ok (.iconst 1, 1) := by decide +kernel
theorem dX8_check_70 : decode cX8_check 70 = .ok (.iload_n 3, 1) := by decide +kernel
theorem dX8_check_71 : decode cX8_check 71 = .ok (.iadd, 1) := by decide +kernel
theorem dX8_check_72 : decode cX8_check 72 = .ok (.ireturn, 1) := by decide +kernel
theorem dX8_check_73 : decode cX8_check 73 = .ok (.iinc 3 1, 3) := by decide +kernel
theorem dX8_check_76 : decode cX8_check 76 = .ok (.iinc 4 1, 3) := by decide +kernel
theorem dX8_check_79 : decode cX8_check 79 = .ok (.goto (-45), 3) := by decide +kernel
theorem dX8_check_82 : decode cX8_check 82 = .ok (.iload_n 2, 1) := by decide +kernel
theorem dX8_check_83 : decode cX8_check 83 = .ok (.iload_n 3, 1) := by decide +kernel
theorem dX8_check_84 : decode cX8_check 84 = .ok (.if_icmp .le 8, 3) := by decide +kernel
theorem dX8_check_87 : decode cX8_check 87 = .ok (.bipush 99, 2) := by decide +kernel
theorem dX8_check_89 : decode cX8_check 89 = .ok (.goto 4, 3) := by decide +kernel
theorem dX8_check_92 : decode cX8_check 92 = .ok (.iconst 0, 1) := by decide +kernel
theorem dX8_check_93 : decode cX8_check 93 = .ok (.ireturn, 1) := by decide +kernel
theorem dX8_count_0 : decode cX8_count 0 = .ok (.iload_n 1, 1) := by decide +kernel
theorem dX8_count_1 : decode cX8_count 1 = .ok (.tableswitch 78 0 6 #[43, 48, 53, 58, 63, 68, 73], 43) := by decide +kernel
theorem dX8_count_44 : decode cX8_count 44 = .ok (.aload_n 0, 1) := by decide +kernel
theorem dX8_count_45 : decode cX8_count 45 = .ok (.getfield 115, 3) := by decide +kernel
theorem dX8_count_48 : decode cX8_count 48 = .ok (.ireturn, 1) := by decide +kernel
theorem dX8_count_49 : decode cX8_count 49 = .ok (.aload_n 0, 1) := by decide +kernel
theorem dX8_count_50 : decode cX8_count 50 = .ok (.getfield 146, 3) := by decide +kernel
theorem dX8_count_53 : decode cX8_count 53 = .ok (.ireturn, 1) := by decide +kernel
theorem dX8_count_54 : decode cX8_count 54 = .ok (.aload_n 0, 1) := by decide +kernel
theorem dX8_count_55 : decode cX8_count 55 = .ok (.getfield 159, 3) := by decide +kernel
theorem dX8_count_58 : decode cX8_count 58 = .ok (.ireturn, 1) := by decide +kernel
theorem dX8_count_59 : decode cX8_count 59 = .ok (.aload_n 0, 1) := by decide +kernel
theorem dX8_count_60 : decode cX8_count 60 = .ok (.getfield 153, 3) := by decide +kernel
theorem dX8_count_63 : decode cX8_count 63 = .ok (.ireturn, 1) := by decide +kernel
theorem dX8_count_64 : decode cX8_count 64 = .ok (.aload_n 0, 1) := by decide +kernel
theorem dX8_count_65 : decode cX8_count 65 = .ok (.getfield 234, 3) := by decide +kernel
theorem dX8_count_68 : decode cX8_count 68 = .ok (.ireturn, 1) := by decide +kernel
theorem dX8_count_69 : decode cX8_count 69 = .ok (.aload_n 0, 1) := by decide +kernel
theorem dX8_count_70 : decode cX8_count 70 = .ok (.getfield 208, 3) := by decide +kernel
theorem dX8_count_73 : decode cX8_count 73 = .ok (.ireturn, 1) := by decide +kernel
theorem dX8_count_74 : decode cX8_count 74 = .ok (.aload_n 0, 1) := by decide +kernel
theorem dX8_count_75 : decode cX8_count 75 = .ok (.getfield 246, 3) := by decide +kernel
theorem dX8_count_78 : decode cX8_count 78 = .ok (.ireturn, 1) := by decide +kernel
theorem dX8_count_79 : decode cX8_count 79 = .ok (.aload_n 0, 1) := by decide +kernel
theorem dX8_count_80 : decode cX8_count 80 = .ok (.ldc 123, 2) := by decide +kernel
theorem dX8_count_82 : decode cX8_count 82 = .ok (.invokevirtual 124, 3) := by decide +kernel
theorem dX8_count_85 : decode cX8_count 85 = .ok (.ireturn, 1) := by decide +kernel
theorem dX8_found_0 : decode cX8_found 0 = .ok (.iload_n 1, 1) := by decide +kernel
theorem dX8_found_1 : decode cX8_found 1 = .ok (.iconst 1, 1) := by decide +kernel
theorem dX8_found_2 : decode cX8_found 2 = .ok (.iconst 5, 1) := by decide +kernel
theorem dX8_found_3 : decode cX8_found 3 = .ok (.invokestatic 111, 3) := by decide +kernel
theorem dX8_found_6 : decode cX8_found 6 = .ok (.ifCond .eq 12, 3) := by decide +kernel
theorem dX8_found_9 : decode cX8_found 9 = .ok (.aload_n 0, 1) := by decide +kernel
theorem dX8_found_10 : decode cX8_found 10 = .ok (.getfield 91, 3) := by decide +kernel
theorem dX8_found_13 : decode cX8_found 13 = .ok (.iload_n 1, 1) := by decide +kernel
theorem dX8_found_14 : decode cX8_found 14 = .ok (.iaload, 1) := by decide +kernel
theorem dX8_found_15 : decode cX8_found 15 = .ok (.goto 9, 3) := by decide +kernel
theorem dX8_found_18 : decode cX8_found 18 = .ok (.aload_n 0, 1) := by decide +kernel
theorem dX8_found_19 : decode cX8_found 19 = .ok (.ldc 123, 2) := by decide +kernel
theorem dX8_found_21 : decode cX8_found 21 = .ok (.invokevirtual 124, 3) := by decide +kernel
theorem dX8_found_24 : decode cX8_found 24 = .ok (.ireturn, 1) := by decide +kernel
end
section
theorem dL_law_0 : decode cL_law 0 = .ok (.new 7, 3) := by decide +kernel
theorem dL_law_3 : decode cL_law 3 = .ok (.dup, 1) := by decide +kernel
theorem dL_law_4 : decode cL_law 4 = .ok (.invokespecial 9, 3) := by decide +kernel
theorem dL_law_7 : decode cL_law 7 = .ok (.astore_n 1, 1) := by decide +kernel
theorem dL_law_8 : decode cL_law 8 = .ok (.new 10, 3) := by decide +kernel
theorem dL_law_11 : decode cL_law 11 = .ok (.dup, 1) := by decide +kernel
theorem dL_law_12 : decode cL_law 12 = .ok (.invokespecial 12, 3) := by decide +kernel
theorem dL_law_15 : decode cL_law 15 = .ok (.astore_n 2, 1) := by decide +kernel
theorem dL_law_16 : decode cL_law 16 = .ok (.iconst 0, 1) := by decide +kernel
theorem dL_law_17 : decode cL_law 17 = .ok (.istore_n 3, 1) := by decide +kernel
theorem dL_law_18 : decode cL_law 18 = .ok (.iload_n 3, 1) := by decide +kernel
theorem dL_law_19 : decode cL_law 19 = .ok (.aload_n 0, 1) := by decide +kernel
theorem dL_law_20 : decode cL_law 20 = .ok (.arraylength, 1) := by decide +kernel
theorem dL_law_21 : decode cL_law 21 = .ok (.bipush 6, 2) := by decide +kernel
theorem dL_law_23 : decode cL_law 23 = .ok (.isub, 1) := by decide +kernel
theorem dL_law_24 : decode cL_law 24 = .ok (.if_icmp .gt 1173, 3) := by decide +kernel
theorem dL_law_27 : decode cL_law 27 = .ok (.aload_n 0, 1) := by decide +kernel
theorem dL_law_28 : decode cL_law 28 = .ok (.iload_n 3, 1) := by decide +kernel
theorem dL_law_29 : decode cL_law 29 = .ok (.iaload, 1) := by decide +kernel
theorem dL_law_30 : decode cL_law 30 = .ok (.bipush 31, 2) := by decide +kernel
theorem dL_law_32 : decode cL_law 32 = .ok (.iand, 1) := by decide +kernel
theorem dL_law_33 : decode cL_law 33 = .ok (.tableswitch 1158 0 28 #[131, 174, 207, 240, 283, 336, 369, 432, 475, 528, 581, 644, 707, 740, 773, 816, 829, 852, 865, 908, 931, 944, 987, 1010, 1043, 1066, 1089, 1112, 1135], 131) := by decide +kernel
theorem dL_law_164 : decode cL_law 164 = .ok (.aload_n 1, 1) := by decide +kernel
theorem dL_law_165 : decode cL_law 165 = .ok (.aload_n 0, 1) := by decide +kernel
theorem dL_law_166 : decode cL_law 166 = .ok (.iload_n 3, 1) := by decide +kernel
theorem dL_law_167 : decode cL_law 167 = .ok (.iconst 1, 1) := by decide +kernel
theorem dL_law_168 : decode cL_law 168 = .ok (.iadd, 1) := by decide +kernel
theorem dL_law_169 : decode cL_law 169 = .ok (.iaload, 1) := by decide +kernel
theorem dL_law_170 : decode cL_law 170 = .ok (.aload_n 0, 1) := by decide +kernel
theorem dL_law_171 : decode cL_law 171 = .ok (.iload_n 3, 1) := by decide +kernel
theorem dL_law_172 : decode cL_law 172 = .ok (.iconst 2, 1) := by decide +kernel
theorem dL_law_173 : decode cL_law 173 = .ok (.iadd, 1) := by decide +kernel
theorem dL_law_174 : decode cL_law 174 = .ok (.iaload, 1) := by decide +kernel
theorem dL_law_175 : decode cL_law 175 = .ok (.aload_n 0, 1) := by decide +kernel
theorem dL_law_176 : decode cL_law 176 = .ok (.iload_n 3, 1) := by decide +kernel
theorem dL_law_177 : decode cL_law 177 = .ok (.iconst 3, 1) := by decide +kernel
theorem dL_law_178 : decode cL_law 178 = .ok (.iadd, 1) := by decide +kernel
theorem dL_law_179 : decode cL_law 179 = .ok (.iaload, 1) := by decide +kernel
theorem dL_law_180 : decode cL_law 180 = .ok (.invokevirtual 13, 3) := by decide +kernel
theorem dL_law_183 : decode cL_law 183 = .ok (.aload_n 2, 1) := by decide +kernel
theorem dL_law_184 : decode cL_law 184 = .ok (.aload_n 0, 1) := by decide +kernel
theorem dL_law_185 : decode cL_law 185 = .ok (.iload_n 3, 1) := by decide +kernel
theorem dL_law_186 : decode cL_law 186 = .ok (.iconst 1, 1) := by decide +kernel
theorem dL_law_187 : decode cL_law 187 = .ok (.iadd, 1) := by decide +kernel
theorem dL_law_188 : decode cL_law 188 = .ok (.iaload, 1) := by decide +kernel
theorem dL_law_189 : decode cL_law 189 = .ok (.aload_n 0, 1) := by decide +kernel
theorem dL_law_190 : decode cL_law 190 = .ok (.iload_n 3, 1) := by decide +kernel
theorem dL_law_191 : decode cL_law 191 = .ok (.iconst 2, 1) := by decide +kernel
theorem dL_law_192 : decode cL_law 192 = .ok (.iadd, 1) := by decide +kernel
theorem dL_law_193 : decode cL_law 193 = .ok (.iaload, 1) := by decide +kernel
theorem dL_law_194 : decode cL_law 194 = .ok (.aload_n 0, 1) := by decide +kernel
theorem dL_law_195 : decode cL_law 195 = .ok (.iload_n 3, 1) := by decide +kernel
theorem dL_law_196 : decode cL_law 196 = .ok (.iconst 3, 1) := by decide +kernel
theorem dL_law_197 : decode cL_law 197 = .ok (.iadd, 1) := by decide +kernel
theorem dL_law_198 : decode cL_law 198 = .ok (.iaload, 1) := by decide +kernel
theorem dL_law_199 : decode cL_law 199 = .ok (.invokevirtual 17, 3) := by decide +kernel
theorem dL_law_202 : decode cL_law 202 = .ok (.if_icmp .eq 989, 3) := by decide +kernel
theorem dL_law_205 : decode cL_law 205 = .ok (.iconst 0, 1) := by decide +kernel
theorem dL_law_206 : decode cL_law 206 = .ok (.ireturn, 1) := by decide +kernel
theorem dL_law_207 : decode cL_law 207 = .ok (.aload_n 1, 1) := by decide +kernel
theorem dL_law_208 : decode cL_law 208 = .ok (.aload_n 0, 1) := by decide +kernel
theorem dL_law_209 : decode cL_law 209 = .ok (.iload_n 3, 1) := by decide +kernel
theorem dL_law_210 : decode cL_law 210 = .ok (.iconst 1, 1) := by decide +kernel
theorem dL_law_211 : decode cL_law 211 = .ok (.iadd, 1) := by decide +kernel
theorem dL_law_212 : decode cL_law 212 = .ok (.iaload, 1) := by decide +kernel
theorem dL_law_213 : decode cL_law 213 = .ok (.aload_n 0, 1) := by decide +kernel
theorem dL_law_214 : decode cL_law 214 = .ok (.iload_n 3, 1) := by decide +kernel
theorem dL_law_215 : decode cL_law 215 = .ok (.iconst 2, 1) := by decide +kernel
theorem dL_law_216 : decode cL_law 216 = .ok (.iadd, 1) := by decide +kernel
theorem dL_law_217 : decode cL_law 217 = .ok (.iaload, 1) := by decide +kernel
theorem dL_law_218 : decode cL_law 218 = .ok (.invokevirtual 18, 3) := by decide +kernel
theorem dL_law_221 : decode cL_law 221 = .ok (.aload_n 2, 1) := by decide +kernel
theorem dL_law_222 : decode cL_law 222 = .ok (.aload_n 0, 1) := by decide +kernel
theorem dL_law_223 : decode cL_law 223 = .ok (.iload_n 3, 1) := by decide +kernel
theorem dL_law_224 : decode cL_law 224 = .ok (.iconst 1, 1) := by decide +kernel
theorem dL_law_225 : decode cL_law 225 = .ok (.iadd, 1) := by decide +kernel
theorem dL_law_226 : decode cL_law 226 = .ok (.iaload, 1) := by decide +kernel
theorem dL_law_227 : decode cL_law 227 = .ok (.aload_n 0, 1) := by decide +kernel
theorem dL_law_228 : decode cL_law 228 = .ok (.iload_n 3, 1) := by decide +kernel
theorem dL_law_229 : decode cL_law 229 = .ok (.iconst 2, 1) := by decide +kernel
theorem dL_law_230 : decode cL_law 230 = .ok (.iadd, 1) := by decide +kernel
theorem dL_law_231 : decode cL_law 231 = .ok (.iaload, 1) := by decide +kernel
theorem dL_law_232 : decode cL_law 232 = .ok (.invokevirtual 22, 3) := by decide +kernel
theorem dL_law_235 : decode cL_law 235 = .ok (.if_icmp .eq 956, 3) := by decide +kernel
theorem dL_law_238 : decode cL_law 238 = .ok (.iconst 0, 1) := by decide +kernel
theorem dL_law_239 : decode cL_law 239 = .ok (.ireturn, 1) := by decide +kernel
theorem dL_law_240 : decode cL_law 240 = .ok (.aload_n 1, 1) := by decide +kernel
theorem dL_law_241 : decode cL_law 241 = .ok (.aload_n 0, 1) := by decide +kernel
theorem dL_law_242 : decode cL_law 242 = .ok (.iload_n 3, 1) := by decide +kernel
theorem dL_law_243 : decode cL_law 243 = .ok (.iconst 1, 1) := by decide +kernel
theorem dL_law_244 : decode cL_law 244 = .ok (.iadd, 1) := by decide +kernel
theorem dL_law_245 : decode cL_law 245 = .ok (.iaload, 1) := by decide +kernel
theorem dL_law_246 : decode cL_law 246 = .ok (.aload_n 0, 1) := by decide +kernel
theorem dL_law_247 : decode cL_law 247 = .ok (.iload_n 3, 1) := by decide +kernel
theorem dL_law_248 : decode cL_law 248 = .ok (.iconst 2, 1) := by decide +kernel
theorem dL_law_249 : decode cL_law 249 = .ok (.iadd, 1) := by decide +kernel
theorem dL_law_250 : decode cL_law 250 = .ok (.iaload, 1) := by decide +kernel
theorem dL_law_251 : decode cL_law 251 = .ok (.invokevirtual 23, 3) := by decide +kernel
theorem dL_law_254 : decode cL_law 254 = .ok (.aload_n 2, 1) := by decide +kernel
theorem dL_law_255 : decode cL_law 255 = .ok (.aload_n 0, 1) := by decide +kernel
theorem dL_law_256 : decode cL_law 256 = .ok (.iload_n 3, 1) := by decide +kernel
theorem dL_law_257 : decode cL_law 257 = .ok (.iconst 1, 1) := by decide +kernel
theorem dL_law_258 : decode cL_law 258 = .ok (.iadd, 1) := by decide +kernel
theorem dL_law_259 : decode cL_law 259 = .ok (.iaload, 1) := by decide +kernel
theorem dL_law_260 : decode cL_law 260 = .ok (.aload_n 0, 1) := by decide +kernel
theorem dL_law_261 : decode cL_law 261 = .ok (.iload_n 3, 1) := by decide +kernel
theorem dL_law_262 : decode cL_law 262 = .ok (.iconst 2, 1) := by decide +kernel
theorem dL_law_263 : decode cL_law 263 = .ok (.iadd, 1) := by decide +kernel
theorem dL_law_264 : decode cL_law 264 = .ok (.iaload, 1) := by decide +kernel
theorem dL_law_265 : decode cL_law 265 = .ok (.invokevirtual 26, 3) := by decide +kernel
theorem dL_law_268 : decode cL_law 268 = .ok (.if_icmp .eq 923, 3) := by decide +kernel
theorem dL_law_271 : decode cL_law 271 = .ok (.iconst 0, 1) := by decide +kernel
theorem dL_law_272 : decode cL_law 272 = .ok (.ireturn, 1) := by decide +kernel
theorem dL_law_273 : decode cL_law 273 = .ok (.aload_n 1, 1) := by decide +kernel
theorem dL_law_274 : decode cL_law 274 = .ok (.aload_n 0, 1) := by decide +kernel
theorem dL_law_275 : decode cL_law 275 = .ok (.iload_n 3, 1) := by decide +kernel
theorem dL_law_276 : decode cL_law 276 = .ok (.iconst 1, 1) := by decide +kernel
theorem dL_law_277 : decode cL_law 277 = .ok (.iadd, 1) := by decide +kernel
theorem dL_law_278 : decode cL_law 278 = .ok (.iaload, 1) := by decide +kernel
theorem dL_law_279 : decode cL_law 279 = .ok (.aload_n 0, 1) := by decide +kernel
theorem dL_law_280 : decode cL_law 280 = .ok (.iload_n 3, 1) := by decide +kernel
theorem dL_law_281 : decode cL_law 281 = .ok (.iconst 2, 1) := by decide +kernel
theorem dL_law_282 : decode cL_law 282 = .ok (.iadd, 1) := by decide +kernel
theorem dL_law_283 : decode cL_law 283 = .ok (.iaload, 1) := by decide +kernel
theorem dL_law_284 : decode cL_law 284 = .ok (.aload_n 0, 1) := by decide +kernel
theorem dL_law_285 : decode cL_law 285 = .ok (.iload_n 3, 1) := by decide +kernel
theorem dL_law_286 : decode cL_law 286 = .ok (.iconst 3, 1) := by decide +kernel
theorem dL_law_287 : decode cL_law 287 = .ok (.iadd, 1) := by decide +kernel
theorem dL_law_288 : decode cL_law 288 = .ok (.iaload, 1) := by decide +kernel
theorem dL_law_289 : decode cL_law 289 = .ok (.invokevirtual 27, 3) := by decide +kernel
theorem dL_law_292 : decode cL_law 292 = .ok (.aload_n 2, 1) := by decide +kernel
theorem dL_law_293 : decode cL_law 293 = .ok (.aload_n 0, 1) := by decide +kernel
theorem dL_law_294 : decode cL_law 294 = .ok (.iload_n 3, 1) := by decide +kernel
theorem dL_law_295 : decode cL_law 295 = .ok (.iconst 1, 1) := by decide +kernel
theorem dL_law_296 : decode cL_law 296 = .ok (.iadd, 1) := by decide +kernel
theorem dL_law_297 : decode cL_law 297 = .ok (.iaload, 1) := by decide +kernel
theorem dL_law_298 : decode cL_law 298 = .ok (.aload_n 0, 1) := by decide +kernel
theorem dL_law_299 : decode cL_law 299 = .ok (.iload_n 3, 1) := by decide +kernel
theorem dL_law_300 : decode cL_law 300 = .ok (.iconst 2, 1) := by decide +kernel
theorem dL_law_301 : decode cL_law 301 = .ok (.iadd, 1) := by decide +kernel
theorem dL_law_302 : decode cL_law 302 = .ok (.iaload, 1) := by decide +kernel
theorem dL_law_303 : decode cL_law 303 = .ok (.aload_n 0, 1) := by decide +kernel
theorem dL_law_304 : decode cL_law 304 = .ok (.iload_n 3, 1) := by decide +kernel
theorem dL_law_305 : decode cL_law 305 = .ok (.iconst 3, 1) := by decide +kernel
theorem dL_law_306 : decode cL_law 306 = .ok (.iadd, 1) := by decide +kernel
theorem dL_law_307 : decode cL_law 307 = .ok (.iaload, 1) := by decide +kernel
theorem dL_law_308 : decode cL_law 308 = .ok (.invokevirtual 30, 3) := by decide +kernel
theorem dL_law_311 : decode cL_law 311 = .ok (.if_icmp .eq 880, 3) := by decide +kernel
theorem dL_law_314 : decode cL_law 314 = .ok (.iconst 0, 1) := by decide +kernel
theorem dL_law_315 : decode cL_law 315 = .ok (.ireturn, 1) := by decide +kernel
theorem dL_law_316 : decode cL_law 316 = .ok (.aload_n 1, 1) := by decide +kernel
theorem dL_law_317 : decode cL_law 317 = .ok (.aload_n 0, 1) := by decide +kernel
theorem dL_law_318 : decode cL_law 318 = .ok (.iload_n 3, 1) := by decide +kernel
theorem dL_law_319 : decode cL_law 319 = .ok (.iconst 1, 1) := by decide +kernel
theorem dL_law_320 : decode cL_law 320 = .ok (.iadd, 1) := by decide +kernel
theorem dL_law_321 : decode cL_law 321 = .ok (.iaload, 1) := by decide +kernel
theorem dL_law_322 : decode cL_law 322 = .ok (.aload_n 0, 1) := by decide +kernel
theorem dL_law_323 : decode cL_law 323 = .ok (.iload_n 3, 1) := by decide +kernel
theorem dL_law_324 : decode cL_law 324 = .ok (.iconst 2, 1) := by decide +kernel
theorem dL_law_325 : decode cL_law 325 = .ok (.iadd, 1) := by decide +kernel
theorem dL_law_326 : decode cL_law 326 = .ok (.iaload, 1) := by decide +kernel
theorem dL_law_327 : decode cL_law 327 = .ok (.aload_n 0, 1) := by decide +kernel
theorem dL_law_328 : decode cL_law 328 = .ok (.iload_n 3, 1) := by decide +kernel
theorem dL_law_329 : decode cL_law 329 = .ok (.iconst 3, 1) := by decide +kernel
theorem dL_law_330 : decode cL_law 330 = .ok (.iadd, 1) := by decide +kernel
theorem dL_law_331 : decode cL_law 331 = .ok (.iaload, 1) := by decide +kernel
theorem dL_law_332 : decode cL_law 332 = .ok (.aload_n 0, 1) := by decide +kernel
theorem dL_law_333 : decode cL_law 333 = .ok (.iload_n 3, 1) := by decide +kernel
theorem dL_law_334 : decode cL_law 334 = .ok (.iconst 4, 1) := by decide +kernel
theorem dL_law_335 : decode cL_law 335 = .ok (.iadd, 1) := by decide +kernel
theorem dL_law_336 : decode cL_law 336 = .ok (.iaload, 1) := by decide +kernel
theorem dL_law_337 : decode cL_law 337 = .ok (.invokevirtual 31, 3) := by decide +kernel
theorem dL_law_340 : decode cL_law 340 = .ok (.aload_n 2, 1) := by decide +kernel
theorem dL_law_341 : decode cL_law 341 = .ok (.aload_n 0, 1) := by decide +kernel
theorem dL_law_342 : decode cL_law 342 = .ok (.iload_n 3, 1) := by decide +kernel
theorem dL_law_343 : decode cL_law 343 = .ok (.iconst 1, 1) := by decide +kernel
theorem dL_law_344 : decode cL_law 344 = .ok (.iadd, 1) := by decide +kernel
theorem dL_law_345 : decode cL_law 345 = .ok (.iaload, 1) := by decide +kernel
theorem dL_law_346 : decode cL_law 346 = .ok (.aload_n 0, 1) := by decide +kernel
theorem dL_law_347 : decode cL_law 347 = .ok (.iload_n 3, 1) := by decide +kernel
theorem dL_law_348 : decode cL_law 348 = .ok (.iconst 2, 1) := by decide +kernel
theorem dL_law_349 : decode cL_law 349 = .ok (.iadd, 1) := by decide +kernel
theorem dL_law_350 : decode cL_law 350 = .ok (.iaload, 1) := by decide +kernel
theorem dL_law_351 : decode cL_law 351 = .ok (.aload_n 0, 1) := by decide +kernel
theorem dL_law_352 : decode cL_law 352 = .ok (.iload_n 3, 1) := by decide +kernel
theorem dL_law_353 : decode cL_law 353 = .ok (.iconst 3, 1) := by decide +kernel
theorem dL_law_354 : decode cL_law 354 = .ok (.iadd, 1) := by decide +kernel
theorem dL_law_355 : decode cL_law 355 = .ok (.iaload, 1) := by decide +kernel
theorem dL_law_356 : decode cL_law 356 = .ok (.aload_n 0, 1) := by decide +kernel
theorem dL_law_357 : decode cL_law 357 = .ok (.iload_n 3, 1) := by decide +kernel
theorem dL_law_358 : decode cL_law 358 = .ok (.iconst 4, 1) := by decide +kernel
theorem dL_law_359 : decode cL_law 359 = .ok (.iadd, 1) := by decide +kernel
theorem dL_law_360 : decode cL_law 360 = .ok (.iaload, 1) := by decide +kernel
theorem dL_law_361 : decode cL_law 361 = .ok (.invokevirtual 35, 3) := by decide +kernel
theorem dL_law_364 : decode cL_law 364 = .ok (.if_icmp .eq 827, 3) := by decide +kernel
theorem dL_law_367 : decode cL_law 367 = .ok (.iconst 0, 1) := by decide +kernel
theorem dL_law_368 : decode cL_law 368 = .ok (.ireturn, 1) := by decide +kernel
theorem dL_law_369 : decode cL_law 369 = .ok (.aload_n 1, 1) := by decide +kernel
theorem dL_law_370 : decode cL_law 370 = .ok (.aload_n 0, 1) := by decide +kernel
theorem dL_law_371 : decode cL_law 371 = .ok (.iload_n 3, 1) := by decide +kernel
theorem dL_law_372 : decode cL_law 372 = .ok (.iconst 1, 1) := by decide +kernel
theorem dL_law_373 : decode cL_law 373 = .ok (.iadd, 1) := by decide +kernel
theorem dL_law_374 : decode cL_law 374 = .ok (.iaload, 1) := by decide +kernel
theorem dL_law_375 : decode cL_law 375 = .ok (.aload_n 0, 1) := by decide +kernel
theorem dL_law_376 : decode cL_law 376 = .ok (.iload_n 3, 1) := by decide +kernel
theorem dL_law_377 : decode cL_law 377 = .ok (.iconst 2, 1) := by decide +kernel
theorem dL_law_378 : decode cL_law 378 = .ok (.iadd, 1) := by decide +kernel
theorem dL_law_379 : decode cL_law 379 = .ok (.iaload, 1) := by decide +kernel
theorem dL_law_380 : decode cL_law 380 = .ok (.invokevirtual 36, 3) := by decide +kernel
theorem dL_law_383 : decode cL_law 383 = .ok (.aload_n 2, 1) := by decide +kernel
theorem dL_law_384 : decode cL_law 384 = .ok (.aload_n 0, 1) := by decide +kernel
theorem dL_law_385 : decode cL_law 385 = .ok (.iload_n 3, 1) := by decide +kernel
theorem dL_law_386 : decode cL_law 386 = .ok (.iconst 1, 1) := by decide +kernel
theorem dL_law_387 : decode cL_law 387 = .ok (.iadd, 1) := by decide +kernel
theorem dL_law_388 : decode cL_law 388 = .ok (.iaload, 1) := by decide +kernel
theorem dL_law_389 : decode cL_law 389 = .ok (.aload_n 0, 1) := by decide +kernel
theorem dL_law_390 : decode cL_law 390 = .ok (.iload_n 3, 1) := by decide +kernel
theorem dL_law_391 : decode cL_law 391 = .ok (.iconst 2, 1) := by decide +kernel
theorem dL_law_392 : decode cL_law 392 = .ok (.iadd, 1) := by decide +kernel
theorem dL_law_393 : decode cL_law 393 = .ok (.iaload, 1) := by decide +kernel
theorem dL_law_394 : decode cL_law 394 = .ok (.invokevirtual 39, 3) := by decide +kernel
theorem dL_law_397 : decode cL_law 397 = .ok (.if_icmp .eq 794, 3) := by decide +kernel
theorem dL_law_400 : decode cL_law 400 = .ok (.iconst 0, 1) := by decide +kernel
theorem dL_law_401 : decode cL_law 401 = .ok (.ireturn, 1) := by decide +kernel
theorem dL_law_402 : decode cL_law 402 = .ok (.aload_n 1, 1) := by decide +kernel
theorem dL_law_403 : decode cL_law 403 = .ok (.aload_n 0, 1) := by decide +kernel
theorem dL_law_404 : decode cL_law 404 = .ok (.iload_n 3, 1) := by decide +kernel
theorem dL_law_405 : decode cL_law 405 = .ok (.iconst 1, 1) := by decide +kernel
theorem dL_law_406 : decode cL_law 406 = .ok (.iadd, 1) := by decide +kernel
theorem dL_law_407 : decode cL_law 407 = .ok (.iaload, 1) := by decide +kernel
theorem dL_law_408 : decode cL_law 408 = .ok (.aload_n 0, 1) := by decide +kernel
theorem dL_law_409 : decode cL_law 409 = .ok (.iload_n 3, 1) := by decide +kernel
theorem dL_law_410 : decode cL_law 410 = .ok (.iconst 2, 1) := by decide +kernel
theorem dL_law_411 : decode cL_law 411 = .ok (.iadd, 1) := by decide +kernel
theorem dL_law_412 : decode cL_law 412 = .ok (.iaload, 1) := by decide +kernel
theorem dL_law_413 : decode cL_law 413 = .ok (.aload_n 0, 1) := by decide +kernel
theorem dL_law_414 : decode cL_law 414 = .ok (.iload_n 3, 1) := by decide +kernel
theorem dL_law_415 : decode cL_law 415 = .ok (.iconst 3, 1) := by decide +kernel
theorem dL_law_416 : decode cL_law 416 = .ok (.iadd, 1) := by decide +kernel
theorem dL_law_417 : decode cL_law 417 = .ok (.iaload, 1) := by decide +kernel
theorem dL_law_418 : decode cL_law 418 = .ok (.aload_n 0, 1) := by decide +kernel
theorem dL_law_419 : decode cL_law 419 = .ok (.iload_n 3, 1) := by decide +kernel
theorem dL_law_420 : decode cL_law 420 = .ok (.iconst 4, 1) := by decide +kernel
theorem dL_law_421 : decode cL_law 421 = .ok (.iadd, 1) := by decide +kernel
theorem dL_law_422 : decode cL_law 422 = .ok (.iaload, 1) := by decide +kernel
theorem dL_law_423 : decode cL_law 423 = .ok (.aload_n 0, 1) := by decide +kernel
theorem dL_law_424 : decode cL_law 424 = .ok (.iload_n 3, 1) := by decide +kernel
theorem dL_law_425 : decode cL_law 425 = .ok (.iconst 5, 1) := by decide +kernel
theorem dL_law_426 : decode cL_law 426 = .ok (.iadd, 1) := by decide +kernel
theorem dL_law_427 : decode cL_law 427 = .ok (.iaload, 1) := by decide +kernel
theorem dL_law_428 : decode cL_law 428 = .ok (.invokevirtual 40, 3) := by decide +kernel
theorem dL_law_431 : decode cL_law 431 = .ok (.aload_n 2, 1) := by decide +kernel
theorem dL_law_432 : decode cL_law 432 = .ok (.aload_n 0, 1) := by decide +kernel
theorem dL_law_433 : decode cL_law 433 = .ok (.iload_n 3, 1) := by decide +kernel
theorem dL_law_434 : decode cL_law 434 = .ok (.iconst 1, 1) := by decide +kernel
theorem dL_law_435 : decode cL_law 435 = .ok (.iadd, 1) := by decide +kernel
theorem dL_law_436 : decode cL_law 436 = .ok (.iaload, 1) := by decide +kernel
theorem dL_law_437 : decode cL_law 437 = .ok (.aload_n 0, 1) := by decide +kernel
theorem dL_law_438 : decode cL_law 438 = .ok (.iload_n 3, 1) := by decide +kernel
theorem dL_law_439 : decode cL_law 439 = .ok (.iconst 2, 1) := by decide +kernel
theorem dL_law_440 : decode cL_law 440 = .ok (.iadd, 1) := by decide +kernel
theorem dL_law_441 : decode cL_law 441 = .ok (.iaload, 1) := by decide +kernel
theorem dL_law_442 : decode cL_law 442 = .ok (.aload_n 0, 1) := by decide +kernel
theorem dL_law_443 : decode cL_law 443 = .ok (.iload_n 3, 1) := by decide +kernel
theorem dL_law_444 : decode cL_law 444 = .ok (.iconst 3, 1) := by decide +kernel
theorem dL_law_445 : decode cL_law 445 = .ok (.iadd, 1) := by decide +kernel
theorem dL_law_446 : decode cL_law 446 = .ok (.iaload, 1) := by decide +kernel
theorem dL_law_447 : decode cL_law 447 = .ok (.aload_n 0, 1) := by decide +kernel
theorem dL_law_448 : decode cL_law 448 = .ok (.iload_n 3, 1) := by decide +kernel
theorem dL_law_449 : decode cL_law 449 = .ok (.iconst 4, 1) := by decide +kernel
theorem dL_law_450 : decode cL_law 450 = .ok (.iadd, 1) := by decide +kernel
theorem dL_law_451 : decode cL_law 451 = .ok (.iaload, 1) := by decide +kernel
theorem dL_law_452 : decode cL_law 452 = .ok (.aload_n 0, 1) := by decide +kernel
theorem dL_law_453 : decode cL_law 453 = .ok (.iload_n 3, 1) := by decide +kernel
theorem dL_law_454 : decode cL_law 454 = .ok (.iconst 5, 1) := by decide +kernel
theorem dL_law_455 : decode cL_law 455 = .ok (.iadd, 1) := by decide +kernel
theorem dL_law_456 : decode cL_law 456 = .ok (.iaload, 1) := by decide +kernel
theorem dL_law_457 : decode cL_law 457 = .ok (.invokevirtual 44, 3) := by decide +kernel
theorem dL_law_460 : decode cL_law 460 = .ok (.if_icmp .eq 731, 3) := by decide +kernel
theorem dL_law_463 : decode cL_law 463 = .ok (.iconst 0, 1) := by decide +kernel
theorem dL_law_464 : decode cL_law 464 = .ok (.ireturn, 1) := by decide +kernel
theorem dL_law_465 : decode cL_law 465 = .ok (.aload_n 1, 1) := by decide +kernel
theorem dL_law_466 : decode cL_law 466 = .ok (.aload_n 0, 1) := by decide +kernel
theorem dL_law_467 : decode cL_law 467 = .ok (.iload_n 3, 1) := by decide +kernel
theorem dL_law_468 : decode cL_law 468 = .ok (.iconst 1, 1) := by decide +kernel
theorem dL_law_469 : decode cL_law 469 = .ok (.iadd, 1) := by decide +kernel
theorem dL_law_470 : decode cL_law 470 = .ok (.iaload, 1) := by decide +kernel
theorem dL_law_471 : decode cL_law 471 = .ok (.aload_n 0, 1) := by decide +kernel
theorem dL_law_472 : decode cL_law 472 = .ok (.iload_n 3, 1) := by decide +kernel
theorem dL_law_473 : decode cL_law 473 = .ok (.iconst 2, 1) := by decide +kernel
theorem dL_law_474 : decode cL_law 474 = .ok (.iadd, 1) := by decide +kernel
theorem dL_law_475 : decode cL_law 475 = .ok (.iaload, 1) := by decide +kernel
theorem dL_law_476 : decode cL_law 476 = .ok (.aload_n 0, 1) := by decide +kernel
theorem dL_law_477 : decode cL_law 477 = .ok (.iload_n 3, 1) := by decide +kernel
theorem dL_law_478 : decode cL_law 478 = .ok (.iconst 3, 1) := by decide +kernel
theorem dL_law_479 : decode cL_law 479 = .ok (.iadd, 1) := by decide +kernel
theorem dL_law_480 : decode cL_law 480 = .ok (.iaload, 1) := by decide +kernel
theorem dL_law_481 : decode cL_law 481 = .ok (.invokevirtual 45, 3) := by decide +kernel
theorem dL_law_484 : decode cL_law 484 = .ok (.aload_n 2, 1) := by decide +kernel
theorem dL_law_485 : decode cL_law 485 = .ok (.aload_n 0, 1) := by decide +kernel
theorem dL_law_486 : decode cL_law 486 = .ok (.iload_n 3, 1) := by decide +kernel
theorem dL_law_487 : decode cL_law 487 = .ok (.iconst 1, 1) := by decide +kernel
theorem dL_law_488 : decode cL_law 488 = .ok (.iadd, 1) := by decide +kernel
theorem dL_law_489 : decode cL_law 489 = .ok (.iaload, 1) := by decide +kernel
theorem dL_law_490 : decode cL_law 490 = .ok (.aload_n 0, 1) := by decide +kernel
theorem dL_law_491 : decode cL_law 491 = .ok (.iload_n 3, 1) := by decide +kernel
theorem dL_law_492 : decode cL_law 492 = .ok (.iconst 2, 1) := by decide +kernel
theorem dL_law_493 : decode cL_law 493 = .ok (.iadd, 1) := by decide +kernel
theorem dL_law_494 : decode cL_law 494 = .ok (.iaload, 1) := by decide +kernel
theorem dL_law_495 : decode cL_law 495 = .ok (.aload_n 0, 1) := by decide +kernel
theorem dL_law_496 : decode cL_law 496 = .ok (.iload_n 3, 1) := by decide +kernel
theorem dL_law_497 : decode cL_law 497 = .ok (.iconst 3, 1) := by decide +kernel
theorem dL_law_498 : decode cL_law 498 = .ok (.iadd, 1) := by decide +kernel
theorem dL_law_499 : decode cL_law 499 = .ok (.iaload, 1) := by decide +kernel
theorem dL_law_500 : decode cL_law 500 = .ok (.invokevirtual 48, 3) := by decide +kernel
theorem dL_law_503 : decode cL_law 503 = .ok (.if_icmp .eq 688, 3) := by decide +kernel
theorem dL_law_506 : decode cL_law 506 = .ok (.iconst 0, 1) := by decide +kernel
theorem dL_law_507 : decode cL_law 507 = .ok (.ireturn, 1) := by decide +kernel
theorem dL_law_508 : decode cL_law 508 = .ok (.aload_n 1, 1) := by decide +kernel
theorem dL_law_509 : decode cL_law 509 = .ok (.aload_n 0, 1) := by decide +kernel
theorem dL_law_510 : decode cL_law 510 = .ok (.iload_n 3, 1) := by decide +kernel
theorem dL_law_511 : decode cL_law 511 = .ok (.iconst 1, 1) := by decide +kernel
theorem dL_law_512 : decode cL_law 512 = .ok (.iadd, 1) := by decide +kernel
theorem dL_law_513 : decode cL_law 513 = .ok (.iaload, 1) := by decide +kernel
theorem dL_law_514 : decode cL_law 514 = .ok (.aload_n 0, 1) := by decide +kernel
theorem dL_law_515 : decode cL_law 515 = .ok (.iload_n 3, 1) := by decide +kernel
theorem dL_law_516 : decode cL_law 516 = .ok (.iconst 2, 1) := by decide +kernel
theorem dL_law_517 : decode cL_law 517 = .ok (.iadd, 1) := by decide +kernel
theorem dL_law_518 : decode cL_law 518 = .ok (.iaload, 1) := by decide +kernel
theorem dL_law_519 : decode cL_law 519 = .ok (.aload_n 0, 1) := by decide +kernel
theorem dL_law_520 : decode cL_law 520 = .ok (.iload_n 3, 1) := by decide +kernel
theorem dL_law_521 : decode cL_law 521 = .ok (.iconst 3, 1) := by decide +kernel
theorem dL_law_522 : decode cL_law 522 = .ok (.iadd, 1) := by decide +kernel
theorem dL_law_523 : decode cL_law 523 = .ok (.iaload, 1) := by decide +kernel
theorem dL_law_524 : decode cL_law 524 = .ok (.aload_n 0, 1) := by decide +kernel
theorem dL_law_525 : decode cL_law 525 = .ok (.iload_n 3, 1) := by decide +kernel
theorem dL_law_526 : decode cL_law 526 = .ok (.iconst 4, 1) := by decide +kernel
theorem dL_law_527 : decode cL_law 527 = .ok (.iadd, 1) := by decide +kernel
theorem dL_law_528 : decode cL_law 528 = .ok (.iaload, 1) := by decide +kernel
theorem dL_law_529 : decode cL_law 529 = .ok (.invokevirtual 49, 3) := by decide +kernel
theorem dL_law_532 : decode cL_law 532 = .ok (.aload_n 2, 1) := by decide +kernel
theorem dL_law_533 : decode cL_law 533 = .ok (.aload_n 0, 1) := by decide +kernel
theorem dL_law_534 : decode cL_law 534 = .ok (.iload_n 3, 1) := by decide +kernel
theorem dL_law_535 : decode cL_law 535 = .ok (.iconst 1, 1) := by decide +kernel
theorem dL_law_536 : decode cL_law 536 = .ok (.iadd, 1) := by decide +kernel
theorem dL_law_537 : decode cL_law 537 = .ok (.iaload, 1) := by decide +kernel
theorem dL_law_538 : decode cL_law 538 = .ok (.aload_n 0, 1) := by decide +kernel
theorem dL_law_539 : decode cL_law 539 = .ok (.iload_n 3, 1) := by decide +kernel
theorem dL_law_540 : decode cL_law 540 = .ok (.iconst 2, 1) := by decide +kernel
theorem dL_law_541 : decode cL_law 541 = .ok (.iadd, 1) := by decide +kernel
theorem dL_law_542 : decode cL_law 542 = .ok (.iaload, 1) := by decide +kernel
theorem dL_law_543 : decode cL_law 543 = .ok (.aload_n 0, 1) := by decide +kernel
theorem dL_law_544 : decode cL_law 544 = .ok (.iload_n 3, 1) := by decide +kernel
theorem dL_law_545 : decode cL_law 545 = .ok (.iconst 3, 1) := by decide +kernel
theorem dL_law_546 : decode cL_law 546 = .ok (.iadd, 1) := by decide +kernel
theorem dL_law_547 : decode cL_law 547 = .ok (.iaload, 1) := by decide +kernel
theorem dL_law_548 : decode cL_law 548 = .ok (.aload_n 0, 1) := by decide +kernel
theorem dL_law_549 : decode cL_law 549 = .ok (.iload_n 3, 1) := by decide +kernel
theorem dL_law_550 : decode cL_law 550 = .ok (.iconst 4, 1) := by decide +kernel
theorem dL_law_551 : decode cL_law 551 = .ok (.iadd, 1) := by decide +kernel
theorem dL_law_552 : decode cL_law 552 = .ok (.iaload, 1) := by decide +kernel
theorem dL_law_553 : decode cL_law 553 = .ok (.invokevirtual 52, 3) := by decide +kernel
theorem dL_law_556 : decode cL_law 556 = .ok (.if_icmp .eq 635, 3) := by decide +kernel
theorem dL_law_559 : decode cL_law 559 = .ok (.iconst 0, 1) := by decide +kernel
theorem dL_law_560 : decode cL_law 560 = .ok (.ireturn, 1) := by decide +kernel
theorem dL_law_561 : decode cL_law 561 = .ok (.aload_n 1, 1) := by decide +kernel
theorem dL_law_562 : decode cL_law 562 = .ok (.aload_n 0, 1) := by decide +kernel
theorem dL_law_563 : decode cL_law 563 = .ok (.iload_n 3, 1) := by decide +kernel
theorem dL_law_564 : decode cL_law 564 = .ok (.iconst 1, 1) := by decide +kernel
theorem dL_law_565 : decode cL_law 565 = .ok (.iadd, 1) := by decide +kernel
theorem dL_law_566 : decode cL_law 566 = .ok (.iaload, 1) := by decide +kernel
theorem dL_law_567 : decode cL_law 567 = .ok (.aload_n 0, 1) := by decide +kernel
theorem dL_law_568 : decode cL_law 568 = .ok (.iload_n 3, 1) := by decide +kernel
theorem dL_law_569 : decode cL_law 569 = .ok (.iconst 2, 1) := by decide +kernel
theorem dL_law_570 : decode cL_law 570 = .ok (.iadd, 1) := by decide +kernel
theorem dL_law_571 : decode cL_law 571 = .ok (.iaload, 1) := by decide +kernel
theorem dL_law_572 : decode cL_law 572 = .ok (.aload_n 0, 1) := by decide +kernel
theorem dL_law_573 : decode cL_law 573 = .ok (.iload_n 3, 1) := by decide +kernel
theorem dL_law_574 : decode cL_law 574 = .ok (.iconst 3, 1) := by decide +kernel
theorem dL_law_575 : decode cL_law 575 = .ok (.iadd, 1) := by decide +kernel
theorem dL_law_576 : decode cL_law 576 = .ok (.iaload, 1) := by decide +kernel
theorem dL_law_577 : decode cL_law 577 = .ok (.aload_n 0, 1) := by decide +kernel
theorem dL_law_578 : decode cL_law 578 = .ok (.iload_n 3, 1) := by decide +kernel
theorem dL_law_579 : decode cL_law 579 = .ok (.iconst 4, 1) := by decide +kernel
theorem dL_law_580 : decode cL_law 580 = .ok (.iadd, 1) := by decide +kernel
theorem dL_law_581 : decode cL_law 581 = .ok (.iaload, 1) := by decide +kernel
theorem dL_law_582 : decode cL_law 582 = .ok (.invokevirtual 53, 3) := by decide +kernel
theorem dL_law_585 : decode cL_law 585 = .ok (.aload_n 2, 1) := by decide +kernel
theorem dL_law_586 : decode cL_law 586 = .ok (.aload_n 0, 1) := by decide +kernel
theorem dL_law_587 : decode cL_law 587 = .ok (.iload_n 3, 1) := by decide +kernel
theorem dL_law_588 : decode cL_law 588 = .ok (.iconst 1, 1) := by decide +kernel
theorem dL_law_589 : decode cL_law 589 = .ok (.iadd, 1) := by decide +kernel
theorem dL_law_590 : decode cL_law 590 = .ok (.iaload, 1) := by decide +kernel
theorem dL_law_591 : decode cL_law 591 = .ok (.aload_n 0, 1) := by decide +kernel
theorem dL_law_592 : decode cL_law 592 = .ok (.iload_n 3, 1) := by decide +kernel
theorem dL_law_593 : decode cL_law 593 = .ok (.iconst 2, 1) := by decide +kernel
theorem dL_law_594 : decode cL_law 594 = .ok (.iadd, 1) := by decide +kernel
theorem dL_law_595 : decode cL_law 595 = .ok (.iaload, 1) := by decide +kernel
theorem dL_law_596 : decode cL_law 596 = .ok (.aload_n 0, 1) := by decide +kernel
theorem dL_law_597 : decode cL_law 597 = .ok (.iload_n 3, 1) := by decide +kernel
theorem dL_law_598 : decode cL_law 598 = .ok (.iconst 3, 1) := by decide +kernel
theorem dL_law_599 : decode cL_law 599 = .ok (.iadd, 1) := by decide +kernel
theorem dL_law_600 : decode cL_law 600 = .ok (.iaload, 1) := by decide +kernel
theorem dL_law_601 : decode cL_law 601 = .ok (.aload_n 0, 1) := by decide +kernel
theorem dL_law_602 : decode cL_law 602 = .ok (.iload_n 3, 1) := by decide +kernel
theorem dL_law_603 : decode cL_law 603 = .ok (.iconst 4, 1) := by decide +kernel
theorem dL_law_604 : decode cL_law 604 = .ok (.iadd, 1) := by decide +kernel
theorem dL_law_605 : decode cL_law 605 = .ok (.iaload, 1) := by decide +kernel
theorem dL_law_606 : decode cL_law 606 = .ok (.invokevirtual 56, 3) := by decide +kernel
theorem dL_law_609 : decode cL_law 609 = .ok (.if_icmp .eq 582, 3) := by decide +kernel
theorem dL_law_612 : decode cL_law 612 = .ok (.iconst 0, 1) := by decide +kernel
theorem dL_law_613 : decode cL_law 613 = .ok (.ireturn, 1) := by decide +kernel
theorem dL_law_614 : decode cL_law 614 = .ok (.aload_n 1, 1) := by decide +kernel
theorem dL_law_615 : decode cL_law 615 = .ok (.aload_n 0, 1) := by decide +kernel
theorem dL_law_616 : decode cL_law 616 = .ok (.iload_n 3, 1) := by decide +kernel
theorem dL_law_617 : decode cL_law 617 = .ok (.iconst 1, 1) := by decide +kernel
theorem dL_law_618 : decode cL_law 618 = .ok (.iadd, 1) := by decide +kernel
theorem dL_law_619 : decode cL_law 619 = .ok (.iaload, 1) := by decide +kernel
theorem dL_law_620 : decode cL_law 620 = .ok (.aload_n 0, 1) := by decide +kernel
theorem dL_law_621 : decode cL_law 621 = .ok (.iload_n 3, 1) := by decide +kernel
theorem dL_law_622 : decode cL_law 622 = .ok (.iconst 2, 1) := by decide +kernel
theorem dL_law_623 : decode cL_law 623 = .ok (.iadd, 1) := by decide +kernel
theorem dL_law_624 : decode cL_law 624 = .ok (.iaload, 1) := by decide +kernel
theorem dL_law_625 : decode cL_law 625 = .ok (.aload_n 0, 1) := by decide +kernel
theorem dL_law_626 : decode cL_law 626 = .ok (.iload_n 3, 1) := by decide +kernel
theorem dL_law_627 : decode cL_law 627 = .ok (.iconst 3, 1) := by decide +kernel
theorem dL_law_628 : decode cL_law 628 = .ok (.iadd, 1) := by decide +kernel
theorem dL_law_629 : decode cL_law 629 = .ok (.iaload, 1) := by decide +kernel
theorem dL_law_630 : decode cL_law 630 = .ok (.aload_n 0, 1) := by decide +kernel
theorem dL_law_631 : decode cL_law 631 = .ok (.iload_n 3, 1) := by decide +kernel
theorem dL_law_632 : decode cL_law 632 = .ok (.iconst 4, 1) := by decide +kernel
theorem dL_law_633 : decode cL_law 633 = .ok (.iadd, 1) := by decide +kernel
theorem dL_law_634 : decode cL_law 634 = .ok (.iaload, 1) := by decide +kernel
theorem dL_law_635 : decode cL_law 635 = .ok (.aload_n 0, 1) := by decide +kernel
theorem dL_law_636 : decode cL_law 636 = .ok (.iload_n 3, 1) := by decide +kernel
theorem dL_law_637 : decode cL_law 637 = .ok (.iconst 5, 1) := by decide +kernel
theorem dL_law_638 : decode cL_law 638 = .ok (.iadd, 1) := by decide +kernel
theorem dL_law_639 : decode cL_law 639 = .ok (.iaload, 1) := by decide +kernel
theorem dL_law_640 : decode cL_law 640 = .ok (.invokevirtual 57, 3) := by decide +kernel
theorem dL_law_643 : decode cL_law 643 = .ok (.aload_n 2, 1) := by decide +kernel
theorem dL_law_644 : decode cL_law 644 = .ok (.aload_n 0, 1) := by decide +kernel
theorem dL_law_645 : decode cL_law 645 = .ok (.iload_n 3, 1) := by decide +kernel
theorem dL_law_646 : decode cL_law 646 = .ok (.iconst 1, 1) := by decide +kernel
theorem dL_law_647 : decode cL_law 647 = .ok (.iadd, 1) := by decide +kernel
theorem dL_law_648 : decode cL_law 648 = .ok (.iaload, 1) := by decide +kernel
theorem dL_law_649 : decode cL_law 649 = .ok (.aload_n 0, 1) := by decide +kernel
theorem dL_law_650 : decode cL_law 650 = .ok (.iload_n 3, 1) := by decide +kernel
theorem dL_law_651 : decode cL_law 651 = .ok (.iconst 2, 1) := by decide +kernel
theorem dL_law_652 : decode cL_law 652 = .ok (.iadd, 1) := by decide +kernel
theorem dL_law_653 : decode cL_law 653 = .ok (.iaload, 1) := by decide +kernel
theorem dL_law_654 : decode cL_law 654 = .ok (.aload_n 0, 1) := by decide +kernel
theorem dL_law_655 : decode cL_law 655 = .ok (.iload_n 3, 1) := by decide +kernel
theorem dL_law_656 : decode cL_law 656 = .ok (.iconst 3, 1) := by decide +kernel
theorem dL_law_657 : decode cL_law 657 = .ok (.iadd, 1) := by decide +kernel
theorem dL_law_658 : decode cL_law 658 = .ok (.iaload, 1) := by decide +kernel
theorem dL_law_659 : decode cL_law 659 = .ok (.aload_n 0, 1) := by decide +kernel
theorem dL_law_660 : decode cL_law 660 = .ok (.iload_n 3, 1) := by decide +kernel
theorem dL_law_661 : decode cL_law 661 = .ok (.iconst 4, 1) := by decide +kernel
theorem dL_law_662 : decode cL_law 662 = .ok (.iadd, 1) := by decide +kernel
theorem dL_law_663 : decode cL_law 663 = .ok (.iaload, 1) := by decide +kernel
theorem dL_law_664 : decode cL_law 664 = .ok (.aload_n 0, 1) := by decide +kernel
theorem dL_law_665 : decode cL_law 665 = .ok (.iload_n 3, 1) := by decide +kernel
theorem dL_law_666 : decode cL_law 666 = .ok (.iconst 5, 1) := by decide +kernel
theorem dL_law_667 : decode cL_law 667 = .ok (.iadd, 1) := by decide +kernel
theorem dL_law_668 : decode cL_law 668 = .ok (.iaload, 1) := by decide +kernel
theorem dL_law_669 : decode cL_law 669 = .ok (.invokevirtual 60, 3) := by decide +kernel
theorem dL_law_672 : decode cL_law 672 = .ok (.if_icmp .eq 519, 3) := by decide +kernel
theorem dL_law_675 : decode cL_law 675 = .ok (.iconst 0, 1) := by decide +kernel
theorem dL_law_676 : decode cL_law 676 = .ok (.ireturn, 1) := by decide +kernel
theorem dL_law_677 : decode cL_law 677 = .ok (.aload_n 1, 1) := by decide +kernel
theorem dL_law_678 : decode cL_law 678 = .ok (.aload_n 0, 1) := by decide +kernel
theorem dL_law_679 : decode cL_law 679 = .ok (.iload_n 3, 1) := by decide +kernel
theorem dL_law_680 : decode cL_law 680 = .ok (.iconst 1, 1) := by decide +kernel
theorem dL_law_681 : decode cL_law 681 = .ok (.iadd, 1) := by decide +kernel
theorem dL_law_682 : decode cL_law 682 = .ok (.iaload, 1) := by decide +kernel
theorem dL_law_683 : decode cL_law 683 = .ok (.aload_n 0, 1) := by decide +kernel
theorem dL_law_684 : decode cL_law 684 = .ok (.iload_n 3, 1) := by decide +kernel
theorem dL_law_685 : decode cL_law 685 = .ok (.iconst 2, 1) := by decide +kernel
theorem dL_law_686 : decode cL_law 686 = .ok (.iadd, 1) := by decide +kernel
theorem dL_law_687 : decode cL_law 687 = .ok (.iaload, 1) := by decide +kernel
theorem dL_law_688 : decode cL_law 688 = .ok (.aload_n 0, 1) := by decide +kernel
theorem dL_law_689 : decode cL_law 689 = .ok (.iload_n 3, 1) := by decide +kernel
theorem dL_law_690 : decode cL_law 690 = .ok (.iconst 3, 1) := by decide +kernel
theorem dL_law_691 : decode cL_law 691 = .ok (.iadd, 1) := by decide +kernel
theorem dL_law_692 : decode cL_law 692 = .ok (.iaload, 1) := by decide +kernel
theorem dL_law_693 : decode cL_law 693 = .ok (.aload_n 0, 1) := by decide +kernel
theorem dL_law_694 : decode cL_law 694 = .ok (.iload_n 3, 1) := by decide +kernel
theorem dL_law_695 : decode cL_law 695 = .ok (.iconst 4, 1) := by decide +kernel
theorem dL_law_696 : decode cL_law 696 = .ok (.iadd, 1) := by decide +kernel
theorem dL_law_697 : decode cL_law 697 = .ok (.iaload, 1) := by decide +kernel
theorem dL_law_698 : decode cL_law 698 = .ok (.aload_n 0, 1) := by decide +kernel
theorem dL_law_699 : decode cL_law 699 = .ok (.iload_n 3, 1) := by decide +kernel
theorem dL_law_700 : decode cL_law 700 = .ok (.iconst 5, 1) := by decide +kernel
theorem dL_law_701 : decode cL_law 701 = .ok (.iadd, 1) := by decide +kernel
theorem dL_law_702 : decode cL_law 702 = .ok (.iaload, 1) := by decide +kernel
theorem dL_law_703 : decode cL_law 703 = .ok (.invokevirtual 61, 3) := by decide +kernel
theorem dL_law_706 : decode cL_law 706 = .ok (.aload_n 2, 1) := by decide +kernel
theorem dL_law_707 : decode cL_law 707 = .ok (.aload_n 0, 1) := by decide +kernel
theorem dL_law_708 : decode cL_law 708 = .ok (.iload_n 3, 1) := by decide +kernel
theorem dL_law_709 : decode cL_law 709 = .ok (.iconst 1, 1) := by decide +kernel
theorem dL_law_710 : decode cL_law 710 = .ok (.iadd, 1) := by decide +kernel
theorem dL_law_711 : decode cL_law 711 = .ok (.iaload, 1) := by decide +kernel
theorem dL_law_712 : decode cL_law 712 = .ok (.aload_n 0, 1) := by decide +kernel
theorem dL_law_713 : decode cL_law 713 = .ok (.iload_n 3, 1) := by decide +kernel
theorem dL_law_714 : decode cL_law 714 = .ok (.iconst 2, 1) := by decide +kernel
theorem dL_law_715 : decode cL_law 715 = .ok (.iadd, 1) := by decide +kernel
theorem dL_law_716 : decode cL_law 716 = .ok (.iaload, 1) := by decide +kernel
theorem dL_law_717 : decode cL_law 717 = .ok (.aload_n 0, 1) := by decide +kernel
theorem dL_law_718 : decode cL_law 718 = .ok (.iload_n 3, 1) := by decide +kernel
theorem dL_law_719 : decode cL_law 719 = .ok (.iconst 3, 1) := by decide +kernel
theorem dL_law_720 : decode cL_law 720 = .ok (.iadd, 1) := by decide +kernel
theorem dL_law_721 : decode cL_law 721 = .ok (.iaload, 1) := by decide +kernel
theorem dL_law_722 : decode cL_law 722 = .ok (.aload_n 0, 1) := by decide +kernel
theorem dL_law_723 : decode cL_law 723 = .ok (.iload_n 3, 1) := by decide +kernel
theorem dL_law_724 : decode cL_law 724 = .ok (.iconst 4, 1) := by decide +kernel
theorem dL_law_725 : decode cL_law 725 = .ok (.iadd, 1) := by decide +kernel
theorem dL_law_726 : decode cL_law 726 = .ok (.iaload, 1) := by decide +kernel
theorem dL_law_727 : decode cL_law 727 = .ok (.aload_n 0, 1) := by decide +kernel
theorem dL_law_728 : decode cL_law 728 = .ok (.iload_n 3, 1) := by decide +kernel
theorem dL_law_729 : decode cL_law 729 = .ok (.iconst 5, 1) := by decide +kernel
theorem dL_law_730 : decode cL_law 730 = .ok (.iadd, 1) := by decide +kernel
theorem dL_law_731 : decode cL_law 731 = .ok (.iaload, 1) := by decide +kernel
theorem dL_law_732 : decode cL_law 732 = .ok (.invokevirtual 64, 3) := by decide +kernel
theorem dL_law_735 : decode cL_law 735 = .ok (.if_icmp .eq 456, 3) := by decide +kernel
theorem dL_law_738 : decode cL_law 738 = .ok (.iconst 0, 1) := by decide +kernel
theorem dL_law_739 : decode cL_law 739 = .ok (.ireturn, 1) := by decide +kernel
theorem dL_law_740 : decode cL_law 740 = .ok (.aload_n 1, 1) := by decide +kernel
theorem dL_law_741 : decode cL_law 741 = .ok (.aload_n 0, 1) := by decide +kernel
theorem dL_law_742 : decode cL_law 742 = .ok (.iload_n 3, 1) := by decide +kernel
theorem dL_law_743 : decode cL_law 743 = .ok (.iconst 1, 1) := by decide +kernel
theorem dL_law_744 : decode cL_law 744 = .ok (.iadd, 1) := by decide +kernel
theorem dL_law_745 : decode cL_law 745 = .ok (.iaload, 1) := by decide +kernel
theorem dL_law_746 : decode cL_law 746 = .ok (.aload_n 0, 1) := by decide +kernel
theorem dL_law_747 : decode cL_law 747 = .ok (.iload_n 3, 1) := by decide +kernel
theorem dL_law_748 : decode cL_law 748 = .ok (.iconst 2, 1) := by decide +kernel
theorem dL_law_749 : decode cL_law 749 = .ok (.iadd, 1) := by decide +kernel
theorem dL_law_750 : decode cL_law 750 = .ok (.iaload, 1) := by decide +kernel
theorem dL_law_751 : decode cL_law 751 = .ok (.invokevirtual 65, 3) := by decide +kernel
theorem dL_law_754 : decode cL_law 754 = .ok (.aload_n 2, 1) := by decide +kernel
theorem dL_law_755 : decode cL_law 755 = .ok (.aload_n 0, 1) := by decide +kernel
theorem dL_law_756 : decode cL_law 756 = .ok (.iload_n 3, 1) := by decide +kernel
theorem dL_law_757 : decode cL_law 757 = .ok (.iconst 1, 1) := by decide +kernel
theorem dL_law_758 : decode cL_law 758 = .ok (.iadd, 1) := by decide +kernel
theorem dL_law_759 : decode cL_law 759 = .ok (.iaload, 1) := by decide +kernel
theorem dL_law_760 : decode cL_law 760 = .ok (.aload_n 0, 1) := by decide +kernel
theorem dL_law_761 : decode cL_law 761 = .ok (.iload_n 3, 1) := by decide +kernel
theorem dL_law_762 : decode cL_law 762 = .ok (.iconst 2, 1) := by decide +kernel
theorem dL_law_763 : decode cL_law 763 = .ok (.iadd, 1) := by decide +kernel
theorem dL_law_764 : decode cL_law 764 = .ok (.iaload, 1) := by decide +kernel
theorem dL_law_765 : decode cL_law 765 = .ok (.invokevirtual 68, 3) := by decide +kernel
theorem dL_law_768 : decode cL_law 768 = .ok (.if_icmp .eq 423, 3) := by decide +kernel
theorem dL_law_771 : decode cL_law 771 = .ok (.iconst 0, 1) := by decide +kernel
theorem dL_law_772 : decode cL_law 772 = .ok (.ireturn, 1) := by decide +kernel
theorem dL_law_773 : decode cL_law 773 = .ok (.aload_n 1, 1) := by decide +kernel
theorem dL_law_774 : decode cL_law 774 = .ok (.aload_n 0, 1) := by decide +kernel
theorem dL_law_775 : decode cL_law 775 = .ok (.iload_n 3, 1) := by decide +kernel
theorem dL_law_776 : decode cL_law 776 = .ok (.iconst 1, 1) := by decide +kernel
theorem dL_law_777 : decode cL_law 777 = .ok (.iadd, 1) := by decide +kernel
theorem dL_law_778 : decode cL_law 778 = .ok (.iaload, 1) := by decide +kernel
theorem dL_law_779 : decode cL_law 779 = .ok (.aload_n 0, 1) := by decide +kernel
theorem dL_law_780 : decode cL_law 780 = .ok (.iload_n 3, 1) := by decide +kernel
theorem dL_law_781 : decode cL_law 781 = .ok (.iconst 2, 1) := by decide +kernel
theorem dL_law_782 : decode cL_law 782 = .ok (.iadd, 1) := by decide +kernel
theorem dL_law_783 : decode cL_law 783 = .ok (.iaload, 1) := by decide +kernel
theorem dL_law_784 : decode cL_law 784 = .ok (.invokevirtual 69, 3) := by decide +kernel
theorem dL_law_787 : decode cL_law 787 = .ok (.aload_n 2, 1) := by decide +kernel
theorem dL_law_788 : decode cL_law 788 = .ok (.aload_n 0, 1) := by decide +kernel
theorem dL_law_789 : decode cL_law 789 = .ok (.iload_n 3, 1) := by decide +kernel
theorem dL_law_790 : decode cL_law 790 = .ok (.iconst 1, 1) := by decide +kernel
theorem dL_law_791 : decode cL_law 791 = .ok (.iadd, 1) := by decide +kernel
theorem dL_law_792 : decode cL_law 792 = .ok (.iaload, 1) := by decide +kernel
theorem dL_law_793 : decode cL_law 793 = .ok (.aload_n 0, 1) := by decide +kernel
theorem dL_law_794 : decode cL_law 794 = .ok (.iload_n 3, 1) := by decide +kernel
theorem dL_law_795 : decode cL_law 795 = .ok (.iconst 2, 1) := by decide +kernel
theorem dL_law_796 : decode cL_law 796 = .ok (.iadd, 1) := by decide +kernel
theorem dL_law_797 : decode cL_law 797 = .ok (.iaload, 1) := by decide +kernel
theorem dL_law_798 : decode cL_law 798 = .ok (.invokevirtual 72, 3) := by decide +kernel
theorem dL_law_801 : decode cL_law 801 = .ok (.if_icmp .eq 390, 3) := by decide +kernel
theorem dL_law_804 : decode cL_law 804 = .ok (.iconst 0, 1) := by decide +kernel
theorem dL_law_805 : decode cL_law 805 = .ok (.ireturn, 1) := by decide +kernel
theorem dL_law_806 : decode cL_law 806 = .ok (.aload_n 1, 1) := by decide +kernel
theorem dL_law_807 : decode cL_law 807 = .ok (.aload_n 0, 1) := by decide +kernel
theorem dL_law_808 : decode cL_law 808 = .ok (.iload_n 3, 1) := by decide +kernel
theorem dL_law_809 : decode cL_law 809 = .ok (.iconst 1, 1) := by decide +kernel
theorem dL_law_810 : decode cL_law 810 = .ok (.iadd, 1) := by decide +kernel
theorem dL_law_811 : decode cL_law 811 = .ok (.iaload, 1) := by decide +kernel
theorem dL_law_812 : decode cL_law 812 = .ok (.aload_n 0, 1) := by decide +kernel
theorem dL_law_813 : decode cL_law 813 = .ok (.iload_n 3, 1) := by decide +kernel
theorem dL_law_814 : decode cL_law 814 = .ok (.iconst 2, 1) := by decide +kernel
theorem dL_law_815 : decode cL_law 815 = .ok (.iadd, 1) := by decide +kernel
theorem dL_law_816 : decode cL_law 816 = .ok (.iaload, 1) := by decide +kernel
theorem dL_law_817 : decode cL_law 817 = .ok (.aload_n 0, 1) := by decide +kernel
theorem dL_law_818 : decode cL_law 818 = .ok (.iload_n 3, 1) := by decide +kernel
theorem dL_law_819 : decode cL_law 819 = .ok (.iconst 3, 1) := by decide +kernel
theorem dL_law_820 : decode cL_law 820 = .ok (.iadd, 1) := by decide +kernel
theorem dL_law_821 : decode cL_law 821 = .ok (.iaload, 1) := by decide +kernel
theorem dL_law_822 : decode cL_law 822 = .ok (.invokevirtual 73, 3) := by decide +kernel
theorem dL_law_825 : decode cL_law 825 = .ok (.aload_n 2, 1) := by decide +kernel
theorem dL_law_826 : decode cL_law 826 = .ok (.aload_n 0, 1) := by decide +kernel
theorem dL_law_827 : decode cL_law 827 = .ok (.iload_n 3, 1) := by decide +kernel
theorem dL_law_828 : decode cL_law 828 = .ok (.iconst 1, 1) := by decide +kernel
theorem dL_law_829 : decode cL_law 829 = .ok (.iadd, 1) := by decide +kernel
theorem dL_law_830 : decode cL_law 830 = .ok (.iaload, 1) := by decide +kernel
theorem dL_law_831 : decode cL_law 831 = .ok (.aload_n 0, 1) := by decide +kernel
theorem dL_law_832 : decode cL_law 832 = .ok (.iload_n 3, 1) := by decide +kernel
theorem dL_law_833 : decode cL_law 833 = .ok (.iconst 2, 1) := by decide +kernel
theorem dL_law_834 : decode cL_law 834 = .ok (.iadd, 1) := by decide +kernel
theorem dL_law_835 : decode cL_law 835 = .ok (.iaload, 1) := by decide +kernel
theorem dL_law_836 : decode cL_law 836 = .ok (.aload_n 0, 1) := by decide +kernel
theorem dL_law_837 : decode cL_law 837 = .ok (.iload_n 3, 1) := by decide +kernel
theorem dL_law_838 : decode cL_law 838 = .ok (.iconst 3, 1) := by decide +kernel
theorem dL_law_839 : decode cL_law 839 = .ok (.iadd, 1) := by decide +kernel
theorem dL_law_840 : decode cL_law 840 = .ok (.iaload, 1) := by decide +kernel
theorem dL_law_841 : decode cL_law 841 = .ok (.invokevirtual 76, 3) := by decide +kernel
theorem dL_law_844 : decode cL_law 844 = .ok (.if_icmp .eq 347, 3) := by decide +kernel
theorem dL_law_847 : decode cL_law 847 = .ok (.iconst 0, 1) := by decide +kernel
theorem dL_law_848 : decode cL_law 848 = .ok (.ireturn, 1) := by decide +kernel
theorem dL_law_849 : decode cL_law 849 = .ok (.aload_n 1, 1) := by decide +kernel
theorem dL_law_850 : decode cL_law 850 = .ok (.invokevirtual 77, 3) := by decide +kernel
theorem dL_law_853 : decode cL_law 853 = .ok (.aload_n 2, 1) := by decide +kernel
theorem dL_law_854 : decode cL_law 854 = .ok (.invokevirtual 81, 3) := by decide +kernel
theorem dL_law_857 : decode cL_law 857 = .ok (.if_icmp .eq 334, 3) := by decide +kernel
theorem dL_law_860 : decode cL_law 860 = .ok (.iconst 0, 1) := by decide +kernel
theorem dL_law_861 : decode cL_law 861 = .ok (.ireturn, 1) := by decide +kernel
theorem dL_law_862 : decode cL_law 862 = .ok (.aload_n 1, 1) := by decide +kernel
theorem dL_law_863 : decode cL_law 863 = .ok (.aload_n 0, 1) := by decide +kernel
theorem dL_law_864 : decode cL_law 864 = .ok (.iload_n 3, 1) := by decide +kernel
theorem dL_law_865 : decode cL_law 865 = .ok (.iconst 1, 1) := by decide +kernel
theorem dL_law_866 : decode cL_law 866 = .ok (.iadd, 1) := by decide +kernel
theorem dL_law_867 : decode cL_law 867 = .ok (.iaload, 1) := by decide +kernel
theorem dL_law_868 : decode cL_law 868 = .ok (.invokevirtual 82, 3) := by decide +kernel
theorem dL_law_871 : decode cL_law 871 = .ok (.aload_n 2, 1) := by decide +kernel
theorem dL_law_872 : decode cL_law 872 = .ok (.aload_n 0, 1) := by decide +kernel
theorem dL_law_873 : decode cL_law 873 = .ok (.iload_n 3, 1) := by decide +kernel
theorem dL_law_874 : decode cL_law 874 = .ok (.iconst 1, 1) := by decide +kernel
theorem dL_law_875 : decode cL_law 875 = .ok (.iadd, 1) := by decide +kernel
theorem dL_law_876 : decode cL_law 876 = .ok (.iaload, 1) := by decide +kernel
theorem dL_law_877 : decode cL_law 877 = .ok (.invokevirtual 86, 3) := by decide +kernel
theorem dL_law_880 : decode cL_law 880 = .ok (.if_icmp .eq 311, 3) := by decide +kernel
theorem dL_law_883 : decode cL_law 883 = .ok (.iconst 0, 1) := by decide +kernel
theorem dL_law_884 : decode cL_law 884 = .ok (.ireturn, 1) := by decide +kernel
theorem dL_law_885 : decode cL_law 885 = .ok (.aload_n 1, 1) := by decide +kernel
theorem dL_law_886 : decode cL_law 886 = .ok (.invokevirtual 87, 3) := by decide +kernel
theorem dL_law_889 : decode cL_law 889 = .ok (.aload_n 2, 1) := by decide +kernel
theorem dL_law_890 : decode cL_law 890 = .ok (.invokevirtual 90, 3) := by decide +kernel
theorem dL_law_893 : decode cL_law 893 = .ok (.if_icmp .eq 298, 3) := by decide +kernel
theorem dL_law_896 : decode cL_law 896 = .ok (.iconst 0, 1) := by decide +kernel
theorem dL_law_897 : decode cL_law 897 = .ok (.ireturn, 1) := by decide +kernel
theorem dL_law_898 : decode cL_law 898 = .ok (.aload_n 1, 1) := by decide +kernel
theorem dL_law_899 : decode cL_law 899 = .ok (.aload_n 0, 1) := by decide +kernel
theorem dL_law_900 : decode cL_law 900 = .ok (.iload_n 3, 1) := by decide +kernel
theorem dL_law_901 : decode cL_law 901 = .ok (.iconst 1, 1) := by decide +kernel
theorem dL_law_902 : decode cL_law 902 = .ok (.iadd, 1) := by decide +kernel
theorem dL_law_903 : decode cL_law 903 = .ok (.iaload, 1) := by decide +kernel
theorem dL_law_904 : decode cL_law 904 = .ok (.aload_n 0, 1) := by decide +kernel
theorem dL_law_905 : decode cL_law 905 = .ok (.iload_n 3, 1) := by decide +kernel
theorem dL_law_906 : decode cL_law 906 = .ok (.iconst 2, 1) := by decide +kernel
theorem dL_law_907 : decode cL_law 907 = .ok (.iadd, 1) := by decide +kernel
theorem dL_law_908 : decode cL_law 908 = .ok (.iaload, 1) := by decide +kernel
theorem dL_law_909 : decode cL_law 909 = .ok (.aload_n 0, 1) := by decide +kernel
theorem dL_law_910 : decode cL_law 910 = .ok (.iload_n 3, 1) := by decide +kernel
theorem dL_law_911 : decode cL_law 911 = .ok (.iconst 3, 1) := by decide +kernel
theorem dL_law_912 : decode cL_law 912 = .ok (.iadd, 1) := by decide +kernel
theorem dL_law_913 : decode cL_law 913 = .ok (.iaload, 1) := by decide +kernel
theorem dL_law_914 : decode cL_law 914 = .ok (.invokevirtual 91, 3) := by decide +kernel
theorem dL_law_917 : decode cL_law 917 = .ok (.aload_n 2, 1) := by decide +kernel
theorem dL_law_918 : decode cL_law 918 = .ok (.aload_n 0, 1) := by decide +kernel
theorem dL_law_919 : decode cL_law 919 = .ok (.iload_n 3, 1) := by decide +kernel
theorem dL_law_920 : decode cL_law 920 = .ok (.iconst 1, 1) := by decide +kernel
theorem dL_law_921 : decode cL_law 921 = .ok (.iadd, 1) := by decide +kernel
theorem dL_law_922 : decode cL_law 922 = .ok (.iaload, 1) := by decide +kernel
theorem dL_law_923 : decode cL_law 923 = .ok (.aload_n 0, 1) := by decide +kernel
theorem dL_law_924 : decode cL_law 924 = .ok (.iload_n 3, 1) := by decide +kernel
theorem dL_law_925 : decode cL_law 925 = .ok (.iconst 2, 1) := by decide +kernel
theorem dL_law_926 : decode cL_law 926 = .ok (.iadd, 1) := by decide +kernel
theorem dL_law_927 : decode cL_law 927 = .ok (.iaload, 1) := by decide +kernel
theorem dL_law_928 : decode cL_law 928 = .ok (.aload_n 0, 1) := by decide +kernel
theorem dL_law_929 : decode cL_law 929 = .ok (.iload_n 3, 1) := by decide +kernel
theorem dL_law_930 : decode cL_law 930 = .ok (.iconst 3, 1) := by decide +kernel
theorem dL_law_931 : decode cL_law 931 = .ok (.iadd, 1) := by decide +kernel
theorem dL_law_932 : decode cL_law 932 = .ok (.iaload, 1) := by decide +kernel
theorem dL_law_933 : decode cL_law 933 = .ok (.invokevirtual 94, 3) := by decide +kernel
theorem dL_law_936 : decode cL_law 936 = .ok (.if_icmp .eq 255, 3) := by decide +kernel
theorem dL_law_939 : decode cL_law 939 = .ok (.iconst 0, 1) := by decide +kernel
theorem dL_law_940 : decode cL_law 940 = .ok (.ireturn, 1) := by decide +kernel
theorem dL_law_941 : decode cL_law 941 = .ok (.aload_n 1, 1) := by decide +kernel
theorem dL_law_942 : decode cL_law 942 = .ok (.aload_n 0, 1) := by decide +kernel
theorem dL_law_943 : decode cL_law 943 = .ok (.iload_n 3, 1) := by decide +kernel
theorem dL_law_944 : decode cL_law 944 = .ok (.iconst 1, 1) := by decide +kernel
theorem dL_law_945 : decode cL_law 945 = .ok (.iadd, 1) := by decide +kernel
theorem dL_law_946 : decode cL_law 946 = .ok (.iaload, 1) := by decide +kernel
theorem dL_law_947 : decode cL_law 947 = .ok (.invokevirtual 95, 3) := by decide +kernel
theorem dL_law_950 : decode cL_law 950 = .ok (.aload_n 2, 1) := by decide +kernel
theorem dL_law_951 : decode cL_law 951 = .ok (.aload_n 0, 1) := by decide +kernel
theorem dL_law_952 : decode cL_law 952 = .ok (.iload_n 3, 1) := by decide +kernel
theorem dL_law_953 : decode cL_law 953 = .ok (.iconst 1, 1) := by decide +kernel
theorem dL_law_954 : decode cL_law 954 = .ok (.iadd, 1) := by decide +kernel
theorem dL_law_955 : decode cL_law 955 = .ok (.iaload, 1) := by decide +kernel
theorem dL_law_956 : decode cL_law 956 = .ok (.invokevirtual 98, 3) := by decide +kernel
theorem dL_law_959 : decode cL_law 959 = .ok (.if_icmp .eq 232, 3) := by decide +kernel
theorem dL_law_962 : decode cL_law 962 = .ok (.iconst 0, 1) := by decide +kernel
theorem dL_law_963 : decode cL_law 963 = .ok (.ireturn, 1) := by decide +kernel
theorem dL_law_964 : decode cL_law 964 = .ok (.aload_n 1, 1) := by decide +kernel
theorem dL_law_965 : decode cL_law 965 = .ok (.invokevirtual 99, 3) := by decide +kernel
theorem dL_law_968 : decode cL_law 968 = .ok (.aload_n 2, 1) := by decide +kernel
theorem dL_law_969 : decode cL_law 969 = .ok (.invokevirtual 102, 3) := by decide +kernel
theorem dL_law_972 : decode cL_law 972 = .ok (.if_icmp .eq 219, 3) := by decide +kernel
theorem dL_law_975 : decode cL_law 975 = .ok (.iconst 0, 1) := by decide +kernel
theorem dL_law_976 : decode cL_law 976 = .ok (.ireturn, 1) := by decide +kernel
theorem dL_law_977 : decode cL_law 977 = .ok (.aload_n 1, 1) := by decide +kernel
theorem dL_law_978 : decode cL_law 978 = .ok (.aload_n 0, 1) := by decide +kernel
theorem dL_law_979 : decode cL_law 979 = .ok (.iload_n 3, 1) := by decide +kernel
theorem dL_law_980 : decode cL_law 980 = .ok (.iconst 1, 1) := by decide +kernel
theorem dL_law_981 : decode cL_law 981 = .ok (.iadd, 1) := by decide +kernel
theorem dL_law_982 : decode cL_law 982 = .ok (.iaload, 1) := by decide +kernel
theorem dL_law_983 : decode cL_law 983 = .ok (.aload_n 0, 1) := by decide +kernel
theorem dL_law_984 : decode cL_law 984 = .ok (.iload_n 3, 1) := by decide +kernel
theorem dL_law_985 : decode cL_law 985 = .ok (.iconst 2, 1) := by decide +kernel
theorem dL_law_986 : decode cL_law 986 = .ok (.iadd, 1) := by decide +kernel
theorem dL_law_987 : decode cL_law 987 = .ok (.iaload, 1) := by decide +kernel
theorem dL_law_988 : decode cL_law 988 = .ok (.aload_n 0, 1) := by decide +kernel
theorem dL_law_989 : decode cL_law 989 = .ok (.iload_n 3, 1) := by decide +kernel
theorem dL_law_990 : decode cL_law 990 = .ok (.iconst 3, 1) := by decide +kernel
theorem dL_law_991 : decode cL_law 991 = .ok (.iadd, 1) := by decide +kernel
theorem dL_law_992 : decode cL_law 992 = .ok (.iaload, 1) := by decide +kernel
theorem dL_law_993 : decode cL_law 993 = .ok (.invokevirtual 103, 3) := by decide +kernel
theorem dL_law_996 : decode cL_law 996 = .ok (.aload_n 2, 1) := by decide +kernel
theorem dL_law_997 : decode cL_law 997 = .ok (.aload_n 0, 1) := by decide +kernel
theorem dL_law_998 : decode cL_law 998 = .ok (.iload_n 3, 1) := by decide +kernel
theorem dL_law_999 : decode cL_law 999 = .ok (.iconst 1, 1) := by decide +kernel
theorem dL_law_1000 : decode cL_law 1000 = .ok (.iadd, 1) := by decide +kernel
theorem dL_law_1001 : decode cL_law 1001 = .ok (.iaload, 1) := by decide +kernel
theorem dL_law_1002 : decode cL_law 1002 = .ok (.aload_n 0, 1) := by decide +kernel
theorem dL_law_1003 : decode cL_law 1003 = .ok (.iload_n 3, 1) := by decide +kernel
theorem dL_law_1004 : decode cL_law 1004 = .ok (.iconst 2, 1) := by decide +kernel
theorem dL_law_1005 : decode cL_law 1005 = .ok (.iadd, 1) := by decide +kernel
theorem dL_law_1006 : decode cL_law 1006 = .ok (.iaload, 1) := by decide +kernel
theorem dL_law_1007 : decode cL_law 1007 = .ok (.aload_n 0, 1) := by decide +kernel
theorem dL_law_1008 : decode cL_law 1008 = .ok (.iload_n 3, 1) := by decide +kernel
theorem dL_law_1009 : decode cL_law 1009 = .ok (.iconst 3, 1) := by decide +kernel
theorem dL_law_1010 : decode cL_law 1010 = .ok (.iadd, 1) := by decide +kernel
theorem dL_law_1011 : decode cL_law 1011 = .ok (.iaload, 1) := by decide +kernel
theorem dL_law_1012 : decode cL_law 1012 = .ok (.invokevirtual 106, 3) := by decide +kernel
theorem dL_law_1015 : decode cL_law 1015 = .ok (.if_icmp .eq 176, 3) := by decide +kernel
theorem dL_law_1018 : decode cL_law 1018 = .ok (.iconst 0, 1) := by decide +kernel
theorem dL_law_1019 : decode cL_law 1019 = .ok (.ireturn, 1) := by decide +kernel
theorem dL_law_1020 : decode cL_law 1020 = .ok (.aload_n 1, 1) := by decide +kernel
theorem dL_law_1021 : decode cL_law 1021 = .ok (.aload_n 0, 1) := by decide +kernel
theorem dL_law_1022 : decode cL_law 1022 = .ok (.iload_n 3, 1) := by decide +kernel
theorem dL_law_1023 : decode cL_law 1023 = .ok (.iconst 1, 1) := by decide +kernel
theorem dL_law_1024 : decode cL_law 1024 = .ok (.iadd, 1) := by decide +kernel
theorem dL_law_1025 : decode cL_law 1025 = .ok (.iaload, 1) := by decide +kernel
theorem dL_law_1026 : decode cL_law 1026 = .ok (.invokevirtual 107, 3) := by decide +kernel
theorem dL_law_1029 : decode cL_law 1029 = .ok (.aload_n 2, 1) := by decide +kernel
theorem dL_law_1030 : decode cL_law 1030 = .ok (.aload_n 0, 1) := by decide +kernel
theorem dL_law_1031 : decode cL_law 1031 = .ok (.iload_n 3, 1) := by decide +kernel
theorem dL_law_1032 : decode cL_law 1032 = .ok (.iconst 1, 1) := by decide +kernel
theorem dL_law_1033 : decode cL_law 1033 = .ok (.iadd, 1) := by decide +kernel
theorem dL_law_1034 : decode cL_law 1034 = .ok (.iaload, 1) := by decide +kernel
theorem dL_law_1035 : decode cL_law 1035 = .ok (.invokevirtual 110, 3) := by decide +kernel
theorem dL_law_1038 : decode cL_law 1038 = .ok (.if_icmp .eq 153, 3) := by decide +kernel
theorem dL_law_1041 : decode cL_law 1041 = .ok (.iconst 0, 1) := by decide +kernel
theorem dL_law_1042 : decode cL_law 1042 = .ok (.ireturn, 1) := by decide +kernel
theorem dL_law_1043 : decode cL_law 1043 = .ok (.aload_n 1, 1) := by decide +kernel
theorem dL_law_1044 : decode cL_law 1044 = .ok (.aload_n 0, 1) := by decide +kernel
theorem dL_law_1045 : decode cL_law 1045 = .ok (.iload_n 3, 1) := by decide +kernel
theorem dL_law_1046 : decode cL_law 1046 = .ok (.iconst 1, 1) := by decide +kernel
theorem dL_law_1047 : decode cL_law 1047 = .ok (.iadd, 1) := by decide +kernel
theorem dL_law_1048 : decode cL_law 1048 = .ok (.iaload, 1) := by decide +kernel
theorem dL_law_1049 : decode cL_law 1049 = .ok (.aload_n 0, 1) := by decide +kernel
theorem dL_law_1050 : decode cL_law 1050 = .ok (.iload_n 3, 1) := by decide +kernel
theorem dL_law_1051 : decode cL_law 1051 = .ok (.iconst 2, 1) := by decide +kernel
theorem dL_law_1052 : decode cL_law 1052 = .ok (.iadd, 1) := by decide +kernel
theorem dL_law_1053 : decode cL_law 1053 = .ok (.iaload, 1) := by decide +kernel
theorem dL_law_1054 : decode cL_law 1054 = .ok (.invokevirtual 111, 3) := by decide +kernel
theorem dL_law_1057 : decode cL_law 1057 = .ok (.aload_n 2, 1) := by decide +kernel
theorem dL_law_1058 : decode cL_law 1058 = .ok (.aload_n 0, 1) := by decide +kernel
theorem dL_law_1059 : decode cL_law 1059 = .ok (.iload_n 3, 1) := by decide +kernel
theorem dL_law_1060 : decode cL_law 1060 = .ok (.iconst 1, 1) := by decide +kernel
theorem dL_law_1061 : decode cL_law 1061 = .ok (.iadd, 1) := by decide +kernel
theorem dL_law_1062 : decode cL_law 1062 = .ok (.iaload, 1) := by decide +kernel
theorem dL_law_1063 : decode cL_law 1063 = .ok (.aload_n 0, 1) := by decide +kernel
theorem dL_law_1064 : decode cL_law 1064 = .ok (.iload_n 3, 1) := by decide +kernel
theorem dL_law_1065 : decode cL_law 1065 = .ok (.iconst 2, 1) := by decide +kernel
theorem dL_law_1066 : decode cL_law 1066 = .ok (.iadd, 1) := by decide +kernel
theorem dL_law_1067 : decode cL_law 1067 = .ok (.iaload, 1) := by decide +kernel
theorem dL_law_1068 : decode cL_law 1068 = .ok (.invokevirtual 114, 3) := by decide +kernel
theorem dL_law_1071 : decode cL_law 1071 = .ok (.if_icmp .eq 120, 3) := by decide +kernel
theorem dL_law_1074 : decode cL_law 1074 = .ok (.iconst 0, 1) := by decide +kernel
theorem dL_law_1075 : decode cL_law 1075 = .ok (.ireturn, 1) := by decide +kernel
theorem dL_law_1076 : decode cL_law 1076 = .ok (.aload_n 1, 1) := by decide +kernel
theorem dL_law_1077 : decode cL_law 1077 = .ok (.aload_n 0, 1) := by decide +kernel
theorem dL_law_1078 : decode cL_law 1078 = .ok (.iload_n 3, 1) := by decide +kernel
theorem dL_law_1079 : decode cL_law 1079 = .ok (.iconst 1, 1) := by decide +kernel
theorem dL_law_1080 : decode cL_law 1080 = .ok (.iadd, 1) := by decide +kernel
theorem dL_law_1081 : decode cL_law 1081 = .ok (.iaload, 1) := by decide +kernel
theorem dL_law_1082 : decode cL_law 1082 = .ok (.invokevirtual 115, 3) := by decide +kernel
theorem dL_law_1085 : decode cL_law 1085 = .ok (.aload_n 2, 1) := by decide +kernel
theorem dL_law_1086 : decode cL_law 1086 = .ok (.aload_n 0, 1) := by decide +kernel
theorem dL_law_1087 : decode cL_law 1087 = .ok (.iload_n 3, 1) := by decide +kernel
theorem dL_law_1088 : decode cL_law 1088 = .ok (.iconst 1, 1) := by decide +kernel
theorem dL_law_1089 : decode cL_law 1089 = .ok (.iadd, 1) := by decide +kernel
theorem dL_law_1090 : decode cL_law 1090 = .ok (.iaload, 1) := by decide +kernel
theorem dL_law_1091 : decode cL_law 1091 = .ok (.invokevirtual 118, 3) := by decide +kernel
theorem dL_law_1094 : decode cL_law 1094 = .ok (.if_icmp .eq 97, 3) := by decide +kernel
theorem dL_law_1097 : decode cL_law 1097 = .ok (.iconst 0, 1) := by decide +kernel
theorem dL_law_1098 : decode cL_law 1098 = .ok (.ireturn, 1) := by decide +kernel
theorem dL_law_1099 : decode cL_law 1099 = .ok (.aload_n 1, 1) := by decide +kernel
theorem dL_law_1100 : decode cL_law 1100 = .ok (.aload_n 0, 1) := by decide +kernel
theorem dL_law_1101 : decode cL_law 1101 = .ok (.iload_n 3, 1) := by decide +kernel
theorem dL_law_1102 : decode cL_law 1102 = .ok (.iconst 1, 1) := by decide +kernel
theorem dL_law_1103 : decode cL_law 1103 = .ok (.iadd, 1) := by decide +kernel
theorem dL_law_1104 : decode cL_law 1104 = .ok (.iaload, 1) := by decide +kernel
theorem dL_law_1105 : decode cL_law 1105 = .ok (.invokevirtual 119, 3) := by decide +kernel
theorem dL_law_1108 : decode cL_law 1108 = .ok (.aload_n 2, 1) := by decide +kernel
theorem dL_law_1109 : decode cL_law 1109 = .ok (.aload_n 0, 1) := by decide +kernel
theorem dL_law_1110 : decode cL_law 1110 = .ok (.iload_n 3, 1) := by decide +kernel
theorem dL_law_1111 : decode cL_law 1111 = .ok (.iconst 1, 1) := by decide +kernel
theorem dL_law_1112 : decode cL_law 1112 = .ok (.iadd, 1) := by decide +kernel
theorem dL_law_1113 : decode cL_law 1113 = .ok (.iaload, 1) := by decide +kernel
theorem dL_law_1114 : decode cL_law 1114 = .ok (.invokevirtual 122, 3) := by decide +kernel
theorem dL_law_1117 : decode cL_law 1117 = .ok (.if_icmp .eq 74, 3) := by decide +kernel
theorem dL_law_1120 : decode cL_law 1120 = .ok (.iconst 0, 1) := by decide +kernel
theorem dL_law_1121 : decode cL_law 1121 = .ok (.ireturn, 1) := by decide +kernel
theorem dL_law_1122 : decode cL_law 1122 = .ok (.aload_n 1, 1) := by decide +kernel
theorem dL_law_1123 : decode cL_law 1123 = .ok (.aload_n 0, 1) := by decide +kernel
theorem dL_law_1124 : decode cL_law 1124 = .ok (.iload_n 3, 1) := by decide +kernel
theorem dL_law_1125 : decode cL_law 1125 = .ok (.iconst 1, 1) := by decide +kernel
theorem dL_law_1126 : decode cL_law 1126 = .ok (.iadd, 1) := by decide +kernel
theorem dL_law_1127 : decode cL_law 1127 = .ok (.iaload, 1) := by decide +kernel
theorem dL_law_1128 : decode cL_law 1128 = .ok (.invokevirtual 123, 3) := by decide +kernel
theorem dL_law_1131 : decode cL_law 1131 = .ok (.aload_n 2, 1) := by decide +kernel
theorem dL_law_1132 : decode cL_law 1132 = .ok (.aload_n 0, 1) := by decide +kernel
theorem dL_law_1133 : decode cL_law 1133 = .ok (.iload_n 3, 1) := by decide +kernel
theorem dL_law_1134 : decode cL_law 1134 = .ok (.iconst 1, 1) := by decide +kernel
theorem dL_law_1135 : decode cL_law 1135 = .ok (.iadd, 1) := by decide +kernel
theorem dL_law_1136 : decode cL_law 1136 = .ok (.iaload, 1) := by decide +kernel
theorem dL_law_1137 : decode cL_law 1137 = .ok (.invokevirtual 126, 3) := by decide +kernel
theorem dL_law_1140 : decode cL_law 1140 = .ok (.if_icmp .eq 51, 3) := by decide +kernel
theorem dL_law_1143 : decode cL_law 1143 = .ok (.iconst 0, 1) := by decide +kernel
theorem dL_law_1144 : decode cL_law 1144 = .ok (.ireturn, 1) := by decide +kernel
theorem dL_law_1145 : decode cL_law 1145 = .ok (.aload_n 1, 1) := by decide +kernel
theorem dL_law_1146 : decode cL_law 1146 = .ok (.aload_n 0, 1) := by decide +kernel
theorem dL_law_1147 : decode cL_law 1147 = .ok (.iload_n 3, 1) := by decide +kernel
theorem dL_law_1148 : decode cL_law 1148 = .ok (.iconst 1, 1) := by decide +kernel
theorem dL_law_1149 : decode cL_law 1149 = .ok (.iadd, 1) := by decide +kernel
theorem dL_law_1150 : decode cL_law 1150 = .ok (.iaload, 1) := by decide +kernel
theorem dL_law_1151 : decode cL_law 1151 = .ok (.invokevirtual 127, 3) := by decide +kernel
theorem dL_law_1154 : decode cL_law 1154 = .ok (.aload_n 2, 1) := by decide +kernel
theorem dL_law_1155 : decode cL_law 1155 = .ok (.aload_n 0, 1) := by decide +kernel
theorem dL_law_1156 : decode cL_law 1156 = .ok (.iload_n 3, 1) := by decide +kernel
theorem dL_law_1157 : decode cL_law 1157 = .ok (.iconst 1, 1) := by decide +kernel
theorem dL_law_1158 : decode cL_law 1158 = .ok (.iadd, 1) := by decide +kernel
theorem dL_law_1159 : decode cL_law 1159 = .ok (.iaload, 1) := by decide +kernel
theorem dL_law_1160 : decode cL_law 1160 = .ok (.invokevirtual 130, 3) := by decide +kernel
theorem dL_law_1163 : decode cL_law 1163 = .ok (.if_icmp .eq 28, 3) := by decide +kernel
theorem dL_law_1166 : decode cL_law 1166 = .ok (.iconst 0, 1) := by decide +kernel
theorem dL_law_1167 : decode cL_law 1167 = .ok (.ireturn, 1) := by decide +kernel
theorem dL_law_1168 : decode cL_law 1168 = .ok (.aload_n 1, 1) := by decide +kernel
theorem dL_law_1169 : decode cL_law 1169 = .ok (.aload_n 0, 1) := by decide +kernel
theorem dL_law_1170 : decode cL_law 1170 = .ok (.iload_n 3, 1) := by decide +kernel
theorem dL_law_1171 : decode cL_law 1171 = .ok (.iconst 1, 1) := by decide +kernel
theorem dL_law_1172 : decode cL_law 1172 = .ok (.iadd, 1) := by decide +kernel
theorem dL_law_1173 : decode cL_law 1173 = .ok (.iaload, 1) := by decide +kernel
theorem dL_law_1174 : decode cL_law 1174 = .ok (.invokevirtual 131, 3) := by decide +kernel
theorem dL_law_1177 : decode cL_law 1177 = .ok (.aload_n 2, 1) := by decide +kernel
theorem dL_law_1178 : decode cL_law 1178 = .ok (.aload_n 0, 1) := by decide +kernel
theorem dL_law_1179 : decode cL_law 1179 = .ok (.iload_n 3, 1) := by decide +kernel
theorem dL_law_1180 : decode cL_law 1180 = .ok (.iconst 1, 1) := by decide +kernel
theorem dL_law_1181 : decode cL_law 1181 = .ok (.iadd, 1) := by decide +kernel
theorem dL_law_1182 : decode cL_law 1182 = .ok (.iaload, 1) := by decide +kernel
theorem dL_law_1183 : decode cL_law 1183 = .ok (.invokevirtual 134, 3) := by decide +kernel
theorem dL_law_1186 : decode cL_law 1186 = .ok (.if_icmp .eq 5, 3) := by decide +kernel
theorem dL_law_1189 : decode cL_law 1189 = .ok (.iconst 0, 1) := by decide +kernel
theorem dL_law_1190 : decode cL_law 1190 = .ok (.ireturn, 1) := by decide +kernel
theorem dL_law_1191 : decode cL_law 1191 = .ok (.iinc 3 6, 3) := by decide +kernel
theorem dL_law_1194 : decode cL_law 1194 = .ok (.goto (-1176), 3) := by decide +kernel
theorem dL_law_1197 : decode cL_law 1197 = .ok (.iconst 1, 1) := by decide +kernel
theorem dL_law_1198 : decode cL_law 1198 = .ok (.ireturn, 1) := by decide +kernel
end
section
/-- the tables' words that go with a call -/
def TB : List Cond := lw_tbl.filter goodWord
theorem TB_m {w : Cond} (h : w ∈ lw_tbl) (g : goodWord w = true) : w ∈ TB := List.mem_filter.mpr ⟨h, g⟩
theorem TB_l {w : Cond} (h : w ∈ TB) : w ∈ lw_tbl := (List.mem_filter.mp h).1
theorem tb1 {w : Cond} (i : Nat) (h : tables_1_1[i]? = some w) (g : goodWord w = true) : w ∈ TB := TB_m (List.mem_append_right _ (List.mem_append_left _ (List.mem_of_getElem? h))) g
theorem tb2 {w : Cond} (i : Nat) (h : tables_1_2[i]? = some w) (g : goodWord w = true) : w ∈ TB := TB_m (List.mem_append_right _ (List.mem_append_right _ (List.mem_append_left _ (List.mem_of_getElem? h)))) g
theorem tb3 {w : Cond} (i : Nat) (h : tables_1_3[i]? = some w) (g : goodWord w = true) : w ∈ TB := TB_m (List.mem_append_right _ (List.mem_append_right _ (List.mem_append_right _ (List.mem_append_left _ (List.mem_of_getElem? h))))) g
theorem tb4 {w : Cond} (i : Nat) (h : tables_1_4[i]? = some w) (g : goodWord w = true) : w ∈ TB := TB_m (List.mem_append_right _ (List.mem_append_right _ (List.mem_append_right _ (List.mem_append_right _ (List.mem_append_left _ (List.mem_of_getElem? h)))))) g
theorem tb5 {w : Cond} (i : Nat) (h : tables_1_5[i]? = some w) (g : goodWord w = true) : w ∈ TB := TB_m (List.mem_append_right _ (List.mem_append_right _ (List.mem_append_right _ (List.mem_append_right _ (List.mem_append_right _ (List.mem_of_getElem? h)))))) g
theorem tb0 {y : MethodName} (i : Nat) {n : Nat} (h : lw_privs[i]? = some (y, n)) : Cond.selects y.cls y y ∈ TB := TB_m (List.mem_append_left _ (List.mem_map.mpr ⟨(y, n), List.mem_of_getElem? h, rfl⟩)) rfl
theorem tbX {ws : List Cond} (h : ∀ w ∈ ws, w ∈ lw_tbl) (g : ws.all goodWord = true) : ∀ w ∈ ws, w ∈ TB := fun w hw => TB_m (h w hw) (List.all_eq_true.mp g w hw)
theorem tbX0 : ∀ w ∈ wsX00, w ∈ TB := tbX inX0 (by decide +kernel)
theorem tbX1 : ∀ w ∈ wsX10, w ∈ TB := tbX inX1 (by decide +kernel)
theorem tbX2 : ∀ w ∈ wsX20, w ∈ TB := tbX inX2 (by decide +kernel)
theorem tbX3 : ∀ w ∈ wsX30, w ∈ TB := tbX inX3 (by decide +kernel)
theorem tbX4 : ∀ w ∈ wsX40, w ∈ TB := tbX inX4 (by decide +kernel)
theorem tbX5 : ∀ w ∈ wsX50, w ∈ TB := tbX inX5 (by decide +kernel)
theorem tbX6 : ∀ w ∈ wsX60, w ∈ TB := tbX inX6 (by decide +kernel)
theorem tbX7 : ∀ w ∈ wsX70, w ∈ TB := tbX inX7 (by decide +kernel)
theorem tbX8 : ∀ w ∈ wsX80, w ∈ TB := tbX inX8 (by decide +kernel)
/-! SCALARS AND ROWS OF ONE SYSTEM: every cell has a number; the world of a system is a list made of its layout. -/
abbrev SS : Type := (Nat → Int32) × (Nat → Nat → Int32)
abbrev LY : Type := List (Nat × List (Nat ⊕ Nat)) × List (Nat × Bool)
def gA (S : SS) (q n : Nat) (i : Int32) : Option Int32 := if i < 0 ∨ n ≤ i.toNatClampNeg then none else some (S.2 q i.toNatClampNeg)
def pA (S : SS) (q n : Nat) (i v : Int32) : Option SS := if i < 0 ∨ n ≤ i.toNatClampNeg then none else some (S.1, fun j => if j = q then upd (S.2 q) i.toNatClampNeg v else S.2 j)
def pI (S : SS) (k : Nat) (v : Int32) : SS := (upd S.1 k v, S.2)
def bb {α β : Type} (o : Option β) (f : β → Option α) : Option α := match o with
  | some x => f x
  | none => none
def b2 {α : Type} (o : Option (Int32 × SS)) (f : Int32 → SS → Option α) : Option α := match o with
  | some (r, S) => f r S
  | none => none
def rZ (v : Int32) (S : SS) : Option (Int32 × SS) := if v = 0 ∨ v = 1 then some (v, S) else none
def dv (x y : Int32) : Option Int32 := if y = 0 then none else some (x / y)
def rm (x y : Int32) : Option Int32 := if y = 0 then none else some (x - x / y * y)
theorem bb_some {α β : Type} {o : Option β} {f : β → Option α} {b : α} (h : bb o f = some b) : ∃ a, o = some a ∧ f a = some b := by
  cases o with
  | none => cases h
  | some a => exact ⟨a, rfl, h⟩
theorem b2_some {α : Type} {o : Option (Int32 × SS)} {f : Int32 → SS → Option α} {b : α} (h : b2 o f = some b) : ∃ r S, o = some (r, S) ∧ f r S = some b := by
  cases o with
  | none => cases h
  | some a => exact ⟨a.1, a.2, rfl, h⟩
theorem rZ_some {v r : Int32} {S S1 : SS} (h : rZ v S = some (r, S1)) : (v = 0 ∨ v = 1) ∧ v = r ∧ S = S1 := by
  unfold rZ at h
  by_cases c : v = 0 ∨ v = 1
  · rw [if_pos c] at h
    cases h
    exact ⟨c, rfl, rfl⟩
  · rw [if_neg c] at h
    cases h
theorem dv_some {x y v : Int32} (h : dv x y = some v) : ¬ y = 0 ∧ v = x / y := by
  unfold dv at h
  by_cases c : y = 0
  · rw [if_pos c] at h
    cases h
  · rw [if_neg c] at h
    cases h
    exact ⟨c, rfl⟩
theorem rm_some {x y v : Int32} (h : rm x y = some v) : ¬ y = 0 ∧ v = x - x / y * y := by
  unfold rm at h
  by_cases c : y = 0
  · rw [if_pos c] at h
    cases h
  · rw [if_neg c] at h
    cases h
    exact ⟨c, rfl⟩
theorem it_d {α : Type} {c : Prop} [Decidable c] {a b x : α} (h : (if c then a else b) = x) : (c → a = x) ∧ (¬ c → b = x) := by
  by_cases hc : c
  · rw [if_pos hc] at h
    exact ⟨fun _ => h, fun n => absurd hc n⟩
  · rw [if_neg hc] at h
    exact ⟨fun n => absurd n hc, fun _ => h⟩
theorem gA_some {S : SS} {q n : Nat} {i v : Int32} (h : gA S q n i = some v) : vp_in i n ∧ v = S.2 q i.toNatClampNeg := by
  unfold gA at h
  by_cases c : i < 0 ∨ n ≤ i.toNatClampNeg
  · rw [if_pos c] at h
    cases h
  · rw [if_neg c] at h
    cases h
    exact ⟨c, rfl⟩
theorem pA_some {S S1 : SS} {q n : Nat} {i v : Int32} (h : pA S q n i v = some S1) : vp_in i n ∧ S1 = (S.1, fun j => if j = q then upd (S.2 q) i.toNatClampNeg v else S.2 j) := by
  unfold pA at h
  by_cases c : i < 0 ∨ n ≤ i.toNatClampNeg
  · rw [if_pos c] at h
    cases h
  · rw [if_neg c] at h
    cases h
    exact ⟨c, rfl⟩
theorem some_pr {r r1 : Int32} {S S1 : SS} (h : some (r, S) = some (r1, S1)) : r = r1 ∧ S = S1 := by
  cases h
  exact ⟨rfl, rfl⟩
/-! THE WORLD OF A LAYOUT -/
def wF (ad : Nat → Nat) (S : SS) (d : Nat ⊕ Nat) : Value := match d with
  | .inl r => .ref (ad r)
  | .inr k => .int (S.1 k)
def wO (ad : Nat → Nat) (S : SS) (q : (Nat × List (Nat ⊕ Nat)) × Nat) : Nat × va_E := (ad q.2, .inr (q.1.1, q.1.2.map (wF ad S)))
def wA (ad : Nat → Nat) (cI cZ : ClassId) (S : SS) (n0 : Nat) (q : (Nat × Bool) × Nat) : Nat × va_E := (ad (n0 + q.2), .inl (if q.1.2 then cZ else cI, q.1.1, .inl (S.2 (n0 + q.2))))
def wW (ly : LY) (ad : Nat → Nat) (cI cZ : ClassId) (S : SS) : va_W := ly.1.zipIdx.map (wO ad S) ++ ly.2.zipIdx.map (wA ad cI cZ S ly.1.length)
theorem wW_len (ly : LY) (ad : Nat → Nat) (cI cZ : ClassId) (S : SS) : (wW ly ad cI cZ S).length = ly.1.length + ly.2.length := by simp [wW]
theorem wW_get (ly : LY) (ad : Nat → Nat) (cI cZ : ClassId) (S : SS) (k : Nat) : (wW ly ad cI cZ S)[k]? = if k < ly.1.length then (ly.1[k]?).map (fun o => ((ad k, .inr (o.1, o.2.map (wF ad S))) : Nat × va_E)) else (ly.2[k - ly.1.length]?).map (fun a => ((ad k, .inl (if a.2 then cZ else cI, a.1, .inl (S.2 k))) : Nat × va_E)) := by
  unfold wW
  by_cases h : k < ly.1.length
  · rw [if_pos h, List.getElem?_append_left (by simpa using h), List.getElem?_map, List.getElem?_zipIdx]
    cases ly.1[k]? <;> simp [wO]
  · have h' : ly.1.length ≤ k := Nat.le_of_not_lt h
    have e : ly.1.length + (k - ly.1.length) = k := by omega
    rw [if_neg h, List.getElem?_append_right (by simpa using h'), List.getElem?_map, List.getElem?_zipIdx, List.length_map, List.length_zipIdx]
    cases ly.2[k - ly.1.length]? with
    | none => rfl
    | some a =>
      show some (wA ad cI cZ S ly.1.length (a, 0 + (k - ly.1.length))) = some _
      rw [Nat.zero_add]
      unfold wA
      dsimp only
      rw [e]
theorem wW_obj {ly : LY} {ad : Nat → Nat} {cI cZ : ClassId} {S : SS} {i : Nat} {o : Nat × List (Nat ⊕ Nat)} (h : ly.1[i]? = some o) : (wW ly ad cI cZ S)[i]? = some (ad i, .inr (o.1, o.2.map (wF ad S))) := by
  rw [wW_get, if_pos (List.getElem?_eq_some_iff.mp h).1, h]
  rfl
theorem wW_arr {ly : LY} {ad : Nat → Nat} {cI cZ : ClassId} {S : SS} {q : Nat} {a : Nat × Bool} (hq : ly.1.length ≤ q) (h : ly.2[q - ly.1.length]? = some a) : (wW ly ad cI cZ S)[q]? = some (ad q, .inl (if a.2 then cZ else cI, a.1, .inl (S.2 q))) := by
  rw [wW_get, if_neg (Nat.not_lt.mpr hq), h]
  rfl
theorem wF_arr (ad : Nat → Nat) (S : SS) (g : Nat → Nat → Int32) : wF ad (S.1, g) = wF ad S := by
  funext d
  cases d <;> rfl
theorem wW_setA {ly : LY} {ad : Nat → Nat} {cI cZ : ClassId} {S : SS} {q : Nat} {a : Nat × Bool} {f : Nat → Int32} (hq : ly.1.length ≤ q) (h : ly.2[q - ly.1.length]? = some a) : (wW ly ad cI cZ S).set q (ad q, .inl (if a.2 then cZ else cI, a.1, .inl f)) = wW ly ad cI cZ (S.1, fun j => if j = q then f else S.2 j) := by
  apply List.ext_getElem?
  intro k
  rw [List.getElem?_set, wW_get, wW_get]
  have hl := (List.getElem?_eq_some_iff.mp h).1
  by_cases c : q = k
  · subst c
    rw [if_pos rfl, if_pos (by rw [wW_len]; omega), if_neg (Nat.not_lt.mpr hq), h]
    simp
  · rw [if_neg c]
    by_cases d : k < ly.1.length
    · rw [if_pos d, if_pos d, show wF ad (S.1, fun j => if j = q then f else S.2 j) = wF ad S from wF_arr ad S _]
    · rw [if_neg d, if_neg d]
      have c2 : ¬ k = q := fun e => c e.symm
      dsimp only
      rw [if_neg c2]
def lyOk (ly : LY) (sc : List (Nat × Nat)) : Prop := ∀ (i : Nat) (o : Nat × List (Nat ⊕ Nat)) (k κ : Nat), ly.1[i]? = some o → o.2[k]? = some (.inr κ) → sc[κ]? = some (i, k)
def lyB (ly : LY) (sc : List (Nat × Nat)) : Bool := ly.1.zipIdx.all fun q => q.1.2.zipIdx.all fun d => match d.1 with
  | .inl _ => true
  | .inr κ => decide (sc[κ]? = some (q.2, d.2))
theorem lyOk_of {ly : LY} {sc : List (Nat × Nat)} (h : lyB ly sc = true) : lyOk ly sc := by
  intro i o k κ hi hk
  have h1 := List.all_eq_true.mp h (o, i) (List.mem_of_getElem? (i := i) (by rw [List.getElem?_zipIdx, hi]; simp))
  have h2 := List.all_eq_true.mp h1 (.inr κ, k) (List.mem_of_getElem? (i := k) (by rw [List.getElem?_zipIdx, hk]; simp))
  simpa using h2
theorem wF_upd {ad : Nat → Nat} {S : SS} {κ : Nat} {v : Int32} {d : Nat ⊕ Nat} (h : d ≠ .inr κ) : wF ad (pI S κ v) d = wF ad S d := by
  cases d with
  | inl r => rfl
  | inr k =>
    have : k ≠ κ := fun e => h (by rw [e])
    show Value.int (upd S.1 κ v k) = _
    simp [upd, this, wF]
theorem wW_setI {ly : LY} {sc : List (Nat × Nat)} {ad : Nat → Nat} {cI cZ : ClassId} {S : SS} {i k κ : Nat} {o : Nat × List (Nat ⊕ Nat)} {v : Int32} (hu : lyOk ly sc) (h : ly.1[i]? = some o) (hk : o.2[k]? = some (.inr κ)) : (wW ly ad cI cZ S).set i (ad i, .inr (o.1, (o.2.map (wF ad S)).set k (.int v))) = wW ly ad cI cZ (pI S κ v) := by
  apply List.ext_getElem?
  intro q
  have hs := hu i o k κ h hk
  have hl := (List.getElem?_eq_some_iff.mp h).1
  rw [List.getElem?_set, wW_get, wW_get]
  by_cases c : i = q
  · subst c
    rw [if_pos rfl, if_pos (by rw [wW_len]; omega), if_pos hl, h]
    have key : (o.2.map (wF ad S)).set k (.int v) = o.2.map (wF ad (pI S κ v)) := ?_
    · rw [key]; rfl
    apply List.ext_getElem?
    intro j
    rw [List.getElem?_set, List.getElem?_map, List.getElem?_map]
    by_cases d : k = j
    · subst d
      have hkl : k < (o.2.map (wF ad S)).length := by rw [List.length_map]; exact (List.getElem?_eq_some_iff.mp hk).1
      rw [if_pos rfl, if_pos hkl, hk]
      show some (Value.int v) = some (Value.int (upd S.1 κ v κ))
      simp [upd]
    · rw [if_neg d]
      cases hj : o.2[j]? with
      | none => rfl
      | some x =>
        show some _ = some _
        rw [wF_upd]
        intro e
        subst e
        have := hu i o j κ h hj
        rw [hs] at this
        cases this
        exact d rfl
  · rw [if_neg c]
    by_cases d : q < ly.1.length
    · rw [if_pos d, if_pos d]
      cases hq : ly.1[q]? with
      | none => rfl
      | some o2 =>
        have key : o2.2.map (wF ad S) = o2.2.map (wF ad (pI S κ v)) := ?_
        · show some (ad q, Sum.inr (o2.1, o2.2.map (wF ad S))) = some (ad q, Sum.inr (o2.1, o2.2.map (wF ad (pI S κ v))))
          rw [key]
        apply List.map_congr_left
        intro x hx
        rw [wF_upd]
        intro e
        subst e
        obtain ⟨j, hj⟩ := List.getElem?_of_mem hx
        have := hu q o2 j κ hq hj
        rw [hs] at this
        cases this
        exact c rfl
    · rw [if_neg d, if_neg d]
      rfl
/-! THE CONTEXT OF A METHOD, THE WORLD AT A HEAP, THE ROOM BY LEVELS -/
def rmK (k : Nat) : Room := { frames := k, cells := 0, slots := 0, locals := 60 * k }
abbrev tyL (cI cZ : ClassId) : List (ClassId × FieldType) := [(cI, .int), (cZ, .boolean)]
def MC (p : Program) (s : State) (m : MethodId) (args : Array Value) (meth : Method) (c : Code) (cc : ByteArray) (nL : Nat) (own : String) (D : va_G) (cI cZ : ClassId) (A : Nat → Prop) (ret : Option FieldType) : Prop :=
  p.tables.exec = Jvm.exec ∧ c.code = cc ∧ c.maxLocals = nL ∧ s.vm.findClass own = some m.cls ∧ (∀ w ∈ TB, w.before args s = true) ∧ va_K D vwCl (tyL cI cZ) s ∧ meth.locks = false ∧ meth.sig.returnType = ret ∧ ∀ q, s.heap.size ≤ q → A q
def WH (D : va_G) (A : Nat → Prop) (H0 : Heap) (ly : LY) (ad : Nat → Nat) (cI cZ : ClassId) (S : SS) (H : Heap) (locs : List Loc) : Prop :=
  va_P D vwCl (wW ly ad cI cZ S) H ∧ va_D A (wW ly ad cI cZ S) ∧ va_S A H0 H locs
def GI (ly : LY) (own : String) (idx i κ : Nat) : Prop := ∃ (ci k : Nat) (fs : List (Nat ⊕ Nat)) (C : String) (T : u_T) (N : Nat), ly.1[i]? = some (ci, fs) ∧ fs[k]? = some (.inr κ) ∧ vwCl[ci]? = some (C, T, N) ∧ k < N ∧ (∀ w ∈ u_ws C T N, w ∈ TB) ∧ Cond.fieldLink own idx (T k).1 (T k).2.1 (T k).2.2.1 ∈ TB
def GR (ly : LY) (own : String) (idx i r : Nat) : Prop := ∃ (ci k : Nat) (fs : List (Nat ⊕ Nat)) (C : String) (T : u_T) (N : Nat), ly.1[i]? = some (ci, fs) ∧ fs[k]? = some (.inl r) ∧ vwCl[ci]? = some (C, T, N) ∧ k < N ∧ (∀ w ∈ u_ws C T N, w ∈ TB) ∧ Cond.fieldLink own idx (T k).1 (T k).2.1 (T k).2.2.1 ∈ TB
def GP (ly : LY) (own : String) (idx i κ : Nat) (ty : FieldType) : Prop := ∃ (sc : List (Nat × Nat)) (ci k : Nat) (fs : List (Nat ⊕ Nat)) (C : String) (T : u_T) (N : Nat) (ty0 : Nat → FieldType), lyOk ly sc ∧ ly.1[i]? = some (ci, fs) ∧ fs[k]? = some (.inr κ) ∧ vwCl[ci]? = some (C, T, N) ∧ k < N ∧ (∀ w ∈ u_ws C T N, w ∈ TB) ∧ Cond.fieldLink own idx (T k).1 (T k).2.1 (T k).2.2.1 ∈ TB ∧ (T k).2.2.2 = false ∧ parseFieldDescriptor (T k).2.2.1 = some ty ∧ (∀ k, k < N → parseFieldDescriptor (T k).2.2.1 = some (ty0 k)) ∧ (∀ a, a < N → ∀ b, b < N → a ≠ b → (T a).2.1 ≠ (T b).2.1)
def AL (ly : LY) (q n : Nat) (b : Bool) : Prop := ly.1.length ≤ q ∧ ly.2[q - ly.1.length]? = some (n, b)
section ROWS
variable {p : Program} {l : Launch} {e : Env} {R : Room} {s : State} {m : MethodId} {args : Array Value} {below : List Frame} {meth : Method} {c : Code} {H : Heap} {locs : List Loc} {cells slots : Nat} {Q : State → Prop}
variable {cc : ByteArray} {nL pc : Nat} {own : String} {D : va_G} {cI cZ : ClassId} {A : Nat → Prop} {ret : Option FieldType} {ly : LY} {ad : Nat → Nat} {S : SS} {ls : Array Slot} {rest : List Value}
theorem x_getI {idx i κ : Nat} (C : MC p s m args meth c cc nL own D cI cZ A ret) (h : WH D A s.heap ly ad cI cZ S H locs) (g : GI ly own idx i κ) (hdg : decode cc pc = .ok (.getfield idx, 3))
    (kk : W p l e R s m args below meth c H locs cells slots Q (F0 m (pc + 3) ls (.int (S.1 κ) :: rest))) : W p l e R s m args below meth c H locs cells slots Q (F0 m pc ls (.ref (ad i) :: rest)) := by
  obtain ⟨hx, hb, hml, hown, hts, hK, hlk, hr, hA⟩ := C
  obtain ⟨ci, k, fs, Cn, T, N, h1, h2, h3, h4, h5, h6⟩ := g
  exact va_get (v := .int (S.1 κ)) hx hb hts h5 hown hK h.1 i (wW_obj h1) h3 k h4 (hts _ h6) (fun _ h9 => h9) (by rw [List.getElem?_map, h2]; rfl) hdg kk
theorem x_getR {idx i r : Nat} (C : MC p s m args meth c cc nL own D cI cZ A ret) (h : WH D A s.heap ly ad cI cZ S H locs) (g : GR ly own idx i r) (hdg : decode cc pc = .ok (.getfield idx, 3))
    (kk : W p l e R s m args below meth c H locs cells slots Q (F0 m (pc + 3) ls (.ref (ad r) :: rest))) : W p l e R s m args below meth c H locs cells slots Q (F0 m pc ls (.ref (ad i) :: rest)) := by
  obtain ⟨hx, hb, hml, hown, hts, hK, hlk, hr, hA⟩ := C
  obtain ⟨ci, k, fs, Cn, T, N, h1, h2, h3, h4, h5, h6⟩ := g
  exact va_get (v := .ref (ad r)) hx hb hts h5 hown hK h.1 i (wW_obj h1) h3 k h4 (hts _ h6) (fun _ h9 => h9) (by rw [List.getElem?_map, h2]; rfl) hdg kk
theorem x_putI {idx i κ : Nat} {ty : FieldType} {v : Int32} (C : MC p s m args meth c cc nL own D cI cZ A ret) (h : WH D A s.heap ly ad cI cZ S H locs) (g : GP ly own idx i κ ty) (hn : narrow ty (.int v) = .int v) (hf : fits ty (.int v) = true) (hdg : decode cc pc = .ok (.putfield idx, 3))
    (kk : ∀ (H1 : Heap) (locs1 : List Loc), WH D A s.heap ly ad cI cZ (pI S κ v) H1 locs1 → W p l e R s m args below meth c H1 locs1 cells slots Q (F0 m (pc + 3) ls rest)) : W p l e R s m args below meth c H locs cells slots Q (F0 m pc ls (.int v :: .ref (ad i) :: rest)) := by
  obtain ⟨hx, hb, hml, hown, hts, hK, hlk, hr, hA⟩ := C
  obtain ⟨sc, ci, k, fs, Cn, T, N, ty0, h0, h1, h2, h3, h4, h5, h6, h7, h8, h9, h10⟩ := g
  refine va_put hx hb hts h5 ty0 h9 h10 hown hK h.1 h.2.1 h.2.2 i (wW_obj h1) h3 k h4 (hts _ h6) (fun _ z => z) h7 h8 hn hf (by rw [List.length_map]; exact (List.getElem?_eq_some_iff.mp h2).1) hdg (fun H1 locs1 a1 a2 a3 => kk H1 locs1 ⟨?_, ?_, a3⟩)
  · rw [wW_setI h0 h1 h2] at a1; exact a1
  · rw [wW_setI h0 h1 h2] at a2; exact a2
theorem x_ald {q n : Nat} {i v : Int32} (C : MC p s m args meth c cc nL own D cI cZ A ret) (h : WH D A s.heap ly ad cI cZ S H locs) (a : AL ly q n false) (hv : gA S q n i = some v) (hdg : decode cc pc = .ok (.iaload, 1))
    (kk : W p l e R s m args below meth c H locs cells slots Q (F0 m (pc + 1) ls (.int v :: rest))) : W p l e R s m args below meth c H locs cells slots Q (F0 m pc ls (.int i :: .ref (ad q) :: rest)) := by
  obtain ⟨hx, hb, hml, hown, hts, hK, hlk, hr, hA⟩ := C
  obtain ⟨h1, h2⟩ := gA_some hv
  subst h2
  exact va_iald hx hb hK h.1 q 0 (wW_arr a.1 a.2) rfl h1 hdg kk
theorem x_zald {q n : Nat} {i v : Int32} (C : MC p s m args meth c cc nL own D cI cZ A ret) (h : WH D A s.heap ly ad cI cZ S H locs) (a : AL ly q n true) (hv : gA S q n i = some v) (hdg : decode cc pc = .ok (.baload, 1))
    (kk : W p l e R s m args below meth c H locs cells slots Q (F0 m (pc + 1) ls (.int v :: rest))) : W p l e R s m args below meth c H locs cells slots Q (F0 m pc ls (.int i :: .ref (ad q) :: rest)) := by
  obtain ⟨hx, hb, hml, hown, hts, hK, hlk, hr, hA⟩ := C
  obtain ⟨h1, h2⟩ := gA_some hv
  subst h2
  exact va_zald hx hb hK h.1 q 1 (wW_arr a.1 a.2) rfl h1 hdg kk
theorem x_ast {q n : Nat} {i v : Int32} {S1 : SS} (C : MC p s m args meth c cc nL own D cI cZ A ret) (h : WH D A s.heap ly ad cI cZ S H locs) (a : AL ly q n false) (hv : pA S q n i v = some S1) (hdg : decode cc pc = .ok (.iastore, 1))
    (kk : ∀ (H1 : Heap) (locs1 : List Loc), WH D A s.heap ly ad cI cZ S1 H1 locs1 → W p l e R s m args below meth c H1 locs1 cells slots Q (F0 m (pc + 1) ls rest)) : W p l e R s m args below meth c H locs cells slots Q (F0 m pc ls (.int v :: .int i :: .ref (ad q) :: rest)) := by
  obtain ⟨hx, hb, hml, hown, hts, hK, hlk, hr, hA⟩ := C
  obtain ⟨h1, h2⟩ := pA_some hv
  subst h2
  refine va_iast hx hb hK h.1 h.2.1 h.2.2 q 0 (wW_arr a.1 a.2) rfl h1 hdg (fun H1 locs1 a1 a2 a3 => kk H1 locs1 ⟨?_, ?_, a3⟩)
  · have e := wW_setA (ad := ad) (cI := cI) (cZ := cZ) (S := S) (f := upd (S.2 q) i.toNatClampNeg v) a.1 a.2
    rw [← e]; exact a1
  · have e := wW_setA (ad := ad) (cI := cI) (cZ := cZ) (S := S) (f := upd (S.2 q) i.toNatClampNeg v) a.1 a.2
    rw [← e]; exact a2
theorem x_zast {q n : Nat} {i v : Int32} {S1 : SS} (C : MC p s m args meth c cc nL own D cI cZ A ret) (h : WH D A s.heap ly ad cI cZ S H locs) (a : AL ly q n true) (hv : pA S q n i (vp_nar .boolean v) = some S1) (hdg : decode cc pc = .ok (.bastore, 1))
    (kk : ∀ (H1 : Heap) (locs1 : List Loc), WH D A s.heap ly ad cI cZ S1 H1 locs1 → W p l e R s m args below meth c H1 locs1 cells slots Q (F0 m (pc + 1) ls rest)) : W p l e R s m args below meth c H locs cells slots Q (F0 m pc ls (.int v :: .int i :: .ref (ad q) :: rest)) := by
  obtain ⟨hx, hb, hml, hown, hts, hK, hlk, hr, hA⟩ := C
  obtain ⟨h1, h2⟩ := pA_some hv
  subst h2
  refine va_zast hx hb hK h.1 h.2.1 h.2.2 q 1 (wW_arr a.1 a.2) rfl h1 hdg (fun H1 locs1 a1 a2 a3 => kk H1 locs1 ⟨?_, ?_, a3⟩)
  · have e := wW_setA (ad := ad) (cI := cI) (cZ := cZ) (S := S) (f := upd (S.2 q) i.toNatClampNeg (vp_nar .boolean v)) a.1 a.2
    rw [← e]; exact a1
  · have e := wW_setA (ad := ad) (cI := cI) (cZ := cZ) (S := S) (f := upd (S.2 q) i.toNatClampNeg (vp_nar .boolean v)) a.1 a.2
    rw [← e]; exact a2
theorem x_alen {q n : Nat} {v : Int32} (C : MC p s m args meth c cc nL own D cI cZ A ret) (h : WH D A s.heap ly ad cI cZ S H locs) (a : AL ly q n false) (hv : Int32.ofNat n = v) (hdg : decode cc pc = .ok (.arraylength, 1))
    (kk : W p l e R s m args below meth c H locs cells slots Q (F0 m (pc + 1) ls (.int v :: rest))) : W p l e R s m args below meth c H locs cells slots Q (F0 m pc ls (.ref (ad q) :: rest)) := by
  obtain ⟨hx, hb, hml, hown, hts, hK, hlk, hr, hA⟩ := C
  exact va_alen hx hb hK h.1 q 0 (wW_arr a.1 a.2) rfl hv hdg kk
end ROWS
/-! CONTRACTS -/
def Pre0 (D : va_G) (ly : LY) (ad : Nat → Nat) (cI cZ : ClassId) (S : SS) (sz : Nat) (U : State) : Prop := U.heap.size = sz ∧ va_P D vwCl (wW ly ad cI cZ S) U.heap ∧ va_K D vwCl (tyL cI cZ) U ∧ va_D (fun _ => True) (wW ly ad cI cZ S)
def Bf (D : va_G) (ly : LY) (ad : Nat → Nat) (cI cZ : ClassId) (A : Nat → Prop) (S : SS) (t : State) : Prop := va_P D vwCl (wW ly ad cI cZ S) t.heap ∧ va_K D vwCl (tyL cI cZ) t ∧ va_D A (wW ly ad cI cZ S)
def Qi (D : va_G) (ly : LY) (ad : Nat → Nat) (cI cZ : ClassId) (A : Nat → Prop) (r : Int32) (S : SS) : Array Value → State → Outcome → State → Prop := va_Qi (fun r1 S1 => r1 = r ∧ S1 = S) (Bf D ly ad cI cZ A) A
def Qv (D : va_G) (ly : LY) (ad : Nat → Nat) (cI cZ : ClassId) (A : Nat → Prop) (S : SS) : Array Value → State → Outcome → State → Prop := va_Qv (fun S1 => S1 = S) (Bf D ly ad cI cZ A) A
def MI (l : Launch) (D : va_G) (ly : LY) (ad : Nat → Nat) (cI cZ : ClassId) (y : MethodName) (cc : ByteArray) (maxL : Nat) (ret : Option FieldType) (k : Nat) (av : List Value) (S : SS) (r : Int32) (S1 : SS) : Prop :=
  ∀ sz, Met l y (.code y cc maxL ret :: TB) (rmK k) (va_Pc av (Pre0 D ly ad cI cZ S sz)) (Qi D ly ad cI cZ (va_A (wW ly ad cI cZ S) sz) r S1) 0 0 (va_A (wW ly ad cI cZ S) sz)
def MV (l : Launch) (D : va_G) (ly : LY) (ad : Nat → Nat) (cI cZ : ClassId) (y : MethodName) (cc : ByteArray) (maxL : Nat) (k : Nat) (av : List Value) (S : SS) (S1 : SS) : Prop :=
  ∀ sz, Met l y (.code y cc maxL none :: TB) (rmK k) (va_Pc av (Pre0 D ly ad cI cZ S sz)) (Qv D ly ad cI cZ (va_A (wW ly ad cI cZ S) sz) S1) 0 0 (va_A (wW ly ad cI cZ S) sz)
theorem blind0 {D : va_G} {ly : LY} {ad : Nat → Nat} {cI cZ : ClassId} {S : SS} {sz : Nat} {av : List Value} : FrameBlind (va_Pc av (Pre0 D ly ad cI cZ S sz)) := fun a U g mk q => by
  obtain ⟨q0, q1, qP, qK, qD⟩ := q
  exact ⟨q0, q1, qP, va_K.moved (u := U) (U := U.calling g mk a) (Vm.Alike.refl U.vm) qK, qD⟩
section STARTS
variable {l : Launch} {D : va_G} {ly : LY} {ad : Nat → Nat} {cI cZ : ClassId} {y : MethodName} {cc : ByteArray} {maxL k : Nat} {ret : Option FieldType} {av : List Value} {S S1 : SS} {r : Int32}
theorem x_startI (own : String) (hy : plainName y.cls = true) (hown : y.cls = own) (hle : (lg_sl av).length ≤ maxL)
    (body : ∀ (p : Program) (e : Env) (s : State) (m : MethodId) (below : List Frame) (meth : Method) (c : Code) (A : Nat → Prop), MC p s m av.toArray meth c cc maxL own D cI cZ A ret → WH D A s.heap ly ad cI cZ S s.heap [] → ∀ ls : Array Slot, lv_has ls maxL (lv_args 0 av) → W p l e (rmK k) s m av.toArray below meth c s.heap [] 0 0 (MQ below (Qi D ly ad cI cZ A r S1) av.toArray s 0 0 A) (F0 m 0 ls [])) : MI l D ly ad cI cZ y cc maxL ret k av S r S1 := by
  intro sz
  subst hown
  refine Met.ofW (cc := cc) (maxL := maxL) (ret := ret) hy rfl ?_
  intro p e s m args below meth c s₁ B hml hv
  obtain ⟨rfl, hsz, hP, hK, hD0⟩ := hv
  subst hsz
  have hts := atoms_spec (ws := .code y cc maxL ret :: TB) B.pre
  have hown : s.vm.findClass y.cls = some m.cls := findClass_of_methodNamed B.named
  have hl := lv_entry av (n := maxL) hle
  rw [lg_entry_eq]
  exact body p e s m below meth c _ ⟨B.exec, B.bytes, hml, hown, fun w hw => hts w (List.mem_cons_of_mem _ hw), hK, B.notSynchronized, B.returns, fun q h => Or.inr h⟩ ⟨hP, hD0.self (sz := s.heap.size), va_S.rf⟩ _ hl
theorem x_startV (own : String) (hy : plainName y.cls = true) (hown : y.cls = own) (hle : (lg_sl av).length ≤ maxL)
    (body : ∀ (p : Program) (e : Env) (s : State) (m : MethodId) (below : List Frame) (meth : Method) (c : Code) (A : Nat → Prop), MC p s m av.toArray meth c cc maxL own D cI cZ A none → WH D A s.heap ly ad cI cZ S s.heap [] → ∀ ls : Array Slot, lv_has ls maxL (lv_args 0 av) → W p l e (rmK k) s m av.toArray below meth c s.heap [] 0 0 (MQ below (Qv D ly ad cI cZ A S1) av.toArray s 0 0 A) (F0 m 0 ls [])) : MV l D ly ad cI cZ y cc maxL k av S S1 := by
  intro sz
  subst hown
  refine Met.ofW (cc := cc) (maxL := maxL) (ret := none) hy rfl ?_
  intro p e s m args below meth c s₁ B hml hv
  obtain ⟨rfl, hsz, hP, hK, hD0⟩ := hv
  subst hsz
  have hts := atoms_spec (ws := .code y cc maxL none :: TB) B.pre
  have hown : s.vm.findClass y.cls = some m.cls := findClass_of_methodNamed B.named
  have hl := lv_entry av (n := maxL) hle
  rw [lg_entry_eq]
  exact body p e s m below meth c _ ⟨B.exec, B.bytes, hml, hown, fun w hw => hts w (List.mem_cons_of_mem _ hw), hK, B.notSynchronized, B.returns, fun q h => Or.inr h⟩ ⟨hP, hD0.self (sz := s.heap.size), va_S.rf⟩ _ hl
end STARTS
section ENDS
variable {p : Program} {l : Launch} {e : Env} {R : Room} {s : State} {m : MethodId} {args : Array Value} {below : List Frame} {meth : Method} {c : Code} {H : Heap} {locs : List Loc}
variable {cc : ByteArray} {nL pc : Nat} {own : String} {D : va_G} {cI cZ : ClassId} {A : Nat → Prop} {ly : LY} {ad : Nat → Nat} {S S1 : SS} {ls : Array Slot} {v r : Int32}
theorem x_iret (C : MC p s m args meth c cc nL own D cI cZ A (some .int)) (h : WH D A s.heap ly ad cI cZ S H locs) (hv : some (v, S) = some (r, S1)) (hdg : decode cc pc = .ok (.ireturn, 1)) : W p l e R s m args below meth c H locs 0 0 (MQ below (Qi D ly ad cI cZ A r S1) args s 0 0 A) (F0 m pc ls [.int v]) := by
  obtain ⟨hx, hb, hml, hown, hts, hK, hlk, hr, hA⟩ := C
  obtain ⟨rfl, rfl⟩ := some_pr hv
  exact W.iret hx hb hr (fun t ht hW => ⟨⟨v, S, rfl, ⟨rfl, rfl⟩, by rw [ht]; exact h.1, va_K.moved hW.alike hK, h.2.1⟩, h.2.2.F ht⟩) h.2.2.2.2 hdg hlk
theorem x_zret (C : MC p s m args meth c cc nL own D cI cZ A (some .boolean)) (h : WH D A s.heap ly ad cI cZ S H locs) (hv : rZ v S = some (r, S1)) (hdg : decode cc pc = .ok (.ireturn, 1)) : W p l e R s m args below meth c H locs 0 0 (MQ below (Qi D ly ad cI cZ A r S1) args s 0 0 A) (F0 m pc ls [.int v]) := by
  obtain ⟨hx, hb, hml, hown, hts, hK, hlk, hr, hA⟩ := C
  obtain ⟨h01, rfl, rfl⟩ := rZ_some hv
  exact W.zret hx hb hr (by rcases h01 with rfl | rfl <;> rfl) (fun t ht hW => ⟨⟨v, S, rfl, ⟨rfl, rfl⟩, by rw [ht]; exact h.1, va_K.moved hW.alike hK, h.2.1⟩, h.2.2.F ht⟩) h.2.2.2.2 hdg hlk
theorem x_vret (C : MC p s m args meth c cc nL own D cI cZ A none) (h : WH D A s.heap ly ad cI cZ S H locs) (hv : some S = some S1) (hdg : decode cc pc = .ok (.return_, 1)) : W p l e R s m args below meth c H locs 0 0 (MQ below (Qv D ly ad cI cZ A S1) args s 0 0 A) (F0 m pc ls []) := by
  obtain ⟨hx, hb, hml, hown, hts, hK, hlk, hr, hA⟩ := C
  cases hv
  exact W.vret hx hb hr (fun t ht hW => ⟨⟨S, rfl, rfl, by rw [ht]; exact h.1, va_K.moved hW.alike hK, h.2.1⟩, h.2.2.F ht⟩) h.2.2.2.2 hdg hlk
end ENDS
/-! CALLS -/
theorem tbl_in (y : MethodName) (cc : ByteArray) (maxL : Nat) (ret : Option FieldType) (h : Cond.code y cc maxL ret ∈ TB) : GoodIn TB (.code y cc maxL ret :: TB) := by
  intro w hw
  have hm : w ∈ TB := (List.mem_cons.mp hw).elim (fun e => e ▸ h) id
  exact ⟨hm, good_of_word (List.mem_filter.mp hm).2⟩
def plainM (y : MethodName) (n : Nat) : Prop := y.cls ≠ "java/lang/invoke/MethodHandle" ∧ y.cls ≠ "java/lang/invoke/VarHandle" ∧ (parseMethodDescriptor y.desc).map (fun d => d.parameters.length) = some n
def CLB (own : String) (idx : Nat) (y : MethodName) (cc : ByteArray) (maxL : Nat) (ret : Option FieldType) (n : Nat) : Prop :=
  Cond.code y cc maxL ret ∈ TB ∧ Cond.initialized y.cls ∈ TB ∧ Cond.methodLink own idx y ∈ TB ∧ plainM y n ∧ maxL ≤ 40
def CLS (own : String) (idx : Nat) (y : MethodName) (cc : ByteArray) (maxL : Nat) (ret : Option FieldType) (n : Nat) : Prop := CLB own idx y cc maxL ret n ∧ Cond.static y ∈ TB
def CLV (ly : LY) (own : String) (idx : Nat) (y : MethodName) (cc : ByteArray) (maxL : Nat) (ret : Option FieldType) (n i : Nat) : Prop := CLB own idx y cc maxL ret n ∧ Cond.instanceMethod y ∈ TB ∧ Cond.selects y.cls y y ∈ TB ∧ ∃ (ci : Nat) (fs : List (Nat ⊕ Nat)) (T : u_T) (N : Nat), ly.1[i]? = some (ci, fs) ∧ vwCl[ci]? = some (y.cls, T, N)
section CALLS
variable {p : Program} {l : Launch} {e : Env} {s : State} {m : MethodId} {args : Array Value} {below : List Frame} {meth : Method} {c : Code} {H : Heap} {locs : List Loc} {Q : State → Prop}
variable {cc : ByteArray} {nL pc : Nat} {own : String} {D : va_G} {cI cZ : ClassId} {A : Nat → Prop} {ret : Option FieldType} {ly : LY} {ad : Nat → Nat} {S S1 : SS} {ls : Array Slot} {rest st As : List Value} {idx n i k K maxL : Nat} {y : MethodName} {yc : ByteArray} {yret : Option FieldType} {r : Int32}
theorem x_freeA (h : WH D A s.heap ly ad cI cZ S H locs) (hA : ∀ q, s.heap.size ≤ q → A q) : ∀ q, va_A (wW ly ad cI cZ S) H.size q → A q := by
  intro q hq
  rcases hq with ⟨k, e, hk⟩ | hq
  · exact h.2.1.2 k _ hk
  · exact hA q (Nat.le_trans h.2.2.1 hq)
theorem x_cb {R : Room} (hts : ∀ w ∈ TB, w.before args s = true) (cl : CLB own idx y yc maxL yret n) (hR : k + 1 ≤ R.frames ∧ 8 + (maxL + 11) + (rmK k).locals ≤ R.locals) : CallB R s args own idx y yc maxL yret (.code y yc maxL yret :: TB) (rmK k) 0 0 n := by
  obtain ⟨h1, h2, h3, h4, h5⟩ := cl
  exact callB_of n hts (tbl_in y yc maxL yret h1) rfl rfl rfl (hts _ h2) (hts _ h3) h4 hR
theorem x_room (hk : k + 1 ≤ K) (hm : maxL ≤ 40) : k + 1 ≤ (rmK K).frames ∧ 8 + (maxL + 11) + (rmK k).locals ≤ (rmK K).locals := ⟨hk, by show 8 + (maxL + 11) + 60 * k ≤ 60 * K; omega⟩
theorem x_recv (h : WH D A s.heap ly ad cI cZ S H locs) (hK : va_K D vwCl (tyL cI cZ) s) {Cn : String} {ci : Nat} {fs : List (Nat ⊕ Nat)} {T : u_T} {N : Nat} (h1 : ly.1[i]? = some (ci, fs)) (h2 : vwCl[ci]? = some (Cn, T, N)) : ∃ cell : Cell, H[ad i]? = some cell ∧ cell.vm.isStatics = false ∧ s.vm.findClass Cn = some cell.cls :=
  va_recv (q0 := i) hK h.1 h2 (wW_obj h1)
theorem x_back {A1 : Nat → Prop} {t : State} {H1 : Heap} {locs1 : List Loc} (hB : Bf D ly ad cI cZ A1 S1 t) (ht : t.heap = H1) (hf : ∀ q, A1 q → A q) (hS : va_S A s.heap H1 locs1) : WH D A s.heap ly ad cI cZ S1 H1 locs1 := by
  subst ht
  exact ⟨hB.1, ⟨hB.2.2.1, fun k q hk => hf _ (hB.2.2.2 k q hk)⟩, hS⟩
theorem x_callVI (C : MC p s m args meth c cc nL own D cI cZ A ret) (h : WH D A s.heap ly ad cI cZ S H locs) (hm : MI l D ly ad cI cZ y yc maxL yret k (.ref (ad i) :: As) S r S1) (cl : CLV ly own idx y yc maxL yret n i) (hn : As.length = n) (hk : k + 1 ≤ K) (hls : ls.size = nL) (hst : st = As.reverse ++ .ref (ad i) :: rest) (hro : (rest.map fun v => v.category).sum ≤ 8) (hdg : decode cc pc = .ok (.invokevirtual idx, 3))
    (kk : ∀ (H1 : Heap) (locs1 : List Loc), WH D A s.heap ly ad cI cZ S1 H1 locs1 → W p l e (rmK K) s m args below meth c H1 locs1 0 0 Q (F0 m (pc + 3) ls (.int r :: rest))) : W p l e (rmK K) s m args below meth c H locs 0 0 Q (F0 m pc ls st) := by
  obtain ⟨hx, hb, hml, hown, hts, hK, hlk, hr, hA⟩ := C
  obtain ⟨cb, c1, c2, ci, fs, T, N, c3, c4⟩ := cl
  have hf := x_freeA h hA
  subst hst
  refine va_calli (va_runV (As := As) (rest := rest) (C := y.cls) ⟨hx, hb, hml, hown, hts⟩ (hm H.size) ⟨x_cb hts cb (x_room hk cb.2.2.2.2), hts _ c1, hts _ c2⟩ ⟨blind0, x_recv h hK c3 c4, fun U hU hW => ⟨rfl, by rw [hU], by rw [hU]; exact h.1, va_K.moved hW.alike hK, h.2.1.weaken (fun _ _ _ _ => trivial)⟩⟩ rfl hn hls rfl (lv_room hro) hdg ⟨Nat.zero_le _, Nat.zero_le _⟩) h.2.2 (fun q _ z => hf q z) hf (fun r1 u t H1 locs1 ht hvm hw hB hz1 hk1 hS => ?_)
  obtain ⟨rfl, rfl⟩ := hw
  exact kk H1 locs1 (x_back hB ht hf hS)
theorem x_callVV (C : MC p s m args meth c cc nL own D cI cZ A ret) (h : WH D A s.heap ly ad cI cZ S H locs) (hm : MV l D ly ad cI cZ y yc maxL k (.ref (ad i) :: As) S S1) (cl : CLV ly own idx y yc maxL none n i) (hn : As.length = n) (hk : k + 1 ≤ K) (hls : ls.size = nL) (hst : st = As.reverse ++ .ref (ad i) :: rest) (hro : (rest.map fun v => v.category).sum ≤ 8) (hdg : decode cc pc = .ok (.invokevirtual idx, 3))
    (kk : ∀ (H1 : Heap) (locs1 : List Loc), WH D A s.heap ly ad cI cZ S1 H1 locs1 → W p l e (rmK K) s m args below meth c H1 locs1 0 0 Q (F0 m (pc + 3) ls rest)) : W p l e (rmK K) s m args below meth c H locs 0 0 Q (F0 m pc ls st) := by
  obtain ⟨hx, hb, hml, hown, hts, hK, hlk, hr, hA⟩ := C
  obtain ⟨cb, c1, c2, ci, fs, T, N, c3, c4⟩ := cl
  have hf := x_freeA h hA
  subst hst
  refine va_callv (va_runV (As := As) (rest := rest) (C := y.cls) ⟨hx, hb, hml, hown, hts⟩ (hm H.size) ⟨x_cb hts cb (x_room hk cb.2.2.2.2), hts _ c1, hts _ c2⟩ ⟨blind0, x_recv h hK c3 c4, fun U hU hW => ⟨rfl, by rw [hU], by rw [hU]; exact h.1, va_K.moved hW.alike hK, h.2.1.weaken (fun _ _ _ _ => trivial)⟩⟩ rfl hn hls rfl (lv_room hro) hdg ⟨Nat.zero_le _, Nat.zero_le _⟩) h.2.2 (fun q _ z => hf q z) hf (fun u t H1 locs1 ht hvm hw hB hz1 hk1 hS => ?_)
  obtain rfl := hw
  exact kk H1 locs1 (x_back hB ht hf hS)
theorem x_callSI (C : MC p s m args meth c cc nL own D cI cZ A ret) (h : WH D A s.heap ly ad cI cZ S H locs) (hm : MI l D ly ad cI cZ y yc maxL yret k As S r S1) (cl : CLS own idx y yc maxL yret n) (hn : As.length = n) (hk : k + 1 ≤ K) (hls : ls.size = nL) (hst : st = As.reverse ++ rest) (hro : (rest.map fun v => v.category).sum ≤ 8) (hdg : decode cc pc = .ok (.invokestatic idx, 3))
    (kk : ∀ (H1 : Heap) (locs1 : List Loc), WH D A s.heap ly ad cI cZ S1 H1 locs1 → W p l e (rmK K) s m args below meth c H1 locs1 0 0 Q (F0 m (pc + 3) ls (.int r :: rest))) : W p l e (rmK K) s m args below meth c H locs 0 0 Q (F0 m pc ls st) := by
  obtain ⟨hx, hb, hml, hown, hts, hK, hlk, hr, hA⟩ := C
  obtain ⟨cb, c1⟩ := cl
  have hf := x_freeA h hA
  subst hst
  refine va_calli (va_runS (As := As) (rest := rest) ⟨hx, hb, hml, hown, hts⟩ (hm H.size) ⟨x_cb hts cb (x_room hk cb.2.2.2.2), hts _ c1⟩ ⟨blind0, fun U hU hW => ⟨rfl, by rw [hU], by rw [hU]; exact h.1, va_K.moved hW.alike hK, h.2.1.weaken (fun _ _ _ _ => trivial)⟩⟩ rfl hn hls rfl (lv_room hro) hdg ⟨Nat.zero_le _, Nat.zero_le _⟩) h.2.2 (fun q _ z => hf q z) hf (fun r1 u t H1 locs1 ht hvm hw hB hz1 hk1 hS => ?_)
  obtain ⟨rfl, rfl⟩ := hw
  exact kk H1 locs1 (x_back hB ht hf hS)
theorem x_callSV (C : MC p s m args meth c cc nL own D cI cZ A ret) (h : WH D A s.heap ly ad cI cZ S H locs) (hm : MV l D ly ad cI cZ y yc maxL k As S S1) (cl : CLS own idx y yc maxL none n) (hn : As.length = n) (hk : k + 1 ≤ K) (hls : ls.size = nL) (hst : st = As.reverse ++ rest) (hro : (rest.map fun v => v.category).sum ≤ 8) (hdg : decode cc pc = .ok (.invokestatic idx, 3))
    (kk : ∀ (H1 : Heap) (locs1 : List Loc), WH D A s.heap ly ad cI cZ S1 H1 locs1 → W p l e (rmK K) s m args below meth c H1 locs1 0 0 Q (F0 m (pc + 3) ls rest)) : W p l e (rmK K) s m args below meth c H locs 0 0 Q (F0 m pc ls st) := by
  obtain ⟨hx, hb, hml, hown, hts, hK, hlk, hr, hA⟩ := C
  obtain ⟨cb, c1⟩ := cl
  have hf := x_freeA h hA
  subst hst
  refine va_callv (va_runS (As := As) (rest := rest) ⟨hx, hb, hml, hown, hts⟩ (hm H.size) ⟨x_cb hts cb (x_room hk cb.2.2.2.2), hts _ c1⟩ ⟨blind0, fun U hU hW => ⟨rfl, by rw [hU], by rw [hU]; exact h.1, va_K.moved hW.alike hK, h.2.1.weaken (fun _ _ _ _ => trivial)⟩⟩ rfl hn hls rfl (lv_room hro) hdg ⟨Nat.zero_le _, Nat.zero_le _⟩) h.2.2 (fun q _ z => hf q z) hf (fun u t H1 locs1 ht hvm hw hB hz1 hk1 hS => ?_)
  obtain rfl := hw
  exact kk H1 locs1 (x_back hB ht hf hS)
end CALLS
end
