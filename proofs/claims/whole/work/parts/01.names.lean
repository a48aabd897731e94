-- ===== PART A: goes FIRST, ahead of the names: the tables' words, and 'selects' of the private methods out of them =====
/-- a private method of a class that the tables say can be made, by its rows of tables_1 -/
def lw_okq (q : MethodName × Nat) : Prop := (q.1.cls ≠ "java/lang/invoke/MethodHandle" ∧ q.1.cls ≠ "java/lang/invoke/VarHandle") ∧ Cond.instantiable q.1.cls q.2 ∈ tables_1 ∧ Cond.privateMethod q.1 ∈ tables_1 ∧ Cond.instanceMethod q.1 ∈ tables_1
theorem lw_p0 : lw_okq (⟨"BeltHall", "finding", "(I)I"⟩, 6) := ⟨⟨by decide +kernel, by decide +kernel⟩, List.mem_of_getElem? (i := 14) (by decide +kernel), List.mem_of_getElem? (i := 273) (by decide +kernel), List.mem_of_getElem? (i := 274) (by decide +kernel)⟩
theorem lw_p1 : lw_okq (⟨"BeltHall$Cards", "falls", "(II)Z"⟩, 11) := ⟨⟨by decide +kernel, by decide +kernel⟩, List.mem_of_getElem? (i := 102) (by decide +kernel), List.mem_of_getElem? (i := 354) (by decide +kernel), List.mem_of_getElem? (i := 355) (by decide +kernel)⟩
theorem lw_p2 : lw_okq (⟨"BeltHall$Cards", "raise", "(I)V"⟩, 11) := ⟨⟨by decide +kernel, by decide +kernel⟩, List.mem_of_getElem? (i := 102) (by decide +kernel), List.mem_of_getElem? (i := 362) (by decide +kernel), List.mem_of_getElem? (i := 363) (by decide +kernel)⟩
theorem lw_p3 : lw_okq (⟨"BeltHall$Cards", "counts", "(III)Z"⟩, 11) := ⟨⟨by decide +kernel, by decide +kernel⟩, List.mem_of_getElem? (i := 102) (by decide +kernel), List.mem_of_getElem? (i := 374) (by decide +kernel), List.mem_of_getElem? (i := 375) (by decide +kernel)⟩
theorem lw_p4 : lw_okq (⟨"BeltHall", "isAsked", "(IIII)Z"⟩, 6) := ⟨⟨by decide +kernel, by decide +kernel⟩, List.mem_of_getElem? (i := 14) (by decide +kernel), List.mem_of_getElem? (i := 382) (by decide +kernel), List.mem_of_getElem? (i := 383) (by decide +kernel)⟩
theorem lw_p5 : lw_okq (⟨"BeltHall$Candidates", "listOptions", "(LBeltHall$Books;III)V"⟩, 7) := ⟨⟨by decide +kernel, by decide +kernel⟩, List.mem_of_getElem? (i := 189) (by decide +kernel), List.mem_of_getElem? (i := 499) (by decide +kernel), List.mem_of_getElem? (i := 500) (by decide +kernel)⟩
theorem lw_p6 : lw_okq (⟨"BeltHall$Candidates", "listPanels", "(II)V"⟩, 7) := ⟨⟨by decide +kernel, by decide +kernel⟩, List.mem_of_getElem? (i := 189) (by decide +kernel), List.mem_of_getElem? (i := 507) (by decide +kernel), List.mem_of_getElem? (i := 508) (by decide +kernel)⟩
theorem lw_p7 : lw_okq (⟨"BeltHall$Candidates", "place", "(III)Z"⟩, 7) := ⟨⟨by decide +kernel, by decide +kernel⟩, List.mem_of_getElem? (i := 189) (by decide +kernel), List.mem_of_getElem? (i := 511) (by decide +kernel), List.mem_of_getElem? (i := 512) (by decide +kernel)⟩
theorem lw_p8 : lw_okq (⟨"BeltHall$Candidates", "ableFrom", "(I)I"⟩, 7) := ⟨⟨by decide +kernel, by decide +kernel⟩, List.mem_of_getElem? (i := 189) (by decide +kernel), List.mem_of_getElem? (i := 515) (by decide +kernel), List.mem_of_getElem? (i := 516) (by decide +kernel)⟩
theorem lw_p9 : lw_okq (⟨"BeltHall$Candidates", "fullAhead", "(II)I"⟩, 7) := ⟨⟨by decide +kernel, by decide +kernel⟩, List.mem_of_getElem? (i := 189) (by decide +kernel), List.mem_of_getElem? (i := 519) (by decide +kernel), List.mem_of_getElem? (i := 520) (by decide +kernel)⟩
theorem lw_p10 : lw_okq (⟨"BeltHall$Exams", "upTo", "(II)I"⟩, 4) := ⟨⟨by decide +kernel, by decide +kernel⟩, List.mem_of_getElem? (i := 220) (by decide +kernel), List.mem_of_getElem? (i := 565) (by decide +kernel), List.mem_of_getElem? (i := 566) (by decide +kernel)⟩
theorem lw_p11 : lw_okq (⟨"BeltHallModel", "finding", "(I)I"⟩, 44) := ⟨⟨by decide +kernel, by decide +kernel⟩, List.mem_of_getElem? (i := 607) (by decide +kernel), List.mem_of_getElem? (i := 757) (by decide +kernel), List.mem_of_getElem? (i := 758) (by decide +kernel)⟩
theorem lw_p12 : lw_okq (⟨"BeltHallModel", "isPerson", "(I)Z"⟩, 44) := ⟨⟨by decide +kernel, by decide +kernel⟩, List.mem_of_getElem? (i := 607) (by decide +kernel), List.mem_of_getElem? (i := 767) (by decide +kernel), List.mem_of_getElem? (i := 768) (by decide +kernel)⟩
theorem lw_p13 : lw_okq (⟨"BeltHallModel", "ruleOf", "(III)I"⟩, 44) := ⟨⟨by decide +kernel, by decide +kernel⟩, List.mem_of_getElem? (i := 607) (by decide +kernel), List.mem_of_getElem? (i := 805) (by decide +kernel), List.mem_of_getElem? (i := 806) (by decide +kernel)⟩
theorem lw_p14 : lw_okq (⟨"BeltHallModel", "findStanding", "(I)V"⟩, 44) := ⟨⟨by decide +kernel, by decide +kernel⟩, List.mem_of_getElem? (i := 607) (by decide +kernel), List.mem_of_getElem? (i := 814) (by decide +kernel), List.mem_of_getElem? (i := 815) (by decide +kernel)⟩
theorem lw_p15 : lw_okq (⟨"BeltHallModel", "counts", "(III)I"⟩, 44) := ⟨⟨by decide +kernel, by decide +kernel⟩, List.mem_of_getElem? (i := 607) (by decide +kernel), List.mem_of_getElem? (i := 818) (by decide +kernel), List.mem_of_getElem? (i := 819) (by decide +kernel)⟩
def lw_privs_1 : List (MethodName × Nat) := [(⟨"BeltHall", "finding", "(I)I"⟩, 6), (⟨"BeltHall$Cards", "falls", "(II)Z"⟩, 11), (⟨"BeltHall$Cards", "raise", "(I)V"⟩, 11), (⟨"BeltHall$Cards", "counts", "(III)Z"⟩, 11), (⟨"BeltHall", "isAsked", "(IIII)Z"⟩, 6), (⟨"BeltHall$Candidates", "listOptions", "(LBeltHall$Books;III)V"⟩, 7), (⟨"BeltHall$Candidates", "listPanels", "(II)V"⟩, 7), (⟨"BeltHall$Candidates", "place", "(III)Z"⟩, 7), (⟨"BeltHall$Candidates", "ableFrom", "(I)I"⟩, 7), (⟨"BeltHall$Candidates", "fullAhead", "(II)I"⟩, 7), (⟨"BeltHall$Exams", "upTo", "(II)I"⟩, 4), (⟨"BeltHallModel", "finding", "(I)I"⟩, 44), (⟨"BeltHallModel", "isPerson", "(I)Z"⟩, 44), (⟨"BeltHallModel", "ruleOf", "(III)I"⟩, 44), (⟨"BeltHallModel", "findStanding", "(I)V"⟩, 44), (⟨"BeltHallModel", "counts", "(III)I"⟩, 44)]
theorem lw_r1 : ∀ q ∈ lw_privs_1, lw_okq q := List.forall_mem_cons.mpr ⟨lw_p0, List.forall_mem_cons.mpr ⟨lw_p1, List.forall_mem_cons.mpr ⟨lw_p2, List.forall_mem_cons.mpr ⟨lw_p3, List.forall_mem_cons.mpr ⟨lw_p4, List.forall_mem_cons.mpr ⟨lw_p5, List.forall_mem_cons.mpr ⟨lw_p6, List.forall_mem_cons.mpr ⟨lw_p7, List.forall_mem_cons.mpr ⟨lw_p8, List.forall_mem_cons.mpr ⟨lw_p9, List.forall_mem_cons.mpr ⟨lw_p10, List.forall_mem_cons.mpr ⟨lw_p11, List.forall_mem_cons.mpr ⟨lw_p12, List.forall_mem_cons.mpr ⟨lw_p13, List.forall_mem_cons.mpr ⟨lw_p14, List.forall_mem_cons.mpr ⟨lw_p15, fun _ h => absurd h List.not_mem_nil⟩⟩⟩⟩⟩⟩⟩⟩⟩⟩⟩⟩⟩⟩⟩⟩
theorem lw_p16 : lw_okq (⟨"BeltHallModel", "falls", "(II)Z"⟩, 44) := ⟨⟨by decide +kernel, by decide +kernel⟩, List.mem_of_getElem? (i := 607) (by decide +kernel), List.mem_of_getElem? (i := 823) (by decide +kernel), List.mem_of_getElem? (i := 824) (by decide +kernel)⟩
theorem lw_p17 : lw_okq (⟨"BeltHallModel", "isStruck", "(III)Z"⟩, 44) := ⟨⟨by decide +kernel, by decide +kernel⟩, List.mem_of_getElem? (i := 607) (by decide +kernel), List.mem_of_getElem? (i := 827) (by decide +kernel), List.mem_of_getElem? (i := 828) (by decide +kernel)⟩
theorem lw_p18 : lw_okq (⟨"BeltHallModel", "hasOf", "(III)I"⟩, 44) := ⟨⟨by decide +kernel, by decide +kernel⟩, List.mem_of_getElem? (i := 607) (by decide +kernel), List.mem_of_getElem? (i := 831) (by decide +kernel), List.mem_of_getElem? (i := 832) (by decide +kernel)⟩
theorem lw_p19 : lw_okq (⟨"BeltHallModel", "canAsk", "(IIII)Z"⟩, 44) := ⟨⟨by decide +kernel, by decide +kernel⟩, List.mem_of_getElem? (i := 607) (by decide +kernel), List.mem_of_getElem? (i := 839) (by decide +kernel), List.mem_of_getElem? (i := 840) (by decide +kernel)⟩
theorem lw_p20 : lw_okq (⟨"BeltHallModel", "whyOf", "(IIII)I"⟩, 44) := ⟨⟨by decide +kernel, by decide +kernel⟩, List.mem_of_getElem? (i := 607) (by decide +kernel), List.mem_of_getElem? (i := 843) (by decide +kernel), List.mem_of_getElem? (i := 844) (by decide +kernel)⟩
theorem lw_p21 : lw_okq (⟨"BeltHallModel", "isPanel", "(I)Z"⟩, 44) := ⟨⟨by decide +kernel, by decide +kernel⟩, List.mem_of_getElem? (i := 607) (by decide +kernel), List.mem_of_getElem? (i := 851) (by decide +kernel), List.mem_of_getElem? (i := 852) (by decide +kernel)⟩
theorem lw_p22 : lw_okq (⟨"BeltHallModel", "panelOf", "(IIIII)I"⟩, 44) := ⟨⟨by decide +kernel, by decide +kernel⟩, List.mem_of_getElem? (i := 607) (by decide +kernel), List.mem_of_getElem? (i := 855) (by decide +kernel), List.mem_of_getElem? (i := 856) (by decide +kernel)⟩
theorem lw_p23 : lw_okq (⟨"BeltHallModel", "against", "(IIIII)I"⟩, 44) := ⟨⟨by decide +kernel, by decide +kernel⟩, List.mem_of_getElem? (i := 607) (by decide +kernel), List.mem_of_getElem? (i := 859) (by decide +kernel), List.mem_of_getElem? (i := 860) (by decide +kernel)⟩
theorem lw_p24 : lw_okq (⟨"BeltHallModel", "standing", "()I"⟩, 44) := ⟨⟨by decide +kernel, by decide +kernel⟩, List.mem_of_getElem? (i := 607) (by decide +kernel), List.mem_of_getElem? (i := 883) (by decide +kernel), List.mem_of_getElem? (i := 884) (by decide +kernel)⟩
theorem lw_p25 : lw_okq (⟨"BeltHallModel", "findPanels", "(II)V"⟩, 44) := ⟨⟨by decide +kernel, by decide +kernel⟩, List.mem_of_getElem? (i := 607) (by decide +kernel), List.mem_of_getElem? (i := 903) (by decide +kernel), List.mem_of_getElem? (i := 904) (by decide +kernel)⟩
theorem lw_p26 : lw_okq (⟨"BeltHallModel", "tryAll", "(I)V"⟩, 44) := ⟨⟨by decide +kernel, by decide +kernel⟩, List.mem_of_getElem? (i := 607) (by decide +kernel), List.mem_of_getElem? (i := 907) (by decide +kernel), List.mem_of_getElem? (i := 908) (by decide +kernel)⟩
theorem lw_p27 : lw_okq (⟨"BeltHallModel", "loads", "(II)V"⟩, 44) := ⟨⟨by decide +kernel, by decide +kernel⟩, List.mem_of_getElem? (i := 607) (by decide +kernel), List.mem_of_getElem? (i := 911) (by decide +kernel), List.mem_of_getElem? (i := 912) (by decide +kernel)⟩
theorem lw_p28 : lw_okq (⟨"BeltHallModel", "isLight", "(II)Z"⟩, 44) := ⟨⟨by decide +kernel, by decide +kernel⟩, List.mem_of_getElem? (i := 607) (by decide +kernel), List.mem_of_getElem? (i := 915) (by decide +kernel), List.mem_of_getElem? (i := 916) (by decide +kernel)⟩
theorem lw_p29 : lw_okq (⟨"BeltHallModel", "isExam", "(I)Z"⟩, 44) := ⟨⟨by decide +kernel, by decide +kernel⟩, List.mem_of_getElem? (i := 607) (by decide +kernel), List.mem_of_getElem? (i := 931) (by decide +kernel), List.mem_of_getElem? (i := 932) (by decide +kernel)⟩
theorem lw_p30 : lw_okq (⟨"BeltHallModel", "middleOf", "(I)I"⟩, 44) := ⟨⟨by decide +kernel, by decide +kernel⟩, List.mem_of_getElem? (i := 607) (by decide +kernel), List.mem_of_getElem? (i := 939) (by decide +kernel), List.mem_of_getElem? (i := 940) (by decide +kernel)⟩
def lw_privs_2 : List (MethodName × Nat) := [(⟨"BeltHallModel", "falls", "(II)Z"⟩, 44), (⟨"BeltHallModel", "isStruck", "(III)Z"⟩, 44), (⟨"BeltHallModel", "hasOf", "(III)I"⟩, 44), (⟨"BeltHallModel", "canAsk", "(IIII)Z"⟩, 44), (⟨"BeltHallModel", "whyOf", "(IIII)I"⟩, 44), (⟨"BeltHallModel", "isPanel", "(I)Z"⟩, 44), (⟨"BeltHallModel", "panelOf", "(IIIII)I"⟩, 44), (⟨"BeltHallModel", "against", "(IIIII)I"⟩, 44), (⟨"BeltHallModel", "standing", "()I"⟩, 44), (⟨"BeltHallModel", "findPanels", "(II)V"⟩, 44), (⟨"BeltHallModel", "tryAll", "(I)V"⟩, 44), (⟨"BeltHallModel", "loads", "(II)V"⟩, 44), (⟨"BeltHallModel", "isLight", "(II)Z"⟩, 44), (⟨"BeltHallModel", "isExam", "(I)Z"⟩, 44), (⟨"BeltHallModel", "middleOf", "(I)I"⟩, 44)]
theorem lw_r2 : ∀ q ∈ lw_privs_2, lw_okq q := List.forall_mem_cons.mpr ⟨lw_p16, List.forall_mem_cons.mpr ⟨lw_p17, List.forall_mem_cons.mpr ⟨lw_p18, List.forall_mem_cons.mpr ⟨lw_p19, List.forall_mem_cons.mpr ⟨lw_p20, List.forall_mem_cons.mpr ⟨lw_p21, List.forall_mem_cons.mpr ⟨lw_p22, List.forall_mem_cons.mpr ⟨lw_p23, List.forall_mem_cons.mpr ⟨lw_p24, List.forall_mem_cons.mpr ⟨lw_p25, List.forall_mem_cons.mpr ⟨lw_p26, List.forall_mem_cons.mpr ⟨lw_p27, List.forall_mem_cons.mpr ⟨lw_p28, List.forall_mem_cons.mpr ⟨lw_p29, List.forall_mem_cons.mpr ⟨lw_p30, fun _ h => absurd h List.not_mem_nil⟩⟩⟩⟩⟩⟩⟩⟩⟩⟩⟩⟩⟩⟩⟩
def lw_privs : List (MethodName × Nat) := lw_privs_1 ++ (lw_privs_2)
def lw_tbl : List Cond := k2_sels lw_privs ++ tables_1
theorem lw_privs_ok : ∀ q ∈ lw_privs, lw_okq q := by
  show ∀ q ∈ lw_privs_1 ++ (lw_privs_2), lw_okq q
  exact List.forall_mem_append.mpr ⟨lw_r1, lw_r2⟩
def RX0 : String := "BeltHall$Books"
def TX0 : u_T := fun k => match k with
  | 0 => ("BeltHall$Books", "persons", "LBeltHall$Persons;", true)
  | 1 => ("BeltHall$Books", "rules", "LBeltHall$Rules;", true)
  | _ => ("BeltHall$Books", "cards", "LBeltHall$Cards;", true)
def tyX0 : Nat → FieldType := fun k => match k with
  | 0 => .object "BeltHall$Persons"
  | 1 => .object "BeltHall$Rules"
  | _ => .object "BeltHall$Cards"
abbrev wsX00 : List Cond := u_ws RX0 TX0 3
theorem nmX0 : ∀ a, a < 3 → ∀ b, b < 3 → a ≠ b → (TX0 a).2.1 ≠ (TX0 b).2.1 := by decide +kernel
theorem tyX0_ok : ∀ k, k < 3 → parseFieldDescriptor (TX0 k).2.2.1 = some (tyX0 k) := by decide +kernel
abbrev cX0_init : ByteArray := prog_2_method_1_code
def yX0_init : MethodName := ⟨RX0, "<init>", "()V"⟩
abbrev cX0_whyNot : ByteArray := prog_2_method_2_code
def yX0_whyNot : MethodName := ⟨RX0, "whyNot", "(IIII)I"⟩
abbrev cX0_whyNoPanel : ByteArray := prog_2_method_3_code
def yX0_whyNoPanel : MethodName := ⟨RX0, "whyNoPanel", "(IIIII)I"⟩
abbrev cX0_whyNoJudge : ByteArray := prog_2_method_4_code
def yX0_whyNoJudge : MethodName := ⟨RX0, "whyNoJudge", "(IIIII)I"⟩
def RX1 : String := "BeltHall$Candidates"
def TX1 : u_T := fun k => match k with
  | 0 => ("BeltHall$Candidates", "waiting", "[I", true)
  | 1 => ("BeltHall$Candidates", "options", "[I", true)
  | 2 => ("BeltHall$Candidates", "optionCount", "[I", true)
  | 3 => ("BeltHall$Candidates", "chosen", "[I", true)
  | 4 => ("BeltHall$Candidates", "judges", "[I", true)
  | 5 => ("BeltHall$Candidates", "size", "I", false)
  | _ => ("BeltHall$Candidates", "areSeated", "Z", false)
def tyX1 : Nat → FieldType := fun k => match k with
  | 0 => .array .int
  | 1 => .array .int
  | 2 => .array .int
  | 3 => .array .int
  | 4 => .array .int
  | 5 => .int
  | _ => .boolean
abbrev wsX10 : List Cond := u_ws RX1 TX1 7
theorem nmX1 : ∀ a, a < 7 → ∀ b, b < 7 → a ≠ b → (TX1 a).2.1 ≠ (TX1 b).2.1 := by decide +kernel
theorem tyX1_ok : ∀ k, k < 7 → parseFieldDescriptor (TX1 k).2.2.1 = some (tyX1 k) := by decide +kernel
abbrev cX1_init : ByteArray := prog_3_method_1_code
def yX1_init : MethodName := ⟨RX1, "<init>", "()V"⟩
abbrev cX1_holds : ByteArray := prog_3_method_2_code
def yX1_holds : MethodName := ⟨RX1, "holds", "(I)Z"⟩
abbrev cX1_add : ByteArray := prog_3_method_3_code
def yX1_add : MethodName := ⟨RX1, "add", "(I)V"⟩
abbrev cX1_clear : ByteArray := prog_3_method_4_code
def yX1_clear : MethodName := ⟨RX1, "clear", "()V"⟩
abbrev cX1_seat : ByteArray := prog_3_method_5_code
def yX1_seat : MethodName := ⟨RX1, "seat", "(LBeltHall$Books;III)I"⟩
abbrev cX1_listOptions : ByteArray := prog_3_method_6_code
def yX1_listOptions : MethodName := ⟨RX1, "listOptions", "(LBeltHall$Books;III)V"⟩
abbrev cX1_listPanels : ByteArray := prog_3_method_7_code
def yX1_listPanels : MethodName := ⟨RX1, "listPanels", "(II)V"⟩
abbrev cX1_place : ByteArray := prog_3_method_8_code
def yX1_place : MethodName := ⟨RX1, "place", "(III)Z"⟩
abbrev cX1_ableFrom : ByteArray := prog_3_method_9_code
def yX1_ableFrom : MethodName := ⟨RX1, "ableFrom", "(I)I"⟩
abbrev cX1_fullAhead : ByteArray := prog_3_method_10_code
def yX1_fullAhead : MethodName := ⟨RX1, "fullAhead", "(II)I"⟩
def RX2 : String := "BeltHall$Cards"
def TX2 : u_T := fun k => match k with
  | 0 => ("BeltHall$Cards", "strikes", "LBeltHall$Strikes;", true)
  | 1 => ("BeltHall$Cards", "ways", "[I", true)
  | 2 => ("BeltHall$Cards", "values", "[I", true)
  | 3 => ("BeltHall$Cards", "owner", "[I", true)
  | 4 => ("BeltHall$Cards", "union", "[I", true)
  | 5 => ("BeltHall$Cards", "grade", "[I", true)
  | 6 => ("BeltHall$Cards", "date", "[I", true)
  | 7 => ("BeltHall$Cards", "judges", "[I", true)
  | 8 => ("BeltHall$Cards", "standing", "[Z", true)
  | 9 => ("BeltHall$Cards", "soFar", "[I", true)
  | _ => ("BeltHall$Cards", "size", "I", false)
def tyX2 : Nat → FieldType := fun k => match k with
  | 0 => .object "BeltHall$Strikes"
  | 1 => .array .int
  | 2 => .array .int
  | 3 => .array .int
  | 4 => .array .int
  | 5 => .array .int
  | 6 => .array .int
  | 7 => .array .int
  | 8 => .array .boolean
  | 9 => .array .int
  | _ => .int
abbrev wsX20 : List Cond := u_ws RX2 TX2 11
theorem nmX2 : ∀ a, a < 11 → ∀ b, b < 11 → a ≠ b → (TX2 a).2.1 ≠ (TX2 b).2.1 := by decide +kernel
theorem tyX2_ok : ∀ k, k < 11 → parseFieldDescriptor (TX2 k).2.2.1 = some (tyX2 k) := by decide +kernel
abbrev cX2_init : ByteArray := prog_4_method_1_code
def yX2_init : MethodName := ⟨RX2, "<init>", "()V"⟩
abbrev cX2_holds : ByteArray := prog_4_method_2_code
def yX2_holds : MethodName := ⟨RX2, "holds", "(I)Z"⟩
abbrev cX2_latestDay : ByteArray := prog_4_method_3_code
def yX2_latestDay : MethodName := ⟨RX2, "latestDay", "()I"⟩
abbrev cX2_value : ByteArray := prog_4_method_4_code
def yX2_value : MethodName := ⟨RX2, "value", "(III)I"⟩
abbrev cX2_setValue : ByteArray := prog_4_method_5_code
def yX2_setValue : MethodName := ⟨RX2, "setValue", "(IIII)V"⟩
abbrev cX2_add : ByteArray := prog_4_method_6_code
def yX2_add : MethodName := ⟨RX2, "add", "(IIIII)I"⟩
abbrev cX2_know : ByteArray := prog_4_method_7_code
def yX2_know : MethodName := ⟨RX2, "know", "(I)V"⟩
abbrev cX2_falls : ByteArray := prog_4_method_8_code
def yX2_falls : MethodName := ⟨RX2, "falls", "(II)Z"⟩
abbrev cX2_raise : ByteArray := prog_4_method_9_code
def yX2_raise : MethodName := ⟨RX2, "raise", "(I)V"⟩
abbrev cX2_standingAtLast : ByteArray := prog_4_method_10_code
def yX2_standingAtLast : MethodName := ⟨RX2, "standingAtLast", "()I"⟩
abbrev cX2_counts : ByteArray := prog_4_method_11_code
def yX2_counts : MethodName := ⟨RX2, "counts", "(III)Z"⟩
abbrev cX2_heldOn : ByteArray := prog_4_method_12_code
def yX2_heldOn : MethodName := ⟨RX2, "heldOn", "(III)I"⟩
abbrev cX2_lastGraded : ByteArray := prog_4_method_13_code
def yX2_lastGraded : MethodName := ⟨RX2, "lastGraded", "(II)I"⟩
def RX3 : String := "BeltHall$Exams"
def TX3 : u_T := fun k => match k with
  | 0 => ("BeltHall$Exams", "markCount", "[I", true)
  | 1 => ("BeltHall$Exams", "marker", "[I", true)
  | 2 => ("BeltHall$Exams", "marks", "[I", true)
  | _ => ("BeltHall$Exams", "size", "I", false)
def tyX3 : Nat → FieldType := fun k => match k with
  | 0 => .array .int
  | 1 => .array .int
  | 2 => .array .int
  | _ => .int
abbrev wsX30 : List Cond := u_ws RX3 TX3 4
theorem nmX3 : ∀ a, a < 4 → ∀ b, b < 4 → a ≠ b → (TX3 a).2.1 ≠ (TX3 b).2.1 := by decide +kernel
theorem tyX3_ok : ∀ k, k < 4 → parseFieldDescriptor (TX3 k).2.2.1 = some (tyX3 k) := by decide +kernel
abbrev cX3_init : ByteArray := prog_5_method_1_code
def yX3_init : MethodName := ⟨RX3, "<init>", "()V"⟩
abbrev cX3_holds : ByteArray := prog_5_method_2_code
def yX3_holds : MethodName := ⟨RX3, "holds", "(I)Z"⟩
abbrev cX3_add : ByteArray := prog_5_method_3_code
def yX3_add : MethodName := ⟨RX3, "add", "()I"⟩
abbrev cX3_isWhole : ByteArray := prog_5_method_4_code
def yX3_isWhole : MethodName := ⟨RX3, "isWhole", "(I)Z"⟩
abbrev cX3_placeFor : ByteArray := prog_5_method_5_code
def yX3_placeFor : MethodName := ⟨RX3, "placeFor", "(II)I"⟩
abbrev cX3_put : ByteArray := prog_5_method_6_code
def yX3_put : MethodName := ⟨RX3, "put", "(IIII)I"⟩
abbrev cX3_upTo : ByteArray := prog_5_method_7_code
def yX3_upTo : MethodName := ⟨RX3, "upTo", "(II)I"⟩
abbrev cX3_middleOf : ByteArray := prog_5_method_8_code
def yX3_middleOf : MethodName := ⟨RX3, "middleOf", "(I)I"⟩
abbrev cX3_awayFromMiddle : ByteArray := prog_5_method_9_code
def yX3_awayFromMiddle : MethodName := ⟨RX3, "awayFromMiddle", "(II)I"⟩
abbrev cX3_hardness : ByteArray := prog_5_method_10_code
def yX3_hardness : MethodName := ⟨RX3, "hardness", "(I)I"⟩
def RX4 : String := "BeltHall$Persons"
def TX4 : u_T := fun k => match k with
  | 0 => ("BeltHall$Persons", "kind", "[I", true)
  | 1 => ("BeltHall$Persons", "born", "[I", true)
  | 2 => ("BeltHall$Persons", "home", "[I", true)
  | 3 => ("BeltHall$Persons", "licensed", "[I", true)
  | 4 => ("BeltHall$Persons", "passed", "[I", true)
  | 5 => ("BeltHall$Persons", "size", "I", false)
  | _ => ("BeltHall$Persons", "examiners", "I", false)
def tyX4 : Nat → FieldType := fun k => match k with
  | 0 => .array .int
  | 1 => .array .int
  | 2 => .array .int
  | 3 => .array .int
  | 4 => .array .int
  | 5 => .int
  | _ => .int
abbrev wsX40 : List Cond := u_ws RX4 TX4 7
theorem nmX4 : ∀ a, a < 7 → ∀ b, b < 7 → a ≠ b → (TX4 a).2.1 ≠ (TX4 b).2.1 := by decide +kernel
theorem tyX4_ok : ∀ k, k < 7 → parseFieldDescriptor (TX4 k).2.2.1 = some (tyX4 k) := by decide +kernel
abbrev cX4_init : ByteArray := prog_6_method_1_code
def yX4_init : MethodName := ⟨RX4, "<init>", "()V"⟩
abbrev cX4_holds : ByteArray := prog_6_method_2_code
def yX4_holds : MethodName := ⟨RX4, "holds", "(I)Z"⟩
abbrev cX4_areAll : ByteArray := prog_6_method_3_code
def yX4_areAll : MethodName := ⟨RX4, "areAll", "(I)Z"⟩
abbrev cX4_isExaminer : ByteArray := prog_6_method_4_code
def yX4_isExaminer : MethodName := ⟨RX4, "isExaminer", "(I)Z"⟩
abbrev cX4_hasRoomFor : ByteArray := prog_6_method_5_code
def yX4_hasRoomFor : MethodName := ⟨RX4, "hasRoomFor", "(I)Z"⟩
abbrev cX4_add : ByteArray := prog_6_method_6_code
def yX4_add : MethodName := ⟨RX4, "add", "(III)I"⟩
abbrev cX4_passedAll : ByteArray := prog_6_method_7_code
def yX4_passedAll : MethodName := ⟨RX4, "passedAll", "(IIII)Z"⟩
def RX5 : String := "BeltHall$Rules"
def TX5 : u_T := fun k => match k with
  | 0 => ("BeltHall$Rules", "subject", "[I", true)
  | 1 => ("BeltHall$Rules", "start", "[I", true)
  | 2 => ("BeltHall$Rules", "daysSince", "[I", true)
  | 3 => ("BeltHall$Rules", "leastAge", "[I", true)
  | 4 => ("BeltHall$Rules", "parts", "[I", true)
  | 5 => ("BeltHall$Rules", "needed", "[I", true)
  | _ => ("BeltHall$Rules", "size", "I", false)
def tyX5 : Nat → FieldType := fun k => match k with
  | 0 => .array .int
  | 1 => .array .int
  | 2 => .array .int
  | 3 => .array .int
  | 4 => .array .int
  | 5 => .array .int
  | _ => .int
abbrev wsX50 : List Cond := u_ws RX5 TX5 7
theorem nmX5 : ∀ a, a < 7 → ∀ b, b < 7 → a ≠ b → (TX5 a).2.1 ≠ (TX5 b).2.1 := by decide +kernel
theorem tyX5_ok : ∀ k, k < 7 → parseFieldDescriptor (TX5 k).2.2.1 = some (tyX5 k) := by decide +kernel
abbrev cX5_init : ByteArray := prog_7_method_1_code
def yX5_init : MethodName := ⟨RX5, "<init>", "()V"⟩
abbrev cX5_add : ByteArray := prog_7_method_2_code
def yX5_add : MethodName := ⟨RX5, "add", "(IIIII)V"⟩
abbrev cX5_inForce : ByteArray := prog_7_method_3_code
def yX5_inForce : MethodName := ⟨RX5, "inForce", "(III)I"⟩
def RX6 : String := "BeltHall$Strikes"
def TX6 : u_T := fun k => match k with
  | 0 => ("BeltHall$Strikes", "struck", "[I", true)
  | 1 => ("BeltHall$Strikes", "start", "[I", true)
  | 2 => ("BeltHall$Strikes", "toldOn", "[I", true)
  | _ => ("BeltHall$Strikes", "size", "I", false)
def tyX6 : Nat → FieldType := fun k => match k with
  | 0 => .array .int
  | 1 => .array .int
  | 2 => .array .int
  | _ => .int
abbrev wsX60 : List Cond := u_ws RX6 TX6 4
theorem nmX6 : ∀ a, a < 4 → ∀ b, b < 4 → a ≠ b → (TX6 a).2.1 ≠ (TX6 b).2.1 := by decide +kernel
theorem tyX6_ok : ∀ k, k < 4 → parseFieldDescriptor (TX6 k).2.2.1 = some (tyX6 k) := by decide +kernel
abbrev cX6_init : ByteArray := prog_8_method_1_code
def yX6_init : MethodName := ⟨RX6, "<init>", "()V"⟩
abbrev cX6_add : ByteArray := prog_8_method_2_code
def yX6_add : MethodName := ⟨RX6, "add", "(III)V"⟩
abbrev cX6_hit : ByteArray := prog_8_method_3_code
def yX6_hit : MethodName := ⟨RX6, "hit", "(III)Z"⟩
def RX7 : String := "BeltHall"
def TX7 : u_T := fun k => match k with
  | 0 => ("BeltHall", "books", "LBeltHall$Books;", true)
  | 1 => ("BeltHall", "candidates", "LBeltHall$Candidates;", true)
  | 2 => ("BeltHall", "exams", "LBeltHall$Exams;", true)
  | 3 => ("BeltHall", "numbers", "[I", true)
  | 4 => ("BeltHall", "findings", "[I", true)
  | _ => ("BeltHall", "numberCount", "I", false)
def tyX7 : Nat → FieldType := fun k => match k with
  | 0 => .object "BeltHall$Books"
  | 1 => .object "BeltHall$Candidates"
  | 2 => .object "BeltHall$Exams"
  | 3 => .array .int
  | 4 => .array .int
  | _ => .int
abbrev wsX70 : List Cond := u_ws RX7 TX7 6
theorem nmX7 : ∀ a, a < 6 → ∀ b, b < 6 → a ≠ b → (TX7 a).2.1 ≠ (TX7 b).2.1 := by decide +kernel
theorem tyX7_ok : ∀ k, k < 6 → parseFieldDescriptor (TX7 k).2.2.1 = some (tyX7 k) := by decide +kernel
abbrev cX7_init : ByteArray := prog_1_method_1_code
def yX7_init : MethodName := ⟨RX7, "<init>", "()V"⟩
abbrev cX7_person : ByteArray := prog_1_method_2_code
def yX7_person : MethodName := ⟨RX7, "person", "(III)I"⟩
abbrev cX7_as : ByteArray := prog_1_method_3_code
def yX7_as : MethodName := ⟨RX7, "as", "(II)I"⟩
abbrev cX7_licence : ByteArray := prog_1_method_4_code
def yX7_licence : MethodName := ⟨RX7, "licence", "(II)I"⟩
abbrev cX7_part : ByteArray := prog_1_method_5_code
def yX7_part : MethodName := ⟨RX7, "part", "(III)I"⟩
abbrev cX7_worth : ByteArray := prog_1_method_6_code
def yX7_worth : MethodName := ⟨RX7, "worth", "(IIII)I"⟩
abbrev cX7_way : ByteArray := prog_1_method_7_code
def yX7_way : MethodName := ⟨RX7, "way", "(II)I"⟩
abbrev cX7_rule : ByteArray := prog_1_method_8_code
def yX7_rule : MethodName := ⟨RX7, "rule", "(IIIII)I"⟩
abbrev cX7_force : ByteArray := prog_1_method_9_code
def yX7_force : MethodName := ⟨RX7, "force", "(III)I"⟩
abbrev cX7_has : ByteArray := prog_1_method_10_code
def yX7_has : MethodName := ⟨RX7, "has", "(IIII)I"⟩
abbrev cX7_why : ByteArray := prog_1_method_11_code
def yX7_why : MethodName := ⟨RX7, "why", "(IIII)I"⟩
abbrev cX7_panel : ByteArray := prog_1_method_12_code
def yX7_panel : MethodName := ⟨RX7, "panel", "(IIIII)I"⟩
abbrev cX7_give : ByteArray := prog_1_method_13_code
def yX7_give : MethodName := ⟨RX7, "give", "(IIIII)I"⟩
abbrev cX7_entry : ByteArray := prog_1_method_14_code
def yX7_entry : MethodName := ⟨RX7, "entry", "(II)I"⟩
abbrev cX7_stands : ByteArray := prog_1_method_15_code
def yX7_stands : MethodName := ⟨RX7, "stands", "(II)I"⟩
abbrev cX7_strike : ByteArray := prog_1_method_16_code
def yX7_strike : MethodName := ⟨RX7, "strike", "(III)I"⟩
abbrev cX7_unstrike : ByteArray := prog_1_method_17_code
def yX7_unstrike : MethodName := ⟨RX7, "unstrike", "()I"⟩
abbrev cX7_wait : ByteArray := prog_1_method_18_code
def yX7_wait : MethodName := ⟨RX7, "wait", "(I)I"⟩
abbrev cX7_go : ByteArray := prog_1_method_19_code
def yX7_go : MethodName := ⟨RX7, "go", "()I"⟩
abbrev cX7_best : ByteArray := prog_1_method_20_code
def yX7_best : MethodName := ⟨RX7, "best", "(III)I"⟩
abbrev cX7_given : ByteArray := prog_1_method_21_code
def yX7_given : MethodName := ⟨RX7, "given", "(I)I"⟩
abbrev cX7_exam : ByteArray := prog_1_method_22_code
def yX7_exam : MethodName := ⟨RX7, "exam", "()I"⟩
abbrev cX7_mark : ByteArray := prog_1_method_23_code
def yX7_mark : MethodName := ⟨RX7, "mark", "(III)I"⟩
abbrev cX7_middle : ByteArray := prog_1_method_24_code
def yX7_middle : MethodName := ⟨RX7, "middle", "(I)I"⟩
abbrev cX7_apart : ByteArray := prog_1_method_25_code
def yX7_apart : MethodName := ⟨RX7, "apart", "(II)I"⟩
abbrev cX7_hard : ByteArray := prog_1_method_26_code
def yX7_hard : MethodName := ⟨RX7, "hard", "(I)I"⟩
abbrev cX7_tell : ByteArray := prog_1_method_27_code
def yX7_tell : MethodName := ⟨RX7, "tell", "(I)I"⟩
abbrev cX7_check : ByteArray := prog_1_method_28_code
def yX7_check : MethodName := ⟨RX7, "check", "(I)I"⟩
abbrev cX7_count : ByteArray := prog_1_method_29_code
def yX7_count : MethodName := ⟨RX7, "count", "(I)I"⟩
abbrev cX7_found : ByteArray := prog_1_method_30_code
def yX7_found : MethodName := ⟨RX7, "found", "(I)I"⟩
abbrev cX7_finding : ByteArray := prog_1_method_31_code
def yX7_finding : MethodName := ⟨RX7, "finding", "(I)I"⟩
abbrev cX7_isAsked : ByteArray := prog_1_method_32_code
def yX7_isAsked : MethodName := ⟨RX7, "isAsked", "(IIII)Z"⟩
abbrev cX7_isWithin : ByteArray := prog_1_method_33_code
def yX7_isWithin : MethodName := ⟨RX7, "isWithin", "(III)Z"⟩
abbrev cX7_isDay : ByteArray := prog_1_method_34_code
def yX7_isDay : MethodName := ⟨RX7, "isDay", "(I)Z"⟩
abbrev cX7_isUnion : ByteArray := prog_1_method_35_code
def yX7_isUnion : MethodName := ⟨RX7, "isUnion", "(I)Z"⟩
abbrev cX7_isGrade : ByteArray := prog_1_method_36_code
def yX7_isGrade : MethodName := ⟨RX7, "isGrade", "(I)Z"⟩
abbrev cX7_isKind : ByteArray := prog_1_method_37_code
def yX7_isKind : MethodName := ⟨RX7, "isKind", "(I)Z"⟩
def RX8 : String := "BeltHallModel"
def TX8 : u_T := fun k => match k with
  | 0 => ("BeltHallModel", "persons", "I", false)
  | 1 => ("BeltHallModel", "examiners", "I", false)
  | 2 => ("BeltHallModel", "kindOf", "[I", true)
  | 3 => ("BeltHallModel", "born", "[I", true)
  | 4 => ("BeltHallModel", "hall", "[I", true)
  | 5 => ("BeltHallModel", "licence", "[I", true)
  | 6 => ("BeltHallModel", "passed", "[I", true)
  | 7 => ("BeltHallModel", "worth", "[I", true)
  | 8 => ("BeltHallModel", "ways", "[I", true)
  | 9 => ("BeltHallModel", "rules", "I", false)
  | 10 => ("BeltHallModel", "ruleFor", "[I", true)
  | 11 => ("BeltHallModel", "ruleFrom", "[I", true)
  | 12 => ("BeltHallModel", "ruleDays", "[I", true)
  | 13 => ("BeltHallModel", "ruleAge", "[I", true)
  | 14 => ("BeltHallModel", "ruleParts", "[I", true)
  | 15 => ("BeltHallModel", "rulePanel", "[I", true)
  | 16 => ("BeltHallModel", "entries", "I", false)
  | 17 => ("BeltHallModel", "entryOf", "[I", true)
  | 18 => ("BeltHallModel", "entryUnion", "[I", true)
  | 19 => ("BeltHallModel", "entryGrade", "[I", true)
  | 20 => ("BeltHallModel", "entryDay", "[I", true)
  | 21 => ("BeltHallModel", "entryPanel", "[I", true)
  | 22 => ("BeltHallModel", "strikes", "I", false)
  | 23 => ("BeltHallModel", "struck", "[I", true)
  | 24 => ("BeltHallModel", "struckFrom", "[I", true)
  | 25 => ("BeltHallModel", "struckTold", "[I", true)
  | 26 => ("BeltHallModel", "waiting", "I", false)
  | 27 => ("BeltHallModel", "candidates", "[I", true)
  | 28 => ("BeltHallModel", "isFound", "Z", false)
  | 29 => ("BeltHallModel", "given", "[I", true)
  | 30 => ("BeltHallModel", "exams", "I", false)
  | 31 => ("BeltHallModel", "marks", "[I", true)
  | 32 => ("BeltHallModel", "marker", "[I", true)
  | 33 => ("BeltHallModel", "marked", "[I", true)
  | 34 => ("BeltHallModel", "tells", "I", false)
  | 35 => ("BeltHallModel", "told", "[I", true)
  | 36 => ("BeltHallModel", "findings", "[I", true)
  | 37 => ("BeltHallModel", "stand", "[Z", true)
  | 38 => ("BeltHallModel", "panels", "I", false)
  | 39 => ("BeltHallModel", "panelAt", "[I", true)
  | 40 => ("BeltHallModel", "may", "[Z", true)
  | 41 => ("BeltHallModel", "tried", "[I", true)
  | 42 => ("BeltHallModel", "load", "[I", true)
  | _ => ("BeltHallModel", "graded", "I", false)
def tyX8 : Nat → FieldType := fun k => match k with
  | 0 => .int
  | 1 => .int
  | 2 => .array .int
  | 3 => .array .int
  | 4 => .array .int
  | 5 => .array .int
  | 6 => .array .int
  | 7 => .array .int
  | 8 => .array .int
  | 9 => .int
  | 10 => .array .int
  | 11 => .array .int
  | 12 => .array .int
  | 13 => .array .int
  | 14 => .array .int
  | 15 => .array .int
  | 16 => .int
  | 17 => .array .int
  | 18 => .array .int
  | 19 => .array .int
  | 20 => .array .int
  | 21 => .array .int
  | 22 => .int
  | 23 => .array .int
  | 24 => .array .int
  | 25 => .array .int
  | 26 => .int
  | 27 => .array .int
  | 28 => .boolean
  | 29 => .array .int
  | 30 => .int
  | 31 => .array .int
  | 32 => .array .int
  | 33 => .array .int
  | 34 => .int
  | 35 => .array .int
  | 36 => .array .int
  | 37 => .array .boolean
  | 38 => .int
  | 39 => .array .int
  | 40 => .array .boolean
  | 41 => .array .int
  | 42 => .array .int
  | _ => .int
abbrev wsX80 : List Cond := u_ws RX8 TX8 44
theorem nmX8 : ∀ a, a < 44 → ∀ b, b < 44 → a ≠ b → (TX8 a).2.1 ≠ (TX8 b).2.1 := by decide +kernel
theorem tyX8_ok : ∀ k, k < 44 → parseFieldDescriptor (TX8 k).2.2.1 = some (tyX8 k) := by decide +kernel
abbrev cX8_init : ByteArray := prog_10_method_1_code
def yX8_init : MethodName := ⟨RX8, "<init>", "()V"⟩
abbrev cX8_finding : ByteArray := prog_10_method_2_code
def yX8_finding : MethodName := ⟨RX8, "finding", "(I)I"⟩
abbrev cX8_within : ByteArray := prog_10_method_3_code
def yX8_within : MethodName := ⟨RX8, "within", "(III)Z"⟩
abbrev cX8_isDay : ByteArray := prog_10_method_4_code
def yX8_isDay : MethodName := ⟨RX8, "isDay", "(I)Z"⟩
abbrev cX8_isUnion : ByteArray := prog_10_method_5_code
def yX8_isUnion : MethodName := ⟨RX8, "isUnion", "(I)Z"⟩
abbrev cX8_isGrade : ByteArray := prog_10_method_6_code
def yX8_isGrade : MethodName := ⟨RX8, "isGrade", "(I)Z"⟩
abbrev cX8_isPerson : ByteArray := prog_10_method_7_code
def yX8_isPerson : MethodName := ⟨RX8, "isPerson", "(I)Z"⟩
abbrev cX8_person : ByteArray := prog_10_method_8_code
def yX8_person : MethodName := ⟨RX8, "person", "(III)I"⟩
abbrev cX8_as : ByteArray := prog_10_method_9_code
def yX8_as : MethodName := ⟨RX8, "as", "(II)I"⟩
abbrev cX8_licence : ByteArray := prog_10_method_10_code
def yX8_licence : MethodName := ⟨RX8, "licence", "(II)I"⟩
abbrev cX8_part : ByteArray := prog_10_method_11_code
def yX8_part : MethodName := ⟨RX8, "part", "(III)I"⟩
abbrev cX8_worthAt : ByteArray := prog_10_method_12_code
def yX8_worthAt : MethodName := ⟨RX8, "worthAt", "(III)I"⟩
abbrev cX8_worth : ByteArray := prog_10_method_13_code
def yX8_worth : MethodName := ⟨RX8, "worth", "(IIII)I"⟩
abbrev cX8_counts : ByteArray := prog_10_method_14_code
def yX8_counts : MethodName := ⟨RX8, "counts", "(III)I"⟩
abbrev cX8_way : ByteArray := prog_10_method_15_code
def yX8_way : MethodName := ⟨RX8, "way", "(II)I"⟩
abbrev cX8_rule : ByteArray := prog_10_method_16_code
def yX8_rule : MethodName := ⟨RX8, "rule", "(IIIII)I"⟩
abbrev cX8_ruleOf : ByteArray := prog_10_method_17_code
def yX8_ruleOf : MethodName := ⟨RX8, "ruleOf", "(III)I"⟩
abbrev cX8_force : ByteArray := prog_10_method_18_code
def yX8_force : MethodName := ⟨RX8, "force", "(III)I"⟩
abbrev cX8_isStruck : ByteArray := prog_10_method_19_code
def yX8_isStruck : MethodName := ⟨RX8, "isStruck", "(III)Z"⟩
abbrev cX8_falls : ByteArray := prog_10_method_20_code
def yX8_falls : MethodName := ⟨RX8, "falls", "(II)Z"⟩
abbrev cX8_findStanding : ByteArray := prog_10_method_21_code
def yX8_findStanding : MethodName := ⟨RX8, "findStanding", "(I)V"⟩
abbrev cX8_hasOf : ByteArray := prog_10_method_22_code
def yX8_hasOf : MethodName := ⟨RX8, "hasOf", "(III)I"⟩
abbrev cX8_has : ByteArray := prog_10_method_23_code
def yX8_has : MethodName := ⟨RX8, "has", "(IIII)I"⟩
abbrev cX8_whyOf : ByteArray := prog_10_method_24_code
def yX8_whyOf : MethodName := ⟨RX8, "whyOf", "(IIII)I"⟩
abbrev cX8_canAsk : ByteArray := prog_10_method_25_code
def yX8_canAsk : MethodName := ⟨RX8, "canAsk", "(IIII)Z"⟩
abbrev cX8_why : ByteArray := prog_10_method_26_code
def yX8_why : MethodName := ⟨RX8, "why", "(IIII)I"⟩
abbrev cX8_against : ByteArray := prog_10_method_27_code
def yX8_against : MethodName := ⟨RX8, "against", "(IIIII)I"⟩
abbrev cX8_panelOf : ByteArray := prog_10_method_28_code
def yX8_panelOf : MethodName := ⟨RX8, "panelOf", "(IIIII)I"⟩
abbrev cX8_isPanel : ByteArray := prog_10_method_29_code
def yX8_isPanel : MethodName := ⟨RX8, "isPanel", "(I)Z"⟩
abbrev cX8_panel : ByteArray := prog_10_method_30_code
def yX8_panel : MethodName := ⟨RX8, "panel", "(IIIII)I"⟩
abbrev cX8_give : ByteArray := prog_10_method_31_code
def yX8_give : MethodName := ⟨RX8, "give", "(IIIII)I"⟩
abbrev cX8_entry : ByteArray := prog_10_method_32_code
def yX8_entry : MethodName := ⟨RX8, "entry", "(II)I"⟩
abbrev cX8_stands : ByteArray := prog_10_method_33_code
def yX8_stands : MethodName := ⟨RX8, "stands", "(II)I"⟩
abbrev cX8_standing : ByteArray := prog_10_method_34_code
def yX8_standing : MethodName := ⟨RX8, "standing", "()I"⟩
abbrev cX8_strike : ByteArray := prog_10_method_35_code
def yX8_strike : MethodName := ⟨RX8, "strike", "(III)I"⟩
abbrev cX8_unstrike : ByteArray := prog_10_method_36_code
def yX8_unstrike : MethodName := ⟨RX8, "unstrike", "()I"⟩
abbrev cX8_wait : ByteArray := prog_10_method_37_code
def yX8_wait : MethodName := ⟨RX8, "wait", "(I)I"⟩
abbrev cX8_go : ByteArray := prog_10_method_38_code
def yX8_go : MethodName := ⟨RX8, "go", "()I"⟩
abbrev cX8_findPanels : ByteArray := prog_10_method_39_code
def yX8_findPanels : MethodName := ⟨RX8, "findPanels", "(II)V"⟩
abbrev cX8_loads : ByteArray := prog_10_method_40_code
def yX8_loads : MethodName := ⟨RX8, "loads", "(II)V"⟩
abbrev cX8_isLight : ByteArray := prog_10_method_41_code
def yX8_isLight : MethodName := ⟨RX8, "isLight", "(II)Z"⟩
abbrev cX8_tryAll : ByteArray := prog_10_method_42_code
def yX8_tryAll : MethodName := ⟨RX8, "tryAll", "(I)V"⟩
abbrev cX8_best : ByteArray := prog_10_method_43_code
def yX8_best : MethodName := ⟨RX8, "best", "(III)I"⟩
abbrev cX8_given : ByteArray := prog_10_method_44_code
def yX8_given : MethodName := ⟨RX8, "given", "(I)I"⟩
abbrev cX8_exam : ByteArray := prog_10_method_45_code
def yX8_exam : MethodName := ⟨RX8, "exam", "()I"⟩
abbrev cX8_isExam : ByteArray := prog_10_method_46_code
def yX8_isExam : MethodName := ⟨RX8, "isExam", "(I)Z"⟩
abbrev cX8_mark : ByteArray := prog_10_method_47_code
def yX8_mark : MethodName := ⟨RX8, "mark", "(III)I"⟩
abbrev cX8_middleOf : ByteArray := prog_10_method_48_code
def yX8_middleOf : MethodName := ⟨RX8, "middleOf", "(I)I"⟩
abbrev cX8_middle : ByteArray := prog_10_method_49_code
def yX8_middle : MethodName := ⟨RX8, "middle", "(I)I"⟩
abbrev cX8_apart : ByteArray := prog_10_method_50_code
def yX8_apart : MethodName := ⟨RX8, "apart", "(II)I"⟩
abbrev cX8_hard : ByteArray := prog_10_method_51_code
def yX8_hard : MethodName := ⟨RX8, "hard", "(I)I"⟩
abbrev cX8_tell : ByteArray := prog_10_method_52_code
def yX8_tell : MethodName := ⟨RX8, "tell", "(I)I"⟩
abbrev cX8_check : ByteArray := prog_10_method_53_code
def yX8_check : MethodName := ⟨RX8, "check", "(I)I"⟩
abbrev cX8_count : ByteArray := prog_10_method_54_code
def yX8_count : MethodName := ⟨RX8, "count", "(I)I"⟩
abbrev cX8_found : ByteArray := prog_10_method_55_code
def yX8_found : MethodName := ⟨RX8, "found", "(I)I"⟩
def RJ6 : String := "java/lang/Integer"
def TJ6 : u_T := fun k => match k with
  | _ => ("", "", "", false)
def tyJ6 : Nat → FieldType := fun k => match k with
  | _ => .int
abbrev wsJ60 : List Cond := u_ws RJ6 TJ6 0
theorem nmJ6 : ∀ a, a < 0 → ∀ b, b < 0 → a ≠ b → (TJ6 a).2.1 ≠ (TJ6 b).2.1 := by decide +kernel
theorem tyJ6_ok : ∀ k, k < 0 → parseFieldDescriptor (TJ6 k).2.2.1 = some (tyJ6 k) := by decide +kernel
abbrev cJ6_bitCount_0f7a4 : ByteArray := prog_11_method_49_code
def yJ6_bitCount_0f7a4 : MethodName := ⟨RJ6, "bitCount", "(I)I"⟩
def RJ9 : String := "java/lang/Math"
def TJ9 : u_T := fun k => match k with
  | _ => ("", "", "", false)
def tyJ9 : Nat → FieldType := fun k => match k with
  | _ => .int
abbrev wsJ90 : List Cond := u_ws RJ9 TJ9 0
theorem nmJ9 : ∀ a, a < 0 → ∀ b, b < 0 → a ≠ b → (TJ9 a).2.1 ≠ (TJ9 b).2.1 := by decide +kernel
theorem tyJ9_ok : ∀ k, k < 0 → parseFieldDescriptor (TJ9 k).2.2.1 = some (tyJ9 k) := by decide +kernel
abbrev cJ9_abs_0f7a4 : ByteArray := prog_12_method_59_code
def yJ9_abs_0f7a4 : MethodName := ⟨RJ9, "abs", "(I)I"⟩
abbrev cJ9_max_7cf53 : ByteArray := prog_12_method_65_code
def yJ9_max_7cf53 : MethodName := ⟨RJ9, "max", "(II)I"⟩
abbrev cJ9_min_7cf53 : ByteArray := prog_12_method_69_code
def yJ9_min_7cf53 : MethodName := ⟨RJ9, "min", "(II)I"⟩
def RJ7 : String := "java/util/Arrays"
def TJ7 : u_T := fun k => match k with
  | _ => ("", "", "", false)
def tyJ7 : Nat → FieldType := fun k => match k with
  | _ => .int
abbrev wsJ70 : List Cond := u_ws RJ7 TJ7 0
theorem nmJ7 : ∀ a, a < 0 → ∀ b, b < 0 → a ≠ b → (TJ7 a).2.1 ≠ (TJ7 b).2.1 := by decide +kernel
theorem tyJ7_ok : ∀ k, k < 0 → parseFieldDescriptor (TJ7 k).2.2.1 = some (tyJ7 k) := by decide +kernel
abbrev cJ7_fill_53178 : ByteArray := prog_13_method_103_code
def yJ7_fill_53178 : MethodName := ⟨RJ7, "fill", "([II)V"⟩
def RL : String := "BeltHallLaw"
abbrev cL_law : ByteArray := code
def yL_law : MethodName := ⟨RL, "law", "([I)Z"⟩
abbrev vwCl : List vw_C := [(RX0, TX0, 3), (RX1, TX1, 7), (RX2, TX2, 11), (RX3, TX3, 4), (RX4, TX4, 7), (RX5, TX5, 7), (RX6, TX6, 4), (RX7, TX7, 6), (RX8, TX8, 44)]
theorem inX0 : ∀ w ∈ wsX00, w ∈ lw_tbl := by decide +kernel
theorem inX1 : ∀ w ∈ wsX10, w ∈ lw_tbl := by decide +kernel
theorem inX2 : ∀ w ∈ wsX20, w ∈ lw_tbl := by decide +kernel
theorem inX3 : ∀ w ∈ wsX30, w ∈ lw_tbl := by decide +kernel
theorem inX4 : ∀ w ∈ wsX40, w ∈ lw_tbl := by decide +kernel
theorem inX5 : ∀ w ∈ wsX50, w ∈ lw_tbl := by decide +kernel
theorem inX6 : ∀ w ∈ wsX60, w ∈ lw_tbl := by decide +kernel
theorem inX7 : ∀ w ∈ wsX70, w ∈ lw_tbl := by decide +kernel
theorem inX8 : ∀ w ∈ wsX80, w ∈ lw_tbl := by decide +kernel
