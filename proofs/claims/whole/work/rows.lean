section
-- ===== PART A: goes FIRST, ahead of the names: the tables' words, and 'selects' of the private methods out of them =====
/-- a private method of a class that the tables say can be made, by its rows of tables_1 -/
def lw_okq (q : MethodName × Nat) : Prop := (q.1.cls ≠ "java/lang/invoke/MethodHandle" ∧ q.1.cls ≠ "java/lang/invoke/VarHandle") ∧ Cond.instantiable q.1.cls q.2 ∈ tables_1 ∧ Cond.privateMethod q.1 ∈ tables_1 ∧ Cond.instanceMethod q.1 ∈ tables_1
theorem lw_p0 : lw_okq (⟨"FootBook", "refusalOfWish", "(IIII)I"⟩, 7) := ⟨⟨by decide +kernel, by decide +kernel⟩, List.mem_of_getElem? (i := 11) (by decide +kernel), List.mem_of_getElem? (i := 270) (by decide +kernel), List.mem_of_getElem? (i := 271) (by decide +kernel)⟩
theorem lw_p1 : lw_okq (⟨"FootBook", "learnCheapest", "()V"⟩, 7) := ⟨⟨by decide +kernel, by decide +kernel⟩, List.mem_of_getElem? (i := 11) (by decide +kernel), List.mem_of_getElem? (i := 303) (by decide +kernel), List.mem_of_getElem? (i := 304) (by decide +kernel)⟩
theorem lw_p2 : lw_okq (⟨"FootBook$Search", "aimAt", "(LFootBook$Chip;LFootBook$Board;I)V"⟩, 18) := ⟨⟨by decide +kernel, by decide +kernel⟩, List.mem_of_getElem? (i := 97) (by decide +kernel), List.mem_of_getElem? (i := 312) (by decide +kernel), List.mem_of_getElem? (i := 313) (by decide +kernel)⟩
theorem lw_p3 : lw_okq (⟨"FootBook$Search", "begin", "(I)V"⟩, 18) := ⟨⟨by decide +kernel, by decide +kernel⟩, List.mem_of_getElem? (i := 97) (by decide +kernel), List.mem_of_getElem? (i := 348) (by decide +kernel), List.mem_of_getElem? (i := 349) (by decide +kernel)⟩
theorem lw_p4 : lw_okq (⟨"FootBook$Search", "setBounds", "()V"⟩, 18) := ⟨⟨by decide +kernel, by decide +kernel⟩, List.mem_of_getElem? (i := 97) (by decide +kernel), List.mem_of_getElem? (i := 353) (by decide +kernel), List.mem_of_getElem? (i := 354) (by decide +kernel)⟩
theorem lw_p5 : lw_okq (⟨"FootBook$Search", "lightestFoot", "(III)I"⟩, 18) := ⟨⟨by decide +kernel, by decide +kernel⟩, List.mem_of_getElem? (i := 97) (by decide +kernel), List.mem_of_getElem? (i := 357) (by decide +kernel), List.mem_of_getElem? (i := 358) (by decide +kernel)⟩
theorem lw_p6 : lw_okq (⟨"FootBook$Search", "weigh", "(IIII)I"⟩, 18) := ⟨⟨by decide +kernel, by decide +kernel⟩, List.mem_of_getElem? (i := 97) (by decide +kernel), List.mem_of_getElem? (i := 361) (by decide +kernel), List.mem_of_getElem? (i := 362) (by decide +kernel)⟩
theorem lw_p7 : lw_okq (⟨"FootBook$Search", "giveUnit", "(II)V"⟩, 18) := ⟨⟨by decide +kernel, by decide +kernel⟩, List.mem_of_getElem? (i := 97) (by decide +kernel), List.mem_of_getElem? (i := 366) (by decide +kernel), List.mem_of_getElem? (i := 367) (by decide +kernel)⟩
theorem lw_p8 : lw_okq (⟨"FootBook$Search", "reach", "(I)V"⟩, 18) := ⟨⟨by decide +kernel, by decide +kernel⟩, List.mem_of_getElem? (i := 97) (by decide +kernel), List.mem_of_getElem? (i := 370) (by decide +kernel), List.mem_of_getElem? (i := 371) (by decide +kernel)⟩
theorem lw_p9 : lw_okq (⟨"FootBook$Search", "isOver", "()Z"⟩, 18) := ⟨⟨by decide +kernel, by decide +kernel⟩, List.mem_of_getElem? (i := 97) (by decide +kernel), List.mem_of_getElem? (i := 381) (by decide +kernel), List.mem_of_getElem? (i := 382) (by decide +kernel)⟩
theorem lw_p10 : lw_okq (⟨"FootBook$Search", "giveFoot", "(III)V"⟩, 18) := ⟨⟨by decide +kernel, by decide +kernel⟩, List.mem_of_getElem? (i := 97) (by decide +kernel), List.mem_of_getElem? (i := 385) (by decide +kernel), List.mem_of_getElem? (i := 386) (by decide +kernel)⟩
theorem lw_p11 : lw_okq (⟨"FootBook$Search", "wishedFrom", "(II)I"⟩, 18) := ⟨⟨by decide +kernel, by decide +kernel⟩, List.mem_of_getElem? (i := 97) (by decide +kernel), List.mem_of_getElem? (i := 389) (by decide +kernel), List.mem_of_getElem? (i := 390) (by decide +kernel)⟩
theorem lw_p12 : lw_okq (⟨"FootBook", "countCrossings", "(LFootBook$Giving;)I"⟩, 7) := ⟨⟨by decide +kernel, by decide +kernel⟩, List.mem_of_getElem? (i := 11) (by decide +kernel), List.mem_of_getElem? (i := 416) (by decide +kernel), List.mem_of_getElem? (i := 417) (by decide +kernel)⟩
theorem lw_p13 : lw_okq (⟨"FootBook", "isPossible", "(I)Z"⟩, 7) := ⟨⟨by decide +kernel, by decide +kernel⟩, List.mem_of_getElem? (i := 11) (by decide +kernel), List.mem_of_getElem? (i := 433) (by decide +kernel), List.mem_of_getElem? (i := 434) (by decide +kernel)⟩
theorem lw_p14 : lw_okq (⟨"FootBook", "isGivingNow", "(LFootBook$Giving;)Z"⟩, 7) := ⟨⟨by decide +kernel, by decide +kernel⟩, List.mem_of_getElem? (i := 11) (by decide +kernel), List.mem_of_getElem? (i := 478) (by decide +kernel), List.mem_of_getElem? (i := 479) (by decide +kernel)⟩
theorem lw_p15 : lw_okq (⟨"FootBook", "fits", "(LFootBook$Giving;II)Z"⟩, 7) := ⟨⟨by decide +kernel, by decide +kernel⟩, List.mem_of_getElem? (i := 11) (by decide +kernel), List.mem_of_getElem? (i := 482) (by decide +kernel), List.mem_of_getElem? (i := 483) (by decide +kernel)⟩
def lw_privs_1 : List (MethodName × Nat) := [(⟨"FootBook", "refusalOfWish", "(IIII)I"⟩, 7), (⟨"FootBook", "learnCheapest", "()V"⟩, 7), (⟨"FootBook$Search", "aimAt", "(LFootBook$Chip;LFootBook$Board;I)V"⟩, 18), (⟨"FootBook$Search", "begin", "(I)V"⟩, 18), (⟨"FootBook$Search", "setBounds", "()V"⟩, 18), (⟨"FootBook$Search", "lightestFoot", "(III)I"⟩, 18), (⟨"FootBook$Search", "weigh", "(IIII)I"⟩, 18), (⟨"FootBook$Search", "giveUnit", "(II)V"⟩, 18), (⟨"FootBook$Search", "reach", "(I)V"⟩, 18), (⟨"FootBook$Search", "isOver", "()Z"⟩, 18), (⟨"FootBook$Search", "giveFoot", "(III)V"⟩, 18), (⟨"FootBook$Search", "wishedFrom", "(II)I"⟩, 18), (⟨"FootBook", "countCrossings", "(LFootBook$Giving;)I"⟩, 7), (⟨"FootBook", "isPossible", "(I)Z"⟩, 7), (⟨"FootBook", "isGivingNow", "(LFootBook$Giving;)Z"⟩, 7), (⟨"FootBook", "fits", "(LFootBook$Giving;II)Z"⟩, 7)]
theorem lw_r1 : ∀ q ∈ lw_privs_1, lw_okq q := List.forall_mem_cons.mpr ⟨lw_p0, List.forall_mem_cons.mpr ⟨lw_p1, List.forall_mem_cons.mpr ⟨lw_p2, List.forall_mem_cons.mpr ⟨lw_p3, List.forall_mem_cons.mpr ⟨lw_p4, List.forall_mem_cons.mpr ⟨lw_p5, List.forall_mem_cons.mpr ⟨lw_p6, List.forall_mem_cons.mpr ⟨lw_p7, List.forall_mem_cons.mpr ⟨lw_p8, List.forall_mem_cons.mpr ⟨lw_p9, List.forall_mem_cons.mpr ⟨lw_p10, List.forall_mem_cons.mpr ⟨lw_p11, List.forall_mem_cons.mpr ⟨lw_p12, List.forall_mem_cons.mpr ⟨lw_p13, List.forall_mem_cons.mpr ⟨lw_p14, List.forall_mem_cons.mpr ⟨lw_p15, fun _ h => absurd h List.not_mem_nil⟩⟩⟩⟩⟩⟩⟩⟩⟩⟩⟩⟩⟩⟩⟩⟩
theorem lw_p16 : lw_okq (⟨"FootBookModel", "begin", "()V"⟩, 27) := ⟨⟨by decide +kernel, by decide +kernel⟩, List.mem_of_getElem? (i := 491) (by decide +kernel), List.mem_of_getElem? (i := 497) (by decide +kernel), List.mem_of_getElem? (i := 498) (by decide +kernel)⟩
theorem lw_p17 : lw_okq (⟨"FootBookModel", "empty", "()V"⟩, 27) := ⟨⟨by decide +kernel, by decide +kernel⟩, List.mem_of_getElem? (i := 491) (by decide +kernel), List.mem_of_getElem? (i := 501) (by decide +kernel), List.mem_of_getElem? (i := 502) (by decide +kernel)⟩
theorem lw_p18 : lw_okq (⟨"FootBookModel", "isFoot", "(I)Z"⟩, 27) := ⟨⟨by decide +kernel, by decide +kernel⟩, List.mem_of_getElem? (i := 491) (by decide +kernel), List.mem_of_getElem? (i := 598) (by decide +kernel), List.mem_of_getElem? (i := 599) (by decide +kernel)⟩
theorem lw_p19 : lw_okq (⟨"FootBookModel", "can", "(III)Z"⟩, 27) := ⟨⟨by decide +kernel, by decide +kernel⟩, List.mem_of_getElem? (i := 491) (by decide +kernel), List.mem_of_getElem? (i := 614) (by decide +kernel), List.mem_of_getElem? (i := 615) (by decide +kernel)⟩
theorem lw_p20 : lw_okq (⟨"FootBookModel", "isWish", "(I)Z"⟩, 27) := ⟨⟨by decide +kernel, by decide +kernel⟩, List.mem_of_getElem? (i := 491) (by decide +kernel), List.mem_of_getElem? (i := 630) (by decide +kernel), List.mem_of_getElem? (i := 631) (by decide +kernel)⟩
theorem lw_p21 : lw_okq (⟨"FootBookModel", "hasRole", "(II)Z"⟩, 27) := ⟨⟨by decide +kernel, by decide +kernel⟩, List.mem_of_getElem? (i := 491) (by decide +kernel), List.mem_of_getElem? (i := 638) (by decide +kernel), List.mem_of_getElem? (i := 639) (by decide +kernel)⟩
theorem lw_p22 : lw_okq (⟨"FootBookModel", "find", "(Z)Z"⟩, 27) := ⟨⟨by decide +kernel, by decide +kernel⟩, List.mem_of_getElem? (i := 491) (by decide +kernel), List.mem_of_getElem? (i := 650) (by decide +kernel), List.mem_of_getElem? (i := 651) (by decide +kernel)⟩
theorem lw_p23 : lw_okq (⟨"FootBookModel", "all", "()I"⟩, 27) := ⟨⟨by decide +kernel, by decide +kernel⟩, List.mem_of_getElem? (i := 491) (by decide +kernel), List.mem_of_getElem? (i := 654) (by decide +kernel), List.mem_of_getElem? (i := 655) (by decide +kernel)⟩
theorem lw_p24 : lw_okq (⟨"FootBookModel", "start", "(IZ)V"⟩, 27) := ⟨⟨by decide +kernel, by decide +kernel⟩, List.mem_of_getElem? (i := 491) (by decide +kernel), List.mem_of_getElem? (i := 658) (by decide +kernel), List.mem_of_getElem? (i := 659) (by decide +kernel)⟩
theorem lw_p25 : lw_okq (⟨"FootBookModel", "next", "()Z"⟩, 27) := ⟨⟨by decide +kernel, by decide +kernel⟩, List.mem_of_getElem? (i := 491) (by decide +kernel), List.mem_of_getElem? (i := 662) (by decide +kernel), List.mem_of_getElem? (i := 663) (by decide +kernel)⟩
theorem lw_p26 : lw_okq (⟨"FootBookModel", "fits", "(II)Z"⟩, 27) := ⟨⟨by decide +kernel, by decide +kernel⟩, List.mem_of_getElem? (i := 491) (by decide +kernel), List.mem_of_getElem? (i := 666) (by decide +kernel), List.mem_of_getElem? (i := 667) (by decide +kernel)⟩
theorem lw_p27 : lw_okq (⟨"FootBookModel", "unitPlace", "(I)I"⟩, 27) := ⟨⟨by decide +kernel, by decide +kernel⟩, List.mem_of_getElem? (i := 491) (by decide +kernel), List.mem_of_getElem? (i := 670) (by decide +kernel), List.mem_of_getElem? (i := 671) (by decide +kernel)⟩
theorem lw_p28 : lw_okq (⟨"FootBookModel", "isBetter", "(I)Z"⟩, 27) := ⟨⟨by decide +kernel, by decide +kernel⟩, List.mem_of_getElem? (i := 491) (by decide +kernel), List.mem_of_getElem? (i := 674) (by decide +kernel), List.mem_of_getElem? (i := 675) (by decide +kernel)⟩
theorem lw_p29 : lw_okq (⟨"FootBookModel", "movesTo", "(I)I"⟩, 27) := ⟨⟨by decide +kernel, by decide +kernel⟩, List.mem_of_getElem? (i := 491) (by decide +kernel), List.mem_of_getElem? (i := 678) (by decide +kernel), List.mem_of_getElem? (i := 679) (by decide +kernel)⟩
theorem lw_p30 : lw_okq (⟨"FootBookModel", "costTo", "(I)I"⟩, 27) := ⟨⟨by decide +kernel, by decide +kernel⟩, List.mem_of_getElem? (i := 491) (by decide +kernel), List.mem_of_getElem? (i := 682) (by decide +kernel), List.mem_of_getElem? (i := 683) (by decide +kernel)⟩
theorem lw_p31 : lw_okq (⟨"FootBookModel", "steps", "(II)I"⟩, 27) := ⟨⟨by decide +kernel, by decide +kernel⟩, List.mem_of_getElem? (i := 491) (by decide +kernel), List.mem_of_getElem? (i := 686) (by decide +kernel), List.mem_of_getElem? (i := 687) (by decide +kernel)⟩
def lw_privs_2 : List (MethodName × Nat) := [(⟨"FootBookModel", "begin", "()V"⟩, 27), (⟨"FootBookModel", "empty", "()V"⟩, 27), (⟨"FootBookModel", "isFoot", "(I)Z"⟩, 27), (⟨"FootBookModel", "can", "(III)Z"⟩, 27), (⟨"FootBookModel", "isWish", "(I)Z"⟩, 27), (⟨"FootBookModel", "hasRole", "(II)Z"⟩, 27), (⟨"FootBookModel", "find", "(Z)Z"⟩, 27), (⟨"FootBookModel", "all", "()I"⟩, 27), (⟨"FootBookModel", "start", "(IZ)V"⟩, 27), (⟨"FootBookModel", "next", "()Z"⟩, 27), (⟨"FootBookModel", "fits", "(II)Z"⟩, 27), (⟨"FootBookModel", "unitPlace", "(I)I"⟩, 27), (⟨"FootBookModel", "isBetter", "(I)Z"⟩, 27), (⟨"FootBookModel", "movesTo", "(I)I"⟩, 27), (⟨"FootBookModel", "costTo", "(I)I"⟩, 27), (⟨"FootBookModel", "steps", "(II)I"⟩, 27)]
theorem lw_r2 : ∀ q ∈ lw_privs_2, lw_okq q := List.forall_mem_cons.mpr ⟨lw_p16, List.forall_mem_cons.mpr ⟨lw_p17, List.forall_mem_cons.mpr ⟨lw_p18, List.forall_mem_cons.mpr ⟨lw_p19, List.forall_mem_cons.mpr ⟨lw_p20, List.forall_mem_cons.mpr ⟨lw_p21, List.forall_mem_cons.mpr ⟨lw_p22, List.forall_mem_cons.mpr ⟨lw_p23, List.forall_mem_cons.mpr ⟨lw_p24, List.forall_mem_cons.mpr ⟨lw_p25, List.forall_mem_cons.mpr ⟨lw_p26, List.forall_mem_cons.mpr ⟨lw_p27, List.forall_mem_cons.mpr ⟨lw_p28, List.forall_mem_cons.mpr ⟨lw_p29, List.forall_mem_cons.mpr ⟨lw_p30, List.forall_mem_cons.mpr ⟨lw_p31, fun _ h => absurd h List.not_mem_nil⟩⟩⟩⟩⟩⟩⟩⟩⟩⟩⟩⟩⟩⟩⟩⟩
theorem lw_p32 : lw_okq (⟨"FootBookModel", "keepBest", "()V"⟩, 27) := ⟨⟨by decide +kernel, by decide +kernel⟩, List.mem_of_getElem? (i := 491) (by decide +kernel), List.mem_of_getElem? (i := 690) (by decide +kernel), List.mem_of_getElem? (i := 691) (by decide +kernel)⟩
theorem lw_p33 : lw_okq (⟨"FootBookModel", "keepBound", "()V"⟩, 27) := ⟨⟨by decide +kernel, by decide +kernel⟩, List.mem_of_getElem? (i := 491) (by decide +kernel), List.mem_of_getElem? (i := 694) (by decide +kernel), List.mem_of_getElem? (i := 695) (by decide +kernel)⟩
theorem lw_p34 : lw_okq (⟨"FootBookModel", "take", "()V"⟩, 27) := ⟨⟨by decide +kernel, by decide +kernel⟩, List.mem_of_getElem? (i := 491) (by decide +kernel), List.mem_of_getElem? (i := 731) (by decide +kernel), List.mem_of_getElem? (i := 732) (by decide +kernel)⟩
def lw_privs_3 : List (MethodName × Nat) := [(⟨"FootBookModel", "keepBest", "()V"⟩, 27), (⟨"FootBookModel", "keepBound", "()V"⟩, 27), (⟨"FootBookModel", "take", "()V"⟩, 27)]
theorem lw_r3 : ∀ q ∈ lw_privs_3, lw_okq q := List.forall_mem_cons.mpr ⟨lw_p32, List.forall_mem_cons.mpr ⟨lw_p33, List.forall_mem_cons.mpr ⟨lw_p34, fun _ h => absurd h List.not_mem_nil⟩⟩⟩
def lw_privs : List (MethodName × Nat) := lw_privs_1 ++ (lw_privs_2 ++ (lw_privs_3))
def lw_tbl : List Cond := k2_sels lw_privs ++ tables_1
theorem lw_privs_ok : ∀ q ∈ lw_privs, lw_okq q := by
  show ∀ q ∈ lw_privs_1 ++ (lw_privs_2 ++ (lw_privs_3)), lw_okq q
  exact List.forall_mem_append.mpr ⟨lw_r1, List.forall_mem_append.mpr ⟨lw_r2, lw_r3⟩⟩
end
section
def RX0 : String := "FootBook$Board"
def TX0 : u_T := fun k => match k with
  | 0 => ("FootBook$Board", "wishCount", "I", false)
  | 1 => ("FootBook$Board", "kinds", "[I", true)
  | 2 => ("FootBook$Board", "roles", "[I", true)
  | 3 => ("FootBook$Board", "volts", "[I", true)
  | 4 => ("FootBook$Board", "places", "[I", true)
  | _ => ("FootBook$Board", "fixed", "[I", true)
def tyX0 : Nat → FieldType := fun k => match k with
  | 0 => .int
  | 1 => .array .int
  | 2 => .array .int
  | 3 => .array .int
  | 4 => .array .int
  | _ => .array .int
abbrev wsX00 : List Cond := u_ws RX0 TX0 6
theorem nmX0 : ∀ a, a < 6 → ∀ b, b < 6 → a ≠ b → (TX0 a).2.1 ≠ (TX0 b).2.1 := by decide +kernel
theorem tyX0_ok : ∀ k, k < 6 → parseFieldDescriptor (TX0 k).2.2.1 = some (tyX0 k) := by decide +kernel
abbrev cX0_init : ByteArray := prog_2_method_1_code
def yX0_init : MethodName := ⟨RX0, "<init>", "()V"⟩
abbrev cX0_hasWish : ByteArray := prog_2_method_2_code
def yX0_hasWish : MethodName := ⟨RX0, "hasWish", "(I)Z"⟩
abbrev cX0_wants : ByteArray := prog_2_method_3_code
def yX0_wants : MethodName := ⟨RX0, "wants", "(II)Z"⟩
abbrev cX0_add : ByteArray := prog_2_method_4_code
def yX0_add : MethodName := ⟨RX0, "add", "(IIII)I"⟩
abbrev cX0_countOfKind : ByteArray := prog_2_method_5_code
def yX0_countOfKind : MethodName := ⟨RX0, "countOfKind", "(II)I"⟩
abbrev cX0_openFeet : ByteArray := prog_2_method_6_code
def yX0_openFeet : MethodName := ⟨RX0, "openFeet", "(LFootBook$Chip;III)I"⟩
def RX1 : String := "FootBook$Chip"
def TX1 : u_T := fun k => match k with
  | 0 => ("FootBook$Chip", "footCount", "I", false)
  | 1 => ("FootBook$Chip", "unitCount", "I", false)
  | 2 => ("FootBook$Chip", "useCount", "I", false)
  | 3 => ("FootBook$Chip", "volts", "[I", true)
  | 4 => ("FootBook$Chip", "kinds", "[I", true)
  | 5 => ("FootBook$Chip", "uses", "[I", true)
  | _ => ("FootBook$Chip", "able", "[I", true)
def tyX1 : Nat → FieldType := fun k => match k with
  | 0 => .int
  | 1 => .int
  | 2 => .int
  | 3 => .array .int
  | 4 => .array .int
  | 5 => .array .int
  | _ => .array .int
abbrev wsX10 : List Cond := u_ws RX1 TX1 7
theorem nmX1 : ∀ a, a < 7 → ∀ b, b < 7 → a ≠ b → (TX1 a).2.1 ≠ (TX1 b).2.1 := by decide +kernel
theorem tyX1_ok : ∀ k, k < 7 → parseFieldDescriptor (TX1 k).2.2.1 = some (tyX1 k) := by decide +kernel
abbrev cX1_init : ByteArray := prog_3_method_1_code
def yX1_init : MethodName := ⟨RX1, "<init>", "()V"⟩
abbrev cX1_renew : ByteArray := prog_3_method_2_code
def yX1_renew : MethodName := ⟨RX1, "renew", "(I)V"⟩
abbrev cX1_hasFoot : ByteArray := prog_3_method_3_code
def yX1_hasFoot : MethodName := ⟨RX1, "hasFoot", "(I)Z"⟩
abbrev cX1_hasUnit : ByteArray := prog_3_method_4_code
def yX1_hasUnit : MethodName := ⟨RX1, "hasUnit", "(I)Z"⟩
abbrev cX1_isAble : ByteArray := prog_3_method_5_code
def yX1_isAble : MethodName := ⟨RX1, "isAble", "(III)Z"⟩
abbrev cX1_addUnit : ByteArray := prog_3_method_6_code
def yX1_addUnit : MethodName := ⟨RX1, "addUnit", "(I)I"⟩
abbrev cX1_addUse : ByteArray := prog_3_method_7_code
def yX1_addUse : MethodName := ⟨RX1, "addUse", "(III)I"⟩
abbrev cX1_countOfKind : ByteArray := prog_3_method_8_code
def yX1_countOfKind : MethodName := ⟨RX1, "countOfKind", "(I)I"⟩
abbrev cX1_feetOfVolt : ByteArray := prog_3_method_9_code
def yX1_feetOfVolt : MethodName := ⟨RX1, "feetOfVolt", "(I)I"⟩
abbrev cX1_steps : ByteArray := prog_3_method_10_code
def yX1_steps : MethodName := ⟨RX1, "steps", "(II)I"⟩
def RX2 : String := "FootBook$Giving"
def TX2 : u_T := fun k => match k with
  | 0 => ("FootBook$Giving", "holds", "Z", false)
  | 1 => ("FootBook$Giving", "wishCount", "I", false)
  | 2 => ("FootBook$Giving", "units", "[I", true)
  | _ => ("FootBook$Giving", "feet", "[I", true)
def tyX2 : Nat → FieldType := fun k => match k with
  | 0 => .boolean
  | 1 => .int
  | 2 => .array .int
  | _ => .array .int
abbrev wsX20 : List Cond := u_ws RX2 TX2 4
theorem nmX2 : ∀ a, a < 4 → ∀ b, b < 4 → a ≠ b → (TX2 a).2.1 ≠ (TX2 b).2.1 := by decide +kernel
theorem tyX2_ok : ∀ k, k < 4 → parseFieldDescriptor (TX2 k).2.2.1 = some (tyX2 k) := by decide +kernel
abbrev cX2_init : ByteArray := prog_4_method_1_code
def yX2_init : MethodName := ⟨RX2, "<init>", "()V"⟩
abbrev cX2_clear : ByteArray := prog_4_method_2_code
def yX2_clear : MethodName := ⟨RX2, "clear", "()V"⟩
abbrev cX2_copy : ByteArray := prog_4_method_3_code
def yX2_copy : MethodName := ⟨RX2, "copy", "(LFootBook$Giving;)V"⟩
abbrev cX2_unitOf : ByteArray := prog_4_method_4_code
def yX2_unitOf : MethodName := ⟨RX2, "unitOf", "(I)I"⟩
abbrev cX2_footOf : ByteArray := prog_4_method_5_code
def yX2_footOf : MethodName := ⟨RX2, "footOf", "(II)I"⟩
abbrev cX2_slotOn : ByteArray := prog_4_method_6_code
def yX2_slotOn : MethodName := ⟨RX2, "slotOn", "(I)I"⟩
def RX3 : String := "FootBook$Search"
def TX3 : u_T := fun k => match k with
  | 0 => ("FootBook$Search", "found", "LFootBook$Giving;", true)
  | 1 => ("FootBook$Search", "making", "LFootBook$Giving;", true)
  | 2 => ("FootBook$Search", "kept", "LFootBook$Giving;", true)
  | 3 => ("FootBook$Search", "wishCount", "I", false)
  | 4 => ("FootBook$Search", "unitCount", "I", false)
  | 5 => ("FootBook$Search", "footCount", "I", false)
  | 6 => ("FootBook$Search", "roles", "[I", true)
  | 7 => ("FootBook$Search", "open", "[I", true)
  | 8 => ("FootBook$Search", "steps", "[I", true)
  | 9 => ("FootBook$Search", "rolesFrom", "[I", true)
  | 10 => ("FootBook$Search", "wishesFrom", "[I", true)
  | 11 => ("FootBook$Search", "lastSlot", "I", false)
  | 12 => ("FootBook$Search", "enoughUnits", "Z", false)
  | 13 => ("FootBook$Search", "unitsTaken", "I", false)
  | 14 => ("FootBook$Search", "feetTaken", "I", false)
  | 15 => ("FootBook$Search", "least", "I", false)
  | 16 => ("FootBook$Search", "counted", "I", false)
  | _ => ("FootBook$Search", "countLimit", "I", false)
def tyX3 : Nat → FieldType := fun k => match k with
  | 0 => .object "FootBook$Giving"
  | 1 => .object "FootBook$Giving"
  | 2 => .object "FootBook$Giving"
  | 3 => .int
  | 4 => .int
  | 5 => .int
  | 6 => .array .int
  | 7 => .array .int
  | 8 => .array .int
  | 9 => .array .int
  | 10 => .array .int
  | 11 => .int
  | 12 => .boolean
  | 13 => .int
  | 14 => .int
  | 15 => .int
  | 16 => .int
  | _ => .int
abbrev wsX30 : List Cond := u_ws RX3 TX3 18
theorem nmX3 : ∀ a, a < 18 → ∀ b, b < 18 → a ≠ b → (TX3 a).2.1 ≠ (TX3 b).2.1 := by decide +kernel
theorem tyX3_ok : ∀ k, k < 18 → parseFieldDescriptor (TX3 k).2.2.1 = some (tyX3 k) := by decide +kernel
abbrev cX3_init : ByteArray := prog_5_method_1_code
def yX3_init : MethodName := ⟨RX3, "<init>", "()V"⟩
abbrev cX3_aim : ByteArray := prog_5_method_2_code
def yX3_aim : MethodName := ⟨RX3, "aim", "(LFootBook$Chip;LFootBook$Board;I)V"⟩
abbrev cX3_aimAt : ByteArray := prog_5_method_3_code
def yX3_aimAt : MethodName := ⟨RX3, "aimAt", "(LFootBook$Chip;LFootBook$Board;I)V"⟩
abbrev cX3_compareWith : ByteArray := prog_5_method_4_code
def yX3_compareWith : MethodName := ⟨RX3, "compareWith", "(LFootBook$Giving;)V"⟩
abbrev cX3_findLeast : ByteArray := prog_5_method_5_code
def yX3_findLeast : MethodName := ⟨RX3, "findLeast", "()I"⟩
abbrev cX3_countUpTo : ByteArray := prog_5_method_6_code
def yX3_countUpTo : MethodName := ⟨RX3, "countUpTo", "(I)I"⟩
abbrev cX3_begin : ByteArray := prog_5_method_7_code
def yX3_begin : MethodName := ⟨RX3, "begin", "(I)V"⟩
abbrev cX3_setBounds : ByteArray := prog_5_method_8_code
def yX3_setBounds : MethodName := ⟨RX3, "setBounds", "()V"⟩
abbrev cX3_lightestFoot : ByteArray := prog_5_method_9_code
def yX3_lightestFoot : MethodName := ⟨RX3, "lightestFoot", "(III)I"⟩
abbrev cX3_weigh : ByteArray := prog_5_method_10_code
def yX3_weigh : MethodName := ⟨RX3, "weigh", "(IIII)I"⟩
abbrev cX3_isOver : ByteArray := prog_5_method_11_code
def yX3_isOver : MethodName := ⟨RX3, "isOver", "()Z"⟩
abbrev cX3_giveUnit : ByteArray := prog_5_method_12_code
def yX3_giveUnit : MethodName := ⟨RX3, "giveUnit", "(II)V"⟩
abbrev cX3_giveFoot : ByteArray := prog_5_method_13_code
def yX3_giveFoot : MethodName := ⟨RX3, "giveFoot", "(III)V"⟩
abbrev cX3_wishedFrom : ByteArray := prog_5_method_14_code
def yX3_wishedFrom : MethodName := ⟨RX3, "wishedFrom", "(II)I"⟩
abbrev cX3_reach : ByteArray := prog_5_method_15_code
def yX3_reach : MethodName := ⟨RX3, "reach", "(I)V"⟩
def RX4 : String := "FootBook"
def TX4 : u_T := fun k => match k with
  | 0 => ("FootBook", "chip", "LFootBook$Chip;", true)
  | 1 => ("FootBook", "board", "LFootBook$Board;", true)
  | 2 => ("FootBook", "search", "LFootBook$Search;", true)
  | 3 => ("FootBook", "hand", "LFootBook$Giving;", true)
  | 4 => ("FootBook", "cheapest", "LFootBook$Giving;", true)
  | 5 => ("FootBook", "cheapestCost", "I", false)
  | _ => ("FootBook", "cheapestKnown", "Z", false)
def tyX4 : Nat → FieldType := fun k => match k with
  | 0 => .object "FootBook$Chip"
  | 1 => .object "FootBook$Board"
  | 2 => .object "FootBook$Search"
  | 3 => .object "FootBook$Giving"
  | 4 => .object "FootBook$Giving"
  | 5 => .int
  | _ => .boolean
abbrev wsX40 : List Cond := u_ws RX4 TX4 7
theorem nmX4 : ∀ a, a < 7 → ∀ b, b < 7 → a ≠ b → (TX4 a).2.1 ≠ (TX4 b).2.1 := by decide +kernel
theorem tyX4_ok : ∀ k, k < 7 → parseFieldDescriptor (TX4 k).2.2.1 = some (tyX4 k) := by decide +kernel
abbrev cX4_init : ByteArray := prog_1_method_1_code
def yX4_init : MethodName := ⟨RX4, "<init>", "()V"⟩
abbrev cX4_feet : ByteArray := prog_1_method_2_code
def yX4_feet : MethodName := ⟨RX4, "feet", "(I)I"⟩
abbrev cX4_volt : ByteArray := prog_1_method_3_code
def yX4_volt : MethodName := ⟨RX4, "volt", "(II)I"⟩
abbrev cX4_unit : ByteArray := prog_1_method_4_code
def yX4_unit : MethodName := ⟨RX4, "unit", "(I)I"⟩
abbrev cX4_kind : ByteArray := prog_1_method_5_code
def yX4_kind : MethodName := ⟨RX4, "kind", "(I)I"⟩
abbrev cX4_use : ByteArray := prog_1_method_6_code
def yX4_use : MethodName := ⟨RX4, "use", "(III)I"⟩
abbrev cX4_about : ByteArray := prog_1_method_7_code
def yX4_about : MethodName := ⟨RX4, "about", "(II)I"⟩
abbrev cX4_wish : ByteArray := prog_1_method_8_code
def yX4_wish : MethodName := ⟨RX4, "wish", "(IIII)I"⟩
abbrev cX4_wished : ByteArray := prog_1_method_9_code
def yX4_wished : MethodName := ⟨RX4, "wished", "(II)I"⟩
abbrev cX4_fix : ByteArray := prog_1_method_10_code
def yX4_fix : MethodName := ⟨RX4, "fix", "(III)I"⟩
abbrev cX4_drop : ByteArray := prog_1_method_11_code
def yX4_drop : MethodName := ⟨RX4, "drop", "()I"⟩
abbrev cX4_best : ByteArray := prog_1_method_12_code
def yX4_best : MethodName := ⟨RX4, "best", "()I"⟩
abbrev cX4_given : ByteArray := prog_1_method_13_code
def yX4_given : MethodName := ⟨RX4, "given", "(II)I"⟩
abbrev cX4_crossings : ByteArray := prog_1_method_14_code
def yX4_crossings : MethodName := ⟨RX4, "crossings", "()I"⟩
abbrev cX4_blame : ByteArray := prog_1_method_15_code
def yX4_blame : MethodName := ⟨RX4, "blame", "()I"⟩
abbrev cX4_many : ByteArray := prog_1_method_16_code
def yX4_many : MethodName := ⟨RX4, "many", "()I"⟩
abbrev cX4_trial : ByteArray := prog_1_method_17_code
def yX4_trial : MethodName := ⟨RX4, "trial", "(IIII)I"⟩
abbrev cX4_hold : ByteArray := prog_1_method_18_code
def yX4_hold : MethodName := ⟨RX4, "hold", "()I"⟩
abbrev cX4_change : ByteArray := prog_1_method_19_code
def yX4_change : MethodName := ⟨RX4, "change", "()I"⟩
abbrev cX4_held : ByteArray := prog_1_method_20_code
def yX4_held : MethodName := ⟨RX4, "held", "(II)I"⟩
abbrev cX4_setting : ByteArray := prog_1_method_21_code
def yX4_setting : MethodName := ⟨RX4, "setting", "(I)I"⟩
abbrev cX4_stands : ByteArray := prog_1_method_22_code
def yX4_stands : MethodName := ⟨RX4, "stands", "()I"⟩
abbrev cX4_told : ByteArray := prog_1_method_23_code
def yX4_told : MethodName := ⟨RX4, "told", "(I)I"⟩
abbrev cX4_isKind : ByteArray := prog_1_method_24_code
def yX4_isKind : MethodName := ⟨RX4, "isKind", "(I)Z"⟩
abbrev cX4_isRole : ByteArray := prog_1_method_25_code
def yX4_isRole : MethodName := ⟨RX4, "isRole", "(I)Z"⟩
abbrev cX4_refusalOfWish : ByteArray := prog_1_method_26_code
def yX4_refusalOfWish : MethodName := ⟨RX4, "refusalOfWish", "(IIII)I"⟩
abbrev cX4_learnCheapest : ByteArray := prog_1_method_27_code
def yX4_learnCheapest : MethodName := ⟨RX4, "learnCheapest", "()V"⟩
abbrev cX4_isPossible : ByteArray := prog_1_method_28_code
def yX4_isPossible : MethodName := ⟨RX4, "isPossible", "(I)Z"⟩
abbrev cX4_countCrossings : ByteArray := prog_1_method_29_code
def yX4_countCrossings : MethodName := ⟨RX4, "countCrossings", "(LFootBook$Giving;)I"⟩
abbrev cX4_cross : ByteArray := prog_1_method_30_code
def yX4_cross : MethodName := ⟨RX4, "cross", "(IIII)Z"⟩
abbrev cX4_isGivingNow : ByteArray := prog_1_method_31_code
def yX4_isGivingNow : MethodName := ⟨RX4, "isGivingNow", "(LFootBook$Giving;)Z"⟩
abbrev cX4_fits : ByteArray := prog_1_method_32_code
def yX4_fits : MethodName := ⟨RX4, "fits", "(LFootBook$Giving;II)Z"⟩
def RX5 : String := "FootBookModel"
def TX5 : u_T := fun k => match k with
  | 0 => ("FootBookModel", "feet", "I", false)
  | 1 => ("FootBookModel", "volt", "[I", true)
  | 2 => ("FootBookModel", "units", "I", false)
  | 3 => ("FootBookModel", "kind", "[I", true)
  | 4 => ("FootBookModel", "uses", "I", false)
  | 5 => ("FootBookModel", "useFoot", "[I", true)
  | 6 => ("FootBookModel", "useUnit", "[I", true)
  | 7 => ("FootBookModel", "useRole", "[I", true)
  | 8 => ("FootBookModel", "wishes", "I", false)
  | 9 => ("FootBookModel", "wKind", "[I", true)
  | 10 => ("FootBookModel", "wRoles", "[I", true)
  | 11 => ("FootBookModel", "wVolt", "[I", true)
  | 12 => ("FootBookModel", "wPlace", "[I", true)
  | 13 => ("FootBookModel", "fixed", "[I", true)
  | 14 => ("FootBookModel", "isHeld", "Z", false)
  | 15 => ("FootBookModel", "handUnit", "[I", true)
  | 16 => ("FootBookModel", "handFoot", "[I", true)
  | 17 => ("FootBookModel", "places", "I", false)
  | 18 => ("FootBookModel", "ofWish", "[I", true)
  | 19 => ("FootBookModel", "ofRole", "[I", true)
  | 20 => ("FootBookModel", "value", "[I", true)
  | 21 => ("FootBookModel", "isFresh", "Z", false)
  | 22 => ("FootBookModel", "byMoves", "Z", false)
  | 23 => ("FootBookModel", "mostMoves", "I", false)
  | 24 => ("FootBookModel", "mostCost", "I", false)
  | 25 => ("FootBookModel", "bestUnit", "[I", true)
  | _ => ("FootBookModel", "bestFoot", "[I", true)
def tyX5 : Nat → FieldType := fun k => match k with
  | 0 => .int
  | 1 => .array .int
  | 2 => .int
  | 3 => .array .int
  | 4 => .int
  | 5 => .array .int
  | 6 => .array .int
  | 7 => .array .int
  | 8 => .int
  | 9 => .array .int
  | 10 => .array .int
  | 11 => .array .int
  | 12 => .array .int
  | 13 => .array .int
  | 14 => .boolean
  | 15 => .array .int
  | 16 => .array .int
  | 17 => .int
  | 18 => .array .int
  | 19 => .array .int
  | 20 => .array .int
  | 21 => .boolean
  | 22 => .boolean
  | 23 => .int
  | 24 => .int
  | 25 => .array .int
  | _ => .array .int
abbrev wsX50 : List Cond := u_ws RX5 TX5 27
theorem nmX5 : ∀ a, a < 27 → ∀ b, b < 27 → a ≠ b → (TX5 a).2.1 ≠ (TX5 b).2.1 := by decide +kernel
theorem tyX5_ok : ∀ k, k < 27 → parseFieldDescriptor (TX5 k).2.2.1 = some (tyX5 k) := by decide +kernel
abbrev cX5_init : ByteArray := prog_7_method_1_code
def yX5_init : MethodName := ⟨RX5, "<init>", "()V"⟩
abbrev cX5_in : ByteArray := prog_7_method_2_code
def yX5_in : MethodName := ⟨RX5, "in", "(III)Z"⟩
abbrev cX5_begin : ByteArray := prog_7_method_3_code
def yX5_begin : MethodName := ⟨RX5, "begin", "()V"⟩
abbrev cX5_empty : ByteArray := prog_7_method_4_code
def yX5_empty : MethodName := ⟨RX5, "empty", "()V"⟩
abbrev cX5_isFoot : ByteArray := prog_7_method_5_code
def yX5_isFoot : MethodName := ⟨RX5, "isFoot", "(I)Z"⟩
abbrev cX5_feet : ByteArray := prog_7_method_6_code
def yX5_feet : MethodName := ⟨RX5, "feet", "(I)I"⟩
abbrev cX5_volt : ByteArray := prog_7_method_7_code
def yX5_volt : MethodName := ⟨RX5, "volt", "(II)I"⟩
abbrev cX5_unit : ByteArray := prog_7_method_8_code
def yX5_unit : MethodName := ⟨RX5, "unit", "(I)I"⟩
abbrev cX5_kind : ByteArray := prog_7_method_9_code
def yX5_kind : MethodName := ⟨RX5, "kind", "(I)I"⟩
abbrev cX5_can : ByteArray := prog_7_method_10_code
def yX5_can : MethodName := ⟨RX5, "can", "(III)Z"⟩
abbrev cX5_use : ByteArray := prog_7_method_11_code
def yX5_use : MethodName := ⟨RX5, "use", "(III)I"⟩
abbrev cX5_about : ByteArray := prog_7_method_12_code
def yX5_about : MethodName := ⟨RX5, "about", "(II)I"⟩
abbrev cX5_wish : ByteArray := prog_7_method_13_code
def yX5_wish : MethodName := ⟨RX5, "wish", "(IIII)I"⟩
abbrev cX5_isWish : ByteArray := prog_7_method_14_code
def yX5_isWish : MethodName := ⟨RX5, "isWish", "(I)Z"⟩
abbrev cX5_hasRole : ByteArray := prog_7_method_15_code
def yX5_hasRole : MethodName := ⟨RX5, "hasRole", "(II)Z"⟩
abbrev cX5_wished : ByteArray := prog_7_method_16_code
def yX5_wished : MethodName := ⟨RX5, "wished", "(II)I"⟩
abbrev cX5_fix : ByteArray := prog_7_method_17_code
def yX5_fix : MethodName := ⟨RX5, "fix", "(III)I"⟩
abbrev cX5_drop : ByteArray := prog_7_method_18_code
def yX5_drop : MethodName := ⟨RX5, "drop", "()I"⟩
abbrev cX5_start : ByteArray := prog_7_method_19_code
def yX5_start : MethodName := ⟨RX5, "start", "(IZ)V"⟩
abbrev cX5_unitPlace : ByteArray := prog_7_method_20_code
def yX5_unitPlace : MethodName := ⟨RX5, "unitPlace", "(I)I"⟩
abbrev cX5_fits : ByteArray := prog_7_method_21_code
def yX5_fits : MethodName := ⟨RX5, "fits", "(II)Z"⟩
abbrev cX5_steps : ByteArray := prog_7_method_22_code
def yX5_steps : MethodName := ⟨RX5, "steps", "(II)I"⟩
abbrev cX5_costTo : ByteArray := prog_7_method_23_code
def yX5_costTo : MethodName := ⟨RX5, "costTo", "(I)I"⟩
abbrev cX5_movesTo : ByteArray := prog_7_method_24_code
def yX5_movesTo : MethodName := ⟨RX5, "movesTo", "(I)I"⟩
abbrev cX5_isBetter : ByteArray := prog_7_method_25_code
def yX5_isBetter : MethodName := ⟨RX5, "isBetter", "(I)Z"⟩
abbrev cX5_keepBound : ByteArray := prog_7_method_26_code
def yX5_keepBound : MethodName := ⟨RX5, "keepBound", "()V"⟩
abbrev cX5_next : ByteArray := prog_7_method_27_code
def yX5_next : MethodName := ⟨RX5, "next", "()Z"⟩
abbrev cX5_all : ByteArray := prog_7_method_28_code
def yX5_all : MethodName := ⟨RX5, "all", "()I"⟩
abbrev cX5_keepBest : ByteArray := prog_7_method_29_code
def yX5_keepBest : MethodName := ⟨RX5, "keepBest", "()V"⟩
abbrev cX5_find : ByteArray := prog_7_method_30_code
def yX5_find : MethodName := ⟨RX5, "find", "(Z)Z"⟩
abbrev cX5_best : ByteArray := prog_7_method_31_code
def yX5_best : MethodName := ⟨RX5, "best", "()I"⟩
abbrev cX5_given : ByteArray := prog_7_method_32_code
def yX5_given : MethodName := ⟨RX5, "given", "(II)I"⟩
abbrev cX5_isBetween : ByteArray := prog_7_method_33_code
def yX5_isBetween : MethodName := ⟨RX5, "isBetween", "(III)Z"⟩
abbrev cX5_crossings : ByteArray := prog_7_method_34_code
def yX5_crossings : MethodName := ⟨RX5, "crossings", "()I"⟩
abbrev cX5_bits : ByteArray := prog_7_method_35_code
def yX5_bits : MethodName := ⟨RX5, "bits", "(I)I"⟩
abbrev cX5_blame : ByteArray := prog_7_method_36_code
def yX5_blame : MethodName := ⟨RX5, "blame", "()I"⟩
abbrev cX5_many : ByteArray := prog_7_method_37_code
def yX5_many : MethodName := ⟨RX5, "many", "()I"⟩
abbrev cX5_trial : ByteArray := prog_7_method_38_code
def yX5_trial : MethodName := ⟨RX5, "trial", "(IIII)I"⟩
abbrev cX5_take : ByteArray := prog_7_method_39_code
def yX5_take : MethodName := ⟨RX5, "take", "()V"⟩
abbrev cX5_hold : ByteArray := prog_7_method_40_code
def yX5_hold : MethodName := ⟨RX5, "hold", "()I"⟩
abbrev cX5_change : ByteArray := prog_7_method_41_code
def yX5_change : MethodName := ⟨RX5, "change", "()I"⟩
abbrev cX5_held : ByteArray := prog_7_method_42_code
def yX5_held : MethodName := ⟨RX5, "held", "(II)I"⟩
abbrev cX5_setting : ByteArray := prog_7_method_43_code
def yX5_setting : MethodName := ⟨RX5, "setting", "(I)I"⟩
abbrev cX5_stands : ByteArray := prog_7_method_44_code
def yX5_stands : MethodName := ⟨RX5, "stands", "()I"⟩
abbrev cX5_told : ByteArray := prog_7_method_45_code
def yX5_told : MethodName := ⟨RX5, "told", "(I)I"⟩
def RJ6 : String := "java/lang/Integer"
def TJ6 : u_T := fun k => match k with
  | _ => ("", "", "", false)
def tyJ6 : Nat → FieldType := fun k => match k with
  | _ => .int
abbrev wsJ60 : List Cond := u_ws RJ6 TJ6 0
theorem nmJ6 : ∀ a, a < 0 → ∀ b, b < 0 → a ≠ b → (TJ6 a).2.1 ≠ (TJ6 b).2.1 := by decide +kernel
theorem tyJ6_ok : ∀ k, k < 0 → parseFieldDescriptor (TJ6 k).2.2.1 = some (tyJ6 k) := by decide +kernel
abbrev cJ6_bitCount_0f7a4 : ByteArray := prog_8_method_49_code
def yJ6_bitCount_0f7a4 : MethodName := ⟨RJ6, "bitCount", "(I)I"⟩
def RJ9 : String := "java/lang/Math"
def TJ9 : u_T := fun k => match k with
  | _ => ("", "", "", false)
def tyJ9 : Nat → FieldType := fun k => match k with
  | _ => .int
abbrev wsJ90 : List Cond := u_ws RJ9 TJ9 0
theorem nmJ9 : ∀ a, a < 0 → ∀ b, b < 0 → a ≠ b → (TJ9 a).2.1 ≠ (TJ9 b).2.1 := by decide +kernel
theorem tyJ9_ok : ∀ k, k < 0 → parseFieldDescriptor (TJ9 k).2.2.1 = some (tyJ9 k) := by decide +kernel
abbrev cJ9_abs_0f7a4 : ByteArray := prog_9_method_59_code
def yJ9_abs_0f7a4 : MethodName := ⟨RJ9, "abs", "(I)I"⟩
abbrev cJ9_max_7cf53 : ByteArray := prog_9_method_65_code
def yJ9_max_7cf53 : MethodName := ⟨RJ9, "max", "(II)I"⟩
abbrev cJ9_min_7cf53 : ByteArray := prog_9_method_69_code
def yJ9_min_7cf53 : MethodName := ⟨RJ9, "min", "(II)I"⟩
def RJ10 : String := "java/lang/System"
def TJ10 : u_T := fun k => match k with
  | _ => ("", "", "", false)
def tyJ10 : Nat → FieldType := fun k => match k with
  | _ => .int
abbrev wsJ100 : List Cond := u_ws RJ10 TJ10 0
theorem nmJ10 : ∀ a, a < 0 → ∀ b, b < 0 → a ≠ b → (TJ10 a).2.1 ≠ (TJ10 b).2.1 := by decide +kernel
theorem tyJ10_ok : ∀ k, k < 0 → parseFieldDescriptor (TJ10 k).2.2.1 = some (tyJ10 k) := by decide +kernel
def RL : String := "FootBookLaw"
abbrev cL_law : ByteArray := code
def yL_law : MethodName := ⟨RL, "law", "([I)Z"⟩
abbrev vwCl : List vw_C := [(RX0, TX0, 6), (RX1, TX1, 7), (RX2, TX2, 4), (RX3, TX3, 18), (RX4, TX4, 7), (RX5, TX5, 27)]
abbrev ai_I : Type := MethodName × ByteArray × Nat × Option FieldType × Nat × Nat
abbrev mX4_init : ai_I := (yX4_init, cX4_init, 1, none, 32, 608)
abbrev mX1_init : ai_I := (yX1_init, cX1_init, 1, none, 4, 136)
abbrev mX1_renew : ai_I := (yX1_renew, cX1_renew, 3, none, 0, 0)
abbrev mX0_init : ai_I := (yX0_init, cX0_init, 1, none, 5, 32)
abbrev mX3_init : ai_I := (yX3_init, cX3_init, 1, none, 14, 361)
abbrev mX2_init : ai_I := (yX2_init, cX2_init, 1, none, 2, 20)
abbrev mX2_clear : ai_I := (yX2_clear, cX2_clear, 2, none, 0, 0)
abbrev mX4_feet : ai_I := (yX4_feet, cX4_feet, 3, (some .int), 0, 0)
abbrev mX4_volt : ai_I := (yX4_volt, cX4_volt, 4, (some .int), 0, 0)
abbrev mX1_hasFoot : ai_I := (yX1_hasFoot, cX1_hasFoot, 2, (some .boolean), 0, 0)
abbrev mX4_unit : ai_I := (yX4_unit, cX4_unit, 2, (some .int), 0, 0)
abbrev mX4_isKind : ai_I := (yX4_isKind, cX4_isKind, 1, (some .boolean), 0, 0)
abbrev mX1_addUnit : ai_I := (yX1_addUnit, cX1_addUnit, 2, (some .int), 0, 0)
abbrev mX4_kind : ai_I := (yX4_kind, cX4_kind, 2, (some .int), 0, 0)
abbrev mX1_hasUnit : ai_I := (yX1_hasUnit, cX1_hasUnit, 2, (some .boolean), 0, 0)
abbrev mX4_use : ai_I := (yX4_use, cX4_use, 4, (some .int), 0, 0)
abbrev mX4_isRole : ai_I := (yX4_isRole, cX4_isRole, 1, (some .boolean), 0, 0)
abbrev mX1_isAble : ai_I := (yX1_isAble, cX1_isAble, 4, (some .boolean), 0, 0)
abbrev mX1_addUse : ai_I := (yX1_addUse, cX1_addUse, 5, (some .int), 0, 0)
abbrev mX4_about : ai_I := (yX4_about, cX4_about, 3, (some .int), 0, 0)
abbrev mX4_wish : ai_I := (yX4_wish, cX4_wish, 6, (some .int), 0, 0)
abbrev mX4_refusalOfWish : ai_I := (yX4_refusalOfWish, cX4_refusalOfWish, 5, (some .int), 0, 0)
abbrev mX0_add : ai_I := (yX0_add, cX0_add, 7, (some .int), 0, 0)
abbrev mX4_wished : ai_I := (yX4_wished, cX4_wished, 3, (some .int), 0, 0)
abbrev mX0_hasWish : ai_I := (yX0_hasWish, cX0_hasWish, 2, (some .boolean), 0, 0)
abbrev mX4_fix : ai_I := (yX4_fix, cX4_fix, 6, (some .int), 0, 0)
abbrev mX0_wants : ai_I := (yX0_wants, cX0_wants, 3, (some .boolean), 0, 0)
abbrev mX4_drop : ai_I := (yX4_drop, cX4_drop, 1, (some .int), 0, 0)
abbrev mX4_best : ai_I := (yX4_best, cX4_best, 1, (some .int), 0, 0)
abbrev mX4_learnCheapest : ai_I := (yX4_learnCheapest, cX4_learnCheapest, 1, none, 0, 0)
abbrev mX3_aim : ai_I := (yX3_aim, cX3_aim, 6, none, 0, 0)
abbrev mX3_aimAt : ai_I := (yX3_aimAt, cX3_aimAt, 6, none, 0, 0)
abbrev mX1_steps : ai_I := (yX1_steps, cX1_steps, 4, (some .int), 0, 0)
abbrev mJ9_abs_0f7a4 : ai_I := (yJ9_abs_0f7a4, cJ9_abs_0f7a4, 1, (some .int), 0, 0)
abbrev mJ9_min_7cf53 : ai_I := (yJ9_min_7cf53, cJ9_min_7cf53, 2, (some .int), 0, 0)
abbrev mX0_openFeet : ai_I := (yX0_openFeet, cX0_openFeet, 7, (some .int), 0, 0)
abbrev mX1_feetOfVolt : ai_I := (yX1_feetOfVolt, cX1_feetOfVolt, 4, (some .int), 0, 0)
abbrev mX0_countOfKind : ai_I := (yX0_countOfKind, cX0_countOfKind, 5, (some .int), 0, 0)
abbrev mX1_countOfKind : ai_I := (yX1_countOfKind, cX1_countOfKind, 4, (some .int), 0, 0)
abbrev mX3_findLeast : ai_I := (yX3_findLeast, cX3_findLeast, 1, (some .int), 0, 0)
abbrev mX3_begin : ai_I := (yX3_begin, cX3_begin, 2, none, 0, 0)
abbrev mX3_setBounds : ai_I := (yX3_setBounds, cX3_setBounds, 6, none, 0, 0)
abbrev mX3_lightestFoot : ai_I := (yX3_lightestFoot, cX3_lightestFoot, 7, (some .int), 0, 0)
abbrev mX3_weigh : ai_I := (yX3_weigh, cX3_weigh, 7, (some .int), 0, 0)
abbrev mX3_giveUnit : ai_I := (yX3_giveUnit, cX3_giveUnit, 4, none, 0, 0)
abbrev mX3_reach : ai_I := (yX3_reach, cX3_reach, 2, none, 0, 0)
abbrev mX2_copy : ai_I := (yX2_copy, cX2_copy, 2, none, 0, 0)
abbrev mX3_isOver : ai_I := (yX3_isOver, cX3_isOver, 1, (some .boolean), 0, 0)
abbrev mX3_giveFoot : ai_I := (yX3_giveFoot, cX3_giveFoot, 10, none, 0, 0)
abbrev mX3_wishedFrom : ai_I := (yX3_wishedFrom, cX3_wishedFrom, 4, (some .int), 0, 0)
abbrev mJ6_bitCount_0f7a4 : ai_I := (yJ6_bitCount_0f7a4, cJ6_bitCount_0f7a4, 1, (some .int), 0, 0)
abbrev mX4_given : ai_I := (yX4_given, cX4_given, 3, (some .int), 0, 0)
abbrev mX2_unitOf : ai_I := (yX2_unitOf, cX2_unitOf, 2, (some .int), 0, 0)
abbrev mX2_footOf : ai_I := (yX2_footOf, cX2_footOf, 3, (some .int), 0, 0)
abbrev mX4_crossings : ai_I := (yX4_crossings, cX4_crossings, 1, (some .int), 0, 0)
abbrev mX4_countCrossings : ai_I := (yX4_countCrossings, cX4_countCrossings, 5, (some .int), 0, 0)
abbrev mX4_cross : ai_I := (yX4_cross, cX4_cross, 7, (some .boolean), 0, 0)
abbrev mJ9_max_7cf53 : ai_I := (yJ9_max_7cf53, cJ9_max_7cf53, 2, (some .int), 0, 0)
abbrev mX4_blame : ai_I := (yX4_blame, cX4_blame, 3, (some .int), 0, 0)
abbrev mX4_isPossible : ai_I := (yX4_isPossible, cX4_isPossible, 2, (some .boolean), 0, 0)
abbrev mX3_countUpTo : ai_I := (yX3_countUpTo, cX3_countUpTo, 2, (some .int), 0, 0)
abbrev mX4_many : ai_I := (yX4_many, cX4_many, 1, (some .int), 0, 0)
abbrev mX4_trial : ai_I := (yX4_trial, cX4_trial, 7, (some .int), 0, 0)
abbrev mX4_hold : ai_I := (yX4_hold, cX4_hold, 1, (some .int), 0, 0)
abbrev mX4_change : ai_I := (yX4_change, cX4_change, 2, (some .int), 0, 0)
abbrev mX3_compareWith : ai_I := (yX3_compareWith, cX3_compareWith, 2, none, 0, 0)
abbrev mX4_held : ai_I := (yX4_held, cX4_held, 3, (some .int), 0, 0)
abbrev mX4_setting : ai_I := (yX4_setting, cX4_setting, 5, (some .int), 0, 0)
abbrev mX2_slotOn : ai_I := (yX2_slotOn, cX2_slotOn, 3, (some .int), 0, 0)
abbrev mX4_stands : ai_I := (yX4_stands, cX4_stands, 1, (some .int), 0, 0)
abbrev mX4_isGivingNow : ai_I := (yX4_isGivingNow, cX4_isGivingNow, 4, (some .boolean), 0, 0)
abbrev mX4_fits : ai_I := (yX4_fits, cX4_fits, 5, (some .boolean), 0, 0)
abbrev mX4_told : ai_I := (yX4_told, cX4_told, 2, (some .int), 0, 0)
abbrev mX5_init : ai_I := (yX5_init, cX5_init, 1, none, 17, 244)
abbrev mX5_begin : ai_I := (yX5_begin, cX5_begin, 2, none, 0, 0)
abbrev mX5_empty : ai_I := (yX5_empty, cX5_empty, 2, none, 0, 0)
abbrev mX5_feet : ai_I := (yX5_feet, cX5_feet, 3, (some .int), 0, 0)
abbrev mX5_in : ai_I := (yX5_in, cX5_in, 3, (some .boolean), 0, 0)
abbrev mX5_volt : ai_I := (yX5_volt, cX5_volt, 4, (some .int), 0, 0)
abbrev mX5_isFoot : ai_I := (yX5_isFoot, cX5_isFoot, 2, (some .boolean), 0, 0)
abbrev mX5_unit : ai_I := (yX5_unit, cX5_unit, 2, (some .int), 0, 0)
abbrev mX5_kind : ai_I := (yX5_kind, cX5_kind, 2, (some .int), 0, 0)
abbrev mX5_use : ai_I := (yX5_use, cX5_use, 4, (some .int), 0, 0)
abbrev mX5_can : ai_I := (yX5_can, cX5_can, 6, (some .boolean), 0, 0)
abbrev mX5_about : ai_I := (yX5_about, cX5_about, 3, (some .int), 0, 0)
abbrev mX5_wish : ai_I := (yX5_wish, cX5_wish, 6, (some .int), 0, 0)
abbrev mX5_wished : ai_I := (yX5_wished, cX5_wished, 3, (some .int), 0, 0)
abbrev mX5_isWish : ai_I := (yX5_isWish, cX5_isWish, 2, (some .boolean), 0, 0)
abbrev mX5_fix : ai_I := (yX5_fix, cX5_fix, 5, (some .int), 0, 0)
abbrev mX5_hasRole : ai_I := (yX5_hasRole, cX5_hasRole, 3, (some .boolean), 0, 0)
abbrev mX5_drop : ai_I := (yX5_drop, cX5_drop, 1, (some .int), 0, 0)
abbrev mX5_best : ai_I := (yX5_best, cX5_best, 1, (some .int), 0, 0)
abbrev mX5_find : ai_I := (yX5_find, cX5_find, 3, (some .boolean), 0, 0)
abbrev mX5_all : ai_I := (yX5_all, cX5_all, 1, (some .int), 0, 0)
abbrev mX5_start : ai_I := (yX5_start, cX5_start, 5, none, 0, 0)
abbrev mX5_next : ai_I := (yX5_next, cX5_next, 5, (some .boolean), 0, 0)
abbrev mX5_fits : ai_I := (yX5_fits, cX5_fits, 7, (some .boolean), 0, 0)
abbrev mX5_unitPlace : ai_I := (yX5_unitPlace, cX5_unitPlace, 3, (some .int), 0, 0)
abbrev mX5_isBetter : ai_I := (yX5_isBetter, cX5_isBetter, 3, (some .boolean), 0, 0)
abbrev mX5_movesTo : ai_I := (yX5_movesTo, cX5_movesTo, 6, (some .int), 0, 0)
abbrev mX5_costTo : ai_I := (yX5_costTo, cX5_costTo, 4, (some .int), 0, 0)
abbrev mX5_steps : ai_I := (yX5_steps, cX5_steps, 4, (some .int), 0, 0)
abbrev mX5_keepBest : ai_I := (yX5_keepBest, cX5_keepBest, 2, none, 0, 0)
abbrev mX5_keepBound : ai_I := (yX5_keepBound, cX5_keepBound, 1, none, 0, 0)
abbrev mX5_given : ai_I := (yX5_given, cX5_given, 3, (some .int), 0, 0)
abbrev mX5_crossings : ai_I := (yX5_crossings, cX5_crossings, 9, (some .int), 0, 0)
abbrev mX5_isBetween : ai_I := (yX5_isBetween, cX5_isBetween, 3, (some .boolean), 0, 0)
abbrev mX5_blame : ai_I := (yX5_blame, cX5_blame, 5, (some .int), 0, 0)
abbrev mX5_bits : ai_I := (yX5_bits, cX5_bits, 3, (some .int), 0, 0)
abbrev mX5_many : ai_I := (yX5_many, cX5_many, 2, (some .int), 0, 0)
abbrev mX5_trial : ai_I := (yX5_trial, cX5_trial, 7, (some .int), 0, 0)
abbrev mX5_hold : ai_I := (yX5_hold, cX5_hold, 1, (some .int), 0, 0)
abbrev mX5_take : ai_I := (yX5_take, cX5_take, 2, none, 0, 0)
abbrev mX5_change : ai_I := (yX5_change, cX5_change, 1, (some .int), 0, 0)
abbrev mX5_held : ai_I := (yX5_held, cX5_held, 3, (some .int), 0, 0)
abbrev mX5_setting : ai_I := (yX5_setting, cX5_setting, 5, (some .int), 0, 0)
abbrev mX5_stands : ai_I := (yX5_stands, cX5_stands, 4, (some .int), 0, 0)
abbrev mX5_told : ai_I := (yX5_told, cX5_told, 4, (some .int), 0, 0)
end
section
/-! A light machine over the kit's rows: a heap is a list of cells by number (0 the law's script, 1 the table SETS, the others made since), and what the cells hold is a function of two numbers. 'ev' is W of every context that holds it; each row below is one row of the kit. -/
abbrev ai_Q : Type := Nat ⊕ (Nat × List (Option (Option Nat)))
abbrev ai_L : Type := List ai_Q
abbrev ai_M : Type := Nat → Nat → Int32
def ai_W : List Cond := lw_tbl.filter goodWord
theorem ai_in {w : Cond} (i : Nat) (h : lw_tbl[i]? = some w) (g : goodWord w = true) : w ∈ ai_W := List.mem_filter.mpr ⟨List.mem_of_getElem? h, g⟩
theorem ai_good : GoodIn ai_W ai_W := fun w h => ⟨h, good_of_word (List.mem_filter.mp h).2⟩
def ai_nest : List Cond := [.methodLinkNest RX4 18 yX0_init RX4, .methodLinkNest RX4 25 yX3_init RX4, .methodLinkNest RX0 31 yX4_isRole RX4]
def ai_ad (base b sb : Nat) (k : Nat) : Nat := if k = 0 then b else if k = 1 then sb else base + (k - 2)
theorem ai_ad0 (base b sb : Nat) : ai_ad base b sb 0 = b := rfl
theorem ai_ad1 (base b sb : Nat) : ai_ad base b sb 1 = sb := rfl
theorem ai_ad2 (base b sb k : Nat) : ai_ad base b sb (k + 2) = base + k := by simp [ai_ad]
def ai_v (g : Nat → Nat) : Value → Value
  | .ref a => .ref (g a)
  | v => v
theorem ai_cat (g : Nat → Nat) (v : Value) : (ai_v g v).category = v.category := by cases v <;> rfl
theorem ai_cats (g : Nat → Nat) (l : List Value) : ((l.map (ai_v g)).map fun v => v.category).sum = (l.map fun v => v.category).sum := by
  rw [List.map_map]
  congr 1
  apply List.map_congr_left
  intro v _
  exact ai_cat g v
def ai_o (g : Nat → Nat) (x : Int32) : Option (Option Nat) → Value
  | none => .int x
  | some none => .null
  | some (some r) => .ref (g r)
def ai_e (cA : ClassId) (g : Nat → Nat) (f : Nat → Int32) : ai_Q → va_E
  | .inl n => .inl (cA, n, .inl f)
  | .inr q => .inr (q.1, q.2.mapIdx (fun k o => ai_o g (f k) o))
def ai_w (cA : ClassId) (g : Nat → Nat) (base : Nat) (yr : ai_L) (σ : ai_M) : va_W := yr.mapIdx (fun c q => (base + c, ai_e cA g (σ (c + 2)) q))
def ai_up (σ : ai_M) (c k : Nat) (x : Int32) : ai_M := fun c' => if c' = c then upd (σ c) k x else σ c'
def ai_new (σ : ai_M) (c : Nat) : ai_M := fun c' => if c' = c then fun _ => 0 else σ c'
theorem ai_w_get {cA : ClassId} {g : Nat → Nat} {base c : Nat} {yr : ai_L} {σ : ai_M} {q : ai_Q} (h : yr[c]? = some q) : (ai_w cA g base yr σ)[c]? = some (base + c, ai_e cA g (σ (c + 2)) q) := by
  simp [ai_w, List.getElem?_mapIdx, h]
theorem ai_w_inv {cA : ClassId} {g : Nat → Nat} {base c : Nat} {yr : ai_L} {σ : ai_M} {x : Nat × va_E} (h : (ai_w cA g base yr σ)[c]? = some x) : ∃ q, yr[c]? = some q ∧ x = (base + c, ai_e cA g (σ (c + 2)) q) := by
  unfold ai_w at h
  rw [List.getElem?_mapIdx] at h
  cases hq : yr[c]? with
  | none => rw [hq] at h; cases h
  | some q => rw [hq] at h; exact ⟨q, rfl, (Option.some.inj h).symm⟩
theorem ai_w_D (cA : ClassId) (g : Nat → Nat) (base : Nat) (yr : ai_L) (σ : ai_M) : va_D (fun q => base ≤ q) (ai_w cA g base yr σ) := by
  refine ⟨fun i j p q hi hj h => ?_, fun k q hk => ?_⟩
  · obtain ⟨_, _, rfl⟩ := ai_w_inv hi
    obtain ⟨_, _, rfl⟩ := ai_w_inv hj
    dsimp only at h
    omega
  · obtain ⟨_, _, rfl⟩ := ai_w_inv hk
    dsimp only
    omega
theorem ai_w_len (cA : ClassId) (g : Nat → Nat) (base : Nat) (yr : ai_L) (σ : ai_M) : (ai_w cA g base yr σ).length = yr.length := by simp [ai_w]
theorem ai_w_store {cA : ClassId} {g : Nat → Nat} {base c n k : Nat} {x : Int32} {yr : ai_L} {σ : ai_M} (h : yr[c]? = some (.inl n)) :
    (ai_w cA g base yr σ).set c (base + c, .inl (cA, n, .inl (upd (σ (c + 2)) k x))) = ai_w cA g base yr (ai_up σ (c + 2) k x) := by
  have hl := (List.getElem?_eq_some_iff.mp h).1
  apply List.ext_getElem?
  intro j
  by_cases hj : c = j
  · subst hj
    rw [List.getElem?_set_self (by rw [ai_w_len]; exact hl), ai_w_get h]
    simp [ai_e, ai_up]
  · rw [List.getElem?_set_ne hj]
    cases hq : yr[j]? with
    | none => simp [ai_w, List.getElem?_mapIdx, hq]
    | some q => rw [ai_w_get hq, ai_w_get hq, ai_up, if_neg (by omega)]
theorem ai_w_put {cA : ClassId} {g : Nat → Nat} {base c ci k : Nat} {x : Int32} {fs : List (Option (Option Nat))} {yr : ai_L} {σ : ai_M} (h : yr[c]? = some (.inr (ci, fs))) (hk : fs[k]? = some none) :
    (ai_w cA g base yr σ).set c (base + c, .inr (ci, (fs.mapIdx (fun k o => ai_o g (σ (c + 2) k) o)).set k (.int x))) = ai_w cA g base yr (ai_up σ (c + 2) k x) := by
  have hl := (List.getElem?_eq_some_iff.mp h).1
  have hkl := (List.getElem?_eq_some_iff.mp hk).1
  apply List.ext_getElem?
  intro j
  by_cases hj : c = j
  · subst hj
    rw [List.getElem?_set_self (by rw [ai_w_len]; exact hl), ai_w_get h]
    have e : (fs.mapIdx (fun k o => ai_o g (σ (c + 2) k) o)).set k (.int x) = fs.mapIdx (fun k' o => ai_o g (ai_up σ (c + 2) k x (c + 2) k') o) := by
      apply List.ext_getElem?
      intro i
      by_cases hi : k = i
      · subst hi
        rw [List.getElem?_set_self (by rw [List.length_mapIdx]; exact hkl), List.getElem?_mapIdx, hk]
        simp [ai_o, ai_up, upd]
      · rw [List.getElem?_set_ne hi, List.getElem?_mapIdx, List.getElem?_mapIdx]
        cases fs[i]? with
        | none => rfl
        | some o => simp [ai_up, upd, Ne.symm hi]
    rw [e]
    rfl
  · rw [List.getElem?_set_ne hj]
    cases hq : yr[j]? with
    | none => simp [ai_w, List.getElem?_mapIdx, hq]
    | some q => rw [ai_w_get hq, ai_w_get hq, ai_up, if_neg (by omega)]
theorem ai_w_putR {cA : ClassId} {g : Nat → Nat} {base c ci k r : Nat} {o0 : Option Nat} {fs : List (Option (Option Nat))} {yr : ai_L} {σ : ai_M} (h : yr[c]? = some (.inr (ci, fs))) (hk : fs[k]? = some (some o0)) :
    (ai_w cA g base yr σ).set c (base + c, .inr (ci, (fs.mapIdx (fun k o => ai_o g (σ (c + 2) k) o)).set k (.ref (g r)))) = ai_w cA g base (yr.set c (.inr (ci, fs.set k (some (some r))))) σ := by
  have hl := (List.getElem?_eq_some_iff.mp h).1
  have hkl := (List.getElem?_eq_some_iff.mp hk).1
  apply List.ext_getElem?
  intro j
  by_cases hj : c = j
  · subst hj
    rw [List.getElem?_set_self (by rw [ai_w_len]; exact hl), ai_w_get (List.getElem?_set_self hl)]
    have e : (fs.mapIdx (fun k o => ai_o g (σ (c + 2) k) o)).set k (.ref (g r)) = (fs.set k (some (some r))).mapIdx (fun k' o => ai_o g (σ (c + 2) k') o) := by
      apply List.ext_getElem?
      intro i
      by_cases hi : k = i
      · subst hi
        rw [List.getElem?_set_self (by rw [List.length_mapIdx]; exact hkl), List.getElem?_mapIdx, List.getElem?_set_self hkl]
        rfl
      · rw [List.getElem?_set_ne hi, List.getElem?_mapIdx, List.getElem?_mapIdx, List.getElem?_set_ne hi]
    rw [e]
    rfl
  · rw [List.getElem?_set_ne hj]
    cases hq : yr[j]? with
    | none => simp [ai_w, List.getElem?_mapIdx, hq, List.getElem?_set_ne hj]
    | some q => rw [ai_w_get hq, ai_w_get (by rw [List.getElem?_set_ne hj]; exact hq)]
theorem ai_w_push (cA : ClassId) (g : Nat → Nat) (base : Nat) (yr : ai_L) (σ : ai_M) (q : ai_Q) :
    ai_w cA g base (yr ++ [q]) (ai_new σ (yr.length + 2)) = ai_w cA g base yr σ ++ [(base + yr.length, ai_e cA g (fun _ => 0) q)] := by
  unfold ai_w
  rw [List.mapIdx_append]
  congr 1
  · apply List.ext_getElem?
    intro j
    rw [List.getElem?_mapIdx, List.getElem?_mapIdx]
    cases hq : yr[j]? with
    | none => rfl
    | some z =>
      have hl := (List.getElem?_eq_some_iff.mp hq).1
      simp only [Option.map_some, ai_new]
      rw [if_neg (by omega)]
  · simp [ai_new]
/-- the heap is y with σ; base: where the law's own cells begin -/
def ai_Inv (D : va_G) (cA : ClassId) (base b sb : Nat) (y : ai_L) (σ : ai_M) (s : State) (H : Heap) : Prop :=
  ∃ (n0 n1 : Nat) (yr : ai_L), y = .inl n0 :: .inl n1 :: yr ∧ va_P D vwCl (ai_w cA (ai_ad base b sb) base yr σ) H ∧ va_X b n0 (σ 0) s H ∧ va_X sb n1 (σ 1) s H
def ai_Env (D : va_G) (cA : ClassId) (base b sb : Nat) (s : State) : Prop :=
  base ≤ s.heap.size ∧ b < base ∧ sb < base ∧ va_K D vwCl [(cA, .int)] s ∧ (∀ w ∈ ai_nest, va_Nw w s) ∧ va_Z RX4 "SETS" "[I" (.ref sb) (fun q => base ≤ q) s s.heap
def ai_lv (g : Nat → Nat) (sl : Array Slot) (n : Nat) (ls : List (Option Value)) : Prop := sl.size = n ∧ lv_wf sl ∧ ∀ (i : Nat) (v : Value), ls[i]? = some (some v) → v.category = 1 ∧ sl[i]? = some (.val (ai_v g v))
/-- what stands at a method's end -/
def ai_ret (μ : ai_I) (pc : Nat) : Option Value → Prop
  | none => decode μ.2.1 pc = .ok (.return_, 1) ∧ μ.2.2.2.1 = none
  | some v => ∃ (x : Int32) (ty : FieldType), v = .int x ∧ decode μ.2.1 pc = .ok (.ireturn, 1) ∧ μ.2.2.2.1 = some ty ∧ narrow ty (.int x) = .int x
def ai_Cx (μ : ai_I) (d : Nat) (p : Program) (R : Room) (s : State) (m : MethodId) (args : Array Value) (meth : Method) (c : Code) : Prop :=
  p.tables.exec = Jvm.exec ∧ c.code = μ.2.1 ∧ c.maxLocals = μ.2.2.1 ∧ s.vm.findClass μ.1.cls = some m.cls ∧ (∀ w ∈ ai_W, w.before args s = true) ∧ meth.name = μ.1.name ∧ d ≤ R.frames ∧ 40 * d ≤ R.locals ∧ μ.2.2.2.2.1 ≤ R.cells ∧ μ.2.2.2.2.2 ≤ R.slots
/-- from here the method comes to its end with Q -/
def ev (μ : ai_I) (d pc : Nat) (ls : List (Option Value)) (st : List Value) (y : ai_L) (σ : ai_M) (nc ns : Nat) (Q : Option Value → ai_L → ai_M → Prop) : Prop :=
  ∀ (p : Program) (l : Launch) (e : Env) (R : Room) (s : State) (m : MethodId) (args : Array Value) (below : List Frame) (meth : Method) (c : Code) (D : va_G) (cA : ClassId) (base b sb : Nat) (H : Heap) (locs : List Loc) (sl : Array Slot) (F : State → Prop),
  ai_Cx μ d p R s m args meth c → ai_Env D cA base b sb s → ai_Inv D cA base b sb y σ s H → va_S (fun q => base ≤ q) s.heap H locs → ai_lv (ai_ad base b sb) sl μ.2.2.1 ls → (s.heap.size + nc + 2 = base + y.length ∧ nc ≤ μ.2.2.2.2.1) → ns ≤ μ.2.2.2.2.2 →
  (∀ (r : Option Value) (y' : ai_L) (σ' : ai_M) (H' : Heap) (locs' : List Loc) (pc' : Nat) (sl' : Array Slot), Q r y' σ' → s.heap.size + μ.2.2.2.2.1 + 2 = base + y'.length → ai_Inv D cA base b sb y' σ' s H' → va_S (fun q => base ≤ q) s.heap H' locs' → ai_ret μ pc' r → W p l e R s m args below meth c H' locs' μ.2.2.2.2.1 μ.2.2.2.2.2 F (F0 m pc' sl' (r.toList.map (ai_v (ai_ad base b sb))))) →
  W p l e R s m args below meth c H locs nc ns F (F0 m pc sl (st.map (ai_v (ai_ad base b sb))))
section EV
variable {μ : ai_I} {d pc : Nat} {ls : List (Option Value)} {st : List Value} {y : ai_L} {σ : ai_M} {nc ns : Nat} {Q : Option Value → ai_L → ai_M → Prop}
theorem ev.mono {Q' : Option Value → ai_L → ai_M → Prop} (h : ev μ d pc ls st y σ nc ns Q') (hq : ∀ r y' σ', Q' r y' σ' → Q r y' σ') : ev μ d pc ls st y σ nc ns Q := by
  intro p l e R s m args below meth c D cA base b sb H locs sl F hC hE hI hS hL h1 h2 hF
  exact h p l e R s m args below meth c D cA base b sb H locs sl F hC hE hI hS hL h1 h2 (fun r y' σ' H' locs' pc' sl' hQ => hF r y' σ' H' locs' pc' sl' (hq r y' σ' hQ))
theorem ev.deeper {d' : Nat} (h : ev μ d' pc ls st y σ nc ns Q) (hd : d' ≤ d) : ev μ d pc ls st y σ nc ns Q := by
  intro p l e R s m args below meth c D cA base b sb H locs sl F hC hE hI hS hL h1 h2 hF
  obtain ⟨c1, c2, c3, c4, c5, c6, c7, c8, c9⟩ := hC
  exact h p l e R s m args below meth c D cA base b sb H locs sl F ⟨c1, c2, c3, c4, c5, c6, by omega, by omega, c9⟩ hE hI hS hL h1 h2 hF
theorem ev.eq {ls' : List (Option Value)} {st' : List Value} {y' : ai_L} {σ' : ai_M} (h : ev μ d pc ls' st' y' σ' nc ns Q) (h1 : ls = ls') (h2 : st = st') (h3 : y = y') (h4 : σ = σ') : ev μ d pc ls st y σ nc ns Q := by
  subst h1; subst h2; subst h3; subst h4; exact h
-- ends
theorem ev_ret (hd : decode μ.2.1 pc = .ok (.return_, 1)) (hr : μ.2.2.2.1 = none) (hc : μ.2.2.2.2.1 = nc) (hQ : Q none y σ) : ev μ d pc ls [] y σ nc ns Q := by
  intro p l e R s m args below meth c D cA base b sb H locs sl F hC hE hI hS hL h1 h2 hF
  exact W.widen h1.2 h2 (hF none y σ H locs pc sl hQ (by rw [hc]; exact h1.1) hI hS ⟨hd, hr⟩)
theorem ev_ireturn {ty : FieldType} {x : Int32} (hd : decode μ.2.1 pc = .ok (.ireturn, 1)) (hr : μ.2.2.2.1 = some ty) (hc : μ.2.2.2.2.1 = nc) (hn : narrow ty (.int x) = .int x) (hQ : Q (some (.int x)) y σ) : ev μ d pc ls [.int x] y σ nc ns Q := by
  intro p l e R s m args below meth c D cA base b sb H locs sl F hC hE hI hS hL h1 h2 hF
  exact W.widen h1.2 h2 (hF (some (.int x)) y σ H locs pc sl hQ (by rw [hc]; exact h1.1) hI hS ⟨x, ty, rfl, hd, hr, hn⟩)
-- constants
theorem ev_iconst {n : Int} (v : Int32) (hd : decode μ.2.1 pc = .ok (.iconst n, 1)) (hv : Int32.ofInt n = v) (k : ev μ d (pc + 1) ls (.int v :: st) y σ nc ns Q) : ev μ d pc ls st y σ nc ns Q := by
  intro p l e R s m args below meth c D cA base b sb H locs sl F hC hE hI hS hL h1 h2 hF
  exact lv_iconst hC.1 hC.2.1 hd hv (k p l e R s m args below meth c D cA base b sb H locs sl F hC hE hI hS hL h1 h2 hF)
theorem ev_bipush {n : Int} (v : Int32) (hd : decode μ.2.1 pc = .ok (.bipush n, 2)) (hv : (Int8.ofInt n).toInt32 = v) (k : ev μ d (pc + 2) ls (.int v :: st) y σ nc ns Q) : ev μ d pc ls st y σ nc ns Q := by
  intro p l e R s m args below meth c D cA base b sb H locs sl F hC hE hI hS hL h1 h2 hF
  exact lv_bipush hC.1 hC.2.1 hd hv (k p l e R s m args below meth c D cA base b sb H locs sl F hC hE hI hS hL h1 h2 hF)
theorem ev_sipush {n : Int} (v : Int32) (hd : decode μ.2.1 pc = .ok (.sipush n, 3)) (hv : (Int16.ofInt n).toInt32 = v) (k : ev μ d (pc + 3) ls (.int v :: st) y σ nc ns Q) : ev μ d pc ls st y σ nc ns Q := by
  intro p l e R s m args below meth c D cA base b sb H locs sl F hC hE hI hS hL h1 h2 hF
  exact lv_sipush hC.1 hC.2.1 hd hv (k p l e R s m args below meth c D cA base b sb H locs sl F hC hE hI hS hL h1 h2 hF)
theorem ev_ldc {i : Nat} (v : Int32) (hd : decode μ.2.1 pc = .ok (.ldc i, 2)) (hw : Cond.constant μ.1.cls i v ∈ ai_W) (k : ev μ d (pc + 2) ls (.int v :: st) y σ nc ns Q) : ev μ d pc ls st y σ nc ns Q := by
  intro p l e R s m args below meth c D cA base b sb H locs sl F hC hE hI hS hL h1 h2 hF
  exact lv_ldc hC.1 hC.2.1 hC.2.2.2.1 (hC.2.2.2.2.1 _ hw) hd (k p l e R s m args below meth c D cA base b sb H locs sl F hC hE hI hS hL h1 h2 hF)
theorem ev_ldcw {i : Nat} (v : Int32) (hd : decode μ.2.1 pc = .ok (.ldc_w i, 3)) (hw : Cond.constant μ.1.cls i v ∈ ai_W) (k : ev μ d (pc + 3) ls (.int v :: st) y σ nc ns Q) : ev μ d pc ls st y σ nc ns Q := by
  intro p l e R s m args below meth c D cA base b sb H locs sl F hC hE hI hS hL h1 h2 hF
  exact lv_ldcw hC.1 hC.2.1 hC.2.2.2.1 (hC.2.2.2.2.1 _ hw) hd (k p l e R s m args below meth c D cA base b sb H locs sl F hC hE hI hS hL h1 h2 hF)
-- locals
theorem ev_iload_n {k : Fin 4} {x : Int32} (hd : decode μ.2.1 pc = .ok (.iload_n k, 1)) (hl : ls[(k : Nat)]? = some (some (.int x))) (kk : ev μ d (pc + 1) ls (.int x :: st) y σ nc ns Q) : ev μ d pc ls st y σ nc ns Q := by
  intro p l e R s m args below meth c D cA base b sb H locs sl F hC hE hI hS hL h1 h2 hF
  exact lv_iload_n hC.1 hC.2.1 hd rfl (hL.2.2 _ _ hl).2 (kk p l e R s m args below meth c D cA base b sb H locs sl F hC hE hI hS hL h1 h2 hF)
theorem ev_iload {i : Nat} {x : Int32} (hd : decode μ.2.1 pc = .ok (.iload i, 2)) (hl : ls[i]? = some (some (.int x))) (kk : ev μ d (pc + 2) ls (.int x :: st) y σ nc ns Q) : ev μ d pc ls st y σ nc ns Q := by
  intro p l e R s m args below meth c D cA base b sb H locs sl F hC hE hI hS hL h1 h2 hF
  exact lv_iload hC.1 hC.2.1 hd (hL.2.2 _ _ hl).2 (kk p l e R s m args below meth c D cA base b sb H locs sl F hC hE hI hS hL h1 h2 hF)
theorem ev_aload_n {k : Fin 4} {x : Nat} (hd : decode μ.2.1 pc = .ok (.aload_n k, 1)) (hl : ls[(k : Nat)]? = some (some (.ref x))) (kk : ev μ d (pc + 1) ls (.ref x :: st) y σ nc ns Q) : ev μ d pc ls st y σ nc ns Q := by
  intro p l e R s m args below meth c D cA base b sb H locs sl F hC hE hI hS hL h1 h2 hF
  exact lv_aload_n hC.1 hC.2.1 hd rfl (hL.2.2 _ _ hl).2 (kk p l e R s m args below meth c D cA base b sb H locs sl F hC hE hI hS hL h1 h2 hF)
end EV
def ai_lo (g : Nat → Nat) (ls : List (Option Value)) : List (Nat × Value) := ls.zipIdx.filterMap (fun q => q.1.map (fun v => (q.2, ai_v g v)))
theorem ai_lo_mem {g : Nat → Nat} {ls : List (Option Value)} {i : Nat} {v : Value} (h : ls[i]? = some (some v)) : (i, ai_v g v) ∈ ai_lo g ls := by
  unfold ai_lo
  refine List.mem_filterMap.mpr ⟨(some v, i), ?_, rfl⟩
  exact List.mem_zipIdx_iff_getElem?.mpr h
theorem ai_lo_of {g : Nat → Nat} {ls : List (Option Value)} {q : Nat × Value} (h : q ∈ ai_lo g ls) : ∃ v, ls[q.1]? = some (some v) ∧ q.2 = ai_v g v := by
  obtain ⟨⟨o, i⟩, h1, h2⟩ := List.mem_filterMap.mp h
  have h3 := List.mem_zipIdx_iff_getElem?.mp h1
  cases o with
  | none => cases h2
  | some v =>
    cases h2
    exact ⟨v, h3, rfl⟩
theorem ai_lv.has {g : Nat → Nat} {sl : Array Slot} {n : Nat} {ls : List (Option Value)} (h : ai_lv g sl n ls) : lv_has sl n (ai_lo g ls) := by
  refine ⟨h.1, h.2.1, fun q hq => ?_⟩
  obtain ⟨v, h1, h2⟩ := ai_lo_of hq
  rw [h2]
  exact (h.2.2 _ _ h1).2
theorem ai_lv.set {g : Nat → Nat} {sl sl' : Array Slot} {n i : Nat} {ls : List (Option Value)} {v : Value} (h : ai_lv g sl n ls) (hv : v.category = 1)
    (h' : lv_has sl' n ((i, ai_v g v) :: (ai_lo g ls).filter (fun q => !(q.1 == i) && !(q.1 + 1 == i && q.2.category == 2)))) : ai_lv g sl' n (ls.set i (some v)) := by
  refine ⟨h'.1, h'.2.1, fun j w hw => ?_⟩
  by_cases hj : i = j
  · subst hj
    by_cases hl : i < ls.length
    · rw [List.getElem?_set_self hl] at hw
      cases hw
      exact ⟨hv, h'.2.2 _ List.mem_cons_self⟩
    · rw [List.getElem?_eq_none (by rw [List.length_set]; omega)] at hw
      cases hw
  · rw [List.getElem?_set_ne hj] at hw
    have hc := (h.2.2 _ _ hw).1
    refine ⟨hc, h'.2.2 (j, ai_v g w) (List.mem_cons_of_mem _ (List.mem_filter.mpr ⟨ai_lo_mem hw, ?_⟩))⟩
    have e : ((j, ai_v g w) : Nat × Value).2.category = 1 := by rw [← hc]; exact ai_cat g w
    simp [e, Ne.symm hj]
section EV2
variable {μ : ai_I} {d pc : Nat} {ls : List (Option Value)} {st : List Value} {y : ai_L} {σ : ai_M} {nc ns : Nat} {Q : Option Value → ai_L → ai_M → Prop}
theorem ev_istore_n {k : Fin 4} {x : Int32} (hd : decode μ.2.1 pc = .ok (.istore_n k, 1)) (hn : (k : Nat) < μ.2.2.1) (kk : ev μ d (pc + 1) (ls.set (k : Nat) (some (.int x))) st y σ nc ns Q) : ev μ d pc ls (.int x :: st) y σ nc ns Q := by
  intro p l e R s m args below meth c D cA base b sb H locs sl F hC hE hI hS hL h1 h2 hF
  exact lv_istore_n hC.1 hC.2.1 hd rfl hL.has hn rfl (fun sl' hl' => kk p l e R s m args below meth c D cA base b sb H locs sl' F hC hE hI hS (hL.set (v := .int x) rfl hl') h1 h2 hF)
theorem ev_istore {i : Nat} {x : Int32} (hd : decode μ.2.1 pc = .ok (.istore i, 2)) (hn : i < μ.2.2.1) (kk : ev μ d (pc + 2) (ls.set i (some (.int x))) st y σ nc ns Q) : ev μ d pc ls (.int x :: st) y σ nc ns Q := by
  intro p l e R s m args below meth c D cA base b sb H locs sl F hC hE hI hS hL h1 h2 hF
  exact lv_istore hC.1 hC.2.1 hd hL.has hn rfl (fun sl' hl' => kk p l e R s m args below meth c D cA base b sb H locs sl' F hC hE hI hS (hL.set (v := .int x) rfl hl') h1 h2 hF)
theorem ev_astore_n {k : Fin 4} {x : Nat} (hd : decode μ.2.1 pc = .ok (.astore_n k, 1)) (hn : (k : Nat) < μ.2.2.1) (kk : ev μ d (pc + 1) (ls.set (k : Nat) (some (.ref x))) st y σ nc ns Q) : ev μ d pc ls (.ref x :: st) y σ nc ns Q := by
  intro p l e R s m args below meth c D cA base b sb H locs sl F hC hE hI hS hL h1 h2 hF
  exact lv_astore_n hC.1 hC.2.1 hd rfl hL.has hn rfl (fun sl' hl' => kk p l e R s m args below meth c D cA base b sb H locs sl' F hC hE hI hS (hL.set (v := .ref x) rfl hl') h1 h2 hF)
theorem ev_iinc {i : Nat} {n : Int} {x : Int32} (v : Int32) (hd : decode μ.2.1 pc = .ok (.iinc i n, 3)) (hl : ls[i]? = some (some (.int x))) (hv : x + Int32.ofInt n = v) (hn : i < μ.2.2.1) (kk : ev μ d (pc + 3) (ls.set i (some (.int v))) st y σ nc ns Q) : ev μ d pc ls st y σ nc ns Q := by
  intro p l e R s m args below meth c D cA base b sb H locs sl F hC hE hI hS hL h1 h2 hF
  obtain ⟨k, hk⟩ := List.getElem?_of_mem (ai_lo_mem (g := ai_ad base b sb) hl)
  exact lv_iinc hC.1 hC.2.1 hd hL.has (k := k) hk hv hn rfl (fun sl' hl' => kk p l e R s m args below meth c D cA base b sb H locs sl' F hC hE hI hS (hL.set (v := .int v) rfl hl') h1 h2 hF)
-- arithmetic
theorem ev_iadd {x z : Int32} (hd : decode μ.2.1 pc = .ok (.iadd, 1)) (k : ev μ d (pc + 1) ls (.int (x + z) :: st) y σ nc ns Q) : ev μ d pc ls (.int z :: .int x :: st) y σ nc ns Q := by
  intro p l e R s m args below meth c D cA base b sb H locs sl F hC hE hI hS hL h1 h2 hF
  exact lv_iadd hC.1 hC.2.1 hd (k p l e R s m args below meth c D cA base b sb H locs sl F hC hE hI hS hL h1 h2 hF)
theorem ev_isub {x z : Int32} (hd : decode μ.2.1 pc = .ok (.isub, 1)) (k : ev μ d (pc + 1) ls (.int (x - z) :: st) y σ nc ns Q) : ev μ d pc ls (.int z :: .int x :: st) y σ nc ns Q := by
  intro p l e R s m args below meth c D cA base b sb H locs sl F hC hE hI hS hL h1 h2 hF
  exact lv_isub hC.1 hC.2.1 hd (k p l e R s m args below meth c D cA base b sb H locs sl F hC hE hI hS hL h1 h2 hF)
theorem ev_imul {x z : Int32} (hd : decode μ.2.1 pc = .ok (.imul, 1)) (k : ev μ d (pc + 1) ls (.int (x * z) :: st) y σ nc ns Q) : ev μ d pc ls (.int z :: .int x :: st) y σ nc ns Q := by
  intro p l e R s m args below meth c D cA base b sb H locs sl F hC hE hI hS hL h1 h2 hF
  exact lv_imul hC.1 hC.2.1 hd (k p l e R s m args below meth c D cA base b sb H locs sl F hC hE hI hS hL h1 h2 hF)
theorem ev_iand {x z : Int32} (hd : decode μ.2.1 pc = .ok (.iand, 1)) (k : ev μ d (pc + 1) ls (.int (x &&& z) :: st) y σ nc ns Q) : ev μ d pc ls (.int z :: .int x :: st) y σ nc ns Q := by
  intro p l e R s m args below meth c D cA base b sb H locs sl F hC hE hI hS hL h1 h2 hF
  exact lv_iand hC.1 hC.2.1 hd (k p l e R s m args below meth c D cA base b sb H locs sl F hC hE hI hS hL h1 h2 hF)
theorem ev_ior {x z : Int32} (hd : decode μ.2.1 pc = .ok (.ior, 1)) (k : ev μ d (pc + 1) ls (.int (x ||| z) :: st) y σ nc ns Q) : ev μ d pc ls (.int z :: .int x :: st) y σ nc ns Q := by
  intro p l e R s m args below meth c D cA base b sb H locs sl F hC hE hI hS hL h1 h2 hF
  exact lv_ior hC.1 hC.2.1 hd (k p l e R s m args below meth c D cA base b sb H locs sl F hC hE hI hS hL h1 h2 hF)
theorem ev_ixor {x z : Int32} (hd : decode μ.2.1 pc = .ok (.ixor, 1)) (k : ev μ d (pc + 1) ls (.int (x ^^^ z) :: st) y σ nc ns Q) : ev μ d pc ls (.int z :: .int x :: st) y σ nc ns Q := by
  intro p l e R s m args below meth c D cA base b sb H locs sl F hC hE hI hS hL h1 h2 hF
  exact lv_ixor hC.1 hC.2.1 hd (k p l e R s m args below meth c D cA base b sb H locs sl F hC hE hI hS hL h1 h2 hF)
theorem ev_idiv {x z : Int32} (hd : decode μ.2.1 pc = .ok (.idiv, 1)) (hz : ¬ z = 0) (k : ev μ d (pc + 1) ls (.int (x / z) :: st) y σ nc ns Q) : ev μ d pc ls (.int z :: .int x :: st) y σ nc ns Q := by
  intro p l e R s m args below meth c D cA base b sb H locs sl F hC hE hI hS hL h1 h2 hF
  exact lv_idiv hC.1 hC.2.1 hd hz (k p l e R s m args below meth c D cA base b sb H locs sl F hC hE hI hS hL h1 h2 hF)
theorem ev_irem {x z : Int32} (hd : decode μ.2.1 pc = .ok (.irem, 1)) (hz : ¬ z = 0) (k : ev μ d (pc + 1) ls (.int (x - x / z * z) :: st) y σ nc ns Q) : ev μ d pc ls (.int z :: .int x :: st) y σ nc ns Q := by
  intro p l e R s m args below meth c D cA base b sb H locs sl F hC hE hI hS hL h1 h2 hF
  exact lv_irem hC.1 hC.2.1 hd hz (k p l e R s m args below meth c D cA base b sb H locs sl F hC hE hI hS hL h1 h2 hF)
theorem ev_ineg {x : Int32} (hd : decode μ.2.1 pc = .ok (.ineg, 1)) (k : ev μ d (pc + 1) ls (.int (-x) :: st) y σ nc ns Q) : ev μ d pc ls (.int x :: st) y σ nc ns Q := by
  intro p l e R s m args below meth c D cA base b sb H locs sl F hC hE hI hS hL h1 h2 hF
  exact lv_ineg hC.1 hC.2.1 hd (k p l e R s m args below meth c D cA base b sb H locs sl F hC hE hI hS hL h1 h2 hF)
theorem ev_ishl {x z : Int32} (hd : decode μ.2.1 pc = .ok (.ishl, 1)) (k : ev μ d (pc + 1) ls (.int (x <<< (z &&& 31)) :: st) y σ nc ns Q) : ev μ d pc ls (.int z :: .int x :: st) y σ nc ns Q := by
  intro p l e R s m args below meth c D cA base b sb H locs sl F hC hE hI hS hL h1 h2 hF
  exact lv_ishl hC.1 hC.2.1 hd (k p l e R s m args below meth c D cA base b sb H locs sl F hC hE hI hS hL h1 h2 hF)
theorem ev_ishr {x z : Int32} (hd : decode μ.2.1 pc = .ok (.ishr, 1)) (k : ev μ d (pc + 1) ls (.int (x >>> (z &&& 31)) :: st) y σ nc ns Q) : ev μ d pc ls (.int z :: .int x :: st) y σ nc ns Q := by
  intro p l e R s m args below meth c D cA base b sb H locs sl F hC hE hI hS hL h1 h2 hF
  exact lv_ishr hC.1 hC.2.1 hd (k p l e R s m args below meth c D cA base b sb H locs sl F hC hE hI hS hL h1 h2 hF)
theorem ev_iushr {x z : Int32} (hd : decode μ.2.1 pc = .ok (.iushr, 1)) (k : ev μ d (pc + 1) ls (.int ((x.toUInt32 >>> (z.toUInt32 &&& Int32.toUInt32 31)).toInt32) :: st) y σ nc ns Q) : ev μ d pc ls (.int z :: .int x :: st) y σ nc ns Q := by
  intro p l e R s m args below meth c D cA base b sb H locs sl F hC hE hI hS hL h1 h2 hF
  exact lv_iushr hC.1 hC.2.1 hd rfl (k p l e R s m args below meth c D cA base b sb H locs sl F hC hE hI hS hL h1 h2 hF)
theorem ev_dup {v : Value} (hd : decode μ.2.1 pc = .ok (.dup, 1)) (hv : v.category = 1) (k : ev μ d (pc + 1) ls (v :: v :: st) y σ nc ns Q) : ev μ d pc ls (v :: st) y σ nc ns Q := by
  intro p l e R s m args below meth c D cA base b sb H locs sl F hC hE hI hS hL h1 h2 hF
  exact lv_dup hC.1 hC.2.1 hd (by rw [ai_cat]; exact hv) (k p l e R s m args below meth c D cA base b sb H locs sl F hC hE hI hS hL h1 h2 hF)
theorem ev_dup2 {v w : Value} (hd : decode μ.2.1 pc = .ok (.dup2, 1)) (hv : v.category = 1) (hw : w.category = 1) (k : ev μ d (pc + 1) ls (v :: w :: v :: w :: st) y σ nc ns Q) : ev μ d pc ls (v :: w :: st) y σ nc ns Q := by
  intro p l e R s m args below meth c D cA base b sb H locs sl F hC hE hI hS hL h1 h2 hF
  exact lv_dup2_11 hC.1 hC.2.1 hd (by rw [ai_cat]; exact hv) (by rw [ai_cat]; exact hw) (k p l e R s m args below meth c D cA base b sb H locs sl F hC hE hI hS hL h1 h2 hF)
theorem ev_pop {v : Value} (hd : decode μ.2.1 pc = .ok (.pop, 1)) (hv : v.category = 1) (k : ev μ d (pc + 1) ls st y σ nc ns Q) : ev μ d pc ls (v :: st) y σ nc ns Q := by
  intro p l e R s m args below meth c D cA base b sb H locs sl F hC hE hI hS hL h1 h2 hF
  exact lv_pop hC.1 hC.2.1 hd (by rw [ai_cat]; exact hv) (k p l e R s m args below meth c D cA base b sb H locs sl F hC hE hI hS hL h1 h2 hF)
-- jumps
theorem ev_goto {off : Int} (tgt : Nat) (hd : decode μ.2.1 pc = .ok (.goto off, 3)) (ht : (pc : Int) + off = (tgt : Int)) (k : ev μ d tgt ls st y σ nc ns Q) : ev μ d pc ls st y σ nc ns Q := by
  intro p l e R s m args below meth c D cA base b sb H locs sl F hC hE hI hS hL h1 h2 hF
  exact lv_goto hC.1 hC.2.1 hd ht (k p l e R s m args below meth c D cA base b sb H locs sl F hC hE hI hS hL h1 h2 hF)
end EV2
end
section
section EV3
variable {μ : ai_I} {d pc : Nat} {ls : List (Option Value)} {st : List Value} {y : ai_L} {σ : ai_M} {nc ns : Nat} {Q : Option Value → ai_L → ai_M → Prop}
theorem ev_if_eq {x : Int32} {off : Int} (tgt : Nat) (hd : decode μ.2.1 pc = .ok (.ifCond .eq off, 3)) (ht : (pc : Int) + off = (tgt : Int)) (kt : x = 0 → ev μ d tgt ls st y σ nc ns Q) (kf : ¬ x = 0 → ev μ d (pc + 3) ls st y σ nc ns Q) : ev μ d pc ls (.int x :: st) y σ nc ns Q := by
  intro p l e R s m args below meth c D cA base b sb H locs sl F hC hE hI hS hL h1 h2 hF
  exact lv_if_eq hC.1 hC.2.1 hd ht (fun q => kt q p l e R s m args below meth c D cA base b sb H locs sl F hC hE hI hS hL h1 h2 hF) (fun q => kf q p l e R s m args below meth c D cA base b sb H locs sl F hC hE hI hS hL h1 h2 hF)
theorem ev_icmp_eq {x z : Int32} {off : Int} (tgt : Nat) (hd : decode μ.2.1 pc = .ok (.if_icmp .eq off, 3)) (ht : (pc : Int) + off = (tgt : Int)) (kt : x = z → ev μ d tgt ls st y σ nc ns Q) (kf : ¬ x = z → ev μ d (pc + 3) ls st y σ nc ns Q) : ev μ d pc ls (.int z :: .int x :: st) y σ nc ns Q := by
  intro p l e R s m args below meth c D cA base b sb H locs sl F hC hE hI hS hL h1 h2 hF
  exact lv_icmp_eq hC.1 hC.2.1 hd ht (fun q => kt q p l e R s m args below meth c D cA base b sb H locs sl F hC hE hI hS hL h1 h2 hF) (fun q => kf q p l e R s m args below meth c D cA base b sb H locs sl F hC hE hI hS hL h1 h2 hF)
theorem ev_if_ne {x : Int32} {off : Int} (tgt : Nat) (hd : decode μ.2.1 pc = .ok (.ifCond .ne off, 3)) (ht : (pc : Int) + off = (tgt : Int)) (kt : ¬ x = 0 → ev μ d tgt ls st y σ nc ns Q) (kf : x = 0 → ev μ d (pc + 3) ls st y σ nc ns Q) : ev μ d pc ls (.int x :: st) y σ nc ns Q := by
  intro p l e R s m args below meth c D cA base b sb H locs sl F hC hE hI hS hL h1 h2 hF
  exact lv_if_ne hC.1 hC.2.1 hd ht (fun q => kt q p l e R s m args below meth c D cA base b sb H locs sl F hC hE hI hS hL h1 h2 hF) (fun q => kf q p l e R s m args below meth c D cA base b sb H locs sl F hC hE hI hS hL h1 h2 hF)
theorem ev_icmp_ne {x z : Int32} {off : Int} (tgt : Nat) (hd : decode μ.2.1 pc = .ok (.if_icmp .ne off, 3)) (ht : (pc : Int) + off = (tgt : Int)) (kt : ¬ x = z → ev μ d tgt ls st y σ nc ns Q) (kf : x = z → ev μ d (pc + 3) ls st y σ nc ns Q) : ev μ d pc ls (.int z :: .int x :: st) y σ nc ns Q := by
  intro p l e R s m args below meth c D cA base b sb H locs sl F hC hE hI hS hL h1 h2 hF
  exact lv_icmp_ne hC.1 hC.2.1 hd ht (fun q => kt q p l e R s m args below meth c D cA base b sb H locs sl F hC hE hI hS hL h1 h2 hF) (fun q => kf q p l e R s m args below meth c D cA base b sb H locs sl F hC hE hI hS hL h1 h2 hF)
theorem ev_if_lt {x : Int32} {off : Int} (tgt : Nat) (hd : decode μ.2.1 pc = .ok (.ifCond .lt off, 3)) (ht : (pc : Int) + off = (tgt : Int)) (kt : x < 0 → ev μ d tgt ls st y σ nc ns Q) (kf : ¬ x < 0 → ev μ d (pc + 3) ls st y σ nc ns Q) : ev μ d pc ls (.int x :: st) y σ nc ns Q := by
  intro p l e R s m args below meth c D cA base b sb H locs sl F hC hE hI hS hL h1 h2 hF
  exact lv_if_lt hC.1 hC.2.1 hd ht (fun q => kt q p l e R s m args below meth c D cA base b sb H locs sl F hC hE hI hS hL h1 h2 hF) (fun q => kf q p l e R s m args below meth c D cA base b sb H locs sl F hC hE hI hS hL h1 h2 hF)
theorem ev_icmp_lt {x z : Int32} {off : Int} (tgt : Nat) (hd : decode μ.2.1 pc = .ok (.if_icmp .lt off, 3)) (ht : (pc : Int) + off = (tgt : Int)) (kt : x < z → ev μ d tgt ls st y σ nc ns Q) (kf : ¬ x < z → ev μ d (pc + 3) ls st y σ nc ns Q) : ev μ d pc ls (.int z :: .int x :: st) y σ nc ns Q := by
  intro p l e R s m args below meth c D cA base b sb H locs sl F hC hE hI hS hL h1 h2 hF
  exact lv_icmp_lt hC.1 hC.2.1 hd ht (fun q => kt q p l e R s m args below meth c D cA base b sb H locs sl F hC hE hI hS hL h1 h2 hF) (fun q => kf q p l e R s m args below meth c D cA base b sb H locs sl F hC hE hI hS hL h1 h2 hF)
theorem ev_if_ge {x : Int32} {off : Int} (tgt : Nat) (hd : decode μ.2.1 pc = .ok (.ifCond .ge off, 3)) (ht : (pc : Int) + off = (tgt : Int)) (kt : 0 ≤ x → ev μ d tgt ls st y σ nc ns Q) (kf : ¬ 0 ≤ x → ev μ d (pc + 3) ls st y σ nc ns Q) : ev μ d pc ls (.int x :: st) y σ nc ns Q := by
  intro p l e R s m args below meth c D cA base b sb H locs sl F hC hE hI hS hL h1 h2 hF
  exact lv_if_ge hC.1 hC.2.1 hd ht (fun q => kt q p l e R s m args below meth c D cA base b sb H locs sl F hC hE hI hS hL h1 h2 hF) (fun q => kf q p l e R s m args below meth c D cA base b sb H locs sl F hC hE hI hS hL h1 h2 hF)
theorem ev_icmp_ge {x z : Int32} {off : Int} (tgt : Nat) (hd : decode μ.2.1 pc = .ok (.if_icmp .ge off, 3)) (ht : (pc : Int) + off = (tgt : Int)) (kt : z ≤ x → ev μ d tgt ls st y σ nc ns Q) (kf : ¬ z ≤ x → ev μ d (pc + 3) ls st y σ nc ns Q) : ev μ d pc ls (.int z :: .int x :: st) y σ nc ns Q := by
  intro p l e R s m args below meth c D cA base b sb H locs sl F hC hE hI hS hL h1 h2 hF
  exact lv_icmp_ge hC.1 hC.2.1 hd ht (fun q => kt q p l e R s m args below meth c D cA base b sb H locs sl F hC hE hI hS hL h1 h2 hF) (fun q => kf q p l e R s m args below meth c D cA base b sb H locs sl F hC hE hI hS hL h1 h2 hF)
theorem ev_if_gt {x : Int32} {off : Int} (tgt : Nat) (hd : decode μ.2.1 pc = .ok (.ifCond .gt off, 3)) (ht : (pc : Int) + off = (tgt : Int)) (kt : 0 < x → ev μ d tgt ls st y σ nc ns Q) (kf : ¬ 0 < x → ev μ d (pc + 3) ls st y σ nc ns Q) : ev μ d pc ls (.int x :: st) y σ nc ns Q := by
  intro p l e R s m args below meth c D cA base b sb H locs sl F hC hE hI hS hL h1 h2 hF
  exact lv_if_gt hC.1 hC.2.1 hd ht (fun q => kt q p l e R s m args below meth c D cA base b sb H locs sl F hC hE hI hS hL h1 h2 hF) (fun q => kf q p l e R s m args below meth c D cA base b sb H locs sl F hC hE hI hS hL h1 h2 hF)
theorem ev_icmp_gt {x z : Int32} {off : Int} (tgt : Nat) (hd : decode μ.2.1 pc = .ok (.if_icmp .gt off, 3)) (ht : (pc : Int) + off = (tgt : Int)) (kt : z < x → ev μ d tgt ls st y σ nc ns Q) (kf : ¬ z < x → ev μ d (pc + 3) ls st y σ nc ns Q) : ev μ d pc ls (.int z :: .int x :: st) y σ nc ns Q := by
  intro p l e R s m args below meth c D cA base b sb H locs sl F hC hE hI hS hL h1 h2 hF
  exact lv_icmp_gt hC.1 hC.2.1 hd ht (fun q => kt q p l e R s m args below meth c D cA base b sb H locs sl F hC hE hI hS hL h1 h2 hF) (fun q => kf q p l e R s m args below meth c D cA base b sb H locs sl F hC hE hI hS hL h1 h2 hF)
theorem ev_if_le {x : Int32} {off : Int} (tgt : Nat) (hd : decode μ.2.1 pc = .ok (.ifCond .le off, 3)) (ht : (pc : Int) + off = (tgt : Int)) (kt : x ≤ 0 → ev μ d tgt ls st y σ nc ns Q) (kf : ¬ x ≤ 0 → ev μ d (pc + 3) ls st y σ nc ns Q) : ev μ d pc ls (.int x :: st) y σ nc ns Q := by
  intro p l e R s m args below meth c D cA base b sb H locs sl F hC hE hI hS hL h1 h2 hF
  exact lv_if_le hC.1 hC.2.1 hd ht (fun q => kt q p l e R s m args below meth c D cA base b sb H locs sl F hC hE hI hS hL h1 h2 hF) (fun q => kf q p l e R s m args below meth c D cA base b sb H locs sl F hC hE hI hS hL h1 h2 hF)
theorem ev_icmp_le {x z : Int32} {off : Int} (tgt : Nat) (hd : decode μ.2.1 pc = .ok (.if_icmp .le off, 3)) (ht : (pc : Int) + off = (tgt : Int)) (kt : x ≤ z → ev μ d tgt ls st y σ nc ns Q) (kf : ¬ x ≤ z → ev μ d (pc + 3) ls st y σ nc ns Q) : ev μ d pc ls (.int z :: .int x :: st) y σ nc ns Q := by
  intro p l e R s m args below meth c D cA base b sb H locs sl F hC hE hI hS hL h1 h2 hF
  exact lv_icmp_le hC.1 hC.2.1 hd ht (fun q => kt q p l e R s m args below meth c D cA base b sb H locs sl F hC hE hI hS hL h1 h2 hF) (fun q => kf q p l e R s m args below meth c D cA base b sb H locs sl F hC hE hI hS hL h1 h2 hF)
theorem ev_tableOut {dflt lo hi : Int} {offs : Array Int} {len : Nat} {x : Int32} (tgt : Nat) (hd : decode μ.2.1 pc = .ok (.tableswitch dflt lo hi offs, len)) (h : x.toInt < lo ∨ hi < x.toInt) (ht : (pc : Int) + dflt = (tgt : Int)) (k : ev μ d tgt ls st y σ nc ns Q) : ev μ d pc ls (.int x :: st) y σ nc ns Q := by
  intro p l e R s m args below meth c D cA base b sb H locs sl F hC hE hI hS hL h1 h2 hF
  exact lv_tableOut hC.1 hC.2.1 hd h ht (k p l e R s m args below meth c D cA base b sb H locs sl F hC hE hI hS hL h1 h2 hF)
theorem ev_tableIn {dflt lo hi off : Int} {offs : Array Int} {len : Nat} {x : Int32} (tgt : Nat) (hd : decode μ.2.1 pc = .ok (.tableswitch dflt lo hi offs, len)) (q1 : ¬ x.toInt < lo) (q2 : ¬ hi < x.toInt) (ho : offs[(x.toInt - lo).toNat]? = some off) (ht : (pc : Int) + off = (tgt : Int)) (k : ev μ d tgt ls st y σ nc ns Q) : ev μ d pc ls (.int x :: st) y σ nc ns Q := by
  intro p l e R s m args below meth c D cA base b sb H locs sl F hC hE hI hS hL h1 h2 hF
  exact lv_tableIn hC.1 hC.2.1 hd q1 q2 ho ht (k p l e R s m args below meth c D cA base b sb H locs sl F hC hE hI hS hL h1 h2 hF)
end EV3
/-- a field by its link: the class's number, the field's number, its type, whether it is final -/
def ai_F (own : String) (idx ci k : Nat) (ty : FieldType) (fin : Bool) : Prop := ∃ (C : String) (T : u_T) (N : Nat) (ty0 : Nat → FieldType), vwCl[ci]? = some (C, T, N) ∧ k < N ∧ (∀ w ∈ u_ws C T N, w ∈ ai_W) ∧ Cond.fieldLink own idx (T k).1 (T k).2.1 (T k).2.2.1 ∈ ai_W ∧ (∀ k, k < N → parseFieldDescriptor (T k).2.2.1 = some (ty0 k)) ∧ (∀ a, a < N → ∀ b, b < N → a ≠ b → (T a).2.1 ≠ (T b).2.1) ∧ ty0 k = ty ∧ (T k).2.2.2 = fin ∧ (fin = true → (T k).1 = C)
/-- the k-th field of the object a -/
def ai_fi (y : ai_L) (a ci k : Nat) (o : Option (Option Nat)) : Prop := ∃ fs, y[a]? = some (.inr (ci, fs)) ∧ fs[k]? = some o
theorem ai_obj {y yr : ai_L} {n0 n1 a : Nat} {q : Nat × List (Option (Option Nat))} (hy : y = .inl n0 :: .inl n1 :: yr) (h : y[a]? = some (.inr q)) : ∃ c, a = c + 2 ∧ yr[c]? = some (.inr q) := by
  subst hy
  match a, h with
  | 0, h => cases h
  | 1, h => cases h
  | c + 2, h => exact ⟨c, rfl, h⟩
section EV4
variable {μ : ai_I} {d pc : Nat} {ls : List (Option Value)} {st : List Value} {y : ai_L} {σ : ai_M} {nc ns : Nat} {Q : Option Value → ai_L → ai_M → Prop}
theorem ev_getI {idx ci k a : Nat} {ty : FieldType} {fin : Bool} (hd : decode μ.2.1 pc = .ok (.getfield idx, 3)) (hf : ai_F μ.1.cls idx ci k ty fin) (hy : ai_fi y a ci k none) (kk : ev μ d (pc + 3) ls (.int (σ a k) :: st) y σ nc ns Q) : ev μ d pc ls (.ref a :: st) y σ nc ns Q := by
  intro p l e R s m args below meth c D cA base b sb H locs sl F hC hE hI hS hL h1 h2 hF
  obtain ⟨C, T, N, ty0, f1, f2, f3, f4, f5, f6, f7, f8, f9⟩ := hf
  obtain ⟨fs, y1, y2⟩ := hy
  obtain ⟨n0, n1, yr, i1, i3, i4, i5⟩ := id hI
  obtain ⟨c', rfl, hc'⟩ := ai_obj i1 y1
  show W p l e R s m args below meth c H locs nc ns F (F0 m pc sl (.ref (ai_ad base b sb (c' + 2)) :: st.map (ai_v (ai_ad base b sb))))
  rw [ai_ad2]
  refine va_get (v := .int (σ (c' + 2) k)) hC.1 hC.2.1 hC.2.2.2.2.1 f3 hC.2.2.2.1 hE.2.2.2.1 i3 c' (ai_w_get hc') f1 k f2 (hC.2.2.2.2.1 _ f4) (fun _ h9 => h9) ?_ hd (kk p l e R s m args below meth c D cA base b sb H locs sl F hC hE hI hS hL h1 h2 hF)
  rw [List.getElem?_mapIdx, y2]
  rfl
theorem ev_getR {idx ci k a r : Nat} {ty : FieldType} {fin : Bool} (hd : decode μ.2.1 pc = .ok (.getfield idx, 3)) (hf : ai_F μ.1.cls idx ci k ty fin) (hy : ai_fi y a ci k (some (some r))) (kk : ev μ d (pc + 3) ls (.ref r :: st) y σ nc ns Q) : ev μ d pc ls (.ref a :: st) y σ nc ns Q := by
  intro p l e R s m args below meth c D cA base b sb H locs sl F hC hE hI hS hL h1 h2 hF
  obtain ⟨C, T, N, ty0, f1, f2, f3, f4, f5, f6, f7, f8, f9⟩ := hf
  obtain ⟨fs, y1, y2⟩ := hy
  obtain ⟨n0, n1, yr, i1, i3, i4, i5⟩ := id hI
  obtain ⟨c', rfl, hc'⟩ := ai_obj i1 y1
  show W p l e R s m args below meth c H locs nc ns F (F0 m pc sl (.ref (ai_ad base b sb (c' + 2)) :: st.map (ai_v (ai_ad base b sb))))
  rw [ai_ad2]
  refine va_get (v := .ref (ai_ad base b sb r)) hC.1 hC.2.1 hC.2.2.2.2.1 f3 hC.2.2.2.1 hE.2.2.2.1 i3 c' (ai_w_get hc') f1 k f2 (hC.2.2.2.2.1 _ f4) (fun _ h9 => h9) ?_ hd (kk p l e R s m args below meth c D cA base b sb H locs sl F hC hE hI hS hL h1 h2 hF)
  rw [List.getElem?_mapIdx, y2]
  rfl
theorem ai_X_up {b n : Nat} {σ : ai_M} {c k : Nat} {x : Int32} {s : State} {H : Heap} (i : Nat) (hi : i < 2) (h : va_X b n (σ i) s H) : va_X b n (ai_up σ (c + 2) k x i) s H := by
  rw [ai_up, if_neg (by omega)]; exact h
/-- the externals stand as long as nothing below base is written -/
theorem ai_ext {base : Nat} {H H1 H0 : Heap} {locs locs1 : List Loc} {b n : Nat} {f : Nat → Int32} {s : State} (hb : b < base) (h0 : base ≤ H0.size) (hS : va_S (fun q => base ≤ q) H0 H locs) (hS1 : va_S (fun q => base ≤ q) H0 H1 locs1) (h : va_X b n f s H) : va_X b n f s H1 :=
  h.kept (by rw [hS1.2.1 b (by omega) (by omega), hS.2.1 b (by omega) (by omega)])
theorem ev_putI {idx ci k a : Nat} {x : Int32} {ty : FieldType} (hd : decode μ.2.1 pc = .ok (.putfield idx, 3)) (hf : ai_F μ.1.cls idx ci k ty false) (hy : ai_fi y a ci k none) (hn : narrow ty (.int x) = .int x) (hfit : fits ty (.int x) = true) (kk : ev μ d (pc + 3) ls st y (ai_up σ a k x) nc ns Q) : ev μ d pc ls (.int x :: .ref a :: st) y σ nc ns Q := by
  intro p l e R s m args below meth c D cA base b sb H locs sl F hC hE hI hS hL h1 h2 hF
  obtain ⟨C, T, N, ty0, f1, f2, f3, f4, f5, f6, f7, f8, f9⟩ := hf
  obtain ⟨fs, y1, y2⟩ := hy
  obtain ⟨n0, n1, yr, i1, i3, i4, i5⟩ := id hI
  obtain ⟨c', rfl, hc'⟩ := ai_obj i1 y1
  show W p l e R s m args below meth c H locs nc ns F (F0 m pc sl (.int x :: .ref (ai_ad base b sb (c' + 2)) :: st.map (ai_v (ai_ad base b sb))))
  rw [ai_ad2]
  refine va_put (v := .int x) (ty := ty) hC.1 hC.2.1 hC.2.2.2.2.1 f3 ty0 f5 f6 hC.2.2.2.1 hE.2.2.2.1 i3 (ai_w_D _ _ _ _ _) hS c' (ai_w_get hc') f1 k f2 (hC.2.2.2.2.1 _ f4) (fun _ h9 => h9) f8 (by rw [f5 k f2, f7]) hn hfit (by rw [List.length_mapIdx]; exact (List.getElem?_eq_some_iff.mp y2).1) hd (fun H1 locs1 hP1 hD1 hS1 => ?_)
  rw [ai_w_put hc' y2] at hP1
  exact kk p l e R s m args below meth c D cA base b sb H1 locs1 sl F hC hE ⟨n0, n1, yr, i1, hP1, ai_ext hE.2.1 hE.1 hS hS1 (ai_X_up 0 (by omega) i4), ai_ext hE.2.2.1 hE.1 hS hS1 (ai_X_up 1 (by omega) i5)⟩ hS1 hL h1 h2 hF
theorem ev_putFI {idx ci k a : Nat} {x : Int32} {ty : FieldType} (hd : decode μ.2.1 pc = .ok (.putfield idx, 3)) (hf : ai_F μ.1.cls idx ci k ty true) (hm : μ.1.name = "<init>") (hC0 : ∀ q, vwCl[ci]? = some q → q.1 = μ.1.cls) (hy : ai_fi y a ci k none) (hn : narrow ty (.int x) = .int x) (hfit : fits ty (.int x) = true) (kk : ev μ d (pc + 3) ls st y (ai_up σ a k x) nc ns Q) : ev μ d pc ls (.int x :: .ref a :: st) y σ nc ns Q := by
  intro p l e R s m args below meth c D cA base b sb H locs sl F hC hE hI hS hL h1 h2 hF
  obtain ⟨C, T, N, ty0, f1, f2, f3, f4, f5, f6, f7, f8, f9⟩ := hf
  obtain ⟨fs, y1, y2⟩ := hy
  obtain ⟨n0, n1, yr, i1, i3, i4, i5⟩ := id hI
  obtain ⟨c', rfl, hc'⟩ := ai_obj i1 y1
  show W p l e R s m args below meth c H locs nc ns F (F0 m pc sl (.int x :: .ref (ai_ad base b sb (c' + 2)) :: st.map (ai_v (ai_ad base b sb))))
  rw [ai_ad2]
  refine va_putF (v := .int x) (ty := ty) hC.1 hC.2.1 hC.2.2.2.2.1 f3 ty0 f5 f6 hC.2.2.2.1 hE.2.2.2.1 i3 (ai_w_D _ _ _ _ _) hS c' (ai_w_get hc') f1 k f2 (hC.2.2.2.2.1 _ f4) (fun _ h9 => h9) f8 (hC.2.2.2.2.2.1.trans hm) (by rw [f9 rfl]; exact hC0 _ f1) (by rw [f5 k f2, f7]) hn hfit (by rw [List.length_mapIdx]; exact (List.getElem?_eq_some_iff.mp y2).1) hd (fun H1 locs1 hP1 hD1 hS1 => ?_)
  rw [ai_w_put hc' y2] at hP1
  exact kk p l e R s m args below meth c D cA base b sb H1 locs1 sl F hC hE ⟨n0, n1, yr, i1, hP1, ai_ext hE.2.1 hE.1 hS hS1 (ai_X_up 0 (by omega) i4), ai_ext hE.2.2.1 hE.1 hS hS1 (ai_X_up 1 (by omega) i5)⟩ hS1 hL h1 h2 hF
/-- a final reference field, in its constructor -/
theorem ev_putFR {idx ci k a r : Nat} {o0 : Option Nat} {ty : FieldType} {fs : List (Option (Option Nat))} (hd : decode μ.2.1 pc = .ok (.putfield idx, 3)) (hf : ai_F μ.1.cls idx ci k ty true) (hm : μ.1.name = "<init>") (hC0 : ∀ q, vwCl[ci]? = some q → q.1 = μ.1.cls) (y1 : y[a]? = some (.inr (ci, fs))) (y2 : fs[k]? = some (some o0)) (hn : ∀ q, narrow ty (.ref q) = .ref q) (hfit : ∀ q, fits ty (.ref q) = true) (kk : ev μ d (pc + 3) ls st (y.set a (.inr (ci, fs.set k (some (some r))))) σ nc ns Q) : ev μ d pc ls (.ref r :: .ref a :: st) y σ nc ns Q := by
  intro p l e R s m args below meth c D cA base b sb H locs sl F hC hE hI hS hL h1 h2 hF
  obtain ⟨C, T, N, ty0, f1, f2, f3, f4, f5, f6, f7, f8, f9⟩ := hf
  obtain ⟨n0, n1, yr, i1, i3, i4, i5⟩ := id hI
  obtain ⟨c', rfl, hc'⟩ := ai_obj i1 y1
  show W p l e R s m args below meth c H locs nc ns F (F0 m pc sl (.ref (ai_ad base b sb r) :: .ref (ai_ad base b sb (c' + 2)) :: st.map (ai_v (ai_ad base b sb))))
  rw [ai_ad2 base b sb c']
  refine va_putF (v := .ref (ai_ad base b sb r)) (ty := ty) hC.1 hC.2.1 hC.2.2.2.2.1 f3 ty0 f5 f6 hC.2.2.2.1 hE.2.2.2.1 i3 (ai_w_D _ _ _ _ _) hS c' (ai_w_get hc') f1 k f2 (hC.2.2.2.2.1 _ f4) (fun _ h9 => h9) f8 (hC.2.2.2.2.2.1.trans hm) (by rw [f9 rfl]; exact hC0 _ f1) (by rw [f5 k f2, f7]) (hn _) (hfit _) (by rw [List.length_mapIdx]; exact (List.getElem?_eq_some_iff.mp y2).1) hd (fun H1 locs1 hP1 hD1 hS1 => ?_)
  rw [ai_w_putR hc' y2] at hP1
  have i1' : y.set (c' + 2) (.inr (ci, fs.set k (some (some r)))) = .inl n0 :: .inl n1 :: (yr.set c' (.inr (ci, fs.set k (some (some r))))) := by rw [i1]; rfl
  exact kk p l e R s m args below meth c D cA base b sb H1 locs1 sl F hC hE ⟨n0, n1, _, i1', hP1, ai_ext hE.2.1 hE.1 hS hS1 i4, ai_ext hE.2.2.1 hE.1 hS hS1 i5⟩ hS1 hL (by rw [List.length_set]; exact h1) h2 hF
theorem ai_arr {yr : ai_L} {n0 n1 a n : Nat} {D : va_G} {cA : ClassId} {base b sb : Nat} {σ : ai_M} {s : State} {H : Heap} (h : ((.inl n0 :: .inl n1 :: yr : ai_L))[a]? = some (.inl n)) : (a = 0 ∧ n = n0) ∨ (a = 1 ∧ n = n1) ∨ ∃ c, a = c + 2 ∧ yr[c]? = some (.inl n) := by
  match a, h with
  | 0, h => cases h; exact Or.inl ⟨rfl, rfl⟩
  | 1, h => cases h; exact Or.inr (Or.inl ⟨rfl, rfl⟩)
  | c + 2, h => exact Or.inr (Or.inr ⟨c, rfl, h⟩)
theorem ai_arr' {y yr : ai_L} {n0 n1 a n : Nat} (hy : y = .inl n0 :: .inl n1 :: yr) (h : y[a]? = some (.inl n)) : (a = 0 ∧ n = n0) ∨ (a = 1 ∧ n = n1) ∨ ∃ c, a = c + 2 ∧ yr[c]? = some (.inl n) := by
  subst hy
  match a, h with
  | 0, h => cases h; exact Or.inl ⟨rfl, rfl⟩
  | 1, h => cases h; exact Or.inr (Or.inl ⟨rfl, rfl⟩)
  | c + 2, h => exact Or.inr (Or.inr ⟨c, rfl, h⟩)
theorem ev_iaload {a n : Nat} {i : Int32} (hd : decode μ.2.1 pc = .ok (.iaload, 1)) (hy : y[a]? = some (.inl n)) (hin : vp_in i n) (kk : ev μ d (pc + 1) ls (.int (σ a i.toNatClampNeg) :: st) y σ nc ns Q) : ev μ d pc ls (.int i :: .ref a :: st) y σ nc ns Q := by
  intro p l e R s m args below meth c D cA base b sb H locs sl F hC hE hI hS hL h1 h2 hF
  obtain ⟨n0, n1, yr, i1, i3, i4, i5⟩ := id hI
  have K := kk p l e R s m args below meth c D cA base b sb H locs sl F hC hE hI hS hL h1 h2 hF
  rcases ai_arr' i1 hy with ⟨rfl, rfl⟩ | ⟨rfl, rfl⟩ | ⟨c', rfl, hc'⟩
  · exact va_sld (H0 := H) (A := fun q => base ≤ q) hC.1 hC.2.1 i4 (Nat.lt_of_lt_of_le hE.2.1 (Nat.le_trans hE.1 hS.1)) (Nat.not_le.mpr hE.2.1) ⟨Nat.le_refl _, fun _ _ _ => rfl, hS.2.2⟩ hin hd K
  · exact va_sld (H0 := H) (A := fun q => base ≤ q) hC.1 hC.2.1 i5 (Nat.lt_of_lt_of_le hE.2.2.1 (Nat.le_trans hE.1 hS.1)) (Nat.not_le.mpr hE.2.2.1) ⟨Nat.le_refl _, fun _ _ _ => rfl, hS.2.2⟩ hin hd K
  · show W p l e R s m args below meth c H locs nc ns F (F0 m pc sl (.int i :: .ref (ai_ad base b sb (c' + 2)) :: st.map (ai_v (ai_ad base b sb))))
    rw [ai_ad2]
    exact va_iald hC.1 hC.2.1 hE.2.2.2.1 i3 c' 0 (ai_w_get hc') rfl hin hd K
theorem ev_alen {a n : Nat} (v : Int32) (hd : decode μ.2.1 pc = .ok (.arraylength, 1)) (hy : y[a]? = some (.inl n)) (hv : Int32.ofNat n = v) (kk : ev μ d (pc + 1) ls (.int v :: st) y σ nc ns Q) : ev μ d pc ls (.ref a :: st) y σ nc ns Q := by
  intro p l e R s m args below meth c D cA base b sb H locs sl F hC hE hI hS hL h1 h2 hF
  obtain ⟨n0, n1, yr, i1, i3, i4, i5⟩ := id hI
  subst hv
  have K := kk p l e R s m args below meth c D cA base b sb H locs sl F hC hE hI hS hL h1 h2 hF
  rcases ai_arr' i1 hy with ⟨rfl, rfl⟩ | ⟨rfl, rfl⟩ | ⟨c', rfl, hc'⟩
  · exact va_slen (H0 := H) (A := fun q => base ≤ q) hC.1 hC.2.1 i4 (Nat.lt_of_lt_of_le hE.2.1 (Nat.le_trans hE.1 hS.1)) (Nat.not_le.mpr hE.2.1) ⟨Nat.le_refl _, fun _ _ _ => rfl, hS.2.2⟩ hd K
  · exact va_slen (H0 := H) (A := fun q => base ≤ q) hC.1 hC.2.1 i5 (Nat.lt_of_lt_of_le hE.2.2.1 (Nat.le_trans hE.1 hS.1)) (Nat.not_le.mpr hE.2.2.1) ⟨Nat.le_refl _, fun _ _ _ => rfl, hS.2.2⟩ hd K
  · show W p l e R s m args below meth c H locs nc ns F (F0 m pc sl (.ref (ai_ad base b sb (c' + 2)) :: st.map (ai_v (ai_ad base b sb))))
    rw [ai_ad2]
    exact va_alen hC.1 hC.2.1 hE.2.2.2.1 i3 c' 0 (ai_w_get hc') rfl rfl hd K
theorem ev_iastore {a n : Nat} {i x : Int32} (hd : decode μ.2.1 pc = .ok (.iastore, 1)) (ha : 2 ≤ a) (hy : y[a]? = some (.inl n)) (hin : vp_in i n) (kk : ev μ d (pc + 1) ls st y (ai_up σ a i.toNatClampNeg x) nc ns Q) : ev μ d pc ls (.int x :: .int i :: .ref a :: st) y σ nc ns Q := by
  intro p l e R s m args below meth c D cA base b sb H locs sl F hC hE hI hS hL h1 h2 hF
  obtain ⟨n0, n1, yr, i1, i3, i4, i5⟩ := id hI
  rcases ai_arr' i1 hy with ⟨rfl, rfl⟩ | ⟨rfl, rfl⟩ | ⟨c', rfl, hc'⟩
  · omega
  · omega
  · show W p l e R s m args below meth c H locs nc ns F (F0 m pc sl (.int x :: .int i :: .ref (ai_ad base b sb (c' + 2)) :: st.map (ai_v (ai_ad base b sb))))
    rw [ai_ad2]
    refine va_iast hC.1 hC.2.1 hE.2.2.2.1 i3 (ai_w_D _ _ _ _ _) hS c' 0 (ai_w_get hc') rfl hin hd (fun H1 locs1 hP1 hD1 hS1 => ?_)
    rw [ai_w_store hc'] at hP1
    exact kk p l e R s m args below meth c D cA base b sb H1 locs1 sl F hC hE ⟨n0, n1, yr, i1, hP1, ai_ext hE.2.1 hE.1 hS hS1 (ai_X_up 0 (by omega) i4), ai_ext hE.2.2.1 hE.1 hS hS1 (ai_X_up 1 (by omega) i5)⟩ hS1 hL h1 h2 hF
theorem ev_sets {idx : Nat} (hd : decode μ.2.1 pc = .ok (.getstatic idx, 3)) (hw : Cond.fieldLink μ.1.cls idx RX4 "SETS" "[I" ∈ ai_W) (kk : ev μ d (pc + 3) ls (.ref 1 :: st) y σ nc ns Q) : ev μ d pc ls st y σ nc ns Q := by
  intro p l e R s m args below meth c D cA base b sb H locs sl F hC hE hI hS hL h1 h2 hF
  exact va_gets (v := .ref sb) hC.1 hC.2.1 hE.2.2.2.2.2 hS hC.2.2.2.1 (hC.2.2.2.2.1 _ hw) (fun _ h9 => h9) hd (kk p l e R s m args below meth c D cA base b sb H locs sl F hC hE hI hS hL h1 h2 hF)
end EV4
end
section
def ai_set (σ : ai_M) (c : Nat) (f : Nat → Int32) : ai_M := fun c' => if c' = c then f else σ c'
theorem ai_w_setA {cA : ClassId} {g : Nat → Nat} {base c n : Nat} {f : Nat → Int32} {yr : ai_L} {σ : ai_M} (h : yr[c]? = some (.inl n)) :
    (ai_w cA g base yr σ).set c (base + c, .inl (cA, n, .inl f)) = ai_w cA g base yr (ai_set σ (c + 2) f) := by
  have hl := (List.getElem?_eq_some_iff.mp h).1
  apply List.ext_getElem?
  intro j
  by_cases hj : c = j
  · subst hj
    rw [List.getElem?_set_self (by rw [ai_w_len]; exact hl), ai_w_get h]
    simp [ai_e, ai_set]
  · rw [List.getElem?_set_ne hj]
    cases hq : yr[j]? with
    | none => simp [ai_w, List.getElem?_mapIdx, hq]
    | some q => rw [ai_w_get hq, ai_w_get hq, ai_set, if_neg (by omega)]
theorem ai_X_set {b n : Nat} {σ : ai_M} {c : Nat} {f : Nat → Int32} {s : State} {H : Heap} (i : Nat) (hi : i < 2) (h : va_X b n (σ i) s H) : va_X b n (ai_set σ (c + 2) f i) s H := by
  rw [ai_set, if_neg (by omega)]; exact h
theorem ai_X_new {b n : Nat} {σ : ai_M} {c : Nat} {s : State} {H : Heap} (i : Nat) (hi : i < 2) (h : va_X b n (σ i) s H) : va_X b n (ai_new σ (c + 2) i) s H := by
  rw [ai_new, if_neg (by omega)]; exact h
/-- the heap is as long as the list of its cells -/
theorem ai_sz {p : Program} {l : Launch} {e : Env} {R : Room} {s : State} {m : MethodId} {args : Array Value} {below : List Frame} {meth : Method} {c : Code} {T : State} {locs : List Loc} {nc ns : Nat} {H : Heap} {D : va_G} {cA : ClassId} {base b sb n0 n1 : Nat} {y yr : ai_L} {σ : ai_M}
    (X : Stand p l e R s m args below meth c T locs nc ns) (hT : T.heap = H) (hb : base ≤ s.heap.size) (hS : va_S (fun q => base ≤ q) s.heap H locs) (h1 : s.heap.size + nc + 2 = base + y.length) (i1 : y = .inl n0 :: .inl n1 :: yr) (i3 : va_P D vwCl (ai_w cA (ai_ad base b sb) base yr σ) H) : H.size = base + yr.length := by
  have h2 := X.heapSize
  rw [hT] at h2
  rw [i1] at h1
  simp only [List.length_cons] at h1
  have h3 : base + yr.length ≤ H.size := by
    cases hn : yr.length with
    | zero => exact Nat.le_trans hb hS.1
    | succ k =>
      have hk : k < yr.length := by omega
      have := (i3 k _ (ai_w_get (List.getElem?_eq_getElem hk))).lt
      dsimp only at this
      omega
  omega
/-- a class that is made: its number, the fields of a new object -/
def ai_Cl (own : String) (idx ci : Nat) (fs : List (Option (Option Nat))) : Prop := ∃ (C : String) (T : u_T) (ty0 : Nat → FieldType), vwCl[ci]? = some (C, T, fs.length) ∧ (∀ w ∈ u_ws C T fs.length, w ∈ ai_W) ∧ (∀ k, k < fs.length → parseFieldDescriptor (T k).2.2.1 = some (ty0 k)) ∧ Cond.classLink own idx C ∈ ai_W ∧ Cond.instantiable C fs.length ∈ ai_W ∧ Cond.initialized C ∈ ai_W ∧ ∀ j, j < fs.length → (fs[j]? = some none ∧ defaultValue (ty0 j) = .int 0) ∨ (fs[j]? = some (some none) ∧ defaultValue (ty0 j) = .null)
section EV5
variable {μ : ai_I} {d pc : Nat} {ls : List (Option Value)} {st : List Value} {y : ai_L} {σ : ai_M} {nc ns : Nat} {Q : Option Value → ai_L → ai_M → Prop}
theorem ev_newa {n : Int32} (N : Nat) (hd : decode μ.2.1 pc = .ok (.newarray .int, 2)) (hw : Cond.arrayClass .int ∈ ai_W) (hn : ¬ n < 0) (hN : n.toNatClampNeg = N) (hb : N ≤ 1000) (hc : nc + 1 ≤ μ.2.2.2.2.1) (hs : ns + N ≤ μ.2.2.2.2.2) (kk : ev μ d (pc + 2) ls (.ref y.length :: st) (y ++ [.inl N]) (ai_new σ y.length) (nc + 1) (ns + N) Q) : ev μ d pc ls (.int n :: st) y σ nc ns Q := by
  intro p l e R s m args below meth c D cA base b sb H locs sl F hC hE hI hS hL h1 h2 hF
  obtain ⟨n0, n1, yr, i1, i3, i4, i5⟩ := id hI
  intro T hT X
  have hz := ai_sz X hT hE.1 hS h1.1 i1 i3
  have hyl : y.length = yr.length + 2 := by rw [i1]; rfl
  refine (?_ : W p l e R s m args below meth c H locs nc ns F (F0 m pc sl (.int n :: st.map (ai_v (ai_ad base b sb))))) T hT X
  refine va_newaK (atype := .int) hC.1 hC.2.1 (hC.2.2.2.2.1 _ hw) rfl hd rfl hn hN (by show N * 4 ≤ _; omega) (Nat.le_trans hc hC.2.2.2.2.2.2.2.2.1) (Nat.le_trans hs hC.2.2.2.2.2.2.2.2.2) rfl (fun H1 cA' e1 z1 o1 hAr hNm => ?_)
  have hcA : cA' = cA := by
    have h9 : s.vm.findClass ("[" ++ FieldType.int.toString) = some cA := (hE.2.2.2.1.2 0 _ rfl).2
    exact Option.some.inj (hNm.symm.trans h9)
  subst hcA
  have hS1 : va_S (fun q => base ≤ q) s.heap H1 locs := ⟨Nat.le_trans hS.1 (by omega), fun x q1 q2 => (o1 x (Nat.lt_of_lt_of_le q1 hS.1)).trans (hS.2.1 x q1 q2), hS.2.2⟩
  have K := kk p l e R s m args below meth c D cA' base b sb H1 locs sl F hC hE ⟨n0, n1, yr ++ [.inl N], by rw [i1]; rfl, ?_, ?_, ?_⟩ hS1 hL ⟨by rw [List.length_append]; simp only [List.length_cons, List.length_nil]; omega, hc⟩ hs hF
  · rw [hz]
    rw [hyl] at K
    simp only [List.map_cons] at K
    have e9 : ai_v (ai_ad base b sb) (.ref (yr.length + 2)) = .ref (base + yr.length) := by show Value.ref (ai_ad base b sb (yr.length + 2)) = _; rw [ai_ad2]
    rw [e9] at K
    exact K
  · rw [hyl, ai_w_push]
    refine (i3.kept (fun k x hx => o1 x.1 ((i3 k x hx).lt))).app (fun k x hx => ?_)
    have hk0 : k < 1 := (List.getElem?_eq_some_iff.mp hx).1
    rw [show k = 0 by omega] at hx
    cases hx
    show H1[base + yr.length]? = some (vp_cell _ _)
    rw [← hz, e1]
    rfl
  · rw [hyl]; exact ai_ext hE.2.1 hE.1 hS hS1 (ai_X_new 0 (by omega) i4)
  · rw [hyl]; exact ai_ext hE.2.2.1 hE.1 hS hS1 (ai_X_new 1 (by omega) i5)
theorem ev_new {idx ci : Nat} (fs : List (Option (Option Nat))) (hd : decode μ.2.1 pc = .ok (.new idx, 3)) (hcl : ai_Cl μ.1.cls idx ci fs) (hc : nc + 1 ≤ μ.2.2.2.2.1) (hs : ns + fs.length ≤ μ.2.2.2.2.2) (kk : ev μ d (pc + 3) ls (.ref y.length :: st) (y ++ [.inr (ci, fs)]) (ai_new σ y.length) (nc + 1) (ns + fs.length) Q) : ev μ d pc ls st y σ nc ns Q := by
  intro p l e R s m args below meth c D cA base b sb H locs sl F hC hE hI hS hL h1 h2 hF
  obtain ⟨n0, n1, yr, i1, i3, i4, i5⟩ := id hI
  obtain ⟨C, T0, ty0, f1, f2, f3, f4, f5, f6, f7⟩ := hcl
  intro T hT X
  have hz := ai_sz X hT hE.1 hS h1.1 i1 i3
  have hyl : y.length = yr.length + 2 := by rw [i1]; rfl
  have hts := hC.2.2.2.2.1
  have hKn := hE.2.2.2.1.1 ci _ f1
  refine (?_ : W p l e R s m args below meth c H locs nc ns F (F0 m pc sl (st.map (ai_v (ai_ad base b sb))))) T hT X
  refine W.newcK hC.1 hC.2.1 hC.2.2.2.1 (hts _ f4) (hts _ f5) (hts _ f6) rfl hd (Nat.le_trans hc hC.2.2.2.2.2.2.2.2.1) (Nat.le_trans hs hC.2.2.2.2.2.2.2.2.2) hKn.2.1 rfl (fun H1 kC hkC e1 z1 o1 => ?_)
  have hS1 : va_S (fun q => base ≤ q) s.heap H1 locs := ⟨Nat.le_trans hS.1 (by omega), fun x q1 q2 => (o1 x (Nat.lt_of_lt_of_le q1 hS.1)).trans (hS.2.1 x q1 q2), hS.2.2⟩
  have K := kk p l e R s m args below meth c D cA base b sb H1 locs sl F hC hE ⟨n0, n1, yr ++ [.inr (ci, fs)], by rw [i1]; rfl, ?_, ?_, ?_⟩ hS1 hL ⟨by rw [List.length_append]; simp only [List.length_cons, List.length_nil]; omega, hc⟩ hs hF
  · rw [hz]
    rw [hyl] at K
    simp only [List.map_cons] at K
    have e9 : ai_v (ai_ad base b sb) (.ref (yr.length + 2)) = .ref (base + yr.length) := by show Value.ref (ai_ad base b sb (yr.length + 2)) = _; rw [ai_ad2]
    rw [e9] at K
    exact K
  · rw [hyl, ai_w_push]
    refine (i3.kept (fun k x hx => o1 x.1 ((i3 k x hx).lt))).app (fun k x hx => ?_)
    have hk0 : k < 1 := (List.getElem?_eq_some_iff.mp hx).1
    rw [show k = 0 by omega] at hx
    cases hx
    refine ⟨_, f1, (hz ▸ u_born ty0 hts f2 hKn hkC e1 f3).to (fun j hj => ?_)⟩
    rcases f7 j hj with ⟨a1, a2⟩ | ⟨a1, a2⟩
    · rw [a2]
      unfold vp_V
      simp [List.getElem?_mapIdx, a1, ai_o]
    · rw [a2]
      unfold vp_V
      simp [List.getElem?_mapIdx, a1, ai_o]
  · rw [hyl]; exact ai_ext hE.2.1 hE.1 hS hS1 (ai_X_new 0 (by omega) i4)
  · rw [hyl]; exact ai_ext hE.2.2.1 hE.1 hS hS1 (ai_X_new 1 (by omega) i5)
def ai_Ob (own : String) (idx : Nat) : Prop := Cond.methodLink own idx objectInit ∈ ai_W ∧ Cond.instanceMethod objectInit ∈ ai_W ∧ Cond.code objectInit ⟨#[0xb1]⟩ 1 none ∈ ai_W
theorem ev_obj {idx a : Nat} (hd : decode μ.2.1 pc = .ok (.invokespecial idx, 3)) (hw : ai_Ob μ.1.cls idx) (hr : (st.map fun v => v.category).sum ≤ 8) (kk : ev μ (d + 1) (pc + 3) ls st y σ nc ns Q) : ev μ (d + 1) pc ls (.ref a :: st) y σ nc ns Q := by
  intro p l e R s m args below meth c D cA base b sb H locs sl F hC hE hI hS hL h1 h2 hF
  have hts := hC.2.2.2.2.1
  have hfr := hC.2.2.2.2.2.2.1
  have hlo := hC.2.2.2.2.2.2.2.1
  have hr' := ai_cats (ai_ad base b sb) st
  exact W.objInit hC.1 hC.2.1 hC.2.2.2.1 (hts _ hw.1) (hts _ hw.2.1) (hts _ hw.2.2) rfl (hL.1.trans hC.2.2.1.symm) rfl hd (by omega) (by show 2 * 0 + _ + 12 ≤ _; rw [hr']; omega) (kk p l e R s m args below meth c D cA base b sb H locs sl F hC hE hI hS hL h1 h2 hF)
def ai_Ma (own : String) (idx : Nat) (y : MethodName) (code : ByteArray) (n : Nat) : Prop := Cond.methodLink own idx y ∈ ai_W ∧ Cond.static y ∈ ai_W ∧ Cond.initialized "java/lang/Math" ∈ ai_W ∧ Cond.code y code n (some .int) ∈ ai_W
theorem ev_min {idx : Nat} {x z : Int32} (hd : decode μ.2.1 pc = .ok (.invokestatic idx, 3)) (hw : ai_Ma μ.1.cls idx Lib.Math.min.name Lib.Math.min.code 2) (hr : (st.map fun v => v.category).sum ≤ 8) (kk : ev μ (d + 1) (pc + 3) ls (.int (if z < x then z else x) :: st) y σ nc ns Q) : ev μ (d + 1) pc ls (.int z :: .int x :: st) y σ nc ns Q := by
  intro p l e R s m args below meth c D cA base b sb H locs sl F hC hE hI hS hL h1 h2 hF
  have hts := hC.2.2.2.2.1
  have hfr := hC.2.2.2.2.2.2.1
  have hlo := hC.2.2.2.2.2.2.2.1
  have hr' := ai_cats (ai_ad base b sb) st
  exact va_mmin hC.1 hC.2.1 (hC.2.2.1.trans hL.1.symm) hC.2.2.2.1 (hts _ hw.1) (hts _ hw.2.1) (hts _ hw.2.2.1) (hts _ hw.2.2.2) (by omega) (by rw [hr']; omega) (Nat.le_trans h1.2 hC.2.2.2.2.2.2.2.2.1) (Nat.le_trans h2 hC.2.2.2.2.2.2.2.2.2) hd (kk p l e R s m args below meth c D cA base b sb H locs sl F hC hE hI hS hL h1 h2 hF)
theorem ev_max {idx : Nat} {x z : Int32} (hd : decode μ.2.1 pc = .ok (.invokestatic idx, 3)) (hw : ai_Ma μ.1.cls idx Lib.Math.max.name Lib.Math.max.code 2) (hr : (st.map fun v => v.category).sum ≤ 8) (kk : ev μ (d + 1) (pc + 3) ls (.int (if x < z then z else x) :: st) y σ nc ns Q) : ev μ (d + 1) pc ls (.int z :: .int x :: st) y σ nc ns Q := by
  intro p l e R s m args below meth c D cA base b sb H locs sl F hC hE hI hS hL h1 h2 hF
  have hts := hC.2.2.2.2.1
  have hfr := hC.2.2.2.2.2.2.1
  have hlo := hC.2.2.2.2.2.2.2.1
  have hr' := ai_cats (ai_ad base b sb) st
  exact va_mmax hC.1 hC.2.1 (hC.2.2.1.trans hL.1.symm) hC.2.2.2.1 (hts _ hw.1) (hts _ hw.2.1) (hts _ hw.2.2.1) (hts _ hw.2.2.2) (by omega) (by rw [hr']; omega) (Nat.le_trans h1.2 hC.2.2.2.2.2.2.2.2.1) (Nat.le_trans h2 hC.2.2.2.2.2.2.2.2.2) hd (kk p l e R s m args below meth c D cA base b sb H locs sl F hC hE hI hS hL h1 h2 hF)
theorem ev_abs {idx : Nat} {x : Int32} (hd : decode μ.2.1 pc = .ok (.invokestatic idx, 3)) (hw : ai_Ma μ.1.cls idx Lib.Math.abs.name Lib.Math.abs.code 1) (hr : (st.map fun v => v.category).sum ≤ 8) (kk : ev μ (d + 1) (pc + 3) ls (.int (if 0 ≤ x then x else 0 - x) :: st) y σ nc ns Q) : ev μ (d + 1) pc ls (.int x :: st) y σ nc ns Q := by
  intro p l e R s m args below meth c D cA base b sb H locs sl F hC hE hI hS hL h1 h2 hF
  have hts := hC.2.2.2.2.1
  have hfr := hC.2.2.2.2.2.2.1
  have hlo := hC.2.2.2.2.2.2.2.1
  have hr' := ai_cats (ai_ad base b sb) st
  exact va_mabs hC.1 hC.2.1 (hC.2.2.1.trans hL.1.symm) hC.2.2.2.1 (hts _ hw.1) (hts _ hw.2.1) (hts _ hw.2.2.1) (hts _ hw.2.2.2) (by omega) (by rw [hr']; omega) (Nat.le_trans h1.2 hC.2.2.2.2.2.2.2.2.1) (Nat.le_trans h2 hC.2.2.2.2.2.2.2.2.2) hd (kk p l e R s m args below meth c D cA base b sb H locs sl F hC hE hI hS hL h1 h2 hF)
def ai_Ac (own : String) (idx : Nat) : Prop := Cond.methodLink own idx arraycopyName ∈ ai_W ∧ Cond.native arraycopyName ∈ ai_W ∧ Cond.static arraycopyName ∈ ai_W ∧ Cond.initialized "java/lang/System" ∈ ai_W
theorem ev_copy {idx a0 a1 n0' n1' : Nat} {sp dp n : Int32} (hd : decode μ.2.1 pc = .ok (.invokestatic idx, 3)) (hw : ai_Ac μ.1.cls idx) (hr : (st.map fun v => v.category).sum ≤ 8) (ha0 : 2 ≤ a0) (ha1 : 2 ≤ a1) (hy0 : y[a0]? = some (.inl n0')) (hy1 : y[a1]? = some (.inl n1')) (q1 : ¬ sp < 0) (q2 : ¬ dp < 0) (q3 : ¬ n < 0) (q4 : sp.toNatClampNeg + n.toNatClampNeg ≤ n0') (q5 : dp.toNatClampNeg + n.toNatClampNeg ≤ n1')
    (kk : ev μ (d + 1) (pc + 3) ls st y (ai_set σ a1 (va_cpy (σ a0) (σ a1) sp.toNatClampNeg dp.toNatClampNeg n.toNatClampNeg)) nc ns Q) : ev μ (d + 1) pc ls (.int n :: .int dp :: .ref a1 :: .int sp :: .ref a0 :: st) y σ nc ns Q := by
  intro p l e R s m args below meth c D cA base b sb H locs sl F hC hE hI hS hL h1 h2 hF
  have hts := hC.2.2.2.2.1
  have hfr := hC.2.2.2.2.2.2.1
  have hlo := hC.2.2.2.2.2.2.2.1
  have hr' := ai_cats (ai_ad base b sb) st
  obtain ⟨n0, n1, yr, i1, i3, i4, i5⟩ := id hI
  rcases ai_arr' i1 hy0 with ⟨rfl, rfl⟩ | ⟨rfl, rfl⟩ | ⟨c0, rfl, hc0⟩
  · omega
  · omega
  rcases ai_arr' i1 hy1 with ⟨rfl, rfl⟩ | ⟨rfl, rfl⟩ | ⟨c1, rfl, hc1⟩
  · omega
  · omega
  show W p l e R s m args below meth c H locs nc ns F (F0 m pc sl (.int n :: .int dp :: .ref (ai_ad base b sb (c1 + 2)) :: .int sp :: .ref (ai_ad base b sb (c0 + 2)) :: st.map (ai_v (ai_ad base b sb))))
  rw [ai_ad2, ai_ad2]
  have hnw : nativeFrameWords "java/lang/System" "arraycopy" 5 + 11 ≤ 32 := by decide +kernel
  have hnf : ((st.map (ai_v (ai_ad base b sb))).map fun v => v.category).sum + (nativeFrameWords "java/lang/System" "arraycopy" 5 + 11) ≤ R.locals := by rw [hr']; omega
  refine va_copyi hC.1 hC.2.1 (hC.2.2.1.trans hL.1.symm) hC.2.2.2.1 (hts _ hw.1) (hts _ hw.2.1) (hts _ hw.2.2.1) (hts _ hw.2.2.2) hE.2.2.2.1 i3 (ai_w_D _ _ _ _ _) hS c0 c1 0 0 (ty := .int) (ai_w_get hc0) (ai_w_get hc1) rfl rfl rfl q1 q2 q3 q4 q5 (fun i _ => rfl) (by omega) hnf hd (fun H1 locs1 hP1 hD1 hS1 => ?_)
  rw [ai_w_setA hc1] at hP1
  exact kk p l e R s m args below meth c D cA base b sb H1 locs1 sl F hC hE ⟨n0, n1, yr, i1, hP1, ai_ext hE.2.1 hE.1 hS hS1 (ai_X_set 0 (by omega) i4), ai_ext hE.2.2.1 hE.1 hS hS1 (ai_X_set 1 (by omega) i5)⟩ hS1 hL h1 h2 hF
end EV5
end
section
theorem ai_args_mem : ∀ (vs : List Value) (k i : Nat) (v : Value), (∀ w ∈ vs, w.category = 1) → vs[i]? = some v → (k + i, v) ∈ lv_args k vs
  | [], k, i, v, _, h => by simp at h
  | w :: vs, k, i, v, hc, h => by
    have hw : w.category = 1 := hc w List.mem_cons_self
    unfold lv_args
    rw [if_neg (by rw [hw]; decide)]
    cases i with
    | zero =>
      rw [List.getElem?_cons_zero] at h
      cases h
      exact List.mem_cons_self
    | succ i =>
      rw [List.getElem?_cons_succ] at h
      have := ai_args_mem vs (k + 1) i v (fun w hw => hc w (List.mem_cons_of_mem _ hw)) h
      rw [show k + (i + 1) = k + 1 + i by omega]
      exact List.mem_cons_of_mem _ this
theorem ai_sl_len : ∀ (vs : List Value), (∀ w ∈ vs, w.category = 1) → (lg_sl vs).length = vs.length
  | [], _ => rfl
  | w :: vs, hc => by
    have hw : w.category = 1 := hc w List.mem_cons_self
    have ih := ai_sl_len vs (fun w hw => hc w (List.mem_cons_of_mem _ hw))
    unfold lg_sl at ih ⊢
    rw [List.flatMap_cons, if_neg (by rw [hw]; decide), List.length_append, ih]
    simp only [List.length_cons, List.length_nil]
    omega
/-- the locals at a method's entry -/
def ai_en (n : Nat) (as : List Value) : List (Option Value) := as.map some ++ List.replicate (n - as.length) none
theorem ai_entry (g : Nat → Nat) (as : List Value) (n : Nat) (hc : ∀ w ∈ as, w.category = 1) (hn : as.length ≤ n) : ai_lv g ((lg_sl (as.map (ai_v g)) ++ List.replicate (n - (lg_sl (as.map (ai_v g))).length) Slot.unset).toArray) n (ai_en n as) := by
  have hc' : ∀ w ∈ as.map (ai_v g), w.category = 1 := by
    intro w hw
    obtain ⟨v, hv, rfl⟩ := List.mem_map.mp hw
    rw [ai_cat]; exact hc v hv
  have h := lv_entry (as.map (ai_v g)) (n := n) (by rw [ai_sl_len _ hc', List.length_map]; exact hn)
  refine ⟨h.1, h.2.1, fun i v hv => ?_⟩
  have hv' : as[i]? = some v := by
    unfold ai_en at hv
    by_cases hi : i < (as.map some).length
    · rw [List.getElem?_append_left hi, List.getElem?_map] at hv
      cases ha : as[i]? with
      | none => rw [ha] at hv; cases hv
      | some w => rw [ha] at hv; cases hv; rfl
    · rw [List.getElem?_append_right (by omega)] at hv
      obtain ⟨_, h9⟩ := List.getElem?_eq_some_iff.mp hv
      rw [List.getElem_replicate] at h9
      cases h9
  refine ⟨hc v (List.mem_of_getElem? hv'), ?_⟩
  have := h.2.2 (0 + i, ai_v g v) (ai_args_mem _ 0 i _ hc' (by rw [List.getElem?_map, hv']; rfl))
  rw [Nat.zero_add] at this
  exact this
def ai_Pre (D : va_G) (cA : ClassId) (base b sb : Nat) (as : List Value) (y : ai_L) (σ : ai_M) : Array Value → State → Prop :=
  va_Pc (as.map (ai_v (ai_ad base b sb))) (fun U => ai_Env D cA base b sb U ∧ ai_Inv D cA base b sb y σ U U.heap ∧ U.heap.size + 2 = base + y.length)
def ai_Post (D : va_G) (cA : ClassId) (base b sb mc : Nat) (Q : Option Value → ai_L → ai_M → Prop) : Array Value → State → Outcome → State → Prop := fun _ st oc t =>
  (∃ (r : Option Value) (y' : ai_L) (σ' : ai_M), oc = .returned (r.map (ai_v (ai_ad base b sb))) ∧ Q r y' σ' ∧ st.heap.size + mc + 2 = base + y'.length ∧ ai_Inv D cA base b sb y' σ' t t.heap) ∧ va_F (fun q => base ≤ q) st t
theorem ai_Inv.moved {D : va_G} {cA : ClassId} {base b sb : Nat} {y : ai_L} {σ : ai_M} {u U : State} {H : Heap} (hvm : u.vm.Alike U.vm) (h : ai_Inv D cA base b sb y σ u H) : ai_Inv D cA base b sb y σ U H := by
  obtain ⟨n0, n1, yr, i1, i3, i4, i5⟩ := h
  exact ⟨n0, n1, yr, i1, i3, i4.moved hvm, i5.moved hvm⟩
theorem ai_nest_w {s U : State} (hW : s.WarmedH U.vm) (h : ∀ w ∈ ai_nest, va_Nw w s) : ∀ w ∈ ai_nest, va_Nw w U := by
  intro w hw
  have h0 := h w hw
  simp only [ai_nest, List.mem_cons, List.mem_nil_iff, or_false] at hw
  rcases hw with rfl | rfl | rfl
  · exact va_Nw.warmM hW h0
  · exact va_Nw.warmM hW h0
  · exact va_Nw.warmM hW h0
theorem ai_nest_s {u U : State} (hv : u.vm = U.vm) (h : ∀ w ∈ ai_nest, va_Nw w u) : ∀ w ∈ ai_nest, va_Nw w U := by
  intro w hw
  have h0 := h w hw
  simp only [ai_nest, List.mem_cons, List.mem_nil_iff, or_false] at hw
  rcases hw with rfl | rfl | rfl
  · exact va_Nw.same rfl hv h0
  · exact va_Nw.same rfl hv h0
  · exact va_Nw.same rfl hv h0
/-- the environment at a call's start -/
theorem ai_Env.at {D : va_G} {cA : ClassId} {base b sb : Nat} {s U : State} {H : Heap} {locs : List Loc} (h : ai_Env D cA base b sb s) (hS : va_S (fun q => base ≤ q) s.heap H locs) (hU : U.heap = H) (hW : s.WarmedH U.vm) : ai_Env D cA base b sb U := by
  obtain ⟨e1, e2, e3, e4, e5, e6⟩ := h
  refine ⟨by rw [hU]; exact Nat.le_trans e1 hS.1, e2, e3, va_K.moved hW.alike e4, ai_nest_w hW e5, ?_⟩
  rw [hU]
  exact va_Z.moved hW.alike (e6.kept (fun a h1 h2 => hS.2.1 a h1 h2))
theorem ai_blind (D : va_G) (cA : ClassId) (base b sb : Nat) (as : List Value) (y : ai_L) (σ : ai_M) : FrameBlind (ai_Pre D cA base b sb as y σ) := by
  intro a U g mk h
  obtain ⟨h0, ⟨e1, e2, e3, e4, e5, e6⟩, h2, h3⟩ := h
  refine ⟨h0, ⟨e1, e2, e3, va_K.moved (u := U) (U := U.calling g mk a) (Vm.Alike.refl U.vm) e4, ai_nest_s (u := U) (U := U.calling g mk a) rfl e5, ?_⟩, ?_, h3⟩
  · exact va_Z.moved (u := U) (U := U.calling g mk a) (Vm.Alike.refl U.vm) e6
  · exact ai_Inv.moved (u := U) (U := U.calling g mk a) (Vm.Alike.refl U.vm) h2
set_option maxHeartbeats 4000000 in
/-- a method's contract out of its walk -/
theorem ai_met {μ : ai_I} {d : Nat} {as : List Value} {y : ai_L} {σ : ai_M} {Q : Option Value → ai_L → ai_M → Prop} (hpl : plainName μ.1.cls = true) (hcat : ∀ v ∈ as, v.category = 1) (hlen : as.length ≤ μ.2.2.1) (h : ev μ d 0 (ai_en μ.2.2.1 as) [] y σ 0 0 Q) (l : Launch) (D : va_G) (cA : ClassId) (base b sb : Nat) :
    Met l μ.1 (.code μ.1 μ.2.1 μ.2.2.1 μ.2.2.2.1 :: ai_W) ({ frames := d, cells := μ.2.2.2.2.1, slots := μ.2.2.2.2.2, locals := 40 * d }) (ai_Pre D cA base b sb as y σ) (ai_Post D cA base b sb μ.2.2.2.2.1 Q) μ.2.2.2.2.1 μ.2.2.2.2.2 (fun q => base ≤ q) := by
  refine Met.ofW (cc := μ.2.1) (maxL := μ.2.2.1) (ret := μ.2.2.2.1) hpl rfl ?_
  intro p e s m args below meth c s₁ B hml hv
  obtain ⟨rfl, hE, hI, hz⟩ := hv
  have hx := B.exec
  have hb := B.bytes
  have hr := B.returns
  have hts := atoms_spec (ws := .code μ.1 μ.2.1 μ.2.2.1 μ.2.2.2.1 :: ai_W) B.pre
  have hown : s.vm.findClass μ.1.cls = some m.cls := findClass_of_methodNamed B.named
  have hlocks := B.notSynchronized
  have hnm : meth.name = μ.1.name := (name_of_methodNamed B.named B.method).1
  rw [lg_entry_eq]
  have hL := ai_entry (ai_ad base b sb) as μ.2.2.1 hcat hlen
  generalize (lg_sl (as.map (ai_v (ai_ad base b sb))) ++ List.replicate (μ.2.2.1 - (lg_sl (as.map (ai_v (ai_ad base b sb)))).length) Slot.unset).toArray = sl at hL ⊢
  refine h p l e _ s m _ below meth c D cA base b sb s.heap [] sl _ ⟨hx, hb, hml, hown, fun w hw => hts w (List.mem_cons_of_mem _ hw), hnm, Nat.le_refl d, Nat.le_refl _, Nat.le_refl _, Nat.le_refl _⟩ hE hI va_S.rf hL ⟨by omega, Nat.zero_le _⟩ (Nat.zero_le _) ?_
  intro r y' σ' H' locs' pc' sl' hQ hz' hI' hS' hret
  cases r with
  | none =>
    obtain ⟨q1, q2⟩ := hret
    refine W.vret hx hb (by rw [hr]; exact q2) (fun t ht hW => ⟨⟨none, y', σ', rfl, hQ, hz', ?_⟩, hS'.F ht⟩) hS'.2.2 q1 hlocks
    rw [ht]; exact hI'.moved hW.alike
  | some v =>
    obtain ⟨x, ty, rfl, q1, q2, q3⟩ := hret
    refine W.zret (v := x) (ty := ty) hx hb (by rw [hr]; exact q2) q3 (fun t ht hW => ⟨⟨some (.int x), y', σ', rfl, hQ, hz', ?_⟩, hS'.F ht⟩) hS'.2.2 q1 hlocks
    rw [ht]; exact hI'.moved hW.alike
section GO
variable {p : Program} {l : Launch} {e : Env} {R : Room} {s : State} {m : MethodId} {args : Array Value} {below : List Frame} {meth : Method} {c : Code} {H : Heap} {locs : List Loc} {cells slots : Nat} {F : State → Prop}
theorem ai_go {pc mc ms : Nat} {sl : Array Slot} {st0 rest : List Value} {a : Array Value} {D : va_G} {cA : ClassId} {base b sb : Nat} {Q' : Option Value → ai_L → ai_M → Prop} (hr : va_Run p l e R s m args below meth c H locs cells slots mc ms (F0 m pc sl st0) rest (ai_Post D cA base b sb mc Q' a) (fun q => base ≤ q)) (hS : va_S (fun q => base ≤ q) s.heap H locs)
    (kk : ∀ (r : Option Value) (y' : ai_L) (σ' : ai_M) (H1 : Heap) (locs1 : List Loc), Q' r y' σ' → H.size + mc + 2 = base + y'.length → ai_Inv D cA base b sb y' σ' s H1 → va_S (fun q => base ≤ q) s.heap H1 locs1 → W p l e R s m args below meth c H1 locs1 (cells + mc) (slots + ms) F (F0 m (pc + 3) sl ((r.map (ai_v (ai_ad base b sb))).toList ++ rest))) : W p l e R s m args below meth c H locs cells slots F (F0 m pc sl st0) := by
  intro T hT X
  obtain ⟨v, st₀, t, T', L, h0, X', hL, e1, e2, ⟨⟨r, y', σ', hv, hq, hz, hi⟩, hsz, hk⟩, st⟩ := hr T hT X
  cases hv
  rw [h0] at hz hsz hk
  have hal : t.vm.Alike s.vm := by rw [← e2]; exact X'.warmed.alike.symm
  obtain ⟨t2, a1, b1⟩ := kk r y' σ' T'.heap (locs ++ L) hq hz (by rw [e1]; exact hi.moved hal)
    ⟨Nat.le_trans hS.1 (by rw [e1]; exact hsz), fun q g1 g2 => by rw [e1, hk q (Nat.lt_of_lt_of_le g1 hS.1) g2]; exact hS.2.1 q g1 g2, fun q hq => by
      rcases List.mem_append.mp hq with h | h
      · exact hS.2.2 q h
      · exact hL q h⟩ T' rfl X'
  exact ⟨t2, st t2 a1, b1⟩
end GO
/-- what a call needs of its method -/
def ai_ok (μ : ai_I) (n : Nat) : Prop := Cond.code μ.1 μ.2.1 μ.2.2.1 μ.2.2.2.1 ∈ ai_W ∧ Cond.initialized μ.1.cls ∈ ai_W ∧ plainName μ.1.cls = true ∧ μ.1.cls ≠ "java/lang/invoke/MethodHandle" ∧ μ.1.cls ≠ "java/lang/invoke/VarHandle" ∧ (parseMethodDescriptor μ.1.desc).map (fun d => d.parameters.length) = some n ∧ μ.2.2.1 ≤ 21
theorem ai_gd {μ : ai_I} {n : Nat} (h : ai_ok μ n) : GoodIn ai_W (Cond.code μ.1 μ.2.1 μ.2.2.1 μ.2.2.2.1 :: ai_W) := by
  intro w hw
  rcases List.mem_cons.mp hw with rfl | hw
  · exact ai_good _ h.1
  · exact ai_good _ hw
theorem ai_catc {a : Nat} {as : List Value} (h : ∀ v ∈ as, v.category = 1) : ∀ v ∈ (Value.ref a :: as), v.category = 1 := by
  intro v hv
  rcases List.mem_cons.mp hv with rfl | hv
  · rfl
  · exact h v hv
section EV6
variable {μ : ai_I} {d pc : Nat} {ls : List (Option Value)} {st : List Value} {y : ai_L} {σ : ai_M} {nc ns : Nat} {Q : Option Value → ai_L → ai_M → Prop}
def ai_Vi (own : String) (idx : Nat) (μ' : ai_I) : Prop := Cond.methodLink own idx μ'.1 ∈ ai_W ∧ Cond.instanceMethod μ'.1 ∈ ai_W ∧ Cond.selects μ'.1.cls μ'.1 μ'.1 ∈ ai_W
theorem ev_callV {μ' : ai_I} {n idx ci a : Nat} {as : List Value} {Q' : Option Value → ai_L → ai_M → Prop} (hd : decode μ.2.1 pc = .ok (.invokevirtual idx, 3)) (ho : ai_ok μ' n) (hv : ai_Vi μ.1.cls idx μ') (hy : ∃ fs, y[a]? = some (.inr (ci, fs))) (hcl : ∃ T N, vwCl[ci]? = some (μ'.1.cls, T, N)) (hn : as.length = n) (hcat : ∀ v ∈ as, v.category = 1) (hn' : n + 1 ≤ μ'.2.2.1) (hr : (st.map fun v => v.category).sum ≤ 8)
    (hmc : nc + μ'.2.2.2.2.1 ≤ μ.2.2.2.2.1) (hms : ns + μ'.2.2.2.2.2 ≤ μ.2.2.2.2.2) (hcall : ev μ' d 0 (ai_en μ'.2.2.1 (.ref a :: as)) [] y σ 0 0 Q') (kk : ∀ r y' σ', Q' r y' σ' → ev μ (d + 1) (pc + 3) ls (r.toList ++ st) y' σ' (nc + μ'.2.2.2.2.1) (ns + μ'.2.2.2.2.2) Q) : ev μ (d + 1) pc ls (as.reverse ++ .ref a :: st) y σ nc ns Q := by
  intro p l e R s m args below meth c D cA base b sb H locs sl F hC hE hI hS hL h1 h2 hF
  have hts := hC.2.2.2.2.1
  have hfr := hC.2.2.2.2.2.2.1
  have hlo := hC.2.2.2.2.2.2.2.1
  have hRc := hC.2.2.2.2.2.2.2.2.1
  have hRs := hC.2.2.2.2.2.2.2.2.2
  have hr' := ai_cats (ai_ad base b sb) st
  obtain ⟨n0, n1, yr, i1, i3, i4, i5⟩ := id hI
  obtain ⟨fs, hy⟩ := hy
  obtain ⟨T0, N0, hcl⟩ := hcl
  obtain ⟨c', rfl, hc'⟩ := ai_obj i1 hy
  intro T hT X
  have hz := ai_sz X hT hE.1 hS h1.1 i1 i3
  have hyl : y.length = yr.length + 2 := by rw [i1]; rfl
  have hM := ai_met ho.2.2.1 (as := .ref (c' + 2) :: as) (ai_catc hcat) (by simp only [List.length_cons]; omega) hcall l D cA base b sb
  refine (?_ : W p l e R s m args below meth c H locs nc ns F (F0 m pc sl ((as.reverse ++ .ref (c' + 2) :: st).map (ai_v (ai_ad base b sb))))) T hT X
  have hst : (as.reverse ++ .ref (c' + 2) :: st).map (ai_v (ai_ad base b sb)) = (as.map (ai_v (ai_ad base b sb))).reverse ++ .ref (base + c') :: st.map (ai_v (ai_ad base b sb)) := by
    rw [List.map_append, List.map_reverse, List.map_cons]
    show _ ++ Value.ref (ai_ad base b sb (c' + 2)) :: _ = _
    rw [ai_ad2]
  have hav : ai_v (ai_ad base b sb) (.ref (c' + 2)) = .ref (base + c') := by show Value.ref (ai_ad base b sb (c' + 2)) = _; rw [ai_ad2]
  refine ai_go (va_runV (As := as.map (ai_v (ai_ad base b sb))) (rest := st.map (ai_v (ai_ad base b sb))) (b := base + c') (Ts := ai_W) (own := μ.1.cls) ⟨hC.1, hC.2.1, hC.2.2.1, hC.2.2.2.1, hts⟩ hM
    (cwV n hts (C := μ'.1.cls) (fun w hw => ?_) rfl rfl rfl ⟨rfl, ho.2.2.2.1, ho.2.2.2.2.1, ho.2.2.2.2.2.1⟩ ⟨by show d + 1 ≤ R.frames; exact hfr, by show 8 + (μ'.2.2.1 + 11) + 40 * d ≤ R.locals; have := ho.2.2.2.2.2.2; omega⟩)
    ⟨ai_blind D cA base b sb _ y σ, va_recv hE.2.2.2.1 i3 hcl (ai_w_get hc'), fun U hU hW => ⟨?_, hE.at hS hU hW, ?_, ?_⟩⟩ rfl (by rw [List.length_map]; exact hn) (hL.1) hst (by show 2 * 0 + _ ≤ 8; rw [hr']; omega) hd ⟨Nat.le_trans hmc hRc, Nat.le_trans hms hRs⟩) hS (fun r y' σ' H1 locs1 hq hz1 hI1 hS1 => ?_)
  · unfold wsV at hw
    rcases List.mem_append.mp hw with hw | hw
    · simp only [List.mem_cons, List.mem_nil_iff, or_false] at hw
      rcases hw with rfl | rfl | rfl | rfl
      · exact ai_good _ hv.1
      · exact ai_good _ hv.2.1
      · exact ai_good _ hv.2.2
      · exact ai_good _ ho.2.1
    · exact ai_gd ho _ hw
  · rw [List.map_cons, hav]
  · rw [hU]; exact hI.moved hW.alike
  · rw [hU, hz, hyl]; omega
  · have K := kk r y' σ' hq p l e R s m args below meth c D cA base b sb H1 locs1 sl F hC hE hI1 hS1 hL ⟨by omega, hmc⟩ hms hF
    rw [List.map_append] at K
    cases r with
    | none => exact K
    | some v => exact K
def ai_Si (own : String) (idx : Nat) (μ' : ai_I) : Prop := Cond.methodLink own idx μ'.1 ∈ ai_W ∧ Cond.static μ'.1 ∈ ai_W
theorem ev_callS {μ' : ai_I} {n idx : Nat} {as : List Value} {Q' : Option Value → ai_L → ai_M → Prop} (hd : decode μ.2.1 pc = .ok (.invokestatic idx, 3)) (ho : ai_ok μ' n) (hv : ai_Si μ.1.cls idx μ') (hn : as.length = n) (hcat : ∀ v ∈ as, v.category = 1) (hn' : n ≤ μ'.2.2.1) (hr : (st.map fun v => v.category).sum ≤ 8)
    (hmc : nc + μ'.2.2.2.2.1 ≤ μ.2.2.2.2.1) (hms : ns + μ'.2.2.2.2.2 ≤ μ.2.2.2.2.2) (hcall : ev μ' d 0 (ai_en μ'.2.2.1 as) [] y σ 0 0 Q') (kk : ∀ r y' σ', Q' r y' σ' → ev μ (d + 1) (pc + 3) ls (r.toList ++ st) y' σ' (nc + μ'.2.2.2.2.1) (ns + μ'.2.2.2.2.2) Q) : ev μ (d + 1) pc ls (as.reverse ++ st) y σ nc ns Q := by
  intro p l e R s m args below meth c D cA base b sb H locs sl F hC hE hI hS hL h1 h2 hF
  have hts := hC.2.2.2.2.1
  have hfr := hC.2.2.2.2.2.2.1
  have hlo := hC.2.2.2.2.2.2.2.1
  have hRc := hC.2.2.2.2.2.2.2.2.1
  have hRs := hC.2.2.2.2.2.2.2.2.2
  have hr' := ai_cats (ai_ad base b sb) st
  obtain ⟨n0, n1, yr, i1, i3, i4, i5⟩ := id hI
  intro T hT X
  have hz := ai_sz X hT hE.1 hS h1.1 i1 i3
  have hyl : y.length = yr.length + 2 := by rw [i1]; rfl
  have hM := ai_met ho.2.2.1 (as := as) hcat (by omega) hcall l D cA base b sb
  refine (?_ : W p l e R s m args below meth c H locs nc ns F (F0 m pc sl ((as.reverse ++ st).map (ai_v (ai_ad base b sb))))) T hT X
  have hst : (as.reverse ++ st).map (ai_v (ai_ad base b sb)) = (as.map (ai_v (ai_ad base b sb))).reverse ++ st.map (ai_v (ai_ad base b sb)) := by
    rw [List.map_append, List.map_reverse]
  refine ai_go (va_runS (As := as.map (ai_v (ai_ad base b sb))) (rest := st.map (ai_v (ai_ad base b sb))) (Ts := ai_W) (own := μ.1.cls) ⟨hC.1, hC.2.1, hC.2.2.1, hC.2.2.2.1, hts⟩ hM
    (va_cwS n hts (fun w hw => ?_) rfl rfl rfl ⟨ho.2.2.2.1, ho.2.2.2.2.1, ho.2.2.2.2.2.1⟩ ⟨by show d + 1 ≤ R.frames; exact hfr, by show 8 + (μ'.2.2.1 + 11) + 40 * d ≤ R.locals; have := ho.2.2.2.2.2.2; omega⟩)
    ⟨ai_blind D cA base b sb _ y σ, fun U hU hW => ⟨rfl, hE.at hS hU hW, ?_, ?_⟩⟩ rfl (by rw [List.length_map]; exact hn) (hL.1) hst (by show 2 * 0 + _ ≤ 8; rw [hr']; omega) hd ⟨Nat.le_trans hmc hRc, Nat.le_trans hms hRs⟩) hS (fun r y' σ' H1 locs1 hq hz1 hI1 hS1 => ?_)
  · unfold va_wsS at hw
    rcases List.mem_append.mp hw with hw | hw
    · simp only [List.mem_cons, List.mem_nil_iff, or_false] at hw
      rcases hw with rfl | rfl | rfl
      · exact ai_good _ hv.1
      · exact ai_good _ hv.2
      · exact ai_good _ ho.2.1
    · exact ai_gd ho _ hw
  · rw [hU]; exact hI.moved hW.alike
  · rw [hU, hz, hyl]; omega
  · have K := kk r y' σ' hq p l e R s m args below meth c D cA base b sb H1 locs1 sl F hC hE hI1 hS1 hL ⟨by omega, hmc⟩ hms hF
    rw [List.map_append] at K
    cases r with
    | none => exact K
    | some v => exact K
/-- a nest mate's static method -/
theorem ev_callSN {μ' : ai_I} {n idx : Nat} {host : String} {as : List Value} {Q' : Option Value → ai_L → ai_M → Prop} (hd : decode μ.2.1 pc = .ok (.invokestatic idx, 3)) (ho : ai_ok μ' n) (hv : Cond.methodLinkNest μ.1.cls idx μ'.1 host ∈ ai_nest) (hv2 : Cond.static μ'.1 ∈ ai_W) (hn : as.length = n) (hcat : ∀ v ∈ as, v.category = 1) (hn' : n ≤ μ'.2.2.1) (hr : (st.map fun v => v.category).sum ≤ 8)
    (hmc : nc + μ'.2.2.2.2.1 ≤ μ.2.2.2.2.1) (hms : ns + μ'.2.2.2.2.2 ≤ μ.2.2.2.2.2) (hcall : ev μ' d 0 (ai_en μ'.2.2.1 as) [] y σ 0 0 Q') (kk : ∀ r y' σ', Q' r y' σ' → ev μ (d + 1) (pc + 3) ls (r.toList ++ st) y' σ' (nc + μ'.2.2.2.2.1) (ns + μ'.2.2.2.2.2) Q) : ev μ (d + 1) pc ls (as.reverse ++ st) y σ nc ns Q := by
  intro p l e R s m args below meth c D cA base b sb H locs sl F hC hE hI hS hL h1 h2 hF
  have hts := hC.2.2.2.2.1
  have hfr := hC.2.2.2.2.2.2.1
  have hlo := hC.2.2.2.2.2.2.2.1
  have hRc := hC.2.2.2.2.2.2.2.2.1
  have hRs := hC.2.2.2.2.2.2.2.2.2
  have hr' := ai_cats (ai_ad base b sb) st
  obtain ⟨n0, n1, yr, i1, i3, i4, i5⟩ := id hI
  intro T hT X
  have hz := ai_sz X hT hE.1 hS h1.1 i1 i3
  have hyl : y.length = yr.length + 2 := by rw [i1]; rfl
  have hM := ai_met ho.2.2.1 (as := as) hcat (by omega) hcall l D cA base b sb
  refine (?_ : W p l e R s m args below meth c H locs nc ns F (F0 m pc sl ((as.reverse ++ st).map (ai_v (ai_ad base b sb))))) T hT X
  have hst : (as.reverse ++ st).map (ai_v (ai_ad base b sb)) = (as.map (ai_v (ai_ad base b sb))).reverse ++ st.map (ai_v (ai_ad base b sb)) := by
    rw [List.map_append, List.map_reverse]
  refine ai_go (va_runSN (host := host) (As := as.map (ai_v (ai_ad base b sb))) (rest := st.map (ai_v (ai_ad base b sb))) (Ts := ai_W) (own := μ.1.cls) ⟨hC.1, hC.2.1, hC.2.2.1, hC.2.2.2.1, hts⟩ hM
    ⟨va_cnB n hts (ai_gd ho) rfl rfl rfl (hE.2.2.2.2.1 _ hv) (hts _ ho.2.1) ⟨ho.2.2.2.1, ho.2.2.2.2.1, ho.2.2.2.2.2.1⟩ ⟨by show d + 1 ≤ R.frames; exact hfr, by show 8 + (μ'.2.2.1 + 11) + 40 * d ≤ R.locals; have := ho.2.2.2.2.2.2; omega⟩, hts _ hv2, trivial⟩
    ⟨ai_blind D cA base b sb _ y σ, fun U hU hW => ⟨rfl, hE.at hS hU hW, ?_, ?_⟩⟩ rfl (by rw [List.length_map]; exact hn) (hL.1) hst (by show 2 * 0 + _ ≤ 8; rw [hr']; omega) hd ⟨Nat.le_trans hmc hRc, Nat.le_trans hms hRs⟩) hS (fun r y' σ' H1 locs1 hq hz1 hI1 hS1 => ?_)
  · rw [hU]; exact hI.moved hW.alike
  · rw [hU, hz, hyl]; omega
  · have K := kk r y' σ' hq p l e R s m args below meth c D cA base b sb H1 locs1 sl F hC hE hI1 hS1 hL ⟨by omega, hmc⟩ hms hF
    rw [List.map_append] at K
    cases r with
    | none => exact K
    | some v => exact K
theorem ev_callI {yy : MethodName} {bb : ByteArray} {mL mcc mss idx a : Nat} {Q' : Option Value → ai_L → ai_M → Prop} (ha : 2 ≤ a) (hd : decode μ.2.1 pc = .ok (.invokespecial idx, 3)) (ho : ai_ok (yy, bb, mL, none, mcc, mss) 0) (hv : Cond.methodLink μ.1.cls idx yy ∈ ai_W) (hv2 : Cond.instanceMethod yy ∈ ai_W) (hin : yy.name = "<init>") (hn' : 1 ≤ mL) (hr : (st.map fun v => v.category).sum ≤ 8)
    (hmc : nc + mcc ≤ μ.2.2.2.2.1) (hms : ns + mss ≤ μ.2.2.2.2.2) (hcall : ev (yy, bb, mL, none, mcc, mss) d 0 (ai_en mL [.ref a]) [] y σ 0 0 Q') (kk : ∀ r y' σ', Q' r y' σ' → ev μ (d + 1) (pc + 3) ls (r.toList ++ st) y' σ' (nc + mcc) (ns + mss) Q) : ev μ (d + 1) pc ls (.ref a :: st) y σ nc ns Q := by
  intro p l e R s m args below meth c D cA base b sb H locs sl F hC hE hI hS hL h1 h2 hF
  have hts := hC.2.2.2.2.1
  have hfr := hC.2.2.2.2.2.2.1
  have hlo := hC.2.2.2.2.2.2.2.1
  have hRc := hC.2.2.2.2.2.2.2.2.1
  have hRs := hC.2.2.2.2.2.2.2.2.2
  have hr' := ai_cats (ai_ad base b sb) st
  obtain ⟨n0, n1, yr, i1, i3, i4, i5⟩ := id hI
  intro T hT X
  have hz := ai_sz X hT hE.1 hS h1.1 i1 i3
  have hyl : y.length = yr.length + 2 := by rw [i1]; rfl
  obtain ⟨c', rfl⟩ : ∃ c', a = c' + 2 := ⟨a - 2, by omega⟩
  have hM := ai_met (μ := (yy, bb, mL, none, mcc, mss)) ho.2.2.1 (as := [.ref (c' + 2)]) (ai_catc (fun v h => absurd h List.not_mem_nil)) hn' hcall l D cA base b sb
  have hav : ai_v (ai_ad base b sb) (.ref (c' + 2)) = .ref (base + c') := by show Value.ref (ai_ad base b sb (c' + 2)) = _; rw [ai_ad2]
  refine (?_ : W p l e R s m args below meth c H locs nc ns F (F0 m pc sl ((.ref (c' + 2) :: st).map (ai_v (ai_ad base b sb))))) T hT X
  have hst : (.ref (c' + 2) :: st).map (ai_v (ai_ad base b sb)) = ([] : List Value).reverse ++ .ref (base + c') :: st.map (ai_v (ai_ad base b sb)) := by
    rw [List.map_cons, hav]; rfl
  refine ai_go (va_runI (As := []) (b := base + c') (rest := st.map (ai_v (ai_ad base b sb))) (Ts := ai_W) (own := μ.1.cls) ⟨hC.1, hC.2.1, hC.2.2.1, hC.2.2.2.1, hts⟩ hM
    (cwI 0 hts (ai_gd ho) rfl rfl rfl (hts _ ho.2.1) (hts _ hv) (hts _ hv2) hin ⟨ho.2.2.2.1, ho.2.2.2.2.1, ho.2.2.2.2.2.1⟩ ⟨by show d + 1 ≤ R.frames; exact hfr, by show 8 + (mL + 11) + 40 * d ≤ R.locals; have h21 : mL ≤ 21 := ho.2.2.2.2.2.2; omega⟩)
    ⟨ai_blind D cA base b sb _ y σ, fun U hU hW => ⟨?_, hE.at hS hU hW, ?_, ?_⟩⟩ rfl rfl (hL.1) hst (by show 2 * 0 + _ ≤ 8; rw [hr']; omega) hd ⟨Nat.le_trans hmc hRc, Nat.le_trans hms hRs⟩) hS (fun r y' σ' H1 locs1 hq hz1 hI1 hS1 => ?_)
  · rw [List.map_cons, hav]; rfl
  · rw [hU]; exact hI.moved hW.alike
  · rw [hU, hz, hyl]; omega
  · have hz1 : H.size + mcc + 2 = base + y'.length := hz1
    have K := kk r y' σ' hq p l e R s m args below meth c D cA base b sb H1 locs1 sl F hC hE hI1 hS1 hL ⟨by omega, hmc⟩ hms hF
    rw [List.map_append] at K
    cases r with
    | none => exact K
    | some v => exact K
theorem ev_callIN {yy : MethodName} {bb : ByteArray} {mL mcc mss idx a : Nat} {host : String} {Q' : Option Value → ai_L → ai_M → Prop} (ha : 2 ≤ a) (hd : decode μ.2.1 pc = .ok (.invokespecial idx, 3)) (ho : ai_ok (yy, bb, mL, none, mcc, mss) 0) (hv : Cond.methodLinkNest μ.1.cls idx yy host ∈ ai_nest) (hv2 : Cond.instanceMethod yy ∈ ai_W) (hin : yy.name = "<init>") (hn' : 1 ≤ mL) (hr : (st.map fun v => v.category).sum ≤ 8)
    (hmc : nc + mcc ≤ μ.2.2.2.2.1) (hms : ns + mss ≤ μ.2.2.2.2.2) (hcall : ev (yy, bb, mL, none, mcc, mss) d 0 (ai_en mL [.ref a]) [] y σ 0 0 Q') (kk : ∀ r y' σ', Q' r y' σ' → ev μ (d + 1) (pc + 3) ls (r.toList ++ st) y' σ' (nc + mcc) (ns + mss) Q) : ev μ (d + 1) pc ls (.ref a :: st) y σ nc ns Q := by
  intro p l e R s m args below meth c D cA base b sb H locs sl F hC hE hI hS hL h1 h2 hF
  have hts := hC.2.2.2.2.1
  have hfr := hC.2.2.2.2.2.2.1
  have hlo := hC.2.2.2.2.2.2.2.1
  have hRc := hC.2.2.2.2.2.2.2.2.1
  have hRs := hC.2.2.2.2.2.2.2.2.2
  have hr' := ai_cats (ai_ad base b sb) st
  obtain ⟨n0, n1, yr, i1, i3, i4, i5⟩ := id hI
  intro T hT X
  have hz := ai_sz X hT hE.1 hS h1.1 i1 i3
  have hyl : y.length = yr.length + 2 := by rw [i1]; rfl
  obtain ⟨c', rfl⟩ : ∃ c', a = c' + 2 := ⟨a - 2, by omega⟩
  have hM := ai_met (μ := (yy, bb, mL, none, mcc, mss)) ho.2.2.1 (as := [.ref (c' + 2)]) (ai_catc (fun v h => absurd h List.not_mem_nil)) hn' hcall l D cA base b sb
  have hav : ai_v (ai_ad base b sb) (.ref (c' + 2)) = .ref (base + c') := by show Value.ref (ai_ad base b sb (c' + 2)) = _; rw [ai_ad2]
  refine (?_ : W p l e R s m args below meth c H locs nc ns F (F0 m pc sl ((.ref (c' + 2) :: st).map (ai_v (ai_ad base b sb))))) T hT X
  have hst : (.ref (c' + 2) :: st).map (ai_v (ai_ad base b sb)) = ([] : List Value).reverse ++ .ref (base + c') :: st.map (ai_v (ai_ad base b sb)) := by
    rw [List.map_cons, hav]; rfl
  refine ai_go (va_runIN (host := host) (As := []) (b := base + c') (rest := st.map (ai_v (ai_ad base b sb))) (Ts := ai_W) (own := μ.1.cls) ⟨hC.1, hC.2.1, hC.2.2.1, hC.2.2.2.1, hts⟩ hM
    ⟨va_cnB 0 hts (ai_gd ho) rfl rfl rfl (hE.2.2.2.2.1 _ hv) (hts _ ho.2.1) ⟨ho.2.2.2.1, ho.2.2.2.2.1, ho.2.2.2.2.2.1⟩ ⟨by show d + 1 ≤ R.frames; exact hfr, by show 8 + (mL + 11) + 40 * d ≤ R.locals; have h21 : mL ≤ 21 := ho.2.2.2.2.2.2; omega⟩, hin, hts _ hv2⟩
    ⟨ai_blind D cA base b sb _ y σ, fun U hU hW => ⟨?_, hE.at hS hU hW, ?_, ?_⟩⟩ rfl rfl (hL.1) hst (by show 2 * 0 + _ ≤ 8; rw [hr']; omega) hd ⟨Nat.le_trans hmc hRc, Nat.le_trans hms hRs⟩) hS (fun r y' σ' H1 locs1 hq hz1 hI1 hS1 => ?_)
  · rw [List.map_cons, hav]; rfl
  · rw [hU]; exact hI.moved hW.alike
  · rw [hU, hz, hyl]; omega
  · have hz1 : H.size + mcc + 2 = base + y'.length := hz1
    have K := kk r y' σ' hq p l e R s m args below meth c D cA base b sb H1 locs1 sl F hC hE hI1 hS1 hL ⟨by omega, hmc⟩ hms hF
    rw [List.map_append] at K
    cases r with
    | none => exact K
    | some v => exact K
end EV6
end
