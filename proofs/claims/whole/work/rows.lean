section
/-- a private method of a class that the tables say can be made, by its rows of tables_1 -/
def lw_okq (q : MethodName × Nat) : Prop := (q.1.cls ≠ "java/lang/invoke/MethodHandle" ∧ q.1.cls ≠ "java/lang/invoke/VarHandle") ∧ Cond.instantiable q.1.cls q.2 ∈ tables_1 ∧ Cond.privateMethod q.1 ∈ tables_1 ∧ Cond.instanceMethod q.1 ∈ tables_1
theorem lw_p0 : lw_okq (⟨"DropRows$Grid", "rowFrom", "(IIII)I"⟩, 9) := ⟨⟨by decide +kernel, by decide +kernel⟩, List.mem_of_getElem? (i := 20) (by decide +kernel), List.mem_of_getElem? (i := 74) (by decide +kernel), List.mem_of_getElem? (i := 75) (by decide +kernel)⟩
theorem lw_p1 : lw_okq (⟨"DropRows$Grid", "beside", "(II)I"⟩, 9) := ⟨⟨by decide +kernel, by decide +kernel⟩, List.mem_of_getElem? (i := 20) (by decide +kernel), List.mem_of_getElem? (i := 78) (by decide +kernel), List.mem_of_getElem? (i := 79) (by decide +kernel)⟩
theorem lw_p2 : lw_okq (⟨"DropRows$Grid", "addRow", "(I)V"⟩, 9) := ⟨⟨by decide +kernel, by decide +kernel⟩, List.mem_of_getElem? (i := 20) (by decide +kernel), List.mem_of_getElem? (i := 82) (by decide +kernel), List.mem_of_getElem? (i := 83) (by decide +kernel)⟩
theorem lw_p3 : lw_okq (⟨"DropRows$Grid", "isRow", "(I)Z"⟩, 9) := ⟨⟨by decide +kernel, by decide +kernel⟩, List.mem_of_getElem? (i := 20) (by decide +kernel), List.mem_of_getElem? (i := 86) (by decide +kernel), List.mem_of_getElem? (i := 87) (by decide +kernel)⟩
theorem lw_p4 : lw_okq (⟨"DropRows$Game", "squareIn", "(I)I"⟩, 5) := ⟨⟨by decide +kernel, by decide +kernel⟩, List.mem_of_getElem? (i := 136) (by decide +kernel), List.mem_of_getElem? (i := 256) (by decide +kernel), List.mem_of_getElem? (i := 257) (by decide +kernel)⟩
theorem lw_p5 : lw_okq (⟨"DropRows$Solver", "startEmpty", "()V"⟩, 12) := ⟨⟨by decide +kernel, by decide +kernel⟩, List.mem_of_getElem? (i := 90) (by decide +kernel), List.mem_of_getElem? (i := 322) (by decide +kernel), List.mem_of_getElem? (i := 323) (by decide +kernel)⟩
theorem lw_p6 : lw_okq (⟨"DropRows$Solver", "prepare", "()V"⟩, 12) := ⟨⟨by decide +kernel, by decide +kernel⟩, List.mem_of_getElem? (i := 90) (by decide +kernel), List.mem_of_getElem? (i := 326) (by decide +kernel), List.mem_of_getElem? (i := 327) (by decide +kernel)⟩
theorem lw_p7 : lw_okq (⟨"DropRows$Solver", "search", "(IIIII)I"⟩, 12) := ⟨⟨by decide +kernel, by decide +kernel⟩, List.mem_of_getElem? (i := 90) (by decide +kernel), List.mem_of_getElem? (i := 342) (by decide +kernel), List.mem_of_getElem? (i := 343) (by decide +kernel)⟩
theorem lw_p8 : lw_okq (⟨"DropRows$Solver", "keptAt", "(I)I"⟩, 12) := ⟨⟨by decide +kernel, by decide +kernel⟩, List.mem_of_getElem? (i := 90) (by decide +kernel), List.mem_of_getElem? (i := 349) (by decide +kernel), List.mem_of_getElem? (i := 350) (by decide +kernel)⟩
theorem lw_p9 : lw_okq (⟨"DropRows$Solver", "tryColumn", "(IIIIII)I"⟩, 12) := ⟨⟨by decide +kernel, by decide +kernel⟩, List.mem_of_getElem? (i := 90) (by decide +kernel), List.mem_of_getElem? (i := 353) (by decide +kernel), List.mem_of_getElem? (i := 354) (by decide +kernel)⟩
theorem lw_p10 : lw_okq (⟨"DropRows$Solver", "keep", "(IIII)V"⟩, 12) := ⟨⟨by decide +kernel, by decide +kernel⟩, List.mem_of_getElem? (i := 90) (by decide +kernel), List.mem_of_getElem? (i := 361) (by decide +kernel), List.mem_of_getElem? (i := 362) (by decide +kernel)⟩
theorem lw_p11 : lw_okq (⟨"DropRows", "bestColumn", "()I"⟩, 7) := ⟨⟨by decide +kernel, by decide +kernel⟩, List.mem_of_getElem? (i := 12) (by decide +kernel), List.mem_of_getElem? (i := 383) (by decide +kernel), List.mem_of_getElem? (i := 384) (by decide +kernel)⟩
theorem lw_p12 : lw_okq (⟨"DropRows$Game", "isThreat", "(II)Z"⟩, 5) := ⟨⟨by decide +kernel, by decide +kernel⟩, List.mem_of_getElem? (i := 136) (by decide +kernel), List.mem_of_getElem? (i := 429) (by decide +kernel), List.mem_of_getElem? (i := 430) (by decide +kernel)⟩
theorem lw_p13 : lw_okq (⟨"DropRows$Game", "waitingSort", "(I)I"⟩, 5) := ⟨⟨by decide +kernel, by decide +kernel⟩, List.mem_of_getElem? (i := 136) (by decide +kernel), List.mem_of_getElem? (i := 452) (by decide +kernel), List.mem_of_getElem? (i := 453) (by decide +kernel)⟩
theorem lw_p14 : lw_okq (⟨"DropRows", "refuse", "(I)I"⟩, 7) := ⟨⟨by decide +kernel, by decide +kernel⟩, List.mem_of_getElem? (i := 12) (by decide +kernel), List.mem_of_getElem? (i := 466) (by decide +kernel), List.mem_of_getElem? (i := 467) (by decide +kernel)⟩
theorem lw_p15 : lw_okq (⟨"DropRowsModel", "begin", "(IIIZ)V"⟩, 23) := ⟨⟨by decide +kernel, by decide +kernel⟩, List.mem_of_getElem? (i := 528) (by decide +kernel), List.mem_of_getElem? (i := 535) (by decide +kernel), List.mem_of_getElem? (i := 536) (by decide +kernel)⟩
def lw_privs_1 : List (MethodName × Nat) := [(⟨"DropRows$Grid", "rowFrom", "(IIII)I"⟩, 9), (⟨"DropRows$Grid", "beside", "(II)I"⟩, 9), (⟨"DropRows$Grid", "addRow", "(I)V"⟩, 9), (⟨"DropRows$Grid", "isRow", "(I)Z"⟩, 9), (⟨"DropRows$Game", "squareIn", "(I)I"⟩, 5), (⟨"DropRows$Solver", "startEmpty", "()V"⟩, 12), (⟨"DropRows$Solver", "prepare", "()V"⟩, 12), (⟨"DropRows$Solver", "search", "(IIIII)I"⟩, 12), (⟨"DropRows$Solver", "keptAt", "(I)I"⟩, 12), (⟨"DropRows$Solver", "tryColumn", "(IIIIII)I"⟩, 12), (⟨"DropRows$Solver", "keep", "(IIII)V"⟩, 12), (⟨"DropRows", "bestColumn", "()I"⟩, 7), (⟨"DropRows$Game", "isThreat", "(II)Z"⟩, 5), (⟨"DropRows$Game", "waitingSort", "(I)I"⟩, 5), (⟨"DropRows", "refuse", "(I)I"⟩, 7), (⟨"DropRowsModel", "begin", "(IIIZ)V"⟩, 23)]
theorem lw_r1 : ∀ q ∈ lw_privs_1, lw_okq q := List.forall_mem_cons.mpr ⟨lw_p0, List.forall_mem_cons.mpr ⟨lw_p1, List.forall_mem_cons.mpr ⟨lw_p2, List.forall_mem_cons.mpr ⟨lw_p3, List.forall_mem_cons.mpr ⟨lw_p4, List.forall_mem_cons.mpr ⟨lw_p5, List.forall_mem_cons.mpr ⟨lw_p6, List.forall_mem_cons.mpr ⟨lw_p7, List.forall_mem_cons.mpr ⟨lw_p8, List.forall_mem_cons.mpr ⟨lw_p9, List.forall_mem_cons.mpr ⟨lw_p10, List.forall_mem_cons.mpr ⟨lw_p11, List.forall_mem_cons.mpr ⟨lw_p12, List.forall_mem_cons.mpr ⟨lw_p13, List.forall_mem_cons.mpr ⟨lw_p14, List.forall_mem_cons.mpr ⟨lw_p15, fun _ h => absurd h List.not_mem_nil⟩⟩⟩⟩⟩⟩⟩⟩⟩⟩⟩⟩⟩⟩⟩⟩
theorem lw_p16 : lw_okq (⟨"DropRowsModel", "findRows", "()V"⟩, 23) := ⟨⟨by decide +kernel, by decide +kernel⟩, List.mem_of_getElem? (i := 528) (by decide +kernel), List.mem_of_getElem? (i := 539) (by decide +kernel), List.mem_of_getElem? (i := 540) (by decide +kernel)⟩
theorem lw_p17 : lw_okq (⟨"DropRowsModel", "squaresOf", "(IIII)I"⟩, 23) := ⟨⟨by decide +kernel, by decide +kernel⟩, List.mem_of_getElem? (i := 528) (by decide +kernel), List.mem_of_getElem? (i := 543) (by decide +kernel), List.mem_of_getElem? (i := 544) (by decide +kernel)⟩
theorem lw_p18 : lw_okq (⟨"DropRowsModel", "addRow", "(I)V"⟩, 23) := ⟨⟨by decide +kernel, by decide +kernel⟩, List.mem_of_getElem? (i := 528) (by decide +kernel), List.mem_of_getElem? (i := 550) (by decide +kernel), List.mem_of_getElem? (i := 551) (by decide +kernel)⟩
theorem lw_p19 : lw_okq (⟨"DropRowsModel", "goUp", "()V"⟩, 23) := ⟨⟨by decide +kernel, by decide +kernel⟩, List.mem_of_getElem? (i := 528) (by decide +kernel), List.mem_of_getElem? (i := 554) (by decide +kernel), List.mem_of_getElem? (i := 555) (by decide +kernel)⟩
theorem lw_p20 : lw_okq (⟨"DropRowsModel", "keys", "()I"⟩, 23) := ⟨⟨by decide +kernel, by decide +kernel⟩, List.mem_of_getElem? (i := 528) (by decide +kernel), List.mem_of_getElem? (i := 558) (by decide +kernel), List.mem_of_getElem? (i := 559) (by decide +kernel)⟩
theorem lw_p21 : lw_okq (⟨"DropRowsModel", "keyOfNone", "()I"⟩, 23) := ⟨⟨by decide +kernel, by decide +kernel⟩, List.mem_of_getElem? (i := 528) (by decide +kernel), List.mem_of_getElem? (i := 562) (by decide +kernel), List.mem_of_getElem? (i := 563) (by decide +kernel)⟩
theorem lw_p22 : lw_okq (⟨"DropRowsModel", "decode", "(I)V"⟩, 23) := ⟨⟨by decide +kernel, by decide +kernel⟩, List.mem_of_getElem? (i := 528) (by decide +kernel), List.mem_of_getElem? (i := 566) (by decide +kernel), List.mem_of_getElem? (i := 567) (by decide +kernel)⟩
theorem lw_p23 : lw_okq (⟨"DropRowsModel", "heightOf", "(II)I"⟩, 23) := ⟨⟨by decide +kernel, by decide +kernel⟩, List.mem_of_getElem? (i := 528) (by decide +kernel), List.mem_of_getElem? (i := 570) (by decide +kernel), List.mem_of_getElem? (i := 571) (by decide +kernel)⟩
theorem lw_p24 : lw_okq (⟨"DropRowsModel", "columnOf", "(II)I"⟩, 23) := ⟨⟨by decide +kernel, by decide +kernel⟩, List.mem_of_getElem? (i := 528) (by decide +kernel), List.mem_of_getElem? (i := 574) (by decide +kernel), List.mem_of_getElem? (i := 575) (by decide +kernel)⟩
theorem lw_p25 : lw_okq (⟨"DropRowsModel", "has", "(I)Z"⟩, 23) := ⟨⟨by decide +kernel, by decide +kernel⟩, List.mem_of_getElem? (i := 528) (by decide +kernel), List.mem_of_getElem? (i := 578) (by decide +kernel), List.mem_of_getElem? (i := 579) (by decide +kernel)⟩
theorem lw_p26 : lw_okq (⟨"DropRowsModel", "dropped", "(III)I"⟩, 23) := ⟨⟨by decide +kernel, by decide +kernel⟩, List.mem_of_getElem? (i := 528) (by decide +kernel), List.mem_of_getElem? (i := 582) (by decide +kernel), List.mem_of_getElem? (i := 583) (by decide +kernel)⟩
theorem lw_p27 : lw_okq (⟨"DropRowsModel", "goDown", "()V"⟩, 23) := ⟨⟨by decide +kernel, by decide +kernel⟩, List.mem_of_getElem? (i := 528) (by decide +kernel), List.mem_of_getElem? (i := 586) (by decide +kernel), List.mem_of_getElem? (i := 587) (by decide +kernel)⟩
theorem lw_p28 : lw_okq (⟨"DropRowsModel", "greatest", "(II)I"⟩, 23) := ⟨⟨by decide +kernel, by decide +kernel⟩, List.mem_of_getElem? (i := 528) (by decide +kernel), List.mem_of_getElem? (i := 590) (by decide +kernel), List.mem_of_getElem? (i := 591) (by decide +kernel)⟩
theorem lw_p29 : lw_okq (⟨"DropRowsModel", "worthBy", "(III)I"⟩, 23) := ⟨⟨by decide +kernel, by decide +kernel⟩, List.mem_of_getElem? (i := 528) (by decide +kernel), List.mem_of_getElem? (i := 594) (by decide +kernel), List.mem_of_getElem? (i := 595) (by decide +kernel)⟩
theorem lw_p30 : lw_okq (⟨"DropRowsModel", "place", "()V"⟩, 23) := ⟨⟨by decide +kernel, by decide +kernel⟩, List.mem_of_getElem? (i := 528) (by decide +kernel), List.mem_of_getElem? (i := 598) (by decide +kernel), List.mem_of_getElem? (i := 599) (by decide +kernel)⟩
theorem lw_p31 : lw_okq (⟨"DropRowsModel", "isFree", "(I)Z"⟩, 23) := ⟨⟨by decide +kernel, by decide +kernel⟩, List.mem_of_getElem? (i := 528) (by decide +kernel), List.mem_of_getElem? (i := 685) (by decide +kernel), List.mem_of_getElem? (i := 686) (by decide +kernel)⟩
def lw_privs_2 : List (MethodName × Nat) := [(⟨"DropRowsModel", "findRows", "()V"⟩, 23), (⟨"DropRowsModel", "squaresOf", "(IIII)I"⟩, 23), (⟨"DropRowsModel", "addRow", "(I)V"⟩, 23), (⟨"DropRowsModel", "goUp", "()V"⟩, 23), (⟨"DropRowsModel", "keys", "()I"⟩, 23), (⟨"DropRowsModel", "keyOfNone", "()I"⟩, 23), (⟨"DropRowsModel", "decode", "(I)V"⟩, 23), (⟨"DropRowsModel", "heightOf", "(II)I"⟩, 23), (⟨"DropRowsModel", "columnOf", "(II)I"⟩, 23), (⟨"DropRowsModel", "has", "(I)Z"⟩, 23), (⟨"DropRowsModel", "dropped", "(III)I"⟩, 23), (⟨"DropRowsModel", "goDown", "()V"⟩, 23), (⟨"DropRowsModel", "greatest", "(II)I"⟩, 23), (⟨"DropRowsModel", "worthBy", "(III)I"⟩, 23), (⟨"DropRowsModel", "place", "()V"⟩, 23), (⟨"DropRowsModel", "isFree", "(I)Z"⟩, 23)]
theorem lw_r2 : ∀ q ∈ lw_privs_2, lw_okq q := List.forall_mem_cons.mpr ⟨lw_p16, List.forall_mem_cons.mpr ⟨lw_p17, List.forall_mem_cons.mpr ⟨lw_p18, List.forall_mem_cons.mpr ⟨lw_p19, List.forall_mem_cons.mpr ⟨lw_p20, List.forall_mem_cons.mpr ⟨lw_p21, List.forall_mem_cons.mpr ⟨lw_p22, List.forall_mem_cons.mpr ⟨lw_p23, List.forall_mem_cons.mpr ⟨lw_p24, List.forall_mem_cons.mpr ⟨lw_p25, List.forall_mem_cons.mpr ⟨lw_p26, List.forall_mem_cons.mpr ⟨lw_p27, List.forall_mem_cons.mpr ⟨lw_p28, List.forall_mem_cons.mpr ⟨lw_p29, List.forall_mem_cons.mpr ⟨lw_p30, List.forall_mem_cons.mpr ⟨lw_p31, fun _ h => absurd h List.not_mem_nil⟩⟩⟩⟩⟩⟩⟩⟩⟩⟩⟩⟩⟩⟩⟩⟩
theorem lw_p32 : lw_okq (⟨"DropRowsModel", "isOver", "()Z"⟩, 23) := ⟨⟨by decide +kernel, by decide +kernel⟩, List.mem_of_getElem? (i := 528) (by decide +kernel), List.mem_of_getElem? (i := 689) (by decide +kernel), List.mem_of_getElem? (i := 690) (by decide +kernel)⟩
theorem lw_p33 : lw_okq (⟨"DropRowsModel", "go", "(I)V"⟩, 23) := ⟨⟨by decide +kernel, by decide +kernel⟩, List.mem_of_getElem? (i := 528) (by decide +kernel), List.mem_of_getElem? (i := 693) (by decide +kernel), List.mem_of_getElem? (i := 694) (by decide +kernel)⟩
theorem lw_p34 : lw_okq (⟨"DropRowsModel", "bestMove", "()I"⟩, 23) := ⟨⟨by decide +kernel, by decide +kernel⟩, List.mem_of_getElem? (i := 528) (by decide +kernel), List.mem_of_getElem? (i := 735) (by decide +kernel), List.mem_of_getElem? (i := 736) (by decide +kernel)⟩
theorem lw_p35 : lw_okq (⟨"DropRowsModel", "threatsOf", "(I)I"⟩, 23) := ⟨⟨by decide +kernel, by decide +kernel⟩, List.mem_of_getElem? (i := 528) (by decide +kernel), List.mem_of_getElem? (i := 768) (by decide +kernel), List.mem_of_getElem? (i := 769) (by decide +kernel)⟩
theorem lw_p36 : lw_okq (⟨"DropRowsModel", "sortOf", "(IIII)I"⟩, 23) := ⟨⟨by decide +kernel, by decide +kernel⟩, List.mem_of_getElem? (i := 528) (by decide +kernel), List.mem_of_getElem? (i := 780) (by decide +kernel), List.mem_of_getElem? (i := 781) (by decide +kernel)⟩
theorem lw_p37 : lw_okq (⟨"DropRowsModel", "met", "(I)I"⟩, 23) := ⟨⟨by decide +kernel, by decide +kernel⟩, List.mem_of_getElem? (i := 528) (by decide +kernel), List.mem_of_getElem? (i := 792) (by decide +kernel), List.mem_of_getElem? (i := 793) (by decide +kernel)⟩
theorem lw_p38 : lw_okq (⟨"DropRowsModel", "lacks", "(III)I"⟩, 23) := ⟨⟨by decide +kernel, by decide +kernel⟩, List.mem_of_getElem? (i := 528) (by decide +kernel), List.mem_of_getElem? (i := 804) (by decide +kernel), List.mem_of_getElem? (i := 805) (by decide +kernel)⟩
def lw_privs_3 : List (MethodName × Nat) := [(⟨"DropRowsModel", "isOver", "()Z"⟩, 23), (⟨"DropRowsModel", "go", "(I)V"⟩, 23), (⟨"DropRowsModel", "bestMove", "()I"⟩, 23), (⟨"DropRowsModel", "threatsOf", "(I)I"⟩, 23), (⟨"DropRowsModel", "sortOf", "(IIII)I"⟩, 23), (⟨"DropRowsModel", "met", "(I)I"⟩, 23), (⟨"DropRowsModel", "lacks", "(III)I"⟩, 23)]
theorem lw_r3 : ∀ q ∈ lw_privs_3, lw_okq q := List.forall_mem_cons.mpr ⟨lw_p32, List.forall_mem_cons.mpr ⟨lw_p33, List.forall_mem_cons.mpr ⟨lw_p34, List.forall_mem_cons.mpr ⟨lw_p35, List.forall_mem_cons.mpr ⟨lw_p36, List.forall_mem_cons.mpr ⟨lw_p37, List.forall_mem_cons.mpr ⟨lw_p38, fun _ h => absurd h List.not_mem_nil⟩⟩⟩⟩⟩⟩⟩
def lw_privs : List (MethodName × Nat) := lw_privs_1 ++ (lw_privs_2 ++ (lw_privs_3))
def lw_tbl : List Cond := k2_sels lw_privs ++ tables_1
theorem lw_privs_ok : ∀ q ∈ lw_privs, lw_okq q := by
  show ∀ q ∈ lw_privs_1 ++ (lw_privs_2 ++ (lw_privs_3)), lw_okq q
  exact List.forall_mem_append.mpr ⟨lw_r1, List.forall_mem_append.mpr ⟨lw_r2, lw_r3⟩⟩
end
section
def RX0 : String := "DropRows$Game"
def TX0 : u_T := fun k => match k with
  | 0 => ("DropRows$Game", "grid", "LDropRows$Grid;", true)
  | 1 => ("DropRows$Game", "columns", "[I", true)
  | 2 => ("DropRows$Game", "men", "[I", true)
  | 3 => ("DropRows$Game", "heights", "[I", true)
  | _ => ("DropRows$Game", "moves", "I", false)
def tyX0 : Nat → FieldType := fun k => match k with
  | 0 => .object "DropRows$Grid"
  | 1 => .array .int
  | 2 => .array .int
  | 3 => .array .int
  | _ => .int
abbrev wsX00 : List Cond := u_ws RX0 TX0 5
theorem nmX0 : ∀ a, a < 5 → ∀ b, b < 5 → a ≠ b → (TX0 a).2.1 ≠ (TX0 b).2.1 := by decide +kernel
theorem tyX0_ok : ∀ k, k < 5 → parseFieldDescriptor (TX0 k).2.2.1 = some (tyX0 k) := by decide +kernel
abbrev cX0_init : ByteArray := prog_2_method_1_code
def yX0_init : MethodName := ⟨RX0, "<init>", "(LDropRows$Grid;)V"⟩
abbrev cX0_clear : ByteArray := prog_2_method_2_code
def yX0_clear : MethodName := ⟨RX0, "clear", "()V"⟩
abbrev cX0_follow : ByteArray := prog_2_method_3_code
def yX0_follow : MethodName := ⟨RX0, "follow", "(LDropRows$Game;)V"⟩
abbrev cX0_isOpen : ByteArray := prog_2_method_4_code
def yX0_isOpen : MethodName := ⟨RX0, "isOpen", "(I)Z"⟩
abbrev cX0_make : ByteArray := prog_2_method_5_code
def yX0_make : MethodName := ⟨RX0, "make", "(I)I"⟩
abbrev cX0_unmake : ByteArray := prog_2_method_6_code
def yX0_unmake : MethodName := ⟨RX0, "unmake", "()V"⟩
abbrev cX0_squareIn : ByteArray := prog_2_method_7_code
def yX0_squareIn : MethodName := ⟨RX0, "squareIn", "(I)I"⟩
abbrev cX0_side : ByteArray := prog_2_method_8_code
def yX0_side : MethodName := ⟨RX0, "side", "()I"⟩
abbrev cX0_state : ByteArray := prog_2_method_9_code
def yX0_state : MethodName := ⟨RX0, "state", "()I"⟩
abbrev cX0_isOver : ByteArray := prog_2_method_10_code
def yX0_isOver : MethodName := ⟨RX0, "isOver", "()Z"⟩
abbrev cX0_manOn : ByteArray := prog_2_method_11_code
def yX0_manOn : MethodName := ⟨RX0, "manOn", "(I)I"⟩
abbrev cX0_openColumns : ByteArray := prog_2_method_12_code
def yX0_openColumns : MethodName := ⟨RX0, "openColumns", "()I"⟩
abbrev cX0_threatsOf : ByteArray := prog_2_method_13_code
def yX0_threatsOf : MethodName := ⟨RX0, "threatsOf", "(I)I"⟩
abbrev cX0_isThreat : ByteArray := prog_2_method_14_code
def yX0_isThreat : MethodName := ⟨RX0, "isThreat", "(II)Z"⟩
abbrev cX0_waitingColumn : ByteArray := prog_2_method_15_code
def yX0_waitingColumn : MethodName := ⟨RX0, "waitingColumn", "()I"⟩
abbrev cX0_waitingSort : ByteArray := prog_2_method_16_code
def yX0_waitingSort : MethodName := ⟨RX0, "waitingSort", "(I)I"⟩
def RX1 : String := "DropRows$Grid"
def TX1 : u_T := fun k => match k with
  | 0 => ("DropRows$Grid", "width", "I", false)
  | 1 => ("DropRows$Grid", "height", "I", false)
  | 2 => ("DropRows$Grid", "length", "I", false)
  | 3 => ("DropRows$Grid", "squares", "I", false)
  | 4 => ("DropRows$Grid", "rowCount", "I", false)
  | 5 => ("DropRows$Grid", "joined", "Z", false)
  | 6 => ("DropRows$Grid", "rows", "[I", true)
  | 7 => ("DropRows$Grid", "through", "[I", true)
  | _ => ("DropRows$Grid", "throughCount", "[I", true)
def tyX1 : Nat → FieldType := fun k => match k with
  | 0 => .int
  | 1 => .int
  | 2 => .int
  | 3 => .int
  | 4 => .int
  | 5 => .boolean
  | 6 => .array .int
  | 7 => .array .int
  | _ => .array .int
abbrev wsX10 : List Cond := u_ws RX1 TX1 9
theorem nmX1 : ∀ a, a < 9 → ∀ b, b < 9 → a ≠ b → (TX1 a).2.1 ≠ (TX1 b).2.1 := by decide +kernel
theorem tyX1_ok : ∀ k, k < 9 → parseFieldDescriptor (TX1 k).2.2.1 = some (tyX1 k) := by decide +kernel
abbrev cX1_init : ByteArray := prog_3_method_1_code
def yX1_init : MethodName := ⟨RX1, "<init>", "()V"⟩
abbrev cX1_tell : ByteArray := prog_3_method_2_code
def yX1_tell : MethodName := ⟨RX1, "tell", "(IIIZ)V"⟩
abbrev cX1_rowFrom : ByteArray := prog_3_method_3_code
def yX1_rowFrom : MethodName := ⟨RX1, "rowFrom", "(IIII)I"⟩
abbrev cX1_beside : ByteArray := prog_3_method_4_code
def yX1_beside : MethodName := ⟨RX1, "beside", "(II)I"⟩
abbrev cX1_addRow : ByteArray := prog_3_method_5_code
def yX1_addRow : MethodName := ⟨RX1, "addRow", "(I)V"⟩
abbrev cX1_isRow : ByteArray := prog_3_method_6_code
def yX1_isRow : MethodName := ⟨RX1, "isRow", "(I)Z"⟩
abbrev cX1_hasRow : ByteArray := prog_3_method_7_code
def yX1_hasRow : MethodName := ⟨RX1, "hasRow", "(I)Z"⟩
abbrev cX1_hasRowThrough : ByteArray := prog_3_method_8_code
def yX1_hasRowThrough : MethodName := ⟨RX1, "hasRowThrough", "(II)Z"⟩
abbrev cX1_rowsWithout : ByteArray := prog_3_method_9_code
def yX1_rowsWithout : MethodName := ⟨RX1, "rowsWithout", "(I)I"⟩
abbrev cX1_firstRowOf : ByteArray := prog_3_method_10_code
def yX1_firstRowOf : MethodName := ⟨RX1, "firstRowOf", "(I)I"⟩
abbrev cX1_comesAhead : ByteArray := prog_3_method_11_code
def yX1_comesAhead : MethodName := ⟨RX1, "comesAhead", "(II)Z"⟩
abbrev cX1_imageOf : ByteArray := prog_3_method_12_code
def yX1_imageOf : MethodName := ⟨RX1, "imageOf", "(I)I"⟩
def RX2 : String := "DropRows$Sheet"
def TX2 : u_T := fun k => match k with
  | 0 => ("DropRows$Sheet", "lost", "Z", false)
  | 1 => ("DropRows$Sheet", "form", "I", false)
  | 2 => ("DropRows$Sheet", "size", "I", false)
  | _ => ("DropRows$Sheet", "items", "[I", true)
def tyX2 : Nat → FieldType := fun k => match k with
  | 0 => .boolean
  | 1 => .int
  | 2 => .int
  | _ => .array .int
abbrev wsX20 : List Cond := u_ws RX2 TX2 4
theorem nmX2 : ∀ a, a < 4 → ∀ b, b < 4 → a ≠ b → (TX2 a).2.1 ≠ (TX2 b).2.1 := by decide +kernel
theorem tyX2_ok : ∀ k, k < 4 → parseFieldDescriptor (TX2 k).2.2.1 = some (tyX2 k) := by decide +kernel
abbrev cX2_init : ByteArray := prog_4_method_1_code
def yX2_init : MethodName := ⟨RX2, "<init>", "()V"⟩
abbrev cX2_renew : ByteArray := prog_4_method_2_code
def yX2_renew : MethodName := ⟨RX2, "renew", "(II)V"⟩
abbrev cX2_findingAt : ByteArray := prog_4_method_3_code
def yX2_findingAt : MethodName := ⟨RX2, "findingAt", "(II)I"⟩
abbrev cX2_hasPart : ByteArray := prog_4_method_4_code
def yX2_hasPart : MethodName := ⟨RX2, "hasPart", "(II)Z"⟩
abbrev cX2_store : ByteArray := prog_4_method_5_code
def yX2_store : MethodName := ⟨RX2, "store", "(II)V"⟩
def RX3 : String := "DropRows$Solver"
def TX3 : u_T := fun k => match k with
  | 0 => ("DropRows$Solver", "grid", "LDropRows$Grid;", true)
  | 1 => ("DropRows$Solver", "powers", "[I", true)
  | 2 => ("DropRows$Solver", "codes", "[I", true)
  | 3 => ("DropRows$Solver", "heights", "[I", true)
  | 4 => ("DropRows$Solver", "tallies", "[[I", true)
  | 5 => ("DropRows$Solver", "kept", "[J", false)
  | 6 => ("DropRows$Solver", "isPrepared", "Z", false)
  | 7 => ("DropRows$Solver", "startMine", "I", false)
  | 8 => ("DropRows$Solver", "startOthers", "I", false)
  | 9 => ("DropRows$Solver", "startKey", "I", false)
  | 10 => ("DropRows$Solver", "startImage", "I", false)
  | _ => ("DropRows$Solver", "startMen", "I", false)
def tyX3 : Nat → FieldType := fun k => match k with
  | 0 => .object "DropRows$Grid"
  | 1 => .array .int
  | 2 => .array .int
  | 3 => .array .int
  | 4 => .array (.array .int)
  | 5 => .array .long
  | 6 => .boolean
  | 7 => .int
  | 8 => .int
  | 9 => .int
  | 10 => .int
  | _ => .int
abbrev wsX30 : List Cond := u_ws RX3 TX3 12
theorem nmX3 : ∀ a, a < 12 → ∀ b, b < 12 → a ≠ b → (TX3 a).2.1 ≠ (TX3 b).2.1 := by decide +kernel
theorem tyX3_ok : ∀ k, k < 12 → parseFieldDescriptor (TX3 k).2.2.1 = some (tyX3 k) := by decide +kernel
abbrev cX3_init : ByteArray := prog_5_method_1_code
def yX3_init : MethodName := ⟨RX3, "<init>", "(LDropRows$Grid;)V"⟩
abbrev cX3_forget : ByteArray := prog_5_method_2_code
def yX3_forget : MethodName := ⟨RX3, "forget", "()V"⟩
abbrev cX3_prepare : ByteArray := prog_5_method_3_code
def yX3_prepare : MethodName := ⟨RX3, "prepare", "()V"⟩
abbrev cX3_startEmpty : ByteArray := prog_5_method_4_code
def yX3_startEmpty : MethodName := ⟨RX3, "startEmpty", "()V"⟩
abbrev cX3_start : ByteArray := prog_5_method_5_code
def yX3_start : MethodName := ⟨RX3, "start", "(LDropRows$Game;)V"⟩
abbrev cX3_worthOfStart : ByteArray := prog_5_method_6_code
def yX3_worthOfStart : MethodName := ⟨RX3, "worthOfStart", "()I"⟩
abbrev cX3_worthOfMove : ByteArray := prog_5_method_7_code
def yX3_worthOfMove : MethodName := ⟨RX3, "worthOfMove", "(I)I"⟩
abbrev cX3_tally : ByteArray := prog_5_method_8_code
def yX3_tally : MethodName := ⟨RX3, "tally", "(II)I"⟩
abbrev cX3_search : ByteArray := prog_5_method_9_code
def yX3_search : MethodName := ⟨RX3, "search", "(IIIII)I"⟩
abbrev cX3_tryColumn : ByteArray := prog_5_method_10_code
def yX3_tryColumn : MethodName := ⟨RX3, "tryColumn", "(IIIIII)I"⟩
abbrev cX3_seenFromAhead : ByteArray := prog_5_method_11_code
def yX3_seenFromAhead : MethodName := ⟨RX3, "seenFromAhead", "(I)I"⟩
abbrev cX3_keptAt : ByteArray := prog_5_method_12_code
def yX3_keptAt : MethodName := ⟨RX3, "keptAt", "(I)I"⟩
abbrev cX3_keep : ByteArray := prog_5_method_13_code
def yX3_keep : MethodName := ⟨RX3, "keep", "(IIII)V"⟩
abbrev cX3_shareOf : ByteArray := prog_5_method_14_code
def yX3_shareOf : MethodName := ⟨RX3, "shareOf", "(I)I"⟩
def RX4 : String := "DropRows"
def TX4 : u_T := fun k => match k with
  | 0 => ("DropRows", "grid", "LDropRows$Grid;", true)
  | 1 => ("DropRows", "solver", "LDropRows$Solver;", true)
  | 2 => ("DropRows", "sheets", "[LDropRows$Sheet;", true)
  | 3 => ("DropRows", "current", "LDropRows$Game;", false)
  | 4 => ("DropRows", "spare", "LDropRows$Game;", false)
  | 5 => ("DropRows", "boardsTold", "I", false)
  | _ => ("DropRows", "latestFinding", "I", false)
def tyX4 : Nat → FieldType := fun k => match k with
  | 0 => .object "DropRows$Grid"
  | 1 => .object "DropRows$Solver"
  | 2 => .array (.object "DropRows$Sheet")
  | 3 => .object "DropRows$Game"
  | 4 => .object "DropRows$Game"
  | 5 => .int
  | _ => .int
abbrev wsX40 : List Cond := u_ws RX4 TX4 7
theorem nmX4 : ∀ a, a < 7 → ∀ b, b < 7 → a ≠ b → (TX4 a).2.1 ≠ (TX4 b).2.1 := by decide +kernel
theorem tyX4_ok : ∀ k, k < 7 → parseFieldDescriptor (TX4 k).2.2.1 = some (tyX4 k) := by decide +kernel
abbrev cX4_init : ByteArray := prog_1_method_1_code
def yX4_init : MethodName := ⟨RX4, "<init>", "()V"⟩
abbrev cX4_board : ByteArray := prog_1_method_2_code
def yX4_board : MethodName := ⟨RX4, "board", "(IIIZ)I"⟩
abbrev cX4_drop : ByteArray := prog_1_method_3_code
def yX4_drop : MethodName := ⟨RX4, "drop", "(I)I"⟩
abbrev cX4_back : ByteArray := prog_1_method_4_code
def yX4_back : MethodName := ⟨RX4, "back", "(I)I"⟩
abbrev cX4_move : ByteArray := prog_1_method_5_code
def yX4_move : MethodName := ⟨RX4, "move", "(I)I"⟩
abbrev cX4_at : ByteArray := prog_1_method_6_code
def yX4_at : MethodName := ⟨RX4, "at", "(I)I"⟩
abbrev cX4_game : ByteArray := prog_1_method_7_code
def yX4_game : MethodName := ⟨RX4, "game", "(I)I"⟩
abbrev cX4_won : ByteArray := prog_1_method_8_code
def yX4_won : MethodName := ⟨RX4, "won", "(I)I"⟩
abbrev cX4_worth : ByteArray := prog_1_method_9_code
def yX4_worth : MethodName := ⟨RX4, "worth", "()I"⟩
abbrev cX4_worthOf : ByteArray := prog_1_method_10_code
def yX4_worthOf : MethodName := ⟨RX4, "worthOf", "(I)I"⟩
abbrev cX4_best : ByteArray := prog_1_method_11_code
def yX4_best : MethodName := ⟨RX4, "best", "()I"⟩
abbrev cX4_as : ByteArray := prog_1_method_12_code
def yX4_as : MethodName := ⟨RX4, "as", "()I"⟩
abbrev cX4_play : ByteArray := prog_1_method_13_code
def yX4_play : MethodName := ⟨RX4, "play", "()I"⟩
abbrev cX4_positions : ByteArray := prog_1_method_14_code
def yX4_positions : MethodName := ⟨RX4, "positions", "(I)I"⟩
abbrev cX4_wins : ByteArray := prog_1_method_15_code
def yX4_wins : MethodName := ⟨RX4, "wins", "(I)I"⟩
abbrev cX4_share : ByteArray := prog_1_method_16_code
def yX4_share : MethodName := ⟨RX4, "share", "(II)I"⟩
abbrev cX4_even : ByteArray := prog_1_method_17_code
def yX4_even : MethodName := ⟨RX4, "even", "()I"⟩
abbrev cX4_threats : ByteArray := prog_1_method_18_code
def yX4_threats : MethodName := ⟨RX4, "threats", "(I)I"⟩
abbrev cX4_threat : ByteArray := prog_1_method_19_code
def yX4_threat : MethodName := ⟨RX4, "threat", "(II)I"⟩
abbrev cX4_waiting : ByteArray := prog_1_method_20_code
def yX4_waiting : MethodName := ⟨RX4, "waiting", "()I"⟩
abbrev cX4_sheet : ByteArray := prog_1_method_21_code
def yX4_sheet : MethodName := ⟨RX4, "sheet", "(III)I"⟩
abbrev cX4_lose : ByteArray := prog_1_method_22_code
def yX4_lose : MethodName := ⟨RX4, "lose", "(I)I"⟩
abbrev cX4_put : ByteArray := prog_1_method_23_code
def yX4_put : MethodName := ⟨RX4, "put", "(IIII)I"⟩
abbrev cX4_get : ByteArray := prog_1_method_24_code
def yX4_get : MethodName := ⟨RX4, "get", "(III)I"⟩
abbrev cX4_copy : ByteArray := prog_1_method_25_code
def yX4_copy : MethodName := ⟨RX4, "copy", "(IIIII)I"⟩
abbrev cX4_take : ByteArray := prog_1_method_26_code
def yX4_take : MethodName := ⟨RX4, "take", "(II)I"⟩
abbrev cX4_write : ByteArray := prog_1_method_27_code
def yX4_write : MethodName := ⟨RX4, "write", "(I)I"⟩
abbrev cX4_count : ByteArray := prog_1_method_28_code
def yX4_count : MethodName := ⟨RX4, "count", "(I)I"⟩
abbrev cX4_digest : ByteArray := prog_1_method_29_code
def yX4_digest : MethodName := ⟨RX4, "digest", "()J"⟩
abbrev cX4_isWithin : ByteArray := prog_1_method_30_code
def yX4_isWithin : MethodName := ⟨RX4, "isWithin", "(III)Z"⟩
abbrev cX4_isSheet : ByteArray := prog_1_method_31_code
def yX4_isSheet : MethodName := ⟨RX4, "isSheet", "(I)Z"⟩
abbrev cX4_isForm : ByteArray := prog_1_method_32_code
def yX4_isForm : MethodName := ⟨RX4, "isForm", "(I)Z"⟩
abbrev cX4_refuse : ByteArray := prog_1_method_33_code
def yX4_refuse : MethodName := ⟨RX4, "refuse", "(I)I"⟩
abbrev cX4_bestColumn : ByteArray := prog_1_method_34_code
def yX4_bestColumn : MethodName := ⟨RX4, "bestColumn", "()I"⟩
abbrev cX4_nthSquare : ByteArray := prog_1_method_35_code
def yX4_nthSquare : MethodName := ⟨RX4, "nthSquare", "(II)I"⟩
def RX5 : String := "DropRowsModel"
def TX5 : u_T := fun k => match k with
  | 0 => ("DropRowsModel", "w", "I", false)
  | 1 => ("DropRowsModel", "h", "I", false)
  | 2 => ("DropRowsModel", "k", "I", false)
  | 3 => ("DropRowsModel", "isJoined", "Z", false)
  | 4 => ("DropRowsModel", "boards", "I", false)
  | 5 => ("DropRowsModel", "rows", "I", false)
  | 6 => ("DropRowsModel", "row", "[I", true)
  | 7 => ("DropRowsModel", "table", "[B", true)
  | 8 => ("DropRowsModel", "come", "[I", true)
  | 9 => ("DropRowsModel", "won", "[I", true)
  | 10 => ("DropRowsModel", "above", "[I", true)
  | 11 => ("DropRowsModel", "even", "[I", true)
  | 12 => ("DropRowsModel", "under", "[I", true)
  | 13 => ("DropRowsModel", "men", "[I", true)
  | 14 => ("DropRowsModel", "count", "I", false)
  | 15 => ("DropRowsModel", "moves", "I", false)
  | 16 => ("DropRowsModel", "move", "[I", true)
  | 17 => ("DropRowsModel", "now", "I", false)
  | 18 => ("DropRowsModel", "forms", "[I", true)
  | 19 => ("DropRowsModel", "sizes", "[I", true)
  | 20 => ("DropRowsModel", "items", "[I", true)
  | 21 => ("DropRowsModel", "moved", "[I", true)
  | _ => ("DropRowsModel", "latest", "I", false)
def tyX5 : Nat → FieldType := fun k => match k with
  | 0 => .int
  | 1 => .int
  | 2 => .int
  | 3 => .boolean
  | 4 => .int
  | 5 => .int
  | 6 => .array .int
  | 7 => .array .byte
  | 8 => .array .int
  | 9 => .array .int
  | 10 => .array .int
  | 11 => .array .int
  | 12 => .array .int
  | 13 => .array .int
  | 14 => .int
  | 15 => .int
  | 16 => .array .int
  | 17 => .int
  | 18 => .array .int
  | 19 => .array .int
  | 20 => .array .int
  | 21 => .array .int
  | _ => .int
abbrev wsX50 : List Cond := u_ws RX5 TX5 23
theorem nmX5 : ∀ a, a < 23 → ∀ b, b < 23 → a ≠ b → (TX5 a).2.1 ≠ (TX5 b).2.1 := by decide +kernel
theorem tyX5_ok : ∀ k, k < 23 → parseFieldDescriptor (TX5 k).2.2.1 = some (tyX5 k) := by decide +kernel
abbrev cX5_init : ByteArray := prog_7_method_1_code
def yX5_init : MethodName := ⟨RX5, "<init>", "()V"⟩
abbrev cX5_in : ByteArray := prog_7_method_3_code
def yX5_in : MethodName := ⟨RX5, "in", "(JJJ)Z"⟩
abbrev cX5_board : ByteArray := prog_7_method_4_code
def yX5_board : MethodName := ⟨RX5, "board", "(IIIZ)I"⟩
abbrev cX5_begin : ByteArray := prog_7_method_5_code
def yX5_begin : MethodName := ⟨RX5, "begin", "(IIIZ)V"⟩
abbrev cX5_squaresOf : ByteArray := prog_7_method_6_code
def yX5_squaresOf : MethodName := ⟨RX5, "squaresOf", "(IIII)I"⟩
abbrev cX5_addRow : ByteArray := prog_7_method_7_code
def yX5_addRow : MethodName := ⟨RX5, "addRow", "(I)V"⟩
abbrev cX5_findRows : ByteArray := prog_7_method_8_code
def yX5_findRows : MethodName := ⟨RX5, "findRows", "()V"⟩
abbrev cX5_keyOfNone : ByteArray := prog_7_method_9_code
def yX5_keyOfNone : MethodName := ⟨RX5, "keyOfNone", "()I"⟩
abbrev cX5_columnOf : ByteArray := prog_7_method_10_code
def yX5_columnOf : MethodName := ⟨RX5, "columnOf", "(II)I"⟩
abbrev cX5_heightOf : ByteArray := prog_7_method_11_code
def yX5_heightOf : MethodName := ⟨RX5, "heightOf", "(II)I"⟩
abbrev cX5_dropped : ByteArray := prog_7_method_12_code
def yX5_dropped : MethodName := ⟨RX5, "dropped", "(III)I"⟩
abbrev cX5_decode : ByteArray := prog_7_method_13_code
def yX5_decode : MethodName := ⟨RX5, "decode", "(I)V"⟩
abbrev cX5_has : ByteArray := prog_7_method_14_code
def yX5_has : MethodName := ⟨RX5, "has", "(I)Z"⟩
abbrev cX5_keys : ByteArray := prog_7_method_15_code
def yX5_keys : MethodName := ⟨RX5, "keys", "()I"⟩
abbrev cX5_goUp : ByteArray := prog_7_method_16_code
def yX5_goUp : MethodName := ⟨RX5, "goUp", "()V"⟩
abbrev cX5_worthBy : ByteArray := prog_7_method_17_code
def yX5_worthBy : MethodName := ⟨RX5, "worthBy", "(III)I"⟩
abbrev cX5_greatest : ByteArray := prog_7_method_18_code
def yX5_greatest : MethodName := ⟨RX5, "greatest", "(II)I"⟩
abbrev cX5_goDown : ByteArray := prog_7_method_19_code
def yX5_goDown : MethodName := ⟨RX5, "goDown", "()V"⟩
abbrev cX5_place : ByteArray := prog_7_method_20_code
def yX5_place : MethodName := ⟨RX5, "place", "()V"⟩
abbrev cX5_isOver : ByteArray := prog_7_method_21_code
def yX5_isOver : MethodName := ⟨RX5, "isOver", "()Z"⟩
abbrev cX5_isFree : ByteArray := prog_7_method_22_code
def yX5_isFree : MethodName := ⟨RX5, "isFree", "(I)Z"⟩
abbrev cX5_drop : ByteArray := prog_7_method_23_code
def yX5_drop : MethodName := ⟨RX5, "drop", "(I)I"⟩
abbrev cX5_go : ByteArray := prog_7_method_24_code
def yX5_go : MethodName := ⟨RX5, "go", "(I)V"⟩
abbrev cX5_back : ByteArray := prog_7_method_25_code
def yX5_back : MethodName := ⟨RX5, "back", "(I)I"⟩
abbrev cX5_move : ByteArray := prog_7_method_26_code
def yX5_move : MethodName := ⟨RX5, "move", "(I)I"⟩
abbrev cX5_at : ByteArray := prog_7_method_27_code
def yX5_at : MethodName := ⟨RX5, "at", "(I)I"⟩
abbrev cX5_game : ByteArray := prog_7_method_28_code
def yX5_game : MethodName := ⟨RX5, "game", "(I)I"⟩
abbrev cX5_bitOf : ByteArray := prog_7_method_29_code
def yX5_bitOf : MethodName := ⟨RX5, "bitOf", "(II)I"⟩
abbrev cX5_isAhead : ByteArray := prog_7_method_30_code
def yX5_isAhead : MethodName := ⟨RX5, "isAhead", "(II)Z"⟩
abbrev cX5_won : ByteArray := prog_7_method_31_code
def yX5_won : MethodName := ⟨RX5, "won", "(I)I"⟩
abbrev cX5_worth : ByteArray := prog_7_method_32_code
def yX5_worth : MethodName := ⟨RX5, "worth", "()I"⟩
abbrev cX5_worthOf : ByteArray := prog_7_method_33_code
def yX5_worthOf : MethodName := ⟨RX5, "worthOf", "(I)I"⟩
abbrev cX5_bestMove : ByteArray := prog_7_method_34_code
def yX5_bestMove : MethodName := ⟨RX5, "bestMove", "()I"⟩
abbrev cX5_best : ByteArray := prog_7_method_35_code
def yX5_best : MethodName := ⟨RX5, "best", "()I"⟩
abbrev cX5_as : ByteArray := prog_7_method_36_code
def yX5_as : MethodName := ⟨RX5, "as", "()I"⟩
abbrev cX5_play : ByteArray := prog_7_method_37_code
def yX5_play : MethodName := ⟨RX5, "play", "()I"⟩
abbrev cX5_positions : ByteArray := prog_7_method_38_code
def yX5_positions : MethodName := ⟨RX5, "positions", "(I)I"⟩
abbrev cX5_wins : ByteArray := prog_7_method_39_code
def yX5_wins : MethodName := ⟨RX5, "wins", "(I)I"⟩
abbrev cX5_share : ByteArray := prog_7_method_40_code
def yX5_share : MethodName := ⟨RX5, "share", "(II)I"⟩
abbrev cX5_even : ByteArray := prog_7_method_41_code
def yX5_even : MethodName := ⟨RX5, "even", "()I"⟩
abbrev cX5_threatsOf : ByteArray := prog_7_method_42_code
def yX5_threatsOf : MethodName := ⟨RX5, "threatsOf", "(I)I"⟩
abbrev cX5_threats : ByteArray := prog_7_method_43_code
def yX5_threats : MethodName := ⟨RX5, "threats", "(I)I"⟩
abbrev cX5_threat : ByteArray := prog_7_method_44_code
def yX5_threat : MethodName := ⟨RX5, "threat", "(II)I"⟩
abbrev cX5_sortOf : ByteArray := prog_7_method_45_code
def yX5_sortOf : MethodName := ⟨RX5, "sortOf", "(IIII)I"⟩
abbrev cX5_waiting : ByteArray := prog_7_method_46_code
def yX5_waiting : MethodName := ⟨RX5, "waiting", "()I"⟩
abbrev cX5_met : ByteArray := prog_7_method_47_code
def yX5_met : MethodName := ⟨RX5, "met", "(I)I"⟩
abbrev cX5_isSheet : ByteArray := prog_7_method_48_code
def yX5_isSheet : MethodName := ⟨RX5, "isSheet", "(I)Z"⟩
abbrev cX5_sheet : ByteArray := prog_7_method_49_code
def yX5_sheet : MethodName := ⟨RX5, "sheet", "(III)I"⟩
abbrev cX5_lose : ByteArray := prog_7_method_50_code
def yX5_lose : MethodName := ⟨RX5, "lose", "(I)I"⟩
abbrev cX5_lacks : ByteArray := prog_7_method_51_code
def yX5_lacks : MethodName := ⟨RX5, "lacks", "(III)I"⟩
abbrev cX5_cut : ByteArray := prog_7_method_52_code
def yX5_cut : MethodName := ⟨RX5, "cut", "(II)I"⟩
abbrev cX5_put : ByteArray := prog_7_method_53_code
def yX5_put : MethodName := ⟨RX5, "put", "(IIII)I"⟩
abbrev cX5_get : ByteArray := prog_7_method_54_code
def yX5_get : MethodName := ⟨RX5, "get", "(III)I"⟩
abbrev cX5_copy : ByteArray := prog_7_method_55_code
def yX5_copy : MethodName := ⟨RX5, "copy", "(IIIII)I"⟩
abbrev cX5_take : ByteArray := prog_7_method_56_code
def yX5_take : MethodName := ⟨RX5, "take", "(II)I"⟩
abbrev cX5_write : ByteArray := prog_7_method_57_code
def yX5_write : MethodName := ⟨RX5, "write", "(I)I"⟩
abbrev cX5_count : ByteArray := prog_7_method_58_code
def yX5_count : MethodName := ⟨RX5, "count", "(I)I"⟩
abbrev cX5_digest : ByteArray := prog_7_method_59_code
def yX5_digest : MethodName := ⟨RX5, "digest", "()J"⟩
def RJ6 : String := "java/lang/Integer"
abbrev cJ6_bitCount_0f7a4 : ByteArray := prog_8_method_49_code
def yJ6_bitCount_0f7a4 : MethodName := ⟨RJ6, "bitCount", "(I)I"⟩
def RJ9 : String := "java/lang/Math"
abbrev cJ9_min_7cf53 : ByteArray := prog_9_method_69_code
def yJ9_min_7cf53 : MethodName := ⟨RJ9, "min", "(II)I"⟩
def RJ10 : String := "java/lang/System"
def RJ7 : String := "java/util/Arrays"
abbrev cJ7_rangeCheck_23922 : ByteArray := prog_11_method_30_code
def yJ7_rangeCheck_23922 : MethodName := ⟨RJ7, "rangeCheck", "(III)V"⟩
abbrev cJ7_fill_bad5a : ByteArray := prog_11_method_102_code
def yJ7_fill_bad5a : MethodName := ⟨RJ7, "fill", "([JIIJ)V"⟩
abbrev cJ7_fill_53178 : ByteArray := prog_11_method_103_code
def yJ7_fill_53178 : MethodName := ⟨RJ7, "fill", "([II)V"⟩
def RL : String := "DropRowsLaw"
abbrev cL_law : ByteArray := code
def yL_law : MethodName := ⟨RL, "law", "([I)Z"⟩
end
section
/-! the words of the tables that a call may carry, the classes of the worlds, and one row for a method's entry, its end, a call -/
def kc_TB : List Cond := lw_tbl.filter goodWord
abbrev classes : List vw_C := [(RX0, TX0, 5), (RX1, TX1, 9), (RX2, TX2, 4), (RX3, TX3, 12), (RX4, TX4, 7), (RX5, TX5, 23)]
def kc_TY (cx : Nat → ClassId) : List (ClassId × FieldType) := [(cx 0, .int), (cx 1, .byte), (cx 2, .long), (cx 3, .object RX2), (cx 4, .array .int)]
theorem kc_in {w : Cond} (i : Nat) (h : lw_tbl[i]? = some w) (hg : goodWord w = true) : w ∈ kc_TB := List.mem_filter.mpr ⟨List.mem_of_getElem? h, hg⟩
theorem kc_tbl {w : Cond} (h : w ∈ kc_TB) : w ∈ lw_tbl := (List.mem_filter.mp h).1
theorem kc_all {ws : List Cond} (h : ∀ w ∈ ws, w ∈ kc_TB) : GoodIn kc_TB ws := fun w hw => ⟨h w hw, good_of_word (List.mem_filter.mp (h w hw)).2⟩
theorem kc_gI {cd : Cond} (h5 : cd ∈ kc_TB) : GoodIn kc_TB (cd :: kc_TB) := kc_all (fun w hw => by
  rcases List.mem_cons.mp hw with e | e
  · rw [e]; exact h5
  · exact e)
theorem kc_gV {own C : String} {idx : Nat} {y : MethodName} {cd : Cond} (h1 : Cond.methodLink own idx y ∈ kc_TB) (h2 : Cond.instanceMethod y ∈ kc_TB) (h3 : Cond.selects C y y ∈ kc_TB) (h4 : Cond.initialized C ∈ kc_TB) (h5 : cd ∈ kc_TB) : GoodIn kc_TB (wsV own idx C y (cd :: kc_TB)) := kc_all (fun w hw => by
  rcases List.mem_append.mp hw with hw | hw
  · simp only [List.mem_cons, List.not_mem_nil, or_false] at hw
    rcases hw with e | e | e | e <;> rw [e] <;> assumption
  · rcases List.mem_cons.mp hw with e | e
    · rw [e]; exact h5
    · exact e)
theorem kc_gS {own : String} {idx : Nat} {y : MethodName} {cd : Cond} (h1 : Cond.methodLink own idx y ∈ kc_TB) (h2 : Cond.static y ∈ kc_TB) (h4 : Cond.initialized own ∈ kc_TB) (h5 : cd ∈ kc_TB) : GoodIn kc_TB (wsS own idx y (cd :: kc_TB)) := kc_all (fun w hw => by
  rcases List.mem_append.mp hw with hw | hw
  · simp only [List.mem_cons, List.not_mem_nil, or_false] at hw
    rcases hw with e | e | e <;> rw [e] <;> assumption
  · rcases List.mem_cons.mp hw with e | e
    · rw [e]; exact h5
    · exact e)
/-- the links over the nest -/
def kc_NW (U : State) : Prop := va_Nw (.methodLinkNest RX0 47 yX4_isWithin RX4) U ∧ va_Nw (.methodLinkNest RX3 103 yX4_isWithin RX4) U ∧ va_Nw (.methodLinkNest RX2 32 yX4_isWithin RX4) U
theorem kc_NW_same {u U : State} (h : u.vm = U.vm) (q : kc_NW u) : kc_NW U := ⟨va_Nw.same rfl h q.1, va_Nw.same rfl h q.2.1, va_Nw.same rfl h q.2.2⟩
theorem kc_NW_warm {s U : State} (hW : s.WarmedH U.vm) (q : kc_NW s) : kc_NW U := ⟨va_Nw.warmM hW q.1, va_Nw.warmM hW q.2.1, va_Nw.warmM hW q.2.2⟩
def kc_Pre (D : va_G) (cx : Nat → ClassId) (w : va_W) (av : List Value) (sz : Nat) : Array Value → State → Prop := va_Pc av (fun U => U.heap.size = sz ∧ va_P D classes w U.heap ∧ va_K D classes (kc_TY cx) U ∧ va_D (fun _ => True) w ∧ kc_NW U)
def kc_Pi {S : Type} (D : va_G) (w : S → va_W) (r : Int32) (A : Nat → Prop) : Array Value → State → Outcome → State → Prop := va_Qi (fun x (_ : S) => x = r) (fun u t => va_P D classes (w u) t.heap ∧ va_D A (w u)) A
def kc_Pl {S : Type} (D : va_G) (w : S → va_W) (r : Int64) (A : Nat → Prop) : Array Value → State → Outcome → State → Prop := va_Ql (fun x (_ : S) => x = r) (fun u t => va_P D classes (w u) t.heap ∧ va_D A (w u)) A
def kc_Pv {S : Type} (D : va_G) (w : S → va_W) (A : Nat → Prop) : Array Value → State → Outcome → State → Prop := va_Qv (fun (_ : S) => True) (fun u t => va_P D classes (w u) t.heap ∧ va_D A (w u)) A
theorem kc_blind (D : va_G) (cx : Nat → ClassId) (w : va_W) (av : List Value) (sz : Nat) : FrameBlind (kc_Pre D cx w av sz) := fun a U g mk q => by
  obtain ⟨q0, q1, qP, qK, qD, qN⟩ := q
  exact ⟨q0, q1, qP, va_K.moved (u := U) (U := U.calling g mk a) (Vm.Alike.refl U.vm) qK, qD, kc_NW_same rfl qN⟩
theorem kc_pre {D : va_G} {cx : Nat → ClassId} {s : State} {H : Heap} {w : va_W} {A : Nat → Prop} (av : List Value) (hK : va_K D classes (kc_TY cx) s) (hN : kc_NW s) (hP : va_P D classes w H) (hD : va_D A w) : ∀ U : State, U.heap = H → s.WarmedH U.vm → kc_Pre D cx w av H.size av.toArray U :=
  fun U hU hW => ⟨rfl, by rw [hU], by rw [hU]; exact hP, va_K.moved hW.alike hK, hD.weaken (fun _ _ _ _ => trivial), kc_NW_warm hW hN⟩
/-- a method's entry -/
theorem kc_entry {l : Launch} {y : MethodName} {cc : ByteArray} {maxL : Nat} {ret : Option FieldType} {rm : Room} {D : va_G} {cx : Nat → ClassId} {w : va_W} {av : List Value} {sz mc ms : Nat} {Qc : (Nat → Prop) → Array Value → State → Outcome → State → Prop} (hy : plainName y.cls = true) (hn : (lg_sl av).length ≤ maxL)
    (body : ∀ (p : Program) (e : Env) (s : State) (m : MethodId) (below : List Frame) (meth : Method) (c : Code) (A : Nat → Prop), p.tables.exec = Jvm.exec → c.code = cc → meth.sig.returnType = ret → meth.locks = false → c.maxLocals = maxL → s.vm.findClass y.cls = some m.cls → meth.name = y.name → (∀ w ∈ kc_TB, w.before av.toArray s = true) → kc_NW s → va_K D classes (kc_TY cx) s → va_P D classes w s.heap → va_D A w → va_S A s.heap s.heap [] → (∀ q, s.heap.size ≤ q → A q) → ∀ ls : Array Slot, lv_has ls maxL (lv_args 0 av) →
      W p l e rm s m av.toArray below meth c s.heap [] 0 0 (MQ below (Qc A) av.toArray s mc ms A) (F0 m 0 ls [])) :
    Met l y (.code y cc maxL ret :: kc_TB) rm (kc_Pre D cx w av sz) (Qc (va_A w sz)) mc ms (va_A w sz) := by
  refine Met.ofW (cc := cc) (maxL := maxL) (ret := ret) hy rfl ?_
  intro p e s m args below meth c s₁ B hml hv
  obtain ⟨rfl, hsz, hP, hK, hD0, hN⟩ := hv
  have hts := atoms_spec (ws := .code y cc maxL ret :: kc_TB) B.pre
  subst hsz
  have hl := lv_entry av (n := maxL) hn
  rw [lg_entry_eq]
  exact body p e s m below meth c (va_A w s.heap.size) B.exec B.bytes B.returns B.notSynchronized hml (findClass_of_methodNamed B.named) (name_of_methodNamed B.named B.method).1 (fun w hw => hts w (List.mem_cons_of_mem _ hw)) hN hK hP (hD0.self (sz := s.heap.size)) va_S.rf (fun q h => Or.inr h) _ hl
section KC
variable {p : Program} {l : Launch} {e : Env} {R : Room} {s : State} {m : MethodId} {args : Array Value} {below : List Frame} {meth : Method} {c : Code} {H : Heap} {locs : List Loc} {cells slots : Nat} {Q : State → Prop} {cc : ByteArray} {D : va_G} {A : Nat → Prop} {pc : Nat} {ls : Array Slot}
theorem kc_iret {S : Type} {w : S → va_W} {r v : Int32} (u : S) (hx : p.tables.exec = Jvm.exec) (hb : c.code = cc) (hr : meth.sig.returnType = some .int) (hk : meth.locks = false) (hP : va_P D classes (w u) H) (hD : va_D A (w u)) (hS : va_S A s.heap H locs) (hv : v = r) (hdg : decode cc pc = .ok (.ireturn, 1)) : W p l e R s m args below meth c H locs cells slots (MQ below (kc_Pi D w r A) args s cells slots A) (F0 m pc ls [.int v]) :=
  W.iret (v := v) hx hb hr (fun t ht _ => ⟨⟨v, u, rfl, hv, by rw [ht]; exact hP, hD⟩, hS.F ht⟩) hS.2.2 hdg
theorem kc_zret {S : Type} {w : S → va_W} {r v : Int32} (u : S) (hx : p.tables.exec = Jvm.exec) (hb : c.code = cc) (hr : meth.sig.returnType = some .boolean) (hk : meth.locks = false) (hP : va_P D classes (w u) H) (hD : va_D A (w u)) (hS : va_S A s.heap H locs) (hv : v = r) (hn : narrow .boolean (.int v) = .int v) (hdg : decode cc pc = .ok (.ireturn, 1)) : W p l e R s m args below meth c H locs cells slots (MQ below (kc_Pi D w r A) args s cells slots A) (F0 m pc ls [.int v]) :=
  W.zret (v := v) hx hb hr hn (fun t ht _ => ⟨⟨v, u, rfl, hv, by rw [ht]; exact hP, hD⟩, hS.F ht⟩) hS.2.2 hdg
theorem kc_lret {S : Type} {w : S → va_W} {r v : Int64} (u : S) (hx : p.tables.exec = Jvm.exec) (hb : c.code = cc) (hr : meth.sig.returnType = some .long) (hk : meth.locks = false) (hP : va_P D classes (w u) H) (hD : va_D A (w u)) (hS : va_S A s.heap H locs) (hv : v = r) (hdg : decode cc pc = .ok (.lreturn, 1)) : W p l e R s m args below meth c H locs cells slots (MQ below (kc_Pl D w r A) args s cells slots A) (F0 m pc ls [.long v]) :=
  W.lret (v := v) hx hb hr (fun t ht _ => ⟨⟨v, u, rfl, hv, by rw [ht]; exact hP, hD⟩, hS.F ht⟩) hS.2.2 hdg
theorem kc_vret {S : Type} {w : S → va_W} (u : S) (hx : p.tables.exec = Jvm.exec) (hb : c.code = cc) (hr : meth.sig.returnType = none) (hk : meth.locks = false) (hP : va_P D classes (w u) H) (hD : va_D A (w u)) (hS : va_S A s.heap H locs) (hdg : decode cc pc = .ok (.return_, 1)) : W p l e R s m args below meth c H locs cells slots (MQ below (kc_Pv D w A) args s cells slots A) (F0 m pc ls []) :=
  W.vret hx hb hr (fun t ht _ => ⟨⟨u, rfl, trivial, by rw [ht]; exact hP, hD⟩, hS.F ht⟩) hS.2.2 hdg
end KC
theorem kc_fm {α β : Type} {f : α → Option β} {l : List α} {r : List β} (h : l.map f = r.map some) : l.filterMap f = r := by
  have h1 : (l.map f).filterMap id = (r.map some).filterMap id := by rw [h]
  rw [List.filterMap_map, List.filterMap_map] at h1
  simpa using h1
/-- what came back beside the rest, in the order of the new world -/
theorem kc_join {A0 : Nat → Prop} {D : va_G} {ws wc w1 w' : va_W} {H H1 : Heap} (hP : va_P D classes ws H) (hD : va_D A0 ws) (isC isR pm : List Nat) (hC : isC.map (fun i => ws[i]?) = wc.map some) (hR : isR.map (fun i => ws[i]?) = (isR.filterMap (fun i => ws[i]?)).map some) (hn : va_nd isR = true) (hdis : ∀ i ∈ isR, i ∉ isC)
    (hp : pm.map (fun i => (isR.filterMap (fun i => ws[i]?) ++ w1)[i]?) = w'.map some) (hpn : va_nd pm = true) (hk : ∀ q : Nat, q < H.size → ¬ va_A wc H.size q → H1[q]? = H[q]?) (hF : ∀ q, va_A wc H.size q → A0 q) (hP1 : va_P D classes w1 H1) (hD1 : va_D (va_A wc H.size) w1) : va_P D classes w' H1 ∧ va_D A0 w' := by
  obtain ⟨a, b⟩ := va_join hP hD isC isR hC hR hn hdis hk hF hP1 hD1
  exact ⟨a.sub pm (kc_fm hp), b.sub pm hpn hp⟩
section KD
variable {p : Program} {l : Launch} {e : Env} {R : Room} {s : State} {m : MethodId} {args : Array Value} {below : List Frame} {meth : Method} {c : Code} {H H0 : Heap} {locs : List Loc} {cells slots mc ms : Nat} {Q : State → Prop} {D : va_G} {A0 : Nat → Prop} {pc : Nat} {ls : Array Slot} {st0 rest : List Value} {a : Array Value} {S : Type} {ws wc : va_W}
theorem kc_calli {r : Int32} {w1 wn : S → va_W} (hr : va_Run p l e R s m args below meth c H locs cells slots mc ms (F0 m pc ls st0) rest (kc_Pi D w1 r (va_A wc H.size) a) (va_A wc H.size)) (hP : va_P D classes ws H) (hD : va_D A0 ws) (hS : va_S A0 H0 H locs) (hA : ∀ q, H0.size ≤ q → A0 q) (isC isR pm : List Nat) (hC : isC.map (fun i => ws[i]?) = wc.map some) (hR : isR.map (fun i => ws[i]?) = (isR.filterMap (fun i => ws[i]?)).map some) (hn : va_nd isR = true) (hdis : ∀ i ∈ isR, i ∉ isC)
    (hp : ∀ u, pm.map (fun i => (isR.filterMap (fun i => ws[i]?) ++ w1 u)[i]?) = (wn u).map some) (hpn : va_nd pm = true)
    (kk : ∀ (u : S) (H1 : Heap) (locs1 : List Loc), va_P D classes (wn u) H1 → va_D A0 (wn u) → va_S A0 H0 H1 locs1 → W p l e R s m args below meth c H1 locs1 (cells + mc) (slots + ms) Q (F0 m (pc + 3) ls (.int r :: rest))) : W p l e R s m args below meth c H locs cells slots Q (F0 m pc ls st0) := by
  have hFc := va_free (wc := wc) hD hS hA isC hC
  refine va_calli hr hS (fun q _ h => hFc q h) hFc (fun r1 u t H1 locs1 ht _ hw hB _ hk1 hS1 => ?_)
  obtain ⟨hP1, hD1⟩ := hB
  rw [ht] at hP1
  subst hw
  obtain ⟨hP2, hD2⟩ := kc_join hP hD isC isR pm hC hR hn hdis (hp u) hpn hk1 hFc hP1 hD1
  exact kk u H1 locs1 hP2 hD2 hS1
theorem kc_calll {r : Int64} {w1 wn : S → va_W} (hr : va_Run p l e R s m args below meth c H locs cells slots mc ms (F0 m pc ls st0) rest (kc_Pl D w1 r (va_A wc H.size) a) (va_A wc H.size)) (hP : va_P D classes ws H) (hD : va_D A0 ws) (hS : va_S A0 H0 H locs) (hA : ∀ q, H0.size ≤ q → A0 q) (isC isR pm : List Nat) (hC : isC.map (fun i => ws[i]?) = wc.map some) (hR : isR.map (fun i => ws[i]?) = (isR.filterMap (fun i => ws[i]?)).map some) (hn : va_nd isR = true) (hdis : ∀ i ∈ isR, i ∉ isC)
    (hp : ∀ u, pm.map (fun i => (isR.filterMap (fun i => ws[i]?) ++ w1 u)[i]?) = (wn u).map some) (hpn : va_nd pm = true)
    (kk : ∀ (u : S) (H1 : Heap) (locs1 : List Loc), va_P D classes (wn u) H1 → va_D A0 (wn u) → va_S A0 H0 H1 locs1 → W p l e R s m args below meth c H1 locs1 (cells + mc) (slots + ms) Q (F0 m (pc + 3) ls (.long r :: rest))) : W p l e R s m args below meth c H locs cells slots Q (F0 m pc ls st0) := by
  have hFc := va_free (wc := wc) hD hS hA isC hC
  refine va_calll hr hS (fun q _ h => hFc q h) hFc (fun r1 u t H1 locs1 ht _ hw hB _ hk1 hS1 => ?_)
  obtain ⟨hP1, hD1⟩ := hB
  rw [ht] at hP1
  subst hw
  obtain ⟨hP2, hD2⟩ := kc_join hP hD isC isR pm hC hR hn hdis (hp u) hpn hk1 hFc hP1 hD1
  exact kk u H1 locs1 hP2 hD2 hS1
theorem kc_callv {w1 wn : S → va_W} (hr : va_Run p l e R s m args below meth c H locs cells slots mc ms (F0 m pc ls st0) rest (kc_Pv D w1 (va_A wc H.size) a) (va_A wc H.size)) (hP : va_P D classes ws H) (hD : va_D A0 ws) (hS : va_S A0 H0 H locs) (hA : ∀ q, H0.size ≤ q → A0 q) (isC isR pm : List Nat) (hC : isC.map (fun i => ws[i]?) = wc.map some) (hR : isR.map (fun i => ws[i]?) = (isR.filterMap (fun i => ws[i]?)).map some) (hn : va_nd isR = true) (hdis : ∀ i ∈ isR, i ∉ isC)
    (hp : ∀ u, pm.map (fun i => (isR.filterMap (fun i => ws[i]?) ++ w1 u)[i]?) = (wn u).map some) (hpn : va_nd pm = true)
    (kk : ∀ (u : S) (H1 : Heap) (locs1 : List Loc), va_P D classes (wn u) H1 → va_D A0 (wn u) → va_S A0 H0 H1 locs1 → W p l e R s m args below meth c H1 locs1 (cells + mc) (slots + ms) Q (F0 m (pc + 3) ls rest)) : W p l e R s m args below meth c H locs cells slots Q (F0 m pc ls st0) := by
  have hFc := va_free (wc := wc) hD hS hA isC hC
  refine va_callv hr hS (fun q _ h => hFc q h) hFc (fun u t H1 locs1 ht _ hw hB _ hk1 hS1 => ?_)
  obtain ⟨hP1, hD1⟩ := hB
  rw [ht] at hP1
  obtain ⟨hP2, hD2⟩ := kc_join hP hD isC isR pm hC hR hn hdis (hp u) hpn hk1 hFc hP1 hD1
  exact kk u H1 locs1 hP2 hD2 hS1
end KD
/-! the pure side: a value, or none where the machine itself would throw -/
def okb {α : Type} (b : Bool) (x : Option α) : Option α := match b with
  | true => x
  | false => none
theorem okb_s {α : Type} {b : Bool} {x : Option α} {r : α} (h : okb b x = some r) : b = true ∧ x = some r := by
  cases b with
  | true => exact ⟨rfl, h⟩
  | false => cases h
theorem okb_t {α : Type} {b : Bool} {x : Option α} (h : b = true) : okb b x = x := by subst h; rfl
def inb (i : Int32) (n : Nat) : Bool := !(decide (i < 0) || decide (n ≤ i.toNatClampNeg))
theorem inb_s {i : Int32} {n : Nat} (h : inb i n = true) : vp_in i n := by
  intro q
  unfold inb at h
  rcases q with q | q <;> simp [q] at h
def isb (v : Int32) : Bool := decide (v = 0) || decide (v = 1)
theorem isb_s {v : Int32} (h : isb v = true) : v = 0 ∨ v = 1 := by
  unfold isb at h
  simpa using h
theorem isb_n {v : Int32} (h : isb v = true) : narrow .boolean (.int v) = .int v ∧ fits .boolean (.int v) = true := by
  rcases isb_s h with e | e <;> subst e <;> exact ⟨rfl, rfl⟩
theorem ob_s {α β : Type} {a : Option α} {f : α → Option β} {r : β} (h : Option.bind a f = some r) : ∃ u, a = some u ∧ f u = some r := by
  cases a with
  | none => cases h
  | some u => exact ⟨u, rfl, h⟩
theorem it_t {α : Type} {c : Prop} [Decidable c] {a b : Option α} {r : α} (h : c) (q : (if c then a else b) = some r) : a = some r := by rw [if_pos h] at q; exact q
theorem it_f {α : Type} {c : Prop} [Decidable c] {a b : Option α} {r : α} (h : ¬ c) (q : (if c then a else b) = some r) : b = some r := by rw [if_neg h] at q; exact q
/-- a loop that may return: its way out goes on -/
def onS {ρ ε α : Type} (v : Sum ρ ε) (f : ρ → Option α) (k : ε → Option α) : Option α := match v with
  | .inl r => f r
  | .inr x => k x
theorem onS_l {ρ ε α : Type} {r : ρ} {f : ρ → Option α} {k : ε → Option α} {v : α} (h : onS (.inl r) f k = some v) : f r = some v := h
theorem onS_r {ρ ε α : Type} {x : ε} {f : ρ → Option α} {k : ε → Option α} {v : α} (h : onS (.inr x) f k = some v) : k x = some v := h
end
section
theorem wd_78 : (Cond.fieldLink "DropRows$Grid" 38 "DropRows$Grid" "rowCount" "I") ∈ kc_TB := kc_in 78 (by decide +kernel) (by decide +kernel)
theorem wd_82 : (Cond.fieldLink "DropRows$Grid" 11 "DropRows$Grid" "rows" "[I") ∈ kc_TB := kc_in 82 (by decide +kernel) (by decide +kernel)
theorem iX0 : ∀ w ∈ wsX00, w ∈ kc_TB := fun w h => List.mem_filter.mpr ⟨(by decide +kernel : ∀ w ∈ wsX00, w ∈ lw_tbl) w h, (by decide +kernel : ∀ w ∈ wsX00, goodWord w = true) w h⟩
theorem iX1 : ∀ w ∈ wsX10, w ∈ kc_TB := fun w h => List.mem_filter.mpr ⟨(by decide +kernel : ∀ w ∈ wsX10, w ∈ lw_tbl) w h, (by decide +kernel : ∀ w ∈ wsX10, goodWord w = true) w h⟩
theorem iX2 : ∀ w ∈ wsX20, w ∈ kc_TB := fun w h => List.mem_filter.mpr ⟨(by decide +kernel : ∀ w ∈ wsX20, w ∈ lw_tbl) w h, (by decide +kernel : ∀ w ∈ wsX20, goodWord w = true) w h⟩
theorem iX3 : ∀ w ∈ wsX30, w ∈ kc_TB := fun w h => List.mem_filter.mpr ⟨(by decide +kernel : ∀ w ∈ wsX30, w ∈ lw_tbl) w h, (by decide +kernel : ∀ w ∈ wsX30, goodWord w = true) w h⟩
theorem iX4 : ∀ w ∈ wsX40, w ∈ kc_TB := fun w h => List.mem_filter.mpr ⟨(by decide +kernel : ∀ w ∈ wsX40, w ∈ lw_tbl) w h, (by decide +kernel : ∀ w ∈ wsX40, goodWord w = true) w h⟩
theorem iX5 : ∀ w ∈ wsX50, w ∈ kc_TB := fun w h => List.mem_filter.mpr ⟨(by decide +kernel : ∀ w ∈ wsX50, w ∈ lw_tbl) w h, (by decide +kernel : ∀ w ∈ wsX50, goodWord w = true) w h⟩
theorem dX1_hasRow_0 : decode cX1_hasRow 0 = .ok (.iconst 0, 1) := by decide +kernel
theorem dX1_hasRow_1 : decode cX1_hasRow 1 = .ok (.istore_n 2, 1) := by decide +kernel
theorem dX1_hasRow_2 : decode cX1_hasRow 2 = .ok (.iload_n 2, 1) := by decide +kernel
theorem dX1_hasRow_3 : decode cX1_hasRow 3 = .ok (.aload_n 0, 1) := by decide +kernel
theorem dX1_hasRow_4 : decode cX1_hasRow 4 = .ok (.getfield 38, 3) := by decide +kernel
theorem dX1_hasRow_7 : decode cX1_hasRow 7 = .ok (.if_icmp .ge 28, 3) := by decide +kernel
theorem dX1_hasRow_10 : decode cX1_hasRow 10 = .ok (.iload_n 1, 1) := by decide +kernel
theorem dX1_hasRow_11 : decode cX1_hasRow 11 = .ok (.aload_n 0, 1) := by decide +kernel
theorem dX1_hasRow_12 : decode cX1_hasRow 12 = .ok (.getfield 11, 3) := by decide +kernel
theorem dX1_hasRow_15 : decode cX1_hasRow 15 = .ok (.iload_n 2, 1) := by decide +kernel
theorem dX1_hasRow_16 : decode cX1_hasRow 16 = .ok (.iaload, 1) := by decide +kernel
theorem dX1_hasRow_17 : decode cX1_hasRow 17 = .ok (.iand, 1) := by decide +kernel
theorem dX1_hasRow_18 : decode cX1_hasRow 18 = .ok (.aload_n 0, 1) := by decide +kernel
theorem dX1_hasRow_19 : decode cX1_hasRow 19 = .ok (.getfield 11, 3) := by decide +kernel
theorem dX1_hasRow_22 : decode cX1_hasRow 22 = .ok (.iload_n 2, 1) := by decide +kernel
theorem dX1_hasRow_23 : decode cX1_hasRow 23 = .ok (.iaload, 1) := by decide +kernel
theorem dX1_hasRow_24 : decode cX1_hasRow 24 = .ok (.if_icmp .ne 5, 3) := by decide +kernel
theorem dX1_hasRow_27 : decode cX1_hasRow 27 = .ok (.iconst 1, 1) := by decide +kernel
theorem dX1_hasRow_28 : decode cX1_hasRow 28 = .ok (.ireturn, 1) := by decide +kernel
theorem dX1_hasRow_29 : decode cX1_hasRow 29 = .ok (.iinc 2 1, 3) := by decide +kernel
theorem dX1_hasRow_32 : decode cX1_hasRow 32 = .ok (.goto (-30), 3) := by decide +kernel
theorem dX1_hasRow_35 : decode cX1_hasRow 35 = .ok (.iconst 0, 1) := by decide +kernel
theorem dX1_hasRow_36 : decode cX1_hasRow 36 = .ok (.ireturn, 1) := by decide +kernel
theorem dX4_isWithin_0 : decode cX4_isWithin 0 = .ok (.iload_n 0, 1) := by decide +kernel
theorem dX4_isWithin_1 : decode cX4_isWithin 1 = .ok (.iload_n 1, 1) := by decide +kernel
theorem dX4_isWithin_2 : decode cX4_isWithin 2 = .ok (.if_icmp .lt 12, 3) := by decide +kernel
theorem dX4_isWithin_5 : decode cX4_isWithin 5 = .ok (.iload_n 0, 1) := by decide +kernel
theorem dX4_isWithin_6 : decode cX4_isWithin 6 = .ok (.iload_n 2, 1) := by decide +kernel
theorem dX4_isWithin_7 : decode cX4_isWithin 7 = .ok (.if_icmp .gt 7, 3) := by decide +kernel
theorem dX4_isWithin_10 : decode cX4_isWithin 10 = .ok (.iconst 1, 1) := by decide +kernel
theorem dX4_isWithin_11 : decode cX4_isWithin 11 = .ok (.goto 4, 3) := by decide +kernel
theorem dX4_isWithin_14 : decode cX4_isWithin 14 = .ok (.iconst 0, 1) := by decide +kernel
theorem dX4_isWithin_15 : decode cX4_isWithin 15 = .ok (.ireturn, 1) := by decide +kernel
def wG (cx : Nat → ClassId) (aG : Nat → Nat) (gw : Int32) (gh : Int32) (gk : Int32) (gq : Int32) (gr : Int32) (gj : Int32) (gR : Nat → Int32) (gT : Nat → Int32) (gC : Nat → Int32) : va_W := [(aG 0, .inr (1, [.int gw, .int gh, .int gk, .int gq, .int gr, .int gj, .ref (aG 1), .ref (aG 2), .ref (aG 3)])), (aG 1, .inl (cx 0, 64, .inl gR)), (aG 2, .inl (cx 0, 256, .inl gT)), (aG 3, .inl (cx 0, 16, .inl gC))]
def fX1_hasRow_L2 (N : Nat) (gr : Int32) (gR : Nat → Int32) (x1 : Int32) : Nat → Int32 → Option ((Int32) ⊕ (Unit))
  | 0, _ => none
  | ct + 1, x2 => if gr ≤ x2 then (some (.inr ())) else (okb (inb x2 64) (okb (inb x2 64) (if (x1 &&& (gR x2.toNatClampNeg)) = (gR x2.toNatClampNeg) then (some (.inl (1 : Int32))) else (fX1_hasRow_L2 N gr gR x1 ct (x2 + (1 : Int32))))))
def fX1_hasRow (N : Nat) (gr : Int32) (gR : Nat → Int32) (x1 : Int32) : Option (Int32) := Option.bind (fX1_hasRow_L2 N gr gR x1 N (0 : Int32)) (fun u7 => onS u7 (fun r9 => some r9) (fun e8 => some (0 : Int32)))
abbrev rmX1_hasRow : Room := { frames := 0, cells := 0, slots := 0, locals := 0 }
set_option maxHeartbeats 4000000 in
set_option maxRecDepth 100000 in
theorem metX1_hasRow (l : Launch) (D : va_G) (cx : Nat → ClassId) (aG : Nat → Nat) (gw : Int32) (gh : Int32) (gk : Int32) (gq : Int32) (gr : Int32) (gj : Int32) (gR : Nat → Int32) (gT : Nat → Int32) (gC : Nat → Int32) (x1 : Int32) (N sz : Nat) (v : Int32) (hf : fX1_hasRow N gr gR x1 = some v) : Met l yX1_hasRow (.code yX1_hasRow cX1_hasRow 3 (some .boolean) :: kc_TB) rmX1_hasRow (kc_Pre D cx (wG cx aG gw gh gk gq gr gj gR gT gC) [.ref (aG 0), .int x1] sz) (kc_Pi D (fun _ : Unit => (wG cx aG gw gh gk gq gr gj gR gT gC)) v (va_A (wG cx aG gw gh gk gq gr gj gR gT gC) sz)) 0 0 (va_A (wG cx aG gw gh gk gq gr gj gR gT gC) sz) := by
  refine kc_entry (Qc := fun A => (kc_Pi D (fun _ : Unit => (wG cx aG gw gh gk gq gr gj gR gT gC)) v A)) (by decide) (Nat.le_of_ble_eq_true rfl) ?_
  intro p e s m below meth c A hx hb hr hk hml hown hin hts hN hK hP hD hS hA ls hl
  have hown : s.vm.findClass RX1 = some m.cls := hown
  have hl : lv_has ls 3 [(0, .ref (aG 0)), (1, .int x1)] := hl
  unfold fX1_hasRow at hf
  have hP : va_P D classes (wG cx aG gw gh gk gq gr gj gR gT gC) s.heap := hP
  obtain ⟨H, hH⟩ : ∃ H, H = s.heap := ⟨_, rfl⟩
  obtain ⟨locs, hL⟩ : ∃ locs : List Loc, locs = [] := ⟨_, rfl⟩
  have hS : va_S A s.heap H locs := by rw [hH, hL]; exact hS
  have hP : va_P D classes (wG cx aG gw gh gk gq gr gj gR gT gC) H := by rw [hH]; exact hP
  suffices hW : W p l e rmX1_hasRow s m ([.ref (aG 0), .int x1] : List Value).toArray below meth c H locs 0 0 (MQ below (kc_Pi D (fun _ : Unit => (wG cx aG gw gh gk gq gr gj gR gT gC)) v A) ([.ref (aG 0), .int x1] : List Value).toArray s 0 0 A) (F0 m 0 ls []) by rw [hH, hL] at hW; exact hW
  clear hH hL
  refine lv_iconst (v := (0 : Int32)) hx hb dX1_hasRow_0 (by decide) ?_
  refine lv_istore_n (lv' := [(2, .int (0 : Int32)), (0, .ref (aG 0)), (1, .int x1)]) hx hb dX1_hasRow_1 rfl hl (by decide) rfl (fun ls hl => ?_)
  have L2 : ∀ (ct : Nat) (x2 : Int32) (v2 : (Int32) ⊕ (Unit)), fX1_hasRow_L2 N gr gR x1 ct x2 = some v2 → ∀ (H : Heap) (locs : List Loc) (ls : Array Slot), va_P D classes (wG cx aG gw gh gk gq gr gj gR gT gC) H → va_D A (wG cx aG gw gh gk gq gr gj gR gT gC) → va_S A s.heap H locs → lv_has ls 3 [(0, .ref (aG 0)), (1, .int x1), (2, .int x2)] → (∀ (e2 : Unit), v2 = .inr e2 → ∀ (H : Heap) (locs : List Loc) (ls : Array Slot), va_P D classes (wG cx aG gw gh gk gq gr gj gR gT gC) H → va_D A (wG cx aG gw gh gk gq gr gj gR gT gC) → va_S A s.heap H locs → lv_has ls 3 [] → W p l e rmX1_hasRow s m ([.ref (aG 0), .int x1] : List Value).toArray below meth c H locs 0 0 (MQ below (kc_Pi D (fun _ : Unit => (wG cx aG gw gh gk gq gr gj gR gT gC)) v A) ([.ref (aG 0), .int x1] : List Value).toArray s 0 0 A) (F0 m 35 ls [])) → (∀ (r2 : Int32), v2 = .inl r2 → ∀ (pc : Nat) (H : Heap) (locs : List Loc) (ls : Array Slot), narrow .boolean (.int r2) = .int r2 → va_P D classes (wG cx aG gw gh gk gq gr gj gR gT gC) H → va_D A (wG cx aG gw gh gk gq gr gj gR gT gC) → va_S A s.heap H locs → decode cX1_hasRow pc = .ok (.ireturn, 1) → W p l e rmX1_hasRow s m ([.ref (aG 0), .int x1] : List Value).toArray below meth c H locs 0 0 (MQ below (kc_Pi D (fun _ : Unit => (wG cx aG gw gh gk gq gr gj gR gT gC)) v A) ([.ref (aG 0), .int x1] : List Value).toArray s 0 0 A) (F0 m pc ls [.int r2])) → W p l e rmX1_hasRow s m ([.ref (aG 0), .int x1] : List Value).toArray below meth c H locs 0 0 (MQ below (kc_Pi D (fun _ : Unit => (wG cx aG gw gh gk gq gr gj gR gT gC)) v A) ([.ref (aG 0), .int x1] : List Value).toArray s 0 0 A) (F0 m 2 ls []) := by
    intro ct
    induction ct with
    | zero =>
      intro x2 v2 hf
      exact absurd (show (none : Option ((Int32) ⊕ (Unit))) = some v2 from hf) (fun q => by cases q)
    | succ ct ih =>
      intro x2 v2 hf H locs ls hP hD hS hl hE hR
      rw [fX1_hasRow_L2] at hf
      refine lv_iload_n hx hb dX1_hasRow_2 rfl (lv_at hl 2 rfl) ?_
      refine lv_aload_n hx hb dX1_hasRow_3 rfl (lv_at hl 0 rfl) ?_
      refine va_get (D := D) (ci := 1) (v := .int gr) (C := RX1) (T := TX1) (N := 9) hx hb hts iX1 hown hK hP 0 rfl rfl 4 (by decide) (hts _ wd_78) (fun _ h9 => h9) rfl dX1_hasRow_4 ?_
      refine lv_icmp_ge (tgt := 35) hx hb dX1_hasRow_7 (by decide) (fun c5 => ?_) (fun c5 => ?_)
      · replace hf := it_t c5 hf
        obtain rfl := Option.some.inj hf
        exact hE _ rfl H locs ls hP hD hS (lv_sub hl [] rfl)
      · replace hf := it_f c5 hf
        refine lv_iload_n hx hb dX1_hasRow_10 rfl (lv_at hl 1 rfl) ?_
        refine lv_aload_n hx hb dX1_hasRow_11 rfl (lv_at hl 0 rfl) ?_
        refine va_get (D := D) (ci := 1) (v := .ref (aG 1)) (C := RX1) (T := TX1) (N := 9) hx hb hts iX1 hown hK hP 0 rfl rfl 6 (by decide) (hts _ wd_82) (fun _ h9 => h9) rfl dX1_hasRow_12 ?_
        refine lv_iload_n hx hb dX1_hasRow_15 rfl (lv_at hl 2 rfl) ?_
        obtain ⟨hz, hf⟩ := okb_s hf
        refine va_iald (D := D) hx hb hK hP 1 0 rfl rfl (inb_s hz) dX1_hasRow_16 ?_
        refine lv_iand hx hb dX1_hasRow_17 ?_
        refine lv_aload_n hx hb dX1_hasRow_18 rfl (lv_at hl 0 rfl) ?_
        refine va_get (D := D) (ci := 1) (v := .ref (aG 1)) (C := RX1) (T := TX1) (N := 9) hx hb hts iX1 hown hK hP 0 rfl rfl 6 (by decide) (hts _ wd_82) (fun _ h9 => h9) rfl dX1_hasRow_19 ?_
        refine lv_iload_n hx hb dX1_hasRow_22 rfl (lv_at hl 2 rfl) ?_
        obtain ⟨hz, hf⟩ := okb_s hf
        refine va_iald (D := D) hx hb hK hP 1 0 rfl rfl (inb_s hz) dX1_hasRow_23 ?_
        refine lv_icmp_ne (tgt := 29) hx hb dX1_hasRow_24 (by decide) (fun c6 => ?_) (fun c6 => ?_)
        · replace hf := it_f c6 hf
          refine lv_iinc (v := (x2 + (1 : Int32))) (lv' := [(2, .int (x2 + (1 : Int32))), (0, .ref (aG 0)), (1, .int x1)]) hx hb dX1_hasRow_29 hl (k := 2) rfl rfl (by decide) rfl (fun ls hl => ?_)
          refine lv_goto (tgt := 2) hx hb dX1_hasRow_32 (by decide) ?_
          exact ih (x2 + (1 : Int32)) _ hf H locs ls hP hD hS (lv_sub hl [1, 2, 0] rfl) hE hR
        · replace hf := it_t c6 hf
          refine lv_iconst (v := (1 : Int32)) hx hb dX1_hasRow_27 (by decide) ?_
          obtain rfl := Option.some.inj hf
          exact hR _ rfl _ H locs ls rfl hP hD hS dX1_hasRow_28
  obtain ⟨u7, hg, hf⟩ := ob_s hf
  refine L2 _ (0 : Int32) u7 hg H locs ls hP hD hS (lv_sub hl [1, 2, 0] rfl) (fun e8 ee H locs ls hP hD hS hl => ?_) (fun r9 ee pc H locs ls hz hP hD hS hd => ?_)
  · subst ee
    replace hf := onS_r hf
    refine lv_iconst (v := (0 : Int32)) hx hb dX1_hasRow_35 (by decide) ?_
    obtain rfl := Option.some.inj hf
    exact kc_zret () hx hb hr hk hP hD hS rfl rfl dX1_hasRow_36
  · subst ee
    replace hf := onS_l hf
    obtain rfl := Option.some.inj hf
    exact kc_zret () hx hb hr hk hP hD hS rfl hz hd
def fX4_isWithin (N : Nat)  (x0 : Int32) (x1 : Int32) (x2 : Int32) : Option (Int32) := if x0 < x1 then (some (0 : Int32)) else (if x2 < x0 then (some (0 : Int32)) else (some (1 : Int32)))
abbrev rmX4_isWithin : Room := { frames := 0, cells := 0, slots := 0, locals := 0 }
set_option maxHeartbeats 4000000 in
set_option maxRecDepth 100000 in
theorem metX4_isWithin (l : Launch) (D : va_G) (cx : Nat → ClassId)   (x0 : Int32) (x1 : Int32) (x2 : Int32) (N sz : Nat) (v : Int32) (hf : fX4_isWithin N x0 x1 x2 = some v) : Met l yX4_isWithin (.code yX4_isWithin cX4_isWithin 3 (some .boolean) :: kc_TB) rmX4_isWithin (kc_Pre D cx ([] : va_W) [.int x0, .int x1, .int x2] sz) (kc_Pi D (fun _ : Unit => ([] : va_W)) v (va_A ([] : va_W) sz)) 0 0 (va_A ([] : va_W) sz) := by
  refine kc_entry (Qc := fun A => (kc_Pi D (fun _ : Unit => ([] : va_W)) v A)) (by decide) (Nat.le_of_ble_eq_true rfl) ?_
  intro p e s m below meth c A hx hb hr hk hml hown hin hts hN hK hP hD hS hA ls hl
  have hown : s.vm.findClass RX4 = some m.cls := hown
  have hl : lv_has ls 3 [(0, .int x0), (1, .int x1), (2, .int x2)] := hl
  unfold fX4_isWithin at hf
  have hP : va_P D classes ([] : va_W) s.heap := hP
  obtain ⟨H, hH⟩ : ∃ H, H = s.heap := ⟨_, rfl⟩
  obtain ⟨locs, hL⟩ : ∃ locs : List Loc, locs = [] := ⟨_, rfl⟩
  have hS : va_S A s.heap H locs := by rw [hH, hL]; exact hS
  have hP : va_P D classes ([] : va_W) H := by rw [hH]; exact hP
  suffices hW : W p l e rmX4_isWithin s m ([.int x0, .int x1, .int x2] : List Value).toArray below meth c H locs 0 0 (MQ below (kc_Pi D (fun _ : Unit => ([] : va_W)) v A) ([.int x0, .int x1, .int x2] : List Value).toArray s 0 0 A) (F0 m 0 ls []) by rw [hH, hL] at hW; exact hW
  clear hH hL
  refine lv_iload_n hx hb dX4_isWithin_0 rfl (lv_at hl 0 rfl) ?_
  refine lv_iload_n hx hb dX4_isWithin_1 rfl (lv_at hl 1 rfl) ?_
  refine lv_icmp_lt (tgt := 14) hx hb dX4_isWithin_2 (by decide) (fun c3 => ?_) (fun c3 => ?_)
  · replace hf := it_t c3 hf
    refine lv_iconst (v := (0 : Int32)) hx hb dX4_isWithin_14 (by decide) ?_
    obtain rfl := Option.some.inj hf
    exact kc_zret () hx hb hr hk hP hD hS rfl rfl dX4_isWithin_15
  · replace hf := it_f c3 hf
    refine lv_iload_n hx hb dX4_isWithin_5 rfl (lv_at hl 0 rfl) ?_
    refine lv_iload_n hx hb dX4_isWithin_6 rfl (lv_at hl 2 rfl) ?_
    refine lv_icmp_gt (tgt := 14) hx hb dX4_isWithin_7 (by decide) (fun c4 => ?_) (fun c4 => ?_)
    · replace hf := it_t c4 hf
      refine lv_iconst (v := (0 : Int32)) hx hb dX4_isWithin_14 (by decide) ?_
      obtain rfl := Option.some.inj hf
      exact kc_zret () hx hb hr hk hP hD hS rfl rfl dX4_isWithin_15
    · replace hf := it_f c4 hf
      refine lv_iconst (v := (1 : Int32)) hx hb dX4_isWithin_10 (by decide) ?_
      refine lv_goto (tgt := 15) hx hb dX4_isWithin_11 (by decide) ?_
      obtain rfl := Option.some.inj hf
      exact kc_zret () hx hb hr hk hP hD hS rfl rfl dX4_isWithin_15
end
