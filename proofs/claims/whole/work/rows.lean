section
/-- a private method of a class that the tables say can be made, by its rows of tables_1 -/
def lw_okq (q : MethodName × Nat) : Prop := (q.1.cls ≠ "java/lang/invoke/MethodHandle" ∧ q.1.cls ≠ "java/lang/invoke/VarHandle") ∧ Cond.instantiable q.1.cls q.2 ∈ tables_1 ∧ Cond.privateMethod q.1 ∈ tables_1 ∧ Cond.instanceMethod q.1 ∈ tables_1
theorem lw_p0 : lw_okq (⟨"DropRows$Grid", "rowFrom", "(IIII)I"⟩, 9) := ⟨⟨by decide +kernel, by decide +kernel⟩, List.mem_of_getElem? (i := 20) (by decide +kernel), List.mem_of_getElem? (i := 74) (by decide +kernel), List.mem_of_getElem? (i := 75) (by decide +kernel)⟩
theorem lw_p1 : lw_okq (⟨"DropRows$Grid", "beside", "(II)I"⟩, 9) := ⟨⟨by decide +kernel, by decide +kernel⟩, List.mem_of_getElem? (i := 20) (by decide +kernel), List.mem_of_getElem? (i := 78) (by decide +kernel), List.mem_of_getElem? (i := 79) (by decide +kernel)⟩
theorem lw_p2 : lw_okq (⟨"DropRows$Grid", "addRow", "(I)V"⟩, 9) := ⟨⟨by decide +kernel, by decide +kernel⟩, List.mem_of_getElem? (i := 20) (by decide +kernel), List.mem_of_getElem? (i := 82) (by decide +kernel), List.mem_of_getElem? (i := 83) (by decide +kernel)⟩
theorem lw_p3 : lw_okq (⟨"DropRows$Grid", "isRow", "(I)Z"⟩, 9) := ⟨⟨by decide +kernel, by decide +kernel⟩, List.mem_of_getElem? (i := 20) (by decide +kernel), List.mem_of_getElem? (i := 86) (by decide +kernel), List.mem_of_getElem? (i := 87) (by decide +kernel)⟩
theorem lw_p4 : lw_okq (⟨"DropRows$Game", "squareIn", "(I)I"⟩, 5) := ⟨⟨by decide +kernel, by decide +kernel⟩, List.mem_of_getElem? (i := 136) (by decide +kernel), List.mem_of_getElem? (i := 256) (by decide +kernel), List.mem_of_getElem? (i := 257) (by decide +kernel)⟩
theorem lw_p5 : lw_okq (⟨"DropRows$Solver", "startEmpty", "()V"⟩, 12) := ⟨⟨by decide +kernel, by decide +kernel⟩, List.mem_of_getElem? (i := 90) (by decide +kernel), List.mem_of_getElem? (i := 322) (by decide +kernel), List.mem_of_getElem? (i := 323) (by decide +kernel)⟩
theorem lw_p6 : lw_okq (⟨"DropRows$Solver", "prepare", "()V"⟩, 12) := ⟨⟨by decide +kernel, by decide +kernel⟩, List.mem_of_getElem? (i := 90) (by decide +kernel), List.mem_of_getElem? (i := 326) (by decide +kernel), List.mem_of_getElem? (i := 327) (by decide +kernel)⟩
theorem lw_p7 : lw_okq (⟨"DropRows$Solver", "search", "(IIIII)I"⟩, 12) := ⟨⟨by decide +kernel, by decide +kernel⟩, List.mem_of_getElem? (i := 90) (by decide +kernel), List.mem_of_getElem? (i := 342) (by decide +kernel), List.mem_of_getElem? (i := 343) (by decide +kernel)⟩
theorem lw_p8 : lw_okq (⟨"DropRows$Solver", "keptAt", "(I)I"⟩, 12) := ⟨⟨by decide +kernel, by decide +kernel⟩, List.mem_of_getElem? (i := 90) (by decide +kernel), List.mem_of_getElem? (i := 349) (by decide +kernel), List.mem_of_getElem? (i := 350) (by decide +kernel)⟩
theorem lw_p9 : lw_okq (⟨"DropRows$Solver", "tryColumn", "(IIIIII)I"⟩, 12) := ⟨⟨by decide +kernel, by decide +kernel⟩, List.mem_of_getElem? (i := 90) (by decide +kernel), List.mem_of_getElem? (i := 353) (by decide +kernel), List.mem_of_getElem? (i := 354) (by decide +kernel)⟩
theorem lw_p10 : lw_okq (⟨"DropRows$Solver", "keep", "(IIII)V"⟩, 12) := ⟨⟨by decide +kernel, by decide +kernel⟩, List.mem_of_getElem? (i := 90) (by decide +kernel), List.mem_of_getElem? (i := 361) (by decide +kernel), List.mem_of_getElem? (i := 362) (by decide +kernel)⟩
theorem lw_p11 : lw_okq (⟨"DropRows", "bestColumn", "()I"⟩, 7) := ⟨⟨by decide +kernel, by decide +kernel⟩, List.mem_of_getElem? (i := 12) (by decide +kernel), List.mem_of_getElem? (i := 383) (by decide +kernel), List.mem_of_getElem? (i := 384) (by decide +kernel)⟩
theorem lw_p12 : lw_okq (⟨"DropRows$Game", "isThreat", "(II)Z"⟩, 5) := ⟨⟨by decide +kernel, by decide +kernel⟩, List.mem_of_getElem? (i := 136) (by decide +kernel), List.mem_of_getElem? (i := 429) (by decide +kernel), List.mem_of_getElem? (i := 430) (by decide +kernel)⟩
theorem lw_p13 : lw_okq (⟨"DropRows$Game", "waitingSort", "(I)I"⟩, 5) := ⟨⟨by decide +kernel, by decide +kernel⟩, List.mem_of_getElem? (i := 136) (by decide +kernel), List.mem_of_getElem? (i := 452) (by decide +kernel), List.mem_of_getElem? (i := 453) (by decide +kernel)⟩
theorem lw_p14 : lw_okq (⟨"DropRows", "refuse", "(I)I"⟩, 7) := ⟨⟨by decide +kernel, by decide +kernel⟩, List.mem_of_getElem? (i := 12) (by decide +kernel), List.mem_of_getElem? (i := 466) (by decide +kernel), List.mem_of_getElem? (i := 467) (by decide +kernel)⟩
theorem lw_p15 : lw_okq (⟨"DropRowsModel", "begin", "(IIIZ)V"⟩, 23) := ⟨⟨by decide +kernel, by decide +kernel⟩, List.mem_of_getElem? (i := 528) (by decide +kernel), List.mem_of_getElem? (i := 535) (by decide +kernel), List.mem_of_getElem? (i := 536) (by decide +kernel)⟩
def lw_privs_1 : List (MethodName × Nat) := [(⟨"DropRows$Grid", "rowFrom", "(IIII)I"⟩, 9), (⟨"DropRows$Grid", "beside", "(II)I"⟩, 9), (⟨"DropRows$Grid", "addRow", "(I)V"⟩, 9), (⟨"DropRows$Grid", "isRow", "(I)Z"⟩, 9), (⟨"DropRows$Game", "squareIn", "(I)I"⟩, 5), (⟨"DropRows$Solver", "startEmpty", "()V"⟩, 12), (⟨"DropRows$Solver", "prepare", "()V"⟩, 12), (⟨"DropRows$Solver", "search", "(IIIII)I"⟩, 12), (⟨"DropRows$Solver", "keptAt", "(I)I"⟩, 12), (⟨"DropRows$Solver", "tryColumn", "(IIIIII)I"⟩, 12), (⟨"DropRows$Solver", "keep", "(IIII)V"⟩, 12), (⟨"DropRows", "bestColumn", "()I"⟩, 7), (⟨"DropRows$Game", "isThreat", "(II)Z"⟩, 5), (⟨"DropRows$Game", "waitingSort", "(I)I"⟩, 5), (⟨"DropRows", "refuse", "(I)I"⟩, 7), (⟨"DropRowsModel", "begin", "(IIIZ)V"⟩, 23)]
theorem lw_r1 : ∀ q ∈ lw_privs_1, lw_okq q := List.forall_mem_cons.mpr ⟨lw_p0, List.forall_mem_cons.mpr ⟨lw_p1, List.forall_mem_cons.mpr ⟨lw_p2, List.forall_mem_cons.mpr ⟨lw_p3, List.forall_mem_cons.mpr ⟨lw_p4, List.forall_mem_cons.mpr ⟨lw_p5, List.forall_mem_cons.mpr ⟨lw_p6, List.forall_mem_cons.mpr ⟨lw_p7, List.forall_mem_cons.mpr ⟨lw_p8, List.forall_mem_cons.mpr ⟨lw_p9, List.forall_mem_cons.mpr ⟨lw_p10, List.forall_mem_cons.mpr ⟨lw_p11, List.forall_mem_cons.mpr ⟨lw_p12, List.forall_mem_cons.mpr ⟨lw_p13, List.forall_mem_cons.mpr ⟨lw_p14, List.forall_mem_cons.mpr ⟨lw_p15, fun _ h => absurd h List.not_mem_nil⟩⟩⟩⟩⟩⟩⟩⟩⟩⟩⟩⟩⟩⟩⟩⟩
theorem lw_p16 : lw_okq (⟨"DropRowsModel", "findRows", "()V"⟩, 23) := ⟨⟨by decide +kernel, by decide +kernel⟩, List.mem_of_getElem? (i := 528) (by decide +kernel), List.mem_of_getElem? (i := 539) (by decide +kernel), List.mem_of_getElem? (i := 540) (by decide +kernel)⟩
theorem lw_p17 : lw_okq (⟨"DropRowsModel", "squaresOf", "(IIII)I"⟩, 23) := ⟨⟨by decide +kernel, by decide +kernel⟩, List.mem_of_getElem? (i := 528) (by decide +kernel), List.mem_of_getElem? (i := 543) (by decide +kernel), List.mem_of_getElem? (i := 544) (by decide +kernel)⟩
theorem lw_p18 : lw_okq (⟨"DropRowsModel", "addRow", "(I)V"⟩, 23) := ⟨⟨by decide +kernel, by decide +kernel⟩, List.mem_of_getElem? (i := 528) (by decide +kernel), List.mem_of_getElem? (i := 550) (by decide +kernel), List.mem_of_getElem? (i := 551) (by decide +kernel)⟩
theorem lw_p19 : lw_okq (⟨"DropRowsModel", "goUp", "()V"⟩, 23) := ⟨⟨by decide +kernel, by decide +kernel⟩, List.mem_of_getElem? (i := 528) (by decide +kernel), List.mem_of_getElem? (i := 554) (by decide +kernel), List.mem_of_getElem? (i := 555) (by decide +kernel)⟩
theorem lw_p20 : lw_okq (⟨"DropRowsModel", "keys", "()I"⟩, 23) := ⟨⟨by decide +kernel, by decide +kernel⟩, List.mem_of_getElem? (i := 528) (by decide +kernel), List.mem_of_getElem? (i := 558) (by decide +kernel), List.mem_of_getElem? (i := 559) (by decide +kernel)⟩
theorem lw_p21 : lw_okq (⟨"DropRowsModel", "keyOfNone", "()I"⟩, 23) := ⟨⟨by decide +kernel, by decide +kernel⟩, List.mem_of_getElem? (i := 528) (by decide +kernel), List.mem_of_getElem? (i := 562) (by decide +kernel), List.mem_of_getElem? (i := 563) (by decide +kernel)⟩
theorem lw_p22 : lw_okq (⟨"DropRowsModel", "decode", "(I)V"⟩, 23) := ⟨⟨by decide +kernel, by decide +kernel⟩, List.mem_of_getElem? (i := 528) (by decide +kernel), List.mem_of_getElem? (i := 566) (by decide +kernel), List.mem_of_getElem? (i := 567) (by decide +kernel)⟩
theorem lw_p23 : lw_okq (⟨"DropRowsModel", "heightOf", "(II)I"⟩, 23) := ⟨⟨by decide +kernel, by decide +kernel⟩, List.mem_of_getElem? (i := 528) (by decide +kernel), List.mem_of_getElem? (i := 570) (by decide +kernel), List.mem_of_getElem? (i := 571) (by decide +kernel)⟩
theorem lw_p24 : lw_okq (⟨"DropRowsModel", "columnOf", "(II)I"⟩, 23) := ⟨⟨by decide +kernel, by decide +kernel⟩, List.mem_of_getElem? (i := 528) (by decide +kernel), List.mem_of_getElem? (i := 574) (by decide +kernel), List.mem_of_getElem? (i := 575) (by decide +kernel)⟩
theorem lw_p25 : lw_okq (⟨"DropRowsModel", "has", "(I)Z"⟩, 23) := ⟨⟨by decide +kernel, by decide +kernel⟩, List.mem_of_getElem? (i := 528) (by decide +kernel), List.mem_of_getElem? (i := 578) (by decide +kernel), List.mem_of_getElem? (i := 579) (by decide +kernel)⟩
theorem lw_p26 : lw_okq (⟨"DropRowsModel", "dropped", "(III)I"⟩, 23) := ⟨⟨by decide +kernel, by decide +kernel⟩, List.mem_of_getElem? (i := 528) (by decide +kernel), List.mem_of_getElem? (i := 582) (by decide +kernel), List.mem_of_getElem? (i := 583) (by decide +kernel)⟩
theorem lw_p27 : lw_okq (⟨"DropRowsModel", "goDown", "()V"⟩, 23) := ⟨⟨by decide +kernel, by decide +kernel⟩, List.mem_of_getElem? (i := 528) (by decide +kernel), List.mem_of_getElem? (i := 586) (by decide +kernel), List.mem_of_getElem? (i := 587) (by decide +kernel)⟩
theorem lw_p28 : lw_okq (⟨"DropRowsModel", "greatest", "(II)I"⟩, 23) := ⟨⟨by decide +kernel, by decide +kernel⟩, List.mem_of_getElem? (i := 528) (by decide +kernel), List.mem_of_getElem? (i := 590) (by decide +kernel), List.mem_of_getElem? (i := 591) (by decide +kernel)⟩
theorem lw_p29 : lw_okq (⟨"DropRowsModel", "worthBy", "(III)I"⟩, 23) := ⟨⟨by decide +kernel, by decide +kernel⟩, List.mem_of_getElem? (i := 528) (by decide +kernel), List.mem_of_getElem? (i := 594) (by decide +kernel), List.mem_of_getElem? (i := 595) (by decide +kernel)⟩
theorem lw_p30 : lw_okq (⟨"DropRowsModel", "place", "()V"⟩, 23) := ⟨⟨by decide +kernel, by decide +kernel⟩, List.mem_of_getElem? (i := 528) (by decide +kernel), List.mem_of_getElem? (i := 598) (by decide +kernel), List.mem_of_getElem? (i := 599) (by decide +kernel)⟩
theorem lw_p31 : lw_okq (⟨"DropRowsModel", "isFree", "(I)Z"⟩, 23) := ⟨⟨by decide +kernel, by decide +kernel⟩, List.mem_of_getElem? (i := 528) (by decide +kernel), List.mem_of_getElem? (i := 685) (by decide +kernel), List.mem_of_getElem? (i := 686) (by decide +kernel)⟩
def lw_privs_2 : List (MethodName × Nat) := [(⟨"DropRowsModel", "findRows", "()V"⟩, 23), (⟨"DropRowsModel", "squaresOf", "(IIII)I"⟩, 23), (⟨"DropRowsModel", "addRow", "(I)V"⟩, 23), (⟨"DropRowsModel", "goUp", "()V"⟩, 23), (⟨"DropRowsModel", "keys", "()I"⟩, 23), (⟨"DropRowsModel", "keyOfNone", "()I"⟩, 23), (⟨"DropRowsModel", "decode", "(I)V"⟩, 23), (⟨"DropRowsModel", "heightOf", "(II)I"⟩, 23), (⟨"DropRowsModel", "columnOf", "(II)I"⟩, 23), (⟨"DropRowsModel", "has", "(I)Z"⟩, 23), (⟨"DropRowsModel", "dropped", "(III)I"⟩, 23), (⟨"DropRowsModel", "goDown", "()V"⟩, 23), (⟨"DropRowsModel", "greatest", "(II)I"⟩, 23), (⟨"DropRowsModel", "worthBy", "(III)I"⟩, 23), (⟨"DropRowsModel", "place", "()V"⟩, 23), (⟨"DropRowsModel", "isFree", "(I)Z"⟩, 23)]
theorem lw_r2 : ∀ q ∈ lw_privs_2, lw_okq q := List.forall_mem_cons.mpr ⟨lw_p16, List.forall_mem_cons.mpr ⟨lw_p17, List.forall_mem_cons.mpr ⟨lw_p18, List.forall_mem_cons.mpr ⟨lw_p19, List.forall_mem_cons.mpr ⟨lw_p20, List.forall_mem_cons.mpr ⟨lw_p21, List.forall_mem_cons.mpr ⟨lw_p22, List.forall_mem_cons.mpr ⟨lw_p23, List.forall_mem_cons.mpr ⟨lw_p24, List.forall_mem_cons.mpr ⟨lw_p25, List.forall_mem_cons.mpr ⟨lw_p26, List.forall_mem_cons.mpr ⟨lw_p27, List.forall_mem_cons.mpr ⟨lw_p28, List.forall_mem_cons.mpr ⟨lw_p29, List.forall_mem_cons.mpr ⟨lw_p30, List.forall_mem_cons.mpr ⟨lw_p31, fun _ h => absurd h List.not_mem_nil⟩⟩⟩⟩⟩⟩⟩⟩⟩⟩⟩⟩⟩⟩⟩⟩
theorem lw_p32 : lw_okq (⟨"DropRowsModel", "isOver", "()Z"⟩, 23) := ⟨⟨by decide +kernel, by decide +kernel⟩, List.mem_of_getElem? (i := 528) (by decide +kernel), List.mem_of_getElem? (i := 689) (by decide +kernel), List.mem_of_getElem? (i := 690) (by decide +kernel)⟩
theorem lw_p33 : lw_okq (⟨"DropRowsModel", "go", "(I)V"⟩, 23) := ⟨⟨by decide +kernel, by decide +kernel⟩, List.mem_of_getElem? (i := 528) (by decide +kernel), List.mem_of_getElem? (i := 693) (by decide +kernel), List.mem_of_getElem? (i := 694) (by decide +kernel)⟩
theorem lw_p34 : lw_okq (⟨"DropRowsModel", "bestMove", "()I"⟩, 23) := ⟨⟨by decide +kernel, by decide +kernel⟩, List.mem_of_getElem? (i := 528) (by decide +kernel), List.mem_of_getElem? (i := 735) (by decide +kernel), List.mem_of_getElem? (i := 736) (by decide +kernel)⟩
theorem lw_p35 : lw_okq (⟨"DropRowsModel", "threatsOf", "(I)I"⟩, 23) := ⟨⟨by decide +kernel, by decide +kernel⟩, List.mem_of_getElem? (i := 528) (by decide +kernel), List.mem_of_getElem? (i := 768) (by decide +kernel), List.mem_of_getElem? (i := 769) (by decide +kernel)⟩
theorem lw_p36 : lw_okq (⟨"DropRowsModel", "sortOf", "(IIII)I"⟩, 23) := ⟨⟨by decide +kernel, by decide +kernel⟩, List.mem_of_getElem? (i := 528) (by decide +kernel), List.mem_of_getElem? (i := 780) (by decide +kernel), List.mem_of_getElem? (i := 781) (by decide +kernel)⟩
theorem lw_p37 : lw_okq (⟨"DropRowsModel", "met", "(I)I"⟩, 23) := ⟨⟨by decide +kernel, by decide +kernel⟩, List.mem_of_getElem? (i := 528) (by decide +kernel), List.mem_of_getElem? (i := 792) (by decide +kernel), List.mem_of_getElem? (i := 793) (by decide +kernel)⟩
theorem lw_p38 : lw_okq (⟨"DropRowsModel", "lacks", "(III)I"⟩, 23) := ⟨⟨by decide +kernel, by decide +kernel⟩, List.mem_of_getElem? (i := 528) (by decide +kernel), List.mem_of_getElem? (i := 804) (by decide +kernel), List.mem_of_getElem? (i := 805) (by decide +kernel)⟩
def lw_privs_3 : List (MethodName × Nat) := [(⟨"DropRowsModel", "isOver", "()Z"⟩, 23), (⟨"DropRowsModel", "go", "(I)V"⟩, 23), (⟨"DropRowsModel", "bestMove", "()I"⟩, 23), (⟨"DropRowsModel", "threatsOf", "(I)I"⟩, 23), (⟨"DropRowsModel", "sortOf", "(IIII)I"⟩, 23), (⟨"DropRowsModel", "met", "(I)I"⟩, 23), (⟨"DropRowsModel", "lacks", "(III)I"⟩, 23)]
theorem lw_r3 : ∀ q ∈ lw_privs_3, lw_okq q := List.forall_mem_cons.mpr ⟨lw_p32, List.forall_mem_cons.mpr ⟨lw_p33, List.forall_mem_cons.mpr ⟨lw_p34, List.forall_mem_cons.mpr ⟨lw_p35, List.forall_mem_cons.mpr ⟨lw_p36, List.forall_mem_cons.mpr ⟨lw_p37, List.forall_mem_cons.mpr ⟨lw_p38, fun _ h => absurd h List.not_mem_nil⟩⟩⟩⟩⟩⟩⟩
def lw_privs : List (MethodName × Nat) := lw_privs_1 ++ (lw_privs_2 ++ (lw_privs_3))
def lw_tbl : List Cond := k2_sels lw_privs ++ tables_1
theorem lw_privs_ok : ∀ q ∈ lw_privs, lw_okq q := by
  show ∀ q ∈ lw_privs_1 ++ (lw_privs_2 ++ (lw_privs_3)), lw_okq q
  exact List.forall_mem_append.mpr ⟨lw_r1, List.forall_mem_append.mpr ⟨lw_r2, lw_r3⟩⟩
end
section
def RX0 : String := "DropRows$Game"
def TX0 : u_T := fun k => match k with
  | 0 => ("DropRows$Game", "grid", "LDropRows$Grid;", true)
  | 1 => ("DropRows$Game", "columns", "[I", true)
  | 2 => ("DropRows$Game", "men", "[I", true)
  | 3 => ("DropRows$Game", "heights", "[I", true)
  | _ => ("DropRows$Game", "moves", "I", false)
def tyX0 : Nat → FieldType := fun k => match k with
  | 0 => .object "DropRows$Grid"
  | 1 => .array .int
  | 2 => .array .int
  | 3 => .array .int
  | _ => .int
abbrev wsX00 : List Cond := u_ws RX0 TX0 5
theorem nmX0 : ∀ a, a < 5 → ∀ b, b < 5 → a ≠ b → (TX0 a).2.1 ≠ (TX0 b).2.1 := by decide +kernel
theorem tyX0_ok : ∀ k, k < 5 → parseFieldDescriptor (TX0 k).2.2.1 = some (tyX0 k) := by decide +kernel
abbrev cX0_init : ByteArray := prog_2_method_1_code
def yX0_init : MethodName := ⟨RX0, "<init>", "(LDropRows$Grid;)V"⟩
abbrev cX0_clear : ByteArray := prog_2_method_2_code
def yX0_clear : MethodName := ⟨RX0, "clear", "()V"⟩
abbrev cX0_follow : ByteArray := prog_2_method_3_code
def yX0_follow : MethodName := ⟨RX0, "follow", "(LDropRows$Game;)V"⟩
abbrev cX0_isOpen : ByteArray := prog_2_method_4_code
def yX0_isOpen : MethodName := ⟨RX0, "isOpen", "(I)Z"⟩
abbrev cX0_make : ByteArray := prog_2_method_5_code
def yX0_make : MethodName := ⟨RX0, "make", "(I)I"⟩
abbrev cX0_unmake : ByteArray := prog_2_method_6_code
def yX0_unmake : MethodName := ⟨RX0, "unmake", "()V"⟩
abbrev cX0_squareIn : ByteArray := prog_2_method_7_code
def yX0_squareIn : MethodName := ⟨RX0, "squareIn", "(I)I"⟩
abbrev cX0_side : ByteArray := prog_2_method_8_code
def yX0_side : MethodName := ⟨RX0, "side", "()I"⟩
abbrev cX0_state : ByteArray := prog_2_method_9_code
def yX0_state : MethodName := ⟨RX0, "state", "()I"⟩
abbrev cX0_isOver : ByteArray := prog_2_method_10_code
def yX0_isOver : MethodName := ⟨RX0, "isOver", "()Z"⟩
abbrev cX0_manOn : ByteArray := prog_2_method_11_code
def yX0_manOn : MethodName := ⟨RX0, "manOn", "(I)I"⟩
abbrev cX0_openColumns : ByteArray := prog_2_method_12_code
def yX0_openColumns : MethodName := ⟨RX0, "openColumns", "()I"⟩
abbrev cX0_threatsOf : ByteArray := prog_2_method_13_code
def yX0_threatsOf : MethodName := ⟨RX0, "threatsOf", "(I)I"⟩
abbrev cX0_isThreat : ByteArray := prog_2_method_14_code
def yX0_isThreat : MethodName := ⟨RX0, "isThreat", "(II)Z"⟩
abbrev cX0_waitingColumn : ByteArray := prog_2_method_15_code
def yX0_waitingColumn : MethodName := ⟨RX0, "waitingColumn", "()I"⟩
abbrev cX0_waitingSort : ByteArray := prog_2_method_16_code
def yX0_waitingSort : MethodName := ⟨RX0, "waitingSort", "(I)I"⟩
def RX1 : String := "DropRows$Grid"
def TX1 : u_T := fun k => match k with
  | 0 => ("DropRows$Grid", "width", "I", false)
  | 1 => ("DropRows$Grid", "height", "I", false)
  | 2 => ("DropRows$Grid", "length", "I", false)
  | 3 => ("DropRows$Grid", "squares", "I", false)
  | 4 => ("DropRows$Grid", "rowCount", "I", false)
  | 5 => ("DropRows$Grid", "joined", "Z", false)
  | 6 => ("DropRows$Grid", "rows", "[I", true)
  | 7 => ("DropRows$Grid", "through", "[I", true)
  | _ => ("DropRows$Grid", "throughCount", "[I", true)
def tyX1 : Nat → FieldType := fun k => match k with
  | 0 => .int
  | 1 => .int
  | 2 => .int
  | 3 => .int
  | 4 => .int
  | 5 => .boolean
  | 6 => .array .int
  | 7 => .array .int
  | _ => .array .int
abbrev wsX10 : List Cond := u_ws RX1 TX1 9
theorem nmX1 : ∀ a, a < 9 → ∀ b, b < 9 → a ≠ b → (TX1 a).2.1 ≠ (TX1 b).2.1 := by decide +kernel
theorem tyX1_ok : ∀ k, k < 9 → parseFieldDescriptor (TX1 k).2.2.1 = some (tyX1 k) := by decide +kernel
abbrev cX1_init : ByteArray := prog_3_method_1_code
def yX1_init : MethodName := ⟨RX1, "<init>", "()V"⟩
abbrev cX1_tell : ByteArray := prog_3_method_2_code
def yX1_tell : MethodName := ⟨RX1, "tell", "(IIIZ)V"⟩
abbrev cX1_rowFrom : ByteArray := prog_3_method_3_code
def yX1_rowFrom : MethodName := ⟨RX1, "rowFrom", "(IIII)I"⟩
abbrev cX1_beside : ByteArray := prog_3_method_4_code
def yX1_beside : MethodName := ⟨RX1, "beside", "(II)I"⟩
abbrev cX1_addRow : ByteArray := prog_3_method_5_code
def yX1_addRow : MethodName := ⟨RX1, "addRow", "(I)V"⟩
abbrev cX1_isRow : ByteArray := prog_3_method_6_code
def yX1_isRow : MethodName := ⟨RX1, "isRow", "(I)Z"⟩
abbrev cX1_hasRow : ByteArray := prog_3_method_7_code
def yX1_hasRow : MethodName := ⟨RX1, "hasRow", "(I)Z"⟩
abbrev cX1_hasRowThrough : ByteArray := prog_3_method_8_code
def yX1_hasRowThrough : MethodName := ⟨RX1, "hasRowThrough", "(II)Z"⟩
abbrev cX1_rowsWithout : ByteArray := prog_3_method_9_code
def yX1_rowsWithout : MethodName := ⟨RX1, "rowsWithout", "(I)I"⟩
abbrev cX1_firstRowOf : ByteArray := prog_3_method_10_code
def yX1_firstRowOf : MethodName := ⟨RX1, "firstRowOf", "(I)I"⟩
abbrev cX1_comesAhead : ByteArray := prog_3_method_11_code
def yX1_comesAhead : MethodName := ⟨RX1, "comesAhead", "(II)Z"⟩
abbrev cX1_imageOf : ByteArray := prog_3_method_12_code
def yX1_imageOf : MethodName := ⟨RX1, "imageOf", "(I)I"⟩
def RX2 : String := "DropRows$Sheet"
def TX2 : u_T := fun k => match k with
  | 0 => ("DropRows$Sheet", "lost", "Z", false)
  | 1 => ("DropRows$Sheet", "form", "I", false)
  | 2 => ("DropRows$Sheet", "size", "I", false)
  | _ => ("DropRows$Sheet", "items", "[I", true)
def tyX2 : Nat → FieldType := fun k => match k with
  | 0 => .boolean
  | 1 => .int
  | 2 => .int
  | _ => .array .int
abbrev wsX20 : List Cond := u_ws RX2 TX2 4
theorem nmX2 : ∀ a, a < 4 → ∀ b, b < 4 → a ≠ b → (TX2 a).2.1 ≠ (TX2 b).2.1 := by decide +kernel
theorem tyX2_ok : ∀ k, k < 4 → parseFieldDescriptor (TX2 k).2.2.1 = some (tyX2 k) := by decide +kernel
abbrev cX2_init : ByteArray := prog_4_method_1_code
def yX2_init : MethodName := ⟨RX2, "<init>", "()V"⟩
abbrev cX2_renew : ByteArray := prog_4_method_2_code
def yX2_renew : MethodName := ⟨RX2, "renew", "(II)V"⟩
abbrev cX2_findingAt : ByteArray := prog_4_method_3_code
def yX2_findingAt : MethodName := ⟨RX2, "findingAt", "(II)I"⟩
abbrev cX2_hasPart : ByteArray := prog_4_method_4_code
def yX2_hasPart : MethodName := ⟨RX2, "hasPart", "(II)Z"⟩
abbrev cX2_store : ByteArray := prog_4_method_5_code
def yX2_store : MethodName := ⟨RX2, "store", "(II)V"⟩
def RX3 : String := "DropRows$Solver"
def TX3 : u_T := fun k => match k with
  | 0 => ("DropRows$Solver", "grid", "LDropRows$Grid;", true)
  | 1 => ("DropRows$Solver", "powers", "[I", true)
  | 2 => ("DropRows$Solver", "codes", "[I", true)
  | 3 => ("DropRows$Solver", "heights", "[I", true)
  | 4 => ("DropRows$Solver", "tallies", "[[I", true)
  | 5 => ("DropRows$Solver", "kept", "[J", false)
  | 6 => ("DropRows$Solver", "isPrepared", "Z", false)
  | 7 => ("DropRows$Solver", "startMine", "I", false)
  | 8 => ("DropRows$Solver", "startOthers", "I", false)
  | 9 => ("DropRows$Solver", "startKey", "I", false)
  | 10 => ("DropRows$Solver", "startImage", "I", false)
  | _ => ("DropRows$Solver", "startMen", "I", false)
def tyX3 : Nat → FieldType := fun k => match k with
  | 0 => .object "DropRows$Grid"
  | 1 => .array .int
  | 2 => .array .int
  | 3 => .array .int
  | 4 => .array (.array .int)
  | 5 => .array .long
  | 6 => .boolean
  | 7 => .int
  | 8 => .int
  | 9 => .int
  | 10 => .int
  | _ => .int
abbrev wsX30 : List Cond := u_ws RX3 TX3 12
theorem nmX3 : ∀ a, a < 12 → ∀ b, b < 12 → a ≠ b → (TX3 a).2.1 ≠ (TX3 b).2.1 := by decide +kernel
theorem tyX3_ok : ∀ k, k < 12 → parseFieldDescriptor (TX3 k).2.2.1 = some (tyX3 k) := by decide +kernel
abbrev cX3_init : ByteArray := prog_5_method_1_code
def yX3_init : MethodName := ⟨RX3, "<init>", "(LDropRows$Grid;)V"⟩
abbrev cX3_forget : ByteArray := prog_5_method_2_code
def yX3_forget : MethodName := ⟨RX3, "forget", "()V"⟩
abbrev cX3_prepare : ByteArray := prog_5_method_3_code
def yX3_prepare : MethodName := ⟨RX3, "prepare", "()V"⟩
abbrev cX3_startEmpty : ByteArray := prog_5_method_4_code
def yX3_startEmpty : MethodName := ⟨RX3, "startEmpty", "()V"⟩
abbrev cX3_start : ByteArray := prog_5_method_5_code
def yX3_start : MethodName := ⟨RX3, "start", "(LDropRows$Game;)V"⟩
abbrev cX3_worthOfStart : ByteArray := prog_5_method_6_code
def yX3_worthOfStart : MethodName := ⟨RX3, "worthOfStart", "()I"⟩
abbrev cX3_worthOfMove : ByteArray := prog_5_method_7_code
def yX3_worthOfMove : MethodName := ⟨RX3, "worthOfMove", "(I)I"⟩
abbrev cX3_tally : ByteArray := prog_5_method_8_code
def yX3_tally : MethodName := ⟨RX3, "tally", "(II)I"⟩
abbrev cX3_search : ByteArray := prog_5_method_9_code
def yX3_search : MethodName := ⟨RX3, "search", "(IIIII)I"⟩
abbrev cX3_tryColumn : ByteArray := prog_5_method_10_code
def yX3_tryColumn : MethodName := ⟨RX3, "tryColumn", "(IIIIII)I"⟩
abbrev cX3_seenFromAhead : ByteArray := prog_5_method_11_code
def yX3_seenFromAhead : MethodName := ⟨RX3, "seenFromAhead", "(I)I"⟩
abbrev cX3_keptAt : ByteArray := prog_5_method_12_code
def yX3_keptAt : MethodName := ⟨RX3, "keptAt", "(I)I"⟩
abbrev cX3_keep : ByteArray := prog_5_method_13_code
def yX3_keep : MethodName := ⟨RX3, "keep", "(IIII)V"⟩
abbrev cX3_shareOf : ByteArray := prog_5_method_14_code
def yX3_shareOf : MethodName := ⟨RX3, "shareOf", "(I)I"⟩
def RX4 : String := "DropRows"
def TX4 : u_T := fun k => match k with
  | 0 => ("DropRows", "grid", "LDropRows$Grid;", true)
  | 1 => ("DropRows", "solver", "LDropRows$Solver;", true)
  | 2 => ("DropRows", "sheets", "[LDropRows$Sheet;", true)
  | 3 => ("DropRows", "current", "LDropRows$Game;", false)
  | 4 => ("DropRows", "spare", "LDropRows$Game;", false)
  | 5 => ("DropRows", "boardsTold", "I", false)
  | _ => ("DropRows", "latestFinding", "I", false)
def tyX4 : Nat → FieldType := fun k => match k with
  | 0 => .object "DropRows$Grid"
  | 1 => .object "DropRows$Solver"
  | 2 => .array (.object "DropRows$Sheet")
  | 3 => .object "DropRows$Game"
  | 4 => .object "DropRows$Game"
  | 5 => .int
  | _ => .int
abbrev wsX40 : List Cond := u_ws RX4 TX4 7
theorem nmX4 : ∀ a, a < 7 → ∀ b, b < 7 → a ≠ b → (TX4 a).2.1 ≠ (TX4 b).2.1 := by decide +kernel
theorem tyX4_ok : ∀ k, k < 7 → parseFieldDescriptor (TX4 k).2.2.1 = some (tyX4 k) := by decide +kernel
abbrev cX4_init : ByteArray := prog_1_method_1_code
def yX4_init : MethodName := ⟨RX4, "<init>", "()V"⟩
abbrev cX4_board : ByteArray := prog_1_method_2_code
def yX4_board : MethodName := ⟨RX4, "board", "(IIIZ)I"⟩
abbrev cX4_drop : ByteArray := prog_1_method_3_code
def yX4_drop : MethodName := ⟨RX4, "drop", "(I)I"⟩
abbrev cX4_back : ByteArray := prog_1_method_4_code
def yX4_back : MethodName := ⟨RX4, "back", "(I)I"⟩
abbrev cX4_move : ByteArray := prog_1_method_5_code
def yX4_move : MethodName := ⟨RX4, "move", "(I)I"⟩
abbrev cX4_at : ByteArray := prog_1_method_6_code
def yX4_at : MethodName := ⟨RX4, "at", "(I)I"⟩
abbrev cX4_game : ByteArray := prog_1_method_7_code
def yX4_game : MethodName := ⟨RX4, "game", "(I)I"⟩
abbrev cX4_won : ByteArray := prog_1_method_8_code
def yX4_won : MethodName := ⟨RX4, "won", "(I)I"⟩
abbrev cX4_worth : ByteArray := prog_1_method_9_code
def yX4_worth : MethodName := ⟨RX4, "worth", "()I"⟩
abbrev cX4_worthOf : ByteArray := prog_1_method_10_code
def yX4_worthOf : MethodName := ⟨RX4, "worthOf", "(I)I"⟩
abbrev cX4_best : ByteArray := prog_1_method_11_code
def yX4_best : MethodName := ⟨RX4, "best", "()I"⟩
abbrev cX4_as : ByteArray := prog_1_method_12_code
def yX4_as : MethodName := ⟨RX4, "as", "()I"⟩
abbrev cX4_play : ByteArray := prog_1_method_13_code
def yX4_play : MethodName := ⟨RX4, "play", "()I"⟩
abbrev cX4_positions : ByteArray := prog_1_method_14_code
def yX4_positions : MethodName := ⟨RX4, "positions", "(I)I"⟩
abbrev cX4_wins : ByteArray := prog_1_method_15_code
def yX4_wins : MethodName := ⟨RX4, "wins", "(I)I"⟩
abbrev cX4_share : ByteArray := prog_1_method_16_code
def yX4_share : MethodName := ⟨RX4, "share", "(II)I"⟩
abbrev cX4_even : ByteArray := prog_1_method_17_code
def yX4_even : MethodName := ⟨RX4, "even", "()I"⟩
abbrev cX4_threats : ByteArray := prog_1_method_18_code
def yX4_threats : MethodName := ⟨RX4, "threats", "(I)I"⟩
abbrev cX4_threat : ByteArray := prog_1_method_19_code
def yX4_threat : MethodName := ⟨RX4, "threat", "(II)I"⟩
abbrev cX4_waiting : ByteArray := prog_1_method_20_code
def yX4_waiting : MethodName := ⟨RX4, "waiting", "()I"⟩
abbrev cX4_sheet : ByteArray := prog_1_method_21_code
def yX4_sheet : MethodName := ⟨RX4, "sheet", "(III)I"⟩
abbrev cX4_lose : ByteArray := prog_1_method_22_code
def yX4_lose : MethodName := ⟨RX4, "lose", "(I)I"⟩
abbrev cX4_put : ByteArray := prog_1_method_23_code
def yX4_put : MethodName := ⟨RX4, "put", "(IIII)I"⟩
abbrev cX4_get : ByteArray := prog_1_method_24_code
def yX4_get : MethodName := ⟨RX4, "get", "(III)I"⟩
abbrev cX4_copy : ByteArray := prog_1_method_25_code
def yX4_copy : MethodName := ⟨RX4, "copy", "(IIIII)I"⟩
abbrev cX4_take : ByteArray := prog_1_method_26_code
def yX4_take : MethodName := ⟨RX4, "take", "(II)I"⟩
abbrev cX4_write : ByteArray := prog_1_method_27_code
def yX4_write : MethodName := ⟨RX4, "write", "(I)I"⟩
abbrev cX4_count : ByteArray := prog_1_method_28_code
def yX4_count : MethodName := ⟨RX4, "count", "(I)I"⟩
abbrev cX4_digest : ByteArray := prog_1_method_29_code
def yX4_digest : MethodName := ⟨RX4, "digest", "()J"⟩
abbrev cX4_isWithin : ByteArray := prog_1_method_30_code
def yX4_isWithin : MethodName := ⟨RX4, "isWithin", "(III)Z"⟩
abbrev cX4_isSheet : ByteArray := prog_1_method_31_code
def yX4_isSheet : MethodName := ⟨RX4, "isSheet", "(I)Z"⟩
abbrev cX4_isForm : ByteArray := prog_1_method_32_code
def yX4_isForm : MethodName := ⟨RX4, "isForm", "(I)Z"⟩
abbrev cX4_refuse : ByteArray := prog_1_method_33_code
def yX4_refuse : MethodName := ⟨RX4, "refuse", "(I)I"⟩
abbrev cX4_bestColumn : ByteArray := prog_1_method_34_code
def yX4_bestColumn : MethodName := ⟨RX4, "bestColumn", "()I"⟩
abbrev cX4_nthSquare : ByteArray := prog_1_method_35_code
def yX4_nthSquare : MethodName := ⟨RX4, "nthSquare", "(II)I"⟩
def RX5 : String := "DropRowsModel"
def TX5 : u_T := fun k => match k with
  | 0 => ("DropRowsModel", "w", "I", false)
  | 1 => ("DropRowsModel", "h", "I", false)
  | 2 => ("DropRowsModel", "k", "I", false)
  | 3 => ("DropRowsModel", "isJoined", "Z", false)
  | 4 => ("DropRowsModel", "boards", "I", false)
  | 5 => ("DropRowsModel", "rows", "I", false)
  | 6 => ("DropRowsModel", "row", "[I", true)
  | 7 => ("DropRowsModel", "table", "[B", true)
  | 8 => ("DropRowsModel", "come", "[I", true)
  | 9 => ("DropRowsModel", "won", "[I", true)
  | 10 => ("DropRowsModel", "above", "[I", true)
  | 11 => ("DropRowsModel", "even", "[I", true)
  | 12 => ("DropRowsModel", "under", "[I", true)
  | 13 => ("DropRowsModel", "men", "[I", true)
  | 14 => ("DropRowsModel", "count", "I", false)
  | 15 => ("DropRowsModel", "moves", "I", false)
  | 16 => ("DropRowsModel", "move", "[I", true)
  | 17 => ("DropRowsModel", "now", "I", false)
  | 18 => ("DropRowsModel", "forms", "[I", true)
  | 19 => ("DropRowsModel", "sizes", "[I", true)
  | 20 => ("DropRowsModel", "items", "[I", true)
  | 21 => ("DropRowsModel", "moved", "[I", true)
  | _ => ("DropRowsModel", "latest", "I", false)
def tyX5 : Nat → FieldType := fun k => match k with
  | 0 => .int
  | 1 => .int
  | 2 => .int
  | 3 => .boolean
  | 4 => .int
  | 5 => .int
  | 6 => .array .int
  | 7 => .array .byte
  | 8 => .array .int
  | 9 => .array .int
  | 10 => .array .int
  | 11 => .array .int
  | 12 => .array .int
  | 13 => .array .int
  | 14 => .int
  | 15 => .int
  | 16 => .array .int
  | 17 => .int
  | 18 => .array .int
  | 19 => .array .int
  | 20 => .array .int
  | 21 => .array .int
  | _ => .int
abbrev wsX50 : List Cond := u_ws RX5 TX5 23
theorem nmX5 : ∀ a, a < 23 → ∀ b, b < 23 → a ≠ b → (TX5 a).2.1 ≠ (TX5 b).2.1 := by decide +kernel
theorem tyX5_ok : ∀ k, k < 23 → parseFieldDescriptor (TX5 k).2.2.1 = some (tyX5 k) := by decide +kernel
abbrev cX5_init : ByteArray := prog_7_method_1_code
def yX5_init : MethodName := ⟨RX5, "<init>", "()V"⟩
abbrev cX5_in : ByteArray := prog_7_method_3_code
def yX5_in : MethodName := ⟨RX5, "in", "(JJJ)Z"⟩
abbrev cX5_board : ByteArray := prog_7_method_4_code
def yX5_board : MethodName := ⟨RX5, "board", "(IIIZ)I"⟩
abbrev cX5_begin : ByteArray := prog_7_method_5_code
def yX5_begin : MethodName := ⟨RX5, "begin", "(IIIZ)V"⟩
abbrev cX5_squaresOf : ByteArray := prog_7_method_6_code
def yX5_squaresOf : MethodName := ⟨RX5, "squaresOf", "(IIII)I"⟩
abbrev cX5_addRow : ByteArray := prog_7_method_7_code
def yX5_addRow : MethodName := ⟨RX5, "addRow", "(I)V"⟩
abbrev cX5_findRows : ByteArray := prog_7_method_8_code
def yX5_findRows : MethodName := ⟨RX5, "findRows", "()V"⟩
abbrev cX5_keyOfNone : ByteArray := prog_7_method_9_code
def yX5_keyOfNone : MethodName := ⟨RX5, "keyOfNone", "()I"⟩
abbrev cX5_columnOf : ByteArray := prog_7_method_10_code
def yX5_columnOf : MethodName := ⟨RX5, "columnOf", "(II)I"⟩
abbrev cX5_heightOf : ByteArray := prog_7_method_11_code
def yX5_heightOf : MethodName := ⟨RX5, "heightOf", "(II)I"⟩
abbrev cX5_dropped : ByteArray := prog_7_method_12_code
def yX5_dropped : MethodName := ⟨RX5, "dropped", "(III)I"⟩
abbrev cX5_decode : ByteArray := prog_7_method_13_code
def yX5_decode : MethodName := ⟨RX5, "decode", "(I)V"⟩
abbrev cX5_has : ByteArray := prog_7_method_14_code
def yX5_has : MethodName := ⟨RX5, "has", "(I)Z"⟩
abbrev cX5_keys : ByteArray := prog_7_method_15_code
def yX5_keys : MethodName := ⟨RX5, "keys", "()I"⟩
abbrev cX5_goUp : ByteArray := prog_7_method_16_code
def yX5_goUp : MethodName := ⟨RX5, "goUp", "()V"⟩
abbrev cX5_worthBy : ByteArray := prog_7_method_17_code
def yX5_worthBy : MethodName := ⟨RX5, "worthBy", "(III)I"⟩
abbrev cX5_greatest : ByteArray := prog_7_method_18_code
def yX5_greatest : MethodName := ⟨RX5, "greatest", "(II)I"⟩
abbrev cX5_goDown : ByteArray := prog_7_method_19_code
def yX5_goDown : MethodName := ⟨RX5, "goDown", "()V"⟩
abbrev cX5_place : ByteArray := prog_7_method_20_code
def yX5_place : MethodName := ⟨RX5, "place", "()V"⟩
abbrev cX5_isOver : ByteArray := prog_7_method_21_code
def yX5_isOver : MethodName := ⟨RX5, "isOver", "()Z"⟩
abbrev cX5_isFree : ByteArray := prog_7_method_22_code
def yX5_isFree : MethodName := ⟨RX5, "isFree", "(I)Z"⟩
abbrev cX5_drop : ByteArray := prog_7_method_23_code
def yX5_drop : MethodName := ⟨RX5, "drop", "(I)I"⟩
abbrev cX5_go : ByteArray := prog_7_method_24_code
def yX5_go : MethodName := ⟨RX5, "go", "(I)V"⟩
abbrev cX5_back : ByteArray := prog_7_method_25_code
def yX5_back : MethodName := ⟨RX5, "back", "(I)I"⟩
abbrev cX5_move : ByteArray := prog_7_method_26_code
def yX5_move : MethodName := ⟨RX5, "move", "(I)I"⟩
abbrev cX5_at : ByteArray := prog_7_method_27_code
def yX5_at : MethodName := ⟨RX5, "at", "(I)I"⟩
abbrev cX5_game : ByteArray := prog_7_method_28_code
def yX5_game : MethodName := ⟨RX5, "game", "(I)I"⟩
abbrev cX5_bitOf : ByteArray := prog_7_method_29_code
def yX5_bitOf : MethodName := ⟨RX5, "bitOf", "(II)I"⟩
abbrev cX5_isAhead : ByteArray := prog_7_method_30_code
def yX5_isAhead : MethodName := ⟨RX5, "isAhead", "(II)Z"⟩
abbrev cX5_won : ByteArray := prog_7_method_31_code
def yX5_won : MethodName := ⟨RX5, "won", "(I)I"⟩
abbrev cX5_worth : ByteArray := prog_7_method_32_code
def yX5_worth : MethodName := ⟨RX5, "worth", "()I"⟩
abbrev cX5_worthOf : ByteArray := prog_7_method_33_code
def yX5_worthOf : MethodName := ⟨RX5, "worthOf", "(I)I"⟩
abbrev cX5_bestMove : ByteArray := prog_7_method_34_code
def yX5_bestMove : MethodName := ⟨RX5, "bestMove", "()I"⟩
abbrev cX5_best : ByteArray := prog_7_method_35_code
def yX5_best : MethodName := ⟨RX5, "best", "()I"⟩
abbrev cX5_as : ByteArray := prog_7_method_36_code
def yX5_as : MethodName := ⟨RX5, "as", "()I"⟩
abbrev cX5_play : ByteArray := prog_7_method_37_code
def yX5_play : MethodName := ⟨RX5, "play", "()I"⟩
abbrev cX5_positions : ByteArray := prog_7_method_38_code
def yX5_positions : MethodName := ⟨RX5, "positions", "(I)I"⟩
abbrev cX5_wins : ByteArray := prog_7_method_39_code
def yX5_wins : MethodName := ⟨RX5, "wins", "(I)I"⟩
abbrev cX5_share : ByteArray := prog_7_method_40_code
def yX5_share : MethodName := ⟨RX5, "share", "(II)I"⟩
abbrev cX5_even : ByteArray := prog_7_method_41_code
def yX5_even : MethodName := ⟨RX5, "even", "()I"⟩
abbrev cX5_threatsOf : ByteArray := prog_7_method_42_code
def yX5_threatsOf : MethodName := ⟨RX5, "threatsOf", "(I)I"⟩
abbrev cX5_threats : ByteArray := prog_7_method_43_code
def yX5_threats : MethodName := ⟨RX5, "threats", "(I)I"⟩
abbrev cX5_threat : ByteArray := prog_7_method_44_code
def yX5_threat : MethodName := ⟨RX5, "threat", "(II)I"⟩
abbrev cX5_sortOf : ByteArray := prog_7_method_45_code
def yX5_sortOf : MethodName := ⟨RX5, "sortOf", "(IIII)I"⟩
abbrev cX5_waiting : ByteArray := prog_7_method_46_code
def yX5_waiting : MethodName := ⟨RX5, "waiting", "()I"⟩
abbrev cX5_met : ByteArray := prog_7_method_47_code
def yX5_met : MethodName := ⟨RX5, "met", "(I)I"⟩
abbrev cX5_isSheet : ByteArray := prog_7_method_48_code
def yX5_isSheet : MethodName := ⟨RX5, "isSheet", "(I)Z"⟩
abbrev cX5_sheet : ByteArray := prog_7_method_49_code
def yX5_sheet : MethodName := ⟨RX5, "sheet", "(III)I"⟩
abbrev cX5_lose : ByteArray := prog_7_method_50_code
def yX5_lose : MethodName := ⟨RX5, "lose", "(I)I"⟩
abbrev cX5_lacks : ByteArray := prog_7_method_51_code
def yX5_lacks : MethodName := ⟨RX5, "lacks", "(III)I"⟩
abbrev cX5_cut : ByteArray := prog_7_method_52_code
def yX5_cut : MethodName := ⟨RX5, "cut", "(II)I"⟩
abbrev cX5_put : ByteArray := prog_7_method_53_code
def yX5_put : MethodName := ⟨RX5, "put", "(IIII)I"⟩
abbrev cX5_get : ByteArray := prog_7_method_54_code
def yX5_get : MethodName := ⟨RX5, "get", "(III)I"⟩
abbrev cX5_copy : ByteArray := prog_7_method_55_code
def yX5_copy : MethodName := ⟨RX5, "copy", "(IIIII)I"⟩
abbrev cX5_take : ByteArray := prog_7_method_56_code
def yX5_take : MethodName := ⟨RX5, "take", "(II)I"⟩
abbrev cX5_write : ByteArray := prog_7_method_57_code
def yX5_write : MethodName := ⟨RX5, "write", "(I)I"⟩
abbrev cX5_count : ByteArray := prog_7_method_58_code
def yX5_count : MethodName := ⟨RX5, "count", "(I)I"⟩
abbrev cX5_digest : ByteArray := prog_7_method_59_code
def yX5_digest : MethodName := ⟨RX5, "digest", "()J"⟩
def RJ6 : String := "java/lang/Integer"
abbrev cJ6_bitCount_0f7a4 : ByteArray := prog_8_method_49_code
def yJ6_bitCount_0f7a4 : MethodName := ⟨RJ6, "bitCount", "(I)I"⟩
def RJ9 : String := "java/lang/Math"
abbrev cJ9_min_7cf53 : ByteArray := prog_9_method_69_code
def yJ9_min_7cf53 : MethodName := ⟨RJ9, "min", "(II)I"⟩
def RJ10 : String := "java/lang/System"
def RJ7 : String := "java/util/Arrays"
abbrev cJ7_rangeCheck_23922 : ByteArray := prog_11_method_30_code
def yJ7_rangeCheck_23922 : MethodName := ⟨RJ7, "rangeCheck", "(III)V"⟩
abbrev cJ7_fill_bad5a : ByteArray := prog_11_method_102_code
def yJ7_fill_bad5a : MethodName := ⟨RJ7, "fill", "([JIIJ)V"⟩
abbrev cJ7_fill_53178 : ByteArray := prog_11_method_103_code
def yJ7_fill_53178 : MethodName := ⟨RJ7, "fill", "([II)V"⟩
def RL : String := "DropRowsLaw"
abbrev cL_law : ByteArray := code
def yL_law : MethodName := ⟨RL, "law", "([I)Z"⟩
end
section
/-! the words of the tables that a call may carry, the classes of the worlds, and one row for a method's entry, its end, a call -/
def kc_TB : List Cond := lw_tbl.filter goodWord
abbrev classes : List vw_C := [(RX0, TX0, 5), (RX1, TX1, 9), (RX2, TX2, 4), (RX3, TX3, 12), (RX4, TX4, 7), (RX5, TX5, 23)]
def kc_TY (cx : Nat → ClassId) : List (ClassId × FieldType) := [(cx 0, .int), (cx 1, .byte), (cx 2, .long), (cx 3, .object RX2), (cx 4, .array .int)]
theorem kc_in {w : Cond} (i : Nat) (h : lw_tbl[i]? = some w) (hg : goodWord w = true) : w ∈ kc_TB := List.mem_filter.mpr ⟨List.mem_of_getElem? h, hg⟩
theorem kc_tbl {w : Cond} (h : w ∈ kc_TB) : w ∈ lw_tbl := (List.mem_filter.mp h).1
theorem kc_all {ws : List Cond} (h : ∀ w ∈ ws, w ∈ kc_TB) : GoodIn kc_TB ws := fun w hw => ⟨h w hw, good_of_word (List.mem_filter.mp (h w hw)).2⟩
theorem kc_gI {cd : Cond} (h5 : cd ∈ kc_TB) : GoodIn kc_TB (cd :: kc_TB) := kc_all (fun w hw => by
  rcases List.mem_cons.mp hw with e | e
  · rw [e]; exact h5
  · exact e)
theorem kc_gV {own C : String} {idx : Nat} {y : MethodName} {cd : Cond} (h1 : Cond.methodLink own idx y ∈ kc_TB) (h2 : Cond.instanceMethod y ∈ kc_TB) (h3 : Cond.selects C y y ∈ kc_TB) (h4 : Cond.initialized C ∈ kc_TB) (h5 : cd ∈ kc_TB) : GoodIn kc_TB (wsV own idx C y (cd :: kc_TB)) := kc_all (fun w hw => by
  rcases List.mem_append.mp hw with hw | hw
  · simp only [List.mem_cons, List.not_mem_nil, or_false] at hw
    rcases hw with e | e | e | e <;> rw [e] <;> assumption
  · rcases List.mem_cons.mp hw with e | e
    · rw [e]; exact h5
    · exact e)
theorem kc_gS {own : String} {idx : Nat} {y : MethodName} {cd : Cond} (h1 : Cond.methodLink own idx y ∈ kc_TB) (h2 : Cond.static y ∈ kc_TB) (h4 : Cond.initialized own ∈ kc_TB) (h5 : cd ∈ kc_TB) : GoodIn kc_TB (wsS own idx y (cd :: kc_TB)) := kc_all (fun w hw => by
  rcases List.mem_append.mp hw with hw | hw
  · simp only [List.mem_cons, List.not_mem_nil, or_false] at hw
    rcases hw with e | e | e <;> rw [e] <;> assumption
  · rcases List.mem_cons.mp hw with e | e
    · rw [e]; exact h5
    · exact e)
/-- the links over the nest -/
def kc_NW (U : State) : Prop := va_Nw (.methodLinkNest RX0 47 yX4_isWithin RX4) U ∧ va_Nw (.methodLinkNest RX3 103 yX4_isWithin RX4) U ∧ va_Nw (.methodLinkNest RX2 32 yX4_isWithin RX4) U
theorem kc_NW_same {u U : State} (h : u.vm = U.vm) (q : kc_NW u) : kc_NW U := ⟨va_Nw.same rfl h q.1, va_Nw.same rfl h q.2.1, va_Nw.same rfl h q.2.2⟩
theorem kc_NW_warm {s U : State} (hW : s.WarmedH U.vm) (q : kc_NW s) : kc_NW U := ⟨va_Nw.warmM hW q.1, va_Nw.warmM hW q.2.1, va_Nw.warmM hW q.2.2⟩
def kc_Pre (D : va_G) (cx : Nat → ClassId) (w : va_W) (av : List Value) (sz : Nat) : Array Value → State → Prop := va_Pc av (fun U => U.heap.size = sz ∧ va_P D classes w U.heap ∧ va_K D classes (kc_TY cx) U ∧ va_D (fun _ => True) w ∧ kc_NW U)
def kc_Pi {S : Type} (D : va_G) (w : S → va_W) (r : Int32) (A : Nat → Prop) : Array Value → State → Outcome → State → Prop := va_Qi (fun x (_ : S) => x = r) (fun u t => va_P D classes (w u) t.heap ∧ va_D A (w u)) A
def kc_Pl {S : Type} (D : va_G) (w : S → va_W) (r : Int64) (A : Nat → Prop) : Array Value → State → Outcome → State → Prop := va_Ql (fun x (_ : S) => x = r) (fun u t => va_P D classes (w u) t.heap ∧ va_D A (w u)) A
def kc_Pv {S : Type} (D : va_G) (w : S → va_W) (A : Nat → Prop) : Array Value → State → Outcome → State → Prop := va_Qv (fun (_ : S) => True) (fun u t => va_P D classes (w u) t.heap ∧ va_D A (w u)) A
theorem kc_blind (D : va_G) (cx : Nat → ClassId) (w : va_W) (av : List Value) (sz : Nat) : FrameBlind (kc_Pre D cx w av sz) := fun a U g mk q => by
  obtain ⟨q0, q1, qP, qK, qD, qN⟩ := q
  exact ⟨q0, q1, qP, va_K.moved (u := U) (U := U.calling g mk a) (Vm.Alike.refl U.vm) qK, qD, kc_NW_same rfl qN⟩
theorem kc_pre {D : va_G} {cx : Nat → ClassId} {s : State} {H : Heap} {w : va_W} {A : Nat → Prop} (av : List Value) (hK : va_K D classes (kc_TY cx) s) (hN : kc_NW s) (hP : va_P D classes w H) (hD : va_D A w) : ∀ U : State, U.heap = H → s.WarmedH U.vm → kc_Pre D cx w av H.size av.toArray U :=
  fun U hU hW => ⟨rfl, by rw [hU], by rw [hU]; exact hP, va_K.moved hW.alike hK, hD.weaken (fun _ _ _ _ => trivial), kc_NW_warm hW hN⟩
/-- a method's entry -/
theorem kc_entry {l : Launch} {y : MethodName} {cc : ByteArray} {maxL : Nat} {ret : Option FieldType} {rm : Room} {D : va_G} {cx : Nat → ClassId} {w : va_W} {av : List Value} {sz mc ms : Nat} {Qc : (Nat → Prop) → Array Value → State → Outcome → State → Prop} (hy : plainName y.cls = true) (hn : (lg_sl av).length ≤ maxL)
    (body : ∀ (p : Program) (e : Env) (s : State) (m : MethodId) (below : List Frame) (meth : Method) (c : Code) (A : Nat → Prop), p.tables.exec = Jvm.exec → c.code = cc → meth.sig.returnType = ret → meth.locks = false → c.maxLocals = maxL → s.vm.findClass y.cls = some m.cls → meth.name = y.name → (∀ w ∈ kc_TB, w.before av.toArray s = true) → kc_NW s → va_K D classes (kc_TY cx) s → va_P D classes w s.heap → va_D A w → va_S A s.heap s.heap [] → (∀ q, s.heap.size ≤ q → A q) → ∀ ls : Array Slot, lv_has ls maxL (lv_args 0 av) →
      W p l e rm s m av.toArray below meth c s.heap [] 0 0 (MQ below (Qc A) av.toArray s mc ms A) (F0 m 0 ls [])) :
    Met l y (.code y cc maxL ret :: kc_TB) rm (kc_Pre D cx w av sz) (Qc (va_A w sz)) mc ms (va_A w sz) := by
  refine Met.ofW (cc := cc) (maxL := maxL) (ret := ret) hy rfl ?_
  intro p e s m args below meth c s₁ B hml hv
  obtain ⟨rfl, hsz, hP, hK, hD0, hN⟩ := hv
  have hts := atoms_spec (ws := .code y cc maxL ret :: kc_TB) B.pre
  subst hsz
  have hl := lv_entry av (n := maxL) hn
  rw [lg_entry_eq]
  exact body p e s m below meth c (va_A w s.heap.size) B.exec B.bytes B.returns B.notSynchronized hml (findClass_of_methodNamed B.named) (name_of_methodNamed B.named B.method).1 (fun w hw => hts w (List.mem_cons_of_mem _ hw)) hN hK hP (hD0.self (sz := s.heap.size)) va_S.rf (fun q h => Or.inr h) _ hl
section KC
variable {p : Program} {l : Launch} {e : Env} {R : Room} {s : State} {m : MethodId} {args : Array Value} {below : List Frame} {meth : Method} {c : Code} {H : Heap} {locs : List Loc} {cells slots : Nat} {Q : State → Prop} {cc : ByteArray} {D : va_G} {A : Nat → Prop} {pc : Nat} {ls : Array Slot}
theorem kc_iret {S : Type} {w : S → va_W} {r v : Int32} (u : S) (hx : p.tables.exec = Jvm.exec) (hb : c.code = cc) (hr : meth.sig.returnType = some .int) (hk : meth.locks = false) (hP : va_P D classes (w u) H) (hD : va_D A (w u)) (hS : va_S A s.heap H locs) (hv : v = r) (hdg : decode cc pc = .ok (.ireturn, 1)) : W p l e R s m args below meth c H locs cells slots (MQ below (kc_Pi D w r A) args s cells slots A) (F0 m pc ls [.int v]) :=
  W.iret (v := v) hx hb hr (fun t ht _ => ⟨⟨v, u, rfl, hv, by rw [ht]; exact hP, hD⟩, hS.F ht⟩) hS.2.2 hdg
theorem kc_zret {S : Type} {w : S → va_W} {r v : Int32} (u : S) (hx : p.tables.exec = Jvm.exec) (hb : c.code = cc) (hr : meth.sig.returnType = some .boolean) (hk : meth.locks = false) (hP : va_P D classes (w u) H) (hD : va_D A (w u)) (hS : va_S A s.heap H locs) (hv : v = r) (hn : narrow .boolean (.int v) = .int v) (hdg : decode cc pc = .ok (.ireturn, 1)) : W p l e R s m args below meth c H locs cells slots (MQ below (kc_Pi D w r A) args s cells slots A) (F0 m pc ls [.int v]) :=
  W.zret (v := v) hx hb hr hn (fun t ht _ => ⟨⟨v, u, rfl, hv, by rw [ht]; exact hP, hD⟩, hS.F ht⟩) hS.2.2 hdg
theorem kc_lret {S : Type} {w : S → va_W} {r v : Int64} (u : S) (hx : p.tables.exec = Jvm.exec) (hb : c.code = cc) (hr : meth.sig.returnType = some .long) (hk : meth.locks = false) (hP : va_P D classes (w u) H) (hD : va_D A (w u)) (hS : va_S A s.heap H locs) (hv : v = r) (hdg : decode cc pc = .ok (.lreturn, 1)) : W p l e R s m args below meth c H locs cells slots (MQ below (kc_Pl D w r A) args s cells slots A) (F0 m pc ls [.long v]) :=
  W.lret (v := v) hx hb hr (fun t ht _ => ⟨⟨v, u, rfl, hv, by rw [ht]; exact hP, hD⟩, hS.F ht⟩) hS.2.2 hdg
theorem kc_vret {S : Type} {w : S → va_W} (u : S) (hx : p.tables.exec = Jvm.exec) (hb : c.code = cc) (hr : meth.sig.returnType = none) (hk : meth.locks = false) (hP : va_P D classes (w u) H) (hD : va_D A (w u)) (hS : va_S A s.heap H locs) (hdg : decode cc pc = .ok (.return_, 1)) : W p l e R s m args below meth c H locs cells slots (MQ below (kc_Pv D w A) args s cells slots A) (F0 m pc ls []) :=
  W.vret hx hb hr (fun t ht _ => ⟨⟨u, rfl, trivial, by rw [ht]; exact hP, hD⟩, hS.F ht⟩) hS.2.2 hdg
end KC
theorem kc_fm {α β : Type} {f : α → Option β} {l : List α} {r : List β} (h : l.map f = r.map some) : l.filterMap f = r := by
  have h1 : (l.map f).filterMap id = (r.map some).filterMap id := by rw [h]
  rw [List.filterMap_map, List.filterMap_map] at h1
  simpa using h1
/-- what came back beside the rest, in the order of the new world -/
theorem kc_join {A0 : Nat → Prop} {D : va_G} {ws wc w1 w' : va_W} {H H1 : Heap} (hP : va_P D classes ws H) (hD : va_D A0 ws) (isC isR pm : List Nat) (hC : isC.map (fun i => ws[i]?) = wc.map some) (hR : isR.map (fun i => ws[i]?) = (isR.filterMap (fun i => ws[i]?)).map some) (hn : va_nd isR = true) (hdis : ∀ i ∈ isR, i ∉ isC)
    (hp : pm.map (fun i => (isR.filterMap (fun i => ws[i]?) ++ w1)[i]?) = w'.map some) (hpn : va_nd pm = true) (hk : ∀ q : Nat, q < H.size → ¬ va_A wc H.size q → H1[q]? = H[q]?) (hF : ∀ q, va_A wc H.size q → A0 q) (hP1 : va_P D classes w1 H1) (hD1 : va_D (va_A wc H.size) w1) : va_P D classes w' H1 ∧ va_D A0 w' := by
  obtain ⟨a, b⟩ := va_join hP hD isC isR hC hR hn hdis hk hF hP1 hD1
  exact ⟨a.sub pm (kc_fm hp), b.sub pm hpn hp⟩
section KD
variable {p : Program} {l : Launch} {e : Env} {R : Room} {s : State} {m : MethodId} {args : Array Value} {below : List Frame} {meth : Method} {c : Code} {H H0 : Heap} {locs : List Loc} {cells slots mc ms : Nat} {Q : State → Prop} {D : va_G} {A0 : Nat → Prop} {pc : Nat} {ls : Array Slot} {st0 rest : List Value} {a : Array Value} {S : Type} {ws wc : va_W}
theorem kc_calli {r : Int32} {w1 wn : S → va_W} (hr : va_Run p l e R s m args below meth c H locs cells slots mc ms (F0 m pc ls st0) rest (kc_Pi D w1 r (va_A wc H.size) a) (va_A wc H.size)) (hP : va_P D classes ws H) (hD : va_D A0 ws) (hS : va_S A0 H0 H locs) (hA : ∀ q, H0.size ≤ q → A0 q) (isC isR pm : List Nat) (hC : isC.map (fun i => ws[i]?) = wc.map some) (hR : isR.map (fun i => ws[i]?) = (isR.filterMap (fun i => ws[i]?)).map some) (hn : va_nd isR = true) (hdis : ∀ i ∈ isR, i ∉ isC)
    (hp : ∀ u, pm.map (fun i => (isR.filterMap (fun i => ws[i]?) ++ w1 u)[i]?) = (wn u).map some) (hpn : va_nd pm = true)
    (kk : ∀ (u : S) (H1 : Heap) (locs1 : List Loc), va_P D classes (wn u) H1 → va_D A0 (wn u) → va_S A0 H0 H1 locs1 → W p l e R s m args below meth c H1 locs1 (cells + mc) (slots + ms) Q (F0 m (pc + 3) ls (.int r :: rest))) : W p l e R s m args below meth c H locs cells slots Q (F0 m pc ls st0) := by
  have hFc := va_free (wc := wc) hD hS hA isC hC
  refine va_calli hr hS (fun q _ h => hFc q h) hFc (fun r1 u t H1 locs1 ht _ hw hB _ hk1 hS1 => ?_)
  obtain ⟨hP1, hD1⟩ := hB
  rw [ht] at hP1
  subst hw
  obtain ⟨hP2, hD2⟩ := kc_join hP hD isC isR pm hC hR hn hdis (hp u) hpn hk1 hFc hP1 hD1
  exact kk u H1 locs1 hP2 hD2 hS1
theorem kc_calll {r : Int64} {w1 wn : S → va_W} (hr : va_Run p l e R s m args below meth c H locs cells slots mc ms (F0 m pc ls st0) rest (kc_Pl D w1 r (va_A wc H.size) a) (va_A wc H.size)) (hP : va_P D classes ws H) (hD : va_D A0 ws) (hS : va_S A0 H0 H locs) (hA : ∀ q, H0.size ≤ q → A0 q) (isC isR pm : List Nat) (hC : isC.map (fun i => ws[i]?) = wc.map some) (hR : isR.map (fun i => ws[i]?) = (isR.filterMap (fun i => ws[i]?)).map some) (hn : va_nd isR = true) (hdis : ∀ i ∈ isR, i ∉ isC)
    (hp : ∀ u, pm.map (fun i => (isR.filterMap (fun i => ws[i]?) ++ w1 u)[i]?) = (wn u).map some) (hpn : va_nd pm = true)
    (kk : ∀ (u : S) (H1 : Heap) (locs1 : List Loc), va_P D classes (wn u) H1 → va_D A0 (wn u) → va_S A0 H0 H1 locs1 → W p l e R s m args below meth c H1 locs1 (cells + mc) (slots + ms) Q (F0 m (pc + 3) ls (.long r :: rest))) : W p l e R s m args below meth c H locs cells slots Q (F0 m pc ls st0) := by
  have hFc := va_free (wc := wc) hD hS hA isC hC
  refine va_calll hr hS (fun q _ h => hFc q h) hFc (fun r1 u t H1 locs1 ht _ hw hB _ hk1 hS1 => ?_)
  obtain ⟨hP1, hD1⟩ := hB
  rw [ht] at hP1
  subst hw
  obtain ⟨hP2, hD2⟩ := kc_join hP hD isC isR pm hC hR hn hdis (hp u) hpn hk1 hFc hP1 hD1
  exact kk u H1 locs1 hP2 hD2 hS1
theorem kc_callv {w1 wn : S → va_W} (hr : va_Run p l e R s m args below meth c H locs cells slots mc ms (F0 m pc ls st0) rest (kc_Pv D w1 (va_A wc H.size) a) (va_A wc H.size)) (hP : va_P D classes ws H) (hD : va_D A0 ws) (hS : va_S A0 H0 H locs) (hA : ∀ q, H0.size ≤ q → A0 q) (isC isR pm : List Nat) (hC : isC.map (fun i => ws[i]?) = wc.map some) (hR : isR.map (fun i => ws[i]?) = (isR.filterMap (fun i => ws[i]?)).map some) (hn : va_nd isR = true) (hdis : ∀ i ∈ isR, i ∉ isC)
    (hp : ∀ u, pm.map (fun i => (isR.filterMap (fun i => ws[i]?) ++ w1 u)[i]?) = (wn u).map some) (hpn : va_nd pm = true)
    (kk : ∀ (u : S) (H1 : Heap) (locs1 : List Loc), va_P D classes (wn u) H1 → va_D A0 (wn u) → va_S A0 H0 H1 locs1 → W p l e R s m args below meth c H1 locs1 (cells + mc) (slots + ms) Q (F0 m (pc + 3) ls rest)) : W p l e R s m args below meth c H locs cells slots Q (F0 m pc ls st0) := by
  have hFc := va_free (wc := wc) hD hS hA isC hC
  refine va_callv hr hS (fun q _ h => hFc q h) hFc (fun u t H1 locs1 ht _ hw hB _ hk1 hS1 => ?_)
  obtain ⟨hP1, hD1⟩ := hB
  rw [ht] at hP1
  obtain ⟨hP2, hD2⟩ := kc_join hP hD isC isR pm hC hR hn hdis (hp u) hpn hk1 hFc hP1 hD1
  exact kk u H1 locs1 hP2 hD2 hS1
end KD
/-! the pure side: a value, or none where the machine itself would throw -/
def okb {α : Type} (b : Bool) (x : Option α) : Option α := match b with
  | true => x
  | false => none
theorem okb_s {α : Type} {b : Bool} {x : Option α} {r : α} (h : okb b x = some r) : b = true ∧ x = some r := by
  cases b with
  | true => exact ⟨rfl, h⟩
  | false => cases h
theorem okb_t {α : Type} {b : Bool} {x : Option α} (h : b = true) : okb b x = x := by subst h; rfl
def inb (i : Int32) (n : Nat) : Bool := !(decide (i < 0) || decide (n ≤ i.toNatClampNeg))
theorem inb_s {i : Int32} {n : Nat} (h : inb i n = true) : vp_in i n := by
  intro q
  unfold inb at h
  rcases q with q | q <;> simp [q] at h
def isb (v : Int32) : Bool := decide (v = 0) || decide (v = 1)
theorem isb_s {v : Int32} (h : isb v = true) : v = 0 ∨ v = 1 := by
  unfold isb at h
  simpa using h
theorem isb_n {v : Int32} (h : isb v = true) : narrow .boolean (.int v) = .int v ∧ fits .boolean (.int v) = true := by
  rcases isb_s h with e | e <;> subst e <;> exact ⟨rfl, rfl⟩
theorem ob_s {α β : Type} {a : Option α} {f : α → Option β} {r : β} (h : Option.bind a f = some r) : ∃ u, a = some u ∧ f u = some r := by
  cases a with
  | none => cases h
  | some u => exact ⟨u, rfl, h⟩
theorem it_t {α : Type} {c : Prop} [Decidable c] {a b : Option α} {r : α} (h : c) (q : (if c then a else b) = some r) : a = some r := by rw [if_pos h] at q; exact q
theorem it_f {α : Type} {c : Prop} [Decidable c] {a b : Option α} {r : α} (h : ¬ c) (q : (if c then a else b) = some r) : b = some r := by rw [if_neg h] at q; exact q
/-- a loop that may return: its way out goes on -/
def onS {ρ ε α : Type} (v : Sum ρ ε) (f : ρ → Option α) (k : ε → Option α) : Option α := match v with
  | .inl r => f r
  | .inr x => k x
theorem onS_l {ρ ε α : Type} {r : ρ} {f : ρ → Option α} {k : ε → Option α} {v : α} (h : onS (.inl r) f k = some v) : f r = some v := h
theorem onS_r {ρ ε α : Type} {x : ε} {f : ρ → Option α} {k : ε → Option α} {v : α} (h : onS (.inr x) f k = some v) : k x = some v := h
end
section
/-! the words of the tables, each by its place -/
theorem wd_0 : (Cond.selects "DropRows$Grid" ⟨"DropRows$Grid","rowFrom","(IIII)I"⟩ ⟨"DropRows$Grid","rowFrom","(IIII)I"⟩) ∈ kc_TB := kc_in 0 (by decide +kernel) (by decide +kernel)
theorem wd_1 : (Cond.selects "DropRows$Grid" ⟨"DropRows$Grid","beside","(II)I"⟩ ⟨"DropRows$Grid","beside","(II)I"⟩) ∈ kc_TB := kc_in 1 (by decide +kernel) (by decide +kernel)
theorem wd_2 : (Cond.selects "DropRows$Grid" ⟨"DropRows$Grid","addRow","(I)V"⟩ ⟨"DropRows$Grid","addRow","(I)V"⟩) ∈ kc_TB := kc_in 2 (by decide +kernel) (by decide +kernel)
theorem wd_3 : (Cond.selects "DropRows$Grid" ⟨"DropRows$Grid","isRow","(I)Z"⟩ ⟨"DropRows$Grid","isRow","(I)Z"⟩) ∈ kc_TB := kc_in 3 (by decide +kernel) (by decide +kernel)
theorem wd_4 : (Cond.selects "DropRows$Game" ⟨"DropRows$Game","squareIn","(I)I"⟩ ⟨"DropRows$Game","squareIn","(I)I"⟩) ∈ kc_TB := kc_in 4 (by decide +kernel) (by decide +kernel)
theorem wd_5 : (Cond.selects "DropRows$Solver" ⟨"DropRows$Solver","startEmpty","()V"⟩ ⟨"DropRows$Solver","startEmpty","()V"⟩) ∈ kc_TB := kc_in 5 (by decide +kernel) (by decide +kernel)
theorem wd_6 : (Cond.selects "DropRows$Solver" ⟨"DropRows$Solver","prepare","()V"⟩ ⟨"DropRows$Solver","prepare","()V"⟩) ∈ kc_TB := kc_in 6 (by decide +kernel) (by decide +kernel)
theorem wd_7 : (Cond.selects "DropRows$Solver" ⟨"DropRows$Solver","search","(IIIII)I"⟩ ⟨"DropRows$Solver","search","(IIIII)I"⟩) ∈ kc_TB := kc_in 7 (by decide +kernel) (by decide +kernel)
theorem wd_8 : (Cond.selects "DropRows$Solver" ⟨"DropRows$Solver","keptAt","(I)I"⟩ ⟨"DropRows$Solver","keptAt","(I)I"⟩) ∈ kc_TB := kc_in 8 (by decide +kernel) (by decide +kernel)
theorem wd_9 : (Cond.selects "DropRows$Solver" ⟨"DropRows$Solver","tryColumn","(IIIIII)I"⟩ ⟨"DropRows$Solver","tryColumn","(IIIIII)I"⟩) ∈ kc_TB := kc_in 9 (by decide +kernel) (by decide +kernel)
theorem wd_10 : (Cond.selects "DropRows$Solver" ⟨"DropRows$Solver","keep","(IIII)V"⟩ ⟨"DropRows$Solver","keep","(IIII)V"⟩) ∈ kc_TB := kc_in 10 (by decide +kernel) (by decide +kernel)
theorem wd_11 : (Cond.selects "DropRows" ⟨"DropRows","bestColumn","()I"⟩ ⟨"DropRows","bestColumn","()I"⟩) ∈ kc_TB := kc_in 11 (by decide +kernel) (by decide +kernel)
theorem wd_12 : (Cond.selects "DropRows$Game" ⟨"DropRows$Game","isThreat","(II)Z"⟩ ⟨"DropRows$Game","isThreat","(II)Z"⟩) ∈ kc_TB := kc_in 12 (by decide +kernel) (by decide +kernel)
theorem wd_13 : (Cond.selects "DropRows$Game" ⟨"DropRows$Game","waitingSort","(I)I"⟩ ⟨"DropRows$Game","waitingSort","(I)I"⟩) ∈ kc_TB := kc_in 13 (by decide +kernel) (by decide +kernel)
theorem wd_14 : (Cond.selects "DropRows" ⟨"DropRows","refuse","(I)I"⟩ ⟨"DropRows","refuse","(I)I"⟩) ∈ kc_TB := kc_in 14 (by decide +kernel) (by decide +kernel)
theorem wd_15 : (Cond.selects "DropRowsModel" ⟨"DropRowsModel","begin","(IIIZ)V"⟩ ⟨"DropRowsModel","begin","(IIIZ)V"⟩) ∈ kc_TB := kc_in 15 (by decide +kernel) (by decide +kernel)
theorem wd_16 : (Cond.selects "DropRowsModel" ⟨"DropRowsModel","findRows","()V"⟩ ⟨"DropRowsModel","findRows","()V"⟩) ∈ kc_TB := kc_in 16 (by decide +kernel) (by decide +kernel)
theorem wd_17 : (Cond.selects "DropRowsModel" ⟨"DropRowsModel","squaresOf","(IIII)I"⟩ ⟨"DropRowsModel","squaresOf","(IIII)I"⟩) ∈ kc_TB := kc_in 17 (by decide +kernel) (by decide +kernel)
theorem wd_18 : (Cond.selects "DropRowsModel" ⟨"DropRowsModel","addRow","(I)V"⟩ ⟨"DropRowsModel","addRow","(I)V"⟩) ∈ kc_TB := kc_in 18 (by decide +kernel) (by decide +kernel)
theorem wd_19 : (Cond.selects "DropRowsModel" ⟨"DropRowsModel","goUp","()V"⟩ ⟨"DropRowsModel","goUp","()V"⟩) ∈ kc_TB := kc_in 19 (by decide +kernel) (by decide +kernel)
theorem wd_20 : (Cond.selects "DropRowsModel" ⟨"DropRowsModel","keys","()I"⟩ ⟨"DropRowsModel","keys","()I"⟩) ∈ kc_TB := kc_in 20 (by decide +kernel) (by decide +kernel)
theorem wd_21 : (Cond.selects "DropRowsModel" ⟨"DropRowsModel","keyOfNone","()I"⟩ ⟨"DropRowsModel","keyOfNone","()I"⟩) ∈ kc_TB := kc_in 21 (by decide +kernel) (by decide +kernel)
theorem wd_22 : (Cond.selects "DropRowsModel" ⟨"DropRowsModel","decode","(I)V"⟩ ⟨"DropRowsModel","decode","(I)V"⟩) ∈ kc_TB := kc_in 22 (by decide +kernel) (by decide +kernel)
theorem wd_23 : (Cond.selects "DropRowsModel" ⟨"DropRowsModel","heightOf","(II)I"⟩ ⟨"DropRowsModel","heightOf","(II)I"⟩) ∈ kc_TB := kc_in 23 (by decide +kernel) (by decide +kernel)
theorem wd_24 : (Cond.selects "DropRowsModel" ⟨"DropRowsModel","columnOf","(II)I"⟩ ⟨"DropRowsModel","columnOf","(II)I"⟩) ∈ kc_TB := kc_in 24 (by decide +kernel) (by decide +kernel)
theorem wd_25 : (Cond.selects "DropRowsModel" ⟨"DropRowsModel","has","(I)Z"⟩ ⟨"DropRowsModel","has","(I)Z"⟩) ∈ kc_TB := kc_in 25 (by decide +kernel) (by decide +kernel)
theorem wd_26 : (Cond.selects "DropRowsModel" ⟨"DropRowsModel","dropped","(III)I"⟩ ⟨"DropRowsModel","dropped","(III)I"⟩) ∈ kc_TB := kc_in 26 (by decide +kernel) (by decide +kernel)
theorem wd_27 : (Cond.selects "DropRowsModel" ⟨"DropRowsModel","goDown","()V"⟩ ⟨"DropRowsModel","goDown","()V"⟩) ∈ kc_TB := kc_in 27 (by decide +kernel) (by decide +kernel)
theorem wd_28 : (Cond.selects "DropRowsModel" ⟨"DropRowsModel","greatest","(II)I"⟩ ⟨"DropRowsModel","greatest","(II)I"⟩) ∈ kc_TB := kc_in 28 (by decide +kernel) (by decide +kernel)
theorem wd_29 : (Cond.selects "DropRowsModel" ⟨"DropRowsModel","worthBy","(III)I"⟩ ⟨"DropRowsModel","worthBy","(III)I"⟩) ∈ kc_TB := kc_in 29 (by decide +kernel) (by decide +kernel)
theorem wd_30 : (Cond.selects "DropRowsModel" ⟨"DropRowsModel","place","()V"⟩ ⟨"DropRowsModel","place","()V"⟩) ∈ kc_TB := kc_in 30 (by decide +kernel) (by decide +kernel)
theorem wd_31 : (Cond.selects "DropRowsModel" ⟨"DropRowsModel","isFree","(I)Z"⟩ ⟨"DropRowsModel","isFree","(I)Z"⟩) ∈ kc_TB := kc_in 31 (by decide +kernel) (by decide +kernel)
theorem wd_32 : (Cond.selects "DropRowsModel" ⟨"DropRowsModel","isOver","()Z"⟩ ⟨"DropRowsModel","isOver","()Z"⟩) ∈ kc_TB := kc_in 32 (by decide +kernel) (by decide +kernel)
theorem wd_33 : (Cond.selects "DropRowsModel" ⟨"DropRowsModel","go","(I)V"⟩ ⟨"DropRowsModel","go","(I)V"⟩) ∈ kc_TB := kc_in 33 (by decide +kernel) (by decide +kernel)
theorem wd_34 : (Cond.selects "DropRowsModel" ⟨"DropRowsModel","bestMove","()I"⟩ ⟨"DropRowsModel","bestMove","()I"⟩) ∈ kc_TB := kc_in 34 (by decide +kernel) (by decide +kernel)
theorem wd_35 : (Cond.selects "DropRowsModel" ⟨"DropRowsModel","threatsOf","(I)I"⟩ ⟨"DropRowsModel","threatsOf","(I)I"⟩) ∈ kc_TB := kc_in 35 (by decide +kernel) (by decide +kernel)
theorem wd_36 : (Cond.selects "DropRowsModel" ⟨"DropRowsModel","sortOf","(IIII)I"⟩ ⟨"DropRowsModel","sortOf","(IIII)I"⟩) ∈ kc_TB := kc_in 36 (by decide +kernel) (by decide +kernel)
theorem wd_37 : (Cond.selects "DropRowsModel" ⟨"DropRowsModel","met","(I)I"⟩ ⟨"DropRowsModel","met","(I)I"⟩) ∈ kc_TB := kc_in 37 (by decide +kernel) (by decide +kernel)
theorem wd_38 : (Cond.selects "DropRowsModel" ⟨"DropRowsModel","lacks","(III)I"⟩ ⟨"DropRowsModel","lacks","(III)I"⟩) ∈ kc_TB := kc_in 38 (by decide +kernel) (by decide +kernel)
theorem wd_39 : (Cond.initialized "DropRowsLaw") ∈ kc_TB := kc_in 39 (by decide +kernel) (by decide +kernel)
theorem wd_40 : (Cond.initialized "DropRows") ∈ kc_TB := kc_in 40 (by decide +kernel) (by decide +kernel)
theorem wd_41 : (Cond.initialized "DropRows$Grid") ∈ kc_TB := kc_in 41 (by decide +kernel) (by decide +kernel)
theorem wd_42 : (Cond.initialized "java/util/Arrays") ∈ kc_TB := kc_in 42 (by decide +kernel) (by decide +kernel)
theorem wd_43 : (Cond.initialized "DropRows$Solver") ∈ kc_TB := kc_in 43 (by decide +kernel) (by decide +kernel)
theorem wd_44 : (Cond.initialized "DropRows$Game") ∈ kc_TB := kc_in 44 (by decide +kernel) (by decide +kernel)
theorem wd_45 : (Cond.initialized "DropRows$Sheet") ∈ kc_TB := kc_in 45 (by decide +kernel) (by decide +kernel)
theorem wd_46 : (Cond.initialized "DropRowsModel") ∈ kc_TB := kc_in 46 (by decide +kernel) (by decide +kernel)
theorem wd_47 : (Cond.initialized "java/lang/Integer") ∈ kc_TB := kc_in 47 (by decide +kernel) (by decide +kernel)
theorem wd_48 : (Cond.initialized "java/lang/Math") ∈ kc_TB := kc_in 48 (by decide +kernel) (by decide +kernel)
theorem wd_49 : (Cond.initialized "java/lang/System") ∈ kc_TB := kc_in 49 (by decide +kernel) (by decide +kernel)
theorem wd_50 : (Cond.classLink "DropRowsLaw" 7 "DropRows") ∈ kc_TB := kc_in 50 (by decide +kernel) (by decide +kernel)
theorem wd_51 : (Cond.instantiable "DropRows" 7) ∈ kc_TB := kc_in 51 (by decide +kernel) (by decide +kernel)
theorem wd_52 : (Cond.methodLink "DropRowsLaw" 9 ⟨"DropRows","<init>","()V"⟩) ∈ kc_TB := kc_in 52 (by decide +kernel) (by decide +kernel)
theorem wd_53 : (Cond.instanceMethod ⟨"DropRows","<init>","()V"⟩) ∈ kc_TB := kc_in 53 (by decide +kernel) (by decide +kernel)
theorem wd_54 : (Cond.code ⟨"DropRows","<init>","()V"⟩ prog_1_method_1_code 2 (Option.none : Option FieldType)) ∈ kc_TB := kc_in 54 (by decide +kernel) (by decide +kernel)
theorem wd_55 : (Cond.methodLink "DropRows" 1 ⟨"java/lang/Object","<init>","()V"⟩) ∈ kc_TB := kc_in 55 (by decide +kernel) (by decide +kernel)
theorem wd_56 : (Cond.instanceMethod ⟨"java/lang/Object","<init>","()V"⟩) ∈ kc_TB := kc_in 56 (by decide +kernel) (by decide +kernel)
theorem wd_57 : (Cond.code ⟨"java/lang/Object","<init>","()V"⟩ object_method_1_code 1 (Option.none : Option FieldType)) ∈ kc_TB := kc_in 57 (by decide +kernel) (by decide +kernel)
theorem wd_58 : (Cond.classLink "DropRows" 7 "DropRows$Grid") ∈ kc_TB := kc_in 58 (by decide +kernel) (by decide +kernel)
theorem wd_59 : (Cond.instantiable "DropRows$Grid" 9) ∈ kc_TB := kc_in 59 (by decide +kernel) (by decide +kernel)
theorem wd_60 : (Cond.methodLink "DropRows" 9 ⟨"DropRows$Grid","<init>","()V"⟩) ∈ kc_TB := kc_in 60 (by decide +kernel) (by decide +kernel)
theorem wd_61 : (Cond.instanceMethod ⟨"DropRows$Grid","<init>","()V"⟩) ∈ kc_TB := kc_in 61 (by decide +kernel) (by decide +kernel)
theorem wd_62 : (Cond.code ⟨"DropRows$Grid","<init>","()V"⟩ prog_3_method_1_code 1 (Option.none : Option FieldType)) ∈ kc_TB := kc_in 62 (by decide +kernel) (by decide +kernel)
theorem wd_63 : (Cond.methodLink "DropRows$Grid" 5 ⟨"java/lang/Object","<init>","()V"⟩) ∈ kc_TB := kc_in 63 (by decide +kernel) (by decide +kernel)
theorem wd_64 : (Cond.fieldLink "DropRows$Grid" 21 "DropRows$Grid" "width" "I") ∈ kc_TB := kc_in 64 (by decide +kernel) (by decide +kernel)
theorem wd_65 : (Cond.fieldLink "DropRows$Solver" 44 "DropRows$Grid" "width" "I") ∈ kc_TB := kc_in 65 (by decide +kernel) (by decide +kernel)
theorem wd_66 : (Cond.fieldLink "DropRows$Game" 42 "DropRows$Grid" "width" "I") ∈ kc_TB := kc_in 66 (by decide +kernel) (by decide +kernel)
theorem wd_67 : (Cond.fieldLink "DropRows" 130 "DropRows$Grid" "width" "I") ∈ kc_TB := kc_in 67 (by decide +kernel) (by decide +kernel)
theorem wd_68 : (Cond.fieldLink "DropRows$Grid" 25 "DropRows$Grid" "height" "I") ∈ kc_TB := kc_in 68 (by decide +kernel) (by decide +kernel)
theorem wd_69 : (Cond.fieldLink "DropRows$Solver" 38 "DropRows$Grid" "height" "I") ∈ kc_TB := kc_in 69 (by decide +kernel) (by decide +kernel)
theorem wd_70 : (Cond.fieldLink "DropRows$Game" 51 "DropRows$Grid" "height" "I") ∈ kc_TB := kc_in 70 (by decide +kernel) (by decide +kernel)
theorem wd_71 : (Cond.fieldLink "DropRows" 196 "DropRows$Grid" "height" "I") ∈ kc_TB := kc_in 71 (by decide +kernel) (by decide +kernel)
theorem wd_72 : (Cond.fieldLink "DropRows$Grid" 28 "DropRows$Grid" "length" "I") ∈ kc_TB := kc_in 72 (by decide +kernel) (by decide +kernel)
theorem wd_73 : (Cond.fieldLink "DropRows" 107 "DropRows$Grid" "length" "I") ∈ kc_TB := kc_in 73 (by decide +kernel) (by decide +kernel)
theorem wd_74 : (Cond.fieldLink "DropRows$Grid" 35 "DropRows$Grid" "squares" "I") ∈ kc_TB := kc_in 74 (by decide +kernel) (by decide +kernel)
theorem wd_75 : (Cond.fieldLink "DropRows" 85 "DropRows$Grid" "squares" "I") ∈ kc_TB := kc_in 75 (by decide +kernel) (by decide +kernel)
theorem wd_76 : (Cond.fieldLink "DropRows$Game" 68 "DropRows$Grid" "squares" "I") ∈ kc_TB := kc_in 76 (by decide +kernel) (by decide +kernel)
theorem wd_77 : (Cond.fieldLink "DropRows$Solver" 125 "DropRows$Grid" "squares" "I") ∈ kc_TB := kc_in 77 (by decide +kernel) (by decide +kernel)
theorem wd_78 : (Cond.fieldLink "DropRows$Grid" 38 "DropRows$Grid" "rowCount" "I") ∈ kc_TB := kc_in 78 (by decide +kernel) (by decide +kernel)
theorem wd_79 : (Cond.fieldLink "DropRows" 60 "DropRows$Grid" "rowCount" "I") ∈ kc_TB := kc_in 79 (by decide +kernel) (by decide +kernel)
theorem wd_80 : (Cond.fieldLink "DropRows$Grid" 31 "DropRows$Grid" "joined" "Z") ∈ kc_TB := kc_in 80 (by decide +kernel) (by decide +kernel)
theorem wd_81 : (Cond.fieldLink "DropRows" 199 "DropRows$Grid" "joined" "Z") ∈ kc_TB := kc_in 81 (by decide +kernel) (by decide +kernel)
theorem wd_82 : (Cond.fieldLink "DropRows$Grid" 11 "DropRows$Grid" "rows" "[I") ∈ kc_TB := kc_in 82 (by decide +kernel) (by decide +kernel)
theorem wd_83 : (Cond.fieldLink "DropRows$Grid" 15 "DropRows$Grid" "through" "[I") ∈ kc_TB := kc_in 83 (by decide +kernel) (by decide +kernel)
theorem wd_84 : (Cond.fieldLink "DropRows$Grid" 18 "DropRows$Grid" "throughCount" "[I") ∈ kc_TB := kc_in 84 (by decide +kernel) (by decide +kernel)
theorem wd_85 : (Cond.lays "DropRows$Grid" "DropRows$Grid" "width" "I") ∈ kc_TB := kc_in 85 (by decide +kernel) (by decide +kernel)
theorem wd_86 : (Cond.soleField "DropRows$Grid" "width") ∈ kc_TB := kc_in 86 (by decide +kernel) (by decide +kernel)
theorem wd_87 : (Cond.lays "DropRows$Grid" "DropRows$Grid" "height" "I") ∈ kc_TB := kc_in 87 (by decide +kernel) (by decide +kernel)
theorem wd_88 : (Cond.soleField "DropRows$Grid" "height") ∈ kc_TB := kc_in 88 (by decide +kernel) (by decide +kernel)
theorem wd_89 : (Cond.lays "DropRows$Grid" "DropRows$Grid" "length" "I") ∈ kc_TB := kc_in 89 (by decide +kernel) (by decide +kernel)
theorem wd_90 : (Cond.soleField "DropRows$Grid" "length") ∈ kc_TB := kc_in 90 (by decide +kernel) (by decide +kernel)
theorem wd_91 : (Cond.lays "DropRows$Grid" "DropRows$Grid" "squares" "I") ∈ kc_TB := kc_in 91 (by decide +kernel) (by decide +kernel)
theorem wd_92 : (Cond.soleField "DropRows$Grid" "squares") ∈ kc_TB := kc_in 92 (by decide +kernel) (by decide +kernel)
theorem wd_93 : (Cond.lays "DropRows$Grid" "DropRows$Grid" "rowCount" "I") ∈ kc_TB := kc_in 93 (by decide +kernel) (by decide +kernel)
theorem wd_94 : (Cond.soleField "DropRows$Grid" "rowCount") ∈ kc_TB := kc_in 94 (by decide +kernel) (by decide +kernel)
theorem wd_95 : (Cond.lays "DropRows$Grid" "DropRows$Grid" "joined" "Z") ∈ kc_TB := kc_in 95 (by decide +kernel) (by decide +kernel)
theorem wd_96 : (Cond.soleField "DropRows$Grid" "joined") ∈ kc_TB := kc_in 96 (by decide +kernel) (by decide +kernel)
theorem wd_97 : (Cond.laysFinal "DropRows$Grid" "DropRows$Grid" "rows" "[I") ∈ kc_TB := kc_in 97 (by decide +kernel) (by decide +kernel)
theorem wd_98 : (Cond.soleField "DropRows$Grid" "rows") ∈ kc_TB := kc_in 98 (by decide +kernel) (by decide +kernel)
theorem wd_99 : (Cond.laysFinal "DropRows$Grid" "DropRows$Grid" "through" "[I") ∈ kc_TB := kc_in 99 (by decide +kernel) (by decide +kernel)
theorem wd_100 : (Cond.soleField "DropRows$Grid" "through") ∈ kc_TB := kc_in 100 (by decide +kernel) (by decide +kernel)
theorem wd_101 : (Cond.laysFinal "DropRows$Grid" "DropRows$Grid" "throughCount" "[I") ∈ kc_TB := kc_in 101 (by decide +kernel) (by decide +kernel)
theorem wd_102 : (Cond.soleField "DropRows$Grid" "throughCount") ∈ kc_TB := kc_in 102 (by decide +kernel) (by decide +kernel)
theorem wd_103 : (Cond.superclass "DropRows$Grid" "java/lang/Object") ∈ kc_TB := kc_in 103 (by decide +kernel) (by decide +kernel)
theorem wd_104 : (Cond.arrayClass FieldType.int) ∈ kc_TB := kc_in 104 (by decide +kernel) (by decide +kernel)
theorem wd_105 : (Cond.methodLink "DropRows" 16 ⟨"DropRows$Grid","tell","(IIIZ)V"⟩) ∈ kc_TB := kc_in 105 (by decide +kernel) (by decide +kernel)
theorem wd_106 : (Cond.instanceMethod ⟨"DropRows$Grid","tell","(IIIZ)V"⟩) ∈ kc_TB := kc_in 106 (by decide +kernel) (by decide +kernel)
theorem wd_107 : (Cond.selects "DropRows$Grid" ⟨"DropRows$Grid","tell","(IIIZ)V"⟩ ⟨"DropRows$Grid","tell","(IIIZ)V"⟩) ∈ kc_TB := kc_in 107 (by decide +kernel) (by decide +kernel)
theorem wd_108 : (Cond.code ⟨"DropRows$Grid","tell","(IIIZ)V"⟩ prog_3_method_2_code 7 (Option.none : Option FieldType)) ∈ kc_TB := kc_in 108 (by decide +kernel) (by decide +kernel)
theorem wd_109 : (Cond.methodLink "DropRows$Grid" 41 ⟨"java/util/Arrays","fill","([II)V"⟩) ∈ kc_TB := kc_in 109 (by decide +kernel) (by decide +kernel)
theorem wd_110 : (Cond.static ⟨"java/util/Arrays","fill","([II)V"⟩) ∈ kc_TB := kc_in 110 (by decide +kernel) (by decide +kernel)
theorem wd_111 : (Cond.code ⟨"java/util/Arrays","fill","([II)V"⟩ prog_11_method_103_code 4 (Option.none : Option FieldType)) ∈ kc_TB := kc_in 111 (by decide +kernel) (by decide +kernel)
theorem wd_112 : (Cond.methodLink "DropRows$Grid" 47 ⟨"DropRows$Grid","rowFrom","(IIII)I"⟩) ∈ kc_TB := kc_in 112 (by decide +kernel) (by decide +kernel)
theorem wd_114 : (Cond.instanceMethod ⟨"DropRows$Grid","rowFrom","(IIII)I"⟩) ∈ kc_TB := kc_in 114 (by decide +kernel) (by decide +kernel)
theorem wd_115 : (Cond.code ⟨"DropRows$Grid","rowFrom","(IIII)I"⟩ prog_3_method_3_code 10 (Option.some FieldType.int)) ∈ kc_TB := kc_in 115 (by decide +kernel) (by decide +kernel)
theorem wd_116 : (Cond.methodLink "DropRows$Grid" 55 ⟨"DropRows$Grid","beside","(II)I"⟩) ∈ kc_TB := kc_in 116 (by decide +kernel) (by decide +kernel)
theorem wd_118 : (Cond.instanceMethod ⟨"DropRows$Grid","beside","(II)I"⟩) ∈ kc_TB := kc_in 118 (by decide +kernel) (by decide +kernel)
theorem wd_119 : (Cond.code ⟨"DropRows$Grid","beside","(II)I"⟩ prog_3_method_4_code 4 (Option.some FieldType.int)) ∈ kc_TB := kc_in 119 (by decide +kernel) (by decide +kernel)
theorem wd_120 : (Cond.methodLink "DropRows$Grid" 51 ⟨"DropRows$Grid","addRow","(I)V"⟩) ∈ kc_TB := kc_in 120 (by decide +kernel) (by decide +kernel)
theorem wd_122 : (Cond.instanceMethod ⟨"DropRows$Grid","addRow","(I)V"⟩) ∈ kc_TB := kc_in 122 (by decide +kernel) (by decide +kernel)
theorem wd_123 : (Cond.code ⟨"DropRows$Grid","addRow","(I)V"⟩ prog_3_method_5_code 3 (Option.none : Option FieldType)) ∈ kc_TB := kc_in 123 (by decide +kernel) (by decide +kernel)
theorem wd_124 : (Cond.methodLink "DropRows$Grid" 59 ⟨"DropRows$Grid","isRow","(I)Z"⟩) ∈ kc_TB := kc_in 124 (by decide +kernel) (by decide +kernel)
theorem wd_126 : (Cond.instanceMethod ⟨"DropRows$Grid","isRow","(I)Z"⟩) ∈ kc_TB := kc_in 126 (by decide +kernel) (by decide +kernel)
theorem wd_127 : (Cond.code ⟨"DropRows$Grid","isRow","(I)Z"⟩ prog_3_method_6_code 3 (Option.some FieldType.boolean)) ∈ kc_TB := kc_in 127 (by decide +kernel) (by decide +kernel)
theorem wd_128 : (Cond.classLink "DropRows" 20 "DropRows$Solver") ∈ kc_TB := kc_in 128 (by decide +kernel) (by decide +kernel)
theorem wd_129 : (Cond.instantiable "DropRows$Solver" 12) ∈ kc_TB := kc_in 129 (by decide +kernel) (by decide +kernel)
theorem wd_130 : (Cond.methodLink "DropRows" 22 ⟨"DropRows$Solver","<init>","(LDropRows$Grid;)V"⟩) ∈ kc_TB := kc_in 130 (by decide +kernel) (by decide +kernel)
theorem wd_131 : (Cond.instanceMethod ⟨"DropRows$Solver","<init>","(LDropRows$Grid;)V"⟩) ∈ kc_TB := kc_in 131 (by decide +kernel) (by decide +kernel)
theorem wd_132 : (Cond.code ⟨"DropRows$Solver","<init>","(LDropRows$Grid;)V"⟩ prog_5_method_1_code 2 (Option.none : Option FieldType)) ∈ kc_TB := kc_in 132 (by decide +kernel) (by decide +kernel)
theorem wd_133 : (Cond.methodLink "DropRows$Solver" 3 ⟨"java/lang/Object","<init>","()V"⟩) ∈ kc_TB := kc_in 133 (by decide +kernel) (by decide +kernel)
theorem wd_134 : (Cond.classLink "DropRows$Solver" 21 "[[I") ∈ kc_TB := kc_in 134 (by decide +kernel) (by decide +kernel)
theorem wd_136 : (Cond.fieldLink "DropRows$Solver" 30 "DropRows$Solver" "grid" "LDropRows$Grid;") ∈ kc_TB := kc_in 136 (by decide +kernel) (by decide +kernel)
theorem wd_137 : (Cond.fieldLink "DropRows$Solver" 9 "DropRows$Solver" "powers" "[I") ∈ kc_TB := kc_in 137 (by decide +kernel) (by decide +kernel)
theorem wd_138 : (Cond.fieldLink "DropRows$Solver" 15 "DropRows$Solver" "codes" "[I") ∈ kc_TB := kc_in 138 (by decide +kernel) (by decide +kernel)
theorem wd_139 : (Cond.fieldLink "DropRows$Solver" 18 "DropRows$Solver" "heights" "[I") ∈ kc_TB := kc_in 139 (by decide +kernel) (by decide +kernel)
theorem wd_140 : (Cond.fieldLink "DropRows$Solver" 23 "DropRows$Solver" "tallies" "[[I") ∈ kc_TB := kc_in 140 (by decide +kernel) (by decide +kernel)
theorem wd_141 : (Cond.fieldLink "DropRows$Solver" 26 "DropRows$Solver" "kept" "[J") ∈ kc_TB := kc_in 141 (by decide +kernel) (by decide +kernel)
theorem wd_142 : (Cond.fieldLink "DropRows$Solver" 34 "DropRows$Solver" "isPrepared" "Z") ∈ kc_TB := kc_in 142 (by decide +kernel) (by decide +kernel)
theorem wd_143 : (Cond.fieldLink "DropRows$Solver" 59 "DropRows$Solver" "startMine" "I") ∈ kc_TB := kc_in 143 (by decide +kernel) (by decide +kernel)
theorem wd_144 : (Cond.fieldLink "DropRows$Solver" 62 "DropRows$Solver" "startOthers" "I") ∈ kc_TB := kc_in 144 (by decide +kernel) (by decide +kernel)
theorem wd_145 : (Cond.fieldLink "DropRows$Solver" 65 "DropRows$Solver" "startKey" "I") ∈ kc_TB := kc_in 145 (by decide +kernel) (by decide +kernel)
theorem wd_146 : (Cond.fieldLink "DropRows$Solver" 68 "DropRows$Solver" "startImage" "I") ∈ kc_TB := kc_in 146 (by decide +kernel) (by decide +kernel)
theorem wd_147 : (Cond.fieldLink "DropRows$Solver" 71 "DropRows$Solver" "startMen" "I") ∈ kc_TB := kc_in 147 (by decide +kernel) (by decide +kernel)
theorem wd_148 : (Cond.laysFinal "DropRows$Solver" "DropRows$Solver" "grid" "LDropRows$Grid;") ∈ kc_TB := kc_in 148 (by decide +kernel) (by decide +kernel)
theorem wd_149 : (Cond.soleField "DropRows$Solver" "grid") ∈ kc_TB := kc_in 149 (by decide +kernel) (by decide +kernel)
theorem wd_150 : (Cond.laysFinal "DropRows$Solver" "DropRows$Solver" "powers" "[I") ∈ kc_TB := kc_in 150 (by decide +kernel) (by decide +kernel)
theorem wd_151 : (Cond.soleField "DropRows$Solver" "powers") ∈ kc_TB := kc_in 151 (by decide +kernel) (by decide +kernel)
theorem wd_152 : (Cond.laysFinal "DropRows$Solver" "DropRows$Solver" "codes" "[I") ∈ kc_TB := kc_in 152 (by decide +kernel) (by decide +kernel)
theorem wd_153 : (Cond.soleField "DropRows$Solver" "codes") ∈ kc_TB := kc_in 153 (by decide +kernel) (by decide +kernel)
theorem wd_154 : (Cond.laysFinal "DropRows$Solver" "DropRows$Solver" "heights" "[I") ∈ kc_TB := kc_in 154 (by decide +kernel) (by decide +kernel)
theorem wd_155 : (Cond.soleField "DropRows$Solver" "heights") ∈ kc_TB := kc_in 155 (by decide +kernel) (by decide +kernel)
theorem wd_156 : (Cond.laysFinal "DropRows$Solver" "DropRows$Solver" "tallies" "[[I") ∈ kc_TB := kc_in 156 (by decide +kernel) (by decide +kernel)
theorem wd_157 : (Cond.soleField "DropRows$Solver" "tallies") ∈ kc_TB := kc_in 157 (by decide +kernel) (by decide +kernel)
theorem wd_158 : (Cond.lays "DropRows$Solver" "DropRows$Solver" "kept" "[J") ∈ kc_TB := kc_in 158 (by decide +kernel) (by decide +kernel)
theorem wd_159 : (Cond.soleField "DropRows$Solver" "kept") ∈ kc_TB := kc_in 159 (by decide +kernel) (by decide +kernel)
theorem wd_160 : (Cond.lays "DropRows$Solver" "DropRows$Solver" "isPrepared" "Z") ∈ kc_TB := kc_in 160 (by decide +kernel) (by decide +kernel)
theorem wd_161 : (Cond.soleField "DropRows$Solver" "isPrepared") ∈ kc_TB := kc_in 161 (by decide +kernel) (by decide +kernel)
theorem wd_162 : (Cond.lays "DropRows$Solver" "DropRows$Solver" "startMine" "I") ∈ kc_TB := kc_in 162 (by decide +kernel) (by decide +kernel)
theorem wd_163 : (Cond.soleField "DropRows$Solver" "startMine") ∈ kc_TB := kc_in 163 (by decide +kernel) (by decide +kernel)
theorem wd_164 : (Cond.lays "DropRows$Solver" "DropRows$Solver" "startOthers" "I") ∈ kc_TB := kc_in 164 (by decide +kernel) (by decide +kernel)
theorem wd_165 : (Cond.soleField "DropRows$Solver" "startOthers") ∈ kc_TB := kc_in 165 (by decide +kernel) (by decide +kernel)
theorem wd_166 : (Cond.lays "DropRows$Solver" "DropRows$Solver" "startKey" "I") ∈ kc_TB := kc_in 166 (by decide +kernel) (by decide +kernel)
theorem wd_167 : (Cond.soleField "DropRows$Solver" "startKey") ∈ kc_TB := kc_in 167 (by decide +kernel) (by decide +kernel)
theorem wd_168 : (Cond.lays "DropRows$Solver" "DropRows$Solver" "startImage" "I") ∈ kc_TB := kc_in 168 (by decide +kernel) (by decide +kernel)
theorem wd_169 : (Cond.soleField "DropRows$Solver" "startImage") ∈ kc_TB := kc_in 169 (by decide +kernel) (by decide +kernel)
theorem wd_170 : (Cond.lays "DropRows$Solver" "DropRows$Solver" "startMen" "I") ∈ kc_TB := kc_in 170 (by decide +kernel) (by decide +kernel)
theorem wd_171 : (Cond.soleField "DropRows$Solver" "startMen") ∈ kc_TB := kc_in 171 (by decide +kernel) (by decide +kernel)
theorem wd_172 : (Cond.superclass "DropRows$Solver" "java/lang/Object") ∈ kc_TB := kc_in 172 (by decide +kernel) (by decide +kernel)
theorem wd_173 : (Cond.arrayClass FieldType.long) ∈ kc_TB := kc_in 173 (by decide +kernel) (by decide +kernel)
theorem wd_174 : (Cond.classLink "DropRows" 29 "DropRows$Game") ∈ kc_TB := kc_in 174 (by decide +kernel) (by decide +kernel)
theorem wd_175 : (Cond.instantiable "DropRows$Game" 5) ∈ kc_TB := kc_in 175 (by decide +kernel) (by decide +kernel)
theorem wd_176 : (Cond.methodLink "DropRows" 31 ⟨"DropRows$Game","<init>","(LDropRows$Grid;)V"⟩) ∈ kc_TB := kc_in 176 (by decide +kernel) (by decide +kernel)
theorem wd_177 : (Cond.instanceMethod ⟨"DropRows$Game","<init>","(LDropRows$Grid;)V"⟩) ∈ kc_TB := kc_in 177 (by decide +kernel) (by decide +kernel)
theorem wd_178 : (Cond.code ⟨"DropRows$Game","<init>","(LDropRows$Grid;)V"⟩ prog_2_method_1_code 2 (Option.none : Option FieldType)) ∈ kc_TB := kc_in 178 (by decide +kernel) (by decide +kernel)
theorem wd_179 : (Cond.methodLink "DropRows$Game" 3 ⟨"java/lang/Object","<init>","()V"⟩) ∈ kc_TB := kc_in 179 (by decide +kernel) (by decide +kernel)
theorem wd_180 : (Cond.fieldLink "DropRows$Game" 21 "DropRows$Game" "grid" "LDropRows$Grid;") ∈ kc_TB := kc_in 180 (by decide +kernel) (by decide +kernel)
theorem wd_181 : (Cond.fieldLink "DropRows$Game" 9 "DropRows$Game" "columns" "[I") ∈ kc_TB := kc_in 181 (by decide +kernel) (by decide +kernel)
theorem wd_182 : (Cond.fieldLink "DropRows$Solver" 82 "DropRows$Game" "columns" "[I") ∈ kc_TB := kc_in 182 (by decide +kernel) (by decide +kernel)
theorem wd_183 : (Cond.fieldLink "DropRows" 81 "DropRows$Game" "columns" "[I") ∈ kc_TB := kc_in 183 (by decide +kernel) (by decide +kernel)
theorem wd_184 : (Cond.fieldLink "DropRows$Game" 15 "DropRows$Game" "men" "[I") ∈ kc_TB := kc_in 184 (by decide +kernel) (by decide +kernel)
theorem wd_185 : (Cond.fieldLink "DropRows$Solver" 85 "DropRows$Game" "men" "[I") ∈ kc_TB := kc_in 185 (by decide +kernel) (by decide +kernel)
theorem wd_186 : (Cond.fieldLink "DropRows" 101 "DropRows$Game" "men" "[I") ∈ kc_TB := kc_in 186 (by decide +kernel) (by decide +kernel)
theorem wd_187 : (Cond.fieldLink "DropRows$Game" 18 "DropRows$Game" "heights" "[I") ∈ kc_TB := kc_in 187 (by decide +kernel) (by decide +kernel)
theorem wd_188 : (Cond.fieldLink "DropRows$Game" 25 "DropRows$Game" "moves" "I") ∈ kc_TB := kc_in 188 (by decide +kernel) (by decide +kernel)
theorem wd_189 : (Cond.fieldLink "DropRows" 75 "DropRows$Game" "moves" "I") ∈ kc_TB := kc_in 189 (by decide +kernel) (by decide +kernel)
theorem wd_190 : (Cond.fieldLink "DropRows$Solver" 77 "DropRows$Game" "moves" "I") ∈ kc_TB := kc_in 190 (by decide +kernel) (by decide +kernel)
theorem wd_191 : (Cond.laysFinal "DropRows$Game" "DropRows$Game" "grid" "LDropRows$Grid;") ∈ kc_TB := kc_in 191 (by decide +kernel) (by decide +kernel)
theorem wd_192 : (Cond.soleField "DropRows$Game" "grid") ∈ kc_TB := kc_in 192 (by decide +kernel) (by decide +kernel)
theorem wd_193 : (Cond.laysFinal "DropRows$Game" "DropRows$Game" "columns" "[I") ∈ kc_TB := kc_in 193 (by decide +kernel) (by decide +kernel)
theorem wd_194 : (Cond.soleField "DropRows$Game" "columns") ∈ kc_TB := kc_in 194 (by decide +kernel) (by decide +kernel)
theorem wd_195 : (Cond.laysFinal "DropRows$Game" "DropRows$Game" "men" "[I") ∈ kc_TB := kc_in 195 (by decide +kernel) (by decide +kernel)
theorem wd_196 : (Cond.soleField "DropRows$Game" "men") ∈ kc_TB := kc_in 196 (by decide +kernel) (by decide +kernel)
theorem wd_197 : (Cond.laysFinal "DropRows$Game" "DropRows$Game" "heights" "[I") ∈ kc_TB := kc_in 197 (by decide +kernel) (by decide +kernel)
theorem wd_198 : (Cond.soleField "DropRows$Game" "heights") ∈ kc_TB := kc_in 198 (by decide +kernel) (by decide +kernel)
theorem wd_199 : (Cond.lays "DropRows$Game" "DropRows$Game" "moves" "I") ∈ kc_TB := kc_in 199 (by decide +kernel) (by decide +kernel)
theorem wd_200 : (Cond.soleField "DropRows$Game" "moves") ∈ kc_TB := kc_in 200 (by decide +kernel) (by decide +kernel)
theorem wd_201 : (Cond.superclass "DropRows$Game" "java/lang/Object") ∈ kc_TB := kc_in 201 (by decide +kernel) (by decide +kernel)
theorem wd_202 : (Cond.classLink "DropRows" 39 "DropRows$Sheet") ∈ kc_TB := kc_in 202 (by decide +kernel) (by decide +kernel)
theorem wd_204 : (Cond.instantiable "DropRows$Sheet" 4) ∈ kc_TB := kc_in 204 (by decide +kernel) (by decide +kernel)
theorem wd_205 : (Cond.methodLink "DropRows" 45 ⟨"DropRows$Sheet","<init>","()V"⟩) ∈ kc_TB := kc_in 205 (by decide +kernel) (by decide +kernel)
theorem wd_206 : (Cond.instanceMethod ⟨"DropRows$Sheet","<init>","()V"⟩) ∈ kc_TB := kc_in 206 (by decide +kernel) (by decide +kernel)
theorem wd_207 : (Cond.code ⟨"DropRows$Sheet","<init>","()V"⟩ prog_4_method_1_code 1 (Option.none : Option FieldType)) ∈ kc_TB := kc_in 207 (by decide +kernel) (by decide +kernel)
theorem wd_208 : (Cond.methodLink "DropRows$Sheet" 3 ⟨"java/lang/Object","<init>","()V"⟩) ∈ kc_TB := kc_in 208 (by decide +kernel) (by decide +kernel)
theorem wd_209 : (Cond.fieldLink "DropRows$Sheet" 9 "DropRows$Sheet" "lost" "Z") ∈ kc_TB := kc_in 209 (by decide +kernel) (by decide +kernel)
theorem wd_210 : (Cond.fieldLink "DropRows" 166 "DropRows$Sheet" "lost" "Z") ∈ kc_TB := kc_in 210 (by decide +kernel) (by decide +kernel)
theorem wd_211 : (Cond.fieldLink "DropRows$Sheet" 19 "DropRows$Sheet" "form" "I") ∈ kc_TB := kc_in 211 (by decide +kernel) (by decide +kernel)
theorem wd_212 : (Cond.fieldLink "DropRows" 183 "DropRows$Sheet" "form" "I") ∈ kc_TB := kc_in 212 (by decide +kernel) (by decide +kernel)
theorem wd_213 : (Cond.fieldLink "DropRows$Sheet" 23 "DropRows$Sheet" "size" "I") ∈ kc_TB := kc_in 213 (by decide +kernel) (by decide +kernel)
theorem wd_214 : (Cond.fieldLink "DropRows" 170 "DropRows$Sheet" "size" "I") ∈ kc_TB := kc_in 214 (by decide +kernel) (by decide +kernel)
theorem wd_215 : (Cond.fieldLink "DropRows$Sheet" 15 "DropRows$Sheet" "items" "[I") ∈ kc_TB := kc_in 215 (by decide +kernel) (by decide +kernel)
theorem wd_216 : (Cond.fieldLink "DropRows" 180 "DropRows$Sheet" "items" "[I") ∈ kc_TB := kc_in 216 (by decide +kernel) (by decide +kernel)
theorem wd_217 : (Cond.lays "DropRows$Sheet" "DropRows$Sheet" "lost" "Z") ∈ kc_TB := kc_in 217 (by decide +kernel) (by decide +kernel)
theorem wd_218 : (Cond.soleField "DropRows$Sheet" "lost") ∈ kc_TB := kc_in 218 (by decide +kernel) (by decide +kernel)
theorem wd_219 : (Cond.lays "DropRows$Sheet" "DropRows$Sheet" "form" "I") ∈ kc_TB := kc_in 219 (by decide +kernel) (by decide +kernel)
theorem wd_220 : (Cond.soleField "DropRows$Sheet" "form") ∈ kc_TB := kc_in 220 (by decide +kernel) (by decide +kernel)
theorem wd_221 : (Cond.lays "DropRows$Sheet" "DropRows$Sheet" "size" "I") ∈ kc_TB := kc_in 221 (by decide +kernel) (by decide +kernel)
theorem wd_222 : (Cond.soleField "DropRows$Sheet" "size") ∈ kc_TB := kc_in 222 (by decide +kernel) (by decide +kernel)
theorem wd_223 : (Cond.laysFinal "DropRows$Sheet" "DropRows$Sheet" "items" "[I") ∈ kc_TB := kc_in 223 (by decide +kernel) (by decide +kernel)
theorem wd_224 : (Cond.soleField "DropRows$Sheet" "items") ∈ kc_TB := kc_in 224 (by decide +kernel) (by decide +kernel)
theorem wd_225 : (Cond.superclass "DropRows$Sheet" "java/lang/Object") ∈ kc_TB := kc_in 225 (by decide +kernel) (by decide +kernel)
theorem wd_226 : (Cond.fieldLink "DropRows" 10 "DropRows" "grid" "LDropRows$Grid;") ∈ kc_TB := kc_in 226 (by decide +kernel) (by decide +kernel)
theorem wd_227 : (Cond.fieldLink "DropRows" 25 "DropRows" "solver" "LDropRows$Solver;") ∈ kc_TB := kc_in 227 (by decide +kernel) (by decide +kernel)
theorem wd_228 : (Cond.fieldLink "DropRows" 41 "DropRows" "sheets" "[LDropRows$Sheet;") ∈ kc_TB := kc_in 228 (by decide +kernel) (by decide +kernel)
theorem wd_229 : (Cond.fieldLink "DropRows" 32 "DropRows" "current" "LDropRows$Game;") ∈ kc_TB := kc_in 229 (by decide +kernel) (by decide +kernel)
theorem wd_230 : (Cond.fieldLink "DropRows" 36 "DropRows" "spare" "LDropRows$Game;") ∈ kc_TB := kc_in 230 (by decide +kernel) (by decide +kernel)
theorem wd_231 : (Cond.fieldLink "DropRows" 50 "DropRows" "boardsTold" "I") ∈ kc_TB := kc_in 231 (by decide +kernel) (by decide +kernel)
theorem wd_232 : (Cond.fieldLink "DropRows" 202 "DropRows" "latestFinding" "I") ∈ kc_TB := kc_in 232 (by decide +kernel) (by decide +kernel)
theorem wd_233 : (Cond.laysFinal "DropRows" "DropRows" "grid" "LDropRows$Grid;") ∈ kc_TB := kc_in 233 (by decide +kernel) (by decide +kernel)
theorem wd_234 : (Cond.soleField "DropRows" "grid") ∈ kc_TB := kc_in 234 (by decide +kernel) (by decide +kernel)
theorem wd_235 : (Cond.laysFinal "DropRows" "DropRows" "solver" "LDropRows$Solver;") ∈ kc_TB := kc_in 235 (by decide +kernel) (by decide +kernel)
theorem wd_236 : (Cond.soleField "DropRows" "solver") ∈ kc_TB := kc_in 236 (by decide +kernel) (by decide +kernel)
theorem wd_237 : (Cond.laysFinal "DropRows" "DropRows" "sheets" "[LDropRows$Sheet;") ∈ kc_TB := kc_in 237 (by decide +kernel) (by decide +kernel)
theorem wd_238 : (Cond.soleField "DropRows" "sheets") ∈ kc_TB := kc_in 238 (by decide +kernel) (by decide +kernel)
theorem wd_239 : (Cond.lays "DropRows" "DropRows" "current" "LDropRows$Game;") ∈ kc_TB := kc_in 239 (by decide +kernel) (by decide +kernel)
theorem wd_240 : (Cond.soleField "DropRows" "current") ∈ kc_TB := kc_in 240 (by decide +kernel) (by decide +kernel)
theorem wd_241 : (Cond.lays "DropRows" "DropRows" "spare" "LDropRows$Game;") ∈ kc_TB := kc_in 241 (by decide +kernel) (by decide +kernel)
theorem wd_242 : (Cond.soleField "DropRows" "spare") ∈ kc_TB := kc_in 242 (by decide +kernel) (by decide +kernel)
theorem wd_243 : (Cond.lays "DropRows" "DropRows" "boardsTold" "I") ∈ kc_TB := kc_in 243 (by decide +kernel) (by decide +kernel)
theorem wd_244 : (Cond.soleField "DropRows" "boardsTold") ∈ kc_TB := kc_in 244 (by decide +kernel) (by decide +kernel)
theorem wd_245 : (Cond.lays "DropRows" "DropRows" "latestFinding" "I") ∈ kc_TB := kc_in 245 (by decide +kernel) (by decide +kernel)
theorem wd_246 : (Cond.soleField "DropRows" "latestFinding") ∈ kc_TB := kc_in 246 (by decide +kernel) (by decide +kernel)
theorem wd_247 : (Cond.superclass "DropRows" "java/lang/Object") ∈ kc_TB := kc_in 247 (by decide +kernel) (by decide +kernel)
theorem wd_248 : (Cond.methodLink "DropRowsLaw" 13 ⟨"DropRows","board","(IIIZ)I"⟩) ∈ kc_TB := kc_in 248 (by decide +kernel) (by decide +kernel)
theorem wd_249 : (Cond.instanceMethod ⟨"DropRows","board","(IIIZ)I"⟩) ∈ kc_TB := kc_in 249 (by decide +kernel) (by decide +kernel)
theorem wd_250 : (Cond.selects "DropRows" ⟨"DropRows","board","(IIIZ)I"⟩ ⟨"DropRows","board","(IIIZ)I"⟩) ∈ kc_TB := kc_in 250 (by decide +kernel) (by decide +kernel)
theorem wd_251 : (Cond.code ⟨"DropRows","board","(IIIZ)I"⟩ prog_1_method_2_code 5 (Option.some FieldType.int)) ∈ kc_TB := kc_in 251 (by decide +kernel) (by decide +kernel)
theorem wd_252 : (Cond.methodLink "DropRows" 46 ⟨"DropRows","isWithin","(III)Z"⟩) ∈ kc_TB := kc_in 252 (by decide +kernel) (by decide +kernel)
theorem wd_253 : (Cond.static ⟨"DropRows","isWithin","(III)Z"⟩) ∈ kc_TB := kc_in 253 (by decide +kernel) (by decide +kernel)
theorem wd_254 : (Cond.code ⟨"DropRows","isWithin","(III)Z"⟩ prog_1_method_30_code 3 (Option.some FieldType.boolean)) ∈ kc_TB := kc_in 254 (by decide +kernel) (by decide +kernel)
theorem wd_255 : (Cond.methodLink "DropRows" 54 ⟨"DropRows$Solver","forget","()V"⟩) ∈ kc_TB := kc_in 255 (by decide +kernel) (by decide +kernel)
theorem wd_256 : (Cond.instanceMethod ⟨"DropRows$Solver","forget","()V"⟩) ∈ kc_TB := kc_in 256 (by decide +kernel) (by decide +kernel)
theorem wd_257 : (Cond.selects "DropRows$Solver" ⟨"DropRows$Solver","forget","()V"⟩ ⟨"DropRows$Solver","forget","()V"⟩) ∈ kc_TB := kc_in 257 (by decide +kernel) (by decide +kernel)
theorem wd_258 : (Cond.code ⟨"DropRows$Solver","forget","()V"⟩ prog_5_method_2_code 1 (Option.none : Option FieldType)) ∈ kc_TB := kc_in 258 (by decide +kernel) (by decide +kernel)
theorem wd_259 : (Cond.methodLink "DropRows" 57 ⟨"DropRows$Game","clear","()V"⟩) ∈ kc_TB := kc_in 259 (by decide +kernel) (by decide +kernel)
theorem wd_260 : (Cond.instanceMethod ⟨"DropRows$Game","clear","()V"⟩) ∈ kc_TB := kc_in 260 (by decide +kernel) (by decide +kernel)
theorem wd_261 : (Cond.selects "DropRows$Game" ⟨"DropRows$Game","clear","()V"⟩ ⟨"DropRows$Game","clear","()V"⟩) ∈ kc_TB := kc_in 261 (by decide +kernel) (by decide +kernel)
theorem wd_262 : (Cond.code ⟨"DropRows$Game","clear","()V"⟩ prog_2_method_2_code 1 (Option.none : Option FieldType)) ∈ kc_TB := kc_in 262 (by decide +kernel) (by decide +kernel)
theorem wd_263 : (Cond.methodLink "DropRows$Game" 29 ⟨"java/util/Arrays","fill","([II)V"⟩) ∈ kc_TB := kc_in 263 (by decide +kernel) (by decide +kernel)
theorem wd_264 : (Cond.methodLink "DropRowsLaw" 18 ⟨"DropRows","drop","(I)I"⟩) ∈ kc_TB := kc_in 264 (by decide +kernel) (by decide +kernel)
theorem wd_265 : (Cond.instanceMethod ⟨"DropRows","drop","(I)I"⟩) ∈ kc_TB := kc_in 265 (by decide +kernel) (by decide +kernel)
theorem wd_266 : (Cond.selects "DropRows" ⟨"DropRows","drop","(I)I"⟩ ⟨"DropRows","drop","(I)I"⟩) ∈ kc_TB := kc_in 266 (by decide +kernel) (by decide +kernel)
theorem wd_267 : (Cond.code ⟨"DropRows","drop","(I)I"⟩ prog_1_method_3_code 2 (Option.some FieldType.int)) ∈ kc_TB := kc_in 267 (by decide +kernel) (by decide +kernel)
theorem wd_268 : (Cond.methodLink "DropRows" 63 ⟨"DropRows$Game","isOpen","(I)Z"⟩) ∈ kc_TB := kc_in 268 (by decide +kernel) (by decide +kernel)
theorem wd_269 : (Cond.instanceMethod ⟨"DropRows$Game","isOpen","(I)Z"⟩) ∈ kc_TB := kc_in 269 (by decide +kernel) (by decide +kernel)
theorem wd_270 : (Cond.selects "DropRows$Game" ⟨"DropRows$Game","isOpen","(I)Z"⟩ ⟨"DropRows$Game","isOpen","(I)Z"⟩) ∈ kc_TB := kc_in 270 (by decide +kernel) (by decide +kernel)
theorem wd_271 : (Cond.code ⟨"DropRows$Game","isOpen","(I)Z"⟩ prog_2_method_4_code 2 (Option.some FieldType.boolean)) ∈ kc_TB := kc_in 271 (by decide +kernel) (by decide +kernel)
theorem wd_273 : (Cond.methodLink "DropRows" 67 ⟨"DropRows$Game","isOver","()Z"⟩) ∈ kc_TB := kc_in 273 (by decide +kernel) (by decide +kernel)
theorem wd_274 : (Cond.instanceMethod ⟨"DropRows$Game","isOver","()Z"⟩) ∈ kc_TB := kc_in 274 (by decide +kernel) (by decide +kernel)
theorem wd_275 : (Cond.selects "DropRows$Game" ⟨"DropRows$Game","isOver","()Z"⟩ ⟨"DropRows$Game","isOver","()Z"⟩) ∈ kc_TB := kc_in 275 (by decide +kernel) (by decide +kernel)
theorem wd_276 : (Cond.code ⟨"DropRows$Game","isOver","()Z"⟩ prog_2_method_10_code 1 (Option.some FieldType.boolean)) ∈ kc_TB := kc_in 276 (by decide +kernel) (by decide +kernel)
theorem wd_277 : (Cond.methodLink "DropRows$Game" 71 ⟨"DropRows$Game","state","()I"⟩) ∈ kc_TB := kc_in 277 (by decide +kernel) (by decide +kernel)
theorem wd_278 : (Cond.instanceMethod ⟨"DropRows$Game","state","()I"⟩) ∈ kc_TB := kc_in 278 (by decide +kernel) (by decide +kernel)
theorem wd_279 : (Cond.selects "DropRows$Game" ⟨"DropRows$Game","state","()I"⟩ ⟨"DropRows$Game","state","()I"⟩) ∈ kc_TB := kc_in 279 (by decide +kernel) (by decide +kernel)
theorem wd_280 : (Cond.code ⟨"DropRows$Game","state","()I"⟩ prog_2_method_9_code 1 (Option.some FieldType.int)) ∈ kc_TB := kc_in 280 (by decide +kernel) (by decide +kernel)
theorem wd_281 : (Cond.methodLink "DropRows$Game" 61 ⟨"DropRows$Game","side","()I"⟩) ∈ kc_TB := kc_in 281 (by decide +kernel) (by decide +kernel)
theorem wd_282 : (Cond.instanceMethod ⟨"DropRows$Game","side","()I"⟩) ∈ kc_TB := kc_in 282 (by decide +kernel) (by decide +kernel)
theorem wd_283 : (Cond.selects "DropRows$Game" ⟨"DropRows$Game","side","()I"⟩ ⟨"DropRows$Game","side","()I"⟩) ∈ kc_TB := kc_in 283 (by decide +kernel) (by decide +kernel)
theorem wd_284 : (Cond.code ⟨"DropRows$Game","side","()I"⟩ prog_2_method_8_code 1 (Option.some FieldType.int)) ∈ kc_TB := kc_in 284 (by decide +kernel) (by decide +kernel)
theorem wd_285 : (Cond.methodLink "DropRows$Game" 65 ⟨"DropRows$Grid","hasRow","(I)Z"⟩) ∈ kc_TB := kc_in 285 (by decide +kernel) (by decide +kernel)
theorem wd_286 : (Cond.instanceMethod ⟨"DropRows$Grid","hasRow","(I)Z"⟩) ∈ kc_TB := kc_in 286 (by decide +kernel) (by decide +kernel)
theorem wd_287 : (Cond.selects "DropRows$Grid" ⟨"DropRows$Grid","hasRow","(I)Z"⟩ ⟨"DropRows$Grid","hasRow","(I)Z"⟩) ∈ kc_TB := kc_in 287 (by decide +kernel) (by decide +kernel)
theorem wd_288 : (Cond.code ⟨"DropRows$Grid","hasRow","(I)Z"⟩ prog_3_method_7_code 3 (Option.some FieldType.boolean)) ∈ kc_TB := kc_in 288 (by decide +kernel) (by decide +kernel)
theorem wd_289 : (Cond.methodLink "DropRows" 71 ⟨"DropRows$Game","make","(I)I"⟩) ∈ kc_TB := kc_in 289 (by decide +kernel) (by decide +kernel)
theorem wd_290 : (Cond.instanceMethod ⟨"DropRows$Game","make","(I)I"⟩) ∈ kc_TB := kc_in 290 (by decide +kernel) (by decide +kernel)
theorem wd_291 : (Cond.selects "DropRows$Game" ⟨"DropRows$Game","make","(I)I"⟩ ⟨"DropRows$Game","make","(I)I"⟩) ∈ kc_TB := kc_in 291 (by decide +kernel) (by decide +kernel)
theorem wd_292 : (Cond.code ⟨"DropRows$Game","make","(I)I"⟩ prog_2_method_5_code 3 (Option.some FieldType.int)) ∈ kc_TB := kc_in 292 (by decide +kernel) (by decide +kernel)
theorem wd_293 : (Cond.methodLink "DropRows$Game" 54 ⟨"DropRows$Game","isOpen","(I)Z"⟩) ∈ kc_TB := kc_in 293 (by decide +kernel) (by decide +kernel)
theorem wd_294 : (Cond.methodLink "DropRows$Game" 58 ⟨"DropRows$Game","squareIn","(I)I"⟩) ∈ kc_TB := kc_in 294 (by decide +kernel) (by decide +kernel)
theorem wd_296 : (Cond.instanceMethod ⟨"DropRows$Game","squareIn","(I)I"⟩) ∈ kc_TB := kc_in 296 (by decide +kernel) (by decide +kernel)
theorem wd_297 : (Cond.code ⟨"DropRows$Game","squareIn","(I)I"⟩ prog_2_method_7_code 2 (Option.some FieldType.int)) ∈ kc_TB := kc_in 297 (by decide +kernel) (by decide +kernel)
theorem wd_298 : (Cond.methodLink "DropRowsLaw" 23 ⟨"DropRows","back","(I)I"⟩) ∈ kc_TB := kc_in 298 (by decide +kernel) (by decide +kernel)
theorem wd_299 : (Cond.instanceMethod ⟨"DropRows","back","(I)I"⟩) ∈ kc_TB := kc_in 299 (by decide +kernel) (by decide +kernel)
theorem wd_300 : (Cond.selects "DropRows" ⟨"DropRows","back","(I)I"⟩ ⟨"DropRows","back","(I)I"⟩) ∈ kc_TB := kc_in 300 (by decide +kernel) (by decide +kernel)
theorem wd_301 : (Cond.code ⟨"DropRows","back","(I)I"⟩ prog_1_method_4_code 3 (Option.some FieldType.int)) ∈ kc_TB := kc_in 301 (by decide +kernel) (by decide +kernel)
theorem wd_302 : (Cond.methodLink "DropRows" 78 ⟨"DropRows$Game","unmake","()V"⟩) ∈ kc_TB := kc_in 302 (by decide +kernel) (by decide +kernel)
theorem wd_303 : (Cond.instanceMethod ⟨"DropRows$Game","unmake","()V"⟩) ∈ kc_TB := kc_in 303 (by decide +kernel) (by decide +kernel)
theorem wd_304 : (Cond.selects "DropRows$Game" ⟨"DropRows$Game","unmake","()V"⟩ ⟨"DropRows$Game","unmake","()V"⟩) ∈ kc_TB := kc_in 304 (by decide +kernel) (by decide +kernel)
theorem wd_305 : (Cond.code ⟨"DropRows$Game","unmake","()V"⟩ prog_2_method_6_code 2 (Option.none : Option FieldType)) ∈ kc_TB := kc_in 305 (by decide +kernel) (by decide +kernel)
theorem wd_306 : (Cond.methodLink "DropRowsLaw" 27 ⟨"DropRows","move","(I)I"⟩) ∈ kc_TB := kc_in 306 (by decide +kernel) (by decide +kernel)
theorem wd_307 : (Cond.instanceMethod ⟨"DropRows","move","(I)I"⟩) ∈ kc_TB := kc_in 307 (by decide +kernel) (by decide +kernel)
theorem wd_308 : (Cond.selects "DropRows" ⟨"DropRows","move","(I)I"⟩ ⟨"DropRows","move","(I)I"⟩) ∈ kc_TB := kc_in 308 (by decide +kernel) (by decide +kernel)
theorem wd_309 : (Cond.code ⟨"DropRows","move","(I)I"⟩ prog_1_method_5_code 2 (Option.some FieldType.int)) ∈ kc_TB := kc_in 309 (by decide +kernel) (by decide +kernel)
theorem wd_310 : (Cond.methodLink "DropRowsLaw" 31 ⟨"DropRows","at","(I)I"⟩) ∈ kc_TB := kc_in 310 (by decide +kernel) (by decide +kernel)
theorem wd_311 : (Cond.instanceMethod ⟨"DropRows","at","(I)I"⟩) ∈ kc_TB := kc_in 311 (by decide +kernel) (by decide +kernel)
theorem wd_312 : (Cond.selects "DropRows" ⟨"DropRows","at","(I)I"⟩ ⟨"DropRows","at","(I)I"⟩) ∈ kc_TB := kc_in 312 (by decide +kernel) (by decide +kernel)
theorem wd_313 : (Cond.code ⟨"DropRows","at","(I)I"⟩ prog_1_method_6_code 2 (Option.some FieldType.int)) ∈ kc_TB := kc_in 313 (by decide +kernel) (by decide +kernel)
theorem wd_314 : (Cond.methodLink "DropRows" 88 ⟨"DropRows$Game","manOn","(I)I"⟩) ∈ kc_TB := kc_in 314 (by decide +kernel) (by decide +kernel)
theorem wd_315 : (Cond.instanceMethod ⟨"DropRows$Game","manOn","(I)I"⟩) ∈ kc_TB := kc_in 315 (by decide +kernel) (by decide +kernel)
theorem wd_316 : (Cond.selects "DropRows$Game" ⟨"DropRows$Game","manOn","(I)I"⟩ ⟨"DropRows$Game","manOn","(I)I"⟩) ∈ kc_TB := kc_in 316 (by decide +kernel) (by decide +kernel)
theorem wd_317 : (Cond.code ⟨"DropRows$Game","manOn","(I)I"⟩ prog_2_method_11_code 2 (Option.some FieldType.int)) ∈ kc_TB := kc_in 317 (by decide +kernel) (by decide +kernel)
theorem wd_318 : (Cond.methodLink "DropRowsLaw" 35 ⟨"DropRows","game","(I)I"⟩) ∈ kc_TB := kc_in 318 (by decide +kernel) (by decide +kernel)
theorem wd_319 : (Cond.instanceMethod ⟨"DropRows","game","(I)I"⟩) ∈ kc_TB := kc_in 319 (by decide +kernel) (by decide +kernel)
theorem wd_320 : (Cond.selects "DropRows" ⟨"DropRows","game","(I)I"⟩ ⟨"DropRows","game","(I)I"⟩) ∈ kc_TB := kc_in 320 (by decide +kernel) (by decide +kernel)
theorem wd_321 : (Cond.code ⟨"DropRows","game","(I)I"⟩ prog_1_method_7_code 2 (Option.some FieldType.int)) ∈ kc_TB := kc_in 321 (by decide +kernel) (by decide +kernel)
theorem wd_322 : (Cond.methodLink "DropRows" 91 ⟨"DropRows$Game","side","()I"⟩) ∈ kc_TB := kc_in 322 (by decide +kernel) (by decide +kernel)
theorem wd_323 : (Cond.methodLink "DropRows" 95 ⟨"DropRows$Game","state","()I"⟩) ∈ kc_TB := kc_in 323 (by decide +kernel) (by decide +kernel)
theorem wd_324 : (Cond.methodLink "DropRows" 98 ⟨"DropRows$Game","openColumns","()I"⟩) ∈ kc_TB := kc_in 324 (by decide +kernel) (by decide +kernel)
theorem wd_325 : (Cond.instanceMethod ⟨"DropRows$Game","openColumns","()I"⟩) ∈ kc_TB := kc_in 325 (by decide +kernel) (by decide +kernel)
theorem wd_326 : (Cond.selects "DropRows$Game" ⟨"DropRows$Game","openColumns","()I"⟩ ⟨"DropRows$Game","openColumns","()I"⟩) ∈ kc_TB := kc_in 326 (by decide +kernel) (by decide +kernel)
theorem wd_327 : (Cond.code ⟨"DropRows$Game","openColumns","()I"⟩ prog_2_method_12_code 3 (Option.some FieldType.int)) ∈ kc_TB := kc_in 327 (by decide +kernel) (by decide +kernel)
theorem wd_328 : (Cond.methodLink "DropRows" 104 ⟨"DropRows$Grid","rowsWithout","(I)I"⟩) ∈ kc_TB := kc_in 328 (by decide +kernel) (by decide +kernel)
theorem wd_329 : (Cond.instanceMethod ⟨"DropRows$Grid","rowsWithout","(I)I"⟩) ∈ kc_TB := kc_in 329 (by decide +kernel) (by decide +kernel)
theorem wd_330 : (Cond.selects "DropRows$Grid" ⟨"DropRows$Grid","rowsWithout","(I)I"⟩ ⟨"DropRows$Grid","rowsWithout","(I)I"⟩) ∈ kc_TB := kc_in 330 (by decide +kernel) (by decide +kernel)
theorem wd_331 : (Cond.code ⟨"DropRows$Grid","rowsWithout","(I)I"⟩ prog_3_method_9_code 4 (Option.some FieldType.int)) ∈ kc_TB := kc_in 331 (by decide +kernel) (by decide +kernel)
theorem wd_332 : (Cond.methodLink "DropRowsLaw" 39 ⟨"DropRows","won","(I)I"⟩) ∈ kc_TB := kc_in 332 (by decide +kernel) (by decide +kernel)
theorem wd_333 : (Cond.instanceMethod ⟨"DropRows","won","(I)I"⟩) ∈ kc_TB := kc_in 333 (by decide +kernel) (by decide +kernel)
theorem wd_334 : (Cond.selects "DropRows" ⟨"DropRows","won","(I)I"⟩ ⟨"DropRows","won","(I)I"⟩) ∈ kc_TB := kc_in 334 (by decide +kernel) (by decide +kernel)
theorem wd_335 : (Cond.code ⟨"DropRows","won","(I)I"⟩ prog_1_method_8_code 2 (Option.some FieldType.int)) ∈ kc_TB := kc_in 335 (by decide +kernel) (by decide +kernel)
theorem wd_336 : (Cond.methodLink "DropRows" 110 ⟨"DropRows$Grid","firstRowOf","(I)I"⟩) ∈ kc_TB := kc_in 336 (by decide +kernel) (by decide +kernel)
theorem wd_337 : (Cond.instanceMethod ⟨"DropRows$Grid","firstRowOf","(I)I"⟩) ∈ kc_TB := kc_in 337 (by decide +kernel) (by decide +kernel)
theorem wd_338 : (Cond.selects "DropRows$Grid" ⟨"DropRows$Grid","firstRowOf","(I)I"⟩ ⟨"DropRows$Grid","firstRowOf","(I)I"⟩) ∈ kc_TB := kc_in 338 (by decide +kernel) (by decide +kernel)
theorem wd_339 : (Cond.code ⟨"DropRows$Grid","firstRowOf","(I)I"⟩ prog_3_method_10_code 4 (Option.some FieldType.int)) ∈ kc_TB := kc_in 339 (by decide +kernel) (by decide +kernel)
theorem wd_340 : (Cond.methodLink "DropRows$Grid" 63 ⟨"DropRows$Grid","comesAhead","(II)Z"⟩) ∈ kc_TB := kc_in 340 (by decide +kernel) (by decide +kernel)
theorem wd_341 : (Cond.static ⟨"DropRows$Grid","comesAhead","(II)Z"⟩) ∈ kc_TB := kc_in 341 (by decide +kernel) (by decide +kernel)
theorem wd_342 : (Cond.code ⟨"DropRows$Grid","comesAhead","(II)Z"⟩ prog_3_method_11_code 3 (Option.some FieldType.boolean)) ∈ kc_TB := kc_in 342 (by decide +kernel) (by decide +kernel)
theorem wd_343 : (Cond.methodLink "DropRows" 113 ⟨"DropRows","nthSquare","(II)I"⟩) ∈ kc_TB := kc_in 343 (by decide +kernel) (by decide +kernel)
theorem wd_344 : (Cond.static ⟨"DropRows","nthSquare","(II)I"⟩) ∈ kc_TB := kc_in 344 (by decide +kernel) (by decide +kernel)
theorem wd_345 : (Cond.code ⟨"DropRows","nthSquare","(II)I"⟩ prog_1_method_35_code 4 (Option.some FieldType.int)) ∈ kc_TB := kc_in 345 (by decide +kernel) (by decide +kernel)
theorem wd_346 : (Cond.methodLink "DropRows" 142 ⟨"java/lang/Integer","bitCount","(I)I"⟩) ∈ kc_TB := kc_in 346 (by decide +kernel) (by decide +kernel)
theorem wd_347 : (Cond.static ⟨"java/lang/Integer","bitCount","(I)I"⟩) ∈ kc_TB := kc_in 347 (by decide +kernel) (by decide +kernel)
theorem wd_348 : (Cond.code ⟨"java/lang/Integer","bitCount","(I)I"⟩ prog_8_method_49_code 1 (Option.some FieldType.int)) ∈ kc_TB := kc_in 348 (by decide +kernel) (by decide +kernel)
theorem wd_349 : (Cond.constant "java/lang/Integer" 265 (1431655765 : Int32)) ∈ kc_TB := kc_in 349 (by decide +kernel) (by decide +kernel)
theorem wd_350 : (Cond.constant "java/lang/Integer" 266 (858993459 : Int32)) ∈ kc_TB := kc_in 350 (by decide +kernel) (by decide +kernel)
theorem wd_351 : (Cond.constant "java/lang/Integer" 267 (252645135 : Int32)) ∈ kc_TB := kc_in 351 (by decide +kernel) (by decide +kernel)
theorem wd_352 : (Cond.methodLink "DropRowsLaw" 43 ⟨"DropRows","worth","()I"⟩) ∈ kc_TB := kc_in 352 (by decide +kernel) (by decide +kernel)
theorem wd_353 : (Cond.instanceMethod ⟨"DropRows","worth","()I"⟩) ∈ kc_TB := kc_in 353 (by decide +kernel) (by decide +kernel)
theorem wd_354 : (Cond.selects "DropRows" ⟨"DropRows","worth","()I"⟩ ⟨"DropRows","worth","()I"⟩) ∈ kc_TB := kc_in 354 (by decide +kernel) (by decide +kernel)
theorem wd_355 : (Cond.code ⟨"DropRows","worth","()I"⟩ prog_1_method_9_code 1 (Option.some FieldType.int)) ∈ kc_TB := kc_in 355 (by decide +kernel) (by decide +kernel)
theorem wd_356 : (Cond.methodLink "DropRows" 117 ⟨"DropRows$Solver","start","(LDropRows$Game;)V"⟩) ∈ kc_TB := kc_in 356 (by decide +kernel) (by decide +kernel)
theorem wd_357 : (Cond.instanceMethod ⟨"DropRows$Solver","start","(LDropRows$Game;)V"⟩) ∈ kc_TB := kc_in 357 (by decide +kernel) (by decide +kernel)
theorem wd_358 : (Cond.selects "DropRows$Solver" ⟨"DropRows$Solver","start","(LDropRows$Game;)V"⟩ ⟨"DropRows$Solver","start","(LDropRows$Game;)V"⟩) ∈ kc_TB := kc_in 358 (by decide +kernel) (by decide +kernel)
theorem wd_359 : (Cond.code ⟨"DropRows$Solver","start","(LDropRows$Game;)V"⟩ prog_5_method_5_code 5 (Option.none : Option FieldType)) ∈ kc_TB := kc_in 359 (by decide +kernel) (by decide +kernel)
theorem wd_360 : (Cond.methodLink "DropRows$Solver" 74 ⟨"DropRows$Solver","startEmpty","()V"⟩) ∈ kc_TB := kc_in 360 (by decide +kernel) (by decide +kernel)
theorem wd_362 : (Cond.instanceMethod ⟨"DropRows$Solver","startEmpty","()V"⟩) ∈ kc_TB := kc_in 362 (by decide +kernel) (by decide +kernel)
theorem wd_363 : (Cond.code ⟨"DropRows$Solver","startEmpty","()V"⟩ prog_5_method_4_code 1 (Option.none : Option FieldType)) ∈ kc_TB := kc_in 363 (by decide +kernel) (by decide +kernel)
theorem wd_364 : (Cond.methodLink "DropRows$Solver" 56 ⟨"DropRows$Solver","prepare","()V"⟩) ∈ kc_TB := kc_in 364 (by decide +kernel) (by decide +kernel)
theorem wd_366 : (Cond.instanceMethod ⟨"DropRows$Solver","prepare","()V"⟩) ∈ kc_TB := kc_in 366 (by decide +kernel) (by decide +kernel)
theorem wd_367 : (Cond.code ⟨"DropRows$Solver","prepare","()V"⟩ prog_5_method_3_code 5 (Option.none : Option FieldType)) ∈ kc_TB := kc_in 367 (by decide +kernel) (by decide +kernel)
theorem wd_368 : (Cond.methodLink "DropRows$Solver" 47 ⟨"java/util/Arrays","fill","([JIIJ)V"⟩) ∈ kc_TB := kc_in 368 (by decide +kernel) (by decide +kernel)
theorem wd_369 : (Cond.static ⟨"java/util/Arrays","fill","([JIIJ)V"⟩) ∈ kc_TB := kc_in 369 (by decide +kernel) (by decide +kernel)
theorem wd_370 : (Cond.code ⟨"java/util/Arrays","fill","([JIIJ)V"⟩ prog_11_method_102_code 6 (Option.none : Option FieldType)) ∈ kc_TB := kc_in 370 (by decide +kernel) (by decide +kernel)
theorem wd_371 : (Cond.methodLink "java/util/Arrays" 13 ⟨"java/util/Arrays","rangeCheck","(III)V"⟩) ∈ kc_TB := kc_in 371 (by decide +kernel) (by decide +kernel)
theorem wd_372 : (Cond.static ⟨"java/util/Arrays","rangeCheck","(III)V"⟩) ∈ kc_TB := kc_in 372 (by decide +kernel) (by decide +kernel)
theorem wd_373 : (Cond.code ⟨"java/util/Arrays","rangeCheck","(III)V"⟩ prog_11_method_30_code 3 (Option.none : Option FieldType)) ∈ kc_TB := kc_in 373 (by decide +kernel) (by decide +kernel)
theorem wd_374 : (Cond.methodLink "DropRows$Solver" 53 ⟨"java/util/Arrays","fill","([II)V"⟩) ∈ kc_TB := kc_in 374 (by decide +kernel) (by decide +kernel)
theorem wd_375 : (Cond.methodLink "DropRows$Solver" 88 ⟨"DropRows$Game","side","()I"⟩) ∈ kc_TB := kc_in 375 (by decide +kernel) (by decide +kernel)
theorem wd_376 : (Cond.methodLink "DropRows" 121 ⟨"DropRows$Solver","worthOfStart","()I"⟩) ∈ kc_TB := kc_in 376 (by decide +kernel) (by decide +kernel)
theorem wd_377 : (Cond.instanceMethod ⟨"DropRows$Solver","worthOfStart","()I"⟩) ∈ kc_TB := kc_in 377 (by decide +kernel) (by decide +kernel)
theorem wd_378 : (Cond.selects "DropRows$Solver" ⟨"DropRows$Solver","worthOfStart","()I"⟩ ⟨"DropRows$Solver","worthOfStart","()I"⟩) ∈ kc_TB := kc_in 378 (by decide +kernel) (by decide +kernel)
theorem wd_379 : (Cond.code ⟨"DropRows$Solver","worthOfStart","()I"⟩ prog_5_method_6_code 1 (Option.some FieldType.int)) ∈ kc_TB := kc_in 379 (by decide +kernel) (by decide +kernel)
theorem wd_380 : (Cond.methodLink "DropRows$Solver" 92 ⟨"DropRows$Solver","search","(IIIII)I"⟩) ∈ kc_TB := kc_in 380 (by decide +kernel) (by decide +kernel)
theorem wd_382 : (Cond.instanceMethod ⟨"DropRows$Solver","search","(IIIII)I"⟩) ∈ kc_TB := kc_in 382 (by decide +kernel) (by decide +kernel)
theorem wd_383 : (Cond.code ⟨"DropRows$Solver","search","(IIIII)I"⟩ prog_5_method_9_code 10 (Option.some FieldType.int)) ∈ kc_TB := kc_in 383 (by decide +kernel) (by decide +kernel)
theorem wd_384 : (Cond.methodLink "DropRows$Solver" 107 ⟨"java/lang/Math","min","(II)I"⟩) ∈ kc_TB := kc_in 384 (by decide +kernel) (by decide +kernel)
theorem wd_385 : (Cond.static ⟨"java/lang/Math","min","(II)I"⟩) ∈ kc_TB := kc_in 385 (by decide +kernel) (by decide +kernel)
theorem wd_386 : (Cond.code ⟨"java/lang/Math","min","(II)I"⟩ prog_9_method_69_code 2 (Option.some FieldType.int)) ∈ kc_TB := kc_in 386 (by decide +kernel) (by decide +kernel)
theorem wd_387 : (Cond.methodLink "DropRows$Solver" 113 ⟨"DropRows$Solver","keptAt","(I)I"⟩) ∈ kc_TB := kc_in 387 (by decide +kernel) (by decide +kernel)
theorem wd_389 : (Cond.instanceMethod ⟨"DropRows$Solver","keptAt","(I)I"⟩) ∈ kc_TB := kc_in 389 (by decide +kernel) (by decide +kernel)
theorem wd_390 : (Cond.code ⟨"DropRows$Solver","keptAt","(I)I"⟩ prog_5_method_12_code 3 (Option.some FieldType.int)) ∈ kc_TB := kc_in 390 (by decide +kernel) (by decide +kernel)
theorem wd_391 : (Cond.methodLink "DropRows$Solver" 96 ⟨"DropRows$Solver","tryColumn","(IIIIII)I"⟩) ∈ kc_TB := kc_in 391 (by decide +kernel) (by decide +kernel)
theorem wd_393 : (Cond.instanceMethod ⟨"DropRows$Solver","tryColumn","(IIIIII)I"⟩) ∈ kc_TB := kc_in 393 (by decide +kernel) (by decide +kernel)
theorem wd_394 : (Cond.code ⟨"DropRows$Solver","tryColumn","(IIIIII)I"⟩ prog_5_method_10_code 14 (Option.some FieldType.int)) ∈ kc_TB := kc_in 394 (by decide +kernel) (by decide +kernel)
theorem wd_395 : (Cond.methodLink "DropRows$Solver" 121 ⟨"DropRows$Grid","hasRowThrough","(II)Z"⟩) ∈ kc_TB := kc_in 395 (by decide +kernel) (by decide +kernel)
theorem wd_396 : (Cond.instanceMethod ⟨"DropRows$Grid","hasRowThrough","(II)Z"⟩) ∈ kc_TB := kc_in 396 (by decide +kernel) (by decide +kernel)
theorem wd_397 : (Cond.selects "DropRows$Grid" ⟨"DropRows$Grid","hasRowThrough","(II)Z"⟩ ⟨"DropRows$Grid","hasRowThrough","(II)Z"⟩) ∈ kc_TB := kc_in 397 (by decide +kernel) (by decide +kernel)
theorem wd_398 : (Cond.code ⟨"DropRows$Grid","hasRowThrough","(II)Z"⟩ prog_3_method_8_code 7 (Option.some FieldType.boolean)) ∈ kc_TB := kc_in 398 (by decide +kernel) (by decide +kernel)
theorem wd_399 : (Cond.methodLink "DropRows$Solver" 117 ⟨"DropRows$Solver","keep","(IIII)V"⟩) ∈ kc_TB := kc_in 399 (by decide +kernel) (by decide +kernel)
theorem wd_401 : (Cond.instanceMethod ⟨"DropRows$Solver","keep","(IIII)V"⟩) ∈ kc_TB := kc_in 401 (by decide +kernel) (by decide +kernel)
theorem wd_402 : (Cond.code ⟨"DropRows$Solver","keep","(IIII)V"⟩ prog_5_method_13_code 8 (Option.none : Option FieldType)) ∈ kc_TB := kc_in 402 (by decide +kernel) (by decide +kernel)
theorem wd_403 : (Cond.methodLink "DropRows$Solver" 131 ⟨"DropRows$Solver","shareOf","(I)I"⟩) ∈ kc_TB := kc_in 403 (by decide +kernel) (by decide +kernel)
theorem wd_404 : (Cond.static ⟨"DropRows$Solver","shareOf","(I)I"⟩) ∈ kc_TB := kc_in 404 (by decide +kernel) (by decide +kernel)
theorem wd_405 : (Cond.code ⟨"DropRows$Solver","shareOf","(I)I"⟩ prog_5_method_14_code 1 (Option.some FieldType.int)) ∈ kc_TB := kc_in 405 (by decide +kernel) (by decide +kernel)
theorem wd_406 : (Cond.methodLink "DropRows$Solver" 128 ⟨"DropRows$Solver","seenFromAhead","(I)I"⟩) ∈ kc_TB := kc_in 406 (by decide +kernel) (by decide +kernel)
theorem wd_407 : (Cond.static ⟨"DropRows$Solver","seenFromAhead","(I)I"⟩) ∈ kc_TB := kc_in 407 (by decide +kernel) (by decide +kernel)
theorem wd_408 : (Cond.code ⟨"DropRows$Solver","seenFromAhead","(I)I"⟩ prog_5_method_11_code 1 (Option.some FieldType.int)) ∈ kc_TB := kc_in 408 (by decide +kernel) (by decide +kernel)
theorem wd_409 : (Cond.methodLink "DropRowsLaw" 48 ⟨"DropRows","worthOf","(I)I"⟩) ∈ kc_TB := kc_in 409 (by decide +kernel) (by decide +kernel)
theorem wd_410 : (Cond.instanceMethod ⟨"DropRows","worthOf","(I)I"⟩) ∈ kc_TB := kc_in 410 (by decide +kernel) (by decide +kernel)
theorem wd_411 : (Cond.selects "DropRows" ⟨"DropRows","worthOf","(I)I"⟩ ⟨"DropRows","worthOf","(I)I"⟩) ∈ kc_TB := kc_in 411 (by decide +kernel) (by decide +kernel)
theorem wd_412 : (Cond.code ⟨"DropRows","worthOf","(I)I"⟩ prog_1_method_10_code 2 (Option.some FieldType.int)) ∈ kc_TB := kc_in 412 (by decide +kernel) (by decide +kernel)
theorem wd_413 : (Cond.methodLink "DropRows" 124 ⟨"DropRows$Solver","worthOfMove","(I)I"⟩) ∈ kc_TB := kc_in 413 (by decide +kernel) (by decide +kernel)
theorem wd_414 : (Cond.instanceMethod ⟨"DropRows$Solver","worthOfMove","(I)I"⟩) ∈ kc_TB := kc_in 414 (by decide +kernel) (by decide +kernel)
theorem wd_415 : (Cond.selects "DropRows$Solver" ⟨"DropRows$Solver","worthOfMove","(I)I"⟩ ⟨"DropRows$Solver","worthOfMove","(I)I"⟩) ∈ kc_TB := kc_in 415 (by decide +kernel) (by decide +kernel)
theorem wd_416 : (Cond.code ⟨"DropRows$Solver","worthOfMove","(I)I"⟩ prog_5_method_7_code 2 (Option.some FieldType.int)) ∈ kc_TB := kc_in 416 (by decide +kernel) (by decide +kernel)
theorem wd_417 : (Cond.methodLink "DropRowsLaw" 52 ⟨"DropRows","best","()I"⟩) ∈ kc_TB := kc_in 417 (by decide +kernel) (by decide +kernel)
theorem wd_418 : (Cond.instanceMethod ⟨"DropRows","best","()I"⟩) ∈ kc_TB := kc_in 418 (by decide +kernel) (by decide +kernel)
theorem wd_419 : (Cond.selects "DropRows" ⟨"DropRows","best","()I"⟩ ⟨"DropRows","best","()I"⟩) ∈ kc_TB := kc_in 419 (by decide +kernel) (by decide +kernel)
theorem wd_420 : (Cond.code ⟨"DropRows","best","()I"⟩ prog_1_method_11_code 1 (Option.some FieldType.int)) ∈ kc_TB := kc_in 420 (by decide +kernel) (by decide +kernel)
theorem wd_421 : (Cond.methodLink "DropRows" 127 ⟨"DropRows","bestColumn","()I"⟩) ∈ kc_TB := kc_in 421 (by decide +kernel) (by decide +kernel)
theorem wd_423 : (Cond.instanceMethod ⟨"DropRows","bestColumn","()I"⟩) ∈ kc_TB := kc_in 423 (by decide +kernel) (by decide +kernel)
theorem wd_424 : (Cond.code ⟨"DropRows","bestColumn","()I"⟩ prog_1_method_34_code 5 (Option.some FieldType.int)) ∈ kc_TB := kc_in 424 (by decide +kernel) (by decide +kernel)
theorem wd_425 : (Cond.methodLink "DropRowsLaw" 56 ⟨"DropRows","as","()I"⟩) ∈ kc_TB := kc_in 425 (by decide +kernel) (by decide +kernel)
theorem wd_426 : (Cond.instanceMethod ⟨"DropRows","as","()I"⟩) ∈ kc_TB := kc_in 426 (by decide +kernel) (by decide +kernel)
theorem wd_427 : (Cond.selects "DropRows" ⟨"DropRows","as","()I"⟩ ⟨"DropRows","as","()I"⟩) ∈ kc_TB := kc_in 427 (by decide +kernel) (by decide +kernel)
theorem wd_428 : (Cond.code ⟨"DropRows","as","()I"⟩ prog_1_method_12_code 4 (Option.some FieldType.int)) ∈ kc_TB := kc_in 428 (by decide +kernel) (by decide +kernel)
theorem wd_429 : (Cond.methodLink "DropRowsLaw" 60 ⟨"DropRows","play","()I"⟩) ∈ kc_TB := kc_in 429 (by decide +kernel) (by decide +kernel)
theorem wd_430 : (Cond.instanceMethod ⟨"DropRows","play","()I"⟩) ∈ kc_TB := kc_in 430 (by decide +kernel) (by decide +kernel)
theorem wd_431 : (Cond.selects "DropRows" ⟨"DropRows","play","()I"⟩ ⟨"DropRows","play","()I"⟩) ∈ kc_TB := kc_in 431 (by decide +kernel) (by decide +kernel)
theorem wd_432 : (Cond.code ⟨"DropRows","play","()I"⟩ prog_1_method_13_code 3 (Option.some FieldType.int)) ∈ kc_TB := kc_in 432 (by decide +kernel) (by decide +kernel)
theorem wd_433 : (Cond.methodLink "DropRowsLaw" 64 ⟨"DropRows","positions","(I)I"⟩) ∈ kc_TB := kc_in 433 (by decide +kernel) (by decide +kernel)
theorem wd_434 : (Cond.instanceMethod ⟨"DropRows","positions","(I)I"⟩) ∈ kc_TB := kc_in 434 (by decide +kernel) (by decide +kernel)
theorem wd_435 : (Cond.selects "DropRows" ⟨"DropRows","positions","(I)I"⟩ ⟨"DropRows","positions","(I)I"⟩) ∈ kc_TB := kc_in 435 (by decide +kernel) (by decide +kernel)
theorem wd_436 : (Cond.code ⟨"DropRows","positions","(I)I"⟩ prog_1_method_14_code 2 (Option.some FieldType.int)) ∈ kc_TB := kc_in 436 (by decide +kernel) (by decide +kernel)
theorem wd_437 : (Cond.methodLink "DropRows" 133 ⟨"DropRows$Solver","tally","(II)I"⟩) ∈ kc_TB := kc_in 437 (by decide +kernel) (by decide +kernel)
theorem wd_438 : (Cond.instanceMethod ⟨"DropRows$Solver","tally","(II)I"⟩) ∈ kc_TB := kc_in 438 (by decide +kernel) (by decide +kernel)
theorem wd_439 : (Cond.selects "DropRows$Solver" ⟨"DropRows$Solver","tally","(II)I"⟩ ⟨"DropRows$Solver","tally","(II)I"⟩) ∈ kc_TB := kc_in 439 (by decide +kernel) (by decide +kernel)
theorem wd_440 : (Cond.code ⟨"DropRows$Solver","tally","(II)I"⟩ prog_5_method_8_code 3 (Option.some FieldType.int)) ∈ kc_TB := kc_in 440 (by decide +kernel) (by decide +kernel)
theorem wd_441 : (Cond.methodLink "DropRows$Solver" 100 ⟨"DropRows$Solver","worthOfStart","()I"⟩) ∈ kc_TB := kc_in 441 (by decide +kernel) (by decide +kernel)
theorem wd_443 : (Cond.methodLink "DropRowsLaw" 68 ⟨"DropRows","wins","(I)I"⟩) ∈ kc_TB := kc_in 443 (by decide +kernel) (by decide +kernel)
theorem wd_444 : (Cond.instanceMethod ⟨"DropRows","wins","(I)I"⟩) ∈ kc_TB := kc_in 444 (by decide +kernel) (by decide +kernel)
theorem wd_445 : (Cond.selects "DropRows" ⟨"DropRows","wins","(I)I"⟩ ⟨"DropRows","wins","(I)I"⟩) ∈ kc_TB := kc_in 445 (by decide +kernel) (by decide +kernel)
theorem wd_446 : (Cond.code ⟨"DropRows","wins","(I)I"⟩ prog_1_method_15_code 2 (Option.some FieldType.int)) ∈ kc_TB := kc_in 446 (by decide +kernel) (by decide +kernel)
theorem wd_447 : (Cond.methodLink "DropRowsLaw" 72 ⟨"DropRows","share","(II)I"⟩) ∈ kc_TB := kc_in 447 (by decide +kernel) (by decide +kernel)
theorem wd_448 : (Cond.instanceMethod ⟨"DropRows","share","(II)I"⟩) ∈ kc_TB := kc_in 448 (by decide +kernel) (by decide +kernel)
theorem wd_449 : (Cond.selects "DropRows" ⟨"DropRows","share","(II)I"⟩ ⟨"DropRows","share","(II)I"⟩) ∈ kc_TB := kc_in 449 (by decide +kernel) (by decide +kernel)
theorem wd_450 : (Cond.code ⟨"DropRows","share","(II)I"⟩ prog_1_method_16_code 3 (Option.some FieldType.int)) ∈ kc_TB := kc_in 450 (by decide +kernel) (by decide +kernel)
theorem wd_451 : (Cond.methodLink "DropRowsLaw" 77 ⟨"DropRows","even","()I"⟩) ∈ kc_TB := kc_in 451 (by decide +kernel) (by decide +kernel)
theorem wd_452 : (Cond.instanceMethod ⟨"DropRows","even","()I"⟩) ∈ kc_TB := kc_in 452 (by decide +kernel) (by decide +kernel)
theorem wd_453 : (Cond.selects "DropRows" ⟨"DropRows","even","()I"⟩ ⟨"DropRows","even","()I"⟩) ∈ kc_TB := kc_in 453 (by decide +kernel) (by decide +kernel)
theorem wd_454 : (Cond.code ⟨"DropRows","even","()I"⟩ prog_1_method_17_code 2 (Option.some FieldType.int)) ∈ kc_TB := kc_in 454 (by decide +kernel) (by decide +kernel)
theorem wd_455 : (Cond.methodLink "DropRows" 136 ⟨"DropRows$Grid","imageOf","(I)I"⟩) ∈ kc_TB := kc_in 455 (by decide +kernel) (by decide +kernel)
theorem wd_456 : (Cond.instanceMethod ⟨"DropRows$Grid","imageOf","(I)I"⟩) ∈ kc_TB := kc_in 456 (by decide +kernel) (by decide +kernel)
theorem wd_457 : (Cond.selects "DropRows$Grid" ⟨"DropRows$Grid","imageOf","(I)I"⟩ ⟨"DropRows$Grid","imageOf","(I)I"⟩) ∈ kc_TB := kc_in 457 (by decide +kernel) (by decide +kernel)
theorem wd_458 : (Cond.code ⟨"DropRows$Grid","imageOf","(I)I"⟩ prog_3_method_12_code 3 (Option.some FieldType.int)) ∈ kc_TB := kc_in 458 (by decide +kernel) (by decide +kernel)
theorem wd_459 : (Cond.methodLink "DropRowsLaw" 81 ⟨"DropRows","threats","(I)I"⟩) ∈ kc_TB := kc_in 459 (by decide +kernel) (by decide +kernel)
theorem wd_460 : (Cond.instanceMethod ⟨"DropRows","threats","(I)I"⟩) ∈ kc_TB := kc_in 460 (by decide +kernel) (by decide +kernel)
theorem wd_461 : (Cond.selects "DropRows" ⟨"DropRows","threats","(I)I"⟩ ⟨"DropRows","threats","(I)I"⟩) ∈ kc_TB := kc_in 461 (by decide +kernel) (by decide +kernel)
theorem wd_462 : (Cond.code ⟨"DropRows","threats","(I)I"⟩ prog_1_method_18_code 2 (Option.some FieldType.int)) ∈ kc_TB := kc_in 462 (by decide +kernel) (by decide +kernel)
theorem wd_463 : (Cond.methodLink "DropRows" 139 ⟨"DropRows$Game","threatsOf","(I)I"⟩) ∈ kc_TB := kc_in 463 (by decide +kernel) (by decide +kernel)
theorem wd_464 : (Cond.instanceMethod ⟨"DropRows$Game","threatsOf","(I)I"⟩) ∈ kc_TB := kc_in 464 (by decide +kernel) (by decide +kernel)
theorem wd_465 : (Cond.selects "DropRows$Game" ⟨"DropRows$Game","threatsOf","(I)I"⟩ ⟨"DropRows$Game","threatsOf","(I)I"⟩) ∈ kc_TB := kc_in 465 (by decide +kernel) (by decide +kernel)
theorem wd_466 : (Cond.code ⟨"DropRows$Game","threatsOf","(I)I"⟩ prog_2_method_13_code 4 (Option.some FieldType.int)) ∈ kc_TB := kc_in 466 (by decide +kernel) (by decide +kernel)
theorem wd_467 : (Cond.methodLink "DropRows$Game" 74 ⟨"DropRows$Game","isThreat","(II)Z"⟩) ∈ kc_TB := kc_in 467 (by decide +kernel) (by decide +kernel)
theorem wd_469 : (Cond.instanceMethod ⟨"DropRows$Game","isThreat","(II)Z"⟩) ∈ kc_TB := kc_in 469 (by decide +kernel) (by decide +kernel)
theorem wd_470 : (Cond.code ⟨"DropRows$Game","isThreat","(II)Z"⟩ prog_2_method_14_code 3 (Option.some FieldType.boolean)) ∈ kc_TB := kc_in 470 (by decide +kernel) (by decide +kernel)
theorem wd_471 : (Cond.methodLink "DropRows$Game" 78 ⟨"DropRows$Game","manOn","(I)I"⟩) ∈ kc_TB := kc_in 471 (by decide +kernel) (by decide +kernel)
theorem wd_472 : (Cond.methodLink "DropRowsLaw" 85 ⟨"DropRows","threat","(II)I"⟩) ∈ kc_TB := kc_in 472 (by decide +kernel) (by decide +kernel)
theorem wd_473 : (Cond.instanceMethod ⟨"DropRows","threat","(II)I"⟩) ∈ kc_TB := kc_in 473 (by decide +kernel) (by decide +kernel)
theorem wd_474 : (Cond.selects "DropRows" ⟨"DropRows","threat","(II)I"⟩ ⟨"DropRows","threat","(II)I"⟩) ∈ kc_TB := kc_in 474 (by decide +kernel) (by decide +kernel)
theorem wd_475 : (Cond.code ⟨"DropRows","threat","(II)I"⟩ prog_1_method_19_code 4 (Option.some FieldType.int)) ∈ kc_TB := kc_in 475 (by decide +kernel) (by decide +kernel)
theorem wd_476 : (Cond.methodLink "DropRowsLaw" 89 ⟨"DropRows","waiting","()I"⟩) ∈ kc_TB := kc_in 476 (by decide +kernel) (by decide +kernel)
theorem wd_477 : (Cond.instanceMethod ⟨"DropRows","waiting","()I"⟩) ∈ kc_TB := kc_in 477 (by decide +kernel) (by decide +kernel)
theorem wd_478 : (Cond.selects "DropRows" ⟨"DropRows","waiting","()I"⟩ ⟨"DropRows","waiting","()I"⟩) ∈ kc_TB := kc_in 478 (by decide +kernel) (by decide +kernel)
theorem wd_479 : (Cond.code ⟨"DropRows","waiting","()I"⟩ prog_1_method_20_code 2 (Option.some FieldType.int)) ∈ kc_TB := kc_in 479 (by decide +kernel) (by decide +kernel)
theorem wd_480 : (Cond.methodLink "DropRows" 147 ⟨"DropRows$Game","follow","(LDropRows$Game;)V"⟩) ∈ kc_TB := kc_in 480 (by decide +kernel) (by decide +kernel)
theorem wd_481 : (Cond.instanceMethod ⟨"DropRows$Game","follow","(LDropRows$Game;)V"⟩) ∈ kc_TB := kc_in 481 (by decide +kernel) (by decide +kernel)
theorem wd_482 : (Cond.selects "DropRows$Game" ⟨"DropRows$Game","follow","(LDropRows$Game;)V"⟩ ⟨"DropRows$Game","follow","(LDropRows$Game;)V"⟩) ∈ kc_TB := kc_in 482 (by decide +kernel) (by decide +kernel)
theorem wd_483 : (Cond.code ⟨"DropRows$Game","follow","(LDropRows$Game;)V"⟩ prog_2_method_3_code 3 (Option.none : Option FieldType)) ∈ kc_TB := kc_in 483 (by decide +kernel) (by decide +kernel)
theorem wd_484 : (Cond.methodLink "DropRows$Game" 35 ⟨"DropRows$Game","clear","()V"⟩) ∈ kc_TB := kc_in 484 (by decide +kernel) (by decide +kernel)
theorem wd_485 : (Cond.methodLink "DropRows$Game" 38 ⟨"DropRows$Game","make","(I)I"⟩) ∈ kc_TB := kc_in 485 (by decide +kernel) (by decide +kernel)
theorem wd_486 : (Cond.methodLink "DropRows" 150 ⟨"DropRows$Game","waitingColumn","()I"⟩) ∈ kc_TB := kc_in 486 (by decide +kernel) (by decide +kernel)
theorem wd_487 : (Cond.instanceMethod ⟨"DropRows$Game","waitingColumn","()I"⟩) ∈ kc_TB := kc_in 487 (by decide +kernel) (by decide +kernel)
theorem wd_488 : (Cond.selects "DropRows$Game" ⟨"DropRows$Game","waitingColumn","()I"⟩ ⟨"DropRows$Game","waitingColumn","()I"⟩) ∈ kc_TB := kc_in 488 (by decide +kernel) (by decide +kernel)
theorem wd_489 : (Cond.code ⟨"DropRows$Game","waitingColumn","()I"⟩ prog_2_method_15_code 5 (Option.some FieldType.int)) ∈ kc_TB := kc_in 489 (by decide +kernel) (by decide +kernel)
theorem wd_490 : (Cond.methodLink "DropRows$Game" 81 ⟨"DropRows$Game","waitingSort","(I)I"⟩) ∈ kc_TB := kc_in 490 (by decide +kernel) (by decide +kernel)
theorem wd_492 : (Cond.instanceMethod ⟨"DropRows$Game","waitingSort","(I)I"⟩) ∈ kc_TB := kc_in 492 (by decide +kernel) (by decide +kernel)
theorem wd_493 : (Cond.code ⟨"DropRows$Game","waitingSort","(I)I"⟩ prog_2_method_16_code 5 (Option.some FieldType.int)) ∈ kc_TB := kc_in 493 (by decide +kernel) (by decide +kernel)
theorem wd_494 : (Cond.methodLink "DropRowsLaw" 93 ⟨"DropRows","sheet","(III)I"⟩) ∈ kc_TB := kc_in 494 (by decide +kernel) (by decide +kernel)
theorem wd_495 : (Cond.instanceMethod ⟨"DropRows","sheet","(III)I"⟩) ∈ kc_TB := kc_in 495 (by decide +kernel) (by decide +kernel)
theorem wd_496 : (Cond.selects "DropRows" ⟨"DropRows","sheet","(III)I"⟩ ⟨"DropRows","sheet","(III)I"⟩) ∈ kc_TB := kc_in 496 (by decide +kernel) (by decide +kernel)
theorem wd_497 : (Cond.code ⟨"DropRows","sheet","(III)I"⟩ prog_1_method_21_code 4 (Option.some FieldType.int)) ∈ kc_TB := kc_in 497 (by decide +kernel) (by decide +kernel)
theorem wd_498 : (Cond.methodLink "DropRows" 153 ⟨"DropRows","isSheet","(I)Z"⟩) ∈ kc_TB := kc_in 498 (by decide +kernel) (by decide +kernel)
theorem wd_499 : (Cond.static ⟨"DropRows","isSheet","(I)Z"⟩) ∈ kc_TB := kc_in 499 (by decide +kernel) (by decide +kernel)
theorem wd_500 : (Cond.code ⟨"DropRows","isSheet","(I)Z"⟩ prog_1_method_31_code 1 (Option.some FieldType.boolean)) ∈ kc_TB := kc_in 500 (by decide +kernel) (by decide +kernel)
theorem wd_501 : (Cond.methodLink "DropRows" 156 ⟨"DropRows","isForm","(I)Z"⟩) ∈ kc_TB := kc_in 501 (by decide +kernel) (by decide +kernel)
theorem wd_502 : (Cond.static ⟨"DropRows","isForm","(I)Z"⟩) ∈ kc_TB := kc_in 502 (by decide +kernel) (by decide +kernel)
theorem wd_503 : (Cond.code ⟨"DropRows","isForm","(I)Z"⟩ prog_1_method_32_code 1 (Option.some FieldType.boolean)) ∈ kc_TB := kc_in 503 (by decide +kernel) (by decide +kernel)
theorem wd_504 : (Cond.methodLink "DropRows" 159 ⟨"DropRows","refuse","(I)I"⟩) ∈ kc_TB := kc_in 504 (by decide +kernel) (by decide +kernel)
theorem wd_506 : (Cond.instanceMethod ⟨"DropRows","refuse","(I)I"⟩) ∈ kc_TB := kc_in 506 (by decide +kernel) (by decide +kernel)
theorem wd_507 : (Cond.code ⟨"DropRows","refuse","(I)I"⟩ prog_1_method_33_code 2 (Option.some FieldType.int)) ∈ kc_TB := kc_in 507 (by decide +kernel) (by decide +kernel)
theorem wd_508 : (Cond.methodLink "DropRows" 162 ⟨"DropRows$Sheet","renew","(II)V"⟩) ∈ kc_TB := kc_in 508 (by decide +kernel) (by decide +kernel)
theorem wd_509 : (Cond.instanceMethod ⟨"DropRows$Sheet","renew","(II)V"⟩) ∈ kc_TB := kc_in 509 (by decide +kernel) (by decide +kernel)
theorem wd_510 : (Cond.selects "DropRows$Sheet" ⟨"DropRows$Sheet","renew","(II)V"⟩ ⟨"DropRows$Sheet","renew","(II)V"⟩) ∈ kc_TB := kc_in 510 (by decide +kernel) (by decide +kernel)
theorem wd_511 : (Cond.code ⟨"DropRows$Sheet","renew","(II)V"⟩ prog_4_method_2_code 3 (Option.none : Option FieldType)) ∈ kc_TB := kc_in 511 (by decide +kernel) (by decide +kernel)
theorem wd_512 : (Cond.methodLink "DropRows$Sheet" 26 ⟨"java/util/Arrays","fill","([II)V"⟩) ∈ kc_TB := kc_in 512 (by decide +kernel) (by decide +kernel)
theorem wd_513 : (Cond.methodLink "DropRowsLaw" 98 ⟨"DropRows","lose","(I)I"⟩) ∈ kc_TB := kc_in 513 (by decide +kernel) (by decide +kernel)
theorem wd_514 : (Cond.instanceMethod ⟨"DropRows","lose","(I)I"⟩) ∈ kc_TB := kc_in 514 (by decide +kernel) (by decide +kernel)
theorem wd_515 : (Cond.selects "DropRows" ⟨"DropRows","lose","(I)I"⟩ ⟨"DropRows","lose","(I)I"⟩) ∈ kc_TB := kc_in 515 (by decide +kernel) (by decide +kernel)
theorem wd_516 : (Cond.code ⟨"DropRows","lose","(I)I"⟩ prog_1_method_22_code 2 (Option.some FieldType.int)) ∈ kc_TB := kc_in 516 (by decide +kernel) (by decide +kernel)
theorem wd_517 : (Cond.methodLink "DropRowsLaw" 102 ⟨"DropRows","put","(IIII)I"⟩) ∈ kc_TB := kc_in 517 (by decide +kernel) (by decide +kernel)
theorem wd_518 : (Cond.instanceMethod ⟨"DropRows","put","(IIII)I"⟩) ∈ kc_TB := kc_in 518 (by decide +kernel) (by decide +kernel)
theorem wd_519 : (Cond.selects "DropRows" ⟨"DropRows","put","(IIII)I"⟩ ⟨"DropRows","put","(IIII)I"⟩) ∈ kc_TB := kc_in 519 (by decide +kernel) (by decide +kernel)
theorem wd_520 : (Cond.code ⟨"DropRows","put","(IIII)I"⟩ prog_1_method_23_code 6 (Option.some FieldType.int)) ∈ kc_TB := kc_in 520 (by decide +kernel) (by decide +kernel)
theorem wd_521 : (Cond.methodLink "DropRows" 173 ⟨"DropRows$Sheet","findingAt","(II)I"⟩) ∈ kc_TB := kc_in 521 (by decide +kernel) (by decide +kernel)
theorem wd_522 : (Cond.instanceMethod ⟨"DropRows$Sheet","findingAt","(II)I"⟩) ∈ kc_TB := kc_in 522 (by decide +kernel) (by decide +kernel)
theorem wd_523 : (Cond.selects "DropRows$Sheet" ⟨"DropRows$Sheet","findingAt","(II)I"⟩ ⟨"DropRows$Sheet","findingAt","(II)I"⟩) ∈ kc_TB := kc_in 523 (by decide +kernel) (by decide +kernel)
theorem wd_524 : (Cond.code ⟨"DropRows$Sheet","findingAt","(II)I"⟩ prog_4_method_3_code 3 (Option.some FieldType.int)) ∈ kc_TB := kc_in 524 (by decide +kernel) (by decide +kernel)
theorem wd_526 : (Cond.methodLink "DropRows" 176 ⟨"DropRows$Sheet","store","(II)V"⟩) ∈ kc_TB := kc_in 526 (by decide +kernel) (by decide +kernel)
theorem wd_527 : (Cond.instanceMethod ⟨"DropRows$Sheet","store","(II)V"⟩) ∈ kc_TB := kc_in 527 (by decide +kernel) (by decide +kernel)
theorem wd_528 : (Cond.selects "DropRows$Sheet" ⟨"DropRows$Sheet","store","(II)V"⟩ ⟨"DropRows$Sheet","store","(II)V"⟩) ∈ kc_TB := kc_in 528 (by decide +kernel) (by decide +kernel)
theorem wd_529 : (Cond.code ⟨"DropRows$Sheet","store","(II)V"⟩ prog_4_method_5_code 3 (Option.none : Option FieldType)) ∈ kc_TB := kc_in 529 (by decide +kernel) (by decide +kernel)
theorem wd_530 : (Cond.methodLink "DropRowsLaw" 107 ⟨"DropRows","get","(III)I"⟩) ∈ kc_TB := kc_in 530 (by decide +kernel) (by decide +kernel)
theorem wd_531 : (Cond.instanceMethod ⟨"DropRows","get","(III)I"⟩) ∈ kc_TB := kc_in 531 (by decide +kernel) (by decide +kernel)
theorem wd_532 : (Cond.selects "DropRows" ⟨"DropRows","get","(III)I"⟩ ⟨"DropRows","get","(III)I"⟩) ∈ kc_TB := kc_in 532 (by decide +kernel) (by decide +kernel)
theorem wd_533 : (Cond.code ⟨"DropRows","get","(III)I"⟩ prog_1_method_24_code 5 (Option.some FieldType.int)) ∈ kc_TB := kc_in 533 (by decide +kernel) (by decide +kernel)
theorem wd_534 : (Cond.constant "DropRows" 179 (-2147483648 : Int32)) ∈ kc_TB := kc_in 534 (by decide +kernel) (by decide +kernel)
theorem wd_535 : (Cond.methodLink "DropRowsLaw" 111 ⟨"DropRows","copy","(IIIII)I"⟩) ∈ kc_TB := kc_in 535 (by decide +kernel) (by decide +kernel)
theorem wd_536 : (Cond.instanceMethod ⟨"DropRows","copy","(IIIII)I"⟩) ∈ kc_TB := kc_in 536 (by decide +kernel) (by decide +kernel)
theorem wd_537 : (Cond.selects "DropRows" ⟨"DropRows","copy","(IIIII)I"⟩ ⟨"DropRows","copy","(IIIII)I"⟩) ∈ kc_TB := kc_in 537 (by decide +kernel) (by decide +kernel)
theorem wd_538 : (Cond.code ⟨"DropRows","copy","(IIIII)I"⟩ prog_1_method_25_code 8 (Option.some FieldType.int)) ∈ kc_TB := kc_in 538 (by decide +kernel) (by decide +kernel)
theorem wd_539 : (Cond.methodLink "DropRows" 186 ⟨"DropRows$Sheet","hasPart","(II)Z"⟩) ∈ kc_TB := kc_in 539 (by decide +kernel) (by decide +kernel)
theorem wd_540 : (Cond.instanceMethod ⟨"DropRows$Sheet","hasPart","(II)Z"⟩) ∈ kc_TB := kc_in 540 (by decide +kernel) (by decide +kernel)
theorem wd_541 : (Cond.selects "DropRows$Sheet" ⟨"DropRows$Sheet","hasPart","(II)Z"⟩ ⟨"DropRows$Sheet","hasPart","(II)Z"⟩) ∈ kc_TB := kc_in 541 (by decide +kernel) (by decide +kernel)
theorem wd_542 : (Cond.code ⟨"DropRows$Sheet","hasPart","(II)Z"⟩ prog_4_method_4_code 3 (Option.some FieldType.boolean)) ∈ kc_TB := kc_in 542 (by decide +kernel) (by decide +kernel)
theorem wd_543 : (Cond.methodLink "DropRows" 190 ⟨"java/lang/System","arraycopy","(Ljava/lang/Object;ILjava/lang/Object;II)V"⟩) ∈ kc_TB := kc_in 543 (by decide +kernel) (by decide +kernel)
theorem wd_544 : (Cond.static ⟨"java/lang/System","arraycopy","(Ljava/lang/Object;ILjava/lang/Object;II)V"⟩) ∈ kc_TB := kc_in 544 (by decide +kernel) (by decide +kernel)
theorem wd_545 : (Cond.native ⟨"java/lang/System","arraycopy","(Ljava/lang/Object;ILjava/lang/Object;II)V"⟩) ∈ kc_TB := kc_in 545 (by decide +kernel) (by decide +kernel)
theorem wd_546 : (Cond.methodLink "DropRowsLaw" 116 ⟨"DropRows","take","(II)I"⟩) ∈ kc_TB := kc_in 546 (by decide +kernel) (by decide +kernel)
theorem wd_547 : (Cond.instanceMethod ⟨"DropRows","take","(II)I"⟩) ∈ kc_TB := kc_in 547 (by decide +kernel) (by decide +kernel)
theorem wd_548 : (Cond.selects "DropRows" ⟨"DropRows","take","(II)I"⟩ ⟨"DropRows","take","(II)I"⟩) ∈ kc_TB := kc_in 548 (by decide +kernel) (by decide +kernel)
theorem wd_549 : (Cond.code ⟨"DropRows","take","(II)I"⟩ prog_1_method_26_code 5 (Option.some FieldType.int)) ∈ kc_TB := kc_in 549 (by decide +kernel) (by decide +kernel)
theorem wd_550 : (Cond.methodLink "DropRowsLaw" 120 ⟨"DropRows","write","(I)I"⟩) ∈ kc_TB := kc_in 550 (by decide +kernel) (by decide +kernel)
theorem wd_551 : (Cond.instanceMethod ⟨"DropRows","write","(I)I"⟩) ∈ kc_TB := kc_in 551 (by decide +kernel) (by decide +kernel)
theorem wd_552 : (Cond.selects "DropRows" ⟨"DropRows","write","(I)I"⟩ ⟨"DropRows","write","(I)I"⟩) ∈ kc_TB := kc_in 552 (by decide +kernel) (by decide +kernel)
theorem wd_553 : (Cond.code ⟨"DropRows","write","(I)I"⟩ prog_1_method_27_code 4 (Option.some FieldType.int)) ∈ kc_TB := kc_in 553 (by decide +kernel) (by decide +kernel)
theorem wd_554 : (Cond.methodLink "DropRowsLaw" 124 ⟨"DropRows","count","(I)I"⟩) ∈ kc_TB := kc_in 554 (by decide +kernel) (by decide +kernel)
theorem wd_555 : (Cond.instanceMethod ⟨"DropRows","count","(I)I"⟩) ∈ kc_TB := kc_in 555 (by decide +kernel) (by decide +kernel)
theorem wd_556 : (Cond.selects "DropRows" ⟨"DropRows","count","(I)I"⟩ ⟨"DropRows","count","(I)I"⟩) ∈ kc_TB := kc_in 556 (by decide +kernel) (by decide +kernel)
theorem wd_557 : (Cond.code ⟨"DropRows","count","(I)I"⟩ prog_1_method_28_code 2 (Option.some FieldType.int)) ∈ kc_TB := kc_in 557 (by decide +kernel) (by decide +kernel)
theorem wd_558 : (Cond.methodLink "DropRowsLaw" 128 ⟨"DropRows","digest","()J"⟩) ∈ kc_TB := kc_in 558 (by decide +kernel) (by decide +kernel)
theorem wd_559 : (Cond.instanceMethod ⟨"DropRows","digest","()J"⟩) ∈ kc_TB := kc_in 559 (by decide +kernel) (by decide +kernel)
theorem wd_560 : (Cond.selects "DropRows" ⟨"DropRows","digest","()J"⟩ ⟨"DropRows","digest","()J"⟩) ∈ kc_TB := kc_in 560 (by decide +kernel) (by decide +kernel)
theorem wd_561 : (Cond.code ⟨"DropRows","digest","()J"⟩ prog_1_method_29_code 4 (Option.some FieldType.long)) ∈ kc_TB := kc_in 561 (by decide +kernel) (by decide +kernel)
theorem wd_562 : (Cond.constantLong "DropRows" 205 (17 : Int64)) ∈ kc_TB := kc_in 562 (by decide +kernel) (by decide +kernel)
theorem wd_563 : (Cond.constantLong "DropRows" 207 (31 : Int64)) ∈ kc_TB := kc_in 563 (by decide +kernel) (by decide +kernel)
theorem wd_564 : (Cond.methodLink "DropRows" 209 ⟨"DropRows","count","(I)I"⟩) ∈ kc_TB := kc_in 564 (by decide +kernel) (by decide +kernel)
theorem wd_565 : (Cond.methodLink "DropRows" 212 ⟨"DropRows","game","(I)I"⟩) ∈ kc_TB := kc_in 565 (by decide +kernel) (by decide +kernel)
theorem wd_566 : (Cond.classLink "DropRowsLaw" 10 "DropRowsModel") ∈ kc_TB := kc_in 566 (by decide +kernel) (by decide +kernel)
theorem wd_567 : (Cond.instantiable "DropRowsModel" 23) ∈ kc_TB := kc_in 567 (by decide +kernel) (by decide +kernel)
theorem wd_568 : (Cond.methodLink "DropRowsLaw" 12 ⟨"DropRowsModel","<init>","()V"⟩) ∈ kc_TB := kc_in 568 (by decide +kernel) (by decide +kernel)
theorem wd_569 : (Cond.instanceMethod ⟨"DropRowsModel","<init>","()V"⟩) ∈ kc_TB := kc_in 569 (by decide +kernel) (by decide +kernel)
theorem wd_570 : (Cond.code ⟨"DropRowsModel","<init>","()V"⟩ prog_7_method_1_code 2 (Option.none : Option FieldType)) ∈ kc_TB := kc_in 570 (by decide +kernel) (by decide +kernel)
theorem wd_571 : (Cond.methodLink "DropRowsModel" 1 ⟨"java/lang/Object","<init>","()V"⟩) ∈ kc_TB := kc_in 571 (by decide +kernel) (by decide +kernel)
theorem wd_572 : (Cond.constant "DropRowsModel" 13 (2097152 : Int32)) ∈ kc_TB := kc_in 572 (by decide +kernel) (by decide +kernel)
theorem wd_573 : (Cond.methodLink "DropRowsModel" 51 ⟨"DropRowsModel","begin","(IIIZ)V"⟩) ∈ kc_TB := kc_in 573 (by decide +kernel) (by decide +kernel)
theorem wd_575 : (Cond.instanceMethod ⟨"DropRowsModel","begin","(IIIZ)V"⟩) ∈ kc_TB := kc_in 575 (by decide +kernel) (by decide +kernel)
theorem wd_576 : (Cond.code ⟨"DropRowsModel","begin","(IIIZ)V"⟩ prog_7_method_5_code 5 (Option.none : Option FieldType)) ∈ kc_TB := kc_in 576 (by decide +kernel) (by decide +kernel)
theorem wd_577 : (Cond.methodLink "DropRowsModel" 87 ⟨"DropRowsModel","findRows","()V"⟩) ∈ kc_TB := kc_in 577 (by decide +kernel) (by decide +kernel)
theorem wd_579 : (Cond.instanceMethod ⟨"DropRowsModel","findRows","()V"⟩) ∈ kc_TB := kc_in 579 (by decide +kernel) (by decide +kernel)
theorem wd_580 : (Cond.code ⟨"DropRowsModel","findRows","()V"⟩ prog_7_method_8_code 3 (Option.none : Option FieldType)) ∈ kc_TB := kc_in 580 (by decide +kernel) (by decide +kernel)
theorem wd_581 : (Cond.methodLink "DropRowsModel" 102 ⟨"DropRowsModel","squaresOf","(IIII)I"⟩) ∈ kc_TB := kc_in 581 (by decide +kernel) (by decide +kernel)
theorem wd_583 : (Cond.instanceMethod ⟨"DropRowsModel","squaresOf","(IIII)I"⟩) ∈ kc_TB := kc_in 583 (by decide +kernel) (by decide +kernel)
theorem wd_584 : (Cond.code ⟨"DropRowsModel","squaresOf","(IIII)I"⟩ prog_7_method_6_code 10 (Option.some FieldType.int)) ∈ kc_TB := kc_in 584 (by decide +kernel) (by decide +kernel)
theorem wd_585 : (Cond.methodLink "DropRowsModel" 57 ⟨"DropRowsModel","in","(JJJ)Z"⟩) ∈ kc_TB := kc_in 585 (by decide +kernel) (by decide +kernel)
theorem wd_586 : (Cond.static ⟨"DropRowsModel","in","(JJJ)Z"⟩) ∈ kc_TB := kc_in 586 (by decide +kernel) (by decide +kernel)
theorem wd_587 : (Cond.code ⟨"DropRowsModel","in","(JJJ)Z"⟩ prog_7_method_3_code 6 (Option.some FieldType.boolean)) ∈ kc_TB := kc_in 587 (by decide +kernel) (by decide +kernel)
theorem wd_588 : (Cond.methodLink "DropRowsModel" 106 ⟨"DropRowsModel","addRow","(I)V"⟩) ∈ kc_TB := kc_in 588 (by decide +kernel) (by decide +kernel)
theorem wd_590 : (Cond.instanceMethod ⟨"DropRowsModel","addRow","(I)V"⟩) ∈ kc_TB := kc_in 590 (by decide +kernel) (by decide +kernel)
theorem wd_591 : (Cond.code ⟨"DropRowsModel","addRow","(I)V"⟩ prog_7_method_7_code 3 (Option.none : Option FieldType)) ∈ kc_TB := kc_in 591 (by decide +kernel) (by decide +kernel)
theorem wd_592 : (Cond.methodLink "DropRowsModel" 90 ⟨"DropRowsModel","goUp","()V"⟩) ∈ kc_TB := kc_in 592 (by decide +kernel) (by decide +kernel)
theorem wd_594 : (Cond.instanceMethod ⟨"DropRowsModel","goUp","()V"⟩) ∈ kc_TB := kc_in 594 (by decide +kernel) (by decide +kernel)
theorem wd_595 : (Cond.code ⟨"DropRowsModel","goUp","()V"⟩ prog_7_method_16_code 5 (Option.none : Option FieldType)) ∈ kc_TB := kc_in 595 (by decide +kernel) (by decide +kernel)
theorem wd_596 : (Cond.methodLink "DropRowsModel" 120 ⟨"DropRowsModel","keys","()I"⟩) ∈ kc_TB := kc_in 596 (by decide +kernel) (by decide +kernel)
theorem wd_598 : (Cond.instanceMethod ⟨"DropRowsModel","keys","()I"⟩) ∈ kc_TB := kc_in 598 (by decide +kernel) (by decide +kernel)
theorem wd_599 : (Cond.code ⟨"DropRowsModel","keys","()I"⟩ prog_7_method_15_code 1 (Option.some FieldType.int)) ∈ kc_TB := kc_in 599 (by decide +kernel) (by decide +kernel)
theorem wd_600 : (Cond.methodLink "DropRowsModel" 124 ⟨"DropRowsModel","keyOfNone","()I"⟩) ∈ kc_TB := kc_in 600 (by decide +kernel) (by decide +kernel)
theorem wd_602 : (Cond.instanceMethod ⟨"DropRowsModel","keyOfNone","()I"⟩) ∈ kc_TB := kc_in 602 (by decide +kernel) (by decide +kernel)
theorem wd_603 : (Cond.code ⟨"DropRowsModel","keyOfNone","()I"⟩ prog_7_method_9_code 3 (Option.some FieldType.int)) ∈ kc_TB := kc_in 603 (by decide +kernel) (by decide +kernel)
theorem wd_604 : (Cond.methodLink "DropRowsModel" 127 ⟨"DropRowsModel","decode","(I)V"⟩) ∈ kc_TB := kc_in 604 (by decide +kernel) (by decide +kernel)
theorem wd_606 : (Cond.instanceMethod ⟨"DropRowsModel","decode","(I)V"⟩) ∈ kc_TB := kc_in 606 (by decide +kernel) (by decide +kernel)
theorem wd_607 : (Cond.code ⟨"DropRowsModel","decode","(I)V"⟩ prog_7_method_13_code 6 (Option.none : Option FieldType)) ∈ kc_TB := kc_in 607 (by decide +kernel) (by decide +kernel)
theorem wd_608 : (Cond.methodLink "DropRowsModel" 114 ⟨"DropRowsModel","heightOf","(II)I"⟩) ∈ kc_TB := kc_in 608 (by decide +kernel) (by decide +kernel)
theorem wd_610 : (Cond.instanceMethod ⟨"DropRowsModel","heightOf","(II)I"⟩) ∈ kc_TB := kc_in 610 (by decide +kernel) (by decide +kernel)
theorem wd_611 : (Cond.code ⟨"DropRowsModel","heightOf","(II)I"⟩ prog_7_method_11_code 5 (Option.some FieldType.int)) ∈ kc_TB := kc_in 611 (by decide +kernel) (by decide +kernel)
theorem wd_612 : (Cond.methodLink "DropRowsModel" 110 ⟨"DropRowsModel","columnOf","(II)I"⟩) ∈ kc_TB := kc_in 612 (by decide +kernel) (by decide +kernel)
theorem wd_614 : (Cond.instanceMethod ⟨"DropRowsModel","columnOf","(II)I"⟩) ∈ kc_TB := kc_in 614 (by decide +kernel) (by decide +kernel)
theorem wd_615 : (Cond.code ⟨"DropRowsModel","columnOf","(II)I"⟩ prog_7_method_10_code 3 (Option.some FieldType.int)) ∈ kc_TB := kc_in 615 (by decide +kernel) (by decide +kernel)
theorem wd_616 : (Cond.methodLink "DropRowsModel" 130 ⟨"DropRowsModel","has","(I)Z"⟩) ∈ kc_TB := kc_in 616 (by decide +kernel) (by decide +kernel)
theorem wd_618 : (Cond.instanceMethod ⟨"DropRowsModel","has","(I)Z"⟩) ∈ kc_TB := kc_in 618 (by decide +kernel) (by decide +kernel)
theorem wd_619 : (Cond.code ⟨"DropRowsModel","has","(I)Z"⟩ prog_7_method_14_code 3 (Option.some FieldType.boolean)) ∈ kc_TB := kc_in 619 (by decide +kernel) (by decide +kernel)
theorem wd_620 : (Cond.methodLink "DropRowsModel" 134 ⟨"DropRowsModel","dropped","(III)I"⟩) ∈ kc_TB := kc_in 620 (by decide +kernel) (by decide +kernel)
theorem wd_622 : (Cond.instanceMethod ⟨"DropRowsModel","dropped","(III)I"⟩) ∈ kc_TB := kc_in 622 (by decide +kernel) (by decide +kernel)
theorem wd_623 : (Cond.code ⟨"DropRowsModel","dropped","(III)I"⟩ prog_7_method_12_code 4 (Option.some FieldType.int)) ∈ kc_TB := kc_in 623 (by decide +kernel) (by decide +kernel)
theorem wd_624 : (Cond.methodLink "DropRowsModel" 93 ⟨"DropRowsModel","goDown","()V"⟩) ∈ kc_TB := kc_in 624 (by decide +kernel) (by decide +kernel)
theorem wd_626 : (Cond.instanceMethod ⟨"DropRowsModel","goDown","()V"⟩) ∈ kc_TB := kc_in 626 (by decide +kernel) (by decide +kernel)
theorem wd_627 : (Cond.code ⟨"DropRowsModel","goDown","()V"⟩ prog_7_method_19_code 4 (Option.none : Option FieldType)) ∈ kc_TB := kc_in 627 (by decide +kernel) (by decide +kernel)
theorem wd_628 : (Cond.methodLink "DropRowsModel" 141 ⟨"DropRowsModel","greatest","(II)I"⟩) ∈ kc_TB := kc_in 628 (by decide +kernel) (by decide +kernel)
theorem wd_630 : (Cond.instanceMethod ⟨"DropRowsModel","greatest","(II)I"⟩) ∈ kc_TB := kc_in 630 (by decide +kernel) (by decide +kernel)
theorem wd_631 : (Cond.code ⟨"DropRowsModel","greatest","(II)I"⟩ prog_7_method_18_code 6 (Option.some FieldType.int)) ∈ kc_TB := kc_in 631 (by decide +kernel) (by decide +kernel)
theorem wd_632 : (Cond.methodLink "DropRowsModel" 138 ⟨"DropRowsModel","worthBy","(III)I"⟩) ∈ kc_TB := kc_in 632 (by decide +kernel) (by decide +kernel)
theorem wd_634 : (Cond.instanceMethod ⟨"DropRowsModel","worthBy","(III)I"⟩) ∈ kc_TB := kc_in 634 (by decide +kernel) (by decide +kernel)
theorem wd_635 : (Cond.code ⟨"DropRowsModel","worthBy","(III)I"⟩ prog_7_method_17_code 5 (Option.some FieldType.int)) ∈ kc_TB := kc_in 635 (by decide +kernel) (by decide +kernel)
theorem wd_636 : (Cond.methodLink "DropRowsModel" 99 ⟨"DropRowsModel","place","()V"⟩) ∈ kc_TB := kc_in 636 (by decide +kernel) (by decide +kernel)
theorem wd_638 : (Cond.instanceMethod ⟨"DropRowsModel","place","()V"⟩) ∈ kc_TB := kc_in 638 (by decide +kernel) (by decide +kernel)
theorem wd_639 : (Cond.code ⟨"DropRowsModel","place","()V"⟩ prog_7_method_20_code 2 (Option.none : Option FieldType)) ∈ kc_TB := kc_in 639 (by decide +kernel) (by decide +kernel)
theorem wd_640 : (Cond.fieldLink "DropRowsModel" 74 "DropRowsModel" "w" "I") ∈ kc_TB := kc_in 640 (by decide +kernel) (by decide +kernel)
theorem wd_641 : (Cond.fieldLink "DropRowsModel" 77 "DropRowsModel" "h" "I") ∈ kc_TB := kc_in 641 (by decide +kernel) (by decide +kernel)
theorem wd_642 : (Cond.fieldLink "DropRowsModel" 80 "DropRowsModel" "k" "I") ∈ kc_TB := kc_in 642 (by decide +kernel) (by decide +kernel)
theorem wd_643 : (Cond.fieldLink "DropRowsModel" 83 "DropRowsModel" "isJoined" "Z") ∈ kc_TB := kc_in 643 (by decide +kernel) (by decide +kernel)
theorem wd_644 : (Cond.fieldLink "DropRowsModel" 67 "DropRowsModel" "boards" "I") ∈ kc_TB := kc_in 644 (by decide +kernel) (by decide +kernel)
theorem wd_645 : (Cond.fieldLink "DropRowsModel" 71 "DropRowsModel" "rows" "I") ∈ kc_TB := kc_in 645 (by decide +kernel) (by decide +kernel)
theorem wd_646 : (Cond.fieldLink "DropRowsModel" 7 "DropRowsModel" "row" "[I") ∈ kc_TB := kc_in 646 (by decide +kernel) (by decide +kernel)
theorem wd_647 : (Cond.fieldLink "DropRowsModel" 14 "DropRowsModel" "table" "[B") ∈ kc_TB := kc_in 647 (by decide +kernel) (by decide +kernel)
theorem wd_648 : (Cond.fieldLink "DropRowsModel" 18 "DropRowsModel" "come" "[I") ∈ kc_TB := kc_in 648 (by decide +kernel) (by decide +kernel)
theorem wd_649 : (Cond.fieldLink "DropRowsModel" 21 "DropRowsModel" "won" "[I") ∈ kc_TB := kc_in 649 (by decide +kernel) (by decide +kernel)
theorem wd_650 : (Cond.fieldLink "DropRowsModel" 24 "DropRowsModel" "above" "[I") ∈ kc_TB := kc_in 650 (by decide +kernel) (by decide +kernel)
theorem wd_651 : (Cond.fieldLink "DropRowsModel" 27 "DropRowsModel" "even" "[I") ∈ kc_TB := kc_in 651 (by decide +kernel) (by decide +kernel)
theorem wd_652 : (Cond.fieldLink "DropRowsModel" 30 "DropRowsModel" "under" "[I") ∈ kc_TB := kc_in 652 (by decide +kernel) (by decide +kernel)
theorem wd_653 : (Cond.fieldLink "DropRowsModel" 33 "DropRowsModel" "men" "[I") ∈ kc_TB := kc_in 653 (by decide +kernel) (by decide +kernel)
theorem wd_654 : (Cond.fieldLink "DropRowsModel" 117 "DropRowsModel" "count" "I") ∈ kc_TB := kc_in 654 (by decide +kernel) (by decide +kernel)
theorem wd_655 : (Cond.fieldLink "DropRowsModel" 96 "DropRowsModel" "moves" "I") ∈ kc_TB := kc_in 655 (by decide +kernel) (by decide +kernel)
theorem wd_656 : (Cond.fieldLink "DropRowsModel" 36 "DropRowsModel" "move" "[I") ∈ kc_TB := kc_in 656 (by decide +kernel) (by decide +kernel)
theorem wd_657 : (Cond.fieldLink "DropRowsModel" 144 "DropRowsModel" "now" "I") ∈ kc_TB := kc_in 657 (by decide +kernel) (by decide +kernel)
theorem wd_658 : (Cond.fieldLink "DropRowsModel" 39 "DropRowsModel" "forms" "[I") ∈ kc_TB := kc_in 658 (by decide +kernel) (by decide +kernel)
theorem wd_659 : (Cond.fieldLink "DropRowsModel" 42 "DropRowsModel" "sizes" "[I") ∈ kc_TB := kc_in 659 (by decide +kernel) (by decide +kernel)
theorem wd_660 : (Cond.fieldLink "DropRowsModel" 45 "DropRowsModel" "items" "[I") ∈ kc_TB := kc_in 660 (by decide +kernel) (by decide +kernel)
theorem wd_661 : (Cond.fieldLink "DropRowsModel" 48 "DropRowsModel" "moved" "[I") ∈ kc_TB := kc_in 661 (by decide +kernel) (by decide +kernel)
theorem wd_662 : (Cond.fieldLink "DropRowsModel" 176 "DropRowsModel" "latest" "I") ∈ kc_TB := kc_in 662 (by decide +kernel) (by decide +kernel)
theorem wd_663 : (Cond.lays "DropRowsModel" "DropRowsModel" "w" "I") ∈ kc_TB := kc_in 663 (by decide +kernel) (by decide +kernel)
theorem wd_664 : (Cond.soleField "DropRowsModel" "w") ∈ kc_TB := kc_in 664 (by decide +kernel) (by decide +kernel)
theorem wd_665 : (Cond.lays "DropRowsModel" "DropRowsModel" "h" "I") ∈ kc_TB := kc_in 665 (by decide +kernel) (by decide +kernel)
theorem wd_666 : (Cond.soleField "DropRowsModel" "h") ∈ kc_TB := kc_in 666 (by decide +kernel) (by decide +kernel)
theorem wd_667 : (Cond.lays "DropRowsModel" "DropRowsModel" "k" "I") ∈ kc_TB := kc_in 667 (by decide +kernel) (by decide +kernel)
theorem wd_668 : (Cond.soleField "DropRowsModel" "k") ∈ kc_TB := kc_in 668 (by decide +kernel) (by decide +kernel)
theorem wd_669 : (Cond.lays "DropRowsModel" "DropRowsModel" "isJoined" "Z") ∈ kc_TB := kc_in 669 (by decide +kernel) (by decide +kernel)
theorem wd_670 : (Cond.soleField "DropRowsModel" "isJoined") ∈ kc_TB := kc_in 670 (by decide +kernel) (by decide +kernel)
theorem wd_671 : (Cond.lays "DropRowsModel" "DropRowsModel" "boards" "I") ∈ kc_TB := kc_in 671 (by decide +kernel) (by decide +kernel)
theorem wd_672 : (Cond.soleField "DropRowsModel" "boards") ∈ kc_TB := kc_in 672 (by decide +kernel) (by decide +kernel)
theorem wd_673 : (Cond.lays "DropRowsModel" "DropRowsModel" "rows" "I") ∈ kc_TB := kc_in 673 (by decide +kernel) (by decide +kernel)
theorem wd_674 : (Cond.soleField "DropRowsModel" "rows") ∈ kc_TB := kc_in 674 (by decide +kernel) (by decide +kernel)
theorem wd_675 : (Cond.laysFinal "DropRowsModel" "DropRowsModel" "row" "[I") ∈ kc_TB := kc_in 675 (by decide +kernel) (by decide +kernel)
theorem wd_676 : (Cond.soleField "DropRowsModel" "row") ∈ kc_TB := kc_in 676 (by decide +kernel) (by decide +kernel)
theorem wd_677 : (Cond.laysFinal "DropRowsModel" "DropRowsModel" "table" "[B") ∈ kc_TB := kc_in 677 (by decide +kernel) (by decide +kernel)
theorem wd_678 : (Cond.soleField "DropRowsModel" "table") ∈ kc_TB := kc_in 678 (by decide +kernel) (by decide +kernel)
theorem wd_679 : (Cond.laysFinal "DropRowsModel" "DropRowsModel" "come" "[I") ∈ kc_TB := kc_in 679 (by decide +kernel) (by decide +kernel)
theorem wd_680 : (Cond.soleField "DropRowsModel" "come") ∈ kc_TB := kc_in 680 (by decide +kernel) (by decide +kernel)
theorem wd_681 : (Cond.laysFinal "DropRowsModel" "DropRowsModel" "won" "[I") ∈ kc_TB := kc_in 681 (by decide +kernel) (by decide +kernel)
theorem wd_682 : (Cond.soleField "DropRowsModel" "won") ∈ kc_TB := kc_in 682 (by decide +kernel) (by decide +kernel)
theorem wd_683 : (Cond.laysFinal "DropRowsModel" "DropRowsModel" "above" "[I") ∈ kc_TB := kc_in 683 (by decide +kernel) (by decide +kernel)
theorem wd_684 : (Cond.soleField "DropRowsModel" "above") ∈ kc_TB := kc_in 684 (by decide +kernel) (by decide +kernel)
theorem wd_685 : (Cond.laysFinal "DropRowsModel" "DropRowsModel" "even" "[I") ∈ kc_TB := kc_in 685 (by decide +kernel) (by decide +kernel)
theorem wd_686 : (Cond.soleField "DropRowsModel" "even") ∈ kc_TB := kc_in 686 (by decide +kernel) (by decide +kernel)
theorem wd_687 : (Cond.laysFinal "DropRowsModel" "DropRowsModel" "under" "[I") ∈ kc_TB := kc_in 687 (by decide +kernel) (by decide +kernel)
theorem wd_688 : (Cond.soleField "DropRowsModel" "under") ∈ kc_TB := kc_in 688 (by decide +kernel) (by decide +kernel)
theorem wd_689 : (Cond.laysFinal "DropRowsModel" "DropRowsModel" "men" "[I") ∈ kc_TB := kc_in 689 (by decide +kernel) (by decide +kernel)
theorem wd_690 : (Cond.soleField "DropRowsModel" "men") ∈ kc_TB := kc_in 690 (by decide +kernel) (by decide +kernel)
theorem wd_691 : (Cond.lays "DropRowsModel" "DropRowsModel" "count" "I") ∈ kc_TB := kc_in 691 (by decide +kernel) (by decide +kernel)
theorem wd_692 : (Cond.soleField "DropRowsModel" "count") ∈ kc_TB := kc_in 692 (by decide +kernel) (by decide +kernel)
theorem wd_693 : (Cond.lays "DropRowsModel" "DropRowsModel" "moves" "I") ∈ kc_TB := kc_in 693 (by decide +kernel) (by decide +kernel)
theorem wd_694 : (Cond.soleField "DropRowsModel" "moves") ∈ kc_TB := kc_in 694 (by decide +kernel) (by decide +kernel)
theorem wd_695 : (Cond.laysFinal "DropRowsModel" "DropRowsModel" "move" "[I") ∈ kc_TB := kc_in 695 (by decide +kernel) (by decide +kernel)
theorem wd_696 : (Cond.soleField "DropRowsModel" "move") ∈ kc_TB := kc_in 696 (by decide +kernel) (by decide +kernel)
theorem wd_697 : (Cond.lays "DropRowsModel" "DropRowsModel" "now" "I") ∈ kc_TB := kc_in 697 (by decide +kernel) (by decide +kernel)
theorem wd_698 : (Cond.soleField "DropRowsModel" "now") ∈ kc_TB := kc_in 698 (by decide +kernel) (by decide +kernel)
theorem wd_699 : (Cond.laysFinal "DropRowsModel" "DropRowsModel" "forms" "[I") ∈ kc_TB := kc_in 699 (by decide +kernel) (by decide +kernel)
theorem wd_700 : (Cond.soleField "DropRowsModel" "forms") ∈ kc_TB := kc_in 700 (by decide +kernel) (by decide +kernel)
theorem wd_701 : (Cond.laysFinal "DropRowsModel" "DropRowsModel" "sizes" "[I") ∈ kc_TB := kc_in 701 (by decide +kernel) (by decide +kernel)
theorem wd_702 : (Cond.soleField "DropRowsModel" "sizes") ∈ kc_TB := kc_in 702 (by decide +kernel) (by decide +kernel)
theorem wd_703 : (Cond.laysFinal "DropRowsModel" "DropRowsModel" "items" "[I") ∈ kc_TB := kc_in 703 (by decide +kernel) (by decide +kernel)
theorem wd_704 : (Cond.soleField "DropRowsModel" "items") ∈ kc_TB := kc_in 704 (by decide +kernel) (by decide +kernel)
theorem wd_705 : (Cond.laysFinal "DropRowsModel" "DropRowsModel" "moved" "[I") ∈ kc_TB := kc_in 705 (by decide +kernel) (by decide +kernel)
theorem wd_706 : (Cond.soleField "DropRowsModel" "moved") ∈ kc_TB := kc_in 706 (by decide +kernel) (by decide +kernel)
theorem wd_707 : (Cond.lays "DropRowsModel" "DropRowsModel" "latest" "I") ∈ kc_TB := kc_in 707 (by decide +kernel) (by decide +kernel)
theorem wd_708 : (Cond.soleField "DropRowsModel" "latest") ∈ kc_TB := kc_in 708 (by decide +kernel) (by decide +kernel)
theorem wd_709 : (Cond.superclass "DropRowsModel" "java/lang/Object") ∈ kc_TB := kc_in 709 (by decide +kernel) (by decide +kernel)
theorem wd_710 : (Cond.arrayClass FieldType.byte) ∈ kc_TB := kc_in 710 (by decide +kernel) (by decide +kernel)
theorem wd_711 : (Cond.methodLink "DropRowsLaw" 17 ⟨"DropRowsModel","board","(IIIZ)I"⟩) ∈ kc_TB := kc_in 711 (by decide +kernel) (by decide +kernel)
theorem wd_712 : (Cond.instanceMethod ⟨"DropRowsModel","board","(IIIZ)I"⟩) ∈ kc_TB := kc_in 712 (by decide +kernel) (by decide +kernel)
theorem wd_713 : (Cond.selects "DropRowsModel" ⟨"DropRowsModel","board","(IIIZ)I"⟩ ⟨"DropRowsModel","board","(IIIZ)I"⟩) ∈ kc_TB := kc_in 713 (by decide +kernel) (by decide +kernel)
theorem wd_714 : (Cond.code ⟨"DropRowsModel","board","(IIIZ)I"⟩ prog_7_method_4_code 5 (Option.some FieldType.int)) ∈ kc_TB := kc_in 714 (by decide +kernel) (by decide +kernel)
theorem wd_715 : (Cond.constantLong "DropRowsModel" 55 (7 : Int64)) ∈ kc_TB := kc_in 715 (by decide +kernel) (by decide +kernel)
theorem wd_716 : (Cond.constantLong "DropRowsModel" 61 (6 : Int64)) ∈ kc_TB := kc_in 716 (by decide +kernel) (by decide +kernel)
theorem wd_717 : (Cond.constantLong "DropRowsModel" 63 (2 : Int64)) ∈ kc_TB := kc_in 717 (by decide +kernel) (by decide +kernel)
theorem wd_718 : (Cond.constantLong "DropRowsModel" 65 (4 : Int64)) ∈ kc_TB := kc_in 718 (by decide +kernel) (by decide +kernel)
theorem wd_719 : (Cond.methodLink "DropRowsLaw" 22 ⟨"DropRowsModel","drop","(I)I"⟩) ∈ kc_TB := kc_in 719 (by decide +kernel) (by decide +kernel)
theorem wd_720 : (Cond.instanceMethod ⟨"DropRowsModel","drop","(I)I"⟩) ∈ kc_TB := kc_in 720 (by decide +kernel) (by decide +kernel)
theorem wd_721 : (Cond.selects "DropRowsModel" ⟨"DropRowsModel","drop","(I)I"⟩ ⟨"DropRowsModel","drop","(I)I"⟩) ∈ kc_TB := kc_in 721 (by decide +kernel) (by decide +kernel)
theorem wd_722 : (Cond.code ⟨"DropRowsModel","drop","(I)I"⟩ prog_7_method_23_code 3 (Option.some FieldType.int)) ∈ kc_TB := kc_in 722 (by decide +kernel) (by decide +kernel)
theorem wd_723 : (Cond.methodLink "DropRowsModel" 147 ⟨"DropRowsModel","isFree","(I)Z"⟩) ∈ kc_TB := kc_in 723 (by decide +kernel) (by decide +kernel)
theorem wd_725 : (Cond.instanceMethod ⟨"DropRowsModel","isFree","(I)Z"⟩) ∈ kc_TB := kc_in 725 (by decide +kernel) (by decide +kernel)
theorem wd_726 : (Cond.code ⟨"DropRowsModel","isFree","(I)Z"⟩ prog_7_method_22_code 2 (Option.some FieldType.boolean)) ∈ kc_TB := kc_in 726 (by decide +kernel) (by decide +kernel)
theorem wd_727 : (Cond.methodLink "DropRowsModel" 150 ⟨"DropRowsModel","isOver","()Z"⟩) ∈ kc_TB := kc_in 727 (by decide +kernel) (by decide +kernel)
theorem wd_729 : (Cond.instanceMethod ⟨"DropRowsModel","isOver","()Z"⟩) ∈ kc_TB := kc_in 729 (by decide +kernel) (by decide +kernel)
theorem wd_730 : (Cond.code ⟨"DropRowsModel","isOver","()Z"⟩ prog_7_method_21_code 1 (Option.some FieldType.boolean)) ∈ kc_TB := kc_in 730 (by decide +kernel) (by decide +kernel)
theorem wd_731 : (Cond.methodLink "DropRowsModel" 154 ⟨"DropRowsModel","go","(I)V"⟩) ∈ kc_TB := kc_in 731 (by decide +kernel) (by decide +kernel)
theorem wd_733 : (Cond.instanceMethod ⟨"DropRowsModel","go","(I)V"⟩) ∈ kc_TB := kc_in 733 (by decide +kernel) (by decide +kernel)
theorem wd_734 : (Cond.code ⟨"DropRowsModel","go","(I)V"⟩ prog_7_method_24_code 2 (Option.none : Option FieldType)) ∈ kc_TB := kc_in 734 (by decide +kernel) (by decide +kernel)
theorem wd_735 : (Cond.methodLink "DropRowsLaw" 26 ⟨"DropRowsModel","back","(I)I"⟩) ∈ kc_TB := kc_in 735 (by decide +kernel) (by decide +kernel)
theorem wd_736 : (Cond.instanceMethod ⟨"DropRowsModel","back","(I)I"⟩) ∈ kc_TB := kc_in 736 (by decide +kernel) (by decide +kernel)
theorem wd_737 : (Cond.selects "DropRowsModel" ⟨"DropRowsModel","back","(I)I"⟩ ⟨"DropRowsModel","back","(I)I"⟩) ∈ kc_TB := kc_in 737 (by decide +kernel) (by decide +kernel)
theorem wd_738 : (Cond.code ⟨"DropRowsModel","back","(I)I"⟩ prog_7_method_25_code 2 (Option.some FieldType.int)) ∈ kc_TB := kc_in 738 (by decide +kernel) (by decide +kernel)
theorem wd_739 : (Cond.methodLink "DropRowsLaw" 30 ⟨"DropRowsModel","move","(I)I"⟩) ∈ kc_TB := kc_in 739 (by decide +kernel) (by decide +kernel)
theorem wd_740 : (Cond.instanceMethod ⟨"DropRowsModel","move","(I)I"⟩) ∈ kc_TB := kc_in 740 (by decide +kernel) (by decide +kernel)
theorem wd_741 : (Cond.selects "DropRowsModel" ⟨"DropRowsModel","move","(I)I"⟩ ⟨"DropRowsModel","move","(I)I"⟩) ∈ kc_TB := kc_in 741 (by decide +kernel) (by decide +kernel)
theorem wd_742 : (Cond.code ⟨"DropRowsModel","move","(I)I"⟩ prog_7_method_26_code 2 (Option.some FieldType.int)) ∈ kc_TB := kc_in 742 (by decide +kernel) (by decide +kernel)
theorem wd_743 : (Cond.methodLink "DropRowsLaw" 34 ⟨"DropRowsModel","at","(I)I"⟩) ∈ kc_TB := kc_in 743 (by decide +kernel) (by decide +kernel)
theorem wd_744 : (Cond.instanceMethod ⟨"DropRowsModel","at","(I)I"⟩) ∈ kc_TB := kc_in 744 (by decide +kernel) (by decide +kernel)
theorem wd_745 : (Cond.selects "DropRowsModel" ⟨"DropRowsModel","at","(I)I"⟩ ⟨"DropRowsModel","at","(I)I"⟩) ∈ kc_TB := kc_in 745 (by decide +kernel) (by decide +kernel)
theorem wd_746 : (Cond.code ⟨"DropRowsModel","at","(I)I"⟩ prog_7_method_27_code 2 (Option.some FieldType.int)) ∈ kc_TB := kc_in 746 (by decide +kernel) (by decide +kernel)
theorem wd_747 : (Cond.methodLink "DropRowsLaw" 38 ⟨"DropRowsModel","game","(I)I"⟩) ∈ kc_TB := kc_in 747 (by decide +kernel) (by decide +kernel)
theorem wd_748 : (Cond.instanceMethod ⟨"DropRowsModel","game","(I)I"⟩) ∈ kc_TB := kc_in 748 (by decide +kernel) (by decide +kernel)
theorem wd_749 : (Cond.selects "DropRowsModel" ⟨"DropRowsModel","game","(I)I"⟩ ⟨"DropRowsModel","game","(I)I"⟩) ∈ kc_TB := kc_in 749 (by decide +kernel) (by decide +kernel)
theorem wd_750 : (Cond.code ⟨"DropRowsModel","game","(I)I"⟩ prog_7_method_28_code 4 (Option.some FieldType.int)) ∈ kc_TB := kc_in 750 (by decide +kernel) (by decide +kernel)
theorem wd_751 : (Cond.methodLink "DropRowsLaw" 42 ⟨"DropRowsModel","won","(I)I"⟩) ∈ kc_TB := kc_in 751 (by decide +kernel) (by decide +kernel)
theorem wd_752 : (Cond.instanceMethod ⟨"DropRowsModel","won","(I)I"⟩) ∈ kc_TB := kc_in 752 (by decide +kernel) (by decide +kernel)
theorem wd_753 : (Cond.selects "DropRowsModel" ⟨"DropRowsModel","won","(I)I"⟩ ⟨"DropRowsModel","won","(I)I"⟩) ∈ kc_TB := kc_in 753 (by decide +kernel) (by decide +kernel)
theorem wd_754 : (Cond.code ⟨"DropRowsModel","won","(I)I"⟩ prog_7_method_31_code 5 (Option.some FieldType.int)) ∈ kc_TB := kc_in 754 (by decide +kernel) (by decide +kernel)
theorem wd_755 : (Cond.methodLink "DropRowsModel" 160 ⟨"DropRowsModel","isAhead","(II)Z"⟩) ∈ kc_TB := kc_in 755 (by decide +kernel) (by decide +kernel)
theorem wd_756 : (Cond.static ⟨"DropRowsModel","isAhead","(II)Z"⟩) ∈ kc_TB := kc_in 756 (by decide +kernel) (by decide +kernel)
theorem wd_757 : (Cond.code ⟨"DropRowsModel","isAhead","(II)Z"⟩ prog_7_method_30_code 4 (Option.some FieldType.boolean)) ∈ kc_TB := kc_in 757 (by decide +kernel) (by decide +kernel)
theorem wd_758 : (Cond.methodLink "DropRowsModel" 157 ⟨"DropRowsModel","bitOf","(II)I"⟩) ∈ kc_TB := kc_in 758 (by decide +kernel) (by decide +kernel)
theorem wd_759 : (Cond.static ⟨"DropRowsModel","bitOf","(II)I"⟩) ∈ kc_TB := kc_in 759 (by decide +kernel) (by decide +kernel)
theorem wd_760 : (Cond.code ⟨"DropRowsModel","bitOf","(II)I"⟩ prog_7_method_29_code 4 (Option.some FieldType.int)) ∈ kc_TB := kc_in 760 (by decide +kernel) (by decide +kernel)
theorem wd_761 : (Cond.methodLink "DropRowsLaw" 47 ⟨"DropRowsModel","worth","()I"⟩) ∈ kc_TB := kc_in 761 (by decide +kernel) (by decide +kernel)
theorem wd_762 : (Cond.instanceMethod ⟨"DropRowsModel","worth","()I"⟩) ∈ kc_TB := kc_in 762 (by decide +kernel) (by decide +kernel)
theorem wd_763 : (Cond.selects "DropRowsModel" ⟨"DropRowsModel","worth","()I"⟩ ⟨"DropRowsModel","worth","()I"⟩) ∈ kc_TB := kc_in 763 (by decide +kernel) (by decide +kernel)
theorem wd_764 : (Cond.code ⟨"DropRowsModel","worth","()I"⟩ prog_7_method_32_code 1 (Option.some FieldType.int)) ∈ kc_TB := kc_in 764 (by decide +kernel) (by decide +kernel)
theorem wd_765 : (Cond.methodLink "DropRowsLaw" 51 ⟨"DropRowsModel","worthOf","(I)I"⟩) ∈ kc_TB := kc_in 765 (by decide +kernel) (by decide +kernel)
theorem wd_766 : (Cond.instanceMethod ⟨"DropRowsModel","worthOf","(I)I"⟩) ∈ kc_TB := kc_in 766 (by decide +kernel) (by decide +kernel)
theorem wd_767 : (Cond.selects "DropRowsModel" ⟨"DropRowsModel","worthOf","(I)I"⟩ ⟨"DropRowsModel","worthOf","(I)I"⟩) ∈ kc_TB := kc_in 767 (by decide +kernel) (by decide +kernel)
theorem wd_768 : (Cond.code ⟨"DropRowsModel","worthOf","(I)I"⟩ prog_7_method_33_code 2 (Option.some FieldType.int)) ∈ kc_TB := kc_in 768 (by decide +kernel) (by decide +kernel)
theorem wd_769 : (Cond.methodLink "DropRowsLaw" 55 ⟨"DropRowsModel","best","()I"⟩) ∈ kc_TB := kc_in 769 (by decide +kernel) (by decide +kernel)
theorem wd_770 : (Cond.instanceMethod ⟨"DropRowsModel","best","()I"⟩) ∈ kc_TB := kc_in 770 (by decide +kernel) (by decide +kernel)
theorem wd_771 : (Cond.selects "DropRowsModel" ⟨"DropRowsModel","best","()I"⟩ ⟨"DropRowsModel","best","()I"⟩) ∈ kc_TB := kc_in 771 (by decide +kernel) (by decide +kernel)
theorem wd_772 : (Cond.code ⟨"DropRowsModel","best","()I"⟩ prog_7_method_35_code 1 (Option.some FieldType.int)) ∈ kc_TB := kc_in 772 (by decide +kernel) (by decide +kernel)
theorem wd_773 : (Cond.methodLink "DropRowsModel" 164 ⟨"DropRowsModel","bestMove","()I"⟩) ∈ kc_TB := kc_in 773 (by decide +kernel) (by decide +kernel)
theorem wd_775 : (Cond.instanceMethod ⟨"DropRowsModel","bestMove","()I"⟩) ∈ kc_TB := kc_in 775 (by decide +kernel) (by decide +kernel)
theorem wd_776 : (Cond.code ⟨"DropRowsModel","bestMove","()I"⟩ prog_7_method_34_code 2 (Option.some FieldType.int)) ∈ kc_TB := kc_in 776 (by decide +kernel) (by decide +kernel)
theorem wd_777 : (Cond.methodLink "DropRowsLaw" 59 ⟨"DropRowsModel","as","()I"⟩) ∈ kc_TB := kc_in 777 (by decide +kernel) (by decide +kernel)
theorem wd_778 : (Cond.instanceMethod ⟨"DropRowsModel","as","()I"⟩) ∈ kc_TB := kc_in 778 (by decide +kernel) (by decide +kernel)
theorem wd_779 : (Cond.selects "DropRowsModel" ⟨"DropRowsModel","as","()I"⟩ ⟨"DropRowsModel","as","()I"⟩) ∈ kc_TB := kc_in 779 (by decide +kernel) (by decide +kernel)
theorem wd_780 : (Cond.code ⟨"DropRowsModel","as","()I"⟩ prog_7_method_36_code 3 (Option.some FieldType.int)) ∈ kc_TB := kc_in 780 (by decide +kernel) (by decide +kernel)
theorem wd_781 : (Cond.methodLink "DropRowsLaw" 63 ⟨"DropRowsModel","play","()I"⟩) ∈ kc_TB := kc_in 781 (by decide +kernel) (by decide +kernel)
theorem wd_782 : (Cond.instanceMethod ⟨"DropRowsModel","play","()I"⟩) ∈ kc_TB := kc_in 782 (by decide +kernel) (by decide +kernel)
theorem wd_783 : (Cond.selects "DropRowsModel" ⟨"DropRowsModel","play","()I"⟩ ⟨"DropRowsModel","play","()I"⟩) ∈ kc_TB := kc_in 783 (by decide +kernel) (by decide +kernel)
theorem wd_784 : (Cond.code ⟨"DropRowsModel","play","()I"⟩ prog_7_method_37_code 2 (Option.some FieldType.int)) ∈ kc_TB := kc_in 784 (by decide +kernel) (by decide +kernel)
theorem wd_785 : (Cond.methodLink "DropRowsLaw" 67 ⟨"DropRowsModel","positions","(I)I"⟩) ∈ kc_TB := kc_in 785 (by decide +kernel) (by decide +kernel)
theorem wd_786 : (Cond.instanceMethod ⟨"DropRowsModel","positions","(I)I"⟩) ∈ kc_TB := kc_in 786 (by decide +kernel) (by decide +kernel)
theorem wd_787 : (Cond.selects "DropRowsModel" ⟨"DropRowsModel","positions","(I)I"⟩ ⟨"DropRowsModel","positions","(I)I"⟩) ∈ kc_TB := kc_in 787 (by decide +kernel) (by decide +kernel)
theorem wd_788 : (Cond.code ⟨"DropRowsModel","positions","(I)I"⟩ prog_7_method_38_code 2 (Option.some FieldType.int)) ∈ kc_TB := kc_in 788 (by decide +kernel) (by decide +kernel)
theorem wd_789 : (Cond.methodLink "DropRowsLaw" 71 ⟨"DropRowsModel","wins","(I)I"⟩) ∈ kc_TB := kc_in 789 (by decide +kernel) (by decide +kernel)
theorem wd_790 : (Cond.instanceMethod ⟨"DropRowsModel","wins","(I)I"⟩) ∈ kc_TB := kc_in 790 (by decide +kernel) (by decide +kernel)
theorem wd_791 : (Cond.selects "DropRowsModel" ⟨"DropRowsModel","wins","(I)I"⟩ ⟨"DropRowsModel","wins","(I)I"⟩) ∈ kc_TB := kc_in 791 (by decide +kernel) (by decide +kernel)
theorem wd_792 : (Cond.code ⟨"DropRowsModel","wins","(I)I"⟩ prog_7_method_39_code 2 (Option.some FieldType.int)) ∈ kc_TB := kc_in 792 (by decide +kernel) (by decide +kernel)
theorem wd_793 : (Cond.methodLink "DropRowsLaw" 76 ⟨"DropRowsModel","share","(II)I"⟩) ∈ kc_TB := kc_in 793 (by decide +kernel) (by decide +kernel)
theorem wd_794 : (Cond.instanceMethod ⟨"DropRowsModel","share","(II)I"⟩) ∈ kc_TB := kc_in 794 (by decide +kernel) (by decide +kernel)
theorem wd_795 : (Cond.selects "DropRowsModel" ⟨"DropRowsModel","share","(II)I"⟩ ⟨"DropRowsModel","share","(II)I"⟩) ∈ kc_TB := kc_in 795 (by decide +kernel) (by decide +kernel)
theorem wd_796 : (Cond.code ⟨"DropRowsModel","share","(II)I"⟩ prog_7_method_40_code 3 (Option.some FieldType.int)) ∈ kc_TB := kc_in 796 (by decide +kernel) (by decide +kernel)
theorem wd_797 : (Cond.constantLong "DropRowsModel" 167 (-1 : Int64)) ∈ kc_TB := kc_in 797 (by decide +kernel) (by decide +kernel)
theorem wd_798 : (Cond.methodLink "DropRowsLaw" 80 ⟨"DropRowsModel","even","()I"⟩) ∈ kc_TB := kc_in 798 (by decide +kernel) (by decide +kernel)
theorem wd_799 : (Cond.instanceMethod ⟨"DropRowsModel","even","()I"⟩) ∈ kc_TB := kc_in 799 (by decide +kernel) (by decide +kernel)
theorem wd_800 : (Cond.selects "DropRowsModel" ⟨"DropRowsModel","even","()I"⟩ ⟨"DropRowsModel","even","()I"⟩) ∈ kc_TB := kc_in 800 (by decide +kernel) (by decide +kernel)
theorem wd_801 : (Cond.code ⟨"DropRowsModel","even","()I"⟩ prog_7_method_41_code 3 (Option.some FieldType.int)) ∈ kc_TB := kc_in 801 (by decide +kernel) (by decide +kernel)
theorem wd_802 : (Cond.methodLink "DropRowsLaw" 84 ⟨"DropRowsModel","threats","(I)I"⟩) ∈ kc_TB := kc_in 802 (by decide +kernel) (by decide +kernel)
theorem wd_803 : (Cond.instanceMethod ⟨"DropRowsModel","threats","(I)I"⟩) ∈ kc_TB := kc_in 803 (by decide +kernel) (by decide +kernel)
theorem wd_804 : (Cond.selects "DropRowsModel" ⟨"DropRowsModel","threats","(I)I"⟩ ⟨"DropRowsModel","threats","(I)I"⟩) ∈ kc_TB := kc_in 804 (by decide +kernel) (by decide +kernel)
theorem wd_805 : (Cond.code ⟨"DropRowsModel","threats","(I)I"⟩ prog_7_method_43_code 4 (Option.some FieldType.int)) ∈ kc_TB := kc_in 805 (by decide +kernel) (by decide +kernel)
theorem wd_806 : (Cond.methodLink "DropRowsModel" 169 ⟨"DropRowsModel","threatsOf","(I)I"⟩) ∈ kc_TB := kc_in 806 (by decide +kernel) (by decide +kernel)
theorem wd_808 : (Cond.instanceMethod ⟨"DropRowsModel","threatsOf","(I)I"⟩) ∈ kc_TB := kc_in 808 (by decide +kernel) (by decide +kernel)
theorem wd_809 : (Cond.code ⟨"DropRowsModel","threatsOf","(I)I"⟩ prog_7_method_42_code 6 (Option.some FieldType.int)) ∈ kc_TB := kc_in 809 (by decide +kernel) (by decide +kernel)
theorem wd_810 : (Cond.methodLink "DropRowsLaw" 88 ⟨"DropRowsModel","threat","(II)I"⟩) ∈ kc_TB := kc_in 810 (by decide +kernel) (by decide +kernel)
theorem wd_811 : (Cond.instanceMethod ⟨"DropRowsModel","threat","(II)I"⟩) ∈ kc_TB := kc_in 811 (by decide +kernel) (by decide +kernel)
theorem wd_812 : (Cond.selects "DropRowsModel" ⟨"DropRowsModel","threat","(II)I"⟩ ⟨"DropRowsModel","threat","(II)I"⟩) ∈ kc_TB := kc_in 812 (by decide +kernel) (by decide +kernel)
theorem wd_813 : (Cond.code ⟨"DropRowsModel","threat","(II)I"⟩ prog_7_method_44_code 4 (Option.some FieldType.int)) ∈ kc_TB := kc_in 813 (by decide +kernel) (by decide +kernel)
theorem wd_814 : (Cond.methodLink "DropRowsLaw" 92 ⟨"DropRowsModel","waiting","()I"⟩) ∈ kc_TB := kc_in 814 (by decide +kernel) (by decide +kernel)
theorem wd_815 : (Cond.instanceMethod ⟨"DropRowsModel","waiting","()I"⟩) ∈ kc_TB := kc_in 815 (by decide +kernel) (by decide +kernel)
theorem wd_816 : (Cond.selects "DropRowsModel" ⟨"DropRowsModel","waiting","()I"⟩ ⟨"DropRowsModel","waiting","()I"⟩) ∈ kc_TB := kc_in 816 (by decide +kernel) (by decide +kernel)
theorem wd_817 : (Cond.code ⟨"DropRowsModel","waiting","()I"⟩ prog_7_method_46_code 9 (Option.some FieldType.int)) ∈ kc_TB := kc_in 817 (by decide +kernel) (by decide +kernel)
theorem wd_818 : (Cond.methodLink "DropRowsModel" 173 ⟨"DropRowsModel","sortOf","(IIII)I"⟩) ∈ kc_TB := kc_in 818 (by decide +kernel) (by decide +kernel)
theorem wd_820 : (Cond.instanceMethod ⟨"DropRowsModel","sortOf","(IIII)I"⟩) ∈ kc_TB := kc_in 820 (by decide +kernel) (by decide +kernel)
theorem wd_821 : (Cond.code ⟨"DropRowsModel","sortOf","(IIII)I"⟩ prog_7_method_45_code 8 (Option.some FieldType.int)) ∈ kc_TB := kc_in 821 (by decide +kernel) (by decide +kernel)
theorem wd_822 : (Cond.methodLink "DropRowsLaw" 97 ⟨"DropRowsModel","sheet","(III)I"⟩) ∈ kc_TB := kc_in 822 (by decide +kernel) (by decide +kernel)
theorem wd_823 : (Cond.instanceMethod ⟨"DropRowsModel","sheet","(III)I"⟩) ∈ kc_TB := kc_in 823 (by decide +kernel) (by decide +kernel)
theorem wd_824 : (Cond.selects "DropRowsModel" ⟨"DropRowsModel","sheet","(III)I"⟩ ⟨"DropRowsModel","sheet","(III)I"⟩) ∈ kc_TB := kc_in 824 (by decide +kernel) (by decide +kernel)
theorem wd_825 : (Cond.code ⟨"DropRowsModel","sheet","(III)I"⟩ prog_7_method_49_code 5 (Option.some FieldType.int)) ∈ kc_TB := kc_in 825 (by decide +kernel) (by decide +kernel)
theorem wd_826 : (Cond.methodLink "DropRowsModel" 181 ⟨"DropRowsModel","isSheet","(I)Z"⟩) ∈ kc_TB := kc_in 826 (by decide +kernel) (by decide +kernel)
theorem wd_827 : (Cond.static ⟨"DropRowsModel","isSheet","(I)Z"⟩) ∈ kc_TB := kc_in 827 (by decide +kernel) (by decide +kernel)
theorem wd_828 : (Cond.code ⟨"DropRowsModel","isSheet","(I)Z"⟩ prog_7_method_48_code 1 (Option.some FieldType.boolean)) ∈ kc_TB := kc_in 828 (by decide +kernel) (by decide +kernel)
theorem wd_829 : (Cond.constantLong "DropRowsModel" 179 (3 : Int64)) ∈ kc_TB := kc_in 829 (by decide +kernel) (by decide +kernel)
theorem wd_830 : (Cond.methodLink "DropRowsModel" 184 ⟨"DropRowsModel","met","(I)I"⟩) ∈ kc_TB := kc_in 830 (by decide +kernel) (by decide +kernel)
theorem wd_832 : (Cond.instanceMethod ⟨"DropRowsModel","met","(I)I"⟩) ∈ kc_TB := kc_in 832 (by decide +kernel) (by decide +kernel)
theorem wd_833 : (Cond.code ⟨"DropRowsModel","met","(I)I"⟩ prog_7_method_47_code 2 (Option.some FieldType.int)) ∈ kc_TB := kc_in 833 (by decide +kernel) (by decide +kernel)
theorem wd_834 : (Cond.methodLink "DropRowsLaw" 101 ⟨"DropRowsModel","lose","(I)I"⟩) ∈ kc_TB := kc_in 834 (by decide +kernel) (by decide +kernel)
theorem wd_835 : (Cond.instanceMethod ⟨"DropRowsModel","lose","(I)I"⟩) ∈ kc_TB := kc_in 835 (by decide +kernel) (by decide +kernel)
theorem wd_836 : (Cond.selects "DropRowsModel" ⟨"DropRowsModel","lose","(I)I"⟩ ⟨"DropRowsModel","lose","(I)I"⟩) ∈ kc_TB := kc_in 836 (by decide +kernel) (by decide +kernel)
theorem wd_837 : (Cond.code ⟨"DropRowsModel","lose","(I)I"⟩ prog_7_method_50_code 2 (Option.some FieldType.int)) ∈ kc_TB := kc_in 837 (by decide +kernel) (by decide +kernel)
theorem wd_838 : (Cond.methodLink "DropRowsLaw" 106 ⟨"DropRowsModel","put","(IIII)I"⟩) ∈ kc_TB := kc_in 838 (by decide +kernel) (by decide +kernel)
theorem wd_839 : (Cond.instanceMethod ⟨"DropRowsModel","put","(IIII)I"⟩) ∈ kc_TB := kc_in 839 (by decide +kernel) (by decide +kernel)
theorem wd_840 : (Cond.selects "DropRowsModel" ⟨"DropRowsModel","put","(IIII)I"⟩ ⟨"DropRowsModel","put","(IIII)I"⟩) ∈ kc_TB := kc_in 840 (by decide +kernel) (by decide +kernel)
theorem wd_841 : (Cond.code ⟨"DropRowsModel","put","(IIII)I"⟩ prog_7_method_53_code 6 (Option.some FieldType.int)) ∈ kc_TB := kc_in 841 (by decide +kernel) (by decide +kernel)
theorem wd_842 : (Cond.methodLink "DropRowsModel" 187 ⟨"DropRowsModel","lacks","(III)I"⟩) ∈ kc_TB := kc_in 842 (by decide +kernel) (by decide +kernel)
theorem wd_844 : (Cond.instanceMethod ⟨"DropRowsModel","lacks","(III)I"⟩) ∈ kc_TB := kc_in 844 (by decide +kernel) (by decide +kernel)
theorem wd_845 : (Cond.code ⟨"DropRowsModel","lacks","(III)I"⟩ prog_7_method_51_code 4 (Option.some FieldType.int)) ∈ kc_TB := kc_in 845 (by decide +kernel) (by decide +kernel)
theorem wd_846 : (Cond.methodLink "DropRowsModel" 190 ⟨"DropRowsModel","cut","(II)I"⟩) ∈ kc_TB := kc_in 846 (by decide +kernel) (by decide +kernel)
theorem wd_847 : (Cond.static ⟨"DropRowsModel","cut","(II)I"⟩) ∈ kc_TB := kc_in 847 (by decide +kernel) (by decide +kernel)
theorem wd_848 : (Cond.code ⟨"DropRowsModel","cut","(II)I"⟩ prog_7_method_52_code 2 (Option.some FieldType.int)) ∈ kc_TB := kc_in 848 (by decide +kernel) (by decide +kernel)
theorem wd_849 : (Cond.methodLink "DropRowsLaw" 110 ⟨"DropRowsModel","get","(III)I"⟩) ∈ kc_TB := kc_in 849 (by decide +kernel) (by decide +kernel)
theorem wd_850 : (Cond.instanceMethod ⟨"DropRowsModel","get","(III)I"⟩) ∈ kc_TB := kc_in 850 (by decide +kernel) (by decide +kernel)
theorem wd_851 : (Cond.selects "DropRowsModel" ⟨"DropRowsModel","get","(III)I"⟩ ⟨"DropRowsModel","get","(III)I"⟩) ∈ kc_TB := kc_in 851 (by decide +kernel) (by decide +kernel)
theorem wd_852 : (Cond.code ⟨"DropRowsModel","get","(III)I"⟩ prog_7_method_54_code 4 (Option.some FieldType.int)) ∈ kc_TB := kc_in 852 (by decide +kernel) (by decide +kernel)
theorem wd_853 : (Cond.constant "DropRowsModel" 193 (-2147483648 : Int32)) ∈ kc_TB := kc_in 853 (by decide +kernel) (by decide +kernel)
theorem wd_854 : (Cond.methodLink "DropRowsLaw" 115 ⟨"DropRowsModel","copy","(IIIII)I"⟩) ∈ kc_TB := kc_in 854 (by decide +kernel) (by decide +kernel)
theorem wd_855 : (Cond.instanceMethod ⟨"DropRowsModel","copy","(IIIII)I"⟩) ∈ kc_TB := kc_in 855 (by decide +kernel) (by decide +kernel)
theorem wd_856 : (Cond.selects "DropRowsModel" ⟨"DropRowsModel","copy","(IIIII)I"⟩ ⟨"DropRowsModel","copy","(IIIII)I"⟩) ∈ kc_TB := kc_in 856 (by decide +kernel) (by decide +kernel)
theorem wd_857 : (Cond.code ⟨"DropRowsModel","copy","(IIIII)I"⟩ prog_7_method_55_code 7 (Option.some FieldType.int)) ∈ kc_TB := kc_in 857 (by decide +kernel) (by decide +kernel)
theorem wd_858 : (Cond.methodLink "DropRowsLaw" 119 ⟨"DropRowsModel","take","(II)I"⟩) ∈ kc_TB := kc_in 858 (by decide +kernel) (by decide +kernel)
theorem wd_859 : (Cond.instanceMethod ⟨"DropRowsModel","take","(II)I"⟩) ∈ kc_TB := kc_in 859 (by decide +kernel) (by decide +kernel)
theorem wd_860 : (Cond.selects "DropRowsModel" ⟨"DropRowsModel","take","(II)I"⟩ ⟨"DropRowsModel","take","(II)I"⟩) ∈ kc_TB := kc_in 860 (by decide +kernel) (by decide +kernel)
theorem wd_861 : (Cond.code ⟨"DropRowsModel","take","(II)I"⟩ prog_7_method_56_code 7 (Option.some FieldType.int)) ∈ kc_TB := kc_in 861 (by decide +kernel) (by decide +kernel)
theorem wd_862 : (Cond.constantLong "DropRowsModel" 194 (16 : Int64)) ∈ kc_TB := kc_in 862 (by decide +kernel) (by decide +kernel)
theorem wd_863 : (Cond.methodLink "DropRowsModel" 196 ⟨"DropRowsModel","game","(I)I"⟩) ∈ kc_TB := kc_in 863 (by decide +kernel) (by decide +kernel)
theorem wd_864 : (Cond.methodLink "DropRowsLaw" 123 ⟨"DropRowsModel","write","(I)I"⟩) ∈ kc_TB := kc_in 864 (by decide +kernel) (by decide +kernel)
theorem wd_865 : (Cond.instanceMethod ⟨"DropRowsModel","write","(I)I"⟩) ∈ kc_TB := kc_in 865 (by decide +kernel) (by decide +kernel)
theorem wd_866 : (Cond.selects "DropRowsModel" ⟨"DropRowsModel","write","(I)I"⟩ ⟨"DropRowsModel","write","(I)I"⟩) ∈ kc_TB := kc_in 866 (by decide +kernel) (by decide +kernel)
theorem wd_867 : (Cond.code ⟨"DropRowsModel","write","(I)I"⟩ prog_7_method_57_code 3 (Option.some FieldType.int)) ∈ kc_TB := kc_in 867 (by decide +kernel) (by decide +kernel)
theorem wd_868 : (Cond.methodLink "DropRowsLaw" 127 ⟨"DropRowsModel","count","(I)I"⟩) ∈ kc_TB := kc_in 868 (by decide +kernel) (by decide +kernel)
theorem wd_869 : (Cond.instanceMethod ⟨"DropRowsModel","count","(I)I"⟩) ∈ kc_TB := kc_in 869 (by decide +kernel) (by decide +kernel)
theorem wd_870 : (Cond.selects "DropRowsModel" ⟨"DropRowsModel","count","(I)I"⟩ ⟨"DropRowsModel","count","(I)I"⟩) ∈ kc_TB := kc_in 870 (by decide +kernel) (by decide +kernel)
theorem wd_871 : (Cond.code ⟨"DropRowsModel","count","(I)I"⟩ prog_7_method_58_code 2 (Option.some FieldType.int)) ∈ kc_TB := kc_in 871 (by decide +kernel) (by decide +kernel)
theorem wd_872 : (Cond.methodLink "DropRowsLaw" 132 ⟨"DropRowsModel","digest","()J"⟩) ∈ kc_TB := kc_in 872 (by decide +kernel) (by decide +kernel)
theorem wd_873 : (Cond.instanceMethod ⟨"DropRowsModel","digest","()J"⟩) ∈ kc_TB := kc_in 873 (by decide +kernel) (by decide +kernel)
theorem wd_874 : (Cond.selects "DropRowsModel" ⟨"DropRowsModel","digest","()J"⟩ ⟨"DropRowsModel","digest","()J"⟩) ∈ kc_TB := kc_in 874 (by decide +kernel) (by decide +kernel)
theorem wd_875 : (Cond.code ⟨"DropRowsModel","digest","()J"⟩ prog_7_method_59_code 4 (Option.some FieldType.long)) ∈ kc_TB := kc_in 875 (by decide +kernel) (by decide +kernel)
theorem wd_876 : (Cond.constantLong "DropRowsModel" 199 (17 : Int64)) ∈ kc_TB := kc_in 876 (by decide +kernel) (by decide +kernel)
theorem wd_877 : (Cond.constantLong "DropRowsModel" 201 (31 : Int64)) ∈ kc_TB := kc_in 877 (by decide +kernel) (by decide +kernel)
theorem wd_878 : (Cond.methodLink "DropRowsModel" 203 ⟨"DropRowsModel","count","(I)I"⟩) ∈ kc_TB := kc_in 878 (by decide +kernel) (by decide +kernel)
theorem wd_879 : (Cond.methodLink "DropRowsModel" 205 ⟨"DropRowsModel","at","(I)I"⟩) ∈ kc_TB := kc_in 879 (by decide +kernel) (by decide +kernel)
theorem iX0 : ∀ w ∈ wsX00, w ∈ kc_TB := fun w h => List.mem_filter.mpr ⟨(by decide +kernel : ∀ w ∈ wsX00, w ∈ lw_tbl) w h, (by decide +kernel : ∀ w ∈ wsX00, goodWord w = true) w h⟩
theorem iX1 : ∀ w ∈ wsX10, w ∈ kc_TB := fun w h => List.mem_filter.mpr ⟨(by decide +kernel : ∀ w ∈ wsX10, w ∈ lw_tbl) w h, (by decide +kernel : ∀ w ∈ wsX10, goodWord w = true) w h⟩
theorem iX2 : ∀ w ∈ wsX20, w ∈ kc_TB := fun w h => List.mem_filter.mpr ⟨(by decide +kernel : ∀ w ∈ wsX20, w ∈ lw_tbl) w h, (by decide +kernel : ∀ w ∈ wsX20, goodWord w = true) w h⟩
theorem iX3 : ∀ w ∈ wsX30, w ∈ kc_TB := fun w h => List.mem_filter.mpr ⟨(by decide +kernel : ∀ w ∈ wsX30, w ∈ lw_tbl) w h, (by decide +kernel : ∀ w ∈ wsX30, goodWord w = true) w h⟩
theorem iX4 : ∀ w ∈ wsX40, w ∈ kc_TB := fun w h => List.mem_filter.mpr ⟨(by decide +kernel : ∀ w ∈ wsX40, w ∈ lw_tbl) w h, (by decide +kernel : ∀ w ∈ wsX40, goodWord w = true) w h⟩
theorem iX5 : ∀ w ∈ wsX50, w ∈ kc_TB := fun w h => List.mem_filter.mpr ⟨(by decide +kernel : ∀ w ∈ wsX50, w ∈ lw_tbl) w h, (by decide +kernel : ∀ w ∈ wsX50, goodWord w = true) w h⟩
theorem sw_out4 {x : Int32} (h0 : ¬ x = (0 : Int32)) (h1 : ¬ x = (1 : Int32)) (h2 : ¬ x = (2 : Int32)) (h3 : ¬ x = (3 : Int32)) (h4 : ¬ x = (4 : Int32)) : x.toInt < (0 : Int) ∨ (4 : Int) < x.toInt := by
  have e0 : x.toInt ≠ 0 := fun q => h0 (Int32.toInt_inj.mp (q.trans (by decide)))
  have e1 : x.toInt ≠ 1 := fun q => h1 (Int32.toInt_inj.mp (q.trans (by decide)))
  have e2 : x.toInt ≠ 2 := fun q => h2 (Int32.toInt_inj.mp (q.trans (by decide)))
  have e3 : x.toInt ≠ 3 := fun q => h3 (Int32.toInt_inj.mp (q.trans (by decide)))
  have e4 : x.toInt ≠ 4 := fun q => h4 (Int32.toInt_inj.mp (q.trans (by decide)))
  omega
theorem sw_out6 {x : Int32} (h0 : ¬ x = (0 : Int32)) (h1 : ¬ x = (1 : Int32)) (h2 : ¬ x = (2 : Int32)) (h3 : ¬ x = (3 : Int32)) (h4 : ¬ x = (4 : Int32)) (h5 : ¬ x = (5 : Int32)) (h6 : ¬ x = (6 : Int32)) : x.toInt < (0 : Int) ∨ (6 : Int) < x.toInt := by
  have e0 : x.toInt ≠ 0 := fun q => h0 (Int32.toInt_inj.mp (q.trans (by decide)))
  have e1 : x.toInt ≠ 1 := fun q => h1 (Int32.toInt_inj.mp (q.trans (by decide)))
  have e2 : x.toInt ≠ 2 := fun q => h2 (Int32.toInt_inj.mp (q.trans (by decide)))
  have e3 : x.toInt ≠ 3 := fun q => h3 (Int32.toInt_inj.mp (q.trans (by decide)))
  have e4 : x.toInt ≠ 4 := fun q => h4 (Int32.toInt_inj.mp (q.trans (by decide)))
  have e5 : x.toInt ≠ 5 := fun q => h5 (Int32.toInt_inj.mp (q.trans (by decide)))
  have e6 : x.toInt ≠ 6 := fun q => h6 (Int32.toInt_inj.mp (q.trans (by decide)))
  omega
theorem sw_out27 {x : Int32} (h0 : ¬ x = (0 : Int32)) (h1 : ¬ x = (1 : Int32)) (h2 : ¬ x = (2 : Int32)) (h3 : ¬ x = (3 : Int32)) (h4 : ¬ x = (4 : Int32)) (h5 : ¬ x = (5 : Int32)) (h6 : ¬ x = (6 : Int32)) (h7 : ¬ x = (7 : Int32)) (h8 : ¬ x = (8 : Int32)) (h9 : ¬ x = (9 : Int32)) (h10 : ¬ x = (10 : Int32)) (h11 : ¬ x = (11 : Int32)) (h12 : ¬ x = (12 : Int32)) (h13 : ¬ x = (13 : Int32)) (h14 : ¬ x = (14 : Int32)) (h15 : ¬ x = (15 : Int32)) (h16 : ¬ x = (16 : Int32)) (h17 : ¬ x = (17 : Int32)) (h18 : ¬ x = (18 : Int32)) (h19 : ¬ x = (19 : Int32)) (h20 : ¬ x = (20 : Int32)) (h21 : ¬ x = (21 : Int32)) (h22 : ¬ x = (22 : Int32)) (h23 : ¬ x = (23 : Int32)) (h24 : ¬ x = (24 : Int32)) (h25 : ¬ x = (25 : Int32)) (h26 : ¬ x = (26 : Int32)) (h27 : ¬ x = (27 : Int32)) : x.toInt < (0 : Int) ∨ (27 : Int) < x.toInt := by
  have e0 : x.toInt ≠ 0 := fun q => h0 (Int32.toInt_inj.mp (q.trans (by decide)))
  have e1 : x.toInt ≠ 1 := fun q => h1 (Int32.toInt_inj.mp (q.trans (by decide)))
  have e2 : x.toInt ≠ 2 := fun q => h2 (Int32.toInt_inj.mp (q.trans (by decide)))
  have e3 : x.toInt ≠ 3 := fun q => h3 (Int32.toInt_inj.mp (q.trans (by decide)))
  have e4 : x.toInt ≠ 4 := fun q => h4 (Int32.toInt_inj.mp (q.trans (by decide)))
  have e5 : x.toInt ≠ 5 := fun q => h5 (Int32.toInt_inj.mp (q.trans (by decide)))
  have e6 : x.toInt ≠ 6 := fun q => h6 (Int32.toInt_inj.mp (q.trans (by decide)))
  have e7 : x.toInt ≠ 7 := fun q => h7 (Int32.toInt_inj.mp (q.trans (by decide)))
  have e8 : x.toInt ≠ 8 := fun q => h8 (Int32.toInt_inj.mp (q.trans (by decide)))
  have e9 : x.toInt ≠ 9 := fun q => h9 (Int32.toInt_inj.mp (q.trans (by decide)))
  have e10 : x.toInt ≠ 10 := fun q => h10 (Int32.toInt_inj.mp (q.trans (by decide)))
  have e11 : x.toInt ≠ 11 := fun q => h11 (Int32.toInt_inj.mp (q.trans (by decide)))
  have e12 : x.toInt ≠ 12 := fun q => h12 (Int32.toInt_inj.mp (q.trans (by decide)))
  have e13 : x.toInt ≠ 13 := fun q => h13 (Int32.toInt_inj.mp (q.trans (by decide)))
  have e14 : x.toInt ≠ 14 := fun q => h14 (Int32.toInt_inj.mp (q.trans (by decide)))
  have e15 : x.toInt ≠ 15 := fun q => h15 (Int32.toInt_inj.mp (q.trans (by decide)))
  have e16 : x.toInt ≠ 16 := fun q => h16 (Int32.toInt_inj.mp (q.trans (by decide)))
  have e17 : x.toInt ≠ 17 := fun q => h17 (Int32.toInt_inj.mp (q.trans (by decide)))
  have e18 : x.toInt ≠ 18 := fun q => h18 (Int32.toInt_inj.mp (q.trans (by decide)))
  have e19 : x.toInt ≠ 19 := fun q => h19 (Int32.toInt_inj.mp (q.trans (by decide)))
  have e20 : x.toInt ≠ 20 := fun q => h20 (Int32.toInt_inj.mp (q.trans (by decide)))
  have e21 : x.toInt ≠ 21 := fun q => h21 (Int32.toInt_inj.mp (q.trans (by decide)))
  have e22 : x.toInt ≠ 22 := fun q => h22 (Int32.toInt_inj.mp (q.trans (by decide)))
  have e23 : x.toInt ≠ 23 := fun q => h23 (Int32.toInt_inj.mp (q.trans (by decide)))
  have e24 : x.toInt ≠ 24 := fun q => h24 (Int32.toInt_inj.mp (q.trans (by decide)))
  have e25 : x.toInt ≠ 25 := fun q => h25 (Int32.toInt_inj.mp (q.trans (by decide)))
  have e26 : x.toInt ≠ 26 := fun q => h26 (Int32.toInt_inj.mp (q.trans (by decide)))
  have e27 : x.toInt ≠ 27 := fun q => h27 (Int32.toInt_inj.mp (q.trans (by decide)))
  omega
end
section
/-! the instructions, decoded -/
theorem dX0_init_0 : decode cX0_init 0 = .ok (.aload_n 0, 1) := by decide +kernel
theorem dX0_init_1 : decode cX0_init 1 = .ok (.invokespecial 3, 3) := by decide +kernel
theorem dX0_init_4 : decode cX0_init 4 = .ok (.aload_n 0, 1) := by decide +kernel
theorem dX0_init_5 : decode cX0_init 5 = .ok (.bipush 16, 2) := by decide +kernel
theorem dX0_init_7 : decode cX0_init 7 = .ok (.newarray .int, 2) := by decide +kernel
theorem dX0_init_9 : decode cX0_init 9 = .ok (.putfield 9, 3) := by decide +kernel
theorem dX0_init_12 : decode cX0_init 12 = .ok (.aload_n 0, 1) := by decide +kernel
theorem dX0_init_13 : decode cX0_init 13 = .ok (.iconst 2, 1) := by decide +kernel
theorem dX0_init_14 : decode cX0_init 14 = .ok (.newarray .int, 2) := by decide +kernel
theorem dX0_init_16 : decode cX0_init 16 = .ok (.putfield 15, 3) := by decide +kernel
theorem dX0_init_19 : decode cX0_init 19 = .ok (.aload_n 0, 1) := by decide +kernel
theorem dX0_init_20 : decode cX0_init 20 = .ok (.bipush 7, 2) := by decide +kernel
theorem dX0_init_22 : decode cX0_init 22 = .ok (.newarray .int, 2) := by decide +kernel
theorem dX0_init_24 : decode cX0_init 24 = .ok (.putfield 18, 3) := by decide +kernel
theorem dX0_init_27 : decode cX0_init 27 = .ok (.aload_n 0, 1) := by decide +kernel
theorem dX0_init_28 : decode cX0_init 28 = .ok (.aload_n 1, 1) := by decide +kernel
theorem dX0_init_29 : decode cX0_init 29 = .ok (.putfield 21, 3) := by decide +kernel
theorem dX0_init_32 : decode cX0_init 32 = .ok (.return_, 1) := by decide +kernel
theorem dX0_clear_0 : decode cX0_clear 0 = .ok (.aload_n 0, 1) := by decide +kernel
theorem dX0_clear_1 : decode cX0_clear 1 = .ok (.iconst 0, 1) := by decide +kernel
theorem dX0_clear_2 : decode cX0_clear 2 = .ok (.putfield 25, 3) := by decide +kernel
theorem dX0_clear_5 : decode cX0_clear 5 = .ok (.aload_n 0, 1) := by decide +kernel
theorem dX0_clear_6 : decode cX0_clear 6 = .ok (.getfield 15, 3) := by decide +kernel
theorem dX0_clear_9 : decode cX0_clear 9 = .ok (.iconst 0, 1) := by decide +kernel
theorem dX0_clear_10 : decode cX0_clear 10 = .ok (.invokestatic 29, 3) := by decide +kernel
theorem dX0_clear_13 : decode cX0_clear 13 = .ok (.aload_n 0, 1) := by decide +kernel
theorem dX0_clear_14 : decode cX0_clear 14 = .ok (.getfield 18, 3) := by decide +kernel
theorem dX0_clear_17 : decode cX0_clear 17 = .ok (.iconst 0, 1) := by decide +kernel
theorem dX0_clear_18 : decode cX0_clear 18 = .ok (.invokestatic 29, 3) := by decide +kernel
theorem dX0_clear_21 : decode cX0_clear 21 = .ok (.return_, 1) := by decide +kernel
theorem dX0_follow_0 : decode cX0_follow 0 = .ok (.aload_n 0, 1) := by decide +kernel
theorem dX0_follow_1 : decode cX0_follow 1 = .ok (.invokevirtual 35, 3) := by decide +kernel
theorem dX0_follow_4 : decode cX0_follow 4 = .ok (.iconst 0, 1) := by decide +kernel
theorem dX0_follow_5 : decode cX0_follow 5 = .ok (.istore_n 2, 1) := by decide +kernel
theorem dX0_follow_6 : decode cX0_follow 6 = .ok (.iload_n 2, 1) := by decide +kernel
theorem dX0_follow_7 : decode cX0_follow 7 = .ok (.aload_n 1, 1) := by decide +kernel
theorem dX0_follow_8 : decode cX0_follow 8 = .ok (.getfield 25, 3) := by decide +kernel
theorem dX0_follow_11 : decode cX0_follow 11 = .ok (.if_icmp .ge 20, 3) := by decide +kernel
theorem dX0_follow_14 : decode cX0_follow 14 = .ok (.aload_n 0, 1) := by decide +kernel
theorem dX0_follow_15 : decode cX0_follow 15 = .ok (.aload_n 1, 1) := by decide +kernel
theorem dX0_follow_16 : decode cX0_follow 16 = .ok (.getfield 9, 3) := by decide +kernel
theorem dX0_follow_19 : decode cX0_follow 19 = .ok (.iload_n 2, 1) := by decide +kernel
theorem dX0_follow_20 : decode cX0_follow 20 = .ok (.iaload, 1) := by decide +kernel
theorem dX0_follow_21 : decode cX0_follow 21 = .ok (.invokevirtual 38, 3) := by decide +kernel
theorem dX0_follow_24 : decode cX0_follow 24 = .ok (.pop, 1) := by decide +kernel
theorem dX0_follow_25 : decode cX0_follow 25 = .ok (.iinc 2 1, 3) := by decide +kernel
theorem dX0_follow_28 : decode cX0_follow 28 = .ok (.goto (-22), 3) := by decide +kernel
theorem dX0_follow_31 : decode cX0_follow 31 = .ok (.return_, 1) := by decide +kernel
theorem dX0_isOpen_0 : decode cX0_isOpen 0 = .ok (.iload_n 1, 1) := by decide +kernel
theorem dX0_isOpen_1 : decode cX0_isOpen 1 = .ok (.iconst 0, 1) := by decide +kernel
theorem dX0_isOpen_2 : decode cX0_isOpen 2 = .ok (.aload_n 0, 1) := by decide +kernel
theorem dX0_isOpen_3 : decode cX0_isOpen 3 = .ok (.getfield 21, 3) := by decide +kernel
theorem dX0_isOpen_6 : decode cX0_isOpen 6 = .ok (.getfield 42, 3) := by decide +kernel
theorem dX0_isOpen_9 : decode cX0_isOpen 9 = .ok (.iconst 1, 1) := by decide +kernel
theorem dX0_isOpen_10 : decode cX0_isOpen 10 = .ok (.isub, 1) := by decide +kernel
theorem dX0_isOpen_11 : decode cX0_isOpen 11 = .ok (.invokestatic 47, 3) := by decide +kernel
theorem dX0_isOpen_14 : decode cX0_isOpen 14 = .ok (.ifCond .eq 23, 3) := by decide +kernel
theorem dX0_isOpen_17 : decode cX0_isOpen 17 = .ok (.aload_n 0, 1) := by decide +kernel
theorem dX0_isOpen_18 : decode cX0_isOpen 18 = .ok (.getfield 18, 3) := by decide +kernel
theorem dX0_isOpen_21 : decode cX0_isOpen 21 = .ok (.iload_n 1, 1) := by decide +kernel
theorem dX0_isOpen_22 : decode cX0_isOpen 22 = .ok (.iaload, 1) := by decide +kernel
theorem dX0_isOpen_23 : decode cX0_isOpen 23 = .ok (.aload_n 0, 1) := by decide +kernel
theorem dX0_isOpen_24 : decode cX0_isOpen 24 = .ok (.getfield 21, 3) := by decide +kernel
theorem dX0_isOpen_27 : decode cX0_isOpen 27 = .ok (.getfield 51, 3) := by decide +kernel
theorem dX0_isOpen_30 : decode cX0_isOpen 30 = .ok (.if_icmp .ge 7, 3) := by decide +kernel
theorem dX0_isOpen_33 : decode cX0_isOpen 33 = .ok (.iconst 1, 1) := by decide +kernel
theorem dX0_isOpen_34 : decode cX0_isOpen 34 = .ok (.goto 4, 3) := by decide +kernel
theorem dX0_isOpen_37 : decode cX0_isOpen 37 = .ok (.iconst 0, 1) := by decide +kernel
theorem dX0_isOpen_38 : decode cX0_isOpen 38 = .ok (.ireturn, 1) := by decide +kernel
theorem dX0_make_0 : decode cX0_make 0 = .ok (.aload_n 0, 1) := by decide +kernel
theorem dX0_make_1 : decode cX0_make 1 = .ok (.iload_n 1, 1) := by decide +kernel
theorem dX0_make_2 : decode cX0_make 2 = .ok (.invokevirtual 54, 3) := by decide +kernel
theorem dX0_make_5 : decode cX0_make 5 = .ok (.ifCond .eq 12, 3) := by decide +kernel
theorem dX0_make_8 : decode cX0_make 8 = .ok (.aload_n 0, 1) := by decide +kernel
theorem dX0_make_9 : decode cX0_make 9 = .ok (.getfield 25, 3) := by decide +kernel
theorem dX0_make_12 : decode cX0_make 12 = .ok (.bipush 16, 2) := by decide +kernel
theorem dX0_make_14 : decode cX0_make 14 = .ok (.if_icmp .lt 5, 3) := by decide +kernel
theorem dX0_make_17 : decode cX0_make 17 = .ok (.iconst (-1), 1) := by decide +kernel
theorem dX0_make_18 : decode cX0_make 18 = .ok (.ireturn, 1) := by decide +kernel
theorem dX0_make_19 : decode cX0_make 19 = .ok (.aload_n 0, 1) := by decide +kernel
theorem dX0_make_20 : decode cX0_make 20 = .ok (.iload_n 1, 1) := by decide +kernel
theorem dX0_make_21 : decode cX0_make 21 = .ok (.invokevirtual 58, 3) := by decide +kernel
theorem dX0_make_24 : decode cX0_make 24 = .ok (.istore_n 2, 1) := by decide +kernel
theorem dX0_make_25 : decode cX0_make 25 = .ok (.aload_n 0, 1) := by decide +kernel
theorem dX0_make_26 : decode cX0_make 26 = .ok (.getfield 15, 3) := by decide +kernel
theorem dX0_make_29 : decode cX0_make 29 = .ok (.aload_n 0, 1) := by decide +kernel
theorem dX0_make_30 : decode cX0_make 30 = .ok (.invokevirtual 61, 3) := by decide +kernel
theorem dX0_make_33 : decode cX0_make 33 = .ok (.dup2, 1) := by decide +kernel
theorem dX0_make_34 : decode cX0_make 34 = .ok (.iaload, 1) := by decide +kernel
theorem dX0_make_35 : decode cX0_make 35 = .ok (.iconst 1, 1) := by decide +kernel
theorem dX0_make_36 : decode cX0_make 36 = .ok (.iload_n 2, 1) := by decide +kernel
theorem dX0_make_37 : decode cX0_make 37 = .ok (.ishl, 1) := by decide +kernel
theorem dX0_make_38 : decode cX0_make 38 = .ok (.ior, 1) := by decide +kernel
theorem dX0_make_39 : decode cX0_make 39 = .ok (.iastore, 1) := by decide +kernel
theorem dX0_make_40 : decode cX0_make 40 = .ok (.aload_n 0, 1) := by decide +kernel
theorem dX0_make_41 : decode cX0_make 41 = .ok (.getfield 18, 3) := by decide +kernel
theorem dX0_make_44 : decode cX0_make 44 = .ok (.iload_n 1, 1) := by decide +kernel
theorem dX0_make_45 : decode cX0_make 45 = .ok (.dup2, 1) := by decide +kernel
theorem dX0_make_46 : decode cX0_make 46 = .ok (.iaload, 1) := by decide +kernel
theorem dX0_make_47 : decode cX0_make 47 = .ok (.iconst 1, 1) := by decide +kernel
theorem dX0_make_48 : decode cX0_make 48 = .ok (.iadd, 1) := by decide +kernel
theorem dX0_make_49 : decode cX0_make 49 = .ok (.iastore, 1) := by decide +kernel
theorem dX0_make_50 : decode cX0_make 50 = .ok (.aload_n 0, 1) := by decide +kernel
theorem dX0_make_51 : decode cX0_make 51 = .ok (.getfield 9, 3) := by decide +kernel
theorem dX0_make_54 : decode cX0_make 54 = .ok (.aload_n 0, 1) := by decide +kernel
theorem dX0_make_55 : decode cX0_make 55 = .ok (.getfield 25, 3) := by decide +kernel
theorem dX0_make_58 : decode cX0_make 58 = .ok (.iload_n 1, 1) := by decide +kernel
theorem dX0_make_59 : decode cX0_make 59 = .ok (.iastore, 1) := by decide +kernel
theorem dX0_make_60 : decode cX0_make 60 = .ok (.aload_n 0, 1) := by decide +kernel
theorem dX0_make_61 : decode cX0_make 61 = .ok (.dup, 1) := by decide +kernel
theorem dX0_make_62 : decode cX0_make 62 = .ok (.getfield 25, 3) := by decide +kernel
theorem dX0_make_65 : decode cX0_make 65 = .ok (.iconst 1, 1) := by decide +kernel
theorem dX0_make_66 : decode cX0_make 66 = .ok (.iadd, 1) := by decide +kernel
theorem dX0_make_67 : decode cX0_make 67 = .ok (.putfield 25, 3) := by decide +kernel
theorem dX0_make_70 : decode cX0_make 70 = .ok (.iload_n 2, 1) := by decide +kernel
theorem dX0_make_71 : decode cX0_make 71 = .ok (.ireturn, 1) := by decide +kernel
theorem dX0_unmake_0 : decode cX0_unmake 0 = .ok (.aload_n 0, 1) := by decide +kernel
theorem dX0_unmake_1 : decode cX0_unmake 1 = .ok (.getfield 25, 3) := by decide +kernel
theorem dX0_unmake_4 : decode cX0_unmake 4 = .ok (.iconst 1, 1) := by decide +kernel
theorem dX0_unmake_5 : decode cX0_unmake 5 = .ok (.if_icmp .ge 4, 3) := by decide +kernel
theorem dX0_unmake_8 : decode cX0_unmake 8 = .ok (.return_, 1) := by decide +kernel
theorem dX0_unmake_9 : decode cX0_unmake 9 = .ok (.aload_n 0, 1) := by decide +kernel
theorem dX0_unmake_10 : decode cX0_unmake 10 = .ok (.dup, 1) := by decide +kernel
theorem dX0_unmake_11 : decode cX0_unmake 11 = .ok (.getfield 25, 3) := by decide +kernel
theorem dX0_unmake_14 : decode cX0_unmake 14 = .ok (.iconst 1, 1) := by decide +kernel
theorem dX0_unmake_15 : decode cX0_unmake 15 = .ok (.isub, 1) := by decide +kernel
theorem dX0_unmake_16 : decode cX0_unmake 16 = .ok (.putfield 25, 3) := by decide +kernel
theorem dX0_unmake_19 : decode cX0_unmake 19 = .ok (.aload_n 0, 1) := by decide +kernel
theorem dX0_unmake_20 : decode cX0_unmake 20 = .ok (.getfield 9, 3) := by decide +kernel
theorem dX0_unmake_23 : decode cX0_unmake 23 = .ok (.aload_n 0, 1) := by decide +kernel
theorem dX0_unmake_24 : decode cX0_unmake 24 = .ok (.getfield 25, 3) := by decide +kernel
theorem dX0_unmake_27 : decode cX0_unmake 27 = .ok (.iaload, 1) := by decide +kernel
theorem dX0_unmake_28 : decode cX0_unmake 28 = .ok (.istore_n 1, 1) := by decide +kernel
theorem dX0_unmake_29 : decode cX0_unmake 29 = .ok (.aload_n 0, 1) := by decide +kernel
theorem dX0_unmake_30 : decode cX0_unmake 30 = .ok (.getfield 18, 3) := by decide +kernel
theorem dX0_unmake_33 : decode cX0_unmake 33 = .ok (.iload_n 1, 1) := by decide +kernel
theorem dX0_unmake_34 : decode cX0_unmake 34 = .ok (.dup2, 1) := by decide +kernel
theorem dX0_unmake_35 : decode cX0_unmake 35 = .ok (.iaload, 1) := by decide +kernel
theorem dX0_unmake_36 : decode cX0_unmake 36 = .ok (.iconst 1, 1) := by decide +kernel
theorem dX0_unmake_37 : decode cX0_unmake 37 = .ok (.isub, 1) := by decide +kernel
theorem dX0_unmake_38 : decode cX0_unmake 38 = .ok (.iastore, 1) := by decide +kernel
theorem dX0_unmake_39 : decode cX0_unmake 39 = .ok (.aload_n 0, 1) := by decide +kernel
theorem dX0_unmake_40 : decode cX0_unmake 40 = .ok (.getfield 15, 3) := by decide +kernel
theorem dX0_unmake_43 : decode cX0_unmake 43 = .ok (.aload_n 0, 1) := by decide +kernel
theorem dX0_unmake_44 : decode cX0_unmake 44 = .ok (.invokevirtual 61, 3) := by decide +kernel
theorem dX0_unmake_47 : decode cX0_unmake 47 = .ok (.dup2, 1) := by decide +kernel
theorem dX0_unmake_48 : decode cX0_unmake 48 = .ok (.iaload, 1) := by decide +kernel
theorem dX0_unmake_49 : decode cX0_unmake 49 = .ok (.iconst 1, 1) := by decide +kernel
theorem dX0_unmake_50 : decode cX0_unmake 50 = .ok (.aload_n 0, 1) := by decide +kernel
theorem dX0_unmake_51 : decode cX0_unmake 51 = .ok (.iload_n 1, 1) := by decide +kernel
theorem dX0_unmake_52 : decode cX0_unmake 52 = .ok (.invokevirtual 58, 3) := by decide +kernel
theorem dX0_unmake_55 : decode cX0_unmake 55 = .ok (.ishl, 1) := by decide +kernel
theorem dX0_unmake_56 : decode cX0_unmake 56 = .ok (.iconst (-1), 1) := by decide +kernel
theorem dX0_unmake_57 : decode cX0_unmake 57 = .ok (.ixor, 1) := by decide +kernel
theorem dX0_unmake_58 : decode cX0_unmake 58 = .ok (.iand, 1) := by decide +kernel
theorem dX0_unmake_59 : decode cX0_unmake 59 = .ok (.iastore, 1) := by decide +kernel
theorem dX0_unmake_60 : decode cX0_unmake 60 = .ok (.return_, 1) := by decide +kernel
theorem dX0_squareIn_0 : decode cX0_squareIn 0 = .ok (.aload_n 0, 1) := by decide +kernel
theorem dX0_squareIn_1 : decode cX0_squareIn 1 = .ok (.getfield 21, 3) := by decide +kernel
theorem dX0_squareIn_4 : decode cX0_squareIn 4 = .ok (.getfield 42, 3) := by decide +kernel
theorem dX0_squareIn_7 : decode cX0_squareIn 7 = .ok (.aload_n 0, 1) := by decide +kernel
theorem dX0_squareIn_8 : decode cX0_squareIn 8 = .ok (.getfield 18, 3) := by decide +kernel
theorem dX0_squareIn_11 : decode cX0_squareIn 11 = .ok (.iload_n 1, 1) := by decide +kernel
theorem dX0_squareIn_12 : decode cX0_squareIn 12 = .ok (.iaload, 1) := by decide +kernel
theorem dX0_squareIn_13 : decode cX0_squareIn 13 = .ok (.imul, 1) := by decide +kernel
theorem dX0_squareIn_14 : decode cX0_squareIn 14 = .ok (.iload_n 1, 1) := by decide +kernel
theorem dX0_squareIn_15 : decode cX0_squareIn 15 = .ok (.iadd, 1) := by decide +kernel
theorem dX0_squareIn_16 : decode cX0_squareIn 16 = .ok (.ireturn, 1) := by decide +kernel
theorem dX0_side_0 : decode cX0_side 0 = .ok (.aload_n 0, 1) := by decide +kernel
theorem dX0_side_1 : decode cX0_side 1 = .ok (.getfield 25, 3) := by decide +kernel
theorem dX0_side_4 : decode cX0_side 4 = .ok (.iconst 1, 1) := by decide +kernel
theorem dX0_side_5 : decode cX0_side 5 = .ok (.iand, 1) := by decide +kernel
theorem dX0_side_6 : decode cX0_side 6 = .ok (.ireturn, 1) := by decide +kernel
theorem dX0_state_0 : decode cX0_state 0 = .ok (.aload_n 0, 1) := by decide +kernel
theorem dX0_state_1 : decode cX0_state 1 = .ok (.getfield 21, 3) := by decide +kernel
theorem dX0_state_4 : decode cX0_state 4 = .ok (.aload_n 0, 1) := by decide +kernel
theorem dX0_state_5 : decode cX0_state 5 = .ok (.getfield 15, 3) := by decide +kernel
theorem dX0_state_8 : decode cX0_state 8 = .ok (.iconst 1, 1) := by decide +kernel
theorem dX0_state_9 : decode cX0_state 9 = .ok (.aload_n 0, 1) := by decide +kernel
theorem dX0_state_10 : decode cX0_state 10 = .ok (.invokevirtual 61, 3) := by decide +kernel
theorem dX0_state_13 : decode cX0_state 13 = .ok (.isub, 1) := by decide +kernel
theorem dX0_state_14 : decode cX0_state 14 = .ok (.iaload, 1) := by decide +kernel
theorem dX0_state_15 : decode cX0_state 15 = .ok (.invokevirtual 65, 3) := by decide +kernel
theorem dX0_state_18 : decode cX0_state 18 = .ok (.ifCond .eq 5, 3) := by decide +kernel
theorem dX0_state_21 : decode cX0_state 21 = .ok (.iconst 1, 1) := by decide +kernel
theorem dX0_state_22 : decode cX0_state 22 = .ok (.ireturn, 1) := by decide +kernel
theorem dX0_state_23 : decode cX0_state 23 = .ok (.aload_n 0, 1) := by decide +kernel
theorem dX0_state_24 : decode cX0_state 24 = .ok (.getfield 25, 3) := by decide +kernel
theorem dX0_state_27 : decode cX0_state 27 = .ok (.aload_n 0, 1) := by decide +kernel
theorem dX0_state_28 : decode cX0_state 28 = .ok (.getfield 21, 3) := by decide +kernel
theorem dX0_state_31 : decode cX0_state 31 = .ok (.getfield 68, 3) := by decide +kernel
theorem dX0_state_34 : decode cX0_state 34 = .ok (.if_icmp .lt 7, 3) := by decide +kernel
theorem dX0_state_37 : decode cX0_state 37 = .ok (.iconst 2, 1) := by decide +kernel
theorem dX0_state_38 : decode cX0_state 38 = .ok (.goto 4, 3) := by decide +kernel
theorem dX0_state_41 : decode cX0_state 41 = .ok (.iconst 0, 1) := by decide +kernel
theorem dX0_state_42 : decode cX0_state 42 = .ok (.ireturn, 1) := by decide +kernel
theorem dX0_isOver_0 : decode cX0_isOver 0 = .ok (.aload_n 0, 1) := by decide +kernel
theorem dX0_isOver_1 : decode cX0_isOver 1 = .ok (.invokevirtual 71, 3) := by decide +kernel
theorem dX0_isOver_4 : decode cX0_isOver 4 = .ok (.ifCond .eq 7, 3) := by decide +kernel
theorem dX0_isOver_7 : decode cX0_isOver 7 = .ok (.iconst 1, 1) := by decide +kernel
theorem dX0_isOver_8 : decode cX0_isOver 8 = .ok (.goto 4, 3) := by decide +kernel
theorem dX0_isOver_11 : decode cX0_isOver 11 = .ok (.iconst 0, 1) := by decide +kernel
theorem dX0_isOver_12 : decode cX0_isOver 12 = .ok (.ireturn, 1) := by decide +kernel
theorem dX0_manOn_0 : decode cX0_manOn 0 = .ok (.aload_n 0, 1) := by decide +kernel
theorem dX0_manOn_1 : decode cX0_manOn 1 = .ok (.getfield 15, 3) := by decide +kernel
theorem dX0_manOn_4 : decode cX0_manOn 4 = .ok (.iconst 0, 1) := by decide +kernel
theorem dX0_manOn_5 : decode cX0_manOn 5 = .ok (.iaload, 1) := by decide +kernel
theorem dX0_manOn_6 : decode cX0_manOn 6 = .ok (.iload_n 1, 1) := by decide +kernel
theorem dX0_manOn_7 : decode cX0_manOn 7 = .ok (.ishr, 1) := by decide +kernel
theorem dX0_manOn_8 : decode cX0_manOn 8 = .ok (.iconst 1, 1) := by decide +kernel
theorem dX0_manOn_9 : decode cX0_manOn 9 = .ok (.iand, 1) := by decide +kernel
theorem dX0_manOn_10 : decode cX0_manOn 10 = .ok (.ifCond .eq 5, 3) := by decide +kernel
theorem dX0_manOn_13 : decode cX0_manOn 13 = .ok (.iconst 0, 1) := by decide +kernel
theorem dX0_manOn_14 : decode cX0_manOn 14 = .ok (.ireturn, 1) := by decide +kernel
theorem dX0_manOn_15 : decode cX0_manOn 15 = .ok (.aload_n 0, 1) := by decide +kernel
theorem dX0_manOn_16 : decode cX0_manOn 16 = .ok (.getfield 15, 3) := by decide +kernel
theorem dX0_manOn_19 : decode cX0_manOn 19 = .ok (.iconst 1, 1) := by decide +kernel
theorem dX0_manOn_20 : decode cX0_manOn 20 = .ok (.iaload, 1) := by decide +kernel
theorem dX0_manOn_21 : decode cX0_manOn 21 = .ok (.iload_n 1, 1) := by decide +kernel
theorem dX0_manOn_22 : decode cX0_manOn 22 = .ok (.ishr, 1) := by decide +kernel
theorem dX0_manOn_23 : decode cX0_manOn 23 = .ok (.iconst 1, 1) := by decide +kernel
theorem dX0_manOn_24 : decode cX0_manOn 24 = .ok (.iand, 1) := by decide +kernel
theorem dX0_manOn_25 : decode cX0_manOn 25 = .ok (.ifCond .eq 7, 3) := by decide +kernel
theorem dX0_manOn_28 : decode cX0_manOn 28 = .ok (.iconst 1, 1) := by decide +kernel
theorem dX0_manOn_29 : decode cX0_manOn 29 = .ok (.goto 4, 3) := by decide +kernel
theorem dX0_manOn_32 : decode cX0_manOn 32 = .ok (.iconst (-1), 1) := by decide +kernel
theorem dX0_manOn_33 : decode cX0_manOn 33 = .ok (.ireturn, 1) := by decide +kernel
theorem dX0_openColumns_0 : decode cX0_openColumns 0 = .ok (.iconst 0, 1) := by decide +kernel
theorem dX0_openColumns_1 : decode cX0_openColumns 1 = .ok (.istore_n 1, 1) := by decide +kernel
theorem dX0_openColumns_2 : decode cX0_openColumns 2 = .ok (.iconst 0, 1) := by decide +kernel
theorem dX0_openColumns_3 : decode cX0_openColumns 3 = .ok (.istore_n 2, 1) := by decide +kernel
theorem dX0_openColumns_4 : decode cX0_openColumns 4 = .ok (.iload_n 2, 1) := by decide +kernel
theorem dX0_openColumns_5 : decode cX0_openColumns 5 = .ok (.aload_n 0, 1) := by decide +kernel
theorem dX0_openColumns_6 : decode cX0_openColumns 6 = .ok (.getfield 21, 3) := by decide +kernel
theorem dX0_openColumns_9 : decode cX0_openColumns 9 = .ok (.getfield 42, 3) := by decide +kernel
theorem dX0_openColumns_12 : decode cX0_openColumns 12 = .ok (.if_icmp .ge 20, 3) := by decide +kernel
theorem dX0_openColumns_15 : decode cX0_openColumns 15 = .ok (.aload_n 0, 1) := by decide +kernel
theorem dX0_openColumns_16 : decode cX0_openColumns 16 = .ok (.iload_n 2, 1) := by decide +kernel
theorem dX0_openColumns_17 : decode cX0_openColumns 17 = .ok (.invokevirtual 54, 3) := by decide +kernel
theorem dX0_openColumns_20 : decode cX0_openColumns 20 = .ok (.ifCond .eq 6, 3) := by decide +kernel
theorem dX0_openColumns_23 : decode cX0_openColumns 23 = .ok (.iinc 1 1, 3) := by decide +kernel
theorem dX0_openColumns_26 : decode cX0_openColumns 26 = .ok (.iinc 2 1, 3) := by decide +kernel
theorem dX0_openColumns_29 : decode cX0_openColumns 29 = .ok (.goto (-25), 3) := by decide +kernel
theorem dX0_openColumns_32 : decode cX0_openColumns 32 = .ok (.iload_n 1, 1) := by decide +kernel
theorem dX0_openColumns_33 : decode cX0_openColumns 33 = .ok (.ireturn, 1) := by decide +kernel
theorem dX0_threatsOf_0 : decode cX0_threatsOf 0 = .ok (.iconst 0, 1) := by decide +kernel
theorem dX0_threatsOf_1 : decode cX0_threatsOf 1 = .ok (.istore_n 2, 1) := by decide +kernel
theorem dX0_threatsOf_2 : decode cX0_threatsOf 2 = .ok (.iconst 0, 1) := by decide +kernel
theorem dX0_threatsOf_3 : decode cX0_threatsOf 3 = .ok (.istore_n 3, 1) := by decide +kernel
theorem dX0_threatsOf_4 : decode cX0_threatsOf 4 = .ok (.iload_n 3, 1) := by decide +kernel
theorem dX0_threatsOf_5 : decode cX0_threatsOf 5 = .ok (.aload_n 0, 1) := by decide +kernel
theorem dX0_threatsOf_6 : decode cX0_threatsOf 6 = .ok (.getfield 21, 3) := by decide +kernel
theorem dX0_threatsOf_9 : decode cX0_threatsOf 9 = .ok (.getfield 68, 3) := by decide +kernel
theorem dX0_threatsOf_12 : decode cX0_threatsOf 12 = .ok (.if_icmp .ge 24, 3) := by decide +kernel
theorem dX0_threatsOf_15 : decode cX0_threatsOf 15 = .ok (.aload_n 0, 1) := by decide +kernel
theorem dX0_threatsOf_16 : decode cX0_threatsOf 16 = .ok (.iload_n 1, 1) := by decide +kernel
theorem dX0_threatsOf_17 : decode cX0_threatsOf 17 = .ok (.iload_n 3, 1) := by decide +kernel
theorem dX0_threatsOf_18 : decode cX0_threatsOf 18 = .ok (.invokevirtual 74, 3) := by decide +kernel
theorem dX0_threatsOf_21 : decode cX0_threatsOf 21 = .ok (.ifCond .eq 9, 3) := by decide +kernel
theorem dX0_threatsOf_24 : decode cX0_threatsOf 24 = .ok (.iload_n 2, 1) := by decide +kernel
theorem dX0_threatsOf_25 : decode cX0_threatsOf 25 = .ok (.iconst 1, 1) := by decide +kernel
theorem dX0_threatsOf_26 : decode cX0_threatsOf 26 = .ok (.iload_n 3, 1) := by decide +kernel
theorem dX0_threatsOf_27 : decode cX0_threatsOf 27 = .ok (.ishl, 1) := by decide +kernel
theorem dX0_threatsOf_28 : decode cX0_threatsOf 28 = .ok (.ior, 1) := by decide +kernel
theorem dX0_threatsOf_29 : decode cX0_threatsOf 29 = .ok (.istore_n 2, 1) := by decide +kernel
theorem dX0_threatsOf_30 : decode cX0_threatsOf 30 = .ok (.iinc 3 1, 3) := by decide +kernel
theorem dX0_threatsOf_33 : decode cX0_threatsOf 33 = .ok (.goto (-29), 3) := by decide +kernel
theorem dX0_threatsOf_36 : decode cX0_threatsOf 36 = .ok (.iload_n 2, 1) := by decide +kernel
theorem dX0_threatsOf_37 : decode cX0_threatsOf 37 = .ok (.ireturn, 1) := by decide +kernel
theorem dX0_isThreat_0 : decode cX0_isThreat 0 = .ok (.aload_n 0, 1) := by decide +kernel
theorem dX0_isThreat_1 : decode cX0_isThreat 1 = .ok (.iload_n 2, 1) := by decide +kernel
theorem dX0_isThreat_2 : decode cX0_isThreat 2 = .ok (.invokevirtual 78, 3) := by decide +kernel
theorem dX0_isThreat_5 : decode cX0_isThreat 5 = .ok (.iconst (-1), 1) := by decide +kernel
theorem dX0_isThreat_6 : decode cX0_isThreat 6 = .ok (.if_icmp .ne 27, 3) := by decide +kernel
theorem dX0_isThreat_9 : decode cX0_isThreat 9 = .ok (.aload_n 0, 1) := by decide +kernel
theorem dX0_isThreat_10 : decode cX0_isThreat 10 = .ok (.getfield 21, 3) := by decide +kernel
theorem dX0_isThreat_13 : decode cX0_isThreat 13 = .ok (.aload_n 0, 1) := by decide +kernel
theorem dX0_isThreat_14 : decode cX0_isThreat 14 = .ok (.getfield 15, 3) := by decide +kernel
theorem dX0_isThreat_17 : decode cX0_isThreat 17 = .ok (.iload_n 1, 1) := by decide +kernel
theorem dX0_isThreat_18 : decode cX0_isThreat 18 = .ok (.iaload, 1) := by decide +kernel
theorem dX0_isThreat_19 : decode cX0_isThreat 19 = .ok (.iconst 1, 1) := by decide +kernel
theorem dX0_isThreat_20 : decode cX0_isThreat 20 = .ok (.iload_n 2, 1) := by decide +kernel
theorem dX0_isThreat_21 : decode cX0_isThreat 21 = .ok (.ishl, 1) := by decide +kernel
theorem dX0_isThreat_22 : decode cX0_isThreat 22 = .ok (.ior, 1) := by decide +kernel
theorem dX0_isThreat_23 : decode cX0_isThreat 23 = .ok (.invokevirtual 65, 3) := by decide +kernel
theorem dX0_isThreat_26 : decode cX0_isThreat 26 = .ok (.ifCond .eq 7, 3) := by decide +kernel
theorem dX0_isThreat_29 : decode cX0_isThreat 29 = .ok (.iconst 1, 1) := by decide +kernel
theorem dX0_isThreat_30 : decode cX0_isThreat 30 = .ok (.goto 4, 3) := by decide +kernel
theorem dX0_isThreat_33 : decode cX0_isThreat 33 = .ok (.iconst 0, 1) := by decide +kernel
theorem dX0_isThreat_34 : decode cX0_isThreat 34 = .ok (.ireturn, 1) := by decide +kernel
theorem dX0_waitingColumn_0 : decode cX0_waitingColumn 0 = .ok (.iconst (-1), 1) := by decide +kernel
theorem dX0_waitingColumn_1 : decode cX0_waitingColumn 1 = .ok (.istore_n 1, 1) := by decide +kernel
theorem dX0_waitingColumn_2 : decode cX0_waitingColumn 2 = .ok (.iconst 5, 1) := by decide +kernel
theorem dX0_waitingColumn_3 : decode cX0_waitingColumn 3 = .ok (.istore_n 2, 1) := by decide +kernel
theorem dX0_waitingColumn_4 : decode cX0_waitingColumn 4 = .ok (.iconst 0, 1) := by decide +kernel
theorem dX0_waitingColumn_5 : decode cX0_waitingColumn 5 = .ok (.istore_n 3, 1) := by decide +kernel
theorem dX0_waitingColumn_6 : decode cX0_waitingColumn 6 = .ok (.iload_n 3, 1) := by decide +kernel
theorem dX0_waitingColumn_7 : decode cX0_waitingColumn 7 = .ok (.aload_n 0, 1) := by decide +kernel
theorem dX0_waitingColumn_8 : decode cX0_waitingColumn 8 = .ok (.getfield 21, 3) := by decide +kernel
theorem dX0_waitingColumn_11 : decode cX0_waitingColumn 11 = .ok (.getfield 42, 3) := by decide +kernel
theorem dX0_waitingColumn_14 : decode cX0_waitingColumn 14 = .ok (.if_icmp .ge 35, 3) := by decide +kernel
theorem dX0_waitingColumn_17 : decode cX0_waitingColumn 17 = .ok (.aload_n 0, 1) := by decide +kernel
theorem dX0_waitingColumn_18 : decode cX0_waitingColumn 18 = .ok (.iload_n 3, 1) := by decide +kernel
theorem dX0_waitingColumn_19 : decode cX0_waitingColumn 19 = .ok (.invokevirtual 54, 3) := by decide +kernel
theorem dX0_waitingColumn_22 : decode cX0_waitingColumn 22 = .ok (.ifCond .eq 21, 3) := by decide +kernel
theorem dX0_waitingColumn_25 : decode cX0_waitingColumn 25 = .ok (.aload_n 0, 1) := by decide +kernel
theorem dX0_waitingColumn_26 : decode cX0_waitingColumn 26 = .ok (.iload_n 3, 1) := by decide +kernel
theorem dX0_waitingColumn_27 : decode cX0_waitingColumn 27 = .ok (.invokevirtual 81, 3) := by decide +kernel
theorem dX0_waitingColumn_30 : decode cX0_waitingColumn 30 = .ok (.istore 4, 2) := by decide +kernel
theorem dX0_waitingColumn_32 : decode cX0_waitingColumn 32 = .ok (.iload 4, 2) := by decide +kernel
theorem dX0_waitingColumn_34 : decode cX0_waitingColumn 34 = .ok (.iload_n 2, 1) := by decide +kernel
theorem dX0_waitingColumn_35 : decode cX0_waitingColumn 35 = .ok (.if_icmp .ge 8, 3) := by decide +kernel
theorem dX0_waitingColumn_38 : decode cX0_waitingColumn 38 = .ok (.iload 4, 2) := by decide +kernel
theorem dX0_waitingColumn_40 : decode cX0_waitingColumn 40 = .ok (.istore_n 2, 1) := by decide +kernel
theorem dX0_waitingColumn_41 : decode cX0_waitingColumn 41 = .ok (.iload_n 3, 1) := by decide +kernel
theorem dX0_waitingColumn_42 : decode cX0_waitingColumn 42 = .ok (.istore_n 1, 1) := by decide +kernel
theorem dX0_waitingColumn_43 : decode cX0_waitingColumn 43 = .ok (.iinc 3 1, 3) := by decide +kernel
theorem dX0_waitingColumn_46 : decode cX0_waitingColumn 46 = .ok (.goto (-40), 3) := by decide +kernel
theorem dX0_waitingColumn_49 : decode cX0_waitingColumn 49 = .ok (.iload_n 1, 1) := by decide +kernel
theorem dX0_waitingColumn_50 : decode cX0_waitingColumn 50 = .ok (.ireturn, 1) := by decide +kernel
theorem dX0_waitingSort_0 : decode cX0_waitingSort 0 = .ok (.aload_n 0, 1) := by decide +kernel
theorem dX0_waitingSort_1 : decode cX0_waitingSort 1 = .ok (.invokevirtual 61, 3) := by decide +kernel
theorem dX0_waitingSort_4 : decode cX0_waitingSort 4 = .ok (.istore_n 2, 1) := by decide +kernel
theorem dX0_waitingSort_5 : decode cX0_waitingSort 5 = .ok (.aload_n 0, 1) := by decide +kernel
theorem dX0_waitingSort_6 : decode cX0_waitingSort 6 = .ok (.iload_n 1, 1) := by decide +kernel
theorem dX0_waitingSort_7 : decode cX0_waitingSort 7 = .ok (.invokevirtual 58, 3) := by decide +kernel
theorem dX0_waitingSort_10 : decode cX0_waitingSort 10 = .ok (.istore_n 3, 1) := by decide +kernel
theorem dX0_waitingSort_11 : decode cX0_waitingSort 11 = .ok (.aload_n 0, 1) := by decide +kernel
theorem dX0_waitingSort_12 : decode cX0_waitingSort 12 = .ok (.iload_n 2, 1) := by decide +kernel
theorem dX0_waitingSort_13 : decode cX0_waitingSort 13 = .ok (.iload_n 3, 1) := by decide +kernel
theorem dX0_waitingSort_14 : decode cX0_waitingSort 14 = .ok (.invokevirtual 74, 3) := by decide +kernel
theorem dX0_waitingSort_17 : decode cX0_waitingSort 17 = .ok (.ifCond .eq 5, 3) := by decide +kernel
theorem dX0_waitingSort_20 : decode cX0_waitingSort 20 = .ok (.iconst 0, 1) := by decide +kernel
theorem dX0_waitingSort_21 : decode cX0_waitingSort 21 = .ok (.ireturn, 1) := by decide +kernel
theorem dX0_waitingSort_22 : decode cX0_waitingSort 22 = .ok (.aload_n 0, 1) := by decide +kernel
theorem dX0_waitingSort_23 : decode cX0_waitingSort 23 = .ok (.iconst 1, 1) := by decide +kernel
theorem dX0_waitingSort_24 : decode cX0_waitingSort 24 = .ok (.iload_n 2, 1) := by decide +kernel
theorem dX0_waitingSort_25 : decode cX0_waitingSort 25 = .ok (.isub, 1) := by decide +kernel
theorem dX0_waitingSort_26 : decode cX0_waitingSort 26 = .ok (.iload_n 3, 1) := by decide +kernel
theorem dX0_waitingSort_27 : decode cX0_waitingSort 27 = .ok (.invokevirtual 74, 3) := by decide +kernel
theorem dX0_waitingSort_30 : decode cX0_waitingSort 30 = .ok (.ifCond .eq 5, 3) := by decide +kernel
theorem dX0_waitingSort_33 : decode cX0_waitingSort 33 = .ok (.iconst 1, 1) := by decide +kernel
theorem dX0_waitingSort_34 : decode cX0_waitingSort 34 = .ok (.ireturn, 1) := by decide +kernel
theorem dX0_waitingSort_35 : decode cX0_waitingSort 35 = .ok (.iload_n 3, 1) := by decide +kernel
theorem dX0_waitingSort_36 : decode cX0_waitingSort 36 = .ok (.aload_n 0, 1) := by decide +kernel
theorem dX0_waitingSort_37 : decode cX0_waitingSort 37 = .ok (.getfield 21, 3) := by decide +kernel
theorem dX0_waitingSort_40 : decode cX0_waitingSort 40 = .ok (.getfield 42, 3) := by decide +kernel
theorem dX0_waitingSort_43 : decode cX0_waitingSort 43 = .ok (.iadd, 1) := by decide +kernel
theorem dX0_waitingSort_44 : decode cX0_waitingSort 44 = .ok (.istore 4, 2) := by decide +kernel
theorem dX0_waitingSort_46 : decode cX0_waitingSort 46 = .ok (.iload 4, 2) := by decide +kernel
theorem dX0_waitingSort_48 : decode cX0_waitingSort 48 = .ok (.aload_n 0, 1) := by decide +kernel
theorem dX0_waitingSort_49 : decode cX0_waitingSort 49 = .ok (.getfield 21, 3) := by decide +kernel
theorem dX0_waitingSort_52 : decode cX0_waitingSort 52 = .ok (.getfield 68, 3) := by decide +kernel
theorem dX0_waitingSort_55 : decode cX0_waitingSort 55 = .ok (.if_icmp .lt 5, 3) := by decide +kernel
theorem dX0_waitingSort_58 : decode cX0_waitingSort 58 = .ok (.iconst 2, 1) := by decide +kernel
theorem dX0_waitingSort_59 : decode cX0_waitingSort 59 = .ok (.ireturn, 1) := by decide +kernel
theorem dX0_waitingSort_60 : decode cX0_waitingSort 60 = .ok (.aload_n 0, 1) := by decide +kernel
theorem dX0_waitingSort_61 : decode cX0_waitingSort 61 = .ok (.iconst 1, 1) := by decide +kernel
theorem dX0_waitingSort_62 : decode cX0_waitingSort 62 = .ok (.iload_n 2, 1) := by decide +kernel
theorem dX0_waitingSort_63 : decode cX0_waitingSort 63 = .ok (.isub, 1) := by decide +kernel
theorem dX0_waitingSort_64 : decode cX0_waitingSort 64 = .ok (.iload 4, 2) := by decide +kernel
theorem dX0_waitingSort_66 : decode cX0_waitingSort 66 = .ok (.invokevirtual 74, 3) := by decide +kernel
theorem dX0_waitingSort_69 : decode cX0_waitingSort 69 = .ok (.ifCond .eq 5, 3) := by decide +kernel
theorem dX0_waitingSort_72 : decode cX0_waitingSort 72 = .ok (.iconst 4, 1) := by decide +kernel
theorem dX0_waitingSort_73 : decode cX0_waitingSort 73 = .ok (.ireturn, 1) := by decide +kernel
theorem dX0_waitingSort_74 : decode cX0_waitingSort 74 = .ok (.aload_n 0, 1) := by decide +kernel
theorem dX0_waitingSort_75 : decode cX0_waitingSort 75 = .ok (.iload_n 2, 1) := by decide +kernel
theorem dX0_waitingSort_76 : decode cX0_waitingSort 76 = .ok (.iload 4, 2) := by decide +kernel
theorem dX0_waitingSort_78 : decode cX0_waitingSort 78 = .ok (.invokevirtual 74, 3) := by decide +kernel
theorem dX0_waitingSort_81 : decode cX0_waitingSort 81 = .ok (.ifCond .eq 7, 3) := by decide +kernel
theorem dX0_waitingSort_84 : decode cX0_waitingSort 84 = .ok (.iconst 3, 1) := by decide +kernel
theorem dX0_waitingSort_85 : decode cX0_waitingSort 85 = .ok (.goto 4, 3) := by decide +kernel
theorem dX0_waitingSort_88 : decode cX0_waitingSort 88 = .ok (.iconst 2, 1) := by decide +kernel
theorem dX0_waitingSort_89 : decode cX0_waitingSort 89 = .ok (.ireturn, 1) := by decide +kernel
theorem dX1_init_0 : decode cX1_init 0 = .ok (.aload_n 0, 1) := by decide +kernel
theorem dX1_init_1 : decode cX1_init 1 = .ok (.invokespecial 5, 3) := by decide +kernel
theorem dX1_init_4 : decode cX1_init 4 = .ok (.aload_n 0, 1) := by decide +kernel
theorem dX1_init_5 : decode cX1_init 5 = .ok (.bipush 64, 2) := by decide +kernel
theorem dX1_init_7 : decode cX1_init 7 = .ok (.newarray .int, 2) := by decide +kernel
theorem dX1_init_9 : decode cX1_init 9 = .ok (.putfield 11, 3) := by decide +kernel
theorem dX1_init_12 : decode cX1_init 12 = .ok (.aload_n 0, 1) := by decide +kernel
theorem dX1_init_13 : decode cX1_init 13 = .ok (.sipush 256, 3) := by decide +kernel
theorem dX1_init_16 : decode cX1_init 16 = .ok (.newarray .int, 2) := by decide +kernel
theorem dX1_init_18 : decode cX1_init 18 = .ok (.putfield 15, 3) := by decide +kernel
theorem dX1_init_21 : decode cX1_init 21 = .ok (.aload_n 0, 1) := by decide +kernel
theorem dX1_init_22 : decode cX1_init 22 = .ok (.bipush 16, 2) := by decide +kernel
theorem dX1_init_24 : decode cX1_init 24 = .ok (.newarray .int, 2) := by decide +kernel
theorem dX1_init_26 : decode cX1_init 26 = .ok (.putfield 18, 3) := by decide +kernel
theorem dX1_init_29 : decode cX1_init 29 = .ok (.return_, 1) := by decide +kernel
theorem dX1_tell_0 : decode cX1_tell 0 = .ok (.aload_n 0, 1) := by decide +kernel
theorem dX1_tell_1 : decode cX1_tell 1 = .ok (.iload_n 1, 1) := by decide +kernel
theorem dX1_tell_2 : decode cX1_tell 2 = .ok (.putfield 21, 3) := by decide +kernel
theorem dX1_tell_5 : decode cX1_tell 5 = .ok (.aload_n 0, 1) := by decide +kernel
theorem dX1_tell_6 : decode cX1_tell 6 = .ok (.iload_n 2, 1) := by decide +kernel
theorem dX1_tell_7 : decode cX1_tell 7 = .ok (.putfield 25, 3) := by decide +kernel
theorem dX1_tell_10 : decode cX1_tell 10 = .ok (.aload_n 0, 1) := by decide +kernel
theorem dX1_tell_11 : decode cX1_tell 11 = .ok (.iload_n 3, 1) := by decide +kernel
theorem dX1_tell_12 : decode cX1_tell 12 = .ok (.putfield 28, 3) := by decide +kernel
theorem dX1_tell_15 : decode cX1_tell 15 = .ok (.aload_n 0, 1) := by decide +kernel
theorem dX1_tell_16 : decode cX1_tell 16 = .ok (.iload 4, 2) := by decide +kernel
theorem dX1_tell_18 : decode cX1_tell 18 = .ok (.putfield 31, 3) := by decide +kernel
theorem dX1_tell_21 : decode cX1_tell 21 = .ok (.aload_n 0, 1) := by decide +kernel
theorem dX1_tell_22 : decode cX1_tell 22 = .ok (.iload_n 1, 1) := by decide +kernel
theorem dX1_tell_23 : decode cX1_tell 23 = .ok (.iload_n 2, 1) := by decide +kernel
theorem dX1_tell_24 : decode cX1_tell 24 = .ok (.imul, 1) := by decide +kernel
theorem dX1_tell_25 : decode cX1_tell 25 = .ok (.putfield 35, 3) := by decide +kernel
theorem dX1_tell_28 : decode cX1_tell 28 = .ok (.aload_n 0, 1) := by decide +kernel
theorem dX1_tell_29 : decode cX1_tell 29 = .ok (.iconst 0, 1) := by decide +kernel
theorem dX1_tell_30 : decode cX1_tell 30 = .ok (.putfield 38, 3) := by decide +kernel
theorem dX1_tell_33 : decode cX1_tell 33 = .ok (.aload_n 0, 1) := by decide +kernel
theorem dX1_tell_34 : decode cX1_tell 34 = .ok (.getfield 18, 3) := by decide +kernel
theorem dX1_tell_37 : decode cX1_tell 37 = .ok (.iconst 0, 1) := by decide +kernel
theorem dX1_tell_38 : decode cX1_tell 38 = .ok (.invokestatic 41, 3) := by decide +kernel
theorem dX1_tell_41 : decode cX1_tell 41 = .ok (.iconst 0, 1) := by decide +kernel
theorem dX1_tell_42 : decode cX1_tell 42 = .ok (.istore 5, 2) := by decide +kernel
theorem dX1_tell_44 : decode cX1_tell 44 = .ok (.iload 5, 2) := by decide +kernel
theorem dX1_tell_46 : decode cX1_tell 46 = .ok (.iload_n 2, 1) := by decide +kernel
theorem dX1_tell_47 : decode cX1_tell 47 = .ok (.if_icmp .ge 80, 3) := by decide +kernel
theorem dX1_tell_50 : decode cX1_tell 50 = .ok (.iconst 0, 1) := by decide +kernel
theorem dX1_tell_51 : decode cX1_tell 51 = .ok (.istore 6, 2) := by decide +kernel
theorem dX1_tell_53 : decode cX1_tell 53 = .ok (.iload 6, 2) := by decide +kernel
theorem dX1_tell_55 : decode cX1_tell 55 = .ok (.iload_n 1, 1) := by decide +kernel
theorem dX1_tell_56 : decode cX1_tell 56 = .ok (.if_icmp .ge 65, 3) := by decide +kernel
theorem dX1_tell_59 : decode cX1_tell 59 = .ok (.aload_n 0, 1) := by decide +kernel
theorem dX1_tell_60 : decode cX1_tell 60 = .ok (.aload_n 0, 1) := by decide +kernel
theorem dX1_tell_61 : decode cX1_tell 61 = .ok (.iload 6, 2) := by decide +kernel
theorem dX1_tell_63 : decode cX1_tell 63 = .ok (.iload 5, 2) := by decide +kernel
theorem dX1_tell_65 : decode cX1_tell 65 = .ok (.iconst 1, 1) := by decide +kernel
theorem dX1_tell_66 : decode cX1_tell 66 = .ok (.iconst 0, 1) := by decide +kernel
theorem dX1_tell_67 : decode cX1_tell 67 = .ok (.invokevirtual 47, 3) := by decide +kernel
theorem dX1_tell_70 : decode cX1_tell 70 = .ok (.invokevirtual 51, 3) := by decide +kernel
theorem dX1_tell_73 : decode cX1_tell 73 = .ok (.aload_n 0, 1) := by decide +kernel
theorem dX1_tell_74 : decode cX1_tell 74 = .ok (.aload_n 0, 1) := by decide +kernel
theorem dX1_tell_75 : decode cX1_tell 75 = .ok (.iload 6, 2) := by decide +kernel
theorem dX1_tell_77 : decode cX1_tell 77 = .ok (.iload 5, 2) := by decide +kernel
theorem dX1_tell_79 : decode cX1_tell 79 = .ok (.iconst 0, 1) := by decide +kernel
theorem dX1_tell_80 : decode cX1_tell 80 = .ok (.iconst 1, 1) := by decide +kernel
theorem dX1_tell_81 : decode cX1_tell 81 = .ok (.invokevirtual 47, 3) := by decide +kernel
theorem dX1_tell_84 : decode cX1_tell 84 = .ok (.invokevirtual 51, 3) := by decide +kernel
theorem dX1_tell_87 : decode cX1_tell 87 = .ok (.aload_n 0, 1) := by decide +kernel
theorem dX1_tell_88 : decode cX1_tell 88 = .ok (.aload_n 0, 1) := by decide +kernel
theorem dX1_tell_89 : decode cX1_tell 89 = .ok (.iload 6, 2) := by decide +kernel
theorem dX1_tell_91 : decode cX1_tell 91 = .ok (.iload 5, 2) := by decide +kernel
theorem dX1_tell_93 : decode cX1_tell 93 = .ok (.iconst 1, 1) := by decide +kernel
theorem dX1_tell_94 : decode cX1_tell 94 = .ok (.iconst 1, 1) := by decide +kernel
theorem dX1_tell_95 : decode cX1_tell 95 = .ok (.invokevirtual 47, 3) := by decide +kernel
theorem dX1_tell_98 : decode cX1_tell 98 = .ok (.invokevirtual 51, 3) := by decide +kernel
theorem dX1_tell_101 : decode cX1_tell 101 = .ok (.aload_n 0, 1) := by decide +kernel
theorem dX1_tell_102 : decode cX1_tell 102 = .ok (.aload_n 0, 1) := by decide +kernel
theorem dX1_tell_103 : decode cX1_tell 103 = .ok (.iload 6, 2) := by decide +kernel
theorem dX1_tell_105 : decode cX1_tell 105 = .ok (.iload 5, 2) := by decide +kernel
theorem dX1_tell_107 : decode cX1_tell 107 = .ok (.iconst (-1), 1) := by decide +kernel
theorem dX1_tell_108 : decode cX1_tell 108 = .ok (.iconst 1, 1) := by decide +kernel
theorem dX1_tell_109 : decode cX1_tell 109 = .ok (.invokevirtual 47, 3) := by decide +kernel
theorem dX1_tell_112 : decode cX1_tell 112 = .ok (.invokevirtual 51, 3) := by decide +kernel
theorem dX1_tell_115 : decode cX1_tell 115 = .ok (.iinc 6 1, 3) := by decide +kernel
theorem dX1_tell_118 : decode cX1_tell 118 = .ok (.goto (-65), 3) := by decide +kernel
theorem dX1_tell_121 : decode cX1_tell 121 = .ok (.iinc 5 1, 3) := by decide +kernel
theorem dX1_tell_124 : decode cX1_tell 124 = .ok (.goto (-80), 3) := by decide +kernel
theorem dX1_tell_127 : decode cX1_tell 127 = .ok (.return_, 1) := by decide +kernel
theorem dX1_rowFrom_0 : decode cX1_rowFrom 0 = .ok (.iconst 0, 1) := by decide +kernel
theorem dX1_rowFrom_1 : decode cX1_rowFrom 1 = .ok (.istore 5, 2) := by decide +kernel
theorem dX1_rowFrom_3 : decode cX1_rowFrom 3 = .ok (.iload_n 1, 1) := by decide +kernel
theorem dX1_rowFrom_4 : decode cX1_rowFrom 4 = .ok (.istore 6, 2) := by decide +kernel
theorem dX1_rowFrom_6 : decode cX1_rowFrom 6 = .ok (.iload_n 2, 1) := by decide +kernel
theorem dX1_rowFrom_7 : decode cX1_rowFrom 7 = .ok (.istore 7, 2) := by decide +kernel
theorem dX1_rowFrom_9 : decode cX1_rowFrom 9 = .ok (.iconst 0, 1) := by decide +kernel
theorem dX1_rowFrom_10 : decode cX1_rowFrom 10 = .ok (.istore 8, 2) := by decide +kernel
theorem dX1_rowFrom_12 : decode cX1_rowFrom 12 = .ok (.iload 8, 2) := by decide +kernel
theorem dX1_rowFrom_14 : decode cX1_rowFrom 14 = .ok (.aload_n 0, 1) := by decide +kernel
theorem dX1_rowFrom_15 : decode cX1_rowFrom 15 = .ok (.getfield 28, 3) := by decide +kernel
theorem dX1_rowFrom_18 : decode cX1_rowFrom 18 = .ok (.if_icmp .ge 81, 3) := by decide +kernel
theorem dX1_rowFrom_21 : decode cX1_rowFrom 21 = .ok (.iload 6, 2) := by decide +kernel
theorem dX1_rowFrom_23 : decode cX1_rowFrom 23 = .ok (.ifCond .lt 21, 3) := by decide +kernel
theorem dX1_rowFrom_26 : decode cX1_rowFrom 26 = .ok (.iload 6, 2) := by decide +kernel
theorem dX1_rowFrom_28 : decode cX1_rowFrom 28 = .ok (.aload_n 0, 1) := by decide +kernel
theorem dX1_rowFrom_29 : decode cX1_rowFrom 29 = .ok (.getfield 21, 3) := by decide +kernel
theorem dX1_rowFrom_32 : decode cX1_rowFrom 32 = .ok (.if_icmp .ge 12, 3) := by decide +kernel
theorem dX1_rowFrom_35 : decode cX1_rowFrom 35 = .ok (.iload 7, 2) := by decide +kernel
theorem dX1_rowFrom_37 : decode cX1_rowFrom 37 = .ok (.aload_n 0, 1) := by decide +kernel
theorem dX1_rowFrom_38 : decode cX1_rowFrom 38 = .ok (.getfield 25, 3) := by decide +kernel
theorem dX1_rowFrom_41 : decode cX1_rowFrom 41 = .ok (.if_icmp .lt 5, 3) := by decide +kernel
theorem dX1_rowFrom_44 : decode cX1_rowFrom 44 = .ok (.iconst 0, 1) := by decide +kernel
theorem dX1_rowFrom_45 : decode cX1_rowFrom 45 = .ok (.ireturn, 1) := by decide +kernel
theorem dX1_rowFrom_46 : decode cX1_rowFrom 46 = .ok (.iconst 1, 1) := by decide +kernel
theorem dX1_rowFrom_47 : decode cX1_rowFrom 47 = .ok (.aload_n 0, 1) := by decide +kernel
theorem dX1_rowFrom_48 : decode cX1_rowFrom 48 = .ok (.getfield 21, 3) := by decide +kernel
theorem dX1_rowFrom_51 : decode cX1_rowFrom 51 = .ok (.iload 7, 2) := by decide +kernel
theorem dX1_rowFrom_53 : decode cX1_rowFrom 53 = .ok (.imul, 1) := by decide +kernel
theorem dX1_rowFrom_54 : decode cX1_rowFrom 54 = .ok (.iload 6, 2) := by decide +kernel
theorem dX1_rowFrom_56 : decode cX1_rowFrom 56 = .ok (.iadd, 1) := by decide +kernel
theorem dX1_rowFrom_57 : decode cX1_rowFrom 57 = .ok (.ishl, 1) := by decide +kernel
theorem dX1_rowFrom_58 : decode cX1_rowFrom 58 = .ok (.istore 9, 2) := by decide +kernel
theorem dX1_rowFrom_60 : decode cX1_rowFrom 60 = .ok (.iload 5, 2) := by decide +kernel
theorem dX1_rowFrom_62 : decode cX1_rowFrom 62 = .ok (.iload 9, 2) := by decide +kernel
theorem dX1_rowFrom_64 : decode cX1_rowFrom 64 = .ok (.iand, 1) := by decide +kernel
theorem dX1_rowFrom_65 : decode cX1_rowFrom 65 = .ok (.ifCond .eq 5, 3) := by decide +kernel
theorem dX1_rowFrom_68 : decode cX1_rowFrom 68 = .ok (.iconst 0, 1) := by decide +kernel
theorem dX1_rowFrom_69 : decode cX1_rowFrom 69 = .ok (.ireturn, 1) := by decide +kernel
theorem dX1_rowFrom_70 : decode cX1_rowFrom 70 = .ok (.iload 5, 2) := by decide +kernel
theorem dX1_rowFrom_72 : decode cX1_rowFrom 72 = .ok (.iload 9, 2) := by decide +kernel
theorem dX1_rowFrom_74 : decode cX1_rowFrom 74 = .ok (.ior, 1) := by decide +kernel
theorem dX1_rowFrom_75 : decode cX1_rowFrom 75 = .ok (.istore 5, 2) := by decide +kernel
theorem dX1_rowFrom_77 : decode cX1_rowFrom 77 = .ok (.aload_n 0, 1) := by decide +kernel
theorem dX1_rowFrom_78 : decode cX1_rowFrom 78 = .ok (.iload 6, 2) := by decide +kernel
theorem dX1_rowFrom_80 : decode cX1_rowFrom 80 = .ok (.iload_n 3, 1) := by decide +kernel
theorem dX1_rowFrom_81 : decode cX1_rowFrom 81 = .ok (.invokevirtual 55, 3) := by decide +kernel
theorem dX1_rowFrom_84 : decode cX1_rowFrom 84 = .ok (.istore 6, 2) := by decide +kernel
theorem dX1_rowFrom_86 : decode cX1_rowFrom 86 = .ok (.iload 7, 2) := by decide +kernel
theorem dX1_rowFrom_88 : decode cX1_rowFrom 88 = .ok (.iload 4, 2) := by decide +kernel
theorem dX1_rowFrom_90 : decode cX1_rowFrom 90 = .ok (.iadd, 1) := by decide +kernel
theorem dX1_rowFrom_91 : decode cX1_rowFrom 91 = .ok (.istore 7, 2) := by decide +kernel
theorem dX1_rowFrom_93 : decode cX1_rowFrom 93 = .ok (.iinc 8 1, 3) := by decide +kernel
theorem dX1_rowFrom_96 : decode cX1_rowFrom 96 = .ok (.goto (-84), 3) := by decide +kernel
theorem dX1_rowFrom_99 : decode cX1_rowFrom 99 = .ok (.iload 5, 2) := by decide +kernel
theorem dX1_rowFrom_101 : decode cX1_rowFrom 101 = .ok (.ireturn, 1) := by decide +kernel
theorem dX1_beside_0 : decode cX1_beside 0 = .ok (.iload_n 1, 1) := by decide +kernel
theorem dX1_beside_1 : decode cX1_beside 1 = .ok (.iload_n 2, 1) := by decide +kernel
theorem dX1_beside_2 : decode cX1_beside 2 = .ok (.iadd, 1) := by decide +kernel
theorem dX1_beside_3 : decode cX1_beside 3 = .ok (.istore_n 3, 1) := by decide +kernel
theorem dX1_beside_4 : decode cX1_beside 4 = .ok (.aload_n 0, 1) := by decide +kernel
theorem dX1_beside_5 : decode cX1_beside 5 = .ok (.getfield 31, 3) := by decide +kernel
theorem dX1_beside_8 : decode cX1_beside 8 = .ok (.ifCond .ne 5, 3) := by decide +kernel
theorem dX1_beside_11 : decode cX1_beside 11 = .ok (.iload_n 3, 1) := by decide +kernel
theorem dX1_beside_12 : decode cX1_beside 12 = .ok (.ireturn, 1) := by decide +kernel
theorem dX1_beside_13 : decode cX1_beside 13 = .ok (.iload_n 3, 1) := by decide +kernel
theorem dX1_beside_14 : decode cX1_beside 14 = .ok (.ifCond .ge 10, 3) := by decide +kernel
theorem dX1_beside_17 : decode cX1_beside 17 = .ok (.aload_n 0, 1) := by decide +kernel
theorem dX1_beside_18 : decode cX1_beside 18 = .ok (.getfield 21, 3) := by decide +kernel
theorem dX1_beside_21 : decode cX1_beside 21 = .ok (.iconst 1, 1) := by decide +kernel
theorem dX1_beside_22 : decode cX1_beside 22 = .ok (.isub, 1) := by decide +kernel
theorem dX1_beside_23 : decode cX1_beside 23 = .ok (.ireturn, 1) := by decide +kernel
theorem dX1_beside_24 : decode cX1_beside 24 = .ok (.iload_n 3, 1) := by decide +kernel
theorem dX1_beside_25 : decode cX1_beside 25 = .ok (.aload_n 0, 1) := by decide +kernel
theorem dX1_beside_26 : decode cX1_beside 26 = .ok (.getfield 21, 3) := by decide +kernel
theorem dX1_beside_29 : decode cX1_beside 29 = .ok (.if_icmp .lt 7, 3) := by decide +kernel
theorem dX1_beside_32 : decode cX1_beside 32 = .ok (.iconst 0, 1) := by decide +kernel
theorem dX1_beside_33 : decode cX1_beside 33 = .ok (.goto 4, 3) := by decide +kernel
theorem dX1_beside_36 : decode cX1_beside 36 = .ok (.iload_n 3, 1) := by decide +kernel
theorem dX1_beside_37 : decode cX1_beside 37 = .ok (.ireturn, 1) := by decide +kernel
theorem dX1_addRow_0 : decode cX1_addRow 0 = .ok (.iload_n 1, 1) := by decide +kernel
theorem dX1_addRow_1 : decode cX1_addRow 1 = .ok (.ifCond .eq 23, 3) := by decide +kernel
theorem dX1_addRow_4 : decode cX1_addRow 4 = .ok (.aload_n 0, 1) := by decide +kernel
theorem dX1_addRow_5 : decode cX1_addRow 5 = .ok (.iload_n 1, 1) := by decide +kernel
theorem dX1_addRow_6 : decode cX1_addRow 6 = .ok (.invokevirtual 59, 3) := by decide +kernel
theorem dX1_addRow_9 : decode cX1_addRow 9 = .ok (.ifCond .ne 15, 3) := by decide +kernel
theorem dX1_addRow_12 : decode cX1_addRow 12 = .ok (.aload_n 0, 1) := by decide +kernel
theorem dX1_addRow_13 : decode cX1_addRow 13 = .ok (.getfield 38, 3) := by decide +kernel
theorem dX1_addRow_16 : decode cX1_addRow 16 = .ok (.aload_n 0, 1) := by decide +kernel
theorem dX1_addRow_17 : decode cX1_addRow 17 = .ok (.getfield 11, 3) := by decide +kernel
theorem dX1_addRow_20 : decode cX1_addRow 20 = .ok (.arraylength, 1) := by decide +kernel
theorem dX1_addRow_21 : decode cX1_addRow 21 = .ok (.if_icmp .lt 4, 3) := by decide +kernel
theorem dX1_addRow_24 : decode cX1_addRow 24 = .ok (.return_, 1) := by decide +kernel
theorem dX1_addRow_25 : decode cX1_addRow 25 = .ok (.aload_n 0, 1) := by decide +kernel
theorem dX1_addRow_26 : decode cX1_addRow 26 = .ok (.getfield 11, 3) := by decide +kernel
theorem dX1_addRow_29 : decode cX1_addRow 29 = .ok (.aload_n 0, 1) := by decide +kernel
theorem dX1_addRow_30 : decode cX1_addRow 30 = .ok (.getfield 38, 3) := by decide +kernel
theorem dX1_addRow_33 : decode cX1_addRow 33 = .ok (.iload_n 1, 1) := by decide +kernel
theorem dX1_addRow_34 : decode cX1_addRow 34 = .ok (.iastore, 1) := by decide +kernel
theorem dX1_addRow_35 : decode cX1_addRow 35 = .ok (.aload_n 0, 1) := by decide +kernel
theorem dX1_addRow_36 : decode cX1_addRow 36 = .ok (.dup, 1) := by decide +kernel
theorem dX1_addRow_37 : decode cX1_addRow 37 = .ok (.getfield 38, 3) := by decide +kernel
theorem dX1_addRow_40 : decode cX1_addRow 40 = .ok (.iconst 1, 1) := by decide +kernel
theorem dX1_addRow_41 : decode cX1_addRow 41 = .ok (.iadd, 1) := by decide +kernel
theorem dX1_addRow_42 : decode cX1_addRow 42 = .ok (.putfield 38, 3) := by decide +kernel
theorem dX1_addRow_45 : decode cX1_addRow 45 = .ok (.iconst 0, 1) := by decide +kernel
theorem dX1_addRow_46 : decode cX1_addRow 46 = .ok (.istore_n 2, 1) := by decide +kernel
theorem dX1_addRow_47 : decode cX1_addRow 47 = .ok (.iload_n 2, 1) := by decide +kernel
theorem dX1_addRow_48 : decode cX1_addRow 48 = .ok (.aload_n 0, 1) := by decide +kernel
theorem dX1_addRow_49 : decode cX1_addRow 49 = .ok (.getfield 35, 3) := by decide +kernel
theorem dX1_addRow_52 : decode cX1_addRow 52 = .ok (.if_icmp .ge 55, 3) := by decide +kernel
theorem dX1_addRow_55 : decode cX1_addRow 55 = .ok (.iload_n 1, 1) := by decide +kernel
theorem dX1_addRow_56 : decode cX1_addRow 56 = .ok (.iload_n 2, 1) := by decide +kernel
theorem dX1_addRow_57 : decode cX1_addRow 57 = .ok (.ishr, 1) := by decide +kernel
theorem dX1_addRow_58 : decode cX1_addRow 58 = .ok (.iconst 1, 1) := by decide +kernel
theorem dX1_addRow_59 : decode cX1_addRow 59 = .ok (.iand, 1) := by decide +kernel
theorem dX1_addRow_60 : decode cX1_addRow 60 = .ok (.ifCond .eq 41, 3) := by decide +kernel
theorem dX1_addRow_63 : decode cX1_addRow 63 = .ok (.aload_n 0, 1) := by decide +kernel
theorem dX1_addRow_64 : decode cX1_addRow 64 = .ok (.getfield 18, 3) := by decide +kernel
theorem dX1_addRow_67 : decode cX1_addRow 67 = .ok (.iload_n 2, 1) := by decide +kernel
theorem dX1_addRow_68 : decode cX1_addRow 68 = .ok (.iaload, 1) := by decide +kernel
theorem dX1_addRow_69 : decode cX1_addRow 69 = .ok (.bipush 16, 2) := by decide +kernel
theorem dX1_addRow_71 : decode cX1_addRow 71 = .ok (.if_icmp .ge 30, 3) := by decide +kernel
theorem dX1_addRow_74 : decode cX1_addRow 74 = .ok (.aload_n 0, 1) := by decide +kernel
theorem dX1_addRow_75 : decode cX1_addRow 75 = .ok (.getfield 15, 3) := by decide +kernel
theorem dX1_addRow_78 : decode cX1_addRow 78 = .ok (.iload_n 2, 1) := by decide +kernel
theorem dX1_addRow_79 : decode cX1_addRow 79 = .ok (.bipush 16, 2) := by decide +kernel
theorem dX1_addRow_81 : decode cX1_addRow 81 = .ok (.imul, 1) := by decide +kernel
theorem dX1_addRow_82 : decode cX1_addRow 82 = .ok (.aload_n 0, 1) := by decide +kernel
theorem dX1_addRow_83 : decode cX1_addRow 83 = .ok (.getfield 18, 3) := by decide +kernel
theorem dX1_addRow_86 : decode cX1_addRow 86 = .ok (.iload_n 2, 1) := by decide +kernel
theorem dX1_addRow_87 : decode cX1_addRow 87 = .ok (.iaload, 1) := by decide +kernel
theorem dX1_addRow_88 : decode cX1_addRow 88 = .ok (.iadd, 1) := by decide +kernel
theorem dX1_addRow_89 : decode cX1_addRow 89 = .ok (.iload_n 1, 1) := by decide +kernel
theorem dX1_addRow_90 : decode cX1_addRow 90 = .ok (.iastore, 1) := by decide +kernel
theorem dX1_addRow_91 : decode cX1_addRow 91 = .ok (.aload_n 0, 1) := by decide +kernel
theorem dX1_addRow_92 : decode cX1_addRow 92 = .ok (.getfield 18, 3) := by decide +kernel
theorem dX1_addRow_95 : decode cX1_addRow 95 = .ok (.iload_n 2, 1) := by decide +kernel
theorem dX1_addRow_96 : decode cX1_addRow 96 = .ok (.dup2, 1) := by decide +kernel
theorem dX1_addRow_97 : decode cX1_addRow 97 = .ok (.iaload, 1) := by decide +kernel
theorem dX1_addRow_98 : decode cX1_addRow 98 = .ok (.iconst 1, 1) := by decide +kernel
theorem dX1_addRow_99 : decode cX1_addRow 99 = .ok (.iadd, 1) := by decide +kernel
theorem dX1_addRow_100 : decode cX1_addRow 100 = .ok (.iastore, 1) := by decide +kernel
theorem dX1_addRow_101 : decode cX1_addRow 101 = .ok (.iinc 2 1, 3) := by decide +kernel
theorem dX1_addRow_104 : decode cX1_addRow 104 = .ok (.goto (-57), 3) := by decide +kernel
theorem dX1_addRow_107 : decode cX1_addRow 107 = .ok (.return_, 1) := by decide +kernel
theorem dX1_isRow_0 : decode cX1_isRow 0 = .ok (.iconst 0, 1) := by decide +kernel
theorem dX1_isRow_1 : decode cX1_isRow 1 = .ok (.istore_n 2, 1) := by decide +kernel
theorem dX1_isRow_2 : decode cX1_isRow 2 = .ok (.iload_n 2, 1) := by decide +kernel
theorem dX1_isRow_3 : decode cX1_isRow 3 = .ok (.aload_n 0, 1) := by decide +kernel
theorem dX1_isRow_4 : decode cX1_isRow 4 = .ok (.getfield 38, 3) := by decide +kernel
theorem dX1_isRow_7 : decode cX1_isRow 7 = .ok (.if_icmp .ge 21, 3) := by decide +kernel
theorem dX1_isRow_10 : decode cX1_isRow 10 = .ok (.aload_n 0, 1) := by decide +kernel
theorem dX1_isRow_11 : decode cX1_isRow 11 = .ok (.getfield 11, 3) := by decide +kernel
theorem dX1_isRow_14 : decode cX1_isRow 14 = .ok (.iload_n 2, 1) := by decide +kernel
theorem dX1_isRow_15 : decode cX1_isRow 15 = .ok (.iaload, 1) := by decide +kernel
theorem dX1_isRow_16 : decode cX1_isRow 16 = .ok (.iload_n 1, 1) := by decide +kernel
theorem dX1_isRow_17 : decode cX1_isRow 17 = .ok (.if_icmp .ne 5, 3) := by decide +kernel
theorem dX1_isRow_20 : decode cX1_isRow 20 = .ok (.iconst 1, 1) := by decide +kernel
theorem dX1_isRow_21 : decode cX1_isRow 21 = .ok (.ireturn, 1) := by decide +kernel
theorem dX1_isRow_22 : decode cX1_isRow 22 = .ok (.iinc 2 1, 3) := by decide +kernel
theorem dX1_isRow_25 : decode cX1_isRow 25 = .ok (.goto (-23), 3) := by decide +kernel
theorem dX1_isRow_28 : decode cX1_isRow 28 = .ok (.iconst 0, 1) := by decide +kernel
theorem dX1_isRow_29 : decode cX1_isRow 29 = .ok (.ireturn, 1) := by decide +kernel
theorem dX1_hasRow_0 : decode cX1_hasRow 0 = .ok (.iconst 0, 1) := by decide +kernel
theorem dX1_hasRow_1 : decode cX1_hasRow 1 = .ok (.istore_n 2, 1) := by decide +kernel
theorem dX1_hasRow_2 : decode cX1_hasRow 2 = .ok (.iload_n 2, 1) := by decide +kernel
theorem dX1_hasRow_3 : decode cX1_hasRow 3 = .ok (.aload_n 0, 1) := by decide +kernel
theorem dX1_hasRow_4 : decode cX1_hasRow 4 = .ok (.getfield 38, 3) := by decide +kernel
theorem dX1_hasRow_7 : decode cX1_hasRow 7 = .ok (.if_icmp .ge 28, 3) := by decide +kernel
theorem dX1_hasRow_10 : decode cX1_hasRow 10 = .ok (.iload_n 1, 1) := by decide +kernel
theorem dX1_hasRow_11 : decode cX1_hasRow 11 = .ok (.aload_n 0, 1) := by decide +kernel
theorem dX1_hasRow_12 : decode cX1_hasRow 12 = .ok (.getfield 11, 3) := by decide +kernel
theorem dX1_hasRow_15 : decode cX1_hasRow 15 = .ok (.iload_n 2, 1) := by decide +kernel
theorem dX1_hasRow_16 : decode cX1_hasRow 16 = .ok (.iaload, 1) := by decide +kernel
theorem dX1_hasRow_17 : decode cX1_hasRow 17 = .ok (.iand, 1) := by decide +kernel
theorem dX1_hasRow_18 : decode cX1_hasRow 18 = .ok (.aload_n 0, 1) := by decide +kernel
theorem dX1_hasRow_19 : decode cX1_hasRow 19 = .ok (.getfield 11, 3) := by decide +kernel
theorem dX1_hasRow_22 : decode cX1_hasRow 22 = .ok (.iload_n 2, 1) := by decide +kernel
theorem dX1_hasRow_23 : decode cX1_hasRow 23 = .ok (.iaload, 1) := by decide +kernel
theorem dX1_hasRow_24 : decode cX1_hasRow 24 = .ok (.if_icmp .ne 5, 3) := by decide +kernel
theorem dX1_hasRow_27 : decode cX1_hasRow 27 = .ok (.iconst 1, 1) := by decide +kernel
theorem dX1_hasRow_28 : decode cX1_hasRow 28 = .ok (.ireturn, 1) := by decide +kernel
theorem dX1_hasRow_29 : decode cX1_hasRow 29 = .ok (.iinc 2 1, 3) := by decide +kernel
theorem dX1_hasRow_32 : decode cX1_hasRow 32 = .ok (.goto (-30), 3) := by decide +kernel
theorem dX1_hasRow_35 : decode cX1_hasRow 35 = .ok (.iconst 0, 1) := by decide +kernel
theorem dX1_hasRow_36 : decode cX1_hasRow 36 = .ok (.ireturn, 1) := by decide +kernel
theorem dX1_hasRowThrough_0 : decode cX1_hasRowThrough 0 = .ok (.iload_n 1, 1) := by decide +kernel
theorem dX1_hasRowThrough_1 : decode cX1_hasRowThrough 1 = .ok (.ifCond .lt 9, 3) := by decide +kernel
theorem dX1_hasRowThrough_4 : decode cX1_hasRowThrough 4 = .ok (.iload_n 1, 1) := by decide +kernel
theorem dX1_hasRowThrough_5 : decode cX1_hasRowThrough 5 = .ok (.bipush 16, 2) := by decide +kernel
theorem dX1_hasRowThrough_7 : decode cX1_hasRowThrough 7 = .ok (.if_icmp .lt 5, 3) := by decide +kernel
theorem dX1_hasRowThrough_10 : decode cX1_hasRowThrough 10 = .ok (.iconst 0, 1) := by decide +kernel
theorem dX1_hasRowThrough_11 : decode cX1_hasRowThrough 11 = .ok (.ireturn, 1) := by decide +kernel
theorem dX1_hasRowThrough_12 : decode cX1_hasRowThrough 12 = .ok (.iload_n 1, 1) := by decide +kernel
theorem dX1_hasRowThrough_13 : decode cX1_hasRowThrough 13 = .ok (.bipush 16, 2) := by decide +kernel
theorem dX1_hasRowThrough_15 : decode cX1_hasRowThrough 15 = .ok (.imul, 1) := by decide +kernel
theorem dX1_hasRowThrough_16 : decode cX1_hasRowThrough 16 = .ok (.istore_n 3, 1) := by decide +kernel
theorem dX1_hasRowThrough_17 : decode cX1_hasRowThrough 17 = .ok (.iload_n 3, 1) := by decide +kernel
theorem dX1_hasRowThrough_18 : decode cX1_hasRowThrough 18 = .ok (.aload_n 0, 1) := by decide +kernel
theorem dX1_hasRowThrough_19 : decode cX1_hasRowThrough 19 = .ok (.getfield 18, 3) := by decide +kernel
theorem dX1_hasRowThrough_22 : decode cX1_hasRowThrough 22 = .ok (.iload_n 1, 1) := by decide +kernel
theorem dX1_hasRowThrough_23 : decode cX1_hasRowThrough 23 = .ok (.iaload, 1) := by decide +kernel
theorem dX1_hasRowThrough_24 : decode cX1_hasRowThrough 24 = .ok (.iadd, 1) := by decide +kernel
theorem dX1_hasRowThrough_25 : decode cX1_hasRowThrough 25 = .ok (.istore 4, 2) := by decide +kernel
theorem dX1_hasRowThrough_27 : decode cX1_hasRowThrough 27 = .ok (.iload_n 3, 1) := by decide +kernel
theorem dX1_hasRowThrough_28 : decode cX1_hasRowThrough 28 = .ok (.istore 5, 2) := by decide +kernel
theorem dX1_hasRowThrough_30 : decode cX1_hasRowThrough 30 = .ok (.iload 5, 2) := by decide +kernel
theorem dX1_hasRowThrough_32 : decode cX1_hasRowThrough 32 = .ok (.iload 4, 2) := by decide +kernel
theorem dX1_hasRowThrough_34 : decode cX1_hasRowThrough 34 = .ok (.if_icmp .ge 29, 3) := by decide +kernel
theorem dX1_hasRowThrough_37 : decode cX1_hasRowThrough 37 = .ok (.aload_n 0, 1) := by decide +kernel
theorem dX1_hasRowThrough_38 : decode cX1_hasRowThrough 38 = .ok (.getfield 15, 3) := by decide +kernel
theorem dX1_hasRowThrough_41 : decode cX1_hasRowThrough 41 = .ok (.iload 5, 2) := by decide +kernel
theorem dX1_hasRowThrough_43 : decode cX1_hasRowThrough 43 = .ok (.iaload, 1) := by decide +kernel
theorem dX1_hasRowThrough_44 : decode cX1_hasRowThrough 44 = .ok (.istore 6, 2) := by decide +kernel
theorem dX1_hasRowThrough_46 : decode cX1_hasRowThrough 46 = .ok (.iload_n 2, 1) := by decide +kernel
theorem dX1_hasRowThrough_47 : decode cX1_hasRowThrough 47 = .ok (.iload 6, 2) := by decide +kernel
theorem dX1_hasRowThrough_49 : decode cX1_hasRowThrough 49 = .ok (.iand, 1) := by decide +kernel
theorem dX1_hasRowThrough_50 : decode cX1_hasRowThrough 50 = .ok (.iload 6, 2) := by decide +kernel
theorem dX1_hasRowThrough_52 : decode cX1_hasRowThrough 52 = .ok (.if_icmp .ne 5, 3) := by decide +kernel
theorem dX1_hasRowThrough_55 : decode cX1_hasRowThrough 55 = .ok (.iconst 1, 1) := by decide +kernel
theorem dX1_hasRowThrough_56 : decode cX1_hasRowThrough 56 = .ok (.ireturn, 1) := by decide +kernel
theorem dX1_hasRowThrough_57 : decode cX1_hasRowThrough 57 = .ok (.iinc 5 1, 3) := by decide +kernel
theorem dX1_hasRowThrough_60 : decode cX1_hasRowThrough 60 = .ok (.goto (-30), 3) := by decide +kernel
theorem dX1_hasRowThrough_63 : decode cX1_hasRowThrough 63 = .ok (.iconst 0, 1) := by decide +kernel
theorem dX1_hasRowThrough_64 : decode cX1_hasRowThrough 64 = .ok (.ireturn, 1) := by decide +kernel
theorem dX1_rowsWithout_0 : decode cX1_rowsWithout 0 = .ok (.iconst 0, 1) := by decide +kernel
theorem dX1_rowsWithout_1 : decode cX1_rowsWithout 1 = .ok (.istore_n 2, 1) := by decide +kernel
theorem dX1_rowsWithout_2 : decode cX1_rowsWithout 2 = .ok (.iconst 0, 1) := by decide +kernel
theorem dX1_rowsWithout_3 : decode cX1_rowsWithout 3 = .ok (.istore_n 3, 1) := by decide +kernel
theorem dX1_rowsWithout_4 : decode cX1_rowsWithout 4 = .ok (.iload_n 3, 1) := by decide +kernel
theorem dX1_rowsWithout_5 : decode cX1_rowsWithout 5 = .ok (.aload_n 0, 1) := by decide +kernel
theorem dX1_rowsWithout_6 : decode cX1_rowsWithout 6 = .ok (.getfield 38, 3) := by decide +kernel
theorem dX1_rowsWithout_9 : decode cX1_rowsWithout 9 = .ok (.if_icmp .ge 23, 3) := by decide +kernel
theorem dX1_rowsWithout_12 : decode cX1_rowsWithout 12 = .ok (.iload_n 1, 1) := by decide +kernel
theorem dX1_rowsWithout_13 : decode cX1_rowsWithout 13 = .ok (.aload_n 0, 1) := by decide +kernel
theorem dX1_rowsWithout_14 : decode cX1_rowsWithout 14 = .ok (.getfield 11, 3) := by decide +kernel
theorem dX1_rowsWithout_17 : decode cX1_rowsWithout 17 = .ok (.iload_n 3, 1) := by decide +kernel
theorem dX1_rowsWithout_18 : decode cX1_rowsWithout 18 = .ok (.iaload, 1) := by decide +kernel
theorem dX1_rowsWithout_19 : decode cX1_rowsWithout 19 = .ok (.iand, 1) := by decide +kernel
theorem dX1_rowsWithout_20 : decode cX1_rowsWithout 20 = .ok (.ifCond .ne 6, 3) := by decide +kernel
theorem dX1_rowsWithout_23 : decode cX1_rowsWithout 23 = .ok (.iinc 2 1, 3) := by decide +kernel
theorem dX1_rowsWithout_26 : decode cX1_rowsWithout 26 = .ok (.iinc 3 1, 3) := by decide +kernel
theorem dX1_rowsWithout_29 : decode cX1_rowsWithout 29 = .ok (.goto (-25), 3) := by decide +kernel
theorem dX1_rowsWithout_32 : decode cX1_rowsWithout 32 = .ok (.iload_n 2, 1) := by decide +kernel
theorem dX1_rowsWithout_33 : decode cX1_rowsWithout 33 = .ok (.ireturn, 1) := by decide +kernel
theorem dX1_firstRowOf_0 : decode cX1_firstRowOf 0 = .ok (.iconst 0, 1) := by decide +kernel
theorem dX1_firstRowOf_1 : decode cX1_firstRowOf 1 = .ok (.istore_n 2, 1) := by decide +kernel
theorem dX1_firstRowOf_2 : decode cX1_firstRowOf 2 = .ok (.iconst 0, 1) := by decide +kernel
theorem dX1_firstRowOf_3 : decode cX1_firstRowOf 3 = .ok (.istore_n 3, 1) := by decide +kernel
theorem dX1_firstRowOf_4 : decode cX1_firstRowOf 4 = .ok (.iload_n 3, 1) := by decide +kernel
theorem dX1_firstRowOf_5 : decode cX1_firstRowOf 5 = .ok (.aload_n 0, 1) := by decide +kernel
theorem dX1_firstRowOf_6 : decode cX1_firstRowOf 6 = .ok (.getfield 38, 3) := by decide +kernel
theorem dX1_firstRowOf_9 : decode cX1_firstRowOf 9 = .ok (.if_icmp .ge 50, 3) := by decide +kernel
theorem dX1_firstRowOf_12 : decode cX1_firstRowOf 12 = .ok (.iload_n 1, 1) := by decide +kernel
theorem dX1_firstRowOf_13 : decode cX1_firstRowOf 13 = .ok (.aload_n 0, 1) := by decide +kernel
theorem dX1_firstRowOf_14 : decode cX1_firstRowOf 14 = .ok (.getfield 11, 3) := by decide +kernel
theorem dX1_firstRowOf_17 : decode cX1_firstRowOf 17 = .ok (.iload_n 3, 1) := by decide +kernel
theorem dX1_firstRowOf_18 : decode cX1_firstRowOf 18 = .ok (.iaload, 1) := by decide +kernel
theorem dX1_firstRowOf_19 : decode cX1_firstRowOf 19 = .ok (.iand, 1) := by decide +kernel
theorem dX1_firstRowOf_20 : decode cX1_firstRowOf 20 = .ok (.aload_n 0, 1) := by decide +kernel
theorem dX1_firstRowOf_21 : decode cX1_firstRowOf 21 = .ok (.getfield 11, 3) := by decide +kernel
theorem dX1_firstRowOf_24 : decode cX1_firstRowOf 24 = .ok (.iload_n 3, 1) := by decide +kernel
theorem dX1_firstRowOf_25 : decode cX1_firstRowOf 25 = .ok (.iaload, 1) := by decide +kernel
theorem dX1_firstRowOf_26 : decode cX1_firstRowOf 26 = .ok (.if_icmp .ne 27, 3) := by decide +kernel
theorem dX1_firstRowOf_29 : decode cX1_firstRowOf 29 = .ok (.iload_n 2, 1) := by decide +kernel
theorem dX1_firstRowOf_30 : decode cX1_firstRowOf 30 = .ok (.ifCond .eq 16, 3) := by decide +kernel
theorem dX1_firstRowOf_33 : decode cX1_firstRowOf 33 = .ok (.aload_n 0, 1) := by decide +kernel
theorem dX1_firstRowOf_34 : decode cX1_firstRowOf 34 = .ok (.getfield 11, 3) := by decide +kernel
theorem dX1_firstRowOf_37 : decode cX1_firstRowOf 37 = .ok (.iload_n 3, 1) := by decide +kernel
theorem dX1_firstRowOf_38 : decode cX1_firstRowOf 38 = .ok (.iaload, 1) := by decide +kernel
theorem dX1_firstRowOf_39 : decode cX1_firstRowOf 39 = .ok (.iload_n 2, 1) := by decide +kernel
theorem dX1_firstRowOf_40 : decode cX1_firstRowOf 40 = .ok (.invokestatic 63, 3) := by decide +kernel
theorem dX1_firstRowOf_43 : decode cX1_firstRowOf 43 = .ok (.ifCond .eq 10, 3) := by decide +kernel
theorem dX1_firstRowOf_46 : decode cX1_firstRowOf 46 = .ok (.aload_n 0, 1) := by decide +kernel
theorem dX1_firstRowOf_47 : decode cX1_firstRowOf 47 = .ok (.getfield 11, 3) := by decide +kernel
theorem dX1_firstRowOf_50 : decode cX1_firstRowOf 50 = .ok (.iload_n 3, 1) := by decide +kernel
theorem dX1_firstRowOf_51 : decode cX1_firstRowOf 51 = .ok (.iaload, 1) := by decide +kernel
theorem dX1_firstRowOf_52 : decode cX1_firstRowOf 52 = .ok (.istore_n 2, 1) := by decide +kernel
theorem dX1_firstRowOf_53 : decode cX1_firstRowOf 53 = .ok (.iinc 3 1, 3) := by decide +kernel
theorem dX1_firstRowOf_56 : decode cX1_firstRowOf 56 = .ok (.goto (-52), 3) := by decide +kernel
theorem dX1_firstRowOf_59 : decode cX1_firstRowOf 59 = .ok (.iload_n 2, 1) := by decide +kernel
theorem dX1_firstRowOf_60 : decode cX1_firstRowOf 60 = .ok (.ireturn, 1) := by decide +kernel
theorem dX1_comesAhead_0 : decode cX1_comesAhead 0 = .ok (.iload_n 0, 1) := by decide +kernel
theorem dX1_comesAhead_1 : decode cX1_comesAhead 1 = .ok (.iload_n 1, 1) := by decide +kernel
theorem dX1_comesAhead_2 : decode cX1_comesAhead 2 = .ok (.ixor, 1) := by decide +kernel
theorem dX1_comesAhead_3 : decode cX1_comesAhead 3 = .ok (.istore_n 2, 1) := by decide +kernel
theorem dX1_comesAhead_4 : decode cX1_comesAhead 4 = .ok (.iload_n 0, 1) := by decide +kernel
theorem dX1_comesAhead_5 : decode cX1_comesAhead 5 = .ok (.iload_n 2, 1) := by decide +kernel
theorem dX1_comesAhead_6 : decode cX1_comesAhead 6 = .ok (.iand, 1) := by decide +kernel
theorem dX1_comesAhead_7 : decode cX1_comesAhead 7 = .ok (.iload_n 2, 1) := by decide +kernel
theorem dX1_comesAhead_8 : decode cX1_comesAhead 8 = .ok (.ineg, 1) := by decide +kernel
theorem dX1_comesAhead_9 : decode cX1_comesAhead 9 = .ok (.iand, 1) := by decide +kernel
theorem dX1_comesAhead_10 : decode cX1_comesAhead 10 = .ok (.ifCond .eq 7, 3) := by decide +kernel
theorem dX1_comesAhead_13 : decode cX1_comesAhead 13 = .ok (.iconst 1, 1) := by decide +kernel
theorem dX1_comesAhead_14 : decode cX1_comesAhead 14 = .ok (.goto 4, 3) := by decide +kernel
theorem dX1_comesAhead_17 : decode cX1_comesAhead 17 = .ok (.iconst 0, 1) := by decide +kernel
theorem dX1_comesAhead_18 : decode cX1_comesAhead 18 = .ok (.ireturn, 1) := by decide +kernel
theorem dX1_imageOf_0 : decode cX1_imageOf 0 = .ok (.aload_n 0, 1) := by decide +kernel
theorem dX1_imageOf_1 : decode cX1_imageOf 1 = .ok (.getfield 21, 3) := by decide +kernel
theorem dX1_imageOf_4 : decode cX1_imageOf 4 = .ok (.iconst 1, 1) := by decide +kernel
theorem dX1_imageOf_5 : decode cX1_imageOf 5 = .ok (.if_icmp .ge 7, 3) := by decide +kernel
theorem dX1_imageOf_8 : decode cX1_imageOf 8 = .ok (.iconst 0, 1) := by decide +kernel
theorem dX1_imageOf_9 : decode cX1_imageOf 9 = .ok (.goto 9, 3) := by decide +kernel
theorem dX1_imageOf_12 : decode cX1_imageOf 12 = .ok (.iload_n 1, 1) := by decide +kernel
theorem dX1_imageOf_13 : decode cX1_imageOf 13 = .ok (.aload_n 0, 1) := by decide +kernel
theorem dX1_imageOf_14 : decode cX1_imageOf 14 = .ok (.getfield 21, 3) := by decide +kernel
theorem dX1_imageOf_17 : decode cX1_imageOf 17 = .ok (.irem, 1) := by decide +kernel
theorem dX1_imageOf_18 : decode cX1_imageOf 18 = .ok (.istore_n 2, 1) := by decide +kernel
theorem dX1_imageOf_19 : decode cX1_imageOf 19 = .ok (.iload_n 1, 1) := by decide +kernel
theorem dX1_imageOf_20 : decode cX1_imageOf 20 = .ok (.iload_n 2, 1) := by decide +kernel
theorem dX1_imageOf_21 : decode cX1_imageOf 21 = .ok (.isub, 1) := by decide +kernel
theorem dX1_imageOf_22 : decode cX1_imageOf 22 = .ok (.aload_n 0, 1) := by decide +kernel
theorem dX1_imageOf_23 : decode cX1_imageOf 23 = .ok (.getfield 21, 3) := by decide +kernel
theorem dX1_imageOf_26 : decode cX1_imageOf 26 = .ok (.iconst 1, 1) := by decide +kernel
theorem dX1_imageOf_27 : decode cX1_imageOf 27 = .ok (.isub, 1) := by decide +kernel
theorem dX1_imageOf_28 : decode cX1_imageOf 28 = .ok (.iload_n 2, 1) := by decide +kernel
theorem dX1_imageOf_29 : decode cX1_imageOf 29 = .ok (.isub, 1) := by decide +kernel
theorem dX1_imageOf_30 : decode cX1_imageOf 30 = .ok (.iadd, 1) := by decide +kernel
theorem dX1_imageOf_31 : decode cX1_imageOf 31 = .ok (.ireturn, 1) := by decide +kernel
theorem dX2_init_0 : decode cX2_init 0 = .ok (.aload_n 0, 1) := by decide +kernel
theorem dX2_init_1 : decode cX2_init 1 = .ok (.invokespecial 3, 3) := by decide +kernel
theorem dX2_init_4 : decode cX2_init 4 = .ok (.aload_n 0, 1) := by decide +kernel
theorem dX2_init_5 : decode cX2_init 5 = .ok (.iconst 1, 1) := by decide +kernel
theorem dX2_init_6 : decode cX2_init 6 = .ok (.putfield 9, 3) := by decide +kernel
theorem dX2_init_9 : decode cX2_init 9 = .ok (.aload_n 0, 1) := by decide +kernel
theorem dX2_init_10 : decode cX2_init 10 = .ok (.bipush 20, 2) := by decide +kernel
theorem dX2_init_12 : decode cX2_init 12 = .ok (.newarray .int, 2) := by decide +kernel
theorem dX2_init_14 : decode cX2_init 14 = .ok (.putfield 15, 3) := by decide +kernel
theorem dX2_init_17 : decode cX2_init 17 = .ok (.return_, 1) := by decide +kernel
theorem dX2_renew_0 : decode cX2_renew 0 = .ok (.aload_n 0, 1) := by decide +kernel
theorem dX2_renew_1 : decode cX2_renew 1 = .ok (.iconst 0, 1) := by decide +kernel
theorem dX2_renew_2 : decode cX2_renew 2 = .ok (.putfield 9, 3) := by decide +kernel
theorem dX2_renew_5 : decode cX2_renew 5 = .ok (.aload_n 0, 1) := by decide +kernel
theorem dX2_renew_6 : decode cX2_renew 6 = .ok (.iload_n 1, 1) := by decide +kernel
theorem dX2_renew_7 : decode cX2_renew 7 = .ok (.putfield 19, 3) := by decide +kernel
theorem dX2_renew_10 : decode cX2_renew 10 = .ok (.aload_n 0, 1) := by decide +kernel
theorem dX2_renew_11 : decode cX2_renew 11 = .ok (.iload_n 2, 1) := by decide +kernel
theorem dX2_renew_12 : decode cX2_renew 12 = .ok (.putfield 23, 3) := by decide +kernel
theorem dX2_renew_15 : decode cX2_renew 15 = .ok (.aload_n 0, 1) := by decide +kernel
theorem dX2_renew_16 : decode cX2_renew 16 = .ok (.getfield 15, 3) := by decide +kernel
theorem dX2_renew_19 : decode cX2_renew 19 = .ok (.iconst 0, 1) := by decide +kernel
theorem dX2_renew_20 : decode cX2_renew 20 = .ok (.invokestatic 26, 3) := by decide +kernel
theorem dX2_renew_23 : decode cX2_renew 23 = .ok (.return_, 1) := by decide +kernel
theorem dX2_findingAt_0 : decode cX2_findingAt 0 = .ok (.aload_n 0, 1) := by decide +kernel
theorem dX2_findingAt_1 : decode cX2_findingAt 1 = .ok (.getfield 9, 3) := by decide +kernel
theorem dX2_findingAt_4 : decode cX2_findingAt 4 = .ok (.ifCond .eq 5, 3) := by decide +kernel
theorem dX2_findingAt_7 : decode cX2_findingAt 7 = .ok (.iconst 1, 1) := by decide +kernel
theorem dX2_findingAt_8 : decode cX2_findingAt 8 = .ok (.ireturn, 1) := by decide +kernel
theorem dX2_findingAt_9 : decode cX2_findingAt 9 = .ok (.aload_n 0, 1) := by decide +kernel
theorem dX2_findingAt_10 : decode cX2_findingAt 10 = .ok (.getfield 19, 3) := by decide +kernel
theorem dX2_findingAt_13 : decode cX2_findingAt 13 = .ok (.iload_n 1, 1) := by decide +kernel
theorem dX2_findingAt_14 : decode cX2_findingAt 14 = .ok (.if_icmp .eq 5, 3) := by decide +kernel
theorem dX2_findingAt_17 : decode cX2_findingAt 17 = .ok (.iconst 3, 1) := by decide +kernel
theorem dX2_findingAt_18 : decode cX2_findingAt 18 = .ok (.ireturn, 1) := by decide +kernel
theorem dX2_findingAt_19 : decode cX2_findingAt 19 = .ok (.iload_n 2, 1) := by decide +kernel
theorem dX2_findingAt_20 : decode cX2_findingAt 20 = .ok (.iconst 0, 1) := by decide +kernel
theorem dX2_findingAt_21 : decode cX2_findingAt 21 = .ok (.aload_n 0, 1) := by decide +kernel
theorem dX2_findingAt_22 : decode cX2_findingAt 22 = .ok (.getfield 23, 3) := by decide +kernel
theorem dX2_findingAt_25 : decode cX2_findingAt 25 = .ok (.iconst 1, 1) := by decide +kernel
theorem dX2_findingAt_26 : decode cX2_findingAt 26 = .ok (.isub, 1) := by decide +kernel
theorem dX2_findingAt_27 : decode cX2_findingAt 27 = .ok (.invokestatic 32, 3) := by decide +kernel
theorem dX2_findingAt_30 : decode cX2_findingAt 30 = .ok (.ifCond .eq 7, 3) := by decide +kernel
theorem dX2_findingAt_33 : decode cX2_findingAt 33 = .ok (.iconst 0, 1) := by decide +kernel
theorem dX2_findingAt_34 : decode cX2_findingAt 34 = .ok (.goto 4, 3) := by decide +kernel
theorem dX2_findingAt_37 : decode cX2_findingAt 37 = .ok (.iconst 2, 1) := by decide +kernel
theorem dX2_findingAt_38 : decode cX2_findingAt 38 = .ok (.ireturn, 1) := by decide +kernel
theorem dX2_hasPart_0 : decode cX2_hasPart 0 = .ok (.iload_n 2, 1) := by decide +kernel
theorem dX2_hasPart_1 : decode cX2_hasPart 1 = .ok (.ifCond .lt 29, 3) := by decide +kernel
theorem dX2_hasPart_4 : decode cX2_hasPart 4 = .ok (.iload_n 2, 1) := by decide +kernel
theorem dX2_hasPart_5 : decode cX2_hasPart 5 = .ok (.aload_n 0, 1) := by decide +kernel
theorem dX2_hasPart_6 : decode cX2_hasPart 6 = .ok (.getfield 23, 3) := by decide +kernel
theorem dX2_hasPart_9 : decode cX2_hasPart 9 = .ok (.if_icmp .gt 21, 3) := by decide +kernel
theorem dX2_hasPart_12 : decode cX2_hasPart 12 = .ok (.iload_n 1, 1) := by decide +kernel
theorem dX2_hasPart_13 : decode cX2_hasPart 13 = .ok (.ifCond .lt 17, 3) := by decide +kernel
theorem dX2_hasPart_16 : decode cX2_hasPart 16 = .ok (.iload_n 1, 1) := by decide +kernel
theorem dX2_hasPart_17 : decode cX2_hasPart 17 = .ok (.aload_n 0, 1) := by decide +kernel
theorem dX2_hasPart_18 : decode cX2_hasPart 18 = .ok (.getfield 23, 3) := by decide +kernel
theorem dX2_hasPart_21 : decode cX2_hasPart 21 = .ok (.iload_n 2, 1) := by decide +kernel
theorem dX2_hasPart_22 : decode cX2_hasPart 22 = .ok (.isub, 1) := by decide +kernel
theorem dX2_hasPart_23 : decode cX2_hasPart 23 = .ok (.if_icmp .gt 7, 3) := by decide +kernel
theorem dX2_hasPart_26 : decode cX2_hasPart 26 = .ok (.iconst 1, 1) := by decide +kernel
theorem dX2_hasPart_27 : decode cX2_hasPart 27 = .ok (.goto 4, 3) := by decide +kernel
theorem dX2_hasPart_30 : decode cX2_hasPart 30 = .ok (.iconst 0, 1) := by decide +kernel
theorem dX2_hasPart_31 : decode cX2_hasPart 31 = .ok (.ireturn, 1) := by decide +kernel
theorem dX2_store_0 : decode cX2_store 0 = .ok (.aload_n 0, 1) := by decide +kernel
theorem dX2_store_1 : decode cX2_store 1 = .ok (.getfield 19, 3) := by decide +kernel
theorem dX2_store_4 : decode cX2_store 4 = .ok (.ifCond .ne 14, 3) := by decide +kernel
theorem dX2_store_7 : decode cX2_store 7 = .ok (.aload_n 0, 1) := by decide +kernel
theorem dX2_store_8 : decode cX2_store 8 = .ok (.getfield 15, 3) := by decide +kernel
theorem dX2_store_11 : decode cX2_store 11 = .ok (.iload_n 1, 1) := by decide +kernel
theorem dX2_store_12 : decode cX2_store 12 = .ok (.iload_n 2, 1) := by decide +kernel
theorem dX2_store_13 : decode cX2_store 13 = .ok (.i2b, 1) := by decide +kernel
theorem dX2_store_14 : decode cX2_store 14 = .ok (.iastore, 1) := by decide +kernel
theorem dX2_store_15 : decode cX2_store 15 = .ok (.goto 29, 3) := by decide +kernel
theorem dX2_store_18 : decode cX2_store 18 = .ok (.aload_n 0, 1) := by decide +kernel
theorem dX2_store_19 : decode cX2_store 19 = .ok (.getfield 19, 3) := by decide +kernel
theorem dX2_store_22 : decode cX2_store 22 = .ok (.iconst 1, 1) := by decide +kernel
theorem dX2_store_23 : decode cX2_store 23 = .ok (.if_icmp .ne 14, 3) := by decide +kernel
theorem dX2_store_26 : decode cX2_store 26 = .ok (.aload_n 0, 1) := by decide +kernel
theorem dX2_store_27 : decode cX2_store 27 = .ok (.getfield 15, 3) := by decide +kernel
theorem dX2_store_30 : decode cX2_store 30 = .ok (.iload_n 1, 1) := by decide +kernel
theorem dX2_store_31 : decode cX2_store 31 = .ok (.iload_n 2, 1) := by decide +kernel
theorem dX2_store_32 : decode cX2_store 32 = .ok (.i2s, 1) := by decide +kernel
theorem dX2_store_33 : decode cX2_store 33 = .ok (.iastore, 1) := by decide +kernel
theorem dX2_store_34 : decode cX2_store 34 = .ok (.goto 10, 3) := by decide +kernel
theorem dX2_store_37 : decode cX2_store 37 = .ok (.aload_n 0, 1) := by decide +kernel
theorem dX2_store_38 : decode cX2_store 38 = .ok (.getfield 15, 3) := by decide +kernel
theorem dX2_store_41 : decode cX2_store 41 = .ok (.iload_n 1, 1) := by decide +kernel
theorem dX2_store_42 : decode cX2_store 42 = .ok (.iload_n 2, 1) := by decide +kernel
theorem dX2_store_43 : decode cX2_store 43 = .ok (.iastore, 1) := by decide +kernel
theorem dX2_store_44 : decode cX2_store 44 = .ok (.return_, 1) := by decide +kernel
end
section
/-! the instructions, decoded -/
theorem dX3_init_0 : decode cX3_init 0 = .ok (.aload_n 0, 1) := by decide +kernel
theorem dX3_init_1 : decode cX3_init 1 = .ok (.invokespecial 3, 3) := by decide +kernel
theorem dX3_init_4 : decode cX3_init 4 = .ok (.aload_n 0, 1) := by decide +kernel
theorem dX3_init_5 : decode cX3_init 5 = .ok (.bipush 7, 2) := by decide +kernel
theorem dX3_init_7 : decode cX3_init 7 = .ok (.newarray .int, 2) := by decide +kernel
theorem dX3_init_9 : decode cX3_init 9 = .ok (.putfield 9, 3) := by decide +kernel
theorem dX3_init_12 : decode cX3_init 12 = .ok (.aload_n 0, 1) := by decide +kernel
theorem dX3_init_13 : decode cX3_init 13 = .ok (.bipush 7, 2) := by decide +kernel
theorem dX3_init_15 : decode cX3_init 15 = .ok (.newarray .int, 2) := by decide +kernel
theorem dX3_init_17 : decode cX3_init 17 = .ok (.putfield 15, 3) := by decide +kernel
theorem dX3_init_20 : decode cX3_init 20 = .ok (.aload_n 0, 1) := by decide +kernel
theorem dX3_init_21 : decode cX3_init 21 = .ok (.bipush 7, 2) := by decide +kernel
theorem dX3_init_23 : decode cX3_init 23 = .ok (.newarray .int, 2) := by decide +kernel
theorem dX3_init_25 : decode cX3_init 25 = .ok (.putfield 18, 3) := by decide +kernel
theorem dX3_init_28 : decode cX3_init 28 = .ok (.aload_n 0, 1) := by decide +kernel
theorem dX3_init_29 : decode cX3_init 29 = .ok (.iconst 5, 1) := by decide +kernel
theorem dX3_init_30 : decode cX3_init 30 = .ok (.bipush 17, 2) := by decide +kernel
theorem dX3_init_32 : decode cX3_init 32 = .ok (.multianewarray 21 2, 4) := by decide +kernel
theorem dX3_init_36 : decode cX3_init 36 = .ok (.putfield 23, 3) := by decide +kernel
theorem dX3_init_39 : decode cX3_init 39 = .ok (.aload_n 0, 1) := by decide +kernel
theorem dX3_init_40 : decode cX3_init 40 = .ok (.iconst 0, 1) := by decide +kernel
theorem dX3_init_41 : decode cX3_init 41 = .ok (.newarray .long, 2) := by decide +kernel
theorem dX3_init_43 : decode cX3_init 43 = .ok (.putfield 26, 3) := by decide +kernel
theorem dX3_init_46 : decode cX3_init 46 = .ok (.aload_n 0, 1) := by decide +kernel
theorem dX3_init_47 : decode cX3_init 47 = .ok (.aload_n 1, 1) := by decide +kernel
theorem dX3_init_48 : decode cX3_init 48 = .ok (.putfield 30, 3) := by decide +kernel
theorem dX3_init_51 : decode cX3_init 51 = .ok (.return_, 1) := by decide +kernel
theorem dX3_forget_0 : decode cX3_forget 0 = .ok (.aload_n 0, 1) := by decide +kernel
theorem dX3_forget_1 : decode cX3_forget 1 = .ok (.iconst 0, 1) := by decide +kernel
theorem dX3_forget_2 : decode cX3_forget 2 = .ok (.putfield 34, 3) := by decide +kernel
theorem dX3_forget_5 : decode cX3_forget 5 = .ok (.return_, 1) := by decide +kernel
theorem dX3_prepare_0 : decode cX3_prepare 0 = .ok (.aload_n 0, 1) := by decide +kernel
theorem dX3_prepare_1 : decode cX3_prepare 1 = .ok (.getfield 34, 3) := by decide +kernel
theorem dX3_prepare_4 : decode cX3_prepare 4 = .ok (.ifCond .eq 4, 3) := by decide +kernel
theorem dX3_prepare_7 : decode cX3_prepare 7 = .ok (.return_, 1) := by decide +kernel
theorem dX3_prepare_8 : decode cX3_prepare 8 = .ok (.iconst 2, 1) := by decide +kernel
theorem dX3_prepare_9 : decode cX3_prepare 9 = .ok (.aload_n 0, 1) := by decide +kernel
theorem dX3_prepare_10 : decode cX3_prepare 10 = .ok (.getfield 30, 3) := by decide +kernel
theorem dX3_prepare_13 : decode cX3_prepare 13 = .ok (.getfield 38, 3) := by decide +kernel
theorem dX3_prepare_16 : decode cX3_prepare 16 = .ok (.ishl, 1) := by decide +kernel
theorem dX3_prepare_17 : decode cX3_prepare 17 = .ok (.iconst 1, 1) := by decide +kernel
theorem dX3_prepare_18 : decode cX3_prepare 18 = .ok (.isub, 1) := by decide +kernel
theorem dX3_prepare_19 : decode cX3_prepare 19 = .ok (.istore_n 1, 1) := by decide +kernel
theorem dX3_prepare_20 : decode cX3_prepare 20 = .ok (.iconst 1, 1) := by decide +kernel
theorem dX3_prepare_21 : decode cX3_prepare 21 = .ok (.istore_n 2, 1) := by decide +kernel
theorem dX3_prepare_22 : decode cX3_prepare 22 = .ok (.iconst 0, 1) := by decide +kernel
theorem dX3_prepare_23 : decode cX3_prepare 23 = .ok (.istore_n 3, 1) := by decide +kernel
theorem dX3_prepare_24 : decode cX3_prepare 24 = .ok (.iload_n 3, 1) := by decide +kernel
theorem dX3_prepare_25 : decode cX3_prepare 25 = .ok (.aload_n 0, 1) := by decide +kernel
theorem dX3_prepare_26 : decode cX3_prepare 26 = .ok (.getfield 30, 3) := by decide +kernel
theorem dX3_prepare_29 : decode cX3_prepare 29 = .ok (.getfield 44, 3) := by decide +kernel
theorem dX3_prepare_32 : decode cX3_prepare 32 = .ok (.if_icmp .ge 20, 3) := by decide +kernel
theorem dX3_prepare_35 : decode cX3_prepare 35 = .ok (.aload_n 0, 1) := by decide +kernel
theorem dX3_prepare_36 : decode cX3_prepare 36 = .ok (.getfield 9, 3) := by decide +kernel
theorem dX3_prepare_39 : decode cX3_prepare 39 = .ok (.iload_n 3, 1) := by decide +kernel
theorem dX3_prepare_40 : decode cX3_prepare 40 = .ok (.iload_n 2, 1) := by decide +kernel
theorem dX3_prepare_41 : decode cX3_prepare 41 = .ok (.iastore, 1) := by decide +kernel
theorem dX3_prepare_42 : decode cX3_prepare 42 = .ok (.iload_n 2, 1) := by decide +kernel
theorem dX3_prepare_43 : decode cX3_prepare 43 = .ok (.iload_n 1, 1) := by decide +kernel
theorem dX3_prepare_44 : decode cX3_prepare 44 = .ok (.imul, 1) := by decide +kernel
theorem dX3_prepare_45 : decode cX3_prepare 45 = .ok (.istore_n 2, 1) := by decide +kernel
theorem dX3_prepare_46 : decode cX3_prepare 46 = .ok (.iinc 3 1, 3) := by decide +kernel
theorem dX3_prepare_49 : decode cX3_prepare 49 = .ok (.goto (-25), 3) := by decide +kernel
theorem dX3_prepare_52 : decode cX3_prepare 52 = .ok (.iload_n 2, 1) := by decide +kernel
theorem dX3_prepare_53 : decode cX3_prepare 53 = .ok (.bipush 7, 2) := by decide +kernel
theorem dX3_prepare_55 : decode cX3_prepare 55 = .ok (.iadd, 1) := by decide +kernel
theorem dX3_prepare_56 : decode cX3_prepare 56 = .ok (.iconst 3, 1) := by decide +kernel
theorem dX3_prepare_57 : decode cX3_prepare 57 = .ok (.ishr, 1) := by decide +kernel
theorem dX3_prepare_58 : decode cX3_prepare 58 = .ok (.istore_n 3, 1) := by decide +kernel
theorem dX3_prepare_59 : decode cX3_prepare 59 = .ok (.iload_n 3, 1) := by decide +kernel
theorem dX3_prepare_60 : decode cX3_prepare 60 = .ok (.aload_n 0, 1) := by decide +kernel
theorem dX3_prepare_61 : decode cX3_prepare 61 = .ok (.getfield 26, 3) := by decide +kernel
theorem dX3_prepare_64 : decode cX3_prepare 64 = .ok (.arraylength, 1) := by decide +kernel
theorem dX3_prepare_65 : decode cX3_prepare 65 = .ok (.if_icmp .le 13, 3) := by decide +kernel
theorem dX3_prepare_68 : decode cX3_prepare 68 = .ok (.aload_n 0, 1) := by decide +kernel
theorem dX3_prepare_69 : decode cX3_prepare 69 = .ok (.iload_n 3, 1) := by decide +kernel
theorem dX3_prepare_70 : decode cX3_prepare 70 = .ok (.newarray .long, 2) := by decide +kernel
theorem dX3_prepare_72 : decode cX3_prepare 72 = .ok (.putfield 26, 3) := by decide +kernel
theorem dX3_prepare_75 : decode cX3_prepare 75 = .ok (.goto 13, 3) := by decide +kernel
theorem dX3_prepare_78 : decode cX3_prepare 78 = .ok (.aload_n 0, 1) := by decide +kernel
theorem dX3_prepare_79 : decode cX3_prepare 79 = .ok (.getfield 26, 3) := by decide +kernel
theorem dX3_prepare_82 : decode cX3_prepare 82 = .ok (.iconst 0, 1) := by decide +kernel
theorem dX3_prepare_83 : decode cX3_prepare 83 = .ok (.iload_n 3, 1) := by decide +kernel
theorem dX3_prepare_84 : decode cX3_prepare 84 = .ok (.lconst 0, 1) := by decide +kernel
theorem dX3_prepare_85 : decode cX3_prepare 85 = .ok (.invokestatic 47, 3) := by decide +kernel
theorem dX3_prepare_88 : decode cX3_prepare 88 = .ok (.iconst 0, 1) := by decide +kernel
theorem dX3_prepare_89 : decode cX3_prepare 89 = .ok (.istore 4, 2) := by decide +kernel
theorem dX3_prepare_91 : decode cX3_prepare 91 = .ok (.iload 4, 2) := by decide +kernel
theorem dX3_prepare_93 : decode cX3_prepare 93 = .ok (.iconst 5, 1) := by decide +kernel
theorem dX3_prepare_94 : decode cX3_prepare 94 = .ok (.if_icmp .ge 20, 3) := by decide +kernel
theorem dX3_prepare_97 : decode cX3_prepare 97 = .ok (.aload_n 0, 1) := by decide +kernel
theorem dX3_prepare_98 : decode cX3_prepare 98 = .ok (.getfield 23, 3) := by decide +kernel
theorem dX3_prepare_101 : decode cX3_prepare 101 = .ok (.iload 4, 2) := by decide +kernel
theorem dX3_prepare_103 : decode cX3_prepare 103 = .ok (.aaload, 1) := by decide +kernel
theorem dX3_prepare_104 : decode cX3_prepare 104 = .ok (.iconst 0, 1) := by decide +kernel
theorem dX3_prepare_105 : decode cX3_prepare 105 = .ok (.invokestatic 53, 3) := by decide +kernel
theorem dX3_prepare_108 : decode cX3_prepare 108 = .ok (.iinc 4 1, 3) := by decide +kernel
theorem dX3_prepare_111 : decode cX3_prepare 111 = .ok (.goto (-20), 3) := by decide +kernel
theorem dX3_prepare_114 : decode cX3_prepare 114 = .ok (.aload_n 0, 1) := by decide +kernel
theorem dX3_prepare_115 : decode cX3_prepare 115 = .ok (.iconst 1, 1) := by decide +kernel
theorem dX3_prepare_116 : decode cX3_prepare 116 = .ok (.putfield 34, 3) := by decide +kernel
theorem dX3_prepare_119 : decode cX3_prepare 119 = .ok (.return_, 1) := by decide +kernel
theorem dX3_startEmpty_0 : decode cX3_startEmpty 0 = .ok (.aload_n 0, 1) := by decide +kernel
theorem dX3_startEmpty_1 : decode cX3_startEmpty 1 = .ok (.invokevirtual 56, 3) := by decide +kernel
theorem dX3_startEmpty_4 : decode cX3_startEmpty 4 = .ok (.aload_n 0, 1) := by decide +kernel
theorem dX3_startEmpty_5 : decode cX3_startEmpty 5 = .ok (.getfield 15, 3) := by decide +kernel
theorem dX3_startEmpty_8 : decode cX3_startEmpty 8 = .ok (.iconst 1, 1) := by decide +kernel
theorem dX3_startEmpty_9 : decode cX3_startEmpty 9 = .ok (.invokestatic 53, 3) := by decide +kernel
theorem dX3_startEmpty_12 : decode cX3_startEmpty 12 = .ok (.aload_n 0, 1) := by decide +kernel
theorem dX3_startEmpty_13 : decode cX3_startEmpty 13 = .ok (.getfield 18, 3) := by decide +kernel
theorem dX3_startEmpty_16 : decode cX3_startEmpty 16 = .ok (.iconst 0, 1) := by decide +kernel
theorem dX3_startEmpty_17 : decode cX3_startEmpty 17 = .ok (.invokestatic 53, 3) := by decide +kernel
theorem dX3_startEmpty_20 : decode cX3_startEmpty 20 = .ok (.aload_n 0, 1) := by decide +kernel
theorem dX3_startEmpty_21 : decode cX3_startEmpty 21 = .ok (.iconst 0, 1) := by decide +kernel
theorem dX3_startEmpty_22 : decode cX3_startEmpty 22 = .ok (.putfield 59, 3) := by decide +kernel
theorem dX3_startEmpty_25 : decode cX3_startEmpty 25 = .ok (.aload_n 0, 1) := by decide +kernel
theorem dX3_startEmpty_26 : decode cX3_startEmpty 26 = .ok (.iconst 0, 1) := by decide +kernel
theorem dX3_startEmpty_27 : decode cX3_startEmpty 27 = .ok (.putfield 62, 3) := by decide +kernel
theorem dX3_startEmpty_30 : decode cX3_startEmpty 30 = .ok (.aload_n 0, 1) := by decide +kernel
theorem dX3_startEmpty_31 : decode cX3_startEmpty 31 = .ok (.iconst 0, 1) := by decide +kernel
theorem dX3_startEmpty_32 : decode cX3_startEmpty 32 = .ok (.putfield 65, 3) := by decide +kernel
theorem dX3_startEmpty_35 : decode cX3_startEmpty 35 = .ok (.aload_n 0, 1) := by decide +kernel
theorem dX3_startEmpty_36 : decode cX3_startEmpty 36 = .ok (.iconst 0, 1) := by decide +kernel
theorem dX3_startEmpty_37 : decode cX3_startEmpty 37 = .ok (.putfield 68, 3) := by decide +kernel
theorem dX3_startEmpty_40 : decode cX3_startEmpty 40 = .ok (.aload_n 0, 1) := by decide +kernel
theorem dX3_startEmpty_41 : decode cX3_startEmpty 41 = .ok (.iconst 0, 1) := by decide +kernel
theorem dX3_startEmpty_42 : decode cX3_startEmpty 42 = .ok (.putfield 71, 3) := by decide +kernel
theorem dX3_startEmpty_45 : decode cX3_startEmpty 45 = .ok (.return_, 1) := by decide +kernel
theorem dX3_start_0 : decode cX3_start 0 = .ok (.aload_n 0, 1) := by decide +kernel
theorem dX3_start_1 : decode cX3_start 1 = .ok (.invokevirtual 74, 3) := by decide +kernel
theorem dX3_start_4 : decode cX3_start 4 = .ok (.iconst 0, 1) := by decide +kernel
theorem dX3_start_5 : decode cX3_start 5 = .ok (.istore_n 2, 1) := by decide +kernel
theorem dX3_start_6 : decode cX3_start 6 = .ok (.iload_n 2, 1) := by decide +kernel
theorem dX3_start_7 : decode cX3_start 7 = .ok (.aload_n 1, 1) := by decide +kernel
theorem dX3_start_8 : decode cX3_start 8 = .ok (.getfield 77, 3) := by decide +kernel
theorem dX3_start_11 : decode cX3_start 11 = .ok (.if_icmp .ge 95, 3) := by decide +kernel
theorem dX3_start_14 : decode cX3_start 14 = .ok (.aload_n 1, 1) := by decide +kernel
theorem dX3_start_15 : decode cX3_start 15 = .ok (.getfield 82, 3) := by decide +kernel
theorem dX3_start_18 : decode cX3_start 18 = .ok (.iload_n 2, 1) := by decide +kernel
theorem dX3_start_19 : decode cX3_start 19 = .ok (.iaload, 1) := by decide +kernel
theorem dX3_start_20 : decode cX3_start 20 = .ok (.istore_n 3, 1) := by decide +kernel
theorem dX3_start_21 : decode cX3_start 21 = .ok (.aload_n 0, 1) := by decide +kernel
theorem dX3_start_22 : decode cX3_start 22 = .ok (.getfield 15, 3) := by decide +kernel
theorem dX3_start_25 : decode cX3_start 25 = .ok (.iload_n 3, 1) := by decide +kernel
theorem dX3_start_26 : decode cX3_start 26 = .ok (.iaload, 1) := by decide +kernel
theorem dX3_start_27 : decode cX3_start 27 = .ok (.iload_n 2, 1) := by decide +kernel
theorem dX3_start_28 : decode cX3_start 28 = .ok (.iconst 1, 1) := by decide +kernel
theorem dX3_start_29 : decode cX3_start 29 = .ok (.iand, 1) := by decide +kernel
theorem dX3_start_30 : decode cX3_start 30 = .ok (.iadd, 1) := by decide +kernel
theorem dX3_start_31 : decode cX3_start 31 = .ok (.istore 4, 2) := by decide +kernel
theorem dX3_start_33 : decode cX3_start 33 = .ok (.aload_n 0, 1) := by decide +kernel
theorem dX3_start_34 : decode cX3_start 34 = .ok (.dup, 1) := by decide +kernel
theorem dX3_start_35 : decode cX3_start 35 = .ok (.getfield 65, 3) := by decide +kernel
theorem dX3_start_38 : decode cX3_start 38 = .ok (.iload 4, 2) := by decide +kernel
theorem dX3_start_40 : decode cX3_start 40 = .ok (.aload_n 0, 1) := by decide +kernel
theorem dX3_start_41 : decode cX3_start 41 = .ok (.getfield 9, 3) := by decide +kernel
theorem dX3_start_44 : decode cX3_start 44 = .ok (.iload_n 3, 1) := by decide +kernel
theorem dX3_start_45 : decode cX3_start 45 = .ok (.iaload, 1) := by decide +kernel
theorem dX3_start_46 : decode cX3_start 46 = .ok (.imul, 1) := by decide +kernel
theorem dX3_start_47 : decode cX3_start 47 = .ok (.iadd, 1) := by decide +kernel
theorem dX3_start_48 : decode cX3_start 48 = .ok (.putfield 65, 3) := by decide +kernel
theorem dX3_start_51 : decode cX3_start 51 = .ok (.aload_n 0, 1) := by decide +kernel
theorem dX3_start_52 : decode cX3_start 52 = .ok (.dup, 1) := by decide +kernel
theorem dX3_start_53 : decode cX3_start 53 = .ok (.getfield 68, 3) := by decide +kernel
theorem dX3_start_56 : decode cX3_start 56 = .ok (.iload 4, 2) := by decide +kernel
theorem dX3_start_58 : decode cX3_start 58 = .ok (.aload_n 0, 1) := by decide +kernel
theorem dX3_start_59 : decode cX3_start 59 = .ok (.getfield 9, 3) := by decide +kernel
theorem dX3_start_62 : decode cX3_start 62 = .ok (.aload_n 0, 1) := by decide +kernel
theorem dX3_start_63 : decode cX3_start 63 = .ok (.getfield 30, 3) := by decide +kernel
theorem dX3_start_66 : decode cX3_start 66 = .ok (.getfield 44, 3) := by decide +kernel
theorem dX3_start_69 : decode cX3_start 69 = .ok (.iconst 1, 1) := by decide +kernel
theorem dX3_start_70 : decode cX3_start 70 = .ok (.isub, 1) := by decide +kernel
theorem dX3_start_71 : decode cX3_start 71 = .ok (.iload_n 3, 1) := by decide +kernel
theorem dX3_start_72 : decode cX3_start 72 = .ok (.isub, 1) := by decide +kernel
theorem dX3_start_73 : decode cX3_start 73 = .ok (.iaload, 1) := by decide +kernel
theorem dX3_start_74 : decode cX3_start 74 = .ok (.imul, 1) := by decide +kernel
theorem dX3_start_75 : decode cX3_start 75 = .ok (.iadd, 1) := by decide +kernel
theorem dX3_start_76 : decode cX3_start 76 = .ok (.putfield 68, 3) := by decide +kernel
theorem dX3_start_79 : decode cX3_start 79 = .ok (.aload_n 0, 1) := by decide +kernel
theorem dX3_start_80 : decode cX3_start 80 = .ok (.getfield 15, 3) := by decide +kernel
theorem dX3_start_83 : decode cX3_start 83 = .ok (.iload_n 3, 1) := by decide +kernel
theorem dX3_start_84 : decode cX3_start 84 = .ok (.dup2, 1) := by decide +kernel
theorem dX3_start_85 : decode cX3_start 85 = .ok (.iaload, 1) := by decide +kernel
theorem dX3_start_86 : decode cX3_start 86 = .ok (.iload 4, 2) := by decide +kernel
theorem dX3_start_88 : decode cX3_start 88 = .ok (.iadd, 1) := by decide +kernel
theorem dX3_start_89 : decode cX3_start 89 = .ok (.iastore, 1) := by decide +kernel
theorem dX3_start_90 : decode cX3_start 90 = .ok (.aload_n 0, 1) := by decide +kernel
theorem dX3_start_91 : decode cX3_start 91 = .ok (.getfield 18, 3) := by decide +kernel
theorem dX3_start_94 : decode cX3_start 94 = .ok (.iload_n 3, 1) := by decide +kernel
theorem dX3_start_95 : decode cX3_start 95 = .ok (.dup2, 1) := by decide +kernel
theorem dX3_start_96 : decode cX3_start 96 = .ok (.iaload, 1) := by decide +kernel
theorem dX3_start_97 : decode cX3_start 97 = .ok (.iconst 1, 1) := by decide +kernel
theorem dX3_start_98 : decode cX3_start 98 = .ok (.iadd, 1) := by decide +kernel
theorem dX3_start_99 : decode cX3_start 99 = .ok (.iastore, 1) := by decide +kernel
theorem dX3_start_100 : decode cX3_start 100 = .ok (.iinc 2 1, 3) := by decide +kernel
theorem dX3_start_103 : decode cX3_start 103 = .ok (.goto (-97), 3) := by decide +kernel
theorem dX3_start_106 : decode cX3_start 106 = .ok (.aload_n 0, 1) := by decide +kernel
theorem dX3_start_107 : decode cX3_start 107 = .ok (.aload_n 1, 1) := by decide +kernel
theorem dX3_start_108 : decode cX3_start 108 = .ok (.getfield 85, 3) := by decide +kernel
theorem dX3_start_111 : decode cX3_start 111 = .ok (.aload_n 1, 1) := by decide +kernel
theorem dX3_start_112 : decode cX3_start 112 = .ok (.invokevirtual 88, 3) := by decide +kernel
theorem dX3_start_115 : decode cX3_start 115 = .ok (.iaload, 1) := by decide +kernel
theorem dX3_start_116 : decode cX3_start 116 = .ok (.putfield 59, 3) := by decide +kernel
theorem dX3_start_119 : decode cX3_start 119 = .ok (.aload_n 0, 1) := by decide +kernel
theorem dX3_start_120 : decode cX3_start 120 = .ok (.aload_n 1, 1) := by decide +kernel
theorem dX3_start_121 : decode cX3_start 121 = .ok (.getfield 85, 3) := by decide +kernel
theorem dX3_start_124 : decode cX3_start 124 = .ok (.iconst 1, 1) := by decide +kernel
theorem dX3_start_125 : decode cX3_start 125 = .ok (.aload_n 1, 1) := by decide +kernel
theorem dX3_start_126 : decode cX3_start 126 = .ok (.invokevirtual 88, 3) := by decide +kernel
theorem dX3_start_129 : decode cX3_start 129 = .ok (.isub, 1) := by decide +kernel
theorem dX3_start_130 : decode cX3_start 130 = .ok (.iaload, 1) := by decide +kernel
theorem dX3_start_131 : decode cX3_start 131 = .ok (.putfield 62, 3) := by decide +kernel
theorem dX3_start_134 : decode cX3_start 134 = .ok (.aload_n 0, 1) := by decide +kernel
theorem dX3_start_135 : decode cX3_start 135 = .ok (.aload_n 1, 1) := by decide +kernel
theorem dX3_start_136 : decode cX3_start 136 = .ok (.getfield 77, 3) := by decide +kernel
theorem dX3_start_139 : decode cX3_start 139 = .ok (.putfield 71, 3) := by decide +kernel
theorem dX3_start_142 : decode cX3_start 142 = .ok (.return_, 1) := by decide +kernel
theorem dX3_worthOfStart_0 : decode cX3_worthOfStart 0 = .ok (.aload_n 0, 1) := by decide +kernel
theorem dX3_worthOfStart_1 : decode cX3_worthOfStart 1 = .ok (.aload_n 0, 1) := by decide +kernel
theorem dX3_worthOfStart_2 : decode cX3_worthOfStart 2 = .ok (.getfield 59, 3) := by decide +kernel
theorem dX3_worthOfStart_5 : decode cX3_worthOfStart 5 = .ok (.aload_n 0, 1) := by decide +kernel
theorem dX3_worthOfStart_6 : decode cX3_worthOfStart 6 = .ok (.getfield 62, 3) := by decide +kernel
theorem dX3_worthOfStart_9 : decode cX3_worthOfStart 9 = .ok (.aload_n 0, 1) := by decide +kernel
theorem dX3_worthOfStart_10 : decode cX3_worthOfStart 10 = .ok (.getfield 65, 3) := by decide +kernel
theorem dX3_worthOfStart_13 : decode cX3_worthOfStart 13 = .ok (.aload_n 0, 1) := by decide +kernel
theorem dX3_worthOfStart_14 : decode cX3_worthOfStart 14 = .ok (.getfield 68, 3) := by decide +kernel
theorem dX3_worthOfStart_17 : decode cX3_worthOfStart 17 = .ok (.aload_n 0, 1) := by decide +kernel
theorem dX3_worthOfStart_18 : decode cX3_worthOfStart 18 = .ok (.getfield 71, 3) := by decide +kernel
theorem dX3_worthOfStart_21 : decode cX3_worthOfStart 21 = .ok (.invokevirtual 92, 3) := by decide +kernel
theorem dX3_worthOfStart_24 : decode cX3_worthOfStart 24 = .ok (.ireturn, 1) := by decide +kernel
theorem dX3_worthOfMove_0 : decode cX3_worthOfMove 0 = .ok (.aload_n 0, 1) := by decide +kernel
theorem dX3_worthOfMove_1 : decode cX3_worthOfMove 1 = .ok (.iload_n 1, 1) := by decide +kernel
theorem dX3_worthOfMove_2 : decode cX3_worthOfMove 2 = .ok (.aload_n 0, 1) := by decide +kernel
theorem dX3_worthOfMove_3 : decode cX3_worthOfMove 3 = .ok (.getfield 59, 3) := by decide +kernel
theorem dX3_worthOfMove_6 : decode cX3_worthOfMove 6 = .ok (.aload_n 0, 1) := by decide +kernel
theorem dX3_worthOfMove_7 : decode cX3_worthOfMove 7 = .ok (.getfield 62, 3) := by decide +kernel
theorem dX3_worthOfMove_10 : decode cX3_worthOfMove 10 = .ok (.aload_n 0, 1) := by decide +kernel
theorem dX3_worthOfMove_11 : decode cX3_worthOfMove 11 = .ok (.getfield 65, 3) := by decide +kernel
theorem dX3_worthOfMove_14 : decode cX3_worthOfMove 14 = .ok (.aload_n 0, 1) := by decide +kernel
theorem dX3_worthOfMove_15 : decode cX3_worthOfMove 15 = .ok (.getfield 68, 3) := by decide +kernel
theorem dX3_worthOfMove_18 : decode cX3_worthOfMove 18 = .ok (.aload_n 0, 1) := by decide +kernel
theorem dX3_worthOfMove_19 : decode cX3_worthOfMove 19 = .ok (.getfield 71, 3) := by decide +kernel
theorem dX3_worthOfMove_22 : decode cX3_worthOfMove 22 = .ok (.invokevirtual 96, 3) := by decide +kernel
theorem dX3_worthOfMove_25 : decode cX3_worthOfMove 25 = .ok (.ireturn, 1) := by decide +kernel
theorem dX3_tally_0 : decode cX3_tally 0 = .ok (.aload_n 0, 1) := by decide +kernel
theorem dX3_tally_1 : decode cX3_tally 1 = .ok (.invokevirtual 74, 3) := by decide +kernel
theorem dX3_tally_4 : decode cX3_tally 4 = .ok (.aload_n 0, 1) := by decide +kernel
theorem dX3_tally_5 : decode cX3_tally 5 = .ok (.invokevirtual 100, 3) := by decide +kernel
theorem dX3_tally_8 : decode cX3_tally 8 = .ok (.pop, 1) := by decide +kernel
theorem dX3_tally_9 : decode cX3_tally 9 = .ok (.iload_n 1, 1) := by decide +kernel
theorem dX3_tally_10 : decode cX3_tally 10 = .ok (.iconst 0, 1) := by decide +kernel
theorem dX3_tally_11 : decode cX3_tally 11 = .ok (.iconst 4, 1) := by decide +kernel
theorem dX3_tally_12 : decode cX3_tally 12 = .ok (.invokestatic 103, 3) := by decide +kernel
theorem dX3_tally_15 : decode cX3_tally 15 = .ok (.ifCond .eq 24, 3) := by decide +kernel
theorem dX3_tally_18 : decode cX3_tally 18 = .ok (.iload_n 2, 1) := by decide +kernel
theorem dX3_tally_19 : decode cX3_tally 19 = .ok (.iconst 0, 1) := by decide +kernel
theorem dX3_tally_20 : decode cX3_tally 20 = .ok (.bipush 16, 2) := by decide +kernel
theorem dX3_tally_22 : decode cX3_tally 22 = .ok (.invokestatic 103, 3) := by decide +kernel
theorem dX3_tally_25 : decode cX3_tally 25 = .ok (.ifCond .eq 14, 3) := by decide +kernel
theorem dX3_tally_28 : decode cX3_tally 28 = .ok (.aload_n 0, 1) := by decide +kernel
theorem dX3_tally_29 : decode cX3_tally 29 = .ok (.getfield 23, 3) := by decide +kernel
theorem dX3_tally_32 : decode cX3_tally 32 = .ok (.iload_n 1, 1) := by decide +kernel
theorem dX3_tally_33 : decode cX3_tally 33 = .ok (.aaload, 1) := by decide +kernel
theorem dX3_tally_34 : decode cX3_tally 34 = .ok (.iload_n 2, 1) := by decide +kernel
theorem dX3_tally_35 : decode cX3_tally 35 = .ok (.iaload, 1) := by decide +kernel
theorem dX3_tally_36 : decode cX3_tally 36 = .ok (.goto 4, 3) := by decide +kernel
theorem dX3_tally_39 : decode cX3_tally 39 = .ok (.iconst 0, 1) := by decide +kernel
theorem dX3_tally_40 : decode cX3_tally 40 = .ok (.ireturn, 1) := by decide +kernel
theorem dX3_search_0 : decode cX3_search 0 = .ok (.aload_n 0, 1) := by decide +kernel
theorem dX3_search_1 : decode cX3_search 1 = .ok (.iload_n 3, 1) := by decide +kernel
theorem dX3_search_2 : decode cX3_search 2 = .ok (.iload 4, 2) := by decide +kernel
theorem dX3_search_4 : decode cX3_search 4 = .ok (.invokestatic 107, 3) := by decide +kernel
theorem dX3_search_7 : decode cX3_search 7 = .ok (.invokevirtual 113, 3) := by decide +kernel
theorem dX3_search_10 : decode cX3_search 10 = .ok (.istore 6, 2) := by decide +kernel
theorem dX3_search_12 : decode cX3_search 12 = .ok (.iload 6, 2) := by decide +kernel
theorem dX3_search_14 : decode cX3_search 14 = .ok (.ifCond .eq 9, 3) := by decide +kernel
theorem dX3_search_17 : decode cX3_search 17 = .ok (.iload 6, 2) := by decide +kernel
theorem dX3_search_19 : decode cX3_search 19 = .ok (.bipush 101, 2) := by decide +kernel
theorem dX3_search_21 : decode cX3_search 21 = .ok (.isub, 1) := by decide +kernel
theorem dX3_search_22 : decode cX3_search 22 = .ok (.ireturn, 1) := by decide +kernel
theorem dX3_search_23 : decode cX3_search 23 = .ok (.bipush (-100), 2) := by decide +kernel
theorem dX3_search_25 : decode cX3_search 25 = .ok (.istore 7, 2) := by decide +kernel
theorem dX3_search_27 : decode cX3_search 27 = .ok (.iconst 0, 1) := by decide +kernel
theorem dX3_search_28 : decode cX3_search 28 = .ok (.istore 8, 2) := by decide +kernel
theorem dX3_search_30 : decode cX3_search 30 = .ok (.iload 8, 2) := by decide +kernel
theorem dX3_search_32 : decode cX3_search 32 = .ok (.aload_n 0, 1) := by decide +kernel
theorem dX3_search_33 : decode cX3_search 33 = .ok (.getfield 30, 3) := by decide +kernel
theorem dX3_search_36 : decode cX3_search 36 = .ok (.getfield 44, 3) := by decide +kernel
theorem dX3_search_39 : decode cX3_search 39 = .ok (.if_icmp .ge 52, 3) := by decide +kernel
theorem dX3_search_42 : decode cX3_search 42 = .ok (.aload_n 0, 1) := by decide +kernel
theorem dX3_search_43 : decode cX3_search 43 = .ok (.getfield 18, 3) := by decide +kernel
theorem dX3_search_46 : decode cX3_search 46 = .ok (.iload 8, 2) := by decide +kernel
theorem dX3_search_48 : decode cX3_search 48 = .ok (.iaload, 1) := by decide +kernel
theorem dX3_search_49 : decode cX3_search 49 = .ok (.aload_n 0, 1) := by decide +kernel
theorem dX3_search_50 : decode cX3_search 50 = .ok (.getfield 30, 3) := by decide +kernel
theorem dX3_search_53 : decode cX3_search 53 = .ok (.getfield 38, 3) := by decide +kernel
theorem dX3_search_56 : decode cX3_search 56 = .ok (.if_icmp .ge 29, 3) := by decide +kernel
theorem dX3_search_59 : decode cX3_search 59 = .ok (.aload_n 0, 1) := by decide +kernel
theorem dX3_search_60 : decode cX3_search 60 = .ok (.iload 8, 2) := by decide +kernel
theorem dX3_search_62 : decode cX3_search 62 = .ok (.iload_n 1, 1) := by decide +kernel
theorem dX3_search_63 : decode cX3_search 63 = .ok (.iload_n 2, 1) := by decide +kernel
theorem dX3_search_64 : decode cX3_search 64 = .ok (.iload_n 3, 1) := by decide +kernel
theorem dX3_search_65 : decode cX3_search 65 = .ok (.iload 4, 2) := by decide +kernel
theorem dX3_search_67 : decode cX3_search 67 = .ok (.iload 5, 2) := by decide +kernel
theorem dX3_search_69 : decode cX3_search 69 = .ok (.invokevirtual 96, 3) := by decide +kernel
theorem dX3_search_72 : decode cX3_search 72 = .ok (.istore 9, 2) := by decide +kernel
theorem dX3_search_74 : decode cX3_search 74 = .ok (.iload 9, 2) := by decide +kernel
theorem dX3_search_76 : decode cX3_search 76 = .ok (.iload 7, 2) := by decide +kernel
theorem dX3_search_78 : decode cX3_search 78 = .ok (.if_icmp .le 7, 3) := by decide +kernel
theorem dX3_search_81 : decode cX3_search 81 = .ok (.iload 9, 2) := by decide +kernel
theorem dX3_search_83 : decode cX3_search 83 = .ok (.istore 7, 2) := by decide +kernel
theorem dX3_search_85 : decode cX3_search 85 = .ok (.iinc 8 1, 3) := by decide +kernel
theorem dX3_search_88 : decode cX3_search 88 = .ok (.goto (-58), 3) := by decide +kernel
theorem dX3_search_91 : decode cX3_search 91 = .ok (.aload_n 0, 1) := by decide +kernel
theorem dX3_search_92 : decode cX3_search 92 = .ok (.iload_n 3, 1) := by decide +kernel
theorem dX3_search_93 : decode cX3_search 93 = .ok (.iload 4, 2) := by decide +kernel
theorem dX3_search_95 : decode cX3_search 95 = .ok (.iload 5, 2) := by decide +kernel
theorem dX3_search_97 : decode cX3_search 97 = .ok (.iload 7, 2) := by decide +kernel
theorem dX3_search_99 : decode cX3_search 99 = .ok (.bipush 101, 2) := by decide +kernel
theorem dX3_search_101 : decode cX3_search 101 = .ok (.iadd, 1) := by decide +kernel
theorem dX3_search_102 : decode cX3_search 102 = .ok (.invokevirtual 117, 3) := by decide +kernel
theorem dX3_search_105 : decode cX3_search 105 = .ok (.iload 7, 2) := by decide +kernel
theorem dX3_search_107 : decode cX3_search 107 = .ok (.ireturn, 1) := by decide +kernel
theorem dX3_tryColumn_0 : decode cX3_tryColumn 0 = .ok (.aload_n 0, 1) := by decide +kernel
theorem dX3_tryColumn_1 : decode cX3_tryColumn 1 = .ok (.getfield 15, 3) := by decide +kernel
theorem dX3_tryColumn_4 : decode cX3_tryColumn 4 = .ok (.iload_n 1, 1) := by decide +kernel
theorem dX3_tryColumn_5 : decode cX3_tryColumn 5 = .ok (.iaload, 1) := by decide +kernel
theorem dX3_tryColumn_6 : decode cX3_tryColumn 6 = .ok (.istore 7, 2) := by decide +kernel
theorem dX3_tryColumn_8 : decode cX3_tryColumn 8 = .ok (.iload 7, 2) := by decide +kernel
theorem dX3_tryColumn_10 : decode cX3_tryColumn 10 = .ok (.iload 6, 2) := by decide +kernel
theorem dX3_tryColumn_12 : decode cX3_tryColumn 12 = .ok (.iconst 1, 1) := by decide +kernel
theorem dX3_tryColumn_13 : decode cX3_tryColumn 13 = .ok (.iand, 1) := by decide +kernel
theorem dX3_tryColumn_14 : decode cX3_tryColumn 14 = .ok (.iadd, 1) := by decide +kernel
theorem dX3_tryColumn_15 : decode cX3_tryColumn 15 = .ok (.istore 8, 2) := by decide +kernel
theorem dX3_tryColumn_17 : decode cX3_tryColumn 17 = .ok (.iload 4, 2) := by decide +kernel
theorem dX3_tryColumn_19 : decode cX3_tryColumn 19 = .ok (.iload 8, 2) := by decide +kernel
theorem dX3_tryColumn_21 : decode cX3_tryColumn 21 = .ok (.aload_n 0, 1) := by decide +kernel
theorem dX3_tryColumn_22 : decode cX3_tryColumn 22 = .ok (.getfield 9, 3) := by decide +kernel
theorem dX3_tryColumn_25 : decode cX3_tryColumn 25 = .ok (.iload_n 1, 1) := by decide +kernel
theorem dX3_tryColumn_26 : decode cX3_tryColumn 26 = .ok (.iaload, 1) := by decide +kernel
theorem dX3_tryColumn_27 : decode cX3_tryColumn 27 = .ok (.imul, 1) := by decide +kernel
theorem dX3_tryColumn_28 : decode cX3_tryColumn 28 = .ok (.iadd, 1) := by decide +kernel
theorem dX3_tryColumn_29 : decode cX3_tryColumn 29 = .ok (.istore 9, 2) := by decide +kernel
theorem dX3_tryColumn_31 : decode cX3_tryColumn 31 = .ok (.iload 5, 2) := by decide +kernel
theorem dX3_tryColumn_33 : decode cX3_tryColumn 33 = .ok (.iload 8, 2) := by decide +kernel
theorem dX3_tryColumn_35 : decode cX3_tryColumn 35 = .ok (.aload_n 0, 1) := by decide +kernel
theorem dX3_tryColumn_36 : decode cX3_tryColumn 36 = .ok (.getfield 9, 3) := by decide +kernel
theorem dX3_tryColumn_39 : decode cX3_tryColumn 39 = .ok (.aload_n 0, 1) := by decide +kernel
theorem dX3_tryColumn_40 : decode cX3_tryColumn 40 = .ok (.getfield 30, 3) := by decide +kernel
theorem dX3_tryColumn_43 : decode cX3_tryColumn 43 = .ok (.getfield 44, 3) := by decide +kernel
theorem dX3_tryColumn_46 : decode cX3_tryColumn 46 = .ok (.iconst 1, 1) := by decide +kernel
theorem dX3_tryColumn_47 : decode cX3_tryColumn 47 = .ok (.isub, 1) := by decide +kernel
theorem dX3_tryColumn_48 : decode cX3_tryColumn 48 = .ok (.iload_n 1, 1) := by decide +kernel
theorem dX3_tryColumn_49 : decode cX3_tryColumn 49 = .ok (.isub, 1) := by decide +kernel
theorem dX3_tryColumn_50 : decode cX3_tryColumn 50 = .ok (.iaload, 1) := by decide +kernel
theorem dX3_tryColumn_51 : decode cX3_tryColumn 51 = .ok (.imul, 1) := by decide +kernel
theorem dX3_tryColumn_52 : decode cX3_tryColumn 52 = .ok (.iadd, 1) := by decide +kernel
theorem dX3_tryColumn_53 : decode cX3_tryColumn 53 = .ok (.istore 10, 2) := by decide +kernel
theorem dX3_tryColumn_55 : decode cX3_tryColumn 55 = .ok (.aload_n 0, 1) := by decide +kernel
theorem dX3_tryColumn_56 : decode cX3_tryColumn 56 = .ok (.getfield 30, 3) := by decide +kernel
theorem dX3_tryColumn_59 : decode cX3_tryColumn 59 = .ok (.getfield 44, 3) := by decide +kernel
theorem dX3_tryColumn_62 : decode cX3_tryColumn 62 = .ok (.aload_n 0, 1) := by decide +kernel
theorem dX3_tryColumn_63 : decode cX3_tryColumn 63 = .ok (.getfield 18, 3) := by decide +kernel
theorem dX3_tryColumn_66 : decode cX3_tryColumn 66 = .ok (.iload_n 1, 1) := by decide +kernel
theorem dX3_tryColumn_67 : decode cX3_tryColumn 67 = .ok (.iaload, 1) := by decide +kernel
theorem dX3_tryColumn_68 : decode cX3_tryColumn 68 = .ok (.imul, 1) := by decide +kernel
theorem dX3_tryColumn_69 : decode cX3_tryColumn 69 = .ok (.iload_n 1, 1) := by decide +kernel
theorem dX3_tryColumn_70 : decode cX3_tryColumn 70 = .ok (.iadd, 1) := by decide +kernel
theorem dX3_tryColumn_71 : decode cX3_tryColumn 71 = .ok (.istore 11, 2) := by decide +kernel
theorem dX3_tryColumn_73 : decode cX3_tryColumn 73 = .ok (.iload_n 2, 1) := by decide +kernel
theorem dX3_tryColumn_74 : decode cX3_tryColumn 74 = .ok (.iconst 1, 1) := by decide +kernel
theorem dX3_tryColumn_75 : decode cX3_tryColumn 75 = .ok (.iload 11, 2) := by decide +kernel
theorem dX3_tryColumn_77 : decode cX3_tryColumn 77 = .ok (.ishl, 1) := by decide +kernel
theorem dX3_tryColumn_78 : decode cX3_tryColumn 78 = .ok (.ior, 1) := by decide +kernel
theorem dX3_tryColumn_79 : decode cX3_tryColumn 79 = .ok (.istore 12, 2) := by decide +kernel
theorem dX3_tryColumn_81 : decode cX3_tryColumn 81 = .ok (.aload_n 0, 1) := by decide +kernel
theorem dX3_tryColumn_82 : decode cX3_tryColumn 82 = .ok (.getfield 30, 3) := by decide +kernel
theorem dX3_tryColumn_85 : decode cX3_tryColumn 85 = .ok (.iload 11, 2) := by decide +kernel
theorem dX3_tryColumn_87 : decode cX3_tryColumn 87 = .ok (.iload 12, 2) := by decide +kernel
theorem dX3_tryColumn_89 : decode cX3_tryColumn 89 = .ok (.invokevirtual 121, 3) := by decide +kernel
theorem dX3_tryColumn_92 : decode cX3_tryColumn 92 = .ok (.ifCond .eq 21, 3) := by decide +kernel
theorem dX3_tryColumn_95 : decode cX3_tryColumn 95 = .ok (.aload_n 0, 1) := by decide +kernel
theorem dX3_tryColumn_96 : decode cX3_tryColumn 96 = .ok (.iload 9, 2) := by decide +kernel
theorem dX3_tryColumn_98 : decode cX3_tryColumn 98 = .ok (.iload 10, 2) := by decide +kernel
theorem dX3_tryColumn_100 : decode cX3_tryColumn 100 = .ok (.iload 6, 2) := by decide +kernel
theorem dX3_tryColumn_102 : decode cX3_tryColumn 102 = .ok (.iconst 1, 1) := by decide +kernel
theorem dX3_tryColumn_103 : decode cX3_tryColumn 103 = .ok (.iadd, 1) := by decide +kernel
theorem dX3_tryColumn_104 : decode cX3_tryColumn 104 = .ok (.sipush 254, 3) := by decide +kernel
theorem dX3_tryColumn_107 : decode cX3_tryColumn 107 = .ok (.invokevirtual 117, 3) := by decide +kernel
theorem dX3_tryColumn_110 : decode cX3_tryColumn 110 = .ok (.bipush 99, 2) := by decide +kernel
theorem dX3_tryColumn_112 : decode cX3_tryColumn 112 = .ok (.ireturn, 1) := by decide +kernel
theorem dX3_tryColumn_113 : decode cX3_tryColumn 113 = .ok (.iload 6, 2) := by decide +kernel
theorem dX3_tryColumn_115 : decode cX3_tryColumn 115 = .ok (.iconst 1, 1) := by decide +kernel
theorem dX3_tryColumn_116 : decode cX3_tryColumn 116 = .ok (.iadd, 1) := by decide +kernel
theorem dX3_tryColumn_117 : decode cX3_tryColumn 117 = .ok (.aload_n 0, 1) := by decide +kernel
theorem dX3_tryColumn_118 : decode cX3_tryColumn 118 = .ok (.getfield 30, 3) := by decide +kernel
theorem dX3_tryColumn_121 : decode cX3_tryColumn 121 = .ok (.getfield 125, 3) := by decide +kernel
theorem dX3_tryColumn_124 : decode cX3_tryColumn 124 = .ok (.if_icmp .lt 20, 3) := by decide +kernel
theorem dX3_tryColumn_127 : decode cX3_tryColumn 127 = .ok (.aload_n 0, 1) := by decide +kernel
theorem dX3_tryColumn_128 : decode cX3_tryColumn 128 = .ok (.iload 9, 2) := by decide +kernel
theorem dX3_tryColumn_130 : decode cX3_tryColumn 130 = .ok (.iload 10, 2) := by decide +kernel
theorem dX3_tryColumn_132 : decode cX3_tryColumn 132 = .ok (.iload 6, 2) := by decide +kernel
theorem dX3_tryColumn_134 : decode cX3_tryColumn 134 = .ok (.iconst 1, 1) := by decide +kernel
theorem dX3_tryColumn_135 : decode cX3_tryColumn 135 = .ok (.iadd, 1) := by decide +kernel
theorem dX3_tryColumn_136 : decode cX3_tryColumn 136 = .ok (.sipush 255, 3) := by decide +kernel
theorem dX3_tryColumn_139 : decode cX3_tryColumn 139 = .ok (.invokevirtual 117, 3) := by decide +kernel
theorem dX3_tryColumn_142 : decode cX3_tryColumn 142 = .ok (.iconst 0, 1) := by decide +kernel
theorem dX3_tryColumn_143 : decode cX3_tryColumn 143 = .ok (.ireturn, 1) := by decide +kernel
theorem dX3_tryColumn_144 : decode cX3_tryColumn 144 = .ok (.aload_n 0, 1) := by decide +kernel
theorem dX3_tryColumn_145 : decode cX3_tryColumn 145 = .ok (.getfield 15, 3) := by decide +kernel
theorem dX3_tryColumn_148 : decode cX3_tryColumn 148 = .ok (.iload_n 1, 1) := by decide +kernel
theorem dX3_tryColumn_149 : decode cX3_tryColumn 149 = .ok (.iload 7, 2) := by decide +kernel
theorem dX3_tryColumn_151 : decode cX3_tryColumn 151 = .ok (.iload 8, 2) := by decide +kernel
theorem dX3_tryColumn_153 : decode cX3_tryColumn 153 = .ok (.iadd, 1) := by decide +kernel
theorem dX3_tryColumn_154 : decode cX3_tryColumn 154 = .ok (.iastore, 1) := by decide +kernel
theorem dX3_tryColumn_155 : decode cX3_tryColumn 155 = .ok (.aload_n 0, 1) := by decide +kernel
theorem dX3_tryColumn_156 : decode cX3_tryColumn 156 = .ok (.getfield 18, 3) := by decide +kernel
theorem dX3_tryColumn_159 : decode cX3_tryColumn 159 = .ok (.iload_n 1, 1) := by decide +kernel
theorem dX3_tryColumn_160 : decode cX3_tryColumn 160 = .ok (.dup2, 1) := by decide +kernel
theorem dX3_tryColumn_161 : decode cX3_tryColumn 161 = .ok (.iaload, 1) := by decide +kernel
theorem dX3_tryColumn_162 : decode cX3_tryColumn 162 = .ok (.iconst 1, 1) := by decide +kernel
theorem dX3_tryColumn_163 : decode cX3_tryColumn 163 = .ok (.iadd, 1) := by decide +kernel
theorem dX3_tryColumn_164 : decode cX3_tryColumn 164 = .ok (.iastore, 1) := by decide +kernel
theorem dX3_tryColumn_165 : decode cX3_tryColumn 165 = .ok (.aload_n 0, 1) := by decide +kernel
theorem dX3_tryColumn_166 : decode cX3_tryColumn 166 = .ok (.iload_n 3, 1) := by decide +kernel
theorem dX3_tryColumn_167 : decode cX3_tryColumn 167 = .ok (.iload 12, 2) := by decide +kernel
theorem dX3_tryColumn_169 : decode cX3_tryColumn 169 = .ok (.iload 9, 2) := by decide +kernel
theorem dX3_tryColumn_171 : decode cX3_tryColumn 171 = .ok (.iload 10, 2) := by decide +kernel
theorem dX3_tryColumn_173 : decode cX3_tryColumn 173 = .ok (.iload 6, 2) := by decide +kernel
theorem dX3_tryColumn_175 : decode cX3_tryColumn 175 = .ok (.iconst 1, 1) := by decide +kernel
theorem dX3_tryColumn_176 : decode cX3_tryColumn 176 = .ok (.iadd, 1) := by decide +kernel
theorem dX3_tryColumn_177 : decode cX3_tryColumn 177 = .ok (.invokevirtual 92, 3) := by decide +kernel
theorem dX3_tryColumn_180 : decode cX3_tryColumn 180 = .ok (.istore 13, 2) := by decide +kernel
theorem dX3_tryColumn_182 : decode cX3_tryColumn 182 = .ok (.aload_n 0, 1) := by decide +kernel
theorem dX3_tryColumn_183 : decode cX3_tryColumn 183 = .ok (.getfield 18, 3) := by decide +kernel
theorem dX3_tryColumn_186 : decode cX3_tryColumn 186 = .ok (.iload_n 1, 1) := by decide +kernel
theorem dX3_tryColumn_187 : decode cX3_tryColumn 187 = .ok (.dup2, 1) := by decide +kernel
theorem dX3_tryColumn_188 : decode cX3_tryColumn 188 = .ok (.iaload, 1) := by decide +kernel
theorem dX3_tryColumn_189 : decode cX3_tryColumn 189 = .ok (.iconst 1, 1) := by decide +kernel
theorem dX3_tryColumn_190 : decode cX3_tryColumn 190 = .ok (.isub, 1) := by decide +kernel
theorem dX3_tryColumn_191 : decode cX3_tryColumn 191 = .ok (.iastore, 1) := by decide +kernel
theorem dX3_tryColumn_192 : decode cX3_tryColumn 192 = .ok (.aload_n 0, 1) := by decide +kernel
theorem dX3_tryColumn_193 : decode cX3_tryColumn 193 = .ok (.getfield 15, 3) := by decide +kernel
theorem dX3_tryColumn_196 : decode cX3_tryColumn 196 = .ok (.iload_n 1, 1) := by decide +kernel
theorem dX3_tryColumn_197 : decode cX3_tryColumn 197 = .ok (.iload 7, 2) := by decide +kernel
theorem dX3_tryColumn_199 : decode cX3_tryColumn 199 = .ok (.iastore, 1) := by decide +kernel
theorem dX3_tryColumn_200 : decode cX3_tryColumn 200 = .ok (.iload 13, 2) := by decide +kernel
theorem dX3_tryColumn_202 : decode cX3_tryColumn 202 = .ok (.invokestatic 128, 3) := by decide +kernel
theorem dX3_tryColumn_205 : decode cX3_tryColumn 205 = .ok (.ireturn, 1) := by decide +kernel
theorem dX3_seenFromAhead_0 : decode cX3_seenFromAhead 0 = .ok (.iload_n 0, 1) := by decide +kernel
theorem dX3_seenFromAhead_1 : decode cX3_seenFromAhead 1 = .ok (.ifCond .ne 5, 3) := by decide +kernel
theorem dX3_seenFromAhead_4 : decode cX3_seenFromAhead 4 = .ok (.iconst 0, 1) := by decide +kernel
theorem dX3_seenFromAhead_5 : decode cX3_seenFromAhead 5 = .ok (.ireturn, 1) := by decide +kernel
theorem dX3_seenFromAhead_6 : decode cX3_seenFromAhead 6 = .ok (.iload_n 0, 1) := by decide +kernel
theorem dX3_seenFromAhead_7 : decode cX3_seenFromAhead 7 = .ok (.ifCond .le 9, 3) := by decide +kernel
theorem dX3_seenFromAhead_10 : decode cX3_seenFromAhead 10 = .ok (.iconst 1, 1) := by decide +kernel
theorem dX3_seenFromAhead_11 : decode cX3_seenFromAhead 11 = .ok (.iload_n 0, 1) := by decide +kernel
theorem dX3_seenFromAhead_12 : decode cX3_seenFromAhead 12 = .ok (.isub, 1) := by decide +kernel
theorem dX3_seenFromAhead_13 : decode cX3_seenFromAhead 13 = .ok (.goto 6, 3) := by decide +kernel
theorem dX3_seenFromAhead_16 : decode cX3_seenFromAhead 16 = .ok (.iconst (-1), 1) := by decide +kernel
theorem dX3_seenFromAhead_17 : decode cX3_seenFromAhead 17 = .ok (.iload_n 0, 1) := by decide +kernel
theorem dX3_seenFromAhead_18 : decode cX3_seenFromAhead 18 = .ok (.isub, 1) := by decide +kernel
theorem dX3_seenFromAhead_19 : decode cX3_seenFromAhead 19 = .ok (.ireturn, 1) := by decide +kernel
theorem dX3_keptAt_0 : decode cX3_keptAt 0 = .ok (.iload_n 1, 1) := by decide +kernel
theorem dX3_keptAt_1 : decode cX3_keptAt 1 = .ok (.iconst 3, 1) := by decide +kernel
theorem dX3_keptAt_2 : decode cX3_keptAt 2 = .ok (.ishr, 1) := by decide +kernel
theorem dX3_keptAt_3 : decode cX3_keptAt 3 = .ok (.istore_n 2, 1) := by decide +kernel
theorem dX3_keptAt_4 : decode cX3_keptAt 4 = .ok (.iload_n 2, 1) := by decide +kernel
theorem dX3_keptAt_5 : decode cX3_keptAt 5 = .ok (.ifCond .lt 12, 3) := by decide +kernel
theorem dX3_keptAt_8 : decode cX3_keptAt 8 = .ok (.iload_n 2, 1) := by decide +kernel
theorem dX3_keptAt_9 : decode cX3_keptAt 9 = .ok (.aload_n 0, 1) := by decide +kernel
theorem dX3_keptAt_10 : decode cX3_keptAt 10 = .ok (.getfield 26, 3) := by decide +kernel
theorem dX3_keptAt_13 : decode cX3_keptAt 13 = .ok (.arraylength, 1) := by decide +kernel
theorem dX3_keptAt_14 : decode cX3_keptAt 14 = .ok (.if_icmp .lt 5, 3) := by decide +kernel
theorem dX3_keptAt_17 : decode cX3_keptAt 17 = .ok (.iconst 0, 1) := by decide +kernel
theorem dX3_keptAt_18 : decode cX3_keptAt 18 = .ok (.ireturn, 1) := by decide +kernel
theorem dX3_keptAt_19 : decode cX3_keptAt 19 = .ok (.aload_n 0, 1) := by decide +kernel
theorem dX3_keptAt_20 : decode cX3_keptAt 20 = .ok (.getfield 26, 3) := by decide +kernel
theorem dX3_keptAt_23 : decode cX3_keptAt 23 = .ok (.iload_n 2, 1) := by decide +kernel
theorem dX3_keptAt_24 : decode cX3_keptAt 24 = .ok (.laload, 1) := by decide +kernel
theorem dX3_keptAt_25 : decode cX3_keptAt 25 = .ok (.iload_n 1, 1) := by decide +kernel
theorem dX3_keptAt_26 : decode cX3_keptAt 26 = .ok (.bipush 7, 2) := by decide +kernel
theorem dX3_keptAt_28 : decode cX3_keptAt 28 = .ok (.iand, 1) := by decide +kernel
theorem dX3_keptAt_29 : decode cX3_keptAt 29 = .ok (.iconst 3, 1) := by decide +kernel
theorem dX3_keptAt_30 : decode cX3_keptAt 30 = .ok (.ishl, 1) := by decide +kernel
theorem dX3_keptAt_31 : decode cX3_keptAt 31 = .ok (.lushr, 1) := by decide +kernel
theorem dX3_keptAt_32 : decode cX3_keptAt 32 = .ok (.l2i, 1) := by decide +kernel
theorem dX3_keptAt_33 : decode cX3_keptAt 33 = .ok (.sipush 255, 3) := by decide +kernel
theorem dX3_keptAt_36 : decode cX3_keptAt 36 = .ok (.iand, 1) := by decide +kernel
theorem dX3_keptAt_37 : decode cX3_keptAt 37 = .ok (.ireturn, 1) := by decide +kernel
theorem dX3_keep_0 : decode cX3_keep 0 = .ok (.iload_n 1, 1) := by decide +kernel
theorem dX3_keep_1 : decode cX3_keep 1 = .ok (.iload_n 2, 1) := by decide +kernel
theorem dX3_keep_2 : decode cX3_keep 2 = .ok (.invokestatic 107, 3) := by decide +kernel
theorem dX3_keep_5 : decode cX3_keep 5 = .ok (.istore 5, 2) := by decide +kernel
theorem dX3_keep_7 : decode cX3_keep 7 = .ok (.iload 5, 2) := by decide +kernel
theorem dX3_keep_9 : decode cX3_keep 9 = .ok (.iconst 3, 1) := by decide +kernel
theorem dX3_keep_10 : decode cX3_keep 10 = .ok (.ishr, 1) := by decide +kernel
theorem dX3_keep_11 : decode cX3_keep 11 = .ok (.istore 6, 2) := by decide +kernel
theorem dX3_keep_13 : decode cX3_keep 13 = .ok (.iload 6, 2) := by decide +kernel
theorem dX3_keep_15 : decode cX3_keep 15 = .ok (.ifCond .lt 22, 3) := by decide +kernel
theorem dX3_keep_18 : decode cX3_keep 18 = .ok (.iload 6, 2) := by decide +kernel
theorem dX3_keep_20 : decode cX3_keep 20 = .ok (.aload_n 0, 1) := by decide +kernel
theorem dX3_keep_21 : decode cX3_keep 21 = .ok (.getfield 26, 3) := by decide +kernel
theorem dX3_keep_24 : decode cX3_keep 24 = .ok (.arraylength, 1) := by decide +kernel
theorem dX3_keep_25 : decode cX3_keep 25 = .ok (.if_icmp .ge 12, 3) := by decide +kernel
theorem dX3_keep_28 : decode cX3_keep 28 = .ok (.aload_n 0, 1) := by decide +kernel
theorem dX3_keep_29 : decode cX3_keep 29 = .ok (.iload 5, 2) := by decide +kernel
theorem dX3_keep_31 : decode cX3_keep 31 = .ok (.invokevirtual 113, 3) := by decide +kernel
theorem dX3_keep_34 : decode cX3_keep 34 = .ok (.ifCond .eq 4, 3) := by decide +kernel
theorem dX3_keep_37 : decode cX3_keep 37 = .ok (.return_, 1) := by decide +kernel
theorem dX3_keep_38 : decode cX3_keep 38 = .ok (.aload_n 0, 1) := by decide +kernel
theorem dX3_keep_39 : decode cX3_keep 39 = .ok (.getfield 26, 3) := by decide +kernel
theorem dX3_keep_42 : decode cX3_keep 42 = .ok (.iload 6, 2) := by decide +kernel
theorem dX3_keep_44 : decode cX3_keep 44 = .ok (.dup2, 1) := by decide +kernel
theorem dX3_keep_45 : decode cX3_keep 45 = .ok (.laload, 1) := by decide +kernel
theorem dX3_keep_46 : decode cX3_keep 46 = .ok (.iload 4, 2) := by decide +kernel
theorem dX3_keep_48 : decode cX3_keep 48 = .ok (.i2l, 1) := by decide +kernel
theorem dX3_keep_49 : decode cX3_keep 49 = .ok (.iload 5, 2) := by decide +kernel
theorem dX3_keep_51 : decode cX3_keep 51 = .ok (.bipush 7, 2) := by decide +kernel
theorem dX3_keep_53 : decode cX3_keep 53 = .ok (.iand, 1) := by decide +kernel
theorem dX3_keep_54 : decode cX3_keep 54 = .ok (.iconst 3, 1) := by decide +kernel
theorem dX3_keep_55 : decode cX3_keep 55 = .ok (.ishl, 1) := by decide +kernel
theorem dX3_keep_56 : decode cX3_keep 56 = .ok (.lshl, 1) := by decide +kernel
theorem dX3_keep_57 : decode cX3_keep 57 = .ok (.lor, 1) := by decide +kernel
theorem dX3_keep_58 : decode cX3_keep 58 = .ok (.lastore, 1) := by decide +kernel
theorem dX3_keep_59 : decode cX3_keep 59 = .ok (.iload_n 1, 1) := by decide +kernel
theorem dX3_keep_60 : decode cX3_keep 60 = .ok (.iload_n 2, 1) := by decide +kernel
theorem dX3_keep_61 : decode cX3_keep 61 = .ok (.if_icmp .ne 7, 3) := by decide +kernel
theorem dX3_keep_64 : decode cX3_keep 64 = .ok (.iconst 1, 1) := by decide +kernel
theorem dX3_keep_65 : decode cX3_keep 65 = .ok (.goto 4, 3) := by decide +kernel
theorem dX3_keep_68 : decode cX3_keep 68 = .ok (.iconst 2, 1) := by decide +kernel
theorem dX3_keep_69 : decode cX3_keep 69 = .ok (.istore 7, 2) := by decide +kernel
theorem dX3_keep_71 : decode cX3_keep 71 = .ok (.aload_n 0, 1) := by decide +kernel
theorem dX3_keep_72 : decode cX3_keep 72 = .ok (.getfield 23, 3) := by decide +kernel
theorem dX3_keep_75 : decode cX3_keep 75 = .ok (.iconst 0, 1) := by decide +kernel
theorem dX3_keep_76 : decode cX3_keep 76 = .ok (.aaload, 1) := by decide +kernel
theorem dX3_keep_77 : decode cX3_keep 77 = .ok (.iload_n 3, 1) := by decide +kernel
theorem dX3_keep_78 : decode cX3_keep 78 = .ok (.dup2, 1) := by decide +kernel
theorem dX3_keep_79 : decode cX3_keep 79 = .ok (.iaload, 1) := by decide +kernel
theorem dX3_keep_80 : decode cX3_keep 80 = .ok (.iload 7, 2) := by decide +kernel
theorem dX3_keep_82 : decode cX3_keep 82 = .ok (.iadd, 1) := by decide +kernel
theorem dX3_keep_83 : decode cX3_keep 83 = .ok (.iastore, 1) := by decide +kernel
theorem dX3_keep_84 : decode cX3_keep 84 = .ok (.iload 4, 2) := by decide +kernel
theorem dX3_keep_86 : decode cX3_keep 86 = .ok (.sipush 254, 3) := by decide +kernel
theorem dX3_keep_89 : decode cX3_keep 89 = .ok (.if_icmp .ne 19, 3) := by decide +kernel
theorem dX3_keep_92 : decode cX3_keep 92 = .ok (.aload_n 0, 1) := by decide +kernel
theorem dX3_keep_93 : decode cX3_keep 93 = .ok (.getfield 23, 3) := by decide +kernel
theorem dX3_keep_96 : decode cX3_keep 96 = .ok (.iconst 1, 1) := by decide +kernel
theorem dX3_keep_97 : decode cX3_keep 97 = .ok (.aaload, 1) := by decide +kernel
theorem dX3_keep_98 : decode cX3_keep 98 = .ok (.iload_n 3, 1) := by decide +kernel
theorem dX3_keep_99 : decode cX3_keep 99 = .ok (.dup2, 1) := by decide +kernel
theorem dX3_keep_100 : decode cX3_keep 100 = .ok (.iaload, 1) := by decide +kernel
theorem dX3_keep_101 : decode cX3_keep 101 = .ok (.iload 7, 2) := by decide +kernel
theorem dX3_keep_103 : decode cX3_keep 103 = .ok (.iadd, 1) := by decide +kernel
theorem dX3_keep_104 : decode cX3_keep 104 = .ok (.iastore, 1) := by decide +kernel
theorem dX3_keep_105 : decode cX3_keep 105 = .ok (.goto 28, 3) := by decide +kernel
theorem dX3_keep_108 : decode cX3_keep 108 = .ok (.iload 4, 2) := by decide +kernel
theorem dX3_keep_110 : decode cX3_keep 110 = .ok (.sipush 255, 3) := by decide +kernel
theorem dX3_keep_113 : decode cX3_keep 113 = .ok (.if_icmp .eq 20, 3) := by decide +kernel
theorem dX3_keep_116 : decode cX3_keep 116 = .ok (.aload_n 0, 1) := by decide +kernel
theorem dX3_keep_117 : decode cX3_keep 117 = .ok (.getfield 23, 3) := by decide +kernel
theorem dX3_keep_120 : decode cX3_keep 120 = .ok (.iload 4, 2) := by decide +kernel
theorem dX3_keep_122 : decode cX3_keep 122 = .ok (.invokestatic 131, 3) := by decide +kernel
theorem dX3_keep_125 : decode cX3_keep 125 = .ok (.aaload, 1) := by decide +kernel
theorem dX3_keep_126 : decode cX3_keep 126 = .ok (.iload_n 3, 1) := by decide +kernel
theorem dX3_keep_127 : decode cX3_keep 127 = .ok (.dup2, 1) := by decide +kernel
theorem dX3_keep_128 : decode cX3_keep 128 = .ok (.iaload, 1) := by decide +kernel
theorem dX3_keep_129 : decode cX3_keep 129 = .ok (.iload 7, 2) := by decide +kernel
theorem dX3_keep_131 : decode cX3_keep 131 = .ok (.iadd, 1) := by decide +kernel
theorem dX3_keep_132 : decode cX3_keep 132 = .ok (.iastore, 1) := by decide +kernel
theorem dX3_keep_133 : decode cX3_keep 133 = .ok (.return_, 1) := by decide +kernel
theorem dX3_shareOf_0 : decode cX3_shareOf 0 = .ok (.iload_n 0, 1) := by decide +kernel
theorem dX3_shareOf_1 : decode cX3_shareOf 1 = .ok (.bipush 101, 2) := by decide +kernel
theorem dX3_shareOf_3 : decode cX3_shareOf 3 = .ok (.if_icmp .ne 5, 3) := by decide +kernel
theorem dX3_shareOf_6 : decode cX3_shareOf 6 = .ok (.iconst 3, 1) := by decide +kernel
theorem dX3_shareOf_7 : decode cX3_shareOf 7 = .ok (.ireturn, 1) := by decide +kernel
theorem dX3_shareOf_8 : decode cX3_shareOf 8 = .ok (.iload_n 0, 1) := by decide +kernel
theorem dX3_shareOf_9 : decode cX3_shareOf 9 = .ok (.bipush 101, 2) := by decide +kernel
theorem dX3_shareOf_11 : decode cX3_shareOf 11 = .ok (.if_icmp .le 7, 3) := by decide +kernel
theorem dX3_shareOf_14 : decode cX3_shareOf 14 = .ok (.iconst 4, 1) := by decide +kernel
theorem dX3_shareOf_15 : decode cX3_shareOf 15 = .ok (.goto 4, 3) := by decide +kernel
theorem dX3_shareOf_18 : decode cX3_shareOf 18 = .ok (.iconst 2, 1) := by decide +kernel
theorem dX3_shareOf_19 : decode cX3_shareOf 19 = .ok (.ireturn, 1) := by decide +kernel
theorem dJ6_bitCount_0f7a4_0 : decode cJ6_bitCount_0f7a4 0 = .ok (.iload_n 0, 1) := by decide +kernel
theorem dJ6_bitCount_0f7a4_1 : decode cJ6_bitCount_0f7a4 1 = .ok (.iload_n 0, 1) := by decide +kernel
theorem dJ6_bitCount_0f7a4_2 : decode cJ6_bitCount_0f7a4 2 = .ok (.iconst 1, 1) := by decide +kernel
theorem dJ6_bitCount_0f7a4_3 : decode cJ6_bitCount_0f7a4 3 = .ok (.iushr, 1) := by decide +kernel
theorem dJ6_bitCount_0f7a4_4 : decode cJ6_bitCount_0f7a4 4 = .ok (.ldc_w 265, 3) := by decide +kernel
theorem dJ6_bitCount_0f7a4_7 : decode cJ6_bitCount_0f7a4 7 = .ok (.iand, 1) := by decide +kernel
theorem dJ6_bitCount_0f7a4_8 : decode cJ6_bitCount_0f7a4 8 = .ok (.isub, 1) := by decide +kernel
theorem dJ6_bitCount_0f7a4_9 : decode cJ6_bitCount_0f7a4 9 = .ok (.istore_n 0, 1) := by decide +kernel
theorem dJ6_bitCount_0f7a4_10 : decode cJ6_bitCount_0f7a4 10 = .ok (.iload_n 0, 1) := by decide +kernel
theorem dJ6_bitCount_0f7a4_11 : decode cJ6_bitCount_0f7a4 11 = .ok (.ldc_w 266, 3) := by decide +kernel
theorem dJ6_bitCount_0f7a4_14 : decode cJ6_bitCount_0f7a4 14 = .ok (.iand, 1) := by decide +kernel
theorem dJ6_bitCount_0f7a4_15 : decode cJ6_bitCount_0f7a4 15 = .ok (.iload_n 0, 1) := by decide +kernel
theorem dJ6_bitCount_0f7a4_16 : decode cJ6_bitCount_0f7a4 16 = .ok (.iconst 2, 1) := by decide +kernel
theorem dJ6_bitCount_0f7a4_17 : decode cJ6_bitCount_0f7a4 17 = .ok (.iushr, 1) := by decide +kernel
theorem dJ6_bitCount_0f7a4_18 : decode cJ6_bitCount_0f7a4 18 = .ok (.ldc_w 266, 3) := by decide +kernel
theorem dJ6_bitCount_0f7a4_21 : decode cJ6_bitCount_0f7a4 21 = .ok (.iand, 1) := by decide +kernel
theorem dJ6_bitCount_0f7a4_22 : decode cJ6_bitCount_0f7a4 22 = .ok (.iadd, 1) := by decide +kernel
theorem dJ6_bitCount_0f7a4_23 : decode cJ6_bitCount_0f7a4 23 = .ok (.istore_n 0, 1) := by decide +kernel
theorem dJ6_bitCount_0f7a4_24 : decode cJ6_bitCount_0f7a4 24 = .ok (.iload_n 0, 1) := by decide +kernel
theorem dJ6_bitCount_0f7a4_25 : decode cJ6_bitCount_0f7a4 25 = .ok (.iload_n 0, 1) := by decide +kernel
theorem dJ6_bitCount_0f7a4_26 : decode cJ6_bitCount_0f7a4 26 = .ok (.iconst 4, 1) := by decide +kernel
theorem dJ6_bitCount_0f7a4_27 : decode cJ6_bitCount_0f7a4 27 = .ok (.iushr, 1) := by decide +kernel
theorem dJ6_bitCount_0f7a4_28 : decode cJ6_bitCount_0f7a4 28 = .ok (.iadd, 1) := by decide +kernel
theorem dJ6_bitCount_0f7a4_29 : decode cJ6_bitCount_0f7a4 29 = .ok (.ldc_w 267, 3) := by decide +kernel
theorem dJ6_bitCount_0f7a4_32 : decode cJ6_bitCount_0f7a4 32 = .ok (.iand, 1) := by decide +kernel
theorem dJ6_bitCount_0f7a4_33 : decode cJ6_bitCount_0f7a4 33 = .ok (.istore_n 0, 1) := by decide +kernel
theorem dJ6_bitCount_0f7a4_34 : decode cJ6_bitCount_0f7a4 34 = .ok (.iload_n 0, 1) := by decide +kernel
theorem dJ6_bitCount_0f7a4_35 : decode cJ6_bitCount_0f7a4 35 = .ok (.iload_n 0, 1) := by decide +kernel
theorem dJ6_bitCount_0f7a4_36 : decode cJ6_bitCount_0f7a4 36 = .ok (.bipush 8, 2) := by decide +kernel
theorem dJ6_bitCount_0f7a4_38 : decode cJ6_bitCount_0f7a4 38 = .ok (.iushr, 1) := by decide +kernel
theorem dJ6_bitCount_0f7a4_39 : decode cJ6_bitCount_0f7a4 39 = .ok (.iadd, 1) := by decide +kernel
theorem dJ6_bitCount_0f7a4_40 : decode cJ6_bitCount_0f7a4 40 = .ok (.istore_n 0, 1) := by decide +kernel
theorem dJ6_bitCount_0f7a4_41 : decode cJ6_bitCount_0f7a4 41 = .ok (.iload_n 0, 1) := by decide +kernel
theorem dJ6_bitCount_0f7a4_42 : decode cJ6_bitCount_0f7a4 42 = .ok (.iload_n 0, 1) := by decide +kernel
theorem dJ6_bitCount_0f7a4_43 : decode cJ6_bitCount_0f7a4 43 = .ok (.bipush 16, 2) := by decide +kernel
theorem dJ6_bitCount_0f7a4_45 : decode cJ6_bitCount_0f7a4 45 = .ok (.iushr, 1) := by decide +kernel
theorem dJ6_bitCount_0f7a4_46 : decode cJ6_bitCount_0f7a4 46 = .ok (.iadd, 1) := by decide +kernel
theorem dJ6_bitCount_0f7a4_47 : decode cJ6_bitCount_0f7a4 47 = .ok (.istore_n 0, 1) := by decide +kernel
theorem dJ6_bitCount_0f7a4_48 : decode cJ6_bitCount_0f7a4 48 = .ok (.iload_n 0, 1) := by decide +kernel
theorem dJ6_bitCount_0f7a4_49 : decode cJ6_bitCount_0f7a4 49 = .ok (.bipush 63, 2) := by decide +kernel
theorem dJ6_bitCount_0f7a4_51 : decode cJ6_bitCount_0f7a4 51 = .ok (.iand, 1) := by decide +kernel
theorem dJ6_bitCount_0f7a4_52 : decode cJ6_bitCount_0f7a4 52 = .ok (.ireturn, 1) := by decide +kernel
theorem dJ7_rangeCheck_23922_0 : decode cJ7_rangeCheck_23922 0 = .ok (.iload_n 1, 1) := by decide +kernel
theorem dJ7_rangeCheck_23922_1 : decode cJ7_rangeCheck_23922 1 = .ok (.iload_n 2, 1) := by decide +kernel
theorem dJ7_rangeCheck_23922_2 : decode cJ7_rangeCheck_23922 2 = .ok (.if_icmp .le 44, 3) := by decide +kernel
theorem dJ7_rangeCheck_23922_5 : decode cJ7_rangeCheck_23922 5 = .ok (.new 43, 3) := by decide +kernel
theorem dJ7_rangeCheck_23922_8 : decode cJ7_rangeCheck_23922 8 = .ok (.dup, 1) := by decide +kernel
theorem dJ7_rangeCheck_23922_9 : decode cJ7_rangeCheck_23922 9 = .ok (.new 45, 3) := by decide +kernel
theorem dJ7_rangeCheck_23922_12 : decode cJ7_rangeCheck_23922 12 = .ok (.dup, 1) := by decide +kernel
theorem dJ7_rangeCheck_23922_13 : decode cJ7_rangeCheck_23922 13 = .ok (.invokespecial 47, 3) := by decide +kernel
theorem dJ7_rangeCheck_23922_16 : decode cJ7_rangeCheck_23922 16 = .ok (.ldc 48, 2) := by decide +kernel
theorem dJ7_rangeCheck_23922_18 : decode cJ7_rangeCheck_23922 18 = .ok (.invokevirtual 50, 3) := by decide +kernel
theorem dJ7_rangeCheck_23922_21 : decode cJ7_rangeCheck_23922 21 = .ok (.iload_n 1, 1) := by decide +kernel
theorem dJ7_rangeCheck_23922_22 : decode cJ7_rangeCheck_23922 22 = .ok (.invokevirtual 54, 3) := by decide +kernel
theorem dJ7_rangeCheck_23922_25 : decode cJ7_rangeCheck_23922 25 = .ok (.ldc 57, 2) := by decide +kernel
theorem dJ7_rangeCheck_23922_27 : decode cJ7_rangeCheck_23922 27 = .ok (.invokevirtual 50, 3) := by decide +kernel
theorem dJ7_rangeCheck_23922_30 : decode cJ7_rangeCheck_23922 30 = .ok (.iload_n 2, 1) := by decide +kernel
theorem dJ7_rangeCheck_23922_31 : decode cJ7_rangeCheck_23922 31 = .ok (.invokevirtual 54, 3) := by decide +kernel
theorem dJ7_rangeCheck_23922_34 : decode cJ7_rangeCheck_23922 34 = .ok (.ldc 59, 2) := by decide +kernel
theorem dJ7_rangeCheck_23922_36 : decode cJ7_rangeCheck_23922 36 = .ok (.invokevirtual 50, 3) := by decide +kernel
theorem dJ7_rangeCheck_23922_39 : decode cJ7_rangeCheck_23922 39 = .ok (.invokevirtual 61, 3) := by decide +kernel
theorem dJ7_rangeCheck_23922_42 : decode cJ7_rangeCheck_23922 42 = .ok (.invokespecial 65, 3) := by decide +kernel
theorem dJ7_rangeCheck_23922_45 : decode cJ7_rangeCheck_23922 45 = .ok (.athrow, 1) := by decide +kernel
theorem dJ7_rangeCheck_23922_46 : decode cJ7_rangeCheck_23922 46 = .ok (.iload_n 1, 1) := by decide +kernel
theorem dJ7_rangeCheck_23922_47 : decode cJ7_rangeCheck_23922 47 = .ok (.ifCond .ge 12, 3) := by decide +kernel
theorem dJ7_rangeCheck_23922_50 : decode cJ7_rangeCheck_23922 50 = .ok (.new 68, 3) := by decide +kernel
theorem dJ7_rangeCheck_23922_53 : decode cJ7_rangeCheck_23922 53 = .ok (.dup, 1) := by decide +kernel
theorem dJ7_rangeCheck_23922_54 : decode cJ7_rangeCheck_23922 54 = .ok (.iload_n 1, 1) := by decide +kernel
theorem dJ7_rangeCheck_23922_55 : decode cJ7_rangeCheck_23922 55 = .ok (.invokespecial 70, 3) := by decide +kernel
theorem dJ7_rangeCheck_23922_58 : decode cJ7_rangeCheck_23922 58 = .ok (.athrow, 1) := by decide +kernel
theorem dJ7_rangeCheck_23922_59 : decode cJ7_rangeCheck_23922 59 = .ok (.iload_n 2, 1) := by decide +kernel
theorem dJ7_rangeCheck_23922_60 : decode cJ7_rangeCheck_23922 60 = .ok (.iload_n 0, 1) := by decide +kernel
theorem dJ7_rangeCheck_23922_61 : decode cJ7_rangeCheck_23922 61 = .ok (.if_icmp .le 12, 3) := by decide +kernel
theorem dJ7_rangeCheck_23922_64 : decode cJ7_rangeCheck_23922 64 = .ok (.new 68, 3) := by decide +kernel
theorem dJ7_rangeCheck_23922_67 : decode cJ7_rangeCheck_23922 67 = .ok (.dup, 1) := by decide +kernel
theorem dJ7_rangeCheck_23922_68 : decode cJ7_rangeCheck_23922 68 = .ok (.iload_n 2, 1) := by decide +kernel
theorem dJ7_rangeCheck_23922_69 : decode cJ7_rangeCheck_23922 69 = .ok (.invokespecial 70, 3) := by decide +kernel
theorem dJ7_rangeCheck_23922_72 : decode cJ7_rangeCheck_23922 72 = .ok (.athrow, 1) := by decide +kernel
theorem dJ7_rangeCheck_23922_73 : decode cJ7_rangeCheck_23922 73 = .ok (.return_, 1) := by decide +kernel
theorem dJ7_fill_bad5a_0 : decode cJ7_fill_bad5a 0 = .ok (.aload_n 0, 1) := by decide +kernel
theorem dJ7_fill_bad5a_1 : decode cJ7_fill_bad5a 1 = .ok (.arraylength, 1) := by decide +kernel
theorem dJ7_fill_bad5a_2 : decode cJ7_fill_bad5a 2 = .ok (.iload_n 1, 1) := by decide +kernel
theorem dJ7_fill_bad5a_3 : decode cJ7_fill_bad5a 3 = .ok (.iload_n 2, 1) := by decide +kernel
theorem dJ7_fill_bad5a_4 : decode cJ7_fill_bad5a 4 = .ok (.invokestatic 13, 3) := by decide +kernel
theorem dJ7_fill_bad5a_7 : decode cJ7_fill_bad5a 7 = .ok (.iload_n 1, 1) := by decide +kernel
theorem dJ7_fill_bad5a_8 : decode cJ7_fill_bad5a 8 = .ok (.istore 5, 2) := by decide +kernel
theorem dJ7_fill_bad5a_10 : decode cJ7_fill_bad5a 10 = .ok (.iload 5, 2) := by decide +kernel
theorem dJ7_fill_bad5a_12 : decode cJ7_fill_bad5a 12 = .ok (.iload_n 2, 1) := by decide +kernel
theorem dJ7_fill_bad5a_13 : decode cJ7_fill_bad5a 13 = .ok (.if_icmp .ge 14, 3) := by decide +kernel
theorem dJ7_fill_bad5a_16 : decode cJ7_fill_bad5a 16 = .ok (.aload_n 0, 1) := by decide +kernel
theorem dJ7_fill_bad5a_17 : decode cJ7_fill_bad5a 17 = .ok (.iload 5, 2) := by decide +kernel
theorem dJ7_fill_bad5a_19 : decode cJ7_fill_bad5a 19 = .ok (.lload_n 3, 1) := by decide +kernel
theorem dJ7_fill_bad5a_20 : decode cJ7_fill_bad5a 20 = .ok (.lastore, 1) := by decide +kernel
theorem dJ7_fill_bad5a_21 : decode cJ7_fill_bad5a 21 = .ok (.iinc 5 1, 3) := by decide +kernel
theorem dJ7_fill_bad5a_24 : decode cJ7_fill_bad5a 24 = .ok (.goto (-14), 3) := by decide +kernel
theorem dJ7_fill_bad5a_27 : decode cJ7_fill_bad5a 27 = .ok (.return_, 1) := by decide +kernel
theorem dJ7_fill_53178_0 : decode cJ7_fill_53178 0 = .ok (.iconst 0, 1) := by decide +kernel
theorem dJ7_fill_53178_1 : decode cJ7_fill_53178 1 = .ok (.istore_n 2, 1) := by decide +kernel
theorem dJ7_fill_53178_2 : decode cJ7_fill_53178 2 = .ok (.aload_n 0, 1) := by decide +kernel
theorem dJ7_fill_53178_3 : decode cJ7_fill_53178 3 = .ok (.arraylength, 1) := by decide +kernel
theorem dJ7_fill_53178_4 : decode cJ7_fill_53178 4 = .ok (.istore_n 3, 1) := by decide +kernel
theorem dJ7_fill_53178_5 : decode cJ7_fill_53178 5 = .ok (.iload_n 2, 1) := by decide +kernel
theorem dJ7_fill_53178_6 : decode cJ7_fill_53178 6 = .ok (.iload_n 3, 1) := by decide +kernel
theorem dJ7_fill_53178_7 : decode cJ7_fill_53178 7 = .ok (.if_icmp .ge 13, 3) := by decide +kernel
theorem dJ7_fill_53178_10 : decode cJ7_fill_53178 10 = .ok (.aload_n 0, 1) := by decide +kernel
theorem dJ7_fill_53178_11 : decode cJ7_fill_53178 11 = .ok (.iload_n 2, 1) := by decide +kernel
theorem dJ7_fill_53178_12 : decode cJ7_fill_53178 12 = .ok (.iload_n 1, 1) := by decide +kernel
theorem dJ7_fill_53178_13 : decode cJ7_fill_53178 13 = .ok (.iastore, 1) := by decide +kernel
theorem dJ7_fill_53178_14 : decode cJ7_fill_53178 14 = .ok (.iinc 2 1, 3) := by decide +kernel
theorem dJ7_fill_53178_17 : decode cJ7_fill_53178 17 = .ok (.goto (-12), 3) := by decide +kernel
theorem dJ7_fill_53178_20 : decode cJ7_fill_53178 20 = .ok (.return_, 1) := by decide +kernel
theorem dJ9_min_7cf53_0 : decode cJ9_min_7cf53 0 = .ok (.iload_n 0, 1) := by decide +kernel
theorem dJ9_min_7cf53_1 : decode cJ9_min_7cf53 1 = .ok (.iload_n 1, 1) := by decide +kernel
theorem dJ9_min_7cf53_2 : decode cJ9_min_7cf53 2 = .ok (.if_icmp .gt 7, 3) := by decide +kernel
theorem dJ9_min_7cf53_5 : decode cJ9_min_7cf53 5 = .ok (.iload_n 0, 1) := by decide +kernel
theorem dJ9_min_7cf53_6 : decode cJ9_min_7cf53 6 = .ok (.goto 4, 3) := by decide +kernel
theorem dJ9_min_7cf53_9 : decode cJ9_min_7cf53 9 = .ok (.iload_n 1, 1) := by decide +kernel
theorem dJ9_min_7cf53_10 : decode cJ9_min_7cf53 10 = .ok (.ireturn, 1) := by decide +kernel
end
section
/-! the instructions, decoded -/
theorem dX4_init_0 : decode cX4_init 0 = .ok (.aload_n 0, 1) := by decide +kernel
theorem dX4_init_1 : decode cX4_init 1 = .ok (.invokespecial 1, 3) := by decide +kernel
theorem dX4_init_4 : decode cX4_init 4 = .ok (.aload_n 0, 1) := by decide +kernel
theorem dX4_init_5 : decode cX4_init 5 = .ok (.new 7, 3) := by decide +kernel
theorem dX4_init_8 : decode cX4_init 8 = .ok (.dup, 1) := by decide +kernel
theorem dX4_init_9 : decode cX4_init 9 = .ok (.invokespecial 9, 3) := by decide +kernel
theorem dX4_init_12 : decode cX4_init 12 = .ok (.putfield 10, 3) := by decide +kernel
theorem dX4_init_15 : decode cX4_init 15 = .ok (.aload_n 0, 1) := by decide +kernel
theorem dX4_init_16 : decode cX4_init 16 = .ok (.getfield 10, 3) := by decide +kernel
theorem dX4_init_19 : decode cX4_init 19 = .ok (.iconst 4, 1) := by decide +kernel
theorem dX4_init_20 : decode cX4_init 20 = .ok (.iconst 4, 1) := by decide +kernel
theorem dX4_init_21 : decode cX4_init 21 = .ok (.iconst 3, 1) := by decide +kernel
theorem dX4_init_22 : decode cX4_init 22 = .ok (.iconst 0, 1) := by decide +kernel
theorem dX4_init_23 : decode cX4_init 23 = .ok (.invokevirtual 16, 3) := by decide +kernel
theorem dX4_init_26 : decode cX4_init 26 = .ok (.aload_n 0, 1) := by decide +kernel
theorem dX4_init_27 : decode cX4_init 27 = .ok (.new 20, 3) := by decide +kernel
theorem dX4_init_30 : decode cX4_init 30 = .ok (.dup, 1) := by decide +kernel
theorem dX4_init_31 : decode cX4_init 31 = .ok (.aload_n 0, 1) := by decide +kernel
theorem dX4_init_32 : decode cX4_init 32 = .ok (.getfield 10, 3) := by decide +kernel
theorem dX4_init_35 : decode cX4_init 35 = .ok (.invokespecial 22, 3) := by decide +kernel
theorem dX4_init_38 : decode cX4_init 38 = .ok (.putfield 25, 3) := by decide +kernel
theorem dX4_init_41 : decode cX4_init 41 = .ok (.aload_n 0, 1) := by decide +kernel
theorem dX4_init_42 : decode cX4_init 42 = .ok (.new 29, 3) := by decide +kernel
theorem dX4_init_45 : decode cX4_init 45 = .ok (.dup, 1) := by decide +kernel
theorem dX4_init_46 : decode cX4_init 46 = .ok (.aload_n 0, 1) := by decide +kernel
theorem dX4_init_47 : decode cX4_init 47 = .ok (.getfield 10, 3) := by decide +kernel
theorem dX4_init_50 : decode cX4_init 50 = .ok (.invokespecial 31, 3) := by decide +kernel
theorem dX4_init_53 : decode cX4_init 53 = .ok (.putfield 32, 3) := by decide +kernel
theorem dX4_init_56 : decode cX4_init 56 = .ok (.aload_n 0, 1) := by decide +kernel
theorem dX4_init_57 : decode cX4_init 57 = .ok (.new 29, 3) := by decide +kernel
theorem dX4_init_60 : decode cX4_init 60 = .ok (.dup, 1) := by decide +kernel
theorem dX4_init_61 : decode cX4_init 61 = .ok (.aload_n 0, 1) := by decide +kernel
theorem dX4_init_62 : decode cX4_init 62 = .ok (.getfield 10, 3) := by decide +kernel
theorem dX4_init_65 : decode cX4_init 65 = .ok (.invokespecial 31, 3) := by decide +kernel
theorem dX4_init_68 : decode cX4_init 68 = .ok (.putfield 36, 3) := by decide +kernel
theorem dX4_init_71 : decode cX4_init 71 = .ok (.aload_n 0, 1) := by decide +kernel
theorem dX4_init_72 : decode cX4_init 72 = .ok (.iconst 4, 1) := by decide +kernel
theorem dX4_init_73 : decode cX4_init 73 = .ok (.anewarray 39, 3) := by decide +kernel
theorem dX4_init_76 : decode cX4_init 76 = .ok (.putfield 41, 3) := by decide +kernel
theorem dX4_init_79 : decode cX4_init 79 = .ok (.iconst 0, 1) := by decide +kernel
theorem dX4_init_80 : decode cX4_init 80 = .ok (.istore_n 1, 1) := by decide +kernel
theorem dX4_init_81 : decode cX4_init 81 = .ok (.iload_n 1, 1) := by decide +kernel
theorem dX4_init_82 : decode cX4_init 82 = .ok (.iconst 4, 1) := by decide +kernel
theorem dX4_init_83 : decode cX4_init 83 = .ok (.if_icmp .ge 22, 3) := by decide +kernel
theorem dX4_init_86 : decode cX4_init 86 = .ok (.aload_n 0, 1) := by decide +kernel
theorem dX4_init_87 : decode cX4_init 87 = .ok (.getfield 41, 3) := by decide +kernel
theorem dX4_init_90 : decode cX4_init 90 = .ok (.iload_n 1, 1) := by decide +kernel
theorem dX4_init_91 : decode cX4_init 91 = .ok (.new 39, 3) := by decide +kernel
theorem dX4_init_94 : decode cX4_init 94 = .ok (.dup, 1) := by decide +kernel
theorem dX4_init_95 : decode cX4_init 95 = .ok (.invokespecial 45, 3) := by decide +kernel
theorem dX4_init_98 : decode cX4_init 98 = .ok (.aastore, 1) := by decide +kernel
theorem dX4_init_99 : decode cX4_init 99 = .ok (.iinc 1 1, 3) := by decide +kernel
theorem dX4_init_102 : decode cX4_init 102 = .ok (.goto (-21), 3) := by decide +kernel
theorem dX4_init_105 : decode cX4_init 105 = .ok (.return_, 1) := by decide +kernel
theorem dX4_board_0 : decode cX4_board 0 = .ok (.iload_n 1, 1) := by decide +kernel
theorem dX4_board_1 : decode cX4_board 1 = .ok (.iconst 1, 1) := by decide +kernel
theorem dX4_board_2 : decode cX4_board 2 = .ok (.bipush 7, 2) := by decide +kernel
theorem dX4_board_4 : decode cX4_board 4 = .ok (.invokestatic 46, 3) := by decide +kernel
theorem dX4_board_7 : decode cX4_board 7 = .ok (.ifCond .eq 30, 3) := by decide +kernel
theorem dX4_board_10 : decode cX4_board 10 = .ok (.iload_n 2, 1) := by decide +kernel
theorem dX4_board_11 : decode cX4_board 11 = .ok (.iconst 1, 1) := by decide +kernel
theorem dX4_board_12 : decode cX4_board 12 = .ok (.bipush 6, 2) := by decide +kernel
theorem dX4_board_14 : decode cX4_board 14 = .ok (.invokestatic 46, 3) := by decide +kernel
theorem dX4_board_17 : decode cX4_board 17 = .ok (.ifCond .eq 20, 3) := by decide +kernel
theorem dX4_board_20 : decode cX4_board 20 = .ok (.iload_n 1, 1) := by decide +kernel
theorem dX4_board_21 : decode cX4_board 21 = .ok (.iload_n 2, 1) := by decide +kernel
theorem dX4_board_22 : decode cX4_board 22 = .ok (.imul, 1) := by decide +kernel
theorem dX4_board_23 : decode cX4_board 23 = .ok (.bipush 16, 2) := by decide +kernel
theorem dX4_board_25 : decode cX4_board 25 = .ok (.if_icmp .gt 12, 3) := by decide +kernel
theorem dX4_board_28 : decode cX4_board 28 = .ok (.iload_n 3, 1) := by decide +kernel
theorem dX4_board_29 : decode cX4_board 29 = .ok (.iconst 2, 1) := by decide +kernel
theorem dX4_board_30 : decode cX4_board 30 = .ok (.iconst 4, 1) := by decide +kernel
theorem dX4_board_31 : decode cX4_board 31 = .ok (.invokestatic 46, 3) := by decide +kernel
theorem dX4_board_34 : decode cX4_board 34 = .ok (.ifCond .ne 7, 3) := by decide +kernel
theorem dX4_board_37 : decode cX4_board 37 = .ok (.sipush (-200), 3) := by decide +kernel
theorem dX4_board_40 : decode cX4_board 40 = .ok (.ireturn, 1) := by decide +kernel
theorem dX4_board_41 : decode cX4_board 41 = .ok (.aload_n 0, 1) := by decide +kernel
theorem dX4_board_42 : decode cX4_board 42 = .ok (.getfield 50, 3) := by decide +kernel
theorem dX4_board_45 : decode cX4_board 45 = .ok (.bipush 12, 2) := by decide +kernel
theorem dX4_board_47 : decode cX4_board 47 = .ok (.if_icmp .lt 7, 3) := by decide +kernel
theorem dX4_board_50 : decode cX4_board 50 = .ok (.sipush (-202), 3) := by decide +kernel
theorem dX4_board_53 : decode cX4_board 53 = .ok (.ireturn, 1) := by decide +kernel
theorem dX4_board_54 : decode cX4_board 54 = .ok (.aload_n 0, 1) := by decide +kernel
theorem dX4_board_55 : decode cX4_board 55 = .ok (.dup, 1) := by decide +kernel
theorem dX4_board_56 : decode cX4_board 56 = .ok (.getfield 50, 3) := by decide +kernel
theorem dX4_board_59 : decode cX4_board 59 = .ok (.iconst 1, 1) := by decide +kernel
theorem dX4_board_60 : decode cX4_board 60 = .ok (.iadd, 1) := by decide +kernel
theorem dX4_board_61 : decode cX4_board 61 = .ok (.putfield 50, 3) := by decide +kernel
theorem dX4_board_64 : decode cX4_board 64 = .ok (.aload_n 0, 1) := by decide +kernel
theorem dX4_board_65 : decode cX4_board 65 = .ok (.getfield 10, 3) := by decide +kernel
theorem dX4_board_68 : decode cX4_board 68 = .ok (.iload_n 1, 1) := by decide +kernel
theorem dX4_board_69 : decode cX4_board 69 = .ok (.iload_n 2, 1) := by decide +kernel
theorem dX4_board_70 : decode cX4_board 70 = .ok (.iload_n 3, 1) := by decide +kernel
theorem dX4_board_71 : decode cX4_board 71 = .ok (.iload 4, 2) := by decide +kernel
theorem dX4_board_73 : decode cX4_board 73 = .ok (.invokevirtual 16, 3) := by decide +kernel
theorem dX4_board_76 : decode cX4_board 76 = .ok (.aload_n 0, 1) := by decide +kernel
theorem dX4_board_77 : decode cX4_board 77 = .ok (.getfield 25, 3) := by decide +kernel
theorem dX4_board_80 : decode cX4_board 80 = .ok (.invokevirtual 54, 3) := by decide +kernel
theorem dX4_board_83 : decode cX4_board 83 = .ok (.aload_n 0, 1) := by decide +kernel
theorem dX4_board_84 : decode cX4_board 84 = .ok (.getfield 32, 3) := by decide +kernel
theorem dX4_board_87 : decode cX4_board 87 = .ok (.invokevirtual 57, 3) := by decide +kernel
theorem dX4_board_90 : decode cX4_board 90 = .ok (.aload_n 0, 1) := by decide +kernel
theorem dX4_board_91 : decode cX4_board 91 = .ok (.getfield 10, 3) := by decide +kernel
theorem dX4_board_94 : decode cX4_board 94 = .ok (.getfield 60, 3) := by decide +kernel
theorem dX4_board_97 : decode cX4_board 97 = .ok (.ireturn, 1) := by decide +kernel
theorem dX4_drop_0 : decode cX4_drop 0 = .ok (.aload_n 0, 1) := by decide +kernel
theorem dX4_drop_1 : decode cX4_drop 1 = .ok (.getfield 32, 3) := by decide +kernel
theorem dX4_drop_4 : decode cX4_drop 4 = .ok (.iload_n 1, 1) := by decide +kernel
theorem dX4_drop_5 : decode cX4_drop 5 = .ok (.invokevirtual 63, 3) := by decide +kernel
theorem dX4_drop_8 : decode cX4_drop 8 = .ok (.ifCond .ne 7, 3) := by decide +kernel
theorem dX4_drop_11 : decode cX4_drop 11 = .ok (.sipush (-200), 3) := by decide +kernel
theorem dX4_drop_14 : decode cX4_drop 14 = .ok (.ireturn, 1) := by decide +kernel
theorem dX4_drop_15 : decode cX4_drop 15 = .ok (.aload_n 0, 1) := by decide +kernel
theorem dX4_drop_16 : decode cX4_drop 16 = .ok (.getfield 32, 3) := by decide +kernel
theorem dX4_drop_19 : decode cX4_drop 19 = .ok (.invokevirtual 67, 3) := by decide +kernel
theorem dX4_drop_22 : decode cX4_drop 22 = .ok (.ifCond .eq 7, 3) := by decide +kernel
theorem dX4_drop_25 : decode cX4_drop 25 = .ok (.sipush (-201), 3) := by decide +kernel
theorem dX4_drop_28 : decode cX4_drop 28 = .ok (.ireturn, 1) := by decide +kernel
theorem dX4_drop_29 : decode cX4_drop 29 = .ok (.aload_n 0, 1) := by decide +kernel
theorem dX4_drop_30 : decode cX4_drop 30 = .ok (.getfield 32, 3) := by decide +kernel
theorem dX4_drop_33 : decode cX4_drop 33 = .ok (.iload_n 1, 1) := by decide +kernel
theorem dX4_drop_34 : decode cX4_drop 34 = .ok (.invokevirtual 71, 3) := by decide +kernel
theorem dX4_drop_37 : decode cX4_drop 37 = .ok (.ireturn, 1) := by decide +kernel
theorem dX4_back_0 : decode cX4_back 0 = .ok (.iload_n 1, 1) := by decide +kernel
theorem dX4_back_1 : decode cX4_back 1 = .ok (.iconst 0, 1) := by decide +kernel
theorem dX4_back_2 : decode cX4_back 2 = .ok (.aload_n 0, 1) := by decide +kernel
theorem dX4_back_3 : decode cX4_back 3 = .ok (.getfield 32, 3) := by decide +kernel
theorem dX4_back_6 : decode cX4_back 6 = .ok (.getfield 75, 3) := by decide +kernel
theorem dX4_back_9 : decode cX4_back 9 = .ok (.invokestatic 46, 3) := by decide +kernel
theorem dX4_back_12 : decode cX4_back 12 = .ok (.ifCond .ne 7, 3) := by decide +kernel
theorem dX4_back_15 : decode cX4_back 15 = .ok (.sipush (-200), 3) := by decide +kernel
theorem dX4_back_18 : decode cX4_back 18 = .ok (.ireturn, 1) := by decide +kernel
theorem dX4_back_19 : decode cX4_back 19 = .ok (.iconst 0, 1) := by decide +kernel
theorem dX4_back_20 : decode cX4_back 20 = .ok (.istore_n 2, 1) := by decide +kernel
theorem dX4_back_21 : decode cX4_back 21 = .ok (.iload_n 2, 1) := by decide +kernel
theorem dX4_back_22 : decode cX4_back 22 = .ok (.iload_n 1, 1) := by decide +kernel
theorem dX4_back_23 : decode cX4_back 23 = .ok (.if_icmp .ge 16, 3) := by decide +kernel
theorem dX4_back_26 : decode cX4_back 26 = .ok (.aload_n 0, 1) := by decide +kernel
theorem dX4_back_27 : decode cX4_back 27 = .ok (.getfield 32, 3) := by decide +kernel
theorem dX4_back_30 : decode cX4_back 30 = .ok (.invokevirtual 78, 3) := by decide +kernel
theorem dX4_back_33 : decode cX4_back 33 = .ok (.iinc 2 1, 3) := by decide +kernel
theorem dX4_back_36 : decode cX4_back 36 = .ok (.goto (-15), 3) := by decide +kernel
theorem dX4_back_39 : decode cX4_back 39 = .ok (.aload_n 0, 1) := by decide +kernel
theorem dX4_back_40 : decode cX4_back 40 = .ok (.getfield 32, 3) := by decide +kernel
theorem dX4_back_43 : decode cX4_back 43 = .ok (.getfield 75, 3) := by decide +kernel
theorem dX4_back_46 : decode cX4_back 46 = .ok (.ireturn, 1) := by decide +kernel
theorem dX4_move_0 : decode cX4_move 0 = .ok (.iload_n 1, 1) := by decide +kernel
theorem dX4_move_1 : decode cX4_move 1 = .ok (.iconst 0, 1) := by decide +kernel
theorem dX4_move_2 : decode cX4_move 2 = .ok (.aload_n 0, 1) := by decide +kernel
theorem dX4_move_3 : decode cX4_move 3 = .ok (.getfield 32, 3) := by decide +kernel
theorem dX4_move_6 : decode cX4_move 6 = .ok (.getfield 75, 3) := by decide +kernel
theorem dX4_move_9 : decode cX4_move 9 = .ok (.iconst 1, 1) := by decide +kernel
theorem dX4_move_10 : decode cX4_move 10 = .ok (.isub, 1) := by decide +kernel
theorem dX4_move_11 : decode cX4_move 11 = .ok (.invokestatic 46, 3) := by decide +kernel
theorem dX4_move_14 : decode cX4_move 14 = .ok (.ifCond .eq 15, 3) := by decide +kernel
theorem dX4_move_17 : decode cX4_move 17 = .ok (.aload_n 0, 1) := by decide +kernel
theorem dX4_move_18 : decode cX4_move 18 = .ok (.getfield 32, 3) := by decide +kernel
theorem dX4_move_21 : decode cX4_move 21 = .ok (.getfield 81, 3) := by decide +kernel
theorem dX4_move_24 : decode cX4_move 24 = .ok (.iload_n 1, 1) := by decide +kernel
theorem dX4_move_25 : decode cX4_move 25 = .ok (.iaload, 1) := by decide +kernel
theorem dX4_move_26 : decode cX4_move 26 = .ok (.goto 6, 3) := by decide +kernel
theorem dX4_move_29 : decode cX4_move 29 = .ok (.sipush (-200), 3) := by decide +kernel
theorem dX4_move_32 : decode cX4_move 32 = .ok (.ireturn, 1) := by decide +kernel
theorem dX4_at_0 : decode cX4_at 0 = .ok (.iload_n 1, 1) := by decide +kernel
theorem dX4_at_1 : decode cX4_at 1 = .ok (.iconst 0, 1) := by decide +kernel
theorem dX4_at_2 : decode cX4_at 2 = .ok (.aload_n 0, 1) := by decide +kernel
theorem dX4_at_3 : decode cX4_at 3 = .ok (.getfield 10, 3) := by decide +kernel
theorem dX4_at_6 : decode cX4_at 6 = .ok (.getfield 85, 3) := by decide +kernel
theorem dX4_at_9 : decode cX4_at 9 = .ok (.iconst 1, 1) := by decide +kernel
theorem dX4_at_10 : decode cX4_at 10 = .ok (.isub, 1) := by decide +kernel
theorem dX4_at_11 : decode cX4_at 11 = .ok (.invokestatic 46, 3) := by decide +kernel
theorem dX4_at_14 : decode cX4_at 14 = .ok (.ifCond .eq 14, 3) := by decide +kernel
theorem dX4_at_17 : decode cX4_at 17 = .ok (.aload_n 0, 1) := by decide +kernel
theorem dX4_at_18 : decode cX4_at 18 = .ok (.getfield 32, 3) := by decide +kernel
theorem dX4_at_21 : decode cX4_at 21 = .ok (.iload_n 1, 1) := by decide +kernel
theorem dX4_at_22 : decode cX4_at 22 = .ok (.invokevirtual 88, 3) := by decide +kernel
theorem dX4_at_25 : decode cX4_at 25 = .ok (.goto 6, 3) := by decide +kernel
theorem dX4_at_28 : decode cX4_at 28 = .ok (.sipush (-200), 3) := by decide +kernel
theorem dX4_at_31 : decode cX4_at 31 = .ok (.ireturn, 1) := by decide +kernel
theorem dX4_game_0 : decode cX4_game 0 = .ok (.iload_n 1, 1) := by decide +kernel
theorem dX4_game_1 : decode cX4_game 1 = .ok (.tableswitch 101 0 4 #[35, 43, 51, 59, 67], 35) := by decide +kernel
theorem dX4_game_36 : decode cX4_game 36 = .ok (.aload_n 0, 1) := by decide +kernel
theorem dX4_game_37 : decode cX4_game 37 = .ok (.getfield 32, 3) := by decide +kernel
theorem dX4_game_40 : decode cX4_game 40 = .ok (.invokevirtual 91, 3) := by decide +kernel
theorem dX4_game_43 : decode cX4_game 43 = .ok (.ireturn, 1) := by decide +kernel
theorem dX4_game_44 : decode cX4_game 44 = .ok (.aload_n 0, 1) := by decide +kernel
theorem dX4_game_45 : decode cX4_game 45 = .ok (.getfield 32, 3) := by decide +kernel
theorem dX4_game_48 : decode cX4_game 48 = .ok (.getfield 75, 3) := by decide +kernel
theorem dX4_game_51 : decode cX4_game 51 = .ok (.ireturn, 1) := by decide +kernel
theorem dX4_game_52 : decode cX4_game 52 = .ok (.aload_n 0, 1) := by decide +kernel
theorem dX4_game_53 : decode cX4_game 53 = .ok (.getfield 32, 3) := by decide +kernel
theorem dX4_game_56 : decode cX4_game 56 = .ok (.invokevirtual 95, 3) := by decide +kernel
theorem dX4_game_59 : decode cX4_game 59 = .ok (.ireturn, 1) := by decide +kernel
theorem dX4_game_60 : decode cX4_game 60 = .ok (.aload_n 0, 1) := by decide +kernel
theorem dX4_game_61 : decode cX4_game 61 = .ok (.getfield 32, 3) := by decide +kernel
theorem dX4_game_64 : decode cX4_game 64 = .ok (.invokevirtual 98, 3) := by decide +kernel
theorem dX4_game_67 : decode cX4_game 67 = .ok (.ireturn, 1) := by decide +kernel
theorem dX4_game_68 : decode cX4_game 68 = .ok (.aload_n 0, 1) := by decide +kernel
theorem dX4_game_69 : decode cX4_game 69 = .ok (.getfield 10, 3) := by decide +kernel
theorem dX4_game_72 : decode cX4_game 72 = .ok (.aload_n 0, 1) := by decide +kernel
theorem dX4_game_73 : decode cX4_game 73 = .ok (.getfield 32, 3) := by decide +kernel
theorem dX4_game_76 : decode cX4_game 76 = .ok (.getfield 101, 3) := by decide +kernel
theorem dX4_game_79 : decode cX4_game 79 = .ok (.iconst 0, 1) := by decide +kernel
theorem dX4_game_80 : decode cX4_game 80 = .ok (.iaload, 1) := by decide +kernel
theorem dX4_game_81 : decode cX4_game 81 = .ok (.invokevirtual 104, 3) := by decide +kernel
theorem dX4_game_84 : decode cX4_game 84 = .ok (.aload_n 0, 1) := by decide +kernel
theorem dX4_game_85 : decode cX4_game 85 = .ok (.getfield 10, 3) := by decide +kernel
theorem dX4_game_88 : decode cX4_game 88 = .ok (.aload_n 0, 1) := by decide +kernel
theorem dX4_game_89 : decode cX4_game 89 = .ok (.getfield 32, 3) := by decide +kernel
theorem dX4_game_92 : decode cX4_game 92 = .ok (.getfield 101, 3) := by decide +kernel
theorem dX4_game_95 : decode cX4_game 95 = .ok (.iconst 1, 1) := by decide +kernel
theorem dX4_game_96 : decode cX4_game 96 = .ok (.iaload, 1) := by decide +kernel
theorem dX4_game_97 : decode cX4_game 97 = .ok (.invokevirtual 104, 3) := by decide +kernel
theorem dX4_game_100 : decode cX4_game 100 = .ok (.iadd, 1) := by decide +kernel
theorem dX4_game_101 : decode cX4_game 101 = .ok (.ireturn, 1) := by decide +kernel
theorem dX4_game_102 : decode cX4_game 102 = .ok (.sipush (-200), 3) := by decide +kernel
theorem dX4_game_105 : decode cX4_game 105 = .ok (.ireturn, 1) := by decide +kernel
theorem dX4_won_0 : decode cX4_won 0 = .ok (.aload_n 0, 1) := by decide +kernel
theorem dX4_won_1 : decode cX4_won 1 = .ok (.getfield 32, 3) := by decide +kernel
theorem dX4_won_4 : decode cX4_won 4 = .ok (.invokevirtual 95, 3) := by decide +kernel
theorem dX4_won_7 : decode cX4_won 7 = .ok (.iconst 1, 1) := by decide +kernel
theorem dX4_won_8 : decode cX4_won 8 = .ok (.if_icmp .ne 20, 3) := by decide +kernel
theorem dX4_won_11 : decode cX4_won 11 = .ok (.iload_n 1, 1) := by decide +kernel
theorem dX4_won_12 : decode cX4_won 12 = .ok (.iconst 0, 1) := by decide +kernel
theorem dX4_won_13 : decode cX4_won 13 = .ok (.aload_n 0, 1) := by decide +kernel
theorem dX4_won_14 : decode cX4_won 14 = .ok (.getfield 10, 3) := by decide +kernel
theorem dX4_won_17 : decode cX4_won 17 = .ok (.getfield 107, 3) := by decide +kernel
theorem dX4_won_20 : decode cX4_won 20 = .ok (.iconst 1, 1) := by decide +kernel
theorem dX4_won_21 : decode cX4_won 21 = .ok (.isub, 1) := by decide +kernel
theorem dX4_won_22 : decode cX4_won 22 = .ok (.invokestatic 46, 3) := by decide +kernel
theorem dX4_won_25 : decode cX4_won 25 = .ok (.ifCond .ne 7, 3) := by decide +kernel
theorem dX4_won_28 : decode cX4_won 28 = .ok (.sipush (-200), 3) := by decide +kernel
theorem dX4_won_31 : decode cX4_won 31 = .ok (.ireturn, 1) := by decide +kernel
theorem dX4_won_32 : decode cX4_won 32 = .ok (.aload_n 0, 1) := by decide +kernel
theorem dX4_won_33 : decode cX4_won 33 = .ok (.getfield 10, 3) := by decide +kernel
theorem dX4_won_36 : decode cX4_won 36 = .ok (.aload_n 0, 1) := by decide +kernel
theorem dX4_won_37 : decode cX4_won 37 = .ok (.getfield 32, 3) := by decide +kernel
theorem dX4_won_40 : decode cX4_won 40 = .ok (.getfield 101, 3) := by decide +kernel
theorem dX4_won_43 : decode cX4_won 43 = .ok (.iconst 1, 1) := by decide +kernel
theorem dX4_won_44 : decode cX4_won 44 = .ok (.aload_n 0, 1) := by decide +kernel
theorem dX4_won_45 : decode cX4_won 45 = .ok (.getfield 32, 3) := by decide +kernel
theorem dX4_won_48 : decode cX4_won 48 = .ok (.invokevirtual 91, 3) := by decide +kernel
theorem dX4_won_51 : decode cX4_won 51 = .ok (.isub, 1) := by decide +kernel
theorem dX4_won_52 : decode cX4_won 52 = .ok (.iaload, 1) := by decide +kernel
theorem dX4_won_53 : decode cX4_won 53 = .ok (.invokevirtual 110, 3) := by decide +kernel
theorem dX4_won_56 : decode cX4_won 56 = .ok (.iload_n 1, 1) := by decide +kernel
theorem dX4_won_57 : decode cX4_won 57 = .ok (.invokestatic 113, 3) := by decide +kernel
theorem dX4_won_60 : decode cX4_won 60 = .ok (.ireturn, 1) := by decide +kernel
theorem dX4_worth_0 : decode cX4_worth 0 = .ok (.aload_n 0, 1) := by decide +kernel
theorem dX4_worth_1 : decode cX4_worth 1 = .ok (.getfield 32, 3) := by decide +kernel
theorem dX4_worth_4 : decode cX4_worth 4 = .ok (.invokevirtual 67, 3) := by decide +kernel
theorem dX4_worth_7 : decode cX4_worth 7 = .ok (.ifCond .eq 7, 3) := by decide +kernel
theorem dX4_worth_10 : decode cX4_worth 10 = .ok (.sipush (-201), 3) := by decide +kernel
theorem dX4_worth_13 : decode cX4_worth 13 = .ok (.ireturn, 1) := by decide +kernel
theorem dX4_worth_14 : decode cX4_worth 14 = .ok (.aload_n 0, 1) := by decide +kernel
theorem dX4_worth_15 : decode cX4_worth 15 = .ok (.getfield 25, 3) := by decide +kernel
theorem dX4_worth_18 : decode cX4_worth 18 = .ok (.aload_n 0, 1) := by decide +kernel
theorem dX4_worth_19 : decode cX4_worth 19 = .ok (.getfield 32, 3) := by decide +kernel
theorem dX4_worth_22 : decode cX4_worth 22 = .ok (.invokevirtual 117, 3) := by decide +kernel
theorem dX4_worth_25 : decode cX4_worth 25 = .ok (.aload_n 0, 1) := by decide +kernel
theorem dX4_worth_26 : decode cX4_worth 26 = .ok (.getfield 25, 3) := by decide +kernel
theorem dX4_worth_29 : decode cX4_worth 29 = .ok (.invokevirtual 121, 3) := by decide +kernel
theorem dX4_worth_32 : decode cX4_worth 32 = .ok (.ireturn, 1) := by decide +kernel
theorem dX4_worthOf_0 : decode cX4_worthOf 0 = .ok (.aload_n 0, 1) := by decide +kernel
theorem dX4_worthOf_1 : decode cX4_worthOf 1 = .ok (.getfield 32, 3) := by decide +kernel
theorem dX4_worthOf_4 : decode cX4_worthOf 4 = .ok (.invokevirtual 67, 3) := by decide +kernel
theorem dX4_worthOf_7 : decode cX4_worthOf 7 = .ok (.ifCond .eq 7, 3) := by decide +kernel
theorem dX4_worthOf_10 : decode cX4_worthOf 10 = .ok (.sipush (-201), 3) := by decide +kernel
theorem dX4_worthOf_13 : decode cX4_worthOf 13 = .ok (.ireturn, 1) := by decide +kernel
theorem dX4_worthOf_14 : decode cX4_worthOf 14 = .ok (.aload_n 0, 1) := by decide +kernel
theorem dX4_worthOf_15 : decode cX4_worthOf 15 = .ok (.getfield 32, 3) := by decide +kernel
theorem dX4_worthOf_18 : decode cX4_worthOf 18 = .ok (.iload_n 1, 1) := by decide +kernel
theorem dX4_worthOf_19 : decode cX4_worthOf 19 = .ok (.invokevirtual 63, 3) := by decide +kernel
theorem dX4_worthOf_22 : decode cX4_worthOf 22 = .ok (.ifCond .ne 7, 3) := by decide +kernel
theorem dX4_worthOf_25 : decode cX4_worthOf 25 = .ok (.sipush (-200), 3) := by decide +kernel
theorem dX4_worthOf_28 : decode cX4_worthOf 28 = .ok (.ireturn, 1) := by decide +kernel
theorem dX4_worthOf_29 : decode cX4_worthOf 29 = .ok (.aload_n 0, 1) := by decide +kernel
theorem dX4_worthOf_30 : decode cX4_worthOf 30 = .ok (.getfield 25, 3) := by decide +kernel
theorem dX4_worthOf_33 : decode cX4_worthOf 33 = .ok (.aload_n 0, 1) := by decide +kernel
theorem dX4_worthOf_34 : decode cX4_worthOf 34 = .ok (.getfield 32, 3) := by decide +kernel
theorem dX4_worthOf_37 : decode cX4_worthOf 37 = .ok (.invokevirtual 117, 3) := by decide +kernel
theorem dX4_worthOf_40 : decode cX4_worthOf 40 = .ok (.aload_n 0, 1) := by decide +kernel
theorem dX4_worthOf_41 : decode cX4_worthOf 41 = .ok (.getfield 25, 3) := by decide +kernel
theorem dX4_worthOf_44 : decode cX4_worthOf 44 = .ok (.iload_n 1, 1) := by decide +kernel
theorem dX4_worthOf_45 : decode cX4_worthOf 45 = .ok (.invokevirtual 124, 3) := by decide +kernel
theorem dX4_worthOf_48 : decode cX4_worthOf 48 = .ok (.ireturn, 1) := by decide +kernel
theorem dX4_best_0 : decode cX4_best 0 = .ok (.aload_n 0, 1) := by decide +kernel
theorem dX4_best_1 : decode cX4_best 1 = .ok (.getfield 32, 3) := by decide +kernel
theorem dX4_best_4 : decode cX4_best 4 = .ok (.invokevirtual 67, 3) := by decide +kernel
theorem dX4_best_7 : decode cX4_best 7 = .ok (.ifCond .eq 9, 3) := by decide +kernel
theorem dX4_best_10 : decode cX4_best 10 = .ok (.sipush (-201), 3) := by decide +kernel
theorem dX4_best_13 : decode cX4_best 13 = .ok (.goto 7, 3) := by decide +kernel
theorem dX4_best_16 : decode cX4_best 16 = .ok (.aload_n 0, 1) := by decide +kernel
theorem dX4_best_17 : decode cX4_best 17 = .ok (.invokevirtual 127, 3) := by decide +kernel
theorem dX4_best_20 : decode cX4_best 20 = .ok (.ireturn, 1) := by decide +kernel
theorem dX4_as_0 : decode cX4_as 0 = .ok (.aload_n 0, 1) := by decide +kernel
theorem dX4_as_1 : decode cX4_as 1 = .ok (.getfield 32, 3) := by decide +kernel
theorem dX4_as_4 : decode cX4_as 4 = .ok (.invokevirtual 67, 3) := by decide +kernel
theorem dX4_as_7 : decode cX4_as 7 = .ok (.ifCond .eq 7, 3) := by decide +kernel
theorem dX4_as_10 : decode cX4_as 10 = .ok (.sipush (-201), 3) := by decide +kernel
theorem dX4_as_13 : decode cX4_as 13 = .ok (.ireturn, 1) := by decide +kernel
theorem dX4_as_14 : decode cX4_as 14 = .ok (.aload_n 0, 1) := by decide +kernel
theorem dX4_as_15 : decode cX4_as 15 = .ok (.getfield 25, 3) := by decide +kernel
theorem dX4_as_18 : decode cX4_as 18 = .ok (.aload_n 0, 1) := by decide +kernel
theorem dX4_as_19 : decode cX4_as 19 = .ok (.getfield 32, 3) := by decide +kernel
theorem dX4_as_22 : decode cX4_as 22 = .ok (.invokevirtual 117, 3) := by decide +kernel
theorem dX4_as_25 : decode cX4_as 25 = .ok (.aload_n 0, 1) := by decide +kernel
theorem dX4_as_26 : decode cX4_as 26 = .ok (.getfield 25, 3) := by decide +kernel
theorem dX4_as_29 : decode cX4_as 29 = .ok (.invokevirtual 121, 3) := by decide +kernel
theorem dX4_as_32 : decode cX4_as 32 = .ok (.istore_n 1, 1) := by decide +kernel
theorem dX4_as_33 : decode cX4_as 33 = .ok (.iconst 0, 1) := by decide +kernel
theorem dX4_as_34 : decode cX4_as 34 = .ok (.istore_n 2, 1) := by decide +kernel
theorem dX4_as_35 : decode cX4_as 35 = .ok (.iconst 0, 1) := by decide +kernel
theorem dX4_as_36 : decode cX4_as 36 = .ok (.istore_n 3, 1) := by decide +kernel
theorem dX4_as_37 : decode cX4_as 37 = .ok (.iload_n 3, 1) := by decide +kernel
theorem dX4_as_38 : decode cX4_as 38 = .ok (.aload_n 0, 1) := by decide +kernel
theorem dX4_as_39 : decode cX4_as 39 = .ok (.getfield 10, 3) := by decide +kernel
theorem dX4_as_42 : decode cX4_as 42 = .ok (.getfield 130, 3) := by decide +kernel
theorem dX4_as_45 : decode cX4_as 45 = .ok (.if_icmp .ge 35, 3) := by decide +kernel
theorem dX4_as_48 : decode cX4_as 48 = .ok (.aload_n 0, 1) := by decide +kernel
theorem dX4_as_49 : decode cX4_as 49 = .ok (.getfield 32, 3) := by decide +kernel
theorem dX4_as_52 : decode cX4_as 52 = .ok (.iload_n 3, 1) := by decide +kernel
theorem dX4_as_53 : decode cX4_as 53 = .ok (.invokevirtual 63, 3) := by decide +kernel
theorem dX4_as_56 : decode cX4_as 56 = .ok (.ifCond .eq 18, 3) := by decide +kernel
theorem dX4_as_59 : decode cX4_as 59 = .ok (.aload_n 0, 1) := by decide +kernel
theorem dX4_as_60 : decode cX4_as 60 = .ok (.getfield 25, 3) := by decide +kernel
theorem dX4_as_63 : decode cX4_as 63 = .ok (.iload_n 3, 1) := by decide +kernel
theorem dX4_as_64 : decode cX4_as 64 = .ok (.invokevirtual 124, 3) := by decide +kernel
theorem dX4_as_67 : decode cX4_as 67 = .ok (.iload_n 1, 1) := by decide +kernel
theorem dX4_as_68 : decode cX4_as 68 = .ok (.if_icmp .ne 6, 3) := by decide +kernel
theorem dX4_as_71 : decode cX4_as 71 = .ok (.iinc 2 1, 3) := by decide +kernel
theorem dX4_as_74 : decode cX4_as 74 = .ok (.iinc 3 1, 3) := by decide +kernel
theorem dX4_as_77 : decode cX4_as 77 = .ok (.goto (-40), 3) := by decide +kernel
theorem dX4_as_80 : decode cX4_as 80 = .ok (.iload_n 2, 1) := by decide +kernel
theorem dX4_as_81 : decode cX4_as 81 = .ok (.ireturn, 1) := by decide +kernel
theorem dX4_play_0 : decode cX4_play 0 = .ok (.aload_n 0, 1) := by decide +kernel
theorem dX4_play_1 : decode cX4_play 1 = .ok (.getfield 32, 3) := by decide +kernel
theorem dX4_play_4 : decode cX4_play 4 = .ok (.invokevirtual 67, 3) := by decide +kernel
theorem dX4_play_7 : decode cX4_play 7 = .ok (.ifCond .eq 7, 3) := by decide +kernel
theorem dX4_play_10 : decode cX4_play 10 = .ok (.sipush (-201), 3) := by decide +kernel
theorem dX4_play_13 : decode cX4_play 13 = .ok (.ireturn, 1) := by decide +kernel
theorem dX4_play_14 : decode cX4_play 14 = .ok (.aload_n 0, 1) := by decide +kernel
theorem dX4_play_15 : decode cX4_play 15 = .ok (.getfield 32, 3) := by decide +kernel
theorem dX4_play_18 : decode cX4_play 18 = .ok (.getfield 75, 3) := by decide +kernel
theorem dX4_play_21 : decode cX4_play 21 = .ok (.istore_n 1, 1) := by decide +kernel
theorem dX4_play_22 : decode cX4_play 22 = .ok (.iload_n 1, 1) := by decide +kernel
theorem dX4_play_23 : decode cX4_play 23 = .ok (.istore_n 2, 1) := by decide +kernel
theorem dX4_play_24 : decode cX4_play 24 = .ok (.iload_n 2, 1) := by decide +kernel
theorem dX4_play_25 : decode cX4_play 25 = .ok (.aload_n 0, 1) := by decide +kernel
theorem dX4_play_26 : decode cX4_play 26 = .ok (.getfield 10, 3) := by decide +kernel
theorem dX4_play_29 : decode cX4_play 29 = .ok (.getfield 85, 3) := by decide +kernel
theorem dX4_play_32 : decode cX4_play 32 = .ok (.if_icmp .ge 31, 3) := by decide +kernel
theorem dX4_play_35 : decode cX4_play 35 = .ok (.aload_n 0, 1) := by decide +kernel
theorem dX4_play_36 : decode cX4_play 36 = .ok (.getfield 32, 3) := by decide +kernel
theorem dX4_play_39 : decode cX4_play 39 = .ok (.invokevirtual 67, 3) := by decide +kernel
theorem dX4_play_42 : decode cX4_play 42 = .ok (.ifCond .ne 21, 3) := by decide +kernel
theorem dX4_play_45 : decode cX4_play 45 = .ok (.aload_n 0, 1) := by decide +kernel
theorem dX4_play_46 : decode cX4_play 46 = .ok (.getfield 32, 3) := by decide +kernel
theorem dX4_play_49 : decode cX4_play 49 = .ok (.aload_n 0, 1) := by decide +kernel
theorem dX4_play_50 : decode cX4_play 50 = .ok (.invokevirtual 127, 3) := by decide +kernel
theorem dX4_play_53 : decode cX4_play 53 = .ok (.invokevirtual 71, 3) := by decide +kernel
theorem dX4_play_56 : decode cX4_play 56 = .ok (.pop, 1) := by decide +kernel
theorem dX4_play_57 : decode cX4_play 57 = .ok (.iinc 2 1, 3) := by decide +kernel
theorem dX4_play_60 : decode cX4_play 60 = .ok (.goto (-36), 3) := by decide +kernel
theorem dX4_play_63 : decode cX4_play 63 = .ok (.aload_n 0, 1) := by decide +kernel
theorem dX4_play_64 : decode cX4_play 64 = .ok (.getfield 32, 3) := by decide +kernel
theorem dX4_play_67 : decode cX4_play 67 = .ok (.getfield 75, 3) := by decide +kernel
theorem dX4_play_70 : decode cX4_play 70 = .ok (.iload_n 1, 1) := by decide +kernel
theorem dX4_play_71 : decode cX4_play 71 = .ok (.isub, 1) := by decide +kernel
theorem dX4_play_72 : decode cX4_play 72 = .ok (.ireturn, 1) := by decide +kernel
theorem dX4_positions_0 : decode cX4_positions 0 = .ok (.iload_n 1, 1) := by decide +kernel
theorem dX4_positions_1 : decode cX4_positions 1 = .ok (.iconst 0, 1) := by decide +kernel
theorem dX4_positions_2 : decode cX4_positions 2 = .ok (.aload_n 0, 1) := by decide +kernel
theorem dX4_positions_3 : decode cX4_positions 3 = .ok (.getfield 10, 3) := by decide +kernel
theorem dX4_positions_6 : decode cX4_positions 6 = .ok (.getfield 85, 3) := by decide +kernel
theorem dX4_positions_9 : decode cX4_positions 9 = .ok (.invokestatic 46, 3) := by decide +kernel
theorem dX4_positions_12 : decode cX4_positions 12 = .ok (.ifCond .eq 15, 3) := by decide +kernel
theorem dX4_positions_15 : decode cX4_positions 15 = .ok (.aload_n 0, 1) := by decide +kernel
theorem dX4_positions_16 : decode cX4_positions 16 = .ok (.getfield 25, 3) := by decide +kernel
theorem dX4_positions_19 : decode cX4_positions 19 = .ok (.iconst 0, 1) := by decide +kernel
theorem dX4_positions_20 : decode cX4_positions 20 = .ok (.iload_n 1, 1) := by decide +kernel
theorem dX4_positions_21 : decode cX4_positions 21 = .ok (.invokevirtual 133, 3) := by decide +kernel
theorem dX4_positions_24 : decode cX4_positions 24 = .ok (.goto 6, 3) := by decide +kernel
theorem dX4_positions_27 : decode cX4_positions 27 = .ok (.sipush (-200), 3) := by decide +kernel
theorem dX4_positions_30 : decode cX4_positions 30 = .ok (.ireturn, 1) := by decide +kernel
theorem dX4_wins_0 : decode cX4_wins 0 = .ok (.iload_n 1, 1) := by decide +kernel
theorem dX4_wins_1 : decode cX4_wins 1 = .ok (.iconst 0, 1) := by decide +kernel
theorem dX4_wins_2 : decode cX4_wins 2 = .ok (.aload_n 0, 1) := by decide +kernel
theorem dX4_wins_3 : decode cX4_wins 3 = .ok (.getfield 10, 3) := by decide +kernel
theorem dX4_wins_6 : decode cX4_wins 6 = .ok (.getfield 85, 3) := by decide +kernel
theorem dX4_wins_9 : decode cX4_wins 9 = .ok (.invokestatic 46, 3) := by decide +kernel
theorem dX4_wins_12 : decode cX4_wins 12 = .ok (.ifCond .eq 15, 3) := by decide +kernel
theorem dX4_wins_15 : decode cX4_wins 15 = .ok (.aload_n 0, 1) := by decide +kernel
theorem dX4_wins_16 : decode cX4_wins 16 = .ok (.getfield 25, 3) := by decide +kernel
theorem dX4_wins_19 : decode cX4_wins 19 = .ok (.iconst 1, 1) := by decide +kernel
theorem dX4_wins_20 : decode cX4_wins 20 = .ok (.iload_n 1, 1) := by decide +kernel
theorem dX4_wins_21 : decode cX4_wins 21 = .ok (.invokevirtual 133, 3) := by decide +kernel
theorem dX4_wins_24 : decode cX4_wins 24 = .ok (.goto 6, 3) := by decide +kernel
theorem dX4_wins_27 : decode cX4_wins 27 = .ok (.sipush (-200), 3) := by decide +kernel
theorem dX4_wins_30 : decode cX4_wins 30 = .ok (.ireturn, 1) := by decide +kernel
theorem dX4_share_0 : decode cX4_share 0 = .ok (.iload_n 1, 1) := by decide +kernel
theorem dX4_share_1 : decode cX4_share 1 = .ok (.iconst 0, 1) := by decide +kernel
theorem dX4_share_2 : decode cX4_share 2 = .ok (.aload_n 0, 1) := by decide +kernel
theorem dX4_share_3 : decode cX4_share 3 = .ok (.getfield 10, 3) := by decide +kernel
theorem dX4_share_6 : decode cX4_share 6 = .ok (.getfield 85, 3) := by decide +kernel
theorem dX4_share_9 : decode cX4_share 9 = .ok (.invokestatic 46, 3) := by decide +kernel
theorem dX4_share_12 : decode cX4_share 12 = .ok (.ifCond .eq 12, 3) := by decide +kernel
theorem dX4_share_15 : decode cX4_share 15 = .ok (.iload_n 2, 1) := by decide +kernel
theorem dX4_share_16 : decode cX4_share 16 = .ok (.iconst (-1), 1) := by decide +kernel
theorem dX4_share_17 : decode cX4_share 17 = .ok (.iconst 1, 1) := by decide +kernel
theorem dX4_share_18 : decode cX4_share 18 = .ok (.invokestatic 46, 3) := by decide +kernel
theorem dX4_share_21 : decode cX4_share 21 = .ok (.ifCond .ne 7, 3) := by decide +kernel
theorem dX4_share_24 : decode cX4_share 24 = .ok (.sipush (-200), 3) := by decide +kernel
theorem dX4_share_27 : decode cX4_share 27 = .ok (.ireturn, 1) := by decide +kernel
theorem dX4_share_28 : decode cX4_share 28 = .ok (.aload_n 0, 1) := by decide +kernel
theorem dX4_share_29 : decode cX4_share 29 = .ok (.getfield 25, 3) := by decide +kernel
theorem dX4_share_32 : decode cX4_share 32 = .ok (.iconst 3, 1) := by decide +kernel
theorem dX4_share_33 : decode cX4_share 33 = .ok (.iload_n 2, 1) := by decide +kernel
theorem dX4_share_34 : decode cX4_share 34 = .ok (.iadd, 1) := by decide +kernel
theorem dX4_share_35 : decode cX4_share 35 = .ok (.iload_n 1, 1) := by decide +kernel
theorem dX4_share_36 : decode cX4_share 36 = .ok (.invokevirtual 133, 3) := by decide +kernel
theorem dX4_share_39 : decode cX4_share 39 = .ok (.ireturn, 1) := by decide +kernel
theorem dX4_even_0 : decode cX4_even 0 = .ok (.iconst 0, 1) := by decide +kernel
theorem dX4_even_1 : decode cX4_even 1 = .ok (.istore_n 1, 1) := by decide +kernel
theorem dX4_even_2 : decode cX4_even 2 = .ok (.iload_n 1, 1) := by decide +kernel
theorem dX4_even_3 : decode cX4_even 3 = .ok (.aload_n 0, 1) := by decide +kernel
theorem dX4_even_4 : decode cX4_even 4 = .ok (.getfield 10, 3) := by decide +kernel
theorem dX4_even_7 : decode cX4_even 7 = .ok (.getfield 85, 3) := by decide +kernel
theorem dX4_even_10 : decode cX4_even 10 = .ok (.if_icmp .ge 37, 3) := by decide +kernel
theorem dX4_even_13 : decode cX4_even 13 = .ok (.aload_n 0, 1) := by decide +kernel
theorem dX4_even_14 : decode cX4_even 14 = .ok (.getfield 32, 3) := by decide +kernel
theorem dX4_even_17 : decode cX4_even 17 = .ok (.iload_n 1, 1) := by decide +kernel
theorem dX4_even_18 : decode cX4_even 18 = .ok (.invokevirtual 88, 3) := by decide +kernel
theorem dX4_even_21 : decode cX4_even 21 = .ok (.aload_n 0, 1) := by decide +kernel
theorem dX4_even_22 : decode cX4_even 22 = .ok (.getfield 32, 3) := by decide +kernel
theorem dX4_even_25 : decode cX4_even 25 = .ok (.aload_n 0, 1) := by decide +kernel
theorem dX4_even_26 : decode cX4_even 26 = .ok (.getfield 10, 3) := by decide +kernel
theorem dX4_even_29 : decode cX4_even 29 = .ok (.iload_n 1, 1) := by decide +kernel
theorem dX4_even_30 : decode cX4_even 30 = .ok (.invokevirtual 136, 3) := by decide +kernel
theorem dX4_even_33 : decode cX4_even 33 = .ok (.invokevirtual 88, 3) := by decide +kernel
theorem dX4_even_36 : decode cX4_even 36 = .ok (.if_icmp .eq 5, 3) := by decide +kernel
theorem dX4_even_39 : decode cX4_even 39 = .ok (.iconst 0, 1) := by decide +kernel
theorem dX4_even_40 : decode cX4_even 40 = .ok (.ireturn, 1) := by decide +kernel
theorem dX4_even_41 : decode cX4_even 41 = .ok (.iinc 1 1, 3) := by decide +kernel
theorem dX4_even_44 : decode cX4_even 44 = .ok (.goto (-42), 3) := by decide +kernel
theorem dX4_even_47 : decode cX4_even 47 = .ok (.iconst 1, 1) := by decide +kernel
theorem dX4_even_48 : decode cX4_even 48 = .ok (.ireturn, 1) := by decide +kernel
theorem dX4_threats_0 : decode cX4_threats 0 = .ok (.iload_n 1, 1) := by decide +kernel
theorem dX4_threats_1 : decode cX4_threats 1 = .ok (.iconst 0, 1) := by decide +kernel
theorem dX4_threats_2 : decode cX4_threats 2 = .ok (.iconst 1, 1) := by decide +kernel
theorem dX4_threats_3 : decode cX4_threats 3 = .ok (.invokestatic 46, 3) := by decide +kernel
theorem dX4_threats_6 : decode cX4_threats 6 = .ok (.ifCond .eq 17, 3) := by decide +kernel
theorem dX4_threats_9 : decode cX4_threats 9 = .ok (.aload_n 0, 1) := by decide +kernel
theorem dX4_threats_10 : decode cX4_threats 10 = .ok (.getfield 32, 3) := by decide +kernel
theorem dX4_threats_13 : decode cX4_threats 13 = .ok (.iload_n 1, 1) := by decide +kernel
theorem dX4_threats_14 : decode cX4_threats 14 = .ok (.invokevirtual 139, 3) := by decide +kernel
theorem dX4_threats_17 : decode cX4_threats 17 = .ok (.invokestatic 142, 3) := by decide +kernel
theorem dX4_threats_20 : decode cX4_threats 20 = .ok (.goto 6, 3) := by decide +kernel
theorem dX4_threats_23 : decode cX4_threats 23 = .ok (.sipush (-200), 3) := by decide +kernel
theorem dX4_threats_26 : decode cX4_threats 26 = .ok (.ireturn, 1) := by decide +kernel
theorem dX4_threat_0 : decode cX4_threat 0 = .ok (.iload_n 1, 1) := by decide +kernel
theorem dX4_threat_1 : decode cX4_threat 1 = .ok (.iconst 0, 1) := by decide +kernel
theorem dX4_threat_2 : decode cX4_threat 2 = .ok (.iconst 1, 1) := by decide +kernel
theorem dX4_threat_3 : decode cX4_threat 3 = .ok (.invokestatic 46, 3) := by decide +kernel
theorem dX4_threat_6 : decode cX4_threat 6 = .ok (.ifCond .ne 7, 3) := by decide +kernel
theorem dX4_threat_9 : decode cX4_threat 9 = .ok (.sipush (-200), 3) := by decide +kernel
theorem dX4_threat_12 : decode cX4_threat 12 = .ok (.ireturn, 1) := by decide +kernel
theorem dX4_threat_13 : decode cX4_threat 13 = .ok (.aload_n 0, 1) := by decide +kernel
theorem dX4_threat_14 : decode cX4_threat 14 = .ok (.getfield 32, 3) := by decide +kernel
theorem dX4_threat_17 : decode cX4_threat 17 = .ok (.iload_n 1, 1) := by decide +kernel
theorem dX4_threat_18 : decode cX4_threat 18 = .ok (.invokevirtual 139, 3) := by decide +kernel
theorem dX4_threat_21 : decode cX4_threat 21 = .ok (.istore_n 3, 1) := by decide +kernel
theorem dX4_threat_22 : decode cX4_threat 22 = .ok (.iload_n 2, 1) := by decide +kernel
theorem dX4_threat_23 : decode cX4_threat 23 = .ok (.iconst 0, 1) := by decide +kernel
theorem dX4_threat_24 : decode cX4_threat 24 = .ok (.iload_n 3, 1) := by decide +kernel
theorem dX4_threat_25 : decode cX4_threat 25 = .ok (.invokestatic 142, 3) := by decide +kernel
theorem dX4_threat_28 : decode cX4_threat 28 = .ok (.iconst 1, 1) := by decide +kernel
theorem dX4_threat_29 : decode cX4_threat 29 = .ok (.isub, 1) := by decide +kernel
theorem dX4_threat_30 : decode cX4_threat 30 = .ok (.invokestatic 46, 3) := by decide +kernel
theorem dX4_threat_33 : decode cX4_threat 33 = .ok (.ifCond .eq 11, 3) := by decide +kernel
theorem dX4_threat_36 : decode cX4_threat 36 = .ok (.iload_n 3, 1) := by decide +kernel
theorem dX4_threat_37 : decode cX4_threat 37 = .ok (.iload_n 2, 1) := by decide +kernel
theorem dX4_threat_38 : decode cX4_threat 38 = .ok (.invokestatic 113, 3) := by decide +kernel
theorem dX4_threat_41 : decode cX4_threat 41 = .ok (.goto 6, 3) := by decide +kernel
theorem dX4_threat_44 : decode cX4_threat 44 = .ok (.sipush (-200), 3) := by decide +kernel
theorem dX4_threat_47 : decode cX4_threat 47 = .ok (.ireturn, 1) := by decide +kernel
theorem dX4_waiting_0 : decode cX4_waiting 0 = .ok (.aload_n 0, 1) := by decide +kernel
theorem dX4_waiting_1 : decode cX4_waiting 1 = .ok (.getfield 32, 3) := by decide +kernel
theorem dX4_waiting_4 : decode cX4_waiting 4 = .ok (.invokevirtual 67, 3) := by decide +kernel
theorem dX4_waiting_7 : decode cX4_waiting 7 = .ok (.ifCond .eq 7, 3) := by decide +kernel
theorem dX4_waiting_10 : decode cX4_waiting 10 = .ok (.sipush (-201), 3) := by decide +kernel
theorem dX4_waiting_13 : decode cX4_waiting 13 = .ok (.ireturn, 1) := by decide +kernel
theorem dX4_waiting_14 : decode cX4_waiting 14 = .ok (.aload_n 0, 1) := by decide +kernel
theorem dX4_waiting_15 : decode cX4_waiting 15 = .ok (.getfield 36, 3) := by decide +kernel
theorem dX4_waiting_18 : decode cX4_waiting 18 = .ok (.aload_n 0, 1) := by decide +kernel
theorem dX4_waiting_19 : decode cX4_waiting 19 = .ok (.getfield 32, 3) := by decide +kernel
theorem dX4_waiting_22 : decode cX4_waiting 22 = .ok (.invokevirtual 147, 3) := by decide +kernel
theorem dX4_waiting_25 : decode cX4_waiting 25 = .ok (.aload_n 0, 1) := by decide +kernel
theorem dX4_waiting_26 : decode cX4_waiting 26 = .ok (.getfield 36, 3) := by decide +kernel
theorem dX4_waiting_29 : decode cX4_waiting 29 = .ok (.getfield 75, 3) := by decide +kernel
theorem dX4_waiting_32 : decode cX4_waiting 32 = .ok (.istore_n 1, 1) := by decide +kernel
theorem dX4_waiting_33 : decode cX4_waiting 33 = .ok (.iload_n 1, 1) := by decide +kernel
theorem dX4_waiting_34 : decode cX4_waiting 34 = .ok (.aload_n 0, 1) := by decide +kernel
theorem dX4_waiting_35 : decode cX4_waiting 35 = .ok (.getfield 10, 3) := by decide +kernel
theorem dX4_waiting_38 : decode cX4_waiting 38 = .ok (.getfield 85, 3) := by decide +kernel
theorem dX4_waiting_41 : decode cX4_waiting 41 = .ok (.if_icmp .ge 34, 3) := by decide +kernel
theorem dX4_waiting_44 : decode cX4_waiting 44 = .ok (.aload_n 0, 1) := by decide +kernel
theorem dX4_waiting_45 : decode cX4_waiting 45 = .ok (.getfield 36, 3) := by decide +kernel
theorem dX4_waiting_48 : decode cX4_waiting 48 = .ok (.invokevirtual 67, 3) := by decide +kernel
theorem dX4_waiting_51 : decode cX4_waiting 51 = .ok (.ifCond .ne 24, 3) := by decide +kernel
theorem dX4_waiting_54 : decode cX4_waiting 54 = .ok (.aload_n 0, 1) := by decide +kernel
theorem dX4_waiting_55 : decode cX4_waiting 55 = .ok (.getfield 36, 3) := by decide +kernel
theorem dX4_waiting_58 : decode cX4_waiting 58 = .ok (.aload_n 0, 1) := by decide +kernel
theorem dX4_waiting_59 : decode cX4_waiting 59 = .ok (.getfield 36, 3) := by decide +kernel
theorem dX4_waiting_62 : decode cX4_waiting 62 = .ok (.invokevirtual 150, 3) := by decide +kernel
theorem dX4_waiting_65 : decode cX4_waiting 65 = .ok (.invokevirtual 71, 3) := by decide +kernel
theorem dX4_waiting_68 : decode cX4_waiting 68 = .ok (.pop, 1) := by decide +kernel
theorem dX4_waiting_69 : decode cX4_waiting 69 = .ok (.iinc 1 1, 3) := by decide +kernel
theorem dX4_waiting_72 : decode cX4_waiting 72 = .ok (.goto (-39), 3) := by decide +kernel
theorem dX4_waiting_75 : decode cX4_waiting 75 = .ok (.aload_n 0, 1) := by decide +kernel
theorem dX4_waiting_76 : decode cX4_waiting 76 = .ok (.getfield 36, 3) := by decide +kernel
theorem dX4_waiting_79 : decode cX4_waiting 79 = .ok (.invokevirtual 95, 3) := by decide +kernel
theorem dX4_waiting_82 : decode cX4_waiting 82 = .ok (.iconst 1, 1) := by decide +kernel
theorem dX4_waiting_83 : decode cX4_waiting 83 = .ok (.if_icmp .eq 5, 3) := by decide +kernel
theorem dX4_waiting_86 : decode cX4_waiting 86 = .ok (.iconst 0, 1) := by decide +kernel
theorem dX4_waiting_87 : decode cX4_waiting 87 = .ok (.ireturn, 1) := by decide +kernel
theorem dX4_waiting_88 : decode cX4_waiting 88 = .ok (.aload_n 0, 1) := by decide +kernel
theorem dX4_waiting_89 : decode cX4_waiting 89 = .ok (.getfield 36, 3) := by decide +kernel
theorem dX4_waiting_92 : decode cX4_waiting 92 = .ok (.invokevirtual 91, 3) := by decide +kernel
theorem dX4_waiting_95 : decode cX4_waiting 95 = .ok (.iconst 1, 1) := by decide +kernel
theorem dX4_waiting_96 : decode cX4_waiting 96 = .ok (.if_icmp .ne 7, 3) := by decide +kernel
theorem dX4_waiting_99 : decode cX4_waiting 99 = .ok (.iconst 1, 1) := by decide +kernel
theorem dX4_waiting_100 : decode cX4_waiting 100 = .ok (.goto 4, 3) := by decide +kernel
theorem dX4_waiting_103 : decode cX4_waiting 103 = .ok (.iconst (-1), 1) := by decide +kernel
theorem dX4_waiting_104 : decode cX4_waiting 104 = .ok (.ireturn, 1) := by decide +kernel
theorem dX4_sheet_0 : decode cX4_sheet 0 = .ok (.iload_n 1, 1) := by decide +kernel
theorem dX4_sheet_1 : decode cX4_sheet 1 = .ok (.invokestatic 153, 3) := by decide +kernel
theorem dX4_sheet_4 : decode cX4_sheet 4 = .ok (.ifCond .eq 16, 3) := by decide +kernel
theorem dX4_sheet_7 : decode cX4_sheet 7 = .ok (.iload_n 2, 1) := by decide +kernel
theorem dX4_sheet_8 : decode cX4_sheet 8 = .ok (.invokestatic 156, 3) := by decide +kernel
theorem dX4_sheet_11 : decode cX4_sheet 11 = .ok (.ifCond .eq 9, 3) := by decide +kernel
theorem dX4_sheet_14 : decode cX4_sheet 14 = .ok (.iload_n 3, 1) := by decide +kernel
theorem dX4_sheet_15 : decode cX4_sheet 15 = .ok (.bipush 20, 2) := by decide +kernel
theorem dX4_sheet_17 : decode cX4_sheet 17 = .ok (.if_icmp .le 7, 3) := by decide +kernel
theorem dX4_sheet_20 : decode cX4_sheet 20 = .ok (.sipush (-200), 3) := by decide +kernel
theorem dX4_sheet_23 : decode cX4_sheet 23 = .ok (.ireturn, 1) := by decide +kernel
theorem dX4_sheet_24 : decode cX4_sheet 24 = .ok (.iload_n 3, 1) := by decide +kernel
theorem dX4_sheet_25 : decode cX4_sheet 25 = .ok (.ifCond .ge 9, 3) := by decide +kernel
theorem dX4_sheet_28 : decode cX4_sheet 28 = .ok (.aload_n 0, 1) := by decide +kernel
theorem dX4_sheet_29 : decode cX4_sheet 29 = .ok (.iconst 5, 1) := by decide +kernel
theorem dX4_sheet_30 : decode cX4_sheet 30 = .ok (.invokevirtual 159, 3) := by decide +kernel
theorem dX4_sheet_33 : decode cX4_sheet 33 = .ok (.ireturn, 1) := by decide +kernel
theorem dX4_sheet_34 : decode cX4_sheet 34 = .ok (.aload_n 0, 1) := by decide +kernel
theorem dX4_sheet_35 : decode cX4_sheet 35 = .ok (.getfield 41, 3) := by decide +kernel
theorem dX4_sheet_38 : decode cX4_sheet 38 = .ok (.iload_n 1, 1) := by decide +kernel
theorem dX4_sheet_39 : decode cX4_sheet 39 = .ok (.aaload, 1) := by decide +kernel
theorem dX4_sheet_40 : decode cX4_sheet 40 = .ok (.iload_n 2, 1) := by decide +kernel
theorem dX4_sheet_41 : decode cX4_sheet 41 = .ok (.iload_n 3, 1) := by decide +kernel
theorem dX4_sheet_42 : decode cX4_sheet 42 = .ok (.invokevirtual 162, 3) := by decide +kernel
theorem dX4_sheet_45 : decode cX4_sheet 45 = .ok (.iload_n 3, 1) := by decide +kernel
theorem dX4_sheet_46 : decode cX4_sheet 46 = .ok (.ireturn, 1) := by decide +kernel
theorem dX4_lose_0 : decode cX4_lose 0 = .ok (.iload_n 1, 1) := by decide +kernel
theorem dX4_lose_1 : decode cX4_lose 1 = .ok (.invokestatic 153, 3) := by decide +kernel
theorem dX4_lose_4 : decode cX4_lose 4 = .ok (.ifCond .ne 7, 3) := by decide +kernel
theorem dX4_lose_7 : decode cX4_lose 7 = .ok (.sipush (-200), 3) := by decide +kernel
theorem dX4_lose_10 : decode cX4_lose 10 = .ok (.ireturn, 1) := by decide +kernel
theorem dX4_lose_11 : decode cX4_lose 11 = .ok (.aload_n 0, 1) := by decide +kernel
theorem dX4_lose_12 : decode cX4_lose 12 = .ok (.getfield 41, 3) := by decide +kernel
theorem dX4_lose_15 : decode cX4_lose 15 = .ok (.iload_n 1, 1) := by decide +kernel
theorem dX4_lose_16 : decode cX4_lose 16 = .ok (.aaload, 1) := by decide +kernel
theorem dX4_lose_17 : decode cX4_lose 17 = .ok (.getfield 166, 3) := by decide +kernel
theorem dX4_lose_20 : decode cX4_lose 20 = .ok (.ifCond .eq 9, 3) := by decide +kernel
theorem dX4_lose_23 : decode cX4_lose 23 = .ok (.aload_n 0, 1) := by decide +kernel
theorem dX4_lose_24 : decode cX4_lose 24 = .ok (.iconst 1, 1) := by decide +kernel
theorem dX4_lose_25 : decode cX4_lose 25 = .ok (.invokevirtual 159, 3) := by decide +kernel
theorem dX4_lose_28 : decode cX4_lose 28 = .ok (.ireturn, 1) := by decide +kernel
theorem dX4_lose_29 : decode cX4_lose 29 = .ok (.aload_n 0, 1) := by decide +kernel
theorem dX4_lose_30 : decode cX4_lose 30 = .ok (.getfield 41, 3) := by decide +kernel
theorem dX4_lose_33 : decode cX4_lose 33 = .ok (.iload_n 1, 1) := by decide +kernel
theorem dX4_lose_34 : decode cX4_lose 34 = .ok (.aaload, 1) := by decide +kernel
theorem dX4_lose_35 : decode cX4_lose 35 = .ok (.iconst 1, 1) := by decide +kernel
theorem dX4_lose_36 : decode cX4_lose 36 = .ok (.putfield 166, 3) := by decide +kernel
theorem dX4_lose_39 : decode cX4_lose 39 = .ok (.aload_n 0, 1) := by decide +kernel
theorem dX4_lose_40 : decode cX4_lose 40 = .ok (.getfield 41, 3) := by decide +kernel
theorem dX4_lose_43 : decode cX4_lose 43 = .ok (.iload_n 1, 1) := by decide +kernel
theorem dX4_lose_44 : decode cX4_lose 44 = .ok (.aaload, 1) := by decide +kernel
theorem dX4_lose_45 : decode cX4_lose 45 = .ok (.getfield 170, 3) := by decide +kernel
theorem dX4_lose_48 : decode cX4_lose 48 = .ok (.ireturn, 1) := by decide +kernel
theorem dX4_put_0 : decode cX4_put 0 = .ok (.iload_n 1, 1) := by decide +kernel
theorem dX4_put_1 : decode cX4_put 1 = .ok (.invokestatic 153, 3) := by decide +kernel
theorem dX4_put_4 : decode cX4_put 4 = .ok (.ifCond .eq 10, 3) := by decide +kernel
theorem dX4_put_7 : decode cX4_put 7 = .ok (.iload_n 2, 1) := by decide +kernel
theorem dX4_put_8 : decode cX4_put 8 = .ok (.invokestatic 156, 3) := by decide +kernel
theorem dX4_put_11 : decode cX4_put 11 = .ok (.ifCond .ne 7, 3) := by decide +kernel
theorem dX4_put_14 : decode cX4_put 14 = .ok (.sipush (-200), 3) := by decide +kernel
theorem dX4_put_17 : decode cX4_put 17 = .ok (.ireturn, 1) := by decide +kernel
theorem dX4_put_18 : decode cX4_put 18 = .ok (.aload_n 0, 1) := by decide +kernel
theorem dX4_put_19 : decode cX4_put 19 = .ok (.getfield 41, 3) := by decide +kernel
theorem dX4_put_22 : decode cX4_put 22 = .ok (.iload_n 1, 1) := by decide +kernel
theorem dX4_put_23 : decode cX4_put 23 = .ok (.aaload, 1) := by decide +kernel
theorem dX4_put_24 : decode cX4_put 24 = .ok (.iload_n 2, 1) := by decide +kernel
theorem dX4_put_25 : decode cX4_put 25 = .ok (.iload_n 3, 1) := by decide +kernel
theorem dX4_put_26 : decode cX4_put 26 = .ok (.invokevirtual 173, 3) := by decide +kernel
theorem dX4_put_29 : decode cX4_put 29 = .ok (.istore 5, 2) := by decide +kernel
theorem dX4_put_31 : decode cX4_put 31 = .ok (.iload 5, 2) := by decide +kernel
theorem dX4_put_33 : decode cX4_put 33 = .ok (.ifCond .eq 10, 3) := by decide +kernel
theorem dX4_put_36 : decode cX4_put 36 = .ok (.aload_n 0, 1) := by decide +kernel
theorem dX4_put_37 : decode cX4_put 37 = .ok (.iload 5, 2) := by decide +kernel
theorem dX4_put_39 : decode cX4_put 39 = .ok (.invokevirtual 159, 3) := by decide +kernel
theorem dX4_put_42 : decode cX4_put 42 = .ok (.ireturn, 1) := by decide +kernel
theorem dX4_put_43 : decode cX4_put 43 = .ok (.aload_n 0, 1) := by decide +kernel
theorem dX4_put_44 : decode cX4_put 44 = .ok (.getfield 41, 3) := by decide +kernel
theorem dX4_put_47 : decode cX4_put 47 = .ok (.iload_n 1, 1) := by decide +kernel
theorem dX4_put_48 : decode cX4_put 48 = .ok (.aaload, 1) := by decide +kernel
theorem dX4_put_49 : decode cX4_put 49 = .ok (.iload_n 3, 1) := by decide +kernel
theorem dX4_put_50 : decode cX4_put 50 = .ok (.iload 4, 2) := by decide +kernel
theorem dX4_put_52 : decode cX4_put 52 = .ok (.invokevirtual 176, 3) := by decide +kernel
theorem dX4_put_55 : decode cX4_put 55 = .ok (.iconst 1, 1) := by decide +kernel
theorem dX4_put_56 : decode cX4_put 56 = .ok (.ireturn, 1) := by decide +kernel
theorem dX4_get_0 : decode cX4_get 0 = .ok (.iload_n 1, 1) := by decide +kernel
theorem dX4_get_1 : decode cX4_get 1 = .ok (.invokestatic 153, 3) := by decide +kernel
theorem dX4_get_4 : decode cX4_get 4 = .ok (.ifCond .eq 10, 3) := by decide +kernel
theorem dX4_get_7 : decode cX4_get 7 = .ok (.iload_n 2, 1) := by decide +kernel
theorem dX4_get_8 : decode cX4_get 8 = .ok (.invokestatic 156, 3) := by decide +kernel
theorem dX4_get_11 : decode cX4_get 11 = .ok (.ifCond .ne 6, 3) := by decide +kernel
theorem dX4_get_14 : decode cX4_get 14 = .ok (.ldc 179, 2) := by decide +kernel
theorem dX4_get_16 : decode cX4_get 16 = .ok (.ireturn, 1) := by decide +kernel
theorem dX4_get_17 : decode cX4_get 17 = .ok (.aload_n 0, 1) := by decide +kernel
theorem dX4_get_18 : decode cX4_get 18 = .ok (.getfield 41, 3) := by decide +kernel
theorem dX4_get_21 : decode cX4_get 21 = .ok (.iload_n 1, 1) := by decide +kernel
theorem dX4_get_22 : decode cX4_get 22 = .ok (.aaload, 1) := by decide +kernel
theorem dX4_get_23 : decode cX4_get 23 = .ok (.iload_n 2, 1) := by decide +kernel
theorem dX4_get_24 : decode cX4_get 24 = .ok (.iload_n 3, 1) := by decide +kernel
theorem dX4_get_25 : decode cX4_get 25 = .ok (.invokevirtual 173, 3) := by decide +kernel
theorem dX4_get_28 : decode cX4_get 28 = .ok (.istore 4, 2) := by decide +kernel
theorem dX4_get_30 : decode cX4_get 30 = .ok (.iload 4, 2) := by decide +kernel
theorem dX4_get_32 : decode cX4_get 32 = .ok (.ifCond .eq 13, 3) := by decide +kernel
theorem dX4_get_35 : decode cX4_get 35 = .ok (.aload_n 0, 1) := by decide +kernel
theorem dX4_get_36 : decode cX4_get 36 = .ok (.iload 4, 2) := by decide +kernel
theorem dX4_get_38 : decode cX4_get 38 = .ok (.invokevirtual 159, 3) := by decide +kernel
theorem dX4_get_41 : decode cX4_get 41 = .ok (.pop, 1) := by decide +kernel
theorem dX4_get_42 : decode cX4_get 42 = .ok (.ldc 179, 2) := by decide +kernel
theorem dX4_get_44 : decode cX4_get 44 = .ok (.ireturn, 1) := by decide +kernel
theorem dX4_get_45 : decode cX4_get 45 = .ok (.aload_n 0, 1) := by decide +kernel
theorem dX4_get_46 : decode cX4_get 46 = .ok (.getfield 41, 3) := by decide +kernel
theorem dX4_get_49 : decode cX4_get 49 = .ok (.iload_n 1, 1) := by decide +kernel
theorem dX4_get_50 : decode cX4_get 50 = .ok (.aaload, 1) := by decide +kernel
theorem dX4_get_51 : decode cX4_get 51 = .ok (.getfield 180, 3) := by decide +kernel
theorem dX4_get_54 : decode cX4_get 54 = .ok (.iload_n 3, 1) := by decide +kernel
theorem dX4_get_55 : decode cX4_get 55 = .ok (.iaload, 1) := by decide +kernel
theorem dX4_get_56 : decode cX4_get 56 = .ok (.ireturn, 1) := by decide +kernel
theorem dX4_copy_0 : decode cX4_copy 0 = .ok (.iload_n 1, 1) := by decide +kernel
theorem dX4_copy_1 : decode cX4_copy 1 = .ok (.invokestatic 153, 3) := by decide +kernel
theorem dX4_copy_4 : decode cX4_copy 4 = .ok (.ifCond .eq 10, 3) := by decide +kernel
theorem dX4_copy_7 : decode cX4_copy 7 = .ok (.iload_n 3, 1) := by decide +kernel
theorem dX4_copy_8 : decode cX4_copy 8 = .ok (.invokestatic 153, 3) := by decide +kernel
theorem dX4_copy_11 : decode cX4_copy 11 = .ok (.ifCond .ne 7, 3) := by decide +kernel
theorem dX4_copy_14 : decode cX4_copy 14 = .ok (.sipush (-200), 3) := by decide +kernel
theorem dX4_copy_17 : decode cX4_copy 17 = .ok (.ireturn, 1) := by decide +kernel
theorem dX4_copy_18 : decode cX4_copy 18 = .ok (.aload_n 0, 1) := by decide +kernel
theorem dX4_copy_19 : decode cX4_copy 19 = .ok (.getfield 41, 3) := by decide +kernel
theorem dX4_copy_22 : decode cX4_copy 22 = .ok (.iload_n 1, 1) := by decide +kernel
theorem dX4_copy_23 : decode cX4_copy 23 = .ok (.aaload, 1) := by decide +kernel
theorem dX4_copy_24 : decode cX4_copy 24 = .ok (.astore 6, 2) := by decide +kernel
theorem dX4_copy_26 : decode cX4_copy 26 = .ok (.aload_n 0, 1) := by decide +kernel
theorem dX4_copy_27 : decode cX4_copy 27 = .ok (.getfield 41, 3) := by decide +kernel
theorem dX4_copy_30 : decode cX4_copy 30 = .ok (.iload_n 3, 1) := by decide +kernel
theorem dX4_copy_31 : decode cX4_copy 31 = .ok (.aaload, 1) := by decide +kernel
theorem dX4_copy_32 : decode cX4_copy 32 = .ok (.astore 7, 2) := by decide +kernel
theorem dX4_copy_34 : decode cX4_copy 34 = .ok (.aload 6, 2) := by decide +kernel
theorem dX4_copy_36 : decode cX4_copy 36 = .ok (.getfield 166, 3) := by decide +kernel
theorem dX4_copy_39 : decode cX4_copy 39 = .ok (.ifCond .ne 11, 3) := by decide +kernel
theorem dX4_copy_42 : decode cX4_copy 42 = .ok (.aload 7, 2) := by decide +kernel
theorem dX4_copy_44 : decode cX4_copy 44 = .ok (.getfield 166, 3) := by decide +kernel
theorem dX4_copy_47 : decode cX4_copy 47 = .ok (.ifCond .eq 9, 3) := by decide +kernel
theorem dX4_copy_50 : decode cX4_copy 50 = .ok (.aload_n 0, 1) := by decide +kernel
theorem dX4_copy_51 : decode cX4_copy 51 = .ok (.iconst 1, 1) := by decide +kernel
theorem dX4_copy_52 : decode cX4_copy 52 = .ok (.invokevirtual 159, 3) := by decide +kernel
theorem dX4_copy_55 : decode cX4_copy 55 = .ok (.ireturn, 1) := by decide +kernel
theorem dX4_copy_56 : decode cX4_copy 56 = .ok (.aload 6, 2) := by decide +kernel
theorem dX4_copy_58 : decode cX4_copy 58 = .ok (.getfield 183, 3) := by decide +kernel
theorem dX4_copy_61 : decode cX4_copy 61 = .ok (.aload 7, 2) := by decide +kernel
theorem dX4_copy_63 : decode cX4_copy 63 = .ok (.getfield 183, 3) := by decide +kernel
theorem dX4_copy_66 : decode cX4_copy 66 = .ok (.if_icmp .eq 9, 3) := by decide +kernel
theorem dX4_copy_69 : decode cX4_copy 69 = .ok (.aload_n 0, 1) := by decide +kernel
theorem dX4_copy_70 : decode cX4_copy 70 = .ok (.iconst 4, 1) := by decide +kernel
theorem dX4_copy_71 : decode cX4_copy 71 = .ok (.invokevirtual 159, 3) := by decide +kernel
theorem dX4_copy_74 : decode cX4_copy 74 = .ok (.ireturn, 1) := by decide +kernel
theorem dX4_copy_75 : decode cX4_copy 75 = .ok (.aload 6, 2) := by decide +kernel
theorem dX4_copy_77 : decode cX4_copy 77 = .ok (.iload_n 2, 1) := by decide +kernel
theorem dX4_copy_78 : decode cX4_copy 78 = .ok (.iload 5, 2) := by decide +kernel
theorem dX4_copy_80 : decode cX4_copy 80 = .ok (.invokevirtual 186, 3) := by decide +kernel
theorem dX4_copy_83 : decode cX4_copy 83 = .ok (.ifCond .eq 15, 3) := by decide +kernel
theorem dX4_copy_86 : decode cX4_copy 86 = .ok (.aload 7, 2) := by decide +kernel
theorem dX4_copy_88 : decode cX4_copy 88 = .ok (.iload 4, 2) := by decide +kernel
theorem dX4_copy_90 : decode cX4_copy 90 = .ok (.iload 5, 2) := by decide +kernel
theorem dX4_copy_92 : decode cX4_copy 92 = .ok (.invokevirtual 186, 3) := by decide +kernel
theorem dX4_copy_95 : decode cX4_copy 95 = .ok (.ifCond .ne 9, 3) := by decide +kernel
theorem dX4_copy_98 : decode cX4_copy 98 = .ok (.aload_n 0, 1) := by decide +kernel
theorem dX4_copy_99 : decode cX4_copy 99 = .ok (.iconst 2, 1) := by decide +kernel
theorem dX4_copy_100 : decode cX4_copy 100 = .ok (.invokevirtual 159, 3) := by decide +kernel
theorem dX4_copy_103 : decode cX4_copy 103 = .ok (.ireturn, 1) := by decide +kernel
theorem dX4_copy_104 : decode cX4_copy 104 = .ok (.aload 6, 2) := by decide +kernel
theorem dX4_copy_106 : decode cX4_copy 106 = .ok (.getfield 180, 3) := by decide +kernel
theorem dX4_copy_109 : decode cX4_copy 109 = .ok (.iload_n 2, 1) := by decide +kernel
theorem dX4_copy_110 : decode cX4_copy 110 = .ok (.aload 7, 2) := by decide +kernel
theorem dX4_copy_112 : decode cX4_copy 112 = .ok (.getfield 180, 3) := by decide +kernel
theorem dX4_copy_115 : decode cX4_copy 115 = .ok (.iload 4, 2) := by decide +kernel
theorem dX4_copy_117 : decode cX4_copy 117 = .ok (.iload 5, 2) := by decide +kernel
theorem dX4_copy_119 : decode cX4_copy 119 = .ok (.invokestatic 190, 3) := by decide +kernel
theorem dX4_copy_122 : decode cX4_copy 122 = .ok (.iconst 1, 1) := by decide +kernel
theorem dX4_copy_123 : decode cX4_copy 123 = .ok (.ireturn, 1) := by decide +kernel
theorem dX4_take_0 : decode cX4_take 0 = .ok (.iload_n 1, 1) := by decide +kernel
theorem dX4_take_1 : decode cX4_take 1 = .ok (.invokestatic 153, 3) := by decide +kernel
theorem dX4_take_4 : decode cX4_take 4 = .ok (.ifCond .eq 13, 3) := by decide +kernel
theorem dX4_take_7 : decode cX4_take 7 = .ok (.iload_n 2, 1) := by decide +kernel
theorem dX4_take_8 : decode cX4_take 8 = .ok (.iconst 0, 1) := by decide +kernel
theorem dX4_take_9 : decode cX4_take 9 = .ok (.bipush 16, 2) := by decide +kernel
theorem dX4_take_11 : decode cX4_take 11 = .ok (.invokestatic 46, 3) := by decide +kernel
theorem dX4_take_14 : decode cX4_take 14 = .ok (.ifCond .ne 7, 3) := by decide +kernel
theorem dX4_take_17 : decode cX4_take 17 = .ok (.sipush (-200), 3) := by decide +kernel
theorem dX4_take_20 : decode cX4_take 20 = .ok (.ireturn, 1) := by decide +kernel
theorem dX4_take_21 : decode cX4_take 21 = .ok (.aload_n 0, 1) := by decide +kernel
theorem dX4_take_22 : decode cX4_take 22 = .ok (.getfield 41, 3) := by decide +kernel
theorem dX4_take_25 : decode cX4_take 25 = .ok (.iload_n 1, 1) := by decide +kernel
theorem dX4_take_26 : decode cX4_take 26 = .ok (.aaload, 1) := by decide +kernel
theorem dX4_take_27 : decode cX4_take 27 = .ok (.astore_n 3, 1) := by decide +kernel
theorem dX4_take_28 : decode cX4_take 28 = .ok (.aload_n 3, 1) := by decide +kernel
theorem dX4_take_29 : decode cX4_take 29 = .ok (.getfield 166, 3) := by decide +kernel
theorem dX4_take_32 : decode cX4_take 32 = .ok (.ifCond .eq 9, 3) := by decide +kernel
theorem dX4_take_35 : decode cX4_take 35 = .ok (.aload_n 0, 1) := by decide +kernel
theorem dX4_take_36 : decode cX4_take 36 = .ok (.iconst 1, 1) := by decide +kernel
theorem dX4_take_37 : decode cX4_take 37 = .ok (.invokevirtual 159, 3) := by decide +kernel
theorem dX4_take_40 : decode cX4_take 40 = .ok (.ireturn, 1) := by decide +kernel
theorem dX4_take_41 : decode cX4_take 41 = .ok (.aload_n 3, 1) := by decide +kernel
theorem dX4_take_42 : decode cX4_take 42 = .ok (.iconst 0, 1) := by decide +kernel
theorem dX4_take_43 : decode cX4_take 43 = .ok (.iload_n 2, 1) := by decide +kernel
theorem dX4_take_44 : decode cX4_take 44 = .ok (.invokevirtual 186, 3) := by decide +kernel
theorem dX4_take_47 : decode cX4_take 47 = .ok (.ifCond .ne 9, 3) := by decide +kernel
theorem dX4_take_50 : decode cX4_take 50 = .ok (.aload_n 0, 1) := by decide +kernel
theorem dX4_take_51 : decode cX4_take 51 = .ok (.iconst 2, 1) := by decide +kernel
theorem dX4_take_52 : decode cX4_take 52 = .ok (.invokevirtual 159, 3) := by decide +kernel
theorem dX4_take_55 : decode cX4_take 55 = .ok (.ireturn, 1) := by decide +kernel
theorem dX4_take_56 : decode cX4_take 56 = .ok (.aload_n 0, 1) := by decide +kernel
theorem dX4_take_57 : decode cX4_take 57 = .ok (.getfield 36, 3) := by decide +kernel
theorem dX4_take_60 : decode cX4_take 60 = .ok (.invokevirtual 57, 3) := by decide +kernel
theorem dX4_take_63 : decode cX4_take 63 = .ok (.iconst 0, 1) := by decide +kernel
theorem dX4_take_64 : decode cX4_take 64 = .ok (.istore 4, 2) := by decide +kernel
theorem dX4_take_66 : decode cX4_take 66 = .ok (.iload 4, 2) := by decide +kernel
theorem dX4_take_68 : decode cX4_take 68 = .ok (.iload_n 2, 1) := by decide +kernel
theorem dX4_take_69 : decode cX4_take 69 = .ok (.if_icmp .ge 43, 3) := by decide +kernel
theorem dX4_take_72 : decode cX4_take 72 = .ok (.aload_n 0, 1) := by decide +kernel
theorem dX4_take_73 : decode cX4_take 73 = .ok (.getfield 36, 3) := by decide +kernel
theorem dX4_take_76 : decode cX4_take 76 = .ok (.invokevirtual 67, 3) := by decide +kernel
theorem dX4_take_79 : decode cX4_take 79 = .ok (.ifCond .ne 21, 3) := by decide +kernel
theorem dX4_take_82 : decode cX4_take 82 = .ok (.aload_n 0, 1) := by decide +kernel
theorem dX4_take_83 : decode cX4_take 83 = .ok (.getfield 36, 3) := by decide +kernel
theorem dX4_take_86 : decode cX4_take 86 = .ok (.aload_n 3, 1) := by decide +kernel
theorem dX4_take_87 : decode cX4_take 87 = .ok (.getfield 180, 3) := by decide +kernel
theorem dX4_take_90 : decode cX4_take 90 = .ok (.iload 4, 2) := by decide +kernel
theorem dX4_take_92 : decode cX4_take 92 = .ok (.iaload, 1) := by decide +kernel
theorem dX4_take_93 : decode cX4_take 93 = .ok (.invokevirtual 71, 3) := by decide +kernel
theorem dX4_take_96 : decode cX4_take 96 = .ok (.iconst (-1), 1) := by decide +kernel
theorem dX4_take_97 : decode cX4_take 97 = .ok (.if_icmp .ne 9, 3) := by decide +kernel
theorem dX4_take_100 : decode cX4_take 100 = .ok (.bipush (-100), 2) := by decide +kernel
theorem dX4_take_102 : decode cX4_take 102 = .ok (.iload 4, 2) := by decide +kernel
theorem dX4_take_104 : decode cX4_take 104 = .ok (.isub, 1) := by decide +kernel
theorem dX4_take_105 : decode cX4_take 105 = .ok (.ireturn, 1) := by decide +kernel
theorem dX4_take_106 : decode cX4_take 106 = .ok (.iinc 4 1, 3) := by decide +kernel
theorem dX4_take_109 : decode cX4_take 109 = .ok (.goto (-43), 3) := by decide +kernel
theorem dX4_take_112 : decode cX4_take 112 = .ok (.aload_n 0, 1) := by decide +kernel
theorem dX4_take_113 : decode cX4_take 113 = .ok (.getfield 36, 3) := by decide +kernel
theorem dX4_take_116 : decode cX4_take 116 = .ok (.astore 4, 2) := by decide +kernel
theorem dX4_take_118 : decode cX4_take 118 = .ok (.aload_n 0, 1) := by decide +kernel
theorem dX4_take_119 : decode cX4_take 119 = .ok (.aload_n 0, 1) := by decide +kernel
theorem dX4_take_120 : decode cX4_take 120 = .ok (.getfield 32, 3) := by decide +kernel
theorem dX4_take_123 : decode cX4_take 123 = .ok (.putfield 36, 3) := by decide +kernel
theorem dX4_take_126 : decode cX4_take 126 = .ok (.aload_n 0, 1) := by decide +kernel
theorem dX4_take_127 : decode cX4_take 127 = .ok (.aload 4, 2) := by decide +kernel
theorem dX4_take_129 : decode cX4_take 129 = .ok (.putfield 32, 3) := by decide +kernel
theorem dX4_take_132 : decode cX4_take 132 = .ok (.aload_n 0, 1) := by decide +kernel
theorem dX4_take_133 : decode cX4_take 133 = .ok (.getfield 32, 3) := by decide +kernel
theorem dX4_take_136 : decode cX4_take 136 = .ok (.invokevirtual 95, 3) := by decide +kernel
theorem dX4_take_139 : decode cX4_take 139 = .ok (.ireturn, 1) := by decide +kernel
theorem dX4_write_0 : decode cX4_write 0 = .ok (.iload_n 1, 1) := by decide +kernel
theorem dX4_write_1 : decode cX4_write 1 = .ok (.invokestatic 153, 3) := by decide +kernel
theorem dX4_write_4 : decode cX4_write 4 = .ok (.ifCond .ne 7, 3) := by decide +kernel
theorem dX4_write_7 : decode cX4_write 7 = .ok (.sipush (-200), 3) := by decide +kernel
theorem dX4_write_10 : decode cX4_write 10 = .ok (.ireturn, 1) := by decide +kernel
theorem dX4_write_11 : decode cX4_write 11 = .ok (.aload_n 0, 1) := by decide +kernel
theorem dX4_write_12 : decode cX4_write 12 = .ok (.getfield 41, 3) := by decide +kernel
theorem dX4_write_15 : decode cX4_write 15 = .ok (.iload_n 1, 1) := by decide +kernel
theorem dX4_write_16 : decode cX4_write 16 = .ok (.aaload, 1) := by decide +kernel
theorem dX4_write_17 : decode cX4_write 17 = .ok (.astore_n 2, 1) := by decide +kernel
theorem dX4_write_18 : decode cX4_write 18 = .ok (.aload_n 2, 1) := by decide +kernel
theorem dX4_write_19 : decode cX4_write 19 = .ok (.getfield 166, 3) := by decide +kernel
theorem dX4_write_22 : decode cX4_write 22 = .ok (.ifCond .eq 9, 3) := by decide +kernel
theorem dX4_write_25 : decode cX4_write 25 = .ok (.aload_n 0, 1) := by decide +kernel
theorem dX4_write_26 : decode cX4_write 26 = .ok (.iconst 1, 1) := by decide +kernel
theorem dX4_write_27 : decode cX4_write 27 = .ok (.invokevirtual 159, 3) := by decide +kernel
theorem dX4_write_30 : decode cX4_write 30 = .ok (.ireturn, 1) := by decide +kernel
theorem dX4_write_31 : decode cX4_write 31 = .ok (.aload_n 2, 1) := by decide +kernel
theorem dX4_write_32 : decode cX4_write 32 = .ok (.iconst 0, 1) := by decide +kernel
theorem dX4_write_33 : decode cX4_write 33 = .ok (.aload_n 0, 1) := by decide +kernel
theorem dX4_write_34 : decode cX4_write 34 = .ok (.getfield 32, 3) := by decide +kernel
theorem dX4_write_37 : decode cX4_write 37 = .ok (.getfield 75, 3) := by decide +kernel
theorem dX4_write_40 : decode cX4_write 40 = .ok (.invokevirtual 186, 3) := by decide +kernel
theorem dX4_write_43 : decode cX4_write 43 = .ok (.ifCond .ne 9, 3) := by decide +kernel
theorem dX4_write_46 : decode cX4_write 46 = .ok (.aload_n 0, 1) := by decide +kernel
theorem dX4_write_47 : decode cX4_write 47 = .ok (.iconst 2, 1) := by decide +kernel
theorem dX4_write_48 : decode cX4_write 48 = .ok (.invokevirtual 159, 3) := by decide +kernel
theorem dX4_write_51 : decode cX4_write 51 = .ok (.ireturn, 1) := by decide +kernel
theorem dX4_write_52 : decode cX4_write 52 = .ok (.iconst 0, 1) := by decide +kernel
theorem dX4_write_53 : decode cX4_write 53 = .ok (.istore_n 3, 1) := by decide +kernel
theorem dX4_write_54 : decode cX4_write 54 = .ok (.iload_n 3, 1) := by decide +kernel
theorem dX4_write_55 : decode cX4_write 55 = .ok (.aload_n 0, 1) := by decide +kernel
theorem dX4_write_56 : decode cX4_write 56 = .ok (.getfield 32, 3) := by decide +kernel
theorem dX4_write_59 : decode cX4_write 59 = .ok (.getfield 75, 3) := by decide +kernel
theorem dX4_write_62 : decode cX4_write 62 = .ok (.if_icmp .ge 23, 3) := by decide +kernel
theorem dX4_write_65 : decode cX4_write 65 = .ok (.aload_n 2, 1) := by decide +kernel
theorem dX4_write_66 : decode cX4_write 66 = .ok (.iload_n 3, 1) := by decide +kernel
theorem dX4_write_67 : decode cX4_write 67 = .ok (.aload_n 0, 1) := by decide +kernel
theorem dX4_write_68 : decode cX4_write 68 = .ok (.getfield 32, 3) := by decide +kernel
theorem dX4_write_71 : decode cX4_write 71 = .ok (.getfield 81, 3) := by decide +kernel
theorem dX4_write_74 : decode cX4_write 74 = .ok (.iload_n 3, 1) := by decide +kernel
theorem dX4_write_75 : decode cX4_write 75 = .ok (.iaload, 1) := by decide +kernel
theorem dX4_write_76 : decode cX4_write 76 = .ok (.invokevirtual 176, 3) := by decide +kernel
theorem dX4_write_79 : decode cX4_write 79 = .ok (.iinc 3 1, 3) := by decide +kernel
theorem dX4_write_82 : decode cX4_write 82 = .ok (.goto (-28), 3) := by decide +kernel
theorem dX4_write_85 : decode cX4_write 85 = .ok (.aload_n 0, 1) := by decide +kernel
theorem dX4_write_86 : decode cX4_write 86 = .ok (.getfield 32, 3) := by decide +kernel
theorem dX4_write_89 : decode cX4_write 89 = .ok (.getfield 75, 3) := by decide +kernel
theorem dX4_write_92 : decode cX4_write 92 = .ok (.ireturn, 1) := by decide +kernel
theorem dX4_count_0 : decode cX4_count 0 = .ok (.iload_n 1, 1) := by decide +kernel
theorem dX4_count_1 : decode cX4_count 1 = .ok (.tableswitch 104 0 6 #[43, 51, 59, 67, 83, 91, 99], 43) := by decide +kernel
theorem dX4_count_44 : decode cX4_count 44 = .ok (.aload_n 0, 1) := by decide +kernel
theorem dX4_count_45 : decode cX4_count 45 = .ok (.getfield 10, 3) := by decide +kernel
theorem dX4_count_48 : decode cX4_count 48 = .ok (.getfield 130, 3) := by decide +kernel
theorem dX4_count_51 : decode cX4_count 51 = .ok (.ireturn, 1) := by decide +kernel
theorem dX4_count_52 : decode cX4_count 52 = .ok (.aload_n 0, 1) := by decide +kernel
theorem dX4_count_53 : decode cX4_count 53 = .ok (.getfield 10, 3) := by decide +kernel
theorem dX4_count_56 : decode cX4_count 56 = .ok (.getfield 196, 3) := by decide +kernel
theorem dX4_count_59 : decode cX4_count 59 = .ok (.ireturn, 1) := by decide +kernel
theorem dX4_count_60 : decode cX4_count 60 = .ok (.aload_n 0, 1) := by decide +kernel
theorem dX4_count_61 : decode cX4_count 61 = .ok (.getfield 10, 3) := by decide +kernel
theorem dX4_count_64 : decode cX4_count 64 = .ok (.getfield 107, 3) := by decide +kernel
theorem dX4_count_67 : decode cX4_count 67 = .ok (.ireturn, 1) := by decide +kernel
theorem dX4_count_68 : decode cX4_count 68 = .ok (.aload_n 0, 1) := by decide +kernel
theorem dX4_count_69 : decode cX4_count 69 = .ok (.getfield 10, 3) := by decide +kernel
theorem dX4_count_72 : decode cX4_count 72 = .ok (.getfield 199, 3) := by decide +kernel
theorem dX4_count_75 : decode cX4_count 75 = .ok (.ifCond .eq 7, 3) := by decide +kernel
theorem dX4_count_78 : decode cX4_count 78 = .ok (.iconst 1, 1) := by decide +kernel
theorem dX4_count_79 : decode cX4_count 79 = .ok (.goto 4, 3) := by decide +kernel
theorem dX4_count_82 : decode cX4_count 82 = .ok (.iconst 0, 1) := by decide +kernel
theorem dX4_count_83 : decode cX4_count 83 = .ok (.ireturn, 1) := by decide +kernel
theorem dX4_count_84 : decode cX4_count 84 = .ok (.aload_n 0, 1) := by decide +kernel
theorem dX4_count_85 : decode cX4_count 85 = .ok (.getfield 10, 3) := by decide +kernel
theorem dX4_count_88 : decode cX4_count 88 = .ok (.getfield 60, 3) := by decide +kernel
theorem dX4_count_91 : decode cX4_count 91 = .ok (.ireturn, 1) := by decide +kernel
theorem dX4_count_92 : decode cX4_count 92 = .ok (.aload_n 0, 1) := by decide +kernel
theorem dX4_count_93 : decode cX4_count 93 = .ok (.getfield 10, 3) := by decide +kernel
theorem dX4_count_96 : decode cX4_count 96 = .ok (.getfield 85, 3) := by decide +kernel
theorem dX4_count_99 : decode cX4_count 99 = .ok (.ireturn, 1) := by decide +kernel
theorem dX4_count_100 : decode cX4_count 100 = .ok (.aload_n 0, 1) := by decide +kernel
theorem dX4_count_101 : decode cX4_count 101 = .ok (.getfield 202, 3) := by decide +kernel
theorem dX4_count_104 : decode cX4_count 104 = .ok (.ireturn, 1) := by decide +kernel
theorem dX4_count_105 : decode cX4_count 105 = .ok (.sipush (-200), 3) := by decide +kernel
theorem dX4_count_108 : decode cX4_count 108 = .ok (.ireturn, 1) := by decide +kernel
theorem dX4_digest_0 : decode cX4_digest 0 = .ok (.ldc2_w 205, 3) := by decide +kernel
theorem dX4_digest_3 : decode cX4_digest 3 = .ok (.lstore_n 1, 1) := by decide +kernel
theorem dX4_digest_4 : decode cX4_digest 4 = .ok (.iconst 0, 1) := by decide +kernel
theorem dX4_digest_5 : decode cX4_digest 5 = .ok (.istore_n 3, 1) := by decide +kernel
theorem dX4_digest_6 : decode cX4_digest 6 = .ok (.iload_n 3, 1) := by decide +kernel
theorem dX4_digest_7 : decode cX4_digest 7 = .ok (.iconst 5, 1) := by decide +kernel
theorem dX4_digest_8 : decode cX4_digest 8 = .ok (.if_icmp .gt 22, 3) := by decide +kernel
theorem dX4_digest_11 : decode cX4_digest 11 = .ok (.ldc2_w 207, 3) := by decide +kernel
theorem dX4_digest_14 : decode cX4_digest 14 = .ok (.lload_n 1, 1) := by decide +kernel
theorem dX4_digest_15 : decode cX4_digest 15 = .ok (.lmul, 1) := by decide +kernel
theorem dX4_digest_16 : decode cX4_digest 16 = .ok (.aload_n 0, 1) := by decide +kernel
theorem dX4_digest_17 : decode cX4_digest 17 = .ok (.iload_n 3, 1) := by decide +kernel
theorem dX4_digest_18 : decode cX4_digest 18 = .ok (.invokevirtual 209, 3) := by decide +kernel
theorem dX4_digest_21 : decode cX4_digest 21 = .ok (.i2l, 1) := by decide +kernel
theorem dX4_digest_22 : decode cX4_digest 22 = .ok (.ladd, 1) := by decide +kernel
theorem dX4_digest_23 : decode cX4_digest 23 = .ok (.lstore_n 1, 1) := by decide +kernel
theorem dX4_digest_24 : decode cX4_digest 24 = .ok (.iinc 3 1, 3) := by decide +kernel
theorem dX4_digest_27 : decode cX4_digest 27 = .ok (.goto (-21), 3) := by decide +kernel
theorem dX4_digest_30 : decode cX4_digest 30 = .ok (.iconst 0, 1) := by decide +kernel
theorem dX4_digest_31 : decode cX4_digest 31 = .ok (.istore_n 3, 1) := by decide +kernel
theorem dX4_digest_32 : decode cX4_digest 32 = .ok (.iload_n 3, 1) := by decide +kernel
theorem dX4_digest_33 : decode cX4_digest 33 = .ok (.iconst 4, 1) := by decide +kernel
theorem dX4_digest_34 : decode cX4_digest 34 = .ok (.if_icmp .gt 22, 3) := by decide +kernel
theorem dX4_digest_37 : decode cX4_digest 37 = .ok (.ldc2_w 207, 3) := by decide +kernel
theorem dX4_digest_40 : decode cX4_digest 40 = .ok (.lload_n 1, 1) := by decide +kernel
theorem dX4_digest_41 : decode cX4_digest 41 = .ok (.lmul, 1) := by decide +kernel
theorem dX4_digest_42 : decode cX4_digest 42 = .ok (.aload_n 0, 1) := by decide +kernel
theorem dX4_digest_43 : decode cX4_digest 43 = .ok (.iload_n 3, 1) := by decide +kernel
theorem dX4_digest_44 : decode cX4_digest 44 = .ok (.invokevirtual 212, 3) := by decide +kernel
theorem dX4_digest_47 : decode cX4_digest 47 = .ok (.i2l, 1) := by decide +kernel
theorem dX4_digest_48 : decode cX4_digest 48 = .ok (.ladd, 1) := by decide +kernel
theorem dX4_digest_49 : decode cX4_digest 49 = .ok (.lstore_n 1, 1) := by decide +kernel
theorem dX4_digest_50 : decode cX4_digest 50 = .ok (.iinc 3 1, 3) := by decide +kernel
theorem dX4_digest_53 : decode cX4_digest 53 = .ok (.goto (-21), 3) := by decide +kernel
theorem dX4_digest_56 : decode cX4_digest 56 = .ok (.iconst 0, 1) := by decide +kernel
theorem dX4_digest_57 : decode cX4_digest 57 = .ok (.istore_n 3, 1) := by decide +kernel
theorem dX4_digest_58 : decode cX4_digest 58 = .ok (.iload_n 3, 1) := by decide +kernel
theorem dX4_digest_59 : decode cX4_digest 59 = .ok (.aload_n 0, 1) := by decide +kernel
theorem dX4_digest_60 : decode cX4_digest 60 = .ok (.getfield 32, 3) := by decide +kernel
theorem dX4_digest_63 : decode cX4_digest 63 = .ok (.getfield 75, 3) := by decide +kernel
theorem dX4_digest_66 : decode cX4_digest 66 = .ok (.if_icmp .ge 26, 3) := by decide +kernel
theorem dX4_digest_69 : decode cX4_digest 69 = .ok (.ldc2_w 207, 3) := by decide +kernel
theorem dX4_digest_72 : decode cX4_digest 72 = .ok (.lload_n 1, 1) := by decide +kernel
theorem dX4_digest_73 : decode cX4_digest 73 = .ok (.lmul, 1) := by decide +kernel
theorem dX4_digest_74 : decode cX4_digest 74 = .ok (.aload_n 0, 1) := by decide +kernel
theorem dX4_digest_75 : decode cX4_digest 75 = .ok (.getfield 32, 3) := by decide +kernel
theorem dX4_digest_78 : decode cX4_digest 78 = .ok (.getfield 81, 3) := by decide +kernel
theorem dX4_digest_81 : decode cX4_digest 81 = .ok (.iload_n 3, 1) := by decide +kernel
theorem dX4_digest_82 : decode cX4_digest 82 = .ok (.iaload, 1) := by decide +kernel
theorem dX4_digest_83 : decode cX4_digest 83 = .ok (.i2l, 1) := by decide +kernel
theorem dX4_digest_84 : decode cX4_digest 84 = .ok (.ladd, 1) := by decide +kernel
theorem dX4_digest_85 : decode cX4_digest 85 = .ok (.lstore_n 1, 1) := by decide +kernel
theorem dX4_digest_86 : decode cX4_digest 86 = .ok (.iinc 3 1, 3) := by decide +kernel
theorem dX4_digest_89 : decode cX4_digest 89 = .ok (.goto (-31), 3) := by decide +kernel
theorem dX4_digest_92 : decode cX4_digest 92 = .ok (.iconst 0, 1) := by decide +kernel
theorem dX4_digest_93 : decode cX4_digest 93 = .ok (.istore_n 3, 1) := by decide +kernel
theorem dX4_digest_94 : decode cX4_digest 94 = .ok (.iload_n 3, 1) := by decide +kernel
theorem dX4_digest_95 : decode cX4_digest 95 = .ok (.aload_n 0, 1) := by decide +kernel
theorem dX4_digest_96 : decode cX4_digest 96 = .ok (.getfield 10, 3) := by decide +kernel
theorem dX4_digest_99 : decode cX4_digest 99 = .ok (.getfield 85, 3) := by decide +kernel
theorem dX4_digest_102 : decode cX4_digest 102 = .ok (.if_icmp .ge 25, 3) := by decide +kernel
theorem dX4_digest_105 : decode cX4_digest 105 = .ok (.ldc2_w 207, 3) := by decide +kernel
theorem dX4_digest_108 : decode cX4_digest 108 = .ok (.lload_n 1, 1) := by decide +kernel
theorem dX4_digest_109 : decode cX4_digest 109 = .ok (.lmul, 1) := by decide +kernel
theorem dX4_digest_110 : decode cX4_digest 110 = .ok (.aload_n 0, 1) := by decide +kernel
theorem dX4_digest_111 : decode cX4_digest 111 = .ok (.getfield 32, 3) := by decide +kernel
theorem dX4_digest_114 : decode cX4_digest 114 = .ok (.iload_n 3, 1) := by decide +kernel
theorem dX4_digest_115 : decode cX4_digest 115 = .ok (.invokevirtual 88, 3) := by decide +kernel
theorem dX4_digest_118 : decode cX4_digest 118 = .ok (.i2l, 1) := by decide +kernel
theorem dX4_digest_119 : decode cX4_digest 119 = .ok (.ladd, 1) := by decide +kernel
theorem dX4_digest_120 : decode cX4_digest 120 = .ok (.lstore_n 1, 1) := by decide +kernel
theorem dX4_digest_121 : decode cX4_digest 121 = .ok (.iinc 3 1, 3) := by decide +kernel
theorem dX4_digest_124 : decode cX4_digest 124 = .ok (.goto (-30), 3) := by decide +kernel
theorem dX4_digest_127 : decode cX4_digest 127 = .ok (.lload_n 1, 1) := by decide +kernel
theorem dX4_digest_128 : decode cX4_digest 128 = .ok (.lreturn, 1) := by decide +kernel
theorem dX4_isWithin_0 : decode cX4_isWithin 0 = .ok (.iload_n 0, 1) := by decide +kernel
theorem dX4_isWithin_1 : decode cX4_isWithin 1 = .ok (.iload_n 1, 1) := by decide +kernel
theorem dX4_isWithin_2 : decode cX4_isWithin 2 = .ok (.if_icmp .lt 12, 3) := by decide +kernel
theorem dX4_isWithin_5 : decode cX4_isWithin 5 = .ok (.iload_n 0, 1) := by decide +kernel
theorem dX4_isWithin_6 : decode cX4_isWithin 6 = .ok (.iload_n 2, 1) := by decide +kernel
theorem dX4_isWithin_7 : decode cX4_isWithin 7 = .ok (.if_icmp .gt 7, 3) := by decide +kernel
theorem dX4_isWithin_10 : decode cX4_isWithin 10 = .ok (.iconst 1, 1) := by decide +kernel
theorem dX4_isWithin_11 : decode cX4_isWithin 11 = .ok (.goto 4, 3) := by decide +kernel
theorem dX4_isWithin_14 : decode cX4_isWithin 14 = .ok (.iconst 0, 1) := by decide +kernel
theorem dX4_isWithin_15 : decode cX4_isWithin 15 = .ok (.ireturn, 1) := by decide +kernel
theorem dX4_isSheet_0 : decode cX4_isSheet 0 = .ok (.iload_n 0, 1) := by decide +kernel
theorem dX4_isSheet_1 : decode cX4_isSheet 1 = .ok (.iconst 0, 1) := by decide +kernel
theorem dX4_isSheet_2 : decode cX4_isSheet 2 = .ok (.iconst 3, 1) := by decide +kernel
theorem dX4_isSheet_3 : decode cX4_isSheet 3 = .ok (.invokestatic 46, 3) := by decide +kernel
theorem dX4_isSheet_6 : decode cX4_isSheet 6 = .ok (.ireturn, 1) := by decide +kernel
theorem dX4_isForm_0 : decode cX4_isForm 0 = .ok (.iload_n 0, 1) := by decide +kernel
theorem dX4_isForm_1 : decode cX4_isForm 1 = .ok (.iconst 0, 1) := by decide +kernel
theorem dX4_isForm_2 : decode cX4_isForm 2 = .ok (.iconst 2, 1) := by decide +kernel
theorem dX4_isForm_3 : decode cX4_isForm 3 = .ok (.invokestatic 46, 3) := by decide +kernel
theorem dX4_isForm_6 : decode cX4_isForm 6 = .ok (.ireturn, 1) := by decide +kernel
theorem dX4_refuse_0 : decode cX4_refuse 0 = .ok (.aload_n 0, 1) := by decide +kernel
theorem dX4_refuse_1 : decode cX4_refuse 1 = .ok (.iload_n 1, 1) := by decide +kernel
theorem dX4_refuse_2 : decode cX4_refuse 2 = .ok (.putfield 202, 3) := by decide +kernel
theorem dX4_refuse_5 : decode cX4_refuse 5 = .ok (.bipush (-10), 2) := by decide +kernel
theorem dX4_refuse_7 : decode cX4_refuse 7 = .ok (.iload_n 1, 1) := by decide +kernel
theorem dX4_refuse_8 : decode cX4_refuse 8 = .ok (.isub, 1) := by decide +kernel
theorem dX4_refuse_9 : decode cX4_refuse 9 = .ok (.ireturn, 1) := by decide +kernel
theorem dX4_bestColumn_0 : decode cX4_bestColumn 0 = .ok (.aload_n 0, 1) := by decide +kernel
theorem dX4_bestColumn_1 : decode cX4_bestColumn 1 = .ok (.getfield 25, 3) := by decide +kernel
theorem dX4_bestColumn_4 : decode cX4_bestColumn 4 = .ok (.aload_n 0, 1) := by decide +kernel
theorem dX4_bestColumn_5 : decode cX4_bestColumn 5 = .ok (.getfield 32, 3) := by decide +kernel
theorem dX4_bestColumn_8 : decode cX4_bestColumn 8 = .ok (.invokevirtual 117, 3) := by decide +kernel
theorem dX4_bestColumn_11 : decode cX4_bestColumn 11 = .ok (.iconst (-1), 1) := by decide +kernel
theorem dX4_bestColumn_12 : decode cX4_bestColumn 12 = .ok (.istore_n 1, 1) := by decide +kernel
theorem dX4_bestColumn_13 : decode cX4_bestColumn 13 = .ok (.bipush (-100), 2) := by decide +kernel
theorem dX4_bestColumn_15 : decode cX4_bestColumn 15 = .ok (.istore_n 2, 1) := by decide +kernel
theorem dX4_bestColumn_16 : decode cX4_bestColumn 16 = .ok (.iconst 0, 1) := by decide +kernel
theorem dX4_bestColumn_17 : decode cX4_bestColumn 17 = .ok (.istore_n 3, 1) := by decide +kernel
theorem dX4_bestColumn_18 : decode cX4_bestColumn 18 = .ok (.iload_n 3, 1) := by decide +kernel
theorem dX4_bestColumn_19 : decode cX4_bestColumn 19 = .ok (.aload_n 0, 1) := by decide +kernel
theorem dX4_bestColumn_20 : decode cX4_bestColumn 20 = .ok (.getfield 10, 3) := by decide +kernel
theorem dX4_bestColumn_23 : decode cX4_bestColumn 23 = .ok (.getfield 130, 3) := by decide +kernel
theorem dX4_bestColumn_26 : decode cX4_bestColumn 26 = .ok (.if_icmp .ge 41, 3) := by decide +kernel
theorem dX4_bestColumn_29 : decode cX4_bestColumn 29 = .ok (.aload_n 0, 1) := by decide +kernel
theorem dX4_bestColumn_30 : decode cX4_bestColumn 30 = .ok (.getfield 32, 3) := by decide +kernel
theorem dX4_bestColumn_33 : decode cX4_bestColumn 33 = .ok (.iload_n 3, 1) := by decide +kernel
theorem dX4_bestColumn_34 : decode cX4_bestColumn 34 = .ok (.invokevirtual 63, 3) := by decide +kernel
theorem dX4_bestColumn_37 : decode cX4_bestColumn 37 = .ok (.ifCond .eq 24, 3) := by decide +kernel
theorem dX4_bestColumn_40 : decode cX4_bestColumn 40 = .ok (.aload_n 0, 1) := by decide +kernel
theorem dX4_bestColumn_41 : decode cX4_bestColumn 41 = .ok (.getfield 25, 3) := by decide +kernel
theorem dX4_bestColumn_44 : decode cX4_bestColumn 44 = .ok (.iload_n 3, 1) := by decide +kernel
theorem dX4_bestColumn_45 : decode cX4_bestColumn 45 = .ok (.invokevirtual 124, 3) := by decide +kernel
theorem dX4_bestColumn_48 : decode cX4_bestColumn 48 = .ok (.istore 4, 2) := by decide +kernel
theorem dX4_bestColumn_50 : decode cX4_bestColumn 50 = .ok (.iload 4, 2) := by decide +kernel
theorem dX4_bestColumn_52 : decode cX4_bestColumn 52 = .ok (.iload_n 2, 1) := by decide +kernel
theorem dX4_bestColumn_53 : decode cX4_bestColumn 53 = .ok (.if_icmp .le 8, 3) := by decide +kernel
theorem dX4_bestColumn_56 : decode cX4_bestColumn 56 = .ok (.iload 4, 2) := by decide +kernel
theorem dX4_bestColumn_58 : decode cX4_bestColumn 58 = .ok (.istore_n 2, 1) := by decide +kernel
theorem dX4_bestColumn_59 : decode cX4_bestColumn 59 = .ok (.iload_n 3, 1) := by decide +kernel
theorem dX4_bestColumn_60 : decode cX4_bestColumn 60 = .ok (.istore_n 1, 1) := by decide +kernel
theorem dX4_bestColumn_61 : decode cX4_bestColumn 61 = .ok (.iinc 3 1, 3) := by decide +kernel
theorem dX4_bestColumn_64 : decode cX4_bestColumn 64 = .ok (.goto (-46), 3) := by decide +kernel
theorem dX4_bestColumn_67 : decode cX4_bestColumn 67 = .ok (.iload_n 1, 1) := by decide +kernel
theorem dX4_bestColumn_68 : decode cX4_bestColumn 68 = .ok (.ireturn, 1) := by decide +kernel
theorem dX4_nthSquare_0 : decode cX4_nthSquare 0 = .ok (.iload_n 0, 1) := by decide +kernel
theorem dX4_nthSquare_1 : decode cX4_nthSquare 1 = .ok (.istore_n 2, 1) := by decide +kernel
theorem dX4_nthSquare_2 : decode cX4_nthSquare 2 = .ok (.iconst 0, 1) := by decide +kernel
theorem dX4_nthSquare_3 : decode cX4_nthSquare 3 = .ok (.istore_n 3, 1) := by decide +kernel
theorem dX4_nthSquare_4 : decode cX4_nthSquare 4 = .ok (.iload_n 3, 1) := by decide +kernel
theorem dX4_nthSquare_5 : decode cX4_nthSquare 5 = .ok (.iload_n 1, 1) := by decide +kernel
theorem dX4_nthSquare_6 : decode cX4_nthSquare 6 = .ok (.if_icmp .ge 15, 3) := by decide +kernel
theorem dX4_nthSquare_9 : decode cX4_nthSquare 9 = .ok (.iload_n 2, 1) := by decide +kernel
theorem dX4_nthSquare_10 : decode cX4_nthSquare 10 = .ok (.iload_n 2, 1) := by decide +kernel
theorem dX4_nthSquare_11 : decode cX4_nthSquare 11 = .ok (.iconst 1, 1) := by decide +kernel
theorem dX4_nthSquare_12 : decode cX4_nthSquare 12 = .ok (.isub, 1) := by decide +kernel
theorem dX4_nthSquare_13 : decode cX4_nthSquare 13 = .ok (.iand, 1) := by decide +kernel
theorem dX4_nthSquare_14 : decode cX4_nthSquare 14 = .ok (.istore_n 2, 1) := by decide +kernel
theorem dX4_nthSquare_15 : decode cX4_nthSquare 15 = .ok (.iinc 3 1, 3) := by decide +kernel
theorem dX4_nthSquare_18 : decode cX4_nthSquare 18 = .ok (.goto (-14), 3) := by decide +kernel
theorem dX4_nthSquare_21 : decode cX4_nthSquare 21 = .ok (.iload_n 2, 1) := by decide +kernel
theorem dX4_nthSquare_22 : decode cX4_nthSquare 22 = .ok (.ifCond .ne 7, 3) := by decide +kernel
theorem dX4_nthSquare_25 : decode cX4_nthSquare 25 = .ok (.iconst (-1), 1) := by decide +kernel
theorem dX4_nthSquare_26 : decode cX4_nthSquare 26 = .ok (.goto 12, 3) := by decide +kernel
theorem dX4_nthSquare_29 : decode cX4_nthSquare 29 = .ok (.iload_n 2, 1) := by decide +kernel
theorem dX4_nthSquare_30 : decode cX4_nthSquare 30 = .ok (.iload_n 2, 1) := by decide +kernel
theorem dX4_nthSquare_31 : decode cX4_nthSquare 31 = .ok (.ineg, 1) := by decide +kernel
theorem dX4_nthSquare_32 : decode cX4_nthSquare 32 = .ok (.iand, 1) := by decide +kernel
theorem dX4_nthSquare_33 : decode cX4_nthSquare 33 = .ok (.iconst 1, 1) := by decide +kernel
theorem dX4_nthSquare_34 : decode cX4_nthSquare 34 = .ok (.isub, 1) := by decide +kernel
theorem dX4_nthSquare_35 : decode cX4_nthSquare 35 = .ok (.invokestatic 142, 3) := by decide +kernel
theorem dX4_nthSquare_38 : decode cX4_nthSquare 38 = .ok (.ireturn, 1) := by decide +kernel
end
section
/-! the instructions, decoded -/
theorem dX5_init_0 : decode cX5_init 0 = .ok (.aload_n 0, 1) := by decide +kernel
theorem dX5_init_1 : decode cX5_init 1 = .ok (.invokespecial 1, 3) := by decide +kernel
theorem dX5_init_4 : decode cX5_init 4 = .ok (.aload_n 0, 1) := by decide +kernel
theorem dX5_init_5 : decode cX5_init 5 = .ok (.bipush 64, 2) := by decide +kernel
theorem dX5_init_7 : decode cX5_init 7 = .ok (.newarray .int, 2) := by decide +kernel
theorem dX5_init_9 : decode cX5_init 9 = .ok (.putfield 7, 3) := by decide +kernel
theorem dX5_init_12 : decode cX5_init 12 = .ok (.aload_n 0, 1) := by decide +kernel
theorem dX5_init_13 : decode cX5_init 13 = .ok (.ldc 13, 2) := by decide +kernel
theorem dX5_init_15 : decode cX5_init 15 = .ok (.newarray .byte, 2) := by decide +kernel
theorem dX5_init_17 : decode cX5_init 17 = .ok (.putfield 14, 3) := by decide +kernel
theorem dX5_init_20 : decode cX5_init 20 = .ok (.aload_n 0, 1) := by decide +kernel
theorem dX5_init_21 : decode cX5_init 21 = .ok (.bipush 17, 2) := by decide +kernel
theorem dX5_init_23 : decode cX5_init 23 = .ok (.newarray .int, 2) := by decide +kernel
theorem dX5_init_25 : decode cX5_init 25 = .ok (.putfield 18, 3) := by decide +kernel
theorem dX5_init_28 : decode cX5_init 28 = .ok (.aload_n 0, 1) := by decide +kernel
theorem dX5_init_29 : decode cX5_init 29 = .ok (.bipush 17, 2) := by decide +kernel
theorem dX5_init_31 : decode cX5_init 31 = .ok (.newarray .int, 2) := by decide +kernel
theorem dX5_init_33 : decode cX5_init 33 = .ok (.putfield 21, 3) := by decide +kernel
theorem dX5_init_36 : decode cX5_init 36 = .ok (.aload_n 0, 1) := by decide +kernel
theorem dX5_init_37 : decode cX5_init 37 = .ok (.bipush 17, 2) := by decide +kernel
theorem dX5_init_39 : decode cX5_init 39 = .ok (.newarray .int, 2) := by decide +kernel
theorem dX5_init_41 : decode cX5_init 41 = .ok (.putfield 24, 3) := by decide +kernel
theorem dX5_init_44 : decode cX5_init 44 = .ok (.aload_n 0, 1) := by decide +kernel
theorem dX5_init_45 : decode cX5_init 45 = .ok (.bipush 17, 2) := by decide +kernel
theorem dX5_init_47 : decode cX5_init 47 = .ok (.newarray .int, 2) := by decide +kernel
theorem dX5_init_49 : decode cX5_init 49 = .ok (.putfield 27, 3) := by decide +kernel
theorem dX5_init_52 : decode cX5_init 52 = .ok (.aload_n 0, 1) := by decide +kernel
theorem dX5_init_53 : decode cX5_init 53 = .ok (.bipush 17, 2) := by decide +kernel
theorem dX5_init_55 : decode cX5_init 55 = .ok (.newarray .int, 2) := by decide +kernel
theorem dX5_init_57 : decode cX5_init 57 = .ok (.putfield 30, 3) := by decide +kernel
theorem dX5_init_60 : decode cX5_init 60 = .ok (.aload_n 0, 1) := by decide +kernel
theorem dX5_init_61 : decode cX5_init 61 = .ok (.iconst 2, 1) := by decide +kernel
theorem dX5_init_62 : decode cX5_init 62 = .ok (.newarray .int, 2) := by decide +kernel
theorem dX5_init_64 : decode cX5_init 64 = .ok (.putfield 33, 3) := by decide +kernel
theorem dX5_init_67 : decode cX5_init 67 = .ok (.aload_n 0, 1) := by decide +kernel
theorem dX5_init_68 : decode cX5_init 68 = .ok (.bipush 16, 2) := by decide +kernel
theorem dX5_init_70 : decode cX5_init 70 = .ok (.newarray .int, 2) := by decide +kernel
theorem dX5_init_72 : decode cX5_init 72 = .ok (.putfield 36, 3) := by decide +kernel
theorem dX5_init_75 : decode cX5_init 75 = .ok (.aload_n 0, 1) := by decide +kernel
theorem dX5_init_76 : decode cX5_init 76 = .ok (.iconst 4, 1) := by decide +kernel
theorem dX5_init_77 : decode cX5_init 77 = .ok (.newarray .int, 2) := by decide +kernel
theorem dX5_init_79 : decode cX5_init 79 = .ok (.putfield 39, 3) := by decide +kernel
theorem dX5_init_82 : decode cX5_init 82 = .ok (.aload_n 0, 1) := by decide +kernel
theorem dX5_init_83 : decode cX5_init 83 = .ok (.iconst 4, 1) := by decide +kernel
theorem dX5_init_84 : decode cX5_init 84 = .ok (.newarray .int, 2) := by decide +kernel
theorem dX5_init_86 : decode cX5_init 86 = .ok (.putfield 42, 3) := by decide +kernel
theorem dX5_init_89 : decode cX5_init 89 = .ok (.aload_n 0, 1) := by decide +kernel
theorem dX5_init_90 : decode cX5_init 90 = .ok (.bipush 80, 2) := by decide +kernel
theorem dX5_init_92 : decode cX5_init 92 = .ok (.newarray .int, 2) := by decide +kernel
theorem dX5_init_94 : decode cX5_init 94 = .ok (.putfield 45, 3) := by decide +kernel
theorem dX5_init_97 : decode cX5_init 97 = .ok (.aload_n 0, 1) := by decide +kernel
theorem dX5_init_98 : decode cX5_init 98 = .ok (.bipush 20, 2) := by decide +kernel
theorem dX5_init_100 : decode cX5_init 100 = .ok (.newarray .int, 2) := by decide +kernel
theorem dX5_init_102 : decode cX5_init 102 = .ok (.putfield 48, 3) := by decide +kernel
theorem dX5_init_105 : decode cX5_init 105 = .ok (.iconst 0, 1) := by decide +kernel
theorem dX5_init_106 : decode cX5_init 106 = .ok (.istore_n 1, 1) := by decide +kernel
theorem dX5_init_107 : decode cX5_init 107 = .ok (.iload_n 1, 1) := by decide +kernel
theorem dX5_init_108 : decode cX5_init 108 = .ok (.iconst 4, 1) := by decide +kernel
theorem dX5_init_109 : decode cX5_init 109 = .ok (.if_icmp .ge 16, 3) := by decide +kernel
theorem dX5_init_112 : decode cX5_init 112 = .ok (.aload_n 0, 1) := by decide +kernel
theorem dX5_init_113 : decode cX5_init 113 = .ok (.getfield 39, 3) := by decide +kernel
theorem dX5_init_116 : decode cX5_init 116 = .ok (.iload_n 1, 1) := by decide +kernel
theorem dX5_init_117 : decode cX5_init 117 = .ok (.iconst (-1), 1) := by decide +kernel
theorem dX5_init_118 : decode cX5_init 118 = .ok (.iastore, 1) := by decide +kernel
theorem dX5_init_119 : decode cX5_init 119 = .ok (.iinc 1 1, 3) := by decide +kernel
theorem dX5_init_122 : decode cX5_init 122 = .ok (.goto (-15), 3) := by decide +kernel
theorem dX5_init_125 : decode cX5_init 125 = .ok (.aload_n 0, 1) := by decide +kernel
theorem dX5_init_126 : decode cX5_init 126 = .ok (.iconst 4, 1) := by decide +kernel
theorem dX5_init_127 : decode cX5_init 127 = .ok (.iconst 4, 1) := by decide +kernel
theorem dX5_init_128 : decode cX5_init 128 = .ok (.iconst 3, 1) := by decide +kernel
theorem dX5_init_129 : decode cX5_init 129 = .ok (.iconst 0, 1) := by decide +kernel
theorem dX5_init_130 : decode cX5_init 130 = .ok (.invokevirtual 51, 3) := by decide +kernel
theorem dX5_init_133 : decode cX5_init 133 = .ok (.return_, 1) := by decide +kernel
theorem dX5_in_0 : decode cX5_in 0 = .ok (.lload_n 0, 1) := by decide +kernel
theorem dX5_in_1 : decode cX5_in 1 = .ok (.lload_n 2, 1) := by decide +kernel
theorem dX5_in_2 : decode cX5_in 2 = .ok (.lcmp, 1) := by decide +kernel
theorem dX5_in_3 : decode cX5_in 3 = .ok (.ifCond .lt 14, 3) := by decide +kernel
theorem dX5_in_6 : decode cX5_in 6 = .ok (.lload_n 0, 1) := by decide +kernel
theorem dX5_in_7 : decode cX5_in 7 = .ok (.lload 4, 2) := by decide +kernel
theorem dX5_in_9 : decode cX5_in 9 = .ok (.lcmp, 1) := by decide +kernel
theorem dX5_in_10 : decode cX5_in 10 = .ok (.ifCond .gt 7, 3) := by decide +kernel
theorem dX5_in_13 : decode cX5_in 13 = .ok (.iconst 1, 1) := by decide +kernel
theorem dX5_in_14 : decode cX5_in 14 = .ok (.goto 4, 3) := by decide +kernel
theorem dX5_in_17 : decode cX5_in 17 = .ok (.iconst 0, 1) := by decide +kernel
theorem dX5_in_18 : decode cX5_in 18 = .ok (.ireturn, 1) := by decide +kernel
theorem dX5_board_0 : decode cX5_board 0 = .ok (.iload_n 1, 1) := by decide +kernel
theorem dX5_board_1 : decode cX5_board 1 = .ok (.i2l, 1) := by decide +kernel
theorem dX5_board_2 : decode cX5_board 2 = .ok (.lconst 1, 1) := by decide +kernel
theorem dX5_board_3 : decode cX5_board 3 = .ok (.ldc2_w 55, 3) := by decide +kernel
theorem dX5_board_6 : decode cX5_board 6 = .ok (.invokestatic 57, 3) := by decide +kernel
theorem dX5_board_9 : decode cX5_board 9 = .ok (.ifCond .eq 37, 3) := by decide +kernel
theorem dX5_board_12 : decode cX5_board 12 = .ok (.iload_n 2, 1) := by decide +kernel
theorem dX5_board_13 : decode cX5_board 13 = .ok (.i2l, 1) := by decide +kernel
theorem dX5_board_14 : decode cX5_board 14 = .ok (.lconst 1, 1) := by decide +kernel
theorem dX5_board_15 : decode cX5_board 15 = .ok (.ldc2_w 61, 3) := by decide +kernel
theorem dX5_board_18 : decode cX5_board 18 = .ok (.invokestatic 57, 3) := by decide +kernel
theorem dX5_board_21 : decode cX5_board 21 = .ok (.ifCond .eq 25, 3) := by decide +kernel
theorem dX5_board_24 : decode cX5_board 24 = .ok (.iload_n 1, 1) := by decide +kernel
theorem dX5_board_25 : decode cX5_board 25 = .ok (.iload_n 2, 1) := by decide +kernel
theorem dX5_board_26 : decode cX5_board 26 = .ok (.imul, 1) := by decide +kernel
theorem dX5_board_27 : decode cX5_board 27 = .ok (.bipush 16, 2) := by decide +kernel
theorem dX5_board_29 : decode cX5_board 29 = .ok (.if_icmp .gt 17, 3) := by decide +kernel
theorem dX5_board_32 : decode cX5_board 32 = .ok (.iload_n 3, 1) := by decide +kernel
theorem dX5_board_33 : decode cX5_board 33 = .ok (.i2l, 1) := by decide +kernel
theorem dX5_board_34 : decode cX5_board 34 = .ok (.ldc2_w 63, 3) := by decide +kernel
theorem dX5_board_37 : decode cX5_board 37 = .ok (.ldc2_w 65, 3) := by decide +kernel
theorem dX5_board_40 : decode cX5_board 40 = .ok (.invokestatic 57, 3) := by decide +kernel
theorem dX5_board_43 : decode cX5_board 43 = .ok (.ifCond .ne 7, 3) := by decide +kernel
theorem dX5_board_46 : decode cX5_board 46 = .ok (.sipush (-200), 3) := by decide +kernel
theorem dX5_board_49 : decode cX5_board 49 = .ok (.ireturn, 1) := by decide +kernel
theorem dX5_board_50 : decode cX5_board 50 = .ok (.aload_n 0, 1) := by decide +kernel
theorem dX5_board_51 : decode cX5_board 51 = .ok (.getfield 67, 3) := by decide +kernel
theorem dX5_board_54 : decode cX5_board 54 = .ok (.bipush 12, 2) := by decide +kernel
theorem dX5_board_56 : decode cX5_board 56 = .ok (.if_icmp .ne 7, 3) := by decide +kernel
theorem dX5_board_59 : decode cX5_board 59 = .ok (.sipush (-202), 3) := by decide +kernel
theorem dX5_board_62 : decode cX5_board 62 = .ok (.ireturn, 1) := by decide +kernel
theorem dX5_board_63 : decode cX5_board 63 = .ok (.aload_n 0, 1) := by decide +kernel
theorem dX5_board_64 : decode cX5_board 64 = .ok (.dup, 1) := by decide +kernel
theorem dX5_board_65 : decode cX5_board 65 = .ok (.getfield 67, 3) := by decide +kernel
theorem dX5_board_68 : decode cX5_board 68 = .ok (.iconst 1, 1) := by decide +kernel
theorem dX5_board_69 : decode cX5_board 69 = .ok (.iadd, 1) := by decide +kernel
theorem dX5_board_70 : decode cX5_board 70 = .ok (.putfield 67, 3) := by decide +kernel
theorem dX5_board_73 : decode cX5_board 73 = .ok (.aload_n 0, 1) := by decide +kernel
theorem dX5_board_74 : decode cX5_board 74 = .ok (.iload_n 1, 1) := by decide +kernel
theorem dX5_board_75 : decode cX5_board 75 = .ok (.iload_n 2, 1) := by decide +kernel
theorem dX5_board_76 : decode cX5_board 76 = .ok (.iload_n 3, 1) := by decide +kernel
theorem dX5_board_77 : decode cX5_board 77 = .ok (.iload 4, 2) := by decide +kernel
theorem dX5_board_79 : decode cX5_board 79 = .ok (.invokevirtual 51, 3) := by decide +kernel
theorem dX5_board_82 : decode cX5_board 82 = .ok (.aload_n 0, 1) := by decide +kernel
theorem dX5_board_83 : decode cX5_board 83 = .ok (.getfield 71, 3) := by decide +kernel
theorem dX5_board_86 : decode cX5_board 86 = .ok (.ireturn, 1) := by decide +kernel
theorem dX5_begin_0 : decode cX5_begin 0 = .ok (.aload_n 0, 1) := by decide +kernel
theorem dX5_begin_1 : decode cX5_begin 1 = .ok (.iload_n 1, 1) := by decide +kernel
theorem dX5_begin_2 : decode cX5_begin 2 = .ok (.putfield 74, 3) := by decide +kernel
theorem dX5_begin_5 : decode cX5_begin 5 = .ok (.aload_n 0, 1) := by decide +kernel
theorem dX5_begin_6 : decode cX5_begin 6 = .ok (.iload_n 2, 1) := by decide +kernel
theorem dX5_begin_7 : decode cX5_begin 7 = .ok (.putfield 77, 3) := by decide +kernel
theorem dX5_begin_10 : decode cX5_begin 10 = .ok (.aload_n 0, 1) := by decide +kernel
theorem dX5_begin_11 : decode cX5_begin 11 = .ok (.iload_n 3, 1) := by decide +kernel
theorem dX5_begin_12 : decode cX5_begin 12 = .ok (.putfield 80, 3) := by decide +kernel
theorem dX5_begin_15 : decode cX5_begin 15 = .ok (.aload_n 0, 1) := by decide +kernel
theorem dX5_begin_16 : decode cX5_begin 16 = .ok (.iload 4, 2) := by decide +kernel
theorem dX5_begin_18 : decode cX5_begin 18 = .ok (.putfield 83, 3) := by decide +kernel
theorem dX5_begin_21 : decode cX5_begin 21 = .ok (.aload_n 0, 1) := by decide +kernel
theorem dX5_begin_22 : decode cX5_begin 22 = .ok (.invokevirtual 87, 3) := by decide +kernel
theorem dX5_begin_25 : decode cX5_begin 25 = .ok (.aload_n 0, 1) := by decide +kernel
theorem dX5_begin_26 : decode cX5_begin 26 = .ok (.invokevirtual 90, 3) := by decide +kernel
theorem dX5_begin_29 : decode cX5_begin 29 = .ok (.aload_n 0, 1) := by decide +kernel
theorem dX5_begin_30 : decode cX5_begin 30 = .ok (.invokevirtual 93, 3) := by decide +kernel
theorem dX5_begin_33 : decode cX5_begin 33 = .ok (.aload_n 0, 1) := by decide +kernel
theorem dX5_begin_34 : decode cX5_begin 34 = .ok (.iconst 0, 1) := by decide +kernel
theorem dX5_begin_35 : decode cX5_begin 35 = .ok (.putfield 96, 3) := by decide +kernel
theorem dX5_begin_38 : decode cX5_begin 38 = .ok (.aload_n 0, 1) := by decide +kernel
theorem dX5_begin_39 : decode cX5_begin 39 = .ok (.invokevirtual 99, 3) := by decide +kernel
theorem dX5_begin_42 : decode cX5_begin 42 = .ok (.return_, 1) := by decide +kernel
theorem dX5_squaresOf_0 : decode cX5_squaresOf 0 = .ok (.iconst 0, 1) := by decide +kernel
theorem dX5_squaresOf_1 : decode cX5_squaresOf 1 = .ok (.istore 5, 2) := by decide +kernel
theorem dX5_squaresOf_3 : decode cX5_squaresOf 3 = .ok (.iload_n 1, 1) := by decide +kernel
theorem dX5_squaresOf_4 : decode cX5_squaresOf 4 = .ok (.istore 6, 2) := by decide +kernel
theorem dX5_squaresOf_6 : decode cX5_squaresOf 6 = .ok (.iload_n 2, 1) := by decide +kernel
theorem dX5_squaresOf_7 : decode cX5_squaresOf 7 = .ok (.istore 7, 2) := by decide +kernel
theorem dX5_squaresOf_9 : decode cX5_squaresOf 9 = .ok (.iconst 0, 1) := by decide +kernel
theorem dX5_squaresOf_10 : decode cX5_squaresOf 10 = .ok (.istore 8, 2) := by decide +kernel
theorem dX5_squaresOf_12 : decode cX5_squaresOf 12 = .ok (.iload 8, 2) := by decide +kernel
theorem dX5_squaresOf_14 : decode cX5_squaresOf 14 = .ok (.aload_n 0, 1) := by decide +kernel
theorem dX5_squaresOf_15 : decode cX5_squaresOf 15 = .ok (.getfield 80, 3) := by decide +kernel
theorem dX5_squaresOf_18 : decode cX5_squaresOf 18 = .ok (.if_icmp .ge 119, 3) := by decide +kernel
theorem dX5_squaresOf_21 : decode cX5_squaresOf 21 = .ok (.iload 6, 2) := by decide +kernel
theorem dX5_squaresOf_23 : decode cX5_squaresOf 23 = .ok (.i2l, 1) := by decide +kernel
theorem dX5_squaresOf_24 : decode cX5_squaresOf 24 = .ok (.lconst 0, 1) := by decide +kernel
theorem dX5_squaresOf_25 : decode cX5_squaresOf 25 = .ok (.aload_n 0, 1) := by decide +kernel
theorem dX5_squaresOf_26 : decode cX5_squaresOf 26 = .ok (.getfield 74, 3) := by decide +kernel
theorem dX5_squaresOf_29 : decode cX5_squaresOf 29 = .ok (.iconst 1, 1) := by decide +kernel
theorem dX5_squaresOf_30 : decode cX5_squaresOf 30 = .ok (.isub, 1) := by decide +kernel
theorem dX5_squaresOf_31 : decode cX5_squaresOf 31 = .ok (.i2l, 1) := by decide +kernel
theorem dX5_squaresOf_32 : decode cX5_squaresOf 32 = .ok (.invokestatic 57, 3) := by decide +kernel
theorem dX5_squaresOf_35 : decode cX5_squaresOf 35 = .ok (.ifCond .eq 12, 3) := by decide +kernel
theorem dX5_squaresOf_38 : decode cX5_squaresOf 38 = .ok (.iload 7, 2) := by decide +kernel
theorem dX5_squaresOf_40 : decode cX5_squaresOf 40 = .ok (.aload_n 0, 1) := by decide +kernel
theorem dX5_squaresOf_41 : decode cX5_squaresOf 41 = .ok (.getfield 77, 3) := by decide +kernel
theorem dX5_squaresOf_44 : decode cX5_squaresOf 44 = .ok (.if_icmp .lt 5, 3) := by decide +kernel
theorem dX5_squaresOf_47 : decode cX5_squaresOf 47 = .ok (.iconst 0, 1) := by decide +kernel
theorem dX5_squaresOf_48 : decode cX5_squaresOf 48 = .ok (.ireturn, 1) := by decide +kernel
theorem dX5_squaresOf_49 : decode cX5_squaresOf 49 = .ok (.iconst 1, 1) := by decide +kernel
theorem dX5_squaresOf_50 : decode cX5_squaresOf 50 = .ok (.aload_n 0, 1) := by decide +kernel
theorem dX5_squaresOf_51 : decode cX5_squaresOf 51 = .ok (.getfield 74, 3) := by decide +kernel
theorem dX5_squaresOf_54 : decode cX5_squaresOf 54 = .ok (.iload 7, 2) := by decide +kernel
theorem dX5_squaresOf_56 : decode cX5_squaresOf 56 = .ok (.imul, 1) := by decide +kernel
theorem dX5_squaresOf_57 : decode cX5_squaresOf 57 = .ok (.iload 6, 2) := by decide +kernel
theorem dX5_squaresOf_59 : decode cX5_squaresOf 59 = .ok (.iadd, 1) := by decide +kernel
theorem dX5_squaresOf_60 : decode cX5_squaresOf 60 = .ok (.ishl, 1) := by decide +kernel
theorem dX5_squaresOf_61 : decode cX5_squaresOf 61 = .ok (.istore 9, 2) := by decide +kernel
theorem dX5_squaresOf_63 : decode cX5_squaresOf 63 = .ok (.iload 5, 2) := by decide +kernel
theorem dX5_squaresOf_65 : decode cX5_squaresOf 65 = .ok (.iload 9, 2) := by decide +kernel
theorem dX5_squaresOf_67 : decode cX5_squaresOf 67 = .ok (.iand, 1) := by decide +kernel
theorem dX5_squaresOf_68 : decode cX5_squaresOf 68 = .ok (.ifCond .eq 5, 3) := by decide +kernel
theorem dX5_squaresOf_71 : decode cX5_squaresOf 71 = .ok (.iconst 0, 1) := by decide +kernel
theorem dX5_squaresOf_72 : decode cX5_squaresOf 72 = .ok (.ireturn, 1) := by decide +kernel
theorem dX5_squaresOf_73 : decode cX5_squaresOf 73 = .ok (.iload 5, 2) := by decide +kernel
theorem dX5_squaresOf_75 : decode cX5_squaresOf 75 = .ok (.iload 9, 2) := by decide +kernel
theorem dX5_squaresOf_77 : decode cX5_squaresOf 77 = .ok (.ior, 1) := by decide +kernel
theorem dX5_squaresOf_78 : decode cX5_squaresOf 78 = .ok (.istore 5, 2) := by decide +kernel
theorem dX5_squaresOf_80 : decode cX5_squaresOf 80 = .ok (.iload 6, 2) := by decide +kernel
theorem dX5_squaresOf_82 : decode cX5_squaresOf 82 = .ok (.iload_n 3, 1) := by decide +kernel
theorem dX5_squaresOf_83 : decode cX5_squaresOf 83 = .ok (.iadd, 1) := by decide +kernel
theorem dX5_squaresOf_84 : decode cX5_squaresOf 84 = .ok (.istore 6, 2) := by decide +kernel
theorem dX5_squaresOf_86 : decode cX5_squaresOf 86 = .ok (.iload 7, 2) := by decide +kernel
theorem dX5_squaresOf_88 : decode cX5_squaresOf 88 = .ok (.iload 4, 2) := by decide +kernel
theorem dX5_squaresOf_90 : decode cX5_squaresOf 90 = .ok (.iadd, 1) := by decide +kernel
theorem dX5_squaresOf_91 : decode cX5_squaresOf 91 = .ok (.istore 7, 2) := by decide +kernel
theorem dX5_squaresOf_93 : decode cX5_squaresOf 93 = .ok (.aload_n 0, 1) := by decide +kernel
theorem dX5_squaresOf_94 : decode cX5_squaresOf 94 = .ok (.getfield 83, 3) := by decide +kernel
theorem dX5_squaresOf_97 : decode cX5_squaresOf 97 = .ok (.ifCond .eq 34, 3) := by decide +kernel
theorem dX5_squaresOf_100 : decode cX5_squaresOf 100 = .ok (.iload 6, 2) := by decide +kernel
theorem dX5_squaresOf_102 : decode cX5_squaresOf 102 = .ok (.ifCond .ge 12, 3) := by decide +kernel
theorem dX5_squaresOf_105 : decode cX5_squaresOf 105 = .ok (.aload_n 0, 1) := by decide +kernel
theorem dX5_squaresOf_106 : decode cX5_squaresOf 106 = .ok (.getfield 74, 3) := by decide +kernel
theorem dX5_squaresOf_109 : decode cX5_squaresOf 109 = .ok (.iconst 1, 1) := by decide +kernel
theorem dX5_squaresOf_110 : decode cX5_squaresOf 110 = .ok (.isub, 1) := by decide +kernel
theorem dX5_squaresOf_111 : decode cX5_squaresOf 111 = .ok (.goto 18, 3) := by decide +kernel
theorem dX5_squaresOf_114 : decode cX5_squaresOf 114 = .ok (.iload 6, 2) := by decide +kernel
theorem dX5_squaresOf_116 : decode cX5_squaresOf 116 = .ok (.aload_n 0, 1) := by decide +kernel
theorem dX5_squaresOf_117 : decode cX5_squaresOf 117 = .ok (.getfield 74, 3) := by decide +kernel
theorem dX5_squaresOf_120 : decode cX5_squaresOf 120 = .ok (.if_icmp .ne 7, 3) := by decide +kernel
theorem dX5_squaresOf_123 : decode cX5_squaresOf 123 = .ok (.iconst 0, 1) := by decide +kernel
theorem dX5_squaresOf_124 : decode cX5_squaresOf 124 = .ok (.goto 5, 3) := by decide +kernel
theorem dX5_squaresOf_127 : decode cX5_squaresOf 127 = .ok (.iload 6, 2) := by decide +kernel
theorem dX5_squaresOf_129 : decode cX5_squaresOf 129 = .ok (.istore 6, 2) := by decide +kernel
theorem dX5_squaresOf_131 : decode cX5_squaresOf 131 = .ok (.iinc 8 1, 3) := by decide +kernel
theorem dX5_squaresOf_134 : decode cX5_squaresOf 134 = .ok (.goto (-122), 3) := by decide +kernel
theorem dX5_squaresOf_137 : decode cX5_squaresOf 137 = .ok (.iload 5, 2) := by decide +kernel
theorem dX5_squaresOf_139 : decode cX5_squaresOf 139 = .ok (.ireturn, 1) := by decide +kernel
theorem dX5_addRow_0 : decode cX5_addRow 0 = .ok (.iconst 0, 1) := by decide +kernel
theorem dX5_addRow_1 : decode cX5_addRow 1 = .ok (.istore_n 2, 1) := by decide +kernel
theorem dX5_addRow_2 : decode cX5_addRow 2 = .ok (.iload_n 2, 1) := by decide +kernel
theorem dX5_addRow_3 : decode cX5_addRow 3 = .ok (.aload_n 0, 1) := by decide +kernel
theorem dX5_addRow_4 : decode cX5_addRow 4 = .ok (.getfield 71, 3) := by decide +kernel
theorem dX5_addRow_7 : decode cX5_addRow 7 = .ok (.if_icmp .ge 20, 3) := by decide +kernel
theorem dX5_addRow_10 : decode cX5_addRow 10 = .ok (.aload_n 0, 1) := by decide +kernel
theorem dX5_addRow_11 : decode cX5_addRow 11 = .ok (.getfield 7, 3) := by decide +kernel
theorem dX5_addRow_14 : decode cX5_addRow 14 = .ok (.iload_n 2, 1) := by decide +kernel
theorem dX5_addRow_15 : decode cX5_addRow 15 = .ok (.iaload, 1) := by decide +kernel
theorem dX5_addRow_16 : decode cX5_addRow 16 = .ok (.iload_n 1, 1) := by decide +kernel
theorem dX5_addRow_17 : decode cX5_addRow 17 = .ok (.if_icmp .ne 4, 3) := by decide +kernel
theorem dX5_addRow_20 : decode cX5_addRow 20 = .ok (.return_, 1) := by decide +kernel
theorem dX5_addRow_21 : decode cX5_addRow 21 = .ok (.iinc 2 1, 3) := by decide +kernel
theorem dX5_addRow_24 : decode cX5_addRow 24 = .ok (.goto (-22), 3) := by decide +kernel
theorem dX5_addRow_27 : decode cX5_addRow 27 = .ok (.iload_n 1, 1) := by decide +kernel
theorem dX5_addRow_28 : decode cX5_addRow 28 = .ok (.ifCond .eq 23, 3) := by decide +kernel
theorem dX5_addRow_31 : decode cX5_addRow 31 = .ok (.aload_n 0, 1) := by decide +kernel
theorem dX5_addRow_32 : decode cX5_addRow 32 = .ok (.getfield 7, 3) := by decide +kernel
theorem dX5_addRow_35 : decode cX5_addRow 35 = .ok (.aload_n 0, 1) := by decide +kernel
theorem dX5_addRow_36 : decode cX5_addRow 36 = .ok (.getfield 71, 3) := by decide +kernel
theorem dX5_addRow_39 : decode cX5_addRow 39 = .ok (.iload_n 1, 1) := by decide +kernel
theorem dX5_addRow_40 : decode cX5_addRow 40 = .ok (.iastore, 1) := by decide +kernel
theorem dX5_addRow_41 : decode cX5_addRow 41 = .ok (.aload_n 0, 1) := by decide +kernel
theorem dX5_addRow_42 : decode cX5_addRow 42 = .ok (.dup, 1) := by decide +kernel
theorem dX5_addRow_43 : decode cX5_addRow 43 = .ok (.getfield 71, 3) := by decide +kernel
theorem dX5_addRow_46 : decode cX5_addRow 46 = .ok (.iconst 1, 1) := by decide +kernel
theorem dX5_addRow_47 : decode cX5_addRow 47 = .ok (.iadd, 1) := by decide +kernel
theorem dX5_addRow_48 : decode cX5_addRow 48 = .ok (.putfield 71, 3) := by decide +kernel
theorem dX5_addRow_51 : decode cX5_addRow 51 = .ok (.return_, 1) := by decide +kernel
theorem dX5_findRows_0 : decode cX5_findRows 0 = .ok (.aload_n 0, 1) := by decide +kernel
theorem dX5_findRows_1 : decode cX5_findRows 1 = .ok (.iconst 0, 1) := by decide +kernel
theorem dX5_findRows_2 : decode cX5_findRows 2 = .ok (.putfield 71, 3) := by decide +kernel
theorem dX5_findRows_5 : decode cX5_findRows 5 = .ok (.iconst 0, 1) := by decide +kernel
theorem dX5_findRows_6 : decode cX5_findRows 6 = .ok (.istore_n 1, 1) := by decide +kernel
theorem dX5_findRows_7 : decode cX5_findRows 7 = .ok (.iload_n 1, 1) := by decide +kernel
theorem dX5_findRows_8 : decode cX5_findRows 8 = .ok (.aload_n 0, 1) := by decide +kernel
theorem dX5_findRows_9 : decode cX5_findRows 9 = .ok (.getfield 77, 3) := by decide +kernel
theorem dX5_findRows_12 : decode cX5_findRows 12 = .ok (.if_icmp .ge 73, 3) := by decide +kernel
theorem dX5_findRows_15 : decode cX5_findRows 15 = .ok (.iconst 0, 1) := by decide +kernel
theorem dX5_findRows_16 : decode cX5_findRows 16 = .ok (.istore_n 2, 1) := by decide +kernel
theorem dX5_findRows_17 : decode cX5_findRows 17 = .ok (.iload_n 2, 1) := by decide +kernel
theorem dX5_findRows_18 : decode cX5_findRows 18 = .ok (.aload_n 0, 1) := by decide +kernel
theorem dX5_findRows_19 : decode cX5_findRows 19 = .ok (.getfield 74, 3) := by decide +kernel
theorem dX5_findRows_22 : decode cX5_findRows 22 = .ok (.if_icmp .ge 57, 3) := by decide +kernel
theorem dX5_findRows_25 : decode cX5_findRows 25 = .ok (.aload_n 0, 1) := by decide +kernel
theorem dX5_findRows_26 : decode cX5_findRows 26 = .ok (.aload_n 0, 1) := by decide +kernel
theorem dX5_findRows_27 : decode cX5_findRows 27 = .ok (.iload_n 2, 1) := by decide +kernel
theorem dX5_findRows_28 : decode cX5_findRows 28 = .ok (.iload_n 1, 1) := by decide +kernel
theorem dX5_findRows_29 : decode cX5_findRows 29 = .ok (.iconst 1, 1) := by decide +kernel
theorem dX5_findRows_30 : decode cX5_findRows 30 = .ok (.iconst 0, 1) := by decide +kernel
theorem dX5_findRows_31 : decode cX5_findRows 31 = .ok (.invokevirtual 102, 3) := by decide +kernel
theorem dX5_findRows_34 : decode cX5_findRows 34 = .ok (.invokevirtual 106, 3) := by decide +kernel
theorem dX5_findRows_37 : decode cX5_findRows 37 = .ok (.aload_n 0, 1) := by decide +kernel
theorem dX5_findRows_38 : decode cX5_findRows 38 = .ok (.aload_n 0, 1) := by decide +kernel
theorem dX5_findRows_39 : decode cX5_findRows 39 = .ok (.iload_n 2, 1) := by decide +kernel
theorem dX5_findRows_40 : decode cX5_findRows 40 = .ok (.iload_n 1, 1) := by decide +kernel
theorem dX5_findRows_41 : decode cX5_findRows 41 = .ok (.iconst 0, 1) := by decide +kernel
theorem dX5_findRows_42 : decode cX5_findRows 42 = .ok (.iconst 1, 1) := by decide +kernel
theorem dX5_findRows_43 : decode cX5_findRows 43 = .ok (.invokevirtual 102, 3) := by decide +kernel
theorem dX5_findRows_46 : decode cX5_findRows 46 = .ok (.invokevirtual 106, 3) := by decide +kernel
theorem dX5_findRows_49 : decode cX5_findRows 49 = .ok (.aload_n 0, 1) := by decide +kernel
theorem dX5_findRows_50 : decode cX5_findRows 50 = .ok (.aload_n 0, 1) := by decide +kernel
theorem dX5_findRows_51 : decode cX5_findRows 51 = .ok (.iload_n 2, 1) := by decide +kernel
theorem dX5_findRows_52 : decode cX5_findRows 52 = .ok (.iload_n 1, 1) := by decide +kernel
theorem dX5_findRows_53 : decode cX5_findRows 53 = .ok (.iconst 1, 1) := by decide +kernel
theorem dX5_findRows_54 : decode cX5_findRows 54 = .ok (.iconst 1, 1) := by decide +kernel
theorem dX5_findRows_55 : decode cX5_findRows 55 = .ok (.invokevirtual 102, 3) := by decide +kernel
theorem dX5_findRows_58 : decode cX5_findRows 58 = .ok (.invokevirtual 106, 3) := by decide +kernel
theorem dX5_findRows_61 : decode cX5_findRows 61 = .ok (.aload_n 0, 1) := by decide +kernel
theorem dX5_findRows_62 : decode cX5_findRows 62 = .ok (.aload_n 0, 1) := by decide +kernel
theorem dX5_findRows_63 : decode cX5_findRows 63 = .ok (.iload_n 2, 1) := by decide +kernel
theorem dX5_findRows_64 : decode cX5_findRows 64 = .ok (.iload_n 1, 1) := by decide +kernel
theorem dX5_findRows_65 : decode cX5_findRows 65 = .ok (.iconst (-1), 1) := by decide +kernel
theorem dX5_findRows_66 : decode cX5_findRows 66 = .ok (.iconst 1, 1) := by decide +kernel
theorem dX5_findRows_67 : decode cX5_findRows 67 = .ok (.invokevirtual 102, 3) := by decide +kernel
theorem dX5_findRows_70 : decode cX5_findRows 70 = .ok (.invokevirtual 106, 3) := by decide +kernel
theorem dX5_findRows_73 : decode cX5_findRows 73 = .ok (.iinc 2 1, 3) := by decide +kernel
theorem dX5_findRows_76 : decode cX5_findRows 76 = .ok (.goto (-59), 3) := by decide +kernel
theorem dX5_findRows_79 : decode cX5_findRows 79 = .ok (.iinc 1 1, 3) := by decide +kernel
theorem dX5_findRows_82 : decode cX5_findRows 82 = .ok (.goto (-75), 3) := by decide +kernel
theorem dX5_findRows_85 : decode cX5_findRows 85 = .ok (.return_, 1) := by decide +kernel
theorem dX5_keyOfNone_0 : decode cX5_keyOfNone 0 = .ok (.iconst 0, 1) := by decide +kernel
theorem dX5_keyOfNone_1 : decode cX5_keyOfNone 1 = .ok (.istore_n 1, 1) := by decide +kernel
theorem dX5_keyOfNone_2 : decode cX5_keyOfNone 2 = .ok (.iconst 0, 1) := by decide +kernel
theorem dX5_keyOfNone_3 : decode cX5_keyOfNone 3 = .ok (.istore_n 2, 1) := by decide +kernel
theorem dX5_keyOfNone_4 : decode cX5_keyOfNone 4 = .ok (.iload_n 2, 1) := by decide +kernel
theorem dX5_keyOfNone_5 : decode cX5_keyOfNone 5 = .ok (.aload_n 0, 1) := by decide +kernel
theorem dX5_keyOfNone_6 : decode cX5_keyOfNone 6 = .ok (.getfield 74, 3) := by decide +kernel
theorem dX5_keyOfNone_9 : decode cX5_keyOfNone 9 = .ok (.if_icmp .ge 22, 3) := by decide +kernel
theorem dX5_keyOfNone_12 : decode cX5_keyOfNone 12 = .ok (.iload_n 1, 1) := by decide +kernel
theorem dX5_keyOfNone_13 : decode cX5_keyOfNone 13 = .ok (.iconst 1, 1) := by decide +kernel
theorem dX5_keyOfNone_14 : decode cX5_keyOfNone 14 = .ok (.iload_n 2, 1) := by decide +kernel
theorem dX5_keyOfNone_15 : decode cX5_keyOfNone 15 = .ok (.aload_n 0, 1) := by decide +kernel
theorem dX5_keyOfNone_16 : decode cX5_keyOfNone 16 = .ok (.getfield 77, 3) := by decide +kernel
theorem dX5_keyOfNone_19 : decode cX5_keyOfNone 19 = .ok (.iconst 1, 1) := by decide +kernel
theorem dX5_keyOfNone_20 : decode cX5_keyOfNone 20 = .ok (.iadd, 1) := by decide +kernel
theorem dX5_keyOfNone_21 : decode cX5_keyOfNone 21 = .ok (.imul, 1) := by decide +kernel
theorem dX5_keyOfNone_22 : decode cX5_keyOfNone 22 = .ok (.ishl, 1) := by decide +kernel
theorem dX5_keyOfNone_23 : decode cX5_keyOfNone 23 = .ok (.ior, 1) := by decide +kernel
theorem dX5_keyOfNone_24 : decode cX5_keyOfNone 24 = .ok (.istore_n 1, 1) := by decide +kernel
theorem dX5_keyOfNone_25 : decode cX5_keyOfNone 25 = .ok (.iinc 2 1, 3) := by decide +kernel
theorem dX5_keyOfNone_28 : decode cX5_keyOfNone 28 = .ok (.goto (-24), 3) := by decide +kernel
theorem dX5_keyOfNone_31 : decode cX5_keyOfNone 31 = .ok (.iload_n 1, 1) := by decide +kernel
theorem dX5_keyOfNone_32 : decode cX5_keyOfNone 32 = .ok (.ireturn, 1) := by decide +kernel
theorem dX5_columnOf_0 : decode cX5_columnOf 0 = .ok (.iload_n 1, 1) := by decide +kernel
theorem dX5_columnOf_1 : decode cX5_columnOf 1 = .ok (.iload_n 2, 1) := by decide +kernel
theorem dX5_columnOf_2 : decode cX5_columnOf 2 = .ok (.aload_n 0, 1) := by decide +kernel
theorem dX5_columnOf_3 : decode cX5_columnOf 3 = .ok (.getfield 77, 3) := by decide +kernel
theorem dX5_columnOf_6 : decode cX5_columnOf 6 = .ok (.iconst 1, 1) := by decide +kernel
theorem dX5_columnOf_7 : decode cX5_columnOf 7 = .ok (.iadd, 1) := by decide +kernel
theorem dX5_columnOf_8 : decode cX5_columnOf 8 = .ok (.imul, 1) := by decide +kernel
theorem dX5_columnOf_9 : decode cX5_columnOf 9 = .ok (.ishr, 1) := by decide +kernel
theorem dX5_columnOf_10 : decode cX5_columnOf 10 = .ok (.iconst 1, 1) := by decide +kernel
theorem dX5_columnOf_11 : decode cX5_columnOf 11 = .ok (.aload_n 0, 1) := by decide +kernel
theorem dX5_columnOf_12 : decode cX5_columnOf 12 = .ok (.getfield 77, 3) := by decide +kernel
theorem dX5_columnOf_15 : decode cX5_columnOf 15 = .ok (.iconst 1, 1) := by decide +kernel
theorem dX5_columnOf_16 : decode cX5_columnOf 16 = .ok (.iadd, 1) := by decide +kernel
theorem dX5_columnOf_17 : decode cX5_columnOf 17 = .ok (.ishl, 1) := by decide +kernel
theorem dX5_columnOf_18 : decode cX5_columnOf 18 = .ok (.iconst 1, 1) := by decide +kernel
theorem dX5_columnOf_19 : decode cX5_columnOf 19 = .ok (.isub, 1) := by decide +kernel
theorem dX5_columnOf_20 : decode cX5_columnOf 20 = .ok (.iand, 1) := by decide +kernel
theorem dX5_columnOf_21 : decode cX5_columnOf 21 = .ok (.ireturn, 1) := by decide +kernel
theorem dX5_heightOf_0 : decode cX5_heightOf 0 = .ok (.aload_n 0, 1) := by decide +kernel
theorem dX5_heightOf_1 : decode cX5_heightOf 1 = .ok (.iload_n 1, 1) := by decide +kernel
theorem dX5_heightOf_2 : decode cX5_heightOf 2 = .ok (.iload_n 2, 1) := by decide +kernel
theorem dX5_heightOf_3 : decode cX5_heightOf 3 = .ok (.invokevirtual 110, 3) := by decide +kernel
theorem dX5_heightOf_6 : decode cX5_heightOf 6 = .ok (.istore_n 3, 1) := by decide +kernel
theorem dX5_heightOf_7 : decode cX5_heightOf 7 = .ok (.iconst 0, 1) := by decide +kernel
theorem dX5_heightOf_8 : decode cX5_heightOf 8 = .ok (.istore 4, 2) := by decide +kernel
theorem dX5_heightOf_10 : decode cX5_heightOf 10 = .ok (.iload_n 3, 1) := by decide +kernel
theorem dX5_heightOf_11 : decode cX5_heightOf 11 = .ok (.iconst 1, 1) := by decide +kernel
theorem dX5_heightOf_12 : decode cX5_heightOf 12 = .ok (.if_icmp .le 13, 3) := by decide +kernel
theorem dX5_heightOf_15 : decode cX5_heightOf 15 = .ok (.iload_n 3, 1) := by decide +kernel
theorem dX5_heightOf_16 : decode cX5_heightOf 16 = .ok (.iconst 1, 1) := by decide +kernel
theorem dX5_heightOf_17 : decode cX5_heightOf 17 = .ok (.ishr, 1) := by decide +kernel
theorem dX5_heightOf_18 : decode cX5_heightOf 18 = .ok (.istore_n 3, 1) := by decide +kernel
theorem dX5_heightOf_19 : decode cX5_heightOf 19 = .ok (.iinc 4 1, 3) := by decide +kernel
theorem dX5_heightOf_22 : decode cX5_heightOf 22 = .ok (.goto (-12), 3) := by decide +kernel
theorem dX5_heightOf_25 : decode cX5_heightOf 25 = .ok (.iload 4, 2) := by decide +kernel
theorem dX5_heightOf_27 : decode cX5_heightOf 27 = .ok (.ireturn, 1) := by decide +kernel
theorem dX5_dropped_0 : decode cX5_dropped 0 = .ok (.iload_n 1, 1) := by decide +kernel
theorem dX5_dropped_1 : decode cX5_dropped 1 = .ok (.iconst 1, 1) := by decide +kernel
theorem dX5_dropped_2 : decode cX5_dropped 2 = .ok (.iload_n 3, 1) := by decide +kernel
theorem dX5_dropped_3 : decode cX5_dropped 3 = .ok (.iadd, 1) := by decide +kernel
theorem dX5_dropped_4 : decode cX5_dropped 4 = .ok (.iload_n 2, 1) := by decide +kernel
theorem dX5_dropped_5 : decode cX5_dropped 5 = .ok (.aload_n 0, 1) := by decide +kernel
theorem dX5_dropped_6 : decode cX5_dropped 6 = .ok (.getfield 77, 3) := by decide +kernel
theorem dX5_dropped_9 : decode cX5_dropped 9 = .ok (.iconst 1, 1) := by decide +kernel
theorem dX5_dropped_10 : decode cX5_dropped 10 = .ok (.iadd, 1) := by decide +kernel
theorem dX5_dropped_11 : decode cX5_dropped 11 = .ok (.imul, 1) := by decide +kernel
theorem dX5_dropped_12 : decode cX5_dropped 12 = .ok (.aload_n 0, 1) := by decide +kernel
theorem dX5_dropped_13 : decode cX5_dropped 13 = .ok (.iload_n 1, 1) := by decide +kernel
theorem dX5_dropped_14 : decode cX5_dropped 14 = .ok (.iload_n 2, 1) := by decide +kernel
theorem dX5_dropped_15 : decode cX5_dropped 15 = .ok (.invokevirtual 114, 3) := by decide +kernel
theorem dX5_dropped_18 : decode cX5_dropped 18 = .ok (.iadd, 1) := by decide +kernel
theorem dX5_dropped_19 : decode cX5_dropped 19 = .ok (.ishl, 1) := by decide +kernel
theorem dX5_dropped_20 : decode cX5_dropped 20 = .ok (.iadd, 1) := by decide +kernel
theorem dX5_dropped_21 : decode cX5_dropped 21 = .ok (.ireturn, 1) := by decide +kernel
theorem dX5_decode_0 : decode cX5_decode 0 = .ok (.aload_n 0, 1) := by decide +kernel
theorem dX5_decode_1 : decode cX5_decode 1 = .ok (.getfield 33, 3) := by decide +kernel
theorem dX5_decode_4 : decode cX5_decode 4 = .ok (.iconst 0, 1) := by decide +kernel
theorem dX5_decode_5 : decode cX5_decode 5 = .ok (.iconst 0, 1) := by decide +kernel
theorem dX5_decode_6 : decode cX5_decode 6 = .ok (.iastore, 1) := by decide +kernel
theorem dX5_decode_7 : decode cX5_decode 7 = .ok (.aload_n 0, 1) := by decide +kernel
theorem dX5_decode_8 : decode cX5_decode 8 = .ok (.getfield 33, 3) := by decide +kernel
theorem dX5_decode_11 : decode cX5_decode 11 = .ok (.iconst 1, 1) := by decide +kernel
theorem dX5_decode_12 : decode cX5_decode 12 = .ok (.iconst 0, 1) := by decide +kernel
theorem dX5_decode_13 : decode cX5_decode 13 = .ok (.iastore, 1) := by decide +kernel
theorem dX5_decode_14 : decode cX5_decode 14 = .ok (.aload_n 0, 1) := by decide +kernel
theorem dX5_decode_15 : decode cX5_decode 15 = .ok (.iconst 0, 1) := by decide +kernel
theorem dX5_decode_16 : decode cX5_decode 16 = .ok (.putfield 117, 3) := by decide +kernel
theorem dX5_decode_19 : decode cX5_decode 19 = .ok (.iconst 0, 1) := by decide +kernel
theorem dX5_decode_20 : decode cX5_decode 20 = .ok (.istore_n 2, 1) := by decide +kernel
theorem dX5_decode_21 : decode cX5_decode 21 = .ok (.iload_n 2, 1) := by decide +kernel
theorem dX5_decode_22 : decode cX5_decode 22 = .ok (.aload_n 0, 1) := by decide +kernel
theorem dX5_decode_23 : decode cX5_decode 23 = .ok (.getfield 74, 3) := by decide +kernel
theorem dX5_decode_26 : decode cX5_decode 26 = .ok (.if_icmp .ge 75, 3) := by decide +kernel
theorem dX5_decode_29 : decode cX5_decode 29 = .ok (.aload_n 0, 1) := by decide +kernel
theorem dX5_decode_30 : decode cX5_decode 30 = .ok (.iload_n 1, 1) := by decide +kernel
theorem dX5_decode_31 : decode cX5_decode 31 = .ok (.iload_n 2, 1) := by decide +kernel
theorem dX5_decode_32 : decode cX5_decode 32 = .ok (.invokevirtual 114, 3) := by decide +kernel
theorem dX5_decode_35 : decode cX5_decode 35 = .ok (.istore_n 3, 1) := by decide +kernel
theorem dX5_decode_36 : decode cX5_decode 36 = .ok (.aload_n 0, 1) := by decide +kernel
theorem dX5_decode_37 : decode cX5_decode 37 = .ok (.iload_n 1, 1) := by decide +kernel
theorem dX5_decode_38 : decode cX5_decode 38 = .ok (.iload_n 2, 1) := by decide +kernel
theorem dX5_decode_39 : decode cX5_decode 39 = .ok (.invokevirtual 110, 3) := by decide +kernel
theorem dX5_decode_42 : decode cX5_decode 42 = .ok (.istore 4, 2) := by decide +kernel
theorem dX5_decode_44 : decode cX5_decode 44 = .ok (.iconst 0, 1) := by decide +kernel
theorem dX5_decode_45 : decode cX5_decode 45 = .ok (.istore 5, 2) := by decide +kernel
theorem dX5_decode_47 : decode cX5_decode 47 = .ok (.iload 5, 2) := by decide +kernel
theorem dX5_decode_49 : decode cX5_decode 49 = .ok (.iload_n 3, 1) := by decide +kernel
theorem dX5_decode_50 : decode cX5_decode 50 = .ok (.if_icmp .ge 35, 3) := by decide +kernel
theorem dX5_decode_53 : decode cX5_decode 53 = .ok (.aload_n 0, 1) := by decide +kernel
theorem dX5_decode_54 : decode cX5_decode 54 = .ok (.getfield 33, 3) := by decide +kernel
theorem dX5_decode_57 : decode cX5_decode 57 = .ok (.iload 4, 2) := by decide +kernel
theorem dX5_decode_59 : decode cX5_decode 59 = .ok (.iload 5, 2) := by decide +kernel
theorem dX5_decode_61 : decode cX5_decode 61 = .ok (.ishr, 1) := by decide +kernel
theorem dX5_decode_62 : decode cX5_decode 62 = .ok (.iconst 1, 1) := by decide +kernel
theorem dX5_decode_63 : decode cX5_decode 63 = .ok (.iand, 1) := by decide +kernel
theorem dX5_decode_64 : decode cX5_decode 64 = .ok (.dup2, 1) := by decide +kernel
theorem dX5_decode_65 : decode cX5_decode 65 = .ok (.iaload, 1) := by decide +kernel
theorem dX5_decode_66 : decode cX5_decode 66 = .ok (.iconst 1, 1) := by decide +kernel
theorem dX5_decode_67 : decode cX5_decode 67 = .ok (.aload_n 0, 1) := by decide +kernel
theorem dX5_decode_68 : decode cX5_decode 68 = .ok (.getfield 74, 3) := by decide +kernel
theorem dX5_decode_71 : decode cX5_decode 71 = .ok (.iload 5, 2) := by decide +kernel
theorem dX5_decode_73 : decode cX5_decode 73 = .ok (.imul, 1) := by decide +kernel
theorem dX5_decode_74 : decode cX5_decode 74 = .ok (.iload_n 2, 1) := by decide +kernel
theorem dX5_decode_75 : decode cX5_decode 75 = .ok (.iadd, 1) := by decide +kernel
theorem dX5_decode_76 : decode cX5_decode 76 = .ok (.ishl, 1) := by decide +kernel
theorem dX5_decode_77 : decode cX5_decode 77 = .ok (.ior, 1) := by decide +kernel
theorem dX5_decode_78 : decode cX5_decode 78 = .ok (.iastore, 1) := by decide +kernel
theorem dX5_decode_79 : decode cX5_decode 79 = .ok (.iinc 5 1, 3) := by decide +kernel
theorem dX5_decode_82 : decode cX5_decode 82 = .ok (.goto (-35), 3) := by decide +kernel
theorem dX5_decode_85 : decode cX5_decode 85 = .ok (.aload_n 0, 1) := by decide +kernel
theorem dX5_decode_86 : decode cX5_decode 86 = .ok (.dup, 1) := by decide +kernel
theorem dX5_decode_87 : decode cX5_decode 87 = .ok (.getfield 117, 3) := by decide +kernel
theorem dX5_decode_90 : decode cX5_decode 90 = .ok (.iload_n 3, 1) := by decide +kernel
theorem dX5_decode_91 : decode cX5_decode 91 = .ok (.iadd, 1) := by decide +kernel
theorem dX5_decode_92 : decode cX5_decode 92 = .ok (.putfield 117, 3) := by decide +kernel
theorem dX5_decode_95 : decode cX5_decode 95 = .ok (.iinc 2 1, 3) := by decide +kernel
theorem dX5_decode_98 : decode cX5_decode 98 = .ok (.goto (-77), 3) := by decide +kernel
theorem dX5_decode_101 : decode cX5_decode 101 = .ok (.return_, 1) := by decide +kernel
theorem dX5_has_0 : decode cX5_has 0 = .ok (.iconst 0, 1) := by decide +kernel
theorem dX5_has_1 : decode cX5_has 1 = .ok (.istore_n 2, 1) := by decide +kernel
theorem dX5_has_2 : decode cX5_has 2 = .ok (.iload_n 2, 1) := by decide +kernel
theorem dX5_has_3 : decode cX5_has 3 = .ok (.aload_n 0, 1) := by decide +kernel
theorem dX5_has_4 : decode cX5_has 4 = .ok (.getfield 71, 3) := by decide +kernel
theorem dX5_has_7 : decode cX5_has 7 = .ok (.if_icmp .ge 28, 3) := by decide +kernel
theorem dX5_has_10 : decode cX5_has 10 = .ok (.iload_n 1, 1) := by decide +kernel
theorem dX5_has_11 : decode cX5_has 11 = .ok (.aload_n 0, 1) := by decide +kernel
theorem dX5_has_12 : decode cX5_has 12 = .ok (.getfield 7, 3) := by decide +kernel
theorem dX5_has_15 : decode cX5_has 15 = .ok (.iload_n 2, 1) := by decide +kernel
theorem dX5_has_16 : decode cX5_has 16 = .ok (.iaload, 1) := by decide +kernel
theorem dX5_has_17 : decode cX5_has 17 = .ok (.iand, 1) := by decide +kernel
theorem dX5_has_18 : decode cX5_has 18 = .ok (.aload_n 0, 1) := by decide +kernel
theorem dX5_has_19 : decode cX5_has 19 = .ok (.getfield 7, 3) := by decide +kernel
theorem dX5_has_22 : decode cX5_has 22 = .ok (.iload_n 2, 1) := by decide +kernel
theorem dX5_has_23 : decode cX5_has 23 = .ok (.iaload, 1) := by decide +kernel
theorem dX5_has_24 : decode cX5_has 24 = .ok (.if_icmp .ne 5, 3) := by decide +kernel
theorem dX5_has_27 : decode cX5_has 27 = .ok (.iconst 1, 1) := by decide +kernel
theorem dX5_has_28 : decode cX5_has 28 = .ok (.ireturn, 1) := by decide +kernel
theorem dX5_has_29 : decode cX5_has 29 = .ok (.iinc 2 1, 3) := by decide +kernel
theorem dX5_has_32 : decode cX5_has 32 = .ok (.goto (-30), 3) := by decide +kernel
theorem dX5_has_35 : decode cX5_has 35 = .ok (.iconst 0, 1) := by decide +kernel
theorem dX5_has_36 : decode cX5_has 36 = .ok (.ireturn, 1) := by decide +kernel
theorem dX5_keys_0 : decode cX5_keys 0 = .ok (.iconst 1, 1) := by decide +kernel
theorem dX5_keys_1 : decode cX5_keys 1 = .ok (.aload_n 0, 1) := by decide +kernel
theorem dX5_keys_2 : decode cX5_keys 2 = .ok (.getfield 74, 3) := by decide +kernel
theorem dX5_keys_5 : decode cX5_keys 5 = .ok (.aload_n 0, 1) := by decide +kernel
theorem dX5_keys_6 : decode cX5_keys 6 = .ok (.getfield 77, 3) := by decide +kernel
theorem dX5_keys_9 : decode cX5_keys 9 = .ok (.iconst 1, 1) := by decide +kernel
theorem dX5_keys_10 : decode cX5_keys 10 = .ok (.iadd, 1) := by decide +kernel
theorem dX5_keys_11 : decode cX5_keys 11 = .ok (.imul, 1) := by decide +kernel
theorem dX5_keys_12 : decode cX5_keys 12 = .ok (.ishl, 1) := by decide +kernel
theorem dX5_keys_13 : decode cX5_keys 13 = .ok (.ireturn, 1) := by decide +kernel
theorem dX5_goUp_0 : decode cX5_goUp 0 = .ok (.aload_n 0, 1) := by decide +kernel
theorem dX5_goUp_1 : decode cX5_goUp 1 = .ok (.invokevirtual 120, 3) := by decide +kernel
theorem dX5_goUp_4 : decode cX5_goUp 4 = .ok (.istore_n 1, 1) := by decide +kernel
theorem dX5_goUp_5 : decode cX5_goUp 5 = .ok (.iconst 0, 1) := by decide +kernel
theorem dX5_goUp_6 : decode cX5_goUp 6 = .ok (.istore_n 2, 1) := by decide +kernel
theorem dX5_goUp_7 : decode cX5_goUp 7 = .ok (.iload_n 2, 1) := by decide +kernel
theorem dX5_goUp_8 : decode cX5_goUp 8 = .ok (.iload_n 1, 1) := by decide +kernel
theorem dX5_goUp_9 : decode cX5_goUp 9 = .ok (.if_icmp .ge 17, 3) := by decide +kernel
theorem dX5_goUp_12 : decode cX5_goUp 12 = .ok (.aload_n 0, 1) := by decide +kernel
theorem dX5_goUp_13 : decode cX5_goUp 13 = .ok (.getfield 14, 3) := by decide +kernel
theorem dX5_goUp_16 : decode cX5_goUp 16 = .ok (.iload_n 2, 1) := by decide +kernel
theorem dX5_goUp_17 : decode cX5_goUp 17 = .ok (.bipush (-128), 2) := by decide +kernel
theorem dX5_goUp_19 : decode cX5_goUp 19 = .ok (.bastore, 1) := by decide +kernel
theorem dX5_goUp_20 : decode cX5_goUp 20 = .ok (.iinc 2 1, 3) := by decide +kernel
theorem dX5_goUp_23 : decode cX5_goUp 23 = .ok (.goto (-16), 3) := by decide +kernel
theorem dX5_goUp_26 : decode cX5_goUp 26 = .ok (.aload_n 0, 1) := by decide +kernel
theorem dX5_goUp_27 : decode cX5_goUp 27 = .ok (.getfield 14, 3) := by decide +kernel
theorem dX5_goUp_30 : decode cX5_goUp 30 = .ok (.aload_n 0, 1) := by decide +kernel
theorem dX5_goUp_31 : decode cX5_goUp 31 = .ok (.invokevirtual 124, 3) := by decide +kernel
theorem dX5_goUp_34 : decode cX5_goUp 34 = .ok (.iconst 0, 1) := by decide +kernel
theorem dX5_goUp_35 : decode cX5_goUp 35 = .ok (.bastore, 1) := by decide +kernel
theorem dX5_goUp_36 : decode cX5_goUp 36 = .ok (.iconst 0, 1) := by decide +kernel
theorem dX5_goUp_37 : decode cX5_goUp 37 = .ok (.istore_n 2, 1) := by decide +kernel
theorem dX5_goUp_38 : decode cX5_goUp 38 = .ok (.iload_n 2, 1) := by decide +kernel
theorem dX5_goUp_39 : decode cX5_goUp 39 = .ok (.bipush 17, 2) := by decide +kernel
theorem dX5_goUp_41 : decode cX5_goUp 41 = .ok (.if_icmp .ge 44, 3) := by decide +kernel
theorem dX5_goUp_44 : decode cX5_goUp 44 = .ok (.aload_n 0, 1) := by decide +kernel
theorem dX5_goUp_45 : decode cX5_goUp 45 = .ok (.getfield 18, 3) := by decide +kernel
theorem dX5_goUp_48 : decode cX5_goUp 48 = .ok (.iload_n 2, 1) := by decide +kernel
theorem dX5_goUp_49 : decode cX5_goUp 49 = .ok (.iconst 0, 1) := by decide +kernel
theorem dX5_goUp_50 : decode cX5_goUp 50 = .ok (.iastore, 1) := by decide +kernel
theorem dX5_goUp_51 : decode cX5_goUp 51 = .ok (.aload_n 0, 1) := by decide +kernel
theorem dX5_goUp_52 : decode cX5_goUp 52 = .ok (.getfield 21, 3) := by decide +kernel
theorem dX5_goUp_55 : decode cX5_goUp 55 = .ok (.iload_n 2, 1) := by decide +kernel
theorem dX5_goUp_56 : decode cX5_goUp 56 = .ok (.iconst 0, 1) := by decide +kernel
theorem dX5_goUp_57 : decode cX5_goUp 57 = .ok (.iastore, 1) := by decide +kernel
theorem dX5_goUp_58 : decode cX5_goUp 58 = .ok (.aload_n 0, 1) := by decide +kernel
theorem dX5_goUp_59 : decode cX5_goUp 59 = .ok (.getfield 24, 3) := by decide +kernel
theorem dX5_goUp_62 : decode cX5_goUp 62 = .ok (.iload_n 2, 1) := by decide +kernel
theorem dX5_goUp_63 : decode cX5_goUp 63 = .ok (.iconst 0, 1) := by decide +kernel
theorem dX5_goUp_64 : decode cX5_goUp 64 = .ok (.iastore, 1) := by decide +kernel
theorem dX5_goUp_65 : decode cX5_goUp 65 = .ok (.aload_n 0, 1) := by decide +kernel
theorem dX5_goUp_66 : decode cX5_goUp 66 = .ok (.getfield 27, 3) := by decide +kernel
theorem dX5_goUp_69 : decode cX5_goUp 69 = .ok (.iload_n 2, 1) := by decide +kernel
theorem dX5_goUp_70 : decode cX5_goUp 70 = .ok (.iconst 0, 1) := by decide +kernel
theorem dX5_goUp_71 : decode cX5_goUp 71 = .ok (.iastore, 1) := by decide +kernel
theorem dX5_goUp_72 : decode cX5_goUp 72 = .ok (.aload_n 0, 1) := by decide +kernel
theorem dX5_goUp_73 : decode cX5_goUp 73 = .ok (.getfield 30, 3) := by decide +kernel
theorem dX5_goUp_76 : decode cX5_goUp 76 = .ok (.iload_n 2, 1) := by decide +kernel
theorem dX5_goUp_77 : decode cX5_goUp 77 = .ok (.iconst 0, 1) := by decide +kernel
theorem dX5_goUp_78 : decode cX5_goUp 78 = .ok (.iastore, 1) := by decide +kernel
theorem dX5_goUp_79 : decode cX5_goUp 79 = .ok (.iinc 2 1, 3) := by decide +kernel
theorem dX5_goUp_82 : decode cX5_goUp 82 = .ok (.goto (-44), 3) := by decide +kernel
theorem dX5_goUp_85 : decode cX5_goUp 85 = .ok (.iconst 0, 1) := by decide +kernel
theorem dX5_goUp_86 : decode cX5_goUp 86 = .ok (.istore_n 2, 1) := by decide +kernel
theorem dX5_goUp_87 : decode cX5_goUp 87 = .ok (.iload_n 2, 1) := by decide +kernel
theorem dX5_goUp_88 : decode cX5_goUp 88 = .ok (.iload_n 1, 1) := by decide +kernel
theorem dX5_goUp_89 : decode cX5_goUp 89 = .ok (.if_icmp .ge 164, 3) := by decide +kernel
theorem dX5_goUp_92 : decode cX5_goUp 92 = .ok (.aload_n 0, 1) := by decide +kernel
theorem dX5_goUp_93 : decode cX5_goUp 93 = .ok (.getfield 14, 3) := by decide +kernel
theorem dX5_goUp_96 : decode cX5_goUp 96 = .ok (.iload_n 2, 1) := by decide +kernel
theorem dX5_goUp_97 : decode cX5_goUp 97 = .ok (.baload, 1) := by decide +kernel
theorem dX5_goUp_98 : decode cX5_goUp 98 = .ok (.bipush (-128), 2) := by decide +kernel
theorem dX5_goUp_100 : decode cX5_goUp 100 = .ok (.if_icmp .eq 147, 3) := by decide +kernel
theorem dX5_goUp_103 : decode cX5_goUp 103 = .ok (.aload_n 0, 1) := by decide +kernel
theorem dX5_goUp_104 : decode cX5_goUp 104 = .ok (.iload_n 2, 1) := by decide +kernel
theorem dX5_goUp_105 : decode cX5_goUp 105 = .ok (.invokevirtual 127, 3) := by decide +kernel
theorem dX5_goUp_108 : decode cX5_goUp 108 = .ok (.aload_n 0, 1) := by decide +kernel
theorem dX5_goUp_109 : decode cX5_goUp 109 = .ok (.getfield 117, 3) := by decide +kernel
theorem dX5_goUp_112 : decode cX5_goUp 112 = .ok (.iconst 2, 1) := by decide +kernel
theorem dX5_goUp_113 : decode cX5_goUp 113 = .ok (.irem, 1) := by decide +kernel
theorem dX5_goUp_114 : decode cX5_goUp 114 = .ok (.istore_n 3, 1) := by decide +kernel
theorem dX5_goUp_115 : decode cX5_goUp 115 = .ok (.aload_n 0, 1) := by decide +kernel
theorem dX5_goUp_116 : decode cX5_goUp 116 = .ok (.getfield 18, 3) := by decide +kernel
theorem dX5_goUp_119 : decode cX5_goUp 119 = .ok (.aload_n 0, 1) := by decide +kernel
theorem dX5_goUp_120 : decode cX5_goUp 120 = .ok (.getfield 117, 3) := by decide +kernel
theorem dX5_goUp_123 : decode cX5_goUp 123 = .ok (.dup2, 1) := by decide +kernel
theorem dX5_goUp_124 : decode cX5_goUp 124 = .ok (.iaload, 1) := by decide +kernel
theorem dX5_goUp_125 : decode cX5_goUp 125 = .ok (.iconst 1, 1) := by decide +kernel
theorem dX5_goUp_126 : decode cX5_goUp 126 = .ok (.iadd, 1) := by decide +kernel
theorem dX5_goUp_127 : decode cX5_goUp 127 = .ok (.iastore, 1) := by decide +kernel
theorem dX5_goUp_128 : decode cX5_goUp 128 = .ok (.aload_n 0, 1) := by decide +kernel
theorem dX5_goUp_129 : decode cX5_goUp 129 = .ok (.getfield 117, 3) := by decide +kernel
theorem dX5_goUp_132 : decode cX5_goUp 132 = .ok (.ifCond .le 42, 3) := by decide +kernel
theorem dX5_goUp_135 : decode cX5_goUp 135 = .ok (.aload_n 0, 1) := by decide +kernel
theorem dX5_goUp_136 : decode cX5_goUp 136 = .ok (.aload_n 0, 1) := by decide +kernel
theorem dX5_goUp_137 : decode cX5_goUp 137 = .ok (.getfield 33, 3) := by decide +kernel
theorem dX5_goUp_140 : decode cX5_goUp 140 = .ok (.iconst 1, 1) := by decide +kernel
theorem dX5_goUp_141 : decode cX5_goUp 141 = .ok (.iload_n 3, 1) := by decide +kernel
theorem dX5_goUp_142 : decode cX5_goUp 142 = .ok (.isub, 1) := by decide +kernel
theorem dX5_goUp_143 : decode cX5_goUp 143 = .ok (.iaload, 1) := by decide +kernel
theorem dX5_goUp_144 : decode cX5_goUp 144 = .ok (.invokevirtual 130, 3) := by decide +kernel
theorem dX5_goUp_147 : decode cX5_goUp 147 = .ok (.ifCond .eq 27, 3) := by decide +kernel
theorem dX5_goUp_150 : decode cX5_goUp 150 = .ok (.aload_n 0, 1) := by decide +kernel
theorem dX5_goUp_151 : decode cX5_goUp 151 = .ok (.getfield 21, 3) := by decide +kernel
theorem dX5_goUp_154 : decode cX5_goUp 154 = .ok (.aload_n 0, 1) := by decide +kernel
theorem dX5_goUp_155 : decode cX5_goUp 155 = .ok (.getfield 117, 3) := by decide +kernel
theorem dX5_goUp_158 : decode cX5_goUp 158 = .ok (.dup2, 1) := by decide +kernel
theorem dX5_goUp_159 : decode cX5_goUp 159 = .ok (.iaload, 1) := by decide +kernel
theorem dX5_goUp_160 : decode cX5_goUp 160 = .ok (.iconst 1, 1) := by decide +kernel
theorem dX5_goUp_161 : decode cX5_goUp 161 = .ok (.iadd, 1) := by decide +kernel
theorem dX5_goUp_162 : decode cX5_goUp 162 = .ok (.iastore, 1) := by decide +kernel
theorem dX5_goUp_163 : decode cX5_goUp 163 = .ok (.aload_n 0, 1) := by decide +kernel
theorem dX5_goUp_164 : decode cX5_goUp 164 = .ok (.getfield 14, 3) := by decide +kernel
theorem dX5_goUp_167 : decode cX5_goUp 167 = .ok (.iload_n 2, 1) := by decide +kernel
theorem dX5_goUp_168 : decode cX5_goUp 168 = .ok (.bipush 127, 2) := by decide +kernel
theorem dX5_goUp_170 : decode cX5_goUp 170 = .ok (.bastore, 1) := by decide +kernel
theorem dX5_goUp_171 : decode cX5_goUp 171 = .ok (.goto 76, 3) := by decide +kernel
theorem dX5_goUp_174 : decode cX5_goUp 174 = .ok (.aload_n 0, 1) := by decide +kernel
theorem dX5_goUp_175 : decode cX5_goUp 175 = .ok (.getfield 117, 3) := by decide +kernel
theorem dX5_goUp_178 : decode cX5_goUp 178 = .ok (.aload_n 0, 1) := by decide +kernel
theorem dX5_goUp_179 : decode cX5_goUp 179 = .ok (.getfield 74, 3) := by decide +kernel
theorem dX5_goUp_182 : decode cX5_goUp 182 = .ok (.aload_n 0, 1) := by decide +kernel
theorem dX5_goUp_183 : decode cX5_goUp 183 = .ok (.getfield 77, 3) := by decide +kernel
theorem dX5_goUp_186 : decode cX5_goUp 186 = .ok (.imul, 1) := by decide +kernel
theorem dX5_goUp_187 : decode cX5_goUp 187 = .ok (.if_icmp .ne 14, 3) := by decide +kernel
theorem dX5_goUp_190 : decode cX5_goUp 190 = .ok (.aload_n 0, 1) := by decide +kernel
theorem dX5_goUp_191 : decode cX5_goUp 191 = .ok (.getfield 14, 3) := by decide +kernel
theorem dX5_goUp_194 : decode cX5_goUp 194 = .ok (.iload_n 2, 1) := by decide +kernel
theorem dX5_goUp_195 : decode cX5_goUp 195 = .ok (.bipush 126, 2) := by decide +kernel
theorem dX5_goUp_197 : decode cX5_goUp 197 = .ok (.bastore, 1) := by decide +kernel
theorem dX5_goUp_198 : decode cX5_goUp 198 = .ok (.goto 49, 3) := by decide +kernel
theorem dX5_goUp_201 : decode cX5_goUp 201 = .ok (.iconst 0, 1) := by decide +kernel
theorem dX5_goUp_202 : decode cX5_goUp 202 = .ok (.istore 4, 2) := by decide +kernel
theorem dX5_goUp_204 : decode cX5_goUp 204 = .ok (.iload 4, 2) := by decide +kernel
theorem dX5_goUp_206 : decode cX5_goUp 206 = .ok (.aload_n 0, 1) := by decide +kernel
theorem dX5_goUp_207 : decode cX5_goUp 207 = .ok (.getfield 74, 3) := by decide +kernel
theorem dX5_goUp_210 : decode cX5_goUp 210 = .ok (.if_icmp .ge 37, 3) := by decide +kernel
theorem dX5_goUp_213 : decode cX5_goUp 213 = .ok (.aload_n 0, 1) := by decide +kernel
theorem dX5_goUp_214 : decode cX5_goUp 214 = .ok (.iload_n 2, 1) := by decide +kernel
theorem dX5_goUp_215 : decode cX5_goUp 215 = .ok (.iload 4, 2) := by decide +kernel
theorem dX5_goUp_217 : decode cX5_goUp 217 = .ok (.invokevirtual 114, 3) := by decide +kernel
theorem dX5_goUp_220 : decode cX5_goUp 220 = .ok (.aload_n 0, 1) := by decide +kernel
theorem dX5_goUp_221 : decode cX5_goUp 221 = .ok (.getfield 77, 3) := by decide +kernel
theorem dX5_goUp_224 : decode cX5_goUp 224 = .ok (.if_icmp .ge 17, 3) := by decide +kernel
theorem dX5_goUp_227 : decode cX5_goUp 227 = .ok (.aload_n 0, 1) := by decide +kernel
theorem dX5_goUp_228 : decode cX5_goUp 228 = .ok (.getfield 14, 3) := by decide +kernel
theorem dX5_goUp_231 : decode cX5_goUp 231 = .ok (.aload_n 0, 1) := by decide +kernel
theorem dX5_goUp_232 : decode cX5_goUp 232 = .ok (.iload_n 2, 1) := by decide +kernel
theorem dX5_goUp_233 : decode cX5_goUp 233 = .ok (.iload 4, 2) := by decide +kernel
theorem dX5_goUp_235 : decode cX5_goUp 235 = .ok (.iload_n 3, 1) := by decide +kernel
theorem dX5_goUp_236 : decode cX5_goUp 236 = .ok (.invokevirtual 134, 3) := by decide +kernel
theorem dX5_goUp_239 : decode cX5_goUp 239 = .ok (.iconst 0, 1) := by decide +kernel
theorem dX5_goUp_240 : decode cX5_goUp 240 = .ok (.bastore, 1) := by decide +kernel
theorem dX5_goUp_241 : decode cX5_goUp 241 = .ok (.iinc 4 1, 3) := by decide +kernel
theorem dX5_goUp_244 : decode cX5_goUp 244 = .ok (.goto (-40), 3) := by decide +kernel
theorem dX5_goUp_247 : decode cX5_goUp 247 = .ok (.iinc 2 1, 3) := by decide +kernel
theorem dX5_goUp_250 : decode cX5_goUp 250 = .ok (.goto (-163), 3) := by decide +kernel
theorem dX5_goUp_253 : decode cX5_goUp 253 = .ok (.return_, 1) := by decide +kernel
theorem dX5_worthBy_0 : decode cX5_worthBy 0 = .ok (.aload_n 0, 1) := by decide +kernel
theorem dX5_worthBy_1 : decode cX5_worthBy 1 = .ok (.getfield 14, 3) := by decide +kernel
theorem dX5_worthBy_4 : decode cX5_worthBy 4 = .ok (.aload_n 0, 1) := by decide +kernel
theorem dX5_worthBy_5 : decode cX5_worthBy 5 = .ok (.iload_n 1, 1) := by decide +kernel
theorem dX5_worthBy_6 : decode cX5_worthBy 6 = .ok (.iload_n 2, 1) := by decide +kernel
theorem dX5_worthBy_7 : decode cX5_worthBy 7 = .ok (.iload_n 3, 1) := by decide +kernel
theorem dX5_worthBy_8 : decode cX5_worthBy 8 = .ok (.invokevirtual 134, 3) := by decide +kernel
theorem dX5_worthBy_11 : decode cX5_worthBy 11 = .ok (.baload, 1) := by decide +kernel
theorem dX5_worthBy_12 : decode cX5_worthBy 12 = .ok (.istore 4, 2) := by decide +kernel
theorem dX5_worthBy_14 : decode cX5_worthBy 14 = .ok (.iload 4, 2) := by decide +kernel
theorem dX5_worthBy_16 : decode cX5_worthBy 16 = .ok (.bipush 127, 2) := by decide +kernel
theorem dX5_worthBy_18 : decode cX5_worthBy 18 = .ok (.if_icmp .ne 6, 3) := by decide +kernel
theorem dX5_worthBy_21 : decode cX5_worthBy 21 = .ok (.bipush 99, 2) := by decide +kernel
theorem dX5_worthBy_23 : decode cX5_worthBy 23 = .ok (.ireturn, 1) := by decide +kernel
theorem dX5_worthBy_24 : decode cX5_worthBy 24 = .ok (.iload 4, 2) := by decide +kernel
theorem dX5_worthBy_26 : decode cX5_worthBy 26 = .ok (.bipush 126, 2) := by decide +kernel
theorem dX5_worthBy_28 : decode cX5_worthBy 28 = .ok (.if_icmp .ne 5, 3) := by decide +kernel
theorem dX5_worthBy_31 : decode cX5_worthBy 31 = .ok (.iconst 0, 1) := by decide +kernel
theorem dX5_worthBy_32 : decode cX5_worthBy 32 = .ok (.ireturn, 1) := by decide +kernel
theorem dX5_worthBy_33 : decode cX5_worthBy 33 = .ok (.iload 4, 2) := by decide +kernel
theorem dX5_worthBy_35 : decode cX5_worthBy 35 = .ok (.ifCond .le 10, 3) := by decide +kernel
theorem dX5_worthBy_38 : decode cX5_worthBy 38 = .ok (.iconst 1, 1) := by decide +kernel
theorem dX5_worthBy_39 : decode cX5_worthBy 39 = .ok (.iload 4, 2) := by decide +kernel
theorem dX5_worthBy_41 : decode cX5_worthBy 41 = .ok (.isub, 1) := by decide +kernel
theorem dX5_worthBy_42 : decode cX5_worthBy 42 = .ok (.goto 16, 3) := by decide +kernel
theorem dX5_worthBy_45 : decode cX5_worthBy 45 = .ok (.iload 4, 2) := by decide +kernel
theorem dX5_worthBy_47 : decode cX5_worthBy 47 = .ok (.ifCond .ge 10, 3) := by decide +kernel
theorem dX5_worthBy_50 : decode cX5_worthBy 50 = .ok (.iconst (-1), 1) := by decide +kernel
theorem dX5_worthBy_51 : decode cX5_worthBy 51 = .ok (.iload 4, 2) := by decide +kernel
theorem dX5_worthBy_53 : decode cX5_worthBy 53 = .ok (.isub, 1) := by decide +kernel
theorem dX5_worthBy_54 : decode cX5_worthBy 54 = .ok (.goto 4, 3) := by decide +kernel
theorem dX5_worthBy_57 : decode cX5_worthBy 57 = .ok (.iconst 0, 1) := by decide +kernel
theorem dX5_worthBy_58 : decode cX5_worthBy 58 = .ok (.ireturn, 1) := by decide +kernel
theorem dX5_greatest_0 : decode cX5_greatest 0 = .ok (.sipush (-1000), 3) := by decide +kernel
theorem dX5_greatest_3 : decode cX5_greatest 3 = .ok (.istore_n 3, 1) := by decide +kernel
theorem dX5_greatest_4 : decode cX5_greatest 4 = .ok (.iconst 0, 1) := by decide +kernel
theorem dX5_greatest_5 : decode cX5_greatest 5 = .ok (.istore 4, 2) := by decide +kernel
theorem dX5_greatest_7 : decode cX5_greatest 7 = .ok (.iload 4, 2) := by decide +kernel
theorem dX5_greatest_9 : decode cX5_greatest 9 = .ok (.aload_n 0, 1) := by decide +kernel
theorem dX5_greatest_10 : decode cX5_greatest 10 = .ok (.getfield 74, 3) := by decide +kernel
theorem dX5_greatest_13 : decode cX5_greatest 13 = .ok (.if_icmp .ge 46, 3) := by decide +kernel
theorem dX5_greatest_16 : decode cX5_greatest 16 = .ok (.aload_n 0, 1) := by decide +kernel
theorem dX5_greatest_17 : decode cX5_greatest 17 = .ok (.iload_n 1, 1) := by decide +kernel
theorem dX5_greatest_18 : decode cX5_greatest 18 = .ok (.iload 4, 2) := by decide +kernel
theorem dX5_greatest_20 : decode cX5_greatest 20 = .ok (.invokevirtual 114, 3) := by decide +kernel
theorem dX5_greatest_23 : decode cX5_greatest 23 = .ok (.aload_n 0, 1) := by decide +kernel
theorem dX5_greatest_24 : decode cX5_greatest 24 = .ok (.getfield 77, 3) := by decide +kernel
theorem dX5_greatest_27 : decode cX5_greatest 27 = .ok (.if_icmp .ge 26, 3) := by decide +kernel
theorem dX5_greatest_30 : decode cX5_greatest 30 = .ok (.aload_n 0, 1) := by decide +kernel
theorem dX5_greatest_31 : decode cX5_greatest 31 = .ok (.iload_n 1, 1) := by decide +kernel
theorem dX5_greatest_32 : decode cX5_greatest 32 = .ok (.iload 4, 2) := by decide +kernel
theorem dX5_greatest_34 : decode cX5_greatest 34 = .ok (.iload_n 2, 1) := by decide +kernel
theorem dX5_greatest_35 : decode cX5_greatest 35 = .ok (.invokevirtual 138, 3) := by decide +kernel
theorem dX5_greatest_38 : decode cX5_greatest 38 = .ok (.istore 5, 2) := by decide +kernel
theorem dX5_greatest_40 : decode cX5_greatest 40 = .ok (.iload 5, 2) := by decide +kernel
theorem dX5_greatest_42 : decode cX5_greatest 42 = .ok (.iload_n 3, 1) := by decide +kernel
theorem dX5_greatest_43 : decode cX5_greatest 43 = .ok (.if_icmp .le 8, 3) := by decide +kernel
theorem dX5_greatest_46 : decode cX5_greatest 46 = .ok (.iload 5, 2) := by decide +kernel
theorem dX5_greatest_48 : decode cX5_greatest 48 = .ok (.goto 4, 3) := by decide +kernel
theorem dX5_greatest_51 : decode cX5_greatest 51 = .ok (.iload_n 3, 1) := by decide +kernel
theorem dX5_greatest_52 : decode cX5_greatest 52 = .ok (.istore_n 3, 1) := by decide +kernel
theorem dX5_greatest_53 : decode cX5_greatest 53 = .ok (.iinc 4 1, 3) := by decide +kernel
theorem dX5_greatest_56 : decode cX5_greatest 56 = .ok (.goto (-49), 3) := by decide +kernel
theorem dX5_greatest_59 : decode cX5_greatest 59 = .ok (.iload_n 3, 1) := by decide +kernel
theorem dX5_greatest_60 : decode cX5_greatest 60 = .ok (.ireturn, 1) := by decide +kernel
theorem dX5_goDown_0 : decode cX5_goDown 0 = .ok (.aload_n 0, 1) := by decide +kernel
theorem dX5_goDown_1 : decode cX5_goDown 1 = .ok (.invokevirtual 120, 3) := by decide +kernel
theorem dX5_goDown_4 : decode cX5_goDown 4 = .ok (.iconst 1, 1) := by decide +kernel
theorem dX5_goDown_5 : decode cX5_goDown 5 = .ok (.isub, 1) := by decide +kernel
theorem dX5_goDown_6 : decode cX5_goDown 6 = .ok (.istore_n 1, 1) := by decide +kernel
theorem dX5_goDown_7 : decode cX5_goDown 7 = .ok (.iload_n 1, 1) := by decide +kernel
theorem dX5_goDown_8 : decode cX5_goDown 8 = .ok (.ifCond .lt 130, 3) := by decide +kernel
theorem dX5_goDown_11 : decode cX5_goDown 11 = .ok (.aload_n 0, 1) := by decide +kernel
theorem dX5_goDown_12 : decode cX5_goDown 12 = .ok (.getfield 14, 3) := by decide +kernel
theorem dX5_goDown_15 : decode cX5_goDown 15 = .ok (.iload_n 1, 1) := by decide +kernel
theorem dX5_goDown_16 : decode cX5_goDown 16 = .ok (.baload, 1) := by decide +kernel
theorem dX5_goDown_17 : decode cX5_goDown 17 = .ok (.bipush (-128), 2) := by decide +kernel
theorem dX5_goDown_19 : decode cX5_goDown 19 = .ok (.if_icmp .eq 113, 3) := by decide +kernel
theorem dX5_goDown_22 : decode cX5_goDown 22 = .ok (.aload_n 0, 1) := by decide +kernel
theorem dX5_goDown_23 : decode cX5_goDown 23 = .ok (.getfield 14, 3) := by decide +kernel
theorem dX5_goDown_26 : decode cX5_goDown 26 = .ok (.iload_n 1, 1) := by decide +kernel
theorem dX5_goDown_27 : decode cX5_goDown 27 = .ok (.baload, 1) := by decide +kernel
theorem dX5_goDown_28 : decode cX5_goDown 28 = .ok (.bipush 127, 2) := by decide +kernel
theorem dX5_goDown_30 : decode cX5_goDown 30 = .ok (.if_icmp .eq 102, 3) := by decide +kernel
theorem dX5_goDown_33 : decode cX5_goDown 33 = .ok (.aload_n 0, 1) := by decide +kernel
theorem dX5_goDown_34 : decode cX5_goDown 34 = .ok (.getfield 14, 3) := by decide +kernel
theorem dX5_goDown_37 : decode cX5_goDown 37 = .ok (.iload_n 1, 1) := by decide +kernel
theorem dX5_goDown_38 : decode cX5_goDown 38 = .ok (.baload, 1) := by decide +kernel
theorem dX5_goDown_39 : decode cX5_goDown 39 = .ok (.bipush 126, 2) := by decide +kernel
theorem dX5_goDown_41 : decode cX5_goDown 41 = .ok (.if_icmp .eq 91, 3) := by decide +kernel
theorem dX5_goDown_44 : decode cX5_goDown 44 = .ok (.iconst 0, 1) := by decide +kernel
theorem dX5_goDown_45 : decode cX5_goDown 45 = .ok (.istore_n 2, 1) := by decide +kernel
theorem dX5_goDown_46 : decode cX5_goDown 46 = .ok (.iconst 0, 1) := by decide +kernel
theorem dX5_goDown_47 : decode cX5_goDown 47 = .ok (.istore_n 3, 1) := by decide +kernel
theorem dX5_goDown_48 : decode cX5_goDown 48 = .ok (.iload_n 3, 1) := by decide +kernel
theorem dX5_goDown_49 : decode cX5_goDown 49 = .ok (.aload_n 0, 1) := by decide +kernel
theorem dX5_goDown_50 : decode cX5_goDown 50 = .ok (.getfield 74, 3) := by decide +kernel
theorem dX5_goDown_53 : decode cX5_goDown 53 = .ok (.if_icmp .ge 18, 3) := by decide +kernel
theorem dX5_goDown_56 : decode cX5_goDown 56 = .ok (.iload_n 2, 1) := by decide +kernel
theorem dX5_goDown_57 : decode cX5_goDown 57 = .ok (.aload_n 0, 1) := by decide +kernel
theorem dX5_goDown_58 : decode cX5_goDown 58 = .ok (.iload_n 1, 1) := by decide +kernel
theorem dX5_goDown_59 : decode cX5_goDown 59 = .ok (.iload_n 3, 1) := by decide +kernel
theorem dX5_goDown_60 : decode cX5_goDown 60 = .ok (.invokevirtual 114, 3) := by decide +kernel
theorem dX5_goDown_63 : decode cX5_goDown 63 = .ok (.iadd, 1) := by decide +kernel
theorem dX5_goDown_64 : decode cX5_goDown 64 = .ok (.istore_n 2, 1) := by decide +kernel
theorem dX5_goDown_65 : decode cX5_goDown 65 = .ok (.iinc 3 1, 3) := by decide +kernel
theorem dX5_goDown_68 : decode cX5_goDown 68 = .ok (.goto (-20), 3) := by decide +kernel
theorem dX5_goDown_71 : decode cX5_goDown 71 = .ok (.aload_n 0, 1) := by decide +kernel
theorem dX5_goDown_72 : decode cX5_goDown 72 = .ok (.iload_n 1, 1) := by decide +kernel
theorem dX5_goDown_73 : decode cX5_goDown 73 = .ok (.iload_n 2, 1) := by decide +kernel
theorem dX5_goDown_74 : decode cX5_goDown 74 = .ok (.iconst 2, 1) := by decide +kernel
theorem dX5_goDown_75 : decode cX5_goDown 75 = .ok (.irem, 1) := by decide +kernel
theorem dX5_goDown_76 : decode cX5_goDown 76 = .ok (.invokevirtual 141, 3) := by decide +kernel
theorem dX5_goDown_79 : decode cX5_goDown 79 = .ok (.istore_n 3, 1) := by decide +kernel
theorem dX5_goDown_80 : decode cX5_goDown 80 = .ok (.aload_n 0, 1) := by decide +kernel
theorem dX5_goDown_81 : decode cX5_goDown 81 = .ok (.getfield 14, 3) := by decide +kernel
theorem dX5_goDown_84 : decode cX5_goDown 84 = .ok (.iload_n 1, 1) := by decide +kernel
theorem dX5_goDown_85 : decode cX5_goDown 85 = .ok (.iload_n 3, 1) := by decide +kernel
theorem dX5_goDown_86 : decode cX5_goDown 86 = .ok (.i2b, 1) := by decide +kernel
theorem dX5_goDown_87 : decode cX5_goDown 87 = .ok (.bastore, 1) := by decide +kernel
theorem dX5_goDown_88 : decode cX5_goDown 88 = .ok (.iload_n 3, 1) := by decide +kernel
theorem dX5_goDown_89 : decode cX5_goDown 89 = .ok (.ifCond .le 16, 3) := by decide +kernel
theorem dX5_goDown_92 : decode cX5_goDown 92 = .ok (.aload_n 0, 1) := by decide +kernel
theorem dX5_goDown_93 : decode cX5_goDown 93 = .ok (.getfield 24, 3) := by decide +kernel
theorem dX5_goDown_96 : decode cX5_goDown 96 = .ok (.iload_n 2, 1) := by decide +kernel
theorem dX5_goDown_97 : decode cX5_goDown 97 = .ok (.dup2, 1) := by decide +kernel
theorem dX5_goDown_98 : decode cX5_goDown 98 = .ok (.iaload, 1) := by decide +kernel
theorem dX5_goDown_99 : decode cX5_goDown 99 = .ok (.iconst 1, 1) := by decide +kernel
theorem dX5_goDown_100 : decode cX5_goDown 100 = .ok (.iadd, 1) := by decide +kernel
theorem dX5_goDown_101 : decode cX5_goDown 101 = .ok (.iastore, 1) := by decide +kernel
theorem dX5_goDown_102 : decode cX5_goDown 102 = .ok (.goto 30, 3) := by decide +kernel
theorem dX5_goDown_105 : decode cX5_goDown 105 = .ok (.iload_n 3, 1) := by decide +kernel
theorem dX5_goDown_106 : decode cX5_goDown 106 = .ok (.ifCond .ne 16, 3) := by decide +kernel
theorem dX5_goDown_109 : decode cX5_goDown 109 = .ok (.aload_n 0, 1) := by decide +kernel
theorem dX5_goDown_110 : decode cX5_goDown 110 = .ok (.getfield 27, 3) := by decide +kernel
theorem dX5_goDown_113 : decode cX5_goDown 113 = .ok (.iload_n 2, 1) := by decide +kernel
theorem dX5_goDown_114 : decode cX5_goDown 114 = .ok (.dup2, 1) := by decide +kernel
theorem dX5_goDown_115 : decode cX5_goDown 115 = .ok (.iaload, 1) := by decide +kernel
theorem dX5_goDown_116 : decode cX5_goDown 116 = .ok (.iconst 1, 1) := by decide +kernel
theorem dX5_goDown_117 : decode cX5_goDown 117 = .ok (.iadd, 1) := by decide +kernel
theorem dX5_goDown_118 : decode cX5_goDown 118 = .ok (.iastore, 1) := by decide +kernel
theorem dX5_goDown_119 : decode cX5_goDown 119 = .ok (.goto 13, 3) := by decide +kernel
theorem dX5_goDown_122 : decode cX5_goDown 122 = .ok (.aload_n 0, 1) := by decide +kernel
theorem dX5_goDown_123 : decode cX5_goDown 123 = .ok (.getfield 30, 3) := by decide +kernel
theorem dX5_goDown_126 : decode cX5_goDown 126 = .ok (.iload_n 2, 1) := by decide +kernel
theorem dX5_goDown_127 : decode cX5_goDown 127 = .ok (.dup2, 1) := by decide +kernel
theorem dX5_goDown_128 : decode cX5_goDown 128 = .ok (.iaload, 1) := by decide +kernel
theorem dX5_goDown_129 : decode cX5_goDown 129 = .ok (.iconst 1, 1) := by decide +kernel
theorem dX5_goDown_130 : decode cX5_goDown 130 = .ok (.iadd, 1) := by decide +kernel
theorem dX5_goDown_131 : decode cX5_goDown 131 = .ok (.iastore, 1) := by decide +kernel
theorem dX5_goDown_132 : decode cX5_goDown 132 = .ok (.iinc 1 (-1), 3) := by decide +kernel
theorem dX5_goDown_135 : decode cX5_goDown 135 = .ok (.goto (-128), 3) := by decide +kernel
theorem dX5_goDown_138 : decode cX5_goDown 138 = .ok (.return_, 1) := by decide +kernel
theorem dX5_place_0 : decode cX5_place 0 = .ok (.aload_n 0, 1) := by decide +kernel
theorem dX5_place_1 : decode cX5_place 1 = .ok (.aload_n 0, 1) := by decide +kernel
theorem dX5_place_2 : decode cX5_place 2 = .ok (.invokevirtual 124, 3) := by decide +kernel
theorem dX5_place_5 : decode cX5_place 5 = .ok (.putfield 144, 3) := by decide +kernel
theorem dX5_place_8 : decode cX5_place 8 = .ok (.iconst 0, 1) := by decide +kernel
theorem dX5_place_9 : decode cX5_place 9 = .ok (.istore_n 1, 1) := by decide +kernel
theorem dX5_place_10 : decode cX5_place 10 = .ok (.iload_n 1, 1) := by decide +kernel
theorem dX5_place_11 : decode cX5_place 11 = .ok (.aload_n 0, 1) := by decide +kernel
theorem dX5_place_12 : decode cX5_place 12 = .ok (.getfield 96, 3) := by decide +kernel
theorem dX5_place_15 : decode cX5_place 15 = .ok (.if_icmp .ge 30, 3) := by decide +kernel
theorem dX5_place_18 : decode cX5_place 18 = .ok (.aload_n 0, 1) := by decide +kernel
theorem dX5_place_19 : decode cX5_place 19 = .ok (.aload_n 0, 1) := by decide +kernel
theorem dX5_place_20 : decode cX5_place 20 = .ok (.aload_n 0, 1) := by decide +kernel
theorem dX5_place_21 : decode cX5_place 21 = .ok (.getfield 144, 3) := by decide +kernel
theorem dX5_place_24 : decode cX5_place 24 = .ok (.aload_n 0, 1) := by decide +kernel
theorem dX5_place_25 : decode cX5_place 25 = .ok (.getfield 36, 3) := by decide +kernel
theorem dX5_place_28 : decode cX5_place 28 = .ok (.iload_n 1, 1) := by decide +kernel
theorem dX5_place_29 : decode cX5_place 29 = .ok (.iaload, 1) := by decide +kernel
theorem dX5_place_30 : decode cX5_place 30 = .ok (.iload_n 1, 1) := by decide +kernel
theorem dX5_place_31 : decode cX5_place 31 = .ok (.iconst 2, 1) := by decide +kernel
theorem dX5_place_32 : decode cX5_place 32 = .ok (.irem, 1) := by decide +kernel
theorem dX5_place_33 : decode cX5_place 33 = .ok (.invokevirtual 134, 3) := by decide +kernel
theorem dX5_place_36 : decode cX5_place 36 = .ok (.putfield 144, 3) := by decide +kernel
theorem dX5_place_39 : decode cX5_place 39 = .ok (.iinc 1 1, 3) := by decide +kernel
theorem dX5_place_42 : decode cX5_place 42 = .ok (.goto (-32), 3) := by decide +kernel
theorem dX5_place_45 : decode cX5_place 45 = .ok (.return_, 1) := by decide +kernel
theorem dX5_isOver_0 : decode cX5_isOver 0 = .ok (.aload_n 0, 1) := by decide +kernel
theorem dX5_isOver_1 : decode cX5_isOver 1 = .ok (.getfield 14, 3) := by decide +kernel
theorem dX5_isOver_4 : decode cX5_isOver 4 = .ok (.aload_n 0, 1) := by decide +kernel
theorem dX5_isOver_5 : decode cX5_isOver 5 = .ok (.getfield 144, 3) := by decide +kernel
theorem dX5_isOver_8 : decode cX5_isOver 8 = .ok (.baload, 1) := by decide +kernel
theorem dX5_isOver_9 : decode cX5_isOver 9 = .ok (.bipush 127, 2) := by decide +kernel
theorem dX5_isOver_11 : decode cX5_isOver 11 = .ok (.if_icmp .eq 17, 3) := by decide +kernel
theorem dX5_isOver_14 : decode cX5_isOver 14 = .ok (.aload_n 0, 1) := by decide +kernel
theorem dX5_isOver_15 : decode cX5_isOver 15 = .ok (.getfield 14, 3) := by decide +kernel
theorem dX5_isOver_18 : decode cX5_isOver 18 = .ok (.aload_n 0, 1) := by decide +kernel
theorem dX5_isOver_19 : decode cX5_isOver 19 = .ok (.getfield 144, 3) := by decide +kernel
theorem dX5_isOver_22 : decode cX5_isOver 22 = .ok (.baload, 1) := by decide +kernel
theorem dX5_isOver_23 : decode cX5_isOver 23 = .ok (.bipush 126, 2) := by decide +kernel
theorem dX5_isOver_25 : decode cX5_isOver 25 = .ok (.if_icmp .ne 7, 3) := by decide +kernel
theorem dX5_isOver_28 : decode cX5_isOver 28 = .ok (.iconst 1, 1) := by decide +kernel
theorem dX5_isOver_29 : decode cX5_isOver 29 = .ok (.goto 4, 3) := by decide +kernel
theorem dX5_isOver_32 : decode cX5_isOver 32 = .ok (.iconst 0, 1) := by decide +kernel
theorem dX5_isOver_33 : decode cX5_isOver 33 = .ok (.ireturn, 1) := by decide +kernel
theorem dX5_isFree_0 : decode cX5_isFree 0 = .ok (.iload_n 1, 1) := by decide +kernel
theorem dX5_isFree_1 : decode cX5_isFree 1 = .ok (.i2l, 1) := by decide +kernel
theorem dX5_isFree_2 : decode cX5_isFree 2 = .ok (.lconst 0, 1) := by decide +kernel
theorem dX5_isFree_3 : decode cX5_isFree 3 = .ok (.aload_n 0, 1) := by decide +kernel
theorem dX5_isFree_4 : decode cX5_isFree 4 = .ok (.getfield 74, 3) := by decide +kernel
theorem dX5_isFree_7 : decode cX5_isFree 7 = .ok (.iconst 1, 1) := by decide +kernel
theorem dX5_isFree_8 : decode cX5_isFree 8 = .ok (.isub, 1) := by decide +kernel
theorem dX5_isFree_9 : decode cX5_isFree 9 = .ok (.i2l, 1) := by decide +kernel
theorem dX5_isFree_10 : decode cX5_isFree 10 = .ok (.invokestatic 57, 3) := by decide +kernel
theorem dX5_isFree_13 : decode cX5_isFree 13 = .ok (.ifCond .eq 23, 3) := by decide +kernel
theorem dX5_isFree_16 : decode cX5_isFree 16 = .ok (.aload_n 0, 1) := by decide +kernel
theorem dX5_isFree_17 : decode cX5_isFree 17 = .ok (.aload_n 0, 1) := by decide +kernel
theorem dX5_isFree_18 : decode cX5_isFree 18 = .ok (.getfield 144, 3) := by decide +kernel
theorem dX5_isFree_21 : decode cX5_isFree 21 = .ok (.iload_n 1, 1) := by decide +kernel
theorem dX5_isFree_22 : decode cX5_isFree 22 = .ok (.invokevirtual 114, 3) := by decide +kernel
theorem dX5_isFree_25 : decode cX5_isFree 25 = .ok (.aload_n 0, 1) := by decide +kernel
theorem dX5_isFree_26 : decode cX5_isFree 26 = .ok (.getfield 77, 3) := by decide +kernel
theorem dX5_isFree_29 : decode cX5_isFree 29 = .ok (.if_icmp .ge 7, 3) := by decide +kernel
theorem dX5_isFree_32 : decode cX5_isFree 32 = .ok (.iconst 1, 1) := by decide +kernel
theorem dX5_isFree_33 : decode cX5_isFree 33 = .ok (.goto 4, 3) := by decide +kernel
theorem dX5_isFree_36 : decode cX5_isFree 36 = .ok (.iconst 0, 1) := by decide +kernel
theorem dX5_isFree_37 : decode cX5_isFree 37 = .ok (.ireturn, 1) := by decide +kernel
theorem dX5_drop_0 : decode cX5_drop 0 = .ok (.aload_n 0, 1) := by decide +kernel
theorem dX5_drop_1 : decode cX5_drop 1 = .ok (.iload_n 1, 1) := by decide +kernel
theorem dX5_drop_2 : decode cX5_drop 2 = .ok (.invokevirtual 147, 3) := by decide +kernel
theorem dX5_drop_5 : decode cX5_drop 5 = .ok (.ifCond .ne 7, 3) := by decide +kernel
theorem dX5_drop_8 : decode cX5_drop 8 = .ok (.sipush (-200), 3) := by decide +kernel
theorem dX5_drop_11 : decode cX5_drop 11 = .ok (.ireturn, 1) := by decide +kernel
theorem dX5_drop_12 : decode cX5_drop 12 = .ok (.aload_n 0, 1) := by decide +kernel
theorem dX5_drop_13 : decode cX5_drop 13 = .ok (.invokevirtual 150, 3) := by decide +kernel
theorem dX5_drop_16 : decode cX5_drop 16 = .ok (.ifCond .eq 7, 3) := by decide +kernel
theorem dX5_drop_19 : decode cX5_drop 19 = .ok (.sipush (-201), 3) := by decide +kernel
theorem dX5_drop_22 : decode cX5_drop 22 = .ok (.ireturn, 1) := by decide +kernel
theorem dX5_drop_23 : decode cX5_drop 23 = .ok (.aload_n 0, 1) := by decide +kernel
theorem dX5_drop_24 : decode cX5_drop 24 = .ok (.getfield 74, 3) := by decide +kernel
theorem dX5_drop_27 : decode cX5_drop 27 = .ok (.aload_n 0, 1) := by decide +kernel
theorem dX5_drop_28 : decode cX5_drop 28 = .ok (.aload_n 0, 1) := by decide +kernel
theorem dX5_drop_29 : decode cX5_drop 29 = .ok (.getfield 144, 3) := by decide +kernel
theorem dX5_drop_32 : decode cX5_drop 32 = .ok (.iload_n 1, 1) := by decide +kernel
theorem dX5_drop_33 : decode cX5_drop 33 = .ok (.invokevirtual 114, 3) := by decide +kernel
theorem dX5_drop_36 : decode cX5_drop 36 = .ok (.imul, 1) := by decide +kernel
theorem dX5_drop_37 : decode cX5_drop 37 = .ok (.iload_n 1, 1) := by decide +kernel
theorem dX5_drop_38 : decode cX5_drop 38 = .ok (.iadd, 1) := by decide +kernel
theorem dX5_drop_39 : decode cX5_drop 39 = .ok (.istore_n 2, 1) := by decide +kernel
theorem dX5_drop_40 : decode cX5_drop 40 = .ok (.aload_n 0, 1) := by decide +kernel
theorem dX5_drop_41 : decode cX5_drop 41 = .ok (.iload_n 1, 1) := by decide +kernel
theorem dX5_drop_42 : decode cX5_drop 42 = .ok (.invokevirtual 154, 3) := by decide +kernel
theorem dX5_drop_45 : decode cX5_drop 45 = .ok (.iload_n 2, 1) := by decide +kernel
theorem dX5_drop_46 : decode cX5_drop 46 = .ok (.ireturn, 1) := by decide +kernel
theorem dX5_go_0 : decode cX5_go 0 = .ok (.aload_n 0, 1) := by decide +kernel
theorem dX5_go_1 : decode cX5_go 1 = .ok (.aload_n 0, 1) := by decide +kernel
theorem dX5_go_2 : decode cX5_go 2 = .ok (.aload_n 0, 1) := by decide +kernel
theorem dX5_go_3 : decode cX5_go 3 = .ok (.getfield 144, 3) := by decide +kernel
theorem dX5_go_6 : decode cX5_go 6 = .ok (.iload_n 1, 1) := by decide +kernel
theorem dX5_go_7 : decode cX5_go 7 = .ok (.aload_n 0, 1) := by decide +kernel
theorem dX5_go_8 : decode cX5_go 8 = .ok (.getfield 96, 3) := by decide +kernel
theorem dX5_go_11 : decode cX5_go 11 = .ok (.iconst 2, 1) := by decide +kernel
theorem dX5_go_12 : decode cX5_go 12 = .ok (.irem, 1) := by decide +kernel
theorem dX5_go_13 : decode cX5_go 13 = .ok (.invokevirtual 134, 3) := by decide +kernel
theorem dX5_go_16 : decode cX5_go 16 = .ok (.putfield 144, 3) := by decide +kernel
theorem dX5_go_19 : decode cX5_go 19 = .ok (.aload_n 0, 1) := by decide +kernel
theorem dX5_go_20 : decode cX5_go 20 = .ok (.getfield 36, 3) := by decide +kernel
theorem dX5_go_23 : decode cX5_go 23 = .ok (.aload_n 0, 1) := by decide +kernel
theorem dX5_go_24 : decode cX5_go 24 = .ok (.getfield 96, 3) := by decide +kernel
theorem dX5_go_27 : decode cX5_go 27 = .ok (.iload_n 1, 1) := by decide +kernel
theorem dX5_go_28 : decode cX5_go 28 = .ok (.iastore, 1) := by decide +kernel
theorem dX5_go_29 : decode cX5_go 29 = .ok (.aload_n 0, 1) := by decide +kernel
theorem dX5_go_30 : decode cX5_go 30 = .ok (.dup, 1) := by decide +kernel
theorem dX5_go_31 : decode cX5_go 31 = .ok (.getfield 96, 3) := by decide +kernel
theorem dX5_go_34 : decode cX5_go 34 = .ok (.iconst 1, 1) := by decide +kernel
theorem dX5_go_35 : decode cX5_go 35 = .ok (.iadd, 1) := by decide +kernel
theorem dX5_go_36 : decode cX5_go 36 = .ok (.putfield 96, 3) := by decide +kernel
theorem dX5_go_39 : decode cX5_go 39 = .ok (.return_, 1) := by decide +kernel
theorem dX5_back_0 : decode cX5_back 0 = .ok (.iload_n 1, 1) := by decide +kernel
theorem dX5_back_1 : decode cX5_back 1 = .ok (.i2l, 1) := by decide +kernel
theorem dX5_back_2 : decode cX5_back 2 = .ok (.lconst 0, 1) := by decide +kernel
theorem dX5_back_3 : decode cX5_back 3 = .ok (.aload_n 0, 1) := by decide +kernel
theorem dX5_back_4 : decode cX5_back 4 = .ok (.getfield 96, 3) := by decide +kernel
theorem dX5_back_7 : decode cX5_back 7 = .ok (.i2l, 1) := by decide +kernel
theorem dX5_back_8 : decode cX5_back 8 = .ok (.invokestatic 57, 3) := by decide +kernel
theorem dX5_back_11 : decode cX5_back 11 = .ok (.ifCond .ne 7, 3) := by decide +kernel
theorem dX5_back_14 : decode cX5_back 14 = .ok (.sipush (-200), 3) := by decide +kernel
theorem dX5_back_17 : decode cX5_back 17 = .ok (.ireturn, 1) := by decide +kernel
theorem dX5_back_18 : decode cX5_back 18 = .ok (.aload_n 0, 1) := by decide +kernel
theorem dX5_back_19 : decode cX5_back 19 = .ok (.dup, 1) := by decide +kernel
theorem dX5_back_20 : decode cX5_back 20 = .ok (.getfield 96, 3) := by decide +kernel
theorem dX5_back_23 : decode cX5_back 23 = .ok (.iload_n 1, 1) := by decide +kernel
theorem dX5_back_24 : decode cX5_back 24 = .ok (.isub, 1) := by decide +kernel
theorem dX5_back_25 : decode cX5_back 25 = .ok (.putfield 96, 3) := by decide +kernel
theorem dX5_back_28 : decode cX5_back 28 = .ok (.aload_n 0, 1) := by decide +kernel
theorem dX5_back_29 : decode cX5_back 29 = .ok (.invokevirtual 99, 3) := by decide +kernel
theorem dX5_back_32 : decode cX5_back 32 = .ok (.aload_n 0, 1) := by decide +kernel
theorem dX5_back_33 : decode cX5_back 33 = .ok (.getfield 96, 3) := by decide +kernel
theorem dX5_back_36 : decode cX5_back 36 = .ok (.ireturn, 1) := by decide +kernel
theorem dX5_move_0 : decode cX5_move 0 = .ok (.iload_n 1, 1) := by decide +kernel
theorem dX5_move_1 : decode cX5_move 1 = .ok (.i2l, 1) := by decide +kernel
theorem dX5_move_2 : decode cX5_move 2 = .ok (.lconst 0, 1) := by decide +kernel
theorem dX5_move_3 : decode cX5_move 3 = .ok (.aload_n 0, 1) := by decide +kernel
theorem dX5_move_4 : decode cX5_move 4 = .ok (.getfield 96, 3) := by decide +kernel
theorem dX5_move_7 : decode cX5_move 7 = .ok (.iconst 1, 1) := by decide +kernel
theorem dX5_move_8 : decode cX5_move 8 = .ok (.isub, 1) := by decide +kernel
theorem dX5_move_9 : decode cX5_move 9 = .ok (.i2l, 1) := by decide +kernel
theorem dX5_move_10 : decode cX5_move 10 = .ok (.invokestatic 57, 3) := by decide +kernel
theorem dX5_move_13 : decode cX5_move 13 = .ok (.ifCond .eq 12, 3) := by decide +kernel
theorem dX5_move_16 : decode cX5_move 16 = .ok (.aload_n 0, 1) := by decide +kernel
theorem dX5_move_17 : decode cX5_move 17 = .ok (.getfield 36, 3) := by decide +kernel
theorem dX5_move_20 : decode cX5_move 20 = .ok (.iload_n 1, 1) := by decide +kernel
theorem dX5_move_21 : decode cX5_move 21 = .ok (.iaload, 1) := by decide +kernel
theorem dX5_move_22 : decode cX5_move 22 = .ok (.goto 6, 3) := by decide +kernel
theorem dX5_move_25 : decode cX5_move 25 = .ok (.sipush (-200), 3) := by decide +kernel
theorem dX5_move_28 : decode cX5_move 28 = .ok (.ireturn, 1) := by decide +kernel
theorem dX5_at_0 : decode cX5_at 0 = .ok (.iload_n 1, 1) := by decide +kernel
theorem dX5_at_1 : decode cX5_at 1 = .ok (.i2l, 1) := by decide +kernel
theorem dX5_at_2 : decode cX5_at 2 = .ok (.lconst 0, 1) := by decide +kernel
theorem dX5_at_3 : decode cX5_at 3 = .ok (.aload_n 0, 1) := by decide +kernel
theorem dX5_at_4 : decode cX5_at 4 = .ok (.getfield 74, 3) := by decide +kernel
theorem dX5_at_7 : decode cX5_at 7 = .ok (.aload_n 0, 1) := by decide +kernel
theorem dX5_at_8 : decode cX5_at 8 = .ok (.getfield 77, 3) := by decide +kernel
theorem dX5_at_11 : decode cX5_at 11 = .ok (.imul, 1) := by decide +kernel
theorem dX5_at_12 : decode cX5_at 12 = .ok (.iconst 1, 1) := by decide +kernel
theorem dX5_at_13 : decode cX5_at 13 = .ok (.isub, 1) := by decide +kernel
theorem dX5_at_14 : decode cX5_at 14 = .ok (.i2l, 1) := by decide +kernel
theorem dX5_at_15 : decode cX5_at 15 = .ok (.invokestatic 57, 3) := by decide +kernel
theorem dX5_at_18 : decode cX5_at 18 = .ok (.ifCond .ne 7, 3) := by decide +kernel
theorem dX5_at_21 : decode cX5_at 21 = .ok (.sipush (-200), 3) := by decide +kernel
theorem dX5_at_24 : decode cX5_at 24 = .ok (.ireturn, 1) := by decide +kernel
theorem dX5_at_25 : decode cX5_at 25 = .ok (.aload_n 0, 1) := by decide +kernel
theorem dX5_at_26 : decode cX5_at 26 = .ok (.aload_n 0, 1) := by decide +kernel
theorem dX5_at_27 : decode cX5_at 27 = .ok (.getfield 144, 3) := by decide +kernel
theorem dX5_at_30 : decode cX5_at 30 = .ok (.invokevirtual 127, 3) := by decide +kernel
theorem dX5_at_33 : decode cX5_at 33 = .ok (.aload_n 0, 1) := by decide +kernel
theorem dX5_at_34 : decode cX5_at 34 = .ok (.getfield 33, 3) := by decide +kernel
theorem dX5_at_37 : decode cX5_at 37 = .ok (.iconst 0, 1) := by decide +kernel
theorem dX5_at_38 : decode cX5_at 38 = .ok (.iaload, 1) := by decide +kernel
theorem dX5_at_39 : decode cX5_at 39 = .ok (.iload_n 1, 1) := by decide +kernel
theorem dX5_at_40 : decode cX5_at 40 = .ok (.ishr, 1) := by decide +kernel
theorem dX5_at_41 : decode cX5_at 41 = .ok (.iconst 1, 1) := by decide +kernel
theorem dX5_at_42 : decode cX5_at 42 = .ok (.iand, 1) := by decide +kernel
theorem dX5_at_43 : decode cX5_at 43 = .ok (.iconst 1, 1) := by decide +kernel
theorem dX5_at_44 : decode cX5_at 44 = .ok (.if_icmp .ne 7, 3) := by decide +kernel
theorem dX5_at_47 : decode cX5_at 47 = .ok (.iconst 0, 1) := by decide +kernel
theorem dX5_at_48 : decode cX5_at 48 = .ok (.goto 22, 3) := by decide +kernel
theorem dX5_at_51 : decode cX5_at 51 = .ok (.aload_n 0, 1) := by decide +kernel
theorem dX5_at_52 : decode cX5_at 52 = .ok (.getfield 33, 3) := by decide +kernel
theorem dX5_at_55 : decode cX5_at 55 = .ok (.iconst 1, 1) := by decide +kernel
theorem dX5_at_56 : decode cX5_at 56 = .ok (.iaload, 1) := by decide +kernel
theorem dX5_at_57 : decode cX5_at 57 = .ok (.iload_n 1, 1) := by decide +kernel
theorem dX5_at_58 : decode cX5_at 58 = .ok (.ishr, 1) := by decide +kernel
theorem dX5_at_59 : decode cX5_at 59 = .ok (.iconst 1, 1) := by decide +kernel
theorem dX5_at_60 : decode cX5_at 60 = .ok (.iand, 1) := by decide +kernel
theorem dX5_at_61 : decode cX5_at 61 = .ok (.iconst 1, 1) := by decide +kernel
theorem dX5_at_62 : decode cX5_at 62 = .ok (.if_icmp .ne 7, 3) := by decide +kernel
theorem dX5_at_65 : decode cX5_at 65 = .ok (.iconst 1, 1) := by decide +kernel
theorem dX5_at_66 : decode cX5_at 66 = .ok (.goto 4, 3) := by decide +kernel
theorem dX5_at_69 : decode cX5_at 69 = .ok (.iconst (-1), 1) := by decide +kernel
theorem dX5_at_70 : decode cX5_at 70 = .ok (.ireturn, 1) := by decide +kernel
theorem dX5_game_0 : decode cX5_game 0 = .ok (.iconst 0, 1) := by decide +kernel
theorem dX5_game_1 : decode cX5_game 1 = .ok (.istore_n 2, 1) := by decide +kernel
theorem dX5_game_2 : decode cX5_game 2 = .ok (.iload_n 1, 1) := by decide +kernel
theorem dX5_game_3 : decode cX5_game 3 = .ok (.tableswitch 191 0 4 #[33, 40, 45, 83, 117], 33) := by decide +kernel
theorem dX5_game_36 : decode cX5_game 36 = .ok (.aload_n 0, 1) := by decide +kernel
theorem dX5_game_37 : decode cX5_game 37 = .ok (.getfield 96, 3) := by decide +kernel
theorem dX5_game_40 : decode cX5_game 40 = .ok (.iconst 2, 1) := by decide +kernel
theorem dX5_game_41 : decode cX5_game 41 = .ok (.irem, 1) := by decide +kernel
theorem dX5_game_42 : decode cX5_game 42 = .ok (.ireturn, 1) := by decide +kernel
theorem dX5_game_43 : decode cX5_game 43 = .ok (.aload_n 0, 1) := by decide +kernel
theorem dX5_game_44 : decode cX5_game 44 = .ok (.getfield 96, 3) := by decide +kernel
theorem dX5_game_47 : decode cX5_game 47 = .ok (.ireturn, 1) := by decide +kernel
theorem dX5_game_48 : decode cX5_game 48 = .ok (.aload_n 0, 1) := by decide +kernel
theorem dX5_game_49 : decode cX5_game 49 = .ok (.getfield 14, 3) := by decide +kernel
theorem dX5_game_52 : decode cX5_game 52 = .ok (.aload_n 0, 1) := by decide +kernel
theorem dX5_game_53 : decode cX5_game 53 = .ok (.getfield 144, 3) := by decide +kernel
theorem dX5_game_56 : decode cX5_game 56 = .ok (.baload, 1) := by decide +kernel
theorem dX5_game_57 : decode cX5_game 57 = .ok (.bipush 127, 2) := by decide +kernel
theorem dX5_game_59 : decode cX5_game 59 = .ok (.if_icmp .ne 7, 3) := by decide +kernel
theorem dX5_game_62 : decode cX5_game 62 = .ok (.iconst 1, 1) := by decide +kernel
theorem dX5_game_63 : decode cX5_game 63 = .ok (.goto 22, 3) := by decide +kernel
theorem dX5_game_66 : decode cX5_game 66 = .ok (.aload_n 0, 1) := by decide +kernel
theorem dX5_game_67 : decode cX5_game 67 = .ok (.getfield 14, 3) := by decide +kernel
theorem dX5_game_70 : decode cX5_game 70 = .ok (.aload_n 0, 1) := by decide +kernel
theorem dX5_game_71 : decode cX5_game 71 = .ok (.getfield 144, 3) := by decide +kernel
theorem dX5_game_74 : decode cX5_game 74 = .ok (.baload, 1) := by decide +kernel
theorem dX5_game_75 : decode cX5_game 75 = .ok (.bipush 126, 2) := by decide +kernel
theorem dX5_game_77 : decode cX5_game 77 = .ok (.if_icmp .ne 7, 3) := by decide +kernel
theorem dX5_game_80 : decode cX5_game 80 = .ok (.iconst 2, 1) := by decide +kernel
theorem dX5_game_81 : decode cX5_game 81 = .ok (.goto 4, 3) := by decide +kernel
theorem dX5_game_84 : decode cX5_game 84 = .ok (.iconst 0, 1) := by decide +kernel
theorem dX5_game_85 : decode cX5_game 85 = .ok (.ireturn, 1) := by decide +kernel
theorem dX5_game_86 : decode cX5_game 86 = .ok (.iconst 0, 1) := by decide +kernel
theorem dX5_game_87 : decode cX5_game 87 = .ok (.istore_n 3, 1) := by decide +kernel
theorem dX5_game_88 : decode cX5_game 88 = .ok (.iload_n 3, 1) := by decide +kernel
theorem dX5_game_89 : decode cX5_game 89 = .ok (.aload_n 0, 1) := by decide +kernel
theorem dX5_game_90 : decode cX5_game 90 = .ok (.getfield 74, 3) := by decide +kernel
theorem dX5_game_93 : decode cX5_game 93 = .ok (.if_icmp .ge 25, 3) := by decide +kernel
theorem dX5_game_96 : decode cX5_game 96 = .ok (.iload_n 2, 1) := by decide +kernel
theorem dX5_game_97 : decode cX5_game 97 = .ok (.aload_n 0, 1) := by decide +kernel
theorem dX5_game_98 : decode cX5_game 98 = .ok (.iload_n 3, 1) := by decide +kernel
theorem dX5_game_99 : decode cX5_game 99 = .ok (.invokevirtual 147, 3) := by decide +kernel
theorem dX5_game_102 : decode cX5_game 102 = .ok (.ifCond .eq 7, 3) := by decide +kernel
theorem dX5_game_105 : decode cX5_game 105 = .ok (.iconst 1, 1) := by decide +kernel
theorem dX5_game_106 : decode cX5_game 106 = .ok (.goto 4, 3) := by decide +kernel
theorem dX5_game_109 : decode cX5_game 109 = .ok (.iconst 0, 1) := by decide +kernel
theorem dX5_game_110 : decode cX5_game 110 = .ok (.iadd, 1) := by decide +kernel
theorem dX5_game_111 : decode cX5_game 111 = .ok (.istore_n 2, 1) := by decide +kernel
theorem dX5_game_112 : decode cX5_game 112 = .ok (.iinc 3 1, 3) := by decide +kernel
theorem dX5_game_115 : decode cX5_game 115 = .ok (.goto (-27), 3) := by decide +kernel
theorem dX5_game_118 : decode cX5_game 118 = .ok (.iload_n 2, 1) := by decide +kernel
theorem dX5_game_119 : decode cX5_game 119 = .ok (.ireturn, 1) := by decide +kernel
theorem dX5_game_120 : decode cX5_game 120 = .ok (.aload_n 0, 1) := by decide +kernel
theorem dX5_game_121 : decode cX5_game 121 = .ok (.aload_n 0, 1) := by decide +kernel
theorem dX5_game_122 : decode cX5_game 122 = .ok (.getfield 144, 3) := by decide +kernel
theorem dX5_game_125 : decode cX5_game 125 = .ok (.invokevirtual 127, 3) := by decide +kernel
theorem dX5_game_128 : decode cX5_game 128 = .ok (.iconst 0, 1) := by decide +kernel
theorem dX5_game_129 : decode cX5_game 129 = .ok (.istore_n 3, 1) := by decide +kernel
theorem dX5_game_130 : decode cX5_game 130 = .ok (.iload_n 3, 1) := by decide +kernel
theorem dX5_game_131 : decode cX5_game 131 = .ok (.aload_n 0, 1) := by decide +kernel
theorem dX5_game_132 : decode cX5_game 132 = .ok (.getfield 71, 3) := by decide +kernel
theorem dX5_game_135 : decode cX5_game 135 = .ok (.if_icmp .ge 57, 3) := by decide +kernel
theorem dX5_game_138 : decode cX5_game 138 = .ok (.iload_n 2, 1) := by decide +kernel
theorem dX5_game_139 : decode cX5_game 139 = .ok (.aload_n 0, 1) := by decide +kernel
theorem dX5_game_140 : decode cX5_game 140 = .ok (.getfield 7, 3) := by decide +kernel
theorem dX5_game_143 : decode cX5_game 143 = .ok (.iload_n 3, 1) := by decide +kernel
theorem dX5_game_144 : decode cX5_game 144 = .ok (.iaload, 1) := by decide +kernel
theorem dX5_game_145 : decode cX5_game 145 = .ok (.aload_n 0, 1) := by decide +kernel
theorem dX5_game_146 : decode cX5_game 146 = .ok (.getfield 33, 3) := by decide +kernel
theorem dX5_game_149 : decode cX5_game 149 = .ok (.iconst 0, 1) := by decide +kernel
theorem dX5_game_150 : decode cX5_game 150 = .ok (.iaload, 1) := by decide +kernel
theorem dX5_game_151 : decode cX5_game 151 = .ok (.iand, 1) := by decide +kernel
theorem dX5_game_152 : decode cX5_game 152 = .ok (.ifCond .ne 7, 3) := by decide +kernel
theorem dX5_game_155 : decode cX5_game 155 = .ok (.iconst 1, 1) := by decide +kernel
theorem dX5_game_156 : decode cX5_game 156 = .ok (.goto 4, 3) := by decide +kernel
theorem dX5_game_159 : decode cX5_game 159 = .ok (.iconst 0, 1) := by decide +kernel
theorem dX5_game_160 : decode cX5_game 160 = .ok (.iadd, 1) := by decide +kernel
theorem dX5_game_161 : decode cX5_game 161 = .ok (.istore_n 2, 1) := by decide +kernel
theorem dX5_game_162 : decode cX5_game 162 = .ok (.iload_n 2, 1) := by decide +kernel
theorem dX5_game_163 : decode cX5_game 163 = .ok (.aload_n 0, 1) := by decide +kernel
theorem dX5_game_164 : decode cX5_game 164 = .ok (.getfield 7, 3) := by decide +kernel
theorem dX5_game_167 : decode cX5_game 167 = .ok (.iload_n 3, 1) := by decide +kernel
theorem dX5_game_168 : decode cX5_game 168 = .ok (.iaload, 1) := by decide +kernel
theorem dX5_game_169 : decode cX5_game 169 = .ok (.aload_n 0, 1) := by decide +kernel
theorem dX5_game_170 : decode cX5_game 170 = .ok (.getfield 33, 3) := by decide +kernel
theorem dX5_game_173 : decode cX5_game 173 = .ok (.iconst 1, 1) := by decide +kernel
theorem dX5_game_174 : decode cX5_game 174 = .ok (.iaload, 1) := by decide +kernel
theorem dX5_game_175 : decode cX5_game 175 = .ok (.iand, 1) := by decide +kernel
theorem dX5_game_176 : decode cX5_game 176 = .ok (.ifCond .ne 7, 3) := by decide +kernel
theorem dX5_game_179 : decode cX5_game 179 = .ok (.iconst 1, 1) := by decide +kernel
theorem dX5_game_180 : decode cX5_game 180 = .ok (.goto 4, 3) := by decide +kernel
theorem dX5_game_183 : decode cX5_game 183 = .ok (.iconst 0, 1) := by decide +kernel
theorem dX5_game_184 : decode cX5_game 184 = .ok (.iadd, 1) := by decide +kernel
theorem dX5_game_185 : decode cX5_game 185 = .ok (.istore_n 2, 1) := by decide +kernel
theorem dX5_game_186 : decode cX5_game 186 = .ok (.iinc 3 1, 3) := by decide +kernel
theorem dX5_game_189 : decode cX5_game 189 = .ok (.goto (-59), 3) := by decide +kernel
theorem dX5_game_192 : decode cX5_game 192 = .ok (.iload_n 2, 1) := by decide +kernel
theorem dX5_game_193 : decode cX5_game 193 = .ok (.ireturn, 1) := by decide +kernel
theorem dX5_game_194 : decode cX5_game 194 = .ok (.sipush (-200), 3) := by decide +kernel
theorem dX5_game_197 : decode cX5_game 197 = .ok (.ireturn, 1) := by decide +kernel
theorem dX5_bitOf_0 : decode cX5_bitOf 0 = .ok (.iload_n 1, 1) := by decide +kernel
theorem dX5_bitOf_1 : decode cX5_bitOf 1 = .ok (.istore_n 2, 1) := by decide +kernel
theorem dX5_bitOf_2 : decode cX5_bitOf 2 = .ok (.iconst 0, 1) := by decide +kernel
theorem dX5_bitOf_3 : decode cX5_bitOf 3 = .ok (.istore_n 3, 1) := by decide +kernel
theorem dX5_bitOf_4 : decode cX5_bitOf 4 = .ok (.iload_n 3, 1) := by decide +kernel
theorem dX5_bitOf_5 : decode cX5_bitOf 5 = .ok (.bipush 16, 2) := by decide +kernel
theorem dX5_bitOf_7 : decode cX5_bitOf 7 = .ok (.if_icmp .ge 31, 3) := by decide +kernel
theorem dX5_bitOf_10 : decode cX5_bitOf 10 = .ok (.iload_n 1, 1) := by decide +kernel
theorem dX5_bitOf_11 : decode cX5_bitOf 11 = .ok (.ifCond .lt 27, 3) := by decide +kernel
theorem dX5_bitOf_14 : decode cX5_bitOf 14 = .ok (.iload_n 0, 1) := by decide +kernel
theorem dX5_bitOf_15 : decode cX5_bitOf 15 = .ok (.iload_n 3, 1) := by decide +kernel
theorem dX5_bitOf_16 : decode cX5_bitOf 16 = .ok (.ishr, 1) := by decide +kernel
theorem dX5_bitOf_17 : decode cX5_bitOf 17 = .ok (.iconst 1, 1) := by decide +kernel
theorem dX5_bitOf_18 : decode cX5_bitOf 18 = .ok (.iand, 1) := by decide +kernel
theorem dX5_bitOf_19 : decode cX5_bitOf 19 = .ok (.iconst 1, 1) := by decide +kernel
theorem dX5_bitOf_20 : decode cX5_bitOf 20 = .ok (.if_icmp .ne 12, 3) := by decide +kernel
theorem dX5_bitOf_23 : decode cX5_bitOf 23 = .ok (.iload_n 2, 1) := by decide +kernel
theorem dX5_bitOf_24 : decode cX5_bitOf 24 = .ok (.ifCond .ne 5, 3) := by decide +kernel
theorem dX5_bitOf_27 : decode cX5_bitOf 27 = .ok (.iload_n 3, 1) := by decide +kernel
theorem dX5_bitOf_28 : decode cX5_bitOf 28 = .ok (.ireturn, 1) := by decide +kernel
theorem dX5_bitOf_29 : decode cX5_bitOf 29 = .ok (.iinc 2 (-1), 3) := by decide +kernel
theorem dX5_bitOf_32 : decode cX5_bitOf 32 = .ok (.iinc 3 1, 3) := by decide +kernel
theorem dX5_bitOf_35 : decode cX5_bitOf 35 = .ok (.goto (-31), 3) := by decide +kernel
theorem dX5_bitOf_38 : decode cX5_bitOf 38 = .ok (.iconst (-1), 1) := by decide +kernel
theorem dX5_bitOf_39 : decode cX5_bitOf 39 = .ok (.ireturn, 1) := by decide +kernel
theorem dX5_isAhead_0 : decode cX5_isAhead 0 = .ok (.iload_n 0, 1) := by decide +kernel
theorem dX5_isAhead_1 : decode cX5_isAhead 1 = .ok (.iload_n 1, 1) := by decide +kernel
theorem dX5_isAhead_2 : decode cX5_isAhead 2 = .ok (.ixor, 1) := by decide +kernel
theorem dX5_isAhead_3 : decode cX5_isAhead 3 = .ok (.istore_n 2, 1) := by decide +kernel
theorem dX5_isAhead_4 : decode cX5_isAhead 4 = .ok (.iload_n 2, 1) := by decide +kernel
theorem dX5_isAhead_5 : decode cX5_isAhead 5 = .ok (.iconst 0, 1) := by decide +kernel
theorem dX5_isAhead_6 : decode cX5_isAhead 6 = .ok (.invokestatic 157, 3) := by decide +kernel
theorem dX5_isAhead_9 : decode cX5_isAhead 9 = .ok (.istore_n 3, 1) := by decide +kernel
theorem dX5_isAhead_10 : decode cX5_isAhead 10 = .ok (.iload_n 3, 1) := by decide +kernel
theorem dX5_isAhead_11 : decode cX5_isAhead 11 = .ok (.ifCond .lt 16, 3) := by decide +kernel
theorem dX5_isAhead_14 : decode cX5_isAhead 14 = .ok (.iload_n 0, 1) := by decide +kernel
theorem dX5_isAhead_15 : decode cX5_isAhead 15 = .ok (.iload_n 3, 1) := by decide +kernel
theorem dX5_isAhead_16 : decode cX5_isAhead 16 = .ok (.ishr, 1) := by decide +kernel
theorem dX5_isAhead_17 : decode cX5_isAhead 17 = .ok (.iconst 1, 1) := by decide +kernel
theorem dX5_isAhead_18 : decode cX5_isAhead 18 = .ok (.iand, 1) := by decide +kernel
theorem dX5_isAhead_19 : decode cX5_isAhead 19 = .ok (.iconst 1, 1) := by decide +kernel
theorem dX5_isAhead_20 : decode cX5_isAhead 20 = .ok (.if_icmp .ne 7, 3) := by decide +kernel
theorem dX5_isAhead_23 : decode cX5_isAhead 23 = .ok (.iconst 1, 1) := by decide +kernel
theorem dX5_isAhead_24 : decode cX5_isAhead 24 = .ok (.goto 4, 3) := by decide +kernel
theorem dX5_isAhead_27 : decode cX5_isAhead 27 = .ok (.iconst 0, 1) := by decide +kernel
theorem dX5_isAhead_28 : decode cX5_isAhead 28 = .ok (.ireturn, 1) := by decide +kernel
theorem dX5_won_0 : decode cX5_won 0 = .ok (.aload_n 0, 1) := by decide +kernel
theorem dX5_won_1 : decode cX5_won 1 = .ok (.getfield 14, 3) := by decide +kernel
theorem dX5_won_4 : decode cX5_won 4 = .ok (.aload_n 0, 1) := by decide +kernel
theorem dX5_won_5 : decode cX5_won 5 = .ok (.getfield 144, 3) := by decide +kernel
theorem dX5_won_8 : decode cX5_won 8 = .ok (.baload, 1) := by decide +kernel
theorem dX5_won_9 : decode cX5_won 9 = .ok (.bipush 127, 2) := by decide +kernel
theorem dX5_won_11 : decode cX5_won 11 = .ok (.if_icmp .ne 19, 3) := by decide +kernel
theorem dX5_won_14 : decode cX5_won 14 = .ok (.iload_n 1, 1) := by decide +kernel
theorem dX5_won_15 : decode cX5_won 15 = .ok (.i2l, 1) := by decide +kernel
theorem dX5_won_16 : decode cX5_won 16 = .ok (.lconst 0, 1) := by decide +kernel
theorem dX5_won_17 : decode cX5_won 17 = .ok (.aload_n 0, 1) := by decide +kernel
theorem dX5_won_18 : decode cX5_won 18 = .ok (.getfield 80, 3) := by decide +kernel
theorem dX5_won_21 : decode cX5_won 21 = .ok (.iconst 1, 1) := by decide +kernel
theorem dX5_won_22 : decode cX5_won 22 = .ok (.isub, 1) := by decide +kernel
theorem dX5_won_23 : decode cX5_won 23 = .ok (.i2l, 1) := by decide +kernel
theorem dX5_won_24 : decode cX5_won 24 = .ok (.invokestatic 57, 3) := by decide +kernel
theorem dX5_won_27 : decode cX5_won 27 = .ok (.ifCond .ne 7, 3) := by decide +kernel
theorem dX5_won_30 : decode cX5_won 30 = .ok (.sipush (-200), 3) := by decide +kernel
theorem dX5_won_33 : decode cX5_won 33 = .ok (.ireturn, 1) := by decide +kernel
theorem dX5_won_34 : decode cX5_won 34 = .ok (.aload_n 0, 1) := by decide +kernel
theorem dX5_won_35 : decode cX5_won 35 = .ok (.aload_n 0, 1) := by decide +kernel
theorem dX5_won_36 : decode cX5_won 36 = .ok (.getfield 144, 3) := by decide +kernel
theorem dX5_won_39 : decode cX5_won 39 = .ok (.invokevirtual 127, 3) := by decide +kernel
theorem dX5_won_42 : decode cX5_won 42 = .ok (.aload_n 0, 1) := by decide +kernel
theorem dX5_won_43 : decode cX5_won 43 = .ok (.getfield 33, 3) := by decide +kernel
theorem dX5_won_46 : decode cX5_won 46 = .ok (.iconst 1, 1) := by decide +kernel
theorem dX5_won_47 : decode cX5_won 47 = .ok (.aload_n 0, 1) := by decide +kernel
theorem dX5_won_48 : decode cX5_won 48 = .ok (.getfield 96, 3) := by decide +kernel
theorem dX5_won_51 : decode cX5_won 51 = .ok (.iconst 2, 1) := by decide +kernel
theorem dX5_won_52 : decode cX5_won 52 = .ok (.irem, 1) := by decide +kernel
theorem dX5_won_53 : decode cX5_won 53 = .ok (.isub, 1) := by decide +kernel
theorem dX5_won_54 : decode cX5_won 54 = .ok (.iaload, 1) := by decide +kernel
theorem dX5_won_55 : decode cX5_won 55 = .ok (.istore_n 2, 1) := by decide +kernel
theorem dX5_won_56 : decode cX5_won 56 = .ok (.iconst 0, 1) := by decide +kernel
theorem dX5_won_57 : decode cX5_won 57 = .ok (.istore_n 3, 1) := by decide +kernel
theorem dX5_won_58 : decode cX5_won 58 = .ok (.iconst 0, 1) := by decide +kernel
theorem dX5_won_59 : decode cX5_won 59 = .ok (.istore 4, 2) := by decide +kernel
theorem dX5_won_61 : decode cX5_won 61 = .ok (.iload 4, 2) := by decide +kernel
theorem dX5_won_63 : decode cX5_won 63 = .ok (.aload_n 0, 1) := by decide +kernel
theorem dX5_won_64 : decode cX5_won 64 = .ok (.getfield 71, 3) := by decide +kernel
theorem dX5_won_67 : decode cX5_won 67 = .ok (.if_icmp .ge 54, 3) := by decide +kernel
theorem dX5_won_70 : decode cX5_won 70 = .ok (.aload_n 0, 1) := by decide +kernel
theorem dX5_won_71 : decode cX5_won 71 = .ok (.getfield 7, 3) := by decide +kernel
theorem dX5_won_74 : decode cX5_won 74 = .ok (.iload 4, 2) := by decide +kernel
theorem dX5_won_76 : decode cX5_won 76 = .ok (.iaload, 1) := by decide +kernel
theorem dX5_won_77 : decode cX5_won 77 = .ok (.iload_n 2, 1) := by decide +kernel
theorem dX5_won_78 : decode cX5_won 78 = .ok (.iand, 1) := by decide +kernel
theorem dX5_won_79 : decode cX5_won 79 = .ok (.aload_n 0, 1) := by decide +kernel
theorem dX5_won_80 : decode cX5_won 80 = .ok (.getfield 7, 3) := by decide +kernel
theorem dX5_won_83 : decode cX5_won 83 = .ok (.iload 4, 2) := by decide +kernel
theorem dX5_won_85 : decode cX5_won 85 = .ok (.iaload, 1) := by decide +kernel
theorem dX5_won_86 : decode cX5_won 86 = .ok (.if_icmp .ne 29, 3) := by decide +kernel
theorem dX5_won_89 : decode cX5_won 89 = .ok (.iload_n 3, 1) := by decide +kernel
theorem dX5_won_90 : decode cX5_won 90 = .ok (.ifCond .eq 17, 3) := by decide +kernel
theorem dX5_won_93 : decode cX5_won 93 = .ok (.aload_n 0, 1) := by decide +kernel
theorem dX5_won_94 : decode cX5_won 94 = .ok (.getfield 7, 3) := by decide +kernel
theorem dX5_won_97 : decode cX5_won 97 = .ok (.iload 4, 2) := by decide +kernel
theorem dX5_won_99 : decode cX5_won 99 = .ok (.iaload, 1) := by decide +kernel
theorem dX5_won_100 : decode cX5_won 100 = .ok (.iload_n 3, 1) := by decide +kernel
theorem dX5_won_101 : decode cX5_won 101 = .ok (.invokestatic 160, 3) := by decide +kernel
theorem dX5_won_104 : decode cX5_won 104 = .ok (.ifCond .eq 11, 3) := by decide +kernel
theorem dX5_won_107 : decode cX5_won 107 = .ok (.aload_n 0, 1) := by decide +kernel
theorem dX5_won_108 : decode cX5_won 108 = .ok (.getfield 7, 3) := by decide +kernel
theorem dX5_won_111 : decode cX5_won 111 = .ok (.iload 4, 2) := by decide +kernel
theorem dX5_won_113 : decode cX5_won 113 = .ok (.iaload, 1) := by decide +kernel
theorem dX5_won_114 : decode cX5_won 114 = .ok (.istore_n 3, 1) := by decide +kernel
theorem dX5_won_115 : decode cX5_won 115 = .ok (.iinc 4 1, 3) := by decide +kernel
theorem dX5_won_118 : decode cX5_won 118 = .ok (.goto (-57), 3) := by decide +kernel
theorem dX5_won_121 : decode cX5_won 121 = .ok (.iload_n 3, 1) := by decide +kernel
theorem dX5_won_122 : decode cX5_won 122 = .ok (.iload_n 1, 1) := by decide +kernel
theorem dX5_won_123 : decode cX5_won 123 = .ok (.invokestatic 157, 3) := by decide +kernel
theorem dX5_won_126 : decode cX5_won 126 = .ok (.ireturn, 1) := by decide +kernel
end
section
/-! the instructions, decoded -/
theorem dX5_worth_0 : decode cX5_worth 0 = .ok (.aload_n 0, 1) := by decide +kernel
theorem dX5_worth_1 : decode cX5_worth 1 = .ok (.invokevirtual 150, 3) := by decide +kernel
theorem dX5_worth_4 : decode cX5_worth 4 = .ok (.ifCond .eq 9, 3) := by decide +kernel
theorem dX5_worth_7 : decode cX5_worth 7 = .ok (.sipush (-201), 3) := by decide +kernel
theorem dX5_worth_10 : decode cX5_worth 10 = .ok (.goto 12, 3) := by decide +kernel
theorem dX5_worth_13 : decode cX5_worth 13 = .ok (.aload_n 0, 1) := by decide +kernel
theorem dX5_worth_14 : decode cX5_worth 14 = .ok (.getfield 14, 3) := by decide +kernel
theorem dX5_worth_17 : decode cX5_worth 17 = .ok (.aload_n 0, 1) := by decide +kernel
theorem dX5_worth_18 : decode cX5_worth 18 = .ok (.getfield 144, 3) := by decide +kernel
theorem dX5_worth_21 : decode cX5_worth 21 = .ok (.baload, 1) := by decide +kernel
theorem dX5_worth_22 : decode cX5_worth 22 = .ok (.ireturn, 1) := by decide +kernel
theorem dX5_worthOf_0 : decode cX5_worthOf 0 = .ok (.aload_n 0, 1) := by decide +kernel
theorem dX5_worthOf_1 : decode cX5_worthOf 1 = .ok (.invokevirtual 150, 3) := by decide +kernel
theorem dX5_worthOf_4 : decode cX5_worthOf 4 = .ok (.ifCond .eq 7, 3) := by decide +kernel
theorem dX5_worthOf_7 : decode cX5_worthOf 7 = .ok (.sipush (-201), 3) := by decide +kernel
theorem dX5_worthOf_10 : decode cX5_worthOf 10 = .ok (.ireturn, 1) := by decide +kernel
theorem dX5_worthOf_11 : decode cX5_worthOf 11 = .ok (.aload_n 0, 1) := by decide +kernel
theorem dX5_worthOf_12 : decode cX5_worthOf 12 = .ok (.iload_n 1, 1) := by decide +kernel
theorem dX5_worthOf_13 : decode cX5_worthOf 13 = .ok (.invokevirtual 147, 3) := by decide +kernel
theorem dX5_worthOf_16 : decode cX5_worthOf 16 = .ok (.ifCond .eq 21, 3) := by decide +kernel
theorem dX5_worthOf_19 : decode cX5_worthOf 19 = .ok (.aload_n 0, 1) := by decide +kernel
theorem dX5_worthOf_20 : decode cX5_worthOf 20 = .ok (.aload_n 0, 1) := by decide +kernel
theorem dX5_worthOf_21 : decode cX5_worthOf 21 = .ok (.getfield 144, 3) := by decide +kernel
theorem dX5_worthOf_24 : decode cX5_worthOf 24 = .ok (.iload_n 1, 1) := by decide +kernel
theorem dX5_worthOf_25 : decode cX5_worthOf 25 = .ok (.aload_n 0, 1) := by decide +kernel
theorem dX5_worthOf_26 : decode cX5_worthOf 26 = .ok (.getfield 96, 3) := by decide +kernel
theorem dX5_worthOf_29 : decode cX5_worthOf 29 = .ok (.iconst 2, 1) := by decide +kernel
theorem dX5_worthOf_30 : decode cX5_worthOf 30 = .ok (.irem, 1) := by decide +kernel
theorem dX5_worthOf_31 : decode cX5_worthOf 31 = .ok (.invokevirtual 138, 3) := by decide +kernel
theorem dX5_worthOf_34 : decode cX5_worthOf 34 = .ok (.goto 6, 3) := by decide +kernel
theorem dX5_worthOf_37 : decode cX5_worthOf 37 = .ok (.sipush (-200), 3) := by decide +kernel
theorem dX5_worthOf_40 : decode cX5_worthOf 40 = .ok (.ireturn, 1) := by decide +kernel
theorem dX5_bestMove_0 : decode cX5_bestMove 0 = .ok (.iconst 0, 1) := by decide +kernel
theorem dX5_bestMove_1 : decode cX5_bestMove 1 = .ok (.istore_n 1, 1) := by decide +kernel
theorem dX5_bestMove_2 : decode cX5_bestMove 2 = .ok (.aload_n 0, 1) := by decide +kernel
theorem dX5_bestMove_3 : decode cX5_bestMove 3 = .ok (.iload_n 1, 1) := by decide +kernel
theorem dX5_bestMove_4 : decode cX5_bestMove 4 = .ok (.invokevirtual 147, 3) := by decide +kernel
theorem dX5_bestMove_7 : decode cX5_bestMove 7 = .ok (.ifCond .eq 30, 3) := by decide +kernel
theorem dX5_bestMove_10 : decode cX5_bestMove 10 = .ok (.aload_n 0, 1) := by decide +kernel
theorem dX5_bestMove_11 : decode cX5_bestMove 11 = .ok (.aload_n 0, 1) := by decide +kernel
theorem dX5_bestMove_12 : decode cX5_bestMove 12 = .ok (.getfield 144, 3) := by decide +kernel
theorem dX5_bestMove_15 : decode cX5_bestMove 15 = .ok (.iload_n 1, 1) := by decide +kernel
theorem dX5_bestMove_16 : decode cX5_bestMove 16 = .ok (.aload_n 0, 1) := by decide +kernel
theorem dX5_bestMove_17 : decode cX5_bestMove 17 = .ok (.getfield 96, 3) := by decide +kernel
theorem dX5_bestMove_20 : decode cX5_bestMove 20 = .ok (.iconst 2, 1) := by decide +kernel
theorem dX5_bestMove_21 : decode cX5_bestMove 21 = .ok (.irem, 1) := by decide +kernel
theorem dX5_bestMove_22 : decode cX5_bestMove 22 = .ok (.invokevirtual 138, 3) := by decide +kernel
theorem dX5_bestMove_25 : decode cX5_bestMove 25 = .ok (.aload_n 0, 1) := by decide +kernel
theorem dX5_bestMove_26 : decode cX5_bestMove 26 = .ok (.getfield 14, 3) := by decide +kernel
theorem dX5_bestMove_29 : decode cX5_bestMove 29 = .ok (.aload_n 0, 1) := by decide +kernel
theorem dX5_bestMove_30 : decode cX5_bestMove 30 = .ok (.getfield 144, 3) := by decide +kernel
theorem dX5_bestMove_33 : decode cX5_bestMove 33 = .ok (.baload, 1) := by decide +kernel
theorem dX5_bestMove_34 : decode cX5_bestMove 34 = .ok (.if_icmp .eq 9, 3) := by decide +kernel
theorem dX5_bestMove_37 : decode cX5_bestMove 37 = .ok (.iinc 1 1, 3) := by decide +kernel
theorem dX5_bestMove_40 : decode cX5_bestMove 40 = .ok (.goto (-38), 3) := by decide +kernel
theorem dX5_bestMove_43 : decode cX5_bestMove 43 = .ok (.iload_n 1, 1) := by decide +kernel
theorem dX5_bestMove_44 : decode cX5_bestMove 44 = .ok (.ireturn, 1) := by decide +kernel
theorem dX5_best_0 : decode cX5_best 0 = .ok (.aload_n 0, 1) := by decide +kernel
theorem dX5_best_1 : decode cX5_best 1 = .ok (.invokevirtual 150, 3) := by decide +kernel
theorem dX5_best_4 : decode cX5_best 4 = .ok (.ifCond .eq 9, 3) := by decide +kernel
theorem dX5_best_7 : decode cX5_best 7 = .ok (.sipush (-201), 3) := by decide +kernel
theorem dX5_best_10 : decode cX5_best 10 = .ok (.goto 7, 3) := by decide +kernel
theorem dX5_best_13 : decode cX5_best 13 = .ok (.aload_n 0, 1) := by decide +kernel
theorem dX5_best_14 : decode cX5_best 14 = .ok (.invokevirtual 164, 3) := by decide +kernel
theorem dX5_best_17 : decode cX5_best 17 = .ok (.ireturn, 1) := by decide +kernel
theorem dX5_as_0 : decode cX5_as 0 = .ok (.aload_n 0, 1) := by decide +kernel
theorem dX5_as_1 : decode cX5_as 1 = .ok (.invokevirtual 150, 3) := by decide +kernel
theorem dX5_as_4 : decode cX5_as 4 = .ok (.ifCond .eq 7, 3) := by decide +kernel
theorem dX5_as_7 : decode cX5_as 7 = .ok (.sipush (-201), 3) := by decide +kernel
theorem dX5_as_10 : decode cX5_as 10 = .ok (.ireturn, 1) := by decide +kernel
theorem dX5_as_11 : decode cX5_as 11 = .ok (.iconst 0, 1) := by decide +kernel
theorem dX5_as_12 : decode cX5_as 12 = .ok (.istore_n 1, 1) := by decide +kernel
theorem dX5_as_13 : decode cX5_as 13 = .ok (.iconst 0, 1) := by decide +kernel
theorem dX5_as_14 : decode cX5_as 14 = .ok (.istore_n 2, 1) := by decide +kernel
theorem dX5_as_15 : decode cX5_as 15 = .ok (.iload_n 2, 1) := by decide +kernel
theorem dX5_as_16 : decode cX5_as 16 = .ok (.aload_n 0, 1) := by decide +kernel
theorem dX5_as_17 : decode cX5_as 17 = .ok (.getfield 74, 3) := by decide +kernel
theorem dX5_as_20 : decode cX5_as 20 = .ok (.if_icmp .ge 52, 3) := by decide +kernel
theorem dX5_as_23 : decode cX5_as 23 = .ok (.iload_n 1, 1) := by decide +kernel
theorem dX5_as_24 : decode cX5_as 24 = .ok (.aload_n 0, 1) := by decide +kernel
theorem dX5_as_25 : decode cX5_as 25 = .ok (.iload_n 2, 1) := by decide +kernel
theorem dX5_as_26 : decode cX5_as 26 = .ok (.invokevirtual 147, 3) := by decide +kernel
theorem dX5_as_29 : decode cX5_as 29 = .ok (.ifCond .eq 34, 3) := by decide +kernel
theorem dX5_as_32 : decode cX5_as 32 = .ok (.aload_n 0, 1) := by decide +kernel
theorem dX5_as_33 : decode cX5_as 33 = .ok (.aload_n 0, 1) := by decide +kernel
theorem dX5_as_34 : decode cX5_as 34 = .ok (.getfield 144, 3) := by decide +kernel
theorem dX5_as_37 : decode cX5_as 37 = .ok (.iload_n 2, 1) := by decide +kernel
theorem dX5_as_38 : decode cX5_as 38 = .ok (.aload_n 0, 1) := by decide +kernel
theorem dX5_as_39 : decode cX5_as 39 = .ok (.getfield 96, 3) := by decide +kernel
theorem dX5_as_42 : decode cX5_as 42 = .ok (.iconst 2, 1) := by decide +kernel
theorem dX5_as_43 : decode cX5_as 43 = .ok (.irem, 1) := by decide +kernel
theorem dX5_as_44 : decode cX5_as 44 = .ok (.invokevirtual 138, 3) := by decide +kernel
theorem dX5_as_47 : decode cX5_as 47 = .ok (.aload_n 0, 1) := by decide +kernel
theorem dX5_as_48 : decode cX5_as 48 = .ok (.getfield 14, 3) := by decide +kernel
theorem dX5_as_51 : decode cX5_as 51 = .ok (.aload_n 0, 1) := by decide +kernel
theorem dX5_as_52 : decode cX5_as 52 = .ok (.getfield 144, 3) := by decide +kernel
theorem dX5_as_55 : decode cX5_as 55 = .ok (.baload, 1) := by decide +kernel
theorem dX5_as_56 : decode cX5_as 56 = .ok (.if_icmp .ne 7, 3) := by decide +kernel
theorem dX5_as_59 : decode cX5_as 59 = .ok (.iconst 1, 1) := by decide +kernel
theorem dX5_as_60 : decode cX5_as 60 = .ok (.goto 4, 3) := by decide +kernel
theorem dX5_as_63 : decode cX5_as 63 = .ok (.iconst 0, 1) := by decide +kernel
theorem dX5_as_64 : decode cX5_as 64 = .ok (.iadd, 1) := by decide +kernel
theorem dX5_as_65 : decode cX5_as 65 = .ok (.istore_n 1, 1) := by decide +kernel
theorem dX5_as_66 : decode cX5_as 66 = .ok (.iinc 2 1, 3) := by decide +kernel
theorem dX5_as_69 : decode cX5_as 69 = .ok (.goto (-54), 3) := by decide +kernel
theorem dX5_as_72 : decode cX5_as 72 = .ok (.iload_n 1, 1) := by decide +kernel
theorem dX5_as_73 : decode cX5_as 73 = .ok (.ireturn, 1) := by decide +kernel
theorem dX5_play_0 : decode cX5_play 0 = .ok (.aload_n 0, 1) := by decide +kernel
theorem dX5_play_1 : decode cX5_play 1 = .ok (.invokevirtual 150, 3) := by decide +kernel
theorem dX5_play_4 : decode cX5_play 4 = .ok (.ifCond .eq 7, 3) := by decide +kernel
theorem dX5_play_7 : decode cX5_play 7 = .ok (.sipush (-201), 3) := by decide +kernel
theorem dX5_play_10 : decode cX5_play 10 = .ok (.ireturn, 1) := by decide +kernel
theorem dX5_play_11 : decode cX5_play 11 = .ok (.iconst 0, 1) := by decide +kernel
theorem dX5_play_12 : decode cX5_play 12 = .ok (.istore_n 1, 1) := by decide +kernel
theorem dX5_play_13 : decode cX5_play 13 = .ok (.aload_n 0, 1) := by decide +kernel
theorem dX5_play_14 : decode cX5_play 14 = .ok (.invokevirtual 150, 3) := by decide +kernel
theorem dX5_play_17 : decode cX5_play 17 = .ok (.ifCond .ne 17, 3) := by decide +kernel
theorem dX5_play_20 : decode cX5_play 20 = .ok (.aload_n 0, 1) := by decide +kernel
theorem dX5_play_21 : decode cX5_play 21 = .ok (.aload_n 0, 1) := by decide +kernel
theorem dX5_play_22 : decode cX5_play 22 = .ok (.invokevirtual 164, 3) := by decide +kernel
theorem dX5_play_25 : decode cX5_play 25 = .ok (.invokevirtual 154, 3) := by decide +kernel
theorem dX5_play_28 : decode cX5_play 28 = .ok (.iinc 1 1, 3) := by decide +kernel
theorem dX5_play_31 : decode cX5_play 31 = .ok (.goto (-18), 3) := by decide +kernel
theorem dX5_play_34 : decode cX5_play 34 = .ok (.iload_n 1, 1) := by decide +kernel
theorem dX5_play_35 : decode cX5_play 35 = .ok (.ireturn, 1) := by decide +kernel
theorem dX5_positions_0 : decode cX5_positions 0 = .ok (.iload_n 1, 1) := by decide +kernel
theorem dX5_positions_1 : decode cX5_positions 1 = .ok (.i2l, 1) := by decide +kernel
theorem dX5_positions_2 : decode cX5_positions 2 = .ok (.lconst 0, 1) := by decide +kernel
theorem dX5_positions_3 : decode cX5_positions 3 = .ok (.aload_n 0, 1) := by decide +kernel
theorem dX5_positions_4 : decode cX5_positions 4 = .ok (.getfield 74, 3) := by decide +kernel
theorem dX5_positions_7 : decode cX5_positions 7 = .ok (.aload_n 0, 1) := by decide +kernel
theorem dX5_positions_8 : decode cX5_positions 8 = .ok (.getfield 77, 3) := by decide +kernel
theorem dX5_positions_11 : decode cX5_positions 11 = .ok (.imul, 1) := by decide +kernel
theorem dX5_positions_12 : decode cX5_positions 12 = .ok (.i2l, 1) := by decide +kernel
theorem dX5_positions_13 : decode cX5_positions 13 = .ok (.invokestatic 57, 3) := by decide +kernel
theorem dX5_positions_16 : decode cX5_positions 16 = .ok (.ifCond .eq 12, 3) := by decide +kernel
theorem dX5_positions_19 : decode cX5_positions 19 = .ok (.aload_n 0, 1) := by decide +kernel
theorem dX5_positions_20 : decode cX5_positions 20 = .ok (.getfield 18, 3) := by decide +kernel
theorem dX5_positions_23 : decode cX5_positions 23 = .ok (.iload_n 1, 1) := by decide +kernel
theorem dX5_positions_24 : decode cX5_positions 24 = .ok (.iaload, 1) := by decide +kernel
theorem dX5_positions_25 : decode cX5_positions 25 = .ok (.goto 6, 3) := by decide +kernel
theorem dX5_positions_28 : decode cX5_positions 28 = .ok (.sipush (-200), 3) := by decide +kernel
theorem dX5_positions_31 : decode cX5_positions 31 = .ok (.ireturn, 1) := by decide +kernel
theorem dX5_wins_0 : decode cX5_wins 0 = .ok (.iload_n 1, 1) := by decide +kernel
theorem dX5_wins_1 : decode cX5_wins 1 = .ok (.i2l, 1) := by decide +kernel
theorem dX5_wins_2 : decode cX5_wins 2 = .ok (.lconst 0, 1) := by decide +kernel
theorem dX5_wins_3 : decode cX5_wins 3 = .ok (.aload_n 0, 1) := by decide +kernel
theorem dX5_wins_4 : decode cX5_wins 4 = .ok (.getfield 74, 3) := by decide +kernel
theorem dX5_wins_7 : decode cX5_wins 7 = .ok (.aload_n 0, 1) := by decide +kernel
theorem dX5_wins_8 : decode cX5_wins 8 = .ok (.getfield 77, 3) := by decide +kernel
theorem dX5_wins_11 : decode cX5_wins 11 = .ok (.imul, 1) := by decide +kernel
theorem dX5_wins_12 : decode cX5_wins 12 = .ok (.i2l, 1) := by decide +kernel
theorem dX5_wins_13 : decode cX5_wins 13 = .ok (.invokestatic 57, 3) := by decide +kernel
theorem dX5_wins_16 : decode cX5_wins 16 = .ok (.ifCond .eq 12, 3) := by decide +kernel
theorem dX5_wins_19 : decode cX5_wins 19 = .ok (.aload_n 0, 1) := by decide +kernel
theorem dX5_wins_20 : decode cX5_wins 20 = .ok (.getfield 21, 3) := by decide +kernel
theorem dX5_wins_23 : decode cX5_wins 23 = .ok (.iload_n 1, 1) := by decide +kernel
theorem dX5_wins_24 : decode cX5_wins 24 = .ok (.iaload, 1) := by decide +kernel
theorem dX5_wins_25 : decode cX5_wins 25 = .ok (.goto 6, 3) := by decide +kernel
theorem dX5_wins_28 : decode cX5_wins 28 = .ok (.sipush (-200), 3) := by decide +kernel
theorem dX5_wins_31 : decode cX5_wins 31 = .ok (.ireturn, 1) := by decide +kernel
theorem dX5_share_0 : decode cX5_share 0 = .ok (.iload_n 1, 1) := by decide +kernel
theorem dX5_share_1 : decode cX5_share 1 = .ok (.i2l, 1) := by decide +kernel
theorem dX5_share_2 : decode cX5_share 2 = .ok (.lconst 0, 1) := by decide +kernel
theorem dX5_share_3 : decode cX5_share 3 = .ok (.aload_n 0, 1) := by decide +kernel
theorem dX5_share_4 : decode cX5_share 4 = .ok (.getfield 74, 3) := by decide +kernel
theorem dX5_share_7 : decode cX5_share 7 = .ok (.aload_n 0, 1) := by decide +kernel
theorem dX5_share_8 : decode cX5_share 8 = .ok (.getfield 77, 3) := by decide +kernel
theorem dX5_share_11 : decode cX5_share 11 = .ok (.imul, 1) := by decide +kernel
theorem dX5_share_12 : decode cX5_share 12 = .ok (.i2l, 1) := by decide +kernel
theorem dX5_share_13 : decode cX5_share 13 = .ok (.invokestatic 57, 3) := by decide +kernel
theorem dX5_share_16 : decode cX5_share 16 = .ok (.ifCond .eq 15, 3) := by decide +kernel
theorem dX5_share_19 : decode cX5_share 19 = .ok (.iload_n 2, 1) := by decide +kernel
theorem dX5_share_20 : decode cX5_share 20 = .ok (.i2l, 1) := by decide +kernel
theorem dX5_share_21 : decode cX5_share 21 = .ok (.ldc2_w 167, 3) := by decide +kernel
theorem dX5_share_24 : decode cX5_share 24 = .ok (.lconst 1, 1) := by decide +kernel
theorem dX5_share_25 : decode cX5_share 25 = .ok (.invokestatic 57, 3) := by decide +kernel
theorem dX5_share_28 : decode cX5_share 28 = .ok (.ifCond .ne 7, 3) := by decide +kernel
theorem dX5_share_31 : decode cX5_share 31 = .ok (.sipush (-200), 3) := by decide +kernel
theorem dX5_share_34 : decode cX5_share 34 = .ok (.ireturn, 1) := by decide +kernel
theorem dX5_share_35 : decode cX5_share 35 = .ok (.iload_n 2, 1) := by decide +kernel
theorem dX5_share_36 : decode cX5_share 36 = .ok (.ifCond .le 12, 3) := by decide +kernel
theorem dX5_share_39 : decode cX5_share 39 = .ok (.aload_n 0, 1) := by decide +kernel
theorem dX5_share_40 : decode cX5_share 40 = .ok (.getfield 24, 3) := by decide +kernel
theorem dX5_share_43 : decode cX5_share 43 = .ok (.iload_n 1, 1) := by decide +kernel
theorem dX5_share_44 : decode cX5_share 44 = .ok (.iaload, 1) := by decide +kernel
theorem dX5_share_45 : decode cX5_share 45 = .ok (.goto 22, 3) := by decide +kernel
theorem dX5_share_48 : decode cX5_share 48 = .ok (.iload_n 2, 1) := by decide +kernel
theorem dX5_share_49 : decode cX5_share 49 = .ok (.ifCond .ne 12, 3) := by decide +kernel
theorem dX5_share_52 : decode cX5_share 52 = .ok (.aload_n 0, 1) := by decide +kernel
theorem dX5_share_53 : decode cX5_share 53 = .ok (.getfield 27, 3) := by decide +kernel
theorem dX5_share_56 : decode cX5_share 56 = .ok (.iload_n 1, 1) := by decide +kernel
theorem dX5_share_57 : decode cX5_share 57 = .ok (.iaload, 1) := by decide +kernel
theorem dX5_share_58 : decode cX5_share 58 = .ok (.goto 9, 3) := by decide +kernel
theorem dX5_share_61 : decode cX5_share 61 = .ok (.aload_n 0, 1) := by decide +kernel
theorem dX5_share_62 : decode cX5_share 62 = .ok (.getfield 30, 3) := by decide +kernel
theorem dX5_share_65 : decode cX5_share 65 = .ok (.iload_n 1, 1) := by decide +kernel
theorem dX5_share_66 : decode cX5_share 66 = .ok (.iaload, 1) := by decide +kernel
theorem dX5_share_67 : decode cX5_share 67 = .ok (.ireturn, 1) := by decide +kernel
theorem dX5_even_0 : decode cX5_even 0 = .ok (.iconst 1, 1) := by decide +kernel
theorem dX5_even_1 : decode cX5_even 1 = .ok (.istore_n 1, 1) := by decide +kernel
theorem dX5_even_2 : decode cX5_even 2 = .ok (.iconst 0, 1) := by decide +kernel
theorem dX5_even_3 : decode cX5_even 3 = .ok (.istore_n 2, 1) := by decide +kernel
theorem dX5_even_4 : decode cX5_even 4 = .ok (.iload_n 2, 1) := by decide +kernel
theorem dX5_even_5 : decode cX5_even 5 = .ok (.aload_n 0, 1) := by decide +kernel
theorem dX5_even_6 : decode cX5_even 6 = .ok (.getfield 74, 3) := by decide +kernel
theorem dX5_even_9 : decode cX5_even 9 = .ok (.if_icmp .ge 47, 3) := by decide +kernel
theorem dX5_even_12 : decode cX5_even 12 = .ok (.iload_n 1, 1) := by decide +kernel
theorem dX5_even_13 : decode cX5_even 13 = .ok (.ifCond .eq 35, 3) := by decide +kernel
theorem dX5_even_16 : decode cX5_even 16 = .ok (.aload_n 0, 1) := by decide +kernel
theorem dX5_even_17 : decode cX5_even 17 = .ok (.aload_n 0, 1) := by decide +kernel
theorem dX5_even_18 : decode cX5_even 18 = .ok (.getfield 144, 3) := by decide +kernel
theorem dX5_even_21 : decode cX5_even 21 = .ok (.iload_n 2, 1) := by decide +kernel
theorem dX5_even_22 : decode cX5_even 22 = .ok (.invokevirtual 110, 3) := by decide +kernel
theorem dX5_even_25 : decode cX5_even 25 = .ok (.aload_n 0, 1) := by decide +kernel
theorem dX5_even_26 : decode cX5_even 26 = .ok (.aload_n 0, 1) := by decide +kernel
theorem dX5_even_27 : decode cX5_even 27 = .ok (.getfield 144, 3) := by decide +kernel
theorem dX5_even_30 : decode cX5_even 30 = .ok (.aload_n 0, 1) := by decide +kernel
theorem dX5_even_31 : decode cX5_even 31 = .ok (.getfield 74, 3) := by decide +kernel
theorem dX5_even_34 : decode cX5_even 34 = .ok (.iconst 1, 1) := by decide +kernel
theorem dX5_even_35 : decode cX5_even 35 = .ok (.isub, 1) := by decide +kernel
theorem dX5_even_36 : decode cX5_even 36 = .ok (.iload_n 2, 1) := by decide +kernel
theorem dX5_even_37 : decode cX5_even 37 = .ok (.isub, 1) := by decide +kernel
theorem dX5_even_38 : decode cX5_even 38 = .ok (.invokevirtual 110, 3) := by decide +kernel
theorem dX5_even_41 : decode cX5_even 41 = .ok (.if_icmp .ne 7, 3) := by decide +kernel
theorem dX5_even_44 : decode cX5_even 44 = .ok (.iconst 1, 1) := by decide +kernel
theorem dX5_even_45 : decode cX5_even 45 = .ok (.goto 4, 3) := by decide +kernel
theorem dX5_even_48 : decode cX5_even 48 = .ok (.iconst 0, 1) := by decide +kernel
theorem dX5_even_49 : decode cX5_even 49 = .ok (.istore_n 1, 1) := by decide +kernel
theorem dX5_even_50 : decode cX5_even 50 = .ok (.iinc 2 1, 3) := by decide +kernel
theorem dX5_even_53 : decode cX5_even 53 = .ok (.goto (-49), 3) := by decide +kernel
theorem dX5_even_56 : decode cX5_even 56 = .ok (.iload_n 1, 1) := by decide +kernel
theorem dX5_even_57 : decode cX5_even 57 = .ok (.ifCond .eq 7, 3) := by decide +kernel
theorem dX5_even_60 : decode cX5_even 60 = .ok (.iconst 1, 1) := by decide +kernel
theorem dX5_even_61 : decode cX5_even 61 = .ok (.goto 4, 3) := by decide +kernel
theorem dX5_even_64 : decode cX5_even 64 = .ok (.iconst 0, 1) := by decide +kernel
theorem dX5_even_65 : decode cX5_even 65 = .ok (.ireturn, 1) := by decide +kernel
theorem dX5_threatsOf_0 : decode cX5_threatsOf 0 = .ok (.iconst 0, 1) := by decide +kernel
theorem dX5_threatsOf_1 : decode cX5_threatsOf 1 = .ok (.istore_n 2, 1) := by decide +kernel
theorem dX5_threatsOf_2 : decode cX5_threatsOf 2 = .ok (.iconst 0, 1) := by decide +kernel
theorem dX5_threatsOf_3 : decode cX5_threatsOf 3 = .ok (.istore_n 3, 1) := by decide +kernel
theorem dX5_threatsOf_4 : decode cX5_threatsOf 4 = .ok (.iload_n 3, 1) := by decide +kernel
theorem dX5_threatsOf_5 : decode cX5_threatsOf 5 = .ok (.aload_n 0, 1) := by decide +kernel
theorem dX5_threatsOf_6 : decode cX5_threatsOf 6 = .ok (.getfield 74, 3) := by decide +kernel
theorem dX5_threatsOf_9 : decode cX5_threatsOf 9 = .ok (.aload_n 0, 1) := by decide +kernel
theorem dX5_threatsOf_10 : decode cX5_threatsOf 10 = .ok (.getfield 77, 3) := by decide +kernel
theorem dX5_threatsOf_13 : decode cX5_threatsOf 13 = .ok (.imul, 1) := by decide +kernel
theorem dX5_threatsOf_14 : decode cX5_threatsOf 14 = .ok (.if_icmp .ge 70, 3) := by decide +kernel
theorem dX5_threatsOf_17 : decode cX5_threatsOf 17 = .ok (.iconst 1, 1) := by decide +kernel
theorem dX5_threatsOf_18 : decode cX5_threatsOf 18 = .ok (.iload_n 3, 1) := by decide +kernel
theorem dX5_threatsOf_19 : decode cX5_threatsOf 19 = .ok (.ishl, 1) := by decide +kernel
theorem dX5_threatsOf_20 : decode cX5_threatsOf 20 = .ok (.istore 4, 2) := by decide +kernel
theorem dX5_threatsOf_22 : decode cX5_threatsOf 22 = .ok (.aload_n 0, 1) := by decide +kernel
theorem dX5_threatsOf_23 : decode cX5_threatsOf 23 = .ok (.getfield 33, 3) := by decide +kernel
theorem dX5_threatsOf_26 : decode cX5_threatsOf 26 = .ok (.iconst 0, 1) := by decide +kernel
theorem dX5_threatsOf_27 : decode cX5_threatsOf 27 = .ok (.iaload, 1) := by decide +kernel
theorem dX5_threatsOf_28 : decode cX5_threatsOf 28 = .ok (.aload_n 0, 1) := by decide +kernel
theorem dX5_threatsOf_29 : decode cX5_threatsOf 29 = .ok (.getfield 33, 3) := by decide +kernel
theorem dX5_threatsOf_32 : decode cX5_threatsOf 32 = .ok (.iconst 1, 1) := by decide +kernel
theorem dX5_threatsOf_33 : decode cX5_threatsOf 33 = .ok (.iaload, 1) := by decide +kernel
theorem dX5_threatsOf_34 : decode cX5_threatsOf 34 = .ok (.ior, 1) := by decide +kernel
theorem dX5_threatsOf_35 : decode cX5_threatsOf 35 = .ok (.iload 4, 2) := by decide +kernel
theorem dX5_threatsOf_37 : decode cX5_threatsOf 37 = .ok (.iand, 1) := by decide +kernel
theorem dX5_threatsOf_38 : decode cX5_threatsOf 38 = .ok (.ifCond .ne 7, 3) := by decide +kernel
theorem dX5_threatsOf_41 : decode cX5_threatsOf 41 = .ok (.iconst 1, 1) := by decide +kernel
theorem dX5_threatsOf_42 : decode cX5_threatsOf 42 = .ok (.goto 4, 3) := by decide +kernel
theorem dX5_threatsOf_45 : decode cX5_threatsOf 45 = .ok (.iconst 0, 1) := by decide +kernel
theorem dX5_threatsOf_46 : decode cX5_threatsOf 46 = .ok (.istore 5, 2) := by decide +kernel
theorem dX5_threatsOf_48 : decode cX5_threatsOf 48 = .ok (.iload_n 2, 1) := by decide +kernel
theorem dX5_threatsOf_49 : decode cX5_threatsOf 49 = .ok (.iload 5, 2) := by decide +kernel
theorem dX5_threatsOf_51 : decode cX5_threatsOf 51 = .ok (.ifCond .eq 24, 3) := by decide +kernel
theorem dX5_threatsOf_54 : decode cX5_threatsOf 54 = .ok (.aload_n 0, 1) := by decide +kernel
theorem dX5_threatsOf_55 : decode cX5_threatsOf 55 = .ok (.aload_n 0, 1) := by decide +kernel
theorem dX5_threatsOf_56 : decode cX5_threatsOf 56 = .ok (.getfield 33, 3) := by decide +kernel
theorem dX5_threatsOf_59 : decode cX5_threatsOf 59 = .ok (.iload_n 1, 1) := by decide +kernel
theorem dX5_threatsOf_60 : decode cX5_threatsOf 60 = .ok (.iaload, 1) := by decide +kernel
theorem dX5_threatsOf_61 : decode cX5_threatsOf 61 = .ok (.iload 4, 2) := by decide +kernel
theorem dX5_threatsOf_63 : decode cX5_threatsOf 63 = .ok (.ior, 1) := by decide +kernel
theorem dX5_threatsOf_64 : decode cX5_threatsOf 64 = .ok (.invokevirtual 130, 3) := by decide +kernel
theorem dX5_threatsOf_67 : decode cX5_threatsOf 67 = .ok (.ifCond .eq 8, 3) := by decide +kernel
theorem dX5_threatsOf_70 : decode cX5_threatsOf 70 = .ok (.iload 4, 2) := by decide +kernel
theorem dX5_threatsOf_72 : decode cX5_threatsOf 72 = .ok (.goto 4, 3) := by decide +kernel
theorem dX5_threatsOf_75 : decode cX5_threatsOf 75 = .ok (.iconst 0, 1) := by decide +kernel
theorem dX5_threatsOf_76 : decode cX5_threatsOf 76 = .ok (.ior, 1) := by decide +kernel
theorem dX5_threatsOf_77 : decode cX5_threatsOf 77 = .ok (.istore_n 2, 1) := by decide +kernel
theorem dX5_threatsOf_78 : decode cX5_threatsOf 78 = .ok (.iinc 3 1, 3) := by decide +kernel
theorem dX5_threatsOf_81 : decode cX5_threatsOf 81 = .ok (.goto (-77), 3) := by decide +kernel
theorem dX5_threatsOf_84 : decode cX5_threatsOf 84 = .ok (.iload_n 2, 1) := by decide +kernel
theorem dX5_threatsOf_85 : decode cX5_threatsOf 85 = .ok (.ireturn, 1) := by decide +kernel
theorem dX5_threats_0 : decode cX5_threats 0 = .ok (.iload_n 1, 1) := by decide +kernel
theorem dX5_threats_1 : decode cX5_threats 1 = .ok (.i2l, 1) := by decide +kernel
theorem dX5_threats_2 : decode cX5_threats 2 = .ok (.lconst 0, 1) := by decide +kernel
theorem dX5_threats_3 : decode cX5_threats 3 = .ok (.lconst 1, 1) := by decide +kernel
theorem dX5_threats_4 : decode cX5_threats 4 = .ok (.invokestatic 57, 3) := by decide +kernel
theorem dX5_threats_7 : decode cX5_threats 7 = .ok (.ifCond .ne 7, 3) := by decide +kernel
theorem dX5_threats_10 : decode cX5_threats 10 = .ok (.sipush (-200), 3) := by decide +kernel
theorem dX5_threats_13 : decode cX5_threats 13 = .ok (.ireturn, 1) := by decide +kernel
theorem dX5_threats_14 : decode cX5_threats 14 = .ok (.aload_n 0, 1) := by decide +kernel
theorem dX5_threats_15 : decode cX5_threats 15 = .ok (.aload_n 0, 1) := by decide +kernel
theorem dX5_threats_16 : decode cX5_threats 16 = .ok (.getfield 144, 3) := by decide +kernel
theorem dX5_threats_19 : decode cX5_threats 19 = .ok (.invokevirtual 127, 3) := by decide +kernel
theorem dX5_threats_22 : decode cX5_threats 22 = .ok (.aload_n 0, 1) := by decide +kernel
theorem dX5_threats_23 : decode cX5_threats 23 = .ok (.iload_n 1, 1) := by decide +kernel
theorem dX5_threats_24 : decode cX5_threats 24 = .ok (.invokevirtual 169, 3) := by decide +kernel
theorem dX5_threats_27 : decode cX5_threats 27 = .ok (.istore_n 2, 1) := by decide +kernel
theorem dX5_threats_28 : decode cX5_threats 28 = .ok (.iconst 0, 1) := by decide +kernel
theorem dX5_threats_29 : decode cX5_threats 29 = .ok (.istore_n 3, 1) := by decide +kernel
theorem dX5_threats_30 : decode cX5_threats 30 = .ok (.iload_n 2, 1) := by decide +kernel
theorem dX5_threats_31 : decode cX5_threats 31 = .ok (.ifCond .eq 16, 3) := by decide +kernel
theorem dX5_threats_34 : decode cX5_threats 34 = .ok (.iload_n 3, 1) := by decide +kernel
theorem dX5_threats_35 : decode cX5_threats 35 = .ok (.iload_n 2, 1) := by decide +kernel
theorem dX5_threats_36 : decode cX5_threats 36 = .ok (.iconst 1, 1) := by decide +kernel
theorem dX5_threats_37 : decode cX5_threats 37 = .ok (.iand, 1) := by decide +kernel
theorem dX5_threats_38 : decode cX5_threats 38 = .ok (.iadd, 1) := by decide +kernel
theorem dX5_threats_39 : decode cX5_threats 39 = .ok (.istore_n 3, 1) := by decide +kernel
theorem dX5_threats_40 : decode cX5_threats 40 = .ok (.iload_n 2, 1) := by decide +kernel
theorem dX5_threats_41 : decode cX5_threats 41 = .ok (.iconst 1, 1) := by decide +kernel
theorem dX5_threats_42 : decode cX5_threats 42 = .ok (.ishr, 1) := by decide +kernel
theorem dX5_threats_43 : decode cX5_threats 43 = .ok (.istore_n 2, 1) := by decide +kernel
theorem dX5_threats_44 : decode cX5_threats 44 = .ok (.goto (-14), 3) := by decide +kernel
theorem dX5_threats_47 : decode cX5_threats 47 = .ok (.iload_n 3, 1) := by decide +kernel
theorem dX5_threats_48 : decode cX5_threats 48 = .ok (.ireturn, 1) := by decide +kernel
theorem dX5_threat_0 : decode cX5_threat 0 = .ok (.iload_n 1, 1) := by decide +kernel
theorem dX5_threat_1 : decode cX5_threat 1 = .ok (.i2l, 1) := by decide +kernel
theorem dX5_threat_2 : decode cX5_threat 2 = .ok (.lconst 0, 1) := by decide +kernel
theorem dX5_threat_3 : decode cX5_threat 3 = .ok (.lconst 1, 1) := by decide +kernel
theorem dX5_threat_4 : decode cX5_threat 4 = .ok (.invokestatic 57, 3) := by decide +kernel
theorem dX5_threat_7 : decode cX5_threat 7 = .ok (.ifCond .ne 7, 3) := by decide +kernel
theorem dX5_threat_10 : decode cX5_threat 10 = .ok (.sipush (-200), 3) := by decide +kernel
theorem dX5_threat_13 : decode cX5_threat 13 = .ok (.ireturn, 1) := by decide +kernel
theorem dX5_threat_14 : decode cX5_threat 14 = .ok (.aload_n 0, 1) := by decide +kernel
theorem dX5_threat_15 : decode cX5_threat 15 = .ok (.aload_n 0, 1) := by decide +kernel
theorem dX5_threat_16 : decode cX5_threat 16 = .ok (.getfield 144, 3) := by decide +kernel
theorem dX5_threat_19 : decode cX5_threat 19 = .ok (.invokevirtual 127, 3) := by decide +kernel
theorem dX5_threat_22 : decode cX5_threat 22 = .ok (.aload_n 0, 1) := by decide +kernel
theorem dX5_threat_23 : decode cX5_threat 23 = .ok (.iload_n 1, 1) := by decide +kernel
theorem dX5_threat_24 : decode cX5_threat 24 = .ok (.invokevirtual 169, 3) := by decide +kernel
theorem dX5_threat_27 : decode cX5_threat 27 = .ok (.iload_n 2, 1) := by decide +kernel
theorem dX5_threat_28 : decode cX5_threat 28 = .ok (.invokestatic 157, 3) := by decide +kernel
theorem dX5_threat_31 : decode cX5_threat 31 = .ok (.istore_n 3, 1) := by decide +kernel
theorem dX5_threat_32 : decode cX5_threat 32 = .ok (.iload_n 3, 1) := by decide +kernel
theorem dX5_threat_33 : decode cX5_threat 33 = .ok (.iconst (-1), 1) := by decide +kernel
theorem dX5_threat_34 : decode cX5_threat 34 = .ok (.if_icmp .ne 9, 3) := by decide +kernel
theorem dX5_threat_37 : decode cX5_threat 37 = .ok (.sipush (-200), 3) := by decide +kernel
theorem dX5_threat_40 : decode cX5_threat 40 = .ok (.goto 4, 3) := by decide +kernel
theorem dX5_threat_43 : decode cX5_threat 43 = .ok (.iload_n 3, 1) := by decide +kernel
theorem dX5_threat_44 : decode cX5_threat 44 = .ok (.ireturn, 1) := by decide +kernel
theorem dX5_sortOf_0 : decode cX5_sortOf 0 = .ok (.aload_n 0, 1) := by decide +kernel
theorem dX5_sortOf_1 : decode cX5_sortOf 1 = .ok (.iload_n 1, 1) := by decide +kernel
theorem dX5_sortOf_2 : decode cX5_sortOf 2 = .ok (.iload_n 2, 1) := by decide +kernel
theorem dX5_sortOf_3 : decode cX5_sortOf 3 = .ok (.invokevirtual 114, 3) := by decide +kernel
theorem dX5_sortOf_6 : decode cX5_sortOf 6 = .ok (.istore 5, 2) := by decide +kernel
theorem dX5_sortOf_8 : decode cX5_sortOf 8 = .ok (.iconst 1, 1) := by decide +kernel
theorem dX5_sortOf_9 : decode cX5_sortOf 9 = .ok (.aload_n 0, 1) := by decide +kernel
theorem dX5_sortOf_10 : decode cX5_sortOf 10 = .ok (.getfield 74, 3) := by decide +kernel
theorem dX5_sortOf_13 : decode cX5_sortOf 13 = .ok (.iload 5, 2) := by decide +kernel
theorem dX5_sortOf_15 : decode cX5_sortOf 15 = .ok (.imul, 1) := by decide +kernel
theorem dX5_sortOf_16 : decode cX5_sortOf 16 = .ok (.iload_n 2, 1) := by decide +kernel
theorem dX5_sortOf_17 : decode cX5_sortOf 17 = .ok (.iadd, 1) := by decide +kernel
theorem dX5_sortOf_18 : decode cX5_sortOf 18 = .ok (.ishl, 1) := by decide +kernel
theorem dX5_sortOf_19 : decode cX5_sortOf 19 = .ok (.istore 6, 2) := by decide +kernel
theorem dX5_sortOf_21 : decode cX5_sortOf 21 = .ok (.iload 5, 2) := by decide +kernel
theorem dX5_sortOf_23 : decode cX5_sortOf 23 = .ok (.iconst 1, 1) := by decide +kernel
theorem dX5_sortOf_24 : decode cX5_sortOf 24 = .ok (.iadd, 1) := by decide +kernel
theorem dX5_sortOf_25 : decode cX5_sortOf 25 = .ok (.aload_n 0, 1) := by decide +kernel
theorem dX5_sortOf_26 : decode cX5_sortOf 26 = .ok (.getfield 77, 3) := by decide +kernel
theorem dX5_sortOf_29 : decode cX5_sortOf 29 = .ok (.if_icmp .ge 19, 3) := by decide +kernel
theorem dX5_sortOf_32 : decode cX5_sortOf 32 = .ok (.iconst 1, 1) := by decide +kernel
theorem dX5_sortOf_33 : decode cX5_sortOf 33 = .ok (.aload_n 0, 1) := by decide +kernel
theorem dX5_sortOf_34 : decode cX5_sortOf 34 = .ok (.getfield 74, 3) := by decide +kernel
theorem dX5_sortOf_37 : decode cX5_sortOf 37 = .ok (.iload 5, 2) := by decide +kernel
theorem dX5_sortOf_39 : decode cX5_sortOf 39 = .ok (.iconst 1, 1) := by decide +kernel
theorem dX5_sortOf_40 : decode cX5_sortOf 40 = .ok (.iadd, 1) := by decide +kernel
theorem dX5_sortOf_41 : decode cX5_sortOf 41 = .ok (.imul, 1) := by decide +kernel
theorem dX5_sortOf_42 : decode cX5_sortOf 42 = .ok (.iload_n 2, 1) := by decide +kernel
theorem dX5_sortOf_43 : decode cX5_sortOf 43 = .ok (.iadd, 1) := by decide +kernel
theorem dX5_sortOf_44 : decode cX5_sortOf 44 = .ok (.ishl, 1) := by decide +kernel
theorem dX5_sortOf_45 : decode cX5_sortOf 45 = .ok (.goto 4, 3) := by decide +kernel
theorem dX5_sortOf_48 : decode cX5_sortOf 48 = .ok (.iconst 0, 1) := by decide +kernel
theorem dX5_sortOf_49 : decode cX5_sortOf 49 = .ok (.istore 7, 2) := by decide +kernel
theorem dX5_sortOf_51 : decode cX5_sortOf 51 = .ok (.iload_n 3, 1) := by decide +kernel
theorem dX5_sortOf_52 : decode cX5_sortOf 52 = .ok (.iload 6, 2) := by decide +kernel
theorem dX5_sortOf_54 : decode cX5_sortOf 54 = .ok (.iand, 1) := by decide +kernel
theorem dX5_sortOf_55 : decode cX5_sortOf 55 = .ok (.ifCond .eq 5, 3) := by decide +kernel
theorem dX5_sortOf_58 : decode cX5_sortOf 58 = .ok (.iconst 0, 1) := by decide +kernel
theorem dX5_sortOf_59 : decode cX5_sortOf 59 = .ok (.ireturn, 1) := by decide +kernel
theorem dX5_sortOf_60 : decode cX5_sortOf 60 = .ok (.iload 4, 2) := by decide +kernel
theorem dX5_sortOf_62 : decode cX5_sortOf 62 = .ok (.iload 6, 2) := by decide +kernel
theorem dX5_sortOf_64 : decode cX5_sortOf 64 = .ok (.iand, 1) := by decide +kernel
theorem dX5_sortOf_65 : decode cX5_sortOf 65 = .ok (.ifCond .eq 5, 3) := by decide +kernel
theorem dX5_sortOf_68 : decode cX5_sortOf 68 = .ok (.iconst 1, 1) := by decide +kernel
theorem dX5_sortOf_69 : decode cX5_sortOf 69 = .ok (.ireturn, 1) := by decide +kernel
theorem dX5_sortOf_70 : decode cX5_sortOf 70 = .ok (.iload_n 3, 1) := by decide +kernel
theorem dX5_sortOf_71 : decode cX5_sortOf 71 = .ok (.iload 4, 2) := by decide +kernel
theorem dX5_sortOf_73 : decode cX5_sortOf 73 = .ok (.ior, 1) := by decide +kernel
theorem dX5_sortOf_74 : decode cX5_sortOf 74 = .ok (.iload 7, 2) := by decide +kernel
theorem dX5_sortOf_76 : decode cX5_sortOf 76 = .ok (.iand, 1) := by decide +kernel
theorem dX5_sortOf_77 : decode cX5_sortOf 77 = .ok (.ifCond .ne 5, 3) := by decide +kernel
theorem dX5_sortOf_80 : decode cX5_sortOf 80 = .ok (.iconst 2, 1) := by decide +kernel
theorem dX5_sortOf_81 : decode cX5_sortOf 81 = .ok (.ireturn, 1) := by decide +kernel
theorem dX5_sortOf_82 : decode cX5_sortOf 82 = .ok (.iload 4, 2) := by decide +kernel
theorem dX5_sortOf_84 : decode cX5_sortOf 84 = .ok (.iload 7, 2) := by decide +kernel
theorem dX5_sortOf_86 : decode cX5_sortOf 86 = .ok (.iand, 1) := by decide +kernel
theorem dX5_sortOf_87 : decode cX5_sortOf 87 = .ok (.ifCond .ne 7, 3) := by decide +kernel
theorem dX5_sortOf_90 : decode cX5_sortOf 90 = .ok (.iconst 3, 1) := by decide +kernel
theorem dX5_sortOf_91 : decode cX5_sortOf 91 = .ok (.goto 4, 3) := by decide +kernel
theorem dX5_sortOf_94 : decode cX5_sortOf 94 = .ok (.iconst 4, 1) := by decide +kernel
theorem dX5_sortOf_95 : decode cX5_sortOf 95 = .ok (.ireturn, 1) := by decide +kernel
theorem dX5_waiting_0 : decode cX5_waiting 0 = .ok (.aload_n 0, 1) := by decide +kernel
theorem dX5_waiting_1 : decode cX5_waiting 1 = .ok (.invokevirtual 150, 3) := by decide +kernel
theorem dX5_waiting_4 : decode cX5_waiting 4 = .ok (.ifCond .eq 7, 3) := by decide +kernel
theorem dX5_waiting_7 : decode cX5_waiting 7 = .ok (.sipush (-201), 3) := by decide +kernel
theorem dX5_waiting_10 : decode cX5_waiting 10 = .ok (.ireturn, 1) := by decide +kernel
theorem dX5_waiting_11 : decode cX5_waiting 11 = .ok (.aload_n 0, 1) := by decide +kernel
theorem dX5_waiting_12 : decode cX5_waiting 12 = .ok (.getfield 144, 3) := by decide +kernel
theorem dX5_waiting_15 : decode cX5_waiting 15 = .ok (.istore_n 1, 1) := by decide +kernel
theorem dX5_waiting_16 : decode cX5_waiting 16 = .ok (.aload_n 0, 1) := by decide +kernel
theorem dX5_waiting_17 : decode cX5_waiting 17 = .ok (.getfield 96, 3) := by decide +kernel
theorem dX5_waiting_20 : decode cX5_waiting 20 = .ok (.istore_n 2, 1) := by decide +kernel
theorem dX5_waiting_21 : decode cX5_waiting 21 = .ok (.aload_n 0, 1) := by decide +kernel
theorem dX5_waiting_22 : decode cX5_waiting 22 = .ok (.getfield 14, 3) := by decide +kernel
theorem dX5_waiting_25 : decode cX5_waiting 25 = .ok (.iload_n 1, 1) := by decide +kernel
theorem dX5_waiting_26 : decode cX5_waiting 26 = .ok (.baload, 1) := by decide +kernel
theorem dX5_waiting_27 : decode cX5_waiting 27 = .ok (.bipush 127, 2) := by decide +kernel
theorem dX5_waiting_29 : decode cX5_waiting 29 = .ok (.if_icmp .eq 126, 3) := by decide +kernel
theorem dX5_waiting_32 : decode cX5_waiting 32 = .ok (.aload_n 0, 1) := by decide +kernel
theorem dX5_waiting_33 : decode cX5_waiting 33 = .ok (.getfield 14, 3) := by decide +kernel
theorem dX5_waiting_36 : decode cX5_waiting 36 = .ok (.iload_n 1, 1) := by decide +kernel
theorem dX5_waiting_37 : decode cX5_waiting 37 = .ok (.baload, 1) := by decide +kernel
theorem dX5_waiting_38 : decode cX5_waiting 38 = .ok (.bipush 126, 2) := by decide +kernel
theorem dX5_waiting_40 : decode cX5_waiting 40 = .ok (.if_icmp .eq 115, 3) := by decide +kernel
theorem dX5_waiting_43 : decode cX5_waiting 43 = .ok (.aload_n 0, 1) := by decide +kernel
theorem dX5_waiting_44 : decode cX5_waiting 44 = .ok (.iload_n 1, 1) := by decide +kernel
theorem dX5_waiting_45 : decode cX5_waiting 45 = .ok (.invokevirtual 127, 3) := by decide +kernel
theorem dX5_waiting_48 : decode cX5_waiting 48 = .ok (.iload_n 2, 1) := by decide +kernel
theorem dX5_waiting_49 : decode cX5_waiting 49 = .ok (.iconst 2, 1) := by decide +kernel
theorem dX5_waiting_50 : decode cX5_waiting 50 = .ok (.irem, 1) := by decide +kernel
theorem dX5_waiting_51 : decode cX5_waiting 51 = .ok (.istore_n 3, 1) := by decide +kernel
theorem dX5_waiting_52 : decode cX5_waiting 52 = .ok (.aload_n 0, 1) := by decide +kernel
theorem dX5_waiting_53 : decode cX5_waiting 53 = .ok (.iload_n 3, 1) := by decide +kernel
theorem dX5_waiting_54 : decode cX5_waiting 54 = .ok (.invokevirtual 169, 3) := by decide +kernel
theorem dX5_waiting_57 : decode cX5_waiting 57 = .ok (.istore 4, 2) := by decide +kernel
theorem dX5_waiting_59 : decode cX5_waiting 59 = .ok (.aload_n 0, 1) := by decide +kernel
theorem dX5_waiting_60 : decode cX5_waiting 60 = .ok (.iconst 1, 1) := by decide +kernel
theorem dX5_waiting_61 : decode cX5_waiting 61 = .ok (.iload_n 3, 1) := by decide +kernel
theorem dX5_waiting_62 : decode cX5_waiting 62 = .ok (.isub, 1) := by decide +kernel
theorem dX5_waiting_63 : decode cX5_waiting 63 = .ok (.invokevirtual 169, 3) := by decide +kernel
theorem dX5_waiting_66 : decode cX5_waiting 66 = .ok (.istore 5, 2) := by decide +kernel
theorem dX5_waiting_68 : decode cX5_waiting 68 = .ok (.iconst (-1), 1) := by decide +kernel
theorem dX5_waiting_69 : decode cX5_waiting 69 = .ok (.istore 6, 2) := by decide +kernel
theorem dX5_waiting_71 : decode cX5_waiting 71 = .ok (.bipush 9, 2) := by decide +kernel
theorem dX5_waiting_73 : decode cX5_waiting 73 = .ok (.istore 7, 2) := by decide +kernel
theorem dX5_waiting_75 : decode cX5_waiting 75 = .ok (.iconst 0, 1) := by decide +kernel
theorem dX5_waiting_76 : decode cX5_waiting 76 = .ok (.istore 8, 2) := by decide +kernel
theorem dX5_waiting_78 : decode cX5_waiting 78 = .ok (.iload 8, 2) := by decide +kernel
theorem dX5_waiting_80 : decode cX5_waiting 80 = .ok (.aload_n 0, 1) := by decide +kernel
theorem dX5_waiting_81 : decode cX5_waiting 81 = .ok (.getfield 74, 3) := by decide +kernel
theorem dX5_waiting_84 : decode cX5_waiting 84 = .ok (.if_icmp .ge 56, 3) := by decide +kernel
theorem dX5_waiting_87 : decode cX5_waiting 87 = .ok (.aload_n 0, 1) := by decide +kernel
theorem dX5_waiting_88 : decode cX5_waiting 88 = .ok (.iload_n 1, 1) := by decide +kernel
theorem dX5_waiting_89 : decode cX5_waiting 89 = .ok (.iload 8, 2) := by decide +kernel
theorem dX5_waiting_91 : decode cX5_waiting 91 = .ok (.invokevirtual 114, 3) := by decide +kernel
theorem dX5_waiting_94 : decode cX5_waiting 94 = .ok (.aload_n 0, 1) := by decide +kernel
theorem dX5_waiting_95 : decode cX5_waiting 95 = .ok (.getfield 77, 3) := by decide +kernel
theorem dX5_waiting_98 : decode cX5_waiting 98 = .ok (.if_icmp .ge 36, 3) := by decide +kernel
theorem dX5_waiting_101 : decode cX5_waiting 101 = .ok (.aload_n 0, 1) := by decide +kernel
theorem dX5_waiting_102 : decode cX5_waiting 102 = .ok (.iload_n 1, 1) := by decide +kernel
theorem dX5_waiting_103 : decode cX5_waiting 103 = .ok (.iload 8, 2) := by decide +kernel
theorem dX5_waiting_105 : decode cX5_waiting 105 = .ok (.iload 4, 2) := by decide +kernel
theorem dX5_waiting_107 : decode cX5_waiting 107 = .ok (.iload 5, 2) := by decide +kernel
theorem dX5_waiting_109 : decode cX5_waiting 109 = .ok (.invokevirtual 173, 3) := by decide +kernel
theorem dX5_waiting_112 : decode cX5_waiting 112 = .ok (.iload 7, 2) := by decide +kernel
theorem dX5_waiting_114 : decode cX5_waiting 114 = .ok (.if_icmp .ge 20, 3) := by decide +kernel
theorem dX5_waiting_117 : decode cX5_waiting 117 = .ok (.iload 8, 2) := by decide +kernel
theorem dX5_waiting_119 : decode cX5_waiting 119 = .ok (.istore 6, 2) := by decide +kernel
theorem dX5_waiting_121 : decode cX5_waiting 121 = .ok (.aload_n 0, 1) := by decide +kernel
theorem dX5_waiting_122 : decode cX5_waiting 122 = .ok (.iload_n 1, 1) := by decide +kernel
theorem dX5_waiting_123 : decode cX5_waiting 123 = .ok (.iload 8, 2) := by decide +kernel
theorem dX5_waiting_125 : decode cX5_waiting 125 = .ok (.iload 4, 2) := by decide +kernel
theorem dX5_waiting_127 : decode cX5_waiting 127 = .ok (.iload 5, 2) := by decide +kernel
theorem dX5_waiting_129 : decode cX5_waiting 129 = .ok (.invokevirtual 173, 3) := by decide +kernel
theorem dX5_waiting_132 : decode cX5_waiting 132 = .ok (.istore 7, 2) := by decide +kernel
theorem dX5_waiting_134 : decode cX5_waiting 134 = .ok (.iinc 8 1, 3) := by decide +kernel
theorem dX5_waiting_137 : decode cX5_waiting 137 = .ok (.goto (-59), 3) := by decide +kernel
theorem dX5_waiting_140 : decode cX5_waiting 140 = .ok (.aload_n 0, 1) := by decide +kernel
theorem dX5_waiting_141 : decode cX5_waiting 141 = .ok (.iload_n 1, 1) := by decide +kernel
theorem dX5_waiting_142 : decode cX5_waiting 142 = .ok (.iload 6, 2) := by decide +kernel
theorem dX5_waiting_144 : decode cX5_waiting 144 = .ok (.iload_n 3, 1) := by decide +kernel
theorem dX5_waiting_145 : decode cX5_waiting 145 = .ok (.invokevirtual 134, 3) := by decide +kernel
theorem dX5_waiting_148 : decode cX5_waiting 148 = .ok (.istore_n 1, 1) := by decide +kernel
theorem dX5_waiting_149 : decode cX5_waiting 149 = .ok (.iinc 2 1, 3) := by decide +kernel
theorem dX5_waiting_152 : decode cX5_waiting 152 = .ok (.goto (-131), 3) := by decide +kernel
theorem dX5_waiting_155 : decode cX5_waiting 155 = .ok (.aload_n 0, 1) := by decide +kernel
theorem dX5_waiting_156 : decode cX5_waiting 156 = .ok (.getfield 14, 3) := by decide +kernel
theorem dX5_waiting_159 : decode cX5_waiting 159 = .ok (.iload_n 1, 1) := by decide +kernel
theorem dX5_waiting_160 : decode cX5_waiting 160 = .ok (.baload, 1) := by decide +kernel
theorem dX5_waiting_161 : decode cX5_waiting 161 = .ok (.bipush 126, 2) := by decide +kernel
theorem dX5_waiting_163 : decode cX5_waiting 163 = .ok (.if_icmp .ne 7, 3) := by decide +kernel
theorem dX5_waiting_166 : decode cX5_waiting 166 = .ok (.iconst 0, 1) := by decide +kernel
theorem dX5_waiting_167 : decode cX5_waiting 167 = .ok (.goto 15, 3) := by decide +kernel
theorem dX5_waiting_170 : decode cX5_waiting 170 = .ok (.iload_n 2, 1) := by decide +kernel
theorem dX5_waiting_171 : decode cX5_waiting 171 = .ok (.iconst 2, 1) := by decide +kernel
theorem dX5_waiting_172 : decode cX5_waiting 172 = .ok (.irem, 1) := by decide +kernel
theorem dX5_waiting_173 : decode cX5_waiting 173 = .ok (.iconst 1, 1) := by decide +kernel
theorem dX5_waiting_174 : decode cX5_waiting 174 = .ok (.if_icmp .ne 7, 3) := by decide +kernel
theorem dX5_waiting_177 : decode cX5_waiting 177 = .ok (.iconst 1, 1) := by decide +kernel
theorem dX5_waiting_178 : decode cX5_waiting 178 = .ok (.goto 4, 3) := by decide +kernel
theorem dX5_waiting_181 : decode cX5_waiting 181 = .ok (.iconst (-1), 1) := by decide +kernel
theorem dX5_waiting_182 : decode cX5_waiting 182 = .ok (.ireturn, 1) := by decide +kernel
theorem dX5_met_0 : decode cX5_met 0 = .ok (.aload_n 0, 1) := by decide +kernel
theorem dX5_met_1 : decode cX5_met 1 = .ok (.iload_n 1, 1) := by decide +kernel
theorem dX5_met_2 : decode cX5_met 2 = .ok (.putfield 176, 3) := by decide +kernel
theorem dX5_met_5 : decode cX5_met 5 = .ok (.bipush (-10), 2) := by decide +kernel
theorem dX5_met_7 : decode cX5_met 7 = .ok (.iload_n 1, 1) := by decide +kernel
theorem dX5_met_8 : decode cX5_met 8 = .ok (.isub, 1) := by decide +kernel
theorem dX5_met_9 : decode cX5_met 9 = .ok (.ireturn, 1) := by decide +kernel
theorem dX5_isSheet_0 : decode cX5_isSheet 0 = .ok (.iload_n 0, 1) := by decide +kernel
theorem dX5_isSheet_1 : decode cX5_isSheet 1 = .ok (.i2l, 1) := by decide +kernel
theorem dX5_isSheet_2 : decode cX5_isSheet 2 = .ok (.lconst 0, 1) := by decide +kernel
theorem dX5_isSheet_3 : decode cX5_isSheet 3 = .ok (.ldc2_w 179, 3) := by decide +kernel
theorem dX5_isSheet_6 : decode cX5_isSheet 6 = .ok (.invokestatic 57, 3) := by decide +kernel
theorem dX5_isSheet_9 : decode cX5_isSheet 9 = .ok (.ireturn, 1) := by decide +kernel
theorem dX5_sheet_0 : decode cX5_sheet 0 = .ok (.iload_n 1, 1) := by decide +kernel
theorem dX5_sheet_1 : decode cX5_sheet 1 = .ok (.invokestatic 181, 3) := by decide +kernel
theorem dX5_sheet_4 : decode cX5_sheet 4 = .ok (.ifCond .eq 21, 3) := by decide +kernel
theorem dX5_sheet_7 : decode cX5_sheet 7 = .ok (.iload_n 2, 1) := by decide +kernel
theorem dX5_sheet_8 : decode cX5_sheet 8 = .ok (.i2l, 1) := by decide +kernel
theorem dX5_sheet_9 : decode cX5_sheet 9 = .ok (.lconst 0, 1) := by decide +kernel
theorem dX5_sheet_10 : decode cX5_sheet 10 = .ok (.ldc2_w 63, 3) := by decide +kernel
theorem dX5_sheet_13 : decode cX5_sheet 13 = .ok (.invokestatic 57, 3) := by decide +kernel
theorem dX5_sheet_16 : decode cX5_sheet 16 = .ok (.ifCond .eq 9, 3) := by decide +kernel
theorem dX5_sheet_19 : decode cX5_sheet 19 = .ok (.iload_n 3, 1) := by decide +kernel
theorem dX5_sheet_20 : decode cX5_sheet 20 = .ok (.bipush 20, 2) := by decide +kernel
theorem dX5_sheet_22 : decode cX5_sheet 22 = .ok (.if_icmp .le 7, 3) := by decide +kernel
theorem dX5_sheet_25 : decode cX5_sheet 25 = .ok (.sipush (-200), 3) := by decide +kernel
theorem dX5_sheet_28 : decode cX5_sheet 28 = .ok (.ireturn, 1) := by decide +kernel
theorem dX5_sheet_29 : decode cX5_sheet 29 = .ok (.iload_n 3, 1) := by decide +kernel
theorem dX5_sheet_30 : decode cX5_sheet 30 = .ok (.ifCond .ge 9, 3) := by decide +kernel
theorem dX5_sheet_33 : decode cX5_sheet 33 = .ok (.aload_n 0, 1) := by decide +kernel
theorem dX5_sheet_34 : decode cX5_sheet 34 = .ok (.iconst 5, 1) := by decide +kernel
theorem dX5_sheet_35 : decode cX5_sheet 35 = .ok (.invokevirtual 184, 3) := by decide +kernel
theorem dX5_sheet_38 : decode cX5_sheet 38 = .ok (.ireturn, 1) := by decide +kernel
theorem dX5_sheet_39 : decode cX5_sheet 39 = .ok (.aload_n 0, 1) := by decide +kernel
theorem dX5_sheet_40 : decode cX5_sheet 40 = .ok (.getfield 39, 3) := by decide +kernel
theorem dX5_sheet_43 : decode cX5_sheet 43 = .ok (.iload_n 1, 1) := by decide +kernel
theorem dX5_sheet_44 : decode cX5_sheet 44 = .ok (.iload_n 2, 1) := by decide +kernel
theorem dX5_sheet_45 : decode cX5_sheet 45 = .ok (.iastore, 1) := by decide +kernel
theorem dX5_sheet_46 : decode cX5_sheet 46 = .ok (.aload_n 0, 1) := by decide +kernel
theorem dX5_sheet_47 : decode cX5_sheet 47 = .ok (.getfield 42, 3) := by decide +kernel
theorem dX5_sheet_50 : decode cX5_sheet 50 = .ok (.iload_n 1, 1) := by decide +kernel
theorem dX5_sheet_51 : decode cX5_sheet 51 = .ok (.iload_n 3, 1) := by decide +kernel
theorem dX5_sheet_52 : decode cX5_sheet 52 = .ok (.iastore, 1) := by decide +kernel
theorem dX5_sheet_53 : decode cX5_sheet 53 = .ok (.iconst 0, 1) := by decide +kernel
theorem dX5_sheet_54 : decode cX5_sheet 54 = .ok (.istore 4, 2) := by decide +kernel
theorem dX5_sheet_56 : decode cX5_sheet 56 = .ok (.iload 4, 2) := by decide +kernel
theorem dX5_sheet_58 : decode cX5_sheet 58 = .ok (.iload_n 3, 1) := by decide +kernel
theorem dX5_sheet_59 : decode cX5_sheet 59 = .ok (.if_icmp .ge 22, 3) := by decide +kernel
theorem dX5_sheet_62 : decode cX5_sheet 62 = .ok (.aload_n 0, 1) := by decide +kernel
theorem dX5_sheet_63 : decode cX5_sheet 63 = .ok (.getfield 45, 3) := by decide +kernel
theorem dX5_sheet_66 : decode cX5_sheet 66 = .ok (.bipush 20, 2) := by decide +kernel
theorem dX5_sheet_68 : decode cX5_sheet 68 = .ok (.iload_n 1, 1) := by decide +kernel
theorem dX5_sheet_69 : decode cX5_sheet 69 = .ok (.imul, 1) := by decide +kernel
theorem dX5_sheet_70 : decode cX5_sheet 70 = .ok (.iload 4, 2) := by decide +kernel
theorem dX5_sheet_72 : decode cX5_sheet 72 = .ok (.iadd, 1) := by decide +kernel
theorem dX5_sheet_73 : decode cX5_sheet 73 = .ok (.iconst 0, 1) := by decide +kernel
theorem dX5_sheet_74 : decode cX5_sheet 74 = .ok (.iastore, 1) := by decide +kernel
theorem dX5_sheet_75 : decode cX5_sheet 75 = .ok (.iinc 4 1, 3) := by decide +kernel
theorem dX5_sheet_78 : decode cX5_sheet 78 = .ok (.goto (-22), 3) := by decide +kernel
theorem dX5_sheet_81 : decode cX5_sheet 81 = .ok (.iload_n 3, 1) := by decide +kernel
theorem dX5_sheet_82 : decode cX5_sheet 82 = .ok (.ireturn, 1) := by decide +kernel
theorem dX5_lose_0 : decode cX5_lose 0 = .ok (.iload_n 1, 1) := by decide +kernel
theorem dX5_lose_1 : decode cX5_lose 1 = .ok (.invokestatic 181, 3) := by decide +kernel
theorem dX5_lose_4 : decode cX5_lose 4 = .ok (.ifCond .ne 7, 3) := by decide +kernel
theorem dX5_lose_7 : decode cX5_lose 7 = .ok (.sipush (-200), 3) := by decide +kernel
theorem dX5_lose_10 : decode cX5_lose 10 = .ok (.ireturn, 1) := by decide +kernel
theorem dX5_lose_11 : decode cX5_lose 11 = .ok (.aload_n 0, 1) := by decide +kernel
theorem dX5_lose_12 : decode cX5_lose 12 = .ok (.getfield 39, 3) := by decide +kernel
theorem dX5_lose_15 : decode cX5_lose 15 = .ok (.iload_n 1, 1) := by decide +kernel
theorem dX5_lose_16 : decode cX5_lose 16 = .ok (.iaload, 1) := by decide +kernel
theorem dX5_lose_17 : decode cX5_lose 17 = .ok (.ifCond .ge 9, 3) := by decide +kernel
theorem dX5_lose_20 : decode cX5_lose 20 = .ok (.aload_n 0, 1) := by decide +kernel
theorem dX5_lose_21 : decode cX5_lose 21 = .ok (.iconst 1, 1) := by decide +kernel
theorem dX5_lose_22 : decode cX5_lose 22 = .ok (.invokevirtual 184, 3) := by decide +kernel
theorem dX5_lose_25 : decode cX5_lose 25 = .ok (.ireturn, 1) := by decide +kernel
theorem dX5_lose_26 : decode cX5_lose 26 = .ok (.aload_n 0, 1) := by decide +kernel
theorem dX5_lose_27 : decode cX5_lose 27 = .ok (.getfield 39, 3) := by decide +kernel
theorem dX5_lose_30 : decode cX5_lose 30 = .ok (.iload_n 1, 1) := by decide +kernel
theorem dX5_lose_31 : decode cX5_lose 31 = .ok (.iconst (-1), 1) := by decide +kernel
theorem dX5_lose_32 : decode cX5_lose 32 = .ok (.iastore, 1) := by decide +kernel
theorem dX5_lose_33 : decode cX5_lose 33 = .ok (.aload_n 0, 1) := by decide +kernel
theorem dX5_lose_34 : decode cX5_lose 34 = .ok (.getfield 42, 3) := by decide +kernel
theorem dX5_lose_37 : decode cX5_lose 37 = .ok (.iload_n 1, 1) := by decide +kernel
theorem dX5_lose_38 : decode cX5_lose 38 = .ok (.iaload, 1) := by decide +kernel
theorem dX5_lose_39 : decode cX5_lose 39 = .ok (.ireturn, 1) := by decide +kernel
theorem dX5_lacks_0 : decode cX5_lacks 0 = .ok (.aload_n 0, 1) := by decide +kernel
theorem dX5_lacks_1 : decode cX5_lacks 1 = .ok (.getfield 39, 3) := by decide +kernel
theorem dX5_lacks_4 : decode cX5_lacks 4 = .ok (.iload_n 1, 1) := by decide +kernel
theorem dX5_lacks_5 : decode cX5_lacks 5 = .ok (.iaload, 1) := by decide +kernel
theorem dX5_lacks_6 : decode cX5_lacks 6 = .ok (.ifCond .ge 9, 3) := by decide +kernel
theorem dX5_lacks_9 : decode cX5_lacks 9 = .ok (.aload_n 0, 1) := by decide +kernel
theorem dX5_lacks_10 : decode cX5_lacks 10 = .ok (.iconst 1, 1) := by decide +kernel
theorem dX5_lacks_11 : decode cX5_lacks 11 = .ok (.invokevirtual 184, 3) := by decide +kernel
theorem dX5_lacks_14 : decode cX5_lacks 14 = .ok (.ireturn, 1) := by decide +kernel
theorem dX5_lacks_15 : decode cX5_lacks 15 = .ok (.aload_n 0, 1) := by decide +kernel
theorem dX5_lacks_16 : decode cX5_lacks 16 = .ok (.getfield 39, 3) := by decide +kernel
theorem dX5_lacks_19 : decode cX5_lacks 19 = .ok (.iload_n 1, 1) := by decide +kernel
theorem dX5_lacks_20 : decode cX5_lacks 20 = .ok (.iaload, 1) := by decide +kernel
theorem dX5_lacks_21 : decode cX5_lacks 21 = .ok (.iload_n 2, 1) := by decide +kernel
theorem dX5_lacks_22 : decode cX5_lacks 22 = .ok (.if_icmp .eq 9, 3) := by decide +kernel
theorem dX5_lacks_25 : decode cX5_lacks 25 = .ok (.aload_n 0, 1) := by decide +kernel
theorem dX5_lacks_26 : decode cX5_lacks 26 = .ok (.iconst 3, 1) := by decide +kernel
theorem dX5_lacks_27 : decode cX5_lacks 27 = .ok (.invokevirtual 184, 3) := by decide +kernel
theorem dX5_lacks_30 : decode cX5_lacks 30 = .ok (.ireturn, 1) := by decide +kernel
theorem dX5_lacks_31 : decode cX5_lacks 31 = .ok (.iload_n 3, 1) := by decide +kernel
theorem dX5_lacks_32 : decode cX5_lacks 32 = .ok (.i2l, 1) := by decide +kernel
theorem dX5_lacks_33 : decode cX5_lacks 33 = .ok (.lconst 0, 1) := by decide +kernel
theorem dX5_lacks_34 : decode cX5_lacks 34 = .ok (.aload_n 0, 1) := by decide +kernel
theorem dX5_lacks_35 : decode cX5_lacks 35 = .ok (.getfield 42, 3) := by decide +kernel
theorem dX5_lacks_38 : decode cX5_lacks 38 = .ok (.iload_n 1, 1) := by decide +kernel
theorem dX5_lacks_39 : decode cX5_lacks 39 = .ok (.iaload, 1) := by decide +kernel
theorem dX5_lacks_40 : decode cX5_lacks 40 = .ok (.iconst 1, 1) := by decide +kernel
theorem dX5_lacks_41 : decode cX5_lacks 41 = .ok (.isub, 1) := by decide +kernel
theorem dX5_lacks_42 : decode cX5_lacks 42 = .ok (.i2l, 1) := by decide +kernel
theorem dX5_lacks_43 : decode cX5_lacks 43 = .ok (.invokestatic 57, 3) := by decide +kernel
theorem dX5_lacks_46 : decode cX5_lacks 46 = .ok (.ifCond .eq 7, 3) := by decide +kernel
theorem dX5_lacks_49 : decode cX5_lacks 49 = .ok (.iconst 0, 1) := by decide +kernel
theorem dX5_lacks_50 : decode cX5_lacks 50 = .ok (.goto 8, 3) := by decide +kernel
theorem dX5_lacks_53 : decode cX5_lacks 53 = .ok (.aload_n 0, 1) := by decide +kernel
theorem dX5_lacks_54 : decode cX5_lacks 54 = .ok (.iconst 2, 1) := by decide +kernel
theorem dX5_lacks_55 : decode cX5_lacks 55 = .ok (.invokevirtual 184, 3) := by decide +kernel
theorem dX5_lacks_58 : decode cX5_lacks 58 = .ok (.ireturn, 1) := by decide +kernel
theorem dX5_cut_0 : decode cX5_cut 0 = .ok (.iload_n 0, 1) := by decide +kernel
theorem dX5_cut_1 : decode cX5_cut 1 = .ok (.ifCond .ne 8, 3) := by decide +kernel
theorem dX5_cut_4 : decode cX5_cut 4 = .ok (.iload_n 1, 1) := by decide +kernel
theorem dX5_cut_5 : decode cX5_cut 5 = .ok (.i2b, 1) := by decide +kernel
theorem dX5_cut_6 : decode cX5_cut 6 = .ok (.goto 14, 3) := by decide +kernel
theorem dX5_cut_9 : decode cX5_cut 9 = .ok (.iload_n 0, 1) := by decide +kernel
theorem dX5_cut_10 : decode cX5_cut 10 = .ok (.iconst 1, 1) := by decide +kernel
theorem dX5_cut_11 : decode cX5_cut 11 = .ok (.if_icmp .ne 8, 3) := by decide +kernel
theorem dX5_cut_14 : decode cX5_cut 14 = .ok (.iload_n 1, 1) := by decide +kernel
theorem dX5_cut_15 : decode cX5_cut 15 = .ok (.i2s, 1) := by decide +kernel
theorem dX5_cut_16 : decode cX5_cut 16 = .ok (.goto 4, 3) := by decide +kernel
theorem dX5_cut_19 : decode cX5_cut 19 = .ok (.iload_n 1, 1) := by decide +kernel
theorem dX5_cut_20 : decode cX5_cut 20 = .ok (.ireturn, 1) := by decide +kernel
theorem dX5_put_0 : decode cX5_put 0 = .ok (.iload_n 1, 1) := by decide +kernel
theorem dX5_put_1 : decode cX5_put 1 = .ok (.invokestatic 181, 3) := by decide +kernel
theorem dX5_put_4 : decode cX5_put 4 = .ok (.ifCond .eq 15, 3) := by decide +kernel
theorem dX5_put_7 : decode cX5_put 7 = .ok (.iload_n 2, 1) := by decide +kernel
theorem dX5_put_8 : decode cX5_put 8 = .ok (.i2l, 1) := by decide +kernel
theorem dX5_put_9 : decode cX5_put 9 = .ok (.lconst 0, 1) := by decide +kernel
theorem dX5_put_10 : decode cX5_put 10 = .ok (.ldc2_w 63, 3) := by decide +kernel
theorem dX5_put_13 : decode cX5_put 13 = .ok (.invokestatic 57, 3) := by decide +kernel
theorem dX5_put_16 : decode cX5_put 16 = .ok (.ifCond .ne 7, 3) := by decide +kernel
theorem dX5_put_19 : decode cX5_put 19 = .ok (.sipush (-200), 3) := by decide +kernel
theorem dX5_put_22 : decode cX5_put 22 = .ok (.ireturn, 1) := by decide +kernel
theorem dX5_put_23 : decode cX5_put 23 = .ok (.aload_n 0, 1) := by decide +kernel
theorem dX5_put_24 : decode cX5_put 24 = .ok (.iload_n 1, 1) := by decide +kernel
theorem dX5_put_25 : decode cX5_put 25 = .ok (.iload_n 2, 1) := by decide +kernel
theorem dX5_put_26 : decode cX5_put 26 = .ok (.iload_n 3, 1) := by decide +kernel
theorem dX5_put_27 : decode cX5_put 27 = .ok (.invokevirtual 187, 3) := by decide +kernel
theorem dX5_put_30 : decode cX5_put 30 = .ok (.istore 5, 2) := by decide +kernel
theorem dX5_put_32 : decode cX5_put 32 = .ok (.iload 5, 2) := by decide +kernel
theorem dX5_put_34 : decode cX5_put 34 = .ok (.ifCond .eq 6, 3) := by decide +kernel
theorem dX5_put_37 : decode cX5_put 37 = .ok (.iload 5, 2) := by decide +kernel
theorem dX5_put_39 : decode cX5_put 39 = .ok (.ireturn, 1) := by decide +kernel
theorem dX5_put_40 : decode cX5_put 40 = .ok (.aload_n 0, 1) := by decide +kernel
theorem dX5_put_41 : decode cX5_put 41 = .ok (.getfield 45, 3) := by decide +kernel
theorem dX5_put_44 : decode cX5_put 44 = .ok (.bipush 20, 2) := by decide +kernel
theorem dX5_put_46 : decode cX5_put 46 = .ok (.iload_n 1, 1) := by decide +kernel
theorem dX5_put_47 : decode cX5_put 47 = .ok (.imul, 1) := by decide +kernel
theorem dX5_put_48 : decode cX5_put 48 = .ok (.iload_n 3, 1) := by decide +kernel
theorem dX5_put_49 : decode cX5_put 49 = .ok (.iadd, 1) := by decide +kernel
theorem dX5_put_50 : decode cX5_put 50 = .ok (.iload_n 2, 1) := by decide +kernel
theorem dX5_put_51 : decode cX5_put 51 = .ok (.iload 4, 2) := by decide +kernel
theorem dX5_put_53 : decode cX5_put 53 = .ok (.invokestatic 190, 3) := by decide +kernel
theorem dX5_put_56 : decode cX5_put 56 = .ok (.iastore, 1) := by decide +kernel
theorem dX5_put_57 : decode cX5_put 57 = .ok (.iconst 1, 1) := by decide +kernel
theorem dX5_put_58 : decode cX5_put 58 = .ok (.ireturn, 1) := by decide +kernel
theorem dX5_get_0 : decode cX5_get 0 = .ok (.iload_n 1, 1) := by decide +kernel
theorem dX5_get_1 : decode cX5_get 1 = .ok (.invokestatic 181, 3) := by decide +kernel
theorem dX5_get_4 : decode cX5_get 4 = .ok (.ifCond .eq 25, 3) := by decide +kernel
theorem dX5_get_7 : decode cX5_get 7 = .ok (.iload_n 2, 1) := by decide +kernel
theorem dX5_get_8 : decode cX5_get 8 = .ok (.i2l, 1) := by decide +kernel
theorem dX5_get_9 : decode cX5_get 9 = .ok (.lconst 0, 1) := by decide +kernel
theorem dX5_get_10 : decode cX5_get 10 = .ok (.ldc2_w 63, 3) := by decide +kernel
theorem dX5_get_13 : decode cX5_get 13 = .ok (.invokestatic 57, 3) := by decide +kernel
theorem dX5_get_16 : decode cX5_get 16 = .ok (.ifCond .eq 13, 3) := by decide +kernel
theorem dX5_get_19 : decode cX5_get 19 = .ok (.aload_n 0, 1) := by decide +kernel
theorem dX5_get_20 : decode cX5_get 20 = .ok (.iload_n 1, 1) := by decide +kernel
theorem dX5_get_21 : decode cX5_get 21 = .ok (.iload_n 2, 1) := by decide +kernel
theorem dX5_get_22 : decode cX5_get 22 = .ok (.iload_n 3, 1) := by decide +kernel
theorem dX5_get_23 : decode cX5_get 23 = .ok (.invokevirtual 187, 3) := by decide +kernel
theorem dX5_get_26 : decode cX5_get 26 = .ok (.ifCond .eq 6, 3) := by decide +kernel
theorem dX5_get_29 : decode cX5_get 29 = .ok (.ldc 193, 2) := by decide +kernel
theorem dX5_get_31 : decode cX5_get 31 = .ok (.ireturn, 1) := by decide +kernel
theorem dX5_get_32 : decode cX5_get 32 = .ok (.aload_n 0, 1) := by decide +kernel
theorem dX5_get_33 : decode cX5_get 33 = .ok (.getfield 45, 3) := by decide +kernel
theorem dX5_get_36 : decode cX5_get 36 = .ok (.bipush 20, 2) := by decide +kernel
theorem dX5_get_38 : decode cX5_get 38 = .ok (.iload_n 1, 1) := by decide +kernel
theorem dX5_get_39 : decode cX5_get 39 = .ok (.imul, 1) := by decide +kernel
theorem dX5_get_40 : decode cX5_get 40 = .ok (.iload_n 3, 1) := by decide +kernel
theorem dX5_get_41 : decode cX5_get 41 = .ok (.iadd, 1) := by decide +kernel
theorem dX5_get_42 : decode cX5_get 42 = .ok (.iaload, 1) := by decide +kernel
theorem dX5_get_43 : decode cX5_get 43 = .ok (.ireturn, 1) := by decide +kernel
theorem dX5_copy_0 : decode cX5_copy 0 = .ok (.iload_n 1, 1) := by decide +kernel
theorem dX5_copy_1 : decode cX5_copy 1 = .ok (.invokestatic 181, 3) := by decide +kernel
theorem dX5_copy_4 : decode cX5_copy 4 = .ok (.ifCond .eq 10, 3) := by decide +kernel
theorem dX5_copy_7 : decode cX5_copy 7 = .ok (.iload_n 3, 1) := by decide +kernel
theorem dX5_copy_8 : decode cX5_copy 8 = .ok (.invokestatic 181, 3) := by decide +kernel
theorem dX5_copy_11 : decode cX5_copy 11 = .ok (.ifCond .ne 7, 3) := by decide +kernel
theorem dX5_copy_14 : decode cX5_copy 14 = .ok (.sipush (-200), 3) := by decide +kernel
theorem dX5_copy_17 : decode cX5_copy 17 = .ok (.ireturn, 1) := by decide +kernel
theorem dX5_copy_18 : decode cX5_copy 18 = .ok (.aload_n 0, 1) := by decide +kernel
theorem dX5_copy_19 : decode cX5_copy 19 = .ok (.getfield 39, 3) := by decide +kernel
theorem dX5_copy_22 : decode cX5_copy 22 = .ok (.iload_n 1, 1) := by decide +kernel
theorem dX5_copy_23 : decode cX5_copy 23 = .ok (.iaload, 1) := by decide +kernel
theorem dX5_copy_24 : decode cX5_copy 24 = .ok (.ifCond .lt 12, 3) := by decide +kernel
theorem dX5_copy_27 : decode cX5_copy 27 = .ok (.aload_n 0, 1) := by decide +kernel
theorem dX5_copy_28 : decode cX5_copy 28 = .ok (.getfield 39, 3) := by decide +kernel
theorem dX5_copy_31 : decode cX5_copy 31 = .ok (.iload_n 3, 1) := by decide +kernel
theorem dX5_copy_32 : decode cX5_copy 32 = .ok (.iaload, 1) := by decide +kernel
theorem dX5_copy_33 : decode cX5_copy 33 = .ok (.ifCond .ge 9, 3) := by decide +kernel
theorem dX5_copy_36 : decode cX5_copy 36 = .ok (.aload_n 0, 1) := by decide +kernel
theorem dX5_copy_37 : decode cX5_copy 37 = .ok (.iconst 1, 1) := by decide +kernel
theorem dX5_copy_38 : decode cX5_copy 38 = .ok (.invokevirtual 184, 3) := by decide +kernel
theorem dX5_copy_41 : decode cX5_copy 41 = .ok (.ireturn, 1) := by decide +kernel
theorem dX5_copy_42 : decode cX5_copy 42 = .ok (.aload_n 0, 1) := by decide +kernel
theorem dX5_copy_43 : decode cX5_copy 43 = .ok (.getfield 39, 3) := by decide +kernel
theorem dX5_copy_46 : decode cX5_copy 46 = .ok (.iload_n 1, 1) := by decide +kernel
theorem dX5_copy_47 : decode cX5_copy 47 = .ok (.iaload, 1) := by decide +kernel
theorem dX5_copy_48 : decode cX5_copy 48 = .ok (.aload_n 0, 1) := by decide +kernel
theorem dX5_copy_49 : decode cX5_copy 49 = .ok (.getfield 39, 3) := by decide +kernel
theorem dX5_copy_52 : decode cX5_copy 52 = .ok (.iload_n 3, 1) := by decide +kernel
theorem dX5_copy_53 : decode cX5_copy 53 = .ok (.iaload, 1) := by decide +kernel
theorem dX5_copy_54 : decode cX5_copy 54 = .ok (.if_icmp .eq 9, 3) := by decide +kernel
theorem dX5_copy_57 : decode cX5_copy 57 = .ok (.aload_n 0, 1) := by decide +kernel
theorem dX5_copy_58 : decode cX5_copy 58 = .ok (.iconst 4, 1) := by decide +kernel
theorem dX5_copy_59 : decode cX5_copy 59 = .ok (.invokevirtual 184, 3) := by decide +kernel
theorem dX5_copy_62 : decode cX5_copy 62 = .ok (.ireturn, 1) := by decide +kernel
theorem dX5_copy_63 : decode cX5_copy 63 = .ok (.iload_n 2, 1) := by decide +kernel
theorem dX5_copy_64 : decode cX5_copy 64 = .ok (.ifCond .lt 48, 3) := by decide +kernel
theorem dX5_copy_67 : decode cX5_copy 67 = .ok (.iload 4, 2) := by decide +kernel
theorem dX5_copy_69 : decode cX5_copy 69 = .ok (.ifCond .lt 43, 3) := by decide +kernel
theorem dX5_copy_72 : decode cX5_copy 72 = .ok (.iload 5, 2) := by decide +kernel
theorem dX5_copy_74 : decode cX5_copy 74 = .ok (.ifCond .lt 38, 3) := by decide +kernel
theorem dX5_copy_77 : decode cX5_copy 77 = .ok (.iload_n 2, 1) := by decide +kernel
theorem dX5_copy_78 : decode cX5_copy 78 = .ok (.i2l, 1) := by decide +kernel
theorem dX5_copy_79 : decode cX5_copy 79 = .ok (.iload 5, 2) := by decide +kernel
theorem dX5_copy_81 : decode cX5_copy 81 = .ok (.i2l, 1) := by decide +kernel
theorem dX5_copy_82 : decode cX5_copy 82 = .ok (.ladd, 1) := by decide +kernel
theorem dX5_copy_83 : decode cX5_copy 83 = .ok (.aload_n 0, 1) := by decide +kernel
theorem dX5_copy_84 : decode cX5_copy 84 = .ok (.getfield 42, 3) := by decide +kernel
theorem dX5_copy_87 : decode cX5_copy 87 = .ok (.iload_n 1, 1) := by decide +kernel
theorem dX5_copy_88 : decode cX5_copy 88 = .ok (.iaload, 1) := by decide +kernel
theorem dX5_copy_89 : decode cX5_copy 89 = .ok (.i2l, 1) := by decide +kernel
theorem dX5_copy_90 : decode cX5_copy 90 = .ok (.lcmp, 1) := by decide +kernel
theorem dX5_copy_91 : decode cX5_copy 91 = .ok (.ifCond .gt 21, 3) := by decide +kernel
theorem dX5_copy_94 : decode cX5_copy 94 = .ok (.iload 4, 2) := by decide +kernel
theorem dX5_copy_96 : decode cX5_copy 96 = .ok (.i2l, 1) := by decide +kernel
theorem dX5_copy_97 : decode cX5_copy 97 = .ok (.iload 5, 2) := by decide +kernel
theorem dX5_copy_99 : decode cX5_copy 99 = .ok (.i2l, 1) := by decide +kernel
theorem dX5_copy_100 : decode cX5_copy 100 = .ok (.ladd, 1) := by decide +kernel
theorem dX5_copy_101 : decode cX5_copy 101 = .ok (.aload_n 0, 1) := by decide +kernel
theorem dX5_copy_102 : decode cX5_copy 102 = .ok (.getfield 42, 3) := by decide +kernel
theorem dX5_copy_105 : decode cX5_copy 105 = .ok (.iload_n 3, 1) := by decide +kernel
theorem dX5_copy_106 : decode cX5_copy 106 = .ok (.iaload, 1) := by decide +kernel
theorem dX5_copy_107 : decode cX5_copy 107 = .ok (.i2l, 1) := by decide +kernel
theorem dX5_copy_108 : decode cX5_copy 108 = .ok (.lcmp, 1) := by decide +kernel
theorem dX5_copy_109 : decode cX5_copy 109 = .ok (.ifCond .le 9, 3) := by decide +kernel
theorem dX5_copy_112 : decode cX5_copy 112 = .ok (.aload_n 0, 1) := by decide +kernel
theorem dX5_copy_113 : decode cX5_copy 113 = .ok (.iconst 2, 1) := by decide +kernel
theorem dX5_copy_114 : decode cX5_copy 114 = .ok (.invokevirtual 184, 3) := by decide +kernel
theorem dX5_copy_117 : decode cX5_copy 117 = .ok (.ireturn, 1) := by decide +kernel
theorem dX5_copy_118 : decode cX5_copy 118 = .ok (.iconst 0, 1) := by decide +kernel
theorem dX5_copy_119 : decode cX5_copy 119 = .ok (.istore 6, 2) := by decide +kernel
theorem dX5_copy_121 : decode cX5_copy 121 = .ok (.iload 6, 2) := by decide +kernel
theorem dX5_copy_123 : decode cX5_copy 123 = .ok (.iload 5, 2) := by decide +kernel
theorem dX5_copy_125 : decode cX5_copy 125 = .ok (.if_icmp .ge 30, 3) := by decide +kernel
theorem dX5_copy_128 : decode cX5_copy 128 = .ok (.aload_n 0, 1) := by decide +kernel
theorem dX5_copy_129 : decode cX5_copy 129 = .ok (.getfield 48, 3) := by decide +kernel
theorem dX5_copy_132 : decode cX5_copy 132 = .ok (.iload 6, 2) := by decide +kernel
theorem dX5_copy_134 : decode cX5_copy 134 = .ok (.aload_n 0, 1) := by decide +kernel
theorem dX5_copy_135 : decode cX5_copy 135 = .ok (.getfield 45, 3) := by decide +kernel
theorem dX5_copy_138 : decode cX5_copy 138 = .ok (.bipush 20, 2) := by decide +kernel
theorem dX5_copy_140 : decode cX5_copy 140 = .ok (.iload_n 1, 1) := by decide +kernel
theorem dX5_copy_141 : decode cX5_copy 141 = .ok (.imul, 1) := by decide +kernel
theorem dX5_copy_142 : decode cX5_copy 142 = .ok (.iload_n 2, 1) := by decide +kernel
theorem dX5_copy_143 : decode cX5_copy 143 = .ok (.iadd, 1) := by decide +kernel
theorem dX5_copy_144 : decode cX5_copy 144 = .ok (.iload 6, 2) := by decide +kernel
theorem dX5_copy_146 : decode cX5_copy 146 = .ok (.iadd, 1) := by decide +kernel
theorem dX5_copy_147 : decode cX5_copy 147 = .ok (.iaload, 1) := by decide +kernel
theorem dX5_copy_148 : decode cX5_copy 148 = .ok (.iastore, 1) := by decide +kernel
theorem dX5_copy_149 : decode cX5_copy 149 = .ok (.iinc 6 1, 3) := by decide +kernel
theorem dX5_copy_152 : decode cX5_copy 152 = .ok (.goto (-31), 3) := by decide +kernel
theorem dX5_copy_155 : decode cX5_copy 155 = .ok (.iconst 0, 1) := by decide +kernel
theorem dX5_copy_156 : decode cX5_copy 156 = .ok (.istore 6, 2) := by decide +kernel
theorem dX5_copy_158 : decode cX5_copy 158 = .ok (.iload 6, 2) := by decide +kernel
theorem dX5_copy_160 : decode cX5_copy 160 = .ok (.iload 5, 2) := by decide +kernel
theorem dX5_copy_162 : decode cX5_copy 162 = .ok (.if_icmp .ge 31, 3) := by decide +kernel
theorem dX5_copy_165 : decode cX5_copy 165 = .ok (.aload_n 0, 1) := by decide +kernel
theorem dX5_copy_166 : decode cX5_copy 166 = .ok (.getfield 45, 3) := by decide +kernel
theorem dX5_copy_169 : decode cX5_copy 169 = .ok (.bipush 20, 2) := by decide +kernel
theorem dX5_copy_171 : decode cX5_copy 171 = .ok (.iload_n 3, 1) := by decide +kernel
theorem dX5_copy_172 : decode cX5_copy 172 = .ok (.imul, 1) := by decide +kernel
theorem dX5_copy_173 : decode cX5_copy 173 = .ok (.iload 4, 2) := by decide +kernel
theorem dX5_copy_175 : decode cX5_copy 175 = .ok (.iadd, 1) := by decide +kernel
theorem dX5_copy_176 : decode cX5_copy 176 = .ok (.iload 6, 2) := by decide +kernel
theorem dX5_copy_178 : decode cX5_copy 178 = .ok (.iadd, 1) := by decide +kernel
theorem dX5_copy_179 : decode cX5_copy 179 = .ok (.aload_n 0, 1) := by decide +kernel
theorem dX5_copy_180 : decode cX5_copy 180 = .ok (.getfield 48, 3) := by decide +kernel
theorem dX5_copy_183 : decode cX5_copy 183 = .ok (.iload 6, 2) := by decide +kernel
theorem dX5_copy_185 : decode cX5_copy 185 = .ok (.iaload, 1) := by decide +kernel
theorem dX5_copy_186 : decode cX5_copy 186 = .ok (.iastore, 1) := by decide +kernel
theorem dX5_copy_187 : decode cX5_copy 187 = .ok (.iinc 6 1, 3) := by decide +kernel
theorem dX5_copy_190 : decode cX5_copy 190 = .ok (.goto (-32), 3) := by decide +kernel
theorem dX5_copy_193 : decode cX5_copy 193 = .ok (.iconst 1, 1) := by decide +kernel
theorem dX5_copy_194 : decode cX5_copy 194 = .ok (.ireturn, 1) := by decide +kernel
theorem dX5_take_0 : decode cX5_take 0 = .ok (.iload_n 1, 1) := by decide +kernel
theorem dX5_take_1 : decode cX5_take 1 = .ok (.invokestatic 181, 3) := by decide +kernel
theorem dX5_take_4 : decode cX5_take 4 = .ok (.ifCond .eq 15, 3) := by decide +kernel
theorem dX5_take_7 : decode cX5_take 7 = .ok (.iload_n 2, 1) := by decide +kernel
theorem dX5_take_8 : decode cX5_take 8 = .ok (.i2l, 1) := by decide +kernel
theorem dX5_take_9 : decode cX5_take 9 = .ok (.lconst 0, 1) := by decide +kernel
theorem dX5_take_10 : decode cX5_take 10 = .ok (.ldc2_w 194, 3) := by decide +kernel
theorem dX5_take_13 : decode cX5_take 13 = .ok (.invokestatic 57, 3) := by decide +kernel
theorem dX5_take_16 : decode cX5_take 16 = .ok (.ifCond .ne 7, 3) := by decide +kernel
theorem dX5_take_19 : decode cX5_take 19 = .ok (.sipush (-200), 3) := by decide +kernel
theorem dX5_take_22 : decode cX5_take 22 = .ok (.ireturn, 1) := by decide +kernel
theorem dX5_take_23 : decode cX5_take 23 = .ok (.aload_n 0, 1) := by decide +kernel
theorem dX5_take_24 : decode cX5_take 24 = .ok (.getfield 39, 3) := by decide +kernel
theorem dX5_take_27 : decode cX5_take 27 = .ok (.iload_n 1, 1) := by decide +kernel
theorem dX5_take_28 : decode cX5_take 28 = .ok (.iaload, 1) := by decide +kernel
theorem dX5_take_29 : decode cX5_take 29 = .ok (.ifCond .ge 9, 3) := by decide +kernel
theorem dX5_take_32 : decode cX5_take 32 = .ok (.aload_n 0, 1) := by decide +kernel
theorem dX5_take_33 : decode cX5_take 33 = .ok (.iconst 1, 1) := by decide +kernel
theorem dX5_take_34 : decode cX5_take 34 = .ok (.invokevirtual 184, 3) := by decide +kernel
theorem dX5_take_37 : decode cX5_take 37 = .ok (.ireturn, 1) := by decide +kernel
theorem dX5_take_38 : decode cX5_take 38 = .ok (.iload_n 2, 1) := by decide +kernel
theorem dX5_take_39 : decode cX5_take 39 = .ok (.aload_n 0, 1) := by decide +kernel
theorem dX5_take_40 : decode cX5_take 40 = .ok (.getfield 42, 3) := by decide +kernel
theorem dX5_take_43 : decode cX5_take 43 = .ok (.iload_n 1, 1) := by decide +kernel
theorem dX5_take_44 : decode cX5_take 44 = .ok (.iaload, 1) := by decide +kernel
theorem dX5_take_45 : decode cX5_take 45 = .ok (.if_icmp .le 9, 3) := by decide +kernel
theorem dX5_take_48 : decode cX5_take 48 = .ok (.aload_n 0, 1) := by decide +kernel
theorem dX5_take_49 : decode cX5_take 49 = .ok (.iconst 2, 1) := by decide +kernel
theorem dX5_take_50 : decode cX5_take 50 = .ok (.invokevirtual 184, 3) := by decide +kernel
theorem dX5_take_53 : decode cX5_take 53 = .ok (.ireturn, 1) := by decide +kernel
theorem dX5_take_54 : decode cX5_take 54 = .ok (.aload_n 0, 1) := by decide +kernel
theorem dX5_take_55 : decode cX5_take 55 = .ok (.invokevirtual 124, 3) := by decide +kernel
theorem dX5_take_58 : decode cX5_take 58 = .ok (.istore_n 3, 1) := by decide +kernel
theorem dX5_take_59 : decode cX5_take 59 = .ok (.iconst 0, 1) := by decide +kernel
theorem dX5_take_60 : decode cX5_take 60 = .ok (.istore 4, 2) := by decide +kernel
theorem dX5_take_62 : decode cX5_take 62 = .ok (.iload 4, 2) := by decide +kernel
theorem dX5_take_64 : decode cX5_take 64 = .ok (.iload_n 2, 1) := by decide +kernel
theorem dX5_take_65 : decode cX5_take 65 = .ok (.if_icmp .ge 106, 3) := by decide +kernel
theorem dX5_take_68 : decode cX5_take 68 = .ok (.aload_n 0, 1) := by decide +kernel
theorem dX5_take_69 : decode cX5_take 69 = .ok (.getfield 45, 3) := by decide +kernel
theorem dX5_take_72 : decode cX5_take 72 = .ok (.bipush 20, 2) := by decide +kernel
theorem dX5_take_74 : decode cX5_take 74 = .ok (.iload_n 1, 1) := by decide +kernel
theorem dX5_take_75 : decode cX5_take 75 = .ok (.imul, 1) := by decide +kernel
theorem dX5_take_76 : decode cX5_take 76 = .ok (.iload 4, 2) := by decide +kernel
theorem dX5_take_78 : decode cX5_take 78 = .ok (.iadd, 1) := by decide +kernel
theorem dX5_take_79 : decode cX5_take 79 = .ok (.iaload, 1) := by decide +kernel
theorem dX5_take_80 : decode cX5_take 80 = .ok (.istore 5, 2) := by decide +kernel
theorem dX5_take_82 : decode cX5_take 82 = .ok (.aload_n 0, 1) := by decide +kernel
theorem dX5_take_83 : decode cX5_take 83 = .ok (.getfield 14, 3) := by decide +kernel
theorem dX5_take_86 : decode cX5_take 86 = .ok (.iload_n 3, 1) := by decide +kernel
theorem dX5_take_87 : decode cX5_take 87 = .ok (.baload, 1) := by decide +kernel
theorem dX5_take_88 : decode cX5_take 88 = .ok (.bipush 127, 2) := by decide +kernel
theorem dX5_take_90 : decode cX5_take 90 = .ok (.if_icmp .eq 49, 3) := by decide +kernel
theorem dX5_take_93 : decode cX5_take 93 = .ok (.aload_n 0, 1) := by decide +kernel
theorem dX5_take_94 : decode cX5_take 94 = .ok (.getfield 14, 3) := by decide +kernel
theorem dX5_take_97 : decode cX5_take 97 = .ok (.iload_n 3, 1) := by decide +kernel
theorem dX5_take_98 : decode cX5_take 98 = .ok (.baload, 1) := by decide +kernel
theorem dX5_take_99 : decode cX5_take 99 = .ok (.bipush 126, 2) := by decide +kernel
theorem dX5_take_101 : decode cX5_take 101 = .ok (.if_icmp .eq 38, 3) := by decide +kernel
theorem dX5_take_104 : decode cX5_take 104 = .ok (.iload 5, 2) := by decide +kernel
theorem dX5_take_106 : decode cX5_take 106 = .ok (.i2l, 1) := by decide +kernel
theorem dX5_take_107 : decode cX5_take 107 = .ok (.lconst 0, 1) := by decide +kernel
theorem dX5_take_108 : decode cX5_take 108 = .ok (.aload_n 0, 1) := by decide +kernel
theorem dX5_take_109 : decode cX5_take 109 = .ok (.getfield 74, 3) := by decide +kernel
theorem dX5_take_112 : decode cX5_take 112 = .ok (.iconst 1, 1) := by decide +kernel
theorem dX5_take_113 : decode cX5_take 113 = .ok (.isub, 1) := by decide +kernel
theorem dX5_take_114 : decode cX5_take 114 = .ok (.i2l, 1) := by decide +kernel
theorem dX5_take_115 : decode cX5_take 115 = .ok (.invokestatic 57, 3) := by decide +kernel
theorem dX5_take_118 : decode cX5_take 118 = .ok (.ifCond .eq 21, 3) := by decide +kernel
theorem dX5_take_121 : decode cX5_take 121 = .ok (.aload_n 0, 1) := by decide +kernel
theorem dX5_take_122 : decode cX5_take 122 = .ok (.iload_n 3, 1) := by decide +kernel
theorem dX5_take_123 : decode cX5_take 123 = .ok (.iload 5, 2) := by decide +kernel
theorem dX5_take_125 : decode cX5_take 125 = .ok (.invokevirtual 114, 3) := by decide +kernel
theorem dX5_take_128 : decode cX5_take 128 = .ok (.aload_n 0, 1) := by decide +kernel
theorem dX5_take_129 : decode cX5_take 129 = .ok (.getfield 77, 3) := by decide +kernel
theorem dX5_take_132 : decode cX5_take 132 = .ok (.if_icmp .ge 7, 3) := by decide +kernel
theorem dX5_take_135 : decode cX5_take 135 = .ok (.iconst 1, 1) := by decide +kernel
theorem dX5_take_136 : decode cX5_take 136 = .ok (.goto 4, 3) := by decide +kernel
theorem dX5_take_139 : decode cX5_take 139 = .ok (.iconst 0, 1) := by decide +kernel
theorem dX5_take_140 : decode cX5_take 140 = .ok (.istore 6, 2) := by decide +kernel
theorem dX5_take_142 : decode cX5_take 142 = .ok (.iload 6, 2) := by decide +kernel
theorem dX5_take_144 : decode cX5_take 144 = .ok (.ifCond .ne 9, 3) := by decide +kernel
theorem dX5_take_147 : decode cX5_take 147 = .ok (.bipush (-100), 2) := by decide +kernel
theorem dX5_take_149 : decode cX5_take 149 = .ok (.iload 4, 2) := by decide +kernel
theorem dX5_take_151 : decode cX5_take 151 = .ok (.isub, 1) := by decide +kernel
theorem dX5_take_152 : decode cX5_take 152 = .ok (.ireturn, 1) := by decide +kernel
theorem dX5_take_153 : decode cX5_take 153 = .ok (.aload_n 0, 1) := by decide +kernel
theorem dX5_take_154 : decode cX5_take 154 = .ok (.iload_n 3, 1) := by decide +kernel
theorem dX5_take_155 : decode cX5_take 155 = .ok (.iload 5, 2) := by decide +kernel
theorem dX5_take_157 : decode cX5_take 157 = .ok (.iload 4, 2) := by decide +kernel
theorem dX5_take_159 : decode cX5_take 159 = .ok (.iconst 2, 1) := by decide +kernel
theorem dX5_take_160 : decode cX5_take 160 = .ok (.irem, 1) := by decide +kernel
theorem dX5_take_161 : decode cX5_take 161 = .ok (.invokevirtual 134, 3) := by decide +kernel
theorem dX5_take_164 : decode cX5_take 164 = .ok (.istore_n 3, 1) := by decide +kernel
theorem dX5_take_165 : decode cX5_take 165 = .ok (.iinc 4 1, 3) := by decide +kernel
theorem dX5_take_168 : decode cX5_take 168 = .ok (.goto (-106), 3) := by decide +kernel
theorem dX5_take_171 : decode cX5_take 171 = .ok (.iconst 0, 1) := by decide +kernel
theorem dX5_take_172 : decode cX5_take 172 = .ok (.istore 4, 2) := by decide +kernel
theorem dX5_take_174 : decode cX5_take 174 = .ok (.iload 4, 2) := by decide +kernel
theorem dX5_take_176 : decode cX5_take 176 = .ok (.iload_n 2, 1) := by decide +kernel
theorem dX5_take_177 : decode cX5_take 177 = .ok (.if_icmp .ge 28, 3) := by decide +kernel
theorem dX5_take_180 : decode cX5_take 180 = .ok (.aload_n 0, 1) := by decide +kernel
theorem dX5_take_181 : decode cX5_take 181 = .ok (.getfield 36, 3) := by decide +kernel
theorem dX5_take_184 : decode cX5_take 184 = .ok (.iload 4, 2) := by decide +kernel
theorem dX5_take_186 : decode cX5_take 186 = .ok (.aload_n 0, 1) := by decide +kernel
theorem dX5_take_187 : decode cX5_take 187 = .ok (.getfield 45, 3) := by decide +kernel
theorem dX5_take_190 : decode cX5_take 190 = .ok (.bipush 20, 2) := by decide +kernel
theorem dX5_take_192 : decode cX5_take 192 = .ok (.iload_n 1, 1) := by decide +kernel
theorem dX5_take_193 : decode cX5_take 193 = .ok (.imul, 1) := by decide +kernel
theorem dX5_take_194 : decode cX5_take 194 = .ok (.iload 4, 2) := by decide +kernel
theorem dX5_take_196 : decode cX5_take 196 = .ok (.iadd, 1) := by decide +kernel
theorem dX5_take_197 : decode cX5_take 197 = .ok (.iaload, 1) := by decide +kernel
theorem dX5_take_198 : decode cX5_take 198 = .ok (.iastore, 1) := by decide +kernel
theorem dX5_take_199 : decode cX5_take 199 = .ok (.iinc 4 1, 3) := by decide +kernel
theorem dX5_take_202 : decode cX5_take 202 = .ok (.goto (-28), 3) := by decide +kernel
theorem dX5_take_205 : decode cX5_take 205 = .ok (.aload_n 0, 1) := by decide +kernel
theorem dX5_take_206 : decode cX5_take 206 = .ok (.iload_n 2, 1) := by decide +kernel
theorem dX5_take_207 : decode cX5_take 207 = .ok (.putfield 96, 3) := by decide +kernel
theorem dX5_take_210 : decode cX5_take 210 = .ok (.aload_n 0, 1) := by decide +kernel
theorem dX5_take_211 : decode cX5_take 211 = .ok (.invokevirtual 99, 3) := by decide +kernel
theorem dX5_take_214 : decode cX5_take 214 = .ok (.aload_n 0, 1) := by decide +kernel
theorem dX5_take_215 : decode cX5_take 215 = .ok (.iconst 2, 1) := by decide +kernel
theorem dX5_take_216 : decode cX5_take 216 = .ok (.invokevirtual 196, 3) := by decide +kernel
theorem dX5_take_219 : decode cX5_take 219 = .ok (.ireturn, 1) := by decide +kernel
theorem dX5_write_0 : decode cX5_write 0 = .ok (.iload_n 1, 1) := by decide +kernel
theorem dX5_write_1 : decode cX5_write 1 = .ok (.invokestatic 181, 3) := by decide +kernel
theorem dX5_write_4 : decode cX5_write 4 = .ok (.ifCond .ne 7, 3) := by decide +kernel
theorem dX5_write_7 : decode cX5_write 7 = .ok (.sipush (-200), 3) := by decide +kernel
theorem dX5_write_10 : decode cX5_write 10 = .ok (.ireturn, 1) := by decide +kernel
theorem dX5_write_11 : decode cX5_write 11 = .ok (.aload_n 0, 1) := by decide +kernel
theorem dX5_write_12 : decode cX5_write 12 = .ok (.getfield 39, 3) := by decide +kernel
theorem dX5_write_15 : decode cX5_write 15 = .ok (.iload_n 1, 1) := by decide +kernel
theorem dX5_write_16 : decode cX5_write 16 = .ok (.iaload, 1) := by decide +kernel
theorem dX5_write_17 : decode cX5_write 17 = .ok (.ifCond .ge 9, 3) := by decide +kernel
theorem dX5_write_20 : decode cX5_write 20 = .ok (.aload_n 0, 1) := by decide +kernel
theorem dX5_write_21 : decode cX5_write 21 = .ok (.iconst 1, 1) := by decide +kernel
theorem dX5_write_22 : decode cX5_write 22 = .ok (.invokevirtual 184, 3) := by decide +kernel
theorem dX5_write_25 : decode cX5_write 25 = .ok (.ireturn, 1) := by decide +kernel
theorem dX5_write_26 : decode cX5_write 26 = .ok (.aload_n 0, 1) := by decide +kernel
theorem dX5_write_27 : decode cX5_write 27 = .ok (.getfield 42, 3) := by decide +kernel
theorem dX5_write_30 : decode cX5_write 30 = .ok (.iload_n 1, 1) := by decide +kernel
theorem dX5_write_31 : decode cX5_write 31 = .ok (.iaload, 1) := by decide +kernel
theorem dX5_write_32 : decode cX5_write 32 = .ok (.aload_n 0, 1) := by decide +kernel
theorem dX5_write_33 : decode cX5_write 33 = .ok (.getfield 96, 3) := by decide +kernel
theorem dX5_write_36 : decode cX5_write 36 = .ok (.if_icmp .ge 9, 3) := by decide +kernel
theorem dX5_write_39 : decode cX5_write 39 = .ok (.aload_n 0, 1) := by decide +kernel
theorem dX5_write_40 : decode cX5_write 40 = .ok (.iconst 2, 1) := by decide +kernel
theorem dX5_write_41 : decode cX5_write 41 = .ok (.invokevirtual 184, 3) := by decide +kernel
theorem dX5_write_44 : decode cX5_write 44 = .ok (.ireturn, 1) := by decide +kernel
theorem dX5_write_45 : decode cX5_write 45 = .ok (.iconst 0, 1) := by decide +kernel
theorem dX5_write_46 : decode cX5_write 46 = .ok (.istore_n 2, 1) := by decide +kernel
theorem dX5_write_47 : decode cX5_write 47 = .ok (.iload_n 2, 1) := by decide +kernel
theorem dX5_write_48 : decode cX5_write 48 = .ok (.aload_n 0, 1) := by decide +kernel
theorem dX5_write_49 : decode cX5_write 49 = .ok (.getfield 96, 3) := by decide +kernel
theorem dX5_write_52 : decode cX5_write 52 = .ok (.if_icmp .ge 26, 3) := by decide +kernel
theorem dX5_write_55 : decode cX5_write 55 = .ok (.aload_n 0, 1) := by decide +kernel
theorem dX5_write_56 : decode cX5_write 56 = .ok (.getfield 45, 3) := by decide +kernel
theorem dX5_write_59 : decode cX5_write 59 = .ok (.bipush 20, 2) := by decide +kernel
theorem dX5_write_61 : decode cX5_write 61 = .ok (.iload_n 1, 1) := by decide +kernel
theorem dX5_write_62 : decode cX5_write 62 = .ok (.imul, 1) := by decide +kernel
theorem dX5_write_63 : decode cX5_write 63 = .ok (.iload_n 2, 1) := by decide +kernel
theorem dX5_write_64 : decode cX5_write 64 = .ok (.iadd, 1) := by decide +kernel
theorem dX5_write_65 : decode cX5_write 65 = .ok (.aload_n 0, 1) := by decide +kernel
theorem dX5_write_66 : decode cX5_write 66 = .ok (.getfield 36, 3) := by decide +kernel
theorem dX5_write_69 : decode cX5_write 69 = .ok (.iload_n 2, 1) := by decide +kernel
theorem dX5_write_70 : decode cX5_write 70 = .ok (.iaload, 1) := by decide +kernel
theorem dX5_write_71 : decode cX5_write 71 = .ok (.iastore, 1) := by decide +kernel
theorem dX5_write_72 : decode cX5_write 72 = .ok (.iinc 2 1, 3) := by decide +kernel
theorem dX5_write_75 : decode cX5_write 75 = .ok (.goto (-28), 3) := by decide +kernel
theorem dX5_write_78 : decode cX5_write 78 = .ok (.aload_n 0, 1) := by decide +kernel
theorem dX5_write_79 : decode cX5_write 79 = .ok (.getfield 96, 3) := by decide +kernel
theorem dX5_write_82 : decode cX5_write 82 = .ok (.ireturn, 1) := by decide +kernel
theorem dX5_count_0 : decode cX5_count 0 = .ok (.iload_n 1, 1) := by decide +kernel
theorem dX5_count_1 : decode cX5_count 1 = .ok (.tableswitch 91 0 6 #[43, 48, 53, 58, 71, 76, 86], 43) := by decide +kernel
theorem dX5_count_44 : decode cX5_count 44 = .ok (.aload_n 0, 1) := by decide +kernel
theorem dX5_count_45 : decode cX5_count 45 = .ok (.getfield 74, 3) := by decide +kernel
theorem dX5_count_48 : decode cX5_count 48 = .ok (.ireturn, 1) := by decide +kernel
theorem dX5_count_49 : decode cX5_count 49 = .ok (.aload_n 0, 1) := by decide +kernel
theorem dX5_count_50 : decode cX5_count 50 = .ok (.getfield 77, 3) := by decide +kernel
theorem dX5_count_53 : decode cX5_count 53 = .ok (.ireturn, 1) := by decide +kernel
theorem dX5_count_54 : decode cX5_count 54 = .ok (.aload_n 0, 1) := by decide +kernel
theorem dX5_count_55 : decode cX5_count 55 = .ok (.getfield 80, 3) := by decide +kernel
theorem dX5_count_58 : decode cX5_count 58 = .ok (.ireturn, 1) := by decide +kernel
theorem dX5_count_59 : decode cX5_count 59 = .ok (.aload_n 0, 1) := by decide +kernel
theorem dX5_count_60 : decode cX5_count 60 = .ok (.getfield 83, 3) := by decide +kernel
theorem dX5_count_63 : decode cX5_count 63 = .ok (.ifCond .eq 7, 3) := by decide +kernel
theorem dX5_count_66 : decode cX5_count 66 = .ok (.iconst 1, 1) := by decide +kernel
theorem dX5_count_67 : decode cX5_count 67 = .ok (.goto 4, 3) := by decide +kernel
theorem dX5_count_70 : decode cX5_count 70 = .ok (.iconst 0, 1) := by decide +kernel
theorem dX5_count_71 : decode cX5_count 71 = .ok (.ireturn, 1) := by decide +kernel
theorem dX5_count_72 : decode cX5_count 72 = .ok (.aload_n 0, 1) := by decide +kernel
theorem dX5_count_73 : decode cX5_count 73 = .ok (.getfield 71, 3) := by decide +kernel
theorem dX5_count_76 : decode cX5_count 76 = .ok (.ireturn, 1) := by decide +kernel
theorem dX5_count_77 : decode cX5_count 77 = .ok (.aload_n 0, 1) := by decide +kernel
theorem dX5_count_78 : decode cX5_count 78 = .ok (.getfield 74, 3) := by decide +kernel
theorem dX5_count_81 : decode cX5_count 81 = .ok (.aload_n 0, 1) := by decide +kernel
theorem dX5_count_82 : decode cX5_count 82 = .ok (.getfield 77, 3) := by decide +kernel
theorem dX5_count_85 : decode cX5_count 85 = .ok (.imul, 1) := by decide +kernel
theorem dX5_count_86 : decode cX5_count 86 = .ok (.ireturn, 1) := by decide +kernel
theorem dX5_count_87 : decode cX5_count 87 = .ok (.aload_n 0, 1) := by decide +kernel
theorem dX5_count_88 : decode cX5_count 88 = .ok (.getfield 176, 3) := by decide +kernel
theorem dX5_count_91 : decode cX5_count 91 = .ok (.ireturn, 1) := by decide +kernel
theorem dX5_count_92 : decode cX5_count 92 = .ok (.sipush (-200), 3) := by decide +kernel
theorem dX5_count_95 : decode cX5_count 95 = .ok (.ireturn, 1) := by decide +kernel
theorem dX5_digest_0 : decode cX5_digest 0 = .ok (.ldc2_w 199, 3) := by decide +kernel
theorem dX5_digest_3 : decode cX5_digest 3 = .ok (.lstore_n 1, 1) := by decide +kernel
theorem dX5_digest_4 : decode cX5_digest 4 = .ok (.iconst 0, 1) := by decide +kernel
theorem dX5_digest_5 : decode cX5_digest 5 = .ok (.istore_n 3, 1) := by decide +kernel
theorem dX5_digest_6 : decode cX5_digest 6 = .ok (.iload_n 3, 1) := by decide +kernel
theorem dX5_digest_7 : decode cX5_digest 7 = .ok (.bipush 6, 2) := by decide +kernel
theorem dX5_digest_9 : decode cX5_digest 9 = .ok (.if_icmp .ge 22, 3) := by decide +kernel
theorem dX5_digest_12 : decode cX5_digest 12 = .ok (.ldc2_w 201, 3) := by decide +kernel
theorem dX5_digest_15 : decode cX5_digest 15 = .ok (.lload_n 1, 1) := by decide +kernel
theorem dX5_digest_16 : decode cX5_digest 16 = .ok (.lmul, 1) := by decide +kernel
theorem dX5_digest_17 : decode cX5_digest 17 = .ok (.aload_n 0, 1) := by decide +kernel
theorem dX5_digest_18 : decode cX5_digest 18 = .ok (.iload_n 3, 1) := by decide +kernel
theorem dX5_digest_19 : decode cX5_digest 19 = .ok (.invokevirtual 203, 3) := by decide +kernel
theorem dX5_digest_22 : decode cX5_digest 22 = .ok (.i2l, 1) := by decide +kernel
theorem dX5_digest_23 : decode cX5_digest 23 = .ok (.ladd, 1) := by decide +kernel
theorem dX5_digest_24 : decode cX5_digest 24 = .ok (.lstore_n 1, 1) := by decide +kernel
theorem dX5_digest_25 : decode cX5_digest 25 = .ok (.iinc 3 1, 3) := by decide +kernel
theorem dX5_digest_28 : decode cX5_digest 28 = .ok (.goto (-22), 3) := by decide +kernel
theorem dX5_digest_31 : decode cX5_digest 31 = .ok (.iconst 0, 1) := by decide +kernel
theorem dX5_digest_32 : decode cX5_digest 32 = .ok (.istore_n 3, 1) := by decide +kernel
theorem dX5_digest_33 : decode cX5_digest 33 = .ok (.iload_n 3, 1) := by decide +kernel
theorem dX5_digest_34 : decode cX5_digest 34 = .ok (.iconst 5, 1) := by decide +kernel
theorem dX5_digest_35 : decode cX5_digest 35 = .ok (.if_icmp .ge 22, 3) := by decide +kernel
theorem dX5_digest_38 : decode cX5_digest 38 = .ok (.ldc2_w 201, 3) := by decide +kernel
theorem dX5_digest_41 : decode cX5_digest 41 = .ok (.lload_n 1, 1) := by decide +kernel
theorem dX5_digest_42 : decode cX5_digest 42 = .ok (.lmul, 1) := by decide +kernel
theorem dX5_digest_43 : decode cX5_digest 43 = .ok (.aload_n 0, 1) := by decide +kernel
theorem dX5_digest_44 : decode cX5_digest 44 = .ok (.iload_n 3, 1) := by decide +kernel
theorem dX5_digest_45 : decode cX5_digest 45 = .ok (.invokevirtual 196, 3) := by decide +kernel
theorem dX5_digest_48 : decode cX5_digest 48 = .ok (.i2l, 1) := by decide +kernel
theorem dX5_digest_49 : decode cX5_digest 49 = .ok (.ladd, 1) := by decide +kernel
theorem dX5_digest_50 : decode cX5_digest 50 = .ok (.lstore_n 1, 1) := by decide +kernel
theorem dX5_digest_51 : decode cX5_digest 51 = .ok (.iinc 3 1, 3) := by decide +kernel
theorem dX5_digest_54 : decode cX5_digest 54 = .ok (.goto (-21), 3) := by decide +kernel
theorem dX5_digest_57 : decode cX5_digest 57 = .ok (.iconst 0, 1) := by decide +kernel
theorem dX5_digest_58 : decode cX5_digest 58 = .ok (.istore_n 3, 1) := by decide +kernel
theorem dX5_digest_59 : decode cX5_digest 59 = .ok (.iload_n 3, 1) := by decide +kernel
theorem dX5_digest_60 : decode cX5_digest 60 = .ok (.aload_n 0, 1) := by decide +kernel
theorem dX5_digest_61 : decode cX5_digest 61 = .ok (.getfield 96, 3) := by decide +kernel
theorem dX5_digest_64 : decode cX5_digest 64 = .ok (.if_icmp .ge 23, 3) := by decide +kernel
theorem dX5_digest_67 : decode cX5_digest 67 = .ok (.ldc2_w 201, 3) := by decide +kernel
theorem dX5_digest_70 : decode cX5_digest 70 = .ok (.lload_n 1, 1) := by decide +kernel
theorem dX5_digest_71 : decode cX5_digest 71 = .ok (.lmul, 1) := by decide +kernel
theorem dX5_digest_72 : decode cX5_digest 72 = .ok (.aload_n 0, 1) := by decide +kernel
theorem dX5_digest_73 : decode cX5_digest 73 = .ok (.getfield 36, 3) := by decide +kernel
theorem dX5_digest_76 : decode cX5_digest 76 = .ok (.iload_n 3, 1) := by decide +kernel
theorem dX5_digest_77 : decode cX5_digest 77 = .ok (.iaload, 1) := by decide +kernel
theorem dX5_digest_78 : decode cX5_digest 78 = .ok (.i2l, 1) := by decide +kernel
theorem dX5_digest_79 : decode cX5_digest 79 = .ok (.ladd, 1) := by decide +kernel
theorem dX5_digest_80 : decode cX5_digest 80 = .ok (.lstore_n 1, 1) := by decide +kernel
theorem dX5_digest_81 : decode cX5_digest 81 = .ok (.iinc 3 1, 3) := by decide +kernel
theorem dX5_digest_84 : decode cX5_digest 84 = .ok (.goto (-25), 3) := by decide +kernel
theorem dX5_digest_87 : decode cX5_digest 87 = .ok (.iconst 0, 1) := by decide +kernel
theorem dX5_digest_88 : decode cX5_digest 88 = .ok (.istore_n 3, 1) := by decide +kernel
theorem dX5_digest_89 : decode cX5_digest 89 = .ok (.iload_n 3, 1) := by decide +kernel
theorem dX5_digest_90 : decode cX5_digest 90 = .ok (.aload_n 0, 1) := by decide +kernel
theorem dX5_digest_91 : decode cX5_digest 91 = .ok (.getfield 74, 3) := by decide +kernel
theorem dX5_digest_94 : decode cX5_digest 94 = .ok (.aload_n 0, 1) := by decide +kernel
theorem dX5_digest_95 : decode cX5_digest 95 = .ok (.getfield 77, 3) := by decide +kernel
theorem dX5_digest_98 : decode cX5_digest 98 = .ok (.imul, 1) := by decide +kernel
theorem dX5_digest_99 : decode cX5_digest 99 = .ok (.if_icmp .ge 22, 3) := by decide +kernel
theorem dX5_digest_102 : decode cX5_digest 102 = .ok (.ldc2_w 201, 3) := by decide +kernel
theorem dX5_digest_105 : decode cX5_digest 105 = .ok (.lload_n 1, 1) := by decide +kernel
theorem dX5_digest_106 : decode cX5_digest 106 = .ok (.lmul, 1) := by decide +kernel
theorem dX5_digest_107 : decode cX5_digest 107 = .ok (.aload_n 0, 1) := by decide +kernel
theorem dX5_digest_108 : decode cX5_digest 108 = .ok (.iload_n 3, 1) := by decide +kernel
theorem dX5_digest_109 : decode cX5_digest 109 = .ok (.invokevirtual 205, 3) := by decide +kernel
theorem dX5_digest_112 : decode cX5_digest 112 = .ok (.i2l, 1) := by decide +kernel
theorem dX5_digest_113 : decode cX5_digest 113 = .ok (.ladd, 1) := by decide +kernel
theorem dX5_digest_114 : decode cX5_digest 114 = .ok (.lstore_n 1, 1) := by decide +kernel
theorem dX5_digest_115 : decode cX5_digest 115 = .ok (.iinc 3 1, 3) := by decide +kernel
theorem dX5_digest_118 : decode cX5_digest 118 = .ok (.goto (-29), 3) := by decide +kernel
theorem dX5_digest_121 : decode cX5_digest 121 = .ok (.lload_n 1, 1) := by decide +kernel
theorem dX5_digest_122 : decode cX5_digest 122 = .ok (.lreturn, 1) := by decide +kernel
end
section
/-! the instructions, decoded -/
theorem dL_law_0 : decode cL_law 0 = .ok (.new 7, 3) := by decide +kernel
theorem dL_law_3 : decode cL_law 3 = .ok (.dup, 1) := by decide +kernel
theorem dL_law_4 : decode cL_law 4 = .ok (.invokespecial 9, 3) := by decide +kernel
theorem dL_law_7 : decode cL_law 7 = .ok (.astore_n 1, 1) := by decide +kernel
theorem dL_law_8 : decode cL_law 8 = .ok (.new 10, 3) := by decide +kernel
theorem dL_law_11 : decode cL_law 11 = .ok (.dup, 1) := by decide +kernel
theorem dL_law_12 : decode cL_law 12 = .ok (.invokespecial 12, 3) := by decide +kernel
theorem dL_law_15 : decode cL_law 15 = .ok (.astore_n 2, 1) := by decide +kernel
theorem dL_law_16 : decode cL_law 16 = .ok (.iconst 0, 1) := by decide +kernel
theorem dL_law_17 : decode cL_law 17 = .ok (.istore_n 3, 1) := by decide +kernel
theorem dL_law_18 : decode cL_law 18 = .ok (.iload_n 3, 1) := by decide +kernel
theorem dL_law_19 : decode cL_law 19 = .ok (.aload_n 0, 1) := by decide +kernel
theorem dL_law_20 : decode cL_law 20 = .ok (.arraylength, 1) := by decide +kernel
theorem dL_law_21 : decode cL_law 21 = .ok (.bipush 6, 2) := by decide +kernel
theorem dL_law_23 : decode cL_law 23 = .ok (.isub, 1) := by decide +kernel
theorem dL_law_24 : decode cL_law 24 = .ok (.if_icmp .gt 903, 3) := by decide +kernel
theorem dL_law_27 : decode cL_law 27 = .ok (.aload_n 0, 1) := by decide +kernel
theorem dL_law_28 : decode cL_law 28 = .ok (.iload_n 3, 1) := by decide +kernel
theorem dL_law_29 : decode cL_law 29 = .ok (.iaload, 1) := by decide +kernel
theorem dL_law_30 : decode cL_law 30 = .ok (.bipush 31, 2) := by decide +kernel
theorem dL_law_32 : decode cL_law 32 = .ok (.iand, 1) := by decide +kernel
theorem dL_law_33 : decode cL_law 33 = .ok (.tableswitch 888 0 27 #[127, 196, 219, 242, 265, 288, 311, 334, 347, 370, 383, 396, 409, 432, 455, 488, 501, 524, 557, 570, 613, 636, 689, 732, 795, 828, 851, 874], 127) := by decide +kernel
theorem dL_law_160 : decode cL_law 160 = .ok (.aload_n 1, 1) := by decide +kernel
theorem dL_law_161 : decode cL_law 161 = .ok (.aload_n 0, 1) := by decide +kernel
theorem dL_law_162 : decode cL_law 162 = .ok (.iload_n 3, 1) := by decide +kernel
theorem dL_law_163 : decode cL_law 163 = .ok (.iconst 1, 1) := by decide +kernel
theorem dL_law_164 : decode cL_law 164 = .ok (.iadd, 1) := by decide +kernel
theorem dL_law_165 : decode cL_law 165 = .ok (.iaload, 1) := by decide +kernel
theorem dL_law_166 : decode cL_law 166 = .ok (.aload_n 0, 1) := by decide +kernel
theorem dL_law_167 : decode cL_law 167 = .ok (.iload_n 3, 1) := by decide +kernel
theorem dL_law_168 : decode cL_law 168 = .ok (.iconst 2, 1) := by decide +kernel
theorem dL_law_169 : decode cL_law 169 = .ok (.iadd, 1) := by decide +kernel
theorem dL_law_170 : decode cL_law 170 = .ok (.iaload, 1) := by decide +kernel
theorem dL_law_171 : decode cL_law 171 = .ok (.aload_n 0, 1) := by decide +kernel
theorem dL_law_172 : decode cL_law 172 = .ok (.iload_n 3, 1) := by decide +kernel
theorem dL_law_173 : decode cL_law 173 = .ok (.iconst 3, 1) := by decide +kernel
theorem dL_law_174 : decode cL_law 174 = .ok (.iadd, 1) := by decide +kernel
theorem dL_law_175 : decode cL_law 175 = .ok (.iaload, 1) := by decide +kernel
theorem dL_law_176 : decode cL_law 176 = .ok (.aload_n 0, 1) := by decide +kernel
theorem dL_law_177 : decode cL_law 177 = .ok (.iload_n 3, 1) := by decide +kernel
theorem dL_law_178 : decode cL_law 178 = .ok (.iconst 4, 1) := by decide +kernel
theorem dL_law_179 : decode cL_law 179 = .ok (.iadd, 1) := by decide +kernel
theorem dL_law_180 : decode cL_law 180 = .ok (.iaload, 1) := by decide +kernel
theorem dL_law_181 : decode cL_law 181 = .ok (.ifCond .eq 7, 3) := by decide +kernel
theorem dL_law_184 : decode cL_law 184 = .ok (.iconst 1, 1) := by decide +kernel
theorem dL_law_185 : decode cL_law 185 = .ok (.goto 4, 3) := by decide +kernel
theorem dL_law_188 : decode cL_law 188 = .ok (.iconst 0, 1) := by decide +kernel
theorem dL_law_189 : decode cL_law 189 = .ok (.invokevirtual 13, 3) := by decide +kernel
theorem dL_law_192 : decode cL_law 192 = .ok (.aload_n 2, 1) := by decide +kernel
theorem dL_law_193 : decode cL_law 193 = .ok (.aload_n 0, 1) := by decide +kernel
theorem dL_law_194 : decode cL_law 194 = .ok (.iload_n 3, 1) := by decide +kernel
theorem dL_law_195 : decode cL_law 195 = .ok (.iconst 1, 1) := by decide +kernel
theorem dL_law_196 : decode cL_law 196 = .ok (.iadd, 1) := by decide +kernel
theorem dL_law_197 : decode cL_law 197 = .ok (.iaload, 1) := by decide +kernel
theorem dL_law_198 : decode cL_law 198 = .ok (.aload_n 0, 1) := by decide +kernel
theorem dL_law_199 : decode cL_law 199 = .ok (.iload_n 3, 1) := by decide +kernel
theorem dL_law_200 : decode cL_law 200 = .ok (.iconst 2, 1) := by decide +kernel
theorem dL_law_201 : decode cL_law 201 = .ok (.iadd, 1) := by decide +kernel
theorem dL_law_202 : decode cL_law 202 = .ok (.iaload, 1) := by decide +kernel
theorem dL_law_203 : decode cL_law 203 = .ok (.aload_n 0, 1) := by decide +kernel
theorem dL_law_204 : decode cL_law 204 = .ok (.iload_n 3, 1) := by decide +kernel
theorem dL_law_205 : decode cL_law 205 = .ok (.iconst 3, 1) := by decide +kernel
theorem dL_law_206 : decode cL_law 206 = .ok (.iadd, 1) := by decide +kernel
theorem dL_law_207 : decode cL_law 207 = .ok (.iaload, 1) := by decide +kernel
theorem dL_law_208 : decode cL_law 208 = .ok (.aload_n 0, 1) := by decide +kernel
theorem dL_law_209 : decode cL_law 209 = .ok (.iload_n 3, 1) := by decide +kernel
theorem dL_law_210 : decode cL_law 210 = .ok (.iconst 4, 1) := by decide +kernel
theorem dL_law_211 : decode cL_law 211 = .ok (.iadd, 1) := by decide +kernel
theorem dL_law_212 : decode cL_law 212 = .ok (.iaload, 1) := by decide +kernel
theorem dL_law_213 : decode cL_law 213 = .ok (.ifCond .eq 7, 3) := by decide +kernel
theorem dL_law_216 : decode cL_law 216 = .ok (.iconst 1, 1) := by decide +kernel
theorem dL_law_217 : decode cL_law 217 = .ok (.goto 4, 3) := by decide +kernel
theorem dL_law_220 : decode cL_law 220 = .ok (.iconst 0, 1) := by decide +kernel
theorem dL_law_221 : decode cL_law 221 = .ok (.invokevirtual 17, 3) := by decide +kernel
theorem dL_law_224 : decode cL_law 224 = .ok (.if_icmp .eq 697, 3) := by decide +kernel
theorem dL_law_227 : decode cL_law 227 = .ok (.iconst 0, 1) := by decide +kernel
theorem dL_law_228 : decode cL_law 228 = .ok (.ireturn, 1) := by decide +kernel
theorem dL_law_229 : decode cL_law 229 = .ok (.aload_n 1, 1) := by decide +kernel
theorem dL_law_230 : decode cL_law 230 = .ok (.aload_n 0, 1) := by decide +kernel
theorem dL_law_231 : decode cL_law 231 = .ok (.iload_n 3, 1) := by decide +kernel
theorem dL_law_232 : decode cL_law 232 = .ok (.iconst 1, 1) := by decide +kernel
theorem dL_law_233 : decode cL_law 233 = .ok (.iadd, 1) := by decide +kernel
theorem dL_law_234 : decode cL_law 234 = .ok (.iaload, 1) := by decide +kernel
theorem dL_law_235 : decode cL_law 235 = .ok (.invokevirtual 18, 3) := by decide +kernel
theorem dL_law_238 : decode cL_law 238 = .ok (.aload_n 2, 1) := by decide +kernel
theorem dL_law_239 : decode cL_law 239 = .ok (.aload_n 0, 1) := by decide +kernel
theorem dL_law_240 : decode cL_law 240 = .ok (.iload_n 3, 1) := by decide +kernel
theorem dL_law_241 : decode cL_law 241 = .ok (.iconst 1, 1) := by decide +kernel
theorem dL_law_242 : decode cL_law 242 = .ok (.iadd, 1) := by decide +kernel
theorem dL_law_243 : decode cL_law 243 = .ok (.iaload, 1) := by decide +kernel
theorem dL_law_244 : decode cL_law 244 = .ok (.invokevirtual 22, 3) := by decide +kernel
theorem dL_law_247 : decode cL_law 247 = .ok (.if_icmp .eq 674, 3) := by decide +kernel
theorem dL_law_250 : decode cL_law 250 = .ok (.iconst 0, 1) := by decide +kernel
theorem dL_law_251 : decode cL_law 251 = .ok (.ireturn, 1) := by decide +kernel
theorem dL_law_252 : decode cL_law 252 = .ok (.aload_n 1, 1) := by decide +kernel
theorem dL_law_253 : decode cL_law 253 = .ok (.aload_n 0, 1) := by decide +kernel
theorem dL_law_254 : decode cL_law 254 = .ok (.iload_n 3, 1) := by decide +kernel
theorem dL_law_255 : decode cL_law 255 = .ok (.iconst 1, 1) := by decide +kernel
theorem dL_law_256 : decode cL_law 256 = .ok (.iadd, 1) := by decide +kernel
theorem dL_law_257 : decode cL_law 257 = .ok (.iaload, 1) := by decide +kernel
theorem dL_law_258 : decode cL_law 258 = .ok (.invokevirtual 23, 3) := by decide +kernel
theorem dL_law_261 : decode cL_law 261 = .ok (.aload_n 2, 1) := by decide +kernel
theorem dL_law_262 : decode cL_law 262 = .ok (.aload_n 0, 1) := by decide +kernel
theorem dL_law_263 : decode cL_law 263 = .ok (.iload_n 3, 1) := by decide +kernel
theorem dL_law_264 : decode cL_law 264 = .ok (.iconst 1, 1) := by decide +kernel
theorem dL_law_265 : decode cL_law 265 = .ok (.iadd, 1) := by decide +kernel
theorem dL_law_266 : decode cL_law 266 = .ok (.iaload, 1) := by decide +kernel
theorem dL_law_267 : decode cL_law 267 = .ok (.invokevirtual 26, 3) := by decide +kernel
theorem dL_law_270 : decode cL_law 270 = .ok (.if_icmp .eq 651, 3) := by decide +kernel
theorem dL_law_273 : decode cL_law 273 = .ok (.iconst 0, 1) := by decide +kernel
theorem dL_law_274 : decode cL_law 274 = .ok (.ireturn, 1) := by decide +kernel
theorem dL_law_275 : decode cL_law 275 = .ok (.aload_n 1, 1) := by decide +kernel
theorem dL_law_276 : decode cL_law 276 = .ok (.aload_n 0, 1) := by decide +kernel
theorem dL_law_277 : decode cL_law 277 = .ok (.iload_n 3, 1) := by decide +kernel
theorem dL_law_278 : decode cL_law 278 = .ok (.iconst 1, 1) := by decide +kernel
theorem dL_law_279 : decode cL_law 279 = .ok (.iadd, 1) := by decide +kernel
theorem dL_law_280 : decode cL_law 280 = .ok (.iaload, 1) := by decide +kernel
theorem dL_law_281 : decode cL_law 281 = .ok (.invokevirtual 27, 3) := by decide +kernel
theorem dL_law_284 : decode cL_law 284 = .ok (.aload_n 2, 1) := by decide +kernel
theorem dL_law_285 : decode cL_law 285 = .ok (.aload_n 0, 1) := by decide +kernel
theorem dL_law_286 : decode cL_law 286 = .ok (.iload_n 3, 1) := by decide +kernel
theorem dL_law_287 : decode cL_law 287 = .ok (.iconst 1, 1) := by decide +kernel
theorem dL_law_288 : decode cL_law 288 = .ok (.iadd, 1) := by decide +kernel
theorem dL_law_289 : decode cL_law 289 = .ok (.iaload, 1) := by decide +kernel
theorem dL_law_290 : decode cL_law 290 = .ok (.invokevirtual 30, 3) := by decide +kernel
theorem dL_law_293 : decode cL_law 293 = .ok (.if_icmp .eq 628, 3) := by decide +kernel
theorem dL_law_296 : decode cL_law 296 = .ok (.iconst 0, 1) := by decide +kernel
theorem dL_law_297 : decode cL_law 297 = .ok (.ireturn, 1) := by decide +kernel
theorem dL_law_298 : decode cL_law 298 = .ok (.aload_n 1, 1) := by decide +kernel
theorem dL_law_299 : decode cL_law 299 = .ok (.aload_n 0, 1) := by decide +kernel
theorem dL_law_300 : decode cL_law 300 = .ok (.iload_n 3, 1) := by decide +kernel
theorem dL_law_301 : decode cL_law 301 = .ok (.iconst 1, 1) := by decide +kernel
theorem dL_law_302 : decode cL_law 302 = .ok (.iadd, 1) := by decide +kernel
theorem dL_law_303 : decode cL_law 303 = .ok (.iaload, 1) := by decide +kernel
theorem dL_law_304 : decode cL_law 304 = .ok (.invokevirtual 31, 3) := by decide +kernel
theorem dL_law_307 : decode cL_law 307 = .ok (.aload_n 2, 1) := by decide +kernel
theorem dL_law_308 : decode cL_law 308 = .ok (.aload_n 0, 1) := by decide +kernel
theorem dL_law_309 : decode cL_law 309 = .ok (.iload_n 3, 1) := by decide +kernel
theorem dL_law_310 : decode cL_law 310 = .ok (.iconst 1, 1) := by decide +kernel
theorem dL_law_311 : decode cL_law 311 = .ok (.iadd, 1) := by decide +kernel
theorem dL_law_312 : decode cL_law 312 = .ok (.iaload, 1) := by decide +kernel
theorem dL_law_313 : decode cL_law 313 = .ok (.invokevirtual 34, 3) := by decide +kernel
theorem dL_law_316 : decode cL_law 316 = .ok (.if_icmp .eq 605, 3) := by decide +kernel
theorem dL_law_319 : decode cL_law 319 = .ok (.iconst 0, 1) := by decide +kernel
theorem dL_law_320 : decode cL_law 320 = .ok (.ireturn, 1) := by decide +kernel
theorem dL_law_321 : decode cL_law 321 = .ok (.aload_n 1, 1) := by decide +kernel
theorem dL_law_322 : decode cL_law 322 = .ok (.aload_n 0, 1) := by decide +kernel
theorem dL_law_323 : decode cL_law 323 = .ok (.iload_n 3, 1) := by decide +kernel
theorem dL_law_324 : decode cL_law 324 = .ok (.iconst 1, 1) := by decide +kernel
theorem dL_law_325 : decode cL_law 325 = .ok (.iadd, 1) := by decide +kernel
theorem dL_law_326 : decode cL_law 326 = .ok (.iaload, 1) := by decide +kernel
theorem dL_law_327 : decode cL_law 327 = .ok (.invokevirtual 35, 3) := by decide +kernel
theorem dL_law_330 : decode cL_law 330 = .ok (.aload_n 2, 1) := by decide +kernel
theorem dL_law_331 : decode cL_law 331 = .ok (.aload_n 0, 1) := by decide +kernel
theorem dL_law_332 : decode cL_law 332 = .ok (.iload_n 3, 1) := by decide +kernel
theorem dL_law_333 : decode cL_law 333 = .ok (.iconst 1, 1) := by decide +kernel
theorem dL_law_334 : decode cL_law 334 = .ok (.iadd, 1) := by decide +kernel
theorem dL_law_335 : decode cL_law 335 = .ok (.iaload, 1) := by decide +kernel
theorem dL_law_336 : decode cL_law 336 = .ok (.invokevirtual 38, 3) := by decide +kernel
theorem dL_law_339 : decode cL_law 339 = .ok (.if_icmp .eq 582, 3) := by decide +kernel
theorem dL_law_342 : decode cL_law 342 = .ok (.iconst 0, 1) := by decide +kernel
theorem dL_law_343 : decode cL_law 343 = .ok (.ireturn, 1) := by decide +kernel
theorem dL_law_344 : decode cL_law 344 = .ok (.aload_n 1, 1) := by decide +kernel
theorem dL_law_345 : decode cL_law 345 = .ok (.aload_n 0, 1) := by decide +kernel
theorem dL_law_346 : decode cL_law 346 = .ok (.iload_n 3, 1) := by decide +kernel
theorem dL_law_347 : decode cL_law 347 = .ok (.iconst 1, 1) := by decide +kernel
theorem dL_law_348 : decode cL_law 348 = .ok (.iadd, 1) := by decide +kernel
theorem dL_law_349 : decode cL_law 349 = .ok (.iaload, 1) := by decide +kernel
theorem dL_law_350 : decode cL_law 350 = .ok (.invokevirtual 39, 3) := by decide +kernel
theorem dL_law_353 : decode cL_law 353 = .ok (.aload_n 2, 1) := by decide +kernel
theorem dL_law_354 : decode cL_law 354 = .ok (.aload_n 0, 1) := by decide +kernel
theorem dL_law_355 : decode cL_law 355 = .ok (.iload_n 3, 1) := by decide +kernel
theorem dL_law_356 : decode cL_law 356 = .ok (.iconst 1, 1) := by decide +kernel
theorem dL_law_357 : decode cL_law 357 = .ok (.iadd, 1) := by decide +kernel
theorem dL_law_358 : decode cL_law 358 = .ok (.iaload, 1) := by decide +kernel
theorem dL_law_359 : decode cL_law 359 = .ok (.invokevirtual 42, 3) := by decide +kernel
theorem dL_law_362 : decode cL_law 362 = .ok (.if_icmp .eq 559, 3) := by decide +kernel
theorem dL_law_365 : decode cL_law 365 = .ok (.iconst 0, 1) := by decide +kernel
theorem dL_law_366 : decode cL_law 366 = .ok (.ireturn, 1) := by decide +kernel
theorem dL_law_367 : decode cL_law 367 = .ok (.aload_n 1, 1) := by decide +kernel
theorem dL_law_368 : decode cL_law 368 = .ok (.invokevirtual 43, 3) := by decide +kernel
theorem dL_law_371 : decode cL_law 371 = .ok (.aload_n 2, 1) := by decide +kernel
theorem dL_law_372 : decode cL_law 372 = .ok (.invokevirtual 47, 3) := by decide +kernel
theorem dL_law_375 : decode cL_law 375 = .ok (.if_icmp .eq 546, 3) := by decide +kernel
theorem dL_law_378 : decode cL_law 378 = .ok (.iconst 0, 1) := by decide +kernel
theorem dL_law_379 : decode cL_law 379 = .ok (.ireturn, 1) := by decide +kernel
theorem dL_law_380 : decode cL_law 380 = .ok (.aload_n 1, 1) := by decide +kernel
theorem dL_law_381 : decode cL_law 381 = .ok (.aload_n 0, 1) := by decide +kernel
theorem dL_law_382 : decode cL_law 382 = .ok (.iload_n 3, 1) := by decide +kernel
theorem dL_law_383 : decode cL_law 383 = .ok (.iconst 1, 1) := by decide +kernel
theorem dL_law_384 : decode cL_law 384 = .ok (.iadd, 1) := by decide +kernel
theorem dL_law_385 : decode cL_law 385 = .ok (.iaload, 1) := by decide +kernel
theorem dL_law_386 : decode cL_law 386 = .ok (.invokevirtual 48, 3) := by decide +kernel
theorem dL_law_389 : decode cL_law 389 = .ok (.aload_n 2, 1) := by decide +kernel
theorem dL_law_390 : decode cL_law 390 = .ok (.aload_n 0, 1) := by decide +kernel
theorem dL_law_391 : decode cL_law 391 = .ok (.iload_n 3, 1) := by decide +kernel
theorem dL_law_392 : decode cL_law 392 = .ok (.iconst 1, 1) := by decide +kernel
theorem dL_law_393 : decode cL_law 393 = .ok (.iadd, 1) := by decide +kernel
theorem dL_law_394 : decode cL_law 394 = .ok (.iaload, 1) := by decide +kernel
theorem dL_law_395 : decode cL_law 395 = .ok (.invokevirtual 51, 3) := by decide +kernel
theorem dL_law_398 : decode cL_law 398 = .ok (.if_icmp .eq 523, 3) := by decide +kernel
theorem dL_law_401 : decode cL_law 401 = .ok (.iconst 0, 1) := by decide +kernel
theorem dL_law_402 : decode cL_law 402 = .ok (.ireturn, 1) := by decide +kernel
theorem dL_law_403 : decode cL_law 403 = .ok (.aload_n 1, 1) := by decide +kernel
theorem dL_law_404 : decode cL_law 404 = .ok (.invokevirtual 52, 3) := by decide +kernel
theorem dL_law_407 : decode cL_law 407 = .ok (.aload_n 2, 1) := by decide +kernel
theorem dL_law_408 : decode cL_law 408 = .ok (.invokevirtual 55, 3) := by decide +kernel
theorem dL_law_411 : decode cL_law 411 = .ok (.if_icmp .eq 510, 3) := by decide +kernel
theorem dL_law_414 : decode cL_law 414 = .ok (.iconst 0, 1) := by decide +kernel
theorem dL_law_415 : decode cL_law 415 = .ok (.ireturn, 1) := by decide +kernel
theorem dL_law_416 : decode cL_law 416 = .ok (.aload_n 1, 1) := by decide +kernel
theorem dL_law_417 : decode cL_law 417 = .ok (.invokevirtual 56, 3) := by decide +kernel
theorem dL_law_420 : decode cL_law 420 = .ok (.aload_n 2, 1) := by decide +kernel
theorem dL_law_421 : decode cL_law 421 = .ok (.invokevirtual 59, 3) := by decide +kernel
theorem dL_law_424 : decode cL_law 424 = .ok (.if_icmp .eq 497, 3) := by decide +kernel
theorem dL_law_427 : decode cL_law 427 = .ok (.iconst 0, 1) := by decide +kernel
theorem dL_law_428 : decode cL_law 428 = .ok (.ireturn, 1) := by decide +kernel
theorem dL_law_429 : decode cL_law 429 = .ok (.aload_n 1, 1) := by decide +kernel
theorem dL_law_430 : decode cL_law 430 = .ok (.invokevirtual 60, 3) := by decide +kernel
theorem dL_law_433 : decode cL_law 433 = .ok (.aload_n 2, 1) := by decide +kernel
theorem dL_law_434 : decode cL_law 434 = .ok (.invokevirtual 63, 3) := by decide +kernel
theorem dL_law_437 : decode cL_law 437 = .ok (.if_icmp .eq 484, 3) := by decide +kernel
theorem dL_law_440 : decode cL_law 440 = .ok (.iconst 0, 1) := by decide +kernel
theorem dL_law_441 : decode cL_law 441 = .ok (.ireturn, 1) := by decide +kernel
theorem dL_law_442 : decode cL_law 442 = .ok (.aload_n 1, 1) := by decide +kernel
theorem dL_law_443 : decode cL_law 443 = .ok (.aload_n 0, 1) := by decide +kernel
theorem dL_law_444 : decode cL_law 444 = .ok (.iload_n 3, 1) := by decide +kernel
theorem dL_law_445 : decode cL_law 445 = .ok (.iconst 1, 1) := by decide +kernel
theorem dL_law_446 : decode cL_law 446 = .ok (.iadd, 1) := by decide +kernel
theorem dL_law_447 : decode cL_law 447 = .ok (.iaload, 1) := by decide +kernel
theorem dL_law_448 : decode cL_law 448 = .ok (.invokevirtual 64, 3) := by decide +kernel
theorem dL_law_451 : decode cL_law 451 = .ok (.aload_n 2, 1) := by decide +kernel
theorem dL_law_452 : decode cL_law 452 = .ok (.aload_n 0, 1) := by decide +kernel
theorem dL_law_453 : decode cL_law 453 = .ok (.iload_n 3, 1) := by decide +kernel
theorem dL_law_454 : decode cL_law 454 = .ok (.iconst 1, 1) := by decide +kernel
theorem dL_law_455 : decode cL_law 455 = .ok (.iadd, 1) := by decide +kernel
theorem dL_law_456 : decode cL_law 456 = .ok (.iaload, 1) := by decide +kernel
theorem dL_law_457 : decode cL_law 457 = .ok (.invokevirtual 67, 3) := by decide +kernel
theorem dL_law_460 : decode cL_law 460 = .ok (.if_icmp .eq 461, 3) := by decide +kernel
theorem dL_law_463 : decode cL_law 463 = .ok (.iconst 0, 1) := by decide +kernel
theorem dL_law_464 : decode cL_law 464 = .ok (.ireturn, 1) := by decide +kernel
theorem dL_law_465 : decode cL_law 465 = .ok (.aload_n 1, 1) := by decide +kernel
theorem dL_law_466 : decode cL_law 466 = .ok (.aload_n 0, 1) := by decide +kernel
theorem dL_law_467 : decode cL_law 467 = .ok (.iload_n 3, 1) := by decide +kernel
theorem dL_law_468 : decode cL_law 468 = .ok (.iconst 1, 1) := by decide +kernel
theorem dL_law_469 : decode cL_law 469 = .ok (.iadd, 1) := by decide +kernel
theorem dL_law_470 : decode cL_law 470 = .ok (.iaload, 1) := by decide +kernel
theorem dL_law_471 : decode cL_law 471 = .ok (.invokevirtual 68, 3) := by decide +kernel
theorem dL_law_474 : decode cL_law 474 = .ok (.aload_n 2, 1) := by decide +kernel
theorem dL_law_475 : decode cL_law 475 = .ok (.aload_n 0, 1) := by decide +kernel
theorem dL_law_476 : decode cL_law 476 = .ok (.iload_n 3, 1) := by decide +kernel
theorem dL_law_477 : decode cL_law 477 = .ok (.iconst 1, 1) := by decide +kernel
theorem dL_law_478 : decode cL_law 478 = .ok (.iadd, 1) := by decide +kernel
theorem dL_law_479 : decode cL_law 479 = .ok (.iaload, 1) := by decide +kernel
theorem dL_law_480 : decode cL_law 480 = .ok (.invokevirtual 71, 3) := by decide +kernel
theorem dL_law_483 : decode cL_law 483 = .ok (.if_icmp .eq 438, 3) := by decide +kernel
theorem dL_law_486 : decode cL_law 486 = .ok (.iconst 0, 1) := by decide +kernel
theorem dL_law_487 : decode cL_law 487 = .ok (.ireturn, 1) := by decide +kernel
theorem dL_law_488 : decode cL_law 488 = .ok (.aload_n 1, 1) := by decide +kernel
theorem dL_law_489 : decode cL_law 489 = .ok (.aload_n 0, 1) := by decide +kernel
theorem dL_law_490 : decode cL_law 490 = .ok (.iload_n 3, 1) := by decide +kernel
theorem dL_law_491 : decode cL_law 491 = .ok (.iconst 1, 1) := by decide +kernel
theorem dL_law_492 : decode cL_law 492 = .ok (.iadd, 1) := by decide +kernel
theorem dL_law_493 : decode cL_law 493 = .ok (.iaload, 1) := by decide +kernel
theorem dL_law_494 : decode cL_law 494 = .ok (.aload_n 0, 1) := by decide +kernel
theorem dL_law_495 : decode cL_law 495 = .ok (.iload_n 3, 1) := by decide +kernel
theorem dL_law_496 : decode cL_law 496 = .ok (.iconst 2, 1) := by decide +kernel
theorem dL_law_497 : decode cL_law 497 = .ok (.iadd, 1) := by decide +kernel
theorem dL_law_498 : decode cL_law 498 = .ok (.iaload, 1) := by decide +kernel
theorem dL_law_499 : decode cL_law 499 = .ok (.invokevirtual 72, 3) := by decide +kernel
theorem dL_law_502 : decode cL_law 502 = .ok (.aload_n 2, 1) := by decide +kernel
theorem dL_law_503 : decode cL_law 503 = .ok (.aload_n 0, 1) := by decide +kernel
theorem dL_law_504 : decode cL_law 504 = .ok (.iload_n 3, 1) := by decide +kernel
theorem dL_law_505 : decode cL_law 505 = .ok (.iconst 1, 1) := by decide +kernel
theorem dL_law_506 : decode cL_law 506 = .ok (.iadd, 1) := by decide +kernel
theorem dL_law_507 : decode cL_law 507 = .ok (.iaload, 1) := by decide +kernel
theorem dL_law_508 : decode cL_law 508 = .ok (.aload_n 0, 1) := by decide +kernel
theorem dL_law_509 : decode cL_law 509 = .ok (.iload_n 3, 1) := by decide +kernel
theorem dL_law_510 : decode cL_law 510 = .ok (.iconst 2, 1) := by decide +kernel
theorem dL_law_511 : decode cL_law 511 = .ok (.iadd, 1) := by decide +kernel
theorem dL_law_512 : decode cL_law 512 = .ok (.iaload, 1) := by decide +kernel
theorem dL_law_513 : decode cL_law 513 = .ok (.invokevirtual 76, 3) := by decide +kernel
theorem dL_law_516 : decode cL_law 516 = .ok (.if_icmp .eq 405, 3) := by decide +kernel
theorem dL_law_519 : decode cL_law 519 = .ok (.iconst 0, 1) := by decide +kernel
theorem dL_law_520 : decode cL_law 520 = .ok (.ireturn, 1) := by decide +kernel
theorem dL_law_521 : decode cL_law 521 = .ok (.aload_n 1, 1) := by decide +kernel
theorem dL_law_522 : decode cL_law 522 = .ok (.invokevirtual 77, 3) := by decide +kernel
theorem dL_law_525 : decode cL_law 525 = .ok (.aload_n 2, 1) := by decide +kernel
theorem dL_law_526 : decode cL_law 526 = .ok (.invokevirtual 80, 3) := by decide +kernel
theorem dL_law_529 : decode cL_law 529 = .ok (.if_icmp .eq 392, 3) := by decide +kernel
theorem dL_law_532 : decode cL_law 532 = .ok (.iconst 0, 1) := by decide +kernel
theorem dL_law_533 : decode cL_law 533 = .ok (.ireturn, 1) := by decide +kernel
theorem dL_law_534 : decode cL_law 534 = .ok (.aload_n 1, 1) := by decide +kernel
theorem dL_law_535 : decode cL_law 535 = .ok (.aload_n 0, 1) := by decide +kernel
theorem dL_law_536 : decode cL_law 536 = .ok (.iload_n 3, 1) := by decide +kernel
theorem dL_law_537 : decode cL_law 537 = .ok (.iconst 1, 1) := by decide +kernel
theorem dL_law_538 : decode cL_law 538 = .ok (.iadd, 1) := by decide +kernel
theorem dL_law_539 : decode cL_law 539 = .ok (.iaload, 1) := by decide +kernel
theorem dL_law_540 : decode cL_law 540 = .ok (.invokevirtual 81, 3) := by decide +kernel
theorem dL_law_543 : decode cL_law 543 = .ok (.aload_n 2, 1) := by decide +kernel
theorem dL_law_544 : decode cL_law 544 = .ok (.aload_n 0, 1) := by decide +kernel
theorem dL_law_545 : decode cL_law 545 = .ok (.iload_n 3, 1) := by decide +kernel
theorem dL_law_546 : decode cL_law 546 = .ok (.iconst 1, 1) := by decide +kernel
theorem dL_law_547 : decode cL_law 547 = .ok (.iadd, 1) := by decide +kernel
theorem dL_law_548 : decode cL_law 548 = .ok (.iaload, 1) := by decide +kernel
theorem dL_law_549 : decode cL_law 549 = .ok (.invokevirtual 84, 3) := by decide +kernel
theorem dL_law_552 : decode cL_law 552 = .ok (.if_icmp .eq 369, 3) := by decide +kernel
theorem dL_law_555 : decode cL_law 555 = .ok (.iconst 0, 1) := by decide +kernel
theorem dL_law_556 : decode cL_law 556 = .ok (.ireturn, 1) := by decide +kernel
theorem dL_law_557 : decode cL_law 557 = .ok (.aload_n 1, 1) := by decide +kernel
theorem dL_law_558 : decode cL_law 558 = .ok (.aload_n 0, 1) := by decide +kernel
theorem dL_law_559 : decode cL_law 559 = .ok (.iload_n 3, 1) := by decide +kernel
theorem dL_law_560 : decode cL_law 560 = .ok (.iconst 1, 1) := by decide +kernel
theorem dL_law_561 : decode cL_law 561 = .ok (.iadd, 1) := by decide +kernel
theorem dL_law_562 : decode cL_law 562 = .ok (.iaload, 1) := by decide +kernel
theorem dL_law_563 : decode cL_law 563 = .ok (.aload_n 0, 1) := by decide +kernel
theorem dL_law_564 : decode cL_law 564 = .ok (.iload_n 3, 1) := by decide +kernel
theorem dL_law_565 : decode cL_law 565 = .ok (.iconst 2, 1) := by decide +kernel
theorem dL_law_566 : decode cL_law 566 = .ok (.iadd, 1) := by decide +kernel
theorem dL_law_567 : decode cL_law 567 = .ok (.iaload, 1) := by decide +kernel
theorem dL_law_568 : decode cL_law 568 = .ok (.invokevirtual 85, 3) := by decide +kernel
theorem dL_law_571 : decode cL_law 571 = .ok (.aload_n 2, 1) := by decide +kernel
theorem dL_law_572 : decode cL_law 572 = .ok (.aload_n 0, 1) := by decide +kernel
theorem dL_law_573 : decode cL_law 573 = .ok (.iload_n 3, 1) := by decide +kernel
theorem dL_law_574 : decode cL_law 574 = .ok (.iconst 1, 1) := by decide +kernel
theorem dL_law_575 : decode cL_law 575 = .ok (.iadd, 1) := by decide +kernel
theorem dL_law_576 : decode cL_law 576 = .ok (.iaload, 1) := by decide +kernel
theorem dL_law_577 : decode cL_law 577 = .ok (.aload_n 0, 1) := by decide +kernel
theorem dL_law_578 : decode cL_law 578 = .ok (.iload_n 3, 1) := by decide +kernel
theorem dL_law_579 : decode cL_law 579 = .ok (.iconst 2, 1) := by decide +kernel
theorem dL_law_580 : decode cL_law 580 = .ok (.iadd, 1) := by decide +kernel
theorem dL_law_581 : decode cL_law 581 = .ok (.iaload, 1) := by decide +kernel
theorem dL_law_582 : decode cL_law 582 = .ok (.invokevirtual 88, 3) := by decide +kernel
theorem dL_law_585 : decode cL_law 585 = .ok (.if_icmp .eq 336, 3) := by decide +kernel
theorem dL_law_588 : decode cL_law 588 = .ok (.iconst 0, 1) := by decide +kernel
theorem dL_law_589 : decode cL_law 589 = .ok (.ireturn, 1) := by decide +kernel
theorem dL_law_590 : decode cL_law 590 = .ok (.aload_n 1, 1) := by decide +kernel
theorem dL_law_591 : decode cL_law 591 = .ok (.invokevirtual 89, 3) := by decide +kernel
theorem dL_law_594 : decode cL_law 594 = .ok (.aload_n 2, 1) := by decide +kernel
theorem dL_law_595 : decode cL_law 595 = .ok (.invokevirtual 92, 3) := by decide +kernel
theorem dL_law_598 : decode cL_law 598 = .ok (.if_icmp .eq 323, 3) := by decide +kernel
theorem dL_law_601 : decode cL_law 601 = .ok (.iconst 0, 1) := by decide +kernel
theorem dL_law_602 : decode cL_law 602 = .ok (.ireturn, 1) := by decide +kernel
theorem dL_law_603 : decode cL_law 603 = .ok (.aload_n 1, 1) := by decide +kernel
theorem dL_law_604 : decode cL_law 604 = .ok (.aload_n 0, 1) := by decide +kernel
theorem dL_law_605 : decode cL_law 605 = .ok (.iload_n 3, 1) := by decide +kernel
theorem dL_law_606 : decode cL_law 606 = .ok (.iconst 1, 1) := by decide +kernel
theorem dL_law_607 : decode cL_law 607 = .ok (.iadd, 1) := by decide +kernel
theorem dL_law_608 : decode cL_law 608 = .ok (.iaload, 1) := by decide +kernel
theorem dL_law_609 : decode cL_law 609 = .ok (.aload_n 0, 1) := by decide +kernel
theorem dL_law_610 : decode cL_law 610 = .ok (.iload_n 3, 1) := by decide +kernel
theorem dL_law_611 : decode cL_law 611 = .ok (.iconst 2, 1) := by decide +kernel
theorem dL_law_612 : decode cL_law 612 = .ok (.iadd, 1) := by decide +kernel
theorem dL_law_613 : decode cL_law 613 = .ok (.iaload, 1) := by decide +kernel
theorem dL_law_614 : decode cL_law 614 = .ok (.aload_n 0, 1) := by decide +kernel
theorem dL_law_615 : decode cL_law 615 = .ok (.iload_n 3, 1) := by decide +kernel
theorem dL_law_616 : decode cL_law 616 = .ok (.iconst 3, 1) := by decide +kernel
theorem dL_law_617 : decode cL_law 617 = .ok (.iadd, 1) := by decide +kernel
theorem dL_law_618 : decode cL_law 618 = .ok (.iaload, 1) := by decide +kernel
theorem dL_law_619 : decode cL_law 619 = .ok (.invokevirtual 93, 3) := by decide +kernel
theorem dL_law_622 : decode cL_law 622 = .ok (.aload_n 2, 1) := by decide +kernel
theorem dL_law_623 : decode cL_law 623 = .ok (.aload_n 0, 1) := by decide +kernel
theorem dL_law_624 : decode cL_law 624 = .ok (.iload_n 3, 1) := by decide +kernel
theorem dL_law_625 : decode cL_law 625 = .ok (.iconst 1, 1) := by decide +kernel
theorem dL_law_626 : decode cL_law 626 = .ok (.iadd, 1) := by decide +kernel
theorem dL_law_627 : decode cL_law 627 = .ok (.iaload, 1) := by decide +kernel
theorem dL_law_628 : decode cL_law 628 = .ok (.aload_n 0, 1) := by decide +kernel
theorem dL_law_629 : decode cL_law 629 = .ok (.iload_n 3, 1) := by decide +kernel
theorem dL_law_630 : decode cL_law 630 = .ok (.iconst 2, 1) := by decide +kernel
theorem dL_law_631 : decode cL_law 631 = .ok (.iadd, 1) := by decide +kernel
theorem dL_law_632 : decode cL_law 632 = .ok (.iaload, 1) := by decide +kernel
theorem dL_law_633 : decode cL_law 633 = .ok (.aload_n 0, 1) := by decide +kernel
theorem dL_law_634 : decode cL_law 634 = .ok (.iload_n 3, 1) := by decide +kernel
theorem dL_law_635 : decode cL_law 635 = .ok (.iconst 3, 1) := by decide +kernel
theorem dL_law_636 : decode cL_law 636 = .ok (.iadd, 1) := by decide +kernel
theorem dL_law_637 : decode cL_law 637 = .ok (.iaload, 1) := by decide +kernel
theorem dL_law_638 : decode cL_law 638 = .ok (.invokevirtual 97, 3) := by decide +kernel
theorem dL_law_641 : decode cL_law 641 = .ok (.if_icmp .eq 280, 3) := by decide +kernel
theorem dL_law_644 : decode cL_law 644 = .ok (.iconst 0, 1) := by decide +kernel
theorem dL_law_645 : decode cL_law 645 = .ok (.ireturn, 1) := by decide +kernel
theorem dL_law_646 : decode cL_law 646 = .ok (.aload_n 1, 1) := by decide +kernel
theorem dL_law_647 : decode cL_law 647 = .ok (.aload_n 0, 1) := by decide +kernel
theorem dL_law_648 : decode cL_law 648 = .ok (.iload_n 3, 1) := by decide +kernel
theorem dL_law_649 : decode cL_law 649 = .ok (.iconst 1, 1) := by decide +kernel
theorem dL_law_650 : decode cL_law 650 = .ok (.iadd, 1) := by decide +kernel
theorem dL_law_651 : decode cL_law 651 = .ok (.iaload, 1) := by decide +kernel
theorem dL_law_652 : decode cL_law 652 = .ok (.invokevirtual 98, 3) := by decide +kernel
theorem dL_law_655 : decode cL_law 655 = .ok (.aload_n 2, 1) := by decide +kernel
theorem dL_law_656 : decode cL_law 656 = .ok (.aload_n 0, 1) := by decide +kernel
theorem dL_law_657 : decode cL_law 657 = .ok (.iload_n 3, 1) := by decide +kernel
theorem dL_law_658 : decode cL_law 658 = .ok (.iconst 1, 1) := by decide +kernel
theorem dL_law_659 : decode cL_law 659 = .ok (.iadd, 1) := by decide +kernel
theorem dL_law_660 : decode cL_law 660 = .ok (.iaload, 1) := by decide +kernel
theorem dL_law_661 : decode cL_law 661 = .ok (.invokevirtual 101, 3) := by decide +kernel
theorem dL_law_664 : decode cL_law 664 = .ok (.if_icmp .eq 257, 3) := by decide +kernel
theorem dL_law_667 : decode cL_law 667 = .ok (.iconst 0, 1) := by decide +kernel
theorem dL_law_668 : decode cL_law 668 = .ok (.ireturn, 1) := by decide +kernel
theorem dL_law_669 : decode cL_law 669 = .ok (.aload_n 1, 1) := by decide +kernel
theorem dL_law_670 : decode cL_law 670 = .ok (.aload_n 0, 1) := by decide +kernel
theorem dL_law_671 : decode cL_law 671 = .ok (.iload_n 3, 1) := by decide +kernel
theorem dL_law_672 : decode cL_law 672 = .ok (.iconst 1, 1) := by decide +kernel
theorem dL_law_673 : decode cL_law 673 = .ok (.iadd, 1) := by decide +kernel
theorem dL_law_674 : decode cL_law 674 = .ok (.iaload, 1) := by decide +kernel
theorem dL_law_675 : decode cL_law 675 = .ok (.aload_n 0, 1) := by decide +kernel
theorem dL_law_676 : decode cL_law 676 = .ok (.iload_n 3, 1) := by decide +kernel
theorem dL_law_677 : decode cL_law 677 = .ok (.iconst 2, 1) := by decide +kernel
theorem dL_law_678 : decode cL_law 678 = .ok (.iadd, 1) := by decide +kernel
theorem dL_law_679 : decode cL_law 679 = .ok (.iaload, 1) := by decide +kernel
theorem dL_law_680 : decode cL_law 680 = .ok (.aload_n 0, 1) := by decide +kernel
theorem dL_law_681 : decode cL_law 681 = .ok (.iload_n 3, 1) := by decide +kernel
theorem dL_law_682 : decode cL_law 682 = .ok (.iconst 3, 1) := by decide +kernel
theorem dL_law_683 : decode cL_law 683 = .ok (.iadd, 1) := by decide +kernel
theorem dL_law_684 : decode cL_law 684 = .ok (.iaload, 1) := by decide +kernel
theorem dL_law_685 : decode cL_law 685 = .ok (.aload_n 0, 1) := by decide +kernel
theorem dL_law_686 : decode cL_law 686 = .ok (.iload_n 3, 1) := by decide +kernel
theorem dL_law_687 : decode cL_law 687 = .ok (.iconst 4, 1) := by decide +kernel
theorem dL_law_688 : decode cL_law 688 = .ok (.iadd, 1) := by decide +kernel
theorem dL_law_689 : decode cL_law 689 = .ok (.iaload, 1) := by decide +kernel
theorem dL_law_690 : decode cL_law 690 = .ok (.invokevirtual 102, 3) := by decide +kernel
theorem dL_law_693 : decode cL_law 693 = .ok (.aload_n 2, 1) := by decide +kernel
theorem dL_law_694 : decode cL_law 694 = .ok (.aload_n 0, 1) := by decide +kernel
theorem dL_law_695 : decode cL_law 695 = .ok (.iload_n 3, 1) := by decide +kernel
theorem dL_law_696 : decode cL_law 696 = .ok (.iconst 1, 1) := by decide +kernel
theorem dL_law_697 : decode cL_law 697 = .ok (.iadd, 1) := by decide +kernel
theorem dL_law_698 : decode cL_law 698 = .ok (.iaload, 1) := by decide +kernel
theorem dL_law_699 : decode cL_law 699 = .ok (.aload_n 0, 1) := by decide +kernel
theorem dL_law_700 : decode cL_law 700 = .ok (.iload_n 3, 1) := by decide +kernel
theorem dL_law_701 : decode cL_law 701 = .ok (.iconst 2, 1) := by decide +kernel
theorem dL_law_702 : decode cL_law 702 = .ok (.iadd, 1) := by decide +kernel
theorem dL_law_703 : decode cL_law 703 = .ok (.iaload, 1) := by decide +kernel
theorem dL_law_704 : decode cL_law 704 = .ok (.aload_n 0, 1) := by decide +kernel
theorem dL_law_705 : decode cL_law 705 = .ok (.iload_n 3, 1) := by decide +kernel
theorem dL_law_706 : decode cL_law 706 = .ok (.iconst 3, 1) := by decide +kernel
theorem dL_law_707 : decode cL_law 707 = .ok (.iadd, 1) := by decide +kernel
theorem dL_law_708 : decode cL_law 708 = .ok (.iaload, 1) := by decide +kernel
theorem dL_law_709 : decode cL_law 709 = .ok (.aload_n 0, 1) := by decide +kernel
theorem dL_law_710 : decode cL_law 710 = .ok (.iload_n 3, 1) := by decide +kernel
theorem dL_law_711 : decode cL_law 711 = .ok (.iconst 4, 1) := by decide +kernel
theorem dL_law_712 : decode cL_law 712 = .ok (.iadd, 1) := by decide +kernel
theorem dL_law_713 : decode cL_law 713 = .ok (.iaload, 1) := by decide +kernel
theorem dL_law_714 : decode cL_law 714 = .ok (.invokevirtual 106, 3) := by decide +kernel
theorem dL_law_717 : decode cL_law 717 = .ok (.if_icmp .eq 204, 3) := by decide +kernel
theorem dL_law_720 : decode cL_law 720 = .ok (.iconst 0, 1) := by decide +kernel
theorem dL_law_721 : decode cL_law 721 = .ok (.ireturn, 1) := by decide +kernel
theorem dL_law_722 : decode cL_law 722 = .ok (.aload_n 1, 1) := by decide +kernel
theorem dL_law_723 : decode cL_law 723 = .ok (.aload_n 0, 1) := by decide +kernel
theorem dL_law_724 : decode cL_law 724 = .ok (.iload_n 3, 1) := by decide +kernel
theorem dL_law_725 : decode cL_law 725 = .ok (.iconst 1, 1) := by decide +kernel
theorem dL_law_726 : decode cL_law 726 = .ok (.iadd, 1) := by decide +kernel
theorem dL_law_727 : decode cL_law 727 = .ok (.iaload, 1) := by decide +kernel
theorem dL_law_728 : decode cL_law 728 = .ok (.aload_n 0, 1) := by decide +kernel
theorem dL_law_729 : decode cL_law 729 = .ok (.iload_n 3, 1) := by decide +kernel
theorem dL_law_730 : decode cL_law 730 = .ok (.iconst 2, 1) := by decide +kernel
theorem dL_law_731 : decode cL_law 731 = .ok (.iadd, 1) := by decide +kernel
theorem dL_law_732 : decode cL_law 732 = .ok (.iaload, 1) := by decide +kernel
theorem dL_law_733 : decode cL_law 733 = .ok (.aload_n 0, 1) := by decide +kernel
theorem dL_law_734 : decode cL_law 734 = .ok (.iload_n 3, 1) := by decide +kernel
theorem dL_law_735 : decode cL_law 735 = .ok (.iconst 3, 1) := by decide +kernel
theorem dL_law_736 : decode cL_law 736 = .ok (.iadd, 1) := by decide +kernel
theorem dL_law_737 : decode cL_law 737 = .ok (.iaload, 1) := by decide +kernel
theorem dL_law_738 : decode cL_law 738 = .ok (.invokevirtual 107, 3) := by decide +kernel
theorem dL_law_741 : decode cL_law 741 = .ok (.aload_n 2, 1) := by decide +kernel
theorem dL_law_742 : decode cL_law 742 = .ok (.aload_n 0, 1) := by decide +kernel
theorem dL_law_743 : decode cL_law 743 = .ok (.iload_n 3, 1) := by decide +kernel
theorem dL_law_744 : decode cL_law 744 = .ok (.iconst 1, 1) := by decide +kernel
theorem dL_law_745 : decode cL_law 745 = .ok (.iadd, 1) := by decide +kernel
theorem dL_law_746 : decode cL_law 746 = .ok (.iaload, 1) := by decide +kernel
theorem dL_law_747 : decode cL_law 747 = .ok (.aload_n 0, 1) := by decide +kernel
theorem dL_law_748 : decode cL_law 748 = .ok (.iload_n 3, 1) := by decide +kernel
theorem dL_law_749 : decode cL_law 749 = .ok (.iconst 2, 1) := by decide +kernel
theorem dL_law_750 : decode cL_law 750 = .ok (.iadd, 1) := by decide +kernel
theorem dL_law_751 : decode cL_law 751 = .ok (.iaload, 1) := by decide +kernel
theorem dL_law_752 : decode cL_law 752 = .ok (.aload_n 0, 1) := by decide +kernel
theorem dL_law_753 : decode cL_law 753 = .ok (.iload_n 3, 1) := by decide +kernel
theorem dL_law_754 : decode cL_law 754 = .ok (.iconst 3, 1) := by decide +kernel
theorem dL_law_755 : decode cL_law 755 = .ok (.iadd, 1) := by decide +kernel
theorem dL_law_756 : decode cL_law 756 = .ok (.iaload, 1) := by decide +kernel
theorem dL_law_757 : decode cL_law 757 = .ok (.invokevirtual 110, 3) := by decide +kernel
theorem dL_law_760 : decode cL_law 760 = .ok (.if_icmp .eq 161, 3) := by decide +kernel
theorem dL_law_763 : decode cL_law 763 = .ok (.iconst 0, 1) := by decide +kernel
theorem dL_law_764 : decode cL_law 764 = .ok (.ireturn, 1) := by decide +kernel
theorem dL_law_765 : decode cL_law 765 = .ok (.aload_n 1, 1) := by decide +kernel
theorem dL_law_766 : decode cL_law 766 = .ok (.aload_n 0, 1) := by decide +kernel
theorem dL_law_767 : decode cL_law 767 = .ok (.iload_n 3, 1) := by decide +kernel
theorem dL_law_768 : decode cL_law 768 = .ok (.iconst 1, 1) := by decide +kernel
theorem dL_law_769 : decode cL_law 769 = .ok (.iadd, 1) := by decide +kernel
theorem dL_law_770 : decode cL_law 770 = .ok (.iaload, 1) := by decide +kernel
theorem dL_law_771 : decode cL_law 771 = .ok (.aload_n 0, 1) := by decide +kernel
theorem dL_law_772 : decode cL_law 772 = .ok (.iload_n 3, 1) := by decide +kernel
theorem dL_law_773 : decode cL_law 773 = .ok (.iconst 2, 1) := by decide +kernel
theorem dL_law_774 : decode cL_law 774 = .ok (.iadd, 1) := by decide +kernel
theorem dL_law_775 : decode cL_law 775 = .ok (.iaload, 1) := by decide +kernel
theorem dL_law_776 : decode cL_law 776 = .ok (.aload_n 0, 1) := by decide +kernel
theorem dL_law_777 : decode cL_law 777 = .ok (.iload_n 3, 1) := by decide +kernel
theorem dL_law_778 : decode cL_law 778 = .ok (.iconst 3, 1) := by decide +kernel
theorem dL_law_779 : decode cL_law 779 = .ok (.iadd, 1) := by decide +kernel
theorem dL_law_780 : decode cL_law 780 = .ok (.iaload, 1) := by decide +kernel
theorem dL_law_781 : decode cL_law 781 = .ok (.aload_n 0, 1) := by decide +kernel
theorem dL_law_782 : decode cL_law 782 = .ok (.iload_n 3, 1) := by decide +kernel
theorem dL_law_783 : decode cL_law 783 = .ok (.iconst 4, 1) := by decide +kernel
theorem dL_law_784 : decode cL_law 784 = .ok (.iadd, 1) := by decide +kernel
theorem dL_law_785 : decode cL_law 785 = .ok (.iaload, 1) := by decide +kernel
theorem dL_law_786 : decode cL_law 786 = .ok (.aload_n 0, 1) := by decide +kernel
theorem dL_law_787 : decode cL_law 787 = .ok (.iload_n 3, 1) := by decide +kernel
theorem dL_law_788 : decode cL_law 788 = .ok (.iconst 5, 1) := by decide +kernel
theorem dL_law_789 : decode cL_law 789 = .ok (.iadd, 1) := by decide +kernel
theorem dL_law_790 : decode cL_law 790 = .ok (.iaload, 1) := by decide +kernel
theorem dL_law_791 : decode cL_law 791 = .ok (.invokevirtual 111, 3) := by decide +kernel
theorem dL_law_794 : decode cL_law 794 = .ok (.aload_n 2, 1) := by decide +kernel
theorem dL_law_795 : decode cL_law 795 = .ok (.aload_n 0, 1) := by decide +kernel
theorem dL_law_796 : decode cL_law 796 = .ok (.iload_n 3, 1) := by decide +kernel
theorem dL_law_797 : decode cL_law 797 = .ok (.iconst 1, 1) := by decide +kernel
theorem dL_law_798 : decode cL_law 798 = .ok (.iadd, 1) := by decide +kernel
theorem dL_law_799 : decode cL_law 799 = .ok (.iaload, 1) := by decide +kernel
theorem dL_law_800 : decode cL_law 800 = .ok (.aload_n 0, 1) := by decide +kernel
theorem dL_law_801 : decode cL_law 801 = .ok (.iload_n 3, 1) := by decide +kernel
theorem dL_law_802 : decode cL_law 802 = .ok (.iconst 2, 1) := by decide +kernel
theorem dL_law_803 : decode cL_law 803 = .ok (.iadd, 1) := by decide +kernel
theorem dL_law_804 : decode cL_law 804 = .ok (.iaload, 1) := by decide +kernel
theorem dL_law_805 : decode cL_law 805 = .ok (.aload_n 0, 1) := by decide +kernel
theorem dL_law_806 : decode cL_law 806 = .ok (.iload_n 3, 1) := by decide +kernel
theorem dL_law_807 : decode cL_law 807 = .ok (.iconst 3, 1) := by decide +kernel
theorem dL_law_808 : decode cL_law 808 = .ok (.iadd, 1) := by decide +kernel
theorem dL_law_809 : decode cL_law 809 = .ok (.iaload, 1) := by decide +kernel
theorem dL_law_810 : decode cL_law 810 = .ok (.aload_n 0, 1) := by decide +kernel
theorem dL_law_811 : decode cL_law 811 = .ok (.iload_n 3, 1) := by decide +kernel
theorem dL_law_812 : decode cL_law 812 = .ok (.iconst 4, 1) := by decide +kernel
theorem dL_law_813 : decode cL_law 813 = .ok (.iadd, 1) := by decide +kernel
theorem dL_law_814 : decode cL_law 814 = .ok (.iaload, 1) := by decide +kernel
theorem dL_law_815 : decode cL_law 815 = .ok (.aload_n 0, 1) := by decide +kernel
theorem dL_law_816 : decode cL_law 816 = .ok (.iload_n 3, 1) := by decide +kernel
theorem dL_law_817 : decode cL_law 817 = .ok (.iconst 5, 1) := by decide +kernel
theorem dL_law_818 : decode cL_law 818 = .ok (.iadd, 1) := by decide +kernel
theorem dL_law_819 : decode cL_law 819 = .ok (.iaload, 1) := by decide +kernel
theorem dL_law_820 : decode cL_law 820 = .ok (.invokevirtual 115, 3) := by decide +kernel
theorem dL_law_823 : decode cL_law 823 = .ok (.if_icmp .eq 98, 3) := by decide +kernel
theorem dL_law_826 : decode cL_law 826 = .ok (.iconst 0, 1) := by decide +kernel
theorem dL_law_827 : decode cL_law 827 = .ok (.ireturn, 1) := by decide +kernel
theorem dL_law_828 : decode cL_law 828 = .ok (.aload_n 1, 1) := by decide +kernel
theorem dL_law_829 : decode cL_law 829 = .ok (.aload_n 0, 1) := by decide +kernel
theorem dL_law_830 : decode cL_law 830 = .ok (.iload_n 3, 1) := by decide +kernel
theorem dL_law_831 : decode cL_law 831 = .ok (.iconst 1, 1) := by decide +kernel
theorem dL_law_832 : decode cL_law 832 = .ok (.iadd, 1) := by decide +kernel
theorem dL_law_833 : decode cL_law 833 = .ok (.iaload, 1) := by decide +kernel
theorem dL_law_834 : decode cL_law 834 = .ok (.aload_n 0, 1) := by decide +kernel
theorem dL_law_835 : decode cL_law 835 = .ok (.iload_n 3, 1) := by decide +kernel
theorem dL_law_836 : decode cL_law 836 = .ok (.iconst 2, 1) := by decide +kernel
theorem dL_law_837 : decode cL_law 837 = .ok (.iadd, 1) := by decide +kernel
theorem dL_law_838 : decode cL_law 838 = .ok (.iaload, 1) := by decide +kernel
theorem dL_law_839 : decode cL_law 839 = .ok (.invokevirtual 116, 3) := by decide +kernel
theorem dL_law_842 : decode cL_law 842 = .ok (.aload_n 2, 1) := by decide +kernel
theorem dL_law_843 : decode cL_law 843 = .ok (.aload_n 0, 1) := by decide +kernel
theorem dL_law_844 : decode cL_law 844 = .ok (.iload_n 3, 1) := by decide +kernel
theorem dL_law_845 : decode cL_law 845 = .ok (.iconst 1, 1) := by decide +kernel
theorem dL_law_846 : decode cL_law 846 = .ok (.iadd, 1) := by decide +kernel
theorem dL_law_847 : decode cL_law 847 = .ok (.iaload, 1) := by decide +kernel
theorem dL_law_848 : decode cL_law 848 = .ok (.aload_n 0, 1) := by decide +kernel
theorem dL_law_849 : decode cL_law 849 = .ok (.iload_n 3, 1) := by decide +kernel
theorem dL_law_850 : decode cL_law 850 = .ok (.iconst 2, 1) := by decide +kernel
theorem dL_law_851 : decode cL_law 851 = .ok (.iadd, 1) := by decide +kernel
theorem dL_law_852 : decode cL_law 852 = .ok (.iaload, 1) := by decide +kernel
theorem dL_law_853 : decode cL_law 853 = .ok (.invokevirtual 119, 3) := by decide +kernel
theorem dL_law_856 : decode cL_law 856 = .ok (.if_icmp .eq 65, 3) := by decide +kernel
theorem dL_law_859 : decode cL_law 859 = .ok (.iconst 0, 1) := by decide +kernel
theorem dL_law_860 : decode cL_law 860 = .ok (.ireturn, 1) := by decide +kernel
theorem dL_law_861 : decode cL_law 861 = .ok (.aload_n 1, 1) := by decide +kernel
theorem dL_law_862 : decode cL_law 862 = .ok (.aload_n 0, 1) := by decide +kernel
theorem dL_law_863 : decode cL_law 863 = .ok (.iload_n 3, 1) := by decide +kernel
theorem dL_law_864 : decode cL_law 864 = .ok (.iconst 1, 1) := by decide +kernel
theorem dL_law_865 : decode cL_law 865 = .ok (.iadd, 1) := by decide +kernel
theorem dL_law_866 : decode cL_law 866 = .ok (.iaload, 1) := by decide +kernel
theorem dL_law_867 : decode cL_law 867 = .ok (.invokevirtual 120, 3) := by decide +kernel
theorem dL_law_870 : decode cL_law 870 = .ok (.aload_n 2, 1) := by decide +kernel
theorem dL_law_871 : decode cL_law 871 = .ok (.aload_n 0, 1) := by decide +kernel
theorem dL_law_872 : decode cL_law 872 = .ok (.iload_n 3, 1) := by decide +kernel
theorem dL_law_873 : decode cL_law 873 = .ok (.iconst 1, 1) := by decide +kernel
theorem dL_law_874 : decode cL_law 874 = .ok (.iadd, 1) := by decide +kernel
theorem dL_law_875 : decode cL_law 875 = .ok (.iaload, 1) := by decide +kernel
theorem dL_law_876 : decode cL_law 876 = .ok (.invokevirtual 123, 3) := by decide +kernel
theorem dL_law_879 : decode cL_law 879 = .ok (.if_icmp .eq 42, 3) := by decide +kernel
theorem dL_law_882 : decode cL_law 882 = .ok (.iconst 0, 1) := by decide +kernel
theorem dL_law_883 : decode cL_law 883 = .ok (.ireturn, 1) := by decide +kernel
theorem dL_law_884 : decode cL_law 884 = .ok (.aload_n 1, 1) := by decide +kernel
theorem dL_law_885 : decode cL_law 885 = .ok (.aload_n 0, 1) := by decide +kernel
theorem dL_law_886 : decode cL_law 886 = .ok (.iload_n 3, 1) := by decide +kernel
theorem dL_law_887 : decode cL_law 887 = .ok (.iconst 1, 1) := by decide +kernel
theorem dL_law_888 : decode cL_law 888 = .ok (.iadd, 1) := by decide +kernel
theorem dL_law_889 : decode cL_law 889 = .ok (.iaload, 1) := by decide +kernel
theorem dL_law_890 : decode cL_law 890 = .ok (.invokevirtual 124, 3) := by decide +kernel
theorem dL_law_893 : decode cL_law 893 = .ok (.aload_n 2, 1) := by decide +kernel
theorem dL_law_894 : decode cL_law 894 = .ok (.aload_n 0, 1) := by decide +kernel
theorem dL_law_895 : decode cL_law 895 = .ok (.iload_n 3, 1) := by decide +kernel
theorem dL_law_896 : decode cL_law 896 = .ok (.iconst 1, 1) := by decide +kernel
theorem dL_law_897 : decode cL_law 897 = .ok (.iadd, 1) := by decide +kernel
theorem dL_law_898 : decode cL_law 898 = .ok (.iaload, 1) := by decide +kernel
theorem dL_law_899 : decode cL_law 899 = .ok (.invokevirtual 127, 3) := by decide +kernel
theorem dL_law_902 : decode cL_law 902 = .ok (.if_icmp .eq 19, 3) := by decide +kernel
theorem dL_law_905 : decode cL_law 905 = .ok (.iconst 0, 1) := by decide +kernel
theorem dL_law_906 : decode cL_law 906 = .ok (.ireturn, 1) := by decide +kernel
theorem dL_law_907 : decode cL_law 907 = .ok (.aload_n 1, 1) := by decide +kernel
theorem dL_law_908 : decode cL_law 908 = .ok (.invokevirtual 128, 3) := by decide +kernel
theorem dL_law_911 : decode cL_law 911 = .ok (.aload_n 2, 1) := by decide +kernel
theorem dL_law_912 : decode cL_law 912 = .ok (.invokevirtual 132, 3) := by decide +kernel
theorem dL_law_915 : decode cL_law 915 = .ok (.lcmp, 1) := by decide +kernel
theorem dL_law_916 : decode cL_law 916 = .ok (.ifCond .eq 5, 3) := by decide +kernel
theorem dL_law_919 : decode cL_law 919 = .ok (.iconst 0, 1) := by decide +kernel
theorem dL_law_920 : decode cL_law 920 = .ok (.ireturn, 1) := by decide +kernel
theorem dL_law_921 : decode cL_law 921 = .ok (.iinc 3 6, 3) := by decide +kernel
theorem dL_law_924 : decode cL_law 924 = .ok (.goto (-906), 3) := by decide +kernel
theorem dL_law_927 : decode cL_law 927 = .ok (.iconst 1, 1) := by decide +kernel
theorem dL_law_928 : decode cL_law 928 = .ok (.ireturn, 1) := by decide +kernel
end
section
/-! the worlds: which cells, and what they hold -/
def wG (cx : Nat → ClassId) (aG : Nat → Nat) (gw : Int32) (gh : Int32) (gk : Int32) (gq : Int32) (gr : Int32) (gj : Int32) (gR : Nat → Int32) (gT : Nat → Int32) (gC : Nat → Int32) : va_W := [(aG 0, .inr (1, [.int gw, .int gh, .int gk, .int gq, .int gr, .int gj, .ref (aG 1), .ref (aG 2), .ref (aG 3)])), (aG 1, .inl (cx 0, 64, .inl gR)), (aG 2, .inl (cx 0, 256, .inl gT)), (aG 3, .inl (cx 0, 16, .inl gC))]
def wA (cx : Nat → ClassId) (aA : Nat → Nat) (aG : Nat → Nat) (mv : Int32) (mc : Nat → Int32) (mm : Nat → Int32) (mh : Nat → Int32) (gw : Int32) (gh : Int32) (gk : Int32) (gq : Int32) (gr : Int32) (gj : Int32) (gR : Nat → Int32) (gT : Nat → Int32) (gC : Nat → Int32) : va_W := [(aA 0, .inr (0, [.ref (aG 0), .ref (aA 1), .ref (aA 2), .ref (aA 3), .int mv])), (aA 1, .inl (cx 0, 16, .inl mc)), (aA 2, .inl (cx 0, 2, .inl mm)), (aA 3, .inl (cx 0, 7, .inl mh)), (aG 0, .inr (1, [.int gw, .int gh, .int gk, .int gq, .int gr, .int gj, .ref (aG 1), .ref (aG 2), .ref (aG 3)])), (aG 1, .inl (cx 0, 64, .inl gR)), (aG 2, .inl (cx 0, 256, .inl gT)), (aG 3, .inl (cx 0, 16, .inl gC))]
def wAA (cx : Nat → ClassId) (aA : Nat → Nat) (aB : Nat → Nat) (aG : Nat → Nat) (mv : Int32) (mc : Nat → Int32) (mm : Nat → Int32) (mh : Nat → Int32) (nv : Int32) (nc : Nat → Int32) (nm : Nat → Int32) (nh : Nat → Int32) (gw : Int32) (gh : Int32) (gk : Int32) (gq : Int32) (gr : Int32) (gj : Int32) (gR : Nat → Int32) (gT : Nat → Int32) (gC : Nat → Int32) : va_W := [(aA 0, .inr (0, [.ref (aG 0), .ref (aA 1), .ref (aA 2), .ref (aA 3), .int mv])), (aA 1, .inl (cx 0, 16, .inl mc)), (aA 2, .inl (cx 0, 2, .inl mm)), (aA 3, .inl (cx 0, 7, .inl mh)), (aB 0, .inr (0, [.ref (aG 0), .ref (aB 1), .ref (aB 2), .ref (aB 3), .int nv])), (aB 1, .inl (cx 0, 16, .inl nc)), (aB 2, .inl (cx 0, 2, .inl nm)), (aB 3, .inl (cx 0, 7, .inl nh)), (aG 0, .inr (1, [.int gw, .int gh, .int gk, .int gq, .int gr, .int gj, .ref (aG 1), .ref (aG 2), .ref (aG 3)])), (aG 1, .inl (cx 0, 64, .inl gR)), (aG 2, .inl (cx 0, 256, .inl gT)), (aG 3, .inl (cx 0, 16, .inl gC))]
def wH (cx : Nat → ClassId) (aH : Nat → Nat) (ql : Int32) (qf : Int32) (qz : Int32) (qi : Nat → Int32) : va_W := [(aH 0, .inr (2, [.int ql, .int qf, .int qz, .ref (aH 1)])), (aH 1, .inl (cx 0, 20, .inl qi))]
def wI (cx : Nat → ClassId) (a1 : Nat) (fn : Nat) (ff : Nat → Int32) : va_W := [(a1, .inl (cx 0, fn, .inl ff))]
def wM (cx : Nat → ClassId) (aM : Nat → Nat) (xw : Int32) (xh : Int32) (xk : Int32) (xj : Int32) (xb : Int32) (xr : Int32) (xc : Int32) (xv : Int32) (xn : Int32) (xl : Int32) (yR : Nat → Int32) (yT : Nat → Int32) (yC : Nat → Int32) (yW : Nat → Int32) (yA : Nat → Int32) (yE : Nat → Int32) (yU : Nat → Int32) (yM : Nat → Int32) (yV : Nat → Int32) (yF : Nat → Int32) (yZ : Nat → Int32) (yI : Nat → Int32) (yD : Nat → Int32) : va_W := [(aM 0, .inr (5, [.int xw, .int xh, .int xk, .int xj, .int xb, .int xr, .ref (aM 1), .ref (aM 2), .ref (aM 3), .ref (aM 4), .ref (aM 5), .ref (aM 6), .ref (aM 7), .ref (aM 8), .int xc, .int xv, .ref (aM 9), .int xn, .ref (aM 10), .ref (aM 11), .ref (aM 12), .ref (aM 13), .int xl])), (aM 1, .inl (cx 0, 64, .inl yR)), (aM 2, .inl (cx 1, 2097152, .inl yT)), (aM 3, .inl (cx 0, 17, .inl yC)), (aM 4, .inl (cx 0, 17, .inl yW)), (aM 5, .inl (cx 0, 17, .inl yA)), (aM 6, .inl (cx 0, 17, .inl yE)), (aM 7, .inl (cx 0, 17, .inl yU)), (aM 8, .inl (cx 0, 2, .inl yM)), (aM 9, .inl (cx 0, 16, .inl yV)), (aM 10, .inl (cx 0, 4, .inl yF)), (aM 11, .inl (cx 0, 4, .inl yZ)), (aM 12, .inl (cx 0, 80, .inl yI)), (aM 13, .inl (cx 0, 20, .inl yD))]
end
section
/-! rows and sheets that are chosen by an index; a call on one cell; a new long[] -/
def upT (f : Nat → Nat → Int32) (j : Nat) (x : Nat → Int32) : Nat → Nat → Int32 := fun i => if i = j then x else f i
def az (sp : Int32) : Nat := if sp = 0 then 1 else 0
def azs (sp : Int32) : Nat := if sp = 0 then 115441 else 0
theorem azs_0 {sp : Int32} (h : sp = 0) : azs sp = 115441 := if_pos h
theorem azs_1 {sp : Int32} (h : ¬ sp = 0) : azs sp = 0 := if_neg h
theorem az_0 {sp : Int32} (h : sp = 0) : az sp = 1 := if_pos h
theorem az_1 {sp : Int32} (h : ¬ sp = 0) : az sp = 0 := if_neg h
theorem inb_lt {i : Int32} {n : Nat} (h : inb i n = true) : i.toNatClampNeg < n := Nat.not_le.mp (fun q => inb_s h (Or.inr q))
section KE
variable {p : Program} {l : Launch} {e : Env} {R : Room} {s : State} {m : MethodId} {args : Array Value} {below : List Frame} {meth : Method} {c : Code} {H H0 : Heap} {locs : List Loc} {cells slots mc ms : Nat} {Q : State → Prop} {D : va_G} {A0 : Nat → Prop} {pc : Nat} {ls : Array Slot} {st0 rest : List Value} {a : Array Value} {S : Type} {ws : va_W} {cc : ByteArray} {cl : List vw_C} {tys : List (ClassId × FieldType)} {ar : Nat}
theorem va_aldA (hexec : p.tables.exec = Jvm.exec) (hb : c.code = cc) (hK : va_K D cl tys s) (hP : va_P D cl ws H) (q0 t0 : Nat) {cA : ClassId} {ty : FieldType} {n : Nat} {f : Nat → Option Nat} (ha : ws[q0]? = some (ar, .inl (cA, n, .inr (.inr (.inr (.inr f)))))) (ht : tys[t0]? = some (cA, .array ty)) {i : Int32} (hin : vp_in i n) (hdg : decode cc pc = .ok (.aaload, 1))
    (kk : W p l e R s m args below meth c H locs cells slots Q (F0 m (pc + 1) ls (va_rf (f i.toNatClampNeg) :: rest))) : W p l e R s m args below meth c H locs cells slots Q (F0 m pc ls (.int i :: .ref ar :: rest)) := by
  have hlt : i.toNatClampNeg < n := Nat.not_le.mp fun q => hin (Or.inr q)
  exact W.aald (v := va_rf (f i.toNatClampNeg)) (ty := .array ty) hexec hb (hP q0 _ ha) ((hK.2 t0 _ ht).1 n (fun j => va_rf (f j))) rfl (fun q => by cases q) (by show ¬ (i < 0 ∨ (arrV _ _ _).slots.size ≤ _); rw [arrV_size]; exact hin) (by show (arrV _ _ _).slots[_]? = _; rw [arrV_read _ _ hlt]) rfl rfl hdg kk
theorem kc_one {e0 e1 : va_E} {q : Nat} {H1 : Heap} (hP : va_P D classes ws H) (hD : va_D A0 ws) (hq : ws[q]? = some (ar, e0)) (hk : ∀ q : Nat, q < H.size → ¬ va_A [(ar, e0)] H.size q → H1[q]? = H[q]?) (hP1 : va_P D classes [(ar, e1)] H1) : va_P D classes (ws.set q (ar, e1)) H1 ∧ va_D A0 (ws.set q (ar, e1)) := by
  refine ⟨fun k x hx => ?_, hD.set hq⟩
  rw [List.getElem?_set] at hx
  by_cases e : q = k
  · rw [if_pos e] at hx
    by_cases hl : q < ws.length
    · rw [if_pos hl] at hx
      rw [← Option.some.inj hx]
      exact hP1 0 _ rfl
    · rw [if_neg hl] at hx; cases hx
  · rw [if_neg e] at hx
    have h1 := hP k x hx
    refine h1.kept (hk x.1 h1.lt (fun h => ?_))
    rcases h with ⟨k2, e2, h⟩ | h
    · match k2, h with
      | 0, h =>
        have h2 := (Prod.mk.inj (Option.some.inj h)).1
        exact e (hD.1 q k (ar, e0) x hq hx h2)
      | k2 + 1, h => cases h
    · have := h1.lt
      omega
theorem kc_callv1 {e0 : va_E} {e1 : S → va_E} (hr : va_Run p l e R s m args below meth c H locs cells slots mc ms (F0 m pc ls st0) rest (kc_Pv D (fun u => [(ar, e1 u)]) (va_A [(ar, e0)] H.size) a) (va_A [(ar, e0)] H.size)) (hP : va_P D classes ws H) (hD : va_D A0 ws) (hS : va_S A0 H0 H locs) (hA : ∀ q, H0.size ≤ q → A0 q) (q : Nat) (hq : ws[q]? = some (ar, e0))
    (kk : ∀ (u : S) (H1 : Heap) (locs1 : List Loc), va_P D classes (ws.set q (ar, e1 u)) H1 → va_D A0 (ws.set q (ar, e1 u)) → va_S A0 H0 H1 locs1 → W p l e R s m args below meth c H1 locs1 (cells + mc) (slots + ms) Q (F0 m (pc + 3) ls rest)) : W p l e R s m args below meth c H locs cells slots Q (F0 m pc ls st0) := by
  have hFc : ∀ x, va_A [(ar, e0)] H.size x → A0 x := va_free (wc := [(ar, e0)]) hD hS hA [q] (by show [ws[q]?] = _; rw [hq]; rfl)
  refine va_callv hr hS (fun q _ h => hFc q h) hFc (fun u t H1 locs1 ht _ hw hB _ hk1 hS1 => ?_)
  obtain ⟨hP1, hD1⟩ := hB
  rw [ht] at hP1
  obtain ⟨hP2, hD2⟩ := kc_one hP hD hq hk1 hP1
  exact kk u H1 locs1 hP2 hD2 hS1
theorem kc_newl (cx : Nat → ClassId) (hexec : p.tables.exec = Jvm.exec) (hb : c.code = cc) (harr : (Cond.arrayClass .long).before args s = true) (hK : va_K D classes (kc_TY cx) s) (hP : va_P D classes ws H) (hD : va_D A0 ws) (hS : va_S A0 H0 H locs) (hA : ∀ q, H0.size ≤ q → A0 q) {n : Int32} (hn : ¬ n < 0) (hbytes : n.toNatClampNeg * 8 ≤ 536870912) (hcells : cells + 1 ≤ R.cells) (hslots : slots + n.toNatClampNeg ≤ R.slots) (hdg : decode cc pc = .ok (.newarray .long, 2))
    (kk : ∀ (q : Nat) (H1 : Heap), va_P D classes (ws ++ [(q, .inl (cx 2, n.toNatClampNeg, .inr (.inl (fun _ => 0))))]) H1 → va_D A0 (ws ++ [(q, .inl (cx 2, n.toNatClampNeg, .inr (.inl (fun _ => 0))))]) → va_S A0 H0 H1 locs → W p l e R s m args below meth c H1 locs (cells + 1) (slots + n.toNatClampNeg) Q (F0 m (pc + 2) ls (.ref q :: rest))) : W p l e R s m args below meth c H locs cells slots Q (F0 m pc ls (.int n :: rest)) := by
  refine va_newa (atype := .long) (ty := .long) (a0 := (n.toNatClampNeg, .inr (.inl (fun _ => 0)))) hexec hb harr rfl hK hP hD hS hA (fun cA => rfl) hn rfl hbytes hcells hslots hdg (fun q cA H1 hK1 hP1 hD1 hS1 => ?_)
  have e1 : s.vm.findClass ("[" ++ FieldType.long.toString) = some cA := (hK1.2 5 (cA, .long) rfl).2
  have e2 : s.vm.findClass ("[" ++ FieldType.long.toString) = some (cx 2) := (hK.2 2 (cx 2, .long) rfl).2
  have e3 : cA = cx 2 := Option.some.inj (e1.symm.trans e2)
  subst e3
  exact kk q H1 hP1 hD1 hS1
end KE
def wS (cx : Nat → ClassId) (aS : Nat → Nat) (aT : Nat → Nat) (ak : Nat) (aG : Nat → Nat) (sp : Int32) (s1 : Int32) (s2 : Int32) (s3 : Int32) (s4 : Int32) (s5 : Int32) (sP : Nat → Int32) (sC : Nat → Int32) (sH : Nat → Int32) (tl : Nat → Nat → Int32) (kl : Nat) (kf : Nat → Int64) (gw : Int32) (gh : Int32) (gk : Int32) (gq : Int32) (gr : Int32) (gj : Int32) (gR : Nat → Int32) (gT : Nat → Int32) (gC : Nat → Int32) : va_W := [(aS 0, .inr (3, [.ref (aG 0), .ref (aS 1), .ref (aS 2), .ref (aS 3), .ref (aS 4), .ref (ak), .int sp, .int s1, .int s2, .int s3, .int s4, .int s5])), (aS 1, .inl (cx 0, 7, .inl sP)), (aS 2, .inl (cx 0, 7, .inl sC)), (aS 3, .inl (cx 0, 7, .inl sH)), (aS 4, .inl (cx 4, 5, .inr (.inr (.inr (.inr (fun i => if i < 5 then some (aT i) else none)))))), (aT 0, .inl (cx 0, 17, .inl (tl 0))), (aT 1, .inl (cx 0, 17, .inl (tl 1))), (aT 2, .inl (cx 0, 17, .inl (tl 2))), (aT 3, .inl (cx 0, 17, .inl (tl 3))), (aT 4, .inl (cx 0, 17, .inl (tl 4))), (ak, .inl (cx 2, kl, .inr (.inl kf))), (aG 0, .inr (1, [.int gw, .int gh, .int gk, .int gq, .int gr, .int gj, .ref (aG 1), .ref (aG 2), .ref (aG 3)])), (aG 1, .inl (cx 0, 64, .inl gR)), (aG 2, .inl (cx 0, 256, .inl gT)), (aG 3, .inl (cx 0, 16, .inl gC))]
def wSA (cx : Nat → ClassId) (aS : Nat → Nat) (aT : Nat → Nat) (ak : Nat) (aA : Nat → Nat) (aG : Nat → Nat) (sp : Int32) (s1 : Int32) (s2 : Int32) (s3 : Int32) (s4 : Int32) (s5 : Int32) (sP : Nat → Int32) (sC : Nat → Int32) (sH : Nat → Int32) (tl : Nat → Nat → Int32) (kl : Nat) (kf : Nat → Int64) (mv : Int32) (mc : Nat → Int32) (mm : Nat → Int32) (mh : Nat → Int32) (gw : Int32) (gh : Int32) (gk : Int32) (gq : Int32) (gr : Int32) (gj : Int32) (gR : Nat → Int32) (gT : Nat → Int32) (gC : Nat → Int32) : va_W := [(aS 0, .inr (3, [.ref (aG 0), .ref (aS 1), .ref (aS 2), .ref (aS 3), .ref (aS 4), .ref (ak), .int sp, .int s1, .int s2, .int s3, .int s4, .int s5])), (aS 1, .inl (cx 0, 7, .inl sP)), (aS 2, .inl (cx 0, 7, .inl sC)), (aS 3, .inl (cx 0, 7, .inl sH)), (aS 4, .inl (cx 4, 5, .inr (.inr (.inr (.inr (fun i => if i < 5 then some (aT i) else none)))))), (aT 0, .inl (cx 0, 17, .inl (tl 0))), (aT 1, .inl (cx 0, 17, .inl (tl 1))), (aT 2, .inl (cx 0, 17, .inl (tl 2))), (aT 3, .inl (cx 0, 17, .inl (tl 3))), (aT 4, .inl (cx 0, 17, .inl (tl 4))), (ak, .inl (cx 2, kl, .inr (.inl kf))), (aA 0, .inr (0, [.ref (aG 0), .ref (aA 1), .ref (aA 2), .ref (aA 3), .int mv])), (aA 1, .inl (cx 0, 16, .inl mc)), (aA 2, .inl (cx 0, 2, .inl mm)), (aA 3, .inl (cx 0, 7, .inl mh)), (aG 0, .inr (1, [.int gw, .int gh, .int gk, .int gq, .int gr, .int gj, .ref (aG 1), .ref (aG 2), .ref (aG 3)])), (aG 1, .inl (cx 0, 64, .inl gR)), (aG 2, .inl (cx 0, 256, .inl gT)), (aG 3, .inl (cx 0, 16, .inl gC))]
def wJ (cx : Nat → ClassId) (a1 : Nat) (fn : Nat) (ff : Nat → Int64) : va_W := [(a1, .inl (cx 2, fn, .inr (.inl ff)))]
theorem wS_get_row {cx : Nat → ClassId} {aS : Nat → Nat} {aT : Nat → Nat} {ak : Nat} {aG : Nat → Nat} {sp : Int32} {s1 : Int32} {s2 : Int32} {s3 : Int32} {s4 : Int32} {s5 : Int32} {sP : Nat → Int32} {sC : Nat → Int32} {sH : Nat → Int32} {tl : Nat → Nat → Int32} {kl : Nat} {kf : Nat → Int64} {gw : Int32} {gh : Int32} {gk : Int32} {gq : Int32} {gr : Int32} {gj : Int32} {gR : Nat → Int32} {gT : Nat → Int32} {gC : Nat → Int32} {j : Nat} (hj : j < 5) : ((wS cx aS aT ak aG sp s1 s2 s3 s4 s5 sP sC sH tl kl kf gw gh gk gq gr gj gR gT gC))[5 + j]? = some (aT j, .inl (cx 0, 17, .inl (tl j))) := by
  match j, hj with
  | 0, _ => rfl
  | 1, _ => rfl
  | 2, _ => rfl
  | 3, _ => rfl
  | 4, _ => rfl
theorem wS_set_row {cx : Nat → ClassId} {aS : Nat → Nat} {aT : Nat → Nat} {ak : Nat} {aG : Nat → Nat} {sp : Int32} {s1 : Int32} {s2 : Int32} {s3 : Int32} {s4 : Int32} {s5 : Int32} {sP : Nat → Int32} {sC : Nat → Int32} {sH : Nat → Int32} {tl : Nat → Nat → Int32} {kl : Nat} {kf : Nat → Int64} {gw : Int32} {gh : Int32} {gk : Int32} {gq : Int32} {gr : Int32} {gj : Int32} {gR : Nat → Int32} {gT : Nat → Int32} {gC : Nat → Int32} {j : Nat} {f : Nat → Int32} (hj : j < 5) : ((wS cx aS aT ak aG sp s1 s2 s3 s4 s5 sP sC sH tl kl kf gw gh gk gq gr gj gR gT gC)).set (5 + j) (aT j, .inl (cx 0, 17, .inl f)) = (wS cx aS aT ak aG sp s1 s2 s3 s4 s5 sP sC sH (upT tl j f) kl kf gw gh gk gq gr gj gR gT gC) := by
  match j, hj with
  | 0, _ => rfl
  | 1, _ => rfl
  | 2, _ => rfl
  | 3, _ => rfl
  | 4, _ => rfl
theorem wSA_get_row {cx : Nat → ClassId} {aS : Nat → Nat} {aT : Nat → Nat} {ak : Nat} {aA : Nat → Nat} {aG : Nat → Nat} {sp : Int32} {s1 : Int32} {s2 : Int32} {s3 : Int32} {s4 : Int32} {s5 : Int32} {sP : Nat → Int32} {sC : Nat → Int32} {sH : Nat → Int32} {tl : Nat → Nat → Int32} {kl : Nat} {kf : Nat → Int64} {mv : Int32} {mc : Nat → Int32} {mm : Nat → Int32} {mh : Nat → Int32} {gw : Int32} {gh : Int32} {gk : Int32} {gq : Int32} {gr : Int32} {gj : Int32} {gR : Nat → Int32} {gT : Nat → Int32} {gC : Nat → Int32} {j : Nat} (hj : j < 5) : ((wSA cx aS aT ak aA aG sp s1 s2 s3 s4 s5 sP sC sH tl kl kf mv mc mm mh gw gh gk gq gr gj gR gT gC))[5 + j]? = some (aT j, .inl (cx 0, 17, .inl (tl j))) := by
  match j, hj with
  | 0, _ => rfl
  | 1, _ => rfl
  | 2, _ => rfl
  | 3, _ => rfl
  | 4, _ => rfl
theorem wSA_set_row {cx : Nat → ClassId} {aS : Nat → Nat} {aT : Nat → Nat} {ak : Nat} {aA : Nat → Nat} {aG : Nat → Nat} {sp : Int32} {s1 : Int32} {s2 : Int32} {s3 : Int32} {s4 : Int32} {s5 : Int32} {sP : Nat → Int32} {sC : Nat → Int32} {sH : Nat → Int32} {tl : Nat → Nat → Int32} {kl : Nat} {kf : Nat → Int64} {mv : Int32} {mc : Nat → Int32} {mm : Nat → Int32} {mh : Nat → Int32} {gw : Int32} {gh : Int32} {gk : Int32} {gq : Int32} {gr : Int32} {gj : Int32} {gR : Nat → Int32} {gT : Nat → Int32} {gC : Nat → Int32} {j : Nat} {f : Nat → Int32} (hj : j < 5) : ((wSA cx aS aT ak aA aG sp s1 s2 s3 s4 s5 sP sC sH tl kl kf mv mc mm mh gw gh gk gq gr gj gR gT gC)).set (5 + j) (aT j, .inl (cx 0, 17, .inl f)) = (wSA cx aS aT ak aA aG sp s1 s2 s3 s4 s5 sP sC sH (upT tl j f) kl kf mv mc mm mh gw gh gk gq gr gj gR gT gC) := by
  match j, hj with
  | 0, _ => rfl
  | 1, _ => rfl
  | 2, _ => rfl
  | 3, _ => rfl
  | 4, _ => rfl
theorem kc_P1 {D : va_G} {ws : va_W} {H : Heap} {q : Nat} {x : Nat × va_E} (hP : va_P D classes ws H) (hq : ws[q]? = some x) : va_P D classes [x] H := fun k y hy => by
  match k, hy with
  | 0, hy => rw [← Option.some.inj hy]; exact hP q x hq
  | k + 1, hy => cases hy
theorem kc_D1 {A : Nat → Prop} {ws : va_W} {q : Nat} {x : Nat × va_E} (hD : va_D A ws) (hq : ws[q]? = some x) : va_D A [x] := by
  refine ⟨fun i j a b ha hb _ => ?_, fun k y hy => ?_⟩
  · match i, j, ha, hb with
    | 0, 0, _, _ => rfl
    | 0, j + 1, _, hb => cases hb
    | i + 1, _, ha, _ => cases ha
  · match k, hy with
    | 0, hy => rw [← Option.some.inj hy]; exact hD.2 q x hq
    | k + 1, hy => cases hy
end
section
/-! two cells that are chosen by an index: a sheet and its items -/
def sh2 (x y : Nat) : Nat → Nat
  | 0 => x
  | _ => y
theorem kc_P2 {D : va_G} {ws : va_W} {H : Heap} {q r : Nat} {x y : Nat × va_E} (hP : va_P D classes ws H) (hq : ws[q]? = some x) (hr : ws[r]? = some y) : va_P D classes [x, y] H := fun k z hz => by
  match k, hz with
  | 0, hz => rw [← Option.some.inj hz]; exact hP q x hq
  | 1, hz => rw [← Option.some.inj hz]; exact hP r y hr
  | k + 2, hz => cases hz
theorem kc_D2 {A : Nat → Prop} {ws : va_W} {q r : Nat} {x y : Nat × va_E} (hD : va_D A ws) (hq : ws[q]? = some x) (hr : ws[r]? = some y) (hn : q ≠ r) : va_D A [x, y] := by
  refine ⟨fun i j a b ha hb hab => ?_, fun k z hz => ?_⟩
  · match i, j, ha, hb with
    | 0, 0, _, _ => rfl
    | 1, 1, _, _ => rfl
    | 0, 1, ha, hb => cases ha; cases hb; exact absurd (hD.1 q r x y hq hr hab) hn
    | 1, 0, ha, hb => cases ha; cases hb; exact absurd (hD.1 r q y x hr hq hab).symm hn
    | 0, j + 2, _, hb => cases hb
    | 1, j + 2, _, hb => cases hb
    | i + 2, _, ha, _ => cases ha
  · match k, hz with
    | 0, hz => rw [← Option.some.inj hz]; exact hD.2 q x hq
    | 1, hz => rw [← Option.some.inj hz]; exact hD.2 r y hr
    | k + 2, hz => cases hz
section KF
variable {p : Program} {l : Launch} {e : Env} {R : Room} {s : State} {m : MethodId} {args : Array Value} {below : List Frame} {meth : Method} {c : Code} {H H0 : Heap} {locs : List Loc} {cells slots mc ms : Nat} {Q : State → Prop} {D : va_G} {A0 : Nat → Prop} {pc : Nat} {ls : Array Slot} {st0 rest : List Value} {a : Array Value} {S : Type} {ws wc : va_W} {x y q r : Nat} {e1 e2 : va_E}
theorem kc_two {g1 g2 : va_E} {H1 : Heap} (hP : va_P D classes ws H) (hD : va_D A0 ws) (hq : ws[q]? = some (x, e1)) (hr : ws[r]? = some (y, e2)) (hn : q ≠ r) (hk : ∀ z : Nat, z < H.size → ¬ va_A [(x, e1), (y, e2)] H.size z → H1[z]? = H[z]?) (hP1 : va_P D classes [(x, g1), (y, g2)] H1) : va_P D classes ((ws.set q (x, g1)).set r (y, g2)) H1 ∧ va_D A0 ((ws.set q (x, g1)).set r (y, g2)) := by
  have hr' : (ws.set q (x, g1))[r]? = some (y, e2) := by rw [List.getElem?_set_ne hn]; exact hr
  refine ⟨fun k z hz => ?_, (hD.set hq).set hr'⟩
  by_cases er : r = k
  · subst er
    have hl : r < (ws.set q (x, g1)).length := by
      rcases Nat.lt_or_ge r (ws.set q (x, g1)).length with h | h
      · exact h
      · rw [List.getElem?_eq_none h] at hr'; cases hr'
    rw [List.getElem?_set_self hl] at hz
    rw [← Option.some.inj hz]
    exact hP1 1 _ rfl
  · rw [List.getElem?_set_ne er] at hz
    by_cases eq : q = k
    · subst eq
      have hl : q < ws.length := by
        rcases Nat.lt_or_ge q ws.length with h | h
        · exact h
        · rw [List.getElem?_eq_none h] at hq; cases hq
      rw [List.getElem?_set_self hl] at hz
      rw [← Option.some.inj hz]
      exact hP1 0 _ rfl
    · rw [List.getElem?_set_ne eq] at hz
      have h1 := hP k z hz
      refine h1.kept (hk z.1 h1.lt (fun h => ?_))
      rcases h with ⟨k2, e2', h⟩ | h
      · match k2, h with
        | 0, h =>
          have h2 := (Prod.mk.inj (Option.some.inj h)).1
          exact eq (hD.1 q k (x, e1) z hq hz h2)
        | 1, h =>
          have h2 := (Prod.mk.inj (Option.some.inj h)).1
          exact er (hD.1 r k (y, e2) z hr hz h2)
        | k2 + 2, h => cases h
      · have := h1.lt
        omega
theorem kc_calli2 {r1 : Int32} {w1 : S → va_W} {f1 f2 : S → va_E} (hr : va_Run p l e R s m args below meth c H locs cells slots mc ms (F0 m pc ls st0) rest (kc_Pi D w1 r1 (va_A wc H.size) a) (va_A wc H.size)) (hP : va_P D classes ws H) (hD : va_D A0 ws) (hS : va_S A0 H0 H locs) (hA : ∀ q, H0.size ≤ q → A0 q) (hq : ws[q]? = some (x, e1)) (hy : ws[r]? = some (y, e2)) (hn : q ≠ r) (hc : wc = [(x, e1), (y, e2)]) (hw : ∀ u, w1 u = [(x, f1 u), (y, f2 u)])
    (kk : ∀ (u : S) (H1 : Heap) (locs1 : List Loc), va_P D classes ((ws.set q (x, f1 u)).set r (y, f2 u)) H1 → va_D A0 ((ws.set q (x, f1 u)).set r (y, f2 u)) → va_S A0 H0 H1 locs1 → W p l e R s m args below meth c H1 locs1 (cells + mc) (slots + ms) Q (F0 m (pc + 3) ls (.int r1 :: rest))) : W p l e R s m args below meth c H locs cells slots Q (F0 m pc ls st0) := by
  subst hc
  have hFc : ∀ z, va_A [(x, e1), (y, e2)] H.size z → A0 z := va_free (wc := [(x, e1), (y, e2)]) hD hS hA [q, r] (by show [ws[q]?, ws[r]?] = _; rw [hq, hy]; rfl)
  refine va_calli hr hS (fun q _ h => hFc q h) hFc (fun r2 u t H1 locs1 ht _ hv hB _ hk1 hS1 => ?_)
  obtain ⟨hP1, hD1⟩ := hB
  rw [ht, hw u] at hP1
  subst hv
  obtain ⟨hP2, hD2⟩ := kc_two hP hD hq hy hn hk1 hP1
  exact kk u H1 locs1 hP2 hD2 hS1
theorem kc_callv2 {w1 : S → va_W} {f1 f2 : S → va_E} (hr : va_Run p l e R s m args below meth c H locs cells slots mc ms (F0 m pc ls st0) rest (kc_Pv D w1 (va_A wc H.size) a) (va_A wc H.size)) (hP : va_P D classes ws H) (hD : va_D A0 ws) (hS : va_S A0 H0 H locs) (hA : ∀ q, H0.size ≤ q → A0 q) (hq : ws[q]? = some (x, e1)) (hy : ws[r]? = some (y, e2)) (hn : q ≠ r) (hc : wc = [(x, e1), (y, e2)]) (hw : ∀ u, w1 u = [(x, f1 u), (y, f2 u)])
    (kk : ∀ (u : S) (H1 : Heap) (locs1 : List Loc), va_P D classes ((ws.set q (x, f1 u)).set r (y, f2 u)) H1 → va_D A0 ((ws.set q (x, f1 u)).set r (y, f2 u)) → va_S A0 H0 H1 locs1 → W p l e R s m args below meth c H1 locs1 (cells + mc) (slots + ms) Q (F0 m (pc + 3) ls rest)) : W p l e R s m args below meth c H locs cells slots Q (F0 m pc ls st0) := by
  subst hc
  have hFc : ∀ z, va_A [(x, e1), (y, e2)] H.size z → A0 z := va_free (wc := [(x, e1), (y, e2)]) hD hS hA [q, r] (by show [ws[q]?, ws[r]?] = _; rw [hq, hy]; rfl)
  refine va_callv hr hS (fun q _ h => hFc q h) hFc (fun u t H1 locs1 ht _ hv hB _ hk1 hS1 => ?_)
  obtain ⟨hP1, hD1⟩ := hB
  rw [ht, hw u] at hP1
  obtain ⟨hP2, hD2⟩ := kc_two hP hD hq hy hn hk1 hP1
  exact kk u H1 locs1 hP2 hD2 hS1
end KF
def wX (cx : Nat → ClassId) (aX : Nat → Nat) (aH : Nat → Nat) (aI : Nat → Nat) (aS : Nat → Nat) (aT : Nat → Nat) (ak : Nat) (aC : Nat → Nat) (aD : Nat → Nat) (fc : Nat) (fd : Nat) (aG : Nat → Nat) (db : Int32) (dn : Int32) (ql : Nat → Int32) (qf : Nat → Int32) (qz : Nat → Int32) (qi : Nat → Nat → Int32) (sp : Int32) (s1 : Int32) (s2 : Int32) (s3 : Int32) (s4 : Int32) (s5 : Int32) (sP : Nat → Int32) (sC : Nat → Int32) (sH : Nat → Int32) (tl : Nat → Nat → Int32) (kl : Nat) (kf : Nat → Int64) (cv : Int32) (cc : Nat → Int32) (cm : Nat → Int32) (ch : Nat → Int32) (dv : Int32) (dc : Nat → Int32) (dm : Nat → Int32) (dh : Nat → Int32) (gw : Int32) (gh : Int32) (gk : Int32) (gq : Int32) (gr : Int32) (gj : Int32) (gR : Nat → Int32) (gT : Nat → Int32) (gC : Nat → Int32) : va_W := [(aX 0, .inr (4, [.ref (aG 0), .ref (aS 0), .ref (aX 1), .ref (fc), .ref (fd), .int db, .int dn])), (aX 1, .inl (cx 3, 4, .inr (.inr (.inr (.inr (fun i => if i < 4 then some (aH i) else none)))))), (aH 0, .inr (2, [.int (ql 0), .int (qf 0), .int (qz 0), .ref (aI 0)])), (aI 0, .inl (cx 0, 20, .inl (qi 0))), (aH 1, .inr (2, [.int (ql 1), .int (qf 1), .int (qz 1), .ref (aI 1)])), (aI 1, .inl (cx 0, 20, .inl (qi 1))), (aH 2, .inr (2, [.int (ql 2), .int (qf 2), .int (qz 2), .ref (aI 2)])), (aI 2, .inl (cx 0, 20, .inl (qi 2))), (aH 3, .inr (2, [.int (ql 3), .int (qf 3), .int (qz 3), .ref (aI 3)])), (aI 3, .inl (cx 0, 20, .inl (qi 3))), (aS 0, .inr (3, [.ref (aG 0), .ref (aS 1), .ref (aS 2), .ref (aS 3), .ref (aS 4), .ref (ak), .int sp, .int s1, .int s2, .int s3, .int s4, .int s5])), (aS 1, .inl (cx 0, 7, .inl sP)), (aS 2, .inl (cx 0, 7, .inl sC)), (aS 3, .inl (cx 0, 7, .inl sH)), (aS 4, .inl (cx 4, 5, .inr (.inr (.inr (.inr (fun i => if i < 5 then some (aT i) else none)))))), (aT 0, .inl (cx 0, 17, .inl (tl 0))), (aT 1, .inl (cx 0, 17, .inl (tl 1))), (aT 2, .inl (cx 0, 17, .inl (tl 2))), (aT 3, .inl (cx 0, 17, .inl (tl 3))), (aT 4, .inl (cx 0, 17, .inl (tl 4))), (ak, .inl (cx 2, kl, .inr (.inl kf))), (aC 0, .inr (0, [.ref (aG 0), .ref (aC 1), .ref (aC 2), .ref (aC 3), .int cv])), (aC 1, .inl (cx 0, 16, .inl cc)), (aC 2, .inl (cx 0, 2, .inl cm)), (aC 3, .inl (cx 0, 7, .inl ch)), (aD 0, .inr (0, [.ref (aG 0), .ref (aD 1), .ref (aD 2), .ref (aD 3), .int dv])), (aD 1, .inl (cx 0, 16, .inl dc)), (aD 2, .inl (cx 0, 2, .inl dm)), (aD 3, .inl (cx 0, 7, .inl dh)), (aG 0, .inr (1, [.int gw, .int gh, .int gk, .int gq, .int gr, .int gj, .ref (aG 1), .ref (aG 2), .ref (aG 3)])), (aG 1, .inl (cx 0, 64, .inl gR)), (aG 2, .inl (cx 0, 256, .inl gT)), (aG 3, .inl (cx 0, 16, .inl gC))]
theorem wX_get_row {cx : Nat → ClassId} {aX : Nat → Nat} {aH : Nat → Nat} {aI : Nat → Nat} {aS : Nat → Nat} {aT : Nat → Nat} {ak : Nat} {aC : Nat → Nat} {aD : Nat → Nat} {fc : Nat} {fd : Nat} {aG : Nat → Nat} {db : Int32} {dn : Int32} {ql : Nat → Int32} {qf : Nat → Int32} {qz : Nat → Int32} {qi : Nat → Nat → Int32} {sp : Int32} {s1 : Int32} {s2 : Int32} {s3 : Int32} {s4 : Int32} {s5 : Int32} {sP : Nat → Int32} {sC : Nat → Int32} {sH : Nat → Int32} {tl : Nat → Nat → Int32} {kl : Nat} {kf : Nat → Int64} {cv : Int32} {cc : Nat → Int32} {cm : Nat → Int32} {ch : Nat → Int32} {dv : Int32} {dc : Nat → Int32} {dm : Nat → Int32} {dh : Nat → Int32} {gw : Int32} {gh : Int32} {gk : Int32} {gq : Int32} {gr : Int32} {gj : Int32} {gR : Nat → Int32} {gT : Nat → Int32} {gC : Nat → Int32} {j : Nat} (hj : j < 5) : ((wX cx aX aH aI aS aT ak aC aD fc fd aG db dn ql qf qz qi sp s1 s2 s3 s4 s5 sP sC sH tl kl kf cv cc cm ch dv dc dm dh gw gh gk gq gr gj gR gT gC))[15 + j]? = some (aT j, .inl (cx 0, 17, .inl (tl j))) := by
  match j, hj with
  | 0, _ => rfl
  | 1, _ => rfl
  | 2, _ => rfl
  | 3, _ => rfl
  | 4, _ => rfl
theorem wX_get_sheet {cx : Nat → ClassId} {aX : Nat → Nat} {aH : Nat → Nat} {aI : Nat → Nat} {aS : Nat → Nat} {aT : Nat → Nat} {ak : Nat} {aC : Nat → Nat} {aD : Nat → Nat} {fc : Nat} {fd : Nat} {aG : Nat → Nat} {db : Int32} {dn : Int32} {ql : Nat → Int32} {qf : Nat → Int32} {qz : Nat → Int32} {qi : Nat → Nat → Int32} {sp : Int32} {s1 : Int32} {s2 : Int32} {s3 : Int32} {s4 : Int32} {s5 : Int32} {sP : Nat → Int32} {sC : Nat → Int32} {sH : Nat → Int32} {tl : Nat → Nat → Int32} {kl : Nat} {kf : Nat → Int64} {cv : Int32} {cc : Nat → Int32} {cm : Nat → Int32} {ch : Nat → Int32} {dv : Int32} {dc : Nat → Int32} {dm : Nat → Int32} {dh : Nat → Int32} {gw : Int32} {gh : Int32} {gk : Int32} {gq : Int32} {gr : Int32} {gj : Int32} {gR : Nat → Int32} {gT : Nat → Int32} {gC : Nat → Int32} {j : Nat} (hj : j < 4) : ((wX cx aX aH aI aS aT ak aC aD fc fd aG db dn ql qf qz qi sp s1 s2 s3 s4 s5 sP sC sH tl kl kf cv cc cm ch dv dc dm dh gw gh gk gq gr gj gR gT gC))[2 + 2 * j]? = some (aH j, .inr (2, [.int (ql j), .int (qf j), .int (qz j), .ref (aI j)])) := by
  match j, hj with
  | 0, _ => rfl
  | 1, _ => rfl
  | 2, _ => rfl
  | 3, _ => rfl
theorem wX_get_item {cx : Nat → ClassId} {aX : Nat → Nat} {aH : Nat → Nat} {aI : Nat → Nat} {aS : Nat → Nat} {aT : Nat → Nat} {ak : Nat} {aC : Nat → Nat} {aD : Nat → Nat} {fc : Nat} {fd : Nat} {aG : Nat → Nat} {db : Int32} {dn : Int32} {ql : Nat → Int32} {qf : Nat → Int32} {qz : Nat → Int32} {qi : Nat → Nat → Int32} {sp : Int32} {s1 : Int32} {s2 : Int32} {s3 : Int32} {s4 : Int32} {s5 : Int32} {sP : Nat → Int32} {sC : Nat → Int32} {sH : Nat → Int32} {tl : Nat → Nat → Int32} {kl : Nat} {kf : Nat → Int64} {cv : Int32} {cc : Nat → Int32} {cm : Nat → Int32} {ch : Nat → Int32} {dv : Int32} {dc : Nat → Int32} {dm : Nat → Int32} {dh : Nat → Int32} {gw : Int32} {gh : Int32} {gk : Int32} {gq : Int32} {gr : Int32} {gj : Int32} {gR : Nat → Int32} {gT : Nat → Int32} {gC : Nat → Int32} {j : Nat} (hj : j < 4) : ((wX cx aX aH aI aS aT ak aC aD fc fd aG db dn ql qf qz qi sp s1 s2 s3 s4 s5 sP sC sH tl kl kf cv cc cm ch dv dc dm dh gw gh gk gq gr gj gR gT gC))[3 + 2 * j]? = some (aI j, .inl (cx 0, 20, .inl (qi j))) := by
  match j, hj with
  | 0, _ => rfl
  | 1, _ => rfl
  | 2, _ => rfl
  | 3, _ => rfl
theorem wX_set_item {cx : Nat → ClassId} {aX : Nat → Nat} {aH : Nat → Nat} {aI : Nat → Nat} {aS : Nat → Nat} {aT : Nat → Nat} {ak : Nat} {aC : Nat → Nat} {aD : Nat → Nat} {fc : Nat} {fd : Nat} {aG : Nat → Nat} {db : Int32} {dn : Int32} {ql : Nat → Int32} {qf : Nat → Int32} {qz : Nat → Int32} {qi : Nat → Nat → Int32} {sp : Int32} {s1 : Int32} {s2 : Int32} {s3 : Int32} {s4 : Int32} {s5 : Int32} {sP : Nat → Int32} {sC : Nat → Int32} {sH : Nat → Int32} {tl : Nat → Nat → Int32} {kl : Nat} {kf : Nat → Int64} {cv : Int32} {cc : Nat → Int32} {cm : Nat → Int32} {ch : Nat → Int32} {dv : Int32} {dc : Nat → Int32} {dm : Nat → Int32} {dh : Nat → Int32} {gw : Int32} {gh : Int32} {gk : Int32} {gq : Int32} {gr : Int32} {gj : Int32} {gR : Nat → Int32} {gT : Nat → Int32} {gC : Nat → Int32} {j : Nat} {f : Nat → Int32} (hj : j < 4) : ((wX cx aX aH aI aS aT ak aC aD fc fd aG db dn ql qf qz qi sp s1 s2 s3 s4 s5 sP sC sH tl kl kf cv cc cm ch dv dc dm dh gw gh gk gq gr gj gR gT gC)).set (3 + 2 * j) (aI j, .inl (cx 0, 20, .inl f)) = (wX cx aX aH aI aS aT ak aC aD fc fd aG db dn ql qf qz (upT qi j f) sp s1 s2 s3 s4 s5 sP sC sH tl kl kf cv cc cm ch dv dc dm dh gw gh gk gq gr gj gR gT gC) := by
  match j, hj with
  | 0, _ => rfl
  | 1, _ => rfl
  | 2, _ => rfl
  | 3, _ => rfl
theorem wX_set_lost {cx : Nat → ClassId} {aX : Nat → Nat} {aH : Nat → Nat} {aI : Nat → Nat} {aS : Nat → Nat} {aT : Nat → Nat} {ak : Nat} {aC : Nat → Nat} {aD : Nat → Nat} {fc : Nat} {fd : Nat} {aG : Nat → Nat} {db : Int32} {dn : Int32} {ql : Nat → Int32} {qf : Nat → Int32} {qz : Nat → Int32} {qi : Nat → Nat → Int32} {sp : Int32} {s1 : Int32} {s2 : Int32} {s3 : Int32} {s4 : Int32} {s5 : Int32} {sP : Nat → Int32} {sC : Nat → Int32} {sH : Nat → Int32} {tl : Nat → Nat → Int32} {kl : Nat} {kf : Nat → Int64} {cv : Int32} {cc : Nat → Int32} {cm : Nat → Int32} {ch : Nat → Int32} {dv : Int32} {dc : Nat → Int32} {dm : Nat → Int32} {dh : Nat → Int32} {gw : Int32} {gh : Int32} {gk : Int32} {gq : Int32} {gr : Int32} {gj : Int32} {gR : Nat → Int32} {gT : Nat → Int32} {gC : Nat → Int32} {j : Nat} {a : Int32} (hj : j < 4) : ((wX cx aX aH aI aS aT ak aC aD fc fd aG db dn ql qf qz qi sp s1 s2 s3 s4 s5 sP sC sH tl kl kf cv cc cm ch dv dc dm dh gw gh gk gq gr gj gR gT gC)).set (2 + 2 * j) (aH j, .inr (2, [.int a, .int (qf j), .int (qz j), .ref (aI j)])) = (wX cx aX aH aI aS aT ak aC aD fc fd aG db dn (upd ql j a) qf qz qi sp s1 s2 s3 s4 s5 sP sC sH tl kl kf cv cc cm ch dv dc dm dh gw gh gk gq gr gj gR gT gC) := by
  match j, hj with
  | 0, _ => rfl
  | 1, _ => rfl
  | 2, _ => rfl
  | 3, _ => rfl
theorem wX_two_same {cx : Nat → ClassId} {aX : Nat → Nat} {aH : Nat → Nat} {aI : Nat → Nat} {aS : Nat → Nat} {aT : Nat → Nat} {ak : Nat} {aC : Nat → Nat} {aD : Nat → Nat} {fc : Nat} {fd : Nat} {aG : Nat → Nat} {db : Int32} {dn : Int32} {ql : Nat → Int32} {qf : Nat → Int32} {qz : Nat → Int32} {qi : Nat → Nat → Int32} {sp : Int32} {s1 : Int32} {s2 : Int32} {s3 : Int32} {s4 : Int32} {s5 : Int32} {sP : Nat → Int32} {sC : Nat → Int32} {sH : Nat → Int32} {tl : Nat → Nat → Int32} {kl : Nat} {kf : Nat → Int64} {cv : Int32} {cc : Nat → Int32} {cm : Nat → Int32} {ch : Nat → Int32} {dv : Int32} {dc : Nat → Int32} {dm : Nat → Int32} {dh : Nat → Int32} {gw : Int32} {gh : Int32} {gk : Int32} {gq : Int32} {gr : Int32} {gj : Int32} {gR : Nat → Int32} {gT : Nat → Int32} {gC : Nat → Int32} {j : Nat} (hj : j < 4) : (((wX cx aX aH aI aS aT ak aC aD fc fd aG db dn ql qf qz qi sp s1 s2 s3 s4 s5 sP sC sH tl kl kf cv cc cm ch dv dc dm dh gw gh gk gq gr gj gR gT gC)).set (2 + 2 * j) (aH j, .inr (2, [.int (ql j), .int (qf j), .int (qz j), .ref (aI j)]))).set (3 + 2 * j) (aI j, .inl (cx 0, 20, .inl (qi j))) = (wX cx aX aH aI aS aT ak aC aD fc fd aG db dn ql qf qz qi sp s1 s2 s3 s4 s5 sP sC sH tl kl kf cv cc cm ch dv dc dm dh gw gh gk gq gr gj gR gT gC) := by
  match j, hj with
  | 0, _ => rfl
  | 1, _ => rfl
  | 2, _ => rfl
  | 3, _ => rfl
theorem wX_two_items {cx : Nat → ClassId} {aX : Nat → Nat} {aH : Nat → Nat} {aI : Nat → Nat} {aS : Nat → Nat} {aT : Nat → Nat} {ak : Nat} {aC : Nat → Nat} {aD : Nat → Nat} {fc : Nat} {fd : Nat} {aG : Nat → Nat} {db : Int32} {dn : Int32} {ql : Nat → Int32} {qf : Nat → Int32} {qz : Nat → Int32} {qi : Nat → Nat → Int32} {sp : Int32} {s1 : Int32} {s2 : Int32} {s3 : Int32} {s4 : Int32} {s5 : Int32} {sP : Nat → Int32} {sC : Nat → Int32} {sH : Nat → Int32} {tl : Nat → Nat → Int32} {kl : Nat} {kf : Nat → Int64} {cv : Int32} {cc : Nat → Int32} {cm : Nat → Int32} {ch : Nat → Int32} {dv : Int32} {dc : Nat → Int32} {dm : Nat → Int32} {dh : Nat → Int32} {gw : Int32} {gh : Int32} {gk : Int32} {gq : Int32} {gr : Int32} {gj : Int32} {gR : Nat → Int32} {gT : Nat → Int32} {gC : Nat → Int32} {j : Nat} {f : Nat → Int32} (hj : j < 4) : (((wX cx aX aH aI aS aT ak aC aD fc fd aG db dn ql qf qz qi sp s1 s2 s3 s4 s5 sP sC sH tl kl kf cv cc cm ch dv dc dm dh gw gh gk gq gr gj gR gT gC)).set (2 + 2 * j) (aH j, .inr (2, [.int (ql j), .int (qf j), .int (qz j), .ref (aI j)]))).set (3 + 2 * j) (aI j, .inl (cx 0, 20, .inl f)) = (wX cx aX aH aI aS aT ak aC aD fc fd aG db dn ql qf qz (upT qi j f) sp s1 s2 s3 s4 s5 sP sC sH tl kl kf cv cc cm ch dv dc dm dh gw gh gk gq gr gj gR gT gC) := by
  match j, hj with
  | 0, _ => rfl
  | 1, _ => rfl
  | 2, _ => rfl
  | 3, _ => rfl
theorem wX_two_all {cx : Nat → ClassId} {aX : Nat → Nat} {aH : Nat → Nat} {aI : Nat → Nat} {aS : Nat → Nat} {aT : Nat → Nat} {ak : Nat} {aC : Nat → Nat} {aD : Nat → Nat} {fc : Nat} {fd : Nat} {aG : Nat → Nat} {db : Int32} {dn : Int32} {ql : Nat → Int32} {qf : Nat → Int32} {qz : Nat → Int32} {qi : Nat → Nat → Int32} {sp : Int32} {s1 : Int32} {s2 : Int32} {s3 : Int32} {s4 : Int32} {s5 : Int32} {sP : Nat → Int32} {sC : Nat → Int32} {sH : Nat → Int32} {tl : Nat → Nat → Int32} {kl : Nat} {kf : Nat → Int64} {cv : Int32} {cc : Nat → Int32} {cm : Nat → Int32} {ch : Nat → Int32} {dv : Int32} {dc : Nat → Int32} {dm : Nat → Int32} {dh : Nat → Int32} {gw : Int32} {gh : Int32} {gk : Int32} {gq : Int32} {gr : Int32} {gj : Int32} {gR : Nat → Int32} {gT : Nat → Int32} {gC : Nat → Int32} {j : Nat} {a b d : Int32} {f : Nat → Int32} (hj : j < 4) : (((wX cx aX aH aI aS aT ak aC aD fc fd aG db dn ql qf qz qi sp s1 s2 s3 s4 s5 sP sC sH tl kl kf cv cc cm ch dv dc dm dh gw gh gk gq gr gj gR gT gC)).set (2 + 2 * j) (aH j, .inr (2, [.int a, .int b, .int d, .ref (aI j)]))).set (3 + 2 * j) (aI j, .inl (cx 0, 20, .inl f)) = (wX cx aX aH aI aS aT ak aC aD fc fd aG db dn (upd ql j a) (upd qf j b) (upd qz j d) (upT qi j f) sp s1 s2 s3 s4 s5 sP sC sH tl kl kf cv cc cm ch dv dc dm dh gw gh gk gq gr gj gR gT gC) := by
  match j, hj with
  | 0, _ => rfl
  | 1, _ => rfl
  | 2, _ => rfl
  | 3, _ => rfl
end
section
/-! the methods as functions, written by program -/
def fX4_isWithin (N : Nat)  (x0 : Int32) (x1 : Int32) (x2 : Int32) : Option (Int32) := if x0 < x1 then (some (0 : Int32)) else (if x2 < x0 then (some (0 : Int32)) else (some (1 : Int32)))
def fJ7_fill_53178_L5 (N : Nat) (fn : Nat) (x1 : Int32) (x3 : Int32) : Nat → (Nat → Int32) → Int32 → Option ((Nat → Int32))
  | 0, _, _ => none
  | ct + 1, ff, x2 => if x3 ≤ x2 then (some ff) else (okb (inb x2 fn) (fJ7_fill_53178_L5 N fn x1 x3 ct (upd ff x2.toNatClampNeg x1) (x2 + (1 : Int32))))
def fJ7_fill_53178 (N : Nat) (fn : Nat) (ff : Nat → Int32) (x1 : Int32) : Option ((Nat → Int32)) := Option.bind (fJ7_fill_53178_L5 N fn x1 (Int32.ofNat fn) N ff (0 : Int32)) (fun u4 => some u4)
def fJ6_bitCount_0f7a4 (N : Nat)  (x0 : Int32) : Option (Int32) := some ((((((((x0 - ((x0.toUInt32 >>> ((1 : Int32).toUInt32 &&& Int32.toUInt32 31)).toInt32 &&& (1431655765 : Int32))) &&& (858993459 : Int32)) + (((x0 - ((x0.toUInt32 >>> ((1 : Int32).toUInt32 &&& Int32.toUInt32 31)).toInt32 &&& (1431655765 : Int32))).toUInt32 >>> ((2 : Int32).toUInt32 &&& Int32.toUInt32 31)).toInt32 &&& (858993459 : Int32))) + ((((x0 - ((x0.toUInt32 >>> ((1 : Int32).toUInt32 &&& Int32.toUInt32 31)).toInt32 &&& (1431655765 : Int32))) &&& (858993459 : Int32)) + (((x0 - ((x0.toUInt32 >>> ((1 : Int32).toUInt32 &&& Int32.toUInt32 31)).toInt32 &&& (1431655765 : Int32))).toUInt32 >>> ((2 : Int32).toUInt32 &&& Int32.toUInt32 31)).toInt32 &&& (858993459 : Int32))).toUInt32 >>> ((4 : Int32).toUInt32 &&& Int32.toUInt32 31)).toInt32) &&& (252645135 : Int32)) + ((((((x0 - ((x0.toUInt32 >>> ((1 : Int32).toUInt32 &&& Int32.toUInt32 31)).toInt32 &&& (1431655765 : Int32))) &&& (858993459 : Int32)) + (((x0 - ((x0.toUInt32 >>> ((1 : Int32).toUInt32 &&& Int32.toUInt32 31)).toInt32 &&& (1431655765 : Int32))).toUInt32 >>> ((2 : Int32).toUInt32 &&& Int32.toUInt32 31)).toInt32 &&& (858993459 : Int32))) + ((((x0 - ((x0.toUInt32 >>> ((1 : Int32).toUInt32 &&& Int32.toUInt32 31)).toInt32 &&& (1431655765 : Int32))) &&& (858993459 : Int32)) + (((x0 - ((x0.toUInt32 >>> ((1 : Int32).toUInt32 &&& Int32.toUInt32 31)).toInt32 &&& (1431655765 : Int32))).toUInt32 >>> ((2 : Int32).toUInt32 &&& Int32.toUInt32 31)).toInt32 &&& (858993459 : Int32))).toUInt32 >>> ((4 : Int32).toUInt32 &&& Int32.toUInt32 31)).toInt32) &&& (252645135 : Int32)).toUInt32 >>> ((8 : Int32).toUInt32 &&& Int32.toUInt32 31)).toInt32) + (((((((x0 - ((x0.toUInt32 >>> ((1 : Int32).toUInt32 &&& Int32.toUInt32 31)).toInt32 &&& (1431655765 : Int32))) &&& (858993459 : Int32)) + (((x0 - ((x0.toUInt32 >>> ((1 : Int32).toUInt32 &&& Int32.toUInt32 31)).toInt32 &&& (1431655765 : Int32))).toUInt32 >>> ((2 : Int32).toUInt32 &&& Int32.toUInt32 31)).toInt32 &&& (858993459 : Int32))) + ((((x0 - ((x0.toUInt32 >>> ((1 : Int32).toUInt32 &&& Int32.toUInt32 31)).toInt32 &&& (1431655765 : Int32))) &&& (858993459 : Int32)) + (((x0 - ((x0.toUInt32 >>> ((1 : Int32).toUInt32 &&& Int32.toUInt32 31)).toInt32 &&& (1431655765 : Int32))).toUInt32 >>> ((2 : Int32).toUInt32 &&& Int32.toUInt32 31)).toInt32 &&& (858993459 : Int32))).toUInt32 >>> ((4 : Int32).toUInt32 &&& Int32.toUInt32 31)).toInt32) &&& (252645135 : Int32)) + ((((((x0 - ((x0.toUInt32 >>> ((1 : Int32).toUInt32 &&& Int32.toUInt32 31)).toInt32 &&& (1431655765 : Int32))) &&& (858993459 : Int32)) + (((x0 - ((x0.toUInt32 >>> ((1 : Int32).toUInt32 &&& Int32.toUInt32 31)).toInt32 &&& (1431655765 : Int32))).toUInt32 >>> ((2 : Int32).toUInt32 &&& Int32.toUInt32 31)).toInt32 &&& (858993459 : Int32))) + ((((x0 - ((x0.toUInt32 >>> ((1 : Int32).toUInt32 &&& Int32.toUInt32 31)).toInt32 &&& (1431655765 : Int32))) &&& (858993459 : Int32)) + (((x0 - ((x0.toUInt32 >>> ((1 : Int32).toUInt32 &&& Int32.toUInt32 31)).toInt32 &&& (1431655765 : Int32))).toUInt32 >>> ((2 : Int32).toUInt32 &&& Int32.toUInt32 31)).toInt32 &&& (858993459 : Int32))).toUInt32 >>> ((4 : Int32).toUInt32 &&& Int32.toUInt32 31)).toInt32) &&& (252645135 : Int32)).toUInt32 >>> ((8 : Int32).toUInt32 &&& Int32.toUInt32 31)).toInt32).toUInt32 >>> ((16 : Int32).toUInt32 &&& Int32.toUInt32 31)).toInt32) &&& (63 : Int32))
def fX1_beside (N : Nat) (gw : Int32) (gj : Int32) (x1 : Int32) (x2 : Int32) : Option (Int32) := if gj = 0 then (some (x1 + x2)) else (if 0 ≤ (x1 + x2) then (if (x1 + x2) < gw then (some (x1 + x2)) else (some (0 : Int32))) else (some (gw - (1 : Int32))))
def fX1_rowFrom_L12 (N : Nat) (gw : Int32) (gh : Int32) (gk : Int32) (gj : Int32) (x3 : Int32) (x4 : Int32) : Nat → Int32 → Int32 → Int32 → Int32 → Option ((Int32) ⊕ (Int32))
  | 0, _, _, _, _ => none
  | ct + 1, x5, x6, x7, x8 => if gk ≤ x8 then (some (.inr x5)) else (if x6 < 0 then (some (.inl (0 : Int32))) else (if gw ≤ x6 then (some (.inl (0 : Int32))) else (if x7 < gh then (if (x5 &&& ((1 : Int32) <<< (((gw * x7) + x6) &&& 31))) = 0 then (Option.bind (fX1_beside N gw gj x6 x3) (fun u12 => fX1_rowFrom_L12 N gw gh gk gj x3 x4 ct (x5 ||| ((1 : Int32) <<< (((gw * x7) + x6) &&& 31))) u12 (x7 + x4) (x8 + (1 : Int32)))) else (some (.inl (0 : Int32)))) else (some (.inl (0 : Int32))))))
def fX1_rowFrom (N : Nat) (gw : Int32) (gh : Int32) (gk : Int32) (gj : Int32) (x1 : Int32) (x2 : Int32) (x3 : Int32) (x4 : Int32) : Option (Int32) := Option.bind (fX1_rowFrom_L12 N gw gh gk gj x3 x4 N (0 : Int32) x1 x2 (0 : Int32)) (fun u19 => onS u19 (fun r21 => some r21) (fun e20 => some e20))
def fX1_isRow_L2 (N : Nat) (gr : Int32) (gR : Nat → Int32) (x1 : Int32) : Nat → Int32 → Option ((Int32) ⊕ (Unit))
  | 0, _ => none
  | ct + 1, x2 => if gr ≤ x2 then (some (.inr ())) else (okb (inb x2 64) (if (gR x2.toNatClampNeg) = x1 then (some (.inl (1 : Int32))) else (fX1_isRow_L2 N gr gR x1 ct (x2 + (1 : Int32)))))
def fX1_isRow (N : Nat) (gr : Int32) (gR : Nat → Int32) (x1 : Int32) : Option (Int32) := Option.bind (fX1_isRow_L2 N gr gR x1 N (0 : Int32)) (fun u7 => onS u7 (fun r9 => some r9) (fun e8 => some (0 : Int32)))
def fX1_addRow_L47 (N : Nat) (gq : Int32) (x1 : Int32) : Nat → (Nat → Int32) → (Nat → Int32) → Int32 → Option ((Nat → Int32) × (Nat → Int32))
  | 0, _, _, _ => none
  | ct + 1, gT, gC, x2 => if gq ≤ x2 then (some (gT, gC)) else (if ((x1 >>> (x2 &&& 31)) &&& (1 : Int32)) = 0 then (fX1_addRow_L47 N gq x1 ct gT gC (x2 + (1 : Int32))) else (okb (inb x2 16) (if (16 : Int32) ≤ (gC x2.toNatClampNeg) then (fX1_addRow_L47 N gq x1 ct gT gC (x2 + (1 : Int32))) else (okb (inb x2 16) (okb (inb ((x2 * (16 : Int32)) + (gC x2.toNatClampNeg)) 256) (okb (inb x2 16) (okb (inb x2 16) (fX1_addRow_L47 N gq x1 ct (upd gT ((x2 * (16 : Int32)) + (gC x2.toNatClampNeg)).toNatClampNeg x1) (upd gC x2.toNatClampNeg ((gC x2.toNatClampNeg) + (1 : Int32))) (x2 + (1 : Int32))))))))))
def fX1_addRow (N : Nat) (gq : Int32) (gr : Int32) (gR : Nat → Int32) (gT : Nat → Int32) (gC : Nat → Int32) (x1 : Int32) : Option (Int32 × (Nat → Int32) × (Nat → Int32) × (Nat → Int32)) := if x1 = 0 then (some (gr, gR, gT, gC)) else (Option.bind (fX1_isRow N gr gR x1) (fun u9 => if u9 = 0 then (if gr < (Int32.ofNat 64) then (okb (inb gr 64) (Option.bind (fX1_addRow_L47 N gq x1 N gT gC (0 : Int32)) (fun u18 => some ((gr + (1 : Int32)), (upd gR gr.toNatClampNeg x1), u18.1, u18.2)))) else (some (gr, gR, gT, gC))) else (some (gr, gR, gT, gC))))
def fX1_tell_L53 (N : Nat) (gw : Int32) (gh : Int32) (gk : Int32) (gq : Int32) (gj : Int32) (x1 : Int32) (x5 : Int32) : Nat → Int32 → (Nat → Int32) → (Nat → Int32) → (Nat → Int32) → Int32 → Option (Int32 × (Nat → Int32) × (Nat → Int32) × (Nat → Int32))
  | 0, _, _, _, _, _ => none
  | ct + 1, gr, gR, gT, gC, x6 => if x1 ≤ x6 then (some (gr, gR, gT, gC)) else (Option.bind (fX1_rowFrom N gw gh gk gj x6 x5 (1 : Int32) (0 : Int32)) (fun u15 => Option.bind (fX1_addRow N gq gr gR gT gC u15) (fun u16 => Option.bind (fX1_rowFrom N gw gh gk gj x6 x5 (0 : Int32) (1 : Int32)) (fun u17 => Option.bind (fX1_addRow N gq u16.1 u16.2.1 u16.2.2.1 u16.2.2.2 u17) (fun u18 => Option.bind (fX1_rowFrom N gw gh gk gj x6 x5 (1 : Int32) (1 : Int32)) (fun u19 => Option.bind (fX1_addRow N gq u18.1 u18.2.1 u18.2.2.1 u18.2.2.2 u19) (fun u20 => Option.bind (fX1_rowFrom N gw gh gk gj x6 x5 (-1 : Int32) (1 : Int32)) (fun u21 => Option.bind (fX1_addRow N gq u20.1 u20.2.1 u20.2.2.1 u20.2.2.2 u21) (fun u22 => fX1_tell_L53 N gw gh gk gq gj x1 x5 ct u22.1 u22.2.1 u22.2.2.1 u22.2.2.2 (x6 + (1 : Int32)))))))))))
def fX1_tell_L44 (N : Nat) (gw : Int32) (gh : Int32) (gk : Int32) (gq : Int32) (gj : Int32) (x1 : Int32) (x2 : Int32) : Nat → Int32 → (Nat → Int32) → (Nat → Int32) → (Nat → Int32) → Int32 → Option (Int32 × (Nat → Int32) × (Nat → Int32) × (Nat → Int32))
  | 0, _, _, _, _, _ => none
  | ct + 1, gr, gR, gT, gC, x5 => if x2 ≤ x5 then (some (gr, gR, gT, gC)) else (Option.bind (fX1_tell_L53 N gw gh gk gq gj x1 x5 N gr gR gT gC (0 : Int32)) (fun u32 => fX1_tell_L44 N gw gh gk gq gj x1 x2 ct u32.1 u32.2.1 u32.2.2.1 u32.2.2.2 (x5 + (1 : Int32))))
def fX1_tell (N : Nat) (gR : Nat → Int32) (gT : Nat → Int32) (gC : Nat → Int32) (x1 : Int32) (x2 : Int32) (x3 : Int32) (x4 : Int32) : Option (Int32 × Int32 × Int32 × Int32 × Int32 × Int32 × (Nat → Int32) × (Nat → Int32) × (Nat → Int32)) := okb (isb x4) (Option.bind (fJ7_fill_53178 N 16 gC (0 : Int32)) (fun u12 => Option.bind (fX1_tell_L44 N x1 x2 x3 (x1 * x2) x4 x1 x2 N (0 : Int32) gR gT u12 (0 : Int32)) (fun u44 => some (x1, x2, x3, (x1 * x2), u44.1, x4, u44.2.1, u44.2.2.1, u44.2.2.2))))
def fX1_hasRow_L2 (N : Nat) (gr : Int32) (gR : Nat → Int32) (x1 : Int32) : Nat → Int32 → Option ((Int32) ⊕ (Unit))
  | 0, _ => none
  | ct + 1, x2 => if gr ≤ x2 then (some (.inr ())) else (okb (inb x2 64) (okb (inb x2 64) (if (x1 &&& (gR x2.toNatClampNeg)) = (gR x2.toNatClampNeg) then (some (.inl (1 : Int32))) else (fX1_hasRow_L2 N gr gR x1 ct (x2 + (1 : Int32))))))
def fX1_hasRow (N : Nat) (gr : Int32) (gR : Nat → Int32) (x1 : Int32) : Option (Int32) := Option.bind (fX1_hasRow_L2 N gr gR x1 N (0 : Int32)) (fun u7 => onS u7 (fun r9 => some r9) (fun e8 => some (0 : Int32)))
def fX1_hasRowThrough_L30 (N : Nat) (gT : Nat → Int32) (x2 : Int32) (x4 : Int32) : Nat → Int32 → Option ((Int32) ⊕ (Unit))
  | 0, _ => none
  | ct + 1, x5 => if x4 ≤ x5 then (some (.inr ())) else (okb (inb x5 256) (if (x2 &&& (gT x5.toNatClampNeg)) = (gT x5.toNatClampNeg) then (some (.inl (1 : Int32))) else (fX1_hasRowThrough_L30 N gT x2 x4 ct (x5 + (1 : Int32)))))
def fX1_hasRowThrough (N : Nat) (gT : Nat → Int32) (gC : Nat → Int32) (x1 : Int32) (x2 : Int32) : Option (Int32) := if x1 < 0 then (some (0 : Int32)) else (if x1 < (16 : Int32) then (okb (inb x1 16) (Option.bind (fX1_hasRowThrough_L30 N gT x2 ((x1 * (16 : Int32)) + (gC x1.toNatClampNeg)) N (x1 * (16 : Int32))) (fun u11 => onS u11 (fun r13 => some r13) (fun e12 => some (0 : Int32))))) else (some (0 : Int32)))
def fX1_rowsWithout_L4 (N : Nat) (gr : Int32) (gR : Nat → Int32) (x1 : Int32) : Nat → Int32 → Int32 → Option (Int32)
  | 0, _, _ => none
  | ct + 1, x2, x3 => if gr ≤ x3 then (some x2) else (okb (inb x3 64) (if (x1 &&& (gR x3.toNatClampNeg)) = 0 then (fX1_rowsWithout_L4 N gr gR x1 ct (x2 + (1 : Int32)) (x3 + (1 : Int32))) else (fX1_rowsWithout_L4 N gr gR x1 ct x2 (x3 + (1 : Int32)))))
def fX1_rowsWithout (N : Nat) (gr : Int32) (gR : Nat → Int32) (x1 : Int32) : Option (Int32) := Option.bind (fX1_rowsWithout_L4 N gr gR x1 N (0 : Int32) (0 : Int32)) (fun u7 => some u7)
def fX1_comesAhead (N : Nat)  (x0 : Int32) (x1 : Int32) : Option (Int32) := if ((x0 &&& (x0 ^^^ x1)) &&& (-(x0 ^^^ x1))) = 0 then (some (0 : Int32)) else (some (1 : Int32))
def fX1_firstRowOf_L4 (N : Nat) (gr : Int32) (gR : Nat → Int32) (x1 : Int32) : Nat → Int32 → Int32 → Option (Int32)
  | 0, _, _ => none
  | ct + 1, x2, x3 => if gr ≤ x3 then (some x2) else (okb (inb x3 64) (okb (inb x3 64) (if (x1 &&& (gR x3.toNatClampNeg)) = (gR x3.toNatClampNeg) then (if x2 = 0 then (okb (inb x3 64) (fX1_firstRowOf_L4 N gr gR x1 ct (gR x3.toNatClampNeg) (x3 + (1 : Int32)))) else (okb (inb x3 64) (Option.bind (fX1_comesAhead N (gR x3.toNatClampNeg) x2) (fun u9 => if u9 = 0 then (fX1_firstRowOf_L4 N gr gR x1 ct x2 (x3 + (1 : Int32))) else (okb (inb x3 64) (fX1_firstRowOf_L4 N gr gR x1 ct (gR x3.toNatClampNeg) (x3 + (1 : Int32)))))))) else (fX1_firstRowOf_L4 N gr gR x1 ct x2 (x3 + (1 : Int32))))))
def fX1_firstRowOf (N : Nat) (gr : Int32) (gR : Nat → Int32) (x1 : Int32) : Option (Int32) := Option.bind (fX1_firstRowOf_L4 N gr gR x1 N (0 : Int32) (0 : Int32)) (fun u16 => some u16)
def fX1_imageOf (N : Nat) (gw : Int32) (x1 : Int32) : Option (Int32) := if (1 : Int32) ≤ gw then (okb (!decide (gw = 0)) (some ((x1 - (x1 - x1 / gw * gw)) + ((gw - (1 : Int32)) - (x1 - x1 / gw * gw))))) else (some ((x1 - (0 : Int32)) + ((gw - (1 : Int32)) - (0 : Int32))))
def fX0_clear (N : Nat) (mm : Nat → Int32) (mh : Nat → Int32)  : Option (Int32 × (Nat → Int32) × (Nat → Int32)) := Option.bind (fJ7_fill_53178 N 2 mm (0 : Int32)) (fun u3 => Option.bind (fJ7_fill_53178 N 7 mh (0 : Int32)) (fun u4 => some ((0 : Int32), u3, u4)))
def fX0_isOpen (N : Nat) (mh : Nat → Int32) (gw : Int32) (gh : Int32) (x1 : Int32) : Option (Int32) := Option.bind (fX4_isWithin N x1 (0 : Int32) (gw - (1 : Int32))) (fun u4 => if u4 = 0 then (some (0 : Int32)) else (okb (inb x1 7) (if gh ≤ (mh x1.toNatClampNeg) then (some (0 : Int32)) else (some (1 : Int32)))))
def fX0_squareIn (N : Nat) (mh : Nat → Int32) (gw : Int32) (x1 : Int32) : Option (Int32) := okb (inb x1 7) (some ((gw * (mh x1.toNatClampNeg)) + x1))
def fX0_side (N : Nat) (mv : Int32)  : Option (Int32) := some (mv &&& (1 : Int32))
def fX0_make (N : Nat) (mv : Int32) (mc : Nat → Int32) (mm : Nat → Int32) (mh : Nat → Int32) (gw : Int32) (gh : Int32) (x1 : Int32) : Option (Int32 × Int32 × (Nat → Int32) × (Nat → Int32) × (Nat → Int32)) := Option.bind (fX0_isOpen N mh gw gh x1) (fun u6 => if u6 = 0 then (some ((-1 : Int32), mv, mc, mm, mh)) else (if mv < (16 : Int32) then (Option.bind (fX0_squareIn N mh gw x1) (fun u9 => Option.bind (fX0_side N mv) (fun u10 => okb (inb u10 2) (okb (inb u10 2) (okb (inb x1 7) (okb (inb x1 7) (okb (inb mv 16) (some (u9, (mv + (1 : Int32)), (upd mc mv.toNatClampNeg x1), (upd mm u10.toNatClampNeg ((mm u10.toNatClampNeg) ||| ((1 : Int32) <<< (u9 &&& 31)))), (upd mh x1.toNatClampNeg ((mh x1.toNatClampNeg) + (1 : Int32)))))))))))) else (some ((-1 : Int32), mv, mc, mm, mh))))
def fX0_unmake (N : Nat) (mv : Int32) (mc : Nat → Int32) (mm : Nat → Int32) (mh : Nat → Int32) (gw : Int32)  : Option (Int32 × (Nat → Int32) × (Nat → Int32)) := if (1 : Int32) ≤ mv then (okb (inb (mv - (1 : Int32)) 16) (okb (inb (mc (mv - (1 : Int32)).toNatClampNeg) 7) (okb (inb (mc (mv - (1 : Int32)).toNatClampNeg) 7) (Option.bind (fX0_side N (mv - (1 : Int32))) (fun u5 => okb (inb u5 2) (Option.bind (fX0_squareIn N (upd mh (mc (mv - (1 : Int32)).toNatClampNeg).toNatClampNeg ((mh (mc (mv - (1 : Int32)).toNatClampNeg).toNatClampNeg) - (1 : Int32))) gw (mc (mv - (1 : Int32)).toNatClampNeg)) (fun u6 => okb (inb u5 2) (some ((mv - (1 : Int32)), (upd mm u5.toNatClampNeg ((mm u5.toNatClampNeg) &&& (((1 : Int32) <<< (u6 &&& 31)) ^^^ (-1 : Int32)))), (upd mh (mc (mv - (1 : Int32)).toNatClampNeg).toNatClampNeg ((mh (mc (mv - (1 : Int32)).toNatClampNeg).toNatClampNeg) - (1 : Int32)))))))))))) else (some (mv, mm, mh))
def fX0_state (N : Nat) (mv : Int32) (mm : Nat → Int32) (gq : Int32) (gr : Int32) (gR : Nat → Int32)  : Option (Int32) := Option.bind (fX0_side N mv) (fun u5 => okb (inb ((1 : Int32) - u5) 2) (Option.bind (fX1_hasRow N gr gR (mm ((1 : Int32) - u5).toNatClampNeg)) (fun u6 => if u6 = 0 then (if mv < gq then (some (0 : Int32)) else (some (2 : Int32))) else (some (1 : Int32)))))
def fX0_isOver (N : Nat) (mv : Int32) (mm : Nat → Int32) (gq : Int32) (gr : Int32) (gR : Nat → Int32)  : Option (Int32) := Option.bind (fX0_state N mv mm gq gr gR) (fun u3 => if u3 = 0 then (some (0 : Int32)) else (some (1 : Int32)))
def fX0_manOn (N : Nat) (mm : Nat → Int32) (x1 : Int32) : Option (Int32) := okb (inb (0 : Int32) 2) (if (((mm (0 : Int32).toNatClampNeg) >>> (x1 &&& 31)) &&& (1 : Int32)) = 0 then (okb (inb (1 : Int32) 2) (if (((mm (1 : Int32).toNatClampNeg) >>> (x1 &&& 31)) &&& (1 : Int32)) = 0 then (some (-1 : Int32)) else (some (1 : Int32)))) else (some (0 : Int32)))
def fX0_openColumns_L4 (N : Nat) (mh : Nat → Int32) (gw : Int32) (gh : Int32) : Nat → Int32 → Int32 → Option (Int32)
  | 0, _, _ => none
  | ct + 1, x1, x2 => if gw ≤ x2 then (some x1) else (Option.bind (fX0_isOpen N mh gw gh x2) (fun u5 => if u5 = 0 then (fX0_openColumns_L4 N mh gw gh ct x1 (x2 + (1 : Int32))) else (fX0_openColumns_L4 N mh gw gh ct (x1 + (1 : Int32)) (x2 + (1 : Int32)))))
def fX0_openColumns (N : Nat) (mh : Nat → Int32) (gw : Int32) (gh : Int32)  : Option (Int32) := Option.bind (fX0_openColumns_L4 N mh gw gh N (0 : Int32) (0 : Int32)) (fun u10 => some u10)
def fX0_isThreat (N : Nat) (mm : Nat → Int32) (gr : Int32) (gR : Nat → Int32) (x1 : Int32) (x2 : Int32) : Option (Int32) := Option.bind (fX0_manOn N mm x2) (fun u5 => if u5 = (-1 : Int32) then (okb (inb x1 2) (Option.bind (fX1_hasRow N gr gR ((mm x1.toNatClampNeg) ||| ((1 : Int32) <<< (x2 &&& 31)))) (fun u7 => if u7 = 0 then (some (0 : Int32)) else (some (1 : Int32))))) else (some (0 : Int32)))
def fX0_threatsOf_L4 (N : Nat) (mm : Nat → Int32) (gq : Int32) (gr : Int32) (gR : Nat → Int32) (x1 : Int32) : Nat → Int32 → Int32 → Option (Int32)
  | 0, _, _ => none
  | ct + 1, x2, x3 => if gq ≤ x3 then (some x2) else (Option.bind (fX0_isThreat N mm gr gR x1 x3) (fun u5 => if u5 = 0 then (fX0_threatsOf_L4 N mm gq gr gR x1 ct x2 (x3 + (1 : Int32))) else (fX0_threatsOf_L4 N mm gq gr gR x1 ct (x2 ||| ((1 : Int32) <<< (x3 &&& 31))) (x3 + (1 : Int32)))))
def fX0_threatsOf (N : Nat) (mm : Nat → Int32) (gq : Int32) (gr : Int32) (gR : Nat → Int32) (x1 : Int32) : Option (Int32) := Option.bind (fX0_threatsOf_L4 N mm gq gr gR x1 N (0 : Int32) (0 : Int32)) (fun u10 => some u10)
def fX0_waitingSort (N : Nat) (mv : Int32) (mm : Nat → Int32) (mh : Nat → Int32) (gw : Int32) (gq : Int32) (gr : Int32) (gR : Nat → Int32) (x1 : Int32) : Option (Int32) := Option.bind (fX0_side N mv) (fun u12 => Option.bind (fX0_squareIn N mh gw x1) (fun u13 => Option.bind (fX0_isThreat N mm gr gR u12 u13) (fun u14 => if u14 = 0 then (Option.bind (fX0_isThreat N mm gr gR ((1 : Int32) - u12) u13) (fun u16 => if u16 = 0 then (if (u13 + gw) < gq then (Option.bind (fX0_isThreat N mm gr gR ((1 : Int32) - u12) (u13 + gw)) (fun u19 => if u19 = 0 then (Option.bind (fX0_isThreat N mm gr gR u12 (u13 + gw)) (fun u21 => if u21 = 0 then (some (2 : Int32)) else (some (3 : Int32)))) else (some (4 : Int32)))) else (some (2 : Int32))) else (some (1 : Int32)))) else (some (0 : Int32)))))
def fX0_waitingColumn_L6 (N : Nat) (mv : Int32) (mm : Nat → Int32) (mh : Nat → Int32) (gw : Int32) (gh : Int32) (gq : Int32) (gr : Int32) (gR : Nat → Int32) : Nat → Int32 → Int32 → Int32 → Option (Int32)
  | 0, _, _, _ => none
  | ct + 1, x1, x2, x3 => if gw ≤ x3 then (some x1) else (Option.bind (fX0_isOpen N mh gw gh x3) (fun u7 => if u7 = 0 then (fX0_waitingColumn_L6 N mv mm mh gw gh gq gr gR ct x1 x2 (x3 + (1 : Int32))) else (Option.bind (fX0_waitingSort N mv mm mh gw gq gr gR x3) (fun u9 => if x2 ≤ u9 then (fX0_waitingColumn_L6 N mv mm mh gw gh gq gr gR ct x1 x2 (x3 + (1 : Int32))) else (fX0_waitingColumn_L6 N mv mm mh gw gh gq gr gR ct x3 u9 (x3 + (1 : Int32)))))))
def fX0_waitingColumn (N : Nat) (mv : Int32) (mm : Nat → Int32) (mh : Nat → Int32) (gw : Int32) (gh : Int32) (gq : Int32) (gr : Int32) (gR : Nat → Int32)  : Option (Int32) := Option.bind (fX0_waitingColumn_L6 N mv mm mh gw gh gq gr gR N (-1 : Int32) (5 : Int32) (0 : Int32)) (fun u16 => some u16)
def fX0_follow_L6 (N : Nat) (nv : Int32) (nc : Nat → Int32) (gw : Int32) (gh : Int32) : Nat → Int32 → (Nat → Int32) → (Nat → Int32) → (Nat → Int32) → Int32 → Option (Int32 × (Nat → Int32) × (Nat → Int32) × (Nat → Int32))
  | 0, _, _, _, _, _ => none
  | ct + 1, mv, mc, mm, mh, x2 => if nv ≤ x2 then (some (mv, mc, mm, mh)) else (okb (inb x2 16) (Option.bind (fX0_make N mv mc mm mh gw gh (nc x2.toNatClampNeg)) (fun u6 => fX0_follow_L6 N nv nc gw gh ct u6.2.1 u6.2.2.1 u6.2.2.2.1 u6.2.2.2.2 (x2 + (1 : Int32)))))
def fX0_follow (N : Nat) (mc : Nat → Int32) (mm : Nat → Int32) (mh : Nat → Int32) (nv : Int32) (nc : Nat → Int32) (gw : Int32) (gh : Int32)  : Option (Int32 × (Nat → Int32) × (Nat → Int32) × (Nat → Int32)) := Option.bind (fX0_clear N mm mh) (fun u4 => Option.bind (fX0_follow_L6 N nv nc gw gh N u4.1 mc u4.2.1 u4.2.2 (0 : Int32)) (fun u9 => some (u9.1, u9.2.1, u9.2.2.1, u9.2.2.2)))
def fX2_renew (N : Nat) (qi : Nat → Int32) (x1 : Int32) (x2 : Int32) : Option (Int32 × Int32 × Int32 × (Nat → Int32)) := Option.bind (fJ7_fill_53178 N 20 qi (0 : Int32)) (fun u2 => some ((0 : Int32), x1, x2, u2))
def fX2_findingAt (N : Nat) (ql : Int32) (qf : Int32) (qz : Int32) (x1 : Int32) (x2 : Int32) : Option (Int32) := if ql = 0 then (if qf = x1 then (Option.bind (fX4_isWithin N x2 (0 : Int32) (qz - (1 : Int32))) (fun u7 => if u7 = 0 then (some (2 : Int32)) else (some (0 : Int32)))) else (some (3 : Int32))) else (some (1 : Int32))
def fX2_hasPart (N : Nat) (qz : Int32) (x1 : Int32) (x2 : Int32) : Option (Int32) := if x2 < 0 then (some (0 : Int32)) else (if qz < x2 then (some (0 : Int32)) else (if x1 < 0 then (some (0 : Int32)) else (if (qz - x2) < x1 then (some (0 : Int32)) else (some (1 : Int32)))))
def fX2_store (N : Nat) (qf : Int32) (qi : Nat → Int32) (x1 : Int32) (x2 : Int32) : Option ((Nat → Int32)) := if qf = 0 then (okb (inb x1 20) (some (upd qi x1.toNatClampNeg x2.toInt8.toInt32))) else (if qf = (1 : Int32) then (okb (inb x1 20) (some (upd qi x1.toNatClampNeg x2.toInt16.toInt32))) else (okb (inb x1 20) (some (upd qi x1.toNatClampNeg x2))))
def fJ7_rangeCheck_23922 (N : Nat)  (x0 : Int32) (x1 : Int32) (x2 : Int32) : Option (Unit) := if x1 ≤ x2 then (if 0 ≤ x1 then (if x2 ≤ x0 then (some ()) else (none)) else (none)) else (none)
def fJ7_fill_bad5a_L10 (N : Nat) (fn : Nat) (x2 : Int32) (x3 : Int64) : Nat → (Nat → Int64) → Int32 → Option ((Nat → Int64))
  | 0, _, _ => none
  | ct + 1, ff, x5 => if x2 ≤ x5 then (some ff) else (okb (inb x5 fn) (fJ7_fill_bad5a_L10 N fn x2 x3 ct (vp_updL ff x5.toNatClampNeg x3) (x5 + (1 : Int32))))
def fJ7_fill_bad5a (N : Nat) (fn : Nat) (ff : Nat → Int64) (x1 : Int32) (x2 : Int32) (x3 : Int64) : Option ((Nat → Int64)) := Option.bind (fJ7_rangeCheck_23922 N (Int32.ofNat fn) x1 x2) (fun u3 => Option.bind (fJ7_fill_bad5a_L10 N fn x2 x3 N ff x1) (fun u6 => some u6))
def fX3_forget (N : Nat)   : Option (Int32) := some (0 : Int32)
def fX3_prepare_L24 (N : Nat) (gw : Int32) (x1 : Int32) : Nat → (Nat → Int32) → Int32 → Int32 → Option ((Nat → Int32) × Int32)
  | 0, _, _, _ => none
  | ct + 1, sP, x2, x3 => if gw ≤ x3 then (some (sP, x2)) else (okb (inb x3 7) (fX3_prepare_L24 N gw x1 ct (upd sP x3.toNatClampNeg x2) (x2 * x1) (x3 + (1 : Int32))))
def fX3_prepare_L91 (N : Nat)  : Nat → (Nat → Nat → Int32) → Int32 → Option ((Nat → Nat → Int32))
  | 0, _, _ => none
  | ct + 1, tl, x4 => if (5 : Int32) ≤ x4 then (some tl) else (okb (inb x4 5) (Option.bind (fJ7_fill_53178 N 17 (tl (x4.toNatClampNeg)) (0 : Int32)) (fun u17 => fX3_prepare_L91 N  ct (upT tl (x4.toNatClampNeg) u17) (x4 + (1 : Int32)))))
def fX3_prepare (N : Nat) (sp : Int32) (sP : Nat → Int32) (tl : Nat → Nat → Int32) (kl : Nat) (kf : Nat → Int64) (gw : Int32) (gh : Int32)  : Option (Int32 × (Nat → Int32) × (Nat → Nat → Int32) × Nat × (Nat → Int64)) := if sp = 0 then (Option.bind (fX3_prepare_L24 N gw (((2 : Int32) <<< (gh &&& 31)) - (1 : Int32)) N sP (1 : Int32) (0 : Int32)) (fun u12 => if ((u12.2 + (7 : Int32)) >>> ((3 : Int32) &&& 31)) ≤ (Int32.ofNat kl) then (Option.bind (fJ7_fill_bad5a N kl kf (0 : Int32) ((u12.2 + (7 : Int32)) >>> ((3 : Int32) &&& 31)) (0 : Int64)) (fun u14 => Option.bind (fX3_prepare_L91 N  N tl (0 : Int32)) (fun u21 => some ((1 : Int32), u12.1, u21, kl, u14)))) else (okb (!decide (((u12.2 + (7 : Int32)) >>> ((3 : Int32) &&& 31)) < 0)) (okb (decide (((u12.2 + (7 : Int32)) >>> ((3 : Int32) &&& 31)).toNatClampNeg ≤ 115441)) (Option.bind (fX3_prepare_L91 N  N tl (0 : Int32)) (fun u26 => some ((1 : Int32), u12.1, u26, ((u12.2 + (7 : Int32)) >>> ((3 : Int32) &&& 31)).toNatClampNeg, (fun _ => (0 : Int64))))))))) else (some (sp, sP, tl, kl, kf))
def fX3_startEmpty (N : Nat) (sp : Int32) (sP : Nat → Int32) (sC : Nat → Int32) (sH : Nat → Int32) (tl : Nat → Nat → Int32) (kl : Nat) (kf : Nat → Int64) (gw : Int32) (gh : Int32)  : Option (Int32 × Int32 × Int32 × Int32 × Int32 × Int32 × (Nat → Int32) × (Nat → Int32) × (Nat → Int32) × (Nat → Nat → Int32) × Nat × (Nat → Int64)) := Option.bind (fX3_prepare N sp sP tl kl kf gw gh) (fun u5 => Option.bind (fJ7_fill_53178 N 7 sC (1 : Int32)) (fun u7 => Option.bind (fJ7_fill_53178 N 7 sH (0 : Int32)) (fun u8 => some (u5.1, (0 : Int32), (0 : Int32), (0 : Int32), (0 : Int32), (0 : Int32), u5.2.1, u7, u8, u5.2.2.1, u5.2.2.2.1, u5.2.2.2.2))))
def fX3_start_L6 (N : Nat) (sP : Nat → Int32) (mv : Int32) (mc : Nat → Int32) (gw : Int32) : Nat → Int32 → Int32 → (Nat → Int32) → (Nat → Int32) → Int32 → Option (Int32 × Int32 × (Nat → Int32) × (Nat → Int32))
  | 0, _, _, _, _, _ => none
  | ct + 1, s3, s4, sC, sH, x2 => if mv ≤ x2 then (some (s3, s4, sC, sH)) else (okb (inb x2 16) (okb (inb (mc x2.toNatClampNeg) 7) (okb (inb (mc x2.toNatClampNeg) 7) (okb (inb ((gw - (1 : Int32)) - (mc x2.toNatClampNeg)) 7) (okb (inb (mc x2.toNatClampNeg) 7) (okb (inb (mc x2.toNatClampNeg) 7) (okb (inb (mc x2.toNatClampNeg) 7) (okb (inb (mc x2.toNatClampNeg) 7) (fX3_start_L6 N sP mv mc gw ct (s3 + (((sC (mc x2.toNatClampNeg).toNatClampNeg) + (x2 &&& (1 : Int32))) * (sP (mc x2.toNatClampNeg).toNatClampNeg))) (s4 + (((sC (mc x2.toNatClampNeg).toNatClampNeg) + (x2 &&& (1 : Int32))) * (sP ((gw - (1 : Int32)) - (mc x2.toNatClampNeg)).toNatClampNeg))) (upd sC (mc x2.toNatClampNeg).toNatClampNeg ((sC (mc x2.toNatClampNeg).toNatClampNeg) + ((sC (mc x2.toNatClampNeg).toNatClampNeg) + (x2 &&& (1 : Int32))))) (upd sH (mc x2.toNatClampNeg).toNatClampNeg ((sH (mc x2.toNatClampNeg).toNatClampNeg) + (1 : Int32))) (x2 + (1 : Int32)))))))))))
def fX3_start (N : Nat) (sp : Int32) (sP : Nat → Int32) (sC : Nat → Int32) (sH : Nat → Int32) (tl : Nat → Nat → Int32) (kl : Nat) (kf : Nat → Int64) (mv : Int32) (mc : Nat → Int32) (mm : Nat → Int32) (gw : Int32) (gh : Int32)  : Option (Int32 × Int32 × Int32 × Int32 × Int32 × Int32 × (Nat → Int32) × (Nat → Int32) × (Nat → Int32) × (Nat → Nat → Int32) × Nat × (Nat → Int64)) := Option.bind (fX3_startEmpty N sp sP sC sH tl kl kf gw gh) (fun u6 => Option.bind (fX3_start_L6 N u6.2.2.2.2.2.2.1 mv mc gw N u6.2.2.2.1 u6.2.2.2.2.1 u6.2.2.2.2.2.2.2.1 u6.2.2.2.2.2.2.2.2.1 (0 : Int32)) (fun u10 => Option.bind (fX0_side N mv) (fun u11 => okb (inb u11 2) (Option.bind (fX0_side N mv) (fun u12 => okb (inb ((1 : Int32) - u12) 2) (some (u6.1, (mm u11.toNatClampNeg), (mm ((1 : Int32) - u12).toNatClampNeg), u10.1, u10.2.1, mv, u6.2.2.2.2.2.2.1, u10.2.2.1, u10.2.2.2, u6.2.2.2.2.2.2.2.2.2.1, u6.2.2.2.2.2.2.2.2.2.2.1, u6.2.2.2.2.2.2.2.2.2.2.2)))))))
def fX3_seenFromAhead (N : Nat)  (x0 : Int32) : Option (Int32) := if x0 = 0 then (some (0 : Int32)) else (if x0 ≤ 0 then (some ((-1 : Int32) - x0)) else (some ((1 : Int32) - x0)))
def fX3_keptAt (N : Nat) (kl : Nat) (kf : Nat → Int64) (x1 : Int32) : Option (Int32) := if (x1 >>> ((3 : Int32) &&& 31)) < 0 then (some (0 : Int32)) else (if (x1 >>> ((3 : Int32) &&& 31)) < (Int32.ofNat kl) then (okb (inb (x1 >>> ((3 : Int32) &&& 31)) kl) (some (((kf (x1 >>> ((3 : Int32) &&& 31)).toNatClampNeg).toUInt64 >>> (((x1 &&& (7 : Int32)) <<< ((3 : Int32) &&& 31)).toInt64.toUInt64 &&& Int64.toUInt64 63)).toInt64.toInt32 &&& (255 : Int32)))) else (some (0 : Int32)))
def fX3_shareOf (N : Nat)  (x0 : Int32) : Option (Int32) := if x0 = (101 : Int32) then (some (3 : Int32)) else (if x0 ≤ (101 : Int32) then (some (2 : Int32)) else (some (4 : Int32)))
def fX3_keep (N : Nat) (tl : Nat → Nat → Int32) (kl : Nat) (kf : Nat → Int64) (x1 : Int32) (x2 : Int32) (x3 : Int32) (x4 : Int32) : Option ((Nat → Nat → Int32) × (Nat → Int64)) := if ((if x2 < x1 then x2 else x1) >>> ((3 : Int32) &&& 31)) < 0 then (some (tl, kf)) else (if (Int32.ofNat kl) ≤ ((if x2 < x1 then x2 else x1) >>> ((3 : Int32) &&& 31)) then (some (tl, kf)) else (Option.bind (fX3_keptAt N kl kf (if x2 < x1 then x2 else x1)) (fun u20 => if u20 = 0 then (okb (inb ((if x2 < x1 then x2 else x1) >>> ((3 : Int32) &&& 31)) kl) (okb (inb ((if x2 < x1 then x2 else x1) >>> ((3 : Int32) &&& 31)) kl) (if x1 = x2 then (okb (inb (0 : Int32) 5) (okb (inb x3 17) (okb (inb x3 17) (if x4 = (254 : Int32) then (okb (inb (1 : Int32) 5) (okb (inb x3 17) (okb (inb x3 17) (some ((upT (upT tl ((0 : Int32).toNatClampNeg) (upd (tl ((0 : Int32).toNatClampNeg)) x3.toNatClampNeg ((tl ((0 : Int32).toNatClampNeg) x3.toNatClampNeg) + (1 : Int32)))) ((1 : Int32).toNatClampNeg) (upd ((upT tl ((0 : Int32).toNatClampNeg) (upd (tl ((0 : Int32).toNatClampNeg)) x3.toNatClampNeg ((tl ((0 : Int32).toNatClampNeg) x3.toNatClampNeg) + (1 : Int32)))) ((1 : Int32).toNatClampNeg)) x3.toNatClampNeg (((upT tl ((0 : Int32).toNatClampNeg) (upd (tl ((0 : Int32).toNatClampNeg)) x3.toNatClampNeg ((tl ((0 : Int32).toNatClampNeg) x3.toNatClampNeg) + (1 : Int32)))) ((1 : Int32).toNatClampNeg) x3.toNatClampNeg) + (1 : Int32)))), (vp_updL kf ((if x2 < x1 then x2 else x1) >>> ((3 : Int32) &&& 31)).toNatClampNeg ((kf ((if x2 < x1 then x2 else x1) >>> ((3 : Int32) &&& 31)).toNatClampNeg) ||| (x4.toInt64 <<< ((((if x2 < x1 then x2 else x1) &&& (7 : Int32)) <<< ((3 : Int32) &&& 31)).toInt64 &&& 63))))))))) else (if x4 = (255 : Int32) then (some ((upT tl ((0 : Int32).toNatClampNeg) (upd (tl ((0 : Int32).toNatClampNeg)) x3.toNatClampNeg ((tl ((0 : Int32).toNatClampNeg) x3.toNatClampNeg) + (1 : Int32)))), (vp_updL kf ((if x2 < x1 then x2 else x1) >>> ((3 : Int32) &&& 31)).toNatClampNeg ((kf ((if x2 < x1 then x2 else x1) >>> ((3 : Int32) &&& 31)).toNatClampNeg) ||| (x4.toInt64 <<< ((((if x2 < x1 then x2 else x1) &&& (7 : Int32)) <<< ((3 : Int32) &&& 31)).toInt64 &&& 63)))))) else (Option.bind (fX3_shareOf N x4) (fun u32 => okb (inb u32 5) (okb (inb x3 17) (okb (inb x3 17) (some ((upT (upT tl ((0 : Int32).toNatClampNeg) (upd (tl ((0 : Int32).toNatClampNeg)) x3.toNatClampNeg ((tl ((0 : Int32).toNatClampNeg) x3.toNatClampNeg) + (1 : Int32)))) (u32.toNatClampNeg) (upd ((upT tl ((0 : Int32).toNatClampNeg) (upd (tl ((0 : Int32).toNatClampNeg)) x3.toNatClampNeg ((tl ((0 : Int32).toNatClampNeg) x3.toNatClampNeg) + (1 : Int32)))) (u32.toNatClampNeg)) x3.toNatClampNeg (((upT tl ((0 : Int32).toNatClampNeg) (upd (tl ((0 : Int32).toNatClampNeg)) x3.toNatClampNeg ((tl ((0 : Int32).toNatClampNeg) x3.toNatClampNeg) + (1 : Int32)))) (u32.toNatClampNeg) x3.toNatClampNeg) + (1 : Int32)))), (vp_updL kf ((if x2 < x1 then x2 else x1) >>> ((3 : Int32) &&& 31)).toNatClampNeg ((kf ((if x2 < x1 then x2 else x1) >>> ((3 : Int32) &&& 31)).toNatClampNeg) ||| (x4.toInt64 <<< ((((if x2 < x1 then x2 else x1) &&& (7 : Int32)) <<< ((3 : Int32) &&& 31)).toInt64 &&& 63))))))))))))))) else (okb (inb (0 : Int32) 5) (okb (inb x3 17) (okb (inb x3 17) (if x4 = (254 : Int32) then (okb (inb (1 : Int32) 5) (okb (inb x3 17) (okb (inb x3 17) (some ((upT (upT tl ((0 : Int32).toNatClampNeg) (upd (tl ((0 : Int32).toNatClampNeg)) x3.toNatClampNeg ((tl ((0 : Int32).toNatClampNeg) x3.toNatClampNeg) + (2 : Int32)))) ((1 : Int32).toNatClampNeg) (upd ((upT tl ((0 : Int32).toNatClampNeg) (upd (tl ((0 : Int32).toNatClampNeg)) x3.toNatClampNeg ((tl ((0 : Int32).toNatClampNeg) x3.toNatClampNeg) + (2 : Int32)))) ((1 : Int32).toNatClampNeg)) x3.toNatClampNeg (((upT tl ((0 : Int32).toNatClampNeg) (upd (tl ((0 : Int32).toNatClampNeg)) x3.toNatClampNeg ((tl ((0 : Int32).toNatClampNeg) x3.toNatClampNeg) + (2 : Int32)))) ((1 : Int32).toNatClampNeg) x3.toNatClampNeg) + (2 : Int32)))), (vp_updL kf ((if x2 < x1 then x2 else x1) >>> ((3 : Int32) &&& 31)).toNatClampNeg ((kf ((if x2 < x1 then x2 else x1) >>> ((3 : Int32) &&& 31)).toNatClampNeg) ||| (x4.toInt64 <<< ((((if x2 < x1 then x2 else x1) &&& (7 : Int32)) <<< ((3 : Int32) &&& 31)).toInt64 &&& 63))))))))) else (if x4 = (255 : Int32) then (some ((upT tl ((0 : Int32).toNatClampNeg) (upd (tl ((0 : Int32).toNatClampNeg)) x3.toNatClampNeg ((tl ((0 : Int32).toNatClampNeg) x3.toNatClampNeg) + (2 : Int32)))), (vp_updL kf ((if x2 < x1 then x2 else x1) >>> ((3 : Int32) &&& 31)).toNatClampNeg ((kf ((if x2 < x1 then x2 else x1) >>> ((3 : Int32) &&& 31)).toNatClampNeg) ||| (x4.toInt64 <<< ((((if x2 < x1 then x2 else x1) &&& (7 : Int32)) <<< ((3 : Int32) &&& 31)).toInt64 &&& 63)))))) else (Option.bind (fX3_shareOf N x4) (fun u26 => okb (inb u26 5) (okb (inb x3 17) (okb (inb x3 17) (some ((upT (upT tl ((0 : Int32).toNatClampNeg) (upd (tl ((0 : Int32).toNatClampNeg)) x3.toNatClampNeg ((tl ((0 : Int32).toNatClampNeg) x3.toNatClampNeg) + (2 : Int32)))) (u26.toNatClampNeg) (upd ((upT tl ((0 : Int32).toNatClampNeg) (upd (tl ((0 : Int32).toNatClampNeg)) x3.toNatClampNeg ((tl ((0 : Int32).toNatClampNeg) x3.toNatClampNeg) + (2 : Int32)))) (u26.toNatClampNeg)) x3.toNatClampNeg (((upT tl ((0 : Int32).toNatClampNeg) (upd (tl ((0 : Int32).toNatClampNeg)) x3.toNatClampNeg ((tl ((0 : Int32).toNatClampNeg) x3.toNatClampNeg) + (2 : Int32)))) (u26.toNatClampNeg) x3.toNatClampNeg) + (2 : Int32)))), (vp_updL kf ((if x2 < x1 then x2 else x1) >>> ((3 : Int32) &&& 31)).toNatClampNeg ((kf ((if x2 < x1 then x2 else x1) >>> ((3 : Int32) &&& 31)).toNatClampNeg) ||| (x4.toInt64 <<< ((((if x2 < x1 then x2 else x1) &&& (7 : Int32)) <<< ((3 : Int32) &&& 31)).toInt64 &&& 63)))))))))))))))))) else (some (tl, kf)))))
def fX3_tryColumn (N : Nat) (srch : (Nat → Int32) → (Nat → Int32) → (Nat → Int32) → (Nat → Nat → Int32) → Nat → (Nat → Int64) → Int32 → Int32 → Int32 → (Nat → Int32) → (Nat → Int32) → Int32 → Int32 → Int32 → Int32 → Int32 → Option (Int32 × (Nat → Int32) × (Nat → Int32) × (Nat → Nat → Int32) × (Nat → Int64))) (sP : Nat → Int32) (sC : Nat → Int32) (sH : Nat → Int32) (tl : Nat → Nat → Int32) (kl : Nat) (kf : Nat → Int64) (gw : Int32) (gh : Int32) (gq : Int32) (gT : Nat → Int32) (gC : Nat → Int32) (x1 : Int32) (x2 : Int32) (x3 : Int32) (x4 : Int32) (x5 : Int32) (x6 : Int32) : Option (Int32 × (Nat → Int32) × (Nat → Int32) × (Nat → Nat → Int32) × (Nat → Int64)) := okb (inb x1 7) (okb (inb x1 7) (okb (inb ((gw - (1 : Int32)) - x1) 7) (okb (inb x1 7) (Option.bind (fX1_hasRowThrough N gT gC ((gw * (sH x1.toNatClampNeg)) + x1) (x2 ||| ((1 : Int32) <<< (((gw * (sH x1.toNatClampNeg)) + x1) &&& 31)))) (fun u8 => if u8 = 0 then (if (x6 + (1 : Int32)) < gq then (okb (inb x1 7) (okb (inb x1 7) (okb (inb x1 7) (Option.bind (srch sP (upd sC x1.toNatClampNeg ((sC x1.toNatClampNeg) + ((sC x1.toNatClampNeg) + (x6 &&& (1 : Int32))))) (upd sH x1.toNatClampNeg ((sH x1.toNatClampNeg) + (1 : Int32))) tl kl kf gw gh gq gT gC x3 (x2 ||| ((1 : Int32) <<< (((gw * (sH x1.toNatClampNeg)) + x1) &&& 31))) (x4 + (((sC x1.toNatClampNeg) + (x6 &&& (1 : Int32))) * (sP x1.toNatClampNeg))) (x5 + (((sC x1.toNatClampNeg) + (x6 &&& (1 : Int32))) * (sP ((gw - (1 : Int32)) - x1).toNatClampNeg))) (x6 + (1 : Int32))) (fun u11 => okb (inb x1 7) (okb (inb x1 7) (okb (inb x1 7) (Option.bind (fX3_seenFromAhead N u11.1) (fun u12 => some (u12, (upd u11.2.1 x1.toNatClampNeg (sC x1.toNatClampNeg)), (upd u11.2.2.1 x1.toNatClampNeg ((u11.2.2.1 x1.toNatClampNeg) - (1 : Int32))), u11.2.2.2.1, u11.2.2.2.2)))))))))) else (Option.bind (fX3_keep N tl kl kf (x4 + (((sC x1.toNatClampNeg) + (x6 &&& (1 : Int32))) * (sP x1.toNatClampNeg))) (x5 + (((sC x1.toNatClampNeg) + (x6 &&& (1 : Int32))) * (sP ((gw - (1 : Int32)) - x1).toNatClampNeg))) (x6 + (1 : Int32)) (255 : Int32)) (fun u13 => some ((0 : Int32), sC, sH, u13.1, u13.2)))) else (Option.bind (fX3_keep N tl kl kf (x4 + (((sC x1.toNatClampNeg) + (x6 &&& (1 : Int32))) * (sP x1.toNatClampNeg))) (x5 + (((sC x1.toNatClampNeg) + (x6 &&& (1 : Int32))) * (sP ((gw - (1 : Int32)) - x1).toNatClampNeg))) (x6 + (1 : Int32)) (254 : Int32)) (fun u14 => some ((99 : Int32), sC, sH, u14.1, u14.2))))))))
def fX3_search_L30 (N : Nat) (srch : (Nat → Int32) → (Nat → Int32) → (Nat → Int32) → (Nat → Nat → Int32) → Nat → (Nat → Int64) → Int32 → Int32 → Int32 → (Nat → Int32) → (Nat → Int32) → Int32 → Int32 → Int32 → Int32 → Int32 → Option (Int32 × (Nat → Int32) × (Nat → Int32) × (Nat → Nat → Int32) × (Nat → Int64))) (sP : Nat → Int32) (kl : Nat) (gw : Int32) (gh : Int32) (gq : Int32) (gT : Nat → Int32) (gC : Nat → Int32) (x1 : Int32) (x2 : Int32) (x3 : Int32) (x4 : Int32) (x5 : Int32) : Nat → (Nat → Int32) → (Nat → Int32) → (Nat → Nat → Int32) → (Nat → Int64) → Int32 → Int32 → Option ((Nat → Int32) × (Nat → Int32) × (Nat → Nat → Int32) × (Nat → Int64) × Int32)
  | 0, _, _, _, _, _, _ => none
  | ct + 1, sC, sH, tl, kf, x7, x8 => if gw ≤ x8 then (some (sC, sH, tl, kf, x7)) else (okb (inb x8 7) (if gh ≤ (sH x8.toNatClampNeg) then (fX3_search_L30 N srch sP kl gw gh gq gT gC x1 x2 x3 x4 x5 ct sC sH tl kf x7 (x8 + (1 : Int32))) else (Option.bind (fX3_tryColumn N srch sP sC sH tl kl kf gw gh gq gT gC x8 x1 x2 x3 x4 x5) (fun u12 => if u12.1 ≤ x7 then (fX3_search_L30 N srch sP kl gw gh gq gT gC x1 x2 x3 x4 x5 ct u12.2.1 u12.2.2.1 u12.2.2.2.1 u12.2.2.2.2 x7 (x8 + (1 : Int32))) else (fX3_search_L30 N srch sP kl gw gh gq gT gC x1 x2 x3 x4 x5 ct u12.2.1 u12.2.2.1 u12.2.2.2.1 u12.2.2.2.2 u12.1 (x8 + (1 : Int32)))))))
def fX3_search (N : Nat) : Nat → (Nat → Int32) → (Nat → Int32) → (Nat → Int32) → (Nat → Nat → Int32) → Nat → (Nat → Int64) → Int32 → Int32 → Int32 → (Nat → Int32) → (Nat → Int32) → Int32 → Int32 → Int32 → Int32 → Int32 → Option (Int32 × (Nat → Int32) × (Nat → Int32) × (Nat → Nat → Int32) × (Nat → Int64))
  | 0, _, _, _, _, _, _, _, _, _, _, _, _, _, _, _, _ => none
  | d + 1, sP, sC, sH, tl, kl, kf, gw, gh, gq, gT, gC, x1, x2, x3, x4, x5 => Option.bind (fX3_keptAt N kl kf (if x4 < x3 then x4 else x3)) (fun u8 => if u8 = 0 then (Option.bind (fX3_search_L30 N (fX3_search N d) sP kl gw gh gq gT gC x1 x2 x3 x4 x5 N sC sH tl kf (-100 : Int32) (0 : Int32)) (fun u18 => Option.bind (fX3_keep N u18.2.2.1 kl u18.2.2.2.1 x3 x4 x5 (u18.2.2.2.2 + (101 : Int32))) (fun u19 => some (u18.2.2.2.2, u18.1, u18.2.1, u19.1, u19.2)))) else (some ((u8 - (101 : Int32)), sC, sH, tl, kf)))
def fX3_worthOfStart (N : Nat) (s1 : Int32) (s2 : Int32) (s3 : Int32) (s4 : Int32) (s5 : Int32) (sP : Nat → Int32) (sC : Nat → Int32) (sH : Nat → Int32) (tl : Nat → Nat → Int32) (kl : Nat) (kf : Nat → Int64) (gw : Int32) (gh : Int32) (gq : Int32) (gT : Nat → Int32) (gC : Nat → Int32)  : Option (Int32 × (Nat → Int32) × (Nat → Int32) × (Nat → Nat → Int32) × (Nat → Int64)) := Option.bind (fX3_search N 20 sP sC sH tl kl kf gw gh gq gT gC s1 s2 s3 s4 s5) (fun u2 => some (u2.1, u2.2.1, u2.2.2.1, u2.2.2.2.1, u2.2.2.2.2))
def fX3_worthOfMove (N : Nat) (s1 : Int32) (s2 : Int32) (s3 : Int32) (s4 : Int32) (s5 : Int32) (sP : Nat → Int32) (sC : Nat → Int32) (sH : Nat → Int32) (tl : Nat → Nat → Int32) (kl : Nat) (kf : Nat → Int64) (gw : Int32) (gh : Int32) (gq : Int32) (gT : Nat → Int32) (gC : Nat → Int32) (x1 : Int32) : Option (Int32 × (Nat → Int32) × (Nat → Int32) × (Nat → Nat → Int32) × (Nat → Int64)) := Option.bind (fX3_tryColumn N (fX3_search N 20) sP sC sH tl kl kf gw gh gq gT gC x1 s1 s2 s3 s4 s5) (fun u2 => some (u2.1, u2.2.1, u2.2.2.1, u2.2.2.2.1, u2.2.2.2.2))
def fX3_tally (N : Nat) (sp : Int32) (sP : Nat → Int32) (sC : Nat → Int32) (sH : Nat → Int32) (tl : Nat → Nat → Int32) (kl : Nat) (kf : Nat → Int64) (gw : Int32) (gh : Int32) (gq : Int32) (gT : Nat → Int32) (gC : Nat → Int32) (x1 : Int32) (x2 : Int32) : Option (Int32 × Int32 × Int32 × Int32 × Int32 × Int32 × Int32 × (Nat → Int32) × (Nat → Int32) × (Nat → Int32) × (Nat → Nat → Int32) × Nat × (Nat → Int64)) := Option.bind (fX3_startEmpty N sp sP sC sH tl kl kf gw gh) (fun u9 => Option.bind (fX3_worthOfStart N u9.2.1 u9.2.2.1 u9.2.2.2.1 u9.2.2.2.2.1 u9.2.2.2.2.2.1 u9.2.2.2.2.2.2.1 u9.2.2.2.2.2.2.2.1 u9.2.2.2.2.2.2.2.2.1 u9.2.2.2.2.2.2.2.2.2.1 u9.2.2.2.2.2.2.2.2.2.2.1 u9.2.2.2.2.2.2.2.2.2.2.2 gw gh gq gT gC) (fun u11 => Option.bind (fX4_isWithin N x1 (0 : Int32) (4 : Int32)) (fun u12 => if u12 = 0 then (some ((0 : Int32), u9.1, u9.2.1, u9.2.2.1, u9.2.2.2.1, u9.2.2.2.2.1, u9.2.2.2.2.2.1, u9.2.2.2.2.2.2.1, u11.2.1, u11.2.2.1, u11.2.2.2.1, u9.2.2.2.2.2.2.2.2.2.2.1, u11.2.2.2.2)) else (Option.bind (fX4_isWithin N x2 (0 : Int32) (16 : Int32)) (fun u14 => if u14 = 0 then (some ((0 : Int32), u9.1, u9.2.1, u9.2.2.1, u9.2.2.2.1, u9.2.2.2.2.1, u9.2.2.2.2.2.1, u9.2.2.2.2.2.2.1, u11.2.1, u11.2.2.1, u11.2.2.2.1, u9.2.2.2.2.2.2.2.2.2.2.1, u11.2.2.2.2)) else (okb (inb x1 5) (okb (inb x2 17) (some ((u11.2.2.2.1 (x1.toNatClampNeg) x2.toNatClampNeg), u9.1, u9.2.1, u9.2.2.1, u9.2.2.2.1, u9.2.2.2.2.1, u9.2.2.2.2.2.1, u9.2.2.2.2.2.2.1, u11.2.1, u11.2.2.1, u11.2.2.2.1, u9.2.2.2.2.2.2.2.2.2.2.1, u11.2.2.2.2)))))))))
def fX4_isSheet (N : Nat)  (x0 : Int32) : Option (Int32) := Option.bind (fX4_isWithin N x0 (0 : Int32) (3 : Int32)) (fun u2 => okb (isb u2) (some u2))
def fX4_isForm (N : Nat)  (x0 : Int32) : Option (Int32) := Option.bind (fX4_isWithin N x0 (0 : Int32) (2 : Int32)) (fun u2 => okb (isb u2) (some u2))
def fX4_nthSquare_L4 (N : Nat) (x1 : Int32) : Nat → Int32 → Int32 → Option (Int32)
  | 0, _, _ => none
  | ct + 1, x2, x3 => if x1 ≤ x3 then (some x2) else (fX4_nthSquare_L4 N x1 ct (x2 &&& (x2 - (1 : Int32))) (x3 + (1 : Int32)))
def fX4_nthSquare (N : Nat)  (x0 : Int32) (x1 : Int32) : Option (Int32) := Option.bind (fX4_nthSquare_L4 N x1 N x0 (0 : Int32)) (fun u6 => if u6 = 0 then (some (-1 : Int32)) else (Option.bind (fJ6_bitCount_0f7a4 N ((u6 &&& (-u6)) - (1 : Int32))) (fun u8 => some u8)))
def fX4_refuse (N : Nat)  (x1 : Int32) : Option (Int32 × Int32) := some (((-10 : Int32) - x1), x1)
def fX4_board (N : Nat) (db : Int32) (sp : Int32) (cv : Int32) (cm : Nat → Int32) (ch : Nat → Int32) (gw : Int32) (gh : Int32) (gk : Int32) (gq : Int32) (gr : Int32) (gj : Int32) (gR : Nat → Int32) (gT : Nat → Int32) (gC : Nat → Int32) (x1 : Int32) (x2 : Int32) (x3 : Int32) (x4 : Int32) : Option (Int32 × Int32 × Int32 × Int32 × (Nat → Int32) × (Nat → Int32) × Int32 × Int32 × Int32 × Int32 × Int32 × Int32 × (Nat → Int32) × (Nat → Int32) × (Nat → Int32)) := Option.bind (fX4_isWithin N x1 (1 : Int32) (7 : Int32)) (fun u12 => if u12 = 0 then (some ((-200 : Int32), db, sp, cv, cm, ch, gw, gh, gk, gq, gr, gj, gR, gT, gC)) else (Option.bind (fX4_isWithin N x2 (1 : Int32) (6 : Int32)) (fun u14 => if u14 = 0 then (some ((-200 : Int32), db, sp, cv, cm, ch, gw, gh, gk, gq, gr, gj, gR, gT, gC)) else (if (16 : Int32) < (x1 * x2) then (some ((-200 : Int32), db, sp, cv, cm, ch, gw, gh, gk, gq, gr, gj, gR, gT, gC)) else (Option.bind (fX4_isWithin N x3 (2 : Int32) (4 : Int32)) (fun u17 => if u17 = 0 then (some ((-200 : Int32), db, sp, cv, cm, ch, gw, gh, gk, gq, gr, gj, gR, gT, gC)) else (if db < (12 : Int32) then (Option.bind (fX1_tell N gR gT gC x1 x2 x3 x4) (fun u20 => Option.bind (fX3_forget N ) (fun u21 => Option.bind (fX0_clear N cm ch) (fun u22 => some (u20.2.2.2.2.1, (db + (1 : Int32)), u21, u22.1, u22.2.1, u22.2.2, u20.1, u20.2.1, u20.2.2.1, u20.2.2.2.1, u20.2.2.2.2.1, u20.2.2.2.2.2.1, u20.2.2.2.2.2.2.1, u20.2.2.2.2.2.2.2.1, u20.2.2.2.2.2.2.2.2))))) else (some ((-202 : Int32), db, sp, cv, cm, ch, gw, gh, gk, gq, gr, gj, gR, gT, gC)))))))))
def fX4_drop (N : Nat) (cv : Int32) (cc : Nat → Int32) (cm : Nat → Int32) (ch : Nat → Int32) (gw : Int32) (gh : Int32) (gq : Int32) (gr : Int32) (gR : Nat → Int32) (x1 : Int32) : Option (Int32 × Int32 × (Nat → Int32) × (Nat → Int32) × (Nat → Int32)) := Option.bind (fX0_isOpen N ch gw gh x1) (fun u6 => if u6 = 0 then (some ((-200 : Int32), cv, cc, cm, ch)) else (Option.bind (fX0_isOver N cv cm gq gr gR) (fun u8 => if u8 = 0 then (Option.bind (fX0_make N cv cc cm ch gw gh x1) (fun u10 => some (u10.1, u10.2.1, u10.2.2.1, u10.2.2.2.1, u10.2.2.2.2))) else (some ((-201 : Int32), cv, cc, cm, ch)))))
def fX4_back_L21 (N : Nat) (cc : Nat → Int32) (gw : Int32) (x1 : Int32) : Nat → Int32 → (Nat → Int32) → (Nat → Int32) → Int32 → Option (Int32 × (Nat → Int32) × (Nat → Int32))
  | 0, _, _, _, _ => none
  | ct + 1, cv, cm, ch, x2 => if x1 ≤ x2 then (some (cv, cm, ch)) else (Option.bind (fX0_unmake N cv cc cm ch gw) (fun u8 => fX4_back_L21 N cc gw x1 ct u8.1 u8.2.1 u8.2.2 (x2 + (1 : Int32))))
def fX4_back (N : Nat) (cv : Int32) (cc : Nat → Int32) (cm : Nat → Int32) (ch : Nat → Int32) (gw : Int32) (x1 : Int32) : Option (Int32 × Int32 × (Nat → Int32) × (Nat → Int32)) := Option.bind (fX4_isWithin N x1 (0 : Int32) cv) (fun u5 => if u5 = 0 then (some ((-200 : Int32), cv, cm, ch)) else (Option.bind (fX4_back_L21 N cc gw x1 N cv cm ch (0 : Int32)) (fun u11 => some (u11.1, u11.1, u11.2.1, u11.2.2))))
def fX4_move (N : Nat) (cv : Int32) (cc : Nat → Int32) (x1 : Int32) : Option (Int32) := Option.bind (fX4_isWithin N x1 (0 : Int32) (cv - (1 : Int32))) (fun u3 => if u3 = 0 then (some (-200 : Int32)) else (okb (inb x1 16) (some (cc x1.toNatClampNeg))))
def fX4_at (N : Nat) (cm : Nat → Int32) (gq : Int32) (x1 : Int32) : Option (Int32) := Option.bind (fX4_isWithin N x1 (0 : Int32) (gq - (1 : Int32))) (fun u4 => if u4 = 0 then (some (-200 : Int32)) else (Option.bind (fX0_manOn N cm x1) (fun u6 => some u6)))
def fX4_game (N : Nat) (cv : Int32) (cm : Nat → Int32) (ch : Nat → Int32) (gw : Int32) (gh : Int32) (gq : Int32) (gr : Int32) (gR : Nat → Int32) (x1 : Int32) : Option (Int32) := if x1 = (0 : Int32) then (Option.bind (fX0_side N cv) (fun u11 => some u11)) else (if x1 = (1 : Int32) then (some cv) else (if x1 = (2 : Int32) then (Option.bind (fX0_state N cv cm gq gr gR) (fun u12 => some u12)) else (if x1 = (3 : Int32) then (Option.bind (fX0_openColumns N ch gw gh) (fun u13 => some u13)) else (if x1 = (4 : Int32) then (okb (inb (0 : Int32) 2) (Option.bind (fX1_rowsWithout N gr gR (cm (0 : Int32).toNatClampNeg)) (fun u14 => okb (inb (1 : Int32) 2) (Option.bind (fX1_rowsWithout N gr gR (cm (1 : Int32).toNatClampNeg)) (fun u15 => some (u14 + u15)))))) else (some (-200 : Int32))))))
def fX4_won (N : Nat) (cv : Int32) (cm : Nat → Int32) (gk : Int32) (gq : Int32) (gr : Int32) (gR : Nat → Int32) (x1 : Int32) : Option (Int32) := Option.bind (fX0_state N cv cm gq gr gR) (fun u8 => if u8 = (1 : Int32) then (Option.bind (fX4_isWithin N x1 (0 : Int32) (gk - (1 : Int32))) (fun u10 => if u10 = 0 then (some (-200 : Int32)) else (Option.bind (fX0_side N cv) (fun u12 => okb (inb ((1 : Int32) - u12) 2) (Option.bind (fX1_firstRowOf N gr gR (cm ((1 : Int32) - u12).toNatClampNeg)) (fun u13 => Option.bind (fX4_nthSquare N u13 x1) (fun u14 => some u14))))))) else (some (-200 : Int32)))
def fX4_worth (N : Nat) (sp : Int32) (s1 : Int32) (s2 : Int32) (s3 : Int32) (s4 : Int32) (s5 : Int32) (sP : Nat → Int32) (sC : Nat → Int32) (sH : Nat → Int32) (tl : Nat → Nat → Int32) (kl : Nat) (kf : Nat → Int64) (cv : Int32) (cc : Nat → Int32) (cm : Nat → Int32) (gw : Int32) (gh : Int32) (gq : Int32) (gr : Int32) (gR : Nat → Int32) (gT : Nat → Int32) (gC : Nat → Int32)  : Option (Int32 × Int32 × Int32 × Int32 × Int32 × Int32 × Int32 × (Nat → Int32) × (Nat → Int32) × (Nat → Int32) × (Nat → Nat → Int32) × Nat × (Nat → Int64)) := Option.bind (fX0_isOver N cv cm gq gr gR) (fun u6 => if u6 = 0 then (Option.bind (fX3_start N sp sP sC sH tl kl kf cv cc cm gw gh) (fun u8 => Option.bind (fX3_worthOfStart N u8.2.1 u8.2.2.1 u8.2.2.2.1 u8.2.2.2.2.1 u8.2.2.2.2.2.1 u8.2.2.2.2.2.2.1 u8.2.2.2.2.2.2.2.1 u8.2.2.2.2.2.2.2.2.1 u8.2.2.2.2.2.2.2.2.2.1 u8.2.2.2.2.2.2.2.2.2.2.1 u8.2.2.2.2.2.2.2.2.2.2.2 gw gh gq gT gC) (fun u10 => some (u10.1, u8.1, u8.2.1, u8.2.2.1, u8.2.2.2.1, u8.2.2.2.2.1, u8.2.2.2.2.2.1, u8.2.2.2.2.2.2.1, u10.2.1, u10.2.2.1, u10.2.2.2.1, u8.2.2.2.2.2.2.2.2.2.2.1, u10.2.2.2.2)))) else (some ((-201 : Int32), sp, s1, s2, s3, s4, s5, sP, sC, sH, tl, kl, kf)))
def fX4_worthOf (N : Nat) (sp : Int32) (s1 : Int32) (s2 : Int32) (s3 : Int32) (s4 : Int32) (s5 : Int32) (sP : Nat → Int32) (sC : Nat → Int32) (sH : Nat → Int32) (tl : Nat → Nat → Int32) (kl : Nat) (kf : Nat → Int64) (cv : Int32) (cc : Nat → Int32) (cm : Nat → Int32) (ch : Nat → Int32) (gw : Int32) (gh : Int32) (gq : Int32) (gr : Int32) (gR : Nat → Int32) (gT : Nat → Int32) (gC : Nat → Int32) (x1 : Int32) : Option (Int32 × Int32 × Int32 × Int32 × Int32 × Int32 × Int32 × (Nat → Int32) × (Nat → Int32) × (Nat → Int32) × (Nat → Nat → Int32) × Nat × (Nat → Int64)) := Option.bind (fX0_isOver N cv cm gq gr gR) (fun u8 => if u8 = 0 then (Option.bind (fX0_isOpen N ch gw gh x1) (fun u10 => if u10 = 0 then (some ((-200 : Int32), sp, s1, s2, s3, s4, s5, sP, sC, sH, tl, kl, kf)) else (Option.bind (fX3_start N sp sP sC sH tl kl kf cv cc cm gw gh) (fun u12 => Option.bind (fX3_worthOfMove N u12.2.1 u12.2.2.1 u12.2.2.2.1 u12.2.2.2.2.1 u12.2.2.2.2.2.1 u12.2.2.2.2.2.2.1 u12.2.2.2.2.2.2.2.1 u12.2.2.2.2.2.2.2.2.1 u12.2.2.2.2.2.2.2.2.2.1 u12.2.2.2.2.2.2.2.2.2.2.1 u12.2.2.2.2.2.2.2.2.2.2.2 gw gh gq gT gC x1) (fun u14 => some (u14.1, u12.1, u12.2.1, u12.2.2.1, u12.2.2.2.1, u12.2.2.2.2.1, u12.2.2.2.2.2.1, u12.2.2.2.2.2.2.1, u14.2.1, u14.2.2.1, u14.2.2.2.1, u12.2.2.2.2.2.2.2.2.2.2.1, u14.2.2.2.2)))))) else (some ((-201 : Int32), sp, s1, s2, s3, s4, s5, sP, sC, sH, tl, kl, kf)))
def fX4_bestColumn_L18 (N : Nat) (s1 : Int32) (s2 : Int32) (s3 : Int32) (s4 : Int32) (s5 : Int32) (sP : Nat → Int32) (kl : Nat) (ch : Nat → Int32) (gw : Int32) (gh : Int32) (gq : Int32) (gT : Nat → Int32) (gC : Nat → Int32) : Nat → (Nat → Int32) → (Nat → Int32) → (Nat → Nat → Int32) → (Nat → Int64) → Int32 → Int32 → Int32 → Option ((Nat → Int32) × (Nat → Int32) × (Nat → Nat → Int32) × (Nat → Int64) × Int32)
  | 0, _, _, _, _, _, _, _ => none
  | ct + 1, sC, sH, tl, kf, x1, x2, x3 => if gw ≤ x3 then (some (sC, sH, tl, kf, x1)) else (Option.bind (fX0_isOpen N ch gw gh x3) (fun u11 => if u11 = 0 then (fX4_bestColumn_L18 N s1 s2 s3 s4 s5 sP kl ch gw gh gq gT gC ct sC sH tl kf x1 x2 (x3 + (1 : Int32))) else (Option.bind (fX3_worthOfMove N s1 s2 s3 s4 s5 sP sC sH tl kl kf gw gh gq gT gC x3) (fun u13 => if u13.1 ≤ x2 then (fX4_bestColumn_L18 N s1 s2 s3 s4 s5 sP kl ch gw gh gq gT gC ct u13.2.1 u13.2.2.1 u13.2.2.2.1 u13.2.2.2.2 x1 x2 (x3 + (1 : Int32))) else (fX4_bestColumn_L18 N s1 s2 s3 s4 s5 sP kl ch gw gh gq gT gC ct u13.2.1 u13.2.2.1 u13.2.2.2.1 u13.2.2.2.2 x3 u13.1 (x3 + (1 : Int32)))))))
def fX4_bestColumn (N : Nat) (sp : Int32) (sP : Nat → Int32) (sC : Nat → Int32) (sH : Nat → Int32) (tl : Nat → Nat → Int32) (kl : Nat) (kf : Nat → Int64) (cv : Int32) (cc : Nat → Int32) (cm : Nat → Int32) (ch : Nat → Int32) (gw : Int32) (gh : Int32) (gq : Int32) (gT : Nat → Int32) (gC : Nat → Int32)  : Option (Int32 × Int32 × Int32 × Int32 × Int32 × Int32 × Int32 × (Nat → Int32) × (Nat → Int32) × (Nat → Int32) × (Nat → Nat → Int32) × Nat × (Nat → Int64)) := Option.bind (fX3_start N sp sP sC sH tl kl kf cv cc cm gw gh) (fun u8 => Option.bind (fX4_bestColumn_L18 N u8.2.1 u8.2.2.1 u8.2.2.2.1 u8.2.2.2.2.1 u8.2.2.2.2.2.1 u8.2.2.2.2.2.2.1 u8.2.2.2.2.2.2.2.2.2.2.1 ch gw gh gq gT gC N u8.2.2.2.2.2.2.2.1 u8.2.2.2.2.2.2.2.2.1 u8.2.2.2.2.2.2.2.2.2.1 u8.2.2.2.2.2.2.2.2.2.2.2 (-1 : Int32) (-100 : Int32) (0 : Int32)) (fun u20 => some (u20.2.2.2.2, u8.1, u8.2.1, u8.2.2.1, u8.2.2.2.1, u8.2.2.2.2.1, u8.2.2.2.2.2.1, u8.2.2.2.2.2.2.1, u20.1, u20.2.1, u20.2.2.1, u8.2.2.2.2.2.2.2.2.2.2.1, u20.2.2.2.1)))
def fX4_best (N : Nat) (sp : Int32) (s1 : Int32) (s2 : Int32) (s3 : Int32) (s4 : Int32) (s5 : Int32) (sP : Nat → Int32) (sC : Nat → Int32) (sH : Nat → Int32) (tl : Nat → Nat → Int32) (kl : Nat) (kf : Nat → Int64) (cv : Int32) (cc : Nat → Int32) (cm : Nat → Int32) (ch : Nat → Int32) (gw : Int32) (gh : Int32) (gq : Int32) (gr : Int32) (gR : Nat → Int32) (gT : Nat → Int32) (gC : Nat → Int32)  : Option (Int32 × Int32 × Int32 × Int32 × Int32 × Int32 × Int32 × (Nat → Int32) × (Nat → Int32) × (Nat → Int32) × (Nat → Nat → Int32) × Nat × (Nat → Int64)) := Option.bind (fX0_isOver N cv cm gq gr gR) (fun u5 => if u5 = 0 then (Option.bind (fX4_bestColumn N sp sP sC sH tl kl kf cv cc cm ch gw gh gq gT gC) (fun u7 => some (u7.1, u7.2.1, u7.2.2.1, u7.2.2.2.1, u7.2.2.2.2.1, u7.2.2.2.2.2.1, u7.2.2.2.2.2.2.1, u7.2.2.2.2.2.2.2.1, u7.2.2.2.2.2.2.2.2.1, u7.2.2.2.2.2.2.2.2.2.1, u7.2.2.2.2.2.2.2.2.2.2.1, u7.2.2.2.2.2.2.2.2.2.2.2.1, u7.2.2.2.2.2.2.2.2.2.2.2.2))) else (some ((-201 : Int32), sp, s1, s2, s3, s4, s5, sP, sC, sH, tl, kl, kf)))
def fX4_as_L37 (N : Nat) (s1 : Int32) (s2 : Int32) (s3 : Int32) (s4 : Int32) (s5 : Int32) (sP : Nat → Int32) (kl : Nat) (ch : Nat → Int32) (gw : Int32) (gh : Int32) (gq : Int32) (gT : Nat → Int32) (gC : Nat → Int32) (x1 : Int32) : Nat → (Nat → Int32) → (Nat → Int32) → (Nat → Nat → Int32) → (Nat → Int64) → Int32 → Int32 → Option ((Nat → Int32) × (Nat → Int32) × (Nat → Nat → Int32) × (Nat → Int64) × Int32)
  | 0, _, _, _, _, _, _ => none
  | ct + 1, sC, sH, tl, kf, x2, x3 => if gw ≤ x3 then (some (sC, sH, tl, kf, x2)) else (Option.bind (fX0_isOpen N ch gw gh x3) (fun u17 => if u17 = 0 then (fX4_as_L37 N s1 s2 s3 s4 s5 sP kl ch gw gh gq gT gC x1 ct sC sH tl kf x2 (x3 + (1 : Int32))) else (Option.bind (fX3_worthOfMove N s1 s2 s3 s4 s5 sP sC sH tl kl kf gw gh gq gT gC x3) (fun u19 => if u19.1 = x1 then (fX4_as_L37 N s1 s2 s3 s4 s5 sP kl ch gw gh gq gT gC x1 ct u19.2.1 u19.2.2.1 u19.2.2.2.1 u19.2.2.2.2 (x2 + (1 : Int32)) (x3 + (1 : Int32))) else (fX4_as_L37 N s1 s2 s3 s4 s5 sP kl ch gw gh gq gT gC x1 ct u19.2.1 u19.2.2.1 u19.2.2.2.1 u19.2.2.2.2 x2 (x3 + (1 : Int32)))))))
def fX4_as (N : Nat) (sp : Int32) (s1 : Int32) (s2 : Int32) (s3 : Int32) (s4 : Int32) (s5 : Int32) (sP : Nat → Int32) (sC : Nat → Int32) (sH : Nat → Int32) (tl : Nat → Nat → Int32) (kl : Nat) (kf : Nat → Int64) (cv : Int32) (cc : Nat → Int32) (cm : Nat → Int32) (ch : Nat → Int32) (gw : Int32) (gh : Int32) (gq : Int32) (gr : Int32) (gR : Nat → Int32) (gT : Nat → Int32) (gC : Nat → Int32)  : Option (Int32 × Int32 × Int32 × Int32 × Int32 × Int32 × Int32 × (Nat → Int32) × (Nat → Int32) × (Nat → Int32) × (Nat → Nat → Int32) × Nat × (Nat → Int64)) := Option.bind (fX0_isOver N cv cm gq gr gR) (fun u11 => if u11 = 0 then (Option.bind (fX3_start N sp sP sC sH tl kl kf cv cc cm gw gh) (fun u13 => Option.bind (fX3_worthOfStart N u13.2.1 u13.2.2.1 u13.2.2.2.1 u13.2.2.2.2.1 u13.2.2.2.2.2.1 u13.2.2.2.2.2.2.1 u13.2.2.2.2.2.2.2.1 u13.2.2.2.2.2.2.2.2.1 u13.2.2.2.2.2.2.2.2.2.1 u13.2.2.2.2.2.2.2.2.2.2.1 u13.2.2.2.2.2.2.2.2.2.2.2 gw gh gq gT gC) (fun u15 => Option.bind (fX4_as_L37 N u13.2.1 u13.2.2.1 u13.2.2.2.1 u13.2.2.2.2.1 u13.2.2.2.2.2.1 u13.2.2.2.2.2.2.1 u13.2.2.2.2.2.2.2.2.2.2.1 ch gw gh gq gT gC u15.1 N u15.2.1 u15.2.2.1 u15.2.2.2.1 u15.2.2.2.2 (0 : Int32) (0 : Int32)) (fun u26 => some (u26.2.2.2.2, u13.1, u13.2.1, u13.2.2.1, u13.2.2.2.1, u13.2.2.2.2.1, u13.2.2.2.2.2.1, u13.2.2.2.2.2.2.1, u26.1, u26.2.1, u26.2.2.1, u13.2.2.2.2.2.2.2.2.2.2.1, u26.2.2.2.1))))) else (some ((-201 : Int32), sp, s1, s2, s3, s4, s5, sP, sC, sH, tl, kl, kf)))
def fX4_play_L24 (N : Nat) (gw : Int32) (gh : Int32) (gq : Int32) (gr : Int32) (gR : Nat → Int32) (gT : Nat → Int32) (gC : Nat → Int32) : Nat → Int32 → Int32 → Int32 → Int32 → Int32 → Int32 → (Nat → Int32) → (Nat → Int32) → (Nat → Int32) → (Nat → Nat → Int32) → Nat → (Nat → Int64) → Int32 → (Nat → Int32) → (Nat → Int32) → (Nat → Int32) → Int32 → Option (Int32 × Int32 × Int32 × Int32 × Int32 × Int32 × (Nat → Int32) × (Nat → Int32) × (Nat → Int32) × (Nat → Nat → Int32) × Nat × (Nat → Int64) × Int32 × (Nat → Int32) × (Nat → Int32) × (Nat → Int32))
  | 0, _, _, _, _, _, _, _, _, _, _, _, _, _, _, _, _, _ => none
  | ct + 1, sp, s1, s2, s3, s4, s5, sP, sC, sH, tl, kl, kf, cv, cc, cm, ch, x2 => if gq ≤ x2 then (some (sp, s1, s2, s3, s4, s5, sP, sC, sH, tl, kl, kf, cv, cc, cm, ch)) else (Option.bind (fX0_isOver N cv cm gq gr gR) (fun u12 => if u12 = 0 then (Option.bind (fX4_bestColumn N sp sP sC sH tl kl kf cv cc cm ch gw gh gq gT gC) (fun u14 => okb (!decide (u14.2.1 = 0)) (Option.bind (fX0_make N cv cc cm ch gw gh u14.1) (fun u16 => fX4_play_L24 N gw gh gq gr gR gT gC ct u14.2.1 u14.2.2.1 u14.2.2.2.1 u14.2.2.2.2.1 u14.2.2.2.2.2.1 u14.2.2.2.2.2.2.1 u14.2.2.2.2.2.2.2.1 u14.2.2.2.2.2.2.2.2.1 u14.2.2.2.2.2.2.2.2.2.1 u14.2.2.2.2.2.2.2.2.2.2.1 u14.2.2.2.2.2.2.2.2.2.2.2.1 u14.2.2.2.2.2.2.2.2.2.2.2.2 u16.2.1 u16.2.2.1 u16.2.2.2.1 u16.2.2.2.2 (x2 + (1 : Int32)))))) else (some (sp, s1, s2, s3, s4, s5, sP, sC, sH, tl, kl, kf, cv, cc, cm, ch))))
def fX4_play (N : Nat) (sp : Int32) (s1 : Int32) (s2 : Int32) (s3 : Int32) (s4 : Int32) (s5 : Int32) (sP : Nat → Int32) (sC : Nat → Int32) (sH : Nat → Int32) (tl : Nat → Nat → Int32) (kl : Nat) (kf : Nat → Int64) (cv : Int32) (cc : Nat → Int32) (cm : Nat → Int32) (ch : Nat → Int32) (gw : Int32) (gh : Int32) (gq : Int32) (gr : Int32) (gR : Nat → Int32) (gT : Nat → Int32) (gC : Nat → Int32)  : Option (Int32 × Int32 × Int32 × Int32 × Int32 × Int32 × Int32 × (Nat → Int32) × (Nat → Int32) × (Nat → Int32) × (Nat → Nat → Int32) × Nat × (Nat → Int64) × Int32 × (Nat → Int32) × (Nat → Int32) × (Nat → Int32)) := Option.bind (fX0_isOver N cv cm gq gr gR) (fun u9 => if u9 = 0 then (Option.bind (fX4_play_L24 N gw gh gq gr gR gT gC N sp s1 s2 s3 s4 s5 sP sC sH tl kl kf cv cc cm ch cv) (fun u23 => some ((u23.2.2.2.2.2.2.2.2.2.2.2.2.1 - cv), u23.1, u23.2.1, u23.2.2.1, u23.2.2.2.1, u23.2.2.2.2.1, u23.2.2.2.2.2.1, u23.2.2.2.2.2.2.1, u23.2.2.2.2.2.2.2.1, u23.2.2.2.2.2.2.2.2.1, u23.2.2.2.2.2.2.2.2.2.1, u23.2.2.2.2.2.2.2.2.2.2.1, u23.2.2.2.2.2.2.2.2.2.2.2.1, u23.2.2.2.2.2.2.2.2.2.2.2.2.1, u23.2.2.2.2.2.2.2.2.2.2.2.2.2.1, u23.2.2.2.2.2.2.2.2.2.2.2.2.2.2.1, u23.2.2.2.2.2.2.2.2.2.2.2.2.2.2.2))) else (some ((-201 : Int32), sp, s1, s2, s3, s4, s5, sP, sC, sH, tl, kl, kf, cv, cc, cm, ch)))
def fX4_positions (N : Nat) (sp : Int32) (s1 : Int32) (s2 : Int32) (s3 : Int32) (s4 : Int32) (s5 : Int32) (sP : Nat → Int32) (sC : Nat → Int32) (sH : Nat → Int32) (tl : Nat → Nat → Int32) (kl : Nat) (kf : Nat → Int64) (gw : Int32) (gh : Int32) (gq : Int32) (gT : Nat → Int32) (gC : Nat → Int32) (x1 : Int32) : Option (Int32 × Int32 × Int32 × Int32 × Int32 × Int32 × Int32 × (Nat → Int32) × (Nat → Int32) × (Nat → Int32) × (Nat → Nat → Int32) × Nat × (Nat → Int64)) := Option.bind (fX4_isWithin N x1 (0 : Int32) gq) (fun u5 => if u5 = 0 then (some ((-200 : Int32), sp, s1, s2, s3, s4, s5, sP, sC, sH, tl, kl, kf)) else (Option.bind (fX3_tally N sp sP sC sH tl kl kf gw gh gq gT gC (0 : Int32) x1) (fun u7 => some (u7.1, u7.2.1, u7.2.2.1, u7.2.2.2.1, u7.2.2.2.2.1, u7.2.2.2.2.2.1, u7.2.2.2.2.2.2.1, u7.2.2.2.2.2.2.2.1, u7.2.2.2.2.2.2.2.2.1, u7.2.2.2.2.2.2.2.2.2.1, u7.2.2.2.2.2.2.2.2.2.2.1, u7.2.2.2.2.2.2.2.2.2.2.2.1, u7.2.2.2.2.2.2.2.2.2.2.2.2))))
def fX4_wins (N : Nat) (sp : Int32) (s1 : Int32) (s2 : Int32) (s3 : Int32) (s4 : Int32) (s5 : Int32) (sP : Nat → Int32) (sC : Nat → Int32) (sH : Nat → Int32) (tl : Nat → Nat → Int32) (kl : Nat) (kf : Nat → Int64) (gw : Int32) (gh : Int32) (gq : Int32) (gT : Nat → Int32) (gC : Nat → Int32) (x1 : Int32) : Option (Int32 × Int32 × Int32 × Int32 × Int32 × Int32 × Int32 × (Nat → Int32) × (Nat → Int32) × (Nat → Int32) × (Nat → Nat → Int32) × Nat × (Nat → Int64)) := Option.bind (fX4_isWithin N x1 (0 : Int32) gq) (fun u5 => if u5 = 0 then (some ((-200 : Int32), sp, s1, s2, s3, s4, s5, sP, sC, sH, tl, kl, kf)) else (Option.bind (fX3_tally N sp sP sC sH tl kl kf gw gh gq gT gC (1 : Int32) x1) (fun u7 => some (u7.1, u7.2.1, u7.2.2.1, u7.2.2.2.1, u7.2.2.2.2.1, u7.2.2.2.2.2.1, u7.2.2.2.2.2.2.1, u7.2.2.2.2.2.2.2.1, u7.2.2.2.2.2.2.2.2.1, u7.2.2.2.2.2.2.2.2.2.1, u7.2.2.2.2.2.2.2.2.2.2.1, u7.2.2.2.2.2.2.2.2.2.2.2.1, u7.2.2.2.2.2.2.2.2.2.2.2.2))))
def fX4_share (N : Nat) (sp : Int32) (s1 : Int32) (s2 : Int32) (s3 : Int32) (s4 : Int32) (s5 : Int32) (sP : Nat → Int32) (sC : Nat → Int32) (sH : Nat → Int32) (tl : Nat → Nat → Int32) (kl : Nat) (kf : Nat → Int64) (gw : Int32) (gh : Int32) (gq : Int32) (gT : Nat → Int32) (gC : Nat → Int32) (x1 : Int32) (x2 : Int32) : Option (Int32 × Int32 × Int32 × Int32 × Int32 × Int32 × Int32 × (Nat → Int32) × (Nat → Int32) × (Nat → Int32) × (Nat → Nat → Int32) × Nat × (Nat → Int64)) := Option.bind (fX4_isWithin N x1 (0 : Int32) gq) (fun u7 => if u7 = 0 then (some ((-200 : Int32), sp, s1, s2, s3, s4, s5, sP, sC, sH, tl, kl, kf)) else (Option.bind (fX4_isWithin N x2 (-1 : Int32) (1 : Int32)) (fun u9 => if u9 = 0 then (some ((-200 : Int32), sp, s1, s2, s3, s4, s5, sP, sC, sH, tl, kl, kf)) else (Option.bind (fX3_tally N sp sP sC sH tl kl kf gw gh gq gT gC ((3 : Int32) + x2) x1) (fun u11 => some (u11.1, u11.2.1, u11.2.2.1, u11.2.2.2.1, u11.2.2.2.2.1, u11.2.2.2.2.2.1, u11.2.2.2.2.2.2.1, u11.2.2.2.2.2.2.2.1, u11.2.2.2.2.2.2.2.2.1, u11.2.2.2.2.2.2.2.2.2.1, u11.2.2.2.2.2.2.2.2.2.2.1, u11.2.2.2.2.2.2.2.2.2.2.2.1, u11.2.2.2.2.2.2.2.2.2.2.2.2))))))
def fX4_even_L2 (N : Nat) (cm : Nat → Int32) (gw : Int32) (gq : Int32) : Nat → Int32 → Option ((Int32) ⊕ (Unit))
  | 0, _ => none
  | ct + 1, x1 => if gq ≤ x1 then (some (.inr ())) else (Option.bind (fX0_manOn N cm x1) (fun u7 => Option.bind (fX1_imageOf N gw x1) (fun u8 => Option.bind (fX0_manOn N cm u8) (fun u9 => if u7 = u9 then (fX4_even_L2 N cm gw gq ct (x1 + (1 : Int32))) else (some (.inl (0 : Int32)))))))
def fX4_even (N : Nat) (cm : Nat → Int32) (gw : Int32) (gq : Int32)  : Option (Int32) := Option.bind (fX4_even_L2 N cm gw gq N (0 : Int32)) (fun u16 => onS u16 (fun r18 => some r18) (fun e17 => some (1 : Int32)))
def fX4_threats (N : Nat) (cm : Nat → Int32) (gq : Int32) (gr : Int32) (gR : Nat → Int32) (x1 : Int32) : Option (Int32) := Option.bind (fX4_isWithin N x1 (0 : Int32) (1 : Int32)) (fun u5 => if u5 = 0 then (some (-200 : Int32)) else (Option.bind (fX0_threatsOf N cm gq gr gR x1) (fun u7 => Option.bind (fJ6_bitCount_0f7a4 N u7) (fun u8 => some u8))))
def fX4_threat (N : Nat) (cm : Nat → Int32) (gq : Int32) (gr : Int32) (gR : Nat → Int32) (x1 : Int32) (x2 : Int32) : Option (Int32) := Option.bind (fX4_isWithin N x1 (0 : Int32) (1 : Int32)) (fun u8 => if u8 = 0 then (some (-200 : Int32)) else (Option.bind (fX0_threatsOf N cm gq gr gR x1) (fun u10 => Option.bind (fJ6_bitCount_0f7a4 N u10) (fun u11 => Option.bind (fX4_isWithin N x2 (0 : Int32) (u11 - (1 : Int32))) (fun u12 => if u12 = 0 then (some (-200 : Int32)) else (Option.bind (fX4_nthSquare N u10 x2) (fun u14 => some u14)))))))
def fX4_waiting_L33 (N : Nat) (gw : Int32) (gh : Int32) (gq : Int32) (gr : Int32) (gR : Nat → Int32) : Nat → Int32 → (Nat → Int32) → (Nat → Int32) → (Nat → Int32) → Int32 → Option (Int32 × (Nat → Int32) × (Nat → Int32) × (Nat → Int32))
  | 0, _, _, _, _, _ => none
  | ct + 1, dv, dc, dm, dh, x1 => if gq ≤ x1 then (some (dv, dc, dm, dh)) else (Option.bind (fX0_isOver N dv dm gq gr gR) (fun u17 => if u17 = 0 then (Option.bind (fX0_waitingColumn N dv dm dh gw gh gq gr gR) (fun u19 => Option.bind (fX0_make N dv dc dm dh gw gh u19) (fun u20 => fX4_waiting_L33 N gw gh gq gr gR ct u20.2.1 u20.2.2.1 u20.2.2.2.1 u20.2.2.2.2 (x1 + (1 : Int32))))) else (some (dv, dc, dm, dh))))
def fX4_waiting (N : Nat) (cv : Int32) (cc : Nat → Int32) (cm : Nat → Int32) (dv : Int32) (dc : Nat → Int32) (dm : Nat → Int32) (dh : Nat → Int32) (gw : Int32) (gh : Int32) (gq : Int32) (gr : Int32) (gR : Nat → Int32)  : Option (Int32 × Int32 × (Nat → Int32) × (Nat → Int32) × (Nat → Int32)) := Option.bind (fX0_isOver N cv cm gq gr gR) (fun u13 => if u13 = 0 then (Option.bind (fX0_follow N dc dm dh cv cc gw gh) (fun u15 => Option.bind (fX4_waiting_L33 N gw gh gq gr gR N u15.1 u15.2.1 u15.2.2.1 u15.2.2.2 u15.1) (fun u26 => Option.bind (fX0_state N u26.1 u26.2.2.1 gq gr gR) (fun u27 => if u27 = (1 : Int32) then (Option.bind (fX0_side N u26.1) (fun u29 => if u29 = (1 : Int32) then (some ((1 : Int32), u26.1, u26.2.1, u26.2.2.1, u26.2.2.2)) else (some ((-1 : Int32), u26.1, u26.2.1, u26.2.2.1, u26.2.2.2)))) else (some ((0 : Int32), u26.1, u26.2.1, u26.2.2.1, u26.2.2.2)))))) else (some ((-201 : Int32), dv, dc, dm, dh)))
def fX4_sheet (N : Nat) (dn : Int32) (ql : Nat → Int32) (qf : Nat → Int32) (qz : Nat → Int32) (qi : Nat → Nat → Int32) (x1 : Int32) (x2 : Int32) (x3 : Int32) : Option (Int32 × Int32 × (Nat → Int32) × (Nat → Int32) × (Nat → Int32) × (Nat → Nat → Int32)) := Option.bind (fX4_isSheet N x1) (fun u10 => if u10 = 0 then (some ((-200 : Int32), dn, ql, qf, qz, qi)) else (Option.bind (fX4_isForm N x2) (fun u12 => if u12 = 0 then (some ((-200 : Int32), dn, ql, qf, qz, qi)) else (if x3 ≤ (20 : Int32) then (if 0 ≤ x3 then (okb (inb x1 4) (Option.bind (fX2_renew N (qi (x1.toNatClampNeg)) x2 x3) (fun u17 => some (x3, dn, (upd ql (x1.toNatClampNeg) u17.1), (upd qf (x1.toNatClampNeg) u17.2.1), (upd qz (x1.toNatClampNeg) u17.2.2.1), (upT qi (x1.toNatClampNeg) u17.2.2.2))))) else (Option.bind (fX4_refuse N (5 : Int32)) (fun u18 => some (u18.1, u18.2, ql, qf, qz, qi)))) else (some ((-200 : Int32), dn, ql, qf, qz, qi))))))
def fX4_lose (N : Nat) (dn : Int32) (ql : Nat → Int32) (qz : Nat → Int32) (x1 : Int32) : Option (Int32 × Int32 × (Nat → Int32)) := Option.bind (fX4_isSheet N x1) (fun u8 => if u8 = 0 then (some ((-200 : Int32), dn, ql)) else (okb (inb x1 4) (if (ql (x1.toNatClampNeg)) = 0 then (okb (inb x1 4) (okb (inb x1 4) (some ((qz (x1.toNatClampNeg)), dn, (upd ql (x1.toNatClampNeg) (1 : Int32)))))) else (Option.bind (fX4_refuse N (1 : Int32)) (fun u14 => some (u14.1, u14.2, ql))))))
def fX4_put (N : Nat) (dn : Int32) (ql : Nat → Int32) (qf : Nat → Int32) (qz : Nat → Int32) (qi : Nat → Nat → Int32) (x1 : Int32) (x2 : Int32) (x3 : Int32) (x4 : Int32) : Option (Int32 × Int32 × (Nat → Nat → Int32)) := Option.bind (fX4_isSheet N x1) (fun u11 => if u11 = 0 then (some ((-200 : Int32), dn, qi)) else (Option.bind (fX4_isForm N x2) (fun u13 => if u13 = 0 then (some ((-200 : Int32), dn, qi)) else (okb (inb x1 4) (Option.bind (fX2_findingAt N (ql (x1.toNatClampNeg)) (qf (x1.toNatClampNeg)) (qz (x1.toNatClampNeg)) x2 x3) (fun u16 => if u16 = 0 then (okb (inb x1 4) (Option.bind (fX2_store N (qf (x1.toNatClampNeg)) (qi (x1.toNatClampNeg)) x3 x4) (fun u19 => some ((1 : Int32), dn, (upT qi (x1.toNatClampNeg) u19))))) else (Option.bind (fX4_refuse N u16) (fun u20 => some (u20.1, u20.2, qi)))))))))
def fX4_get (N : Nat) (dn : Int32) (ql : Nat → Int32) (qf : Nat → Int32) (qz : Nat → Int32) (qi : Nat → Nat → Int32) (x1 : Int32) (x2 : Int32) (x3 : Int32) : Option (Int32 × Int32) := Option.bind (fX4_isSheet N x1) (fun u10 => if u10 = 0 then (some ((-2147483648 : Int32), dn)) else (Option.bind (fX4_isForm N x2) (fun u12 => if u12 = 0 then (some ((-2147483648 : Int32), dn)) else (okb (inb x1 4) (Option.bind (fX2_findingAt N (ql (x1.toNatClampNeg)) (qf (x1.toNatClampNeg)) (qz (x1.toNatClampNeg)) x2 x3) (fun u15 => if u15 = 0 then (okb (inb x1 4) (okb (inb x3 20) (some ((qi (x1.toNatClampNeg) x3.toNatClampNeg), dn)))) else (Option.bind (fX4_refuse N u15) (fun u18 => some ((-2147483648 : Int32), u18.2)))))))))
def fX4_copy (N : Nat) (dn : Int32) (ql : Nat → Int32) (qf : Nat → Int32) (qz : Nat → Int32) (qi : Nat → Nat → Int32) (x1 : Int32) (x2 : Int32) (x3 : Int32) (x4 : Int32) (x5 : Int32) : Option (Int32 × Int32 × (Nat → Nat → Int32)) := Option.bind (fX4_isSheet N x1) (fun u19 => if u19 = 0 then (some ((-200 : Int32), dn, qi)) else (Option.bind (fX4_isSheet N x3) (fun u21 => if u21 = 0 then (some ((-200 : Int32), dn, qi)) else (okb (inb x1 4) (okb (inb x3 4) (if (ql (x1.toNatClampNeg)) = 0 then (if (ql (x3.toNatClampNeg)) = 0 then (if (qf (x1.toNatClampNeg)) = (qf (x3.toNatClampNeg)) then (Option.bind (fX2_hasPart N (qz (x1.toNatClampNeg)) x2 x5) (fun u29 => if u29 = 0 then (Option.bind (fX4_refuse N (2 : Int32)) (fun u31 => some (u31.1, u31.2, qi))) else (Option.bind (fX2_hasPart N (qz (x3.toNatClampNeg)) x4 x5) (fun u32 => if u32 = 0 then (Option.bind (fX4_refuse N (2 : Int32)) (fun u34 => some (u34.1, u34.2, qi))) else (okb ((!decide (x2 < 0)) && (!decide (x4 < 0)) && (!decide (x5 < 0)) && decide (x2.toNatClampNeg + x5.toNatClampNeg ≤ 20) && decide (x4.toNatClampNeg + x5.toNatClampNeg ≤ 20)) (some ((1 : Int32), dn, (upT qi (x3.toNatClampNeg) (va_cpy (qi (x1.toNatClampNeg)) (qi (x3.toNatClampNeg)) x2.toNatClampNeg x4.toNatClampNeg x5.toNatClampNeg))))))))) else (Option.bind (fX4_refuse N (4 : Int32)) (fun u35 => some (u35.1, u35.2, qi)))) else (Option.bind (fX4_refuse N (1 : Int32)) (fun u36 => some (u36.1, u36.2, qi)))) else (Option.bind (fX4_refuse N (1 : Int32)) (fun u26 => some (u26.1, u26.2, qi)))))))))
def fX4_take_L66 (N : Nat) (dn : Int32) (qi : Nat → Nat → Int32) (cv : Int32) (cc : Nat → Int32) (cm : Nat → Int32) (ch : Nat → Int32) (gw : Int32) (gh : Int32) (gq : Int32) (gr : Int32) (gR : Nat → Int32) (x2 : Int32) (x1 : Int32) : Nat → Int32 → (Nat → Int32) → (Nat → Int32) → (Nat → Int32) → Int32 → Option ((Int32 × Int32 × Int32 × (Nat → Int32) × (Nat → Int32) × (Nat → Int32) × Int32 × (Nat → Int32) × (Nat → Int32) × (Nat → Int32)) ⊕ (Int32 × (Nat → Int32) × (Nat → Int32) × (Nat → Int32)))
  | 0, _, _, _, _, _ => none
  | ct + 1, dv, dc, dm, dh, x4 => if x2 ≤ x4 then (some (.inr (dv, dc, dm, dh))) else (Option.bind (fX0_isOver N dv dm gq gr gR) (fun u28 => if u28 = 0 then (okb (inb x4 20) (Option.bind (fX0_make N dv dc dm dh gw gh (qi (x1.toNatClampNeg) x4.toNatClampNeg)) (fun u30 => if u30.1 = (-1 : Int32) then (some (.inl (((-100 : Int32) - x4), dn, cv, cc, cm, ch, u30.2.1, u30.2.2.1, u30.2.2.2.1, u30.2.2.2.2))) else (fX4_take_L66 N dn qi cv cc cm ch gw gh gq gr gR x2 x1 ct u30.2.1 u30.2.2.1 u30.2.2.2.1 u30.2.2.2.2 (x4 + (1 : Int32)))))) else (some (.inl (((-100 : Int32) - x4), dn, cv, cc, cm, ch, dv, dc, dm, dh)))))
def fX4_take (N : Nat) (dn : Int32) (ql : Nat → Int32) (qz : Nat → Int32) (qi : Nat → Nat → Int32) (cv : Int32) (cc : Nat → Int32) (cm : Nat → Int32) (ch : Nat → Int32) (dv : Int32) (dc : Nat → Int32) (dm : Nat → Int32) (dh : Nat → Int32) (gw : Int32) (gh : Int32) (gq : Int32) (gr : Int32) (gR : Nat → Int32) (x1 : Int32) (x2 : Int32) : Option (Int32 × Int32 × Int32 × (Nat → Int32) × (Nat → Int32) × (Nat → Int32) × Int32 × (Nat → Int32) × (Nat → Int32) × (Nat → Int32)) := Option.bind (fX4_isSheet N x1) (fun u18 => if u18 = 0 then (some ((-200 : Int32), dn, cv, cc, cm, ch, dv, dc, dm, dh)) else (Option.bind (fX4_isWithin N x2 (0 : Int32) (16 : Int32)) (fun u20 => if u20 = 0 then (some ((-200 : Int32), dn, cv, cc, cm, ch, dv, dc, dm, dh)) else (okb (inb x1 4) (if (ql (x1.toNatClampNeg)) = 0 then (Option.bind (fX2_hasPart N (qz (x1.toNatClampNeg)) (0 : Int32) x2) (fun u24 => if u24 = 0 then (Option.bind (fX4_refuse N (2 : Int32)) (fun u41 => some (u41.1, u41.2, cv, cc, cm, ch, dv, dc, dm, dh))) else (Option.bind (fX0_clear N dm dh) (fun u26 => Option.bind (fX4_take_L66 N dn qi cv cc cm ch gw gh gq gr gR x2 x1 N u26.1 dc u26.2.1 u26.2.2 (0 : Int32)) (fun u37 => onS u37 (fun r39 => some r39) (fun e38 => Option.bind (fX0_state N e38.1 e38.2.2.1 gq gr gR) (fun u40 => some (u40, dn, e38.1, e38.2.1, e38.2.2.1, e38.2.2.2, cv, cc, cm, ch)))))))) else (Option.bind (fX4_refuse N (1 : Int32)) (fun u42 => some (u42.1, u42.2, cv, cc, cm, ch, dv, dc, dm, dh))))))))
def fX4_write_L54 (N : Nat) (qf : Nat → Int32) (cv : Int32) (cc : Nat → Int32) (x1 : Int32) : Nat → (Nat → Nat → Int32) → Int32 → Option ((Nat → Nat → Int32))
  | 0, _, _ => none
  | ct + 1, qi, x3 => if cv ≤ x3 then (some qi) else (okb (inb x3 16) (Option.bind (fX2_store N (qf (x1.toNatClampNeg)) (qi (x1.toNatClampNeg)) x3 (cc x3.toNatClampNeg)) (fun u18 => fX4_write_L54 N qf cv cc x1 ct (upT qi (x1.toNatClampNeg) u18) (x3 + (1 : Int32)))))
def fX4_write (N : Nat) (dn : Int32) (ql : Nat → Int32) (qf : Nat → Int32) (qz : Nat → Int32) (qi : Nat → Nat → Int32) (cv : Int32) (cc : Nat → Int32) (x1 : Int32) : Option (Int32 × Int32 × (Nat → Nat → Int32)) := Option.bind (fX4_isSheet N x1) (fun u11 => if u11 = 0 then (some ((-200 : Int32), dn, qi)) else (okb (inb x1 4) (if (ql (x1.toNatClampNeg)) = 0 then (Option.bind (fX2_hasPart N (qz (x1.toNatClampNeg)) (0 : Int32) cv) (fun u15 => if u15 = 0 then (Option.bind (fX4_refuse N (2 : Int32)) (fun u22 => some (u22.1, u22.2, qi))) else (Option.bind (fX4_write_L54 N qf cv cc x1 N qi (0 : Int32)) (fun u21 => some (cv, dn, u21))))) else (Option.bind (fX4_refuse N (1 : Int32)) (fun u23 => some (u23.1, u23.2, qi))))))
def fX4_count (N : Nat) (dn : Int32) (gw : Int32) (gh : Int32) (gk : Int32) (gq : Int32) (gr : Int32) (gj : Int32) (x1 : Int32) : Option (Int32) := if x1 = (0 : Int32) then (some gw) else (if x1 = (1 : Int32) then (some gh) else (if x1 = (2 : Int32) then (some gk) else (if x1 = (3 : Int32) then (if gj = 0 then (some (0 : Int32)) else (some (1 : Int32))) else (if x1 = (4 : Int32) then (some gr) else (if x1 = (5 : Int32) then (some gq) else (if x1 = (6 : Int32) then (some dn) else (some (-200 : Int32))))))))
def fX4_digest_L6 (N : Nat) (dn : Int32) (gw : Int32) (gh : Int32) (gk : Int32) (gq : Int32) (gr : Int32) (gj : Int32) : Nat → Int64 → Int32 → Option (Int64)
  | 0, _, _ => none
  | ct + 1, x1, x3 => if (5 : Int32) < x3 then (some x1) else (Option.bind (fX4_count N dn gw gh gk gq gr gj x3) (fun u9 => fX4_digest_L6 N dn gw gh gk gq gr gj ct (((31 : Int64) * x1) + u9.toInt64) (x3 + (1 : Int32))))
def fX4_digest_L32 (N : Nat) (cv : Int32) (cm : Nat → Int32) (ch : Nat → Int32) (gw : Int32) (gh : Int32) (gq : Int32) (gr : Int32) (gR : Nat → Int32) : Nat → Int64 → Int32 → Option (Int64)
  | 0, _, _ => none
  | ct + 1, x1, x3 => if (4 : Int32) < x3 then (some x1) else (Option.bind (fX4_game N cv cm ch gw gh gq gr gR x3) (fun u14 => fX4_digest_L32 N cv cm ch gw gh gq gr gR ct (((31 : Int64) * x1) + u14.toInt64) (x3 + (1 : Int32))))
def fX4_digest_L58 (N : Nat) (cv : Int32) (cc : Nat → Int32) : Nat → Int64 → Int32 → Option (Int64)
  | 0, _, _ => none
  | ct + 1, x1, x3 => if cv ≤ x3 then (some x1) else (okb (inb x3 16) (fX4_digest_L58 N cv cc ct (((31 : Int64) * x1) + (cc x3.toNatClampNeg).toInt64) (x3 + (1 : Int32))))
def fX4_digest_L94 (N : Nat) (cm : Nat → Int32) (gq : Int32) : Nat → Int64 → Int32 → Option (Int64)
  | 0, _, _ => none
  | ct + 1, x1, x3 => if gq ≤ x3 then (some x1) else (Option.bind (fX0_manOn N cm x3) (fun u22 => fX4_digest_L94 N cm gq ct (((31 : Int64) * x1) + u22.toInt64) (x3 + (1 : Int32))))
def fX4_digest (N : Nat) (dn : Int32) (cv : Int32) (cc : Nat → Int32) (cm : Nat → Int32) (ch : Nat → Int32) (gw : Int32) (gh : Int32) (gk : Int32) (gq : Int32) (gr : Int32) (gj : Int32) (gR : Nat → Int32)  : Option (Int64) := Option.bind (fX4_digest_L6 N dn gw gh gk gq gr gj N (17 : Int64) (0 : Int32)) (fun u12 => Option.bind (fX4_digest_L32 N cv cm ch gw gh gq gr gR N u12 (0 : Int32)) (fun u17 => Option.bind (fX4_digest_L58 N cv cc N u17 (0 : Int32)) (fun u20 => Option.bind (fX4_digest_L94 N cm gq N u20 (0 : Int32)) (fun u25 => some u25))))
end
section
/-! the methods as functions, written by program -/
def fX5_in (N : Nat)  (x0 : Int64) (x2 : Int64) (x4 : Int64) : Option (Int32) := if (lg_cmp x0 x2) < 0 then (some (0 : Int32)) else (if 0 < (lg_cmp x0 x4) then (some (0 : Int32)) else (some (1 : Int32)))
def fX5_squaresOf_L12 (N : Nat) (xw : Int32) (xh : Int32) (xk : Int32) (xj : Int32) (x3 : Int32) (x4 : Int32) : Nat → Int32 → Int32 → Int32 → Int32 → Option ((Int32) ⊕ (Int32))
  | 0, _, _, _, _ => none
  | ct + 1, x5, x6, x7, x8 => if xk ≤ x8 then (some (.inr x5)) else (Option.bind (fX5_in N x6.toInt64 (0 : Int64) (xw - (1 : Int32)).toInt64) (fun u10 => if u10 = 0 then (some (.inl (0 : Int32))) else (if x7 < xh then (if (x5 &&& ((1 : Int32) <<< (((xw * x7) + x6) &&& 31))) = 0 then (if xj = 0 then (fX5_squaresOf_L12 N xw xh xk xj x3 x4 ct (x5 ||| ((1 : Int32) <<< (((xw * x7) + x6) &&& 31))) (x6 + x3) (x7 + x4) (x8 + (1 : Int32))) else (if 0 ≤ (x6 + x3) then (if (x6 + x3) = xw then (fX5_squaresOf_L12 N xw xh xk xj x3 x4 ct (x5 ||| ((1 : Int32) <<< (((xw * x7) + x6) &&& 31))) (0 : Int32) (x7 + x4) (x8 + (1 : Int32))) else (fX5_squaresOf_L12 N xw xh xk xj x3 x4 ct (x5 ||| ((1 : Int32) <<< (((xw * x7) + x6) &&& 31))) (x6 + x3) (x7 + x4) (x8 + (1 : Int32)))) else (fX5_squaresOf_L12 N xw xh xk xj x3 x4 ct (x5 ||| ((1 : Int32) <<< (((xw * x7) + x6) &&& 31))) (xw - (1 : Int32)) (x7 + x4) (x8 + (1 : Int32))))) else (some (.inl (0 : Int32)))) else (some (.inl (0 : Int32))))))
def fX5_squaresOf (N : Nat) (xw : Int32) (xh : Int32) (xk : Int32) (xj : Int32) (x1 : Int32) (x2 : Int32) (x3 : Int32) (x4 : Int32) : Option (Int32) := Option.bind (fX5_squaresOf_L12 N xw xh xk xj x3 x4 N (0 : Int32) x1 x2 (0 : Int32)) (fun u25 => onS u25 (fun r27 => some r27) (fun e26 => some e26))
def fX5_addRow_L2 (N : Nat) (xr : Int32) (yR : Nat → Int32) (x1 : Int32) : Nat → Int32 → Option ((Int32 × (Nat → Int32)) ⊕ (Unit))
  | 0, _ => none
  | ct + 1, x2 => if xr ≤ x2 then (some (.inr ())) else (okb (inb x2 64) (if (yR x2.toNatClampNeg) = x1 then (some (.inl (xr, yR))) else (fX5_addRow_L2 N xr yR x1 ct (x2 + (1 : Int32)))))
def fX5_addRow (N : Nat) (xr : Int32) (yR : Nat → Int32) (x1 : Int32) : Option (Int32 × (Nat → Int32)) := Option.bind (fX5_addRow_L2 N xr yR x1 N (0 : Int32)) (fun u8 => onS u8 (fun r10 => some r10) (fun e9 => if x1 = 0 then (some (xr, yR)) else (okb (inb xr 64) (some ((xr + (1 : Int32)), (upd yR xr.toNatClampNeg x1))))))
def fX5_findRows_L17 (N : Nat) (xw : Int32) (xh : Int32) (xk : Int32) (xj : Int32) (x1 : Int32) : Nat → Int32 → (Nat → Int32) → Int32 → Option (Int32 × (Nat → Int32))
  | 0, _, _, _ => none
  | ct + 1, xr, yR, x2 => if xw ≤ x2 then (some (xr, yR)) else (Option.bind (fX5_squaresOf N xw xh xk xj x2 x1 (1 : Int32) (0 : Int32)) (fun u13 => Option.bind (fX5_addRow N xr yR u13) (fun u14 => Option.bind (fX5_squaresOf N xw xh xk xj x2 x1 (0 : Int32) (1 : Int32)) (fun u15 => Option.bind (fX5_addRow N u14.1 u14.2 u15) (fun u16 => Option.bind (fX5_squaresOf N xw xh xk xj x2 x1 (1 : Int32) (1 : Int32)) (fun u17 => Option.bind (fX5_addRow N u16.1 u16.2 u17) (fun u18 => Option.bind (fX5_squaresOf N xw xh xk xj x2 x1 (-1 : Int32) (1 : Int32)) (fun u19 => Option.bind (fX5_addRow N u18.1 u18.2 u19) (fun u20 => fX5_findRows_L17 N xw xh xk xj x1 ct u20.1 u20.2 (x2 + (1 : Int32)))))))))))
def fX5_findRows_L7 (N : Nat) (xw : Int32) (xh : Int32) (xk : Int32) (xj : Int32) : Nat → Int32 → (Nat → Int32) → Int32 → Option (Int32 × (Nat → Int32))
  | 0, _, _, _ => none
  | ct + 1, xr, yR, x1 => if xh ≤ x1 then (some (xr, yR)) else (Option.bind (fX5_findRows_L17 N xw xh xk xj x1 N xr yR (0 : Int32)) (fun u30 => fX5_findRows_L7 N xw xh xk xj ct u30.1 u30.2 (x1 + (1 : Int32))))
def fX5_findRows (N : Nat) (xw : Int32) (xh : Int32) (xk : Int32) (xj : Int32) (yR : Nat → Int32)  : Option (Int32 × (Nat → Int32)) := Option.bind (fX5_findRows_L7 N xw xh xk xj N (0 : Int32) yR (0 : Int32)) (fun u42 => some (u42.1, u42.2))
def fX5_keyOfNone_L4 (N : Nat) (xw : Int32) (xh : Int32) : Nat → Int32 → Int32 → Option (Int32)
  | 0, _, _ => none
  | ct + 1, x1, x2 => if xw ≤ x2 then (some x1) else (fX5_keyOfNone_L4 N xw xh ct (x1 ||| ((1 : Int32) <<< ((x2 * (xh + (1 : Int32))) &&& 31))) (x2 + (1 : Int32)))
def fX5_keyOfNone (N : Nat) (xw : Int32) (xh : Int32)  : Option (Int32) := Option.bind (fX5_keyOfNone_L4 N xw xh N (0 : Int32) (0 : Int32)) (fun u4 => some u4)
def fX5_columnOf (N : Nat) (xh : Int32) (x1 : Int32) (x2 : Int32) : Option (Int32) := some ((x1 >>> ((x2 * (xh + (1 : Int32))) &&& 31)) &&& (((1 : Int32) <<< ((xh + (1 : Int32)) &&& 31)) - (1 : Int32)))
def fX5_heightOf_L10 (N : Nat)  : Nat → Int32 → Int32 → Option (Int32)
  | 0, _, _ => none
  | ct + 1, x3, x4 => if x3 ≤ (1 : Int32) then (some x4) else (fX5_heightOf_L10 N  ct (x3 >>> ((1 : Int32) &&& 31)) (x4 + (1 : Int32)))
def fX5_heightOf (N : Nat) (xh : Int32) (x1 : Int32) (x2 : Int32) : Option (Int32) := Option.bind (fX5_columnOf N xh x1 x2) (fun u3 => Option.bind (fX5_heightOf_L10 N  N u3 (0 : Int32)) (fun u6 => some u6))
def fX5_dropped (N : Nat) (xh : Int32) (x1 : Int32) (x2 : Int32) (x3 : Int32) : Option (Int32) := Option.bind (fX5_heightOf N xh x1 x2) (fun u2 => some (x1 + (((1 : Int32) + x3) <<< (((x2 * (xh + (1 : Int32))) + u2) &&& 31))))
def fX5_decode_L47 (N : Nat) (xw : Int32) (x2 : Int32) (x3 : Int32) (x4 : Int32) : Nat → (Nat → Int32) → Int32 → Option ((Nat → Int32))
  | 0, _, _ => none
  | ct + 1, yM, x5 => if x3 ≤ x5 then (some yM) else (okb (inb ((x4 >>> (x5 &&& 31)) &&& (1 : Int32)) 2) (okb (inb ((x4 >>> (x5 &&& 31)) &&& (1 : Int32)) 2) (fX5_decode_L47 N xw x2 x3 x4 ct (upd yM ((x4 >>> (x5 &&& 31)) &&& (1 : Int32)).toNatClampNeg ((yM ((x4 >>> (x5 &&& 31)) &&& (1 : Int32)).toNatClampNeg) ||| ((1 : Int32) <<< (((xw * x5) + x2) &&& 31)))) (x5 + (1 : Int32)))))
def fX5_decode_L21 (N : Nat) (xw : Int32) (xh : Int32) (x1 : Int32) : Nat → Int32 → (Nat → Int32) → Int32 → Option (Int32 × (Nat → Int32))
  | 0, _, _, _ => none
  | ct + 1, xc, yM, x2 => if xw ≤ x2 then (some (xc, yM)) else (Option.bind (fX5_heightOf N xh x1 x2) (fun u6 => Option.bind (fX5_columnOf N xh x1 x2) (fun u7 => Option.bind (fX5_decode_L47 N xw x2 u6 u7 N yM (0 : Int32)) (fun u10 => fX5_decode_L21 N xw xh x1 ct (xc + u6) u10 (x2 + (1 : Int32))))))
def fX5_decode (N : Nat) (xw : Int32) (xh : Int32) (yM : Nat → Int32) (x1 : Int32) : Option (Int32 × (Nat → Int32)) := okb (inb (0 : Int32) 2) (okb (inb (1 : Int32) 2) (Option.bind (fX5_decode_L21 N xw xh x1 N (0 : Int32) (upd (upd yM (0 : Int32).toNatClampNeg (0 : Int32)) (1 : Int32).toNatClampNeg (0 : Int32)) (0 : Int32)) (fun u16 => some (u16.1, u16.2))))
def fX5_has_L2 (N : Nat) (xr : Int32) (yR : Nat → Int32) (x1 : Int32) : Nat → Int32 → Option ((Int32) ⊕ (Unit))
  | 0, _ => none
  | ct + 1, x2 => if xr ≤ x2 then (some (.inr ())) else (okb (inb x2 64) (okb (inb x2 64) (if (x1 &&& (yR x2.toNatClampNeg)) = (yR x2.toNatClampNeg) then (some (.inl (1 : Int32))) else (fX5_has_L2 N xr yR x1 ct (x2 + (1 : Int32))))))
def fX5_has (N : Nat) (xr : Int32) (yR : Nat → Int32) (x1 : Int32) : Option (Int32) := Option.bind (fX5_has_L2 N xr yR x1 N (0 : Int32)) (fun u7 => onS u7 (fun r9 => some r9) (fun e8 => some (0 : Int32)))
def fX5_keys (N : Nat) (xw : Int32) (xh : Int32)  : Option (Int32) := some ((1 : Int32) <<< ((xw * (xh + (1 : Int32))) &&& 31))
def fX5_goUp_L7 (N : Nat) (x1 : Int32) : Nat → (Nat → Int32) → Int32 → Option ((Nat → Int32))
  | 0, _, _ => none
  | ct + 1, yT, x2 => if x1 ≤ x2 then (some yT) else (okb (inb x2 2097152) (fX5_goUp_L7 N x1 ct (upd yT x2.toNatClampNeg (vp_nar .byte (-128 : Int32))) (x2 + (1 : Int32))))
def fX5_goUp_L38 (N : Nat)  : Nat → (Nat → Int32) → (Nat → Int32) → (Nat → Int32) → (Nat → Int32) → (Nat → Int32) → Int32 → Option ((Nat → Int32) × (Nat → Int32) × (Nat → Int32) × (Nat → Int32) × (Nat → Int32))
  | 0, _, _, _, _, _, _ => none
  | ct + 1, yC, yW, yA, yE, yU, x2 => if (17 : Int32) ≤ x2 then (some (yC, yW, yA, yE, yU)) else (okb (inb x2 17) (okb (inb x2 17) (okb (inb x2 17) (okb (inb x2 17) (okb (inb x2 17) (fX5_goUp_L38 N  ct (upd yC x2.toNatClampNeg (0 : Int32)) (upd yW x2.toNatClampNeg (0 : Int32)) (upd yA x2.toNatClampNeg (0 : Int32)) (upd yE x2.toNatClampNeg (0 : Int32)) (upd yU x2.toNatClampNeg (0 : Int32)) (x2 + (1 : Int32))))))))
def fX5_goUp_L204 (N : Nat) (xw : Int32) (xh : Int32) (x2 : Int32) (x3 : Int32) : Nat → (Nat → Int32) → Int32 → Option ((Nat → Int32))
  | 0, _, _ => none
  | ct + 1, yT, x4 => if xw ≤ x4 then (some yT) else (Option.bind (fX5_heightOf N xh x2 x4) (fun u31 => if xh ≤ u31 then (fX5_goUp_L204 N xw xh x2 x3 ct yT (x4 + (1 : Int32))) else (Option.bind (fX5_dropped N xh x2 x4 x3) (fun u33 => okb (inb u33 2097152) (fX5_goUp_L204 N xw xh x2 x3 ct (upd yT u33.toNatClampNeg (vp_nar .byte (0 : Int32))) (x4 + (1 : Int32)))))))
def fX5_goUp_L87 (N : Nat) (xw : Int32) (xh : Int32) (xr : Int32) (yR : Nat → Int32) (x1 : Int32) : Nat → Int32 → (Nat → Int32) → (Nat → Int32) → (Nat → Int32) → (Nat → Int32) → Int32 → Option (Int32 × (Nat → Int32) × (Nat → Int32) × (Nat → Int32) × (Nat → Int32))
  | 0, _, _, _, _, _, _ => none
  | ct + 1, xc, yT, yC, yW, yM, x2 => if x1 ≤ x2 then (some (xc, yT, yC, yW, yM)) else (okb (inb x2 2097152) (if (yT x2.toNatClampNeg) = (-128 : Int32) then (fX5_goUp_L87 N xw xh xr yR x1 ct xc yT yC yW yM (x2 + (1 : Int32))) else (Option.bind (fX5_decode N xw xh yM x2) (fun u27 => okb (inb u27.1 17) (okb (inb u27.1 17) (if u27.1 ≤ 0 then (if u27.1 = (xw * xh) then (okb (inb x2 2097152) (fX5_goUp_L87 N xw xh xr yR x1 ct u27.1 (upd yT x2.toNatClampNeg (vp_nar .byte (126 : Int32))) (upd yC u27.1.toNatClampNeg ((yC u27.1.toNatClampNeg) + (1 : Int32))) yW u27.2 (x2 + (1 : Int32)))) else (Option.bind (fX5_goUp_L204 N xw xh x2 (u27.1 - u27.1 / (2 : Int32) * (2 : Int32)) N yT (0 : Int32)) (fun u38 => fX5_goUp_L87 N xw xh xr yR x1 ct u27.1 u38 (upd yC u27.1.toNatClampNeg ((yC u27.1.toNatClampNeg) + (1 : Int32))) yW u27.2 (x2 + (1 : Int32))))) else (okb (inb ((1 : Int32) - (u27.1 - u27.1 / (2 : Int32) * (2 : Int32))) 2) (Option.bind (fX5_has N xr yR (u27.2 ((1 : Int32) - (u27.1 - u27.1 / (2 : Int32) * (2 : Int32))).toNatClampNeg)) (fun u39 => if u39 = 0 then (if u27.1 = (xw * xh) then (okb (inb x2 2097152) (fX5_goUp_L87 N xw xh xr yR x1 ct u27.1 (upd yT x2.toNatClampNeg (vp_nar .byte (126 : Int32))) (upd yC u27.1.toNatClampNeg ((yC u27.1.toNatClampNeg) + (1 : Int32))) yW u27.2 (x2 + (1 : Int32)))) else (Option.bind (fX5_goUp_L204 N xw xh x2 (u27.1 - u27.1 / (2 : Int32) * (2 : Int32)) N yT (0 : Int32)) (fun u46 => fX5_goUp_L87 N xw xh xr yR x1 ct u27.1 u46 (upd yC u27.1.toNatClampNeg ((yC u27.1.toNatClampNeg) + (1 : Int32))) yW u27.2 (x2 + (1 : Int32))))) else (okb (inb u27.1 17) (okb (inb u27.1 17) (okb (inb x2 2097152) (fX5_goUp_L87 N xw xh xr yR x1 ct u27.1 (upd yT x2.toNatClampNeg (vp_nar .byte (127 : Int32))) (upd yC u27.1.toNatClampNeg ((yC u27.1.toNatClampNeg) + (1 : Int32))) (upd yW u27.1.toNatClampNeg ((yW u27.1.toNatClampNeg) + (1 : Int32))) u27.2 (x2 + (1 : Int32)))))))))))))))
def fX5_goUp (N : Nat) (xw : Int32) (xh : Int32) (xr : Int32) (xc : Int32) (yR : Nat → Int32) (yT : Nat → Int32) (yC : Nat → Int32) (yW : Nat → Int32) (yA : Nat → Int32) (yE : Nat → Int32) (yU : Nat → Int32) (yM : Nat → Int32)  : Option (Int32 × (Nat → Int32) × (Nat → Int32) × (Nat → Int32) × (Nat → Int32) × (Nat → Int32) × (Nat → Int32) × (Nat → Int32)) := Option.bind (fX5_keys N xw xh) (fun u17 => Option.bind (fX5_goUp_L7 N u17 N yT (0 : Int32)) (fun u20 => Option.bind (fX5_keyOfNone N xw xh) (fun u21 => okb (inb u21 2097152) (Option.bind (fX5_goUp_L38 N  N yC yW yA yE yU (0 : Int32)) (fun u24 => Option.bind (fX5_goUp_L87 N xw xh xr yR u17 N xc (upd u20 u21.toNatClampNeg (vp_nar .byte (0 : Int32))) u24.1 u24.2.1 yM (0 : Int32)) (fun u65 => some (u65.1, u65.2.1, u65.2.2.1, u65.2.2.2.1, u24.2.2.1, u24.2.2.2.1, u24.2.2.2.2, u65.2.2.2.2)))))))
def fX5_worthBy (N : Nat) (xh : Int32) (yT : Nat → Int32) (x1 : Int32) (x2 : Int32) (x3 : Int32) : Option (Int32) := Option.bind (fX5_dropped N xh x1 x2 x3) (fun u6 => okb (inb u6 2097152) (if (yT u6.toNatClampNeg) = (127 : Int32) then (some (99 : Int32)) else (if (yT u6.toNatClampNeg) = (126 : Int32) then (some (0 : Int32)) else (if (yT u6.toNatClampNeg) ≤ 0 then (if 0 ≤ (yT u6.toNatClampNeg) then (some (0 : Int32)) else (some ((-1 : Int32) - (yT u6.toNatClampNeg)))) else (some ((1 : Int32) - (yT u6.toNatClampNeg)))))))
def fX5_greatest_L7 (N : Nat) (xw : Int32) (xh : Int32) (yT : Nat → Int32) (x1 : Int32) (x2 : Int32) : Nat → Int32 → Int32 → Option (Int32)
  | 0, _, _ => none
  | ct + 1, x3, x4 => if xw ≤ x4 then (some x3) else (Option.bind (fX5_heightOf N xh x1 x4) (fun u7 => if xh ≤ u7 then (fX5_greatest_L7 N xw xh yT x1 x2 ct x3 (x4 + (1 : Int32))) else (Option.bind (fX5_worthBy N xh yT x1 x4 x2) (fun u9 => if u9 ≤ x3 then (fX5_greatest_L7 N xw xh yT x1 x2 ct x3 (x4 + (1 : Int32))) else (fX5_greatest_L7 N xw xh yT x1 x2 ct u9 (x4 + (1 : Int32)))))))
def fX5_greatest (N : Nat) (xw : Int32) (xh : Int32) (yT : Nat → Int32) (x1 : Int32) (x2 : Int32) : Option (Int32) := Option.bind (fX5_greatest_L7 N xw xh yT x1 x2 N (-1000 : Int32) (0 : Int32)) (fun u16 => some u16)
def fX5_goDown_L48 (N : Nat) (xw : Int32) (xh : Int32) (x1 : Int32) : Nat → Int32 → Int32 → Option (Int32)
  | 0, _, _ => none
  | ct + 1, x2, x3 => if xw ≤ x3 then (some x2) else (Option.bind (fX5_heightOf N xh x1 x3) (fun u17 => fX5_goDown_L48 N xw xh x1 ct (x2 + u17) (x3 + (1 : Int32))))
def fX5_goDown_L7 (N : Nat) (xw : Int32) (xh : Int32) : Nat → (Nat → Int32) → (Nat → Int32) → (Nat → Int32) → (Nat → Int32) → Int32 → Option ((Nat → Int32) × (Nat → Int32) × (Nat → Int32) × (Nat → Int32))
  | 0, _, _, _, _, _ => none
  | ct + 1, yT, yA, yE, yU, x1 => if x1 < 0 then (some (yT, yA, yE, yU)) else (okb (inb x1 2097152) (if (yT x1.toNatClampNeg) = (-128 : Int32) then (fX5_goDown_L7 N xw xh ct yT yA yE yU (x1 + (-1 : Int32))) else (okb (inb x1 2097152) (if (yT x1.toNatClampNeg) = (127 : Int32) then (fX5_goDown_L7 N xw xh ct yT yA yE yU (x1 + (-1 : Int32))) else (okb (inb x1 2097152) (if (yT x1.toNatClampNeg) = (126 : Int32) then (fX5_goDown_L7 N xw xh ct yT yA yE yU (x1 + (-1 : Int32))) else (Option.bind (fX5_goDown_L48 N xw xh x1 N (0 : Int32) (0 : Int32)) (fun u20 => Option.bind (fX5_greatest N xw xh yT x1 (u20 - u20 / (2 : Int32) * (2 : Int32))) (fun u21 => okb (inb x1 2097152) (if u21 ≤ 0 then (if u21 = 0 then (okb (inb u20 17) (okb (inb u20 17) (fX5_goDown_L7 N xw xh ct (upd yT x1.toNatClampNeg (vp_nar .byte u21.toInt8.toInt32)) yA (upd yE u20.toNatClampNeg ((yE u20.toNatClampNeg) + (1 : Int32))) yU (x1 + (-1 : Int32))))) else (okb (inb u20 17) (okb (inb u20 17) (fX5_goDown_L7 N xw xh ct (upd yT x1.toNatClampNeg (vp_nar .byte u21.toInt8.toInt32)) yA yE (upd yU u20.toNatClampNeg ((yU u20.toNatClampNeg) + (1 : Int32))) (x1 + (-1 : Int32)))))) else (okb (inb u20 17) (okb (inb u20 17) (fX5_goDown_L7 N xw xh ct (upd yT x1.toNatClampNeg (vp_nar .byte u21.toInt8.toInt32)) (upd yA u20.toNatClampNeg ((yA u20.toNatClampNeg) + (1 : Int32))) yE yU (x1 + (-1 : Int32)))))))))))))))
def fX5_goDown (N : Nat) (xw : Int32) (xh : Int32) (yT : Nat → Int32) (yA : Nat → Int32) (yE : Nat → Int32) (yU : Nat → Int32)  : Option ((Nat → Int32) × (Nat → Int32) × (Nat → Int32) × (Nat → Int32)) := Option.bind (fX5_keys N xw xh) (fun u11 => Option.bind (fX5_goDown_L7 N xw xh N yT yA yE yU (u11 - (1 : Int32))) (fun u34 => some (u34.1, u34.2.1, u34.2.2.1, u34.2.2.2)))
def fX5_place_L10 (N : Nat) (xh : Int32) (xv : Int32) (yV : Nat → Int32) : Nat → Int32 → Int32 → Option (Int32)
  | 0, _, _ => none
  | ct + 1, xn, x1 => if xv ≤ x1 then (some xn) else (okb (inb x1 16) (Option.bind (fX5_dropped N xh xn (yV x1.toNatClampNeg) (x1 - x1 / (2 : Int32) * (2 : Int32))) (fun u6 => fX5_place_L10 N xh xv yV ct u6 (x1 + (1 : Int32)))))
def fX5_place (N : Nat) (xw : Int32) (xh : Int32) (xv : Int32) (yV : Nat → Int32)  : Option (Int32) := Option.bind (fX5_keyOfNone N xw xh) (fun u4 => Option.bind (fX5_place_L10 N xh xv yV N u4 (0 : Int32)) (fun u9 => some u9))
def fX5_begin (N : Nat) (xc : Int32) (yR : Nat → Int32) (yT : Nat → Int32) (yC : Nat → Int32) (yW : Nat → Int32) (yA : Nat → Int32) (yE : Nat → Int32) (yU : Nat → Int32) (yM : Nat → Int32) (yV : Nat → Int32) (x1 : Int32) (x2 : Int32) (x3 : Int32) (x4 : Int32) : Option (Int32 × Int32 × Int32 × Int32 × Int32 × Int32 × Int32 × Int32 × (Nat → Int32) × (Nat → Int32) × (Nat → Int32) × (Nat → Int32) × (Nat → Int32) × (Nat → Int32) × (Nat → Int32) × (Nat → Int32)) := okb (isb x4) (Option.bind (fX5_findRows N x1 x2 x3 x4 yR) (fun u5 => Option.bind (fX5_goUp N x1 x2 u5.1 xc u5.2 yT yC yW yA yE yU yM) (fun u6 => Option.bind (fX5_goDown N x1 x2 u6.2.1 u6.2.2.2.2.1 u6.2.2.2.2.2.1 u6.2.2.2.2.2.2.1) (fun u7 => Option.bind (fX5_place N x1 x2 (0 : Int32) yV) (fun u8 => some (x1, x2, x3, x4, u5.1, u6.1, (0 : Int32), u8, u5.2, u7.1, u6.2.2.1, u6.2.2.2.1, u7.2.1, u7.2.2.1, u7.2.2.2, u6.2.2.2.2.2.2.2))))))
def fX5_board (N : Nat) (xw : Int32) (xh : Int32) (xk : Int32) (xj : Int32) (xb : Int32) (xr : Int32) (xc : Int32) (xv : Int32) (xn : Int32) (yR : Nat → Int32) (yT : Nat → Int32) (yC : Nat → Int32) (yW : Nat → Int32) (yA : Nat → Int32) (yE : Nat → Int32) (yU : Nat → Int32) (yM : Nat → Int32) (yV : Nat → Int32) (x1 : Int32) (x2 : Int32) (x3 : Int32) (x4 : Int32) : Option (Int32 × Int32 × Int32 × Int32 × Int32 × Int32 × Int32 × Int32 × Int32 × Int32 × (Nat → Int32) × (Nat → Int32) × (Nat → Int32) × (Nat → Int32) × (Nat → Int32) × (Nat → Int32) × (Nat → Int32) × (Nat → Int32)) := Option.bind (fX5_in N x1.toInt64 (1 : Int64) (7 : Int64)) (fun u10 => if u10 = 0 then (some ((-200 : Int32), xw, xh, xk, xj, xb, xr, xc, xv, xn, yR, yT, yC, yW, yA, yE, yU, yM)) else (Option.bind (fX5_in N x2.toInt64 (1 : Int64) (6 : Int64)) (fun u12 => if u12 = 0 then (some ((-200 : Int32), xw, xh, xk, xj, xb, xr, xc, xv, xn, yR, yT, yC, yW, yA, yE, yU, yM)) else (if (16 : Int32) < (x1 * x2) then (some ((-200 : Int32), xw, xh, xk, xj, xb, xr, xc, xv, xn, yR, yT, yC, yW, yA, yE, yU, yM)) else (Option.bind (fX5_in N x3.toInt64 (2 : Int64) (4 : Int64)) (fun u15 => if u15 = 0 then (some ((-200 : Int32), xw, xh, xk, xj, xb, xr, xc, xv, xn, yR, yT, yC, yW, yA, yE, yU, yM)) else (if xb = (12 : Int32) then (some ((-202 : Int32), xw, xh, xk, xj, xb, xr, xc, xv, xn, yR, yT, yC, yW, yA, yE, yU, yM)) else (Option.bind (fX5_begin N xc yR yT yC yW yA yE yU yM yV x1 x2 x3 x4) (fun u18 => some (u18.2.2.2.2.1, u18.1, u18.2.1, u18.2.2.1, u18.2.2.2.1, (xb + (1 : Int32)), u18.2.2.2.2.1, u18.2.2.2.2.2.1, u18.2.2.2.2.2.2.1, u18.2.2.2.2.2.2.2.1, u18.2.2.2.2.2.2.2.2.1, u18.2.2.2.2.2.2.2.2.2.1, u18.2.2.2.2.2.2.2.2.2.2.1, u18.2.2.2.2.2.2.2.2.2.2.2.1, u18.2.2.2.2.2.2.2.2.2.2.2.2.1, u18.2.2.2.2.2.2.2.2.2.2.2.2.2.1, u18.2.2.2.2.2.2.2.2.2.2.2.2.2.2.1, u18.2.2.2.2.2.2.2.2.2.2.2.2.2.2.2))))))))))
def fX5_isOver (N : Nat) (xn : Int32) (yT : Nat → Int32)  : Option (Int32) := okb (inb xn 2097152) (if (yT xn.toNatClampNeg) = (127 : Int32) then (some (1 : Int32)) else (okb (inb xn 2097152) (if (yT xn.toNatClampNeg) = (126 : Int32) then (some (1 : Int32)) else (some (0 : Int32)))))
def fX5_isFree (N : Nat) (xw : Int32) (xh : Int32) (xn : Int32) (x1 : Int32) : Option (Int32) := Option.bind (fX5_in N x1.toInt64 (0 : Int64) (xw - (1 : Int32)).toInt64) (fun u5 => if u5 = 0 then (some (0 : Int32)) else (Option.bind (fX5_heightOf N xh xn x1) (fun u7 => if xh ≤ u7 then (some (0 : Int32)) else (some (1 : Int32)))))
def fX5_go (N : Nat) (xh : Int32) (xv : Int32) (xn : Int32) (yV : Nat → Int32) (x1 : Int32) : Option (Int32 × Int32 × (Nat → Int32)) := Option.bind (fX5_dropped N xh xn x1 (xv - xv / (2 : Int32) * (2 : Int32))) (fun u2 => okb (inb xv 16) (some ((xv + (1 : Int32)), u2, (upd yV xv.toNatClampNeg x1))))
def fX5_drop (N : Nat) (xw : Int32) (xh : Int32) (xv : Int32) (xn : Int32) (yT : Nat → Int32) (yV : Nat → Int32) (x1 : Int32) : Option (Int32 × Int32 × Int32 × (Nat → Int32)) := Option.bind (fX5_isFree N xw xh xn x1) (fun u7 => if u7 = 0 then (some ((-200 : Int32), xv, xn, yV)) else (Option.bind (fX5_isOver N xn yT) (fun u9 => if u9 = 0 then (Option.bind (fX5_heightOf N xh xn x1) (fun u11 => Option.bind (fX5_go N xh xv xn yV x1) (fun u12 => some (((xw * u11) + x1), u12.1, u12.2.1, u12.2.2)))) else (some ((-201 : Int32), xv, xn, yV)))))
def fX5_back (N : Nat) (xw : Int32) (xh : Int32) (xv : Int32) (xn : Int32) (yV : Nat → Int32) (x1 : Int32) : Option (Int32 × Int32 × Int32) := Option.bind (fX5_in N x1.toInt64 (0 : Int64) xv.toInt64) (fun u4 => if u4 = 0 then (some ((-200 : Int32), xv, xn)) else (Option.bind (fX5_place N xw xh (xv - x1) yV) (fun u6 => some ((xv - x1), (xv - x1), u6))))
def fX5_move (N : Nat) (xv : Int32) (yV : Nat → Int32) (x1 : Int32) : Option (Int32) := Option.bind (fX5_in N x1.toInt64 (0 : Int64) (xv - (1 : Int32)).toInt64) (fun u3 => if u3 = 0 then (some (-200 : Int32)) else (okb (inb x1 16) (some (yV x1.toNatClampNeg))))
def fX5_at (N : Nat) (xw : Int32) (xh : Int32) (xc : Int32) (xn : Int32) (yM : Nat → Int32) (x1 : Int32) : Option (Int32 × Int32 × (Nat → Int32)) := Option.bind (fX5_in N x1.toInt64 (0 : Int64) ((xw * xh) - (1 : Int32)).toInt64) (fun u6 => if u6 = 0 then (some ((-200 : Int32), xc, yM)) else (Option.bind (fX5_decode N xw xh yM xn) (fun u8 => okb (inb (0 : Int32) 2) (if (((u8.2 (0 : Int32).toNatClampNeg) >>> (x1 &&& 31)) &&& (1 : Int32)) = (1 : Int32) then (some ((0 : Int32), u8.1, u8.2)) else (okb (inb (1 : Int32) 2) (if (((u8.2 (1 : Int32).toNatClampNeg) >>> (x1 &&& 31)) &&& (1 : Int32)) = (1 : Int32) then (some ((1 : Int32), u8.1, u8.2)) else (some ((-1 : Int32), u8.1, u8.2))))))))
def fX5_game_L88 (N : Nat) (xw : Int32) (xh : Int32) (xn : Int32) : Nat → Int32 → Int32 → Option (Int32)
  | 0, _, _ => none
  | ct + 1, x2, x3 => if xw ≤ x3 then (some x2) else (Option.bind (fX5_isFree N xw xh xn x3) (fun u19 => if u19 = 0 then (fX5_game_L88 N xw xh xn ct (x2 + (0 : Int32)) (x3 + (1 : Int32))) else (fX5_game_L88 N xw xh xn ct (x2 + (1 : Int32)) (x3 + (1 : Int32)))))
def fX5_game_L130 (N : Nat) (xr : Int32) (yR : Nat → Int32) (yM : Nat → Int32) : Nat → Int32 → Int32 → Option (Int32)
  | 0, _, _ => none
  | ct + 1, x2, x3 => if xr ≤ x3 then (some x2) else (okb (inb x3 64) (okb (inb (0 : Int32) 2) (if ((yR x3.toNatClampNeg) &&& (yM (0 : Int32).toNatClampNeg)) = 0 then (okb (inb x3 64) (okb (inb (1 : Int32) 2) (if ((yR x3.toNatClampNeg) &&& (yM (1 : Int32).toNatClampNeg)) = 0 then (fX5_game_L130 N xr yR yM ct ((x2 + (1 : Int32)) + (1 : Int32)) (x3 + (1 : Int32))) else (fX5_game_L130 N xr yR yM ct ((x2 + (1 : Int32)) + (0 : Int32)) (x3 + (1 : Int32)))))) else (okb (inb x3 64) (okb (inb (1 : Int32) 2) (if ((yR x3.toNatClampNeg) &&& (yM (1 : Int32).toNatClampNeg)) = 0 then (fX5_game_L130 N xr yR yM ct ((x2 + (0 : Int32)) + (1 : Int32)) (x3 + (1 : Int32))) else (fX5_game_L130 N xr yR yM ct ((x2 + (0 : Int32)) + (0 : Int32)) (x3 + (1 : Int32)))))))))
def fX5_game (N : Nat) (xw : Int32) (xh : Int32) (xr : Int32) (xc : Int32) (xv : Int32) (xn : Int32) (yR : Nat → Int32) (yT : Nat → Int32) (yM : Nat → Int32) (x1 : Int32) : Option (Int32 × Int32 × (Nat → Int32)) := if x1 = (0 : Int32) then (some ((xv - xv / (2 : Int32) * (2 : Int32)), xc, yM)) else (if x1 = (1 : Int32) then (some (xv, xc, yM)) else (if x1 = (2 : Int32) then (okb (inb xn 2097152) (if (yT xn.toNatClampNeg) = (127 : Int32) then (some ((1 : Int32), xc, yM)) else (okb (inb xn 2097152) (if (yT xn.toNatClampNeg) = (126 : Int32) then (some ((2 : Int32), xc, yM)) else (some ((0 : Int32), xc, yM)))))) else (if x1 = (3 : Int32) then (Option.bind (fX5_game_L88 N xw xh xn N (0 : Int32) (0 : Int32)) (fun u24 => some (u24, xc, yM))) else (if x1 = (4 : Int32) then (Option.bind (fX5_decode N xw xh yM xn) (fun u25 => Option.bind (fX5_game_L130 N xr yR u25.2 N (0 : Int32) (0 : Int32)) (fun u34 => some (u34, u25.1, u25.2)))) else (some ((-200 : Int32), xc, yM))))))
def fX5_bitOf_L4 (N : Nat) (x0 : Int32) (x1 : Int32) : Nat → Int32 → Int32 → Option ((Int32) ⊕ (Unit))
  | 0, _, _ => none
  | ct + 1, x2, x3 => if (16 : Int32) ≤ x3 then (some (.inr ())) else (if x1 < 0 then (some (.inr ())) else (if ((x0 >>> (x3 &&& 31)) &&& (1 : Int32)) = (1 : Int32) then (if x2 = 0 then (some (.inl x3)) else (fX5_bitOf_L4 N x0 x1 ct (x2 + (-1 : Int32)) (x3 + (1 : Int32)))) else (fX5_bitOf_L4 N x0 x1 ct x2 (x3 + (1 : Int32)))))
def fX5_bitOf (N : Nat)  (x0 : Int32) (x1 : Int32) : Option (Int32) := Option.bind (fX5_bitOf_L4 N x0 x1 N x1 (0 : Int32)) (fun u13 => onS u13 (fun r15 => some r15) (fun e14 => some (-1 : Int32)))
def fX5_isAhead (N : Nat)  (x0 : Int32) (x1 : Int32) : Option (Int32) := Option.bind (fX5_bitOf N (x0 ^^^ x1) (0 : Int32)) (fun u4 => if u4 < 0 then (some (0 : Int32)) else (if ((x0 >>> (u4 &&& 31)) &&& (1 : Int32)) = (1 : Int32) then (some (1 : Int32)) else (some (0 : Int32))))
def fX5_won_L61 (N : Nat) (xr : Int32) (yR : Nat → Int32) (x2 : Int32) : Nat → Int32 → Int32 → Option (Int32)
  | 0, _, _ => none
  | ct + 1, x3, x4 => if xr ≤ x4 then (some x3) else (okb (inb x4 64) (okb (inb x4 64) (if ((yR x4.toNatClampNeg) &&& x2) = (yR x4.toNatClampNeg) then (if x3 = 0 then (okb (inb x4 64) (fX5_won_L61 N xr yR x2 ct (yR x4.toNatClampNeg) (x4 + (1 : Int32)))) else (okb (inb x4 64) (Option.bind (fX5_isAhead N (yR x4.toNatClampNeg) x3) (fun u18 => if u18 = 0 then (fX5_won_L61 N xr yR x2 ct x3 (x4 + (1 : Int32))) else (okb (inb x4 64) (fX5_won_L61 N xr yR x2 ct (yR x4.toNatClampNeg) (x4 + (1 : Int32)))))))) else (fX5_won_L61 N xr yR x2 ct x3 (x4 + (1 : Int32))))))
def fX5_won (N : Nat) (xw : Int32) (xh : Int32) (xk : Int32) (xr : Int32) (xc : Int32) (xv : Int32) (xn : Int32) (yR : Nat → Int32) (yT : Nat → Int32) (yM : Nat → Int32) (x1 : Int32) : Option (Int32 × Int32 × (Nat → Int32)) := okb (inb xn 2097152) (if (yT xn.toNatClampNeg) = (127 : Int32) then (Option.bind (fX5_in N x1.toInt64 (0 : Int64) (xk - (1 : Int32)).toInt64) (fun u12 => if u12 = 0 then (some ((-200 : Int32), xc, yM)) else (Option.bind (fX5_decode N xw xh yM xn) (fun u14 => okb (inb ((1 : Int32) - (xv - xv / (2 : Int32) * (2 : Int32))) 2) (Option.bind (fX5_won_L61 N xr yR (u14.2 ((1 : Int32) - (xv - xv / (2 : Int32) * (2 : Int32))).toNatClampNeg) N (0 : Int32) (0 : Int32)) (fun u25 => Option.bind (fX5_bitOf N u25 x1) (fun u26 => some (u26, u14.1, u14.2)))))))) else (some ((-200 : Int32), xc, yM)))
def fX5_worth (N : Nat) (xn : Int32) (yT : Nat → Int32)  : Option (Int32) := Option.bind (fX5_isOver N xn yT) (fun u3 => if u3 = 0 then (okb (inb xn 2097152) (some (yT xn.toNatClampNeg))) else (some (-201 : Int32)))
def fX5_worthOf (N : Nat) (xw : Int32) (xh : Int32) (xv : Int32) (xn : Int32) (yT : Nat → Int32) (x1 : Int32) : Option (Int32) := Option.bind (fX5_isOver N xn yT) (fun u6 => if u6 = 0 then (Option.bind (fX5_isFree N xw xh xn x1) (fun u8 => if u8 = 0 then (some (-200 : Int32)) else (Option.bind (fX5_worthBy N xh yT xn x1 (xv - xv / (2 : Int32) * (2 : Int32))) (fun u10 => some u10)))) else (some (-201 : Int32)))
def fX5_bestMove_L2 (N : Nat) (xw : Int32) (xh : Int32) (xv : Int32) (xn : Int32) (yT : Nat → Int32) : Nat → Int32 → Option (Int32)
  | 0, _ => none
  | ct + 1, x1 => Option.bind (fX5_isFree N xw xh xn x1) (fun u5 => if u5 = 0 then (fX5_bestMove_L2 N xw xh xv xn yT ct (x1 + (1 : Int32))) else (Option.bind (fX5_worthBy N xh yT xn x1 (xv - xv / (2 : Int32) * (2 : Int32))) (fun u7 => okb (inb xn 2097152) (if u7 = (yT xn.toNatClampNeg) then (some x1) else (fX5_bestMove_L2 N xw xh xv xn yT ct (x1 + (1 : Int32)))))))
def fX5_bestMove (N : Nat) (xw : Int32) (xh : Int32) (xv : Int32) (xn : Int32) (yT : Nat → Int32)  : Option (Int32) := Option.bind (fX5_bestMove_L2 N xw xh xv xn yT N (0 : Int32)) (fun u13 => some u13)
def fX5_best (N : Nat) (xw : Int32) (xh : Int32) (xv : Int32) (xn : Int32) (yT : Nat → Int32)  : Option (Int32) := Option.bind (fX5_isOver N xn yT) (fun u4 => if u4 = 0 then (Option.bind (fX5_bestMove N xw xh xv xn yT) (fun u6 => some u6)) else (some (-201 : Int32)))
def fX5_as_L15 (N : Nat) (xw : Int32) (xh : Int32) (xv : Int32) (xn : Int32) (yT : Nat → Int32) : Nat → Int32 → Int32 → Option (Int32)
  | 0, _, _ => none
  | ct + 1, x1, x2 => if xw ≤ x2 then (some x1) else (Option.bind (fX5_isFree N xw xh xn x2) (fun u11 => if u11 = 0 then (fX5_as_L15 N xw xh xv xn yT ct (x1 + (0 : Int32)) (x2 + (1 : Int32))) else (Option.bind (fX5_worthBy N xh yT xn x2 (xv - xv / (2 : Int32) * (2 : Int32))) (fun u13 => okb (inb xn 2097152) (if u13 = (yT xn.toNatClampNeg) then (fX5_as_L15 N xw xh xv xn yT ct (x1 + (1 : Int32)) (x2 + (1 : Int32))) else (fX5_as_L15 N xw xh xv xn yT ct (x1 + (0 : Int32)) (x2 + (1 : Int32))))))))
def fX5_as (N : Nat) (xw : Int32) (xh : Int32) (xv : Int32) (xn : Int32) (yT : Nat → Int32)  : Option (Int32) := Option.bind (fX5_isOver N xn yT) (fun u8 => if u8 = 0 then (Option.bind (fX5_as_L15 N xw xh xv xn yT N (0 : Int32) (0 : Int32)) (fun u20 => some u20)) else (some (-201 : Int32)))
def fX5_play_L13 (N : Nat) (xw : Int32) (xh : Int32) (yT : Nat → Int32) : Nat → Int32 → Int32 → (Nat → Int32) → Int32 → Option (Int32 × Int32 × (Nat → Int32) × Int32)
  | 0, _, _, _, _ => none
  | ct + 1, xv, xn, yV, x1 => Option.bind (fX5_isOver N xn yT) (fun u9 => if u9 = 0 then (Option.bind (fX5_bestMove N xw xh xv xn yT) (fun u11 => Option.bind (fX5_go N xh xv xn yV u11) (fun u12 => fX5_play_L13 N xw xh yT ct u12.1 u12.2.1 u12.2.2 (x1 + (1 : Int32))))) else (some (xv, xn, yV, x1)))
def fX5_play (N : Nat) (xw : Int32) (xh : Int32) (xv : Int32) (xn : Int32) (yT : Nat → Int32) (yV : Nat → Int32)  : Option (Int32 × Int32 × Int32 × (Nat → Int32)) := Option.bind (fX5_isOver N xn yT) (fun u7 => if u7 = 0 then (Option.bind (fX5_play_L13 N xw xh yT N xv xn yV (0 : Int32)) (fun u17 => some (u17.2.2.2, u17.1, u17.2.1, u17.2.2.1))) else (some ((-201 : Int32), xv, xn, yV)))
def fX5_positions (N : Nat) (xw : Int32) (xh : Int32) (yC : Nat → Int32) (x1 : Int32) : Option (Int32) := Option.bind (fX5_in N x1.toInt64 (0 : Int64) (xw * xh).toInt64) (fun u3 => if u3 = 0 then (some (-200 : Int32)) else (okb (inb x1 17) (some (yC x1.toNatClampNeg))))
def fX5_wins (N : Nat) (xw : Int32) (xh : Int32) (yW : Nat → Int32) (x1 : Int32) : Option (Int32) := Option.bind (fX5_in N x1.toInt64 (0 : Int64) (xw * xh).toInt64) (fun u3 => if u3 = 0 then (some (-200 : Int32)) else (okb (inb x1 17) (some (yW x1.toNatClampNeg))))
def fX5_share (N : Nat) (xw : Int32) (xh : Int32) (yA : Nat → Int32) (yE : Nat → Int32) (yU : Nat → Int32) (x1 : Int32) (x2 : Int32) : Option (Int32) := Option.bind (fX5_in N x1.toInt64 (0 : Int64) (xw * xh).toInt64) (fun u7 => if u7 = 0 then (some (-200 : Int32)) else (Option.bind (fX5_in N x2.toInt64 (-1 : Int64) (1 : Int64)) (fun u9 => if u9 = 0 then (some (-200 : Int32)) else (if x2 ≤ 0 then (if x2 = 0 then (okb (inb x1 17) (some (yE x1.toNatClampNeg))) else (okb (inb x1 17) (some (yU x1.toNatClampNeg)))) else (okb (inb x1 17) (some (yA x1.toNatClampNeg)))))))
def fX5_even_L4 (N : Nat) (xw : Int32) (xh : Int32) (xn : Int32) : Nat → Int32 → Int32 → Option (Int32)
  | 0, _, _ => none
  | ct + 1, x1, x2 => if xw ≤ x2 then (some x1) else (if x1 = 0 then (fX5_even_L4 N xw xh xn ct (0 : Int32) (x2 + (1 : Int32))) else (Option.bind (fX5_columnOf N xh xn x2) (fun u9 => Option.bind (fX5_columnOf N xh xn ((xw - (1 : Int32)) - x2)) (fun u10 => if u9 = u10 then (fX5_even_L4 N xw xh xn ct (1 : Int32) (x2 + (1 : Int32))) else (fX5_even_L4 N xw xh xn ct (0 : Int32) (x2 + (1 : Int32)))))))
def fX5_even (N : Nat) (xw : Int32) (xh : Int32) (xn : Int32)  : Option (Int32) := Option.bind (fX5_even_L4 N xw xh xn N (1 : Int32) (0 : Int32)) (fun u17 => if u17 = 0 then (some (0 : Int32)) else (some (1 : Int32)))
def fX5_threatsOf_L4 (N : Nat) (xw : Int32) (xh : Int32) (xr : Int32) (yR : Nat → Int32) (yM : Nat → Int32) (x1 : Int32) : Nat → Int32 → Int32 → Option (Int32)
  | 0, _, _ => none
  | ct + 1, x2, x3 => if (xw * xh) ≤ x3 then (some x2) else (okb (inb (0 : Int32) 2) (okb (inb (1 : Int32) 2) (if (((yM (0 : Int32).toNatClampNeg) ||| (yM (1 : Int32).toNatClampNeg)) &&& ((1 : Int32) <<< (x3 &&& 31))) = 0 then (if (1 : Int32) = 0 then (fX5_threatsOf_L4 N xw xh xr yR yM x1 ct (x2 ||| (0 : Int32)) (x3 + (1 : Int32))) else (okb (inb x1 2) (Option.bind (fX5_has N xr yR ((yM x1.toNatClampNeg) ||| ((1 : Int32) <<< (x3 &&& 31)))) (fun u15 => if u15 = 0 then (fX5_threatsOf_L4 N xw xh xr yR yM x1 ct (x2 ||| (0 : Int32)) (x3 + (1 : Int32))) else (fX5_threatsOf_L4 N xw xh xr yR yM x1 ct (x2 ||| ((1 : Int32) <<< (x3 &&& 31))) (x3 + (1 : Int32))))))) else (if (0 : Int32) = 0 then (fX5_threatsOf_L4 N xw xh xr yR yM x1 ct (x2 ||| (0 : Int32)) (x3 + (1 : Int32))) else (okb (inb x1 2) (Option.bind (fX5_has N xr yR ((yM x1.toNatClampNeg) ||| ((1 : Int32) <<< (x3 &&& 31)))) (fun u12 => if u12 = 0 then (fX5_threatsOf_L4 N xw xh xr yR yM x1 ct (x2 ||| (0 : Int32)) (x3 + (1 : Int32))) else (fX5_threatsOf_L4 N xw xh xr yR yM x1 ct (x2 ||| ((1 : Int32) <<< (x3 &&& 31))) (x3 + (1 : Int32))))))))))
def fX5_threatsOf (N : Nat) (xw : Int32) (xh : Int32) (xr : Int32) (yR : Nat → Int32) (yM : Nat → Int32) (x1 : Int32) : Option (Int32) := Option.bind (fX5_threatsOf_L4 N xw xh xr yR yM x1 N (0 : Int32) (0 : Int32)) (fun u25 => some u25)
def fX5_threats_L30 (N : Nat)  : Nat → Int32 → Int32 → Option (Int32)
  | 0, _, _ => none
  | ct + 1, x2, x3 => if x2 = 0 then (some x3) else (fX5_threats_L30 N  ct (x2 >>> ((1 : Int32) &&& 31)) (x3 + (x2 &&& (1 : Int32))))
def fX5_threats (N : Nat) (xw : Int32) (xh : Int32) (xr : Int32) (xc : Int32) (xn : Int32) (yR : Nat → Int32) (yM : Nat → Int32) (x1 : Int32) : Option (Int32 × Int32 × (Nat → Int32)) := Option.bind (fX5_in N x1.toInt64 (0 : Int64) (1 : Int64)) (fun u6 => if u6 = 0 then (some ((-200 : Int32), xc, yM)) else (Option.bind (fX5_decode N xw xh yM xn) (fun u8 => Option.bind (fX5_threatsOf N xw xh xr yR u8.2 x1) (fun u9 => Option.bind (fX5_threats_L30 N  N u9 (0 : Int32)) (fun u12 => some (u12, u8.1, u8.2))))))
def fX5_threat (N : Nat) (xw : Int32) (xh : Int32) (xr : Int32) (xc : Int32) (xn : Int32) (yR : Nat → Int32) (yM : Nat → Int32) (x1 : Int32) (x2 : Int32) : Option (Int32 × Int32 × (Nat → Int32)) := Option.bind (fX5_in N x1.toInt64 (0 : Int64) (1 : Int64)) (fun u7 => if u7 = 0 then (some ((-200 : Int32), xc, yM)) else (Option.bind (fX5_decode N xw xh yM xn) (fun u9 => Option.bind (fX5_threatsOf N xw xh xr yR u9.2 x1) (fun u10 => Option.bind (fX5_bitOf N u10 x2) (fun u11 => if u11 = (-1 : Int32) then (some ((-200 : Int32), u9.1, u9.2)) else (some (u11, u9.1, u9.2)))))))
def fX5_sortOf (N : Nat) (xw : Int32) (xh : Int32) (x1 : Int32) (x2 : Int32) (x3 : Int32) (x4 : Int32) : Option (Int32) := Option.bind (fX5_heightOf N xh x1 x2) (fun u11 => if xh ≤ (u11 + (1 : Int32)) then (if (x3 &&& ((1 : Int32) <<< (((xw * u11) + x2) &&& 31))) = 0 then (if (x4 &&& ((1 : Int32) <<< (((xw * u11) + x2) &&& 31))) = 0 then (if ((x3 ||| x4) &&& (0 : Int32)) = 0 then (some (2 : Int32)) else (if (x4 &&& (0 : Int32)) = 0 then (some (3 : Int32)) else (some (4 : Int32)))) else (some (1 : Int32))) else (some (0 : Int32))) else (if (x3 &&& ((1 : Int32) <<< (((xw * u11) + x2) &&& 31))) = 0 then (if (x4 &&& ((1 : Int32) <<< (((xw * u11) + x2) &&& 31))) = 0 then (if ((x3 ||| x4) &&& ((1 : Int32) <<< (((xw * (u11 + (1 : Int32))) + x2) &&& 31))) = 0 then (some (2 : Int32)) else (if (x4 &&& ((1 : Int32) <<< (((xw * (u11 + (1 : Int32))) + x2) &&& 31))) = 0 then (some (3 : Int32)) else (some (4 : Int32)))) else (some (1 : Int32))) else (some (0 : Int32))))
def fX5_waiting_L78 (N : Nat) (xw : Int32) (xh : Int32) (x1 : Int32) (x4 : Int32) (x5 : Int32) : Nat → Int32 → Int32 → Int32 → Option (Int32)
  | 0, _, _, _ => none
  | ct + 1, x6, x7, x8 => if xw ≤ x8 then (some x6) else (Option.bind (fX5_heightOf N xh x1 x8) (fun u25 => if xh ≤ u25 then (fX5_waiting_L78 N xw xh x1 x4 x5 ct x6 x7 (x8 + (1 : Int32))) else (Option.bind (fX5_sortOf N xw xh x1 x8 x4 x5) (fun u27 => if x7 ≤ u27 then (fX5_waiting_L78 N xw xh x1 x4 x5 ct x6 x7 (x8 + (1 : Int32))) else (Option.bind (fX5_sortOf N xw xh x1 x8 x4 x5) (fun u29 => fX5_waiting_L78 N xw xh x1 x4 x5 ct x8 u29 (x8 + (1 : Int32))))))))
def fX5_waiting_L21 (N : Nat) (xw : Int32) (xh : Int32) (xr : Int32) (yR : Nat → Int32) (yT : Nat → Int32) : Nat → Int32 → (Nat → Int32) → Int32 → Int32 → Option (Int32 × (Nat → Int32) × Int32 × Int32)
  | 0, _, _, _, _ => none
  | ct + 1, xc, yM, x1, x2 => okb (inb x1 2097152) (if (yT x1.toNatClampNeg) = (127 : Int32) then (some (xc, yM, x1, x2)) else (okb (inb x1 2097152) (if (yT x1.toNatClampNeg) = (126 : Int32) then (some (xc, yM, x1, x2)) else (Option.bind (fX5_decode N xw xh yM x1) (fun u21 => Option.bind (fX5_threatsOf N xw xh xr yR u21.2 (x2 - x2 / (2 : Int32) * (2 : Int32))) (fun u22 => Option.bind (fX5_threatsOf N xw xh xr yR u21.2 ((1 : Int32) - (x2 - x2 / (2 : Int32) * (2 : Int32)))) (fun u23 => Option.bind (fX5_waiting_L78 N xw xh x1 u22 u23 N (-1 : Int32) (9 : Int32) (0 : Int32)) (fun u36 => Option.bind (fX5_dropped N xh x1 u36 (x2 - x2 / (2 : Int32) * (2 : Int32))) (fun u37 => fX5_waiting_L21 N xw xh xr yR yT ct u21.1 u21.2 u37 (x2 + (1 : Int32)))))))))))
def fX5_waiting (N : Nat) (xw : Int32) (xh : Int32) (xr : Int32) (xc : Int32) (xv : Int32) (xn : Int32) (yR : Nat → Int32) (yT : Nat → Int32) (yM : Nat → Int32)  : Option (Int32 × Int32 × (Nat → Int32)) := Option.bind (fX5_isOver N xn yT) (fun u17 => if u17 = 0 then (Option.bind (fX5_waiting_L21 N xw xh xr yR yT N xc yM xn xv) (fun u51 => okb (inb u51.2.2.1 2097152) (if (yT u51.2.2.1.toNatClampNeg) = (126 : Int32) then (some ((0 : Int32), u51.1, u51.2.1)) else (if (u51.2.2.2 - u51.2.2.2 / (2 : Int32) * (2 : Int32)) = (1 : Int32) then (some ((1 : Int32), u51.1, u51.2.1)) else (some ((-1 : Int32), u51.1, u51.2.1)))))) else (some ((-201 : Int32), xc, yM)))
def fX5_met (N : Nat)  (x1 : Int32) : Option (Int32 × Int32) := some (((-10 : Int32) - x1), x1)
def fX5_isSheet (N : Nat)  (x0 : Int32) : Option (Int32) := Option.bind (fX5_in N x0.toInt64 (0 : Int64) (3 : Int64)) (fun u2 => okb (isb u2) (some u2))
def fX5_sheet_L56 (N : Nat) (x1 : Int32) (x3 : Int32) : Nat → (Nat → Int32) → Int32 → Option ((Nat → Int32))
  | 0, _, _ => none
  | ct + 1, yI, x4 => if x3 ≤ x4 then (some yI) else (okb (inb (((20 : Int32) * x1) + x4) 80) (fX5_sheet_L56 N x1 x3 ct (upd yI (((20 : Int32) * x1) + x4).toNatClampNeg (0 : Int32)) (x4 + (1 : Int32))))
def fX5_sheet (N : Nat) (xl : Int32) (yF : Nat → Int32) (yZ : Nat → Int32) (yI : Nat → Int32) (x1 : Int32) (x2 : Int32) (x3 : Int32) : Option (Int32 × Int32 × (Nat → Int32) × (Nat → Int32) × (Nat → Int32)) := Option.bind (fX5_isSheet N x1) (fun u9 => if u9 = 0 then (some ((-200 : Int32), xl, yF, yZ, yI)) else (Option.bind (fX5_in N x2.toInt64 (0 : Int64) (2 : Int64)) (fun u11 => if u11 = 0 then (some ((-200 : Int32), xl, yF, yZ, yI)) else (if x3 ≤ (20 : Int32) then (if 0 ≤ x3 then (okb (inb x1 4) (okb (inb x1 4) (Option.bind (fX5_sheet_L56 N x1 x3 N yI (0 : Int32)) (fun u17 => some (x3, xl, (upd yF x1.toNatClampNeg x2), (upd yZ x1.toNatClampNeg x3), u17))))) else (Option.bind (fX5_met N (5 : Int32)) (fun u18 => some (u18.1, u18.2, yF, yZ, yI)))) else (some ((-200 : Int32), xl, yF, yZ, yI))))))
def fX5_lose (N : Nat) (xl : Int32) (yF : Nat → Int32) (yZ : Nat → Int32) (x1 : Int32) : Option (Int32 × Int32 × (Nat → Int32)) := Option.bind (fX5_isSheet N x1) (fun u5 => if u5 = 0 then (some ((-200 : Int32), xl, yF)) else (okb (inb x1 4) (if 0 ≤ (yF x1.toNatClampNeg) then (okb (inb x1 4) (okb (inb x1 4) (some ((yZ x1.toNatClampNeg), xl, (upd yF x1.toNatClampNeg (-1 : Int32)))))) else (Option.bind (fX5_met N (1 : Int32)) (fun u8 => some (u8.1, u8.2, yF))))))
def fX5_lacks (N : Nat) (xl : Int32) (yF : Nat → Int32) (yZ : Nat → Int32) (x1 : Int32) (x2 : Int32) (x3 : Int32) : Option (Int32 × Int32) := okb (inb x1 4) (if 0 ≤ (yF x1.toNatClampNeg) then (okb (inb x1 4) (if (yF x1.toNatClampNeg) = x2 then (okb (inb x1 4) (Option.bind (fX5_in N x3.toInt64 (0 : Int64) ((yZ x1.toNatClampNeg) - (1 : Int32)).toInt64) (fun u10 => if u10 = 0 then (Option.bind (fX5_met N (2 : Int32)) (fun u12 => some (u12.1, u12.2))) else (some ((0 : Int32), xl))))) else (Option.bind (fX5_met N (3 : Int32)) (fun u13 => some (u13.1, u13.2))))) else (Option.bind (fX5_met N (1 : Int32)) (fun u14 => some (u14.1, u14.2))))
def fX5_cut (N : Nat)  (x0 : Int32) (x1 : Int32) : Option (Int32) := if x0 = 0 then (some x1.toInt8.toInt32) else (if x0 = (1 : Int32) then (some x1.toInt16.toInt32) else (some x1))
def fX5_put (N : Nat) (xl : Int32) (yF : Nat → Int32) (yZ : Nat → Int32) (yI : Nat → Int32) (x1 : Int32) (x2 : Int32) (x3 : Int32) (x4 : Int32) : Option (Int32 × Int32 × (Nat → Int32)) := Option.bind (fX5_isSheet N x1) (fun u8 => if u8 = 0 then (some ((-200 : Int32), xl, yI)) else (Option.bind (fX5_in N x2.toInt64 (0 : Int64) (2 : Int64)) (fun u10 => if u10 = 0 then (some ((-200 : Int32), xl, yI)) else (Option.bind (fX5_lacks N xl yF yZ x1 x2 x3) (fun u12 => if u12.1 = 0 then (Option.bind (fX5_cut N x2 x4) (fun u14 => okb (inb (((20 : Int32) * x1) + x3) 80) (some ((1 : Int32), u12.2, (upd yI (((20 : Int32) * x1) + x3).toNatClampNeg u14))))) else (some (u12.1, u12.2, yI)))))))
def fX5_get (N : Nat) (xl : Int32) (yF : Nat → Int32) (yZ : Nat → Int32) (yI : Nat → Int32) (x1 : Int32) (x2 : Int32) (x3 : Int32) : Option (Int32 × Int32) := Option.bind (fX5_isSheet N x1) (fun u7 => if u7 = 0 then (some ((-2147483648 : Int32), xl)) else (Option.bind (fX5_in N x2.toInt64 (0 : Int64) (2 : Int64)) (fun u9 => if u9 = 0 then (some ((-2147483648 : Int32), xl)) else (Option.bind (fX5_lacks N xl yF yZ x1 x2 x3) (fun u11 => if u11.1 = 0 then (okb (inb (((20 : Int32) * x1) + x3) 80) (some ((yI (((20 : Int32) * x1) + x3).toNatClampNeg), u11.2))) else (some ((-2147483648 : Int32), u11.2)))))))
def fX5_copy_L121 (N : Nat) (yI : Nat → Int32) (x1 : Int32) (x2 : Int32) (x5 : Int32) : Nat → (Nat → Int32) → Int32 → Option ((Nat → Int32))
  | 0, _, _ => none
  | ct + 1, yD, x6 => if x5 ≤ x6 then (some yD) else (okb (inb ((((20 : Int32) * x1) + x2) + x6) 80) (okb (inb x6 20) (fX5_copy_L121 N yI x1 x2 x5 ct (upd yD x6.toNatClampNeg (yI ((((20 : Int32) * x1) + x2) + x6).toNatClampNeg)) (x6 + (1 : Int32)))))
def fX5_copy_L158 (N : Nat) (yD : Nat → Int32) (x3 : Int32) (x4 : Int32) (x5 : Int32) : Nat → (Nat → Int32) → Int32 → Option ((Nat → Int32))
  | 0, _, _ => none
  | ct + 1, yI, x6 => if x5 ≤ x6 then (some yI) else (okb (inb x6 20) (okb (inb ((((20 : Int32) * x3) + x4) + x6) 80) (fX5_copy_L158 N yD x3 x4 x5 ct (upd yI ((((20 : Int32) * x3) + x4) + x6).toNatClampNeg (yD x6.toNatClampNeg)) (x6 + (1 : Int32)))))
def fX5_copy (N : Nat) (xl : Int32) (yF : Nat → Int32) (yZ : Nat → Int32) (yI : Nat → Int32) (yD : Nat → Int32) (x1 : Int32) (x2 : Int32) (x3 : Int32) (x4 : Int32) (x5 : Int32) : Option (Int32 × Int32 × (Nat → Int32) × (Nat → Int32)) := Option.bind (fX5_isSheet N x1) (fun u23 => if u23 = 0 then (some ((-200 : Int32), xl, yI, yD)) else (Option.bind (fX5_isSheet N x3) (fun u25 => if u25 = 0 then (some ((-200 : Int32), xl, yI, yD)) else (okb (inb x1 4) (if (yF x1.toNatClampNeg) < 0 then (Option.bind (fX5_met N (1 : Int32)) (fun u28 => some (u28.1, u28.2, yI, yD))) else (okb (inb x3 4) (if 0 ≤ (yF x3.toNatClampNeg) then (okb (inb x1 4) (okb (inb x3 4) (if (yF x1.toNatClampNeg) = (yF x3.toNatClampNeg) then (if x2 < 0 then (Option.bind (fX5_met N (2 : Int32)) (fun u32 => some (u32.1, u32.2, yI, yD))) else (if x4 < 0 then (Option.bind (fX5_met N (2 : Int32)) (fun u34 => some (u34.1, u34.2, yI, yD))) else (if x5 < 0 then (Option.bind (fX5_met N (2 : Int32)) (fun u36 => some (u36.1, u36.2, yI, yD))) else (okb (inb x1 4) (if 0 < (lg_cmp (x2.toInt64 + x5.toInt64) (yZ x1.toNatClampNeg).toInt64) then (Option.bind (fX5_met N (2 : Int32)) (fun u38 => some (u38.1, u38.2, yI, yD))) else (okb (inb x3 4) (if (lg_cmp (x4.toInt64 + x5.toInt64) (yZ x3.toNatClampNeg).toInt64) ≤ 0 then (Option.bind (fX5_copy_L121 N yI x1 x2 x5 N yD (0 : Int32)) (fun u42 => Option.bind (fX5_copy_L158 N u42 x3 x4 x5 N yI (0 : Int32)) (fun u45 => some ((1 : Int32), xl, u45, u42)))) else (Option.bind (fX5_met N (2 : Int32)) (fun u46 => some (u46.1, u46.2, yI, yD)))))))))) else (Option.bind (fX5_met N (4 : Int32)) (fun u47 => some (u47.1, u47.2, yI, yD)))))) else (Option.bind (fX5_met N (1 : Int32)) (fun u48 => some (u48.1, u48.2, yI, yD))))))))))
def fX5_take_L62 (N : Nat) (xw : Int32) (xh : Int32) (xc : Int32) (xv : Int32) (xn : Int32) (xl : Int32) (yT : Nat → Int32) (yM : Nat → Int32) (yV : Nat → Int32) (yI : Nat → Int32) (x1 : Int32) (x2 : Int32) : Nat → Int32 → Int32 → Option ((Int32 × Int32 × Int32 × Int32 × Int32 × (Nat → Int32) × (Nat → Int32)) ⊕ (Unit))
  | 0, _, _ => none
  | ct + 1, x3, x4 => if x2 ≤ x4 then (some (.inr ())) else (okb (inb (((20 : Int32) * x1) + x4) 80) (okb (inb x3 2097152) (if (yT x3.toNatClampNeg) = (127 : Int32) then (if (0 : Int32) = 0 then (some (.inl (((-100 : Int32) - x4), xc, xv, xn, xl, yM, yV))) else (Option.bind (fX5_dropped N xh x3 (yI (((20 : Int32) * x1) + x4).toNatClampNeg) (x4 - x4 / (2 : Int32) * (2 : Int32))) (fun u40 => fX5_take_L62 N xw xh xc xv xn xl yT yM yV yI x1 x2 ct u40 (x4 + (1 : Int32))))) else (okb (inb x3 2097152) (if (yT x3.toNatClampNeg) = (126 : Int32) then (if (0 : Int32) = 0 then (some (.inl (((-100 : Int32) - x4), xc, xv, xn, xl, yM, yV))) else (Option.bind (fX5_dropped N xh x3 (yI (((20 : Int32) * x1) + x4).toNatClampNeg) (x4 - x4 / (2 : Int32) * (2 : Int32))) (fun u43 => fX5_take_L62 N xw xh xc xv xn xl yT yM yV yI x1 x2 ct u43 (x4 + (1 : Int32))))) else (Option.bind (fX5_in N (yI (((20 : Int32) * x1) + x4).toNatClampNeg).toInt64 (0 : Int64) (xw - (1 : Int32)).toInt64) (fun u44 => if u44 = 0 then (if (0 : Int32) = 0 then (some (.inl (((-100 : Int32) - x4), xc, xv, xn, xl, yM, yV))) else (Option.bind (fX5_dropped N xh x3 (yI (((20 : Int32) * x1) + x4).toNatClampNeg) (x4 - x4 / (2 : Int32) * (2 : Int32))) (fun u47 => fX5_take_L62 N xw xh xc xv xn xl yT yM yV yI x1 x2 ct u47 (x4 + (1 : Int32))))) else (Option.bind (fX5_heightOf N xh x3 (yI (((20 : Int32) * x1) + x4).toNatClampNeg)) (fun u48 => if xh ≤ u48 then (if (0 : Int32) = 0 then (some (.inl (((-100 : Int32) - x4), xc, xv, xn, xl, yM, yV))) else (Option.bind (fX5_dropped N xh x3 (yI (((20 : Int32) * x1) + x4).toNatClampNeg) (x4 - x4 / (2 : Int32) * (2 : Int32))) (fun u51 => fX5_take_L62 N xw xh xc xv xn xl yT yM yV yI x1 x2 ct u51 (x4 + (1 : Int32))))) else (if (1 : Int32) = 0 then (some (.inl (((-100 : Int32) - x4), xc, xv, xn, xl, yM, yV))) else (Option.bind (fX5_dropped N xh x3 (yI (((20 : Int32) * x1) + x4).toNatClampNeg) (x4 - x4 / (2 : Int32) * (2 : Int32))) (fun u53 => fX5_take_L62 N xw xh xc xv xn xl yT yM yV yI x1 x2 ct u53 (x4 + (1 : Int32))))))))))))))
def fX5_take_L174 (N : Nat) (yI : Nat → Int32) (x1 : Int32) (x2 : Int32) : Nat → (Nat → Int32) → Int32 → Option ((Nat → Int32))
  | 0, _, _ => none
  | ct + 1, yV, x4 => if x2 ≤ x4 then (some yV) else (okb (inb (((20 : Int32) * x1) + x4) 80) (okb (inb x4 16) (fX5_take_L174 N yI x1 x2 ct (upd yV x4.toNatClampNeg (yI (((20 : Int32) * x1) + x4).toNatClampNeg)) (x4 + (1 : Int32)))))
def fX5_take (N : Nat) (xw : Int32) (xh : Int32) (xr : Int32) (xc : Int32) (xv : Int32) (xn : Int32) (xl : Int32) (yR : Nat → Int32) (yT : Nat → Int32) (yM : Nat → Int32) (yV : Nat → Int32) (yF : Nat → Int32) (yZ : Nat → Int32) (yI : Nat → Int32) (x1 : Int32) (x2 : Int32) : Option (Int32 × Int32 × Int32 × Int32 × Int32 × (Nat → Int32) × (Nat → Int32)) := Option.bind (fX5_isSheet N x1) (fun u30 => if u30 = 0 then (some ((-200 : Int32), xc, xv, xn, xl, yM, yV)) else (Option.bind (fX5_in N x2.toInt64 (0 : Int64) (16 : Int64)) (fun u32 => if u32 = 0 then (some ((-200 : Int32), xc, xv, xn, xl, yM, yV)) else (okb (inb x1 4) (if 0 ≤ (yF x1.toNatClampNeg) then (okb (inb x1 4) (if x2 ≤ (yZ x1.toNatClampNeg) then (Option.bind (fX5_keyOfNone N xw xh) (fun u36 => Option.bind (fX5_take_L62 N xw xh xc xv xn xl yT yM yV yI x1 x2 N u36 (0 : Int32)) (fun u71 => onS u71 (fun r73 => some r73) (fun e72 => Option.bind (fX5_take_L174 N yI x1 x2 N yV (0 : Int32)) (fun u76 => Option.bind (fX5_place N xw xh x2 u76) (fun u77 => Option.bind (fX5_game N xw xh xr xc x2 u77 yR yT yM (2 : Int32)) (fun u78 => some (u78.1, u78.2.1, x2, u77, xl, u78.2.2, u76)))))))) else (Option.bind (fX5_met N (2 : Int32)) (fun u79 => some (u79.1, xc, xv, xn, u79.2, yM, yV))))) else (Option.bind (fX5_met N (1 : Int32)) (fun u80 => some (u80.1, xc, xv, xn, u80.2, yM, yV))))))))
def fX5_write_L47 (N : Nat) (xv : Int32) (yV : Nat → Int32) (x1 : Int32) : Nat → (Nat → Int32) → Int32 → Option ((Nat → Int32))
  | 0, _, _ => none
  | ct + 1, yI, x2 => if xv ≤ x2 then (some yI) else (okb (inb x2 16) (okb (inb (((20 : Int32) * x1) + x2) 80) (fX5_write_L47 N xv yV x1 ct (upd yI (((20 : Int32) * x1) + x2).toNatClampNeg (yV x2.toNatClampNeg)) (x2 + (1 : Int32)))))
def fX5_write (N : Nat) (xv : Int32) (xl : Int32) (yV : Nat → Int32) (yF : Nat → Int32) (yZ : Nat → Int32) (yI : Nat → Int32) (x1 : Int32) : Option (Int32 × Int32 × (Nat → Int32)) := Option.bind (fX5_isSheet N x1) (fun u8 => if u8 = 0 then (some ((-200 : Int32), xl, yI)) else (okb (inb x1 4) (if 0 ≤ (yF x1.toNatClampNeg) then (okb (inb x1 4) (if xv ≤ (yZ x1.toNatClampNeg) then (Option.bind (fX5_write_L47 N xv yV x1 N yI (0 : Int32)) (fun u14 => some (xv, xl, u14))) else (Option.bind (fX5_met N (2 : Int32)) (fun u15 => some (u15.1, u15.2, yI))))) else (Option.bind (fX5_met N (1 : Int32)) (fun u16 => some (u16.1, u16.2, yI))))))
def fX5_count (N : Nat) (xw : Int32) (xh : Int32) (xk : Int32) (xj : Int32) (xr : Int32) (xl : Int32) (x1 : Int32) : Option (Int32) := if x1 = (0 : Int32) then (some xw) else (if x1 = (1 : Int32) then (some xh) else (if x1 = (2 : Int32) then (some xk) else (if x1 = (3 : Int32) then (if xj = 0 then (some (0 : Int32)) else (some (1 : Int32))) else (if x1 = (4 : Int32) then (some xr) else (if x1 = (5 : Int32) then (some (xw * xh)) else (if x1 = (6 : Int32) then (some xl) else (some (-200 : Int32))))))))
def fX5_digest_L6 (N : Nat) (xw : Int32) (xh : Int32) (xk : Int32) (xj : Int32) (xr : Int32) (xl : Int32) : Nat → Int64 → Int32 → Option (Int64)
  | 0, _, _ => none
  | ct + 1, x1, x3 => if (6 : Int32) ≤ x3 then (some x1) else (Option.bind (fX5_count N xw xh xk xj xr xl x3) (fun u9 => fX5_digest_L6 N xw xh xk xj xr xl ct (((31 : Int64) * x1) + u9.toInt64) (x3 + (1 : Int32))))
def fX5_digest_L33 (N : Nat) (xw : Int32) (xh : Int32) (xr : Int32) (xv : Int32) (xn : Int32) (yR : Nat → Int32) (yT : Nat → Int32) : Nat → Int32 → (Nat → Int32) → Int64 → Int32 → Option (Int32 × (Nat → Int32) × Int64)
  | 0, _, _, _, _ => none
  | ct + 1, xc, yM, x1, x3 => if (5 : Int32) ≤ x3 then (some (xc, yM, x1)) else (Option.bind (fX5_game N xw xh xr xc xv xn yR yT yM x3) (fun u14 => fX5_digest_L33 N xw xh xr xv xn yR yT ct u14.2.1 u14.2.2 (((31 : Int64) * x1) + u14.1.toInt64) (x3 + (1 : Int32))))
def fX5_digest_L59 (N : Nat) (xv : Int32) (yV : Nat → Int32) : Nat → Int64 → Int32 → Option (Int64)
  | 0, _, _ => none
  | ct + 1, x1, x3 => if xv ≤ x3 then (some x1) else (okb (inb x3 16) (fX5_digest_L59 N xv yV ct (((31 : Int64) * x1) + (yV x3.toNatClampNeg).toInt64) (x3 + (1 : Int32))))
def fX5_digest_L89 (N : Nat) (xw : Int32) (xh : Int32) (xn : Int32) : Nat → Int32 → (Nat → Int32) → Int64 → Int32 → Option (Int32 × (Nat → Int32) × Int64)
  | 0, _, _, _, _ => none
  | ct + 1, xc, yM, x1, x3 => if (xw * xh) ≤ x3 then (some (xc, yM, x1)) else (Option.bind (fX5_at N xw xh xc xn yM x3) (fun u22 => fX5_digest_L89 N xw xh xn ct u22.2.1 u22.2.2 (((31 : Int64) * x1) + u22.1.toInt64) (x3 + (1 : Int32))))
def fX5_digest (N : Nat) (xw : Int32) (xh : Int32) (xk : Int32) (xj : Int32) (xr : Int32) (xc : Int32) (xv : Int32) (xn : Int32) (xl : Int32) (yR : Nat → Int32) (yT : Nat → Int32) (yM : Nat → Int32) (yV : Nat → Int32)  : Option (Int64 × Int32 × (Nat → Int32)) := Option.bind (fX5_digest_L6 N xw xh xk xj xr xl N (17 : Int64) (0 : Int32)) (fun u12 => Option.bind (fX5_digest_L33 N xw xh xr xv xn yR yT N xc yM u12 (0 : Int32)) (fun u17 => Option.bind (fX5_digest_L59 N xv yV N u17.2.2 (0 : Int32)) (fun u20 => Option.bind (fX5_digest_L89 N xw xh xn N u17.1 u17.2.1 u20 (0 : Int32)) (fun u25 => some (u25.2.2, u25.1, u25.2.1)))))
end
section
/-! plain facts on numbers and arrays, to paste: each family by itself; over the kit's rows on nI and upd -/
/-! ===== order of ints, in all its forms, and through longs ===== -/
theorem fa_lt (a b : Int32) : a < b ↔ a.toInt < b.toInt := Int32.lt_iff_toInt_lt
theorem fa_le (a b : Int32) : a ≤ b ↔ a.toInt ≤ b.toInt := Int32.le_iff_toInt_le
theorem fa_eq (a b : Int32) : a = b ↔ a.toInt = b.toInt := Int32.toInt_inj.symm
theorem fa_lt64 (a b : Int64) : a < b ↔ a.toInt < b.toInt := Int64.lt_iff_toInt_lt
theorem fa_le64 (a b : Int64) : a ≤ b ↔ a.toInt ≤ b.toInt := Int64.le_iff_toInt_le
theorem fa_eq64 (a b : Int64) : a = b ↔ a.toInt = b.toInt := Int64.toInt_inj.symm
/-- a comparison of two ints taken as longs -/
theorem fa_wide_lt (a b : Int32) : a.toInt64 < b.toInt64 ↔ a < b := by rw [fa_lt64, fa_lt, Int32.toInt_toInt64, Int32.toInt_toInt64]
theorem fa_wide_le (a b : Int32) : a.toInt64 ≤ b.toInt64 ↔ a ≤ b := by rw [fa_le64, fa_le, Int32.toInt_toInt64, Int32.toInt_toInt64]
theorem fa_wide_eq (a b : Int32) : a.toInt64 = b.toInt64 ↔ a = b := by rw [fa_eq64, fa_eq, Int32.toInt_toInt64, Int32.toInt_toInt64]
/-- one strict comparison gives all the others -/
theorem fa_of_lt {a b : Int32} (h : a < b) : a ≤ b ∧ ¬ b ≤ a ∧ ¬ b < a ∧ a ≠ b ∧ b ≠ a := by
  rw [fa_lt] at h
  refine ⟨?_, ?_, ?_, ?_, ?_⟩
  · rw [fa_le]; omega
  · rw [fa_le]; omega
  · rw [fa_lt]; omega
  · intro e; rw [fa_eq] at e; omega
  · intro e; rw [fa_eq] at e; omega
theorem fa_of_nlt {a b : Int32} (h : ¬ a < b) : b ≤ a := by
  rw [fa_lt] at h
  rw [fa_le]
  omega
theorem fa_of_nle {a b : Int32} (h : ¬ a ≤ b) : b < a := by
  rw [fa_le] at h
  rw [fa_lt]
  omega
theorem fa_le_ne {a b : Int32} (h : a ≤ b) (h2 : a ≠ b) : a < b := by
  rw [fa_le] at h
  rw [fa_lt]
  have h3 : a.toInt ≠ b.toInt := fun e => h2 ((fa_eq a b).mpr e)
  omega
theorem fa_three (a b : Int32) : a < b ∨ a = b ∨ b < a := by
  rw [fa_lt, fa_lt, fa_eq]
  omega
theorem fa_trans {a b c : Int32} (h : a < b) (h2 : b ≤ c) : a < c := by
  rw [fa_lt] at *
  rw [fa_le] at h2
  omega
/-! ===== small literals as numbers ===== -/
theorem fa_lit (n : Nat) : (OfNat.ofNat n : Int32) = nI n := rfl
theorem fa_litL (n : Nat) : (OfNat.ofNat n : Int64) = lN n := rfl
/-! ===== bits of a number: 'or', masks, one bit ===== -/
theorem fa_and (a b : Nat) : nI a &&& nI b = nI (a &&& b) := by
  apply Int32.toBitVec_inj.1
  show BitVec.ofNat 32 a &&& BitVec.ofNat 32 b = BitVec.ofNat 32 (a &&& b)
  apply BitVec.eq_of_getLsbD_eq
  intro i hi
  simp [hi]
theorem fa_or (a b : Nat) : nI a ||| nI b = nI (a ||| b) := by
  apply Int32.toBitVec_inj.1
  show BitVec.ofNat 32 a ||| BitVec.ofNat 32 b = BitVec.ofNat 32 (a ||| b)
  apply BitVec.eq_of_getLsbD_eq
  intro i hi
  simp [hi]
/-- a remainder by a power of two, as a mask -/
theorem fa_mask (n k : Nat) : nI n &&& nI (2 ^ k - 1) = nI (n % 2 ^ k) := by rw [fa_and, Nat.and_two_pow_sub_one_eq_mod]
/-- 'or' of a high part and a low one that don't meet is their sum -/
theorem fa_or_sum {a k : Nat} (b : Nat) (h : a < 2 ^ k) : nI (2 ^ k * b) ||| nI a = nI (2 ^ k * b + a) := by rw [fa_or, Nat.two_pow_add_eq_or_of_lt h]
/-- one bit, by 'and' with a power of two -/
theorem fa_bit {n j : Nat} (hj : j < 31) : nI n &&& nI (2 ^ j) = 0 ↔ n.testBit j = false := by
  have h2 : (2 : Nat) ^ j < 2 ^ 31 := Nat.pow_lt_pow_right (by decide) hj
  have hle : n &&& 2 ^ j ≤ 2 ^ j := Nat.and_le_right
  have e : n &&& 2 ^ j = 0 ↔ n.testBit j = false := by
    constructor
    · intro h
      have h1 : (n &&& 2 ^ j).testBit j = false := by rw [h]; simp
      rw [Nat.testBit_and] at h1
      first | simpa using h1 | simpa [Nat.testBit_two_pow_self] using h1 | simpa [Nat.testBit_two_pow] using h1
    · intro h
      apply Nat.eq_of_testBit_eq
      intro i
      rw [Nat.testBit_and]
      by_cases hi : j = i
      · subst hi; simp [h]
      · first | (simp [Nat.testBit_two_pow, hi]; done) | (simp [Nat.testBit_two_pow_of_ne hi]; done)
  rw [fa_and]
  constructor
  · intro h
    apply e.mp
    rcases Nat.eq_zero_or_pos (n &&& 2 ^ j) with z | z
    · exact z
    · exact absurd h (nI_ne0 z (Nat.lt_of_le_of_lt hle h2))
  · intro h
    rw [e.mpr h]; exact nI_0
/-- a remainder by a power of two of a number that isn't negative, as Java divides -/
theorem fa_rem {a k : Nat} (ha : a < 2 ^ 31) (hk : k < 31) : nI a - nI a / nI (2 ^ k) * nI (2 ^ k) = nI (a % 2 ^ k) := pk_rem ha (Nat.two_pow_pos k) (Nat.pow_lt_pow_right (by decide) hk)
/-! ===== cuts to a byte, a short ===== -/
theorem fa_byte_xor (x y : Int32) : (x ^^^ y).toInt8 = x.toInt8 ^^^ y.toInt8 := by
  apply Int8.toBitVec_inj.1
  apply BitVec.eq_of_getLsbD_eq
  intro i hi
  first | (simp [hi]; done) | (simp [hi, BitVec.getLsbD_setWidth, BitVec.getLsbD_signExtend]; done)
theorem fa_short_xor (x y : Int32) : (x ^^^ y).toInt16 = x.toInt16 ^^^ y.toInt16 := by
  apply Int16.toBitVec_inj.1
  apply BitVec.eq_of_getLsbD_eq
  intro i hi
  first | (simp [hi]; done) | (simp [hi, BitVec.getLsbD_setWidth, BitVec.getLsbD_signExtend]; done)
/-- the cut to a byte sees the low byte alone -/
theorem fa_byte_low (x : Int32) : (x &&& 255).toInt8 = x.toInt8 := by
  apply Int8.toBitVec_inj.1
  apply BitVec.eq_of_getLsbD_eq
  intro i hi
  have h2 : (255 : Int32).toBitVec.getLsbD i = true := by
    have : ∀ j : Fin 8, (255 : Int32).toBitVec.getLsbD j.val = true := by decide +kernel
    exact this ⟨i, hi⟩
  have h4 : (x &&& 255).toBitVec.getLsbD i = x.toBitVec.getLsbD i := by
    show (x.toBitVec &&& (255 : Int32).toBitVec).getLsbD i = _
    rw [BitVec.getLsbD_and, h2, Bool.and_true]
  have h3 : i < 32 := by omega
  first
    | (show (((x &&& 255).toBitVec).signExtend 8).getLsbD i = (x.toBitVec.signExtend 8).getLsbD i; rw [BitVec.getLsbD_signExtend, BitVec.getLsbD_signExtend, if_pos h3, if_pos h3, h4])
    | (show (((x &&& 255).toBitVec).setWidth 8).getLsbD i = (x.toBitVec.setWidth 8).getLsbD i; rw [BitVec.getLsbD_setWidth, BitVec.getLsbD_setWidth, h4])
    | (simp [hi, h3, h4]; done)
theorem fa_short_low (x : Int32) : (x &&& 65535).toInt16 = x.toInt16 := by
  apply Int16.toBitVec_inj.1
  apply BitVec.eq_of_getLsbD_eq
  intro i hi
  have h2 : (65535 : Int32).toBitVec.getLsbD i = true := by
    have : ∀ j : Fin 16, (65535 : Int32).toBitVec.getLsbD j.val = true := by decide +kernel
    exact this ⟨i, hi⟩
  have h4 : (x &&& 65535).toBitVec.getLsbD i = x.toBitVec.getLsbD i := by
    show (x.toBitVec &&& (65535 : Int32).toBitVec).getLsbD i = _
    rw [BitVec.getLsbD_and, h2, Bool.and_true]
  have h3 : i < 32 := by omega
  first
    | (show (((x &&& 65535).toBitVec).signExtend 16).getLsbD i = (x.toBitVec.signExtend 16).getLsbD i; rw [BitVec.getLsbD_signExtend, BitVec.getLsbD_signExtend, if_pos h3, if_pos h3, h4])
    | (show (((x &&& 65535).toBitVec).setWidth 16).getLsbD i = (x.toBitVec.setWidth 16).getLsbD i; rw [BitVec.getLsbD_setWidth, BitVec.getLsbD_setWidth, h4])
    | (simp [hi, h3, h4]; done)
/-- a small number is its own byte, its own short -/
theorem fa_byte_small {n : Nat} (h : n < 128) : (nI n).toInt8.toInt32 = nI n := by
  have : ∀ j : Fin 128, (nI j.val).toInt8.toInt32 = nI j.val := by decide +kernel
  exact this ⟨n, h⟩
/-! ===== absolute difference ===== -/
theorem fa_absdiff {a b : Nat} (ha : a < 2 ^ 31) (hb : b < 2 ^ 31) : (if nI a < nI b then nI b - nI a else nI a - nI b) = nI (if a < b then b - a else a - b) := by
  by_cases h : a < b
  · rw [if_pos (nI_lt h hb), if_pos h]
    exact pk_sub (Nat.le_of_lt h)
  · rw [if_neg (nI_nlt (Nat.le_of_not_lt h) ha), if_neg h]
    exact pk_sub (Nat.le_of_not_lt h)
/-! ===== an array behind i stores, a conditional store, a row copied ===== -/
/-- f where k < i, what stood there else -/
def fa_fill {α : Type} (f g : Nat → α) (i : Nat) : Nat → α := fun k => if k < i then f k else g k
theorem fa_fill_0 {α : Type} (f g : Nat → α) : fa_fill f g 0 = g := funext fun k => if_neg (Nat.not_lt_zero k)
theorem fa_fill_in {α : Type} {f g : Nat → α} {i k : Nat} (h : k < i) : fa_fill f g i k = f k := if_pos h
theorem fa_fill_out {α : Type} {f g : Nat → α} {i k : Nat} (h : i ≤ k) : fa_fill f g i k = g k := if_neg (Nat.not_lt.mpr h)
theorem fa_fill_succ (f g : Nat → Int32) (i : Nat) : upd (fa_fill f g i) i (f i) = fa_fill f g (i + 1) := by
  funext k
  by_cases e : k = i
  · subst e
    rw [pk_us]
    exact (if_pos (Nat.lt_succ_self k)).symm
  · rw [pk_un e]
    by_cases h : k < i
    · rw [fa_fill_in h, fa_fill_in (Nat.lt_succ_of_lt h)]
    · rw [fa_fill_out (Nat.le_of_not_lt h), fa_fill_out (by omega)]
/-- a store that changes nothing -/
theorem fa_upd_same {f : Nat → Int32} {i : Nat} {x : Int32} (h : f i = x) : upd f i x = f := by
  funext k
  by_cases e : k = i
  · subst e
    rw [pk_us, h]
  · rw [pk_un e]
/-- a store under a condition, told as one -/
theorem fa_upd_if (c : Prop) [Decidable c] (f : Nat → Int32) (i : Nat) (x : Int32) : (if c then upd f i x else f) = upd f i (if c then x else f i) := by
  by_cases h : c
  · rw [if_pos h, if_pos h]
  · rw [if_neg h, if_neg h, fa_upd_same rfl]
/-- two stores at one place, at two -/
theorem fa_upd_twice (f : Nat → Int32) (i : Nat) (x y : Int32) : upd (upd f i x) i y = upd f i y := by
  funext k
  by_cases e : k = i
  · subst e
    rw [pk_us, pk_us]
  · rw [pk_un e, pk_un e, pk_un e]
theorem fa_upd_swap (f : Nat → Int32) {i j : Nat} (h : i ≠ j) (x y : Int32) : upd (upd f i x) j y = upd (upd f j y) i x := by
  funext k
  by_cases e : k = i
  · subst e
    rw [pk_un h, pk_us, pk_us]
  · by_cases e2 : k = j
    · subst e2
      rw [pk_us, pk_un e, pk_us]
    · rw [pk_un e2, pk_un e, pk_un e, pk_un e2]
/-! ===== the first index with a property; a count ===== -/
/-- the first k < n with p k, n if there is none -/
def fa_first (p : Nat → Bool) : Nat → Nat
  | 0 => 0
  | n + 1 => if fa_first p n < n then fa_first p n else if p n then n else n + 1
theorem fa_first_le (p : Nat → Bool) : ∀ n, fa_first p n ≤ n
  | 0 => Nat.le_refl 0
  | n + 1 => by
    have ih := fa_first_le p n
    unfold fa_first
    split
    · omega
    · split
      · omega
      · omega
theorem fa_first_no (p : Nat → Bool) : ∀ n k, k < fa_first p n → p k = false
  | 0, k, h => absurd h (Nat.not_lt_zero k)
  | n + 1, k, h => by
    have ih := fa_first_no p n
    have hl := fa_first_le p n
    unfold fa_first at h
    split at h
    · exact ih k h
    · rename_i h1
      split at h
      · exact ih k (by omega)
      · rename_i h2
        by_cases e : k = n
        · subst e
          exact Bool.eq_false_iff.mpr h2
        · exact ih k (by omega)
theorem fa_first_yes (p : Nat → Bool) : ∀ n, fa_first p n < n → p (fa_first p n) = true
  | 0, h => absurd h (Nat.not_lt_zero _)
  | n + 1, h => by
    have ih := fa_first_yes p n
    have hl := fa_first_le p n
    unfold fa_first at h ⊢
    split at h
    · rename_i h1
      rw [if_pos h1]
      exact ih h1
    · rename_i h1
      rw [if_neg h1]
      split at h
      · rename_i h2
        rw [if_pos h2]
        exact h2
      · omega
/-- how many k < n have p k -/
def fa_cnt (p : Nat → Bool) : Nat → Nat
  | 0 => 0
  | n + 1 => fa_cnt p n + if p n then 1 else 0
theorem fa_cnt_le (p : Nat → Bool) : ∀ n, fa_cnt p n ≤ n
  | 0 => Nat.le_refl 0
  | n + 1 => by
    have ih := fa_cnt_le p n
    unfold fa_cnt
    split
    · omega
    · omega
theorem fa_cnt_yes {p : Nat → Bool} {n : Nat} (h : p n = true) : fa_cnt p (n + 1) = fa_cnt p n + 1 := by rw [fa_cnt, if_pos h]
theorem fa_cnt_no {p : Nat → Bool} {n : Nat} (h : p n = false) : fa_cnt p (n + 1) = fa_cnt p n := by rw [fa_cnt, if_neg (by rw [h]; decide)]; rfl
theorem fa_cnt_cong {p q : Nat → Bool} : ∀ {n : Nat}, (∀ k, k < n → p k = q k) → fa_cnt p n = fa_cnt q n
  | 0, _ => rfl
  | n + 1, h => by rw [fa_cnt, fa_cnt, fa_cnt_cong (fun k hk => h k (Nat.lt_succ_of_lt hk)), h n (Nat.lt_succ_self n)]
/-! ===== an answer carried into a post; a branch on a boolean answer ===== -/
theorem fa_post {α : Type} {P : α → Prop} {x y : α} (h : x = y) (hp : P y) : P x := h ▸ hp
theorem fa_post2 {α β : Type} {P : α → β → Prop} {x y : α} {u v : β} (h : x = y) (h2 : u = v) (hp : P y v) : P x u := h ▸ h2 ▸ hp
theorem fa_bool {r : Int32} {b : Bool} (h : r = if b then 1 else 0) : (r = 0 ↔ b = false) ∧ (¬ r = 0 ↔ b = true) := by
  subst h
  cases b
  · exact ⟨⟨fun _ => rfl, fun _ => rfl⟩, ⟨fun h => absurd rfl h, fun h => absurd h (by decide)⟩⟩
  · exact ⟨⟨fun h => absurd h (by decide), fun h => absurd h (by decide)⟩, ⟨fun _ => rfl, fun _ => by decide⟩⟩
/-- a boolean's narrowing changes nothing -/
theorem fa_bool_and {r : Int32} (h : r = 0 ∨ r = 1) : r &&& 1 = r := by
  rcases h with rfl | rfl
  · decide
  · decide
theorem fa_bool_prop {c : Prop} [Decidable c] {r : Int32} (h : r = if c then 1 else 0) : (r = 0 ↔ ¬ c) ∧ (¬ r = 0 ↔ c) := by
  subst h
  by_cases hc : c
  · rw [if_pos hc]
    exact ⟨⟨fun h => absurd h (by decide), fun h => absurd hc h⟩, ⟨fun _ => hc, fun _ => by decide⟩⟩
  · rw [if_neg hc]
    exact ⟨⟨fun _ => hc, fun _ => rfl⟩, ⟨fun h => absurd rfl h, fun h => absurd h hc⟩⟩
/-! plain facts to paste, each family by itself; over the kit's nI, lN and upd -/
/-! ===== drawers: more things than places ===== -/
theorem fb_holes : ∀ (m n : Nat) (f : Nat → Nat), (∀ i, i < n → f i < m) → (∀ i j, i < j → j < n → f i ≠ f j) → n ≤ m := by
  intro m
  induction m with
  | zero =>
    intro n f h1 _
    rcases Nat.eq_zero_or_pos n with h | h
    · omega
    · exact absurd (h1 0 h) (Nat.not_lt_zero _)
  | succ m ih =>
    intro n f h1 h2
    by_cases hx : ∃ i, i < n ∧ f i = m
    · obtain ⟨a, ha, hfa⟩ := hx
      have hg := ih (n - 1) (fun i => if i < a then f i else f (i + 1)) (by
        intro i hi
        by_cases q : i < a
        · simp only [if_pos q]
          have b1 := h1 i (by omega)
          have b2 := h2 i a q ha
          omega
        · simp only [if_neg q]
          have b1 := h1 (i + 1) (by omega)
          have b2 := h2 a (i + 1) (by omega) (by omega)
          omega) (by
        intro i j hij hj
        by_cases q : i < a
        · by_cases r : j < a
          · simp only [if_pos q, if_pos r]
            exact h2 i j hij (by omega)
          · simp only [if_pos q, if_neg r]
            exact h2 i (j + 1) (by omega) (by omega)
        · have r : ¬ j < a := by omega
          simp only [if_neg q, if_neg r]
          exact h2 (i + 1) (j + 1) (by omega) (by omega))
      omega
    · have hg := ih n f (fun i hi => by
        have b1 := h1 i hi
        have b2 : f i ≠ m := fun e => hx ⟨i, hi, e⟩
        omega) h2
      omega
/-- two of them in one place -/
theorem fb_twice {m n : Nat} {f : Nat → Nat} (h : ∀ i, i < n → f i < m) (hm : m < n) : ∃ i j, i < j ∧ j < n ∧ f i = f j := by
  refine Classical.byContradiction fun hx => ?_
  have := fb_holes m n f h (fun i j hij hj e => hx ⟨i, j, hij, hj, e⟩)
  omega
/-- as many as places, none twice: each place is taken -/
theorem fb_onto {n : Nat} {f : Nat → Nat} (h : ∀ i, i < n → f i < n) (h2 : ∀ i j, i < j → j < n → f i ≠ f j) {y : Nat} (hy : y < n) : ∃ i, i < n ∧ f i = y := by
  refine Classical.byContradiction fun hx => ?_
  have hne : ∀ i, i < n → f i ≠ y := fun i hi e => hx ⟨i, hi, e⟩
  have := fb_holes (n - 1) n (fun i => if f i < y then f i else f i - 1) (by
    intro i hi
    have b1 := h i hi
    have b2 := hne i hi
    by_cases q : f i < y
    · simp only [if_pos q]; omega
    · simp only [if_neg q]; omega) (by
    intro i j hij hj
    have b1 := hne i (by omega)
    have b2 := hne j hj
    have b3 := h2 i j hij hj
    by_cases q : f i < y
    · by_cases r : f j < y
      · simp only [if_pos q, if_pos r]; exact b3
      · simp only [if_pos q, if_neg r]; omega
    · by_cases r : f j < y
      · simp only [if_neg q, if_pos r]; omega
      · simp only [if_neg q, if_neg r]; omega)
  omega
/-! ===== how many places have a property ===== -/
def fb_ct (p : Nat → Bool) : Nat → Nat
  | 0 => 0
  | n + 1 => fb_ct p n + (if p n then 1 else 0)
theorem fb_ct_succ (p : Nat → Bool) (n : Nat) : fb_ct p (n + 1) = fb_ct p n + (if p n then 1 else 0) := rfl
theorem fb_ct_le (p : Nat → Bool) : ∀ n, fb_ct p n ≤ n
  | 0 => Nat.le_refl _
  | n + 1 => by
    have h := fb_ct_le p n
    rw [fb_ct_succ]
    split <;> omega
theorem fb_ct_step (p : Nat → Bool) (m : Nat) : ∀ n, fb_ct p m ≤ fb_ct p (m + n)
  | 0 => Nat.le_refl _
  | n + 1 => by
    have h := fb_ct_step p m n
    show fb_ct p m ≤ fb_ct p (m + n + 1)
    rw [fb_ct_succ]
    omega
theorem fb_ct_mono (p : Nat → Bool) {m n : Nat} (h : m ≤ n) : fb_ct p m ≤ fb_ct p n := by
  have := fb_ct_step p m (n - m)
  rwa [Nat.add_sub_cancel' h] at this
theorem fb_ct_cong {p q : Nat → Bool} : ∀ {n : Nat}, (∀ k, k < n → p k = q k) → fb_ct p n = fb_ct q n
  | 0, _ => rfl
  | n + 1, h => by
    rw [fb_ct_succ, fb_ct_succ, fb_ct_cong (fun k hk => h k (by omega)), h n (by omega)]
/-- one place changed -/
theorem fb_ct_out (p : Nat → Bool) (b : Bool) {i n : Nat} (h : n ≤ i) : fb_ct (fun k => if k = i then b else p k) n = fb_ct p n :=
  fb_ct_cong fun k hk => if_neg (by omega)
theorem fb_ct_upd (p : Nat → Bool) (b : Bool) {i : Nat} : ∀ {n : Nat}, i < n → fb_ct (fun k => if k = i then b else p k) n + (if p i then 1 else 0) = fb_ct p n + (if b then 1 else 0)
  | 0, h => absurd h (Nat.not_lt_zero i)
  | n + 1, h => by
    rw [fb_ct_succ, fb_ct_succ]
    rcases Nat.lt_or_ge i n with q | q
    · have := fb_ct_upd p b q
      have e : (if n = i then b else p n) = p n := if_neg (by omega)
      rw [e]
      omega
    · have e : i = n := by omega
      subst e
      rw [fb_ct_out p b (Nat.le_refl _)]
      simp only [if_true]
      omega
theorem fb_ct_sub {p q : Nat → Bool} : ∀ {n : Nat}, (∀ k, k < n → p k = true → q k = true) → fb_ct p n ≤ fb_ct q n
  | 0, _ => Nat.le_refl _
  | n + 1, h => by
    have h1 := fb_ct_sub (n := n) (p := p) (q := q) (fun k hk => h k (by omega))
    have h2 := h n (by omega)
    rw [fb_ct_succ, fb_ct_succ]
    cases hp : p n <;> cases hq : q n <;> simp_all <;> omega
theorem fb_ct_or {p q : Nat → Bool} : ∀ {n : Nat}, (∀ k, k < n → ¬ (p k = true ∧ q k = true)) → fb_ct (fun k => p k || q k) n = fb_ct p n + fb_ct q n
  | 0, _ => rfl
  | n + 1, h => by
    have h1 := fb_ct_or (n := n) (p := p) (q := q) (fun k hk => h k (by omega))
    have h2 := h n (by omega)
    rw [fb_ct_succ, fb_ct_succ, fb_ct_succ, h1]
    cases hp : p n <;> cases hq : q n <;> simp_all <;> omega
theorem fb_ct_not (p : Nat → Bool) : ∀ n, fb_ct p n + fb_ct (fun k => !p k) n = n
  | 0 => rfl
  | n + 1 => by
    have h := fb_ct_not p n
    rw [fb_ct_succ, fb_ct_succ]
    cases p n <;> simp <;> omega
theorem fb_ct_split (p : Nat → Bool) (m : Nat) : ∀ n, fb_ct p (m + n) = fb_ct p m + fb_ct (fun k => p (m + k)) n
  | 0 => rfl
  | n + 1 => by
    have h := fb_ct_split p m n
    show fb_ct p (m + n + 1) = _
    rw [fb_ct_succ, fb_ct_succ, h, Nat.add_assoc]
theorem fb_ct_zero {p : Nat → Bool} : ∀ {n : Nat}, fb_ct p n = 0 ↔ ∀ k, k < n → p k = false
  | 0 => ⟨fun _ k hk => absurd hk (Nat.not_lt_zero k), fun _ => rfl⟩
  | n + 1 => by
    have h := fb_ct_zero (p := p) (n := n)
    rw [fb_ct_succ]
    constructor
    · intro e k hk
      have e1 : fb_ct p n = 0 := by omega
      rcases Nat.lt_or_ge k n with q | q
      · exact h.mp e1 k q
      · have ek : k = n := by omega
        subst ek
        cases hp : p k
        · rfl
        · simp [hp] at e
    · intro a
      rw [h.mpr (fun k hk => a k (by omega)), a n (by omega)]
      rfl
theorem fb_ct_pos {p : Nat → Bool} {n : Nat} : 0 < fb_ct p n ↔ ∃ k, k < n ∧ p k = true := by
  constructor
  · intro h
    refine Classical.byContradiction fun hx => ?_
    have := fb_ct_zero.mpr (fun k hk => by
      cases hp : p k
      · rfl
      · exact absurd ⟨k, hk, hp⟩ hx : ∀ k, k < n → p k = false)
    omega
  · rintro ⟨k, hk, hp⟩
    rcases Nat.eq_zero_or_pos (fb_ct p n) with e | e
    · have := fb_ct_zero.mp e k hk
      rw [this] at hp
      cases hp
    · exact e
theorem fb_ct_all {p : Nat → Bool} {n : Nat} : fb_ct p n = n ↔ ∀ k, k < n → p k = true := by
  have h := fb_ct_not p n
  constructor
  · intro e k hk
    have z : fb_ct (fun k => !p k) n = 0 := by omega
    have := fb_ct_zero.mp z k hk
    cases hp : p k
    · simp [hp] at this
    · rfl
  · intro a
    have z : fb_ct (fun k => !p k) n = 0 := fb_ct_zero.mpr (fun k hk => by simp [a k hk])
    omega
/-- the k-th place with the property -/
theorem fb_ct_kth {p : Nat → Bool} {k : Nat} : ∀ {n : Nat}, k < fb_ct p n → ∃ i, i < n ∧ p i = true ∧ fb_ct p i = k
  | 0, h => absurd h (Nat.not_lt_zero k)
  | n + 1, h => by
    rcases Nat.lt_or_ge k (fb_ct p n) with q | q
    · obtain ⟨i, h1, h2⟩ := fb_ct_kth q
      exact ⟨i, by omega, h2⟩
    · rw [fb_ct_succ] at h
      cases hp : p n
      · simp [hp] at h; omega
      · simp [hp] at h
        exact ⟨n, by omega, hp, by omega⟩
theorem fb_ct_kth_one {p : Nat → Bool} {i j : Nat} (hi : p i = true) (hj : p j = true) (e : fb_ct p i = fb_ct p j) : i = j := by
  have key : ∀ a b : Nat, a < b → p a = true → fb_ct p a < fb_ct p b := by
    intro a b hab ha
    have h := fb_ct_mono p (show a + 1 ≤ b from hab)
    rw [fb_ct_succ, ha] at h
    simp at h
    omega
  rcases Nat.lt_trichotomy i j with q | q | q
  · have := key i j q hi; omega
  · exact q
  · have := key j i q hj; omega
/-! ===== sums over a range: one place changed, parts, bounds ===== -/
def fb_sm (f : Nat → Nat) : Nat → Nat
  | 0 => 0
  | n + 1 => fb_sm f n + f n
theorem fb_sm_succ (f : Nat → Nat) (n : Nat) : fb_sm f (n + 1) = fb_sm f n + f n := rfl
theorem fb_sm_cong {f g : Nat → Nat} : ∀ {n : Nat}, (∀ k, k < n → f k = g k) → fb_sm f n = fb_sm g n
  | 0, _ => rfl
  | n + 1, h => by rw [fb_sm_succ, fb_sm_succ, fb_sm_cong (fun k hk => h k (by omega)), h n (by omega)]
theorem fb_sm_out (f : Nat → Nat) (v : Nat) {i n : Nat} (h : n ≤ i) : fb_sm (fun k => if k = i then v else f k) n = fb_sm f n :=
  fb_sm_cong fun k hk => if_neg (by omega)
theorem fb_sm_upd (f : Nat → Nat) (v : Nat) {i : Nat} : ∀ {n : Nat}, i < n → fb_sm (fun k => if k = i then v else f k) n + f i = fb_sm f n + v
  | 0, h => absurd h (Nat.not_lt_zero i)
  | n + 1, h => by
    rw [fb_sm_succ, fb_sm_succ]
    rcases Nat.lt_or_ge i n with q | q
    · have := fb_sm_upd f v q
      have e : (if n = i then v else f n) = f n := if_neg (by omega)
      rw [e]
      omega
    · have e : i = n := by omega
      subst e
      rw [fb_sm_out f v (Nat.le_refl _)]
      simp only [if_true]
      omega
theorem fb_sm_add (f g : Nat → Nat) : ∀ n, fb_sm (fun k => f k + g k) n = fb_sm f n + fb_sm g n
  | 0 => rfl
  | n + 1 => by
    have h := fb_sm_add f g n
    rw [fb_sm_succ, fb_sm_succ, fb_sm_succ, h]
    omega
theorem fb_sm_le {f g : Nat → Nat} : ∀ {n : Nat}, (∀ k, k < n → f k ≤ g k) → fb_sm f n ≤ fb_sm g n
  | 0, _ => Nat.le_refl _
  | n + 1, h => by
    have h1 := fb_sm_le (n := n) (f := f) (g := g) (fun k hk => h k (by omega))
    have h2 := h n (by omega)
    rw [fb_sm_succ, fb_sm_succ]
    omega
theorem fb_sm_const (c : Nat) : ∀ n, fb_sm (fun _ => c) n = n * c
  | 0 => by rw [Nat.zero_mul]; rfl
  | n + 1 => by rw [fb_sm_succ, fb_sm_const c n, Nat.succ_mul]
theorem fb_sm_bound {f : Nat → Nat} {c n : Nat} (h : ∀ k, k < n → f k ≤ c) : fb_sm f n ≤ n * c := by
  rw [← fb_sm_const c n]
  exact fb_sm_le h
theorem fb_sm_mono (f : Nat → Nat) (m : Nat) : ∀ n, fb_sm f m ≤ fb_sm f (m + n)
  | 0 => Nat.le_refl _
  | n + 1 => by
    have h := fb_sm_mono f m n
    show fb_sm f m ≤ fb_sm f (m + n + 1)
    rw [fb_sm_succ]
    omega
theorem fb_sm_part (f : Nat → Nat) {i n : Nat} (h : i < n) : fb_sm f i + f i ≤ fb_sm f n := by
  have := fb_sm_mono f (i + 1) (n - (i + 1))
  rw [fb_sm_succ, show i + 1 + (n - (i + 1)) = n by omega] at this
  exact this
theorem fb_sm_split (f : Nat → Nat) (m : Nat) : ∀ n, fb_sm f (m + n) = fb_sm f m + fb_sm (fun k => f (m + k)) n
  | 0 => rfl
  | n + 1 => by
    have h := fb_sm_split f m n
    show fb_sm f (m + n + 1) = _
    rw [fb_sm_succ, fb_sm_succ, h, Nat.add_assoc]
theorem fb_sm_zero {f : Nat → Nat} {n : Nat} (h : fb_sm f n = 0) : ∀ k, k < n → f k = 0 := fun k hk => by
  have := fb_sm_part f hk
  omega
/-- the same over whole numbers -/
def fb_si (f : Nat → Int) : Nat → Int
  | 0 => 0
  | n + 1 => fb_si f n + f n
theorem fb_si_succ (f : Nat → Int) (n : Nat) : fb_si f (n + 1) = fb_si f n + f n := rfl
theorem fb_si_cong {f g : Nat → Int} : ∀ {n : Nat}, (∀ k, k < n → f k = g k) → fb_si f n = fb_si g n
  | 0, _ => rfl
  | n + 1, h => by rw [fb_si_succ, fb_si_succ, fb_si_cong (fun k hk => h k (by omega)), h n (by omega)]
theorem fb_si_out (f : Nat → Int) (v : Int) {i n : Nat} (h : n ≤ i) : fb_si (fun k => if k = i then v else f k) n = fb_si f n :=
  fb_si_cong fun k hk => if_neg (by omega)
theorem fb_si_upd (f : Nat → Int) (v : Int) {i : Nat} : ∀ {n : Nat}, i < n → fb_si (fun k => if k = i then v else f k) n = fb_si f n - f i + v
  | 0, h => absurd h (Nat.not_lt_zero i)
  | n + 1, h => by
    rw [fb_si_succ, fb_si_succ]
    rcases Nat.lt_or_ge i n with q | q
    · have := fb_si_upd f v q
      have e : (if n = i then v else f n) = f n := if_neg (by omega)
      rw [e]
      omega
    · have e : i = n := by omega
      subst e
      rw [fb_si_out f v (Nat.le_refl _)]
      simp only [if_true]
      omega
theorem fb_si_add (f g : Nat → Int) : ∀ n, fb_si (fun k => f k + g k) n = fb_si f n + fb_si g n
  | 0 => rfl
  | n + 1 => by
    have h := fb_si_add f g n
    rw [fb_si_succ, fb_si_succ, fb_si_succ, h]
    omega
theorem fb_si_sub (f g : Nat → Int) : ∀ n, fb_si (fun k => f k - g k) n = fb_si f n - fb_si g n
  | 0 => rfl
  | n + 1 => by
    have h := fb_si_sub f g n
    rw [fb_si_succ, fb_si_succ, fb_si_succ, h]
    omega
theorem fb_si_mul (c : Int) (f : Nat → Int) : ∀ n, fb_si (fun k => c * f k) n = c * fb_si f n
  | 0 => (Int.mul_zero c).symm
  | n + 1 => by
    have h := fb_si_mul c f n
    rw [fb_si_succ, fb_si_succ, h, Int.mul_add]
theorem fb_si_split (f : Nat → Int) (m : Nat) : ∀ n, fb_si f (m + n) = fb_si f m + fb_si (fun k => f (m + k)) n
  | 0 => (Int.add_zero _).symm
  | n + 1 => by
    have h := fb_si_split f m n
    show fb_si f (m + n + 1) = _
    rw [fb_si_succ, fb_si_succ, h, Int.add_assoc]
theorem fb_si_nat (f : Nat → Nat) : ∀ n, fb_si (fun k => (f k : Int)) n = (fb_sm f n : Int)
  | 0 => rfl
  | n + 1 => by
    have h := fb_si_nat f n
    rw [fb_si_succ, fb_sm_succ, h]
    omega
theorem fb_si_bound {f : Nat → Int} {c : Int} (hc : 0 ≤ c) : ∀ {n : Nat}, (∀ k, k < n → -c ≤ f k ∧ f k ≤ c) → -(n * c) ≤ fb_si f n ∧ fb_si f n ≤ n * c
  | 0, _ => by simp [fb_si]
  | n + 1, h => by
    have h1 := fb_si_bound (n := n) (f := f) hc (fun k hk => h k (by omega))
    have h2 := h n (by omega)
    have e : ((n + 1 : Nat) : Int) * c = n * c + c := by rw [Int.natCast_add, Int.add_mul]; simp
    rw [fb_si_succ, e]
    omega
/-! ===== bits of a long that isn't negative ===== -/
theorem fb_andL (a b : Nat) : lN a &&& lN b = lN (a &&& b) := by
  apply Int64.toBitVec_inj.1
  show BitVec.ofNat 64 a &&& BitVec.ofNat 64 b = BitVec.ofNat 64 (a &&& b)
  apply BitVec.eq_of_getLsbD_eq
  intro i hi
  simp [hi]
theorem fb_orL (a b : Nat) : lN a ||| lN b = lN (a ||| b) := by
  apply Int64.toBitVec_inj.1
  show BitVec.ofNat 64 a ||| BitVec.ofNat 64 b = BitVec.ofNat 64 (a ||| b)
  apply BitVec.eq_of_getLsbD_eq
  intro i hi
  simp [hi]
theorem fb_xorL (a b : Nat) : lN a ^^^ lN b = lN (a ^^^ b) := by
  apply Int64.toBitVec_inj.1
  show BitVec.ofNat 64 a ^^^ BitVec.ofNat 64 b = BitVec.ofNat 64 (a ^^^ b)
  apply BitVec.eq_of_getLsbD_eq
  intro i hi
  simp [hi]
theorem fb_xorI (a b : Nat) : nI a ^^^ nI b = nI (a ^^^ b) := by
  apply Int32.toBitVec_inj.1
  show BitVec.ofNat 32 a ^^^ BitVec.ofNat 32 b = BitVec.ofNat 32 (a ^^^ b)
  apply BitVec.eq_of_getLsbD_eq
  intro i hi
  simp [hi]
theorem fb_maskL (n k : Nat) : lN n &&& lN (2 ^ k - 1) = lN (n % 2 ^ k) := by rw [fb_andL, Nat.and_two_pow_sub_one_eq_mod]
theorem fb_or_sumL {a k : Nat} (b : Nat) (h : a < 2 ^ k) : lN (2 ^ k * b) ||| lN a = lN (2 ^ k * b + a) := by rw [fb_orL, Nat.two_pow_add_eq_or_of_lt h]
theorem fb_lN_inj {a b : Nat} (ha : a < 2 ^ 63) (hb : b < 2 ^ 63) : lN a = lN b ↔ a = b := by
  constructor
  · intro h
    have h1 : (BitVec.ofNat 64 a).toNat = (BitVec.ofNat 64 b).toNat := congrArg (fun x : Int64 => x.toBitVec.toNat) h
    rw [BitVec.toNat_ofNat, BitVec.toNat_ofNat, Nat.mod_eq_of_lt (by omega), Nat.mod_eq_of_lt (by omega)] at h1
    exact h1
  · rintro rfl; rfl
theorem fb_bit_nat (n j : Nat) : n &&& 2 ^ j = 0 ↔ n.testBit j = false := by
  constructor
  · intro h
    have h1 : (n &&& 2 ^ j).testBit j = false := by rw [h]; simp
    rw [Nat.testBit_and] at h1
    simpa using h1
  · intro h
    apply Nat.eq_of_testBit_eq
    intro i
    rw [Nat.testBit_and]
    by_cases hi : j = i
    · subst hi; simp [h]
    · first | (simp [Nat.testBit_two_pow, hi]; done) | (simp [Nat.testBit_two_pow_of_ne hi]; done)
/-- one bit of a long -/
theorem fb_bitL {n j : Nat} (hj : j < 63) : lN n &&& lN (2 ^ j) = 0 ↔ n.testBit j = false := by
  have h2 : (2 : Nat) ^ j < 2 ^ 63 := Nat.pow_lt_pow_right (by decide) hj
  have hle : n &&& 2 ^ j ≤ 2 ^ j := Nat.and_le_right
  rw [fb_andL, ← fb_bit_nat, show (0 : Int64) = lN 0 from rfl]
  exact fb_lN_inj (by omega) (by decide)
/-- a bit set, a bit taken off -/
theorem fb_bit_set (n j i : Nat) : (n ||| 2 ^ j).testBit i = (n.testBit i || decide (i = j)) := by
  rw [Nat.testBit_or]
  by_cases h : j = i
  · subst h; simp
  · have h2 : ¬ i = j := fun e => h e.symm
    first | (simp [Nat.testBit_two_pow, h, h2]; done) | (simp [Nat.testBit_two_pow_of_ne h, h2]; done)
theorem fb_bit_flip (n j i : Nat) : (n ^^^ 2 ^ j).testBit i = (n.testBit i ^^ decide (i = j)) := by
  rw [Nat.testBit_xor]
  by_cases h : j = i
  · subst h; simp
  · have h2 : ¬ i = j := fun e => h e.symm
    first | (simp [Nat.testBit_two_pow, h, h2]; done) | (simp [Nat.testBit_two_pow_of_ne h, h2]; done)
/-! ===== a stretch of an array written over by a function ===== -/
def fb_put {α : Type} (f g : Nat → α) (a n : Nat) : Nat → α := fun k => if a ≤ k ∧ k < a + n then g (k - a) else f k
theorem fb_put_0 {α : Type} (f g : Nat → α) (a : Nat) : fb_put f g a 0 = f := funext fun k => if_neg (by omega)
theorem fb_put_in {α : Type} {f g : Nat → α} {a n k : Nat} (h1 : a ≤ k) (h2 : k < a + n) : fb_put f g a n k = g (k - a) := if_pos ⟨h1, h2⟩
theorem fb_put_out {α : Type} {f g : Nat → α} {a n k : Nat} (h : k < a ∨ a + n ≤ k) : fb_put f g a n k = f k := if_neg (by omega)
theorem fb_put_succ (f g : Nat → Int32) (a n : Nat) : upd (fb_put f g a n) (a + n) (g n) = fb_put f g a (n + 1) := by
  funext k
  by_cases h : k = a + n
  · subst h
    simp [upd, fb_put]
  · by_cases h1 : a ≤ k ∧ k < a + n
    · have h2 : a ≤ k ∧ k < a + (n + 1) := by omega
      simp only [upd, fb_put, if_neg h, if_pos h1, if_pos h2]
    · have h2 : ¬ (a ≤ k ∧ k < a + (n + 1)) := by omega
      simp only [upd, fb_put, if_neg h, if_neg h1, if_neg h2]
/-- .. from the far end down -/
theorem fb_put_down (f g : Nat → Int32) {a n m : Nat} (h : m < n) : upd (fb_put f (fun k => g (k + (m + 1))) (a + (m + 1)) (n - (m + 1))) (a + m) (g m) = fb_put f (fun k => g (k + m)) (a + m) (n - m) := by
  funext k
  by_cases h0 : k = a + m
  · subst h0
    simp only [upd, if_true]
    rw [fb_put_in (by omega) (by omega)]
    exact congrArg g (by omega)
  · simp only [upd, if_neg h0]
    by_cases h1 : a + (m + 1) ≤ k ∧ k < a + (m + 1) + (n - (m + 1))
    · rw [fb_put_in h1.1 h1.2, fb_put_in (by omega) (by omega)]
      exact congrArg g (by omega)
    · rw [fb_put_out (by omega), fb_put_out (by omega)]
theorem fb_put_cong {α : Type} {f f2 g g2 : Nat → α} {a n : Nat} (hf : ∀ k, (k < a ∨ a + n ≤ k) → f k = f2 k) (hg : ∀ k, k < n → g k = g2 k) : fb_put f g a n = fb_put f2 g2 a n := by
  funext k
  by_cases h : a ≤ k ∧ k < a + n
  · rw [fb_put_in h.1 h.2, fb_put_in h.1 h.2, hg _ (by omega)]
  · rw [fb_put_out (by omega), fb_put_out (by omega), hf _ (by omega)]
/-! ===== the least, the first, the best so far; that there is one alone ===== -/
theorem fb_first {p : Nat → Prop} [DecidablePred p] : ∀ {n : Nat}, (∃ i, i < n ∧ p i) → ∃ i, i < n ∧ p i ∧ ∀ j, j < i → ¬ p j
  | 0, h => by obtain ⟨i, hi, -⟩ := h; exact absurd hi (Nat.not_lt_zero i)
  | n + 1, h => by
    by_cases q : ∃ i, i < n ∧ p i
    · obtain ⟨i, h1, h2⟩ := fb_first q
      exact ⟨i, by omega, h2⟩
    · obtain ⟨i, h1, h2⟩ := h
      have e : i = n := by
        rcases Nat.lt_or_ge i n with r | r
        · exact absurd ⟨i, r, h2⟩ q
        · omega
      subst e
      exact ⟨i, by omega, h2, fun j hj hp => q ⟨j, hj, hp⟩⟩
theorem fb_first_one {p : Nat → Prop} {i j : Nat} (hi : p i) (hi2 : ∀ k, k < i → ¬ p k) (hj : p j) (hj2 : ∀ k, k < j → ¬ p k) : i = j := by
  rcases Nat.lt_trichotomy i j with q | q | q
  · exact absurd hi (hj2 i q)
  · exact q
  · exact absurd hj (hi2 j q)
theorem fb_last {p : Nat → Prop} [DecidablePred p] : ∀ {n : Nat}, (∃ i, i < n ∧ p i) → ∃ i, i < n ∧ p i ∧ ∀ j, i < j → j < n → ¬ p j
  | 0, h => by obtain ⟨i, hi, -⟩ := h; exact absurd hi (Nat.not_lt_zero i)
  | n + 1, h => by
    by_cases q : p n
    · exact ⟨n, by omega, q, fun j h1 h2 => by omega⟩
    · obtain ⟨i, h1, h2⟩ := h
      have hi : i < n := by
        rcases Nat.lt_or_ge i n with r | r
        · exact r
        · have e : i = n := by omega
          subst e
          exact absurd h2 q
      obtain ⟨i2, a1, a2, a3⟩ := fb_last (n := n) ⟨i, hi, h2⟩
      refine ⟨i2, by omega, a2, fun j b1 b2 => ?_⟩
      rcases Nat.lt_or_ge j n with r | r
      · exact a3 j b1 r
      · have e : j = n := by omega
        subst e
        exact q
/-- the first greatest -/
theorem fb_best (f : Nat → Int) : ∀ {n : Nat}, 0 < n → ∃ i, i < n ∧ (∀ j, j < n → f j ≤ f i) ∧ ∀ j, j < i → f j < f i
  | 0, h => absurd h (Nat.lt_irrefl 0)
  | 1, _ => ⟨0, by omega, fun j hj => by have e : j = 0 := by omega
                                         subst e; exact Int.le_refl _, fun j hj => absurd hj (Nat.not_lt_zero j)⟩
  | n + 2, _ => by
    obtain ⟨i, h1, h2, h3⟩ := fb_best f (n := n + 1) (by omega)
    by_cases q : f i < f (n + 1)
    · refine ⟨n + 1, by omega, fun j hj => ?_, fun j hj => ?_⟩
      · rcases Nat.lt_or_ge j (n + 1) with r | r
        · have := h2 j r; omega
        · have e : j = n + 1 := by omega
          subst e; exact Int.le_refl _
      · have := h2 j hj; omega
    · refine ⟨i, by omega, fun j hj => ?_, h3⟩
      rcases Nat.lt_or_ge j (n + 1) with r | r
      · exact h2 j r
      · have e : j = n + 1 := by omega
        subst e; omega
theorem fb_best_one {f : Nat → Int} {n i j : Nat} (hi : i < n) (hi2 : ∀ k, k < n → f k ≤ f i) (hi3 : ∀ k, k < i → f k < f i) (hj : j < n) (hj2 : ∀ k, k < n → f k ≤ f j) (hj3 : ∀ k, k < j → f k < f j) : i = j := by
  rcases Nat.lt_trichotomy i j with q | q | q
  · have a := hj3 i q
    have b := hi2 j hj
    omega
  · exact q
  · have a := hi3 j q
    have b := hj2 i hi
    omega
/-- the first least -/
theorem fb_low (f : Nat → Int) {n : Nat} (h : 0 < n) : ∃ i, i < n ∧ (∀ j, j < n → f i ≤ f j) ∧ ∀ j, j < i → f i < f j := by
  obtain ⟨i, h1, h2, h3⟩ := fb_best (fun k => -f k) h
  exact ⟨i, h1, fun j hj => by have := h2 j hj; omega, fun j hj => by have := h3 j hj; omega⟩
/-! ===== signed ints as whole numbers, within bounds ===== -/
theorem fb_rng (x : Int32) : -2147483648 ≤ x.toInt ∧ x.toInt < 2147483648 := by
  have h1 := Int32.le_toInt x
  have h2 := Int32.toInt_lt x
  omega
theorem fb_bmod {z : Int} (h1 : -2147483648 ≤ z) (h2 : z < 2147483648) : z.bmod (2 ^ 32) = z := by
  rw [Int.bmod_eq_of_le (by omega) (by omega)]
theorem fb_addI {x y : Int32} (h1 : -2147483648 ≤ x.toInt + y.toInt) (h2 : x.toInt + y.toInt < 2147483648) : (x + y).toInt = x.toInt + y.toInt := by
  rw [Int32.toInt_add, fb_bmod h1 h2]
theorem fb_subI {x y : Int32} (h1 : -2147483648 ≤ x.toInt - y.toInt) (h2 : x.toInt - y.toInt < 2147483648) : (x - y).toInt = x.toInt - y.toInt := by
  rw [Int32.toInt_sub, fb_bmod h1 h2]
theorem fb_mulI {x y : Int32} (h1 : -2147483648 ≤ x.toInt * y.toInt) (h2 : x.toInt * y.toInt < 2147483648) : (x * y).toInt = x.toInt * y.toInt := by
  rw [Int32.toInt_mul, fb_bmod h1 h2]
theorem fb_negI {x : Int32} (h : x.toInt ≠ -2147483648) : (-x).toInt = -x.toInt := by
  have := fb_rng x
  rw [Int32.toInt_neg, fb_bmod (by omega) (by omega)]
theorem fb_ofI {z : Int} (h1 : -2147483648 ≤ z) (h2 : z < 2147483648) : (Int32.ofInt z).toInt = z := by
  rw [Int32.toInt_ofInt, fb_bmod h1 h2]
theorem fb_asI (x : Int32) : Int32.ofInt x.toInt = x := Int32.ofInt_toInt x
theorem fb_rngL (x : Int64) : -9223372036854775808 ≤ x.toInt ∧ x.toInt < 9223372036854775808 := by
  have h1 := Int64.le_toInt x
  have h2 := Int64.toInt_lt x
  omega
theorem fb_bmodL {z : Int} (h1 : -9223372036854775808 ≤ z) (h2 : z < 9223372036854775808) : z.bmod (2 ^ 64) = z := by
  rw [Int.bmod_eq_of_le (by omega) (by omega)]
theorem fb_addL {x y : Int64} (h1 : -9223372036854775808 ≤ x.toInt + y.toInt) (h2 : x.toInt + y.toInt < 9223372036854775808) : (x + y).toInt = x.toInt + y.toInt := by
  rw [Int64.toInt_add, fb_bmodL h1 h2]
theorem fb_subL {x y : Int64} (h1 : -9223372036854775808 ≤ x.toInt - y.toInt) (h2 : x.toInt - y.toInt < 9223372036854775808) : (x - y).toInt = x.toInt - y.toInt := by
  rw [Int64.toInt_sub, fb_bmodL h1 h2]
theorem fb_mulL {x y : Int64} (h1 : -9223372036854775808 ≤ x.toInt * y.toInt) (h2 : x.toInt * y.toInt < 9223372036854775808) : (x * y).toInt = x.toInt * y.toInt := by
  rw [Int64.toInt_mul, fb_bmodL h1 h2]
/-! ===== cuts of what is narrow already ===== -/
theorem fb_byte {x : Int32} (h1 : -128 ≤ x.toInt) (h2 : x.toInt < 128) : x.toInt8.toInt32 = x := by
  apply Int32.toInt_inj.1
  rw [Int8.toInt_toInt32, Int32.toInt_toInt8, Int.bmod_eq_of_le (by omega) (by omega)]
theorem fb_short {x : Int32} (h1 : -32768 ≤ x.toInt) (h2 : x.toInt < 32768) : x.toInt16.toInt32 = x := by
  apply Int32.toInt_inj.1
  rw [Int16.toInt_toInt32, Int32.toInt_toInt16, Int.bmod_eq_of_le (by omega) (by omega)]
theorem fb_byte_rng (x : Int32) : -128 ≤ x.toInt8.toInt32.toInt ∧ x.toInt8.toInt32.toInt < 128 := by
  rw [Int8.toInt_toInt32]
  have h1 := Int8.le_toInt x.toInt8
  have h2 := Int8.toInt_lt x.toInt8
  omega
theorem fb_short_rng (x : Int32) : -32768 ≤ x.toInt16.toInt32.toInt ∧ x.toInt16.toInt32.toInt < 32768 := by
  rw [Int16.toInt_toInt32]
  have h1 := Int16.le_toInt x.toInt16
  have h2 := Int16.toInt_lt x.toInt16
  omega
theorem fb_byte_twice (x : Int32) : x.toInt8.toInt32.toInt8.toInt32 = x.toInt8.toInt32 := fb_byte (fb_byte_rng x).1 (fb_byte_rng x).2
theorem fb_short_twice (x : Int32) : x.toInt16.toInt32.toInt16.toInt32 = x.toInt16.toInt32 := fb_short (fb_short_rng x).1 (fb_short_rng x).2
theorem fb_char {n : Nat} (h : n < 65536) : (nI n).toUInt32.toUInt16.toUInt32.toInt32 = nI n := by
  apply Int32.toBitVec_inj.1
  apply BitVec.eq_of_toNat_eq
  have e1 : (nI n).toBitVec.toNat = n := by
    show (BitVec.ofNat 32 n).toNat = n
    rw [BitVec.toNat_ofNat, Nat.mod_eq_of_lt (by omega)]
  have e2 : ((nI n).toUInt32.toUInt16.toUInt32).toNat = n := by
    rw [UInt16.toNat_toUInt32, UInt32.toNat_toUInt16]
    show (nI n).toBitVec.toNat % 2 ^ 16 = n
    rw [e1, Nat.mod_eq_of_lt (by omega)]
  rw [e1]
  exact e2
end
section
/-! loops by their invariants; the board's rows at the level of numbers -/
theorem lpN {σ τ : Type} (L : Nat → σ → Int32 → Option τ) (n : Nat) (I : Nat → σ → Prop) (Q : τ → Prop)
    (hs : ∀ ct i s, i < n → I i s → (∃ s', I (i + 1) s' ∧ L (ct + 1) s (nI i) = L ct s' (nI (i + 1))) ∨ (∃ r, L (ct + 1) s (nI i) = some r ∧ Q r))
    (he : ∀ ct s, I n s → ∃ r, L (ct + 1) s (nI n) = some r ∧ Q r) :
    ∀ d i ct s, i + d = n → d < ct → I i s → ∃ r, L ct s (nI i) = some r ∧ Q r := by
  intro d
  induction d with
  | zero =>
    intro i ct s h1 h2 hI
    obtain ⟨c, rfl⟩ : ∃ c, ct = c + 1 := ⟨ct - 1, by omega⟩
    have e : i = n := by omega
    subst e
    exact he c s hI
  | succ d ih =>
    intro i ct s h1 h2 hI
    obtain ⟨c, rfl⟩ : ∃ c, ct = c + 1 := ⟨ct - 1, by omega⟩
    rcases hs c i s (by omega) hI with ⟨s', hI', e⟩ | h
    · rw [e]
      exact ih (i + 1) c s' (by omega) (by omega) hI'
    · exact h
def okB (w h k : Nat) : Bool := decide (1 ≤ w) && decide (w ≤ 7) && decide (1 ≤ h) && decide (h ≤ 6) && decide (w * h ≤ 16) && decide (2 ≤ k) && decide (k ≤ 4)
def jI (j : Bool) : Int32 := if j then 1 else 0
/-- the squares from (x, y) on: n left, with bits so far; 0 if the way leaves the board or meets itself. x is one more than the column, 0 left of the board. -/
def rowL (w h : Nat) (j : Bool) (dx dy : Nat) : Nat → Nat → Nat → Nat → Nat
  | 0, bits, _, _ => bits
  | n + 1, bits, x, y => if 1 ≤ x ∧ x ≤ w ∧ y < h then (if bits.testBit (w * y + (x - 1)) then 0 else rowL w h j dx dy n (bits ||| 2 ^ (w * y + (x - 1))) (if j then (if x + dx = 1 then w else if x + dx = w + 2 then 1 else x + dx - 1) else x + dx - 1) (y + dy)) else 0
/-- the four ways: dx is one more than the step -/
def wayX (d : Nat) : Nat := match d with
  | 0 => 2
  | 1 => 1
  | 2 => 2
  | _ => 0
def wayY (d : Nat) : Nat := if d = 0 then 0 else 1
def wayI (d : Nat) : Int32 := match d with
  | 0 => 1
  | 1 => 0
  | 2 => 1
  | _ => -1
def rowS (w h k : Nat) (j : Bool) (x y d : Nat) : Nat := rowL w h j (wayX d) (wayY d) k 0 (x + 1) y
def addR (l : List Nat) (r : Nat) : List Nat := if r = 0 ∨ r ∈ l then l else l ++ [r]
def sqR (w h k : Nat) (j : Bool) (l : List Nat) (x y : Nat) : List Nat := addR (addR (addR (addR l (rowS w h k j x y 0)) (rowS w h k j x y 1)) (rowS w h k j x y 2)) (rowS w h k j x y 3)
def RW (w h k : Nat) (j : Bool) : List Nat := (List.range h).foldl (fun l y => (List.range w).foldl (fun l x => sqR w h k j l x y) l) []
/-- a row turned from left to right -/
def mirM (w : Nat) (r : Nat) : Nat := (List.range 16).foldl (fun a s => if r.testBit s then a ||| 2 ^ (s - s % w + (w - 1 - s % w)) else a) 0
def rwFacts (w h k : Nat) (j : Bool) : Bool :=
  decide ((RW w h k j).length < 64) && (RW w h k j).all (fun r => decide (r < 2 ^ (w * h)) && decide (r ≠ 0) && decide (mirM w r ∈ RW w h k j) && decide (mirM w (mirM w r) = r)) && (List.range (w * h)).all (fun s => decide (((RW w h k j).filter (fun r => r.testBit s)).length < 16))
def allB (p : Nat → Nat → Nat → Bool → Bool) : Bool := (List.range 8).all (fun w => (List.range 7).all (fun h => (List.range 5).all (fun k => !okB w h k || (p w h k false && p w h k true))))
theorem allB_s {p : Nat → Nat → Nat → Bool → Bool} (h : allB p = true) {w hh k : Nat} (hb : okB w hh k = true) (j : Bool) : p w hh k j = true := by
  unfold allB at h
  have hb' := hb
  simp only [okB, Bool.and_eq_true, decide_eq_true_eq] at hb'
  have h1 := List.all_eq_true.mp h w (List.mem_range.mpr (by omega))
  have h2 := List.all_eq_true.mp h1 hh (List.mem_range.mpr (by omega))
  have h3 := List.all_eq_true.mp h2 k (List.mem_range.mpr (by omega))
  rw [hb] at h3
  simp only [Bool.not_true, Bool.false_or, Bool.and_eq_true] at h3
  cases j
  · exact h3.1
  · exact h3.2
theorem rw_facts : allB rwFacts = true := by decide +kernel
def rowOk (w h k : Nat) (j : Bool) : Bool := (List.range w).all (fun x => (List.range h).all (fun y => (List.range 4).all (fun d =>
  decide (fX5_squaresOf 4194304 (nI w) (nI h) (nI k) (jI j) (nI x) (nI y) (wayI d) (nI (wayY d)) = some (nI (rowS w h k j x y d))) &&
  decide (fX1_rowFrom 4194304 (nI w) (nI h) (nI k) (jI j) (nI x) (nI y) (wayI d) (nI (wayY d)) = some (nI (rowS w h k j x y d))))))
theorem row_ok : allB rowOk = true := by decide +kernel
end
