section
-- ===== PART A: goes FIRST, ahead of the names: the tables' words, and 'selects' of the private methods out of them =====
/-- a private method of a class that the tables say can be made, by its rows of tables_1 -/
def lw_okq (q : MethodName × Nat) : Prop := (q.1.cls ≠ "java/lang/invoke/MethodHandle" ∧ q.1.cls ≠ "java/lang/invoke/VarHandle") ∧ Cond.instantiable q.1.cls q.2 ∈ tables_1 ∧ Cond.privateMethod q.1 ∈ tables_1 ∧ Cond.instanceMethod q.1 ∈ tables_1
theorem lw_p0 : lw_okq (⟨"TokenMesh", "isCore", "(I)Z"⟩, 11) := ⟨⟨by decide +kernel, by decide +kernel⟩, List.mem_of_getElem? (i := 19) (by decide +kernel), List.mem_of_getElem? (i := 216) (by decide +kernel), List.mem_of_getElem? (i := 217) (by decide +kernel)⟩
theorem lw_p1 : lw_okq (⟨"TokenMesh", "canEnd", "(I)Z"⟩, 11) := ⟨⟨by decide +kernel, by decide +kernel⟩, List.mem_of_getElem? (i := 19) (by decide +kernel), List.mem_of_getElem? (i := 227) (by decide +kernel), List.mem_of_getElem? (i := 228) (by decide +kernel)⟩
theorem lw_p2 : lw_okq (⟨"TokenMesh", "share", "(II)LTokenMesh$Share;"⟩, 11) := ⟨⟨by decide +kernel, by decide +kernel⟩, List.mem_of_getElem? (i := 19) (by decide +kernel), List.mem_of_getElem? (i := 231) (by decide +kernel), List.mem_of_getElem? (i := 232) (by decide +kernel)⟩
theorem lw_p3 : lw_okq (⟨"TokenMesh", "end", "(I)V"⟩, 11) := ⟨⟨by decide +kernel, by decide +kernel⟩, List.mem_of_getElem? (i := 19) (by decide +kernel), List.mem_of_getElem? (i := 235) (by decide +kernel), List.mem_of_getElem? (i := 236) (by decide +kernel)⟩
theorem lw_p4 : lw_okq (⟨"TokenMesh$Mail", "dropOlder", "(IIII)V"⟩, 2) := ⟨⟨by decide +kernel, by decide +kernel⟩, List.mem_of_getElem? (i := 163) (by decide +kernel), List.mem_of_getElem? (i := 243) (by decide +kernel), List.mem_of_getElem? (i := 244) (by decide +kernel)⟩
theorem lw_p5 : lw_okq (⟨"java/util/ArrayList", "fastRemove", "([Ljava/lang/Object;I)V"⟩, 3) := ⟨⟨by decide +kernel, by decide +kernel⟩, List.mem_of_getElem? (i := 125) (by decide +kernel), List.mem_of_getElem? (i := 274) (by decide +kernel), List.mem_of_getElem? (i := 275) (by decide +kernel)⟩
theorem lw_p6 : lw_okq (⟨"java/util/ArrayList", "add", "(Ljava/lang/Object;[Ljava/lang/Object;I)V"⟩, 3) := ⟨⟨by decide +kernel, by decide +kernel⟩, List.mem_of_getElem? (i := 125) (by decide +kernel), List.mem_of_getElem? (i := 285) (by decide +kernel), List.mem_of_getElem? (i := 286) (by decide +kernel)⟩
theorem lw_p7 : lw_okq (⟨"java/util/ArrayList", "grow", "()[Ljava/lang/Object;"⟩, 3) := ⟨⟨by decide +kernel, by decide +kernel⟩, List.mem_of_getElem? (i := 125) (by decide +kernel), List.mem_of_getElem? (i := 289) (by decide +kernel), List.mem_of_getElem? (i := 290) (by decide +kernel)⟩
theorem lw_p8 : lw_okq (⟨"java/util/ArrayList", "grow", "(I)[Ljava/lang/Object;"⟩, 3) := ⟨⟨by decide +kernel, by decide +kernel⟩, List.mem_of_getElem? (i := 125) (by decide +kernel), List.mem_of_getElem? (i := 293) (by decide +kernel), List.mem_of_getElem? (i := 294) (by decide +kernel)⟩
theorem lw_p9 : lw_okq (⟨"TokenMesh", "ask", "(I)V"⟩, 11) := ⟨⟨by decide +kernel, by decide +kernel⟩, List.mem_of_getElem? (i := 19) (by decide +kernel), List.mem_of_getElem? (i := 393) (by decide +kernel), List.mem_of_getElem? (i := 394) (by decide +kernel)⟩
theorem lw_p10 : lw_okq (⟨"TokenMesh", "askAgain", "(I)V"⟩, 11) := ⟨⟨by decide +kernel, by decide +kernel⟩, List.mem_of_getElem? (i := 19) (by decide +kernel), List.mem_of_getElem? (i := 405) (by decide +kernel), List.mem_of_getElem? (i := 406) (by decide +kernel)⟩
theorem lw_p11 : lw_okq (⟨"TokenMesh", "onRead", "(III)V"⟩, 11) := ⟨⟨by decide +kernel, by decide +kernel⟩, List.mem_of_getElem? (i := 19) (by decide +kernel), List.mem_of_getElem? (i := 421) (by decide +kernel), List.mem_of_getElem? (i := 422) (by decide +kernel)⟩
theorem lw_p12 : lw_okq (⟨"TokenMesh", "give", "(IIIIZZ)V"⟩, 11) := ⟨⟨by decide +kernel, by decide +kernel⟩, List.mem_of_getElem? (i := 19) (by decide +kernel), List.mem_of_getElem? (i := 425) (by decide +kernel), List.mem_of_getElem? (i := 426) (by decide +kernel)⟩
theorem lw_p13 : lw_okq (⟨"TokenMesh", "onWrite", "(III)V"⟩, 11) := ⟨⟨by decide +kernel, by decide +kernel⟩, List.mem_of_getElem? (i := 19) (by decide +kernel), List.mem_of_getElem? (i := 433) (by decide +kernel), List.mem_of_getElem? (i := 434) (by decide +kernel)⟩
theorem lw_p14 : lw_okq (⟨"TokenMesh", "onTokens", "(LTokenMesh$Letter;)V"⟩, 11) := ⟨⟨by decide +kernel, by decide +kernel⟩, List.mem_of_getElem? (i := 19) (by decide +kernel), List.mem_of_getElem? (i := 437) (by decide +kernel), List.mem_of_getElem? (i := 438) (by decide +kernel)⟩
theorem lw_p15 : lw_okq (⟨"TokenMesh", "giveWay", "(II)V"⟩, 11) := ⟨⟨by decide +kernel, by decide +kernel⟩, List.mem_of_getElem? (i := 19) (by decide +kernel), List.mem_of_getElem? (i := 445) (by decide +kernel), List.mem_of_getElem? (i := 446) (by decide +kernel)⟩
def lw_privs_1 : List (MethodName × Nat) := [(⟨"TokenMesh", "isCore", "(I)Z"⟩, 11), (⟨"TokenMesh", "canEnd", "(I)Z"⟩, 11), (⟨"TokenMesh", "share", "(II)LTokenMesh$Share;"⟩, 11), (⟨"TokenMesh", "end", "(I)V"⟩, 11), (⟨"TokenMesh$Mail", "dropOlder", "(IIII)V"⟩, 2), (⟨"java/util/ArrayList", "fastRemove", "([Ljava/lang/Object;I)V"⟩, 3), (⟨"java/util/ArrayList", "add", "(Ljava/lang/Object;[Ljava/lang/Object;I)V"⟩, 3), (⟨"java/util/ArrayList", "grow", "()[Ljava/lang/Object;"⟩, 3), (⟨"java/util/ArrayList", "grow", "(I)[Ljava/lang/Object;"⟩, 3), (⟨"TokenMesh", "ask", "(I)V"⟩, 11), (⟨"TokenMesh", "askAgain", "(I)V"⟩, 11), (⟨"TokenMesh", "onRead", "(III)V"⟩, 11), (⟨"TokenMesh", "give", "(IIIIZZ)V"⟩, 11), (⟨"TokenMesh", "onWrite", "(III)V"⟩, 11), (⟨"TokenMesh", "onTokens", "(LTokenMesh$Letter;)V"⟩, 11), (⟨"TokenMesh", "giveWay", "(II)V"⟩, 11)]
theorem lw_r1 : ∀ q ∈ lw_privs_1, lw_okq q := List.forall_mem_cons.mpr ⟨lw_p0, List.forall_mem_cons.mpr ⟨lw_p1, List.forall_mem_cons.mpr ⟨lw_p2, List.forall_mem_cons.mpr ⟨lw_p3, List.forall_mem_cons.mpr ⟨lw_p4, List.forall_mem_cons.mpr ⟨lw_p5, List.forall_mem_cons.mpr ⟨lw_p6, List.forall_mem_cons.mpr ⟨lw_p7, List.forall_mem_cons.mpr ⟨lw_p8, List.forall_mem_cons.mpr ⟨lw_p9, List.forall_mem_cons.mpr ⟨lw_p10, List.forall_mem_cons.mpr ⟨lw_p11, List.forall_mem_cons.mpr ⟨lw_p12, List.forall_mem_cons.mpr ⟨lw_p13, List.forall_mem_cons.mpr ⟨lw_p14, List.forall_mem_cons.mpr ⟨lw_p15, fun _ h => absurd h List.not_mem_nil⟩⟩⟩⟩⟩⟩⟩⟩⟩⟩⟩⟩⟩⟩⟩⟩
theorem lw_p16 : lw_okq (⟨"TokenMesh", "onPlease", "(IIIZ)V"⟩, 11) := ⟨⟨by decide +kernel, by decide +kernel⟩, List.mem_of_getElem? (i := 19) (by decide +kernel), List.mem_of_getElem? (i := 453) (by decide +kernel), List.mem_of_getElem? (i := 454) (by decide +kernel)⟩
theorem lw_p17 : lw_okq (⟨"TokenMesh", "lapse", "(II)V"⟩, 11) := ⟨⟨by decide +kernel, by decide +kernel⟩, List.mem_of_getElem? (i := 19) (by decide +kernel), List.mem_of_getElem? (i := 457) (by decide +kernel), List.mem_of_getElem? (i := 458) (by decide +kernel)⟩
theorem lw_p18 : lw_okq (⟨"TokenMesh", "tellActive", "(I)V"⟩, 11) := ⟨⟨by decide +kernel, by decide +kernel⟩, List.mem_of_getElem? (i := 19) (by decide +kernel), List.mem_of_getElem? (i := 474) (by decide +kernel), List.mem_of_getElem? (i := 475) (by decide +kernel)⟩
theorem lw_p19 : lw_okq (⟨"TokenMesh", "activateFirst", "(I)V"⟩, 11) := ⟨⟨by decide +kernel, by decide +kernel⟩, List.mem_of_getElem? (i := 19) (by decide +kernel), List.mem_of_getElem? (i := 482) (by decide +kernel), List.mem_of_getElem? (i := 483) (by decide +kernel)⟩
theorem lw_p20 : lw_okq (⟨"TokenMesh", "onKnow", "(LTokenMesh$Letter;)V"⟩, 11) := ⟨⟨by decide +kernel, by decide +kernel⟩, List.mem_of_getElem? (i := 19) (by decide +kernel), List.mem_of_getElem? (i := 507) (by decide +kernel), List.mem_of_getElem? (i := 508) (by decide +kernel)⟩
theorem lw_p21 : lw_okq (⟨"TokenMesh", "isNode", "(I)Z"⟩, 11) := ⟨⟨by decide +kernel, by decide +kernel⟩, List.mem_of_getElem? (i := 19) (by decide +kernel), List.mem_of_getElem? (i := 543) (by decide +kernel), List.mem_of_getElem? (i := 544) (by decide +kernel)⟩
theorem lw_p22 : lw_okq (⟨"TokenMeshModel", "isCore", "(I)Z"⟩, 40) := ⟨⟨by decide +kernel, by decide +kernel⟩, List.mem_of_getElem? (i := 579) (by decide +kernel), List.mem_of_getElem? (i := 711) (by decide +kernel), List.mem_of_getElem? (i := 712) (by decide +kernel)⟩
theorem lw_p23 : lw_okq (⟨"TokenMeshModel", "canEnd", "(I)Z"⟩, 40) := ⟨⟨by decide +kernel, by decide +kernel⟩, List.mem_of_getElem? (i := 579) (by decide +kernel), List.mem_of_getElem? (i := 718) (by decide +kernel), List.mem_of_getElem? (i := 719) (by decide +kernel)⟩
theorem lw_p24 : lw_okq (⟨"TokenMeshModel", "end", "(I)V"⟩, 40) := ⟨⟨by decide +kernel, by decide +kernel⟩, List.mem_of_getElem? (i := 579) (by decide +kernel), List.mem_of_getElem? (i := 722) (by decide +kernel), List.mem_of_getElem? (i := 723) (by decide +kernel)⟩
theorem lw_p25 : lw_okq (⟨"TokenMeshModel", "send", "(IIII)I"⟩, 40) := ⟨⟨by decide +kernel, by decide +kernel⟩, List.mem_of_getElem? (i := 579) (by decide +kernel), List.mem_of_getElem? (i := 726) (by decide +kernel), List.mem_of_getElem? (i := 727) (by decide +kernel)⟩
theorem lw_p26 : lw_okq (⟨"TokenMeshModel", "remove", "(I)V"⟩, 40) := ⟨⟨by decide +kernel, by decide +kernel⟩, List.mem_of_getElem? (i := 579) (by decide +kernel), List.mem_of_getElem? (i := 730) (by decide +kernel), List.mem_of_getElem? (i := 731) (by decide +kernel)⟩
theorem lw_p27 : lw_okq (⟨"TokenMeshModel", "move", "(II)V"⟩, 40) := ⟨⟨by decide +kernel, by decide +kernel⟩, List.mem_of_getElem? (i := 579) (by decide +kernel), List.mem_of_getElem? (i := 734) (by decide +kernel), List.mem_of_getElem? (i := 735) (by decide +kernel)⟩
theorem lw_p28 : lw_okq (⟨"TokenMeshModel", "ask", "(I)V"⟩, 40) := ⟨⟨by decide +kernel, by decide +kernel⟩, List.mem_of_getElem? (i := 579) (by decide +kernel), List.mem_of_getElem? (i := 738) (by decide +kernel), List.mem_of_getElem? (i := 739) (by decide +kernel)⟩
theorem lw_p29 : lw_okq (⟨"TokenMeshModel", "repeat", "(I)V"⟩, 40) := ⟨⟨by decide +kernel, by decide +kernel⟩, List.mem_of_getElem? (i := 579) (by decide +kernel), List.mem_of_getElem? (i := 746) (by decide +kernel), List.mem_of_getElem? (i := 747) (by decide +kernel)⟩
theorem lw_p30 : lw_okq (⟨"TokenMeshModel", "give", "(IIIIZZ)V"⟩, 40) := ⟨⟨by decide +kernel, by decide +kernel⟩, List.mem_of_getElem? (i := 579) (by decide +kernel), List.mem_of_getElem? (i := 754) (by decide +kernel), List.mem_of_getElem? (i := 755) (by decide +kernel)⟩
theorem lw_p31 : lw_okq (⟨"TokenMeshModel", "getTokens", "(IIIZZI)V"⟩, 40) := ⟨⟨by decide +kernel, by decide +kernel⟩, List.mem_of_getElem? (i := 579) (by decide +kernel), List.mem_of_getElem? (i := 758) (by decide +kernel), List.mem_of_getElem? (i := 759) (by decide +kernel)⟩
def lw_privs_2 : List (MethodName × Nat) := [(⟨"TokenMesh", "onPlease", "(IIIZ)V"⟩, 11), (⟨"TokenMesh", "lapse", "(II)V"⟩, 11), (⟨"TokenMesh", "tellActive", "(I)V"⟩, 11), (⟨"TokenMesh", "activateFirst", "(I)V"⟩, 11), (⟨"TokenMesh", "onKnow", "(LTokenMesh$Letter;)V"⟩, 11), (⟨"TokenMesh", "isNode", "(I)Z"⟩, 11), (⟨"TokenMeshModel", "isCore", "(I)Z"⟩, 40), (⟨"TokenMeshModel", "canEnd", "(I)Z"⟩, 40), (⟨"TokenMeshModel", "end", "(I)V"⟩, 40), (⟨"TokenMeshModel", "send", "(IIII)I"⟩, 40), (⟨"TokenMeshModel", "remove", "(I)V"⟩, 40), (⟨"TokenMeshModel", "move", "(II)V"⟩, 40), (⟨"TokenMeshModel", "ask", "(I)V"⟩, 40), (⟨"TokenMeshModel", "repeat", "(I)V"⟩, 40), (⟨"TokenMeshModel", "give", "(IIIIZZ)V"⟩, 40), (⟨"TokenMeshModel", "getTokens", "(IIIZZI)V"⟩, 40)]
theorem lw_r2 : ∀ q ∈ lw_privs_2, lw_okq q := List.forall_mem_cons.mpr ⟨lw_p16, List.forall_mem_cons.mpr ⟨lw_p17, List.forall_mem_cons.mpr ⟨lw_p18, List.forall_mem_cons.mpr ⟨lw_p19, List.forall_mem_cons.mpr ⟨lw_p20, List.forall_mem_cons.mpr ⟨lw_p21, List.forall_mem_cons.mpr ⟨lw_p22, List.forall_mem_cons.mpr ⟨lw_p23, List.forall_mem_cons.mpr ⟨lw_p24, List.forall_mem_cons.mpr ⟨lw_p25, List.forall_mem_cons.mpr ⟨lw_p26, List.forall_mem_cons.mpr ⟨lw_p27, List.forall_mem_cons.mpr ⟨lw_p28, List.forall_mem_cons.mpr ⟨lw_p29, List.forall_mem_cons.mpr ⟨lw_p30, List.forall_mem_cons.mpr ⟨lw_p31, fun _ h => absurd h List.not_mem_nil⟩⟩⟩⟩⟩⟩⟩⟩⟩⟩⟩⟩⟩⟩⟩⟩
theorem lw_p32 : lw_okq (⟨"TokenMeshModel", "giveWay", "(II)V"⟩, 40) := ⟨⟨by decide +kernel, by decide +kernel⟩, List.mem_of_getElem? (i := 579) (by decide +kernel), List.mem_of_getElem? (i := 762) (by decide +kernel), List.mem_of_getElem? (i := 763) (by decide +kernel)⟩
theorem lw_p33 : lw_okq (⟨"TokenMeshModel", "please", "(IIIZ)V"⟩, 40) := ⟨⟨by decide +kernel, by decide +kernel⟩, List.mem_of_getElem? (i := 579) (by decide +kernel), List.mem_of_getElem? (i := 766) (by decide +kernel), List.mem_of_getElem? (i := 767) (by decide +kernel)⟩
theorem lw_p34 : lw_okq (⟨"TokenMeshModel", "lapse", "(II)V"⟩, 40) := ⟨⟨by decide +kernel, by decide +kernel⟩, List.mem_of_getElem? (i := 579) (by decide +kernel), List.mem_of_getElem? (i := 770) (by decide +kernel), List.mem_of_getElem? (i := 771) (by decide +kernel)⟩
theorem lw_p35 : lw_okq (⟨"TokenMeshModel", "takeOut", "(II)V"⟩, 40) := ⟨⟨by decide +kernel, by decide +kernel⟩, List.mem_of_getElem? (i := 579) (by decide +kernel), List.mem_of_getElem? (i := 774) (by decide +kernel), List.mem_of_getElem? (i := 775) (by decide +kernel)⟩
theorem lw_p36 : lw_okq (⟨"TokenMeshModel", "tellAll", "(I)V"⟩, 40) := ⟨⟨by decide +kernel, by decide +kernel⟩, List.mem_of_getElem? (i := 579) (by decide +kernel), List.mem_of_getElem? (i := 778) (by decide +kernel), List.mem_of_getElem? (i := 779) (by decide +kernel)⟩
theorem lw_p37 : lw_okq (⟨"TokenMeshModel", "activate", "(I)V"⟩, 40) := ⟨⟨by decide +kernel, by decide +kernel⟩, List.mem_of_getElem? (i := 579) (by decide +kernel), List.mem_of_getElem? (i := 782) (by decide +kernel), List.mem_of_getElem? (i := 783) (by decide +kernel)⟩
theorem lw_p38 : lw_okq (⟨"TokenMeshModel", "isNode", "(I)Z"⟩, 40) := ⟨⟨by decide +kernel, by decide +kernel⟩, List.mem_of_getElem? (i := 579) (by decide +kernel), List.mem_of_getElem? (i := 802) (by decide +kernel), List.mem_of_getElem? (i := 803) (by decide +kernel)⟩
def lw_privs_3 : List (MethodName × Nat) := [(⟨"TokenMeshModel", "giveWay", "(II)V"⟩, 40), (⟨"TokenMeshModel", "please", "(IIIZ)V"⟩, 40), (⟨"TokenMeshModel", "lapse", "(II)V"⟩, 40), (⟨"TokenMeshModel", "takeOut", "(II)V"⟩, 40), (⟨"TokenMeshModel", "tellAll", "(I)V"⟩, 40), (⟨"TokenMeshModel", "activate", "(I)V"⟩, 40), (⟨"TokenMeshModel", "isNode", "(I)Z"⟩, 40)]
theorem lw_r3 : ∀ q ∈ lw_privs_3, lw_okq q := List.forall_mem_cons.mpr ⟨lw_p32, List.forall_mem_cons.mpr ⟨lw_p33, List.forall_mem_cons.mpr ⟨lw_p34, List.forall_mem_cons.mpr ⟨lw_p35, List.forall_mem_cons.mpr ⟨lw_p36, List.forall_mem_cons.mpr ⟨lw_p37, List.forall_mem_cons.mpr ⟨lw_p38, fun _ h => absurd h List.not_mem_nil⟩⟩⟩⟩⟩⟩⟩
def lw_privs : List (MethodName × Nat) := lw_privs_1 ++ (lw_privs_2 ++ (lw_privs_3))
def lw_tbl : List Cond := k2_sels lw_privs ++ tables_1
theorem lw_privs_ok : ∀ q ∈ lw_privs, lw_okq q := by
  show ∀ q ∈ lw_privs_1 ++ (lw_privs_2 ++ (lw_privs_3)), lw_okq q
  exact List.forall_mem_append.mpr ⟨lw_r1, List.forall_mem_append.mpr ⟨lw_r2, lw_r3⟩⟩
end
section
/-! the classes whose objects the heap holds: number, fields in the order of the slots, their types -/
def cR0 : String := "java/util/ArrayList"
def cT0 : u_T := fun k => match k with
  | 0 => ("java/util/AbstractList", "modCount", "I", false)
  | 1 => ("java/util/ArrayList", "elementData", "[Ljava/lang/Object;", false)
  | _ => ("java/util/ArrayList", "size", "I", false)
def cY0 : Nat → FieldType := fun k => match k with
  | 0 => .int
  | 1 => .array (.object "java/lang/Object")
  | _ => .int
theorem cN0 : ∀ a, a < 3 → ∀ b, b < 3 → a ≠ b → (cT0 a).2.1 ≠ (cT0 b).2.1 := by decide +kernel
theorem cO0 : ∀ k, k < 3 → parseFieldDescriptor (cT0 k).2.2.1 = some (cY0 k) := by decide +kernel
def cR1 : String := "TokenMesh$Core"
def cT1 : u_T := fun k => match k with
  | 0 => ("TokenMesh$Core", "number", "I", false)
  | 1 => ("TokenMesh$Core", "underWay", "Z", false)
  | 2 => ("TokenMesh$Core", "write", "Z", false)
  | 3 => ("TokenMesh$Core", "block", "I", false)
  | 4 => ("TokenMesh$Core", "value", "I", false)
  | 5 => ("TokenMesh$Core", "repeated", "I", false)
  | 6 => ("TokenMesh$Core", "due", "I", false)
  | 7 => ("TokenMesh$Core", "persistent", "Z", false)
  | 8 => ("TokenMesh$Core", "endedCount", "I", false)
  | _ => ("TokenMesh$Core", "latestResult", "I", false)
def cY1 : Nat → FieldType := fun k => match k with
  | 0 => .int
  | 1 => .boolean
  | 2 => .boolean
  | 3 => .int
  | 4 => .int
  | 5 => .int
  | 6 => .int
  | 7 => .boolean
  | 8 => .int
  | _ => .int
theorem cN1 : ∀ a, a < 10 → ∀ b, b < 10 → a ≠ b → (cT1 a).2.1 ≠ (cT1 b).2.1 := by decide +kernel
theorem cO1 : ∀ k, k < 10 → parseFieldDescriptor (cT1 k).2.2.1 = some (cY1 k) := by decide +kernel
def cR2 : String := "TokenMesh$Desk"
def cT2 : u_T := fun k => match k with
  | 0 => ("TokenMesh$Desk", "row", "Ljava/util/ArrayList;", true)
  | 1 => ("TokenMesh$Desk", "active", "LTokenMesh$Request;", false)
  | _ => ("TokenMesh$Desk", "serial", "I", false)
def cY2 : Nat → FieldType := fun k => match k with
  | 0 => .object "java/util/ArrayList"
  | 1 => .object "TokenMesh$Request"
  | _ => .int
theorem cN2 : ∀ a, a < 3 → ∀ b, b < 3 → a ≠ b → (cT2 a).2.1 ≠ (cT2 b).2.1 := by decide +kernel
theorem cO2 : ∀ k, k < 3 → parseFieldDescriptor (cT2 k).2.2.1 = some (cY2 k) := by decide +kernel
def cR3 : String := "TokenMesh$Letter"
def cT3 : u_T := fun k => match k with
  | 0 => ("TokenMesh$Letter", "kind", "I", false)
  | 1 => ("TokenMesh$Letter", "from", "I", false)
  | 2 => ("TokenMesh$Letter", "to", "I", false)
  | 3 => ("TokenMesh$Letter", "block", "I", false)
  | 4 => ("TokenMesh$Letter", "count", "I", false)
  | 5 => ("TokenMesh$Letter", "owner", "Z", false)
  | 6 => ("TokenMesh$Letter", "withData", "Z", false)
  | 7 => ("TokenMesh$Letter", "value", "I", false)
  | 8 => ("TokenMesh$Letter", "number", "I", false)
  | 9 => ("TokenMesh$Letter", "activeCore", "I", false)
  | _ => ("TokenMesh$Letter", "write", "Z", false)
def cY3 : Nat → FieldType := fun k => match k with
  | 0 => .int
  | 1 => .int
  | 2 => .int
  | 3 => .int
  | 4 => .int
  | 5 => .boolean
  | 6 => .boolean
  | 7 => .int
  | 8 => .int
  | 9 => .int
  | _ => .boolean
theorem cN3 : ∀ a, a < 11 → ∀ b, b < 11 → a ≠ b → (cT3 a).2.1 ≠ (cT3 b).2.1 := by decide +kernel
theorem cO3 : ∀ k, k < 11 → parseFieldDescriptor (cT3 k).2.2.1 = some (cY3 k) := by decide +kernel
def cR4 : String := "TokenMesh$Mail"
def cT4 : u_T := fun k => match k with
  | 0 => ("TokenMesh$Mail", "waiting", "Ljava/util/ArrayList;", true)
  | _ => ("TokenMesh$Mail", "spare", "Ljava/util/ArrayList;", true)
def cY4 : Nat → FieldType := fun k => match k with
  | 0 => .object "java/util/ArrayList"
  | _ => .object "java/util/ArrayList"
theorem cN4 : ∀ a, a < 2 → ∀ b, b < 2 → a ≠ b → (cT4 a).2.1 ≠ (cT4 b).2.1 := by decide +kernel
theorem cO4 : ∀ k, k < 2 → parseFieldDescriptor (cT4 k).2.2.1 = some (cY4 k) := by decide +kernel
def cR5 : String := "TokenMesh$Request"
def cT5 : u_T := fun k => match k with
  | 0 => ("TokenMesh$Request", "core", "I", true)
  | 1 => ("TokenMesh$Request", "number", "I", true)
  | _ => ("TokenMesh$Request", "write", "Z", true)
def cY5 : Nat → FieldType := fun k => match k with
  | 0 => .int
  | 1 => .int
  | _ => .boolean
theorem cN5 : ∀ a, a < 3 → ∀ b, b < 3 → a ≠ b → (cT5 a).2.1 ≠ (cT5 b).2.1 := by decide +kernel
theorem cO5 : ∀ k, k < 3 → parseFieldDescriptor (cT5 k).2.2.1 = some (cY5 k) := by decide +kernel
def cR6 : String := "TokenMesh$Share"
def cT6 : u_T := fun k => match k with
  | 0 => ("TokenMesh$Share", "count", "I", false)
  | 1 => ("TokenMesh$Share", "owner", "Z", false)
  | 2 => ("TokenMesh$Share", "valid", "Z", false)
  | 3 => ("TokenMesh$Share", "value", "I", false)
  | 4 => ("TokenMesh$Share", "activeCore", "I", false)
  | 5 => ("TokenMesh$Share", "activeWrite", "Z", false)
  | _ => ("TokenMesh$Share", "serial", "I", false)
def cY6 : Nat → FieldType := fun k => match k with
  | 0 => .int
  | 1 => .boolean
  | 2 => .boolean
  | 3 => .int
  | 4 => .int
  | 5 => .boolean
  | _ => .int
theorem cN6 : ∀ a, a < 7 → ∀ b, b < 7 → a ≠ b → (cT6 a).2.1 ≠ (cT6 b).2.1 := by decide +kernel
theorem cO6 : ∀ k, k < 7 → parseFieldDescriptor (cT6 k).2.2.1 = some (cY6 k) := by decide +kernel
def cR7 : String := "TokenMesh"
def cT7 : u_T := fun k => match k with
  | 0 => ("TokenMesh", "cores", "I", true)
  | 1 => ("TokenMesh", "home", "I", true)
  | 2 => ("TokenMesh", "allTokens", "I", true)
  | 3 => ("TokenMesh", "repeats", "I", true)
  | 4 => ("TokenMesh", "patience", "I", true)
  | 5 => ("TokenMesh", "shares", "[LTokenMesh$Share;", true)
  | 6 => ("TokenMesh", "crew", "[LTokenMesh$Core;", true)
  | 7 => ("TokenMesh", "desks", "[LTokenMesh$Desk;", true)
  | 8 => ("TokenMesh", "lapsed", "[I", true)
  | 9 => ("TokenMesh", "mail", "LTokenMesh$Mail;", true)
  | _ => ("TokenMesh", "time", "I", false)
def cY7 : Nat → FieldType := fun k => match k with
  | 0 => .int
  | 1 => .int
  | 2 => .int
  | 3 => .int
  | 4 => .int
  | 5 => .array (.object "TokenMesh$Share")
  | 6 => .array (.object "TokenMesh$Core")
  | 7 => .array (.object "TokenMesh$Desk")
  | 8 => .array .int
  | 9 => .object "TokenMesh$Mail"
  | _ => .int
theorem cN7 : ∀ a, a < 11 → ∀ b, b < 11 → a ≠ b → (cT7 a).2.1 ≠ (cT7 b).2.1 := by decide +kernel
theorem cO7 : ∀ k, k < 11 → parseFieldDescriptor (cT7 k).2.2.1 = some (cY7 k) := by decide +kernel
def cR8 : String := "TokenMeshModel"
def cT8 : u_T := fun k => match k with
  | 0 => ("TokenMeshModel", "thrown", "I", false)
  | 1 => ("TokenMeshModel", "cores", "I", true)
  | 2 => ("TokenMeshModel", "repeats", "I", true)
  | 3 => ("TokenMeshModel", "patience", "I", true)
  | 4 => ("TokenMeshModel", "time", "I", false)
  | 5 => ("TokenMeshModel", "tokens", "[I", true)
  | 6 => ("TokenMeshModel", "owner", "[Z", true)
  | 7 => ("TokenMeshModel", "valid", "[Z", true)
  | 8 => ("TokenMeshModel", "data", "[I", true)
  | 9 => ("TokenMeshModel", "known", "[I", true)
  | 10 => ("TokenMeshModel", "knownWrite", "[Z", true)
  | 11 => ("TokenMeshModel", "serials", "[I", true)
  | 12 => ("TokenMeshModel", "busy", "[Z", true)
  | 13 => ("TokenMeshModel", "writes", "[Z", true)
  | 14 => ("TokenMeshModel", "persistent", "[Z", true)
  | 15 => ("TokenMeshModel", "blocks", "[I", true)
  | 16 => ("TokenMeshModel", "values", "[I", true)
  | 17 => ("TokenMeshModel", "numbers", "[I", true)
  | 18 => ("TokenMeshModel", "repeated", "[I", true)
  | 19 => ("TokenMeshModel", "due", "[I", true)
  | 20 => ("TokenMeshModel", "endedCount", "[I", true)
  | 21 => ("TokenMeshModel", "results", "[I", true)
  | 22 => ("TokenMeshModel", "rowCores", "[I", true)
  | 23 => ("TokenMeshModel", "rowNumbers", "[I", true)
  | 24 => ("TokenMeshModel", "rowWrites", "[Z", true)
  | 25 => ("TokenMeshModel", "rowSizes", "[I", true)
  | 26 => ("TokenMeshModel", "activeNumbers", "[I", true)
  | 27 => ("TokenMeshModel", "lapsed", "[I", true)
  | 28 => ("TokenMeshModel", "letters", "I", false)
  | 29 => ("TokenMeshModel", "kinds", "[I", true)
  | 30 => ("TokenMeshModel", "tos", "[I", true)
  | 31 => ("TokenMeshModel", "froms", "[I", true)
  | 32 => ("TokenMeshModel", "letterBlocks", "[I", true)
  | 33 => ("TokenMeshModel", "counts", "[I", true)
  | 34 => ("TokenMeshModel", "withOwner", "[Z", true)
  | 35 => ("TokenMeshModel", "withData", "[Z", true)
  | 36 => ("TokenMeshModel", "letterData", "[I", true)
  | 37 => ("TokenMeshModel", "letterNumbers", "[I", true)
  | 38 => ("TokenMeshModel", "letterCores", "[I", true)
  | _ => ("TokenMeshModel", "letterWrites", "[Z", true)
def cY8 : Nat → FieldType := fun k => match k with
  | 0 => .int
  | 1 => .int
  | 2 => .int
  | 3 => .int
  | 4 => .int
  | 5 => .array .int
  | 6 => .array .boolean
  | 7 => .array .boolean
  | 8 => .array .int
  | 9 => .array .int
  | 10 => .array .boolean
  | 11 => .array .int
  | 12 => .array .boolean
  | 13 => .array .boolean
  | 14 => .array .boolean
  | 15 => .array .int
  | 16 => .array .int
  | 17 => .array .int
  | 18 => .array .int
  | 19 => .array .int
  | 20 => .array .int
  | 21 => .array .int
  | 22 => .array .int
  | 23 => .array .int
  | 24 => .array .boolean
  | 25 => .array .int
  | 26 => .array .int
  | 27 => .array .int
  | 28 => .int
  | 29 => .array .int
  | 30 => .array .int
  | 31 => .array .int
  | 32 => .array .int
  | 33 => .array .int
  | 34 => .array .boolean
  | 35 => .array .boolean
  | 36 => .array .int
  | 37 => .array .int
  | 38 => .array .int
  | _ => .array .boolean
theorem cN8 : ∀ a, a < 40 → ∀ b, b < 40 → a ≠ b → (cT8 a).2.1 ≠ (cT8 b).2.1 := by decide +kernel
theorem cO8 : ∀ k, k < 40 → parseFieldDescriptor (cT8 k).2.2.1 = some (cY8 k) := by decide +kernel
abbrev cls : List vw_C := [(cR0, cT0, 3), (cR1, cT1, 10), (cR2, cT2, 3), (cR3, cT3, 11), (cR4, cT4, 2), (cR5, cT5, 3), (cR6, cT6, 7), (cR7, cT7, 11), (cR8, cT8, 40)]
/-- a field's type, by its class's number and its own -/
def fty : Nat → Nat → FieldType := fun ci => match ci with
  | 0 => cY0
  | 1 => cY1
  | 2 => cY2
  | 3 => cY3
  | 4 => cY4
  | 5 => cY5
  | 6 => cY6
  | 7 => cY7
  | _ => cY8
def isR (ci k : Nat) : Bool := match fty ci k with
  | .object _ => true
  | .array _ => true
  | _ => false
/-- the words that hold over every step, and the others -/
def GT : List Cond := lw_tbl.filter goodWord
def isN (w : Cond) : Bool := match w with
  | .methodLinkNest .. => true
  | .castable .. => true
  | .declares .. => true
  | .arrayOver (.object _) => true
  | _ => false
def NT : List Cond := lw_tbl.filter isN
theorem gt_at {w : Cond} (i : Nat) (h : lw_tbl[i]? = some w) (hg : goodWord w = true) : w ∈ GT := List.mem_filter.mpr ⟨List.mem_of_getElem? h, hg⟩
theorem nt_at {w : Cond} (i : Nat) (h : lw_tbl[i]? = some w) (hg : isN w = true) : w ∈ NT := List.mem_filter.mpr ⟨List.mem_of_getElem? h, hg⟩
theorem cI0 : ∀ w ∈ u_ws cR0 cT0 3, w ∈ GT := fun w h => List.mem_filter.mpr ((fun (q : ([186, 182, 184].filterMap (fun i => lw_tbl[i]?) = u_ws cR0 cT0 3) ∧ (u_ws cR0 cT0 3).all goodWord = true) => ⟨(by rw [← q.1] at h; obtain ⟨i, -, hi⟩ := List.mem_filterMap.mp h; exact List.mem_of_getElem? hi), List.all_eq_true.mp q.2 w h⟩) ⟨by decide +kernel, by decide +kernel⟩)
theorem cI1 : ∀ w ∈ u_ws cR1 cT1 10, w ∈ GT := fun w h => List.mem_filter.mpr ((fun (q : ([135, 137, 139, 141, 143, 145, 147, 149, 151, 153].filterMap (fun i => lw_tbl[i]?) = u_ws cR1 cT1 10) ∧ (u_ws cR1 cT1 10).all goodWord = true) => ⟨(by rw [← q.1] at h; obtain ⟨i, -, hi⟩ := List.mem_filterMap.mp h; exact List.mem_of_getElem? hi), List.all_eq_true.mp q.2 w h⟩) ⟨by decide +kernel, by decide +kernel⟩)
theorem cI2 : ∀ w ∈ u_ws cR2 cT2 3, w ∈ GT := fun w h => List.mem_filter.mpr ((fun (q : ([194, 196, 198].filterMap (fun i => lw_tbl[i]?) = u_ws cR2 cT2 3) ∧ (u_ws cR2 cT2 3).all goodWord = true) => ⟨(by rw [← q.1] at h; obtain ⟨i, -, hi⟩ := List.mem_filterMap.mp h; exact List.mem_of_getElem? hi), List.all_eq_true.mp q.2 w h⟩) ⟨by decide +kernel, by decide +kernel⟩)
theorem cI3 : ∀ w ∈ u_ws cR3 cT3 11, w ∈ GT := fun w h => List.mem_filter.mpr ((fun (q : ([404, 406, 408, 410, 412, 414, 416, 418, 420, 422, 424].filterMap (fun i => lw_tbl[i]?) = u_ws cR3 cT3 11) ∧ (u_ws cR3 cT3 11).all goodWord = true) => ⟨(by rw [← q.1] at h; obtain ⟨i, -, hi⟩ := List.mem_filterMap.mp h; exact List.mem_of_getElem? hi), List.all_eq_true.mp q.2 w h⟩) ⟨by decide +kernel, by decide +kernel⟩)
theorem cI4 : ∀ w ∈ u_ws cR4 cT4 2, w ∈ GT := fun w h => List.mem_filter.mpr ((fun (q : ([211, 213].filterMap (fun i => lw_tbl[i]?) = u_ws cR4 cT4 2) ∧ (u_ws cR4 cT4 2).all goodWord = true) => ⟨(by rw [← q.1] at h; obtain ⟨i, -, hi⟩ := List.mem_filterMap.mp h; exact List.mem_of_getElem? hi), List.all_eq_true.mp q.2 w h⟩) ⟨by decide +kernel, by decide +kernel⟩)
theorem cI5 : ∀ w ∈ u_ws cR5 cT5 3, w ∈ GT := fun w h => List.mem_filter.mpr ((fun (q : ([537, 539, 541].filterMap (fun i => lw_tbl[i]?) = u_ws cR5 cT5 3) ∧ (u_ws cR5 cT5 3).all goodWord = true) => ⟨(by rw [← q.1] at h; obtain ⟨i, -, hi⟩ := List.mem_filterMap.mp h; exact List.mem_of_getElem? hi), List.all_eq_true.mp q.2 w h⟩) ⟨by decide +kernel, by decide +kernel⟩)
theorem cI6 : ∀ w ∈ u_ws cR6 cT6 7, w ∈ GT := fun w h => List.mem_filter.mpr ((fun (q : ([95, 97, 99, 101, 103, 105, 107].filterMap (fun i => lw_tbl[i]?) = u_ws cR6 cT6 7) ∧ (u_ws cR6 cT6 7).all goodWord = true) => ⟨(by rw [← q.1] at h; obtain ⟨i, -, hi⟩ := List.mem_filterMap.mp h; exact List.mem_of_getElem? hi), List.all_eq_true.mp q.2 w h⟩) ⟨by decide +kernel, by decide +kernel⟩)
theorem cI7 : ∀ w ∈ u_ws cR7 cT7 11, w ∈ GT := fun w h => List.mem_filter.mpr ((fun (q : ([227, 229, 231, 233, 235, 237, 239, 241, 243, 245, 247].filterMap (fun i => lw_tbl[i]?) = u_ws cR7 cT7 11) ∧ (u_ws cR7 cT7 11).all goodWord = true) => ⟨(by rw [← q.1] at h; obtain ⟨i, -, hi⟩ := List.mem_filterMap.mp h; exact List.mem_of_getElem? hi), List.all_eq_true.mp q.2 w h⟩) ⟨by decide +kernel, by decide +kernel⟩)
theorem cI8 : ∀ w ∈ u_ws cR8 cT8 40, w ∈ GT := fun w h => List.mem_filter.mpr ((fun (q : ([663, 665, 667, 669, 671, 673, 675, 677, 679, 681, 683, 685, 687, 689, 691, 693, 695, 697, 699, 701, 703, 705, 707, 709, 711, 713, 715, 717, 719, 721, 723, 725, 727, 729, 731, 733, 735, 737, 739, 741].filterMap (fun i => lw_tbl[i]?) = u_ws cR8 cT8 40) ∧ (u_ws cR8 cT8 40).all goodWord = true) => ⟨(by rw [← q.1] at h; obtain ⟨i, -, hi⟩ := List.mem_filterMap.mp h; exact List.mem_of_getElem? hi), List.all_eq_true.mp q.2 w h⟩) ⟨by decide +kernel, by decide +kernel⟩)
end
section
/-! THE PURE SIDE: values, the heap as maps by field, what a machine heap that holds it is, the two judgements -/
/-- a value: a whole number, or a reference (0: null, a + 1: the cell at a) -/
abbrev PV : Type := Int32 ⊕ Nat
def tv (v : PV) : Value := match v with
  | .inl x => .int x
  | .inr 0 => .null
  | .inr (a + 1) => .ref a
theorem tv_cat (v : PV) : (tv v).category = 1 := by
  rcases v with x | r
  · rfl
  · cases r <;> rfl
/-- next reference, slots made, the kind of each reference; fields of whole numbers, of references; arrays: length, numbers, references -/
abbrev PS : Type := (Nat × Nat × (Nat → Nat)) × (Nat → Nat → Int32) × (Nat → Nat → Nat) × (Nat → Nat) × (Nat → Nat → Int32) × (Nat → Nat → Nat)
def nx (σ : PS) : Nat := σ.1.1
def sl (σ : PS) : Nat := σ.1.2.1
def tg (σ : PS) : Nat → Nat := σ.1.2.2
def fi (σ : PS) : Nat → Nat → Int32 := σ.2.1
def fr (σ : PS) : Nat → Nat → Nat := σ.2.2.1
def al (σ : PS) : Nat → Nat := σ.2.2.2.1
def ai (σ : PS) : Nat → Nat → Int32 := σ.2.2.2.2.1
def ar (σ : PS) : Nat → Nat → Nat := σ.2.2.2.2.2
def up2 {α : Type} (f : Nat → Nat → α) (i a : Nat) (v : α) : Nat → Nat → α := fun j b => if j = i ∧ b = a then v else f j b
def pfi (σ : PS) (i a : Nat) (v : Int32) : PS := (σ.1, up2 (fi σ) i a v, fr σ, al σ, ai σ, ar σ)
def pfr (σ : PS) (i a : Nat) (v : Nat) : PS := (σ.1, fi σ, up2 (fr σ) i a v, al σ, ai σ, ar σ)
def pai (σ : PS) (a j : Nat) (v : Int32) : PS := (σ.1, fi σ, fr σ, al σ, up2 (ai σ) a j v, ar σ)
def par (σ : PS) (a j : Nat) (v : Nat) : PS := (σ.1, fi σ, fr σ, al σ, ai σ, up2 (ar σ) a j v)
/-- a new object of class ci with N slots; its reference is nx σ -/
def pnew (σ : PS) (ci N : Nat) : PS := ((nx σ + 1, sl σ + N, va_up (tg σ) (nx σ) (ci + 1)), (fun i b => if b = nx σ then 0 else fi σ i b), (fun i b => if b = nx σ then 0 else fr σ i b), al σ, ai σ, ar σ)
/-- a new array of kind ti and length n; its reference is nx σ -/
def parr (σ : PS) (ti n : Nat) : PS := ((nx σ + 1, sl σ + n, va_up (tg σ) (nx σ) (100 + ti)), fi σ, fr σ, va_up (al σ) (nx σ) n, (fun b j => if b = nx σ then 0 else ai σ b j), (fun b j => if b = nx σ then 0 else ar σ b j))
/-- n references copied from a0 at sp to a at dp -/
def pcpy (σ : PS) (a0 sp a dp n : Nat) : PS := (σ.1, fi σ, fr σ, al σ, ai σ, (fun b j => if b = a then va_cpy (ar σ a0) (ar σ a) sp dp n j else ar σ b j))
def fval (σ : PS) (ci k r : Nat) : Value := if isR ci k = true then tv (.inr (fr σ (64 * ci + k) r)) else .int (fi σ (64 * ci + k) r)
/-- classes' ids, slots of fields, ids of array classes, the empty row of ArrayList, the class object of Object[], where the new cells begin; the script: where it lies, its length, its numbers -/
abbrev KX : Type := (Nat → ClassId) × (Nat → Nat → Nat) × (Nat → ClassId) × Nat × Nat × Nat × Nat × Nat × (Nat → Int32)
def kC (K : KX) : Nat → ClassId := K.1
def kI (K : KX) : Nat → Nat → Nat := K.2.1
def kA (K : KX) : Nat → ClassId := K.2.2.1
def kz (K : KX) : Nat := K.2.2.2.1
def km (K : KX) : Nat := K.2.2.2.2.1
def kb (K : KX) : Nat := K.2.2.2.2.2.1
def kx (K : KX) : Nat := K.2.2.2.2.2.2.1
def kL (K : KX) : Nat := K.2.2.2.2.2.2.2.1
def kX (K : KX) : Nat → Int32 := K.2.2.2.2.2.2.2.2
def aty (ti : Nat) : FieldType := match ti with
  | 0 => .int
  | 1 => .boolean
  | 2 => .object "java/lang/Object"
  | 3 => .object "TokenMesh$Share"
  | 4 => .object "TokenMesh$Core"
  | _ => .object "TokenMesh$Desk"
def tys (K : KX) : List (ClassId × FieldType) := [(kA K 0, aty 0), (kA K 1, aty 1), (kA K 2, aty 2), (kA K 3, aty 3), (kA K 4, aty 4), (kA K 5, aty 5)]
def aval (σ : PS) (ti r j : Nat) : Value := if ti < 2 then .int (ai σ r j) else tv (.inr (ar σ r j))
/-- the machine's heap holds the pure one -/
def RepH (K : KX) (σ : PS) (H : Heap) : Prop :=
  nx σ = H.size + 1 ∧ kb K ≤ H.size ∧
  (∀ (a ci : Nat) (q : vw_C), tg σ (a + 1) = ci + 1 → cls[ci]? = some q → kb K ≤ a ∧ t_OB a (kC K ci) q.2.2 (kI K ci) H (fun k => fval σ ci k (a + 1))) ∧
  (∀ (a ti : Nat), ti < 6 → tg σ (a + 1) = 100 + ti → kb K ≤ a ∧ H[a]? = some (arrV (kA K ti) (al σ (a + 1)) (fun j => aval σ ti (a + 1) j))) ∧
  (∀ r : Nat, tg σ r = 99 → r = kz K + 1 ∧ al σ r = 0) ∧ (∀ r : Nat, tg σ r = 98 → r = kx K + 1 ∧ al σ r = kL K ∧ ∀ j : Nat, j < kL K → ai σ r j = kX K j) ∧ tg σ 0 = 0 ∧ al σ 0 = km K + 1
/-- what stands fast: the classes' tables, the words that a call does not hand on by itself, the statics -/
def SF (K : KX) (s : State) : Prop :=
  va_K (kC K, kI K) cls (tys K) s ∧ (∀ w ∈ NT, va_Nw w s) ∧
  va_Z "java/util/ArrayList" "DEFAULTCAPACITY_EMPTY_ELEMENTDATA" "[Ljava/lang/Object;" (.ref (kz K)) (fun q => kb K ≤ q) s s.heap ∧
  va_T (.object "java/lang/Object") (kz K) 0 (fun _ => .null) (fun q => kb K ≤ q) s s.heap ∧ va_Mi "[Ljava/lang/Object;" (km K) s ∧ va_X (kx K) (kL K) (kX K) s s.heap ∧ kx K < kb K
/-- a method: its name, code, number of locals, kind of answer -/
abbrev MM : Type := MethodName × ByteArray × Nat × Option FieldType
def mws (M : MM) : List Cond := Cond.code M.1 M.2.1 M.2.2.1 M.2.2.2 :: GT
def rmd (d c n : Nat) : Room := { frames := d, cells := c, slots := n, locals := 41 * d }
def Pcx (K : KX) (as : List PV) (σ : PS) : Array Value → State → Prop := fun v U => v = (as.map tv).toArray ∧ RepH K σ U.heap ∧ SF K U
def Qcx (K : KX) (v : Option PV) (σ' : PS) : Array Value → State → Outcome → State → Prop := fun _ st o t => o = .returned (v.map tv) ∧ RepH K σ' t.heap ∧ ∀ q : Nat, q < kb K → t.heap[q]? = st.heap[q]?
/-- from σ, called with as, the method comes to an answer and a heap of which P holds; d: how deep its calls go -/
def Ctr (M : MM) (d : Nat) (as : List PV) (σ : PS) (P : Option PV → PS → Prop) : Prop :=
  ∃ (v : Option PV) (σ' : PS), P v σ' ∧ nx σ ≤ nx σ' ∧ sl σ ≤ sl σ' ∧ ∀ (l : Launch) (K : KX), Met l M.1 (mws M) (rmd d (nx σ' - nx σ) (sl σ' - sl σ)) (Pcx K as σ) (Qcx K v σ') (nx σ' - nx σ) (sl σ' - sl σ) (fun q => kb K ≤ q)
/-- what stands fast inside a method -/
def Cx (M : MM) (d : Nat) (K : KX) (p : Program) (R : Room) (s : State) (m : MethodId) (args : Array Value) (meth : Method) (c : Code) : Prop :=
  p.tables.exec = Jvm.exec ∧ c.code = M.2.1 ∧ c.maxLocals = M.2.2.1 ∧ s.vm.findClass M.1.cls = some m.cls ∧ (∀ w ∈ GT, w.before args s = true) ∧ SF K s ∧ d ≤ R.frames ∧ 41 * d ≤ R.locals ∧ meth.name = M.1.name
def dd : List (Nat × PV) → List (Nat × PV)
  | [] => []
  | q :: t => q :: (dd t).filter (fun r => !(r.1 == q.1))
def lget : List (Nat × PV) → Nat → Option PV
  | [], _ => none
  | q :: t, k => if q.1 = k then some q.2 else lget t k
def lvs (lv : List (Nat × PV)) : List (Nat × Value) := (dd lv).map (fun q => (q.1, tv q.2))
def RetI (M : MM) (pc : Nat) (v : Option PV) : Prop :=
  (decode M.2.1 pc = .ok (.ireturn, 1) ∧ ∃ x, v = some (.inl x)) ∨ (decode M.2.1 pc = .ok (.areturn, 1) ∧ ∃ r, v = some (.inr r)) ∨ (decode M.2.1 pc = .ok (.return_, 1) ∧ v = none)
/-- from σ, at pc with locals lv and stack st, the body comes to its return with an answer and a heap of which P holds -/
def Wp (M : MM) (d pc : Nat) (lv : List (Nat × PV)) (st : List PV) (σ : PS) (P : Option PV → PS → Prop) : Prop :=
  ∃ (v : Option PV) (σ' : PS), P v σ' ∧ nx σ ≤ nx σ' ∧ sl σ ≤ sl σ' ∧
    ∀ (p : Program) (l : Launch) (e : Env) (R : Room) (s : State) (m : MethodId) (args : Array Value) (below : List Frame) (meth : Method) (c : Code) (K : KX) (H : Heap) (locs : List Loc) (cells slots : Nat) (ls : Array Slot) (Z : State → Prop),
      Cx M d K p R s m args meth c → RepH K σ H → (∀ q : Nat, q < kb K → H[q]? = s.heap[q]?) → (∀ q ∈ locs, kb K ≤ q.base) →
      cells + (nx σ' - nx σ) ≤ R.cells → slots + (sl σ' - sl σ) ≤ R.slots → lv_has ls M.2.2.1 (lvs lv) →
      (∀ (H' : Heap) (locs' : List Loc) (pc' : Nat) (ls' : Array Slot), RepH K σ' H' → (∀ q : Nat, q < kb K → H'[q]? = s.heap[q]?) → (∀ q ∈ locs', kb K ≤ q.base) → RetI M pc' v →
        W p l e R s m args below meth c H' locs' (cells + (nx σ' - nx σ)) (slots + (sl σ' - sl σ)) Z (F0 m pc' ls' (v.toList.map tv))) →
      W p l e R s m args below meth c H locs cells slots Z (F0 m pc ls (st.map tv))
theorem lget_mem : ∀ (lv : List (Nat × PV)) (k : Nat) (v : PV), lget lv k = some v → (k, v) ∈ dd lv
  | [], k, v, h => by simp [lget] at h
  | q :: t, k, v, h => by
    unfold lget at h
    by_cases hk : q.1 = k
    · rw [if_pos hk] at h
      cases h
      subst hk
      exact List.mem_cons_self
    · rw [if_neg hk] at h
      exact List.mem_cons_of_mem _ (List.mem_filter.mpr ⟨lget_mem t k v h, by simp; exact fun e => hk e.symm⟩)
theorem mem_lget : ∀ (lv : List (Nat × PV)) (k : Nat) (v : PV), (k, v) ∈ dd lv → lget lv k = some v
  | [], k, v, h => by simp [dd] at h
  | q :: t, k, v, h => by
    unfold lget
    rcases List.mem_cons.mp h with h1 | h1
    · rw [← h1]; simp
    · obtain ⟨h2, h3⟩ := List.mem_filter.mp h1
      have hne : ¬ q.1 = k := by
        intro e
        simp at h3
        exact h3 e.symm
      rw [if_neg hne]
      exact mem_lget t k v h2
theorem lvs_get {ls : Array Slot} {n : Nat} {lv : List (Nat × PV)} (h : lv_has ls n (lvs lv)) {k : Nat} {v : PV} (hv : lget lv k = some v) : ls[k]? = some (.val (tv v)) :=
  h.2.2 (k, tv v) (List.mem_map.mpr ⟨(k, v), lget_mem lv k v hv, rfl⟩)
theorem lvs_cons {lv : List (Nat × PV)} {i : Nat} {v : PV} : (i, tv v) :: (lvs lv).filter (fun q => !(q.1 == i) && !(q.1 + 1 == i && q.2.category == 2)) = lvs ((i, v) :: lv) := by
  unfold lvs
  simp only [dd, List.map_cons, List.cons.injEq, true_and]
  rw [List.filter_map]
  congr 1
  apply List.filter_congr
  intro q _
  simp [tv_cat]
/-- a step that leaves heap and locals alone -/
theorem Wp.go {M : MM} {d pc pc' : Nat} {lv : List (Nat × PV)} {st st' : List PV} {σ : PS} {P : Option PV → PS → Prop}
    (h : ∀ (p : Program) (l : Launch) (e : Env) (R : Room) (s : State) (m : MethodId) (args : Array Value) (below : List Frame) (meth : Method) (c : Code) (K : KX) (H : Heap) (locs : List Loc) (cells slots : Nat) (ls : Array Slot) (Z : State → Prop), Cx M d K p R s m args meth c → RepH K σ H → (∀ q : Nat, q < kb K → H[q]? = s.heap[q]?) → (∀ q ∈ locs, kb K ≤ q.base) → lv_has ls M.2.2.1 (lvs lv) →
      W p l e R s m args below meth c H locs cells slots Z (F0 m pc' ls (st'.map tv)) → W p l e R s m args below meth c H locs cells slots Z (F0 m pc ls (st.map tv)))
    (k : Wp M d pc' lv st' σ P) : Wp M d pc lv st σ P := by
  obtain ⟨v, σ', hP, h1, h2, hW⟩ := k
  exact ⟨v, σ', hP, h1, h2, fun p l e R s m args below meth c K H locs cells slots ls Z C hR hB hL hc hs hl hk => h p l e R s m args below meth c K H locs cells slots ls Z C hR hB hL hl (hW p l e R s m args below meth c K H locs cells slots ls Z C hR hB hL hc hs hl hk)⟩
/-- a step that stores one local -/
theorem Wp.store {M : MM} {d pc pc' : Nat} {lv lv' : List (Nat × PV)} {st st' : List PV} {σ : PS} {P : Option PV → PS → Prop}
    (h : ∀ (p : Program) (l : Launch) (e : Env) (R : Room) (s : State) (m : MethodId) (args : Array Value) (below : List Frame) (meth : Method) (c : Code) (K : KX) (H : Heap) (locs : List Loc) (cells slots : Nat) (ls : Array Slot) (Z : State → Prop), Cx M d K p R s m args meth c → lv_has ls M.2.2.1 (lvs lv) →
      (∀ ls' : Array Slot, lv_has ls' M.2.2.1 (lvs lv') → W p l e R s m args below meth c H locs cells slots Z (F0 m pc' ls' (st'.map tv))) → W p l e R s m args below meth c H locs cells slots Z (F0 m pc ls (st.map tv)))
    (k : Wp M d pc' lv' st' σ P) : Wp M d pc lv st σ P := by
  obtain ⟨v, σ', hP, h1, h2, hW⟩ := k
  exact ⟨v, σ', hP, h1, h2, fun p l e R s m args below meth c K H locs cells slots ls Z C hR hB hL hc hs hl hk => h p l e R s m args below meth c K H locs cells slots ls Z C hl (fun ls' hl' => hW p l e R s m args below meth c K H locs cells slots ls' Z C hR hB hL hc hs hl' hk)⟩
theorem Wp.mono {M : MM} {d pc : Nat} {lv : List (Nat × PV)} {st : List PV} {σ : PS} {P P' : Option PV → PS → Prop} (k : Wp M d pc lv st σ P) (h : ∀ v σ', P v σ' → P' v σ') : Wp M d pc lv st σ P' := by
  obtain ⟨v, σ', hP, r⟩ := k
  exact ⟨v, σ', h v σ' hP, r⟩
theorem Ctr.mono {M : MM} {d : Nat} {as : List PV} {σ : PS} {P P' : Option PV → PS → Prop} (k : Ctr M d as σ P) (h : ∀ v σ', P v σ' → P' v σ') : Ctr M d as σ P' := by
  obtain ⟨v, σ', hP, r⟩ := k
  exact ⟨v, σ', h v σ' hP, r⟩
def lsub (lv : List (Nat × PV)) : List (Nat × PV) → Prop
  | [] => True
  | q :: t => lget lv q.1 = some q.2 ∧ lsub lv t
theorem lsub_get {lv : List (Nat × PV)} : ∀ (lv' : List (Nat × PV)), lsub lv lv' → ∀ q ∈ lv', lget lv q.1 = some q.2
  | [], _, q, hq => by cases hq
  | r :: t, h, q, hq => by
    rcases List.mem_cons.mp hq with rfl | h1
    · exact h.1
    · exact lsub_get t h.2 q h1
theorem dd_mem : ∀ (lv : List (Nat × PV)) (q : Nat × PV), q ∈ dd lv → q ∈ lv
  | [], q, h => h
  | r :: t, q, h => by
    rcases List.mem_cons.mp h with rfl | h1
    · exact List.mem_cons_self
    · exact List.mem_cons_of_mem _ (dd_mem t q (List.mem_filter.mp h1).1)
/-- other words for the locals -/
theorem Wp.lv {M : MM} {d pc : Nat} {lv : List (Nat × PV)} (lv' : List (Nat × PV)) {st : List PV} {σ : PS} {P : Option PV → PS → Prop} (h : lsub lv lv') (k : Wp M d pc lv' st σ P) : Wp M d pc lv st σ P := by
  obtain ⟨v, σ', hP, h1, h2, hW⟩ := k
  refine ⟨v, σ', hP, h1, h2, fun p l e R s m args below meth c K H locs cells slots ls Z C hR hB hL hc hs hl hk => hW p l e R s m args below meth c K H locs cells slots ls Z C hR hB hL hc hs ⟨hl.1, hl.2.1, fun q hq => ?_⟩ hk⟩
  obtain ⟨r, hr, rfl⟩ := List.mem_map.mp hq
  exact lvs_get hl (lsub_get lv' h r (dd_mem lv' r hr))
end
section
/-! rows of single instructions that leave the heap alone -/
section RowsA
variable {M : MM} {d pc : Nat} {lv : List (Nat × PV)} {st : List PV} {σ : PS} {P : Option PV → PS → Prop}
theorem p_iconst {n : Int} {x : Int32} (hd : decode M.2.1 pc = .ok (.iconst n, 1)) (hv : Int32.ofInt n = x) (k : Wp M d (pc + 1) lv (.inl x :: st) σ P) : Wp M d pc lv st σ P :=
  Wp.go (fun p l e R s m args below meth c K H locs cells slots ls Z C hR hB hL hl k => lv_iconst C.1 C.2.1 hd hv k) k
theorem p_bipush {n : Int} {x : Int32} (hd : decode M.2.1 pc = .ok (.bipush n, 2)) (hv : (Int8.ofInt n).toInt32 = x) (k : Wp M d (pc + 2) lv (.inl x :: st) σ P) : Wp M d pc lv st σ P :=
  Wp.go (fun p l e R s m args below meth c K H locs cells slots ls Z C hR hB hL hl k => lv_bipush C.1 C.2.1 hd hv k) k
theorem p_sipush {n : Int} {x : Int32} (hd : decode M.2.1 pc = .ok (.sipush n, 3)) (hv : (Int16.ofInt n).toInt32 = x) (k : Wp M d (pc + 3) lv (.inl x :: st) σ P) : Wp M d pc lv st σ P :=
  Wp.go (fun p l e R s m args below meth c K H locs cells slots ls Z C hR hB hL hl k => lv_sipush C.1 C.2.1 hd hv k) k
theorem p_null (hd : decode M.2.1 pc = .ok (.aconst_null, 1)) (k : Wp M d (pc + 1) lv (.inr 0 :: st) σ P) : Wp M d pc lv st σ P :=
  Wp.go (fun p l e R s m args below meth c K H locs cells slots ls Z C hR hB hL hl k => lv_null C.1 C.2.1 hd k) k
theorem p_iload {i : Nat} {x : Int32} (hd : decode M.2.1 pc = .ok (.iload i, 2)) (hv : lget lv i = some (.inl x)) (k : Wp M d (pc + 2) lv (.inl x :: st) σ P) : Wp M d pc lv st σ P :=
  Wp.go (fun p l e R s m args below meth c K H locs cells slots ls Z C hR hB hL hl k => lv_iload C.1 C.2.1 hd (lvs_get hl hv) k) k
theorem p_iload_n {i : Fin 4} {x : Int32} (hd : decode M.2.1 pc = .ok (.iload_n i, 1)) (hv : lget lv i.val = some (.inl x)) (k : Wp M d (pc + 1) lv (.inl x :: st) σ P) : Wp M d pc lv st σ P :=
  Wp.go (fun p l e R s m args below meth c K H locs cells slots ls Z C hR hB hL hl k => lv_iload_n C.1 C.2.1 hd rfl (lvs_get hl hv) k) k
theorem p_aload {i : Nat} {r : Nat} (hd : decode M.2.1 pc = .ok (.aload i, 2)) (hv : lget lv i = some (.inr r)) (k : Wp M d (pc + 2) lv (.inr r :: st) σ P) : Wp M d pc lv st σ P :=
  Wp.go (fun p l e R s m args below meth c K H locs cells slots ls Z C hR hB hL hl k => by
    have h := lvs_get hl hv
    cases r with
    | zero => exact lv_aloadN C.1 C.2.1 hd h k
    | succ a => exact lv_aload C.1 C.2.1 hd h k) k
theorem p_aload_n {i : Fin 4} {r : Nat} (hd : decode M.2.1 pc = .ok (.aload_n i, 1)) (hv : lget lv i.val = some (.inr r)) (k : Wp M d (pc + 1) lv (.inr r :: st) σ P) : Wp M d pc lv st σ P :=
  Wp.go (fun p l e R s m args below meth c K H locs cells slots ls Z C hR hB hL hl k => by
    have h := lvs_get hl hv
    cases r with
    | zero => exact lv_aload_nN C.1 C.2.1 hd rfl h k
    | succ a => exact lv_aload_n C.1 C.2.1 hd rfl h k) k
theorem p_istore {i : Nat} {x : Int32} (hd : decode M.2.1 pc = .ok (.istore i, 2)) (hn : i < M.2.2.1) (k : Wp M d (pc + 2) ((i, .inl x) :: lv) st σ P) : Wp M d pc lv (.inl x :: st) σ P :=
  Wp.store (fun p l e R s m args below meth c K H locs cells slots ls Z C hl k => lv_istore C.1 C.2.1 hd hl hn (lvs_cons (v := .inl x)) k) k
theorem p_istore_n {i : Fin 4} {x : Int32} (hd : decode M.2.1 pc = .ok (.istore_n i, 1)) (hn : i.val < M.2.2.1) (k : Wp M d (pc + 1) ((i.val, .inl x) :: lv) st σ P) : Wp M d pc lv (.inl x :: st) σ P :=
  Wp.store (fun p l e R s m args below meth c K H locs cells slots ls Z C hl k => lv_istore_n C.1 C.2.1 hd rfl hl hn (lvs_cons (v := .inl x)) k) k
theorem p_astore {i : Nat} {r : Nat} (hd : decode M.2.1 pc = .ok (.astore i, 2)) (hn : i < M.2.2.1) (k : Wp M d (pc + 2) ((i, .inr r) :: lv) st σ P) : Wp M d pc lv (.inr r :: st) σ P :=
  Wp.store (fun p l e R s m args below meth c K H locs cells slots ls Z C hl k => by
    cases r with
    | zero => exact lv_astoreN C.1 C.2.1 hd hl hn (lvs_cons (v := .inr 0)) k
    | succ a => exact lv_astore C.1 C.2.1 hd hl hn (lvs_cons (v := .inr (a + 1))) k) k
theorem p_astore_n {i : Fin 4} {r : Nat} (hd : decode M.2.1 pc = .ok (.astore_n i, 1)) (hn : i.val < M.2.2.1) (k : Wp M d (pc + 1) ((i.val, .inr r) :: lv) st σ P) : Wp M d pc lv (.inr r :: st) σ P :=
  Wp.store (fun p l e R s m args below meth c K H locs cells slots ls Z C hl k => by
    cases r with
    | zero => exact lv_astore_nN C.1 C.2.1 hd rfl hl hn (lvs_cons (v := .inr 0)) k
    | succ a => exact lv_astore_n C.1 C.2.1 hd rfl hl hn (lvs_cons (v := .inr (a + 1))) k) k
theorem p_iinc {i : Nat} {n : Int} {x y : Int32} (hd : decode M.2.1 pc = .ok (.iinc i n, 3)) (hv : lget lv i = some (.inl x)) (hy : x + Int32.ofInt n = y) (hn : i < M.2.2.1) (k : Wp M d (pc + 3) ((i, .inl y) :: lv) st σ P) : Wp M d pc lv st σ P :=
  Wp.store (fun p l e R s m args below meth c K H locs cells slots ls Z C hl k => by
    obtain ⟨j, hj⟩ := List.getElem?_of_mem (List.mem_map.mpr ⟨(i, .inl x), lget_mem lv i _ hv, rfl⟩ : (i, tv (.inl x)) ∈ lvs lv)
    exact lv_iinc C.1 C.2.1 hd hl hj hy hn (lvs_cons (v := .inl y)) k) k
theorem p_iadd {x y : Int32} (hd : decode M.2.1 pc = .ok (.iadd, 1)) (k : Wp M d (pc + 1) lv (.inl (x + y) :: st) σ P) : Wp M d pc lv (.inl y :: .inl x :: st) σ P :=
  Wp.go (fun p l e R s m args below meth c K H locs cells slots ls Z C hR hB hL hl k => lv_iadd C.1 C.2.1 hd k) k
theorem p_isub {x y : Int32} (hd : decode M.2.1 pc = .ok (.isub, 1)) (k : Wp M d (pc + 1) lv (.inl (x - y) :: st) σ P) : Wp M d pc lv (.inl y :: .inl x :: st) σ P :=
  Wp.go (fun p l e R s m args below meth c K H locs cells slots ls Z C hR hB hL hl k => lv_isub C.1 C.2.1 hd k) k
theorem p_imul {x y : Int32} (hd : decode M.2.1 pc = .ok (.imul, 1)) (k : Wp M d (pc + 1) lv (.inl (x * y) :: st) σ P) : Wp M d pc lv (.inl y :: .inl x :: st) σ P :=
  Wp.go (fun p l e R s m args below meth c K H locs cells slots ls Z C hR hB hL hl k => lv_imul C.1 C.2.1 hd k) k
theorem p_iand {x y : Int32} (hd : decode M.2.1 pc = .ok (.iand, 1)) (k : Wp M d (pc + 1) lv (.inl (x &&& y) :: st) σ P) : Wp M d pc lv (.inl y :: .inl x :: st) σ P :=
  Wp.go (fun p l e R s m args below meth c K H locs cells slots ls Z C hR hB hL hl k => lv_iand C.1 C.2.1 hd k) k
theorem p_ishr {x y : Int32} (hd : decode M.2.1 pc = .ok (.ishr, 1)) (k : Wp M d (pc + 1) lv (.inl (x >>> (y &&& 31)) :: st) σ P) : Wp M d pc lv (.inl y :: .inl x :: st) σ P :=
  Wp.go (fun p l e R s m args below meth c K H locs cells slots ls Z C hR hB hL hl k => lv_ishr C.1 C.2.1 hd k) k
theorem p_dup {v : PV} (hd : decode M.2.1 pc = .ok (.dup, 1)) (k : Wp M d (pc + 1) lv (v :: v :: st) σ P) : Wp M d pc lv (v :: st) σ P :=
  Wp.go (fun p l e R s m args below meth c K H locs cells slots ls Z C hR hB hL hl k => lv_dup C.1 C.2.1 hd (tv_cat v) k) k
theorem p_dup_x1 {v w : PV} (hd : decode M.2.1 pc = .ok (.dup_x1, 1)) (k : Wp M d (pc + 1) lv (v :: w :: v :: st) σ P) : Wp M d pc lv (v :: w :: st) σ P :=
  Wp.go (fun p l e R s m args below meth c K H locs cells slots ls Z C hR hB hL hl k => lv_dup_x1 C.1 C.2.1 hd (tv_cat v) (tv_cat w) k) k
theorem p_dup2 {v w : PV} (hd : decode M.2.1 pc = .ok (.dup2, 1)) (k : Wp M d (pc + 1) lv (v :: w :: v :: w :: st) σ P) : Wp M d pc lv (v :: w :: st) σ P :=
  Wp.go (fun p l e R s m args below meth c K H locs cells slots ls Z C hR hB hL hl k => lv_dup2_11 C.1 C.2.1 hd (tv_cat v) (tv_cat w) k) k
theorem p_pop {v : PV} (hd : decode M.2.1 pc = .ok (.pop, 1)) (k : Wp M d (pc + 1) lv st σ P) : Wp M d pc lv (v :: st) σ P :=
  Wp.go (fun p l e R s m args below meth c K H locs cells slots ls Z C hR hB hL hl k => lv_pop C.1 C.2.1 hd (tv_cat v) k) k
theorem p_goto {off : Int} {tgt : Nat} (hd : decode M.2.1 pc = .ok (.goto off, 3)) (ht : (pc : Int) + off = (tgt : Int)) (k : Wp M d tgt lv st σ P) : Wp M d pc lv st σ P :=
  Wp.go (fun p l e R s m args below meth c K H locs cells slots ls Z C hR hB hL hl k => lv_goto C.1 C.2.1 hd ht k) k
theorem p_if_eq {x : Int32} {off : Int} {tgt : Nat} (hd : decode M.2.1 pc = .ok (.ifCond .eq off, 3)) (ht : (pc : Int) + off = (tgt : Int)) (kt : x = 0 → Wp M d tgt lv st σ P) (kf : ¬ (x = 0) → Wp M d (pc + 3) lv st σ P) : Wp M d pc lv (.inl x :: st) σ P := by
  by_cases h : x = 0
  · exact Wp.go (fun p l e R s m args below meth c K H locs cells slots ls Z C hR hB hL hl k => lv_if_eq C.1 C.2.1 hd ht (fun _ => k) (fun q => absurd h q)) (kt h)
  · exact Wp.go (fun p l e R s m args below meth c K H locs cells slots ls Z C hR hB hL hl k => lv_if_eq C.1 C.2.1 hd ht (fun q => absurd q h) (fun _ => k)) (kf h)
theorem p_icmp_eq {x y : Int32} {off : Int} {tgt : Nat} (hd : decode M.2.1 pc = .ok (.if_icmp .eq off, 3)) (ht : (pc : Int) + off = (tgt : Int)) (kt : x = y → Wp M d tgt lv st σ P) (kf : ¬ (x = y) → Wp M d (pc + 3) lv st σ P) : Wp M d pc lv (.inl y :: .inl x :: st) σ P := by
  by_cases h : x = y
  · exact Wp.go (fun p l e R s m args below meth c K H locs cells slots ls Z C hR hB hL hl k => lv_icmp_eq C.1 C.2.1 hd ht (fun _ => k) (fun q => absurd h q)) (kt h)
  · exact Wp.go (fun p l e R s m args below meth c K H locs cells slots ls Z C hR hB hL hl k => lv_icmp_eq C.1 C.2.1 hd ht (fun q => absurd q h) (fun _ => k)) (kf h)
theorem p_if_ne {x : Int32} {off : Int} {tgt : Nat} (hd : decode M.2.1 pc = .ok (.ifCond .ne off, 3)) (ht : (pc : Int) + off = (tgt : Int)) (kt : ¬ x = 0 → Wp M d tgt lv st σ P) (kf : x = 0 → Wp M d (pc + 3) lv st σ P) : Wp M d pc lv (.inl x :: st) σ P := by
  by_cases h : x = 0
  · exact Wp.go (fun p l e R s m args below meth c K H locs cells slots ls Z C hR hB hL hl k => lv_if_ne C.1 C.2.1 hd ht (fun q => absurd h q) (fun _ => k)) (kf h)
  · exact Wp.go (fun p l e R s m args below meth c K H locs cells slots ls Z C hR hB hL hl k => lv_if_ne C.1 C.2.1 hd ht (fun _ => k) (fun q => absurd q h)) (kt h)
theorem p_icmp_ne {x y : Int32} {off : Int} {tgt : Nat} (hd : decode M.2.1 pc = .ok (.if_icmp .ne off, 3)) (ht : (pc : Int) + off = (tgt : Int)) (kt : ¬ x = y → Wp M d tgt lv st σ P) (kf : x = y → Wp M d (pc + 3) lv st σ P) : Wp M d pc lv (.inl y :: .inl x :: st) σ P := by
  by_cases h : x = y
  · exact Wp.go (fun p l e R s m args below meth c K H locs cells slots ls Z C hR hB hL hl k => lv_icmp_ne C.1 C.2.1 hd ht (fun q => absurd h q) (fun _ => k)) (kf h)
  · exact Wp.go (fun p l e R s m args below meth c K H locs cells slots ls Z C hR hB hL hl k => lv_icmp_ne C.1 C.2.1 hd ht (fun _ => k) (fun q => absurd q h)) (kt h)
theorem p_if_lt {x : Int32} {off : Int} {tgt : Nat} (hd : decode M.2.1 pc = .ok (.ifCond .lt off, 3)) (ht : (pc : Int) + off = (tgt : Int)) (kt : x < 0 → Wp M d tgt lv st σ P) (kf : ¬ (x < 0) → Wp M d (pc + 3) lv st σ P) : Wp M d pc lv (.inl x :: st) σ P := by
  by_cases h : x < 0
  · exact Wp.go (fun p l e R s m args below meth c K H locs cells slots ls Z C hR hB hL hl k => lv_if_lt C.1 C.2.1 hd ht (fun _ => k) (fun q => absurd h q)) (kt h)
  · exact Wp.go (fun p l e R s m args below meth c K H locs cells slots ls Z C hR hB hL hl k => lv_if_lt C.1 C.2.1 hd ht (fun q => absurd q h) (fun _ => k)) (kf h)
theorem p_icmp_lt {x y : Int32} {off : Int} {tgt : Nat} (hd : decode M.2.1 pc = .ok (.if_icmp .lt off, 3)) (ht : (pc : Int) + off = (tgt : Int)) (kt : x < y → Wp M d tgt lv st σ P) (kf : ¬ (x < y) → Wp M d (pc + 3) lv st σ P) : Wp M d pc lv (.inl y :: .inl x :: st) σ P := by
  by_cases h : x < y
  · exact Wp.go (fun p l e R s m args below meth c K H locs cells slots ls Z C hR hB hL hl k => lv_icmp_lt C.1 C.2.1 hd ht (fun _ => k) (fun q => absurd h q)) (kt h)
  · exact Wp.go (fun p l e R s m args below meth c K H locs cells slots ls Z C hR hB hL hl k => lv_icmp_lt C.1 C.2.1 hd ht (fun q => absurd q h) (fun _ => k)) (kf h)
theorem p_if_ge {x : Int32} {off : Int} {tgt : Nat} (hd : decode M.2.1 pc = .ok (.ifCond .ge off, 3)) (ht : (pc : Int) + off = (tgt : Int)) (kt : 0 ≤ x → Wp M d tgt lv st σ P) (kf : ¬ (0 ≤ x) → Wp M d (pc + 3) lv st σ P) : Wp M d pc lv (.inl x :: st) σ P := by
  by_cases h : 0 ≤ x
  · exact Wp.go (fun p l e R s m args below meth c K H locs cells slots ls Z C hR hB hL hl k => lv_if_ge C.1 C.2.1 hd ht (fun _ => k) (fun q => absurd h q)) (kt h)
  · exact Wp.go (fun p l e R s m args below meth c K H locs cells slots ls Z C hR hB hL hl k => lv_if_ge C.1 C.2.1 hd ht (fun q => absurd q h) (fun _ => k)) (kf h)
theorem p_icmp_ge {x y : Int32} {off : Int} {tgt : Nat} (hd : decode M.2.1 pc = .ok (.if_icmp .ge off, 3)) (ht : (pc : Int) + off = (tgt : Int)) (kt : y ≤ x → Wp M d tgt lv st σ P) (kf : ¬ (y ≤ x) → Wp M d (pc + 3) lv st σ P) : Wp M d pc lv (.inl y :: .inl x :: st) σ P := by
  by_cases h : y ≤ x
  · exact Wp.go (fun p l e R s m args below meth c K H locs cells slots ls Z C hR hB hL hl k => lv_icmp_ge C.1 C.2.1 hd ht (fun _ => k) (fun q => absurd h q)) (kt h)
  · exact Wp.go (fun p l e R s m args below meth c K H locs cells slots ls Z C hR hB hL hl k => lv_icmp_ge C.1 C.2.1 hd ht (fun q => absurd q h) (fun _ => k)) (kf h)
theorem p_if_gt {x : Int32} {off : Int} {tgt : Nat} (hd : decode M.2.1 pc = .ok (.ifCond .gt off, 3)) (ht : (pc : Int) + off = (tgt : Int)) (kt : 0 < x → Wp M d tgt lv st σ P) (kf : ¬ (0 < x) → Wp M d (pc + 3) lv st σ P) : Wp M d pc lv (.inl x :: st) σ P := by
  by_cases h : 0 < x
  · exact Wp.go (fun p l e R s m args below meth c K H locs cells slots ls Z C hR hB hL hl k => lv_if_gt C.1 C.2.1 hd ht (fun _ => k) (fun q => absurd h q)) (kt h)
  · exact Wp.go (fun p l e R s m args below meth c K H locs cells slots ls Z C hR hB hL hl k => lv_if_gt C.1 C.2.1 hd ht (fun q => absurd q h) (fun _ => k)) (kf h)
theorem p_icmp_gt {x y : Int32} {off : Int} {tgt : Nat} (hd : decode M.2.1 pc = .ok (.if_icmp .gt off, 3)) (ht : (pc : Int) + off = (tgt : Int)) (kt : y < x → Wp M d tgt lv st σ P) (kf : ¬ (y < x) → Wp M d (pc + 3) lv st σ P) : Wp M d pc lv (.inl y :: .inl x :: st) σ P := by
  by_cases h : y < x
  · exact Wp.go (fun p l e R s m args below meth c K H locs cells slots ls Z C hR hB hL hl k => lv_icmp_gt C.1 C.2.1 hd ht (fun _ => k) (fun q => absurd h q)) (kt h)
  · exact Wp.go (fun p l e R s m args below meth c K H locs cells slots ls Z C hR hB hL hl k => lv_icmp_gt C.1 C.2.1 hd ht (fun q => absurd q h) (fun _ => k)) (kf h)
theorem p_if_le {x : Int32} {off : Int} {tgt : Nat} (hd : decode M.2.1 pc = .ok (.ifCond .le off, 3)) (ht : (pc : Int) + off = (tgt : Int)) (kt : x ≤ 0 → Wp M d tgt lv st σ P) (kf : ¬ (x ≤ 0) → Wp M d (pc + 3) lv st σ P) : Wp M d pc lv (.inl x :: st) σ P := by
  by_cases h : x ≤ 0
  · exact Wp.go (fun p l e R s m args below meth c K H locs cells slots ls Z C hR hB hL hl k => lv_if_le C.1 C.2.1 hd ht (fun _ => k) (fun q => absurd h q)) (kt h)
  · exact Wp.go (fun p l e R s m args below meth c K H locs cells slots ls Z C hR hB hL hl k => lv_if_le C.1 C.2.1 hd ht (fun q => absurd q h) (fun _ => k)) (kf h)
theorem p_icmp_le {x y : Int32} {off : Int} {tgt : Nat} (hd : decode M.2.1 pc = .ok (.if_icmp .le off, 3)) (ht : (pc : Int) + off = (tgt : Int)) (kt : x ≤ y → Wp M d tgt lv st σ P) (kf : ¬ (x ≤ y) → Wp M d (pc + 3) lv st σ P) : Wp M d pc lv (.inl y :: .inl x :: st) σ P := by
  by_cases h : x ≤ y
  · exact Wp.go (fun p l e R s m args below meth c K H locs cells slots ls Z C hR hB hL hl k => lv_icmp_le C.1 C.2.1 hd ht (fun _ => k) (fun q => absurd h q)) (kt h)
  · exact Wp.go (fun p l e R s m args below meth c K H locs cells slots ls Z C hR hB hL hl k => lv_icmp_le C.1 C.2.1 hd ht (fun q => absurd q h) (fun _ => k)) (kf h)
theorem p_ifnull {off : Int} {tgt r : Nat} (hd : decode M.2.1 pc = .ok (.ifnull off, 3)) (ht : (pc : Int) + off = (tgt : Int)) (kt : r = 0 → Wp M d tgt lv st σ P) (kf : r ≠ 0 → Wp M d (pc + 3) lv st σ P) : Wp M d pc lv (.inr r :: st) σ P := by
  cases r with
  | zero => exact Wp.go (fun p l e R s m args below meth c K H locs cells slots ls Z C hR hB hL hl k => lv_ifnullN C.1 C.2.1 hd ht k) (kt rfl)
  | succ a => exact Wp.go (fun p l e R s m args below meth c K H locs cells slots ls Z C hR hB hL hl k => lv_ifnull C.1 C.2.1 hd k) (kf (by omega))
theorem p_ifnonnull {off : Int} {tgt r : Nat} (hd : decode M.2.1 pc = .ok (.ifnonnull off, 3)) (ht : (pc : Int) + off = (tgt : Int)) (kt : r ≠ 0 → Wp M d tgt lv st σ P) (kf : r = 0 → Wp M d (pc + 3) lv st σ P) : Wp M d pc lv (.inr r :: st) σ P := by
  cases r with
  | zero => exact Wp.go (fun p l e R s m args below meth c K H locs cells slots ls Z C hR hB hL hl k => lv_ifnonnullN C.1 C.2.1 hd k) (kf rfl)
  | succ a => exact Wp.go (fun p l e R s m args below meth c K H locs cells slots ls Z C hR hB hL hl k => lv_ifnonnull C.1 C.2.1 hd ht k) (kt (by omega))
theorem tv_rf (r : Nat) : ∃ o : Option Nat, tv (.inr r) = va_rf o ∧ (∀ r' o', tv (.inr r') = va_rf o' → (o = o' ↔ r = r')) := by
  have key : ∀ (r : Nat) (o : Option Nat), tv (.inr r) = va_rf o → (r = 0 ∧ o = none) ∨ ∃ a, r = a + 1 ∧ o = some a := by
    intro r o h
    cases r with
    | zero => cases o with
      | none => exact Or.inl ⟨rfl, rfl⟩
      | some a => simp [tv, va_rf] at h
    | succ b => cases o with
      | none => simp [tv, va_rf] at h
      | some a => simp [tv, va_rf] at h; exact Or.inr ⟨a, by rw [h], rfl⟩
  refine ⟨match r with | 0 => none | a + 1 => some a, ?_, fun r' o' h => ?_⟩
  · cases r <;> rfl
  · rcases key r' o' h with ⟨h1, h2⟩ | ⟨a, h1, h2⟩
    · subst h1; subst h2
      cases r <;> simp
    · subst h1; subst h2
      cases r <;> simp
theorem p_acmp_ne {off : Int} {tgt r r' : Nat} (hd : decode M.2.1 pc = .ok (.if_acmp .ne off, 3)) (ht : (pc : Int) + off = (tgt : Int)) (kt : r ≠ r' → Wp M d tgt lv st σ P) (kf : r = r' → Wp M d (pc + 3) lv st σ P) : Wp M d pc lv (.inr r' :: .inr r :: st) σ P := by
  obtain ⟨o, h1, h2⟩ := tv_rf r
  obtain ⟨o', h3, -⟩ := tv_rf r'
  by_cases h : r = r'
  · refine Wp.go (fun p l e R s m args below meth c K H locs cells slots ls Z C hR hB hL hl k => ?_) (kf h)
    show W p l e R s m args below meth c H locs cells slots Z (F0 m pc ls (tv (.inr r') :: tv (.inr r) :: st.map tv))
    rw [h3, h1]
    exact lv_acmp_ne C.1 C.2.1 hd ht (fun q => absurd ((h2 r' o' h3).mpr h) q) (fun _ => k)
  · refine Wp.go (fun p l e R s m args below meth c K H locs cells slots ls Z C hR hB hL hl k => ?_) (kt h)
    show W p l e R s m args below meth c H locs cells slots Z (F0 m pc ls (tv (.inr r') :: tv (.inr r) :: st.map tv))
    rw [h3, h1]
    exact lv_acmp_ne C.1 C.2.1 hd ht (fun _ => k) (fun q => absurd ((h2 r' o' h3).mp q) h)
theorem p_acmp_eq {off : Int} {tgt r r' : Nat} (hd : decode M.2.1 pc = .ok (.if_acmp .eq off, 3)) (ht : (pc : Int) + off = (tgt : Int)) (kt : r = r' → Wp M d tgt lv st σ P) (kf : r ≠ r' → Wp M d (pc + 3) lv st σ P) : Wp M d pc lv (.inr r' :: .inr r :: st) σ P := by
  obtain ⟨o, h1, h2⟩ := tv_rf r
  obtain ⟨o', h3, -⟩ := tv_rf r'
  by_cases h : r = r'
  · refine Wp.go (fun p l e R s m args below meth c K H locs cells slots ls Z C hR hB hL hl k => ?_) (kt h)
    show W p l e R s m args below meth c H locs cells slots Z (F0 m pc ls (tv (.inr r') :: tv (.inr r) :: st.map tv))
    rw [h3, h1]
    exact lv_acmp_eq C.1 C.2.1 hd ht (fun _ => k) (fun q => absurd ((h2 r' o' h3).mpr h) q)
  · refine Wp.go (fun p l e R s m args below meth c K H locs cells slots ls Z C hR hB hL hl k => ?_) (kf h)
    show W p l e R s m args below meth c H locs cells slots Z (F0 m pc ls (tv (.inr r') :: tv (.inr r) :: st.map tv))
    rw [h3, h1]
    exact lv_acmp_eq C.1 C.2.1 hd ht (fun q => absurd ((h2 r' o' h3).mp q) h) (fun _ => k)
theorem p_tableIn {dflt lo hi : Int} {offs : Array Int} {len : Nat} {x : Int32} {off : Int} {tgt : Nat} (hd : decode M.2.1 pc = .ok (.tableswitch dflt lo hi offs, len)) (h1 : ¬ x.toInt < lo) (h2 : ¬ hi < x.toInt) (ho : offs[(x.toInt - lo).toNat]? = some off) (ht : (pc : Int) + off = (tgt : Int)) (k : Wp M d tgt lv st σ P) : Wp M d pc lv (.inl x :: st) σ P :=
  Wp.go (fun p l e R s m args below meth c K H locs cells slots ls Z C hR hB hL hl k => lv_tableIn C.1 C.2.1 hd h1 h2 ho ht k) k
theorem p_tableOut {dflt lo hi : Int} {offs : Array Int} {len : Nat} {x : Int32} {tgt : Nat} (hd : decode M.2.1 pc = .ok (.tableswitch dflt lo hi offs, len)) (h : x.toInt < lo ∨ hi < x.toInt) (ht : (pc : Int) + dflt = (tgt : Int)) (k : Wp M d tgt lv st σ P) : Wp M d pc lv (.inl x :: st) σ P :=
  Wp.go (fun p l e R s m args below meth c K H locs cells slots ls Z C hR hB hL hl k => lv_tableOut C.1 C.2.1 hd h ht k) k
theorem p_ldc {index : Nat} {x : Int32} (hd : decode M.2.1 pc = .ok (.ldc index, 2)) (hw : Cond.constant M.1.cls index x ∈ GT) (k : Wp M d (pc + 2) lv (.inl x :: st) σ P) : Wp M d pc lv st σ P :=
  Wp.go (fun p l e R s m args below meth c K H locs cells slots ls Z C hR hB hL hl k => lv_ldc C.1 C.2.1 C.2.2.2.1 (C.2.2.2.2.1 _ hw) hd k) k
theorem p_ret (hd : decode M.2.1 pc = .ok (.return_, 1)) (h : P none σ) : Wp M d pc lv [] σ P :=
  ⟨none, σ, h, Nat.le_refl _, Nat.le_refl _, fun p l e R s m args below meth c K H locs cells slots ls Z C hR hB hL hc hs hl hk => by
    have := hk H locs pc ls hR hB hL (Or.inr (Or.inr ⟨hd, rfl⟩))
    simpa using this⟩
theorem p_iret {x : Int32} (hd : decode M.2.1 pc = .ok (.ireturn, 1)) (h : P (some (.inl x)) σ) : Wp M d pc lv [.inl x] σ P :=
  ⟨some (.inl x), σ, h, Nat.le_refl _, Nat.le_refl _, fun p l e R s m args below meth c K H locs cells slots ls Z C hR hB hL hc hs hl hk => by
    have := hk H locs pc ls hR hB hL (Or.inl ⟨hd, x, rfl⟩)
    simpa using this⟩
theorem p_aret {r : Nat} (hd : decode M.2.1 pc = .ok (.areturn, 1)) (h : P (some (.inr r)) σ) : Wp M d pc lv [.inr r] σ P :=
  ⟨some (.inr r), σ, h, Nat.le_refl _, Nat.le_refl _, fun p l e R s m args below meth c K H locs cells slots ls Z C hR hB hL hc hs hl hk => by
    have := hk H locs pc ls hR hB hL (Or.inr (Or.inl ⟨hd, r, rfl⟩))
    simpa using this⟩
end RowsA
end
section
/-! rows of single instructions that read or write the heap -/
theorem cls_in {ci : Nat} {q : vw_C} (hc : cls[ci]? = some q) : ∀ w ∈ u_ws q.1 q.2.1 q.2.2, w ∈ GT := by
  match ci, hc with
  | 0, hc => cases hc; exact cI0
  | 1, hc => cases hc; exact cI1
  | 2, hc => cases hc; exact cI2
  | 3, hc => cases hc; exact cI3
  | 4, hc => cases hc; exact cI4
  | 5, hc => cases hc; exact cI5
  | 6, hc => cases hc; exact cI6
  | 7, hc => cases hc; exact cI7
  | 8, hc => cases hc; exact cI8
  | n + 9, hc => simp [cls] at hc
theorem cls_nm {ci : Nat} {q : vw_C} (hc : cls[ci]? = some q) : ∀ a, a < q.2.2 → ∀ b, b < q.2.2 → a ≠ b → (q.2.1 a).2.1 ≠ (q.2.1 b).2.1 := by
  match ci, hc with
  | 0, hc => cases hc; exact cN0
  | 1, hc => cases hc; exact cN1
  | 2, hc => cases hc; exact cN2
  | 3, hc => cases hc; exact cN3
  | 4, hc => cases hc; exact cN4
  | 5, hc => cases hc; exact cN5
  | 6, hc => cases hc; exact cN6
  | 7, hc => cases hc; exact cN7
  | 8, hc => cases hc; exact cN8
  | n + 9, hc => simp [cls] at hc
theorem cls_ty {ci : Nat} {q : vw_C} (hc : cls[ci]? = some q) : ∀ k, k < q.2.2 → parseFieldDescriptor (q.2.1 k).2.2.1 = some (fty ci k) := by
  match ci, hc with
  | 0, hc => cases hc; exact cO0
  | 1, hc => cases hc; exact cO1
  | 2, hc => cases hc; exact cO2
  | 3, hc => cases hc; exact cO3
  | 4, hc => cases hc; exact cO4
  | 5, hc => cases hc; exact cO5
  | 6, hc => cases hc; exact cO6
  | 7, hc => cases hc; exact cO7
  | 8, hc => cases hc; exact cO8
  | n + 9, hc => simp [cls] at hc
theorem cls_le {ci : Nat} {q : vw_C} (hc : cls[ci]? = some q) : q.2.2 ≤ 40 ∧ ci < 9 := by
  match ci, hc with
  | 0, hc => cases hc; exact ⟨by decide, by decide⟩
  | 1, hc => cases hc; exact ⟨by decide, by decide⟩
  | 2, hc => cases hc; exact ⟨by decide, by decide⟩
  | 3, hc => cases hc; exact ⟨by decide, by decide⟩
  | 4, hc => cases hc; exact ⟨by decide, by decide⟩
  | 5, hc => cases hc; exact ⟨by decide, by decide⟩
  | 6, hc => cases hc; exact ⟨by decide, by decide⟩
  | 7, hc => cases hc; exact ⟨by decide, by decide⟩
  | 8, hc => cases hc; exact ⟨by decide, by decide⟩
  | n + 9, hc => simp [cls] at hc
theorem fty_dv : ∀ ci, ci < 9 → ∀ k, k < 40 → defaultValue (fty ci k) = if isR ci k = true then Value.null else .int 0 := by decide +kernel
theorem fty_rf : ∀ ci, ci < 9 → ∀ k, k < 40 → isR ci k = true → (∃ n, fty ci k = .object n) ∨ ∃ t, fty ci k = .array t := by
  intro ci _ k _ h
  unfold isR at h
  split at h
  · exact Or.inl ⟨_, by assumption⟩
  · exact Or.inr ⟨_, by assumption⟩
  · cases h
/-- a field, as the instruction at pool index idx of class own names it -/
def FS (own : String) (idx ci k : Nat) : Prop := ∃ (q : vw_C) (ref : String), cls[ci]? = some q ∧ k < q.2.2 ∧ Cond.fieldLink own idx ref (q.2.1 k).2.1 (q.2.1 k).2.2.1 ∈ GT ∧ (ref = (q.2.1 k).1 ∨ Cond.sameField ref (q.2.1 k).1 (q.2.1 k).2.1 (q.2.1 k).2.2.1 ∈ GT)
theorem Cx.w {M : MM} {d : Nat} {K : KX} {p : Program} {R : Room} {s : State} {m : MethodId} {args : Array Value} {meth : Method} {c : Code} (C : Cx M d K p R s m args meth c) {w : Cond} (h : w ∈ GT) : w.before args s = true := C.2.2.2.2.1 _ h
theorem FS.same {own : String} {idx ci k : Nat} {q : vw_C} {ref : String} {s : State} {args : Array Value} (hts : ∀ w ∈ GT, w.before args s = true) (h : ref = (q.2.1 k).1 ∨ Cond.sameField ref (q.2.1 k).1 (q.2.1 k).2.1 (q.2.1 k).2.2.1 ∈ GT) : ∀ x, s.fieldFound? (q.2.1 k).1 (q.2.1 k).2.1 (q.2.1 k).2.2.1 = some x → s.fieldFound? ref (q.2.1 k).2.1 (q.2.1 k).2.2.1 = some x := by
  rcases h with rfl | h
  · exact fun x h => h
  · exact u_same (hts _ h)
theorem fval_int {σ : PS} {ci k r : Nat} (h : isR ci k = false) : fval σ ci k r = .int (fi σ (64 * ci + k) r) := by simp [fval, h]
theorem fval_ref {σ : PS} {ci k r : Nat} (h : isR ci k = true) : fval σ ci k r = tv (.inr (fr σ (64 * ci + k) r)) := by simp [fval, h]
/-- the heap behind a store into a field -/
theorem RepH.put {K : KX} {σ σ' : PS} {H H' : Heap} {a ci k : Nat} {v : Value} {q : vw_C} (hR : RepH K σ H) (ht : tg σ (a + 1) = ci + 1) (hc : cls[ci]? = some q) (hk : k < q.2.2)
    (hap : ∀ x y, x < q.2.2 → y < q.2.2 → x ≠ y → kI K ci x ≠ kI K ci y) {cell : Cell} (hcell : H[a]? = some cell) (e1 : H'[a]? = some (cell.setSlot (kI K ci k) v)) (e2 : H'.size = H.size) (e3 : ∀ q, q ≠ a → H'[q]? = H[q]?)
    (h1 : σ'.1 = σ.1) (h2 : al σ' = al σ) (h3 : ai σ' = ai σ) (h4 : ar σ' = ar σ) (hf : ∀ ci' k' r' : Nat, k' < 40 → fval σ' ci' k' r' = if r' = a + 1 ∧ ci' = ci ∧ k' = k then v else fval σ ci' k' r') : RepH K σ' H' := by
  obtain ⟨r1, r2, r3, r4, r5, r6, r7⟩ := hR
  have n1 : nx σ' = nx σ := by unfold nx; rw [h1]
  have t1 : tg σ' = tg σ := by unfold tg; rw [h1]
  refine ⟨by rw [n1, e2]; exact r1, by rw [e2]; exact r2, fun b cj q' hb hq' => ?_, fun b ti hti hb => ?_, fun r hr => ?_, fun r hr => ?_, by rw [t1, h2]; exact r7⟩
  · rw [t1] at hb
    obtain ⟨g1, g2⟩ := r3 b cj q' hb hq'
    refine ⟨g1, ?_⟩
    by_cases hba : b = a
    · subst hba
      have hcc : cj = ci := by omega
      subst hcc
      cases hc.symm.trans hq'
      obtain ⟨cell', f1, f2, f3, f4⟩ := g2
      cases hcell.symm.trans f1
      refine t_OB.to (V := updV (fun k => fval σ cj k (b + 1)) k v) ⟨_, e1, f2, f3, t_set f4 hap hk v⟩ (fun j hj => ?_)
      rw [hf cj j (b + 1) (Nat.lt_of_lt_of_le hj (cls_le hc).1)]
      unfold updV
      by_cases hjk : j = k
      · subst hjk; simp
      · rw [if_neg hjk, if_neg (fun z => hjk z.2.2)]
    · refine (g2.kept (e3 b hba)).to (fun j hj => ?_)
      rw [hf cj j (b + 1) (Nat.lt_of_lt_of_le hj (cls_le hq').1), if_neg (fun z => hba (by omega))]
  · rw [t1] at hb
    obtain ⟨g1, g2⟩ := r4 b ti hti hb
    have hba : b ≠ a := by
      rintro rfl
      have := (cls_le hc).2
      omega
    refine ⟨g1, ?_⟩
    rw [e3 b hba, g2, h2]
    unfold aval
    rw [h3, h4]
  · rw [t1] at hr
    rw [h2]
    exact r5 r hr
  · rw [t1] at hr
    rw [h2, h3]
    exact r6 r hr
section RowsB
variable {M : MM} {d pc : Nat} {lv : List (Nat × PV)} {st : List PV} {σ : PS} {P : Option PV → PS → Prop}
theorem RepH.pos {K : KX} {H : Heap} (hR : RepH K σ H) {r n : Nat} (h : tg σ r = n + 1) : ∃ a, r = a + 1 := by
  cases r with
  | zero => rw [hR.2.2.2.2.2.2.1] at h; omega
  | succ a => exact ⟨a, rfl⟩
theorem getf_go {idx ci k r : Nat} {v : PV} (hd : decode M.2.1 pc = .ok (.getfield idx, 3)) (hf : FS M.1.cls idx ci k) (ht : tg σ r = ci + 1) (hv : fval σ ci k r = tv v) (kk : Wp M d (pc + 3) lv (v :: st) σ P) : Wp M d pc lv (.inr r :: st) σ P := by
  obtain ⟨q, ref, hc, hkN, hw, hs⟩ := hf
  refine Wp.go (fun p l e R s m args below meth c K H locs cells slots ls Z C hR hB hL hl kk => ?_) kk
  obtain ⟨a, rfl⟩ := hR.pos ht
  obtain ⟨-, cell, g1, g2, g3, g4⟩ := hR.2.2.1 a ci q ht hc
  obtain ⟨hS, hfc, kC, hkC, hkind⟩ := C.2.2.2.2.2.1.1.1 ci q hc
  obtain ⟨cf, kf, fi, f, hi, hsl⟩ := hS k hkN
  refine W.getf C.1 C.2.1 C.2.2.2.1 (C.w hw) (FS.same (own := "") (idx := 0) (ci := 0) (fun w h => C.w h) hs _ hi) (u_facts hfc hkC (u_lays (fun w h => C.w h) (cls_in hc) hkN) hi).1 g1 (by rw [g3]; exact fun h => by cases h) (v := tv v) ?_ rfl rfl hd kk
  rw [hsl]
  show cell.slots[kI K ci k]? = _
  rw [g4 k hkN]
  exact congrArg some hv
theorem p_getI {idx ci k r : Nat} (hd : decode M.2.1 pc = .ok (.getfield idx, 3)) (hf : FS M.1.cls idx ci k) (hk : isR ci k = false) (ht : tg σ r = ci + 1) (kk : Wp M d (pc + 3) lv (.inl (fi σ (64 * ci + k) r) :: st) σ P) : Wp M d pc lv (.inr r :: st) σ P :=
  getf_go (v := .inl (fi σ (64 * ci + k) r)) hd hf ht (fval_int hk) kk
theorem p_getR {idx ci k r : Nat} (hd : decode M.2.1 pc = .ok (.getfield idx, 3)) (hf : FS M.1.cls idx ci k) (hk : isR ci k = true) (ht : tg σ r = ci + 1) (kk : Wp M d (pc + 3) lv (.inr (fr σ (64 * ci + k) r) :: st) σ P) : Wp M d pc lv (.inr r :: st) σ P :=
  getf_go (v := .inr (fr σ (64 * ci + k) r)) hd hf ht (fval_ref hk) kk
def FinOk (M : MM) (ci k : Nat) : Prop := ∀ q : vw_C, cls[ci]? = some q → (q.2.1 k).2.2.2 = false ∨ ((q.2.1 k).2.2.2 = true ∧ M.1.name = "<init>" ∧ (q.2.1 k).1 = M.1.cls)
theorem putf_go {σ' : PS} {idx ci k r : Nat} {v : PV} (hd : decode M.2.1 pc = .ok (.putfield idx, 3)) (hf : FS M.1.cls idx ci k) (hfin : FinOk M ci k) (ht : tg σ r = ci + 1) (hn : narrow (fty ci k) (tv v) = tv v) (hfit : fits (fty ci k) (tv v) = true)
    (h1 : σ'.1 = σ.1) (h2 : al σ' = al σ) (h3 : ai σ' = ai σ) (h4 : ar σ' = ar σ) (hfv : ∀ ci' k' r' : Nat, k' < 40 → fval σ' ci' k' r' = if r' = r ∧ ci' = ci ∧ k' = k then tv v else fval σ ci' k' r')
    (kk : Wp M d (pc + 3) lv st σ' P) : Wp M d pc lv (v :: .inr r :: st) σ P := by
  obtain ⟨q, ref, hc, hkN, hw, hs⟩ := hf
  obtain ⟨v', σ'', hP, l1, l2, hW⟩ := kk
  have n1 : nx σ' = nx σ := by unfold nx; rw [h1]
  have s1 : sl σ' = sl σ := by unfold sl; rw [h1]
  rw [n1, s1] at hW
  refine ⟨v', σ'', hP, by rw [← n1]; exact l1, by rw [← s1]; exact l2, fun p l e R s m args below meth c K H locs cells slots ls Z C hR hB hL hcl hsl hl hk => ?_⟩
  obtain ⟨a, rfl⟩ := hR.pos ht
  obtain ⟨gb, cell, g1, g2, g3, g4⟩ := hR.2.2.1 a ci q ht hc
  have hap : ∀ x y, x < q.2.2 → y < q.2.2 → x ≠ y → kI K ci x ≠ kI K ci y := va_apart (own := "") (fun w h => C.w h) (cls_in hc) (fty ci) (cls_ty hc) (cls_nm hc) C.2.2.2.2.2.1.1 hc
  obtain ⟨hS, hfc, kC, hkC, hkind⟩ := C.2.2.2.2.2.1.1.1 ci q hc
  obtain ⟨cf, kf, fi, f, hi, hsl9⟩ := hS k hkN
  have hlay := C.w (cls_in hc _ (u_in_lay hkN))
  have hst := (u_facts hfc hkC (u_lays (fun w h => C.w h) (cls_in hc) hkN) hi).1
  have hsame := FS.same (own := "") (idx := 0) (ci := 0) (s := s) (args := args) (fun w h => C.w h) hs
  have fin : ∀ H' : Heap, H'[a]? = some (cell.setSlot f.slot (tv v)) → H'.size = H.size → (∀ q, q ≠ a → H'[q]? = H[q]?) → W p l e R s m args below meth c H' (locs ++ [⟨a, f.slot⟩]) cells slots Z (F0 m (pc + 3) ls (st.map tv)) := by
    intro H' e1 e2 e3
    rw [hsl9] at e1
    refine hW p l e R s m args below meth c K H' _ cells slots ls Z C (hR.put ht hc hkN hap g1 e1 e2 e3 h1 h2 h3 h4 hfv) (fun z hz => ?_) (fun z hz => ?_) hcl hsl hl hk
    · rw [e3 z (by omega)]; exact hB z hz
    · rcases List.mem_append.mp hz with h | h
      · exact hL z h
      · rw [List.mem_singleton.mp h]; exact gb
  rcases hfin q hc with hfn | ⟨hfn, hin, hdecl⟩
  · unfold u_lay at hlay
    rw [if_neg (by rw [hfn]; decide)] at hlay
    have h6 := u_store hfc hkC hkind hlay hi (cls_ty hc k hkN) hn hfit
    exact W.putK C.1 C.2.1 (f := f) ⟨C.2.2.2.1, C.w hw, ⟨_, _, _, hsame _ hi⟩, hst⟩ (by rw [g2]; exact h6) g1 g3 (by rw [hsl9]; exact k2_hasslot (g4 k hkN)) rfl rfl hd fin
  · unfold u_lay at hlay
    rw [if_pos hfn] at hlay
    have hcf : m.cls = cf := by
      obtain ⟨_, _, c', _, _, _, -, -, hf', -, -, -, hown2, -⟩ := Cond.laysFinal_spec hlay
      have e1 : c' = cf := by have := hi.symm.trans hf'; simp at this; exact this.1.symm
      rw [hdecl] at hown2
      rw [← e1]; exact Option.some.inj (C.2.2.2.1.symm.trans hown2)
    have h6 := u_fits hfc hkC hkind (Or.inr hlay) hi (cls_ty hc k hkN) hn hfit
    exact W.putFinK C.1 C.2.1 C.2.2.2.1 (C.w hw) (hsame _ hi) hst hcf (by rw [C.2.2.2.2.2.2.2.2]; exact hin) (by rw [g2]; exact h6) g1 g3 (by rw [hsl9]; exact k2_hasslot (g4 k hkN)) rfl rfl hd fin
theorem fid_inj {ci k ci' k' : Nat} (h : k < 40) (h' : k' < 40) : 64 * ci' + k' = 64 * ci + k ↔ ci' = ci ∧ k' = k := by omega
theorem FS.lt {own : String} {idx ci k : Nat} (h : FS own idx ci k) : k < 40 ∧ ci < 9 := by
  obtain ⟨q, ref, hc, hk, -⟩ := h
  exact ⟨Nat.lt_of_lt_of_le hk (cls_le hc).1, (cls_le hc).2⟩
theorem p_putI {idx ci k r : Nat} {x : Int32} (hd : decode M.2.1 pc = .ok (.putfield idx, 3)) (hf : FS M.1.cls idx ci k) (hk : isR ci k = false) (hfin : FinOk M ci k) (ht : tg σ r = ci + 1) (hn : narrow (fty ci k) (.int x) = .int x ∧ fits (fty ci k) (.int x) = true)
    (kk : Wp M d (pc + 3) lv st (pfi σ (64 * ci + k) r x) P) : Wp M d pc lv (.inl x :: .inr r :: st) σ P := by
  refine putf_go (v := .inl x) (σ' := pfi σ (64 * ci + k) r x) hd hf hfin ht hn.1 hn.2 rfl rfl rfl rfl (fun ci' k' r' hk' => ?_) kk
  unfold fval
  by_cases h : r' = r ∧ ci' = ci ∧ k' = k
  · obtain ⟨rfl, rfl, rfl⟩ := h
    simp [hk, pfi, fi, up2, tv]
  · rw [if_neg h]
    have e : up2 (fi σ) (64 * ci + k) r x (64 * ci' + k') r' = fi σ (64 * ci' + k') r' := by
      unfold up2
      rw [if_neg (fun z => h ⟨z.2, (fid_inj hf.lt.1 hk').mp z.1⟩)]
    show (if isR ci' k' = true then tv (.inr (fr σ (64 * ci' + k') r')) else Value.int (up2 (fi σ) (64 * ci + k) r x (64 * ci' + k') r')) = _
    rw [e]
theorem p_putR {idx ci k r x : Nat} (hd : decode M.2.1 pc = .ok (.putfield idx, 3)) (hf : FS M.1.cls idx ci k) (hk : isR ci k = true) (hfin : FinOk M ci k) (ht : tg σ r = ci + 1)
    (kk : Wp M d (pc + 3) lv st (pfr σ (64 * ci + k) r x) P) : Wp M d pc lv (.inr x :: .inr r :: st) σ P := by
  have hn : narrow (fty ci k) (tv (.inr x)) = tv (.inr x) ∧ fits (fty ci k) (tv (.inr x)) = true := by
    rcases fty_rf ci hf.lt.2 k hf.lt.1 hk with ⟨n, e⟩ | ⟨n, e⟩ <;> rw [e] <;> cases x <;> exact ⟨rfl, rfl⟩
  refine putf_go (v := .inr x) (σ' := pfr σ (64 * ci + k) r x) hd hf hfin ht hn.1 hn.2 rfl rfl rfl rfl (fun ci' k' r' hk' => ?_) kk
  unfold fval
  by_cases h : r' = r ∧ ci' = ci ∧ k' = k
  · obtain ⟨rfl, rfl, rfl⟩ := h
    simp [hk, pfr, fr, up2, tv]
  · rw [if_neg h]
    have e : up2 (fr σ) (64 * ci + k) r x (64 * ci' + k') r' = fr σ (64 * ci' + k') r' := by
      unfold up2
      rw [if_neg (fun z => h ⟨z.2, (fid_inj hf.lt.1 hk').mp z.1⟩)]
    show (if isR ci' k' = true then tv (.inr (up2 (fr σ) (64 * ci + k) r x (64 * ci' + k') r')) else Value.int (fi σ (64 * ci' + k') r')) = _
    rw [e]
end RowsB
end
section
/-! new cells, arrays, statics, casts, copies -/
theorem fi_pnew {σ : PS} {ci N i r : Nat} : fi (pnew σ ci N) i r = if r = nx σ then 0 else fi σ i r := rfl
theorem fr_pnew {σ : PS} {ci N i r : Nat} : fr (pnew σ ci N) i r = if r = nx σ then 0 else fr σ i r := rfl
theorem cat_sum : ∀ st : List PV, ((st.map tv).map fun v => v.category).sum = st.length
  | [] => rfl
  | v :: t => by
    simp only [List.map_cons, List.sum_cons, List.length_cons, tv_cat]
    rw [cat_sum t]
    omega
section RowsC
variable {M : MM} {d pc : Nat} {lv : List (Nat × PV)} {st : List PV} {σ : PS} {P : Option PV → PS → Prop}
/-- the heap with one cell more -/
theorem RepH.grow {K : KX} {σ σ' : PS} {H H' : Heap} (hR : RepH K σ H) (e2 : H'.size = H.size + 1) (e3 : ∀ q : Nat, q < H.size → H'[q]? = H[q]?)
    (h1 : nx σ' = nx σ + 1) (ht : ∀ r, r ≠ nx σ → tg σ' r = tg σ r)
    (h2 : ∀ r, r ≠ nx σ → al σ' r = al σ r) (h3 : ∀ r j, r ≠ nx σ → ai σ' r j = ai σ r j) (h4 : ∀ r j, r ≠ nx σ → ar σ' r j = ar σ r j) (h5 : ∀ i r, r ≠ nx σ → fi σ' i r = fi σ i r) (h6 : ∀ i r, r ≠ nx σ → fr σ' i r = fr σ i r)
    (hnew : (∃ (ci : Nat) (q : vw_C), tg σ' (nx σ) = ci + 1 ∧ cls[ci]? = some q ∧ t_OB H.size (kC K ci) q.2.2 (kI K ci) H' (fun k => fval σ' ci k (H.size + 1))) ∨
      ∃ ti : Nat, ti < 6 ∧ tg σ' (nx σ) = 100 + ti ∧ H'[H.size]? = some (arrV (kA K ti) (al σ' (H.size + 1)) (fun j => aval σ' ti (H.size + 1) j))) : RepH K σ' H' := by
  obtain ⟨r1, r2, r3, r4, r5, r6, r7⟩ := hR
  have fv : ∀ ci k r, r ≠ nx σ → fval σ' ci k r = fval σ ci k r := fun ci k r h => by
    unfold fval
    rw [h5 _ r h, h6 _ r h]
  have av : ∀ ti r j, r ≠ nx σ → aval σ' ti r j = aval σ ti r j := fun ti r j h => by
    unfold aval
    rw [h3 r j h, h4 r j h]
  refine ⟨by omega, by omega, fun a ci q ha hq => ?_, fun a ti hti ha => ?_, fun r hr => ?_, fun r hr => ?_, ?_⟩
  · by_cases hn : a + 1 = nx σ
    · have haH : a = H.size := by omega
      subst haH
      refine ⟨r2, ?_⟩
      rcases hnew with ⟨cj, q', g1, g2, g3⟩ | ⟨ti, g0, g1, -⟩
      · rw [hn, g1] at ha
        have : cj = ci := by omega
        subst this
        cases g2.symm.trans hq
        exact g3
      · rw [hn, g1] at ha
        have := (cls_le hq).2
        omega
    · rw [ht _ hn] at ha
      obtain ⟨g1, g2⟩ := r3 a ci q ha hq
      refine ⟨g1, ?_⟩
      have hlt : a < H.size := by
        obtain ⟨cell, z, -⟩ := g2
        exact (Array.getElem?_eq_some_iff.mp z).1
      exact (g2.kept (e3 a hlt)).to (fun k _ => (fv ci k (a + 1) hn).symm)
  · by_cases hn : a + 1 = nx σ
    · have haH : a = H.size := by omega
      subst haH
      refine ⟨r2, ?_⟩
      rcases hnew with ⟨cj, q', g1, g2, g3⟩ | ⟨tj, g0, g1, g2⟩
      · rw [hn, g1] at ha
        have := (cls_le g2).2
        omega
      · rw [hn, g1] at ha
        have : tj = ti := by omega
        subst this
        exact g2
    · rw [ht _ hn] at ha
      obtain ⟨g1, g2⟩ := r4 a ti hti ha
      refine ⟨g1, ?_⟩
      have hlt : a < H.size := (Array.getElem?_eq_some_iff.mp g2).1
      rw [e3 a hlt, g2, h2 _ hn]
      congr 2
      funext j
      exact (av ti (a + 1) j hn).symm
  · by_cases hn : r = nx σ
    · exfalso
      subst hn
      rcases hnew with ⟨cj, q', g1, g2, g3⟩ | ⟨tj, g0, g1, g2⟩
      · rw [g1] at hr; have := (cls_le g2).2; omega
      · rw [g1] at hr; omega
    · rw [ht _ hn] at hr
      rw [h2 _ hn]
      exact r5 r hr
  · by_cases hn : r = nx σ
    · exfalso
      subst hn
      rcases hnew with ⟨cj, q', g1, g2, g3⟩ | ⟨tj, g0, g1, g2⟩
      · rw [g1] at hr; have := (cls_le g2).2; omega
      · rw [g1] at hr; omega
    · rw [ht _ hn] at hr
      rw [h2 _ hn]
      obtain ⟨g1, g2, g3⟩ := r6 r hr
      exact ⟨g1, g2, fun j hj => by rw [h3 _ _ hn]; exact g3 j hj⟩
  · rw [ht 0 (by omega), h2 0 (by omega)]; exact r7
/-- a step that makes one cell -/
theorem Wp.made {σ' : PS} {pc' : Nat} {st' : List PV} {n : Nat} (hn : nx σ' = nx σ + 1) (hs : sl σ' = sl σ + n)
    (h : ∀ (p : Program) (l : Launch) (e : Env) (R : Room) (s : State) (m : MethodId) (args : Array Value) (below : List Frame) (meth : Method) (c : Code) (K : KX) (H : Heap) (locs : List Loc) (cells slots : Nat) (ls : Array Slot) (Z : State → Prop), Cx M d K p R s m args meth c → RepH K σ H → cells + 1 ≤ R.cells → slots + n ≤ R.slots → lv_has ls M.2.2.1 (lvs lv) →
      (∀ H' : Heap, RepH K σ' H' → (∀ q : Nat, q < H.size → H'[q]? = H[q]?) → W p l e R s m args below meth c H' locs (cells + 1) (slots + n) Z (F0 m pc' ls (st'.map tv))) → W p l e R s m args below meth c H locs cells slots Z (F0 m pc ls (st.map tv)))
    (k : Wp M d pc' lv st' σ' P) : Wp M d pc lv st σ P := by
  obtain ⟨v, σ'', hP, h1, h2, hW⟩ := k
  refine ⟨v, σ'', hP, by omega, by omega, fun p l e R s m args below meth c K H locs cells slots ls Z C hR hB hL hc hs' hl hk => ?_⟩
  refine h p l e R s m args below meth c K H locs cells slots ls Z C hR (by omega) (by omega) hl (fun H' hR' hq => ?_)
  refine hW p l e R s m args below meth c K H' locs (cells + 1) (slots + n) ls Z C hR' (fun q hq' => ?_) hL (by omega) (by omega) hl ?_
  · rw [hq q (Nat.lt_of_lt_of_le hq' hR.2.1)]; exact hB q hq'
  · have e1 : cells + 1 + (nx σ'' - nx σ') = cells + (nx σ'' - nx σ) := by omega
    have e2 : slots + n + (sl σ'' - sl σ') = slots + (sl σ'' - sl σ) := by omega
    rw [e1, e2]
    exact hk
theorem p_new {idx ci N : Nat} {q : vw_C} (hd : decode M.2.1 pc = .ok (.new idx, 3)) (hc : cls[ci]? = some q) (hN : q.2.2 = N) (hw : Cond.classLink M.1.cls idx q.1 ∈ GT) (hi : Cond.instantiable q.1 N ∈ GT) (hini : Cond.initialized q.1 ∈ GT)
    (kk : Wp M d (pc + 3) lv (.inr (nx σ) :: st) (pnew σ ci N) P) : Wp M d pc lv st σ P := by
  refine Wp.made (σ' := pnew σ ci N) (n := N) rfl rfl (fun p l e R s m args below meth c K H locs cells slots ls Z C hR hcl hsl hl k => ?_) kk
  subst hN
  have hKn := C.2.2.2.2.2.1.1.1 ci q hc
  refine W.newcK C.1 C.2.1 C.2.2.2.1 (C.w hw) (C.w hi) (C.w hini) rfl hd hcl hsl hKn.2.1 rfl fun H1 kC hkC e1 z1 o1 => ?_
  have hx : nx σ = H.size + 1 := hR.1
  have key : RepH K (pnew σ ci q.2.2) H1 := by
    refine hR.grow z1 o1 rfl (fun r h => va_up_ne _ _ h) (fun _ _ => rfl) (fun _ _ _ => rfl) (fun _ _ _ => rfl) (fun i r h => by rw [fi_pnew, if_neg h]) (fun i r h => by rw [fr_pnew, if_neg h]) (Or.inl ⟨ci, q, va_up_self _ _ _, hc, ?_⟩)
    refine (u_born (fty ci) (fun w h => C.w h) (cls_in hc) hKn hkC e1 (cls_ty hc)).to (fun k hk => ?_)
    rw [fty_dv ci (cls_le hc).2 k (Nat.lt_of_lt_of_le hk (cls_le hc).1)]
    unfold fval
    rw [fi_pnew, fr_pnew, ← hx, if_pos rfl, if_pos rfl]
    rfl
  have := k H1 key o1
  simp only [List.map_cons] at this
  rw [hx] at this
  exact this
theorem tys_at {K : KX} {ti : Nat} (h : ti < 6) : (tys K)[ti]? = some (kA K ti, aty ti) := by
  rcases (by omega : ti = 0 ∨ ti = 1 ∨ ti = 2 ∨ ti = 3 ∨ ti = 4 ∨ ti = 5) with rfl | rfl | rfl | rfl | rfl | rfl <;> rfl
theorem p_newa {atype : ArrayType} {ti n : Nat} {x : Int32} (hd : decode M.2.1 pc = .ok (.newarray atype, 2)) (hti : ti < 2) (hty : newarray.typeOf atype = aty ti) (hw : Cond.arrayClass (aty ti) ∈ GT) (hx0 : ¬ x < 0) (hxn : x.toNatClampNeg = n) (hb : n ≤ 100000000)
    (kk : Wp M d (pc + 2) lv (.inr (nx σ) :: st) (parr σ ti n) P) : Wp M d pc lv (.inl x :: st) σ P := by
  refine Wp.made (σ' := parr σ ti n) (n := n) rfl rfl (fun p l e R s m args below meth c K H locs cells slots ls Z C hR hcl hsl hl k => ?_) kk
  have hK := (C.2.2.2.2.2.1.1.2 ti _ (tys_at (by omega))).2
  have hcb : componentBytes (newarray.typeOf atype) ≤ 4 := by
    rw [hty]; rcases (by omega : ti = 0 ∨ ti = 1) with rfl | rfl <;> decide
  refine va_newaK C.1 C.2.1 (by rw [hty]; exact C.w hw) rfl hd rfl hx0 hxn (Nat.le_trans (Nat.mul_le_mul_left n hcb) (by omega)) hcl hsl rfl fun H1 cA e1 z1 o1 hAr hNm => ?_
  have hx : nx σ = H.size + 1 := hR.1
  have hcA : cA = kA K ti := by
    rw [hty] at hNm
    rcases (by omega : ti = 0 ∨ ti = 1) with rfl | rfl
    · exact Option.some.inj (hNm.symm.trans hK)
    · exact Option.some.inj (hNm.symm.trans hK)
  subst hcA
  have key : RepH K (parr σ ti n) H1 := by
    refine hR.grow z1 o1 rfl (fun r h => va_up_ne _ _ h) (fun r h => va_up_ne _ _ h) (fun r j h => if_neg h) (fun r j h => if_neg h) (fun _ _ _ => rfl) (fun _ _ _ => rfl) (Or.inr ⟨ti, by omega, va_up_self _ _ _, ?_⟩)
    rw [e1, ← hx]
    have ea : al (parr σ ti n) (nx σ) = n := va_up_self _ _ _
    rw [ea]
    congr 2
    funext j
    rw [hty]
    unfold aval
    rw [if_pos hti]
    have ez : ai (parr σ ti n) (nx σ) j = 0 := if_pos rfl
    rw [ez]
    rcases (by omega : ti = 0 ∨ ti = 1) with rfl | rfl <;> rfl
  have := k H1 key o1
  simp only [List.map_cons] at this
  rw [hx] at this
  exact this
theorem p_newq {idx ti n : Nat} {C0 : String} {x : Int32} (hd : decode M.2.1 pc = .ok (.anewarray idx, 3)) (hti : 2 ≤ ti ∧ ti < 6) (hty : aty ti = .object C0) (hw : Cond.classLink M.1.cls idx C0 ∈ GT) (ho : Cond.arrayOver (.object C0) ∈ NT ∨ Cond.arrayOver (.object C0) ∈ GT) (hx0 : ¬ x < 0) (hxn : x.toNatClampNeg = n) (hb : n ≤ 100000000)
    (kk : Wp M d (pc + 3) lv (.inr (nx σ) :: st) (parr σ ti n) P) : Wp M d pc lv (.inl x :: st) σ P := by
  refine Wp.made (σ' := parr σ ti n) (n := n) rfl rfl (fun p l e R s m args below meth c K H locs cells slots ls Z C hR hcl hsl hl k => ?_) kk
  have hK := (C.2.2.2.2.2.1.1.2 ti _ (tys_at hti.2)).2
  have hov : (Cond.arrayOver (.object C0)).before args s = true := by
    rcases ho with h | h
    · exact va_AO.use (C.2.2.2.2.2.1.2.1 _ h)
    · exact C.w h
  subst hxn
  refine W.anew C.1 C.2.1 C.2.2.2.1 (C.w hw) hov rfl hd rfl hx0 (by omega) hcl hsl fun cA kA9 comp f1 f2 f3 f4 => ?_
  have hx : nx σ = H.size + 1 := hR.1
  have hcA : cA = kA K ti := by
    simp only [hty] at hK
    obtain ⟨_, _, _, _, _, g⟩ := hK
    exact Option.some.inj (f1.symm.trans g)
  subst hcA
  generalize hH1 : H.push ({ cls := kA K ti, slots := Array.replicate x.toNatClampNeg .null, vm := .none } : Cell) = H1
  have z1 : H1.size = H.size + 1 := by rw [← hH1, Array.size_push]
  have e1 : H1[H.size]? = some (arrV (kA K ti) x.toNatClampNeg (fun _ => .null)) := by rw [← hH1, Array.getElem?_push_size, ← arrV_new]
  have o1 : ∀ q : Nat, q < H.size → H1[q]? = H[q]? := fun q hq => by rw [← hH1, Array.getElem?_push, if_neg (Nat.ne_of_lt hq)]
  have key : RepH K (parr σ ti x.toNatClampNeg) H1 := by
    refine hR.grow z1 o1 rfl (fun r h => va_up_ne _ _ h) (fun r h => va_up_ne _ _ h) (fun r j h => if_neg h) (fun r j h => if_neg h) (fun _ _ _ => rfl) (fun _ _ _ => rfl) (Or.inr ⟨ti, hti.2, va_up_self _ _ _, ?_⟩)
    rw [e1, ← hx]
    have ea : al (parr σ ti x.toNatClampNeg) (nx σ) = x.toNatClampNeg := va_up_self _ _ _
    rw [ea]
    congr 2
    funext j
    unfold aval
    rw [if_neg (by omega)]
    have ez : ar (parr σ ti x.toNatClampNeg) (nx σ) j = 0 := if_pos rfl
    rw [ez]
    rfl
  have := k H1 key o1
  simp only [List.map_cons] at this
  rw [hx] at this
  exact this
theorem RepH.posA {K : KX} {H : Heap} (hR : RepH K σ H) {r n : Nat} (h : tg σ r = 100 + n) : ∃ a, r = a + 1 := hR.pos (n := 99 + n) (by omega)
theorem p_alen {ti r : Nat} (hd : decode M.2.1 pc = .ok (.arraylength, 1)) (hti : ti < 6) (ht : tg σ r = 100 + ti) (kk : Wp M d (pc + 1) lv (.inl (nI (al σ r)) :: st) σ P) : Wp M d pc lv (.inr r :: st) σ P := by
  refine Wp.go (fun p l e R s m args below meth c K H locs cells slots ls Z C hR hB hL hl k => ?_) kk
  obtain ⟨a, rfl⟩ := hR.posA ht
  obtain ⟨g1, g2⟩ := hR.2.2.2.1 a ti hti ht
  exact W.alen (n := Int32.ofNat (al σ (a + 1))) C.1 C.2.1 g2 ((C.2.2.2.2.2.1.1.2 ti _ (tys_at hti)).1 _ _) (by rw [arrV_size] <;> rfl) rfl rfl hd k
theorem p_alenZ {r : Nat} (hd : decode M.2.1 pc = .ok (.arraylength, 1)) (ht : tg σ r = 99) (kk : Wp M d (pc + 1) lv (.inl 0 :: st) σ P) : Wp M d pc lv (.inr r :: st) σ P := by
  refine Wp.go (fun p l e R s m args below meth c K H locs cells slots ls Z C hR hB hL hl k => ?_) kk
  obtain ⟨rfl, -⟩ := hR.2.2.2.2.1 r ht
  obtain ⟨cell, g1, g2, g3, g4, g5, g6, g7⟩ := C.2.2.2.2.2.1.2.2.2.1
  exact W.alen (n := 0) C.1 C.2.1 (by rw [hB _ (Nat.not_le.mp g7)]; exact g1) g2 g5 rfl rfl hd k
theorem p_alenX {r : Nat} (hd : decode M.2.1 pc = .ok (.arraylength, 1)) (ht : tg σ r = 98) (kk : Wp M d (pc + 1) lv (.inl (nI (al σ r)) :: st) σ P) : Wp M d pc lv (.inr r :: st) σ P := by
  refine Wp.go (fun p l e R s m args below meth c K H locs cells slots ls Z C hR hB hL hl k => ?_) kk
  obtain ⟨rfl, h2, -⟩ := hR.2.2.2.2.2.1 r ht
  obtain ⟨⟨scr, g1, g2, g3, g4, g5⟩, g6⟩ := C.2.2.2.2.2.1.2.2.2.2.2
  exact W.alen (n := Int32.ofNat (al σ (kx K + 1))) C.1 C.2.1 (by rw [hB _ g6]; exact g1) g2 (by rw [g4, h2] <;> rfl) rfl rfl hd k
theorem p_ialdX {r : Nat} {j : Int32} {n : Nat} (hd : decode M.2.1 pc = .ok (.iaload, 1)) (ht : tg σ r = 98) (hj : j = nI n) (hn : n < al σ r) (hm : al σ r < 2 ^ 31) (kk : Wp M d (pc + 1) lv (.inl (ai σ r n) :: st) σ P) : Wp M d pc lv (.inl j :: .inr r :: st) σ P := by
  refine Wp.go (fun p l e R s m args below meth c K H locs cells slots ls Z C hR hB hL hl k => ?_) kk
  obtain ⟨rfl, h2, h3⟩ := hR.2.2.2.2.2.1 r ht
  obtain ⟨⟨scr, g1, g2, g3, g4, g5⟩, g6⟩ := C.2.2.2.2.2.1.2.2.2.2.2
  subst hj
  have hcl : (nI n).toNatClampNeg = n := nI_clamp (by omega)
  exact W.iald (v := .int (ai σ (kx K + 1) n)) C.1 C.2.1 (by rw [hB _ g6]; exact g1) g2 g3 (by rw [g4, ← h2]; exact nI_in hn hm) (by rw [hcl, h3 n (by omega)]; exact g5 n (by omega)) rfl rfl hd k
theorem nI_in2 {n N : Nat} (h : n < N) (hb : n < 2 ^ 31) : ¬ (nI n < 0 ∨ N ≤ (nI n).toNatClampNeg) := by
  rintro (h1 | h1)
  · exact nI_pos hb h1
  · rw [nI_clamp hb] at h1; omega
theorem p_iald {r : Nat} {j : Int32} {n : Nat} (hd : decode M.2.1 pc = .ok (.iaload, 1)) (ht : tg σ r = 100) (hj : j = nI n) (hn : n < al σ r) (hb : n < 2 ^ 31) (kk : Wp M d (pc + 1) lv (.inl (ai σ r n) :: st) σ P) : Wp M d pc lv (.inl j :: .inr r :: st) σ P := by
  refine Wp.go (fun p l e R s m args below meth c K H locs cells slots ls Z C hR hB hL hl k => ?_) kk
  obtain ⟨a, rfl⟩ := hR.posA (n := 0) ht
  obtain ⟨g1, g2⟩ := hR.2.2.2.1 a 0 (by omega) ht
  subst hj
  exact W.iald (v := .int (ai σ (a + 1) n)) C.1 C.2.1 g2 ((C.2.2.2.2.2.1.1.2 0 _ (tys_at (by omega))).1 _ _) (fun q => by cases q) (by rw [arrV_size]; exact nI_in2 hn hb) (by rw [nI_clamp hb, arrV_read _ _ hn]; rfl) rfl rfl hd k
theorem p_zald {r : Nat} {j : Int32} {n : Nat} (hd : decode M.2.1 pc = .ok (.baload, 1)) (ht : tg σ r = 101) (hj : j = nI n) (hn : n < al σ r) (hb : n < 2 ^ 31) (kk : Wp M d (pc + 1) lv (.inl (ai σ r n) :: st) σ P) : Wp M d pc lv (.inl j :: .inr r :: st) σ P := by
  refine Wp.go (fun p l e R s m args below meth c K H locs cells slots ls Z C hR hB hL hl k => ?_) kk
  obtain ⟨a, rfl⟩ := hR.posA (n := 1) ht
  obtain ⟨g1, g2⟩ := hR.2.2.2.1 a 1 (by omega) ht
  subst hj
  exact W.zald (v := .int (ai σ (a + 1) n)) C.1 C.2.1 g2 ((C.2.2.2.2.2.1.1.2 1 _ (tys_at (by omega))).1 _ _) (fun q => by cases q) (by rw [arrV_size]; exact nI_in2 hn hb) (by rw [nI_clamp hb, arrV_read _ _ hn]; rfl) rfl rfl hd k
theorem aty_ref {ti : Nat} (h : 2 ≤ ti) : (aty ti).isReference = true := by
  match ti, h with
  | 2, _ => rfl
  | 3, _ => rfl
  | 4, _ => rfl
  | n + 5, _ => rfl
theorem p_aald {ti r : Nat} {j : Int32} {n : Nat} (hd : decode M.2.1 pc = .ok (.aaload, 1)) (hti : 2 ≤ ti ∧ ti < 6) (ht : tg σ r = 100 + ti) (hj : j = nI n) (hn : n < al σ r) (hb : n < 2 ^ 31) (kk : Wp M d (pc + 1) lv (.inr (ar σ r n) :: st) σ P) : Wp M d pc lv (.inl j :: .inr r :: st) σ P := by
  refine Wp.go (fun p l e R s m args below meth c K H locs cells slots ls Z C hR hB hL hl k => ?_) kk
  obtain ⟨a, rfl⟩ := hR.posA ht
  obtain ⟨g1, g2⟩ := hR.2.2.2.1 a ti hti.2 ht
  subst hj
  exact W.aald (v := tv (.inr (ar σ (a + 1) n))) (ty := aty ti) C.1 C.2.1 g2 ((C.2.2.2.2.2.1.1.2 ti _ (tys_at hti.2)).1 _ _) (aty_ref hti.1) (fun q => by cases q) (by rw [arrV_size]; exact nI_in2 hn hb) (by rw [nI_clamp hb, arrV_read _ _ hn]; unfold aval; rw [if_neg (by omega)]) rfl rfl hd k
/-- the heap behind a store into an array -/
theorem RepH.sto {K : KX} {σ' : PS} {H H' : Heap} {a ti : Nat} (hR : RepH K σ H) (hti : ti < 6) (ht : tg σ (a + 1) = 100 + ti) {f : Nat → Value} (e1 : H'[a]? = some (arrV (kA K ti) (al σ (a + 1)) f)) (e2 : H'.size = H.size) (e3 : ∀ q, q ≠ a → H'[q]? = H[q]?)
    (h1 : σ'.1 = σ.1) (h2 : al σ' = al σ) (h5 : fi σ' = fi σ) (h6 : fr σ' = fr σ) (hf : ∀ j, j < al σ (a + 1) → f j = aval σ' ti (a + 1) j) (h3 : ∀ r j, r ≠ a + 1 → ai σ' r j = ai σ r j) (h4 : ∀ r j, r ≠ a + 1 → ar σ' r j = ar σ r j) : RepH K σ' H' := by
  obtain ⟨r1, r2, r3, r4, r5, r6, r7⟩ := hR
  have n1 : nx σ' = nx σ := by unfold nx; rw [h1]
  have t1 : tg σ' = tg σ := by unfold tg; rw [h1]
  refine ⟨by rw [n1, e2]; exact r1, by rw [e2]; exact r2, fun b ci q hb hq => ?_, fun b tj htj hb => ?_, fun r hr => ?_, fun r hr => ?_, by rw [t1, h2]; exact r7⟩
  · rw [t1] at hb
    obtain ⟨g1, g2⟩ := r3 b ci q hb hq
    have hba : b ≠ a := by
      rintro rfl
      have := (cls_le hq).2
      omega
    refine ⟨g1, (g2.kept (e3 b hba)).to (fun k _ => ?_)⟩
    unfold fval
    rw [h5, h6]
  · rw [t1] at hb
    obtain ⟨g1, g2⟩ := r4 b tj htj hb
    refine ⟨g1, ?_⟩
    by_cases hba : b = a
    · subst hba
      have : tj = ti := by omega
      subst this
      rw [e1, h2]
      congr 1
      unfold arrV
      congr 1
      apply Array.ext
      · simp
      · intro i hi1 hi2
        simp at hi1
        simp [hf i hi1]
    · rw [e3 b hba, g2, h2]
      congr 2
      funext j
      unfold aval
      rw [h3 _ _ (by omega), h4 _ _ (by omega)]
  · rw [t1] at hr
    rw [h2]
    exact r5 r hr
  · rw [t1] at hr
    rw [h2]
    obtain ⟨g1, g2, g3⟩ := r6 r hr
    exact ⟨g1, g2, fun j hj => by rw [h3 _ _ (by rintro rfl; omega)]; exact g3 j hj⟩
/-- a step that writes into one cell -/
theorem Wp.wrote {σ' : PS} {pc' : Nat} {st' : List PV} (hs : σ'.1 = σ.1)
    (h : ∀ (p : Program) (l : Launch) (e : Env) (R : Room) (s : State) (m : MethodId) (args : Array Value) (below : List Frame) (meth : Method) (c : Code) (K : KX) (H : Heap) (locs : List Loc) (cells slots : Nat) (ls : Array Slot) (Z : State → Prop), Cx M d K p R s m args meth c → RepH K σ H → (∀ q : Nat, q < kb K → H[q]? = s.heap[q]?) → lv_has ls M.2.2.1 (lvs lv) → (∀ q ∈ locs, kb K ≤ q.base) →
      (∀ (H' : Heap) (locs' : List Loc), RepH K σ' H' → (∀ q : Nat, q < kb K → H'[q]? = H[q]?) → (∀ q ∈ locs', kb K ≤ q.base) → W p l e R s m args below meth c H' locs' cells slots Z (F0 m pc' ls (st'.map tv))) → W p l e R s m args below meth c H locs cells slots Z (F0 m pc ls (st.map tv)))
    (k : Wp M d pc' lv st' σ' P) : Wp M d pc lv st σ P := by
  obtain ⟨v, σ'', hP, h1, h2, hW⟩ := k
  have n1 : nx σ' = nx σ := by unfold nx; rw [hs]
  have s1 : sl σ' = sl σ := by unfold sl; rw [hs]
  rw [n1, s1] at hW
  refine ⟨v, σ'', hP, by omega, by omega, fun p l e R s m args below meth c K H locs cells slots ls Z C hR hB hL hc hs' hl hk => ?_⟩
  exact h p l e R s m args below meth c K H locs cells slots ls Z C hR hB hl hL (fun H' locs' hR' hq hL' => hW p l e R s m args below meth c K H' locs' cells slots ls Z C hR' (fun q hq' => (hq q hq').trans (hB q hq')) hL' hc hs' hl hk)
theorem p_iast {r : Nat} {j x : Int32} {n : Nat} (hd : decode M.2.1 pc = .ok (.iastore, 1)) (ht : tg σ r = 100) (hj : j = nI n) (hn : n < al σ r) (hb : n < 2 ^ 31) (kk : Wp M d (pc + 1) lv st (pai σ r n x) P) : Wp M d pc lv (.inl x :: .inl j :: .inr r :: st) σ P := by
  refine Wp.wrote (σ' := pai σ r n x) rfl (fun p l e R s m args below meth c K H locs cells slots ls Z C hR hB hl hL k => ?_) kk
  obtain ⟨a, rfl⟩ := hR.posA (n := 0) ht
  obtain ⟨g1, g2⟩ := hR.2.2.2.1 a 0 (by omega) ht
  subst hj
  refine W.iast C.1 C.2.1 g2 ((C.2.2.2.2.2.1.1.2 0 _ (tys_at (by omega))).1 _ _) (fun q => by cases q) (by rw [arrV_size]; exact nI_in2 hn hb) rfl rfl hd fun H1 e z oq => ?_
  rw [nI_clamp hb, arrV_store] at e
  refine k H1 _ (hR.sto (ti := 0) (by omega) ht e z oq rfl rfl rfl rfl (fun i hi => ?_) (fun r' j' h' => ?_) (fun _ _ _ => rfl)) (fun q hq => oq q (Nat.ne_of_lt (Nat.lt_of_lt_of_le hq g1))) (fun q hq => ?_)
  · unfold updV aval
    by_cases h : i = n
    · subst h; simp [pai, ai, up2]
    · simp [pai, ai, up2, h]
  · simp [pai, ai, up2, h']
  · rcases List.mem_append.mp hq with h | h
    · exact hL q h
    · rw [List.mem_singleton.mp h]; exact g1
theorem p_zast {r : Nat} {j x : Int32} {n : Nat} (hd : decode M.2.1 pc = .ok (.bastore, 1)) (ht : tg σ r = 101) (hj : j = nI n) (hn : n < al σ r) (hb : n < 2 ^ 31) (hx : narrow .boolean (.int x) = .int x) (kk : Wp M d (pc + 1) lv st (pai σ r n x) P) : Wp M d pc lv (.inl x :: .inl j :: .inr r :: st) σ P := by
  refine Wp.wrote (σ' := pai σ r n x) rfl (fun p l e R s m args below meth c K H locs cells slots ls Z C hR hB hl hL k => ?_) kk
  obtain ⟨a, rfl⟩ := hR.posA (n := 1) ht
  obtain ⟨g1, g2⟩ := hR.2.2.2.1 a 1 (by omega) ht
  subst hj
  refine W.zast C.1 C.2.1 g2 ((C.2.2.2.2.2.1.1.2 1 _ (tys_at (by omega))).1 _ _) (fun q => by cases q) (by rw [arrV_size]; exact nI_in2 hn hb) rfl rfl hd fun H1 e z oq => ?_
  rw [nI_clamp hb, hx, arrV_store] at e
  refine k H1 _ (hR.sto (ti := 1) (by omega) ht e z oq rfl rfl rfl rfl (fun i hi => ?_) (fun r' j' h' => ?_) (fun _ _ _ => rfl)) (fun q hq => oq q (Nat.ne_of_lt (Nat.lt_of_lt_of_le hq g1))) (fun q hq => ?_)
  · unfold updV aval
    by_cases h : i = n
    · subst h; simp [pai, ai, up2]
    · simp [pai, ai, up2, h]
  · simp [pai, ai, up2, h']
  · rcases List.mem_append.mp hq with h | h
    · exact hL q h
    · rw [List.mem_singleton.mp h]; exact g1
/-- an object of class ci may lie where C0 is asked for -/
def CastOk (ci : Nat) (C0 : String) : Prop := ∃ q : vw_C, cls[ci]? = some q ∧ (q.1 = C0 ∨ Cond.castable q.1 C0 ∈ NT ∨ Cond.castable q.1 C0 ∈ GT)
theorem CastOk.asg {K : KX} {p : Program} {R : Room} {s : State} {m : MethodId} {args : Array Value} {meth : Method} {c : Code} (C : Cx M d K p R s m args meth c) {ci : Nat} {C0 : String} (h : CastOk ci C0) {comp : ClassId} (hc : s.vm.findClass C0 = some comp) : s.vm.assignable (kC K ci) comp = true := by
  obtain ⟨q, hq, h⟩ := h
  have hcl := (C.2.2.2.2.2.1.1.1 ci q hq).2
  have two : (Cond.castable q.1 C0).before args s = true → s.vm.assignable (kC K ci) comp = true := by
    intro h1
    obtain ⟨c0, t0, f1, f2, f3⟩ := Cond.castable_spec h1
    cases hc.symm.trans f2
    cases hcl.1.symm.trans f1
    exact f3
  rcases h with h | h | h
  · subst h
    cases hcl.1.symm.trans hc
    exact va_assign hcl
  · exact two (va_Nw.use rfl (C.2.2.2.2.2.1.2.1 _ h))
  · exact two (C.w h)
theorem RepH.cell {K : KX} {H : Heap} (hR : RepH K σ H) {p : Program} {R : Room} {s : State} {m : MethodId} {args : Array Value} {meth : Method} {c : Code} (C : Cx M d K p R s m args meth c) {a ci : Nat} {q : vw_C} (hq : cls[ci]? = some q) (ht : tg σ (a + 1) = ci + 1) : ∃ cell : Cell, H[a]? = some cell ∧ cell.vm.isStatics = false ∧ cell.cls = kC K ci ∧ s.vm.findClass q.1 = some cell.cls ∧ ∃ k : Class, s.vm.classes[cell.cls]? = some k := by
  obtain ⟨gb, cell, g1, g2, g3, g4⟩ := hR.2.2.1 a ci q ht hq
  obtain ⟨h1, k, h2, h3⟩ := (C.2.2.2.2.2.1.1.1 ci q hq).2
  exact ⟨cell, g1, by rw [g3]; rfl, g2, by rw [g2]; exact h1, k, by rw [g2]; exact h2⟩
theorem p_aast {ti r x ci : Nat} {C0 : String} {j : Int32} {n : Nat} (hd : decode M.2.1 pc = .ok (.aastore, 1)) (hti : 2 ≤ ti ∧ ti < 6) (hty : aty ti = .object C0) (ht : tg σ r = 100 + ti) (hx : tg σ x = ci + 1) (hca : CastOk ci C0) (hj : j = nI n) (hn : n < al σ r) (hb : n < 2 ^ 31) (kk : Wp M d (pc + 1) lv st (par σ r n x) P) : Wp M d pc lv (.inr x :: .inl j :: .inr r :: st) σ P := by
  refine Wp.wrote (σ' := par σ r n x) rfl (fun p l e R s m args below meth c K H locs cells slots ls Z C hR hB hl hL k => ?_) kk
  obtain ⟨a, rfl⟩ := hR.posA ht
  obtain ⟨b, rfl⟩ := hR.pos hx
  obtain ⟨g1, g2⟩ := hR.2.2.2.1 a ti hti.2 ht
  subst hj
  obtain ⟨q, hq, -⟩ := id hca
  obtain ⟨cv, c1, c2, c3, c4, kv, c5⟩ := hR.cell C hq hx
  have hRA := (C.2.2.2.2.2.1.1.2 ti _ (tys_at hti.2)).2
  simp only [hty] at hRA
  obtain ⟨kA9, comp, k1, k2, k3, -⟩ := hRA
  obtain ⟨kE, hkE, -⟩ := Vm.findClass_spec k3
  refine W.aast C.1 C.2.1 g2 (fun q h => by cases h) (fun h => by cases h) k1 k2 rfl hkE ⟨nI_pos hb, by rw [arrV_size, nI_clamp hb]; exact hn⟩ c1 (fun q h => by rw [h] at c2; cases c2) c5 (by rw [c3]; exact hca.asg C k3) rfl rfl hd fun H1 e z oq => ?_
  rw [nI_clamp hb, arrV_store] at e
  refine k H1 _ (hR.sto (ti := ti) hti.2 ht e z oq rfl rfl rfl rfl (fun i hi => ?_) (fun _ _ _ => rfl) (fun r' j' h' => ?_)) (fun q hq => oq q (Nat.ne_of_lt (Nat.lt_of_lt_of_le hq g1))) (fun q hq => ?_)
  · have h2 : ¬ ti < 2 := by omega
    by_cases h : i = n
    · subst h; simp [updV, aval, h2, par, ar, up2, tv]
    · simp [updV, aval, h2, par, ar, up2, h]
  · simp [par, ar, up2, h']
  · rcases List.mem_append.mp hq with h | h
    · exact hL q h
    · rw [List.mem_singleton.mp h]; exact g1
theorem p_aastN {ti r : Nat} {C0 : String} {j : Int32} {n : Nat} (hd : decode M.2.1 pc = .ok (.aastore, 1)) (hti : 2 ≤ ti ∧ ti < 6) (hty : aty ti = .object C0) (ht : tg σ r = 100 + ti) (hj : j = nI n) (hn : n < al σ r) (hb : n < 2 ^ 31) (kk : Wp M d (pc + 1) lv st (par σ r n 0) P) : Wp M d pc lv (.inr 0 :: .inl j :: .inr r :: st) σ P := by
  refine Wp.wrote (σ' := par σ r n 0) rfl (fun p l e R s m args below meth c K H locs cells slots ls Z C hR hB hl hL k => ?_) kk
  obtain ⟨a, rfl⟩ := hR.posA ht
  obtain ⟨g1, g2⟩ := hR.2.2.2.1 a ti hti.2 ht
  subst hj
  have hAr := (C.2.2.2.2.2.1.1.2 ti _ (tys_at hti.2)).1
  simp only [hty] at hAr
  refine va_WaastN (C := C0) C.1 C.2.1 g2 (hAr _ _) (fun h => by cases h) (by rw [arrV_size]; exact nI_in2 hn hb) rfl rfl hd fun H1 e z oq => ?_
  rw [nI_clamp hb, arrV_store] at e
  refine k H1 _ (hR.sto (ti := ti) hti.2 ht e z oq rfl rfl rfl rfl (fun i hi => ?_) (fun _ _ _ => rfl) (fun r' j' h' => ?_)) (fun q hq => oq q (Nat.ne_of_lt (Nat.lt_of_lt_of_le hq g1))) (fun q hq => ?_)
  · have h2 : ¬ ti < 2 := by omega
    by_cases h : i = n
    · subst h; simp [updV, aval, h2, par, ar, up2, tv]
    · simp [updV, aval, h2, par, ar, up2, h]
  · simp [par, ar, up2, h']
  · rcases List.mem_append.mp hq with h | h
    · exact hL q h
    · rw [List.mem_singleton.mp h]; exact g1
theorem p_gets {idx : Nat} {z : Nat} (hd : decode M.2.1 pc = .ok (.getstatic idx, 3)) (hw : Cond.fieldLink M.1.cls idx "java/util/ArrayList" "DEFAULTCAPACITY_EMPTY_ELEMENTDATA" "[Ljava/lang/Object;" ∈ GT) (hz : tg σ z = 99) (kk : Wp M d (pc + 3) lv (.inr z :: st) σ P) : Wp M d pc lv st σ P := by
  refine Wp.go (fun p l e R s m args below meth c K H locs cells slots ls Z C hR hB hL hl k => ?_) kk
  obtain ⟨rfl, -⟩ := hR.2.2.2.2.1 z hz
  obtain ⟨cf, kf, fi, f, a, cell, h1, h2, h3, h4, h5, h6, h7, h8⟩ := C.2.2.2.2.2.1.2.2.1
  exact W.gets C.1 C.2.1 C.2.2.2.1 (C.w hw) h1 h2 h3 h4 (by rw [hB a (Nat.not_le.mp h8)]; exact h5) (fun e => by rw [e] at h6; cases h6) h7 rfl hd k
theorem p_cast {idx ci r : Nat} {C0 : String} (hd : decode M.2.1 pc = .ok (.checkcast idx, 3)) (hw : Cond.classLink M.1.cls idx C0 ∈ GT) (hca : CastOk ci C0) (ht : tg σ r = ci + 1) (hC0 : ∃ (cj : Nat) (q : vw_C), cls[cj]? = some q ∧ q.1 = C0) (kk : Wp M d (pc + 3) lv (.inr r :: st) σ P) : Wp M d pc lv (.inr r :: st) σ P := by
  refine Wp.go (fun p l e R s m args below meth c K H locs cells slots ls Z C hR hB hL hl k => ?_) kk
  obtain ⟨a, rfl⟩ := hR.pos ht
  obtain ⟨q, hq, -⟩ := id hca
  obtain ⟨cell, c1, c2, c3, c4, kv, c5⟩ := hR.cell C hq ht
  obtain ⟨cj, q', hq', rfl⟩ := hC0
  have hcj := (C.2.2.2.2.2.1.1.1 cj q' hq').2.1
  intro T hT X
  obtain ⟨vm', X', stp⟩ := X.checkcastYes C.1 C.2.2.2.1 (C.w hw) (by rw [hT]; exact c1) c2 hcj (by rw [c3]; exact hca.asg C hcj) (g := F0 m pc ls (.ref a :: st.map tv)) rfl rfl (by rw [C.2.1]; exact hd)
  obtain ⟨t, a1, b1⟩ := k (T.setVm vm') hT X'
  exact ⟨t, stp t a1, b1⟩
theorem p_ldcM {idx : Nat} (hd : decode M.2.1 pc = .ok (.ldc idx, 2)) (hw : Cond.classLink M.1.cls idx "[Ljava/lang/Object;" ∈ GT) (kk : Wp M d (pc + 2) lv (.inr (al σ 0) :: st) σ P) : Wp M d pc lv st σ P := by
  refine Wp.go (fun p l e R s m args below meth c K H locs cells slots ls Z C hR hB hL hl k => ?_) kk
  rw [hR.2.2.2.2.2.2.2] at k
  exact va_ldcM C.1 C.2.1 C.2.2.2.1 (C.w hw) C.2.2.2.2.2.1.2.2.2.2.1 hd k
def gcN : MethodName := ⟨"java/lang/Object", "getClass", "()Ljava/lang/Class;"⟩
theorem p_getC {idx r : Nat} (hd : decode M.2.1 pc = .ok (.invokevirtual idx, 3)) (hw : Cond.methodLink M.1.cls idx gcN ∈ GT) (h1 : Cond.declares gcN ∈ NT ∨ Cond.declares gcN ∈ GT) (h2 : Cond.selects "[Ljava/lang/Object;" gcN gcN ∈ GT) (h3 : Cond.instanceMethod gcN ∈ GT) (h4 : Cond.native gcN ∈ GT) (hst : st.length ≤ 8) (hd1 : 1 ≤ d) (ht : tg σ r = 102) (kk : Wp M d (pc + 3) lv (.inr (al σ 0) :: st) σ P) : Wp M d pc lv (.inr r :: st) σ P := by
  refine Wp.go (fun p l e R s m args below meth c K H locs cells slots ls Z C hR hB hL hl k => ?_) kk
  rw [hR.2.2.2.2.2.2.2] at k
  obtain ⟨a, rfl⟩ := hR.posA (n := 2) ht
  obtain ⟨g1, g2⟩ := hR.2.2.2.1 a 2 (by omega) ht
  have hRA := (C.2.2.2.2.2.1.1.2 2 _ (tys_at (by omega))).2
  have hdc : (Cond.declares gcN).before args s = true := by
    rcases h1 with h | h
    · exact va_Nw.use rfl (C.2.2.2.2.2.1.2.1 _ h)
    · exact C.w h
  exact va_getC C.1 C.2.1 (by rw [C.2.2.1]; exact hl.1.symm) C.2.2.2.1 (C.w hw) hdc (C.w h2) (C.w h3) (C.w h4) C.2.2.2.2.2.1.2.2.2.2.1 ⟨_, g2, rfl, va_nmO hRA rfl⟩ (Nat.le_trans hd1 C.2.2.2.2.2.2.1) (by rw [cat_sum]; have := C.2.2.2.2.2.2.2.1; omega) hd k
end RowsC
end
section
/-! copies of references, calls, a method out of its body -/
section RowsD
variable {M : MM} {d pc : Nat} {lv : List (Nat × PV)} {st : List PV} {σ : PS} {P : Option PV → PS → Prop}
theorem nn_int {z : Int32} (hz : ¬ z < 0) : z.toInt = (z.toNatClampNeg : Int) := by
  have hz0 : (0 : Int) ≤ z.toInt := by
    have := Int32.not_lt.mp hz
    simpa using Int32.le_iff_toInt_le.mp this
  show z.toInt = ((z.toInt.toNat : Nat) : Int)
  omega
theorem castO4 : CastOk 3 "java/lang/Object" := ⟨_, rfl, Or.inr (by first | exact Or.inl (nt_at 883 (by decide +kernel) (by decide +kernel)) | exact Or.inr (gt_at 883 (by decide +kernel) (by decide +kernel)))⟩
theorem castO6 : CastOk 5 "java/lang/Object" := ⟨_, rfl, Or.inr (by first | exact Or.inl (nt_at 884 (by decide +kernel) (by decide +kernel)) | exact Or.inr (gt_at 884 (by decide +kernel) (by decide +kernel)))⟩
theorem p_copy {idx r0 r sp dp n : Nat} {xs xd xn : Int32} (hd : decode M.2.1 pc = .ok (.invokestatic idx, 3)) (hw : Cond.methodLink M.1.cls idx arraycopyName ∈ GT) (hw1 : Cond.native arraycopyName ∈ GT) (hw2 : Cond.static arraycopyName ∈ GT) (hw3 : Cond.initialized "java/lang/System" ∈ GT)
    (t0 : tg σ r0 = 102) (t1 : tg σ r = 102) (e0 : xs = nI sp) (e1 : xd = nI dp) (e2 : xn = nI n) (b0 : sp < 2 ^ 30) (b1 : dp < 2 ^ 30) (b2 : n < 2 ^ 30) (h4 : sp + n ≤ al σ r0) (h5 : dp + n ≤ al σ r) (hel : ∀ i, i < n → ar σ r0 (sp + i) = 0 ∨ tg σ (ar σ r0 (sp + i)) = 4 ∨ tg σ (ar σ r0 (sp + i)) = 6) (hst : st.length ≤ 8) (hd1 : 1 ≤ d)
    (kk : Wp M d (pc + 3) lv st (pcpy σ r0 sp r dp n) P) : Wp M d pc lv (.inl xn :: .inl xd :: .inr r :: .inl xs :: .inr r0 :: st) σ P := by
  refine Wp.wrote (σ' := pcpy σ r0 sp r dp n) rfl (fun p l e R s m args below meth c K H locs cells slots ls Z C hR hB hl hL k => ?_) kk
  obtain ⟨a0, rfl⟩ := hR.posA (n := 2) t0
  obtain ⟨a, rfl⟩ := hR.posA (n := 2) t1
  obtain ⟨gb0, hc0⟩ := hR.2.2.2.1 a0 2 (by omega) t0
  obtain ⟨gb, hc1⟩ := hR.2.2.2.1 a 2 (by omega) t1
  subst e0; subst e1; subst e2
  have p0 : ¬ nI sp < 0 := nI_pos (by omega)
  have p1 : ¬ nI dp < 0 := nI_pos (by omega)
  have p2 : ¬ nI n < 0 := nI_pos (by omega)
  have q0 : (nI sp).toNatClampNeg = sp := nI_clamp (by omega)
  have q1 : (nI dp).toNatClampNeg = dp := nI_clamp (by omega)
  have q2 : (nI n).toNatClampNeg = n := nI_clamp (by omega)
  have hAr := (C.2.2.2.2.2.1.1.2 2 _ (tys_at (by omega))).1
  have hRA := (C.2.2.2.2.2.1.1.2 2 _ (tys_at (by omega))).2
  have f0 : ∀ r' : Nat, (fun j => aval σ 2 r' j) = fun j => tv (.inr (ar σ r' j)) := fun r' => by funext j; simp [aval]
  rw [f0] at hc0 hc1
  obtain ⟨-, k0, hk0, cm0, hkk0⟩ := hAr (al σ (a0 + 1)) (fun j => tv (.inr (ar σ (a0 + 1) j)))
  obtain ⟨-, k1, hk1, cm1, hkk1⟩ := hAr (al σ (a + 1)) (fun j => tv (.inr (ar σ (a + 1) j)))
  intro T hT X
  obtain ⟨vm', X', step⟩ := X.arraycopy C.1 C.2.2.2.1 (C.w hw) (C.w hw1) (C.w hw2) (C.w hw3) (src := a0) (dst := a) (srcPos := nI sp) (destPos := nI dp) (n := nI n) (by rw [hT]; exact hc0) (by rw [hT]; exact hc1)
    (fun _ h => by cases h) (fun _ h => by cases h) (fun h => by cases h) (fun h => by cases h) hk0 hk1 hkk0 hkk1 rfl p0 p1 p2
    (by rw [nn_int p0, nn_int p2, q0, q2, arrV_size]; omega)
    (by rw [nn_int p1, nn_int p2, q1, q2, arrV_size]; omega)
    (fun vm₁ hal i hi => by
      rw [q2] at hi
      rw [q0]
      have e : (arrV (kA K 2) (al σ (a0 + 1)) (fun j => tv (.inr (ar σ (a0 + 1) j)))).slots.getD (sp + i) .null = tv (.inr (ar σ (a0 + 1) (sp + i))) := by
        rw [Array.getD_eq_getD_getElem?, arrV_read _ _ (by omega)]
        rfl
      rw [e]
      have any : ∀ (y ci : Nat) (q : vw_C), ar σ (a0 + 1) (sp + i) = y + 1 → tg σ (y + 1) = ci + 1 → cls[ci]? = some q → CastOk ci "java/lang/Object" → fits (aty 2) (.ref y) = true ∧ (T.setVm vm₁).takes cm1 (.ref y) := by
        intro y ci q hy hty hq hca
        obtain ⟨cellV, g1, g2, g3, g4, kC9, hkC⟩ := hR.cell C hq hty
        obtain ⟨kA9, comp, r1, r2, r3, -⟩ := hRA
        cases hk1.symm.trans r1
        cases hkk1.symm.trans r2
        obtain ⟨kE, hkE, -⟩ := Vm.findClass_spec r3
        obtain ⟨kC', hkC', -⟩ := hal.2.2 _ _ hkC
        obtain ⟨kE', hkE', -⟩ := hal.2.2 _ _ hkE
        refine ⟨rfl, cellV, (show T.heap[y]? = some cellV by rw [hT]; exact g1), (fun q h => by rw [h] at g2; cases g2), ⟨kC', hkC'⟩, ⟨kE', hkE'⟩, ?_⟩
        show vm₁.assignable _ _ = true
        rw [hal.assignable, g3]
        exact hca.asg C r3
      rcases hel i hi with h0 | h0 | h0
      · rw [h0]; exact ⟨rfl, trivial⟩
      · obtain ⟨y, hy⟩ := hR.pos (n := 3) h0
        rw [hy]
        exact any y 3 _ hy (by rw [← hy]; exact h0) rfl castO4
      · obtain ⟨y, hy⟩ := hR.pos (n := 5) h0
        rw [hy]
        exact any y 5 _ hy (by rw [← hy]; exact h0) rfl castO6)
    (g := F0 m pc ls ((.inl (nI n) :: .inl (nI dp) :: .inr (a + 1) :: .inl (nI sp) :: .inr (a0 + 1) :: st : List PV).map tv)) rfl (by rw [C.2.2.1]; exact hl.1) (rest := st.map tv) rfl (by rw [C.2.1]; exact hd) (Nat.le_trans hd1 C.2.2.2.2.2.2.1)
    (by
      have hw9 : nativeFrameWords "java/lang/System" "arraycopy" 5 ≤ 20 := by decide
      have := C.2.2.2.2.2.2.2.1
      show 2 * 0 + _ + _ ≤ _
      rw [cat_sum]
      omega)
  have e1 : copied (arrV (kA K 2) (al σ (a0 + 1)) (fun j => tv (.inr (ar σ (a0 + 1) j)))) (arrV (kA K 2) (al σ (a + 1)) (fun j => tv (.inr (ar σ (a + 1) j)))) (nI sp) (nI dp) (nI n) = arrV (kA K 2) (al σ (a + 1)) (fun j => tv (.inr (va_cpy (ar σ (a0 + 1)) (ar σ (a + 1)) sp dp n j))) := by
    have := va_copied (fun z : Nat => tv (.inr z)) (kA K 2) (kA K 2) (n1 := al σ (a + 1)) (dp := dp) (ar σ (a0 + 1)) (ar σ (a + 1)) h4
    rw [← this]
    unfold copied
    rw [q0, q1, q2]
  rw [e1] at X' step
  have hlt : a < H.size := (Array.getElem?_eq_some_iff.mp hc1).1
  have hheap : ((T.setVm vm').setCell a (arrV (kA K 2) (al σ (a + 1)) (fun j => tv (.inr (va_cpy (ar σ (a0 + 1)) (ar σ (a + 1)) sp dp n j))))).heap = H.setIfInBounds a (arrV (kA K 2) (al σ (a + 1)) (fun j => tv (.inr (va_cpy (ar σ (a0 + 1)) (ar σ (a + 1)) sp dp n j)))) := by rw [← hT]; rfl
  have oq : ∀ q : Nat, q ≠ a → (H.setIfInBounds a (arrV (kA K 2) (al σ (a + 1)) (fun j => tv (.inr (va_cpy (ar σ (a0 + 1)) (ar σ (a + 1)) sp dp n j)))))[q]? = H[q]? := fun q hq => by simp [Array.getElem?_setIfInBounds, Ne.symm hq]
  obtain ⟨t, a1, b1⟩ := k _ _ (hR.sto (ti := 2) (σ' := pcpy σ (a0 + 1) sp (a + 1) dp n) (by omega) t1 (f := fun j => tv (.inr (va_cpy (ar σ (a0 + 1)) (ar σ (a + 1)) sp dp n j))) (show (H.setIfInBounds a _)[a]? = some _ by simp [Array.getElem?_setIfInBounds, hlt]) (by simp) oq rfl rfl rfl rfl (fun j hj => by simp [aval, pcpy, ar]) (fun _ _ _ => rfl) (fun r' j' h' => if_neg h'))
    (fun q hq => oq q (Nat.ne_of_lt (Nat.lt_of_lt_of_le hq gb))) (fun q hq => by
      rcases List.mem_append.mp hq with h | h
      · exact hL q h
      · obtain ⟨z, -, hz⟩ := List.mem_map.mp h
        rw [← hz]
        exact gb) _ hheap X'
  exact ⟨t, step t a1, b1⟩
end RowsD
end
section
/-! calls, and a method out of its body -/
theorem nt_kinds {w : Cond} (h : w ∈ NT) : isN w = true := (List.mem_filter.mp h).2
theorem nt_warm {w : Cond} (hw : isN w = true) {s U : State} (hW : s.WarmedH U.vm) (h : va_Nw w s) : va_Nw w U := by
  unfold isN at hw
  split at hw
  · exact va_Nw.warmM hW h
  · exact va_Nw.warmC hW h
  · exact va_Nw.warmD hW h
  · exact va_AO.moved hW.alike h
  · cases hw
theorem nt_same {w : Cond} (hw : isN w = true) {s U : State} (hv : s.vm = U.vm) (h : va_Nw w s) : va_Nw w U := by
  unfold isN at hw
  split at hw
  · exact va_Nw.same rfl hv h
  · exact va_Nw.same rfl hv h
  · exact va_Nw.same rfl hv h
  · exact va_AO.moved (by rw [hv]; exact Vm.Alike.refl _) h
  · cases hw
theorem SF.moved {K : KX} {s U : State} (hW : s.WarmedH U.vm) (hB : ∀ q : Nat, q < kb K → U.heap[q]? = s.heap[q]?) (h : SF K s) : SF K U := by
  obtain ⟨h1, h2, h3, h4, h5, h6, h7⟩ := h
  exact ⟨va_K.moved hW.alike h1, fun w hw => nt_warm (nt_kinds hw) hW (h2 w hw), (va_Z.moved hW.alike h3).kept (fun a _ ha => hB a (Nat.not_le.mp ha)), (va_T.moved hW.alike h4).kept (fun a _ ha => hB a (Nat.not_le.mp ha)), va_Mi.moved hW.alike h5, (va_X.moved hW.alike h6).kept (hB _ h7), h7⟩
theorem SF.same {K : KX} {u U : State} (hv : u.vm = U.vm) (hh : u.heap = U.heap) (h : SF K u) : SF K U := by
  obtain ⟨h1, h2, h3, h4, h5, h6, h7⟩ := h
  have ha : u.vm.Alike U.vm := by rw [hv]; exact Vm.Alike.refl _
  exact ⟨va_K.moved ha h1, fun w hw => nt_same (nt_kinds hw) hv (h2 w hw), (va_Z.moved ha h3).kept (fun a _ _ => by rw [hh]), (va_T.moved ha h4).kept (fun a _ _ => by rw [hh]), va_Mi.moved ha h5, (va_X.moved ha h6).kept (by rw [hh]), h7⟩
theorem Pcx.blind (K : KX) (as : List PV) (σ : PS) : FrameBlind (Pcx K as σ) := by
  intro a U g mk h
  exact ⟨h.1, h.2.1, SF.same (u := U) (U := U.calling g mk a) rfl rfl h.2.2⟩
/-- a method that is known: its code is among the words, its class is ready, so many parameters, not too many locals -/
def MK (M : MM) (n : Nat) : Prop := Cond.code M.1 M.2.1 M.2.2.1 M.2.2.2 ∈ GT ∧ Cond.initialized M.1.cls ∈ GT ∧ (M.1.cls ≠ "java/lang/invoke/MethodHandle" ∧ M.1.cls ≠ "java/lang/invoke/VarHandle") ∧ (parseMethodDescriptor M.1.desc).map (fun d => d.parameters.length) = some n ∧ M.2.2.1 ≤ 22
theorem gt_good {w : Cond} (h : w ∈ GT) : (w.onTables && w.keeps) = true ∨ ∃ ty, w = .arrayClass ty := good_of_word (List.mem_filter.mp h).2
theorem MK.callB {M M' : MM} {d d' : Nat} {K : KX} {p : Program} {R : Room} {s : State} {m : MethodId} {args : Array Value} {meth : Method} {c : Code} {n idx mc ms : Nat} (C : Cx M d K p R s m args meth c) (hM : MK M' n) (hdd : d' + 1 ≤ d) (hl : Cond.methodLink M.1.cls idx M'.1 ∈ GT) : CallB R s args M.1.cls idx M'.1 M'.2.1 M'.2.2.1 M'.2.2.2 (mws M') (rmd d' mc ms) mc ms n := by
  obtain ⟨h1, h2, h3, h4, h5⟩ := hM
  have c7 := C.2.2.2.2.2.2.1
  have c8 := C.2.2.2.2.2.2.2.1
  refine ⟨rfl, rfl, by show d' + 1 ≤ R.frames; omega, by show 8 + (M'.2.2.1 + 11) + 41 * d' ≤ R.locals; omega, ?_, List.mem_cons_self, C.w h1, C.w h2, h3, fun sig h => ?_, C.w hl⟩
  · intro w hw a' U hW
    have hg : w ∈ GT := by
      rcases List.mem_cons.mp hw with rfl | h
      · exact h1
      · exact h
    exact word_at hW (gt_good hg) (C.w hg)
  · rw [h] at h4
    exact (Option.some.inj h4).symm
theorem MK.callN {M M' : MM} {d d' : Nat} {K : KX} {p : Program} {R : Room} {s : State} {m : MethodId} {args : Array Value} {meth : Method} {c : Code} {n idx mc ms : Nat} {host : String} (C : Cx M d K p R s m args meth c) (hM : MK M' n) (hdd : d' + 1 ≤ d) (hl : Cond.methodLinkNest M.1.cls idx M'.1 host ∈ NT) : va_CN R s args M.1.cls idx M'.1 host M'.2.1 M'.2.2.1 M'.2.2.2 (mws M') (rmd d' mc ms) mc ms n := by
  obtain ⟨h1, h2, h3, h4, h5⟩ := hM
  have c7 := C.2.2.2.2.2.2.1
  have c8 := C.2.2.2.2.2.2.2.1
  refine ⟨⟨rfl, rfl, by show d' + 1 ≤ R.frames; omega, by show 8 + (M'.2.2.1 + 11) + 41 * d' ≤ R.locals; omega, ?_, List.mem_cons_self⟩, C.w h1, C.w h2, h3, fun sig h => ?_, va_Nw.use rfl (C.2.2.2.2.2.1.2.1 _ hl)⟩
  · intro w hw a' U hW
    have hg : w ∈ GT := by
      rcases List.mem_cons.mp hw with rfl | h
      · exact h1
      · exact h
    exact word_at hW (gt_good hg) (C.w hg)
  · rw [h] at h4
    exact (Option.some.inj h4).symm
section RowsE
variable {M M' : MM} {d d' pc : Nat} {lv : List (Nat × PV)} {st st0 : List PV} {σ : PS} {P : Option PV → PS → Prop}
theorem call_go {as : List PV} {v1 : Option PV} {σ1 : PS} {p : Program} {l : Launch} {e : Env} {R : Room} {s : State} {m : MethodId} {args : Array Value} {below : List Frame} {meth : Method} {c : Code} {K : KX} {H : Heap} {locs : List Loc} {cells slots : Nat} {ls : Array Slot} {Z : State → Prop} {a : Array Value} (hB : ∀ q : Nat, q < kb K → H[q]? = s.heap[q]?) (hL : ∀ q ∈ locs, kb K ≤ q.base)
    (run : va_Run p l e R s m args below meth c H locs cells slots (nx σ1 - nx σ) (sl σ1 - sl σ) (F0 m pc ls (st0.map tv)) (st.map tv) (Qcx K v1 σ1 a) (fun q => kb K ≤ q))
    (k : ∀ (H' : Heap) (locs' : List Loc), RepH K σ1 H' → (∀ q : Nat, q < kb K → H'[q]? = s.heap[q]?) → (∀ q ∈ locs', kb K ≤ q.base) → W p l e R s m args below meth c H' locs' (cells + (nx σ1 - nx σ)) (slots + (sl σ1 - sl σ)) Z (F0 m (pc + 3) ls ((v1.toList ++ st).map tv))) :
    W p l e R s m args below meth c H locs cells slots Z (F0 m pc ls (st0.map tv)) := by
  intro T hT X
  obtain ⟨v, st₀, t, T', L, h0, X', hL', e1, e2, ⟨hv, hR, hF⟩, go⟩ := run T hT X
  have hv' : v = v1.map tv := Outcome.returned.inj hv
  subst hv'
  obtain ⟨t2, a1, b1⟩ := k T'.heap (locs ++ L) (by rw [e1]; exact hR) (fun q hq => by rw [e1, hF q hq, h0]; exact hB q hq) (fun q hq => by
    rcases List.mem_append.mp hq with h | h
    · exact hL q h
    · exact hL' q h) T' rfl X'
  refine ⟨t2, go t2 ?_, b1⟩
  have ev : (v1.map tv).toList ++ st.map tv = (v1.toList ++ st).map tv := by cases v1 <;> simp
  show Steps p.tables e below (T'.setTop (F0 m (pc + 3) ls ((v1.map tv).toList ++ st.map tv))) t2
  rw [ev]
  exact a1
theorem call_wrap {as : List PV} (h : Ctr M' d' as σ (fun v σ1 => Wp M d (pc + 3) lv (v.toList ++ st) σ1 P))
    (run : ∀ (v1 : Option PV) (σ1 : PS) (p : Program) (l : Launch) (e : Env) (R : Room) (s : State) (m : MethodId) (args : Array Value) (below : List Frame) (meth : Method) (c : Code) (K : KX) (H : Heap) (locs : List Loc) (cells slots : Nat) (ls : Array Slot), Cx M d K p R s m args meth c → RepH K σ H → (∀ q : Nat, q < kb K → H[q]? = s.heap[q]?) → lv_has ls M.2.2.1 (lvs lv) →
      Met l M'.1 (mws M') (rmd d' (nx σ1 - nx σ) (sl σ1 - sl σ)) (Pcx K as σ) (Qcx K v1 σ1) (nx σ1 - nx σ) (sl σ1 - sl σ) (fun q => kb K ≤ q) → cells + (nx σ1 - nx σ) ≤ R.cells → slots + (sl σ1 - sl σ) ≤ R.slots →
      va_Run p l e R s m args below meth c H locs cells slots (nx σ1 - nx σ) (sl σ1 - sl σ) (F0 m pc ls (st0.map tv)) (st.map tv) (Qcx K v1 σ1 (as.map tv).toArray) (fun q => kb K ≤ q)) : Wp M d pc lv st0 σ P := by
  obtain ⟨v1, σ1, ⟨v, σ', hP, m1, m2, hW⟩, n1, n2, hM⟩ := h
  refine ⟨v, σ', hP, Nat.le_trans n1 m1, Nat.le_trans n2 m2, fun p l e R s m args below meth c K H locs cells slots ls Z C hR hB hL hc hs hl hk => ?_⟩
  refine call_go (as := as) hB hL (run v1 σ1 p l e R s m args below meth c K H locs cells slots ls C hR hB hl (hM l K) (by omega) (by omega)) (fun H' locs' hR' hB' hL' => ?_)
  refine hW p l e R s m args below meth c K H' locs' _ _ ls Z C hR' hB' hL' (by omega) (by omega) hl ?_
  have e1 : cells + (nx σ1 - nx σ) + (nx σ' - nx σ1) = cells + (nx σ' - nx σ) := by omega
  have e2 : slots + (sl σ1 - sl σ) + (sl σ' - sl σ1) = slots + (sl σ' - sl σ) := by omega
  rw [e1, e2]
  exact hk
theorem room8 {m : MethodId} {ls : Array Slot} {st9 : List Value} (h : st.length ≤ 8) : 2 * (F0 m pc ls st9).monitorRoom + ((st.map tv).map fun v => v.category).sum ≤ 8 := by
  rw [cat_sum]
  show 2 * 0 + _ ≤ 8
  omega
/-- a call on an object of the very class -/
theorem p_inv {idx ci b n : Nat} {q : vw_C} (As : List PV) (rest : List PV) (hd : decode M.2.1 pc = .ok (.invokevirtual idx, 3)) (hl : Cond.methodLink M.1.cls idx M'.1 ∈ GT) (hM : MK M' n) (h1 : Cond.instanceMethod M'.1 ∈ GT) (h2 : Cond.selects M'.1.cls M'.1 M'.1 ∈ GT) (hq : cls[ci]? = some q) (hq1 : q.1 = M'.1.cls) (ht : tg σ b = ci + 1) (hn : As.length = n) (hst : st0 = As.reverse ++ .inr b :: rest) (h8 : rest.length ≤ 8) (hdd : d' + 1 ≤ d)
    (h : Ctr M' d' (.inr b :: As) σ (fun v σ1 => Wp M d (pc + 3) lv (v.toList ++ rest) σ1 P)) : Wp M d pc lv st0 σ P := by
  refine call_wrap (st := rest) h (fun v1 σ1 p l e R s m args below meth c K H locs cells slots ls C hR hB hlv hMet hc hs => ?_)
  obtain ⟨a, rfl⟩ := hR.pos ht
  obtain ⟨cell, c1, c2, c3, c4, -⟩ := hR.cell C hq ht
  rw [hq1] at c4
  exact va_runV (C := M'.1.cls) (As := As.map tv) (rest := rest.map tv) (n := n) (nL := M.2.2.1) (Ts := GT) ⟨C.1, C.2.1, C.2.2.1, C.2.2.2.1, C.2.2.2.2.1⟩ hMet ⟨MK.callB C hM hdd hl, C.w h1, C.w h2⟩ ⟨Pcx.blind _ _ _, ⟨cell, c1, c2, c4⟩, fun U hU hW => ⟨rfl, by rw [hU]; exact hR, C.2.2.2.2.2.1.moved hW (fun z hz => by rw [hU]; exact hB z hz)⟩⟩ rfl (by rw [List.length_map]; exact hn) hlv.1 (by rw [hst]; simp [tv]) (room8 h8) hd ⟨hc, hs⟩
theorem p_stat {idx n : Nat} (As : List PV) (rest : List PV) (hd : decode M.2.1 pc = .ok (.invokestatic idx, 3)) (hl : Cond.methodLink M.1.cls idx M'.1 ∈ GT) (hM : MK M' n) (h1 : Cond.static M'.1 ∈ GT) (hn : As.length = n) (hst : st0 = As.reverse ++ rest) (h8 : rest.length ≤ 8) (hdd : d' + 1 ≤ d)
    (h : Ctr M' d' As σ (fun v σ1 => Wp M d (pc + 3) lv (v.toList ++ rest) σ1 P)) : Wp M d pc lv st0 σ P := by
  refine call_wrap (st := rest) h (fun v1 σ1 p l e R s m args below meth c K H locs cells slots ls C hR hB hlv hMet hc hs => ?_)
  exact va_runS (As := As.map tv) (rest := rest.map tv) (n := n) (nL := M.2.2.1) (Ts := GT) ⟨C.1, C.2.1, C.2.2.1, C.2.2.2.1, C.2.2.2.2.1⟩ hMet ⟨MK.callB C hM hdd hl, C.w h1⟩ ⟨Pcx.blind _ _ _, fun U hU hW => ⟨rfl, by rw [hU]; exact hR, C.2.2.2.2.2.1.moved hW (fun z hz => by rw [hU]; exact hB z hz)⟩⟩ rfl (by rw [List.length_map]; exact hn) hlv.1 (by rw [hst]; simp) (room8 h8) hd ⟨hc, hs⟩
theorem p_init {idx n b : Nat} (As : List PV) (rest : List PV) (hd : decode M.2.1 pc = .ok (.invokespecial idx, 3)) (hl : Cond.methodLink M.1.cls idx M'.1 ∈ GT) (hM : MK M' n) (h1 : Cond.instanceMethod M'.1 ∈ GT) (h2 : M'.1.name = "<init>") (h3 : M'.2.2.2 = none) (hb : b ≠ 0) (hn : As.length = n) (hst : st0 = As.reverse ++ .inr b :: rest) (h8 : rest.length ≤ 8) (hdd : d' + 1 ≤ d)
    (h : Ctr M' d' (.inr b :: As) σ (fun v σ1 => Wp M d (pc + 3) lv (v.toList ++ rest) σ1 P)) : Wp M d pc lv st0 σ P := by
  refine call_wrap (st := rest) h (fun v1 σ1 p l e R s m args below meth c K H locs cells slots ls C hR hB hlv hMet hc hs => ?_)
  obtain ⟨a, rfl⟩ : ∃ a, b = a + 1 := ⟨b - 1, by omega⟩
  have hcb := MK.callB (mc := nx σ1 - nx σ) (ms := sl σ1 - sl σ) C hM hdd hl
  rw [h3] at hcb
  exact va_runI (As := As.map tv) (rest := rest.map tv) (n := n) (nL := M.2.2.1) (Ts := GT) ⟨C.1, C.2.1, C.2.2.1, C.2.2.2.1, C.2.2.2.2.1⟩ hMet ⟨hcb, h2, C.w h1⟩ ⟨Pcx.blind _ _ _, fun U hU hW => ⟨rfl, by rw [hU]; exact hR, C.2.2.2.2.2.1.moved hW (fun z hz => by rw [hU]; exact hB z hz)⟩⟩ rfl (by rw [List.length_map]; exact hn) hlv.1 (by rw [hst]; simp [tv]) (room8 h8) hd ⟨hc, hs⟩
theorem p_initN {idx n b : Nat} {host : String} (As : List PV) (rest : List PV) (hd : decode M.2.1 pc = .ok (.invokespecial idx, 3)) (hl : Cond.methodLinkNest M.1.cls idx M'.1 host ∈ NT) (hM : MK M' n) (h1 : Cond.instanceMethod M'.1 ∈ GT) (h2 : M'.1.name = "<init>") (h3 : M'.2.2.2 = none) (hb : b ≠ 0) (hn : As.length = n) (hst : st0 = As.reverse ++ .inr b :: rest) (h8 : rest.length ≤ 8) (hdd : d' + 1 ≤ d)
    (h : Ctr M' d' (.inr b :: As) σ (fun v σ1 => Wp M d (pc + 3) lv (v.toList ++ rest) σ1 P)) : Wp M d pc lv st0 σ P := by
  refine call_wrap (st := rest) h (fun v1 σ1 p l e R s m args below meth c K H locs cells slots ls C hR hB hlv hMet hc hs => ?_)
  obtain ⟨a, rfl⟩ : ∃ a, b = a + 1 := ⟨b - 1, by omega⟩
  have hcb := MK.callN (mc := nx σ1 - nx σ) (ms := sl σ1 - sl σ) C hM hdd hl
  rw [h3] at hcb
  exact va_runIN (As := As.map tv) (rest := rest.map tv) (n := n) (nL := M.2.2.1) (Ts := GT) ⟨C.1, C.2.1, C.2.2.1, C.2.2.2.1, C.2.2.2.2.1⟩ hMet ⟨hcb, h2, C.w h1⟩ ⟨Pcx.blind _ _ _, fun U hU hW => ⟨rfl, by rw [hU]; exact hR, C.2.2.2.2.2.1.moved hW (fun z hz => by rw [hU]; exact hB z hz)⟩⟩ rfl (by rw [List.length_map]; exact hn) hlv.1 (by rw [hst]; simp [tv]) (room8 h8) hd ⟨hc, hs⟩
theorem p_oinit {idx b : Nat} (hd : decode M.2.1 pc = .ok (.invokespecial idx, 3)) (hl : Cond.methodLink M.1.cls idx objectInit ∈ GT) (h1 : Cond.instanceMethod objectInit ∈ GT) (h2 : Cond.code objectInit ⟨#[0xb1]⟩ 1 none ∈ GT) (hb : b ≠ 0) (h8 : st.length ≤ 8) (hd1 : 1 ≤ d) (kk : Wp M d (pc + 3) lv st σ P) : Wp M d pc lv (.inr b :: st) σ P := by
  refine Wp.go (fun p l e R s m args below meth c K H locs cells slots ls Z C hR hB hL hlv k => ?_) kk
  obtain ⟨a, rfl⟩ : ∃ a, b = a + 1 := ⟨b - 1, by omega⟩
  have c7 := C.2.2.2.2.2.2.1
  have c8 := C.2.2.2.2.2.2.2.1
  exact W.objInit C.1 C.2.1 C.2.2.2.1 (C.w hl) (C.w h1) (C.w h2) (g := F0 m pc ls (.ref a :: st.map tv)) rfl (by rw [C.2.2.1]; exact hlv.1) rfl hd (by omega) (by have := room8 (st := st) (m := m) (ls := ls) (pc := pc) (st9 := .ref a :: st.map tv) h8; omega) k
end RowsE
def largs : Nat → List PV → List (Nat × PV)
  | _, [] => []
  | i, v :: t => (i, v) :: largs (i + 1) t
theorem largs_mem : ∀ (as : List PV) (i : Nat) (q : Nat × PV), q ∈ largs i as → (q.1, tv q.2) ∈ lv_args i (as.map tv)
  | [], _, q, h => by cases h
  | v :: t, i, q, h => by
    have hc : ¬ (tv v).category = 2 := by rw [tv_cat]; omega
    simp only [List.map_cons, lv_args, if_neg hc]
    rcases List.mem_cons.mp h with rfl | h
    · exact List.mem_cons_self
    · exact List.mem_cons_of_mem _ (largs_mem t (i + 1) q h)
theorem lg_len : ∀ as : List PV, (lg_sl (as.map tv)).length = as.length
  | [] => rfl
  | v :: t => by
    have hc : ¬ (tv v).category = 2 := by rw [tv_cat]; omega
    have := lg_len t
    simp only [lg_sl, List.map_cons, List.flatMap_cons, if_neg hc, List.length_append, List.length_cons, List.length_nil] at this ⊢
    omega
/-- an answer of the kind that the method's head names -/
def RV (ret : Option FieldType) (v : Option PV) : Prop := (ret = none ∧ v = none) ∨ (ret = some .int ∧ ∃ x, v = some (.inl x)) ∨ (ret = some .boolean ∧ ∃ x : Int32, v = some (.inl x) ∧ narrow .boolean (.int x) = .int x) ∨ (((∃ n, ret = some (.object n)) ∨ ∃ t, ret = some (.array t)) ∧ ∃ r, v = some (.inr r))
theorem Ctr.of {M : MM} {d : Nat} {as : List PV} {σ : PS} {P : Option PV → PS → Prop} (hp : plainName M.1.cls = true) (hn : as.length ≤ M.2.2.1) (h : Wp M d 0 (largs 0 as) [] σ (fun v σ' => RV M.2.2.2 v ∧ P v σ')) : Ctr M d as σ P := by
  obtain ⟨v, σ', ⟨hV, hP⟩, h1, h2, hW⟩ := h
  refine ⟨v, σ', hP, h1, h2, fun l K => ?_⟩
  refine Met.ofW (cc := M.2.1) (maxL := M.2.2.1) (ret := M.2.2.2) hp rfl ?_
  intro p e s m args below meth c s₁ B hml hv
  obtain ⟨rfl, hR, hS⟩ := hv
  have hts := atoms_spec (ws := mws M) B.pre
  have hown : s.vm.findClass M.1.cls = some m.cls := findClass_of_methodNamed B.named
  have hlocks := B.notSynchronized
  have hname : meth.name = M.1.name := (name_of_methodNamed B.named B.method).1
  have hl := lv_entry (as.map tv) (n := M.2.2.1) (by rw [lg_len]; exact hn)
  rw [lg_entry_eq]
  refine hW p l e (rmd d (nx σ' - nx σ) (sl σ' - sl σ)) s m _ below meth c K s.heap [] 0 0 _ _ ⟨B.exec, B.bytes, hml, hown, fun w h => hts w (List.mem_cons_of_mem _ h), hS, Nat.le_refl d, Nat.le_refl _, hname⟩ hR (fun _ _ => rfl) (fun q h => by cases h) (by show 0 + _ ≤ nx σ' - nx σ; omega) (by show 0 + _ ≤ sl σ' - sl σ; omega) ⟨hl.1, hl.2.1, fun q hq => ?_⟩ ?_
  · obtain ⟨r, hr, rfl⟩ := List.mem_map.mp hq
    exact hl.2.2 _ (largs_mem as 0 r (dd_mem _ r hr))
  · intro H' locs' pc' ls' hR' hB' hL' hret
    rw [Nat.zero_add, Nat.zero_add]
    have hq : ∀ t : State, t.heap = H' → s.WarmedH t.vm → Qcx K v σ' ((as.map tv).toArray) s (.returned (v.map tv)) t := fun t ht _ => ⟨rfl, by rw [ht]; exact hR', fun q hq => by rw [ht]; exact hB' q hq⟩
    rcases hret with ⟨hd, x, rfl⟩ | ⟨hd, r, rfl⟩ | ⟨hd, rfl⟩
    · rcases hV with ⟨-, h⟩ | ⟨h, -⟩ | ⟨h, y, e, hnr⟩ | ⟨-, r, e⟩
      · cases h
      · exact W.iret B.exec B.bytes (by rw [B.returns]; exact h) hq hL' hd
      · cases e
        exact W.zret (ty := .boolean) B.exec B.bytes (by rw [B.returns]; exact h) hnr hq hL' hd
      · cases e
    · rcases hV with ⟨-, h⟩ | ⟨-, y, h⟩ | ⟨-, y, h, -⟩ | ⟨h, -⟩
      · cases h
      · cases h
      · cases h
      · have hv9 : tv (.inr r) = .null ∨ ∃ a, tv (.inr r) = .ref a := by
          cases r with
          | zero => exact Or.inl rfl
          | succ a => exact Or.inr ⟨a, rfl⟩
        rcases h with ⟨n, h⟩ | ⟨t, h⟩
        · exact W.aret (rt := .object n) B.exec B.bytes (by rw [B.returns]; exact h) (Or.inl ⟨n, rfl⟩) hv9 hq hL' hd
        · exact W.aret (rt := .array t) B.exec B.bytes (by rw [B.returns]; exact h) (Or.inr ⟨t, rfl⟩) hv9 hq hL' hd
    · rcases hV with ⟨h, -⟩ | ⟨-, y, h⟩ | ⟨-, y, h, -⟩ | ⟨-, r, h⟩
      · exact W.vret B.exec B.bytes (by rw [B.returns]; exact h) hq hL' hd
      · cases h
      · cases h
      · cases h
end
section
/-! the methods: name, code, locals, kind of answer -/
def m_Core_init : MM := (⟨"TokenMesh$Core", "<init>", "()V"⟩, prog_2_method_1_code, 1, none)
theorem w_43 : Cond.initialized "TokenMesh$Core" ∈ GT := gt_at 43 (by decide +kernel) (by decide +kernel)
theorem k_Core_init : MK m_Core_init 0 := ⟨gt_at 115 (by decide +kernel) (by decide +kernel), w_43, by decide +kernel, by decide +kernel, by decide⟩
theorem y_Core_init : plainName m_Core_init.1.cls = true := by decide +kernel
theorem i_Core_init : Cond.instanceMethod m_Core_init.1 ∈ GT := gt_at 114 (by decide +kernel) (by decide +kernel)
def m_Core_begin : MM := (⟨"TokenMesh$Core", "begin", "(ZII)V"⟩, prog_2_method_2_code, 4, none)
theorem k_Core_begin : MK m_Core_begin 3 := ⟨gt_at 264 (by decide +kernel) (by decide +kernel), w_43, by decide +kernel, by decide +kernel, by decide⟩
theorem y_Core_begin : plainName m_Core_begin.1.cls = true := by decide +kernel
theorem i_Core_begin : Cond.instanceMethod m_Core_begin.1 ∈ GT := gt_at 262 (by decide +kernel) (by decide +kernel)
theorem s_Core_begin : Cond.selects m_Core_begin.1.cls m_Core_begin.1 m_Core_begin.1 ∈ GT := gt_at 263 (by decide +kernel) (by decide +kernel)
def m_Core_isDue : MM := (⟨"TokenMesh$Core", "isDue", "(I)Z"⟩, prog_2_method_3_code, 2, (some .boolean))
theorem k_Core_isDue : MK m_Core_isDue 1 := ⟨gt_at 442 (by decide +kernel) (by decide +kernel), w_43, by decide +kernel, by decide +kernel, by decide⟩
theorem y_Core_isDue : plainName m_Core_isDue.1.cls = true := by decide +kernel
theorem i_Core_isDue : Cond.instanceMethod m_Core_isDue.1 ∈ GT := gt_at 440 (by decide +kernel) (by decide +kernel)
theorem s_Core_isDue : Cond.selects m_Core_isDue.1.cls m_Core_isDue.1 m_Core_isDue.1 ∈ GT := gt_at 441 (by decide +kernel) (by decide +kernel)
def m_Core_isBusyWith : MM := (⟨"TokenMesh$Core", "isBusyWith", "(I)Z"⟩, prog_2_method_4_code, 2, (some .boolean))
theorem k_Core_isBusyWith : MK m_Core_isBusyWith 1 := ⟨gt_at 490 (by decide +kernel) (by decide +kernel), w_43, by decide +kernel, by decide +kernel, by decide⟩
theorem y_Core_isBusyWith : plainName m_Core_isBusyWith.1.cls = true := by decide +kernel
theorem i_Core_isBusyWith : Cond.instanceMethod m_Core_isBusyWith.1 ∈ GT := gt_at 488 (by decide +kernel) (by decide +kernel)
theorem s_Core_isBusyWith : Cond.selects m_Core_isBusyWith.1.cls m_Core_isBusyWith.1 m_Core_isBusyWith.1 ∈ GT := gt_at 489 (by decide +kernel) (by decide +kernel)
def m_Desk_init : MM := (⟨"TokenMesh$Desk", "<init>", "()V"⟩, prog_3_method_1_code, 1, none)
theorem w_44 : Cond.initialized "TokenMesh$Desk" ∈ GT := gt_at 44 (by decide +kernel) (by decide +kernel)
theorem k_Desk_init : MK m_Desk_init 0 := ⟨gt_at 161 (by decide +kernel) (by decide +kernel), w_44, by decide +kernel, by decide +kernel, by decide⟩
theorem y_Desk_init : plainName m_Desk_init.1.cls = true := by decide +kernel
theorem i_Desk_init : Cond.instanceMethod m_Desk_init.1 ∈ GT := gt_at 160 (by decide +kernel) (by decide +kernel)
def m_Desk_strike : MM := (⟨"TokenMesh$Desk", "strike", "(II)V"⟩, prog_3_method_2_code, 4, none)
theorem k_Desk_strike : MK m_Desk_strike 2 := ⟨gt_at 502 (by decide +kernel) (by decide +kernel), w_44, by decide +kernel, by decide +kernel, by decide⟩
theorem y_Desk_strike : plainName m_Desk_strike.1.cls = true := by decide +kernel
theorem i_Desk_strike : Cond.instanceMethod m_Desk_strike.1 ∈ GT := gt_at 500 (by decide +kernel) (by decide +kernel)
theorem s_Desk_strike : Cond.selects m_Desk_strike.1.cls m_Desk_strike.1 m_Desk_strike.1 ∈ GT := gt_at 501 (by decide +kernel) (by decide +kernel)
def m_Letter_init : MM := (⟨"TokenMesh$Letter", "<init>", "()V"⟩, prog_4_method_1_code, 1, none)
theorem w_55 : Cond.initialized "TokenMesh$Letter" ∈ GT := gt_at 55 (by decide +kernel) (by decide +kernel)
theorem k_Letter_init : MK m_Letter_init 0 := ⟨gt_at 376 (by decide +kernel) (by decide +kernel), w_55, by decide +kernel, by decide +kernel, by decide⟩
theorem y_Letter_init : plainName m_Letter_init.1.cls = true := by decide +kernel
theorem i_Letter_init : Cond.instanceMethod m_Letter_init.1 ∈ GT := gt_at 375 (by decide +kernel) (by decide +kernel)
def m_Letter_address : MM := (⟨"TokenMesh$Letter", "address", "(IIII)V"⟩, prog_4_method_2_code, 5, none)
theorem k_Letter_address : MK m_Letter_address 4 := ⟨gt_at 430 (by decide +kernel) (by decide +kernel), w_55, by decide +kernel, by decide +kernel, by decide⟩
theorem y_Letter_address : plainName m_Letter_address.1.cls = true := by decide +kernel
theorem i_Letter_address : Cond.instanceMethod m_Letter_address.1 ∈ GT := gt_at 428 (by decide +kernel) (by decide +kernel)
theorem s_Letter_address : Cond.selects m_Letter_address.1.cls m_Letter_address.1 m_Letter_address.1 ∈ GT := gt_at 429 (by decide +kernel) (by decide +kernel)
def m_Letter_yieldsTo : MM := (⟨"TokenMesh$Letter", "yieldsTo", "(IIII)Z"⟩, prog_4_method_3_code, 5, (some .boolean))
theorem k_Letter_yieldsTo : MK m_Letter_yieldsTo 4 := ⟨gt_at 307 (by decide +kernel) (by decide +kernel), w_55, by decide +kernel, by decide +kernel, by decide⟩
theorem y_Letter_yieldsTo : plainName m_Letter_yieldsTo.1.cls = true := by decide +kernel
theorem i_Letter_yieldsTo : Cond.instanceMethod m_Letter_yieldsTo.1 ∈ GT := gt_at 305 (by decide +kernel) (by decide +kernel)
theorem s_Letter_yieldsTo : Cond.selects m_Letter_yieldsTo.1.cls m_Letter_yieldsTo.1 m_Letter_yieldsTo.1 ∈ GT := gt_at 306 (by decide +kernel) (by decide +kernel)
def m_Letter_sum : MM := (⟨"TokenMesh$Letter", "sum", "()I"⟩, prog_4_method_4_code, 2, (some .int))
theorem k_Letter_sum : MK m_Letter_sum 0 := ⟨gt_at 576 (by decide +kernel) (by decide +kernel), w_55, by decide +kernel, by decide +kernel, by decide⟩
theorem y_Letter_sum : plainName m_Letter_sum.1.cls = true := by decide +kernel
theorem i_Letter_sum : Cond.instanceMethod m_Letter_sum.1 ∈ GT := gt_at 574 (by decide +kernel) (by decide +kernel)
theorem s_Letter_sum : Cond.selects m_Letter_sum.1.cls m_Letter_sum.1 m_Letter_sum.1 ∈ GT := gt_at 575 (by decide +kernel) (by decide +kernel)
def m_Mail_init : MM := (⟨"TokenMesh$Mail", "<init>", "()V"⟩, prog_5_method_1_code, 1, none)
theorem w_48 : Cond.initialized "TokenMesh$Mail" ∈ GT := gt_at 48 (by decide +kernel) (by decide +kernel)
theorem k_Mail_init : MK m_Mail_init 0 := ⟨gt_at 205 (by decide +kernel) (by decide +kernel), w_48, by decide +kernel, by decide +kernel, by decide⟩
theorem y_Mail_init : plainName m_Mail_init.1.cls = true := by decide +kernel
theorem i_Mail_init : Cond.instanceMethod m_Mail_init.1 ∈ GT := gt_at 204 (by decide +kernel) (by decide +kernel)
def m_Mail_size : MM := (⟨"TokenMesh$Mail", "size", "()I"⟩, prog_5_method_2_code, 1, (some .int))
theorem k_Mail_size : MK m_Mail_size 0 := ⟨gt_at 564 (by decide +kernel) (by decide +kernel), w_48, by decide +kernel, by decide +kernel, by decide⟩
theorem y_Mail_size : plainName m_Mail_size.1.cls = true := by decide +kernel
theorem i_Mail_size : Cond.instanceMethod m_Mail_size.1 ∈ GT := gt_at 562 (by decide +kernel) (by decide +kernel)
theorem s_Mail_size : Cond.selects m_Mail_size.1.cls m_Mail_size.1 m_Mail_size.1 ∈ GT := gt_at 563 (by decide +kernel) (by decide +kernel)
def m_Mail_has : MM := (⟨"TokenMesh$Mail", "has", "(I)Z"⟩, prog_5_method_3_code, 2, (some .boolean))
theorem k_Mail_has : MK m_Mail_has 1 := ⟨gt_at 454 (by decide +kernel) (by decide +kernel), w_48, by decide +kernel, by decide +kernel, by decide⟩
theorem y_Mail_has : plainName m_Mail_has.1.cls = true := by decide +kernel
theorem i_Mail_has : Cond.instanceMethod m_Mail_has.1 ∈ GT := gt_at 452 (by decide +kernel) (by decide +kernel)
theorem s_Mail_has : Cond.selects m_Mail_has.1.cls m_Mail_has.1 m_Mail_has.1 ∈ GT := gt_at 453 (by decide +kernel) (by decide +kernel)
def m_Mail_at : MM := (⟨"TokenMesh$Mail", "at", "(I)LTokenMesh$Letter;"⟩, prog_5_method_4_code, 2, (some (.object "TokenMesh$Letter")))
theorem k_Mail_at : MK m_Mail_at 1 := ⟨gt_at 572 (by decide +kernel) (by decide +kernel), w_48, by decide +kernel, by decide +kernel, by decide⟩
theorem y_Mail_at : plainName m_Mail_at.1.cls = true := by decide +kernel
theorem i_Mail_at : Cond.instanceMethod m_Mail_at.1 ∈ GT := gt_at 570 (by decide +kernel) (by decide +kernel)
theorem s_Mail_at : Cond.selects m_Mail_at.1.cls m_Mail_at.1 m_Mail_at.1 ∈ GT := gt_at 571 (by decide +kernel) (by decide +kernel)
def m_Mail_take : MM := (⟨"TokenMesh$Mail", "take", "(I)LTokenMesh$Letter;"⟩, prog_5_method_5_code, 2, (some (.object "TokenMesh$Letter")))
theorem k_Mail_take : MK m_Mail_take 1 := ⟨gt_at 458 (by decide +kernel) (by decide +kernel), w_48, by decide +kernel, by decide +kernel, by decide⟩
theorem y_Mail_take : plainName m_Mail_take.1.cls = true := by decide +kernel
theorem i_Mail_take : Cond.instanceMethod m_Mail_take.1 ∈ GT := gt_at 456 (by decide +kernel) (by decide +kernel)
theorem s_Mail_take : Cond.selects m_Mail_take.1.cls m_Mail_take.1 m_Mail_take.1 ∈ GT := gt_at 457 (by decide +kernel) (by decide +kernel)
def m_Mail_giveBack : MM := (⟨"TokenMesh$Mail", "giveBack", "(LTokenMesh$Letter;)V"⟩, prog_5_method_6_code, 2, none)
theorem k_Mail_giveBack : MK m_Mail_giveBack 1 := ⟨gt_at 552 (by decide +kernel) (by decide +kernel), w_48, by decide +kernel, by decide +kernel, by decide⟩
theorem y_Mail_giveBack : plainName m_Mail_giveBack.1.cls = true := by decide +kernel
theorem i_Mail_giveBack : Cond.instanceMethod m_Mail_giveBack.1 ∈ GT := gt_at 550 (by decide +kernel) (by decide +kernel)
theorem s_Mail_giveBack : Cond.selects m_Mail_giveBack.1.cls m_Mail_giveBack.1 m_Mail_giveBack.1 ∈ GT := gt_at 551 (by decide +kernel) (by decide +kernel)
def m_Mail_send : MM := (⟨"TokenMesh$Mail", "send", "(IIII)LTokenMesh$Letter;"⟩, prog_5_method_7_code, 6, (some (.object "TokenMesh$Letter")))
theorem k_Mail_send : MK m_Mail_send 4 := ⟨gt_at 280 (by decide +kernel) (by decide +kernel), w_48, by decide +kernel, by decide +kernel, by decide⟩
theorem y_Mail_send : plainName m_Mail_send.1.cls = true := by decide +kernel
theorem i_Mail_send : Cond.instanceMethod m_Mail_send.1 ∈ GT := gt_at 278 (by decide +kernel) (by decide +kernel)
theorem s_Mail_send : Cond.selects m_Mail_send.1.cls m_Mail_send.1 m_Mail_send.1 ∈ GT := gt_at 279 (by decide +kernel) (by decide +kernel)
def m_Mail_dropOlder : MM := (⟨"TokenMesh$Mail", "dropOlder", "(IIII)V"⟩, prog_5_method_8_code, 6, none)
theorem k_Mail_dropOlder : MK m_Mail_dropOlder 4 := ⟨gt_at 284 (by decide +kernel) (by decide +kernel), w_48, by decide +kernel, by decide +kernel, by decide⟩
theorem y_Mail_dropOlder : plainName m_Mail_dropOlder.1.cls = true := by decide +kernel
theorem i_Mail_dropOlder : Cond.instanceMethod m_Mail_dropOlder.1 ∈ GT := gt_at 283 (by decide +kernel) (by decide +kernel)
theorem s_Mail_dropOlder : Cond.selects m_Mail_dropOlder.1.cls m_Mail_dropOlder.1 m_Mail_dropOlder.1 ∈ GT := gt_at 4 (by decide +kernel) (by decide +kernel)
def m_Req_init : MM := (⟨"TokenMesh$Request", "<init>", "(IIZ)V"⟩, prog_6_method_1_code, 4, none)
theorem w_56 : Cond.initialized "TokenMesh$Request" ∈ GT := gt_at 56 (by decide +kernel) (by decide +kernel)
theorem k_Req_init : MK m_Req_init 3 := ⟨gt_at 530 (by decide +kernel) (by decide +kernel), w_56, by decide +kernel, by decide +kernel, by decide⟩
theorem y_Req_init : plainName m_Req_init.1.cls = true := by decide +kernel
theorem i_Req_init : Cond.instanceMethod m_Req_init.1 ∈ GT := gt_at 529 (by decide +kernel) (by decide +kernel)
def m_Req_isOf : MM := (⟨"TokenMesh$Request", "isOf", "(II)Z"⟩, prog_6_method_2_code, 3, (some .boolean))
theorem k_Req_isOf : MK m_Req_isOf 2 := ⟨gt_at 509 (by decide +kernel) (by decide +kernel), w_56, by decide +kernel, by decide +kernel, by decide⟩
theorem y_Req_isOf : plainName m_Req_isOf.1.cls = true := by decide +kernel
theorem i_Req_isOf : Cond.instanceMethod m_Req_isOf.1 ∈ GT := gt_at 507 (by decide +kernel) (by decide +kernel)
theorem s_Req_isOf : Cond.selects m_Req_isOf.1.cls m_Req_isOf.1 m_Req_isOf.1 ∈ GT := gt_at 508 (by decide +kernel) (by decide +kernel)
def m_Share_init : MM := (⟨"TokenMesh$Share", "<init>", "()V"⟩, prog_7_method_1_code, 1, none)
theorem w_42 : Cond.initialized "TokenMesh$Share" ∈ GT := gt_at 42 (by decide +kernel) (by decide +kernel)
theorem k_Share_init : MK m_Share_init 0 := ⟨gt_at 79 (by decide +kernel) (by decide +kernel), w_42, by decide +kernel, by decide +kernel, by decide⟩
theorem y_Share_init : plainName m_Share_init.1.cls = true := by decide +kernel
theorem i_Share_init : Cond.instanceMethod m_Share_init.1 ∈ GT := gt_at 78 (by decide +kernel) (by decide +kernel)
def m_Share_gain : MM := (⟨"TokenMesh$Share", "gain", "(LTokenMesh$Letter;)V"⟩, prog_7_method_2_code, 2, none)
theorem k_Share_gain : MK m_Share_gain 1 := ⟨gt_at 482 (by decide +kernel) (by decide +kernel), w_42, by decide +kernel, by decide +kernel, by decide⟩
theorem y_Share_gain : plainName m_Share_gain.1.cls = true := by decide +kernel
theorem i_Share_gain : Cond.instanceMethod m_Share_gain.1 ∈ GT := gt_at 480 (by decide +kernel) (by decide +kernel)
theorem s_Share_gain : Cond.selects m_Share_gain.1.cls m_Share_gain.1 m_Share_gain.1 ∈ GT := gt_at 481 (by decide +kernel) (by decide +kernel)
def m_Share_lose : MM := (⟨"TokenMesh$Share", "lose", "(IZ)V"⟩, prog_7_method_3_code, 3, none)
theorem k_Share_lose : MK m_Share_lose 2 := ⟨gt_at 470 (by decide +kernel) (by decide +kernel), w_42, by decide +kernel, by decide +kernel, by decide⟩
theorem y_Share_lose : plainName m_Share_lose.1.cls = true := by decide +kernel
theorem i_Share_lose : Cond.instanceMethod m_Share_lose.1 ∈ GT := gt_at 468 (by decide +kernel) (by decide +kernel)
theorem s_Share_lose : Cond.selects m_Share_lose.1.cls m_Share_lose.1 m_Share_lose.1 ∈ GT := gt_at 469 (by decide +kernel) (by decide +kernel)
def m_Share_learn : MM := (⟨"TokenMesh$Share", "learn", "(IZI)V"⟩, prog_7_method_4_code, 4, none)
theorem k_Share_learn : MK m_Share_learn 3 := ⟨gt_at 519 (by decide +kernel) (by decide +kernel), w_42, by decide +kernel, by decide +kernel, by decide⟩
theorem y_Share_learn : plainName m_Share_learn.1.cls = true := by decide +kernel
theorem i_Share_learn : Cond.instanceMethod m_Share_learn.1 ∈ GT := gt_at 517 (by decide +kernel) (by decide +kernel)
theorem s_Share_learn : Cond.selects m_Share_learn.1.cls m_Share_learn.1 m_Share_learn.1 ∈ GT := gt_at 518 (by decide +kernel) (by decide +kernel)
def m_TM_init : MM := (⟨"TokenMesh", "<init>", "(III)V"⟩, prog_1_method_1_code, 6, none)
theorem w_40 : Cond.initialized "TokenMesh" ∈ GT := gt_at 40 (by decide +kernel) (by decide +kernel)
theorem k_TM_init : MK m_TM_init 3 := ⟨gt_at 61 (by decide +kernel) (by decide +kernel), w_40, by decide +kernel, by decide +kernel, by decide⟩
theorem y_TM_init : plainName m_TM_init.1.cls = true := by decide +kernel
theorem i_TM_init : Cond.instanceMethod m_TM_init.1 ∈ GT := gt_at 60 (by decide +kernel) (by decide +kernel)
def m_TM_issue : MM := (⟨"TokenMesh", "issue", "(IZII)I"⟩, prog_1_method_2_code, 6, (some .int))
theorem k_TM_issue : MK m_TM_issue 4 := ⟨gt_at 253 (by decide +kernel) (by decide +kernel), w_40, by decide +kernel, by decide +kernel, by decide⟩
theorem y_TM_issue : plainName m_TM_issue.1.cls = true := by decide +kernel
theorem i_TM_issue : Cond.instanceMethod m_TM_issue.1 ∈ GT := gt_at 251 (by decide +kernel) (by decide +kernel)
theorem s_TM_issue : Cond.selects m_TM_issue.1.cls m_TM_issue.1 m_TM_issue.1 ∈ GT := gt_at 252 (by decide +kernel) (by decide +kernel)
def m_TM_tick : MM := (⟨"TokenMesh", "tick", "(I)I"⟩, prog_1_method_3_code, 4, (some .int))
theorem k_TM_tick : MK m_TM_tick 1 := ⟨gt_at 438 (by decide +kernel) (by decide +kernel), w_40, by decide +kernel, by decide +kernel, by decide⟩
theorem y_TM_tick : plainName m_TM_tick.1.cls = true := by decide +kernel
theorem i_TM_tick : Cond.instanceMethod m_TM_tick.1 ∈ GT := gt_at 436 (by decide +kernel) (by decide +kernel)
theorem s_TM_tick : Cond.selects m_TM_tick.1.cls m_TM_tick.1 m_TM_tick.1 ∈ GT := gt_at 437 (by decide +kernel) (by decide +kernel)
def m_TM_deliver : MM := (⟨"TokenMesh", "deliver", "(I)I"⟩, prog_1_method_4_code, 4, (some .int))
theorem k_TM_deliver : MK m_TM_deliver 1 := ⟨gt_at 450 (by decide +kernel) (by decide +kernel), w_40, by decide +kernel, by decide +kernel, by decide⟩
theorem y_TM_deliver : plainName m_TM_deliver.1.cls = true := by decide +kernel
theorem i_TM_deliver : Cond.instanceMethod m_TM_deliver.1 ∈ GT := gt_at 448 (by decide +kernel) (by decide +kernel)
theorem s_TM_deliver : Cond.selects m_TM_deliver.1.cls m_TM_deliver.1 m_TM_deliver.1 ∈ GT := gt_at 449 (by decide +kernel) (by decide +kernel)
def m_TM_evict : MM := (⟨"TokenMesh", "evict", "(II)Z"⟩, prog_1_method_5_code, 4, (some .boolean))
theorem k_TM_evict : MK m_TM_evict 2 := ⟨gt_at 556 (by decide +kernel) (by decide +kernel), w_40, by decide +kernel, by decide +kernel, by decide⟩
theorem y_TM_evict : plainName m_TM_evict.1.cls = true := by decide +kernel
theorem i_TM_evict : Cond.instanceMethod m_TM_evict.1 ∈ GT := gt_at 554 (by decide +kernel) (by decide +kernel)
theorem s_TM_evict : Cond.selects m_TM_evict.1.cls m_TM_evict.1 m_TM_evict.1 ∈ GT := gt_at 555 (by decide +kernel) (by decide +kernel)
def m_TM_letters : MM := (⟨"TokenMesh", "letters", "()I"⟩, prog_1_method_6_code, 1, (some .int))
theorem k_TM_letters : MK m_TM_letters 0 := ⟨gt_at 560 (by decide +kernel) (by decide +kernel), w_40, by decide +kernel, by decide +kernel, by decide⟩
theorem y_TM_letters : plainName m_TM_letters.1.cls = true := by decide +kernel
theorem i_TM_letters : Cond.instanceMethod m_TM_letters.1 ∈ GT := gt_at 558 (by decide +kernel) (by decide +kernel)
theorem s_TM_letters : Cond.selects m_TM_letters.1.cls m_TM_letters.1 m_TM_letters.1 ∈ GT := gt_at 559 (by decide +kernel) (by decide +kernel)
def m_TM_letter : MM := (⟨"TokenMesh", "letter", "(I)I"⟩, prog_1_method_7_code, 2, (some .int))
theorem k_TM_letter : MK m_TM_letter 1 := ⟨gt_at 568 (by decide +kernel) (by decide +kernel), w_40, by decide +kernel, by decide +kernel, by decide⟩
theorem y_TM_letter : plainName m_TM_letter.1.cls = true := by decide +kernel
theorem i_TM_letter : Cond.instanceMethod m_TM_letter.1 ∈ GT := gt_at 566 (by decide +kernel) (by decide +kernel)
theorem s_TM_letter : Cond.selects m_TM_letter.1.cls m_TM_letter.1 m_TM_letter.1 ∈ GT := gt_at 567 (by decide +kernel) (by decide +kernel)
def m_TM_tokens : MM := (⟨"TokenMesh", "tokens", "(II)I"⟩, prog_1_method_8_code, 4, (some .int))
theorem k_TM_tokens : MK m_TM_tokens 2 := ⟨gt_at 580 (by decide +kernel) (by decide +kernel), w_40, by decide +kernel, by decide +kernel, by decide⟩
theorem y_TM_tokens : plainName m_TM_tokens.1.cls = true := by decide +kernel
theorem i_TM_tokens : Cond.instanceMethod m_TM_tokens.1 ∈ GT := gt_at 578 (by decide +kernel) (by decide +kernel)
theorem s_TM_tokens : Cond.selects m_TM_tokens.1.cls m_TM_tokens.1 m_TM_tokens.1 ∈ GT := gt_at 579 (by decide +kernel) (by decide +kernel)
def m_TM_data : MM := (⟨"TokenMesh", "data", "(II)I"⟩, prog_1_method_9_code, 4, (some .int))
theorem k_TM_data : MK m_TM_data 2 := ⟨gt_at 588 (by decide +kernel) (by decide +kernel), w_40, by decide +kernel, by decide +kernel, by decide⟩
theorem y_TM_data : plainName m_TM_data.1.cls = true := by decide +kernel
theorem i_TM_data : Cond.instanceMethod m_TM_data.1 ∈ GT := gt_at 586 (by decide +kernel) (by decide +kernel)
theorem s_TM_data : Cond.selects m_TM_data.1.cls m_TM_data.1 m_TM_data.1 ∈ GT := gt_at 587 (by decide +kernel) (by decide +kernel)
def m_TM_knows : MM := (⟨"TokenMesh", "knows", "(II)I"⟩, prog_1_method_10_code, 4, (some .int))
theorem k_TM_knows : MK m_TM_knows 2 := ⟨gt_at 592 (by decide +kernel) (by decide +kernel), w_40, by decide +kernel, by decide +kernel, by decide⟩
theorem y_TM_knows : plainName m_TM_knows.1.cls = true := by decide +kernel
theorem i_TM_knows : Cond.instanceMethod m_TM_knows.1 ∈ GT := gt_at 590 (by decide +kernel) (by decide +kernel)
theorem s_TM_knows : Cond.selects m_TM_knows.1.cls m_TM_knows.1 m_TM_knows.1 ∈ GT := gt_at 591 (by decide +kernel) (by decide +kernel)
def m_TM_row : MM := (⟨"TokenMesh", "row", "(I)I"⟩, prog_1_method_11_code, 2, (some .int))
theorem k_TM_row : MK m_TM_row 1 := ⟨gt_at 596 (by decide +kernel) (by decide +kernel), w_40, by decide +kernel, by decide +kernel, by decide⟩
theorem y_TM_row : plainName m_TM_row.1.cls = true := by decide +kernel
theorem i_TM_row : Cond.instanceMethod m_TM_row.1 ∈ GT := gt_at 594 (by decide +kernel) (by decide +kernel)
theorem s_TM_row : Cond.selects m_TM_row.1.cls m_TM_row.1 m_TM_row.1 ∈ GT := gt_at 595 (by decide +kernel) (by decide +kernel)
def m_TM_state : MM := (⟨"TokenMesh", "state", "(I)I"⟩, prog_1_method_12_code, 3, (some .int))
theorem k_TM_state : MK m_TM_state 1 := ⟨gt_at 601 (by decide +kernel) (by decide +kernel), w_40, by decide +kernel, by decide +kernel, by decide⟩
theorem y_TM_state : plainName m_TM_state.1.cls = true := by decide +kernel
theorem i_TM_state : Cond.instanceMethod m_TM_state.1 ∈ GT := gt_at 599 (by decide +kernel) (by decide +kernel)
theorem s_TM_state : Cond.selects m_TM_state.1.cls m_TM_state.1 m_TM_state.1 ∈ GT := gt_at 600 (by decide +kernel) (by decide +kernel)
def m_TM_ended : MM := (⟨"TokenMesh", "ended", "(I)I"⟩, prog_1_method_13_code, 2, (some .int))
theorem k_TM_ended : MK m_TM_ended 1 := ⟨gt_at 605 (by decide +kernel) (by decide +kernel), w_40, by decide +kernel, by decide +kernel, by decide⟩
theorem y_TM_ended : plainName m_TM_ended.1.cls = true := by decide +kernel
theorem i_TM_ended : Cond.instanceMethod m_TM_ended.1 ∈ GT := gt_at 603 (by decide +kernel) (by decide +kernel)
theorem s_TM_ended : Cond.selects m_TM_ended.1.cls m_TM_ended.1 m_TM_ended.1 ∈ GT := gt_at 604 (by decide +kernel) (by decide +kernel)
def m_TM_result : MM := (⟨"TokenMesh", "result", "(I)I"⟩, prog_1_method_14_code, 2, (some .int))
theorem k_TM_result : MK m_TM_result 1 := ⟨gt_at 609 (by decide +kernel) (by decide +kernel), w_40, by decide +kernel, by decide +kernel, by decide⟩
theorem y_TM_result : plainName m_TM_result.1.cls = true := by decide +kernel
theorem i_TM_result : Cond.instanceMethod m_TM_result.1 ∈ GT := gt_at 607 (by decide +kernel) (by decide +kernel)
theorem s_TM_result : Cond.selects m_TM_result.1.cls m_TM_result.1 m_TM_result.1 ∈ GT := gt_at 608 (by decide +kernel) (by decide +kernel)
def m_TM_memory : MM := (⟨"TokenMesh", "memory", "(I)I"⟩, prog_1_method_15_code, 4, (some .int))
theorem k_TM_memory : MK m_TM_memory 1 := ⟨gt_at 613 (by decide +kernel) (by decide +kernel), w_40, by decide +kernel, by decide +kernel, by decide⟩
theorem y_TM_memory : plainName m_TM_memory.1.cls = true := by decide +kernel
theorem i_TM_memory : Cond.instanceMethod m_TM_memory.1 ∈ GT := gt_at 611 (by decide +kernel) (by decide +kernel)
theorem s_TM_memory : Cond.selects m_TM_memory.1.cls m_TM_memory.1 m_TM_memory.1 ∈ GT := gt_at 612 (by decide +kernel) (by decide +kernel)
def m_TM_clamp : MM := (⟨"TokenMesh", "clamp", "(III)I"⟩, prog_1_method_16_code, 3, (some .int))
theorem k_TM_clamp : MK m_TM_clamp 3 := ⟨gt_at 67 (by decide +kernel) (by decide +kernel), w_40, by decide +kernel, by decide +kernel, by decide⟩
theorem y_TM_clamp : plainName m_TM_clamp.1.cls = true := by decide +kernel
theorem t_TM_clamp : Cond.static m_TM_clamp.1 ∈ GT := gt_at 66 (by decide +kernel) (by decide +kernel)
def m_TM_isCore : MM := (⟨"TokenMesh", "isCore", "(I)Z"⟩, prog_1_method_17_code, 2, (some .boolean))
theorem k_TM_isCore : MK m_TM_isCore 1 := ⟨gt_at 257 (by decide +kernel) (by decide +kernel), w_40, by decide +kernel, by decide +kernel, by decide⟩
theorem y_TM_isCore : plainName m_TM_isCore.1.cls = true := by decide +kernel
theorem i_TM_isCore : Cond.instanceMethod m_TM_isCore.1 ∈ GT := gt_at 256 (by decide +kernel) (by decide +kernel)
theorem s_TM_isCore : Cond.selects m_TM_isCore.1.cls m_TM_isCore.1 m_TM_isCore.1 ∈ GT := gt_at 0 (by decide +kernel) (by decide +kernel)
def m_TM_isNode : MM := (⟨"TokenMesh", "isNode", "(I)Z"⟩, prog_1_method_18_code, 2, (some .boolean))
theorem k_TM_isNode : MK m_TM_isNode 1 := ⟨gt_at 584 (by decide +kernel) (by decide +kernel), w_40, by decide +kernel, by decide +kernel, by decide⟩
theorem y_TM_isNode : plainName m_TM_isNode.1.cls = true := by decide +kernel
theorem i_TM_isNode : Cond.instanceMethod m_TM_isNode.1 ∈ GT := gt_at 583 (by decide +kernel) (by decide +kernel)
theorem s_TM_isNode : Cond.selects m_TM_isNode.1.cls m_TM_isNode.1 m_TM_isNode.1 ∈ GT := gt_at 21 (by decide +kernel) (by decide +kernel)
def m_TM_isBlock : MM := (⟨"TokenMesh", "isBlock", "(I)Z"⟩, prog_1_method_19_code, 1, (some .boolean))
theorem k_TM_isBlock : MK m_TM_isBlock 1 := ⟨gt_at 260 (by decide +kernel) (by decide +kernel), w_40, by decide +kernel, by decide +kernel, by decide⟩
theorem y_TM_isBlock : plainName m_TM_isBlock.1.cls = true := by decide +kernel
theorem t_TM_isBlock : Cond.static m_TM_isBlock.1 ∈ GT := gt_at 259 (by decide +kernel) (by decide +kernel)
def m_TM_share : MM := (⟨"TokenMesh", "share", "(II)LTokenMesh$Share;"⟩, prog_1_method_20_code, 3, (some (.object "TokenMesh$Share")))
theorem k_TM_share : MK m_TM_share 2 := ⟨gt_at 272 (by decide +kernel) (by decide +kernel), w_40, by decide +kernel, by decide +kernel, by decide⟩
theorem y_TM_share : plainName m_TM_share.1.cls = true := by decide +kernel
theorem i_TM_share : Cond.instanceMethod m_TM_share.1 ∈ GT := gt_at 271 (by decide +kernel) (by decide +kernel)
theorem s_TM_share : Cond.selects m_TM_share.1.cls m_TM_share.1 m_TM_share.1 ∈ GT := gt_at 2 (by decide +kernel) (by decide +kernel)
def m_TM_canEnd : MM := (⟨"TokenMesh", "canEnd", "(I)Z"⟩, prog_1_method_21_code, 4, (some .boolean))
theorem k_TM_canEnd : MK m_TM_canEnd 1 := ⟨gt_at 268 (by decide +kernel) (by decide +kernel), w_40, by decide +kernel, by decide +kernel, by decide⟩
theorem y_TM_canEnd : plainName m_TM_canEnd.1.cls = true := by decide +kernel
theorem i_TM_canEnd : Cond.instanceMethod m_TM_canEnd.1 ∈ GT := gt_at 267 (by decide +kernel) (by decide +kernel)
theorem s_TM_canEnd : Cond.selects m_TM_canEnd.1.cls m_TM_canEnd.1 m_TM_canEnd.1 ∈ GT := gt_at 1 (by decide +kernel) (by decide +kernel)
def m_TM_endd : MM := (⟨"TokenMesh", "end", "(I)V"⟩, prog_1_method_22_code, 5, none)
theorem k_TM_endd : MK m_TM_endd 1 := ⟨gt_at 276 (by decide +kernel) (by decide +kernel), w_40, by decide +kernel, by decide +kernel, by decide⟩
theorem y_TM_endd : plainName m_TM_endd.1.cls = true := by decide +kernel
theorem i_TM_endd : Cond.instanceMethod m_TM_endd.1 ∈ GT := gt_at 275 (by decide +kernel) (by decide +kernel)
theorem s_TM_endd : Cond.selects m_TM_endd.1.cls m_TM_endd.1 m_TM_endd.1 ∈ GT := gt_at 3 (by decide +kernel) (by decide +kernel)
def m_TM_ask : MM := (⟨"TokenMesh", "ask", "(I)V"⟩, prog_1_method_23_code, 4, none)
theorem k_TM_ask : MK m_TM_ask 1 := ⟨gt_at 434 (by decide +kernel) (by decide +kernel), w_40, by decide +kernel, by decide +kernel, by decide⟩
theorem y_TM_ask : plainName m_TM_ask.1.cls = true := by decide +kernel
theorem i_TM_ask : Cond.instanceMethod m_TM_ask.1 ∈ GT := gt_at 433 (by decide +kernel) (by decide +kernel)
theorem s_TM_ask : Cond.selects m_TM_ask.1.cls m_TM_ask.1 m_TM_ask.1 ∈ GT := gt_at 9 (by decide +kernel) (by decide +kernel)
def m_TM_askAgain : MM := (⟨"TokenMesh", "askAgain", "(I)V"⟩, prog_1_method_24_code, 4, none)
theorem k_TM_askAgain : MK m_TM_askAgain 1 := ⟨gt_at 446 (by decide +kernel) (by decide +kernel), w_40, by decide +kernel, by decide +kernel, by decide⟩
theorem y_TM_askAgain : plainName m_TM_askAgain.1.cls = true := by decide +kernel
theorem i_TM_askAgain : Cond.instanceMethod m_TM_askAgain.1 ∈ GT := gt_at 445 (by decide +kernel) (by decide +kernel)
theorem s_TM_askAgain : Cond.selects m_TM_askAgain.1.cls m_TM_askAgain.1 m_TM_askAgain.1 ∈ GT := gt_at 10 (by decide +kernel) (by decide +kernel)
def m_TM_give : MM := (⟨"TokenMesh", "give", "(IIIIZZ)V"⟩, prog_1_method_25_code, 9, none)
theorem k_TM_give : MK m_TM_give 6 := ⟨gt_at 466 (by decide +kernel) (by decide +kernel), w_40, by decide +kernel, by decide +kernel, by decide⟩
theorem y_TM_give : plainName m_TM_give.1.cls = true := by decide +kernel
theorem i_TM_give : Cond.instanceMethod m_TM_give.1 ∈ GT := gt_at 465 (by decide +kernel) (by decide +kernel)
theorem s_TM_give : Cond.selects m_TM_give.1.cls m_TM_give.1 m_TM_give.1 ∈ GT := gt_at 12 (by decide +kernel) (by decide +kernel)
def m_TM_giveWay : MM := (⟨"TokenMesh", "giveWay", "(II)V"⟩, prog_1_method_26_code, 4, none)
theorem k_TM_giveWay : MK m_TM_giveWay 2 := ⟨gt_at 486 (by decide +kernel) (by decide +kernel), w_40, by decide +kernel, by decide +kernel, by decide⟩
theorem y_TM_giveWay : plainName m_TM_giveWay.1.cls = true := by decide +kernel
theorem i_TM_giveWay : Cond.instanceMethod m_TM_giveWay.1 ∈ GT := gt_at 485 (by decide +kernel) (by decide +kernel)
theorem s_TM_giveWay : Cond.selects m_TM_giveWay.1.cls m_TM_giveWay.1 m_TM_giveWay.1 ∈ GT := gt_at 15 (by decide +kernel) (by decide +kernel)
def m_TM_onRead : MM := (⟨"TokenMesh", "onRead", "(III)V"⟩, prog_1_method_27_code, 6, none)
theorem k_TM_onRead : MK m_TM_onRead 3 := ⟨gt_at 462 (by decide +kernel) (by decide +kernel), w_40, by decide +kernel, by decide +kernel, by decide⟩
theorem y_TM_onRead : plainName m_TM_onRead.1.cls = true := by decide +kernel
theorem i_TM_onRead : Cond.instanceMethod m_TM_onRead.1 ∈ GT := gt_at 461 (by decide +kernel) (by decide +kernel)
theorem s_TM_onRead : Cond.selects m_TM_onRead.1.cls m_TM_onRead.1 m_TM_onRead.1 ∈ GT := gt_at 11 (by decide +kernel) (by decide +kernel)
def m_TM_onWrite : MM := (⟨"TokenMesh", "onWrite", "(III)V"⟩, prog_1_method_28_code, 5, none)
theorem k_TM_onWrite : MK m_TM_onWrite 3 := ⟨gt_at 474 (by decide +kernel) (by decide +kernel), w_40, by decide +kernel, by decide +kernel, by decide⟩
theorem y_TM_onWrite : plainName m_TM_onWrite.1.cls = true := by decide +kernel
theorem i_TM_onWrite : Cond.instanceMethod m_TM_onWrite.1 ∈ GT := gt_at 473 (by decide +kernel) (by decide +kernel)
theorem s_TM_onWrite : Cond.selects m_TM_onWrite.1.cls m_TM_onWrite.1 m_TM_onWrite.1 ∈ GT := gt_at 13 (by decide +kernel) (by decide +kernel)
def m_TM_onTokens : MM := (⟨"TokenMesh", "onTokens", "(LTokenMesh$Letter;)V"⟩, prog_1_method_29_code, 2, none)
theorem k_TM_onTokens : MK m_TM_onTokens 1 := ⟨gt_at 478 (by decide +kernel) (by decide +kernel), w_40, by decide +kernel, by decide +kernel, by decide⟩
theorem y_TM_onTokens : plainName m_TM_onTokens.1.cls = true := by decide +kernel
theorem i_TM_onTokens : Cond.instanceMethod m_TM_onTokens.1 ∈ GT := gt_at 477 (by decide +kernel) (by decide +kernel)
theorem s_TM_onTokens : Cond.selects m_TM_onTokens.1.cls m_TM_onTokens.1 m_TM_onTokens.1 ∈ GT := gt_at 14 (by decide +kernel) (by decide +kernel)
def m_TM_onPlease : MM := (⟨"TokenMesh", "onPlease", "(IIIZ)V"⟩, prog_1_method_30_code, 6, none)
theorem k_TM_onPlease : MK m_TM_onPlease 4 := ⟨gt_at 494 (by decide +kernel) (by decide +kernel), w_40, by decide +kernel, by decide +kernel, by decide⟩
theorem y_TM_onPlease : plainName m_TM_onPlease.1.cls = true := by decide +kernel
theorem i_TM_onPlease : Cond.instanceMethod m_TM_onPlease.1 ∈ GT := gt_at 493 (by decide +kernel) (by decide +kernel)
theorem s_TM_onPlease : Cond.selects m_TM_onPlease.1.cls m_TM_onPlease.1 m_TM_onPlease.1 ∈ GT := gt_at 16 (by decide +kernel) (by decide +kernel)
def m_TM_onKnow : MM := (⟨"TokenMesh", "onKnow", "(LTokenMesh$Letter;)V"⟩, prog_1_method_31_code, 5, none)
theorem k_TM_onKnow : MK m_TM_onKnow 1 := ⟨gt_at 548 (by decide +kernel) (by decide +kernel), w_40, by decide +kernel, by decide +kernel, by decide⟩
theorem y_TM_onKnow : plainName m_TM_onKnow.1.cls = true := by decide +kernel
theorem i_TM_onKnow : Cond.instanceMethod m_TM_onKnow.1 ∈ GT := gt_at 547 (by decide +kernel) (by decide +kernel)
theorem s_TM_onKnow : Cond.selects m_TM_onKnow.1.cls m_TM_onKnow.1 m_TM_onKnow.1 ∈ GT := gt_at 20 (by decide +kernel) (by decide +kernel)
def m_TM_lapse : MM := (⟨"TokenMesh", "lapse", "(II)V"⟩, prog_1_method_32_code, 5, none)
theorem k_TM_lapse : MK m_TM_lapse 2 := ⟨gt_at 498 (by decide +kernel) (by decide +kernel), w_40, by decide +kernel, by decide +kernel, by decide⟩
theorem y_TM_lapse : plainName m_TM_lapse.1.cls = true := by decide +kernel
theorem i_TM_lapse : Cond.instanceMethod m_TM_lapse.1 ∈ GT := gt_at 497 (by decide +kernel) (by decide +kernel)
theorem s_TM_lapse : Cond.selects m_TM_lapse.1.cls m_TM_lapse.1 m_TM_lapse.1 ∈ GT := gt_at 17 (by decide +kernel) (by decide +kernel)
def m_TM_activateFirst : MM := (⟨"TokenMesh", "activateFirst", "(I)V"⟩, prog_1_method_33_code, 3, none)
theorem k_TM_activateFirst : MK m_TM_activateFirst 1 := ⟨gt_at 523 (by decide +kernel) (by decide +kernel), w_40, by decide +kernel, by decide +kernel, by decide⟩
theorem y_TM_activateFirst : plainName m_TM_activateFirst.1.cls = true := by decide +kernel
theorem i_TM_activateFirst : Cond.instanceMethod m_TM_activateFirst.1 ∈ GT := gt_at 522 (by decide +kernel) (by decide +kernel)
theorem s_TM_activateFirst : Cond.selects m_TM_activateFirst.1.cls m_TM_activateFirst.1 m_TM_activateFirst.1 ∈ GT := gt_at 19 (by decide +kernel) (by decide +kernel)
def m_TM_tellActive : MM := (⟨"TokenMesh", "tellActive", "(I)V"⟩, prog_1_method_34_code, 7, none)
theorem k_TM_tellActive : MK m_TM_tellActive 1 := ⟨gt_at 515 (by decide +kernel) (by decide +kernel), w_40, by decide +kernel, by decide +kernel, by decide⟩
theorem y_TM_tellActive : plainName m_TM_tellActive.1.cls = true := by decide +kernel
theorem i_TM_tellActive : Cond.instanceMethod m_TM_tellActive.1 ∈ GT := gt_at 514 (by decide +kernel) (by decide +kernel)
theorem s_TM_tellActive : Cond.selects m_TM_tellActive.1.cls m_TM_tellActive.1 m_TM_tellActive.1 ∈ GT := gt_at 18 (by decide +kernel) (by decide +kernel)
def m_MM_init : MM := (⟨"TokenMeshModel", "<init>", "(III)V"⟩, prog_9_method_1_code, 6, none)
theorem w_49 : Cond.initialized "TokenMeshModel" ∈ GT := gt_at 49 (by decide +kernel) (by decide +kernel)
theorem k_MM_init : MK m_MM_init 3 := ⟨gt_at 621 (by decide +kernel) (by decide +kernel), w_49, by decide +kernel, by decide +kernel, by decide⟩
theorem y_MM_init : plainName m_MM_init.1.cls = true := by decide +kernel
theorem i_MM_init : Cond.instanceMethod m_MM_init.1 ∈ GT := gt_at 620 (by decide +kernel) (by decide +kernel)
def m_MM_isCore : MM := (⟨"TokenMeshModel", "isCore", "(I)Z"⟩, prog_9_method_3_code, 2, (some .boolean))
theorem k_MM_isCore : MK m_MM_isCore 1 := ⟨gt_at 752 (by decide +kernel) (by decide +kernel), w_49, by decide +kernel, by decide +kernel, by decide⟩
theorem y_MM_isCore : plainName m_MM_isCore.1.cls = true := by decide +kernel
theorem i_MM_isCore : Cond.instanceMethod m_MM_isCore.1 ∈ GT := gt_at 751 (by decide +kernel) (by decide +kernel)
theorem s_MM_isCore : Cond.selects m_MM_isCore.1.cls m_MM_isCore.1 m_MM_isCore.1 ∈ GT := gt_at 22 (by decide +kernel) (by decide +kernel)
def m_MM_isNode : MM := (⟨"TokenMeshModel", "isNode", "(I)Z"⟩, prog_9_method_4_code, 2, (some .boolean))
theorem k_MM_isNode : MK m_MM_isNode 1 := ⟨gt_at 843 (by decide +kernel) (by decide +kernel), w_49, by decide +kernel, by decide +kernel, by decide⟩
theorem y_MM_isNode : plainName m_MM_isNode.1.cls = true := by decide +kernel
theorem i_MM_isNode : Cond.instanceMethod m_MM_isNode.1 ∈ GT := gt_at 842 (by decide +kernel) (by decide +kernel)
theorem s_MM_isNode : Cond.selects m_MM_isNode.1.cls m_MM_isNode.1 m_MM_isNode.1 ∈ GT := gt_at 38 (by decide +kernel) (by decide +kernel)
def m_MM_isBlock : MM := (⟨"TokenMeshModel", "isBlock", "(I)Z"⟩, prog_9_method_5_code, 1, (some .boolean))
theorem k_MM_isBlock : MK m_MM_isBlock 1 := ⟨gt_at 755 (by decide +kernel) (by decide +kernel), w_49, by decide +kernel, by decide +kernel, by decide⟩
theorem y_MM_isBlock : plainName m_MM_isBlock.1.cls = true := by decide +kernel
theorem t_MM_isBlock : Cond.static m_MM_isBlock.1 ∈ GT := gt_at 754 (by decide +kernel) (by decide +kernel)
def m_MM_move : MM := (⟨"TokenMeshModel", "move", "(II)V"⟩, prog_9_method_6_code, 3, none)
theorem k_MM_move : MK m_MM_move 2 := ⟨gt_at 775 (by decide +kernel) (by decide +kernel), w_49, by decide +kernel, by decide +kernel, by decide⟩
theorem y_MM_move : plainName m_MM_move.1.cls = true := by decide +kernel
theorem i_MM_move : Cond.instanceMethod m_MM_move.1 ∈ GT := gt_at 774 (by decide +kernel) (by decide +kernel)
theorem s_MM_move : Cond.selects m_MM_move.1.cls m_MM_move.1 m_MM_move.1 ∈ GT := gt_at 27 (by decide +kernel) (by decide +kernel)
def m_MM_remove : MM := (⟨"TokenMeshModel", "remove", "(I)V"⟩, prog_9_method_7_code, 3, none)
theorem k_MM_remove : MK m_MM_remove 1 := ⟨gt_at 771 (by decide +kernel) (by decide +kernel), w_49, by decide +kernel, by decide +kernel, by decide⟩
theorem y_MM_remove : plainName m_MM_remove.1.cls = true := by decide +kernel
theorem i_MM_remove : Cond.instanceMethod m_MM_remove.1 ∈ GT := gt_at 770 (by decide +kernel) (by decide +kernel)
theorem s_MM_remove : Cond.selects m_MM_remove.1.cls m_MM_remove.1 m_MM_remove.1 ∈ GT := gt_at 26 (by decide +kernel) (by decide +kernel)
def m_MM_send : MM := (⟨"TokenMeshModel", "send", "(IIII)I"⟩, prog_9_method_8_code, 7, (some .int))
theorem k_MM_send : MK m_MM_send 4 := ⟨gt_at 767 (by decide +kernel) (by decide +kernel), w_49, by decide +kernel, by decide +kernel, by decide⟩
theorem y_MM_send : plainName m_MM_send.1.cls = true := by decide +kernel
theorem i_MM_send : Cond.instanceMethod m_MM_send.1 ∈ GT := gt_at 766 (by decide +kernel) (by decide +kernel)
theorem s_MM_send : Cond.selects m_MM_send.1.cls m_MM_send.1 m_MM_send.1 ∈ GT := gt_at 25 (by decide +kernel) (by decide +kernel)
def m_MM_give : MM := (⟨"TokenMeshModel", "give", "(IIIIZZ)V"⟩, prog_9_method_9_code, 9, none)
theorem k_MM_give : MK m_MM_give 6 := ⟨gt_at 795 (by decide +kernel) (by decide +kernel), w_49, by decide +kernel, by decide +kernel, by decide⟩
theorem y_MM_give : plainName m_MM_give.1.cls = true := by decide +kernel
theorem i_MM_give : Cond.instanceMethod m_MM_give.1 ∈ GT := gt_at 794 (by decide +kernel) (by decide +kernel)
theorem s_MM_give : Cond.selects m_MM_give.1.cls m_MM_give.1 m_MM_give.1 ∈ GT := gt_at 30 (by decide +kernel) (by decide +kernel)
def m_MM_giveWay : MM := (⟨"TokenMeshModel", "giveWay", "(II)V"⟩, prog_9_method_10_code, 5, none)
theorem k_MM_giveWay : MK m_MM_giveWay 2 := ⟨gt_at 803 (by decide +kernel) (by decide +kernel), w_49, by decide +kernel, by decide +kernel, by decide⟩
theorem y_MM_giveWay : plainName m_MM_giveWay.1.cls = true := by decide +kernel
theorem i_MM_giveWay : Cond.instanceMethod m_MM_giveWay.1 ∈ GT := gt_at 802 (by decide +kernel) (by decide +kernel)
theorem s_MM_giveWay : Cond.selects m_MM_giveWay.1.cls m_MM_giveWay.1 m_MM_giveWay.1 ∈ GT := gt_at 32 (by decide +kernel) (by decide +kernel)
def m_MM_canEnd : MM := (⟨"TokenMeshModel", "canEnd", "(I)Z"⟩, prog_9_method_11_code, 3, (some .boolean))
theorem k_MM_canEnd : MK m_MM_canEnd 1 := ⟨gt_at 759 (by decide +kernel) (by decide +kernel), w_49, by decide +kernel, by decide +kernel, by decide⟩
theorem y_MM_canEnd : plainName m_MM_canEnd.1.cls = true := by decide +kernel
theorem i_MM_canEnd : Cond.instanceMethod m_MM_canEnd.1 ∈ GT := gt_at 758 (by decide +kernel) (by decide +kernel)
theorem s_MM_canEnd : Cond.selects m_MM_canEnd.1.cls m_MM_canEnd.1 m_MM_canEnd.1 ∈ GT := gt_at 23 (by decide +kernel) (by decide +kernel)
def m_MM_endd : MM := (⟨"TokenMeshModel", "end", "(I)V"⟩, prog_9_method_12_code, 4, none)
theorem k_MM_endd : MK m_MM_endd 1 := ⟨gt_at 763 (by decide +kernel) (by decide +kernel), w_49, by decide +kernel, by decide +kernel, by decide⟩
theorem y_MM_endd : plainName m_MM_endd.1.cls = true := by decide +kernel
theorem i_MM_endd : Cond.instanceMethod m_MM_endd.1 ∈ GT := gt_at 762 (by decide +kernel) (by decide +kernel)
theorem s_MM_endd : Cond.selects m_MM_endd.1.cls m_MM_endd.1 m_MM_endd.1 ∈ GT := gt_at 24 (by decide +kernel) (by decide +kernel)
def m_MM_ask : MM := (⟨"TokenMeshModel", "ask", "(I)V"⟩, prog_9_method_13_code, 4, none)
theorem k_MM_ask : MK m_MM_ask 1 := ⟨gt_at 779 (by decide +kernel) (by decide +kernel), w_49, by decide +kernel, by decide +kernel, by decide⟩
theorem y_MM_ask : plainName m_MM_ask.1.cls = true := by decide +kernel
theorem i_MM_ask : Cond.instanceMethod m_MM_ask.1 ∈ GT := gt_at 778 (by decide +kernel) (by decide +kernel)
theorem s_MM_ask : Cond.selects m_MM_ask.1.cls m_MM_ask.1 m_MM_ask.1 ∈ GT := gt_at 28 (by decide +kernel) (by decide +kernel)
def m_MM_issue : MM := (⟨"TokenMeshModel", "issue", "(IZII)I"⟩, prog_9_method_14_code, 5, (some .int))
theorem k_MM_issue : MK m_MM_issue 4 := ⟨gt_at 748 (by decide +kernel) (by decide +kernel), w_49, by decide +kernel, by decide +kernel, by decide⟩
theorem y_MM_issue : plainName m_MM_issue.1.cls = true := by decide +kernel
theorem i_MM_issue : Cond.instanceMethod m_MM_issue.1 ∈ GT := gt_at 746 (by decide +kernel) (by decide +kernel)
theorem s_MM_issue : Cond.selects m_MM_issue.1.cls m_MM_issue.1 m_MM_issue.1 ∈ GT := gt_at 747 (by decide +kernel) (by decide +kernel)
def m_MM_tick : MM := (⟨"TokenMeshModel", "tick", "(I)I"⟩, prog_9_method_15_code, 4, (some .int))
theorem k_MM_tick : MK m_MM_tick 1 := ⟨gt_at 783 (by decide +kernel) (by decide +kernel), w_49, by decide +kernel, by decide +kernel, by decide⟩
theorem y_MM_tick : plainName m_MM_tick.1.cls = true := by decide +kernel
theorem i_MM_tick : Cond.instanceMethod m_MM_tick.1 ∈ GT := gt_at 781 (by decide +kernel) (by decide +kernel)
theorem s_MM_tick : Cond.selects m_MM_tick.1.cls m_MM_tick.1 m_MM_tick.1 ∈ GT := gt_at 782 (by decide +kernel) (by decide +kernel)
def m_MM_repeat : MM := (⟨"TokenMeshModel", "repeat", "(I)V"⟩, prog_9_method_16_code, 3, none)
theorem k_MM_repeat : MK m_MM_repeat 1 := ⟨gt_at 787 (by decide +kernel) (by decide +kernel), w_49, by decide +kernel, by decide +kernel, by decide⟩
theorem y_MM_repeat : plainName m_MM_repeat.1.cls = true := by decide +kernel
theorem i_MM_repeat : Cond.instanceMethod m_MM_repeat.1 ∈ GT := gt_at 786 (by decide +kernel) (by decide +kernel)
theorem s_MM_repeat : Cond.selects m_MM_repeat.1.cls m_MM_repeat.1 m_MM_repeat.1 ∈ GT := gt_at 29 (by decide +kernel) (by decide +kernel)
def m_MM_tellAll : MM := (⟨"TokenMeshModel", "tellAll", "(I)V"⟩, prog_9_method_17_code, 5, none)
theorem k_MM_tellAll : MK m_MM_tellAll 1 := ⟨gt_at 819 (by decide +kernel) (by decide +kernel), w_49, by decide +kernel, by decide +kernel, by decide⟩
theorem y_MM_tellAll : plainName m_MM_tellAll.1.cls = true := by decide +kernel
theorem i_MM_tellAll : Cond.instanceMethod m_MM_tellAll.1 ∈ GT := gt_at 818 (by decide +kernel) (by decide +kernel)
theorem s_MM_tellAll : Cond.selects m_MM_tellAll.1.cls m_MM_tellAll.1 m_MM_tellAll.1 ∈ GT := gt_at 36 (by decide +kernel) (by decide +kernel)
def m_MM_takeOut : MM := (⟨"TokenMeshModel", "takeOut", "(II)V"⟩, prog_9_method_18_code, 4, none)
theorem k_MM_takeOut : MK m_MM_takeOut 2 := ⟨gt_at 815 (by decide +kernel) (by decide +kernel), w_49, by decide +kernel, by decide +kernel, by decide⟩
theorem y_MM_takeOut : plainName m_MM_takeOut.1.cls = true := by decide +kernel
theorem i_MM_takeOut : Cond.instanceMethod m_MM_takeOut.1 ∈ GT := gt_at 814 (by decide +kernel) (by decide +kernel)
theorem s_MM_takeOut : Cond.selects m_MM_takeOut.1.cls m_MM_takeOut.1 m_MM_takeOut.1 ∈ GT := gt_at 35 (by decide +kernel) (by decide +kernel)
def m_MM_activate : MM := (⟨"TokenMeshModel", "activate", "(I)V"⟩, prog_9_method_19_code, 3, none)
theorem k_MM_activate : MK m_MM_activate 1 := ⟨gt_at 823 (by decide +kernel) (by decide +kernel), w_49, by decide +kernel, by decide +kernel, by decide⟩
theorem y_MM_activate : plainName m_MM_activate.1.cls = true := by decide +kernel
theorem i_MM_activate : Cond.instanceMethod m_MM_activate.1 ∈ GT := gt_at 822 (by decide +kernel) (by decide +kernel)
theorem s_MM_activate : Cond.selects m_MM_activate.1.cls m_MM_activate.1 m_MM_activate.1 ∈ GT := gt_at 37 (by decide +kernel) (by decide +kernel)
def m_MM_lapse : MM := (⟨"TokenMeshModel", "lapse", "(II)V"⟩, prog_9_method_20_code, 5, none)
theorem k_MM_lapse : MK m_MM_lapse 2 := ⟨gt_at 811 (by decide +kernel) (by decide +kernel), w_49, by decide +kernel, by decide +kernel, by decide⟩
theorem y_MM_lapse : plainName m_MM_lapse.1.cls = true := by decide +kernel
theorem i_MM_lapse : Cond.instanceMethod m_MM_lapse.1 ∈ GT := gt_at 810 (by decide +kernel) (by decide +kernel)
theorem s_MM_lapse : Cond.selects m_MM_lapse.1.cls m_MM_lapse.1 m_MM_lapse.1 ∈ GT := gt_at 34 (by decide +kernel) (by decide +kernel)
def m_MM_please : MM := (⟨"TokenMeshModel", "please", "(IIIZ)V"⟩, prog_9_method_21_code, 6, none)
theorem k_MM_please : MK m_MM_please 4 := ⟨gt_at 807 (by decide +kernel) (by decide +kernel), w_49, by decide +kernel, by decide +kernel, by decide⟩
theorem y_MM_please : plainName m_MM_please.1.cls = true := by decide +kernel
theorem i_MM_please : Cond.instanceMethod m_MM_please.1 ∈ GT := gt_at 806 (by decide +kernel) (by decide +kernel)
theorem s_MM_please : Cond.selects m_MM_please.1.cls m_MM_please.1 m_MM_please.1 ∈ GT := gt_at 33 (by decide +kernel) (by decide +kernel)
def m_MM_getTokens : MM := (⟨"TokenMeshModel", "getTokens", "(IIIZZI)V"⟩, prog_9_method_22_code, 8, none)
theorem k_MM_getTokens : MK m_MM_getTokens 6 := ⟨gt_at 799 (by decide +kernel) (by decide +kernel), w_49, by decide +kernel, by decide +kernel, by decide⟩
theorem y_MM_getTokens : plainName m_MM_getTokens.1.cls = true := by decide +kernel
theorem i_MM_getTokens : Cond.instanceMethod m_MM_getTokens.1 ∈ GT := gt_at 798 (by decide +kernel) (by decide +kernel)
theorem s_MM_getTokens : Cond.selects m_MM_getTokens.1.cls m_MM_getTokens.1 m_MM_getTokens.1 ∈ GT := gt_at 31 (by decide +kernel) (by decide +kernel)
def m_MM_deliver : MM := (⟨"TokenMeshModel", "deliver", "(I)I"⟩, prog_9_method_23_code, 11, (some .int))
theorem k_MM_deliver : MK m_MM_deliver 1 := ⟨gt_at 791 (by decide +kernel) (by decide +kernel), w_49, by decide +kernel, by decide +kernel, by decide⟩
theorem y_MM_deliver : plainName m_MM_deliver.1.cls = true := by decide +kernel
theorem i_MM_deliver : Cond.instanceMethod m_MM_deliver.1 ∈ GT := gt_at 789 (by decide +kernel) (by decide +kernel)
theorem s_MM_deliver : Cond.selects m_MM_deliver.1.cls m_MM_deliver.1 m_MM_deliver.1 ∈ GT := gt_at 790 (by decide +kernel) (by decide +kernel)
def m_MM_evict : MM := (⟨"TokenMeshModel", "evict", "(II)Z"⟩, prog_9_method_24_code, 3, (some .boolean))
theorem k_MM_evict : MK m_MM_evict 2 := ⟨gt_at 827 (by decide +kernel) (by decide +kernel), w_49, by decide +kernel, by decide +kernel, by decide⟩
theorem y_MM_evict : plainName m_MM_evict.1.cls = true := by decide +kernel
theorem i_MM_evict : Cond.instanceMethod m_MM_evict.1 ∈ GT := gt_at 825 (by decide +kernel) (by decide +kernel)
theorem s_MM_evict : Cond.selects m_MM_evict.1.cls m_MM_evict.1 m_MM_evict.1 ∈ GT := gt_at 826 (by decide +kernel) (by decide +kernel)
def m_MM_letters : MM := (⟨"TokenMeshModel", "letters", "()I"⟩, prog_9_method_25_code, 1, (some .int))
theorem k_MM_letters : MK m_MM_letters 0 := ⟨gt_at 831 (by decide +kernel) (by decide +kernel), w_49, by decide +kernel, by decide +kernel, by decide⟩
theorem y_MM_letters : plainName m_MM_letters.1.cls = true := by decide +kernel
theorem i_MM_letters : Cond.instanceMethod m_MM_letters.1 ∈ GT := gt_at 829 (by decide +kernel) (by decide +kernel)
theorem s_MM_letters : Cond.selects m_MM_letters.1.cls m_MM_letters.1 m_MM_letters.1 ∈ GT := gt_at 830 (by decide +kernel) (by decide +kernel)
def m_MM_letter : MM := (⟨"TokenMeshModel", "letter", "(I)I"⟩, prog_9_method_26_code, 3, (some .int))
theorem k_MM_letter : MK m_MM_letter 1 := ⟨gt_at 835 (by decide +kernel) (by decide +kernel), w_49, by decide +kernel, by decide +kernel, by decide⟩
theorem y_MM_letter : plainName m_MM_letter.1.cls = true := by decide +kernel
theorem i_MM_letter : Cond.instanceMethod m_MM_letter.1 ∈ GT := gt_at 833 (by decide +kernel) (by decide +kernel)
theorem s_MM_letter : Cond.selects m_MM_letter.1.cls m_MM_letter.1 m_MM_letter.1 ∈ GT := gt_at 834 (by decide +kernel) (by decide +kernel)
def m_MM_tokens : MM := (⟨"TokenMeshModel", "tokens", "(II)I"⟩, prog_9_method_27_code, 4, (some .int))
theorem k_MM_tokens : MK m_MM_tokens 2 := ⟨gt_at 839 (by decide +kernel) (by decide +kernel), w_49, by decide +kernel, by decide +kernel, by decide⟩
theorem y_MM_tokens : plainName m_MM_tokens.1.cls = true := by decide +kernel
theorem i_MM_tokens : Cond.instanceMethod m_MM_tokens.1 ∈ GT := gt_at 837 (by decide +kernel) (by decide +kernel)
theorem s_MM_tokens : Cond.selects m_MM_tokens.1.cls m_MM_tokens.1 m_MM_tokens.1 ∈ GT := gt_at 838 (by decide +kernel) (by decide +kernel)
def m_MM_data : MM := (⟨"TokenMeshModel", "data", "(II)I"⟩, prog_9_method_28_code, 3, (some .int))
theorem k_MM_data : MK m_MM_data 2 := ⟨gt_at 847 (by decide +kernel) (by decide +kernel), w_49, by decide +kernel, by decide +kernel, by decide⟩
theorem y_MM_data : plainName m_MM_data.1.cls = true := by decide +kernel
theorem i_MM_data : Cond.instanceMethod m_MM_data.1 ∈ GT := gt_at 845 (by decide +kernel) (by decide +kernel)
theorem s_MM_data : Cond.selects m_MM_data.1.cls m_MM_data.1 m_MM_data.1 ∈ GT := gt_at 846 (by decide +kernel) (by decide +kernel)
def m_MM_knows : MM := (⟨"TokenMeshModel", "knows", "(II)I"⟩, prog_9_method_29_code, 4, (some .int))
theorem k_MM_knows : MK m_MM_knows 2 := ⟨gt_at 851 (by decide +kernel) (by decide +kernel), w_49, by decide +kernel, by decide +kernel, by decide⟩
theorem y_MM_knows : plainName m_MM_knows.1.cls = true := by decide +kernel
theorem i_MM_knows : Cond.instanceMethod m_MM_knows.1 ∈ GT := gt_at 849 (by decide +kernel) (by decide +kernel)
theorem s_MM_knows : Cond.selects m_MM_knows.1.cls m_MM_knows.1 m_MM_knows.1 ∈ GT := gt_at 850 (by decide +kernel) (by decide +kernel)
def m_MM_row : MM := (⟨"TokenMeshModel", "row", "(I)I"⟩, prog_9_method_30_code, 2, (some .int))
theorem k_MM_row : MK m_MM_row 1 := ⟨gt_at 855 (by decide +kernel) (by decide +kernel), w_49, by decide +kernel, by decide +kernel, by decide⟩
theorem y_MM_row : plainName m_MM_row.1.cls = true := by decide +kernel
theorem i_MM_row : Cond.instanceMethod m_MM_row.1 ∈ GT := gt_at 853 (by decide +kernel) (by decide +kernel)
theorem s_MM_row : Cond.selects m_MM_row.1.cls m_MM_row.1 m_MM_row.1 ∈ GT := gt_at 854 (by decide +kernel) (by decide +kernel)
def m_MM_state : MM := (⟨"TokenMeshModel", "state", "(I)I"⟩, prog_9_method_31_code, 2, (some .int))
theorem k_MM_state : MK m_MM_state 1 := ⟨gt_at 859 (by decide +kernel) (by decide +kernel), w_49, by decide +kernel, by decide +kernel, by decide⟩
theorem y_MM_state : plainName m_MM_state.1.cls = true := by decide +kernel
theorem i_MM_state : Cond.instanceMethod m_MM_state.1 ∈ GT := gt_at 857 (by decide +kernel) (by decide +kernel)
theorem s_MM_state : Cond.selects m_MM_state.1.cls m_MM_state.1 m_MM_state.1 ∈ GT := gt_at 858 (by decide +kernel) (by decide +kernel)
def m_MM_ended : MM := (⟨"TokenMeshModel", "ended", "(I)I"⟩, prog_9_method_32_code, 2, (some .int))
theorem k_MM_ended : MK m_MM_ended 1 := ⟨gt_at 863 (by decide +kernel) (by decide +kernel), w_49, by decide +kernel, by decide +kernel, by decide⟩
theorem y_MM_ended : plainName m_MM_ended.1.cls = true := by decide +kernel
theorem i_MM_ended : Cond.instanceMethod m_MM_ended.1 ∈ GT := gt_at 861 (by decide +kernel) (by decide +kernel)
theorem s_MM_ended : Cond.selects m_MM_ended.1.cls m_MM_ended.1 m_MM_ended.1 ∈ GT := gt_at 862 (by decide +kernel) (by decide +kernel)
def m_MM_result : MM := (⟨"TokenMeshModel", "result", "(I)I"⟩, prog_9_method_33_code, 2, (some .int))
theorem k_MM_result : MK m_MM_result 1 := ⟨gt_at 867 (by decide +kernel) (by decide +kernel), w_49, by decide +kernel, by decide +kernel, by decide⟩
theorem y_MM_result : plainName m_MM_result.1.cls = true := by decide +kernel
theorem i_MM_result : Cond.instanceMethod m_MM_result.1 ∈ GT := gt_at 865 (by decide +kernel) (by decide +kernel)
theorem s_MM_result : Cond.selects m_MM_result.1.cls m_MM_result.1 m_MM_result.1 ∈ GT := gt_at 866 (by decide +kernel) (by decide +kernel)
def m_MM_memory : MM := (⟨"TokenMeshModel", "memory", "(I)I"⟩, prog_9_method_34_code, 4, (some .int))
theorem k_MM_memory : MK m_MM_memory 1 := ⟨gt_at 871 (by decide +kernel) (by decide +kernel), w_49, by decide +kernel, by decide +kernel, by decide⟩
theorem y_MM_memory : plainName m_MM_memory.1.cls = true := by decide +kernel
theorem i_MM_memory : Cond.instanceMethod m_MM_memory.1 ∈ GT := gt_at 869 (by decide +kernel) (by decide +kernel)
theorem s_MM_memory : Cond.selects m_MM_memory.1.cls m_MM_memory.1 m_MM_memory.1 ∈ GT := gt_at 870 (by decide +kernel) (by decide +kernel)
def m_Math_max : MM := (⟨"java/lang/Math", "max", "(II)I"⟩, prog_13_method_65_code, 2, (some .int))
theorem w_41 : Cond.initialized "java/lang/Math" ∈ GT := gt_at 41 (by decide +kernel) (by decide +kernel)
theorem k_Math_max : MK m_Math_max 2 := ⟨gt_at 73 (by decide +kernel) (by decide +kernel), w_41, by decide +kernel, by decide +kernel, by decide⟩
theorem t_Math_max : Cond.static m_Math_max.1 ∈ GT := gt_at 72 (by decide +kernel) (by decide +kernel)
def m_Math_min : MM := (⟨"java/lang/Math", "min", "(II)I"⟩, prog_13_method_69_code, 2, (some .int))
theorem k_Math_min : MK m_Math_min 2 := ⟨gt_at 70 (by decide +kernel) (by decide +kernel), w_41, by decide +kernel, by decide +kernel, by decide⟩
theorem t_Math_min : Cond.static m_Math_min.1 ∈ GT := gt_at 69 (by decide +kernel) (by decide +kernel)
def m_AC_init : MM := (⟨"java/util/AbstractCollection", "<init>", "()V"⟩, prog_15_method_1_code, 1, none)
theorem w_45 : Cond.initialized "java/util/AbstractCollection" ∈ GT := gt_at 45 (by decide +kernel) (by decide +kernel)
theorem k_AC_init : MK m_AC_init 0 := ⟨gt_at 173 (by decide +kernel) (by decide +kernel), w_45, by decide +kernel, by decide +kernel, by decide⟩
theorem y_AC_init : plainName m_AC_init.1.cls = true := by decide +kernel
theorem i_AC_init : Cond.instanceMethod m_AC_init.1 ∈ GT := gt_at 172 (by decide +kernel) (by decide +kernel)
def m_AbL_init : MM := (⟨"java/util/AbstractList", "<init>", "()V"⟩, prog_16_method_1_code, 1, none)
theorem w_46 : Cond.initialized "java/util/AbstractList" ∈ GT := gt_at 46 (by decide +kernel) (by decide +kernel)
theorem k_AbL_init : MK m_AbL_init 0 := ⟨gt_at 170 (by decide +kernel) (by decide +kernel), w_46, by decide +kernel, by decide +kernel, by decide⟩
theorem y_AbL_init : plainName m_AbL_init.1.cls = true := by decide +kernel
theorem i_AbL_init : Cond.instanceMethod m_AbL_init.1 ∈ GT := gt_at 169 (by decide +kernel) (by decide +kernel)
def m_AL_init : MM := (⟨"java/util/ArrayList", "<init>", "()V"⟩, prog_17_method_2_code, 1, none)
theorem w_47 : Cond.initialized "java/util/ArrayList" ∈ GT := gt_at 47 (by decide +kernel) (by decide +kernel)
theorem k_AL_init : MK m_AL_init 0 := ⟨gt_at 167 (by decide +kernel) (by decide +kernel), w_47, by decide +kernel, by decide +kernel, by decide⟩
theorem y_AL_init : plainName m_AL_init.1.cls = true := by decide +kernel
theorem i_AL_init : Cond.instanceMethod m_AL_init.1 ∈ GT := gt_at 166 (by decide +kernel) (by decide +kernel)
def m_AL_grow1 : MM := (⟨"java/util/ArrayList", "grow", "(I)[Ljava/lang/Object;"⟩, prog_17_method_6_code, 4, (some (.array (.object "java/lang/Object"))))
theorem k_AL_grow1 : MK m_AL_grow1 1 := ⟨gt_at 334 (by decide +kernel) (by decide +kernel), w_47, by decide +kernel, by decide +kernel, by decide⟩
theorem y_AL_grow1 : plainName m_AL_grow1.1.cls = true := by decide +kernel
theorem i_AL_grow1 : Cond.instanceMethod m_AL_grow1.1 ∈ GT := gt_at 333 (by decide +kernel) (by decide +kernel)
theorem s_AL_grow1 : Cond.selects m_AL_grow1.1.cls m_AL_grow1.1 m_AL_grow1.1 ∈ GT := gt_at 8 (by decide +kernel) (by decide +kernel)
def m_AL_grow0 : MM := (⟨"java/util/ArrayList", "grow", "()[Ljava/lang/Object;"⟩, prog_17_method_7_code, 1, (some (.array (.object "java/lang/Object"))))
theorem k_AL_grow0 : MK m_AL_grow0 0 := ⟨gt_at 330 (by decide +kernel) (by decide +kernel), w_47, by decide +kernel, by decide +kernel, by decide⟩
theorem y_AL_grow0 : plainName m_AL_grow0.1.cls = true := by decide +kernel
theorem i_AL_grow0 : Cond.instanceMethod m_AL_grow0.1 ∈ GT := gt_at 329 (by decide +kernel) (by decide +kernel)
theorem s_AL_grow0 : Cond.selects m_AL_grow0.1.cls m_AL_grow0.1 m_AL_grow0.1 ∈ GT := gt_at 7 (by decide +kernel) (by decide +kernel)
def m_AL_size : MM := (⟨"java/util/ArrayList", "size", "()I"⟩, prog_17_method_8_code, 1, (some .int))
theorem k_AL_size : MK m_AL_size 0 := ⟨gt_at 288 (by decide +kernel) (by decide +kernel), w_47, by decide +kernel, by decide +kernel, by decide⟩
theorem y_AL_size : plainName m_AL_size.1.cls = true := by decide +kernel
theorem i_AL_size : Cond.instanceMethod m_AL_size.1 ∈ GT := gt_at 286 (by decide +kernel) (by decide +kernel)
theorem s_AL_size : Cond.selects m_AL_size.1.cls m_AL_size.1 m_AL_size.1 ∈ GT := gt_at 287 (by decide +kernel) (by decide +kernel)
def m_AL_isEmpty : MM := (⟨"java/util/ArrayList", "isEmpty", "()Z"⟩, prog_17_method_9_code, 1, (some .boolean))
theorem k_AL_isEmpty : MK m_AL_isEmpty 0 := ⟨gt_at 372 (by decide +kernel) (by decide +kernel), w_47, by decide +kernel, by decide +kernel, by decide⟩
theorem y_AL_isEmpty : plainName m_AL_isEmpty.1.cls = true := by decide +kernel
theorem i_AL_isEmpty : Cond.instanceMethod m_AL_isEmpty.1 ∈ GT := gt_at 370 (by decide +kernel) (by decide +kernel)
theorem s_AL_isEmpty : Cond.selects m_AL_isEmpty.1.cls m_AL_isEmpty.1 m_AL_isEmpty.1 ∈ GT := gt_at 371 (by decide +kernel) (by decide +kernel)
def m_AL_elementData : MM := (⟨"java/util/ArrayList", "elementData", "(I)Ljava/lang/Object;"⟩, prog_17_method_18_code, 2, (some (.object "java/lang/Object")))
theorem k_AL_elementData : MK m_AL_elementData 1 := ⟨gt_at 302 (by decide +kernel) (by decide +kernel), w_47, by decide +kernel, by decide +kernel, by decide⟩
theorem y_AL_elementData : plainName m_AL_elementData.1.cls = true := by decide +kernel
theorem i_AL_elementData : Cond.instanceMethod m_AL_elementData.1 ∈ GT := gt_at 300 (by decide +kernel) (by decide +kernel)
theorem s_AL_elementData : Cond.selects m_AL_elementData.1.cls m_AL_elementData.1 m_AL_elementData.1 ∈ GT := gt_at 301 (by decide +kernel) (by decide +kernel)
def m_AL_get : MM := (⟨"java/util/ArrayList", "get", "(I)Ljava/lang/Object;"⟩, prog_17_method_20_code, 2, (some (.object "java/lang/Object")))
theorem k_AL_get : MK m_AL_get 1 := ⟨gt_at 292 (by decide +kernel) (by decide +kernel), w_47, by decide +kernel, by decide +kernel, by decide⟩
theorem y_AL_get : plainName m_AL_get.1.cls = true := by decide +kernel
theorem i_AL_get : Cond.instanceMethod m_AL_get.1 ∈ GT := gt_at 290 (by decide +kernel) (by decide +kernel)
theorem s_AL_get : Cond.selects m_AL_get.1.cls m_AL_get.1 m_AL_get.1 ∈ GT := gt_at 291 (by decide +kernel) (by decide +kernel)
def m_AL_add3 : MM := (⟨"java/util/ArrayList", "add", "(Ljava/lang/Object;[Ljava/lang/Object;I)V"⟩, prog_17_method_24_code, 4, none)
theorem k_AL_add3 : MK m_AL_add3 3 := ⟨gt_at 326 (by decide +kernel) (by decide +kernel), w_47, by decide +kernel, by decide +kernel, by decide⟩
theorem y_AL_add3 : plainName m_AL_add3.1.cls = true := by decide +kernel
theorem i_AL_add3 : Cond.instanceMethod m_AL_add3.1 ∈ GT := gt_at 325 (by decide +kernel) (by decide +kernel)
theorem s_AL_add3 : Cond.selects m_AL_add3.1.cls m_AL_add3.1 m_AL_add3.1 ∈ GT := gt_at 6 (by decide +kernel) (by decide +kernel)
def m_AL_add1 : MM := (⟨"java/util/ArrayList", "add", "(Ljava/lang/Object;)Z"⟩, prog_17_method_25_code, 2, (some .boolean))
theorem k_AL_add1 : MK m_AL_add1 1 := ⟨gt_at 322 (by decide +kernel) (by decide +kernel), w_47, by decide +kernel, by decide +kernel, by decide⟩
theorem y_AL_add1 : plainName m_AL_add1.1.cls = true := by decide +kernel
theorem i_AL_add1 : Cond.instanceMethod m_AL_add1.1 ∈ GT := gt_at 320 (by decide +kernel) (by decide +kernel)
theorem s_AL_add1 : Cond.selects m_AL_add1.1.cls m_AL_add1.1 m_AL_add1.1 ∈ GT := gt_at 321 (by decide +kernel) (by decide +kernel)
def m_AL_remove : MM := (⟨"java/util/ArrayList", "remove", "(I)Ljava/lang/Object;"⟩, prog_17_method_29_code, 4, (some (.object "java/lang/Object")))
theorem k_AL_remove : MK m_AL_remove 1 := ⟨gt_at 311 (by decide +kernel) (by decide +kernel), w_47, by decide +kernel, by decide +kernel, by decide⟩
theorem y_AL_remove : plainName m_AL_remove.1.cls = true := by decide +kernel
theorem i_AL_remove : Cond.instanceMethod m_AL_remove.1 ∈ GT := gt_at 309 (by decide +kernel) (by decide +kernel)
theorem s_AL_remove : Cond.selects m_AL_remove.1.cls m_AL_remove.1 m_AL_remove.1 ∈ GT := gt_at 310 (by decide +kernel) (by decide +kernel)
def m_AL_fastRemove : MM := (⟨"java/util/ArrayList", "fastRemove", "([Ljava/lang/Object;I)V"⟩, prog_17_method_39_code, 4, none)
theorem k_AL_fastRemove : MK m_AL_fastRemove 2 := ⟨gt_at 315 (by decide +kernel) (by decide +kernel), w_47, by decide +kernel, by decide +kernel, by decide⟩
theorem y_AL_fastRemove : plainName m_AL_fastRemove.1.cls = true := by decide +kernel
theorem i_AL_fastRemove : Cond.instanceMethod m_AL_fastRemove.1 ∈ GT := gt_at 314 (by decide +kernel) (by decide +kernel)
theorem s_AL_fastRemove : Cond.selects m_AL_fastRemove.1.cls m_AL_fastRemove.1 m_AL_fastRemove.1 ∈ GT := gt_at 5 (by decide +kernel) (by decide +kernel)
def m_Arrs_copyOf2 : MM := (⟨"java/util/Arrays", "copyOf", "([Ljava/lang/Object;I)[Ljava/lang/Object;"⟩, prog_18_method_119_code, 2, (some (.array (.object "java/lang/Object"))))
theorem w_54 : Cond.initialized "java/util/Arrays" ∈ GT := gt_at 54 (by decide +kernel) (by decide +kernel)
theorem k_Arrs_copyOf2 : MK m_Arrs_copyOf2 2 := ⟨gt_at 345 (by decide +kernel) (by decide +kernel), w_54, by decide +kernel, by decide +kernel, by decide⟩
theorem y_Arrs_copyOf2 : plainName m_Arrs_copyOf2.1.cls = true := by decide +kernel
theorem t_Arrs_copyOf2 : Cond.static m_Arrs_copyOf2.1 ∈ GT := gt_at 344 (by decide +kernel) (by decide +kernel)
def m_Arrs_copyOf3 : MM := (⟨"java/util/Arrays", "copyOf", "([Ljava/lang/Object;ILjava/lang/Class;)[Ljava/lang/Object;"⟩, prog_18_method_120_code, 4, (some (.array (.object "java/lang/Object"))))
theorem k_Arrs_copyOf3 : MK m_Arrs_copyOf3 3 := ⟨gt_at 361 (by decide +kernel) (by decide +kernel), w_54, by decide +kernel, by decide +kernel, by decide⟩
theorem y_Arrs_copyOf3 : plainName m_Arrs_copyOf3.1.cls = true := by decide +kernel
theorem t_Arrs_copyOf3 : Cond.static m_Arrs_copyOf3.1 ∈ GT := gt_at 360 (by decide +kernel) (by decide +kernel)
def m_Objs_checkIndex : MM := (⟨"java/util/Objects", "checkIndex", "(II)I"⟩, prog_21_method_17_code, 2, (some .int))
theorem w_50 : Cond.initialized "java/util/Objects" ∈ GT := gt_at 50 (by decide +kernel) (by decide +kernel)
theorem k_Objs_checkIndex : MK m_Objs_checkIndex 2 := ⟨gt_at 295 (by decide +kernel) (by decide +kernel), w_50, by decide +kernel, by decide +kernel, by decide⟩
theorem y_Objs_checkIndex : plainName m_Objs_checkIndex.1.cls = true := by decide +kernel
theorem t_Objs_checkIndex : Cond.static m_Objs_checkIndex.1 ∈ GT := gt_at 294 (by decide +kernel) (by decide +kernel)
def m_ASup_newLength : MM := (⟨"jdk/internal/util/ArraysSupport", "newLength", "(III)I"⟩, prog_24_method_27_code, 4, (some .int))
theorem w_53 : Cond.initialized "jdk/internal/util/ArraysSupport" ∈ GT := gt_at 53 (by decide +kernel) (by decide +kernel)
theorem k_ASup_newLength : MK m_ASup_newLength 3 := ⟨gt_at 337 (by decide +kernel) (by decide +kernel), w_53, by decide +kernel, by decide +kernel, by decide⟩
theorem y_ASup_newLength : plainName m_ASup_newLength.1.cls = true := by decide +kernel
theorem t_ASup_newLength : Cond.static m_ASup_newLength.1 ∈ GT := gt_at 336 (by decide +kernel) (by decide +kernel)
def m_ASup_hugeLength : MM := (⟨"jdk/internal/util/ArraysSupport", "hugeLength", "(II)I"⟩, prog_24_method_28_code, 3, (some .int))
theorem k_ASup_hugeLength : MK m_ASup_hugeLength 2 := ⟨gt_at 342 (by decide +kernel) (by decide +kernel), w_53, by decide +kernel, by decide +kernel, by decide⟩
theorem y_ASup_hugeLength : plainName m_ASup_hugeLength.1.cls = true := by decide +kernel
theorem t_ASup_hugeLength : Cond.static m_ASup_hugeLength.1 ∈ GT := gt_at 341 (by decide +kernel) (by decide +kernel)
def m_Pre_checkIndex : MM := (⟨"jdk/internal/util/Preconditions", "checkIndex", "(IILjava/util/function/BiFunction;)I"⟩, prog_25_method_11_code, 3, (some .int))
theorem w_51 : Cond.initialized "jdk/internal/util/Preconditions" ∈ GT := gt_at 51 (by decide +kernel) (by decide +kernel)
theorem k_Pre_checkIndex : MK m_Pre_checkIndex 3 := ⟨gt_at 298 (by decide +kernel) (by decide +kernel), w_51, by decide +kernel, by decide +kernel, by decide⟩
theorem y_Pre_checkIndex : plainName m_Pre_checkIndex.1.cls = true := by decide +kernel
theorem t_Pre_checkIndex : Cond.static m_Pre_checkIndex.1 ∈ GT := gt_at 297 (by decide +kernel) (by decide +kernel)
def m_Law_cell : MM := (⟨"TokenMeshLaw", "cell", "([II)I"⟩, method_2_code, 2, (some .int))
theorem w_39 : Cond.initialized "TokenMeshLaw" ∈ GT := gt_at 39 (by decide +kernel) (by decide +kernel)
theorem k_Law_cell : MK m_Law_cell 2 := ⟨gt_at 616 (by decide +kernel) (by decide +kernel), w_39, by decide +kernel, by decide +kernel, by decide⟩
theorem y_Law_cell : plainName m_Law_cell.1.cls = true := by decide +kernel
theorem t_Law_cell : Cond.static m_Law_cell.1 ∈ GT := gt_at 615 (by decide +kernel) (by decide +kernel)
def m_Law_law : MM := (⟨"TokenMeshLaw", "law", "([I)Z"⟩, code, 4, (some .boolean))
theorem y_Law_law : plainName m_Law_law.1.cls = true := by decide +kernel
/-! field sites and call sites: by the class that asks and its pool index -/
theorem w_52 : Cond.initialized "java/lang/System" ∈ GT := gt_at 52 (by decide +kernel) (by decide +kernel)
theorem l_Law_7 : Cond.classLink "TokenMeshLaw" 7 "TokenMesh" ∈ GT := gt_at 57 (by decide +kernel) (by decide +kernel)
theorem n_TM : Cond.instantiable "TokenMesh" 11 ∈ GT := gt_at 58 (by decide +kernel) (by decide +kernel)
theorem c_Law_15 : Cond.methodLink "TokenMeshLaw" 15 m_TM_init.1 ∈ GT := gt_at 59 (by decide +kernel) (by decide +kernel)
theorem c_TM_1 : Cond.methodLink "TokenMesh" 1 ⟨"java/lang/Object", "<init>", "()V"⟩ ∈ GT := gt_at 62 (by decide +kernel) (by decide +kernel)
theorem c_TM_7 : Cond.methodLink "TokenMesh" 7 m_TM_clamp.1 ∈ GT := gt_at 65 (by decide +kernel) (by decide +kernel)
theorem c_TM_213 : Cond.methodLink "TokenMesh" 213 m_Math_min.1 ∈ GT := gt_at 68 (by decide +kernel) (by decide +kernel)
theorem c_TM_219 : Cond.methodLink "TokenMesh" 219 m_Math_max.1 ∈ GT := gt_at 71 (by decide +kernel) (by decide +kernel)
theorem l_TM_29 : Cond.classLink "TokenMesh" 29 "TokenMesh$Share" ∈ GT := gt_at 74 (by decide +kernel) (by decide +kernel)
theorem a_Share : Cond.arrayOver (.object "TokenMesh$Share") ∈ NT := nt_at 75 (by decide +kernel) (by decide +kernel)
theorem n_Share : Cond.instantiable "TokenMesh$Share" 7 ∈ GT := gt_at 76 (by decide +kernel) (by decide +kernel)
theorem c_TM_35 : Cond.methodLinkNest "TokenMesh" 35 m_Share_init.1 "TokenMesh" ∈ NT := nt_at 77 (by decide +kernel) (by decide +kernel)
theorem c_Share_3 : Cond.methodLink "TokenMesh$Share" 3 ⟨"java/lang/Object", "<init>", "()V"⟩ ∈ GT := gt_at 80 (by decide +kernel) (by decide +kernel)
theorem f_TM_54 : FS "TokenMesh" 54 6 0 := ⟨_, "TokenMesh$Share", rfl, by decide, gt_at 81 (by decide +kernel) (by decide +kernel), Or.inl rfl⟩
theorem f_Share_15 : FS "TokenMesh$Share" 15 6 0 := ⟨_, "TokenMesh$Share", rfl, by decide, gt_at 82 (by decide +kernel) (by decide +kernel), Or.inl rfl⟩
theorem f_TM_57 : FS "TokenMesh" 57 6 1 := ⟨_, "TokenMesh$Share", rfl, by decide, gt_at 83 (by decide +kernel) (by decide +kernel), Or.inl rfl⟩
theorem f_Share_21 : FS "TokenMesh$Share" 21 6 1 := ⟨_, "TokenMesh$Share", rfl, by decide, gt_at 84 (by decide +kernel) (by decide +kernel), Or.inl rfl⟩
theorem f_TM_61 : FS "TokenMesh" 61 6 2 := ⟨_, "TokenMesh$Share", rfl, by decide, gt_at 85 (by decide +kernel) (by decide +kernel), Or.inl rfl⟩
theorem f_Share_29 : FS "TokenMesh$Share" 29 6 2 := ⟨_, "TokenMesh$Share", rfl, by decide, gt_at 86 (by decide +kernel) (by decide +kernel), Or.inl rfl⟩
theorem f_Share_35 : FS "TokenMesh$Share" 35 6 3 := ⟨_, "TokenMesh$Share", rfl, by decide, gt_at 87 (by decide +kernel) (by decide +kernel), Or.inl rfl⟩
theorem f_TM_183 : FS "TokenMesh" 183 6 3 := ⟨_, "TokenMesh$Share", rfl, by decide, gt_at 88 (by decide +kernel) (by decide +kernel), Or.inl rfl⟩
theorem f_Share_9 : FS "TokenMesh$Share" 9 6 4 := ⟨_, "TokenMesh$Share", rfl, by decide, gt_at 89 (by decide +kernel) (by decide +kernel), Or.inl rfl⟩
theorem f_TM_186 : FS "TokenMesh" 186 6 4 := ⟨_, "TokenMesh$Share", rfl, by decide, gt_at 90 (by decide +kernel) (by decide +kernel), Or.inl rfl⟩
theorem f_Share_36 : FS "TokenMesh$Share" 36 6 5 := ⟨_, "TokenMesh$Share", rfl, by decide, gt_at 91 (by decide +kernel) (by decide +kernel), Or.inl rfl⟩
theorem f_TM_189 : FS "TokenMesh" 189 6 5 := ⟨_, "TokenMesh$Share", rfl, by decide, gt_at 92 (by decide +kernel) (by decide +kernel), Or.inl rfl⟩
theorem f_Share_39 : FS "TokenMesh$Share" 39 6 6 := ⟨_, "TokenMesh$Share", rfl, by decide, gt_at 93 (by decide +kernel) (by decide +kernel), Or.inl rfl⟩
theorem f_TM_260 : FS "TokenMesh" 260 6 6 := ⟨_, "TokenMesh$Share", rfl, by decide, gt_at 94 (by decide +kernel) (by decide +kernel), Or.inl rfl⟩
theorem l_TM_36 : Cond.classLink "TokenMesh" 36 "TokenMesh$Core" ∈ GT := gt_at 110 (by decide +kernel) (by decide +kernel)
theorem a_Core : Cond.arrayOver (.object "TokenMesh$Core") ∈ NT := nt_at 111 (by decide +kernel) (by decide +kernel)
theorem n_Core : Cond.instantiable "TokenMesh$Core" 10 ∈ GT := gt_at 112 (by decide +kernel) (by decide +kernel)
theorem c_TM_42 : Cond.methodLinkNest "TokenMesh" 42 m_Core_init.1 "TokenMesh" ∈ NT := nt_at 113 (by decide +kernel) (by decide +kernel)
theorem c_Core_1 : Cond.methodLink "TokenMesh$Core" 1 ⟨"java/lang/Object", "<init>", "()V"⟩ ∈ GT := gt_at 116 (by decide +kernel) (by decide +kernel)
theorem f_Core_7 : FS "TokenMesh$Core" 7 1 0 := ⟨_, "TokenMesh$Core", rfl, by decide, gt_at 117 (by decide +kernel) (by decide +kernel), Or.inl rfl⟩
theorem f_TM_229 : FS "TokenMesh" 229 1 0 := ⟨_, "TokenMesh$Core", rfl, by decide, gt_at 118 (by decide +kernel) (by decide +kernel), Or.inl rfl⟩
theorem f_Core_13 : FS "TokenMesh$Core" 13 1 1 := ⟨_, "TokenMesh$Core", rfl, by decide, gt_at 119 (by decide +kernel) (by decide +kernel), Or.inl rfl⟩
theorem f_TM_78 : FS "TokenMesh" 78 1 1 := ⟨_, "TokenMesh$Core", rfl, by decide, gt_at 120 (by decide +kernel) (by decide +kernel), Or.inl rfl⟩
theorem f_Core_17 : FS "TokenMesh$Core" 17 1 2 := ⟨_, "TokenMesh$Core", rfl, by decide, gt_at 121 (by decide +kernel) (by decide +kernel), Or.inl rfl⟩
theorem f_TM_223 : FS "TokenMesh" 223 1 2 := ⟨_, "TokenMesh$Core", rfl, by decide, gt_at 122 (by decide +kernel) (by decide +kernel), Or.inl rfl⟩
theorem f_Core_20 : FS "TokenMesh$Core" 20 1 3 := ⟨_, "TokenMesh$Core", rfl, by decide, gt_at 123 (by decide +kernel) (by decide +kernel), Or.inl rfl⟩
theorem f_TM_222 : FS "TokenMesh" 222 1 3 := ⟨_, "TokenMesh$Core", rfl, by decide, gt_at 124 (by decide +kernel) (by decide +kernel), Or.inl rfl⟩
theorem f_Core_23 : FS "TokenMesh$Core" 23 1 4 := ⟨_, "TokenMesh$Core", rfl, by decide, gt_at 125 (by decide +kernel) (by decide +kernel), Or.inl rfl⟩
theorem f_TM_224 : FS "TokenMesh" 224 1 4 := ⟨_, "TokenMesh$Core", rfl, by decide, gt_at 126 (by decide +kernel) (by decide +kernel), Or.inl rfl⟩
theorem f_Core_26 : FS "TokenMesh$Core" 26 1 5 := ⟨_, "TokenMesh$Core", rfl, by decide, gt_at 127 (by decide +kernel) (by decide +kernel), Or.inl rfl⟩
theorem f_TM_199 : FS "TokenMesh" 199 1 5 := ⟨_, "TokenMesh$Core", rfl, by decide, gt_at 128 (by decide +kernel) (by decide +kernel), Or.inl rfl⟩
theorem f_TM_95 : FS "TokenMesh" 95 1 6 := ⟨_, "TokenMesh$Core", rfl, by decide, gt_at 129 (by decide +kernel) (by decide +kernel), Or.inl rfl⟩
theorem f_Core_32 : FS "TokenMesh$Core" 32 1 6 := ⟨_, "TokenMesh$Core", rfl, by decide, gt_at 130 (by decide +kernel) (by decide +kernel), Or.inl rfl⟩
theorem f_Core_29 : FS "TokenMesh$Core" 29 1 7 := ⟨_, "TokenMesh$Core", rfl, by decide, gt_at 131 (by decide +kernel) (by decide +kernel), Or.inl rfl⟩
theorem f_TM_202 : FS "TokenMesh" 202 1 7 := ⟨_, "TokenMesh$Core", rfl, by decide, gt_at 132 (by decide +kernel) (by decide +kernel), Or.inl rfl⟩
theorem f_TM_205 : FS "TokenMesh" 205 1 8 := ⟨_, "TokenMesh$Core", rfl, by decide, gt_at 133 (by decide +kernel) (by decide +kernel), Or.inl rfl⟩
theorem f_TM_208 : FS "TokenMesh" 208 1 9 := ⟨_, "TokenMesh$Core", rfl, by decide, gt_at 134 (by decide +kernel) (by decide +kernel), Or.inl rfl⟩
theorem l_TM_47 : Cond.classLink "TokenMesh" 47 "TokenMesh$Desk" ∈ GT := gt_at 156 (by decide +kernel) (by decide +kernel)
theorem a_Desk : Cond.arrayOver (.object "TokenMesh$Desk") ∈ NT := nt_at 157 (by decide +kernel) (by decide +kernel)
theorem n_Desk : Cond.instantiable "TokenMesh$Desk" 3 ∈ GT := gt_at 158 (by decide +kernel) (by decide +kernel)
theorem c_TM_53 : Cond.methodLinkNest "TokenMesh" 53 m_Desk_init.1 "TokenMesh" ∈ NT := nt_at 159 (by decide +kernel) (by decide +kernel)
theorem c_Desk_1 : Cond.methodLink "TokenMesh$Desk" 1 ⟨"java/lang/Object", "<init>", "()V"⟩ ∈ GT := gt_at 162 (by decide +kernel) (by decide +kernel)
theorem l_Desk_7 : Cond.classLink "TokenMesh$Desk" 7 "java/util/ArrayList" ∈ GT := gt_at 163 (by decide +kernel) (by decide +kernel)
theorem n_AL : Cond.instantiable "java/util/ArrayList" 3 ∈ GT := gt_at 164 (by decide +kernel) (by decide +kernel)
theorem c_Desk_9 : Cond.methodLink "TokenMesh$Desk" 9 m_AL_init.1 ∈ GT := gt_at 165 (by decide +kernel) (by decide +kernel)
theorem c_AL_1 : Cond.methodLink "java/util/ArrayList" 1 m_AbL_init.1 ∈ GT := gt_at 168 (by decide +kernel) (by decide +kernel)
theorem c_AbL_1 : Cond.methodLink "java/util/AbstractList" 1 m_AC_init.1 ∈ GT := gt_at 171 (by decide +kernel) (by decide +kernel)
theorem c_AC_1 : Cond.methodLink "java/util/AbstractCollection" 1 ⟨"java/lang/Object", "<init>", "()V"⟩ ∈ GT := gt_at 174 (by decide +kernel) (by decide +kernel)
theorem w_175 : Cond.fieldLink "java/util/ArrayList" 39 "java/util/ArrayList" "DEFAULTCAPACITY_EMPTY_ELEMENTDATA" "[Ljava/lang/Object;" ∈ GT := gt_at 175 (by decide +kernel) (by decide +kernel)
theorem f_AL_9 : FS "java/util/ArrayList" 9 0 1 := ⟨_, "java/util/ArrayList", rfl, by decide, gt_at 177 (by decide +kernel) (by decide +kernel), Or.inl rfl⟩
theorem f_AL_48 : FS "java/util/ArrayList" 48 0 2 := ⟨_, "java/util/ArrayList", rfl, by decide, gt_at 178 (by decide +kernel) (by decide +kernel), Or.inl rfl⟩
theorem f_AbL_7 : FS "java/util/AbstractList" 7 0 0 := ⟨_, "java/util/AbstractList", rfl, by decide, gt_at 179 (by decide +kernel) (by decide +kernel), Or.inl rfl⟩
theorem f_AL_63 : FS "java/util/ArrayList" 63 0 0 := ⟨_, "java/util/ArrayList", rfl, by decide, gt_at 180 (by decide +kernel) (by decide +kernel), Or.inr (gt_at 181 (by decide +kernel) (by decide +kernel))⟩
theorem a_int : Cond.arrayClass .int ∈ GT := gt_at 189 (by decide +kernel) (by decide +kernel)
theorem f_Desk_10 : FS "TokenMesh$Desk" 10 2 0 := ⟨_, "TokenMesh$Desk", rfl, by decide, gt_at 190 (by decide +kernel) (by decide +kernel), Or.inl rfl⟩
theorem f_TM_192 : FS "TokenMesh" 192 2 0 := ⟨_, "TokenMesh$Desk", rfl, by decide, gt_at 191 (by decide +kernel) (by decide +kernel), Or.inl rfl⟩
theorem f_TM_253 : FS "TokenMesh" 253 2 1 := ⟨_, "TokenMesh$Desk", rfl, by decide, gt_at 192 (by decide +kernel) (by decide +kernel), Or.inl rfl⟩
theorem f_TM_286 : FS "TokenMesh" 286 2 2 := ⟨_, "TokenMesh$Desk", rfl, by decide, gt_at 193 (by decide +kernel) (by decide +kernel), Or.inl rfl⟩
theorem l_TM_64 : Cond.classLink "TokenMesh" 64 "TokenMesh$Mail" ∈ GT := gt_at 201 (by decide +kernel) (by decide +kernel)
theorem n_Mail : Cond.instantiable "TokenMesh$Mail" 2 ∈ GT := gt_at 202 (by decide +kernel) (by decide +kernel)
theorem c_TM_66 : Cond.methodLinkNest "TokenMesh" 66 m_Mail_init.1 "TokenMesh" ∈ NT := nt_at 203 (by decide +kernel) (by decide +kernel)
theorem c_Mail_3 : Cond.methodLink "TokenMesh$Mail" 3 ⟨"java/lang/Object", "<init>", "()V"⟩ ∈ GT := gt_at 206 (by decide +kernel) (by decide +kernel)
theorem l_Mail_9 : Cond.classLink "TokenMesh$Mail" 9 "java/util/ArrayList" ∈ GT := gt_at 207 (by decide +kernel) (by decide +kernel)
theorem c_Mail_11 : Cond.methodLink "TokenMesh$Mail" 11 m_AL_init.1 ∈ GT := gt_at 208 (by decide +kernel) (by decide +kernel)
theorem f_Mail_12 : FS "TokenMesh$Mail" 12 4 0 := ⟨_, "TokenMesh$Mail", rfl, by decide, gt_at 209 (by decide +kernel) (by decide +kernel), Or.inl rfl⟩
theorem f_Mail_18 : FS "TokenMesh$Mail" 18 4 1 := ⟨_, "TokenMesh$Mail", rfl, by decide, gt_at 210 (by decide +kernel) (by decide +kernel), Or.inl rfl⟩
theorem f_TM_13 : FS "TokenMesh" 13 7 0 := ⟨_, "TokenMesh", rfl, by decide, gt_at 216 (by decide +kernel) (by decide +kernel), Or.inl rfl⟩
theorem f_TM_23 : FS "TokenMesh" 23 7 1 := ⟨_, "TokenMesh", rfl, by decide, gt_at 217 (by decide +kernel) (by decide +kernel), Or.inl rfl⟩
theorem f_TM_26 : FS "TokenMesh" 26 7 2 := ⟨_, "TokenMesh", rfl, by decide, gt_at 218 (by decide +kernel) (by decide +kernel), Or.inl rfl⟩
theorem f_TM_17 : FS "TokenMesh" 17 7 3 := ⟨_, "TokenMesh", rfl, by decide, gt_at 219 (by decide +kernel) (by decide +kernel), Or.inl rfl⟩
theorem f_TM_20 : FS "TokenMesh" 20 7 4 := ⟨_, "TokenMesh", rfl, by decide, gt_at 220 (by decide +kernel) (by decide +kernel), Or.inl rfl⟩
theorem f_TM_31 : FS "TokenMesh" 31 7 5 := ⟨_, "TokenMesh", rfl, by decide, gt_at 221 (by decide +kernel) (by decide +kernel), Or.inl rfl⟩
theorem f_TM_38 : FS "TokenMesh" 38 7 6 := ⟨_, "TokenMesh", rfl, by decide, gt_at 222 (by decide +kernel) (by decide +kernel), Or.inl rfl⟩
theorem f_TM_49 : FS "TokenMesh" 49 7 7 := ⟨_, "TokenMesh", rfl, by decide, gt_at 223 (by decide +kernel) (by decide +kernel), Or.inl rfl⟩
theorem f_TM_43 : FS "TokenMesh" 43 7 8 := ⟨_, "TokenMesh", rfl, by decide, gt_at 224 (by decide +kernel) (by decide +kernel), Or.inl rfl⟩
theorem f_TM_67 : FS "TokenMesh" 67 7 9 := ⟨_, "TokenMesh", rfl, by decide, gt_at 225 (by decide +kernel) (by decide +kernel), Or.inl rfl⟩
theorem f_TM_92 : FS "TokenMesh" 92 7 10 := ⟨_, "TokenMesh", rfl, by decide, gt_at 226 (by decide +kernel) (by decide +kernel), Or.inl rfl⟩
theorem c_Law_21 : Cond.methodLink "TokenMeshLaw" 21 m_TM_issue.1 ∈ GT := gt_at 250 (by decide +kernel) (by decide +kernel)
theorem c_TM_71 : Cond.methodLink "TokenMesh" 71 m_TM_isCore.1 ∈ GT := gt_at 254 (by decide +kernel) (by decide +kernel)
theorem c_TM_75 : Cond.methodLink "TokenMesh" 75 m_TM_isBlock.1 ∈ GT := gt_at 258 (by decide +kernel) (by decide +kernel)
theorem c_TM_81 : Cond.methodLink "TokenMesh" 81 m_Core_begin.1 ∈ GT := gt_at 261 (by decide +kernel) (by decide +kernel)
theorem c_TM_85 : Cond.methodLink "TokenMesh" 85 m_TM_canEnd.1 ∈ GT := gt_at 265 (by decide +kernel) (by decide +kernel)
theorem c_TM_159 : Cond.methodLink "TokenMesh" 159 m_TM_share.1 ∈ GT := gt_at 269 (by decide +kernel) (by decide +kernel)
theorem c_TM_88 : Cond.methodLink "TokenMesh" 88 m_TM_endd.1 ∈ GT := gt_at 273 (by decide +kernel) (by decide +kernel)
theorem c_TM_225 : Cond.methodLink "TokenMesh" 225 m_Mail_send.1 ∈ GT := gt_at 277 (by decide +kernel) (by decide +kernel)
theorem c_Mail_38 : Cond.methodLink "TokenMesh$Mail" 38 m_Mail_dropOlder.1 ∈ GT := gt_at 281 (by decide +kernel) (by decide +kernel)
theorem c_Mail_21 : Cond.methodLink "TokenMesh$Mail" 21 m_AL_size.1 ∈ GT := gt_at 285 (by decide +kernel) (by decide +kernel)
theorem c_Mail_25 : Cond.methodLink "TokenMesh$Mail" 25 m_AL_get.1 ∈ GT := gt_at 289 (by decide +kernel) (by decide +kernel)
theorem c_AL_118 : Cond.methodLink "java/util/ArrayList" 118 m_Objs_checkIndex.1 ∈ GT := gt_at 293 (by decide +kernel) (by decide +kernel)
theorem c_Objs_105 : Cond.methodLink "java/util/Objects" 105 m_Pre_checkIndex.1 ∈ GT := gt_at 296 (by decide +kernel) (by decide +kernel)
theorem c_AL_123 : Cond.methodLink "java/util/ArrayList" 123 m_AL_elementData.1 ∈ GT := gt_at 299 (by decide +kernel) (by decide +kernel)
theorem l_Mail_29 : Cond.classLink "TokenMesh$Mail" 29 "TokenMesh$Letter" ∈ GT := gt_at 303 (by decide +kernel) (by decide +kernel)
theorem c_Mail_50 : Cond.methodLink "TokenMesh$Mail" 50 m_Letter_yieldsTo.1 ∈ GT := gt_at 304 (by decide +kernel) (by decide +kernel)
theorem c_Mail_31 : Cond.methodLink "TokenMesh$Mail" 31 m_AL_remove.1 ∈ GT := gt_at 308 (by decide +kernel) (by decide +kernel)
theorem c_AL_144 : Cond.methodLink "java/util/ArrayList" 144 m_AL_fastRemove.1 ∈ GT := gt_at 312 (by decide +kernel) (by decide +kernel)
theorem c_AL_112 : Cond.methodLink "java/util/ArrayList" 112 ⟨"java/lang/System", "arraycopy", "(Ljava/lang/Object;ILjava/lang/Object;II)V"⟩ ∈ GT := gt_at 316 (by decide +kernel) (by decide +kernel)
theorem v_arraycopy : Cond.native arraycopyName ∈ GT := gt_at 318 (by decide +kernel) (by decide +kernel)
theorem c_Mail_34 : Cond.methodLink "TokenMesh$Mail" 34 m_AL_add1.1 ∈ GT := gt_at 319 (by decide +kernel) (by decide +kernel)
theorem c_AL_131 : Cond.methodLink "java/util/ArrayList" 131 m_AL_add3.1 ∈ GT := gt_at 323 (by decide +kernel) (by decide +kernel)
theorem c_AL_129 : Cond.methodLink "java/util/ArrayList" 129 m_AL_grow0.1 ∈ GT := gt_at 327 (by decide +kernel) (by decide +kernel)
theorem c_AL_69 : Cond.methodLink "java/util/ArrayList" 69 m_AL_grow1.1 ∈ GT := gt_at 331 (by decide +kernel) (by decide +kernel)
theorem c_AL_73 : Cond.methodLink "java/util/ArrayList" 73 m_ASup_newLength.1 ∈ GT := gt_at 335 (by decide +kernel) (by decide +kernel)
theorem c_ASup_194 : Cond.methodLink "jdk/internal/util/ArraysSupport" 194 m_Math_max.1 ∈ GT := gt_at 338 (by decide +kernel) (by decide +kernel)
theorem u_ASup_200 : Cond.constant "jdk/internal/util/ArraysSupport" 200 2147483639 ∈ GT := gt_at 339 (by decide +kernel) (by decide +kernel)
theorem c_ASup_201 : Cond.methodLink "jdk/internal/util/ArraysSupport" 201 m_ASup_hugeLength.1 ∈ GT := gt_at 340 (by decide +kernel) (by decide +kernel)
theorem c_AL_66 : Cond.methodLink "java/util/ArrayList" 66 m_Arrs_copyOf2.1 ∈ GT := gt_at 343 (by decide +kernel) (by decide +kernel)
theorem c_Arrs_86 : Cond.methodLink "java/util/Arrays" 86 ⟨"java/lang/Object", "getClass", "()Ljava/lang/Class;"⟩ ∈ GT := gt_at 346 (by decide +kernel) (by decide +kernel)
theorem v_getClass : Cond.native gcN ∈ GT := gt_at 358 (by decide +kernel) (by decide +kernel)
theorem c_Arrs_300 : Cond.methodLink "java/util/Arrays" 300 m_Arrs_copyOf3.1 ∈ GT := gt_at 359 (by decide +kernel) (by decide +kernel)
theorem l_Arrs_110 : Cond.classLink "java/util/Arrays" 110 "[Ljava/lang/Object;" ∈ GT := gt_at 362 (by decide +kernel) (by decide +kernel)
theorem a_Obj : Cond.arrayOver (.object "java/lang/Object") ∈ NT := nt_at 363 (by decide +kernel) (by decide +kernel)
theorem l_Arrs_2 : Cond.classLink "java/util/Arrays" 2 "java/lang/Object" ∈ GT := gt_at 364 (by decide +kernel) (by decide +kernel)
theorem c_Arrs_304 : Cond.methodLink "java/util/Arrays" 304 m_Math_min.1 ∈ GT := gt_at 365 (by decide +kernel) (by decide +kernel)
theorem c_Arrs_150 : Cond.methodLink "java/util/Arrays" 150 ⟨"java/lang/System", "arraycopy", "(Ljava/lang/Object;ILjava/lang/Object;II)V"⟩ ∈ GT := gt_at 366 (by decide +kernel) (by decide +kernel)
theorem c_AL_79 : Cond.methodLink "java/util/ArrayList" 79 m_Math_max.1 ∈ GT := gt_at 367 (by decide +kernel) (by decide +kernel)
theorem l_AL_7 : Cond.classLink "java/util/ArrayList" 7 "java/lang/Object" ∈ GT := gt_at 368 (by decide +kernel) (by decide +kernel)
theorem c_Mail_42 : Cond.methodLink "TokenMesh$Mail" 42 m_AL_isEmpty.1 ∈ GT := gt_at 369 (by decide +kernel) (by decide +kernel)
theorem n_Letter : Cond.instantiable "TokenMesh$Letter" 11 ∈ GT := gt_at 373 (by decide +kernel) (by decide +kernel)
theorem c_Mail_46 : Cond.methodLinkNest "TokenMesh$Mail" 46 m_Letter_init.1 "TokenMesh" ∈ NT := nt_at 374 (by decide +kernel) (by decide +kernel)
theorem c_Letter_3 : Cond.methodLink "TokenMesh$Letter" 3 ⟨"java/lang/Object", "<init>", "()V"⟩ ∈ GT := gt_at 377 (by decide +kernel) (by decide +kernel)
theorem f_Letter_9 : FS "TokenMesh$Letter" 9 3 0 := ⟨_, "TokenMesh$Letter", rfl, by decide, gt_at 378 (by decide +kernel) (by decide +kernel), Or.inl rfl⟩
theorem f_TM_114 : FS "TokenMesh" 114 3 0 := ⟨_, "TokenMesh$Letter", rfl, by decide, gt_at 379 (by decide +kernel) (by decide +kernel), Or.inl rfl⟩
theorem f_Letter_15 : FS "TokenMesh$Letter" 15 3 1 := ⟨_, "TokenMesh$Letter", rfl, by decide, gt_at 380 (by decide +kernel) (by decide +kernel), Or.inl rfl⟩
theorem f_TM_125 : FS "TokenMesh" 125 3 1 := ⟨_, "TokenMesh$Letter", rfl, by decide, gt_at 381 (by decide +kernel) (by decide +kernel), Or.inl rfl⟩
theorem f_Letter_18 : FS "TokenMesh$Letter" 18 3 2 := ⟨_, "TokenMesh$Letter", rfl, by decide, gt_at 382 (by decide +kernel) (by decide +kernel), Or.inl rfl⟩
theorem f_TM_119 : FS "TokenMesh" 119 3 2 := ⟨_, "TokenMesh$Letter", rfl, by decide, gt_at 383 (by decide +kernel) (by decide +kernel), Or.inl rfl⟩
theorem f_Letter_21 : FS "TokenMesh$Letter" 21 3 3 := ⟨_, "TokenMesh$Letter", rfl, by decide, gt_at 384 (by decide +kernel) (by decide +kernel), Or.inl rfl⟩
theorem f_TM_122 : FS "TokenMesh" 122 3 3 := ⟨_, "TokenMesh$Letter", rfl, by decide, gt_at 385 (by decide +kernel) (by decide +kernel), Or.inl rfl⟩
theorem f_Share_18 : FS "TokenMesh$Share" 18 3 4 := ⟨_, "TokenMesh$Letter", rfl, by decide, gt_at 386 (by decide +kernel) (by decide +kernel), Or.inl rfl⟩
theorem f_Letter_24 : FS "TokenMesh$Letter" 24 3 4 := ⟨_, "TokenMesh$Letter", rfl, by decide, gt_at 387 (by decide +kernel) (by decide +kernel), Or.inl rfl⟩
theorem f_TM_230 : FS "TokenMesh" 230 3 4 := ⟨_, "TokenMesh$Letter", rfl, by decide, gt_at 388 (by decide +kernel) (by decide +kernel), Or.inl rfl⟩
theorem f_Share_25 : FS "TokenMesh$Share" 25 3 5 := ⟨_, "TokenMesh$Letter", rfl, by decide, gt_at 389 (by decide +kernel) (by decide +kernel), Or.inl rfl⟩
theorem f_Letter_27 : FS "TokenMesh$Letter" 27 3 5 := ⟨_, "TokenMesh$Letter", rfl, by decide, gt_at 390 (by decide +kernel) (by decide +kernel), Or.inl rfl⟩
theorem f_TM_211 : FS "TokenMesh" 211 3 5 := ⟨_, "TokenMesh$Letter", rfl, by decide, gt_at 391 (by decide +kernel) (by decide +kernel), Or.inl rfl⟩
theorem f_Letter_31 : FS "TokenMesh$Letter" 31 3 6 := ⟨_, "TokenMesh$Letter", rfl, by decide, gt_at 392 (by decide +kernel) (by decide +kernel), Or.inl rfl⟩
theorem f_Share_26 : FS "TokenMesh$Share" 26 3 6 := ⟨_, "TokenMesh$Letter", rfl, by decide, gt_at 393 (by decide +kernel) (by decide +kernel), Or.inl rfl⟩
theorem f_TM_231 : FS "TokenMesh" 231 3 6 := ⟨_, "TokenMesh$Letter", rfl, by decide, gt_at 394 (by decide +kernel) (by decide +kernel), Or.inl rfl⟩
theorem f_Letter_34 : FS "TokenMesh$Letter" 34 3 7 := ⟨_, "TokenMesh$Letter", rfl, by decide, gt_at 395 (by decide +kernel) (by decide +kernel), Or.inl rfl⟩
theorem f_Share_32 : FS "TokenMesh$Share" 32 3 7 := ⟨_, "TokenMesh$Letter", rfl, by decide, gt_at 396 (by decide +kernel) (by decide +kernel), Or.inl rfl⟩
theorem f_TM_212 : FS "TokenMesh" 212 3 7 := ⟨_, "TokenMesh$Letter", rfl, by decide, gt_at 397 (by decide +kernel) (by decide +kernel), Or.inl rfl⟩
theorem f_Letter_37 : FS "TokenMesh$Letter" 37 3 8 := ⟨_, "TokenMesh$Letter", rfl, by decide, gt_at 398 (by decide +kernel) (by decide +kernel), Or.inl rfl⟩
theorem f_TM_139 : FS "TokenMesh" 139 3 8 := ⟨_, "TokenMesh$Letter", rfl, by decide, gt_at 399 (by decide +kernel) (by decide +kernel), Or.inl rfl⟩
theorem f_Letter_40 : FS "TokenMesh$Letter" 40 3 9 := ⟨_, "TokenMesh$Letter", rfl, by decide, gt_at 400 (by decide +kernel) (by decide +kernel), Or.inl rfl⟩
theorem f_TM_263 : FS "TokenMesh" 263 3 9 := ⟨_, "TokenMesh$Letter", rfl, by decide, gt_at 401 (by decide +kernel) (by decide +kernel), Or.inl rfl⟩
theorem f_Letter_43 : FS "TokenMesh$Letter" 43 3 10 := ⟨_, "TokenMesh$Letter", rfl, by decide, gt_at 402 (by decide +kernel) (by decide +kernel), Or.inl rfl⟩
theorem f_TM_142 : FS "TokenMesh" 142 3 10 := ⟨_, "TokenMesh$Letter", rfl, by decide, gt_at 403 (by decide +kernel) (by decide +kernel), Or.inl rfl⟩
theorem c_Mail_47 : Cond.methodLink "TokenMesh$Mail" 47 m_Letter_address.1 ∈ GT := gt_at 427 (by decide +kernel) (by decide +kernel)
theorem c_TM_98 : Cond.methodLink "TokenMesh" 98 m_TM_ask.1 ∈ GT := gt_at 431 (by decide +kernel) (by decide +kernel)
theorem c_Law_26 : Cond.methodLink "TokenMeshLaw" 26 m_TM_tick.1 ∈ GT := gt_at 435 (by decide +kernel) (by decide +kernel)
theorem c_TM_101 : Cond.methodLink "TokenMesh" 101 m_Core_isDue.1 ∈ GT := gt_at 439 (by decide +kernel) (by decide +kernel)
theorem c_TM_104 : Cond.methodLink "TokenMesh" 104 m_TM_askAgain.1 ∈ GT := gt_at 443 (by decide +kernel) (by decide +kernel)
theorem c_Law_31 : Cond.methodLink "TokenMeshLaw" 31 m_TM_deliver.1 ∈ GT := gt_at 447 (by decide +kernel) (by decide +kernel)
theorem c_TM_107 : Cond.methodLink "TokenMesh" 107 m_Mail_has.1 ∈ GT := gt_at 451 (by decide +kernel) (by decide +kernel)
theorem c_TM_110 : Cond.methodLink "TokenMesh" 110 m_Mail_take.1 ∈ GT := gt_at 455 (by decide +kernel) (by decide +kernel)
theorem c_TM_128 : Cond.methodLink "TokenMesh" 128 m_TM_onRead.1 ∈ GT := gt_at 459 (by decide +kernel) (by decide +kernel)
theorem c_TM_166 : Cond.methodLink "TokenMesh" 166 m_TM_give.1 ∈ GT := gt_at 463 (by decide +kernel) (by decide +kernel)
theorem c_TM_234 : Cond.methodLink "TokenMesh" 234 m_Share_lose.1 ∈ GT := gt_at 467 (by decide +kernel) (by decide +kernel)
theorem c_TM_132 : Cond.methodLink "TokenMesh" 132 m_TM_onWrite.1 ∈ GT := gt_at 471 (by decide +kernel) (by decide +kernel)
theorem c_TM_135 : Cond.methodLink "TokenMesh" 135 m_TM_onTokens.1 ∈ GT := gt_at 475 (by decide +kernel) (by decide +kernel)
theorem c_TM_238 : Cond.methodLink "TokenMesh" 238 m_Share_gain.1 ∈ GT := gt_at 479 (by decide +kernel) (by decide +kernel)
theorem c_TM_241 : Cond.methodLink "TokenMesh" 241 m_TM_giveWay.1 ∈ GT := gt_at 483 (by decide +kernel) (by decide +kernel)
theorem c_TM_163 : Cond.methodLink "TokenMesh" 163 m_Core_isBusyWith.1 ∈ GT := gt_at 487 (by decide +kernel) (by decide +kernel)
theorem c_TM_145 : Cond.methodLink "TokenMesh" 145 m_TM_onPlease.1 ∈ GT := gt_at 491 (by decide +kernel) (by decide +kernel)
theorem c_TM_152 : Cond.methodLink "TokenMesh" 152 m_TM_lapse.1 ∈ GT := gt_at 495 (by decide +kernel) (by decide +kernel)
theorem c_TM_268 : Cond.methodLink "TokenMesh" 268 m_Desk_strike.1 ∈ GT := gt_at 499 (by decide +kernel) (by decide +kernel)
theorem c_Desk_16 : Cond.methodLink "TokenMesh$Desk" 16 m_AL_size.1 ∈ GT := gt_at 503 (by decide +kernel) (by decide +kernel)
theorem c_Desk_20 : Cond.methodLink "TokenMesh$Desk" 20 m_AL_get.1 ∈ GT := gt_at 504 (by decide +kernel) (by decide +kernel)
theorem l_Desk_24 : Cond.classLink "TokenMesh$Desk" 24 "TokenMesh$Request" ∈ GT := gt_at 505 (by decide +kernel) (by decide +kernel)
theorem c_Desk_26 : Cond.methodLink "TokenMesh$Desk" 26 m_Req_isOf.1 ∈ GT := gt_at 506 (by decide +kernel) (by decide +kernel)
theorem c_Desk_30 : Cond.methodLink "TokenMesh$Desk" 30 m_AL_remove.1 ∈ GT := gt_at 510 (by decide +kernel) (by decide +kernel)
theorem c_TM_271 : Cond.methodLink "TokenMesh" 271 m_Req_isOf.1 ∈ GT := gt_at 511 (by decide +kernel) (by decide +kernel)
theorem c_TM_275 : Cond.methodLink "TokenMesh" 275 m_TM_tellActive.1 ∈ GT := gt_at 512 (by decide +kernel) (by decide +kernel)
theorem c_TM_264 : Cond.methodLink "TokenMesh" 264 m_Share_learn.1 ∈ GT := gt_at 516 (by decide +kernel) (by decide +kernel)
theorem c_TM_257 : Cond.methodLink "TokenMesh" 257 m_TM_activateFirst.1 ∈ GT := gt_at 520 (by decide +kernel) (by decide +kernel)
theorem c_TM_278 : Cond.methodLink "TokenMesh" 278 m_AL_isEmpty.1 ∈ GT := gt_at 524 (by decide +kernel) (by decide +kernel)
theorem c_TM_282 : Cond.methodLink "TokenMesh" 282 m_AL_remove.1 ∈ GT := gt_at 525 (by decide +kernel) (by decide +kernel)
theorem l_TM_244 : Cond.classLink "TokenMesh" 244 "TokenMesh$Request" ∈ GT := gt_at 526 (by decide +kernel) (by decide +kernel)
theorem n_Req : Cond.instantiable "TokenMesh$Request" 3 ∈ GT := gt_at 527 (by decide +kernel) (by decide +kernel)
theorem c_TM_246 : Cond.methodLink "TokenMesh" 246 m_Req_init.1 ∈ GT := gt_at 528 (by decide +kernel) (by decide +kernel)
theorem c_Req_1 : Cond.methodLink "TokenMesh$Request" 1 ⟨"java/lang/Object", "<init>", "()V"⟩ ∈ GT := gt_at 531 (by decide +kernel) (by decide +kernel)
theorem f_Req_7 : FS "TokenMesh$Request" 7 5 0 := ⟨_, "TokenMesh$Request", rfl, by decide, gt_at 532 (by decide +kernel) (by decide +kernel), Or.inl rfl⟩
theorem f_TM_287 : FS "TokenMesh" 287 5 0 := ⟨_, "TokenMesh$Request", rfl, by decide, gt_at 533 (by decide +kernel) (by decide +kernel), Or.inl rfl⟩
theorem f_Req_13 : FS "TokenMesh$Request" 13 5 1 := ⟨_, "TokenMesh$Request", rfl, by decide, gt_at 534 (by decide +kernel) (by decide +kernel), Or.inl rfl⟩
theorem f_Req_16 : FS "TokenMesh$Request" 16 5 2 := ⟨_, "TokenMesh$Request", rfl, by decide, gt_at 535 (by decide +kernel) (by decide +kernel), Or.inl rfl⟩
theorem f_TM_290 : FS "TokenMesh" 290 5 2 := ⟨_, "TokenMesh$Request", rfl, by decide, gt_at 536 (by decide +kernel) (by decide +kernel), Or.inl rfl⟩
theorem c_TM_249 : Cond.methodLink "TokenMesh" 249 m_AL_add1.1 ∈ GT := gt_at 544 (by decide +kernel) (by decide +kernel)
theorem c_TM_149 : Cond.methodLink "TokenMesh" 149 m_TM_onKnow.1 ∈ GT := gt_at 545 (by decide +kernel) (by decide +kernel)
theorem c_TM_156 : Cond.methodLink "TokenMesh" 156 m_Mail_giveBack.1 ∈ GT := gt_at 549 (by decide +kernel) (by decide +kernel)
theorem c_Law_35 : Cond.methodLink "TokenMeshLaw" 35 m_TM_evict.1 ∈ GT := gt_at 553 (by decide +kernel) (by decide +kernel)
theorem c_Law_40 : Cond.methodLink "TokenMeshLaw" 40 m_TM_letters.1 ∈ GT := gt_at 557 (by decide +kernel) (by decide +kernel)
theorem c_TM_170 : Cond.methodLink "TokenMesh" 170 m_Mail_size.1 ∈ GT := gt_at 561 (by decide +kernel) (by decide +kernel)
theorem c_Law_45 : Cond.methodLink "TokenMeshLaw" 45 m_TM_letter.1 ∈ GT := gt_at 565 (by decide +kernel) (by decide +kernel)
theorem c_TM_174 : Cond.methodLink "TokenMesh" 174 m_Mail_at.1 ∈ GT := gt_at 569 (by decide +kernel) (by decide +kernel)
theorem c_TM_177 : Cond.methodLink "TokenMesh" 177 m_Letter_sum.1 ∈ GT := gt_at 573 (by decide +kernel) (by decide +kernel)
theorem c_Law_49 : Cond.methodLink "TokenMeshLaw" 49 m_TM_tokens.1 ∈ GT := gt_at 577 (by decide +kernel) (by decide +kernel)
theorem c_TM_180 : Cond.methodLink "TokenMesh" 180 m_TM_isNode.1 ∈ GT := gt_at 581 (by decide +kernel) (by decide +kernel)
theorem c_Law_54 : Cond.methodLink "TokenMeshLaw" 54 m_TM_data.1 ∈ GT := gt_at 585 (by decide +kernel) (by decide +kernel)
theorem c_Law_58 : Cond.methodLink "TokenMeshLaw" 58 m_TM_knows.1 ∈ GT := gt_at 589 (by decide +kernel) (by decide +kernel)
theorem c_Law_62 : Cond.methodLink "TokenMeshLaw" 62 m_TM_row.1 ∈ GT := gt_at 593 (by decide +kernel) (by decide +kernel)
theorem c_TM_196 : Cond.methodLink "TokenMesh" 196 m_AL_size.1 ∈ GT := gt_at 597 (by decide +kernel) (by decide +kernel)
theorem c_Law_66 : Cond.methodLink "TokenMeshLaw" 66 m_TM_state.1 ∈ GT := gt_at 598 (by decide +kernel) (by decide +kernel)
theorem c_Law_70 : Cond.methodLink "TokenMeshLaw" 70 m_TM_ended.1 ∈ GT := gt_at 602 (by decide +kernel) (by decide +kernel)
theorem c_Law_74 : Cond.methodLink "TokenMeshLaw" 74 m_TM_result.1 ∈ GT := gt_at 606 (by decide +kernel) (by decide +kernel)
theorem c_Law_78 : Cond.methodLink "TokenMeshLaw" 78 m_TM_memory.1 ∈ GT := gt_at 610 (by decide +kernel) (by decide +kernel)
theorem c_Law_9 : Cond.methodLink "TokenMeshLaw" 9 m_Law_cell.1 ∈ GT := gt_at 614 (by decide +kernel) (by decide +kernel)
theorem l_Law_18 : Cond.classLink "TokenMeshLaw" 18 "TokenMeshModel" ∈ GT := gt_at 617 (by decide +kernel) (by decide +kernel)
theorem n_MM : Cond.instantiable "TokenMeshModel" 40 ∈ GT := gt_at 618 (by decide +kernel) (by decide +kernel)
theorem c_Law_20 : Cond.methodLink "TokenMeshLaw" 20 m_MM_init.1 ∈ GT := gt_at 619 (by decide +kernel) (by decide +kernel)
theorem c_MM_1 : Cond.methodLink "TokenMeshModel" 1 ⟨"java/lang/Object", "<init>", "()V"⟩ ∈ GT := gt_at 622 (by decide +kernel) (by decide +kernel)
theorem f_MM_123 : FS "TokenMeshModel" 123 8 0 := ⟨_, "TokenMeshModel", rfl, by decide, gt_at 623 (by decide +kernel) (by decide +kernel), Or.inl rfl⟩
theorem f_MM_113 : FS "TokenMeshModel" 113 8 1 := ⟨_, "TokenMeshModel", rfl, by decide, gt_at 624 (by decide +kernel) (by decide +kernel), Or.inl rfl⟩
theorem f_MM_117 : FS "TokenMeshModel" 117 8 2 := ⟨_, "TokenMeshModel", rfl, by decide, gt_at 625 (by decide +kernel) (by decide +kernel), Or.inl rfl⟩
theorem f_MM_120 : FS "TokenMeshModel" 120 8 3 := ⟨_, "TokenMeshModel", rfl, by decide, gt_at 626 (by decide +kernel) (by decide +kernel), Or.inl rfl⟩
theorem f_MM_158 : FS "TokenMeshModel" 158 8 4 := ⟨_, "TokenMeshModel", rfl, by decide, gt_at 627 (by decide +kernel) (by decide +kernel), Or.inl rfl⟩
theorem f_MM_7 : FS "TokenMeshModel" 7 8 5 := ⟨_, "TokenMeshModel", rfl, by decide, gt_at 628 (by decide +kernel) (by decide +kernel), Or.inl rfl⟩
theorem f_MM_13 : FS "TokenMeshModel" 13 8 6 := ⟨_, "TokenMeshModel", rfl, by decide, gt_at 629 (by decide +kernel) (by decide +kernel), Or.inl rfl⟩
theorem f_MM_17 : FS "TokenMeshModel" 17 8 7 := ⟨_, "TokenMeshModel", rfl, by decide, gt_at 630 (by decide +kernel) (by decide +kernel), Or.inl rfl⟩
theorem f_MM_20 : FS "TokenMeshModel" 20 8 8 := ⟨_, "TokenMeshModel", rfl, by decide, gt_at 631 (by decide +kernel) (by decide +kernel), Or.inl rfl⟩
theorem f_MM_23 : FS "TokenMeshModel" 23 8 9 := ⟨_, "TokenMeshModel", rfl, by decide, gt_at 632 (by decide +kernel) (by decide +kernel), Or.inl rfl⟩
theorem f_MM_26 : FS "TokenMeshModel" 26 8 10 := ⟨_, "TokenMeshModel", rfl, by decide, gt_at 633 (by decide +kernel) (by decide +kernel), Or.inl rfl⟩
theorem f_MM_29 : FS "TokenMeshModel" 29 8 11 := ⟨_, "TokenMeshModel", rfl, by decide, gt_at 634 (by decide +kernel) (by decide +kernel), Or.inl rfl⟩
theorem f_MM_32 : FS "TokenMeshModel" 32 8 12 := ⟨_, "TokenMeshModel", rfl, by decide, gt_at 635 (by decide +kernel) (by decide +kernel), Or.inl rfl⟩
theorem f_MM_35 : FS "TokenMeshModel" 35 8 13 := ⟨_, "TokenMeshModel", rfl, by decide, gt_at 636 (by decide +kernel) (by decide +kernel), Or.inl rfl⟩
theorem f_MM_38 : FS "TokenMeshModel" 38 8 14 := ⟨_, "TokenMeshModel", rfl, by decide, gt_at 637 (by decide +kernel) (by decide +kernel), Or.inl rfl⟩
theorem f_MM_41 : FS "TokenMeshModel" 41 8 15 := ⟨_, "TokenMeshModel", rfl, by decide, gt_at 638 (by decide +kernel) (by decide +kernel), Or.inl rfl⟩
theorem f_MM_44 : FS "TokenMeshModel" 44 8 16 := ⟨_, "TokenMeshModel", rfl, by decide, gt_at 639 (by decide +kernel) (by decide +kernel), Or.inl rfl⟩
theorem f_MM_47 : FS "TokenMeshModel" 47 8 17 := ⟨_, "TokenMeshModel", rfl, by decide, gt_at 640 (by decide +kernel) (by decide +kernel), Or.inl rfl⟩
theorem f_MM_50 : FS "TokenMeshModel" 50 8 18 := ⟨_, "TokenMeshModel", rfl, by decide, gt_at 641 (by decide +kernel) (by decide +kernel), Or.inl rfl⟩
theorem f_MM_53 : FS "TokenMeshModel" 53 8 19 := ⟨_, "TokenMeshModel", rfl, by decide, gt_at 642 (by decide +kernel) (by decide +kernel), Or.inl rfl⟩
theorem f_MM_56 : FS "TokenMeshModel" 56 8 20 := ⟨_, "TokenMeshModel", rfl, by decide, gt_at 643 (by decide +kernel) (by decide +kernel), Or.inl rfl⟩
theorem f_MM_59 : FS "TokenMeshModel" 59 8 21 := ⟨_, "TokenMeshModel", rfl, by decide, gt_at 644 (by decide +kernel) (by decide +kernel), Or.inl rfl⟩
theorem f_MM_62 : FS "TokenMeshModel" 62 8 22 := ⟨_, "TokenMeshModel", rfl, by decide, gt_at 645 (by decide +kernel) (by decide +kernel), Or.inl rfl⟩
theorem f_MM_65 : FS "TokenMeshModel" 65 8 23 := ⟨_, "TokenMeshModel", rfl, by decide, gt_at 646 (by decide +kernel) (by decide +kernel), Or.inl rfl⟩
theorem f_MM_68 : FS "TokenMeshModel" 68 8 24 := ⟨_, "TokenMeshModel", rfl, by decide, gt_at 647 (by decide +kernel) (by decide +kernel), Or.inl rfl⟩
theorem f_MM_71 : FS "TokenMeshModel" 71 8 25 := ⟨_, "TokenMeshModel", rfl, by decide, gt_at 648 (by decide +kernel) (by decide +kernel), Or.inl rfl⟩
theorem f_MM_74 : FS "TokenMeshModel" 74 8 26 := ⟨_, "TokenMeshModel", rfl, by decide, gt_at 649 (by decide +kernel) (by decide +kernel), Or.inl rfl⟩
theorem f_MM_77 : FS "TokenMeshModel" 77 8 27 := ⟨_, "TokenMeshModel", rfl, by decide, gt_at 650 (by decide +kernel) (by decide +kernel), Or.inl rfl⟩
theorem f_MM_126 : FS "TokenMeshModel" 126 8 28 := ⟨_, "TokenMeshModel", rfl, by decide, gt_at 651 (by decide +kernel) (by decide +kernel), Or.inl rfl⟩
theorem f_MM_80 : FS "TokenMeshModel" 80 8 29 := ⟨_, "TokenMeshModel", rfl, by decide, gt_at 652 (by decide +kernel) (by decide +kernel), Or.inl rfl⟩
theorem f_MM_83 : FS "TokenMeshModel" 83 8 30 := ⟨_, "TokenMeshModel", rfl, by decide, gt_at 653 (by decide +kernel) (by decide +kernel), Or.inl rfl⟩
theorem f_MM_86 : FS "TokenMeshModel" 86 8 31 := ⟨_, "TokenMeshModel", rfl, by decide, gt_at 654 (by decide +kernel) (by decide +kernel), Or.inl rfl⟩
theorem f_MM_89 : FS "TokenMeshModel" 89 8 32 := ⟨_, "TokenMeshModel", rfl, by decide, gt_at 655 (by decide +kernel) (by decide +kernel), Or.inl rfl⟩
theorem f_MM_92 : FS "TokenMeshModel" 92 8 33 := ⟨_, "TokenMeshModel", rfl, by decide, gt_at 656 (by decide +kernel) (by decide +kernel), Or.inl rfl⟩
theorem f_MM_95 : FS "TokenMeshModel" 95 8 34 := ⟨_, "TokenMeshModel", rfl, by decide, gt_at 657 (by decide +kernel) (by decide +kernel), Or.inl rfl⟩
theorem f_MM_98 : FS "TokenMeshModel" 98 8 35 := ⟨_, "TokenMeshModel", rfl, by decide, gt_at 658 (by decide +kernel) (by decide +kernel), Or.inl rfl⟩
theorem f_MM_101 : FS "TokenMeshModel" 101 8 36 := ⟨_, "TokenMeshModel", rfl, by decide, gt_at 659 (by decide +kernel) (by decide +kernel), Or.inl rfl⟩
theorem f_MM_104 : FS "TokenMeshModel" 104 8 37 := ⟨_, "TokenMeshModel", rfl, by decide, gt_at 660 (by decide +kernel) (by decide +kernel), Or.inl rfl⟩
theorem f_MM_107 : FS "TokenMeshModel" 107 8 38 := ⟨_, "TokenMeshModel", rfl, by decide, gt_at 661 (by decide +kernel) (by decide +kernel), Or.inl rfl⟩
theorem f_MM_110 : FS "TokenMeshModel" 110 8 39 := ⟨_, "TokenMeshModel", rfl, by decide, gt_at 662 (by decide +kernel) (by decide +kernel), Or.inl rfl⟩
theorem a_boolean : Cond.arrayClass .boolean ∈ GT := gt_at 744 (by decide +kernel) (by decide +kernel)
theorem c_Law_25 : Cond.methodLink "TokenMeshLaw" 25 m_MM_issue.1 ∈ GT := gt_at 745 (by decide +kernel) (by decide +kernel)
theorem c_MM_145 : Cond.methodLink "TokenMeshModel" 145 m_MM_isCore.1 ∈ GT := gt_at 749 (by decide +kernel) (by decide +kernel)
theorem c_MM_149 : Cond.methodLink "TokenMeshModel" 149 m_MM_isBlock.1 ∈ GT := gt_at 753 (by decide +kernel) (by decide +kernel)
theorem c_MM_152 : Cond.methodLink "TokenMeshModel" 152 m_MM_canEnd.1 ∈ GT := gt_at 756 (by decide +kernel) (by decide +kernel)
theorem c_MM_155 : Cond.methodLink "TokenMeshModel" 155 m_MM_endd.1 ∈ GT := gt_at 760 (by decide +kernel) (by decide +kernel)
theorem c_MM_137 : Cond.methodLink "TokenMeshModel" 137 m_MM_send.1 ∈ GT := gt_at 764 (by decide +kernel) (by decide +kernel)
theorem c_MM_133 : Cond.methodLink "TokenMeshModel" 133 m_MM_remove.1 ∈ GT := gt_at 768 (by decide +kernel) (by decide +kernel)
theorem c_MM_129 : Cond.methodLink "TokenMeshModel" 129 m_MM_move.1 ∈ GT := gt_at 772 (by decide +kernel) (by decide +kernel)
theorem c_MM_161 : Cond.methodLink "TokenMeshModel" 161 m_MM_ask.1 ∈ GT := gt_at 776 (by decide +kernel) (by decide +kernel)
theorem c_Law_30 : Cond.methodLink "TokenMeshLaw" 30 m_MM_tick.1 ∈ GT := gt_at 780 (by decide +kernel) (by decide +kernel)
theorem c_MM_164 : Cond.methodLink "TokenMeshModel" 164 m_MM_repeat.1 ∈ GT := gt_at 784 (by decide +kernel) (by decide +kernel)
theorem c_Law_34 : Cond.methodLink "TokenMeshLaw" 34 m_MM_deliver.1 ∈ GT := gt_at 788 (by decide +kernel) (by decide +kernel)
theorem c_MM_141 : Cond.methodLink "TokenMeshModel" 141 m_MM_give.1 ∈ GT := gt_at 792 (by decide +kernel) (by decide +kernel)
theorem c_MM_182 : Cond.methodLink "TokenMeshModel" 182 m_MM_getTokens.1 ∈ GT := gt_at 796 (by decide +kernel) (by decide +kernel)
theorem c_MM_173 : Cond.methodLink "TokenMeshModel" 173 m_MM_giveWay.1 ∈ GT := gt_at 800 (by decide +kernel) (by decide +kernel)
theorem c_MM_186 : Cond.methodLink "TokenMeshModel" 186 m_MM_please.1 ∈ GT := gt_at 804 (by decide +kernel) (by decide +kernel)
theorem c_MM_179 : Cond.methodLink "TokenMeshModel" 179 m_MM_lapse.1 ∈ GT := gt_at 808 (by decide +kernel) (by decide +kernel)
theorem c_MM_167 : Cond.methodLink "TokenMeshModel" 167 m_MM_takeOut.1 ∈ GT := gt_at 812 (by decide +kernel) (by decide +kernel)
theorem c_MM_170 : Cond.methodLink "TokenMeshModel" 170 m_MM_tellAll.1 ∈ GT := gt_at 816 (by decide +kernel) (by decide +kernel)
theorem c_MM_176 : Cond.methodLink "TokenMeshModel" 176 m_MM_activate.1 ∈ GT := gt_at 820 (by decide +kernel) (by decide +kernel)
theorem c_Law_39 : Cond.methodLink "TokenMeshLaw" 39 m_MM_evict.1 ∈ GT := gt_at 824 (by decide +kernel) (by decide +kernel)
theorem c_Law_44 : Cond.methodLink "TokenMeshLaw" 44 m_MM_letters.1 ∈ GT := gt_at 828 (by decide +kernel) (by decide +kernel)
theorem c_Law_48 : Cond.methodLink "TokenMeshLaw" 48 m_MM_letter.1 ∈ GT := gt_at 832 (by decide +kernel) (by decide +kernel)
theorem c_Law_53 : Cond.methodLink "TokenMeshLaw" 53 m_MM_tokens.1 ∈ GT := gt_at 836 (by decide +kernel) (by decide +kernel)
theorem c_MM_190 : Cond.methodLink "TokenMeshModel" 190 m_MM_isNode.1 ∈ GT := gt_at 840 (by decide +kernel) (by decide +kernel)
theorem c_Law_57 : Cond.methodLink "TokenMeshLaw" 57 m_MM_data.1 ∈ GT := gt_at 844 (by decide +kernel) (by decide +kernel)
theorem c_Law_61 : Cond.methodLink "TokenMeshLaw" 61 m_MM_knows.1 ∈ GT := gt_at 848 (by decide +kernel) (by decide +kernel)
theorem c_Law_65 : Cond.methodLink "TokenMeshLaw" 65 m_MM_row.1 ∈ GT := gt_at 852 (by decide +kernel) (by decide +kernel)
theorem c_Law_69 : Cond.methodLink "TokenMeshLaw" 69 m_MM_state.1 ∈ GT := gt_at 856 (by decide +kernel) (by decide +kernel)
theorem c_Law_73 : Cond.methodLink "TokenMeshLaw" 73 m_MM_ended.1 ∈ GT := gt_at 860 (by decide +kernel) (by decide +kernel)
theorem c_Law_77 : Cond.methodLink "TokenMeshLaw" 77 m_MM_result.1 ∈ GT := gt_at 864 (by decide +kernel) (by decide +kernel)
theorem c_Law_81 : Cond.methodLink "TokenMeshLaw" 81 m_MM_memory.1 ∈ GT := gt_at 868 (by decide +kernel) (by decide +kernel)
theorem x_Letter_Letter : Cond.castable "TokenMesh$Letter" "TokenMesh$Letter" ∈ NT := nt_at 872 (by decide +kernel) (by decide +kernel)
theorem x_Req_Req : Cond.castable "TokenMesh$Request" "TokenMesh$Request" ∈ NT := nt_at 873 (by decide +kernel) (by decide +kernel)
theorem v_declares : Cond.declares gcN ∈ NT := nt_at 876 (by decide +kernel) (by decide +kernel)
theorem x_TM_Obj : Cond.castable "TokenMesh" "java/lang/Object" ∈ NT := nt_at 877 (by decide +kernel) (by decide +kernel)
theorem x_Share_Obj : Cond.castable "TokenMesh$Share" "java/lang/Object" ∈ NT := nt_at 878 (by decide +kernel) (by decide +kernel)
theorem x_Core_Obj : Cond.castable "TokenMesh$Core" "java/lang/Object" ∈ NT := nt_at 879 (by decide +kernel) (by decide +kernel)
theorem x_Desk_Obj : Cond.castable "TokenMesh$Desk" "java/lang/Object" ∈ NT := nt_at 880 (by decide +kernel) (by decide +kernel)
theorem x_Mail_Obj : Cond.castable "TokenMesh$Mail" "java/lang/Object" ∈ NT := nt_at 881 (by decide +kernel) (by decide +kernel)
theorem x_MM_Obj : Cond.castable "TokenMeshModel" "java/lang/Object" ∈ NT := nt_at 882 (by decide +kernel) (by decide +kernel)
theorem x_Letter_Obj : Cond.castable "TokenMesh$Letter" "java/lang/Object" ∈ NT := nt_at 883 (by decide +kernel) (by decide +kernel)
theorem x_Req_Obj : Cond.castable "TokenMesh$Request" "java/lang/Object" ∈ NT := nt_at 884 (by decide +kernel) (by decide +kernel)
theorem i_gc : Cond.instanceMethod gcN ∈ GT := gt_at 347 (by decide +kernel) (by decide +kernel)
theorem s_gc : Cond.selects "[Ljava/lang/Object;" gcN gcN ∈ GT := gt_at 875 (by decide +kernel) (by decide +kernel)
theorem i_oi : Cond.instanceMethod objectInit ∈ GT := gt_at 63 (by decide +kernel) (by decide +kernel)
theorem t_ac : Cond.static arraycopyName ∈ GT := gt_at 317 (by decide +kernel) (by decide +kernel)
theorem q_oi : Cond.code objectInit ⟨#[0xb1]⟩ 1 none ∈ GT := gt_at 64 (by decide +kernel) (by decide +kernel)
end
section
theorem e_Core_init_0 : decode m_Core_init.2.1 0 = .ok (.aload_n 0, 1) := by decide +kernel
theorem e_Core_init_1 : decode m_Core_init.2.1 1 = .ok (.invokespecial 1, 3) := by decide +kernel
theorem e_Core_init_4 : decode m_Core_init.2.1 4 = .ok (.return_, 1) := by decide +kernel
theorem e_Core_begin_0 : decode m_Core_begin.2.1 0 = .ok (.aload_n 0, 1) := by decide +kernel
theorem e_Core_begin_1 : decode m_Core_begin.2.1 1 = .ok (.dup, 1) := by decide +kernel
theorem e_Core_begin_2 : decode m_Core_begin.2.1 2 = .ok (.getfield 7, 3) := by decide +kernel
theorem e_Core_begin_5 : decode m_Core_begin.2.1 5 = .ok (.iconst 1, 1) := by decide +kernel
theorem e_Core_begin_6 : decode m_Core_begin.2.1 6 = .ok (.iadd, 1) := by decide +kernel
theorem e_Core_begin_7 : decode m_Core_begin.2.1 7 = .ok (.putfield 7, 3) := by decide +kernel
theorem e_Core_begin_10 : decode m_Core_begin.2.1 10 = .ok (.aload_n 0, 1) := by decide +kernel
theorem e_Core_begin_11 : decode m_Core_begin.2.1 11 = .ok (.iconst 1, 1) := by decide +kernel
theorem e_Core_begin_12 : decode m_Core_begin.2.1 12 = .ok (.putfield 13, 3) := by decide +kernel
theorem e_Core_begin_15 : decode m_Core_begin.2.1 15 = .ok (.aload_n 0, 1) := by decide +kernel
theorem e_Core_begin_16 : decode m_Core_begin.2.1 16 = .ok (.iload_n 1, 1) := by decide +kernel
theorem e_Core_begin_17 : decode m_Core_begin.2.1 17 = .ok (.putfield 17, 3) := by decide +kernel
theorem e_Core_begin_20 : decode m_Core_begin.2.1 20 = .ok (.aload_n 0, 1) := by decide +kernel
theorem e_Core_begin_21 : decode m_Core_begin.2.1 21 = .ok (.iload_n 2, 1) := by decide +kernel
theorem e_Core_begin_22 : decode m_Core_begin.2.1 22 = .ok (.putfield 20, 3) := by decide +kernel
theorem e_Core_begin_25 : decode m_Core_begin.2.1 25 = .ok (.aload_n 0, 1) := by decide +kernel
theorem e_Core_begin_26 : decode m_Core_begin.2.1 26 = .ok (.iload_n 3, 1) := by decide +kernel
theorem e_Core_begin_27 : decode m_Core_begin.2.1 27 = .ok (.putfield 23, 3) := by decide +kernel
theorem e_Core_begin_30 : decode m_Core_begin.2.1 30 = .ok (.aload_n 0, 1) := by decide +kernel
theorem e_Core_begin_31 : decode m_Core_begin.2.1 31 = .ok (.iconst 0, 1) := by decide +kernel
theorem e_Core_begin_32 : decode m_Core_begin.2.1 32 = .ok (.putfield 26, 3) := by decide +kernel
theorem e_Core_begin_35 : decode m_Core_begin.2.1 35 = .ok (.aload_n 0, 1) := by decide +kernel
theorem e_Core_begin_36 : decode m_Core_begin.2.1 36 = .ok (.iconst 0, 1) := by decide +kernel
theorem e_Core_begin_37 : decode m_Core_begin.2.1 37 = .ok (.putfield 29, 3) := by decide +kernel
theorem e_Core_begin_40 : decode m_Core_begin.2.1 40 = .ok (.return_, 1) := by decide +kernel
theorem e_Core_isDue_0 : decode m_Core_isDue.2.1 0 = .ok (.aload_n 0, 1) := by decide +kernel
theorem e_Core_isDue_1 : decode m_Core_isDue.2.1 1 = .ok (.getfield 13, 3) := by decide +kernel
theorem e_Core_isDue_4 : decode m_Core_isDue.2.1 4 = .ok (.ifCond .eq 22, 3) := by decide +kernel
theorem e_Core_isDue_7 : decode m_Core_isDue.2.1 7 = .ok (.aload_n 0, 1) := by decide +kernel
theorem e_Core_isDue_8 : decode m_Core_isDue.2.1 8 = .ok (.getfield 29, 3) := by decide +kernel
theorem e_Core_isDue_11 : decode m_Core_isDue.2.1 11 = .ok (.ifCond .ne 15, 3) := by decide +kernel
theorem e_Core_isDue_14 : decode m_Core_isDue.2.1 14 = .ok (.aload_n 0, 1) := by decide +kernel
theorem e_Core_isDue_15 : decode m_Core_isDue.2.1 15 = .ok (.getfield 32, 3) := by decide +kernel
theorem e_Core_isDue_18 : decode m_Core_isDue.2.1 18 = .ok (.iload_n 1, 1) := by decide +kernel
theorem e_Core_isDue_19 : decode m_Core_isDue.2.1 19 = .ok (.if_icmp .ne 7, 3) := by decide +kernel
theorem e_Core_isDue_22 : decode m_Core_isDue.2.1 22 = .ok (.iconst 1, 1) := by decide +kernel
theorem e_Core_isDue_23 : decode m_Core_isDue.2.1 23 = .ok (.goto 4, 3) := by decide +kernel
theorem e_Core_isDue_26 : decode m_Core_isDue.2.1 26 = .ok (.iconst 0, 1) := by decide +kernel
theorem e_Core_isDue_27 : decode m_Core_isDue.2.1 27 = .ok (.ireturn, 1) := by decide +kernel
theorem e_Core_isBusyWith_0 : decode m_Core_isBusyWith.2.1 0 = .ok (.aload_n 0, 1) := by decide +kernel
theorem e_Core_isBusyWith_1 : decode m_Core_isBusyWith.2.1 1 = .ok (.getfield 13, 3) := by decide +kernel
theorem e_Core_isBusyWith_4 : decode m_Core_isBusyWith.2.1 4 = .ok (.ifCond .eq 15, 3) := by decide +kernel
theorem e_Core_isBusyWith_7 : decode m_Core_isBusyWith.2.1 7 = .ok (.aload_n 0, 1) := by decide +kernel
theorem e_Core_isBusyWith_8 : decode m_Core_isBusyWith.2.1 8 = .ok (.getfield 20, 3) := by decide +kernel
theorem e_Core_isBusyWith_11 : decode m_Core_isBusyWith.2.1 11 = .ok (.iload_n 1, 1) := by decide +kernel
theorem e_Core_isBusyWith_12 : decode m_Core_isBusyWith.2.1 12 = .ok (.if_icmp .ne 7, 3) := by decide +kernel
theorem e_Core_isBusyWith_15 : decode m_Core_isBusyWith.2.1 15 = .ok (.iconst 1, 1) := by decide +kernel
theorem e_Core_isBusyWith_16 : decode m_Core_isBusyWith.2.1 16 = .ok (.goto 4, 3) := by decide +kernel
theorem e_Core_isBusyWith_19 : decode m_Core_isBusyWith.2.1 19 = .ok (.iconst 0, 1) := by decide +kernel
theorem e_Core_isBusyWith_20 : decode m_Core_isBusyWith.2.1 20 = .ok (.ireturn, 1) := by decide +kernel
theorem e_Desk_init_0 : decode m_Desk_init.2.1 0 = .ok (.aload_n 0, 1) := by decide +kernel
theorem e_Desk_init_1 : decode m_Desk_init.2.1 1 = .ok (.invokespecial 1, 3) := by decide +kernel
theorem e_Desk_init_4 : decode m_Desk_init.2.1 4 = .ok (.aload_n 0, 1) := by decide +kernel
theorem e_Desk_init_5 : decode m_Desk_init.2.1 5 = .ok (.new 7, 3) := by decide +kernel
theorem e_Desk_init_8 : decode m_Desk_init.2.1 8 = .ok (.dup, 1) := by decide +kernel
theorem e_Desk_init_9 : decode m_Desk_init.2.1 9 = .ok (.invokespecial 9, 3) := by decide +kernel
theorem e_Desk_init_12 : decode m_Desk_init.2.1 12 = .ok (.putfield 10, 3) := by decide +kernel
theorem e_Desk_init_15 : decode m_Desk_init.2.1 15 = .ok (.return_, 1) := by decide +kernel
theorem e_Desk_strike_0 : decode m_Desk_strike.2.1 0 = .ok (.aload_n 0, 1) := by decide +kernel
theorem e_Desk_strike_1 : decode m_Desk_strike.2.1 1 = .ok (.getfield 10, 3) := by decide +kernel
theorem e_Desk_strike_4 : decode m_Desk_strike.2.1 4 = .ok (.invokevirtual 16, 3) := by decide +kernel
theorem e_Desk_strike_7 : decode m_Desk_strike.2.1 7 = .ok (.iconst 1, 1) := by decide +kernel
theorem e_Desk_strike_8 : decode m_Desk_strike.2.1 8 = .ok (.isub, 1) := by decide +kernel
theorem e_Desk_strike_9 : decode m_Desk_strike.2.1 9 = .ok (.istore_n 3, 1) := by decide +kernel
theorem e_Desk_strike_10 : decode m_Desk_strike.2.1 10 = .ok (.iload_n 3, 1) := by decide +kernel
theorem e_Desk_strike_11 : decode m_Desk_strike.2.1 11 = .ok (.ifCond .lt 37, 3) := by decide +kernel
theorem e_Desk_strike_14 : decode m_Desk_strike.2.1 14 = .ok (.aload_n 0, 1) := by decide +kernel
theorem e_Desk_strike_15 : decode m_Desk_strike.2.1 15 = .ok (.getfield 10, 3) := by decide +kernel
theorem e_Desk_strike_18 : decode m_Desk_strike.2.1 18 = .ok (.iload_n 3, 1) := by decide +kernel
theorem e_Desk_strike_19 : decode m_Desk_strike.2.1 19 = .ok (.invokevirtual 20, 3) := by decide +kernel
theorem e_Desk_strike_22 : decode m_Desk_strike.2.1 22 = .ok (.checkcast 24, 3) := by decide +kernel
theorem e_Desk_strike_25 : decode m_Desk_strike.2.1 25 = .ok (.iload_n 1, 1) := by decide +kernel
theorem e_Desk_strike_26 : decode m_Desk_strike.2.1 26 = .ok (.iload_n 2, 1) := by decide +kernel
theorem e_Desk_strike_27 : decode m_Desk_strike.2.1 27 = .ok (.invokevirtual 26, 3) := by decide +kernel
theorem e_Desk_strike_30 : decode m_Desk_strike.2.1 30 = .ok (.ifCond .eq 12, 3) := by decide +kernel
theorem e_Desk_strike_33 : decode m_Desk_strike.2.1 33 = .ok (.aload_n 0, 1) := by decide +kernel
theorem e_Desk_strike_34 : decode m_Desk_strike.2.1 34 = .ok (.getfield 10, 3) := by decide +kernel
theorem e_Desk_strike_37 : decode m_Desk_strike.2.1 37 = .ok (.iload_n 3, 1) := by decide +kernel
theorem e_Desk_strike_38 : decode m_Desk_strike.2.1 38 = .ok (.invokevirtual 30, 3) := by decide +kernel
theorem e_Desk_strike_41 : decode m_Desk_strike.2.1 41 = .ok (.pop, 1) := by decide +kernel
theorem e_Desk_strike_42 : decode m_Desk_strike.2.1 42 = .ok (.iinc 3 (-1), 3) := by decide +kernel
theorem e_Desk_strike_45 : decode m_Desk_strike.2.1 45 = .ok (.goto (-35), 3) := by decide +kernel
theorem e_Desk_strike_48 : decode m_Desk_strike.2.1 48 = .ok (.return_, 1) := by decide +kernel
theorem e_Letter_init_0 : decode m_Letter_init.2.1 0 = .ok (.aload_n 0, 1) := by decide +kernel
theorem e_Letter_init_1 : decode m_Letter_init.2.1 1 = .ok (.invokespecial 3, 3) := by decide +kernel
theorem e_Letter_init_4 : decode m_Letter_init.2.1 4 = .ok (.return_, 1) := by decide +kernel
theorem e_Letter_address_0 : decode m_Letter_address.2.1 0 = .ok (.aload_n 0, 1) := by decide +kernel
theorem e_Letter_address_1 : decode m_Letter_address.2.1 1 = .ok (.iload_n 1, 1) := by decide +kernel
theorem e_Letter_address_2 : decode m_Letter_address.2.1 2 = .ok (.putfield 9, 3) := by decide +kernel
theorem e_Letter_address_5 : decode m_Letter_address.2.1 5 = .ok (.aload_n 0, 1) := by decide +kernel
theorem e_Letter_address_6 : decode m_Letter_address.2.1 6 = .ok (.iload_n 2, 1) := by decide +kernel
theorem e_Letter_address_7 : decode m_Letter_address.2.1 7 = .ok (.putfield 15, 3) := by decide +kernel
theorem e_Letter_address_10 : decode m_Letter_address.2.1 10 = .ok (.aload_n 0, 1) := by decide +kernel
theorem e_Letter_address_11 : decode m_Letter_address.2.1 11 = .ok (.iload_n 3, 1) := by decide +kernel
theorem e_Letter_address_12 : decode m_Letter_address.2.1 12 = .ok (.putfield 18, 3) := by decide +kernel
theorem e_Letter_address_15 : decode m_Letter_address.2.1 15 = .ok (.aload_n 0, 1) := by decide +kernel
theorem e_Letter_address_16 : decode m_Letter_address.2.1 16 = .ok (.iload 4, 2) := by decide +kernel
theorem e_Letter_address_18 : decode m_Letter_address.2.1 18 = .ok (.putfield 21, 3) := by decide +kernel
theorem e_Letter_address_21 : decode m_Letter_address.2.1 21 = .ok (.aload_n 0, 1) := by decide +kernel
theorem e_Letter_address_22 : decode m_Letter_address.2.1 22 = .ok (.iconst 0, 1) := by decide +kernel
theorem e_Letter_address_23 : decode m_Letter_address.2.1 23 = .ok (.putfield 24, 3) := by decide +kernel
theorem e_Letter_address_26 : decode m_Letter_address.2.1 26 = .ok (.aload_n 0, 1) := by decide +kernel
theorem e_Letter_address_27 : decode m_Letter_address.2.1 27 = .ok (.iconst 0, 1) := by decide +kernel
theorem e_Letter_address_28 : decode m_Letter_address.2.1 28 = .ok (.putfield 27, 3) := by decide +kernel
theorem e_Letter_address_31 : decode m_Letter_address.2.1 31 = .ok (.aload_n 0, 1) := by decide +kernel
theorem e_Letter_address_32 : decode m_Letter_address.2.1 32 = .ok (.iconst 0, 1) := by decide +kernel
theorem e_Letter_address_33 : decode m_Letter_address.2.1 33 = .ok (.putfield 31, 3) := by decide +kernel
theorem e_Letter_address_36 : decode m_Letter_address.2.1 36 = .ok (.aload_n 0, 1) := by decide +kernel
theorem e_Letter_address_37 : decode m_Letter_address.2.1 37 = .ok (.iconst 0, 1) := by decide +kernel
theorem e_Letter_address_38 : decode m_Letter_address.2.1 38 = .ok (.putfield 34, 3) := by decide +kernel
theorem e_Letter_address_41 : decode m_Letter_address.2.1 41 = .ok (.aload_n 0, 1) := by decide +kernel
theorem e_Letter_address_42 : decode m_Letter_address.2.1 42 = .ok (.iconst 0, 1) := by decide +kernel
theorem e_Letter_address_43 : decode m_Letter_address.2.1 43 = .ok (.putfield 37, 3) := by decide +kernel
theorem e_Letter_address_46 : decode m_Letter_address.2.1 46 = .ok (.aload_n 0, 1) := by decide +kernel
theorem e_Letter_address_47 : decode m_Letter_address.2.1 47 = .ok (.iconst (-1), 1) := by decide +kernel
theorem e_Letter_address_48 : decode m_Letter_address.2.1 48 = .ok (.putfield 40, 3) := by decide +kernel
theorem e_Letter_address_51 : decode m_Letter_address.2.1 51 = .ok (.aload_n 0, 1) := by decide +kernel
theorem e_Letter_address_52 : decode m_Letter_address.2.1 52 = .ok (.iconst 0, 1) := by decide +kernel
theorem e_Letter_address_53 : decode m_Letter_address.2.1 53 = .ok (.putfield 43, 3) := by decide +kernel
theorem e_Letter_address_56 : decode m_Letter_address.2.1 56 = .ok (.return_, 1) := by decide +kernel
theorem e_Letter_yieldsTo_0 : decode m_Letter_yieldsTo.2.1 0 = .ok (.aload_n 0, 1) := by decide +kernel
theorem e_Letter_yieldsTo_1 : decode m_Letter_yieldsTo.2.1 1 = .ok (.getfield 9, 3) := by decide +kernel
theorem e_Letter_yieldsTo_4 : decode m_Letter_yieldsTo.2.1 4 = .ok (.iload_n 1, 1) := by decide +kernel
theorem e_Letter_yieldsTo_5 : decode m_Letter_yieldsTo.2.1 5 = .ok (.if_icmp .ne 40, 3) := by decide +kernel
theorem e_Letter_yieldsTo_8 : decode m_Letter_yieldsTo.2.1 8 = .ok (.aload_n 0, 1) := by decide +kernel
theorem e_Letter_yieldsTo_9 : decode m_Letter_yieldsTo.2.1 9 = .ok (.getfield 15, 3) := by decide +kernel
theorem e_Letter_yieldsTo_12 : decode m_Letter_yieldsTo.2.1 12 = .ok (.iload_n 2, 1) := by decide +kernel
theorem e_Letter_yieldsTo_13 : decode m_Letter_yieldsTo.2.1 13 = .ok (.if_icmp .ne 32, 3) := by decide +kernel
theorem e_Letter_yieldsTo_16 : decode m_Letter_yieldsTo.2.1 16 = .ok (.aload_n 0, 1) := by decide +kernel
theorem e_Letter_yieldsTo_17 : decode m_Letter_yieldsTo.2.1 17 = .ok (.getfield 18, 3) := by decide +kernel
theorem e_Letter_yieldsTo_20 : decode m_Letter_yieldsTo.2.1 20 = .ok (.iload_n 3, 1) := by decide +kernel
theorem e_Letter_yieldsTo_21 : decode m_Letter_yieldsTo.2.1 21 = .ok (.if_icmp .ne 24, 3) := by decide +kernel
theorem e_Letter_yieldsTo_24 : decode m_Letter_yieldsTo.2.1 24 = .ok (.aload_n 0, 1) := by decide +kernel
theorem e_Letter_yieldsTo_25 : decode m_Letter_yieldsTo.2.1 25 = .ok (.getfield 9, 3) := by decide +kernel
theorem e_Letter_yieldsTo_28 : decode m_Letter_yieldsTo.2.1 28 = .ok (.iconst 5, 1) := by decide +kernel
theorem e_Letter_yieldsTo_29 : decode m_Letter_yieldsTo.2.1 29 = .ok (.if_icmp .ne 12, 3) := by decide +kernel
theorem e_Letter_yieldsTo_32 : decode m_Letter_yieldsTo.2.1 32 = .ok (.aload_n 0, 1) := by decide +kernel
theorem e_Letter_yieldsTo_33 : decode m_Letter_yieldsTo.2.1 33 = .ok (.getfield 21, 3) := by decide +kernel
theorem e_Letter_yieldsTo_36 : decode m_Letter_yieldsTo.2.1 36 = .ok (.iload 4, 2) := by decide +kernel
theorem e_Letter_yieldsTo_38 : decode m_Letter_yieldsTo.2.1 38 = .ok (.if_icmp .ne 7, 3) := by decide +kernel
theorem e_Letter_yieldsTo_41 : decode m_Letter_yieldsTo.2.1 41 = .ok (.iconst 1, 1) := by decide +kernel
theorem e_Letter_yieldsTo_42 : decode m_Letter_yieldsTo.2.1 42 = .ok (.goto 4, 3) := by decide +kernel
theorem e_Letter_yieldsTo_45 : decode m_Letter_yieldsTo.2.1 45 = .ok (.iconst 0, 1) := by decide +kernel
theorem e_Letter_yieldsTo_46 : decode m_Letter_yieldsTo.2.1 46 = .ok (.ireturn, 1) := by decide +kernel
theorem e_Letter_sum_0 : decode m_Letter_sum.2.1 0 = .ok (.aload_n 0, 1) := by decide +kernel
theorem e_Letter_sum_1 : decode m_Letter_sum.2.1 1 = .ok (.getfield 9, 3) := by decide +kernel
theorem e_Letter_sum_4 : decode m_Letter_sum.2.1 4 = .ok (.bipush 8, 2) := by decide +kernel
theorem e_Letter_sum_6 : decode m_Letter_sum.2.1 6 = .ok (.aload_n 0, 1) := by decide +kernel
theorem e_Letter_sum_7 : decode m_Letter_sum.2.1 7 = .ok (.getfield 18, 3) := by decide +kernel
theorem e_Letter_sum_10 : decode m_Letter_sum.2.1 10 = .ok (.imul, 1) := by decide +kernel
theorem e_Letter_sum_11 : decode m_Letter_sum.2.1 11 = .ok (.iadd, 1) := by decide +kernel
theorem e_Letter_sum_12 : decode m_Letter_sum.2.1 12 = .ok (.bipush 64, 2) := by decide +kernel
theorem e_Letter_sum_14 : decode m_Letter_sum.2.1 14 = .ok (.aload_n 0, 1) := by decide +kernel
theorem e_Letter_sum_15 : decode m_Letter_sum.2.1 15 = .ok (.getfield 15, 3) := by decide +kernel
theorem e_Letter_sum_18 : decode m_Letter_sum.2.1 18 = .ok (.imul, 1) := by decide +kernel
theorem e_Letter_sum_19 : decode m_Letter_sum.2.1 19 = .ok (.iadd, 1) := by decide +kernel
theorem e_Letter_sum_20 : decode m_Letter_sum.2.1 20 = .ok (.sipush 512, 3) := by decide +kernel
theorem e_Letter_sum_23 : decode m_Letter_sum.2.1 23 = .ok (.aload_n 0, 1) := by decide +kernel
theorem e_Letter_sum_24 : decode m_Letter_sum.2.1 24 = .ok (.getfield 21, 3) := by decide +kernel
theorem e_Letter_sum_27 : decode m_Letter_sum.2.1 27 = .ok (.imul, 1) := by decide +kernel
theorem e_Letter_sum_28 : decode m_Letter_sum.2.1 28 = .ok (.iadd, 1) := by decide +kernel
theorem e_Letter_sum_29 : decode m_Letter_sum.2.1 29 = .ok (.istore_n 1, 1) := by decide +kernel
theorem e_Letter_sum_30 : decode m_Letter_sum.2.1 30 = .ok (.iload_n 1, 1) := by decide +kernel
theorem e_Letter_sum_31 : decode m_Letter_sum.2.1 31 = .ok (.sipush 1024, 3) := by decide +kernel
theorem e_Letter_sum_34 : decode m_Letter_sum.2.1 34 = .ok (.aload_n 0, 1) := by decide +kernel
theorem e_Letter_sum_35 : decode m_Letter_sum.2.1 35 = .ok (.getfield 24, 3) := by decide +kernel
theorem e_Letter_sum_38 : decode m_Letter_sum.2.1 38 = .ok (.imul, 1) := by decide +kernel
theorem e_Letter_sum_39 : decode m_Letter_sum.2.1 39 = .ok (.iadd, 1) := by decide +kernel
theorem e_Letter_sum_40 : decode m_Letter_sum.2.1 40 = .ok (.aload_n 0, 1) := by decide +kernel
theorem e_Letter_sum_41 : decode m_Letter_sum.2.1 41 = .ok (.getfield 27, 3) := by decide +kernel
theorem e_Letter_sum_44 : decode m_Letter_sum.2.1 44 = .ok (.ifCond .eq 9, 3) := by decide +kernel
theorem e_Letter_sum_47 : decode m_Letter_sum.2.1 47 = .ok (.sipush 8192, 3) := by decide +kernel
theorem e_Letter_sum_50 : decode m_Letter_sum.2.1 50 = .ok (.goto 4, 3) := by decide +kernel
theorem e_Letter_sum_53 : decode m_Letter_sum.2.1 53 = .ok (.iconst 0, 1) := by decide +kernel
theorem e_Letter_sum_54 : decode m_Letter_sum.2.1 54 = .ok (.iadd, 1) := by decide +kernel
theorem e_Letter_sum_55 : decode m_Letter_sum.2.1 55 = .ok (.aload_n 0, 1) := by decide +kernel
theorem e_Letter_sum_56 : decode m_Letter_sum.2.1 56 = .ok (.getfield 31, 3) := by decide +kernel
theorem e_Letter_sum_59 : decode m_Letter_sum.2.1 59 = .ok (.ifCond .eq 9, 3) := by decide +kernel
theorem e_Letter_sum_62 : decode m_Letter_sum.2.1 62 = .ok (.sipush 16384, 3) := by decide +kernel
theorem e_Letter_sum_65 : decode m_Letter_sum.2.1 65 = .ok (.goto 4, 3) := by decide +kernel
theorem e_Letter_sum_68 : decode m_Letter_sum.2.1 68 = .ok (.iconst 0, 1) := by decide +kernel
theorem e_Letter_sum_69 : decode m_Letter_sum.2.1 69 = .ok (.iadd, 1) := by decide +kernel
theorem e_Letter_sum_70 : decode m_Letter_sum.2.1 70 = .ok (.ireturn, 1) := by decide +kernel
theorem e_Mail_init_0 : decode m_Mail_init.2.1 0 = .ok (.aload_n 0, 1) := by decide +kernel
theorem e_Mail_init_1 : decode m_Mail_init.2.1 1 = .ok (.invokespecial 3, 3) := by decide +kernel
theorem e_Mail_init_4 : decode m_Mail_init.2.1 4 = .ok (.aload_n 0, 1) := by decide +kernel
theorem e_Mail_init_5 : decode m_Mail_init.2.1 5 = .ok (.new 9, 3) := by decide +kernel
theorem e_Mail_init_8 : decode m_Mail_init.2.1 8 = .ok (.dup, 1) := by decide +kernel
theorem e_Mail_init_9 : decode m_Mail_init.2.1 9 = .ok (.invokespecial 11, 3) := by decide +kernel
theorem e_Mail_init_12 : decode m_Mail_init.2.1 12 = .ok (.putfield 12, 3) := by decide +kernel
theorem e_Mail_init_15 : decode m_Mail_init.2.1 15 = .ok (.aload_n 0, 1) := by decide +kernel
theorem e_Mail_init_16 : decode m_Mail_init.2.1 16 = .ok (.new 9, 3) := by decide +kernel
theorem e_Mail_init_19 : decode m_Mail_init.2.1 19 = .ok (.dup, 1) := by decide +kernel
theorem e_Mail_init_20 : decode m_Mail_init.2.1 20 = .ok (.invokespecial 11, 3) := by decide +kernel
theorem e_Mail_init_23 : decode m_Mail_init.2.1 23 = .ok (.putfield 18, 3) := by decide +kernel
theorem e_Mail_init_26 : decode m_Mail_init.2.1 26 = .ok (.return_, 1) := by decide +kernel
theorem e_Mail_size_0 : decode m_Mail_size.2.1 0 = .ok (.aload_n 0, 1) := by decide +kernel
theorem e_Mail_size_1 : decode m_Mail_size.2.1 1 = .ok (.getfield 12, 3) := by decide +kernel
theorem e_Mail_size_4 : decode m_Mail_size.2.1 4 = .ok (.invokevirtual 21, 3) := by decide +kernel
theorem e_Mail_size_7 : decode m_Mail_size.2.1 7 = .ok (.ireturn, 1) := by decide +kernel
theorem e_Mail_has_0 : decode m_Mail_has.2.1 0 = .ok (.iload_n 1, 1) := by decide +kernel
theorem e_Mail_has_1 : decode m_Mail_has.2.1 1 = .ok (.ifCond .lt 18, 3) := by decide +kernel
theorem e_Mail_has_4 : decode m_Mail_has.2.1 4 = .ok (.iload_n 1, 1) := by decide +kernel
theorem e_Mail_has_5 : decode m_Mail_has.2.1 5 = .ok (.aload_n 0, 1) := by decide +kernel
theorem e_Mail_has_6 : decode m_Mail_has.2.1 6 = .ok (.getfield 12, 3) := by decide +kernel
theorem e_Mail_has_9 : decode m_Mail_has.2.1 9 = .ok (.invokevirtual 21, 3) := by decide +kernel
theorem e_Mail_has_12 : decode m_Mail_has.2.1 12 = .ok (.if_icmp .ge 7, 3) := by decide +kernel
theorem e_Mail_has_15 : decode m_Mail_has.2.1 15 = .ok (.iconst 1, 1) := by decide +kernel
theorem e_Mail_has_16 : decode m_Mail_has.2.1 16 = .ok (.goto 4, 3) := by decide +kernel
theorem e_Mail_has_19 : decode m_Mail_has.2.1 19 = .ok (.iconst 0, 1) := by decide +kernel
theorem e_Mail_has_20 : decode m_Mail_has.2.1 20 = .ok (.ireturn, 1) := by decide +kernel
theorem e_Mail_at_0 : decode m_Mail_at.2.1 0 = .ok (.aload_n 0, 1) := by decide +kernel
theorem e_Mail_at_1 : decode m_Mail_at.2.1 1 = .ok (.getfield 12, 3) := by decide +kernel
theorem e_Mail_at_4 : decode m_Mail_at.2.1 4 = .ok (.iload_n 1, 1) := by decide +kernel
theorem e_Mail_at_5 : decode m_Mail_at.2.1 5 = .ok (.invokevirtual 25, 3) := by decide +kernel
theorem e_Mail_at_8 : decode m_Mail_at.2.1 8 = .ok (.checkcast 29, 3) := by decide +kernel
theorem e_Mail_at_11 : decode m_Mail_at.2.1 11 = .ok (.areturn, 1) := by decide +kernel
theorem e_Mail_take_0 : decode m_Mail_take.2.1 0 = .ok (.aload_n 0, 1) := by decide +kernel
theorem e_Mail_take_1 : decode m_Mail_take.2.1 1 = .ok (.getfield 12, 3) := by decide +kernel
theorem e_Mail_take_4 : decode m_Mail_take.2.1 4 = .ok (.iload_n 1, 1) := by decide +kernel
theorem e_Mail_take_5 : decode m_Mail_take.2.1 5 = .ok (.invokevirtual 31, 3) := by decide +kernel
theorem e_Mail_take_8 : decode m_Mail_take.2.1 8 = .ok (.checkcast 29, 3) := by decide +kernel
theorem e_Mail_take_11 : decode m_Mail_take.2.1 11 = .ok (.areturn, 1) := by decide +kernel
theorem e_Mail_giveBack_0 : decode m_Mail_giveBack.2.1 0 = .ok (.aload_n 0, 1) := by decide +kernel
theorem e_Mail_giveBack_1 : decode m_Mail_giveBack.2.1 1 = .ok (.getfield 18, 3) := by decide +kernel
theorem e_Mail_giveBack_4 : decode m_Mail_giveBack.2.1 4 = .ok (.aload_n 1, 1) := by decide +kernel
theorem e_Mail_giveBack_5 : decode m_Mail_giveBack.2.1 5 = .ok (.invokevirtual 34, 3) := by decide +kernel
theorem e_Mail_giveBack_8 : decode m_Mail_giveBack.2.1 8 = .ok (.pop, 1) := by decide +kernel
theorem e_Mail_giveBack_9 : decode m_Mail_giveBack.2.1 9 = .ok (.return_, 1) := by decide +kernel
theorem e_Mail_send_0 : decode m_Mail_send.2.1 0 = .ok (.iload_n 1, 1) := by decide +kernel
theorem e_Mail_send_1 : decode m_Mail_send.2.1 1 = .ok (.iconst 3, 1) := by decide +kernel
theorem e_Mail_send_2 : decode m_Mail_send.2.1 2 = .ok (.if_icmp .eq 12, 3) := by decide +kernel
theorem e_Mail_send_5 : decode m_Mail_send.2.1 5 = .ok (.aload_n 0, 1) := by decide +kernel
theorem e_Mail_send_6 : decode m_Mail_send.2.1 6 = .ok (.iload_n 1, 1) := by decide +kernel
theorem e_Mail_send_7 : decode m_Mail_send.2.1 7 = .ok (.iload_n 2, 1) := by decide +kernel
theorem e_Mail_send_8 : decode m_Mail_send.2.1 8 = .ok (.iload_n 3, 1) := by decide +kernel
theorem e_Mail_send_9 : decode m_Mail_send.2.1 9 = .ok (.iload 4, 2) := by decide +kernel
theorem e_Mail_send_11 : decode m_Mail_send.2.1 11 = .ok (.invokevirtual 38, 3) := by decide +kernel
theorem e_Mail_send_14 : decode m_Mail_send.2.1 14 = .ok (.aload_n 0, 1) := by decide +kernel
theorem e_Mail_send_15 : decode m_Mail_send.2.1 15 = .ok (.getfield 18, 3) := by decide +kernel
theorem e_Mail_send_18 : decode m_Mail_send.2.1 18 = .ok (.invokevirtual 42, 3) := by decide +kernel
theorem e_Mail_send_21 : decode m_Mail_send.2.1 21 = .ok (.ifCond .eq 13, 3) := by decide +kernel
theorem e_Mail_send_24 : decode m_Mail_send.2.1 24 = .ok (.new 29, 3) := by decide +kernel
theorem e_Mail_send_27 : decode m_Mail_send.2.1 27 = .ok (.dup, 1) := by decide +kernel
theorem e_Mail_send_28 : decode m_Mail_send.2.1 28 = .ok (.invokespecial 46, 3) := by decide +kernel
theorem e_Mail_send_31 : decode m_Mail_send.2.1 31 = .ok (.goto 22, 3) := by decide +kernel
theorem e_Mail_send_34 : decode m_Mail_send.2.1 34 = .ok (.aload_n 0, 1) := by decide +kernel
theorem e_Mail_send_35 : decode m_Mail_send.2.1 35 = .ok (.getfield 18, 3) := by decide +kernel
theorem e_Mail_send_38 : decode m_Mail_send.2.1 38 = .ok (.aload_n 0, 1) := by decide +kernel
theorem e_Mail_send_39 : decode m_Mail_send.2.1 39 = .ok (.getfield 18, 3) := by decide +kernel
theorem e_Mail_send_42 : decode m_Mail_send.2.1 42 = .ok (.invokevirtual 21, 3) := by decide +kernel
theorem e_Mail_send_45 : decode m_Mail_send.2.1 45 = .ok (.iconst 1, 1) := by decide +kernel
theorem e_Mail_send_46 : decode m_Mail_send.2.1 46 = .ok (.isub, 1) := by decide +kernel
theorem e_Mail_send_47 : decode m_Mail_send.2.1 47 = .ok (.invokevirtual 31, 3) := by decide +kernel
theorem e_Mail_send_50 : decode m_Mail_send.2.1 50 = .ok (.checkcast 29, 3) := by decide +kernel
theorem e_Mail_send_53 : decode m_Mail_send.2.1 53 = .ok (.astore 5, 2) := by decide +kernel
theorem e_Mail_send_55 : decode m_Mail_send.2.1 55 = .ok (.aload 5, 2) := by decide +kernel
theorem e_Mail_send_57 : decode m_Mail_send.2.1 57 = .ok (.iload_n 1, 1) := by decide +kernel
theorem e_Mail_send_58 : decode m_Mail_send.2.1 58 = .ok (.iload_n 2, 1) := by decide +kernel
theorem e_Mail_send_59 : decode m_Mail_send.2.1 59 = .ok (.iload_n 3, 1) := by decide +kernel
theorem e_Mail_send_60 : decode m_Mail_send.2.1 60 = .ok (.iload 4, 2) := by decide +kernel
theorem e_Mail_send_62 : decode m_Mail_send.2.1 62 = .ok (.invokevirtual 47, 3) := by decide +kernel
theorem e_Mail_send_65 : decode m_Mail_send.2.1 65 = .ok (.aload_n 0, 1) := by decide +kernel
theorem e_Mail_send_66 : decode m_Mail_send.2.1 66 = .ok (.getfield 12, 3) := by decide +kernel
theorem e_Mail_send_69 : decode m_Mail_send.2.1 69 = .ok (.aload 5, 2) := by decide +kernel
theorem e_Mail_send_71 : decode m_Mail_send.2.1 71 = .ok (.invokevirtual 34, 3) := by decide +kernel
theorem e_Mail_send_74 : decode m_Mail_send.2.1 74 = .ok (.pop, 1) := by decide +kernel
theorem e_Mail_send_75 : decode m_Mail_send.2.1 75 = .ok (.aload 5, 2) := by decide +kernel
theorem e_Mail_send_77 : decode m_Mail_send.2.1 77 = .ok (.areturn, 1) := by decide +kernel
theorem e_Mail_dropOlder_0 : decode m_Mail_dropOlder.2.1 0 = .ok (.iconst 0, 1) := by decide +kernel
theorem e_Mail_dropOlder_1 : decode m_Mail_dropOlder.2.1 1 = .ok (.istore 5, 2) := by decide +kernel
theorem e_Mail_dropOlder_3 : decode m_Mail_dropOlder.2.1 3 = .ok (.iload 5, 2) := by decide +kernel
theorem e_Mail_dropOlder_5 : decode m_Mail_dropOlder.2.1 5 = .ok (.aload_n 0, 1) := by decide +kernel
theorem e_Mail_dropOlder_6 : decode m_Mail_dropOlder.2.1 6 = .ok (.getfield 12, 3) := by decide +kernel
theorem e_Mail_dropOlder_9 : decode m_Mail_dropOlder.2.1 9 = .ok (.invokevirtual 21, 3) := by decide +kernel
theorem e_Mail_dropOlder_12 : decode m_Mail_dropOlder.2.1 12 = .ok (.if_icmp .ge 53, 3) := by decide +kernel
theorem e_Mail_dropOlder_15 : decode m_Mail_dropOlder.2.1 15 = .ok (.aload_n 0, 1) := by decide +kernel
theorem e_Mail_dropOlder_16 : decode m_Mail_dropOlder.2.1 16 = .ok (.getfield 12, 3) := by decide +kernel
theorem e_Mail_dropOlder_19 : decode m_Mail_dropOlder.2.1 19 = .ok (.iload 5, 2) := by decide +kernel
theorem e_Mail_dropOlder_21 : decode m_Mail_dropOlder.2.1 21 = .ok (.invokevirtual 25, 3) := by decide +kernel
theorem e_Mail_dropOlder_24 : decode m_Mail_dropOlder.2.1 24 = .ok (.checkcast 29, 3) := by decide +kernel
theorem e_Mail_dropOlder_27 : decode m_Mail_dropOlder.2.1 27 = .ok (.iload_n 1, 1) := by decide +kernel
theorem e_Mail_dropOlder_28 : decode m_Mail_dropOlder.2.1 28 = .ok (.iload_n 2, 1) := by decide +kernel
theorem e_Mail_dropOlder_29 : decode m_Mail_dropOlder.2.1 29 = .ok (.iload_n 3, 1) := by decide +kernel
theorem e_Mail_dropOlder_30 : decode m_Mail_dropOlder.2.1 30 = .ok (.iload 4, 2) := by decide +kernel
theorem e_Mail_dropOlder_32 : decode m_Mail_dropOlder.2.1 32 = .ok (.invokevirtual 50, 3) := by decide +kernel
theorem e_Mail_dropOlder_35 : decode m_Mail_dropOlder.2.1 35 = .ok (.ifCond .eq 24, 3) := by decide +kernel
theorem e_Mail_dropOlder_38 : decode m_Mail_dropOlder.2.1 38 = .ok (.aload_n 0, 1) := by decide +kernel
theorem e_Mail_dropOlder_39 : decode m_Mail_dropOlder.2.1 39 = .ok (.getfield 18, 3) := by decide +kernel
theorem e_Mail_dropOlder_42 : decode m_Mail_dropOlder.2.1 42 = .ok (.aload_n 0, 1) := by decide +kernel
theorem e_Mail_dropOlder_43 : decode m_Mail_dropOlder.2.1 43 = .ok (.getfield 12, 3) := by decide +kernel
theorem e_Mail_dropOlder_46 : decode m_Mail_dropOlder.2.1 46 = .ok (.iload 5, 2) := by decide +kernel
theorem e_Mail_dropOlder_48 : decode m_Mail_dropOlder.2.1 48 = .ok (.invokevirtual 31, 3) := by decide +kernel
theorem e_Mail_dropOlder_51 : decode m_Mail_dropOlder.2.1 51 = .ok (.checkcast 29, 3) := by decide +kernel
theorem e_Mail_dropOlder_54 : decode m_Mail_dropOlder.2.1 54 = .ok (.invokevirtual 34, 3) := by decide +kernel
theorem e_Mail_dropOlder_57 : decode m_Mail_dropOlder.2.1 57 = .ok (.pop, 1) := by decide +kernel
theorem e_Mail_dropOlder_58 : decode m_Mail_dropOlder.2.1 58 = .ok (.return_, 1) := by decide +kernel
theorem e_Mail_dropOlder_59 : decode m_Mail_dropOlder.2.1 59 = .ok (.iinc 5 1, 3) := by decide +kernel
theorem e_Mail_dropOlder_62 : decode m_Mail_dropOlder.2.1 62 = .ok (.goto (-59), 3) := by decide +kernel
theorem e_Mail_dropOlder_65 : decode m_Mail_dropOlder.2.1 65 = .ok (.return_, 1) := by decide +kernel
theorem e_Req_init_0 : decode m_Req_init.2.1 0 = .ok (.aload_n 0, 1) := by decide +kernel
theorem e_Req_init_1 : decode m_Req_init.2.1 1 = .ok (.invokespecial 1, 3) := by decide +kernel
theorem e_Req_init_4 : decode m_Req_init.2.1 4 = .ok (.aload_n 0, 1) := by decide +kernel
theorem e_Req_init_5 : decode m_Req_init.2.1 5 = .ok (.iload_n 1, 1) := by decide +kernel
theorem e_Req_init_6 : decode m_Req_init.2.1 6 = .ok (.putfield 7, 3) := by decide +kernel
theorem e_Req_init_9 : decode m_Req_init.2.1 9 = .ok (.aload_n 0, 1) := by decide +kernel
theorem e_Req_init_10 : decode m_Req_init.2.1 10 = .ok (.iload_n 2, 1) := by decide +kernel
theorem e_Req_init_11 : decode m_Req_init.2.1 11 = .ok (.putfield 13, 3) := by decide +kernel
theorem e_Req_init_14 : decode m_Req_init.2.1 14 = .ok (.aload_n 0, 1) := by decide +kernel
theorem e_Req_init_15 : decode m_Req_init.2.1 15 = .ok (.iload_n 3, 1) := by decide +kernel
theorem e_Req_init_16 : decode m_Req_init.2.1 16 = .ok (.putfield 16, 3) := by decide +kernel
theorem e_Req_init_19 : decode m_Req_init.2.1 19 = .ok (.return_, 1) := by decide +kernel
theorem e_Req_isOf_0 : decode m_Req_isOf.2.1 0 = .ok (.aload_n 0, 1) := by decide +kernel
theorem e_Req_isOf_1 : decode m_Req_isOf.2.1 1 = .ok (.getfield 7, 3) := by decide +kernel
theorem e_Req_isOf_4 : decode m_Req_isOf.2.1 4 = .ok (.iload_n 1, 1) := by decide +kernel
theorem e_Req_isOf_5 : decode m_Req_isOf.2.1 5 = .ok (.if_icmp .ne 15, 3) := by decide +kernel
theorem e_Req_isOf_8 : decode m_Req_isOf.2.1 8 = .ok (.aload_n 0, 1) := by decide +kernel
theorem e_Req_isOf_9 : decode m_Req_isOf.2.1 9 = .ok (.getfield 13, 3) := by decide +kernel
theorem e_Req_isOf_12 : decode m_Req_isOf.2.1 12 = .ok (.iload_n 2, 1) := by decide +kernel
theorem e_Req_isOf_13 : decode m_Req_isOf.2.1 13 = .ok (.if_icmp .gt 7, 3) := by decide +kernel
theorem e_Req_isOf_16 : decode m_Req_isOf.2.1 16 = .ok (.iconst 1, 1) := by decide +kernel
theorem e_Req_isOf_17 : decode m_Req_isOf.2.1 17 = .ok (.goto 4, 3) := by decide +kernel
theorem e_Req_isOf_20 : decode m_Req_isOf.2.1 20 = .ok (.iconst 0, 1) := by decide +kernel
theorem e_Req_isOf_21 : decode m_Req_isOf.2.1 21 = .ok (.ireturn, 1) := by decide +kernel
theorem e_Share_init_0 : decode m_Share_init.2.1 0 = .ok (.aload_n 0, 1) := by decide +kernel
theorem e_Share_init_1 : decode m_Share_init.2.1 1 = .ok (.invokespecial 3, 3) := by decide +kernel
theorem e_Share_init_4 : decode m_Share_init.2.1 4 = .ok (.aload_n 0, 1) := by decide +kernel
theorem e_Share_init_5 : decode m_Share_init.2.1 5 = .ok (.iconst (-1), 1) := by decide +kernel
theorem e_Share_init_6 : decode m_Share_init.2.1 6 = .ok (.putfield 9, 3) := by decide +kernel
theorem e_Share_init_9 : decode m_Share_init.2.1 9 = .ok (.return_, 1) := by decide +kernel
theorem e_Share_gain_0 : decode m_Share_gain.2.1 0 = .ok (.aload_n 0, 1) := by decide +kernel
theorem e_Share_gain_1 : decode m_Share_gain.2.1 1 = .ok (.dup, 1) := by decide +kernel
theorem e_Share_gain_2 : decode m_Share_gain.2.1 2 = .ok (.getfield 15, 3) := by decide +kernel
theorem e_Share_gain_5 : decode m_Share_gain.2.1 5 = .ok (.aload_n 1, 1) := by decide +kernel
theorem e_Share_gain_6 : decode m_Share_gain.2.1 6 = .ok (.getfield 18, 3) := by decide +kernel
theorem e_Share_gain_9 : decode m_Share_gain.2.1 9 = .ok (.iadd, 1) := by decide +kernel
theorem e_Share_gain_10 : decode m_Share_gain.2.1 10 = .ok (.putfield 15, 3) := by decide +kernel
theorem e_Share_gain_13 : decode m_Share_gain.2.1 13 = .ok (.aload_n 0, 1) := by decide +kernel
theorem e_Share_gain_14 : decode m_Share_gain.2.1 14 = .ok (.aload_n 0, 1) := by decide +kernel
theorem e_Share_gain_15 : decode m_Share_gain.2.1 15 = .ok (.getfield 21, 3) := by decide +kernel
theorem e_Share_gain_18 : decode m_Share_gain.2.1 18 = .ok (.ifCond .ne 10, 3) := by decide +kernel
theorem e_Share_gain_21 : decode m_Share_gain.2.1 21 = .ok (.aload_n 1, 1) := by decide +kernel
theorem e_Share_gain_22 : decode m_Share_gain.2.1 22 = .ok (.getfield 25, 3) := by decide +kernel
theorem e_Share_gain_25 : decode m_Share_gain.2.1 25 = .ok (.ifCond .eq 7, 3) := by decide +kernel
theorem e_Share_gain_28 : decode m_Share_gain.2.1 28 = .ok (.iconst 1, 1) := by decide +kernel
theorem e_Share_gain_29 : decode m_Share_gain.2.1 29 = .ok (.goto 4, 3) := by decide +kernel
theorem e_Share_gain_32 : decode m_Share_gain.2.1 32 = .ok (.iconst 0, 1) := by decide +kernel
theorem e_Share_gain_33 : decode m_Share_gain.2.1 33 = .ok (.putfield 21, 3) := by decide +kernel
theorem e_Share_gain_36 : decode m_Share_gain.2.1 36 = .ok (.aload_n 1, 1) := by decide +kernel
theorem e_Share_gain_37 : decode m_Share_gain.2.1 37 = .ok (.getfield 26, 3) := by decide +kernel
theorem e_Share_gain_40 : decode m_Share_gain.2.1 40 = .ok (.ifCond .eq 16, 3) := by decide +kernel
theorem e_Share_gain_43 : decode m_Share_gain.2.1 43 = .ok (.aload_n 0, 1) := by decide +kernel
theorem e_Share_gain_44 : decode m_Share_gain.2.1 44 = .ok (.iconst 1, 1) := by decide +kernel
theorem e_Share_gain_45 : decode m_Share_gain.2.1 45 = .ok (.putfield 29, 3) := by decide +kernel
theorem e_Share_gain_48 : decode m_Share_gain.2.1 48 = .ok (.aload_n 0, 1) := by decide +kernel
theorem e_Share_gain_49 : decode m_Share_gain.2.1 49 = .ok (.aload_n 1, 1) := by decide +kernel
theorem e_Share_gain_50 : decode m_Share_gain.2.1 50 = .ok (.getfield 32, 3) := by decide +kernel
theorem e_Share_gain_53 : decode m_Share_gain.2.1 53 = .ok (.putfield 35, 3) := by decide +kernel
theorem e_Share_gain_56 : decode m_Share_gain.2.1 56 = .ok (.return_, 1) := by decide +kernel
theorem e_Share_lose_0 : decode m_Share_lose.2.1 0 = .ok (.aload_n 0, 1) := by decide +kernel
theorem e_Share_lose_1 : decode m_Share_lose.2.1 1 = .ok (.dup, 1) := by decide +kernel
theorem e_Share_lose_2 : decode m_Share_lose.2.1 2 = .ok (.getfield 15, 3) := by decide +kernel
theorem e_Share_lose_5 : decode m_Share_lose.2.1 5 = .ok (.iload_n 1, 1) := by decide +kernel
theorem e_Share_lose_6 : decode m_Share_lose.2.1 6 = .ok (.isub, 1) := by decide +kernel
theorem e_Share_lose_7 : decode m_Share_lose.2.1 7 = .ok (.putfield 15, 3) := by decide +kernel
theorem e_Share_lose_10 : decode m_Share_lose.2.1 10 = .ok (.aload_n 0, 1) := by decide +kernel
theorem e_Share_lose_11 : decode m_Share_lose.2.1 11 = .ok (.aload_n 0, 1) := by decide +kernel
theorem e_Share_lose_12 : decode m_Share_lose.2.1 12 = .ok (.getfield 21, 3) := by decide +kernel
theorem e_Share_lose_15 : decode m_Share_lose.2.1 15 = .ok (.ifCond .eq 11, 3) := by decide +kernel
theorem e_Share_lose_18 : decode m_Share_lose.2.1 18 = .ok (.iload_n 2, 1) := by decide +kernel
theorem e_Share_lose_19 : decode m_Share_lose.2.1 19 = .ok (.ifCond .ne 7, 3) := by decide +kernel
theorem e_Share_lose_22 : decode m_Share_lose.2.1 22 = .ok (.iconst 1, 1) := by decide +kernel
theorem e_Share_lose_23 : decode m_Share_lose.2.1 23 = .ok (.goto 4, 3) := by decide +kernel
theorem e_Share_lose_26 : decode m_Share_lose.2.1 26 = .ok (.iconst 0, 1) := by decide +kernel
theorem e_Share_lose_27 : decode m_Share_lose.2.1 27 = .ok (.putfield 21, 3) := by decide +kernel
theorem e_Share_lose_30 : decode m_Share_lose.2.1 30 = .ok (.aload_n 0, 1) := by decide +kernel
theorem e_Share_lose_31 : decode m_Share_lose.2.1 31 = .ok (.aload_n 0, 1) := by decide +kernel
theorem e_Share_lose_32 : decode m_Share_lose.2.1 32 = .ok (.getfield 29, 3) := by decide +kernel
theorem e_Share_lose_35 : decode m_Share_lose.2.1 35 = .ok (.ifCond .eq 14, 3) := by decide +kernel
theorem e_Share_lose_38 : decode m_Share_lose.2.1 38 = .ok (.aload_n 0, 1) := by decide +kernel
theorem e_Share_lose_39 : decode m_Share_lose.2.1 39 = .ok (.getfield 15, 3) := by decide +kernel
theorem e_Share_lose_42 : decode m_Share_lose.2.1 42 = .ok (.ifCond .le 7, 3) := by decide +kernel
theorem e_Share_lose_45 : decode m_Share_lose.2.1 45 = .ok (.iconst 1, 1) := by decide +kernel
theorem e_Share_lose_46 : decode m_Share_lose.2.1 46 = .ok (.goto 4, 3) := by decide +kernel
theorem e_Share_lose_49 : decode m_Share_lose.2.1 49 = .ok (.iconst 0, 1) := by decide +kernel
theorem e_Share_lose_50 : decode m_Share_lose.2.1 50 = .ok (.putfield 29, 3) := by decide +kernel
theorem e_Share_lose_53 : decode m_Share_lose.2.1 53 = .ok (.return_, 1) := by decide +kernel
theorem e_Share_learn_0 : decode m_Share_learn.2.1 0 = .ok (.aload_n 0, 1) := by decide +kernel
theorem e_Share_learn_1 : decode m_Share_learn.2.1 1 = .ok (.iload_n 1, 1) := by decide +kernel
theorem e_Share_learn_2 : decode m_Share_learn.2.1 2 = .ok (.putfield 9, 3) := by decide +kernel
theorem e_Share_learn_5 : decode m_Share_learn.2.1 5 = .ok (.aload_n 0, 1) := by decide +kernel
theorem e_Share_learn_6 : decode m_Share_learn.2.1 6 = .ok (.iload_n 2, 1) := by decide +kernel
theorem e_Share_learn_7 : decode m_Share_learn.2.1 7 = .ok (.putfield 36, 3) := by decide +kernel
theorem e_Share_learn_10 : decode m_Share_learn.2.1 10 = .ok (.aload_n 0, 1) := by decide +kernel
theorem e_Share_learn_11 : decode m_Share_learn.2.1 11 = .ok (.iload_n 3, 1) := by decide +kernel
theorem e_Share_learn_12 : decode m_Share_learn.2.1 12 = .ok (.putfield 39, 3) := by decide +kernel
theorem e_Share_learn_15 : decode m_Share_learn.2.1 15 = .ok (.return_, 1) := by decide +kernel
theorem e_TM_init_0 : decode m_TM_init.2.1 0 = .ok (.aload_n 0, 1) := by decide +kernel
theorem e_TM_init_1 : decode m_TM_init.2.1 1 = .ok (.invokespecial 1, 3) := by decide +kernel
theorem e_TM_init_4 : decode m_TM_init.2.1 4 = .ok (.aload_n 0, 1) := by decide +kernel
theorem e_TM_init_5 : decode m_TM_init.2.1 5 = .ok (.iload_n 1, 1) := by decide +kernel
theorem e_TM_init_6 : decode m_TM_init.2.1 6 = .ok (.iconst 2, 1) := by decide +kernel
theorem e_TM_init_7 : decode m_TM_init.2.1 7 = .ok (.iconst 4, 1) := by decide +kernel
theorem e_TM_init_8 : decode m_TM_init.2.1 8 = .ok (.invokestatic 7, 3) := by decide +kernel
theorem e_TM_init_11 : decode m_TM_init.2.1 11 = .ok (.putfield 13, 3) := by decide +kernel
theorem e_TM_init_14 : decode m_TM_init.2.1 14 = .ok (.aload_n 0, 1) := by decide +kernel
theorem e_TM_init_15 : decode m_TM_init.2.1 15 = .ok (.iload_n 2, 1) := by decide +kernel
theorem e_TM_init_16 : decode m_TM_init.2.1 16 = .ok (.iconst 0, 1) := by decide +kernel
theorem e_TM_init_17 : decode m_TM_init.2.1 17 = .ok (.iconst 4, 1) := by decide +kernel
theorem e_TM_init_18 : decode m_TM_init.2.1 18 = .ok (.invokestatic 7, 3) := by decide +kernel
theorem e_TM_init_21 : decode m_TM_init.2.1 21 = .ok (.putfield 17, 3) := by decide +kernel
theorem e_TM_init_24 : decode m_TM_init.2.1 24 = .ok (.aload_n 0, 1) := by decide +kernel
theorem e_TM_init_25 : decode m_TM_init.2.1 25 = .ok (.iload_n 3, 1) := by decide +kernel
theorem e_TM_init_26 : decode m_TM_init.2.1 26 = .ok (.iconst 1, 1) := by decide +kernel
theorem e_TM_init_27 : decode m_TM_init.2.1 27 = .ok (.bipush 20, 2) := by decide +kernel
theorem e_TM_init_29 : decode m_TM_init.2.1 29 = .ok (.invokestatic 7, 3) := by decide +kernel
theorem e_TM_init_32 : decode m_TM_init.2.1 32 = .ok (.putfield 20, 3) := by decide +kernel
theorem e_TM_init_35 : decode m_TM_init.2.1 35 = .ok (.aload_n 0, 1) := by decide +kernel
theorem e_TM_init_36 : decode m_TM_init.2.1 36 = .ok (.aload_n 0, 1) := by decide +kernel
theorem e_TM_init_37 : decode m_TM_init.2.1 37 = .ok (.getfield 13, 3) := by decide +kernel
theorem e_TM_init_40 : decode m_TM_init.2.1 40 = .ok (.putfield 23, 3) := by decide +kernel
theorem e_TM_init_43 : decode m_TM_init.2.1 43 = .ok (.aload_n 0, 1) := by decide +kernel
theorem e_TM_init_44 : decode m_TM_init.2.1 44 = .ok (.aload_n 0, 1) := by decide +kernel
theorem e_TM_init_45 : decode m_TM_init.2.1 45 = .ok (.getfield 13, 3) := by decide +kernel
theorem e_TM_init_48 : decode m_TM_init.2.1 48 = .ok (.iconst 1, 1) := by decide +kernel
theorem e_TM_init_49 : decode m_TM_init.2.1 49 = .ok (.iadd, 1) := by decide +kernel
theorem e_TM_init_50 : decode m_TM_init.2.1 50 = .ok (.putfield 26, 3) := by decide +kernel
theorem e_TM_init_53 : decode m_TM_init.2.1 53 = .ok (.aload_n 0, 1) := by decide +kernel
theorem e_TM_init_54 : decode m_TM_init.2.1 54 = .ok (.aload_n 0, 1) := by decide +kernel
theorem e_TM_init_55 : decode m_TM_init.2.1 55 = .ok (.getfield 13, 3) := by decide +kernel
theorem e_TM_init_58 : decode m_TM_init.2.1 58 = .ok (.iconst 1, 1) := by decide +kernel
theorem e_TM_init_59 : decode m_TM_init.2.1 59 = .ok (.iadd, 1) := by decide +kernel
theorem e_TM_init_60 : decode m_TM_init.2.1 60 = .ok (.iconst 2, 1) := by decide +kernel
theorem e_TM_init_61 : decode m_TM_init.2.1 61 = .ok (.imul, 1) := by decide +kernel
theorem e_TM_init_62 : decode m_TM_init.2.1 62 = .ok (.anewarray 29, 3) := by decide +kernel
theorem e_TM_init_65 : decode m_TM_init.2.1 65 = .ok (.putfield 31, 3) := by decide +kernel
theorem e_TM_init_68 : decode m_TM_init.2.1 68 = .ok (.iconst 0, 1) := by decide +kernel
theorem e_TM_init_69 : decode m_TM_init.2.1 69 = .ok (.istore 4, 2) := by decide +kernel
theorem e_TM_init_71 : decode m_TM_init.2.1 71 = .ok (.iload 4, 2) := by decide +kernel
theorem e_TM_init_73 : decode m_TM_init.2.1 73 = .ok (.aload_n 0, 1) := by decide +kernel
theorem e_TM_init_74 : decode m_TM_init.2.1 74 = .ok (.getfield 31, 3) := by decide +kernel
theorem e_TM_init_77 : decode m_TM_init.2.1 77 = .ok (.arraylength, 1) := by decide +kernel
theorem e_TM_init_78 : decode m_TM_init.2.1 78 = .ok (.if_icmp .ge 23, 3) := by decide +kernel
theorem e_TM_init_81 : decode m_TM_init.2.1 81 = .ok (.aload_n 0, 1) := by decide +kernel
theorem e_TM_init_82 : decode m_TM_init.2.1 82 = .ok (.getfield 31, 3) := by decide +kernel
theorem e_TM_init_85 : decode m_TM_init.2.1 85 = .ok (.iload 4, 2) := by decide +kernel
theorem e_TM_init_87 : decode m_TM_init.2.1 87 = .ok (.new 29, 3) := by decide +kernel
theorem e_TM_init_90 : decode m_TM_init.2.1 90 = .ok (.dup, 1) := by decide +kernel
theorem e_TM_init_91 : decode m_TM_init.2.1 91 = .ok (.invokespecial 35, 3) := by decide +kernel
theorem e_TM_init_94 : decode m_TM_init.2.1 94 = .ok (.aastore, 1) := by decide +kernel
theorem e_TM_init_95 : decode m_TM_init.2.1 95 = .ok (.iinc 4 1, 3) := by decide +kernel
theorem e_TM_init_98 : decode m_TM_init.2.1 98 = .ok (.goto (-27), 3) := by decide +kernel
theorem e_TM_init_101 : decode m_TM_init.2.1 101 = .ok (.aload_n 0, 1) := by decide +kernel
theorem e_TM_init_102 : decode m_TM_init.2.1 102 = .ok (.aload_n 0, 1) := by decide +kernel
theorem e_TM_init_103 : decode m_TM_init.2.1 103 = .ok (.getfield 13, 3) := by decide +kernel
theorem e_TM_init_106 : decode m_TM_init.2.1 106 = .ok (.anewarray 36, 3) := by decide +kernel
theorem e_TM_init_109 : decode m_TM_init.2.1 109 = .ok (.putfield 38, 3) := by decide +kernel
theorem e_TM_init_112 : decode m_TM_init.2.1 112 = .ok (.iconst 0, 1) := by decide +kernel
theorem e_TM_init_113 : decode m_TM_init.2.1 113 = .ok (.istore 4, 2) := by decide +kernel
theorem e_TM_init_115 : decode m_TM_init.2.1 115 = .ok (.iload 4, 2) := by decide +kernel
theorem e_TM_init_117 : decode m_TM_init.2.1 117 = .ok (.aload_n 0, 1) := by decide +kernel
theorem e_TM_init_118 : decode m_TM_init.2.1 118 = .ok (.getfield 38, 3) := by decide +kernel
theorem e_TM_init_121 : decode m_TM_init.2.1 121 = .ok (.arraylength, 1) := by decide +kernel
theorem e_TM_init_122 : decode m_TM_init.2.1 122 = .ok (.if_icmp .ge 23, 3) := by decide +kernel
theorem e_TM_init_125 : decode m_TM_init.2.1 125 = .ok (.aload_n 0, 1) := by decide +kernel
theorem e_TM_init_126 : decode m_TM_init.2.1 126 = .ok (.getfield 38, 3) := by decide +kernel
theorem e_TM_init_129 : decode m_TM_init.2.1 129 = .ok (.iload 4, 2) := by decide +kernel
theorem e_TM_init_131 : decode m_TM_init.2.1 131 = .ok (.new 36, 3) := by decide +kernel
theorem e_TM_init_134 : decode m_TM_init.2.1 134 = .ok (.dup, 1) := by decide +kernel
theorem e_TM_init_135 : decode m_TM_init.2.1 135 = .ok (.invokespecial 42, 3) := by decide +kernel
theorem e_TM_init_138 : decode m_TM_init.2.1 138 = .ok (.aastore, 1) := by decide +kernel
theorem e_TM_init_139 : decode m_TM_init.2.1 139 = .ok (.iinc 4 1, 3) := by decide +kernel
theorem e_TM_init_142 : decode m_TM_init.2.1 142 = .ok (.goto (-27), 3) := by decide +kernel
theorem e_TM_init_145 : decode m_TM_init.2.1 145 = .ok (.aload_n 0, 1) := by decide +kernel
theorem e_TM_init_146 : decode m_TM_init.2.1 146 = .ok (.aload_n 0, 1) := by decide +kernel
theorem e_TM_init_147 : decode m_TM_init.2.1 147 = .ok (.getfield 13, 3) := by decide +kernel
theorem e_TM_init_150 : decode m_TM_init.2.1 150 = .ok (.newarray .int, 2) := by decide +kernel
theorem e_TM_init_152 : decode m_TM_init.2.1 152 = .ok (.putfield 43, 3) := by decide +kernel
theorem e_TM_init_155 : decode m_TM_init.2.1 155 = .ok (.aload_n 0, 1) := by decide +kernel
theorem e_TM_init_156 : decode m_TM_init.2.1 156 = .ok (.iconst 2, 1) := by decide +kernel
theorem e_TM_init_157 : decode m_TM_init.2.1 157 = .ok (.anewarray 47, 3) := by decide +kernel
theorem e_TM_init_160 : decode m_TM_init.2.1 160 = .ok (.putfield 49, 3) := by decide +kernel
theorem e_TM_init_163 : decode m_TM_init.2.1 163 = .ok (.iconst 0, 1) := by decide +kernel
theorem e_TM_init_164 : decode m_TM_init.2.1 164 = .ok (.istore 4, 2) := by decide +kernel
theorem e_TM_init_166 : decode m_TM_init.2.1 166 = .ok (.iload 4, 2) := by decide +kernel
theorem e_TM_init_168 : decode m_TM_init.2.1 168 = .ok (.iconst 2, 1) := by decide +kernel
theorem e_TM_init_169 : decode m_TM_init.2.1 169 = .ok (.if_icmp .ge 60, 3) := by decide +kernel
theorem e_TM_init_172 : decode m_TM_init.2.1 172 = .ok (.aload_n 0, 1) := by decide +kernel
theorem e_TM_init_173 : decode m_TM_init.2.1 173 = .ok (.getfield 49, 3) := by decide +kernel
theorem e_TM_init_176 : decode m_TM_init.2.1 176 = .ok (.iload 4, 2) := by decide +kernel
theorem e_TM_init_178 : decode m_TM_init.2.1 178 = .ok (.new 47, 3) := by decide +kernel
theorem e_TM_init_181 : decode m_TM_init.2.1 181 = .ok (.dup, 1) := by decide +kernel
theorem e_TM_init_182 : decode m_TM_init.2.1 182 = .ok (.invokespecial 53, 3) := by decide +kernel
theorem e_TM_init_185 : decode m_TM_init.2.1 185 = .ok (.aastore, 1) := by decide +kernel
theorem e_TM_init_186 : decode m_TM_init.2.1 186 = .ok (.aload_n 0, 1) := by decide +kernel
theorem e_TM_init_187 : decode m_TM_init.2.1 187 = .ok (.getfield 31, 3) := by decide +kernel
theorem e_TM_init_190 : decode m_TM_init.2.1 190 = .ok (.aload_n 0, 1) := by decide +kernel
theorem e_TM_init_191 : decode m_TM_init.2.1 191 = .ok (.getfield 23, 3) := by decide +kernel
theorem e_TM_init_194 : decode m_TM_init.2.1 194 = .ok (.iconst 2, 1) := by decide +kernel
theorem e_TM_init_195 : decode m_TM_init.2.1 195 = .ok (.imul, 1) := by decide +kernel
theorem e_TM_init_196 : decode m_TM_init.2.1 196 = .ok (.iload 4, 2) := by decide +kernel
theorem e_TM_init_198 : decode m_TM_init.2.1 198 = .ok (.iadd, 1) := by decide +kernel
theorem e_TM_init_199 : decode m_TM_init.2.1 199 = .ok (.aaload, 1) := by decide +kernel
theorem e_TM_init_200 : decode m_TM_init.2.1 200 = .ok (.astore 5, 2) := by decide +kernel
theorem e_TM_init_202 : decode m_TM_init.2.1 202 = .ok (.aload 5, 2) := by decide +kernel
theorem e_TM_init_204 : decode m_TM_init.2.1 204 = .ok (.aload_n 0, 1) := by decide +kernel
theorem e_TM_init_205 : decode m_TM_init.2.1 205 = .ok (.getfield 26, 3) := by decide +kernel
theorem e_TM_init_208 : decode m_TM_init.2.1 208 = .ok (.putfield 54, 3) := by decide +kernel
theorem e_TM_init_211 : decode m_TM_init.2.1 211 = .ok (.aload 5, 2) := by decide +kernel
theorem e_TM_init_213 : decode m_TM_init.2.1 213 = .ok (.iconst 1, 1) := by decide +kernel
theorem e_TM_init_214 : decode m_TM_init.2.1 214 = .ok (.putfield 57, 3) := by decide +kernel
theorem e_TM_init_217 : decode m_TM_init.2.1 217 = .ok (.aload 5, 2) := by decide +kernel
theorem e_TM_init_219 : decode m_TM_init.2.1 219 = .ok (.iconst 1, 1) := by decide +kernel
theorem e_TM_init_220 : decode m_TM_init.2.1 220 = .ok (.putfield 61, 3) := by decide +kernel
theorem e_TM_init_223 : decode m_TM_init.2.1 223 = .ok (.iinc 4 1, 3) := by decide +kernel
theorem e_TM_init_226 : decode m_TM_init.2.1 226 = .ok (.goto (-60), 3) := by decide +kernel
theorem e_TM_init_229 : decode m_TM_init.2.1 229 = .ok (.aload_n 0, 1) := by decide +kernel
theorem e_TM_init_230 : decode m_TM_init.2.1 230 = .ok (.new 64, 3) := by decide +kernel
theorem e_TM_init_233 : decode m_TM_init.2.1 233 = .ok (.dup, 1) := by decide +kernel
theorem e_TM_init_234 : decode m_TM_init.2.1 234 = .ok (.invokespecial 66, 3) := by decide +kernel
theorem e_TM_init_237 : decode m_TM_init.2.1 237 = .ok (.putfield 67, 3) := by decide +kernel
theorem e_TM_init_240 : decode m_TM_init.2.1 240 = .ok (.return_, 1) := by decide +kernel
theorem e_TM_issue_0 : decode m_TM_issue.2.1 0 = .ok (.aload_n 0, 1) := by decide +kernel
theorem e_TM_issue_1 : decode m_TM_issue.2.1 1 = .ok (.iload_n 1, 1) := by decide +kernel
theorem e_TM_issue_2 : decode m_TM_issue.2.1 2 = .ok (.invokevirtual 71, 3) := by decide +kernel
theorem e_TM_issue_5 : decode m_TM_issue.2.1 5 = .ok (.ifCond .eq 10, 3) := by decide +kernel
theorem e_TM_issue_8 : decode m_TM_issue.2.1 8 = .ok (.iload_n 3, 1) := by decide +kernel
theorem e_TM_issue_9 : decode m_TM_issue.2.1 9 = .ok (.invokestatic 75, 3) := by decide +kernel
theorem e_TM_issue_12 : decode m_TM_issue.2.1 12 = .ok (.ifCond .ne 5, 3) := by decide +kernel
theorem e_TM_issue_15 : decode m_TM_issue.2.1 15 = .ok (.iconst (-1), 1) := by decide +kernel
theorem e_TM_issue_16 : decode m_TM_issue.2.1 16 = .ok (.ireturn, 1) := by decide +kernel
theorem e_TM_issue_17 : decode m_TM_issue.2.1 17 = .ok (.aload_n 0, 1) := by decide +kernel
theorem e_TM_issue_18 : decode m_TM_issue.2.1 18 = .ok (.getfield 38, 3) := by decide +kernel
theorem e_TM_issue_21 : decode m_TM_issue.2.1 21 = .ok (.iload_n 1, 1) := by decide +kernel
theorem e_TM_issue_22 : decode m_TM_issue.2.1 22 = .ok (.aaload, 1) := by decide +kernel
theorem e_TM_issue_23 : decode m_TM_issue.2.1 23 = .ok (.astore 5, 2) := by decide +kernel
theorem e_TM_issue_25 : decode m_TM_issue.2.1 25 = .ok (.aload 5, 2) := by decide +kernel
theorem e_TM_issue_27 : decode m_TM_issue.2.1 27 = .ok (.getfield 78, 3) := by decide +kernel
theorem e_TM_issue_30 : decode m_TM_issue.2.1 30 = .ok (.ifCond .eq 6, 3) := by decide +kernel
theorem e_TM_issue_33 : decode m_TM_issue.2.1 33 = .ok (.bipush (-2), 2) := by decide +kernel
theorem e_TM_issue_35 : decode m_TM_issue.2.1 35 = .ok (.ireturn, 1) := by decide +kernel
theorem e_TM_issue_36 : decode m_TM_issue.2.1 36 = .ok (.aload 5, 2) := by decide +kernel
theorem e_TM_issue_38 : decode m_TM_issue.2.1 38 = .ok (.iload_n 2, 1) := by decide +kernel
theorem e_TM_issue_39 : decode m_TM_issue.2.1 39 = .ok (.iload_n 3, 1) := by decide +kernel
theorem e_TM_issue_40 : decode m_TM_issue.2.1 40 = .ok (.iload 4, 2) := by decide +kernel
theorem e_TM_issue_42 : decode m_TM_issue.2.1 42 = .ok (.invokevirtual 81, 3) := by decide +kernel
theorem e_TM_issue_45 : decode m_TM_issue.2.1 45 = .ok (.aload_n 0, 1) := by decide +kernel
theorem e_TM_issue_46 : decode m_TM_issue.2.1 46 = .ok (.iload_n 1, 1) := by decide +kernel
theorem e_TM_issue_47 : decode m_TM_issue.2.1 47 = .ok (.invokevirtual 85, 3) := by decide +kernel
theorem e_TM_issue_50 : decode m_TM_issue.2.1 50 = .ok (.ifCond .eq 10, 3) := by decide +kernel
theorem e_TM_issue_53 : decode m_TM_issue.2.1 53 = .ok (.aload_n 0, 1) := by decide +kernel
theorem e_TM_issue_54 : decode m_TM_issue.2.1 54 = .ok (.iload_n 1, 1) := by decide +kernel
theorem e_TM_issue_55 : decode m_TM_issue.2.1 55 = .ok (.invokevirtual 88, 3) := by decide +kernel
theorem e_TM_issue_58 : decode m_TM_issue.2.1 58 = .ok (.iconst 1, 1) := by decide +kernel
theorem e_TM_issue_59 : decode m_TM_issue.2.1 59 = .ok (.ireturn, 1) := by decide +kernel
theorem e_TM_issue_60 : decode m_TM_issue.2.1 60 = .ok (.aload 5, 2) := by decide +kernel
theorem e_TM_issue_62 : decode m_TM_issue.2.1 62 = .ok (.aload_n 0, 1) := by decide +kernel
theorem e_TM_issue_63 : decode m_TM_issue.2.1 63 = .ok (.getfield 92, 3) := by decide +kernel
theorem e_TM_issue_66 : decode m_TM_issue.2.1 66 = .ok (.aload_n 0, 1) := by decide +kernel
theorem e_TM_issue_67 : decode m_TM_issue.2.1 67 = .ok (.getfield 20, 3) := by decide +kernel
theorem e_TM_issue_70 : decode m_TM_issue.2.1 70 = .ok (.iadd, 1) := by decide +kernel
theorem e_TM_issue_71 : decode m_TM_issue.2.1 71 = .ok (.putfield 95, 3) := by decide +kernel
theorem e_TM_issue_74 : decode m_TM_issue.2.1 74 = .ok (.aload_n 0, 1) := by decide +kernel
theorem e_TM_issue_75 : decode m_TM_issue.2.1 75 = .ok (.iload_n 1, 1) := by decide +kernel
theorem e_TM_issue_76 : decode m_TM_issue.2.1 76 = .ok (.invokevirtual 98, 3) := by decide +kernel
theorem e_TM_issue_79 : decode m_TM_issue.2.1 79 = .ok (.iconst 0, 1) := by decide +kernel
theorem e_TM_issue_80 : decode m_TM_issue.2.1 80 = .ok (.ireturn, 1) := by decide +kernel
theorem e_TM_tick_0 : decode m_TM_tick.2.1 0 = .ok (.iload_n 1, 1) := by decide +kernel
theorem e_TM_tick_1 : decode m_TM_tick.2.1 1 = .ok (.iconst 1, 1) := by decide +kernel
theorem e_TM_tick_2 : decode m_TM_tick.2.1 2 = .ok (.if_icmp .lt 9, 3) := by decide +kernel
theorem e_TM_tick_5 : decode m_TM_tick.2.1 5 = .ok (.iload_n 1, 1) := by decide +kernel
theorem e_TM_tick_6 : decode m_TM_tick.2.1 6 = .ok (.bipush 50, 2) := by decide +kernel
theorem e_TM_tick_8 : decode m_TM_tick.2.1 8 = .ok (.if_icmp .le 5, 3) := by decide +kernel
theorem e_TM_tick_11 : decode m_TM_tick.2.1 11 = .ok (.iconst (-1), 1) := by decide +kernel
theorem e_TM_tick_12 : decode m_TM_tick.2.1 12 = .ok (.ireturn, 1) := by decide +kernel
theorem e_TM_tick_13 : decode m_TM_tick.2.1 13 = .ok (.iconst 0, 1) := by decide +kernel
theorem e_TM_tick_14 : decode m_TM_tick.2.1 14 = .ok (.istore_n 2, 1) := by decide +kernel
theorem e_TM_tick_15 : decode m_TM_tick.2.1 15 = .ok (.iload_n 2, 1) := by decide +kernel
theorem e_TM_tick_16 : decode m_TM_tick.2.1 16 = .ok (.iload_n 1, 1) := by decide +kernel
theorem e_TM_tick_17 : decode m_TM_tick.2.1 17 = .ok (.if_icmp .ge 56, 3) := by decide +kernel
theorem e_TM_tick_20 : decode m_TM_tick.2.1 20 = .ok (.aload_n 0, 1) := by decide +kernel
theorem e_TM_tick_21 : decode m_TM_tick.2.1 21 = .ok (.dup, 1) := by decide +kernel
theorem e_TM_tick_22 : decode m_TM_tick.2.1 22 = .ok (.getfield 92, 3) := by decide +kernel
theorem e_TM_tick_25 : decode m_TM_tick.2.1 25 = .ok (.iconst 1, 1) := by decide +kernel
theorem e_TM_tick_26 : decode m_TM_tick.2.1 26 = .ok (.iadd, 1) := by decide +kernel
theorem e_TM_tick_27 : decode m_TM_tick.2.1 27 = .ok (.putfield 92, 3) := by decide +kernel
theorem e_TM_tick_30 : decode m_TM_tick.2.1 30 = .ok (.iconst 0, 1) := by decide +kernel
theorem e_TM_tick_31 : decode m_TM_tick.2.1 31 = .ok (.istore_n 3, 1) := by decide +kernel
theorem e_TM_tick_32 : decode m_TM_tick.2.1 32 = .ok (.iload_n 3, 1) := by decide +kernel
theorem e_TM_tick_33 : decode m_TM_tick.2.1 33 = .ok (.aload_n 0, 1) := by decide +kernel
theorem e_TM_tick_34 : decode m_TM_tick.2.1 34 = .ok (.getfield 13, 3) := by decide +kernel
theorem e_TM_tick_37 : decode m_TM_tick.2.1 37 = .ok (.if_icmp .ge 30, 3) := by decide +kernel
theorem e_TM_tick_40 : decode m_TM_tick.2.1 40 = .ok (.aload_n 0, 1) := by decide +kernel
theorem e_TM_tick_41 : decode m_TM_tick.2.1 41 = .ok (.getfield 38, 3) := by decide +kernel
theorem e_TM_tick_44 : decode m_TM_tick.2.1 44 = .ok (.iload_n 3, 1) := by decide +kernel
theorem e_TM_tick_45 : decode m_TM_tick.2.1 45 = .ok (.aaload, 1) := by decide +kernel
theorem e_TM_tick_46 : decode m_TM_tick.2.1 46 = .ok (.aload_n 0, 1) := by decide +kernel
theorem e_TM_tick_47 : decode m_TM_tick.2.1 47 = .ok (.getfield 92, 3) := by decide +kernel
theorem e_TM_tick_50 : decode m_TM_tick.2.1 50 = .ok (.invokevirtual 101, 3) := by decide +kernel
theorem e_TM_tick_53 : decode m_TM_tick.2.1 53 = .ok (.ifCond .eq 8, 3) := by decide +kernel
theorem e_TM_tick_56 : decode m_TM_tick.2.1 56 = .ok (.aload_n 0, 1) := by decide +kernel
theorem e_TM_tick_57 : decode m_TM_tick.2.1 57 = .ok (.iload_n 3, 1) := by decide +kernel
theorem e_TM_tick_58 : decode m_TM_tick.2.1 58 = .ok (.invokevirtual 104, 3) := by decide +kernel
theorem e_TM_tick_61 : decode m_TM_tick.2.1 61 = .ok (.iinc 3 1, 3) := by decide +kernel
theorem e_TM_tick_64 : decode m_TM_tick.2.1 64 = .ok (.goto (-32), 3) := by decide +kernel
theorem e_TM_tick_67 : decode m_TM_tick.2.1 67 = .ok (.iinc 2 1, 3) := by decide +kernel
theorem e_TM_tick_70 : decode m_TM_tick.2.1 70 = .ok (.goto (-55), 3) := by decide +kernel
theorem e_TM_tick_73 : decode m_TM_tick.2.1 73 = .ok (.aload_n 0, 1) := by decide +kernel
theorem e_TM_tick_74 : decode m_TM_tick.2.1 74 = .ok (.getfield 92, 3) := by decide +kernel
theorem e_TM_tick_77 : decode m_TM_tick.2.1 77 = .ok (.ireturn, 1) := by decide +kernel
theorem e_TM_deliver_0 : decode m_TM_deliver.2.1 0 = .ok (.aload_n 0, 1) := by decide +kernel
theorem e_TM_deliver_1 : decode m_TM_deliver.2.1 1 = .ok (.getfield 67, 3) := by decide +kernel
theorem e_TM_deliver_4 : decode m_TM_deliver.2.1 4 = .ok (.iload_n 1, 1) := by decide +kernel
theorem e_TM_deliver_5 : decode m_TM_deliver.2.1 5 = .ok (.invokevirtual 107, 3) := by decide +kernel
theorem e_TM_deliver_8 : decode m_TM_deliver.2.1 8 = .ok (.ifCond .ne 5, 3) := by decide +kernel
theorem e_TM_deliver_11 : decode m_TM_deliver.2.1 11 = .ok (.iconst (-1), 1) := by decide +kernel
theorem e_TM_deliver_12 : decode m_TM_deliver.2.1 12 = .ok (.ireturn, 1) := by decide +kernel
theorem e_TM_deliver_13 : decode m_TM_deliver.2.1 13 = .ok (.aload_n 0, 1) := by decide +kernel
theorem e_TM_deliver_14 : decode m_TM_deliver.2.1 14 = .ok (.getfield 67, 3) := by decide +kernel
theorem e_TM_deliver_17 : decode m_TM_deliver.2.1 17 = .ok (.iload_n 1, 1) := by decide +kernel
theorem e_TM_deliver_18 : decode m_TM_deliver.2.1 18 = .ok (.invokevirtual 110, 3) := by decide +kernel
theorem e_TM_deliver_21 : decode m_TM_deliver.2.1 21 = .ok (.astore_n 2, 1) := by decide +kernel
theorem e_TM_deliver_22 : decode m_TM_deliver.2.1 22 = .ok (.aload_n 2, 1) := by decide +kernel
theorem e_TM_deliver_23 : decode m_TM_deliver.2.1 23 = .ok (.getfield 114, 3) := by decide +kernel
theorem e_TM_deliver_26 : decode m_TM_deliver.2.1 26 = .ok (.istore_n 3, 1) := by decide +kernel
theorem e_TM_deliver_27 : decode m_TM_deliver.2.1 27 = .ok (.iload_n 3, 1) := by decide +kernel
theorem e_TM_deliver_28 : decode m_TM_deliver.2.1 28 = .ok (.tableswitch 113 1 5 #[36, 55, 74, 82, 105], 36) := by decide +kernel
theorem e_TM_deliver_64 : decode m_TM_deliver.2.1 64 = .ok (.aload_n 0, 1) := by decide +kernel
theorem e_TM_deliver_65 : decode m_TM_deliver.2.1 65 = .ok (.aload_n 2, 1) := by decide +kernel
theorem e_TM_deliver_66 : decode m_TM_deliver.2.1 66 = .ok (.getfield 119, 3) := by decide +kernel
theorem e_TM_deliver_69 : decode m_TM_deliver.2.1 69 = .ok (.aload_n 2, 1) := by decide +kernel
theorem e_TM_deliver_70 : decode m_TM_deliver.2.1 70 = .ok (.getfield 122, 3) := by decide +kernel
theorem e_TM_deliver_73 : decode m_TM_deliver.2.1 73 = .ok (.aload_n 2, 1) := by decide +kernel
theorem e_TM_deliver_74 : decode m_TM_deliver.2.1 74 = .ok (.getfield 125, 3) := by decide +kernel
theorem e_TM_deliver_77 : decode m_TM_deliver.2.1 77 = .ok (.invokevirtual 128, 3) := by decide +kernel
theorem e_TM_deliver_80 : decode m_TM_deliver.2.1 80 = .ok (.goto 73, 3) := by decide +kernel
theorem e_TM_deliver_83 : decode m_TM_deliver.2.1 83 = .ok (.aload_n 0, 1) := by decide +kernel
theorem e_TM_deliver_84 : decode m_TM_deliver.2.1 84 = .ok (.aload_n 2, 1) := by decide +kernel
theorem e_TM_deliver_85 : decode m_TM_deliver.2.1 85 = .ok (.getfield 119, 3) := by decide +kernel
theorem e_TM_deliver_88 : decode m_TM_deliver.2.1 88 = .ok (.aload_n 2, 1) := by decide +kernel
theorem e_TM_deliver_89 : decode m_TM_deliver.2.1 89 = .ok (.getfield 122, 3) := by decide +kernel
theorem e_TM_deliver_92 : decode m_TM_deliver.2.1 92 = .ok (.aload_n 2, 1) := by decide +kernel
theorem e_TM_deliver_93 : decode m_TM_deliver.2.1 93 = .ok (.getfield 125, 3) := by decide +kernel
theorem e_TM_deliver_96 : decode m_TM_deliver.2.1 96 = .ok (.invokevirtual 132, 3) := by decide +kernel
theorem e_TM_deliver_99 : decode m_TM_deliver.2.1 99 = .ok (.goto 54, 3) := by decide +kernel
theorem e_TM_deliver_102 : decode m_TM_deliver.2.1 102 = .ok (.aload_n 0, 1) := by decide +kernel
theorem e_TM_deliver_103 : decode m_TM_deliver.2.1 103 = .ok (.aload_n 2, 1) := by decide +kernel
theorem e_TM_deliver_104 : decode m_TM_deliver.2.1 104 = .ok (.invokevirtual 135, 3) := by decide +kernel
theorem e_TM_deliver_107 : decode m_TM_deliver.2.1 107 = .ok (.goto 46, 3) := by decide +kernel
theorem e_TM_deliver_110 : decode m_TM_deliver.2.1 110 = .ok (.aload_n 0, 1) := by decide +kernel
theorem e_TM_deliver_111 : decode m_TM_deliver.2.1 111 = .ok (.aload_n 2, 1) := by decide +kernel
theorem e_TM_deliver_112 : decode m_TM_deliver.2.1 112 = .ok (.getfield 125, 3) := by decide +kernel
theorem e_TM_deliver_115 : decode m_TM_deliver.2.1 115 = .ok (.aload_n 2, 1) := by decide +kernel
theorem e_TM_deliver_116 : decode m_TM_deliver.2.1 116 = .ok (.getfield 122, 3) := by decide +kernel
theorem e_TM_deliver_119 : decode m_TM_deliver.2.1 119 = .ok (.aload_n 2, 1) := by decide +kernel
theorem e_TM_deliver_120 : decode m_TM_deliver.2.1 120 = .ok (.getfield 139, 3) := by decide +kernel
theorem e_TM_deliver_123 : decode m_TM_deliver.2.1 123 = .ok (.aload_n 2, 1) := by decide +kernel
theorem e_TM_deliver_124 : decode m_TM_deliver.2.1 124 = .ok (.getfield 142, 3) := by decide +kernel
theorem e_TM_deliver_127 : decode m_TM_deliver.2.1 127 = .ok (.invokevirtual 145, 3) := by decide +kernel
theorem e_TM_deliver_130 : decode m_TM_deliver.2.1 130 = .ok (.goto 23, 3) := by decide +kernel
theorem e_TM_deliver_133 : decode m_TM_deliver.2.1 133 = .ok (.aload_n 0, 1) := by decide +kernel
theorem e_TM_deliver_134 : decode m_TM_deliver.2.1 134 = .ok (.aload_n 2, 1) := by decide +kernel
theorem e_TM_deliver_135 : decode m_TM_deliver.2.1 135 = .ok (.invokevirtual 149, 3) := by decide +kernel
theorem e_TM_deliver_138 : decode m_TM_deliver.2.1 138 = .ok (.goto 15, 3) := by decide +kernel
theorem e_TM_deliver_141 : decode m_TM_deliver.2.1 141 = .ok (.aload_n 0, 1) := by decide +kernel
theorem e_TM_deliver_142 : decode m_TM_deliver.2.1 142 = .ok (.aload_n 2, 1) := by decide +kernel
theorem e_TM_deliver_143 : decode m_TM_deliver.2.1 143 = .ok (.getfield 125, 3) := by decide +kernel
theorem e_TM_deliver_146 : decode m_TM_deliver.2.1 146 = .ok (.aload_n 2, 1) := by decide +kernel
theorem e_TM_deliver_147 : decode m_TM_deliver.2.1 147 = .ok (.getfield 139, 3) := by decide +kernel
theorem e_TM_deliver_150 : decode m_TM_deliver.2.1 150 = .ok (.invokevirtual 152, 3) := by decide +kernel
theorem e_TM_deliver_153 : decode m_TM_deliver.2.1 153 = .ok (.aload_n 0, 1) := by decide +kernel
theorem e_TM_deliver_154 : decode m_TM_deliver.2.1 154 = .ok (.getfield 67, 3) := by decide +kernel
theorem e_TM_deliver_157 : decode m_TM_deliver.2.1 157 = .ok (.aload_n 2, 1) := by decide +kernel
theorem e_TM_deliver_158 : decode m_TM_deliver.2.1 158 = .ok (.invokevirtual 156, 3) := by decide +kernel
theorem e_TM_deliver_161 : decode m_TM_deliver.2.1 161 = .ok (.iload_n 3, 1) := by decide +kernel
theorem e_TM_deliver_162 : decode m_TM_deliver.2.1 162 = .ok (.ireturn, 1) := by decide +kernel
theorem e_TM_evict_0 : decode m_TM_evict.2.1 0 = .ok (.aload_n 0, 1) := by decide +kernel
theorem e_TM_evict_1 : decode m_TM_evict.2.1 1 = .ok (.iload_n 1, 1) := by decide +kernel
theorem e_TM_evict_2 : decode m_TM_evict.2.1 2 = .ok (.invokevirtual 71, 3) := by decide +kernel
theorem e_TM_evict_5 : decode m_TM_evict.2.1 5 = .ok (.ifCond .eq 10, 3) := by decide +kernel
theorem e_TM_evict_8 : decode m_TM_evict.2.1 8 = .ok (.iload_n 2, 1) := by decide +kernel
theorem e_TM_evict_9 : decode m_TM_evict.2.1 9 = .ok (.invokestatic 75, 3) := by decide +kernel
theorem e_TM_evict_12 : decode m_TM_evict.2.1 12 = .ok (.ifCond .ne 5, 3) := by decide +kernel
theorem e_TM_evict_15 : decode m_TM_evict.2.1 15 = .ok (.iconst 0, 1) := by decide +kernel
theorem e_TM_evict_16 : decode m_TM_evict.2.1 16 = .ok (.ireturn, 1) := by decide +kernel
theorem e_TM_evict_17 : decode m_TM_evict.2.1 17 = .ok (.aload_n 0, 1) := by decide +kernel
theorem e_TM_evict_18 : decode m_TM_evict.2.1 18 = .ok (.iload_n 1, 1) := by decide +kernel
theorem e_TM_evict_19 : decode m_TM_evict.2.1 19 = .ok (.iload_n 2, 1) := by decide +kernel
theorem e_TM_evict_20 : decode m_TM_evict.2.1 20 = .ok (.invokevirtual 159, 3) := by decide +kernel
theorem e_TM_evict_23 : decode m_TM_evict.2.1 23 = .ok (.astore_n 3, 1) := by decide +kernel
theorem e_TM_evict_24 : decode m_TM_evict.2.1 24 = .ok (.aload_n 3, 1) := by decide +kernel
theorem e_TM_evict_25 : decode m_TM_evict.2.1 25 = .ok (.getfield 54, 3) := by decide +kernel
theorem e_TM_evict_28 : decode m_TM_evict.2.1 28 = .ok (.ifCond .eq 16, 3) := by decide +kernel
theorem e_TM_evict_31 : decode m_TM_evict.2.1 31 = .ok (.aload_n 0, 1) := by decide +kernel
theorem e_TM_evict_32 : decode m_TM_evict.2.1 32 = .ok (.getfield 38, 3) := by decide +kernel
theorem e_TM_evict_35 : decode m_TM_evict.2.1 35 = .ok (.iload_n 1, 1) := by decide +kernel
theorem e_TM_evict_36 : decode m_TM_evict.2.1 36 = .ok (.aaload, 1) := by decide +kernel
theorem e_TM_evict_37 : decode m_TM_evict.2.1 37 = .ok (.iload_n 2, 1) := by decide +kernel
theorem e_TM_evict_38 : decode m_TM_evict.2.1 38 = .ok (.invokevirtual 163, 3) := by decide +kernel
theorem e_TM_evict_41 : decode m_TM_evict.2.1 41 = .ok (.ifCond .eq 5, 3) := by decide +kernel
theorem e_TM_evict_44 : decode m_TM_evict.2.1 44 = .ok (.iconst 0, 1) := by decide +kernel
theorem e_TM_evict_45 : decode m_TM_evict.2.1 45 = .ok (.ireturn, 1) := by decide +kernel
theorem e_TM_evict_46 : decode m_TM_evict.2.1 46 = .ok (.aload_n 0, 1) := by decide +kernel
theorem e_TM_evict_47 : decode m_TM_evict.2.1 47 = .ok (.iload_n 1, 1) := by decide +kernel
theorem e_TM_evict_48 : decode m_TM_evict.2.1 48 = .ok (.aload_n 0, 1) := by decide +kernel
theorem e_TM_evict_49 : decode m_TM_evict.2.1 49 = .ok (.getfield 23, 3) := by decide +kernel
theorem e_TM_evict_52 : decode m_TM_evict.2.1 52 = .ok (.iload_n 2, 1) := by decide +kernel
theorem e_TM_evict_53 : decode m_TM_evict.2.1 53 = .ok (.aload_n 3, 1) := by decide +kernel
theorem e_TM_evict_54 : decode m_TM_evict.2.1 54 = .ok (.getfield 54, 3) := by decide +kernel
theorem e_TM_evict_57 : decode m_TM_evict.2.1 57 = .ok (.aload_n 3, 1) := by decide +kernel
theorem e_TM_evict_58 : decode m_TM_evict.2.1 58 = .ok (.getfield 57, 3) := by decide +kernel
theorem e_TM_evict_61 : decode m_TM_evict.2.1 61 = .ok (.aload_n 3, 1) := by decide +kernel
theorem e_TM_evict_62 : decode m_TM_evict.2.1 62 = .ok (.getfield 57, 3) := by decide +kernel
theorem e_TM_evict_65 : decode m_TM_evict.2.1 65 = .ok (.invokevirtual 166, 3) := by decide +kernel
theorem e_TM_evict_68 : decode m_TM_evict.2.1 68 = .ok (.iconst 1, 1) := by decide +kernel
theorem e_TM_evict_69 : decode m_TM_evict.2.1 69 = .ok (.ireturn, 1) := by decide +kernel
theorem e_TM_letters_0 : decode m_TM_letters.2.1 0 = .ok (.aload_n 0, 1) := by decide +kernel
theorem e_TM_letters_1 : decode m_TM_letters.2.1 1 = .ok (.getfield 67, 3) := by decide +kernel
theorem e_TM_letters_4 : decode m_TM_letters.2.1 4 = .ok (.invokevirtual 170, 3) := by decide +kernel
theorem e_TM_letters_7 : decode m_TM_letters.2.1 7 = .ok (.ireturn, 1) := by decide +kernel
theorem e_TM_letter_0 : decode m_TM_letter.2.1 0 = .ok (.aload_n 0, 1) := by decide +kernel
theorem e_TM_letter_1 : decode m_TM_letter.2.1 1 = .ok (.getfield 67, 3) := by decide +kernel
theorem e_TM_letter_4 : decode m_TM_letter.2.1 4 = .ok (.iload_n 1, 1) := by decide +kernel
theorem e_TM_letter_5 : decode m_TM_letter.2.1 5 = .ok (.invokevirtual 107, 3) := by decide +kernel
theorem e_TM_letter_8 : decode m_TM_letter.2.1 8 = .ok (.ifCond .ne 5, 3) := by decide +kernel
theorem e_TM_letter_11 : decode m_TM_letter.2.1 11 = .ok (.iconst (-1), 1) := by decide +kernel
theorem e_TM_letter_12 : decode m_TM_letter.2.1 12 = .ok (.ireturn, 1) := by decide +kernel
theorem e_TM_letter_13 : decode m_TM_letter.2.1 13 = .ok (.aload_n 0, 1) := by decide +kernel
theorem e_TM_letter_14 : decode m_TM_letter.2.1 14 = .ok (.getfield 67, 3) := by decide +kernel
theorem e_TM_letter_17 : decode m_TM_letter.2.1 17 = .ok (.iload_n 1, 1) := by decide +kernel
theorem e_TM_letter_18 : decode m_TM_letter.2.1 18 = .ok (.invokevirtual 174, 3) := by decide +kernel
theorem e_TM_letter_21 : decode m_TM_letter.2.1 21 = .ok (.invokevirtual 177, 3) := by decide +kernel
theorem e_TM_letter_24 : decode m_TM_letter.2.1 24 = .ok (.ireturn, 1) := by decide +kernel
theorem e_TM_tokens_0 : decode m_TM_tokens.2.1 0 = .ok (.aload_n 0, 1) := by decide +kernel
theorem e_TM_tokens_1 : decode m_TM_tokens.2.1 1 = .ok (.iload_n 1, 1) := by decide +kernel
theorem e_TM_tokens_2 : decode m_TM_tokens.2.1 2 = .ok (.invokevirtual 180, 3) := by decide +kernel
theorem e_TM_tokens_5 : decode m_TM_tokens.2.1 5 = .ok (.ifCond .eq 10, 3) := by decide +kernel
theorem e_TM_tokens_8 : decode m_TM_tokens.2.1 8 = .ok (.iload_n 2, 1) := by decide +kernel
theorem e_TM_tokens_9 : decode m_TM_tokens.2.1 9 = .ok (.invokestatic 75, 3) := by decide +kernel
theorem e_TM_tokens_12 : decode m_TM_tokens.2.1 12 = .ok (.ifCond .ne 5, 3) := by decide +kernel
theorem e_TM_tokens_15 : decode m_TM_tokens.2.1 15 = .ok (.iconst (-1), 1) := by decide +kernel
theorem e_TM_tokens_16 : decode m_TM_tokens.2.1 16 = .ok (.ireturn, 1) := by decide +kernel
theorem e_TM_tokens_17 : decode m_TM_tokens.2.1 17 = .ok (.aload_n 0, 1) := by decide +kernel
theorem e_TM_tokens_18 : decode m_TM_tokens.2.1 18 = .ok (.iload_n 1, 1) := by decide +kernel
theorem e_TM_tokens_19 : decode m_TM_tokens.2.1 19 = .ok (.iload_n 2, 1) := by decide +kernel
theorem e_TM_tokens_20 : decode m_TM_tokens.2.1 20 = .ok (.invokevirtual 159, 3) := by decide +kernel
theorem e_TM_tokens_23 : decode m_TM_tokens.2.1 23 = .ok (.astore_n 3, 1) := by decide +kernel
theorem e_TM_tokens_24 : decode m_TM_tokens.2.1 24 = .ok (.aload_n 3, 1) := by decide +kernel
theorem e_TM_tokens_25 : decode m_TM_tokens.2.1 25 = .ok (.getfield 54, 3) := by decide +kernel
theorem e_TM_tokens_28 : decode m_TM_tokens.2.1 28 = .ok (.aload_n 3, 1) := by decide +kernel
theorem e_TM_tokens_29 : decode m_TM_tokens.2.1 29 = .ok (.getfield 57, 3) := by decide +kernel
theorem e_TM_tokens_32 : decode m_TM_tokens.2.1 32 = .ok (.ifCond .eq 8, 3) := by decide +kernel
theorem e_TM_tokens_35 : decode m_TM_tokens.2.1 35 = .ok (.bipush 8, 2) := by decide +kernel
theorem e_TM_tokens_37 : decode m_TM_tokens.2.1 37 = .ok (.goto 4, 3) := by decide +kernel
theorem e_TM_tokens_40 : decode m_TM_tokens.2.1 40 = .ok (.iconst 0, 1) := by decide +kernel
theorem e_TM_tokens_41 : decode m_TM_tokens.2.1 41 = .ok (.iadd, 1) := by decide +kernel
theorem e_TM_tokens_42 : decode m_TM_tokens.2.1 42 = .ok (.aload_n 3, 1) := by decide +kernel
theorem e_TM_tokens_43 : decode m_TM_tokens.2.1 43 = .ok (.getfield 61, 3) := by decide +kernel
theorem e_TM_tokens_46 : decode m_TM_tokens.2.1 46 = .ok (.ifCond .eq 8, 3) := by decide +kernel
theorem e_TM_tokens_49 : decode m_TM_tokens.2.1 49 = .ok (.bipush 16, 2) := by decide +kernel
theorem e_TM_tokens_51 : decode m_TM_tokens.2.1 51 = .ok (.goto 4, 3) := by decide +kernel
theorem e_TM_tokens_54 : decode m_TM_tokens.2.1 54 = .ok (.iconst 0, 1) := by decide +kernel
theorem e_TM_tokens_55 : decode m_TM_tokens.2.1 55 = .ok (.iadd, 1) := by decide +kernel
theorem e_TM_tokens_56 : decode m_TM_tokens.2.1 56 = .ok (.ireturn, 1) := by decide +kernel
theorem e_TM_data_0 : decode m_TM_data.2.1 0 = .ok (.aload_n 0, 1) := by decide +kernel
theorem e_TM_data_1 : decode m_TM_data.2.1 1 = .ok (.iload_n 1, 1) := by decide +kernel
theorem e_TM_data_2 : decode m_TM_data.2.1 2 = .ok (.invokevirtual 180, 3) := by decide +kernel
theorem e_TM_data_5 : decode m_TM_data.2.1 5 = .ok (.ifCond .eq 10, 3) := by decide +kernel
theorem e_TM_data_8 : decode m_TM_data.2.1 8 = .ok (.iload_n 2, 1) := by decide +kernel
theorem e_TM_data_9 : decode m_TM_data.2.1 9 = .ok (.invokestatic 75, 3) := by decide +kernel
theorem e_TM_data_12 : decode m_TM_data.2.1 12 = .ok (.ifCond .ne 5, 3) := by decide +kernel
theorem e_TM_data_15 : decode m_TM_data.2.1 15 = .ok (.iconst 0, 1) := by decide +kernel
theorem e_TM_data_16 : decode m_TM_data.2.1 16 = .ok (.ireturn, 1) := by decide +kernel
theorem e_TM_data_17 : decode m_TM_data.2.1 17 = .ok (.aload_n 0, 1) := by decide +kernel
theorem e_TM_data_18 : decode m_TM_data.2.1 18 = .ok (.iload_n 1, 1) := by decide +kernel
theorem e_TM_data_19 : decode m_TM_data.2.1 19 = .ok (.iload_n 2, 1) := by decide +kernel
theorem e_TM_data_20 : decode m_TM_data.2.1 20 = .ok (.invokevirtual 159, 3) := by decide +kernel
theorem e_TM_data_23 : decode m_TM_data.2.1 23 = .ok (.astore_n 3, 1) := by decide +kernel
theorem e_TM_data_24 : decode m_TM_data.2.1 24 = .ok (.aload_n 3, 1) := by decide +kernel
theorem e_TM_data_25 : decode m_TM_data.2.1 25 = .ok (.getfield 61, 3) := by decide +kernel
theorem e_TM_data_28 : decode m_TM_data.2.1 28 = .ok (.ifCond .eq 10, 3) := by decide +kernel
theorem e_TM_data_31 : decode m_TM_data.2.1 31 = .ok (.aload_n 3, 1) := by decide +kernel
theorem e_TM_data_32 : decode m_TM_data.2.1 32 = .ok (.getfield 183, 3) := by decide +kernel
theorem e_TM_data_35 : decode m_TM_data.2.1 35 = .ok (.goto 4, 3) := by decide +kernel
theorem e_TM_data_38 : decode m_TM_data.2.1 38 = .ok (.iconst 0, 1) := by decide +kernel
theorem e_TM_data_39 : decode m_TM_data.2.1 39 = .ok (.ireturn, 1) := by decide +kernel
theorem e_TM_knows_0 : decode m_TM_knows.2.1 0 = .ok (.aload_n 0, 1) := by decide +kernel
theorem e_TM_knows_1 : decode m_TM_knows.2.1 1 = .ok (.iload_n 1, 1) := by decide +kernel
theorem e_TM_knows_2 : decode m_TM_knows.2.1 2 = .ok (.invokevirtual 180, 3) := by decide +kernel
theorem e_TM_knows_5 : decode m_TM_knows.2.1 5 = .ok (.ifCond .eq 10, 3) := by decide +kernel
theorem e_TM_knows_8 : decode m_TM_knows.2.1 8 = .ok (.iload_n 2, 1) := by decide +kernel
theorem e_TM_knows_9 : decode m_TM_knows.2.1 9 = .ok (.invokestatic 75, 3) := by decide +kernel
theorem e_TM_knows_12 : decode m_TM_knows.2.1 12 = .ok (.ifCond .ne 6, 3) := by decide +kernel
theorem e_TM_knows_15 : decode m_TM_knows.2.1 15 = .ok (.bipush (-2), 2) := by decide +kernel
theorem e_TM_knows_17 : decode m_TM_knows.2.1 17 = .ok (.ireturn, 1) := by decide +kernel
theorem e_TM_knows_18 : decode m_TM_knows.2.1 18 = .ok (.aload_n 0, 1) := by decide +kernel
theorem e_TM_knows_19 : decode m_TM_knows.2.1 19 = .ok (.iload_n 1, 1) := by decide +kernel
theorem e_TM_knows_20 : decode m_TM_knows.2.1 20 = .ok (.iload_n 2, 1) := by decide +kernel
theorem e_TM_knows_21 : decode m_TM_knows.2.1 21 = .ok (.invokevirtual 159, 3) := by decide +kernel
theorem e_TM_knows_24 : decode m_TM_knows.2.1 24 = .ok (.astore_n 3, 1) := by decide +kernel
theorem e_TM_knows_25 : decode m_TM_knows.2.1 25 = .ok (.aload_n 3, 1) := by decide +kernel
theorem e_TM_knows_26 : decode m_TM_knows.2.1 26 = .ok (.getfield 186, 3) := by decide +kernel
theorem e_TM_knows_29 : decode m_TM_knows.2.1 29 = .ok (.iconst (-1), 1) := by decide +kernel
theorem e_TM_knows_30 : decode m_TM_knows.2.1 30 = .ok (.if_icmp .ne 5, 3) := by decide +kernel
theorem e_TM_knows_33 : decode m_TM_knows.2.1 33 = .ok (.iconst (-1), 1) := by decide +kernel
theorem e_TM_knows_34 : decode m_TM_knows.2.1 34 = .ok (.ireturn, 1) := by decide +kernel
theorem e_TM_knows_35 : decode m_TM_knows.2.1 35 = .ok (.aload_n 3, 1) := by decide +kernel
theorem e_TM_knows_36 : decode m_TM_knows.2.1 36 = .ok (.getfield 186, 3) := by decide +kernel
theorem e_TM_knows_39 : decode m_TM_knows.2.1 39 = .ok (.aload_n 3, 1) := by decide +kernel
theorem e_TM_knows_40 : decode m_TM_knows.2.1 40 = .ok (.getfield 189, 3) := by decide +kernel
theorem e_TM_knows_43 : decode m_TM_knows.2.1 43 = .ok (.ifCond .eq 8, 3) := by decide +kernel
theorem e_TM_knows_46 : decode m_TM_knows.2.1 46 = .ok (.bipush 8, 2) := by decide +kernel
theorem e_TM_knows_48 : decode m_TM_knows.2.1 48 = .ok (.goto 4, 3) := by decide +kernel
theorem e_TM_knows_51 : decode m_TM_knows.2.1 51 = .ok (.iconst 0, 1) := by decide +kernel
theorem e_TM_knows_52 : decode m_TM_knows.2.1 52 = .ok (.iadd, 1) := by decide +kernel
theorem e_TM_knows_53 : decode m_TM_knows.2.1 53 = .ok (.ireturn, 1) := by decide +kernel
theorem e_TM_row_0 : decode m_TM_row.2.1 0 = .ok (.iload_n 1, 1) := by decide +kernel
theorem e_TM_row_1 : decode m_TM_row.2.1 1 = .ok (.invokestatic 75, 3) := by decide +kernel
theorem e_TM_row_4 : decode m_TM_row.2.1 4 = .ok (.ifCond .eq 18, 3) := by decide +kernel
theorem e_TM_row_7 : decode m_TM_row.2.1 7 = .ok (.aload_n 0, 1) := by decide +kernel
theorem e_TM_row_8 : decode m_TM_row.2.1 8 = .ok (.getfield 49, 3) := by decide +kernel
theorem e_TM_row_11 : decode m_TM_row.2.1 11 = .ok (.iload_n 1, 1) := by decide +kernel
theorem e_TM_row_12 : decode m_TM_row.2.1 12 = .ok (.aaload, 1) := by decide +kernel
theorem e_TM_row_13 : decode m_TM_row.2.1 13 = .ok (.getfield 192, 3) := by decide +kernel
theorem e_TM_row_16 : decode m_TM_row.2.1 16 = .ok (.invokevirtual 196, 3) := by decide +kernel
theorem e_TM_row_19 : decode m_TM_row.2.1 19 = .ok (.goto 4, 3) := by decide +kernel
theorem e_TM_row_22 : decode m_TM_row.2.1 22 = .ok (.iconst (-1), 1) := by decide +kernel
theorem e_TM_row_23 : decode m_TM_row.2.1 23 = .ok (.ireturn, 1) := by decide +kernel
theorem e_TM_state_0 : decode m_TM_state.2.1 0 = .ok (.aload_n 0, 1) := by decide +kernel
theorem e_TM_state_1 : decode m_TM_state.2.1 1 = .ok (.iload_n 1, 1) := by decide +kernel
theorem e_TM_state_2 : decode m_TM_state.2.1 2 = .ok (.invokevirtual 71, 3) := by decide +kernel
theorem e_TM_state_5 : decode m_TM_state.2.1 5 = .ok (.ifCond .ne 5, 3) := by decide +kernel
theorem e_TM_state_8 : decode m_TM_state.2.1 8 = .ok (.iconst (-1), 1) := by decide +kernel
theorem e_TM_state_9 : decode m_TM_state.2.1 9 = .ok (.ireturn, 1) := by decide +kernel
theorem e_TM_state_10 : decode m_TM_state.2.1 10 = .ok (.aload_n 0, 1) := by decide +kernel
theorem e_TM_state_11 : decode m_TM_state.2.1 11 = .ok (.getfield 38, 3) := by decide +kernel
theorem e_TM_state_14 : decode m_TM_state.2.1 14 = .ok (.iload_n 1, 1) := by decide +kernel
theorem e_TM_state_15 : decode m_TM_state.2.1 15 = .ok (.aaload, 1) := by decide +kernel
theorem e_TM_state_16 : decode m_TM_state.2.1 16 = .ok (.astore_n 2, 1) := by decide +kernel
theorem e_TM_state_17 : decode m_TM_state.2.1 17 = .ok (.aload_n 2, 1) := by decide +kernel
theorem e_TM_state_18 : decode m_TM_state.2.1 18 = .ok (.getfield 78, 3) := by decide +kernel
theorem e_TM_state_21 : decode m_TM_state.2.1 21 = .ok (.ifCond .ne 5, 3) := by decide +kernel
theorem e_TM_state_24 : decode m_TM_state.2.1 24 = .ok (.iconst 0, 1) := by decide +kernel
theorem e_TM_state_25 : decode m_TM_state.2.1 25 = .ok (.ireturn, 1) := by decide +kernel
theorem e_TM_state_26 : decode m_TM_state.2.1 26 = .ok (.iconst 1, 1) := by decide +kernel
theorem e_TM_state_27 : decode m_TM_state.2.1 27 = .ok (.aload_n 2, 1) := by decide +kernel
theorem e_TM_state_28 : decode m_TM_state.2.1 28 = .ok (.getfield 199, 3) := by decide +kernel
theorem e_TM_state_31 : decode m_TM_state.2.1 31 = .ok (.iadd, 1) := by decide +kernel
theorem e_TM_state_32 : decode m_TM_state.2.1 32 = .ok (.aload_n 2, 1) := by decide +kernel
theorem e_TM_state_33 : decode m_TM_state.2.1 33 = .ok (.getfield 202, 3) := by decide +kernel
theorem e_TM_state_36 : decode m_TM_state.2.1 36 = .ok (.ifCond .eq 8, 3) := by decide +kernel
theorem e_TM_state_39 : decode m_TM_state.2.1 39 = .ok (.bipush 8, 2) := by decide +kernel
theorem e_TM_state_41 : decode m_TM_state.2.1 41 = .ok (.goto 4, 3) := by decide +kernel
theorem e_TM_state_44 : decode m_TM_state.2.1 44 = .ok (.iconst 0, 1) := by decide +kernel
theorem e_TM_state_45 : decode m_TM_state.2.1 45 = .ok (.iadd, 1) := by decide +kernel
theorem e_TM_state_46 : decode m_TM_state.2.1 46 = .ok (.ireturn, 1) := by decide +kernel
theorem e_TM_ended_0 : decode m_TM_ended.2.1 0 = .ok (.aload_n 0, 1) := by decide +kernel
theorem e_TM_ended_1 : decode m_TM_ended.2.1 1 = .ok (.iload_n 1, 1) := by decide +kernel
theorem e_TM_ended_2 : decode m_TM_ended.2.1 2 = .ok (.invokevirtual 71, 3) := by decide +kernel
theorem e_TM_ended_5 : decode m_TM_ended.2.1 5 = .ok (.ifCond .eq 15, 3) := by decide +kernel
theorem e_TM_ended_8 : decode m_TM_ended.2.1 8 = .ok (.aload_n 0, 1) := by decide +kernel
theorem e_TM_ended_9 : decode m_TM_ended.2.1 9 = .ok (.getfield 38, 3) := by decide +kernel
theorem e_TM_ended_12 : decode m_TM_ended.2.1 12 = .ok (.iload_n 1, 1) := by decide +kernel
theorem e_TM_ended_13 : decode m_TM_ended.2.1 13 = .ok (.aaload, 1) := by decide +kernel
theorem e_TM_ended_14 : decode m_TM_ended.2.1 14 = .ok (.getfield 205, 3) := by decide +kernel
theorem e_TM_ended_17 : decode m_TM_ended.2.1 17 = .ok (.goto 4, 3) := by decide +kernel
theorem e_TM_ended_20 : decode m_TM_ended.2.1 20 = .ok (.iconst (-1), 1) := by decide +kernel
theorem e_TM_ended_21 : decode m_TM_ended.2.1 21 = .ok (.ireturn, 1) := by decide +kernel
theorem e_TM_result_0 : decode m_TM_result.2.1 0 = .ok (.aload_n 0, 1) := by decide +kernel
theorem e_TM_result_1 : decode m_TM_result.2.1 1 = .ok (.iload_n 1, 1) := by decide +kernel
theorem e_TM_result_2 : decode m_TM_result.2.1 2 = .ok (.invokevirtual 71, 3) := by decide +kernel
theorem e_TM_result_5 : decode m_TM_result.2.1 5 = .ok (.ifCond .eq 15, 3) := by decide +kernel
theorem e_TM_result_8 : decode m_TM_result.2.1 8 = .ok (.aload_n 0, 1) := by decide +kernel
theorem e_TM_result_9 : decode m_TM_result.2.1 9 = .ok (.getfield 38, 3) := by decide +kernel
theorem e_TM_result_12 : decode m_TM_result.2.1 12 = .ok (.iload_n 1, 1) := by decide +kernel
theorem e_TM_result_13 : decode m_TM_result.2.1 13 = .ok (.aaload, 1) := by decide +kernel
theorem e_TM_result_14 : decode m_TM_result.2.1 14 = .ok (.getfield 208, 3) := by decide +kernel
theorem e_TM_result_17 : decode m_TM_result.2.1 17 = .ok (.goto 4, 3) := by decide +kernel
theorem e_TM_result_20 : decode m_TM_result.2.1 20 = .ok (.iconst 0, 1) := by decide +kernel
theorem e_TM_result_21 : decode m_TM_result.2.1 21 = .ok (.ireturn, 1) := by decide +kernel
theorem e_TM_memory_0 : decode m_TM_memory.2.1 0 = .ok (.iload_n 1, 1) := by decide +kernel
theorem e_TM_memory_1 : decode m_TM_memory.2.1 1 = .ok (.invokestatic 75, 3) := by decide +kernel
theorem e_TM_memory_4 : decode m_TM_memory.2.1 4 = .ok (.ifCond .ne 5, 3) := by decide +kernel
theorem e_TM_memory_7 : decode m_TM_memory.2.1 7 = .ok (.iconst 0, 1) := by decide +kernel
theorem e_TM_memory_8 : decode m_TM_memory.2.1 8 = .ok (.ireturn, 1) := by decide +kernel
theorem e_TM_memory_9 : decode m_TM_memory.2.1 9 = .ok (.iconst 0, 1) := by decide +kernel
theorem e_TM_memory_10 : decode m_TM_memory.2.1 10 = .ok (.istore_n 2, 1) := by decide +kernel
theorem e_TM_memory_11 : decode m_TM_memory.2.1 11 = .ok (.iload_n 2, 1) := by decide +kernel
theorem e_TM_memory_12 : decode m_TM_memory.2.1 12 = .ok (.aload_n 0, 1) := by decide +kernel
theorem e_TM_memory_13 : decode m_TM_memory.2.1 13 = .ok (.getfield 23, 3) := by decide +kernel
theorem e_TM_memory_16 : decode m_TM_memory.2.1 16 = .ok (.if_icmp .gt 28, 3) := by decide +kernel
theorem e_TM_memory_19 : decode m_TM_memory.2.1 19 = .ok (.aload_n 0, 1) := by decide +kernel
theorem e_TM_memory_20 : decode m_TM_memory.2.1 20 = .ok (.iload_n 2, 1) := by decide +kernel
theorem e_TM_memory_21 : decode m_TM_memory.2.1 21 = .ok (.iload_n 1, 1) := by decide +kernel
theorem e_TM_memory_22 : decode m_TM_memory.2.1 22 = .ok (.invokevirtual 159, 3) := by decide +kernel
theorem e_TM_memory_25 : decode m_TM_memory.2.1 25 = .ok (.astore_n 3, 1) := by decide +kernel
theorem e_TM_memory_26 : decode m_TM_memory.2.1 26 = .ok (.aload_n 3, 1) := by decide +kernel
theorem e_TM_memory_27 : decode m_TM_memory.2.1 27 = .ok (.getfield 57, 3) := by decide +kernel
theorem e_TM_memory_30 : decode m_TM_memory.2.1 30 = .ok (.ifCond .eq 8, 3) := by decide +kernel
theorem e_TM_memory_33 : decode m_TM_memory.2.1 33 = .ok (.aload_n 3, 1) := by decide +kernel
theorem e_TM_memory_34 : decode m_TM_memory.2.1 34 = .ok (.getfield 183, 3) := by decide +kernel
theorem e_TM_memory_37 : decode m_TM_memory.2.1 37 = .ok (.ireturn, 1) := by decide +kernel
theorem e_TM_memory_38 : decode m_TM_memory.2.1 38 = .ok (.iinc 2 1, 3) := by decide +kernel
theorem e_TM_memory_41 : decode m_TM_memory.2.1 41 = .ok (.goto (-30), 3) := by decide +kernel
theorem e_TM_memory_44 : decode m_TM_memory.2.1 44 = .ok (.iconst 0, 1) := by decide +kernel
theorem e_TM_memory_45 : decode m_TM_memory.2.1 45 = .ok (.istore_n 2, 1) := by decide +kernel
theorem e_TM_memory_46 : decode m_TM_memory.2.1 46 = .ok (.iload_n 2, 1) := by decide +kernel
theorem e_TM_memory_47 : decode m_TM_memory.2.1 47 = .ok (.aload_n 0, 1) := by decide +kernel
theorem e_TM_memory_48 : decode m_TM_memory.2.1 48 = .ok (.getfield 67, 3) := by decide +kernel
theorem e_TM_memory_51 : decode m_TM_memory.2.1 51 = .ok (.invokevirtual 170, 3) := by decide +kernel
theorem e_TM_memory_54 : decode m_TM_memory.2.1 54 = .ok (.if_icmp .ge 38, 3) := by decide +kernel
theorem e_TM_memory_57 : decode m_TM_memory.2.1 57 = .ok (.aload_n 0, 1) := by decide +kernel
theorem e_TM_memory_58 : decode m_TM_memory.2.1 58 = .ok (.getfield 67, 3) := by decide +kernel
theorem e_TM_memory_61 : decode m_TM_memory.2.1 61 = .ok (.iload_n 2, 1) := by decide +kernel
theorem e_TM_memory_62 : decode m_TM_memory.2.1 62 = .ok (.invokevirtual 174, 3) := by decide +kernel
theorem e_TM_memory_65 : decode m_TM_memory.2.1 65 = .ok (.astore_n 3, 1) := by decide +kernel
theorem e_TM_memory_66 : decode m_TM_memory.2.1 66 = .ok (.aload_n 3, 1) := by decide +kernel
theorem e_TM_memory_67 : decode m_TM_memory.2.1 67 = .ok (.getfield 211, 3) := by decide +kernel
theorem e_TM_memory_70 : decode m_TM_memory.2.1 70 = .ok (.ifCond .eq 16, 3) := by decide +kernel
theorem e_TM_memory_73 : decode m_TM_memory.2.1 73 = .ok (.aload_n 3, 1) := by decide +kernel
theorem e_TM_memory_74 : decode m_TM_memory.2.1 74 = .ok (.getfield 122, 3) := by decide +kernel
theorem e_TM_memory_77 : decode m_TM_memory.2.1 77 = .ok (.iload_n 1, 1) := by decide +kernel
theorem e_TM_memory_78 : decode m_TM_memory.2.1 78 = .ok (.if_icmp .ne 8, 3) := by decide +kernel
theorem e_TM_memory_81 : decode m_TM_memory.2.1 81 = .ok (.aload_n 3, 1) := by decide +kernel
theorem e_TM_memory_82 : decode m_TM_memory.2.1 82 = .ok (.getfield 212, 3) := by decide +kernel
theorem e_TM_memory_85 : decode m_TM_memory.2.1 85 = .ok (.ireturn, 1) := by decide +kernel
theorem e_TM_memory_86 : decode m_TM_memory.2.1 86 = .ok (.iinc 2 1, 3) := by decide +kernel
theorem e_TM_memory_89 : decode m_TM_memory.2.1 89 = .ok (.goto (-43), 3) := by decide +kernel
theorem e_TM_memory_92 : decode m_TM_memory.2.1 92 = .ok (.iconst 0, 1) := by decide +kernel
theorem e_TM_memory_93 : decode m_TM_memory.2.1 93 = .ok (.ireturn, 1) := by decide +kernel
theorem e_TM_clamp_0 : decode m_TM_clamp.2.1 0 = .ok (.iload_n 1, 1) := by decide +kernel
theorem e_TM_clamp_1 : decode m_TM_clamp.2.1 1 = .ok (.iload_n 2, 1) := by decide +kernel
theorem e_TM_clamp_2 : decode m_TM_clamp.2.1 2 = .ok (.iload_n 0, 1) := by decide +kernel
theorem e_TM_clamp_3 : decode m_TM_clamp.2.1 3 = .ok (.invokestatic 213, 3) := by decide +kernel
theorem e_TM_clamp_6 : decode m_TM_clamp.2.1 6 = .ok (.invokestatic 219, 3) := by decide +kernel
theorem e_TM_clamp_9 : decode m_TM_clamp.2.1 9 = .ok (.ireturn, 1) := by decide +kernel
theorem e_TM_isCore_0 : decode m_TM_isCore.2.1 0 = .ok (.iload_n 1, 1) := by decide +kernel
theorem e_TM_isCore_1 : decode m_TM_isCore.2.1 1 = .ok (.ifCond .lt 15, 3) := by decide +kernel
theorem e_TM_isCore_4 : decode m_TM_isCore.2.1 4 = .ok (.iload_n 1, 1) := by decide +kernel
theorem e_TM_isCore_5 : decode m_TM_isCore.2.1 5 = .ok (.aload_n 0, 1) := by decide +kernel
theorem e_TM_isCore_6 : decode m_TM_isCore.2.1 6 = .ok (.getfield 13, 3) := by decide +kernel
theorem e_TM_isCore_9 : decode m_TM_isCore.2.1 9 = .ok (.if_icmp .ge 7, 3) := by decide +kernel
theorem e_TM_isCore_12 : decode m_TM_isCore.2.1 12 = .ok (.iconst 1, 1) := by decide +kernel
theorem e_TM_isCore_13 : decode m_TM_isCore.2.1 13 = .ok (.goto 4, 3) := by decide +kernel
theorem e_TM_isCore_16 : decode m_TM_isCore.2.1 16 = .ok (.iconst 0, 1) := by decide +kernel
theorem e_TM_isCore_17 : decode m_TM_isCore.2.1 17 = .ok (.ireturn, 1) := by decide +kernel
theorem e_TM_isNode_0 : decode m_TM_isNode.2.1 0 = .ok (.iload_n 1, 1) := by decide +kernel
theorem e_TM_isNode_1 : decode m_TM_isNode.2.1 1 = .ok (.ifCond .lt 15, 3) := by decide +kernel
theorem e_TM_isNode_4 : decode m_TM_isNode.2.1 4 = .ok (.iload_n 1, 1) := by decide +kernel
theorem e_TM_isNode_5 : decode m_TM_isNode.2.1 5 = .ok (.aload_n 0, 1) := by decide +kernel
theorem e_TM_isNode_6 : decode m_TM_isNode.2.1 6 = .ok (.getfield 23, 3) := by decide +kernel
theorem e_TM_isNode_9 : decode m_TM_isNode.2.1 9 = .ok (.if_icmp .gt 7, 3) := by decide +kernel
theorem e_TM_isNode_12 : decode m_TM_isNode.2.1 12 = .ok (.iconst 1, 1) := by decide +kernel
theorem e_TM_isNode_13 : decode m_TM_isNode.2.1 13 = .ok (.goto 4, 3) := by decide +kernel
theorem e_TM_isNode_16 : decode m_TM_isNode.2.1 16 = .ok (.iconst 0, 1) := by decide +kernel
theorem e_TM_isNode_17 : decode m_TM_isNode.2.1 17 = .ok (.ireturn, 1) := by decide +kernel
theorem e_TM_isBlock_0 : decode m_TM_isBlock.2.1 0 = .ok (.iload_n 0, 1) := by decide +kernel
theorem e_TM_isBlock_1 : decode m_TM_isBlock.2.1 1 = .ok (.ifCond .lt 12, 3) := by decide +kernel
theorem e_TM_isBlock_4 : decode m_TM_isBlock.2.1 4 = .ok (.iload_n 0, 1) := by decide +kernel
theorem e_TM_isBlock_5 : decode m_TM_isBlock.2.1 5 = .ok (.iconst 2, 1) := by decide +kernel
theorem e_TM_isBlock_6 : decode m_TM_isBlock.2.1 6 = .ok (.if_icmp .ge 7, 3) := by decide +kernel
theorem e_TM_isBlock_9 : decode m_TM_isBlock.2.1 9 = .ok (.iconst 1, 1) := by decide +kernel
theorem e_TM_isBlock_10 : decode m_TM_isBlock.2.1 10 = .ok (.goto 4, 3) := by decide +kernel
theorem e_TM_isBlock_13 : decode m_TM_isBlock.2.1 13 = .ok (.iconst 0, 1) := by decide +kernel
theorem e_TM_isBlock_14 : decode m_TM_isBlock.2.1 14 = .ok (.ireturn, 1) := by decide +kernel
theorem e_TM_share_0 : decode m_TM_share.2.1 0 = .ok (.aload_n 0, 1) := by decide +kernel
theorem e_TM_share_1 : decode m_TM_share.2.1 1 = .ok (.getfield 31, 3) := by decide +kernel
theorem e_TM_share_4 : decode m_TM_share.2.1 4 = .ok (.iload_n 1, 1) := by decide +kernel
theorem e_TM_share_5 : decode m_TM_share.2.1 5 = .ok (.iconst 2, 1) := by decide +kernel
theorem e_TM_share_6 : decode m_TM_share.2.1 6 = .ok (.imul, 1) := by decide +kernel
theorem e_TM_share_7 : decode m_TM_share.2.1 7 = .ok (.iload_n 2, 1) := by decide +kernel
theorem e_TM_share_8 : decode m_TM_share.2.1 8 = .ok (.iadd, 1) := by decide +kernel
theorem e_TM_share_9 : decode m_TM_share.2.1 9 = .ok (.aaload, 1) := by decide +kernel
theorem e_TM_share_10 : decode m_TM_share.2.1 10 = .ok (.areturn, 1) := by decide +kernel
theorem e_TM_canEnd_0 : decode m_TM_canEnd.2.1 0 = .ok (.aload_n 0, 1) := by decide +kernel
theorem e_TM_canEnd_1 : decode m_TM_canEnd.2.1 1 = .ok (.getfield 38, 3) := by decide +kernel
theorem e_TM_canEnd_4 : decode m_TM_canEnd.2.1 4 = .ok (.iload_n 1, 1) := by decide +kernel
theorem e_TM_canEnd_5 : decode m_TM_canEnd.2.1 5 = .ok (.aaload, 1) := by decide +kernel
theorem e_TM_canEnd_6 : decode m_TM_canEnd.2.1 6 = .ok (.astore_n 2, 1) := by decide +kernel
theorem e_TM_canEnd_7 : decode m_TM_canEnd.2.1 7 = .ok (.aload_n 0, 1) := by decide +kernel
theorem e_TM_canEnd_8 : decode m_TM_canEnd.2.1 8 = .ok (.iload_n 1, 1) := by decide +kernel
theorem e_TM_canEnd_9 : decode m_TM_canEnd.2.1 9 = .ok (.aload_n 2, 1) := by decide +kernel
theorem e_TM_canEnd_10 : decode m_TM_canEnd.2.1 10 = .ok (.getfield 222, 3) := by decide +kernel
theorem e_TM_canEnd_13 : decode m_TM_canEnd.2.1 13 = .ok (.invokevirtual 159, 3) := by decide +kernel
theorem e_TM_canEnd_16 : decode m_TM_canEnd.2.1 16 = .ok (.astore_n 3, 1) := by decide +kernel
theorem e_TM_canEnd_17 : decode m_TM_canEnd.2.1 17 = .ok (.aload_n 3, 1) := by decide +kernel
theorem e_TM_canEnd_18 : decode m_TM_canEnd.2.1 18 = .ok (.getfield 61, 3) := by decide +kernel
theorem e_TM_canEnd_21 : decode m_TM_canEnd.2.1 21 = .ok (.ifCond .eq 25, 3) := by decide +kernel
theorem e_TM_canEnd_24 : decode m_TM_canEnd.2.1 24 = .ok (.aload_n 2, 1) := by decide +kernel
theorem e_TM_canEnd_25 : decode m_TM_canEnd.2.1 25 = .ok (.getfield 223, 3) := by decide +kernel
theorem e_TM_canEnd_28 : decode m_TM_canEnd.2.1 28 = .ok (.ifCond .eq 14, 3) := by decide +kernel
theorem e_TM_canEnd_31 : decode m_TM_canEnd.2.1 31 = .ok (.aload_n 3, 1) := by decide +kernel
theorem e_TM_canEnd_32 : decode m_TM_canEnd.2.1 32 = .ok (.getfield 54, 3) := by decide +kernel
theorem e_TM_canEnd_35 : decode m_TM_canEnd.2.1 35 = .ok (.aload_n 0, 1) := by decide +kernel
theorem e_TM_canEnd_36 : decode m_TM_canEnd.2.1 36 = .ok (.getfield 26, 3) := by decide +kernel
theorem e_TM_canEnd_39 : decode m_TM_canEnd.2.1 39 = .ok (.if_icmp .ne 7, 3) := by decide +kernel
theorem e_TM_canEnd_42 : decode m_TM_canEnd.2.1 42 = .ok (.iconst 1, 1) := by decide +kernel
theorem e_TM_canEnd_43 : decode m_TM_canEnd.2.1 43 = .ok (.goto 4, 3) := by decide +kernel
theorem e_TM_canEnd_46 : decode m_TM_canEnd.2.1 46 = .ok (.iconst 0, 1) := by decide +kernel
theorem e_TM_canEnd_47 : decode m_TM_canEnd.2.1 47 = .ok (.ireturn, 1) := by decide +kernel
theorem e_TM_endd_0 : decode m_TM_endd.2.1 0 = .ok (.aload_n 0, 1) := by decide +kernel
theorem e_TM_endd_1 : decode m_TM_endd.2.1 1 = .ok (.getfield 38, 3) := by decide +kernel
theorem e_TM_endd_4 : decode m_TM_endd.2.1 4 = .ok (.iload_n 1, 1) := by decide +kernel
theorem e_TM_endd_5 : decode m_TM_endd.2.1 5 = .ok (.aaload, 1) := by decide +kernel
theorem e_TM_endd_6 : decode m_TM_endd.2.1 6 = .ok (.astore_n 2, 1) := by decide +kernel
theorem e_TM_endd_7 : decode m_TM_endd.2.1 7 = .ok (.aload_n 0, 1) := by decide +kernel
theorem e_TM_endd_8 : decode m_TM_endd.2.1 8 = .ok (.iload_n 1, 1) := by decide +kernel
theorem e_TM_endd_9 : decode m_TM_endd.2.1 9 = .ok (.aload_n 2, 1) := by decide +kernel
theorem e_TM_endd_10 : decode m_TM_endd.2.1 10 = .ok (.getfield 222, 3) := by decide +kernel
theorem e_TM_endd_13 : decode m_TM_endd.2.1 13 = .ok (.invokevirtual 159, 3) := by decide +kernel
theorem e_TM_endd_16 : decode m_TM_endd.2.1 16 = .ok (.astore_n 3, 1) := by decide +kernel
theorem e_TM_endd_17 : decode m_TM_endd.2.1 17 = .ok (.aload_n 2, 1) := by decide +kernel
theorem e_TM_endd_18 : decode m_TM_endd.2.1 18 = .ok (.aload_n 3, 1) := by decide +kernel
theorem e_TM_endd_19 : decode m_TM_endd.2.1 19 = .ok (.getfield 183, 3) := by decide +kernel
theorem e_TM_endd_22 : decode m_TM_endd.2.1 22 = .ok (.putfield 208, 3) := by decide +kernel
theorem e_TM_endd_25 : decode m_TM_endd.2.1 25 = .ok (.aload_n 2, 1) := by decide +kernel
theorem e_TM_endd_26 : decode m_TM_endd.2.1 26 = .ok (.getfield 223, 3) := by decide +kernel
theorem e_TM_endd_29 : decode m_TM_endd.2.1 29 = .ok (.ifCond .eq 11, 3) := by decide +kernel
theorem e_TM_endd_32 : decode m_TM_endd.2.1 32 = .ok (.aload_n 3, 1) := by decide +kernel
theorem e_TM_endd_33 : decode m_TM_endd.2.1 33 = .ok (.aload_n 2, 1) := by decide +kernel
theorem e_TM_endd_34 : decode m_TM_endd.2.1 34 = .ok (.getfield 224, 3) := by decide +kernel
theorem e_TM_endd_37 : decode m_TM_endd.2.1 37 = .ok (.putfield 183, 3) := by decide +kernel
theorem e_TM_endd_40 : decode m_TM_endd.2.1 40 = .ok (.aload_n 2, 1) := by decide +kernel
theorem e_TM_endd_41 : decode m_TM_endd.2.1 41 = .ok (.iconst 0, 1) := by decide +kernel
theorem e_TM_endd_42 : decode m_TM_endd.2.1 42 = .ok (.putfield 78, 3) := by decide +kernel
theorem e_TM_endd_45 : decode m_TM_endd.2.1 45 = .ok (.aload_n 2, 1) := by decide +kernel
theorem e_TM_endd_46 : decode m_TM_endd.2.1 46 = .ok (.dup, 1) := by decide +kernel
theorem e_TM_endd_47 : decode m_TM_endd.2.1 47 = .ok (.getfield 205, 3) := by decide +kernel
theorem e_TM_endd_50 : decode m_TM_endd.2.1 50 = .ok (.iconst 1, 1) := by decide +kernel
theorem e_TM_endd_51 : decode m_TM_endd.2.1 51 = .ok (.iadd, 1) := by decide +kernel
theorem e_TM_endd_52 : decode m_TM_endd.2.1 52 = .ok (.putfield 205, 3) := by decide +kernel
theorem e_TM_endd_55 : decode m_TM_endd.2.1 55 = .ok (.aload_n 2, 1) := by decide +kernel
theorem e_TM_endd_56 : decode m_TM_endd.2.1 56 = .ok (.getfield 202, 3) := by decide +kernel
theorem e_TM_endd_59 : decode m_TM_endd.2.1 59 = .ok (.ifCond .eq 29, 3) := by decide +kernel
theorem e_TM_endd_62 : decode m_TM_endd.2.1 62 = .ok (.aload_n 0, 1) := by decide +kernel
theorem e_TM_endd_63 : decode m_TM_endd.2.1 63 = .ok (.getfield 67, 3) := by decide +kernel
theorem e_TM_endd_66 : decode m_TM_endd.2.1 66 = .ok (.bipush 6, 2) := by decide +kernel
theorem e_TM_endd_68 : decode m_TM_endd.2.1 68 = .ok (.iload_n 1, 1) := by decide +kernel
theorem e_TM_endd_69 : decode m_TM_endd.2.1 69 = .ok (.aload_n 0, 1) := by decide +kernel
theorem e_TM_endd_70 : decode m_TM_endd.2.1 70 = .ok (.getfield 23, 3) := by decide +kernel
theorem e_TM_endd_73 : decode m_TM_endd.2.1 73 = .ok (.iconst 0, 1) := by decide +kernel
theorem e_TM_endd_74 : decode m_TM_endd.2.1 74 = .ok (.invokevirtual 225, 3) := by decide +kernel
theorem e_TM_endd_77 : decode m_TM_endd.2.1 77 = .ok (.astore 4, 2) := by decide +kernel
theorem e_TM_endd_79 : decode m_TM_endd.2.1 79 = .ok (.aload 4, 2) := by decide +kernel
theorem e_TM_endd_81 : decode m_TM_endd.2.1 81 = .ok (.aload_n 2, 1) := by decide +kernel
theorem e_TM_endd_82 : decode m_TM_endd.2.1 82 = .ok (.getfield 229, 3) := by decide +kernel
theorem e_TM_endd_85 : decode m_TM_endd.2.1 85 = .ok (.putfield 139, 3) := by decide +kernel
theorem e_TM_endd_88 : decode m_TM_endd.2.1 88 = .ok (.return_, 1) := by decide +kernel
theorem e_TM_ask_0 : decode m_TM_ask.2.1 0 = .ok (.aload_n 0, 1) := by decide +kernel
theorem e_TM_ask_1 : decode m_TM_ask.2.1 1 = .ok (.getfield 38, 3) := by decide +kernel
theorem e_TM_ask_4 : decode m_TM_ask.2.1 4 = .ok (.iload_n 1, 1) := by decide +kernel
theorem e_TM_ask_5 : decode m_TM_ask.2.1 5 = .ok (.aaload, 1) := by decide +kernel
theorem e_TM_ask_6 : decode m_TM_ask.2.1 6 = .ok (.astore_n 2, 1) := by decide +kernel
theorem e_TM_ask_7 : decode m_TM_ask.2.1 7 = .ok (.iconst 0, 1) := by decide +kernel
theorem e_TM_ask_8 : decode m_TM_ask.2.1 8 = .ok (.istore_n 3, 1) := by decide +kernel
theorem e_TM_ask_9 : decode m_TM_ask.2.1 9 = .ok (.iload_n 3, 1) := by decide +kernel
theorem e_TM_ask_10 : decode m_TM_ask.2.1 10 = .ok (.aload_n 0, 1) := by decide +kernel
theorem e_TM_ask_11 : decode m_TM_ask.2.1 11 = .ok (.getfield 23, 3) := by decide +kernel
theorem e_TM_ask_14 : decode m_TM_ask.2.1 14 = .ok (.if_icmp .gt 40, 3) := by decide +kernel
theorem e_TM_ask_17 : decode m_TM_ask.2.1 17 = .ok (.iload_n 3, 1) := by decide +kernel
theorem e_TM_ask_18 : decode m_TM_ask.2.1 18 = .ok (.iload_n 1, 1) := by decide +kernel
theorem e_TM_ask_19 : decode m_TM_ask.2.1 19 = .ok (.if_icmp .eq 29, 3) := by decide +kernel
theorem e_TM_ask_22 : decode m_TM_ask.2.1 22 = .ok (.aload_n 0, 1) := by decide +kernel
theorem e_TM_ask_23 : decode m_TM_ask.2.1 23 = .ok (.getfield 67, 3) := by decide +kernel
theorem e_TM_ask_26 : decode m_TM_ask.2.1 26 = .ok (.aload_n 2, 1) := by decide +kernel
theorem e_TM_ask_27 : decode m_TM_ask.2.1 27 = .ok (.getfield 223, 3) := by decide +kernel
theorem e_TM_ask_30 : decode m_TM_ask.2.1 30 = .ok (.ifCond .eq 7, 3) := by decide +kernel
theorem e_TM_ask_33 : decode m_TM_ask.2.1 33 = .ok (.iconst 2, 1) := by decide +kernel
theorem e_TM_ask_34 : decode m_TM_ask.2.1 34 = .ok (.goto 4, 3) := by decide +kernel
theorem e_TM_ask_37 : decode m_TM_ask.2.1 37 = .ok (.iconst 1, 1) := by decide +kernel
theorem e_TM_ask_38 : decode m_TM_ask.2.1 38 = .ok (.iload_n 1, 1) := by decide +kernel
theorem e_TM_ask_39 : decode m_TM_ask.2.1 39 = .ok (.iload_n 3, 1) := by decide +kernel
theorem e_TM_ask_40 : decode m_TM_ask.2.1 40 = .ok (.aload_n 2, 1) := by decide +kernel
theorem e_TM_ask_41 : decode m_TM_ask.2.1 41 = .ok (.getfield 222, 3) := by decide +kernel
theorem e_TM_ask_44 : decode m_TM_ask.2.1 44 = .ok (.invokevirtual 225, 3) := by decide +kernel
theorem e_TM_ask_47 : decode m_TM_ask.2.1 47 = .ok (.pop, 1) := by decide +kernel
theorem e_TM_ask_48 : decode m_TM_ask.2.1 48 = .ok (.iinc 3 1, 3) := by decide +kernel
theorem e_TM_ask_51 : decode m_TM_ask.2.1 51 = .ok (.goto (-42), 3) := by decide +kernel
theorem e_TM_ask_54 : decode m_TM_ask.2.1 54 = .ok (.return_, 1) := by decide +kernel
theorem e_TM_askAgain_0 : decode m_TM_askAgain.2.1 0 = .ok (.aload_n 0, 1) := by decide +kernel
theorem e_TM_askAgain_1 : decode m_TM_askAgain.2.1 1 = .ok (.getfield 38, 3) := by decide +kernel
theorem e_TM_askAgain_4 : decode m_TM_askAgain.2.1 4 = .ok (.iload_n 1, 1) := by decide +kernel
theorem e_TM_askAgain_5 : decode m_TM_askAgain.2.1 5 = .ok (.aaload, 1) := by decide +kernel
theorem e_TM_askAgain_6 : decode m_TM_askAgain.2.1 6 = .ok (.astore_n 2, 1) := by decide +kernel
theorem e_TM_askAgain_7 : decode m_TM_askAgain.2.1 7 = .ok (.aload_n 2, 1) := by decide +kernel
theorem e_TM_askAgain_8 : decode m_TM_askAgain.2.1 8 = .ok (.getfield 199, 3) := by decide +kernel
theorem e_TM_askAgain_11 : decode m_TM_askAgain.2.1 11 = .ok (.aload_n 0, 1) := by decide +kernel
theorem e_TM_askAgain_12 : decode m_TM_askAgain.2.1 12 = .ok (.getfield 17, 3) := by decide +kernel
theorem e_TM_askAgain_15 : decode m_TM_askAgain.2.1 15 = .ok (.if_icmp .ge 32, 3) := by decide +kernel
theorem e_TM_askAgain_18 : decode m_TM_askAgain.2.1 18 = .ok (.aload_n 2, 1) := by decide +kernel
theorem e_TM_askAgain_19 : decode m_TM_askAgain.2.1 19 = .ok (.dup, 1) := by decide +kernel
theorem e_TM_askAgain_20 : decode m_TM_askAgain.2.1 20 = .ok (.getfield 199, 3) := by decide +kernel
theorem e_TM_askAgain_23 : decode m_TM_askAgain.2.1 23 = .ok (.iconst 1, 1) := by decide +kernel
theorem e_TM_askAgain_24 : decode m_TM_askAgain.2.1 24 = .ok (.iadd, 1) := by decide +kernel
theorem e_TM_askAgain_25 : decode m_TM_askAgain.2.1 25 = .ok (.putfield 199, 3) := by decide +kernel
theorem e_TM_askAgain_28 : decode m_TM_askAgain.2.1 28 = .ok (.aload_n 2, 1) := by decide +kernel
theorem e_TM_askAgain_29 : decode m_TM_askAgain.2.1 29 = .ok (.aload_n 0, 1) := by decide +kernel
theorem e_TM_askAgain_30 : decode m_TM_askAgain.2.1 30 = .ok (.getfield 92, 3) := by decide +kernel
theorem e_TM_askAgain_33 : decode m_TM_askAgain.2.1 33 = .ok (.aload_n 0, 1) := by decide +kernel
theorem e_TM_askAgain_34 : decode m_TM_askAgain.2.1 34 = .ok (.getfield 20, 3) := by decide +kernel
theorem e_TM_askAgain_37 : decode m_TM_askAgain.2.1 37 = .ok (.iadd, 1) := by decide +kernel
theorem e_TM_askAgain_38 : decode m_TM_askAgain.2.1 38 = .ok (.putfield 95, 3) := by decide +kernel
theorem e_TM_askAgain_41 : decode m_TM_askAgain.2.1 41 = .ok (.aload_n 0, 1) := by decide +kernel
theorem e_TM_askAgain_42 : decode m_TM_askAgain.2.1 42 = .ok (.iload_n 1, 1) := by decide +kernel
theorem e_TM_askAgain_43 : decode m_TM_askAgain.2.1 43 = .ok (.invokevirtual 98, 3) := by decide +kernel
theorem e_TM_askAgain_46 : decode m_TM_askAgain.2.1 46 = .ok (.return_, 1) := by decide +kernel
theorem e_TM_askAgain_47 : decode m_TM_askAgain.2.1 47 = .ok (.aload_n 2, 1) := by decide +kernel
theorem e_TM_askAgain_48 : decode m_TM_askAgain.2.1 48 = .ok (.iconst 1, 1) := by decide +kernel
theorem e_TM_askAgain_49 : decode m_TM_askAgain.2.1 49 = .ok (.putfield 202, 3) := by decide +kernel
theorem e_TM_askAgain_52 : decode m_TM_askAgain.2.1 52 = .ok (.aload_n 0, 1) := by decide +kernel
theorem e_TM_askAgain_53 : decode m_TM_askAgain.2.1 53 = .ok (.getfield 67, 3) := by decide +kernel
theorem e_TM_askAgain_56 : decode m_TM_askAgain.2.1 56 = .ok (.iconst 4, 1) := by decide +kernel
theorem e_TM_askAgain_57 : decode m_TM_askAgain.2.1 57 = .ok (.iload_n 1, 1) := by decide +kernel
theorem e_TM_askAgain_58 : decode m_TM_askAgain.2.1 58 = .ok (.aload_n 0, 1) := by decide +kernel
theorem e_TM_askAgain_59 : decode m_TM_askAgain.2.1 59 = .ok (.getfield 23, 3) := by decide +kernel
theorem e_TM_askAgain_62 : decode m_TM_askAgain.2.1 62 = .ok (.aload_n 2, 1) := by decide +kernel
theorem e_TM_askAgain_63 : decode m_TM_askAgain.2.1 63 = .ok (.getfield 222, 3) := by decide +kernel
theorem e_TM_askAgain_66 : decode m_TM_askAgain.2.1 66 = .ok (.invokevirtual 225, 3) := by decide +kernel
theorem e_TM_askAgain_69 : decode m_TM_askAgain.2.1 69 = .ok (.astore_n 3, 1) := by decide +kernel
theorem e_TM_askAgain_70 : decode m_TM_askAgain.2.1 70 = .ok (.aload_n 3, 1) := by decide +kernel
theorem e_TM_askAgain_71 : decode m_TM_askAgain.2.1 71 = .ok (.aload_n 2, 1) := by decide +kernel
theorem e_TM_askAgain_72 : decode m_TM_askAgain.2.1 72 = .ok (.getfield 229, 3) := by decide +kernel
theorem e_TM_askAgain_75 : decode m_TM_askAgain.2.1 75 = .ok (.putfield 139, 3) := by decide +kernel
theorem e_TM_askAgain_78 : decode m_TM_askAgain.2.1 78 = .ok (.aload_n 3, 1) := by decide +kernel
theorem e_TM_askAgain_79 : decode m_TM_askAgain.2.1 79 = .ok (.aload_n 2, 1) := by decide +kernel
theorem e_TM_askAgain_80 : decode m_TM_askAgain.2.1 80 = .ok (.getfield 223, 3) := by decide +kernel
theorem e_TM_askAgain_83 : decode m_TM_askAgain.2.1 83 = .ok (.putfield 142, 3) := by decide +kernel
theorem e_TM_askAgain_86 : decode m_TM_askAgain.2.1 86 = .ok (.return_, 1) := by decide +kernel
theorem e_TM_give_0 : decode m_TM_give.2.1 0 = .ok (.iload 4, 2) := by decide +kernel
theorem e_TM_give_2 : decode m_TM_give.2.1 2 = .ok (.ifCond .ne 4, 3) := by decide +kernel
theorem e_TM_give_5 : decode m_TM_give.2.1 5 = .ok (.return_, 1) := by decide +kernel
theorem e_TM_give_6 : decode m_TM_give.2.1 6 = .ok (.aload_n 0, 1) := by decide +kernel
theorem e_TM_give_7 : decode m_TM_give.2.1 7 = .ok (.iload_n 1, 1) := by decide +kernel
theorem e_TM_give_8 : decode m_TM_give.2.1 8 = .ok (.iload_n 3, 1) := by decide +kernel
theorem e_TM_give_9 : decode m_TM_give.2.1 9 = .ok (.invokevirtual 159, 3) := by decide +kernel
theorem e_TM_give_12 : decode m_TM_give.2.1 12 = .ok (.astore 7, 2) := by decide +kernel
theorem e_TM_give_14 : decode m_TM_give.2.1 14 = .ok (.aload_n 0, 1) := by decide +kernel
theorem e_TM_give_15 : decode m_TM_give.2.1 15 = .ok (.getfield 67, 3) := by decide +kernel
theorem e_TM_give_18 : decode m_TM_give.2.1 18 = .ok (.iconst 3, 1) := by decide +kernel
theorem e_TM_give_19 : decode m_TM_give.2.1 19 = .ok (.iload_n 1, 1) := by decide +kernel
theorem e_TM_give_20 : decode m_TM_give.2.1 20 = .ok (.iload_n 2, 1) := by decide +kernel
theorem e_TM_give_21 : decode m_TM_give.2.1 21 = .ok (.iload_n 3, 1) := by decide +kernel
theorem e_TM_give_22 : decode m_TM_give.2.1 22 = .ok (.invokevirtual 225, 3) := by decide +kernel
theorem e_TM_give_25 : decode m_TM_give.2.1 25 = .ok (.astore 8, 2) := by decide +kernel
theorem e_TM_give_27 : decode m_TM_give.2.1 27 = .ok (.aload 8, 2) := by decide +kernel
theorem e_TM_give_29 : decode m_TM_give.2.1 29 = .ok (.iload 4, 2) := by decide +kernel
theorem e_TM_give_31 : decode m_TM_give.2.1 31 = .ok (.putfield 230, 3) := by decide +kernel
theorem e_TM_give_34 : decode m_TM_give.2.1 34 = .ok (.aload 8, 2) := by decide +kernel
theorem e_TM_give_36 : decode m_TM_give.2.1 36 = .ok (.iload 5, 2) := by decide +kernel
theorem e_TM_give_38 : decode m_TM_give.2.1 38 = .ok (.putfield 211, 3) := by decide +kernel
theorem e_TM_give_41 : decode m_TM_give.2.1 41 = .ok (.aload 8, 2) := by decide +kernel
theorem e_TM_give_43 : decode m_TM_give.2.1 43 = .ok (.iload 6, 2) := by decide +kernel
theorem e_TM_give_45 : decode m_TM_give.2.1 45 = .ok (.putfield 231, 3) := by decide +kernel
theorem e_TM_give_48 : decode m_TM_give.2.1 48 = .ok (.aload 8, 2) := by decide +kernel
theorem e_TM_give_50 : decode m_TM_give.2.1 50 = .ok (.aload 7, 2) := by decide +kernel
theorem e_TM_give_52 : decode m_TM_give.2.1 52 = .ok (.getfield 183, 3) := by decide +kernel
theorem e_TM_give_55 : decode m_TM_give.2.1 55 = .ok (.putfield 212, 3) := by decide +kernel
theorem e_TM_give_58 : decode m_TM_give.2.1 58 = .ok (.aload 7, 2) := by decide +kernel
theorem e_TM_give_60 : decode m_TM_give.2.1 60 = .ok (.iload 4, 2) := by decide +kernel
theorem e_TM_give_62 : decode m_TM_give.2.1 62 = .ok (.iload 5, 2) := by decide +kernel
theorem e_TM_give_64 : decode m_TM_give.2.1 64 = .ok (.invokevirtual 234, 3) := by decide +kernel
theorem e_TM_give_67 : decode m_TM_give.2.1 67 = .ok (.return_, 1) := by decide +kernel
theorem e_TM_giveWay_0 : decode m_TM_giveWay.2.1 0 = .ok (.aload_n 0, 1) := by decide +kernel
theorem e_TM_giveWay_1 : decode m_TM_giveWay.2.1 1 = .ok (.iload_n 1, 1) := by decide +kernel
theorem e_TM_giveWay_2 : decode m_TM_giveWay.2.1 2 = .ok (.iload_n 2, 1) := by decide +kernel
theorem e_TM_giveWay_3 : decode m_TM_giveWay.2.1 3 = .ok (.invokevirtual 159, 3) := by decide +kernel
theorem e_TM_giveWay_6 : decode m_TM_giveWay.2.1 6 = .ok (.astore_n 3, 1) := by decide +kernel
theorem e_TM_giveWay_7 : decode m_TM_giveWay.2.1 7 = .ok (.aload_n 3, 1) := by decide +kernel
theorem e_TM_giveWay_8 : decode m_TM_giveWay.2.1 8 = .ok (.getfield 186, 3) := by decide +kernel
theorem e_TM_giveWay_11 : decode m_TM_giveWay.2.1 11 = .ok (.iconst (-1), 1) := by decide +kernel
theorem e_TM_giveWay_12 : decode m_TM_giveWay.2.1 12 = .ok (.if_icmp .eq 11, 3) := by decide +kernel
theorem e_TM_giveWay_15 : decode m_TM_giveWay.2.1 15 = .ok (.aload_n 3, 1) := by decide +kernel
theorem e_TM_giveWay_16 : decode m_TM_giveWay.2.1 16 = .ok (.getfield 186, 3) := by decide +kernel
theorem e_TM_giveWay_19 : decode m_TM_giveWay.2.1 19 = .ok (.iload_n 1, 1) := by decide +kernel
theorem e_TM_giveWay_20 : decode m_TM_giveWay.2.1 20 = .ok (.if_icmp .ne 4, 3) := by decide +kernel
theorem e_TM_giveWay_23 : decode m_TM_giveWay.2.1 23 = .ok (.return_, 1) := by decide +kernel
theorem e_TM_giveWay_24 : decode m_TM_giveWay.2.1 24 = .ok (.aload_n 3, 1) := by decide +kernel
theorem e_TM_giveWay_25 : decode m_TM_giveWay.2.1 25 = .ok (.getfield 189, 3) := by decide +kernel
theorem e_TM_giveWay_28 : decode m_TM_giveWay.2.1 28 = .ok (.ifCond .eq 28, 3) := by decide +kernel
theorem e_TM_giveWay_31 : decode m_TM_giveWay.2.1 31 = .ok (.aload_n 0, 1) := by decide +kernel
theorem e_TM_giveWay_32 : decode m_TM_giveWay.2.1 32 = .ok (.iload_n 1, 1) := by decide +kernel
theorem e_TM_giveWay_33 : decode m_TM_giveWay.2.1 33 = .ok (.aload_n 3, 1) := by decide +kernel
theorem e_TM_giveWay_34 : decode m_TM_giveWay.2.1 34 = .ok (.getfield 186, 3) := by decide +kernel
theorem e_TM_giveWay_37 : decode m_TM_giveWay.2.1 37 = .ok (.iload_n 2, 1) := by decide +kernel
theorem e_TM_giveWay_38 : decode m_TM_giveWay.2.1 38 = .ok (.aload_n 3, 1) := by decide +kernel
theorem e_TM_giveWay_39 : decode m_TM_giveWay.2.1 39 = .ok (.getfield 54, 3) := by decide +kernel
theorem e_TM_giveWay_42 : decode m_TM_giveWay.2.1 42 = .ok (.aload_n 3, 1) := by decide +kernel
theorem e_TM_giveWay_43 : decode m_TM_giveWay.2.1 43 = .ok (.getfield 57, 3) := by decide +kernel
theorem e_TM_giveWay_46 : decode m_TM_giveWay.2.1 46 = .ok (.aload_n 3, 1) := by decide +kernel
theorem e_TM_giveWay_47 : decode m_TM_giveWay.2.1 47 = .ok (.getfield 57, 3) := by decide +kernel
theorem e_TM_giveWay_50 : decode m_TM_giveWay.2.1 50 = .ok (.invokevirtual 166, 3) := by decide +kernel
theorem e_TM_giveWay_53 : decode m_TM_giveWay.2.1 53 = .ok (.goto 23, 3) := by decide +kernel
theorem e_TM_giveWay_56 : decode m_TM_giveWay.2.1 56 = .ok (.aload_n 3, 1) := by decide +kernel
theorem e_TM_giveWay_57 : decode m_TM_giveWay.2.1 57 = .ok (.getfield 57, 3) := by decide +kernel
theorem e_TM_giveWay_60 : decode m_TM_giveWay.2.1 60 = .ok (.ifCond .eq 16, 3) := by decide +kernel
theorem e_TM_giveWay_63 : decode m_TM_giveWay.2.1 63 = .ok (.aload_n 0, 1) := by decide +kernel
theorem e_TM_giveWay_64 : decode m_TM_giveWay.2.1 64 = .ok (.iload_n 1, 1) := by decide +kernel
theorem e_TM_giveWay_65 : decode m_TM_giveWay.2.1 65 = .ok (.aload_n 3, 1) := by decide +kernel
theorem e_TM_giveWay_66 : decode m_TM_giveWay.2.1 66 = .ok (.getfield 186, 3) := by decide +kernel
theorem e_TM_giveWay_69 : decode m_TM_giveWay.2.1 69 = .ok (.iload_n 2, 1) := by decide +kernel
theorem e_TM_giveWay_70 : decode m_TM_giveWay.2.1 70 = .ok (.iconst 1, 1) := by decide +kernel
theorem e_TM_giveWay_71 : decode m_TM_giveWay.2.1 71 = .ok (.iconst 1, 1) := by decide +kernel
theorem e_TM_giveWay_72 : decode m_TM_giveWay.2.1 72 = .ok (.iconst 1, 1) := by decide +kernel
theorem e_TM_giveWay_73 : decode m_TM_giveWay.2.1 73 = .ok (.invokevirtual 166, 3) := by decide +kernel
theorem e_TM_giveWay_76 : decode m_TM_giveWay.2.1 76 = .ok (.return_, 1) := by decide +kernel
theorem e_TM_onRead_0 : decode m_TM_onRead.2.1 0 = .ok (.aload_n 0, 1) := by decide +kernel
theorem e_TM_onRead_1 : decode m_TM_onRead.2.1 1 = .ok (.iload_n 1, 1) := by decide +kernel
theorem e_TM_onRead_2 : decode m_TM_onRead.2.1 2 = .ok (.iload_n 2, 1) := by decide +kernel
theorem e_TM_onRead_3 : decode m_TM_onRead.2.1 3 = .ok (.invokevirtual 159, 3) := by decide +kernel
theorem e_TM_onRead_6 : decode m_TM_onRead.2.1 6 = .ok (.astore 4, 2) := by decide +kernel
theorem e_TM_onRead_8 : decode m_TM_onRead.2.1 8 = .ok (.aload 4, 2) := by decide +kernel
theorem e_TM_onRead_10 : decode m_TM_onRead.2.1 10 = .ok (.getfield 186, 3) := by decide +kernel
theorem e_TM_onRead_13 : decode m_TM_onRead.2.1 13 = .ok (.iconst (-1), 1) := by decide +kernel
theorem e_TM_onRead_14 : decode m_TM_onRead.2.1 14 = .ok (.if_icmp .ne 11, 3) := by decide +kernel
theorem e_TM_onRead_17 : decode m_TM_onRead.2.1 17 = .ok (.aload 4, 2) := by decide +kernel
theorem e_TM_onRead_19 : decode m_TM_onRead.2.1 19 = .ok (.getfield 57, 3) := by decide +kernel
theorem e_TM_onRead_22 : decode m_TM_onRead.2.1 22 = .ok (.ifCond .ne 4, 3) := by decide +kernel
theorem e_TM_onRead_25 : decode m_TM_onRead.2.1 25 = .ok (.return_, 1) := by decide +kernel
theorem e_TM_onRead_26 : decode m_TM_onRead.2.1 26 = .ok (.aload 4, 2) := by decide +kernel
theorem e_TM_onRead_28 : decode m_TM_onRead.2.1 28 = .ok (.getfield 54, 3) := by decide +kernel
theorem e_TM_onRead_31 : decode m_TM_onRead.2.1 31 = .ok (.iconst 1, 1) := by decide +kernel
theorem e_TM_onRead_32 : decode m_TM_onRead.2.1 32 = .ok (.if_icmp .ne 7, 3) := by decide +kernel
theorem e_TM_onRead_35 : decode m_TM_onRead.2.1 35 = .ok (.iconst 1, 1) := by decide +kernel
theorem e_TM_onRead_36 : decode m_TM_onRead.2.1 36 = .ok (.goto 4, 3) := by decide +kernel
theorem e_TM_onRead_39 : decode m_TM_onRead.2.1 39 = .ok (.iconst 0, 1) := by decide +kernel
theorem e_TM_onRead_40 : decode m_TM_onRead.2.1 40 = .ok (.istore 5, 2) := by decide +kernel
theorem e_TM_onRead_42 : decode m_TM_onRead.2.1 42 = .ok (.aload_n 0, 1) := by decide +kernel
theorem e_TM_onRead_43 : decode m_TM_onRead.2.1 43 = .ok (.iload_n 1, 1) := by decide +kernel
theorem e_TM_onRead_44 : decode m_TM_onRead.2.1 44 = .ok (.iload_n 3, 1) := by decide +kernel
theorem e_TM_onRead_45 : decode m_TM_onRead.2.1 45 = .ok (.iload_n 2, 1) := by decide +kernel
theorem e_TM_onRead_46 : decode m_TM_onRead.2.1 46 = .ok (.iconst 1, 1) := by decide +kernel
theorem e_TM_onRead_47 : decode m_TM_onRead.2.1 47 = .ok (.iload 5, 2) := by decide +kernel
theorem e_TM_onRead_49 : decode m_TM_onRead.2.1 49 = .ok (.iconst 1, 1) := by decide +kernel
theorem e_TM_onRead_50 : decode m_TM_onRead.2.1 50 = .ok (.invokevirtual 166, 3) := by decide +kernel
theorem e_TM_onRead_53 : decode m_TM_onRead.2.1 53 = .ok (.return_, 1) := by decide +kernel
theorem e_TM_onWrite_0 : decode m_TM_onWrite.2.1 0 = .ok (.aload_n 0, 1) := by decide +kernel
theorem e_TM_onWrite_1 : decode m_TM_onWrite.2.1 1 = .ok (.iload_n 1, 1) := by decide +kernel
theorem e_TM_onWrite_2 : decode m_TM_onWrite.2.1 2 = .ok (.iload_n 2, 1) := by decide +kernel
theorem e_TM_onWrite_3 : decode m_TM_onWrite.2.1 3 = .ok (.invokevirtual 159, 3) := by decide +kernel
theorem e_TM_onWrite_6 : decode m_TM_onWrite.2.1 6 = .ok (.astore 4, 2) := by decide +kernel
theorem e_TM_onWrite_8 : decode m_TM_onWrite.2.1 8 = .ok (.aload 4, 2) := by decide +kernel
theorem e_TM_onWrite_10 : decode m_TM_onWrite.2.1 10 = .ok (.getfield 186, 3) := by decide +kernel
theorem e_TM_onWrite_13 : decode m_TM_onWrite.2.1 13 = .ok (.iconst (-1), 1) := by decide +kernel
theorem e_TM_onWrite_14 : decode m_TM_onWrite.2.1 14 = .ok (.if_icmp .ne 25, 3) := by decide +kernel
theorem e_TM_onWrite_17 : decode m_TM_onWrite.2.1 17 = .ok (.aload_n 0, 1) := by decide +kernel
theorem e_TM_onWrite_18 : decode m_TM_onWrite.2.1 18 = .ok (.iload_n 1, 1) := by decide +kernel
theorem e_TM_onWrite_19 : decode m_TM_onWrite.2.1 19 = .ok (.iload_n 3, 1) := by decide +kernel
theorem e_TM_onWrite_20 : decode m_TM_onWrite.2.1 20 = .ok (.iload_n 2, 1) := by decide +kernel
theorem e_TM_onWrite_21 : decode m_TM_onWrite.2.1 21 = .ok (.aload 4, 2) := by decide +kernel
theorem e_TM_onWrite_23 : decode m_TM_onWrite.2.1 23 = .ok (.getfield 54, 3) := by decide +kernel
theorem e_TM_onWrite_26 : decode m_TM_onWrite.2.1 26 = .ok (.aload 4, 2) := by decide +kernel
theorem e_TM_onWrite_28 : decode m_TM_onWrite.2.1 28 = .ok (.getfield 57, 3) := by decide +kernel
theorem e_TM_onWrite_31 : decode m_TM_onWrite.2.1 31 = .ok (.aload 4, 2) := by decide +kernel
theorem e_TM_onWrite_33 : decode m_TM_onWrite.2.1 33 = .ok (.getfield 57, 3) := by decide +kernel
theorem e_TM_onWrite_36 : decode m_TM_onWrite.2.1 36 = .ok (.invokevirtual 166, 3) := by decide +kernel
theorem e_TM_onWrite_39 : decode m_TM_onWrite.2.1 39 = .ok (.return_, 1) := by decide +kernel
theorem e_TM_onTokens_0 : decode m_TM_onTokens.2.1 0 = .ok (.aload_n 0, 1) := by decide +kernel
theorem e_TM_onTokens_1 : decode m_TM_onTokens.2.1 1 = .ok (.aload_n 1, 1) := by decide +kernel
theorem e_TM_onTokens_2 : decode m_TM_onTokens.2.1 2 = .ok (.getfield 119, 3) := by decide +kernel
theorem e_TM_onTokens_5 : decode m_TM_onTokens.2.1 5 = .ok (.aload_n 1, 1) := by decide +kernel
theorem e_TM_onTokens_6 : decode m_TM_onTokens.2.1 6 = .ok (.getfield 122, 3) := by decide +kernel
theorem e_TM_onTokens_9 : decode m_TM_onTokens.2.1 9 = .ok (.invokevirtual 159, 3) := by decide +kernel
theorem e_TM_onTokens_12 : decode m_TM_onTokens.2.1 12 = .ok (.aload_n 1, 1) := by decide +kernel
theorem e_TM_onTokens_13 : decode m_TM_onTokens.2.1 13 = .ok (.invokevirtual 238, 3) := by decide +kernel
theorem e_TM_onTokens_16 : decode m_TM_onTokens.2.1 16 = .ok (.aload_n 0, 1) := by decide +kernel
theorem e_TM_onTokens_17 : decode m_TM_onTokens.2.1 17 = .ok (.aload_n 1, 1) := by decide +kernel
theorem e_TM_onTokens_18 : decode m_TM_onTokens.2.1 18 = .ok (.getfield 119, 3) := by decide +kernel
theorem e_TM_onTokens_21 : decode m_TM_onTokens.2.1 21 = .ok (.aload_n 1, 1) := by decide +kernel
theorem e_TM_onTokens_22 : decode m_TM_onTokens.2.1 22 = .ok (.getfield 122, 3) := by decide +kernel
theorem e_TM_onTokens_25 : decode m_TM_onTokens.2.1 25 = .ok (.invokevirtual 241, 3) := by decide +kernel
theorem e_TM_onTokens_28 : decode m_TM_onTokens.2.1 28 = .ok (.aload_n 0, 1) := by decide +kernel
theorem e_TM_onTokens_29 : decode m_TM_onTokens.2.1 29 = .ok (.aload_n 1, 1) := by decide +kernel
theorem e_TM_onTokens_30 : decode m_TM_onTokens.2.1 30 = .ok (.getfield 119, 3) := by decide +kernel
theorem e_TM_onTokens_33 : decode m_TM_onTokens.2.1 33 = .ok (.invokevirtual 71, 3) := by decide +kernel
theorem e_TM_onTokens_36 : decode m_TM_onTokens.2.1 36 = .ok (.ifCond .eq 41, 3) := by decide +kernel
theorem e_TM_onTokens_39 : decode m_TM_onTokens.2.1 39 = .ok (.aload_n 0, 1) := by decide +kernel
theorem e_TM_onTokens_40 : decode m_TM_onTokens.2.1 40 = .ok (.getfield 38, 3) := by decide +kernel
theorem e_TM_onTokens_43 : decode m_TM_onTokens.2.1 43 = .ok (.aload_n 1, 1) := by decide +kernel
theorem e_TM_onTokens_44 : decode m_TM_onTokens.2.1 44 = .ok (.getfield 119, 3) := by decide +kernel
theorem e_TM_onTokens_47 : decode m_TM_onTokens.2.1 47 = .ok (.aaload, 1) := by decide +kernel
theorem e_TM_onTokens_48 : decode m_TM_onTokens.2.1 48 = .ok (.aload_n 1, 1) := by decide +kernel
theorem e_TM_onTokens_49 : decode m_TM_onTokens.2.1 49 = .ok (.getfield 122, 3) := by decide +kernel
theorem e_TM_onTokens_52 : decode m_TM_onTokens.2.1 52 = .ok (.invokevirtual 163, 3) := by decide +kernel
theorem e_TM_onTokens_55 : decode m_TM_onTokens.2.1 55 = .ok (.ifCond .eq 22, 3) := by decide +kernel
theorem e_TM_onTokens_58 : decode m_TM_onTokens.2.1 58 = .ok (.aload_n 0, 1) := by decide +kernel
theorem e_TM_onTokens_59 : decode m_TM_onTokens.2.1 59 = .ok (.aload_n 1, 1) := by decide +kernel
theorem e_TM_onTokens_60 : decode m_TM_onTokens.2.1 60 = .ok (.getfield 119, 3) := by decide +kernel
theorem e_TM_onTokens_63 : decode m_TM_onTokens.2.1 63 = .ok (.invokevirtual 85, 3) := by decide +kernel
theorem e_TM_onTokens_66 : decode m_TM_onTokens.2.1 66 = .ok (.ifCond .eq 11, 3) := by decide +kernel
theorem e_TM_onTokens_69 : decode m_TM_onTokens.2.1 69 = .ok (.aload_n 0, 1) := by decide +kernel
theorem e_TM_onTokens_70 : decode m_TM_onTokens.2.1 70 = .ok (.aload_n 1, 1) := by decide +kernel
theorem e_TM_onTokens_71 : decode m_TM_onTokens.2.1 71 = .ok (.getfield 119, 3) := by decide +kernel
theorem e_TM_onTokens_74 : decode m_TM_onTokens.2.1 74 = .ok (.invokevirtual 88, 3) := by decide +kernel
theorem e_TM_onTokens_77 : decode m_TM_onTokens.2.1 77 = .ok (.return_, 1) := by decide +kernel
theorem e_TM_onPlease_0 : decode m_TM_onPlease.2.1 0 = .ok (.iload_n 3, 1) := by decide +kernel
theorem e_TM_onPlease_1 : decode m_TM_onPlease.2.1 1 = .ok (.aload_n 0, 1) := by decide +kernel
theorem e_TM_onPlease_2 : decode m_TM_onPlease.2.1 2 = .ok (.getfield 43, 3) := by decide +kernel
theorem e_TM_onPlease_5 : decode m_TM_onPlease.2.1 5 = .ok (.iload_n 1, 1) := by decide +kernel
theorem e_TM_onPlease_6 : decode m_TM_onPlease.2.1 6 = .ok (.iaload, 1) := by decide +kernel
theorem e_TM_onPlease_7 : decode m_TM_onPlease.2.1 7 = .ok (.if_icmp .gt 4, 3) := by decide +kernel
theorem e_TM_onPlease_10 : decode m_TM_onPlease.2.1 10 = .ok (.return_, 1) := by decide +kernel
theorem e_TM_onPlease_11 : decode m_TM_onPlease.2.1 11 = .ok (.aload_n 0, 1) := by decide +kernel
theorem e_TM_onPlease_12 : decode m_TM_onPlease.2.1 12 = .ok (.iload_n 1, 1) := by decide +kernel
theorem e_TM_onPlease_13 : decode m_TM_onPlease.2.1 13 = .ok (.iload_n 3, 1) := by decide +kernel
theorem e_TM_onPlease_14 : decode m_TM_onPlease.2.1 14 = .ok (.iconst 1, 1) := by decide +kernel
theorem e_TM_onPlease_15 : decode m_TM_onPlease.2.1 15 = .ok (.isub, 1) := by decide +kernel
theorem e_TM_onPlease_16 : decode m_TM_onPlease.2.1 16 = .ok (.invokevirtual 152, 3) := by decide +kernel
theorem e_TM_onPlease_19 : decode m_TM_onPlease.2.1 19 = .ok (.aload_n 0, 1) := by decide +kernel
theorem e_TM_onPlease_20 : decode m_TM_onPlease.2.1 20 = .ok (.getfield 49, 3) := by decide +kernel
theorem e_TM_onPlease_23 : decode m_TM_onPlease.2.1 23 = .ok (.iload_n 2, 1) := by decide +kernel
theorem e_TM_onPlease_24 : decode m_TM_onPlease.2.1 24 = .ok (.aaload, 1) := by decide +kernel
theorem e_TM_onPlease_25 : decode m_TM_onPlease.2.1 25 = .ok (.astore 5, 2) := by decide +kernel
theorem e_TM_onPlease_27 : decode m_TM_onPlease.2.1 27 = .ok (.aload 5, 2) := by decide +kernel
theorem e_TM_onPlease_29 : decode m_TM_onPlease.2.1 29 = .ok (.getfield 192, 3) := by decide +kernel
theorem e_TM_onPlease_32 : decode m_TM_onPlease.2.1 32 = .ok (.new 244, 3) := by decide +kernel
theorem e_TM_onPlease_35 : decode m_TM_onPlease.2.1 35 = .ok (.dup, 1) := by decide +kernel
theorem e_TM_onPlease_36 : decode m_TM_onPlease.2.1 36 = .ok (.iload_n 1, 1) := by decide +kernel
theorem e_TM_onPlease_37 : decode m_TM_onPlease.2.1 37 = .ok (.iload_n 3, 1) := by decide +kernel
theorem e_TM_onPlease_38 : decode m_TM_onPlease.2.1 38 = .ok (.iload 4, 2) := by decide +kernel
theorem e_TM_onPlease_40 : decode m_TM_onPlease.2.1 40 = .ok (.invokespecial 246, 3) := by decide +kernel
theorem e_TM_onPlease_43 : decode m_TM_onPlease.2.1 43 = .ok (.invokevirtual 249, 3) := by decide +kernel
theorem e_TM_onPlease_46 : decode m_TM_onPlease.2.1 46 = .ok (.pop, 1) := by decide +kernel
theorem e_TM_onPlease_47 : decode m_TM_onPlease.2.1 47 = .ok (.aload 5, 2) := by decide +kernel
theorem e_TM_onPlease_49 : decode m_TM_onPlease.2.1 49 = .ok (.getfield 253, 3) := by decide +kernel
theorem e_TM_onPlease_52 : decode m_TM_onPlease.2.1 52 = .ok (.ifnonnull 8, 3) := by decide +kernel
theorem e_TM_onPlease_55 : decode m_TM_onPlease.2.1 55 = .ok (.aload_n 0, 1) := by decide +kernel
theorem e_TM_onPlease_56 : decode m_TM_onPlease.2.1 56 = .ok (.iload_n 2, 1) := by decide +kernel
theorem e_TM_onPlease_57 : decode m_TM_onPlease.2.1 57 = .ok (.invokevirtual 257, 3) := by decide +kernel
theorem e_TM_onPlease_60 : decode m_TM_onPlease.2.1 60 = .ok (.return_, 1) := by decide +kernel
theorem e_TM_onKnow_0 : decode m_TM_onKnow.2.1 0 = .ok (.aload_n 0, 1) := by decide +kernel
theorem e_TM_onKnow_1 : decode m_TM_onKnow.2.1 1 = .ok (.aload_n 1, 1) := by decide +kernel
theorem e_TM_onKnow_2 : decode m_TM_onKnow.2.1 2 = .ok (.getfield 119, 3) := by decide +kernel
theorem e_TM_onKnow_5 : decode m_TM_onKnow.2.1 5 = .ok (.aload_n 1, 1) := by decide +kernel
theorem e_TM_onKnow_6 : decode m_TM_onKnow.2.1 6 = .ok (.getfield 122, 3) := by decide +kernel
theorem e_TM_onKnow_9 : decode m_TM_onKnow.2.1 9 = .ok (.invokevirtual 159, 3) := by decide +kernel
theorem e_TM_onKnow_12 : decode m_TM_onKnow.2.1 12 = .ok (.astore_n 2, 1) := by decide +kernel
theorem e_TM_onKnow_13 : decode m_TM_onKnow.2.1 13 = .ok (.aload_n 1, 1) := by decide +kernel
theorem e_TM_onKnow_14 : decode m_TM_onKnow.2.1 14 = .ok (.getfield 139, 3) := by decide +kernel
theorem e_TM_onKnow_17 : decode m_TM_onKnow.2.1 17 = .ok (.aload_n 2, 1) := by decide +kernel
theorem e_TM_onKnow_18 : decode m_TM_onKnow.2.1 18 = .ok (.getfield 260, 3) := by decide +kernel
theorem e_TM_onKnow_21 : decode m_TM_onKnow.2.1 21 = .ok (.if_icmp .le 7, 3) := by decide +kernel
theorem e_TM_onKnow_24 : decode m_TM_onKnow.2.1 24 = .ok (.iconst 1, 1) := by decide +kernel
theorem e_TM_onKnow_25 : decode m_TM_onKnow.2.1 25 = .ok (.goto 4, 3) := by decide +kernel
theorem e_TM_onKnow_28 : decode m_TM_onKnow.2.1 28 = .ok (.iconst 0, 1) := by decide +kernel
theorem e_TM_onKnow_29 : decode m_TM_onKnow.2.1 29 = .ok (.istore_n 3, 1) := by decide +kernel
theorem e_TM_onKnow_30 : decode m_TM_onKnow.2.1 30 = .ok (.aload_n 1, 1) := by decide +kernel
theorem e_TM_onKnow_31 : decode m_TM_onKnow.2.1 31 = .ok (.getfield 139, 3) := by decide +kernel
theorem e_TM_onKnow_34 : decode m_TM_onKnow.2.1 34 = .ok (.aload_n 2, 1) := by decide +kernel
theorem e_TM_onKnow_35 : decode m_TM_onKnow.2.1 35 = .ok (.getfield 260, 3) := by decide +kernel
theorem e_TM_onKnow_38 : decode m_TM_onKnow.2.1 38 = .ok (.if_icmp .ne 15, 3) := by decide +kernel
theorem e_TM_onKnow_41 : decode m_TM_onKnow.2.1 41 = .ok (.aload_n 1, 1) := by decide +kernel
theorem e_TM_onKnow_42 : decode m_TM_onKnow.2.1 42 = .ok (.getfield 263, 3) := by decide +kernel
theorem e_TM_onKnow_45 : decode m_TM_onKnow.2.1 45 = .ok (.iconst (-1), 1) := by decide +kernel
theorem e_TM_onKnow_46 : decode m_TM_onKnow.2.1 46 = .ok (.if_icmp .ne 7, 3) := by decide +kernel
theorem e_TM_onKnow_49 : decode m_TM_onKnow.2.1 49 = .ok (.iconst 1, 1) := by decide +kernel
theorem e_TM_onKnow_50 : decode m_TM_onKnow.2.1 50 = .ok (.goto 4, 3) := by decide +kernel
theorem e_TM_onKnow_53 : decode m_TM_onKnow.2.1 53 = .ok (.iconst 0, 1) := by decide +kernel
theorem e_TM_onKnow_54 : decode m_TM_onKnow.2.1 54 = .ok (.istore 4, 2) := by decide +kernel
theorem e_TM_onKnow_56 : decode m_TM_onKnow.2.1 56 = .ok (.iload_n 3, 1) := by decide +kernel
theorem e_TM_onKnow_57 : decode m_TM_onKnow.2.1 57 = .ok (.ifCond .ne 8, 3) := by decide +kernel
theorem e_TM_onKnow_60 : decode m_TM_onKnow.2.1 60 = .ok (.iload 4, 2) := by decide +kernel
theorem e_TM_onKnow_62 : decode m_TM_onKnow.2.1 62 = .ok (.ifCond .eq 31, 3) := by decide +kernel
theorem e_TM_onKnow_65 : decode m_TM_onKnow.2.1 65 = .ok (.aload_n 2, 1) := by decide +kernel
theorem e_TM_onKnow_66 : decode m_TM_onKnow.2.1 66 = .ok (.aload_n 1, 1) := by decide +kernel
theorem e_TM_onKnow_67 : decode m_TM_onKnow.2.1 67 = .ok (.getfield 263, 3) := by decide +kernel
theorem e_TM_onKnow_70 : decode m_TM_onKnow.2.1 70 = .ok (.aload_n 1, 1) := by decide +kernel
theorem e_TM_onKnow_71 : decode m_TM_onKnow.2.1 71 = .ok (.getfield 142, 3) := by decide +kernel
theorem e_TM_onKnow_74 : decode m_TM_onKnow.2.1 74 = .ok (.aload_n 1, 1) := by decide +kernel
theorem e_TM_onKnow_75 : decode m_TM_onKnow.2.1 75 = .ok (.getfield 139, 3) := by decide +kernel
theorem e_TM_onKnow_78 : decode m_TM_onKnow.2.1 78 = .ok (.invokevirtual 264, 3) := by decide +kernel
theorem e_TM_onKnow_81 : decode m_TM_onKnow.2.1 81 = .ok (.aload_n 0, 1) := by decide +kernel
theorem e_TM_onKnow_82 : decode m_TM_onKnow.2.1 82 = .ok (.aload_n 1, 1) := by decide +kernel
theorem e_TM_onKnow_83 : decode m_TM_onKnow.2.1 83 = .ok (.getfield 119, 3) := by decide +kernel
theorem e_TM_onKnow_86 : decode m_TM_onKnow.2.1 86 = .ok (.aload_n 1, 1) := by decide +kernel
theorem e_TM_onKnow_87 : decode m_TM_onKnow.2.1 87 = .ok (.getfield 122, 3) := by decide +kernel
theorem e_TM_onKnow_90 : decode m_TM_onKnow.2.1 90 = .ok (.invokevirtual 241, 3) := by decide +kernel
theorem e_TM_onKnow_93 : decode m_TM_onKnow.2.1 93 = .ok (.return_, 1) := by decide +kernel
theorem e_TM_lapse_0 : decode m_TM_lapse.2.1 0 = .ok (.iload_n 2, 1) := by decide +kernel
theorem e_TM_lapse_1 : decode m_TM_lapse.2.1 1 = .ok (.aload_n 0, 1) := by decide +kernel
theorem e_TM_lapse_2 : decode m_TM_lapse.2.1 2 = .ok (.getfield 43, 3) := by decide +kernel
theorem e_TM_lapse_5 : decode m_TM_lapse.2.1 5 = .ok (.iload_n 1, 1) := by decide +kernel
theorem e_TM_lapse_6 : decode m_TM_lapse.2.1 6 = .ok (.iaload, 1) := by decide +kernel
theorem e_TM_lapse_7 : decode m_TM_lapse.2.1 7 = .ok (.if_icmp .gt 4, 3) := by decide +kernel
theorem e_TM_lapse_10 : decode m_TM_lapse.2.1 10 = .ok (.return_, 1) := by decide +kernel
theorem e_TM_lapse_11 : decode m_TM_lapse.2.1 11 = .ok (.aload_n 0, 1) := by decide +kernel
theorem e_TM_lapse_12 : decode m_TM_lapse.2.1 12 = .ok (.getfield 43, 3) := by decide +kernel
theorem e_TM_lapse_15 : decode m_TM_lapse.2.1 15 = .ok (.iload_n 1, 1) := by decide +kernel
theorem e_TM_lapse_16 : decode m_TM_lapse.2.1 16 = .ok (.iload_n 2, 1) := by decide +kernel
theorem e_TM_lapse_17 : decode m_TM_lapse.2.1 17 = .ok (.iastore, 1) := by decide +kernel
theorem e_TM_lapse_18 : decode m_TM_lapse.2.1 18 = .ok (.iconst 0, 1) := by decide +kernel
theorem e_TM_lapse_19 : decode m_TM_lapse.2.1 19 = .ok (.istore_n 3, 1) := by decide +kernel
theorem e_TM_lapse_20 : decode m_TM_lapse.2.1 20 = .ok (.iload_n 3, 1) := by decide +kernel
theorem e_TM_lapse_21 : decode m_TM_lapse.2.1 21 = .ok (.iconst 2, 1) := by decide +kernel
theorem e_TM_lapse_22 : decode m_TM_lapse.2.1 22 = .ok (.if_icmp .ge 20, 3) := by decide +kernel
theorem e_TM_lapse_25 : decode m_TM_lapse.2.1 25 = .ok (.aload_n 0, 1) := by decide +kernel
theorem e_TM_lapse_26 : decode m_TM_lapse.2.1 26 = .ok (.getfield 49, 3) := by decide +kernel
theorem e_TM_lapse_29 : decode m_TM_lapse.2.1 29 = .ok (.iload_n 3, 1) := by decide +kernel
theorem e_TM_lapse_30 : decode m_TM_lapse.2.1 30 = .ok (.aaload, 1) := by decide +kernel
theorem e_TM_lapse_31 : decode m_TM_lapse.2.1 31 = .ok (.iload_n 1, 1) := by decide +kernel
theorem e_TM_lapse_32 : decode m_TM_lapse.2.1 32 = .ok (.iload_n 2, 1) := by decide +kernel
theorem e_TM_lapse_33 : decode m_TM_lapse.2.1 33 = .ok (.invokevirtual 268, 3) := by decide +kernel
theorem e_TM_lapse_36 : decode m_TM_lapse.2.1 36 = .ok (.iinc 3 1, 3) := by decide +kernel
theorem e_TM_lapse_39 : decode m_TM_lapse.2.1 39 = .ok (.goto (-19), 3) := by decide +kernel
theorem e_TM_lapse_42 : decode m_TM_lapse.2.1 42 = .ok (.iconst 0, 1) := by decide +kernel
theorem e_TM_lapse_43 : decode m_TM_lapse.2.1 43 = .ok (.istore_n 3, 1) := by decide +kernel
theorem e_TM_lapse_44 : decode m_TM_lapse.2.1 44 = .ok (.iload_n 3, 1) := by decide +kernel
theorem e_TM_lapse_45 : decode m_TM_lapse.2.1 45 = .ok (.iconst 2, 1) := by decide +kernel
theorem e_TM_lapse_46 : decode m_TM_lapse.2.1 46 = .ok (.if_icmp .ge 54, 3) := by decide +kernel
theorem e_TM_lapse_49 : decode m_TM_lapse.2.1 49 = .ok (.aload_n 0, 1) := by decide +kernel
theorem e_TM_lapse_50 : decode m_TM_lapse.2.1 50 = .ok (.getfield 49, 3) := by decide +kernel
theorem e_TM_lapse_53 : decode m_TM_lapse.2.1 53 = .ok (.iload_n 3, 1) := by decide +kernel
theorem e_TM_lapse_54 : decode m_TM_lapse.2.1 54 = .ok (.aaload, 1) := by decide +kernel
theorem e_TM_lapse_55 : decode m_TM_lapse.2.1 55 = .ok (.astore 4, 2) := by decide +kernel
theorem e_TM_lapse_57 : decode m_TM_lapse.2.1 57 = .ok (.aload 4, 2) := by decide +kernel
theorem e_TM_lapse_59 : decode m_TM_lapse.2.1 59 = .ok (.getfield 253, 3) := by decide +kernel
theorem e_TM_lapse_62 : decode m_TM_lapse.2.1 62 = .ok (.ifnull 32, 3) := by decide +kernel
theorem e_TM_lapse_65 : decode m_TM_lapse.2.1 65 = .ok (.aload 4, 2) := by decide +kernel
theorem e_TM_lapse_67 : decode m_TM_lapse.2.1 67 = .ok (.getfield 253, 3) := by decide +kernel
theorem e_TM_lapse_70 : decode m_TM_lapse.2.1 70 = .ok (.iload_n 1, 1) := by decide +kernel
theorem e_TM_lapse_71 : decode m_TM_lapse.2.1 71 = .ok (.iload_n 2, 1) := by decide +kernel
theorem e_TM_lapse_72 : decode m_TM_lapse.2.1 72 = .ok (.invokevirtual 271, 3) := by decide +kernel
theorem e_TM_lapse_75 : decode m_TM_lapse.2.1 75 = .ok (.ifCond .eq 19, 3) := by decide +kernel
theorem e_TM_lapse_78 : decode m_TM_lapse.2.1 78 = .ok (.aload 4, 2) := by decide +kernel
theorem e_TM_lapse_80 : decode m_TM_lapse.2.1 80 = .ok (.aconst_null, 1) := by decide +kernel
theorem e_TM_lapse_81 : decode m_TM_lapse.2.1 81 = .ok (.putfield 253, 3) := by decide +kernel
theorem e_TM_lapse_84 : decode m_TM_lapse.2.1 84 = .ok (.aload_n 0, 1) := by decide +kernel
theorem e_TM_lapse_85 : decode m_TM_lapse.2.1 85 = .ok (.iload_n 3, 1) := by decide +kernel
theorem e_TM_lapse_86 : decode m_TM_lapse.2.1 86 = .ok (.invokevirtual 275, 3) := by decide +kernel
theorem e_TM_lapse_89 : decode m_TM_lapse.2.1 89 = .ok (.aload_n 0, 1) := by decide +kernel
theorem e_TM_lapse_90 : decode m_TM_lapse.2.1 90 = .ok (.iload_n 3, 1) := by decide +kernel
theorem e_TM_lapse_91 : decode m_TM_lapse.2.1 91 = .ok (.invokevirtual 257, 3) := by decide +kernel
theorem e_TM_lapse_94 : decode m_TM_lapse.2.1 94 = .ok (.iinc 3 1, 3) := by decide +kernel
theorem e_TM_lapse_97 : decode m_TM_lapse.2.1 97 = .ok (.goto (-53), 3) := by decide +kernel
theorem e_TM_lapse_100 : decode m_TM_lapse.2.1 100 = .ok (.return_, 1) := by decide +kernel
theorem e_TM_activateFirst_0 : decode m_TM_activateFirst.2.1 0 = .ok (.aload_n 0, 1) := by decide +kernel
theorem e_TM_activateFirst_1 : decode m_TM_activateFirst.2.1 1 = .ok (.getfield 49, 3) := by decide +kernel
theorem e_TM_activateFirst_4 : decode m_TM_activateFirst.2.1 4 = .ok (.iload_n 1, 1) := by decide +kernel
theorem e_TM_activateFirst_5 : decode m_TM_activateFirst.2.1 5 = .ok (.aaload, 1) := by decide +kernel
theorem e_TM_activateFirst_6 : decode m_TM_activateFirst.2.1 6 = .ok (.astore_n 2, 1) := by decide +kernel
theorem e_TM_activateFirst_7 : decode m_TM_activateFirst.2.1 7 = .ok (.aload_n 2, 1) := by decide +kernel
theorem e_TM_activateFirst_8 : decode m_TM_activateFirst.2.1 8 = .ok (.getfield 192, 3) := by decide +kernel
theorem e_TM_activateFirst_11 : decode m_TM_activateFirst.2.1 11 = .ok (.invokevirtual 278, 3) := by decide +kernel
theorem e_TM_activateFirst_14 : decode m_TM_activateFirst.2.1 14 = .ok (.ifCond .eq 4, 3) := by decide +kernel
theorem e_TM_activateFirst_17 : decode m_TM_activateFirst.2.1 17 = .ok (.return_, 1) := by decide +kernel
theorem e_TM_activateFirst_18 : decode m_TM_activateFirst.2.1 18 = .ok (.aload_n 2, 1) := by decide +kernel
theorem e_TM_activateFirst_19 : decode m_TM_activateFirst.2.1 19 = .ok (.aload_n 2, 1) := by decide +kernel
theorem e_TM_activateFirst_20 : decode m_TM_activateFirst.2.1 20 = .ok (.getfield 192, 3) := by decide +kernel
theorem e_TM_activateFirst_23 : decode m_TM_activateFirst.2.1 23 = .ok (.iconst 0, 1) := by decide +kernel
theorem e_TM_activateFirst_24 : decode m_TM_activateFirst.2.1 24 = .ok (.invokevirtual 282, 3) := by decide +kernel
theorem e_TM_activateFirst_27 : decode m_TM_activateFirst.2.1 27 = .ok (.checkcast 244, 3) := by decide +kernel
theorem e_TM_activateFirst_30 : decode m_TM_activateFirst.2.1 30 = .ok (.putfield 253, 3) := by decide +kernel
theorem e_TM_activateFirst_33 : decode m_TM_activateFirst.2.1 33 = .ok (.aload_n 2, 1) := by decide +kernel
theorem e_TM_activateFirst_34 : decode m_TM_activateFirst.2.1 34 = .ok (.dup, 1) := by decide +kernel
theorem e_TM_activateFirst_35 : decode m_TM_activateFirst.2.1 35 = .ok (.getfield 286, 3) := by decide +kernel
theorem e_TM_activateFirst_38 : decode m_TM_activateFirst.2.1 38 = .ok (.iconst 1, 1) := by decide +kernel
theorem e_TM_activateFirst_39 : decode m_TM_activateFirst.2.1 39 = .ok (.iadd, 1) := by decide +kernel
theorem e_TM_activateFirst_40 : decode m_TM_activateFirst.2.1 40 = .ok (.putfield 286, 3) := by decide +kernel
theorem e_TM_activateFirst_43 : decode m_TM_activateFirst.2.1 43 = .ok (.aload_n 0, 1) := by decide +kernel
theorem e_TM_activateFirst_44 : decode m_TM_activateFirst.2.1 44 = .ok (.iload_n 1, 1) := by decide +kernel
theorem e_TM_activateFirst_45 : decode m_TM_activateFirst.2.1 45 = .ok (.invokevirtual 275, 3) := by decide +kernel
theorem e_TM_activateFirst_48 : decode m_TM_activateFirst.2.1 48 = .ok (.aload_n 0, 1) := by decide +kernel
theorem e_TM_activateFirst_49 : decode m_TM_activateFirst.2.1 49 = .ok (.aload_n 0, 1) := by decide +kernel
theorem e_TM_activateFirst_50 : decode m_TM_activateFirst.2.1 50 = .ok (.getfield 23, 3) := by decide +kernel
theorem e_TM_activateFirst_53 : decode m_TM_activateFirst.2.1 53 = .ok (.iload_n 1, 1) := by decide +kernel
theorem e_TM_activateFirst_54 : decode m_TM_activateFirst.2.1 54 = .ok (.invokevirtual 241, 3) := by decide +kernel
theorem e_TM_activateFirst_57 : decode m_TM_activateFirst.2.1 57 = .ok (.return_, 1) := by decide +kernel
theorem e_TM_tellActive_0 : decode m_TM_tellActive.2.1 0 = .ok (.aload_n 0, 1) := by decide +kernel
theorem e_TM_tellActive_1 : decode m_TM_tellActive.2.1 1 = .ok (.getfield 49, 3) := by decide +kernel
theorem e_TM_tellActive_4 : decode m_TM_tellActive.2.1 4 = .ok (.iload_n 1, 1) := by decide +kernel
theorem e_TM_tellActive_5 : decode m_TM_tellActive.2.1 5 = .ok (.aaload, 1) := by decide +kernel
theorem e_TM_tellActive_6 : decode m_TM_tellActive.2.1 6 = .ok (.astore_n 2, 1) := by decide +kernel
theorem e_TM_tellActive_7 : decode m_TM_tellActive.2.1 7 = .ok (.aload_n 2, 1) := by decide +kernel
theorem e_TM_tellActive_8 : decode m_TM_tellActive.2.1 8 = .ok (.getfield 253, 3) := by decide +kernel
theorem e_TM_tellActive_11 : decode m_TM_tellActive.2.1 11 = .ok (.ifnonnull 7, 3) := by decide +kernel
theorem e_TM_tellActive_14 : decode m_TM_tellActive.2.1 14 = .ok (.iconst (-1), 1) := by decide +kernel
theorem e_TM_tellActive_15 : decode m_TM_tellActive.2.1 15 = .ok (.goto 10, 3) := by decide +kernel
theorem e_TM_tellActive_18 : decode m_TM_tellActive.2.1 18 = .ok (.aload_n 2, 1) := by decide +kernel
theorem e_TM_tellActive_19 : decode m_TM_tellActive.2.1 19 = .ok (.getfield 253, 3) := by decide +kernel
theorem e_TM_tellActive_22 : decode m_TM_tellActive.2.1 22 = .ok (.getfield 287, 3) := by decide +kernel
theorem e_TM_tellActive_25 : decode m_TM_tellActive.2.1 25 = .ok (.istore_n 3, 1) := by decide +kernel
theorem e_TM_tellActive_26 : decode m_TM_tellActive.2.1 26 = .ok (.aload_n 2, 1) := by decide +kernel
theorem e_TM_tellActive_27 : decode m_TM_tellActive.2.1 27 = .ok (.getfield 253, 3) := by decide +kernel
theorem e_TM_tellActive_30 : decode m_TM_tellActive.2.1 30 = .ok (.ifnull 17, 3) := by decide +kernel
theorem e_TM_tellActive_33 : decode m_TM_tellActive.2.1 33 = .ok (.aload_n 2, 1) := by decide +kernel
theorem e_TM_tellActive_34 : decode m_TM_tellActive.2.1 34 = .ok (.getfield 253, 3) := by decide +kernel
theorem e_TM_tellActive_37 : decode m_TM_tellActive.2.1 37 = .ok (.getfield 290, 3) := by decide +kernel
theorem e_TM_tellActive_40 : decode m_TM_tellActive.2.1 40 = .ok (.ifCond .eq 7, 3) := by decide +kernel
theorem e_TM_tellActive_43 : decode m_TM_tellActive.2.1 43 = .ok (.iconst 1, 1) := by decide +kernel
theorem e_TM_tellActive_44 : decode m_TM_tellActive.2.1 44 = .ok (.goto 4, 3) := by decide +kernel
theorem e_TM_tellActive_47 : decode m_TM_tellActive.2.1 47 = .ok (.iconst 0, 1) := by decide +kernel
theorem e_TM_tellActive_48 : decode m_TM_tellActive.2.1 48 = .ok (.istore 4, 2) := by decide +kernel
theorem e_TM_tellActive_50 : decode m_TM_tellActive.2.1 50 = .ok (.iconst 0, 1) := by decide +kernel
theorem e_TM_tellActive_51 : decode m_TM_tellActive.2.1 51 = .ok (.istore 5, 2) := by decide +kernel
theorem e_TM_tellActive_53 : decode m_TM_tellActive.2.1 53 = .ok (.iload 5, 2) := by decide +kernel
theorem e_TM_tellActive_55 : decode m_TM_tellActive.2.1 55 = .ok (.aload_n 0, 1) := by decide +kernel
theorem e_TM_tellActive_56 : decode m_TM_tellActive.2.1 56 = .ok (.getfield 13, 3) := by decide +kernel
theorem e_TM_tellActive_59 : decode m_TM_tellActive.2.1 59 = .ok (.if_icmp .ge 48, 3) := by decide +kernel
theorem e_TM_tellActive_62 : decode m_TM_tellActive.2.1 62 = .ok (.aload_n 0, 1) := by decide +kernel
theorem e_TM_tellActive_63 : decode m_TM_tellActive.2.1 63 = .ok (.getfield 67, 3) := by decide +kernel
theorem e_TM_tellActive_66 : decode m_TM_tellActive.2.1 66 = .ok (.iconst 5, 1) := by decide +kernel
theorem e_TM_tellActive_67 : decode m_TM_tellActive.2.1 67 = .ok (.aload_n 0, 1) := by decide +kernel
theorem e_TM_tellActive_68 : decode m_TM_tellActive.2.1 68 = .ok (.getfield 23, 3) := by decide +kernel
theorem e_TM_tellActive_71 : decode m_TM_tellActive.2.1 71 = .ok (.iload 5, 2) := by decide +kernel
theorem e_TM_tellActive_73 : decode m_TM_tellActive.2.1 73 = .ok (.iload_n 1, 1) := by decide +kernel
theorem e_TM_tellActive_74 : decode m_TM_tellActive.2.1 74 = .ok (.invokevirtual 225, 3) := by decide +kernel
theorem e_TM_tellActive_77 : decode m_TM_tellActive.2.1 77 = .ok (.astore 6, 2) := by decide +kernel
theorem e_TM_tellActive_79 : decode m_TM_tellActive.2.1 79 = .ok (.aload 6, 2) := by decide +kernel
theorem e_TM_tellActive_81 : decode m_TM_tellActive.2.1 81 = .ok (.iload_n 3, 1) := by decide +kernel
theorem e_TM_tellActive_82 : decode m_TM_tellActive.2.1 82 = .ok (.putfield 263, 3) := by decide +kernel
theorem e_TM_tellActive_85 : decode m_TM_tellActive.2.1 85 = .ok (.aload 6, 2) := by decide +kernel
theorem e_TM_tellActive_87 : decode m_TM_tellActive.2.1 87 = .ok (.iload 4, 2) := by decide +kernel
theorem e_TM_tellActive_89 : decode m_TM_tellActive.2.1 89 = .ok (.putfield 142, 3) := by decide +kernel
theorem e_TM_tellActive_92 : decode m_TM_tellActive.2.1 92 = .ok (.aload 6, 2) := by decide +kernel
theorem e_TM_tellActive_94 : decode m_TM_tellActive.2.1 94 = .ok (.aload_n 2, 1) := by decide +kernel
theorem e_TM_tellActive_95 : decode m_TM_tellActive.2.1 95 = .ok (.getfield 286, 3) := by decide +kernel
theorem e_TM_tellActive_98 : decode m_TM_tellActive.2.1 98 = .ok (.putfield 139, 3) := by decide +kernel
theorem e_TM_tellActive_101 : decode m_TM_tellActive.2.1 101 = .ok (.iinc 5 1, 3) := by decide +kernel
theorem e_TM_tellActive_104 : decode m_TM_tellActive.2.1 104 = .ok (.goto (-51), 3) := by decide +kernel
theorem e_TM_tellActive_107 : decode m_TM_tellActive.2.1 107 = .ok (.aload_n 0, 1) := by decide +kernel
theorem e_TM_tellActive_108 : decode m_TM_tellActive.2.1 108 = .ok (.aload_n 0, 1) := by decide +kernel
theorem e_TM_tellActive_109 : decode m_TM_tellActive.2.1 109 = .ok (.getfield 23, 3) := by decide +kernel
theorem e_TM_tellActive_112 : decode m_TM_tellActive.2.1 112 = .ok (.iload_n 1, 1) := by decide +kernel
theorem e_TM_tellActive_113 : decode m_TM_tellActive.2.1 113 = .ok (.invokevirtual 159, 3) := by decide +kernel
theorem e_TM_tellActive_116 : decode m_TM_tellActive.2.1 116 = .ok (.iload_n 3, 1) := by decide +kernel
theorem e_TM_tellActive_117 : decode m_TM_tellActive.2.1 117 = .ok (.iload 4, 2) := by decide +kernel
theorem e_TM_tellActive_119 : decode m_TM_tellActive.2.1 119 = .ok (.aload_n 2, 1) := by decide +kernel
theorem e_TM_tellActive_120 : decode m_TM_tellActive.2.1 120 = .ok (.getfield 286, 3) := by decide +kernel
theorem e_TM_tellActive_123 : decode m_TM_tellActive.2.1 123 = .ok (.invokevirtual 264, 3) := by decide +kernel
theorem e_TM_tellActive_126 : decode m_TM_tellActive.2.1 126 = .ok (.return_, 1) := by decide +kernel
end
section
theorem e_MM_init_0 : decode m_MM_init.2.1 0 = .ok (.aload_n 0, 1) := by decide +kernel
theorem e_MM_init_1 : decode m_MM_init.2.1 1 = .ok (.invokespecial 1, 3) := by decide +kernel
theorem e_MM_init_4 : decode m_MM_init.2.1 4 = .ok (.aload_n 0, 1) := by decide +kernel
theorem e_MM_init_5 : decode m_MM_init.2.1 5 = .ok (.bipush 10, 2) := by decide +kernel
theorem e_MM_init_7 : decode m_MM_init.2.1 7 = .ok (.newarray .int, 2) := by decide +kernel
theorem e_MM_init_9 : decode m_MM_init.2.1 9 = .ok (.putfield 7, 3) := by decide +kernel
theorem e_MM_init_12 : decode m_MM_init.2.1 12 = .ok (.aload_n 0, 1) := by decide +kernel
theorem e_MM_init_13 : decode m_MM_init.2.1 13 = .ok (.bipush 10, 2) := by decide +kernel
theorem e_MM_init_15 : decode m_MM_init.2.1 15 = .ok (.newarray .boolean, 2) := by decide +kernel
theorem e_MM_init_17 : decode m_MM_init.2.1 17 = .ok (.putfield 13, 3) := by decide +kernel
theorem e_MM_init_20 : decode m_MM_init.2.1 20 = .ok (.aload_n 0, 1) := by decide +kernel
theorem e_MM_init_21 : decode m_MM_init.2.1 21 = .ok (.bipush 10, 2) := by decide +kernel
theorem e_MM_init_23 : decode m_MM_init.2.1 23 = .ok (.newarray .boolean, 2) := by decide +kernel
theorem e_MM_init_25 : decode m_MM_init.2.1 25 = .ok (.putfield 17, 3) := by decide +kernel
theorem e_MM_init_28 : decode m_MM_init.2.1 28 = .ok (.aload_n 0, 1) := by decide +kernel
theorem e_MM_init_29 : decode m_MM_init.2.1 29 = .ok (.bipush 10, 2) := by decide +kernel
theorem e_MM_init_31 : decode m_MM_init.2.1 31 = .ok (.newarray .int, 2) := by decide +kernel
theorem e_MM_init_33 : decode m_MM_init.2.1 33 = .ok (.putfield 20, 3) := by decide +kernel
theorem e_MM_init_36 : decode m_MM_init.2.1 36 = .ok (.aload_n 0, 1) := by decide +kernel
theorem e_MM_init_37 : decode m_MM_init.2.1 37 = .ok (.bipush 10, 2) := by decide +kernel
theorem e_MM_init_39 : decode m_MM_init.2.1 39 = .ok (.newarray .int, 2) := by decide +kernel
theorem e_MM_init_41 : decode m_MM_init.2.1 41 = .ok (.putfield 23, 3) := by decide +kernel
theorem e_MM_init_44 : decode m_MM_init.2.1 44 = .ok (.aload_n 0, 1) := by decide +kernel
theorem e_MM_init_45 : decode m_MM_init.2.1 45 = .ok (.bipush 10, 2) := by decide +kernel
theorem e_MM_init_47 : decode m_MM_init.2.1 47 = .ok (.newarray .boolean, 2) := by decide +kernel
theorem e_MM_init_49 : decode m_MM_init.2.1 49 = .ok (.putfield 26, 3) := by decide +kernel
theorem e_MM_init_52 : decode m_MM_init.2.1 52 = .ok (.aload_n 0, 1) := by decide +kernel
theorem e_MM_init_53 : decode m_MM_init.2.1 53 = .ok (.bipush 10, 2) := by decide +kernel
theorem e_MM_init_55 : decode m_MM_init.2.1 55 = .ok (.newarray .int, 2) := by decide +kernel
theorem e_MM_init_57 : decode m_MM_init.2.1 57 = .ok (.putfield 29, 3) := by decide +kernel
theorem e_MM_init_60 : decode m_MM_init.2.1 60 = .ok (.aload_n 0, 1) := by decide +kernel
theorem e_MM_init_61 : decode m_MM_init.2.1 61 = .ok (.iconst 4, 1) := by decide +kernel
theorem e_MM_init_62 : decode m_MM_init.2.1 62 = .ok (.newarray .boolean, 2) := by decide +kernel
theorem e_MM_init_64 : decode m_MM_init.2.1 64 = .ok (.putfield 32, 3) := by decide +kernel
theorem e_MM_init_67 : decode m_MM_init.2.1 67 = .ok (.aload_n 0, 1) := by decide +kernel
theorem e_MM_init_68 : decode m_MM_init.2.1 68 = .ok (.iconst 4, 1) := by decide +kernel
theorem e_MM_init_69 : decode m_MM_init.2.1 69 = .ok (.newarray .boolean, 2) := by decide +kernel
theorem e_MM_init_71 : decode m_MM_init.2.1 71 = .ok (.putfield 35, 3) := by decide +kernel
theorem e_MM_init_74 : decode m_MM_init.2.1 74 = .ok (.aload_n 0, 1) := by decide +kernel
theorem e_MM_init_75 : decode m_MM_init.2.1 75 = .ok (.iconst 4, 1) := by decide +kernel
theorem e_MM_init_76 : decode m_MM_init.2.1 76 = .ok (.newarray .boolean, 2) := by decide +kernel
theorem e_MM_init_78 : decode m_MM_init.2.1 78 = .ok (.putfield 38, 3) := by decide +kernel
theorem e_MM_init_81 : decode m_MM_init.2.1 81 = .ok (.aload_n 0, 1) := by decide +kernel
theorem e_MM_init_82 : decode m_MM_init.2.1 82 = .ok (.iconst 4, 1) := by decide +kernel
theorem e_MM_init_83 : decode m_MM_init.2.1 83 = .ok (.newarray .int, 2) := by decide +kernel
theorem e_MM_init_85 : decode m_MM_init.2.1 85 = .ok (.putfield 41, 3) := by decide +kernel
theorem e_MM_init_88 : decode m_MM_init.2.1 88 = .ok (.aload_n 0, 1) := by decide +kernel
theorem e_MM_init_89 : decode m_MM_init.2.1 89 = .ok (.iconst 4, 1) := by decide +kernel
theorem e_MM_init_90 : decode m_MM_init.2.1 90 = .ok (.newarray .int, 2) := by decide +kernel
theorem e_MM_init_92 : decode m_MM_init.2.1 92 = .ok (.putfield 44, 3) := by decide +kernel
theorem e_MM_init_95 : decode m_MM_init.2.1 95 = .ok (.aload_n 0, 1) := by decide +kernel
theorem e_MM_init_96 : decode m_MM_init.2.1 96 = .ok (.iconst 4, 1) := by decide +kernel
theorem e_MM_init_97 : decode m_MM_init.2.1 97 = .ok (.newarray .int, 2) := by decide +kernel
theorem e_MM_init_99 : decode m_MM_init.2.1 99 = .ok (.putfield 47, 3) := by decide +kernel
theorem e_MM_init_102 : decode m_MM_init.2.1 102 = .ok (.aload_n 0, 1) := by decide +kernel
theorem e_MM_init_103 : decode m_MM_init.2.1 103 = .ok (.iconst 4, 1) := by decide +kernel
theorem e_MM_init_104 : decode m_MM_init.2.1 104 = .ok (.newarray .int, 2) := by decide +kernel
theorem e_MM_init_106 : decode m_MM_init.2.1 106 = .ok (.putfield 50, 3) := by decide +kernel
theorem e_MM_init_109 : decode m_MM_init.2.1 109 = .ok (.aload_n 0, 1) := by decide +kernel
theorem e_MM_init_110 : decode m_MM_init.2.1 110 = .ok (.iconst 4, 1) := by decide +kernel
theorem e_MM_init_111 : decode m_MM_init.2.1 111 = .ok (.newarray .int, 2) := by decide +kernel
theorem e_MM_init_113 : decode m_MM_init.2.1 113 = .ok (.putfield 53, 3) := by decide +kernel
theorem e_MM_init_116 : decode m_MM_init.2.1 116 = .ok (.aload_n 0, 1) := by decide +kernel
theorem e_MM_init_117 : decode m_MM_init.2.1 117 = .ok (.iconst 4, 1) := by decide +kernel
theorem e_MM_init_118 : decode m_MM_init.2.1 118 = .ok (.newarray .int, 2) := by decide +kernel
theorem e_MM_init_120 : decode m_MM_init.2.1 120 = .ok (.putfield 56, 3) := by decide +kernel
theorem e_MM_init_123 : decode m_MM_init.2.1 123 = .ok (.aload_n 0, 1) := by decide +kernel
theorem e_MM_init_124 : decode m_MM_init.2.1 124 = .ok (.iconst 4, 1) := by decide +kernel
theorem e_MM_init_125 : decode m_MM_init.2.1 125 = .ok (.newarray .int, 2) := by decide +kernel
theorem e_MM_init_127 : decode m_MM_init.2.1 127 = .ok (.putfield 59, 3) := by decide +kernel
theorem e_MM_init_130 : decode m_MM_init.2.1 130 = .ok (.aload_n 0, 1) := by decide +kernel
theorem e_MM_init_131 : decode m_MM_init.2.1 131 = .ok (.bipush 40, 2) := by decide +kernel
theorem e_MM_init_133 : decode m_MM_init.2.1 133 = .ok (.newarray .int, 2) := by decide +kernel
theorem e_MM_init_135 : decode m_MM_init.2.1 135 = .ok (.putfield 62, 3) := by decide +kernel
theorem e_MM_init_138 : decode m_MM_init.2.1 138 = .ok (.aload_n 0, 1) := by decide +kernel
theorem e_MM_init_139 : decode m_MM_init.2.1 139 = .ok (.bipush 40, 2) := by decide +kernel
theorem e_MM_init_141 : decode m_MM_init.2.1 141 = .ok (.newarray .int, 2) := by decide +kernel
theorem e_MM_init_143 : decode m_MM_init.2.1 143 = .ok (.putfield 65, 3) := by decide +kernel
theorem e_MM_init_146 : decode m_MM_init.2.1 146 = .ok (.aload_n 0, 1) := by decide +kernel
theorem e_MM_init_147 : decode m_MM_init.2.1 147 = .ok (.bipush 40, 2) := by decide +kernel
theorem e_MM_init_149 : decode m_MM_init.2.1 149 = .ok (.newarray .boolean, 2) := by decide +kernel
theorem e_MM_init_151 : decode m_MM_init.2.1 151 = .ok (.putfield 68, 3) := by decide +kernel
theorem e_MM_init_154 : decode m_MM_init.2.1 154 = .ok (.aload_n 0, 1) := by decide +kernel
theorem e_MM_init_155 : decode m_MM_init.2.1 155 = .ok (.iconst 2, 1) := by decide +kernel
theorem e_MM_init_156 : decode m_MM_init.2.1 156 = .ok (.newarray .int, 2) := by decide +kernel
theorem e_MM_init_158 : decode m_MM_init.2.1 158 = .ok (.putfield 71, 3) := by decide +kernel
theorem e_MM_init_161 : decode m_MM_init.2.1 161 = .ok (.aload_n 0, 1) := by decide +kernel
theorem e_MM_init_162 : decode m_MM_init.2.1 162 = .ok (.iconst 2, 1) := by decide +kernel
theorem e_MM_init_163 : decode m_MM_init.2.1 163 = .ok (.newarray .int, 2) := by decide +kernel
theorem e_MM_init_165 : decode m_MM_init.2.1 165 = .ok (.putfield 74, 3) := by decide +kernel
theorem e_MM_init_168 : decode m_MM_init.2.1 168 = .ok (.aload_n 0, 1) := by decide +kernel
theorem e_MM_init_169 : decode m_MM_init.2.1 169 = .ok (.iconst 4, 1) := by decide +kernel
theorem e_MM_init_170 : decode m_MM_init.2.1 170 = .ok (.newarray .int, 2) := by decide +kernel
theorem e_MM_init_172 : decode m_MM_init.2.1 172 = .ok (.putfield 77, 3) := by decide +kernel
theorem e_MM_init_175 : decode m_MM_init.2.1 175 = .ok (.aload_n 0, 1) := by decide +kernel
theorem e_MM_init_176 : decode m_MM_init.2.1 176 = .ok (.bipush 120, 2) := by decide +kernel
theorem e_MM_init_178 : decode m_MM_init.2.1 178 = .ok (.newarray .int, 2) := by decide +kernel
theorem e_MM_init_180 : decode m_MM_init.2.1 180 = .ok (.putfield 80, 3) := by decide +kernel
theorem e_MM_init_183 : decode m_MM_init.2.1 183 = .ok (.aload_n 0, 1) := by decide +kernel
theorem e_MM_init_184 : decode m_MM_init.2.1 184 = .ok (.bipush 120, 2) := by decide +kernel
theorem e_MM_init_186 : decode m_MM_init.2.1 186 = .ok (.newarray .int, 2) := by decide +kernel
theorem e_MM_init_188 : decode m_MM_init.2.1 188 = .ok (.putfield 83, 3) := by decide +kernel
theorem e_MM_init_191 : decode m_MM_init.2.1 191 = .ok (.aload_n 0, 1) := by decide +kernel
theorem e_MM_init_192 : decode m_MM_init.2.1 192 = .ok (.bipush 120, 2) := by decide +kernel
theorem e_MM_init_194 : decode m_MM_init.2.1 194 = .ok (.newarray .int, 2) := by decide +kernel
theorem e_MM_init_196 : decode m_MM_init.2.1 196 = .ok (.putfield 86, 3) := by decide +kernel
theorem e_MM_init_199 : decode m_MM_init.2.1 199 = .ok (.aload_n 0, 1) := by decide +kernel
theorem e_MM_init_200 : decode m_MM_init.2.1 200 = .ok (.bipush 120, 2) := by decide +kernel
theorem e_MM_init_202 : decode m_MM_init.2.1 202 = .ok (.newarray .int, 2) := by decide +kernel
theorem e_MM_init_204 : decode m_MM_init.2.1 204 = .ok (.putfield 89, 3) := by decide +kernel
theorem e_MM_init_207 : decode m_MM_init.2.1 207 = .ok (.aload_n 0, 1) := by decide +kernel
theorem e_MM_init_208 : decode m_MM_init.2.1 208 = .ok (.bipush 120, 2) := by decide +kernel
theorem e_MM_init_210 : decode m_MM_init.2.1 210 = .ok (.newarray .int, 2) := by decide +kernel
theorem e_MM_init_212 : decode m_MM_init.2.1 212 = .ok (.putfield 92, 3) := by decide +kernel
theorem e_MM_init_215 : decode m_MM_init.2.1 215 = .ok (.aload_n 0, 1) := by decide +kernel
theorem e_MM_init_216 : decode m_MM_init.2.1 216 = .ok (.bipush 120, 2) := by decide +kernel
theorem e_MM_init_218 : decode m_MM_init.2.1 218 = .ok (.newarray .boolean, 2) := by decide +kernel
theorem e_MM_init_220 : decode m_MM_init.2.1 220 = .ok (.putfield 95, 3) := by decide +kernel
theorem e_MM_init_223 : decode m_MM_init.2.1 223 = .ok (.aload_n 0, 1) := by decide +kernel
theorem e_MM_init_224 : decode m_MM_init.2.1 224 = .ok (.bipush 120, 2) := by decide +kernel
theorem e_MM_init_226 : decode m_MM_init.2.1 226 = .ok (.newarray .boolean, 2) := by decide +kernel
theorem e_MM_init_228 : decode m_MM_init.2.1 228 = .ok (.putfield 98, 3) := by decide +kernel
theorem e_MM_init_231 : decode m_MM_init.2.1 231 = .ok (.aload_n 0, 1) := by decide +kernel
theorem e_MM_init_232 : decode m_MM_init.2.1 232 = .ok (.bipush 120, 2) := by decide +kernel
theorem e_MM_init_234 : decode m_MM_init.2.1 234 = .ok (.newarray .int, 2) := by decide +kernel
theorem e_MM_init_236 : decode m_MM_init.2.1 236 = .ok (.putfield 101, 3) := by decide +kernel
theorem e_MM_init_239 : decode m_MM_init.2.1 239 = .ok (.aload_n 0, 1) := by decide +kernel
theorem e_MM_init_240 : decode m_MM_init.2.1 240 = .ok (.bipush 120, 2) := by decide +kernel
theorem e_MM_init_242 : decode m_MM_init.2.1 242 = .ok (.newarray .int, 2) := by decide +kernel
theorem e_MM_init_244 : decode m_MM_init.2.1 244 = .ok (.putfield 104, 3) := by decide +kernel
theorem e_MM_init_247 : decode m_MM_init.2.1 247 = .ok (.aload_n 0, 1) := by decide +kernel
theorem e_MM_init_248 : decode m_MM_init.2.1 248 = .ok (.bipush 120, 2) := by decide +kernel
theorem e_MM_init_250 : decode m_MM_init.2.1 250 = .ok (.newarray .int, 2) := by decide +kernel
theorem e_MM_init_252 : decode m_MM_init.2.1 252 = .ok (.putfield 107, 3) := by decide +kernel
theorem e_MM_init_255 : decode m_MM_init.2.1 255 = .ok (.aload_n 0, 1) := by decide +kernel
theorem e_MM_init_256 : decode m_MM_init.2.1 256 = .ok (.bipush 120, 2) := by decide +kernel
theorem e_MM_init_258 : decode m_MM_init.2.1 258 = .ok (.newarray .boolean, 2) := by decide +kernel
theorem e_MM_init_260 : decode m_MM_init.2.1 260 = .ok (.putfield 110, 3) := by decide +kernel
theorem e_MM_init_263 : decode m_MM_init.2.1 263 = .ok (.aload_n 0, 1) := by decide +kernel
theorem e_MM_init_264 : decode m_MM_init.2.1 264 = .ok (.iload_n 1, 1) := by decide +kernel
theorem e_MM_init_265 : decode m_MM_init.2.1 265 = .ok (.iconst 2, 1) := by decide +kernel
theorem e_MM_init_266 : decode m_MM_init.2.1 266 = .ok (.if_icmp .ge 7, 3) := by decide +kernel
theorem e_MM_init_269 : decode m_MM_init.2.1 269 = .ok (.iconst 2, 1) := by decide +kernel
theorem e_MM_init_270 : decode m_MM_init.2.1 270 = .ok (.goto 13, 3) := by decide +kernel
theorem e_MM_init_273 : decode m_MM_init.2.1 273 = .ok (.iload_n 1, 1) := by decide +kernel
theorem e_MM_init_274 : decode m_MM_init.2.1 274 = .ok (.iconst 4, 1) := by decide +kernel
theorem e_MM_init_275 : decode m_MM_init.2.1 275 = .ok (.if_icmp .le 7, 3) := by decide +kernel
theorem e_MM_init_278 : decode m_MM_init.2.1 278 = .ok (.iconst 4, 1) := by decide +kernel
theorem e_MM_init_279 : decode m_MM_init.2.1 279 = .ok (.goto 4, 3) := by decide +kernel
theorem e_MM_init_282 : decode m_MM_init.2.1 282 = .ok (.iload_n 1, 1) := by decide +kernel
theorem e_MM_init_283 : decode m_MM_init.2.1 283 = .ok (.putfield 113, 3) := by decide +kernel
theorem e_MM_init_286 : decode m_MM_init.2.1 286 = .ok (.aload_n 0, 1) := by decide +kernel
theorem e_MM_init_287 : decode m_MM_init.2.1 287 = .ok (.iload_n 2, 1) := by decide +kernel
theorem e_MM_init_288 : decode m_MM_init.2.1 288 = .ok (.ifCond .ge 7, 3) := by decide +kernel
theorem e_MM_init_291 : decode m_MM_init.2.1 291 = .ok (.iconst 0, 1) := by decide +kernel
theorem e_MM_init_292 : decode m_MM_init.2.1 292 = .ok (.goto 13, 3) := by decide +kernel
theorem e_MM_init_295 : decode m_MM_init.2.1 295 = .ok (.iload_n 2, 1) := by decide +kernel
theorem e_MM_init_296 : decode m_MM_init.2.1 296 = .ok (.iconst 4, 1) := by decide +kernel
theorem e_MM_init_297 : decode m_MM_init.2.1 297 = .ok (.if_icmp .le 7, 3) := by decide +kernel
theorem e_MM_init_300 : decode m_MM_init.2.1 300 = .ok (.iconst 4, 1) := by decide +kernel
theorem e_MM_init_301 : decode m_MM_init.2.1 301 = .ok (.goto 4, 3) := by decide +kernel
theorem e_MM_init_304 : decode m_MM_init.2.1 304 = .ok (.iload_n 2, 1) := by decide +kernel
theorem e_MM_init_305 : decode m_MM_init.2.1 305 = .ok (.putfield 117, 3) := by decide +kernel
theorem e_MM_init_308 : decode m_MM_init.2.1 308 = .ok (.aload_n 0, 1) := by decide +kernel
theorem e_MM_init_309 : decode m_MM_init.2.1 309 = .ok (.iload_n 3, 1) := by decide +kernel
theorem e_MM_init_310 : decode m_MM_init.2.1 310 = .ok (.iconst 1, 1) := by decide +kernel
theorem e_MM_init_311 : decode m_MM_init.2.1 311 = .ok (.if_icmp .ge 7, 3) := by decide +kernel
theorem e_MM_init_314 : decode m_MM_init.2.1 314 = .ok (.iconst 1, 1) := by decide +kernel
theorem e_MM_init_315 : decode m_MM_init.2.1 315 = .ok (.goto 15, 3) := by decide +kernel
theorem e_MM_init_318 : decode m_MM_init.2.1 318 = .ok (.iload_n 3, 1) := by decide +kernel
theorem e_MM_init_319 : decode m_MM_init.2.1 319 = .ok (.bipush 20, 2) := by decide +kernel
theorem e_MM_init_321 : decode m_MM_init.2.1 321 = .ok (.if_icmp .le 8, 3) := by decide +kernel
theorem e_MM_init_324 : decode m_MM_init.2.1 324 = .ok (.bipush 20, 2) := by decide +kernel
theorem e_MM_init_326 : decode m_MM_init.2.1 326 = .ok (.goto 4, 3) := by decide +kernel
theorem e_MM_init_329 : decode m_MM_init.2.1 329 = .ok (.iload_n 3, 1) := by decide +kernel
theorem e_MM_init_330 : decode m_MM_init.2.1 330 = .ok (.putfield 120, 3) := by decide +kernel
theorem e_MM_init_333 : decode m_MM_init.2.1 333 = .ok (.iconst 0, 1) := by decide +kernel
theorem e_MM_init_334 : decode m_MM_init.2.1 334 = .ok (.istore 4, 2) := by decide +kernel
theorem e_MM_init_336 : decode m_MM_init.2.1 336 = .ok (.iload 4, 2) := by decide +kernel
theorem e_MM_init_338 : decode m_MM_init.2.1 338 = .ok (.bipush 10, 2) := by decide +kernel
theorem e_MM_init_340 : decode m_MM_init.2.1 340 = .ok (.if_icmp .ge 17, 3) := by decide +kernel
theorem e_MM_init_343 : decode m_MM_init.2.1 343 = .ok (.aload_n 0, 1) := by decide +kernel
theorem e_MM_init_344 : decode m_MM_init.2.1 344 = .ok (.getfield 23, 3) := by decide +kernel
theorem e_MM_init_347 : decode m_MM_init.2.1 347 = .ok (.iload 4, 2) := by decide +kernel
theorem e_MM_init_349 : decode m_MM_init.2.1 349 = .ok (.iconst (-1), 1) := by decide +kernel
theorem e_MM_init_350 : decode m_MM_init.2.1 350 = .ok (.iastore, 1) := by decide +kernel
theorem e_MM_init_351 : decode m_MM_init.2.1 351 = .ok (.iinc 4 1, 3) := by decide +kernel
theorem e_MM_init_354 : decode m_MM_init.2.1 354 = .ok (.goto (-18), 3) := by decide +kernel
theorem e_MM_init_357 : decode m_MM_init.2.1 357 = .ok (.iconst 0, 1) := by decide +kernel
theorem e_MM_init_358 : decode m_MM_init.2.1 358 = .ok (.istore 4, 2) := by decide +kernel
theorem e_MM_init_360 : decode m_MM_init.2.1 360 = .ok (.iload 4, 2) := by decide +kernel
theorem e_MM_init_362 : decode m_MM_init.2.1 362 = .ok (.iconst 2, 1) := by decide +kernel
theorem e_MM_init_363 : decode m_MM_init.2.1 363 = .ok (.if_icmp .ge 49, 3) := by decide +kernel
theorem e_MM_init_366 : decode m_MM_init.2.1 366 = .ok (.iconst 2, 1) := by decide +kernel
theorem e_MM_init_367 : decode m_MM_init.2.1 367 = .ok (.aload_n 0, 1) := by decide +kernel
theorem e_MM_init_368 : decode m_MM_init.2.1 368 = .ok (.getfield 113, 3) := by decide +kernel
theorem e_MM_init_371 : decode m_MM_init.2.1 371 = .ok (.imul, 1) := by decide +kernel
theorem e_MM_init_372 : decode m_MM_init.2.1 372 = .ok (.iload 4, 2) := by decide +kernel
theorem e_MM_init_374 : decode m_MM_init.2.1 374 = .ok (.iadd, 1) := by decide +kernel
theorem e_MM_init_375 : decode m_MM_init.2.1 375 = .ok (.istore 5, 2) := by decide +kernel
theorem e_MM_init_377 : decode m_MM_init.2.1 377 = .ok (.aload_n 0, 1) := by decide +kernel
theorem e_MM_init_378 : decode m_MM_init.2.1 378 = .ok (.getfield 7, 3) := by decide +kernel
theorem e_MM_init_381 : decode m_MM_init.2.1 381 = .ok (.iload 5, 2) := by decide +kernel
theorem e_MM_init_383 : decode m_MM_init.2.1 383 = .ok (.aload_n 0, 1) := by decide +kernel
theorem e_MM_init_384 : decode m_MM_init.2.1 384 = .ok (.getfield 113, 3) := by decide +kernel
theorem e_MM_init_387 : decode m_MM_init.2.1 387 = .ok (.iconst 1, 1) := by decide +kernel
theorem e_MM_init_388 : decode m_MM_init.2.1 388 = .ok (.iadd, 1) := by decide +kernel
theorem e_MM_init_389 : decode m_MM_init.2.1 389 = .ok (.iastore, 1) := by decide +kernel
theorem e_MM_init_390 : decode m_MM_init.2.1 390 = .ok (.aload_n 0, 1) := by decide +kernel
theorem e_MM_init_391 : decode m_MM_init.2.1 391 = .ok (.getfield 13, 3) := by decide +kernel
theorem e_MM_init_394 : decode m_MM_init.2.1 394 = .ok (.iload 5, 2) := by decide +kernel
theorem e_MM_init_396 : decode m_MM_init.2.1 396 = .ok (.iconst 1, 1) := by decide +kernel
theorem e_MM_init_397 : decode m_MM_init.2.1 397 = .ok (.bastore, 1) := by decide +kernel
theorem e_MM_init_398 : decode m_MM_init.2.1 398 = .ok (.aload_n 0, 1) := by decide +kernel
theorem e_MM_init_399 : decode m_MM_init.2.1 399 = .ok (.getfield 17, 3) := by decide +kernel
theorem e_MM_init_402 : decode m_MM_init.2.1 402 = .ok (.iload 5, 2) := by decide +kernel
theorem e_MM_init_404 : decode m_MM_init.2.1 404 = .ok (.iconst 1, 1) := by decide +kernel
theorem e_MM_init_405 : decode m_MM_init.2.1 405 = .ok (.bastore, 1) := by decide +kernel
theorem e_MM_init_406 : decode m_MM_init.2.1 406 = .ok (.iinc 4 1, 3) := by decide +kernel
theorem e_MM_init_409 : decode m_MM_init.2.1 409 = .ok (.goto (-49), 3) := by decide +kernel
theorem e_MM_init_412 : decode m_MM_init.2.1 412 = .ok (.return_, 1) := by decide +kernel
theorem e_MM_isCore_0 : decode m_MM_isCore.2.1 0 = .ok (.iload_n 1, 1) := by decide +kernel
theorem e_MM_isCore_1 : decode m_MM_isCore.2.1 1 = .ok (.ifCond .lt 15, 3) := by decide +kernel
theorem e_MM_isCore_4 : decode m_MM_isCore.2.1 4 = .ok (.iload_n 1, 1) := by decide +kernel
theorem e_MM_isCore_5 : decode m_MM_isCore.2.1 5 = .ok (.aload_n 0, 1) := by decide +kernel
theorem e_MM_isCore_6 : decode m_MM_isCore.2.1 6 = .ok (.getfield 113, 3) := by decide +kernel
theorem e_MM_isCore_9 : decode m_MM_isCore.2.1 9 = .ok (.if_icmp .ge 7, 3) := by decide +kernel
theorem e_MM_isCore_12 : decode m_MM_isCore.2.1 12 = .ok (.iconst 1, 1) := by decide +kernel
theorem e_MM_isCore_13 : decode m_MM_isCore.2.1 13 = .ok (.goto 4, 3) := by decide +kernel
theorem e_MM_isCore_16 : decode m_MM_isCore.2.1 16 = .ok (.iconst 0, 1) := by decide +kernel
theorem e_MM_isCore_17 : decode m_MM_isCore.2.1 17 = .ok (.ireturn, 1) := by decide +kernel
theorem e_MM_isNode_0 : decode m_MM_isNode.2.1 0 = .ok (.iload_n 1, 1) := by decide +kernel
theorem e_MM_isNode_1 : decode m_MM_isNode.2.1 1 = .ok (.ifCond .lt 15, 3) := by decide +kernel
theorem e_MM_isNode_4 : decode m_MM_isNode.2.1 4 = .ok (.iload_n 1, 1) := by decide +kernel
theorem e_MM_isNode_5 : decode m_MM_isNode.2.1 5 = .ok (.aload_n 0, 1) := by decide +kernel
theorem e_MM_isNode_6 : decode m_MM_isNode.2.1 6 = .ok (.getfield 113, 3) := by decide +kernel
theorem e_MM_isNode_9 : decode m_MM_isNode.2.1 9 = .ok (.if_icmp .gt 7, 3) := by decide +kernel
theorem e_MM_isNode_12 : decode m_MM_isNode.2.1 12 = .ok (.iconst 1, 1) := by decide +kernel
theorem e_MM_isNode_13 : decode m_MM_isNode.2.1 13 = .ok (.goto 4, 3) := by decide +kernel
theorem e_MM_isNode_16 : decode m_MM_isNode.2.1 16 = .ok (.iconst 0, 1) := by decide +kernel
theorem e_MM_isNode_17 : decode m_MM_isNode.2.1 17 = .ok (.ireturn, 1) := by decide +kernel
theorem e_MM_isBlock_0 : decode m_MM_isBlock.2.1 0 = .ok (.iload_n 0, 1) := by decide +kernel
theorem e_MM_isBlock_1 : decode m_MM_isBlock.2.1 1 = .ok (.ifCond .eq 8, 3) := by decide +kernel
theorem e_MM_isBlock_4 : decode m_MM_isBlock.2.1 4 = .ok (.iload_n 0, 1) := by decide +kernel
theorem e_MM_isBlock_5 : decode m_MM_isBlock.2.1 5 = .ok (.iconst 1, 1) := by decide +kernel
theorem e_MM_isBlock_6 : decode m_MM_isBlock.2.1 6 = .ok (.if_icmp .ne 7, 3) := by decide +kernel
theorem e_MM_isBlock_9 : decode m_MM_isBlock.2.1 9 = .ok (.iconst 1, 1) := by decide +kernel
theorem e_MM_isBlock_10 : decode m_MM_isBlock.2.1 10 = .ok (.goto 4, 3) := by decide +kernel
theorem e_MM_isBlock_13 : decode m_MM_isBlock.2.1 13 = .ok (.iconst 0, 1) := by decide +kernel
theorem e_MM_isBlock_14 : decode m_MM_isBlock.2.1 14 = .ok (.ireturn, 1) := by decide +kernel
theorem e_MM_move_0 : decode m_MM_move.2.1 0 = .ok (.aload_n 0, 1) := by decide +kernel
theorem e_MM_move_1 : decode m_MM_move.2.1 1 = .ok (.getfield 80, 3) := by decide +kernel
theorem e_MM_move_4 : decode m_MM_move.2.1 4 = .ok (.iload_n 2, 1) := by decide +kernel
theorem e_MM_move_5 : decode m_MM_move.2.1 5 = .ok (.aload_n 0, 1) := by decide +kernel
theorem e_MM_move_6 : decode m_MM_move.2.1 6 = .ok (.getfield 80, 3) := by decide +kernel
theorem e_MM_move_9 : decode m_MM_move.2.1 9 = .ok (.iload_n 1, 1) := by decide +kernel
theorem e_MM_move_10 : decode m_MM_move.2.1 10 = .ok (.iaload, 1) := by decide +kernel
theorem e_MM_move_11 : decode m_MM_move.2.1 11 = .ok (.iastore, 1) := by decide +kernel
theorem e_MM_move_12 : decode m_MM_move.2.1 12 = .ok (.aload_n 0, 1) := by decide +kernel
theorem e_MM_move_13 : decode m_MM_move.2.1 13 = .ok (.getfield 83, 3) := by decide +kernel
theorem e_MM_move_16 : decode m_MM_move.2.1 16 = .ok (.iload_n 2, 1) := by decide +kernel
theorem e_MM_move_17 : decode m_MM_move.2.1 17 = .ok (.aload_n 0, 1) := by decide +kernel
theorem e_MM_move_18 : decode m_MM_move.2.1 18 = .ok (.getfield 83, 3) := by decide +kernel
theorem e_MM_move_21 : decode m_MM_move.2.1 21 = .ok (.iload_n 1, 1) := by decide +kernel
theorem e_MM_move_22 : decode m_MM_move.2.1 22 = .ok (.iaload, 1) := by decide +kernel
theorem e_MM_move_23 : decode m_MM_move.2.1 23 = .ok (.iastore, 1) := by decide +kernel
theorem e_MM_move_24 : decode m_MM_move.2.1 24 = .ok (.aload_n 0, 1) := by decide +kernel
theorem e_MM_move_25 : decode m_MM_move.2.1 25 = .ok (.getfield 86, 3) := by decide +kernel
theorem e_MM_move_28 : decode m_MM_move.2.1 28 = .ok (.iload_n 2, 1) := by decide +kernel
theorem e_MM_move_29 : decode m_MM_move.2.1 29 = .ok (.aload_n 0, 1) := by decide +kernel
theorem e_MM_move_30 : decode m_MM_move.2.1 30 = .ok (.getfield 86, 3) := by decide +kernel
theorem e_MM_move_33 : decode m_MM_move.2.1 33 = .ok (.iload_n 1, 1) := by decide +kernel
theorem e_MM_move_34 : decode m_MM_move.2.1 34 = .ok (.iaload, 1) := by decide +kernel
theorem e_MM_move_35 : decode m_MM_move.2.1 35 = .ok (.iastore, 1) := by decide +kernel
theorem e_MM_move_36 : decode m_MM_move.2.1 36 = .ok (.aload_n 0, 1) := by decide +kernel
theorem e_MM_move_37 : decode m_MM_move.2.1 37 = .ok (.getfield 89, 3) := by decide +kernel
theorem e_MM_move_40 : decode m_MM_move.2.1 40 = .ok (.iload_n 2, 1) := by decide +kernel
theorem e_MM_move_41 : decode m_MM_move.2.1 41 = .ok (.aload_n 0, 1) := by decide +kernel
theorem e_MM_move_42 : decode m_MM_move.2.1 42 = .ok (.getfield 89, 3) := by decide +kernel
theorem e_MM_move_45 : decode m_MM_move.2.1 45 = .ok (.iload_n 1, 1) := by decide +kernel
theorem e_MM_move_46 : decode m_MM_move.2.1 46 = .ok (.iaload, 1) := by decide +kernel
theorem e_MM_move_47 : decode m_MM_move.2.1 47 = .ok (.iastore, 1) := by decide +kernel
theorem e_MM_move_48 : decode m_MM_move.2.1 48 = .ok (.aload_n 0, 1) := by decide +kernel
theorem e_MM_move_49 : decode m_MM_move.2.1 49 = .ok (.getfield 92, 3) := by decide +kernel
theorem e_MM_move_52 : decode m_MM_move.2.1 52 = .ok (.iload_n 2, 1) := by decide +kernel
theorem e_MM_move_53 : decode m_MM_move.2.1 53 = .ok (.aload_n 0, 1) := by decide +kernel
theorem e_MM_move_54 : decode m_MM_move.2.1 54 = .ok (.getfield 92, 3) := by decide +kernel
theorem e_MM_move_57 : decode m_MM_move.2.1 57 = .ok (.iload_n 1, 1) := by decide +kernel
theorem e_MM_move_58 : decode m_MM_move.2.1 58 = .ok (.iaload, 1) := by decide +kernel
theorem e_MM_move_59 : decode m_MM_move.2.1 59 = .ok (.iastore, 1) := by decide +kernel
theorem e_MM_move_60 : decode m_MM_move.2.1 60 = .ok (.aload_n 0, 1) := by decide +kernel
theorem e_MM_move_61 : decode m_MM_move.2.1 61 = .ok (.getfield 95, 3) := by decide +kernel
theorem e_MM_move_64 : decode m_MM_move.2.1 64 = .ok (.iload_n 2, 1) := by decide +kernel
theorem e_MM_move_65 : decode m_MM_move.2.1 65 = .ok (.aload_n 0, 1) := by decide +kernel
theorem e_MM_move_66 : decode m_MM_move.2.1 66 = .ok (.getfield 95, 3) := by decide +kernel
theorem e_MM_move_69 : decode m_MM_move.2.1 69 = .ok (.iload_n 1, 1) := by decide +kernel
theorem e_MM_move_70 : decode m_MM_move.2.1 70 = .ok (.baload, 1) := by decide +kernel
theorem e_MM_move_71 : decode m_MM_move.2.1 71 = .ok (.bastore, 1) := by decide +kernel
theorem e_MM_move_72 : decode m_MM_move.2.1 72 = .ok (.aload_n 0, 1) := by decide +kernel
theorem e_MM_move_73 : decode m_MM_move.2.1 73 = .ok (.getfield 98, 3) := by decide +kernel
theorem e_MM_move_76 : decode m_MM_move.2.1 76 = .ok (.iload_n 2, 1) := by decide +kernel
theorem e_MM_move_77 : decode m_MM_move.2.1 77 = .ok (.aload_n 0, 1) := by decide +kernel
theorem e_MM_move_78 : decode m_MM_move.2.1 78 = .ok (.getfield 98, 3) := by decide +kernel
theorem e_MM_move_81 : decode m_MM_move.2.1 81 = .ok (.iload_n 1, 1) := by decide +kernel
theorem e_MM_move_82 : decode m_MM_move.2.1 82 = .ok (.baload, 1) := by decide +kernel
theorem e_MM_move_83 : decode m_MM_move.2.1 83 = .ok (.bastore, 1) := by decide +kernel
theorem e_MM_move_84 : decode m_MM_move.2.1 84 = .ok (.aload_n 0, 1) := by decide +kernel
theorem e_MM_move_85 : decode m_MM_move.2.1 85 = .ok (.getfield 101, 3) := by decide +kernel
theorem e_MM_move_88 : decode m_MM_move.2.1 88 = .ok (.iload_n 2, 1) := by decide +kernel
theorem e_MM_move_89 : decode m_MM_move.2.1 89 = .ok (.aload_n 0, 1) := by decide +kernel
theorem e_MM_move_90 : decode m_MM_move.2.1 90 = .ok (.getfield 101, 3) := by decide +kernel
theorem e_MM_move_93 : decode m_MM_move.2.1 93 = .ok (.iload_n 1, 1) := by decide +kernel
theorem e_MM_move_94 : decode m_MM_move.2.1 94 = .ok (.iaload, 1) := by decide +kernel
theorem e_MM_move_95 : decode m_MM_move.2.1 95 = .ok (.iastore, 1) := by decide +kernel
theorem e_MM_move_96 : decode m_MM_move.2.1 96 = .ok (.aload_n 0, 1) := by decide +kernel
theorem e_MM_move_97 : decode m_MM_move.2.1 97 = .ok (.getfield 104, 3) := by decide +kernel
theorem e_MM_move_100 : decode m_MM_move.2.1 100 = .ok (.iload_n 2, 1) := by decide +kernel
theorem e_MM_move_101 : decode m_MM_move.2.1 101 = .ok (.aload_n 0, 1) := by decide +kernel
theorem e_MM_move_102 : decode m_MM_move.2.1 102 = .ok (.getfield 104, 3) := by decide +kernel
theorem e_MM_move_105 : decode m_MM_move.2.1 105 = .ok (.iload_n 1, 1) := by decide +kernel
theorem e_MM_move_106 : decode m_MM_move.2.1 106 = .ok (.iaload, 1) := by decide +kernel
theorem e_MM_move_107 : decode m_MM_move.2.1 107 = .ok (.iastore, 1) := by decide +kernel
theorem e_MM_move_108 : decode m_MM_move.2.1 108 = .ok (.aload_n 0, 1) := by decide +kernel
theorem e_MM_move_109 : decode m_MM_move.2.1 109 = .ok (.getfield 107, 3) := by decide +kernel
theorem e_MM_move_112 : decode m_MM_move.2.1 112 = .ok (.iload_n 2, 1) := by decide +kernel
theorem e_MM_move_113 : decode m_MM_move.2.1 113 = .ok (.aload_n 0, 1) := by decide +kernel
theorem e_MM_move_114 : decode m_MM_move.2.1 114 = .ok (.getfield 107, 3) := by decide +kernel
theorem e_MM_move_117 : decode m_MM_move.2.1 117 = .ok (.iload_n 1, 1) := by decide +kernel
theorem e_MM_move_118 : decode m_MM_move.2.1 118 = .ok (.iaload, 1) := by decide +kernel
theorem e_MM_move_119 : decode m_MM_move.2.1 119 = .ok (.iastore, 1) := by decide +kernel
theorem e_MM_move_120 : decode m_MM_move.2.1 120 = .ok (.aload_n 0, 1) := by decide +kernel
theorem e_MM_move_121 : decode m_MM_move.2.1 121 = .ok (.getfield 110, 3) := by decide +kernel
theorem e_MM_move_124 : decode m_MM_move.2.1 124 = .ok (.iload_n 2, 1) := by decide +kernel
theorem e_MM_move_125 : decode m_MM_move.2.1 125 = .ok (.aload_n 0, 1) := by decide +kernel
theorem e_MM_move_126 : decode m_MM_move.2.1 126 = .ok (.getfield 110, 3) := by decide +kernel
theorem e_MM_move_129 : decode m_MM_move.2.1 129 = .ok (.iload_n 1, 1) := by decide +kernel
theorem e_MM_move_130 : decode m_MM_move.2.1 130 = .ok (.baload, 1) := by decide +kernel
theorem e_MM_move_131 : decode m_MM_move.2.1 131 = .ok (.bastore, 1) := by decide +kernel
theorem e_MM_move_132 : decode m_MM_move.2.1 132 = .ok (.return_, 1) := by decide +kernel
theorem e_MM_remove_0 : decode m_MM_remove.2.1 0 = .ok (.aload_n 0, 1) := by decide +kernel
theorem e_MM_remove_1 : decode m_MM_remove.2.1 1 = .ok (.dup, 1) := by decide +kernel
theorem e_MM_remove_2 : decode m_MM_remove.2.1 2 = .ok (.getfield 126, 3) := by decide +kernel
theorem e_MM_remove_5 : decode m_MM_remove.2.1 5 = .ok (.iconst 1, 1) := by decide +kernel
theorem e_MM_remove_6 : decode m_MM_remove.2.1 6 = .ok (.isub, 1) := by decide +kernel
theorem e_MM_remove_7 : decode m_MM_remove.2.1 7 = .ok (.putfield 126, 3) := by decide +kernel
theorem e_MM_remove_10 : decode m_MM_remove.2.1 10 = .ok (.iload_n 1, 1) := by decide +kernel
theorem e_MM_remove_11 : decode m_MM_remove.2.1 11 = .ok (.istore_n 2, 1) := by decide +kernel
theorem e_MM_remove_12 : decode m_MM_remove.2.1 12 = .ok (.iload_n 2, 1) := by decide +kernel
theorem e_MM_remove_13 : decode m_MM_remove.2.1 13 = .ok (.aload_n 0, 1) := by decide +kernel
theorem e_MM_remove_14 : decode m_MM_remove.2.1 14 = .ok (.getfield 126, 3) := by decide +kernel
theorem e_MM_remove_17 : decode m_MM_remove.2.1 17 = .ok (.if_icmp .ge 17, 3) := by decide +kernel
theorem e_MM_remove_20 : decode m_MM_remove.2.1 20 = .ok (.aload_n 0, 1) := by decide +kernel
theorem e_MM_remove_21 : decode m_MM_remove.2.1 21 = .ok (.iload_n 2, 1) := by decide +kernel
theorem e_MM_remove_22 : decode m_MM_remove.2.1 22 = .ok (.iconst 1, 1) := by decide +kernel
theorem e_MM_remove_23 : decode m_MM_remove.2.1 23 = .ok (.iadd, 1) := by decide +kernel
theorem e_MM_remove_24 : decode m_MM_remove.2.1 24 = .ok (.iload_n 2, 1) := by decide +kernel
theorem e_MM_remove_25 : decode m_MM_remove.2.1 25 = .ok (.invokevirtual 129, 3) := by decide +kernel
theorem e_MM_remove_28 : decode m_MM_remove.2.1 28 = .ok (.iinc 2 1, 3) := by decide +kernel
theorem e_MM_remove_31 : decode m_MM_remove.2.1 31 = .ok (.goto (-19), 3) := by decide +kernel
theorem e_MM_remove_34 : decode m_MM_remove.2.1 34 = .ok (.return_, 1) := by decide +kernel
theorem e_MM_send_0 : decode m_MM_send.2.1 0 = .ok (.aload_n 0, 1) := by decide +kernel
theorem e_MM_send_1 : decode m_MM_send.2.1 1 = .ok (.getfield 126, 3) := by decide +kernel
theorem e_MM_send_4 : decode m_MM_send.2.1 4 = .ok (.iconst 1, 1) := by decide +kernel
theorem e_MM_send_5 : decode m_MM_send.2.1 5 = .ok (.isub, 1) := by decide +kernel
theorem e_MM_send_6 : decode m_MM_send.2.1 6 = .ok (.istore 5, 2) := by decide +kernel
theorem e_MM_send_8 : decode m_MM_send.2.1 8 = .ok (.iload 5, 2) := by decide +kernel
theorem e_MM_send_10 : decode m_MM_send.2.1 10 = .ok (.ifCond .lt 82, 3) := by decide +kernel
theorem e_MM_send_13 : decode m_MM_send.2.1 13 = .ok (.iload_n 1, 1) := by decide +kernel
theorem e_MM_send_14 : decode m_MM_send.2.1 14 = .ok (.iconst 3, 1) := by decide +kernel
theorem e_MM_send_15 : decode m_MM_send.2.1 15 = .ok (.if_icmp .eq 77, 3) := by decide +kernel
theorem e_MM_send_18 : decode m_MM_send.2.1 18 = .ok (.aload_n 0, 1) := by decide +kernel
theorem e_MM_send_19 : decode m_MM_send.2.1 19 = .ok (.getfield 80, 3) := by decide +kernel
theorem e_MM_send_22 : decode m_MM_send.2.1 22 = .ok (.iload 5, 2) := by decide +kernel
theorem e_MM_send_24 : decode m_MM_send.2.1 24 = .ok (.iaload, 1) := by decide +kernel
theorem e_MM_send_25 : decode m_MM_send.2.1 25 = .ok (.iload_n 1, 1) := by decide +kernel
theorem e_MM_send_26 : decode m_MM_send.2.1 26 = .ok (.if_icmp .ne 46, 3) := by decide +kernel
theorem e_MM_send_29 : decode m_MM_send.2.1 29 = .ok (.aload_n 0, 1) := by decide +kernel
theorem e_MM_send_30 : decode m_MM_send.2.1 30 = .ok (.getfield 86, 3) := by decide +kernel
theorem e_MM_send_33 : decode m_MM_send.2.1 33 = .ok (.iload 5, 2) := by decide +kernel
theorem e_MM_send_35 : decode m_MM_send.2.1 35 = .ok (.iaload, 1) := by decide +kernel
theorem e_MM_send_36 : decode m_MM_send.2.1 36 = .ok (.iload_n 2, 1) := by decide +kernel
theorem e_MM_send_37 : decode m_MM_send.2.1 37 = .ok (.if_icmp .ne 35, 3) := by decide +kernel
theorem e_MM_send_40 : decode m_MM_send.2.1 40 = .ok (.aload_n 0, 1) := by decide +kernel
theorem e_MM_send_41 : decode m_MM_send.2.1 41 = .ok (.getfield 83, 3) := by decide +kernel
theorem e_MM_send_44 : decode m_MM_send.2.1 44 = .ok (.iload 5, 2) := by decide +kernel
theorem e_MM_send_46 : decode m_MM_send.2.1 46 = .ok (.iaload, 1) := by decide +kernel
theorem e_MM_send_47 : decode m_MM_send.2.1 47 = .ok (.iload_n 3, 1) := by decide +kernel
theorem e_MM_send_48 : decode m_MM_send.2.1 48 = .ok (.if_icmp .ne 24, 3) := by decide +kernel
theorem e_MM_send_51 : decode m_MM_send.2.1 51 = .ok (.iload_n 1, 1) := by decide +kernel
theorem e_MM_send_52 : decode m_MM_send.2.1 52 = .ok (.iconst 5, 1) := by decide +kernel
theorem e_MM_send_53 : decode m_MM_send.2.1 53 = .ok (.if_icmp .ne 15, 3) := by decide +kernel
theorem e_MM_send_56 : decode m_MM_send.2.1 56 = .ok (.aload_n 0, 1) := by decide +kernel
theorem e_MM_send_57 : decode m_MM_send.2.1 57 = .ok (.getfield 89, 3) := by decide +kernel
theorem e_MM_send_60 : decode m_MM_send.2.1 60 = .ok (.iload 5, 2) := by decide +kernel
theorem e_MM_send_62 : decode m_MM_send.2.1 62 = .ok (.iaload, 1) := by decide +kernel
theorem e_MM_send_63 : decode m_MM_send.2.1 63 = .ok (.iload 4, 2) := by decide +kernel
theorem e_MM_send_65 : decode m_MM_send.2.1 65 = .ok (.if_icmp .ne 7, 3) := by decide +kernel
theorem e_MM_send_68 : decode m_MM_send.2.1 68 = .ok (.iconst 1, 1) := by decide +kernel
theorem e_MM_send_69 : decode m_MM_send.2.1 69 = .ok (.goto 4, 3) := by decide +kernel
theorem e_MM_send_72 : decode m_MM_send.2.1 72 = .ok (.iconst 0, 1) := by decide +kernel
theorem e_MM_send_73 : decode m_MM_send.2.1 73 = .ok (.istore 6, 2) := by decide +kernel
theorem e_MM_send_75 : decode m_MM_send.2.1 75 = .ok (.iload 6, 2) := by decide +kernel
theorem e_MM_send_77 : decode m_MM_send.2.1 77 = .ok (.ifCond .eq 9, 3) := by decide +kernel
theorem e_MM_send_80 : decode m_MM_send.2.1 80 = .ok (.aload_n 0, 1) := by decide +kernel
theorem e_MM_send_81 : decode m_MM_send.2.1 81 = .ok (.iload 5, 2) := by decide +kernel
theorem e_MM_send_83 : decode m_MM_send.2.1 83 = .ok (.invokevirtual 133, 3) := by decide +kernel
theorem e_MM_send_86 : decode m_MM_send.2.1 86 = .ok (.iinc 5 (-1), 3) := by decide +kernel
theorem e_MM_send_89 : decode m_MM_send.2.1 89 = .ok (.goto (-81), 3) := by decide +kernel
theorem e_MM_send_92 : decode m_MM_send.2.1 92 = .ok (.aload_n 0, 1) := by decide +kernel
theorem e_MM_send_93 : decode m_MM_send.2.1 93 = .ok (.getfield 126, 3) := by decide +kernel
theorem e_MM_send_96 : decode m_MM_send.2.1 96 = .ok (.istore 5, 2) := by decide +kernel
theorem e_MM_send_98 : decode m_MM_send.2.1 98 = .ok (.aload_n 0, 1) := by decide +kernel
theorem e_MM_send_99 : decode m_MM_send.2.1 99 = .ok (.getfield 80, 3) := by decide +kernel
theorem e_MM_send_102 : decode m_MM_send.2.1 102 = .ok (.iload 5, 2) := by decide +kernel
theorem e_MM_send_104 : decode m_MM_send.2.1 104 = .ok (.iload_n 1, 1) := by decide +kernel
theorem e_MM_send_105 : decode m_MM_send.2.1 105 = .ok (.iastore, 1) := by decide +kernel
theorem e_MM_send_106 : decode m_MM_send.2.1 106 = .ok (.aload_n 0, 1) := by decide +kernel
theorem e_MM_send_107 : decode m_MM_send.2.1 107 = .ok (.getfield 86, 3) := by decide +kernel
theorem e_MM_send_110 : decode m_MM_send.2.1 110 = .ok (.iload 5, 2) := by decide +kernel
theorem e_MM_send_112 : decode m_MM_send.2.1 112 = .ok (.iload_n 2, 1) := by decide +kernel
theorem e_MM_send_113 : decode m_MM_send.2.1 113 = .ok (.iastore, 1) := by decide +kernel
theorem e_MM_send_114 : decode m_MM_send.2.1 114 = .ok (.aload_n 0, 1) := by decide +kernel
theorem e_MM_send_115 : decode m_MM_send.2.1 115 = .ok (.getfield 83, 3) := by decide +kernel
theorem e_MM_send_118 : decode m_MM_send.2.1 118 = .ok (.iload 5, 2) := by decide +kernel
theorem e_MM_send_120 : decode m_MM_send.2.1 120 = .ok (.iload_n 3, 1) := by decide +kernel
theorem e_MM_send_121 : decode m_MM_send.2.1 121 = .ok (.iastore, 1) := by decide +kernel
theorem e_MM_send_122 : decode m_MM_send.2.1 122 = .ok (.aload_n 0, 1) := by decide +kernel
theorem e_MM_send_123 : decode m_MM_send.2.1 123 = .ok (.getfield 89, 3) := by decide +kernel
theorem e_MM_send_126 : decode m_MM_send.2.1 126 = .ok (.iload 5, 2) := by decide +kernel
theorem e_MM_send_128 : decode m_MM_send.2.1 128 = .ok (.iload 4, 2) := by decide +kernel
theorem e_MM_send_130 : decode m_MM_send.2.1 130 = .ok (.iastore, 1) := by decide +kernel
theorem e_MM_send_131 : decode m_MM_send.2.1 131 = .ok (.aload_n 0, 1) := by decide +kernel
theorem e_MM_send_132 : decode m_MM_send.2.1 132 = .ok (.getfield 92, 3) := by decide +kernel
theorem e_MM_send_135 : decode m_MM_send.2.1 135 = .ok (.iload 5, 2) := by decide +kernel
theorem e_MM_send_137 : decode m_MM_send.2.1 137 = .ok (.iconst 0, 1) := by decide +kernel
theorem e_MM_send_138 : decode m_MM_send.2.1 138 = .ok (.iastore, 1) := by decide +kernel
theorem e_MM_send_139 : decode m_MM_send.2.1 139 = .ok (.aload_n 0, 1) := by decide +kernel
theorem e_MM_send_140 : decode m_MM_send.2.1 140 = .ok (.getfield 95, 3) := by decide +kernel
theorem e_MM_send_143 : decode m_MM_send.2.1 143 = .ok (.iload 5, 2) := by decide +kernel
theorem e_MM_send_145 : decode m_MM_send.2.1 145 = .ok (.iconst 0, 1) := by decide +kernel
theorem e_MM_send_146 : decode m_MM_send.2.1 146 = .ok (.bastore, 1) := by decide +kernel
theorem e_MM_send_147 : decode m_MM_send.2.1 147 = .ok (.aload_n 0, 1) := by decide +kernel
theorem e_MM_send_148 : decode m_MM_send.2.1 148 = .ok (.getfield 98, 3) := by decide +kernel
theorem e_MM_send_151 : decode m_MM_send.2.1 151 = .ok (.iload 5, 2) := by decide +kernel
theorem e_MM_send_153 : decode m_MM_send.2.1 153 = .ok (.iconst 0, 1) := by decide +kernel
theorem e_MM_send_154 : decode m_MM_send.2.1 154 = .ok (.bastore, 1) := by decide +kernel
theorem e_MM_send_155 : decode m_MM_send.2.1 155 = .ok (.aload_n 0, 1) := by decide +kernel
theorem e_MM_send_156 : decode m_MM_send.2.1 156 = .ok (.getfield 101, 3) := by decide +kernel
theorem e_MM_send_159 : decode m_MM_send.2.1 159 = .ok (.iload 5, 2) := by decide +kernel
theorem e_MM_send_161 : decode m_MM_send.2.1 161 = .ok (.iconst 0, 1) := by decide +kernel
theorem e_MM_send_162 : decode m_MM_send.2.1 162 = .ok (.iastore, 1) := by decide +kernel
theorem e_MM_send_163 : decode m_MM_send.2.1 163 = .ok (.aload_n 0, 1) := by decide +kernel
theorem e_MM_send_164 : decode m_MM_send.2.1 164 = .ok (.getfield 104, 3) := by decide +kernel
theorem e_MM_send_167 : decode m_MM_send.2.1 167 = .ok (.iload 5, 2) := by decide +kernel
theorem e_MM_send_169 : decode m_MM_send.2.1 169 = .ok (.iconst 0, 1) := by decide +kernel
theorem e_MM_send_170 : decode m_MM_send.2.1 170 = .ok (.iastore, 1) := by decide +kernel
theorem e_MM_send_171 : decode m_MM_send.2.1 171 = .ok (.aload_n 0, 1) := by decide +kernel
theorem e_MM_send_172 : decode m_MM_send.2.1 172 = .ok (.getfield 107, 3) := by decide +kernel
theorem e_MM_send_175 : decode m_MM_send.2.1 175 = .ok (.iload 5, 2) := by decide +kernel
theorem e_MM_send_177 : decode m_MM_send.2.1 177 = .ok (.iconst (-1), 1) := by decide +kernel
theorem e_MM_send_178 : decode m_MM_send.2.1 178 = .ok (.iastore, 1) := by decide +kernel
theorem e_MM_send_179 : decode m_MM_send.2.1 179 = .ok (.aload_n 0, 1) := by decide +kernel
theorem e_MM_send_180 : decode m_MM_send.2.1 180 = .ok (.getfield 110, 3) := by decide +kernel
theorem e_MM_send_183 : decode m_MM_send.2.1 183 = .ok (.iload 5, 2) := by decide +kernel
theorem e_MM_send_185 : decode m_MM_send.2.1 185 = .ok (.iconst 0, 1) := by decide +kernel
theorem e_MM_send_186 : decode m_MM_send.2.1 186 = .ok (.bastore, 1) := by decide +kernel
theorem e_MM_send_187 : decode m_MM_send.2.1 187 = .ok (.aload_n 0, 1) := by decide +kernel
theorem e_MM_send_188 : decode m_MM_send.2.1 188 = .ok (.dup, 1) := by decide +kernel
theorem e_MM_send_189 : decode m_MM_send.2.1 189 = .ok (.getfield 126, 3) := by decide +kernel
theorem e_MM_send_192 : decode m_MM_send.2.1 192 = .ok (.iconst 1, 1) := by decide +kernel
theorem e_MM_send_193 : decode m_MM_send.2.1 193 = .ok (.iadd, 1) := by decide +kernel
theorem e_MM_send_194 : decode m_MM_send.2.1 194 = .ok (.putfield 126, 3) := by decide +kernel
theorem e_MM_send_197 : decode m_MM_send.2.1 197 = .ok (.iload 5, 2) := by decide +kernel
theorem e_MM_send_199 : decode m_MM_send.2.1 199 = .ok (.ireturn, 1) := by decide +kernel
theorem e_MM_give_0 : decode m_MM_give.2.1 0 = .ok (.iconst 2, 1) := by decide +kernel
theorem e_MM_give_1 : decode m_MM_give.2.1 1 = .ok (.iload_n 1, 1) := by decide +kernel
theorem e_MM_give_2 : decode m_MM_give.2.1 2 = .ok (.imul, 1) := by decide +kernel
theorem e_MM_give_3 : decode m_MM_give.2.1 3 = .ok (.iload_n 2, 1) := by decide +kernel
theorem e_MM_give_4 : decode m_MM_give.2.1 4 = .ok (.iadd, 1) := by decide +kernel
theorem e_MM_give_5 : decode m_MM_give.2.1 5 = .ok (.istore 7, 2) := by decide +kernel
theorem e_MM_give_7 : decode m_MM_give.2.1 7 = .ok (.iload 4, 2) := by decide +kernel
theorem e_MM_give_9 : decode m_MM_give.2.1 9 = .ok (.ifCond .ne 4, 3) := by decide +kernel
theorem e_MM_give_12 : decode m_MM_give.2.1 12 = .ok (.return_, 1) := by decide +kernel
theorem e_MM_give_13 : decode m_MM_give.2.1 13 = .ok (.aload_n 0, 1) := by decide +kernel
theorem e_MM_give_14 : decode m_MM_give.2.1 14 = .ok (.iconst 3, 1) := by decide +kernel
theorem e_MM_give_15 : decode m_MM_give.2.1 15 = .ok (.iload_n 1, 1) := by decide +kernel
theorem e_MM_give_16 : decode m_MM_give.2.1 16 = .ok (.iload_n 3, 1) := by decide +kernel
theorem e_MM_give_17 : decode m_MM_give.2.1 17 = .ok (.iload_n 2, 1) := by decide +kernel
theorem e_MM_give_18 : decode m_MM_give.2.1 18 = .ok (.invokevirtual 137, 3) := by decide +kernel
theorem e_MM_give_21 : decode m_MM_give.2.1 21 = .ok (.istore 8, 2) := by decide +kernel
theorem e_MM_give_23 : decode m_MM_give.2.1 23 = .ok (.aload_n 0, 1) := by decide +kernel
theorem e_MM_give_24 : decode m_MM_give.2.1 24 = .ok (.getfield 92, 3) := by decide +kernel
theorem e_MM_give_27 : decode m_MM_give.2.1 27 = .ok (.iload 8, 2) := by decide +kernel
theorem e_MM_give_29 : decode m_MM_give.2.1 29 = .ok (.iload 4, 2) := by decide +kernel
theorem e_MM_give_31 : decode m_MM_give.2.1 31 = .ok (.iastore, 1) := by decide +kernel
theorem e_MM_give_32 : decode m_MM_give.2.1 32 = .ok (.aload_n 0, 1) := by decide +kernel
theorem e_MM_give_33 : decode m_MM_give.2.1 33 = .ok (.getfield 95, 3) := by decide +kernel
theorem e_MM_give_36 : decode m_MM_give.2.1 36 = .ok (.iload 8, 2) := by decide +kernel
theorem e_MM_give_38 : decode m_MM_give.2.1 38 = .ok (.iload 5, 2) := by decide +kernel
theorem e_MM_give_40 : decode m_MM_give.2.1 40 = .ok (.bastore, 1) := by decide +kernel
theorem e_MM_give_41 : decode m_MM_give.2.1 41 = .ok (.aload_n 0, 1) := by decide +kernel
theorem e_MM_give_42 : decode m_MM_give.2.1 42 = .ok (.getfield 98, 3) := by decide +kernel
theorem e_MM_give_45 : decode m_MM_give.2.1 45 = .ok (.iload 8, 2) := by decide +kernel
theorem e_MM_give_47 : decode m_MM_give.2.1 47 = .ok (.iload 5, 2) := by decide +kernel
theorem e_MM_give_49 : decode m_MM_give.2.1 49 = .ok (.ifCond .ne 8, 3) := by decide +kernel
theorem e_MM_give_52 : decode m_MM_give.2.1 52 = .ok (.iload 6, 2) := by decide +kernel
theorem e_MM_give_54 : decode m_MM_give.2.1 54 = .ok (.ifCond .eq 17, 3) := by decide +kernel
theorem e_MM_give_57 : decode m_MM_give.2.1 57 = .ok (.aload_n 0, 1) := by decide +kernel
theorem e_MM_give_58 : decode m_MM_give.2.1 58 = .ok (.getfield 17, 3) := by decide +kernel
theorem e_MM_give_61 : decode m_MM_give.2.1 61 = .ok (.iload 7, 2) := by decide +kernel
theorem e_MM_give_63 : decode m_MM_give.2.1 63 = .ok (.baload, 1) := by decide +kernel
theorem e_MM_give_64 : decode m_MM_give.2.1 64 = .ok (.ifCond .eq 7, 3) := by decide +kernel
theorem e_MM_give_67 : decode m_MM_give.2.1 67 = .ok (.iconst 1, 1) := by decide +kernel
theorem e_MM_give_68 : decode m_MM_give.2.1 68 = .ok (.goto 4, 3) := by decide +kernel
theorem e_MM_give_71 : decode m_MM_give.2.1 71 = .ok (.iconst 0, 1) := by decide +kernel
theorem e_MM_give_72 : decode m_MM_give.2.1 72 = .ok (.bastore, 1) := by decide +kernel
theorem e_MM_give_73 : decode m_MM_give.2.1 73 = .ok (.aload_n 0, 1) := by decide +kernel
theorem e_MM_give_74 : decode m_MM_give.2.1 74 = .ok (.getfield 101, 3) := by decide +kernel
theorem e_MM_give_77 : decode m_MM_give.2.1 77 = .ok (.iload 8, 2) := by decide +kernel
theorem e_MM_give_79 : decode m_MM_give.2.1 79 = .ok (.aload_n 0, 1) := by decide +kernel
theorem e_MM_give_80 : decode m_MM_give.2.1 80 = .ok (.getfield 20, 3) := by decide +kernel
theorem e_MM_give_83 : decode m_MM_give.2.1 83 = .ok (.iload 7, 2) := by decide +kernel
theorem e_MM_give_85 : decode m_MM_give.2.1 85 = .ok (.iaload, 1) := by decide +kernel
theorem e_MM_give_86 : decode m_MM_give.2.1 86 = .ok (.iastore, 1) := by decide +kernel
theorem e_MM_give_87 : decode m_MM_give.2.1 87 = .ok (.aload_n 0, 1) := by decide +kernel
theorem e_MM_give_88 : decode m_MM_give.2.1 88 = .ok (.getfield 7, 3) := by decide +kernel
theorem e_MM_give_91 : decode m_MM_give.2.1 91 = .ok (.iload 7, 2) := by decide +kernel
theorem e_MM_give_93 : decode m_MM_give.2.1 93 = .ok (.aload_n 0, 1) := by decide +kernel
theorem e_MM_give_94 : decode m_MM_give.2.1 94 = .ok (.getfield 7, 3) := by decide +kernel
theorem e_MM_give_97 : decode m_MM_give.2.1 97 = .ok (.iload 7, 2) := by decide +kernel
theorem e_MM_give_99 : decode m_MM_give.2.1 99 = .ok (.iaload, 1) := by decide +kernel
theorem e_MM_give_100 : decode m_MM_give.2.1 100 = .ok (.iload 4, 2) := by decide +kernel
theorem e_MM_give_102 : decode m_MM_give.2.1 102 = .ok (.isub, 1) := by decide +kernel
theorem e_MM_give_103 : decode m_MM_give.2.1 103 = .ok (.iastore, 1) := by decide +kernel
theorem e_MM_give_104 : decode m_MM_give.2.1 104 = .ok (.aload_n 0, 1) := by decide +kernel
theorem e_MM_give_105 : decode m_MM_give.2.1 105 = .ok (.getfield 13, 3) := by decide +kernel
theorem e_MM_give_108 : decode m_MM_give.2.1 108 = .ok (.iload 7, 2) := by decide +kernel
theorem e_MM_give_110 : decode m_MM_give.2.1 110 = .ok (.aload_n 0, 1) := by decide +kernel
theorem e_MM_give_111 : decode m_MM_give.2.1 111 = .ok (.getfield 13, 3) := by decide +kernel
theorem e_MM_give_114 : decode m_MM_give.2.1 114 = .ok (.iload 7, 2) := by decide +kernel
theorem e_MM_give_116 : decode m_MM_give.2.1 116 = .ok (.baload, 1) := by decide +kernel
theorem e_MM_give_117 : decode m_MM_give.2.1 117 = .ok (.ifCond .eq 12, 3) := by decide +kernel
theorem e_MM_give_120 : decode m_MM_give.2.1 120 = .ok (.iload 5, 2) := by decide +kernel
theorem e_MM_give_122 : decode m_MM_give.2.1 122 = .ok (.ifCond .ne 7, 3) := by decide +kernel
theorem e_MM_give_125 : decode m_MM_give.2.1 125 = .ok (.iconst 1, 1) := by decide +kernel
theorem e_MM_give_126 : decode m_MM_give.2.1 126 = .ok (.goto 4, 3) := by decide +kernel
theorem e_MM_give_129 : decode m_MM_give.2.1 129 = .ok (.iconst 0, 1) := by decide +kernel
theorem e_MM_give_130 : decode m_MM_give.2.1 130 = .ok (.bastore, 1) := by decide +kernel
theorem e_MM_give_131 : decode m_MM_give.2.1 131 = .ok (.aload_n 0, 1) := by decide +kernel
theorem e_MM_give_132 : decode m_MM_give.2.1 132 = .ok (.getfield 17, 3) := by decide +kernel
theorem e_MM_give_135 : decode m_MM_give.2.1 135 = .ok (.iload 7, 2) := by decide +kernel
theorem e_MM_give_137 : decode m_MM_give.2.1 137 = .ok (.aload_n 0, 1) := by decide +kernel
theorem e_MM_give_138 : decode m_MM_give.2.1 138 = .ok (.getfield 17, 3) := by decide +kernel
theorem e_MM_give_141 : decode m_MM_give.2.1 141 = .ok (.iload 7, 2) := by decide +kernel
theorem e_MM_give_143 : decode m_MM_give.2.1 143 = .ok (.baload, 1) := by decide +kernel
theorem e_MM_give_144 : decode m_MM_give.2.1 144 = .ok (.ifCond .eq 17, 3) := by decide +kernel
theorem e_MM_give_147 : decode m_MM_give.2.1 147 = .ok (.aload_n 0, 1) := by decide +kernel
theorem e_MM_give_148 : decode m_MM_give.2.1 148 = .ok (.getfield 7, 3) := by decide +kernel
theorem e_MM_give_151 : decode m_MM_give.2.1 151 = .ok (.iload 7, 2) := by decide +kernel
theorem e_MM_give_153 : decode m_MM_give.2.1 153 = .ok (.iaload, 1) := by decide +kernel
theorem e_MM_give_154 : decode m_MM_give.2.1 154 = .ok (.ifCond .le 7, 3) := by decide +kernel
theorem e_MM_give_157 : decode m_MM_give.2.1 157 = .ok (.iconst 1, 1) := by decide +kernel
theorem e_MM_give_158 : decode m_MM_give.2.1 158 = .ok (.goto 4, 3) := by decide +kernel
theorem e_MM_give_161 : decode m_MM_give.2.1 161 = .ok (.iconst 0, 1) := by decide +kernel
theorem e_MM_give_162 : decode m_MM_give.2.1 162 = .ok (.bastore, 1) := by decide +kernel
theorem e_MM_give_163 : decode m_MM_give.2.1 163 = .ok (.return_, 1) := by decide +kernel
theorem e_MM_giveWay_0 : decode m_MM_giveWay.2.1 0 = .ok (.iconst 2, 1) := by decide +kernel
theorem e_MM_giveWay_1 : decode m_MM_giveWay.2.1 1 = .ok (.iload_n 1, 1) := by decide +kernel
theorem e_MM_giveWay_2 : decode m_MM_giveWay.2.1 2 = .ok (.imul, 1) := by decide +kernel
theorem e_MM_giveWay_3 : decode m_MM_giveWay.2.1 3 = .ok (.iload_n 2, 1) := by decide +kernel
theorem e_MM_giveWay_4 : decode m_MM_giveWay.2.1 4 = .ok (.iadd, 1) := by decide +kernel
theorem e_MM_giveWay_5 : decode m_MM_giveWay.2.1 5 = .ok (.istore_n 3, 1) := by decide +kernel
theorem e_MM_giveWay_6 : decode m_MM_giveWay.2.1 6 = .ok (.aload_n 0, 1) := by decide +kernel
theorem e_MM_giveWay_7 : decode m_MM_giveWay.2.1 7 = .ok (.getfield 23, 3) := by decide +kernel
theorem e_MM_giveWay_10 : decode m_MM_giveWay.2.1 10 = .ok (.iload_n 3, 1) := by decide +kernel
theorem e_MM_giveWay_11 : decode m_MM_giveWay.2.1 11 = .ok (.iaload, 1) := by decide +kernel
theorem e_MM_giveWay_12 : decode m_MM_giveWay.2.1 12 = .ok (.istore 4, 2) := by decide +kernel
theorem e_MM_giveWay_14 : decode m_MM_giveWay.2.1 14 = .ok (.iload 4, 2) := by decide +kernel
theorem e_MM_giveWay_16 : decode m_MM_giveWay.2.1 16 = .ok (.ifCond .lt 9, 3) := by decide +kernel
theorem e_MM_giveWay_19 : decode m_MM_giveWay.2.1 19 = .ok (.iload 4, 2) := by decide +kernel
theorem e_MM_giveWay_21 : decode m_MM_giveWay.2.1 21 = .ok (.iload_n 1, 1) := by decide +kernel
theorem e_MM_giveWay_22 : decode m_MM_giveWay.2.1 22 = .ok (.if_icmp .ne 4, 3) := by decide +kernel
theorem e_MM_giveWay_25 : decode m_MM_giveWay.2.1 25 = .ok (.return_, 1) := by decide +kernel
theorem e_MM_giveWay_26 : decode m_MM_giveWay.2.1 26 = .ok (.aload_n 0, 1) := by decide +kernel
theorem e_MM_giveWay_27 : decode m_MM_giveWay.2.1 27 = .ok (.getfield 26, 3) := by decide +kernel
theorem e_MM_giveWay_30 : decode m_MM_giveWay.2.1 30 = .ok (.iload_n 3, 1) := by decide +kernel
theorem e_MM_giveWay_31 : decode m_MM_giveWay.2.1 31 = .ok (.baload, 1) := by decide +kernel
theorem e_MM_giveWay_32 : decode m_MM_giveWay.2.1 32 = .ok (.ifCond .eq 27, 3) := by decide +kernel
theorem e_MM_giveWay_35 : decode m_MM_giveWay.2.1 35 = .ok (.aload_n 0, 1) := by decide +kernel
theorem e_MM_giveWay_36 : decode m_MM_giveWay.2.1 36 = .ok (.iload_n 1, 1) := by decide +kernel
theorem e_MM_giveWay_37 : decode m_MM_giveWay.2.1 37 = .ok (.iload_n 2, 1) := by decide +kernel
theorem e_MM_giveWay_38 : decode m_MM_giveWay.2.1 38 = .ok (.iload 4, 2) := by decide +kernel
theorem e_MM_giveWay_40 : decode m_MM_giveWay.2.1 40 = .ok (.aload_n 0, 1) := by decide +kernel
theorem e_MM_giveWay_41 : decode m_MM_giveWay.2.1 41 = .ok (.getfield 7, 3) := by decide +kernel
theorem e_MM_giveWay_44 : decode m_MM_giveWay.2.1 44 = .ok (.iload_n 3, 1) := by decide +kernel
theorem e_MM_giveWay_45 : decode m_MM_giveWay.2.1 45 = .ok (.iaload, 1) := by decide +kernel
theorem e_MM_giveWay_46 : decode m_MM_giveWay.2.1 46 = .ok (.aload_n 0, 1) := by decide +kernel
theorem e_MM_giveWay_47 : decode m_MM_giveWay.2.1 47 = .ok (.getfield 13, 3) := by decide +kernel
theorem e_MM_giveWay_50 : decode m_MM_giveWay.2.1 50 = .ok (.iload_n 3, 1) := by decide +kernel
theorem e_MM_giveWay_51 : decode m_MM_giveWay.2.1 51 = .ok (.baload, 1) := by decide +kernel
theorem e_MM_giveWay_52 : decode m_MM_giveWay.2.1 52 = .ok (.iconst 0, 1) := by decide +kernel
theorem e_MM_giveWay_53 : decode m_MM_giveWay.2.1 53 = .ok (.invokevirtual 141, 3) := by decide +kernel
theorem e_MM_giveWay_56 : decode m_MM_giveWay.2.1 56 = .ok (.goto 23, 3) := by decide +kernel
theorem e_MM_giveWay_59 : decode m_MM_giveWay.2.1 59 = .ok (.aload_n 0, 1) := by decide +kernel
theorem e_MM_giveWay_60 : decode m_MM_giveWay.2.1 60 = .ok (.getfield 13, 3) := by decide +kernel
theorem e_MM_giveWay_63 : decode m_MM_giveWay.2.1 63 = .ok (.iload_n 3, 1) := by decide +kernel
theorem e_MM_giveWay_64 : decode m_MM_giveWay.2.1 64 = .ok (.baload, 1) := by decide +kernel
theorem e_MM_giveWay_65 : decode m_MM_giveWay.2.1 65 = .ok (.ifCond .eq 14, 3) := by decide +kernel
theorem e_MM_giveWay_68 : decode m_MM_giveWay.2.1 68 = .ok (.aload_n 0, 1) := by decide +kernel
theorem e_MM_giveWay_69 : decode m_MM_giveWay.2.1 69 = .ok (.iload_n 1, 1) := by decide +kernel
theorem e_MM_giveWay_70 : decode m_MM_giveWay.2.1 70 = .ok (.iload_n 2, 1) := by decide +kernel
theorem e_MM_giveWay_71 : decode m_MM_giveWay.2.1 71 = .ok (.iload 4, 2) := by decide +kernel
theorem e_MM_giveWay_73 : decode m_MM_giveWay.2.1 73 = .ok (.iconst 1, 1) := by decide +kernel
theorem e_MM_giveWay_74 : decode m_MM_giveWay.2.1 74 = .ok (.iconst 1, 1) := by decide +kernel
theorem e_MM_giveWay_75 : decode m_MM_giveWay.2.1 75 = .ok (.iconst 0, 1) := by decide +kernel
theorem e_MM_giveWay_76 : decode m_MM_giveWay.2.1 76 = .ok (.invokevirtual 141, 3) := by decide +kernel
theorem e_MM_giveWay_79 : decode m_MM_giveWay.2.1 79 = .ok (.return_, 1) := by decide +kernel
theorem e_MM_canEnd_0 : decode m_MM_canEnd.2.1 0 = .ok (.iconst 2, 1) := by decide +kernel
theorem e_MM_canEnd_1 : decode m_MM_canEnd.2.1 1 = .ok (.iload_n 1, 1) := by decide +kernel
theorem e_MM_canEnd_2 : decode m_MM_canEnd.2.1 2 = .ok (.imul, 1) := by decide +kernel
theorem e_MM_canEnd_3 : decode m_MM_canEnd.2.1 3 = .ok (.aload_n 0, 1) := by decide +kernel
theorem e_MM_canEnd_4 : decode m_MM_canEnd.2.1 4 = .ok (.getfield 41, 3) := by decide +kernel
theorem e_MM_canEnd_7 : decode m_MM_canEnd.2.1 7 = .ok (.iload_n 1, 1) := by decide +kernel
theorem e_MM_canEnd_8 : decode m_MM_canEnd.2.1 8 = .ok (.iaload, 1) := by decide +kernel
theorem e_MM_canEnd_9 : decode m_MM_canEnd.2.1 9 = .ok (.iadd, 1) := by decide +kernel
theorem e_MM_canEnd_10 : decode m_MM_canEnd.2.1 10 = .ok (.istore_n 2, 1) := by decide +kernel
theorem e_MM_canEnd_11 : decode m_MM_canEnd.2.1 11 = .ok (.aload_n 0, 1) := by decide +kernel
theorem e_MM_canEnd_12 : decode m_MM_canEnd.2.1 12 = .ok (.getfield 17, 3) := by decide +kernel
theorem e_MM_canEnd_15 : decode m_MM_canEnd.2.1 15 = .ok (.iload_n 2, 1) := by decide +kernel
theorem e_MM_canEnd_16 : decode m_MM_canEnd.2.1 16 = .ok (.baload, 1) := by decide +kernel
theorem e_MM_canEnd_17 : decode m_MM_canEnd.2.1 17 = .ok (.ifCond .eq 31, 3) := by decide +kernel
theorem e_MM_canEnd_20 : decode m_MM_canEnd.2.1 20 = .ok (.aload_n 0, 1) := by decide +kernel
theorem e_MM_canEnd_21 : decode m_MM_canEnd.2.1 21 = .ok (.getfield 35, 3) := by decide +kernel
theorem e_MM_canEnd_24 : decode m_MM_canEnd.2.1 24 = .ok (.iload_n 1, 1) := by decide +kernel
theorem e_MM_canEnd_25 : decode m_MM_canEnd.2.1 25 = .ok (.baload, 1) := by decide +kernel
theorem e_MM_canEnd_26 : decode m_MM_canEnd.2.1 26 = .ok (.ifCond .eq 18, 3) := by decide +kernel
theorem e_MM_canEnd_29 : decode m_MM_canEnd.2.1 29 = .ok (.aload_n 0, 1) := by decide +kernel
theorem e_MM_canEnd_30 : decode m_MM_canEnd.2.1 30 = .ok (.getfield 7, 3) := by decide +kernel
theorem e_MM_canEnd_33 : decode m_MM_canEnd.2.1 33 = .ok (.iload_n 2, 1) := by decide +kernel
theorem e_MM_canEnd_34 : decode m_MM_canEnd.2.1 34 = .ok (.iaload, 1) := by decide +kernel
theorem e_MM_canEnd_35 : decode m_MM_canEnd.2.1 35 = .ok (.aload_n 0, 1) := by decide +kernel
theorem e_MM_canEnd_36 : decode m_MM_canEnd.2.1 36 = .ok (.getfield 113, 3) := by decide +kernel
theorem e_MM_canEnd_39 : decode m_MM_canEnd.2.1 39 = .ok (.iconst 1, 1) := by decide +kernel
theorem e_MM_canEnd_40 : decode m_MM_canEnd.2.1 40 = .ok (.iadd, 1) := by decide +kernel
theorem e_MM_canEnd_41 : decode m_MM_canEnd.2.1 41 = .ok (.if_icmp .ne 7, 3) := by decide +kernel
theorem e_MM_canEnd_44 : decode m_MM_canEnd.2.1 44 = .ok (.iconst 1, 1) := by decide +kernel
theorem e_MM_canEnd_45 : decode m_MM_canEnd.2.1 45 = .ok (.goto 4, 3) := by decide +kernel
theorem e_MM_canEnd_48 : decode m_MM_canEnd.2.1 48 = .ok (.iconst 0, 1) := by decide +kernel
theorem e_MM_canEnd_49 : decode m_MM_canEnd.2.1 49 = .ok (.ireturn, 1) := by decide +kernel
theorem e_MM_endd_0 : decode m_MM_endd.2.1 0 = .ok (.iconst 2, 1) := by decide +kernel
theorem e_MM_endd_1 : decode m_MM_endd.2.1 1 = .ok (.iload_n 1, 1) := by decide +kernel
theorem e_MM_endd_2 : decode m_MM_endd.2.1 2 = .ok (.imul, 1) := by decide +kernel
theorem e_MM_endd_3 : decode m_MM_endd.2.1 3 = .ok (.aload_n 0, 1) := by decide +kernel
theorem e_MM_endd_4 : decode m_MM_endd.2.1 4 = .ok (.getfield 41, 3) := by decide +kernel
theorem e_MM_endd_7 : decode m_MM_endd.2.1 7 = .ok (.iload_n 1, 1) := by decide +kernel
theorem e_MM_endd_8 : decode m_MM_endd.2.1 8 = .ok (.iaload, 1) := by decide +kernel
theorem e_MM_endd_9 : decode m_MM_endd.2.1 9 = .ok (.iadd, 1) := by decide +kernel
theorem e_MM_endd_10 : decode m_MM_endd.2.1 10 = .ok (.istore_n 2, 1) := by decide +kernel
theorem e_MM_endd_11 : decode m_MM_endd.2.1 11 = .ok (.aload_n 0, 1) := by decide +kernel
theorem e_MM_endd_12 : decode m_MM_endd.2.1 12 = .ok (.getfield 59, 3) := by decide +kernel
theorem e_MM_endd_15 : decode m_MM_endd.2.1 15 = .ok (.iload_n 1, 1) := by decide +kernel
theorem e_MM_endd_16 : decode m_MM_endd.2.1 16 = .ok (.aload_n 0, 1) := by decide +kernel
theorem e_MM_endd_17 : decode m_MM_endd.2.1 17 = .ok (.getfield 20, 3) := by decide +kernel
theorem e_MM_endd_20 : decode m_MM_endd.2.1 20 = .ok (.iload_n 2, 1) := by decide +kernel
theorem e_MM_endd_21 : decode m_MM_endd.2.1 21 = .ok (.iaload, 1) := by decide +kernel
theorem e_MM_endd_22 : decode m_MM_endd.2.1 22 = .ok (.iastore, 1) := by decide +kernel
theorem e_MM_endd_23 : decode m_MM_endd.2.1 23 = .ok (.aload_n 0, 1) := by decide +kernel
theorem e_MM_endd_24 : decode m_MM_endd.2.1 24 = .ok (.getfield 20, 3) := by decide +kernel
theorem e_MM_endd_27 : decode m_MM_endd.2.1 27 = .ok (.iload_n 2, 1) := by decide +kernel
theorem e_MM_endd_28 : decode m_MM_endd.2.1 28 = .ok (.aload_n 0, 1) := by decide +kernel
theorem e_MM_endd_29 : decode m_MM_endd.2.1 29 = .ok (.getfield 35, 3) := by decide +kernel
theorem e_MM_endd_32 : decode m_MM_endd.2.1 32 = .ok (.iload_n 1, 1) := by decide +kernel
theorem e_MM_endd_33 : decode m_MM_endd.2.1 33 = .ok (.baload, 1) := by decide +kernel
theorem e_MM_endd_34 : decode m_MM_endd.2.1 34 = .ok (.ifCond .eq 12, 3) := by decide +kernel
theorem e_MM_endd_37 : decode m_MM_endd.2.1 37 = .ok (.aload_n 0, 1) := by decide +kernel
theorem e_MM_endd_38 : decode m_MM_endd.2.1 38 = .ok (.getfield 44, 3) := by decide +kernel
theorem e_MM_endd_41 : decode m_MM_endd.2.1 41 = .ok (.iload_n 1, 1) := by decide +kernel
theorem e_MM_endd_42 : decode m_MM_endd.2.1 42 = .ok (.iaload, 1) := by decide +kernel
theorem e_MM_endd_43 : decode m_MM_endd.2.1 43 = .ok (.goto 9, 3) := by decide +kernel
theorem e_MM_endd_46 : decode m_MM_endd.2.1 46 = .ok (.aload_n 0, 1) := by decide +kernel
theorem e_MM_endd_47 : decode m_MM_endd.2.1 47 = .ok (.getfield 20, 3) := by decide +kernel
theorem e_MM_endd_50 : decode m_MM_endd.2.1 50 = .ok (.iload_n 2, 1) := by decide +kernel
theorem e_MM_endd_51 : decode m_MM_endd.2.1 51 = .ok (.iaload, 1) := by decide +kernel
theorem e_MM_endd_52 : decode m_MM_endd.2.1 52 = .ok (.iastore, 1) := by decide +kernel
theorem e_MM_endd_53 : decode m_MM_endd.2.1 53 = .ok (.aload_n 0, 1) := by decide +kernel
theorem e_MM_endd_54 : decode m_MM_endd.2.1 54 = .ok (.getfield 56, 3) := by decide +kernel
theorem e_MM_endd_57 : decode m_MM_endd.2.1 57 = .ok (.iload_n 1, 1) := by decide +kernel
theorem e_MM_endd_58 : decode m_MM_endd.2.1 58 = .ok (.dup2, 1) := by decide +kernel
theorem e_MM_endd_59 : decode m_MM_endd.2.1 59 = .ok (.iaload, 1) := by decide +kernel
theorem e_MM_endd_60 : decode m_MM_endd.2.1 60 = .ok (.iconst 1, 1) := by decide +kernel
theorem e_MM_endd_61 : decode m_MM_endd.2.1 61 = .ok (.iadd, 1) := by decide +kernel
theorem e_MM_endd_62 : decode m_MM_endd.2.1 62 = .ok (.iastore, 1) := by decide +kernel
theorem e_MM_endd_63 : decode m_MM_endd.2.1 63 = .ok (.aload_n 0, 1) := by decide +kernel
theorem e_MM_endd_64 : decode m_MM_endd.2.1 64 = .ok (.getfield 32, 3) := by decide +kernel
theorem e_MM_endd_67 : decode m_MM_endd.2.1 67 = .ok (.iload_n 1, 1) := by decide +kernel
theorem e_MM_endd_68 : decode m_MM_endd.2.1 68 = .ok (.iconst 0, 1) := by decide +kernel
theorem e_MM_endd_69 : decode m_MM_endd.2.1 69 = .ok (.bastore, 1) := by decide +kernel
theorem e_MM_endd_70 : decode m_MM_endd.2.1 70 = .ok (.aload_n 0, 1) := by decide +kernel
theorem e_MM_endd_71 : decode m_MM_endd.2.1 71 = .ok (.getfield 38, 3) := by decide +kernel
theorem e_MM_endd_74 : decode m_MM_endd.2.1 74 = .ok (.iload_n 1, 1) := by decide +kernel
theorem e_MM_endd_75 : decode m_MM_endd.2.1 75 = .ok (.baload, 1) := by decide +kernel
theorem e_MM_endd_76 : decode m_MM_endd.2.1 76 = .ok (.ifCond .eq 28, 3) := by decide +kernel
theorem e_MM_endd_79 : decode m_MM_endd.2.1 79 = .ok (.aload_n 0, 1) := by decide +kernel
theorem e_MM_endd_80 : decode m_MM_endd.2.1 80 = .ok (.bipush 6, 2) := by decide +kernel
theorem e_MM_endd_82 : decode m_MM_endd.2.1 82 = .ok (.iload_n 1, 1) := by decide +kernel
theorem e_MM_endd_83 : decode m_MM_endd.2.1 83 = .ok (.aload_n 0, 1) := by decide +kernel
theorem e_MM_endd_84 : decode m_MM_endd.2.1 84 = .ok (.getfield 113, 3) := by decide +kernel
theorem e_MM_endd_87 : decode m_MM_endd.2.1 87 = .ok (.iconst 0, 1) := by decide +kernel
theorem e_MM_endd_88 : decode m_MM_endd.2.1 88 = .ok (.invokevirtual 137, 3) := by decide +kernel
theorem e_MM_endd_91 : decode m_MM_endd.2.1 91 = .ok (.istore_n 3, 1) := by decide +kernel
theorem e_MM_endd_92 : decode m_MM_endd.2.1 92 = .ok (.aload_n 0, 1) := by decide +kernel
theorem e_MM_endd_93 : decode m_MM_endd.2.1 93 = .ok (.getfield 104, 3) := by decide +kernel
theorem e_MM_endd_96 : decode m_MM_endd.2.1 96 = .ok (.iload_n 3, 1) := by decide +kernel
theorem e_MM_endd_97 : decode m_MM_endd.2.1 97 = .ok (.aload_n 0, 1) := by decide +kernel
theorem e_MM_endd_98 : decode m_MM_endd.2.1 98 = .ok (.getfield 47, 3) := by decide +kernel
theorem e_MM_endd_101 : decode m_MM_endd.2.1 101 = .ok (.iload_n 1, 1) := by decide +kernel
theorem e_MM_endd_102 : decode m_MM_endd.2.1 102 = .ok (.iaload, 1) := by decide +kernel
theorem e_MM_endd_103 : decode m_MM_endd.2.1 103 = .ok (.iastore, 1) := by decide +kernel
theorem e_MM_endd_104 : decode m_MM_endd.2.1 104 = .ok (.aload_n 0, 1) := by decide +kernel
theorem e_MM_endd_105 : decode m_MM_endd.2.1 105 = .ok (.getfield 38, 3) := by decide +kernel
theorem e_MM_endd_108 : decode m_MM_endd.2.1 108 = .ok (.iload_n 1, 1) := by decide +kernel
theorem e_MM_endd_109 : decode m_MM_endd.2.1 109 = .ok (.iconst 0, 1) := by decide +kernel
theorem e_MM_endd_110 : decode m_MM_endd.2.1 110 = .ok (.bastore, 1) := by decide +kernel
theorem e_MM_endd_111 : decode m_MM_endd.2.1 111 = .ok (.return_, 1) := by decide +kernel
theorem e_MM_ask_0 : decode m_MM_ask.2.1 0 = .ok (.iconst 0, 1) := by decide +kernel
theorem e_MM_ask_1 : decode m_MM_ask.2.1 1 = .ok (.istore_n 2, 1) := by decide +kernel
theorem e_MM_ask_2 : decode m_MM_ask.2.1 2 = .ok (.iload_n 2, 1) := by decide +kernel
theorem e_MM_ask_3 : decode m_MM_ask.2.1 3 = .ok (.aload_n 0, 1) := by decide +kernel
theorem e_MM_ask_4 : decode m_MM_ask.2.1 4 = .ok (.getfield 113, 3) := by decide +kernel
theorem e_MM_ask_7 : decode m_MM_ask.2.1 7 = .ok (.if_icmp .gt 41, 3) := by decide +kernel
theorem e_MM_ask_10 : decode m_MM_ask.2.1 10 = .ok (.iload_n 2, 1) := by decide +kernel
theorem e_MM_ask_11 : decode m_MM_ask.2.1 11 = .ok (.iload_n 1, 1) := by decide +kernel
theorem e_MM_ask_12 : decode m_MM_ask.2.1 12 = .ok (.if_icmp .eq 30, 3) := by decide +kernel
theorem e_MM_ask_15 : decode m_MM_ask.2.1 15 = .ok (.aload_n 0, 1) := by decide +kernel
theorem e_MM_ask_16 : decode m_MM_ask.2.1 16 = .ok (.aload_n 0, 1) := by decide +kernel
theorem e_MM_ask_17 : decode m_MM_ask.2.1 17 = .ok (.getfield 35, 3) := by decide +kernel
theorem e_MM_ask_20 : decode m_MM_ask.2.1 20 = .ok (.iload_n 1, 1) := by decide +kernel
theorem e_MM_ask_21 : decode m_MM_ask.2.1 21 = .ok (.baload, 1) := by decide +kernel
theorem e_MM_ask_22 : decode m_MM_ask.2.1 22 = .ok (.ifCond .eq 7, 3) := by decide +kernel
theorem e_MM_ask_25 : decode m_MM_ask.2.1 25 = .ok (.iconst 2, 1) := by decide +kernel
theorem e_MM_ask_26 : decode m_MM_ask.2.1 26 = .ok (.goto 4, 3) := by decide +kernel
theorem e_MM_ask_29 : decode m_MM_ask.2.1 29 = .ok (.iconst 1, 1) := by decide +kernel
theorem e_MM_ask_30 : decode m_MM_ask.2.1 30 = .ok (.iload_n 1, 1) := by decide +kernel
theorem e_MM_ask_31 : decode m_MM_ask.2.1 31 = .ok (.iload_n 2, 1) := by decide +kernel
theorem e_MM_ask_32 : decode m_MM_ask.2.1 32 = .ok (.aload_n 0, 1) := by decide +kernel
theorem e_MM_ask_33 : decode m_MM_ask.2.1 33 = .ok (.getfield 41, 3) := by decide +kernel
theorem e_MM_ask_36 : decode m_MM_ask.2.1 36 = .ok (.iload_n 1, 1) := by decide +kernel
theorem e_MM_ask_37 : decode m_MM_ask.2.1 37 = .ok (.iaload, 1) := by decide +kernel
theorem e_MM_ask_38 : decode m_MM_ask.2.1 38 = .ok (.invokevirtual 137, 3) := by decide +kernel
theorem e_MM_ask_41 : decode m_MM_ask.2.1 41 = .ok (.istore_n 3, 1) := by decide +kernel
theorem e_MM_ask_42 : decode m_MM_ask.2.1 42 = .ok (.iinc 2 1, 3) := by decide +kernel
theorem e_MM_ask_45 : decode m_MM_ask.2.1 45 = .ok (.goto (-43), 3) := by decide +kernel
theorem e_MM_ask_48 : decode m_MM_ask.2.1 48 = .ok (.return_, 1) := by decide +kernel
theorem e_MM_issue_0 : decode m_MM_issue.2.1 0 = .ok (.aload_n 0, 1) := by decide +kernel
theorem e_MM_issue_1 : decode m_MM_issue.2.1 1 = .ok (.iconst 0, 1) := by decide +kernel
theorem e_MM_issue_2 : decode m_MM_issue.2.1 2 = .ok (.putfield 123, 3) := by decide +kernel
theorem e_MM_issue_5 : decode m_MM_issue.2.1 5 = .ok (.aload_n 0, 1) := by decide +kernel
theorem e_MM_issue_6 : decode m_MM_issue.2.1 6 = .ok (.iload_n 1, 1) := by decide +kernel
theorem e_MM_issue_7 : decode m_MM_issue.2.1 7 = .ok (.invokevirtual 145, 3) := by decide +kernel
theorem e_MM_issue_10 : decode m_MM_issue.2.1 10 = .ok (.ifCond .eq 10, 3) := by decide +kernel
theorem e_MM_issue_13 : decode m_MM_issue.2.1 13 = .ok (.iload_n 3, 1) := by decide +kernel
theorem e_MM_issue_14 : decode m_MM_issue.2.1 14 = .ok (.invokestatic 149, 3) := by decide +kernel
theorem e_MM_issue_17 : decode m_MM_issue.2.1 17 = .ok (.ifCond .ne 5, 3) := by decide +kernel
theorem e_MM_issue_20 : decode m_MM_issue.2.1 20 = .ok (.iconst (-1), 1) := by decide +kernel
theorem e_MM_issue_21 : decode m_MM_issue.2.1 21 = .ok (.ireturn, 1) := by decide +kernel
theorem e_MM_issue_22 : decode m_MM_issue.2.1 22 = .ok (.aload_n 0, 1) := by decide +kernel
theorem e_MM_issue_23 : decode m_MM_issue.2.1 23 = .ok (.getfield 32, 3) := by decide +kernel
theorem e_MM_issue_26 : decode m_MM_issue.2.1 26 = .ok (.iload_n 1, 1) := by decide +kernel
theorem e_MM_issue_27 : decode m_MM_issue.2.1 27 = .ok (.baload, 1) := by decide +kernel
theorem e_MM_issue_28 : decode m_MM_issue.2.1 28 = .ok (.ifCond .eq 6, 3) := by decide +kernel
theorem e_MM_issue_31 : decode m_MM_issue.2.1 31 = .ok (.bipush (-2), 2) := by decide +kernel
theorem e_MM_issue_33 : decode m_MM_issue.2.1 33 = .ok (.ireturn, 1) := by decide +kernel
theorem e_MM_issue_34 : decode m_MM_issue.2.1 34 = .ok (.aload_n 0, 1) := by decide +kernel
theorem e_MM_issue_35 : decode m_MM_issue.2.1 35 = .ok (.getfield 41, 3) := by decide +kernel
theorem e_MM_issue_38 : decode m_MM_issue.2.1 38 = .ok (.iload_n 1, 1) := by decide +kernel
theorem e_MM_issue_39 : decode m_MM_issue.2.1 39 = .ok (.iload_n 3, 1) := by decide +kernel
theorem e_MM_issue_40 : decode m_MM_issue.2.1 40 = .ok (.iastore, 1) := by decide +kernel
theorem e_MM_issue_41 : decode m_MM_issue.2.1 41 = .ok (.aload_n 0, 1) := by decide +kernel
theorem e_MM_issue_42 : decode m_MM_issue.2.1 42 = .ok (.getfield 35, 3) := by decide +kernel
theorem e_MM_issue_45 : decode m_MM_issue.2.1 45 = .ok (.iload_n 1, 1) := by decide +kernel
theorem e_MM_issue_46 : decode m_MM_issue.2.1 46 = .ok (.iload_n 2, 1) := by decide +kernel
theorem e_MM_issue_47 : decode m_MM_issue.2.1 47 = .ok (.bastore, 1) := by decide +kernel
theorem e_MM_issue_48 : decode m_MM_issue.2.1 48 = .ok (.aload_n 0, 1) := by decide +kernel
theorem e_MM_issue_49 : decode m_MM_issue.2.1 49 = .ok (.getfield 44, 3) := by decide +kernel
theorem e_MM_issue_52 : decode m_MM_issue.2.1 52 = .ok (.iload_n 1, 1) := by decide +kernel
theorem e_MM_issue_53 : decode m_MM_issue.2.1 53 = .ok (.iload 4, 2) := by decide +kernel
theorem e_MM_issue_55 : decode m_MM_issue.2.1 55 = .ok (.iastore, 1) := by decide +kernel
theorem e_MM_issue_56 : decode m_MM_issue.2.1 56 = .ok (.aload_n 0, 1) := by decide +kernel
theorem e_MM_issue_57 : decode m_MM_issue.2.1 57 = .ok (.getfield 47, 3) := by decide +kernel
theorem e_MM_issue_60 : decode m_MM_issue.2.1 60 = .ok (.iload_n 1, 1) := by decide +kernel
theorem e_MM_issue_61 : decode m_MM_issue.2.1 61 = .ok (.dup2, 1) := by decide +kernel
theorem e_MM_issue_62 : decode m_MM_issue.2.1 62 = .ok (.iaload, 1) := by decide +kernel
theorem e_MM_issue_63 : decode m_MM_issue.2.1 63 = .ok (.iconst 1, 1) := by decide +kernel
theorem e_MM_issue_64 : decode m_MM_issue.2.1 64 = .ok (.iadd, 1) := by decide +kernel
theorem e_MM_issue_65 : decode m_MM_issue.2.1 65 = .ok (.iastore, 1) := by decide +kernel
theorem e_MM_issue_66 : decode m_MM_issue.2.1 66 = .ok (.aload_n 0, 1) := by decide +kernel
theorem e_MM_issue_67 : decode m_MM_issue.2.1 67 = .ok (.getfield 50, 3) := by decide +kernel
theorem e_MM_issue_70 : decode m_MM_issue.2.1 70 = .ok (.iload_n 1, 1) := by decide +kernel
theorem e_MM_issue_71 : decode m_MM_issue.2.1 71 = .ok (.iconst 0, 1) := by decide +kernel
theorem e_MM_issue_72 : decode m_MM_issue.2.1 72 = .ok (.iastore, 1) := by decide +kernel
theorem e_MM_issue_73 : decode m_MM_issue.2.1 73 = .ok (.aload_n 0, 1) := by decide +kernel
theorem e_MM_issue_74 : decode m_MM_issue.2.1 74 = .ok (.getfield 38, 3) := by decide +kernel
theorem e_MM_issue_77 : decode m_MM_issue.2.1 77 = .ok (.iload_n 1, 1) := by decide +kernel
theorem e_MM_issue_78 : decode m_MM_issue.2.1 78 = .ok (.iconst 0, 1) := by decide +kernel
theorem e_MM_issue_79 : decode m_MM_issue.2.1 79 = .ok (.bastore, 1) := by decide +kernel
theorem e_MM_issue_80 : decode m_MM_issue.2.1 80 = .ok (.aload_n 0, 1) := by decide +kernel
theorem e_MM_issue_81 : decode m_MM_issue.2.1 81 = .ok (.iload_n 1, 1) := by decide +kernel
theorem e_MM_issue_82 : decode m_MM_issue.2.1 82 = .ok (.invokevirtual 152, 3) := by decide +kernel
theorem e_MM_issue_85 : decode m_MM_issue.2.1 85 = .ok (.ifCond .eq 10, 3) := by decide +kernel
theorem e_MM_issue_88 : decode m_MM_issue.2.1 88 = .ok (.aload_n 0, 1) := by decide +kernel
theorem e_MM_issue_89 : decode m_MM_issue.2.1 89 = .ok (.iload_n 1, 1) := by decide +kernel
theorem e_MM_issue_90 : decode m_MM_issue.2.1 90 = .ok (.invokevirtual 155, 3) := by decide +kernel
theorem e_MM_issue_93 : decode m_MM_issue.2.1 93 = .ok (.iconst 1, 1) := by decide +kernel
theorem e_MM_issue_94 : decode m_MM_issue.2.1 94 = .ok (.ireturn, 1) := by decide +kernel
theorem e_MM_issue_95 : decode m_MM_issue.2.1 95 = .ok (.aload_n 0, 1) := by decide +kernel
theorem e_MM_issue_96 : decode m_MM_issue.2.1 96 = .ok (.getfield 32, 3) := by decide +kernel
theorem e_MM_issue_99 : decode m_MM_issue.2.1 99 = .ok (.iload_n 1, 1) := by decide +kernel
theorem e_MM_issue_100 : decode m_MM_issue.2.1 100 = .ok (.iconst 1, 1) := by decide +kernel
theorem e_MM_issue_101 : decode m_MM_issue.2.1 101 = .ok (.bastore, 1) := by decide +kernel
theorem e_MM_issue_102 : decode m_MM_issue.2.1 102 = .ok (.aload_n 0, 1) := by decide +kernel
theorem e_MM_issue_103 : decode m_MM_issue.2.1 103 = .ok (.getfield 53, 3) := by decide +kernel
theorem e_MM_issue_106 : decode m_MM_issue.2.1 106 = .ok (.iload_n 1, 1) := by decide +kernel
theorem e_MM_issue_107 : decode m_MM_issue.2.1 107 = .ok (.aload_n 0, 1) := by decide +kernel
theorem e_MM_issue_108 : decode m_MM_issue.2.1 108 = .ok (.getfield 158, 3) := by decide +kernel
theorem e_MM_issue_111 : decode m_MM_issue.2.1 111 = .ok (.aload_n 0, 1) := by decide +kernel
theorem e_MM_issue_112 : decode m_MM_issue.2.1 112 = .ok (.getfield 120, 3) := by decide +kernel
theorem e_MM_issue_115 : decode m_MM_issue.2.1 115 = .ok (.iadd, 1) := by decide +kernel
theorem e_MM_issue_116 : decode m_MM_issue.2.1 116 = .ok (.iastore, 1) := by decide +kernel
theorem e_MM_issue_117 : decode m_MM_issue.2.1 117 = .ok (.aload_n 0, 1) := by decide +kernel
theorem e_MM_issue_118 : decode m_MM_issue.2.1 118 = .ok (.iload_n 1, 1) := by decide +kernel
theorem e_MM_issue_119 : decode m_MM_issue.2.1 119 = .ok (.invokevirtual 161, 3) := by decide +kernel
theorem e_MM_issue_122 : decode m_MM_issue.2.1 122 = .ok (.iconst 0, 1) := by decide +kernel
theorem e_MM_issue_123 : decode m_MM_issue.2.1 123 = .ok (.ireturn, 1) := by decide +kernel
theorem e_MM_tick_0 : decode m_MM_tick.2.1 0 = .ok (.aload_n 0, 1) := by decide +kernel
theorem e_MM_tick_1 : decode m_MM_tick.2.1 1 = .ok (.iconst 0, 1) := by decide +kernel
theorem e_MM_tick_2 : decode m_MM_tick.2.1 2 = .ok (.putfield 123, 3) := by decide +kernel
theorem e_MM_tick_5 : decode m_MM_tick.2.1 5 = .ok (.iload_n 1, 1) := by decide +kernel
theorem e_MM_tick_6 : decode m_MM_tick.2.1 6 = .ok (.iconst 1, 1) := by decide +kernel
theorem e_MM_tick_7 : decode m_MM_tick.2.1 7 = .ok (.if_icmp .lt 9, 3) := by decide +kernel
theorem e_MM_tick_10 : decode m_MM_tick.2.1 10 = .ok (.iload_n 1, 1) := by decide +kernel
theorem e_MM_tick_11 : decode m_MM_tick.2.1 11 = .ok (.bipush 50, 2) := by decide +kernel
theorem e_MM_tick_13 : decode m_MM_tick.2.1 13 = .ok (.if_icmp .le 5, 3) := by decide +kernel
theorem e_MM_tick_16 : decode m_MM_tick.2.1 16 = .ok (.iconst (-1), 1) := by decide +kernel
theorem e_MM_tick_17 : decode m_MM_tick.2.1 17 = .ok (.ireturn, 1) := by decide +kernel
theorem e_MM_tick_18 : decode m_MM_tick.2.1 18 = .ok (.iconst 0, 1) := by decide +kernel
theorem e_MM_tick_19 : decode m_MM_tick.2.1 19 = .ok (.istore_n 2, 1) := by decide +kernel
theorem e_MM_tick_20 : decode m_MM_tick.2.1 20 = .ok (.iload_n 2, 1) := by decide +kernel
theorem e_MM_tick_21 : decode m_MM_tick.2.1 21 = .ok (.iload_n 1, 1) := by decide +kernel
theorem e_MM_tick_22 : decode m_MM_tick.2.1 22 = .ok (.if_icmp .ge 71, 3) := by decide +kernel
theorem e_MM_tick_25 : decode m_MM_tick.2.1 25 = .ok (.aload_n 0, 1) := by decide +kernel
theorem e_MM_tick_26 : decode m_MM_tick.2.1 26 = .ok (.dup, 1) := by decide +kernel
theorem e_MM_tick_27 : decode m_MM_tick.2.1 27 = .ok (.getfield 158, 3) := by decide +kernel
theorem e_MM_tick_30 : decode m_MM_tick.2.1 30 = .ok (.iconst 1, 1) := by decide +kernel
theorem e_MM_tick_31 : decode m_MM_tick.2.1 31 = .ok (.iadd, 1) := by decide +kernel
theorem e_MM_tick_32 : decode m_MM_tick.2.1 32 = .ok (.putfield 158, 3) := by decide +kernel
theorem e_MM_tick_35 : decode m_MM_tick.2.1 35 = .ok (.iconst 0, 1) := by decide +kernel
theorem e_MM_tick_36 : decode m_MM_tick.2.1 36 = .ok (.istore_n 3, 1) := by decide +kernel
theorem e_MM_tick_37 : decode m_MM_tick.2.1 37 = .ok (.iload_n 3, 1) := by decide +kernel
theorem e_MM_tick_38 : decode m_MM_tick.2.1 38 = .ok (.aload_n 0, 1) := by decide +kernel
theorem e_MM_tick_39 : decode m_MM_tick.2.1 39 = .ok (.getfield 113, 3) := by decide +kernel
theorem e_MM_tick_42 : decode m_MM_tick.2.1 42 = .ok (.if_icmp .ge 45, 3) := by decide +kernel
theorem e_MM_tick_45 : decode m_MM_tick.2.1 45 = .ok (.aload_n 0, 1) := by decide +kernel
theorem e_MM_tick_46 : decode m_MM_tick.2.1 46 = .ok (.getfield 32, 3) := by decide +kernel
theorem e_MM_tick_49 : decode m_MM_tick.2.1 49 = .ok (.iload_n 3, 1) := by decide +kernel
theorem e_MM_tick_50 : decode m_MM_tick.2.1 50 = .ok (.baload, 1) := by decide +kernel
theorem e_MM_tick_51 : decode m_MM_tick.2.1 51 = .ok (.ifCond .eq 30, 3) := by decide +kernel
theorem e_MM_tick_54 : decode m_MM_tick.2.1 54 = .ok (.aload_n 0, 1) := by decide +kernel
theorem e_MM_tick_55 : decode m_MM_tick.2.1 55 = .ok (.getfield 38, 3) := by decide +kernel
theorem e_MM_tick_58 : decode m_MM_tick.2.1 58 = .ok (.iload_n 3, 1) := by decide +kernel
theorem e_MM_tick_59 : decode m_MM_tick.2.1 59 = .ok (.baload, 1) := by decide +kernel
theorem e_MM_tick_60 : decode m_MM_tick.2.1 60 = .ok (.ifCond .ne 21, 3) := by decide +kernel
theorem e_MM_tick_63 : decode m_MM_tick.2.1 63 = .ok (.aload_n 0, 1) := by decide +kernel
theorem e_MM_tick_64 : decode m_MM_tick.2.1 64 = .ok (.getfield 53, 3) := by decide +kernel
theorem e_MM_tick_67 : decode m_MM_tick.2.1 67 = .ok (.iload_n 3, 1) := by decide +kernel
theorem e_MM_tick_68 : decode m_MM_tick.2.1 68 = .ok (.iaload, 1) := by decide +kernel
theorem e_MM_tick_69 : decode m_MM_tick.2.1 69 = .ok (.aload_n 0, 1) := by decide +kernel
theorem e_MM_tick_70 : decode m_MM_tick.2.1 70 = .ok (.getfield 158, 3) := by decide +kernel
theorem e_MM_tick_73 : decode m_MM_tick.2.1 73 = .ok (.if_icmp .ne 8, 3) := by decide +kernel
theorem e_MM_tick_76 : decode m_MM_tick.2.1 76 = .ok (.aload_n 0, 1) := by decide +kernel
theorem e_MM_tick_77 : decode m_MM_tick.2.1 77 = .ok (.iload_n 3, 1) := by decide +kernel
theorem e_MM_tick_78 : decode m_MM_tick.2.1 78 = .ok (.invokevirtual 164, 3) := by decide +kernel
theorem e_MM_tick_81 : decode m_MM_tick.2.1 81 = .ok (.iinc 3 1, 3) := by decide +kernel
theorem e_MM_tick_84 : decode m_MM_tick.2.1 84 = .ok (.goto (-47), 3) := by decide +kernel
theorem e_MM_tick_87 : decode m_MM_tick.2.1 87 = .ok (.iinc 2 1, 3) := by decide +kernel
theorem e_MM_tick_90 : decode m_MM_tick.2.1 90 = .ok (.goto (-70), 3) := by decide +kernel
theorem e_MM_tick_93 : decode m_MM_tick.2.1 93 = .ok (.aload_n 0, 1) := by decide +kernel
theorem e_MM_tick_94 : decode m_MM_tick.2.1 94 = .ok (.getfield 158, 3) := by decide +kernel
theorem e_MM_tick_97 : decode m_MM_tick.2.1 97 = .ok (.ireturn, 1) := by decide +kernel
theorem e_MM_repeat_0 : decode m_MM_repeat.2.1 0 = .ok (.aload_n 0, 1) := by decide +kernel
theorem e_MM_repeat_1 : decode m_MM_repeat.2.1 1 = .ok (.getfield 50, 3) := by decide +kernel
theorem e_MM_repeat_4 : decode m_MM_repeat.2.1 4 = .ok (.iload_n 1, 1) := by decide +kernel
theorem e_MM_repeat_5 : decode m_MM_repeat.2.1 5 = .ok (.iaload, 1) := by decide +kernel
theorem e_MM_repeat_6 : decode m_MM_repeat.2.1 6 = .ok (.aload_n 0, 1) := by decide +kernel
theorem e_MM_repeat_7 : decode m_MM_repeat.2.1 7 = .ok (.getfield 117, 3) := by decide +kernel
theorem e_MM_repeat_10 : decode m_MM_repeat.2.1 10 = .ok (.if_icmp .ge 34, 3) := by decide +kernel
theorem e_MM_repeat_13 : decode m_MM_repeat.2.1 13 = .ok (.aload_n 0, 1) := by decide +kernel
theorem e_MM_repeat_14 : decode m_MM_repeat.2.1 14 = .ok (.getfield 50, 3) := by decide +kernel
theorem e_MM_repeat_17 : decode m_MM_repeat.2.1 17 = .ok (.iload_n 1, 1) := by decide +kernel
theorem e_MM_repeat_18 : decode m_MM_repeat.2.1 18 = .ok (.dup2, 1) := by decide +kernel
theorem e_MM_repeat_19 : decode m_MM_repeat.2.1 19 = .ok (.iaload, 1) := by decide +kernel
theorem e_MM_repeat_20 : decode m_MM_repeat.2.1 20 = .ok (.iconst 1, 1) := by decide +kernel
theorem e_MM_repeat_21 : decode m_MM_repeat.2.1 21 = .ok (.iadd, 1) := by decide +kernel
theorem e_MM_repeat_22 : decode m_MM_repeat.2.1 22 = .ok (.iastore, 1) := by decide +kernel
theorem e_MM_repeat_23 : decode m_MM_repeat.2.1 23 = .ok (.aload_n 0, 1) := by decide +kernel
theorem e_MM_repeat_24 : decode m_MM_repeat.2.1 24 = .ok (.getfield 53, 3) := by decide +kernel
theorem e_MM_repeat_27 : decode m_MM_repeat.2.1 27 = .ok (.iload_n 1, 1) := by decide +kernel
theorem e_MM_repeat_28 : decode m_MM_repeat.2.1 28 = .ok (.aload_n 0, 1) := by decide +kernel
theorem e_MM_repeat_29 : decode m_MM_repeat.2.1 29 = .ok (.getfield 158, 3) := by decide +kernel
theorem e_MM_repeat_32 : decode m_MM_repeat.2.1 32 = .ok (.aload_n 0, 1) := by decide +kernel
theorem e_MM_repeat_33 : decode m_MM_repeat.2.1 33 = .ok (.getfield 120, 3) := by decide +kernel
theorem e_MM_repeat_36 : decode m_MM_repeat.2.1 36 = .ok (.iadd, 1) := by decide +kernel
theorem e_MM_repeat_37 : decode m_MM_repeat.2.1 37 = .ok (.iastore, 1) := by decide +kernel
theorem e_MM_repeat_38 : decode m_MM_repeat.2.1 38 = .ok (.aload_n 0, 1) := by decide +kernel
theorem e_MM_repeat_39 : decode m_MM_repeat.2.1 39 = .ok (.iload_n 1, 1) := by decide +kernel
theorem e_MM_repeat_40 : decode m_MM_repeat.2.1 40 = .ok (.invokevirtual 161, 3) := by decide +kernel
theorem e_MM_repeat_43 : decode m_MM_repeat.2.1 43 = .ok (.return_, 1) := by decide +kernel
theorem e_MM_repeat_44 : decode m_MM_repeat.2.1 44 = .ok (.aload_n 0, 1) := by decide +kernel
theorem e_MM_repeat_45 : decode m_MM_repeat.2.1 45 = .ok (.getfield 38, 3) := by decide +kernel
theorem e_MM_repeat_48 : decode m_MM_repeat.2.1 48 = .ok (.iload_n 1, 1) := by decide +kernel
theorem e_MM_repeat_49 : decode m_MM_repeat.2.1 49 = .ok (.iconst 1, 1) := by decide +kernel
theorem e_MM_repeat_50 : decode m_MM_repeat.2.1 50 = .ok (.bastore, 1) := by decide +kernel
theorem e_MM_repeat_51 : decode m_MM_repeat.2.1 51 = .ok (.aload_n 0, 1) := by decide +kernel
theorem e_MM_repeat_52 : decode m_MM_repeat.2.1 52 = .ok (.iconst 4, 1) := by decide +kernel
theorem e_MM_repeat_53 : decode m_MM_repeat.2.1 53 = .ok (.iload_n 1, 1) := by decide +kernel
theorem e_MM_repeat_54 : decode m_MM_repeat.2.1 54 = .ok (.aload_n 0, 1) := by decide +kernel
theorem e_MM_repeat_55 : decode m_MM_repeat.2.1 55 = .ok (.getfield 113, 3) := by decide +kernel
theorem e_MM_repeat_58 : decode m_MM_repeat.2.1 58 = .ok (.aload_n 0, 1) := by decide +kernel
theorem e_MM_repeat_59 : decode m_MM_repeat.2.1 59 = .ok (.getfield 41, 3) := by decide +kernel
theorem e_MM_repeat_62 : decode m_MM_repeat.2.1 62 = .ok (.iload_n 1, 1) := by decide +kernel
theorem e_MM_repeat_63 : decode m_MM_repeat.2.1 63 = .ok (.iaload, 1) := by decide +kernel
theorem e_MM_repeat_64 : decode m_MM_repeat.2.1 64 = .ok (.invokevirtual 137, 3) := by decide +kernel
theorem e_MM_repeat_67 : decode m_MM_repeat.2.1 67 = .ok (.istore_n 2, 1) := by decide +kernel
theorem e_MM_repeat_68 : decode m_MM_repeat.2.1 68 = .ok (.aload_n 0, 1) := by decide +kernel
theorem e_MM_repeat_69 : decode m_MM_repeat.2.1 69 = .ok (.getfield 104, 3) := by decide +kernel
theorem e_MM_repeat_72 : decode m_MM_repeat.2.1 72 = .ok (.iload_n 2, 1) := by decide +kernel
theorem e_MM_repeat_73 : decode m_MM_repeat.2.1 73 = .ok (.aload_n 0, 1) := by decide +kernel
theorem e_MM_repeat_74 : decode m_MM_repeat.2.1 74 = .ok (.getfield 47, 3) := by decide +kernel
theorem e_MM_repeat_77 : decode m_MM_repeat.2.1 77 = .ok (.iload_n 1, 1) := by decide +kernel
theorem e_MM_repeat_78 : decode m_MM_repeat.2.1 78 = .ok (.iaload, 1) := by decide +kernel
theorem e_MM_repeat_79 : decode m_MM_repeat.2.1 79 = .ok (.iastore, 1) := by decide +kernel
theorem e_MM_repeat_80 : decode m_MM_repeat.2.1 80 = .ok (.aload_n 0, 1) := by decide +kernel
theorem e_MM_repeat_81 : decode m_MM_repeat.2.1 81 = .ok (.getfield 110, 3) := by decide +kernel
theorem e_MM_repeat_84 : decode m_MM_repeat.2.1 84 = .ok (.iload_n 2, 1) := by decide +kernel
theorem e_MM_repeat_85 : decode m_MM_repeat.2.1 85 = .ok (.aload_n 0, 1) := by decide +kernel
theorem e_MM_repeat_86 : decode m_MM_repeat.2.1 86 = .ok (.getfield 35, 3) := by decide +kernel
theorem e_MM_repeat_89 : decode m_MM_repeat.2.1 89 = .ok (.iload_n 1, 1) := by decide +kernel
theorem e_MM_repeat_90 : decode m_MM_repeat.2.1 90 = .ok (.baload, 1) := by decide +kernel
theorem e_MM_repeat_91 : decode m_MM_repeat.2.1 91 = .ok (.bastore, 1) := by decide +kernel
theorem e_MM_repeat_92 : decode m_MM_repeat.2.1 92 = .ok (.return_, 1) := by decide +kernel
theorem e_MM_tellAll_0 : decode m_MM_tellAll.2.1 0 = .ok (.iconst 2, 1) := by decide +kernel
theorem e_MM_tellAll_1 : decode m_MM_tellAll.2.1 1 = .ok (.aload_n 0, 1) := by decide +kernel
theorem e_MM_tellAll_2 : decode m_MM_tellAll.2.1 2 = .ok (.getfield 113, 3) := by decide +kernel
theorem e_MM_tellAll_5 : decode m_MM_tellAll.2.1 5 = .ok (.imul, 1) := by decide +kernel
theorem e_MM_tellAll_6 : decode m_MM_tellAll.2.1 6 = .ok (.iload_n 1, 1) := by decide +kernel
theorem e_MM_tellAll_7 : decode m_MM_tellAll.2.1 7 = .ok (.iadd, 1) := by decide +kernel
theorem e_MM_tellAll_8 : decode m_MM_tellAll.2.1 8 = .ok (.istore_n 2, 1) := by decide +kernel
theorem e_MM_tellAll_9 : decode m_MM_tellAll.2.1 9 = .ok (.iconst 0, 1) := by decide +kernel
theorem e_MM_tellAll_10 : decode m_MM_tellAll.2.1 10 = .ok (.istore_n 3, 1) := by decide +kernel
theorem e_MM_tellAll_11 : decode m_MM_tellAll.2.1 11 = .ok (.iload_n 3, 1) := by decide +kernel
theorem e_MM_tellAll_12 : decode m_MM_tellAll.2.1 12 = .ok (.aload_n 0, 1) := by decide +kernel
theorem e_MM_tellAll_13 : decode m_MM_tellAll.2.1 13 = .ok (.getfield 113, 3) := by decide +kernel
theorem e_MM_tellAll_16 : decode m_MM_tellAll.2.1 16 = .ok (.if_icmp .ge 61, 3) := by decide +kernel
theorem e_MM_tellAll_19 : decode m_MM_tellAll.2.1 19 = .ok (.aload_n 0, 1) := by decide +kernel
theorem e_MM_tellAll_20 : decode m_MM_tellAll.2.1 20 = .ok (.iconst 5, 1) := by decide +kernel
theorem e_MM_tellAll_21 : decode m_MM_tellAll.2.1 21 = .ok (.aload_n 0, 1) := by decide +kernel
theorem e_MM_tellAll_22 : decode m_MM_tellAll.2.1 22 = .ok (.getfield 113, 3) := by decide +kernel
theorem e_MM_tellAll_25 : decode m_MM_tellAll.2.1 25 = .ok (.iload_n 3, 1) := by decide +kernel
theorem e_MM_tellAll_26 : decode m_MM_tellAll.2.1 26 = .ok (.iload_n 1, 1) := by decide +kernel
theorem e_MM_tellAll_27 : decode m_MM_tellAll.2.1 27 = .ok (.invokevirtual 137, 3) := by decide +kernel
theorem e_MM_tellAll_30 : decode m_MM_tellAll.2.1 30 = .ok (.istore 4, 2) := by decide +kernel
theorem e_MM_tellAll_32 : decode m_MM_tellAll.2.1 32 = .ok (.aload_n 0, 1) := by decide +kernel
theorem e_MM_tellAll_33 : decode m_MM_tellAll.2.1 33 = .ok (.getfield 104, 3) := by decide +kernel
theorem e_MM_tellAll_36 : decode m_MM_tellAll.2.1 36 = .ok (.iload 4, 2) := by decide +kernel
theorem e_MM_tellAll_38 : decode m_MM_tellAll.2.1 38 = .ok (.aload_n 0, 1) := by decide +kernel
theorem e_MM_tellAll_39 : decode m_MM_tellAll.2.1 39 = .ok (.getfield 29, 3) := by decide +kernel
theorem e_MM_tellAll_42 : decode m_MM_tellAll.2.1 42 = .ok (.iload_n 2, 1) := by decide +kernel
theorem e_MM_tellAll_43 : decode m_MM_tellAll.2.1 43 = .ok (.iaload, 1) := by decide +kernel
theorem e_MM_tellAll_44 : decode m_MM_tellAll.2.1 44 = .ok (.iastore, 1) := by decide +kernel
theorem e_MM_tellAll_45 : decode m_MM_tellAll.2.1 45 = .ok (.aload_n 0, 1) := by decide +kernel
theorem e_MM_tellAll_46 : decode m_MM_tellAll.2.1 46 = .ok (.getfield 107, 3) := by decide +kernel
theorem e_MM_tellAll_49 : decode m_MM_tellAll.2.1 49 = .ok (.iload 4, 2) := by decide +kernel
theorem e_MM_tellAll_51 : decode m_MM_tellAll.2.1 51 = .ok (.aload_n 0, 1) := by decide +kernel
theorem e_MM_tellAll_52 : decode m_MM_tellAll.2.1 52 = .ok (.getfield 23, 3) := by decide +kernel
theorem e_MM_tellAll_55 : decode m_MM_tellAll.2.1 55 = .ok (.iload_n 2, 1) := by decide +kernel
theorem e_MM_tellAll_56 : decode m_MM_tellAll.2.1 56 = .ok (.iaload, 1) := by decide +kernel
theorem e_MM_tellAll_57 : decode m_MM_tellAll.2.1 57 = .ok (.iastore, 1) := by decide +kernel
theorem e_MM_tellAll_58 : decode m_MM_tellAll.2.1 58 = .ok (.aload_n 0, 1) := by decide +kernel
theorem e_MM_tellAll_59 : decode m_MM_tellAll.2.1 59 = .ok (.getfield 110, 3) := by decide +kernel
theorem e_MM_tellAll_62 : decode m_MM_tellAll.2.1 62 = .ok (.iload 4, 2) := by decide +kernel
theorem e_MM_tellAll_64 : decode m_MM_tellAll.2.1 64 = .ok (.aload_n 0, 1) := by decide +kernel
theorem e_MM_tellAll_65 : decode m_MM_tellAll.2.1 65 = .ok (.getfield 26, 3) := by decide +kernel
theorem e_MM_tellAll_68 : decode m_MM_tellAll.2.1 68 = .ok (.iload_n 2, 1) := by decide +kernel
theorem e_MM_tellAll_69 : decode m_MM_tellAll.2.1 69 = .ok (.baload, 1) := by decide +kernel
theorem e_MM_tellAll_70 : decode m_MM_tellAll.2.1 70 = .ok (.bastore, 1) := by decide +kernel
theorem e_MM_tellAll_71 : decode m_MM_tellAll.2.1 71 = .ok (.iinc 3 1, 3) := by decide +kernel
theorem e_MM_tellAll_74 : decode m_MM_tellAll.2.1 74 = .ok (.goto (-63), 3) := by decide +kernel
theorem e_MM_tellAll_77 : decode m_MM_tellAll.2.1 77 = .ok (.return_, 1) := by decide +kernel
theorem e_MM_takeOut_0 : decode m_MM_takeOut.2.1 0 = .ok (.aload_n 0, 1) := by decide +kernel
theorem e_MM_takeOut_1 : decode m_MM_takeOut.2.1 1 = .ok (.getfield 71, 3) := by decide +kernel
theorem e_MM_takeOut_4 : decode m_MM_takeOut.2.1 4 = .ok (.iload_n 1, 1) := by decide +kernel
theorem e_MM_takeOut_5 : decode m_MM_takeOut.2.1 5 = .ok (.dup2, 1) := by decide +kernel
theorem e_MM_takeOut_6 : decode m_MM_takeOut.2.1 6 = .ok (.iaload, 1) := by decide +kernel
theorem e_MM_takeOut_7 : decode m_MM_takeOut.2.1 7 = .ok (.iconst 1, 1) := by decide +kernel
theorem e_MM_takeOut_8 : decode m_MM_takeOut.2.1 8 = .ok (.isub, 1) := by decide +kernel
theorem e_MM_takeOut_9 : decode m_MM_takeOut.2.1 9 = .ok (.iastore, 1) := by decide +kernel
theorem e_MM_takeOut_10 : decode m_MM_takeOut.2.1 10 = .ok (.bipush 20, 2) := by decide +kernel
theorem e_MM_takeOut_12 : decode m_MM_takeOut.2.1 12 = .ok (.iload_n 1, 1) := by decide +kernel
theorem e_MM_takeOut_13 : decode m_MM_takeOut.2.1 13 = .ok (.imul, 1) := by decide +kernel
theorem e_MM_takeOut_14 : decode m_MM_takeOut.2.1 14 = .ok (.iload_n 2, 1) := by decide +kernel
theorem e_MM_takeOut_15 : decode m_MM_takeOut.2.1 15 = .ok (.iadd, 1) := by decide +kernel
theorem e_MM_takeOut_16 : decode m_MM_takeOut.2.1 16 = .ok (.istore_n 3, 1) := by decide +kernel
theorem e_MM_takeOut_17 : decode m_MM_takeOut.2.1 17 = .ok (.iload_n 3, 1) := by decide +kernel
theorem e_MM_takeOut_18 : decode m_MM_takeOut.2.1 18 = .ok (.bipush 20, 2) := by decide +kernel
theorem e_MM_takeOut_20 : decode m_MM_takeOut.2.1 20 = .ok (.iload_n 1, 1) := by decide +kernel
theorem e_MM_takeOut_21 : decode m_MM_takeOut.2.1 21 = .ok (.imul, 1) := by decide +kernel
theorem e_MM_takeOut_22 : decode m_MM_takeOut.2.1 22 = .ok (.aload_n 0, 1) := by decide +kernel
theorem e_MM_takeOut_23 : decode m_MM_takeOut.2.1 23 = .ok (.getfield 71, 3) := by decide +kernel
theorem e_MM_takeOut_26 : decode m_MM_takeOut.2.1 26 = .ok (.iload_n 1, 1) := by decide +kernel
theorem e_MM_takeOut_27 : decode m_MM_takeOut.2.1 27 = .ok (.iaload, 1) := by decide +kernel
theorem e_MM_takeOut_28 : decode m_MM_takeOut.2.1 28 = .ok (.iadd, 1) := by decide +kernel
theorem e_MM_takeOut_29 : decode m_MM_takeOut.2.1 29 = .ok (.if_icmp .ge 51, 3) := by decide +kernel
theorem e_MM_takeOut_32 : decode m_MM_takeOut.2.1 32 = .ok (.aload_n 0, 1) := by decide +kernel
theorem e_MM_takeOut_33 : decode m_MM_takeOut.2.1 33 = .ok (.getfield 62, 3) := by decide +kernel
theorem e_MM_takeOut_36 : decode m_MM_takeOut.2.1 36 = .ok (.iload_n 3, 1) := by decide +kernel
theorem e_MM_takeOut_37 : decode m_MM_takeOut.2.1 37 = .ok (.aload_n 0, 1) := by decide +kernel
theorem e_MM_takeOut_38 : decode m_MM_takeOut.2.1 38 = .ok (.getfield 62, 3) := by decide +kernel
theorem e_MM_takeOut_41 : decode m_MM_takeOut.2.1 41 = .ok (.iload_n 3, 1) := by decide +kernel
theorem e_MM_takeOut_42 : decode m_MM_takeOut.2.1 42 = .ok (.iconst 1, 1) := by decide +kernel
theorem e_MM_takeOut_43 : decode m_MM_takeOut.2.1 43 = .ok (.iadd, 1) := by decide +kernel
theorem e_MM_takeOut_44 : decode m_MM_takeOut.2.1 44 = .ok (.iaload, 1) := by decide +kernel
theorem e_MM_takeOut_45 : decode m_MM_takeOut.2.1 45 = .ok (.iastore, 1) := by decide +kernel
theorem e_MM_takeOut_46 : decode m_MM_takeOut.2.1 46 = .ok (.aload_n 0, 1) := by decide +kernel
theorem e_MM_takeOut_47 : decode m_MM_takeOut.2.1 47 = .ok (.getfield 65, 3) := by decide +kernel
theorem e_MM_takeOut_50 : decode m_MM_takeOut.2.1 50 = .ok (.iload_n 3, 1) := by decide +kernel
theorem e_MM_takeOut_51 : decode m_MM_takeOut.2.1 51 = .ok (.aload_n 0, 1) := by decide +kernel
theorem e_MM_takeOut_52 : decode m_MM_takeOut.2.1 52 = .ok (.getfield 65, 3) := by decide +kernel
theorem e_MM_takeOut_55 : decode m_MM_takeOut.2.1 55 = .ok (.iload_n 3, 1) := by decide +kernel
theorem e_MM_takeOut_56 : decode m_MM_takeOut.2.1 56 = .ok (.iconst 1, 1) := by decide +kernel
theorem e_MM_takeOut_57 : decode m_MM_takeOut.2.1 57 = .ok (.iadd, 1) := by decide +kernel
theorem e_MM_takeOut_58 : decode m_MM_takeOut.2.1 58 = .ok (.iaload, 1) := by decide +kernel
theorem e_MM_takeOut_59 : decode m_MM_takeOut.2.1 59 = .ok (.iastore, 1) := by decide +kernel
theorem e_MM_takeOut_60 : decode m_MM_takeOut.2.1 60 = .ok (.aload_n 0, 1) := by decide +kernel
theorem e_MM_takeOut_61 : decode m_MM_takeOut.2.1 61 = .ok (.getfield 68, 3) := by decide +kernel
theorem e_MM_takeOut_64 : decode m_MM_takeOut.2.1 64 = .ok (.iload_n 3, 1) := by decide +kernel
theorem e_MM_takeOut_65 : decode m_MM_takeOut.2.1 65 = .ok (.aload_n 0, 1) := by decide +kernel
theorem e_MM_takeOut_66 : decode m_MM_takeOut.2.1 66 = .ok (.getfield 68, 3) := by decide +kernel
theorem e_MM_takeOut_69 : decode m_MM_takeOut.2.1 69 = .ok (.iload_n 3, 1) := by decide +kernel
theorem e_MM_takeOut_70 : decode m_MM_takeOut.2.1 70 = .ok (.iconst 1, 1) := by decide +kernel
theorem e_MM_takeOut_71 : decode m_MM_takeOut.2.1 71 = .ok (.iadd, 1) := by decide +kernel
theorem e_MM_takeOut_72 : decode m_MM_takeOut.2.1 72 = .ok (.baload, 1) := by decide +kernel
theorem e_MM_takeOut_73 : decode m_MM_takeOut.2.1 73 = .ok (.bastore, 1) := by decide +kernel
theorem e_MM_takeOut_74 : decode m_MM_takeOut.2.1 74 = .ok (.iinc 3 1, 3) := by decide +kernel
theorem e_MM_takeOut_77 : decode m_MM_takeOut.2.1 77 = .ok (.goto (-60), 3) := by decide +kernel
theorem e_MM_takeOut_80 : decode m_MM_takeOut.2.1 80 = .ok (.return_, 1) := by decide +kernel
theorem e_MM_activate_0 : decode m_MM_activate.2.1 0 = .ok (.aload_n 0, 1) := by decide +kernel
theorem e_MM_activate_1 : decode m_MM_activate.2.1 1 = .ok (.getfield 71, 3) := by decide +kernel
theorem e_MM_activate_4 : decode m_MM_activate.2.1 4 = .ok (.iload_n 1, 1) := by decide +kernel
theorem e_MM_activate_5 : decode m_MM_activate.2.1 5 = .ok (.iaload, 1) := by decide +kernel
theorem e_MM_activate_6 : decode m_MM_activate.2.1 6 = .ok (.ifCond .ne 4, 3) := by decide +kernel
theorem e_MM_activate_9 : decode m_MM_activate.2.1 9 = .ok (.return_, 1) := by decide +kernel
theorem e_MM_activate_10 : decode m_MM_activate.2.1 10 = .ok (.iconst 2, 1) := by decide +kernel
theorem e_MM_activate_11 : decode m_MM_activate.2.1 11 = .ok (.aload_n 0, 1) := by decide +kernel
theorem e_MM_activate_12 : decode m_MM_activate.2.1 12 = .ok (.getfield 113, 3) := by decide +kernel
theorem e_MM_activate_15 : decode m_MM_activate.2.1 15 = .ok (.imul, 1) := by decide +kernel
theorem e_MM_activate_16 : decode m_MM_activate.2.1 16 = .ok (.iload_n 1, 1) := by decide +kernel
theorem e_MM_activate_17 : decode m_MM_activate.2.1 17 = .ok (.iadd, 1) := by decide +kernel
theorem e_MM_activate_18 : decode m_MM_activate.2.1 18 = .ok (.istore_n 2, 1) := by decide +kernel
theorem e_MM_activate_19 : decode m_MM_activate.2.1 19 = .ok (.aload_n 0, 1) := by decide +kernel
theorem e_MM_activate_20 : decode m_MM_activate.2.1 20 = .ok (.getfield 23, 3) := by decide +kernel
theorem e_MM_activate_23 : decode m_MM_activate.2.1 23 = .ok (.iload_n 2, 1) := by decide +kernel
theorem e_MM_activate_24 : decode m_MM_activate.2.1 24 = .ok (.aload_n 0, 1) := by decide +kernel
theorem e_MM_activate_25 : decode m_MM_activate.2.1 25 = .ok (.getfield 62, 3) := by decide +kernel
theorem e_MM_activate_28 : decode m_MM_activate.2.1 28 = .ok (.bipush 20, 2) := by decide +kernel
theorem e_MM_activate_30 : decode m_MM_activate.2.1 30 = .ok (.iload_n 1, 1) := by decide +kernel
theorem e_MM_activate_31 : decode m_MM_activate.2.1 31 = .ok (.imul, 1) := by decide +kernel
theorem e_MM_activate_32 : decode m_MM_activate.2.1 32 = .ok (.iaload, 1) := by decide +kernel
theorem e_MM_activate_33 : decode m_MM_activate.2.1 33 = .ok (.iastore, 1) := by decide +kernel
theorem e_MM_activate_34 : decode m_MM_activate.2.1 34 = .ok (.aload_n 0, 1) := by decide +kernel
theorem e_MM_activate_35 : decode m_MM_activate.2.1 35 = .ok (.getfield 26, 3) := by decide +kernel
theorem e_MM_activate_38 : decode m_MM_activate.2.1 38 = .ok (.iload_n 2, 1) := by decide +kernel
theorem e_MM_activate_39 : decode m_MM_activate.2.1 39 = .ok (.aload_n 0, 1) := by decide +kernel
theorem e_MM_activate_40 : decode m_MM_activate.2.1 40 = .ok (.getfield 68, 3) := by decide +kernel
theorem e_MM_activate_43 : decode m_MM_activate.2.1 43 = .ok (.bipush 20, 2) := by decide +kernel
theorem e_MM_activate_45 : decode m_MM_activate.2.1 45 = .ok (.iload_n 1, 1) := by decide +kernel
theorem e_MM_activate_46 : decode m_MM_activate.2.1 46 = .ok (.imul, 1) := by decide +kernel
theorem e_MM_activate_47 : decode m_MM_activate.2.1 47 = .ok (.baload, 1) := by decide +kernel
theorem e_MM_activate_48 : decode m_MM_activate.2.1 48 = .ok (.bastore, 1) := by decide +kernel
theorem e_MM_activate_49 : decode m_MM_activate.2.1 49 = .ok (.aload_n 0, 1) := by decide +kernel
theorem e_MM_activate_50 : decode m_MM_activate.2.1 50 = .ok (.getfield 74, 3) := by decide +kernel
theorem e_MM_activate_53 : decode m_MM_activate.2.1 53 = .ok (.iload_n 1, 1) := by decide +kernel
theorem e_MM_activate_54 : decode m_MM_activate.2.1 54 = .ok (.aload_n 0, 1) := by decide +kernel
theorem e_MM_activate_55 : decode m_MM_activate.2.1 55 = .ok (.getfield 65, 3) := by decide +kernel
theorem e_MM_activate_58 : decode m_MM_activate.2.1 58 = .ok (.bipush 20, 2) := by decide +kernel
theorem e_MM_activate_60 : decode m_MM_activate.2.1 60 = .ok (.iload_n 1, 1) := by decide +kernel
theorem e_MM_activate_61 : decode m_MM_activate.2.1 61 = .ok (.imul, 1) := by decide +kernel
theorem e_MM_activate_62 : decode m_MM_activate.2.1 62 = .ok (.iaload, 1) := by decide +kernel
theorem e_MM_activate_63 : decode m_MM_activate.2.1 63 = .ok (.iastore, 1) := by decide +kernel
theorem e_MM_activate_64 : decode m_MM_activate.2.1 64 = .ok (.aload_n 0, 1) := by decide +kernel
theorem e_MM_activate_65 : decode m_MM_activate.2.1 65 = .ok (.iload_n 1, 1) := by decide +kernel
theorem e_MM_activate_66 : decode m_MM_activate.2.1 66 = .ok (.iconst 0, 1) := by decide +kernel
theorem e_MM_activate_67 : decode m_MM_activate.2.1 67 = .ok (.invokevirtual 167, 3) := by decide +kernel
theorem e_MM_activate_70 : decode m_MM_activate.2.1 70 = .ok (.aload_n 0, 1) := by decide +kernel
theorem e_MM_activate_71 : decode m_MM_activate.2.1 71 = .ok (.getfield 29, 3) := by decide +kernel
theorem e_MM_activate_74 : decode m_MM_activate.2.1 74 = .ok (.iload_n 2, 1) := by decide +kernel
theorem e_MM_activate_75 : decode m_MM_activate.2.1 75 = .ok (.dup2, 1) := by decide +kernel
theorem e_MM_activate_76 : decode m_MM_activate.2.1 76 = .ok (.iaload, 1) := by decide +kernel
theorem e_MM_activate_77 : decode m_MM_activate.2.1 77 = .ok (.iconst 1, 1) := by decide +kernel
theorem e_MM_activate_78 : decode m_MM_activate.2.1 78 = .ok (.iadd, 1) := by decide +kernel
theorem e_MM_activate_79 : decode m_MM_activate.2.1 79 = .ok (.iastore, 1) := by decide +kernel
theorem e_MM_activate_80 : decode m_MM_activate.2.1 80 = .ok (.aload_n 0, 1) := by decide +kernel
theorem e_MM_activate_81 : decode m_MM_activate.2.1 81 = .ok (.iload_n 1, 1) := by decide +kernel
theorem e_MM_activate_82 : decode m_MM_activate.2.1 82 = .ok (.invokevirtual 170, 3) := by decide +kernel
theorem e_MM_activate_85 : decode m_MM_activate.2.1 85 = .ok (.aload_n 0, 1) := by decide +kernel
theorem e_MM_activate_86 : decode m_MM_activate.2.1 86 = .ok (.aload_n 0, 1) := by decide +kernel
theorem e_MM_activate_87 : decode m_MM_activate.2.1 87 = .ok (.getfield 113, 3) := by decide +kernel
theorem e_MM_activate_90 : decode m_MM_activate.2.1 90 = .ok (.iload_n 1, 1) := by decide +kernel
theorem e_MM_activate_91 : decode m_MM_activate.2.1 91 = .ok (.invokevirtual 173, 3) := by decide +kernel
theorem e_MM_activate_94 : decode m_MM_activate.2.1 94 = .ok (.return_, 1) := by decide +kernel
theorem e_MM_lapse_0 : decode m_MM_lapse.2.1 0 = .ok (.aload_n 0, 1) := by decide +kernel
theorem e_MM_lapse_1 : decode m_MM_lapse.2.1 1 = .ok (.getfield 77, 3) := by decide +kernel
theorem e_MM_lapse_4 : decode m_MM_lapse.2.1 4 = .ok (.iload_n 1, 1) := by decide +kernel
theorem e_MM_lapse_5 : decode m_MM_lapse.2.1 5 = .ok (.iaload, 1) := by decide +kernel
theorem e_MM_lapse_6 : decode m_MM_lapse.2.1 6 = .ok (.iload_n 2, 1) := by decide +kernel
theorem e_MM_lapse_7 : decode m_MM_lapse.2.1 7 = .ok (.if_icmp .lt 4, 3) := by decide +kernel
theorem e_MM_lapse_10 : decode m_MM_lapse.2.1 10 = .ok (.return_, 1) := by decide +kernel
theorem e_MM_lapse_11 : decode m_MM_lapse.2.1 11 = .ok (.aload_n 0, 1) := by decide +kernel
theorem e_MM_lapse_12 : decode m_MM_lapse.2.1 12 = .ok (.getfield 77, 3) := by decide +kernel
theorem e_MM_lapse_15 : decode m_MM_lapse.2.1 15 = .ok (.iload_n 1, 1) := by decide +kernel
theorem e_MM_lapse_16 : decode m_MM_lapse.2.1 16 = .ok (.iload_n 2, 1) := by decide +kernel
theorem e_MM_lapse_17 : decode m_MM_lapse.2.1 17 = .ok (.iastore, 1) := by decide +kernel
theorem e_MM_lapse_18 : decode m_MM_lapse.2.1 18 = .ok (.iconst 0, 1) := by decide +kernel
theorem e_MM_lapse_19 : decode m_MM_lapse.2.1 19 = .ok (.istore_n 3, 1) := by decide +kernel
theorem e_MM_lapse_20 : decode m_MM_lapse.2.1 20 = .ok (.iload_n 3, 1) := by decide +kernel
theorem e_MM_lapse_21 : decode m_MM_lapse.2.1 21 = .ok (.iconst 2, 1) := by decide +kernel
theorem e_MM_lapse_22 : decode m_MM_lapse.2.1 22 = .ok (.if_icmp .ge 69, 3) := by decide +kernel
theorem e_MM_lapse_25 : decode m_MM_lapse.2.1 25 = .ok (.aload_n 0, 1) := by decide +kernel
theorem e_MM_lapse_26 : decode m_MM_lapse.2.1 26 = .ok (.getfield 71, 3) := by decide +kernel
theorem e_MM_lapse_29 : decode m_MM_lapse.2.1 29 = .ok (.iload_n 3, 1) := by decide +kernel
theorem e_MM_lapse_30 : decode m_MM_lapse.2.1 30 = .ok (.iaload, 1) := by decide +kernel
theorem e_MM_lapse_31 : decode m_MM_lapse.2.1 31 = .ok (.iconst 1, 1) := by decide +kernel
theorem e_MM_lapse_32 : decode m_MM_lapse.2.1 32 = .ok (.isub, 1) := by decide +kernel
theorem e_MM_lapse_33 : decode m_MM_lapse.2.1 33 = .ok (.istore 4, 2) := by decide +kernel
theorem e_MM_lapse_35 : decode m_MM_lapse.2.1 35 = .ok (.iload 4, 2) := by decide +kernel
theorem e_MM_lapse_37 : decode m_MM_lapse.2.1 37 = .ok (.ifCond .lt 48, 3) := by decide +kernel
theorem e_MM_lapse_40 : decode m_MM_lapse.2.1 40 = .ok (.aload_n 0, 1) := by decide +kernel
theorem e_MM_lapse_41 : decode m_MM_lapse.2.1 41 = .ok (.getfield 62, 3) := by decide +kernel
theorem e_MM_lapse_44 : decode m_MM_lapse.2.1 44 = .ok (.bipush 20, 2) := by decide +kernel
theorem e_MM_lapse_46 : decode m_MM_lapse.2.1 46 = .ok (.iload_n 3, 1) := by decide +kernel
theorem e_MM_lapse_47 : decode m_MM_lapse.2.1 47 = .ok (.imul, 1) := by decide +kernel
theorem e_MM_lapse_48 : decode m_MM_lapse.2.1 48 = .ok (.iload 4, 2) := by decide +kernel
theorem e_MM_lapse_50 : decode m_MM_lapse.2.1 50 = .ok (.iadd, 1) := by decide +kernel
theorem e_MM_lapse_51 : decode m_MM_lapse.2.1 51 = .ok (.iaload, 1) := by decide +kernel
theorem e_MM_lapse_52 : decode m_MM_lapse.2.1 52 = .ok (.iload_n 1, 1) := by decide +kernel
theorem e_MM_lapse_53 : decode m_MM_lapse.2.1 53 = .ok (.if_icmp .ne 26, 3) := by decide +kernel
theorem e_MM_lapse_56 : decode m_MM_lapse.2.1 56 = .ok (.aload_n 0, 1) := by decide +kernel
theorem e_MM_lapse_57 : decode m_MM_lapse.2.1 57 = .ok (.getfield 65, 3) := by decide +kernel
theorem e_MM_lapse_60 : decode m_MM_lapse.2.1 60 = .ok (.bipush 20, 2) := by decide +kernel
theorem e_MM_lapse_62 : decode m_MM_lapse.2.1 62 = .ok (.iload_n 3, 1) := by decide +kernel
theorem e_MM_lapse_63 : decode m_MM_lapse.2.1 63 = .ok (.imul, 1) := by decide +kernel
theorem e_MM_lapse_64 : decode m_MM_lapse.2.1 64 = .ok (.iload 4, 2) := by decide +kernel
theorem e_MM_lapse_66 : decode m_MM_lapse.2.1 66 = .ok (.iadd, 1) := by decide +kernel
theorem e_MM_lapse_67 : decode m_MM_lapse.2.1 67 = .ok (.iaload, 1) := by decide +kernel
theorem e_MM_lapse_68 : decode m_MM_lapse.2.1 68 = .ok (.iload_n 2, 1) := by decide +kernel
theorem e_MM_lapse_69 : decode m_MM_lapse.2.1 69 = .ok (.if_icmp .gt 10, 3) := by decide +kernel
theorem e_MM_lapse_72 : decode m_MM_lapse.2.1 72 = .ok (.aload_n 0, 1) := by decide +kernel
theorem e_MM_lapse_73 : decode m_MM_lapse.2.1 73 = .ok (.iload_n 3, 1) := by decide +kernel
theorem e_MM_lapse_74 : decode m_MM_lapse.2.1 74 = .ok (.iload 4, 2) := by decide +kernel
theorem e_MM_lapse_76 : decode m_MM_lapse.2.1 76 = .ok (.invokevirtual 167, 3) := by decide +kernel
theorem e_MM_lapse_79 : decode m_MM_lapse.2.1 79 = .ok (.iinc 4 (-1), 3) := by decide +kernel
theorem e_MM_lapse_82 : decode m_MM_lapse.2.1 82 = .ok (.goto (-47), 3) := by decide +kernel
theorem e_MM_lapse_85 : decode m_MM_lapse.2.1 85 = .ok (.iinc 3 1, 3) := by decide +kernel
theorem e_MM_lapse_88 : decode m_MM_lapse.2.1 88 = .ok (.goto (-68), 3) := by decide +kernel
theorem e_MM_lapse_91 : decode m_MM_lapse.2.1 91 = .ok (.iconst 0, 1) := by decide +kernel
theorem e_MM_lapse_92 : decode m_MM_lapse.2.1 92 = .ok (.istore_n 3, 1) := by decide +kernel
theorem e_MM_lapse_93 : decode m_MM_lapse.2.1 93 = .ok (.iload_n 3, 1) := by decide +kernel
theorem e_MM_lapse_94 : decode m_MM_lapse.2.1 94 = .ok (.iconst 2, 1) := by decide +kernel
theorem e_MM_lapse_95 : decode m_MM_lapse.2.1 95 = .ok (.if_icmp .ge 58, 3) := by decide +kernel
theorem e_MM_lapse_98 : decode m_MM_lapse.2.1 98 = .ok (.iconst 2, 1) := by decide +kernel
theorem e_MM_lapse_99 : decode m_MM_lapse.2.1 99 = .ok (.aload_n 0, 1) := by decide +kernel
theorem e_MM_lapse_100 : decode m_MM_lapse.2.1 100 = .ok (.getfield 113, 3) := by decide +kernel
theorem e_MM_lapse_103 : decode m_MM_lapse.2.1 103 = .ok (.imul, 1) := by decide +kernel
theorem e_MM_lapse_104 : decode m_MM_lapse.2.1 104 = .ok (.iload_n 3, 1) := by decide +kernel
theorem e_MM_lapse_105 : decode m_MM_lapse.2.1 105 = .ok (.iadd, 1) := by decide +kernel
theorem e_MM_lapse_106 : decode m_MM_lapse.2.1 106 = .ok (.istore 4, 2) := by decide +kernel
theorem e_MM_lapse_108 : decode m_MM_lapse.2.1 108 = .ok (.aload_n 0, 1) := by decide +kernel
theorem e_MM_lapse_109 : decode m_MM_lapse.2.1 109 = .ok (.getfield 23, 3) := by decide +kernel
theorem e_MM_lapse_112 : decode m_MM_lapse.2.1 112 = .ok (.iload 4, 2) := by decide +kernel
theorem e_MM_lapse_114 : decode m_MM_lapse.2.1 114 = .ok (.iaload, 1) := by decide +kernel
theorem e_MM_lapse_115 : decode m_MM_lapse.2.1 115 = .ok (.iload_n 1, 1) := by decide +kernel
theorem e_MM_lapse_116 : decode m_MM_lapse.2.1 116 = .ok (.if_icmp .ne 31, 3) := by decide +kernel
theorem e_MM_lapse_119 : decode m_MM_lapse.2.1 119 = .ok (.aload_n 0, 1) := by decide +kernel
theorem e_MM_lapse_120 : decode m_MM_lapse.2.1 120 = .ok (.getfield 74, 3) := by decide +kernel
theorem e_MM_lapse_123 : decode m_MM_lapse.2.1 123 = .ok (.iload_n 3, 1) := by decide +kernel
theorem e_MM_lapse_124 : decode m_MM_lapse.2.1 124 = .ok (.iaload, 1) := by decide +kernel
theorem e_MM_lapse_125 : decode m_MM_lapse.2.1 125 = .ok (.iload_n 2, 1) := by decide +kernel
theorem e_MM_lapse_126 : decode m_MM_lapse.2.1 126 = .ok (.if_icmp .gt 21, 3) := by decide +kernel
theorem e_MM_lapse_129 : decode m_MM_lapse.2.1 129 = .ok (.aload_n 0, 1) := by decide +kernel
theorem e_MM_lapse_130 : decode m_MM_lapse.2.1 130 = .ok (.getfield 23, 3) := by decide +kernel
theorem e_MM_lapse_133 : decode m_MM_lapse.2.1 133 = .ok (.iload 4, 2) := by decide +kernel
theorem e_MM_lapse_135 : decode m_MM_lapse.2.1 135 = .ok (.iconst (-1), 1) := by decide +kernel
theorem e_MM_lapse_136 : decode m_MM_lapse.2.1 136 = .ok (.iastore, 1) := by decide +kernel
theorem e_MM_lapse_137 : decode m_MM_lapse.2.1 137 = .ok (.aload_n 0, 1) := by decide +kernel
theorem e_MM_lapse_138 : decode m_MM_lapse.2.1 138 = .ok (.iload_n 3, 1) := by decide +kernel
theorem e_MM_lapse_139 : decode m_MM_lapse.2.1 139 = .ok (.invokevirtual 170, 3) := by decide +kernel
theorem e_MM_lapse_142 : decode m_MM_lapse.2.1 142 = .ok (.aload_n 0, 1) := by decide +kernel
theorem e_MM_lapse_143 : decode m_MM_lapse.2.1 143 = .ok (.iload_n 3, 1) := by decide +kernel
theorem e_MM_lapse_144 : decode m_MM_lapse.2.1 144 = .ok (.invokevirtual 176, 3) := by decide +kernel
theorem e_MM_lapse_147 : decode m_MM_lapse.2.1 147 = .ok (.iinc 3 1, 3) := by decide +kernel
theorem e_MM_lapse_150 : decode m_MM_lapse.2.1 150 = .ok (.goto (-57), 3) := by decide +kernel
theorem e_MM_lapse_153 : decode m_MM_lapse.2.1 153 = .ok (.return_, 1) := by decide +kernel
theorem e_MM_please_0 : decode m_MM_please.2.1 0 = .ok (.iload_n 3, 1) := by decide +kernel
theorem e_MM_please_1 : decode m_MM_please.2.1 1 = .ok (.aload_n 0, 1) := by decide +kernel
theorem e_MM_please_2 : decode m_MM_please.2.1 2 = .ok (.getfield 77, 3) := by decide +kernel
theorem e_MM_please_5 : decode m_MM_please.2.1 5 = .ok (.iload_n 1, 1) := by decide +kernel
theorem e_MM_please_6 : decode m_MM_please.2.1 6 = .ok (.iaload, 1) := by decide +kernel
theorem e_MM_please_7 : decode m_MM_please.2.1 7 = .ok (.if_icmp .gt 4, 3) := by decide +kernel
theorem e_MM_please_10 : decode m_MM_please.2.1 10 = .ok (.return_, 1) := by decide +kernel
theorem e_MM_please_11 : decode m_MM_please.2.1 11 = .ok (.aload_n 0, 1) := by decide +kernel
theorem e_MM_please_12 : decode m_MM_please.2.1 12 = .ok (.iload_n 1, 1) := by decide +kernel
theorem e_MM_please_13 : decode m_MM_please.2.1 13 = .ok (.iload_n 3, 1) := by decide +kernel
theorem e_MM_please_14 : decode m_MM_please.2.1 14 = .ok (.iconst 1, 1) := by decide +kernel
theorem e_MM_please_15 : decode m_MM_please.2.1 15 = .ok (.isub, 1) := by decide +kernel
theorem e_MM_please_16 : decode m_MM_please.2.1 16 = .ok (.invokevirtual 179, 3) := by decide +kernel
theorem e_MM_please_19 : decode m_MM_please.2.1 19 = .ok (.bipush 20, 2) := by decide +kernel
theorem e_MM_please_21 : decode m_MM_please.2.1 21 = .ok (.iload_n 2, 1) := by decide +kernel
theorem e_MM_please_22 : decode m_MM_please.2.1 22 = .ok (.imul, 1) := by decide +kernel
theorem e_MM_please_23 : decode m_MM_please.2.1 23 = .ok (.aload_n 0, 1) := by decide +kernel
theorem e_MM_please_24 : decode m_MM_please.2.1 24 = .ok (.getfield 71, 3) := by decide +kernel
theorem e_MM_please_27 : decode m_MM_please.2.1 27 = .ok (.iload_n 2, 1) := by decide +kernel
theorem e_MM_please_28 : decode m_MM_please.2.1 28 = .ok (.iaload, 1) := by decide +kernel
theorem e_MM_please_29 : decode m_MM_please.2.1 29 = .ok (.iadd, 1) := by decide +kernel
theorem e_MM_please_30 : decode m_MM_please.2.1 30 = .ok (.istore 5, 2) := by decide +kernel
theorem e_MM_please_32 : decode m_MM_please.2.1 32 = .ok (.aload_n 0, 1) := by decide +kernel
theorem e_MM_please_33 : decode m_MM_please.2.1 33 = .ok (.getfield 62, 3) := by decide +kernel
theorem e_MM_please_36 : decode m_MM_please.2.1 36 = .ok (.iload 5, 2) := by decide +kernel
theorem e_MM_please_38 : decode m_MM_please.2.1 38 = .ok (.iload_n 1, 1) := by decide +kernel
theorem e_MM_please_39 : decode m_MM_please.2.1 39 = .ok (.iastore, 1) := by decide +kernel
theorem e_MM_please_40 : decode m_MM_please.2.1 40 = .ok (.aload_n 0, 1) := by decide +kernel
theorem e_MM_please_41 : decode m_MM_please.2.1 41 = .ok (.getfield 65, 3) := by decide +kernel
theorem e_MM_please_44 : decode m_MM_please.2.1 44 = .ok (.iload 5, 2) := by decide +kernel
theorem e_MM_please_46 : decode m_MM_please.2.1 46 = .ok (.iload_n 3, 1) := by decide +kernel
theorem e_MM_please_47 : decode m_MM_please.2.1 47 = .ok (.iastore, 1) := by decide +kernel
theorem e_MM_please_48 : decode m_MM_please.2.1 48 = .ok (.aload_n 0, 1) := by decide +kernel
theorem e_MM_please_49 : decode m_MM_please.2.1 49 = .ok (.getfield 68, 3) := by decide +kernel
theorem e_MM_please_52 : decode m_MM_please.2.1 52 = .ok (.iload 5, 2) := by decide +kernel
theorem e_MM_please_54 : decode m_MM_please.2.1 54 = .ok (.iload 4, 2) := by decide +kernel
theorem e_MM_please_56 : decode m_MM_please.2.1 56 = .ok (.bastore, 1) := by decide +kernel
theorem e_MM_please_57 : decode m_MM_please.2.1 57 = .ok (.aload_n 0, 1) := by decide +kernel
theorem e_MM_please_58 : decode m_MM_please.2.1 58 = .ok (.getfield 71, 3) := by decide +kernel
theorem e_MM_please_61 : decode m_MM_please.2.1 61 = .ok (.iload_n 2, 1) := by decide +kernel
theorem e_MM_please_62 : decode m_MM_please.2.1 62 = .ok (.dup2, 1) := by decide +kernel
theorem e_MM_please_63 : decode m_MM_please.2.1 63 = .ok (.iaload, 1) := by decide +kernel
theorem e_MM_please_64 : decode m_MM_please.2.1 64 = .ok (.iconst 1, 1) := by decide +kernel
theorem e_MM_please_65 : decode m_MM_please.2.1 65 = .ok (.iadd, 1) := by decide +kernel
theorem e_MM_please_66 : decode m_MM_please.2.1 66 = .ok (.iastore, 1) := by decide +kernel
theorem e_MM_please_67 : decode m_MM_please.2.1 67 = .ok (.aload_n 0, 1) := by decide +kernel
theorem e_MM_please_68 : decode m_MM_please.2.1 68 = .ok (.getfield 23, 3) := by decide +kernel
theorem e_MM_please_71 : decode m_MM_please.2.1 71 = .ok (.iconst 2, 1) := by decide +kernel
theorem e_MM_please_72 : decode m_MM_please.2.1 72 = .ok (.aload_n 0, 1) := by decide +kernel
theorem e_MM_please_73 : decode m_MM_please.2.1 73 = .ok (.getfield 113, 3) := by decide +kernel
theorem e_MM_please_76 : decode m_MM_please.2.1 76 = .ok (.imul, 1) := by decide +kernel
theorem e_MM_please_77 : decode m_MM_please.2.1 77 = .ok (.iload_n 2, 1) := by decide +kernel
theorem e_MM_please_78 : decode m_MM_please.2.1 78 = .ok (.iadd, 1) := by decide +kernel
theorem e_MM_please_79 : decode m_MM_please.2.1 79 = .ok (.iaload, 1) := by decide +kernel
theorem e_MM_please_80 : decode m_MM_please.2.1 80 = .ok (.ifCond .ge 8, 3) := by decide +kernel
theorem e_MM_please_83 : decode m_MM_please.2.1 83 = .ok (.aload_n 0, 1) := by decide +kernel
theorem e_MM_please_84 : decode m_MM_please.2.1 84 = .ok (.iload_n 2, 1) := by decide +kernel
theorem e_MM_please_85 : decode m_MM_please.2.1 85 = .ok (.invokevirtual 176, 3) := by decide +kernel
theorem e_MM_please_88 : decode m_MM_please.2.1 88 = .ok (.return_, 1) := by decide +kernel
theorem e_MM_getTokens_0 : decode m_MM_getTokens.2.1 0 = .ok (.iconst 2, 1) := by decide +kernel
theorem e_MM_getTokens_1 : decode m_MM_getTokens.2.1 1 = .ok (.iload_n 1, 1) := by decide +kernel
theorem e_MM_getTokens_2 : decode m_MM_getTokens.2.1 2 = .ok (.imul, 1) := by decide +kernel
theorem e_MM_getTokens_3 : decode m_MM_getTokens.2.1 3 = .ok (.iload_n 2, 1) := by decide +kernel
theorem e_MM_getTokens_4 : decode m_MM_getTokens.2.1 4 = .ok (.iadd, 1) := by decide +kernel
theorem e_MM_getTokens_5 : decode m_MM_getTokens.2.1 5 = .ok (.istore 7, 2) := by decide +kernel
theorem e_MM_getTokens_7 : decode m_MM_getTokens.2.1 7 = .ok (.aload_n 0, 1) := by decide +kernel
theorem e_MM_getTokens_8 : decode m_MM_getTokens.2.1 8 = .ok (.getfield 7, 3) := by decide +kernel
theorem e_MM_getTokens_11 : decode m_MM_getTokens.2.1 11 = .ok (.iload 7, 2) := by decide +kernel
theorem e_MM_getTokens_13 : decode m_MM_getTokens.2.1 13 = .ok (.aload_n 0, 1) := by decide +kernel
theorem e_MM_getTokens_14 : decode m_MM_getTokens.2.1 14 = .ok (.getfield 7, 3) := by decide +kernel
theorem e_MM_getTokens_17 : decode m_MM_getTokens.2.1 17 = .ok (.iload 7, 2) := by decide +kernel
theorem e_MM_getTokens_19 : decode m_MM_getTokens.2.1 19 = .ok (.iaload, 1) := by decide +kernel
theorem e_MM_getTokens_20 : decode m_MM_getTokens.2.1 20 = .ok (.iload_n 3, 1) := by decide +kernel
theorem e_MM_getTokens_21 : decode m_MM_getTokens.2.1 21 = .ok (.iadd, 1) := by decide +kernel
theorem e_MM_getTokens_22 : decode m_MM_getTokens.2.1 22 = .ok (.iastore, 1) := by decide +kernel
theorem e_MM_getTokens_23 : decode m_MM_getTokens.2.1 23 = .ok (.aload_n 0, 1) := by decide +kernel
theorem e_MM_getTokens_24 : decode m_MM_getTokens.2.1 24 = .ok (.getfield 13, 3) := by decide +kernel
theorem e_MM_getTokens_27 : decode m_MM_getTokens.2.1 27 = .ok (.iload 7, 2) := by decide +kernel
theorem e_MM_getTokens_29 : decode m_MM_getTokens.2.1 29 = .ok (.aload_n 0, 1) := by decide +kernel
theorem e_MM_getTokens_30 : decode m_MM_getTokens.2.1 30 = .ok (.getfield 13, 3) := by decide +kernel
theorem e_MM_getTokens_33 : decode m_MM_getTokens.2.1 33 = .ok (.iload 7, 2) := by decide +kernel
theorem e_MM_getTokens_35 : decode m_MM_getTokens.2.1 35 = .ok (.baload, 1) := by decide +kernel
theorem e_MM_getTokens_36 : decode m_MM_getTokens.2.1 36 = .ok (.ifCond .ne 8, 3) := by decide +kernel
theorem e_MM_getTokens_39 : decode m_MM_getTokens.2.1 39 = .ok (.iload 4, 2) := by decide +kernel
theorem e_MM_getTokens_41 : decode m_MM_getTokens.2.1 41 = .ok (.ifCond .eq 7, 3) := by decide +kernel
theorem e_MM_getTokens_44 : decode m_MM_getTokens.2.1 44 = .ok (.iconst 1, 1) := by decide +kernel
theorem e_MM_getTokens_45 : decode m_MM_getTokens.2.1 45 = .ok (.goto 4, 3) := by decide +kernel
theorem e_MM_getTokens_48 : decode m_MM_getTokens.2.1 48 = .ok (.iconst 0, 1) := by decide +kernel
theorem e_MM_getTokens_49 : decode m_MM_getTokens.2.1 49 = .ok (.bastore, 1) := by decide +kernel
theorem e_MM_getTokens_50 : decode m_MM_getTokens.2.1 50 = .ok (.iload 5, 2) := by decide +kernel
theorem e_MM_getTokens_52 : decode m_MM_getTokens.2.1 52 = .ok (.ifCond .eq 20, 3) := by decide +kernel
theorem e_MM_getTokens_55 : decode m_MM_getTokens.2.1 55 = .ok (.aload_n 0, 1) := by decide +kernel
theorem e_MM_getTokens_56 : decode m_MM_getTokens.2.1 56 = .ok (.getfield 20, 3) := by decide +kernel
theorem e_MM_getTokens_59 : decode m_MM_getTokens.2.1 59 = .ok (.iload 7, 2) := by decide +kernel
theorem e_MM_getTokens_61 : decode m_MM_getTokens.2.1 61 = .ok (.iload 6, 2) := by decide +kernel
theorem e_MM_getTokens_63 : decode m_MM_getTokens.2.1 63 = .ok (.iastore, 1) := by decide +kernel
theorem e_MM_getTokens_64 : decode m_MM_getTokens.2.1 64 = .ok (.aload_n 0, 1) := by decide +kernel
theorem e_MM_getTokens_65 : decode m_MM_getTokens.2.1 65 = .ok (.getfield 17, 3) := by decide +kernel
theorem e_MM_getTokens_68 : decode m_MM_getTokens.2.1 68 = .ok (.iload 7, 2) := by decide +kernel
theorem e_MM_getTokens_70 : decode m_MM_getTokens.2.1 70 = .ok (.iconst 1, 1) := by decide +kernel
theorem e_MM_getTokens_71 : decode m_MM_getTokens.2.1 71 = .ok (.bastore, 1) := by decide +kernel
theorem e_MM_getTokens_72 : decode m_MM_getTokens.2.1 72 = .ok (.aload_n 0, 1) := by decide +kernel
theorem e_MM_getTokens_73 : decode m_MM_getTokens.2.1 73 = .ok (.iload_n 1, 1) := by decide +kernel
theorem e_MM_getTokens_74 : decode m_MM_getTokens.2.1 74 = .ok (.iload_n 2, 1) := by decide +kernel
theorem e_MM_getTokens_75 : decode m_MM_getTokens.2.1 75 = .ok (.invokevirtual 173, 3) := by decide +kernel
theorem e_MM_getTokens_78 : decode m_MM_getTokens.2.1 78 = .ok (.iload_n 1, 1) := by decide +kernel
theorem e_MM_getTokens_79 : decode m_MM_getTokens.2.1 79 = .ok (.aload_n 0, 1) := by decide +kernel
theorem e_MM_getTokens_80 : decode m_MM_getTokens.2.1 80 = .ok (.getfield 113, 3) := by decide +kernel
theorem e_MM_getTokens_83 : decode m_MM_getTokens.2.1 83 = .ok (.if_icmp .ge 35, 3) := by decide +kernel
theorem e_MM_getTokens_86 : decode m_MM_getTokens.2.1 86 = .ok (.aload_n 0, 1) := by decide +kernel
theorem e_MM_getTokens_87 : decode m_MM_getTokens.2.1 87 = .ok (.getfield 32, 3) := by decide +kernel
theorem e_MM_getTokens_90 : decode m_MM_getTokens.2.1 90 = .ok (.iload_n 1, 1) := by decide +kernel
theorem e_MM_getTokens_91 : decode m_MM_getTokens.2.1 91 = .ok (.baload, 1) := by decide +kernel
theorem e_MM_getTokens_92 : decode m_MM_getTokens.2.1 92 = .ok (.ifCond .eq 26, 3) := by decide +kernel
theorem e_MM_getTokens_95 : decode m_MM_getTokens.2.1 95 = .ok (.aload_n 0, 1) := by decide +kernel
theorem e_MM_getTokens_96 : decode m_MM_getTokens.2.1 96 = .ok (.getfield 41, 3) := by decide +kernel
theorem e_MM_getTokens_99 : decode m_MM_getTokens.2.1 99 = .ok (.iload_n 1, 1) := by decide +kernel
theorem e_MM_getTokens_100 : decode m_MM_getTokens.2.1 100 = .ok (.iaload, 1) := by decide +kernel
theorem e_MM_getTokens_101 : decode m_MM_getTokens.2.1 101 = .ok (.iload_n 2, 1) := by decide +kernel
theorem e_MM_getTokens_102 : decode m_MM_getTokens.2.1 102 = .ok (.if_icmp .ne 16, 3) := by decide +kernel
theorem e_MM_getTokens_105 : decode m_MM_getTokens.2.1 105 = .ok (.aload_n 0, 1) := by decide +kernel
theorem e_MM_getTokens_106 : decode m_MM_getTokens.2.1 106 = .ok (.iload_n 1, 1) := by decide +kernel
theorem e_MM_getTokens_107 : decode m_MM_getTokens.2.1 107 = .ok (.invokevirtual 152, 3) := by decide +kernel
theorem e_MM_getTokens_110 : decode m_MM_getTokens.2.1 110 = .ok (.ifCond .eq 8, 3) := by decide +kernel
theorem e_MM_getTokens_113 : decode m_MM_getTokens.2.1 113 = .ok (.aload_n 0, 1) := by decide +kernel
theorem e_MM_getTokens_114 : decode m_MM_getTokens.2.1 114 = .ok (.iload_n 1, 1) := by decide +kernel
theorem e_MM_getTokens_115 : decode m_MM_getTokens.2.1 115 = .ok (.invokevirtual 155, 3) := by decide +kernel
theorem e_MM_getTokens_118 : decode m_MM_getTokens.2.1 118 = .ok (.return_, 1) := by decide +kernel
theorem e_MM_deliver_0 : decode m_MM_deliver.2.1 0 = .ok (.aload_n 0, 1) := by decide +kernel
theorem e_MM_deliver_1 : decode m_MM_deliver.2.1 1 = .ok (.iconst 0, 1) := by decide +kernel
theorem e_MM_deliver_2 : decode m_MM_deliver.2.1 2 = .ok (.putfield 123, 3) := by decide +kernel
theorem e_MM_deliver_5 : decode m_MM_deliver.2.1 5 = .ok (.iload_n 1, 1) := by decide +kernel
theorem e_MM_deliver_6 : decode m_MM_deliver.2.1 6 = .ok (.ifCond .lt 11, 3) := by decide +kernel
theorem e_MM_deliver_9 : decode m_MM_deliver.2.1 9 = .ok (.iload_n 1, 1) := by decide +kernel
theorem e_MM_deliver_10 : decode m_MM_deliver.2.1 10 = .ok (.aload_n 0, 1) := by decide +kernel
theorem e_MM_deliver_11 : decode m_MM_deliver.2.1 11 = .ok (.getfield 126, 3) := by decide +kernel
theorem e_MM_deliver_14 : decode m_MM_deliver.2.1 14 = .ok (.if_icmp .lt 5, 3) := by decide +kernel
theorem e_MM_deliver_17 : decode m_MM_deliver.2.1 17 = .ok (.iconst (-1), 1) := by decide +kernel
theorem e_MM_deliver_18 : decode m_MM_deliver.2.1 18 = .ok (.ireturn, 1) := by decide +kernel
theorem e_MM_deliver_19 : decode m_MM_deliver.2.1 19 = .ok (.aload_n 0, 1) := by decide +kernel
theorem e_MM_deliver_20 : decode m_MM_deliver.2.1 20 = .ok (.iload_n 1, 1) := by decide +kernel
theorem e_MM_deliver_21 : decode m_MM_deliver.2.1 21 = .ok (.bipush 119, 2) := by decide +kernel
theorem e_MM_deliver_23 : decode m_MM_deliver.2.1 23 = .ok (.invokevirtual 129, 3) := by decide +kernel
theorem e_MM_deliver_26 : decode m_MM_deliver.2.1 26 = .ok (.aload_n 0, 1) := by decide +kernel
theorem e_MM_deliver_27 : decode m_MM_deliver.2.1 27 = .ok (.iload_n 1, 1) := by decide +kernel
theorem e_MM_deliver_28 : decode m_MM_deliver.2.1 28 = .ok (.invokevirtual 133, 3) := by decide +kernel
theorem e_MM_deliver_31 : decode m_MM_deliver.2.1 31 = .ok (.aload_n 0, 1) := by decide +kernel
theorem e_MM_deliver_32 : decode m_MM_deliver.2.1 32 = .ok (.getfield 80, 3) := by decide +kernel
theorem e_MM_deliver_35 : decode m_MM_deliver.2.1 35 = .ok (.bipush 119, 2) := by decide +kernel
theorem e_MM_deliver_37 : decode m_MM_deliver.2.1 37 = .ok (.iaload, 1) := by decide +kernel
theorem e_MM_deliver_38 : decode m_MM_deliver.2.1 38 = .ok (.istore_n 2, 1) := by decide +kernel
theorem e_MM_deliver_39 : decode m_MM_deliver.2.1 39 = .ok (.aload_n 0, 1) := by decide +kernel
theorem e_MM_deliver_40 : decode m_MM_deliver.2.1 40 = .ok (.getfield 83, 3) := by decide +kernel
theorem e_MM_deliver_43 : decode m_MM_deliver.2.1 43 = .ok (.bipush 119, 2) := by decide +kernel
theorem e_MM_deliver_45 : decode m_MM_deliver.2.1 45 = .ok (.iaload, 1) := by decide +kernel
theorem e_MM_deliver_46 : decode m_MM_deliver.2.1 46 = .ok (.istore_n 3, 1) := by decide +kernel
theorem e_MM_deliver_47 : decode m_MM_deliver.2.1 47 = .ok (.aload_n 0, 1) := by decide +kernel
theorem e_MM_deliver_48 : decode m_MM_deliver.2.1 48 = .ok (.getfield 86, 3) := by decide +kernel
theorem e_MM_deliver_51 : decode m_MM_deliver.2.1 51 = .ok (.bipush 119, 2) := by decide +kernel
theorem e_MM_deliver_53 : decode m_MM_deliver.2.1 53 = .ok (.iaload, 1) := by decide +kernel
theorem e_MM_deliver_54 : decode m_MM_deliver.2.1 54 = .ok (.istore 4, 2) := by decide +kernel
theorem e_MM_deliver_56 : decode m_MM_deliver.2.1 56 = .ok (.aload_n 0, 1) := by decide +kernel
theorem e_MM_deliver_57 : decode m_MM_deliver.2.1 57 = .ok (.getfield 89, 3) := by decide +kernel
theorem e_MM_deliver_60 : decode m_MM_deliver.2.1 60 = .ok (.bipush 119, 2) := by decide +kernel
theorem e_MM_deliver_62 : decode m_MM_deliver.2.1 62 = .ok (.iaload, 1) := by decide +kernel
theorem e_MM_deliver_63 : decode m_MM_deliver.2.1 63 = .ok (.istore 5, 2) := by decide +kernel
theorem e_MM_deliver_65 : decode m_MM_deliver.2.1 65 = .ok (.iconst 2, 1) := by decide +kernel
theorem e_MM_deliver_66 : decode m_MM_deliver.2.1 66 = .ok (.iload_n 3, 1) := by decide +kernel
theorem e_MM_deliver_67 : decode m_MM_deliver.2.1 67 = .ok (.imul, 1) := by decide +kernel
theorem e_MM_deliver_68 : decode m_MM_deliver.2.1 68 = .ok (.iload 5, 2) := by decide +kernel
theorem e_MM_deliver_70 : decode m_MM_deliver.2.1 70 = .ok (.iadd, 1) := by decide +kernel
theorem e_MM_deliver_71 : decode m_MM_deliver.2.1 71 = .ok (.istore 6, 2) := by decide +kernel
theorem e_MM_deliver_73 : decode m_MM_deliver.2.1 73 = .ok (.aload_n 0, 1) := by decide +kernel
theorem e_MM_deliver_74 : decode m_MM_deliver.2.1 74 = .ok (.getfield 104, 3) := by decide +kernel
theorem e_MM_deliver_77 : decode m_MM_deliver.2.1 77 = .ok (.bipush 119, 2) := by decide +kernel
theorem e_MM_deliver_79 : decode m_MM_deliver.2.1 79 = .ok (.iaload, 1) := by decide +kernel
theorem e_MM_deliver_80 : decode m_MM_deliver.2.1 80 = .ok (.istore 7, 2) := by decide +kernel
theorem e_MM_deliver_82 : decode m_MM_deliver.2.1 82 = .ok (.aload_n 0, 1) := by decide +kernel
theorem e_MM_deliver_83 : decode m_MM_deliver.2.1 83 = .ok (.getfield 107, 3) := by decide +kernel
theorem e_MM_deliver_86 : decode m_MM_deliver.2.1 86 = .ok (.bipush 119, 2) := by decide +kernel
theorem e_MM_deliver_88 : decode m_MM_deliver.2.1 88 = .ok (.iaload, 1) := by decide +kernel
theorem e_MM_deliver_89 : decode m_MM_deliver.2.1 89 = .ok (.istore 8, 2) := by decide +kernel
theorem e_MM_deliver_91 : decode m_MM_deliver.2.1 91 = .ok (.aload_n 0, 1) := by decide +kernel
theorem e_MM_deliver_92 : decode m_MM_deliver.2.1 92 = .ok (.getfield 110, 3) := by decide +kernel
theorem e_MM_deliver_95 : decode m_MM_deliver.2.1 95 = .ok (.bipush 119, 2) := by decide +kernel
theorem e_MM_deliver_97 : decode m_MM_deliver.2.1 97 = .ok (.baload, 1) := by decide +kernel
theorem e_MM_deliver_98 : decode m_MM_deliver.2.1 98 = .ok (.istore 9, 2) := by decide +kernel
theorem e_MM_deliver_100 : decode m_MM_deliver.2.1 100 = .ok (.iload_n 2, 1) := by decide +kernel
theorem e_MM_deliver_101 : decode m_MM_deliver.2.1 101 = .ok (.iconst 1, 1) := by decide +kernel
theorem e_MM_deliver_102 : decode m_MM_deliver.2.1 102 = .ok (.if_icmp .ne 66, 3) := by decide +kernel
theorem e_MM_deliver_105 : decode m_MM_deliver.2.1 105 = .ok (.aload_n 0, 1) := by decide +kernel
theorem e_MM_deliver_106 : decode m_MM_deliver.2.1 106 = .ok (.getfield 23, 3) := by decide +kernel
theorem e_MM_deliver_109 : decode m_MM_deliver.2.1 109 = .ok (.iload 6, 2) := by decide +kernel
theorem e_MM_deliver_111 : decode m_MM_deliver.2.1 111 = .ok (.iaload, 1) := by decide +kernel
theorem e_MM_deliver_112 : decode m_MM_deliver.2.1 112 = .ok (.ifCond .ge 240, 3) := by decide +kernel
theorem e_MM_deliver_115 : decode m_MM_deliver.2.1 115 = .ok (.aload_n 0, 1) := by decide +kernel
theorem e_MM_deliver_116 : decode m_MM_deliver.2.1 116 = .ok (.getfield 13, 3) := by decide +kernel
theorem e_MM_deliver_119 : decode m_MM_deliver.2.1 119 = .ok (.iload 6, 2) := by decide +kernel
theorem e_MM_deliver_121 : decode m_MM_deliver.2.1 121 = .ok (.baload, 1) := by decide +kernel
theorem e_MM_deliver_122 : decode m_MM_deliver.2.1 122 = .ok (.ifCond .eq 230, 3) := by decide +kernel
theorem e_MM_deliver_125 : decode m_MM_deliver.2.1 125 = .ok (.aload_n 0, 1) := by decide +kernel
theorem e_MM_deliver_126 : decode m_MM_deliver.2.1 126 = .ok (.getfield 7, 3) := by decide +kernel
theorem e_MM_deliver_129 : decode m_MM_deliver.2.1 129 = .ok (.iload 6, 2) := by decide +kernel
theorem e_MM_deliver_131 : decode m_MM_deliver.2.1 131 = .ok (.iaload, 1) := by decide +kernel
theorem e_MM_deliver_132 : decode m_MM_deliver.2.1 132 = .ok (.iconst 1, 1) := by decide +kernel
theorem e_MM_deliver_133 : decode m_MM_deliver.2.1 133 = .ok (.if_icmp .le 7, 3) := by decide +kernel
theorem e_MM_deliver_136 : decode m_MM_deliver.2.1 136 = .ok (.iconst 1, 1) := by decide +kernel
theorem e_MM_deliver_137 : decode m_MM_deliver.2.1 137 = .ok (.goto 4, 3) := by decide +kernel
theorem e_MM_deliver_140 : decode m_MM_deliver.2.1 140 = .ok (.iconst 0, 1) := by decide +kernel
theorem e_MM_deliver_141 : decode m_MM_deliver.2.1 141 = .ok (.istore 10, 2) := by decide +kernel
theorem e_MM_deliver_143 : decode m_MM_deliver.2.1 143 = .ok (.aload_n 0, 1) := by decide +kernel
theorem e_MM_deliver_144 : decode m_MM_deliver.2.1 144 = .ok (.iload_n 3, 1) := by decide +kernel
theorem e_MM_deliver_145 : decode m_MM_deliver.2.1 145 = .ok (.iload 5, 2) := by decide +kernel
theorem e_MM_deliver_147 : decode m_MM_deliver.2.1 147 = .ok (.iload 4, 2) := by decide +kernel
theorem e_MM_deliver_149 : decode m_MM_deliver.2.1 149 = .ok (.iconst 1, 1) := by decide +kernel
theorem e_MM_deliver_150 : decode m_MM_deliver.2.1 150 = .ok (.iload 10, 2) := by decide +kernel
theorem e_MM_deliver_152 : decode m_MM_deliver.2.1 152 = .ok (.ifCond .ne 7, 3) := by decide +kernel
theorem e_MM_deliver_155 : decode m_MM_deliver.2.1 155 = .ok (.iconst 1, 1) := by decide +kernel
theorem e_MM_deliver_156 : decode m_MM_deliver.2.1 156 = .ok (.goto 4, 3) := by decide +kernel
theorem e_MM_deliver_159 : decode m_MM_deliver.2.1 159 = .ok (.iconst 0, 1) := by decide +kernel
theorem e_MM_deliver_160 : decode m_MM_deliver.2.1 160 = .ok (.iload 10, 2) := by decide +kernel
theorem e_MM_deliver_162 : decode m_MM_deliver.2.1 162 = .ok (.invokevirtual 141, 3) := by decide +kernel
theorem e_MM_deliver_165 : decode m_MM_deliver.2.1 165 = .ok (.goto 187, 3) := by decide +kernel
theorem e_MM_deliver_168 : decode m_MM_deliver.2.1 168 = .ok (.iload_n 2, 1) := by decide +kernel
theorem e_MM_deliver_169 : decode m_MM_deliver.2.1 169 = .ok (.iconst 2, 1) := by decide +kernel
theorem e_MM_deliver_170 : decode m_MM_deliver.2.1 170 = .ok (.if_icmp .ne 40, 3) := by decide +kernel
theorem e_MM_deliver_173 : decode m_MM_deliver.2.1 173 = .ok (.aload_n 0, 1) := by decide +kernel
theorem e_MM_deliver_174 : decode m_MM_deliver.2.1 174 = .ok (.getfield 23, 3) := by decide +kernel
theorem e_MM_deliver_177 : decode m_MM_deliver.2.1 177 = .ok (.iload 6, 2) := by decide +kernel
theorem e_MM_deliver_179 : decode m_MM_deliver.2.1 179 = .ok (.iaload, 1) := by decide +kernel
theorem e_MM_deliver_180 : decode m_MM_deliver.2.1 180 = .ok (.ifCond .ge 172, 3) := by decide +kernel
theorem e_MM_deliver_183 : decode m_MM_deliver.2.1 183 = .ok (.aload_n 0, 1) := by decide +kernel
theorem e_MM_deliver_184 : decode m_MM_deliver.2.1 184 = .ok (.iload_n 3, 1) := by decide +kernel
theorem e_MM_deliver_185 : decode m_MM_deliver.2.1 185 = .ok (.iload 5, 2) := by decide +kernel
theorem e_MM_deliver_187 : decode m_MM_deliver.2.1 187 = .ok (.iload 4, 2) := by decide +kernel
theorem e_MM_deliver_189 : decode m_MM_deliver.2.1 189 = .ok (.aload_n 0, 1) := by decide +kernel
theorem e_MM_deliver_190 : decode m_MM_deliver.2.1 190 = .ok (.getfield 7, 3) := by decide +kernel
theorem e_MM_deliver_193 : decode m_MM_deliver.2.1 193 = .ok (.iload 6, 2) := by decide +kernel
theorem e_MM_deliver_195 : decode m_MM_deliver.2.1 195 = .ok (.iaload, 1) := by decide +kernel
theorem e_MM_deliver_196 : decode m_MM_deliver.2.1 196 = .ok (.aload_n 0, 1) := by decide +kernel
theorem e_MM_deliver_197 : decode m_MM_deliver.2.1 197 = .ok (.getfield 13, 3) := by decide +kernel
theorem e_MM_deliver_200 : decode m_MM_deliver.2.1 200 = .ok (.iload 6, 2) := by decide +kernel
theorem e_MM_deliver_202 : decode m_MM_deliver.2.1 202 = .ok (.baload, 1) := by decide +kernel
theorem e_MM_deliver_203 : decode m_MM_deliver.2.1 203 = .ok (.iconst 0, 1) := by decide +kernel
theorem e_MM_deliver_204 : decode m_MM_deliver.2.1 204 = .ok (.invokevirtual 141, 3) := by decide +kernel
theorem e_MM_deliver_207 : decode m_MM_deliver.2.1 207 = .ok (.goto 145, 3) := by decide +kernel
theorem e_MM_deliver_210 : decode m_MM_deliver.2.1 210 = .ok (.iload_n 2, 1) := by decide +kernel
theorem e_MM_deliver_211 : decode m_MM_deliver.2.1 211 = .ok (.iconst 3, 1) := by decide +kernel
theorem e_MM_deliver_212 : decode m_MM_deliver.2.1 212 = .ok (.if_icmp .ne 41, 3) := by decide +kernel
theorem e_MM_deliver_215 : decode m_MM_deliver.2.1 215 = .ok (.aload_n 0, 1) := by decide +kernel
theorem e_MM_deliver_216 : decode m_MM_deliver.2.1 216 = .ok (.iload_n 3, 1) := by decide +kernel
theorem e_MM_deliver_217 : decode m_MM_deliver.2.1 217 = .ok (.iload 5, 2) := by decide +kernel
theorem e_MM_deliver_219 : decode m_MM_deliver.2.1 219 = .ok (.aload_n 0, 1) := by decide +kernel
theorem e_MM_deliver_220 : decode m_MM_deliver.2.1 220 = .ok (.getfield 92, 3) := by decide +kernel
theorem e_MM_deliver_223 : decode m_MM_deliver.2.1 223 = .ok (.bipush 119, 2) := by decide +kernel
theorem e_MM_deliver_225 : decode m_MM_deliver.2.1 225 = .ok (.iaload, 1) := by decide +kernel
theorem e_MM_deliver_226 : decode m_MM_deliver.2.1 226 = .ok (.aload_n 0, 1) := by decide +kernel
theorem e_MM_deliver_227 : decode m_MM_deliver.2.1 227 = .ok (.getfield 95, 3) := by decide +kernel
theorem e_MM_deliver_230 : decode m_MM_deliver.2.1 230 = .ok (.bipush 119, 2) := by decide +kernel
theorem e_MM_deliver_232 : decode m_MM_deliver.2.1 232 = .ok (.baload, 1) := by decide +kernel
theorem e_MM_deliver_233 : decode m_MM_deliver.2.1 233 = .ok (.aload_n 0, 1) := by decide +kernel
theorem e_MM_deliver_234 : decode m_MM_deliver.2.1 234 = .ok (.getfield 98, 3) := by decide +kernel
theorem e_MM_deliver_237 : decode m_MM_deliver.2.1 237 = .ok (.bipush 119, 2) := by decide +kernel
theorem e_MM_deliver_239 : decode m_MM_deliver.2.1 239 = .ok (.baload, 1) := by decide +kernel
theorem e_MM_deliver_240 : decode m_MM_deliver.2.1 240 = .ok (.aload_n 0, 1) := by decide +kernel
theorem e_MM_deliver_241 : decode m_MM_deliver.2.1 241 = .ok (.getfield 101, 3) := by decide +kernel
theorem e_MM_deliver_244 : decode m_MM_deliver.2.1 244 = .ok (.bipush 119, 2) := by decide +kernel
theorem e_MM_deliver_246 : decode m_MM_deliver.2.1 246 = .ok (.iaload, 1) := by decide +kernel
theorem e_MM_deliver_247 : decode m_MM_deliver.2.1 247 = .ok (.invokevirtual 182, 3) := by decide +kernel
theorem e_MM_deliver_250 : decode m_MM_deliver.2.1 250 = .ok (.goto 102, 3) := by decide +kernel
theorem e_MM_deliver_253 : decode m_MM_deliver.2.1 253 = .ok (.iload_n 2, 1) := by decide +kernel
theorem e_MM_deliver_254 : decode m_MM_deliver.2.1 254 = .ok (.iconst 4, 1) := by decide +kernel
theorem e_MM_deliver_255 : decode m_MM_deliver.2.1 255 = .ok (.if_icmp .ne 18, 3) := by decide +kernel
theorem e_MM_deliver_258 : decode m_MM_deliver.2.1 258 = .ok (.aload_n 0, 1) := by decide +kernel
theorem e_MM_deliver_259 : decode m_MM_deliver.2.1 259 = .ok (.iload 4, 2) := by decide +kernel
theorem e_MM_deliver_261 : decode m_MM_deliver.2.1 261 = .ok (.iload 5, 2) := by decide +kernel
theorem e_MM_deliver_263 : decode m_MM_deliver.2.1 263 = .ok (.iload 7, 2) := by decide +kernel
theorem e_MM_deliver_265 : decode m_MM_deliver.2.1 265 = .ok (.iload 9, 2) := by decide +kernel
theorem e_MM_deliver_267 : decode m_MM_deliver.2.1 267 = .ok (.invokevirtual 186, 3) := by decide +kernel
theorem e_MM_deliver_270 : decode m_MM_deliver.2.1 270 = .ok (.goto 82, 3) := by decide +kernel
theorem e_MM_deliver_273 : decode m_MM_deliver.2.1 273 = .ok (.iload_n 2, 1) := by decide +kernel
theorem e_MM_deliver_274 : decode m_MM_deliver.2.1 274 = .ok (.iconst 5, 1) := by decide +kernel
theorem e_MM_deliver_275 : decode m_MM_deliver.2.1 275 = .ok (.if_icmp .ne 69, 3) := by decide +kernel
theorem e_MM_deliver_278 : decode m_MM_deliver.2.1 278 = .ok (.iload 7, 2) := by decide +kernel
theorem e_MM_deliver_280 : decode m_MM_deliver.2.1 280 = .ok (.aload_n 0, 1) := by decide +kernel
theorem e_MM_deliver_281 : decode m_MM_deliver.2.1 281 = .ok (.getfield 29, 3) := by decide +kernel
theorem e_MM_deliver_284 : decode m_MM_deliver.2.1 284 = .ok (.iload 6, 2) := by decide +kernel
theorem e_MM_deliver_286 : decode m_MM_deliver.2.1 286 = .ok (.iaload, 1) := by decide +kernel
theorem e_MM_deliver_287 : decode m_MM_deliver.2.1 287 = .ok (.if_icmp .gt 20, 3) := by decide +kernel
theorem e_MM_deliver_290 : decode m_MM_deliver.2.1 290 = .ok (.iload 7, 2) := by decide +kernel
theorem e_MM_deliver_292 : decode m_MM_deliver.2.1 292 = .ok (.aload_n 0, 1) := by decide +kernel
theorem e_MM_deliver_293 : decode m_MM_deliver.2.1 293 = .ok (.getfield 29, 3) := by decide +kernel
theorem e_MM_deliver_296 : decode m_MM_deliver.2.1 296 = .ok (.iload 6, 2) := by decide +kernel
theorem e_MM_deliver_298 : decode m_MM_deliver.2.1 298 = .ok (.iaload, 1) := by decide +kernel
theorem e_MM_deliver_299 : decode m_MM_deliver.2.1 299 = .ok (.if_icmp .ne 53, 3) := by decide +kernel
theorem e_MM_deliver_302 : decode m_MM_deliver.2.1 302 = .ok (.iload 8, 2) := by decide +kernel
theorem e_MM_deliver_304 : decode m_MM_deliver.2.1 304 = .ok (.ifCond .ge 48, 3) := by decide +kernel
theorem e_MM_deliver_307 : decode m_MM_deliver.2.1 307 = .ok (.aload_n 0, 1) := by decide +kernel
theorem e_MM_deliver_308 : decode m_MM_deliver.2.1 308 = .ok (.getfield 29, 3) := by decide +kernel
theorem e_MM_deliver_311 : decode m_MM_deliver.2.1 311 = .ok (.iload 6, 2) := by decide +kernel
theorem e_MM_deliver_313 : decode m_MM_deliver.2.1 313 = .ok (.iload 7, 2) := by decide +kernel
theorem e_MM_deliver_315 : decode m_MM_deliver.2.1 315 = .ok (.iastore, 1) := by decide +kernel
theorem e_MM_deliver_316 : decode m_MM_deliver.2.1 316 = .ok (.aload_n 0, 1) := by decide +kernel
theorem e_MM_deliver_317 : decode m_MM_deliver.2.1 317 = .ok (.getfield 23, 3) := by decide +kernel
theorem e_MM_deliver_320 : decode m_MM_deliver.2.1 320 = .ok (.iload 6, 2) := by decide +kernel
theorem e_MM_deliver_322 : decode m_MM_deliver.2.1 322 = .ok (.iload 8, 2) := by decide +kernel
theorem e_MM_deliver_324 : decode m_MM_deliver.2.1 324 = .ok (.iastore, 1) := by decide +kernel
theorem e_MM_deliver_325 : decode m_MM_deliver.2.1 325 = .ok (.aload_n 0, 1) := by decide +kernel
theorem e_MM_deliver_326 : decode m_MM_deliver.2.1 326 = .ok (.getfield 26, 3) := by decide +kernel
theorem e_MM_deliver_329 : decode m_MM_deliver.2.1 329 = .ok (.iload 6, 2) := by decide +kernel
theorem e_MM_deliver_331 : decode m_MM_deliver.2.1 331 = .ok (.iload 9, 2) := by decide +kernel
theorem e_MM_deliver_333 : decode m_MM_deliver.2.1 333 = .ok (.bastore, 1) := by decide +kernel
theorem e_MM_deliver_334 : decode m_MM_deliver.2.1 334 = .ok (.aload_n 0, 1) := by decide +kernel
theorem e_MM_deliver_335 : decode m_MM_deliver.2.1 335 = .ok (.iload_n 3, 1) := by decide +kernel
theorem e_MM_deliver_336 : decode m_MM_deliver.2.1 336 = .ok (.iload 5, 2) := by decide +kernel
theorem e_MM_deliver_338 : decode m_MM_deliver.2.1 338 = .ok (.invokevirtual 173, 3) := by decide +kernel
theorem e_MM_deliver_341 : decode m_MM_deliver.2.1 341 = .ok (.goto 11, 3) := by decide +kernel
theorem e_MM_deliver_344 : decode m_MM_deliver.2.1 344 = .ok (.aload_n 0, 1) := by decide +kernel
theorem e_MM_deliver_345 : decode m_MM_deliver.2.1 345 = .ok (.iload 4, 2) := by decide +kernel
theorem e_MM_deliver_347 : decode m_MM_deliver.2.1 347 = .ok (.iload 7, 2) := by decide +kernel
theorem e_MM_deliver_349 : decode m_MM_deliver.2.1 349 = .ok (.invokevirtual 179, 3) := by decide +kernel
theorem e_MM_deliver_352 : decode m_MM_deliver.2.1 352 = .ok (.iload_n 2, 1) := by decide +kernel
theorem e_MM_deliver_353 : decode m_MM_deliver.2.1 353 = .ok (.ireturn, 1) := by decide +kernel
theorem e_MM_evict_0 : decode m_MM_evict.2.1 0 = .ok (.aload_n 0, 1) := by decide +kernel
theorem e_MM_evict_1 : decode m_MM_evict.2.1 1 = .ok (.iconst 0, 1) := by decide +kernel
theorem e_MM_evict_2 : decode m_MM_evict.2.1 2 = .ok (.putfield 123, 3) := by decide +kernel
theorem e_MM_evict_5 : decode m_MM_evict.2.1 5 = .ok (.aload_n 0, 1) := by decide +kernel
theorem e_MM_evict_6 : decode m_MM_evict.2.1 6 = .ok (.iload_n 1, 1) := by decide +kernel
theorem e_MM_evict_7 : decode m_MM_evict.2.1 7 = .ok (.invokevirtual 145, 3) := by decide +kernel
theorem e_MM_evict_10 : decode m_MM_evict.2.1 10 = .ok (.ifCond .eq 42, 3) := by decide +kernel
theorem e_MM_evict_13 : decode m_MM_evict.2.1 13 = .ok (.iload_n 2, 1) := by decide +kernel
theorem e_MM_evict_14 : decode m_MM_evict.2.1 14 = .ok (.invokestatic 149, 3) := by decide +kernel
theorem e_MM_evict_17 : decode m_MM_evict.2.1 17 = .ok (.ifCond .eq 35, 3) := by decide +kernel
theorem e_MM_evict_20 : decode m_MM_evict.2.1 20 = .ok (.aload_n 0, 1) := by decide +kernel
theorem e_MM_evict_21 : decode m_MM_evict.2.1 21 = .ok (.getfield 7, 3) := by decide +kernel
theorem e_MM_evict_24 : decode m_MM_evict.2.1 24 = .ok (.iconst 2, 1) := by decide +kernel
theorem e_MM_evict_25 : decode m_MM_evict.2.1 25 = .ok (.iload_n 1, 1) := by decide +kernel
theorem e_MM_evict_26 : decode m_MM_evict.2.1 26 = .ok (.imul, 1) := by decide +kernel
theorem e_MM_evict_27 : decode m_MM_evict.2.1 27 = .ok (.iload_n 2, 1) := by decide +kernel
theorem e_MM_evict_28 : decode m_MM_evict.2.1 28 = .ok (.iadd, 1) := by decide +kernel
theorem e_MM_evict_29 : decode m_MM_evict.2.1 29 = .ok (.iaload, 1) := by decide +kernel
theorem e_MM_evict_30 : decode m_MM_evict.2.1 30 = .ok (.ifCond .eq 22, 3) := by decide +kernel
theorem e_MM_evict_33 : decode m_MM_evict.2.1 33 = .ok (.aload_n 0, 1) := by decide +kernel
theorem e_MM_evict_34 : decode m_MM_evict.2.1 34 = .ok (.getfield 32, 3) := by decide +kernel
theorem e_MM_evict_37 : decode m_MM_evict.2.1 37 = .ok (.iload_n 1, 1) := by decide +kernel
theorem e_MM_evict_38 : decode m_MM_evict.2.1 38 = .ok (.baload, 1) := by decide +kernel
theorem e_MM_evict_39 : decode m_MM_evict.2.1 39 = .ok (.ifCond .eq 15, 3) := by decide +kernel
theorem e_MM_evict_42 : decode m_MM_evict.2.1 42 = .ok (.aload_n 0, 1) := by decide +kernel
theorem e_MM_evict_43 : decode m_MM_evict.2.1 43 = .ok (.getfield 41, 3) := by decide +kernel
theorem e_MM_evict_46 : decode m_MM_evict.2.1 46 = .ok (.iload_n 1, 1) := by decide +kernel
theorem e_MM_evict_47 : decode m_MM_evict.2.1 47 = .ok (.iaload, 1) := by decide +kernel
theorem e_MM_evict_48 : decode m_MM_evict.2.1 48 = .ok (.iload_n 2, 1) := by decide +kernel
theorem e_MM_evict_49 : decode m_MM_evict.2.1 49 = .ok (.if_icmp .ne 5, 3) := by decide +kernel
theorem e_MM_evict_52 : decode m_MM_evict.2.1 52 = .ok (.iconst 0, 1) := by decide +kernel
theorem e_MM_evict_53 : decode m_MM_evict.2.1 53 = .ok (.ireturn, 1) := by decide +kernel
theorem e_MM_evict_54 : decode m_MM_evict.2.1 54 = .ok (.aload_n 0, 1) := by decide +kernel
theorem e_MM_evict_55 : decode m_MM_evict.2.1 55 = .ok (.iload_n 1, 1) := by decide +kernel
theorem e_MM_evict_56 : decode m_MM_evict.2.1 56 = .ok (.iload_n 2, 1) := by decide +kernel
theorem e_MM_evict_57 : decode m_MM_evict.2.1 57 = .ok (.aload_n 0, 1) := by decide +kernel
theorem e_MM_evict_58 : decode m_MM_evict.2.1 58 = .ok (.getfield 113, 3) := by decide +kernel
theorem e_MM_evict_61 : decode m_MM_evict.2.1 61 = .ok (.aload_n 0, 1) := by decide +kernel
theorem e_MM_evict_62 : decode m_MM_evict.2.1 62 = .ok (.getfield 7, 3) := by decide +kernel
theorem e_MM_evict_65 : decode m_MM_evict.2.1 65 = .ok (.iconst 2, 1) := by decide +kernel
theorem e_MM_evict_66 : decode m_MM_evict.2.1 66 = .ok (.iload_n 1, 1) := by decide +kernel
theorem e_MM_evict_67 : decode m_MM_evict.2.1 67 = .ok (.imul, 1) := by decide +kernel
theorem e_MM_evict_68 : decode m_MM_evict.2.1 68 = .ok (.iload_n 2, 1) := by decide +kernel
theorem e_MM_evict_69 : decode m_MM_evict.2.1 69 = .ok (.iadd, 1) := by decide +kernel
theorem e_MM_evict_70 : decode m_MM_evict.2.1 70 = .ok (.iaload, 1) := by decide +kernel
theorem e_MM_evict_71 : decode m_MM_evict.2.1 71 = .ok (.aload_n 0, 1) := by decide +kernel
theorem e_MM_evict_72 : decode m_MM_evict.2.1 72 = .ok (.getfield 13, 3) := by decide +kernel
theorem e_MM_evict_75 : decode m_MM_evict.2.1 75 = .ok (.iconst 2, 1) := by decide +kernel
theorem e_MM_evict_76 : decode m_MM_evict.2.1 76 = .ok (.iload_n 1, 1) := by decide +kernel
theorem e_MM_evict_77 : decode m_MM_evict.2.1 77 = .ok (.imul, 1) := by decide +kernel
theorem e_MM_evict_78 : decode m_MM_evict.2.1 78 = .ok (.iload_n 2, 1) := by decide +kernel
theorem e_MM_evict_79 : decode m_MM_evict.2.1 79 = .ok (.iadd, 1) := by decide +kernel
theorem e_MM_evict_80 : decode m_MM_evict.2.1 80 = .ok (.baload, 1) := by decide +kernel
theorem e_MM_evict_81 : decode m_MM_evict.2.1 81 = .ok (.iconst 0, 1) := by decide +kernel
theorem e_MM_evict_82 : decode m_MM_evict.2.1 82 = .ok (.invokevirtual 141, 3) := by decide +kernel
theorem e_MM_evict_85 : decode m_MM_evict.2.1 85 = .ok (.iconst 1, 1) := by decide +kernel
theorem e_MM_evict_86 : decode m_MM_evict.2.1 86 = .ok (.ireturn, 1) := by decide +kernel
theorem e_MM_letters_0 : decode m_MM_letters.2.1 0 = .ok (.aload_n 0, 1) := by decide +kernel
theorem e_MM_letters_1 : decode m_MM_letters.2.1 1 = .ok (.iconst 0, 1) := by decide +kernel
theorem e_MM_letters_2 : decode m_MM_letters.2.1 2 = .ok (.putfield 123, 3) := by decide +kernel
theorem e_MM_letters_5 : decode m_MM_letters.2.1 5 = .ok (.aload_n 0, 1) := by decide +kernel
theorem e_MM_letters_6 : decode m_MM_letters.2.1 6 = .ok (.getfield 126, 3) := by decide +kernel
theorem e_MM_letters_9 : decode m_MM_letters.2.1 9 = .ok (.ireturn, 1) := by decide +kernel
theorem e_MM_letter_0 : decode m_MM_letter.2.1 0 = .ok (.aload_n 0, 1) := by decide +kernel
theorem e_MM_letter_1 : decode m_MM_letter.2.1 1 = .ok (.iconst 0, 1) := by decide +kernel
theorem e_MM_letter_2 : decode m_MM_letter.2.1 2 = .ok (.putfield 123, 3) := by decide +kernel
theorem e_MM_letter_5 : decode m_MM_letter.2.1 5 = .ok (.iload_n 1, 1) := by decide +kernel
theorem e_MM_letter_6 : decode m_MM_letter.2.1 6 = .ok (.ifCond .lt 11, 3) := by decide +kernel
theorem e_MM_letter_9 : decode m_MM_letter.2.1 9 = .ok (.iload_n 1, 1) := by decide +kernel
theorem e_MM_letter_10 : decode m_MM_letter.2.1 10 = .ok (.aload_n 0, 1) := by decide +kernel
theorem e_MM_letter_11 : decode m_MM_letter.2.1 11 = .ok (.getfield 126, 3) := by decide +kernel
theorem e_MM_letter_14 : decode m_MM_letter.2.1 14 = .ok (.if_icmp .lt 5, 3) := by decide +kernel
theorem e_MM_letter_17 : decode m_MM_letter.2.1 17 = .ok (.iconst (-1), 1) := by decide +kernel
theorem e_MM_letter_18 : decode m_MM_letter.2.1 18 = .ok (.ireturn, 1) := by decide +kernel
theorem e_MM_letter_19 : decode m_MM_letter.2.1 19 = .ok (.aload_n 0, 1) := by decide +kernel
theorem e_MM_letter_20 : decode m_MM_letter.2.1 20 = .ok (.getfield 80, 3) := by decide +kernel
theorem e_MM_letter_23 : decode m_MM_letter.2.1 23 = .ok (.iload_n 1, 1) := by decide +kernel
theorem e_MM_letter_24 : decode m_MM_letter.2.1 24 = .ok (.iaload, 1) := by decide +kernel
theorem e_MM_letter_25 : decode m_MM_letter.2.1 25 = .ok (.bipush 8, 2) := by decide +kernel
theorem e_MM_letter_27 : decode m_MM_letter.2.1 27 = .ok (.aload_n 0, 1) := by decide +kernel
theorem e_MM_letter_28 : decode m_MM_letter.2.1 28 = .ok (.getfield 83, 3) := by decide +kernel
theorem e_MM_letter_31 : decode m_MM_letter.2.1 31 = .ok (.iload_n 1, 1) := by decide +kernel
theorem e_MM_letter_32 : decode m_MM_letter.2.1 32 = .ok (.iaload, 1) := by decide +kernel
theorem e_MM_letter_33 : decode m_MM_letter.2.1 33 = .ok (.imul, 1) := by decide +kernel
theorem e_MM_letter_34 : decode m_MM_letter.2.1 34 = .ok (.iadd, 1) := by decide +kernel
theorem e_MM_letter_35 : decode m_MM_letter.2.1 35 = .ok (.bipush 64, 2) := by decide +kernel
theorem e_MM_letter_37 : decode m_MM_letter.2.1 37 = .ok (.aload_n 0, 1) := by decide +kernel
theorem e_MM_letter_38 : decode m_MM_letter.2.1 38 = .ok (.getfield 86, 3) := by decide +kernel
theorem e_MM_letter_41 : decode m_MM_letter.2.1 41 = .ok (.iload_n 1, 1) := by decide +kernel
theorem e_MM_letter_42 : decode m_MM_letter.2.1 42 = .ok (.iaload, 1) := by decide +kernel
theorem e_MM_letter_43 : decode m_MM_letter.2.1 43 = .ok (.imul, 1) := by decide +kernel
theorem e_MM_letter_44 : decode m_MM_letter.2.1 44 = .ok (.iadd, 1) := by decide +kernel
theorem e_MM_letter_45 : decode m_MM_letter.2.1 45 = .ok (.sipush 512, 3) := by decide +kernel
theorem e_MM_letter_48 : decode m_MM_letter.2.1 48 = .ok (.aload_n 0, 1) := by decide +kernel
theorem e_MM_letter_49 : decode m_MM_letter.2.1 49 = .ok (.getfield 89, 3) := by decide +kernel
theorem e_MM_letter_52 : decode m_MM_letter.2.1 52 = .ok (.iload_n 1, 1) := by decide +kernel
theorem e_MM_letter_53 : decode m_MM_letter.2.1 53 = .ok (.iaload, 1) := by decide +kernel
theorem e_MM_letter_54 : decode m_MM_letter.2.1 54 = .ok (.imul, 1) := by decide +kernel
theorem e_MM_letter_55 : decode m_MM_letter.2.1 55 = .ok (.iadd, 1) := by decide +kernel
theorem e_MM_letter_56 : decode m_MM_letter.2.1 56 = .ok (.istore_n 2, 1) := by decide +kernel
theorem e_MM_letter_57 : decode m_MM_letter.2.1 57 = .ok (.aload_n 0, 1) := by decide +kernel
theorem e_MM_letter_58 : decode m_MM_letter.2.1 58 = .ok (.getfield 80, 3) := by decide +kernel
theorem e_MM_letter_61 : decode m_MM_letter.2.1 61 = .ok (.iload_n 1, 1) := by decide +kernel
theorem e_MM_letter_62 : decode m_MM_letter.2.1 62 = .ok (.iaload, 1) := by decide +kernel
theorem e_MM_letter_63 : decode m_MM_letter.2.1 63 = .ok (.iconst 3, 1) := by decide +kernel
theorem e_MM_letter_64 : decode m_MM_letter.2.1 64 = .ok (.if_icmp .eq 7, 3) := by decide +kernel
theorem e_MM_letter_67 : decode m_MM_letter.2.1 67 = .ok (.iload_n 2, 1) := by decide +kernel
theorem e_MM_letter_68 : decode m_MM_letter.2.1 68 = .ok (.goto 49, 3) := by decide +kernel
theorem e_MM_letter_71 : decode m_MM_letter.2.1 71 = .ok (.iload_n 2, 1) := by decide +kernel
theorem e_MM_letter_72 : decode m_MM_letter.2.1 72 = .ok (.sipush 1024, 3) := by decide +kernel
theorem e_MM_letter_75 : decode m_MM_letter.2.1 75 = .ok (.aload_n 0, 1) := by decide +kernel
theorem e_MM_letter_76 : decode m_MM_letter.2.1 76 = .ok (.getfield 92, 3) := by decide +kernel
theorem e_MM_letter_79 : decode m_MM_letter.2.1 79 = .ok (.iload_n 1, 1) := by decide +kernel
theorem e_MM_letter_80 : decode m_MM_letter.2.1 80 = .ok (.iaload, 1) := by decide +kernel
theorem e_MM_letter_81 : decode m_MM_letter.2.1 81 = .ok (.imul, 1) := by decide +kernel
theorem e_MM_letter_82 : decode m_MM_letter.2.1 82 = .ok (.iadd, 1) := by decide +kernel
theorem e_MM_letter_83 : decode m_MM_letter.2.1 83 = .ok (.aload_n 0, 1) := by decide +kernel
theorem e_MM_letter_84 : decode m_MM_letter.2.1 84 = .ok (.getfield 95, 3) := by decide +kernel
theorem e_MM_letter_87 : decode m_MM_letter.2.1 87 = .ok (.iload_n 1, 1) := by decide +kernel
theorem e_MM_letter_88 : decode m_MM_letter.2.1 88 = .ok (.baload, 1) := by decide +kernel
theorem e_MM_letter_89 : decode m_MM_letter.2.1 89 = .ok (.ifCond .eq 9, 3) := by decide +kernel
theorem e_MM_letter_92 : decode m_MM_letter.2.1 92 = .ok (.sipush 8192, 3) := by decide +kernel
theorem e_MM_letter_95 : decode m_MM_letter.2.1 95 = .ok (.goto 4, 3) := by decide +kernel
theorem e_MM_letter_98 : decode m_MM_letter.2.1 98 = .ok (.iconst 0, 1) := by decide +kernel
theorem e_MM_letter_99 : decode m_MM_letter.2.1 99 = .ok (.iadd, 1) := by decide +kernel
theorem e_MM_letter_100 : decode m_MM_letter.2.1 100 = .ok (.aload_n 0, 1) := by decide +kernel
theorem e_MM_letter_101 : decode m_MM_letter.2.1 101 = .ok (.getfield 98, 3) := by decide +kernel
theorem e_MM_letter_104 : decode m_MM_letter.2.1 104 = .ok (.iload_n 1, 1) := by decide +kernel
theorem e_MM_letter_105 : decode m_MM_letter.2.1 105 = .ok (.baload, 1) := by decide +kernel
theorem e_MM_letter_106 : decode m_MM_letter.2.1 106 = .ok (.ifCond .eq 9, 3) := by decide +kernel
theorem e_MM_letter_109 : decode m_MM_letter.2.1 109 = .ok (.sipush 16384, 3) := by decide +kernel
theorem e_MM_letter_112 : decode m_MM_letter.2.1 112 = .ok (.goto 4, 3) := by decide +kernel
theorem e_MM_letter_115 : decode m_MM_letter.2.1 115 = .ok (.iconst 0, 1) := by decide +kernel
theorem e_MM_letter_116 : decode m_MM_letter.2.1 116 = .ok (.iadd, 1) := by decide +kernel
theorem e_MM_letter_117 : decode m_MM_letter.2.1 117 = .ok (.ireturn, 1) := by decide +kernel
theorem e_MM_tokens_0 : decode m_MM_tokens.2.1 0 = .ok (.aload_n 0, 1) := by decide +kernel
theorem e_MM_tokens_1 : decode m_MM_tokens.2.1 1 = .ok (.iconst 0, 1) := by decide +kernel
theorem e_MM_tokens_2 : decode m_MM_tokens.2.1 2 = .ok (.putfield 123, 3) := by decide +kernel
theorem e_MM_tokens_5 : decode m_MM_tokens.2.1 5 = .ok (.aload_n 0, 1) := by decide +kernel
theorem e_MM_tokens_6 : decode m_MM_tokens.2.1 6 = .ok (.iload_n 1, 1) := by decide +kernel
theorem e_MM_tokens_7 : decode m_MM_tokens.2.1 7 = .ok (.invokevirtual 190, 3) := by decide +kernel
theorem e_MM_tokens_10 : decode m_MM_tokens.2.1 10 = .ok (.ifCond .eq 10, 3) := by decide +kernel
theorem e_MM_tokens_13 : decode m_MM_tokens.2.1 13 = .ok (.iload_n 2, 1) := by decide +kernel
theorem e_MM_tokens_14 : decode m_MM_tokens.2.1 14 = .ok (.invokestatic 149, 3) := by decide +kernel
theorem e_MM_tokens_17 : decode m_MM_tokens.2.1 17 = .ok (.ifCond .ne 5, 3) := by decide +kernel
theorem e_MM_tokens_20 : decode m_MM_tokens.2.1 20 = .ok (.iconst (-1), 1) := by decide +kernel
theorem e_MM_tokens_21 : decode m_MM_tokens.2.1 21 = .ok (.ireturn, 1) := by decide +kernel
theorem e_MM_tokens_22 : decode m_MM_tokens.2.1 22 = .ok (.iconst 2, 1) := by decide +kernel
theorem e_MM_tokens_23 : decode m_MM_tokens.2.1 23 = .ok (.iload_n 1, 1) := by decide +kernel
theorem e_MM_tokens_24 : decode m_MM_tokens.2.1 24 = .ok (.imul, 1) := by decide +kernel
theorem e_MM_tokens_25 : decode m_MM_tokens.2.1 25 = .ok (.iload_n 2, 1) := by decide +kernel
theorem e_MM_tokens_26 : decode m_MM_tokens.2.1 26 = .ok (.iadd, 1) := by decide +kernel
theorem e_MM_tokens_27 : decode m_MM_tokens.2.1 27 = .ok (.istore_n 3, 1) := by decide +kernel
theorem e_MM_tokens_28 : decode m_MM_tokens.2.1 28 = .ok (.aload_n 0, 1) := by decide +kernel
theorem e_MM_tokens_29 : decode m_MM_tokens.2.1 29 = .ok (.getfield 7, 3) := by decide +kernel
theorem e_MM_tokens_32 : decode m_MM_tokens.2.1 32 = .ok (.iload_n 3, 1) := by decide +kernel
theorem e_MM_tokens_33 : decode m_MM_tokens.2.1 33 = .ok (.iaload, 1) := by decide +kernel
theorem e_MM_tokens_34 : decode m_MM_tokens.2.1 34 = .ok (.aload_n 0, 1) := by decide +kernel
theorem e_MM_tokens_35 : decode m_MM_tokens.2.1 35 = .ok (.getfield 13, 3) := by decide +kernel
theorem e_MM_tokens_38 : decode m_MM_tokens.2.1 38 = .ok (.iload_n 3, 1) := by decide +kernel
theorem e_MM_tokens_39 : decode m_MM_tokens.2.1 39 = .ok (.baload, 1) := by decide +kernel
theorem e_MM_tokens_40 : decode m_MM_tokens.2.1 40 = .ok (.ifCond .eq 8, 3) := by decide +kernel
theorem e_MM_tokens_43 : decode m_MM_tokens.2.1 43 = .ok (.bipush 8, 2) := by decide +kernel
theorem e_MM_tokens_45 : decode m_MM_tokens.2.1 45 = .ok (.goto 4, 3) := by decide +kernel
theorem e_MM_tokens_48 : decode m_MM_tokens.2.1 48 = .ok (.iconst 0, 1) := by decide +kernel
theorem e_MM_tokens_49 : decode m_MM_tokens.2.1 49 = .ok (.iadd, 1) := by decide +kernel
theorem e_MM_tokens_50 : decode m_MM_tokens.2.1 50 = .ok (.aload_n 0, 1) := by decide +kernel
theorem e_MM_tokens_51 : decode m_MM_tokens.2.1 51 = .ok (.getfield 17, 3) := by decide +kernel
theorem e_MM_tokens_54 : decode m_MM_tokens.2.1 54 = .ok (.iload_n 3, 1) := by decide +kernel
theorem e_MM_tokens_55 : decode m_MM_tokens.2.1 55 = .ok (.baload, 1) := by decide +kernel
theorem e_MM_tokens_56 : decode m_MM_tokens.2.1 56 = .ok (.ifCond .eq 8, 3) := by decide +kernel
theorem e_MM_tokens_59 : decode m_MM_tokens.2.1 59 = .ok (.bipush 16, 2) := by decide +kernel
theorem e_MM_tokens_61 : decode m_MM_tokens.2.1 61 = .ok (.goto 4, 3) := by decide +kernel
theorem e_MM_tokens_64 : decode m_MM_tokens.2.1 64 = .ok (.iconst 0, 1) := by decide +kernel
theorem e_MM_tokens_65 : decode m_MM_tokens.2.1 65 = .ok (.iadd, 1) := by decide +kernel
theorem e_MM_tokens_66 : decode m_MM_tokens.2.1 66 = .ok (.ireturn, 1) := by decide +kernel
theorem e_MM_data_0 : decode m_MM_data.2.1 0 = .ok (.aload_n 0, 1) := by decide +kernel
theorem e_MM_data_1 : decode m_MM_data.2.1 1 = .ok (.iconst 0, 1) := by decide +kernel
theorem e_MM_data_2 : decode m_MM_data.2.1 2 = .ok (.putfield 123, 3) := by decide +kernel
theorem e_MM_data_5 : decode m_MM_data.2.1 5 = .ok (.aload_n 0, 1) := by decide +kernel
theorem e_MM_data_6 : decode m_MM_data.2.1 6 = .ok (.iload_n 1, 1) := by decide +kernel
theorem e_MM_data_7 : decode m_MM_data.2.1 7 = .ok (.invokevirtual 190, 3) := by decide +kernel
theorem e_MM_data_10 : decode m_MM_data.2.1 10 = .ok (.ifCond .eq 36, 3) := by decide +kernel
theorem e_MM_data_13 : decode m_MM_data.2.1 13 = .ok (.iload_n 2, 1) := by decide +kernel
theorem e_MM_data_14 : decode m_MM_data.2.1 14 = .ok (.invokestatic 149, 3) := by decide +kernel
theorem e_MM_data_17 : decode m_MM_data.2.1 17 = .ok (.ifCond .eq 29, 3) := by decide +kernel
theorem e_MM_data_20 : decode m_MM_data.2.1 20 = .ok (.aload_n 0, 1) := by decide +kernel
theorem e_MM_data_21 : decode m_MM_data.2.1 21 = .ok (.getfield 17, 3) := by decide +kernel
theorem e_MM_data_24 : decode m_MM_data.2.1 24 = .ok (.iconst 2, 1) := by decide +kernel
theorem e_MM_data_25 : decode m_MM_data.2.1 25 = .ok (.iload_n 1, 1) := by decide +kernel
theorem e_MM_data_26 : decode m_MM_data.2.1 26 = .ok (.imul, 1) := by decide +kernel
theorem e_MM_data_27 : decode m_MM_data.2.1 27 = .ok (.iload_n 2, 1) := by decide +kernel
theorem e_MM_data_28 : decode m_MM_data.2.1 28 = .ok (.iadd, 1) := by decide +kernel
theorem e_MM_data_29 : decode m_MM_data.2.1 29 = .ok (.baload, 1) := by decide +kernel
theorem e_MM_data_30 : decode m_MM_data.2.1 30 = .ok (.ifCond .eq 16, 3) := by decide +kernel
theorem e_MM_data_33 : decode m_MM_data.2.1 33 = .ok (.aload_n 0, 1) := by decide +kernel
theorem e_MM_data_34 : decode m_MM_data.2.1 34 = .ok (.getfield 20, 3) := by decide +kernel
theorem e_MM_data_37 : decode m_MM_data.2.1 37 = .ok (.iconst 2, 1) := by decide +kernel
theorem e_MM_data_38 : decode m_MM_data.2.1 38 = .ok (.iload_n 1, 1) := by decide +kernel
theorem e_MM_data_39 : decode m_MM_data.2.1 39 = .ok (.imul, 1) := by decide +kernel
theorem e_MM_data_40 : decode m_MM_data.2.1 40 = .ok (.iload_n 2, 1) := by decide +kernel
theorem e_MM_data_41 : decode m_MM_data.2.1 41 = .ok (.iadd, 1) := by decide +kernel
theorem e_MM_data_42 : decode m_MM_data.2.1 42 = .ok (.iaload, 1) := by decide +kernel
theorem e_MM_data_43 : decode m_MM_data.2.1 43 = .ok (.goto 4, 3) := by decide +kernel
theorem e_MM_data_46 : decode m_MM_data.2.1 46 = .ok (.iconst 0, 1) := by decide +kernel
theorem e_MM_data_47 : decode m_MM_data.2.1 47 = .ok (.ireturn, 1) := by decide +kernel
theorem e_MM_knows_0 : decode m_MM_knows.2.1 0 = .ok (.aload_n 0, 1) := by decide +kernel
theorem e_MM_knows_1 : decode m_MM_knows.2.1 1 = .ok (.iconst 0, 1) := by decide +kernel
theorem e_MM_knows_2 : decode m_MM_knows.2.1 2 = .ok (.putfield 123, 3) := by decide +kernel
theorem e_MM_knows_5 : decode m_MM_knows.2.1 5 = .ok (.aload_n 0, 1) := by decide +kernel
theorem e_MM_knows_6 : decode m_MM_knows.2.1 6 = .ok (.iload_n 1, 1) := by decide +kernel
theorem e_MM_knows_7 : decode m_MM_knows.2.1 7 = .ok (.invokevirtual 190, 3) := by decide +kernel
theorem e_MM_knows_10 : decode m_MM_knows.2.1 10 = .ok (.ifCond .eq 10, 3) := by decide +kernel
theorem e_MM_knows_13 : decode m_MM_knows.2.1 13 = .ok (.iload_n 2, 1) := by decide +kernel
theorem e_MM_knows_14 : decode m_MM_knows.2.1 14 = .ok (.invokestatic 149, 3) := by decide +kernel
theorem e_MM_knows_17 : decode m_MM_knows.2.1 17 = .ok (.ifCond .ne 6, 3) := by decide +kernel
theorem e_MM_knows_20 : decode m_MM_knows.2.1 20 = .ok (.bipush (-2), 2) := by decide +kernel
theorem e_MM_knows_22 : decode m_MM_knows.2.1 22 = .ok (.ireturn, 1) := by decide +kernel
theorem e_MM_knows_23 : decode m_MM_knows.2.1 23 = .ok (.iconst 2, 1) := by decide +kernel
theorem e_MM_knows_24 : decode m_MM_knows.2.1 24 = .ok (.iload_n 1, 1) := by decide +kernel
theorem e_MM_knows_25 : decode m_MM_knows.2.1 25 = .ok (.imul, 1) := by decide +kernel
theorem e_MM_knows_26 : decode m_MM_knows.2.1 26 = .ok (.iload_n 2, 1) := by decide +kernel
theorem e_MM_knows_27 : decode m_MM_knows.2.1 27 = .ok (.iadd, 1) := by decide +kernel
theorem e_MM_knows_28 : decode m_MM_knows.2.1 28 = .ok (.istore_n 3, 1) := by decide +kernel
theorem e_MM_knows_29 : decode m_MM_knows.2.1 29 = .ok (.aload_n 0, 1) := by decide +kernel
theorem e_MM_knows_30 : decode m_MM_knows.2.1 30 = .ok (.getfield 23, 3) := by decide +kernel
theorem e_MM_knows_33 : decode m_MM_knows.2.1 33 = .ok (.iload_n 3, 1) := by decide +kernel
theorem e_MM_knows_34 : decode m_MM_knows.2.1 34 = .ok (.iaload, 1) := by decide +kernel
theorem e_MM_knows_35 : decode m_MM_knows.2.1 35 = .ok (.ifCond .ge 7, 3) := by decide +kernel
theorem e_MM_knows_38 : decode m_MM_knows.2.1 38 = .ok (.iconst (-1), 1) := by decide +kernel
theorem e_MM_knows_39 : decode m_MM_knows.2.1 39 = .ok (.goto 25, 3) := by decide +kernel
theorem e_MM_knows_42 : decode m_MM_knows.2.1 42 = .ok (.aload_n 0, 1) := by decide +kernel
theorem e_MM_knows_43 : decode m_MM_knows.2.1 43 = .ok (.getfield 23, 3) := by decide +kernel
theorem e_MM_knows_46 : decode m_MM_knows.2.1 46 = .ok (.iload_n 3, 1) := by decide +kernel
theorem e_MM_knows_47 : decode m_MM_knows.2.1 47 = .ok (.iaload, 1) := by decide +kernel
theorem e_MM_knows_48 : decode m_MM_knows.2.1 48 = .ok (.aload_n 0, 1) := by decide +kernel
theorem e_MM_knows_49 : decode m_MM_knows.2.1 49 = .ok (.getfield 26, 3) := by decide +kernel
theorem e_MM_knows_52 : decode m_MM_knows.2.1 52 = .ok (.iload_n 3, 1) := by decide +kernel
theorem e_MM_knows_53 : decode m_MM_knows.2.1 53 = .ok (.baload, 1) := by decide +kernel
theorem e_MM_knows_54 : decode m_MM_knows.2.1 54 = .ok (.ifCond .eq 8, 3) := by decide +kernel
theorem e_MM_knows_57 : decode m_MM_knows.2.1 57 = .ok (.bipush 8, 2) := by decide +kernel
theorem e_MM_knows_59 : decode m_MM_knows.2.1 59 = .ok (.goto 4, 3) := by decide +kernel
theorem e_MM_knows_62 : decode m_MM_knows.2.1 62 = .ok (.iconst 0, 1) := by decide +kernel
theorem e_MM_knows_63 : decode m_MM_knows.2.1 63 = .ok (.iadd, 1) := by decide +kernel
theorem e_MM_knows_64 : decode m_MM_knows.2.1 64 = .ok (.ireturn, 1) := by decide +kernel
theorem e_MM_row_0 : decode m_MM_row.2.1 0 = .ok (.aload_n 0, 1) := by decide +kernel
theorem e_MM_row_1 : decode m_MM_row.2.1 1 = .ok (.iconst 0, 1) := by decide +kernel
theorem e_MM_row_2 : decode m_MM_row.2.1 2 = .ok (.putfield 123, 3) := by decide +kernel
theorem e_MM_row_5 : decode m_MM_row.2.1 5 = .ok (.iload_n 1, 1) := by decide +kernel
theorem e_MM_row_6 : decode m_MM_row.2.1 6 = .ok (.invokestatic 149, 3) := by decide +kernel
theorem e_MM_row_9 : decode m_MM_row.2.1 9 = .ok (.ifCond .eq 12, 3) := by decide +kernel
theorem e_MM_row_12 : decode m_MM_row.2.1 12 = .ok (.aload_n 0, 1) := by decide +kernel
theorem e_MM_row_13 : decode m_MM_row.2.1 13 = .ok (.getfield 71, 3) := by decide +kernel
theorem e_MM_row_16 : decode m_MM_row.2.1 16 = .ok (.iload_n 1, 1) := by decide +kernel
theorem e_MM_row_17 : decode m_MM_row.2.1 17 = .ok (.iaload, 1) := by decide +kernel
theorem e_MM_row_18 : decode m_MM_row.2.1 18 = .ok (.goto 4, 3) := by decide +kernel
theorem e_MM_row_21 : decode m_MM_row.2.1 21 = .ok (.iconst (-1), 1) := by decide +kernel
theorem e_MM_row_22 : decode m_MM_row.2.1 22 = .ok (.ireturn, 1) := by decide +kernel
theorem e_MM_state_0 : decode m_MM_state.2.1 0 = .ok (.aload_n 0, 1) := by decide +kernel
theorem e_MM_state_1 : decode m_MM_state.2.1 1 = .ok (.iconst 0, 1) := by decide +kernel
theorem e_MM_state_2 : decode m_MM_state.2.1 2 = .ok (.putfield 123, 3) := by decide +kernel
theorem e_MM_state_5 : decode m_MM_state.2.1 5 = .ok (.aload_n 0, 1) := by decide +kernel
theorem e_MM_state_6 : decode m_MM_state.2.1 6 = .ok (.iload_n 1, 1) := by decide +kernel
theorem e_MM_state_7 : decode m_MM_state.2.1 7 = .ok (.invokevirtual 145, 3) := by decide +kernel
theorem e_MM_state_10 : decode m_MM_state.2.1 10 = .ok (.ifCond .ne 7, 3) := by decide +kernel
theorem e_MM_state_13 : decode m_MM_state.2.1 13 = .ok (.iconst (-1), 1) := by decide +kernel
theorem e_MM_state_14 : decode m_MM_state.2.1 14 = .ok (.goto 40, 3) := by decide +kernel
theorem e_MM_state_17 : decode m_MM_state.2.1 17 = .ok (.aload_n 0, 1) := by decide +kernel
theorem e_MM_state_18 : decode m_MM_state.2.1 18 = .ok (.getfield 32, 3) := by decide +kernel
theorem e_MM_state_21 : decode m_MM_state.2.1 21 = .ok (.iload_n 1, 1) := by decide +kernel
theorem e_MM_state_22 : decode m_MM_state.2.1 22 = .ok (.baload, 1) := by decide +kernel
theorem e_MM_state_23 : decode m_MM_state.2.1 23 = .ok (.ifCond .ne 7, 3) := by decide +kernel
theorem e_MM_state_26 : decode m_MM_state.2.1 26 = .ok (.iconst 0, 1) := by decide +kernel
theorem e_MM_state_27 : decode m_MM_state.2.1 27 = .ok (.goto 27, 3) := by decide +kernel
theorem e_MM_state_30 : decode m_MM_state.2.1 30 = .ok (.iconst 1, 1) := by decide +kernel
theorem e_MM_state_31 : decode m_MM_state.2.1 31 = .ok (.aload_n 0, 1) := by decide +kernel
theorem e_MM_state_32 : decode m_MM_state.2.1 32 = .ok (.getfield 50, 3) := by decide +kernel
theorem e_MM_state_35 : decode m_MM_state.2.1 35 = .ok (.iload_n 1, 1) := by decide +kernel
theorem e_MM_state_36 : decode m_MM_state.2.1 36 = .ok (.iaload, 1) := by decide +kernel
theorem e_MM_state_37 : decode m_MM_state.2.1 37 = .ok (.iadd, 1) := by decide +kernel
theorem e_MM_state_38 : decode m_MM_state.2.1 38 = .ok (.aload_n 0, 1) := by decide +kernel
theorem e_MM_state_39 : decode m_MM_state.2.1 39 = .ok (.getfield 38, 3) := by decide +kernel
theorem e_MM_state_42 : decode m_MM_state.2.1 42 = .ok (.iload_n 1, 1) := by decide +kernel
theorem e_MM_state_43 : decode m_MM_state.2.1 43 = .ok (.baload, 1) := by decide +kernel
theorem e_MM_state_44 : decode m_MM_state.2.1 44 = .ok (.ifCond .eq 8, 3) := by decide +kernel
theorem e_MM_state_47 : decode m_MM_state.2.1 47 = .ok (.bipush 8, 2) := by decide +kernel
theorem e_MM_state_49 : decode m_MM_state.2.1 49 = .ok (.goto 4, 3) := by decide +kernel
theorem e_MM_state_52 : decode m_MM_state.2.1 52 = .ok (.iconst 0, 1) := by decide +kernel
theorem e_MM_state_53 : decode m_MM_state.2.1 53 = .ok (.iadd, 1) := by decide +kernel
theorem e_MM_state_54 : decode m_MM_state.2.1 54 = .ok (.ireturn, 1) := by decide +kernel
theorem e_MM_ended_0 : decode m_MM_ended.2.1 0 = .ok (.aload_n 0, 1) := by decide +kernel
theorem e_MM_ended_1 : decode m_MM_ended.2.1 1 = .ok (.iconst 0, 1) := by decide +kernel
theorem e_MM_ended_2 : decode m_MM_ended.2.1 2 = .ok (.putfield 123, 3) := by decide +kernel
theorem e_MM_ended_5 : decode m_MM_ended.2.1 5 = .ok (.aload_n 0, 1) := by decide +kernel
theorem e_MM_ended_6 : decode m_MM_ended.2.1 6 = .ok (.iload_n 1, 1) := by decide +kernel
theorem e_MM_ended_7 : decode m_MM_ended.2.1 7 = .ok (.invokevirtual 145, 3) := by decide +kernel
theorem e_MM_ended_10 : decode m_MM_ended.2.1 10 = .ok (.ifCond .eq 12, 3) := by decide +kernel
theorem e_MM_ended_13 : decode m_MM_ended.2.1 13 = .ok (.aload_n 0, 1) := by decide +kernel
theorem e_MM_ended_14 : decode m_MM_ended.2.1 14 = .ok (.getfield 56, 3) := by decide +kernel
theorem e_MM_ended_17 : decode m_MM_ended.2.1 17 = .ok (.iload_n 1, 1) := by decide +kernel
theorem e_MM_ended_18 : decode m_MM_ended.2.1 18 = .ok (.iaload, 1) := by decide +kernel
theorem e_MM_ended_19 : decode m_MM_ended.2.1 19 = .ok (.goto 4, 3) := by decide +kernel
theorem e_MM_ended_22 : decode m_MM_ended.2.1 22 = .ok (.iconst (-1), 1) := by decide +kernel
theorem e_MM_ended_23 : decode m_MM_ended.2.1 23 = .ok (.ireturn, 1) := by decide +kernel
theorem e_MM_result_0 : decode m_MM_result.2.1 0 = .ok (.aload_n 0, 1) := by decide +kernel
theorem e_MM_result_1 : decode m_MM_result.2.1 1 = .ok (.iconst 0, 1) := by decide +kernel
theorem e_MM_result_2 : decode m_MM_result.2.1 2 = .ok (.putfield 123, 3) := by decide +kernel
theorem e_MM_result_5 : decode m_MM_result.2.1 5 = .ok (.aload_n 0, 1) := by decide +kernel
theorem e_MM_result_6 : decode m_MM_result.2.1 6 = .ok (.iload_n 1, 1) := by decide +kernel
theorem e_MM_result_7 : decode m_MM_result.2.1 7 = .ok (.invokevirtual 145, 3) := by decide +kernel
theorem e_MM_result_10 : decode m_MM_result.2.1 10 = .ok (.ifCond .eq 12, 3) := by decide +kernel
theorem e_MM_result_13 : decode m_MM_result.2.1 13 = .ok (.aload_n 0, 1) := by decide +kernel
theorem e_MM_result_14 : decode m_MM_result.2.1 14 = .ok (.getfield 59, 3) := by decide +kernel
theorem e_MM_result_17 : decode m_MM_result.2.1 17 = .ok (.iload_n 1, 1) := by decide +kernel
theorem e_MM_result_18 : decode m_MM_result.2.1 18 = .ok (.iaload, 1) := by decide +kernel
theorem e_MM_result_19 : decode m_MM_result.2.1 19 = .ok (.goto 4, 3) := by decide +kernel
theorem e_MM_result_22 : decode m_MM_result.2.1 22 = .ok (.iconst 0, 1) := by decide +kernel
theorem e_MM_result_23 : decode m_MM_result.2.1 23 = .ok (.ireturn, 1) := by decide +kernel
theorem e_MM_memory_0 : decode m_MM_memory.2.1 0 = .ok (.aload_n 0, 1) := by decide +kernel
theorem e_MM_memory_1 : decode m_MM_memory.2.1 1 = .ok (.iconst 0, 1) := by decide +kernel
theorem e_MM_memory_2 : decode m_MM_memory.2.1 2 = .ok (.putfield 123, 3) := by decide +kernel
theorem e_MM_memory_5 : decode m_MM_memory.2.1 5 = .ok (.iconst 0, 1) := by decide +kernel
theorem e_MM_memory_6 : decode m_MM_memory.2.1 6 = .ok (.istore_n 2, 1) := by decide +kernel
theorem e_MM_memory_7 : decode m_MM_memory.2.1 7 = .ok (.iconst 0, 1) := by decide +kernel
theorem e_MM_memory_8 : decode m_MM_memory.2.1 8 = .ok (.istore_n 3, 1) := by decide +kernel
theorem e_MM_memory_9 : decode m_MM_memory.2.1 9 = .ok (.iload_n 3, 1) := by decide +kernel
theorem e_MM_memory_10 : decode m_MM_memory.2.1 10 = .ok (.aload_n 0, 1) := by decide +kernel
theorem e_MM_memory_11 : decode m_MM_memory.2.1 11 = .ok (.getfield 113, 3) := by decide +kernel
theorem e_MM_memory_14 : decode m_MM_memory.2.1 14 = .ok (.if_icmp .gt 44, 3) := by decide +kernel
theorem e_MM_memory_17 : decode m_MM_memory.2.1 17 = .ok (.iload_n 1, 1) := by decide +kernel
theorem e_MM_memory_18 : decode m_MM_memory.2.1 18 = .ok (.invokestatic 149, 3) := by decide +kernel
theorem e_MM_memory_21 : decode m_MM_memory.2.1 21 = .ok (.ifCond .eq 37, 3) := by decide +kernel
theorem e_MM_memory_24 : decode m_MM_memory.2.1 24 = .ok (.aload_n 0, 1) := by decide +kernel
theorem e_MM_memory_25 : decode m_MM_memory.2.1 25 = .ok (.getfield 13, 3) := by decide +kernel
theorem e_MM_memory_28 : decode m_MM_memory.2.1 28 = .ok (.iconst 2, 1) := by decide +kernel
theorem e_MM_memory_29 : decode m_MM_memory.2.1 29 = .ok (.iload_n 3, 1) := by decide +kernel
theorem e_MM_memory_30 : decode m_MM_memory.2.1 30 = .ok (.imul, 1) := by decide +kernel
theorem e_MM_memory_31 : decode m_MM_memory.2.1 31 = .ok (.iload_n 1, 1) := by decide +kernel
theorem e_MM_memory_32 : decode m_MM_memory.2.1 32 = .ok (.iadd, 1) := by decide +kernel
theorem e_MM_memory_33 : decode m_MM_memory.2.1 33 = .ok (.baload, 1) := by decide +kernel
theorem e_MM_memory_34 : decode m_MM_memory.2.1 34 = .ok (.ifCond .eq 16, 3) := by decide +kernel
theorem e_MM_memory_37 : decode m_MM_memory.2.1 37 = .ok (.aload_n 0, 1) := by decide +kernel
theorem e_MM_memory_38 : decode m_MM_memory.2.1 38 = .ok (.getfield 20, 3) := by decide +kernel
theorem e_MM_memory_41 : decode m_MM_memory.2.1 41 = .ok (.iconst 2, 1) := by decide +kernel
theorem e_MM_memory_42 : decode m_MM_memory.2.1 42 = .ok (.iload_n 3, 1) := by decide +kernel
theorem e_MM_memory_43 : decode m_MM_memory.2.1 43 = .ok (.imul, 1) := by decide +kernel
theorem e_MM_memory_44 : decode m_MM_memory.2.1 44 = .ok (.iload_n 1, 1) := by decide +kernel
theorem e_MM_memory_45 : decode m_MM_memory.2.1 45 = .ok (.iadd, 1) := by decide +kernel
theorem e_MM_memory_46 : decode m_MM_memory.2.1 46 = .ok (.iaload, 1) := by decide +kernel
theorem e_MM_memory_47 : decode m_MM_memory.2.1 47 = .ok (.goto 4, 3) := by decide +kernel
theorem e_MM_memory_50 : decode m_MM_memory.2.1 50 = .ok (.iload_n 2, 1) := by decide +kernel
theorem e_MM_memory_51 : decode m_MM_memory.2.1 51 = .ok (.istore_n 2, 1) := by decide +kernel
theorem e_MM_memory_52 : decode m_MM_memory.2.1 52 = .ok (.iinc 3 1, 3) := by decide +kernel
theorem e_MM_memory_55 : decode m_MM_memory.2.1 55 = .ok (.goto (-46), 3) := by decide +kernel
theorem e_MM_memory_58 : decode m_MM_memory.2.1 58 = .ok (.iconst 0, 1) := by decide +kernel
theorem e_MM_memory_59 : decode m_MM_memory.2.1 59 = .ok (.istore_n 3, 1) := by decide +kernel
theorem e_MM_memory_60 : decode m_MM_memory.2.1 60 = .ok (.iload_n 3, 1) := by decide +kernel
theorem e_MM_memory_61 : decode m_MM_memory.2.1 61 = .ok (.aload_n 0, 1) := by decide +kernel
theorem e_MM_memory_62 : decode m_MM_memory.2.1 62 = .ok (.getfield 126, 3) := by decide +kernel
theorem e_MM_memory_65 : decode m_MM_memory.2.1 65 = .ok (.if_icmp .ge 56, 3) := by decide +kernel
theorem e_MM_memory_68 : decode m_MM_memory.2.1 68 = .ok (.iload_n 1, 1) := by decide +kernel
theorem e_MM_memory_69 : decode m_MM_memory.2.1 69 = .ok (.invokestatic 149, 3) := by decide +kernel
theorem e_MM_memory_72 : decode m_MM_memory.2.1 72 = .ok (.ifCond .eq 49, 3) := by decide +kernel
theorem e_MM_memory_75 : decode m_MM_memory.2.1 75 = .ok (.aload_n 0, 1) := by decide +kernel
theorem e_MM_memory_76 : decode m_MM_memory.2.1 76 = .ok (.getfield 80, 3) := by decide +kernel
theorem e_MM_memory_79 : decode m_MM_memory.2.1 79 = .ok (.iload_n 3, 1) := by decide +kernel
theorem e_MM_memory_80 : decode m_MM_memory.2.1 80 = .ok (.iaload, 1) := by decide +kernel
theorem e_MM_memory_81 : decode m_MM_memory.2.1 81 = .ok (.iconst 3, 1) := by decide +kernel
theorem e_MM_memory_82 : decode m_MM_memory.2.1 82 = .ok (.if_icmp .ne 31, 3) := by decide +kernel
theorem e_MM_memory_85 : decode m_MM_memory.2.1 85 = .ok (.aload_n 0, 1) := by decide +kernel
theorem e_MM_memory_86 : decode m_MM_memory.2.1 86 = .ok (.getfield 89, 3) := by decide +kernel
theorem e_MM_memory_89 : decode m_MM_memory.2.1 89 = .ok (.iload_n 3, 1) := by decide +kernel
theorem e_MM_memory_90 : decode m_MM_memory.2.1 90 = .ok (.iaload, 1) := by decide +kernel
theorem e_MM_memory_91 : decode m_MM_memory.2.1 91 = .ok (.iload_n 1, 1) := by decide +kernel
theorem e_MM_memory_92 : decode m_MM_memory.2.1 92 = .ok (.if_icmp .ne 21, 3) := by decide +kernel
theorem e_MM_memory_95 : decode m_MM_memory.2.1 95 = .ok (.aload_n 0, 1) := by decide +kernel
theorem e_MM_memory_96 : decode m_MM_memory.2.1 96 = .ok (.getfield 95, 3) := by decide +kernel
theorem e_MM_memory_99 : decode m_MM_memory.2.1 99 = .ok (.iload_n 3, 1) := by decide +kernel
theorem e_MM_memory_100 : decode m_MM_memory.2.1 100 = .ok (.baload, 1) := by decide +kernel
theorem e_MM_memory_101 : decode m_MM_memory.2.1 101 = .ok (.ifCond .eq 12, 3) := by decide +kernel
theorem e_MM_memory_104 : decode m_MM_memory.2.1 104 = .ok (.aload_n 0, 1) := by decide +kernel
theorem e_MM_memory_105 : decode m_MM_memory.2.1 105 = .ok (.getfield 101, 3) := by decide +kernel
theorem e_MM_memory_108 : decode m_MM_memory.2.1 108 = .ok (.iload_n 3, 1) := by decide +kernel
theorem e_MM_memory_109 : decode m_MM_memory.2.1 109 = .ok (.iaload, 1) := by decide +kernel
theorem e_MM_memory_110 : decode m_MM_memory.2.1 110 = .ok (.goto 4, 3) := by decide +kernel
theorem e_MM_memory_113 : decode m_MM_memory.2.1 113 = .ok (.iload_n 2, 1) := by decide +kernel
theorem e_MM_memory_114 : decode m_MM_memory.2.1 114 = .ok (.istore_n 2, 1) := by decide +kernel
theorem e_MM_memory_115 : decode m_MM_memory.2.1 115 = .ok (.iinc 3 1, 3) := by decide +kernel
theorem e_MM_memory_118 : decode m_MM_memory.2.1 118 = .ok (.goto (-58), 3) := by decide +kernel
theorem e_MM_memory_121 : decode m_MM_memory.2.1 121 = .ok (.iload_n 2, 1) := by decide +kernel
theorem e_MM_memory_122 : decode m_MM_memory.2.1 122 = .ok (.ireturn, 1) := by decide +kernel
end
section
theorem e_Math_max_0 : decode m_Math_max.2.1 0 = .ok (.iload_n 0, 1) := by decide +kernel
theorem e_Math_max_1 : decode m_Math_max.2.1 1 = .ok (.iload_n 1, 1) := by decide +kernel
theorem e_Math_max_2 : decode m_Math_max.2.1 2 = .ok (.if_icmp .lt 7, 3) := by decide +kernel
theorem e_Math_max_5 : decode m_Math_max.2.1 5 = .ok (.iload_n 0, 1) := by decide +kernel
theorem e_Math_max_6 : decode m_Math_max.2.1 6 = .ok (.goto 4, 3) := by decide +kernel
theorem e_Math_max_9 : decode m_Math_max.2.1 9 = .ok (.iload_n 1, 1) := by decide +kernel
theorem e_Math_max_10 : decode m_Math_max.2.1 10 = .ok (.ireturn, 1) := by decide +kernel
theorem e_Math_min_0 : decode m_Math_min.2.1 0 = .ok (.iload_n 0, 1) := by decide +kernel
theorem e_Math_min_1 : decode m_Math_min.2.1 1 = .ok (.iload_n 1, 1) := by decide +kernel
theorem e_Math_min_2 : decode m_Math_min.2.1 2 = .ok (.if_icmp .gt 7, 3) := by decide +kernel
theorem e_Math_min_5 : decode m_Math_min.2.1 5 = .ok (.iload_n 0, 1) := by decide +kernel
theorem e_Math_min_6 : decode m_Math_min.2.1 6 = .ok (.goto 4, 3) := by decide +kernel
theorem e_Math_min_9 : decode m_Math_min.2.1 9 = .ok (.iload_n 1, 1) := by decide +kernel
theorem e_Math_min_10 : decode m_Math_min.2.1 10 = .ok (.ireturn, 1) := by decide +kernel
theorem e_AC_init_0 : decode m_AC_init.2.1 0 = .ok (.aload_n 0, 1) := by decide +kernel
theorem e_AC_init_1 : decode m_AC_init.2.1 1 = .ok (.invokespecial 1, 3) := by decide +kernel
theorem e_AC_init_4 : decode m_AC_init.2.1 4 = .ok (.return_, 1) := by decide +kernel
theorem e_AbL_init_0 : decode m_AbL_init.2.1 0 = .ok (.aload_n 0, 1) := by decide +kernel
theorem e_AbL_init_1 : decode m_AbL_init.2.1 1 = .ok (.invokespecial 1, 3) := by decide +kernel
theorem e_AbL_init_4 : decode m_AbL_init.2.1 4 = .ok (.aload_n 0, 1) := by decide +kernel
theorem e_AbL_init_5 : decode m_AbL_init.2.1 5 = .ok (.iconst 0, 1) := by decide +kernel
theorem e_AbL_init_6 : decode m_AbL_init.2.1 6 = .ok (.putfield 7, 3) := by decide +kernel
theorem e_AbL_init_9 : decode m_AbL_init.2.1 9 = .ok (.return_, 1) := by decide +kernel
theorem e_AL_init_0 : decode m_AL_init.2.1 0 = .ok (.aload_n 0, 1) := by decide +kernel
theorem e_AL_init_1 : decode m_AL_init.2.1 1 = .ok (.invokespecial 1, 3) := by decide +kernel
theorem e_AL_init_4 : decode m_AL_init.2.1 4 = .ok (.aload_n 0, 1) := by decide +kernel
theorem e_AL_init_5 : decode m_AL_init.2.1 5 = .ok (.getstatic 39, 3) := by decide +kernel
theorem e_AL_init_8 : decode m_AL_init.2.1 8 = .ok (.putfield 9, 3) := by decide +kernel
theorem e_AL_init_11 : decode m_AL_init.2.1 11 = .ok (.return_, 1) := by decide +kernel
theorem e_AL_grow1_0 : decode m_AL_grow1.2.1 0 = .ok (.aload_n 0, 1) := by decide +kernel
theorem e_AL_grow1_1 : decode m_AL_grow1.2.1 1 = .ok (.getfield 9, 3) := by decide +kernel
theorem e_AL_grow1_4 : decode m_AL_grow1.2.1 4 = .ok (.arraylength, 1) := by decide +kernel
theorem e_AL_grow1_5 : decode m_AL_grow1.2.1 5 = .ok (.istore_n 2, 1) := by decide +kernel
theorem e_AL_grow1_6 : decode m_AL_grow1.2.1 6 = .ok (.iload_n 2, 1) := by decide +kernel
theorem e_AL_grow1_7 : decode m_AL_grow1.2.1 7 = .ok (.ifCond .gt 13, 3) := by decide +kernel
theorem e_AL_grow1_10 : decode m_AL_grow1.2.1 10 = .ok (.aload_n 0, 1) := by decide +kernel
theorem e_AL_grow1_11 : decode m_AL_grow1.2.1 11 = .ok (.getfield 9, 3) := by decide +kernel
theorem e_AL_grow1_14 : decode m_AL_grow1.2.1 14 = .ok (.getstatic 39, 3) := by decide +kernel
theorem e_AL_grow1_17 : decode m_AL_grow1.2.1 17 = .ok (.if_acmp .eq 28, 3) := by decide +kernel
theorem e_AL_grow1_20 : decode m_AL_grow1.2.1 20 = .ok (.iload_n 2, 1) := by decide +kernel
theorem e_AL_grow1_21 : decode m_AL_grow1.2.1 21 = .ok (.iload_n 1, 1) := by decide +kernel
theorem e_AL_grow1_22 : decode m_AL_grow1.2.1 22 = .ok (.iload_n 2, 1) := by decide +kernel
theorem e_AL_grow1_23 : decode m_AL_grow1.2.1 23 = .ok (.isub, 1) := by decide +kernel
theorem e_AL_grow1_24 : decode m_AL_grow1.2.1 24 = .ok (.iload_n 2, 1) := by decide +kernel
theorem e_AL_grow1_25 : decode m_AL_grow1.2.1 25 = .ok (.iconst 1, 1) := by decide +kernel
theorem e_AL_grow1_26 : decode m_AL_grow1.2.1 26 = .ok (.ishr, 1) := by decide +kernel
theorem e_AL_grow1_27 : decode m_AL_grow1.2.1 27 = .ok (.invokestatic 73, 3) := by decide +kernel
theorem e_AL_grow1_30 : decode m_AL_grow1.2.1 30 = .ok (.istore_n 3, 1) := by decide +kernel
theorem e_AL_grow1_31 : decode m_AL_grow1.2.1 31 = .ok (.aload_n 0, 1) := by decide +kernel
theorem e_AL_grow1_32 : decode m_AL_grow1.2.1 32 = .ok (.aload_n 0, 1) := by decide +kernel
theorem e_AL_grow1_33 : decode m_AL_grow1.2.1 33 = .ok (.getfield 9, 3) := by decide +kernel
theorem e_AL_grow1_36 : decode m_AL_grow1.2.1 36 = .ok (.iload_n 3, 1) := by decide +kernel
theorem e_AL_grow1_37 : decode m_AL_grow1.2.1 37 = .ok (.invokestatic 66, 3) := by decide +kernel
theorem e_AL_grow1_40 : decode m_AL_grow1.2.1 40 = .ok (.dup_x1, 1) := by decide +kernel
theorem e_AL_grow1_41 : decode m_AL_grow1.2.1 41 = .ok (.putfield 9, 3) := by decide +kernel
theorem e_AL_grow1_44 : decode m_AL_grow1.2.1 44 = .ok (.areturn, 1) := by decide +kernel
theorem e_AL_grow1_45 : decode m_AL_grow1.2.1 45 = .ok (.aload_n 0, 1) := by decide +kernel
theorem e_AL_grow1_46 : decode m_AL_grow1.2.1 46 = .ok (.bipush 10, 2) := by decide +kernel
theorem e_AL_grow1_48 : decode m_AL_grow1.2.1 48 = .ok (.iload_n 1, 1) := by decide +kernel
theorem e_AL_grow1_49 : decode m_AL_grow1.2.1 49 = .ok (.invokestatic 79, 3) := by decide +kernel
theorem e_AL_grow1_52 : decode m_AL_grow1.2.1 52 = .ok (.anewarray 7, 3) := by decide +kernel
theorem e_AL_grow1_55 : decode m_AL_grow1.2.1 55 = .ok (.dup_x1, 1) := by decide +kernel
theorem e_AL_grow1_56 : decode m_AL_grow1.2.1 56 = .ok (.putfield 9, 3) := by decide +kernel
theorem e_AL_grow1_59 : decode m_AL_grow1.2.1 59 = .ok (.areturn, 1) := by decide +kernel
theorem e_AL_grow0_0 : decode m_AL_grow0.2.1 0 = .ok (.aload_n 0, 1) := by decide +kernel
theorem e_AL_grow0_1 : decode m_AL_grow0.2.1 1 = .ok (.aload_n 0, 1) := by decide +kernel
theorem e_AL_grow0_2 : decode m_AL_grow0.2.1 2 = .ok (.getfield 48, 3) := by decide +kernel
theorem e_AL_grow0_5 : decode m_AL_grow0.2.1 5 = .ok (.iconst 1, 1) := by decide +kernel
theorem e_AL_grow0_6 : decode m_AL_grow0.2.1 6 = .ok (.iadd, 1) := by decide +kernel
theorem e_AL_grow0_7 : decode m_AL_grow0.2.1 7 = .ok (.invokevirtual 69, 3) := by decide +kernel
theorem e_AL_grow0_10 : decode m_AL_grow0.2.1 10 = .ok (.areturn, 1) := by decide +kernel
theorem e_AL_size_0 : decode m_AL_size.2.1 0 = .ok (.aload_n 0, 1) := by decide +kernel
theorem e_AL_size_1 : decode m_AL_size.2.1 1 = .ok (.getfield 48, 3) := by decide +kernel
theorem e_AL_size_4 : decode m_AL_size.2.1 4 = .ok (.ireturn, 1) := by decide +kernel
theorem e_AL_isEmpty_0 : decode m_AL_isEmpty.2.1 0 = .ok (.aload_n 0, 1) := by decide +kernel
theorem e_AL_isEmpty_1 : decode m_AL_isEmpty.2.1 1 = .ok (.getfield 48, 3) := by decide +kernel
theorem e_AL_isEmpty_4 : decode m_AL_isEmpty.2.1 4 = .ok (.ifCond .ne 7, 3) := by decide +kernel
theorem e_AL_isEmpty_7 : decode m_AL_isEmpty.2.1 7 = .ok (.iconst 1, 1) := by decide +kernel
theorem e_AL_isEmpty_8 : decode m_AL_isEmpty.2.1 8 = .ok (.goto 4, 3) := by decide +kernel
theorem e_AL_isEmpty_11 : decode m_AL_isEmpty.2.1 11 = .ok (.iconst 0, 1) := by decide +kernel
theorem e_AL_isEmpty_12 : decode m_AL_isEmpty.2.1 12 = .ok (.ireturn, 1) := by decide +kernel
theorem e_AL_elementData_0 : decode m_AL_elementData.2.1 0 = .ok (.aload_n 0, 1) := by decide +kernel
theorem e_AL_elementData_1 : decode m_AL_elementData.2.1 1 = .ok (.getfield 9, 3) := by decide +kernel
theorem e_AL_elementData_4 : decode m_AL_elementData.2.1 4 = .ok (.iload_n 1, 1) := by decide +kernel
theorem e_AL_elementData_5 : decode m_AL_elementData.2.1 5 = .ok (.aaload, 1) := by decide +kernel
theorem e_AL_elementData_6 : decode m_AL_elementData.2.1 6 = .ok (.areturn, 1) := by decide +kernel
theorem e_AL_get_0 : decode m_AL_get.2.1 0 = .ok (.iload_n 1, 1) := by decide +kernel
theorem e_AL_get_1 : decode m_AL_get.2.1 1 = .ok (.aload_n 0, 1) := by decide +kernel
theorem e_AL_get_2 : decode m_AL_get.2.1 2 = .ok (.getfield 48, 3) := by decide +kernel
theorem e_AL_get_5 : decode m_AL_get.2.1 5 = .ok (.invokestatic 118, 3) := by decide +kernel
theorem e_AL_get_8 : decode m_AL_get.2.1 8 = .ok (.pop, 1) := by decide +kernel
theorem e_AL_get_9 : decode m_AL_get.2.1 9 = .ok (.aload_n 0, 1) := by decide +kernel
theorem e_AL_get_10 : decode m_AL_get.2.1 10 = .ok (.iload_n 1, 1) := by decide +kernel
theorem e_AL_get_11 : decode m_AL_get.2.1 11 = .ok (.invokevirtual 123, 3) := by decide +kernel
theorem e_AL_get_14 : decode m_AL_get.2.1 14 = .ok (.areturn, 1) := by decide +kernel
theorem e_AL_add3_0 : decode m_AL_add3.2.1 0 = .ok (.iload_n 3, 1) := by decide +kernel
theorem e_AL_add3_1 : decode m_AL_add3.2.1 1 = .ok (.aload_n 2, 1) := by decide +kernel
theorem e_AL_add3_2 : decode m_AL_add3.2.1 2 = .ok (.arraylength, 1) := by decide +kernel
theorem e_AL_add3_3 : decode m_AL_add3.2.1 3 = .ok (.if_icmp .ne 8, 3) := by decide +kernel
theorem e_AL_add3_6 : decode m_AL_add3.2.1 6 = .ok (.aload_n 0, 1) := by decide +kernel
theorem e_AL_add3_7 : decode m_AL_add3.2.1 7 = .ok (.invokevirtual 129, 3) := by decide +kernel
theorem e_AL_add3_10 : decode m_AL_add3.2.1 10 = .ok (.astore_n 2, 1) := by decide +kernel
theorem e_AL_add3_11 : decode m_AL_add3.2.1 11 = .ok (.aload_n 2, 1) := by decide +kernel
theorem e_AL_add3_12 : decode m_AL_add3.2.1 12 = .ok (.iload_n 3, 1) := by decide +kernel
theorem e_AL_add3_13 : decode m_AL_add3.2.1 13 = .ok (.aload_n 1, 1) := by decide +kernel
theorem e_AL_add3_14 : decode m_AL_add3.2.1 14 = .ok (.aastore, 1) := by decide +kernel
theorem e_AL_add3_15 : decode m_AL_add3.2.1 15 = .ok (.aload_n 0, 1) := by decide +kernel
theorem e_AL_add3_16 : decode m_AL_add3.2.1 16 = .ok (.iload_n 3, 1) := by decide +kernel
theorem e_AL_add3_17 : decode m_AL_add3.2.1 17 = .ok (.iconst 1, 1) := by decide +kernel
theorem e_AL_add3_18 : decode m_AL_add3.2.1 18 = .ok (.iadd, 1) := by decide +kernel
theorem e_AL_add3_19 : decode m_AL_add3.2.1 19 = .ok (.putfield 48, 3) := by decide +kernel
theorem e_AL_add3_22 : decode m_AL_add3.2.1 22 = .ok (.return_, 1) := by decide +kernel
theorem e_AL_add1_0 : decode m_AL_add1.2.1 0 = .ok (.aload_n 0, 1) := by decide +kernel
theorem e_AL_add1_1 : decode m_AL_add1.2.1 1 = .ok (.dup, 1) := by decide +kernel
theorem e_AL_add1_2 : decode m_AL_add1.2.1 2 = .ok (.getfield 63, 3) := by decide +kernel
theorem e_AL_add1_5 : decode m_AL_add1.2.1 5 = .ok (.iconst 1, 1) := by decide +kernel
theorem e_AL_add1_6 : decode m_AL_add1.2.1 6 = .ok (.iadd, 1) := by decide +kernel
theorem e_AL_add1_7 : decode m_AL_add1.2.1 7 = .ok (.putfield 63, 3) := by decide +kernel
theorem e_AL_add1_10 : decode m_AL_add1.2.1 10 = .ok (.aload_n 0, 1) := by decide +kernel
theorem e_AL_add1_11 : decode m_AL_add1.2.1 11 = .ok (.aload_n 1, 1) := by decide +kernel
theorem e_AL_add1_12 : decode m_AL_add1.2.1 12 = .ok (.aload_n 0, 1) := by decide +kernel
theorem e_AL_add1_13 : decode m_AL_add1.2.1 13 = .ok (.getfield 9, 3) := by decide +kernel
theorem e_AL_add1_16 : decode m_AL_add1.2.1 16 = .ok (.aload_n 0, 1) := by decide +kernel
theorem e_AL_add1_17 : decode m_AL_add1.2.1 17 = .ok (.getfield 48, 3) := by decide +kernel
theorem e_AL_add1_20 : decode m_AL_add1.2.1 20 = .ok (.invokevirtual 131, 3) := by decide +kernel
theorem e_AL_add1_23 : decode m_AL_add1.2.1 23 = .ok (.iconst 1, 1) := by decide +kernel
theorem e_AL_add1_24 : decode m_AL_add1.2.1 24 = .ok (.ireturn, 1) := by decide +kernel
theorem e_AL_remove_0 : decode m_AL_remove.2.1 0 = .ok (.iload_n 1, 1) := by decide +kernel
theorem e_AL_remove_1 : decode m_AL_remove.2.1 1 = .ok (.aload_n 0, 1) := by decide +kernel
theorem e_AL_remove_2 : decode m_AL_remove.2.1 2 = .ok (.getfield 48, 3) := by decide +kernel
theorem e_AL_remove_5 : decode m_AL_remove.2.1 5 = .ok (.invokestatic 118, 3) := by decide +kernel
theorem e_AL_remove_8 : decode m_AL_remove.2.1 8 = .ok (.pop, 1) := by decide +kernel
theorem e_AL_remove_9 : decode m_AL_remove.2.1 9 = .ok (.aload_n 0, 1) := by decide +kernel
theorem e_AL_remove_10 : decode m_AL_remove.2.1 10 = .ok (.getfield 9, 3) := by decide +kernel
theorem e_AL_remove_13 : decode m_AL_remove.2.1 13 = .ok (.astore_n 2, 1) := by decide +kernel
theorem e_AL_remove_14 : decode m_AL_remove.2.1 14 = .ok (.aload_n 2, 1) := by decide +kernel
theorem e_AL_remove_15 : decode m_AL_remove.2.1 15 = .ok (.iload_n 1, 1) := by decide +kernel
theorem e_AL_remove_16 : decode m_AL_remove.2.1 16 = .ok (.aaload, 1) := by decide +kernel
theorem e_AL_remove_17 : decode m_AL_remove.2.1 17 = .ok (.astore_n 3, 1) := by decide +kernel
theorem e_AL_remove_18 : decode m_AL_remove.2.1 18 = .ok (.aload_n 0, 1) := by decide +kernel
theorem e_AL_remove_19 : decode m_AL_remove.2.1 19 = .ok (.aload_n 2, 1) := by decide +kernel
theorem e_AL_remove_20 : decode m_AL_remove.2.1 20 = .ok (.iload_n 1, 1) := by decide +kernel
theorem e_AL_remove_21 : decode m_AL_remove.2.1 21 = .ok (.invokevirtual 144, 3) := by decide +kernel
theorem e_AL_remove_24 : decode m_AL_remove.2.1 24 = .ok (.aload_n 3, 1) := by decide +kernel
theorem e_AL_remove_25 : decode m_AL_remove.2.1 25 = .ok (.areturn, 1) := by decide +kernel
theorem e_AL_fastRemove_0 : decode m_AL_fastRemove.2.1 0 = .ok (.aload_n 0, 1) := by decide +kernel
theorem e_AL_fastRemove_1 : decode m_AL_fastRemove.2.1 1 = .ok (.dup, 1) := by decide +kernel
theorem e_AL_fastRemove_2 : decode m_AL_fastRemove.2.1 2 = .ok (.getfield 63, 3) := by decide +kernel
theorem e_AL_fastRemove_5 : decode m_AL_fastRemove.2.1 5 = .ok (.iconst 1, 1) := by decide +kernel
theorem e_AL_fastRemove_6 : decode m_AL_fastRemove.2.1 6 = .ok (.iadd, 1) := by decide +kernel
theorem e_AL_fastRemove_7 : decode m_AL_fastRemove.2.1 7 = .ok (.putfield 63, 3) := by decide +kernel
theorem e_AL_fastRemove_10 : decode m_AL_fastRemove.2.1 10 = .ok (.aload_n 0, 1) := by decide +kernel
theorem e_AL_fastRemove_11 : decode m_AL_fastRemove.2.1 11 = .ok (.getfield 48, 3) := by decide +kernel
theorem e_AL_fastRemove_14 : decode m_AL_fastRemove.2.1 14 = .ok (.iconst 1, 1) := by decide +kernel
theorem e_AL_fastRemove_15 : decode m_AL_fastRemove.2.1 15 = .ok (.isub, 1) := by decide +kernel
theorem e_AL_fastRemove_16 : decode m_AL_fastRemove.2.1 16 = .ok (.dup, 1) := by decide +kernel
theorem e_AL_fastRemove_17 : decode m_AL_fastRemove.2.1 17 = .ok (.istore_n 3, 1) := by decide +kernel
theorem e_AL_fastRemove_18 : decode m_AL_fastRemove.2.1 18 = .ok (.iload_n 2, 1) := by decide +kernel
theorem e_AL_fastRemove_19 : decode m_AL_fastRemove.2.1 19 = .ok (.if_icmp .le 15, 3) := by decide +kernel
theorem e_AL_fastRemove_22 : decode m_AL_fastRemove.2.1 22 = .ok (.aload_n 1, 1) := by decide +kernel
theorem e_AL_fastRemove_23 : decode m_AL_fastRemove.2.1 23 = .ok (.iload_n 2, 1) := by decide +kernel
theorem e_AL_fastRemove_24 : decode m_AL_fastRemove.2.1 24 = .ok (.iconst 1, 1) := by decide +kernel
theorem e_AL_fastRemove_25 : decode m_AL_fastRemove.2.1 25 = .ok (.iadd, 1) := by decide +kernel
theorem e_AL_fastRemove_26 : decode m_AL_fastRemove.2.1 26 = .ok (.aload_n 1, 1) := by decide +kernel
theorem e_AL_fastRemove_27 : decode m_AL_fastRemove.2.1 27 = .ok (.iload_n 2, 1) := by decide +kernel
theorem e_AL_fastRemove_28 : decode m_AL_fastRemove.2.1 28 = .ok (.iload_n 3, 1) := by decide +kernel
theorem e_AL_fastRemove_29 : decode m_AL_fastRemove.2.1 29 = .ok (.iload_n 2, 1) := by decide +kernel
theorem e_AL_fastRemove_30 : decode m_AL_fastRemove.2.1 30 = .ok (.isub, 1) := by decide +kernel
theorem e_AL_fastRemove_31 : decode m_AL_fastRemove.2.1 31 = .ok (.invokestatic 112, 3) := by decide +kernel
theorem e_AL_fastRemove_34 : decode m_AL_fastRemove.2.1 34 = .ok (.aload_n 1, 1) := by decide +kernel
theorem e_AL_fastRemove_35 : decode m_AL_fastRemove.2.1 35 = .ok (.aload_n 0, 1) := by decide +kernel
theorem e_AL_fastRemove_36 : decode m_AL_fastRemove.2.1 36 = .ok (.iload_n 3, 1) := by decide +kernel
theorem e_AL_fastRemove_37 : decode m_AL_fastRemove.2.1 37 = .ok (.dup_x1, 1) := by decide +kernel
theorem e_AL_fastRemove_38 : decode m_AL_fastRemove.2.1 38 = .ok (.putfield 48, 3) := by decide +kernel
theorem e_AL_fastRemove_41 : decode m_AL_fastRemove.2.1 41 = .ok (.aconst_null, 1) := by decide +kernel
theorem e_AL_fastRemove_42 : decode m_AL_fastRemove.2.1 42 = .ok (.aastore, 1) := by decide +kernel
theorem e_AL_fastRemove_43 : decode m_AL_fastRemove.2.1 43 = .ok (.return_, 1) := by decide +kernel
theorem e_Arrs_copyOf2_0 : decode m_Arrs_copyOf2.2.1 0 = .ok (.aload_n 0, 1) := by decide +kernel
theorem e_Arrs_copyOf2_1 : decode m_Arrs_copyOf2.2.1 1 = .ok (.iload_n 1, 1) := by decide +kernel
theorem e_Arrs_copyOf2_2 : decode m_Arrs_copyOf2.2.1 2 = .ok (.aload_n 0, 1) := by decide +kernel
theorem e_Arrs_copyOf2_3 : decode m_Arrs_copyOf2.2.1 3 = .ok (.invokevirtual 86, 3) := by decide +kernel
theorem e_Arrs_copyOf2_6 : decode m_Arrs_copyOf2.2.1 6 = .ok (.invokestatic 300, 3) := by decide +kernel
theorem e_Arrs_copyOf2_9 : decode m_Arrs_copyOf2.2.1 9 = .ok (.areturn, 1) := by decide +kernel
theorem e_Arrs_copyOf3_0 : decode m_Arrs_copyOf3.2.1 0 = .ok (.aload_n 2, 1) := by decide +kernel
theorem e_Arrs_copyOf3_1 : decode m_Arrs_copyOf3.2.1 1 = .ok (.ldc 110, 2) := by decide +kernel
theorem e_Arrs_copyOf3_3 : decode m_Arrs_copyOf3.2.1 3 = .ok (.if_acmp .ne 10, 3) := by decide +kernel
theorem e_Arrs_copyOf3_6 : decode m_Arrs_copyOf3.2.1 6 = .ok (.iload_n 1, 1) := by decide +kernel
theorem e_Arrs_copyOf3_7 : decode m_Arrs_copyOf3.2.1 7 = .ok (.anewarray 2, 3) := by decide +kernel
theorem e_Arrs_copyOf3_10 : decode m_Arrs_copyOf3.2.1 10 = .ok (.goto 14, 3) := by decide +kernel
theorem e_Arrs_copyOf3_13 : decode m_Arrs_copyOf3.2.1 13 = .ok (.aload_n 2, 1) := by decide +kernel
theorem e_Arrs_copyOf3_14 : decode m_Arrs_copyOf3.2.1 14 = .ok (.invokevirtual 90, 3) := by decide +kernel
theorem e_Arrs_copyOf3_17 : decode m_Arrs_copyOf3.2.1 17 = .ok (.iload_n 1, 1) := by decide +kernel
theorem e_Arrs_copyOf3_18 : decode m_Arrs_copyOf3.2.1 18 = .ok (.invokestatic 95, 3) := by decide +kernel
theorem e_Arrs_copyOf3_21 : decode m_Arrs_copyOf3.2.1 21 = .ok (.checkcast 110, 3) := by decide +kernel
theorem e_Arrs_copyOf3_24 : decode m_Arrs_copyOf3.2.1 24 = .ok (.astore_n 3, 1) := by decide +kernel
theorem e_Arrs_copyOf3_25 : decode m_Arrs_copyOf3.2.1 25 = .ok (.aload_n 0, 1) := by decide +kernel
theorem e_Arrs_copyOf3_26 : decode m_Arrs_copyOf3.2.1 26 = .ok (.iconst 0, 1) := by decide +kernel
theorem e_Arrs_copyOf3_27 : decode m_Arrs_copyOf3.2.1 27 = .ok (.aload_n 3, 1) := by decide +kernel
theorem e_Arrs_copyOf3_28 : decode m_Arrs_copyOf3.2.1 28 = .ok (.iconst 0, 1) := by decide +kernel
theorem e_Arrs_copyOf3_29 : decode m_Arrs_copyOf3.2.1 29 = .ok (.aload_n 0, 1) := by decide +kernel
theorem e_Arrs_copyOf3_30 : decode m_Arrs_copyOf3.2.1 30 = .ok (.arraylength, 1) := by decide +kernel
theorem e_Arrs_copyOf3_31 : decode m_Arrs_copyOf3.2.1 31 = .ok (.iload_n 1, 1) := by decide +kernel
theorem e_Arrs_copyOf3_32 : decode m_Arrs_copyOf3.2.1 32 = .ok (.invokestatic 304, 3) := by decide +kernel
theorem e_Arrs_copyOf3_35 : decode m_Arrs_copyOf3.2.1 35 = .ok (.invokestatic 150, 3) := by decide +kernel
theorem e_Arrs_copyOf3_38 : decode m_Arrs_copyOf3.2.1 38 = .ok (.aload_n 3, 1) := by decide +kernel
theorem e_Arrs_copyOf3_39 : decode m_Arrs_copyOf3.2.1 39 = .ok (.areturn, 1) := by decide +kernel
theorem e_Objs_checkIndex_0 : decode m_Objs_checkIndex.2.1 0 = .ok (.iload_n 0, 1) := by decide +kernel
theorem e_Objs_checkIndex_1 : decode m_Objs_checkIndex.2.1 1 = .ok (.iload_n 1, 1) := by decide +kernel
theorem e_Objs_checkIndex_2 : decode m_Objs_checkIndex.2.1 2 = .ok (.aconst_null, 1) := by decide +kernel
theorem e_Objs_checkIndex_3 : decode m_Objs_checkIndex.2.1 3 = .ok (.invokestatic 105, 3) := by decide +kernel
theorem e_Objs_checkIndex_6 : decode m_Objs_checkIndex.2.1 6 = .ok (.ireturn, 1) := by decide +kernel
theorem e_ASup_newLength_0 : decode m_ASup_newLength.2.1 0 = .ok (.iload_n 0, 1) := by decide +kernel
theorem e_ASup_newLength_1 : decode m_ASup_newLength.2.1 1 = .ok (.iload_n 1, 1) := by decide +kernel
theorem e_ASup_newLength_2 : decode m_ASup_newLength.2.1 2 = .ok (.iload_n 2, 1) := by decide +kernel
theorem e_ASup_newLength_3 : decode m_ASup_newLength.2.1 3 = .ok (.invokestatic 194, 3) := by decide +kernel
theorem e_ASup_newLength_6 : decode m_ASup_newLength.2.1 6 = .ok (.iadd, 1) := by decide +kernel
theorem e_ASup_newLength_7 : decode m_ASup_newLength.2.1 7 = .ok (.istore_n 3, 1) := by decide +kernel
theorem e_ASup_newLength_8 : decode m_ASup_newLength.2.1 8 = .ok (.iconst 0, 1) := by decide +kernel
theorem e_ASup_newLength_9 : decode m_ASup_newLength.2.1 9 = .ok (.iload_n 3, 1) := by decide +kernel
theorem e_ASup_newLength_10 : decode m_ASup_newLength.2.1 10 = .ok (.if_icmp .ge 11, 3) := by decide +kernel
theorem e_ASup_newLength_13 : decode m_ASup_newLength.2.1 13 = .ok (.iload_n 3, 1) := by decide +kernel
theorem e_ASup_newLength_14 : decode m_ASup_newLength.2.1 14 = .ok (.ldc 200, 2) := by decide +kernel
theorem e_ASup_newLength_16 : decode m_ASup_newLength.2.1 16 = .ok (.if_icmp .gt 5, 3) := by decide +kernel
theorem e_ASup_newLength_19 : decode m_ASup_newLength.2.1 19 = .ok (.iload_n 3, 1) := by decide +kernel
theorem e_ASup_newLength_20 : decode m_ASup_newLength.2.1 20 = .ok (.ireturn, 1) := by decide +kernel
theorem e_ASup_newLength_21 : decode m_ASup_newLength.2.1 21 = .ok (.iload_n 0, 1) := by decide +kernel
theorem e_ASup_newLength_22 : decode m_ASup_newLength.2.1 22 = .ok (.iload_n 1, 1) := by decide +kernel
theorem e_ASup_newLength_23 : decode m_ASup_newLength.2.1 23 = .ok (.invokestatic 201, 3) := by decide +kernel
theorem e_ASup_newLength_26 : decode m_ASup_newLength.2.1 26 = .ok (.ireturn, 1) := by decide +kernel
theorem e_Pre_checkIndex_0 : decode m_Pre_checkIndex.2.1 0 = .ok (.iload_n 0, 1) := by decide +kernel
theorem e_Pre_checkIndex_1 : decode m_Pre_checkIndex.2.1 1 = .ok (.ifCond .lt 8, 3) := by decide +kernel
theorem e_Pre_checkIndex_4 : decode m_Pre_checkIndex.2.1 4 = .ok (.iload_n 0, 1) := by decide +kernel
theorem e_Pre_checkIndex_5 : decode m_Pre_checkIndex.2.1 5 = .ok (.iload_n 1, 1) := by decide +kernel
theorem e_Pre_checkIndex_6 : decode m_Pre_checkIndex.2.1 6 = .ok (.if_icmp .lt 10, 3) := by decide +kernel
theorem e_Pre_checkIndex_9 : decode m_Pre_checkIndex.2.1 9 = .ok (.aload_n 2, 1) := by decide +kernel
theorem e_Pre_checkIndex_10 : decode m_Pre_checkIndex.2.1 10 = .ok (.iload_n 0, 1) := by decide +kernel
theorem e_Pre_checkIndex_11 : decode m_Pre_checkIndex.2.1 11 = .ok (.iload_n 1, 1) := by decide +kernel
theorem e_Pre_checkIndex_12 : decode m_Pre_checkIndex.2.1 12 = .ok (.invokestatic 95, 3) := by decide +kernel
theorem e_Pre_checkIndex_15 : decode m_Pre_checkIndex.2.1 15 = .ok (.athrow, 1) := by decide +kernel
theorem e_Pre_checkIndex_16 : decode m_Pre_checkIndex.2.1 16 = .ok (.iload_n 0, 1) := by decide +kernel
theorem e_Pre_checkIndex_17 : decode m_Pre_checkIndex.2.1 17 = .ok (.ireturn, 1) := by decide +kernel
theorem e_Law_cell_0 : decode m_Law_cell.2.1 0 = .ok (.iload_n 1, 1) := by decide +kernel
theorem e_Law_cell_1 : decode m_Law_cell.2.1 1 = .ok (.aload_n 0, 1) := by decide +kernel
theorem e_Law_cell_2 : decode m_Law_cell.2.1 2 = .ok (.arraylength, 1) := by decide +kernel
theorem e_Law_cell_3 : decode m_Law_cell.2.1 3 = .ok (.if_icmp .ge 9, 3) := by decide +kernel
theorem e_Law_cell_6 : decode m_Law_cell.2.1 6 = .ok (.aload_n 0, 1) := by decide +kernel
theorem e_Law_cell_7 : decode m_Law_cell.2.1 7 = .ok (.iload_n 1, 1) := by decide +kernel
theorem e_Law_cell_8 : decode m_Law_cell.2.1 8 = .ok (.iaload, 1) := by decide +kernel
theorem e_Law_cell_9 : decode m_Law_cell.2.1 9 = .ok (.goto 4, 3) := by decide +kernel
theorem e_Law_cell_12 : decode m_Law_cell.2.1 12 = .ok (.iconst 0, 1) := by decide +kernel
theorem e_Law_cell_13 : decode m_Law_cell.2.1 13 = .ok (.ireturn, 1) := by decide +kernel
theorem e_Law_law_0 : decode m_Law_law.2.1 0 = .ok (.new 7, 3) := by decide +kernel
theorem e_Law_law_3 : decode m_Law_law.2.1 3 = .ok (.dup, 1) := by decide +kernel
theorem e_Law_law_4 : decode m_Law_law.2.1 4 = .ok (.aload_n 0, 1) := by decide +kernel
theorem e_Law_law_5 : decode m_Law_law.2.1 5 = .ok (.iconst 0, 1) := by decide +kernel
theorem e_Law_law_6 : decode m_Law_law.2.1 6 = .ok (.invokestatic 9, 3) := by decide +kernel
theorem e_Law_law_9 : decode m_Law_law.2.1 9 = .ok (.aload_n 0, 1) := by decide +kernel
theorem e_Law_law_10 : decode m_Law_law.2.1 10 = .ok (.iconst 1, 1) := by decide +kernel
theorem e_Law_law_11 : decode m_Law_law.2.1 11 = .ok (.invokestatic 9, 3) := by decide +kernel
theorem e_Law_law_14 : decode m_Law_law.2.1 14 = .ok (.aload_n 0, 1) := by decide +kernel
theorem e_Law_law_15 : decode m_Law_law.2.1 15 = .ok (.iconst 2, 1) := by decide +kernel
theorem e_Law_law_16 : decode m_Law_law.2.1 16 = .ok (.invokestatic 9, 3) := by decide +kernel
theorem e_Law_law_19 : decode m_Law_law.2.1 19 = .ok (.invokespecial 15, 3) := by decide +kernel
theorem e_Law_law_22 : decode m_Law_law.2.1 22 = .ok (.astore_n 1, 1) := by decide +kernel
theorem e_Law_law_23 : decode m_Law_law.2.1 23 = .ok (.new 18, 3) := by decide +kernel
theorem e_Law_law_26 : decode m_Law_law.2.1 26 = .ok (.dup, 1) := by decide +kernel
theorem e_Law_law_27 : decode m_Law_law.2.1 27 = .ok (.aload_n 0, 1) := by decide +kernel
theorem e_Law_law_28 : decode m_Law_law.2.1 28 = .ok (.iconst 0, 1) := by decide +kernel
theorem e_Law_law_29 : decode m_Law_law.2.1 29 = .ok (.invokestatic 9, 3) := by decide +kernel
theorem e_Law_law_32 : decode m_Law_law.2.1 32 = .ok (.aload_n 0, 1) := by decide +kernel
theorem e_Law_law_33 : decode m_Law_law.2.1 33 = .ok (.iconst 1, 1) := by decide +kernel
theorem e_Law_law_34 : decode m_Law_law.2.1 34 = .ok (.invokestatic 9, 3) := by decide +kernel
theorem e_Law_law_37 : decode m_Law_law.2.1 37 = .ok (.aload_n 0, 1) := by decide +kernel
theorem e_Law_law_38 : decode m_Law_law.2.1 38 = .ok (.iconst 2, 1) := by decide +kernel
theorem e_Law_law_39 : decode m_Law_law.2.1 39 = .ok (.invokestatic 9, 3) := by decide +kernel
theorem e_Law_law_42 : decode m_Law_law.2.1 42 = .ok (.invokespecial 20, 3) := by decide +kernel
theorem e_Law_law_45 : decode m_Law_law.2.1 45 = .ok (.astore_n 2, 1) := by decide +kernel
theorem e_Law_law_46 : decode m_Law_law.2.1 46 = .ok (.iconst 3, 1) := by decide +kernel
theorem e_Law_law_47 : decode m_Law_law.2.1 47 = .ok (.istore_n 3, 1) := by decide +kernel
theorem e_Law_law_48 : decode m_Law_law.2.1 48 = .ok (.iload_n 3, 1) := by decide +kernel
theorem e_Law_law_49 : decode m_Law_law.2.1 49 = .ok (.aload_n 0, 1) := by decide +kernel
theorem e_Law_law_50 : decode m_Law_law.2.1 50 = .ok (.arraylength, 1) := by decide +kernel
theorem e_Law_law_51 : decode m_Law_law.2.1 51 = .ok (.iconst 5, 1) := by decide +kernel
theorem e_Law_law_52 : decode m_Law_law.2.1 52 = .ok (.isub, 1) := by decide +kernel
theorem e_Law_law_53 : decode m_Law_law.2.1 53 = .ok (.if_icmp .gt 483, 3) := by decide +kernel
theorem e_Law_law_56 : decode m_Law_law.2.1 56 = .ok (.aload_n 0, 1) := by decide +kernel
theorem e_Law_law_57 : decode m_Law_law.2.1 57 = .ok (.iload_n 3, 1) := by decide +kernel
theorem e_Law_law_58 : decode m_Law_law.2.1 58 = .ok (.iaload, 1) := by decide +kernel
theorem e_Law_law_59 : decode m_Law_law.2.1 59 = .ok (.bipush 15, 2) := by decide +kernel
theorem e_Law_law_61 : decode m_Law_law.2.1 61 = .ok (.iand, 1) := by decide +kernel
theorem e_Law_law_62 : decode m_Law_law.2.1 62 = .ok (.tableswitch 468 0 13 #[70, 139, 162, 185, 218, 231, 254, 287, 320, 353, 376, 399, 422, 445], 70) := by decide +kernel
theorem e_Law_law_132 : decode m_Law_law.2.1 132 = .ok (.aload_n 1, 1) := by decide +kernel
theorem e_Law_law_133 : decode m_Law_law.2.1 133 = .ok (.aload_n 0, 1) := by decide +kernel
theorem e_Law_law_134 : decode m_Law_law.2.1 134 = .ok (.iload_n 3, 1) := by decide +kernel
theorem e_Law_law_135 : decode m_Law_law.2.1 135 = .ok (.iconst 1, 1) := by decide +kernel
theorem e_Law_law_136 : decode m_Law_law.2.1 136 = .ok (.iadd, 1) := by decide +kernel
theorem e_Law_law_137 : decode m_Law_law.2.1 137 = .ok (.iaload, 1) := by decide +kernel
theorem e_Law_law_138 : decode m_Law_law.2.1 138 = .ok (.aload_n 0, 1) := by decide +kernel
theorem e_Law_law_139 : decode m_Law_law.2.1 139 = .ok (.iload_n 3, 1) := by decide +kernel
theorem e_Law_law_140 : decode m_Law_law.2.1 140 = .ok (.iconst 2, 1) := by decide +kernel
theorem e_Law_law_141 : decode m_Law_law.2.1 141 = .ok (.iadd, 1) := by decide +kernel
theorem e_Law_law_142 : decode m_Law_law.2.1 142 = .ok (.iaload, 1) := by decide +kernel
theorem e_Law_law_143 : decode m_Law_law.2.1 143 = .ok (.ifCond .eq 7, 3) := by decide +kernel
theorem e_Law_law_146 : decode m_Law_law.2.1 146 = .ok (.iconst 1, 1) := by decide +kernel
theorem e_Law_law_147 : decode m_Law_law.2.1 147 = .ok (.goto 4, 3) := by decide +kernel
theorem e_Law_law_150 : decode m_Law_law.2.1 150 = .ok (.iconst 0, 1) := by decide +kernel
theorem e_Law_law_151 : decode m_Law_law.2.1 151 = .ok (.aload_n 0, 1) := by decide +kernel
theorem e_Law_law_152 : decode m_Law_law.2.1 152 = .ok (.iload_n 3, 1) := by decide +kernel
theorem e_Law_law_153 : decode m_Law_law.2.1 153 = .ok (.iconst 3, 1) := by decide +kernel
theorem e_Law_law_154 : decode m_Law_law.2.1 154 = .ok (.iadd, 1) := by decide +kernel
theorem e_Law_law_155 : decode m_Law_law.2.1 155 = .ok (.iaload, 1) := by decide +kernel
theorem e_Law_law_156 : decode m_Law_law.2.1 156 = .ok (.aload_n 0, 1) := by decide +kernel
theorem e_Law_law_157 : decode m_Law_law.2.1 157 = .ok (.iload_n 3, 1) := by decide +kernel
theorem e_Law_law_158 : decode m_Law_law.2.1 158 = .ok (.iconst 4, 1) := by decide +kernel
theorem e_Law_law_159 : decode m_Law_law.2.1 159 = .ok (.iadd, 1) := by decide +kernel
theorem e_Law_law_160 : decode m_Law_law.2.1 160 = .ok (.iaload, 1) := by decide +kernel
theorem e_Law_law_161 : decode m_Law_law.2.1 161 = .ok (.invokevirtual 21, 3) := by decide +kernel
theorem e_Law_law_164 : decode m_Law_law.2.1 164 = .ok (.aload_n 2, 1) := by decide +kernel
theorem e_Law_law_165 : decode m_Law_law.2.1 165 = .ok (.aload_n 0, 1) := by decide +kernel
theorem e_Law_law_166 : decode m_Law_law.2.1 166 = .ok (.iload_n 3, 1) := by decide +kernel
theorem e_Law_law_167 : decode m_Law_law.2.1 167 = .ok (.iconst 1, 1) := by decide +kernel
theorem e_Law_law_168 : decode m_Law_law.2.1 168 = .ok (.iadd, 1) := by decide +kernel
theorem e_Law_law_169 : decode m_Law_law.2.1 169 = .ok (.iaload, 1) := by decide +kernel
theorem e_Law_law_170 : decode m_Law_law.2.1 170 = .ok (.aload_n 0, 1) := by decide +kernel
theorem e_Law_law_171 : decode m_Law_law.2.1 171 = .ok (.iload_n 3, 1) := by decide +kernel
theorem e_Law_law_172 : decode m_Law_law.2.1 172 = .ok (.iconst 2, 1) := by decide +kernel
theorem e_Law_law_173 : decode m_Law_law.2.1 173 = .ok (.iadd, 1) := by decide +kernel
theorem e_Law_law_174 : decode m_Law_law.2.1 174 = .ok (.iaload, 1) := by decide +kernel
theorem e_Law_law_175 : decode m_Law_law.2.1 175 = .ok (.ifCond .eq 7, 3) := by decide +kernel
theorem e_Law_law_178 : decode m_Law_law.2.1 178 = .ok (.iconst 1, 1) := by decide +kernel
theorem e_Law_law_179 : decode m_Law_law.2.1 179 = .ok (.goto 4, 3) := by decide +kernel
theorem e_Law_law_182 : decode m_Law_law.2.1 182 = .ok (.iconst 0, 1) := by decide +kernel
theorem e_Law_law_183 : decode m_Law_law.2.1 183 = .ok (.aload_n 0, 1) := by decide +kernel
theorem e_Law_law_184 : decode m_Law_law.2.1 184 = .ok (.iload_n 3, 1) := by decide +kernel
theorem e_Law_law_185 : decode m_Law_law.2.1 185 = .ok (.iconst 3, 1) := by decide +kernel
theorem e_Law_law_186 : decode m_Law_law.2.1 186 = .ok (.iadd, 1) := by decide +kernel
theorem e_Law_law_187 : decode m_Law_law.2.1 187 = .ok (.iaload, 1) := by decide +kernel
theorem e_Law_law_188 : decode m_Law_law.2.1 188 = .ok (.aload_n 0, 1) := by decide +kernel
theorem e_Law_law_189 : decode m_Law_law.2.1 189 = .ok (.iload_n 3, 1) := by decide +kernel
theorem e_Law_law_190 : decode m_Law_law.2.1 190 = .ok (.iconst 4, 1) := by decide +kernel
theorem e_Law_law_191 : decode m_Law_law.2.1 191 = .ok (.iadd, 1) := by decide +kernel
theorem e_Law_law_192 : decode m_Law_law.2.1 192 = .ok (.iaload, 1) := by decide +kernel
theorem e_Law_law_193 : decode m_Law_law.2.1 193 = .ok (.invokevirtual 25, 3) := by decide +kernel
theorem e_Law_law_196 : decode m_Law_law.2.1 196 = .ok (.if_icmp .eq 334, 3) := by decide +kernel
theorem e_Law_law_199 : decode m_Law_law.2.1 199 = .ok (.iconst 0, 1) := by decide +kernel
theorem e_Law_law_200 : decode m_Law_law.2.1 200 = .ok (.ireturn, 1) := by decide +kernel
theorem e_Law_law_201 : decode m_Law_law.2.1 201 = .ok (.aload_n 1, 1) := by decide +kernel
theorem e_Law_law_202 : decode m_Law_law.2.1 202 = .ok (.aload_n 0, 1) := by decide +kernel
theorem e_Law_law_203 : decode m_Law_law.2.1 203 = .ok (.iload_n 3, 1) := by decide +kernel
theorem e_Law_law_204 : decode m_Law_law.2.1 204 = .ok (.iconst 1, 1) := by decide +kernel
theorem e_Law_law_205 : decode m_Law_law.2.1 205 = .ok (.iadd, 1) := by decide +kernel
theorem e_Law_law_206 : decode m_Law_law.2.1 206 = .ok (.iaload, 1) := by decide +kernel
theorem e_Law_law_207 : decode m_Law_law.2.1 207 = .ok (.invokevirtual 26, 3) := by decide +kernel
theorem e_Law_law_210 : decode m_Law_law.2.1 210 = .ok (.aload_n 2, 1) := by decide +kernel
theorem e_Law_law_211 : decode m_Law_law.2.1 211 = .ok (.aload_n 0, 1) := by decide +kernel
theorem e_Law_law_212 : decode m_Law_law.2.1 212 = .ok (.iload_n 3, 1) := by decide +kernel
theorem e_Law_law_213 : decode m_Law_law.2.1 213 = .ok (.iconst 1, 1) := by decide +kernel
theorem e_Law_law_214 : decode m_Law_law.2.1 214 = .ok (.iadd, 1) := by decide +kernel
theorem e_Law_law_215 : decode m_Law_law.2.1 215 = .ok (.iaload, 1) := by decide +kernel
theorem e_Law_law_216 : decode m_Law_law.2.1 216 = .ok (.invokevirtual 30, 3) := by decide +kernel
theorem e_Law_law_219 : decode m_Law_law.2.1 219 = .ok (.if_icmp .eq 311, 3) := by decide +kernel
theorem e_Law_law_222 : decode m_Law_law.2.1 222 = .ok (.iconst 0, 1) := by decide +kernel
theorem e_Law_law_223 : decode m_Law_law.2.1 223 = .ok (.ireturn, 1) := by decide +kernel
theorem e_Law_law_224 : decode m_Law_law.2.1 224 = .ok (.aload_n 1, 1) := by decide +kernel
theorem e_Law_law_225 : decode m_Law_law.2.1 225 = .ok (.aload_n 0, 1) := by decide +kernel
theorem e_Law_law_226 : decode m_Law_law.2.1 226 = .ok (.iload_n 3, 1) := by decide +kernel
theorem e_Law_law_227 : decode m_Law_law.2.1 227 = .ok (.iconst 1, 1) := by decide +kernel
theorem e_Law_law_228 : decode m_Law_law.2.1 228 = .ok (.iadd, 1) := by decide +kernel
theorem e_Law_law_229 : decode m_Law_law.2.1 229 = .ok (.iaload, 1) := by decide +kernel
theorem e_Law_law_230 : decode m_Law_law.2.1 230 = .ok (.invokevirtual 31, 3) := by decide +kernel
theorem e_Law_law_233 : decode m_Law_law.2.1 233 = .ok (.aload_n 2, 1) := by decide +kernel
theorem e_Law_law_234 : decode m_Law_law.2.1 234 = .ok (.aload_n 0, 1) := by decide +kernel
theorem e_Law_law_235 : decode m_Law_law.2.1 235 = .ok (.iload_n 3, 1) := by decide +kernel
theorem e_Law_law_236 : decode m_Law_law.2.1 236 = .ok (.iconst 1, 1) := by decide +kernel
theorem e_Law_law_237 : decode m_Law_law.2.1 237 = .ok (.iadd, 1) := by decide +kernel
theorem e_Law_law_238 : decode m_Law_law.2.1 238 = .ok (.iaload, 1) := by decide +kernel
theorem e_Law_law_239 : decode m_Law_law.2.1 239 = .ok (.invokevirtual 34, 3) := by decide +kernel
theorem e_Law_law_242 : decode m_Law_law.2.1 242 = .ok (.if_icmp .eq 288, 3) := by decide +kernel
theorem e_Law_law_245 : decode m_Law_law.2.1 245 = .ok (.iconst 0, 1) := by decide +kernel
theorem e_Law_law_246 : decode m_Law_law.2.1 246 = .ok (.ireturn, 1) := by decide +kernel
theorem e_Law_law_247 : decode m_Law_law.2.1 247 = .ok (.aload_n 1, 1) := by decide +kernel
theorem e_Law_law_248 : decode m_Law_law.2.1 248 = .ok (.aload_n 0, 1) := by decide +kernel
theorem e_Law_law_249 : decode m_Law_law.2.1 249 = .ok (.iload_n 3, 1) := by decide +kernel
theorem e_Law_law_250 : decode m_Law_law.2.1 250 = .ok (.iconst 1, 1) := by decide +kernel
theorem e_Law_law_251 : decode m_Law_law.2.1 251 = .ok (.iadd, 1) := by decide +kernel
theorem e_Law_law_252 : decode m_Law_law.2.1 252 = .ok (.iaload, 1) := by decide +kernel
theorem e_Law_law_253 : decode m_Law_law.2.1 253 = .ok (.aload_n 0, 1) := by decide +kernel
theorem e_Law_law_254 : decode m_Law_law.2.1 254 = .ok (.iload_n 3, 1) := by decide +kernel
theorem e_Law_law_255 : decode m_Law_law.2.1 255 = .ok (.iconst 2, 1) := by decide +kernel
theorem e_Law_law_256 : decode m_Law_law.2.1 256 = .ok (.iadd, 1) := by decide +kernel
theorem e_Law_law_257 : decode m_Law_law.2.1 257 = .ok (.iaload, 1) := by decide +kernel
theorem e_Law_law_258 : decode m_Law_law.2.1 258 = .ok (.invokevirtual 35, 3) := by decide +kernel
theorem e_Law_law_261 : decode m_Law_law.2.1 261 = .ok (.aload_n 2, 1) := by decide +kernel
theorem e_Law_law_262 : decode m_Law_law.2.1 262 = .ok (.aload_n 0, 1) := by decide +kernel
theorem e_Law_law_263 : decode m_Law_law.2.1 263 = .ok (.iload_n 3, 1) := by decide +kernel
theorem e_Law_law_264 : decode m_Law_law.2.1 264 = .ok (.iconst 1, 1) := by decide +kernel
theorem e_Law_law_265 : decode m_Law_law.2.1 265 = .ok (.iadd, 1) := by decide +kernel
theorem e_Law_law_266 : decode m_Law_law.2.1 266 = .ok (.iaload, 1) := by decide +kernel
theorem e_Law_law_267 : decode m_Law_law.2.1 267 = .ok (.aload_n 0, 1) := by decide +kernel
theorem e_Law_law_268 : decode m_Law_law.2.1 268 = .ok (.iload_n 3, 1) := by decide +kernel
theorem e_Law_law_269 : decode m_Law_law.2.1 269 = .ok (.iconst 2, 1) := by decide +kernel
theorem e_Law_law_270 : decode m_Law_law.2.1 270 = .ok (.iadd, 1) := by decide +kernel
theorem e_Law_law_271 : decode m_Law_law.2.1 271 = .ok (.iaload, 1) := by decide +kernel
theorem e_Law_law_272 : decode m_Law_law.2.1 272 = .ok (.invokevirtual 39, 3) := by decide +kernel
theorem e_Law_law_275 : decode m_Law_law.2.1 275 = .ok (.if_icmp .eq 255, 3) := by decide +kernel
theorem e_Law_law_278 : decode m_Law_law.2.1 278 = .ok (.iconst 0, 1) := by decide +kernel
theorem e_Law_law_279 : decode m_Law_law.2.1 279 = .ok (.ireturn, 1) := by decide +kernel
theorem e_Law_law_280 : decode m_Law_law.2.1 280 = .ok (.aload_n 1, 1) := by decide +kernel
theorem e_Law_law_281 : decode m_Law_law.2.1 281 = .ok (.invokevirtual 40, 3) := by decide +kernel
theorem e_Law_law_284 : decode m_Law_law.2.1 284 = .ok (.aload_n 2, 1) := by decide +kernel
theorem e_Law_law_285 : decode m_Law_law.2.1 285 = .ok (.invokevirtual 44, 3) := by decide +kernel
theorem e_Law_law_288 : decode m_Law_law.2.1 288 = .ok (.if_icmp .eq 242, 3) := by decide +kernel
theorem e_Law_law_291 : decode m_Law_law.2.1 291 = .ok (.iconst 0, 1) := by decide +kernel
theorem e_Law_law_292 : decode m_Law_law.2.1 292 = .ok (.ireturn, 1) := by decide +kernel
theorem e_Law_law_293 : decode m_Law_law.2.1 293 = .ok (.aload_n 1, 1) := by decide +kernel
theorem e_Law_law_294 : decode m_Law_law.2.1 294 = .ok (.aload_n 0, 1) := by decide +kernel
theorem e_Law_law_295 : decode m_Law_law.2.1 295 = .ok (.iload_n 3, 1) := by decide +kernel
theorem e_Law_law_296 : decode m_Law_law.2.1 296 = .ok (.iconst 1, 1) := by decide +kernel
theorem e_Law_law_297 : decode m_Law_law.2.1 297 = .ok (.iadd, 1) := by decide +kernel
theorem e_Law_law_298 : decode m_Law_law.2.1 298 = .ok (.iaload, 1) := by decide +kernel
theorem e_Law_law_299 : decode m_Law_law.2.1 299 = .ok (.invokevirtual 45, 3) := by decide +kernel
theorem e_Law_law_302 : decode m_Law_law.2.1 302 = .ok (.aload_n 2, 1) := by decide +kernel
theorem e_Law_law_303 : decode m_Law_law.2.1 303 = .ok (.aload_n 0, 1) := by decide +kernel
theorem e_Law_law_304 : decode m_Law_law.2.1 304 = .ok (.iload_n 3, 1) := by decide +kernel
theorem e_Law_law_305 : decode m_Law_law.2.1 305 = .ok (.iconst 1, 1) := by decide +kernel
theorem e_Law_law_306 : decode m_Law_law.2.1 306 = .ok (.iadd, 1) := by decide +kernel
theorem e_Law_law_307 : decode m_Law_law.2.1 307 = .ok (.iaload, 1) := by decide +kernel
theorem e_Law_law_308 : decode m_Law_law.2.1 308 = .ok (.invokevirtual 48, 3) := by decide +kernel
theorem e_Law_law_311 : decode m_Law_law.2.1 311 = .ok (.if_icmp .eq 219, 3) := by decide +kernel
theorem e_Law_law_314 : decode m_Law_law.2.1 314 = .ok (.iconst 0, 1) := by decide +kernel
theorem e_Law_law_315 : decode m_Law_law.2.1 315 = .ok (.ireturn, 1) := by decide +kernel
theorem e_Law_law_316 : decode m_Law_law.2.1 316 = .ok (.aload_n 1, 1) := by decide +kernel
theorem e_Law_law_317 : decode m_Law_law.2.1 317 = .ok (.aload_n 0, 1) := by decide +kernel
theorem e_Law_law_318 : decode m_Law_law.2.1 318 = .ok (.iload_n 3, 1) := by decide +kernel
theorem e_Law_law_319 : decode m_Law_law.2.1 319 = .ok (.iconst 1, 1) := by decide +kernel
theorem e_Law_law_320 : decode m_Law_law.2.1 320 = .ok (.iadd, 1) := by decide +kernel
theorem e_Law_law_321 : decode m_Law_law.2.1 321 = .ok (.iaload, 1) := by decide +kernel
theorem e_Law_law_322 : decode m_Law_law.2.1 322 = .ok (.aload_n 0, 1) := by decide +kernel
theorem e_Law_law_323 : decode m_Law_law.2.1 323 = .ok (.iload_n 3, 1) := by decide +kernel
theorem e_Law_law_324 : decode m_Law_law.2.1 324 = .ok (.iconst 2, 1) := by decide +kernel
theorem e_Law_law_325 : decode m_Law_law.2.1 325 = .ok (.iadd, 1) := by decide +kernel
theorem e_Law_law_326 : decode m_Law_law.2.1 326 = .ok (.iaload, 1) := by decide +kernel
theorem e_Law_law_327 : decode m_Law_law.2.1 327 = .ok (.invokevirtual 49, 3) := by decide +kernel
theorem e_Law_law_330 : decode m_Law_law.2.1 330 = .ok (.aload_n 2, 1) := by decide +kernel
theorem e_Law_law_331 : decode m_Law_law.2.1 331 = .ok (.aload_n 0, 1) := by decide +kernel
theorem e_Law_law_332 : decode m_Law_law.2.1 332 = .ok (.iload_n 3, 1) := by decide +kernel
theorem e_Law_law_333 : decode m_Law_law.2.1 333 = .ok (.iconst 1, 1) := by decide +kernel
theorem e_Law_law_334 : decode m_Law_law.2.1 334 = .ok (.iadd, 1) := by decide +kernel
theorem e_Law_law_335 : decode m_Law_law.2.1 335 = .ok (.iaload, 1) := by decide +kernel
theorem e_Law_law_336 : decode m_Law_law.2.1 336 = .ok (.aload_n 0, 1) := by decide +kernel
theorem e_Law_law_337 : decode m_Law_law.2.1 337 = .ok (.iload_n 3, 1) := by decide +kernel
theorem e_Law_law_338 : decode m_Law_law.2.1 338 = .ok (.iconst 2, 1) := by decide +kernel
theorem e_Law_law_339 : decode m_Law_law.2.1 339 = .ok (.iadd, 1) := by decide +kernel
theorem e_Law_law_340 : decode m_Law_law.2.1 340 = .ok (.iaload, 1) := by decide +kernel
theorem e_Law_law_341 : decode m_Law_law.2.1 341 = .ok (.invokevirtual 53, 3) := by decide +kernel
theorem e_Law_law_344 : decode m_Law_law.2.1 344 = .ok (.if_icmp .eq 186, 3) := by decide +kernel
theorem e_Law_law_347 : decode m_Law_law.2.1 347 = .ok (.iconst 0, 1) := by decide +kernel
theorem e_Law_law_348 : decode m_Law_law.2.1 348 = .ok (.ireturn, 1) := by decide +kernel
theorem e_Law_law_349 : decode m_Law_law.2.1 349 = .ok (.aload_n 1, 1) := by decide +kernel
theorem e_Law_law_350 : decode m_Law_law.2.1 350 = .ok (.aload_n 0, 1) := by decide +kernel
theorem e_Law_law_351 : decode m_Law_law.2.1 351 = .ok (.iload_n 3, 1) := by decide +kernel
theorem e_Law_law_352 : decode m_Law_law.2.1 352 = .ok (.iconst 1, 1) := by decide +kernel
theorem e_Law_law_353 : decode m_Law_law.2.1 353 = .ok (.iadd, 1) := by decide +kernel
theorem e_Law_law_354 : decode m_Law_law.2.1 354 = .ok (.iaload, 1) := by decide +kernel
theorem e_Law_law_355 : decode m_Law_law.2.1 355 = .ok (.aload_n 0, 1) := by decide +kernel
theorem e_Law_law_356 : decode m_Law_law.2.1 356 = .ok (.iload_n 3, 1) := by decide +kernel
theorem e_Law_law_357 : decode m_Law_law.2.1 357 = .ok (.iconst 2, 1) := by decide +kernel
theorem e_Law_law_358 : decode m_Law_law.2.1 358 = .ok (.iadd, 1) := by decide +kernel
theorem e_Law_law_359 : decode m_Law_law.2.1 359 = .ok (.iaload, 1) := by decide +kernel
theorem e_Law_law_360 : decode m_Law_law.2.1 360 = .ok (.invokevirtual 54, 3) := by decide +kernel
theorem e_Law_law_363 : decode m_Law_law.2.1 363 = .ok (.aload_n 2, 1) := by decide +kernel
theorem e_Law_law_364 : decode m_Law_law.2.1 364 = .ok (.aload_n 0, 1) := by decide +kernel
theorem e_Law_law_365 : decode m_Law_law.2.1 365 = .ok (.iload_n 3, 1) := by decide +kernel
theorem e_Law_law_366 : decode m_Law_law.2.1 366 = .ok (.iconst 1, 1) := by decide +kernel
theorem e_Law_law_367 : decode m_Law_law.2.1 367 = .ok (.iadd, 1) := by decide +kernel
theorem e_Law_law_368 : decode m_Law_law.2.1 368 = .ok (.iaload, 1) := by decide +kernel
theorem e_Law_law_369 : decode m_Law_law.2.1 369 = .ok (.aload_n 0, 1) := by decide +kernel
theorem e_Law_law_370 : decode m_Law_law.2.1 370 = .ok (.iload_n 3, 1) := by decide +kernel
theorem e_Law_law_371 : decode m_Law_law.2.1 371 = .ok (.iconst 2, 1) := by decide +kernel
theorem e_Law_law_372 : decode m_Law_law.2.1 372 = .ok (.iadd, 1) := by decide +kernel
theorem e_Law_law_373 : decode m_Law_law.2.1 373 = .ok (.iaload, 1) := by decide +kernel
theorem e_Law_law_374 : decode m_Law_law.2.1 374 = .ok (.invokevirtual 57, 3) := by decide +kernel
theorem e_Law_law_377 : decode m_Law_law.2.1 377 = .ok (.if_icmp .eq 153, 3) := by decide +kernel
theorem e_Law_law_380 : decode m_Law_law.2.1 380 = .ok (.iconst 0, 1) := by decide +kernel
theorem e_Law_law_381 : decode m_Law_law.2.1 381 = .ok (.ireturn, 1) := by decide +kernel
theorem e_Law_law_382 : decode m_Law_law.2.1 382 = .ok (.aload_n 1, 1) := by decide +kernel
theorem e_Law_law_383 : decode m_Law_law.2.1 383 = .ok (.aload_n 0, 1) := by decide +kernel
theorem e_Law_law_384 : decode m_Law_law.2.1 384 = .ok (.iload_n 3, 1) := by decide +kernel
theorem e_Law_law_385 : decode m_Law_law.2.1 385 = .ok (.iconst 1, 1) := by decide +kernel
theorem e_Law_law_386 : decode m_Law_law.2.1 386 = .ok (.iadd, 1) := by decide +kernel
theorem e_Law_law_387 : decode m_Law_law.2.1 387 = .ok (.iaload, 1) := by decide +kernel
theorem e_Law_law_388 : decode m_Law_law.2.1 388 = .ok (.aload_n 0, 1) := by decide +kernel
theorem e_Law_law_389 : decode m_Law_law.2.1 389 = .ok (.iload_n 3, 1) := by decide +kernel
theorem e_Law_law_390 : decode m_Law_law.2.1 390 = .ok (.iconst 2, 1) := by decide +kernel
theorem e_Law_law_391 : decode m_Law_law.2.1 391 = .ok (.iadd, 1) := by decide +kernel
theorem e_Law_law_392 : decode m_Law_law.2.1 392 = .ok (.iaload, 1) := by decide +kernel
theorem e_Law_law_393 : decode m_Law_law.2.1 393 = .ok (.invokevirtual 58, 3) := by decide +kernel
theorem e_Law_law_396 : decode m_Law_law.2.1 396 = .ok (.aload_n 2, 1) := by decide +kernel
theorem e_Law_law_397 : decode m_Law_law.2.1 397 = .ok (.aload_n 0, 1) := by decide +kernel
theorem e_Law_law_398 : decode m_Law_law.2.1 398 = .ok (.iload_n 3, 1) := by decide +kernel
theorem e_Law_law_399 : decode m_Law_law.2.1 399 = .ok (.iconst 1, 1) := by decide +kernel
theorem e_Law_law_400 : decode m_Law_law.2.1 400 = .ok (.iadd, 1) := by decide +kernel
theorem e_Law_law_401 : decode m_Law_law.2.1 401 = .ok (.iaload, 1) := by decide +kernel
theorem e_Law_law_402 : decode m_Law_law.2.1 402 = .ok (.aload_n 0, 1) := by decide +kernel
theorem e_Law_law_403 : decode m_Law_law.2.1 403 = .ok (.iload_n 3, 1) := by decide +kernel
theorem e_Law_law_404 : decode m_Law_law.2.1 404 = .ok (.iconst 2, 1) := by decide +kernel
theorem e_Law_law_405 : decode m_Law_law.2.1 405 = .ok (.iadd, 1) := by decide +kernel
theorem e_Law_law_406 : decode m_Law_law.2.1 406 = .ok (.iaload, 1) := by decide +kernel
theorem e_Law_law_407 : decode m_Law_law.2.1 407 = .ok (.invokevirtual 61, 3) := by decide +kernel
theorem e_Law_law_410 : decode m_Law_law.2.1 410 = .ok (.if_icmp .eq 120, 3) := by decide +kernel
theorem e_Law_law_413 : decode m_Law_law.2.1 413 = .ok (.iconst 0, 1) := by decide +kernel
theorem e_Law_law_414 : decode m_Law_law.2.1 414 = .ok (.ireturn, 1) := by decide +kernel
theorem e_Law_law_415 : decode m_Law_law.2.1 415 = .ok (.aload_n 1, 1) := by decide +kernel
theorem e_Law_law_416 : decode m_Law_law.2.1 416 = .ok (.aload_n 0, 1) := by decide +kernel
theorem e_Law_law_417 : decode m_Law_law.2.1 417 = .ok (.iload_n 3, 1) := by decide +kernel
theorem e_Law_law_418 : decode m_Law_law.2.1 418 = .ok (.iconst 1, 1) := by decide +kernel
theorem e_Law_law_419 : decode m_Law_law.2.1 419 = .ok (.iadd, 1) := by decide +kernel
theorem e_Law_law_420 : decode m_Law_law.2.1 420 = .ok (.iaload, 1) := by decide +kernel
theorem e_Law_law_421 : decode m_Law_law.2.1 421 = .ok (.invokevirtual 62, 3) := by decide +kernel
theorem e_Law_law_424 : decode m_Law_law.2.1 424 = .ok (.aload_n 2, 1) := by decide +kernel
theorem e_Law_law_425 : decode m_Law_law.2.1 425 = .ok (.aload_n 0, 1) := by decide +kernel
theorem e_Law_law_426 : decode m_Law_law.2.1 426 = .ok (.iload_n 3, 1) := by decide +kernel
theorem e_Law_law_427 : decode m_Law_law.2.1 427 = .ok (.iconst 1, 1) := by decide +kernel
theorem e_Law_law_428 : decode m_Law_law.2.1 428 = .ok (.iadd, 1) := by decide +kernel
theorem e_Law_law_429 : decode m_Law_law.2.1 429 = .ok (.iaload, 1) := by decide +kernel
theorem e_Law_law_430 : decode m_Law_law.2.1 430 = .ok (.invokevirtual 65, 3) := by decide +kernel
theorem e_Law_law_433 : decode m_Law_law.2.1 433 = .ok (.if_icmp .eq 97, 3) := by decide +kernel
theorem e_Law_law_436 : decode m_Law_law.2.1 436 = .ok (.iconst 0, 1) := by decide +kernel
theorem e_Law_law_437 : decode m_Law_law.2.1 437 = .ok (.ireturn, 1) := by decide +kernel
theorem e_Law_law_438 : decode m_Law_law.2.1 438 = .ok (.aload_n 1, 1) := by decide +kernel
theorem e_Law_law_439 : decode m_Law_law.2.1 439 = .ok (.aload_n 0, 1) := by decide +kernel
theorem e_Law_law_440 : decode m_Law_law.2.1 440 = .ok (.iload_n 3, 1) := by decide +kernel
theorem e_Law_law_441 : decode m_Law_law.2.1 441 = .ok (.iconst 1, 1) := by decide +kernel
theorem e_Law_law_442 : decode m_Law_law.2.1 442 = .ok (.iadd, 1) := by decide +kernel
theorem e_Law_law_443 : decode m_Law_law.2.1 443 = .ok (.iaload, 1) := by decide +kernel
theorem e_Law_law_444 : decode m_Law_law.2.1 444 = .ok (.invokevirtual 66, 3) := by decide +kernel
theorem e_Law_law_447 : decode m_Law_law.2.1 447 = .ok (.aload_n 2, 1) := by decide +kernel
theorem e_Law_law_448 : decode m_Law_law.2.1 448 = .ok (.aload_n 0, 1) := by decide +kernel
theorem e_Law_law_449 : decode m_Law_law.2.1 449 = .ok (.iload_n 3, 1) := by decide +kernel
theorem e_Law_law_450 : decode m_Law_law.2.1 450 = .ok (.iconst 1, 1) := by decide +kernel
theorem e_Law_law_451 : decode m_Law_law.2.1 451 = .ok (.iadd, 1) := by decide +kernel
theorem e_Law_law_452 : decode m_Law_law.2.1 452 = .ok (.iaload, 1) := by decide +kernel
theorem e_Law_law_453 : decode m_Law_law.2.1 453 = .ok (.invokevirtual 69, 3) := by decide +kernel
theorem e_Law_law_456 : decode m_Law_law.2.1 456 = .ok (.if_icmp .eq 74, 3) := by decide +kernel
theorem e_Law_law_459 : decode m_Law_law.2.1 459 = .ok (.iconst 0, 1) := by decide +kernel
theorem e_Law_law_460 : decode m_Law_law.2.1 460 = .ok (.ireturn, 1) := by decide +kernel
theorem e_Law_law_461 : decode m_Law_law.2.1 461 = .ok (.aload_n 1, 1) := by decide +kernel
theorem e_Law_law_462 : decode m_Law_law.2.1 462 = .ok (.aload_n 0, 1) := by decide +kernel
theorem e_Law_law_463 : decode m_Law_law.2.1 463 = .ok (.iload_n 3, 1) := by decide +kernel
theorem e_Law_law_464 : decode m_Law_law.2.1 464 = .ok (.iconst 1, 1) := by decide +kernel
theorem e_Law_law_465 : decode m_Law_law.2.1 465 = .ok (.iadd, 1) := by decide +kernel
theorem e_Law_law_466 : decode m_Law_law.2.1 466 = .ok (.iaload, 1) := by decide +kernel
theorem e_Law_law_467 : decode m_Law_law.2.1 467 = .ok (.invokevirtual 70, 3) := by decide +kernel
theorem e_Law_law_470 : decode m_Law_law.2.1 470 = .ok (.aload_n 2, 1) := by decide +kernel
theorem e_Law_law_471 : decode m_Law_law.2.1 471 = .ok (.aload_n 0, 1) := by decide +kernel
theorem e_Law_law_472 : decode m_Law_law.2.1 472 = .ok (.iload_n 3, 1) := by decide +kernel
theorem e_Law_law_473 : decode m_Law_law.2.1 473 = .ok (.iconst 1, 1) := by decide +kernel
theorem e_Law_law_474 : decode m_Law_law.2.1 474 = .ok (.iadd, 1) := by decide +kernel
theorem e_Law_law_475 : decode m_Law_law.2.1 475 = .ok (.iaload, 1) := by decide +kernel
theorem e_Law_law_476 : decode m_Law_law.2.1 476 = .ok (.invokevirtual 73, 3) := by decide +kernel
theorem e_Law_law_479 : decode m_Law_law.2.1 479 = .ok (.if_icmp .eq 51, 3) := by decide +kernel
theorem e_Law_law_482 : decode m_Law_law.2.1 482 = .ok (.iconst 0, 1) := by decide +kernel
theorem e_Law_law_483 : decode m_Law_law.2.1 483 = .ok (.ireturn, 1) := by decide +kernel
theorem e_Law_law_484 : decode m_Law_law.2.1 484 = .ok (.aload_n 1, 1) := by decide +kernel
theorem e_Law_law_485 : decode m_Law_law.2.1 485 = .ok (.aload_n 0, 1) := by decide +kernel
theorem e_Law_law_486 : decode m_Law_law.2.1 486 = .ok (.iload_n 3, 1) := by decide +kernel
theorem e_Law_law_487 : decode m_Law_law.2.1 487 = .ok (.iconst 1, 1) := by decide +kernel
theorem e_Law_law_488 : decode m_Law_law.2.1 488 = .ok (.iadd, 1) := by decide +kernel
theorem e_Law_law_489 : decode m_Law_law.2.1 489 = .ok (.iaload, 1) := by decide +kernel
theorem e_Law_law_490 : decode m_Law_law.2.1 490 = .ok (.invokevirtual 74, 3) := by decide +kernel
theorem e_Law_law_493 : decode m_Law_law.2.1 493 = .ok (.aload_n 2, 1) := by decide +kernel
theorem e_Law_law_494 : decode m_Law_law.2.1 494 = .ok (.aload_n 0, 1) := by decide +kernel
theorem e_Law_law_495 : decode m_Law_law.2.1 495 = .ok (.iload_n 3, 1) := by decide +kernel
theorem e_Law_law_496 : decode m_Law_law.2.1 496 = .ok (.iconst 1, 1) := by decide +kernel
theorem e_Law_law_497 : decode m_Law_law.2.1 497 = .ok (.iadd, 1) := by decide +kernel
theorem e_Law_law_498 : decode m_Law_law.2.1 498 = .ok (.iaload, 1) := by decide +kernel
theorem e_Law_law_499 : decode m_Law_law.2.1 499 = .ok (.invokevirtual 77, 3) := by decide +kernel
theorem e_Law_law_502 : decode m_Law_law.2.1 502 = .ok (.if_icmp .eq 28, 3) := by decide +kernel
theorem e_Law_law_505 : decode m_Law_law.2.1 505 = .ok (.iconst 0, 1) := by decide +kernel
theorem e_Law_law_506 : decode m_Law_law.2.1 506 = .ok (.ireturn, 1) := by decide +kernel
theorem e_Law_law_507 : decode m_Law_law.2.1 507 = .ok (.aload_n 1, 1) := by decide +kernel
theorem e_Law_law_508 : decode m_Law_law.2.1 508 = .ok (.aload_n 0, 1) := by decide +kernel
theorem e_Law_law_509 : decode m_Law_law.2.1 509 = .ok (.iload_n 3, 1) := by decide +kernel
theorem e_Law_law_510 : decode m_Law_law.2.1 510 = .ok (.iconst 1, 1) := by decide +kernel
theorem e_Law_law_511 : decode m_Law_law.2.1 511 = .ok (.iadd, 1) := by decide +kernel
theorem e_Law_law_512 : decode m_Law_law.2.1 512 = .ok (.iaload, 1) := by decide +kernel
theorem e_Law_law_513 : decode m_Law_law.2.1 513 = .ok (.invokevirtual 78, 3) := by decide +kernel
theorem e_Law_law_516 : decode m_Law_law.2.1 516 = .ok (.aload_n 2, 1) := by decide +kernel
theorem e_Law_law_517 : decode m_Law_law.2.1 517 = .ok (.aload_n 0, 1) := by decide +kernel
theorem e_Law_law_518 : decode m_Law_law.2.1 518 = .ok (.iload_n 3, 1) := by decide +kernel
theorem e_Law_law_519 : decode m_Law_law.2.1 519 = .ok (.iconst 1, 1) := by decide +kernel
theorem e_Law_law_520 : decode m_Law_law.2.1 520 = .ok (.iadd, 1) := by decide +kernel
theorem e_Law_law_521 : decode m_Law_law.2.1 521 = .ok (.iaload, 1) := by decide +kernel
theorem e_Law_law_522 : decode m_Law_law.2.1 522 = .ok (.invokevirtual 81, 3) := by decide +kernel
theorem e_Law_law_525 : decode m_Law_law.2.1 525 = .ok (.if_icmp .eq 5, 3) := by decide +kernel
theorem e_Law_law_528 : decode m_Law_law.2.1 528 = .ok (.iconst 0, 1) := by decide +kernel
theorem e_Law_law_529 : decode m_Law_law.2.1 529 = .ok (.ireturn, 1) := by decide +kernel
theorem e_Law_law_530 : decode m_Law_law.2.1 530 = .ok (.iinc 3 5, 3) := by decide +kernel
theorem e_Law_law_533 : decode m_Law_law.2.1 533 = .ok (.goto (-485), 3) := by decide +kernel
theorem e_Law_law_536 : decode m_Law_law.2.1 536 = .ok (.iconst 1, 1) := by decide +kernel
theorem e_Law_law_537 : decode m_Law_law.2.1 537 = .ok (.ireturn, 1) := by decide +kernel
end
section
/-! rows with the fields' numbers written out; reading a heap that was written -/
section RowsF
variable {M : MM} {d pc : Nat} {lv : List (Nat × PV)} {st : List PV} {σ : PS} {P : Option PV → PS → Prop}
theorem p_gI (f : Nat) {idx ci k r : Nat} (hd : decode M.2.1 pc = .ok (.getfield idx, 3)) (hf : FS M.1.cls idx ci k) (hk : isR ci k = false) (hfe : 64 * ci + k = f) (ht : tg σ r = ci + 1) (kk : Wp M d (pc + 3) lv (.inl (fi σ f r) :: st) σ P) : Wp M d pc lv (.inr r :: st) σ P := by
  subst hfe; exact p_getI hd hf hk ht kk
theorem p_gR (f : Nat) {idx ci k r : Nat} (hd : decode M.2.1 pc = .ok (.getfield idx, 3)) (hf : FS M.1.cls idx ci k) (hk : isR ci k = true) (hfe : 64 * ci + k = f) (ht : tg σ r = ci + 1) (kk : Wp M d (pc + 3) lv (.inr (fr σ f r) :: st) σ P) : Wp M d pc lv (.inr r :: st) σ P := by
  subst hfe; exact p_getR hd hf hk ht kk
theorem p_pI (f : Nat) {idx ci k r : Nat} {x : Int32} (hd : decode M.2.1 pc = .ok (.putfield idx, 3)) (hf : FS M.1.cls idx ci k) (hk : isR ci k = false) (hfe : 64 * ci + k = f) (hfin : FinOk M ci k) (hty : fty ci k = .int) (ht : tg σ r = ci + 1) (kk : Wp M d (pc + 3) lv st (pfi σ f r x) P) : Wp M d pc lv (.inl x :: .inr r :: st) σ P := by
  subst hfe; exact p_putI hd hf hk hfin ht (by rw [hty]; exact ⟨rfl, rfl⟩) kk
theorem nar_z {x : Int32} (h : x = 0 ∨ x = 1) : narrow .boolean (.int x) = .int x ∧ fits .boolean (.int x) = true := by
  rcases h with rfl | rfl <;> exact ⟨by decide, by decide⟩
theorem p_pZ (f : Nat) {idx ci k r : Nat} {x : Int32} (hd : decode M.2.1 pc = .ok (.putfield idx, 3)) (hf : FS M.1.cls idx ci k) (hk : isR ci k = false) (hfe : 64 * ci + k = f) (hfin : FinOk M ci k) (hty : fty ci k = .boolean) (ht : tg σ r = ci + 1) (hx : x = 0 ∨ x = 1) (kk : Wp M d (pc + 3) lv st (pfi σ f r x) P) : Wp M d pc lv (.inl x :: .inr r :: st) σ P := by
  subst hfe; exact p_putI hd hf hk hfin ht (by rw [hty]; exact nar_z hx) kk
theorem p_pR (f : Nat) {idx ci k r x : Nat} (hd : decode M.2.1 pc = .ok (.putfield idx, 3)) (hf : FS M.1.cls idx ci k) (hk : isR ci k = true) (hfe : 64 * ci + k = f) (hfin : FinOk M ci k) (ht : tg σ r = ci + 1) (kk : Wp M d (pc + 3) lv st (pfr σ f r x) P) : Wp M d pc lv (.inr x :: .inr r :: st) σ P := by
  subst hfe; exact p_putR hd hf hk hfin ht kk
theorem Wp.le {v : Option PV} (h : Wp M d pc lv st σ P) : ∃ (v : Option PV) (σ' : PS), P v σ' ∧ nx σ ≤ nx σ' ∧ sl σ ≤ sl σ' := by
  obtain ⟨v, σ', h1, h2, h3, -⟩ := h
  exact ⟨v, σ', h1, h2, h3⟩
/-- as Wp.go, with the room that is left -/
theorem Wp.goR {pc' : Nat} {st' : List PV}
    (h : ∀ (p : Program) (l : Launch) (e : Env) (R : Room) (s : State) (m : MethodId) (args : Array Value) (below : List Frame) (meth : Method) (c : Code) (K : KX) (H : Heap) (locs : List Loc) (cells slots : Nat) (ls : Array Slot) (Z : State → Prop), Cx M d K p R s m args meth c → cells ≤ R.cells → slots ≤ R.slots → lv_has ls M.2.2.1 (lvs lv) →
      W p l e R s m args below meth c H locs cells slots Z (F0 m pc' ls (st'.map tv)) → W p l e R s m args below meth c H locs cells slots Z (F0 m pc ls (st.map tv)))
    (k : Wp M d pc' lv st' σ P) : Wp M d pc lv st σ P := by
  obtain ⟨v, σ', hP, h1, h2, hW⟩ := k
  exact ⟨v, σ', hP, h1, h2, fun p l e R s m args below meth c K H locs cells slots ls Z C hR hB hL hc hs hl hk => h p l e R s m args below meth c K H locs cells slots ls Z C (by omega) (by omega) hl (hW p l e R s m args below meth c K H locs cells slots ls Z C hR hB hL hc hs hl hk)⟩
theorem p_mmax {idx : Nat} {x y : Int32} (hd : decode M.2.1 pc = .ok (.invokestatic idx, 3)) (hl : Cond.methodLink M.1.cls idx m_Math_max.1 ∈ GT) (h8 : st.length ≤ 8) (hd1 : 1 ≤ d) (kk : Wp M d (pc + 3) lv (.inl (if x < y then y else x) :: st) σ P) : Wp M d pc lv (.inl y :: .inl x :: st) σ P :=
  Wp.goR (fun p l e R s m args below meth c K H locs cells slots ls Z C hc hs hlv k => by
    have c7 := C.2.2.2.2.2.2.1
    have c8 := C.2.2.2.2.2.2.2.1
    exact va_mmax C.1 C.2.1 (by rw [C.2.2.1]; exact hlv.1.symm) C.2.2.2.1 (C.w hl) (C.w t_Math_max) (C.w w_41) (C.w k_Math_max.1) (by omega) (by rw [cat_sum]; omega) hc hs hd k) kk
theorem p_mmin {idx : Nat} {x y : Int32} (hd : decode M.2.1 pc = .ok (.invokestatic idx, 3)) (hl : Cond.methodLink M.1.cls idx m_Math_min.1 ∈ GT) (h8 : st.length ≤ 8) (hd1 : 1 ≤ d) (kk : Wp M d (pc + 3) lv (.inl (if y < x then y else x) :: st) σ P) : Wp M d pc lv (.inl y :: .inl x :: st) σ P :=
  Wp.goR (fun p l e R s m args below meth c K H locs cells slots ls Z C hc hs hlv k => by
    have c7 := C.2.2.2.2.2.2.1
    have c8 := C.2.2.2.2.2.2.2.1
    exact va_mmin C.1 C.2.1 (by rw [C.2.2.1]; exact hlv.1.symm) C.2.2.2.1 (C.w hl) (C.w t_Math_min) (C.w w_41) (C.w k_Math_min.1) (by omega) (by rw [cat_sum]; omega) hc hs hd k) kk
theorem p_top {x y : Int32} (h : x = y) (kk : Wp M d pc lv (.inl y :: st) σ P) : Wp M d pc lv (.inl x :: st) σ P := h ▸ kk
theorem p_topr {x y : Nat} (h : x = y) (kk : Wp M d pc lv (.inr y :: st) σ P) : Wp M d pc lv (.inr x :: st) σ P := h ▸ kk
theorem p_gIv (f : Nat) {idx ci k r : Nat} {v : Int32} (hd : decode M.2.1 pc = .ok (.getfield idx, 3)) (hf : FS M.1.cls idx ci k) (hk : isR ci k = false) (hfe : 64 * ci + k = f) (ht : tg σ r = ci + 1) (hv : fi σ f r = v) (kk : Wp M d (pc + 3) lv (.inl v :: st) σ P) : Wp M d pc lv (.inr r :: st) σ P := by
  subst hv; exact p_gI f hd hf hk hfe ht kk
theorem p_gRv (f : Nat) {idx ci k r v : Nat} (hd : decode M.2.1 pc = .ok (.getfield idx, 3)) (hf : FS M.1.cls idx ci k) (hk : isR ci k = true) (hfe : 64 * ci + k = f) (ht : tg σ r = ci + 1) (hv : fr σ f r = v) (kk : Wp M d (pc + 3) lv (.inr v :: st) σ P) : Wp M d pc lv (.inr r :: st) σ P := by
  subst hv; exact p_gR f hd hf hk hfe ht kk
theorem p_st {x y : PS} (h : x = y) (kk : Wp M d pc lv st y P) : Wp M d pc lv st x P := h ▸ kk
end RowsF
/-! answers -/
theorem rv_v {P : Prop} (h : P) : RV none none ∧ P := ⟨Or.inl ⟨rfl, rfl⟩, h⟩
theorem rv_i {x : Int32} {P : Prop} (h : P) : RV (some .int) (some (.inl x)) ∧ P := ⟨Or.inr (Or.inl ⟨rfl, x, rfl⟩), h⟩
theorem rv_z {x : Int32} {P : Prop} (hx : x = 0 ∨ x = 1) (h : P) : RV (some .boolean) (some (.inl x)) ∧ P := ⟨Or.inr (Or.inr (Or.inl ⟨rfl, x, rfl, (nar_z hx).1⟩)), h⟩
theorem rv_o {n : String} {r : Nat} {P : Prop} (h : P) : RV (some (.object n)) (some (.inr r)) ∧ P := ⟨Or.inr (Or.inr (Or.inr ⟨Or.inl ⟨n, rfl⟩, r, rfl⟩)), h⟩
theorem rv_a {t : FieldType} {r : Nat} {P : Prop} (h : P) : RV (some (.array t)) (some (.inr r)) ∧ P := ⟨Or.inr (Or.inr (Or.inr ⟨Or.inr ⟨t, rfl⟩, r, rfl⟩)), h⟩
/-! what is read out of a heap that was written -/
section Reads
variable {σ : PS} {i j a b n ci ti : Nat} {v : Int32} {w : Nat}
theorem up2_self {α : Type} (f : Nat → Nat → α) (i a : Nat) (v : α) : up2 f i a v i a = v := by simp [up2]
theorem up2_ne {α : Type} (f : Nat → Nat → α) {i a j b : Nat} (v : α) (h : ¬ (j = i ∧ b = a)) : up2 f i a v j b = f j b := by simp [up2, h]
theorem fi_pfi : fi (pfi σ i a v) j b = if j = i ∧ b = a then v else fi σ j b := rfl
theorem fi_pfr : fi (pfr σ i a w) = fi σ := rfl
theorem fi_pai : fi (pai σ a i v) = fi σ := rfl
theorem fi_par : fi (par σ a i w) = fi σ := rfl
theorem fi_parr : fi (parr σ ti n) = fi σ := rfl
theorem fi_pcpy {x y : Nat} : fi (pcpy σ a i b j n) = fi σ := rfl
theorem fr_pfr : fr (pfr σ i a w) j b = if j = i ∧ b = a then w else fr σ j b := rfl
theorem fr_pfi : fr (pfi σ i a v) = fr σ := rfl
theorem fr_pai : fr (pai σ a i v) = fr σ := rfl
theorem fr_par : fr (par σ a i w) = fr σ := rfl
theorem fr_parr : fr (parr σ ti n) = fr σ := rfl
theorem fr_pcpy : fr (pcpy σ a i b j n) = fr σ := rfl
theorem tg_pfi : tg (pfi σ i a v) = tg σ := rfl
theorem tg_pfr : tg (pfr σ i a w) = tg σ := rfl
theorem tg_pai : tg (pai σ a i v) = tg σ := rfl
theorem tg_par : tg (par σ a i w) = tg σ := rfl
theorem tg_pcpy : tg (pcpy σ a i b j n) = tg σ := rfl
theorem tg_pnew : tg (pnew σ ci n) b = if b = nx σ then ci + 1 else tg σ b := rfl
theorem tg_parr : tg (parr σ ti n) b = if b = nx σ then 100 + ti else tg σ b := rfl
theorem al_pfi : al (pfi σ i a v) = al σ := rfl
theorem al_pfr : al (pfr σ i a w) = al σ := rfl
theorem al_pai : al (pai σ a i v) = al σ := rfl
theorem al_par : al (par σ a i w) = al σ := rfl
theorem al_pcpy : al (pcpy σ a i b j n) = al σ := rfl
theorem al_pnew : al (pnew σ ci n) = al σ := rfl
theorem al_parr : al (parr σ ti n) b = if b = nx σ then n else al σ b := rfl
theorem ai_pfi : ai (pfi σ i a v) = ai σ := rfl
theorem ai_pfr : ai (pfr σ i a w) = ai σ := rfl
theorem ai_pai : ai (pai σ a i v) b j = if b = a ∧ j = i then v else ai σ b j := rfl
theorem ai_par : ai (par σ a i w) = ai σ := rfl
theorem ai_pcpy : ai (pcpy σ a i b j n) = ai σ := rfl
theorem ai_pnew : ai (pnew σ ci n) = ai σ := rfl
theorem ai_parr : ai (parr σ ti n) b j = if b = nx σ then 0 else ai σ b j := rfl
theorem ar_pfi : ar (pfi σ i a v) = ar σ := rfl
theorem ar_pfr : ar (pfr σ i a w) = ar σ := rfl
theorem ar_pai : ar (pai σ a i v) = ar σ := rfl
theorem ar_par : ar (par σ a i w) b j = if b = a ∧ j = i then w else ar σ b j := rfl
theorem ar_pcpy {x y : Nat} : ar (pcpy σ a i b j n) x y = if x = b then va_cpy (ar σ a) (ar σ b) i j n y else ar σ x y := rfl
theorem ar_pnew : ar (pnew σ ci n) = ar σ := rfl
theorem ar_parr : ar (parr σ ti n) b j = if b = nx σ then 0 else ar σ b j := rfl
theorem nx_pfi : nx (pfi σ i a v) = nx σ := rfl
theorem nx_pfr : nx (pfr σ i a w) = nx σ := rfl
theorem nx_pai : nx (pai σ a i v) = nx σ := rfl
theorem nx_par : nx (par σ a i w) = nx σ := rfl
theorem nx_pcpy : nx (pcpy σ a i b j n) = nx σ := rfl
theorem nx_pnew : nx (pnew σ ci n) = nx σ + 1 := rfl
theorem nx_parr : nx (parr σ ti n) = nx σ + 1 := rfl
theorem sl_pfi : sl (pfi σ i a v) = sl σ := rfl
theorem sl_pfr : sl (pfr σ i a w) = sl σ := rfl
theorem sl_pai : sl (pai σ a i v) = sl σ := rfl
theorem sl_par : sl (par σ a i w) = sl σ := rfl
theorem sl_pcpy : sl (pcpy σ a i b j n) = sl σ := rfl
theorem sl_pnew : sl (pnew σ ci n) = sl σ + n := rfl
theorem sl_parr : sl (parr σ ti n) = sl σ + n := rfl
end Reads
end
section
/-! ArrayList: what a list holds, and its methods -/
/-- the list at l holds the n references f 0, f 1 .. -/
def AL (σ : PS) (l n : Nat) (f : Nat → Nat) : Prop := tg σ l = 1 ∧ fi σ 2 l = nI n ∧ n ≤ 72 ∧ n ≤ al σ (fr σ 1 l) ∧ al σ (fr σ 1 l) ≤ 110 ∧ fr σ 1 l < nx σ ∧ l < nx σ ∧
  ((tg σ (fr σ 1 l) = 99 ∧ al σ (fr σ 1 l) = 0) ∨ (tg σ (fr σ 1 l) = 102 ∧ 10 ≤ al σ (fr σ 1 l))) ∧ ∀ i, i < n → ar σ (fr σ 1 l) i = f i ∧ (tg σ (f i) = 4 ∨ tg σ (f i) = 6)
/-- only the list l has changed: its own fields, its array -/
def LF (σ σ' : PS) (l : Nat) : Prop := nx σ ≤ nx σ' ∧ sl σ ≤ sl σ' ∧ (∀ r, r < nx σ → tg σ' r = tg σ r ∧ al σ' r = al σ r) ∧ (∀ r j, r < nx σ → ai σ' r j = ai σ r j) ∧ (∀ i r, (r ≠ l ∨ 3 ≤ i) → fi σ' i r = fi σ i r) ∧ (∀ i r, (r ≠ l ∨ i ≠ 1) → fr σ' i r = fr σ i r) ∧
  (∀ r j, r < nx σ → r ≠ fr σ 1 l → ar σ' r j = ar σ r j) ∧ (fr σ' 1 l = fr σ 1 l ∨ nx σ ≤ fr σ' 1 l)
theorem sp_AL_size {σ : PS} {l : Nat} {P : Option PV → PS → Prop} (h : tg σ l = 1) (hP : P (some (.inl (fi σ 2 l))) σ) : Ctr m_AL_size 1 [.inr l] σ P := by
  refine Ctr.of y_AL_size (Nat.le_of_ble_eq_true rfl) ?_
  refine p_aload_n e_AL_size_0 rfl ?_
  refine p_gI 2 e_AL_size_1 f_AL_48 rfl rfl (by assumption) ?_
  refine p_iret e_AL_size_4 (rv_i ?_)
  exact hP
theorem sp_AL_isEmpty {σ : PS} {l : Nat} {P : Option PV → PS → Prop} (h : tg σ l = 1) (hP : P (some (.inl (if fi σ 2 l = 0 then 1 else 0))) σ) : Ctr m_AL_isEmpty 1 [.inr l] σ P := by
  refine Ctr.of y_AL_isEmpty (Nat.le_of_ble_eq_true rfl) ?_
  refine p_aload_n e_AL_isEmpty_0 rfl ?_
  refine p_gI 2 e_AL_isEmpty_1 f_AL_48 rfl rfl (by assumption) ?_
  refine p_if_ne (tgt := 11) e_AL_isEmpty_4 (by decide) (fun h4 => ?_) (fun h4 => ?_)
  · refine p_iconst (x := 0) e_AL_isEmpty_11 (by decide) ?_
    refine p_iret e_AL_isEmpty_12 (rv_z (by first | assumption | exact Or.inl rfl | exact Or.inr rfl) ?_)
    rw [if_neg h4] at hP
    exact hP
  · refine p_iconst (x := 1) e_AL_isEmpty_7 (by decide) ?_
    refine p_goto (tgt := 12) e_AL_isEmpty_8 (by decide) ?_
    refine p_iret e_AL_isEmpty_12 (rv_z (by first | assumption | exact Or.inl rfl | exact Or.inr rfl) ?_)
    rw [if_pos h4] at hP
    exact hP
theorem sp_Pre_checkIndex {σ : PS} {i n z : Nat} {P : Option PV → PS → Prop} (h : i < n) (hn : n < 2 ^ 31) (hP : P (some (.inl (nI i))) σ) : Ctr m_Pre_checkIndex 1 [.inl (nI i), .inl (nI n), .inr z] σ P := by
  refine Ctr.of y_Pre_checkIndex (Nat.le_of_ble_eq_true rfl) ?_
  refine p_iload_n e_Pre_checkIndex_0 rfl ?_
  refine p_if_lt (tgt := 9) e_Pre_checkIndex_1 (by decide) (fun hx => absurd hx (nI_pos (by omega))) (fun _ => ?_)
  refine p_iload_n e_Pre_checkIndex_4 rfl ?_
  refine p_iload_n e_Pre_checkIndex_5 rfl ?_
  refine p_icmp_lt (tgt := 16) e_Pre_checkIndex_6 (by decide) (fun _ => ?_) (fun hx => absurd (nI_lt h hn) hx)
  refine p_iload_n e_Pre_checkIndex_16 rfl ?_
  refine p_iret e_Pre_checkIndex_17 (rv_i ?_)
  exact hP
theorem sp_Objs_checkIndex {σ : PS} {i n : Nat} {P : Option PV → PS → Prop} (h : i < n) (hn : n < 2 ^ 31) (hP : P (some (.inl (nI i))) σ) : Ctr m_Objs_checkIndex 2 [.inl (nI i), .inl (nI n)] σ P := by
  refine Ctr.of y_Objs_checkIndex (Nat.le_of_ble_eq_true rfl) ?_
  refine p_iload_n e_Objs_checkIndex_0 rfl ?_
  refine p_iload_n e_Objs_checkIndex_1 rfl ?_
  refine p_null e_Objs_checkIndex_2 ?_
  refine p_stat (d' := 1) [_, _, _] _ e_Objs_checkIndex_3 c_Objs_105 k_Pre_checkIndex t_Pre_checkIndex rfl rfl (Nat.le_of_ble_eq_true rfl) (Nat.le_of_ble_eq_true rfl) ?_
  refine sp_Pre_checkIndex h hn ?_
  refine p_iret e_Objs_checkIndex_6 (rv_i ?_)
  exact hP
theorem sp_AL_elementData {σ : PS} {l n i : Nat} {f : Nat → Nat} {P : Option PV → PS → Prop} (h : AL σ l n f) (hi : i < n) (hP : P (some (.inr (f i))) σ) : Ctr m_AL_elementData 1 [.inr l, .inl (nI i)] σ P := by
  obtain ⟨h1, h2, h3, h4, h5, h6, h7, h8, h9⟩ := h
  have ht : tg σ (fr σ 1 l) = 102 := by
    rcases h8 with ⟨-, h⟩ | ⟨h, -⟩
    · omega
    · exact h
  refine Ctr.of y_AL_elementData (Nat.le_of_ble_eq_true rfl) ?_
  refine p_aload_n e_AL_elementData_0 rfl ?_
  refine p_gR 1 e_AL_elementData_1 f_AL_9 rfl rfl (by assumption) ?_
  refine p_iload_n e_AL_elementData_4 rfl ?_
  refine p_aald e_AL_elementData_5 (ti := 2) (n := i) (by decide) ht rfl (by omega) (by omega) ?_
  refine p_aret e_AL_elementData_6 (rv_o ?_)
  rw [(h9 i hi).1]
  exact hP
theorem sp_AL_get {σ : PS} {l n i : Nat} {f : Nat → Nat} {P : Option PV → PS → Prop} (h : AL σ l n f) (hi : i < n) (hP : P (some (.inr (f i))) σ) : Ctr m_AL_get 3 [.inr l, .inl (nI i)] σ P := by
  have h1 := h.1
  have h2 := h.2.1
  have h3 := h.2.2.1
  refine Ctr.of y_AL_get (Nat.le_of_ble_eq_true rfl) ?_
  refine p_iload_n e_AL_get_0 rfl ?_
  refine p_aload_n e_AL_get_1 rfl ?_
  refine p_gI 2 e_AL_get_2 f_AL_48 rfl rfl (by assumption) ?_
  rw [h2]
  refine p_stat (d' := 2) [_, _] _ e_AL_get_5 c_AL_118 k_Objs_checkIndex t_Objs_checkIndex rfl rfl (Nat.le_of_ble_eq_true rfl) (Nat.le_of_ble_eq_true rfl) ?_
  refine sp_Objs_checkIndex hi (by omega) ?_
  refine p_pop e_AL_get_8 ?_
  refine p_aload_n e_AL_get_9 rfl ?_
  refine p_iload_n e_AL_get_10 rfl ?_
  refine p_inv (ci := 0) (d' := 1) [_] _ e_AL_get_11 c_AL_123 k_AL_elementData i_AL_elementData s_AL_elementData rfl rfl (by assumption) rfl rfl (Nat.le_of_ble_eq_true rfl) (Nat.le_of_ble_eq_true rfl) ?_
  refine sp_AL_elementData h hi ?_
  refine p_aret e_AL_get_14 (rv_o ?_)
  exact hP
end
section
/-! ArrayList: taking out -/
/-- the list l has lost its place i -/
def RM (σ σ' : PS) (l n i : Nat) (f : Nat → Nat) : Prop := LF σ σ' l ∧ nx σ' = nx σ ∧ sl σ' = sl σ ∧ fr σ' 1 l = fr σ 1 l ∧ tg σ' = tg σ ∧ AL σ' l (n - 1) (fun j => if j < i then f j else f (j + 1))
theorem rm_of {σ σ' : PS} {l n i : Nat} {f : Nat → Nat} (h : AL σ l n f) (hi : i < n) (h1 : σ'.1 = σ.1) (h2 : al σ' = al σ) (h3 : ai σ' = ai σ) (h4 : fr σ' = fr σ) (h5 : ∀ k r, (r ≠ l ∨ 3 ≤ k) → fi σ' k r = fi σ k r) (h6 : fi σ' 2 l = nI (n - 1)) (h7 : ∀ r j, r ≠ fr σ 1 l → ar σ' r j = ar σ r j)
    (h8 : ∀ j, j < n - 1 → ar σ' (fr σ 1 l) j = if j < i then ar σ (fr σ 1 l) j else ar σ (fr σ 1 l) (j + 1)) : RM σ σ' l n i f := by
  have n1 : nx σ' = nx σ := by unfold nx; rw [h1]
  have s1 : sl σ' = sl σ := by unfold sl; rw [h1]
  have t1 : tg σ' = tg σ := by unfold tg; rw [h1]
  obtain ⟨a1, a2, a3, a4, a5, a6, a7, a8, a9⟩ := h
  refine ⟨⟨by omega, by omega, fun r _ => by rw [t1, h2]; exact ⟨rfl, rfl⟩, fun r j _ => by rw [h3], h5, fun k r _ => by rw [h4], fun r j _ hr => h7 r j hr, Or.inl (by rw [h4])⟩, n1, s1, by rw [h4], t1, ?_⟩
  unfold AL
  rw [h4, t1, h2, n1]
  refine ⟨a1, h6, by omega, by omega, a5, a6, a7, a8, fun j hj => ?_⟩
  rw [h8 j hj]
  by_cases hji : j < i
  · simp only [if_pos hji]; exact a9 j (by omega)
  · simp only [if_neg hji]; exact a9 (j + 1) (by omega)
theorem sp_AL_fastRemove {σ : PS} {l n i e : Nat} {f : Nat → Nat} {P : Option PV → PS → Prop} (h : AL σ l n f) (hi : i < n) (he : e = fr σ 1 l) (hP : ∀ σ', RM σ σ' l n i f → P none σ') : Ctr m_AL_fastRemove 1 [.inr l, .inr e, .inl (nI i)] σ P := by
  obtain ⟨h1, h2, h3, h4, h5, h6, h7, h8, h9⟩ := id h
  subst he
  have ht : tg σ (fr σ 1 l) = 102 := by
    rcases h8 with ⟨-, h⟩ | ⟨h, -⟩
    · omega
    · exact h
  have e1 : nI n - 1 = nI (n - 1) := by
    obtain ⟨k, rfl⟩ : ∃ k, n = k + 1 := ⟨n - 1, by omega⟩
    exact nI_pred k
  refine Ctr.of y_AL_fastRemove (Nat.le_of_ble_eq_true rfl) ?_
  refine p_aload_n e_AL_fastRemove_0 rfl ?_
  refine p_dup e_AL_fastRemove_1 ?_
  refine p_gI 0 e_AL_fastRemove_2 f_AL_63 rfl rfl (by assumption) ?_
  refine p_iconst (x := 1) e_AL_fastRemove_5 (by decide) ?_
  refine p_iadd e_AL_fastRemove_6 ?_
  refine p_pI 0 e_AL_fastRemove_7 f_AL_63 rfl rfl (fun q h => by cases h; exact Or.inl rfl) rfl (by assumption) ?_
  refine p_aload_n e_AL_fastRemove_10 rfl ?_
  refine p_gIv 2 e_AL_fastRemove_11 f_AL_48 rfl rfl (by assumption) h2 ?_
  refine p_iconst (x := 1) e_AL_fastRemove_14 (by decide) ?_
  refine p_isub e_AL_fastRemove_15 ?_
  refine p_top e1 ?_
  refine p_dup e_AL_fastRemove_16 ?_
  refine p_istore_n e_AL_fastRemove_17 (by decide) ?_
  refine p_iload_n e_AL_fastRemove_18 rfl ?_
  refine p_icmp_le (tgt := 34) e_AL_fastRemove_19 (by decide) (fun h19 => ?_) (fun h19 => ?_)
  · have hin : i = n - 1 := by
      rcases Nat.lt_or_ge i (n - 1) with q | q
      · exact absurd h19 (nI_ge q (by omega))
      · omega
    refine p_aload_n e_AL_fastRemove_34 rfl ?_
    refine p_aload_n e_AL_fastRemove_35 rfl ?_
    refine p_iload_n e_AL_fastRemove_36 rfl ?_
    refine p_dup_x1 e_AL_fastRemove_37 ?_
    refine p_pI 2 e_AL_fastRemove_38 f_AL_48 rfl rfl (fun q h => by cases h; exact Or.inl rfl) rfl (by assumption) ?_
    refine p_null e_AL_fastRemove_41 ?_
    refine p_aastN (ti := 2) (n := n - 1) e_AL_fastRemove_42 (by decide) rfl ht rfl (by show n - 1 < al σ (fr σ 1 l); omega) (by omega) ?_
    refine p_ret e_AL_fastRemove_43 (rv_v ?_)
    refine hP _ (rm_of h hi rfl rfl rfl rfl (fun k r hr => ?_) ?_ (fun r j hr => ?_) (fun j hj => ?_))
    · have q2 : ¬ (k = 2 ∧ r = l) := by omega
      have q0 : ¬ (k = 0 ∧ r = l) := by omega
      simp [fi_par, fi_pfi, q0, q2]
    · simp [fi_par, fi_pfi]
    · simp [ar_par, ar_pfi, hr]
    · have q : ¬ j = n - 1 := by omega
      have q' : j < i := by omega
      simp [ar_par, ar_pfi, q, q']
  · have hin : i < n - 1 := by
      rcases Nat.lt_or_ge i (n - 1) with q | q
      · exact q
      · exact absurd (nI_le q (by omega)) h19
    have e2 : nI i + 1 = nI (i + 1) := nI_1 i
    have e3 : nI (n - 1) - nI i = nI (n - 1 - i) := pk_sub (by omega)
    refine p_aload_n e_AL_fastRemove_22 rfl ?_
    refine p_iload_n e_AL_fastRemove_23 rfl ?_
    refine p_iconst (x := 1) e_AL_fastRemove_24 (by decide) ?_
    refine p_iadd e_AL_fastRemove_25 ?_
    refine p_top e2 ?_
    refine p_aload_n e_AL_fastRemove_26 rfl ?_
    refine p_iload_n e_AL_fastRemove_27 rfl ?_
    refine p_iload_n e_AL_fastRemove_28 rfl ?_
    refine p_iload_n e_AL_fastRemove_29 rfl ?_
    refine p_isub e_AL_fastRemove_30 ?_
    refine p_top e3 ?_
    refine p_copy (sp := i + 1) (dp := i) (n := n - 1 - i) e_AL_fastRemove_31 c_AL_112 v_arraycopy t_ac w_52 ht ht rfl rfl rfl (by omega) (by omega) (by omega) (by show i + 1 + (n - 1 - i) ≤ al σ (fr σ 1 l); omega) (by show i + (n - 1 - i) ≤ al σ (fr σ 1 l); omega) (fun j hj => ?_) (Nat.le_of_ble_eq_true rfl) (by decide) ?_
    · show ar σ (fr σ 1 l) (i + 1 + j) = 0 ∨ tg σ (ar σ (fr σ 1 l) (i + 1 + j)) = 4 ∨ tg σ (ar σ (fr σ 1 l) (i + 1 + j)) = 6
      obtain ⟨q1, q2⟩ := h9 (i + 1 + j) (by omega)
      rw [q1]
      exact Or.inr q2
    refine p_aload_n e_AL_fastRemove_34 rfl ?_
    refine p_aload_n e_AL_fastRemove_35 rfl ?_
    refine p_iload_n e_AL_fastRemove_36 rfl ?_
    refine p_dup_x1 e_AL_fastRemove_37 ?_
    refine p_pI 2 e_AL_fastRemove_38 f_AL_48 rfl rfl (fun q h => by cases h; exact Or.inl rfl) rfl (by assumption) ?_
    refine p_null e_AL_fastRemove_41 ?_
    refine p_aastN (ti := 2) (n := n - 1) e_AL_fastRemove_42 (by decide) rfl ht rfl (by show n - 1 < al σ (fr σ 1 l); omega) (by omega) ?_
    refine p_ret e_AL_fastRemove_43 (rv_v ?_)
    refine hP _ (rm_of h hi rfl rfl rfl rfl (fun k r hr => ?_) ?_ (fun r j hr => ?_) (fun j hj => ?_))
    · have q2 : ¬ (k = 2 ∧ r = l) := by omega
      have q0 : ¬ (k = 0 ∧ r = l) := by omega
      show (if k = 2 ∧ r = l then nI (n - 1) else if k = 0 ∧ r = l then fi σ 0 l + 1 else fi σ k r) = _
      rw [if_neg q2, if_neg q0]
    · exact if_pos ⟨rfl, rfl⟩
    · show (if r = fr σ 1 l ∧ j = n - 1 then 0 else if r = fr σ 1 l then va_cpy (ar σ (fr σ 1 l)) (ar σ (fr σ 1 l)) (i + 1) i (n - 1 - i) j else ar σ r j) = _
      rw [if_neg (fun z => hr z.1), if_neg hr]
    · show (if fr σ 1 l = fr σ 1 l ∧ j = n - 1 then 0 else if fr σ 1 l = fr σ 1 l then va_cpy (ar σ (fr σ 1 l)) (ar σ (fr σ 1 l)) (i + 1) i (n - 1 - i) j else ar σ (fr σ 1 l) j) = _
      rw [if_neg (by omega), if_pos rfl]
      unfold va_cpy
      by_cases hji : j < i
      · rw [if_neg (by omega), if_pos hji]
      · rw [if_pos (by omega), if_neg hji]
        congr 1
        omega
theorem sp_AL_remove {σ : PS} {l n i : Nat} {f : Nat → Nat} {P : Option PV → PS → Prop} (h : AL σ l n f) (hi : i < n) (hP : ∀ σ', RM σ σ' l n i f → P (some (.inr (f i))) σ') : Ctr m_AL_remove 3 [.inr l, .inl (nI i)] σ P := by
  obtain ⟨h1, h2, h3, h4, h5, h6, h7, h8, h9⟩ := id h
  have ht : tg σ (fr σ 1 l) = 102 := by
    rcases h8 with ⟨-, h⟩ | ⟨h, -⟩
    · omega
    · exact h
  refine Ctr.of y_AL_remove (Nat.le_of_ble_eq_true rfl) ?_
  refine p_iload_n e_AL_remove_0 rfl ?_
  refine p_aload_n e_AL_remove_1 rfl ?_
  refine p_gIv 2 e_AL_remove_2 f_AL_48 rfl rfl (by assumption) h2 ?_
  refine p_stat (d' := 2) [_, _] _ e_AL_remove_5 c_AL_118 k_Objs_checkIndex t_Objs_checkIndex rfl rfl (Nat.le_of_ble_eq_true rfl) (Nat.le_of_ble_eq_true rfl) ?_
  refine sp_Objs_checkIndex hi (by omega) ?_
  refine p_pop e_AL_remove_8 ?_
  refine p_aload_n e_AL_remove_9 rfl ?_
  refine p_gR 1 e_AL_remove_10 f_AL_9 rfl rfl (by assumption) ?_
  refine p_astore_n e_AL_remove_13 (by decide) ?_
  refine p_aload_n e_AL_remove_14 rfl ?_
  refine p_iload_n e_AL_remove_15 rfl ?_
  refine p_aald e_AL_remove_16 (ti := 2) (n := i) (by decide) ht rfl (by omega) (by omega) ?_
  refine p_astore_n e_AL_remove_17 (by decide) ?_
  refine p_aload_n e_AL_remove_18 rfl ?_
  refine p_aload_n e_AL_remove_19 rfl ?_
  refine p_iload_n e_AL_remove_20 rfl ?_
  refine p_inv (ci := 0) (d' := 1) [_, _] _ e_AL_remove_21 c_AL_144 k_AL_fastRemove i_AL_fastRemove s_AL_fastRemove rfl rfl (by assumption) rfl rfl (Nat.le_of_ble_eq_true rfl) (Nat.le_of_ble_eq_true rfl) ?_
  refine sp_AL_fastRemove h hi rfl (fun σ' hR => ?_)
  refine p_aload_n e_AL_remove_24 rfl ?_
  refine p_aret e_AL_remove_25 (rv_o ?_)
  rw [(h9 i hi).1]
  exact hP σ' hR
end
section
/-! ArrayList: putting in -/
/-- nothing lies beyond the next reference -/
def FR (σ : PS) : Prop := (0 < nx σ ∧ tg σ 0 = 0) ∧ ∀ r, nx σ ≤ r → tg σ r = 0
theorem sp_copyOf3 {σ : PS} {e c m : Nat} {P : Option PV → PS → Prop} (hF : FR σ) (he : tg σ e = 102) (hc : al σ e = c) (hcm : c ≤ m) (hm : m ≤ 1000) (hel : ∀ i, i < c → ar σ e i = 0 ∨ tg σ (ar σ e i) = 4 ∨ tg σ (ar σ e i) = 6)
    (hP : P (some (.inr (nx σ))) (pcpy (parr σ 2 m) e 0 (nx σ) 0 c)) : Ctr m_Arrs_copyOf3 1 [.inr e, .inl (nI m), .inr (al σ 0)] σ P := by
  have hne : ∀ r, tg σ r ≠ 0 → r ≠ nx σ := fun r h q => h (by rw [q]; exact hF.2 _ (Nat.le_refl _))
  have hen : e ≠ nx σ := hne e (by omega)
  refine Ctr.of y_Arrs_copyOf3 (Nat.le_of_ble_eq_true rfl) ?_
  refine p_aload_n e_Arrs_copyOf3_0 rfl ?_
  refine p_ldcM e_Arrs_copyOf3_1 l_Arrs_110 ?_
  refine p_acmp_ne (tgt := 13) e_Arrs_copyOf3_3 (by decide) (fun h => absurd rfl h) (fun _ => ?_)
  refine p_iload_n e_Arrs_copyOf3_6 rfl ?_
  refine p_newq (ti := 2) (n := m) e_Arrs_copyOf3_7 (by decide) rfl l_Arrs_2 (Or.inl a_Obj) (nI_pos (by omega)) (nI_clamp (by omega)) (by omega) ?_
  have t1 : tg (parr σ 2 m) e = 102 := by rw [tg_parr, if_neg hen]; exact he
  have t2 : tg (parr σ 2 m) (nx σ) = 102 := by rw [tg_parr, if_pos rfl]
  have a1 : al (parr σ 2 m) e = c := by rw [al_parr, if_neg hen]; exact hc
  have a2 : al (parr σ 2 m) (nx σ) = m := by rw [al_parr, if_pos rfl]
  refine p_goto (tgt := 24) e_Arrs_copyOf3_10 (by decide) ?_
  refine p_astore_n e_Arrs_copyOf3_24 (by decide) ?_
  refine p_aload_n e_Arrs_copyOf3_25 rfl ?_
  refine p_iconst (x := 0) e_Arrs_copyOf3_26 (by decide) ?_
  refine p_aload_n e_Arrs_copyOf3_27 rfl ?_
  refine p_iconst (x := 0) e_Arrs_copyOf3_28 (by decide) ?_
  refine p_aload_n e_Arrs_copyOf3_29 rfl ?_
  refine p_alen (ti := 2) e_Arrs_copyOf3_30 (by decide) t1 ?_
  rw [a1]
  refine p_iload_n e_Arrs_copyOf3_31 rfl ?_
  refine p_mmin e_Arrs_copyOf3_32 c_Arrs_304 (Nat.le_of_ble_eq_true rfl) (by decide) ?_
  refine p_top (y := nI c) ?_ ?_
  · by_cases h : nI m < nI c
    · have := (nI_ltI (by omega) (by omega)).mp h
      omega
    · rw [if_neg h]
  refine p_copy (sp := 0) (dp := 0) (n := c) e_Arrs_copyOf3_35 c_Arrs_150 v_arraycopy t_ac w_52 t1 t2 rfl rfl rfl (by omega) (by omega) (by omega) (by omega) (by omega) (fun i hi => ?_) (Nat.le_of_ble_eq_true rfl) (by decide) ?_
  · have q : ar (parr σ 2 m) e (0 + i) = ar σ e i := by rw [ar_parr, if_neg hen, Nat.zero_add]
    rw [q]
    rcases hel i hi with h | h | h
    · exact Or.inl h
    · refine Or.inr (Or.inl ?_)
      rw [tg_parr, if_neg (hne _ (by omega))]
      exact h
    · refine Or.inr (Or.inr ?_)
      rw [tg_parr, if_neg (hne _ (by omega))]
      exact h
  refine p_aload_n e_Arrs_copyOf3_38 rfl ?_
  refine p_aret e_Arrs_copyOf3_39 (rv_a ?_)
  exact hP
theorem sp_copyOf2 {σ : PS} {e c m : Nat} {P : Option PV → PS → Prop} (hF : FR σ) (he : tg σ e = 102) (hc : al σ e = c) (hcm : c ≤ m) (hm : m ≤ 1000) (hel : ∀ i, i < c → ar σ e i = 0 ∨ tg σ (ar σ e i) = 4 ∨ tg σ (ar σ e i) = 6)
    (hP : P (some (.inr (nx σ))) (pcpy (parr σ 2 m) e 0 (nx σ) 0 c)) : Ctr m_Arrs_copyOf2 2 [.inr e, .inl (nI m)] σ P := by
  refine Ctr.of y_Arrs_copyOf2 (Nat.le_of_ble_eq_true rfl) ?_
  refine p_aload_n e_Arrs_copyOf2_0 rfl ?_
  refine p_iload_n e_Arrs_copyOf2_1 rfl ?_
  refine p_aload_n e_Arrs_copyOf2_2 rfl ?_
  refine p_getC e_Arrs_copyOf2_3 c_Arrs_86 (Or.inl v_declares) s_gc i_gc v_getClass (Nat.le_of_ble_eq_true rfl) (by decide) he ?_
  refine p_stat (d' := 1) [_, _, _] _ e_Arrs_copyOf2_6 c_Arrs_300 k_Arrs_copyOf3 t_Arrs_copyOf3 rfl rfl (Nat.le_of_ble_eq_true rfl) (Nat.le_of_ble_eq_true rfl) ?_
  refine sp_copyOf3 hF he hc hcm hm hel ?_
  refine p_aret e_Arrs_copyOf2_9 (rv_a ?_)
  exact hP
theorem sp_newLength {σ : PS} {c k : Nat} {P : Option PV → PS → Prop} (hk : 1 ≤ k) (hk2 : k ≤ 1000) (hc : c ≤ 1000) (hP : P (some (.inl (nI (c + k)))) σ) : Ctr m_ASup_newLength 1 [.inl (nI c), .inl (nI 1), .inl (nI k)] σ P := by
  refine Ctr.of y_ASup_newLength (Nat.le_of_ble_eq_true rfl) ?_
  refine p_iload_n e_ASup_newLength_0 rfl ?_
  refine p_iload_n e_ASup_newLength_1 rfl ?_
  refine p_iload_n e_ASup_newLength_2 rfl ?_
  refine p_mmax e_ASup_newLength_3 c_ASup_194 (Nat.le_of_ble_eq_true rfl) (by decide) ?_
  refine p_top (y := nI k) ?_ ?_
  · by_cases h : nI 1 < nI k
    · rw [if_pos h]
    · rw [if_neg h]
      have : ¬ 1 < k := fun q => h (nI_lt q (by omega))
      have : k = 1 := by omega
      rw [this]
  refine p_iadd e_ASup_newLength_6 ?_
  refine p_top (y := nI (c + k)) (nI_add c k) ?_
  refine p_istore_n e_ASup_newLength_7 (by decide) ?_
  refine p_iconst (x := 0) e_ASup_newLength_8 (by decide) ?_
  refine p_iload_n e_ASup_newLength_9 rfl ?_
  refine p_icmp_ge (tgt := 21) e_ASup_newLength_10 (by decide) (fun hx => absurd hx (nI_nle (by omega) (by omega))) (fun _ => ?_)
  refine p_iload_n e_ASup_newLength_13 rfl ?_
  refine p_ldc e_ASup_newLength_14 u_ASup_200 ?_
  refine p_icmp_gt (tgt := 21) e_ASup_newLength_16 (by decide) (fun hx => ?_) (fun _ => ?_)
  · have : nI (c + k) ≤ nI 2147483639 := nI_le (by omega) (by decide)
    have h2 : nI 2147483639 = 2147483639 := by decide
    rw [h2] at this
    exact absurd hx (Int32.not_lt.mpr this)
  refine p_iload_n e_ASup_newLength_19 rfl ?_
  refine p_iret e_ASup_newLength_20 (rv_i ?_)
  exact hP
/-- the list l has a new array with room for one more -/
def GRW (σ σ' : PS) (l n : Nat) (f : Nat → Nat) : Prop := LF σ σ' l ∧ nx σ' = nx σ + 1 ∧ fr σ' 1 l = nx σ ∧ tg σ' (nx σ) = 102 ∧ n + 1 ≤ al σ' (nx σ) ∧ 10 ≤ al σ' (nx σ) ∧ al σ' (nx σ) ≤ 110 ∧ (∀ i, i < n → ar σ' (nx σ) i = f i) ∧ sl σ' + 4 * n ≤ sl σ + 4 * al σ' (nx σ) ∧ fi σ' = fi σ ∧ FR σ'
theorem sp_grow1 {σ : PS} {l n : Nat} {f : Nat → Nat} {P : Option PV → PS → Prop} (hF : FR σ) (h : AL σ l n f) (hn : n ≤ 71) (hfull : n = al σ (fr σ 1 l)) (hP : ∀ σ', GRW σ σ' l n f → P (some (.inr (nx σ))) σ') : Ctr m_AL_grow1 3 [.inr l, .inl (nI (n + 1))] σ P := by
  obtain ⟨h1, h2, h3, h4, h5, h6, h7, h8, h9⟩ := id h
  have hne : ∀ r, tg σ r ≠ 0 → r ≠ nx σ := fun r h q => h (by rw [q]; exact hF.2 _ (Nat.le_refl _))
  have hln : l ≠ nx σ := by omega
  refine Ctr.of y_AL_grow1 (Nat.le_of_ble_eq_true rfl) ?_
  rcases h8 with ⟨ht, hc⟩ | ⟨ht, hc⟩
  · have hn0 : n = 0 := by omega
    subst hn0
    refine p_aload_n e_AL_grow1_0 rfl ?_
    refine p_gR 1 e_AL_grow1_1 f_AL_9 rfl rfl (by assumption) ?_
    refine p_alenZ e_AL_grow1_4 ht ?_
    refine p_istore_n e_AL_grow1_5 (by decide) ?_
    refine p_iload_n e_AL_grow1_6 rfl ?_
    refine p_if_gt (tgt := 20) e_AL_grow1_7 (by decide) (fun hx => absurd hx ((by decide))) (fun _ => ?_)
    refine p_aload_n e_AL_grow1_10 rfl ?_
    refine p_gR 1 e_AL_grow1_11 f_AL_9 rfl rfl (by assumption) ?_
    refine p_gets (z := fr σ 1 l) e_AL_grow1_14 w_175 ht ?_
    refine p_acmp_eq (tgt := 45) e_AL_grow1_17 (by decide) (fun _ => ?_) (fun h => absurd rfl h)
    refine p_aload_n e_AL_grow1_45 rfl ?_
    refine p_bipush (x := 10) e_AL_grow1_46 (by decide) ?_
    refine p_iload_n e_AL_grow1_48 rfl ?_
    refine p_mmax e_AL_grow1_49 c_AL_79 (Nat.le_of_ble_eq_true rfl) (by decide) ?_
    refine p_top (y := nI 10) (by decide) ?_
    refine p_newq (ti := 2) (n := 10) e_AL_grow1_52 (by decide) rfl l_AL_7 (Or.inl a_Obj) (nI_pos (by omega)) (nI_clamp (by omega)) (by omega) ?_
    have t1 : tg (parr σ 2 10) l = 1 := by rw [tg_parr, if_neg hln]; exact h1
    refine p_dup_x1 e_AL_grow1_55 ?_
    refine p_pR 1 e_AL_grow1_56 f_AL_9 rfl rfl (fun q h => by cases h; exact Or.inl rfl) (by assumption) ?_
    refine p_aret e_AL_grow1_59 (rv_a ?_)
    refine hP _ ⟨⟨Nat.le_succ _, Nat.le_add_right _ _, fun r hr => ?_, fun r j hr => ?_, fun i r _ => rfl, fun i r hr => ?_, fun r j hr _ => ?_, Or.inr ?_⟩, rfl, ?_, ?_, ?_, ?_, ?_, fun i hi => by omega, ?_, rfl, ⟨Nat.succ_pos _, by rw [tg_pfr, tg_parr, if_neg (by have := hF.1.1; omega)]; exact hF.1.2⟩, fun r hr => ?_⟩
    · rw [tg_pfr, al_pfr, tg_parr, al_parr, if_neg (by omega), if_neg (by omega)]; exact ⟨rfl, rfl⟩
    · rw [ai_pfr, ai_parr, if_neg (by omega)]
    · rw [fr_pfr, if_neg (by omega)]; rfl
    · rw [ar_pfr, ar_parr, if_neg (by omega)]
    · rw [fr_pfr, if_pos ⟨rfl, rfl⟩]; exact Nat.le_refl _
    · rw [fr_pfr, if_pos ⟨rfl, rfl⟩]
    · rw [tg_pfr, tg_parr, if_pos rfl]
    · rw [al_pfr, al_parr, if_pos rfl]; omega
    · rw [al_pfr, al_parr, if_pos rfl]; omega
    · rw [al_pfr, al_parr, if_pos rfl]; omega
    · rw [al_pfr, al_parr, if_pos rfl, sl_pfr, sl_parr]; omega
    · rw [tg_pfr, tg_parr, if_neg (by rw [nx_pfr, nx_parr] at hr; omega)]
      exact hF.2 r (by rw [nx_pfr, nx_parr] at hr; omega)
  · have e1 : nI (n + 1) - nI n = nI 1 := by rw [pk_sub (by omega)]; congr 1; omega
    have e2 : nI n >>> ((1 : Int32) &&& 31) = nI (n / 2) := pk_shrN (by omega) _ 1 (by decide)
    have hen : fr σ 1 l ≠ nx σ := hne _ (by omega)
    refine p_aload_n e_AL_grow1_0 rfl ?_
    refine p_gR 1 e_AL_grow1_1 f_AL_9 rfl rfl (by assumption) ?_
    refine p_alen (ti := 2) e_AL_grow1_4 (by decide) ht ?_
    rw [← hfull]
    refine p_istore_n e_AL_grow1_5 (by decide) ?_
    refine p_iload_n e_AL_grow1_6 rfl ?_
    refine p_if_gt (tgt := 20) e_AL_grow1_7 (by decide) (fun _ => ?_) (fun hx => absurd (nI_lt (a := 0) (by omega) (by omega)) hx)
    refine p_iload_n e_AL_grow1_20 rfl ?_
    refine p_iload_n e_AL_grow1_21 rfl ?_
    refine p_iload_n e_AL_grow1_22 rfl ?_
    refine p_isub e_AL_grow1_23 ?_
    refine p_top e1 ?_
    refine p_iload_n e_AL_grow1_24 rfl ?_
    refine p_iconst (x := 1) e_AL_grow1_25 (by decide) ?_
    refine p_ishr e_AL_grow1_26 ?_
    refine p_top e2 ?_
    refine p_stat (d' := 1) [_, _, _] _ e_AL_grow1_27 c_AL_73 k_ASup_newLength t_ASup_newLength rfl rfl (Nat.le_of_ble_eq_true rfl) (Nat.le_of_ble_eq_true rfl) ?_
    refine sp_newLength (by omega) (by omega) (by omega) ?_
    refine p_istore_n e_AL_grow1_30 (by decide) ?_
    refine p_aload_n e_AL_grow1_31 rfl ?_
    refine p_aload_n e_AL_grow1_32 rfl ?_
    refine p_gR 1 e_AL_grow1_33 f_AL_9 rfl rfl (by assumption) ?_
    refine p_iload_n e_AL_grow1_36 rfl ?_
    refine p_stat (d' := 2) [_, _] _ e_AL_grow1_37 c_AL_66 k_Arrs_copyOf2 t_Arrs_copyOf2 rfl rfl (Nat.le_of_ble_eq_true rfl) (Nat.le_of_ble_eq_true rfl) ?_
    refine sp_copyOf2 (c := n) hF ht hfull.symm (by omega) (by omega) (fun i hi => by rw [(h9 i hi).1]; exact Or.inr (h9 i hi).2) ?_
    have t1 : tg (pcpy (parr σ 2 (n + n / 2)) (fr σ 1 l) 0 (nx σ) 0 n) l = 1 := by rw [tg_pcpy, tg_parr, if_neg hln]; exact h1
    refine p_dup_x1 e_AL_grow1_40 ?_
    refine p_pR 1 e_AL_grow1_41 f_AL_9 rfl rfl (fun q h => by cases h; exact Or.inl rfl) (by assumption) ?_
    refine p_aret e_AL_grow1_44 (rv_a ?_)
    refine hP _ ⟨⟨Nat.le_succ _, Nat.le_add_right _ _, fun r hr => ?_, fun r j hr => ?_, fun i r _ => rfl, fun i r hr => ?_, fun r j hr _ => ?_, Or.inr ?_⟩, rfl, ?_, ?_, ?_, ?_, ?_, fun i hi => ?_, ?_, rfl, ⟨Nat.succ_pos _, by rw [tg_pfr, tg_pcpy, tg_parr, if_neg (by have := hF.1.1; omega)]; exact hF.1.2⟩, fun r hr => ?_⟩
    · rw [tg_pfr, al_pfr, tg_pcpy, al_pcpy, tg_parr, al_parr, if_neg (by omega), if_neg (by omega)]; exact ⟨rfl, rfl⟩
    · rw [ai_pfr, ai_pcpy, ai_parr, if_neg (by omega)]
    · rw [fr_pfr, if_neg (by omega)]; rfl
    · rw [ar_pfr, ar_pcpy, if_neg (by omega), ar_parr, if_neg (by omega)]
    · rw [fr_pfr, if_pos ⟨rfl, rfl⟩]; exact Nat.le_refl _
    · rw [fr_pfr, if_pos ⟨rfl, rfl⟩]
    · rw [tg_pfr, tg_pcpy, tg_parr, if_pos rfl]
    · rw [al_pfr, al_pcpy, al_parr, if_pos rfl]; omega
    · rw [al_pfr, al_pcpy, al_parr, if_pos rfl]; omega
    · rw [al_pfr, al_pcpy, al_parr, if_pos rfl]; omega
    · rw [ar_pfr, ar_pcpy, if_pos rfl]
      unfold va_cpy
      rw [if_pos (by omega), ar_parr, if_neg hen]
      rw [show 0 + (i - 0) = i by omega]
      exact (h9 i hi).1
    · rw [al_pfr, al_pcpy, al_parr, if_pos rfl, sl_pfr, sl_pcpy, sl_parr]; omega
    · rw [nx_pfr, nx_pcpy, nx_parr] at hr
      rw [tg_pfr, tg_pcpy, tg_parr, if_neg (by omega)]
      exact hF.2 r (by omega)
theorem sp_grow0 {σ : PS} {l n : Nat} {f : Nat → Nat} {P : Option PV → PS → Prop} (hF : FR σ) (h : AL σ l n f) (hn : n ≤ 71) (hfull : n = al σ (fr σ 1 l)) (hP : ∀ σ', GRW σ σ' l n f → P (some (.inr (nx σ))) σ') : Ctr m_AL_grow0 4 [.inr l] σ P := by
  have h1 := h.1
  have h2 := h.2.1
  refine Ctr.of y_AL_grow0 (Nat.le_of_ble_eq_true rfl) ?_
  refine p_aload_n e_AL_grow0_0 rfl ?_
  refine p_aload_n e_AL_grow0_1 rfl ?_
  refine p_gIv 2 e_AL_grow0_2 f_AL_48 rfl rfl (by assumption) h2 ?_
  refine p_iconst (x := 1) e_AL_grow0_5 (by decide) ?_
  refine p_iadd e_AL_grow0_6 ?_
  refine p_top (y := nI (n + 1)) (nI_1 n) ?_
  refine p_inv (ci := 0) (d' := 3) [_] _ e_AL_grow0_7 c_AL_69 k_AL_grow1 i_AL_grow1 s_AL_grow1 rfl rfl (by assumption) rfl rfl (Nat.le_of_ble_eq_true rfl) (Nat.le_of_ble_eq_true rfl) ?_
  refine sp_grow1 hF h hn hfull (fun σ' hG => ?_)
  refine p_aret e_AL_grow0_10 (rv_a ?_)
  exact hP σ' hG
/-- the list l has x behind its n -/
def ADD (σ σ' : PS) (l n : Nat) (f : Nat → Nat) (x : Nat) : Prop := LF σ σ' l ∧ AL σ' l (n + 1) (va_up f n x) ∧ nx σ' + al σ (fr σ 1 l) ≤ nx σ + al σ' (fr σ' 1 l) ∧ sl σ' + 4 * al σ (fr σ 1 l) ≤ sl σ + 4 * al σ' (fr σ' 1 l) ∧ FR σ'
theorem castO {σ : PS} {x : Nat} (h : tg σ x = 4 ∨ tg σ x = 6) : ∃ ci, tg σ x = ci + 1 ∧ CastOk ci "java/lang/Object" := by
  rcases h with h | h
  · exact ⟨3, h, castO4⟩
  · exact ⟨5, h, castO6⟩
theorem sp_add3 {σ : PS} {l n x e : Nat} {f : Nat → Nat} {P : Option PV → PS → Prop} (hF : FR σ) (h : AL σ l n f) (hn : n ≤ 71) (hx : tg σ x = 4 ∨ tg σ x = 6) (he : e = fr σ 1 l) (hP : ∀ σ', ADD σ σ' l n f x → P none σ') : Ctr m_AL_add3 5 [.inr l, .inr x, .inr e, .inl (nI n)] σ P := by
  obtain ⟨h1, h2, h3, h4, h5, h6, h7, h8, h9⟩ := id h
  subst he
  have xlt : x < nx σ := by
    rcases Nat.lt_or_ge x (nx σ) with q | q
    · exact q
    · have := hF.2 x q; omega
  refine Ctr.of y_AL_add3 (Nat.le_of_ble_eq_true rfl) ?_
  refine p_iload_n e_AL_add3_0 rfl ?_
  refine p_aload_n e_AL_add3_1 rfl ?_
  have hal : Wp m_AL_add3 5 3 (largs 0 [.inr l, .inr x, .inr (fr σ 1 l), .inl (nI n)]) [.inl (nI (al σ (fr σ 1 l))), .inl (nI n)] σ (fun v σ' => RV m_AL_add3.2.2.2 v ∧ P v σ') := by
    by_cases hfull : n = al σ (fr σ 1 l)
    · refine p_icmp_ne (tgt := 11) e_AL_add3_3 (by decide) (fun hx => absurd (by rw [← hfull]) hx) (fun _ => ?_)
      refine p_aload_n e_AL_add3_6 rfl ?_
      refine p_inv (ci := 0) (d' := 4) [] _ e_AL_add3_7 c_AL_129 k_AL_grow0 i_AL_grow0 s_AL_grow0 rfl rfl (by assumption) rfl rfl (Nat.le_of_ble_eq_true rfl) (Nat.le_of_ble_eq_true rfl) ?_
      refine sp_grow0 hF h hn hfull (fun σ' hG => ?_)
      obtain ⟨⟨g1, g2, g3, g4, g5, g6, g7, g8⟩, k1, k2, k3, k4, k5, k6, k7, k8, k9, k10⟩ := hG
      obtain ⟨ci, c1, c2⟩ := castO hx
      have tl : tg σ' l = 1 := by rw [(g3 l h7).1]; exact h1
      refine p_astore_n e_AL_add3_10 (by decide) ?_
      refine p_aload_n e_AL_add3_11 rfl ?_
      refine p_iload_n e_AL_add3_12 rfl ?_
      refine p_aload_n e_AL_add3_13 rfl ?_
      refine p_aast (ti := 2) (n := n) (ci := ci) e_AL_add3_14 (by decide) rfl k3 (by rw [(g3 x xlt).1]; exact c1) c2 rfl (by omega) (by omega) ?_
      refine p_aload_n e_AL_add3_15 rfl ?_
      refine p_iload_n e_AL_add3_16 rfl ?_
      refine p_iconst (x := 1) e_AL_add3_17 (by decide) ?_
      refine p_iadd e_AL_add3_18 ?_
      refine p_top (y := nI (n + 1)) (nI_1 n) ?_
      refine p_pI 2 e_AL_add3_19 f_AL_48 rfl rfl (fun q h => by cases h; exact Or.inl rfl) rfl tl ?_
      refine p_ret e_AL_add3_22 (rv_v ?_)
      refine hP _ ⟨⟨g1, g2, g3, g4, fun i r hr => ?_, g6, fun r j hr hne => ?_, g8⟩, ⟨?_, ?_, by omega, ?_, ?_, ?_, ?_, Or.inr ⟨?_, ?_⟩, fun i hi => ?_⟩, ?_, ?_, ?_⟩
      · rw [fi_pfi, if_neg (by omega), fi_par]; exact g5 i r hr
      · rw [ar_pfi, ar_par, if_neg (by omega)]; exact g7 r j hr hne
      · exact tl
      · rw [fi_pfi, if_pos ⟨rfl, rfl⟩]
      · show n + 1 ≤ al σ' (fr σ' 1 l); rw [k2]; exact k4
      · show al σ' (fr σ' 1 l) ≤ 110; rw [k2]; exact k6
      · show fr σ' 1 l < nx σ'; omega
      · show l < nx σ'; omega
      · show tg σ' (fr σ' 1 l) = 102; rw [k2]; exact k3
      · show 10 ≤ al σ' (fr σ' 1 l); rw [k2]; exact k5
      · show (if fr σ' 1 l = nx σ ∧ i = n then x else ar σ' (fr σ' 1 l) i) = va_up f n x i ∧ (tg σ' (va_up f n x i) = 4 ∨ tg σ' (va_up f n x i) = 6)
        by_cases hin : i = n
        · subst hin
          rw [if_pos ⟨k2, rfl⟩, va_up_self, (g3 x xlt).1]
          exact ⟨rfl, hx⟩
        · rw [if_neg (fun z => hin z.2), va_up_ne f x hin, k2, k7 i (by omega)]
          obtain ⟨q1, q2⟩ := h9 i (by omega)
          have hlt : f i < nx σ := by
            rcases Nat.lt_or_ge (f i) (nx σ) with q | q
            · exact q
            · have := hF.2 (f i) q; omega
          rw [(g3 (f i) hlt).1]
          exact ⟨rfl, q2⟩
      · show nx σ' + al σ (fr σ 1 l) ≤ nx σ + al σ' (fr σ' 1 l); rw [k2]; omega
      · show sl σ' + 4 * al σ (fr σ 1 l) ≤ sl σ + 4 * al σ' (fr σ' 1 l); rw [k2]; omega
      · exact k10
    · refine p_icmp_ne (tgt := 11) e_AL_add3_3 (by decide) (fun _ => ?_) (fun hx => absurd hx (fun q => hfull ((nI_eq (by omega) (by omega)).mp q)))
      have ht : tg σ (fr σ 1 l) = 102 := by
        rcases h8 with ⟨-, h⟩ | ⟨h, -⟩
        · omega
        · exact h
      obtain ⟨ci, c1, c2⟩ := castO hx
      refine p_aload_n e_AL_add3_11 rfl ?_
      refine p_iload_n e_AL_add3_12 rfl ?_
      refine p_aload_n e_AL_add3_13 rfl ?_
      refine p_aast (ti := 2) (n := n) (ci := ci) e_AL_add3_14 (by decide) rfl ht c1 c2 rfl (by omega) (by omega) ?_
      refine p_aload_n e_AL_add3_15 rfl ?_
      refine p_iload_n e_AL_add3_16 rfl ?_
      refine p_iconst (x := 1) e_AL_add3_17 (by decide) ?_
      refine p_iadd e_AL_add3_18 ?_
      refine p_top (y := nI (n + 1)) (nI_1 n) ?_
      refine p_pI 2 e_AL_add3_19 f_AL_48 rfl rfl (fun q h => by cases h; exact Or.inl rfl) rfl (by assumption) ?_
      refine p_ret e_AL_add3_22 (rv_v ?_)
      refine hP _ ⟨⟨Nat.le_refl _, Nat.le_refl _, fun r _ => ⟨rfl, rfl⟩, fun _ _ _ => rfl, fun i r hr => ?_, fun _ _ _ => rfl, fun r j hr hne => ?_, Or.inl rfl⟩, ⟨h1, ?_, by omega, ?_, h5, h6, h7, h8, fun i hi => ?_⟩, Nat.le_refl _, Nat.le_refl _, hF⟩
      · rw [fi_pfi, if_neg (by omega), fi_par]
      · rw [ar_pfi, ar_par, if_neg (by omega)]
      · rw [fi_pfi, if_pos ⟨rfl, rfl⟩]
      · show n + 1 ≤ al σ (fr σ 1 l); omega
      · show (if fr σ 1 l = fr σ 1 l ∧ i = n then x else ar σ (fr σ 1 l) i) = va_up f n x i ∧ (tg σ (va_up f n x i) = 4 ∨ tg σ (va_up f n x i) = 6)
        by_cases hin : i = n
        · subst hin
          rw [if_pos ⟨rfl, rfl⟩, va_up_self]
          exact ⟨rfl, hx⟩
        · rw [if_neg (fun z => hin z.2), va_up_ne f x hin]
          exact h9 i (by omega)
  rcases h8 with ⟨ht, hc⟩ | ⟨ht, hc⟩
  · refine p_alenZ e_AL_add3_2 ht ?_
    rw [hc] at hal
    exact hal
  · exact p_alen (ti := 2) e_AL_add3_2 (by decide) ht hal
theorem sp_AL_add {σ : PS} {l n x : Nat} {f : Nat → Nat} {P : Option PV → PS → Prop} (hF : FR σ) (h : AL σ l n f) (hn : n ≤ 71) (hx : tg σ x = 4 ∨ tg σ x = 6) (hP : ∀ σ', ADD σ σ' l n f x → P (some (.inl 1)) σ') : Ctr m_AL_add1 6 [.inr l, .inr x] σ P := by
  obtain ⟨h1, h2, h3, h4, h5, h6, h7, h8, h9⟩ := id h
  refine Ctr.of y_AL_add1 (Nat.le_of_ble_eq_true rfl) ?_
  refine p_aload_n e_AL_add1_0 rfl ?_
  refine p_dup e_AL_add1_1 ?_
  refine p_gI 0 e_AL_add1_2 f_AL_63 rfl rfl (by assumption) ?_
  refine p_iconst (x := 1) e_AL_add1_5 (by decide) ?_
  refine p_iadd e_AL_add1_6 ?_
  refine p_pI 0 e_AL_add1_7 f_AL_63 rfl rfl (fun q h => by cases h; exact Or.inl rfl) rfl (by assumption) ?_
  refine p_aload_n e_AL_add1_10 rfl ?_
  refine p_aload_n e_AL_add1_11 rfl ?_
  refine p_aload_n e_AL_add1_12 rfl ?_
  refine p_gR 1 e_AL_add1_13 f_AL_9 rfl rfl (by assumption) ?_
  refine p_aload_n e_AL_add1_16 rfl ?_
  refine p_gIv 2 e_AL_add1_17 f_AL_48 rfl rfl (by assumption) h2 ?_
  refine p_inv (ci := 0) (d' := 5) [_, _, _] _ e_AL_add1_20 c_AL_131 k_AL_add3 i_AL_add3 s_AL_add3 rfl rfl (by assumption) rfl rfl (Nat.le_of_ble_eq_true rfl) (Nat.le_of_ble_eq_true rfl) ?_
  have hA : AL (pfi σ 0 l (fi σ 0 l + 1)) l n f := ⟨h1, h2, h3, h4, h5, h6, h7, h8, h9⟩
  refine sp_add3 (σ := pfi σ 0 l (fi σ 0 l + 1)) hF hA hn hx rfl (fun σ' hA' => ?_)
  refine p_iconst (x := 1) e_AL_add1_23 (by decide) ?_
  refine p_iret e_AL_add1_24 (rv_z (by first | assumption | exact Or.inl rfl | exact Or.inr rfl) ?_)
  obtain ⟨⟨g1, g2, g3, g4, g5, g6, g7, g8⟩, k1, k2, k3, k4⟩ := hA'
  refine hP σ' ⟨⟨g1, g2, g3, g4, fun i r hr => ?_, g6, g7, g8⟩, k1, k2, k3, k4⟩
  rw [g5 i r hr, fi_pfi, if_neg (by omega)]
end
section
/-! the small methods of the class -/
theorem sp_Core_begin {σ : PS} {c : Nat} {w b v : Int32} {P : Option PV → PS → Prop} (h : tg σ c = 2) (hw : w = 0 ∨ w = 1)
    (hP : P none (pfi (pfi (pfi (pfi (pfi (pfi (pfi σ 64 c (fi σ 64 c + 1)) 65 c 1) 66 c w) 67 c b) 68 c v) 69 c 0) 71 c 0)) : Ctr m_Core_begin 1 [.inr c, .inl w, .inl b, .inl v] σ P := by
  refine Ctr.of y_Core_begin (Nat.le_of_ble_eq_true rfl) ?_
  refine p_aload_n e_Core_begin_0 rfl ?_
  refine p_dup e_Core_begin_1 ?_
  refine p_gI 64 e_Core_begin_2 f_Core_7 rfl rfl (by assumption) ?_
  refine p_iconst (x := 1) e_Core_begin_5 (by decide) ?_
  refine p_iadd e_Core_begin_6 ?_
  refine p_pI 64 e_Core_begin_7 f_Core_7 rfl rfl (fun q h => by cases h; exact Or.inl rfl) rfl (by assumption) ?_
  refine p_aload_n e_Core_begin_10 rfl ?_
  refine p_iconst (x := 1) e_Core_begin_11 (by decide) ?_
  refine p_pZ 65 e_Core_begin_12 f_Core_13 rfl rfl (fun q h => by cases h; exact Or.inl rfl) rfl (by assumption) (by first | assumption | exact Or.inl rfl | exact Or.inr rfl) ?_
  refine p_aload_n e_Core_begin_15 rfl ?_
  refine p_iload_n e_Core_begin_16 rfl ?_
  refine p_pZ 66 e_Core_begin_17 f_Core_17 rfl rfl (fun q h => by cases h; exact Or.inl rfl) rfl (by assumption) (by first | assumption | exact Or.inl rfl | exact Or.inr rfl) ?_
  refine p_aload_n e_Core_begin_20 rfl ?_
  refine p_iload_n e_Core_begin_21 rfl ?_
  refine p_pI 67 e_Core_begin_22 f_Core_20 rfl rfl (fun q h => by cases h; exact Or.inl rfl) rfl (by assumption) ?_
  refine p_aload_n e_Core_begin_25 rfl ?_
  refine p_iload_n e_Core_begin_26 rfl ?_
  refine p_pI 68 e_Core_begin_27 f_Core_23 rfl rfl (fun q h => by cases h; exact Or.inl rfl) rfl (by assumption) ?_
  refine p_aload_n e_Core_begin_30 rfl ?_
  refine p_iconst (x := 0) e_Core_begin_31 (by decide) ?_
  refine p_pI 69 e_Core_begin_32 f_Core_26 rfl rfl (fun q h => by cases h; exact Or.inl rfl) rfl (by assumption) ?_
  refine p_aload_n e_Core_begin_35 rfl ?_
  refine p_iconst (x := 0) e_Core_begin_36 (by decide) ?_
  refine p_pZ 71 e_Core_begin_37 f_Core_29 rfl rfl (fun q h => by cases h; exact Or.inl rfl) rfl (by assumption) (by first | assumption | exact Or.inl rfl | exact Or.inr rfl) ?_
  refine p_ret e_Core_begin_40 (rv_v ?_)
  exact hP
theorem sp_Core_isDue {σ : PS} {c : Nat} {t : Int32} {P : Option PV → PS → Prop} (h : tg σ c = 2) (k1 : fi σ 65 c ≠ 0 → fi σ 71 c = 0 → fi σ 70 c = t → P (some (.inl 1)) σ) (k0 : ¬ (fi σ 65 c ≠ 0 ∧ fi σ 71 c = 0 ∧ fi σ 70 c = t) → P (some (.inl 0)) σ) : Ctr m_Core_isDue 1 [.inr c, .inl t] σ P := by
  refine Ctr.of y_Core_isDue (Nat.le_of_ble_eq_true rfl) ?_
  refine p_aload_n e_Core_isDue_0 rfl ?_
  refine p_gI 65 e_Core_isDue_1 f_Core_13 rfl rfl (by assumption) ?_
  refine p_if_eq (tgt := 26) e_Core_isDue_4 (by decide) (fun h4 => ?_) (fun h4 => ?_)
  · refine p_iconst (x := 0) e_Core_isDue_26 (by decide) ?_
    refine p_iret e_Core_isDue_27 (rv_z (by first | assumption | exact Or.inl rfl | exact Or.inr rfl) ?_)
    exact k0 (fun q => q.1 h4)
  refine p_aload_n e_Core_isDue_7 rfl ?_
  refine p_gI 71 e_Core_isDue_8 f_Core_29 rfl rfl (by assumption) ?_
  refine p_if_ne (tgt := 26) e_Core_isDue_11 (by decide) (fun h11 => ?_) (fun h11 => ?_)
  · refine p_iconst (x := 0) e_Core_isDue_26 (by decide) ?_
    refine p_iret e_Core_isDue_27 (rv_z (by first | assumption | exact Or.inl rfl | exact Or.inr rfl) ?_)
    exact k0 (fun q => h11 q.2.1)
  refine p_aload_n e_Core_isDue_14 rfl ?_
  refine p_gI 70 e_Core_isDue_15 f_Core_32 rfl rfl (by assumption) ?_
  refine p_iload_n e_Core_isDue_18 rfl ?_
  refine p_icmp_ne (tgt := 26) e_Core_isDue_19 (by decide) (fun h19 => ?_) (fun h19 => ?_)
  · refine p_iconst (x := 0) e_Core_isDue_26 (by decide) ?_
    refine p_iret e_Core_isDue_27 (rv_z (by first | assumption | exact Or.inl rfl | exact Or.inr rfl) ?_)
    exact k0 (fun q => h19 q.2.2)
  refine p_iconst (x := 1) e_Core_isDue_22 (by decide) ?_
  refine p_goto (tgt := 27) e_Core_isDue_23 (by decide) ?_
  refine p_iret e_Core_isDue_27 (rv_z (by first | assumption | exact Or.inl rfl | exact Or.inr rfl) ?_)
  exact k1 h4 h11 h19
theorem sp_Core_isBusyWith {σ : PS} {c : Nat} {b : Int32} {P : Option PV → PS → Prop} (h : tg σ c = 2) (k1 : fi σ 65 c ≠ 0 → fi σ 67 c = b → P (some (.inl 1)) σ) (k0 : ¬ (fi σ 65 c ≠ 0 ∧ fi σ 67 c = b) → P (some (.inl 0)) σ) : Ctr m_Core_isBusyWith 1 [.inr c, .inl b] σ P := by
  refine Ctr.of y_Core_isBusyWith (Nat.le_of_ble_eq_true rfl) ?_
  refine p_aload_n e_Core_isBusyWith_0 rfl ?_
  refine p_gI 65 e_Core_isBusyWith_1 f_Core_13 rfl rfl (by assumption) ?_
  refine p_if_eq (tgt := 19) e_Core_isBusyWith_4 (by decide) (fun h4 => ?_) (fun h4 => ?_)
  · refine p_iconst (x := 0) e_Core_isBusyWith_19 (by decide) ?_
    refine p_iret e_Core_isBusyWith_20 (rv_z (by first | assumption | exact Or.inl rfl | exact Or.inr rfl) ?_)
    exact k0 (fun q => q.1 h4)
  refine p_aload_n e_Core_isBusyWith_7 rfl ?_
  refine p_gI 67 e_Core_isBusyWith_8 f_Core_20 rfl rfl (by assumption) ?_
  refine p_iload_n e_Core_isBusyWith_11 rfl ?_
  refine p_icmp_ne (tgt := 19) e_Core_isBusyWith_12 (by decide) (fun h12 => ?_) (fun h12 => ?_)
  · refine p_iconst (x := 0) e_Core_isBusyWith_19 (by decide) ?_
    refine p_iret e_Core_isBusyWith_20 (rv_z (by first | assumption | exact Or.inl rfl | exact Or.inr rfl) ?_)
    exact k0 (fun q => h12 q.2)
  refine p_iconst (x := 1) e_Core_isBusyWith_15 (by decide) ?_
  refine p_goto (tgt := 20) e_Core_isBusyWith_16 (by decide) ?_
  refine p_iret e_Core_isBusyWith_20 (rv_z (by first | assumption | exact Or.inl rfl | exact Or.inr rfl) ?_)
  exact k1 h4 h12
/-- a letter written anew -/
def adr (σ : PS) (l : Nat) (kd fm to bl : Int32) : PS := pfi (pfi (pfi (pfi (pfi (pfi (pfi (pfi (pfi (pfi (pfi σ 192 l kd) 193 l fm) 194 l to) 195 l bl) 196 l 0) 197 l 0) 198 l 0) 199 l 0) 200 l 0) 201 l (-1)) 202 l 0
theorem sp_Letter_address {σ : PS} {l : Nat} {kd fm to bl : Int32} {P : Option PV → PS → Prop} (h : tg σ l = 4) (hP : P none (adr σ l kd fm to bl)) : Ctr m_Letter_address 1 [.inr l, .inl kd, .inl fm, .inl to, .inl bl] σ P := by
  refine Ctr.of y_Letter_address (Nat.le_of_ble_eq_true rfl) ?_
  refine p_aload_n e_Letter_address_0 rfl ?_
  refine p_iload_n e_Letter_address_1 rfl ?_
  refine p_pI 192 e_Letter_address_2 f_Letter_9 rfl rfl (fun q h => by cases h; exact Or.inl rfl) rfl (by assumption) ?_
  refine p_aload_n e_Letter_address_5 rfl ?_
  refine p_iload_n e_Letter_address_6 rfl ?_
  refine p_pI 193 e_Letter_address_7 f_Letter_15 rfl rfl (fun q h => by cases h; exact Or.inl rfl) rfl (by assumption) ?_
  refine p_aload_n e_Letter_address_10 rfl ?_
  refine p_iload_n e_Letter_address_11 rfl ?_
  refine p_pI 194 e_Letter_address_12 f_Letter_18 rfl rfl (fun q h => by cases h; exact Or.inl rfl) rfl (by assumption) ?_
  refine p_aload_n e_Letter_address_15 rfl ?_
  refine p_iload e_Letter_address_16 rfl ?_
  refine p_pI 195 e_Letter_address_18 f_Letter_21 rfl rfl (fun q h => by cases h; exact Or.inl rfl) rfl (by assumption) ?_
  refine p_aload_n e_Letter_address_21 rfl ?_
  refine p_iconst (x := 0) e_Letter_address_22 (by decide) ?_
  refine p_pI 196 e_Letter_address_23 f_Letter_24 rfl rfl (fun q h => by cases h; exact Or.inl rfl) rfl (by assumption) ?_
  refine p_aload_n e_Letter_address_26 rfl ?_
  refine p_iconst (x := 0) e_Letter_address_27 (by decide) ?_
  refine p_pZ 197 e_Letter_address_28 f_Letter_27 rfl rfl (fun q h => by cases h; exact Or.inl rfl) rfl (by assumption) (by first | assumption | exact Or.inl rfl | exact Or.inr rfl) ?_
  refine p_aload_n e_Letter_address_31 rfl ?_
  refine p_iconst (x := 0) e_Letter_address_32 (by decide) ?_
  refine p_pZ 198 e_Letter_address_33 f_Letter_31 rfl rfl (fun q h => by cases h; exact Or.inl rfl) rfl (by assumption) (by first | assumption | exact Or.inl rfl | exact Or.inr rfl) ?_
  refine p_aload_n e_Letter_address_36 rfl ?_
  refine p_iconst (x := 0) e_Letter_address_37 (by decide) ?_
  refine p_pI 199 e_Letter_address_38 f_Letter_34 rfl rfl (fun q h => by cases h; exact Or.inl rfl) rfl (by assumption) ?_
  refine p_aload_n e_Letter_address_41 rfl ?_
  refine p_iconst (x := 0) e_Letter_address_42 (by decide) ?_
  refine p_pI 200 e_Letter_address_43 f_Letter_37 rfl rfl (fun q h => by cases h; exact Or.inl rfl) rfl (by assumption) ?_
  refine p_aload_n e_Letter_address_46 rfl ?_
  refine p_iconst (x := (-1)) e_Letter_address_47 (by decide) ?_
  refine p_pI 201 e_Letter_address_48 f_Letter_40 rfl rfl (fun q h => by cases h; exact Or.inl rfl) rfl (by assumption) ?_
  refine p_aload_n e_Letter_address_51 rfl ?_
  refine p_iconst (x := 0) e_Letter_address_52 (by decide) ?_
  refine p_pZ 202 e_Letter_address_53 f_Letter_43 rfl rfl (fun q h => by cases h; exact Or.inl rfl) rfl (by assumption) (by first | assumption | exact Or.inl rfl | exact Or.inr rfl) ?_
  refine p_ret e_Letter_address_56 (rv_v ?_)
  exact hP
theorem sp_Letter_yieldsTo {σ : PS} {l : Nat} {kd fm to bl : Int32} {P : Option PV → PS → Prop} (h : tg σ l = 4) (k1 : fi σ 192 l = kd → fi σ 193 l = fm → fi σ 194 l = to → (kd = 5 → fi σ 195 l = bl) → P (some (.inl 1)) σ) (k0 : ¬ (fi σ 192 l = kd ∧ fi σ 193 l = fm ∧ fi σ 194 l = to ∧ (kd = 5 → fi σ 195 l = bl)) → P (some (.inl 0)) σ) : Ctr m_Letter_yieldsTo 1 [.inr l, .inl kd, .inl fm, .inl to, .inl bl] σ P := by
  refine Ctr.of y_Letter_yieldsTo (Nat.le_of_ble_eq_true rfl) ?_
  refine p_aload_n e_Letter_yieldsTo_0 rfl ?_
  refine p_gI 192 e_Letter_yieldsTo_1 f_Letter_9 rfl rfl (by assumption) ?_
  refine p_iload_n e_Letter_yieldsTo_4 rfl ?_
  refine p_icmp_ne (tgt := 45) e_Letter_yieldsTo_5 (by decide) (fun h5 => ?_) (fun h5 => ?_)
  · refine p_iconst (x := 0) e_Letter_yieldsTo_45 (by decide) ?_
    refine p_iret e_Letter_yieldsTo_46 (rv_z (by first | assumption | exact Or.inl rfl | exact Or.inr rfl) ?_)
    exact k0 (fun q => h5 q.1)
  refine p_aload_n e_Letter_yieldsTo_8 rfl ?_
  refine p_gI 193 e_Letter_yieldsTo_9 f_Letter_15 rfl rfl (by assumption) ?_
  refine p_iload_n e_Letter_yieldsTo_12 rfl ?_
  refine p_icmp_ne (tgt := 45) e_Letter_yieldsTo_13 (by decide) (fun h13 => ?_) (fun h13 => ?_)
  · refine p_iconst (x := 0) e_Letter_yieldsTo_45 (by decide) ?_
    refine p_iret e_Letter_yieldsTo_46 (rv_z (by first | assumption | exact Or.inl rfl | exact Or.inr rfl) ?_)
    exact k0 (fun q => h13 q.2.1)
  refine p_aload_n e_Letter_yieldsTo_16 rfl ?_
  refine p_gI 194 e_Letter_yieldsTo_17 f_Letter_18 rfl rfl (by assumption) ?_
  refine p_iload_n e_Letter_yieldsTo_20 rfl ?_
  refine p_icmp_ne (tgt := 45) e_Letter_yieldsTo_21 (by decide) (fun h21 => ?_) (fun h21 => ?_)
  · refine p_iconst (x := 0) e_Letter_yieldsTo_45 (by decide) ?_
    refine p_iret e_Letter_yieldsTo_46 (rv_z (by first | assumption | exact Or.inl rfl | exact Or.inr rfl) ?_)
    exact k0 (fun q => h21 q.2.2.1)
  refine p_aload_n e_Letter_yieldsTo_24 rfl ?_
  refine p_gI 192 e_Letter_yieldsTo_25 f_Letter_9 rfl rfl (by assumption) ?_
  refine p_iconst (x := 5) e_Letter_yieldsTo_28 (by decide) ?_
  refine p_icmp_ne (tgt := 41) e_Letter_yieldsTo_29 (by decide) (fun h29 => ?_) (fun h29 => ?_)
  · refine p_iconst (x := 1) e_Letter_yieldsTo_41 (by decide) ?_
    refine p_goto (tgt := 46) e_Letter_yieldsTo_42 (by decide) ?_
    refine p_iret e_Letter_yieldsTo_46 (rv_z (by first | assumption | exact Or.inl rfl | exact Or.inr rfl) ?_)
    exact k1 h5 h13 h21 (fun q => absurd (h5.trans q) h29)
  refine p_aload_n e_Letter_yieldsTo_32 rfl ?_
  refine p_gI 195 e_Letter_yieldsTo_33 f_Letter_21 rfl rfl (by assumption) ?_
  refine p_iload e_Letter_yieldsTo_36 rfl ?_
  refine p_icmp_ne (tgt := 45) e_Letter_yieldsTo_38 (by decide) (fun h38 => ?_) (fun h38 => ?_)
  · refine p_iconst (x := 0) e_Letter_yieldsTo_45 (by decide) ?_
    refine p_iret e_Letter_yieldsTo_46 (rv_z (by first | assumption | exact Or.inl rfl | exact Or.inr rfl) ?_)
    exact k0 (fun q => h38 (q.2.2.2 (h5.symm.trans h29)))
  refine p_iconst (x := 1) e_Letter_yieldsTo_41 (by decide) ?_
  refine p_goto (tgt := 46) e_Letter_yieldsTo_42 (by decide) ?_
  refine p_iret e_Letter_yieldsTo_46 (rv_z (by first | assumption | exact Or.inl rfl | exact Or.inr rfl) ?_)
  exact k1 h5 h13 h21 (fun _ => h38)
theorem sp_Letter_sum {σ : PS} {l : Nat} {P : Option PV → PS → Prop} (h : tg σ l = 4) (hP : P (some (.inl (fi σ 192 l + 8 * fi σ 194 l + 64 * fi σ 193 l + 512 * fi σ 195 l + 1024 * fi σ 196 l + (if fi σ 197 l = 0 then 0 else 8192) + (if fi σ 198 l = 0 then 0 else 16384)))) σ) : Ctr m_Letter_sum 1 [.inr l] σ P := by
  refine Ctr.of y_Letter_sum (Nat.le_of_ble_eq_true rfl) ?_
  refine p_aload_n e_Letter_sum_0 rfl ?_
  refine p_gI 192 e_Letter_sum_1 f_Letter_9 rfl rfl (by assumption) ?_
  refine p_bipush (x := 8) e_Letter_sum_4 (by decide) ?_
  refine p_aload_n e_Letter_sum_6 rfl ?_
  refine p_gI 194 e_Letter_sum_7 f_Letter_18 rfl rfl (by assumption) ?_
  refine p_imul e_Letter_sum_10 ?_
  refine p_iadd e_Letter_sum_11 ?_
  refine p_bipush (x := 64) e_Letter_sum_12 (by decide) ?_
  refine p_aload_n e_Letter_sum_14 rfl ?_
  refine p_gI 193 e_Letter_sum_15 f_Letter_15 rfl rfl (by assumption) ?_
  refine p_imul e_Letter_sum_18 ?_
  refine p_iadd e_Letter_sum_19 ?_
  refine p_sipush (x := 512) e_Letter_sum_20 (by decide) ?_
  refine p_aload_n e_Letter_sum_23 rfl ?_
  refine p_gI 195 e_Letter_sum_24 f_Letter_21 rfl rfl (by assumption) ?_
  refine p_imul e_Letter_sum_27 ?_
  refine p_iadd e_Letter_sum_28 ?_
  refine p_istore_n e_Letter_sum_29 (by decide) ?_
  refine p_iload_n e_Letter_sum_30 rfl ?_
  refine p_sipush (x := 1024) e_Letter_sum_31 (by decide) ?_
  refine p_aload_n e_Letter_sum_34 rfl ?_
  refine p_gI 196 e_Letter_sum_35 f_Letter_24 rfl rfl (by assumption) ?_
  refine p_imul e_Letter_sum_38 ?_
  refine p_iadd e_Letter_sum_39 ?_
  refine p_aload_n e_Letter_sum_40 rfl ?_
  refine p_gI 197 e_Letter_sum_41 f_Letter_27 rfl rfl (by assumption) ?_
  refine p_if_eq (tgt := 53) e_Letter_sum_44 (by decide) (fun h44 => ?_) (fun h44 => ?_)
  · rw [if_pos h44] at hP
    refine p_iconst (x := 0) e_Letter_sum_53 (by decide) ?_
    refine p_iadd e_Letter_sum_54 ?_
    refine p_aload_n e_Letter_sum_55 rfl ?_
    refine p_gI 198 e_Letter_sum_56 f_Letter_31 rfl rfl (by assumption) ?_
    refine p_if_eq (tgt := 68) e_Letter_sum_59 (by decide) (fun h59 => ?_) (fun h59 => ?_)
    · rw [if_pos h59] at hP
      refine p_iconst (x := 0) e_Letter_sum_68 (by decide) ?_
      refine p_iadd e_Letter_sum_69 ?_
      refine p_iret e_Letter_sum_70 (rv_i ?_)
      exact hP
    · rw [if_neg h59] at hP
      refine p_sipush (x := 16384) e_Letter_sum_62 (by decide) ?_
      refine p_goto (tgt := 69) e_Letter_sum_65 (by decide) ?_
      refine p_iadd e_Letter_sum_69 ?_
      refine p_iret e_Letter_sum_70 (rv_i ?_)
      exact hP
  · rw [if_neg h44] at hP
    refine p_sipush (x := 8192) e_Letter_sum_47 (by decide) ?_
    refine p_goto (tgt := 54) e_Letter_sum_50 (by decide) ?_
    refine p_iadd e_Letter_sum_54 ?_
    refine p_aload_n e_Letter_sum_55 rfl ?_
    refine p_gI 198 e_Letter_sum_56 f_Letter_31 rfl rfl (by assumption) ?_
    refine p_if_eq (tgt := 68) e_Letter_sum_59 (by decide) (fun h59 => ?_) (fun h59 => ?_)
    · rw [if_pos h59] at hP
      refine p_iconst (x := 0) e_Letter_sum_68 (by decide) ?_
      refine p_iadd e_Letter_sum_69 ?_
      refine p_iret e_Letter_sum_70 (rv_i ?_)
      exact hP
    · rw [if_neg h59] at hP
      refine p_sipush (x := 16384) e_Letter_sum_62 (by decide) ?_
      refine p_goto (tgt := 69) e_Letter_sum_65 (by decide) ?_
      refine p_iadd e_Letter_sum_69 ?_
      refine p_iret e_Letter_sum_70 (rv_i ?_)
      exact hP
theorem sp_Req_isOf {σ : PS} {r : Nat} {c n : Int32} {P : Option PV → PS → Prop} (h : tg σ r = 6) (k1 : fi σ 320 r = c → fi σ 321 r ≤ n → P (some (.inl 1)) σ) (k0 : ¬ (fi σ 320 r = c ∧ fi σ 321 r ≤ n) → P (some (.inl 0)) σ) : Ctr m_Req_isOf 1 [.inr r, .inl c, .inl n] σ P := by
  refine Ctr.of y_Req_isOf (Nat.le_of_ble_eq_true rfl) ?_
  refine p_aload_n e_Req_isOf_0 rfl ?_
  refine p_gI 320 e_Req_isOf_1 f_Req_7 rfl rfl (by assumption) ?_
  refine p_iload_n e_Req_isOf_4 rfl ?_
  refine p_icmp_ne (tgt := 20) e_Req_isOf_5 (by decide) (fun h5 => ?_) (fun h5 => ?_)
  · refine p_iconst (x := 0) e_Req_isOf_20 (by decide) ?_
    refine p_iret e_Req_isOf_21 (rv_z (by first | assumption | exact Or.inl rfl | exact Or.inr rfl) ?_)
    exact k0 (fun q => h5 q.1)
  refine p_aload_n e_Req_isOf_8 rfl ?_
  refine p_gI 321 e_Req_isOf_9 f_Req_13 rfl rfl (by assumption) ?_
  refine p_iload_n e_Req_isOf_12 rfl ?_
  refine p_icmp_gt (tgt := 20) e_Req_isOf_13 (by decide) (fun h13 => ?_) (fun h13 => ?_)
  · refine p_iconst (x := 0) e_Req_isOf_20 (by decide) ?_
    refine p_iret e_Req_isOf_21 (rv_z (by first | assumption | exact Or.inl rfl | exact Or.inr rfl) ?_)
    exact k0 (fun q => absurd h13 (Int32.not_lt.mpr q.2))
  refine p_iconst (x := 1) e_Req_isOf_16 (by decide) ?_
  refine p_goto (tgt := 21) e_Req_isOf_17 (by decide) ?_
  refine p_iret e_Req_isOf_21 (rv_z (by first | assumption | exact Or.inl rfl | exact Or.inr rfl) ?_)
  exact k1 h5 (Int32.not_lt.mp h13)
theorem sp_Req_init {σ : PS} {r : Nat} {c n w : Int32} {P : Option PV → PS → Prop} (h : tg σ r = 6) (h0 : r ≠ 0) (hw : w = 0 ∨ w = 1) (hP : P none (pfi (pfi (pfi σ 320 r c) 321 r n) 322 r w)) : Ctr m_Req_init 1 [.inr r, .inl c, .inl n, .inl w] σ P := by
  refine Ctr.of y_Req_init (Nat.le_of_ble_eq_true rfl) ?_
  refine p_aload_n e_Req_init_0 rfl ?_
  refine p_oinit e_Req_init_1 c_Req_1 i_oi q_oi h0 (Nat.le_of_ble_eq_true rfl) (by decide) ?_
  refine p_aload_n e_Req_init_4 rfl ?_
  refine p_iload_n e_Req_init_5 rfl ?_
  refine p_pI 320 e_Req_init_6 f_Req_7 rfl rfl (fun q h => by cases h; exact Or.inr ⟨rfl, rfl, rfl⟩) rfl (by assumption) ?_
  refine p_aload_n e_Req_init_9 rfl ?_
  refine p_iload_n e_Req_init_10 rfl ?_
  refine p_pI 321 e_Req_init_11 f_Req_13 rfl rfl (fun q h => by cases h; exact Or.inr ⟨rfl, rfl, rfl⟩) rfl (by assumption) ?_
  refine p_aload_n e_Req_init_14 rfl ?_
  refine p_iload_n e_Req_init_15 rfl ?_
  refine p_pZ 322 e_Req_init_16 f_Req_16 rfl rfl (fun q h => by cases h; exact Or.inr ⟨rfl, rfl, rfl⟩) rfl (by assumption) (by first | assumption | exact Or.inl rfl | exact Or.inr rfl) ?_
  refine p_ret e_Req_init_19 (rv_v ?_)
  exact hP
theorem sp_Share_learn {σ : PS} {s : Nat} {c w n : Int32} {P : Option PV → PS → Prop} (h : tg σ s = 7) (hw : w = 0 ∨ w = 1) (hP : P none (pfi (pfi (pfi σ 388 s c) 389 s w) 390 s n)) : Ctr m_Share_learn 1 [.inr s, .inl c, .inl w, .inl n] σ P := by
  refine Ctr.of y_Share_learn (Nat.le_of_ble_eq_true rfl) ?_
  refine p_aload_n e_Share_learn_0 rfl ?_
  refine p_iload_n e_Share_learn_1 rfl ?_
  refine p_pI 388 e_Share_learn_2 f_Share_9 rfl rfl (fun q h => by cases h; exact Or.inl rfl) rfl (by assumption) ?_
  refine p_aload_n e_Share_learn_5 rfl ?_
  refine p_iload_n e_Share_learn_6 rfl ?_
  refine p_pZ 389 e_Share_learn_7 f_Share_36 rfl rfl (fun q h => by cases h; exact Or.inl rfl) rfl (by assumption) (by first | assumption | exact Or.inl rfl | exact Or.inr rfl) ?_
  refine p_aload_n e_Share_learn_10 rfl ?_
  refine p_iload_n e_Share_learn_11 rfl ?_
  refine p_pI 390 e_Share_learn_12 f_Share_39 rfl rfl (fun q h => by cases h; exact Or.inl rfl) rfl (by assumption) ?_
  refine p_ret e_Share_learn_15 (rv_v ?_)
  exact hP
theorem sp_Share_lose {σ : PS} {s : Nat} {n w : Int32} {P : Option PV → PS → Prop} (h : tg σ s = 7) (hP : P none (pfi (pfi (pfi σ 384 s (fi σ 384 s - n)) 385 s (if fi σ 385 s ≠ 0 ∧ w = 0 then 1 else 0)) 386 s (if fi σ 386 s ≠ 0 ∧ 0 < fi σ 384 s - n then 1 else 0))) : Ctr m_Share_lose 1 [.inr s, .inl n, .inl w] σ P := by
  refine Ctr.of y_Share_lose (Nat.le_of_ble_eq_true rfl) ?_
  have tail : ∀ (z : Int32), z = 0 ∨ z = 1 → z = (if fi σ 385 s ≠ 0 ∧ w = 0 then 1 else 0) → Wp m_Share_lose 1 27 (largs 0 [.inr s, .inl n, .inl w]) [.inl z, .inr s] (pfi σ 384 s (fi σ 384 s - n)) (fun v σ' => RV m_Share_lose.2.2.2 v ∧ P v σ') := by
    intro z hz ez
    rw [← ez] at hP
    refine p_pZ 385 e_Share_lose_27 f_Share_21 rfl rfl (fun q h => by cases h; exact Or.inl rfl) rfl (by assumption) (by first | assumption | exact Or.inl rfl | exact Or.inr rfl) ?_
    refine p_aload_n e_Share_lose_30 rfl ?_
    refine p_aload_n e_Share_lose_31 rfl ?_
    refine p_gI 386 e_Share_lose_32 f_Share_29 rfl rfl (by assumption) ?_
    refine p_if_eq (tgt := 49) e_Share_lose_35 (by decide) (fun h35 => ?_) (fun h35 => ?_)
    · rw [if_neg (fun q => q.1 h35)] at hP
      refine p_iconst (x := 0) e_Share_lose_49 (by decide) ?_
      refine p_pZ 386 e_Share_lose_50 f_Share_29 rfl rfl (fun q h => by cases h; exact Or.inl rfl) rfl (by assumption) (by first | assumption | exact Or.inl rfl | exact Or.inr rfl) ?_
      refine p_ret e_Share_lose_53 (rv_v ?_)
      exact hP
    refine p_aload_n e_Share_lose_38 rfl ?_
    refine p_gIv 384 e_Share_lose_39 f_Share_15 rfl rfl (by assumption) (v := fi σ 384 s - n) (if_pos ⟨rfl, rfl⟩) ?_
    refine p_if_le (tgt := 49) e_Share_lose_42 (by decide) (fun h42 => ?_) (fun h42 => ?_)
    · rw [if_neg (fun q => absurd q.2 (Int32.not_lt.mpr h42))] at hP
      refine p_iconst (x := 0) e_Share_lose_49 (by decide) ?_
      refine p_pZ 386 e_Share_lose_50 f_Share_29 rfl rfl (fun q h => by cases h; exact Or.inl rfl) rfl (by assumption) (by first | assumption | exact Or.inl rfl | exact Or.inr rfl) ?_
      refine p_ret e_Share_lose_53 (rv_v ?_)
      exact hP
    · rw [if_pos ⟨h35, Int32.not_le.mp h42⟩] at hP
      refine p_iconst (x := 1) e_Share_lose_45 (by decide) ?_
      refine p_goto (tgt := 50) e_Share_lose_46 (by decide) ?_
      refine p_pZ 386 e_Share_lose_50 f_Share_29 rfl rfl (fun q h => by cases h; exact Or.inl rfl) rfl (by assumption) (by first | assumption | exact Or.inl rfl | exact Or.inr rfl) ?_
      refine p_ret e_Share_lose_53 (rv_v ?_)
      exact hP
  refine p_aload_n e_Share_lose_0 rfl ?_
  refine p_dup e_Share_lose_1 ?_
  refine p_gI 384 e_Share_lose_2 f_Share_15 rfl rfl (by assumption) ?_
  refine p_iload_n e_Share_lose_5 rfl ?_
  refine p_isub e_Share_lose_6 ?_
  refine p_pI 384 e_Share_lose_7 f_Share_15 rfl rfl (fun q h => by cases h; exact Or.inl rfl) rfl (by assumption) ?_
  refine p_aload_n e_Share_lose_10 rfl ?_
  refine p_aload_n e_Share_lose_11 rfl ?_
  refine p_gI 385 e_Share_lose_12 f_Share_21 rfl rfl (by assumption) ?_
  refine p_if_eq (tgt := 26) e_Share_lose_15 (by decide) (fun h15 => ?_) (fun h15 => ?_)
  · refine p_iconst (x := 0) e_Share_lose_26 (by decide) ?_
    exact tail 0 (Or.inl rfl) (by rw [if_neg (fun q => q.1 h15)])
  refine p_iload_n e_Share_lose_18 rfl ?_
  refine p_if_ne (tgt := 26) e_Share_lose_19 (by decide) (fun h19 => ?_) (fun h19 => ?_)
  · refine p_iconst (x := 0) e_Share_lose_26 (by decide) ?_
    exact tail 0 (Or.inl rfl) (by rw [if_neg (fun q => h19 q.2)])
  · refine p_iconst (x := 1) e_Share_lose_22 (by decide) ?_
    refine p_goto (tgt := 27) e_Share_lose_23 (by decide) ?_
    exact tail 1 (Or.inr rfl) (by rw [if_pos ⟨h15, h19⟩])
/-- what a node has when it has got a letter's tokens -/
def gnd (σ : PS) (s l : Nat) : PS := if fi σ 198 l = 0 then pfi (pfi σ 384 s (fi σ 384 s + fi σ 196 l)) 385 s (if fi σ 385 s ≠ 0 ∨ fi σ 197 l ≠ 0 then 1 else 0) else
  pfi (pfi (pfi (pfi σ 384 s (fi σ 384 s + fi σ 196 l)) 385 s (if fi σ 385 s ≠ 0 ∨ fi σ 197 l ≠ 0 then 1 else 0)) 386 s 1) 387 s (fi σ 199 l)
theorem sp_Share_gain {σ : PS} {s l : Nat} {P : Option PV → PS → Prop} (h : tg σ s = 7) (hl : tg σ l = 4) (hP : P none (gnd σ s l)) : Ctr m_Share_gain 1 [.inr s, .inr l] σ P := by
  refine Ctr.of y_Share_gain (Nat.le_of_ble_eq_true rfl) ?_
  have tail : ∀ (z : Int32), z = 0 ∨ z = 1 → z = (if fi σ 385 s ≠ 0 ∨ fi σ 197 l ≠ 0 then 1 else 0) → Wp m_Share_gain 1 33 (largs 0 [.inr s, .inr l]) [.inl z, .inr s] (pfi σ 384 s (fi σ 384 s + fi σ 196 l)) (fun v σ' => RV m_Share_gain.2.2.2 v ∧ P v σ') := by
    intro z hz ez
    unfold gnd at hP
    rw [← ez] at hP
    refine p_pZ 385 e_Share_gain_33 f_Share_21 rfl rfl (fun q h => by cases h; exact Or.inl rfl) rfl (by assumption) (by first | assumption | exact Or.inl rfl | exact Or.inr rfl) ?_
    refine p_aload_n e_Share_gain_36 rfl ?_
    refine p_gI 198 e_Share_gain_37 f_Share_26 rfl rfl (by assumption) ?_
    refine p_if_eq (tgt := 56) e_Share_gain_40 (by decide) (fun h40 => ?_) (fun h40 => ?_)
    · refine p_ret e_Share_gain_56 (rv_v ?_)
      rw [if_pos (show fi σ 198 l = 0 from h40)] at hP
      exact hP
    · rw [if_neg (show ¬ fi σ 198 l = 0 from h40)] at hP
      refine p_aload_n e_Share_gain_43 rfl ?_
      refine p_iconst (x := 1) e_Share_gain_44 (by decide) ?_
      refine p_pZ 386 e_Share_gain_45 f_Share_29 rfl rfl (fun q h => by cases h; exact Or.inl rfl) rfl (by assumption) (by first | assumption | exact Or.inl rfl | exact Or.inr rfl) ?_
      refine p_aload_n e_Share_gain_48 rfl ?_
      refine p_aload_n e_Share_gain_49 rfl ?_
      refine p_gI 199 e_Share_gain_50 f_Share_32 rfl rfl (by assumption) ?_
      refine p_pI 387 e_Share_gain_53 f_Share_35 rfl rfl (fun q h => by cases h; exact Or.inl rfl) rfl (by assumption) ?_
      refine p_ret e_Share_gain_56 (rv_v ?_)
      exact hP
  refine p_aload_n e_Share_gain_0 rfl ?_
  refine p_dup e_Share_gain_1 ?_
  refine p_gI 384 e_Share_gain_2 f_Share_15 rfl rfl (by assumption) ?_
  refine p_aload_n e_Share_gain_5 rfl ?_
  refine p_gI 196 e_Share_gain_6 f_Share_18 rfl rfl (by assumption) ?_
  refine p_iadd e_Share_gain_9 ?_
  refine p_pI 384 e_Share_gain_10 f_Share_15 rfl rfl (fun q h => by cases h; exact Or.inl rfl) rfl (by assumption) ?_
  refine p_aload_n e_Share_gain_13 rfl ?_
  refine p_aload_n e_Share_gain_14 rfl ?_
  refine p_gI 385 e_Share_gain_15 f_Share_21 rfl rfl (by assumption) ?_
  refine p_if_ne (tgt := 28) e_Share_gain_18 (by decide) (fun h18 => ?_) (fun h18 => ?_)
  · refine p_iconst (x := 1) e_Share_gain_28 (by decide) ?_
    refine p_goto (tgt := 33) e_Share_gain_29 (by decide) ?_
    exact tail 1 (Or.inr rfl) (if_pos (Or.inl h18)).symm
  refine p_aload_n e_Share_gain_21 rfl ?_
  refine p_gI 197 e_Share_gain_22 f_Share_25 rfl rfl (by assumption) ?_
  refine p_if_eq (tgt := 32) e_Share_gain_25 (by decide) (fun h25 => ?_) (fun h25 => ?_)
  · refine p_iconst (x := 0) e_Share_gain_32 (by decide) ?_
    exact tail 0 (Or.inl rfl) (by rw [if_neg]; rintro (q | q); exact q h18; exact q h25)
  · refine p_iconst (x := 1) e_Share_gain_28 (by decide) ?_
    refine p_goto (tgt := 33) e_Share_gain_29 (by decide) ?_
    exact tail 1 (Or.inr rfl) (if_pos (Or.inr h25)).symm
theorem sp_isCore {σ : PS} {x : Nat} {c : Int32} {P : Option PV → PS → Prop} (h : tg σ x = 8) (k1 : 0 ≤ c → c < fi σ 448 x → P (some (.inl 1)) σ) (k0 : ¬ (0 ≤ c ∧ c < fi σ 448 x) → P (some (.inl 0)) σ) : Ctr m_TM_isCore 1 [.inr x, .inl c] σ P := by
  refine Ctr.of y_TM_isCore (Nat.le_of_ble_eq_true rfl) ?_
  refine p_iload_n e_TM_isCore_0 rfl ?_
  refine p_if_lt (tgt := 16) e_TM_isCore_1 (by decide) (fun h1 => ?_) (fun h1 => ?_)
  · refine p_iconst (x := 0) e_TM_isCore_16 (by decide) ?_
    refine p_iret e_TM_isCore_17 (rv_z (by first | assumption | exact Or.inl rfl | exact Or.inr rfl) ?_)
    exact k0 (fun q => absurd h1 (Int32.not_lt.mpr q.1))
  refine p_iload_n e_TM_isCore_4 rfl ?_
  refine p_aload_n e_TM_isCore_5 rfl ?_
  refine p_gI 448 e_TM_isCore_6 f_TM_13 rfl rfl (by assumption) ?_
  refine p_icmp_ge (tgt := 16) e_TM_isCore_9 (by decide) (fun h9 => ?_) (fun h9 => ?_)
  · refine p_iconst (x := 0) e_TM_isCore_16 (by decide) ?_
    refine p_iret e_TM_isCore_17 (rv_z (by first | assumption | exact Or.inl rfl | exact Or.inr rfl) ?_)
    exact k0 (fun q => absurd h9 (Int32.not_le.mpr q.2))
  refine p_iconst (x := 1) e_TM_isCore_12 (by decide) ?_
  refine p_goto (tgt := 17) e_TM_isCore_13 (by decide) ?_
  refine p_iret e_TM_isCore_17 (rv_z (by first | assumption | exact Or.inl rfl | exact Or.inr rfl) ?_)
  exact k1 (Int32.not_lt.mp h1) (Int32.not_le.mp h9)
theorem sp_isNode {σ : PS} {x : Nat} {c : Int32} {P : Option PV → PS → Prop} (h : tg σ x = 8) (k1 : 0 ≤ c → c ≤ fi σ 449 x → P (some (.inl 1)) σ) (k0 : ¬ (0 ≤ c ∧ c ≤ fi σ 449 x) → P (some (.inl 0)) σ) : Ctr m_TM_isNode 1 [.inr x, .inl c] σ P := by
  refine Ctr.of y_TM_isNode (Nat.le_of_ble_eq_true rfl) ?_
  refine p_iload_n e_TM_isNode_0 rfl ?_
  refine p_if_lt (tgt := 16) e_TM_isNode_1 (by decide) (fun h1 => ?_) (fun h1 => ?_)
  · refine p_iconst (x := 0) e_TM_isNode_16 (by decide) ?_
    refine p_iret e_TM_isNode_17 (rv_z (by first | assumption | exact Or.inl rfl | exact Or.inr rfl) ?_)
    exact k0 (fun q => absurd h1 (Int32.not_lt.mpr q.1))
  refine p_iload_n e_TM_isNode_4 rfl ?_
  refine p_aload_n e_TM_isNode_5 rfl ?_
  refine p_gI 449 e_TM_isNode_6 f_TM_23 rfl rfl (by assumption) ?_
  refine p_icmp_gt (tgt := 16) e_TM_isNode_9 (by decide) (fun h9 => ?_) (fun h9 => ?_)
  · refine p_iconst (x := 0) e_TM_isNode_16 (by decide) ?_
    refine p_iret e_TM_isNode_17 (rv_z (by first | assumption | exact Or.inl rfl | exact Or.inr rfl) ?_)
    exact k0 (fun q => absurd h9 (Int32.not_lt.mpr q.2))
  refine p_iconst (x := 1) e_TM_isNode_12 (by decide) ?_
  refine p_goto (tgt := 17) e_TM_isNode_13 (by decide) ?_
  refine p_iret e_TM_isNode_17 (rv_z (by first | assumption | exact Or.inl rfl | exact Or.inr rfl) ?_)
  exact k1 (Int32.not_lt.mp h1) (Int32.not_lt.mp h9)
theorem sp_isBlock {σ : PS} {c : Int32} {P : Option PV → PS → Prop} (k1 : 0 ≤ c → c < 2 → P (some (.inl 1)) σ) (k0 : ¬ (0 ≤ c ∧ c < 2) → P (some (.inl 0)) σ) : Ctr m_TM_isBlock 1 [.inl c] σ P := by
  refine Ctr.of y_TM_isBlock (Nat.le_of_ble_eq_true rfl) ?_
  refine p_iload_n e_TM_isBlock_0 rfl ?_
  refine p_if_lt (tgt := 13) e_TM_isBlock_1 (by decide) (fun h1 => ?_) (fun h1 => ?_)
  · refine p_iconst (x := 0) e_TM_isBlock_13 (by decide) ?_
    refine p_iret e_TM_isBlock_14 (rv_z (by first | assumption | exact Or.inl rfl | exact Or.inr rfl) ?_)
    exact k0 (fun q => absurd h1 (Int32.not_lt.mpr q.1))
  refine p_iload_n e_TM_isBlock_4 rfl ?_
  refine p_iconst (x := 2) e_TM_isBlock_5 (by decide) ?_
  refine p_icmp_ge (tgt := 13) e_TM_isBlock_6 (by decide) (fun h6 => ?_) (fun h6 => ?_)
  · refine p_iconst (x := 0) e_TM_isBlock_13 (by decide) ?_
    refine p_iret e_TM_isBlock_14 (rv_z (by first | assumption | exact Or.inl rfl | exact Or.inr rfl) ?_)
    exact k0 (fun q => absurd h6 (Int32.not_le.mpr q.2))
  refine p_iconst (x := 1) e_TM_isBlock_9 (by decide) ?_
  refine p_goto (tgt := 14) e_TM_isBlock_10 (by decide) ?_
  refine p_iret e_TM_isBlock_14 (rv_z (by first | assumption | exact Or.inl rfl | exact Or.inr rfl) ?_)
  exact k1 (Int32.not_lt.mp h1) (Int32.not_le.mp h6)
theorem sp_clamp {σ : PS} {v a b : Int32} {P : Option PV → PS → Prop} (hP : P (some (.inl (if a < (if v < b then v else b) then (if v < b then v else b) else a))) σ) : Ctr m_TM_clamp 1 [.inl v, .inl a, .inl b] σ P := by
  refine Ctr.of y_TM_clamp (Nat.le_of_ble_eq_true rfl) ?_
  refine p_iload_n e_TM_clamp_0 rfl ?_
  refine p_iload_n e_TM_clamp_1 rfl ?_
  refine p_iload_n e_TM_clamp_2 rfl ?_
  refine p_mmin e_TM_clamp_3 c_TM_213 (Nat.le_of_ble_eq_true rfl) (by decide) ?_
  refine p_mmax e_TM_clamp_6 c_TM_219 (Nat.le_of_ble_eq_true rfl) (by decide) ?_
  refine p_iret e_TM_clamp_9 (rv_i ?_)
  exact hP
theorem sp_share {σ : PS} {x s a n b : Nat} {P : Option PV → PS → Prop} (h : tg σ x = 8) (hs : fr σ 453 x = s) (ht : tg σ s = 103) (hn : 2 * n + b < al σ s) (hn2 : al σ s ≤ 100) (ha : ar σ s (2 * n + b) = a) (hP : P (some (.inr a)) σ) : Ctr m_TM_share 1 [.inr x, .inl (nI n), .inl (nI b)] σ P := by
  refine Ctr.of y_TM_share (Nat.le_of_ble_eq_true rfl) ?_
  have e : nI n * 2 + nI b = nI (2 * n + b) := by
    have : (2 : Int32) = nI 2 := by decide
    rw [this, pk_mul, nI_add, Nat.mul_comm]
  refine p_aload_n e_TM_share_0 rfl ?_
  refine p_gRv 453 e_TM_share_1 f_TM_31 rfl rfl (by assumption) hs ?_
  refine p_iload_n e_TM_share_4 rfl ?_
  refine p_iconst (x := 2) e_TM_share_5 (by decide) ?_
  refine p_imul e_TM_share_6 ?_
  refine p_iload_n e_TM_share_7 rfl ?_
  refine p_iadd e_TM_share_8 ?_
  refine p_top e ?_
  refine p_aald (ti := 3) (n := 2 * n + b) e_TM_share_9 (by decide) ht rfl hn (by omega) ?_
  refine p_aret e_TM_share_10 (rv_o ?_)
  rw [ha]
  exact hP
end
section
/-! THE STATE AS NUMBERS: how many letters wait, how many requests stand in each row, and the numbers by kind and place (the kinds are numbered as the reference's fields are; 40, 41, 42: core, kind and serial of a block's active request) -/
abbrev AS : Type := Nat × (Nat → Nat) × (Nat → Nat → Int32)
def ln (A : AS) : Nat := A.1
def rn (A : AS) : Nat → Nat := A.2.1
def sv (A : AS) : Nat → Nat → Int32 := A.2.2
def set1 (A : AS) (k i : Nat) (v : Int32) : AS := (ln A, rn A, up2 (sv A) k i v)
/-- letters: one taken out, one put behind -/
def rmL (A : AS) (i : Nat) : AS := (ln A - 1, rn A, fun k j => if (29 ≤ k ∧ k < 40) ∧ i ≤ j then sv A k (j + 1) else sv A k j)
def apL (A : AS) (g : Nat → Int32) : AS := (ln A + 1, rn A, fun k j => if (29 ≤ k ∧ k < 40) ∧ j = ln A then g k else sv A k j)
def nwL (kd fm to bl : Int32) : Nat → Int32 := fun k => if k = 29 then kd else if k = 30 then to else if k = 31 then fm else if k = 32 then bl else if k = 38 then -1 else 0
def mtL (A : AS) (kd fm to bl : Int32) (j : Nat) : Prop := sv A 29 j = kd ∧ sv A 31 j = fm ∧ sv A 30 j = to ∧ (kd = 5 → sv A 32 j = bl)
/-- the first letter that the new one takes the place of -/
def fdL (A : AS) (kd fm to bl : Int32) (j : Nat) : Prop := j < ln A ∧ mtL A kd fm to bl j ∧ ∀ i, i < j → ¬ mtL A kd fm to bl i
noncomputable def dpL (A : AS) (kd fm to bl : Int32) : AS := @ite _ (kd = 3) (Classical.propDecidable _) A (@dite _ (∃ j, fdL A kd fm to bl j) (Classical.propDecidable _) (fun h => rmL A h.choose) (fun _ => A))
theorem fdL_inj {A : AS} {kd fm to bl : Int32} {i j : Nat} (hi : fdL A kd fm to bl i) (hj : fdL A kd fm to bl j) : i = j := by
  rcases Nat.lt_trichotomy i j with h | h | h
  · exact absurd hi.2.1 (hj.2.2 i h)
  · exact h
  · exact absurd hj.2.1 (hi.2.2 j h)
theorem dpL_3 {A : AS} {fm to bl : Int32} : dpL A 3 fm to bl = A := by unfold dpL; rw [if_pos rfl]
theorem dpL_at {A : AS} {kd fm to bl : Int32} {j : Nat} (hk : kd ≠ 3) (h : fdL A kd fm to bl j) : dpL A kd fm to bl = rmL A j := by
  unfold dpL
  have hx : ∃ j, fdL A kd fm to bl j := ⟨j, h⟩
  rw [if_neg hk, dif_pos hx, fdL_inj hx.choose_spec h]
theorem dpL_no {A : AS} {kd fm to bl : Int32} (h : ∀ j, j < ln A → ¬ mtL A kd fm to bl j) : dpL A kd fm to bl = A := by
  unfold dpL
  by_cases hk : kd = 3
  · rw [if_pos hk]
  · rw [if_neg hk, dif_neg]
    rintro ⟨j, hj⟩
    exact h j hj.1 hj.2.1
/-- a letter is sent: it takes the place of an older one, and is the last -/
noncomputable def sdL (A : AS) (kd fm to bl : Int32) : AS := apL (dpL A kd fm to bl) (nwL kd fm to bl)
theorem dpL_le (A : AS) (kd fm to bl : Int32) : ln (dpL A kd fm to bl) ≤ ln A := by
  by_cases hk : kd = 3
  · subst hk; rw [dpL_3]; exact Nat.le_refl _
  · by_cases h : ∃ j, fdL A kd fm to bl j
    · obtain ⟨j, hj⟩ := h
      rw [dpL_at hk hj]
      exact Nat.sub_le _ _
    · unfold dpL
      rw [if_neg hk, dif_neg h]
      exact Nat.le_refl _
theorem sv_set1 {A : AS} {k i k' j : Nat} {v : Int32} : sv (set1 A k i v) k' j = if k' = k ∧ j = i then v else sv A k' j := rfl
theorem ln_set1 {A : AS} {k i : Nat} {v : Int32} : ln (set1 A k i v) = ln A := rfl
theorem rn_set1 {A : AS} {k i : Nat} {v : Int32} : rn (set1 A k i v) = rn A := rfl
theorem sv_rmL {A : AS} {i k j : Nat} : sv (rmL A i) k j = if (29 ≤ k ∧ k < 40) ∧ i ≤ j then sv A k (j + 1) else sv A k j := rfl
theorem sv_apL {A : AS} {g : Nat → Int32} {k j : Nat} : sv (apL A g) k j = if (29 ≤ k ∧ k < 40) ∧ j = ln A then g k else sv A k j := rfl
end
section
/-! WHAT THE CLASS'S OBJECTS HOLD. Y: where they lie (0: the mesh, 1..4: its arrays, 5: the mail, 6, 7: its lists, 100..: shares, 200..: cores, 300, 301: desks, 310, 311: their rows) -/
def Lay (N : Nat) (Y : Nat → Nat) (σ : PS) : Prop := (2 ≤ N ∧ N ≤ 4) ∧
  (tg σ (Y 0) = 8 ∧ fi σ 448 (Y 0) = nI N ∧ fi σ 449 (Y 0) = nI N ∧ fi σ 450 (Y 0) = nI (N + 1) ∧ fr σ 453 (Y 0) = Y 1 ∧ fr σ 454 (Y 0) = Y 2 ∧ fr σ 455 (Y 0) = Y 3 ∧ fr σ 456 (Y 0) = Y 4 ∧ fr σ 457 (Y 0) = Y 5) ∧
  (tg σ (Y 1) = 103 ∧ al σ (Y 1) = 2 * N + 2 ∧ ∀ i, i < 2 * N + 2 → ar σ (Y 1) i = Y (100 + i) ∧ tg σ (Y (100 + i)) = 7) ∧
  (tg σ (Y 2) = 104 ∧ al σ (Y 2) = N ∧ ∀ c, c < N → ar σ (Y 2) c = Y (200 + c) ∧ tg σ (Y (200 + c)) = 2) ∧
  (tg σ (Y 3) = 105 ∧ al σ (Y 3) = 2 ∧ ∀ b, b < 2 → ar σ (Y 3) b = Y (300 + b) ∧ tg σ (Y (300 + b)) = 3 ∧ fr σ 128 (Y (300 + b)) = Y (310 + b)) ∧
  (tg σ (Y 4) = 100 ∧ al σ (Y 4) = N) ∧ (tg σ (Y 5) = 5 ∧ fr σ 256 (Y 5) = Y 6 ∧ fr σ 257 (Y 5) = Y 7) ∧
  (∀ i j, i < 2 * N + 2 → j < 2 * N + 2 → Y (100 + i) = Y (100 + j) → i = j) ∧ (∀ i j, i < N → j < N → Y (200 + i) = Y (200 + j) → i = j) ∧ (∀ i j, i < 2 → j < 2 → Y (300 + i) = Y (300 + j) → i = j) ∧
  (Y 6 ≠ Y 7 ∧ Y 6 ≠ Y 310 ∧ Y 6 ≠ Y 311 ∧ Y 7 ≠ Y 310 ∧ Y 7 ≠ Y 311 ∧ Y 310 ≠ Y 311)
def SHR (N : Nat) (Y : Nat → Nat) (σ : PS) (A : AS) : Prop :=
  (∀ i, i < 2 * N + 2 → fi σ 384 (Y (100 + i)) = sv A 5 i) ∧ (∀ i, i < 2 * N + 2 → fi σ 385 (Y (100 + i)) = sv A 6 i) ∧ (∀ i, i < 2 * N + 2 → fi σ 386 (Y (100 + i)) = sv A 7 i) ∧ (∀ i, i < 2 * N + 2 → fi σ 387 (Y (100 + i)) = sv A 8 i) ∧
  (∀ i, i < 2 * N + 2 → fi σ 388 (Y (100 + i)) = sv A 9 i) ∧ (∀ i, i < 2 * N + 2 → fi σ 389 (Y (100 + i)) = sv A 10 i) ∧ (∀ i, i < 2 * N + 2 → fi σ 390 (Y (100 + i)) = sv A 11 i)
def COR (N : Nat) (Y : Nat → Nat) (σ : PS) (A : AS) : Prop :=
  (∀ c, c < N → fi σ 64 (Y (200 + c)) = sv A 17 c) ∧ (∀ c, c < N → fi σ 65 (Y (200 + c)) = sv A 12 c) ∧ (∀ c, c < N → fi σ 66 (Y (200 + c)) = sv A 13 c) ∧ (∀ c, c < N → fi σ 67 (Y (200 + c)) = sv A 15 c) ∧ (∀ c, c < N → fi σ 68 (Y (200 + c)) = sv A 16 c) ∧
  (∀ c, c < N → fi σ 69 (Y (200 + c)) = sv A 18 c) ∧ (∀ c, c < N → fi σ 70 (Y (200 + c)) = sv A 19 c) ∧ (∀ c, c < N → fi σ 71 (Y (200 + c)) = sv A 14 c) ∧ (∀ c, c < N → fi σ 72 (Y (200 + c)) = sv A 20 c) ∧ (∀ c, c < N → fi σ 73 (Y (200 + c)) = sv A 21 c)
def MSC (N : Nat) (Y : Nat → Nat) (σ : PS) (A : AS) : Prop := fi σ 451 (Y 0) = sv A 2 0 ∧ fi σ 452 (Y 0) = sv A 3 0 ∧ fi σ 458 (Y 0) = sv A 4 0 ∧ ∀ c, c < N → ai σ (Y 4) c = sv A 27 c
/-- the letter at a is the i-th -/
def LTR (σ : PS) (a : Nat) (A : AS) (i : Nat) : Prop := fi σ 192 a = sv A 29 i ∧ fi σ 193 a = sv A 31 i ∧ fi σ 194 a = sv A 30 i ∧ fi σ 195 a = sv A 32 i ∧ fi σ 196 a = sv A 33 i ∧ fi σ 197 a = sv A 34 i ∧ fi σ 198 a = sv A 35 i ∧ fi σ 199 a = sv A 36 i ∧ fi σ 200 a = sv A 37 i ∧ fi σ 201 a = sv A 38 i ∧ fi σ 202 a = sv A 39 i
/-- the mail: f waits, g is spare, hs is in hand -/
def MAR (Y : Nat → Nat) (hs : List Nat) (σ : PS) (A : AS) (f : Nat → Nat) (m : Nat) (g : Nat → Nat) : Prop :=
  AL σ (Y 6) (ln A) f ∧ AL σ (Y 7) m g ∧ (∀ i, i < ln A → tg σ (f i) = 4 ∧ LTR σ (f i) A i) ∧ (∀ j, j < m → tg σ (g j) = 4) ∧ (∀ i j, i < ln A → j < ln A → f i = f j → i = j) ∧ (∀ i j, i < m → j < m → g i = g j → i = j) ∧ (∀ i j, i < ln A → j < m → f i ≠ g j) ∧
  (∀ h ∈ hs, tg σ h = 4 ∧ (∀ i, i < ln A → f i ≠ h) ∧ ∀ j, j < m → g j ≠ h) ∧ hs.Nodup ∧ ln A + m + hs.length ≤ 70
def ROR (Y : Nat → Nat) (σ : PS) (A : AS) (rf : Nat → Nat → Nat) : Prop := ∀ b, b < 2 → AL σ (Y (310 + b)) (rn A b) (rf b) ∧ ∀ i, i < rn A b → tg σ (rf b i) = 6 ∧ fi σ 320 (rf b i) = sv A 22 (20 * b + i) ∧ fi σ 321 (rf b i) = sv A 23 (20 * b + i) ∧ fi σ 322 (rf b i) = sv A 24 (20 * b + i)
def ACR (Y : Nat → Nat) (σ : PS) (A : AS) : Prop := ∀ b, b < 2 → fi σ 130 (Y (300 + b)) = sv A 42 b ∧ ((fr σ 129 (Y (300 + b)) = 0 ∧ sv A 40 b = -1) ∨ (tg σ (fr σ 129 (Y (300 + b))) = 6 ∧ fi σ 320 (fr σ 129 (Y (300 + b))) = sv A 40 b ∧ fi σ 321 (fr σ 129 (Y (300 + b))) = sv A 26 b ∧ fi σ 322 (fr σ 129 (Y (300 + b))) = sv A 41 b ∧ sv A 40 b ≠ -1))
/-- no two lists share an array -/
def DIS (Y : Nat → Nat) (σ : PS) : Prop := ∀ l l', (l = 6 ∨ l = 7 ∨ l = 310 ∨ l = 311) → (l' = 6 ∨ l' = 7 ∨ l' = 310 ∨ l' = 311) → l ≠ l' → tg σ (fr σ 1 (Y l)) = 102 → fr σ 1 (Y l) ≠ fr σ 1 (Y l')
def caps (Y : Nat → Nat) (σ : PS) : Nat := al σ (fr σ 1 (Y 6)) + al σ (fr σ 1 (Y 7)) + al σ (fr σ 1 (Y 310)) + al σ (fr σ 1 (Y 311))
/-- what has been made: bd.1, bd.2.1 at first, bd.2.2 requests -/
def BUD (Y : Nat → Nat) (bd : Nat × Nat × Nat) (σ : PS) (t : Nat) : Prop := nx σ ≤ bd.1 + t + bd.2.2 + caps Y σ ∧ sl σ ≤ bd.2.1 + 11 * t + 3 * bd.2.2 + 4 * caps Y σ
def CRx (N : Nat) (Y : Nat → Nat) (bd : Nat × Nat × Nat) (hs : List Nat) (σ : PS) (A : AS) (f : Nat → Nat) (m : Nat) (g : Nat → Nat) (rf : Nat → Nat → Nat) : Prop :=
  Lay N Y σ ∧ FR σ ∧ SHR N Y σ A ∧ COR N Y σ A ∧ MSC N Y σ A ∧ MAR Y hs σ A f m g ∧ ROR Y σ A rf ∧ ACR Y σ A ∧ DIS Y σ ∧ BUD Y bd σ (ln A + m + hs.length)
def CR (N : Nat) (Y : Nat → Nat) (bd : Nat × Nat × Nat) (hs : List Nat) (σ : PS) (A : AS) : Prop := ∃ f m g rf, CRx N Y bd hs σ A f m g rf
theorem FR.lt {σ : PS} (h : FR σ) {r : Nat} (ht : tg σ r ≠ 0) : r < nx σ := by
  rcases Nat.lt_or_ge r (nx σ) with q | q
  · exact q
  · exact absurd (h.2 r q) ht
/-- nothing but lists and what is new has changed -/
def KP (σ σ' : PS) : Prop := nx σ ≤ nx σ' ∧ (∀ r, r < nx σ → tg σ' r = tg σ r ∧ al σ' r = al σ r) ∧ (∀ r j, r < nx σ → ai σ' r j = ai σ r j) ∧ (∀ i r, r < nx σ → 3 ≤ i → fi σ' i r = fi σ i r) ∧ (∀ i r, r < nx σ → i ≠ 1 → fr σ' i r = fr σ i r) ∧ ∀ r j, r < nx σ → tg σ r ≠ 102 → tg σ r ≠ 99 → ar σ' r j = ar σ r j
theorem LF.kp {σ σ' : PS} {l : Nat} (h : LF σ σ' l) (he : tg σ (fr σ 1 l) = 102 ∨ tg σ (fr σ 1 l) = 99) : KP σ σ' := by
  obtain ⟨h1, h2, h3, h4, h5, h6, h7, h8⟩ := h
  exact ⟨h1, h3, h4, fun i r _ hi => h5 i r (Or.inr hi), fun i r _ hi => h6 i r (Or.inr hi), fun r j hr a b => h7 r j hr (by rintro rfl; rcases he with q | q <;> omega)⟩
theorem KP.lay {N : Nat} {Y : Nat → Nat} {σ σ' : PS} (k : KP σ σ') (hF : FR σ) (h : Lay N Y σ) : Lay N Y σ' := by
  obtain ⟨k1, k2, k3, k4, k5, k6⟩ := k
  obtain ⟨a0, ⟨b1, b2, b3, b4, b5, b6, b7, b8, b9⟩, ⟨c1, c2, c3⟩, ⟨d1, d2, d3⟩, ⟨e1, e2, e3⟩, ⟨f1, f2⟩, ⟨g1, g2, g3⟩, rest⟩ := h
  have x0 := hF.lt (r := Y 0) (by omega)
  have x1 := hF.lt (r := Y 1) (by omega)
  have x2 := hF.lt (r := Y 2) (by omega)
  have x3 := hF.lt (r := Y 3) (by omega)
  have x4 := hF.lt (r := Y 4) (by omega)
  have x5 := hF.lt (r := Y 5) (by omega)
  refine ⟨a0, ⟨?_, ?_, ?_, ?_, ?_, ?_, ?_, ?_, ?_⟩, ⟨?_, ?_, fun i hi => ⟨?_, ?_⟩⟩, ⟨?_, ?_, fun c hc => ⟨?_, ?_⟩⟩, ⟨?_, ?_, fun b hb => ⟨?_, ?_, ?_⟩⟩, ⟨?_, ?_⟩, ⟨?_, ?_, ?_⟩, rest⟩
  · rw [(k2 _ x0).1]; exact b1
  · rw [k4 _ _ x0 (by omega)]; exact b2
  · rw [k4 _ _ x0 (by omega)]; exact b3
  · rw [k4 _ _ x0 (by omega)]; exact b4
  · rw [k5 _ _ x0 (by omega)]; exact b5
  · rw [k5 _ _ x0 (by omega)]; exact b6
  · rw [k5 _ _ x0 (by omega)]; exact b7
  · rw [k5 _ _ x0 (by omega)]; exact b8
  · rw [k5 _ _ x0 (by omega)]; exact b9
  · rw [(k2 _ x1).1]; exact c1
  · rw [(k2 _ x1).2]; exact c2
  · rw [k6 _ _ x1 (by omega) (by omega)]; exact (c3 i hi).1
  · rw [(k2 _ (hF.lt (by have := (c3 i hi).2; omega))).1]; exact (c3 i hi).2
  · rw [(k2 _ x2).1]; exact d1
  · rw [(k2 _ x2).2]; exact d2
  · rw [k6 _ _ x2 (by omega) (by omega)]; exact (d3 c hc).1
  · rw [(k2 _ (hF.lt (by have := (d3 c hc).2; omega))).1]; exact (d3 c hc).2
  · rw [(k2 _ x3).1]; exact e1
  · rw [(k2 _ x3).2]; exact e2
  · rw [k6 _ _ x3 (by omega) (by omega)]; exact (e3 b hb).1
  · rw [(k2 _ (hF.lt (by have := (e3 b hb).2.1; omega))).1]; exact (e3 b hb).2.1
  · rw [k5 _ _ (hF.lt (by have := (e3 b hb).2.1; omega)) (by omega)]; exact (e3 b hb).2.2
  · rw [(k2 _ x4).1]; exact f1
  · rw [(k2 _ x4).2]; exact f2
  · rw [(k2 _ x5).1]; exact g1
  · rw [k5 _ _ x5 (by omega)]; exact g2
  · rw [k5 _ _ x5 (by omega)]; exact g3
theorem Lay.sh {N : Nat} {Y : Nat → Nat} {σ : PS} (h : Lay N Y σ) {i : Nat} (hi : i < 2 * N + 2) : tg σ (Y (100 + i)) = 7 := (h.2.2.1.2.2 i hi).2
theorem Lay.co {N : Nat} {Y : Nat → Nat} {σ : PS} (h : Lay N Y σ) {i : Nat} (hi : i < N) : tg σ (Y (200 + i)) = 2 := (h.2.2.2.1.2.2 i hi).2
theorem Lay.dk {N : Nat} {Y : Nat → Nat} {σ : PS} (h : Lay N Y σ) {i : Nat} (hi : i < 2) : tg σ (Y (300 + i)) = 3 := (h.2.2.2.2.1.2.2 i hi).2.1
theorem KP.shr {N : Nat} {Y : Nat → Nat} {σ σ' : PS} {A : AS} (k : KP σ σ') (hF : FR σ) (hL : Lay N Y σ) (h : SHR N Y σ A) : SHR N Y σ' A := by
  have x : ∀ i, i < 2 * N + 2 → Y (100 + i) < nx σ := fun i hi => hF.lt (by have := hL.sh hi; omega)
  obtain ⟨h1, h2, h3, h4, h5, h6, h7⟩ := h
  obtain ⟨-, -, -, k4, -⟩ := k
  refine ⟨fun i hi => ?_, fun i hi => ?_, fun i hi => ?_, fun i hi => ?_, fun i hi => ?_, fun i hi => ?_, fun i hi => ?_⟩ <;> rw [k4 _ _ (x i hi) (by omega)]
  · exact h1 i hi
  · exact h2 i hi
  · exact h3 i hi
  · exact h4 i hi
  · exact h5 i hi
  · exact h6 i hi
  · exact h7 i hi
theorem KP.cor {N : Nat} {Y : Nat → Nat} {σ σ' : PS} {A : AS} (k : KP σ σ') (hF : FR σ) (hL : Lay N Y σ) (h : COR N Y σ A) : COR N Y σ' A := by
  have x : ∀ i, i < N → Y (200 + i) < nx σ := fun i hi => hF.lt (by have := hL.co hi; omega)
  obtain ⟨h1, h2, h3, h4, h5, h6, h7, h8, h9, h10⟩ := h
  obtain ⟨-, -, -, k4, -⟩ := k
  refine ⟨fun i hi => ?_, fun i hi => ?_, fun i hi => ?_, fun i hi => ?_, fun i hi => ?_, fun i hi => ?_, fun i hi => ?_, fun i hi => ?_, fun i hi => ?_, fun i hi => ?_⟩ <;> rw [k4 _ _ (x i hi) (by omega)]
  · exact h1 i hi
  · exact h2 i hi
  · exact h3 i hi
  · exact h4 i hi
  · exact h5 i hi
  · exact h6 i hi
  · exact h7 i hi
  · exact h8 i hi
  · exact h9 i hi
  · exact h10 i hi
theorem KP.msc {N : Nat} {Y : Nat → Nat} {σ σ' : PS} {A : AS} (k : KP σ σ') (hF : FR σ) (hL : Lay N Y σ) (h : MSC N Y σ A) : MSC N Y σ' A := by
  have x0 := hF.lt (r := Y 0) (by have := hL.2.1.1; omega)
  have x4 := hF.lt (r := Y 4) (by have := hL.2.2.2.2.2.1.1; omega)
  obtain ⟨h1, h2, h3, h4⟩ := h
  obtain ⟨-, -, k3, k4, -⟩ := k
  refine ⟨?_, ?_, ?_, fun c hc => ?_⟩
  · rw [k4 _ _ x0 (by omega)]; exact h1
  · rw [k4 _ _ x0 (by omega)]; exact h2
  · rw [k4 _ _ x0 (by omega)]; exact h3
  · rw [k3 _ _ x4]; exact h4 c hc
theorem KP.ltr {σ σ' : PS} {A : AS} {a i : Nat} (k : KP σ σ') (ha : a < nx σ) (h : LTR σ a A i) : LTR σ' a A i := by
  obtain ⟨-, -, -, k4, -⟩ := k
  unfold LTR
  rw [k4 192 a ha (by omega), k4 193 a ha (by omega), k4 194 a ha (by omega), k4 195 a ha (by omega), k4 196 a ha (by omega), k4 197 a ha (by omega), k4 198 a ha (by omega), k4 199 a ha (by omega), k4 200 a ha (by omega), k4 201 a ha (by omega), k4 202 a ha (by omega)]
  exact h
theorem KP.acr {N : Nat} {Y : Nat → Nat} {σ σ' : PS} {A : AS} (k : KP σ σ') (hF : FR σ) (hL : Lay N Y σ) (h : ACR Y σ A) : ACR Y σ' A := by
  intro b hb
  have x := hF.lt (r := Y (300 + b)) (by have := hL.dk hb; omega)
  obtain ⟨h1, h2⟩ := h b hb
  obtain ⟨-, k2, -, k4, k5, -⟩ := k
  rw [k4 _ _ x (by omega), k5 _ _ x (by omega)]
  refine ⟨h1, ?_⟩
  rcases h2 with h2 | ⟨q1, q2, q3, q4, q5⟩
  · exact Or.inl h2
  · have y := hF.lt (r := fr σ 129 (Y (300 + b))) (by omega)
    rw [(k2 _ y).1, k4 _ _ y (by omega), k4 _ _ y (by omega), k4 _ _ y (by omega)]
    exact Or.inr ⟨q1, q2, q3, q4, q5⟩
/-- a list that was left alone -/
theorem KP.keepL {σ σ' : PS} {l n : Nat} {f : Nat → Nat} (k : KP σ σ') (hF : FR σ) (h : AL σ l n f) (h1 : fi σ' 2 l = fi σ 2 l) (h2 : fr σ' 1 l = fr σ 1 l) (h3 : ∀ j, j < n → ar σ' (fr σ 1 l) j = ar σ (fr σ 1 l) j) : AL σ' l n f := by
  obtain ⟨a1, a2, a3, a4, a5, a6, a7, a8, a9⟩ := h
  obtain ⟨k1, k2, -⟩ := k
  unfold AL
  rw [(k2 l a7).1, h1, h2, (k2 _ a6).1, (k2 _ a6).2]
  refine ⟨a1, a2, a3, a4, a5, by omega, by omega, a8, fun i hi => ?_⟩
  rw [h3 i hi]
  obtain ⟨q1, q2⟩ := a9 i hi
  refine ⟨q1, ?_⟩
  rw [(k2 _ (hF.lt (by omega))).1]
  exact q2
end
section
/-! what a write does to the picture -/
theorem cw_384 {N : Nat} {Y : Nat → Nat} {bd : Nat × Nat × Nat} {hs : List Nat} {σ : PS} {A : AS} {f : Nat → Nat} {m : Nat} {g : Nat → Nat} {rf : Nat → Nat → Nat} (h : CRx N Y bd hs σ A f m g rf) {i : Nat} (hi : i < 2 * N + 2) {v : Int32} : CRx N Y bd hs (pfi σ 384 (Y (100 + i)) v) (set1 A 5 i v) f m g rf := by
  obtain ⟨h1, h2, ⟨s1, s2, s3, s4, s5, s6, s7⟩, h4, h5, h6, h7, h8, h9, h10⟩ := h
  refine ⟨h1, h2, ⟨fun j hj => ?_, s2, s3, s4, s5, s6, s7⟩, h4, h5, h6, h7, h8, h9, h10⟩
  rw [fi_pfi, sv_set1]
  by_cases e : j = i
  · subst e; rw [if_pos ⟨rfl, rfl⟩, if_pos ⟨rfl, rfl⟩]
  · rw [if_neg (fun z => e (h1.2.2.2.2.2.2.2.1 j i hj hi z.2)), if_neg (fun z => e z.2)]; exact s1 j hj
theorem cw_385 {N : Nat} {Y : Nat → Nat} {bd : Nat × Nat × Nat} {hs : List Nat} {σ : PS} {A : AS} {f : Nat → Nat} {m : Nat} {g : Nat → Nat} {rf : Nat → Nat → Nat} (h : CRx N Y bd hs σ A f m g rf) {i : Nat} (hi : i < 2 * N + 2) {v : Int32} : CRx N Y bd hs (pfi σ 385 (Y (100 + i)) v) (set1 A 6 i v) f m g rf := by
  obtain ⟨h1, h2, ⟨s1, s2, s3, s4, s5, s6, s7⟩, h4, h5, h6, h7, h8, h9, h10⟩ := h
  refine ⟨h1, h2, ⟨s1, fun j hj => ?_, s3, s4, s5, s6, s7⟩, h4, h5, h6, h7, h8, h9, h10⟩
  rw [fi_pfi, sv_set1]
  by_cases e : j = i
  · subst e; rw [if_pos ⟨rfl, rfl⟩, if_pos ⟨rfl, rfl⟩]
  · rw [if_neg (fun z => e (h1.2.2.2.2.2.2.2.1 j i hj hi z.2)), if_neg (fun z => e z.2)]; exact s2 j hj
theorem cw_386 {N : Nat} {Y : Nat → Nat} {bd : Nat × Nat × Nat} {hs : List Nat} {σ : PS} {A : AS} {f : Nat → Nat} {m : Nat} {g : Nat → Nat} {rf : Nat → Nat → Nat} (h : CRx N Y bd hs σ A f m g rf) {i : Nat} (hi : i < 2 * N + 2) {v : Int32} : CRx N Y bd hs (pfi σ 386 (Y (100 + i)) v) (set1 A 7 i v) f m g rf := by
  obtain ⟨h1, h2, ⟨s1, s2, s3, s4, s5, s6, s7⟩, h4, h5, h6, h7, h8, h9, h10⟩ := h
  refine ⟨h1, h2, ⟨s1, s2, fun j hj => ?_, s4, s5, s6, s7⟩, h4, h5, h6, h7, h8, h9, h10⟩
  rw [fi_pfi, sv_set1]
  by_cases e : j = i
  · subst e; rw [if_pos ⟨rfl, rfl⟩, if_pos ⟨rfl, rfl⟩]
  · rw [if_neg (fun z => e (h1.2.2.2.2.2.2.2.1 j i hj hi z.2)), if_neg (fun z => e z.2)]; exact s3 j hj
theorem cw_387 {N : Nat} {Y : Nat → Nat} {bd : Nat × Nat × Nat} {hs : List Nat} {σ : PS} {A : AS} {f : Nat → Nat} {m : Nat} {g : Nat → Nat} {rf : Nat → Nat → Nat} (h : CRx N Y bd hs σ A f m g rf) {i : Nat} (hi : i < 2 * N + 2) {v : Int32} : CRx N Y bd hs (pfi σ 387 (Y (100 + i)) v) (set1 A 8 i v) f m g rf := by
  obtain ⟨h1, h2, ⟨s1, s2, s3, s4, s5, s6, s7⟩, h4, h5, h6, h7, h8, h9, h10⟩ := h
  refine ⟨h1, h2, ⟨s1, s2, s3, fun j hj => ?_, s5, s6, s7⟩, h4, h5, h6, h7, h8, h9, h10⟩
  rw [fi_pfi, sv_set1]
  by_cases e : j = i
  · subst e; rw [if_pos ⟨rfl, rfl⟩, if_pos ⟨rfl, rfl⟩]
  · rw [if_neg (fun z => e (h1.2.2.2.2.2.2.2.1 j i hj hi z.2)), if_neg (fun z => e z.2)]; exact s4 j hj
theorem cw_388 {N : Nat} {Y : Nat → Nat} {bd : Nat × Nat × Nat} {hs : List Nat} {σ : PS} {A : AS} {f : Nat → Nat} {m : Nat} {g : Nat → Nat} {rf : Nat → Nat → Nat} (h : CRx N Y bd hs σ A f m g rf) {i : Nat} (hi : i < 2 * N + 2) {v : Int32} : CRx N Y bd hs (pfi σ 388 (Y (100 + i)) v) (set1 A 9 i v) f m g rf := by
  obtain ⟨h1, h2, ⟨s1, s2, s3, s4, s5, s6, s7⟩, h4, h5, h6, h7, h8, h9, h10⟩ := h
  refine ⟨h1, h2, ⟨s1, s2, s3, s4, fun j hj => ?_, s6, s7⟩, h4, h5, h6, h7, h8, h9, h10⟩
  rw [fi_pfi, sv_set1]
  by_cases e : j = i
  · subst e; rw [if_pos ⟨rfl, rfl⟩, if_pos ⟨rfl, rfl⟩]
  · rw [if_neg (fun z => e (h1.2.2.2.2.2.2.2.1 j i hj hi z.2)), if_neg (fun z => e z.2)]; exact s5 j hj
theorem cw_389 {N : Nat} {Y : Nat → Nat} {bd : Nat × Nat × Nat} {hs : List Nat} {σ : PS} {A : AS} {f : Nat → Nat} {m : Nat} {g : Nat → Nat} {rf : Nat → Nat → Nat} (h : CRx N Y bd hs σ A f m g rf) {i : Nat} (hi : i < 2 * N + 2) {v : Int32} : CRx N Y bd hs (pfi σ 389 (Y (100 + i)) v) (set1 A 10 i v) f m g rf := by
  obtain ⟨h1, h2, ⟨s1, s2, s3, s4, s5, s6, s7⟩, h4, h5, h6, h7, h8, h9, h10⟩ := h
  refine ⟨h1, h2, ⟨s1, s2, s3, s4, s5, fun j hj => ?_, s7⟩, h4, h5, h6, h7, h8, h9, h10⟩
  rw [fi_pfi, sv_set1]
  by_cases e : j = i
  · subst e; rw [if_pos ⟨rfl, rfl⟩, if_pos ⟨rfl, rfl⟩]
  · rw [if_neg (fun z => e (h1.2.2.2.2.2.2.2.1 j i hj hi z.2)), if_neg (fun z => e z.2)]; exact s6 j hj
theorem cw_390 {N : Nat} {Y : Nat → Nat} {bd : Nat × Nat × Nat} {hs : List Nat} {σ : PS} {A : AS} {f : Nat → Nat} {m : Nat} {g : Nat → Nat} {rf : Nat → Nat → Nat} (h : CRx N Y bd hs σ A f m g rf) {i : Nat} (hi : i < 2 * N + 2) {v : Int32} : CRx N Y bd hs (pfi σ 390 (Y (100 + i)) v) (set1 A 11 i v) f m g rf := by
  obtain ⟨h1, h2, ⟨s1, s2, s3, s4, s5, s6, s7⟩, h4, h5, h6, h7, h8, h9, h10⟩ := h
  refine ⟨h1, h2, ⟨s1, s2, s3, s4, s5, s6, fun j hj => ?_⟩, h4, h5, h6, h7, h8, h9, h10⟩
  rw [fi_pfi, sv_set1]
  by_cases e : j = i
  · subst e; rw [if_pos ⟨rfl, rfl⟩, if_pos ⟨rfl, rfl⟩]
  · rw [if_neg (fun z => e (h1.2.2.2.2.2.2.2.1 j i hj hi z.2)), if_neg (fun z => e z.2)]; exact s7 j hj
theorem cw_64 {N : Nat} {Y : Nat → Nat} {bd : Nat × Nat × Nat} {hs : List Nat} {σ : PS} {A : AS} {f : Nat → Nat} {m : Nat} {g : Nat → Nat} {rf : Nat → Nat → Nat} (h : CRx N Y bd hs σ A f m g rf) {i : Nat} (hi : i < N) {v : Int32} : CRx N Y bd hs (pfi σ 64 (Y (200 + i)) v) (set1 A 17 i v) f m g rf := by
  obtain ⟨h1, h2, h3, ⟨s1, s2, s3, s4, s5, s6, s7, s8, s9, s10⟩, h5, h6, h7, h8, h9, h10⟩ := h
  refine ⟨h1, h2, h3, ⟨fun j hj => ?_, s2, s3, s4, s5, s6, s7, s8, s9, s10⟩, h5, h6, h7, h8, h9, h10⟩
  rw [fi_pfi, sv_set1]
  by_cases e : j = i
  · subst e; rw [if_pos ⟨rfl, rfl⟩, if_pos ⟨rfl, rfl⟩]
  · rw [if_neg (fun z => e (h1.2.2.2.2.2.2.2.2.1 j i hj hi z.2)), if_neg (fun z => e z.2)]; exact s1 j hj
theorem cw_65 {N : Nat} {Y : Nat → Nat} {bd : Nat × Nat × Nat} {hs : List Nat} {σ : PS} {A : AS} {f : Nat → Nat} {m : Nat} {g : Nat → Nat} {rf : Nat → Nat → Nat} (h : CRx N Y bd hs σ A f m g rf) {i : Nat} (hi : i < N) {v : Int32} : CRx N Y bd hs (pfi σ 65 (Y (200 + i)) v) (set1 A 12 i v) f m g rf := by
  obtain ⟨h1, h2, h3, ⟨s1, s2, s3, s4, s5, s6, s7, s8, s9, s10⟩, h5, h6, h7, h8, h9, h10⟩ := h
  refine ⟨h1, h2, h3, ⟨s1, fun j hj => ?_, s3, s4, s5, s6, s7, s8, s9, s10⟩, h5, h6, h7, h8, h9, h10⟩
  rw [fi_pfi, sv_set1]
  by_cases e : j = i
  · subst e; rw [if_pos ⟨rfl, rfl⟩, if_pos ⟨rfl, rfl⟩]
  · rw [if_neg (fun z => e (h1.2.2.2.2.2.2.2.2.1 j i hj hi z.2)), if_neg (fun z => e z.2)]; exact s2 j hj
theorem cw_66 {N : Nat} {Y : Nat → Nat} {bd : Nat × Nat × Nat} {hs : List Nat} {σ : PS} {A : AS} {f : Nat → Nat} {m : Nat} {g : Nat → Nat} {rf : Nat → Nat → Nat} (h : CRx N Y bd hs σ A f m g rf) {i : Nat} (hi : i < N) {v : Int32} : CRx N Y bd hs (pfi σ 66 (Y (200 + i)) v) (set1 A 13 i v) f m g rf := by
  obtain ⟨h1, h2, h3, ⟨s1, s2, s3, s4, s5, s6, s7, s8, s9, s10⟩, h5, h6, h7, h8, h9, h10⟩ := h
  refine ⟨h1, h2, h3, ⟨s1, s2, fun j hj => ?_, s4, s5, s6, s7, s8, s9, s10⟩, h5, h6, h7, h8, h9, h10⟩
  rw [fi_pfi, sv_set1]
  by_cases e : j = i
  · subst e; rw [if_pos ⟨rfl, rfl⟩, if_pos ⟨rfl, rfl⟩]
  · rw [if_neg (fun z => e (h1.2.2.2.2.2.2.2.2.1 j i hj hi z.2)), if_neg (fun z => e z.2)]; exact s3 j hj
theorem cw_67 {N : Nat} {Y : Nat → Nat} {bd : Nat × Nat × Nat} {hs : List Nat} {σ : PS} {A : AS} {f : Nat → Nat} {m : Nat} {g : Nat → Nat} {rf : Nat → Nat → Nat} (h : CRx N Y bd hs σ A f m g rf) {i : Nat} (hi : i < N) {v : Int32} : CRx N Y bd hs (pfi σ 67 (Y (200 + i)) v) (set1 A 15 i v) f m g rf := by
  obtain ⟨h1, h2, h3, ⟨s1, s2, s3, s4, s5, s6, s7, s8, s9, s10⟩, h5, h6, h7, h8, h9, h10⟩ := h
  refine ⟨h1, h2, h3, ⟨s1, s2, s3, fun j hj => ?_, s5, s6, s7, s8, s9, s10⟩, h5, h6, h7, h8, h9, h10⟩
  rw [fi_pfi, sv_set1]
  by_cases e : j = i
  · subst e; rw [if_pos ⟨rfl, rfl⟩, if_pos ⟨rfl, rfl⟩]
  · rw [if_neg (fun z => e (h1.2.2.2.2.2.2.2.2.1 j i hj hi z.2)), if_neg (fun z => e z.2)]; exact s4 j hj
theorem cw_68 {N : Nat} {Y : Nat → Nat} {bd : Nat × Nat × Nat} {hs : List Nat} {σ : PS} {A : AS} {f : Nat → Nat} {m : Nat} {g : Nat → Nat} {rf : Nat → Nat → Nat} (h : CRx N Y bd hs σ A f m g rf) {i : Nat} (hi : i < N) {v : Int32} : CRx N Y bd hs (pfi σ 68 (Y (200 + i)) v) (set1 A 16 i v) f m g rf := by
  obtain ⟨h1, h2, h3, ⟨s1, s2, s3, s4, s5, s6, s7, s8, s9, s10⟩, h5, h6, h7, h8, h9, h10⟩ := h
  refine ⟨h1, h2, h3, ⟨s1, s2, s3, s4, fun j hj => ?_, s6, s7, s8, s9, s10⟩, h5, h6, h7, h8, h9, h10⟩
  rw [fi_pfi, sv_set1]
  by_cases e : j = i
  · subst e; rw [if_pos ⟨rfl, rfl⟩, if_pos ⟨rfl, rfl⟩]
  · rw [if_neg (fun z => e (h1.2.2.2.2.2.2.2.2.1 j i hj hi z.2)), if_neg (fun z => e z.2)]; exact s5 j hj
theorem cw_69 {N : Nat} {Y : Nat → Nat} {bd : Nat × Nat × Nat} {hs : List Nat} {σ : PS} {A : AS} {f : Nat → Nat} {m : Nat} {g : Nat → Nat} {rf : Nat → Nat → Nat} (h : CRx N Y bd hs σ A f m g rf) {i : Nat} (hi : i < N) {v : Int32} : CRx N Y bd hs (pfi σ 69 (Y (200 + i)) v) (set1 A 18 i v) f m g rf := by
  obtain ⟨h1, h2, h3, ⟨s1, s2, s3, s4, s5, s6, s7, s8, s9, s10⟩, h5, h6, h7, h8, h9, h10⟩ := h
  refine ⟨h1, h2, h3, ⟨s1, s2, s3, s4, s5, fun j hj => ?_, s7, s8, s9, s10⟩, h5, h6, h7, h8, h9, h10⟩
  rw [fi_pfi, sv_set1]
  by_cases e : j = i
  · subst e; rw [if_pos ⟨rfl, rfl⟩, if_pos ⟨rfl, rfl⟩]
  · rw [if_neg (fun z => e (h1.2.2.2.2.2.2.2.2.1 j i hj hi z.2)), if_neg (fun z => e z.2)]; exact s6 j hj
theorem cw_70 {N : Nat} {Y : Nat → Nat} {bd : Nat × Nat × Nat} {hs : List Nat} {σ : PS} {A : AS} {f : Nat → Nat} {m : Nat} {g : Nat → Nat} {rf : Nat → Nat → Nat} (h : CRx N Y bd hs σ A f m g rf) {i : Nat} (hi : i < N) {v : Int32} : CRx N Y bd hs (pfi σ 70 (Y (200 + i)) v) (set1 A 19 i v) f m g rf := by
  obtain ⟨h1, h2, h3, ⟨s1, s2, s3, s4, s5, s6, s7, s8, s9, s10⟩, h5, h6, h7, h8, h9, h10⟩ := h
  refine ⟨h1, h2, h3, ⟨s1, s2, s3, s4, s5, s6, fun j hj => ?_, s8, s9, s10⟩, h5, h6, h7, h8, h9, h10⟩
  rw [fi_pfi, sv_set1]
  by_cases e : j = i
  · subst e; rw [if_pos ⟨rfl, rfl⟩, if_pos ⟨rfl, rfl⟩]
  · rw [if_neg (fun z => e (h1.2.2.2.2.2.2.2.2.1 j i hj hi z.2)), if_neg (fun z => e z.2)]; exact s7 j hj
theorem cw_71 {N : Nat} {Y : Nat → Nat} {bd : Nat × Nat × Nat} {hs : List Nat} {σ : PS} {A : AS} {f : Nat → Nat} {m : Nat} {g : Nat → Nat} {rf : Nat → Nat → Nat} (h : CRx N Y bd hs σ A f m g rf) {i : Nat} (hi : i < N) {v : Int32} : CRx N Y bd hs (pfi σ 71 (Y (200 + i)) v) (set1 A 14 i v) f m g rf := by
  obtain ⟨h1, h2, h3, ⟨s1, s2, s3, s4, s5, s6, s7, s8, s9, s10⟩, h5, h6, h7, h8, h9, h10⟩ := h
  refine ⟨h1, h2, h3, ⟨s1, s2, s3, s4, s5, s6, s7, fun j hj => ?_, s9, s10⟩, h5, h6, h7, h8, h9, h10⟩
  rw [fi_pfi, sv_set1]
  by_cases e : j = i
  · subst e; rw [if_pos ⟨rfl, rfl⟩, if_pos ⟨rfl, rfl⟩]
  · rw [if_neg (fun z => e (h1.2.2.2.2.2.2.2.2.1 j i hj hi z.2)), if_neg (fun z => e z.2)]; exact s8 j hj
theorem cw_72 {N : Nat} {Y : Nat → Nat} {bd : Nat × Nat × Nat} {hs : List Nat} {σ : PS} {A : AS} {f : Nat → Nat} {m : Nat} {g : Nat → Nat} {rf : Nat → Nat → Nat} (h : CRx N Y bd hs σ A f m g rf) {i : Nat} (hi : i < N) {v : Int32} : CRx N Y bd hs (pfi σ 72 (Y (200 + i)) v) (set1 A 20 i v) f m g rf := by
  obtain ⟨h1, h2, h3, ⟨s1, s2, s3, s4, s5, s6, s7, s8, s9, s10⟩, h5, h6, h7, h8, h9, h10⟩ := h
  refine ⟨h1, h2, h3, ⟨s1, s2, s3, s4, s5, s6, s7, s8, fun j hj => ?_, s10⟩, h5, h6, h7, h8, h9, h10⟩
  rw [fi_pfi, sv_set1]
  by_cases e : j = i
  · subst e; rw [if_pos ⟨rfl, rfl⟩, if_pos ⟨rfl, rfl⟩]
  · rw [if_neg (fun z => e (h1.2.2.2.2.2.2.2.2.1 j i hj hi z.2)), if_neg (fun z => e z.2)]; exact s9 j hj
theorem cw_73 {N : Nat} {Y : Nat → Nat} {bd : Nat × Nat × Nat} {hs : List Nat} {σ : PS} {A : AS} {f : Nat → Nat} {m : Nat} {g : Nat → Nat} {rf : Nat → Nat → Nat} (h : CRx N Y bd hs σ A f m g rf) {i : Nat} (hi : i < N) {v : Int32} : CRx N Y bd hs (pfi σ 73 (Y (200 + i)) v) (set1 A 21 i v) f m g rf := by
  obtain ⟨h1, h2, h3, ⟨s1, s2, s3, s4, s5, s6, s7, s8, s9, s10⟩, h5, h6, h7, h8, h9, h10⟩ := h
  refine ⟨h1, h2, h3, ⟨s1, s2, s3, s4, s5, s6, s7, s8, s9, fun j hj => ?_⟩, h5, h6, h7, h8, h9, h10⟩
  rw [fi_pfi, sv_set1]
  by_cases e : j = i
  · subst e; rw [if_pos ⟨rfl, rfl⟩, if_pos ⟨rfl, rfl⟩]
  · rw [if_neg (fun z => e (h1.2.2.2.2.2.2.2.2.1 j i hj hi z.2)), if_neg (fun z => e z.2)]; exact s10 j hj
theorem cl_192 {N : Nat} {Y : Nat → Nat} {bd : Nat × Nat × Nat} {hs : List Nat} {σ : PS} {A : AS} {f : Nat → Nat} {m : Nat} {g : Nat → Nat} {rf : Nat → Nat → Nat} (h : CRx N Y bd hs σ A f m g rf) {i : Nat} (hi : i < ln A) {v : Int32} : CRx N Y bd hs (pfi σ 192 (f i) v) (set1 A 29 i v) f m g rf := by
  obtain ⟨h1, h2, h3, h4, h5, ⟨a1, a2, a3, a4, a5, a6⟩, h7, h8, h9, h10⟩ := h
  refine ⟨h1, h2, h3, h4, h5, ⟨a1, a2, fun j hj => ?_, a4, a5, a6⟩, h7, h8, h9, h10⟩
  obtain ⟨t, ⟨s1, s2, s3, s4, s5, s6, s7, s8, s9, s10, s11⟩⟩ := a3 j hj
  refine ⟨t, ⟨?_, s2, s3, s4, s5, s6, s7, s8, s9, s10, s11⟩⟩
  rw [fi_pfi, sv_set1]
  by_cases e : j = i
  · subst e; rw [if_pos ⟨rfl, rfl⟩, if_pos ⟨rfl, rfl⟩]
  · rw [if_neg (fun z => e (a5 j i hj hi z.2)), if_neg (fun z => e z.2)]; exact s1
theorem ch_192 {N : Nat} {Y : Nat → Nat} {bd : Nat × Nat × Nat} {hs : List Nat} {σ : PS} {A : AS} {f : Nat → Nat} {m : Nat} {g : Nat → Nat} {rf : Nat → Nat → Nat} (h : CRx N Y bd hs σ A f m g rf) {l : Nat} (hl : l ∈ hs) {v : Int32} : CRx N Y bd hs (pfi σ 192 l v) A f m g rf := by
  obtain ⟨h1, h2, h3, h4, h5, ⟨a1, a2, a3, a4, a5, a6, a7, a8, a9⟩, h7, h8, h9, h10⟩ := h
  refine ⟨h1, h2, h3, h4, h5, ⟨a1, a2, fun j hj => ?_, a4, a5, a6, a7, a8, a9⟩, h7, h8, h9, h10⟩
  obtain ⟨t, ⟨s1, s2, s3, s4, s5, s6, s7, s8, s9, s10, s11⟩⟩ := a3 j hj
  refine ⟨t, ⟨?_, s2, s3, s4, s5, s6, s7, s8, s9, s10, s11⟩⟩
  rw [fi_pfi, if_neg (fun z => (a8 l hl).2.1 j hj z.2)]; exact s1
theorem cl_193 {N : Nat} {Y : Nat → Nat} {bd : Nat × Nat × Nat} {hs : List Nat} {σ : PS} {A : AS} {f : Nat → Nat} {m : Nat} {g : Nat → Nat} {rf : Nat → Nat → Nat} (h : CRx N Y bd hs σ A f m g rf) {i : Nat} (hi : i < ln A) {v : Int32} : CRx N Y bd hs (pfi σ 193 (f i) v) (set1 A 31 i v) f m g rf := by
  obtain ⟨h1, h2, h3, h4, h5, ⟨a1, a2, a3, a4, a5, a6⟩, h7, h8, h9, h10⟩ := h
  refine ⟨h1, h2, h3, h4, h5, ⟨a1, a2, fun j hj => ?_, a4, a5, a6⟩, h7, h8, h9, h10⟩
  obtain ⟨t, ⟨s1, s2, s3, s4, s5, s6, s7, s8, s9, s10, s11⟩⟩ := a3 j hj
  refine ⟨t, ⟨s1, ?_, s3, s4, s5, s6, s7, s8, s9, s10, s11⟩⟩
  rw [fi_pfi, sv_set1]
  by_cases e : j = i
  · subst e; rw [if_pos ⟨rfl, rfl⟩, if_pos ⟨rfl, rfl⟩]
  · rw [if_neg (fun z => e (a5 j i hj hi z.2)), if_neg (fun z => e z.2)]; exact s2
theorem ch_193 {N : Nat} {Y : Nat → Nat} {bd : Nat × Nat × Nat} {hs : List Nat} {σ : PS} {A : AS} {f : Nat → Nat} {m : Nat} {g : Nat → Nat} {rf : Nat → Nat → Nat} (h : CRx N Y bd hs σ A f m g rf) {l : Nat} (hl : l ∈ hs) {v : Int32} : CRx N Y bd hs (pfi σ 193 l v) A f m g rf := by
  obtain ⟨h1, h2, h3, h4, h5, ⟨a1, a2, a3, a4, a5, a6, a7, a8, a9⟩, h7, h8, h9, h10⟩ := h
  refine ⟨h1, h2, h3, h4, h5, ⟨a1, a2, fun j hj => ?_, a4, a5, a6, a7, a8, a9⟩, h7, h8, h9, h10⟩
  obtain ⟨t, ⟨s1, s2, s3, s4, s5, s6, s7, s8, s9, s10, s11⟩⟩ := a3 j hj
  refine ⟨t, ⟨s1, ?_, s3, s4, s5, s6, s7, s8, s9, s10, s11⟩⟩
  rw [fi_pfi, if_neg (fun z => (a8 l hl).2.1 j hj z.2)]; exact s2
theorem cl_194 {N : Nat} {Y : Nat → Nat} {bd : Nat × Nat × Nat} {hs : List Nat} {σ : PS} {A : AS} {f : Nat → Nat} {m : Nat} {g : Nat → Nat} {rf : Nat → Nat → Nat} (h : CRx N Y bd hs σ A f m g rf) {i : Nat} (hi : i < ln A) {v : Int32} : CRx N Y bd hs (pfi σ 194 (f i) v) (set1 A 30 i v) f m g rf := by
  obtain ⟨h1, h2, h3, h4, h5, ⟨a1, a2, a3, a4, a5, a6⟩, h7, h8, h9, h10⟩ := h
  refine ⟨h1, h2, h3, h4, h5, ⟨a1, a2, fun j hj => ?_, a4, a5, a6⟩, h7, h8, h9, h10⟩
  obtain ⟨t, ⟨s1, s2, s3, s4, s5, s6, s7, s8, s9, s10, s11⟩⟩ := a3 j hj
  refine ⟨t, ⟨s1, s2, ?_, s4, s5, s6, s7, s8, s9, s10, s11⟩⟩
  rw [fi_pfi, sv_set1]
  by_cases e : j = i
  · subst e; rw [if_pos ⟨rfl, rfl⟩, if_pos ⟨rfl, rfl⟩]
  · rw [if_neg (fun z => e (a5 j i hj hi z.2)), if_neg (fun z => e z.2)]; exact s3
theorem ch_194 {N : Nat} {Y : Nat → Nat} {bd : Nat × Nat × Nat} {hs : List Nat} {σ : PS} {A : AS} {f : Nat → Nat} {m : Nat} {g : Nat → Nat} {rf : Nat → Nat → Nat} (h : CRx N Y bd hs σ A f m g rf) {l : Nat} (hl : l ∈ hs) {v : Int32} : CRx N Y bd hs (pfi σ 194 l v) A f m g rf := by
  obtain ⟨h1, h2, h3, h4, h5, ⟨a1, a2, a3, a4, a5, a6, a7, a8, a9⟩, h7, h8, h9, h10⟩ := h
  refine ⟨h1, h2, h3, h4, h5, ⟨a1, a2, fun j hj => ?_, a4, a5, a6, a7, a8, a9⟩, h7, h8, h9, h10⟩
  obtain ⟨t, ⟨s1, s2, s3, s4, s5, s6, s7, s8, s9, s10, s11⟩⟩ := a3 j hj
  refine ⟨t, ⟨s1, s2, ?_, s4, s5, s6, s7, s8, s9, s10, s11⟩⟩
  rw [fi_pfi, if_neg (fun z => (a8 l hl).2.1 j hj z.2)]; exact s3
theorem cl_195 {N : Nat} {Y : Nat → Nat} {bd : Nat × Nat × Nat} {hs : List Nat} {σ : PS} {A : AS} {f : Nat → Nat} {m : Nat} {g : Nat → Nat} {rf : Nat → Nat → Nat} (h : CRx N Y bd hs σ A f m g rf) {i : Nat} (hi : i < ln A) {v : Int32} : CRx N Y bd hs (pfi σ 195 (f i) v) (set1 A 32 i v) f m g rf := by
  obtain ⟨h1, h2, h3, h4, h5, ⟨a1, a2, a3, a4, a5, a6⟩, h7, h8, h9, h10⟩ := h
  refine ⟨h1, h2, h3, h4, h5, ⟨a1, a2, fun j hj => ?_, a4, a5, a6⟩, h7, h8, h9, h10⟩
  obtain ⟨t, ⟨s1, s2, s3, s4, s5, s6, s7, s8, s9, s10, s11⟩⟩ := a3 j hj
  refine ⟨t, ⟨s1, s2, s3, ?_, s5, s6, s7, s8, s9, s10, s11⟩⟩
  rw [fi_pfi, sv_set1]
  by_cases e : j = i
  · subst e; rw [if_pos ⟨rfl, rfl⟩, if_pos ⟨rfl, rfl⟩]
  · rw [if_neg (fun z => e (a5 j i hj hi z.2)), if_neg (fun z => e z.2)]; exact s4
theorem ch_195 {N : Nat} {Y : Nat → Nat} {bd : Nat × Nat × Nat} {hs : List Nat} {σ : PS} {A : AS} {f : Nat → Nat} {m : Nat} {g : Nat → Nat} {rf : Nat → Nat → Nat} (h : CRx N Y bd hs σ A f m g rf) {l : Nat} (hl : l ∈ hs) {v : Int32} : CRx N Y bd hs (pfi σ 195 l v) A f m g rf := by
  obtain ⟨h1, h2, h3, h4, h5, ⟨a1, a2, a3, a4, a5, a6, a7, a8, a9⟩, h7, h8, h9, h10⟩ := h
  refine ⟨h1, h2, h3, h4, h5, ⟨a1, a2, fun j hj => ?_, a4, a5, a6, a7, a8, a9⟩, h7, h8, h9, h10⟩
  obtain ⟨t, ⟨s1, s2, s3, s4, s5, s6, s7, s8, s9, s10, s11⟩⟩ := a3 j hj
  refine ⟨t, ⟨s1, s2, s3, ?_, s5, s6, s7, s8, s9, s10, s11⟩⟩
  rw [fi_pfi, if_neg (fun z => (a8 l hl).2.1 j hj z.2)]; exact s4
theorem cl_196 {N : Nat} {Y : Nat → Nat} {bd : Nat × Nat × Nat} {hs : List Nat} {σ : PS} {A : AS} {f : Nat → Nat} {m : Nat} {g : Nat → Nat} {rf : Nat → Nat → Nat} (h : CRx N Y bd hs σ A f m g rf) {i : Nat} (hi : i < ln A) {v : Int32} : CRx N Y bd hs (pfi σ 196 (f i) v) (set1 A 33 i v) f m g rf := by
  obtain ⟨h1, h2, h3, h4, h5, ⟨a1, a2, a3, a4, a5, a6⟩, h7, h8, h9, h10⟩ := h
  refine ⟨h1, h2, h3, h4, h5, ⟨a1, a2, fun j hj => ?_, a4, a5, a6⟩, h7, h8, h9, h10⟩
  obtain ⟨t, ⟨s1, s2, s3, s4, s5, s6, s7, s8, s9, s10, s11⟩⟩ := a3 j hj
  refine ⟨t, ⟨s1, s2, s3, s4, ?_, s6, s7, s8, s9, s10, s11⟩⟩
  rw [fi_pfi, sv_set1]
  by_cases e : j = i
  · subst e; rw [if_pos ⟨rfl, rfl⟩, if_pos ⟨rfl, rfl⟩]
  · rw [if_neg (fun z => e (a5 j i hj hi z.2)), if_neg (fun z => e z.2)]; exact s5
theorem ch_196 {N : Nat} {Y : Nat → Nat} {bd : Nat × Nat × Nat} {hs : List Nat} {σ : PS} {A : AS} {f : Nat → Nat} {m : Nat} {g : Nat → Nat} {rf : Nat → Nat → Nat} (h : CRx N Y bd hs σ A f m g rf) {l : Nat} (hl : l ∈ hs) {v : Int32} : CRx N Y bd hs (pfi σ 196 l v) A f m g rf := by
  obtain ⟨h1, h2, h3, h4, h5, ⟨a1, a2, a3, a4, a5, a6, a7, a8, a9⟩, h7, h8, h9, h10⟩ := h
  refine ⟨h1, h2, h3, h4, h5, ⟨a1, a2, fun j hj => ?_, a4, a5, a6, a7, a8, a9⟩, h7, h8, h9, h10⟩
  obtain ⟨t, ⟨s1, s2, s3, s4, s5, s6, s7, s8, s9, s10, s11⟩⟩ := a3 j hj
  refine ⟨t, ⟨s1, s2, s3, s4, ?_, s6, s7, s8, s9, s10, s11⟩⟩
  rw [fi_pfi, if_neg (fun z => (a8 l hl).2.1 j hj z.2)]; exact s5
theorem cl_197 {N : Nat} {Y : Nat → Nat} {bd : Nat × Nat × Nat} {hs : List Nat} {σ : PS} {A : AS} {f : Nat → Nat} {m : Nat} {g : Nat → Nat} {rf : Nat → Nat → Nat} (h : CRx N Y bd hs σ A f m g rf) {i : Nat} (hi : i < ln A) {v : Int32} : CRx N Y bd hs (pfi σ 197 (f i) v) (set1 A 34 i v) f m g rf := by
  obtain ⟨h1, h2, h3, h4, h5, ⟨a1, a2, a3, a4, a5, a6⟩, h7, h8, h9, h10⟩ := h
  refine ⟨h1, h2, h3, h4, h5, ⟨a1, a2, fun j hj => ?_, a4, a5, a6⟩, h7, h8, h9, h10⟩
  obtain ⟨t, ⟨s1, s2, s3, s4, s5, s6, s7, s8, s9, s10, s11⟩⟩ := a3 j hj
  refine ⟨t, ⟨s1, s2, s3, s4, s5, ?_, s7, s8, s9, s10, s11⟩⟩
  rw [fi_pfi, sv_set1]
  by_cases e : j = i
  · subst e; rw [if_pos ⟨rfl, rfl⟩, if_pos ⟨rfl, rfl⟩]
  · rw [if_neg (fun z => e (a5 j i hj hi z.2)), if_neg (fun z => e z.2)]; exact s6
theorem ch_197 {N : Nat} {Y : Nat → Nat} {bd : Nat × Nat × Nat} {hs : List Nat} {σ : PS} {A : AS} {f : Nat → Nat} {m : Nat} {g : Nat → Nat} {rf : Nat → Nat → Nat} (h : CRx N Y bd hs σ A f m g rf) {l : Nat} (hl : l ∈ hs) {v : Int32} : CRx N Y bd hs (pfi σ 197 l v) A f m g rf := by
  obtain ⟨h1, h2, h3, h4, h5, ⟨a1, a2, a3, a4, a5, a6, a7, a8, a9⟩, h7, h8, h9, h10⟩ := h
  refine ⟨h1, h2, h3, h4, h5, ⟨a1, a2, fun j hj => ?_, a4, a5, a6, a7, a8, a9⟩, h7, h8, h9, h10⟩
  obtain ⟨t, ⟨s1, s2, s3, s4, s5, s6, s7, s8, s9, s10, s11⟩⟩ := a3 j hj
  refine ⟨t, ⟨s1, s2, s3, s4, s5, ?_, s7, s8, s9, s10, s11⟩⟩
  rw [fi_pfi, if_neg (fun z => (a8 l hl).2.1 j hj z.2)]; exact s6
theorem cl_198 {N : Nat} {Y : Nat → Nat} {bd : Nat × Nat × Nat} {hs : List Nat} {σ : PS} {A : AS} {f : Nat → Nat} {m : Nat} {g : Nat → Nat} {rf : Nat → Nat → Nat} (h : CRx N Y bd hs σ A f m g rf) {i : Nat} (hi : i < ln A) {v : Int32} : CRx N Y bd hs (pfi σ 198 (f i) v) (set1 A 35 i v) f m g rf := by
  obtain ⟨h1, h2, h3, h4, h5, ⟨a1, a2, a3, a4, a5, a6⟩, h7, h8, h9, h10⟩ := h
  refine ⟨h1, h2, h3, h4, h5, ⟨a1, a2, fun j hj => ?_, a4, a5, a6⟩, h7, h8, h9, h10⟩
  obtain ⟨t, ⟨s1, s2, s3, s4, s5, s6, s7, s8, s9, s10, s11⟩⟩ := a3 j hj
  refine ⟨t, ⟨s1, s2, s3, s4, s5, s6, ?_, s8, s9, s10, s11⟩⟩
  rw [fi_pfi, sv_set1]
  by_cases e : j = i
  · subst e; rw [if_pos ⟨rfl, rfl⟩, if_pos ⟨rfl, rfl⟩]
  · rw [if_neg (fun z => e (a5 j i hj hi z.2)), if_neg (fun z => e z.2)]; exact s7
theorem ch_198 {N : Nat} {Y : Nat → Nat} {bd : Nat × Nat × Nat} {hs : List Nat} {σ : PS} {A : AS} {f : Nat → Nat} {m : Nat} {g : Nat → Nat} {rf : Nat → Nat → Nat} (h : CRx N Y bd hs σ A f m g rf) {l : Nat} (hl : l ∈ hs) {v : Int32} : CRx N Y bd hs (pfi σ 198 l v) A f m g rf := by
  obtain ⟨h1, h2, h3, h4, h5, ⟨a1, a2, a3, a4, a5, a6, a7, a8, a9⟩, h7, h8, h9, h10⟩ := h
  refine ⟨h1, h2, h3, h4, h5, ⟨a1, a2, fun j hj => ?_, a4, a5, a6, a7, a8, a9⟩, h7, h8, h9, h10⟩
  obtain ⟨t, ⟨s1, s2, s3, s4, s5, s6, s7, s8, s9, s10, s11⟩⟩ := a3 j hj
  refine ⟨t, ⟨s1, s2, s3, s4, s5, s6, ?_, s8, s9, s10, s11⟩⟩
  rw [fi_pfi, if_neg (fun z => (a8 l hl).2.1 j hj z.2)]; exact s7
theorem cl_199 {N : Nat} {Y : Nat → Nat} {bd : Nat × Nat × Nat} {hs : List Nat} {σ : PS} {A : AS} {f : Nat → Nat} {m : Nat} {g : Nat → Nat} {rf : Nat → Nat → Nat} (h : CRx N Y bd hs σ A f m g rf) {i : Nat} (hi : i < ln A) {v : Int32} : CRx N Y bd hs (pfi σ 199 (f i) v) (set1 A 36 i v) f m g rf := by
  obtain ⟨h1, h2, h3, h4, h5, ⟨a1, a2, a3, a4, a5, a6⟩, h7, h8, h9, h10⟩ := h
  refine ⟨h1, h2, h3, h4, h5, ⟨a1, a2, fun j hj => ?_, a4, a5, a6⟩, h7, h8, h9, h10⟩
  obtain ⟨t, ⟨s1, s2, s3, s4, s5, s6, s7, s8, s9, s10, s11⟩⟩ := a3 j hj
  refine ⟨t, ⟨s1, s2, s3, s4, s5, s6, s7, ?_, s9, s10, s11⟩⟩
  rw [fi_pfi, sv_set1]
  by_cases e : j = i
  · subst e; rw [if_pos ⟨rfl, rfl⟩, if_pos ⟨rfl, rfl⟩]
  · rw [if_neg (fun z => e (a5 j i hj hi z.2)), if_neg (fun z => e z.2)]; exact s8
theorem ch_199 {N : Nat} {Y : Nat → Nat} {bd : Nat × Nat × Nat} {hs : List Nat} {σ : PS} {A : AS} {f : Nat → Nat} {m : Nat} {g : Nat → Nat} {rf : Nat → Nat → Nat} (h : CRx N Y bd hs σ A f m g rf) {l : Nat} (hl : l ∈ hs) {v : Int32} : CRx N Y bd hs (pfi σ 199 l v) A f m g rf := by
  obtain ⟨h1, h2, h3, h4, h5, ⟨a1, a2, a3, a4, a5, a6, a7, a8, a9⟩, h7, h8, h9, h10⟩ := h
  refine ⟨h1, h2, h3, h4, h5, ⟨a1, a2, fun j hj => ?_, a4, a5, a6, a7, a8, a9⟩, h7, h8, h9, h10⟩
  obtain ⟨t, ⟨s1, s2, s3, s4, s5, s6, s7, s8, s9, s10, s11⟩⟩ := a3 j hj
  refine ⟨t, ⟨s1, s2, s3, s4, s5, s6, s7, ?_, s9, s10, s11⟩⟩
  rw [fi_pfi, if_neg (fun z => (a8 l hl).2.1 j hj z.2)]; exact s8
theorem cl_200 {N : Nat} {Y : Nat → Nat} {bd : Nat × Nat × Nat} {hs : List Nat} {σ : PS} {A : AS} {f : Nat → Nat} {m : Nat} {g : Nat → Nat} {rf : Nat → Nat → Nat} (h : CRx N Y bd hs σ A f m g rf) {i : Nat} (hi : i < ln A) {v : Int32} : CRx N Y bd hs (pfi σ 200 (f i) v) (set1 A 37 i v) f m g rf := by
  obtain ⟨h1, h2, h3, h4, h5, ⟨a1, a2, a3, a4, a5, a6⟩, h7, h8, h9, h10⟩ := h
  refine ⟨h1, h2, h3, h4, h5, ⟨a1, a2, fun j hj => ?_, a4, a5, a6⟩, h7, h8, h9, h10⟩
  obtain ⟨t, ⟨s1, s2, s3, s4, s5, s6, s7, s8, s9, s10, s11⟩⟩ := a3 j hj
  refine ⟨t, ⟨s1, s2, s3, s4, s5, s6, s7, s8, ?_, s10, s11⟩⟩
  rw [fi_pfi, sv_set1]
  by_cases e : j = i
  · subst e; rw [if_pos ⟨rfl, rfl⟩, if_pos ⟨rfl, rfl⟩]
  · rw [if_neg (fun z => e (a5 j i hj hi z.2)), if_neg (fun z => e z.2)]; exact s9
theorem ch_200 {N : Nat} {Y : Nat → Nat} {bd : Nat × Nat × Nat} {hs : List Nat} {σ : PS} {A : AS} {f : Nat → Nat} {m : Nat} {g : Nat → Nat} {rf : Nat → Nat → Nat} (h : CRx N Y bd hs σ A f m g rf) {l : Nat} (hl : l ∈ hs) {v : Int32} : CRx N Y bd hs (pfi σ 200 l v) A f m g rf := by
  obtain ⟨h1, h2, h3, h4, h5, ⟨a1, a2, a3, a4, a5, a6, a7, a8, a9⟩, h7, h8, h9, h10⟩ := h
  refine ⟨h1, h2, h3, h4, h5, ⟨a1, a2, fun j hj => ?_, a4, a5, a6, a7, a8, a9⟩, h7, h8, h9, h10⟩
  obtain ⟨t, ⟨s1, s2, s3, s4, s5, s6, s7, s8, s9, s10, s11⟩⟩ := a3 j hj
  refine ⟨t, ⟨s1, s2, s3, s4, s5, s6, s7, s8, ?_, s10, s11⟩⟩
  rw [fi_pfi, if_neg (fun z => (a8 l hl).2.1 j hj z.2)]; exact s9
theorem cl_201 {N : Nat} {Y : Nat → Nat} {bd : Nat × Nat × Nat} {hs : List Nat} {σ : PS} {A : AS} {f : Nat → Nat} {m : Nat} {g : Nat → Nat} {rf : Nat → Nat → Nat} (h : CRx N Y bd hs σ A f m g rf) {i : Nat} (hi : i < ln A) {v : Int32} : CRx N Y bd hs (pfi σ 201 (f i) v) (set1 A 38 i v) f m g rf := by
  obtain ⟨h1, h2, h3, h4, h5, ⟨a1, a2, a3, a4, a5, a6⟩, h7, h8, h9, h10⟩ := h
  refine ⟨h1, h2, h3, h4, h5, ⟨a1, a2, fun j hj => ?_, a4, a5, a6⟩, h7, h8, h9, h10⟩
  obtain ⟨t, ⟨s1, s2, s3, s4, s5, s6, s7, s8, s9, s10, s11⟩⟩ := a3 j hj
  refine ⟨t, ⟨s1, s2, s3, s4, s5, s6, s7, s8, s9, ?_, s11⟩⟩
  rw [fi_pfi, sv_set1]
  by_cases e : j = i
  · subst e; rw [if_pos ⟨rfl, rfl⟩, if_pos ⟨rfl, rfl⟩]
  · rw [if_neg (fun z => e (a5 j i hj hi z.2)), if_neg (fun z => e z.2)]; exact s10
theorem ch_201 {N : Nat} {Y : Nat → Nat} {bd : Nat × Nat × Nat} {hs : List Nat} {σ : PS} {A : AS} {f : Nat → Nat} {m : Nat} {g : Nat → Nat} {rf : Nat → Nat → Nat} (h : CRx N Y bd hs σ A f m g rf) {l : Nat} (hl : l ∈ hs) {v : Int32} : CRx N Y bd hs (pfi σ 201 l v) A f m g rf := by
  obtain ⟨h1, h2, h3, h4, h5, ⟨a1, a2, a3, a4, a5, a6, a7, a8, a9⟩, h7, h8, h9, h10⟩ := h
  refine ⟨h1, h2, h3, h4, h5, ⟨a1, a2, fun j hj => ?_, a4, a5, a6, a7, a8, a9⟩, h7, h8, h9, h10⟩
  obtain ⟨t, ⟨s1, s2, s3, s4, s5, s6, s7, s8, s9, s10, s11⟩⟩ := a3 j hj
  refine ⟨t, ⟨s1, s2, s3, s4, s5, s6, s7, s8, s9, ?_, s11⟩⟩
  rw [fi_pfi, if_neg (fun z => (a8 l hl).2.1 j hj z.2)]; exact s10
theorem cl_202 {N : Nat} {Y : Nat → Nat} {bd : Nat × Nat × Nat} {hs : List Nat} {σ : PS} {A : AS} {f : Nat → Nat} {m : Nat} {g : Nat → Nat} {rf : Nat → Nat → Nat} (h : CRx N Y bd hs σ A f m g rf) {i : Nat} (hi : i < ln A) {v : Int32} : CRx N Y bd hs (pfi σ 202 (f i) v) (set1 A 39 i v) f m g rf := by
  obtain ⟨h1, h2, h3, h4, h5, ⟨a1, a2, a3, a4, a5, a6⟩, h7, h8, h9, h10⟩ := h
  refine ⟨h1, h2, h3, h4, h5, ⟨a1, a2, fun j hj => ?_, a4, a5, a6⟩, h7, h8, h9, h10⟩
  obtain ⟨t, ⟨s1, s2, s3, s4, s5, s6, s7, s8, s9, s10, s11⟩⟩ := a3 j hj
  refine ⟨t, ⟨s1, s2, s3, s4, s5, s6, s7, s8, s9, s10, ?_⟩⟩
  rw [fi_pfi, sv_set1]
  by_cases e : j = i
  · subst e; rw [if_pos ⟨rfl, rfl⟩, if_pos ⟨rfl, rfl⟩]
  · rw [if_neg (fun z => e (a5 j i hj hi z.2)), if_neg (fun z => e z.2)]; exact s11
theorem ch_202 {N : Nat} {Y : Nat → Nat} {bd : Nat × Nat × Nat} {hs : List Nat} {σ : PS} {A : AS} {f : Nat → Nat} {m : Nat} {g : Nat → Nat} {rf : Nat → Nat → Nat} (h : CRx N Y bd hs σ A f m g rf) {l : Nat} (hl : l ∈ hs) {v : Int32} : CRx N Y bd hs (pfi σ 202 l v) A f m g rf := by
  obtain ⟨h1, h2, h3, h4, h5, ⟨a1, a2, a3, a4, a5, a6, a7, a8, a9⟩, h7, h8, h9, h10⟩ := h
  refine ⟨h1, h2, h3, h4, h5, ⟨a1, a2, fun j hj => ?_, a4, a5, a6, a7, a8, a9⟩, h7, h8, h9, h10⟩
  obtain ⟨t, ⟨s1, s2, s3, s4, s5, s6, s7, s8, s9, s10, s11⟩⟩ := a3 j hj
  refine ⟨t, ⟨s1, s2, s3, s4, s5, s6, s7, s8, s9, s10, ?_⟩⟩
  rw [fi_pfi, if_neg (fun z => (a8 l hl).2.1 j hj z.2)]; exact s11
theorem cw_time {N : Nat} {Y : Nat → Nat} {bd : Nat × Nat × Nat} {hs : List Nat} {σ : PS} {A : AS} {f : Nat → Nat} {m : Nat} {g : Nat → Nat} {rf : Nat → Nat → Nat} (h : CRx N Y bd hs σ A f m g rf) {v : Int32} : CRx N Y bd hs (pfi σ 458 (Y 0) v) (set1 A 4 0 v) f m g rf := by
  obtain ⟨h1, h2, h3, h4, ⟨s1, s2, s3, s4⟩, h6, h7, h8, h9, h10⟩ := h
  refine ⟨h1, h2, h3, h4, ⟨s1, s2, ?_, s4⟩, h6, h7, h8, h9, h10⟩
  rw [fi_pfi, sv_set1, if_pos ⟨rfl, rfl⟩, if_pos ⟨rfl, rfl⟩]
theorem cw_lapsed {N : Nat} {Y : Nat → Nat} {bd : Nat × Nat × Nat} {hs : List Nat} {σ : PS} {A : AS} {f : Nat → Nat} {m : Nat} {g : Nat → Nat} {rf : Nat → Nat → Nat} (h : CRx N Y bd hs σ A f m g rf) {c : Nat} {v : Int32} : CRx N Y bd hs (pai σ (Y 4) c v) (set1 A 27 c v) f m g rf := by
  obtain ⟨h1, h2, h3, h4, ⟨s1, s2, s3, s4⟩, h6, h7, h8, h9, h10⟩ := h
  refine ⟨h1, h2, h3, h4, ⟨s1, s2, s3, fun j hj => ?_⟩, h6, h7, h8, h9, h10⟩
  rw [ai_pai, sv_set1]
  by_cases e : j = c
  · subst e; rw [if_pos ⟨rfl, rfl⟩, if_pos ⟨rfl, rfl⟩]
  · rw [if_neg (fun z => e z.2), if_neg (fun z => e z.2)]; exact s4 j hj
theorem cw_130 {N : Nat} {Y : Nat → Nat} {bd : Nat × Nat × Nat} {hs : List Nat} {σ : PS} {A : AS} {f : Nat → Nat} {m : Nat} {g : Nat → Nat} {rf : Nat → Nat → Nat} (h : CRx N Y bd hs σ A f m g rf) {b : Nat} (hb : b < 2) {v : Int32} : CRx N Y bd hs (pfi σ 130 (Y (300 + b)) v) (set1 A 42 b v) f m g rf := by
  obtain ⟨h1, h2, h3, h4, h5, h6, h7, h8, h9, h10⟩ := h
  refine ⟨h1, h2, h3, h4, h5, h6, h7, fun j hj => ⟨?_, (h8 j hj).2⟩, h9, h10⟩
  rw [fi_pfi, sv_set1]
  by_cases e : j = b
  · subst e; rw [if_pos ⟨rfl, rfl⟩, if_pos ⟨rfl, rfl⟩]
  · rw [if_neg (fun z => e (h1.2.2.2.2.2.2.2.2.2.1 j b hj hb z.2)), if_neg (fun z => e z.2)]; exact (h8 j hj).1
theorem cw_act0 {N : Nat} {Y : Nat → Nat} {bd : Nat × Nat × Nat} {hs : List Nat} {σ : PS} {A : AS} {f : Nat → Nat} {m : Nat} {g : Nat → Nat} {rf : Nat → Nat → Nat} (h : CRx N Y bd hs σ A f m g rf) {b : Nat} (hb : b < 2) : CRx N Y bd hs (pfr σ 129 (Y (300 + b)) 0) (set1 A 40 b (-1)) f m g rf := by
  obtain ⟨h1, h2, h3, h4, h5, h6, h7, h8, h9, h10⟩ := h
  refine ⟨h1, h2, h3, h4, h5, h6, h7, fun j hj => ⟨(h8 j hj).1, ?_⟩, h9, h10⟩
  rw [fr_pfr, sv_set1]
  by_cases e : j = b
  · subst e; rw [if_pos ⟨rfl, rfl⟩, if_pos ⟨rfl, rfl⟩]; exact Or.inl ⟨rfl, rfl⟩
  · rw [if_neg (fun z => e (h1.2.2.2.2.2.2.2.2.2.1 j b hj hb z.2)), if_neg (fun z => e z.2)]; exact (h8 j hj).2
theorem cw_act {N : Nat} {Y : Nat → Nat} {bd : Nat × Nat × Nat} {hs : List Nat} {σ : PS} {A : AS} {f : Nat → Nat} {m : Nat} {g : Nat → Nat} {rf : Nat → Nat → Nat} (h : CRx N Y bd hs σ A f m g rf) {b r : Nat} (hb : b < 2) (hr : tg σ r = 6) (h0 : fi σ 320 r ≠ -1) : CRx N Y bd hs (pfr σ 129 (Y (300 + b)) r) (set1 (set1 (set1 A 40 b (fi σ 320 r)) 26 b (fi σ 321 r)) 41 b (fi σ 322 r)) f m g rf := by
  obtain ⟨h1, h2, h3, h4, h5, h6, h7, h8, h9, h10⟩ := h
  refine ⟨h1, h2, h3, h4, h5, h6, h7, fun j hj => ⟨(h8 j hj).1, ?_⟩, h9, h10⟩
  rw [fr_pfr]
  have q1 : sv (set1 (set1 (set1 A 40 b (fi σ 320 r)) 26 b (fi σ 321 r)) 41 b (fi σ 322 r)) 40 j = if j = b then fi σ 320 r else sv A 40 j := by simp [sv_set1]
  have q2 : sv (set1 (set1 (set1 A 40 b (fi σ 320 r)) 26 b (fi σ 321 r)) 41 b (fi σ 322 r)) 26 j = if j = b then fi σ 321 r else sv A 26 j := by simp [sv_set1]
  have q3 : sv (set1 (set1 (set1 A 40 b (fi σ 320 r)) 26 b (fi σ 321 r)) 41 b (fi σ 322 r)) 41 j = if j = b then fi σ 322 r else sv A 41 j := by simp [sv_set1]
  rw [q1, q2, q3]
  by_cases e : j = b
  · subst e; rw [if_pos ⟨rfl, rfl⟩, if_pos rfl, if_pos rfl, if_pos rfl]; exact Or.inr ⟨hr, rfl, rfl, rfl, h0⟩
  · rw [if_neg (fun z => e (h1.2.2.2.2.2.2.2.2.2.1 j b hj hb z.2)), if_neg e, if_neg e, if_neg e]; exact (h8 j hj).2
end
section
/-! what a list's own methods do to the picture -/
def isL (l : Nat) : Prop := l = 6 ∨ l = 7 ∨ l = 310 ∨ l = 311
theorem Lay.ne {N : Nat} {Y : Nat → Nat} {σ : PS} (h : Lay N Y σ) {l l' : Nat} (hl : isL l) (hl' : isL l') (hne : l ≠ l') : Y l ≠ Y l' := by
  obtain ⟨q1, q2, q3, q4, q5, q6⟩ := h.2.2.2.2.2.2.2.2.2.2
  rcases hl with rfl | rfl | rfl | rfl <;> rcases hl' with rfl | rfl | rfl | rfl <;> first | exact absurd rfl hne | assumption | exact Ne.symm (by assumption)
theorem LF.keepL {N : Nat} {Y : Nat → Nat} {σ σ' : PS} {l l' n : Nat} {f : Nat → Nat} (h : LF σ σ' (Y l)) (k : KP σ σ') (hF : FR σ) (hL : Lay N Y σ) (hd : DIS Y σ) (hl : isL l) (hl' : isL l') (hne : l' ≠ l) (hA : AL σ (Y l') n f) : AL σ' (Y l') n f := by
  obtain ⟨h1, h2, h3, h4, h5, h6, h7, h8⟩ := h
  have hy := hL.ne hl' hl hne
  refine k.keepL hF hA (h5 2 _ (Or.inl hy)) (h6 1 _ (Or.inl hy)) (fun j hj => ?_)
  obtain ⟨a1, a2, a3, a4, a5, a6, a7, a8, a9⟩ := hA
  have ht : tg σ (fr σ 1 (Y l')) = 102 := by
    rcases a8 with ⟨-, q⟩ | ⟨q, -⟩
    · omega
    · exact q
  exact h7 _ j a6 (hd l' l hl' hl hne ht)
theorem LF.dis {N : Nat} {Y : Nat → Nat} {σ σ' : PS} {l : Nat} (h : LF σ σ' (Y l)) (hL : Lay N Y σ) (hd : DIS Y σ) (hl : isL l) (hlt : ∀ l', isL l' → fr σ 1 (Y l') < nx σ) : DIS Y σ' := by
  obtain ⟨h1, h2, h3, h4, h5, h6, h7, h8⟩ := h
  intro a b ha hb hab ht
  have lo : ∀ c, isL c → c ≠ l → fr σ' 1 (Y c) = fr σ 1 (Y c) := fun c hc hne => h6 1 _ (Or.inl (hL.ne hc hl hne))
  by_cases ea : a = l
  · subst ea
    rw [lo b hb (Ne.symm hab)]
    rcases h8 with q | q
    · rw [q] at ht ⊢
      rw [(h3 _ (hlt a ha)).1] at ht
      exact hd a b ha hb hab ht
    · have := hlt b hb
      omega
  · rw [lo a ha ea] at ht ⊢
    rw [(h3 _ (hlt a ha)).1] at ht
    by_cases eb : b = l
    · subst eb
      rcases h8 with q | q
      · rw [q]; exact hd a b ha hb hab ht
      · have := hlt a ha
        omega
    · rw [lo b hb eb]; exact hd a b ha hb hab ht
theorem LF.capE {N : Nat} {Y : Nat → Nat} {σ σ' : PS} {l : Nat} (h : LF σ σ' (Y l)) (hL : Lay N Y σ) (hl : isL l) (hlt : ∀ l', isL l' → fr σ 1 (Y l') < nx σ) : caps Y σ' + al σ (fr σ 1 (Y l)) = caps Y σ + al σ' (fr σ' 1 (Y l)) := by
  obtain ⟨h1, h2, h3, h4, h5, h6, h7, h8⟩ := h
  have lo : ∀ c, isL c → c ≠ l → al σ' (fr σ' 1 (Y c)) = al σ (fr σ 1 (Y c)) := fun c hc hne => by
    rw [h6 1 _ (Or.inl (hL.ne hc hl hne)), (h3 _ (hlt c hc)).2]
  have c6 := lo 6 (Or.inl rfl)
  have c7 := lo 7 (Or.inr (Or.inl rfl))
  have c10 := lo 310 (Or.inr (Or.inr (Or.inl rfl)))
  have c11 := lo 311 (Or.inr (Or.inr (Or.inr rfl)))
  unfold caps
  rcases hl with rfl | rfl | rfl | rfl
  · rw [c7 (by omega), c10 (by omega), c11 (by omega)]; omega
  · rw [c6 (by omega), c10 (by omega), c11 (by omega)]; omega
  · rw [c6 (by omega), c7 (by omega), c11 (by omega)]; omega
  · rw [c6 (by omega), c7 (by omega), c10 (by omega)]; omega
section CRL
variable {N : Nat} {Y : Nat → Nat} {bd : Nat × Nat × Nat} {hs : List Nat} {σ σ' : PS} {A : AS} {f : Nat → Nat} {m : Nat} {g : Nat → Nat} {rf : Nat → Nat → Nat}
theorem CRx.lt (h : CRx N Y bd hs σ A f m g rf) : ∀ l, isL l → fr σ 1 (Y l) < nx σ := by
  obtain ⟨h1, h2, h3, h4, h5, h6, h7, h8, h9, h10⟩ := h
  intro l hl
  rcases hl with rfl | rfl | rfl | rfl
  · exact h6.1.2.2.2.2.2.1
  · exact h6.2.1.2.2.2.2.2.1
  · exact (h7 0 (by omega)).1.2.2.2.2.2.1
  · exact (h7 1 (by omega)).1.2.2.2.2.2.1
theorem AL.kind {l n : Nat} {f : Nat → Nat} (h : AL σ l n f) : tg σ (fr σ 1 l) = 102 ∨ tg σ (fr σ 1 l) = 99 := by
  rcases h.2.2.2.2.2.2.2.1 with q | q
  · exact Or.inr q.1
  · exact Or.inl q.1
theorem ror_kp (k : KP σ σ') (hF : FR σ) (h : ∀ b, b < 2 → AL σ' (Y (310 + b)) (rn A b) (rf b)) (h7 : ROR Y σ A rf) : ROR Y σ' A rf := by
  intro b hb
  refine ⟨h b hb, fun i hi => ?_⟩
  obtain ⟨q1, q2, q3, q4⟩ := (h7 b hb).2 i hi
  have y := hF.lt (r := rf b i) (by omega)
  obtain ⟨-, k2, -, k4, -⟩ := k
  rw [(k2 _ y).1, k4 _ _ y (by omega), k4 _ _ y (by omega), k4 _ _ y (by omega)]
  exact ⟨q1, q2, q3, q4⟩
theorem isL10 {b : Nat} (hb : b < 2) : isL (310 + b) := by
  unfold isL; omega
theorem RM.fr (h : FR σ) {l n i : Nat} {f : Nat → Nat} (hr : RM σ σ' l n i f) : FR σ' := by
  obtain ⟨L, n1, s1, e1, t1, hA⟩ := hr
  exact ⟨⟨by rw [n1]; exact h.1.1, by rw [t1]; exact h.1.2⟩, fun r hr => by rw [t1]; exact h.2 r (by omega)⟩
theorem ltr_rm {a i j : Nat} (h : if j < i then LTR σ a A j else LTR σ a A (j + 1)) : LTR σ a (rmL A i) j := by
  unfold LTR
  simp only [sv_rmL]
  by_cases e : j < i
  · rw [if_pos e] at h
    simp [Nat.not_le.mpr e]
    exact h
  · rw [if_neg e] at h
    simp [Nat.not_lt.mp e]
    exact h
/-- a letter that waits is taken in hand -/
theorem CRx.rmW (h : CRx N Y bd hs σ A f m g rf) {i : Nat} (hi : i < ln A) (hr : RM σ σ' (Y 6) (ln A) i f) : CRx N Y bd (f i :: hs) σ' (rmL A i) (fun j => if j < i then f j else f (j + 1)) m g rf := by
  have hlt := h.lt
  have hF' := RM.fr h.2.1 hr
  obtain ⟨h1, h2, h3, h4, h5, ⟨a1, a2, a3, a4, a5, a6, a7, a8, a9, a10⟩, h7, h8, h9, h10⟩ := h
  obtain ⟨L, n1, s1, e1, t1, hA⟩ := hr
  have k := L.kp a1.kind
  have x : ∀ j, j < ln A → f j < nx σ := fun j hj => h2.lt (by have := (a3 j hj).1; omega)
  have fn : ∀ j, j < ln A - 1 → ∃ j', j' < ln A ∧ j' ≠ i ∧ (if j < i then f j else f (j + 1)) = f j' := fun j hj => by
    by_cases e : j < i
    · exact ⟨j, by omega, by omega, if_pos e⟩
    · exact ⟨j + 1, by omega, by omega, if_neg e⟩
  have cE := L.capE h1 (Or.inl rfl) hlt
  refine ⟨k.lay h2 h1, hF', k.shr h2 h1 h3, k.cor h2 h1 h4, k.msc h2 h1 h5, ⟨hA, L.keepL k h2 h1 h9 (Or.inl rfl) (Or.inr (Or.inl rfl)) (by omega) a2, fun j hj => ⟨?_, ?_⟩, fun j hj => ?_, fun j j' hj hj' e => ?_, a6, fun j j' hj hj' => ?_, fun y hy => ?_, List.nodup_cons.mpr ⟨fun z => (a8 _ z).2.1 i hi rfl, a9⟩, ?_⟩, ror_kp k h2 (fun b hb => L.keepL k h2 h1 h9 (Or.inl rfl) (isL10 hb) (by omega) (h7 b hb).1) h7, k.acr h2 h1 h8, L.dis h1 h9 (Or.inl rfl) hlt, ?_⟩
  · obtain ⟨j', q1, q2, q3⟩ := fn j hj
    show tg σ' (if j < i then f j else f (j + 1)) = 4
    rw [q3, t1]
    exact (a3 j' q1).1
  · refine ltr_rm ?_
    show if j < i then LTR σ' (if j < i then f j else f (j + 1)) A j else LTR σ' (if j < i then f j else f (j + 1)) A (j + 1)
    have hj : j < ln A - 1 := hj
    by_cases e : j < i
    · rw [if_pos e, if_pos e]; exact k.ltr (x j (by omega)) (a3 j (by omega)).2
    · rw [if_neg e, if_neg e]; exact k.ltr (x (j + 1) (by omega)) (a3 (j + 1) (by omega)).2
  · rw [t1]; exact a4 j hj
  · have hj : j < ln A - 1 := hj
    have hj' : j' < ln A - 1 := hj'
    have e : (if j < i then f j else f (j + 1)) = (if j' < i then f j' else f (j' + 1)) := e
    by_cases e1 : j < i <;> by_cases e2 : j' < i
    · rw [if_pos e1, if_pos e2] at e; exact a5 j j' (by omega) (by omega) e
    · rw [if_pos e1, if_neg e2] at e; have := a5 j (j' + 1) (by omega) (by omega) e; omega
    · rw [if_neg e1, if_pos e2] at e; have := a5 (j + 1) j' (by omega) (by omega) e; omega
    · rw [if_neg e1, if_neg e2] at e; have := a5 (j + 1) (j' + 1) (by omega) (by omega) e; omega
  · obtain ⟨q, q1, q2, q3⟩ := fn j hj
    show (if j < i then f j else f (j + 1)) ≠ g j'
    rw [q3]
    exact a7 q j' q1 hj'
  · rcases List.mem_cons.mp hy with rfl | hy
    · refine ⟨by rw [t1]; exact (a3 i hi).1, fun j hj => ?_, fun j hj => Ne.symm (a7 i j hi hj)⟩
      obtain ⟨q, q1, q2, q3⟩ := fn j hj
      show (if j < i then f j else f (j + 1)) ≠ f i
      rw [q3]
      exact fun z => q2 (a5 q i q1 hi z)
    · obtain ⟨y1, y2, y3⟩ := a8 y hy
      refine ⟨by rw [t1]; exact y1, fun j hj => ?_, y3⟩
      obtain ⟨q, q1, q2, q3⟩ := fn j hj
      show (if j < i then f j else f (j + 1)) ≠ y
      rw [q3]
      exact y2 q q1
  · show ln A - 1 + m + (f i :: hs).length ≤ 70
    simp only [List.length_cons]
    omega
  · unfold BUD at h10 ⊢
    show nx σ' ≤ bd.1 + (ln A - 1 + m + (f i :: hs).length) + bd.2.2 + caps Y σ' ∧ sl σ' ≤ bd.2.1 + 11 * (ln A - 1 + m + (f i :: hs).length) + 3 * bd.2.2 + 4 * caps Y σ'
    have ea : al σ' (fr σ' 1 (Y 6)) = al σ (fr σ 1 (Y 6)) := by rw [e1, (L.2.2.1 _ (hlt 6 (Or.inl rfl))).2]
    simp only [List.length_cons]
    omega
/-- a letter in hand becomes spare -/
theorem CRx.adS {x : Nat} (h : CRx N Y bd (x :: hs) σ A f m g rf) (hr : ADD σ σ' (Y 7) m g x) : CRx N Y bd hs σ' A f (m + 1) (va_up g m x) rf := by
  have hlt := h.lt
  obtain ⟨h1, h2, h3, h4, h5, ⟨a1, a2, a3, a4, a5, a6, a7, a8, a9, a10⟩, h7, h8, h9, h10⟩ := h
  obtain ⟨L, hA, b1, b2, hF'⟩ := hr
  have k := L.kp a2.kind
  obtain ⟨x1, x2, x3⟩ := a8 x List.mem_cons_self
  have y : ∀ r, tg σ r = 4 → r < nx σ := fun r hr => h2.lt (by omega)
  have cE := L.capE h1 (Or.inr (Or.inl rfl)) hlt
  refine ⟨k.lay h2 h1, hF', k.shr h2 h1 h3, k.cor h2 h1 h4, k.msc h2 h1 h5, ⟨L.keepL k h2 h1 h9 (Or.inr (Or.inl rfl)) (Or.inl rfl) (by omega) a1, hA, fun j hj => ⟨?_, ?_⟩, fun j hj => ?_, a5, fun j j' hj hj' e => ?_, fun j j' hj hj' => ?_, fun z hz => ?_, (List.nodup_cons.mp a9).2, ?_⟩, ror_kp k h2 (fun b hb => L.keepL k h2 h1 h9 (Or.inr (Or.inl rfl)) (isL10 hb) (by omega) (h7 b hb).1) h7, k.acr h2 h1 h8, L.dis h1 h9 (Or.inr (Or.inl rfl)) hlt, ?_⟩
  · rw [(k.2.1 _ (y _ (a3 j hj).1)).1]; exact (a3 j hj).1
  · exact k.ltr (y _ (a3 j hj).1) (a3 j hj).2
  · by_cases e : j = m
    · subst e; rw [va_up_self, (k.2.1 _ (y _ x1)).1]; exact x1
    · rw [va_up_ne g x e, (k.2.1 _ (y _ (a4 j (by omega)))).1]; exact a4 j (by omega)
  · by_cases e1 : j = m <;> by_cases e2 : j' = m
    · omega
    · subst e1; rw [va_up_self, va_up_ne g x e2] at e; exact absurd e.symm (x3 j' (by omega))
    · subst e2; rw [va_up_self, va_up_ne g x e1] at e; exact absurd e (x3 j (by omega))
    · rw [va_up_ne g x e1, va_up_ne g x e2] at e; exact a6 j j' (by omega) (by omega) e
  · by_cases e : j' = m
    · subst e; rw [va_up_self]; exact x2 j hj
    · rw [va_up_ne g x e]; exact a7 j j' hj (by omega)
  · obtain ⟨z1, z2, z3⟩ := a8 z (List.mem_cons_of_mem _ hz)
    refine ⟨by rw [(k.2.1 _ (y _ z1)).1]; exact z1, z2, fun j hj => ?_⟩
    by_cases e : j = m
    · subst e; rw [va_up_self]; exact fun q => (List.nodup_cons.mp a9).1 (q ▸ hz)
    · rw [va_up_ne g x e]; exact z3 j (by omega)
  · simp only [List.length_cons] at a10; omega
  · unfold BUD at h10 ⊢
    simp only [List.length_cons] at h10
    have e2 : ln A + (m + 1) + hs.length = ln A + m + (hs.length + 1) := by omega
    rw [e2]
    omega
/-- a spare letter is taken in hand: the last -/
theorem CRx.rmS (h : CRx N Y bd hs σ A f m g rf) (hm : 0 < m) (hr : RM σ σ' (Y 7) m (m - 1) g) : CRx N Y bd (g (m - 1) :: hs) σ' A f (m - 1) (fun j => if j < m - 1 then g j else g (j + 1)) rf := by
  have hlt := h.lt
  have hF' := RM.fr h.2.1 hr
  obtain ⟨h1, h2, h3, h4, h5, ⟨a1, a2, a3, a4, a5, a6, a7, a8, a9, a10⟩, h7, h8, h9, h10⟩ := h
  obtain ⟨L, n1, s1, e1, t1, hA⟩ := hr
  have k := L.kp a2.kind
  have y : ∀ r, tg σ r = 4 → r < nx σ := fun r hr => h2.lt (by omega)
  have gn : ∀ j, j < m - 1 → (if j < m - 1 then g j else g (j + 1)) = g j := fun j hj => if_pos hj
  have cE := L.capE h1 (Or.inr (Or.inl rfl)) hlt
  refine ⟨k.lay h2 h1, hF', k.shr h2 h1 h3, k.cor h2 h1 h4, k.msc h2 h1 h5, ⟨L.keepL k h2 h1 h9 (Or.inr (Or.inl rfl)) (Or.inl rfl) (by omega) a1, hA, fun j hj => ⟨?_, ?_⟩, fun j hj => ?_, a5, fun j j' hj hj' e => ?_, fun j j' hj hj' => ?_, fun z hz => ?_, List.nodup_cons.mpr ⟨fun z => (a8 _ z).2.2 (m - 1) (by omega) rfl, a9⟩, ?_⟩, ror_kp k h2 (fun b hb => L.keepL k h2 h1 h9 (Or.inr (Or.inl rfl)) (isL10 hb) (by omega) (h7 b hb).1) h7, k.acr h2 h1 h8, L.dis h1 h9 (Or.inr (Or.inl rfl)) hlt, ?_⟩
  · rw [t1]; exact (a3 j hj).1
  · exact k.ltr (y _ (a3 j hj).1) (a3 j hj).2
  · show tg σ' (if j < m - 1 then g j else g (j + 1)) = 4
    rw [gn j hj, t1]; exact a4 j (by omega)
  · have e : (if j < m - 1 then g j else g (j + 1)) = (if j' < m - 1 then g j' else g (j' + 1)) := e
    rw [gn j hj, gn j' hj'] at e
    exact a6 j j' (by omega) (by omega) e
  · show f j ≠ (if j' < m - 1 then g j' else g (j' + 1))
    rw [gn j' hj']; exact a7 j j' hj (by omega)
  · rcases List.mem_cons.mp hz with rfl | hz
    · refine ⟨by rw [t1]; exact a4 _ (by omega), fun j hj => a7 j _ hj (by omega), fun j hj => ?_⟩
      show (if j < m - 1 then g j else g (j + 1)) ≠ g (m - 1)
      rw [gn j hj]
      exact fun q => by have := a6 j (m - 1) (by omega) (by omega) q; omega
    · obtain ⟨z1, z2, z3⟩ := a8 z hz
      refine ⟨by rw [t1]; exact z1, z2, fun j hj => ?_⟩
      show (if j < m - 1 then g j else g (j + 1)) ≠ z
      rw [gn j hj]
      exact z3 j (by omega)
  · simp only [List.length_cons]; omega
  · have ea : al σ' (fr σ' 1 (Y 7)) = al σ (fr σ 1 (Y 7)) := by rw [e1, (L.2.2.1 _ (hlt 7 (Or.inr (Or.inl rfl)))).2]
    unfold BUD at h10 ⊢
    simp only [List.length_cons]
    have e2 : ln A + (m - 1) + (hs.length + 1) = ln A + m + hs.length := by omega
    rw [e2]
    omega
theorem ltr_ap {a i : Nat} {G : Nat → Int32} (hi : i < ln A) (h : LTR σ a A i) : LTR σ a (apL A G) i := by
  unfold LTR
  simp only [sv_apL]
  have : ¬ i = ln A := by omega
  simp [this]
  exact h
/-- a letter in hand is put behind those that wait -/
theorem CRx.adW {x : Nat} {G : Nat → Int32} (h : CRx N Y bd (x :: hs) σ A f m g rf) (hr : ADD σ σ' (Y 6) (ln A) f x) (hG : fi σ 192 x = G 29 ∧ fi σ 193 x = G 31 ∧ fi σ 194 x = G 30 ∧ fi σ 195 x = G 32 ∧ fi σ 196 x = G 33 ∧ fi σ 197 x = G 34 ∧ fi σ 198 x = G 35 ∧ fi σ 199 x = G 36 ∧ fi σ 200 x = G 37 ∧ fi σ 201 x = G 38 ∧ fi σ 202 x = G 39) : CRx N Y bd hs σ' (apL A G) (va_up f (ln A) x) m g rf := by
  have hlt := h.lt
  obtain ⟨h1, h2, h3, h4, h5, ⟨a1, a2, a3, a4, a5, a6, a7, a8, a9, a10⟩, h7, h8, h9, h10⟩ := h
  obtain ⟨L, hA, b1, b2, hF'⟩ := hr
  have k := L.kp a1.kind
  obtain ⟨x1, x2, x3⟩ := a8 x List.mem_cons_self
  have y : ∀ r, tg σ r = 4 → r < nx σ := fun r hr => h2.lt (by omega)
  have cE := L.capE h1 (Or.inl rfl) hlt
  have len : ln (apL A G) = ln A + 1 := rfl
  refine ⟨k.lay h2 h1, hF', k.shr h2 h1 h3, k.cor h2 h1 h4, k.msc h2 h1 h5, ⟨hA, L.keepL k h2 h1 h9 (Or.inl rfl) (Or.inr (Or.inl rfl)) (by omega) a2, fun j hj => ?_, fun j hj => ?_, fun j j' hj hj' e => ?_, a6, fun j j' hj hj' => ?_, fun z hz => ?_, (List.nodup_cons.mp a9).2, ?_⟩, ror_kp k h2 (fun b hb => L.keepL k h2 h1 h9 (Or.inl rfl) (isL10 hb) (by omega) (h7 b hb).1) h7, k.acr h2 h1 h8, L.dis h1 h9 (Or.inl rfl) hlt, ?_⟩
  · rw [len] at hj
    by_cases e : j = ln A
    · subst e
      rw [va_up_self, (k.2.1 _ (y _ x1)).1]
      refine ⟨x1, ?_⟩
      unfold LTR
      simp only [sv_apL]
      obtain ⟨-, -, -, k4, -⟩ := k
      have xl := y _ x1
      rw [k4 192 x xl (by omega), k4 193 x xl (by omega), k4 194 x xl (by omega), k4 195 x xl (by omega), k4 196 x xl (by omega), k4 197 x xl (by omega), k4 198 x xl (by omega), k4 199 x xl (by omega), k4 200 x xl (by omega), k4 201 x xl (by omega), k4 202 x xl (by omega)]
      simp
      exact hG
    · have hj : j < ln A := by omega
      rw [va_up_ne f x e, (k.2.1 _ (y _ (a3 j hj).1)).1]
      exact ⟨(a3 j hj).1, ltr_ap hj (k.ltr (y _ (a3 j hj).1) (a3 j hj).2)⟩
  · rw [(k.2.1 _ (y _ (a4 j hj))).1]; exact a4 j hj
  · rw [len] at hj hj'
    by_cases e1 : j = ln A <;> by_cases e2 : j' = ln A
    · omega
    · subst e1; rw [va_up_self, va_up_ne f x e2] at e; exact absurd e.symm (x2 j' (by omega))
    · subst e2; rw [va_up_self, va_up_ne f x e1] at e; exact absurd e (x2 j (by omega))
    · rw [va_up_ne f x e1, va_up_ne f x e2] at e; exact a5 j j' (by omega) (by omega) e
  · rw [len] at hj
    by_cases e : j = ln A
    · subst e; rw [va_up_self]; exact Ne.symm (x3 j' hj')
    · rw [va_up_ne f x e]; exact a7 j j' (by omega) hj'
  · obtain ⟨z1, z2, z3⟩ := a8 z (List.mem_cons_of_mem _ hz)
    refine ⟨by rw [(k.2.1 _ (y _ z1)).1]; exact z1, fun j hj => ?_, z3⟩
    rw [len] at hj
    by_cases e : j = ln A
    · subst e; rw [va_up_self]; exact fun q => (List.nodup_cons.mp a9).1 (q ▸ hz)
    · rw [va_up_ne f x e]; exact z2 j (by omega)
  · rw [len]; simp only [List.length_cons] at a10; omega
  · unfold BUD at h10 ⊢
    rw [len]
    simp only [List.length_cons] at h10
    have e2 : ln A + 1 + m + hs.length = ln A + m + (hs.length + 1) := by omega
    rw [e2]
    omega
theorem kp_new {ci n : Nat} : KP σ (pnew σ ci n) := by
  refine ⟨Nat.le_succ _, fun r hr => ?_, fun _ _ _ => rfl, fun i r hr _ => ?_, fun i r hr _ => ?_, fun _ _ _ _ _ => rfl⟩
  · rw [tg_pnew, if_neg (by omega)]; exact ⟨rfl, rfl⟩
  · rw [fi_pnew, if_neg (by omega)]
  · rw [fr_pnew, if_neg (by omega)]
theorem fr_new (h : FR σ) {ci n : Nat} : FR (pnew σ ci n) := ⟨⟨Nat.succ_pos _, by rw [tg_pnew, if_neg (by have := h.1.1; omega)]; exact h.1.2⟩, fun r hr => by
  rw [nx_pnew] at hr
  rw [tg_pnew, if_neg (by omega)]
  exact h.2 r (by omega)⟩
theorem al_new {l n ci k : Nat} {f : Nat → Nat} (h : FR σ) (hA : AL σ l n f) : AL (pnew σ ci k) l n f :=
  kp_new.keepL h hA (by rw [fi_pnew, if_neg (by have := hA.2.2.2.2.2.2.1; omega)]) (by rw [fr_pnew, if_neg (by have := hA.2.2.2.2.2.2.1; omega)]) (fun _ _ => rfl)
theorem CRx.yl (h : CRx N Y bd hs σ A f m g rf) : ∀ l, isL l → Y l < nx σ := by
  obtain ⟨h1, h2, h3, h4, h5, h6, h7, h8, h9, h10⟩ := h
  intro l hl
  rcases hl with rfl | rfl | rfl | rfl
  · exact h6.1.2.2.2.2.2.2.1
  · exact h6.2.1.2.2.2.2.2.2.1
  · exact (h7 0 (by omega)).1.2.2.2.2.2.2.1
  · exact (h7 1 (by omega)).1.2.2.2.2.2.2.1
theorem frl_new (h : CRx N Y bd hs σ A f m g rf) {ci k l : Nat} (hl : isL l) : fr (pnew σ ci k) 1 (Y l) = fr σ 1 (Y l) := by
  rw [fr_pnew, if_neg (by have := h.yl l hl; omega)]
theorem dis_new (h : CRx N Y bd hs σ A f m g rf) {ci k : Nat} : DIS Y (pnew σ ci k) ∧ caps Y (pnew σ ci k) = caps Y σ := by
  refine ⟨fun a b ha hb hab ht => ?_, ?_⟩
  · rw [frl_new h ha] at ht ⊢
    rw [frl_new h hb]
    rw [tg_pnew, if_neg (by have := h.lt a ha; omega)] at ht
    exact h.2.2.2.2.2.2.2.2.1 a b ha hb hab ht
  · unfold caps
    rw [frl_new h (Or.inl rfl), frl_new h (Or.inr (Or.inl rfl)), frl_new h (Or.inr (Or.inr (Or.inl rfl))), frl_new h (Or.inr (Or.inr (Or.inr rfl)))]
    rfl
/-- a new letter, in hand -/
theorem CRx.nwH (h : CRx N Y bd hs σ A f m g rf) (h70 : ln A + m + hs.length ≤ 69) : CRx N Y bd (nx σ :: hs) (pnew σ 3 11) A f m g rf := by
  obtain ⟨d1, d2⟩ := dis_new h (ci := 3) (k := 11)
  obtain ⟨h1, h2, h3, h4, h5, ⟨a1, a2, a3, a4, a5, a6, a7, a8, a9, a10⟩, h7, h8, h9, h10⟩ := h
  have k : KP σ (pnew σ 3 11) := kp_new
  have y : ∀ r, tg σ r = 4 → r < nx σ := fun r hr => h2.lt (by omega)
  refine ⟨k.lay h2 h1, fr_new h2, k.shr h2 h1 h3, k.cor h2 h1 h4, k.msc h2 h1 h5, ⟨al_new h2 a1, al_new h2 a2, fun j hj => ⟨?_, ?_⟩, fun j hj => ?_, a5, a6, a7, fun z hz => ?_, List.nodup_cons.mpr ⟨fun z => ?_, a9⟩, ?_⟩, ror_kp k h2 (fun b hb => al_new h2 (h7 b hb).1) h7, k.acr h2 h1 h8, d1, ?_⟩
  · rw [(k.2.1 _ (y _ (a3 j hj).1)).1]; exact (a3 j hj).1
  · exact k.ltr (y _ (a3 j hj).1) (a3 j hj).2
  · rw [(k.2.1 _ (y _ (a4 j hj))).1]; exact a4 j hj
  · rcases List.mem_cons.mp hz with rfl | hz
    · refine ⟨by rw [tg_pnew, if_pos rfl], fun j hj q => ?_, fun j hj q => ?_⟩
      · have := y _ (a3 j hj).1; omega
      · have := y _ (a4 j hj); omega
    · obtain ⟨z1, z2, z3⟩ := a8 z hz
      exact ⟨by rw [(k.2.1 _ (y _ z1)).1]; exact z1, z2, z3⟩
  · have := y _ (a8 _ z).1
    omega
  · simp only [List.length_cons]; omega
  · unfold BUD at h10 ⊢
    rw [d2, nx_pnew, sl_pnew]
    simp only [List.length_cons]
    omega
end CRL
end
section
/-! the mail's methods -/
/-- what is in hand stays as it is written; what is not the class's own stays: kinds and lengths, the reference's fields, the numbers of all arrays but z -/
def HK (z : Nat) (σ σ' : PS) (hs : List Nat) : Prop := (∀ h ∈ hs, ∀ k, 192 ≤ k → k ≤ 202 → fi σ' k h = fi σ k h) ∧ nx σ ≤ nx σ' ∧ (∀ r, r < nx σ → tg σ' r = tg σ r ∧ al σ' r = al σ r) ∧ (∀ k r, r < nx σ → 512 ≤ k → fi σ' k r = fi σ k r ∧ fr σ' k r = fr σ k r) ∧ ∀ r j, r < nx σ → r ≠ z → ai σ' r j = ai σ r j
theorem HK.rf {z : Nat} {σ : PS} {hs : List Nat} : HK z σ σ hs := ⟨fun _ _ _ _ _ => rfl, Nat.le_refl _, fun _ _ => ⟨rfl, rfl⟩, fun _ _ _ _ => ⟨rfl, rfl⟩, fun _ _ _ _ => rfl⟩
theorem HK.tr {z : Nat} {σ σ' σ'' : PS} {hs : List Nat} (h1 : HK z σ σ' hs) (h2 : HK z σ' σ'' hs) : HK z σ σ'' hs := by
  obtain ⟨a1, a2, a3, a4, a5⟩ := h1
  obtain ⟨b1, b2, b3, b4, b5⟩ := h2
  refine ⟨fun h hh k a b => (b1 h hh k a b).trans (a1 h hh k a b), Nat.le_trans a2 b2, fun r hr => ?_, fun k r hr hk => ?_, fun r j hr hz => ?_⟩
  · have q := b3 r (by omega)
    exact ⟨q.1.trans (a3 r hr).1, q.2.trans (a3 r hr).2⟩
  · have q := b4 k r (by omega) hk
    exact ⟨q.1.trans (a4 k r hr hk).1, q.2.trans (a4 k r hr hk).2⟩
  · exact (b5 r j (by omega) hz).trans (a5 r j hr hz)
theorem HK.put {z : Nat} {σ : PS} {hs : List Nat} {i a : Nat} {v : Int32} (h : ¬ (192 ≤ i ∧ i ≤ 202) ∨ a ∉ hs) (hi : i < 512 := by omega) : HK z σ (pfi σ i a v) hs := by
  refine ⟨fun y hy k q1 q2 => ?_, Nat.le_refl _, fun _ _ => ⟨rfl, rfl⟩, fun k r _ hk => ⟨?_, rfl⟩, fun _ _ _ _ => rfl⟩
  · rw [fi_pfi, if_neg]
    rintro ⟨rfl, rfl⟩
    rcases h with h | h
    · exact h ⟨q1, q2⟩
    · exact h hy
  · rw [fi_pfi, if_neg (by omega)]
theorem HK.pfr {z : Nat} {σ : PS} {hs : List Nat} {i a v : Nat} (hi : i < 512 := by omega) : HK z σ (pfr σ i a v) hs := by
  refine ⟨fun _ _ _ _ _ => rfl, Nat.le_refl _, fun _ _ => ⟨rfl, rfl⟩, fun k r _ hk => ⟨rfl, ?_⟩, fun _ _ _ _ => rfl⟩
  rw [fr_pfr, if_neg (by omega)]
theorem HK.pai {z : Nat} {σ : PS} {hs : List Nat} {j : Nat} {v : Int32} : HK z σ (pai σ z j v) hs := by
  refine ⟨fun _ _ _ _ _ => rfl, Nat.le_refl _, fun _ _ => ⟨rfl, rfl⟩, fun k r _ hk => ⟨rfl, rfl⟩, fun r j _ hz => ?_⟩
  rw [ai_pai, if_neg (fun q => hz q.1)]
theorem HK.new {z : Nat} {σ : PS} {hs : List Nat} {ci n : Nat} (h : ∀ y ∈ hs, y < nx σ) : HK z σ (pnew σ ci n) hs := by
  refine ⟨fun y hy k q1 q2 => ?_, by rw [nx_pnew]; omega, fun r hr => ⟨?_, rfl⟩, fun k r hr hk => ⟨?_, ?_⟩, fun _ _ _ _ => rfl⟩
  · have := h y hy
    rw [fi_pnew, if_neg (by omega)]
  · rw [tg_pnew, if_neg (by omega)]
  · rw [fi_pnew, if_neg (by omega)]
  · rw [fr_pnew, if_neg (by omega)]
theorem HK.lf {z : Nat} {σ σ' : PS} {hs : List Nat} {l : Nat} (h : LF σ σ' l) : HK z σ σ' hs := ⟨fun y hy k q1 q2 => h.2.2.2.2.1 k y (Or.inr (by omega)), h.1, h.2.2.1, fun k r _ hk => ⟨h.2.2.2.2.1 k r (Or.inr (by omega)), h.2.2.2.2.2.1 k r (Or.inr (by omega))⟩, fun r j hr _ => h.2.2.2.1 r j hr⟩
theorem HK.sub {z : Nat} {σ σ' : PS} {hs : List Nat} {x : Nat} (h : HK z σ σ' (x :: hs)) : HK z σ σ' hs := ⟨fun y hy => h.1 y (List.mem_cons_of_mem _ hy), h.2⟩
section Mail
variable {N : Nat} {Y : Nat → Nat} {bd : Nat × Nat × Nat} {hs : List Nat} {σ : PS} {A : AS} {f : Nat → Nat} {m : Nat} {g : Nat → Nat} {rf : Nat → Nat → Nat} {P : Option PV → PS → Prop}
theorem sp_Mail_size (h : CRx N Y bd hs σ A f m g rf) (hP : P (some (.inl (nI (ln A)))) σ) : Ctr m_Mail_size 2 [.inr (Y 5)] σ P := by
  obtain ⟨h1, h2, h3, h4, h5, ⟨a1, a2, a3, a4, a5, a6, a7, a8, a9, a10⟩, h7, h8, h9, h10⟩ := id h
  obtain ⟨t5, t6, t7⟩ := h1.2.2.2.2.2.2.1
  have tw := a1.1
  have sw := a1.2.1
  refine Ctr.of y_Mail_size (Nat.le_of_ble_eq_true rfl) ?_
  refine p_aload_n e_Mail_size_0 rfl ?_
  refine p_gRv 256 e_Mail_size_1 f_Mail_12 rfl rfl (by assumption) t6 ?_
  refine p_inv (ci := 0) (d' := 1) [] _ e_Mail_size_4 c_Mail_21 k_AL_size i_AL_size s_AL_size rfl rfl (by assumption) rfl rfl (Nat.le_of_ble_eq_true rfl) (Nat.le_of_ble_eq_true rfl) ?_
  refine sp_AL_size tw ?_
  rw [sw]
  refine p_iret e_Mail_size_7 (rv_i ?_)
  exact hP
theorem sp_Mail_has {i : Int32} (h : CRx N Y bd hs σ A f m g rf) (k1 : 0 ≤ i → i < nI (ln A) → P (some (.inl 1)) σ) (k0 : ¬ (0 ≤ i ∧ i < nI (ln A)) → P (some (.inl 0)) σ) : Ctr m_Mail_has 2 [.inr (Y 5), .inl i] σ P := by
  obtain ⟨h1, h2, h3, h4, h5, ⟨a1, a2, a3, a4, a5, a6, a7, a8, a9, a10⟩, h7, h8, h9, h10⟩ := id h
  obtain ⟨t5, t6, t7⟩ := h1.2.2.2.2.2.2.1
  have tw := a1.1
  have sw := a1.2.1
  refine Ctr.of y_Mail_has (Nat.le_of_ble_eq_true rfl) ?_
  refine p_iload_n e_Mail_has_0 rfl ?_
  refine p_if_lt (tgt := 19) e_Mail_has_1 (by decide) (fun h1 => ?_) (fun h1 => ?_)
  · refine p_iconst (x := 0) e_Mail_has_19 (by decide) ?_
    refine p_iret e_Mail_has_20 (rv_z (by first | assumption | exact Or.inl rfl | exact Or.inr rfl) ?_)
    exact k0 (fun q => absurd h1 (Int32.not_lt.mpr q.1))
  refine p_iload_n e_Mail_has_4 rfl ?_
  refine p_aload_n e_Mail_has_5 rfl ?_
  refine p_gRv 256 e_Mail_has_6 f_Mail_12 rfl rfl (by assumption) t6 ?_
  refine p_inv (ci := 0) (d' := 1) [] _ e_Mail_has_9 c_Mail_21 k_AL_size i_AL_size s_AL_size rfl rfl (by assumption) rfl rfl (Nat.le_of_ble_eq_true rfl) (Nat.le_of_ble_eq_true rfl) ?_
  refine sp_AL_size tw ?_
  rw [sw]
  refine p_icmp_ge (tgt := 19) e_Mail_has_12 (by decide) (fun q9 => ?_) (fun q9 => ?_)
  · refine p_iconst (x := 0) e_Mail_has_19 (by decide) ?_
    refine p_iret e_Mail_has_20 (rv_z (by first | assumption | exact Or.inl rfl | exact Or.inr rfl) ?_)
    exact k0 (fun q => absurd q9 (Int32.not_le.mpr q.2))
  refine p_iconst (x := 1) e_Mail_has_15 (by decide) ?_
  refine p_goto (tgt := 20) e_Mail_has_16 (by decide) ?_
  refine p_iret e_Mail_has_20 (rv_z (by first | assumption | exact Or.inl rfl | exact Or.inr rfl) ?_)
  exact k1 (Int32.not_lt.mp h1) (Int32.not_le.mp q9)
theorem sp_Mail_at {i : Nat} (h : CRx N Y bd hs σ A f m g rf) (hi : i < ln A) (hP : P (some (.inr (f i))) σ) : Ctr m_Mail_at 4 [.inr (Y 5), .inl (nI i)] σ P := by
  obtain ⟨h1, h2, h3, h4, h5, ⟨a1, a2, a3, a4, a5, a6, a7, a8, a9, a10⟩, h7, h8, h9, h10⟩ := id h
  obtain ⟨t5, t6, t7⟩ := h1.2.2.2.2.2.2.1
  have tw := a1.1
  refine Ctr.of y_Mail_at (Nat.le_of_ble_eq_true rfl) ?_
  refine p_aload_n e_Mail_at_0 rfl ?_
  refine p_gRv 256 e_Mail_at_1 f_Mail_12 rfl rfl (by assumption) t6 ?_
  refine p_iload_n e_Mail_at_4 rfl ?_
  refine p_inv (ci := 0) (d' := 3) [_] _ e_Mail_at_5 c_Mail_25 k_AL_get i_AL_get s_AL_get rfl rfl (by assumption) rfl rfl (Nat.le_of_ble_eq_true rfl) (Nat.le_of_ble_eq_true rfl) ?_
  refine sp_AL_get a1 hi ?_
  refine p_cast (ci := 3) e_Mail_at_8 l_Mail_29 ⟨_, rfl, Or.inl rfl⟩ (a3 i hi).1 ⟨3, _, rfl, rfl⟩ ?_
  refine p_aret e_Mail_at_11 (rv_o ?_)
  exact hP
theorem sp_Mail_take {i : Nat} (h : CRx N Y bd hs σ A f m g rf) (hi : i < ln A) (hP : ∀ σ', CRx N Y bd (f i :: hs) σ' (rmL A i) (fun j => if j < i then f j else f (j + 1)) m g rf → HK (Y 4) σ σ' (f i :: hs) → P (some (.inr (f i))) σ') : Ctr m_Mail_take 4 [.inr (Y 5), .inl (nI i)] σ P := by
  obtain ⟨h1, h2, h3, h4, h5, ⟨a1, a2, a3, a4, a5, a6, a7, a8, a9, a10⟩, h7, h8, h9, h10⟩ := id h
  obtain ⟨t5, t6, t7⟩ := h1.2.2.2.2.2.2.1
  have tw := a1.1
  refine Ctr.of y_Mail_take (Nat.le_of_ble_eq_true rfl) ?_
  refine p_aload_n e_Mail_take_0 rfl ?_
  refine p_gRv 256 e_Mail_take_1 f_Mail_12 rfl rfl (by assumption) t6 ?_
  refine p_iload_n e_Mail_take_4 rfl ?_
  refine p_inv (ci := 0) (d' := 3) [_] _ e_Mail_take_5 c_Mail_31 k_AL_remove i_AL_remove s_AL_remove rfl rfl (by assumption) rfl rfl (Nat.le_of_ble_eq_true rfl) (Nat.le_of_ble_eq_true rfl) ?_
  refine sp_AL_remove a1 hi (fun σ' hR => ?_)
  have ht : tg σ' (f i) = 4 := by rw [hR.2.2.2.2.1]; exact (a3 i hi).1
  refine p_cast (ci := 3) e_Mail_take_8 l_Mail_29 ⟨_, rfl, Or.inl rfl⟩ (by assumption) ⟨3, _, rfl, rfl⟩ ?_
  refine p_aret e_Mail_take_11 (rv_o ?_)
  exact hP σ' (h.rmW hi hR) (HK.lf hR.1)
theorem sp_Mail_giveBack {x : Nat} (h : CRx N Y bd (x :: hs) σ A f m g rf) (hP : ∀ σ' g', CRx N Y bd hs σ' A f (m + 1) g' rf → HK (Y 4) σ σ' hs → P none σ') : Ctr m_Mail_giveBack 7 [.inr (Y 5), .inr x] σ P := by
  obtain ⟨h1, h2, h3, h4, h5, ⟨a1, a2, a3, a4, a5, a6, a7, a8, a9, a10⟩, h7, h8, h9, h10⟩ := id h
  obtain ⟨t5, t6, t7⟩ := h1.2.2.2.2.2.2.1
  have tw := a2.1
  simp only [List.length_cons] at a10
  refine Ctr.of y_Mail_giveBack (Nat.le_of_ble_eq_true rfl) ?_
  refine p_aload_n e_Mail_giveBack_0 rfl ?_
  refine p_gRv 257 e_Mail_giveBack_1 f_Mail_18 rfl rfl (by assumption) t7 ?_
  refine p_aload_n e_Mail_giveBack_4 rfl ?_
  refine p_inv (ci := 0) (d' := 6) [_] _ e_Mail_giveBack_5 c_Mail_34 k_AL_add1 i_AL_add1 s_AL_add1 rfl rfl (by assumption) rfl rfl (Nat.le_of_ble_eq_true rfl) (Nat.le_of_ble_eq_true rfl) ?_
  refine sp_AL_add h2 a2 (by omega) (Or.inl (a8 x List.mem_cons_self).1) (fun σ' hA => ?_)
  refine p_pop e_Mail_giveBack_8 ?_
  refine p_ret e_Mail_giveBack_9 (rv_v ?_)
  exact hP σ' _ (h.adS hA) (HK.lf hA.1)
set_option maxHeartbeats 4000000 in
theorem sp_dropOlder {kd fm to bl : Int32} (hk : kd ≠ 3) (h : CRx N Y bd hs σ A f m g rf) (hP : ∀ σ' f' m' g', CRx N Y bd hs σ' (dpL A kd fm to bl) f' m' g' rf → HK (Y 4) σ σ' hs → P none σ') : Ctr m_Mail_dropOlder 7 [.inr (Y 5), .inl kd, .inl fm, .inl to, .inl bl] σ P := by
  obtain ⟨h1, h2, h3, h4, h5, ⟨a1, a2, a3, a4, a5, a6, a7, a8, a9, a10⟩, h7, h8, h9, h10⟩ := id h
  obtain ⟨t5, t6, t7⟩ := h1.2.2.2.2.2.2.1
  have tw := a1.1
  have ts := a2.1
  have sw := a1.2.1
  have hln : ln A ≤ 70 := by omega
  refine Ctr.of y_Mail_dropOlder (Nat.le_of_ble_eq_true rfl) ?_
  have loop : ∀ k i, i + k = ln A → (∀ j, j < i → ¬ mtL A kd fm to bl j) → Wp m_Mail_dropOlder 7 3 [(5, .inl (nI i)), (0, .inr (Y 5)), (1, .inl kd), (2, .inl fm), (3, .inl to), (4, .inl bl)] [] σ (fun v σ' => RV m_Mail_dropOlder.2.2.2 v ∧ P v σ') := by
    intro k
    induction k with
    | zero =>
      intro i hi hno
      refine p_iload e_Mail_dropOlder_3 rfl ?_
      refine p_aload_n e_Mail_dropOlder_5 rfl ?_
      refine p_gRv 256 e_Mail_dropOlder_6 f_Mail_12 rfl rfl (by assumption) t6 ?_
      refine p_inv (ci := 0) (d' := 1) [] _ e_Mail_dropOlder_9 c_Mail_21 k_AL_size i_AL_size s_AL_size rfl rfl (by assumption) rfl rfl (Nat.le_of_ble_eq_true rfl) (Nat.le_of_ble_eq_true rfl) ?_
      refine sp_AL_size tw ?_
      rw [sw]
      refine p_icmp_ge (tgt := 65) e_Mail_dropOlder_12 (by decide) (fun _ => ?_) (fun hx => absurd (nI_le (by omega) (by omega)) hx)
      refine p_ret e_Mail_dropOlder_65 (rv_v ?_)
      have hd : dpL A kd fm to bl = A := dpL_no (fun j hj => hno j (by omega))
      exact hP σ f m g (by rw [hd]; exact h) HK.rf
    | succ k ih =>
      intro i hi hno
      have hil : i < ln A := by omega
      refine p_iload e_Mail_dropOlder_3 rfl ?_
      refine p_aload_n e_Mail_dropOlder_5 rfl ?_
      refine p_gRv 256 e_Mail_dropOlder_6 f_Mail_12 rfl rfl (by assumption) t6 ?_
      refine p_inv (ci := 0) (d' := 1) [] _ e_Mail_dropOlder_9 c_Mail_21 k_AL_size i_AL_size s_AL_size rfl rfl (by assumption) rfl rfl (Nat.le_of_ble_eq_true rfl) (Nat.le_of_ble_eq_true rfl) ?_
      refine sp_AL_size tw ?_
      rw [sw]
      refine p_icmp_ge (tgt := 65) e_Mail_dropOlder_12 (by decide) (fun hx => absurd hx (nI_ge hil (by omega))) (fun _ => ?_)
      refine p_aload_n e_Mail_dropOlder_15 rfl ?_
      refine p_gRv 256 e_Mail_dropOlder_16 f_Mail_12 rfl rfl (by assumption) t6 ?_
      refine p_iload e_Mail_dropOlder_19 rfl ?_
      refine p_inv (ci := 0) (d' := 3) [_] _ e_Mail_dropOlder_21 c_Mail_25 k_AL_get i_AL_get s_AL_get rfl rfl (by assumption) rfl rfl (Nat.le_of_ble_eq_true rfl) (Nat.le_of_ble_eq_true rfl) ?_
      refine sp_AL_get a1 hil ?_
      obtain ⟨tl, l1, l2, l3, l4, -⟩ := a3 i hil
      refine p_cast (ci := 3) e_Mail_dropOlder_24 l_Mail_29 ⟨_, rfl, Or.inl rfl⟩ (by assumption) ⟨3, _, rfl, rfl⟩ ?_
      refine p_iload_n e_Mail_dropOlder_27 rfl ?_
      refine p_iload_n e_Mail_dropOlder_28 rfl ?_
      refine p_iload_n e_Mail_dropOlder_29 rfl ?_
      refine p_iload e_Mail_dropOlder_30 rfl ?_
      refine p_inv (ci := 3) (d' := 1) [_, _, _, _] _ e_Mail_dropOlder_32 c_Mail_50 k_Letter_yieldsTo i_Letter_yieldsTo s_Letter_yieldsTo rfl rfl (by assumption) rfl rfl (Nat.le_of_ble_eq_true rfl) (Nat.le_of_ble_eq_true rfl) ?_
      refine sp_Letter_yieldsTo tl (fun q1 q2 q3 q4 => ?_) (fun q => ?_)
      · refine p_if_eq (tgt := 59) e_Mail_dropOlder_35 (by decide) (fun hx => absurd hx ((by decide))) (fun _ => ?_)
        have hm : mtL A kd fm to bl i := ⟨l1.symm.trans q1, l2.symm.trans q2, l3.symm.trans q3, fun z => l4.symm.trans (q4 z)⟩
        refine p_aload_n e_Mail_dropOlder_38 rfl ?_
        refine p_gRv 257 e_Mail_dropOlder_39 f_Mail_18 rfl rfl (by assumption) t7 ?_
        refine p_aload_n e_Mail_dropOlder_42 rfl ?_
        refine p_gRv 256 e_Mail_dropOlder_43 f_Mail_12 rfl rfl (by assumption) t6 ?_
        refine p_iload e_Mail_dropOlder_46 rfl ?_
        refine p_inv (ci := 0) (d' := 3) [_] _ e_Mail_dropOlder_48 c_Mail_31 k_AL_remove i_AL_remove s_AL_remove rfl rfl (by assumption) rfl rfl (Nat.le_of_ble_eq_true rfl) (Nat.le_of_ble_eq_true rfl) ?_
        refine sp_AL_remove a1 hil (fun σ' hR => ?_)
        have hc := h.rmW hil hR
        have ht : tg σ' (f i) = 4 := by rw [hR.2.2.2.2.1]; exact tl
        refine p_cast (ci := 3) e_Mail_dropOlder_51 l_Mail_29 ⟨_, rfl, Or.inl rfl⟩ (by assumption) ⟨3, _, rfl, rfl⟩ ?_
        obtain ⟨c1, c2, c3, c4, c5, ⟨b1, b2, b3, b4, b5, b6, b7, b8, b9, b10⟩, c7, c8, c9, c10⟩ := id hc
        have ts' := b2.1
        simp only [List.length_cons] at b10
        have e1 : ln (rmL A i) = ln A - 1 := rfl
        refine p_inv (ci := 0) (d' := 6) [_] _ e_Mail_dropOlder_54 c_Mail_34 k_AL_add1 i_AL_add1 s_AL_add1 rfl rfl (by assumption) rfl rfl (Nat.le_of_ble_eq_true rfl) (Nat.le_of_ble_eq_true rfl) ?_
        refine sp_AL_add c2 b2 (by omega) (Or.inl ht) (fun σ'' hA => ?_)
        refine p_pop e_Mail_dropOlder_57 ?_
        refine p_ret e_Mail_dropOlder_58 (rv_v ?_)
        have hd : dpL A kd fm to bl = rmL A i := dpL_at hk ⟨hil, hm, hno⟩
        refine hP σ'' _ _ _ (by rw [hd]; exact hc.adS hA) ((HK.lf hR.1).tr (HK.lf hA.1))
      · refine p_if_eq (tgt := 59) e_Mail_dropOlder_35 (by decide) (fun _ => ?_) (fun hx => absurd (rfl) hx)
        refine p_iinc e_Mail_dropOlder_59 rfl rfl (by decide) ?_
        refine p_goto (tgt := 3) e_Mail_dropOlder_62 (by decide) ?_
        refine Wp.lv [(5, .inl (nI (i + 1))), (0, .inr (Y 5)), (1, .inl kd), (2, .inl fm), (3, .inl to), (4, .inl bl)] ⟨congrArg (fun z => some (Sum.inl z)) (nI_1 i), rfl, rfl, rfl, rfl, rfl, trivial⟩ ?_
        refine ih (i + 1) (by omega) (fun j hj => ?_)
        by_cases e : j = i
        · subst e
          exact fun z => q ⟨l1.trans z.1, l2.trans z.2.1, l3.trans z.2.2.1, fun y => l4.trans (z.2.2.2 y)⟩
        · exact hno j (by omega)
  refine p_iconst (x := 0) e_Mail_dropOlder_0 (by decide) ?_
  refine p_istore e_Mail_dropOlder_1 (by decide) ?_
  exact Wp.lv [(5, .inl (nI 0)), (0, .inr (Y 5)), (1, .inl kd), (2, .inl fm), (3, .inl to), (4, .inl bl)] ⟨rfl, rfl, rfl, rfl, rfl, rfl, trivial⟩ (loop (ln A) 0 (by omega) (fun j hj => by omega))
end Mail
end
section
/-! sending a letter -/
theorem sp_Letter_init {σ : PS} {r : Nat} {P : Option PV → PS → Prop} (h0 : r ≠ 0) (hP : P none σ) : Ctr m_Letter_init 1 [.inr r] σ P := by
  refine Ctr.of y_Letter_init (Nat.le_of_ble_eq_true rfl) ?_
  refine p_aload_n e_Letter_init_0 rfl ?_
  refine p_oinit e_Letter_init_1 c_Letter_3 i_oi q_oi h0 (Nat.le_of_ble_eq_true rfl) (by decide) ?_
  refine p_ret e_Letter_init_4 (rv_v ?_)
  exact hP
section Send
variable {N : Nat} {Y : Nat → Nat} {bd : Nat × Nat × Nat} {hs : List Nat} {σ : PS} {A : AS} {f : Nat → Nat} {m : Nat} {g : Nat → Nat} {rf : Nat → Nat → Nat} {P : Option PV → PS → Prop}
theorem CRx.adr {x : Nat} {kd fm to bl : Int32} (h : CRx N Y bd (x :: hs) σ A f m g rf) : CRx N Y bd (x :: hs) (adr σ x kd fm to bl) A f m g rf :=
  have m1 : x ∈ x :: hs := List.mem_cons_self
  ch_202 (ch_201 (ch_200 (ch_199 (ch_198 (ch_197 (ch_196 (ch_195 (ch_194 (ch_193 (ch_192 h m1) m1) m1) m1) m1) m1) m1) m1) m1) m1) m1
theorem hk_adr {x : Nat} {kd fm to bl : Int32} (h : x ∉ hs) : HK (Y 4) σ (adr σ x kd fm to bl) hs := by
  unfold Jvm.Pilot.@@N@@.adr
  exact (((((((((((HK.put (Or.inr h)).tr (HK.put (Or.inr h))).tr (HK.put (Or.inr h))).tr (HK.put (Or.inr h))).tr (HK.put (Or.inr h))).tr (HK.put (Or.inr h))).tr (HK.put (Or.inr h))).tr (HK.put (Or.inr h))).tr (HK.put (Or.inr h))).tr (HK.put (Or.inr h))).tr (HK.put (Or.inr h)))
theorem rd_ne {i j a b : Nat} {v : Int32} (h : ¬ j = i) : fi (pfi σ i a v) j b = fi σ j b := (fi_pfi).trans (if_neg (fun z => h z.1))
theorem rd_eq {i a : Nat} {v : Int32} : fi (pfi σ i a v) i a = v := (fi_pfi).trans (if_pos ⟨rfl, rfl⟩)
theorem adr_vals {x : Nat} {kd fm to bl : Int32} : fi (adr σ x kd fm to bl) 192 x = nwL kd fm to bl 29 ∧ fi (adr σ x kd fm to bl) 193 x = nwL kd fm to bl 31 ∧ fi (adr σ x kd fm to bl) 194 x = nwL kd fm to bl 30 ∧ fi (adr σ x kd fm to bl) 195 x = nwL kd fm to bl 32 ∧ fi (adr σ x kd fm to bl) 196 x = nwL kd fm to bl 33 ∧ fi (adr σ x kd fm to bl) 197 x = nwL kd fm to bl 34 ∧ fi (adr σ x kd fm to bl) 198 x = nwL kd fm to bl 35 ∧ fi (adr σ x kd fm to bl) 199 x = nwL kd fm to bl 36 ∧ fi (adr σ x kd fm to bl) 200 x = nwL kd fm to bl 37 ∧ fi (adr σ x kd fm to bl) 201 x = nwL kd fm to bl 38 ∧ fi (adr σ x kd fm to bl) 202 x = nwL kd fm to bl 39 := by
  refine ⟨?_, ?_, ?_, ?_, ?_, ?_, ?_, ?_, ?_, ?_, ?_⟩ <;> simp only [adr, rd_ne, rd_eq, Nat.reduceEqDiff, not_false_eq_true] <;> rfl
set_option maxHeartbeats 4000000 in
theorem sp_send {kd fm to bl : Int32} (hn : ln A ≤ 67) (hh : hs.length ≤ 1) (h : CRx N Y bd hs σ A f m g rf) (hP : ∀ σ' f' m' g', CRx N Y bd hs σ' (sdL A kd fm to bl) f' m' g' rf → HK (Y 4) σ σ' hs → P (some (.inr (f' (ln (dpL A kd fm to bl))))) σ') : Ctr m_Mail_send 8 [.inr (Y 5), .inl kd, .inl fm, .inl to, .inl bl] σ P := by
  have hle := dpL_le A kd fm to bl
  obtain ⟨A1, hA1⟩ : ∃ A1, A1 = dpL A kd fm to bl := ⟨_, rfl⟩
  have hsd : sdL A kd fm to bl = apL A1 (nwL kd fm to bl) := by rw [hA1]; rfl
  rw [hsd] at hP
  rw [← hA1] at hP hle
  obtain ⟨t5, t6, t7⟩ := h.1.2.2.2.2.2.2.1
  have fin : ∀ (σ2 : PS) (x m2 : Nat) (f2 g2 : Nat → Nat), CRx N Y bd (x :: hs) σ2 A1 f2 m2 g2 rf → HK (Y 4) σ σ2 hs → Wp m_Mail_send 8 53 [(0, .inr (Y 5)), (1, .inl kd), (2, .inl fm), (3, .inl to), (4, .inl bl)] [.inr x] σ2 (fun v σ' => RV m_Mail_send.2.2.2 v ∧ P v σ') := by
    intro σ2 x m2 f2 g2 hc hk
    have tx : tg σ2 x = 4 := (hc.2.2.2.2.2.1.2.2.2.2.2.2.2.1 x List.mem_cons_self).1
    have nd := (List.nodup_cons.mp hc.2.2.2.2.2.1.2.2.2.2.2.2.2.2.1).1
    refine p_astore e_Mail_send_53 (by decide) ?_
    refine p_aload e_Mail_send_55 rfl ?_
    refine p_iload_n e_Mail_send_57 rfl ?_
    refine p_iload_n e_Mail_send_58 rfl ?_
    refine p_iload_n e_Mail_send_59 rfl ?_
    refine p_iload e_Mail_send_60 rfl ?_
    refine p_inv (ci := 3) (d' := 1) [_, _, _, _] _ e_Mail_send_62 c_Mail_47 k_Letter_address i_Letter_address s_Letter_address rfl rfl (by assumption) rfl rfl (Nat.le_of_ble_eq_true rfl) (Nat.le_of_ble_eq_true rfl) ?_
    refine sp_Letter_address tx ?_
    have hc3 := CRx.adr (kd := kd) (fm := fm) (to := to) (bl := bl) hc
    have hk3 : HK (Y 4) σ (adr σ2 x kd fm to bl) hs := hk.tr (hk_adr nd)
    obtain ⟨c1, c2, c3, c4, c5, ⟨b1, b2, b3, b4, b5, b6, b7, b8, b9, b10⟩, c7, c8, c9, c10⟩ := id hc3
    obtain ⟨u5, u6, u7⟩ := c1.2.2.2.2.2.2.1
    have tw := b1.1
    have tx3 : tg (adr σ2 x kd fm to bl) x = 4 := tx
    refine p_aload_n e_Mail_send_65 rfl ?_
    refine p_gRv 256 e_Mail_send_66 f_Mail_12 rfl rfl (by assumption) u6 ?_
    refine p_aload e_Mail_send_69 rfl ?_
    refine p_inv (ci := 0) (d' := 6) [_] _ e_Mail_send_71 c_Mail_34 k_AL_add1 i_AL_add1 s_AL_add1 rfl rfl (by assumption) rfl rfl (Nat.le_of_ble_eq_true rfl) (Nat.le_of_ble_eq_true rfl) ?_
    refine sp_AL_add c2 b1 (by omega) (Or.inl tx3) (fun σ4 hA => ?_)
    refine p_pop e_Mail_send_74 ?_
    refine p_aload e_Mail_send_75 rfl ?_
    refine p_aret e_Mail_send_77 (rv_o ?_)
    have h4 := hP σ4 _ _ _ (hc3.adW hA (G := nwL kd fm to bl) adr_vals) (hk3.tr (HK.lf hA.1))
    rw [va_up_self] at h4
    exact h4
  have mid : ∀ (σ1 : PS) (m1 : Nat) (f1 g1 : Nat → Nat), CRx N Y bd hs σ1 A1 f1 m1 g1 rf → HK (Y 4) σ σ1 hs → Wp m_Mail_send 8 14 [(0, .inr (Y 5)), (1, .inl kd), (2, .inl fm), (3, .inl to), (4, .inl bl)] [] σ1 (fun v σ' => RV m_Mail_send.2.2.2 v ∧ P v σ') := by
    intro σ1 m1 f1 g1 hc hk
    obtain ⟨c1, c2, c3, c4, c5, ⟨b1, b2, b3, b4, b5, b6, b7, b8, b9, b10⟩, c7, c8, c9, c10⟩ := id hc
    obtain ⟨u5, u6, u7⟩ := c1.2.2.2.2.2.2.1
    have ts := b2.1
    have ss := b2.2.1
    refine p_aload_n e_Mail_send_14 rfl ?_
    refine p_gRv 257 e_Mail_send_15 f_Mail_18 rfl rfl (by assumption) u7 ?_
    refine p_inv (ci := 0) (d' := 1) [] _ e_Mail_send_18 c_Mail_42 k_AL_isEmpty i_AL_isEmpty s_AL_isEmpty rfl rfl (by assumption) rfl rfl (Nat.le_of_ble_eq_true rfl) (Nat.le_of_ble_eq_true rfl) ?_
    refine sp_AL_isEmpty ts ?_
    rw [ss]
    by_cases hm : m1 = 0
    · subst hm
      rw [if_pos nI_0]
      refine p_if_eq (tgt := 34) e_Mail_send_21 (by decide) (fun hx => absurd hx ((by decide))) (fun _ => ?_)
      refine p_new (ci := 3) (N := 11) e_Mail_send_24 rfl rfl l_Mail_29 n_Letter w_55 ?_
      have hn0 : nx σ1 ≠ 0 := by have := c2.1.1; omega
      refine p_dup e_Mail_send_27 ?_
      refine p_initN (d' := 1) [] _ e_Mail_send_28 c_Mail_46 k_Letter_init i_Letter_init rfl rfl (hn0) rfl rfl (Nat.le_of_ble_eq_true rfl) (Nat.le_of_ble_eq_true rfl) ?_
      refine sp_Letter_init hn0 ?_
      refine p_goto (tgt := 53) e_Mail_send_31 (by decide) ?_
      refine Wp.lv [(0, .inr (Y 5)), (1, .inl kd), (2, .inl fm), (3, .inl to), (4, .inl bl)] ⟨rfl, rfl, rfl, rfl, rfl, trivial⟩ ?_
      refine fin (pnew σ1 3 11) (nx σ1) 0 f1 g1 (hc.nwH (by omega)) (hk.tr (HK.new (fun y hy => c2.lt (r := y) (by have := (b8 y hy).1; omega))))
    · have hne : ¬ nI m1 = 0 := nI_ne0 (by omega) (by omega)
      rw [if_neg hne]
      refine p_if_eq (tgt := 34) e_Mail_send_21 (by decide) (fun _ => ?_) (fun hx => absurd (rfl) hx)
      have e1 : nI m1 - 1 = nI (m1 - 1) := by
        obtain ⟨k, rfl⟩ : ∃ k, m1 = k + 1 := ⟨m1 - 1, by omega⟩
        exact nI_pred k
      refine p_aload_n e_Mail_send_34 rfl ?_
      refine p_gRv 257 e_Mail_send_35 f_Mail_18 rfl rfl (by assumption) u7 ?_
      refine p_aload_n e_Mail_send_38 rfl ?_
      refine p_gRv 257 e_Mail_send_39 f_Mail_18 rfl rfl (by assumption) u7 ?_
      refine p_inv (ci := 0) (d' := 1) [] _ e_Mail_send_42 c_Mail_21 k_AL_size i_AL_size s_AL_size rfl rfl (by assumption) rfl rfl (Nat.le_of_ble_eq_true rfl) (Nat.le_of_ble_eq_true rfl) ?_
      refine sp_AL_size ts ?_
      rw [ss]
      refine p_iconst (x := 1) e_Mail_send_45 (by decide) ?_
      refine p_isub e_Mail_send_46 ?_
      refine p_top e1 ?_
      refine p_inv (ci := 0) (d' := 3) [_] _ e_Mail_send_47 c_Mail_31 k_AL_remove i_AL_remove s_AL_remove rfl rfl (by assumption) rfl rfl (Nat.le_of_ble_eq_true rfl) (Nat.le_of_ble_eq_true rfl) ?_
      refine sp_AL_remove b2 (by omega) (fun σ2 hR => ?_)
      have ht : tg σ2 (g1 (m1 - 1)) = 4 := by rw [hR.2.2.2.2.1]; exact b4 _ (by omega)
      refine p_cast (ci := 3) e_Mail_send_50 l_Mail_29 ⟨_, rfl, Or.inl rfl⟩ (by assumption) ⟨3, _, rfl, rfl⟩ ?_
      refine Wp.lv [(0, .inr (Y 5)), (1, .inl kd), (2, .inl fm), (3, .inl to), (4, .inl bl)] ⟨rfl, rfl, rfl, rfl, rfl, trivial⟩ ?_
      exact fin σ2 _ _ _ _ (hc.rmS (by omega) hR) (hk.tr (HK.lf hR.1))
  refine Ctr.of y_Mail_send (Nat.le_of_ble_eq_true rfl) ?_
  refine p_iload_n e_Mail_send_0 rfl ?_
  refine p_iconst (x := 3) e_Mail_send_1 (by decide) ?_
  refine p_icmp_eq (tgt := 14) e_Mail_send_2 (by decide) (fun h2 => ?_) (fun h2 => ?_)
  · refine Wp.lv [(0, .inr (Y 5)), (1, .inl kd), (2, .inl fm), (3, .inl to), (4, .inl bl)] ⟨rfl, rfl, rfl, rfl, rfl, trivial⟩ ?_
    subst h2
    rw [dpL_3] at hA1
    subst hA1
    exact mid σ m f g h HK.rf
  · refine p_aload_n e_Mail_send_5 rfl ?_
    refine p_iload_n e_Mail_send_6 rfl ?_
    refine p_iload_n e_Mail_send_7 rfl ?_
    refine p_iload_n e_Mail_send_8 rfl ?_
    refine p_iload e_Mail_send_9 rfl ?_
    refine p_inv (ci := 4) (d' := 7) [_, _, _, _] _ e_Mail_send_11 c_Mail_38 k_Mail_dropOlder i_Mail_dropOlder s_Mail_dropOlder rfl rfl (by assumption) rfl rfl (Nat.le_of_ble_eq_true rfl) (Nat.le_of_ble_eq_true rfl) ?_
    refine sp_dropOlder h2 h (fun σ1 f1 m1 g1 hc hk => ?_)
    rw [← hA1] at hc
    refine Wp.lv [(0, .inr (Y 5)), (1, .inl kd), (2, .inl fm), (3, .inl to), (4, .inl bl)] ⟨rfl, rfl, rfl, rfl, rfl, trivial⟩ ?_
    exact mid σ1 m1 f1 g1 hc hk
end Send
end
section
/-! giving, giving way, ending, asking -/
section Rows46
variable {M : MM} {d pc : Nat} {lv : List (Nat × PV)} {st : List PV} {σ : PS} {P : Option PV → PS → Prop}
theorem p_aaldv {ti r : Nat} {j : Int32} {n v : Nat} (hd : decode M.2.1 pc = .ok (.aaload, 1)) (hti : 2 ≤ ti ∧ ti < 6) (ht : tg σ r = 100 + ti) (hj : j = nI n) (hn : n < al σ r) (hb : n < 2 ^ 31) (hv : ar σ r n = v) (kk : Wp M d (pc + 1) lv (.inr v :: st) σ P) : Wp M d pc lv (.inl j :: .inr r :: st) σ P := by
  subst hv; exact p_aald hd hti ht hj hn hb kk
theorem p_ialdv {r : Nat} {j : Int32} {n : Nat} {v : Int32} (hd : decode M.2.1 pc = .ok (.iaload, 1)) (ht : tg σ r = 100) (hj : j = nI n) (hn : n < al σ r) (hb : n < 2 ^ 31) (hv : ai σ r n = v) (kk : Wp M d (pc + 1) lv (.inl v :: st) σ P) : Wp M d pc lv (.inl j :: .inr r :: st) σ P := by
  subst hv; exact p_iald hd ht hj hn hb kk
end Rows46
theorem sv_dpL {A : AS} {kd fm to bl : Int32} {k j : Nat} (hk : ¬ (29 ≤ k ∧ k < 40)) : sv (dpL A kd fm to bl) k j = sv A k j := by
  by_cases h3 : kd = 3
  · subst h3; rw [dpL_3]
  · by_cases h : ∃ i, fdL A kd fm to bl i
    · obtain ⟨i, hi⟩ := h
      rw [dpL_at h3 hi, sv_rmL, if_neg (fun z => hk z.1)]
    · unfold dpL
      rw [if_neg h3, dif_neg h]
theorem sv_sdL {A : AS} {kd fm to bl : Int32} {k j : Nat} (hk : ¬ (29 ≤ k ∧ k < 40)) : sv (sdL A kd fm to bl) k j = sv A k j := by
  unfold sdL
  rw [sv_apL, if_neg (fun z => hk z.1), sv_dpL hk]
/-- x gives to 'to' -/
noncomputable def gvA (A : AS) (x b : Nat) (to many ow wd : Int32) : AS := if many = 0 then A else
  set1 (set1 (set1 (set1 (set1 (set1 (set1 (sdL A 3 (nI x) to (nI b)) 33 (ln A) many) 34 (ln A) ow) 35 (ln A) wd) 36 (ln A) (sv A 8 (2 * x + b))) 5 (2 * x + b) (sv A 5 (2 * x + b) - many)) 6 (2 * x + b) (if sv A 6 (2 * x + b) ≠ 0 ∧ ow = 0 then 1 else 0)) 7 (2 * x + b) (if sv A 7 (2 * x + b) ≠ 0 ∧ 0 < sv A 5 (2 * x + b) - many then 1 else 0)
noncomputable def gwA (A : AS) (x b : Nat) : AS := if sv A 9 (2 * x + b) = -1 ∨ sv A 9 (2 * x + b) = nI x then A else if sv A 10 (2 * x + b) ≠ 0 then gvA A x b (sv A 9 (2 * x + b)) (sv A 5 (2 * x + b)) (sv A 6 (2 * x + b)) (sv A 6 (2 * x + b)) else if sv A 6 (2 * x + b) ≠ 0 then gvA A x b (sv A 9 (2 * x + b)) 1 1 1 else A
section TM1
variable {N : Nat} {Y : Nat → Nat} {bd : Nat × Nat × Nat} {hs : List Nat} {σ : PS} {A : AS} {f : Nat → Nat} {m : Nat} {g : Nat → Nat} {rf : Nat → Nat → Nat} {P : Option PV → PS → Prop}
theorem Lay.share (h : Lay N Y σ) {x b : Nat} (hx : x ≤ N) (hb : b < 2) (hP : P (some (.inr (Y (100 + (2 * x + b))))) σ) : Ctr m_TM_share 1 [.inr (Y 0), .inl (nI x), .inl (nI b)] σ P := by
  obtain ⟨a0, ⟨b1, b2, b3, b4, b5, -⟩, ⟨c1, c2, c3⟩, -⟩ := h
  exact sp_share b1 b5 c1 (by omega) (by omega) (c3 (2 * x + b) (by omega)).1 hP
set_option maxHeartbeats 4000000 in
theorem sp_give {x b : Nat} {to many ow wd : Int32} (hx : x ≤ N) (hb : b < 2) (how : ow = 0 ∨ ow = 1) (hwd : wd = 0 ∨ wd = 1) (hn : ln A ≤ 67) (hh : hs.length ≤ 1) (h : CRx N Y bd hs σ A f m g rf) (hP : ∀ σ' f' m' g', CRx N Y bd hs σ' (gvA A x b to many ow wd) f' m' g' rf → HK (Y 4) σ σ' hs → P none σ') : Ctr m_TM_give 9 [.inr (Y 0), .inl (nI x), .inl to, .inl (nI b), .inl many, .inl ow, .inl wd] σ P := by
  obtain ⟨a0, ⟨b1, b2, b3, b4, b5, b6, b7, b8, b9⟩, -⟩ := h.1
  have hi : 2 * x + b < 2 * N + 2 := by omega
  refine Ctr.of y_TM_give (Nat.le_of_ble_eq_true rfl) ?_
  refine p_iload e_TM_give_0 rfl ?_
  refine p_if_ne (tgt := 6) e_TM_give_2 (by decide) (fun h2 => ?_) (fun h2 => ?_)
  · refine p_aload_n e_TM_give_6 rfl ?_
    refine p_iload_n e_TM_give_7 rfl ?_
    refine p_iload_n e_TM_give_8 rfl ?_
    refine p_inv (ci := 7) (d' := 1) [_, _] _ e_TM_give_9 c_TM_159 k_TM_share i_TM_share s_TM_share rfl rfl (by assumption) rfl rfl (Nat.le_of_ble_eq_true rfl) (Nat.le_of_ble_eq_true rfl) ?_
    refine h.1.share hx hb ?_
    have ts : tg σ (Y (100 + (2 * x + b))) = 7 := h.1.sh hi
    refine p_astore e_TM_give_12 (by decide) ?_
    refine p_aload_n e_TM_give_14 rfl ?_
    refine p_gRv 457 e_TM_give_15 f_TM_67 rfl rfl (by assumption) b9 ?_
    refine p_iconst (x := 3) e_TM_give_18 (by decide) ?_
    refine p_iload_n e_TM_give_19 rfl ?_
    refine p_iload_n e_TM_give_20 rfl ?_
    refine p_iload_n e_TM_give_21 rfl ?_
    refine p_inv (ci := 4) (d' := 8) [_, _, _, _] _ e_TM_give_22 c_TM_225 k_Mail_send i_Mail_send s_Mail_send rfl rfl ((h.1.2.2.2.2.2.2.1).1) rfl rfl (Nat.le_of_ble_eq_true rfl) (Nat.le_of_ble_eq_true rfl) ?_
    refine sp_send (kd := 3) hn hh h (fun σ1 f1 m1 g1 hc hk => ?_)
    rw [dpL_3]
    have hl : ln A < ln (sdL A 3 (nI x) to (nI b)) := by unfold sdL; rw [dpL_3]; exact Nat.lt_succ_self _
    have tl : tg σ1 (f1 (ln A)) = 4 := (hc.2.2.2.2.2.1.2.2.1 _ hl).1
    have ts1 : tg σ1 (Y (100 + (2 * x + b))) = 7 := hc.1.sh hi
    have v8 : fi σ1 387 (Y (100 + (2 * x + b))) = sv A 8 (2 * x + b) := (hc.2.2.1.2.2.2.1 _ hi).trans (sv_sdL (by omega))
    have v5 : fi σ1 384 (Y (100 + (2 * x + b))) = sv A 5 (2 * x + b) := (hc.2.2.1.1 _ hi).trans (sv_sdL (by omega))
    have v6 : fi σ1 385 (Y (100 + (2 * x + b))) = sv A 6 (2 * x + b) := (hc.2.2.1.2.1 _ hi).trans (sv_sdL (by omega))
    have v7 : fi σ1 386 (Y (100 + (2 * x + b))) = sv A 7 (2 * x + b) := (hc.2.2.1.2.2.1 _ hi).trans (sv_sdL (by omega))
    have nh : f1 (ln A) ∉ hs := fun z => (hc.2.2.2.2.2.1.2.2.2.2.2.2.2.1 _ z).2.1 _ hl rfl
    refine p_astore e_TM_give_25 (by decide) ?_
    refine p_aload e_TM_give_27 rfl ?_
    refine p_iload e_TM_give_29 rfl ?_
    refine p_pI 196 e_TM_give_31 f_TM_230 rfl rfl (fun q h => by cases h; exact Or.inl rfl) rfl (by assumption) ?_
    refine p_aload e_TM_give_34 rfl ?_
    refine p_iload e_TM_give_36 rfl ?_
    refine p_pZ 197 e_TM_give_38 f_TM_211 rfl rfl (fun q h => by cases h; exact Or.inl rfl) rfl (by assumption) (by first | assumption | exact Or.inl rfl | exact Or.inr rfl) ?_
    refine p_aload e_TM_give_41 rfl ?_
    refine p_iload e_TM_give_43 rfl ?_
    refine p_pZ 198 e_TM_give_45 f_TM_231 rfl rfl (fun q h => by cases h; exact Or.inl rfl) rfl (by assumption) (by first | assumption | exact Or.inl rfl | exact Or.inr rfl) ?_
    refine p_aload e_TM_give_48 rfl ?_
    refine p_aload e_TM_give_50 rfl ?_
    refine p_gIv 387 e_TM_give_52 f_TM_183 rfl rfl (by assumption) v8 ?_
    refine p_pI 199 e_TM_give_55 f_TM_212 rfl rfl (fun q h => by cases h; exact Or.inl rfl) rfl (by assumption) ?_
    refine p_aload e_TM_give_58 rfl ?_
    refine p_iload e_TM_give_60 rfl ?_
    refine p_iload e_TM_give_62 rfl ?_
    have h4 := cl_199 (v := sv A 8 (2 * x + b)) (cl_198 (v := wd) (cl_197 (v := ow) (cl_196 (v := many) hc hl) hl) hl) hl
    have k4 : HK (Y 4) σ (pfi (pfi (pfi (pfi σ1 196 (f1 (ln A)) many) 197 (f1 (ln A)) ow) 198 (f1 (ln A)) wd) 199 (f1 (ln A)) (sv A 8 (2 * x + b))) hs := (((hk.tr (HK.put (Or.inr nh))).tr (HK.put (Or.inr nh))).tr (HK.put (Or.inr nh))).tr (HK.put (Or.inr nh))
    refine p_inv (ci := 6) (d' := 1) [_, _] _ e_TM_give_64 c_TM_234 k_Share_lose i_Share_lose s_Share_lose rfl rfl (by assumption) rfl rfl (Nat.le_of_ble_eq_true rfl) (Nat.le_of_ble_eq_true rfl) ?_
    refine sp_Share_lose ts1 ?_
    refine p_ret e_TM_give_67 (rv_v ?_)
    have h7 := cw_386 (v := (if sv A 7 (2 * x + b) ≠ 0 ∧ 0 < sv A 5 (2 * x + b) - many then 1 else 0)) (cw_385 (v := (if sv A 6 (2 * x + b) ≠ 0 ∧ ow = 0 then 1 else 0)) (cw_384 (v := sv A 5 (2 * x + b) - many) h4 hi) hi) hi
    have e5 : fi (pfi (pfi (pfi (pfi σ1 196 (f1 (ln A)) many) 197 (f1 (ln A)) ow) 198 (f1 (ln A)) wd) 199 (f1 (ln A)) (sv A 8 (2 * x + b))) 384 (Y (100 + (2 * x + b))) = sv A 5 (2 * x + b) := v5
    have e6 : fi (pfi (pfi (pfi (pfi σ1 196 (f1 (ln A)) many) 197 (f1 (ln A)) ow) 198 (f1 (ln A)) wd) 199 (f1 (ln A)) (sv A 8 (2 * x + b))) 385 (Y (100 + (2 * x + b))) = sv A 6 (2 * x + b) := v6
    have e7 : fi (pfi (pfi (pfi (pfi σ1 196 (f1 (ln A)) many) 197 (f1 (ln A)) ow) 198 (f1 (ln A)) wd) 199 (f1 (ln A)) (sv A 8 (2 * x + b))) 386 (Y (100 + (2 * x + b))) = sv A 7 (2 * x + b) := v7
    rw [e5, e6, e7]
    have hg : gvA A x b to many ow wd = _ := if_neg h2
    rw [hg] at hP
    exact hP _ f1 m1 g1 h7 (((k4.tr (HK.put (Or.inl (by omega)))).tr (HK.put (Or.inl (by omega)))).tr (HK.put (Or.inl (by omega))))
  · refine p_ret e_TM_give_5 (rv_v ?_)
    have hg : gvA A x b to many ow wd = A := if_pos h2
    rw [hg] at hP
    exact hP σ f m g h HK.rf
set_option maxHeartbeats 4000000 in
theorem sp_giveWay {x b : Nat} (hx : x ≤ N) (hb : b < 2) (how : sv A 6 (2 * x + b) = 0 ∨ sv A 6 (2 * x + b) = 1) (hn : ln A ≤ 67) (hh : hs.length ≤ 1) (h : CRx N Y bd hs σ A f m g rf) (hP : ∀ σ' f' m' g', CRx N Y bd hs σ' (gwA A x b) f' m' g' rf → HK (Y 4) σ σ' hs → P none σ') : Ctr m_TM_giveWay 10 [.inr (Y 0), .inl (nI x), .inl (nI b)] σ P := by
  obtain ⟨a0, ⟨b1, b2, b3, b4, b5, b6, b7, b8, b9⟩, -⟩ := h.1
  have hi : 2 * x + b < 2 * N + 2 := by omega
  have ts : tg σ (Y (100 + (2 * x + b))) = 7 := h.1.sh hi
  obtain ⟨s1, s2, s3, s4, s5, s6, s7⟩ := h.2.2.1
  have v5 := s1 _ hi
  have v6 := s2 _ hi
  have v9 := s5 _ hi
  have v10 := s6 _ hi
  unfold gwA at hP
  refine Ctr.of y_TM_giveWay (Nat.le_of_ble_eq_true rfl) ?_
  refine p_aload_n e_TM_giveWay_0 rfl ?_
  refine p_iload_n e_TM_giveWay_1 rfl ?_
  refine p_iload_n e_TM_giveWay_2 rfl ?_
  refine p_inv (ci := 7) (d' := 1) [_, _] _ e_TM_giveWay_3 c_TM_159 k_TM_share i_TM_share s_TM_share rfl rfl (by assumption) rfl rfl (Nat.le_of_ble_eq_true rfl) (Nat.le_of_ble_eq_true rfl) ?_
  refine h.1.share hx hb ?_
  refine p_astore_n e_TM_giveWay_6 (by decide) ?_
  refine p_aload_n e_TM_giveWay_7 rfl ?_
  refine p_gIv 388 e_TM_giveWay_8 f_TM_186 rfl rfl (by assumption) v9 ?_
  refine p_iconst (x := (-1)) e_TM_giveWay_11 (by decide) ?_
  refine p_icmp_eq (tgt := 23) e_TM_giveWay_12 (by decide) (fun h12 => ?_) (fun h12 => ?_)
  · refine p_ret e_TM_giveWay_23 (rv_v ?_)
    rw [if_pos (Or.inl h12)] at hP
    exact hP σ f m g h HK.rf
  refine p_aload_n e_TM_giveWay_15 rfl ?_
  refine p_gIv 388 e_TM_giveWay_16 f_TM_186 rfl rfl (by assumption) v9 ?_
  refine p_iload_n e_TM_giveWay_19 rfl ?_
  refine p_icmp_ne (tgt := 24) e_TM_giveWay_20 (by decide) (fun h20 => ?_) (fun h20 => ?_)
  · rw [if_neg (by rintro (q | q); exact h12 q; exact h20 q)] at hP
    refine p_aload_n e_TM_giveWay_24 rfl ?_
    refine p_gIv 389 e_TM_giveWay_25 f_TM_189 rfl rfl (by assumption) v10 ?_
    refine p_if_eq (tgt := 56) e_TM_giveWay_28 (by decide) (fun h28 => ?_) (fun h28 => ?_)
    · rw [if_neg (fun q => q h28)] at hP
      refine p_aload_n e_TM_giveWay_56 rfl ?_
      refine p_gIv 385 e_TM_giveWay_57 f_TM_57 rfl rfl (by assumption) v6 ?_
      refine p_if_eq (tgt := 76) e_TM_giveWay_60 (by decide) (fun h60 => ?_) (fun h60 => ?_)
      · rw [if_neg (fun q => q h60)] at hP
        refine p_ret e_TM_giveWay_76 (rv_v ?_)
        exact hP σ f m g h HK.rf
      · rw [if_pos h60] at hP
        refine p_aload_n e_TM_giveWay_63 rfl ?_
        refine p_iload_n e_TM_giveWay_64 rfl ?_
        refine p_aload_n e_TM_giveWay_65 rfl ?_
        refine p_gIv 388 e_TM_giveWay_66 f_TM_186 rfl rfl (by assumption) v9 ?_
        refine p_iload_n e_TM_giveWay_69 rfl ?_
        refine p_iconst (x := 1) e_TM_giveWay_70 (by decide) ?_
        refine p_iconst (x := 1) e_TM_giveWay_71 (by decide) ?_
        refine p_iconst (x := 1) e_TM_giveWay_72 (by decide) ?_
        refine p_inv (ci := 7) (d' := 9) [_, _, _, _, _, _] _ e_TM_giveWay_73 c_TM_166 k_TM_give i_TM_give s_TM_give rfl rfl (by assumption) rfl rfl (Nat.le_of_ble_eq_true rfl) (Nat.le_of_ble_eq_true rfl) ?_
        refine sp_give hx hb (Or.inr rfl) (Or.inr rfl) hn hh h (fun σ1 f1 m1 g1 hc hk => ?_)
        refine p_ret e_TM_giveWay_76 (rv_v ?_)
        exact hP σ1 f1 m1 g1 hc hk
    · rw [if_pos h28] at hP
      refine p_aload_n e_TM_giveWay_31 rfl ?_
      refine p_iload_n e_TM_giveWay_32 rfl ?_
      refine p_aload_n e_TM_giveWay_33 rfl ?_
      refine p_gIv 388 e_TM_giveWay_34 f_TM_186 rfl rfl (by assumption) v9 ?_
      refine p_iload_n e_TM_giveWay_37 rfl ?_
      refine p_aload_n e_TM_giveWay_38 rfl ?_
      refine p_gIv 384 e_TM_giveWay_39 f_TM_54 rfl rfl (by assumption) v5 ?_
      refine p_aload_n e_TM_giveWay_42 rfl ?_
      refine p_gIv 385 e_TM_giveWay_43 f_TM_57 rfl rfl (by assumption) v6 ?_
      refine p_aload_n e_TM_giveWay_46 rfl ?_
      refine p_gIv 385 e_TM_giveWay_47 f_TM_57 rfl rfl (by assumption) v6 ?_
      refine p_inv (ci := 7) (d' := 9) [_, _, _, _, _, _] _ e_TM_giveWay_50 c_TM_166 k_TM_give i_TM_give s_TM_give rfl rfl (by assumption) rfl rfl (Nat.le_of_ble_eq_true rfl) (Nat.le_of_ble_eq_true rfl) ?_
      refine sp_give hx hb how how hn hh h (fun σ1 f1 m1 g1 hc hk => ?_)
      refine p_goto (tgt := 76) e_TM_giveWay_53 (by decide) ?_
      refine p_ret e_TM_giveWay_76 (rv_v ?_)
      exact hP σ1 f1 m1 g1 hc hk
  · refine p_ret e_TM_giveWay_23 (rv_v ?_)
    rw [if_pos (Or.inr h20)] at hP
    exact hP σ f m g h HK.rf
end TM1
end
section
/-! ending and asking -/
theorem ln_sdL {A : AS} {kd fm to bl : Int32} : ln (sdL A kd fm to bl) = ln (dpL A kd fm to bl) + 1 := rfl
/-- the access of c on block b can end -/
def ceA (N : Nat) (A : AS) (c b : Nat) : Prop := sv A 7 (2 * c + b) ≠ 0 ∧ (sv A 13 c = 0 ∨ sv A 5 (2 * c + b) = nI (N + 1))
/-- it ends, but for the letter -/
def enB (A : AS) (c b : Nat) : AS := set1 (set1 (if sv A 13 c = 0 then set1 A 21 c (sv A 8 (2 * c + b)) else set1 (set1 A 21 c (sv A 8 (2 * c + b))) 8 (2 * c + b) (sv A 16 c)) 12 c 0) 20 c (sv A 20 c + 1)
theorem ln_enB {A : AS} {c b : Nat} : ln (enB A c b) = ln A := by
  unfold enB
  split <;> rfl
noncomputable def enA (N : Nat) (A : AS) (c b : Nat) : AS := if sv A 14 c = 0 then enB A c b else set1 (sdL (enB A c b) 6 (nI c) (nI N) 0) 37 (ln (dpL (enB A c b) 6 (nI c) (nI N) 0)) (sv A 17 c)
/-- c asks the nodes below x -/
noncomputable def akA (A : AS) (c : Nat) (kd bl : Int32) : Nat → AS
  | 0 => A
  | x + 1 => if x = c then akA A c kd bl x else sdL (akA A c kd bl x) kd (nI c) (nI x) bl
def rwk (A : AS) (c : Nat) : Int32 := if sv A 13 c = 0 then 1 else 2
theorem sv_akA {A : AS} {c : Nat} {kd bl : Int32} {k j : Nat} (hk : ¬ (29 ≤ k ∧ k < 40)) : ∀ x, sv (akA A c kd bl x) k j = sv A k j
  | 0 => rfl
  | x + 1 => by
    unfold akA
    by_cases e : x = c
    · rw [if_pos e]; exact sv_akA hk x
    · rw [if_neg e, sv_sdL hk]; exact sv_akA hk x
noncomputable def agA (N : Nat) (A : AS) (c : Nat) : AS := if sv A 18 c < sv A 2 0 then akA (set1 (set1 A 18 c (sv A 18 c + 1)) 19 c (sv A 4 0 + sv A 3 0)) c (rwk A c) (sv A 15 c) (N + 1) else
  set1 (set1 (sdL (set1 A 14 c 1) 4 (nI c) (nI N) (sv A 15 c)) 37 (ln (dpL (set1 A 14 c 1) 4 (nI c) (nI N) (sv A 15 c))) (sv A 17 c)) 39 (ln (dpL (set1 A 14 c 1) 4 (nI c) (nI N) (sv A 15 c))) (sv A 13 c)
section TM2
variable {N : Nat} {Y : Nat → Nat} {bd : Nat × Nat × Nat} {hs : List Nat} {σ : PS} {A : AS} {f : Nat → Nat} {m : Nat} {g : Nat → Nat} {rf : Nat → Nat → Nat} {P : Option PV → PS → Prop}
set_option maxHeartbeats 4000000 in
theorem sp_canEnd {c b : Nat} (hc : c < N) (hb : b < 2) (hbl : sv A 15 c = nI b) (h : CRx N Y bd hs σ A f m g rf) (k1 : ceA N A c b → P (some (.inl 1)) σ) (k0 : ¬ ceA N A c b → P (some (.inl 0)) σ) : Ctr m_TM_canEnd 2 [.inr (Y 0), .inl (nI c)] σ P := by
  obtain ⟨a0, ⟨b1, b2, b3, b4, b5, b6, b7, b8, b9⟩, -, ⟨d1, d2, d3⟩, -⟩ := h.1
  have hi : 2 * c + b < 2 * N + 2 := by omega
  have ts : tg σ (Y (100 + (2 * c + b))) = 7 := h.1.sh hi
  have tc : tg σ (Y (200 + c)) = 2 := h.1.co hc
  obtain ⟨s1, s2, s3, s4, s5, s6, s7⟩ := h.2.2.1
  obtain ⟨o1, o2, o3, o4, o5, o6, o7, o8, o9, o10⟩ := h.2.2.2.1
  have v15 : fi σ 67 (Y (200 + c)) = nI b := (o4 c hc).trans hbl
  have v13 := o3 c hc
  have v7 := s3 _ hi
  have v5 := s1 _ hi
  refine Ctr.of y_TM_canEnd (Nat.le_of_ble_eq_true rfl) ?_
  refine p_aload_n e_TM_canEnd_0 rfl ?_
  refine p_gRv 454 e_TM_canEnd_1 f_TM_38 rfl rfl (by assumption) b6 ?_
  refine p_iload_n e_TM_canEnd_4 rfl ?_
  refine p_aaldv e_TM_canEnd_5 (ti := 4) (n := c) (v := Y (200 + c)) (by decide) d1 rfl (by omega) (by omega) (d3 c hc).1 ?_
  refine p_astore_n e_TM_canEnd_6 (by decide) ?_
  refine p_aload_n e_TM_canEnd_7 rfl ?_
  refine p_iload_n e_TM_canEnd_8 rfl ?_
  refine p_aload_n e_TM_canEnd_9 rfl ?_
  refine p_gIv 67 e_TM_canEnd_10 f_TM_222 rfl rfl (by assumption) v15 ?_
  refine p_inv (ci := 7) (d' := 1) [_, _] _ e_TM_canEnd_13 c_TM_159 k_TM_share i_TM_share s_TM_share rfl rfl (by assumption) rfl rfl (Nat.le_of_ble_eq_true rfl) (Nat.le_of_ble_eq_true rfl) ?_
  refine h.1.share (by omega) hb ?_
  refine p_astore_n e_TM_canEnd_16 (by decide) ?_
  refine p_aload_n e_TM_canEnd_17 rfl ?_
  refine p_gIv 386 e_TM_canEnd_18 f_TM_61 rfl rfl (by assumption) v7 ?_
  refine p_if_eq (tgt := 46) e_TM_canEnd_21 (by decide) (fun h21 => ?_) (fun h21 => ?_)
  · refine p_iconst (x := 0) e_TM_canEnd_46 (by decide) ?_
    refine p_iret e_TM_canEnd_47 (rv_z (by first | assumption | exact Or.inl rfl | exact Or.inr rfl) ?_)
    exact k0 (fun q => q.1 h21)
  refine p_aload_n e_TM_canEnd_24 rfl ?_
  refine p_gIv 66 e_TM_canEnd_25 f_TM_223 rfl rfl (by assumption) v13 ?_
  refine p_if_eq (tgt := 42) e_TM_canEnd_28 (by decide) (fun h28 => ?_) (fun h28 => ?_)
  · refine p_iconst (x := 1) e_TM_canEnd_42 (by decide) ?_
    refine p_goto (tgt := 47) e_TM_canEnd_43 (by decide) ?_
    refine p_iret e_TM_canEnd_47 (rv_z (by first | assumption | exact Or.inl rfl | exact Or.inr rfl) ?_)
    exact k1 ⟨h21, Or.inl h28⟩
  refine p_aload_n e_TM_canEnd_31 rfl ?_
  refine p_gIv 384 e_TM_canEnd_32 f_TM_54 rfl rfl (by assumption) v5 ?_
  refine p_aload_n e_TM_canEnd_35 rfl ?_
  refine p_gIv 450 e_TM_canEnd_36 f_TM_26 rfl rfl (by assumption) b4 ?_
  refine p_icmp_ne (tgt := 46) e_TM_canEnd_39 (by decide) (fun h39 => ?_) (fun h39 => ?_)
  · refine p_iconst (x := 0) e_TM_canEnd_46 (by decide) ?_
    refine p_iret e_TM_canEnd_47 (rv_z (by first | assumption | exact Or.inl rfl | exact Or.inr rfl) ?_)
    refine k0 (fun q => ?_)
    rcases q.2 with q | q
    · exact h28 q
    · exact h39 q
  · refine p_iconst (x := 1) e_TM_canEnd_42 (by decide) ?_
    refine p_goto (tgt := 47) e_TM_canEnd_43 (by decide) ?_
    refine p_iret e_TM_canEnd_47 (rv_z (by first | assumption | exact Or.inl rfl | exact Or.inr rfl) ?_)
    exact k1 ⟨h21, Or.inr h39⟩
set_option maxHeartbeats 4000000 in
theorem sp_end {c b : Nat} (hc : c < N) (hb : b < 2) (hbl : sv A 15 c = nI b) (hn : ln A ≤ 67) (hh : hs.length ≤ 1) (h : CRx N Y bd hs σ A f m g rf) (hP : ∀ σ' f' m' g', CRx N Y bd hs σ' (enA N A c b) f' m' g' rf → HK (Y 4) σ σ' hs → P none σ') : Ctr m_TM_endd 9 [.inr (Y 0), .inl (nI c)] σ P := by
  obtain ⟨a0, ⟨b1, b2, b3, b4, b5, b6, b7, b8, b9⟩, -, ⟨d1, d2, d3⟩, -⟩ := h.1
  have hi : 2 * c + b < 2 * N + 2 := by omega
  have ts : tg σ (Y (100 + (2 * c + b))) = 7 := h.1.sh hi
  have tc : tg σ (Y (200 + c)) = 2 := h.1.co hc
  have t5 := (h.1.2.2.2.2.2.2.1).1
  obtain ⟨s1, s2, s3, s4, s5, s6, s7⟩ := h.2.2.1
  obtain ⟨o1, o2, o3, o4, o5, o6, o7, o8, o9, o10⟩ := h.2.2.2.1
  have v15 : fi σ 67 (Y (200 + c)) = nI b := (o4 c hc).trans hbl
  have v13 := o3 c hc
  have v16 := o5 c hc
  have v8 := s4 _ hi
  have v20 := o9 c hc
  have v14 := o8 c hc
  have v17 := o1 c hc
  have tail : ∀ (σ1 : PS) (A1 : AS), CRx N Y bd hs σ1 A1 f m g rf → HK (Y 4) σ σ1 hs → A1 = (if sv A 13 c = 0 then set1 A 21 c (sv A 8 (2 * c + b)) else set1 (set1 A 21 c (sv A 8 (2 * c + b))) 8 (2 * c + b) (sv A 16 c)) → fi σ1 72 (Y (200 + c)) = sv A 20 c → fi σ1 71 (Y (200 + c)) = sv A 14 c → fi σ1 64 (Y (200 + c)) = sv A 17 c →
      Wp m_TM_endd 9 40 [(3, .inr (Y (100 + (2 * c + b)))), (2, .inr (Y (200 + c))), (0, .inr (Y 0)), (1, .inl (nI c))] [] σ1 (fun v σ' => RV m_TM_endd.2.2.2 v ∧ P v σ') := by
    intro σ1 A1 hc1 hk1 eA w20 w14 w17
    have tc1 : tg σ1 (Y (200 + c)) = 2 := hc1.1.co hc
    have tx1 : tg σ1 (Y 0) = 8 := hc1.1.2.1.1
    have u9 : fr σ1 457 (Y 0) = Y 5 := hc1.1.2.1.2.2.2.2.2.2.2.2
    have u3 : fi σ1 449 (Y 0) = nI N := hc1.1.2.1.2.2.1
    refine p_aload_n e_TM_endd_40 rfl ?_
    refine p_iconst (x := 0) e_TM_endd_41 (by decide) ?_
    refine p_pZ 65 e_TM_endd_42 f_TM_78 rfl rfl (fun q h => by cases h; exact Or.inl rfl) rfl (by assumption) (by first | assumption | exact Or.inl rfl | exact Or.inr rfl) ?_
    refine p_aload_n e_TM_endd_45 rfl ?_
    refine p_dup e_TM_endd_46 ?_
    refine p_gIv 72 e_TM_endd_47 f_TM_205 rfl rfl (by assumption) w20 ?_
    refine p_iconst (x := 1) e_TM_endd_50 (by decide) ?_
    refine p_iadd e_TM_endd_51 ?_
    have h2 := cw_72 (v := sv A 20 c + 1) (cw_65 (v := 0) hc1 hc) hc
    have k2 : HK (Y 4) σ (pfi (pfi σ1 65 (Y (200 + c)) 0) 72 (Y (200 + c)) (sv A 20 c + 1)) hs := (hk1.tr (HK.put (Or.inl (by omega)))).tr (HK.put (Or.inl (by omega)))
    have eB : set1 (set1 A1 12 c 0) 20 c (sv A 20 c + 1) = enB A c b := by rw [eA]; rfl
    rw [eB] at h2
    refine p_pI 72 e_TM_endd_52 f_TM_205 rfl rfl (fun q h => by cases h; exact Or.inl rfl) rfl (by assumption) ?_
    refine p_aload_n e_TM_endd_55 rfl ?_
    refine p_gIv 71 e_TM_endd_56 f_TM_202 rfl rfl (by assumption) w14 ?_
    unfold enA at hP
    refine p_if_eq (tgt := 88) e_TM_endd_59 (by decide) (fun h59 => ?_) (fun h59 => ?_)
    · rw [if_pos h59] at hP
      refine p_ret e_TM_endd_88 (rv_v ?_)
      exact hP _ _ _ _ h2 k2
    · rw [if_neg h59] at hP
      refine p_aload_n e_TM_endd_62 rfl ?_
      refine p_gRv 457 e_TM_endd_63 f_TM_67 rfl rfl (by assumption) u9 ?_
      refine p_bipush (x := 6) e_TM_endd_66 (by decide) ?_
      refine p_iload_n e_TM_endd_68 rfl ?_
      refine p_aload_n e_TM_endd_69 rfl ?_
      refine p_gIv 449 e_TM_endd_70 f_TM_23 rfl rfl (by assumption) u3 ?_
      refine p_iconst (x := 0) e_TM_endd_73 (by decide) ?_
      refine p_inv (ci := 4) (d' := 8) [_, _, _, _] _ e_TM_endd_74 c_TM_225 k_Mail_send i_Mail_send s_Mail_send rfl rfl ((h2.1.2.2.2.2.2.2.1).1) rfl rfl (Nat.le_of_ble_eq_true rfl) (Nat.le_of_ble_eq_true rfl) ?_
      refine sp_send (kd := 6) (fm := nI c) (to := nI N) (bl := 0) (by rw [ln_enB]; exact hn) hh h2 (fun σ3 f3 m3 g3 hc3 hk3 => ?_)
      have hl : ln (dpL (enB A c b) 6 (nI c) (nI N) 0) < ln (sdL (enB A c b) 6 (nI c) (nI N) 0) := by rw [ln_sdL]; exact Nat.lt_succ_self _
      have tl : tg σ3 (f3 (ln (dpL (enB A c b) 6 (nI c) (nI N) 0))) = 4 := (hc3.2.2.2.2.2.1.2.2.1 _ hl).1
      have tc3 : tg σ3 (Y (200 + c)) = 2 := hc3.1.co hc
      have nh : f3 (ln (dpL (enB A c b) 6 (nI c) (nI N) 0)) ∉ hs := fun z => (hc3.2.2.2.2.2.1.2.2.2.2.2.2.2.1 _ z).2.1 _ hl rfl
      have w17' : fi σ3 64 (Y (200 + c)) = sv A 17 c := by
        rw [hc3.2.2.2.1.1 c hc, sv_sdL (by omega)]
        unfold enB
        split <;> rfl
      refine p_astore e_TM_endd_77 (by decide) ?_
      refine p_aload e_TM_endd_79 rfl ?_
      refine p_aload_n e_TM_endd_81 rfl ?_
      refine p_gIv 64 e_TM_endd_82 f_TM_229 rfl rfl (by assumption) w17' ?_
      refine p_pI 200 e_TM_endd_85 f_TM_139 rfl rfl (fun q h => by cases h; exact Or.inl rfl) rfl (by assumption) ?_
      refine p_ret e_TM_endd_88 (rv_v ?_)
      exact hP _ _ _ _ (cl_200 hc3 hl) ((k2.tr hk3).tr (HK.put (Or.inr nh)))
  refine Ctr.of y_TM_endd (Nat.le_of_ble_eq_true rfl) ?_
  refine p_aload_n e_TM_endd_0 rfl ?_
  refine p_gRv 454 e_TM_endd_1 f_TM_38 rfl rfl (by assumption) b6 ?_
  refine p_iload_n e_TM_endd_4 rfl ?_
  refine p_aaldv e_TM_endd_5 (ti := 4) (n := c) (v := Y (200 + c)) (by decide) d1 rfl (by omega) (by omega) (d3 c hc).1 ?_
  refine p_astore_n e_TM_endd_6 (by decide) ?_
  refine p_aload_n e_TM_endd_7 rfl ?_
  refine p_iload_n e_TM_endd_8 rfl ?_
  refine p_aload_n e_TM_endd_9 rfl ?_
  refine p_gIv 67 e_TM_endd_10 f_TM_222 rfl rfl (by assumption) v15 ?_
  refine p_inv (ci := 7) (d' := 1) [_, _] _ e_TM_endd_13 c_TM_159 k_TM_share i_TM_share s_TM_share rfl rfl (by assumption) rfl rfl (Nat.le_of_ble_eq_true rfl) (Nat.le_of_ble_eq_true rfl) ?_
  refine h.1.share (by omega) hb ?_
  refine p_astore_n e_TM_endd_16 (by decide) ?_
  refine p_aload_n e_TM_endd_17 rfl ?_
  refine p_aload_n e_TM_endd_18 rfl ?_
  refine p_gIv 387 e_TM_endd_19 f_TM_183 rfl rfl (by assumption) v8 ?_
  refine p_pI 73 e_TM_endd_22 f_TM_208 rfl rfl (fun q h => by cases h; exact Or.inl rfl) rfl (by assumption) ?_
  have h1 := cw_73 (v := sv A 8 (2 * c + b)) h hc
  have k1 : HK (Y 4) σ (pfi σ 73 (Y (200 + c)) (sv A 8 (2 * c + b))) hs := HK.put (Or.inl (by omega))
  refine p_aload_n e_TM_endd_25 rfl ?_
  refine p_gIv 66 e_TM_endd_26 f_TM_223 rfl rfl (by assumption) v13 ?_
  refine p_if_eq (tgt := 40) e_TM_endd_29 (by decide) (fun h29 => ?_) (fun h29 => ?_)
  · refine Wp.lv [(3, .inr (Y (100 + (2 * c + b)))), (2, .inr (Y (200 + c))), (0, .inr (Y 0)), (1, .inl (nI c))] ⟨rfl, rfl, rfl, rfl, trivial⟩ ?_
    exact tail _ _ h1 k1 (if_pos h29).symm v20 v14 v17
  · refine p_aload_n e_TM_endd_32 rfl ?_
    refine p_aload_n e_TM_endd_33 rfl ?_
    refine p_gIv 68 e_TM_endd_34 f_TM_224 rfl rfl (by assumption) v16 ?_
    refine p_pI 387 e_TM_endd_37 f_TM_183 rfl rfl (fun q h => by cases h; exact Or.inl rfl) rfl (by assumption) ?_
    refine Wp.lv [(3, .inr (Y (100 + (2 * c + b)))), (2, .inr (Y (200 + c))), (0, .inr (Y 0)), (1, .inl (nI c))] ⟨rfl, rfl, rfl, rfl, trivial⟩ ?_
    exact tail _ _ (cw_387 h1 hi) (k1.tr (HK.put (Or.inl (by omega)))) (if_neg h29).symm v20 v14 v17
set_option maxHeartbeats 4000000 in
theorem sp_ask {c : Nat} (hc : c < N) (hn : ∀ x, x ≤ N + 1 → ln (akA A c (rwk A c) (sv A 15 c) x) ≤ 67) (hh : hs.length ≤ 1) (h : CRx N Y bd hs σ A f m g rf) (hP : ∀ σ' f' m' g', CRx N Y bd hs σ' (akA A c (rwk A c) (sv A 15 c) (N + 1)) f' m' g' rf → HK (Y 4) σ σ' hs → P none σ') : Ctr m_TM_ask 9 [.inr (Y 0), .inl (nI c)] σ P := by
  obtain ⟨a0, ⟨b1, b2, b3, b4, b5, b6, b7, b8, b9⟩, -, ⟨d1, d2, d3⟩, -⟩ := h.1
  have loop : ∀ k x, x + k = N + 1 → ∀ (σ1 : PS) (m1 : Nat) (f1 g1 : Nat → Nat), CRx N Y bd hs σ1 (akA A c (rwk A c) (sv A 15 c) x) f1 m1 g1 rf → HK (Y 4) σ σ1 hs → Wp m_TM_ask 9 9 [(3, .inl (nI x)), (2, .inr (Y (200 + c))), (0, .inr (Y 0)), (1, .inl (nI c))] [] σ1 (fun v σ' => RV m_TM_ask.2.2.2 v ∧ P v σ') := by
    intro k
    induction k with
    | zero =>
      intro x hx σ1 m1 f1 g1 hc1 hk1
      have tx1 : tg σ1 (Y 0) = 8 := hc1.1.2.1.1
      have u3 : fi σ1 449 (Y 0) = nI N := hc1.1.2.1.2.2.1
      refine p_iload_n e_TM_ask_9 rfl ?_
      refine p_aload_n e_TM_ask_10 rfl ?_
      refine p_gIv 449 e_TM_ask_11 f_TM_23 rfl rfl (by assumption) u3 ?_
      refine p_icmp_gt (tgt := 54) e_TM_ask_14 (by decide) (fun _ => ?_) (fun hx => absurd (nI_lt (by omega) (by omega)) hx)
      refine p_ret e_TM_ask_54 (rv_v ?_)
      have ex : x = N + 1 := by omega
      subst ex
      exact hP _ _ _ _ hc1 hk1
    | succ k ih =>
      intro x hx σ1 m1 f1 g1 hc1 hk1
      have tx1 : tg σ1 (Y 0) = 8 := hc1.1.2.1.1
      have u3 : fi σ1 449 (Y 0) = nI N := hc1.1.2.1.2.2.1
      have u9 : fr σ1 457 (Y 0) = Y 5 := hc1.1.2.1.2.2.2.2.2.2.2.2
      have t5 := (hc1.1.2.2.2.2.2.2.1).1
      have tc1 : tg σ1 (Y (200 + c)) = 2 := hc1.1.co hc
      have w13 : fi σ1 66 (Y (200 + c)) = sv A 13 c := (hc1.2.2.2.1.2.2.1 c hc).trans (sv_akA (by omega) x)
      have w15 : fi σ1 67 (Y (200 + c)) = sv A 15 c := (hc1.2.2.2.1.2.2.2.1 c hc).trans (sv_akA (by omega) x)
      refine p_iload_n e_TM_ask_9 rfl ?_
      refine p_aload_n e_TM_ask_10 rfl ?_
      refine p_gIv 449 e_TM_ask_11 f_TM_23 rfl rfl (by assumption) u3 ?_
      refine p_icmp_gt (tgt := 54) e_TM_ask_14 (by decide) (fun hx => absurd hx (nI_nlt (by omega) (by omega))) (fun _ => ?_)
      refine p_iload_n e_TM_ask_17 rfl ?_
      refine p_iload_n e_TM_ask_18 rfl ?_
      have next : ∀ (σ2 : PS) (m2 : Nat) (f2 g2 : Nat → Nat), CRx N Y bd hs σ2 (akA A c (rwk A c) (sv A 15 c) (x + 1)) f2 m2 g2 rf → HK (Y 4) σ σ2 hs → Wp m_TM_ask 9 48 [(3, .inl (nI x)), (2, .inr (Y (200 + c))), (0, .inr (Y 0)), (1, .inl (nI c))] [] σ2 (fun v σ' => RV m_TM_ask.2.2.2 v ∧ P v σ') := by
        intro σ2 m2 f2 g2 hc2 hk2
        refine p_iinc e_TM_ask_48 rfl rfl (by decide) ?_
        refine p_goto (tgt := 9) e_TM_ask_51 (by decide) ?_
        refine Wp.lv [(3, .inl (nI (x + 1))), (2, .inr (Y (200 + c))), (0, .inr (Y 0)), (1, .inl (nI c))] ⟨congrArg (fun z => some (Sum.inl z)) (nI_1 x), rfl, rfl, rfl, trivial⟩ ?_
        exact ih (x + 1) (by omega) σ2 m2 f2 g2 hc2 hk2
      by_cases e : x = c
      · refine p_icmp_eq (tgt := 48) e_TM_ask_19 (by decide) (fun _ => ?_) (fun hx => absurd (by rw [e]) hx)
        refine next σ1 m1 f1 g1 ?_ hk1
        unfold akA
        rw [if_pos e]
        exact hc1
      · refine p_icmp_eq (tgt := 48) e_TM_ask_19 (by decide) (fun hx => absurd hx (fun q => e ((nI_eq (by omega) (by omega)).mp q))) (fun _ => ?_)
        have ek : akA A c (rwk A c) (sv A 15 c) (x + 1) = sdL (akA A c (rwk A c) (sv A 15 c) x) (rwk A c) (nI c) (nI x) (sv A 15 c) := by
          rw [akA, if_neg e]
        rw [ek] at next
        have snd : Wp m_TM_ask 9 38 [(3, .inl (nI x)), (2, .inr (Y (200 + c))), (0, .inr (Y 0)), (1, .inl (nI c))] [.inl (rwk A c), .inr (Y 5)] σ1 (fun v σ' => RV m_TM_ask.2.2.2 v ∧ P v σ') := by
          refine p_iload_n e_TM_ask_38 rfl ?_
          refine p_iload_n e_TM_ask_39 rfl ?_
          refine p_aload_n e_TM_ask_40 rfl ?_
          refine p_gIv 67 e_TM_ask_41 f_TM_222 rfl rfl (by assumption) w15 ?_
          refine p_inv (ci := 4) (d' := 8) [_, _, _, _] _ e_TM_ask_44 c_TM_225 k_Mail_send i_Mail_send s_Mail_send rfl rfl (by assumption) rfl rfl (Nat.le_of_ble_eq_true rfl) (Nat.le_of_ble_eq_true rfl) ?_
          refine sp_send (hn x (by omega)) hh hc1 (fun σ2 f2 m2 g2 hc2 hk2 => ?_)
          refine p_pop e_TM_ask_47 ?_
          exact next σ2 m2 f2 g2 hc2 (hk1.tr hk2)
        refine p_aload_n e_TM_ask_22 rfl ?_
        refine p_gRv 457 e_TM_ask_23 f_TM_67 rfl rfl (by assumption) u9 ?_
        refine p_aload_n e_TM_ask_26 rfl ?_
        refine p_gIv 66 e_TM_ask_27 f_TM_223 rfl rfl (by assumption) w13 ?_
        refine p_if_eq (tgt := 37) e_TM_ask_30 (by decide) (fun h30 => ?_) (fun h30 => ?_)
        · have er : rwk A c = 1 := if_pos h30
          rw [er] at snd
          refine p_iconst (x := 1) e_TM_ask_37 (by decide) ?_
          exact snd
        · have er : rwk A c = 2 := if_neg h30
          rw [er] at snd
          refine p_iconst (x := 2) e_TM_ask_33 (by decide) ?_
          refine p_goto (tgt := 38) e_TM_ask_34 (by decide) ?_
          exact snd
  refine Ctr.of y_TM_ask (Nat.le_of_ble_eq_true rfl) ?_
  refine p_aload_n e_TM_ask_0 rfl ?_
  refine p_gRv 454 e_TM_ask_1 f_TM_38 rfl rfl (by assumption) b6 ?_
  refine p_iload_n e_TM_ask_4 rfl ?_
  refine p_aaldv e_TM_ask_5 (ti := 4) (n := c) (v := Y (200 + c)) (by decide) d1 rfl (by omega) (by omega) (d3 c hc).1 ?_
  refine p_astore_n e_TM_ask_6 (by decide) ?_
  refine p_iconst (x := 0) e_TM_ask_7 (by decide) ?_
  refine p_istore_n e_TM_ask_8 (by decide) ?_
  exact Wp.lv [(3, .inl (nI 0)), (2, .inr (Y (200 + c))), (0, .inr (Y 0)), (1, .inl (nI c))] ⟨rfl, rfl, rfl, rfl, trivial⟩ (loop (N + 1) 0 (by omega) σ m f g h HK.rf)
set_option maxHeartbeats 4000000 in
theorem sp_askAgain {c : Nat} (hc : c < N) (hw : sv A 13 c = 0 ∨ sv A 13 c = 1) (hn0 : ln A ≤ 67) (hn : ∀ x, x ≤ N + 1 → ln (akA (set1 (set1 A 18 c (sv A 18 c + 1)) 19 c (sv A 4 0 + sv A 3 0)) c (rwk A c) (sv A 15 c) x) ≤ 67) (hh : hs.length ≤ 1) (h : CRx N Y bd hs σ A f m g rf) (hP : ∀ σ' f' m' g', CRx N Y bd hs σ' (agA N A c) f' m' g' rf → HK (Y 4) σ σ' hs → P none σ') : Ctr m_TM_askAgain 10 [.inr (Y 0), .inl (nI c)] σ P := by
  obtain ⟨a0, ⟨b1, b2, b3, b4, b5, b6, b7, b8, b9⟩, -, ⟨d1, d2, d3⟩, -⟩ := h.1
  have tc : tg σ (Y (200 + c)) = 2 := h.1.co hc
  obtain ⟨o1, o2, o3, o4, o5, o6, o7, o8, o9, o10⟩ := h.2.2.2.1
  obtain ⟨p1, p2, p3, p4⟩ := h.2.2.2.2.1
  have v18 := o6 c hc
  refine Ctr.of y_TM_askAgain (Nat.le_of_ble_eq_true rfl) ?_
  refine p_aload_n e_TM_askAgain_0 rfl ?_
  refine p_gRv 454 e_TM_askAgain_1 f_TM_38 rfl rfl (by assumption) b6 ?_
  refine p_iload_n e_TM_askAgain_4 rfl ?_
  refine p_aaldv e_TM_askAgain_5 (ti := 4) (n := c) (v := Y (200 + c)) (by decide) d1 rfl (by omega) (by omega) (d3 c hc).1 ?_
  refine p_astore_n e_TM_askAgain_6 (by decide) ?_
  refine p_aload_n e_TM_askAgain_7 rfl ?_
  refine p_gIv 69 e_TM_askAgain_8 f_TM_199 rfl rfl (by assumption) v18 ?_
  refine p_aload_n e_TM_askAgain_11 rfl ?_
  refine p_gIv 451 e_TM_askAgain_12 f_TM_17 rfl rfl (by assumption) p1 ?_
  unfold agA at hP
  refine p_icmp_ge (tgt := 47) e_TM_askAgain_15 (by decide) (fun h15 => ?_) (fun h15 => ?_)
  · rw [if_neg (Int32.not_lt.mpr h15)] at hP
    have h1 := cw_71 (v := 1) h hc
    have v15 : fi (pfi σ 71 (Y (200 + c)) 1) 67 (Y (200 + c)) = sv A 15 c := o4 c hc
    refine p_aload_n e_TM_askAgain_47 rfl ?_
    refine p_iconst (x := 1) e_TM_askAgain_48 (by decide) ?_
    refine p_pZ 71 e_TM_askAgain_49 f_TM_202 rfl rfl (fun q h => by cases h; exact Or.inl rfl) rfl (by assumption) (by first | assumption | exact Or.inl rfl | exact Or.inr rfl) ?_
    refine p_aload_n e_TM_askAgain_52 rfl ?_
    refine p_gRv 457 e_TM_askAgain_53 f_TM_67 rfl rfl (by assumption) b9 ?_
    refine p_iconst (x := 4) e_TM_askAgain_56 (by decide) ?_
    refine p_iload_n e_TM_askAgain_57 rfl ?_
    refine p_aload_n e_TM_askAgain_58 rfl ?_
    refine p_gIv 449 e_TM_askAgain_59 f_TM_23 rfl rfl (by assumption) b3 ?_
    refine p_aload_n e_TM_askAgain_62 rfl ?_
    refine p_gIv 67 e_TM_askAgain_63 f_TM_222 rfl rfl (by assumption) v15 ?_
    refine p_inv (ci := 4) (d' := 8) [_, _, _, _] _ e_TM_askAgain_66 c_TM_225 k_Mail_send i_Mail_send s_Mail_send rfl rfl ((h1.1.2.2.2.2.2.2.1).1) rfl rfl (Nat.le_of_ble_eq_true rfl) (Nat.le_of_ble_eq_true rfl) ?_
    refine sp_send (A := set1 A 14 c 1) (kd := 4) (fm := nI c) (to := nI N) (bl := sv A 15 c) hn0 hh h1 (fun σ3 f3 m3 g3 hc3 hk3 => ?_)
    have hl : ln (dpL (set1 A 14 c 1) 4 (nI c) (nI N) (sv A 15 c)) < ln (sdL (set1 A 14 c 1) 4 (nI c) (nI N) (sv A 15 c)) := by rw [ln_sdL]; exact Nat.lt_succ_self _
    have tl : tg σ3 (f3 (ln (dpL (set1 A 14 c 1) 4 (nI c) (nI N) (sv A 15 c)))) = 4 := (hc3.2.2.2.2.2.1.2.2.1 _ hl).1
    have tc3 : tg σ3 (Y (200 + c)) = 2 := hc3.1.co hc
    have nh : f3 (ln (dpL (set1 A 14 c 1) 4 (nI c) (nI N) (sv A 15 c))) ∉ hs := fun z => (hc3.2.2.2.2.2.1.2.2.2.2.2.2.2.1 _ z).2.1 _ hl rfl
    have w17 : fi σ3 64 (Y (200 + c)) = sv A 17 c := (hc3.2.2.2.1.1 c hc).trans (sv_sdL (by omega))
    have w13 : fi σ3 66 (Y (200 + c)) = sv A 13 c := (hc3.2.2.2.1.2.2.1 c hc).trans (sv_sdL (by omega))
    refine p_astore_n e_TM_askAgain_69 (by decide) ?_
    refine p_aload_n e_TM_askAgain_70 rfl ?_
    refine p_aload_n e_TM_askAgain_71 rfl ?_
    refine p_gIv 64 e_TM_askAgain_72 f_TM_229 rfl rfl (by assumption) w17 ?_
    refine p_pI 200 e_TM_askAgain_75 f_TM_139 rfl rfl (fun q h => by cases h; exact Or.inl rfl) rfl (by assumption) ?_
    refine p_aload_n e_TM_askAgain_78 rfl ?_
    refine p_aload_n e_TM_askAgain_79 rfl ?_
    refine p_gIv 66 e_TM_askAgain_80 f_TM_223 rfl rfl (by assumption) w13 ?_
    refine p_pZ 202 e_TM_askAgain_83 f_TM_142 rfl rfl (fun q h => by cases h; exact Or.inl rfl) rfl (by assumption) (by first | assumption | exact Or.inl rfl | exact Or.inr rfl) ?_
    refine p_ret e_TM_askAgain_86 (rv_v ?_)
    have k1 : HK (Y 4) σ (pfi σ 71 (Y (200 + c)) 1) hs := HK.put (Or.inl (by omega))
    exact hP _ _ _ _ (cl_202 (cl_200 hc3 hl) hl) (((k1.tr hk3).tr (HK.put (Or.inr nh))).tr (HK.put (Or.inr nh)))
  · rw [if_pos (Int32.not_le.mp h15)] at hP
    have h1 := cw_69 (v := sv A 18 c + 1) h hc
    refine p_aload_n e_TM_askAgain_18 rfl ?_
    refine p_dup e_TM_askAgain_19 ?_
    refine p_gIv 69 e_TM_askAgain_20 f_TM_199 rfl rfl (by assumption) v18 ?_
    refine p_iconst (x := 1) e_TM_askAgain_23 (by decide) ?_
    refine p_iadd e_TM_askAgain_24 ?_
    refine p_pI 69 e_TM_askAgain_25 f_TM_199 rfl rfl (fun q h => by cases h; exact Or.inl rfl) rfl (by assumption) ?_
    refine p_aload_n e_TM_askAgain_28 rfl ?_
    refine p_aload_n e_TM_askAgain_29 rfl ?_
    refine p_gIv 458 e_TM_askAgain_30 f_TM_92 rfl rfl (by assumption) p3 ?_
    refine p_aload_n e_TM_askAgain_33 rfl ?_
    refine p_gIv 452 e_TM_askAgain_34 f_TM_20 rfl rfl (by assumption) p2 ?_
    refine p_iadd e_TM_askAgain_37 ?_
    refine p_pI 70 e_TM_askAgain_38 f_TM_95 rfl rfl (fun q h => by cases h; exact Or.inl rfl) rfl (by assumption) ?_
    refine p_aload_n e_TM_askAgain_41 rfl ?_
    refine p_iload_n e_TM_askAgain_42 rfl ?_
    have h2 := cw_70 (v := sv A 4 0 + sv A 3 0) h1 hc
    have k2 : HK (Y 4) σ (pfi (pfi σ 69 (Y (200 + c)) (sv A 18 c + 1)) 70 (Y (200 + c)) (sv A 4 0 + sv A 3 0)) hs := (HK.put (Or.inl (by omega))).tr (HK.put (Or.inl (by omega)))
    refine p_inv (ci := 7) (d' := 9) [_] _ e_TM_askAgain_43 c_TM_98 k_TM_ask i_TM_ask s_TM_ask rfl rfl (by assumption) rfl rfl (Nat.le_of_ble_eq_true rfl) (Nat.le_of_ble_eq_true rfl) ?_
    refine sp_ask hc hn hh h2 (fun σ3 f3 m3 g3 hc3 hk3 => ?_)
    refine p_ret e_TM_askAgain_46 (rv_v ?_)
    exact hP _ _ _ _ hc3 (k2.tr hk3)
end TM2
end
section
/-! what letters do: READ, WRITE, TOKENS, KNOW; the arbiter tells -/
theorem Wp.lv2 {M : MM} {d pc : Nat} {lv lv' : List (Nat × PV)} {st : List PV} {σ : PS} {P : Option PV → PS → Prop} (k : Wp M d pc lv' st σ P) (h : lsub lv lv') : Wp M d pc lv st σ P := Wp.lv lv' h k
noncomputable def rdA (A : AS) (x b : Nat) (c : Int32) : AS := if sv A 9 (2 * x + b) = -1 ∧ sv A 6 (2 * x + b) ≠ 0 then gvA A x b c 1 (if sv A 5 (2 * x + b) = 1 then 1 else 0) 1 else A
noncomputable def wrA (A : AS) (x b : Nat) (c : Int32) : AS := if sv A 9 (2 * x + b) = -1 then gvA A x b c (sv A 5 (2 * x + b)) (sv A 6 (2 * x + b)) (sv A 6 (2 * x + b)) else A
/-- a node learns -/
def lnA (A : AS) (i : Nat) (c w n : Int32) : AS := set1 (set1 (set1 A 9 i c) 10 i w) 11 i n
/-- a node gets a letter's tokens -/
def gtA (A : AS) (i : Nat) (ct ow wd dt : Int32) : AS := if wd = 0 then set1 (set1 A 5 i (sv A 5 i + ct)) 6 i (if sv A 6 i ≠ 0 ∨ ow ≠ 0 then 1 else 0) else set1 (set1 (set1 (set1 A 5 i (sv A 5 i + ct)) 6 i (if sv A 6 i ≠ 0 ∨ ow ≠ 0 then 1 else 0)) 7 i 1) 8 i dt
/-- the cores below c are told of block b -/
noncomputable def tlA (N : Nat) (A : AS) (b : Nat) (co w sr : Int32) : Nat → AS
  | 0 => A
  | c + 1 => set1 (set1 (set1 (sdL (tlA N A b co w sr c) 5 (nI N) (nI c) (nI b)) 38 (ln (dpL (tlA N A b co w sr c) 5 (nI N) (nI c) (nI b))) co) 39 (ln (dpL (tlA N A b co w sr c) 5 (nI N) (nI c) (nI b))) w) 37 (ln (dpL (tlA N A b co w sr c) 5 (nI N) (nI c) (nI b))) sr
theorem sv_tlA {N : Nat} {A : AS} {b : Nat} {co w sr : Int32} {k j : Nat} (hk : ¬ (29 ≤ k ∧ k < 40)) : ∀ c, sv (tlA N A b co w sr c) k j = sv A k j
  | 0 => rfl
  | c + 1 => by
    unfold tlA
    rw [sv_set1, if_neg (by omega), sv_set1, if_neg (by omega), sv_set1, if_neg (by omega), sv_sdL hk]
    exact sv_tlA hk c
def acw (A : AS) (b : Nat) : Int32 := if sv A 40 b = -1 then 0 else if sv A 41 b = 0 then 0 else 1
noncomputable def taA (N : Nat) (A : AS) (b : Nat) : AS := lnA (tlA N A b (sv A 40 b) (acw A b) (sv A 42 b) N) (2 * N + b) (sv A 40 b) (acw A b) (sv A 42 b)
section TM3
variable {N : Nat} {Y : Nat → Nat} {bd : Nat × Nat × Nat} {hs : List Nat} {σ : PS} {A : AS} {f : Nat → Nat} {m : Nat} {g : Nat → Nat} {rf : Nat → Nat → Nat} {P : Option PV → PS → Prop}
set_option maxHeartbeats 4000000 in
theorem sp_onRead {x b : Nat} {c : Int32} (hx : x ≤ N) (hb : b < 2) (hn : ln A ≤ 67) (hh : hs.length ≤ 1) (h : CRx N Y bd hs σ A f m g rf) (hP : ∀ σ' f' m' g', CRx N Y bd hs σ' (rdA A x b c) f' m' g' rf → HK (Y 4) σ σ' hs → P none σ') : Ctr m_TM_onRead 10 [.inr (Y 0), .inl (nI x), .inl (nI b), .inl c] σ P := by
  obtain ⟨a0, ⟨b1, b2, b3, b4, b5, b6, b7, b8, b9⟩, -⟩ := h.1
  have hi : 2 * x + b < 2 * N + 2 := by omega
  have ts : tg σ (Y (100 + (2 * x + b))) = 7 := h.1.sh hi
  obtain ⟨s1, s2, s3, s4, s5, s6, s7⟩ := h.2.2.1
  have v5 := s1 _ hi
  have v6 := s2 _ hi
  have v9 := s5 _ hi
  unfold rdA at hP
  refine Ctr.of y_TM_onRead (Nat.le_of_ble_eq_true rfl) ?_
  refine p_aload_n e_TM_onRead_0 rfl ?_
  refine p_iload_n e_TM_onRead_1 rfl ?_
  refine p_iload_n e_TM_onRead_2 rfl ?_
  refine p_inv (ci := 7) (d' := 1) [_, _] _ e_TM_onRead_3 c_TM_159 k_TM_share i_TM_share s_TM_share rfl rfl (by assumption) rfl rfl (Nat.le_of_ble_eq_true rfl) (Nat.le_of_ble_eq_true rfl) ?_
  refine h.1.share hx hb ?_
  refine p_astore e_TM_onRead_6 (by decide) ?_
  refine p_aload e_TM_onRead_8 rfl ?_
  refine p_gIv 388 e_TM_onRead_10 f_TM_186 rfl rfl (by assumption) v9 ?_
  refine p_iconst (x := (-1)) e_TM_onRead_13 (by decide) ?_
  refine p_icmp_ne (tgt := 25) e_TM_onRead_14 (by decide) (fun h14 => ?_) (fun h14 => ?_)
  · refine p_ret e_TM_onRead_25 (rv_v ?_)
    rw [if_neg (fun q => h14 q.1)] at hP
    exact hP σ f m g h HK.rf
  refine p_aload e_TM_onRead_17 rfl ?_
  refine p_gIv 385 e_TM_onRead_19 f_TM_57 rfl rfl (by assumption) v6 ?_
  refine p_if_ne (tgt := 26) e_TM_onRead_22 (by decide) (fun h22 => ?_) (fun h22 => ?_)
  · rw [if_pos ⟨h14, h22⟩] at hP
    have go : ∀ z : Int32, z = 0 ∨ z = 1 → z = (if sv A 5 (2 * x + b) = 1 then 1 else 0) → Wp m_TM_onRead 10 40 [(4, .inr (Y (100 + (2 * x + b)))), (0, .inr (Y 0)), (1, .inl (nI x)), (2, .inl (nI b)), (3, .inl c)] [.inl z] σ (fun v σ' => RV m_TM_onRead.2.2.2 v ∧ P v σ') := by
      intro z hz ez
      rw [← ez] at hP
      refine p_istore e_TM_onRead_40 (by decide) ?_
      refine p_aload_n e_TM_onRead_42 rfl ?_
      refine p_iload_n e_TM_onRead_43 rfl ?_
      refine p_iload_n e_TM_onRead_44 rfl ?_
      refine p_iload_n e_TM_onRead_45 rfl ?_
      refine p_iconst (x := 1) e_TM_onRead_46 (by decide) ?_
      refine p_iload e_TM_onRead_47 rfl ?_
      refine p_iconst (x := 1) e_TM_onRead_49 (by decide) ?_
      refine p_inv (ci := 7) (d' := 9) [_, _, _, _, _, _] _ e_TM_onRead_50 c_TM_166 k_TM_give i_TM_give s_TM_give rfl rfl (by assumption) rfl rfl (Nat.le_of_ble_eq_true rfl) (Nat.le_of_ble_eq_true rfl) ?_
      refine sp_give hx hb hz (Or.inr rfl) hn hh h (fun σ1 f1 m1 g1 hc hk => ?_)
      refine p_ret e_TM_onRead_53 (rv_v ?_)
      exact hP _ _ _ _ hc hk
    refine p_aload e_TM_onRead_26 rfl ?_
    refine p_gIv 384 e_TM_onRead_28 f_TM_54 rfl rfl (by assumption) v5 ?_
    refine p_iconst (x := 1) e_TM_onRead_31 (by decide) ?_
    refine p_icmp_ne (tgt := 39) e_TM_onRead_32 (by decide) (fun h32 => ?_) (fun h32 => ?_)
    · refine p_iconst (x := 0) e_TM_onRead_39 (by decide) ?_
      exact Wp.lv2 (go 0 (Or.inl rfl) (if_neg h32).symm) ⟨rfl, rfl, rfl, rfl, rfl, trivial⟩
    · refine p_iconst (x := 1) e_TM_onRead_35 (by decide) ?_
      refine p_goto (tgt := 40) e_TM_onRead_36 (by decide) ?_
      exact Wp.lv2 (go 1 (Or.inr rfl) (if_pos h32).symm) ⟨rfl, rfl, rfl, rfl, rfl, trivial⟩
  · refine p_ret e_TM_onRead_25 (rv_v ?_)
    rw [if_neg (fun q => q.2 h22)] at hP
    exact hP σ f m g h HK.rf
set_option maxHeartbeats 4000000 in
theorem sp_onWrite {x b : Nat} {c : Int32} (hx : x ≤ N) (hb : b < 2) (how : sv A 6 (2 * x + b) = 0 ∨ sv A 6 (2 * x + b) = 1) (hn : ln A ≤ 67) (hh : hs.length ≤ 1) (h : CRx N Y bd hs σ A f m g rf) (hP : ∀ σ' f' m' g', CRx N Y bd hs σ' (wrA A x b c) f' m' g' rf → HK (Y 4) σ σ' hs → P none σ') : Ctr m_TM_onWrite 10 [.inr (Y 0), .inl (nI x), .inl (nI b), .inl c] σ P := by
  obtain ⟨a0, ⟨b1, b2, b3, b4, b5, b6, b7, b8, b9⟩, -⟩ := h.1
  have hi : 2 * x + b < 2 * N + 2 := by omega
  have ts : tg σ (Y (100 + (2 * x + b))) = 7 := h.1.sh hi
  obtain ⟨s1, s2, s3, s4, s5, s6, s7⟩ := h.2.2.1
  have v5 := s1 _ hi
  have v6 := s2 _ hi
  have v9 := s5 _ hi
  unfold wrA at hP
  refine Ctr.of y_TM_onWrite (Nat.le_of_ble_eq_true rfl) ?_
  refine p_aload_n e_TM_onWrite_0 rfl ?_
  refine p_iload_n e_TM_onWrite_1 rfl ?_
  refine p_iload_n e_TM_onWrite_2 rfl ?_
  refine p_inv (ci := 7) (d' := 1) [_, _] _ e_TM_onWrite_3 c_TM_159 k_TM_share i_TM_share s_TM_share rfl rfl (by assumption) rfl rfl (Nat.le_of_ble_eq_true rfl) (Nat.le_of_ble_eq_true rfl) ?_
  refine h.1.share hx hb ?_
  refine p_astore e_TM_onWrite_6 (by decide) ?_
  refine p_aload e_TM_onWrite_8 rfl ?_
  refine p_gIv 388 e_TM_onWrite_10 f_TM_186 rfl rfl (by assumption) v9 ?_
  refine p_iconst (x := (-1)) e_TM_onWrite_13 (by decide) ?_
  refine p_icmp_ne (tgt := 39) e_TM_onWrite_14 (by decide) (fun h14 => ?_) (fun h14 => ?_)
  · refine p_ret e_TM_onWrite_39 (rv_v ?_)
    rw [if_neg h14] at hP
    exact hP σ f m g h HK.rf
  · rw [if_pos h14] at hP
    refine p_aload_n e_TM_onWrite_17 rfl ?_
    refine p_iload_n e_TM_onWrite_18 rfl ?_
    refine p_iload_n e_TM_onWrite_19 rfl ?_
    refine p_iload_n e_TM_onWrite_20 rfl ?_
    refine p_aload e_TM_onWrite_21 rfl ?_
    refine p_gIv 384 e_TM_onWrite_23 f_TM_54 rfl rfl (by assumption) v5 ?_
    refine p_aload e_TM_onWrite_26 rfl ?_
    refine p_gIv 385 e_TM_onWrite_28 f_TM_57 rfl rfl (by assumption) v6 ?_
    refine p_aload e_TM_onWrite_31 rfl ?_
    refine p_gIv 385 e_TM_onWrite_33 f_TM_57 rfl rfl (by assumption) v6 ?_
    refine p_inv (ci := 7) (d' := 9) [_, _, _, _, _, _] _ e_TM_onWrite_36 c_TM_166 k_TM_give i_TM_give s_TM_give rfl rfl (by assumption) rfl rfl (Nat.le_of_ble_eq_true rfl) (Nat.le_of_ble_eq_true rfl) ?_
    refine sp_give hx hb how how hn hh h (fun σ1 f1 m1 g1 hc hk => ?_)
    refine p_ret e_TM_onWrite_39 (rv_v ?_)
    exact hP _ _ _ _ hc hk
theorem CRx.learn {i : Nat} {c w n : Int32} (hi : i < 2 * N + 2) (h : CRx N Y bd hs σ A f m g rf) : CRx N Y bd hs (pfi (pfi (pfi σ 388 (Y (100 + i)) c) 389 (Y (100 + i)) w) 390 (Y (100 + i)) n) (lnA A i c w n) f m g rf := cw_390 (cw_389 (cw_388 h hi) hi) hi
theorem HK.learn {i : Nat} {c w n : Int32} : HK (Y 4) σ (pfi (pfi (pfi σ 388 i c) 389 i w) 390 i n) hs := ((HK.put (Or.inl (by omega))).tr (HK.put (Or.inl (by omega)))).tr (HK.put (Or.inl (by omega)))
set_option maxHeartbeats 4000000 in
theorem sp_tellActive {b : Nat} (hb : b < 2) (hn : ∀ c, c ≤ N → ln (tlA N A b (sv A 40 b) (acw A b) (sv A 42 b) c) ≤ 67) (hh : hs.length ≤ 1) (h : CRx N Y bd hs σ A f m g rf) (hP : ∀ σ' f' m' g', CRx N Y bd hs σ' (taA N A b) f' m' g' rf → HK (Y 4) σ σ' hs → P none σ') : Ctr m_TM_tellActive 9 [.inr (Y 0), .inl (nI b)] σ P := by
  obtain ⟨a0, ⟨b1, b2, b3, b4, b5, b6, b7, b8, b9⟩, -, -, ⟨d1, d2, d3⟩, -⟩ := h.1
  have td : tg σ (Y (300 + b)) = 3 := h.1.dk hb
  obtain ⟨q1, q2⟩ := h.2.2.2.2.2.2.2.1 b hb
  have hw01 : acw A b = 0 ∨ acw A b = 1 := by
    unfold acw
    split
    · exact Or.inl rfl
    · split
      · exact Or.inl rfl
      · exact Or.inr rfl
  have loop : ∀ k c, c + k = N → ∀ (σ1 : PS) (m1 : Nat) (f1 g1 : Nat → Nat), CRx N Y bd hs σ1 (tlA N A b (sv A 40 b) (acw A b) (sv A 42 b) c) f1 m1 g1 rf → HK (Y 4) σ σ1 hs → Wp m_TM_tellActive 9 53 [(5, .inl (nI c)), (4, .inl (acw A b)), (3, .inl (sv A 40 b)), (2, .inr (Y (300 + b))), (0, .inr (Y 0)), (1, .inl (nI b))] [] σ1 (fun v σ' => RV m_TM_tellActive.2.2.2 v ∧ P v σ') := by
    intro k
    induction k with
    | zero =>
      intro c hc σ1 m1 f1 g1 hc1 hk1
      have ec : c = N := by omega
      subst ec
      have tx1 : tg σ1 (Y 0) = 8 := hc1.1.2.1.1
      have u2 : fi σ1 448 (Y 0) = nI c := hc1.1.2.1.2.1
      have u3 : fi σ1 449 (Y 0) = nI c := hc1.1.2.1.2.2.1
      have td1 : tg σ1 (Y (300 + b)) = 3 := hc1.1.dk hb
      have w42 : fi σ1 130 (Y (300 + b)) = sv A 42 b := (hc1.2.2.2.2.2.2.2.1 b hb).1.trans (sv_tlA (by omega) c)
      refine p_iload e_TM_tellActive_53 rfl ?_
      refine p_aload_n e_TM_tellActive_55 rfl ?_
      refine p_gIv 448 e_TM_tellActive_56 f_TM_13 rfl rfl (by assumption) u2 ?_
      refine p_icmp_ge (tgt := 107) e_TM_tellActive_59 (by decide) (fun _ => ?_) (fun hx => absurd (Int32.le_refl _) hx)
      refine p_aload_n e_TM_tellActive_107 rfl ?_
      refine p_aload_n e_TM_tellActive_108 rfl ?_
      refine p_gIv 449 e_TM_tellActive_109 f_TM_23 rfl rfl (by assumption) u3 ?_
      refine p_iload_n e_TM_tellActive_112 rfl ?_
      refine p_inv (ci := 7) (d' := 1) [_, _] _ e_TM_tellActive_113 c_TM_159 k_TM_share i_TM_share s_TM_share rfl rfl (by assumption) rfl rfl (Nat.le_of_ble_eq_true rfl) (Nat.le_of_ble_eq_true rfl) ?_
      refine hc1.1.share (Nat.le_refl _) hb ?_
      have ts : tg σ1 (Y (100 + (2 * c + b))) = 7 := hc1.1.sh (by omega)
      refine p_iload_n e_TM_tellActive_116 rfl ?_
      refine p_iload e_TM_tellActive_117 rfl ?_
      refine p_aload_n e_TM_tellActive_119 rfl ?_
      refine p_gIv 130 e_TM_tellActive_120 f_TM_286 rfl rfl (by assumption) w42 ?_
      refine p_inv (ci := 6) (d' := 1) [_, _, _] _ e_TM_tellActive_123 c_TM_264 k_Share_learn i_Share_learn s_Share_learn rfl rfl (by assumption) rfl rfl (Nat.le_of_ble_eq_true rfl) (Nat.le_of_ble_eq_true rfl) ?_
      refine sp_Share_learn ts hw01 ?_
      refine p_ret e_TM_tellActive_126 (rv_v ?_)
      exact hP _ _ _ _ (hc1.learn (by omega)) (hk1.tr HK.learn)
    | succ k ih =>
      intro c hc σ1 m1 f1 g1 hc1 hk1
      have tx1 : tg σ1 (Y 0) = 8 := hc1.1.2.1.1
      have u2 : fi σ1 448 (Y 0) = nI N := hc1.1.2.1.2.1
      have u3 : fi σ1 449 (Y 0) = nI N := hc1.1.2.1.2.2.1
      have u9 : fr σ1 457 (Y 0) = Y 5 := hc1.1.2.1.2.2.2.2.2.2.2.2
      have t5 := (hc1.1.2.2.2.2.2.2.1).1
      refine p_iload e_TM_tellActive_53 rfl ?_
      refine p_aload_n e_TM_tellActive_55 rfl ?_
      refine p_gIv 448 e_TM_tellActive_56 f_TM_13 rfl rfl (by assumption) u2 ?_
      refine p_icmp_ge (tgt := 107) e_TM_tellActive_59 (by decide) (fun hx => absurd hx (nI_ge (by omega) (by omega))) (fun _ => ?_)
      refine p_aload_n e_TM_tellActive_62 rfl ?_
      refine p_gRv 457 e_TM_tellActive_63 f_TM_67 rfl rfl (by assumption) u9 ?_
      refine p_iconst (x := 5) e_TM_tellActive_66 (by decide) ?_
      refine p_aload_n e_TM_tellActive_67 rfl ?_
      refine p_gIv 449 e_TM_tellActive_68 f_TM_23 rfl rfl (by assumption) u3 ?_
      refine p_iload e_TM_tellActive_71 rfl ?_
      refine p_iload_n e_TM_tellActive_73 rfl ?_
      refine p_inv (ci := 4) (d' := 8) [_, _, _, _] _ e_TM_tellActive_74 c_TM_225 k_Mail_send i_Mail_send s_Mail_send rfl rfl (by assumption) rfl rfl (Nat.le_of_ble_eq_true rfl) (Nat.le_of_ble_eq_true rfl) ?_
      refine sp_send (hn c (by omega)) hh hc1 (fun σ2 f2 m2 g2 hc2 hk2 => ?_)
      have hl : ln (dpL (tlA N A b (sv A 40 b) (acw A b) (sv A 42 b) c) 5 (nI N) (nI c) (nI b)) < ln (sdL (tlA N A b (sv A 40 b) (acw A b) (sv A 42 b) c) 5 (nI N) (nI c) (nI b)) := by rw [ln_sdL]; exact Nat.lt_succ_self _
      have tl : tg σ2 (f2 (ln (dpL (tlA N A b (sv A 40 b) (acw A b) (sv A 42 b) c) 5 (nI N) (nI c) (nI b)))) = 4 := (hc2.2.2.2.2.2.1.2.2.1 _ hl).1
      have td2 : tg σ2 (Y (300 + b)) = 3 := hc2.1.dk hb
      have nh : f2 (ln (dpL (tlA N A b (sv A 40 b) (acw A b) (sv A 42 b) c) 5 (nI N) (nI c) (nI b))) ∉ hs := fun z => (hc2.2.2.2.2.2.1.2.2.2.2.2.2.2.1 _ z).2.1 _ hl rfl
      have w42 : fi σ2 130 (Y (300 + b)) = sv A 42 b := ((hc2.2.2.2.2.2.2.2.1 b hb).1.trans (sv_sdL (by omega))).trans (sv_tlA (by omega) c)
      refine p_astore e_TM_tellActive_77 (by decide) ?_
      refine p_aload e_TM_tellActive_79 rfl ?_
      refine p_iload_n e_TM_tellActive_81 rfl ?_
      refine p_pI 201 e_TM_tellActive_82 f_TM_263 rfl rfl (fun q h => by cases h; exact Or.inl rfl) rfl (by assumption) ?_
      refine p_aload e_TM_tellActive_85 rfl ?_
      refine p_iload e_TM_tellActive_87 rfl ?_
      refine p_pZ 202 e_TM_tellActive_89 f_TM_142 rfl rfl (fun q h => by cases h; exact Or.inl rfl) rfl (by assumption) (by first | assumption | exact Or.inl rfl | exact Or.inr rfl) ?_
      refine p_aload e_TM_tellActive_92 rfl ?_
      refine p_aload_n e_TM_tellActive_94 rfl ?_
      refine p_gIv 130 e_TM_tellActive_95 f_TM_286 rfl rfl (by assumption) w42 ?_
      refine p_pI 200 e_TM_tellActive_98 f_TM_139 rfl rfl (fun q h => by cases h; exact Or.inl rfl) rfl (by assumption) ?_
      refine p_iinc e_TM_tellActive_101 rfl rfl (by decide) ?_
      refine p_goto (tgt := 53) e_TM_tellActive_104 (by decide) ?_
      refine Wp.lv [(5, .inl (nI (c + 1))), (4, .inl (acw A b)), (3, .inl (sv A 40 b)), (2, .inr (Y (300 + b))), (0, .inr (Y 0)), (1, .inl (nI b))] ⟨congrArg (fun z => some (Sum.inl z)) (nI_1 c), rfl, rfl, rfl, rfl, rfl, trivial⟩ ?_
      refine ih (c + 1) (by omega) _ m2 f2 g2 ?_ ((((hk1.tr hk2).tr (HK.put (Or.inr nh))).tr (HK.put (Or.inr nh))).tr (HK.put (Or.inr nh)))
      exact cl_200 (cl_202 (cl_201 hc2 hl) hl) hl
  have st : Wp m_TM_tellActive 9 50 [(4, .inl (acw A b)), (3, .inl (sv A 40 b)), (2, .inr (Y (300 + b))), (0, .inr (Y 0)), (1, .inl (nI b))] [] σ (fun v σ' => RV m_TM_tellActive.2.2.2 v ∧ P v σ') := by
    refine p_iconst (x := 0) e_TM_tellActive_50 (by decide) ?_
    refine p_istore e_TM_tellActive_51 (by decide) ?_
    exact Wp.lv2 (loop N 0 (by omega) σ m f g h HK.rf) ⟨rfl, rfl, rfl, rfl, rfl, rfl, trivial⟩
  refine Ctr.of y_TM_tellActive (Nat.le_of_ble_eq_true rfl) ?_
  refine p_aload_n e_TM_tellActive_0 rfl ?_
  refine p_gRv 455 e_TM_tellActive_1 f_TM_49 rfl rfl (by assumption) b7 ?_
  refine p_iload_n e_TM_tellActive_4 rfl ?_
  refine p_aaldv e_TM_tellActive_5 (ti := 5) (n := b) (v := Y (300 + b)) (by decide) d1 rfl (by omega) (by omega) (d3 b hb).1 ?_
  refine p_astore_n e_TM_tellActive_6 (by decide) ?_
  refine p_aload_n e_TM_tellActive_7 rfl ?_
  refine p_gR 129 e_TM_tellActive_8 f_TM_253 rfl rfl (by assumption) ?_
  rcases q2 with ⟨r1, r2⟩ | ⟨r1, r2, r3, r4, r5⟩
  · refine p_ifnonnull (tgt := 18) e_TM_tellActive_11 (by decide) (fun hx => absurd (r1) hx) (fun _ => ?_)
    refine p_iconst (x := (-1)) e_TM_tellActive_14 (by decide) ?_
    refine p_goto (tgt := 25) e_TM_tellActive_15 (by decide) ?_
    refine p_istore_n e_TM_tellActive_25 (by decide) ?_
    refine p_aload_n e_TM_tellActive_26 rfl ?_
    refine p_gR 129 e_TM_tellActive_27 f_TM_253 rfl rfl (by assumption) ?_
    refine p_ifnull (tgt := 47) e_TM_tellActive_30 (by decide) (fun _ => ?_) (fun hx => absurd (r1) hx)
    refine p_iconst (x := 0) e_TM_tellActive_47 (by decide) ?_
    refine p_istore e_TM_tellActive_48 (by decide) ?_
    have e0 : acw A b = 0 := if_pos r2
    rw [e0, r2] at st
    exact Wp.lv2 st ⟨rfl, rfl, rfl, rfl, rfl, trivial⟩
  · have hne : fr σ 129 (Y (300 + b)) ≠ 0 := by
      intro q
      rw [q, h.2.1.1.2] at r1
      omega
    refine p_ifnonnull (tgt := 18) e_TM_tellActive_11 (by decide) (fun _ => ?_) (fun hx => absurd hx (hne))
    refine p_aload_n e_TM_tellActive_18 rfl ?_
    refine p_gR 129 e_TM_tellActive_19 f_TM_253 rfl rfl (by assumption) ?_
    refine p_gIv 320 e_TM_tellActive_22 f_TM_287 rfl rfl r1 r2 ?_
    refine p_istore_n e_TM_tellActive_25 (by decide) ?_
    refine p_aload_n e_TM_tellActive_26 rfl ?_
    refine p_gR 129 e_TM_tellActive_27 f_TM_253 rfl rfl (by assumption) ?_
    refine p_ifnull (tgt := 47) e_TM_tellActive_30 (by decide) (fun hx => absurd hx (hne)) (fun _ => ?_)
    refine p_aload_n e_TM_tellActive_33 rfl ?_
    refine p_gR 129 e_TM_tellActive_34 f_TM_253 rfl rfl (by assumption) ?_
    refine p_gIv 322 e_TM_tellActive_37 f_TM_290 rfl rfl r1 r4 ?_
    refine p_if_eq (tgt := 47) e_TM_tellActive_40 (by decide) (fun h40 => ?_) (fun h40 => ?_)
    · refine p_iconst (x := 0) e_TM_tellActive_47 (by decide) ?_
      refine p_istore e_TM_tellActive_48 (by decide) ?_
      have e0 : acw A b = 0 := by unfold acw; rw [if_neg r5, if_pos h40]
      rw [e0] at st
      exact Wp.lv2 st ⟨rfl, rfl, rfl, rfl, rfl, trivial⟩
    · refine p_iconst (x := 1) e_TM_tellActive_43 (by decide) ?_
      refine p_goto (tgt := 48) e_TM_tellActive_44 (by decide) ?_
      refine p_istore e_TM_tellActive_48 (by decide) ?_
      have e0 : acw A b = 1 := by unfold acw; rw [if_neg r5, if_neg h40]
      rw [e0] at st
      exact Wp.lv2 st ⟨rfl, rfl, rfl, rfl, rfl, trivial⟩
end TM3
end
section
/-! WHAT ALWAYS HOLDS of the numbers: letters and cells are well formed, letters that take each other's places are there once, tokens and owners are neither made nor lost -/
/-- the sum of g over the places below n -/
def sm (g : Nat → Nat) : Nat → Nat
  | 0 => 0
  | n + 1 => sm g n + g n
theorem sm_s {g : Nat → Nat} {n : Nat} : sm g (n + 1) = sm g n + g n := rfl
theorem sm_congr {g h : Nat → Nat} : ∀ n, (∀ i, i < n → g i = h i) → sm g n = sm h n
  | 0, _ => rfl
  | n + 1, e => by unfold sm; rw [sm_congr n (fun i hi => e i (by omega)), e n (by omega)]
theorem sm_rm {g : Nat → Nat} : ∀ n i, i < n → sm g n = g i + sm (fun j => if i ≤ j then g (j + 1) else g j) (n - 1)
  | 0, i, h => by omega
  | n + 1, i, h => by
    by_cases e : i = n
    · subst e
      rw [Nat.add_sub_cancel, sm_congr (g := fun j => if i ≤ j then g (j + 1) else g j) (h := g) i (fun j hj => if_neg (by omega)), sm_s]
      omega
    · obtain ⟨k, rfl⟩ : ∃ k, n = k + 1 := ⟨n - 1, by omega⟩
      have ih := sm_rm (g := g) (k + 1) i (by omega)
      rw [Nat.add_sub_cancel] at ih ⊢
      show sm g (k + 1) + g (k + 1) = g i + (sm (fun j => if i ≤ j then g (j + 1) else g j) k + (if i ≤ k then g (k + 1) else g k))
      rw [ih, if_pos (by omega)]
      omega
theorem sm_up {g h : Nat → Nat} {i : Nat} : ∀ n, i < n → (∀ j, j < n → j ≠ i → g j = h j) → sm g n + h i = sm h n + g i
  | 0, hi, _ => by omega
  | n + 1, hi, e => by
    unfold sm
    by_cases q : i = n
    · subst q
      rw [sm_congr i (fun j hj => e j (by omega) (by omega))]
      omega
    · have := sm_up (g := g) (h := h) n (by omega) (fun j hj hne => e j (by omega) hne)
      rw [e n (by omega) (by omega)]
      omega
theorem sm_le {g : Nat → Nat} : ∀ n i, i < n → g i ≤ sm g n
  | 0, i, h => by omega
  | n + 1, i, h => by
    unfold sm
    by_cases e : i = n
    · subst e; omega
    · have := sm_le (g := g) n i (by omega); omega
theorem sm_mono {g : Nat → Nat} : ∀ n k, k ≤ n → sm g k ≤ sm g n
  | 0, k, h => by have : k = 0 := by omega
                  subst this; exact Nat.le_refl _
  | n + 1, k, h => by
    by_cases e : k = n + 1
    · subst e; exact Nat.le_refl _
    · have := sm_mono (g := g) n k (by omega); rw [sm_s]; omega
def bz (x : Int32) : Prop := x = 0 ∨ x = 1
def nt (x : Int32) : Nat := x.toNatClampNeg
def o1 (x : Int32) : Nat := if x = 0 then 0 else 1
/-- tokens, and owners, of block b in the i-th letter -/
def lt' (A : AS) (b i : Nat) : Nat := if sv A 29 i = 3 ∧ sv A 32 i = nI b then nt (sv A 33 i) else 0
def lo' (A : AS) (b i : Nat) : Nat := if sv A 29 i = 3 ∧ sv A 32 i = nI b then o1 (sv A 34 i) else 0
def lw (N : Nat) (A : AS) (i : Nat) : Prop :=
  (∃ t s b : Nat, t ≤ N ∧ s ≤ N ∧ b < 2 ∧ sv A 30 i = nI t ∧ sv A 31 i = nI s ∧ sv A 32 i = nI b ∧ ((sv A 29 i = 1 ∧ s < N) ∨ (sv A 29 i = 2 ∧ s < N) ∨ sv A 29 i = 3 ∨ (sv A 29 i = 4 ∧ s < N ∧ t = N) ∨ (sv A 29 i = 5 ∧ s = N ∧ t < N) ∨ (sv A 29 i = 6 ∧ s < N ∧ t = N ∧ b = 0))) ∧
  (bz (sv A 34 i) ∧ bz (sv A 35 i) ∧ bz (sv A 39 i)) ∧ (sv A 29 i = 3 → (∃ ct : Nat, 1 ≤ ct ∧ ct ≤ N + 1 ∧ sv A 33 i = nI ct) ∧ (sv A 34 i = 1 → sv A 35 i = 1)) ∧ (sv A 29 i ≠ 3 → sv A 33 i = 0 ∧ sv A 34 i = 0 ∧ sv A 35 i = 0) ∧ (sv A 38 i = -1 ∨ ∃ c, c < N ∧ sv A 38 i = nI c)
def uq (A : AS) (i j : Nat) : Prop := sv A 29 i = sv A 29 j → sv A 29 i ≠ 3 → sv A 31 i = sv A 31 j → sv A 30 i = sv A 30 j → (sv A 29 i = 5 → sv A 32 i = sv A 32 j) → i = j
def cw (N : Nat) (A : AS) (i : Nat) : Prop := (∃ t, t ≤ N + 1 ∧ sv A 5 i = nI t) ∧ (bz (sv A 6 i) ∧ bz (sv A 7 i) ∧ bz (sv A 10 i)) ∧ (sv A 6 i = 1 → sv A 7 i = 1 ∧ sv A 5 i ≠ 0) ∧ (sv A 9 i = -1 ∨ ∃ c, c < N ∧ sv A 9 i = nI c)
/-- eb, eo: tokens and owners of each block that are in hand -/
def LI (N : Nat) (A : AS) (eb eo : Nat → Nat) : Prop := (2 ≤ N ∧ N ≤ 4) ∧ (∀ i, i < ln A → lw N A i) ∧ (∀ i j, i < ln A → j < ln A → uq A i j) ∧ (∀ i, i < 2 * N + 2 → cw N A i) ∧
  (∀ b, b < 2 → sm (fun x => nt (sv A 5 (2 * x + b))) (N + 1) + sm (lt' A b) (ln A) + eb b = N + 1) ∧ (∀ b, b < 2 → sm (fun x => o1 (sv A 6 (2 * x + b))) (N + 1) + sm (lo' A b) (ln A) + eo b = 1)
/-- pigeons -/
theorem pigeon : ∀ (B n : Nat) (k : Nat → Nat), (∀ i, i < n → k i < B) → (∀ i j, i < n → j < n → k i = k j → i = j) → n ≤ B
  | 0, n, k, h, _ => by
    rcases Nat.eq_zero_or_pos n with q | q
    · omega
    · have := h 0 q; omega
  | B + 1, n, k, h, inj => by
    by_cases hx : ∃ i, i < n ∧ k i = B
    · obtain ⟨i, hi, hk⟩ := hx
      have := pigeon B (n - 1) (fun j => if j < i then k j else k (j + 1)) (fun j hj => by
        by_cases e : j < i
        · simp only [if_pos e]
          have := h j (by omega)
          have h2 : k j ≠ B := fun q => by have := inj j i (by omega) hi (q.trans hk.symm); omega
          omega
        · simp only [if_neg e]
          have := h (j + 1) (by omega)
          have h2 : k (j + 1) ≠ B := fun q => by have := inj (j + 1) i (by omega) hi (q.trans hk.symm); omega
          omega) (fun a b ha hb e => by
        by_cases e1 : a < i <;> by_cases e2 : b < i
        · simp only [if_pos e1, if_pos e2] at e; exact inj a b (by omega) (by omega) e
        · simp only [if_pos e1, if_neg e2] at e; have := inj a (b + 1) (by omega) (by omega) e; omega
        · simp only [if_neg e1, if_pos e2] at e; have := inj (a + 1) b (by omega) (by omega) e; omega
        · simp only [if_neg e1, if_neg e2] at e; have := inj (a + 1) (b + 1) (by omega) (by omega) e; omega)
      omega
    · have := pigeon B n k (fun i hi => by
        have := h i hi
        have h2 : k i ≠ B := fun q => hx ⟨i, hi, q⟩
        omega) inj
      omega
/-- a number for each letter -/
def lkey (A : AS) (i : Nat) : Nat := if sv A 29 i = 3 then 56 + 5 * nt (sv A 32 i) + sm (lt' A (nt (sv A 32 i))) i else if sv A 29 i = 1 then 5 * nt (sv A 31 i) + nt (sv A 30 i) else if sv A 29 i = 2 then 20 + 5 * nt (sv A 31 i) + nt (sv A 30 i) else if sv A 29 i = 4 then 40 + nt (sv A 31 i) else if sv A 29 i = 5 then 44 + 4 * nt (sv A 32 i) + nt (sv A 30 i) else 52 + nt (sv A 31 i)
theorem nt_nI {n : Nat} (h : n < 2 ^ 31) : nt (nI n) = n := nI_clamp h
theorem sm_lt {g : Nat → Nat} {i j n : Nat} (h : i < j) (hj : j ≤ n) : sm g i + g i ≤ sm g j := by
  have := sm_mono (g := g) j (i + 1) (by omega)
  rw [sm_s] at this
  exact this
set_option maxHeartbeats 4000000 in
theorem LI.bound {N : Nat} {A : AS} {eb eo : Nat → Nat} (h : LI N A eb eo) : ln A ≤ 66 := by
  obtain ⟨hN, hl, hu, hc, ht, ho⟩ := h
  refine pigeon 66 (ln A) (lkey A) (fun i hi => ?_) (fun i j hi hj e => ?_)
  · obtain ⟨⟨t, s, b, q1, q2, q3, q4, q5, q6, q7⟩, -, w3, -⟩ := hl i hi
    unfold lkey
    rw [q4, q5, q6, nt_nI (by omega), nt_nI (by omega), nt_nI (by omega)]
    rcases q7 with ⟨k, z⟩ | ⟨k, z⟩ | k | ⟨k, z, z2⟩ | ⟨k, z, z2⟩ | ⟨k, z, z2, z3⟩ <;> rw [k]
    · simp; omega
    · simp; omega
    · rw [if_pos rfl]
      obtain ⟨⟨ct, c1, c2, c3⟩, -⟩ := w3 k
      have h1 := sm_lt (g := lt' A b) hi (Nat.le_refl _)
      have h2 : lt' A b i = ct := by unfold lt'; rw [if_pos ⟨k, q6⟩, c3, nt_nI (by omega)]
      have := ht b q3
      omega
    · simp; omega
    · simp; omega
    · simp; omega
  · obtain ⟨⟨t, s, b, q1, q2, q3, q4, q5, q6, q7⟩, -, w3, -⟩ := hl i hi
    obtain ⟨⟨t', s', b', p1, p2, p3, p4, p5, p6, p7⟩, -, u3, -⟩ := hl j hj
    have key : ∀ k : Int32, sv A 29 i = k → sv A 29 j = k → k ≠ 3 → s = s' → t = t' → (k = 5 → b = b') → i = j := by
      intro k a1 a2 a3 a4 a5 a6
      refine hu i j hi hj (a1.trans a2.symm) (by rw [a1]; exact a3) (by rw [q5, p5, a4]) (by rw [q4, p4, a5]) (fun z => by rw [q6, p6, a6 (a1.symm.trans z)])
    have le3 : ∀ i' j' bb, i' < j' → j' < ln A → sv A 29 i' = 3 → sv A 32 i' = nI bb → sm (lt' A bb) i' < sm (lt' A bb) j' := by
      intro i' j' bb h1 h2 h3 h4
      obtain ⟨-, -, w, -⟩ := hl i' (by omega)
      obtain ⟨⟨ct, c1, c2, c3⟩, -⟩ := w h3
      have a := sm_lt (g := lt' A bb) h1 (Nat.le_refl _)
      have h5 : lt' A bb i' = ct := by unfold lt'; rw [if_pos ⟨h3, h4⟩, c3, nt_nI (by omega)]
      omega
    have up3 : ∀ i' bb, bb < 2 → i' < ln A → sv A 29 i' = 3 → sv A 32 i' = nI bb → sm (lt' A bb) i' < 5 := by
      intro i' bb hb h2 h3 h4
      obtain ⟨-, -, w, -⟩ := hl i' h2
      obtain ⟨⟨ct, c1, c2, c3⟩, -⟩ := w h3
      have h1 := sm_lt (g := lt' A bb) h2 (Nat.le_refl _)
      have h5 : lt' A bb i' = ct := by unfold lt'; rw [if_pos ⟨h3, h4⟩, c3, nt_nI (by omega)]
      have := ht bb hb
      omega
    unfold lkey at e
    rw [q4, q5, q6, p4, p5, p6, nt_nI (by omega), nt_nI (by omega), nt_nI (by omega), nt_nI (by omega), nt_nI (by omega), nt_nI (by omega)] at e
    rcases q7 with ⟨k, z⟩ | ⟨k, z⟩ | k | ⟨k, z, z2⟩ | ⟨k, z, z2⟩ | ⟨k, z, z2, z3⟩ <;> rcases p7 with ⟨k', y⟩ | ⟨k', y⟩ | k' | ⟨k', y, y2⟩ | ⟨k', y, y2⟩ | ⟨k', y, y2, y3⟩ <;> rw [k, k'] at e <;> simp at e
    · exact key 1 k k' (by decide) (by omega) (by omega) (fun h => absurd h (by decide))
    · exfalso; omega
    · exfalso; omega
    · exfalso; omega
    · exfalso; omega
    · exfalso; omega
    · exfalso; omega
    · exact key 2 k k' (by decide) (by omega) (by omega) (fun h => absurd h (by decide))
    · exfalso; omega
    · exfalso; omega
    · exfalso; omega
    · exfalso; omega
    · exfalso; omega
    · exfalso; omega
    · have a1 := up3 i b q3 hi k q6
      have a2 := up3 j b' p3 hj k' p6
      have eb : b = b' := by omega
      subst eb
      rcases Nat.lt_trichotomy i j with q | q | q
      · have := le3 i j b q hj k q6; omega
      · exact q
      · have := le3 j i b q hi k' p6; omega
    · exfalso; omega
    · exfalso; omega
    · exfalso; omega
    · exfalso; omega
    · exfalso; omega
    · exfalso; omega
    · exact key 4 k k' (by decide) (by omega) (by omega) (fun h => absurd h (by decide))
    · exfalso; omega
    · exfalso; omega
    · exfalso; omega
    · exfalso; omega
    · exfalso; omega
    · exfalso; omega
    · exact key 5 k k' (by decide) (by omega) (by omega) (fun _ => by omega)
    · exfalso; omega
    · exfalso; omega
    · exfalso; omega
    · exfalso; omega
    · exfalso; omega
    · exfalso; omega
    · exact key 6 k k' (by decide) (by omega) (by omega) (fun h => absurd h (by decide))
end
section
/-! what always holds stays: taking out, sending, giving, getting, learning -/
section Inv
variable {N : Nat} {A : AS} {eb eo : Nat → Nat}
theorem sv_rm_at {i j k : Nat} (hk : 29 ≤ k ∧ k < 40) : sv (rmL A i) k j = sv A k (if j < i then j else j + 1) := by
  rw [sv_rmL]
  by_cases e : j < i
  · rw [if_neg (fun z => by omega), if_pos e]
  · rw [if_pos ⟨hk, by omega⟩, if_neg e]
theorem sv_rm_lo {i j k : Nat} (hk : ¬ (29 ≤ k ∧ k < 40)) : sv (rmL A i) k j = sv A k j := by
  rw [sv_rmL, if_neg (fun z => hk z.1)]
theorem lw_of {A' : AS} {i j : Nat} (e : ∀ k, 29 ≤ k → k < 40 → sv A' k j = sv A k i) (h : lw N A i) : lw N A' j := by
  unfold lw at h ⊢
  rw [e 29 (by omega) (by omega), e 30 (by omega) (by omega), e 31 (by omega) (by omega), e 32 (by omega) (by omega), e 33 (by omega) (by omega), e 34 (by omega) (by omega), e 35 (by omega) (by omega), e 38 (by omega) (by omega), e 39 (by omega) (by omega)]
  exact h
theorem lw_rm {i j : Nat} (h : lw N A (if j < i then j else j + 1)) : lw N (rmL A i) j := lw_of (fun k a b => sv_rm_at ⟨a, b⟩) h
theorem lt_rm {b i j : Nat} : lt' (rmL A i) b j = if i ≤ j then lt' A b (j + 1) else lt' A b j := by
  unfold lt'
  rw [sv_rm_at (by omega), sv_rm_at (by omega), sv_rm_at (by omega)]
  by_cases e : j < i
  · rw [if_pos e, if_neg (Nat.not_le.mpr e)]
  · rw [if_neg e, if_pos (Nat.not_lt.mp e)]
theorem lo_rm {b i j : Nat} : lo' (rmL A i) b j = if i ≤ j then lo' A b (j + 1) else lo' A b j := by
  unfold lo'
  rw [sv_rm_at (by omega), sv_rm_at (by omega), sv_rm_at (by omega)]
  by_cases e : j < i
  · rw [if_pos e, if_neg (Nat.not_le.mpr e)]
  · rw [if_neg e, if_pos (Nat.not_lt.mp e)]
theorem cw_of {A' : AS} {i : Nat} (h5 : sv A' 5 i = sv A 5 i) (h6 : sv A' 6 i = sv A 6 i) (h7 : sv A' 7 i = sv A 7 i) (h9 : sv A' 9 i = sv A 9 i) (h10 : sv A' 10 i = sv A 10 i) (h : cw N A i) : cw N A' i := by
  unfold cw at h ⊢
  rw [h5, h6, h7, h9, h10]
  exact h
/-- a letter is taken in hand -/
theorem LI.rm (h : LI N A eb eo) {i : Nat} (hi : i < ln A) : LI N (rmL A i) (fun b => eb b + lt' A b i) (fun b => eo b + lo' A b i) := by
  obtain ⟨hN, hl, hu, hc, ht, ho⟩ := h
  have len : ln (rmL A i) = ln A - 1 := rfl
  have sk : ∀ j, j < ln A - 1 → (if j < i then j else j + 1) < ln A := fun j hj => by split <;> omega
  refine ⟨hN, fun j hj => lw_rm (hl _ (sk j hj)), fun j j' hj hj' => ?_, fun j hj => cw_of (sv_rm_lo (by omega)) (sv_rm_lo (by omega)) (sv_rm_lo (by omega)) (sv_rm_lo (by omega)) (sv_rm_lo (by omega)) (hc j hj), fun b hb => ?_, fun b hb => ?_⟩
  · unfold uq
    rw [sv_rm_at (by omega), sv_rm_at (by omega), sv_rm_at (by omega), sv_rm_at (by omega), sv_rm_at (by omega), sv_rm_at (by omega), sv_rm_at (by omega), sv_rm_at (by omega)]
    intro a1 a2 a3 a4 a5
    have := hu _ _ (sk j hj) (sk j' hj') a1 a2 a3 a4 a5
    split at this <;> split at this <;> omega
  · have e1 : sm (fun x => nt (sv (rmL A i) 5 (2 * x + b))) (N + 1) = sm (fun x => nt (sv A 5 (2 * x + b))) (N + 1) := sm_congr _ (fun x _ => by rw [sv_rm_lo (by omega)])
    have e2 := sm_rm (g := lt' A b) (ln A) i hi
    have e3 : sm (lt' (rmL A i) b) (ln A - 1) = sm (fun j => if i ≤ j then lt' A b (j + 1) else lt' A b j) (ln A - 1) := sm_congr _ (fun j _ => lt_rm)
    rw [e1, len, e3]
    have := ht b hb
    show _ + _ + (eb b + lt' A b i) = _
    omega
  · have e1 : sm (fun x => o1 (sv (rmL A i) 6 (2 * x + b))) (N + 1) = sm (fun x => o1 (sv A 6 (2 * x + b))) (N + 1) := sm_congr _ (fun x _ => by rw [sv_rm_lo (by omega)])
    have e2 := sm_rm (g := lo' A b) (ln A) i hi
    have e3 : sm (lo' (rmL A i) b) (ln A - 1) = sm (fun j => if i ≤ j then lo' A b (j + 1) else lo' A b j) (ln A - 1) := sm_congr _ (fun j _ => lo_rm)
    rw [e1, len, e3]
    have := ho b hb
    show _ + _ + (eo b + lo' A b i) = _
    omega
theorem LI.eq {eb' eo' : Nat → Nat} (h : LI N A eb eo) (h1 : ∀ b, b < 2 → eb b = eb' b) (h2 : ∀ b, b < 2 → eo b = eo' b) : LI N A eb' eo' := by
  obtain ⟨hN, hl, hu, hc, ht, ho⟩ := h
  exact ⟨hN, hl, hu, hc, fun b hb => by rw [← h1 b hb]; exact ht b hb, fun b hb => by rw [← h2 b hb]; exact ho b hb⟩
/-- behind dpL no letter is left whose place the new one takes -/
theorem LI.dp (h : LI N A eb eo) {kd fm to bl : Int32} (hk : kd ≠ 3) : LI N (dpL A kd fm to bl) eb eo ∧ ∀ j, j < ln (dpL A kd fm to bl) → ¬ mtL (dpL A kd fm to bl) kd fm to bl j := by
  by_cases hx : ∃ j, fdL A kd fm to bl j
  · obtain ⟨i, hi⟩ := hx
    rw [dpL_at hk hi]
    have hz : ∀ b, lt' A b i = 0 ∧ lo' A b i = 0 := fun b => by
      have : ¬ (sv A 29 i = 3 ∧ sv A 32 i = nI b) := fun z => hk (hi.2.1.1.symm.trans z.1)
      unfold lt' lo'
      rw [if_neg this, if_neg this]
      exact ⟨rfl, rfl⟩
    refine ⟨(h.rm hi.1).eq (fun b _ => by rw [(hz b).1]; rfl) (fun b _ => by rw [(hz b).2]; rfl), fun j hj hm => ?_⟩
    have hj' : (if j < i then j else j + 1) < ln A := by
      have : ln (rmL A i) = ln A - 1 := rfl
      have := hi.1
      split <;> omega
    unfold mtL at hm
    rw [sv_rm_at (by omega), sv_rm_at (by omega), sv_rm_at (by omega), sv_rm_at (by omega)] at hm
    obtain ⟨m1, m2, m3, m4⟩ := hm
    obtain ⟨n1, n2, n3, n4⟩ := hi.2.1
    have := h.2.2.1 _ i hj' hi.1 (m1.trans n1.symm) (by rw [m1]; exact hk) (m2.trans n2.symm) (m3.trans n3.symm) (fun z => (m4 (m1.symm.trans z)).trans (n4 (m1.symm.trans z)).symm)
    split at this <;> omega
  · have hno : ∀ j, j < ln A → ¬ mtL A kd fm to bl j := by
      intro j hj hm
      obtain ⟨k, ⟨hk1, hk2⟩, hk3⟩ := pk_least (fun j => j < ln A ∧ mtL A kd fm to bl j) ⟨j, hj, hm⟩
      exact hx ⟨k, hk1, hk2, fun i hi q => hk3 i hi ⟨by omega, q⟩⟩
    rw [dpL_no hno]
    exact ⟨h, hno⟩
theorem sv_ap_old {G : Nat → Int32} {k j : Nat} (hj : j < ln A) : sv (apL A G) k j = sv A k j := by
  rw [sv_apL, if_neg (fun z => by omega)]
theorem sv_ap_new {G : Nat → Int32} {k : Nat} (hk : 29 ≤ k ∧ k < 40) : sv (apL A G) k (ln A) = G k := by
  rw [sv_apL, if_pos ⟨hk, rfl⟩]
theorem sv_ap_lo {G : Nat → Int32} {k j : Nat} (hk : ¬ (29 ≤ k ∧ k < 40)) : sv (apL A G) k j = sv A k j := by
  rw [sv_apL, if_neg (fun z => hk z.1)]
theorem lt_of {A' : AS} {b i j : Nat} (e : ∀ k, 29 ≤ k → k < 40 → sv A' k j = sv A k i) : lt' A' b j = lt' A b i ∧ lo' A' b j = lo' A b i := by
  unfold lt' lo'
  rw [e 29 (by omega) (by omega), e 32 (by omega) (by omega), e 33 (by omega) (by omega), e 34 (by omega) (by omega)]
  exact ⟨rfl, rfl⟩
/-- a letter behind the others -/
theorem LI.ap {G : Nat → Int32} {eb' eo' : Nat → Nat} (h : LI N A eb eo) (hw : lw N (apL A G) (ln A)) (hu : ∀ j, j < ln A → uq (apL A G) j (ln A)) (hb : ∀ b, b < 2 → eb b = lt' (apL A G) b (ln A) + eb' b) (ho : ∀ b, b < 2 → eo b = lo' (apL A G) b (ln A) + eo' b) : LI N (apL A G) eb' eo' := by
  obtain ⟨hN, hl, hu0, hc, ht, hoo⟩ := h
  have len : ln (apL A G) = ln A + 1 := rfl
  refine ⟨hN, fun j hj => ?_, fun j j' hj hj' => ?_, fun j hj => cw_of (sv_ap_lo (by omega)) (sv_ap_lo (by omega)) (sv_ap_lo (by omega)) (sv_ap_lo (by omega)) (sv_ap_lo (by omega)) (hc j hj), fun b hb' => ?_, fun b hb' => ?_⟩
  · rw [len] at hj
    by_cases e : j = ln A
    · subst e; exact hw
    · exact lw_of (fun k _ _ => sv_ap_old (by omega)) (hl j (by omega))
  · rw [len] at hj hj'
    by_cases e : j = ln A <;> by_cases e' : j' = ln A
    · exact fun _ _ _ _ _ => e.trans e'.symm
    · subst e
      intro a1 a2 a3 a4 a5
      exact (hu j' (by omega) a1.symm (by rw [← a1]; exact a2) a3.symm a4.symm (fun z => (a5 (a1.trans z)).symm)).symm
    · subst e'; exact hu j (by omega)
    · unfold uq
      rw [sv_ap_old (by omega), sv_ap_old (by omega), sv_ap_old (by omega), sv_ap_old (by omega), sv_ap_old (by omega), sv_ap_old (by omega), sv_ap_old (by omega), sv_ap_old (by omega)]
      exact hu0 j j' (by omega) (by omega)
  · have e1 : sm (fun x => nt (sv (apL A G) 5 (2 * x + b))) (N + 1) = sm (fun x => nt (sv A 5 (2 * x + b))) (N + 1) := sm_congr _ (fun x _ => by rw [sv_ap_lo (by omega)])
    have e2 : sm (lt' (apL A G) b) (ln A) = sm (lt' A b) (ln A) := sm_congr _ (fun j hj => (lt_of (fun k _ _ => sv_ap_old hj)).1)
    rw [e1, len, sm_s (g := lt' (apL A G) b), e2]
    have := ht b hb'
    have := hb b hb'
    omega
  · have e1 : sm (fun x => o1 (sv (apL A G) 6 (2 * x + b))) (N + 1) = sm (fun x => o1 (sv A 6 (2 * x + b))) (N + 1) := sm_congr _ (fun x _ => by rw [sv_ap_lo (by omega)])
    have e2 : sm (lo' (apL A G) b) (ln A) = sm (lo' A b) (ln A) := sm_congr _ (fun j hj => (lt_of (fun k _ _ => sv_ap_old hj)).2)
    rw [e1, len, sm_s (g := lo' (apL A G) b), e2]
    have := hoo b hb'
    have := ho b hb'
    omega
end Inv
end
section
/-! what always holds stays: sending, giving, getting, learning, ending, asking -/
section Inv3
variable {N : Nat} {A A' : AS} {eb eo : Nat → Nat}
def rel (k : Nat) : Prop := k = 5 ∨ k = 6 ∨ k = 7 ∨ k = 9 ∨ k = 10 ∨ (29 ≤ k ∧ k ≤ 35) ∨ k = 38 ∨ k = 39
theorem LI.cong (h : LI N A eb eo) (hl : ln A' = ln A) (e : ∀ k j, rel k → sv A' k j = sv A k j) : LI N A' eb eo := by
  obtain ⟨hN, hw, hu, hc, ht, ho⟩ := h
  have r : ∀ k, (k = 5 ∨ k = 6 ∨ k = 7 ∨ k = 9 ∨ k = 10 ∨ (29 ≤ k ∧ k ≤ 35) ∨ k = 38 ∨ k = 39) → ∀ j, sv A' k j = sv A k j := fun k hk j => e k j hk
  have elt : ∀ b j, lt' A' b j = lt' A b j := fun b j => by unfold lt'; rw [r 29 (by omega), r 32 (by omega), r 33 (by omega)]
  have elo : ∀ b j, lo' A' b j = lo' A b j := fun b j => by unfold lo'; rw [r 29 (by omega), r 32 (by omega), r 34 (by omega)]
  refine ⟨hN, fun i hi => ?_, fun i j hi hj => ?_, fun i hi => cw_of (r 5 (by omega) i) (r 6 (by omega) i) (r 7 (by omega) i) (r 9 (by omega) i) (r 10 (by omega) i) (hc i hi), fun b hb => ?_, fun b hb => ?_⟩
  · rw [hl] at hi
    have := hw i hi
    unfold lw at this ⊢
    rw [r 29 (by omega), r 30 (by omega), r 31 (by omega), r 32 (by omega), r 33 (by omega), r 34 (by omega), r 35 (by omega), r 38 (by omega), r 39 (by omega)]
    exact this
  · rw [hl] at hi hj
    have := hu i j hi hj
    unfold uq at this ⊢
    rw [r 29 (by omega), r 29 (by omega), r 30 (by omega), r 30 (by omega), r 31 (by omega), r 31 (by omega), r 32 (by omega), r 32 (by omega)]
    exact this
  · rw [hl, sm_congr (g := lt' A' b) (h := lt' A b) _ (fun j _ => elt b j), sm_congr (g := fun x => nt (sv A' 5 (2 * x + b))) (h := fun x => nt (sv A 5 (2 * x + b))) _ (fun x _ => by rw [r 5 (by omega)])]
    exact ht b hb
  · rw [hl, sm_congr (g := lo' A' b) (h := lo' A b) _ (fun j _ => elo b j), sm_congr (g := fun x => o1 (sv A' 6 (2 * x + b))) (h := fun x => o1 (sv A 6 (2 * x + b))) _ (fun x _ => by rw [r 6 (by omega)])]
    exact ho b hb
theorem LI.set (h : LI N A eb eo) {k i : Nat} {v : Int32} (hk : ¬ rel k) : LI N (set1 A k i v) eb eo :=
  h.cong rfl (fun k' j hr => by
    have q : ¬ (k' = k ∧ j = i) := fun z => hk (z.1 ▸ hr)
    rw [sv_set1, if_neg q])
/-- a letter that is not of tokens, by its head -/
def hd (N : Nat) (kd : Int32) (s t b : Nat) : Prop := s ≤ N ∧ t ≤ N ∧ b < 2 ∧ ((kd = 1 ∧ s < N) ∨ (kd = 2 ∧ s < N) ∨ (kd = 4 ∧ s < N ∧ t = N) ∨ (kd = 5 ∧ s = N ∧ t < N) ∨ (kd = 6 ∧ s < N ∧ t = N ∧ b = 0))
theorem hd.ne {kd : Int32} {s t b : Nat} (h : hd N kd s t b) : kd ≠ 3 := by
  rcases h.2.2.2 with q | q | q | q | q <;> rw [q.1] <;> decide
theorem LI.send (h : LI N A eb eo) {kd : Int32} {s t b : Nat} (w : hd N kd s t b) : LI N (sdL A kd (nI s) (nI t) (nI b)) eb eo := by
  obtain ⟨h1, h2⟩ := h.dp (fm := nI s) (to := nI t) (bl := nI b) w.ne
  obtain ⟨w1, w2, w3, w4⟩ := id w
  have v : ∀ k, 29 ≤ k ∧ k < 40 → sv (apL (dpL A kd (nI s) (nI t) (nI b)) (nwL kd (nI s) (nI t) (nI b))) k (ln (dpL A kd (nI s) (nI t) (nI b))) = nwL kd (nI s) (nI t) (nI b) k := fun k hk => sv_ap_new hk
  have z : ∀ b', lt' (apL (dpL A kd (nI s) (nI t) (nI b)) (nwL kd (nI s) (nI t) (nI b))) b' (ln (dpL A kd (nI s) (nI t) (nI b))) = 0 ∧ lo' (apL (dpL A kd (nI s) (nI t) (nI b)) (nwL kd (nI s) (nI t) (nI b))) b' (ln (dpL A kd (nI s) (nI t) (nI b))) = 0 := by
    intro b'
    unfold lt' lo'
    rw [v 29 (by omega)]
    have : ¬ (nwL kd (nI s) (nI t) (nI b) 29 = 3 ∧ sv (apL (dpL A kd (nI s) (nI t) (nI b)) (nwL kd (nI s) (nI t) (nI b))) 32 (ln (dpL A kd (nI s) (nI t) (nI b))) = nI b') := fun q => w.ne q.1
    rw [if_neg this, if_neg this]
    exact ⟨rfl, rfl⟩
  refine h1.ap ?_ (fun j hj => ?_) (fun b' _ => by rw [(z b').1, Nat.zero_add]) (fun b' _ => by rw [(z b').2, Nat.zero_add])
  · unfold lw
    rw [v 29 (by omega), v 30 (by omega), v 31 (by omega), v 32 (by omega), v 33 (by omega), v 34 (by omega), v 35 (by omega), v 38 (by omega), v 39 (by omega)]
    refine ⟨⟨t, s, b, w2, w1, w3, rfl, rfl, rfl, ?_⟩, ⟨Or.inl rfl, Or.inl rfl, Or.inl rfl⟩, fun q => absurd q w.ne, fun _ => ⟨rfl, rfl, rfl⟩, Or.inl rfl⟩
    rcases w4 with q | q | q | q | q
    · exact Or.inl q
    · exact Or.inr (Or.inl q)
    · exact Or.inr (Or.inr (Or.inr (Or.inl q)))
    · exact Or.inr (Or.inr (Or.inr (Or.inr (Or.inl q))))
    · exact Or.inr (Or.inr (Or.inr (Or.inr (Or.inr q))))
  · unfold uq
    rw [v 29 (by omega), v 30 (by omega), v 31 (by omega), v 32 (by omega), sv_ap_old hj, sv_ap_old hj, sv_ap_old hj, sv_ap_old hj]
    intro a1 a2 a3 a4 a5
    exact absurd ⟨a1, a3, a4, fun q => a5 (a1.trans q)⟩ (h2 j hj)
theorem LI.set38 (h : LI N A eb eo) {i : Nat} {v : Int32} (hv : v = -1 ∨ ∃ c, c < N ∧ v = nI c) : LI N (set1 A 38 i v) eb eo := by
  obtain ⟨hN, hw, hu, hc, ht, ho⟩ := h
  refine ⟨hN, fun j hj => ?_, hu, hc, ht, ho⟩
  obtain ⟨q1, q2, q3, q4, q5⟩ := hw j hj
  refine ⟨q1, q2, q3, q4, ?_⟩
  rw [sv_set1]
  by_cases e : j = i
  · rw [if_pos ⟨rfl, e⟩]; exact hv
  · rw [if_neg (fun z => e z.2)]; exact q5
theorem LI.set39 (h : LI N A eb eo) {i : Nat} {v : Int32} (hv : bz v) : LI N (set1 A 39 i v) eb eo := by
  obtain ⟨hN, hw, hu, hc, ht, ho⟩ := h
  refine ⟨hN, fun j hj => ?_, hu, hc, ht, ho⟩
  obtain ⟨q1, ⟨r1, r2, r3⟩, q3, q4, q5⟩ := hw j hj
  refine ⟨q1, ⟨r1, r2, ?_⟩, q3, q4, q5⟩
  rw [sv_set1]
  by_cases e : j = i
  · rw [if_pos ⟨rfl, e⟩]; exact hv
  · rw [if_neg (fun z => e z.2)]; exact r3
/-- a cell gets other tokens; the difference is in hand -/
theorem LI.cell (h : LI N A eb eo) {x b : Nat} (hx : x ≤ N) (hb : b < 2) {v5 v6 v7 : Int32} {eb' eo' : Nat → Nat} (hcw : cw N (set1 (set1 (set1 A 5 (2 * x + b) v5) 6 (2 * x + b) v6) 7 (2 * x + b) v7) (2 * x + b))
    (h1 : nt v5 + eb' b = nt (sv A 5 (2 * x + b)) + eb b) (h2 : o1 v6 + eo' b = o1 (sv A 6 (2 * x + b)) + eo b) (h3 : ∀ b', b' < 2 → b' ≠ b → eb' b' = eb b' ∧ eo' b' = eo b') : LI N (set1 (set1 (set1 A 5 (2 * x + b) v5) 6 (2 * x + b) v6) 7 (2 * x + b) v7) eb' eo' := by
  obtain ⟨hN, hw, hu, hc, ht, ho⟩ := h
  have s5 : ∀ j, sv (set1 (set1 (set1 A 5 (2 * x + b) v5) 6 (2 * x + b) v6) 7 (2 * x + b) v7) 5 j = if j = 2 * x + b then v5 else sv A 5 j := fun j => by simp [sv_set1]
  have s6 : ∀ j, sv (set1 (set1 (set1 A 5 (2 * x + b) v5) 6 (2 * x + b) v6) 7 (2 * x + b) v7) 6 j = if j = 2 * x + b then v6 else sv A 6 j := fun j => by simp [sv_set1]
  have s7 : ∀ j, sv (set1 (set1 (set1 A 5 (2 * x + b) v5) 6 (2 * x + b) v6) 7 (2 * x + b) v7) 7 j = if j = 2 * x + b then v7 else sv A 7 j := fun j => by simp [sv_set1]
  refine ⟨hN, hw, hu, fun j hj => ?_, fun b' hb' => ?_, fun b' hb' => ?_⟩
  · by_cases e : j = 2 * x + b
    · subst e; exact hcw
    · exact cw_of (A := A) (by rw [s5, if_neg e]) (by rw [s6, if_neg e]) (by rw [s7, if_neg e]) rfl rfl (hc j hj)
  · have hl : sm (lt' (set1 (set1 (set1 A 5 (2 * x + b) v5) 6 (2 * x + b) v6) 7 (2 * x + b) v7) b') (ln A) = sm (lt' A b') (ln A) := rfl
    have t0 := ht b' hb'
    show sm (fun y => nt (sv (set1 (set1 (set1 A 5 (2 * x + b) v5) 6 (2 * x + b) v6) 7 (2 * x + b) v7) 5 (2 * y + b'))) (N + 1) + sm (lt' A b') (ln A) + eb' b' = N + 1
    by_cases e : b' = b
    · subst e
      have u := sm_up (g := fun y => nt (sv (set1 (set1 (set1 A 5 (2 * x + b') v5) 6 (2 * x + b') v6) 7 (2 * x + b') v7) 5 (2 * y + b'))) (h := fun y => nt (sv A 5 (2 * y + b'))) (i := x) (N + 1) (by omega) (fun j _ hj => by show nt _ = nt _; rw [s5, if_neg (by omega)])
      have u2 : nt (sv (set1 (set1 (set1 A 5 (2 * x + b') v5) 6 (2 * x + b') v6) 7 (2 * x + b') v7) 5 (2 * x + b')) = nt v5 := by rw [s5, if_pos rfl]
      simp only [u2] at u
      omega
    · have u : sm (fun y => nt (sv (set1 (set1 (set1 A 5 (2 * x + b) v5) 6 (2 * x + b) v6) 7 (2 * x + b) v7) 5 (2 * y + b'))) (N + 1) = sm (fun y => nt (sv A 5 (2 * y + b'))) (N + 1) := sm_congr _ (fun j _ => by rw [s5, if_neg (by omega)])
      rw [u, (h3 b' hb' e).1]
      exact t0
  · have t0 := ho b' hb'
    show sm (fun y => o1 (sv (set1 (set1 (set1 A 5 (2 * x + b) v5) 6 (2 * x + b) v6) 7 (2 * x + b) v7) 6 (2 * y + b'))) (N + 1) + sm (lo' A b') (ln A) + eo' b' = 1
    by_cases e : b' = b
    · subst e
      have u := sm_up (g := fun y => o1 (sv (set1 (set1 (set1 A 5 (2 * x + b') v5) 6 (2 * x + b') v6) 7 (2 * x + b') v7) 6 (2 * y + b'))) (h := fun y => o1 (sv A 6 (2 * y + b'))) (i := x) (N + 1) (by omega) (fun j _ hj => by show o1 _ = o1 _; rw [s6, if_neg (by omega)])
      have u2 : o1 (sv (set1 (set1 (set1 A 5 (2 * x + b') v5) 6 (2 * x + b') v6) 7 (2 * x + b') v7) 6 (2 * x + b')) = o1 v6 := by rw [s6, if_pos rfl]
      simp only [u2] at u
      omega
    · have u : sm (fun y => o1 (sv (set1 (set1 (set1 A 5 (2 * x + b) v5) 6 (2 * x + b) v6) 7 (2 * x + b) v7) 6 (2 * y + b'))) (N + 1) = sm (fun y => o1 (sv A 6 (2 * y + b'))) (N + 1) := sm_congr _ (fun j _ => by rw [s6, if_neg (by omega)])
      rw [u, (h3 b' hb' e).2]
      exact t0
theorem bz_if {p : Prop} [Decidable p] : bz (if p then 1 else 0) := by
  split
  · exact Or.inr rfl
  · exact Or.inl rfl
theorem o1_1 : o1 1 = 1 := by decide
theorem o1_0 : o1 0 = 0 := by decide
set_option maxHeartbeats 4000000 in
/-- x gives k tokens -/
theorem LI.give (h : LI N A eb eo) {x b t k : Nat} {ow wd : Int32} (hx : x ≤ N) (hb : b < 2) (ht : t ≤ N) (hk : nI k = sv A 5 (2 * x + b) ∨ (k = 1 ∧ sv A 6 (2 * x + b) = 1)) (hk2 : k ≤ N + 1) (how : bz ow) (hwd : bz wd) (h1 : ow = 1 → sv A 6 (2 * x + b) = 1 ∧ wd = 1) (h2 : sv A 6 (2 * x + b) = 1 → ow = 0 → nI k < sv A 5 (2 * x + b)) : LI N (gvA A x b (nI t) (nI k) ow wd) eb eo := by
  by_cases k0 : k = 0
  · subst k0
    have : gvA A x b (nI t) (nI 0) ow wd = A := if_pos rfl
    rw [this]
    exact h
  have hN := h.1
  have hnk : ¬ nI k = 0 := nI_ne0 (by omega) (by omega)
  obtain ⟨⟨tt, g1, g2⟩, ⟨g3, g4, g5⟩, g6, g7⟩ := h.2.2.2.1 (2 * x + b) (by omega)
  have hkt : k ≤ tt := by
    rcases hk with q | ⟨q1, q2⟩
    · rw [g2] at q
      have := (nI_eq (a := k) (b := tt) (by omega) (by omega)).mp q
      omega
    · have := (g6 q2).2
      rw [g2] at this
      rcases Nat.eq_zero_or_pos tt with z | z
      · subst z; exact absurd rfl this
      · omega
  have e5 : sv A 5 (2 * x + b) - nI k = nI (tt - k) := by rw [g2]; exact pk_sub hkt
  have pos : (0 < sv A 5 (2 * x + b) - nI k) ↔ k < tt := by
    rw [e5]
    have : (0 : Int32) = nI 0 := rfl
    rw [this, nI_ltI (by omega) (by omega)]
    omega
  -- the cell
  have hc1 := h.cell (x := x) (b := b) hx hb (v5 := nI (tt - k)) (v6 := if sv A 6 (2 * x + b) ≠ 0 ∧ ow = 0 then 1 else 0) (v7 := if sv A 7 (2 * x + b) ≠ 0 ∧ 0 < sv A 5 (2 * x + b) - nI k then 1 else 0) (eb' := fun b' => if b' = b then eb b + k else eb b') (eo' := fun b' => if b' = b then eo b + o1 ow else eo b') ?_ ?_ ?_ ?_
  · -- the letter
    have e : LI N (apL (set1 (set1 (set1 A 5 (2 * x + b) (nI (tt - k))) 6 (2 * x + b) (if sv A 6 (2 * x + b) ≠ 0 ∧ ow = 0 then 1 else 0)) 7 (2 * x + b) (if sv A 7 (2 * x + b) ≠ 0 ∧ 0 < sv A 5 (2 * x + b) - nI k then 1 else 0)) (fun q => if q = 33 then nI k else if q = 34 then ow else if q = 35 then wd else if q = 36 then sv A 8 (2 * x + b) else nwL 3 (nI x) (nI t) (nI b) q)) eb eo := by
      have v : ∀ (G : Nat → Int32) q, 29 ≤ q ∧ q < 40 → sv (apL (set1 (set1 (set1 A 5 (2 * x + b) (nI (tt - k))) 6 (2 * x + b) (if sv A 6 (2 * x + b) ≠ 0 ∧ ow = 0 then 1 else 0)) 7 (2 * x + b) (if sv A 7 (2 * x + b) ≠ 0 ∧ 0 < sv A 5 (2 * x + b) - nI k then 1 else 0)) G) q (ln A) = G q := fun G q hq => sv_ap_new (A := set1 (set1 (set1 A 5 (2 * x + b) (nI (tt - k))) 6 (2 * x + b) (if sv A 6 (2 * x + b) ≠ 0 ∧ ow = 0 then 1 else 0)) 7 (2 * x + b) (if sv A 7 (2 * x + b) ≠ 0 ∧ 0 < sv A 5 (2 * x + b) - nI k then 1 else 0)) hq
      refine hc1.ap ?_ (fun j hj => ?_) (fun b' hb' => ?_) (fun b' hb' => ?_)
      · show lw N _ (ln A)
        unfold lw
        rw [v _ 29 (by omega), v _ 30 (by omega), v _ 31 (by omega), v _ 32 (by omega), v _ 33 (by omega), v _ 34 (by omega), v _ 35 (by omega), v _ 38 (by omega), v _ 39 (by omega)]
        exact ⟨⟨t, x, b, ht, hx, hb, rfl, rfl, rfl, Or.inr (Or.inr (Or.inl rfl))⟩, ⟨how, hwd, Or.inl rfl⟩, fun _ => ⟨⟨k, by omega, hk2, rfl⟩, fun q => (h1 q).2⟩, fun q => absurd rfl q, Or.inl rfl⟩
      · show uq _ j (ln A)
        intro a1 a2
        rw [a1, v _ 29 (by omega)] at a2
        exact absurd rfl a2
      · show (if b' = b then eb b + k else eb b') = lt' _ b' (ln A) + eb b'
        unfold lt'
        rw [v _ 29 (by omega), v _ 32 (by omega), v _ 33 (by omega)]
        by_cases e : b' = b
        · subst e
          rw [if_pos rfl, if_pos ⟨rfl, rfl⟩]
          show eb b' + k = nt (nI k) + eb b'
          rw [nt_nI (by omega)]
          omega
        · rw [if_neg e, if_neg]
          · omega
          · intro q
            have : nI b = nI b' := q.2
            exact e ((nI_eq (by omega) (by omega)).mp this).symm
      · show (if b' = b then eo b + o1 ow else eo b') = lo' _ b' (ln A) + eo b'
        unfold lo'
        rw [v _ 29 (by omega), v _ 32 (by omega), v _ 34 (by omega)]
        by_cases e : b' = b
        · subst e
          rw [if_pos rfl, if_pos ⟨rfl, rfl⟩]
          show eo b' + o1 ow = o1 ow + eo b'
          omega
        · rw [if_neg e, if_neg]
          · omega
          · intro q
            have : nI b = nI b' := q.2
            exact e ((nI_eq (by omega) (by omega)).mp this).symm
    have hg : gvA A x b (nI t) (nI k) ow wd = _ := if_neg hnk
    rw [hg]
    refine e.cong ?_ (fun q j hr => ?_)
    · show ln (sdL A 3 (nI x) (nI t) (nI b)) = ln A + 1
      rw [ln_sdL, dpL_3]
    · rw [e5]
      unfold sdL
      rw [dpL_3]
      simp only [sv_set1, sv_apL]
      have hr' : q = 5 ∨ q = 6 ∨ q = 7 ∨ q = 9 ∨ q = 10 ∨ (29 ≤ q ∧ q ≤ 35) ∨ q = 38 ∨ q = 39 := hr
      have hl9 : ln (set1 (set1 (set1 A 5 (2 * x + b) (nI (tt - k))) 6 (2 * x + b) (if sv A 6 (2 * x + b) ≠ 0 ∧ ow = 0 then 1 else 0)) 7 (2 * x + b) (if sv A 7 (2 * x + b) ≠ 0 ∧ 0 < nI (tt - k) then 1 else 0)) = ln A := rfl
      rw [hl9]
      by_cases q7 : q = 7
      · subst q7; simp
      by_cases q6 : q = 6
      · subst q6; simp
      by_cases q5 : q = 5
      · subst q5; simp
      by_cases q36 : q = 36
      · omega
      by_cases q35 : q = 35
      · subst q35; by_cases z : j = ln A <;> simp [z]
      by_cases q34 : q = 34
      · subst q34; by_cases z : j = ln A <;> simp [z]
      by_cases q33 : q = 33
      · subst q33; by_cases z : j = ln A <;> simp [z]
      simp [q7, q6, q5, q36, q35, q34, q33]
  · refine ⟨⟨tt - k, by omega, by simp [sv_set1]⟩, ⟨by simp only [sv_set1]; simp; exact bz_if, by simp only [sv_set1]; simp; exact bz_if, g5⟩, ?_, g7⟩
    have s6 : sv (set1 (set1 (set1 A 5 (2 * x + b) (nI (tt - k))) 6 (2 * x + b) (if sv A 6 (2 * x + b) ≠ 0 ∧ ow = 0 then 1 else 0)) 7 (2 * x + b) (if sv A 7 (2 * x + b) ≠ 0 ∧ 0 < sv A 5 (2 * x + b) - nI k then 1 else 0)) 6 (2 * x + b) = if sv A 6 (2 * x + b) ≠ 0 ∧ ow = 0 then 1 else 0 := by simp [sv_set1]
    have s7 : sv (set1 (set1 (set1 A 5 (2 * x + b) (nI (tt - k))) 6 (2 * x + b) (if sv A 6 (2 * x + b) ≠ 0 ∧ ow = 0 then 1 else 0)) 7 (2 * x + b) (if sv A 7 (2 * x + b) ≠ 0 ∧ 0 < sv A 5 (2 * x + b) - nI k then 1 else 0)) 7 (2 * x + b) = if sv A 7 (2 * x + b) ≠ 0 ∧ 0 < sv A 5 (2 * x + b) - nI k then 1 else 0 := by simp [sv_set1]
    have s5 : sv (set1 (set1 (set1 A 5 (2 * x + b) (nI (tt - k))) 6 (2 * x + b) (if sv A 6 (2 * x + b) ≠ 0 ∧ ow = 0 then 1 else 0)) 7 (2 * x + b) (if sv A 7 (2 * x + b) ≠ 0 ∧ 0 < sv A 5 (2 * x + b) - nI k then 1 else 0)) 5 (2 * x + b) = nI (tt - k) := by simp [sv_set1]
    rw [s6, s7, s5]
    intro q
    by_cases z : sv A 6 (2 * x + b) ≠ 0 ∧ ow = 0
    · have own : sv A 6 (2 * x + b) = 1 := by
        rcases g3 with y | y
        · exact absurd y z.1
        · exact y
      have hlt := h2 own z.2
      rw [g2, nI_ltI (by omega) (by omega)] at hlt
      refine ⟨?_, nI_ne0 (by omega) (by omega)⟩
      rw [if_pos ⟨by rw [(g6 own).1]; decide, pos.mpr hlt⟩]
    · rw [if_neg z] at q
      exact absurd q (by decide)
  · show nt (nI (tt - k)) + (if b = b then eb b + k else eb b) = nt (sv A 5 (2 * x + b)) + eb b
    rw [if_pos rfl, g2, nt_nI (by omega), nt_nI (by omega)]
    omega
  · show o1 (if sv A 6 (2 * x + b) ≠ 0 ∧ ow = 0 then 1 else 0) + (if b = b then eo b + o1 ow else eo b) = o1 (sv A 6 (2 * x + b)) + eo b
    rw [if_pos rfl]
    rcases how with y | y
    · subst y
      rcases g3 with z | z
      · rw [z, if_neg (fun q => q.1 rfl), o1_0]; omega
      · rw [z, if_pos ⟨by decide, rfl⟩, o1_0]; omega
    · have := (h1 y).1
      rw [this, y, if_neg (fun q => absurd q.2 (by decide)), o1_0, o1_1]
      omega
  · intro b' _ hne
    exact ⟨if_neg hne, if_neg hne⟩
end Inv3
end
section
/-! what always holds stays: the methods' own steps -/
section Inv4
variable {N : Nat} {A : AS} {eb eo : Nat → Nat}
theorem LI.cwf (h : LI N A eb eo) {x b : Nat} (hx : x ≤ N) (hb : b < 2) : cw N A (2 * x + b) := h.2.2.2.1 _ (by omega)
theorem LI.giveAll (h : LI N A eb eo) {x b t : Nat} (hx : x ≤ N) (hb : b < 2) (ht : t ≤ N) : LI N (gvA A x b (nI t) (sv A 5 (2 * x + b)) (sv A 6 (2 * x + b)) (sv A 6 (2 * x + b))) eb eo := by
  obtain ⟨⟨tt, g1, g2⟩, ⟨g3, g4, g5⟩, g6, g7⟩ := h.cwf hx hb
  have := h.give (k := tt) (ow := sv A 6 (2 * x + b)) (wd := sv A 6 (2 * x + b)) hx hb ht (Or.inl g2.symm) g1 g3 g3 (fun q => ⟨q, q⟩) (fun q1 q2 => absurd (q1.symm.trans q2) (by decide))
  rw [← g2] at this
  exact this
theorem LI.gw (h : LI N A eb eo) {x b : Nat} (hx : x ≤ N) (hb : b < 2) : LI N (gwA A x b) eb eo := by
  unfold gwA
  obtain ⟨⟨tt, g1, g2⟩, ⟨g3, g4, g5⟩, g6, g7⟩ := h.cwf hx hb
  split
  · exact h
  · rename_i hne
    obtain ⟨c, hc, e⟩ : ∃ c, c < N ∧ sv A 9 (2 * x + b) = nI c := by
      rcases g7 with q | q
      · exact absurd (Or.inl q) hne
      · exact q
    rw [e]
    split
    · exact h.giveAll hx hb (by omega)
    · split
      · rename_i ho
        have o : sv A 6 (2 * x + b) = 1 := by
          rcases g3 with q | q
          · exact absurd q ho
          · exact q
        exact h.give (k := 1) hx hb (by omega) (Or.inr ⟨rfl, o⟩) (by omega) (Or.inr rfl) (Or.inr rfl) (fun _ => ⟨o, rfl⟩) (fun _ q => absurd q (by decide))
      · exact h
theorem LI.rd (h : LI N A eb eo) {x b c : Nat} (hx : x ≤ N) (hb : b < 2) (hc : c ≤ N) : LI N (rdA A x b (nI c)) eb eo := by
  unfold rdA
  obtain ⟨⟨tt, g1, g2⟩, ⟨g3, g4, g5⟩, g6, g7⟩ := h.cwf hx hb
  have hN := h.1
  split
  · rename_i ho
    have o : sv A 6 (2 * x + b) = 1 := by
      rcases g3 with q | q
      · exact absurd q ho.2
      · exact q
    have t0 : tt ≠ 0 := by
      intro q
      have := (g6 o).2
      rw [g2, q] at this
      exact this rfl
    refine h.give (k := 1) hx hb hc (Or.inr ⟨rfl, o⟩) (by omega) bz_if (Or.inr rfl) (fun _ => ⟨o, rfl⟩) (fun _ q => ?_)
    have : ¬ sv A 5 (2 * x + b) = 1 := by
      intro z
      rw [if_pos z] at q
      exact absurd q (by decide)
    rw [g2] at this ⊢
    refine nI_lt ?_ (by omega)
    have : tt ≠ 1 := fun z => this (by rw [z]; rfl)
    omega
  · exact h
theorem LI.wr (h : LI N A eb eo) {x b c : Nat} (hx : x ≤ N) (hb : b < 2) (hc : c ≤ N) : LI N (wrA A x b (nI c)) eb eo := by
  unfold wrA
  split
  · exact h.giveAll hx hb hc
  · exact h
theorem LI.lrn (h : LI N A eb eo) {i : Nat} {c w n : Int32} (hc : c = -1 ∨ ∃ d, d < N ∧ c = nI d) (hw : bz w) : LI N (lnA A i c w n) eb eo := by
  refine LI.set (k := 11) ?_ (by unfold rel; omega)
  obtain ⟨hN, hl, hu, hcw, ht, ho⟩ := h
  refine ⟨hN, hl, hu, fun j hj => ?_, ht, ho⟩
  obtain ⟨q1, ⟨r1, r2, r3⟩, q3, q4⟩ := hcw j hj
  refine ⟨q1, ⟨r1, r2, ?_⟩, q3, ?_⟩
  · rw [sv_set1]
    by_cases e : j = i
    · rw [if_pos ⟨rfl, e⟩]; exact hw
    · rw [if_neg (fun z => e z.2)]; exact r3
  · rw [sv_set1, if_neg (by omega), sv_set1]
    by_cases e : j = i
    · rw [if_pos ⟨rfl, e⟩]; exact hc
    · rw [if_neg (fun z => e z.2)]; exact q4
/-- the tokens in hand go into a cell -/
theorem LI.gt (h : LI N A eb eo) {x b ct : Nat} {ow wd dt : Int32} (hx : x ≤ N) (hb : b < 2) (hct : eb b = ct) (how : bz ow) (hwd : bz wd) (hc1 : 1 ≤ ct) (hoo : eo b = o1 ow) (hw1 : ow = 1 → wd = 1) (hz : ∀ b', b' < 2 → b' ≠ b → eb b' = 0 ∧ eo b' = 0) : LI N (gtA A (2 * x + b) (nI ct) ow wd dt) (fun _ => 0) (fun _ => 0) := by
  have hN := h.1
  obtain ⟨⟨tt, g1, g2⟩, ⟨g3, g4, g5⟩, g6, g7⟩ := h.cwf hx hb
  have sum := h.2.2.2.2.1 b hb
  have le : tt + ct ≤ N + 1 := by
    have := sm_le (g := fun y => nt (sv A 5 (2 * y + b))) (N + 1) x (by omega)
    simp only [g2] at this
    rw [nt_nI (by omega)] at this
    omega
  have e5 : sv A 5 (2 * x + b) + nI ct = nI (tt + ct) := by rw [g2]; exact nI_add tt ct
  have z1 : ∀ v7 : Int32, bz v7 → (ow = 1 ∨ sv A 6 (2 * x + b) = 1 → v7 = 1) → LI N (set1 (set1 (set1 A 5 (2 * x + b) (nI (tt + ct))) 6 (2 * x + b) (if sv A 6 (2 * x + b) ≠ 0 ∨ ow ≠ 0 then 1 else 0)) 7 (2 * x + b) v7) (fun _ => 0) (fun _ => 0) := by
    intro v7 hv hv1
    have s6 : sv (set1 (set1 (set1 A 5 (2 * x + b) (nI (tt + ct))) 6 (2 * x + b) (if sv A 6 (2 * x + b) ≠ 0 ∨ ow ≠ 0 then 1 else 0)) 7 (2 * x + b) v7) 6 (2 * x + b) = (if sv A 6 (2 * x + b) ≠ 0 ∨ ow ≠ 0 then 1 else 0) := by simp [sv_set1]
    have s7 : sv (set1 (set1 (set1 A 5 (2 * x + b) (nI (tt + ct))) 6 (2 * x + b) (if sv A 6 (2 * x + b) ≠ 0 ∨ ow ≠ 0 then 1 else 0)) 7 (2 * x + b) v7) 7 (2 * x + b) = v7 := by simp [sv_set1]
    have s5 : sv (set1 (set1 (set1 A 5 (2 * x + b) (nI (tt + ct))) 6 (2 * x + b) (if sv A 6 (2 * x + b) ≠ 0 ∨ ow ≠ 0 then 1 else 0)) 7 (2 * x + b) v7) 5 (2 * x + b) = nI (tt + ct) := by simp [sv_set1]
    refine h.cell hx hb ⟨⟨tt + ct, le, s5⟩, ⟨by rw [s6]; exact bz_if, by rw [s7]; exact hv, g5⟩, ?_, g7⟩ ?_ ?_ (fun b' hb' hne => ?_)
    · rw [s6, s7, s5]
      intro q
      refine ⟨hv1 ?_, nI_ne0 (by omega) (by omega)⟩
      by_cases y : sv A 6 (2 * x + b) ≠ 0 ∨ ow ≠ 0
      · rcases y with y | y
        · rcases g3 with w | w
          · exact absurd w y
          · exact Or.inr w
        · rcases how with w | w
          · exact absurd w y
          · exact Or.inl w
      · rw [if_neg y] at q
        exact absurd q (by decide)
    · rw [g2, nt_nI (by omega), nt_nI (by omega)]
      omega
    · rw [hoo]
      have so := h.2.2.2.2.2 b hb
      have lo : o1 (sv A 6 (2 * x + b)) ≤ sm (fun y => o1 (sv A 6 (2 * y + b))) (N + 1) := sm_le (g := fun y => o1 (sv A 6 (2 * y + b))) (N + 1) x (by omega)
      rcases how with y | y <;> rcases g3 with w | w
      · rw [w, y, if_neg (by rintro (q | q) <;> exact q rfl), o1_0]
      · rw [w, y, if_pos (Or.inl (by decide)), o1_0, o1_1]
      · rw [w, y, if_pos (Or.inr (by decide)), o1_0, o1_1]
      · rw [w, o1_1] at lo
        rw [hoo, y, o1_1] at so
        omega
    · obtain ⟨a, c⟩ := hz b' hb' hne
      exact ⟨a.symm, c.symm⟩
  unfold gtA
  rw [e5]
  rcases hwd with y | y
  · rw [if_pos y]
    refine (z1 (sv A 7 (2 * x + b)) g4 (fun q => ?_)).cong rfl (fun k j hr => ?_)
    · rcases q with q | q
      · exact absurd (y.symm.trans (hw1 q)) (by decide)
      · exact (g6 q).1
    · have : sv (set1 (set1 (set1 A 5 (2 * x + b) (nI (tt + ct))) 6 (2 * x + b) (if sv A 6 (2 * x + b) ≠ 0 ∨ ow ≠ 0 then 1 else 0)) 7 (2 * x + b) (sv A 7 (2 * x + b))) k j = sv (set1 (set1 A 5 (2 * x + b) (nI (tt + ct))) 6 (2 * x + b) (if sv A 6 (2 * x + b) ≠ 0 ∨ ow ≠ 0 then 1 else 0)) k j := by
        rw [sv_set1]
        by_cases e : k = 7 ∧ j = 2 * x + b
        · rw [if_pos e, e.1, e.2, sv_set1, if_neg (by omega), sv_set1, if_neg (by omega)]
        · rw [if_neg e]
      exact this.symm
  · rw [if_neg (by rw [y]; decide)]
    exact (z1 1 (Or.inr rfl) (fun _ => rfl)).set (k := 8) (by unfold rel; omega)
theorem LI.enB (h : LI N A eb eo) {c b : Nat} : LI N (enB A c b) eb eo := by
  unfold Jvm.Pilot.@@N@@.enB
  refine LI.set (k := 20) (LI.set (k := 12) ?_ (by unfold rel; omega)) (by unfold rel; omega)
  split
  · exact h.set (by unfold rel; omega)
  · exact (h.set (by unfold rel; omega)).set (by unfold rel; omega)
theorem LI.en (h : LI N A eb eo) {c b : Nat} (hc : c < N) : LI N (enA N A c b) eb eo := by
  unfold enA
  split
  · exact h.enB
  · refine LI.set (k := 37) ?_ (by unfold rel; omega)
    exact h.enB.send (kd := 6) (s := c) (t := N) (b := 0) ⟨by omega, by omega, by omega, Or.inr (Or.inr (Or.inr (Or.inr ⟨rfl, hc, rfl, rfl⟩)))⟩
theorem LI.ak (h : LI N A eb eo) {c b : Nat} {kd : Int32} (hc : c < N) (hb : b < 2) (hk : kd = 1 ∨ kd = 2) : ∀ x, x ≤ N + 1 → LI N (akA A c kd (nI b) x) eb eo
  | 0, _ => h
  | x + 1, hx => by
    unfold akA
    have ih := LI.ak h hc hb hk x (by omega)
    split
    · exact ih
    · refine ih.send ⟨by omega, by omega, hb, ?_⟩
      rcases hk with q | q
      · exact Or.inl ⟨q, hc⟩
      · exact Or.inr (Or.inl ⟨q, hc⟩)
theorem rwk_12 {c : Nat} : rwk A c = 1 ∨ rwk A c = 2 := by
  unfold rwk
  split
  · exact Or.inl rfl
  · exact Or.inr rfl
theorem LI.ag (h : LI N A eb eo) {c b : Nat} (hc : c < N) (hb : b < 2) (hbl : sv A 15 c = nI b) (hw : bz (sv A 13 c)) : LI N (agA N A c) eb eo := by
  unfold agA
  rw [hbl]
  split
  · exact LI.ak ((h.set (by unfold rel; omega)).set (by unfold rel; omega)) hc hb rwk_12 _ (Nat.le_refl _)
  · refine LI.set39 (LI.set (k := 37) ?_ (by unfold rel; omega)) hw
    exact (h.set (k := 14) (by unfold rel; omega)).send ⟨by omega, by omega, hb, Or.inr (Or.inr (Or.inl ⟨rfl, hc, rfl⟩))⟩
theorem LI.tl (h : LI N A eb eo) {b : Nat} {co w sr : Int32} (hb : b < 2) (hco : co = -1 ∨ ∃ d, d < N ∧ co = nI d) (hw : bz w) : ∀ c, c ≤ N → LI N (tlA N A b co w sr c) eb eo
  | 0, _ => h
  | c + 1, hc => by
    unfold tlA
    have ih := LI.tl h hb hco hw (sr := sr) c (by omega)
    refine LI.set (k := 37) (LI.set39 (LI.set38 ?_ hco) hw) (by unfold rel; omega)
    exact ih.send ⟨by omega, by omega, hb, Or.inr (Or.inr (Or.inr (Or.inl ⟨rfl, rfl, by omega⟩)))⟩
theorem bz_acw {b : Nat} : bz (acw A b) := by
  unfold acw
  split
  · exact Or.inl rfl
  · split
    · exact Or.inl rfl
    · exact Or.inr rfl
theorem LI.ta (h : LI N A eb eo) {b : Nat} (hb : b < 2) (hco : sv A 40 b = -1 ∨ ∃ d, d < N ∧ sv A 40 b = nI d) : LI N (taA N A b) eb eo :=
  (h.tl hb hco bz_acw N (Nat.le_refl _)).lrn hco bz_acw
end Inv4
end
section
/-! the rows of requests -/
def rmR (A : AS) (b i : Nat) : AS := (ln A, (fun b' => if b' = b then rn A b - 1 else rn A b'), fun k j => if (22 ≤ k ∧ k < 25) ∧ 20 * b + i ≤ j ∧ j < 20 * b + 19 then sv A k (j + 1) else sv A k j)
def apR (A : AS) (b : Nat) (c n w : Int32) : AS := (ln A, (fun b' => if b' = b then rn A b + 1 else rn A b'), up2 (up2 (up2 (sv A) 22 (20 * b + rn A b) c) 23 (20 * b + rn A b) n) 24 (20 * b + rn A b) w)
/-- the requests of c up to n are struck out, from place i - 1 down -/
noncomputable def skA (b : Nat) (c n : Int32) : Nat → AS → AS
  | 0, A => A
  | i + 1, A => skA b c n i (if sv A 22 (20 * b + i) = c ∧ sv A 23 (20 * b + i) ≤ n then rmR A b i else A)
theorem sv_rmR {A : AS} {b i k j : Nat} : sv (rmR A b i) k j = if (22 ≤ k ∧ k < 25) ∧ 20 * b + i ≤ j ∧ j < 20 * b + 19 then sv A k (j + 1) else sv A k j := rfl
theorem rn_rmR {A : AS} {b i b' : Nat} : rn (rmR A b i) b' = if b' = b then rn A b - 1 else rn A b' := rfl
theorem rn_apR {A : AS} {b b' : Nat} {c n w : Int32} : rn (apR A b c n w) b' = if b' = b then rn A b + 1 else rn A b' := rfl
section CRR
variable {N : Nat} {Y : Nat → Nat} {bd : Nat × Nat × Nat} {hs : List Nat} {σ σ' : PS} {A : AS} {f : Nat → Nat} {m : Nat} {g : Nat → Nat} {rf : Nat → Nat → Nat} {P : Option PV → PS → Prop}
theorem ltr_kp {A' : AS} (e : ∀ k j, 29 ≤ k → sv A' k j = sv A k j) {a i : Nat} (h : LTR σ a A i) : LTR σ a A' i := by
  unfold LTR at h ⊢
  rw [e 29 i (by omega), e 30 i (by omega), e 31 i (by omega), e 32 i (by omega), e 33 i (by omega), e 34 i (by omega), e 35 i (by omega), e 36 i (by omega), e 37 i (by omega), e 38 i (by omega), e 39 i (by omega)]
  exact h
/-- what does not speak of rows -/
theorem CRx.oth {A' : AS} (h : CRx N Y bd hs σ A f m g rf) (hl : ln A' = ln A) (e : ∀ k j, ¬ (22 ≤ k ∧ k < 25) → sv A' k j = sv A k j) : SHR N Y σ A' ∧ COR N Y σ A' ∧ MSC N Y σ A' ∧ MAR Y hs σ A' f m g ∧ ACR Y σ A' := by
  obtain ⟨h1, h2, ⟨s1, s2, s3, s4, s5, s6, s7⟩, ⟨o1, o2, o3, o4, o5, o6, o7, o8, o9, o10⟩, ⟨p1, p2, p3, p4⟩, ⟨a1, a2, a3, a4, a5, a6, a7, a8, a9, a10⟩, h7, h8, h9, h10⟩ := h
  refine ⟨⟨fun i hi => ?_, fun i hi => ?_, fun i hi => ?_, fun i hi => ?_, fun i hi => ?_, fun i hi => ?_, fun i hi => ?_⟩, ⟨fun i hi => ?_, fun i hi => ?_, fun i hi => ?_, fun i hi => ?_, fun i hi => ?_, fun i hi => ?_, fun i hi => ?_, fun i hi => ?_, fun i hi => ?_, fun i hi => ?_⟩, ⟨?_, ?_, ?_, fun c hc => ?_⟩, ?_, fun b hb => ?_⟩
  · rw [e 5 i (by omega)]; exact s1 i hi
  · rw [e 6 i (by omega)]; exact s2 i hi
  · rw [e 7 i (by omega)]; exact s3 i hi
  · rw [e 8 i (by omega)]; exact s4 i hi
  · rw [e 9 i (by omega)]; exact s5 i hi
  · rw [e 10 i (by omega)]; exact s6 i hi
  · rw [e 11 i (by omega)]; exact s7 i hi
  · rw [e 17 i (by omega)]; exact o1 i hi
  · rw [e 12 i (by omega)]; exact o2 i hi
  · rw [e 13 i (by omega)]; exact o3 i hi
  · rw [e 15 i (by omega)]; exact o4 i hi
  · rw [e 16 i (by omega)]; exact o5 i hi
  · rw [e 18 i (by omega)]; exact o6 i hi
  · rw [e 19 i (by omega)]; exact o7 i hi
  · rw [e 14 i (by omega)]; exact o8 i hi
  · rw [e 20 i (by omega)]; exact o9 i hi
  · rw [e 21 i (by omega)]; exact o10 i hi
  · rw [e 2 0 (by omega)]; exact p1
  · rw [e 3 0 (by omega)]; exact p2
  · rw [e 4 0 (by omega)]; exact p3
  · rw [e 27 c (by omega)]; exact p4 c hc
  · unfold MAR
    rw [hl]
    exact ⟨a1, a2, fun i hi => ⟨(a3 i hi).1, ltr_kp (fun k j hk => e k j (by omega)) (a3 i hi).2⟩, a4, a5, a6, a7, a8, a9, a10⟩
  · have := h8 b hb
    rw [e 42 b (by omega), e 40 b (by omega), e 26 b (by omega), e 41 b (by omega)]
    exact this
theorem mar_kp (k : KP σ σ') (hF : FR σ) (h1 : AL σ' (Y 6) (ln A) f) (h2 : AL σ' (Y 7) m g) (h : MAR Y hs σ A f m g) : MAR Y hs σ' A f m g := by
  obtain ⟨a1, a2, a3, a4, a5, a6, a7, a8, a9, a10⟩ := h
  have y : ∀ r, tg σ r = 4 → r < nx σ := fun r hr => hF.lt (by omega)
  refine ⟨h1, h2, fun j hj => ⟨?_, ?_⟩, fun j hj => ?_, a5, a6, a7, fun z hz => ?_, a9, a10⟩
  · rw [(k.2.1 _ (y _ (a3 j hj).1)).1]; exact (a3 j hj).1
  · exact k.ltr (y _ (a3 j hj).1) (a3 j hj).2
  · rw [(k.2.1 _ (y _ (a4 j hj))).1]; exact a4 j hj
  · obtain ⟨z1, z2, z3⟩ := a8 z hz
    exact ⟨by rw [(k.2.1 _ (y _ z1)).1]; exact z1, z2, z3⟩
/-- a request is taken out of a row -/
theorem CRx.rmR (h : CRx N Y bd hs σ A f m g rf) {b i : Nat} (hb : b < 2) (hi : i < rn A b) (h20 : ∀ b', b' < 2 → rn A b' ≤ 20) (hr : RM σ σ' (Y (310 + b)) (rn A b) i (rf b)) : CRx N Y bd hs σ' (rmR A b i) f m g (fun b' => if b' = b then (fun j => if j < i then rf b j else rf b (j + 1)) else rf b') := by
  have hlt := h.lt
  have hF' := RM.fr h.2.1 hr
  obtain ⟨x1, x2, x3, x4, x5⟩ := h.oth (A' := Jvm.Pilot.@@N@@.rmR A b i) rfl (fun k j hk => by rw [sv_rmR, if_neg (fun z => hk z.1)])
  obtain ⟨h1, h2, h3, h4, h5, h6, h7, h8, h9, h10⟩ := h
  obtain ⟨L, n1, s1, e1, t1, hA⟩ := hr
  have k := L.kp (h7 b hb).1.kind
  have cE := L.capE h1 (isL10 hb) hlt
  refine ⟨k.lay h2 h1, hF', k.shr h2 h1 x1, k.cor h2 h1 x2, k.msc h2 h1 x3, mar_kp k h2 (L.keepL k h2 h1 h9 (isL10 hb) (Or.inl rfl) (by omega) x4.1) (L.keepL k h2 h1 h9 (isL10 hb) (Or.inr (Or.inl rfl)) (by omega) x4.2.1) x4, fun b' hb' => ?_, k.acr h2 h1 x5, L.dis h1 h9 (isL10 hb) hlt, ?_⟩
  · rw [rn_rmR]
    by_cases e : b' = b
    · subst e
      rw [if_pos rfl]
      simp only [eq_self, ite_true]
      refine ⟨hA, fun j hj => ?_⟩
      have go : ∀ j', j' < rn A b' → tg σ' (rf b' j') = 6 ∧ fi σ' 320 (rf b' j') = sv A 22 (20 * b' + j') ∧ fi σ' 321 (rf b' j') = sv A 23 (20 * b' + j') ∧ fi σ' 322 (rf b' j') = sv A 24 (20 * b' + j') := by
        intro j' hj'
        obtain ⟨q1, q2, q3, q4⟩ := (h7 b' hb').2 j' hj'
        have y := h2.lt (r := rf b' j') (by omega)
        rw [t1, k.2.2.2.1 _ _ y (by omega), k.2.2.2.1 _ _ y (by omega), k.2.2.2.1 _ _ y (by omega)]
        exact ⟨q1, q2, q3, q4⟩
      have hb20 := h20 b' hb'
      simp only [sv_rmR]
      by_cases e2 : j < i
      · have ef : (if j < i then rf b' j else rf b' (j + 1)) = rf b' j := if_pos e2
        rw [ef, if_neg (by omega), if_neg (by omega), if_neg (by omega)]
        exact go j (by omega)
      · have ef : (if j < i then rf b' j else rf b' (j + 1)) = rf b' (j + 1) := if_neg e2
        rw [ef, if_pos (by omega), if_pos (by omega), if_pos (by omega)]
        exact go (j + 1) (by omega)
    · rw [if_neg e]
      simp only [if_neg e]
      refine ⟨L.keepL k h2 h1 h9 (isL10 hb) (isL10 hb') (by omega) (h7 b' hb').1, fun j hj => ?_⟩
      obtain ⟨q1, q2, q3, q4⟩ := (h7 b' hb').2 j hj
      have y := h2.lt (r := rf b' j) (by omega)
      simp only [sv_rmR]
      have := h20 b' hb'
      rw [if_neg (by omega), if_neg (by omega), if_neg (by omega), t1, k.2.2.2.1 _ _ y (by omega), k.2.2.2.1 _ _ y (by omega), k.2.2.2.1 _ _ y (by omega)]
      exact ⟨q1, q2, q3, q4⟩
  · have ea : al σ' (fr σ' 1 (Y (310 + b))) = al σ (fr σ 1 (Y (310 + b))) := by rw [e1, (L.2.2.1 _ (hlt _ (isL10 hb))).2]
    unfold BUD at h10 ⊢
    show nx σ' ≤ bd.1 + (ln A + m + hs.length) + bd.2.2 + caps Y σ' ∧ sl σ' ≤ bd.2.1 + 11 * (ln A + m + hs.length) + 3 * bd.2.2 + 4 * caps Y σ'
    omega
/-- a request is put behind a row -/
theorem CRx.apR (h : CRx N Y bd hs σ A f m g rf) {b r : Nat} (hb : b < 2) (h20 : ∀ b', b' < 2 → rn A b' ≤ 19) (ht : tg σ r = 6) (hr : ADD σ σ' (Y (310 + b)) (rn A b) (rf b) r) : CRx N Y bd hs σ' (apR A b (fi σ 320 r) (fi σ 321 r) (fi σ 322 r)) f m g (fun b' => if b' = b then va_up (rf b) (rn A b) r else rf b') := by
  have hlt := h.lt
  have hs : ∀ k j, sv (Jvm.Pilot.@@N@@.apR A b (fi σ 320 r) (fi σ 321 r) (fi σ 322 r)) k j = if k = 24 ∧ j = 20 * b + rn A b then fi σ 322 r else if k = 23 ∧ j = 20 * b + rn A b then fi σ 321 r else if k = 22 ∧ j = 20 * b + rn A b then fi σ 320 r else sv A k j := fun _ _ => rfl
  obtain ⟨x1, x2, x3, x4, x5⟩ := h.oth (A' := Jvm.Pilot.@@N@@.apR A b (fi σ 320 r) (fi σ 321 r) (fi σ 322 r)) rfl (fun k j hk => by rw [hs, if_neg (by omega), if_neg (by omega), if_neg (by omega)])
  obtain ⟨h1, h2, h3, h4, h5, h6, h7, h8, h9, h10⟩ := h
  obtain ⟨L, hA, b1, b2, hF'⟩ := hr
  have k := L.kp (h7 b hb).1.kind
  have cE := L.capE h1 (isL10 hb) hlt
  have ry := h2.lt (r := r) (by omega)
  refine ⟨k.lay h2 h1, hF', k.shr h2 h1 x1, k.cor h2 h1 x2, k.msc h2 h1 x3, mar_kp k h2 (L.keepL k h2 h1 h9 (isL10 hb) (Or.inl rfl) (by omega) x4.1) (L.keepL k h2 h1 h9 (isL10 hb) (Or.inr (Or.inl rfl)) (by omega) x4.2.1) x4, fun b' hb' => ?_, k.acr h2 h1 x5, L.dis h1 h9 (isL10 hb) hlt, ?_⟩
  · have go : ∀ j', j' < rn A b' → tg σ' (rf b' j') = 6 ∧ fi σ' 320 (rf b' j') = sv A 22 (20 * b' + j') ∧ fi σ' 321 (rf b' j') = sv A 23 (20 * b' + j') ∧ fi σ' 322 (rf b' j') = sv A 24 (20 * b' + j') := by
      intro j' hj'
      obtain ⟨q1, q2, q3, q4⟩ := (h7 b' hb').2 j' hj'
      have y := h2.lt (r := rf b' j') (by omega)
      rw [(k.2.1 _ y).1, k.2.2.2.1 _ _ y (by omega), k.2.2.2.1 _ _ y (by omega), k.2.2.2.1 _ _ y (by omega)]
      exact ⟨q1, q2, q3, q4⟩
    have hb20 := h20 b' hb'
    rw [rn_apR]
    by_cases e : b' = b
    · subst e
      rw [if_pos rfl]
      simp only [eq_self, ite_true]
      refine ⟨hA, fun j hj => ?_⟩
      by_cases e2 : j = rn A b'
      · subst e2
        rw [va_up_self, (k.2.1 _ ry).1, k.2.2.2.1 _ _ ry (by omega), k.2.2.2.1 _ _ ry (by omega), k.2.2.2.1 _ _ ry (by omega)]
        refine ⟨ht, ?_, ?_, ?_⟩
        · rw [hs, if_neg (by omega), if_neg (by omega), if_pos ⟨rfl, rfl⟩]
        · rw [hs, if_neg (by omega), if_pos ⟨rfl, rfl⟩]
        · rw [hs, if_pos ⟨rfl, rfl⟩]
      · rw [va_up_ne _ r e2, hs, if_neg (by omega), if_neg (by omega), if_neg (by omega), hs, if_neg (by omega), if_neg (by omega), if_neg (by omega), hs, if_neg (by omega), if_neg (by omega), if_neg (by omega)]
        exact go j (by omega)
    · rw [if_neg e]
      simp only [if_neg e]
      refine ⟨L.keepL k h2 h1 h9 (isL10 hb) (isL10 hb') (by omega) (h7 b' hb').1, fun j hj => ?_⟩
      have := h20 b hb
      rw [hs, if_neg (by omega), if_neg (by omega), if_neg (by omega), hs, if_neg (by omega), if_neg (by omega), if_neg (by omega), hs, if_neg (by omega), if_neg (by omega), if_neg (by omega)]
      exact go j hj
  · unfold BUD at h10 ⊢
    show nx σ' ≤ bd.1 + (ln A + m + _) + bd.2.2 + caps Y σ' ∧ sl σ' ≤ bd.2.1 + 11 * (ln A + m + _) + 3 * bd.2.2 + 4 * caps Y σ'
    omega
/-- a new request -/
theorem CRx.nwR (h : CRx N Y bd hs σ A f m g rf) : CRx N Y (bd.1, bd.2.1, bd.2.2 + 1) hs (pnew σ 5 3) A f m g rf := by
  obtain ⟨d1, d2⟩ := dis_new h (ci := 5) (k := 3)
  obtain ⟨h1, h2, h3, h4, h5, h6, h7, h8, h9, h10⟩ := h
  have k : KP σ (pnew σ 5 3) := kp_new
  refine ⟨k.lay h2 h1, fr_new h2, k.shr h2 h1 h3, k.cor h2 h1 h4, k.msc h2 h1 h5, mar_kp k h2 (al_new h2 h6.1) (al_new h2 h6.2.1) h6, ror_kp k h2 (fun b hb => al_new h2 (h7 b hb).1) h7, k.acr h2 h1 h8, d1, ?_⟩
  unfold BUD at h10 ⊢
  rw [d2, nx_pnew, sl_pnew]
  show nx σ + 1 ≤ bd.1 + _ + (bd.2.2 + 1) + caps Y σ ∧ sl σ + 3 ≤ bd.2.1 + _ + 3 * (bd.2.2 + 1) + 4 * caps Y σ
  omega
end CRR
end
section
/-! the arbiter: striking out, making active, lapsing -/
def RI (N : Nat) (A : AS) : Prop := (∀ c, c < N → (∃ b, b < 2 ∧ sv A 15 c = nI b) ∧ bz (sv A 12 c) ∧ bz (sv A 13 c) ∧ bz (sv A 14 c)) ∧ (∀ b, b < 2 → rn A b ≤ 5 ∧ ∀ i, i < rn A b → (∃ c, c < N ∧ sv A 22 (20 * b + i) = nI c) ∧ bz (sv A 24 (20 * b + i))) ∧ (∀ b, b < 2 → sv A 40 b = -1 ∨ ((∃ c, c < N ∧ sv A 40 b = nI c) ∧ bz (sv A 41 b)))
theorem RI.keep {N : Nat} {A A' : AS} (h : RI N A) (hr : rn A' = rn A) (e : ∀ k j, (12 ≤ k ∧ k < 26) ∨ k = 40 ∨ k = 41 → sv A' k j = sv A k j) : RI N A' := by
  obtain ⟨h1, h2, h3⟩ := h
  refine ⟨fun c hc => ?_, fun b hb => ?_, fun b hb => ?_⟩
  · rw [e 15 c (by omega), e 12 c (by omega), e 13 c (by omega), e 14 c (by omega)]; exact h1 c hc
  · rw [hr]
    refine ⟨(h2 b hb).1, fun i hi => ?_⟩
    rw [e 22 _ (by omega), e 24 _ (by omega)]
    exact (h2 b hb).2 i hi
  · rw [e 40 b (by omega), e 41 b (by omega)]; exact h3 b hb
theorem rn_dpL {A : AS} {kd fm to bl : Int32} : rn (dpL A kd fm to bl) = rn A := by
  by_cases h3 : kd = 3
  · subst h3; rw [dpL_3]
  · by_cases h : ∃ i, fdL A kd fm to bl i
    · obtain ⟨i, hi⟩ := h
      rw [dpL_at h3 hi]
      rfl
    · unfold dpL
      rw [if_neg h3, dif_neg h]
theorem rn_sdL {A : AS} {kd fm to bl : Int32} : rn (sdL A kd fm to bl) = rn A := rn_dpL
/-- kinds that giving and telling leave alone -/
def ksf (k : Nat) : Prop := (12 ≤ k ∧ k < 29) ∨ 40 ≤ k ∨ k < 5
theorem gv_keep {A : AS} {x b : Nat} {to many ow wd : Int32} : rn (gvA A x b to many ow wd) = rn A ∧ ∀ k j, ksf k → sv (gvA A x b to many ow wd) k j = sv A k j := by
  unfold gvA
  split
  · exact ⟨rfl, fun _ _ _ => rfl⟩
  · refine ⟨rn_sdL, fun k j hk => ?_⟩
    unfold ksf at hk
    rw [sv_set1, if_neg (by omega), sv_set1, if_neg (by omega), sv_set1, if_neg (by omega), sv_set1, if_neg (by omega), sv_set1, if_neg (by omega), sv_set1, if_neg (by omega), sv_set1, if_neg (by omega), sv_sdL (by omega)]
theorem gw_keep {A : AS} {x b : Nat} : rn (gwA A x b) = rn A ∧ ∀ k j, ksf k → sv (gwA A x b) k j = sv A k j := by
  unfold gwA
  split
  · exact ⟨rfl, fun _ _ _ => rfl⟩
  · split
    · exact gv_keep
    · split
      · exact gv_keep
      · exact ⟨rfl, fun _ _ _ => rfl⟩
theorem rn_tlA {N : Nat} {A : AS} {b : Nat} {co w sr : Int32} : ∀ c, rn (tlA N A b co w sr c) = rn A
  | 0 => rfl
  | c + 1 => by
    unfold tlA
    show rn (sdL _ _ _ _ _) = rn A
    rw [rn_sdL]
    exact rn_tlA c
theorem ta_keep {N : Nat} {A : AS} {b : Nat} : rn (taA N A b) = rn A ∧ ∀ k j, ksf k → sv (taA N A b) k j = sv A k j := by
  unfold taA lnA
  refine ⟨rn_tlA N, fun k j hk => ?_⟩
  unfold ksf at hk
  rw [sv_set1, if_neg (by omega), sv_set1, if_neg (by omega), sv_set1, if_neg (by omega), sv_tlA (by omega)]
noncomputable def afA (N : Nat) (A : AS) (b : Nat) : AS := if rn A b = 0 then A else gwA (taA N (set1 (set1 (set1 (set1 (rmR A b 0) 40 b (sv A 22 (20 * b))) 26 b (sv A 23 (20 * b))) 41 b (sv A 24 (20 * b))) 42 b (sv A 42 b + 1)) b) N b
noncomputable def lpS (N : Nat) (A : AS) (b c : Nat) (n : Int32) : AS := if sv A 40 b ≠ -1 ∧ sv A 40 b = nI c ∧ sv A 26 b ≤ n then afA N (taA N (set1 A 40 b (-1)) b) b else A
noncomputable def lpR (A : AS) (c : Nat) (n : Int32) : AS := skA 1 (nI c) n (rn (skA 0 (nI c) n (rn A 0) (set1 A 27 c n)) 1) (skA 0 (nI c) n (rn A 0) (set1 A 27 c n))
noncomputable def lpA (N : Nat) (A : AS) (c : Nat) (n : Int32) : AS := if sv A 27 c < n then lpS N (lpS N (lpR A c n) 0 c n) 1 c n else A
section Arb
variable {N : Nat} {Y : Nat → Nat} {bd : Nat × Nat × Nat} {hs : List Nat} {σ : PS} {A : AS} {f : Nat → Nat} {m : Nat} {g : Nat → Nat} {rf : Nat → Nat → Nat} {P : Option PV → PS → Prop} {eb eo : Nat → Nat}
def IV (N : Nat) (A : AS) (eb eo : Nat → Nat) : Prop := LI N A eb eo ∧ RI N A
theorem RI.rm (h : RI N A) {b i : Nat} (hb : b < 2) (hi : i < rn A b) : RI N (rmR A b i) := by
  obtain ⟨h1, h2, h3⟩ := h
  refine ⟨fun c hc => ?_, fun b' hb' => ?_, fun b' hb' => ?_⟩
  · rw [sv_rmR, if_neg (by omega), sv_rmR, if_neg (by omega), sv_rmR, if_neg (by omega), sv_rmR, if_neg (by omega)]; exact h1 c hc
  · rw [rn_rmR]
    have q := (h2 b' hb').1
    by_cases e : b' = b
    · subst e
      rw [if_pos rfl]
      refine ⟨by omega, fun j hj => ?_⟩
      rw [sv_rmR, sv_rmR]
      by_cases e2 : i ≤ j
      · rw [if_pos (by omega), if_pos (by omega)]; exact (h2 b' hb').2 (j + 1) (by omega)
      · rw [if_neg (by omega), if_neg (by omega)]; exact (h2 b' hb').2 j (by omega)
    · rw [if_neg e]
      refine ⟨q, fun j hj => ?_⟩
      rw [sv_rmR, if_neg (by omega), sv_rmR, if_neg (by omega)]
      exact (h2 b' hb').2 j hj
  · rw [sv_rmR, if_neg (by omega), sv_rmR, if_neg (by omega)]; exact h3 b' hb'
theorem IV.rm (h : IV N A eb eo) {b i : Nat} (hb : b < 2) (hi : i < rn A b) : IV N (rmR A b i) eb eo :=
  ⟨h.1.cong rfl (fun k j hr => by unfold rel at hr; rw [sv_rmR, if_neg (by omega)]), h.2.rm hb hi⟩
theorem IV.sk {b : Nat} {c n : Int32} (hb : b < 2) : ∀ (i : Nat) (A : AS), i ≤ rn A b → IV N A eb eo → IV N (skA b c n i A) eb eo
  | 0, A, _, h => h
  | i + 1, A, hi, h => by
    unfold skA
    split
    · exact IV.sk hb i _ (by rw [rn_rmR, if_pos rfl]; omega) (h.rm hb (by omega))
    · exact IV.sk hb i _ (by omega) h
theorem IV.gw (h : IV N A eb eo) {x b : Nat} (hx : x ≤ N) (hb : b < 2) : IV N (gwA A x b) eb eo := ⟨h.1.gw hx hb, h.2.keep gw_keep.1 (fun k j hk => gw_keep.2 k j (by unfold ksf; omega))⟩
theorem IV.ta (h : IV N A eb eo) {b : Nat} (hb : b < 2) : IV N (taA N A b) eb eo := by
  refine ⟨h.1.ta hb ?_, h.2.keep ta_keep.1 (fun k j hk => ta_keep.2 k j (by unfold ksf; omega))⟩
  rcases h.2.2.2 b hb with q | q
  · exact Or.inl q
  · exact Or.inr q.1
/-- the first of the row, made active -/
noncomputable def af1 (A : AS) (b : Nat) : AS := set1 (set1 (set1 (set1 (rmR A b 0) 40 b (sv A 22 (20 * b))) 26 b (sv A 23 (20 * b))) 41 b (sv A 24 (20 * b))) 42 b (sv A 42 b + 1)
theorem IV.af1 (h : IV N A eb eo) {b : Nat} (hb : b < 2) (hr : rn A b ≠ 0) : IV N (af1 A b) eb eo := by
  have h0 := h.rm hb (i := 0) (by omega)
  refine ⟨(((h0.1.set (by unfold rel; omega)).set (by unfold rel; omega)).set (by unfold rel; omega)).set (by unfold rel; omega), h0.2.1, h0.2.2.1, fun b' hb' => ?_⟩
  have s40 : sv (Jvm.Pilot.@@N@@.af1 A b) 40 b' = if b' = b then sv A 22 (20 * b) else sv A 40 b' := by
    unfold Jvm.Pilot.@@N@@.af1
    rw [sv_set1, if_neg (by omega), sv_set1, if_neg (by omega), sv_set1, if_neg (by omega), sv_set1]
    by_cases e : b' = b
    · rw [if_pos ⟨rfl, e⟩, if_pos e]
    · rw [if_neg (fun z => e z.2), if_neg e, sv_rmR, if_neg (by omega)]
  have s41 : sv (Jvm.Pilot.@@N@@.af1 A b) 41 b' = if b' = b then sv A 24 (20 * b) else sv A 41 b' := by
    unfold Jvm.Pilot.@@N@@.af1
    rw [sv_set1, if_neg (by omega), sv_set1]
    by_cases e : b' = b
    · rw [if_pos ⟨rfl, e⟩, if_pos e]
    · rw [if_neg (fun z => e z.2), if_neg e, sv_set1, if_neg (by omega), sv_set1, if_neg (by omega), sv_rmR, if_neg (by omega)]
  rw [s40, s41]
  by_cases e : b' = b
  · rw [if_pos e, if_pos e]
    obtain ⟨q1, q2⟩ := (h.2.2.1 b hb).2 0 (by omega)
    exact Or.inr ⟨q1, q2⟩
  · rw [if_neg e, if_neg e]
    exact h.2.2.2 b' hb'
theorem IV.af (h : IV N A eb eo) {b : Nat} (hb : b < 2) : IV N (afA N A b) eb eo := by
  unfold afA
  split
  · exact h
  · rename_i hr
    exact ((h.af1 hb hr).ta hb).gw (Nat.le_refl _) hb
theorem IV.off (h : IV N A eb eo) {b : Nat} : IV N (set1 A 40 b (-1)) eb eo := by
  refine ⟨h.1.set (by unfold rel; omega), h.2.1, h.2.2.1, fun b' hb' => ?_⟩
  have s41 : sv (set1 A 40 b (-1)) 41 b' = sv A 41 b' := by rw [sv_set1, if_neg (by omega)]
  rw [s41, sv_set1]
  by_cases e : b' = b
  · rw [if_pos ⟨rfl, e⟩]; exact Or.inl rfl
  · rw [if_neg (fun z => e z.2)]; exact h.2.2.2 b' hb'
theorem IV.lpS (h : IV N A eb eo) {b c : Nat} {n : Int32} (hb : b < 2) : IV N (lpS N A b c n) eb eo := by
  unfold Jvm.Pilot.@@N@@.lpS
  split
  · exact (h.off.ta hb).af hb
  · exact h
theorem IV.lpR (h : IV N A eb eo) {c : Nat} {n : Int32} : IV N (lpR A c n) eb eo := by
  have h1 : IV N (set1 A 27 c n) eb eo := ⟨h.1.set (by unfold rel; omega), h.2.keep rfl (fun k j hk => by rw [sv_set1, if_neg (by omega)])⟩
  exact IV.sk (by omega) _ _ (Nat.le_refl _) (IV.sk (by omega) _ _ (Nat.le_refl _) h1)
theorem IV.lp (h : IV N A eb eo) {c : Nat} {n : Int32} : IV N (lpA N A c n) eb eo := by
  unfold lpA
  split
  · exact (h.lpR.lpS (by omega)).lpS (by omega)
  · exact h
theorem cnt_s (i : Nat) : nI (i + 1) - 1 = nI i := nI_pred i
theorem cnt_d {i : Nat} : nI i + Int32.ofInt (-1) = nI i - 1 := by
  rw [Int32.sub_eq_add_neg]; rfl
set_option maxHeartbeats 4000000 in
theorem sp_strike {b : Nat} {c n : Int32} (hb : b < 2) (h20 : ∀ b', b' < 2 → rn A b' ≤ 20) (h : CRx N Y bd hs σ A f m g rf) (hP : ∀ σ' rf', CRx N Y bd hs σ' (skA b c n (rn A b) A) f m g rf' → HK (Y 4) σ σ' hs → P none σ') : Ctr m_Desk_strike 4 [.inr (Y (300 + b)), .inl c, .inl n] σ P := by
  have loop : ∀ (i : Nat) (σ1 : PS) (A1 : AS) (rf1 : Nat → Nat → Nat), i ≤ rn A1 b → (∀ b', b' < 2 → rn A1 b' ≤ 20) → CRx N Y bd hs σ1 A1 f m g rf1 → HK (Y 4) σ σ1 hs → skA b c n i A1 = skA b c n (rn A b) A → Wp m_Desk_strike 4 10 [(3, .inl (nI i - 1)), (0, .inr (Y (300 + b))), (1, .inl c), (2, .inl n)] [] σ1 (fun v σ' => RV m_Desk_strike.2.2.2 v ∧ P v σ') := by
    intro i
    induction i with
    | zero =>
      intro σ1 A1 rf1 hi h20' hc hk e
      refine p_iload_n e_Desk_strike_10 rfl ?_
      refine p_if_lt (tgt := 48) e_Desk_strike_11 (by decide) (fun _ => ?_) (fun hx => absurd ((by decide)) hx)
      refine p_ret e_Desk_strike_48 (rv_v ?_)
      refine hP σ1 rf1 ?_ hk
      rw [← e]
      exact hc
    | succ i ih =>
      intro σ1 A1 rf1 hi h20' hc hk e
      have td : tg σ1 (Y (300 + b)) = 3 := hc.1.dk hb
      have ur : fr σ1 128 (Y (300 + b)) = Y (310 + b) := (hc.1.2.2.2.2.1.2.2 b hb).2.2
      obtain ⟨hA, hE⟩ := hc.2.2.2.2.2.2.1 b hb
      have tl := hA.1
      have hil : i < rn A1 b := by omega
      obtain ⟨q1, q2, q3, q4⟩ := hE i hil
      rw [cnt_s]
      refine p_iload_n e_Desk_strike_10 rfl ?_
      refine p_if_lt (tgt := 48) e_Desk_strike_11 (by decide) (fun hx => absurd hx (nI_pos (by have := h20' b hb; omega))) (fun _ => ?_)
      refine p_aload_n e_Desk_strike_14 rfl ?_
      refine p_gRv 128 e_Desk_strike_15 f_Desk_10 rfl rfl (by assumption) ur ?_
      refine p_iload_n e_Desk_strike_18 rfl ?_
      refine p_inv (ci := 0) (d' := 3) [_] _ e_Desk_strike_19 c_Desk_20 k_AL_get i_AL_get s_AL_get rfl rfl (by assumption) rfl rfl (Nat.le_of_ble_eq_true rfl) (Nat.le_of_ble_eq_true rfl) ?_
      refine sp_AL_get hA hil ?_
      refine p_cast (ci := 5) e_Desk_strike_22 l_Desk_24 ⟨_, rfl, Or.inl rfl⟩ (by assumption) ⟨5, _, rfl, rfl⟩ ?_
      refine p_iload_n e_Desk_strike_25 rfl ?_
      refine p_iload_n e_Desk_strike_26 rfl ?_
      have nxt : ∀ (σ2 : PS) (A2 : AS) (rf2 : Nat → Nat → Nat), i ≤ rn A2 b → (∀ b', b' < 2 → rn A2 b' ≤ 20) → CRx N Y bd hs σ2 A2 f m g rf2 → HK (Y 4) σ σ2 hs → skA b c n i A2 = skA b c n (rn A b) A → Wp m_Desk_strike 4 42 [(3, .inl (nI i)), (0, .inr (Y (300 + b))), (1, .inl c), (2, .inl n)] [] σ2 (fun v σ' => RV m_Desk_strike.2.2.2 v ∧ P v σ') := by
        intro σ2 A2 rf2 a1 a2 a3 a4 a5
        refine p_iinc e_Desk_strike_42 rfl rfl (by decide) ?_
        refine p_goto (tgt := 10) e_Desk_strike_45 (by decide) ?_
        exact Wp.lv2 (ih σ2 A2 rf2 a1 a2 a3 a4 a5) ⟨congrArg (fun z => some (Sum.inl z)) cnt_d, rfl, rfl, rfl, trivial⟩
      refine p_inv (ci := 5) (d' := 1) [_, _] _ e_Desk_strike_27 c_Desk_26 k_Req_isOf i_Req_isOf s_Req_isOf rfl rfl (q1) rfl rfl (Nat.le_of_ble_eq_true rfl) (Nat.le_of_ble_eq_true rfl) ?_
      refine sp_Req_isOf q1 (fun y1 y2 => ?_) (fun y => ?_)
      · refine p_if_eq (tgt := 42) e_Desk_strike_30 (by decide) (fun hx => absurd hx ((by decide))) (fun _ => ?_)
        refine p_aload_n e_Desk_strike_33 rfl ?_
        refine p_gRv 128 e_Desk_strike_34 f_Desk_10 rfl rfl (by assumption) ur ?_
        refine p_iload_n e_Desk_strike_37 rfl ?_
        refine p_inv (ci := 0) (d' := 3) [_] _ e_Desk_strike_38 c_Desk_30 k_AL_remove i_AL_remove s_AL_remove rfl rfl (by assumption) rfl rfl (Nat.le_of_ble_eq_true rfl) (Nat.le_of_ble_eq_true rfl) ?_
        refine sp_AL_remove hA hil (fun σ2 hR => ?_)
        refine p_pop e_Desk_strike_41 ?_
        have es : skA b c n (i + 1) A1 = skA b c n i (rmR A1 b i) := by
          rw [skA, if_pos ⟨q2.symm.trans y1, by rw [← q3]; exact y2⟩]
        refine Wp.lv2 (nxt σ2 (rmR A1 b i) _ (by rw [rn_rmR, if_pos rfl]; omega) (fun b' hb' => ?_) (hc.rmR hb hil h20' hR) (hk.tr (HK.lf hR.1)) (es.symm.trans e)) ⟨rfl, rfl, rfl, rfl, trivial⟩
        rw [rn_rmR]
        have := h20' b hb
        have := h20' b' hb'
        split <;> omega
      · refine p_if_eq (tgt := 42) e_Desk_strike_30 (by decide) (fun _ => ?_) (fun hx => absurd (rfl) hx)
        have es : skA b c n (i + 1) A1 = skA b c n i A1 := by
          rw [skA, if_neg (fun z => y ⟨q2.trans z.1, by rw [q3]; exact z.2⟩)]
        exact Wp.lv2 (nxt σ1 A1 rf1 (by omega) h20' hc hk (es.symm.trans e)) ⟨rfl, rfl, rfl, rfl, trivial⟩
  have td : tg σ (Y (300 + b)) = 3 := h.1.dk hb
  have ur : fr σ 128 (Y (300 + b)) = Y (310 + b) := (h.1.2.2.2.2.1.2.2 b hb).2.2
  obtain ⟨hA, hE⟩ := h.2.2.2.2.2.2.1 b hb
  have tl := hA.1
  refine Ctr.of y_Desk_strike (Nat.le_of_ble_eq_true rfl) ?_
  refine p_aload_n e_Desk_strike_0 rfl ?_
  refine p_gRv 128 e_Desk_strike_1 f_Desk_10 rfl rfl (by assumption) ur ?_
  refine p_inv (ci := 0) (d' := 1) [] _ e_Desk_strike_4 c_Desk_16 k_AL_size i_AL_size s_AL_size rfl rfl (by assumption) rfl rfl (Nat.le_of_ble_eq_true rfl) (Nat.le_of_ble_eq_true rfl) ?_
  refine sp_AL_size tl ?_
  rw [hA.2.1]
  refine p_iconst (x := 1) e_Desk_strike_7 (by decide) ?_
  refine p_isub e_Desk_strike_8 ?_
  refine p_istore_n e_Desk_strike_9 (by decide) ?_
  exact Wp.lv2 (loop (rn A b) σ A rf (Nat.le_refl _) h20 h HK.rf rfl) ⟨rfl, rfl, rfl, rfl, trivial⟩
end Arb
end
section
/-! making active, lapsing, PLEASE, TOKENS, KNOW -/
section Arb2
variable {N : Nat} {Y : Nat → Nat} {bd : Nat × Nat × Nat} {hs : List Nat} {σ : PS} {A : AS} {f : Nat → Nat} {m : Nat} {g : Nat → Nat} {rf : Nat → Nat → Nat} {P : Option PV → PS → Prop} {eb eo : Nat → Nat}
theorem LI.own (h : LI N A eb eo) {x b : Nat} (hx : x ≤ N) (hb : b < 2) : sv A 6 (2 * x + b) = 0 ∨ sv A 6 (2 * x + b) = 1 := (h.cwf hx hb).2.1.1
theorem LI.b67 (h : LI N A eb eo) : ln A ≤ 67 := Nat.le_succ_of_le h.bound
set_option maxHeartbeats 4000000 in
theorem sp_activateFirst {b : Nat} (hb : b < 2) (hI : IV N A eb eo) (hh : hs.length ≤ 1) (h : CRx N Y bd hs σ A f m g rf) (hP : ∀ σ' f' m' g' rf', CRx N Y bd hs σ' (afA N A b) f' m' g' rf' → HK (Y 4) σ σ' hs → P none σ') : Ctr m_TM_activateFirst 11 [.inr (Y 0), .inl (nI b)] σ P := by
  obtain ⟨a0, ⟨b1, b2, b3, b4, b5, b6, b7, b8, b9⟩, -, -, ⟨d1, d2, d3⟩, -⟩ := h.1
  have td : tg σ (Y (300 + b)) = 3 := h.1.dk hb
  have ur : fr σ 128 (Y (300 + b)) = Y (310 + b) := (d3 b hb).2.2
  obtain ⟨hA, hE⟩ := h.2.2.2.2.2.2.1 b hb
  have tl := hA.1
  have r5 := (hI.2.2.1 b hb).1
  refine Ctr.of y_TM_activateFirst (Nat.le_of_ble_eq_true rfl) ?_
  refine p_aload_n e_TM_activateFirst_0 rfl ?_
  refine p_gRv 455 e_TM_activateFirst_1 f_TM_49 rfl rfl (by assumption) b7 ?_
  refine p_iload_n e_TM_activateFirst_4 rfl ?_
  refine p_aaldv e_TM_activateFirst_5 (ti := 5) (n := b) (v := Y (300 + b)) (by decide) d1 rfl (by omega) (by omega) (d3 b hb).1 ?_
  refine p_astore_n e_TM_activateFirst_6 (by decide) ?_
  refine p_aload_n e_TM_activateFirst_7 rfl ?_
  refine p_gRv 128 e_TM_activateFirst_8 f_TM_192 rfl rfl (by assumption) ur ?_
  refine p_inv (ci := 0) (d' := 1) [] _ e_TM_activateFirst_11 c_TM_278 k_AL_isEmpty i_AL_isEmpty s_AL_isEmpty rfl rfl (by assumption) rfl rfl (Nat.le_of_ble_eq_true rfl) (Nat.le_of_ble_eq_true rfl) ?_
  refine sp_AL_isEmpty tl ?_
  rw [hA.2.1]
  unfold afA at hP
  by_cases hr : rn A b = 0
  · rw [hr, if_pos nI_0]
    refine p_if_eq (tgt := 18) e_TM_activateFirst_14 (by decide) (fun hx => absurd hx ((by decide))) (fun _ => ?_)
    refine p_ret e_TM_activateFirst_17 (rv_v ?_)
    rw [if_pos hr] at hP
    exact hP _ _ _ _ _ h HK.rf
  · rw [if_neg hr] at hP
    rw [if_neg (nI_ne0 (by omega) (by omega))]
    refine p_if_eq (tgt := 18) e_TM_activateFirst_14 (by decide) (fun _ => ?_) (fun hx => absurd (rfl) hx)
    refine p_aload_n e_TM_activateFirst_18 rfl ?_
    refine p_aload_n e_TM_activateFirst_19 rfl ?_
    refine p_gRv 128 e_TM_activateFirst_20 f_TM_192 rfl rfl (by assumption) ur ?_
    refine p_iconst (x := nI 0) e_TM_activateFirst_23 (by decide) ?_
    refine p_inv (ci := 0) (d' := 3) [_] _ e_TM_activateFirst_24 c_TM_282 k_AL_remove i_AL_remove s_AL_remove rfl rfl (by assumption) rfl rfl (Nat.le_of_ble_eq_true rfl) (Nat.le_of_ble_eq_true rfl) ?_
    refine sp_AL_remove hA (i := 0) (by omega) (fun σ1 hR => ?_)
    obtain ⟨q1, q2, q3, q4⟩ := hE 0 (by omega)
    obtain ⟨⟨cc, hcc, ecc⟩, hw0⟩ := (hI.2.2.1 b hb).2 0 (by omega)
    have t1 : tg σ1 (rf b 0) = 6 := by rw [hR.2.2.2.2.1]; exact q1
    have v1 : fi σ1 320 (rf b 0) = sv A 22 (20 * b) := (hR.1.2.2.2.2.1 320 _ (Or.inr (by omega))).trans q2
    have v2 : fi σ1 321 (rf b 0) = sv A 23 (20 * b) := (hR.1.2.2.2.2.1 321 _ (Or.inr (by omega))).trans q3
    have v3 : fi σ1 322 (rf b 0) = sv A 24 (20 * b) := (hR.1.2.2.2.2.1 322 _ (Or.inr (by omega))).trans q4
    have hc1 := h.rmR hb (i := 0) (by omega) (fun b' hb' => by have := (hI.2.2.1 b' hb').1; omega) hR
    have td1 : tg σ1 (Y (300 + b)) = 3 := hc1.1.dk hb
    have hne : fi σ1 320 (rf b 0) ≠ -1 := by
      rw [v1]
      have : sv A 22 (20 * b) = nI cc := ecc
      rw [this]
      intro z
      have := congrArg Int32.toInt z
      rw [nI_toInt (by omega)] at this
      have h2 : (-1 : Int32).toInt = -1 := by decide
      omega
    have hc2 := cw_act hc1 hb t1 hne
    rw [v1, v2, v3] at hc2
    have w42 : fi (pfr σ1 129 (Y (300 + b)) (rf b 0)) 130 (Y (300 + b)) = sv A 42 b := by
      have := (hc2.2.2.2.2.2.2.2.1 b hb).1
      rw [this, sv_set1, if_neg (by omega), sv_set1, if_neg (by omega), sv_set1, if_neg (by omega), sv_rmR, if_neg (by omega)]
    refine p_cast (ci := 5) e_TM_activateFirst_27 l_TM_244 ⟨_, rfl, Or.inl rfl⟩ (by assumption) ⟨5, _, rfl, rfl⟩ ?_
    refine p_pR 129 e_TM_activateFirst_30 f_TM_253 rfl rfl (fun q h => by cases h; exact Or.inl rfl) (by assumption) ?_
    refine p_aload_n e_TM_activateFirst_33 rfl ?_
    refine p_dup e_TM_activateFirst_34 ?_
    refine p_gIv 130 e_TM_activateFirst_35 f_TM_286 rfl rfl (by assumption) w42 ?_
    refine p_iconst (x := 1) e_TM_activateFirst_38 (by decide) ?_
    refine p_iadd e_TM_activateFirst_39 ?_
    refine p_pI 130 e_TM_activateFirst_40 f_TM_286 rfl rfl (fun q h => by cases h; exact Or.inl rfl) rfl (by assumption) ?_
    refine p_aload_n e_TM_activateFirst_43 rfl ?_
    refine p_iload_n e_TM_activateFirst_44 rfl ?_
    have hc3 := cw_130 (v := sv A 42 b + 1) hc2 hb
    have hI3 := hI.af1 hb hr
    refine p_inv (ci := 7) (d' := 9) [_] _ e_TM_activateFirst_45 c_TM_275 k_TM_tellActive i_TM_tellActive s_TM_tellActive rfl rfl (hc3.1.2.1.1) rfl rfl (Nat.le_of_ble_eq_true rfl) (Nat.le_of_ble_eq_true rfl) ?_
    refine sp_tellActive (A := af1 A b) hb (fun c hc => (hI3.1.tl hb (by rcases hI3.2.2.2 b hb with q | q; exact Or.inl q; exact Or.inr q.1) bz_acw c hc).b67) hh hc3 (fun σ4 f4 m4 g4 hc4 hk4 => ?_)
    have hI4 := hI3.ta hb
    have tx4 : tg σ4 (Y 0) = 8 := hc4.1.2.1.1
    have u3 : fi σ4 449 (Y 0) = nI N := hc4.1.2.1.2.2.1
    refine p_aload_n e_TM_activateFirst_48 rfl ?_
    refine p_aload_n e_TM_activateFirst_49 rfl ?_
    refine p_gIv 449 e_TM_activateFirst_50 f_TM_23 rfl rfl (by assumption) u3 ?_
    refine p_iload_n e_TM_activateFirst_53 rfl ?_
    refine p_inv (ci := 7) (d' := 10) [_, _] _ e_TM_activateFirst_54 c_TM_241 k_TM_giveWay i_TM_giveWay s_TM_giveWay rfl rfl (by assumption) rfl rfl (Nat.le_of_ble_eq_true rfl) (Nat.le_of_ble_eq_true rfl) ?_
    refine sp_giveWay (Nat.le_refl _) hb (hI4.1.own (Nat.le_refl _) hb) hI4.1.b67 hh hc4 (fun σ5 f5 m5 g5 hc5 hk5 => ?_)
    refine p_ret e_TM_activateFirst_57 (rv_v ?_)
    have k3 : HK (Y 4) σ (pfi (pfr σ1 129 (Y (300 + b)) (rf b 0)) 130 (Y (300 + b)) (sv A 42 b + 1)) hs := ((HK.lf hR.1).tr HK.pfr).tr (HK.put (Or.inl (by omega)))
    exact hP _ _ _ _ _ hc5 ((k3.tr hk4).tr hk5)
set_option maxHeartbeats 4000000 in
theorem sp_lapse {c : Nat} {n : Int32} (hc : c < N) (hI : IV N A eb eo) (hh : hs.length ≤ 1) (h : CRx N Y bd hs σ A f m g rf) (hP : ∀ σ' f' m' g' rf', CRx N Y bd hs σ' (lpA N A c n) f' m' g' rf' → HK (Y 4) σ σ' hs → P none σ') : Ctr m_TM_lapse 12 [.inr (Y 0), .inl (nI c), .inl n] σ P := by
  obtain ⟨a0, ⟨b1, b2, b3, b4, b5, b6, b7, b8, b9⟩, -, -, ⟨d1, d2, d3⟩, ⟨e1, e2⟩, -⟩ := h.1
  have w27 := h.2.2.2.2.1.2.2.2 c hc
  have r20 : ∀ {A' : AS}, IV N A' eb eo → ∀ b', b' < 2 → rn A' b' ≤ 20 := fun hi b' hb' => by have := (hi.2.2.1 b' hb').1; omega
  -- the second loop
  have step : ∀ (b : Nat), b < 2 → ∀ (σ1 : PS) (A1 : AS) (m1 : Nat) (f1 g1 : Nat → Nat) (rf1 : Nat → Nat → Nat), IV N A1 eb eo → CRx N Y bd hs σ1 A1 f1 m1 g1 rf1 → HK (Y 4) σ σ1 hs →
      (∀ (σ2 : PS) (m2 : Nat) (f2 g2 : Nat → Nat) (rf2 : Nat → Nat → Nat), CRx N Y bd hs σ2 (lpS N A1 b c n) f2 m2 g2 rf2 → HK (Y 4) σ σ2 hs → Wp m_TM_lapse 12 44 [(3, .inl (nI (b + 1))), (0, .inr (Y 0)), (1, .inl (nI c)), (2, .inl n)] [] σ2 (fun v σ' => RV m_TM_lapse.2.2.2 v ∧ P v σ')) →
      Wp m_TM_lapse 12 44 [(3, .inl (nI b)), (0, .inr (Y 0)), (1, .inl (nI c)), (2, .inl n)] [] σ1 (fun v σ' => RV m_TM_lapse.2.2.2 v ∧ P v σ') := by
    intro b hb σ1 A1 m1 f1 g1 rf1 hI1 hc1 hk1 next
    obtain ⟨-, ⟨x1, -, -, -, -, -, x7, -, -⟩, -, -, ⟨y1, y2, y3⟩, -⟩ := hc1.1
    have td : tg σ1 (Y (300 + b)) = 3 := hc1.1.dk hb
    obtain ⟨q1, q2⟩ := hc1.2.2.2.2.2.2.2.1 b hb
    have fin : ∀ (σ2 : PS) (m2 : Nat) (f2 g2 : Nat → Nat) (rf2 : Nat → Nat → Nat), CRx N Y bd hs σ2 (lpS N A1 b c n) f2 m2 g2 rf2 → HK (Y 4) σ σ2 hs → Wp m_TM_lapse 12 94 [(3, .inl (nI b)), (0, .inr (Y 0)), (1, .inl (nI c)), (2, .inl n)] [] σ2 (fun v σ' => RV m_TM_lapse.2.2.2 v ∧ P v σ') := by
      intro σ2 m2 f2 g2 rf2 z1 z2
      refine p_iinc e_TM_lapse_94 rfl rfl (by decide) ?_
      refine p_goto (tgt := 44) e_TM_lapse_97 (by decide) ?_
      exact Wp.lv2 (next σ2 m2 f2 g2 rf2 z1 z2) ⟨congrArg (fun z => some (Sum.inl z)) (nI_1 b), rfl, rfl, rfl, trivial⟩
    refine p_iload_n e_TM_lapse_44 rfl ?_
    refine p_iconst (x := 2) e_TM_lapse_45 (by decide) ?_
    refine p_icmp_ge (tgt := 100) e_TM_lapse_46 (by decide) (fun hx => absurd hx (nI_ge (a := b) (b := 2) hb (by omega))) (fun _ => ?_)
    refine p_aload_n e_TM_lapse_49 rfl ?_
    refine p_gRv 455 e_TM_lapse_50 f_TM_49 rfl rfl (by assumption) x7 ?_
    refine p_iload_n e_TM_lapse_53 rfl ?_
    refine p_aaldv e_TM_lapse_54 (ti := 5) (n := b) (v := Y (300 + b)) (by decide) y1 rfl (by omega) (by omega) (y3 b hb).1 ?_
    refine p_astore e_TM_lapse_55 (by decide) ?_
    refine p_aload e_TM_lapse_57 rfl ?_
    refine p_gR 129 e_TM_lapse_59 f_TM_253 rfl rfl (by assumption) ?_
    rcases q2 with ⟨r1, r2⟩ | ⟨r1, r2, r3, r4, r5⟩
    · refine p_ifnull (tgt := 94) e_TM_lapse_62 (by decide) (fun _ => ?_) (fun hx => absurd (r1) hx)
      refine Wp.lv2 (fin σ1 m1 f1 g1 rf1 ?_ hk1) ⟨rfl, rfl, rfl, rfl, trivial⟩
      have : lpS N A1 b c n = A1 := if_neg (fun z => z.1 r2)
      rw [this]
      exact hc1
    · have hne : fr σ1 129 (Y (300 + b)) ≠ 0 := by
        intro q
        rw [q, hc1.2.1.1.2] at r1
        omega
      refine p_ifnull (tgt := 94) e_TM_lapse_62 (by decide) (fun hx => absurd hx (hne)) (fun _ => ?_)
      refine p_aload e_TM_lapse_65 rfl ?_
      refine p_gR 129 e_TM_lapse_67 f_TM_253 rfl rfl (by assumption) ?_
      refine p_iload_n e_TM_lapse_70 rfl ?_
      refine p_iload_n e_TM_lapse_71 rfl ?_
      refine p_inv (ci := 5) (d' := 1) [_, _] _ e_TM_lapse_72 c_TM_271 k_Req_isOf i_Req_isOf s_Req_isOf rfl rfl (r1) rfl rfl (Nat.le_of_ble_eq_true rfl) (Nat.le_of_ble_eq_true rfl) ?_
      refine sp_Req_isOf r1 (fun z1 z2 => ?_) (fun z => ?_)
      · refine p_if_eq (tgt := 94) e_TM_lapse_75 (by decide) (fun hx => absurd hx ((by decide))) (fun _ => ?_)
        refine p_aload e_TM_lapse_78 rfl ?_
        refine p_null e_TM_lapse_80 ?_
        refine p_pR 129 e_TM_lapse_81 f_TM_253 rfl rfl (fun q h => by cases h; exact Or.inl rfl) (by assumption) ?_
        refine p_aload_n e_TM_lapse_84 rfl ?_
        refine p_iload_n e_TM_lapse_85 rfl ?_
        have hc2 := cw_act0 hc1 hb
        have hI2 := hI1.off (b := b)
        refine p_inv (ci := 7) (d' := 9) [_] _ e_TM_lapse_86 c_TM_275 k_TM_tellActive i_TM_tellActive s_TM_tellActive rfl rfl (hc2.1.2.1.1) rfl rfl (Nat.le_of_ble_eq_true rfl) (Nat.le_of_ble_eq_true rfl) ?_
        refine sp_tellActive (A := set1 A1 40 b (-1)) hb (fun c' hc' => (hI2.1.tl hb (Or.inl (by rw [sv_set1, if_pos ⟨rfl, rfl⟩])) bz_acw c' hc').b67) hh hc2 (fun σ3 f3 m3 g3 hc3 hk3 => ?_)
        refine p_aload_n e_TM_lapse_89 rfl ?_
        refine p_iload_n e_TM_lapse_90 rfl ?_
        refine p_inv (ci := 7) (d' := 11) [_] _ e_TM_lapse_91 c_TM_257 k_TM_activateFirst i_TM_activateFirst s_TM_activateFirst rfl rfl (hc3.1.2.1.1) rfl rfl (Nat.le_of_ble_eq_true rfl) (Nat.le_of_ble_eq_true rfl) ?_
        refine sp_activateFirst hb (hI2.ta hb) hh hc3 (fun σ4 f4 m4 g4 rf4 hc4 hk4 => ?_)
        refine Wp.lv2 (fin σ4 m4 f4 g4 rf4 ?_ (((hk1.tr HK.pfr).tr hk3).tr hk4)) ⟨rfl, rfl, rfl, rfl, trivial⟩
        have : lpS N A1 b c n = _ := if_pos ⟨r5, r2.symm.trans z1, by rw [← r3]; exact z2⟩
        rw [this]
        exact hc4
      · refine p_if_eq (tgt := 94) e_TM_lapse_75 (by decide) (fun _ => ?_) (fun hx => absurd (rfl) hx)
        refine Wp.lv2 (fin σ1 m1 f1 g1 rf1 ?_ hk1) ⟨rfl, rfl, rfl, rfl, trivial⟩
        have : lpS N A1 b c n = A1 := if_neg (fun y => z ⟨r2.trans y.2.1, by rw [r3]; exact y.2.2⟩)
        rw [this]
        exact hc1
  -- the first loop
  have step0 : ∀ (b : Nat), b < 2 → ∀ (σ1 : PS) (A1 : AS) (rf1 : Nat → Nat → Nat), IV N A1 eb eo → CRx N Y bd hs σ1 A1 f m g rf1 → HK (Y 4) σ σ1 hs →
      (∀ (σ2 : PS) (rf2 : Nat → Nat → Nat), CRx N Y bd hs σ2 (skA b (nI c) n (rn A1 b) A1) f m g rf2 → HK (Y 4) σ σ2 hs → Wp m_TM_lapse 12 20 [(3, .inl (nI (b + 1))), (0, .inr (Y 0)), (1, .inl (nI c)), (2, .inl n)] [] σ2 (fun v σ' => RV m_TM_lapse.2.2.2 v ∧ P v σ')) →
      Wp m_TM_lapse 12 20 [(3, .inl (nI b)), (0, .inr (Y 0)), (1, .inl (nI c)), (2, .inl n)] [] σ1 (fun v σ' => RV m_TM_lapse.2.2.2 v ∧ P v σ') := by
    intro b hb σ1 A1 rf1 hI1 hc1 hk1 next
    obtain ⟨-, ⟨x1, -, -, -, -, -, x7, -, -⟩, -, -, ⟨y1, y2, y3⟩, -⟩ := hc1.1
    refine p_iload_n e_TM_lapse_20 rfl ?_
    refine p_iconst (x := 2) e_TM_lapse_21 (by decide) ?_
    refine p_icmp_ge (tgt := 42) e_TM_lapse_22 (by decide) (fun hx => absurd hx (nI_ge (a := b) (b := 2) hb (by omega))) (fun _ => ?_)
    refine p_aload_n e_TM_lapse_25 rfl ?_
    refine p_gRv 455 e_TM_lapse_26 f_TM_49 rfl rfl (by assumption) x7 ?_
    refine p_iload_n e_TM_lapse_29 rfl ?_
    refine p_aaldv e_TM_lapse_30 (ti := 5) (n := b) (v := Y (300 + b)) (by decide) y1 rfl (by omega) (by omega) (y3 b hb).1 ?_
    refine p_iload_n e_TM_lapse_31 rfl ?_
    refine p_iload_n e_TM_lapse_32 rfl ?_
    refine p_inv (ci := 2) (d' := 4) [_, _] _ e_TM_lapse_33 c_TM_268 k_Desk_strike i_Desk_strike s_Desk_strike rfl rfl (hc1.1.dk hb) rfl rfl (Nat.le_of_ble_eq_true rfl) (Nat.le_of_ble_eq_true rfl) ?_
    refine sp_strike hb (r20 hI1) hc1 (fun σ2 rf2 hc2 hk2 => ?_)
    refine p_iinc e_TM_lapse_36 rfl rfl (by decide) ?_
    refine p_goto (tgt := 20) e_TM_lapse_39 (by decide) ?_
    exact Wp.lv2 (next σ2 rf2 hc2 (hk1.tr hk2)) ⟨congrArg (fun z => some (Sum.inl z)) (nI_1 b), rfl, rfl, rfl, trivial⟩
  refine Ctr.of y_TM_lapse (Nat.le_of_ble_eq_true rfl) ?_
  refine p_iload_n e_TM_lapse_0 rfl ?_
  refine p_aload_n e_TM_lapse_1 rfl ?_
  refine p_gRv 456 e_TM_lapse_2 f_TM_43 rfl rfl (by assumption) b8 ?_
  refine p_iload_n e_TM_lapse_5 rfl ?_
  refine p_ialdv e_TM_lapse_6 (n := c) (v := sv A 27 c) e1 rfl (by omega) (by omega) w27 ?_
  unfold lpA at hP
  refine p_icmp_gt (tgt := 11) e_TM_lapse_7 (by decide) (fun h7 => ?_) (fun h7 => ?_)
  · rw [if_pos h7] at hP
    refine p_aload_n e_TM_lapse_11 rfl ?_
    refine p_gRv 456 e_TM_lapse_12 f_TM_43 rfl rfl (by assumption) b8 ?_
    refine p_iload_n e_TM_lapse_15 rfl ?_
    refine p_iload_n e_TM_lapse_16 rfl ?_
    refine p_iast e_TM_lapse_17 (n := c) e1 rfl (by omega) (by omega) ?_
    have hc1 := cw_lapsed (c := c) (v := n) h
    have hk1 : HK (Y 4) σ (pai σ (Y 4) c n) hs := HK.pai
    have hI1 : IV N (set1 A 27 c n) eb eo := ⟨hI.1.set (by unfold rel; omega), hI.2.keep rfl (fun k j hk => by rw [sv_set1, if_neg (by omega)])⟩
    refine p_iconst (x := 0) e_TM_lapse_18 (by decide) ?_
    refine p_istore_n e_TM_lapse_19 (by decide) ?_
    refine Wp.lv2 (step0 0 (by omega) _ _ _ hI1 hc1 hk1 (fun σ2 rf2 hc2 hk2 => ?_)) ⟨rfl, rfl, rfl, rfl, trivial⟩
    have hI2 : IV N (skA 0 (nI c) n (rn A 0) (set1 A 27 c n)) eb eo := IV.sk (by omega) _ _ (Nat.le_refl _) hI1
    refine step0 1 (by omega) _ _ _ hI2 hc2 hk2 (fun σ3 rf3 hc3 hk3 => ?_)
    refine p_iload_n e_TM_lapse_20 rfl ?_
    refine p_iconst (x := 2) e_TM_lapse_21 (by decide) ?_
    refine p_icmp_ge (tgt := 42) e_TM_lapse_22 (by decide) (fun _ => ?_) (fun hx => absurd (Int32.le_refl _) hx)
    refine p_iconst (x := 0) e_TM_lapse_42 (by decide) ?_
    refine p_istore_n e_TM_lapse_43 (by decide) ?_
    have hI3 : IV N (lpR A c n) eb eo := hI.lpR
    refine Wp.lv2 (step 0 (by omega) _ (lpR A c n) _ _ _ _ hI3 hc3 hk3 (fun σ4 m4 f4 g4 rf4 hc4 hk4 => ?_)) ⟨rfl, rfl, rfl, rfl, trivial⟩
    refine step 1 (by omega) _ _ _ _ _ _ (hI3.lpS (by omega)) hc4 hk4 (fun σ5 m5 f5 g5 rf5 hc5 hk5 => ?_)
    refine p_iload_n e_TM_lapse_44 rfl ?_
    refine p_iconst (x := 2) e_TM_lapse_45 (by decide) ?_
    refine p_icmp_ge (tgt := 100) e_TM_lapse_46 (by decide) (fun _ => ?_) (fun hx => absurd (Int32.le_refl _) hx)
    refine p_ret e_TM_lapse_100 (rv_v ?_)
    exact hP _ _ _ _ _ hc5 hk5
  · rw [if_neg h7] at hP
    refine p_ret e_TM_lapse_10 (rv_v ?_)
    exact hP _ _ _ _ _ h HK.rf
end Arb2
end
section
/-! PLEASE, TOKENS, KNOW -/
noncomputable def plA (N : Nat) (A : AS) (c b : Nat) (n w : Int32) : AS := if sv A 27 c < n then (if sv (lpA N A c (n - 1)) 40 b = -1 then afA N (apR (lpA N A c (n - 1)) b (nI c) n w) b else apR (lpA N A c (n - 1)) b (nI c) n w) else A
noncomputable def tkA (N : Nat) (A : AS) (x b : Nat) (ct ow wd dt : Int32) : AS := @ite _ (x < N ∧ sv (gwA (gtA A (2 * x + b) ct ow wd dt) x b) 12 x ≠ 0 ∧ sv (gwA (gtA A (2 * x + b) ct ow wd dt) x b) 15 x = nI b ∧ ceA N (gwA (gtA A (2 * x + b) ct ow wd dt) x b) x b) (Classical.propDecidable _) (enA N (gwA (gtA A (2 * x + b) ct ow wd dt) x b) x b) (gwA (gtA A (2 * x + b) ct ow wd dt) x b)
noncomputable def knA (A : AS) (x b : Nat) (n co w : Int32) : AS := if sv A 11 (2 * x + b) < n ∨ (n = sv A 11 (2 * x + b) ∧ co = -1) then gwA (lnA A (2 * x + b) co w n) x b else A
section On
variable {N : Nat} {Y : Nat → Nat} {bd : Nat × Nat × Nat} {hs : List Nat} {σ : PS} {A : AS} {f : Nat → Nat} {m : Nat} {g : Nat → Nat} {rf : Nat → Nat → Nat} {P : Option PV → PS → Prop} {eb eo : Nat → Nat}
theorem sv_apR {b k j : Nat} {c n w : Int32} : sv (apR A b c n w) k j = if k = 24 ∧ j = 20 * b + rn A b then w else if k = 23 ∧ j = 20 * b + rn A b then n else if k = 22 ∧ j = 20 * b + rn A b then c else sv A k j := rfl
theorem IV.ap (h : IV N A eb eo) {b c : Nat} {n w : Int32} (hb : b < 2) (hc : c < N) (hw : bz w) (hr : rn A b ≤ 4) : IV N (apR A b (nI c) n w) eb eo := by
  refine ⟨h.1.cong rfl (fun k j hk => by unfold rel at hk; rw [sv_apR, if_neg (by omega), if_neg (by omega), if_neg (by omega)]), fun c' hc' => ?_, fun b' hb' => ?_, fun b' hb' => ?_⟩
  · rw [sv_apR, if_neg (by omega), if_neg (by omega), if_neg (by omega), sv_apR, if_neg (by omega), if_neg (by omega), if_neg (by omega), sv_apR, if_neg (by omega), if_neg (by omega), if_neg (by omega), sv_apR, if_neg (by omega), if_neg (by omega), if_neg (by omega)]
    exact h.2.1 c' hc'
  · rw [rn_apR]
    have q5 := (h.2.2.1 b' hb').1
    by_cases e : b' = b
    · subst e
      rw [if_pos rfl]
      refine ⟨by omega, fun i hi => ?_⟩
      by_cases e2 : i = rn A b'
      · subst e2
        rw [sv_apR, if_neg (by omega), if_neg (by omega), if_pos ⟨rfl, rfl⟩, sv_apR, if_pos ⟨rfl, rfl⟩]
        exact ⟨⟨c, hc, rfl⟩, hw⟩
      · rw [sv_apR, if_neg (by omega), if_neg (by omega), if_neg (by omega), sv_apR, if_neg (by omega), if_neg (by omega), if_neg (by omega)]
        exact (h.2.2.1 b' hb').2 i (by omega)
    · rw [if_neg e]
      refine ⟨q5, fun i hi => ?_⟩
      rw [sv_apR, if_neg (by omega), if_neg (by omega), if_neg (by omega), sv_apR, if_neg (by omega), if_neg (by omega), if_neg (by omega)]
      exact (h.2.2.1 b' hb').2 i hi
  · rw [sv_apR, if_neg (by omega), if_neg (by omega), if_neg (by omega), sv_apR, if_neg (by omega), if_neg (by omega), if_neg (by omega)]
    exact h.2.2.2 b' hb'
theorem CRx.nwQ (h : CRx N Y bd hs σ A f m g rf) {c n w : Int32} : CRx N Y (bd.1, bd.2.1, bd.2.2 + 1) hs (pfi (pfi (pfi (pnew σ 5 3) 320 (nx σ) c) 321 (nx σ) n) 322 (nx σ) w) A f m g rf := by
  obtain ⟨d1, d2⟩ := dis_new h (ci := 5) (k := 3)
  have fe : ∀ i r, r < nx σ → fi (pfi (pfi (pfi (pnew σ 5 3) 320 (nx σ) c) 321 (nx σ) n) 322 (nx σ) w) i r = fi σ i r := fun i r hr => by
    rw [fi_pfi, if_neg (by omega), fi_pfi, if_neg (by omega), fi_pfi, if_neg (by omega), fi_pnew, if_neg (by omega)]
  have k : KP σ (pfi (pfi (pfi (pnew σ 5 3) 320 (nx σ) c) 321 (nx σ) n) 322 (nx σ) w) := by
    obtain ⟨k1, k2, k3, k4, k5, k6⟩ := kp_new (σ := σ) (ci := 5) (n := 3)
    exact ⟨k1, k2, k3, fun i r hr _ => fe i r hr, k5, k6⟩
  have aln : ∀ (l n' : Nat) (ff : Nat → Nat), AL σ l n' ff → AL (pfi (pfi (pfi (pnew σ 5 3) 320 (nx σ) c) 321 (nx σ) n) 322 (nx σ) w) l n' ff := fun l n' ff hA =>
    k.keepL h.2.1 hA (fe 2 l hA.2.2.2.2.2.2.1) (by show fr (pnew σ 5 3) 1 l = _; rw [fr_pnew, if_neg (by have := hA.2.2.2.2.2.2.1; omega)]) (fun _ _ => rfl)
  obtain ⟨h1, h2, h3, h4, h5, h6, h7, h8, h9, h10⟩ := h
  refine ⟨k.lay h2 h1, fr_new h2, k.shr h2 h1 h3, k.cor h2 h1 h4, k.msc h2 h1 h5, mar_kp k h2 (aln _ _ _ h6.1) (aln _ _ _ h6.2.1) h6, ror_kp k h2 (fun b hb => aln _ _ _ (h7 b hb).1) h7, k.acr h2 h1 h8, d1, ?_⟩
  unfold BUD at h10 ⊢
  show nx σ + 1 ≤ bd.1 + _ + (bd.2.2 + 1) + caps Y (pnew σ 5 3) ∧ sl σ + 3 ≤ bd.2.1 + _ + 3 * (bd.2.2 + 1) + 4 * caps Y (pnew σ 5 3)
  rw [d2]
  omega
set_option maxHeartbeats 4000000 in
theorem sp_onPlease {c b : Nat} {n w : Int32} (hc : c < N) (hb : b < 2) (hw : bz w) (hI : IV N A eb eo) (hr4 : rn (lpA N A c (n - 1)) b ≤ 4) (hh : hs.length ≤ 1) (h : CRx N Y bd hs σ A f m g rf) (hP : ∀ σ' f' m' g' rf' q, q ≤ 1 → CRx N Y (bd.1, bd.2.1, bd.2.2 + q) hs σ' (plA N A c b n w) f' m' g' rf' → HK (Y 4) σ σ' hs → P none σ') : Ctr m_TM_onPlease 13 [.inr (Y 0), .inl (nI c), .inl (nI b), .inl n, .inl w] σ P := by
  obtain ⟨a0, ⟨b1, b2, b3, b4, b5, b6, b7, b8, b9⟩, -, -, ⟨d1, d2, d3⟩, ⟨e1, e2⟩, -⟩ := h.1
  have w27 := h.2.2.2.2.1.2.2.2 c hc
  refine Ctr.of y_TM_onPlease (Nat.le_of_ble_eq_true rfl) ?_
  refine p_iload_n e_TM_onPlease_0 rfl ?_
  refine p_aload_n e_TM_onPlease_1 rfl ?_
  refine p_gRv 456 e_TM_onPlease_2 f_TM_43 rfl rfl (by assumption) b8 ?_
  refine p_iload_n e_TM_onPlease_5 rfl ?_
  refine p_ialdv e_TM_onPlease_6 (n := c) (v := sv A 27 c) e1 rfl (by omega) (by omega) w27 ?_
  unfold plA at hP
  refine p_icmp_gt (tgt := 11) e_TM_onPlease_7 (by decide) (fun h7 => ?_) (fun h7 => ?_)
  · rw [if_pos h7] at hP
    refine p_aload_n e_TM_onPlease_11 rfl ?_
    refine p_iload_n e_TM_onPlease_12 rfl ?_
    refine p_iload_n e_TM_onPlease_13 rfl ?_
    refine p_iconst (x := 1) e_TM_onPlease_14 (by decide) ?_
    refine p_isub e_TM_onPlease_15 ?_
    refine p_inv (ci := 7) (d' := 12) [_, _] _ e_TM_onPlease_16 c_TM_152 k_TM_lapse i_TM_lapse s_TM_lapse rfl rfl (by assumption) rfl rfl (Nat.le_of_ble_eq_true rfl) (Nat.le_of_ble_eq_true rfl) ?_
    refine sp_lapse hc hI hh h (fun σ1 f1 m1 g1 rf1 hc1 hk1 => ?_)
    have hI1 : IV N (lpA N A c (n - 1)) eb eo := hI.lp
    obtain ⟨-, ⟨x1, -, -, -, -, -, x7, -, -⟩, -, -, ⟨y1, y2, y3⟩, -⟩ := hc1.1
    have td : tg σ1 (Y (300 + b)) = 3 := hc1.1.dk hb
    have ur : fr σ1 128 (Y (300 + b)) = Y (310 + b) := (y3 b hb).2.2
    obtain ⟨q1, q2⟩ := hc1.2.2.2.2.2.2.2.1 b hb
    refine p_aload_n e_TM_onPlease_19 rfl ?_
    refine p_gRv 455 e_TM_onPlease_20 f_TM_49 rfl rfl (by assumption) x7 ?_
    refine p_iload_n e_TM_onPlease_23 rfl ?_
    refine p_aaldv e_TM_onPlease_24 (ti := 5) (n := b) (v := Y (300 + b)) (by decide) y1 rfl (by omega) (by omega) (y3 b hb).1 ?_
    refine p_astore e_TM_onPlease_25 (by decide) ?_
    refine p_aload e_TM_onPlease_27 rfl ?_
    refine p_gRv 128 e_TM_onPlease_29 f_TM_192 rfl rfl (by assumption) ur ?_
    refine p_new (ci := 5) (N := 3) e_TM_onPlease_32 rfl rfl l_TM_244 n_Req w_56 ?_
    have hn0 : nx σ1 ≠ 0 := by have := hc1.2.1.1.1; omega
    have tr : tg (pnew σ1 5 3) (nx σ1) = 6 := by rw [tg_pnew, if_pos rfl]
    refine p_dup e_TM_onPlease_35 ?_
    refine p_iload_n e_TM_onPlease_36 rfl ?_
    refine p_iload_n e_TM_onPlease_37 rfl ?_
    refine p_iload e_TM_onPlease_38 rfl ?_
    refine p_init (d' := 1) [_, _, _] _ e_TM_onPlease_40 c_TM_246 k_Req_init i_Req_init rfl rfl (hn0) rfl rfl (Nat.le_of_ble_eq_true rfl) (Nat.le_of_ble_eq_true rfl) ?_
    refine sp_Req_init tr hn0 hw ?_
    have hc2 := hc1.nwQ (c := nI c) (n := n) (w := w)
    obtain ⟨hA, hE⟩ := hc2.2.2.2.2.2.2.1 b hb
    have tl := hA.1
    have r5 := (hI1.2.2.1 b hb).1
    refine p_inv (ci := 0) (d' := 6) [_] _ e_TM_onPlease_43 c_TM_249 k_AL_add1 i_AL_add1 s_AL_add1 rfl rfl (by assumption) rfl rfl (Nat.le_of_ble_eq_true rfl) (Nat.le_of_ble_eq_true rfl) ?_
    refine sp_AL_add hc2.2.1 hA (by omega) (Or.inr tr) (fun σ3 hA3 => ?_)
    have hc3 := hc2.apR hb (fun b' hb' => by have := (hI1.2.2.1 b' hb').1; omega) (r := nx σ1) tr hA3
    have v1 : fi (pfi (pfi (pfi (pnew σ1 5 3) 320 (nx σ1) (nI c)) 321 (nx σ1) n) 322 (nx σ1) w) 320 (nx σ1) = nI c := by rw [rd_ne (by omega), rd_ne (by omega), rd_eq]
    have v2 : fi (pfi (pfi (pfi (pnew σ1 5 3) 320 (nx σ1) (nI c)) 321 (nx σ1) n) 322 (nx σ1) w) 321 (nx σ1) = n := by rw [rd_ne (by omega), rd_eq]
    have v3 : fi (pfi (pfi (pfi (pnew σ1 5 3) 320 (nx σ1) (nI c)) 321 (nx σ1) n) 322 (nx σ1) w) 322 (nx σ1) = w := by rw [rd_eq]
    rw [v1, v2, v3] at hc3
    have hI3 := hI1.ap (n := n) hb hc hw hr4
    have hkn : HK (Y 4) σ1 (pfi (pfi (pfi (pnew σ1 5 3) 320 (nx σ1) (nI c)) 321 (nx σ1) n) 322 (nx σ1) w) hs := (((HK.new (fun y hy => hc1.2.1.lt (r := y) (by have := (hc1.2.2.2.2.2.1.2.2.2.2.2.2.2.1 y hy).1; omega))).tr (HK.put (Or.inl (by omega)))).tr (HK.put (Or.inl (by omega)))).tr (HK.put (Or.inl (by omega)))
    have hk3 : HK (Y 4) σ σ3 hs := (hk1.tr hkn).tr (HK.lf hA3.1)
    have td3 : tg σ3 (Y (300 + b)) = 3 := hc3.1.dk hb
    obtain ⟨p1, p2⟩ := hc3.2.2.2.2.2.2.2.1 b hb
    have e40 : sv (apR (lpA N A c (n - 1)) b (nI c) n w) 40 b = sv (lpA N A c (n - 1)) 40 b := by rw [sv_apR, if_neg (by omega), if_neg (by omega), if_neg (by omega)]
    rw [e40] at p2
    refine p_pop e_TM_onPlease_46 ?_
    refine p_aload e_TM_onPlease_47 rfl ?_
    refine p_gR 129 e_TM_onPlease_49 f_TM_253 rfl rfl (by assumption) ?_
    rcases p2 with ⟨r1, r2⟩ | ⟨r1, r2, r3, r4, r5⟩
    · refine p_ifnonnull (tgt := 60) e_TM_onPlease_52 (by decide) (fun hx => absurd (r1) hx) (fun _ => ?_)
      rw [if_pos r2] at hP
      refine p_aload_n e_TM_onPlease_55 rfl ?_
      refine p_iload_n e_TM_onPlease_56 rfl ?_
      refine p_inv (ci := 7) (d' := 11) [_] _ e_TM_onPlease_57 c_TM_257 k_TM_activateFirst i_TM_activateFirst s_TM_activateFirst rfl rfl (hc3.1.2.1.1) rfl rfl (Nat.le_of_ble_eq_true rfl) (Nat.le_of_ble_eq_true rfl) ?_
      refine sp_activateFirst hb hI3 hh hc3 (fun σ4 f4 m4 g4 rf4 hc4 hk4 => ?_)
      refine p_ret e_TM_onPlease_60 (rv_v ?_)
      exact hP _ _ _ _ _ 1 (Nat.le_refl _) hc4 (hk3.tr hk4)
    · have hne : fr σ3 129 (Y (300 + b)) ≠ 0 := by
        intro q
        rw [q, hc3.2.1.1.2] at r1
        omega
      refine p_ifnonnull (tgt := 60) e_TM_onPlease_52 (by decide) (fun _ => ?_) (fun hx => absurd hx (hne))
      rw [if_neg r5] at hP
      refine p_ret e_TM_onPlease_60 (rv_v ?_)
      exact hP _ _ _ _ _ 1 (Nat.le_refl _) hc3 hk3
  · rw [if_neg h7] at hP
    refine p_ret e_TM_onPlease_10 (rv_v ?_)
    exact hP _ _ _ _ _ 0 (Nat.zero_le _) h HK.rf
set_option maxHeartbeats 4000000 in
theorem sp_onKnow {l x b : Nat} {n co w : Int32} (hl : l ∈ hs) (hx : x ≤ N) (hb : b < 2) (hw : bz w) (hco : co = -1 ∨ ∃ d, d < N ∧ co = nI d) (l1 : fi σ 194 l = nI x) (l2 : fi σ 195 l = nI b) (l3 : fi σ 200 l = n) (l4 : fi σ 201 l = co) (l5 : fi σ 202 l = w) (hI : IV N A eb eo) (hh : hs.length ≤ 1) (h : CRx N Y bd hs σ A f m g rf) (hP : ∀ σ' f' m' g', CRx N Y bd hs σ' (knA A x b n co w) f' m' g' rf → HK (Y 4) σ σ' hs → P none σ') : Ctr m_TM_onKnow 11 [.inr (Y 0), .inr l] σ P := by
  have b1 := h.1.2.1.1
  have hi : 2 * x + b < 2 * N + 2 := by omega
  have ts : tg σ (Y (100 + (2 * x + b))) = 7 := h.1.sh hi
  have tl : tg σ l = 4 := (h.2.2.2.2.2.1.2.2.2.2.2.2.2.1 l hl).1
  have v11 := h.2.2.1.2.2.2.2.2.2 _ hi
  unfold knA at hP
  refine Ctr.of y_TM_onKnow (Nat.le_of_ble_eq_true rfl) ?_
  have go : sv A 11 (2 * x + b) < n ∨ (n = sv A 11 (2 * x + b) ∧ co = -1) → Wp m_TM_onKnow 11 65 [(2, .inr (Y (100 + (2 * x + b)))), (0, .inr (Y 0)), (1, .inr l)] [] σ (fun v σ' => RV m_TM_onKnow.2.2.2 v ∧ P v σ') := by
    intro hy
    rw [if_pos hy] at hP
    refine p_aload_n e_TM_onKnow_65 rfl ?_
    refine p_aload_n e_TM_onKnow_66 rfl ?_
    refine p_gIv 201 e_TM_onKnow_67 f_TM_263 rfl rfl (by assumption) l4 ?_
    refine p_aload_n e_TM_onKnow_70 rfl ?_
    refine p_gIv 202 e_TM_onKnow_71 f_TM_142 rfl rfl (by assumption) l5 ?_
    refine p_aload_n e_TM_onKnow_74 rfl ?_
    refine p_gIv 200 e_TM_onKnow_75 f_TM_139 rfl rfl (by assumption) l3 ?_
    refine p_inv (ci := 6) (d' := 1) [_, _, _] _ e_TM_onKnow_78 c_TM_264 k_Share_learn i_Share_learn s_Share_learn rfl rfl (by assumption) rfl rfl (Nat.le_of_ble_eq_true rfl) (Nat.le_of_ble_eq_true rfl) ?_
    refine sp_Share_learn ts hw ?_
    have hc1 := h.learn (i := 2 * x + b) (c := co) (w := w) (n := n) hi
    have hI1 : IV N (lnA A (2 * x + b) co w n) eb eo := ⟨hI.1.lrn hco hw, hI.2.keep rfl (fun k j hk => by unfold lnA; rw [sv_set1, if_neg (by omega), sv_set1, if_neg (by omega), sv_set1, if_neg (by omega)])⟩
    refine p_aload_n e_TM_onKnow_81 rfl ?_
    refine p_aload_n e_TM_onKnow_82 rfl ?_
    refine p_gIv 194 e_TM_onKnow_83 f_TM_119 rfl rfl (by assumption) l1 ?_
    refine p_aload_n e_TM_onKnow_86 rfl ?_
    refine p_gIv 195 e_TM_onKnow_87 f_TM_122 rfl rfl (by assumption) l2 ?_
    refine p_inv (ci := 7) (d' := 10) [_, _] _ e_TM_onKnow_90 c_TM_241 k_TM_giveWay i_TM_giveWay s_TM_giveWay rfl rfl (hc1.1.2.1.1) rfl rfl (Nat.le_of_ble_eq_true rfl) (Nat.le_of_ble_eq_true rfl) ?_
    refine sp_giveWay hx hb (hI1.1.own hx hb) hI1.1.b67 hh hc1 (fun σ2 f2 m2 g2 hc2 hk2 => ?_)
    refine p_ret e_TM_onKnow_93 (rv_v ?_)
    exact hP _ _ _ _ hc2 (HK.learn.tr hk2)
  have no : ¬ (sv A 11 (2 * x + b) < n ∨ (n = sv A 11 (2 * x + b) ∧ co = -1)) → Wp m_TM_onKnow 11 93 [(2, .inr (Y (100 + (2 * x + b)))), (0, .inr (Y 0)), (1, .inr l)] [] σ (fun v σ' => RV m_TM_onKnow.2.2.2 v ∧ P v σ') := by
    intro hy
    rw [if_neg hy] at hP
    refine p_ret e_TM_onKnow_93 (rv_v ?_)
    exact hP _ _ _ _ h HK.rf
  -- the second half, with the first flag z
  have half : ∀ z : Int32, (z = 1 ∧ sv A 11 (2 * x + b) < n) ∨ (z = 0 ∧ ¬ sv A 11 (2 * x + b) < n) → Wp m_TM_onKnow 11 29 [(2, .inr (Y (100 + (2 * x + b)))), (0, .inr (Y 0)), (1, .inr l)] [.inl z] σ (fun v σ' => RV m_TM_onKnow.2.2.2 v ∧ P v σ') := by
    intro z hz
    have last : ∀ y : Int32, (y = 1 ∧ n = sv A 11 (2 * x + b) ∧ co = -1) ∨ (y = 0 ∧ ¬ (n = sv A 11 (2 * x + b) ∧ co = -1)) → Wp m_TM_onKnow 11 54 [(3, .inl z), (2, .inr (Y (100 + (2 * x + b)))), (0, .inr (Y 0)), (1, .inr l)] [.inl y] σ (fun v σ' => RV m_TM_onKnow.2.2.2 v ∧ P v σ') := by
      intro y hy
      refine p_istore e_TM_onKnow_54 (by decide) ?_
      refine p_iload_n e_TM_onKnow_56 rfl ?_
      refine p_if_ne (tgt := 65) e_TM_onKnow_57 (by decide) (fun h57 => ?_) (fun h57 => ?_)
      · refine Wp.lv2 (go ?_) ⟨rfl, rfl, rfl, trivial⟩
        rcases hz with q | q
        · exact Or.inl q.2
        · exact absurd q.1 h57
      refine p_iload e_TM_onKnow_60 rfl ?_
      refine p_if_eq (tgt := 93) e_TM_onKnow_62 (by decide) (fun h62 => ?_) (fun h62 => ?_)
      · refine Wp.lv2 (no ?_) ⟨rfl, rfl, rfl, trivial⟩
        rcases hz with q | q
        · rw [h57] at q; exact absurd q.1 (by decide)
        · rcases hy with p | p
          · rw [h62] at p; exact absurd p.1 (by decide)
          · rintro (t | t)
            · exact q.2 t
            · exact p.2 t
      · refine Wp.lv2 (go ?_) ⟨rfl, rfl, rfl, trivial⟩
        rcases hy with p | p
        · exact Or.inr p.2
        · exact absurd p.1 h62
    refine p_istore_n e_TM_onKnow_29 (by decide) ?_
    refine p_aload_n e_TM_onKnow_30 rfl ?_
    refine p_gIv 200 e_TM_onKnow_31 f_TM_139 rfl rfl (by assumption) l3 ?_
    refine p_aload_n e_TM_onKnow_34 rfl ?_
    refine p_gIv 390 e_TM_onKnow_35 f_TM_260 rfl rfl (by assumption) v11 ?_
    refine p_icmp_ne (tgt := 53) e_TM_onKnow_38 (by decide) (fun h38 => ?_) (fun h38 => ?_)
    · refine p_iconst (x := 0) e_TM_onKnow_53 (by decide) ?_
      exact Wp.lv2 (last 0 (Or.inr ⟨rfl, fun q => h38 q.1⟩)) ⟨rfl, rfl, rfl, rfl, trivial⟩
    refine p_aload_n e_TM_onKnow_41 rfl ?_
    refine p_gIv 201 e_TM_onKnow_42 f_TM_263 rfl rfl (by assumption) l4 ?_
    refine p_iconst (x := (-1)) e_TM_onKnow_45 (by decide) ?_
    refine p_icmp_ne (tgt := 53) e_TM_onKnow_46 (by decide) (fun h46 => ?_) (fun h46 => ?_)
    · refine p_iconst (x := 0) e_TM_onKnow_53 (by decide) ?_
      exact Wp.lv2 (last 0 (Or.inr ⟨rfl, fun q => h46 q.2⟩)) ⟨rfl, rfl, rfl, rfl, trivial⟩
    · refine p_iconst (x := 1) e_TM_onKnow_49 (by decide) ?_
      refine p_goto (tgt := 54) e_TM_onKnow_50 (by decide) ?_
      exact Wp.lv2 (last 1 (Or.inl ⟨rfl, h38, h46⟩)) ⟨rfl, rfl, rfl, rfl, trivial⟩
  refine p_aload_n e_TM_onKnow_0 rfl ?_
  refine p_aload_n e_TM_onKnow_1 rfl ?_
  refine p_gIv 194 e_TM_onKnow_2 f_TM_119 rfl rfl (by assumption) l1 ?_
  refine p_aload_n e_TM_onKnow_5 rfl ?_
  refine p_gIv 195 e_TM_onKnow_6 f_TM_122 rfl rfl (by assumption) l2 ?_
  refine p_inv (ci := 7) (d' := 1) [_, _] _ e_TM_onKnow_9 c_TM_159 k_TM_share i_TM_share s_TM_share rfl rfl (by assumption) rfl rfl (Nat.le_of_ble_eq_true rfl) (Nat.le_of_ble_eq_true rfl) ?_
  refine h.1.share hx hb ?_
  refine p_astore_n e_TM_onKnow_12 (by decide) ?_
  refine p_aload_n e_TM_onKnow_13 rfl ?_
  refine p_gIv 200 e_TM_onKnow_14 f_TM_139 rfl rfl (by assumption) l3 ?_
  refine p_aload_n e_TM_onKnow_17 rfl ?_
  refine p_gIv 390 e_TM_onKnow_18 f_TM_260 rfl rfl (by assumption) v11 ?_
  refine p_icmp_le (tgt := 28) e_TM_onKnow_21 (by decide) (fun h21 => ?_) (fun h21 => ?_)
  · refine p_iconst (x := 0) e_TM_onKnow_28 (by decide) ?_
    exact Wp.lv2 (half 0 (Or.inr ⟨rfl, Int32.not_lt.mpr h21⟩)) ⟨rfl, rfl, rfl, trivial⟩
  · refine p_iconst (x := 1) e_TM_onKnow_24 (by decide) ?_
    refine p_goto (tgt := 29) e_TM_onKnow_25 (by decide) ?_
    exact Wp.lv2 (half 1 (Or.inl ⟨rfl, Int32.not_le.mp h21⟩)) ⟨rfl, rfl, rfl, trivial⟩
set_option maxHeartbeats 4000000 in
theorem sp_onTokens {l x b : Nat} {ct ow wd dt : Int32} (hl : l ∈ hs) (hx : x ≤ N) (hb : b < 2) (l1 : fi σ 194 l = nI x) (l2 : fi σ 195 l = nI b) (l3 : fi σ 196 l = ct) (l4 : fi σ 197 l = ow) (l5 : fi σ 198 l = wd) (l6 : fi σ 199 l = dt) (hI1 : IV N (gtA A (2 * x + b) ct ow wd dt) (fun _ => 0) (fun _ => 0)) (hh : hs.length ≤ 1) (h : CRx N Y bd hs σ A f m g rf) (hP : ∀ σ' f' m' g', CRx N Y bd hs σ' (tkA N A x b ct ow wd dt) f' m' g' rf → HK (Y 4) σ σ' hs → P none σ') : Ctr m_TM_onTokens 11 [.inr (Y 0), .inr l] σ P := by
  have b1 := h.1.2.1.1
  have hi : 2 * x + b < 2 * N + 2 := by omega
  have ts : tg σ (Y (100 + (2 * x + b))) = 7 := h.1.sh hi
  have tl : tg σ l = 4 := (h.2.2.2.2.2.1.2.2.2.2.2.2.2.1 l hl).1
  have v5 := h.2.2.1.1 _ hi
  have v6 := h.2.2.1.2.1 _ hi
  have hg : CRx N Y bd hs (gnd σ (Y (100 + (2 * x + b))) l) (gtA A (2 * x + b) ct ow wd dt) f m g rf ∧ HK (Y 4) σ (gnd σ (Y (100 + (2 * x + b))) l) hs := by
    unfold gnd gtA
    rw [v5, v6, l3, l4, l5, l6]
    have c2 := cw_385 (v := (if sv A 6 (2 * x + b) ≠ 0 ∨ ow ≠ 0 then 1 else 0)) (cw_384 (v := sv A 5 (2 * x + b) + ct) h hi) hi
    have k2 : HK (Y 4) σ (pfi (pfi σ 384 (Y (100 + (2 * x + b))) (sv A 5 (2 * x + b) + ct)) 385 (Y (100 + (2 * x + b))) (if sv A 6 (2 * x + b) ≠ 0 ∨ ow ≠ 0 then 1 else 0)) hs := (HK.put (Or.inl (by omega))).tr (HK.put (Or.inl (by omega)))
    by_cases e : wd = 0
    · rw [if_pos e, if_pos e]; exact ⟨c2, k2⟩
    · rw [if_neg e, if_neg e]; exact ⟨cw_387 (cw_386 c2 hi) hi, (k2.tr (HK.put (Or.inl (by omega)))).tr (HK.put (Or.inl (by omega)))⟩
  obtain ⟨hc1, hk1⟩ := hg
  unfold tkA at hP
  refine Ctr.of y_TM_onTokens (Nat.le_of_ble_eq_true rfl) ?_
  refine p_aload_n e_TM_onTokens_0 rfl ?_
  refine p_aload_n e_TM_onTokens_1 rfl ?_
  refine p_gIv 194 e_TM_onTokens_2 f_TM_119 rfl rfl (by assumption) l1 ?_
  refine p_aload_n e_TM_onTokens_5 rfl ?_
  refine p_gIv 195 e_TM_onTokens_6 f_TM_122 rfl rfl (by assumption) l2 ?_
  refine p_inv (ci := 7) (d' := 1) [_, _] _ e_TM_onTokens_9 c_TM_159 k_TM_share i_TM_share s_TM_share rfl rfl (by assumption) rfl rfl (Nat.le_of_ble_eq_true rfl) (Nat.le_of_ble_eq_true rfl) ?_
  refine h.1.share hx hb ?_
  refine p_aload_n e_TM_onTokens_12 rfl ?_
  refine p_inv (ci := 6) (d' := 1) [_] _ e_TM_onTokens_13 c_TM_238 k_Share_gain i_Share_gain s_Share_gain rfl rfl (by assumption) rfl rfl (Nat.le_of_ble_eq_true rfl) (Nat.le_of_ble_eq_true rfl) ?_
  refine sp_Share_gain ts tl ?_
  have tl1 : tg (gnd σ (Y (100 + (2 * x + b))) l) l = 4 := (hc1.2.2.2.2.2.1.2.2.2.2.2.2.2.1 l hl).1
  have m1 : fi (gnd σ (Y (100 + (2 * x + b))) l) 194 l = nI x := (hk1.1 l hl 194 (by omega) (by omega)).trans l1
  have m2 : fi (gnd σ (Y (100 + (2 * x + b))) l) 195 l = nI b := (hk1.1 l hl 195 (by omega) (by omega)).trans l2
  refine p_aload_n e_TM_onTokens_16 rfl ?_
  refine p_aload_n e_TM_onTokens_17 rfl ?_
  refine p_gIv 194 e_TM_onTokens_18 f_TM_119 rfl rfl (by assumption) m1 ?_
  refine p_aload_n e_TM_onTokens_21 rfl ?_
  refine p_gIv 195 e_TM_onTokens_22 f_TM_122 rfl rfl (by assumption) m2 ?_
  refine p_inv (ci := 7) (d' := 10) [_, _] _ e_TM_onTokens_25 c_TM_241 k_TM_giveWay i_TM_giveWay s_TM_giveWay rfl rfl (hc1.1.2.1.1) rfl rfl (Nat.le_of_ble_eq_true rfl) (Nat.le_of_ble_eq_true rfl) ?_
  refine sp_giveWay hx hb (hI1.1.own hx hb) hI1.1.b67 hh hc1 (fun σ2 f2 m2' g2 hc2 hk2 => ?_)
  have hI2 := hI1.gw hx hb
  have hk12 := hk1.tr hk2
  have tl2 : tg σ2 l = 4 := (hc2.2.2.2.2.2.1.2.2.2.2.2.2.2.1 l hl).1
  have n1 : fi σ2 194 l = nI x := (hk12.1 l hl 194 (by omega) (by omega)).trans l1
  have n2 : fi σ2 195 l = nI b := (hk12.1 l hl 195 (by omega) (by omega)).trans l2
  obtain ⟨a0, ⟨x1, x2, -, -, -, x6, -⟩, -, ⟨d1, d2, d3⟩, -⟩ := hc2.1
  have stop : ¬ (x < N ∧ sv (gwA (gtA A (2 * x + b) ct ow wd dt) x b) 12 x ≠ 0 ∧ sv (gwA (gtA A (2 * x + b) ct ow wd dt) x b) 15 x = nI b ∧ ceA N (gwA (gtA A (2 * x + b) ct ow wd dt) x b) x b) → Wp m_TM_onTokens 11 77 [(0, .inr (Y 0)), (1, .inr l)] [] σ2 (fun v σ' => RV m_TM_onTokens.2.2.2 v ∧ P v σ') := by
    intro hy
    rw [if_neg hy] at hP
    refine p_ret e_TM_onTokens_77 (rv_v ?_)
    exact hP _ _ _ _ hc2 hk12
  refine p_aload_n e_TM_onTokens_28 rfl ?_
  refine p_aload_n e_TM_onTokens_29 rfl ?_
  refine p_gIv 194 e_TM_onTokens_30 f_TM_119 rfl rfl (by assumption) n1 ?_
  refine p_inv (ci := 7) (d' := 1) [_] _ e_TM_onTokens_33 c_TM_71 k_TM_isCore i_TM_isCore s_TM_isCore rfl rfl (by assumption) rfl rfl (Nat.le_of_ble_eq_true rfl) (Nat.le_of_ble_eq_true rfl) ?_
  refine sp_isCore x1 (fun y1 y2 => ?_) (fun y => ?_)
  · refine p_if_eq (tgt := 77) e_TM_onTokens_36 (by decide) (fun hx => absurd hx ((by decide))) (fun _ => ?_)
    have hxN : x < N := by
      rw [x2] at y2
      exact (nI_ltI (by omega) (by omega)).mp y2
    have tc : tg σ2 (Y (200 + x)) = 2 := hc2.1.co hxN
    have o12 := hc2.2.2.2.1.2.1 x hxN
    have o15 := hc2.2.2.2.1.2.2.2.1 x hxN
    refine p_aload_n e_TM_onTokens_39 rfl ?_
    refine p_gRv 454 e_TM_onTokens_40 f_TM_38 rfl rfl (by assumption) x6 ?_
    refine p_aload_n e_TM_onTokens_43 rfl ?_
    refine p_gIv 194 e_TM_onTokens_44 f_TM_119 rfl rfl (by assumption) n1 ?_
    refine p_aaldv e_TM_onTokens_47 (ti := 4) (n := x) (v := Y (200 + x)) (by decide) d1 rfl (by omega) (by omega) (d3 x hxN).1 ?_
    refine p_aload_n e_TM_onTokens_48 rfl ?_
    refine p_gIv 195 e_TM_onTokens_49 f_TM_122 rfl rfl (by assumption) n2 ?_
    refine p_inv (ci := 1) (d' := 1) [_] _ e_TM_onTokens_52 c_TM_163 k_Core_isBusyWith i_Core_isBusyWith s_Core_isBusyWith rfl rfl (by assumption) rfl rfl (Nat.le_of_ble_eq_true rfl) (Nat.le_of_ble_eq_true rfl) ?_
    refine sp_Core_isBusyWith tc (fun z1 z2 => ?_) (fun z => ?_)
    · refine p_if_eq (tgt := 77) e_TM_onTokens_55 (by decide) (fun hx => absurd hx ((by decide))) (fun _ => ?_)
      rw [o12] at z1
      rw [o15] at z2
      refine p_aload_n e_TM_onTokens_58 rfl ?_
      refine p_aload_n e_TM_onTokens_59 rfl ?_
      refine p_gIv 194 e_TM_onTokens_60 f_TM_119 rfl rfl (by assumption) n1 ?_
      refine p_inv (ci := 7) (d' := 2) [_] _ e_TM_onTokens_63 c_TM_85 k_TM_canEnd i_TM_canEnd s_TM_canEnd rfl rfl (by assumption) rfl rfl (Nat.le_of_ble_eq_true rfl) (Nat.le_of_ble_eq_true rfl) ?_
      refine sp_canEnd hxN hb z2 hc2 (fun w1 => ?_) (fun w0 => ?_)
      · refine p_if_eq (tgt := 77) e_TM_onTokens_66 (by decide) (fun hx => absurd hx ((by decide))) (fun _ => ?_)
        refine p_aload_n e_TM_onTokens_69 rfl ?_
        refine p_aload_n e_TM_onTokens_70 rfl ?_
        refine p_gIv 194 e_TM_onTokens_71 f_TM_119 rfl rfl (by assumption) n1 ?_
        refine p_inv (ci := 7) (d' := 9) [_] _ e_TM_onTokens_74 c_TM_88 k_TM_endd i_TM_endd s_TM_endd rfl rfl (by assumption) rfl rfl (Nat.le_of_ble_eq_true rfl) (Nat.le_of_ble_eq_true rfl) ?_
        refine sp_end hxN hb z2 hI2.1.b67 hh hc2 (fun σ3 f3 m3 g3 hc3 hk3 => ?_)
        refine p_ret e_TM_onTokens_77 (rv_v ?_)
        rw [if_pos ⟨hxN, z1, z2, w1⟩] at hP
        exact hP _ _ _ _ hc3 (hk12.tr hk3)
      · refine p_if_eq (tgt := 77) e_TM_onTokens_66 (by decide) (fun _ => ?_) (fun hx => absurd (rfl) hx)
        exact Wp.lv2 (stop (fun q => w0 q.2.2.2)) ⟨rfl, rfl, trivial⟩
    · refine p_if_eq (tgt := 77) e_TM_onTokens_55 (by decide) (fun _ => ?_) (fun hx => absurd (rfl) hx)
      exact Wp.lv2 (stop (fun q => z ⟨by rw [o12]; exact q.2.1, by rw [o15]; exact q.2.2.1⟩)) ⟨rfl, rfl, trivial⟩
  · refine p_if_eq (tgt := 77) e_TM_onTokens_36 (by decide) (fun _ => ?_) (fun hx => absurd (rfl) hx)
    refine Wp.lv2 (stop (fun q => y ⟨nI_pos' (by omega), ?_⟩)) ⟨rfl, rfl, trivial⟩
    rw [x2]
    exact nI_lt q.1 (by omega)
end On
end
section
/-! the public methods that only tell -/
theorem ix {i : Int32} {n : Nat} (hn : n < 2 ^ 31) (h0 : 0 ≤ i) (h1 : i < nI n) : ∃ j, j < n ∧ i = nI j := by
  obtain ⟨j, hj, rfl⟩ := nI_of (Int32.not_lt.mpr h0)
  exact ⟨j, (nI_ltI hj hn).mp h1, rfl⟩
theorem ixle {i : Int32} {n : Nat} (hn : n < 2 ^ 31) (h0 : 0 ≤ i) (h1 : i ≤ nI n) : ∃ j, j ≤ n ∧ i = nI j := by
  obtain ⟨j, hj, rfl⟩ := nI_of (Int32.not_lt.mpr h0)
  exact ⟨j, (nI_leI hj hn).mp h1, rfl⟩
theorem ix2 {i : Int32} (h0 : 0 ≤ i) (h1 : i < 2) : ∃ j, j < 2 ∧ i = nI j := ix (n := 2) (by omega) h0 h1
def isC (N : Nat) (c : Int32) : Prop := 0 ≤ c ∧ c < nI N
def isNd (N : Nat) (c : Int32) : Prop := 0 ≤ c ∧ c ≤ nI N
def isB (b : Int32) : Prop := 0 ≤ b ∧ b < 2
def lsA (A : AS) (j : Nat) : Int32 := sv A 29 j + 8 * sv A 30 j + 64 * sv A 31 j + 512 * sv A 32 j + 1024 * sv A 33 j + (if sv A 34 j = 0 then 0 else 8192) + (if sv A 35 j = 0 then 0 else 16384)
section Pub1
variable {N : Nat} {Y : Nat → Nat} {bd : Nat × Nat × Nat} {hs : List Nat} {σ : PS} {A : AS} {f : Nat → Nat} {m : Nat} {g : Nat → Nat} {rf : Nat → Nat → Nat} {P : Option PV → PS → Prop}
theorem sp_TM_letters (h : CRx N Y bd hs σ A f m g rf) (hP : P (some (.inl (nI (ln A)))) σ) : Ctr m_TM_letters 3 [.inr (Y 0)] σ P := by
  obtain ⟨a0, ⟨b1, b2, b3, b4, b5, b6, b7, b8, b9⟩, -⟩ := h.1
  have t5 := (h.1.2.2.2.2.2.2.1).1
  refine Ctr.of y_TM_letters (Nat.le_of_ble_eq_true rfl) ?_
  refine p_aload_n e_TM_letters_0 rfl ?_
  refine p_gRv 457 e_TM_letters_1 f_TM_67 rfl rfl (by assumption) b9 ?_
  refine p_inv (ci := 4) (d' := 2) [] _ e_TM_letters_4 c_TM_170 k_Mail_size i_Mail_size s_Mail_size rfl rfl (by assumption) rfl rfl (Nat.le_of_ble_eq_true rfl) (Nat.le_of_ble_eq_true rfl) ?_
  refine sp_Mail_size h ?_
  refine p_iret e_TM_letters_7 (rv_i ?_)
  exact hP
theorem sp_TM_letter {i : Int32} (h : CRx N Y bd hs σ A f m g rf) (k1 : ∀ j, j < ln A → i = nI j → P (some (.inl (lsA A j))) σ) (k0 : ¬ (0 ≤ i ∧ i < nI (ln A)) → P (some (.inl (-1))) σ) : Ctr m_TM_letter 5 [.inr (Y 0), .inl i] σ P := by
  obtain ⟨a0, ⟨b1, b2, b3, b4, b5, b6, b7, b8, b9⟩, -⟩ := h.1
  have t5 := (h.1.2.2.2.2.2.2.1).1
  have hle := h.2.2.2.2.2.1.2.2.2.2.2.2.2.2.2
  refine Ctr.of y_TM_letter (Nat.le_of_ble_eq_true rfl) ?_
  refine p_aload_n e_TM_letter_0 rfl ?_
  refine p_gRv 457 e_TM_letter_1 f_TM_67 rfl rfl (by assumption) b9 ?_
  refine p_iload_n e_TM_letter_4 rfl ?_
  refine p_inv (ci := 4) (d' := 2) [_] _ e_TM_letter_5 c_TM_107 k_Mail_has i_Mail_has s_Mail_has rfl rfl (by assumption) rfl rfl (Nat.le_of_ble_eq_true rfl) (Nat.le_of_ble_eq_true rfl) ?_
  refine sp_Mail_has h (fun y1 y2 => ?_) (fun y => ?_)
  · refine p_if_ne (tgt := 13) e_TM_letter_8 (by decide) (fun _ => ?_) (fun hx => absurd hx ((by decide)))
    obtain ⟨j, hj, rfl⟩ := ix (by omega) y1 y2
    refine p_aload_n e_TM_letter_13 rfl ?_
    refine p_gRv 457 e_TM_letter_14 f_TM_67 rfl rfl (by assumption) b9 ?_
    refine p_iload_n e_TM_letter_17 rfl ?_
    refine p_inv (ci := 4) (d' := 4) [_] _ e_TM_letter_18 c_TM_174 k_Mail_at i_Mail_at s_Mail_at rfl rfl (by assumption) rfl rfl (Nat.le_of_ble_eq_true rfl) (Nat.le_of_ble_eq_true rfl) ?_
    refine sp_Mail_at h hj ?_
    obtain ⟨tl, l1, l2, l3, l4, l5, l6, l7, l8, l9, l10, l11⟩ := h.2.2.2.2.2.1.2.2.1 j hj
    refine p_inv (ci := 3) (d' := 1) [] _ e_TM_letter_21 c_TM_177 k_Letter_sum i_Letter_sum s_Letter_sum rfl rfl (tl) rfl rfl (Nat.le_of_ble_eq_true rfl) (Nat.le_of_ble_eq_true rfl) ?_
    refine sp_Letter_sum tl ?_
    rw [l1, l2, l3, l4, l5, l6, l7]
    refine p_iret e_TM_letter_24 (rv_i ?_)
    exact k1 j hj rfl
  · refine p_if_ne (tgt := 13) e_TM_letter_8 (by decide) (fun hx => absurd (rfl) hx) (fun _ => ?_)
    refine p_iconst (x := (-1)) e_TM_letter_11 (by decide) ?_
    refine p_iret e_TM_letter_12 (rv_i ?_)
    exact k0 y
set_option maxHeartbeats 4000000 in
theorem sp_TM_tokens {x b : Int32} (h : CRx N Y bd hs σ A f m g rf) (k1 : ∀ x' b', x' ≤ N → b' < 2 → x = nI x' → b = nI b' → P (some (.inl (sv A 5 (2 * x' + b') + (if sv A 6 (2 * x' + b') = 0 then 0 else 8) + (if sv A 7 (2 * x' + b') = 0 then 0 else 16)))) σ) (k0 : ¬ (isNd N x ∧ isB b) → P (some (.inl (-1))) σ) : Ctr m_TM_tokens 2 [.inr (Y 0), .inl x, .inl b] σ P := by
  obtain ⟨a0, ⟨b1, b2, b3, b4, b5, b6, b7, b8, b9⟩, -⟩ := h.1
  have no : ¬ (isNd N x ∧ isB b) → Wp m_TM_tokens 2 15 (largs 0 [.inr (Y 0), .inl x, .inl b]) [] σ (fun v σ' => RV m_TM_tokens.2.2.2 v ∧ P v σ') := by
    intro hy
    refine p_iconst (x := (-1)) e_TM_tokens_15 (by decide) ?_
    refine p_iret e_TM_tokens_16 (rv_i ?_)
    exact k0 hy
  refine Ctr.of y_TM_tokens (Nat.le_of_ble_eq_true rfl) ?_
  refine p_aload_n e_TM_tokens_0 rfl ?_
  refine p_iload_n e_TM_tokens_1 rfl ?_
  refine p_inv (ci := 7) (d' := 1) [_] _ e_TM_tokens_2 c_TM_180 k_TM_isNode i_TM_isNode s_TM_isNode rfl rfl (by assumption) rfl rfl (Nat.le_of_ble_eq_true rfl) (Nat.le_of_ble_eq_true rfl) ?_
  refine sp_isNode b1 (fun y1 y2 => ?_) (fun y => ?_)
  · refine p_if_eq (tgt := 15) e_TM_tokens_5 (by decide) (fun hx => absurd hx ((by decide))) (fun _ => ?_)
    rw [b3] at y2
    refine p_iload_n e_TM_tokens_8 rfl ?_
    refine p_stat (d' := 1) [_] _ e_TM_tokens_9 c_TM_75 k_TM_isBlock t_TM_isBlock rfl rfl (Nat.le_of_ble_eq_true rfl) (Nat.le_of_ble_eq_true rfl) ?_
    refine sp_isBlock (fun z1 z2 => ?_) (fun z => ?_)
    · refine p_if_ne (tgt := 17) e_TM_tokens_12 (by decide) (fun _ => ?_) (fun hx => absurd hx ((by decide)))
      obtain ⟨x', hx, rfl⟩ := ixle (by omega) y1 y2
      obtain ⟨b', hb, rfl⟩ := ix2 z1 z2
      have hi : 2 * x' + b' < 2 * N + 2 := by omega
      have ts : tg σ (Y (100 + (2 * x' + b'))) = 7 := h.1.sh hi
      have v5 := h.2.2.1.1 _ hi
      have v6 := h.2.2.1.2.1 _ hi
      have v7 := h.2.2.1.2.2.1 _ hi
      have kk := k1 x' b' hx hb rfl rfl
      refine p_aload_n e_TM_tokens_17 rfl ?_
      refine p_iload_n e_TM_tokens_18 rfl ?_
      refine p_iload_n e_TM_tokens_19 rfl ?_
      refine p_inv (ci := 7) (d' := 1) [_, _] _ e_TM_tokens_20 c_TM_159 k_TM_share i_TM_share s_TM_share rfl rfl (by assumption) rfl rfl (Nat.le_of_ble_eq_true rfl) (Nat.le_of_ble_eq_true rfl) ?_
      refine h.1.share hx hb ?_
      refine p_astore_n e_TM_tokens_23 (by decide) ?_
      refine p_aload_n e_TM_tokens_24 rfl ?_
      refine p_gIv 384 e_TM_tokens_25 f_TM_54 rfl rfl (by assumption) v5 ?_
      refine p_aload_n e_TM_tokens_28 rfl ?_
      refine p_gIv 385 e_TM_tokens_29 f_TM_57 rfl rfl (by assumption) v6 ?_
      refine p_if_eq (tgt := 40) e_TM_tokens_32 (by decide) (fun h32 => ?_) (fun h32 => ?_)
      · rw [if_pos h32] at kk
        refine p_iconst (x := 0) e_TM_tokens_40 (by decide) ?_
        refine p_iadd e_TM_tokens_41 ?_
        refine p_aload_n e_TM_tokens_42 rfl ?_
        refine p_gIv 386 e_TM_tokens_43 f_TM_61 rfl rfl (by assumption) v7 ?_
        refine p_if_eq (tgt := 54) e_TM_tokens_46 (by decide) (fun h46 => ?_) (fun h46 => ?_)
        · rw [if_pos h46] at kk
          refine p_iconst (x := 0) e_TM_tokens_54 (by decide) ?_
          refine p_iadd e_TM_tokens_55 ?_
          refine p_iret e_TM_tokens_56 (rv_i ?_)
          exact kk
        · rw [if_neg h46] at kk
          refine p_bipush (x := 16) e_TM_tokens_49 (by decide) ?_
          refine p_goto (tgt := 55) e_TM_tokens_51 (by decide) ?_
          refine p_iadd e_TM_tokens_55 ?_
          refine p_iret e_TM_tokens_56 (rv_i ?_)
          exact kk
      · rw [if_neg h32] at kk
        refine p_bipush (x := 8) e_TM_tokens_35 (by decide) ?_
        refine p_goto (tgt := 41) e_TM_tokens_37 (by decide) ?_
        refine p_iadd e_TM_tokens_41 ?_
        refine p_aload_n e_TM_tokens_42 rfl ?_
        refine p_gIv 386 e_TM_tokens_43 f_TM_61 rfl rfl (by assumption) v7 ?_
        refine p_if_eq (tgt := 54) e_TM_tokens_46 (by decide) (fun h46 => ?_) (fun h46 => ?_)
        · rw [if_pos h46] at kk
          refine p_iconst (x := 0) e_TM_tokens_54 (by decide) ?_
          refine p_iadd e_TM_tokens_55 ?_
          refine p_iret e_TM_tokens_56 (rv_i ?_)
          exact kk
        · rw [if_neg h46] at kk
          refine p_bipush (x := 16) e_TM_tokens_49 (by decide) ?_
          refine p_goto (tgt := 55) e_TM_tokens_51 (by decide) ?_
          refine p_iadd e_TM_tokens_55 ?_
          refine p_iret e_TM_tokens_56 (rv_i ?_)
          exact kk
    · refine p_if_ne (tgt := 17) e_TM_tokens_12 (by decide) (fun hx => absurd (rfl) hx) (fun _ => ?_)
      exact no (fun q => z q.2)
  · refine p_if_eq (tgt := 15) e_TM_tokens_5 (by decide) (fun _ => ?_) (fun hx => absurd (rfl) hx)
    rw [b3] at y
    exact no (fun q => y q.1)
set_option maxHeartbeats 4000000 in
theorem sp_TM_data {x b : Int32} (h : CRx N Y bd hs σ A f m g rf) (k1 : ∀ x' b', x' ≤ N → b' < 2 → x = nI x' → b = nI b' → P (some (.inl (if sv A 7 (2 * x' + b') = 0 then 0 else sv A 8 (2 * x' + b')))) σ) (k0 : ¬ (isNd N x ∧ isB b) → P (some (.inl 0)) σ) : Ctr m_TM_data 2 [.inr (Y 0), .inl x, .inl b] σ P := by
  obtain ⟨a0, ⟨b1, b2, b3, b4, b5, b6, b7, b8, b9⟩, -⟩ := h.1
  have no : ¬ (isNd N x ∧ isB b) → Wp m_TM_data 2 15 (largs 0 [.inr (Y 0), .inl x, .inl b]) [] σ (fun v σ' => RV m_TM_data.2.2.2 v ∧ P v σ') := by
    intro hy
    refine p_iconst (x := 0) e_TM_data_15 (by decide) ?_
    refine p_iret e_TM_data_16 (rv_i ?_)
    exact k0 hy
  refine Ctr.of y_TM_data (Nat.le_of_ble_eq_true rfl) ?_
  refine p_aload_n e_TM_data_0 rfl ?_
  refine p_iload_n e_TM_data_1 rfl ?_
  refine p_inv (ci := 7) (d' := 1) [_] _ e_TM_data_2 c_TM_180 k_TM_isNode i_TM_isNode s_TM_isNode rfl rfl (by assumption) rfl rfl (Nat.le_of_ble_eq_true rfl) (Nat.le_of_ble_eq_true rfl) ?_
  refine sp_isNode b1 (fun y1 y2 => ?_) (fun y => ?_)
  · refine p_if_eq (tgt := 15) e_TM_data_5 (by decide) (fun hx => absurd hx ((by decide))) (fun _ => ?_)
    rw [b3] at y2
    refine p_iload_n e_TM_data_8 rfl ?_
    refine p_stat (d' := 1) [_] _ e_TM_data_9 c_TM_75 k_TM_isBlock t_TM_isBlock rfl rfl (Nat.le_of_ble_eq_true rfl) (Nat.le_of_ble_eq_true rfl) ?_
    refine sp_isBlock (fun z1 z2 => ?_) (fun z => ?_)
    · refine p_if_ne (tgt := 17) e_TM_data_12 (by decide) (fun _ => ?_) (fun hx => absurd hx ((by decide)))
      obtain ⟨x', hx, rfl⟩ := ixle (by omega) y1 y2
      obtain ⟨b', hb, rfl⟩ := ix2 z1 z2
      have hi : 2 * x' + b' < 2 * N + 2 := by omega
      have ts : tg σ (Y (100 + (2 * x' + b'))) = 7 := h.1.sh hi
      have v7 := h.2.2.1.2.2.1 _ hi
      have v8 := h.2.2.1.2.2.2.1 _ hi
      have kk := k1 x' b' hx hb rfl rfl
      refine p_aload_n e_TM_data_17 rfl ?_
      refine p_iload_n e_TM_data_18 rfl ?_
      refine p_iload_n e_TM_data_19 rfl ?_
      refine p_inv (ci := 7) (d' := 1) [_, _] _ e_TM_data_20 c_TM_159 k_TM_share i_TM_share s_TM_share rfl rfl (by assumption) rfl rfl (Nat.le_of_ble_eq_true rfl) (Nat.le_of_ble_eq_true rfl) ?_
      refine h.1.share hx hb ?_
      refine p_astore_n e_TM_data_23 (by decide) ?_
      refine p_aload_n e_TM_data_24 rfl ?_
      refine p_gIv 386 e_TM_data_25 f_TM_61 rfl rfl (by assumption) v7 ?_
      refine p_if_eq (tgt := 38) e_TM_data_28 (by decide) (fun h28 => ?_) (fun h28 => ?_)
      · rw [if_pos h28] at kk
        refine p_iconst (x := 0) e_TM_data_38 (by decide) ?_
        refine p_iret e_TM_data_39 (rv_i ?_)
        exact kk
      · rw [if_neg h28] at kk
        refine p_aload_n e_TM_data_31 rfl ?_
        refine p_gIv 387 e_TM_data_32 f_TM_183 rfl rfl (by assumption) v8 ?_
        refine p_goto (tgt := 39) e_TM_data_35 (by decide) ?_
        refine p_iret e_TM_data_39 (rv_i ?_)
        exact kk
    · refine p_if_ne (tgt := 17) e_TM_data_12 (by decide) (fun hx => absurd (rfl) hx) (fun _ => ?_)
      exact no (fun q => z q.2)
  · refine p_if_eq (tgt := 15) e_TM_data_5 (by decide) (fun _ => ?_) (fun hx => absurd (rfl) hx)
    rw [b3] at y
    exact no (fun q => y q.1)
set_option maxHeartbeats 4000000 in
theorem sp_TM_knows {x b : Int32} (h : CRx N Y bd hs σ A f m g rf) (k1 : ∀ x' b', x' ≤ N → b' < 2 → x = nI x' → b = nI b' → P (some (.inl (if sv A 9 (2 * x' + b') = -1 then -1 else sv A 9 (2 * x' + b') + (if sv A 10 (2 * x' + b') = 0 then 0 else 8)))) σ) (k0 : ¬ (isNd N x ∧ isB b) → P (some (.inl (-2))) σ) : Ctr m_TM_knows 2 [.inr (Y 0), .inl x, .inl b] σ P := by
  obtain ⟨a0, ⟨b1, b2, b3, b4, b5, b6, b7, b8, b9⟩, -⟩ := h.1
  have no : ¬ (isNd N x ∧ isB b) → Wp m_TM_knows 2 15 (largs 0 [.inr (Y 0), .inl x, .inl b]) [] σ (fun v σ' => RV m_TM_knows.2.2.2 v ∧ P v σ') := by
    intro hy
    refine p_bipush (x := (-2)) e_TM_knows_15 (by decide) ?_
    refine p_iret e_TM_knows_17 (rv_i ?_)
    exact k0 hy
  refine Ctr.of y_TM_knows (Nat.le_of_ble_eq_true rfl) ?_
  refine p_aload_n e_TM_knows_0 rfl ?_
  refine p_iload_n e_TM_knows_1 rfl ?_
  refine p_inv (ci := 7) (d' := 1) [_] _ e_TM_knows_2 c_TM_180 k_TM_isNode i_TM_isNode s_TM_isNode rfl rfl (by assumption) rfl rfl (Nat.le_of_ble_eq_true rfl) (Nat.le_of_ble_eq_true rfl) ?_
  refine sp_isNode b1 (fun y1 y2 => ?_) (fun y => ?_)
  · refine p_if_eq (tgt := 15) e_TM_knows_5 (by decide) (fun hx => absurd hx ((by decide))) (fun _ => ?_)
    rw [b3] at y2
    refine p_iload_n e_TM_knows_8 rfl ?_
    refine p_stat (d' := 1) [_] _ e_TM_knows_9 c_TM_75 k_TM_isBlock t_TM_isBlock rfl rfl (Nat.le_of_ble_eq_true rfl) (Nat.le_of_ble_eq_true rfl) ?_
    refine sp_isBlock (fun z1 z2 => ?_) (fun z => ?_)
    · refine p_if_ne (tgt := 18) e_TM_knows_12 (by decide) (fun _ => ?_) (fun hx => absurd hx ((by decide)))
      obtain ⟨x', hx, rfl⟩ := ixle (by omega) y1 y2
      obtain ⟨b', hb, rfl⟩ := ix2 z1 z2
      have hi : 2 * x' + b' < 2 * N + 2 := by omega
      have ts : tg σ (Y (100 + (2 * x' + b'))) = 7 := h.1.sh hi
      have v9 := h.2.2.1.2.2.2.2.1 _ hi
      have v10 := h.2.2.1.2.2.2.2.2.1 _ hi
      have kk := k1 x' b' hx hb rfl rfl
      refine p_aload_n e_TM_knows_18 rfl ?_
      refine p_iload_n e_TM_knows_19 rfl ?_
      refine p_iload_n e_TM_knows_20 rfl ?_
      refine p_inv (ci := 7) (d' := 1) [_, _] _ e_TM_knows_21 c_TM_159 k_TM_share i_TM_share s_TM_share rfl rfl (by assumption) rfl rfl (Nat.le_of_ble_eq_true rfl) (Nat.le_of_ble_eq_true rfl) ?_
      refine h.1.share hx hb ?_
      refine p_astore_n e_TM_knows_24 (by decide) ?_
      refine p_aload_n e_TM_knows_25 rfl ?_
      refine p_gIv 388 e_TM_knows_26 f_TM_186 rfl rfl (by assumption) v9 ?_
      refine p_iconst (x := (-1)) e_TM_knows_29 (by decide) ?_
      refine p_icmp_ne (tgt := 35) e_TM_knows_30 (by decide) (fun h30 => ?_) (fun h30 => ?_)
      · rw [if_neg h30] at kk
        refine p_aload_n e_TM_knows_35 rfl ?_
        refine p_gIv 388 e_TM_knows_36 f_TM_186 rfl rfl (by assumption) v9 ?_
        refine p_aload_n e_TM_knows_39 rfl ?_
        refine p_gIv 389 e_TM_knows_40 f_TM_189 rfl rfl (by assumption) v10 ?_
        refine p_if_eq (tgt := 51) e_TM_knows_43 (by decide) (fun h43 => ?_) (fun h43 => ?_)
        · rw [if_pos h43] at kk
          refine p_iconst (x := 0) e_TM_knows_51 (by decide) ?_
          refine p_iadd e_TM_knows_52 ?_
          refine p_iret e_TM_knows_53 (rv_i ?_)
          exact kk
        · rw [if_neg h43] at kk
          refine p_bipush (x := 8) e_TM_knows_46 (by decide) ?_
          refine p_goto (tgt := 52) e_TM_knows_48 (by decide) ?_
          refine p_iadd e_TM_knows_52 ?_
          refine p_iret e_TM_knows_53 (rv_i ?_)
          exact kk
      · rw [if_pos h30] at kk
        refine p_iconst (x := (-1)) e_TM_knows_33 (by decide) ?_
        refine p_iret e_TM_knows_34 (rv_i ?_)
        exact kk
    · refine p_if_ne (tgt := 18) e_TM_knows_12 (by decide) (fun hx => absurd (rfl) hx) (fun _ => ?_)
      exact no (fun q => z q.2)
  · refine p_if_eq (tgt := 15) e_TM_knows_5 (by decide) (fun _ => ?_) (fun hx => absurd (rfl) hx)
    rw [b3] at y
    exact no (fun q => y q.1)
theorem sp_TM_row {b : Int32} (h : CRx N Y bd hs σ A f m g rf) (k1 : ∀ b', b' < 2 → b = nI b' → P (some (.inl (nI (rn A b')))) σ) (k0 : ¬ isB b → P (some (.inl (-1))) σ) : Ctr m_TM_row 2 [.inr (Y 0), .inl b] σ P := by
  obtain ⟨a0, ⟨b1, b2, b3, b4, b5, b6, b7, b8, b9⟩, -, -, ⟨d1, d2, d3⟩, -⟩ := h.1
  refine Ctr.of y_TM_row (Nat.le_of_ble_eq_true rfl) ?_
  refine p_iload_n e_TM_row_0 rfl ?_
  refine p_stat (d' := 1) [_] _ e_TM_row_1 c_TM_75 k_TM_isBlock t_TM_isBlock rfl rfl (Nat.le_of_ble_eq_true rfl) (Nat.le_of_ble_eq_true rfl) ?_
  refine sp_isBlock (fun z1 z2 => ?_) (fun z => ?_)
  · refine p_if_eq (tgt := 22) e_TM_row_4 (by decide) (fun hx => absurd hx ((by decide))) (fun _ => ?_)
    obtain ⟨b', hb, rfl⟩ := ix2 z1 z2
    have td : tg σ (Y (300 + b')) = 3 := h.1.dk hb
    obtain ⟨hA, -⟩ := h.2.2.2.2.2.2.1 b' hb
    have tl := hA.1
    refine p_aload_n e_TM_row_7 rfl ?_
    refine p_gRv 455 e_TM_row_8 f_TM_49 rfl rfl (by assumption) b7 ?_
    refine p_iload_n e_TM_row_11 rfl ?_
    refine p_aaldv e_TM_row_12 (ti := 5) (n := b') (v := Y (300 + b')) (by decide) d1 rfl (by omega) (by omega) (d3 b' hb).1 ?_
    refine p_gRv 128 e_TM_row_13 f_TM_192 rfl rfl (by assumption) (d3 b' hb).2.2 ?_
    refine p_inv (ci := 0) (d' := 1) [] _ e_TM_row_16 c_TM_196 k_AL_size i_AL_size s_AL_size rfl rfl (by assumption) rfl rfl (Nat.le_of_ble_eq_true rfl) (Nat.le_of_ble_eq_true rfl) ?_
    refine sp_AL_size tl ?_
    rw [hA.2.1]
    refine p_goto (tgt := 23) e_TM_row_19 (by decide) ?_
    refine p_iret e_TM_row_23 (rv_i ?_)
    exact k1 b' hb rfl
  · refine p_if_eq (tgt := 22) e_TM_row_4 (by decide) (fun _ => ?_) (fun hx => absurd (rfl) hx)
    refine p_iconst (x := (-1)) e_TM_row_22 (by decide) ?_
    refine p_iret e_TM_row_23 (rv_i ?_)
    exact k0 z
theorem sp_TM_state {c : Int32} (h : CRx N Y bd hs σ A f m g rf) (k1 : ∀ c', c' < N → c = nI c' → P (some (.inl (if sv A 12 c' = 0 then 0 else 1 + sv A 18 c' + (if sv A 14 c' = 0 then 0 else 8)))) σ) (k0 : ¬ isC N c → P (some (.inl (-1))) σ) : Ctr m_TM_state 2 [.inr (Y 0), .inl c] σ P := by
  obtain ⟨a0, ⟨b1, b2, b3, b4, b5, b6, b7, b8, b9⟩, -, ⟨d1, d2, d3⟩, -⟩ := h.1
  refine Ctr.of y_TM_state (Nat.le_of_ble_eq_true rfl) ?_
  refine p_aload_n e_TM_state_0 rfl ?_
  refine p_iload_n e_TM_state_1 rfl ?_
  refine p_inv (ci := 7) (d' := 1) [_] _ e_TM_state_2 c_TM_71 k_TM_isCore i_TM_isCore s_TM_isCore rfl rfl (by assumption) rfl rfl (Nat.le_of_ble_eq_true rfl) (Nat.le_of_ble_eq_true rfl) ?_
  refine sp_isCore b1 (fun y1 y2 => ?_) (fun y => ?_)
  · refine p_if_ne (tgt := 10) e_TM_state_5 (by decide) (fun _ => ?_) (fun hx => absurd hx ((by decide)))
    rw [b2] at y2
    obtain ⟨c', hc, rfl⟩ := ix (by omega) y1 y2
    have tc : tg σ (Y (200 + c')) = 2 := h.1.co hc
    have v12 := h.2.2.2.1.2.1 c' hc
    have v18 := h.2.2.2.1.2.2.2.2.2.1 c' hc
    have v14 := h.2.2.2.1.2.2.2.2.2.2.2.1 c' hc
    have kk := k1 c' hc rfl
    refine p_aload_n e_TM_state_10 rfl ?_
    refine p_gRv 454 e_TM_state_11 f_TM_38 rfl rfl (by assumption) b6 ?_
    refine p_iload_n e_TM_state_14 rfl ?_
    refine p_aaldv e_TM_state_15 (ti := 4) (n := c') (v := Y (200 + c')) (by decide) d1 rfl (by omega) (by omega) (d3 c' hc).1 ?_
    refine p_astore_n e_TM_state_16 (by decide) ?_
    refine p_aload_n e_TM_state_17 rfl ?_
    refine p_gIv 65 e_TM_state_18 f_TM_78 rfl rfl (by assumption) v12 ?_
    refine p_if_ne (tgt := 26) e_TM_state_21 (by decide) (fun h21 => ?_) (fun h21 => ?_)
    · rw [if_neg h21] at kk
      refine p_iconst (x := 1) e_TM_state_26 (by decide) ?_
      refine p_aload_n e_TM_state_27 rfl ?_
      refine p_gIv 69 e_TM_state_28 f_TM_199 rfl rfl (by assumption) v18 ?_
      refine p_iadd e_TM_state_31 ?_
      refine p_aload_n e_TM_state_32 rfl ?_
      refine p_gIv 71 e_TM_state_33 f_TM_202 rfl rfl (by assumption) v14 ?_
      refine p_if_eq (tgt := 44) e_TM_state_36 (by decide) (fun h36 => ?_) (fun h36 => ?_)
      · rw [if_pos h36] at kk
        refine p_iconst (x := 0) e_TM_state_44 (by decide) ?_
        refine p_iadd e_TM_state_45 ?_
        refine p_iret e_TM_state_46 (rv_i ?_)
        exact kk
      · rw [if_neg h36] at kk
        refine p_bipush (x := 8) e_TM_state_39 (by decide) ?_
        refine p_goto (tgt := 45) e_TM_state_41 (by decide) ?_
        refine p_iadd e_TM_state_45 ?_
        refine p_iret e_TM_state_46 (rv_i ?_)
        exact kk
    · rw [if_pos h21] at kk
      refine p_iconst (x := 0) e_TM_state_24 (by decide) ?_
      refine p_iret e_TM_state_25 (rv_i ?_)
      exact kk
  · refine p_if_ne (tgt := 10) e_TM_state_5 (by decide) (fun hx => absurd (rfl) hx) (fun _ => ?_)
    rw [b2] at y
    refine p_iconst (x := (-1)) e_TM_state_8 (by decide) ?_
    refine p_iret e_TM_state_9 (rv_i ?_)
    exact k0 y
theorem sp_TM_ended {c : Int32} (h : CRx N Y bd hs σ A f m g rf) (k1 : ∀ c', c' < N → c = nI c' → P (some (.inl (sv A 20 c'))) σ) (k0 : ¬ isC N c → P (some (.inl (-1))) σ) : Ctr m_TM_ended 2 [.inr (Y 0), .inl c] σ P := by
  obtain ⟨a0, ⟨b1, b2, b3, b4, b5, b6, b7, b8, b9⟩, -, ⟨d1, d2, d3⟩, -⟩ := h.1
  refine Ctr.of y_TM_ended (Nat.le_of_ble_eq_true rfl) ?_
  refine p_aload_n e_TM_ended_0 rfl ?_
  refine p_iload_n e_TM_ended_1 rfl ?_
  refine p_inv (ci := 7) (d' := 1) [_] _ e_TM_ended_2 c_TM_71 k_TM_isCore i_TM_isCore s_TM_isCore rfl rfl (by assumption) rfl rfl (Nat.le_of_ble_eq_true rfl) (Nat.le_of_ble_eq_true rfl) ?_
  refine sp_isCore b1 (fun y1 y2 => ?_) (fun y => ?_)
  · refine p_if_eq (tgt := 20) e_TM_ended_5 (by decide) (fun hx => absurd hx ((by decide))) (fun _ => ?_)
    rw [b2] at y2
    obtain ⟨c', hc, rfl⟩ := ix (by omega) y1 y2
    have tc : tg σ (Y (200 + c')) = 2 := h.1.co hc
    have v20 := h.2.2.2.1.2.2.2.2.2.2.2.2.1 c' hc
    refine p_aload_n e_TM_ended_8 rfl ?_
    refine p_gRv 454 e_TM_ended_9 f_TM_38 rfl rfl (by assumption) b6 ?_
    refine p_iload_n e_TM_ended_12 rfl ?_
    refine p_aaldv e_TM_ended_13 (ti := 4) (n := c') (v := Y (200 + c')) (by decide) d1 rfl (by omega) (by omega) (d3 c' hc).1 ?_
    refine p_gIv 72 e_TM_ended_14 f_TM_205 rfl rfl (by assumption) v20 ?_
    refine p_goto (tgt := 21) e_TM_ended_17 (by decide) ?_
    refine p_iret e_TM_ended_21 (rv_i ?_)
    exact k1 c' hc rfl
  · refine p_if_eq (tgt := 20) e_TM_ended_5 (by decide) (fun _ => ?_) (fun hx => absurd (rfl) hx)
    rw [b2] at y
    refine p_iconst (x := (-1)) e_TM_ended_20 (by decide) ?_
    refine p_iret e_TM_ended_21 (rv_i ?_)
    exact k0 y
theorem sp_TM_result {c : Int32} (h : CRx N Y bd hs σ A f m g rf) (k1 : ∀ c', c' < N → c = nI c' → P (some (.inl (sv A 21 c'))) σ) (k0 : ¬ isC N c → P (some (.inl 0)) σ) : Ctr m_TM_result 2 [.inr (Y 0), .inl c] σ P := by
  obtain ⟨a0, ⟨b1, b2, b3, b4, b5, b6, b7, b8, b9⟩, -, ⟨d1, d2, d3⟩, -⟩ := h.1
  refine Ctr.of y_TM_result (Nat.le_of_ble_eq_true rfl) ?_
  refine p_aload_n e_TM_result_0 rfl ?_
  refine p_iload_n e_TM_result_1 rfl ?_
  refine p_inv (ci := 7) (d' := 1) [_] _ e_TM_result_2 c_TM_71 k_TM_isCore i_TM_isCore s_TM_isCore rfl rfl (by assumption) rfl rfl (Nat.le_of_ble_eq_true rfl) (Nat.le_of_ble_eq_true rfl) ?_
  refine sp_isCore b1 (fun y1 y2 => ?_) (fun y => ?_)
  · refine p_if_eq (tgt := 20) e_TM_result_5 (by decide) (fun hx => absurd hx ((by decide))) (fun _ => ?_)
    rw [b2] at y2
    obtain ⟨c', hc, rfl⟩ := ix (by omega) y1 y2
    have tc : tg σ (Y (200 + c')) = 2 := h.1.co hc
    have v21 := h.2.2.2.1.2.2.2.2.2.2.2.2.2 c' hc
    refine p_aload_n e_TM_result_8 rfl ?_
    refine p_gRv 454 e_TM_result_9 f_TM_38 rfl rfl (by assumption) b6 ?_
    refine p_iload_n e_TM_result_12 rfl ?_
    refine p_aaldv e_TM_result_13 (ti := 4) (n := c') (v := Y (200 + c')) (by decide) d1 rfl (by omega) (by omega) (d3 c' hc).1 ?_
    refine p_gIv 73 e_TM_result_14 f_TM_208 rfl rfl (by assumption) v21 ?_
    refine p_goto (tgt := 21) e_TM_result_17 (by decide) ?_
    refine p_iret e_TM_result_21 (rv_i ?_)
    exact k1 c' hc rfl
  · refine p_if_eq (tgt := 20) e_TM_result_5 (by decide) (fun _ => ?_) (fun hx => absurd (rfl) hx)
    rw [b2] at y
    refine p_iconst (x := 0) e_TM_result_20 (by decide) ?_
    refine p_iret e_TM_result_21 (rv_i ?_)
    exact k0 y
end Pub1
end
section
/-! the public methods: memory, evict, issue, tick, deliver -/
/-- an access begins -/
def bgA (A : AS) (c : Nat) (w b v : Int32) : AS := set1 (set1 (set1 (set1 (set1 (set1 (set1 A 17 c (sv A 17 c + 1)) 12 c 1) 13 c w) 15 c b) 16 c v) 18 c 0) 14 c 0
noncomputable def isT (N : Nat) (B : AS) (c b : Nat) : AS := @ite _ (ceA N B c b) (Classical.propDecidable _) (enA N B c b) (akA (set1 B 19 c (sv B 4 0 + sv B 3 0)) c (rwk B c) (nI b) (N + 1))
noncomputable def isA (N : Nat) (A : AS) (c b : Nat) (w v : Int32) : AS := isT N (bgA A c w (nI b) v) c b
/-- a unit of time, for the cores below c -/
noncomputable def tuA (N : Nat) (A : AS) : Nat → AS
  | 0 => A
  | c + 1 => if sv (tuA N A c) 12 c ≠ 0 ∧ sv (tuA N A c) 14 c = 0 ∧ sv (tuA N A c) 19 c = sv (tuA N A c) 4 0 then agA N (tuA N A c) c else tuA N A c
/-- k units of time -/
noncomputable def tiA (N : Nat) (A : AS) : Nat → AS
  | 0 => A
  | k + 1 => tuA N (set1 (tiA N A k) 4 0 (sv (tiA N A k) 4 0 + 1)) N
section Pub2
variable {N : Nat} {Y : Nat → Nat} {bd : Nat × Nat × Nat} {hs : List Nat} {σ : PS} {A : AS} {f : Nat → Nat} {m : Nat} {g : Nat → Nat} {rf : Nat → Nat → Nat} {P : Option PV → PS → Prop} {eb eo : Nat → Nat}
theorem sv_bgA {c k j : Nat} {w b v : Int32} : sv (bgA A c w b v) k j = if j = c then (if k = 14 then 0 else if k = 18 then 0 else if k = 16 then v else if k = 15 then b else if k = 13 then w else if k = 12 then 1 else if k = 17 then sv A 17 c + 1 else sv A k j) else sv A k j := by
  unfold bgA
  simp only [sv_set1]
  by_cases e : j = c
  · simp [e]
  · simp [e]
theorem IV.bg (h : IV N A eb eo) {c b : Nat} {w v : Int32} (hb : b < 2) (hw : bz w) : IV N (bgA A c w (nI b) v) eb eo := by
  refine ⟨h.1.cong rfl (fun k j hk => ?_), fun d hd => ?_, fun b' hb' => ⟨(h.2.2.1 b' hb').1, fun i hi => ?_⟩, fun b' hb' => ?_⟩
  · unfold rel at hk
    rw [sv_bgA]
    by_cases e : j = c
    · rw [if_pos e, if_neg (by omega), if_neg (by omega), if_neg (by omega), if_neg (by omega), if_neg (by omega), if_neg (by omega), if_neg (by omega)]
    · rw [if_neg e]
  · rw [sv_bgA, sv_bgA, sv_bgA, sv_bgA]
    by_cases e : d = c
    · simp [e]
      exact ⟨⟨b, hb, rfl⟩, Or.inr rfl, hw, Or.inl rfl⟩
    · simp [e]
      exact h.2.1 d hd
  · rw [sv_bgA, sv_bgA]
    simp
    exact (h.2.2.1 b' hb').2 i hi
  · rw [sv_bgA, sv_bgA]
    simp
    exact h.2.2.2 b' hb'
theorem CRx.bg {c : Nat} {w b v : Int32} (hc : c < N) (h : CRx N Y bd hs σ A f m g rf) : CRx N Y bd hs (pfi (pfi (pfi (pfi (pfi (pfi (pfi σ 64 (Y (200 + c)) (fi σ 64 (Y (200 + c)) + 1)) 65 (Y (200 + c)) 1) 66 (Y (200 + c)) w) 67 (Y (200 + c)) b) 68 (Y (200 + c)) v) 69 (Y (200 + c)) 0) 71 (Y (200 + c)) 0) (bgA A c w b v) f m g rf := by
  have e := h.2.2.2.1.1 c hc
  rw [e]
  exact cw_71 (cw_69 (cw_68 (cw_67 (cw_66 (cw_65 (cw_64 h hc) hc) hc) hc) hc) hc) hc
set_option maxHeartbeats 4000000 in
theorem sp_TM_memory {b : Int32} (hn : ln A ≤ 70) (h : CRx N Y bd hs σ A f m g rf)
    (k1 : ∀ b' x, b' < 2 → b = nI b' → x ≤ N → sv A 6 (2 * x + b') ≠ 0 → P (some (.inl (sv A 8 (2 * x + b')))) σ)
    (k2 : ∀ b' i, b' < 2 → b = nI b' → (∀ x, x ≤ N → sv A 6 (2 * x + b') = 0) → i < ln A → sv A 34 i ≠ 0 → sv A 32 i = b → P (some (.inl (sv A 36 i))) σ)
    (k3 : ∀ b', b' < 2 → b = nI b' → (∀ x, x ≤ N → sv A 6 (2 * x + b') = 0) → (∀ i, i < ln A → ¬ (sv A 34 i ≠ 0 ∧ sv A 32 i = b)) → P (some (.inl 0)) σ) (k0 : ¬ isB b → P (some (.inl 0)) σ) : Ctr m_TM_memory 5 [.inr (Y 0), .inl b] σ P := by
  obtain ⟨a0, ⟨b1, b2, b3, b4, b5, b6, b7, b8, b9⟩, -⟩ := h.1
  have t5 := (h.1.2.2.2.2.2.2.1).1
  refine Ctr.of y_TM_memory (Nat.le_of_ble_eq_true rfl) ?_
  refine p_iload_n e_TM_memory_0 rfl ?_
  refine p_stat (d' := 1) [_] _ e_TM_memory_1 c_TM_75 k_TM_isBlock t_TM_isBlock rfl rfl (Nat.le_of_ble_eq_true rfl) (Nat.le_of_ble_eq_true rfl) ?_
  refine sp_isBlock (fun z1 z2 => ?_) (fun z => ?_)
  · refine p_if_ne (tgt := 9) e_TM_memory_4 (by decide) (fun _ => ?_) (fun hx => absurd hx ((by decide)))
    obtain ⟨b', hb, rfl⟩ := ix2 z1 z2
    have loop2 : ∀ k i, i + k = ln A → (∀ x, x ≤ N → sv A 6 (2 * x + b') = 0) → (∀ j, j < i → ¬ (sv A 34 j ≠ 0 ∧ sv A 32 j = nI b')) → Wp m_TM_memory 5 46 [(2, .inl (nI i)), (0, .inr (Y 0)), (1, .inl (nI b'))] [] σ (fun v σ' => RV m_TM_memory.2.2.2 v ∧ P v σ') := by
      intro k
      induction k with
      | zero =>
        intro i hi hx hno
        refine p_iload_n e_TM_memory_46 rfl ?_
        refine p_aload_n e_TM_memory_47 rfl ?_
        refine p_gRv 457 e_TM_memory_48 f_TM_67 rfl rfl (by assumption) b9 ?_
        refine p_inv (ci := 4) (d' := 2) [] _ e_TM_memory_51 c_TM_170 k_Mail_size i_Mail_size s_Mail_size rfl rfl (by assumption) rfl rfl (Nat.le_of_ble_eq_true rfl) (Nat.le_of_ble_eq_true rfl) ?_
        refine sp_Mail_size h ?_
        refine p_icmp_ge (tgt := 92) e_TM_memory_54 (by decide) (fun _ => ?_) (fun hx => absurd (nI_le (by omega) (by omega)) hx)
        refine p_iconst (x := 0) e_TM_memory_92 (by decide) ?_
        refine p_iret e_TM_memory_93 (rv_i ?_)
        exact k3 b' hb rfl hx (fun j hj => hno j (by omega))
      | succ k ih =>
        intro i hi hx hno
        have hil : i < ln A := by omega
        obtain ⟨tl, l1, l2, l3, l4, l5, l6, l7, l8, -⟩ := h.2.2.2.2.2.1.2.2.1 i hil
        refine p_iload_n e_TM_memory_46 rfl ?_
        refine p_aload_n e_TM_memory_47 rfl ?_
        refine p_gRv 457 e_TM_memory_48 f_TM_67 rfl rfl (by assumption) b9 ?_
        refine p_inv (ci := 4) (d' := 2) [] _ e_TM_memory_51 c_TM_170 k_Mail_size i_Mail_size s_Mail_size rfl rfl (by assumption) rfl rfl (Nat.le_of_ble_eq_true rfl) (Nat.le_of_ble_eq_true rfl) ?_
        refine sp_Mail_size h ?_
        refine p_icmp_ge (tgt := 92) e_TM_memory_54 (by decide) (fun hx => absurd hx (nI_ge hil (by omega))) (fun _ => ?_)
        refine p_aload_n e_TM_memory_57 rfl ?_
        refine p_gRv 457 e_TM_memory_58 f_TM_67 rfl rfl (by assumption) b9 ?_
        refine p_iload_n e_TM_memory_61 rfl ?_
        refine p_inv (ci := 4) (d' := 4) [_] _ e_TM_memory_62 c_TM_174 k_Mail_at i_Mail_at s_Mail_at rfl rfl (by assumption) rfl rfl (Nat.le_of_ble_eq_true rfl) (Nat.le_of_ble_eq_true rfl) ?_
        refine sp_Mail_at h hil ?_
        have nxt : ¬ (sv A 34 i ≠ 0 ∧ sv A 32 i = nI b') → Wp m_TM_memory 5 86 [(2, .inl (nI i)), (0, .inr (Y 0)), (1, .inl (nI b'))] [] σ (fun v σ' => RV m_TM_memory.2.2.2 v ∧ P v σ') := by
          intro hy
          refine p_iinc e_TM_memory_86 rfl rfl (by decide) ?_
          refine p_goto (tgt := 46) e_TM_memory_89 (by decide) ?_
          refine Wp.lv2 (ih (i + 1) (by omega) hx (fun j hj => ?_)) ⟨congrArg (fun z => some (Sum.inl z)) (nI_1 i), rfl, rfl, trivial⟩
          by_cases e : j = i
          · subst e; exact hy
          · exact hno j (by omega)
        refine p_astore_n e_TM_memory_65 (by decide) ?_
        refine p_aload_n e_TM_memory_66 rfl ?_
        refine p_gIv 197 e_TM_memory_67 f_TM_211 rfl rfl (by assumption) l6 ?_
        refine p_if_eq (tgt := 86) e_TM_memory_70 (by decide) (fun h70 => ?_) (fun h70 => ?_)
        · exact Wp.lv2 (nxt (fun q => q.1 h70)) ⟨rfl, rfl, rfl, trivial⟩
        refine p_aload_n e_TM_memory_73 rfl ?_
        refine p_gIv 195 e_TM_memory_74 f_TM_122 rfl rfl (by assumption) l4 ?_
        refine p_iload_n e_TM_memory_77 rfl ?_
        refine p_icmp_ne (tgt := 86) e_TM_memory_78 (by decide) (fun h78 => ?_) (fun h78 => ?_)
        · exact Wp.lv2 (nxt (fun q => h78 q.2)) ⟨rfl, rfl, rfl, trivial⟩
        · refine p_aload_n e_TM_memory_81 rfl ?_
          refine p_gIv 199 e_TM_memory_82 f_TM_212 rfl rfl (by assumption) l8 ?_
          refine p_iret e_TM_memory_85 (rv_i ?_)
          exact k2 b' i hb rfl hx hil h70 h78
    have loop1 : ∀ k x, x + k = N + 1 → (∀ y, y < x → sv A 6 (2 * y + b') = 0) → Wp m_TM_memory 5 11 [(2, .inl (nI x)), (0, .inr (Y 0)), (1, .inl (nI b'))] [] σ (fun v σ' => RV m_TM_memory.2.2.2 v ∧ P v σ') := by
      intro k
      induction k with
      | zero =>
        intro x hx hno
        refine p_iload_n e_TM_memory_11 rfl ?_
        refine p_aload_n e_TM_memory_12 rfl ?_
        refine p_gIv 449 e_TM_memory_13 f_TM_23 rfl rfl (by assumption) b3 ?_
        refine p_icmp_gt (tgt := 44) e_TM_memory_16 (by decide) (fun _ => ?_) (fun hx => absurd (nI_lt (by omega) (by omega)) hx)
        refine p_iconst (x := 0) e_TM_memory_44 (by decide) ?_
        refine p_istore_n e_TM_memory_45 (by decide) ?_
        exact Wp.lv2 (loop2 (ln A) 0 (by omega) (fun y hy => hno y (by omega)) (fun j hj => by omega)) ⟨rfl, rfl, rfl, trivial⟩
      | succ k ih =>
        intro x hx hno
        have hi : 2 * x + b' < 2 * N + 2 := by omega
        have ts : tg σ (Y (100 + (2 * x + b'))) = 7 := h.1.sh hi
        have v6 := h.2.2.1.2.1 _ hi
        have v8 := h.2.2.1.2.2.2.1 _ hi
        refine p_iload_n e_TM_memory_11 rfl ?_
        refine p_aload_n e_TM_memory_12 rfl ?_
        refine p_gIv 449 e_TM_memory_13 f_TM_23 rfl rfl (by assumption) b3 ?_
        refine p_icmp_gt (tgt := 44) e_TM_memory_16 (by decide) (fun hx => absurd hx (nI_nlt (by omega) (by omega))) (fun _ => ?_)
        refine p_aload_n e_TM_memory_19 rfl ?_
        refine p_iload_n e_TM_memory_20 rfl ?_
        refine p_iload_n e_TM_memory_21 rfl ?_
        refine p_inv (ci := 7) (d' := 1) [_, _] _ e_TM_memory_22 c_TM_159 k_TM_share i_TM_share s_TM_share rfl rfl (by assumption) rfl rfl (Nat.le_of_ble_eq_true rfl) (Nat.le_of_ble_eq_true rfl) ?_
        refine h.1.share (by omega) hb ?_
        refine p_astore_n e_TM_memory_25 (by decide) ?_
        refine p_aload_n e_TM_memory_26 rfl ?_
        refine p_gIv 385 e_TM_memory_27 f_TM_57 rfl rfl (by assumption) v6 ?_
        refine p_if_eq (tgt := 38) e_TM_memory_30 (by decide) (fun h30 => ?_) (fun h30 => ?_)
        · refine p_iinc e_TM_memory_38 rfl rfl (by decide) ?_
          refine p_goto (tgt := 11) e_TM_memory_41 (by decide) ?_
          refine Wp.lv2 (ih (x + 1) (by omega) (fun y hy => ?_)) ⟨congrArg (fun z => some (Sum.inl z)) (nI_1 x), rfl, rfl, trivial⟩
          by_cases e : y = x
          · subst e; exact h30
          · exact hno y (by omega)
        · refine p_aload_n e_TM_memory_33 rfl ?_
          refine p_gIv 387 e_TM_memory_34 f_TM_183 rfl rfl (by assumption) v8 ?_
          refine p_iret e_TM_memory_37 (rv_i ?_)
          exact k1 b' x hb rfl (by omega) h30
    refine p_iconst (x := 0) e_TM_memory_9 (by decide) ?_
    refine p_istore_n e_TM_memory_10 (by decide) ?_
    exact Wp.lv2 (loop1 (N + 1) 0 (by omega) (fun y hy => by omega)) ⟨rfl, rfl, rfl, trivial⟩
  · refine p_if_ne (tgt := 9) e_TM_memory_4 (by decide) (fun hx => absurd (rfl) hx) (fun _ => ?_)
    refine p_iconst (x := 0) e_TM_memory_7 (by decide) ?_
    refine p_iret e_TM_memory_8 (rv_i ?_)
    exact k0 z
set_option maxHeartbeats 4000000 in
theorem sp_TM_evict {c b : Int32} (hI : IV N A eb eo) (hh : hs.length ≤ 1) (h : CRx N Y bd hs σ A f m g rf)
    (k1 : ∀ c' b' σ' f' m' g', c' < N → b' < 2 → c = nI c' → b = nI b' → sv A 5 (2 * c' + b') ≠ 0 → ¬ (sv A 12 c' ≠ 0 ∧ sv A 15 c' = b) → CRx N Y bd hs σ' (gvA A c' b' (nI N) (sv A 5 (2 * c' + b')) (sv A 6 (2 * c' + b')) (sv A 6 (2 * c' + b'))) f' m' g' rf → HK (Y 4) σ σ' hs → P (some (.inl 1)) σ')
    (k2 : ∀ c' b', c' < N → b' < 2 → c = nI c' → b = nI b' → (sv A 5 (2 * c' + b') = 0 ∨ (sv A 12 c' ≠ 0 ∧ sv A 15 c' = b)) → P (some (.inl 0)) σ) (k0 : ¬ (isC N c ∧ isB b) → P (some (.inl 0)) σ) : Ctr m_TM_evict 10 [.inr (Y 0), .inl c, .inl b] σ P := by
  obtain ⟨a0, ⟨b1, b2, b3, b4, b5, b6, b7, b8, b9⟩, -, ⟨d1, d2, d3⟩, -⟩ := h.1
  have no : ¬ (isC N c ∧ isB b) → Wp m_TM_evict 10 15 (largs 0 [.inr (Y 0), .inl c, .inl b]) [] σ (fun v σ' => RV m_TM_evict.2.2.2 v ∧ P v σ') := by
    intro hy
    refine p_iconst (x := 0) e_TM_evict_15 (by decide) ?_
    refine p_iret e_TM_evict_16 (rv_z (by first | assumption | exact Or.inl rfl | exact Or.inr rfl) ?_)
    exact k0 hy
  refine Ctr.of y_TM_evict (Nat.le_of_ble_eq_true rfl) ?_
  refine p_aload_n e_TM_evict_0 rfl ?_
  refine p_iload_n e_TM_evict_1 rfl ?_
  refine p_inv (ci := 7) (d' := 1) [_] _ e_TM_evict_2 c_TM_71 k_TM_isCore i_TM_isCore s_TM_isCore rfl rfl (by assumption) rfl rfl (Nat.le_of_ble_eq_true rfl) (Nat.le_of_ble_eq_true rfl) ?_
  refine sp_isCore b1 (fun y1 y2 => ?_) (fun y => ?_)
  · refine p_if_eq (tgt := 15) e_TM_evict_5 (by decide) (fun hx => absurd hx ((by decide))) (fun _ => ?_)
    rw [b2] at y2
    refine p_iload_n e_TM_evict_8 rfl ?_
    refine p_stat (d' := 1) [_] _ e_TM_evict_9 c_TM_75 k_TM_isBlock t_TM_isBlock rfl rfl (Nat.le_of_ble_eq_true rfl) (Nat.le_of_ble_eq_true rfl) ?_
    refine sp_isBlock (fun z1 z2 => ?_) (fun z => ?_)
    · refine p_if_ne (tgt := 17) e_TM_evict_12 (by decide) (fun _ => ?_) (fun hx => absurd hx ((by decide)))
      obtain ⟨c', hc, rfl⟩ := ix (by omega) y1 y2
      obtain ⟨b', hb, rfl⟩ := ix2 z1 z2
      have hi : 2 * c' + b' < 2 * N + 2 := by omega
      have ts : tg σ (Y (100 + (2 * c' + b'))) = 7 := h.1.sh hi
      have tc : tg σ (Y (200 + c')) = 2 := h.1.co hc
      have v5 := h.2.2.1.1 _ hi
      have v6 := h.2.2.1.2.1 _ hi
      have v12 := h.2.2.2.1.2.1 c' hc
      have v15 := h.2.2.2.1.2.2.2.1 c' hc
      have bad : (sv A 5 (2 * c' + b') = 0 ∨ (sv A 12 c' ≠ 0 ∧ sv A 15 c' = nI b')) → Wp m_TM_evict 10 44 [(3, .inr (Y (100 + (2 * c' + b')))), (0, .inr (Y 0)), (1, .inl (nI c')), (2, .inl (nI b'))] [] σ (fun v σ' => RV m_TM_evict.2.2.2 v ∧ P v σ') := by
        intro hy
        refine p_iconst (x := 0) e_TM_evict_44 (by decide) ?_
        refine p_iret e_TM_evict_45 (rv_z (by first | assumption | exact Or.inl rfl | exact Or.inr rfl) ?_)
        exact k2 c' b' hc hb rfl rfl hy
      refine p_aload_n e_TM_evict_17 rfl ?_
      refine p_iload_n e_TM_evict_18 rfl ?_
      refine p_iload_n e_TM_evict_19 rfl ?_
      refine p_inv (ci := 7) (d' := 1) [_, _] _ e_TM_evict_20 c_TM_159 k_TM_share i_TM_share s_TM_share rfl rfl (by assumption) rfl rfl (Nat.le_of_ble_eq_true rfl) (Nat.le_of_ble_eq_true rfl) ?_
      refine h.1.share (by omega) hb ?_
      refine p_astore_n e_TM_evict_23 (by decide) ?_
      refine p_aload_n e_TM_evict_24 rfl ?_
      refine p_gIv 384 e_TM_evict_25 f_TM_54 rfl rfl (by assumption) v5 ?_
      refine p_if_eq (tgt := 44) e_TM_evict_28 (by decide) (fun h28 => ?_) (fun h28 => ?_)
      · exact Wp.lv2 (bad (Or.inl h28)) ⟨rfl, rfl, rfl, rfl, trivial⟩
      refine p_aload_n e_TM_evict_31 rfl ?_
      refine p_gRv 454 e_TM_evict_32 f_TM_38 rfl rfl (by assumption) b6 ?_
      refine p_iload_n e_TM_evict_35 rfl ?_
      refine p_aaldv e_TM_evict_36 (ti := 4) (n := c') (v := Y (200 + c')) (by decide) d1 rfl (by omega) (by omega) (d3 c' hc).1 ?_
      refine p_iload_n e_TM_evict_37 rfl ?_
      refine p_inv (ci := 1) (d' := 1) [_] _ e_TM_evict_38 c_TM_163 k_Core_isBusyWith i_Core_isBusyWith s_Core_isBusyWith rfl rfl (by assumption) rfl rfl (Nat.le_of_ble_eq_true rfl) (Nat.le_of_ble_eq_true rfl) ?_
      refine sp_Core_isBusyWith tc (fun x1 x2 => ?_) (fun x => ?_)
      · refine p_if_eq (tgt := 46) e_TM_evict_41 (by decide) (fun hx => absurd hx ((by decide))) (fun _ => ?_)
        exact Wp.lv2 (bad (Or.inr ⟨by rw [← v12]; exact x1, by rw [← v15]; exact x2⟩)) ⟨rfl, rfl, rfl, rfl, trivial⟩
      · refine p_if_eq (tgt := 46) e_TM_evict_41 (by decide) (fun _ => ?_) (fun hx => absurd (rfl) hx)
        refine p_aload_n e_TM_evict_46 rfl ?_
        refine p_iload_n e_TM_evict_47 rfl ?_
        refine p_aload_n e_TM_evict_48 rfl ?_
        refine p_gIv 449 e_TM_evict_49 f_TM_23 rfl rfl (by assumption) b3 ?_
        refine p_iload_n e_TM_evict_52 rfl ?_
        refine p_aload_n e_TM_evict_53 rfl ?_
        refine p_gIv 384 e_TM_evict_54 f_TM_54 rfl rfl (by assumption) v5 ?_
        refine p_aload_n e_TM_evict_57 rfl ?_
        refine p_gIv 385 e_TM_evict_58 f_TM_57 rfl rfl (by assumption) v6 ?_
        refine p_aload_n e_TM_evict_61 rfl ?_
        refine p_gIv 385 e_TM_evict_62 f_TM_57 rfl rfl (by assumption) v6 ?_
        refine p_inv (ci := 7) (d' := 9) [_, _, _, _, _, _] _ e_TM_evict_65 c_TM_166 k_TM_give i_TM_give s_TM_give rfl rfl (by assumption) rfl rfl (Nat.le_of_ble_eq_true rfl) (Nat.le_of_ble_eq_true rfl) ?_
        refine sp_give (x := c') (by omega) hb (hI.1.own (by omega) hb) (hI.1.own (by omega) hb) hI.1.b67 hh h (fun σ1 f1 m1 g1 hc1 hk1 => ?_)
        refine p_iconst (x := 1) e_TM_evict_68 (by decide) ?_
        refine p_iret e_TM_evict_69 (rv_z (by first | assumption | exact Or.inl rfl | exact Or.inr rfl) ?_)
        exact k1 c' b' σ1 f1 m1 g1 hc hb rfl rfl h28 (fun q => x ⟨by rw [v12]; exact q.1, by rw [v15]; exact q.2⟩) hc1 hk1
    · refine p_if_ne (tgt := 17) e_TM_evict_12 (by decide) (fun hx => absurd (rfl) hx) (fun _ => ?_)
      exact no (fun q => z q.2)
  · refine p_if_eq (tgt := 15) e_TM_evict_5 (by decide) (fun _ => ?_) (fun hx => absurd (rfl) hx)
    rw [b2] at y
    exact no (fun q => y q.1)
theorem sp_begin {c : Nat} {w b v : Int32} (hc : c < N) (hw : bz w) (h : CRx N Y bd hs σ A f m g rf) (hP : ∀ σ', CRx N Y bd hs σ' (bgA A c w b v) f m g rf → HK (Y 4) σ σ' hs → P none σ') : Ctr m_Core_begin 1 [.inr (Y (200 + c)), .inl w, .inl b, .inl v] σ P :=
  sp_Core_begin (h.1.co hc) hw (hP _ (h.bg hc) (((((((HK.put (Or.inl (by omega))).tr (HK.put (Or.inl (by omega)))).tr (HK.put (Or.inl (by omega)))).tr (HK.put (Or.inl (by omega)))).tr (HK.put (Or.inl (by omega)))).tr (HK.put (Or.inl (by omega)))).tr (HK.put (Or.inl (by omega)))))
set_option maxHeartbeats 4000000 in
theorem wp_issue {c b : Nat} {w v : Int32} (hc : c < N) (hb : b < 2) (e15 : sv A 15 c = nI b) (hI1 : IV N A eb eo) (hh : hs.length ≤ 1) (hc1 : CRx N Y bd hs σ A f m g rf)
    (k1 : ∀ σ' f' m' g', CRx N Y bd hs σ' (isT N A c b) f' m' g' rf → HK (Y 4) σ σ' hs → (ceA N A c b → P (some (.inl 1)) σ') ∧ (¬ ceA N A c b → P (some (.inl 0)) σ')) : Wp m_TM_issue 10 45 [(5, .inr (Y (200 + c))), (0, .inr (Y 0)), (1, .inl (nI c)), (2, .inl w), (3, .inl (nI b)), (4, .inl v)] [] σ (fun v σ' => RV m_TM_issue.2.2.2 v ∧ P v σ') := by
  have tx1 := hc1.1.2.1.1
  refine p_aload_n e_TM_issue_45 rfl ?_
  refine p_iload_n e_TM_issue_46 rfl ?_
  refine p_inv (ci := 7) (d' := 2) [_] _ e_TM_issue_47 c_TM_85 k_TM_canEnd i_TM_canEnd s_TM_canEnd rfl rfl (by assumption) rfl rfl (Nat.le_of_ble_eq_true rfl) (Nat.le_of_ble_eq_true rfl) ?_
  refine sp_canEnd hc hb e15 hc1 (fun w1 => ?_) (fun w0 => ?_)
  · refine p_if_eq (tgt := 60) e_TM_issue_50 (by decide) (fun hx => absurd hx ((by decide))) (fun _ => ?_)
    refine p_aload_n e_TM_issue_53 rfl ?_
    refine p_iload_n e_TM_issue_54 rfl ?_
    refine p_inv (ci := 7) (d' := 9) [_] _ e_TM_issue_55 c_TM_88 k_TM_endd i_TM_endd s_TM_endd rfl rfl (by assumption) rfl rfl (Nat.le_of_ble_eq_true rfl) (Nat.le_of_ble_eq_true rfl) ?_
    refine sp_end hc hb e15 hI1.1.b67 hh hc1 (fun σ2 f2 m2 g2 hc2 hk2 => ?_)
    refine p_iconst (x := 1) e_TM_issue_58 (by decide) ?_
    refine p_iret e_TM_issue_59 (rv_i ?_)
    have e : isT N A c b = enA N A c b := if_pos w1
    exact (k1 σ2 f2 m2 g2 (by rw [e]; exact hc2) hk2).1 w1
  · refine p_if_eq (tgt := 60) e_TM_issue_50 (by decide) (fun _ => ?_) (fun hx => absurd (rfl) hx)
    have u4 := hc1.2.2.2.2.1.2.2.1
    have u3 := hc1.2.2.2.2.1.2.1
    have tc1 := hc1.1.co hc
    refine p_aload e_TM_issue_60 rfl ?_
    refine p_aload_n e_TM_issue_62 rfl ?_
    refine p_gIv 458 e_TM_issue_63 f_TM_92 rfl rfl (by assumption) u4 ?_
    refine p_aload_n e_TM_issue_66 rfl ?_
    refine p_gIv 452 e_TM_issue_67 f_TM_20 rfl rfl (by assumption) u3 ?_
    refine p_iadd e_TM_issue_70 ?_
    refine p_pI 70 e_TM_issue_71 f_TM_95 rfl rfl (fun q h => by cases h; exact Or.inl rfl) rfl (by assumption) ?_
    have hc2 := cw_70 (v := sv A 4 0 + sv A 3 0) hc1 hc
    have hI2 : IV N (set1 A 19 c (sv A 4 0 + sv A 3 0)) eb eo := ⟨hI1.1.set (by unfold rel; omega), hI1.2⟩
    refine p_aload_n e_TM_issue_74 rfl ?_
    refine p_iload_n e_TM_issue_75 rfl ?_
    refine p_inv (ci := 7) (d' := 9) [_] _ e_TM_issue_76 c_TM_98 k_TM_ask i_TM_ask s_TM_ask rfl rfl (hc2.1.2.1.1) rfl rfl (Nat.le_of_ble_eq_true rfl) (Nat.le_of_ble_eq_true rfl) ?_
    have er : rwk (set1 A 19 c (sv A 4 0 + sv A 3 0)) c = rwk A c := rfl
    have e15' : sv (set1 A 19 c (sv A 4 0 + sv A 3 0)) 15 c = nI b := e15
    refine sp_ask hc (fun x hx => ?_) hh hc2 (fun σ2 f2 m2 g2 hc3 hk3 => ?_)
    · rw [e15']
      exact (LI.ak hI2.1 hc hb rwk_12 x hx).b67
    · rw [er, e15'] at hc3
      refine p_iconst (x := 0) e_TM_issue_79 (by decide) ?_
      refine p_iret e_TM_issue_80 (rv_i ?_)
      have e : isT N A c b = _ := if_neg w0
      exact (k1 σ2 f2 m2 g2 (by rw [e]; exact hc3) ((HK.put (Or.inl (by omega))).tr hk3)).2 w0
set_option maxHeartbeats 4000000 in
theorem sp_TM_issue {c w b v : Int32} (hw : bz w) (hI : IV N A eb eo) (hh : hs.length ≤ 1) (h : CRx N Y bd hs σ A f m g rf)
    (k1 : ∀ c' b' σ' f' m' g', c' < N → b' < 2 → c = nI c' → b = nI b' → sv A 12 c' = 0 → CRx N Y bd hs σ' (isA N A c' b' w v) f' m' g' rf → HK (Y 4) σ σ' hs → (ceA N (bgA A c' w (nI b') v) c' b' → P (some (.inl 1)) σ') ∧ (¬ ceA N (bgA A c' w (nI b') v) c' b' → P (some (.inl 0)) σ'))
    (k2 : ∀ c', c' < N → c = nI c' → isB b → sv A 12 c' ≠ 0 → P (some (.inl (-2))) σ) (k0 : ¬ (isC N c ∧ isB b) → P (some (.inl (-1))) σ) : Ctr m_TM_issue 10 [.inr (Y 0), .inl c, .inl w, .inl b, .inl v] σ P := by
  obtain ⟨a0, ⟨b1, b2, b3, b4, b5, b6, b7, b8, b9⟩, -, ⟨d1, d2, d3⟩, -⟩ := h.1
  have no : ¬ (isC N c ∧ isB b) → Wp m_TM_issue 10 15 (largs 0 [.inr (Y 0), .inl c, .inl w, .inl b, .inl v]) [] σ (fun v σ' => RV m_TM_issue.2.2.2 v ∧ P v σ') := by
    intro hy
    refine p_iconst (x := (-1)) e_TM_issue_15 (by decide) ?_
    refine p_iret e_TM_issue_16 (rv_i ?_)
    exact k0 hy
  refine Ctr.of y_TM_issue (Nat.le_of_ble_eq_true rfl) ?_
  refine p_aload_n e_TM_issue_0 rfl ?_
  refine p_iload_n e_TM_issue_1 rfl ?_
  refine p_inv (ci := 7) (d' := 1) [_] _ e_TM_issue_2 c_TM_71 k_TM_isCore i_TM_isCore s_TM_isCore rfl rfl (by assumption) rfl rfl (Nat.le_of_ble_eq_true rfl) (Nat.le_of_ble_eq_true rfl) ?_
  refine sp_isCore b1 (fun y1 y2 => ?_) (fun y => ?_)
  · refine p_if_eq (tgt := 15) e_TM_issue_5 (by decide) (fun hx => absurd hx ((by decide))) (fun _ => ?_)
    rw [b2] at y2
    refine p_iload_n e_TM_issue_8 rfl ?_
    refine p_stat (d' := 1) [_] _ e_TM_issue_9 c_TM_75 k_TM_isBlock t_TM_isBlock rfl rfl (Nat.le_of_ble_eq_true rfl) (Nat.le_of_ble_eq_true rfl) ?_
    refine sp_isBlock (fun z1 z2 => ?_) (fun z => ?_)
    · refine p_if_ne (tgt := 17) e_TM_issue_12 (by decide) (fun _ => ?_) (fun hx => absurd hx ((by decide)))
      obtain ⟨c', hc, rfl⟩ := ix (by omega) y1 y2
      obtain ⟨b', hb, rfl⟩ := ix2 z1 z2
      have tc : tg σ (Y (200 + c')) = 2 := h.1.co hc
      have v12 := h.2.2.2.1.2.1 c' hc
      refine p_aload_n e_TM_issue_17 rfl ?_
      refine p_gRv 454 e_TM_issue_18 f_TM_38 rfl rfl (by assumption) b6 ?_
      refine p_iload_n e_TM_issue_21 rfl ?_
      refine p_aaldv e_TM_issue_22 (ti := 4) (n := c') (v := Y (200 + c')) (by decide) d1 rfl (by omega) (by omega) (d3 c' hc).1 ?_
      refine p_astore e_TM_issue_23 (by decide) ?_
      refine p_aload e_TM_issue_25 rfl ?_
      refine p_gIv 65 e_TM_issue_27 f_TM_78 rfl rfl (by assumption) v12 ?_
      refine p_if_eq (tgt := 36) e_TM_issue_30 (by decide) (fun h30 => ?_) (fun h30 => ?_)
      · refine p_aload e_TM_issue_36 rfl ?_
        refine p_iload_n e_TM_issue_38 rfl ?_
        refine p_iload_n e_TM_issue_39 rfl ?_
        refine p_iload e_TM_issue_40 rfl ?_
        refine p_inv (ci := 1) (d' := 1) [_, _, _] _ e_TM_issue_42 c_TM_81 k_Core_begin i_Core_begin s_Core_begin rfl rfl (by assumption) rfl rfl (Nat.le_of_ble_eq_true rfl) (Nat.le_of_ble_eq_true rfl) ?_
        refine sp_begin hc hw h (fun σ1 hc1 hk1 => ?_)
        have hI1 := hI.bg (c := c') (w := w) (v := v) hb hw
        have e15 : sv (bgA A c' w (nI b') v) 15 c' = nI b' := by rw [sv_bgA]; simp
        have k11 := fun σ' f' m' g' h1 h2 => k1 c' b' σ' f' m' g' hc hb rfl rfl h30 h1 (hk1.tr h2)
        unfold isA at k11
        generalize bgA A c' w (nI b') v = B at *
        exact Wp.lv2 (wp_issue hc hb e15 hI1 hh hc1 k11) ⟨rfl, rfl, rfl, rfl, rfl, rfl, trivial⟩
      · refine p_bipush (x := (-2)) e_TM_issue_33 (by decide) ?_
        refine p_iret e_TM_issue_35 (rv_i ?_)
        exact k2 c' hc rfl ⟨z1, z2⟩ h30
    · refine p_if_ne (tgt := 17) e_TM_issue_12 (by decide) (fun hx => absurd (rfl) hx) (fun _ => ?_)
      exact no (fun q => z q.2)
  · refine p_if_eq (tgt := 15) e_TM_issue_5 (by decide) (fun _ => ?_) (fun hx => absurd (rfl) hx)
    rw [b2] at y
    exact no (fun q => y q.1)
end Pub2
end
