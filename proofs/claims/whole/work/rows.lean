section
-- ===== PART A: goes FIRST, ahead of the names: the tables' words, and 'selects' of the private methods out of them =====
/-- a private method of a class that the tables say can be made, by its rows of tables_1 -/
def lw_okq (q : MethodName × Nat) : Prop := (q.1.cls ≠ "java/lang/invoke/MethodHandle" ∧ q.1.cls ≠ "java/lang/invoke/VarHandle") ∧ Cond.instantiable q.1.cls q.2 ∈ tables_1 ∧ Cond.privateMethod q.1 ∈ tables_1 ∧ Cond.instanceMethod q.1 ∈ tables_1
theorem lw_p0 : lw_okq (⟨"TokenMesh", "isCore", "(I)Z"⟩, 11) := ⟨⟨by decide +kernel, by decide +kernel⟩, List.mem_of_getElem? (i := 19) (by decide +kernel), List.mem_of_getElem? (i := 216) (by decide +kernel), List.mem_of_getElem? (i := 217) (by decide +kernel)⟩
theorem lw_p1 : lw_okq (⟨"TokenMesh", "canEnd", "(I)Z"⟩, 11) := ⟨⟨by decide +kernel, by decide +kernel⟩, List.mem_of_getElem? (i := 19) (by decide +kernel), List.mem_of_getElem? (i := 227) (by decide +kernel), List.mem_of_getElem? (i := 228) (by decide +kernel)⟩
theorem lw_p2 : lw_okq (⟨"TokenMesh", "share", "(II)LTokenMesh$Share;"⟩, 11) := ⟨⟨by decide +kernel, by decide +kernel⟩, List.mem_of_getElem? (i := 19) (by decide +kernel), List.mem_of_getElem? (i := 231) (by decide +kernel), List.mem_of_getElem? (i := 232) (by decide +kernel)⟩
theorem lw_p3 : lw_okq (⟨"TokenMesh", "end", "(I)V"⟩, 11) := ⟨⟨by decide +kernel, by decide +kernel⟩, List.mem_of_getElem? (i := 19) (by decide +kernel), List.mem_of_getElem? (i := 235) (by decide +kernel), List.mem_of_getElem? (i := 236) (by decide +kernel)⟩
theorem lw_p4 : lw_okq (⟨"TokenMesh$Mail", "dropOlder", "(IIII)V"⟩, 2) := ⟨⟨by decide +kernel, by decide +kernel⟩, List.mem_of_getElem? (i := 163) (by decide +kernel), List.mem_of_getElem? (i := 243) (by decide +kernel), List.mem_of_getElem? (i := 244) (by decide +kernel)⟩
theorem lw_p5 : lw_okq (⟨"java/util/ArrayList", "fastRemove", "([Ljava/lang/Object;I)V"⟩, 3) := ⟨⟨by decide +kernel, by decide +kernel⟩, List.mem_of_getElem? (i := 125) (by decide +kernel), List.mem_of_getElem? (i := 274) (by decide +kernel), List.mem_of_getElem? (i := 275) (by decide +kernel)⟩
theorem lw_p6 : lw_okq (⟨"java/util/ArrayList", "add", "(Ljava/lang/Object;[Ljava/lang/Object;I)V"⟩, 3) := ⟨⟨by decide +kernel, by decide +kernel⟩, List.mem_of_getElem? (i := 125) (by decide +kernel), List.mem_of_getElem? (i := 285) (by decide +kernel), List.mem_of_getElem? (i := 286) (by decide +kernel)⟩
theorem lw_p7 : lw_okq (⟨"java/util/ArrayList", "grow", "()[Ljava/lang/Object;"⟩, 3) := ⟨⟨by decide +kernel, by decide +kernel⟩, List.mem_of_getElem? (i := 125) (by decide +kernel), List.mem_of_getElem? (i := 289) (by decide +kernel), List.mem_of_getElem? (i := 290) (by decide +kernel)⟩
theorem lw_p8 : lw_okq (⟨"java/util/ArrayList", "grow", "(I)[Ljava/lang/Object;"⟩, 3) := ⟨⟨by decide +kernel, by decide +kernel⟩, List.mem_of_getElem? (i := 125) (by decide +kernel), List.mem_of_getElem? (i := 293) (by decide +kernel), List.mem_of_getElem? (i := 294) (by decide +kernel)⟩
theorem lw_p9 : lw_okq (⟨"TokenMesh", "ask", "(I)V"⟩, 11) := ⟨⟨by decide +kernel, by decide +kernel⟩, List.mem_of_getElem? (i := 19) (by decide +kernel), List.mem_of_getElem? (i := 393) (by decide +kernel), List.mem_of_getElem? (i := 394) (by decide +kernel)⟩
theorem lw_p10 : lw_okq (⟨"TokenMesh", "askAgain", "(I)V"⟩, 11) := ⟨⟨by decide +kernel, by decide +kernel⟩, List.mem_of_getElem? (i := 19) (by decide +kernel), List.mem_of_getElem? (i := 405) (by decide +kernel), List.mem_of_getElem? (i := 406) (by decide +kernel)⟩
theorem lw_p11 : lw_okq (⟨"TokenMesh", "onRead", "(III)V"⟩, 11) := ⟨⟨by decide +kernel, by decide +kernel⟩, List.mem_of_getElem? (i := 19) (by decide +kernel), List.mem_of_getElem? (i := 421) (by decide +kernel), List.mem_of_getElem? (i := 422) (by decide +kernel)⟩
theorem lw_p12 : lw_okq (⟨"TokenMesh", "give", "(IIIIZZ)V"⟩, 11) := ⟨⟨by decide +kernel, by decide +kernel⟩, List.mem_of_getElem? (i := 19) (by decide +kernel), List.mem_of_getElem? (i := 425) (by decide +kernel), List.mem_of_getElem? (i := 426) (by decide +kernel)⟩
theorem lw_p13 : lw_okq (⟨"TokenMesh", "onWrite", "(III)V"⟩, 11) := ⟨⟨by decide +kernel, by decide +kernel⟩, List.mem_of_getElem? (i := 19) (by decide +kernel), List.mem_of_getElem? (i := 433) (by decide +kernel), List.mem_of_getElem? (i := 434) (by decide +kernel)⟩
theorem lw_p14 : lw_okq (⟨"TokenMesh", "onTokens", "(LTokenMesh$Letter;)V"⟩, 11) := ⟨⟨by decide +kernel, by decide +kernel⟩, List.mem_of_getElem? (i := 19) (by decide +kernel), List.mem_of_getElem? (i := 437) (by decide +kernel), List.mem_of_getElem? (i := 438) (by decide +kernel)⟩
theorem lw_p15 : lw_okq (⟨"TokenMesh", "giveWay", "(II)V"⟩, 11) := ⟨⟨by decide +kernel, by decide +kernel⟩, List.mem_of_getElem? (i := 19) (by decide +kernel), List.mem_of_getElem? (i := 445) (by decide +kernel), List.mem_of_getElem? (i := 446) (by decide +kernel)⟩
def lw_privs_1 : List (MethodName × Nat) := [(⟨"TokenMesh", "isCore", "(I)Z"⟩, 11), (⟨"TokenMesh", "canEnd", "(I)Z"⟩, 11), (⟨"TokenMesh", "share", "(II)LTokenMesh$Share;"⟩, 11), (⟨"TokenMesh", "end", "(I)V"⟩, 11), (⟨"TokenMesh$Mail", "dropOlder", "(IIII)V"⟩, 2), (⟨"java/util/ArrayList", "fastRemove", "([Ljava/lang/Object;I)V"⟩, 3), (⟨"java/util/ArrayList", "add", "(Ljava/lang/Object;[Ljava/lang/Object;I)V"⟩, 3), (⟨"java/util/ArrayList", "grow", "()[Ljava/lang/Object;"⟩, 3), (⟨"java/util/ArrayList", "grow", "(I)[Ljava/lang/Object;"⟩, 3), (⟨"TokenMesh", "ask", "(I)V"⟩, 11), (⟨"TokenMesh", "askAgain", "(I)V"⟩, 11), (⟨"TokenMesh", "onRead", "(III)V"⟩, 11), (⟨"TokenMesh", "give", "(IIIIZZ)V"⟩, 11), (⟨"TokenMesh", "onWrite", "(III)V"⟩, 11), (⟨"TokenMesh", "onTokens", "(LTokenMesh$Letter;)V"⟩, 11), (⟨"TokenMesh", "giveWay", "(II)V"⟩, 11)]
theorem lw_r1 : ∀ q ∈ lw_privs_1, lw_okq q := List.forall_mem_cons.mpr ⟨lw_p0, List.forall_mem_cons.mpr ⟨lw_p1, List.forall_mem_cons.mpr ⟨lw_p2, List.forall_mem_cons.mpr ⟨lw_p3, List.forall_mem_cons.mpr ⟨lw_p4, List.forall_mem_cons.mpr ⟨lw_p5, List.forall_mem_cons.mpr ⟨lw_p6, List.forall_mem_cons.mpr ⟨lw_p7, List.forall_mem_cons.mpr ⟨lw_p8, List.forall_mem_cons.mpr ⟨lw_p9, List.forall_mem_cons.mpr ⟨lw_p10, List.forall_mem_cons.mpr ⟨lw_p11, List.forall_mem_cons.mpr ⟨lw_p12, List.forall_mem_cons.mpr ⟨lw_p13, List.forall_mem_cons.mpr ⟨lw_p14, List.forall_mem_cons.mpr ⟨lw_p15, fun _ h => absurd h List.not_mem_nil⟩⟩⟩⟩⟩⟩⟩⟩⟩⟩⟩⟩⟩⟩⟩⟩
theorem lw_p16 : lw_okq (⟨"TokenMesh", "onPlease", "(IIIZ)V"⟩, 11) := ⟨⟨by decide +kernel, by decide +kernel⟩, List.mem_of_getElem? (i := 19) (by decide +kernel), List.mem_of_getElem? (i := 453) (by decide +kernel), List.mem_of_getElem? (i := 454) (by decide +kernel)⟩
theorem lw_p17 : lw_okq (⟨"TokenMesh", "lapse", "(II)V"⟩, 11) := ⟨⟨by decide +kernel, by decide +kernel⟩, List.mem_of_getElem? (i := 19) (by decide +kernel), List.mem_of_getElem? (i := 457) (by decide +kernel), List.mem_of_getElem? (i := 458) (by decide +kernel)⟩
theorem lw_p18 : lw_okq (⟨"TokenMesh", "tellActive", "(I)V"⟩, 11) := ⟨⟨by decide +kernel, by decide +kernel⟩, List.mem_of_getElem? (i := 19) (by decide +kernel), List.mem_of_getElem? (i := 474) (by decide +kernel), List.mem_of_getElem? (i := 475) (by decide +kernel)⟩
theorem lw_p19 : lw_okq (⟨"TokenMesh", "activateFirst", "(I)V"⟩, 11) := ⟨⟨by decide +kernel, by decide +kernel⟩, List.mem_of_getElem? (i := 19) (by decide +kernel), List.mem_of_getElem? (i := 482) (by decide +kernel), List.mem_of_getElem? (i := 483) (by decide +kernel)⟩
theorem lw_p20 : lw_okq (⟨"TokenMesh", "onKnow", "(LTokenMesh$Letter;)V"⟩, 11) := ⟨⟨by decide +kernel, by decide +kernel⟩, List.mem_of_getElem? (i := 19) (by decide +kernel), List.mem_of_getElem? (i := 507) (by decide +kernel), List.mem_of_getElem? (i := 508) (by decide +kernel)⟩
theorem lw_p21 : lw_okq (⟨"TokenMesh", "isNode", "(I)Z"⟩, 11) := ⟨⟨by decide +kernel, by decide +kernel⟩, List.mem_of_getElem? (i := 19) (by decide +kernel), List.mem_of_getElem? (i := 543) (by decide +kernel), List.mem_of_getElem? (i := 544) (by decide +kernel)⟩
theorem lw_p22 : lw_okq (⟨"TokenMeshModel", "isCore", "(I)Z"⟩, 40) := ⟨⟨by decide +kernel, by decide +kernel⟩, List.mem_of_getElem? (i := 579) (by decide +kernel), List.mem_of_getElem? (i := 711) (by decide +kernel), List.mem_of_getElem? (i := 712) (by decide +kernel)⟩
theorem lw_p23 : lw_okq (⟨"TokenMeshModel", "canEnd", "(I)Z"⟩, 40) := ⟨⟨by decide +kernel, by decide +kernel⟩, List.mem_of_getElem? (i := 579) (by decide +kernel), List.mem_of_getElem? (i := 718) (by decide +kernel), List.mem_of_getElem? (i := 719) (by decide +kernel)⟩
theorem lw_p24 : lw_okq (⟨"TokenMeshModel", "end", "(I)V"⟩, 40) := ⟨⟨by decide +kernel, by decide +kernel⟩, List.mem_of_getElem? (i := 579) (by decide +kernel), List.mem_of_getElem? (i := 722) (by decide +kernel), List.mem_of_getElem? (i := 723) (by decide +kernel)⟩
theorem lw_p25 : lw_okq (⟨"TokenMeshModel", "send", "(IIII)I"⟩, 40) := ⟨⟨by decide +kernel, by decide +kernel⟩, List.mem_of_getElem? (i := 579) (by decide +kernel), List.mem_of_getElem? (i := 726) (by decide +kernel), List.mem_of_getElem? (i := 727) (by decide +kernel)⟩
theorem lw_p26 : lw_okq (⟨"TokenMeshModel", "remove", "(I)V"⟩, 40) := ⟨⟨by decide +kernel, by decide +kernel⟩, List.mem_of_getElem? (i := 579) (by decide +kernel), List.mem_of_getElem? (i := 730) (by decide +kernel), List.mem_of_getElem? (i := 731) (by decide +kernel)⟩
theorem lw_p27 : lw_okq (⟨"TokenMeshModel", "move", "(II)V"⟩, 40) := ⟨⟨by decide +kernel, by decide +kernel⟩, List.mem_of_getElem? (i := 579) (by decide +kernel), List.mem_of_getElem? (i := 734) (by decide +kernel), List.mem_of_getElem? (i := 735) (by decide +kernel)⟩
theorem lw_p28 : lw_okq (⟨"TokenMeshModel", "ask", "(I)V"⟩, 40) := ⟨⟨by decide +kernel, by decide +kernel⟩, List.mem_of_getElem? (i := 579) (by decide +kernel), List.mem_of_getElem? (i := 738) (by decide +kernel), List.mem_of_getElem? (i := 739) (by decide +kernel)⟩
theorem lw_p29 : lw_okq (⟨"TokenMeshModel", "repeat", "(I)V"⟩, 40) := ⟨⟨by decide +kernel, by decide +kernel⟩, List.mem_of_getElem? (i := 579) (by decide +kernel), List.mem_of_getElem? (i := 746) (by decide +kernel), List.mem_of_getElem? (i := 747) (by decide +kernel)⟩
theorem lw_p30 : lw_okq (⟨"TokenMeshModel", "give", "(IIIIZZ)V"⟩, 40) := ⟨⟨by decide +kernel, by decide +kernel⟩, List.mem_of_getElem? (i := 579) (by decide +kernel), List.mem_of_getElem? (i := 754) (by decide +kernel), List.mem_of_getElem? (i := 755) (by decide +kernel)⟩
theorem lw_p31 : lw_okq (⟨"TokenMeshModel", "getTokens", "(IIIZZI)V"⟩, 40) := ⟨⟨by decide +kernel, by decide +kernel⟩, List.mem_of_getElem? (i := 579) (by decide +kernel), List.mem_of_getElem? (i := 758) (by decide +kernel), List.mem_of_getElem? (i := 759) (by decide +kernel)⟩
def lw_privs_2 : List (MethodName × Nat) := [(⟨"TokenMesh", "onPlease", "(IIIZ)V"⟩, 11), (⟨"TokenMesh", "lapse", "(II)V"⟩, 11), (⟨"TokenMesh", "tellActive", "(I)V"⟩, 11), (⟨"TokenMesh", "activateFirst", "(I)V"⟩, 11), (⟨"TokenMesh", "onKnow", "(LTokenMesh$Letter;)V"⟩, 11), (⟨"TokenMesh", "isNode", "(I)Z"⟩, 11), (⟨"TokenMeshModel", "isCore", "(I)Z"⟩, 40), (⟨"TokenMeshModel", "canEnd", "(I)Z"⟩, 40), (⟨"TokenMeshModel", "end", "(I)V"⟩, 40), (⟨"TokenMeshModel", "send", "(IIII)I"⟩, 40), (⟨"TokenMeshModel", "remove", "(I)V"⟩, 40), (⟨"TokenMeshModel", "move", "(II)V"⟩, 40), (⟨"TokenMeshModel", "ask", "(I)V"⟩, 40), (⟨"TokenMeshModel", "repeat", "(I)V"⟩, 40), (⟨"TokenMeshModel", "give", "(IIIIZZ)V"⟩, 40), (⟨"TokenMeshModel", "getTokens", "(IIIZZI)V"⟩, 40)]
theorem lw_r2 : ∀ q ∈ lw_privs_2, lw_okq q := List.forall_mem_cons.mpr ⟨lw_p16, List.forall_mem_cons.mpr ⟨lw_p17, List.forall_mem_cons.mpr ⟨lw_p18, List.forall_mem_cons.mpr ⟨lw_p19, List.forall_mem_cons.mpr ⟨lw_p20, List.forall_mem_cons.mpr ⟨lw_p21, List.forall_mem_cons.mpr ⟨lw_p22, List.forall_mem_cons.mpr ⟨lw_p23, List.forall_mem_cons.mpr ⟨lw_p24, List.forall_mem_cons.mpr ⟨lw_p25, List.forall_mem_cons.mpr ⟨lw_p26, List.forall_mem_cons.mpr ⟨lw_p27, List.forall_mem_cons.mpr ⟨lw_p28, List.forall_mem_cons.mpr ⟨lw_p29, List.forall_mem_cons.mpr ⟨lw_p30, List.forall_mem_cons.mpr ⟨lw_p31, fun _ h => absurd h List.not_mem_nil⟩⟩⟩⟩⟩⟩⟩⟩⟩⟩⟩⟩⟩⟩⟩⟩
theorem lw_p32 : lw_okq (⟨"TokenMeshModel", "giveWay", "(II)V"⟩, 40) := ⟨⟨by decide +kernel, by decide +kernel⟩, List.mem_of_getElem? (i := 579) (by decide +kernel), List.mem_of_getElem? (i := 762) (by decide +kernel), List.mem_of_getElem? (i := 763) (by decide +kernel)⟩
theorem lw_p33 : lw_okq (⟨"TokenMeshModel", "please", "(IIIZ)V"⟩, 40) := ⟨⟨by decide +kernel, by decide +kernel⟩, List.mem_of_getElem? (i := 579) (by decide +kernel), List.mem_of_getElem? (i := 766) (by decide +kernel), List.mem_of_getElem? (i := 767) (by decide +kernel)⟩
theorem lw_p34 : lw_okq (⟨"TokenMeshModel", "lapse", "(II)V"⟩, 40) := ⟨⟨by decide +kernel, by decide +kernel⟩, List.mem_of_getElem? (i := 579) (by decide +kernel), List.mem_of_getElem? (i := 770) (by decide +kernel), List.mem_of_getElem? (i := 771) (by decide +kernel)⟩
theorem lw_p35 : lw_okq (⟨"TokenMeshModel", "takeOut", "(II)V"⟩, 40) := ⟨⟨by decide +kernel, by decide +kernel⟩, List.mem_of_getElem? (i := 579) (by decide +kernel), List.mem_of_getElem? (i := 774) (by decide +kernel), List.mem_of_getElem? (i := 775) (by decide +kernel)⟩
theorem lw_p36 : lw_okq (⟨"TokenMeshModel", "tellAll", "(I)V"⟩, 40) := ⟨⟨by decide +kernel, by decide +kernel⟩, List.mem_of_getElem? (i := 579) (by decide +kernel), List.mem_of_getElem? (i := 778) (by decide +kernel), List.mem_of_getElem? (i := 779) (by decide +kernel)⟩
theorem lw_p37 : lw_okq (⟨"TokenMeshModel", "activate", "(I)V"⟩, 40) := ⟨⟨by decide +kernel, by decide +kernel⟩, List.mem_of_getElem? (i := 579) (by decide +kernel), List.mem_of_getElem? (i := 782) (by decide +kernel), List.mem_of_getElem? (i := 783) (by decide +kernel)⟩
theorem lw_p38 : lw_okq (⟨"TokenMeshModel", "isNode", "(I)Z"⟩, 40) := ⟨⟨by decide +kernel, by decide +kernel⟩, List.mem_of_getElem? (i := 579) (by decide +kernel), List.mem_of_getElem? (i := 802) (by decide +kernel), List.mem_of_getElem? (i := 803) (by decide +kernel)⟩
def lw_privs_3 : List (MethodName × Nat) := [(⟨"TokenMeshModel", "giveWay", "(II)V"⟩, 40), (⟨"TokenMeshModel", "please", "(IIIZ)V"⟩, 40), (⟨"TokenMeshModel", "lapse", "(II)V"⟩, 40), (⟨"TokenMeshModel", "takeOut", "(II)V"⟩, 40), (⟨"TokenMeshModel", "tellAll", "(I)V"⟩, 40), (⟨"TokenMeshModel", "activate", "(I)V"⟩, 40), (⟨"TokenMeshModel", "isNode", "(I)Z"⟩, 40)]
theorem lw_r3 : ∀ q ∈ lw_privs_3, lw_okq q := List.forall_mem_cons.mpr ⟨lw_p32, List.forall_mem_cons.mpr ⟨lw_p33, List.forall_mem_cons.mpr ⟨lw_p34, List.forall_mem_cons.mpr ⟨lw_p35, List.forall_mem_cons.mpr ⟨lw_p36, List.forall_mem_cons.mpr ⟨lw_p37, List.forall_mem_cons.mpr ⟨lw_p38, fun _ h => absurd h List.not_mem_nil⟩⟩⟩⟩⟩⟩⟩
def lw_privs : List (MethodName × Nat) := lw_privs_1 ++ (lw_privs_2 ++ (lw_privs_3))
def lw_tbl : List Cond := k2_sels lw_privs ++ tables_1
theorem lw_privs_ok : ∀ q ∈ lw_privs, lw_okq q := by
  show ∀ q ∈ lw_privs_1 ++ (lw_privs_2 ++ (lw_privs_3)), lw_okq q
  exact List.forall_mem_append.mpr ⟨lw_r1, List.forall_mem_append.mpr ⟨lw_r2, lw_r3⟩⟩
end
section
/-! the classes whose objects the heap holds: number, fields in the order of the slots, their types -/
def cR0 : String := "java/util/ArrayList"
def cT0 : u_T := fun k => match k with
  | 0 => ("java/util/AbstractList", "modCount", "I", false)
  | 1 => ("java/util/ArrayList", "elementData", "[Ljava/lang/Object;", false)
  | _ => ("java/util/ArrayList", "size", "I", false)
def cY0 : Nat → FieldType := fun k => match k with
  | 0 => .int
  | 1 => .array (.object "java/lang/Object")
  | _ => .int
theorem cN0 : ∀ a, a < 3 → ∀ b, b < 3 → a ≠ b → (cT0 a).2.1 ≠ (cT0 b).2.1 := by decide +kernel
theorem cO0 : ∀ k, k < 3 → parseFieldDescriptor (cT0 k).2.2.1 = some (cY0 k) := by decide +kernel
def cR1 : String := "TokenMesh$Core"
def cT1 : u_T := fun k => match k with
  | 0 => ("TokenMesh$Core", "number", "I", false)
  | 1 => ("TokenMesh$Core", "underWay", "Z", false)
  | 2 => ("TokenMesh$Core", "write", "Z", false)
  | 3 => ("TokenMesh$Core", "block", "I", false)
  | 4 => ("TokenMesh$Core", "value", "I", false)
  | 5 => ("TokenMesh$Core", "repeated", "I", false)
  | 6 => ("TokenMesh$Core", "due", "I", false)
  | 7 => ("TokenMesh$Core", "persistent", "Z", false)
  | 8 => ("TokenMesh$Core", "endedCount", "I", false)
  | _ => ("TokenMesh$Core", "latestResult", "I", false)
def cY1 : Nat → FieldType := fun k => match k with
  | 0 => .int
  | 1 => .boolean
  | 2 => .boolean
  | 3 => .int
  | 4 => .int
  | 5 => .int
  | 6 => .int
  | 7 => .boolean
  | 8 => .int
  | _ => .int
theorem cN1 : ∀ a, a < 10 → ∀ b, b < 10 → a ≠ b → (cT1 a).2.1 ≠ (cT1 b).2.1 := by decide +kernel
theorem cO1 : ∀ k, k < 10 → parseFieldDescriptor (cT1 k).2.2.1 = some (cY1 k) := by decide +kernel
def cR2 : String := "TokenMesh$Desk"
def cT2 : u_T := fun k => match k with
  | 0 => ("TokenMesh$Desk", "row", "Ljava/util/ArrayList;", true)
  | 1 => ("TokenMesh$Desk", "active", "LTokenMesh$Request;", false)
  | _ => ("TokenMesh$Desk", "serial", "I", false)
def cY2 : Nat → FieldType := fun k => match k with
  | 0 => .object "java/util/ArrayList"
  | 1 => .object "TokenMesh$Request"
  | _ => .int
theorem cN2 : ∀ a, a < 3 → ∀ b, b < 3 → a ≠ b → (cT2 a).2.1 ≠ (cT2 b).2.1 := by decide +kernel
theorem cO2 : ∀ k, k < 3 → parseFieldDescriptor (cT2 k).2.2.1 = some (cY2 k) := by decide +kernel
def cR3 : String := "TokenMesh$Letter"
def cT3 : u_T := fun k => match k with
  | 0 => ("TokenMesh$Letter", "kind", "I", false)
  | 1 => ("TokenMesh$Letter", "from", "I", false)
  | 2 => ("TokenMesh$Letter", "to", "I", false)
  | 3 => ("TokenMesh$Letter", "block", "I", false)
  | 4 => ("TokenMesh$Letter", "count", "I", false)
  | 5 => ("TokenMesh$Letter", "owner", "Z", false)
  | 6 => ("TokenMesh$Letter", "withData", "Z", false)
  | 7 => ("TokenMesh$Letter", "value", "I", false)
  | 8 => ("TokenMesh$Letter", "number", "I", false)
  | 9 => ("TokenMesh$Letter", "activeCore", "I", false)
  | _ => ("TokenMesh$Letter", "write", "Z", false)
def cY3 : Nat → FieldType := fun k => match k with
  | 0 => .int
  | 1 => .int
  | 2 => .int
  | 3 => .int
  | 4 => .int
  | 5 => .boolean
  | 6 => .boolean
  | 7 => .int
  | 8 => .int
  | 9 => .int
  | _ => .boolean
theorem cN3 : ∀ a, a < 11 → ∀ b, b < 11 → a ≠ b → (cT3 a).2.1 ≠ (cT3 b).2.1 := by decide +kernel
theorem cO3 : ∀ k, k < 11 → parseFieldDescriptor (cT3 k).2.2.1 = some (cY3 k) := by decide +kernel
def cR4 : String := "TokenMesh$Mail"
def cT4 : u_T := fun k => match k with
  | 0 => ("TokenMesh$Mail", "waiting", "Ljava/util/ArrayList;", true)
  | _ => ("TokenMesh$Mail", "spare", "Ljava/util/ArrayList;", true)
def cY4 : Nat → FieldType := fun k => match k with
  | 0 => .object "java/util/ArrayList"
  | _ => .object "java/util/ArrayList"
theorem cN4 : ∀ a, a < 2 → ∀ b, b < 2 → a ≠ b → (cT4 a).2.1 ≠ (cT4 b).2.1 := by decide +kernel
theorem cO4 : ∀ k, k < 2 → parseFieldDescriptor (cT4 k).2.2.1 = some (cY4 k) := by decide +kernel
def cR5 : String := "TokenMesh$Request"
def cT5 : u_T := fun k => match k with
  | 0 => ("TokenMesh$Request", "core", "I", true)
  | 1 => ("TokenMesh$Request", "number", "I", true)
  | _ => ("TokenMesh$Request", "write", "Z", true)
def cY5 : Nat → FieldType := fun k => match k with
  | 0 => .int
  | 1 => .int
  | _ => .boolean
theorem cN5 : ∀ a, a < 3 → ∀ b, b < 3 → a ≠ b → (cT5 a).2.1 ≠ (cT5 b).2.1 := by decide +kernel
theorem cO5 : ∀ k, k < 3 → parseFieldDescriptor (cT5 k).2.2.1 = some (cY5 k) := by decide +kernel
def cR6 : String := "TokenMesh$Share"
def cT6 : u_T := fun k => match k with
  | 0 => ("TokenMesh$Share", "count", "I", false)
  | 1 => ("TokenMesh$Share", "owner", "Z", false)
  | 2 => ("TokenMesh$Share", "valid", "Z", false)
  | 3 => ("TokenMesh$Share", "value", "I", false)
  | 4 => ("TokenMesh$Share", "activeCore", "I", false)
  | 5 => ("TokenMesh$Share", "activeWrite", "Z", false)
  | _ => ("TokenMesh$Share", "serial", "I", false)
def cY6 : Nat → FieldType := fun k => match k with
  | 0 => .int
  | 1 => .boolean
  | 2 => .boolean
  | 3 => .int
  | 4 => .int
  | 5 => .boolean
  | _ => .int
theorem cN6 : ∀ a, a < 7 → ∀ b, b < 7 → a ≠ b → (cT6 a).2.1 ≠ (cT6 b).2.1 := by decide +kernel
theorem cO6 : ∀ k, k < 7 → parseFieldDescriptor (cT6 k).2.2.1 = some (cY6 k) := by decide +kernel
def cR7 : String := "TokenMesh"
def cT7 : u_T := fun k => match k with
  | 0 => ("TokenMesh", "cores", "I", true)
  | 1 => ("TokenMesh", "home", "I", true)
  | 2 => ("TokenMesh", "allTokens", "I", true)
  | 3 => ("TokenMesh", "repeats", "I", true)
  | 4 => ("TokenMesh", "patience", "I", true)
  | 5 => ("TokenMesh", "shares", "[LTokenMesh$Share;", true)
  | 6 => ("TokenMesh", "crew", "[LTokenMesh$Core;", true)
  | 7 => ("TokenMesh", "desks", "[LTokenMesh$Desk;", true)
  | 8 => ("TokenMesh", "lapsed", "[I", true)
  | 9 => ("TokenMesh", "mail", "LTokenMesh$Mail;", true)
  | _ => ("TokenMesh", "time", "I", false)
def cY7 : Nat → FieldType := fun k => match k with
  | 0 => .int
  | 1 => .int
  | 2 => .int
  | 3 => .int
  | 4 => .int
  | 5 => .array (.object "TokenMesh$Share")
  | 6 => .array (.object "TokenMesh$Core")
  | 7 => .array (.object "TokenMesh$Desk")
  | 8 => .array .int
  | 9 => .object "TokenMesh$Mail"
  | _ => .int
theorem cN7 : ∀ a, a < 11 → ∀ b, b < 11 → a ≠ b → (cT7 a).2.1 ≠ (cT7 b).2.1 := by decide +kernel
theorem cO7 : ∀ k, k < 11 → parseFieldDescriptor (cT7 k).2.2.1 = some (cY7 k) := by decide +kernel
def cR8 : String := "TokenMeshModel"
def cT8 : u_T := fun k => match k with
  | 0 => ("TokenMeshModel", "thrown", "I", false)
  | 1 => ("TokenMeshModel", "cores", "I", true)
  | 2 => ("TokenMeshModel", "repeats", "I", true)
  | 3 => ("TokenMeshModel", "patience", "I", true)
  | 4 => ("TokenMeshModel", "time", "I", false)
  | 5 => ("TokenMeshModel", "tokens", "[I", true)
  | 6 => ("TokenMeshModel", "owner", "[Z", true)
  | 7 => ("TokenMeshModel", "valid", "[Z", true)
  | 8 => ("TokenMeshModel", "data", "[I", true)
  | 9 => ("TokenMeshModel", "known", "[I", true)
  | 10 => ("TokenMeshModel", "knownWrite", "[Z", true)
  | 11 => ("TokenMeshModel", "serials", "[I", true)
  | 12 => ("TokenMeshModel", "busy", "[Z", true)
  | 13 => ("TokenMeshModel", "writes", "[Z", true)
  | 14 => ("TokenMeshModel", "persistent", "[Z", true)
  | 15 => ("TokenMeshModel", "blocks", "[I", true)
  | 16 => ("TokenMeshModel", "values", "[I", true)
  | 17 => ("TokenMeshModel", "numbers", "[I", true)
  | 18 => ("TokenMeshModel", "repeated", "[I", true)
  | 19 => ("TokenMeshModel", "due", "[I", true)
  | 20 => ("TokenMeshModel", "endedCount", "[I", true)
  | 21 => ("TokenMeshModel", "results", "[I", true)
  | 22 => ("TokenMeshModel", "rowCores", "[I", true)
  | 23 => ("TokenMeshModel", "rowNumbers", "[I", true)
  | 24 => ("TokenMeshModel", "rowWrites", "[Z", true)
  | 25 => ("TokenMeshModel", "rowSizes", "[I", true)
  | 26 => ("TokenMeshModel", "activeNumbers", "[I", true)
  | 27 => ("TokenMeshModel", "lapsed", "[I", true)
  | 28 => ("TokenMeshModel", "letters", "I", false)
  | 29 => ("TokenMeshModel", "kinds", "[I", true)
  | 30 => ("TokenMeshModel", "tos", "[I", true)
  | 31 => ("TokenMeshModel", "froms", "[I", true)
  | 32 => ("TokenMeshModel", "letterBlocks", "[I", true)
  | 33 => ("TokenMeshModel", "counts", "[I", true)
  | 34 => ("TokenMeshModel", "withOwner", "[Z", true)
  | 35 => ("TokenMeshModel", "withData", "[Z", true)
  | 36 => ("TokenMeshModel", "letterData", "[I", true)
  | 37 => ("TokenMeshModel", "letterNumbers", "[I", true)
  | 38 => ("TokenMeshModel", "letterCores", "[I", true)
  | _ => ("TokenMeshModel", "letterWrites", "[Z", true)
def cY8 : Nat → FieldType := fun k => match k with
  | 0 => .int
  | 1 => .int
  | 2 => .int
  | 3 => .int
  | 4 => .int
  | 5 => .array .int
  | 6 => .array .boolean
  | 7 => .array .boolean
  | 8 => .array .int
  | 9 => .array .int
  | 10 => .array .boolean
  | 11 => .array .int
  | 12 => .array .boolean
  | 13 => .array .boolean
  | 14 => .array .boolean
  | 15 => .array .int
  | 16 => .array .int
  | 17 => .array .int
  | 18 => .array .int
  | 19 => .array .int
  | 20 => .array .int
  | 21 => .array .int
  | 22 => .array .int
  | 23 => .array .int
  | 24 => .array .boolean
  | 25 => .array .int
  | 26 => .array .int
  | 27 => .array .int
  | 28 => .int
  | 29 => .array .int
  | 30 => .array .int
  | 31 => .array .int
  | 32 => .array .int
  | 33 => .array .int
  | 34 => .array .boolean
  | 35 => .array .boolean
  | 36 => .array .int
  | 37 => .array .int
  | 38 => .array .int
  | _ => .array .boolean
theorem cN8 : ∀ a, a < 40 → ∀ b, b < 40 → a ≠ b → (cT8 a).2.1 ≠ (cT8 b).2.1 := by decide +kernel
theorem cO8 : ∀ k, k < 40 → parseFieldDescriptor (cT8 k).2.2.1 = some (cY8 k) := by decide +kernel
abbrev cls : List vw_C := [(cR0, cT0, 3), (cR1, cT1, 10), (cR2, cT2, 3), (cR3, cT3, 11), (cR4, cT4, 2), (cR5, cT5, 3), (cR6, cT6, 7), (cR7, cT7, 11), (cR8, cT8, 40)]
/-- a field's type, by its class's number and its own -/
def fty : Nat → Nat → FieldType := fun ci => match ci with
  | 0 => cY0
  | 1 => cY1
  | 2 => cY2
  | 3 => cY3
  | 4 => cY4
  | 5 => cY5
  | 6 => cY6
  | 7 => cY7
  | _ => cY8
def isR (ci k : Nat) : Bool := match fty ci k with
  | .object _ => true
  | .array _ => true
  | _ => false
/-- the words that hold over every step, and the others -/
def GT : List Cond := lw_tbl.filter goodWord
def isN (w : Cond) : Bool := match w with
  | .methodLinkNest .. => true
  | .castable .. => true
  | .declares .. => true
  | .arrayOver (.object _) => true
  | _ => false
def NT : List Cond := lw_tbl.filter isN
theorem gt_at {w : Cond} (i : Nat) (h : lw_tbl[i]? = some w) (hg : goodWord w = true) : w ∈ GT := List.mem_filter.mpr ⟨List.mem_of_getElem? h, hg⟩
theorem nt_at {w : Cond} (i : Nat) (h : lw_tbl[i]? = some w) (hg : isN w = true) : w ∈ NT := List.mem_filter.mpr ⟨List.mem_of_getElem? h, hg⟩
theorem cI0 : ∀ w ∈ u_ws cR0 cT0 3, w ∈ GT := fun w h => List.mem_filter.mpr ((fun (q : ([186, 182, 184].filterMap (fun i => lw_tbl[i]?) = u_ws cR0 cT0 3) ∧ (u_ws cR0 cT0 3).all goodWord = true) => ⟨(by rw [← q.1] at h; obtain ⟨i, -, hi⟩ := List.mem_filterMap.mp h; exact List.mem_of_getElem? hi), List.all_eq_true.mp q.2 w h⟩) ⟨by decide +kernel, by decide +kernel⟩)
theorem cI1 : ∀ w ∈ u_ws cR1 cT1 10, w ∈ GT := fun w h => List.mem_filter.mpr ((fun (q : ([135, 137, 139, 141, 143, 145, 147, 149, 151, 153].filterMap (fun i => lw_tbl[i]?) = u_ws cR1 cT1 10) ∧ (u_ws cR1 cT1 10).all goodWord = true) => ⟨(by rw [← q.1] at h; obtain ⟨i, -, hi⟩ := List.mem_filterMap.mp h; exact List.mem_of_getElem? hi), List.all_eq_true.mp q.2 w h⟩) ⟨by decide +kernel, by decide +kernel⟩)
theorem cI2 : ∀ w ∈ u_ws cR2 cT2 3, w ∈ GT := fun w h => List.mem_filter.mpr ((fun (q : ([194, 196, 198].filterMap (fun i => lw_tbl[i]?) = u_ws cR2 cT2 3) ∧ (u_ws cR2 cT2 3).all goodWord = true) => ⟨(by rw [← q.1] at h; obtain ⟨i, -, hi⟩ := List.mem_filterMap.mp h; exact List.mem_of_getElem? hi), List.all_eq_true.mp q.2 w h⟩) ⟨by decide +kernel, by decide +kernel⟩)
theorem cI3 : ∀ w ∈ u_ws cR3 cT3 11, w ∈ GT := fun w h => List.mem_filter.mpr ((fun (q : ([404, 406, 408, 410, 412, 414, 416, 418, 420, 422, 424].filterMap (fun i => lw_tbl[i]?) = u_ws cR3 cT3 11) ∧ (u_ws cR3 cT3 11).all goodWord = true) => ⟨(by rw [← q.1] at h; obtain ⟨i, -, hi⟩ := List.mem_filterMap.mp h; exact List.mem_of_getElem? hi), List.all_eq_true.mp q.2 w h⟩) ⟨by decide +kernel, by decide +kernel⟩)
theorem cI4 : ∀ w ∈ u_ws cR4 cT4 2, w ∈ GT := fun w h => List.mem_filter.mpr ((fun (q : ([211, 213].filterMap (fun i => lw_tbl[i]?) = u_ws cR4 cT4 2) ∧ (u_ws cR4 cT4 2).all goodWord = true) => ⟨(by rw [← q.1] at h; obtain ⟨i, -, hi⟩ := List.mem_filterMap.mp h; exact List.mem_of_getElem? hi), List.all_eq_true.mp q.2 w h⟩) ⟨by decide +kernel, by decide +kernel⟩)
theorem cI5 : ∀ w ∈ u_ws cR5 cT5 3, w ∈ GT := fun w h => List.mem_filter.mpr ((fun (q : ([537, 539, 541].filterMap (fun i => lw_tbl[i]?) = u_ws cR5 cT5 3) ∧ (u_ws cR5 cT5 3).all goodWord = true) => ⟨(by rw [← q.1] at h; obtain ⟨i, -, hi⟩ := List.mem_filterMap.mp h; exact List.mem_of_getElem? hi), List.all_eq_true.mp q.2 w h⟩) ⟨by decide +kernel, by decide +kernel⟩)
theorem cI6 : ∀ w ∈ u_ws cR6 cT6 7, w ∈ GT := fun w h => List.mem_filter.mpr ((fun (q : ([95, 97, 99, 101, 103, 105, 107].filterMap (fun i => lw_tbl[i]?) = u_ws cR6 cT6 7) ∧ (u_ws cR6 cT6 7).all goodWord = true) => ⟨(by rw [← q.1] at h; obtain ⟨i, -, hi⟩ := List.mem_filterMap.mp h; exact List.mem_of_getElem? hi), List.all_eq_true.mp q.2 w h⟩) ⟨by decide +kernel, by decide +kernel⟩)
theorem cI7 : ∀ w ∈ u_ws cR7 cT7 11, w ∈ GT := fun w h => List.mem_filter.mpr ((fun (q : ([227, 229, 231, 233, 235, 237, 239, 241, 243, 245, 247].filterMap (fun i => lw_tbl[i]?) = u_ws cR7 cT7 11) ∧ (u_ws cR7 cT7 11).all goodWord = true) => ⟨(by rw [← q.1] at h; obtain ⟨i, -, hi⟩ := List.mem_filterMap.mp h; exact List.mem_of_getElem? hi), List.all_eq_true.mp q.2 w h⟩) ⟨by decide +kernel, by decide +kernel⟩)
theorem cI8 : ∀ w ∈ u_ws cR8 cT8 40, w ∈ GT := fun w h => List.mem_filter.mpr ((fun (q : ([663, 665, 667, 669, 671, 673, 675, 677, 679, 681, 683, 685, 687, 689, 691, 693, 695, 697, 699, 701, 703, 705, 707, 709, 711, 713, 715, 717, 719, 721, 723, 725, 727, 729, 731, 733, 735, 737, 739, 741].filterMap (fun i => lw_tbl[i]?) = u_ws cR8 cT8 40) ∧ (u_ws cR8 cT8 40).all goodWord = true) => ⟨(by rw [← q.1] at h; obtain ⟨i, -, hi⟩ := List.mem_filterMap.mp h; exact List.mem_of_getElem? hi), List.all_eq_true.mp q.2 w h⟩) ⟨by decide +kernel, by decide +kernel⟩)
end
section
/-! THE PURE SIDE: values, the heap as maps by field, what a machine heap that holds it is, the two judgements -/
/-- a value: a whole number, or a reference (0: null, a + 1: the cell at a) -/
abbrev PV : Type := Int32 ⊕ Nat
def tv (v : PV) : Value := match v with
  | .inl x => .int x
  | .inr 0 => .null
  | .inr (a + 1) => .ref a
theorem tv_cat (v : PV) : (tv v).category = 1 := by
  rcases v with x | r
  · rfl
  · cases r <;> rfl
/-- next reference, slots made, the kind of each reference; fields of whole numbers, of references; arrays: length, numbers, references -/
abbrev PS : Type := (Nat × Nat × (Nat → Nat)) × (Nat → Nat → Int32) × (Nat → Nat → Nat) × (Nat → Nat) × (Nat → Nat → Int32) × (Nat → Nat → Nat)
def nx (σ : PS) : Nat := σ.1.1
def sl (σ : PS) : Nat := σ.1.2.1
def tg (σ : PS) : Nat → Nat := σ.1.2.2
def fi (σ : PS) : Nat → Nat → Int32 := σ.2.1
def fr (σ : PS) : Nat → Nat → Nat := σ.2.2.1
def al (σ : PS) : Nat → Nat := σ.2.2.2.1
def ai (σ : PS) : Nat → Nat → Int32 := σ.2.2.2.2.1
def ar (σ : PS) : Nat → Nat → Nat := σ.2.2.2.2.2
def up2 {α : Type} (f : Nat → Nat → α) (i a : Nat) (v : α) : Nat → Nat → α := fun j b => if j = i ∧ b = a then v else f j b
def pfi (σ : PS) (i a : Nat) (v : Int32) : PS := (σ.1, up2 (fi σ) i a v, fr σ, al σ, ai σ, ar σ)
def pfr (σ : PS) (i a : Nat) (v : Nat) : PS := (σ.1, fi σ, up2 (fr σ) i a v, al σ, ai σ, ar σ)
def pai (σ : PS) (a j : Nat) (v : Int32) : PS := (σ.1, fi σ, fr σ, al σ, up2 (ai σ) a j v, ar σ)
def par (σ : PS) (a j : Nat) (v : Nat) : PS := (σ.1, fi σ, fr σ, al σ, ai σ, up2 (ar σ) a j v)
/-- a new object of class ci with N slots; its reference is nx σ -/
def pnew (σ : PS) (ci N : Nat) : PS := ((nx σ + 1, sl σ + N, va_up (tg σ) (nx σ) (ci + 1)), (fun i b => if b = nx σ then 0 else fi σ i b), (fun i b => if b = nx σ then 0 else fr σ i b), al σ, ai σ, ar σ)
/-- a new array of kind ti and length n; its reference is nx σ -/
def parr (σ : PS) (ti n : Nat) : PS := ((nx σ + 1, sl σ + n, va_up (tg σ) (nx σ) (100 + ti)), fi σ, fr σ, va_up (al σ) (nx σ) n, (fun b j => if b = nx σ then 0 else ai σ b j), (fun b j => if b = nx σ then 0 else ar σ b j))
/-- n references copied from a0 at sp to a at dp -/
def pcpy (σ : PS) (a0 sp a dp n : Nat) : PS := (σ.1, fi σ, fr σ, al σ, ai σ, (fun b j => if b = a then va_cpy (ar σ a0) (ar σ a) sp dp n j else ar σ b j))
def fval (σ : PS) (ci k r : Nat) : Value := if isR ci k = true then tv (.inr (fr σ (64 * ci + k) r)) else .int (fi σ (64 * ci + k) r)
/-- classes' ids, slots of fields, ids of array classes, the empty row of ArrayList, the class object of Object[], where the new cells begin; the script: where it lies, its length, its numbers -/
abbrev KX : Type := (Nat → ClassId) × (Nat → Nat → Nat) × (Nat → ClassId) × Nat × Nat × Nat × Nat × Nat × (Nat → Int32)
def kC (K : KX) : Nat → ClassId := K.1
def kI (K : KX) : Nat → Nat → Nat := K.2.1
def kA (K : KX) : Nat → ClassId := K.2.2.1
def kz (K : KX) : Nat := K.2.2.2.1
def km (K : KX) : Nat := K.2.2.2.2.1
def kb (K : KX) : Nat := K.2.2.2.2.2.1
def kx (K : KX) : Nat := K.2.2.2.2.2.2.1
def kL (K : KX) : Nat := K.2.2.2.2.2.2.2.1
def kX (K : KX) : Nat → Int32 := K.2.2.2.2.2.2.2.2
def aty (ti : Nat) : FieldType := match ti with
  | 0 => .int
  | 1 => .boolean
  | 2 => .object "java/lang/Object"
  | 3 => .object "TokenMesh$Share"
  | 4 => .object "TokenMesh$Core"
  | _ => .object "TokenMesh$Desk"
def tys (K : KX) : List (ClassId × FieldType) := [(kA K 0, aty 0), (kA K 1, aty 1), (kA K 2, aty 2), (kA K 3, aty 3), (kA K 4, aty 4), (kA K 5, aty 5)]
def aval (σ : PS) (ti r j : Nat) : Value := if ti < 2 then .int (ai σ r j) else tv (.inr (ar σ r j))
/-- the machine's heap holds the pure one -/
def RepH (K : KX) (σ : PS) (H : Heap) : Prop :=
  nx σ = H.size + 1 ∧ kb K ≤ H.size ∧
  (∀ (a ci : Nat) (q : vw_C), tg σ (a + 1) = ci + 1 → cls[ci]? = some q → kb K ≤ a ∧ t_OB a (kC K ci) q.2.2 (kI K ci) H (fun k => fval σ ci k (a + 1))) ∧
  (∀ (a ti : Nat), ti < 6 → tg σ (a + 1) = 100 + ti → kb K ≤ a ∧ H[a]? = some (arrV (kA K ti) (al σ (a + 1)) (fun j => aval σ ti (a + 1) j))) ∧
  (∀ r : Nat, tg σ r = 99 → r = kz K + 1 ∧ al σ r = 0) ∧ (∀ r : Nat, tg σ r = 98 → r = kx K + 1 ∧ al σ r = kL K ∧ ∀ j : Nat, j < kL K → ai σ r j = kX K j) ∧ tg σ 0 = 0 ∧ al σ 0 = km K + 1
/-- what stands fast: the classes' tables, the words that a call does not hand on by itself, the statics -/
def SF (K : KX) (s : State) : Prop :=
  va_K (kC K, kI K) cls (tys K) s ∧ (∀ w ∈ NT, va_Nw w s) ∧
  va_Z "java/util/ArrayList" "DEFAULTCAPACITY_EMPTY_ELEMENTDATA" "[Ljava/lang/Object;" (.ref (kz K)) (fun q => kb K ≤ q) s s.heap ∧
  va_T (.object "java/lang/Object") (kz K) 0 (fun _ => .null) (fun q => kb K ≤ q) s s.heap ∧ va_Mi "[Ljava/lang/Object;" (km K) s ∧ va_X (kx K) (kL K) (kX K) s s.heap ∧ kx K < kb K
/-- a method: its name, code, number of locals, kind of answer -/
abbrev MM : Type := MethodName × ByteArray × Nat × Option FieldType
def mws (M : MM) : List Cond := Cond.code M.1 M.2.1 M.2.2.1 M.2.2.2 :: GT
def rmd (d c n : Nat) : Room := { frames := d, cells := c, slots := n, locals := 41 * d }
def Pcx (K : KX) (as : List PV) (σ : PS) : Array Value → State → Prop := fun v U => v = (as.map tv).toArray ∧ RepH K σ U.heap ∧ SF K U
def Qcx (K : KX) (v : Option PV) (σ' : PS) : Array Value → State → Outcome → State → Prop := fun _ st o t => o = .returned (v.map tv) ∧ RepH K σ' t.heap ∧ ∀ q : Nat, q < kb K → t.heap[q]? = st.heap[q]?
/-- from σ, called with as, the method comes to an answer and a heap of which P holds; d: how deep its calls go -/
def Ctr (M : MM) (d : Nat) (as : List PV) (σ : PS) (P : Option PV → PS → Prop) : Prop :=
  ∃ (v : Option PV) (σ' : PS), P v σ' ∧ nx σ ≤ nx σ' ∧ sl σ ≤ sl σ' ∧ ∀ (l : Launch) (K : KX), Met l M.1 (mws M) (rmd d (nx σ' - nx σ) (sl σ' - sl σ)) (Pcx K as σ) (Qcx K v σ') (nx σ' - nx σ) (sl σ' - sl σ) (fun q => kb K ≤ q)
/-- what stands fast inside a method -/
def Cx (M : MM) (d : Nat) (K : KX) (p : Program) (R : Room) (s : State) (m : MethodId) (args : Array Value) (meth : Method) (c : Code) : Prop :=
  p.tables.exec = Jvm.exec ∧ c.code = M.2.1 ∧ c.maxLocals = M.2.2.1 ∧ s.vm.findClass M.1.cls = some m.cls ∧ (∀ w ∈ GT, w.before args s = true) ∧ SF K s ∧ d ≤ R.frames ∧ 41 * d ≤ R.locals ∧ meth.name = M.1.name
def dd : List (Nat × PV) → List (Nat × PV)
  | [] => []
  | q :: t => q :: (dd t).filter (fun r => !(r.1 == q.1))
def lget : List (Nat × PV) → Nat → Option PV
  | [], _ => none
  | q :: t, k => if q.1 = k then some q.2 else lget t k
def lvs (lv : List (Nat × PV)) : List (Nat × Value) := (dd lv).map (fun q => (q.1, tv q.2))
def RetI (M : MM) (pc : Nat) (v : Option PV) : Prop :=
  (decode M.2.1 pc = .ok (.ireturn, 1) ∧ ∃ x, v = some (.inl x)) ∨ (decode M.2.1 pc = .ok (.areturn, 1) ∧ ∃ r, v = some (.inr r)) ∨ (decode M.2.1 pc = .ok (.return_, 1) ∧ v = none)
/-- from σ, at pc with locals lv and stack st, the body comes to its return with an answer and a heap of which P holds -/
def Wp (M : MM) (d pc : Nat) (lv : List (Nat × PV)) (st : List PV) (σ : PS) (P : Option PV → PS → Prop) : Prop :=
  ∃ (v : Option PV) (σ' : PS), P v σ' ∧ nx σ ≤ nx σ' ∧ sl σ ≤ sl σ' ∧
    ∀ (p : Program) (l : Launch) (e : Env) (R : Room) (s : State) (m : MethodId) (args : Array Value) (below : List Frame) (meth : Method) (c : Code) (K : KX) (H : Heap) (locs : List Loc) (cells slots : Nat) (ls : Array Slot) (Z : State → Prop),
      Cx M d K p R s m args meth c → RepH K σ H → (∀ q : Nat, q < kb K → H[q]? = s.heap[q]?) → (∀ q ∈ locs, kb K ≤ q.base) →
      cells + (nx σ' - nx σ) ≤ R.cells → slots + (sl σ' - sl σ) ≤ R.slots → lv_has ls M.2.2.1 (lvs lv) →
      (∀ (H' : Heap) (locs' : List Loc) (pc' : Nat) (ls' : Array Slot), RepH K σ' H' → (∀ q : Nat, q < kb K → H'[q]? = s.heap[q]?) → (∀ q ∈ locs', kb K ≤ q.base) → RetI M pc' v →
        W p l e R s m args below meth c H' locs' (cells + (nx σ' - nx σ)) (slots + (sl σ' - sl σ)) Z (F0 m pc' ls' (v.toList.map tv))) →
      W p l e R s m args below meth c H locs cells slots Z (F0 m pc ls (st.map tv))
theorem lget_mem : ∀ (lv : List (Nat × PV)) (k : Nat) (v : PV), lget lv k = some v → (k, v) ∈ dd lv
  | [], k, v, h => by simp [lget] at h
  | q :: t, k, v, h => by
    unfold lget at h
    by_cases hk : q.1 = k
    · rw [if_pos hk] at h
      cases h
      subst hk
      exact List.mem_cons_self
    · rw [if_neg hk] at h
      exact List.mem_cons_of_mem _ (List.mem_filter.mpr ⟨lget_mem t k v h, by simp; exact fun e => hk e.symm⟩)
theorem mem_lget : ∀ (lv : List (Nat × PV)) (k : Nat) (v : PV), (k, v) ∈ dd lv → lget lv k = some v
  | [], k, v, h => by simp [dd] at h
  | q :: t, k, v, h => by
    unfold lget
    rcases List.mem_cons.mp h with h1 | h1
    · rw [← h1]; simp
    · obtain ⟨h2, h3⟩ := List.mem_filter.mp h1
      have hne : ¬ q.1 = k := by
        intro e
        simp at h3
        exact h3 e.symm
      rw [if_neg hne]
      exact mem_lget t k v h2
theorem lvs_get {ls : Array Slot} {n : Nat} {lv : List (Nat × PV)} (h : lv_has ls n (lvs lv)) {k : Nat} {v : PV} (hv : lget lv k = some v) : ls[k]? = some (.val (tv v)) :=
  h.2.2 (k, tv v) (List.mem_map.mpr ⟨(k, v), lget_mem lv k v hv, rfl⟩)
theorem lvs_cons {lv : List (Nat × PV)} {i : Nat} {v : PV} : (i, tv v) :: (lvs lv).filter (fun q => !(q.1 == i) && !(q.1 + 1 == i && q.2.category == 2)) = lvs ((i, v) :: lv) := by
  unfold lvs
  simp only [dd, List.map_cons, List.cons.injEq, true_and]
  rw [List.filter_map]
  congr 1
  apply List.filter_congr
  intro q _
  simp [tv_cat]
/-- a step that leaves heap and locals alone -/
theorem Wp.go {M : MM} {d pc pc' : Nat} {lv : List (Nat × PV)} {st st' : List PV} {σ : PS} {P : Option PV → PS → Prop}
    (h : ∀ (p : Program) (l : Launch) (e : Env) (R : Room) (s : State) (m : MethodId) (args : Array Value) (below : List Frame) (meth : Method) (c : Code) (K : KX) (H : Heap) (locs : List Loc) (cells slots : Nat) (ls : Array Slot) (Z : State → Prop), Cx M d K p R s m args meth c → RepH K σ H → (∀ q : Nat, q < kb K → H[q]? = s.heap[q]?) → (∀ q ∈ locs, kb K ≤ q.base) → lv_has ls M.2.2.1 (lvs lv) →
      W p l e R s m args below meth c H locs cells slots Z (F0 m pc' ls (st'.map tv)) → W p l e R s m args below meth c H locs cells slots Z (F0 m pc ls (st.map tv)))
    (k : Wp M d pc' lv st' σ P) : Wp M d pc lv st σ P := by
  obtain ⟨v, σ', hP, h1, h2, hW⟩ := k
  exact ⟨v, σ', hP, h1, h2, fun p l e R s m args below meth c K H locs cells slots ls Z C hR hB hL hc hs hl hk => h p l e R s m args below meth c K H locs cells slots ls Z C hR hB hL hl (hW p l e R s m args below meth c K H locs cells slots ls Z C hR hB hL hc hs hl hk)⟩
/-- a step that stores one local -/
theorem Wp.store {M : MM} {d pc pc' : Nat} {lv lv' : List (Nat × PV)} {st st' : List PV} {σ : PS} {P : Option PV → PS → Prop}
    (h : ∀ (p : Program) (l : Launch) (e : Env) (R : Room) (s : State) (m : MethodId) (args : Array Value) (below : List Frame) (meth : Method) (c : Code) (K : KX) (H : Heap) (locs : List Loc) (cells slots : Nat) (ls : Array Slot) (Z : State → Prop), Cx M d K p R s m args meth c → lv_has ls M.2.2.1 (lvs lv) →
      (∀ ls' : Array Slot, lv_has ls' M.2.2.1 (lvs lv') → W p l e R s m args below meth c H locs cells slots Z (F0 m pc' ls' (st'.map tv))) → W p l e R s m args below meth c H locs cells slots Z (F0 m pc ls (st.map tv)))
    (k : Wp M d pc' lv' st' σ P) : Wp M d pc lv st σ P := by
  obtain ⟨v, σ', hP, h1, h2, hW⟩ := k
  exact ⟨v, σ', hP, h1, h2, fun p l e R s m args below meth c K H locs cells slots ls Z C hR hB hL hc hs hl hk => h p l e R s m args below meth c K H locs cells slots ls Z C hl (fun ls' hl' => hW p l e R s m args below meth c K H locs cells slots ls' Z C hR hB hL hc hs hl' hk)⟩
theorem Wp.mono {M : MM} {d pc : Nat} {lv : List (Nat × PV)} {st : List PV} {σ : PS} {P P' : Option PV → PS → Prop} (k : Wp M d pc lv st σ P) (h : ∀ v σ', P v σ' → P' v σ') : Wp M d pc lv st σ P' := by
  obtain ⟨v, σ', hP, r⟩ := k
  exact ⟨v, σ', h v σ' hP, r⟩
theorem Ctr.mono {M : MM} {d : Nat} {as : List PV} {σ : PS} {P P' : Option PV → PS → Prop} (k : Ctr M d as σ P) (h : ∀ v σ', P v σ' → P' v σ') : Ctr M d as σ P' := by
  obtain ⟨v, σ', hP, r⟩ := k
  exact ⟨v, σ', h v σ' hP, r⟩
def lsub (lv : List (Nat × PV)) : List (Nat × PV) → Prop
  | [] => True
  | q :: t => lget lv q.1 = some q.2 ∧ lsub lv t
theorem lsub_get {lv : List (Nat × PV)} : ∀ (lv' : List (Nat × PV)), lsub lv lv' → ∀ q ∈ lv', lget lv q.1 = some q.2
  | [], _, q, hq => by cases hq
  | r :: t, h, q, hq => by
    rcases List.mem_cons.mp hq with rfl | h1
    · exact h.1
    · exact lsub_get t h.2 q h1
theorem dd_mem : ∀ (lv : List (Nat × PV)) (q : Nat × PV), q ∈ dd lv → q ∈ lv
  | [], q, h => h
  | r :: t, q, h => by
    rcases List.mem_cons.mp h with rfl | h1
    · exact List.mem_cons_self
    · exact List.mem_cons_of_mem _ (dd_mem t q (List.mem_filter.mp h1).1)
/-- other words for the locals -/
theorem Wp.lv {M : MM} {d pc : Nat} {lv : List (Nat × PV)} (lv' : List (Nat × PV)) {st : List PV} {σ : PS} {P : Option PV → PS → Prop} (h : lsub lv lv') (k : Wp M d pc lv' st σ P) : Wp M d pc lv st σ P := by
  obtain ⟨v, σ', hP, h1, h2, hW⟩ := k
  refine ⟨v, σ', hP, h1, h2, fun p l e R s m args below meth c K H locs cells slots ls Z C hR hB hL hc hs hl hk => hW p l e R s m args below meth c K H locs cells slots ls Z C hR hB hL hc hs ⟨hl.1, hl.2.1, fun q hq => ?_⟩ hk⟩
  obtain ⟨r, hr, rfl⟩ := List.mem_map.mp hq
  exact lvs_get hl (lsub_get lv' h r (dd_mem lv' r hr))
end
section
/-! rows of single instructions that leave the heap alone -/
section RowsA
variable {M : MM} {d pc : Nat} {lv : List (Nat × PV)} {st : List PV} {σ : PS} {P : Option PV → PS → Prop}
theorem p_iconst {n : Int} {x : Int32} (hd : decode M.2.1 pc = .ok (.iconst n, 1)) (hv : Int32.ofInt n = x) (k : Wp M d (pc + 1) lv (.inl x :: st) σ P) : Wp M d pc lv st σ P :=
  Wp.go (fun p l e R s m args below meth c K H locs cells slots ls Z C hR hB hL hl k => lv_iconst C.1 C.2.1 hd hv k) k
theorem p_bipush {n : Int} {x : Int32} (hd : decode M.2.1 pc = .ok (.bipush n, 2)) (hv : (Int8.ofInt n).toInt32 = x) (k : Wp M d (pc + 2) lv (.inl x :: st) σ P) : Wp M d pc lv st σ P :=
  Wp.go (fun p l e R s m args below meth c K H locs cells slots ls Z C hR hB hL hl k => lv_bipush C.1 C.2.1 hd hv k) k
theorem p_sipush {n : Int} {x : Int32} (hd : decode M.2.1 pc = .ok (.sipush n, 3)) (hv : (Int16.ofInt n).toInt32 = x) (k : Wp M d (pc + 3) lv (.inl x :: st) σ P) : Wp M d pc lv st σ P :=
  Wp.go (fun p l e R s m args below meth c K H locs cells slots ls Z C hR hB hL hl k => lv_sipush C.1 C.2.1 hd hv k) k
theorem p_null (hd : decode M.2.1 pc = .ok (.aconst_null, 1)) (k : Wp M d (pc + 1) lv (.inr 0 :: st) σ P) : Wp M d pc lv st σ P :=
  Wp.go (fun p l e R s m args below meth c K H locs cells slots ls Z C hR hB hL hl k => lv_null C.1 C.2.1 hd k) k
theorem p_iload {i : Nat} {x : Int32} (hd : decode M.2.1 pc = .ok (.iload i, 2)) (hv : lget lv i = some (.inl x)) (k : Wp M d (pc + 2) lv (.inl x :: st) σ P) : Wp M d pc lv st σ P :=
  Wp.go (fun p l e R s m args below meth c K H locs cells slots ls Z C hR hB hL hl k => lv_iload C.1 C.2.1 hd (lvs_get hl hv) k) k
theorem p_iload_n {i : Fin 4} {x : Int32} (hd : decode M.2.1 pc = .ok (.iload_n i, 1)) (hv : lget lv i.val = some (.inl x)) (k : Wp M d (pc + 1) lv (.inl x :: st) σ P) : Wp M d pc lv st σ P :=
  Wp.go (fun p l e R s m args below meth c K H locs cells slots ls Z C hR hB hL hl k => lv_iload_n C.1 C.2.1 hd rfl (lvs_get hl hv) k) k
theorem p_aload {i : Nat} {r : Nat} (hd : decode M.2.1 pc = .ok (.aload i, 2)) (hv : lget lv i = some (.inr r)) (k : Wp M d (pc + 2) lv (.inr r :: st) σ P) : Wp M d pc lv st σ P :=
  Wp.go (fun p l e R s m args below meth c K H locs cells slots ls Z C hR hB hL hl k => by
    have h := lvs_get hl hv
    cases r with
    | zero => exact lv_aloadN C.1 C.2.1 hd h k
    | succ a => exact lv_aload C.1 C.2.1 hd h k) k
theorem p_aload_n {i : Fin 4} {r : Nat} (hd : decode M.2.1 pc = .ok (.aload_n i, 1)) (hv : lget lv i.val = some (.inr r)) (k : Wp M d (pc + 1) lv (.inr r :: st) σ P) : Wp M d pc lv st σ P :=
  Wp.go (fun p l e R s m args below meth c K H locs cells slots ls Z C hR hB hL hl k => by
    have h := lvs_get hl hv
    cases r with
    | zero => exact lv_aload_nN C.1 C.2.1 hd rfl h k
    | succ a => exact lv_aload_n C.1 C.2.1 hd rfl h k) k
theorem p_istore {i : Nat} {x : Int32} (hd : decode M.2.1 pc = .ok (.istore i, 2)) (hn : i < M.2.2.1) (k : Wp M d (pc + 2) ((i, .inl x) :: lv) st σ P) : Wp M d pc lv (.inl x :: st) σ P :=
  Wp.store (fun p l e R s m args below meth c K H locs cells slots ls Z C hl k => lv_istore C.1 C.2.1 hd hl hn (lvs_cons (v := .inl x)) k) k
theorem p_istore_n {i : Fin 4} {x : Int32} (hd : decode M.2.1 pc = .ok (.istore_n i, 1)) (hn : i.val < M.2.2.1) (k : Wp M d (pc + 1) ((i.val, .inl x) :: lv) st σ P) : Wp M d pc lv (.inl x :: st) σ P :=
  Wp.store (fun p l e R s m args below meth c K H locs cells slots ls Z C hl k => lv_istore_n C.1 C.2.1 hd rfl hl hn (lvs_cons (v := .inl x)) k) k
theorem p_astore {i : Nat} {r : Nat} (hd : decode M.2.1 pc = .ok (.astore i, 2)) (hn : i < M.2.2.1) (k : Wp M d (pc + 2) ((i, .inr r) :: lv) st σ P) : Wp M d pc lv (.inr r :: st) σ P :=
  Wp.store (fun p l e R s m args below meth c K H locs cells slots ls Z C hl k => by
    cases r with
    | zero => exact lv_astoreN C.1 C.2.1 hd hl hn (lvs_cons (v := .inr 0)) k
    | succ a => exact lv_astore C.1 C.2.1 hd hl hn (lvs_cons (v := .inr (a + 1))) k) k
theorem p_astore_n {i : Fin 4} {r : Nat} (hd : decode M.2.1 pc = .ok (.astore_n i, 1)) (hn : i.val < M.2.2.1) (k : Wp M d (pc + 1) ((i.val, .inr r) :: lv) st σ P) : Wp M d pc lv (.inr r :: st) σ P :=
  Wp.store (fun p l e R s m args below meth c K H locs cells slots ls Z C hl k => by
    cases r with
    | zero => exact lv_astore_nN C.1 C.2.1 hd rfl hl hn (lvs_cons (v := .inr 0)) k
    | succ a => exact lv_astore_n C.1 C.2.1 hd rfl hl hn (lvs_cons (v := .inr (a + 1))) k) k
theorem p_iinc {i : Nat} {n : Int} {x y : Int32} (hd : decode M.2.1 pc = .ok (.iinc i n, 3)) (hv : lget lv i = some (.inl x)) (hy : x + Int32.ofInt n = y) (hn : i < M.2.2.1) (k : Wp M d (pc + 3) ((i, .inl y) :: lv) st σ P) : Wp M d pc lv st σ P :=
  Wp.store (fun p l e R s m args below meth c K H locs cells slots ls Z C hl k => by
    obtain ⟨j, hj⟩ := List.getElem?_of_mem (List.mem_map.mpr ⟨(i, .inl x), lget_mem lv i _ hv, rfl⟩ : (i, tv (.inl x)) ∈ lvs lv)
    exact lv_iinc C.1 C.2.1 hd hl hj hy hn (lvs_cons (v := .inl y)) k) k
theorem p_iadd {x y : Int32} (hd : decode M.2.1 pc = .ok (.iadd, 1)) (k : Wp M d (pc + 1) lv (.inl (x + y) :: st) σ P) : Wp M d pc lv (.inl y :: .inl x :: st) σ P :=
  Wp.go (fun p l e R s m args below meth c K H locs cells slots ls Z C hR hB hL hl k => lv_iadd C.1 C.2.1 hd k) k
theorem p_isub {x y : Int32} (hd : decode M.2.1 pc = .ok (.isub, 1)) (k : Wp M d (pc + 1) lv (.inl (x - y) :: st) σ P) : Wp M d pc lv (.inl y :: .inl x :: st) σ P :=
  Wp.go (fun p l e R s m args below meth c K H locs cells slots ls Z C hR hB hL hl k => lv_isub C.1 C.2.1 hd k) k
theorem p_imul {x y : Int32} (hd : decode M.2.1 pc = .ok (.imul, 1)) (k : Wp M d (pc + 1) lv (.inl (x * y) :: st) σ P) : Wp M d pc lv (.inl y :: .inl x :: st) σ P :=
  Wp.go (fun p l e R s m args below meth c K H locs cells slots ls Z C hR hB hL hl k => lv_imul C.1 C.2.1 hd k) k
theorem p_iand {x y : Int32} (hd : decode M.2.1 pc = .ok (.iand, 1)) (k : Wp M d (pc + 1) lv (.inl (x &&& y) :: st) σ P) : Wp M d pc lv (.inl y :: .inl x :: st) σ P :=
  Wp.go (fun p l e R s m args below meth c K H locs cells slots ls Z C hR hB hL hl k => lv_iand C.1 C.2.1 hd k) k
theorem p_ishr {x y : Int32} (hd : decode M.2.1 pc = .ok (.ishr, 1)) (k : Wp M d (pc + 1) lv (.inl (x >>> (y &&& 31)) :: st) σ P) : Wp M d pc lv (.inl y :: .inl x :: st) σ P :=
  Wp.go (fun p l e R s m args below meth c K H locs cells slots ls Z C hR hB hL hl k => lv_ishr C.1 C.2.1 hd k) k
theorem p_dup {v : PV} (hd : decode M.2.1 pc = .ok (.dup, 1)) (k : Wp M d (pc + 1) lv (v :: v :: st) σ P) : Wp M d pc lv (v :: st) σ P :=
  Wp.go (fun p l e R s m args below meth c K H locs cells slots ls Z C hR hB hL hl k => lv_dup C.1 C.2.1 hd (tv_cat v) k) k
theorem p_dup_x1 {v w : PV} (hd : decode M.2.1 pc = .ok (.dup_x1, 1)) (k : Wp M d (pc + 1) lv (v :: w :: v :: st) σ P) : Wp M d pc lv (v :: w :: st) σ P :=
  Wp.go (fun p l e R s m args below meth c K H locs cells slots ls Z C hR hB hL hl k => lv_dup_x1 C.1 C.2.1 hd (tv_cat v) (tv_cat w) k) k
theorem p_dup2 {v w : PV} (hd : decode M.2.1 pc = .ok (.dup2, 1)) (k : Wp M d (pc + 1) lv (v :: w :: v :: w :: st) σ P) : Wp M d pc lv (v :: w :: st) σ P :=
  Wp.go (fun p l e R s m args below meth c K H locs cells slots ls Z C hR hB hL hl k => lv_dup2_11 C.1 C.2.1 hd (tv_cat v) (tv_cat w) k) k
theorem p_pop {v : PV} (hd : decode M.2.1 pc = .ok (.pop, 1)) (k : Wp M d (pc + 1) lv st σ P) : Wp M d pc lv (v :: st) σ P :=
  Wp.go (fun p l e R s m args below meth c K H locs cells slots ls Z C hR hB hL hl k => lv_pop C.1 C.2.1 hd (tv_cat v) k) k
theorem p_goto {off : Int} {tgt : Nat} (hd : decode M.2.1 pc = .ok (.goto off, 3)) (ht : (pc : Int) + off = (tgt : Int)) (k : Wp M d tgt lv st σ P) : Wp M d pc lv st σ P :=
  Wp.go (fun p l e R s m args below meth c K H locs cells slots ls Z C hR hB hL hl k => lv_goto C.1 C.2.1 hd ht k) k
theorem p_if_eq {x : Int32} {off : Int} {tgt : Nat} (hd : decode M.2.1 pc = .ok (.ifCond .eq off, 3)) (ht : (pc : Int) + off = (tgt : Int)) (kt : x = 0 → Wp M d tgt lv st σ P) (kf : ¬ (x = 0) → Wp M d (pc + 3) lv st σ P) : Wp M d pc lv (.inl x :: st) σ P := by
  by_cases h : x = 0
  · exact Wp.go (fun p l e R s m args below meth c K H locs cells slots ls Z C hR hB hL hl k => lv_if_eq C.1 C.2.1 hd ht (fun _ => k) (fun q => absurd h q)) (kt h)
  · exact Wp.go (fun p l e R s m args below meth c K H locs cells slots ls Z C hR hB hL hl k => lv_if_eq C.1 C.2.1 hd ht (fun q => absurd q h) (fun _ => k)) (kf h)
theorem p_icmp_eq {x y : Int32} {off : Int} {tgt : Nat} (hd : decode M.2.1 pc = .ok (.if_icmp .eq off, 3)) (ht : (pc : Int) + off = (tgt : Int)) (kt : x = y → Wp M d tgt lv st σ P) (kf : ¬ (x = y) → Wp M d (pc + 3) lv st σ P) : Wp M d pc lv (.inl y :: .inl x :: st) σ P := by
  by_cases h : x = y
  · exact Wp.go (fun p l e R s m args below meth c K H locs cells slots ls Z C hR hB hL hl k => lv_icmp_eq C.1 C.2.1 hd ht (fun _ => k) (fun q => absurd h q)) (kt h)
  · exact Wp.go (fun p l e R s m args below meth c K H locs cells slots ls Z C hR hB hL hl k => lv_icmp_eq C.1 C.2.1 hd ht (fun q => absurd q h) (fun _ => k)) (kf h)
theorem p_if_ne {x : Int32} {off : Int} {tgt : Nat} (hd : decode M.2.1 pc = .ok (.ifCond .ne off, 3)) (ht : (pc : Int) + off = (tgt : Int)) (kt : ¬ x = 0 → Wp M d tgt lv st σ P) (kf : x = 0 → Wp M d (pc + 3) lv st σ P) : Wp M d pc lv (.inl x :: st) σ P := by
  by_cases h : x = 0
  · exact Wp.go (fun p l e R s m args below meth c K H locs cells slots ls Z C hR hB hL hl k => lv_if_ne C.1 C.2.1 hd ht (fun q => absurd h q) (fun _ => k)) (kf h)
  · exact Wp.go (fun p l e R s m args below meth c K H locs cells slots ls Z C hR hB hL hl k => lv_if_ne C.1 C.2.1 hd ht (fun _ => k) (fun q => absurd q h)) (kt h)
theorem p_icmp_ne {x y : Int32} {off : Int} {tgt : Nat} (hd : decode M.2.1 pc = .ok (.if_icmp .ne off, 3)) (ht : (pc : Int) + off = (tgt : Int)) (kt : ¬ x = y → Wp M d tgt lv st σ P) (kf : x = y → Wp M d (pc + 3) lv st σ P) : Wp M d pc lv (.inl y :: .inl x :: st) σ P := by
  by_cases h : x = y
  · exact Wp.go (fun p l e R s m args below meth c K H locs cells slots ls Z C hR hB hL hl k => lv_icmp_ne C.1 C.2.1 hd ht (fun q => absurd h q) (fun _ => k)) (kf h)
  · exact Wp.go (fun p l e R s m args below meth c K H locs cells slots ls Z C hR hB hL hl k => lv_icmp_ne C.1 C.2.1 hd ht (fun _ => k) (fun q => absurd q h)) (kt h)
theorem p_if_lt {x : Int32} {off : Int} {tgt : Nat} (hd : decode M.2.1 pc = .ok (.ifCond .lt off, 3)) (ht : (pc : Int) + off = (tgt : Int)) (kt : x < 0 → Wp M d tgt lv st σ P) (kf : ¬ (x < 0) → Wp M d (pc + 3) lv st σ P) : Wp M d pc lv (.inl x :: st) σ P := by
  by_cases h : x < 0
  · exact Wp.go (fun p l e R s m args below meth c K H locs cells slots ls Z C hR hB hL hl k => lv_if_lt C.1 C.2.1 hd ht (fun _ => k) (fun q => absurd h q)) (kt h)
  · exact Wp.go (fun p l e R s m args below meth c K H locs cells slots ls Z C hR hB hL hl k => lv_if_lt C.1 C.2.1 hd ht (fun q => absurd q h) (fun _ => k)) (kf h)
theorem p_icmp_lt {x y : Int32} {off : Int} {tgt : Nat} (hd : decode M.2.1 pc = .ok (.if_icmp .lt off, 3)) (ht : (pc : Int) + off = (tgt : Int)) (kt : x < y → Wp M d tgt lv st σ P) (kf : ¬ (x < y) → Wp M d (pc + 3) lv st σ P) : Wp M d pc lv (.inl y :: .inl x :: st) σ P := by
  by_cases h : x < y
  · exact Wp.go (fun p l e R s m args below meth c K H locs cells slots ls Z C hR hB hL hl k => lv_icmp_lt C.1 C.2.1 hd ht (fun _ => k) (fun q => absurd h q)) (kt h)
  · exact Wp.go (fun p l e R s m args below meth c K H locs cells slots ls Z C hR hB hL hl k => lv_icmp_lt C.1 C.2.1 hd ht (fun q => absurd q h) (fun _ => k)) (kf h)
theorem p_if_ge {x : Int32} {off : Int} {tgt : Nat} (hd : decode M.2.1 pc = .ok (.ifCond .ge off, 3)) (ht : (pc : Int) + off = (tgt : Int)) (kt : 0 ≤ x → Wp M d tgt lv st σ P) (kf : ¬ (0 ≤ x) → Wp M d (pc + 3) lv st σ P) : Wp M d pc lv (.inl x :: st) σ P := by
  by_cases h : 0 ≤ x
  · exact Wp.go (fun p l e R s m args below meth c K H locs cells slots ls Z C hR hB hL hl k => lv_if_ge C.1 C.2.1 hd ht (fun _ => k) (fun q => absurd h q)) (kt h)
  · exact Wp.go (fun p l e R s m args below meth c K H locs cells slots ls Z C hR hB hL hl k => lv_if_ge C.1 C.2.1 hd ht (fun q => absurd q h) (fun _ => k)) (kf h)
theorem p_icmp_ge {x y : Int32} {off : Int} {tgt : Nat} (hd : decode M.2.1 pc = .ok (.if_icmp .ge off, 3)) (ht : (pc : Int) + off = (tgt : Int)) (kt : y ≤ x → Wp M d tgt lv st σ P) (kf : ¬ (y ≤ x) → Wp M d (pc + 3) lv st σ P) : Wp M d pc lv (.inl y :: .inl x :: st) σ P := by
  by_cases h : y ≤ x
  · exact Wp.go (fun p l e R s m args below meth c K H locs cells slots ls Z C hR hB hL hl k => lv_icmp_ge C.1 C.2.1 hd ht (fun _ => k) (fun q => absurd h q)) (kt h)
  · exact Wp.go (fun p l e R s m args below meth c K H locs cells slots ls Z C hR hB hL hl k => lv_icmp_ge C.1 C.2.1 hd ht (fun q => absurd q h) (fun _ => k)) (kf h)
theorem p_if_gt {x : Int32} {off : Int} {tgt : Nat} (hd : decode M.2.1 pc = .ok (.ifCond .gt off, 3)) (ht : (pc : Int) + off = (tgt : Int)) (kt : 0 < x → Wp M d tgt lv st σ P) (kf : ¬ (0 < x) → Wp M d (pc + 3) lv st σ P) : Wp M d pc lv (.inl x :: st) σ P := by
  by_cases h : 0 < x
  · exact Wp.go (fun p l e R s m args below meth c K H locs cells slots ls Z C hR hB hL hl k => lv_if_gt C.1 C.2.1 hd ht (fun _ => k) (fun q => absurd h q)) (kt h)
  · exact Wp.go (fun p l e R s m args below meth c K H locs cells slots ls Z C hR hB hL hl k => lv_if_gt C.1 C.2.1 hd ht (fun q => absurd q h) (fun _ => k)) (kf h)
theorem p_icmp_gt {x y : Int32} {off : Int} {tgt : Nat} (hd : decode M.2.1 pc = .ok (.if_icmp .gt off, 3)) (ht : (pc : Int) + off = (tgt : Int)) (kt : y < x → Wp M d tgt lv st σ P) (kf : ¬ (y < x) → Wp M d (pc + 3) lv st σ P) : Wp M d pc lv (.inl y :: .inl x :: st) σ P := by
  by_cases h : y < x
  · exact Wp.go (fun p l e R s m args below meth c K H locs cells slots ls Z C hR hB hL hl k => lv_icmp_gt C.1 C.2.1 hd ht (fun _ => k) (fun q => absurd h q)) (kt h)
  · exact Wp.go (fun p l e R s m args below meth c K H locs cells slots ls Z C hR hB hL hl k => lv_icmp_gt C.1 C.2.1 hd ht (fun q => absurd q h) (fun _ => k)) (kf h)
theorem p_if_le {x : Int32} {off : Int} {tgt : Nat} (hd : decode M.2.1 pc = .ok (.ifCond .le off, 3)) (ht : (pc : Int) + off = (tgt : Int)) (kt : x ≤ 0 → Wp M d tgt lv st σ P) (kf : ¬ (x ≤ 0) → Wp M d (pc + 3) lv st σ P) : Wp M d pc lv (.inl x :: st) σ P := by
  by_cases h : x ≤ 0
  · exact Wp.go (fun p l e R s m args below meth c K H locs cells slots ls Z C hR hB hL hl k => lv_if_le C.1 C.2.1 hd ht (fun _ => k) (fun q => absurd h q)) (kt h)
  · exact Wp.go (fun p l e R s m args below meth c K H locs cells slots ls Z C hR hB hL hl k => lv_if_le C.1 C.2.1 hd ht (fun q => absurd q h) (fun _ => k)) (kf h)
theorem p_icmp_le {x y : Int32} {off : Int} {tgt : Nat} (hd : decode M.2.1 pc = .ok (.if_icmp .le off, 3)) (ht : (pc : Int) + off = (tgt : Int)) (kt : x ≤ y → Wp M d tgt lv st σ P) (kf : ¬ (x ≤ y) → Wp M d (pc + 3) lv st σ P) : Wp M d pc lv (.inl y :: .inl x :: st) σ P := by
  by_cases h : x ≤ y
  · exact Wp.go (fun p l e R s m args below meth c K H locs cells slots ls Z C hR hB hL hl k => lv_icmp_le C.1 C.2.1 hd ht (fun _ => k) (fun q => absurd h q)) (kt h)
  · exact Wp.go (fun p l e R s m args below meth c K H locs cells slots ls Z C hR hB hL hl k => lv_icmp_le C.1 C.2.1 hd ht (fun q => absurd q h) (fun _ => k)) (kf h)
theorem p_ifnull {off : Int} {tgt r : Nat} (hd : decode M.2.1 pc = .ok (.ifnull off, 3)) (ht : (pc : Int) + off = (tgt : Int)) (kt : r = 0 → Wp M d tgt lv st σ P) (kf : r ≠ 0 → Wp M d (pc + 3) lv st σ P) : Wp M d pc lv (.inr r :: st) σ P := by
  cases r with
  | zero => exact Wp.go (fun p l e R s m args below meth c K H locs cells slots ls Z C hR hB hL hl k => lv_ifnullN C.1 C.2.1 hd ht k) (kt rfl)
  | succ a => exact Wp.go (fun p l e R s m args below meth c K H locs cells slots ls Z C hR hB hL hl k => lv_ifnull C.1 C.2.1 hd k) (kf (by omega))
theorem p_ifnonnull {off : Int} {tgt r : Nat} (hd : decode M.2.1 pc = .ok (.ifnonnull off, 3)) (ht : (pc : Int) + off = (tgt : Int)) (kt : r ≠ 0 → Wp M d tgt lv st σ P) (kf : r = 0 → Wp M d (pc + 3) lv st σ P) : Wp M d pc lv (.inr r :: st) σ P := by
  cases r with
  | zero => exact Wp.go (fun p l e R s m args below meth c K H locs cells slots ls Z C hR hB hL hl k => lv_ifnonnullN C.1 C.2.1 hd k) (kf rfl)
  | succ a => exact Wp.go (fun p l e R s m args below meth c K H locs cells slots ls Z C hR hB hL hl k => lv_ifnonnull C.1 C.2.1 hd ht k) (kt (by omega))
theorem tv_rf (r : Nat) : ∃ o : Option Nat, tv (.inr r) = va_rf o ∧ (∀ r' o', tv (.inr r') = va_rf o' → (o = o' ↔ r = r')) := by
  have key : ∀ (r : Nat) (o : Option Nat), tv (.inr r) = va_rf o → (r = 0 ∧ o = none) ∨ ∃ a, r = a + 1 ∧ o = some a := by
    intro r o h
    cases r with
    | zero => cases o with
      | none => exact Or.inl ⟨rfl, rfl⟩
      | some a => simp [tv, va_rf] at h
    | succ b => cases o with
      | none => simp [tv, va_rf] at h
      | some a => simp [tv, va_rf] at h; exact Or.inr ⟨a, by rw [h], rfl⟩
  refine ⟨match r with | 0 => none | a + 1 => some a, ?_, fun r' o' h => ?_⟩
  · cases r <;> rfl
  · rcases key r' o' h with ⟨h1, h2⟩ | ⟨a, h1, h2⟩
    · subst h1; subst h2
      cases r <;> simp
    · subst h1; subst h2
      cases r <;> simp
theorem p_acmp_ne {off : Int} {tgt r r' : Nat} (hd : decode M.2.1 pc = .ok (.if_acmp .ne off, 3)) (ht : (pc : Int) + off = (tgt : Int)) (kt : r ≠ r' → Wp M d tgt lv st σ P) (kf : r = r' → Wp M d (pc + 3) lv st σ P) : Wp M d pc lv (.inr r' :: .inr r :: st) σ P := by
  obtain ⟨o, h1, h2⟩ := tv_rf r
  obtain ⟨o', h3, -⟩ := tv_rf r'
  by_cases h : r = r'
  · refine Wp.go (fun p l e R s m args below meth c K H locs cells slots ls Z C hR hB hL hl k => ?_) (kf h)
    show W p l e R s m args below meth c H locs cells slots Z (F0 m pc ls (tv (.inr r') :: tv (.inr r) :: st.map tv))
    rw [h3, h1]
    exact lv_acmp_ne C.1 C.2.1 hd ht (fun q => absurd ((h2 r' o' h3).mpr h) q) (fun _ => k)
  · refine Wp.go (fun p l e R s m args below meth c K H locs cells slots ls Z C hR hB hL hl k => ?_) (kt h)
    show W p l e R s m args below meth c H locs cells slots Z (F0 m pc ls (tv (.inr r') :: tv (.inr r) :: st.map tv))
    rw [h3, h1]
    exact lv_acmp_ne C.1 C.2.1 hd ht (fun _ => k) (fun q => absurd ((h2 r' o' h3).mp q) h)
theorem p_acmp_eq {off : Int} {tgt r r' : Nat} (hd : decode M.2.1 pc = .ok (.if_acmp .eq off, 3)) (ht : (pc : Int) + off = (tgt : Int)) (kt : r = r' → Wp M d tgt lv st σ P) (kf : r ≠ r' → Wp M d (pc + 3) lv st σ P) : Wp M d pc lv (.inr r' :: .inr r :: st) σ P := by
  obtain ⟨o, h1, h2⟩ := tv_rf r
  obtain ⟨o', h3, -⟩ := tv_rf r'
  by_cases h : r = r'
  · refine Wp.go (fun p l e R s m args below meth c K H locs cells slots ls Z C hR hB hL hl k => ?_) (kt h)
    show W p l e R s m args below meth c H locs cells slots Z (F0 m pc ls (tv (.inr r') :: tv (.inr r) :: st.map tv))
    rw [h3, h1]
    exact lv_acmp_eq C.1 C.2.1 hd ht (fun _ => k) (fun q => absurd ((h2 r' o' h3).mpr h) q)
  · refine Wp.go (fun p l e R s m args below meth c K H locs cells slots ls Z C hR hB hL hl k => ?_) (kf h)
    show W p l e R s m args below meth c H locs cells slots Z (F0 m pc ls (tv (.inr r') :: tv (.inr r) :: st.map tv))
    rw [h3, h1]
    exact lv_acmp_eq C.1 C.2.1 hd ht (fun q => absurd ((h2 r' o' h3).mp q) h) (fun _ => k)
theorem p_tableIn {dflt lo hi : Int} {offs : Array Int} {len : Nat} {x : Int32} {off : Int} {tgt : Nat} (hd : decode M.2.1 pc = .ok (.tableswitch dflt lo hi offs, len)) (h1 : ¬ x.toInt < lo) (h2 : ¬ hi < x.toInt) (ho : offs[(x.toInt - lo).toNat]? = some off) (ht : (pc : Int) + off = (tgt : Int)) (k : Wp M d tgt lv st σ P) : Wp M d pc lv (.inl x :: st) σ P :=
  Wp.go (fun p l e R s m args below meth c K H locs cells slots ls Z C hR hB hL hl k => lv_tableIn C.1 C.2.1 hd h1 h2 ho ht k) k
theorem p_tableOut {dflt lo hi : Int} {offs : Array Int} {len : Nat} {x : Int32} {tgt : Nat} (hd : decode M.2.1 pc = .ok (.tableswitch dflt lo hi offs, len)) (h : x.toInt < lo ∨ hi < x.toInt) (ht : (pc : Int) + dflt = (tgt : Int)) (k : Wp M d tgt lv st σ P) : Wp M d pc lv (.inl x :: st) σ P :=
  Wp.go (fun p l e R s m args below meth c K H locs cells slots ls Z C hR hB hL hl k => lv_tableOut C.1 C.2.1 hd h ht k) k
theorem p_ldc {index : Nat} {x : Int32} (hd : decode M.2.1 pc = .ok (.ldc index, 2)) (hw : Cond.constant M.1.cls index x ∈ GT) (k : Wp M d (pc + 2) lv (.inl x :: st) σ P) : Wp M d pc lv st σ P :=
  Wp.go (fun p l e R s m args below meth c K H locs cells slots ls Z C hR hB hL hl k => lv_ldc C.1 C.2.1 C.2.2.2.1 (C.2.2.2.2.1 _ hw) hd k) k
theorem p_ret (hd : decode M.2.1 pc = .ok (.return_, 1)) (h : P none σ) : Wp M d pc lv [] σ P :=
  ⟨none, σ, h, Nat.le_refl _, Nat.le_refl _, fun p l e R s m args below meth c K H locs cells slots ls Z C hR hB hL hc hs hl hk => by
    have := hk H locs pc ls hR hB hL (Or.inr (Or.inr ⟨hd, rfl⟩))
    simpa using this⟩
theorem p_iret {x : Int32} (hd : decode M.2.1 pc = .ok (.ireturn, 1)) (h : P (some (.inl x)) σ) : Wp M d pc lv [.inl x] σ P :=
  ⟨some (.inl x), σ, h, Nat.le_refl _, Nat.le_refl _, fun p l e R s m args below meth c K H locs cells slots ls Z C hR hB hL hc hs hl hk => by
    have := hk H locs pc ls hR hB hL (Or.inl ⟨hd, x, rfl⟩)
    simpa using this⟩
theorem p_aret {r : Nat} (hd : decode M.2.1 pc = .ok (.areturn, 1)) (h : P (some (.inr r)) σ) : Wp M d pc lv [.inr r] σ P :=
  ⟨some (.inr r), σ, h, Nat.le_refl _, Nat.le_refl _, fun p l e R s m args below meth c K H locs cells slots ls Z C hR hB hL hc hs hl hk => by
    have := hk H locs pc ls hR hB hL (Or.inr (Or.inl ⟨hd, r, rfl⟩))
    simpa using this⟩
end RowsA
end
section
/-! rows of single instructions that read or write the heap -/
theorem cls_in {ci : Nat} {q : vw_C} (hc : cls[ci]? = some q) : ∀ w ∈ u_ws q.1 q.2.1 q.2.2, w ∈ GT := by
  match ci, hc with
  | 0, hc => cases hc; exact cI0
  | 1, hc => cases hc; exact cI1
  | 2, hc => cases hc; exact cI2
  | 3, hc => cases hc; exact cI3
  | 4, hc => cases hc; exact cI4
  | 5, hc => cases hc; exact cI5
  | 6, hc => cases hc; exact cI6
  | 7, hc => cases hc; exact cI7
  | 8, hc => cases hc; exact cI8
  | n + 9, hc => simp [cls] at hc
theorem cls_nm {ci : Nat} {q : vw_C} (hc : cls[ci]? = some q) : ∀ a, a < q.2.2 → ∀ b, b < q.2.2 → a ≠ b → (q.2.1 a).2.1 ≠ (q.2.1 b).2.1 := by
  match ci, hc with
  | 0, hc => cases hc; exact cN0
  | 1, hc => cases hc; exact cN1
  | 2, hc => cases hc; exact cN2
  | 3, hc => cases hc; exact cN3
  | 4, hc => cases hc; exact cN4
  | 5, hc => cases hc; exact cN5
  | 6, hc => cases hc; exact cN6
  | 7, hc => cases hc; exact cN7
  | 8, hc => cases hc; exact cN8
  | n + 9, hc => simp [cls] at hc
theorem cls_ty {ci : Nat} {q : vw_C} (hc : cls[ci]? = some q) : ∀ k, k < q.2.2 → parseFieldDescriptor (q.2.1 k).2.2.1 = some (fty ci k) := by
  match ci, hc with
  | 0, hc => cases hc; exact cO0
  | 1, hc => cases hc; exact cO1
  | 2, hc => cases hc; exact cO2
  | 3, hc => cases hc; exact cO3
  | 4, hc => cases hc; exact cO4
  | 5, hc => cases hc; exact cO5
  | 6, hc => cases hc; exact cO6
  | 7, hc => cases hc; exact cO7
  | 8, hc => cases hc; exact cO8
  | n + 9, hc => simp [cls] at hc
theorem cls_le {ci : Nat} {q : vw_C} (hc : cls[ci]? = some q) : q.2.2 ≤ 40 ∧ ci < 9 := by
  match ci, hc with
  | 0, hc => cases hc; exact ⟨by decide, by decide⟩
  | 1, hc => cases hc; exact ⟨by decide, by decide⟩
  | 2, hc => cases hc; exact ⟨by decide, by decide⟩
  | 3, hc => cases hc; exact ⟨by decide, by decide⟩
  | 4, hc => cases hc; exact ⟨by decide, by decide⟩
  | 5, hc => cases hc; exact ⟨by decide, by decide⟩
  | 6, hc => cases hc; exact ⟨by decide, by decide⟩
  | 7, hc => cases hc; exact ⟨by decide, by decide⟩
  | 8, hc => cases hc; exact ⟨by decide, by decide⟩
  | n + 9, hc => simp [cls] at hc
theorem fty_dv : ∀ ci, ci < 9 → ∀ k, k < 40 → defaultValue (fty ci k) = if isR ci k = true then Value.null else .int 0 := by decide +kernel
theorem fty_rf : ∀ ci, ci < 9 → ∀ k, k < 40 → isR ci k = true → (∃ n, fty ci k = .object n) ∨ ∃ t, fty ci k = .array t := by
  intro ci _ k _ h
  unfold isR at h
  split at h
  · exact Or.inl ⟨_, by assumption⟩
  · exact Or.inr ⟨_, by assumption⟩
  · cases h
/-- a field, as the instruction at pool index idx of class own names it -/
def FS (own : String) (idx ci k : Nat) : Prop := ∃ (q : vw_C) (ref : String), cls[ci]? = some q ∧ k < q.2.2 ∧ Cond.fieldLink own idx ref (q.2.1 k).2.1 (q.2.1 k).2.2.1 ∈ GT ∧ (ref = (q.2.1 k).1 ∨ Cond.sameField ref (q.2.1 k).1 (q.2.1 k).2.1 (q.2.1 k).2.2.1 ∈ GT)
theorem Cx.w {M : MM} {d : Nat} {K : KX} {p : Program} {R : Room} {s : State} {m : MethodId} {args : Array Value} {meth : Method} {c : Code} (C : Cx M d K p R s m args meth c) {w : Cond} (h : w ∈ GT) : w.before args s = true := C.2.2.2.2.1 _ h
theorem FS.same {own : String} {idx ci k : Nat} {q : vw_C} {ref : String} {s : State} {args : Array Value} (hts : ∀ w ∈ GT, w.before args s = true) (h : ref = (q.2.1 k).1 ∨ Cond.sameField ref (q.2.1 k).1 (q.2.1 k).2.1 (q.2.1 k).2.2.1 ∈ GT) : ∀ x, s.fieldFound? (q.2.1 k).1 (q.2.1 k).2.1 (q.2.1 k).2.2.1 = some x → s.fieldFound? ref (q.2.1 k).2.1 (q.2.1 k).2.2.1 = some x := by
  rcases h with rfl | h
  · exact fun x h => h
  · exact u_same (hts _ h)
theorem fval_int {σ : PS} {ci k r : Nat} (h : isR ci k = false) : fval σ ci k r = .int (fi σ (64 * ci + k) r) := by simp [fval, h]
theorem fval_ref {σ : PS} {ci k r : Nat} (h : isR ci k = true) : fval σ ci k r = tv (.inr (fr σ (64 * ci + k) r)) := by simp [fval, h]
/-- the heap behind a store into a field -/
theorem RepH.put {K : KX} {σ σ' : PS} {H H' : Heap} {a ci k : Nat} {v : Value} {q : vw_C} (hR : RepH K σ H) (ht : tg σ (a + 1) = ci + 1) (hc : cls[ci]? = some q) (hk : k < q.2.2)
    (hap : ∀ x y, x < q.2.2 → y < q.2.2 → x ≠ y → kI K ci x ≠ kI K ci y) {cell : Cell} (hcell : H[a]? = some cell) (e1 : H'[a]? = some (cell.setSlot (kI K ci k) v)) (e2 : H'.size = H.size) (e3 : ∀ q, q ≠ a → H'[q]? = H[q]?)
    (h1 : σ'.1 = σ.1) (h2 : al σ' = al σ) (h3 : ai σ' = ai σ) (h4 : ar σ' = ar σ) (hf : ∀ ci' k' r' : Nat, k' < 40 → fval σ' ci' k' r' = if r' = a + 1 ∧ ci' = ci ∧ k' = k then v else fval σ ci' k' r') : RepH K σ' H' := by
  obtain ⟨r1, r2, r3, r4, r5, r6, r7⟩ := hR
  have n1 : nx σ' = nx σ := by unfold nx; rw [h1]
  have t1 : tg σ' = tg σ := by unfold tg; rw [h1]
  refine ⟨by rw [n1, e2]; exact r1, by rw [e2]; exact r2, fun b cj q' hb hq' => ?_, fun b ti hti hb => ?_, fun r hr => ?_, fun r hr => ?_, by rw [t1, h2]; exact r7⟩
  · rw [t1] at hb
    obtain ⟨g1, g2⟩ := r3 b cj q' hb hq'
    refine ⟨g1, ?_⟩
    by_cases hba : b = a
    · subst hba
      have hcc : cj = ci := by omega
      subst hcc
      cases hc.symm.trans hq'
      obtain ⟨cell', f1, f2, f3, f4⟩ := g2
      cases hcell.symm.trans f1
      refine t_OB.to (V := updV (fun k => fval σ cj k (b + 1)) k v) ⟨_, e1, f2, f3, t_set f4 hap hk v⟩ (fun j hj => ?_)
      rw [hf cj j (b + 1) (Nat.lt_of_lt_of_le hj (cls_le hc).1)]
      unfold updV
      by_cases hjk : j = k
      · subst hjk; simp
      · rw [if_neg hjk, if_neg (fun z => hjk z.2.2)]
    · refine (g2.kept (e3 b hba)).to (fun j hj => ?_)
      rw [hf cj j (b + 1) (Nat.lt_of_lt_of_le hj (cls_le hq').1), if_neg (fun z => hba (by omega))]
  · rw [t1] at hb
    obtain ⟨g1, g2⟩ := r4 b ti hti hb
    have hba : b ≠ a := by
      rintro rfl
      have := (cls_le hc).2
      omega
    refine ⟨g1, ?_⟩
    rw [e3 b hba, g2, h2]
    unfold aval
    rw [h3, h4]
  · rw [t1] at hr
    rw [h2]
    exact r5 r hr
  · rw [t1] at hr
    rw [h2, h3]
    exact r6 r hr
section RowsB
variable {M : MM} {d pc : Nat} {lv : List (Nat × PV)} {st : List PV} {σ : PS} {P : Option PV → PS → Prop}
theorem RepH.pos {K : KX} {H : Heap} (hR : RepH K σ H) {r n : Nat} (h : tg σ r = n + 1) : ∃ a, r = a + 1 := by
  cases r with
  | zero => rw [hR.2.2.2.2.2.2.1] at h; omega
  | succ a => exact ⟨a, rfl⟩
theorem getf_go {idx ci k r : Nat} {v : PV} (hd : decode M.2.1 pc = .ok (.getfield idx, 3)) (hf : FS M.1.cls idx ci k) (ht : tg σ r = ci + 1) (hv : fval σ ci k r = tv v) (kk : Wp M d (pc + 3) lv (v :: st) σ P) : Wp M d pc lv (.inr r :: st) σ P := by
  obtain ⟨q, ref, hc, hkN, hw, hs⟩ := hf
  refine Wp.go (fun p l e R s m args below meth c K H locs cells slots ls Z C hR hB hL hl kk => ?_) kk
  obtain ⟨a, rfl⟩ := hR.pos ht
  obtain ⟨-, cell, g1, g2, g3, g4⟩ := hR.2.2.1 a ci q ht hc
  obtain ⟨hS, hfc, kC, hkC, hkind⟩ := C.2.2.2.2.2.1.1.1 ci q hc
  obtain ⟨cf, kf, fi, f, hi, hsl⟩ := hS k hkN
  refine W.getf C.1 C.2.1 C.2.2.2.1 (C.w hw) (FS.same (own := "") (idx := 0) (ci := 0) (fun w h => C.w h) hs _ hi) (u_facts hfc hkC (u_lays (fun w h => C.w h) (cls_in hc) hkN) hi).1 g1 (by rw [g3]; exact fun h => by cases h) (v := tv v) ?_ rfl rfl hd kk
  rw [hsl]
  show cell.slots[kI K ci k]? = _
  rw [g4 k hkN]
  exact congrArg some hv
theorem p_getI {idx ci k r : Nat} (hd : decode M.2.1 pc = .ok (.getfield idx, 3)) (hf : FS M.1.cls idx ci k) (hk : isR ci k = false) (ht : tg σ r = ci + 1) (kk : Wp M d (pc + 3) lv (.inl (fi σ (64 * ci + k) r) :: st) σ P) : Wp M d pc lv (.inr r :: st) σ P :=
  getf_go (v := .inl (fi σ (64 * ci + k) r)) hd hf ht (fval_int hk) kk
theorem p_getR {idx ci k r : Nat} (hd : decode M.2.1 pc = .ok (.getfield idx, 3)) (hf : FS M.1.cls idx ci k) (hk : isR ci k = true) (ht : tg σ r = ci + 1) (kk : Wp M d (pc + 3) lv (.inr (fr σ (64 * ci + k) r) :: st) σ P) : Wp M d pc lv (.inr r :: st) σ P :=
  getf_go (v := .inr (fr σ (64 * ci + k) r)) hd hf ht (fval_ref hk) kk
def FinOk (M : MM) (ci k : Nat) : Prop := ∀ q : vw_C, cls[ci]? = some q → (q.2.1 k).2.2.2 = false ∨ ((q.2.1 k).2.2.2 = true ∧ M.1.name = "<init>" ∧ (q.2.1 k).1 = M.1.cls)
theorem putf_go {σ' : PS} {idx ci k r : Nat} {v : PV} (hd : decode M.2.1 pc = .ok (.putfield idx, 3)) (hf : FS M.1.cls idx ci k) (hfin : FinOk M ci k) (ht : tg σ r = ci + 1) (hn : narrow (fty ci k) (tv v) = tv v) (hfit : fits (fty ci k) (tv v) = true)
    (h1 : σ'.1 = σ.1) (h2 : al σ' = al σ) (h3 : ai σ' = ai σ) (h4 : ar σ' = ar σ) (hfv : ∀ ci' k' r' : Nat, k' < 40 → fval σ' ci' k' r' = if r' = r ∧ ci' = ci ∧ k' = k then tv v else fval σ ci' k' r')
    (kk : Wp M d (pc + 3) lv st σ' P) : Wp M d pc lv (v :: .inr r :: st) σ P := by
  obtain ⟨q, ref, hc, hkN, hw, hs⟩ := hf
  obtain ⟨v', σ'', hP, l1, l2, hW⟩ := kk
  have n1 : nx σ' = nx σ := by unfold nx; rw [h1]
  have s1 : sl σ' = sl σ := by unfold sl; rw [h1]
  rw [n1, s1] at hW
  refine ⟨v', σ'', hP, by rw [← n1]; exact l1, by rw [← s1]; exact l2, fun p l e R s m args below meth c K H locs cells slots ls Z C hR hB hL hcl hsl hl hk => ?_⟩
  obtain ⟨a, rfl⟩ := hR.pos ht
  obtain ⟨gb, cell, g1, g2, g3, g4⟩ := hR.2.2.1 a ci q ht hc
  have hap : ∀ x y, x < q.2.2 → y < q.2.2 → x ≠ y → kI K ci x ≠ kI K ci y := va_apart (own := "") (fun w h => C.w h) (cls_in hc) (fty ci) (cls_ty hc) (cls_nm hc) C.2.2.2.2.2.1.1 hc
  obtain ⟨hS, hfc, kC, hkC, hkind⟩ := C.2.2.2.2.2.1.1.1 ci q hc
  obtain ⟨cf, kf, fi, f, hi, hsl9⟩ := hS k hkN
  have hlay := C.w (cls_in hc _ (u_in_lay hkN))
  have hst := (u_facts hfc hkC (u_lays (fun w h => C.w h) (cls_in hc) hkN) hi).1
  have hsame := FS.same (own := "") (idx := 0) (ci := 0) (s := s) (args := args) (fun w h => C.w h) hs
  have fin : ∀ H' : Heap, H'[a]? = some (cell.setSlot f.slot (tv v)) → H'.size = H.size → (∀ q, q ≠ a → H'[q]? = H[q]?) → W p l e R s m args below meth c H' (locs ++ [⟨a, f.slot⟩]) cells slots Z (F0 m (pc + 3) ls (st.map tv)) := by
    intro H' e1 e2 e3
    rw [hsl9] at e1
    refine hW p l e R s m args below meth c K H' _ cells slots ls Z C (hR.put ht hc hkN hap g1 e1 e2 e3 h1 h2 h3 h4 hfv) (fun z hz => ?_) (fun z hz => ?_) hcl hsl hl hk
    · rw [e3 z (by omega)]; exact hB z hz
    · rcases List.mem_append.mp hz with h | h
      · exact hL z h
      · rw [List.mem_singleton.mp h]; exact gb
  rcases hfin q hc with hfn | ⟨hfn, hin, hdecl⟩
  · unfold u_lay at hlay
    rw [if_neg (by rw [hfn]; decide)] at hlay
    have h6 := u_store hfc hkC hkind hlay hi (cls_ty hc k hkN) hn hfit
    exact W.putK C.1 C.2.1 (f := f) ⟨C.2.2.2.1, C.w hw, ⟨_, _, _, hsame _ hi⟩, hst⟩ (by rw [g2]; exact h6) g1 g3 (by rw [hsl9]; exact k2_hasslot (g4 k hkN)) rfl rfl hd fin
  · unfold u_lay at hlay
    rw [if_pos hfn] at hlay
    have hcf : m.cls = cf := by
      obtain ⟨_, _, c', _, _, _, -, -, hf', -, -, -, hown2, -⟩ := Cond.laysFinal_spec hlay
      have e1 : c' = cf := by have := hi.symm.trans hf'; simp at this; exact this.1.symm
      rw [hdecl] at hown2
      rw [← e1]; exact Option.some.inj (C.2.2.2.1.symm.trans hown2)
    have h6 := u_fits hfc hkC hkind (Or.inr hlay) hi (cls_ty hc k hkN) hn hfit
    exact W.putFinK C.1 C.2.1 C.2.2.2.1 (C.w hw) (hsame _ hi) hst hcf (by rw [C.2.2.2.2.2.2.2.2]; exact hin) (by rw [g2]; exact h6) g1 g3 (by rw [hsl9]; exact k2_hasslot (g4 k hkN)) rfl rfl hd fin
theorem fid_inj {ci k ci' k' : Nat} (h : k < 40) (h' : k' < 40) : 64 * ci' + k' = 64 * ci + k ↔ ci' = ci ∧ k' = k := by omega
theorem FS.lt {own : String} {idx ci k : Nat} (h : FS own idx ci k) : k < 40 ∧ ci < 9 := by
  obtain ⟨q, ref, hc, hk, -⟩ := h
  exact ⟨Nat.lt_of_lt_of_le hk (cls_le hc).1, (cls_le hc).2⟩
theorem p_putI {idx ci k r : Nat} {x : Int32} (hd : decode M.2.1 pc = .ok (.putfield idx, 3)) (hf : FS M.1.cls idx ci k) (hk : isR ci k = false) (hfin : FinOk M ci k) (ht : tg σ r = ci + 1) (hn : narrow (fty ci k) (.int x) = .int x ∧ fits (fty ci k) (.int x) = true)
    (kk : Wp M d (pc + 3) lv st (pfi σ (64 * ci + k) r x) P) : Wp M d pc lv (.inl x :: .inr r :: st) σ P := by
  refine putf_go (v := .inl x) (σ' := pfi σ (64 * ci + k) r x) hd hf hfin ht hn.1 hn.2 rfl rfl rfl rfl (fun ci' k' r' hk' => ?_) kk
  unfold fval
  by_cases h : r' = r ∧ ci' = ci ∧ k' = k
  · obtain ⟨rfl, rfl, rfl⟩ := h
    simp [hk, pfi, fi, up2, tv]
  · rw [if_neg h]
    have e : up2 (fi σ) (64 * ci + k) r x (64 * ci' + k') r' = fi σ (64 * ci' + k') r' := by
      unfold up2
      rw [if_neg (fun z => h ⟨z.2, (fid_inj hf.lt.1 hk').mp z.1⟩)]
    show (if isR ci' k' = true then tv (.inr (fr σ (64 * ci' + k') r')) else Value.int (up2 (fi σ) (64 * ci + k) r x (64 * ci' + k') r')) = _
    rw [e]
theorem p_putR {idx ci k r x : Nat} (hd : decode M.2.1 pc = .ok (.putfield idx, 3)) (hf : FS M.1.cls idx ci k) (hk : isR ci k = true) (hfin : FinOk M ci k) (ht : tg σ r = ci + 1)
    (kk : Wp M d (pc + 3) lv st (pfr σ (64 * ci + k) r x) P) : Wp M d pc lv (.inr x :: .inr r :: st) σ P := by
  have hn : narrow (fty ci k) (tv (.inr x)) = tv (.inr x) ∧ fits (fty ci k) (tv (.inr x)) = true := by
    rcases fty_rf ci hf.lt.2 k hf.lt.1 hk with ⟨n, e⟩ | ⟨n, e⟩ <;> rw [e] <;> cases x <;> exact ⟨rfl, rfl⟩
  refine putf_go (v := .inr x) (σ' := pfr σ (64 * ci + k) r x) hd hf hfin ht hn.1 hn.2 rfl rfl rfl rfl (fun ci' k' r' hk' => ?_) kk
  unfold fval
  by_cases h : r' = r ∧ ci' = ci ∧ k' = k
  · obtain ⟨rfl, rfl, rfl⟩ := h
    simp [hk, pfr, fr, up2, tv]
  · rw [if_neg h]
    have e : up2 (fr σ) (64 * ci + k) r x (64 * ci' + k') r' = fr σ (64 * ci' + k') r' := by
      unfold up2
      rw [if_neg (fun z => h ⟨z.2, (fid_inj hf.lt.1 hk').mp z.1⟩)]
    show (if isR ci' k' = true then tv (.inr (up2 (fr σ) (64 * ci + k) r x (64 * ci' + k') r')) else Value.int (fi σ (64 * ci' + k') r')) = _
    rw [e]
end RowsB
end
section
/-! new cells, arrays, statics, casts, copies -/
theorem fi_pnew {σ : PS} {ci N i r : Nat} : fi (pnew σ ci N) i r = if r = nx σ then 0 else fi σ i r := rfl
theorem fr_pnew {σ : PS} {ci N i r : Nat} : fr (pnew σ ci N) i r = if r = nx σ then 0 else fr σ i r := rfl
theorem cat_sum : ∀ st : List PV, ((st.map tv).map fun v => v.category).sum = st.length
  | [] => rfl
  | v :: t => by
    simp only [List.map_cons, List.sum_cons, List.length_cons, tv_cat]
    rw [cat_sum t]
    omega
section RowsC
variable {M : MM} {d pc : Nat} {lv : List (Nat × PV)} {st : List PV} {σ : PS} {P : Option PV → PS → Prop}
/-- the heap with one cell more -/
theorem RepH.grow {K : KX} {σ σ' : PS} {H H' : Heap} (hR : RepH K σ H) (e2 : H'.size = H.size + 1) (e3 : ∀ q : Nat, q < H.size → H'[q]? = H[q]?)
    (h1 : nx σ' = nx σ + 1) (ht : ∀ r, r ≠ nx σ → tg σ' r = tg σ r)
    (h2 : ∀ r, r ≠ nx σ → al σ' r = al σ r) (h3 : ∀ r j, r ≠ nx σ → ai σ' r j = ai σ r j) (h4 : ∀ r j, r ≠ nx σ → ar σ' r j = ar σ r j) (h5 : ∀ i r, r ≠ nx σ → fi σ' i r = fi σ i r) (h6 : ∀ i r, r ≠ nx σ → fr σ' i r = fr σ i r)
    (hnew : (∃ (ci : Nat) (q : vw_C), tg σ' (nx σ) = ci + 1 ∧ cls[ci]? = some q ∧ t_OB H.size (kC K ci) q.2.2 (kI K ci) H' (fun k => fval σ' ci k (H.size + 1))) ∨
      ∃ ti : Nat, ti < 6 ∧ tg σ' (nx σ) = 100 + ti ∧ H'[H.size]? = some (arrV (kA K ti) (al σ' (H.size + 1)) (fun j => aval σ' ti (H.size + 1) j))) : RepH K σ' H' := by
  obtain ⟨r1, r2, r3, r4, r5, r6, r7⟩ := hR
  have fv : ∀ ci k r, r ≠ nx σ → fval σ' ci k r = fval σ ci k r := fun ci k r h => by
    unfold fval
    rw [h5 _ r h, h6 _ r h]
  have av : ∀ ti r j, r ≠ nx σ → aval σ' ti r j = aval σ ti r j := fun ti r j h => by
    unfold aval
    rw [h3 r j h, h4 r j h]
  refine ⟨by omega, by omega, fun a ci q ha hq => ?_, fun a ti hti ha => ?_, fun r hr => ?_, fun r hr => ?_, ?_⟩
  · by_cases hn : a + 1 = nx σ
    · have haH : a = H.size := by omega
      subst haH
      refine ⟨r2, ?_⟩
      rcases hnew with ⟨cj, q', g1, g2, g3⟩ | ⟨ti, g0, g1, -⟩
      · rw [hn, g1] at ha
        have : cj = ci := by omega
        subst this
        cases g2.symm.trans hq
        exact g3
      · rw [hn, g1] at ha
        have := (cls_le hq).2
        omega
    · rw [ht _ hn] at ha
      obtain ⟨g1, g2⟩ := r3 a ci q ha hq
      refine ⟨g1, ?_⟩
      have hlt : a < H.size := by
        obtain ⟨cell, z, -⟩ := g2
        exact (Array.getElem?_eq_some_iff.mp z).1
      exact (g2.kept (e3 a hlt)).to (fun k _ => (fv ci k (a + 1) hn).symm)
  · by_cases hn : a + 1 = nx σ
    · have haH : a = H.size := by omega
      subst haH
      refine ⟨r2, ?_⟩
      rcases hnew with ⟨cj, q', g1, g2, g3⟩ | ⟨tj, g0, g1, g2⟩
      · rw [hn, g1] at ha
        have := (cls_le g2).2
        omega
      · rw [hn, g1] at ha
        have : tj = ti := by omega
        subst this
        exact g2
    · rw [ht _ hn] at ha
      obtain ⟨g1, g2⟩ := r4 a ti hti ha
      refine ⟨g1, ?_⟩
      have hlt : a < H.size := (Array.getElem?_eq_some_iff.mp g2).1
      rw [e3 a hlt, g2, h2 _ hn]
      congr 2
      funext j
      exact (av ti (a + 1) j hn).symm
  · by_cases hn : r = nx σ
    · exfalso
      subst hn
      rcases hnew with ⟨cj, q', g1, g2, g3⟩ | ⟨tj, g0, g1, g2⟩
      · rw [g1] at hr; have := (cls_le g2).2; omega
      · rw [g1] at hr; omega
    · rw [ht _ hn] at hr
      rw [h2 _ hn]
      exact r5 r hr
  · by_cases hn : r = nx σ
    · exfalso
      subst hn
      rcases hnew with ⟨cj, q', g1, g2, g3⟩ | ⟨tj, g0, g1, g2⟩
      · rw [g1] at hr; have := (cls_le g2).2; omega
      · rw [g1] at hr; omega
    · rw [ht _ hn] at hr
      rw [h2 _ hn]
      obtain ⟨g1, g2, g3⟩ := r6 r hr
      exact ⟨g1, g2, fun j hj => by rw [h3 _ _ hn]; exact g3 j hj⟩
  · rw [ht 0 (by omega), h2 0 (by omega)]; exact r7
/-- a step that makes one cell -/
theorem Wp.made {σ' : PS} {pc' : Nat} {st' : List PV} {n : Nat} (hn : nx σ' = nx σ + 1) (hs : sl σ' = sl σ + n)
    (h : ∀ (p : Program) (l : Launch) (e : Env) (R : Room) (s : State) (m : MethodId) (args : Array Value) (below : List Frame) (meth : Method) (c : Code) (K : KX) (H : Heap) (locs : List Loc) (cells slots : Nat) (ls : Array Slot) (Z : State → Prop), Cx M d K p R s m args meth c → RepH K σ H → cells + 1 ≤ R.cells → slots + n ≤ R.slots → lv_has ls M.2.2.1 (lvs lv) →
      (∀ H' : Heap, RepH K σ' H' → (∀ q : Nat, q < H.size → H'[q]? = H[q]?) → W p l e R s m args below meth c H' locs (cells + 1) (slots + n) Z (F0 m pc' ls (st'.map tv))) → W p l e R s m args below meth c H locs cells slots Z (F0 m pc ls (st.map tv)))
    (k : Wp M d pc' lv st' σ' P) : Wp M d pc lv st σ P := by
  obtain ⟨v, σ'', hP, h1, h2, hW⟩ := k
  refine ⟨v, σ'', hP, by omega, by omega, fun p l e R s m args below meth c K H locs cells slots ls Z C hR hB hL hc hs' hl hk => ?_⟩
  refine h p l e R s m args below meth c K H locs cells slots ls Z C hR (by omega) (by omega) hl (fun H' hR' hq => ?_)
  refine hW p l e R s m args below meth c K H' locs (cells + 1) (slots + n) ls Z C hR' (fun q hq' => ?_) hL (by omega) (by omega) hl ?_
  · rw [hq q (Nat.lt_of_lt_of_le hq' hR.2.1)]; exact hB q hq'
  · have e1 : cells + 1 + (nx σ'' - nx σ') = cells + (nx σ'' - nx σ) := by omega
    have e2 : slots + n + (sl σ'' - sl σ') = slots + (sl σ'' - sl σ) := by omega
    rw [e1, e2]
    exact hk
theorem p_new {idx ci N : Nat} {q : vw_C} (hd : decode M.2.1 pc = .ok (.new idx, 3)) (hc : cls[ci]? = some q) (hN : q.2.2 = N) (hw : Cond.classLink M.1.cls idx q.1 ∈ GT) (hi : Cond.instantiable q.1 N ∈ GT) (hini : Cond.initialized q.1 ∈ GT)
    (kk : Wp M d (pc + 3) lv (.inr (nx σ) :: st) (pnew σ ci N) P) : Wp M d pc lv st σ P := by
  refine Wp.made (σ' := pnew σ ci N) (n := N) rfl rfl (fun p l e R s m args below meth c K H locs cells slots ls Z C hR hcl hsl hl k => ?_) kk
  subst hN
  have hKn := C.2.2.2.2.2.1.1.1 ci q hc
  refine W.newcK C.1 C.2.1 C.2.2.2.1 (C.w hw) (C.w hi) (C.w hini) rfl hd hcl hsl hKn.2.1 rfl fun H1 kC hkC e1 z1 o1 => ?_
  have hx : nx σ = H.size + 1 := hR.1
  have key : RepH K (pnew σ ci q.2.2) H1 := by
    refine hR.grow z1 o1 rfl (fun r h => va_up_ne _ _ h) (fun _ _ => rfl) (fun _ _ _ => rfl) (fun _ _ _ => rfl) (fun i r h => by rw [fi_pnew, if_neg h]) (fun i r h => by rw [fr_pnew, if_neg h]) (Or.inl ⟨ci, q, va_up_self _ _ _, hc, ?_⟩)
    refine (u_born (fty ci) (fun w h => C.w h) (cls_in hc) hKn hkC e1 (cls_ty hc)).to (fun k hk => ?_)
    rw [fty_dv ci (cls_le hc).2 k (Nat.lt_of_lt_of_le hk (cls_le hc).1)]
    unfold fval
    rw [fi_pnew, fr_pnew, ← hx, if_pos rfl, if_pos rfl]
    rfl
  have := k H1 key o1
  simp only [List.map_cons] at this
  rw [hx] at this
  exact this
theorem tys_at {K : KX} {ti : Nat} (h : ti < 6) : (tys K)[ti]? = some (kA K ti, aty ti) := by
  rcases (by omega : ti = 0 ∨ ti = 1 ∨ ti = 2 ∨ ti = 3 ∨ ti = 4 ∨ ti = 5) with rfl | rfl | rfl | rfl | rfl | rfl <;> rfl
theorem p_newa {atype : ArrayType} {ti n : Nat} {x : Int32} (hd : decode M.2.1 pc = .ok (.newarray atype, 2)) (hti : ti < 2) (hty : newarray.typeOf atype = aty ti) (hw : Cond.arrayClass (aty ti) ∈ GT) (hx0 : ¬ x < 0) (hxn : x.toNatClampNeg = n) (hb : n ≤ 100000000)
    (kk : Wp M d (pc + 2) lv (.inr (nx σ) :: st) (parr σ ti n) P) : Wp M d pc lv (.inl x :: st) σ P := by
  refine Wp.made (σ' := parr σ ti n) (n := n) rfl rfl (fun p l e R s m args below meth c K H locs cells slots ls Z C hR hcl hsl hl k => ?_) kk
  have hK := (C.2.2.2.2.2.1.1.2 ti _ (tys_at (by omega))).2
  have hcb : componentBytes (newarray.typeOf atype) ≤ 4 := by
    rw [hty]; rcases (by omega : ti = 0 ∨ ti = 1) with rfl | rfl <;> decide
  refine va_newaK C.1 C.2.1 (by rw [hty]; exact C.w hw) rfl hd rfl hx0 hxn (Nat.le_trans (Nat.mul_le_mul_left n hcb) (by omega)) hcl hsl rfl fun H1 cA e1 z1 o1 hAr hNm => ?_
  have hx : nx σ = H.size + 1 := hR.1
  have hcA : cA = kA K ti := by
    rw [hty] at hNm
    rcases (by omega : ti = 0 ∨ ti = 1) with rfl | rfl
    · exact Option.some.inj (hNm.symm.trans hK)
    · exact Option.some.inj (hNm.symm.trans hK)
  subst hcA
  have key : RepH K (parr σ ti n) H1 := by
    refine hR.grow z1 o1 rfl (fun r h => va_up_ne _ _ h) (fun r h => va_up_ne _ _ h) (fun r j h => if_neg h) (fun r j h => if_neg h) (fun _ _ _ => rfl) (fun _ _ _ => rfl) (Or.inr ⟨ti, by omega, va_up_self _ _ _, ?_⟩)
    rw [e1, ← hx]
    have ea : al (parr σ ti n) (nx σ) = n := va_up_self _ _ _
    rw [ea]
    congr 2
    funext j
    rw [hty]
    unfold aval
    rw [if_pos hti]
    have ez : ai (parr σ ti n) (nx σ) j = 0 := if_pos rfl
    rw [ez]
    rcases (by omega : ti = 0 ∨ ti = 1) with rfl | rfl <;> rfl
  have := k H1 key o1
  simp only [List.map_cons] at this
  rw [hx] at this
  exact this
theorem p_newq {idx ti n : Nat} {C0 : String} {x : Int32} (hd : decode M.2.1 pc = .ok (.anewarray idx, 3)) (hti : 2 ≤ ti ∧ ti < 6) (hty : aty ti = .object C0) (hw : Cond.classLink M.1.cls idx C0 ∈ GT) (ho : Cond.arrayOver (.object C0) ∈ NT ∨ Cond.arrayOver (.object C0) ∈ GT) (hx0 : ¬ x < 0) (hxn : x.toNatClampNeg = n) (hb : n ≤ 100000000)
    (kk : Wp M d (pc + 3) lv (.inr (nx σ) :: st) (parr σ ti n) P) : Wp M d pc lv (.inl x :: st) σ P := by
  refine Wp.made (σ' := parr σ ti n) (n := n) rfl rfl (fun p l e R s m args below meth c K H locs cells slots ls Z C hR hcl hsl hl k => ?_) kk
  have hK := (C.2.2.2.2.2.1.1.2 ti _ (tys_at hti.2)).2
  have hov : (Cond.arrayOver (.object C0)).before args s = true := by
    rcases ho with h | h
    · exact va_AO.use (C.2.2.2.2.2.1.2.1 _ h)
    · exact C.w h
  subst hxn
  refine W.anew C.1 C.2.1 C.2.2.2.1 (C.w hw) hov rfl hd rfl hx0 (by omega) hcl hsl fun cA kA9 comp f1 f2 f3 f4 => ?_
  have hx : nx σ = H.size + 1 := hR.1
  have hcA : cA = kA K ti := by
    simp only [hty] at hK
    obtain ⟨_, _, _, _, _, g⟩ := hK
    exact Option.some.inj (f1.symm.trans g)
  subst hcA
  generalize hH1 : H.push ({ cls := kA K ti, slots := Array.replicate x.toNatClampNeg .null, vm := .none } : Cell) = H1
  have z1 : H1.size = H.size + 1 := by rw [← hH1, Array.size_push]
  have e1 : H1[H.size]? = some (arrV (kA K ti) x.toNatClampNeg (fun _ => .null)) := by rw [← hH1, Array.getElem?_push_size, ← arrV_new]
  have o1 : ∀ q : Nat, q < H.size → H1[q]? = H[q]? := fun q hq => by rw [← hH1, Array.getElem?_push, if_neg (Nat.ne_of_lt hq)]
  have key : RepH K (parr σ ti x.toNatClampNeg) H1 := by
    refine hR.grow z1 o1 rfl (fun r h => va_up_ne _ _ h) (fun r h => va_up_ne _ _ h) (fun r j h => if_neg h) (fun r j h => if_neg h) (fun _ _ _ => rfl) (fun _ _ _ => rfl) (Or.inr ⟨ti, hti.2, va_up_self _ _ _, ?_⟩)
    rw [e1, ← hx]
    have ea : al (parr σ ti x.toNatClampNeg) (nx σ) = x.toNatClampNeg := va_up_self _ _ _
    rw [ea]
    congr 2
    funext j
    unfold aval
    rw [if_neg (by omega)]
    have ez : ar (parr σ ti x.toNatClampNeg) (nx σ) j = 0 := if_pos rfl
    rw [ez]
    rfl
  have := k H1 key o1
  simp only [List.map_cons] at this
  rw [hx] at this
  exact this
theorem RepH.posA {K : KX} {H : Heap} (hR : RepH K σ H) {r n : Nat} (h : tg σ r = 100 + n) : ∃ a, r = a + 1 := hR.pos (n := 99 + n) (by omega)
theorem p_alen {ti r : Nat} (hd : decode M.2.1 pc = .ok (.arraylength, 1)) (hti : ti < 6) (ht : tg σ r = 100 + ti) (kk : Wp M d (pc + 1) lv (.inl (nI (al σ r)) :: st) σ P) : Wp M d pc lv (.inr r :: st) σ P := by
  refine Wp.go (fun p l e R s m args below meth c K H locs cells slots ls Z C hR hB hL hl k => ?_) kk
  obtain ⟨a, rfl⟩ := hR.posA ht
  obtain ⟨g1, g2⟩ := hR.2.2.2.1 a ti hti ht
  exact W.alen (n := Int32.ofNat (al σ (a + 1))) C.1 C.2.1 g2 ((C.2.2.2.2.2.1.1.2 ti _ (tys_at hti)).1 _ _) (by rw [arrV_size] <;> rfl) rfl rfl hd k
theorem p_alenZ {r : Nat} (hd : decode M.2.1 pc = .ok (.arraylength, 1)) (ht : tg σ r = 99) (kk : Wp M d (pc + 1) lv (.inl 0 :: st) σ P) : Wp M d pc lv (.inr r :: st) σ P := by
  refine Wp.go (fun p l e R s m args below meth c K H locs cells slots ls Z C hR hB hL hl k => ?_) kk
  obtain ⟨rfl, -⟩ := hR.2.2.2.2.1 r ht
  obtain ⟨cell, g1, g2, g3, g4, g5, g6, g7⟩ := C.2.2.2.2.2.1.2.2.2.1
  exact W.alen (n := 0) C.1 C.2.1 (by rw [hB _ (Nat.not_le.mp g7)]; exact g1) g2 g5 rfl rfl hd k
theorem p_alenX {r : Nat} (hd : decode M.2.1 pc = .ok (.arraylength, 1)) (ht : tg σ r = 98) (kk : Wp M d (pc + 1) lv (.inl (nI (al σ r)) :: st) σ P) : Wp M d pc lv (.inr r :: st) σ P := by
  refine Wp.go (fun p l e R s m args below meth c K H locs cells slots ls Z C hR hB hL hl k => ?_) kk
  obtain ⟨rfl, h2, -⟩ := hR.2.2.2.2.2.1 r ht
  obtain ⟨⟨scr, g1, g2, g3, g4, g5⟩, g6⟩ := C.2.2.2.2.2.1.2.2.2.2.2
  exact W.alen (n := Int32.ofNat (al σ (kx K + 1))) C.1 C.2.1 (by rw [hB _ g6]; exact g1) g2 (by rw [g4, h2] <;> rfl) rfl rfl hd k
theorem p_ialdX {r : Nat} {j : Int32} {n : Nat} (hd : decode M.2.1 pc = .ok (.iaload, 1)) (ht : tg σ r = 98) (hj : j = nI n) (hn : n < al σ r) (hm : al σ r < 2 ^ 31) (kk : Wp M d (pc + 1) lv (.inl (ai σ r n) :: st) σ P) : Wp M d pc lv (.inl j :: .inr r :: st) σ P := by
  refine Wp.go (fun p l e R s m args below meth c K H locs cells slots ls Z C hR hB hL hl k => ?_) kk
  obtain ⟨rfl, h2, h3⟩ := hR.2.2.2.2.2.1 r ht
  obtain ⟨⟨scr, g1, g2, g3, g4, g5⟩, g6⟩ := C.2.2.2.2.2.1.2.2.2.2.2
  subst hj
  have hcl : (nI n).toNatClampNeg = n := nI_clamp (by omega)
  exact W.iald (v := .int (ai σ (kx K + 1) n)) C.1 C.2.1 (by rw [hB _ g6]; exact g1) g2 g3 (by rw [g4, ← h2]; exact nI_in hn hm) (by rw [hcl, h3 n (by omega)]; exact g5 n (by omega)) rfl rfl hd k
theorem nI_in2 {n N : Nat} (h : n < N) (hb : n < 2 ^ 31) : ¬ (nI n < 0 ∨ N ≤ (nI n).toNatClampNeg) := by
  rintro (h1 | h1)
  · exact nI_pos hb h1
  · rw [nI_clamp hb] at h1; omega
theorem p_iald {r : Nat} {j : Int32} {n : Nat} (hd : decode M.2.1 pc = .ok (.iaload, 1)) (ht : tg σ r = 100) (hj : j = nI n) (hn : n < al σ r) (hb : n < 2 ^ 31) (kk : Wp M d (pc + 1) lv (.inl (ai σ r n) :: st) σ P) : Wp M d pc lv (.inl j :: .inr r :: st) σ P := by
  refine Wp.go (fun p l e R s m args below meth c K H locs cells slots ls Z C hR hB hL hl k => ?_) kk
  obtain ⟨a, rfl⟩ := hR.posA (n := 0) ht
  obtain ⟨g1, g2⟩ := hR.2.2.2.1 a 0 (by omega) ht
  subst hj
  exact W.iald (v := .int (ai σ (a + 1) n)) C.1 C.2.1 g2 ((C.2.2.2.2.2.1.1.2 0 _ (tys_at (by omega))).1 _ _) (fun q => by cases q) (by rw [arrV_size]; exact nI_in2 hn hb) (by rw [nI_clamp hb, arrV_read _ _ hn]; rfl) rfl rfl hd k
theorem p_zald {r : Nat} {j : Int32} {n : Nat} (hd : decode M.2.1 pc = .ok (.baload, 1)) (ht : tg σ r = 101) (hj : j = nI n) (hn : n < al σ r) (hb : n < 2 ^ 31) (kk : Wp M d (pc + 1) lv (.inl (ai σ r n) :: st) σ P) : Wp M d pc lv (.inl j :: .inr r :: st) σ P := by
  refine Wp.go (fun p l e R s m args below meth c K H locs cells slots ls Z C hR hB hL hl k => ?_) kk
  obtain ⟨a, rfl⟩ := hR.posA (n := 1) ht
  obtain ⟨g1, g2⟩ := hR.2.2.2.1 a 1 (by omega) ht
  subst hj
  exact W.zald (v := .int (ai σ (a + 1) n)) C.1 C.2.1 g2 ((C.2.2.2.2.2.1.1.2 1 _ (tys_at (by omega))).1 _ _) (fun q => by cases q) (by rw [arrV_size]; exact nI_in2 hn hb) (by rw [nI_clamp hb, arrV_read _ _ hn]; rfl) rfl rfl hd k
theorem aty_ref {ti : Nat} (h : 2 ≤ ti) : (aty ti).isReference = true := by
  match ti, h with
  | 2, _ => rfl
  | 3, _ => rfl
  | 4, _ => rfl
  | n + 5, _ => rfl
theorem p_aald {ti r : Nat} {j : Int32} {n : Nat} (hd : decode M.2.1 pc = .ok (.aaload, 1)) (hti : 2 ≤ ti ∧ ti < 6) (ht : tg σ r = 100 + ti) (hj : j = nI n) (hn : n < al σ r) (hb : n < 2 ^ 31) (kk : Wp M d (pc + 1) lv (.inr (ar σ r n) :: st) σ P) : Wp M d pc lv (.inl j :: .inr r :: st) σ P := by
  refine Wp.go (fun p l e R s m args below meth c K H locs cells slots ls Z C hR hB hL hl k => ?_) kk
  obtain ⟨a, rfl⟩ := hR.posA ht
  obtain ⟨g1, g2⟩ := hR.2.2.2.1 a ti hti.2 ht
  subst hj
  exact W.aald (v := tv (.inr (ar σ (a + 1) n))) (ty := aty ti) C.1 C.2.1 g2 ((C.2.2.2.2.2.1.1.2 ti _ (tys_at hti.2)).1 _ _) (aty_ref hti.1) (fun q => by cases q) (by rw [arrV_size]; exact nI_in2 hn hb) (by rw [nI_clamp hb, arrV_read _ _ hn]; unfold aval; rw [if_neg (by omega)]) rfl rfl hd k
/-- the heap behind a store into an array -/
theorem RepH.sto {K : KX} {σ' : PS} {H H' : Heap} {a ti : Nat} (hR : RepH K σ H) (hti : ti < 6) (ht : tg σ (a + 1) = 100 + ti) {f : Nat → Value} (e1 : H'[a]? = some (arrV (kA K ti) (al σ (a + 1)) f)) (e2 : H'.size = H.size) (e3 : ∀ q, q ≠ a → H'[q]? = H[q]?)
    (h1 : σ'.1 = σ.1) (h2 : al σ' = al σ) (h5 : fi σ' = fi σ) (h6 : fr σ' = fr σ) (hf : ∀ j, j < al σ (a + 1) → f j = aval σ' ti (a + 1) j) (h3 : ∀ r j, r ≠ a + 1 → ai σ' r j = ai σ r j) (h4 : ∀ r j, r ≠ a + 1 → ar σ' r j = ar σ r j) : RepH K σ' H' := by
  obtain ⟨r1, r2, r3, r4, r5, r6, r7⟩ := hR
  have n1 : nx σ' = nx σ := by unfold nx; rw [h1]
  have t1 : tg σ' = tg σ := by unfold tg; rw [h1]
  refine ⟨by rw [n1, e2]; exact r1, by rw [e2]; exact r2, fun b ci q hb hq => ?_, fun b tj htj hb => ?_, fun r hr => ?_, fun r hr => ?_, by rw [t1, h2]; exact r7⟩
  · rw [t1] at hb
    obtain ⟨g1, g2⟩ := r3 b ci q hb hq
    have hba : b ≠ a := by
      rintro rfl
      have := (cls_le hq).2
      omega
    refine ⟨g1, (g2.kept (e3 b hba)).to (fun k _ => ?_)⟩
    unfold fval
    rw [h5, h6]
  · rw [t1] at hb
    obtain ⟨g1, g2⟩ := r4 b tj htj hb
    refine ⟨g1, ?_⟩
    by_cases hba : b = a
    · subst hba
      have : tj = ti := by omega
      subst this
      rw [e1, h2]
      congr 1
      unfold arrV
      congr 1
      apply Array.ext
      · simp
      · intro i hi1 hi2
        simp at hi1
        simp [hf i hi1]
    · rw [e3 b hba, g2, h2]
      congr 2
      funext j
      unfold aval
      rw [h3 _ _ (by omega), h4 _ _ (by omega)]
  · rw [t1] at hr
    rw [h2]
    exact r5 r hr
  · rw [t1] at hr
    rw [h2]
    obtain ⟨g1, g2, g3⟩ := r6 r hr
    exact ⟨g1, g2, fun j hj => by rw [h3 _ _ (by rintro rfl; omega)]; exact g3 j hj⟩
/-- a step that writes into one cell -/
theorem Wp.wrote {σ' : PS} {pc' : Nat} {st' : List PV} (hs : σ'.1 = σ.1)
    (h : ∀ (p : Program) (l : Launch) (e : Env) (R : Room) (s : State) (m : MethodId) (args : Array Value) (below : List Frame) (meth : Method) (c : Code) (K : KX) (H : Heap) (locs : List Loc) (cells slots : Nat) (ls : Array Slot) (Z : State → Prop), Cx M d K p R s m args meth c → RepH K σ H → (∀ q : Nat, q < kb K → H[q]? = s.heap[q]?) → lv_has ls M.2.2.1 (lvs lv) → (∀ q ∈ locs, kb K ≤ q.base) →
      (∀ (H' : Heap) (locs' : List Loc), RepH K σ' H' → (∀ q : Nat, q < kb K → H'[q]? = H[q]?) → (∀ q ∈ locs', kb K ≤ q.base) → W p l e R s m args below meth c H' locs' cells slots Z (F0 m pc' ls (st'.map tv))) → W p l e R s m args below meth c H locs cells slots Z (F0 m pc ls (st.map tv)))
    (k : Wp M d pc' lv st' σ' P) : Wp M d pc lv st σ P := by
  obtain ⟨v, σ'', hP, h1, h2, hW⟩ := k
  have n1 : nx σ' = nx σ := by unfold nx; rw [hs]
  have s1 : sl σ' = sl σ := by unfold sl; rw [hs]
  rw [n1, s1] at hW
  refine ⟨v, σ'', hP, by omega, by omega, fun p l e R s m args below meth c K H locs cells slots ls Z C hR hB hL hc hs' hl hk => ?_⟩
  exact h p l e R s m args below meth c K H locs cells slots ls Z C hR hB hl hL (fun H' locs' hR' hq hL' => hW p l e R s m args below meth c K H' locs' cells slots ls Z C hR' (fun q hq' => (hq q hq').trans (hB q hq')) hL' hc hs' hl hk)
theorem p_iast {r : Nat} {j x : Int32} {n : Nat} (hd : decode M.2.1 pc = .ok (.iastore, 1)) (ht : tg σ r = 100) (hj : j = nI n) (hn : n < al σ r) (hb : n < 2 ^ 31) (kk : Wp M d (pc + 1) lv st (pai σ r n x) P) : Wp M d pc lv (.inl x :: .inl j :: .inr r :: st) σ P := by
  refine Wp.wrote (σ' := pai σ r n x) rfl (fun p l e R s m args below meth c K H locs cells slots ls Z C hR hB hl hL k => ?_) kk
  obtain ⟨a, rfl⟩ := hR.posA (n := 0) ht
  obtain ⟨g1, g2⟩ := hR.2.2.2.1 a 0 (by omega) ht
  subst hj
  refine W.iast C.1 C.2.1 g2 ((C.2.2.2.2.2.1.1.2 0 _ (tys_at (by omega))).1 _ _) (fun q => by cases q) (by rw [arrV_size]; exact nI_in2 hn hb) rfl rfl hd fun H1 e z oq => ?_
  rw [nI_clamp hb, arrV_store] at e
  refine k H1 _ (hR.sto (ti := 0) (by omega) ht e z oq rfl rfl rfl rfl (fun i hi => ?_) (fun r' j' h' => ?_) (fun _ _ _ => rfl)) (fun q hq => oq q (Nat.ne_of_lt (Nat.lt_of_lt_of_le hq g1))) (fun q hq => ?_)
  · unfold updV aval
    by_cases h : i = n
    · subst h; simp [pai, ai, up2]
    · simp [pai, ai, up2, h]
  · simp [pai, ai, up2, h']
  · rcases List.mem_append.mp hq with h | h
    · exact hL q h
    · rw [List.mem_singleton.mp h]; exact g1
theorem p_zast {r : Nat} {j x : Int32} {n : Nat} (hd : decode M.2.1 pc = .ok (.bastore, 1)) (ht : tg σ r = 101) (hj : j = nI n) (hn : n < al σ r) (hb : n < 2 ^ 31) (hx : narrow .boolean (.int x) = .int x) (kk : Wp M d (pc + 1) lv st (pai σ r n x) P) : Wp M d pc lv (.inl x :: .inl j :: .inr r :: st) σ P := by
  refine Wp.wrote (σ' := pai σ r n x) rfl (fun p l e R s m args below meth c K H locs cells slots ls Z C hR hB hl hL k => ?_) kk
  obtain ⟨a, rfl⟩ := hR.posA (n := 1) ht
  obtain ⟨g1, g2⟩ := hR.2.2.2.1 a 1 (by omega) ht
  subst hj
  refine W.zast C.1 C.2.1 g2 ((C.2.2.2.2.2.1.1.2 1 _ (tys_at (by omega))).1 _ _) (fun q => by cases q) (by rw [arrV_size]; exact nI_in2 hn hb) rfl rfl hd fun H1 e z oq => ?_
  rw [nI_clamp hb, hx, arrV_store] at e
  refine k H1 _ (hR.sto (ti := 1) (by omega) ht e z oq rfl rfl rfl rfl (fun i hi => ?_) (fun r' j' h' => ?_) (fun _ _ _ => rfl)) (fun q hq => oq q (Nat.ne_of_lt (Nat.lt_of_lt_of_le hq g1))) (fun q hq => ?_)
  · unfold updV aval
    by_cases h : i = n
    · subst h; simp [pai, ai, up2]
    · simp [pai, ai, up2, h]
  · simp [pai, ai, up2, h']
  · rcases List.mem_append.mp hq with h | h
    · exact hL q h
    · rw [List.mem_singleton.mp h]; exact g1
/-- an object of class ci may lie where C0 is asked for -/
def CastOk (ci : Nat) (C0 : String) : Prop := ∃ q : vw_C, cls[ci]? = some q ∧ (q.1 = C0 ∨ Cond.castable q.1 C0 ∈ NT ∨ Cond.castable q.1 C0 ∈ GT)
theorem CastOk.asg {K : KX} {p : Program} {R : Room} {s : State} {m : MethodId} {args : Array Value} {meth : Method} {c : Code} (C : Cx M d K p R s m args meth c) {ci : Nat} {C0 : String} (h : CastOk ci C0) {comp : ClassId} (hc : s.vm.findClass C0 = some comp) : s.vm.assignable (kC K ci) comp = true := by
  obtain ⟨q, hq, h⟩ := h
  have hcl := (C.2.2.2.2.2.1.1.1 ci q hq).2
  have two : (Cond.castable q.1 C0).before args s = true → s.vm.assignable (kC K ci) comp = true := by
    intro h1
    obtain ⟨c0, t0, f1, f2, f3⟩ := Cond.castable_spec h1
    cases hc.symm.trans f2
    cases hcl.1.symm.trans f1
    exact f3
  rcases h with h | h | h
  · subst h
    cases hcl.1.symm.trans hc
    exact va_assign hcl
  · exact two (va_Nw.use rfl (C.2.2.2.2.2.1.2.1 _ h))
  · exact two (C.w h)
theorem RepH.cell {K : KX} {H : Heap} (hR : RepH K σ H) {p : Program} {R : Room} {s : State} {m : MethodId} {args : Array Value} {meth : Method} {c : Code} (C : Cx M d K p R s m args meth c) {a ci : Nat} {q : vw_C} (hq : cls[ci]? = some q) (ht : tg σ (a + 1) = ci + 1) : ∃ cell : Cell, H[a]? = some cell ∧ cell.vm.isStatics = false ∧ cell.cls = kC K ci ∧ s.vm.findClass q.1 = some cell.cls ∧ ∃ k : Class, s.vm.classes[cell.cls]? = some k := by
  obtain ⟨gb, cell, g1, g2, g3, g4⟩ := hR.2.2.1 a ci q ht hq
  obtain ⟨h1, k, h2, h3⟩ := (C.2.2.2.2.2.1.1.1 ci q hq).2
  exact ⟨cell, g1, by rw [g3]; rfl, g2, by rw [g2]; exact h1, k, by rw [g2]; exact h2⟩
theorem p_aast {ti r x ci : Nat} {C0 : String} {j : Int32} {n : Nat} (hd : decode M.2.1 pc = .ok (.aastore, 1)) (hti : 2 ≤ ti ∧ ti < 6) (hty : aty ti = .object C0) (ht : tg σ r = 100 + ti) (hx : tg σ x = ci + 1) (hca : CastOk ci C0) (hj : j = nI n) (hn : n < al σ r) (hb : n < 2 ^ 31) (kk : Wp M d (pc + 1) lv st (par σ r n x) P) : Wp M d pc lv (.inr x :: .inl j :: .inr r :: st) σ P := by
  refine Wp.wrote (σ' := par σ r n x) rfl (fun p l e R s m args below meth c K H locs cells slots ls Z C hR hB hl hL k => ?_) kk
  obtain ⟨a, rfl⟩ := hR.posA ht
  obtain ⟨b, rfl⟩ := hR.pos hx
  obtain ⟨g1, g2⟩ := hR.2.2.2.1 a ti hti.2 ht
  subst hj
  obtain ⟨q, hq, -⟩ := id hca
  obtain ⟨cv, c1, c2, c3, c4, kv, c5⟩ := hR.cell C hq hx
  have hRA := (C.2.2.2.2.2.1.1.2 ti _ (tys_at hti.2)).2
  simp only [hty] at hRA
  obtain ⟨kA9, comp, k1, k2, k3, -⟩ := hRA
  obtain ⟨kE, hkE, -⟩ := Vm.findClass_spec k3
  refine W.aast C.1 C.2.1 g2 (fun q h => by cases h) (fun h => by cases h) k1 k2 rfl hkE ⟨nI_pos hb, by rw [arrV_size, nI_clamp hb]; exact hn⟩ c1 (fun q h => by rw [h] at c2; cases c2) c5 (by rw [c3]; exact hca.asg C k3) rfl rfl hd fun H1 e z oq => ?_
  rw [nI_clamp hb, arrV_store] at e
  refine k H1 _ (hR.sto (ti := ti) hti.2 ht e z oq rfl rfl rfl rfl (fun i hi => ?_) (fun _ _ _ => rfl) (fun r' j' h' => ?_)) (fun q hq => oq q (Nat.ne_of_lt (Nat.lt_of_lt_of_le hq g1))) (fun q hq => ?_)
  · have h2 : ¬ ti < 2 := by omega
    by_cases h : i = n
    · subst h; simp [updV, aval, h2, par, ar, up2, tv]
    · simp [updV, aval, h2, par, ar, up2, h]
  · simp [par, ar, up2, h']
  · rcases List.mem_append.mp hq with h | h
    · exact hL q h
    · rw [List.mem_singleton.mp h]; exact g1
theorem p_aastN {ti r : Nat} {C0 : String} {j : Int32} {n : Nat} (hd : decode M.2.1 pc = .ok (.aastore, 1)) (hti : 2 ≤ ti ∧ ti < 6) (hty : aty ti = .object C0) (ht : tg σ r = 100 + ti) (hj : j = nI n) (hn : n < al σ r) (hb : n < 2 ^ 31) (kk : Wp M d (pc + 1) lv st (par σ r n 0) P) : Wp M d pc lv (.inr 0 :: .inl j :: .inr r :: st) σ P := by
  refine Wp.wrote (σ' := par σ r n 0) rfl (fun p l e R s m args below meth c K H locs cells slots ls Z C hR hB hl hL k => ?_) kk
  obtain ⟨a, rfl⟩ := hR.posA ht
  obtain ⟨g1, g2⟩ := hR.2.2.2.1 a ti hti.2 ht
  subst hj
  have hAr := (C.2.2.2.2.2.1.1.2 ti _ (tys_at hti.2)).1
  simp only [hty] at hAr
  refine va_WaastN (C := C0) C.1 C.2.1 g2 (hAr _ _) (fun h => by cases h) (by rw [arrV_size]; exact nI_in2 hn hb) rfl rfl hd fun H1 e z oq => ?_
  rw [nI_clamp hb, arrV_store] at e
  refine k H1 _ (hR.sto (ti := ti) hti.2 ht e z oq rfl rfl rfl rfl (fun i hi => ?_) (fun _ _ _ => rfl) (fun r' j' h' => ?_)) (fun q hq => oq q (Nat.ne_of_lt (Nat.lt_of_lt_of_le hq g1))) (fun q hq => ?_)
  · have h2 : ¬ ti < 2 := by omega
    by_cases h : i = n
    · subst h; simp [updV, aval, h2, par, ar, up2, tv]
    · simp [updV, aval, h2, par, ar, up2, h]
  · simp [par, ar, up2, h']
  · rcases List.mem_append.mp hq with h | h
    · exact hL q h
    · rw [List.mem_singleton.mp h]; exact g1
theorem p_gets {idx : Nat} {z : Nat} (hd : decode M.2.1 pc = .ok (.getstatic idx, 3)) (hw : Cond.fieldLink M.1.cls idx "java/util/ArrayList" "DEFAULTCAPACITY_EMPTY_ELEMENTDATA" "[Ljava/lang/Object;" ∈ GT) (hz : tg σ z = 99) (kk : Wp M d (pc + 3) lv (.inr z :: st) σ P) : Wp M d pc lv st σ P := by
  refine Wp.go (fun p l e R s m args below meth c K H locs cells slots ls Z C hR hB hL hl k => ?_) kk
  obtain ⟨rfl, -⟩ := hR.2.2.2.2.1 z hz
  obtain ⟨cf, kf, fi, f, a, cell, h1, h2, h3, h4, h5, h6, h7, h8⟩ := C.2.2.2.2.2.1.2.2.1
  exact W.gets C.1 C.2.1 C.2.2.2.1 (C.w hw) h1 h2 h3 h4 (by rw [hB a (Nat.not_le.mp h8)]; exact h5) (fun e => by rw [e] at h6; cases h6) h7 rfl hd k
theorem p_cast {idx ci r : Nat} {C0 : String} (hd : decode M.2.1 pc = .ok (.checkcast idx, 3)) (hw : Cond.classLink M.1.cls idx C0 ∈ GT) (hca : CastOk ci C0) (ht : tg σ r = ci + 1) (hC0 : ∃ (cj : Nat) (q : vw_C), cls[cj]? = some q ∧ q.1 = C0) (kk : Wp M d (pc + 3) lv (.inr r :: st) σ P) : Wp M d pc lv (.inr r :: st) σ P := by
  refine Wp.go (fun p l e R s m args below meth c K H locs cells slots ls Z C hR hB hL hl k => ?_) kk
  obtain ⟨a, rfl⟩ := hR.pos ht
  obtain ⟨q, hq, -⟩ := id hca
  obtain ⟨cell, c1, c2, c3, c4, kv, c5⟩ := hR.cell C hq ht
  obtain ⟨cj, q', hq', rfl⟩ := hC0
  have hcj := (C.2.2.2.2.2.1.1.1 cj q' hq').2.1
  intro T hT X
  obtain ⟨vm', X', stp⟩ := X.checkcastYes C.1 C.2.2.2.1 (C.w hw) (by rw [hT]; exact c1) c2 hcj (by rw [c3]; exact hca.asg C hcj) (g := F0 m pc ls (.ref a :: st.map tv)) rfl rfl (by rw [C.2.1]; exact hd)
  obtain ⟨t, a1, b1⟩ := k (T.setVm vm') hT X'
  exact ⟨t, stp t a1, b1⟩
theorem p_ldcM {idx : Nat} (hd : decode M.2.1 pc = .ok (.ldc idx, 2)) (hw : Cond.classLink M.1.cls idx "[Ljava/lang/Object;" ∈ GT) (kk : Wp M d (pc + 2) lv (.inr (al σ 0) :: st) σ P) : Wp M d pc lv st σ P := by
  refine Wp.go (fun p l e R s m args below meth c K H locs cells slots ls Z C hR hB hL hl k => ?_) kk
  rw [hR.2.2.2.2.2.2.2] at k
  exact va_ldcM C.1 C.2.1 C.2.2.2.1 (C.w hw) C.2.2.2.2.2.1.2.2.2.2.1 hd k
def gcN : MethodName := ⟨"java/lang/Object", "getClass", "()Ljava/lang/Class;"⟩
theorem p_getC {idx r : Nat} (hd : decode M.2.1 pc = .ok (.invokevirtual idx, 3)) (hw : Cond.methodLink M.1.cls idx gcN ∈ GT) (h1 : Cond.declares gcN ∈ NT ∨ Cond.declares gcN ∈ GT) (h2 : Cond.selects "[Ljava/lang/Object;" gcN gcN ∈ GT) (h3 : Cond.instanceMethod gcN ∈ GT) (h4 : Cond.native gcN ∈ GT) (hst : st.length ≤ 8) (hd1 : 1 ≤ d) (ht : tg σ r = 102) (kk : Wp M d (pc + 3) lv (.inr (al σ 0) :: st) σ P) : Wp M d pc lv (.inr r :: st) σ P := by
  refine Wp.go (fun p l e R s m args below meth c K H locs cells slots ls Z C hR hB hL hl k => ?_) kk
  rw [hR.2.2.2.2.2.2.2] at k
  obtain ⟨a, rfl⟩ := hR.posA (n := 2) ht
  obtain ⟨g1, g2⟩ := hR.2.2.2.1 a 2 (by omega) ht
  have hRA := (C.2.2.2.2.2.1.1.2 2 _ (tys_at (by omega))).2
  have hdc : (Cond.declares gcN).before args s = true := by
    rcases h1 with h | h
    · exact va_Nw.use rfl (C.2.2.2.2.2.1.2.1 _ h)
    · exact C.w h
  exact va_getC C.1 C.2.1 (by rw [C.2.2.1]; exact hl.1.symm) C.2.2.2.1 (C.w hw) hdc (C.w h2) (C.w h3) (C.w h4) C.2.2.2.2.2.1.2.2.2.2.1 ⟨_, g2, rfl, va_nmO hRA rfl⟩ (Nat.le_trans hd1 C.2.2.2.2.2.2.1) (by rw [cat_sum]; have := C.2.2.2.2.2.2.2.1; omega) hd k
end RowsC
end
section
/-! copies of references, calls, a method out of its body -/
section RowsD
variable {M : MM} {d pc : Nat} {lv : List (Nat × PV)} {st : List PV} {σ : PS} {P : Option PV → PS → Prop}
theorem nn_int {z : Int32} (hz : ¬ z < 0) : z.toInt = (z.toNatClampNeg : Int) := by
  have hz0 : (0 : Int) ≤ z.toInt := by
    have := Int32.not_lt.mp hz
    simpa using Int32.le_iff_toInt_le.mp this
  show z.toInt = ((z.toInt.toNat : Nat) : Int)
  omega
theorem castO4 : CastOk 3 "java/lang/Object" := ⟨_, rfl, Or.inr (by first | exact Or.inl (nt_at 883 (by decide +kernel) (by decide +kernel)) | exact Or.inr (gt_at 883 (by decide +kernel) (by decide +kernel)))⟩
theorem castO6 : CastOk 5 "java/lang/Object" := ⟨_, rfl, Or.inr (by first | exact Or.inl (nt_at 884 (by decide +kernel) (by decide +kernel)) | exact Or.inr (gt_at 884 (by decide +kernel) (by decide +kernel)))⟩
theorem p_copy {idx r0 r sp dp n : Nat} {xs xd xn : Int32} (hd : decode M.2.1 pc = .ok (.invokestatic idx, 3)) (hw : Cond.methodLink M.1.cls idx arraycopyName ∈ GT) (hw1 : Cond.native arraycopyName ∈ GT) (hw2 : Cond.static arraycopyName ∈ GT) (hw3 : Cond.initialized "java/lang/System" ∈ GT)
    (t0 : tg σ r0 = 102) (t1 : tg σ r = 102) (e0 : xs = nI sp) (e1 : xd = nI dp) (e2 : xn = nI n) (b0 : sp < 2 ^ 30) (b1 : dp < 2 ^ 30) (b2 : n < 2 ^ 30) (h4 : sp + n ≤ al σ r0) (h5 : dp + n ≤ al σ r) (hel : ∀ i, i < n → ar σ r0 (sp + i) = 0 ∨ tg σ (ar σ r0 (sp + i)) = 4 ∨ tg σ (ar σ r0 (sp + i)) = 6) (hst : st.length ≤ 8) (hd1 : 1 ≤ d)
    (kk : Wp M d (pc + 3) lv st (pcpy σ r0 sp r dp n) P) : Wp M d pc lv (.inl xn :: .inl xd :: .inr r :: .inl xs :: .inr r0 :: st) σ P := by
  refine Wp.wrote (σ' := pcpy σ r0 sp r dp n) rfl (fun p l e R s m args below meth c K H locs cells slots ls Z C hR hB hl hL k => ?_) kk
  obtain ⟨a0, rfl⟩ := hR.posA (n := 2) t0
  obtain ⟨a, rfl⟩ := hR.posA (n := 2) t1
  obtain ⟨gb0, hc0⟩ := hR.2.2.2.1 a0 2 (by omega) t0
  obtain ⟨gb, hc1⟩ := hR.2.2.2.1 a 2 (by omega) t1
  subst e0; subst e1; subst e2
  have p0 : ¬ nI sp < 0 := nI_pos (by omega)
  have p1 : ¬ nI dp < 0 := nI_pos (by omega)
  have p2 : ¬ nI n < 0 := nI_pos (by omega)
  have q0 : (nI sp).toNatClampNeg = sp := nI_clamp (by omega)
  have q1 : (nI dp).toNatClampNeg = dp := nI_clamp (by omega)
  have q2 : (nI n).toNatClampNeg = n := nI_clamp (by omega)
  have hAr := (C.2.2.2.2.2.1.1.2 2 _ (tys_at (by omega))).1
  have hRA := (C.2.2.2.2.2.1.1.2 2 _ (tys_at (by omega))).2
  have f0 : ∀ r' : Nat, (fun j => aval σ 2 r' j) = fun j => tv (.inr (ar σ r' j)) := fun r' => by funext j; simp [aval]
  rw [f0] at hc0 hc1
  obtain ⟨-, k0, hk0, cm0, hkk0⟩ := hAr (al σ (a0 + 1)) (fun j => tv (.inr (ar σ (a0 + 1) j)))
  obtain ⟨-, k1, hk1, cm1, hkk1⟩ := hAr (al σ (a + 1)) (fun j => tv (.inr (ar σ (a + 1) j)))
  intro T hT X
  obtain ⟨vm', X', step⟩ := X.arraycopy C.1 C.2.2.2.1 (C.w hw) (C.w hw1) (C.w hw2) (C.w hw3) (src := a0) (dst := a) (srcPos := nI sp) (destPos := nI dp) (n := nI n) (by rw [hT]; exact hc0) (by rw [hT]; exact hc1)
    (fun _ h => by cases h) (fun _ h => by cases h) (fun h => by cases h) (fun h => by cases h) hk0 hk1 hkk0 hkk1 rfl p0 p1 p2
    (by rw [nn_int p0, nn_int p2, q0, q2, arrV_size]; omega)
    (by rw [nn_int p1, nn_int p2, q1, q2, arrV_size]; omega)
    (fun vm₁ hal i hi => by
      rw [q2] at hi
      rw [q0]
      have e : (arrV (kA K 2) (al σ (a0 + 1)) (fun j => tv (.inr (ar σ (a0 + 1) j)))).slots.getD (sp + i) .null = tv (.inr (ar σ (a0 + 1) (sp + i))) := by
        rw [Array.getD_eq_getD_getElem?, arrV_read _ _ (by omega)]
        rfl
      rw [e]
      have any : ∀ (y ci : Nat) (q : vw_C), ar σ (a0 + 1) (sp + i) = y + 1 → tg σ (y + 1) = ci + 1 → cls[ci]? = some q → CastOk ci "java/lang/Object" → fits (aty 2) (.ref y) = true ∧ (T.setVm vm₁).takes cm1 (.ref y) := by
        intro y ci q hy hty hq hca
        obtain ⟨cellV, g1, g2, g3, g4, kC9, hkC⟩ := hR.cell C hq hty
        obtain ⟨kA9, comp, r1, r2, r3, -⟩ := hRA
        cases hk1.symm.trans r1
        cases hkk1.symm.trans r2
        obtain ⟨kE, hkE, -⟩ := Vm.findClass_spec r3
        obtain ⟨kC', hkC', -⟩ := hal.2.2 _ _ hkC
        obtain ⟨kE', hkE', -⟩ := hal.2.2 _ _ hkE
        refine ⟨rfl, cellV, (show T.heap[y]? = some cellV by rw [hT]; exact g1), (fun q h => by rw [h] at g2; cases g2), ⟨kC', hkC'⟩, ⟨kE', hkE'⟩, ?_⟩
        show vm₁.assignable _ _ = true
        rw [hal.assignable, g3]
        exact hca.asg C r3
      rcases hel i hi with h0 | h0 | h0
      · rw [h0]; exact ⟨rfl, trivial⟩
      · obtain ⟨y, hy⟩ := hR.pos (n := 3) h0
        rw [hy]
        exact any y 3 _ hy (by rw [← hy]; exact h0) rfl castO4
      · obtain ⟨y, hy⟩ := hR.pos (n := 5) h0
        rw [hy]
        exact any y 5 _ hy (by rw [← hy]; exact h0) rfl castO6)
    (g := F0 m pc ls ((.inl (nI n) :: .inl (nI dp) :: .inr (a + 1) :: .inl (nI sp) :: .inr (a0 + 1) :: st : List PV).map tv)) rfl (by rw [C.2.2.1]; exact hl.1) (rest := st.map tv) rfl (by rw [C.2.1]; exact hd) (Nat.le_trans hd1 C.2.2.2.2.2.2.1)
    (by
      have hw9 : nativeFrameWords "java/lang/System" "arraycopy" 5 ≤ 20 := by decide
      have := C.2.2.2.2.2.2.2.1
      show 2 * 0 + _ + _ ≤ _
      rw [cat_sum]
      omega)
  have e1 : copied (arrV (kA K 2) (al σ (a0 + 1)) (fun j => tv (.inr (ar σ (a0 + 1) j)))) (arrV (kA K 2) (al σ (a + 1)) (fun j => tv (.inr (ar σ (a + 1) j)))) (nI sp) (nI dp) (nI n) = arrV (kA K 2) (al σ (a + 1)) (fun j => tv (.inr (va_cpy (ar σ (a0 + 1)) (ar σ (a + 1)) sp dp n j))) := by
    have := va_copied (fun z : Nat => tv (.inr z)) (kA K 2) (kA K 2) (n1 := al σ (a + 1)) (dp := dp) (ar σ (a0 + 1)) (ar σ (a + 1)) h4
    rw [← this]
    unfold copied
    rw [q0, q1, q2]
  rw [e1] at X' step
  have hlt : a < H.size := (Array.getElem?_eq_some_iff.mp hc1).1
  have hheap : ((T.setVm vm').setCell a (arrV (kA K 2) (al σ (a + 1)) (fun j => tv (.inr (va_cpy (ar σ (a0 + 1)) (ar σ (a + 1)) sp dp n j))))).heap = H.setIfInBounds a (arrV (kA K 2) (al σ (a + 1)) (fun j => tv (.inr (va_cpy (ar σ (a0 + 1)) (ar σ (a + 1)) sp dp n j)))) := by rw [← hT]; rfl
  have oq : ∀ q : Nat, q ≠ a → (H.setIfInBounds a (arrV (kA K 2) (al σ (a + 1)) (fun j => tv (.inr (va_cpy (ar σ (a0 + 1)) (ar σ (a + 1)) sp dp n j)))))[q]? = H[q]? := fun q hq => by simp [Array.getElem?_setIfInBounds, Ne.symm hq]
  obtain ⟨t, a1, b1⟩ := k _ _ (hR.sto (ti := 2) (σ' := pcpy σ (a0 + 1) sp (a + 1) dp n) (by omega) t1 (f := fun j => tv (.inr (va_cpy (ar σ (a0 + 1)) (ar σ (a + 1)) sp dp n j))) (show (H.setIfInBounds a _)[a]? = some _ by simp [Array.getElem?_setIfInBounds, hlt]) (by simp) oq rfl rfl rfl rfl (fun j hj => by simp [aval, pcpy, ar]) (fun _ _ _ => rfl) (fun r' j' h' => if_neg h'))
    (fun q hq => oq q (Nat.ne_of_lt (Nat.lt_of_lt_of_le hq gb))) (fun q hq => by
      rcases List.mem_append.mp hq with h | h
      · exact hL q h
      · obtain ⟨z, -, hz⟩ := List.mem_map.mp h
        rw [← hz]
        exact gb) _ hheap X'
  exact ⟨t, step t a1, b1⟩
end RowsD
end
section
/-! calls, and a method out of its body -/
theorem nt_kinds {w : Cond} (h : w ∈ NT) : isN w = true := (List.mem_filter.mp h).2
theorem nt_warm {w : Cond} (hw : isN w = true) {s U : State} (hW : s.WarmedH U.vm) (h : va_Nw w s) : va_Nw w U := by
  unfold isN at hw
  split at hw
  · exact va_Nw.warmM hW h
  · exact va_Nw.warmC hW h
  · exact va_Nw.warmD hW h
  · exact va_AO.moved hW.alike h
  · cases hw
theorem nt_same {w : Cond} (hw : isN w = true) {s U : State} (hv : s.vm = U.vm) (h : va_Nw w s) : va_Nw w U := by
  unfold isN at hw
  split at hw
  · exact va_Nw.same rfl hv h
  · exact va_Nw.same rfl hv h
  · exact va_Nw.same rfl hv h
  · exact va_AO.moved (by rw [hv]; exact Vm.Alike.refl _) h
  · cases hw
theorem SF.moved {K : KX} {s U : State} (hW : s.WarmedH U.vm) (hB : ∀ q : Nat, q < kb K → U.heap[q]? = s.heap[q]?) (h : SF K s) : SF K U := by
  obtain ⟨h1, h2, h3, h4, h5, h6, h7⟩ := h
  exact ⟨va_K.moved hW.alike h1, fun w hw => nt_warm (nt_kinds hw) hW (h2 w hw), (va_Z.moved hW.alike h3).kept (fun a _ ha => hB a (Nat.not_le.mp ha)), (va_T.moved hW.alike h4).kept (fun a _ ha => hB a (Nat.not_le.mp ha)), va_Mi.moved hW.alike h5, (va_X.moved hW.alike h6).kept (hB _ h7), h7⟩
theorem SF.same {K : KX} {u U : State} (hv : u.vm = U.vm) (hh : u.heap = U.heap) (h : SF K u) : SF K U := by
  obtain ⟨h1, h2, h3, h4, h5, h6, h7⟩ := h
  have ha : u.vm.Alike U.vm := by rw [hv]; exact Vm.Alike.refl _
  exact ⟨va_K.moved ha h1, fun w hw => nt_same (nt_kinds hw) hv (h2 w hw), (va_Z.moved ha h3).kept (fun a _ _ => by rw [hh]), (va_T.moved ha h4).kept (fun a _ _ => by rw [hh]), va_Mi.moved ha h5, (va_X.moved ha h6).kept (by rw [hh]), h7⟩
theorem Pcx.blind (K : KX) (as : List PV) (σ : PS) : FrameBlind (Pcx K as σ) := by
  intro a U g mk h
  exact ⟨h.1, h.2.1, SF.same (u := U) (U := U.calling g mk a) rfl rfl h.2.2⟩
/-- a method that is known: its code is among the words, its class is ready, so many parameters, not too many locals -/
def MK (M : MM) (n : Nat) : Prop := Cond.code M.1 M.2.1 M.2.2.1 M.2.2.2 ∈ GT ∧ Cond.initialized M.1.cls ∈ GT ∧ (M.1.cls ≠ "java/lang/invoke/MethodHandle" ∧ M.1.cls ≠ "java/lang/invoke/VarHandle") ∧ (parseMethodDescriptor M.1.desc).map (fun d => d.parameters.length) = some n ∧ M.2.2.1 ≤ 22 ∧ plainName M.1.cls = true
theorem gt_good {w : Cond} (h : w ∈ GT) : (w.onTables && w.keeps) = true ∨ ∃ ty, w = .arrayClass ty := good_of_word (List.mem_filter.mp h).2
theorem MK.callB {M M' : MM} {d d' : Nat} {K : KX} {p : Program} {R : Room} {s : State} {m : MethodId} {args : Array Value} {meth : Method} {c : Code} {n idx mc ms : Nat} (C : Cx M d K p R s m args meth c) (hM : MK M' n) (hdd : d' + 1 ≤ d) (hl : Cond.methodLink M.1.cls idx M'.1 ∈ GT) : CallB R s args M.1.cls idx M'.1 M'.2.1 M'.2.2.1 M'.2.2.2 (mws M') (rmd d' mc ms) mc ms n := by
  obtain ⟨h1, h2, h3, h4, h5, -⟩ := hM
  have c7 := C.2.2.2.2.2.2.1
  have c8 := C.2.2.2.2.2.2.2.1
  refine ⟨rfl, rfl, by show d' + 1 ≤ R.frames; omega, by show 8 + (M'.2.2.1 + 11) + 41 * d' ≤ R.locals; omega, ?_, List.mem_cons_self, C.w h1, C.w h2, h3, fun sig h => ?_, C.w hl⟩
  · intro w hw a' U hW
    have hg : w ∈ GT := by
      rcases List.mem_cons.mp hw with rfl | h
      · exact h1
      · exact h
    exact word_at hW (gt_good hg) (C.w hg)
  · rw [h] at h4
    exact (Option.some.inj h4).symm
theorem MK.callN {M M' : MM} {d d' : Nat} {K : KX} {p : Program} {R : Room} {s : State} {m : MethodId} {args : Array Value} {meth : Method} {c : Code} {n idx mc ms : Nat} {host : String} (C : Cx M d K p R s m args meth c) (hM : MK M' n) (hdd : d' + 1 ≤ d) (hl : Cond.methodLinkNest M.1.cls idx M'.1 host ∈ NT) : va_CN R s args M.1.cls idx M'.1 host M'.2.1 M'.2.2.1 M'.2.2.2 (mws M') (rmd d' mc ms) mc ms n := by
  obtain ⟨h1, h2, h3, h4, h5, -⟩ := hM
  have c7 := C.2.2.2.2.2.2.1
  have c8 := C.2.2.2.2.2.2.2.1
  refine ⟨⟨rfl, rfl, by show d' + 1 ≤ R.frames; omega, by show 8 + (M'.2.2.1 + 11) + 41 * d' ≤ R.locals; omega, ?_, List.mem_cons_self⟩, C.w h1, C.w h2, h3, fun sig h => ?_, va_Nw.use rfl (C.2.2.2.2.2.1.2.1 _ hl)⟩
  · intro w hw a' U hW
    have hg : w ∈ GT := by
      rcases List.mem_cons.mp hw with rfl | h
      · exact h1
      · exact h
    exact word_at hW (gt_good hg) (C.w hg)
  · rw [h] at h4
    exact (Option.some.inj h4).symm
section RowsE
variable {M M' : MM} {d d' pc : Nat} {lv : List (Nat × PV)} {st st0 : List PV} {σ : PS} {P : Option PV → PS → Prop}
theorem call_go {as : List PV} {v1 : Option PV} {σ1 : PS} {p : Program} {l : Launch} {e : Env} {R : Room} {s : State} {m : MethodId} {args : Array Value} {below : List Frame} {meth : Method} {c : Code} {K : KX} {H : Heap} {locs : List Loc} {cells slots : Nat} {ls : Array Slot} {Z : State → Prop} {a : Array Value} (hB : ∀ q : Nat, q < kb K → H[q]? = s.heap[q]?) (hL : ∀ q ∈ locs, kb K ≤ q.base)
    (run : va_Run p l e R s m args below meth c H locs cells slots (nx σ1 - nx σ) (sl σ1 - sl σ) (F0 m pc ls (st0.map tv)) (st.map tv) (Qcx K v1 σ1 a) (fun q => kb K ≤ q))
    (k : ∀ (H' : Heap) (locs' : List Loc), RepH K σ1 H' → (∀ q : Nat, q < kb K → H'[q]? = s.heap[q]?) → (∀ q ∈ locs', kb K ≤ q.base) → W p l e R s m args below meth c H' locs' (cells + (nx σ1 - nx σ)) (slots + (sl σ1 - sl σ)) Z (F0 m (pc + 3) ls ((v1.toList ++ st).map tv))) :
    W p l e R s m args below meth c H locs cells slots Z (F0 m pc ls (st0.map tv)) := by
  intro T hT X
  obtain ⟨v, st₀, t, T', L, h0, X', hL', e1, e2, ⟨hv, hR, hF⟩, go⟩ := run T hT X
  have hv' : v = v1.map tv := Outcome.returned.inj hv
  subst hv'
  obtain ⟨t2, a1, b1⟩ := k T'.heap (locs ++ L) (by rw [e1]; exact hR) (fun q hq => by rw [e1, hF q hq, h0]; exact hB q hq) (fun q hq => by
    rcases List.mem_append.mp hq with h | h
    · exact hL q h
    · exact hL' q h) T' rfl X'
  refine ⟨t2, go t2 ?_, b1⟩
  have ev : (v1.map tv).toList ++ st.map tv = (v1.toList ++ st).map tv := by cases v1 <;> simp
  show Steps p.tables e below (T'.setTop (F0 m (pc + 3) ls ((v1.map tv).toList ++ st.map tv))) t2
  rw [ev]
  exact a1
theorem call_wrap {as : List PV} (h : Ctr M' d' as σ (fun v σ1 => Wp M d (pc + 3) lv (v.toList ++ st) σ1 P))
    (run : ∀ (v1 : Option PV) (σ1 : PS) (p : Program) (l : Launch) (e : Env) (R : Room) (s : State) (m : MethodId) (args : Array Value) (below : List Frame) (meth : Method) (c : Code) (K : KX) (H : Heap) (locs : List Loc) (cells slots : Nat) (ls : Array Slot), Cx M d K p R s m args meth c → RepH K σ H → (∀ q : Nat, q < kb K → H[q]? = s.heap[q]?) → lv_has ls M.2.2.1 (lvs lv) →
      Met l M'.1 (mws M') (rmd d' (nx σ1 - nx σ) (sl σ1 - sl σ)) (Pcx K as σ) (Qcx K v1 σ1) (nx σ1 - nx σ) (sl σ1 - sl σ) (fun q => kb K ≤ q) → cells + (nx σ1 - nx σ) ≤ R.cells → slots + (sl σ1 - sl σ) ≤ R.slots →
      va_Run p l e R s m args below meth c H locs cells slots (nx σ1 - nx σ) (sl σ1 - sl σ) (F0 m pc ls (st0.map tv)) (st.map tv) (Qcx K v1 σ1 (as.map tv).toArray) (fun q => kb K ≤ q)) : Wp M d pc lv st0 σ P := by
  obtain ⟨v1, σ1, ⟨v, σ', hP, m1, m2, hW⟩, n1, n2, hM⟩ := h
  refine ⟨v, σ', hP, Nat.le_trans n1 m1, Nat.le_trans n2 m2, fun p l e R s m args below meth c K H locs cells slots ls Z C hR hB hL hc hs hl hk => ?_⟩
  refine call_go (as := as) hB hL (run v1 σ1 p l e R s m args below meth c K H locs cells slots ls C hR hB hl (hM l K) (by omega) (by omega)) (fun H' locs' hR' hB' hL' => ?_)
  refine hW p l e R s m args below meth c K H' locs' _ _ ls Z C hR' hB' hL' (by omega) (by omega) hl ?_
  have e1 : cells + (nx σ1 - nx σ) + (nx σ' - nx σ1) = cells + (nx σ' - nx σ) := by omega
  have e2 : slots + (sl σ1 - sl σ) + (sl σ' - sl σ1) = slots + (sl σ' - sl σ) := by omega
  rw [e1, e2]
  exact hk
theorem room8 {m : MethodId} {ls : Array Slot} {st9 : List Value} (h : st.length ≤ 8) : 2 * (F0 m pc ls st9).monitorRoom + ((st.map tv).map fun v => v.category).sum ≤ 8 := by
  rw [cat_sum]
  show 2 * 0 + _ ≤ 8
  omega
/-- a call on an object of the very class -/
theorem p_inv {idx ci b n : Nat} {q : vw_C} (As : List PV) (rest : List PV) (hd : decode M.2.1 pc = .ok (.invokevirtual idx, 3)) (hl : Cond.methodLink M.1.cls idx M'.1 ∈ GT) (hM : MK M' n) (h1 : Cond.instanceMethod M'.1 ∈ GT) (h2 : Cond.selects M'.1.cls M'.1 M'.1 ∈ GT) (hq : cls[ci]? = some q) (hq1 : q.1 = M'.1.cls) (ht : tg σ b = ci + 1) (hn : As.length = n) (hst : st0 = As.reverse ++ .inr b :: rest) (h8 : rest.length ≤ 8) (hdd : d' + 1 ≤ d)
    (h : Ctr M' d' (.inr b :: As) σ (fun v σ1 => Wp M d (pc + 3) lv (v.toList ++ rest) σ1 P)) : Wp M d pc lv st0 σ P := by
  refine call_wrap (st := rest) h (fun v1 σ1 p l e R s m args below meth c K H locs cells slots ls C hR hB hlv hMet hc hs => ?_)
  obtain ⟨a, rfl⟩ := hR.pos ht
  obtain ⟨cell, c1, c2, c3, c4, -⟩ := hR.cell C hq ht
  rw [hq1] at c4
  exact va_runV (C := M'.1.cls) (As := As.map tv) (rest := rest.map tv) (n := n) (nL := M.2.2.1) (Ts := GT) ⟨C.1, C.2.1, C.2.2.1, C.2.2.2.1, C.2.2.2.2.1⟩ hMet ⟨MK.callB C hM hdd hl, C.w h1, C.w h2⟩ ⟨Pcx.blind _ _ _, ⟨cell, c1, c2, c4⟩, fun U hU hW => ⟨rfl, by rw [hU]; exact hR, C.2.2.2.2.2.1.moved hW (fun z hz => by rw [hU]; exact hB z hz)⟩⟩ rfl (by rw [List.length_map]; exact hn) hlv.1 (by rw [hst]; simp [tv]) (room8 h8) hd ⟨hc, hs⟩
theorem p_stat {idx n : Nat} (As : List PV) (rest : List PV) (hd : decode M.2.1 pc = .ok (.invokestatic idx, 3)) (hl : Cond.methodLink M.1.cls idx M'.1 ∈ GT) (hM : MK M' n) (h1 : Cond.static M'.1 ∈ GT) (hn : As.length = n) (hst : st0 = As.reverse ++ rest) (h8 : rest.length ≤ 8) (hdd : d' + 1 ≤ d)
    (h : Ctr M' d' As σ (fun v σ1 => Wp M d (pc + 3) lv (v.toList ++ rest) σ1 P)) : Wp M d pc lv st0 σ P := by
  refine call_wrap (st := rest) h (fun v1 σ1 p l e R s m args below meth c K H locs cells slots ls C hR hB hlv hMet hc hs => ?_)
  exact va_runS (As := As.map tv) (rest := rest.map tv) (n := n) (nL := M.2.2.1) (Ts := GT) ⟨C.1, C.2.1, C.2.2.1, C.2.2.2.1, C.2.2.2.2.1⟩ hMet ⟨MK.callB C hM hdd hl, C.w h1⟩ ⟨Pcx.blind _ _ _, fun U hU hW => ⟨rfl, by rw [hU]; exact hR, C.2.2.2.2.2.1.moved hW (fun z hz => by rw [hU]; exact hB z hz)⟩⟩ rfl (by rw [List.length_map]; exact hn) hlv.1 (by rw [hst]; simp) (room8 h8) hd ⟨hc, hs⟩
theorem p_init {idx n b : Nat} (As : List PV) (rest : List PV) (hd : decode M.2.1 pc = .ok (.invokespecial idx, 3)) (hl : Cond.methodLink M.1.cls idx M'.1 ∈ GT) (hM : MK M' n) (h1 : Cond.instanceMethod M'.1 ∈ GT) (h2 : M'.1.name = "<init>") (h3 : M'.2.2.2 = none) (hb : b ≠ 0) (hn : As.length = n) (hst : st0 = As.reverse ++ .inr b :: rest) (h8 : rest.length ≤ 8) (hdd : d' + 1 ≤ d)
    (h : Ctr M' d' (.inr b :: As) σ (fun v σ1 => Wp M d (pc + 3) lv (v.toList ++ rest) σ1 P)) : Wp M d pc lv st0 σ P := by
  refine call_wrap (st := rest) h (fun v1 σ1 p l e R s m args below meth c K H locs cells slots ls C hR hB hlv hMet hc hs => ?_)
  obtain ⟨a, rfl⟩ : ∃ a, b = a + 1 := ⟨b - 1, by omega⟩
  have hcb := MK.callB (mc := nx σ1 - nx σ) (ms := sl σ1 - sl σ) C hM hdd hl
  rw [h3] at hcb
  exact va_runI (As := As.map tv) (rest := rest.map tv) (n := n) (nL := M.2.2.1) (Ts := GT) ⟨C.1, C.2.1, C.2.2.1, C.2.2.2.1, C.2.2.2.2.1⟩ hMet ⟨hcb, h2, C.w h1⟩ ⟨Pcx.blind _ _ _, fun U hU hW => ⟨rfl, by rw [hU]; exact hR, C.2.2.2.2.2.1.moved hW (fun z hz => by rw [hU]; exact hB z hz)⟩⟩ rfl (by rw [List.length_map]; exact hn) hlv.1 (by rw [hst]; simp [tv]) (room8 h8) hd ⟨hc, hs⟩
theorem p_initN {idx n b : Nat} {host : String} (As : List PV) (rest : List PV) (hd : decode M.2.1 pc = .ok (.invokespecial idx, 3)) (hl : Cond.methodLinkNest M.1.cls idx M'.1 host ∈ NT) (hM : MK M' n) (h1 : Cond.instanceMethod M'.1 ∈ GT) (h2 : M'.1.name = "<init>") (h3 : M'.2.2.2 = none) (hb : b ≠ 0) (hn : As.length = n) (hst : st0 = As.reverse ++ .inr b :: rest) (h8 : rest.length ≤ 8) (hdd : d' + 1 ≤ d)
    (h : Ctr M' d' (.inr b :: As) σ (fun v σ1 => Wp M d (pc + 3) lv (v.toList ++ rest) σ1 P)) : Wp M d pc lv st0 σ P := by
  refine call_wrap (st := rest) h (fun v1 σ1 p l e R s m args below meth c K H locs cells slots ls C hR hB hlv hMet hc hs => ?_)
  obtain ⟨a, rfl⟩ : ∃ a, b = a + 1 := ⟨b - 1, by omega⟩
  have hcb := MK.callN (mc := nx σ1 - nx σ) (ms := sl σ1 - sl σ) C hM hdd hl
  rw [h3] at hcb
  exact va_runIN (As := As.map tv) (rest := rest.map tv) (n := n) (nL := M.2.2.1) (Ts := GT) ⟨C.1, C.2.1, C.2.2.1, C.2.2.2.1, C.2.2.2.2.1⟩ hMet ⟨hcb, h2, C.w h1⟩ ⟨Pcx.blind _ _ _, fun U hU hW => ⟨rfl, by rw [hU]; exact hR, C.2.2.2.2.2.1.moved hW (fun z hz => by rw [hU]; exact hB z hz)⟩⟩ rfl (by rw [List.length_map]; exact hn) hlv.1 (by rw [hst]; simp [tv]) (room8 h8) hd ⟨hc, hs⟩
theorem p_oinit {idx b : Nat} (hd : decode M.2.1 pc = .ok (.invokespecial idx, 3)) (hl : Cond.methodLink M.1.cls idx objectInit ∈ GT) (h1 : Cond.instanceMethod objectInit ∈ GT) (h2 : Cond.code objectInit ⟨#[0xb1]⟩ 1 none ∈ GT) (hb : b ≠ 0) (h8 : st.length ≤ 8) (hd1 : 1 ≤ d) (kk : Wp M d (pc + 3) lv st σ P) : Wp M d pc lv (.inr b :: st) σ P := by
  refine Wp.go (fun p l e R s m args below meth c K H locs cells slots ls Z C hR hB hL hlv k => ?_) kk
  obtain ⟨a, rfl⟩ : ∃ a, b = a + 1 := ⟨b - 1, by omega⟩
  have c7 := C.2.2.2.2.2.2.1
  have c8 := C.2.2.2.2.2.2.2.1
  exact W.objInit C.1 C.2.1 C.2.2.2.1 (C.w hl) (C.w h1) (C.w h2) (g := F0 m pc ls (.ref a :: st.map tv)) rfl (by rw [C.2.2.1]; exact hlv.1) rfl hd (by omega) (by have := room8 (st := st) (m := m) (ls := ls) (pc := pc) (st9 := .ref a :: st.map tv) h8; omega) k
end RowsE
def largs : Nat → List PV → List (Nat × PV)
  | _, [] => []
  | i, v :: t => (i, v) :: largs (i + 1) t
theorem largs_mem : ∀ (as : List PV) (i : Nat) (q : Nat × PV), q ∈ largs i as → (q.1, tv q.2) ∈ lv_args i (as.map tv)
  | [], _, q, h => by cases h
  | v :: t, i, q, h => by
    have hc : ¬ (tv v).category = 2 := by rw [tv_cat]; omega
    simp only [List.map_cons, lv_args, if_neg hc]
    rcases List.mem_cons.mp h with rfl | h
    · exact List.mem_cons_self
    · exact List.mem_cons_of_mem _ (largs_mem t (i + 1) q h)
theorem lg_len : ∀ as : List PV, (lg_sl (as.map tv)).length = as.length
  | [] => rfl
  | v :: t => by
    have hc : ¬ (tv v).category = 2 := by rw [tv_cat]; omega
    have := lg_len t
    simp only [lg_sl, List.map_cons, List.flatMap_cons, if_neg hc, List.length_append, List.length_cons, List.length_nil] at this ⊢
    omega
/-- an answer of the kind that the method's head names -/
def RV (ret : Option FieldType) (v : Option PV) : Prop := (ret = none ∧ v = none) ∨ (ret = some .int ∧ ∃ x, v = some (.inl x)) ∨ (ret = some .boolean ∧ ∃ x : Int32, v = some (.inl x) ∧ narrow .boolean (.int x) = .int x) ∨ (((∃ n, ret = some (.object n)) ∨ ∃ t, ret = some (.array t)) ∧ ∃ r, v = some (.inr r))
theorem Ctr.of {M : MM} {d n : Nat} {as : List PV} {σ : PS} {P : Option PV → PS → Prop} (hM : MK M n) (hn : as.length ≤ M.2.2.1) (h : Wp M d 0 (largs 0 as) [] σ (fun v σ' => RV M.2.2.2 v ∧ P v σ')) : Ctr M d as σ P := by
  obtain ⟨v, σ', ⟨hV, hP⟩, h1, h2, hW⟩ := h
  refine ⟨v, σ', hP, h1, h2, fun l K => ?_⟩
  refine Met.ofW (cc := M.2.1) (maxL := M.2.2.1) (ret := M.2.2.2) hM.2.2.2.2.2 rfl ?_
  intro p e s m args below meth c s₁ B hml hv
  obtain ⟨rfl, hR, hS⟩ := hv
  have hts := atoms_spec (ws := mws M) B.pre
  have hown : s.vm.findClass M.1.cls = some m.cls := findClass_of_methodNamed B.named
  have hlocks := B.notSynchronized
  have hname : meth.name = M.1.name := (name_of_methodNamed B.named B.method).1
  have hl := lv_entry (as.map tv) (n := M.2.2.1) (by rw [lg_len]; exact hn)
  rw [lg_entry_eq]
  refine hW p l e (rmd d (nx σ' - nx σ) (sl σ' - sl σ)) s m _ below meth c K s.heap [] 0 0 _ _ ⟨B.exec, B.bytes, hml, hown, fun w h => hts w (List.mem_cons_of_mem _ h), hS, Nat.le_refl d, Nat.le_refl _, hname⟩ hR (fun _ _ => rfl) (fun q h => by cases h) (by show 0 + _ ≤ nx σ' - nx σ; omega) (by show 0 + _ ≤ sl σ' - sl σ; omega) ⟨hl.1, hl.2.1, fun q hq => ?_⟩ ?_
  · obtain ⟨r, hr, rfl⟩ := List.mem_map.mp hq
    exact hl.2.2 _ (largs_mem as 0 r (dd_mem _ r hr))
  · intro H' locs' pc' ls' hR' hB' hL' hret
    rw [Nat.zero_add, Nat.zero_add]
    have hq : ∀ t : State, t.heap = H' → s.WarmedH t.vm → Qcx K v σ' ((as.map tv).toArray) s (.returned (v.map tv)) t := fun t ht _ => ⟨rfl, by rw [ht]; exact hR', fun q hq => by rw [ht]; exact hB' q hq⟩
    rcases hret with ⟨hd, x, rfl⟩ | ⟨hd, r, rfl⟩ | ⟨hd, rfl⟩
    · rcases hV with ⟨-, h⟩ | ⟨h, -⟩ | ⟨h, y, e, hnr⟩ | ⟨-, r, e⟩
      · cases h
      · exact W.iret B.exec B.bytes (by rw [B.returns]; exact h) hq hL' hd
      · cases e
        exact W.zret (ty := .boolean) B.exec B.bytes (by rw [B.returns]; exact h) hnr hq hL' hd
      · cases e
    · rcases hV with ⟨-, h⟩ | ⟨-, y, h⟩ | ⟨-, y, h, -⟩ | ⟨h, -⟩
      · cases h
      · cases h
      · cases h
      · have hv9 : tv (.inr r) = .null ∨ ∃ a, tv (.inr r) = .ref a := by
          cases r with
          | zero => exact Or.inl rfl
          | succ a => exact Or.inr ⟨a, rfl⟩
        rcases h with ⟨n, h⟩ | ⟨t, h⟩
        · exact W.aret (rt := .object n) B.exec B.bytes (by rw [B.returns]; exact h) (Or.inl ⟨n, rfl⟩) hv9 hq hL' hd
        · exact W.aret (rt := .array t) B.exec B.bytes (by rw [B.returns]; exact h) (Or.inr ⟨t, rfl⟩) hv9 hq hL' hd
    · rcases hV with ⟨h, -⟩ | ⟨-, y, h⟩ | ⟨-, y, h, -⟩ | ⟨-, r, h⟩
      · exact W.vret B.exec B.bytes (by rw [B.returns]; exact h) hq hL' hd
      · cases h
      · cases h
      · cases h
end
