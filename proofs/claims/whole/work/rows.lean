section
-- ===== PART A: goes FIRST, ahead of the names: the tables' words, and 'selects' of the private methods out of them =====
/-- a private method of a class that the tables say can be made, by its rows of tables_1 -/
def lw_okq (q : MethodName × Nat) : Prop := (q.1.cls ≠ "java/lang/invoke/MethodHandle" ∧ q.1.cls ≠ "java/lang/invoke/VarHandle") ∧ Cond.instantiable q.1.cls q.2 ∈ tables_1 ∧ Cond.privateMethod q.1 ∈ tables_1 ∧ Cond.instanceMethod q.1 ∈ tables_1
theorem lw_p0 : lw_okq (⟨"TokenMesh", "isCore", "(I)Z"⟩, 11) := ⟨⟨by decide +kernel, by decide +kernel⟩, List.mem_of_getElem? (i := 19) (by decide +kernel), List.mem_of_getElem? (i := 216) (by decide +kernel), List.mem_of_getElem? (i := 217) (by decide +kernel)⟩
theorem lw_p1 : lw_okq (⟨"TokenMesh", "canEnd", "(I)Z"⟩, 11) := ⟨⟨by decide +kernel, by decide +kernel⟩, List.mem_of_getElem? (i := 19) (by decide +kernel), List.mem_of_getElem? (i := 227) (by decide +kernel), List.mem_of_getElem? (i := 228) (by decide +kernel)⟩
theorem lw_p2 : lw_okq (⟨"TokenMesh", "share", "(II)LTokenMesh$Share;"⟩, 11) := ⟨⟨by decide +kernel, by decide +kernel⟩, List.mem_of_getElem? (i := 19) (by decide +kernel), List.mem_of_getElem? (i := 231) (by decide +kernel), List.mem_of_getElem? (i := 232) (by decide +kernel)⟩
theorem lw_p3 : lw_okq (⟨"TokenMesh", "end", "(I)V"⟩, 11) := ⟨⟨by decide +kernel, by decide +kernel⟩, List.mem_of_getElem? (i := 19) (by decide +kernel), List.mem_of_getElem? (i := 235) (by decide +kernel), List.mem_of_getElem? (i := 236) (by decide +kernel)⟩
theorem lw_p4 : lw_okq (⟨"TokenMesh$Mail", "dropOlder", "(IIII)V"⟩, 2) := ⟨⟨by decide +kernel, by decide +kernel⟩, List.mem_of_getElem? (i := 163) (by decide +kernel), List.mem_of_getElem? (i := 243) (by decide +kernel), List.mem_of_getElem? (i := 244) (by decide +kernel)⟩
theorem lw_p5 : lw_okq (⟨"java/util/ArrayList", "fastRemove", "([Ljava/lang/Object;I)V"⟩, 3) := ⟨⟨by decide +kernel, by decide +kernel⟩, List.mem_of_getElem? (i := 125) (by decide +kernel), List.mem_of_getElem? (i := 274) (by decide +kernel), List.mem_of_getElem? (i := 275) (by decide +kernel)⟩
theorem lw_p6 : lw_okq (⟨"java/util/ArrayList", "add", "(Ljava/lang/Object;[Ljava/lang/Object;I)V"⟩, 3) := ⟨⟨by decide +kernel, by decide +kernel⟩, List.mem_of_getElem? (i := 125) (by decide +kernel), List.mem_of_getElem? (i := 285) (by decide +kernel), List.mem_of_getElem? (i := 286) (by decide +kernel)⟩
theorem lw_p7 : lw_okq (⟨"java/util/ArrayList", "grow", "()[Ljava/lang/Object;"⟩, 3) := ⟨⟨by decide +kernel, by decide +kernel⟩, List.mem_of_getElem? (i := 125) (by decide +kernel), List.mem_of_getElem? (i := 289) (by decide +kernel), List.mem_of_getElem? (i := 290) (by decide +kernel)⟩
theorem lw_p8 : lw_okq (⟨"java/util/ArrayList", "grow", "(I)[Ljava/lang/Object;"⟩, 3) := ⟨⟨by decide +kernel, by decide +kernel⟩, List.mem_of_getElem? (i := 125) (by decide +kernel), List.mem_of_getElem? (i := 293) (by decide +kernel), List.mem_of_getElem? (i := 294) (by decide +kernel)⟩
theorem lw_p9 : lw_okq (⟨"TokenMesh", "ask", "(I)V"⟩, 11) := ⟨⟨by decide +kernel, by decide +kernel⟩, List.mem_of_getElem? (i := 19) (by decide +kernel), List.mem_of_getElem? (i := 393) (by decide +kernel), List.mem_of_getElem? (i := 394) (by decide +kernel)⟩
theorem lw_p10 : lw_okq (⟨"TokenMesh", "askAgain", "(I)V"⟩, 11) := ⟨⟨by decide +kernel, by decide +kernel⟩, List.mem_of_getElem? (i := 19) (by decide +kernel), List.mem_of_getElem? (i := 405) (by decide +kernel), List.mem_of_getElem? (i := 406) (by decide +kernel)⟩
theorem lw_p11 : lw_okq (⟨"TokenMesh", "onRead", "(III)V"⟩, 11) := ⟨⟨by decide +kernel, by decide +kernel⟩, List.mem_of_getElem? (i := 19) (by decide +kernel), List.mem_of_getElem? (i := 421) (by decide +kernel), List.mem_of_getElem? (i := 422) (by decide +kernel)⟩
theorem lw_p12 : lw_okq (⟨"TokenMesh", "give", "(IIIIZZ)V"⟩, 11) := ⟨⟨by decide +kernel, by decide +kernel⟩, List.mem_of_getElem? (i := 19) (by decide +kernel), List.mem_of_getElem? (i := 425) (by decide +kernel), List.mem_of_getElem? (i := 426) (by decide +kernel)⟩
theorem lw_p13 : lw_okq (⟨"TokenMesh", "onWrite", "(III)V"⟩, 11) := ⟨⟨by decide +kernel, by decide +kernel⟩, List.mem_of_getElem? (i := 19) (by decide +kernel), List.mem_of_getElem? (i := 433) (by decide +kernel), List.mem_of_getElem? (i := 434) (by decide +kernel)⟩
theorem lw_p14 : lw_okq (⟨"TokenMesh", "onTokens", "(LTokenMesh$Letter;)V"⟩, 11) := ⟨⟨by decide +kernel, by decide +kernel⟩, List.mem_of_getElem? (i := 19) (by decide +kernel), List.mem_of_getElem? (i := 437) (by decide +kernel), List.mem_of_getElem? (i := 438) (by decide +kernel)⟩
theorem lw_p15 : lw_okq (⟨"TokenMesh", "giveWay", "(II)V"⟩, 11) := ⟨⟨by decide +kernel, by decide +kernel⟩, List.mem_of_getElem? (i := 19) (by decide +kernel), List.mem_of_getElem? (i := 445) (by decide +kernel), List.mem_of_getElem? (i := 446) (by decide +kernel)⟩
def lw_privs_1 : List (MethodName × Nat) := [(⟨"TokenMesh", "isCore", "(I)Z"⟩, 11), (⟨"TokenMesh", "canEnd", "(I)Z"⟩, 11), (⟨"TokenMesh", "share", "(II)LTokenMesh$Share;"⟩, 11), (⟨"TokenMesh", "end", "(I)V"⟩, 11), (⟨"TokenMesh$Mail", "dropOlder", "(IIII)V"⟩, 2), (⟨"java/util/ArrayList", "fastRemove", "([Ljava/lang/Object;I)V"⟩, 3), (⟨"java/util/ArrayList", "add", "(Ljava/lang/Object;[Ljava/lang/Object;I)V"⟩, 3), (⟨"java/util/ArrayList", "grow", "()[Ljava/lang/Object;"⟩, 3), (⟨"java/util/ArrayList", "grow", "(I)[Ljava/lang/Object;"⟩, 3), (⟨"TokenMesh", "ask", "(I)V"⟩, 11), (⟨"TokenMesh", "askAgain", "(I)V"⟩, 11), (⟨"TokenMesh", "onRead", "(III)V"⟩, 11), (⟨"TokenMesh", "give", "(IIIIZZ)V"⟩, 11), (⟨"TokenMesh", "onWrite", "(III)V"⟩, 11), (⟨"TokenMesh", "onTokens", "(LTokenMesh$Letter;)V"⟩, 11), (⟨"TokenMesh", "giveWay", "(II)V"⟩, 11)]
theorem lw_r1 : ∀ q ∈ lw_privs_1, lw_okq q := List.forall_mem_cons.mpr ⟨lw_p0, List.forall_mem_cons.mpr ⟨lw_p1, List.forall_mem_cons.mpr ⟨lw_p2, List.forall_mem_cons.mpr ⟨lw_p3, List.forall_mem_cons.mpr ⟨lw_p4, List.forall_mem_cons.mpr ⟨lw_p5, List.forall_mem_cons.mpr ⟨lw_p6, List.forall_mem_cons.mpr ⟨lw_p7, List.forall_mem_cons.mpr ⟨lw_p8, List.forall_mem_cons.mpr ⟨lw_p9, List.forall_mem_cons.mpr ⟨lw_p10, List.forall_mem_cons.mpr ⟨lw_p11, List.forall_mem_cons.mpr ⟨lw_p12, List.forall_mem_cons.mpr ⟨lw_p13, List.forall_mem_cons.mpr ⟨lw_p14, List.forall_mem_cons.mpr ⟨lw_p15, fun _ h => absurd h List.not_mem_nil⟩⟩⟩⟩⟩⟩⟩⟩⟩⟩⟩⟩⟩⟩⟩⟩
theorem lw_p16 : lw_okq (⟨"TokenMesh", "onPlease", "(IIIZ)V"⟩, 11) := ⟨⟨by decide +kernel, by decide +kernel⟩, List.mem_of_getElem? (i := 19) (by decide +kernel), List.mem_of_getElem? (i := 453) (by decide +kernel), List.mem_of_getElem? (i := 454) (by decide +kernel)⟩
theorem lw_p17 : lw_okq (⟨"TokenMesh", "lapse", "(II)V"⟩, 11) := ⟨⟨by decide +kernel, by decide +kernel⟩, List.mem_of_getElem? (i := 19) (by decide +kernel), List.mem_of_getElem? (i := 457) (by decide +kernel), List.mem_of_getElem? (i := 458) (by decide +kernel)⟩
theorem lw_p18 : lw_okq (⟨"TokenMesh", "tellActive", "(I)V"⟩, 11) := ⟨⟨by decide +kernel, by decide +kernel⟩, List.mem_of_getElem? (i := 19) (by decide +kernel), List.mem_of_getElem? (i := 474) (by decide +kernel), List.mem_of_getElem? (i := 475) (by decide +kernel)⟩
theorem lw_p19 : lw_okq (⟨"TokenMesh", "activateFirst", "(I)V"⟩, 11) := ⟨⟨by decide +kernel, by decide +kernel⟩, List.mem_of_getElem? (i := 19) (by decide +kernel), List.mem_of_getElem? (i := 482) (by decide +kernel), List.mem_of_getElem? (i := 483) (by decide +kernel)⟩
theorem lw_p20 : lw_okq (⟨"TokenMesh", "onKnow", "(LTokenMesh$Letter;)V"⟩, 11) := ⟨⟨by decide +kernel, by decide +kernel⟩, List.mem_of_getElem? (i := 19) (by decide +kernel), List.mem_of_getElem? (i := 507) (by decide +kernel), List.mem_of_getElem? (i := 508) (by decide +kernel)⟩
theorem lw_p21 : lw_okq (⟨"TokenMesh", "isNode", "(I)Z"⟩, 11) := ⟨⟨by decide +kernel, by decide +kernel⟩, List.mem_of_getElem? (i := 19) (by decide +kernel), List.mem_of_getElem? (i := 543) (by decide +kernel), List.mem_of_getElem? (i := 544) (by decide +kernel)⟩
theorem lw_p22 : lw_okq (⟨"TokenMeshModel", "isCore", "(I)Z"⟩, 40) := ⟨⟨by decide +kernel, by decide +kernel⟩, List.mem_of_getElem? (i := 579) (by decide +kernel), List.mem_of_getElem? (i := 711) (by decide +kernel), List.mem_of_getElem? (i := 712) (by decide +kernel)⟩
theorem lw_p23 : lw_okq (⟨"TokenMeshModel", "canEnd", "(I)Z"⟩, 40) := ⟨⟨by decide +kernel, by decide +kernel⟩, List.mem_of_getElem? (i := 579) (by decide +kernel), List.mem_of_getElem? (i := 718) (by decide +kernel), List.mem_of_getElem? (i := 719) (by decide +kernel)⟩
theorem lw_p24 : lw_okq (⟨"TokenMeshModel", "end", "(I)V"⟩, 40) := ⟨⟨by decide +kernel, by decide +kernel⟩, List.mem_of_getElem? (i := 579) (by decide +kernel), List.mem_of_getElem? (i := 722) (by decide +kernel), List.mem_of_getElem? (i := 723) (by decide +kernel)⟩
theorem lw_p25 : lw_okq (⟨"TokenMeshModel", "send", "(IIII)I"⟩, 40) := ⟨⟨by decide +kernel, by decide +kernel⟩, List.mem_of_getElem? (i := 579) (by decide +kernel), List.mem_of_getElem? (i := 726) (by decide +kernel), List.mem_of_getElem? (i := 727) (by decide +kernel)⟩
theorem lw_p26 : lw_okq (⟨"TokenMeshModel", "remove", "(I)V"⟩, 40) := ⟨⟨by decide +kernel, by decide +kernel⟩, List.mem_of_getElem? (i := 579) (by decide +kernel), List.mem_of_getElem? (i := 730) (by decide +kernel), List.mem_of_getElem? (i := 731) (by decide +kernel)⟩
theorem lw_p27 : lw_okq (⟨"TokenMeshModel", "move", "(II)V"⟩, 40) := ⟨⟨by decide +kernel, by decide +kernel⟩, List.mem_of_getElem? (i := 579) (by decide +kernel), List.mem_of_getElem? (i := 734) (by decide +kernel), List.mem_of_getElem? (i := 735) (by decide +kernel)⟩
theorem lw_p28 : lw_okq (⟨"TokenMeshModel", "ask", "(I)V"⟩, 40) := ⟨⟨by decide +kernel, by decide +kernel⟩, List.mem_of_getElem? (i := 579) (by decide +kernel), List.mem_of_getElem? (i := 738) (by decide +kernel), List.mem_of_getElem? (i := 739) (by decide +kernel)⟩
theorem lw_p29 : lw_okq (⟨"TokenMeshModel", "repeat", "(I)V"⟩, 40) := ⟨⟨by decide +kernel, by decide +kernel⟩, List.mem_of_getElem? (i := 579) (by decide +kernel), List.mem_of_getElem? (i := 746) (by decide +kernel), List.mem_of_getElem? (i := 747) (by decide +kernel)⟩
theorem lw_p30 : lw_okq (⟨"TokenMeshModel", "give", "(IIIIZZ)V"⟩, 40) := ⟨⟨by decide +kernel, by decide +kernel⟩, List.mem_of_getElem? (i := 579) (by decide +kernel), List.mem_of_getElem? (i := 754) (by decide +kernel), List.mem_of_getElem? (i := 755) (by decide +kernel)⟩
theorem lw_p31 : lw_okq (⟨"TokenMeshModel", "getTokens", "(IIIZZI)V"⟩, 40) := ⟨⟨by decide +kernel, by decide +kernel⟩, List.mem_of_getElem? (i := 579) (by decide +kernel), List.mem_of_getElem? (i := 758) (by decide +kernel), List.mem_of_getElem? (i := 759) (by decide +kernel)⟩
def lw_privs_2 : List (MethodName × Nat) := [(⟨"TokenMesh", "onPlease", "(IIIZ)V"⟩, 11), (⟨"TokenMesh", "lapse", "(II)V"⟩, 11), (⟨"TokenMesh", "tellActive", "(I)V"⟩, 11), (⟨"TokenMesh", "activateFirst", "(I)V"⟩, 11), (⟨"TokenMesh", "onKnow", "(LTokenMesh$Letter;)V"⟩, 11), (⟨"TokenMesh", "isNode", "(I)Z"⟩, 11), (⟨"TokenMeshModel", "isCore", "(I)Z"⟩, 40), (⟨"TokenMeshModel", "canEnd", "(I)Z"⟩, 40), (⟨"TokenMeshModel", "end", "(I)V"⟩, 40), (⟨"TokenMeshModel", "send", "(IIII)I"⟩, 40), (⟨"TokenMeshModel", "remove", "(I)V"⟩, 40), (⟨"TokenMeshModel", "move", "(II)V"⟩, 40), (⟨"TokenMeshModel", "ask", "(I)V"⟩, 40), (⟨"TokenMeshModel", "repeat", "(I)V"⟩, 40), (⟨"TokenMeshModel", "give", "(IIIIZZ)V"⟩, 40), (⟨"TokenMeshModel", "getTokens", "(IIIZZI)V"⟩, 40)]
theorem lw_r2 : ∀ q ∈ lw_privs_2, lw_okq q := List.forall_mem_cons.mpr ⟨lw_p16, List.forall_mem_cons.mpr ⟨lw_p17, List.forall_mem_cons.mpr ⟨lw_p18, List.forall_mem_cons.mpr ⟨lw_p19, List.forall_mem_cons.mpr ⟨lw_p20, List.forall_mem_cons.mpr ⟨lw_p21, List.forall_mem_cons.mpr ⟨lw_p22, List.forall_mem_cons.mpr ⟨lw_p23, List.forall_mem_cons.mpr ⟨lw_p24, List.forall_mem_cons.mpr ⟨lw_p25, List.forall_mem_cons.mpr ⟨lw_p26, List.forall_mem_cons.mpr ⟨lw_p27, List.forall_mem_cons.mpr ⟨lw_p28, List.forall_mem_cons.mpr ⟨lw_p29, List.forall_mem_cons.mpr ⟨lw_p30, List.forall_mem_cons.mpr ⟨lw_p31, fun _ h => absurd h List.not_mem_nil⟩⟩⟩⟩⟩⟩⟩⟩⟩⟩⟩⟩⟩⟩⟩⟩
theorem lw_p32 : lw_okq (⟨"TokenMeshModel", "giveWay", "(II)V"⟩, 40) := ⟨⟨by decide +kernel, by decide +kernel⟩, List.mem_of_getElem? (i := 579) (by decide +kernel), List.mem_of_getElem? (i := 762) (by decide +kernel), List.mem_of_getElem? (i := 763) (by decide +kernel)⟩
theorem lw_p33 : lw_okq (⟨"TokenMeshModel", "please", "(IIIZ)V"⟩, 40) := ⟨⟨by decide +kernel, by decide +kernel⟩, List.mem_of_getElem? (i := 579) (by decide +kernel), List.mem_of_getElem? (i := 766) (by decide +kernel), List.mem_of_getElem? (i := 767) (by decide +kernel)⟩
theorem lw_p34 : lw_okq (⟨"TokenMeshModel", "lapse", "(II)V"⟩, 40) := ⟨⟨by decide +kernel, by decide +kernel⟩, List.mem_of_getElem? (i := 579) (by decide +kernel), List.mem_of_getElem? (i := 770) (by decide +kernel), List.mem_of_getElem? (i := 771) (by decide +kernel)⟩
theorem lw_p35 : lw_okq (⟨"TokenMeshModel", "takeOut", "(II)V"⟩, 40) := ⟨⟨by decide +kernel, by decide +kernel⟩, List.mem_of_getElem? (i := 579) (by decide +kernel), List.mem_of_getElem? (i := 774) (by decide +kernel), List.mem_of_getElem? (i := 775) (by decide +kernel)⟩
theorem lw_p36 : lw_okq (⟨"TokenMeshModel", "tellAll", "(I)V"⟩, 40) := ⟨⟨by decide +kernel, by decide +kernel⟩, List.mem_of_getElem? (i := 579) (by decide +kernel), List.mem_of_getElem? (i := 778) (by decide +kernel), List.mem_of_getElem? (i := 779) (by decide +kernel)⟩
theorem lw_p37 : lw_okq (⟨"TokenMeshModel", "activate", "(I)V"⟩, 40) := ⟨⟨by decide +kernel, by decide +kernel⟩, List.mem_of_getElem? (i := 579) (by decide +kernel), List.mem_of_getElem? (i := 782) (by decide +kernel), List.mem_of_getElem? (i := 783) (by decide +kernel)⟩
theorem lw_p38 : lw_okq (⟨"TokenMeshModel", "isNode", "(I)Z"⟩, 40) := ⟨⟨by decide +kernel, by decide +kernel⟩, List.mem_of_getElem? (i := 579) (by decide +kernel), List.mem_of_getElem? (i := 802) (by decide +kernel), List.mem_of_getElem? (i := 803) (by decide +kernel)⟩
def lw_privs_3 : List (MethodName × Nat) := [(⟨"TokenMeshModel", "giveWay", "(II)V"⟩, 40), (⟨"TokenMeshModel", "please", "(IIIZ)V"⟩, 40), (⟨"TokenMeshModel", "lapse", "(II)V"⟩, 40), (⟨"TokenMeshModel", "takeOut", "(II)V"⟩, 40), (⟨"TokenMeshModel", "tellAll", "(I)V"⟩, 40), (⟨"TokenMeshModel", "activate", "(I)V"⟩, 40), (⟨"TokenMeshModel", "isNode", "(I)Z"⟩, 40)]
theorem lw_r3 : ∀ q ∈ lw_privs_3, lw_okq q := List.forall_mem_cons.mpr ⟨lw_p32, List.forall_mem_cons.mpr ⟨lw_p33, List.forall_mem_cons.mpr ⟨lw_p34, List.forall_mem_cons.mpr ⟨lw_p35, List.forall_mem_cons.mpr ⟨lw_p36, List.forall_mem_cons.mpr ⟨lw_p37, List.forall_mem_cons.mpr ⟨lw_p38, fun _ h => absurd h List.not_mem_nil⟩⟩⟩⟩⟩⟩⟩
def lw_privs : List (MethodName × Nat) := lw_privs_1 ++ (lw_privs_2 ++ (lw_privs_3))
def lw_tbl : List Cond := k2_sels lw_privs ++ tables_1
theorem lw_privs_ok : ∀ q ∈ lw_privs, lw_okq q := by
  show ∀ q ∈ lw_privs_1 ++ (lw_privs_2 ++ (lw_privs_3)), lw_okq q
  exact List.forall_mem_append.mpr ⟨lw_r1, List.forall_mem_append.mpr ⟨lw_r2, lw_r3⟩⟩
end
section
/-! the classes whose objects the heap holds: number, fields in the order of the slots, their types -/
def cR0 : String := "java/util/ArrayList"
def cT0 : u_T := fun k => match k with
  | 0 => ("java/util/AbstractList", "modCount", "I", false)
  | 1 => ("java/util/ArrayList", "elementData", "[Ljava/lang/Object;", false)
  | _ => ("java/util/ArrayList", "size", "I", false)
def cY0 : Nat → FieldType := fun k => match k with
  | 0 => .int
  | 1 => .array (.object "java/lang/Object")
  | _ => .int
theorem cN0 : ∀ a, a < 3 → ∀ b, b < 3 → a ≠ b → (cT0 a).2.1 ≠ (cT0 b).2.1 := by decide +kernel
theorem cO0 : ∀ k, k < 3 → parseFieldDescriptor (cT0 k).2.2.1 = some (cY0 k) := by decide +kernel
def cR1 : String := "TokenMesh$Core"
def cT1 : u_T := fun k => match k with
  | 0 => ("TokenMesh$Core", "number", "I", false)
  | 1 => ("TokenMesh$Core", "underWay", "Z", false)
  | 2 => ("TokenMesh$Core", "write", "Z", false)
  | 3 => ("TokenMesh$Core", "block", "I", false)
  | 4 => ("TokenMesh$Core", "value", "I", false)
  | 5 => ("TokenMesh$Core", "repeated", "I", false)
  | 6 => ("TokenMesh$Core", "due", "I", false)
  | 7 => ("TokenMesh$Core", "persistent", "Z", false)
  | 8 => ("TokenMesh$Core", "endedCount", "I", false)
  | _ => ("TokenMesh$Core", "latestResult", "I", false)
def cY1 : Nat → FieldType := fun k => match k with
  | 0 => .int
  | 1 => .boolean
  | 2 => .boolean
  | 3 => .int
  | 4 => .int
  | 5 => .int
  | 6 => .int
  | 7 => .boolean
  | 8 => .int
  | _ => .int
theorem cN1 : ∀ a, a < 10 → ∀ b, b < 10 → a ≠ b → (cT1 a).2.1 ≠ (cT1 b).2.1 := by decide +kernel
theorem cO1 : ∀ k, k < 10 → parseFieldDescriptor (cT1 k).2.2.1 = some (cY1 k) := by decide +kernel
def cR2 : String := "TokenMesh$Desk"
def cT2 : u_T := fun k => match k with
  | 0 => ("TokenMesh$Desk", "row", "Ljava/util/ArrayList;", true)
  | 1 => ("TokenMesh$Desk", "active", "LTokenMesh$Request;", false)
  | _ => ("TokenMesh$Desk", "serial", "I", false)
def cY2 : Nat → FieldType := fun k => match k with
  | 0 => .object "java/util/ArrayList"
  | 1 => .object "TokenMesh$Request"
  | _ => .int
theorem cN2 : ∀ a, a < 3 → ∀ b, b < 3 → a ≠ b → (cT2 a).2.1 ≠ (cT2 b).2.1 := by decide +kernel
theorem cO2 : ∀ k, k < 3 → parseFieldDescriptor (cT2 k).2.2.1 = some (cY2 k) := by decide +kernel
def cR3 : String := "TokenMesh$Letter"
def cT3 : u_T := fun k => match k with
  | 0 => ("TokenMesh$Letter", "kind", "I", false)
  | 1 => ("TokenMesh$Letter", "from", "I", false)
  | 2 => ("TokenMesh$Letter", "to", "I", false)
  | 3 => ("TokenMesh$Letter", "block", "I", false)
  | 4 => ("TokenMesh$Letter", "count", "I", false)
  | 5 => ("TokenMesh$Letter", "owner", "Z", false)
  | 6 => ("TokenMesh$Letter", "withData", "Z", false)
  | 7 => ("TokenMesh$Letter", "value", "I", false)
  | 8 => ("TokenMesh$Letter", "number", "I", false)
  | 9 => ("TokenMesh$Letter", "activeCore", "I", false)
  | _ => ("TokenMesh$Letter", "write", "Z", false)
def cY3 : Nat → FieldType := fun k => match k with
  | 0 => .int
  | 1 => .int
  | 2 => .int
  | 3 => .int
  | 4 => .int
  | 5 => .boolean
  | 6 => .boolean
  | 7 => .int
  | 8 => .int
  | 9 => .int
  | _ => .boolean
theorem cN3 : ∀ a, a < 11 → ∀ b, b < 11 → a ≠ b → (cT3 a).2.1 ≠ (cT3 b).2.1 := by decide +kernel
theorem cO3 : ∀ k, k < 11 → parseFieldDescriptor (cT3 k).2.2.1 = some (cY3 k) := by decide +kernel
def cR4 : String := "TokenMesh$Mail"
def cT4 : u_T := fun k => match k with
  | 0 => ("TokenMesh$Mail", "waiting", "Ljava/util/ArrayList;", true)
  | _ => ("TokenMesh$Mail", "spare", "Ljava/util/ArrayList;", true)
def cY4 : Nat → FieldType := fun k => match k with
  | 0 => .object "java/util/ArrayList"
  | _ => .object "java/util/ArrayList"
theorem cN4 : ∀ a, a < 2 → ∀ b, b < 2 → a ≠ b → (cT4 a).2.1 ≠ (cT4 b).2.1 := by decide +kernel
theorem cO4 : ∀ k, k < 2 → parseFieldDescriptor (cT4 k).2.2.1 = some (cY4 k) := by decide +kernel
def cR5 : String := "TokenMesh$Request"
def cT5 : u_T := fun k => match k with
  | 0 => ("TokenMesh$Request", "core", "I", true)
  | 1 => ("TokenMesh$Request", "number", "I", true)
  | _ => ("TokenMesh$Request", "write", "Z", true)
def cY5 : Nat → FieldType := fun k => match k with
  | 0 => .int
  | 1 => .int
  | _ => .boolean
theorem cN5 : ∀ a, a < 3 → ∀ b, b < 3 → a ≠ b → (cT5 a).2.1 ≠ (cT5 b).2.1 := by decide +kernel
theorem cO5 : ∀ k, k < 3 → parseFieldDescriptor (cT5 k).2.2.1 = some (cY5 k) := by decide +kernel
def cR6 : String := "TokenMesh$Share"
def cT6 : u_T := fun k => match k with
  | 0 => ("TokenMesh$Share", "count", "I", false)
  | 1 => ("TokenMesh$Share", "owner", "Z", false)
  | 2 => ("TokenMesh$Share", "valid", "Z", false)
  | 3 => ("TokenMesh$Share", "value", "I", false)
  | 4 => ("TokenMesh$Share", "activeCore", "I", false)
  | 5 => ("TokenMesh$Share", "activeWrite", "Z", false)
  | _ => ("TokenMesh$Share", "serial", "I", false)
def cY6 : Nat → FieldType := fun k => match k with
  | 0 => .int
  | 1 => .boolean
  | 2 => .boolean
  | 3 => .int
  | 4 => .int
  | 5 => .boolean
  | _ => .int
theorem cN6 : ∀ a, a < 7 → ∀ b, b < 7 → a ≠ b → (cT6 a).2.1 ≠ (cT6 b).2.1 := by decide +kernel
theorem cO6 : ∀ k, k < 7 → parseFieldDescriptor (cT6 k).2.2.1 = some (cY6 k) := by decide +kernel
def cR7 : String := "TokenMesh"
def cT7 : u_T := fun k => match k with
  | 0 => ("TokenMesh", "cores", "I", true)
  | 1 => ("TokenMesh", "home", "I", true)
  | 2 => ("TokenMesh", "allTokens", "I", true)
  | 3 => ("TokenMesh", "repeats", "I", true)
  | 4 => ("TokenMesh", "patience", "I", true)
  | 5 => ("TokenMesh", "shares", "[LTokenMesh$Share;", true)
  | 6 => ("TokenMesh", "crew", "[LTokenMesh$Core;", true)
  | 7 => ("TokenMesh", "desks", "[LTokenMesh$Desk;", true)
  | 8 => ("TokenMesh", "lapsed", "[I", true)
  | 9 => ("TokenMesh", "mail", "LTokenMesh$Mail;", true)
  | _ => ("TokenMesh", "time", "I", false)
def cY7 : Nat → FieldType := fun k => match k with
  | 0 => .int
  | 1 => .int
  | 2 => .int
  | 3 => .int
  | 4 => .int
  | 5 => .array (.object "TokenMesh$Share")
  | 6 => .array (.object "TokenMesh$Core")
  | 7 => .array (.object "TokenMesh$Desk")
  | 8 => .array .int
  | 9 => .object "TokenMesh$Mail"
  | _ => .int
theorem cN7 : ∀ a, a < 11 → ∀ b, b < 11 → a ≠ b → (cT7 a).2.1 ≠ (cT7 b).2.1 := by decide +kernel
theorem cO7 : ∀ k, k < 11 → parseFieldDescriptor (cT7 k).2.2.1 = some (cY7 k) := by decide +kernel
def cR8 : String := "TokenMeshModel"
def cT8 : u_T := fun k => match k with
  | 0 => ("TokenMeshModel", "thrown", "I", false)
  | 1 => ("TokenMeshModel", "cores", "I", true)
  | 2 => ("TokenMeshModel", "repeats", "I", true)
  | 3 => ("TokenMeshModel", "patience", "I", true)
  | 4 => ("TokenMeshModel", "time", "I", false)
  | 5 => ("TokenMeshModel", "tokens", "[I", true)
  | 6 => ("TokenMeshModel", "owner", "[Z", true)
  | 7 => ("TokenMeshModel", "valid", "[Z", true)
  | 8 => ("TokenMeshModel", "data", "[I", true)
  | 9 => ("TokenMeshModel", "known", "[I", true)
  | 10 => ("TokenMeshModel", "knownWrite", "[Z", true)
  | 11 => ("TokenMeshModel", "serials", "[I", true)
  | 12 => ("TokenMeshModel", "busy", "[Z", true)
  | 13 => ("TokenMeshModel", "writes", "[Z", true)
  | 14 => ("TokenMeshModel", "persistent", "[Z", true)
  | 15 => ("TokenMeshModel", "blocks", "[I", true)
  | 16 => ("TokenMeshModel", "values", "[I", true)
  | 17 => ("TokenMeshModel", "numbers", "[I", true)
  | 18 => ("TokenMeshModel", "repeated", "[I", true)
  | 19 => ("TokenMeshModel", "due", "[I", true)
  | 20 => ("TokenMeshModel", "endedCount", "[I", true)
  | 21 => ("TokenMeshModel", "results", "[I", true)
  | 22 => ("TokenMeshModel", "rowCores", "[I", true)
  | 23 => ("TokenMeshModel", "rowNumbers", "[I", true)
  | 24 => ("TokenMeshModel", "rowWrites", "[Z", true)
  | 25 => ("TokenMeshModel", "rowSizes", "[I", true)
  | 26 => ("TokenMeshModel", "activeNumbers", "[I", true)
  | 27 => ("TokenMeshModel", "lapsed", "[I", true)
  | 28 => ("TokenMeshModel", "letters", "I", false)
  | 29 => ("TokenMeshModel", "kinds", "[I", true)
  | 30 => ("TokenMeshModel", "tos", "[I", true)
  | 31 => ("TokenMeshModel", "froms", "[I", true)
  | 32 => ("TokenMeshModel", "letterBlocks", "[I", true)
  | 33 => ("TokenMeshModel", "counts", "[I", true)
  | 34 => ("TokenMeshModel", "withOwner", "[Z", true)
  | 35 => ("TokenMeshModel", "withData", "[Z", true)
  | 36 => ("TokenMeshModel", "letterData", "[I", true)
  | 37 => ("TokenMeshModel", "letterNumbers", "[I", true)
  | 38 => ("TokenMeshModel", "letterCores", "[I", true)
  | _ => ("TokenMeshModel", "letterWrites", "[Z", true)
def cY8 : Nat → FieldType := fun k => match k with
  | 0 => .int
  | 1 => .int
  | 2 => .int
  | 3 => .int
  | 4 => .int
  | 5 => .array .int
  | 6 => .array .boolean
  | 7 => .array .boolean
  | 8 => .array .int
  | 9 => .array .int
  | 10 => .array .boolean
  | 11 => .array .int
  | 12 => .array .boolean
  | 13 => .array .boolean
  | 14 => .array .boolean
  | 15 => .array .int
  | 16 => .array .int
  | 17 => .array .int
  | 18 => .array .int
  | 19 => .array .int
  | 20 => .array .int
  | 21 => .array .int
  | 22 => .array .int
  | 23 => .array .int
  | 24 => .array .boolean
  | 25 => .array .int
  | 26 => .array .int
  | 27 => .array .int
  | 28 => .int
  | 29 => .array .int
  | 30 => .array .int
  | 31 => .array .int
  | 32 => .array .int
  | 33 => .array .int
  | 34 => .array .boolean
  | 35 => .array .boolean
  | 36 => .array .int
  | 37 => .array .int
  | 38 => .array .int
  | _ => .array .boolean
theorem cN8 : ∀ a, a < 40 → ∀ b, b < 40 → a ≠ b → (cT8 a).2.1 ≠ (cT8 b).2.1 := by decide +kernel
theorem cO8 : ∀ k, k < 40 → parseFieldDescriptor (cT8 k).2.2.1 = some (cY8 k) := by decide +kernel
abbrev cls : List vw_C := [(cR0, cT0, 3), (cR1, cT1, 10), (cR2, cT2, 3), (cR3, cT3, 11), (cR4, cT4, 2), (cR5, cT5, 3), (cR6, cT6, 7), (cR7, cT7, 11), (cR8, cT8, 40)]
/-- a field's type, by its class's number and its own -/
def fty : Nat → Nat → FieldType := fun ci => match ci with
  | 0 => cY0
  | 1 => cY1
  | 2 => cY2
  | 3 => cY3
  | 4 => cY4
  | 5 => cY5
  | 6 => cY6
  | 7 => cY7
  | _ => cY8
def isR (ci k : Nat) : Bool := match fty ci k with
  | .object _ => true
  | .array _ => true
  | _ => false
/-- the words that hold over every step, and the others -/
def GT : List Cond := lw_tbl.filter goodWord
def NT : List Cond := lw_tbl.filter (fun w => !goodWord w)
theorem gt_at {w : Cond} (i : Nat) (h : lw_tbl[i]? = some w) (hg : goodWord w = true) : w ∈ GT := List.mem_filter.mpr ⟨List.mem_of_getElem? h, hg⟩
theorem nt_at {w : Cond} (i : Nat) (h : lw_tbl[i]? = some w) (hg : goodWord w = false) : w ∈ NT := List.mem_filter.mpr ⟨List.mem_of_getElem? h, by rw [hg]; rfl⟩
theorem cI0 : ∀ w ∈ u_ws cR0 cT0 3, w ∈ GT := fun w h => List.mem_filter.mpr ((fun (q : ([186, 182, 184].filterMap (fun i => lw_tbl[i]?) = u_ws cR0 cT0 3) ∧ (u_ws cR0 cT0 3).all goodWord = true) => ⟨(by rw [← q.1] at h; obtain ⟨i, -, hi⟩ := List.mem_filterMap.mp h; exact List.mem_of_getElem? hi), List.all_eq_true.mp q.2 w h⟩) ⟨by decide +kernel, by decide +kernel⟩)
theorem cI1 : ∀ w ∈ u_ws cR1 cT1 10, w ∈ GT := fun w h => List.mem_filter.mpr ((fun (q : ([135, 137, 139, 141, 143, 145, 147, 149, 151, 153].filterMap (fun i => lw_tbl[i]?) = u_ws cR1 cT1 10) ∧ (u_ws cR1 cT1 10).all goodWord = true) => ⟨(by rw [← q.1] at h; obtain ⟨i, -, hi⟩ := List.mem_filterMap.mp h; exact List.mem_of_getElem? hi), List.all_eq_true.mp q.2 w h⟩) ⟨by decide +kernel, by decide +kernel⟩)
theorem cI2 : ∀ w ∈ u_ws cR2 cT2 3, w ∈ GT := fun w h => List.mem_filter.mpr ((fun (q : ([194, 196, 198].filterMap (fun i => lw_tbl[i]?) = u_ws cR2 cT2 3) ∧ (u_ws cR2 cT2 3).all goodWord = true) => ⟨(by rw [← q.1] at h; obtain ⟨i, -, hi⟩ := List.mem_filterMap.mp h; exact List.mem_of_getElem? hi), List.all_eq_true.mp q.2 w h⟩) ⟨by decide +kernel, by decide +kernel⟩)
theorem cI3 : ∀ w ∈ u_ws cR3 cT3 11, w ∈ GT := fun w h => List.mem_filter.mpr ((fun (q : ([404, 406, 408, 410, 412, 414, 416, 418, 420, 422, 424].filterMap (fun i => lw_tbl[i]?) = u_ws cR3 cT3 11) ∧ (u_ws cR3 cT3 11).all goodWord = true) => ⟨(by rw [← q.1] at h; obtain ⟨i, -, hi⟩ := List.mem_filterMap.mp h; exact List.mem_of_getElem? hi), List.all_eq_true.mp q.2 w h⟩) ⟨by decide +kernel, by decide +kernel⟩)
theorem cI4 : ∀ w ∈ u_ws cR4 cT4 2, w ∈ GT := fun w h => List.mem_filter.mpr ((fun (q : ([211, 213].filterMap (fun i => lw_tbl[i]?) = u_ws cR4 cT4 2) ∧ (u_ws cR4 cT4 2).all goodWord = true) => ⟨(by rw [← q.1] at h; obtain ⟨i, -, hi⟩ := List.mem_filterMap.mp h; exact List.mem_of_getElem? hi), List.all_eq_true.mp q.2 w h⟩) ⟨by decide +kernel, by decide +kernel⟩)
theorem cI5 : ∀ w ∈ u_ws cR5 cT5 3, w ∈ GT := fun w h => List.mem_filter.mpr ((fun (q : ([537, 539, 541].filterMap (fun i => lw_tbl[i]?) = u_ws cR5 cT5 3) ∧ (u_ws cR5 cT5 3).all goodWord = true) => ⟨(by rw [← q.1] at h; obtain ⟨i, -, hi⟩ := List.mem_filterMap.mp h; exact List.mem_of_getElem? hi), List.all_eq_true.mp q.2 w h⟩) ⟨by decide +kernel, by decide +kernel⟩)
theorem cI6 : ∀ w ∈ u_ws cR6 cT6 7, w ∈ GT := fun w h => List.mem_filter.mpr ((fun (q : ([95, 97, 99, 101, 103, 105, 107].filterMap (fun i => lw_tbl[i]?) = u_ws cR6 cT6 7) ∧ (u_ws cR6 cT6 7).all goodWord = true) => ⟨(by rw [← q.1] at h; obtain ⟨i, -, hi⟩ := List.mem_filterMap.mp h; exact List.mem_of_getElem? hi), List.all_eq_true.mp q.2 w h⟩) ⟨by decide +kernel, by decide +kernel⟩)
theorem cI7 : ∀ w ∈ u_ws cR7 cT7 11, w ∈ GT := fun w h => List.mem_filter.mpr ((fun (q : ([227, 229, 231, 233, 235, 237, 239, 241, 243, 245, 247].filterMap (fun i => lw_tbl[i]?) = u_ws cR7 cT7 11) ∧ (u_ws cR7 cT7 11).all goodWord = true) => ⟨(by rw [← q.1] at h; obtain ⟨i, -, hi⟩ := List.mem_filterMap.mp h; exact List.mem_of_getElem? hi), List.all_eq_true.mp q.2 w h⟩) ⟨by decide +kernel, by decide +kernel⟩)
theorem cI8 : ∀ w ∈ u_ws cR8 cT8 40, w ∈ GT := fun w h => List.mem_filter.mpr ((fun (q : ([663, 665, 667, 669, 671, 673, 675, 677, 679, 681, 683, 685, 687, 689, 691, 693, 695, 697, 699, 701, 703, 705, 707, 709, 711, 713, 715, 717, 719, 721, 723, 725, 727, 729, 731, 733, 735, 737, 739, 741].filterMap (fun i => lw_tbl[i]?) = u_ws cR8 cT8 40) ∧ (u_ws cR8 cT8 40).all goodWord = true) => ⟨(by rw [← q.1] at h; obtain ⟨i, -, hi⟩ := List.mem_filterMap.mp h; exact List.mem_of_getElem? hi), List.all_eq_true.mp q.2 w h⟩) ⟨by decide +kernel, by decide +kernel⟩)
end
section
/-! THE PURE SIDE: values, the heap as maps by field, what a machine heap that holds it is, the two judgements -/
/-- a value: a whole number, or a reference (0: null, a + 1: the cell at a) -/
abbrev PV : Type := Int32 ⊕ Nat
def tv (v : PV) : Value := match v with
  | .inl x => .int x
  | .inr 0 => .null
  | .inr (a + 1) => .ref a
theorem tv_cat (v : PV) : (tv v).category = 1 := by
  rcases v with x | r
  · rfl
  · cases r <;> rfl
/-- next reference, slots made, the kind of each reference; fields of whole numbers, of references; arrays: length, numbers, references -/
abbrev PS : Type := (Nat × Nat × (Nat → Nat)) × (Nat → Nat → Int32) × (Nat → Nat → Nat) × (Nat → Nat) × (Nat → Nat → Int32) × (Nat → Nat → Nat)
def nx (σ : PS) : Nat := σ.1.1
def sl (σ : PS) : Nat := σ.1.2.1
def tg (σ : PS) : Nat → Nat := σ.1.2.2
def fi (σ : PS) : Nat → Nat → Int32 := σ.2.1
def fr (σ : PS) : Nat → Nat → Nat := σ.2.2.1
def al (σ : PS) : Nat → Nat := σ.2.2.2.1
def ai (σ : PS) : Nat → Nat → Int32 := σ.2.2.2.2.1
def ar (σ : PS) : Nat → Nat → Nat := σ.2.2.2.2.2
def up2 {α : Type} (f : Nat → Nat → α) (i a : Nat) (v : α) : Nat → Nat → α := fun j b => if j = i ∧ b = a then v else f j b
def pfi (σ : PS) (i a : Nat) (v : Int32) : PS := (σ.1, up2 (fi σ) i a v, fr σ, al σ, ai σ, ar σ)
def pfr (σ : PS) (i a : Nat) (v : Nat) : PS := (σ.1, fi σ, up2 (fr σ) i a v, al σ, ai σ, ar σ)
def pai (σ : PS) (a j : Nat) (v : Int32) : PS := (σ.1, fi σ, fr σ, al σ, up2 (ai σ) a j v, ar σ)
def par (σ : PS) (a j : Nat) (v : Nat) : PS := (σ.1, fi σ, fr σ, al σ, ai σ, up2 (ar σ) a j v)
/-- a new object of class ci with N slots; its reference is nx σ -/
def pnew (σ : PS) (ci N : Nat) : PS := ((nx σ + 1, sl σ + N, va_up (tg σ) (nx σ) (ci + 1)), (fun i b => if b = nx σ then 0 else fi σ i b), (fun i b => if b = nx σ then 0 else fr σ i b), al σ, ai σ, ar σ)
/-- a new array of kind ti and length n; its reference is nx σ -/
def parr (σ : PS) (ti n : Nat) : PS := ((nx σ + 1, sl σ + n, va_up (tg σ) (nx σ) (100 + ti)), fi σ, fr σ, va_up (al σ) (nx σ) n, (fun b j => if b = nx σ then 0 else ai σ b j), (fun b j => if b = nx σ then 0 else ar σ b j))
/-- n references copied from a0 at sp to a at dp -/
def pcpy (σ : PS) (a0 sp a dp n : Nat) : PS := (σ.1, fi σ, fr σ, al σ, ai σ, (fun b j => if b = a then va_cpy (ar σ a0) (ar σ a) sp dp n j else ar σ b j))
def fval (σ : PS) (ci k r : Nat) : Value := if isR ci k = true then tv (.inr (fr σ (64 * ci + k) r)) else .int (fi σ (64 * ci + k) r)
/-- classes' ids, slots of fields, ids of array classes, the empty row of ArrayList, the class object of Object[], where the new cells begin -/
abbrev KX : Type := (Nat → ClassId) × (Nat → Nat → Nat) × (Nat → ClassId) × Nat × Nat × Nat
def kC (K : KX) : Nat → ClassId := K.1
def kI (K : KX) : Nat → Nat → Nat := K.2.1
def kA (K : KX) : Nat → ClassId := K.2.2.1
def kz (K : KX) : Nat := K.2.2.2.1
def km (K : KX) : Nat := K.2.2.2.2.1
def kb (K : KX) : Nat := K.2.2.2.2.2
def aty (ti : Nat) : FieldType := match ti with
  | 0 => .int
  | 1 => .boolean
  | 2 => .object "java/lang/Object"
  | 3 => .object "TokenMesh$Share"
  | 4 => .object "TokenMesh$Core"
  | _ => .object "TokenMesh$Desk"
def tys (K : KX) : List (ClassId × FieldType) := [(kA K 0, aty 0), (kA K 1, aty 1), (kA K 2, aty 2), (kA K 3, aty 3), (kA K 4, aty 4), (kA K 5, aty 5)]
def aval (σ : PS) (ti r j : Nat) : Value := if ti < 2 then .int (ai σ r j) else tv (.inr (ar σ r j))
/-- the machine's heap holds the pure one -/
def RepH (K : KX) (σ : PS) (H : Heap) : Prop :=
  nx σ = H.size + 1 ∧ kb K ≤ H.size ∧
  (∀ (a ci : Nat) (q : vw_C), tg σ (a + 1) = ci + 1 → cls[ci]? = some q → kb K ≤ a ∧ t_OB a (kC K ci) q.2.2 (kI K ci) H (fun k => fval σ ci k (a + 1))) ∧
  (∀ (a ti : Nat), ti < 6 → tg σ (a + 1) = 100 + ti → kb K ≤ a ∧ H[a]? = some (arrV (kA K ti) (al σ (a + 1)) (fun j => aval σ ti (a + 1) j))) ∧
  (∀ r : Nat, tg σ r = 99 → r = kz K + 1) ∧ tg σ 0 = 0
/-- what stands fast: the classes' tables, the words that a call does not hand on by itself, the statics -/
def SF (K : KX) (s : State) : Prop :=
  va_K (kC K, kI K) cls (tys K) s ∧ (∀ w ∈ NT, va_Nw w s) ∧
  va_Z "java/util/ArrayList" "DEFAULTCAPACITY_EMPTY_ELEMENTDATA" "[Ljava/lang/Object;" (.ref (kz K)) (fun q => kb K ≤ q) s s.heap ∧
  va_T (.object "java/lang/Object") (kz K) 0 (fun _ => .null) (fun q => kb K ≤ q) s s.heap ∧ va_Mi "[Ljava/lang/Object;" (km K) s
/-- a method: its name, code, number of locals, kind of answer -/
abbrev MM : Type := MethodName × ByteArray × Nat × Option FieldType
def mws (M : MM) : List Cond := Cond.code M.1 M.2.1 M.2.2.1 M.2.2.2 :: GT
def rmd (d c n : Nat) : Room := { frames := d, cells := c, slots := n, locals := 41 * d }
def Pcx (K : KX) (as : List PV) (σ : PS) : Array Value → State → Prop := fun v U => v = (as.map tv).toArray ∧ RepH K σ U.heap ∧ SF K U
def Qcx (K : KX) (v : Option PV) (σ' : PS) : Array Value → State → Outcome → State → Prop := fun _ st o t => o = .returned (v.map tv) ∧ RepH K σ' t.heap ∧ ∀ q : Nat, q < kb K → t.heap[q]? = st.heap[q]?
/-- from σ, called with as, the method comes to an answer and a heap of which P holds; d: how deep its calls go -/
def Ctr (M : MM) (d : Nat) (as : List PV) (σ : PS) (P : Option PV → PS → Prop) : Prop :=
  ∃ (v : Option PV) (σ' : PS), P v σ' ∧ nx σ ≤ nx σ' ∧ sl σ ≤ sl σ' ∧ ∀ (l : Launch) (K : KX), Met l M.1 (mws M) (rmd d (nx σ' - nx σ) (sl σ' - sl σ)) (Pcx K as σ) (Qcx K v σ') (nx σ' - nx σ) (sl σ' - sl σ) (fun q => kb K ≤ q)
/-- what stands fast inside a method -/
def Cx (M : MM) (d : Nat) (K : KX) (p : Program) (R : Room) (s : State) (m : MethodId) (args : Array Value) (meth : Method) (c : Code) : Prop :=
  p.tables.exec = Jvm.exec ∧ c.code = M.2.1 ∧ c.maxLocals = M.2.2.1 ∧ s.vm.findClass M.1.cls = some m.cls ∧ (∀ w ∈ mws M, w.before args s = true) ∧ SF K s ∧ d ≤ R.frames ∧ 41 * d ≤ R.locals ∧ meth.name = M.1.name
def dd : List (Nat × PV) → List (Nat × PV)
  | [] => []
  | q :: t => q :: (dd t).filter (fun r => !(r.1 == q.1))
def lget : List (Nat × PV) → Nat → Option PV
  | [], _ => none
  | q :: t, k => if q.1 = k then some q.2 else lget t k
def lvs (lv : List (Nat × PV)) : List (Nat × Value) := (dd lv).map (fun q => (q.1, tv q.2))
def RetI (M : MM) (pc : Nat) (v : Option PV) : Prop :=
  (decode M.2.1 pc = .ok (.ireturn, 1) ∧ ∃ x, v = some (.inl x)) ∨ (decode M.2.1 pc = .ok (.areturn, 1) ∧ ∃ r, v = some (.inr r)) ∨ (decode M.2.1 pc = .ok (.return_, 1) ∧ v = none)
/-- from σ, at pc with locals lv and stack st, the body comes to its return with an answer and a heap of which P holds -/
def Wp (M : MM) (d pc : Nat) (lv : List (Nat × PV)) (st : List PV) (σ : PS) (P : Option PV → PS → Prop) : Prop :=
  ∃ (v : Option PV) (σ' : PS), P v σ' ∧ nx σ ≤ nx σ' ∧ sl σ ≤ sl σ' ∧
    ∀ (p : Program) (l : Launch) (e : Env) (R : Room) (s : State) (m : MethodId) (args : Array Value) (below : List Frame) (meth : Method) (c : Code) (K : KX) (H : Heap) (locs : List Loc) (cells slots : Nat) (ls : Array Slot) (Z : State → Prop),
      Cx M d K p R s m args meth c → RepH K σ H → (∀ q : Nat, q < kb K → H[q]? = s.heap[q]?) → (∀ q ∈ locs, kb K ≤ q.base) →
      cells + (nx σ' - nx σ) ≤ R.cells → slots + (sl σ' - sl σ) ≤ R.slots → lv_has ls M.2.2.1 (lvs lv) →
      (∀ (H' : Heap) (locs' : List Loc) (pc' : Nat) (ls' : Array Slot), RepH K σ' H' → (∀ q : Nat, q < kb K → H'[q]? = s.heap[q]?) → (∀ q ∈ locs', kb K ≤ q.base) → RetI M pc' v →
        W p l e R s m args below meth c H' locs' (cells + (nx σ' - nx σ)) (slots + (sl σ' - sl σ)) Z (F0 m pc' ls' (v.toList.map tv))) →
      W p l e R s m args below meth c H locs cells slots Z (F0 m pc ls (st.map tv))
theorem lget_mem : ∀ (lv : List (Nat × PV)) (k : Nat) (v : PV), lget lv k = some v → (k, v) ∈ dd lv
  | [], k, v, h => by simp [lget] at h
  | q :: t, k, v, h => by
    unfold lget at h
    by_cases hk : q.1 = k
    · rw [if_pos hk] at h
      cases h
      subst hk
      exact List.mem_cons_self
    · rw [if_neg hk] at h
      exact List.mem_cons_of_mem _ (List.mem_filter.mpr ⟨lget_mem t k v h, by simp; exact fun e => hk e.symm⟩)
theorem mem_lget : ∀ (lv : List (Nat × PV)) (k : Nat) (v : PV), (k, v) ∈ dd lv → lget lv k = some v
  | [], k, v, h => by simp [dd] at h
  | q :: t, k, v, h => by
    unfold lget
    rcases List.mem_cons.mp h with h1 | h1
    · rw [← h1]; simp
    · obtain ⟨h2, h3⟩ := List.mem_filter.mp h1
      have hne : ¬ q.1 = k := by
        intro e
        simp at h3
        exact h3 e.symm
      rw [if_neg hne]
      exact mem_lget t k v h2
theorem lvs_get {ls : Array Slot} {n : Nat} {lv : List (Nat × PV)} (h : lv_has ls n (lvs lv)) {k : Nat} {v : PV} (hv : lget lv k = some v) : ls[k]? = some (.val (tv v)) :=
  h.2.2 (k, tv v) (List.mem_map.mpr ⟨(k, v), lget_mem lv k v hv, rfl⟩)
theorem lvs_cons {lv : List (Nat × PV)} {i : Nat} {v : PV} : (i, tv v) :: (lvs lv).filter (fun q => !(q.1 == i) && !(q.1 + 1 == i && q.2.category == 2)) = lvs ((i, v) :: lv) := by
  unfold lvs
  simp only [dd, List.map_cons, List.cons.injEq, true_and]
  rw [List.filter_map]
  congr 1
  apply List.filter_congr
  intro q _
  simp [tv_cat]
/-- a step that leaves heap and locals alone -/
theorem Wp.go {M : MM} {d pc pc' : Nat} {lv : List (Nat × PV)} {st st' : List PV} {σ : PS} {P : Option PV → PS → Prop}
    (h : ∀ (p : Program) (l : Launch) (e : Env) (R : Room) (s : State) (m : MethodId) (args : Array Value) (below : List Frame) (meth : Method) (c : Code) (K : KX) (H : Heap) (locs : List Loc) (cells slots : Nat) (ls : Array Slot) (Z : State → Prop), Cx M d K p R s m args meth c → RepH K σ H → (∀ q : Nat, q < kb K → H[q]? = s.heap[q]?) → (∀ q ∈ locs, kb K ≤ q.base) → lv_has ls M.2.2.1 (lvs lv) →
      W p l e R s m args below meth c H locs cells slots Z (F0 m pc' ls (st'.map tv)) → W p l e R s m args below meth c H locs cells slots Z (F0 m pc ls (st.map tv)))
    (k : Wp M d pc' lv st' σ P) : Wp M d pc lv st σ P := by
  obtain ⟨v, σ', hP, h1, h2, hW⟩ := k
  exact ⟨v, σ', hP, h1, h2, fun p l e R s m args below meth c K H locs cells slots ls Z C hR hB hL hc hs hl hk => h p l e R s m args below meth c K H locs cells slots ls Z C hR hB hL hl (hW p l e R s m args below meth c K H locs cells slots ls Z C hR hB hL hc hs hl hk)⟩
/-- a step that stores one local -/
theorem Wp.store {M : MM} {d pc pc' : Nat} {lv lv' : List (Nat × PV)} {st st' : List PV} {σ : PS} {P : Option PV → PS → Prop}
    (h : ∀ (p : Program) (l : Launch) (e : Env) (R : Room) (s : State) (m : MethodId) (args : Array Value) (below : List Frame) (meth : Method) (c : Code) (K : KX) (H : Heap) (locs : List Loc) (cells slots : Nat) (ls : Array Slot) (Z : State → Prop), Cx M d K p R s m args meth c → lv_has ls M.2.2.1 (lvs lv) →
      (∀ ls' : Array Slot, lv_has ls' M.2.2.1 (lvs lv') → W p l e R s m args below meth c H locs cells slots Z (F0 m pc' ls' (st'.map tv))) → W p l e R s m args below meth c H locs cells slots Z (F0 m pc ls (st.map tv)))
    (k : Wp M d pc' lv' st' σ P) : Wp M d pc lv st σ P := by
  obtain ⟨v, σ', hP, h1, h2, hW⟩ := k
  exact ⟨v, σ', hP, h1, h2, fun p l e R s m args below meth c K H locs cells slots ls Z C hR hB hL hc hs hl hk => h p l e R s m args below meth c K H locs cells slots ls Z C hl (fun ls' hl' => hW p l e R s m args below meth c K H locs cells slots ls' Z C hR hB hL hc hs hl' hk)⟩
theorem Wp.mono {M : MM} {d pc : Nat} {lv : List (Nat × PV)} {st : List PV} {σ : PS} {P P' : Option PV → PS → Prop} (k : Wp M d pc lv st σ P) (h : ∀ v σ', P v σ' → P' v σ') : Wp M d pc lv st σ P' := by
  obtain ⟨v, σ', hP, r⟩ := k
  exact ⟨v, σ', h v σ' hP, r⟩
theorem Ctr.mono {M : MM} {d : Nat} {as : List PV} {σ : PS} {P P' : Option PV → PS → Prop} (k : Ctr M d as σ P) (h : ∀ v σ', P v σ' → P' v σ') : Ctr M d as σ P' := by
  obtain ⟨v, σ', hP, r⟩ := k
  exact ⟨v, σ', h v σ' hP, r⟩
def lsub (lv : List (Nat × PV)) : List (Nat × PV) → Prop
  | [] => True
  | q :: t => lget lv q.1 = some q.2 ∧ lsub lv t
theorem lsub_get {lv : List (Nat × PV)} : ∀ (lv' : List (Nat × PV)), lsub lv lv' → ∀ q ∈ lv', lget lv q.1 = some q.2
  | [], _, q, hq => by cases hq
  | r :: t, h, q, hq => by
    rcases List.mem_cons.mp hq with rfl | h1
    · exact h.1
    · exact lsub_get t h.2 q h1
theorem dd_mem : ∀ (lv : List (Nat × PV)) (q : Nat × PV), q ∈ dd lv → q ∈ lv
  | [], q, h => h
  | r :: t, q, h => by
    rcases List.mem_cons.mp h with rfl | h1
    · exact List.mem_cons_self
    · exact List.mem_cons_of_mem _ (dd_mem t q (List.mem_filter.mp h1).1)
/-- other words for the locals -/
theorem Wp.lv {M : MM} {d pc : Nat} {lv : List (Nat × PV)} (lv' : List (Nat × PV)) {st : List PV} {σ : PS} {P : Option PV → PS → Prop} (h : lsub lv lv') (k : Wp M d pc lv' st σ P) : Wp M d pc lv st σ P := by
  obtain ⟨v, σ', hP, h1, h2, hW⟩ := k
  refine ⟨v, σ', hP, h1, h2, fun p l e R s m args below meth c K H locs cells slots ls Z C hR hB hL hc hs hl hk => hW p l e R s m args below meth c K H locs cells slots ls Z C hR hB hL hc hs ⟨hl.1, hl.2.1, fun q hq => ?_⟩ hk⟩
  obtain ⟨r, hr, rfl⟩ := List.mem_map.mp hq
  exact lvs_get hl (lsub_get lv' h r (dd_mem lv' r hr))
end
