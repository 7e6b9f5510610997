/-! rows of single instructions that leave the heap alone -/
section RowsA
variable {M : MM} {d pc : Nat} {lv : List (Nat × PV)} {st : List PV} {σ : PS} {P : Option PV → PS → Prop}
theorem p_iconst {n : Int} {x : Int32} (hd : decode M.2.1 pc = .ok (.iconst n, 1)) (hv : Int32.ofInt n = x) (k : Wp M d (pc + 1) lv (.inl x :: st) σ P) : Wp M d pc lv st σ P :=
  Wp.go (fun p l e R s m args below meth c K H locs cells slots ls Z C hR hB hL hl k => lv_iconst C.1 C.2.1 hd hv k) k
theorem p_bipush {n : Int} {x : Int32} (hd : decode M.2.1 pc = .ok (.bipush n, 2)) (hv : (Int8.ofInt n).toInt32 = x) (k : Wp M d (pc + 2) lv (.inl x :: st) σ P) : Wp M d pc lv st σ P :=
  Wp.go (fun p l e R s m args below meth c K H locs cells slots ls Z C hR hB hL hl k => lv_bipush C.1 C.2.1 hd hv k) k
theorem p_sipush {n : Int} {x : Int32} (hd : decode M.2.1 pc = .ok (.sipush n, 3)) (hv : (Int16.ofInt n).toInt32 = x) (k : Wp M d (pc + 3) lv (.inl x :: st) σ P) : Wp M d pc lv st σ P :=
  Wp.go (fun p l e R s m args below meth c K H locs cells slots ls Z C hR hB hL hl k => lv_sipush C.1 C.2.1 hd hv k) k
theorem p_null (hd : decode M.2.1 pc = .ok (.aconst_null, 1)) (k : Wp M d (pc + 1) lv (.inr 0 :: st) σ P) : Wp M d pc lv st σ P :=
  Wp.go (fun p l e R s m args below meth c K H locs cells slots ls Z C hR hB hL hl k => lv_null C.1 C.2.1 hd k) k
theorem p_iload {i : Nat} {x : Int32} (hd : decode M.2.1 pc = .ok (.iload i, 2)) (hv : lget lv i = some (.inl x)) (k : Wp M d (pc + 2) lv (.inl x :: st) σ P) : Wp M d pc lv st σ P :=
  Wp.go (fun p l e R s m args below meth c K H locs cells slots ls Z C hR hB hL hl k => lv_iload C.1 C.2.1 hd (lvs_get hl hv) k) k
theorem p_iload_n {i : Fin 4} {x : Int32} (hd : decode M.2.1 pc = .ok (.iload_n i, 1)) (hv : lget lv i.val = some (.inl x)) (k : Wp M d (pc + 1) lv (.inl x :: st) σ P) : Wp M d pc lv st σ P :=
  Wp.go (fun p l e R s m args below meth c K H locs cells slots ls Z C hR hB hL hl k => lv_iload_n C.1 C.2.1 hd rfl (lvs_get hl hv) k) k
theorem p_aload {i : Nat} {r : Nat} (hd : decode M.2.1 pc = .ok (.aload i, 2)) (hv : lget lv i = some (.inr r)) (k : Wp M d (pc + 2) lv (.inr r :: st) σ P) : Wp M d pc lv st σ P :=
  Wp.go (fun p l e R s m args below meth c K H locs cells slots ls Z C hR hB hL hl k => by
    have h := lvs_get hl hv
    cases r with
    | zero => exact lv_aloadN C.1 C.2.1 hd h k
    | succ a => exact lv_aload C.1 C.2.1 hd h k) k
theorem p_aload_n {i : Fin 4} {r : Nat} (hd : decode M.2.1 pc = .ok (.aload_n i, 1)) (hv : lget lv i.val = some (.inr r)) (k : Wp M d (pc + 1) lv (.inr r :: st) σ P) : Wp M d pc lv st σ P :=
  Wp.go (fun p l e R s m args below meth c K H locs cells slots ls Z C hR hB hL hl k => by
    have h := lvs_get hl hv
    cases r with
    | zero => exact lv_aload_nN C.1 C.2.1 hd rfl h k
    | succ a => exact lv_aload_n C.1 C.2.1 hd rfl h k) k
theorem p_istore {i : Nat} {x : Int32} (hd : decode M.2.1 pc = .ok (.istore i, 2)) (hn : i < M.2.2.1) (k : Wp M d (pc + 2) ((i, .inl x) :: lv) st σ P) : Wp M d pc lv (.inl x :: st) σ P :=
  Wp.store (fun p l e R s m args below meth c K H locs cells slots ls Z C hl k => lv_istore C.1 C.2.1 hd hl hn (lvs_cons (v := .inl x)) k) k
theorem p_istore_n {i : Fin 4} {x : Int32} (hd : decode M.2.1 pc = .ok (.istore_n i, 1)) (hn : i.val < M.2.2.1) (k : Wp M d (pc + 1) ((i.val, .inl x) :: lv) st σ P) : Wp M d pc lv (.inl x :: st) σ P :=
  Wp.store (fun p l e R s m args below meth c K H locs cells slots ls Z C hl k => lv_istore_n C.1 C.2.1 hd rfl hl hn (lvs_cons (v := .inl x)) k) k
theorem p_astore {i : Nat} {r : Nat} (hd : decode M.2.1 pc = .ok (.astore i, 2)) (hn : i < M.2.2.1) (k : Wp M d (pc + 2) ((i, .inr r) :: lv) st σ P) : Wp M d pc lv (.inr r :: st) σ P :=
  Wp.store (fun p l e R s m args below meth c K H locs cells slots ls Z C hl k => by
    cases r with
    | zero => exact lv_astoreN C.1 C.2.1 hd hl hn (lvs_cons (v := .inr 0)) k
    | succ a => exact lv_astore C.1 C.2.1 hd hl hn (lvs_cons (v := .inr (a + 1))) k) k
theorem p_astore_n {i : Fin 4} {r : Nat} (hd : decode M.2.1 pc = .ok (.astore_n i, 1)) (hn : i.val < M.2.2.1) (k : Wp M d (pc + 1) ((i.val, .inr r) :: lv) st σ P) : Wp M d pc lv (.inr r :: st) σ P :=
  Wp.store (fun p l e R s m args below meth c K H locs cells slots ls Z C hl k => by
    cases r with
    | zero => exact lv_astore_nN C.1 C.2.1 hd rfl hl hn (lvs_cons (v := .inr 0)) k
    | succ a => exact lv_astore_n C.1 C.2.1 hd rfl hl hn (lvs_cons (v := .inr (a + 1))) k) k
theorem p_iinc {i : Nat} {n : Int} {x y : Int32} (hd : decode M.2.1 pc = .ok (.iinc i n, 3)) (hv : lget lv i = some (.inl x)) (hy : x + Int32.ofInt n = y) (hn : i < M.2.2.1) (k : Wp M d (pc + 3) ((i, .inl y) :: lv) st σ P) : Wp M d pc lv st σ P :=
  Wp.store (fun p l e R s m args below meth c K H locs cells slots ls Z C hl k => by
    obtain ⟨j, hj⟩ := List.getElem?_of_mem (List.mem_map.mpr ⟨(i, .inl x), lget_mem lv i _ hv, rfl⟩ : (i, tv (.inl x)) ∈ lvs lv)
    exact lv_iinc C.1 C.2.1 hd hl hj hy hn (lvs_cons (v := .inl y)) k) k
theorem p_iadd {x y : Int32} (hd : decode M.2.1 pc = .ok (.iadd, 1)) (k : Wp M d (pc + 1) lv (.inl (x + y) :: st) σ P) : Wp M d pc lv (.inl y :: .inl x :: st) σ P :=
  Wp.go (fun p l e R s m args below meth c K H locs cells slots ls Z C hR hB hL hl k => lv_iadd C.1 C.2.1 hd k) k
theorem p_isub {x y : Int32} (hd : decode M.2.1 pc = .ok (.isub, 1)) (k : Wp M d (pc + 1) lv (.inl (x - y) :: st) σ P) : Wp M d pc lv (.inl y :: .inl x :: st) σ P :=
  Wp.go (fun p l e R s m args below meth c K H locs cells slots ls Z C hR hB hL hl k => lv_isub C.1 C.2.1 hd k) k
theorem p_imul {x y : Int32} (hd : decode M.2.1 pc = .ok (.imul, 1)) (k : Wp M d (pc + 1) lv (.inl (x * y) :: st) σ P) : Wp M d pc lv (.inl y :: .inl x :: st) σ P :=
  Wp.go (fun p l e R s m args below meth c K H locs cells slots ls Z C hR hB hL hl k => lv_imul C.1 C.2.1 hd k) k
theorem p_iand {x y : Int32} (hd : decode M.2.1 pc = .ok (.iand, 1)) (k : Wp M d (pc + 1) lv (.inl (x &&& y) :: st) σ P) : Wp M d pc lv (.inl y :: .inl x :: st) σ P :=
  Wp.go (fun p l e R s m args below meth c K H locs cells slots ls Z C hR hB hL hl k => lv_iand C.1 C.2.1 hd k) k
theorem p_ishr {x y : Int32} (hd : decode M.2.1 pc = .ok (.ishr, 1)) (k : Wp M d (pc + 1) lv (.inl (x >>> (y &&& 31)) :: st) σ P) : Wp M d pc lv (.inl y :: .inl x :: st) σ P :=
  Wp.go (fun p l e R s m args below meth c K H locs cells slots ls Z C hR hB hL hl k => lv_ishr C.1 C.2.1 hd k) k
theorem p_dup {v : PV} (hd : decode M.2.1 pc = .ok (.dup, 1)) (k : Wp M d (pc + 1) lv (v :: v :: st) σ P) : Wp M d pc lv (v :: st) σ P :=
  Wp.go (fun p l e R s m args below meth c K H locs cells slots ls Z C hR hB hL hl k => lv_dup C.1 C.2.1 hd (tv_cat v) k) k
theorem p_dup_x1 {v w : PV} (hd : decode M.2.1 pc = .ok (.dup_x1, 1)) (k : Wp M d (pc + 1) lv (v :: w :: v :: st) σ P) : Wp M d pc lv (v :: w :: st) σ P :=
  Wp.go (fun p l e R s m args below meth c K H locs cells slots ls Z C hR hB hL hl k => lv_dup_x1 C.1 C.2.1 hd (tv_cat v) (tv_cat w) k) k
theorem p_dup2 {v w : PV} (hd : decode M.2.1 pc = .ok (.dup2, 1)) (k : Wp M d (pc + 1) lv (v :: w :: v :: w :: st) σ P) : Wp M d pc lv (v :: w :: st) σ P :=
  Wp.go (fun p l e R s m args below meth c K H locs cells slots ls Z C hR hB hL hl k => lv_dup2_11 C.1 C.2.1 hd (tv_cat v) (tv_cat w) k) k
theorem p_pop {v : PV} (hd : decode M.2.1 pc = .ok (.pop, 1)) (k : Wp M d (pc + 1) lv st σ P) : Wp M d pc lv (v :: st) σ P :=
  Wp.go (fun p l e R s m args below meth c K H locs cells slots ls Z C hR hB hL hl k => lv_pop C.1 C.2.1 hd (tv_cat v) k) k
theorem p_goto {off : Int} {tgt : Nat} (hd : decode M.2.1 pc = .ok (.goto off, 3)) (ht : (pc : Int) + off = (tgt : Int)) (k : Wp M d tgt lv st σ P) : Wp M d pc lv st σ P :=
  Wp.go (fun p l e R s m args below meth c K H locs cells slots ls Z C hR hB hL hl k => lv_goto C.1 C.2.1 hd ht k) k
theorem p_if_eq {x : Int32} {off : Int} {tgt : Nat} (hd : decode M.2.1 pc = .ok (.ifCond .eq off, 3)) (ht : (pc : Int) + off = (tgt : Int)) (kt : x = 0 → Wp M d tgt lv st σ P) (kf : ¬ (x = 0) → Wp M d (pc + 3) lv st σ P) : Wp M d pc lv (.inl x :: st) σ P := by
  by_cases h : x = 0
  · exact Wp.go (fun p l e R s m args below meth c K H locs cells slots ls Z C hR hB hL hl k => lv_if_eq C.1 C.2.1 hd ht (fun _ => k) (fun q => absurd h q)) (kt h)
  · exact Wp.go (fun p l e R s m args below meth c K H locs cells slots ls Z C hR hB hL hl k => lv_if_eq C.1 C.2.1 hd ht (fun q => absurd q h) (fun _ => k)) (kf h)
theorem p_icmp_eq {x y : Int32} {off : Int} {tgt : Nat} (hd : decode M.2.1 pc = .ok (.if_icmp .eq off, 3)) (ht : (pc : Int) + off = (tgt : Int)) (kt : x = y → Wp M d tgt lv st σ P) (kf : ¬ (x = y) → Wp M d (pc + 3) lv st σ P) : Wp M d pc lv (.inl y :: .inl x :: st) σ P := by
  by_cases h : x = y
  · exact Wp.go (fun p l e R s m args below meth c K H locs cells slots ls Z C hR hB hL hl k => lv_icmp_eq C.1 C.2.1 hd ht (fun _ => k) (fun q => absurd h q)) (kt h)
  · exact Wp.go (fun p l e R s m args below meth c K H locs cells slots ls Z C hR hB hL hl k => lv_icmp_eq C.1 C.2.1 hd ht (fun q => absurd q h) (fun _ => k)) (kf h)
theorem p_if_ne {x : Int32} {off : Int} {tgt : Nat} (hd : decode M.2.1 pc = .ok (.ifCond .ne off, 3)) (ht : (pc : Int) + off = (tgt : Int)) (kt : ¬ x = 0 → Wp M d tgt lv st σ P) (kf : x = 0 → Wp M d (pc + 3) lv st σ P) : Wp M d pc lv (.inl x :: st) σ P := by
  by_cases h : x = 0
  · exact Wp.go (fun p l e R s m args below meth c K H locs cells slots ls Z C hR hB hL hl k => lv_if_ne C.1 C.2.1 hd ht (fun q => absurd h q) (fun _ => k)) (kf h)
  · exact Wp.go (fun p l e R s m args below meth c K H locs cells slots ls Z C hR hB hL hl k => lv_if_ne C.1 C.2.1 hd ht (fun _ => k) (fun q => absurd q h)) (kt h)
theorem p_icmp_ne {x y : Int32} {off : Int} {tgt : Nat} (hd : decode M.2.1 pc = .ok (.if_icmp .ne off, 3)) (ht : (pc : Int) + off = (tgt : Int)) (kt : ¬ x = y → Wp M d tgt lv st σ P) (kf : x = y → Wp M d (pc + 3) lv st σ P) : Wp M d pc lv (.inl y :: .inl x :: st) σ P := by
  by_cases h : x = y
  · exact Wp.go (fun p l e R s m args below meth c K H locs cells slots ls Z C hR hB hL hl k => lv_icmp_ne C.1 C.2.1 hd ht (fun q => absurd h q) (fun _ => k)) (kf h)
  · exact Wp.go (fun p l e R s m args below meth c K H locs cells slots ls Z C hR hB hL hl k => lv_icmp_ne C.1 C.2.1 hd ht (fun _ => k) (fun q => absurd q h)) (kt h)
theorem p_if_lt {x : Int32} {off : Int} {tgt : Nat} (hd : decode M.2.1 pc = .ok (.ifCond .lt off, 3)) (ht : (pc : Int) + off = (tgt : Int)) (kt : x < 0 → Wp M d tgt lv st σ P) (kf : ¬ (x < 0) → Wp M d (pc + 3) lv st σ P) : Wp M d pc lv (.inl x :: st) σ P := by
  by_cases h : x < 0
  · exact Wp.go (fun p l e R s m args below meth c K H locs cells slots ls Z C hR hB hL hl k => lv_if_lt C.1 C.2.1 hd ht (fun _ => k) (fun q => absurd h q)) (kt h)
  · exact Wp.go (fun p l e R s m args below meth c K H locs cells slots ls Z C hR hB hL hl k => lv_if_lt C.1 C.2.1 hd ht (fun q => absurd q h) (fun _ => k)) (kf h)
theorem p_icmp_lt {x y : Int32} {off : Int} {tgt : Nat} (hd : decode M.2.1 pc = .ok (.if_icmp .lt off, 3)) (ht : (pc : Int) + off = (tgt : Int)) (kt : x < y → Wp M d tgt lv st σ P) (kf : ¬ (x < y) → Wp M d (pc + 3) lv st σ P) : Wp M d pc lv (.inl y :: .inl x :: st) σ P := by
  by_cases h : x < y
  · exact Wp.go (fun p l e R s m args below meth c K H locs cells slots ls Z C hR hB hL hl k => lv_icmp_lt C.1 C.2.1 hd ht (fun _ => k) (fun q => absurd h q)) (kt h)
  · exact Wp.go (fun p l e R s m args below meth c K H locs cells slots ls Z C hR hB hL hl k => lv_icmp_lt C.1 C.2.1 hd ht (fun q => absurd q h) (fun _ => k)) (kf h)
theorem p_if_ge {x : Int32} {off : Int} {tgt : Nat} (hd : decode M.2.1 pc = .ok (.ifCond .ge off, 3)) (ht : (pc : Int) + off = (tgt : Int)) (kt : 0 ≤ x → Wp M d tgt lv st σ P) (kf : ¬ (0 ≤ x) → Wp M d (pc + 3) lv st σ P) : Wp M d pc lv (.inl x :: st) σ P := by
  by_cases h : 0 ≤ x
  · exact Wp.go (fun p l e R s m args below meth c K H locs cells slots ls Z C hR hB hL hl k => lv_if_ge C.1 C.2.1 hd ht (fun _ => k) (fun q => absurd h q)) (kt h)
  · exact Wp.go (fun p l e R s m args below meth c K H locs cells slots ls Z C hR hB hL hl k => lv_if_ge C.1 C.2.1 hd ht (fun q => absurd q h) (fun _ => k)) (kf h)
theorem p_icmp_ge {x y : Int32} {off : Int} {tgt : Nat} (hd : decode M.2.1 pc = .ok (.if_icmp .ge off, 3)) (ht : (pc : Int) + off = (tgt : Int)) (kt : y ≤ x → Wp M d tgt lv st σ P) (kf : ¬ (y ≤ x) → Wp M d (pc + 3) lv st σ P) : Wp M d pc lv (.inl y :: .inl x :: st) σ P := by
  by_cases h : y ≤ x
  · exact Wp.go (fun p l e R s m args below meth c K H locs cells slots ls Z C hR hB hL hl k => lv_icmp_ge C.1 C.2.1 hd ht (fun _ => k) (fun q => absurd h q)) (kt h)
  · exact Wp.go (fun p l e R s m args below meth c K H locs cells slots ls Z C hR hB hL hl k => lv_icmp_ge C.1 C.2.1 hd ht (fun q => absurd q h) (fun _ => k)) (kf h)
theorem p_if_gt {x : Int32} {off : Int} {tgt : Nat} (hd : decode M.2.1 pc = .ok (.ifCond .gt off, 3)) (ht : (pc : Int) + off = (tgt : Int)) (kt : 0 < x → Wp M d tgt lv st σ P) (kf : ¬ (0 < x) → Wp M d (pc + 3) lv st σ P) : Wp M d pc lv (.inl x :: st) σ P := by
  by_cases h : 0 < x
  · exact Wp.go (fun p l e R s m args below meth c K H locs cells slots ls Z C hR hB hL hl k => lv_if_gt C.1 C.2.1 hd ht (fun _ => k) (fun q => absurd h q)) (kt h)
  · exact Wp.go (fun p l e R s m args below meth c K H locs cells slots ls Z C hR hB hL hl k => lv_if_gt C.1 C.2.1 hd ht (fun q => absurd q h) (fun _ => k)) (kf h)
theorem p_icmp_gt {x y : Int32} {off : Int} {tgt : Nat} (hd : decode M.2.1 pc = .ok (.if_icmp .gt off, 3)) (ht : (pc : Int) + off = (tgt : Int)) (kt : y < x → Wp M d tgt lv st σ P) (kf : ¬ (y < x) → Wp M d (pc + 3) lv st σ P) : Wp M d pc lv (.inl y :: .inl x :: st) σ P := by
  by_cases h : y < x
  · exact Wp.go (fun p l e R s m args below meth c K H locs cells slots ls Z C hR hB hL hl k => lv_icmp_gt C.1 C.2.1 hd ht (fun _ => k) (fun q => absurd h q)) (kt h)
  · exact Wp.go (fun p l e R s m args below meth c K H locs cells slots ls Z C hR hB hL hl k => lv_icmp_gt C.1 C.2.1 hd ht (fun q => absurd q h) (fun _ => k)) (kf h)
theorem p_if_le {x : Int32} {off : Int} {tgt : Nat} (hd : decode M.2.1 pc = .ok (.ifCond .le off, 3)) (ht : (pc : Int) + off = (tgt : Int)) (kt : x ≤ 0 → Wp M d tgt lv st σ P) (kf : ¬ (x ≤ 0) → Wp M d (pc + 3) lv st σ P) : Wp M d pc lv (.inl x :: st) σ P := by
  by_cases h : x ≤ 0
  · exact Wp.go (fun p l e R s m args below meth c K H locs cells slots ls Z C hR hB hL hl k => lv_if_le C.1 C.2.1 hd ht (fun _ => k) (fun q => absurd h q)) (kt h)
  · exact Wp.go (fun p l e R s m args below meth c K H locs cells slots ls Z C hR hB hL hl k => lv_if_le C.1 C.2.1 hd ht (fun q => absurd q h) (fun _ => k)) (kf h)
theorem p_icmp_le {x y : Int32} {off : Int} {tgt : Nat} (hd : decode M.2.1 pc = .ok (.if_icmp .le off, 3)) (ht : (pc : Int) + off = (tgt : Int)) (kt : x ≤ y → Wp M d tgt lv st σ P) (kf : ¬ (x ≤ y) → Wp M d (pc + 3) lv st σ P) : Wp M d pc lv (.inl y :: .inl x :: st) σ P := by
  by_cases h : x ≤ y
  · exact Wp.go (fun p l e R s m args below meth c K H locs cells slots ls Z C hR hB hL hl k => lv_icmp_le C.1 C.2.1 hd ht (fun _ => k) (fun q => absurd h q)) (kt h)
  · exact Wp.go (fun p l e R s m args below meth c K H locs cells slots ls Z C hR hB hL hl k => lv_icmp_le C.1 C.2.1 hd ht (fun q => absurd q h) (fun _ => k)) (kf h)
theorem p_ifnull {off : Int} {tgt r : Nat} (hd : decode M.2.1 pc = .ok (.ifnull off, 3)) (ht : (pc : Int) + off = (tgt : Int)) (kt : r = 0 → Wp M d tgt lv st σ P) (kf : r ≠ 0 → Wp M d (pc + 3) lv st σ P) : Wp M d pc lv (.inr r :: st) σ P := by
  cases r with
  | zero => exact Wp.go (fun p l e R s m args below meth c K H locs cells slots ls Z C hR hB hL hl k => lv_ifnullN C.1 C.2.1 hd ht k) (kt rfl)
  | succ a => exact Wp.go (fun p l e R s m args below meth c K H locs cells slots ls Z C hR hB hL hl k => lv_ifnull C.1 C.2.1 hd k) (kf (by omega))
theorem p_ifnonnull {off : Int} {tgt r : Nat} (hd : decode M.2.1 pc = .ok (.ifnonnull off, 3)) (ht : (pc : Int) + off = (tgt : Int)) (kt : r ≠ 0 → Wp M d tgt lv st σ P) (kf : r = 0 → Wp M d (pc + 3) lv st σ P) : Wp M d pc lv (.inr r :: st) σ P := by
  cases r with
  | zero => exact Wp.go (fun p l e R s m args below meth c K H locs cells slots ls Z C hR hB hL hl k => lv_ifnonnullN C.1 C.2.1 hd k) (kf rfl)
  | succ a => exact Wp.go (fun p l e R s m args below meth c K H locs cells slots ls Z C hR hB hL hl k => lv_ifnonnull C.1 C.2.1 hd ht k) (kt (by omega))
theorem tv_rf (r : Nat) : ∃ o : Option Nat, tv (.inr r) = va_rf o ∧ (∀ r' o', tv (.inr r') = va_rf o' → (o = o' ↔ r = r')) := by
  have key : ∀ (r : Nat) (o : Option Nat), tv (.inr r) = va_rf o → (r = 0 ∧ o = none) ∨ ∃ a, r = a + 1 ∧ o = some a := by
    intro r o h
    cases r with
    | zero => cases o with
      | none => exact Or.inl ⟨rfl, rfl⟩
      | some a => simp [tv, va_rf] at h
    | succ b => cases o with
      | none => simp [tv, va_rf] at h
      | some a => simp [tv, va_rf] at h; exact Or.inr ⟨a, by rw [h], rfl⟩
  refine ⟨match r with | 0 => none | a + 1 => some a, ?_, fun r' o' h => ?_⟩
  · cases r <;> rfl
  · rcases key r' o' h with ⟨h1, h2⟩ | ⟨a, h1, h2⟩
    · subst h1; subst h2
      cases r <;> simp
    · subst h1; subst h2
      cases r <;> simp
theorem p_acmp_ne {off : Int} {tgt r r' : Nat} (hd : decode M.2.1 pc = .ok (.if_acmp .ne off, 3)) (ht : (pc : Int) + off = (tgt : Int)) (kt : r ≠ r' → Wp M d tgt lv st σ P) (kf : r = r' → Wp M d (pc + 3) lv st σ P) : Wp M d pc lv (.inr r' :: .inr r :: st) σ P := by
  obtain ⟨o, h1, h2⟩ := tv_rf r
  obtain ⟨o', h3, -⟩ := tv_rf r'
  by_cases h : r = r'
  · refine Wp.go (fun p l e R s m args below meth c K H locs cells slots ls Z C hR hB hL hl k => ?_) (kf h)
    show W p l e R s m args below meth c H locs cells slots Z (F0 m pc ls (tv (.inr r') :: tv (.inr r) :: st.map tv))
    rw [h3, h1]
    exact lv_acmp_ne C.1 C.2.1 hd ht (fun q => absurd ((h2 r' o' h3).mpr h) q) (fun _ => k)
  · refine Wp.go (fun p l e R s m args below meth c K H locs cells slots ls Z C hR hB hL hl k => ?_) (kt h)
    show W p l e R s m args below meth c H locs cells slots Z (F0 m pc ls (tv (.inr r') :: tv (.inr r) :: st.map tv))
    rw [h3, h1]
    exact lv_acmp_ne C.1 C.2.1 hd ht (fun _ => k) (fun q => absurd ((h2 r' o' h3).mp q) h)
theorem p_acmp_eq {off : Int} {tgt r r' : Nat} (hd : decode M.2.1 pc = .ok (.if_acmp .eq off, 3)) (ht : (pc : Int) + off = (tgt : Int)) (kt : r = r' → Wp M d tgt lv st σ P) (kf : r ≠ r' → Wp M d (pc + 3) lv st σ P) : Wp M d pc lv (.inr r' :: .inr r :: st) σ P := by
  obtain ⟨o, h1, h2⟩ := tv_rf r
  obtain ⟨o', h3, -⟩ := tv_rf r'
  by_cases h : r = r'
  · refine Wp.go (fun p l e R s m args below meth c K H locs cells slots ls Z C hR hB hL hl k => ?_) (kt h)
    show W p l e R s m args below meth c H locs cells slots Z (F0 m pc ls (tv (.inr r') :: tv (.inr r) :: st.map tv))
    rw [h3, h1]
    exact lv_acmp_eq C.1 C.2.1 hd ht (fun _ => k) (fun q => absurd ((h2 r' o' h3).mpr h) q)
  · refine Wp.go (fun p l e R s m args below meth c K H locs cells slots ls Z C hR hB hL hl k => ?_) (kf h)
    show W p l e R s m args below meth c H locs cells slots Z (F0 m pc ls (tv (.inr r') :: tv (.inr r) :: st.map tv))
    rw [h3, h1]
    exact lv_acmp_eq C.1 C.2.1 hd ht (fun q => absurd ((h2 r' o' h3).mp q) h) (fun _ => k)
theorem p_tableIn {dflt lo hi : Int} {offs : Array Int} {len : Nat} {x : Int32} {off : Int} {tgt : Nat} (hd : decode M.2.1 pc = .ok (.tableswitch dflt lo hi offs, len)) (h1 : ¬ x.toInt < lo) (h2 : ¬ hi < x.toInt) (ho : offs[(x.toInt - lo).toNat]? = some off) (ht : (pc : Int) + off = (tgt : Int)) (k : Wp M d tgt lv st σ P) : Wp M d pc lv (.inl x :: st) σ P :=
  Wp.go (fun p l e R s m args below meth c K H locs cells slots ls Z C hR hB hL hl k => lv_tableIn C.1 C.2.1 hd h1 h2 ho ht k) k
theorem p_tableOut {dflt lo hi : Int} {offs : Array Int} {len : Nat} {x : Int32} {tgt : Nat} (hd : decode M.2.1 pc = .ok (.tableswitch dflt lo hi offs, len)) (h : x.toInt < lo ∨ hi < x.toInt) (ht : (pc : Int) + dflt = (tgt : Int)) (k : Wp M d tgt lv st σ P) : Wp M d pc lv (.inl x :: st) σ P :=
  Wp.go (fun p l e R s m args below meth c K H locs cells slots ls Z C hR hB hL hl k => lv_tableOut C.1 C.2.1 hd h ht k) k
theorem p_ldc {index : Nat} {x : Int32} (hd : decode M.2.1 pc = .ok (.ldc index, 2)) (hw : Cond.constant M.1.cls index x ∈ GT) (k : Wp M d (pc + 2) lv (.inl x :: st) σ P) : Wp M d pc lv st σ P :=
  Wp.go (fun p l e R s m args below meth c K H locs cells slots ls Z C hR hB hL hl k => lv_ldc C.1 C.2.1 C.2.2.2.1 (C.2.2.2.2.1 _ hw) hd k) k
theorem p_ret (hd : decode M.2.1 pc = .ok (.return_, 1)) (h : P none σ) : Wp M d pc lv [] σ P :=
  ⟨none, σ, h, Nat.le_refl _, Nat.le_refl _, fun p l e R s m args below meth c K H locs cells slots ls Z C hR hB hL hc hs hl hk => by
    have := hk H locs pc ls hR hB hL (Or.inr (Or.inr ⟨hd, rfl⟩))
    simpa using this⟩
theorem p_iret {x : Int32} (hd : decode M.2.1 pc = .ok (.ireturn, 1)) (h : P (some (.inl x)) σ) : Wp M d pc lv [.inl x] σ P :=
  ⟨some (.inl x), σ, h, Nat.le_refl _, Nat.le_refl _, fun p l e R s m args below meth c K H locs cells slots ls Z C hR hB hL hc hs hl hk => by
    have := hk H locs pc ls hR hB hL (Or.inl ⟨hd, x, rfl⟩)
    simpa using this⟩
theorem p_aret {r : Nat} (hd : decode M.2.1 pc = .ok (.areturn, 1)) (h : P (some (.inr r)) σ) : Wp M d pc lv [.inr r] σ P :=
  ⟨some (.inr r), σ, h, Nat.le_refl _, Nat.le_refl _, fun p l e R s m args below meth c K H locs cells slots ls Z C hR hB hL hc hs hl hk => by
    have := hk H locs pc ls hR hB hL (Or.inr (Or.inl ⟨hd, r, rfl⟩))
    simpa using this⟩
end RowsA
