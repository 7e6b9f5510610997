/-! THE PURE SIDE: values, the heap as maps by field, what a machine heap that holds it is, the two judgements -/
/-- a value: a whole number, or a reference (0: null, a + 1: the cell at a) -/
abbrev PV : Type := Int32 ⊕ Nat
def tv (v : PV) : Value := match v with
  | .inl x => .int x
  | .inr 0 => .null
  | .inr (a + 1) => .ref a
theorem tv_cat (v : PV) : (tv v).category = 1 := by
  rcases v with x | r
  · rfl
  · cases r <;> rfl
/-- next reference, slots made, the kind of each reference; fields of whole numbers, of references; arrays: length, numbers, references -/
abbrev PS : Type := (Nat × Nat × (Nat → Nat)) × (Nat → Nat → Int32) × (Nat → Nat → Nat) × (Nat → Nat) × (Nat → Nat → Int32) × (Nat → Nat → Nat)
def nx (σ : PS) : Nat := σ.1.1
def sl (σ : PS) : Nat := σ.1.2.1
def tg (σ : PS) : Nat → Nat := σ.1.2.2
def fi (σ : PS) : Nat → Nat → Int32 := σ.2.1
def fr (σ : PS) : Nat → Nat → Nat := σ.2.2.1
def al (σ : PS) : Nat → Nat := σ.2.2.2.1
def ai (σ : PS) : Nat → Nat → Int32 := σ.2.2.2.2.1
def ar (σ : PS) : Nat → Nat → Nat := σ.2.2.2.2.2
def up2 {α : Type} (f : Nat → Nat → α) (i a : Nat) (v : α) : Nat → Nat → α := fun j b => if j = i ∧ b = a then v else f j b
def pfi (σ : PS) (i a : Nat) (v : Int32) : PS := (σ.1, up2 (fi σ) i a v, fr σ, al σ, ai σ, ar σ)
def pfr (σ : PS) (i a : Nat) (v : Nat) : PS := (σ.1, fi σ, up2 (fr σ) i a v, al σ, ai σ, ar σ)
def pai (σ : PS) (a j : Nat) (v : Int32) : PS := (σ.1, fi σ, fr σ, al σ, up2 (ai σ) a j v, ar σ)
def par (σ : PS) (a j : Nat) (v : Nat) : PS := (σ.1, fi σ, fr σ, al σ, ai σ, up2 (ar σ) a j v)
/-- a new object of class ci with N slots; its reference is nx σ -/
def pnew (σ : PS) (ci N : Nat) : PS := ((nx σ + 1, sl σ + N, va_up (tg σ) (nx σ) (ci + 1)), (fun i b => if b = nx σ then 0 else fi σ i b), (fun i b => if b = nx σ then 0 else fr σ i b), al σ, ai σ, ar σ)
/-- a new array of kind ti and length n; its reference is nx σ -/
def parr (σ : PS) (ti n : Nat) : PS := ((nx σ + 1, sl σ + n, va_up (tg σ) (nx σ) (100 + ti)), fi σ, fr σ, va_up (al σ) (nx σ) n, (fun b j => if b = nx σ then 0 else ai σ b j), (fun b j => if b = nx σ then 0 else ar σ b j))
/-- n references copied from a0 at sp to a at dp -/
def pcpy (σ : PS) (a0 sp a dp n : Nat) : PS := (σ.1, fi σ, fr σ, al σ, ai σ, (fun b j => if b = a then va_cpy (ar σ a0) (ar σ a) sp dp n j else ar σ b j))
def fval (σ : PS) (ci k r : Nat) : Value := if isR ci k = true then tv (.inr (fr σ (64 * ci + k) r)) else .int (fi σ (64 * ci + k) r)
/-- classes' ids, slots of fields, ids of array classes, the empty row of ArrayList, the class object of Object[], where the new cells begin; the script: where it lies, its length, its numbers -/
abbrev KX : Type := (Nat → ClassId) × (Nat → Nat → Nat) × (Nat → ClassId) × Nat × Nat × Nat × Nat × Nat × (Nat → Int32)
def kC (K : KX) : Nat → ClassId := K.1
def kI (K : KX) : Nat → Nat → Nat := K.2.1
def kA (K : KX) : Nat → ClassId := K.2.2.1
def kz (K : KX) : Nat := K.2.2.2.1
def km (K : KX) : Nat := K.2.2.2.2.1
def kb (K : KX) : Nat := K.2.2.2.2.2.1
def kx (K : KX) : Nat := K.2.2.2.2.2.2.1
def kL (K : KX) : Nat := K.2.2.2.2.2.2.2.1
def kX (K : KX) : Nat → Int32 := K.2.2.2.2.2.2.2.2
def aty (ti : Nat) : FieldType := match ti with
  | 0 => .int
  | 1 => .boolean
  | 2 => .object "java/lang/Object"
  | 3 => .object "TokenMesh$Share"
  | 4 => .object "TokenMesh$Core"
  | _ => .object "TokenMesh$Desk"
def tys (K : KX) : List (ClassId × FieldType) := [(kA K 0, aty 0), (kA K 1, aty 1), (kA K 2, aty 2), (kA K 3, aty 3), (kA K 4, aty 4), (kA K 5, aty 5)]
def aval (σ : PS) (ti r j : Nat) : Value := if ti < 2 then .int (ai σ r j) else tv (.inr (ar σ r j))
/-- the machine's heap holds the pure one -/
def RepH (K : KX) (σ : PS) (H : Heap) : Prop :=
  nx σ = H.size + 1 ∧ kb K ≤ H.size ∧
  (∀ (a ci : Nat) (q : vw_C), tg σ (a + 1) = ci + 1 → cls[ci]? = some q → kb K ≤ a ∧ t_OB a (kC K ci) q.2.2 (kI K ci) H (fun k => fval σ ci k (a + 1))) ∧
  (∀ (a ti : Nat), ti < 6 → tg σ (a + 1) = 100 + ti → kb K ≤ a ∧ H[a]? = some (arrV (kA K ti) (al σ (a + 1)) (fun j => aval σ ti (a + 1) j))) ∧
  (∀ r : Nat, tg σ r = 99 → r = kz K + 1 ∧ al σ r = 0) ∧ (∀ r : Nat, tg σ r = 98 → r = kx K + 1 ∧ al σ r = kL K ∧ ∀ j : Nat, j < kL K → ai σ r j = kX K j) ∧ tg σ 0 = 0 ∧ al σ 0 = km K + 1
/-- what stands fast: the classes' tables, the words that a call does not hand on by itself, the statics -/
def SF (K : KX) (s : State) : Prop :=
  va_K (kC K, kI K) cls (tys K) s ∧ (∀ w ∈ NT, va_Nw w s) ∧
  va_Z "java/util/ArrayList" "DEFAULTCAPACITY_EMPTY_ELEMENTDATA" "[Ljava/lang/Object;" (.ref (kz K)) (fun q => kb K ≤ q) s s.heap ∧
  va_T (.object "java/lang/Object") (kz K) 0 (fun _ => .null) (fun q => kb K ≤ q) s s.heap ∧ va_Mi "[Ljava/lang/Object;" (km K) s ∧ va_X (kx K) (kL K) (kX K) s s.heap ∧ kx K < kb K
/-- a method: its name, code, number of locals, kind of answer -/
abbrev MM : Type := MethodName × ByteArray × Nat × Option FieldType
def mws (M : MM) : List Cond := Cond.code M.1 M.2.1 M.2.2.1 M.2.2.2 :: GT
def rmd (d c n : Nat) : Room := { frames := d, cells := c, slots := n, locals := 41 * d }
def Pcx (K : KX) (as : List PV) (σ : PS) : Array Value → State → Prop := fun v U => v = (as.map tv).toArray ∧ RepH K σ U.heap ∧ SF K U
def Qcx (K : KX) (v : Option PV) (σ' : PS) : Array Value → State → Outcome → State → Prop := fun _ st o t => o = .returned (v.map tv) ∧ RepH K σ' t.heap ∧ ∀ q : Nat, q < kb K → t.heap[q]? = st.heap[q]?
/-- from σ, called with as, the method comes to an answer and a heap of which P holds; d: how deep its calls go -/
def Ctr (M : MM) (d : Nat) (as : List PV) (σ : PS) (P : Option PV → PS → Prop) : Prop :=
  ∃ (v : Option PV) (σ' : PS), P v σ' ∧ nx σ ≤ nx σ' ∧ sl σ ≤ sl σ' ∧ ∀ (l : Launch) (K : KX), Met l M.1 (mws M) (rmd d (nx σ' - nx σ) (sl σ' - sl σ)) (Pcx K as σ) (Qcx K v σ') (nx σ' - nx σ) (sl σ' - sl σ) (fun q => kb K ≤ q)
/-- what stands fast inside a method -/
def Cx (M : MM) (d : Nat) (K : KX) (p : Program) (R : Room) (s : State) (m : MethodId) (args : Array Value) (meth : Method) (c : Code) : Prop :=
  p.tables.exec = Jvm.exec ∧ c.code = M.2.1 ∧ c.maxLocals = M.2.2.1 ∧ s.vm.findClass M.1.cls = some m.cls ∧ (∀ w ∈ GT, w.before args s = true) ∧ SF K s ∧ d ≤ R.frames ∧ 41 * d ≤ R.locals ∧ meth.name = M.1.name
def dd : List (Nat × PV) → List (Nat × PV)
  | [] => []
  | q :: t => q :: (dd t).filter (fun r => !(r.1 == q.1))
def lget : List (Nat × PV) → Nat → Option PV
  | [], _ => none
  | q :: t, k => if q.1 = k then some q.2 else lget t k
def lvs (lv : List (Nat × PV)) : List (Nat × Value) := (dd lv).map (fun q => (q.1, tv q.2))
def RetI (M : MM) (pc : Nat) (v : Option PV) : Prop :=
  (decode M.2.1 pc = .ok (.ireturn, 1) ∧ ∃ x, v = some (.inl x)) ∨ (decode M.2.1 pc = .ok (.areturn, 1) ∧ ∃ r, v = some (.inr r)) ∨ (decode M.2.1 pc = .ok (.return_, 1) ∧ v = none)
/-- from σ, at pc with locals lv and stack st, the body comes to its return with an answer and a heap of which P holds -/
def Wp (M : MM) (d pc : Nat) (lv : List (Nat × PV)) (st : List PV) (σ : PS) (P : Option PV → PS → Prop) : Prop :=
  ∃ (v : Option PV) (σ' : PS), P v σ' ∧ nx σ ≤ nx σ' ∧ sl σ ≤ sl σ' ∧
    ∀ (p : Program) (l : Launch) (e : Env) (R : Room) (s : State) (m : MethodId) (args : Array Value) (below : List Frame) (meth : Method) (c : Code) (K : KX) (H : Heap) (locs : List Loc) (cells slots : Nat) (ls : Array Slot) (Z : State → Prop),
      Cx M d K p R s m args meth c → RepH K σ H → (∀ q : Nat, q < kb K → H[q]? = s.heap[q]?) → (∀ q ∈ locs, kb K ≤ q.base) →
      cells + (nx σ' - nx σ) ≤ R.cells → slots + (sl σ' - sl σ) ≤ R.slots → lv_has ls M.2.2.1 (lvs lv) →
      (∀ (H' : Heap) (locs' : List Loc) (pc' : Nat) (ls' : Array Slot), RepH K σ' H' → (∀ q : Nat, q < kb K → H'[q]? = s.heap[q]?) → (∀ q ∈ locs', kb K ≤ q.base) → RetI M pc' v →
        W p l e R s m args below meth c H' locs' (cells + (nx σ' - nx σ)) (slots + (sl σ' - sl σ)) Z (F0 m pc' ls' (v.toList.map tv))) →
      W p l e R s m args below meth c H locs cells slots Z (F0 m pc ls (st.map tv))
theorem lget_mem : ∀ (lv : List (Nat × PV)) (k : Nat) (v : PV), lget lv k = some v → (k, v) ∈ dd lv
  | [], k, v, h => by simp [lget] at h
  | q :: t, k, v, h => by
    unfold lget at h
    by_cases hk : q.1 = k
    · rw [if_pos hk] at h
      cases h
      subst hk
      exact List.mem_cons_self
    · rw [if_neg hk] at h
      exact List.mem_cons_of_mem _ (List.mem_filter.mpr ⟨lget_mem t k v h, by simp; exact fun e => hk e.symm⟩)
theorem mem_lget : ∀ (lv : List (Nat × PV)) (k : Nat) (v : PV), (k, v) ∈ dd lv → lget lv k = some v
  | [], k, v, h => by simp [dd] at h
  | q :: t, k, v, h => by
    unfold lget
    rcases List.mem_cons.mp h with h1 | h1
    · rw [← h1]; simp
    · obtain ⟨h2, h3⟩ := List.mem_filter.mp h1
      have hne : ¬ q.1 = k := by
        intro e
        simp at h3
        exact h3 e.symm
      rw [if_neg hne]
      exact mem_lget t k v h2
theorem lvs_get {ls : Array Slot} {n : Nat} {lv : List (Nat × PV)} (h : lv_has ls n (lvs lv)) {k : Nat} {v : PV} (hv : lget lv k = some v) : ls[k]? = some (.val (tv v)) :=
  h.2.2 (k, tv v) (List.mem_map.mpr ⟨(k, v), lget_mem lv k v hv, rfl⟩)
theorem lvs_cons {lv : List (Nat × PV)} {i : Nat} {v : PV} : (i, tv v) :: (lvs lv).filter (fun q => !(q.1 == i) && !(q.1 + 1 == i && q.2.category == 2)) = lvs ((i, v) :: lv) := by
  unfold lvs
  simp only [dd, List.map_cons, List.cons.injEq, true_and]
  rw [List.filter_map]
  congr 1
  apply List.filter_congr
  intro q _
  simp [tv_cat]
/-- a step that leaves heap and locals alone -/
theorem Wp.go {M : MM} {d pc pc' : Nat} {lv : List (Nat × PV)} {st st' : List PV} {σ : PS} {P : Option PV → PS → Prop}
    (h : ∀ (p : Program) (l : Launch) (e : Env) (R : Room) (s : State) (m : MethodId) (args : Array Value) (below : List Frame) (meth : Method) (c : Code) (K : KX) (H : Heap) (locs : List Loc) (cells slots : Nat) (ls : Array Slot) (Z : State → Prop), Cx M d K p R s m args meth c → RepH K σ H → (∀ q : Nat, q < kb K → H[q]? = s.heap[q]?) → (∀ q ∈ locs, kb K ≤ q.base) → lv_has ls M.2.2.1 (lvs lv) →
      W p l e R s m args below meth c H locs cells slots Z (F0 m pc' ls (st'.map tv)) → W p l e R s m args below meth c H locs cells slots Z (F0 m pc ls (st.map tv)))
    (k : Wp M d pc' lv st' σ P) : Wp M d pc lv st σ P := by
  obtain ⟨v, σ', hP, h1, h2, hW⟩ := k
  exact ⟨v, σ', hP, h1, h2, fun p l e R s m args below meth c K H locs cells slots ls Z C hR hB hL hc hs hl hk => h p l e R s m args below meth c K H locs cells slots ls Z C hR hB hL hl (hW p l e R s m args below meth c K H locs cells slots ls Z C hR hB hL hc hs hl hk)⟩
/-- a step that stores one local -/
theorem Wp.store {M : MM} {d pc pc' : Nat} {lv lv' : List (Nat × PV)} {st st' : List PV} {σ : PS} {P : Option PV → PS → Prop}
    (h : ∀ (p : Program) (l : Launch) (e : Env) (R : Room) (s : State) (m : MethodId) (args : Array Value) (below : List Frame) (meth : Method) (c : Code) (K : KX) (H : Heap) (locs : List Loc) (cells slots : Nat) (ls : Array Slot) (Z : State → Prop), Cx M d K p R s m args meth c → lv_has ls M.2.2.1 (lvs lv) →
      (∀ ls' : Array Slot, lv_has ls' M.2.2.1 (lvs lv') → W p l e R s m args below meth c H locs cells slots Z (F0 m pc' ls' (st'.map tv))) → W p l e R s m args below meth c H locs cells slots Z (F0 m pc ls (st.map tv)))
    (k : Wp M d pc' lv' st' σ P) : Wp M d pc lv st σ P := by
  obtain ⟨v, σ', hP, h1, h2, hW⟩ := k
  exact ⟨v, σ', hP, h1, h2, fun p l e R s m args below meth c K H locs cells slots ls Z C hR hB hL hc hs hl hk => h p l e R s m args below meth c K H locs cells slots ls Z C hl (fun ls' hl' => hW p l e R s m args below meth c K H locs cells slots ls' Z C hR hB hL hc hs hl' hk)⟩
theorem Wp.mono {M : MM} {d pc : Nat} {lv : List (Nat × PV)} {st : List PV} {σ : PS} {P P' : Option PV → PS → Prop} (k : Wp M d pc lv st σ P) (h : ∀ v σ', P v σ' → P' v σ') : Wp M d pc lv st σ P' := by
  obtain ⟨v, σ', hP, r⟩ := k
  exact ⟨v, σ', h v σ' hP, r⟩
theorem Ctr.mono {M : MM} {d : Nat} {as : List PV} {σ : PS} {P P' : Option PV → PS → Prop} (k : Ctr M d as σ P) (h : ∀ v σ', P v σ' → P' v σ') : Ctr M d as σ P' := by
  obtain ⟨v, σ', hP, r⟩ := k
  exact ⟨v, σ', h v σ' hP, r⟩
def lsub (lv : List (Nat × PV)) : List (Nat × PV) → Prop
  | [] => True
  | q :: t => lget lv q.1 = some q.2 ∧ lsub lv t
theorem lsub_get {lv : List (Nat × PV)} : ∀ (lv' : List (Nat × PV)), lsub lv lv' → ∀ q ∈ lv', lget lv q.1 = some q.2
  | [], _, q, hq => by cases hq
  | r :: t, h, q, hq => by
    rcases List.mem_cons.mp hq with rfl | h1
    · exact h.1
    · exact lsub_get t h.2 q h1
theorem dd_mem : ∀ (lv : List (Nat × PV)) (q : Nat × PV), q ∈ dd lv → q ∈ lv
  | [], q, h => h
  | r :: t, q, h => by
    rcases List.mem_cons.mp h with rfl | h1
    · exact List.mem_cons_self
    · exact List.mem_cons_of_mem _ (dd_mem t q (List.mem_filter.mp h1).1)
/-- other words for the locals -/
theorem Wp.lv {M : MM} {d pc : Nat} {lv : List (Nat × PV)} (lv' : List (Nat × PV)) {st : List PV} {σ : PS} {P : Option PV → PS → Prop} (h : lsub lv lv') (k : Wp M d pc lv' st σ P) : Wp M d pc lv st σ P := by
  obtain ⟨v, σ', hP, h1, h2, hW⟩ := k
  refine ⟨v, σ', hP, h1, h2, fun p l e R s m args below meth c K H locs cells slots ls Z C hR hB hL hc hs hl hk => hW p l e R s m args below meth c K H locs cells slots ls Z C hR hB hL hc hs ⟨hl.1, hl.2.1, fun q hq => ?_⟩ hk⟩
  obtain ⟨r, hr, rfl⟩ := List.mem_map.mp hq
  exact lvs_get hl (lsub_get lv' h r (dd_mem lv' r hr))
