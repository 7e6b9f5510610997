/-! calls, and a method out of its body -/
theorem nt_kinds {w : Cond} (h : w ∈ NT) : isN w = true := (List.mem_filter.mp h).2
theorem nt_warm {w : Cond} (hw : isN w = true) {s U : State} (hW : s.WarmedH U.vm) (h : va_Nw w s) : va_Nw w U := by
  unfold isN at hw
  split at hw
  · exact va_Nw.warmM hW h
  · exact va_Nw.warmC hW h
  · exact va_Nw.warmD hW h
  · exact va_AO.moved hW.alike h
  · cases hw
theorem nt_same {w : Cond} (hw : isN w = true) {s U : State} (hv : s.vm = U.vm) (h : va_Nw w s) : va_Nw w U := by
  unfold isN at hw
  split at hw
  · exact va_Nw.same rfl hv h
  · exact va_Nw.same rfl hv h
  · exact va_Nw.same rfl hv h
  · exact va_AO.moved (by rw [hv]; exact Vm.Alike.refl _) h
  · cases hw
theorem SF.moved {K : KX} {s U : State} (hW : s.WarmedH U.vm) (hB : ∀ q : Nat, q < kb K → U.heap[q]? = s.heap[q]?) (h : SF K s) : SF K U := by
  obtain ⟨h1, h2, h3, h4, h5, h6, h7⟩ := h
  exact ⟨va_K.moved hW.alike h1, fun w hw => nt_warm (nt_kinds hw) hW (h2 w hw), (va_Z.moved hW.alike h3).kept (fun a _ ha => hB a (Nat.not_le.mp ha)), (va_T.moved hW.alike h4).kept (fun a _ ha => hB a (Nat.not_le.mp ha)), va_Mi.moved hW.alike h5, (va_X.moved hW.alike h6).kept (hB _ h7), h7⟩
theorem SF.same {K : KX} {u U : State} (hv : u.vm = U.vm) (hh : u.heap = U.heap) (h : SF K u) : SF K U := by
  obtain ⟨h1, h2, h3, h4, h5, h6, h7⟩ := h
  have ha : u.vm.Alike U.vm := by rw [hv]; exact Vm.Alike.refl _
  exact ⟨va_K.moved ha h1, fun w hw => nt_same (nt_kinds hw) hv (h2 w hw), (va_Z.moved ha h3).kept (fun a _ _ => by rw [hh]), (va_T.moved ha h4).kept (fun a _ _ => by rw [hh]), va_Mi.moved ha h5, (va_X.moved ha h6).kept (by rw [hh]), h7⟩
theorem Pcx.blind (K : KX) (as : List PV) (σ : PS) : FrameBlind (Pcx K as σ) := by
  intro a U g mk h
  exact ⟨h.1, h.2.1, SF.same (u := U) (U := U.calling g mk a) rfl rfl h.2.2⟩
/-- a method that is known: its code is among the words, its class is ready, so many parameters, not too many locals -/
def MK (M : MM) (n : Nat) : Prop := Cond.code M.1 M.2.1 M.2.2.1 M.2.2.2 ∈ GT ∧ Cond.initialized M.1.cls ∈ GT ∧ (M.1.cls ≠ "java/lang/invoke/MethodHandle" ∧ M.1.cls ≠ "java/lang/invoke/VarHandle") ∧ (parseMethodDescriptor M.1.desc).map (fun d => d.parameters.length) = some n ∧ M.2.2.1 ≤ 22
theorem gt_good {w : Cond} (h : w ∈ GT) : (w.onTables && w.keeps) = true ∨ ∃ ty, w = .arrayClass ty := good_of_word (List.mem_filter.mp h).2
theorem MK.callB {M M' : MM} {d d' : Nat} {K : KX} {p : Program} {R : Room} {s : State} {m : MethodId} {args : Array Value} {meth : Method} {c : Code} {n idx mc ms : Nat} (C : Cx M d K p R s m args meth c) (hM : MK M' n) (hdd : d' + 1 ≤ d) (hl : Cond.methodLink M.1.cls idx M'.1 ∈ GT) : CallB R s args M.1.cls idx M'.1 M'.2.1 M'.2.2.1 M'.2.2.2 (mws M') (rmd d' mc ms) mc ms n := by
  obtain ⟨h1, h2, h3, h4, h5⟩ := hM
  have c7 := C.2.2.2.2.2.2.1
  have c8 := C.2.2.2.2.2.2.2.1
  refine ⟨rfl, rfl, by show d' + 1 ≤ R.frames; omega, by show 8 + (M'.2.2.1 + 11) + 41 * d' ≤ R.locals; omega, ?_, List.mem_cons_self, C.w h1, C.w h2, h3, fun sig h => ?_, C.w hl⟩
  · intro w hw a' U hW
    have hg : w ∈ GT := by
      rcases List.mem_cons.mp hw with rfl | h
      · exact h1
      · exact h
    exact word_at hW (gt_good hg) (C.w hg)
  · rw [h] at h4
    exact (Option.some.inj h4).symm
theorem MK.callN {M M' : MM} {d d' : Nat} {K : KX} {p : Program} {R : Room} {s : State} {m : MethodId} {args : Array Value} {meth : Method} {c : Code} {n idx mc ms : Nat} {host : String} (C : Cx M d K p R s m args meth c) (hM : MK M' n) (hdd : d' + 1 ≤ d) (hl : Cond.methodLinkNest M.1.cls idx M'.1 host ∈ NT) : va_CN R s args M.1.cls idx M'.1 host M'.2.1 M'.2.2.1 M'.2.2.2 (mws M') (rmd d' mc ms) mc ms n := by
  obtain ⟨h1, h2, h3, h4, h5⟩ := hM
  have c7 := C.2.2.2.2.2.2.1
  have c8 := C.2.2.2.2.2.2.2.1
  refine ⟨⟨rfl, rfl, by show d' + 1 ≤ R.frames; omega, by show 8 + (M'.2.2.1 + 11) + 41 * d' ≤ R.locals; omega, ?_, List.mem_cons_self⟩, C.w h1, C.w h2, h3, fun sig h => ?_, va_Nw.use rfl (C.2.2.2.2.2.1.2.1 _ hl)⟩
  · intro w hw a' U hW
    have hg : w ∈ GT := by
      rcases List.mem_cons.mp hw with rfl | h
      · exact h1
      · exact h
    exact word_at hW (gt_good hg) (C.w hg)
  · rw [h] at h4
    exact (Option.some.inj h4).symm
section RowsE
variable {M M' : MM} {d d' pc : Nat} {lv : List (Nat × PV)} {st st0 : List PV} {σ : PS} {P : Option PV → PS → Prop}
theorem call_go {as : List PV} {v1 : Option PV} {σ1 : PS} {p : Program} {l : Launch} {e : Env} {R : Room} {s : State} {m : MethodId} {args : Array Value} {below : List Frame} {meth : Method} {c : Code} {K : KX} {H : Heap} {locs : List Loc} {cells slots : Nat} {ls : Array Slot} {Z : State → Prop} {a : Array Value} (hB : ∀ q : Nat, q < kb K → H[q]? = s.heap[q]?) (hL : ∀ q ∈ locs, kb K ≤ q.base)
    (run : va_Run p l e R s m args below meth c H locs cells slots (nx σ1 - nx σ) (sl σ1 - sl σ) (F0 m pc ls (st0.map tv)) (st.map tv) (Qcx K v1 σ1 a) (fun q => kb K ≤ q))
    (k : ∀ (H' : Heap) (locs' : List Loc), RepH K σ1 H' → (∀ q : Nat, q < kb K → H'[q]? = s.heap[q]?) → (∀ q ∈ locs', kb K ≤ q.base) → W p l e R s m args below meth c H' locs' (cells + (nx σ1 - nx σ)) (slots + (sl σ1 - sl σ)) Z (F0 m (pc + 3) ls ((v1.toList ++ st).map tv))) :
    W p l e R s m args below meth c H locs cells slots Z (F0 m pc ls (st0.map tv)) := by
  intro T hT X
  obtain ⟨v, st₀, t, T', L, h0, X', hL', e1, e2, ⟨hv, hR, hF⟩, go⟩ := run T hT X
  have hv' : v = v1.map tv := Outcome.returned.inj hv
  subst hv'
  obtain ⟨t2, a1, b1⟩ := k T'.heap (locs ++ L) (by rw [e1]; exact hR) (fun q hq => by rw [e1, hF q hq, h0]; exact hB q hq) (fun q hq => by
    rcases List.mem_append.mp hq with h | h
    · exact hL q h
    · exact hL' q h) T' rfl X'
  refine ⟨t2, go t2 ?_, b1⟩
  have ev : (v1.map tv).toList ++ st.map tv = (v1.toList ++ st).map tv := by cases v1 <;> simp
  show Steps p.tables e below (T'.setTop (F0 m (pc + 3) ls ((v1.map tv).toList ++ st.map tv))) t2
  rw [ev]
  exact a1
theorem call_wrap {as : List PV} (h : Ctr M' d' as σ (fun v σ1 => Wp M d (pc + 3) lv (v.toList ++ st) σ1 P))
    (run : ∀ (v1 : Option PV) (σ1 : PS) (p : Program) (l : Launch) (e : Env) (R : Room) (s : State) (m : MethodId) (args : Array Value) (below : List Frame) (meth : Method) (c : Code) (K : KX) (H : Heap) (locs : List Loc) (cells slots : Nat) (ls : Array Slot), Cx M d K p R s m args meth c → RepH K σ H → (∀ q : Nat, q < kb K → H[q]? = s.heap[q]?) → lv_has ls M.2.2.1 (lvs lv) →
      Met l M'.1 (mws M') (rmd d' (nx σ1 - nx σ) (sl σ1 - sl σ)) (Pcx K as σ) (Qcx K v1 σ1) (nx σ1 - nx σ) (sl σ1 - sl σ) (fun q => kb K ≤ q) → cells + (nx σ1 - nx σ) ≤ R.cells → slots + (sl σ1 - sl σ) ≤ R.slots →
      va_Run p l e R s m args below meth c H locs cells slots (nx σ1 - nx σ) (sl σ1 - sl σ) (F0 m pc ls (st0.map tv)) (st.map tv) (Qcx K v1 σ1 (as.map tv).toArray) (fun q => kb K ≤ q)) : Wp M d pc lv st0 σ P := by
  obtain ⟨v1, σ1, ⟨v, σ', hP, m1, m2, hW⟩, n1, n2, hM⟩ := h
  refine ⟨v, σ', hP, Nat.le_trans n1 m1, Nat.le_trans n2 m2, fun p l e R s m args below meth c K H locs cells slots ls Z C hR hB hL hc hs hl hk => ?_⟩
  refine call_go (as := as) hB hL (run v1 σ1 p l e R s m args below meth c K H locs cells slots ls C hR hB hl (hM l K) (by omega) (by omega)) (fun H' locs' hR' hB' hL' => ?_)
  refine hW p l e R s m args below meth c K H' locs' _ _ ls Z C hR' hB' hL' (by omega) (by omega) hl ?_
  have e1 : cells + (nx σ1 - nx σ) + (nx σ' - nx σ1) = cells + (nx σ' - nx σ) := by omega
  have e2 : slots + (sl σ1 - sl σ) + (sl σ' - sl σ1) = slots + (sl σ' - sl σ) := by omega
  rw [e1, e2]
  exact hk
theorem room8 {m : MethodId} {ls : Array Slot} {st9 : List Value} (h : st.length ≤ 8) : 2 * (F0 m pc ls st9).monitorRoom + ((st.map tv).map fun v => v.category).sum ≤ 8 := by
  rw [cat_sum]
  show 2 * 0 + _ ≤ 8
  omega
/-- a call on an object of the very class -/
theorem p_inv {idx ci b n : Nat} {q : vw_C} (As : List PV) (rest : List PV) (hd : decode M.2.1 pc = .ok (.invokevirtual idx, 3)) (hl : Cond.methodLink M.1.cls idx M'.1 ∈ GT) (hM : MK M' n) (h1 : Cond.instanceMethod M'.1 ∈ GT) (h2 : Cond.selects M'.1.cls M'.1 M'.1 ∈ GT) (hq : cls[ci]? = some q) (hq1 : q.1 = M'.1.cls) (ht : tg σ b = ci + 1) (hn : As.length = n) (hst : st0 = As.reverse ++ .inr b :: rest) (h8 : rest.length ≤ 8) (hdd : d' + 1 ≤ d)
    (h : Ctr M' d' (.inr b :: As) σ (fun v σ1 => Wp M d (pc + 3) lv (v.toList ++ rest) σ1 P)) : Wp M d pc lv st0 σ P := by
  refine call_wrap (st := rest) h (fun v1 σ1 p l e R s m args below meth c K H locs cells slots ls C hR hB hlv hMet hc hs => ?_)
  obtain ⟨a, rfl⟩ := hR.pos ht
  obtain ⟨cell, c1, c2, c3, c4, -⟩ := hR.cell C hq ht
  rw [hq1] at c4
  exact va_runV (C := M'.1.cls) (As := As.map tv) (rest := rest.map tv) (n := n) (nL := M.2.2.1) (Ts := GT) ⟨C.1, C.2.1, C.2.2.1, C.2.2.2.1, C.2.2.2.2.1⟩ hMet ⟨MK.callB C hM hdd hl, C.w h1, C.w h2⟩ ⟨Pcx.blind _ _ _, ⟨cell, c1, c2, c4⟩, fun U hU hW => ⟨rfl, by rw [hU]; exact hR, C.2.2.2.2.2.1.moved hW (fun z hz => by rw [hU]; exact hB z hz)⟩⟩ rfl (by rw [List.length_map]; exact hn) hlv.1 (by rw [hst]; simp [tv]) (room8 h8) hd ⟨hc, hs⟩
theorem p_stat {idx n : Nat} (As : List PV) (rest : List PV) (hd : decode M.2.1 pc = .ok (.invokestatic idx, 3)) (hl : Cond.methodLink M.1.cls idx M'.1 ∈ GT) (hM : MK M' n) (h1 : Cond.static M'.1 ∈ GT) (hn : As.length = n) (hst : st0 = As.reverse ++ rest) (h8 : rest.length ≤ 8) (hdd : d' + 1 ≤ d)
    (h : Ctr M' d' As σ (fun v σ1 => Wp M d (pc + 3) lv (v.toList ++ rest) σ1 P)) : Wp M d pc lv st0 σ P := by
  refine call_wrap (st := rest) h (fun v1 σ1 p l e R s m args below meth c K H locs cells slots ls C hR hB hlv hMet hc hs => ?_)
  exact va_runS (As := As.map tv) (rest := rest.map tv) (n := n) (nL := M.2.2.1) (Ts := GT) ⟨C.1, C.2.1, C.2.2.1, C.2.2.2.1, C.2.2.2.2.1⟩ hMet ⟨MK.callB C hM hdd hl, C.w h1⟩ ⟨Pcx.blind _ _ _, fun U hU hW => ⟨rfl, by rw [hU]; exact hR, C.2.2.2.2.2.1.moved hW (fun z hz => by rw [hU]; exact hB z hz)⟩⟩ rfl (by rw [List.length_map]; exact hn) hlv.1 (by rw [hst]; simp) (room8 h8) hd ⟨hc, hs⟩
theorem p_init {idx n b : Nat} (As : List PV) (rest : List PV) (hd : decode M.2.1 pc = .ok (.invokespecial idx, 3)) (hl : Cond.methodLink M.1.cls idx M'.1 ∈ GT) (hM : MK M' n) (h1 : Cond.instanceMethod M'.1 ∈ GT) (h2 : M'.1.name = "<init>") (h3 : M'.2.2.2 = none) (hb : b ≠ 0) (hn : As.length = n) (hst : st0 = As.reverse ++ .inr b :: rest) (h8 : rest.length ≤ 8) (hdd : d' + 1 ≤ d)
    (h : Ctr M' d' (.inr b :: As) σ (fun v σ1 => Wp M d (pc + 3) lv (v.toList ++ rest) σ1 P)) : Wp M d pc lv st0 σ P := by
  refine call_wrap (st := rest) h (fun v1 σ1 p l e R s m args below meth c K H locs cells slots ls C hR hB hlv hMet hc hs => ?_)
  obtain ⟨a, rfl⟩ : ∃ a, b = a + 1 := ⟨b - 1, by omega⟩
  have hcb := MK.callB (mc := nx σ1 - nx σ) (ms := sl σ1 - sl σ) C hM hdd hl
  rw [h3] at hcb
  exact va_runI (As := As.map tv) (rest := rest.map tv) (n := n) (nL := M.2.2.1) (Ts := GT) ⟨C.1, C.2.1, C.2.2.1, C.2.2.2.1, C.2.2.2.2.1⟩ hMet ⟨hcb, h2, C.w h1⟩ ⟨Pcx.blind _ _ _, fun U hU hW => ⟨rfl, by rw [hU]; exact hR, C.2.2.2.2.2.1.moved hW (fun z hz => by rw [hU]; exact hB z hz)⟩⟩ rfl (by rw [List.length_map]; exact hn) hlv.1 (by rw [hst]; simp [tv]) (room8 h8) hd ⟨hc, hs⟩
theorem p_initN {idx n b : Nat} {host : String} (As : List PV) (rest : List PV) (hd : decode M.2.1 pc = .ok (.invokespecial idx, 3)) (hl : Cond.methodLinkNest M.1.cls idx M'.1 host ∈ NT) (hM : MK M' n) (h1 : Cond.instanceMethod M'.1 ∈ GT) (h2 : M'.1.name = "<init>") (h3 : M'.2.2.2 = none) (hb : b ≠ 0) (hn : As.length = n) (hst : st0 = As.reverse ++ .inr b :: rest) (h8 : rest.length ≤ 8) (hdd : d' + 1 ≤ d)
    (h : Ctr M' d' (.inr b :: As) σ (fun v σ1 => Wp M d (pc + 3) lv (v.toList ++ rest) σ1 P)) : Wp M d pc lv st0 σ P := by
  refine call_wrap (st := rest) h (fun v1 σ1 p l e R s m args below meth c K H locs cells slots ls C hR hB hlv hMet hc hs => ?_)
  obtain ⟨a, rfl⟩ : ∃ a, b = a + 1 := ⟨b - 1, by omega⟩
  have hcb := MK.callN (mc := nx σ1 - nx σ) (ms := sl σ1 - sl σ) C hM hdd hl
  rw [h3] at hcb
  exact va_runIN (As := As.map tv) (rest := rest.map tv) (n := n) (nL := M.2.2.1) (Ts := GT) ⟨C.1, C.2.1, C.2.2.1, C.2.2.2.1, C.2.2.2.2.1⟩ hMet ⟨hcb, h2, C.w h1⟩ ⟨Pcx.blind _ _ _, fun U hU hW => ⟨rfl, by rw [hU]; exact hR, C.2.2.2.2.2.1.moved hW (fun z hz => by rw [hU]; exact hB z hz)⟩⟩ rfl (by rw [List.length_map]; exact hn) hlv.1 (by rw [hst]; simp [tv]) (room8 h8) hd ⟨hc, hs⟩
theorem p_oinit {idx b : Nat} (hd : decode M.2.1 pc = .ok (.invokespecial idx, 3)) (hl : Cond.methodLink M.1.cls idx objectInit ∈ GT) (h1 : Cond.instanceMethod objectInit ∈ GT) (h2 : Cond.code objectInit ⟨#[0xb1]⟩ 1 none ∈ GT) (hb : b ≠ 0) (h8 : st.length ≤ 8) (hd1 : 1 ≤ d) (kk : Wp M d (pc + 3) lv st σ P) : Wp M d pc lv (.inr b :: st) σ P := by
  refine Wp.go (fun p l e R s m args below meth c K H locs cells slots ls Z C hR hB hL hlv k => ?_) kk
  obtain ⟨a, rfl⟩ : ∃ a, b = a + 1 := ⟨b - 1, by omega⟩
  have c7 := C.2.2.2.2.2.2.1
  have c8 := C.2.2.2.2.2.2.2.1
  exact W.objInit C.1 C.2.1 C.2.2.2.1 (C.w hl) (C.w h1) (C.w h2) (g := F0 m pc ls (.ref a :: st.map tv)) rfl (by rw [C.2.2.1]; exact hlv.1) rfl hd (by omega) (by have := room8 (st := st) (m := m) (ls := ls) (pc := pc) (st9 := .ref a :: st.map tv) h8; omega) k
end RowsE
def largs : Nat → List PV → List (Nat × PV)
  | _, [] => []
  | i, v :: t => (i, v) :: largs (i + 1) t
theorem largs_mem : ∀ (as : List PV) (i : Nat) (q : Nat × PV), q ∈ largs i as → (q.1, tv q.2) ∈ lv_args i (as.map tv)
  | [], _, q, h => by cases h
  | v :: t, i, q, h => by
    have hc : ¬ (tv v).category = 2 := by rw [tv_cat]; omega
    simp only [List.map_cons, lv_args, if_neg hc]
    rcases List.mem_cons.mp h with rfl | h
    · exact List.mem_cons_self
    · exact List.mem_cons_of_mem _ (largs_mem t (i + 1) q h)
theorem lg_len : ∀ as : List PV, (lg_sl (as.map tv)).length = as.length
  | [] => rfl
  | v :: t => by
    have hc : ¬ (tv v).category = 2 := by rw [tv_cat]; omega
    have := lg_len t
    simp only [lg_sl, List.map_cons, List.flatMap_cons, if_neg hc, List.length_append, List.length_cons, List.length_nil] at this ⊢
    omega
/-- an answer of the kind that the method's head names -/
def RV (ret : Option FieldType) (v : Option PV) : Prop := (ret = none ∧ v = none) ∨ (ret = some .int ∧ ∃ x, v = some (.inl x)) ∨ (ret = some .boolean ∧ ∃ x : Int32, v = some (.inl x) ∧ narrow .boolean (.int x) = .int x) ∨ (((∃ n, ret = some (.object n)) ∨ ∃ t, ret = some (.array t)) ∧ ∃ r, v = some (.inr r))
theorem Ctr.of {M : MM} {d : Nat} {as : List PV} {σ : PS} {P : Option PV → PS → Prop} (hp : plainName M.1.cls = true) (hn : as.length ≤ M.2.2.1) (h : Wp M d 0 (largs 0 as) [] σ (fun v σ' => RV M.2.2.2 v ∧ P v σ')) : Ctr M d as σ P := by
  obtain ⟨v, σ', ⟨hV, hP⟩, h1, h2, hW⟩ := h
  refine ⟨v, σ', hP, h1, h2, fun l K => ?_⟩
  refine Met.ofW (cc := M.2.1) (maxL := M.2.2.1) (ret := M.2.2.2) hp rfl ?_
  intro p e s m args below meth c s₁ B hml hv
  obtain ⟨rfl, hR, hS⟩ := hv
  have hts := atoms_spec (ws := mws M) B.pre
  have hown : s.vm.findClass M.1.cls = some m.cls := findClass_of_methodNamed B.named
  have hlocks := B.notSynchronized
  have hname : meth.name = M.1.name := (name_of_methodNamed B.named B.method).1
  have hl := lv_entry (as.map tv) (n := M.2.2.1) (by rw [lg_len]; exact hn)
  rw [lg_entry_eq]
  refine hW p l e (rmd d (nx σ' - nx σ) (sl σ' - sl σ)) s m _ below meth c K s.heap [] 0 0 _ _ ⟨B.exec, B.bytes, hml, hown, fun w h => hts w (List.mem_cons_of_mem _ h), hS, Nat.le_refl d, Nat.le_refl _, hname⟩ hR (fun _ _ => rfl) (fun q h => by cases h) (by show 0 + _ ≤ nx σ' - nx σ; omega) (by show 0 + _ ≤ sl σ' - sl σ; omega) ⟨hl.1, hl.2.1, fun q hq => ?_⟩ ?_
  · obtain ⟨r, hr, rfl⟩ := List.mem_map.mp hq
    exact hl.2.2 _ (largs_mem as 0 r (dd_mem _ r hr))
  · intro H' locs' pc' ls' hR' hB' hL' hret
    rw [Nat.zero_add, Nat.zero_add]
    have hq : ∀ t : State, t.heap = H' → s.WarmedH t.vm → Qcx K v σ' ((as.map tv).toArray) s (.returned (v.map tv)) t := fun t ht _ => ⟨rfl, by rw [ht]; exact hR', fun q hq => by rw [ht]; exact hB' q hq⟩
    rcases hret with ⟨hd, x, rfl⟩ | ⟨hd, r, rfl⟩ | ⟨hd, rfl⟩
    · rcases hV with ⟨-, h⟩ | ⟨h, -⟩ | ⟨h, y, e, hnr⟩ | ⟨-, r, e⟩
      · cases h
      · exact W.iret B.exec B.bytes (by rw [B.returns]; exact h) hq hL' hd
      · cases e
        exact W.zret (ty := .boolean) B.exec B.bytes (by rw [B.returns]; exact h) hnr hq hL' hd
      · cases e
    · rcases hV with ⟨-, h⟩ | ⟨-, y, h⟩ | ⟨-, y, h, -⟩ | ⟨h, -⟩
      · cases h
      · cases h
      · cases h
      · have hv9 : tv (.inr r) = .null ∨ ∃ a, tv (.inr r) = .ref a := by
          cases r with
          | zero => exact Or.inl rfl
          | succ a => exact Or.inr ⟨a, rfl⟩
        rcases h with ⟨n, h⟩ | ⟨t, h⟩
        · exact W.aret (rt := .object n) B.exec B.bytes (by rw [B.returns]; exact h) (Or.inl ⟨n, rfl⟩) hv9 hq hL' hd
        · exact W.aret (rt := .array t) B.exec B.bytes (by rw [B.returns]; exact h) (Or.inr ⟨t, rfl⟩) hv9 hq hL' hd
    · rcases hV with ⟨h, -⟩ | ⟨-, y, h⟩ | ⟨-, y, h, -⟩ | ⟨-, r, h⟩
      · exact W.vret B.exec B.bytes (by rw [B.returns]; exact h) hq hL' hd
      · cases h
      · cases h
      · cases h
