/-! rows of single instructions that read or write the heap -/
theorem cls_in {ci : Nat} {q : vw_C} (hc : cls[ci]? = some q) : ∀ w ∈ u_ws q.1 q.2.1 q.2.2, w ∈ GT := by
  match ci, hc with
  | 0, hc => cases hc; exact cI0
  | 1, hc => cases hc; exact cI1
  | 2, hc => cases hc; exact cI2
  | 3, hc => cases hc; exact cI3
  | 4, hc => cases hc; exact cI4
  | 5, hc => cases hc; exact cI5
  | 6, hc => cases hc; exact cI6
  | 7, hc => cases hc; exact cI7
  | 8, hc => cases hc; exact cI8
  | n + 9, hc => simp [cls] at hc
theorem cls_nm {ci : Nat} {q : vw_C} (hc : cls[ci]? = some q) : ∀ a, a < q.2.2 → ∀ b, b < q.2.2 → a ≠ b → (q.2.1 a).2.1 ≠ (q.2.1 b).2.1 := by
  match ci, hc with
  | 0, hc => cases hc; exact cN0
  | 1, hc => cases hc; exact cN1
  | 2, hc => cases hc; exact cN2
  | 3, hc => cases hc; exact cN3
  | 4, hc => cases hc; exact cN4
  | 5, hc => cases hc; exact cN5
  | 6, hc => cases hc; exact cN6
  | 7, hc => cases hc; exact cN7
  | 8, hc => cases hc; exact cN8
  | n + 9, hc => simp [cls] at hc
theorem cls_ty {ci : Nat} {q : vw_C} (hc : cls[ci]? = some q) : ∀ k, k < q.2.2 → parseFieldDescriptor (q.2.1 k).2.2.1 = some (fty ci k) := by
  match ci, hc with
  | 0, hc => cases hc; exact cO0
  | 1, hc => cases hc; exact cO1
  | 2, hc => cases hc; exact cO2
  | 3, hc => cases hc; exact cO3
  | 4, hc => cases hc; exact cO4
  | 5, hc => cases hc; exact cO5
  | 6, hc => cases hc; exact cO6
  | 7, hc => cases hc; exact cO7
  | 8, hc => cases hc; exact cO8
  | n + 9, hc => simp [cls] at hc
theorem cls_le {ci : Nat} {q : vw_C} (hc : cls[ci]? = some q) : q.2.2 ≤ 40 ∧ ci < 9 := by
  match ci, hc with
  | 0, hc => cases hc; exact ⟨by decide, by decide⟩
  | 1, hc => cases hc; exact ⟨by decide, by decide⟩
  | 2, hc => cases hc; exact ⟨by decide, by decide⟩
  | 3, hc => cases hc; exact ⟨by decide, by decide⟩
  | 4, hc => cases hc; exact ⟨by decide, by decide⟩
  | 5, hc => cases hc; exact ⟨by decide, by decide⟩
  | 6, hc => cases hc; exact ⟨by decide, by decide⟩
  | 7, hc => cases hc; exact ⟨by decide, by decide⟩
  | 8, hc => cases hc; exact ⟨by decide, by decide⟩
  | n + 9, hc => simp [cls] at hc
theorem fty_dv : ∀ ci, ci < 9 → ∀ k, k < 40 → defaultValue (fty ci k) = if isR ci k = true then Value.null else .int 0 := by decide +kernel
theorem fty_rf : ∀ ci, ci < 9 → ∀ k, k < 40 → isR ci k = true → (∃ n, fty ci k = .object n) ∨ ∃ t, fty ci k = .array t := by
  intro ci _ k _ h
  unfold isR at h
  split at h
  · exact Or.inl ⟨_, by assumption⟩
  · exact Or.inr ⟨_, by assumption⟩
  · cases h
/-- a field, as the instruction at pool index idx of class own names it -/
def FS (own : String) (idx ci k : Nat) : Prop := ∃ (q : vw_C) (ref : String), cls[ci]? = some q ∧ k < q.2.2 ∧ Cond.fieldLink own idx ref (q.2.1 k).2.1 (q.2.1 k).2.2.1 ∈ GT ∧ (ref = (q.2.1 k).1 ∨ Cond.sameField ref (q.2.1 k).1 (q.2.1 k).2.1 (q.2.1 k).2.2.1 ∈ GT)
theorem Cx.w {M : MM} {d : Nat} {K : KX} {p : Program} {R : Room} {s : State} {m : MethodId} {args : Array Value} {meth : Method} {c : Code} (C : Cx M d K p R s m args meth c) {w : Cond} (h : w ∈ GT) : w.before args s = true := C.2.2.2.2.1 _ h
theorem FS.same {own : String} {idx ci k : Nat} {q : vw_C} {ref : String} {s : State} {args : Array Value} (hts : ∀ w ∈ GT, w.before args s = true) (h : ref = (q.2.1 k).1 ∨ Cond.sameField ref (q.2.1 k).1 (q.2.1 k).2.1 (q.2.1 k).2.2.1 ∈ GT) : ∀ x, s.fieldFound? (q.2.1 k).1 (q.2.1 k).2.1 (q.2.1 k).2.2.1 = some x → s.fieldFound? ref (q.2.1 k).2.1 (q.2.1 k).2.2.1 = some x := by
  rcases h with rfl | h
  · exact fun x h => h
  · exact u_same (hts _ h)
theorem fval_int {σ : PS} {ci k r : Nat} (h : isR ci k = false) : fval σ ci k r = .int (fi σ (64 * ci + k) r) := by simp [fval, h]
theorem fval_ref {σ : PS} {ci k r : Nat} (h : isR ci k = true) : fval σ ci k r = tv (.inr (fr σ (64 * ci + k) r)) := by simp [fval, h]
/-- the heap behind a store into a field -/
theorem RepH.put {K : KX} {σ σ' : PS} {H H' : Heap} {a ci k : Nat} {v : Value} {q : vw_C} (hR : RepH K σ H) (ht : tg σ (a + 1) = ci + 1) (hc : cls[ci]? = some q) (hk : k < q.2.2)
    (hap : ∀ x y, x < q.2.2 → y < q.2.2 → x ≠ y → kI K ci x ≠ kI K ci y) {cell : Cell} (hcell : H[a]? = some cell) (e1 : H'[a]? = some (cell.setSlot (kI K ci k) v)) (e2 : H'.size = H.size) (e3 : ∀ q, q ≠ a → H'[q]? = H[q]?)
    (h1 : σ'.1 = σ.1) (h2 : al σ' = al σ) (h3 : ai σ' = ai σ) (h4 : ar σ' = ar σ) (hf : ∀ ci' k' r' : Nat, k' < 40 → fval σ' ci' k' r' = if r' = a + 1 ∧ ci' = ci ∧ k' = k then v else fval σ ci' k' r') : RepH K σ' H' := by
  obtain ⟨r1, r2, r3, r4, r5, r6, r7⟩ := hR
  have n1 : nx σ' = nx σ := by unfold nx; rw [h1]
  have t1 : tg σ' = tg σ := by unfold tg; rw [h1]
  refine ⟨by rw [n1, e2]; exact r1, by rw [e2]; exact r2, fun b cj q' hb hq' => ?_, fun b ti hti hb => ?_, fun r hr => ?_, fun r hr => ?_, by rw [t1, h2]; exact r7⟩
  · rw [t1] at hb
    obtain ⟨g1, g2⟩ := r3 b cj q' hb hq'
    refine ⟨g1, ?_⟩
    by_cases hba : b = a
    · subst hba
      have hcc : cj = ci := by omega
      subst hcc
      cases hc.symm.trans hq'
      obtain ⟨cell', f1, f2, f3, f4⟩ := g2
      cases hcell.symm.trans f1
      refine t_OB.to (V := updV (fun k => fval σ cj k (b + 1)) k v) ⟨_, e1, f2, f3, t_set f4 hap hk v⟩ (fun j hj => ?_)
      rw [hf cj j (b + 1) (Nat.lt_of_lt_of_le hj (cls_le hc).1)]
      unfold updV
      by_cases hjk : j = k
      · subst hjk; simp
      · rw [if_neg hjk, if_neg (fun z => hjk z.2.2)]
    · refine (g2.kept (e3 b hba)).to (fun j hj => ?_)
      rw [hf cj j (b + 1) (Nat.lt_of_lt_of_le hj (cls_le hq').1), if_neg (fun z => hba (by omega))]
  · rw [t1] at hb
    obtain ⟨g1, g2⟩ := r4 b ti hti hb
    have hba : b ≠ a := by
      rintro rfl
      have := (cls_le hc).2
      omega
    refine ⟨g1, ?_⟩
    rw [e3 b hba, g2, h2]
    unfold aval
    rw [h3, h4]
  · rw [t1] at hr
    rw [h2]
    exact r5 r hr
  · rw [t1] at hr
    rw [h2, h3]
    exact r6 r hr
section RowsB
variable {M : MM} {d pc : Nat} {lv : List (Nat × PV)} {st : List PV} {σ : PS} {P : Option PV → PS → Prop}
theorem RepH.pos {K : KX} {H : Heap} (hR : RepH K σ H) {r n : Nat} (h : tg σ r = n + 1) : ∃ a, r = a + 1 := by
  cases r with
  | zero => rw [hR.2.2.2.2.2.2.1] at h; omega
  | succ a => exact ⟨a, rfl⟩
theorem getf_go {idx ci k r : Nat} {v : PV} (hd : decode M.2.1 pc = .ok (.getfield idx, 3)) (hf : FS M.1.cls idx ci k) (ht : tg σ r = ci + 1) (hv : fval σ ci k r = tv v) (kk : Wp M d (pc + 3) lv (v :: st) σ P) : Wp M d pc lv (.inr r :: st) σ P := by
  obtain ⟨q, ref, hc, hkN, hw, hs⟩ := hf
  refine Wp.go (fun p l e R s m args below meth c K H locs cells slots ls Z C hR hB hL hl kk => ?_) kk
  obtain ⟨a, rfl⟩ := hR.pos ht
  obtain ⟨-, cell, g1, g2, g3, g4⟩ := hR.2.2.1 a ci q ht hc
  obtain ⟨hS, hfc, kC, hkC, hkind⟩ := C.2.2.2.2.2.1.1.1 ci q hc
  obtain ⟨cf, kf, fi, f, hi, hsl⟩ := hS k hkN
  refine W.getf C.1 C.2.1 C.2.2.2.1 (C.w hw) (FS.same (own := "") (idx := 0) (ci := 0) (fun w h => C.w h) hs _ hi) (u_facts hfc hkC (u_lays (fun w h => C.w h) (cls_in hc) hkN) hi).1 g1 (by rw [g3]; exact fun h => by cases h) (v := tv v) ?_ rfl rfl hd kk
  rw [hsl]
  show cell.slots[kI K ci k]? = _
  rw [g4 k hkN]
  exact congrArg some hv
theorem p_getI {idx ci k r : Nat} (hd : decode M.2.1 pc = .ok (.getfield idx, 3)) (hf : FS M.1.cls idx ci k) (hk : isR ci k = false) (ht : tg σ r = ci + 1) (kk : Wp M d (pc + 3) lv (.inl (fi σ (64 * ci + k) r) :: st) σ P) : Wp M d pc lv (.inr r :: st) σ P :=
  getf_go (v := .inl (fi σ (64 * ci + k) r)) hd hf ht (fval_int hk) kk
theorem p_getR {idx ci k r : Nat} (hd : decode M.2.1 pc = .ok (.getfield idx, 3)) (hf : FS M.1.cls idx ci k) (hk : isR ci k = true) (ht : tg σ r = ci + 1) (kk : Wp M d (pc + 3) lv (.inr (fr σ (64 * ci + k) r) :: st) σ P) : Wp M d pc lv (.inr r :: st) σ P :=
  getf_go (v := .inr (fr σ (64 * ci + k) r)) hd hf ht (fval_ref hk) kk
def FinOk (M : MM) (ci k : Nat) : Prop := ∀ q : vw_C, cls[ci]? = some q → (q.2.1 k).2.2.2 = false ∨ ((q.2.1 k).2.2.2 = true ∧ M.1.name = "<init>" ∧ (q.2.1 k).1 = M.1.cls)
theorem putf_go {σ' : PS} {idx ci k r : Nat} {v : PV} (hd : decode M.2.1 pc = .ok (.putfield idx, 3)) (hf : FS M.1.cls idx ci k) (hfin : FinOk M ci k) (ht : tg σ r = ci + 1) (hn : narrow (fty ci k) (tv v) = tv v) (hfit : fits (fty ci k) (tv v) = true)
    (h1 : σ'.1 = σ.1) (h2 : al σ' = al σ) (h3 : ai σ' = ai σ) (h4 : ar σ' = ar σ) (hfv : ∀ ci' k' r' : Nat, k' < 40 → fval σ' ci' k' r' = if r' = r ∧ ci' = ci ∧ k' = k then tv v else fval σ ci' k' r')
    (kk : Wp M d (pc + 3) lv st σ' P) : Wp M d pc lv (v :: .inr r :: st) σ P := by
  obtain ⟨q, ref, hc, hkN, hw, hs⟩ := hf
  obtain ⟨v', σ'', hP, l1, l2, hW⟩ := kk
  have n1 : nx σ' = nx σ := by unfold nx; rw [h1]
  have s1 : sl σ' = sl σ := by unfold sl; rw [h1]
  rw [n1, s1] at hW
  refine ⟨v', σ'', hP, by rw [← n1]; exact l1, by rw [← s1]; exact l2, fun p l e R s m args below meth c K H locs cells slots ls Z C hR hB hL hcl hsl hl hk => ?_⟩
  obtain ⟨a, rfl⟩ := hR.pos ht
  obtain ⟨gb, cell, g1, g2, g3, g4⟩ := hR.2.2.1 a ci q ht hc
  have hap : ∀ x y, x < q.2.2 → y < q.2.2 → x ≠ y → kI K ci x ≠ kI K ci y := va_apart (own := "") (fun w h => C.w h) (cls_in hc) (fty ci) (cls_ty hc) (cls_nm hc) C.2.2.2.2.2.1.1 hc
  obtain ⟨hS, hfc, kC, hkC, hkind⟩ := C.2.2.2.2.2.1.1.1 ci q hc
  obtain ⟨cf, kf, fi, f, hi, hsl9⟩ := hS k hkN
  have hlay := C.w (cls_in hc _ (u_in_lay hkN))
  have hst := (u_facts hfc hkC (u_lays (fun w h => C.w h) (cls_in hc) hkN) hi).1
  have hsame := FS.same (own := "") (idx := 0) (ci := 0) (s := s) (args := args) (fun w h => C.w h) hs
  have fin : ∀ H' : Heap, H'[a]? = some (cell.setSlot f.slot (tv v)) → H'.size = H.size → (∀ q, q ≠ a → H'[q]? = H[q]?) → W p l e R s m args below meth c H' (locs ++ [⟨a, f.slot⟩]) cells slots Z (F0 m (pc + 3) ls (st.map tv)) := by
    intro H' e1 e2 e3
    rw [hsl9] at e1
    refine hW p l e R s m args below meth c K H' _ cells slots ls Z C (hR.put ht hc hkN hap g1 e1 e2 e3 h1 h2 h3 h4 hfv) (fun z hz => ?_) (fun z hz => ?_) hcl hsl hl hk
    · rw [e3 z (by omega)]; exact hB z hz
    · rcases List.mem_append.mp hz with h | h
      · exact hL z h
      · rw [List.mem_singleton.mp h]; exact gb
  rcases hfin q hc with hfn | ⟨hfn, hin, hdecl⟩
  · unfold u_lay at hlay
    rw [if_neg (by rw [hfn]; decide)] at hlay
    have h6 := u_store hfc hkC hkind hlay hi (cls_ty hc k hkN) hn hfit
    exact W.putK C.1 C.2.1 (f := f) ⟨C.2.2.2.1, C.w hw, ⟨_, _, _, hsame _ hi⟩, hst⟩ (by rw [g2]; exact h6) g1 g3 (by rw [hsl9]; exact k2_hasslot (g4 k hkN)) rfl rfl hd fin
  · unfold u_lay at hlay
    rw [if_pos hfn] at hlay
    have hcf : m.cls = cf := by
      obtain ⟨_, _, c', _, _, _, -, -, hf', -, -, -, hown2, -⟩ := Cond.laysFinal_spec hlay
      have e1 : c' = cf := by have := hi.symm.trans hf'; simp at this; exact this.1.symm
      rw [hdecl] at hown2
      rw [← e1]; exact Option.some.inj (C.2.2.2.1.symm.trans hown2)
    have h6 := u_fits hfc hkC hkind (Or.inr hlay) hi (cls_ty hc k hkN) hn hfit
    exact W.putFinK C.1 C.2.1 C.2.2.2.1 (C.w hw) (hsame _ hi) hst hcf (by rw [C.2.2.2.2.2.2.2.2]; exact hin) (by rw [g2]; exact h6) g1 g3 (by rw [hsl9]; exact k2_hasslot (g4 k hkN)) rfl rfl hd fin
theorem fid_inj {ci k ci' k' : Nat} (h : k < 40) (h' : k' < 40) : 64 * ci' + k' = 64 * ci + k ↔ ci' = ci ∧ k' = k := by omega
theorem FS.lt {own : String} {idx ci k : Nat} (h : FS own idx ci k) : k < 40 ∧ ci < 9 := by
  obtain ⟨q, ref, hc, hk, -⟩ := h
  exact ⟨Nat.lt_of_lt_of_le hk (cls_le hc).1, (cls_le hc).2⟩
theorem p_putI {idx ci k r : Nat} {x : Int32} (hd : decode M.2.1 pc = .ok (.putfield idx, 3)) (hf : FS M.1.cls idx ci k) (hk : isR ci k = false) (hfin : FinOk M ci k) (ht : tg σ r = ci + 1) (hn : narrow (fty ci k) (.int x) = .int x ∧ fits (fty ci k) (.int x) = true)
    (kk : Wp M d (pc + 3) lv st (pfi σ (64 * ci + k) r x) P) : Wp M d pc lv (.inl x :: .inr r :: st) σ P := by
  refine putf_go (v := .inl x) (σ' := pfi σ (64 * ci + k) r x) hd hf hfin ht hn.1 hn.2 rfl rfl rfl rfl (fun ci' k' r' hk' => ?_) kk
  unfold fval
  by_cases h : r' = r ∧ ci' = ci ∧ k' = k
  · obtain ⟨rfl, rfl, rfl⟩ := h
    simp [hk, pfi, fi, up2, tv]
  · rw [if_neg h]
    have e : up2 (fi σ) (64 * ci + k) r x (64 * ci' + k') r' = fi σ (64 * ci' + k') r' := by
      unfold up2
      rw [if_neg (fun z => h ⟨z.2, (fid_inj hf.lt.1 hk').mp z.1⟩)]
    show (if isR ci' k' = true then tv (.inr (fr σ (64 * ci' + k') r')) else Value.int (up2 (fi σ) (64 * ci + k) r x (64 * ci' + k') r')) = _
    rw [e]
theorem p_putR {idx ci k r x : Nat} (hd : decode M.2.1 pc = .ok (.putfield idx, 3)) (hf : FS M.1.cls idx ci k) (hk : isR ci k = true) (hfin : FinOk M ci k) (ht : tg σ r = ci + 1)
    (kk : Wp M d (pc + 3) lv st (pfr σ (64 * ci + k) r x) P) : Wp M d pc lv (.inr x :: .inr r :: st) σ P := by
  have hn : narrow (fty ci k) (tv (.inr x)) = tv (.inr x) ∧ fits (fty ci k) (tv (.inr x)) = true := by
    rcases fty_rf ci hf.lt.2 k hf.lt.1 hk with ⟨n, e⟩ | ⟨n, e⟩ <;> rw [e] <;> cases x <;> exact ⟨rfl, rfl⟩
  refine putf_go (v := .inr x) (σ' := pfr σ (64 * ci + k) r x) hd hf hfin ht hn.1 hn.2 rfl rfl rfl rfl (fun ci' k' r' hk' => ?_) kk
  unfold fval
  by_cases h : r' = r ∧ ci' = ci ∧ k' = k
  · obtain ⟨rfl, rfl, rfl⟩ := h
    simp [hk, pfr, fr, up2, tv]
  · rw [if_neg h]
    have e : up2 (fr σ) (64 * ci + k) r x (64 * ci' + k') r' = fr σ (64 * ci' + k') r' := by
      unfold up2
      rw [if_neg (fun z => h ⟨z.2, (fid_inj hf.lt.1 hk').mp z.1⟩)]
    show (if isR ci' k' = true then tv (.inr (up2 (fr σ) (64 * ci + k) r x (64 * ci' + k') r')) else Value.int (fi σ (64 * ci' + k') r')) = _
    rw [e]
end RowsB
