/-! rows with the fields' numbers written out; reading a heap that was written -/
section RowsF
variable {M : MM} {d pc : Nat} {lv : List (Nat × PV)} {st : List PV} {σ : PS} {P : Option PV → PS → Prop}
theorem p_gI (f : Nat) {idx ci k r : Nat} (hd : decode M.2.1 pc = .ok (.getfield idx, 3)) (hf : FS M.1.cls idx ci k) (hk : isR ci k = false) (hfe : 64 * ci + k = f) (ht : tg σ r = ci + 1) (kk : Wp M d (pc + 3) lv (.inl (fi σ f r) :: st) σ P) : Wp M d pc lv (.inr r :: st) σ P := by
  subst hfe; exact p_getI hd hf hk ht kk
theorem p_gR (f : Nat) {idx ci k r : Nat} (hd : decode M.2.1 pc = .ok (.getfield idx, 3)) (hf : FS M.1.cls idx ci k) (hk : isR ci k = true) (hfe : 64 * ci + k = f) (ht : tg σ r = ci + 1) (kk : Wp M d (pc + 3) lv (.inr (fr σ f r) :: st) σ P) : Wp M d pc lv (.inr r :: st) σ P := by
  subst hfe; exact p_getR hd hf hk ht kk
theorem p_pI (f : Nat) {idx ci k r : Nat} {x : Int32} (hd : decode M.2.1 pc = .ok (.putfield idx, 3)) (hf : FS M.1.cls idx ci k) (hk : isR ci k = false) (hfe : 64 * ci + k = f) (hfin : FinOk M ci k) (hty : fty ci k = .int) (ht : tg σ r = ci + 1) (kk : Wp M d (pc + 3) lv st (pfi σ f r x) P) : Wp M d pc lv (.inl x :: .inr r :: st) σ P := by
  subst hfe; exact p_putI hd hf hk hfin ht (by rw [hty]; exact ⟨rfl, rfl⟩) kk
theorem nar_z {x : Int32} (h : x = 0 ∨ x = 1) : narrow .boolean (.int x) = .int x ∧ fits .boolean (.int x) = true := by
  rcases h with rfl | rfl <;> exact ⟨by decide, by decide⟩
theorem p_pZ (f : Nat) {idx ci k r : Nat} {x : Int32} (hd : decode M.2.1 pc = .ok (.putfield idx, 3)) (hf : FS M.1.cls idx ci k) (hk : isR ci k = false) (hfe : 64 * ci + k = f) (hfin : FinOk M ci k) (hty : fty ci k = .boolean) (ht : tg σ r = ci + 1) (hx : x = 0 ∨ x = 1) (kk : Wp M d (pc + 3) lv st (pfi σ f r x) P) : Wp M d pc lv (.inl x :: .inr r :: st) σ P := by
  subst hfe; exact p_putI hd hf hk hfin ht (by rw [hty]; exact nar_z hx) kk
theorem p_pR (f : Nat) {idx ci k r x : Nat} (hd : decode M.2.1 pc = .ok (.putfield idx, 3)) (hf : FS M.1.cls idx ci k) (hk : isR ci k = true) (hfe : 64 * ci + k = f) (hfin : FinOk M ci k) (ht : tg σ r = ci + 1) (kk : Wp M d (pc + 3) lv st (pfr σ f r x) P) : Wp M d pc lv (.inr x :: .inr r :: st) σ P := by
  subst hfe; exact p_putR hd hf hk hfin ht kk
theorem Wp.le {v : Option PV} (h : Wp M d pc lv st σ P) : ∃ (v : Option PV) (σ' : PS), P v σ' ∧ nx σ ≤ nx σ' ∧ sl σ ≤ sl σ' := by
  obtain ⟨v, σ', h1, h2, h3, -⟩ := h
  exact ⟨v, σ', h1, h2, h3⟩
/-- as Wp.go, with the room that is left -/
theorem Wp.goR {pc' : Nat} {st' : List PV}
    (h : ∀ (p : Program) (l : Launch) (e : Env) (R : Room) (s : State) (m : MethodId) (args : Array Value) (below : List Frame) (meth : Method) (c : Code) (K : KX) (H : Heap) (locs : List Loc) (cells slots : Nat) (ls : Array Slot) (Z : State → Prop), Cx M d K p R s m args meth c → cells ≤ R.cells → slots ≤ R.slots → lv_has ls M.2.2.1 (lvs lv) →
      W p l e R s m args below meth c H locs cells slots Z (F0 m pc' ls (st'.map tv)) → W p l e R s m args below meth c H locs cells slots Z (F0 m pc ls (st.map tv)))
    (k : Wp M d pc' lv st' σ P) : Wp M d pc lv st σ P := by
  obtain ⟨v, σ', hP, h1, h2, hW⟩ := k
  exact ⟨v, σ', hP, h1, h2, fun p l e R s m args below meth c K H locs cells slots ls Z C hR hB hL hc hs hl hk => h p l e R s m args below meth c K H locs cells slots ls Z C (by omega) (by omega) hl (hW p l e R s m args below meth c K H locs cells slots ls Z C hR hB hL hc hs hl hk)⟩
theorem p_mmax {idx : Nat} {x y : Int32} (hd : decode M.2.1 pc = .ok (.invokestatic idx, 3)) (hl : Cond.methodLink M.1.cls idx m_Math_max.1 ∈ GT) (h8 : st.length ≤ 8) (hd1 : 1 ≤ d) (kk : Wp M d (pc + 3) lv (.inl (if x < y then y else x) :: st) σ P) : Wp M d pc lv (.inl y :: .inl x :: st) σ P :=
  Wp.goR (fun p l e R s m args below meth c K H locs cells slots ls Z C hc hs hlv k => by
    have c7 := C.2.2.2.2.2.2.1
    have c8 := C.2.2.2.2.2.2.2.1
    exact va_mmax C.1 C.2.1 (by rw [C.2.2.1]; exact hlv.1.symm) C.2.2.2.1 (C.w hl) (C.w t_Math_max) (C.w w_41) (C.w k_Math_max.1) (by omega) (by rw [cat_sum]; omega) hc hs hd k) kk
theorem p_mmin {idx : Nat} {x y : Int32} (hd : decode M.2.1 pc = .ok (.invokestatic idx, 3)) (hl : Cond.methodLink M.1.cls idx m_Math_min.1 ∈ GT) (h8 : st.length ≤ 8) (hd1 : 1 ≤ d) (kk : Wp M d (pc + 3) lv (.inl (if y < x then y else x) :: st) σ P) : Wp M d pc lv (.inl y :: .inl x :: st) σ P :=
  Wp.goR (fun p l e R s m args below meth c K H locs cells slots ls Z C hc hs hlv k => by
    have c7 := C.2.2.2.2.2.2.1
    have c8 := C.2.2.2.2.2.2.2.1
    exact va_mmin C.1 C.2.1 (by rw [C.2.2.1]; exact hlv.1.symm) C.2.2.2.1 (C.w hl) (C.w t_Math_min) (C.w w_41) (C.w k_Math_min.1) (by omega) (by rw [cat_sum]; omega) hc hs hd k) kk
theorem p_top {x y : Int32} (h : x = y) (kk : Wp M d pc lv (.inl y :: st) σ P) : Wp M d pc lv (.inl x :: st) σ P := h ▸ kk
theorem p_topr {x y : Nat} (h : x = y) (kk : Wp M d pc lv (.inr y :: st) σ P) : Wp M d pc lv (.inr x :: st) σ P := h ▸ kk
theorem p_gIv (f : Nat) {idx ci k r : Nat} {v : Int32} (hd : decode M.2.1 pc = .ok (.getfield idx, 3)) (hf : FS M.1.cls idx ci k) (hk : isR ci k = false) (hfe : 64 * ci + k = f) (ht : tg σ r = ci + 1) (hv : fi σ f r = v) (kk : Wp M d (pc + 3) lv (.inl v :: st) σ P) : Wp M d pc lv (.inr r :: st) σ P := by
  subst hv; exact p_gI f hd hf hk hfe ht kk
theorem p_gRv (f : Nat) {idx ci k r v : Nat} (hd : decode M.2.1 pc = .ok (.getfield idx, 3)) (hf : FS M.1.cls idx ci k) (hk : isR ci k = true) (hfe : 64 * ci + k = f) (ht : tg σ r = ci + 1) (hv : fr σ f r = v) (kk : Wp M d (pc + 3) lv (.inr v :: st) σ P) : Wp M d pc lv (.inr r :: st) σ P := by
  subst hv; exact p_gR f hd hf hk hfe ht kk
theorem p_st {x y : PS} (h : x = y) (kk : Wp M d pc lv st y P) : Wp M d pc lv st x P := h ▸ kk
end RowsF
/-! answers -/
theorem rv_v {P : Prop} (h : P) : RV none none ∧ P := ⟨Or.inl ⟨rfl, rfl⟩, h⟩
theorem rv_i {x : Int32} {P : Prop} (h : P) : RV (some .int) (some (.inl x)) ∧ P := ⟨Or.inr (Or.inl ⟨rfl, x, rfl⟩), h⟩
theorem rv_z {x : Int32} {P : Prop} (hx : x = 0 ∨ x = 1) (h : P) : RV (some .boolean) (some (.inl x)) ∧ P := ⟨Or.inr (Or.inr (Or.inl ⟨rfl, x, rfl, (nar_z hx).1⟩)), h⟩
theorem rv_o {n : String} {r : Nat} {P : Prop} (h : P) : RV (some (.object n)) (some (.inr r)) ∧ P := ⟨Or.inr (Or.inr (Or.inr ⟨Or.inl ⟨n, rfl⟩, r, rfl⟩)), h⟩
theorem rv_a {t : FieldType} {r : Nat} {P : Prop} (h : P) : RV (some (.array t)) (some (.inr r)) ∧ P := ⟨Or.inr (Or.inr (Or.inr ⟨Or.inr ⟨t, rfl⟩, r, rfl⟩)), h⟩
/-! what is read out of a heap that was written -/
section Reads
variable {σ : PS} {i j a b n ci ti : Nat} {v : Int32} {w : Nat}
theorem up2_self {α : Type} (f : Nat → Nat → α) (i a : Nat) (v : α) : up2 f i a v i a = v := by simp [up2]
theorem up2_ne {α : Type} (f : Nat → Nat → α) {i a j b : Nat} (v : α) (h : ¬ (j = i ∧ b = a)) : up2 f i a v j b = f j b := by simp [up2, h]
theorem fi_pfi : fi (pfi σ i a v) j b = if j = i ∧ b = a then v else fi σ j b := rfl
theorem fi_pfr : fi (pfr σ i a w) = fi σ := rfl
theorem fi_pai : fi (pai σ a i v) = fi σ := rfl
theorem fi_par : fi (par σ a i w) = fi σ := rfl
theorem fi_parr : fi (parr σ ti n) = fi σ := rfl
theorem fi_pcpy {x y : Nat} : fi (pcpy σ a i b j n) = fi σ := rfl
theorem fr_pfr : fr (pfr σ i a w) j b = if j = i ∧ b = a then w else fr σ j b := rfl
theorem fr_pfi : fr (pfi σ i a v) = fr σ := rfl
theorem fr_pai : fr (pai σ a i v) = fr σ := rfl
theorem fr_par : fr (par σ a i w) = fr σ := rfl
theorem fr_parr : fr (parr σ ti n) = fr σ := rfl
theorem fr_pcpy : fr (pcpy σ a i b j n) = fr σ := rfl
theorem tg_pfi : tg (pfi σ i a v) = tg σ := rfl
theorem tg_pfr : tg (pfr σ i a w) = tg σ := rfl
theorem tg_pai : tg (pai σ a i v) = tg σ := rfl
theorem tg_par : tg (par σ a i w) = tg σ := rfl
theorem tg_pcpy : tg (pcpy σ a i b j n) = tg σ := rfl
theorem tg_pnew : tg (pnew σ ci n) b = if b = nx σ then ci + 1 else tg σ b := rfl
theorem tg_parr : tg (parr σ ti n) b = if b = nx σ then 100 + ti else tg σ b := rfl
theorem al_pfi : al (pfi σ i a v) = al σ := rfl
theorem al_pfr : al (pfr σ i a w) = al σ := rfl
theorem al_pai : al (pai σ a i v) = al σ := rfl
theorem al_par : al (par σ a i w) = al σ := rfl
theorem al_pcpy : al (pcpy σ a i b j n) = al σ := rfl
theorem al_pnew : al (pnew σ ci n) = al σ := rfl
theorem al_parr : al (parr σ ti n) b = if b = nx σ then n else al σ b := rfl
theorem ai_pfi : ai (pfi σ i a v) = ai σ := rfl
theorem ai_pfr : ai (pfr σ i a w) = ai σ := rfl
theorem ai_pai : ai (pai σ a i v) b j = if b = a ∧ j = i then v else ai σ b j := rfl
theorem ai_par : ai (par σ a i w) = ai σ := rfl
theorem ai_pcpy : ai (pcpy σ a i b j n) = ai σ := rfl
theorem ai_pnew : ai (pnew σ ci n) = ai σ := rfl
theorem ai_parr : ai (parr σ ti n) b j = if b = nx σ then 0 else ai σ b j := rfl
theorem ar_pfi : ar (pfi σ i a v) = ar σ := rfl
theorem ar_pfr : ar (pfr σ i a w) = ar σ := rfl
theorem ar_pai : ar (pai σ a i v) = ar σ := rfl
theorem ar_par : ar (par σ a i w) b j = if b = a ∧ j = i then w else ar σ b j := rfl
theorem ar_pcpy {x y : Nat} : ar (pcpy σ a i b j n) x y = if x = b then va_cpy (ar σ a) (ar σ b) i j n y else ar σ x y := rfl
theorem ar_pnew : ar (pnew σ ci n) = ar σ := rfl
theorem ar_parr : ar (parr σ ti n) b j = if b = nx σ then 0 else ar σ b j := rfl
theorem nx_pfi : nx (pfi σ i a v) = nx σ := rfl
theorem nx_pfr : nx (pfr σ i a w) = nx σ := rfl
theorem nx_pai : nx (pai σ a i v) = nx σ := rfl
theorem nx_par : nx (par σ a i w) = nx σ := rfl
theorem nx_pcpy : nx (pcpy σ a i b j n) = nx σ := rfl
theorem nx_pnew : nx (pnew σ ci n) = nx σ + 1 := rfl
theorem nx_parr : nx (parr σ ti n) = nx σ + 1 := rfl
theorem sl_pfi : sl (pfi σ i a v) = sl σ := rfl
theorem sl_pfr : sl (pfr σ i a w) = sl σ := rfl
theorem sl_pai : sl (pai σ a i v) = sl σ := rfl
theorem sl_par : sl (par σ a i w) = sl σ := rfl
theorem sl_pcpy : sl (pcpy σ a i b j n) = sl σ := rfl
theorem sl_pnew : sl (pnew σ ci n) = sl σ + n := rfl
theorem sl_parr : sl (parr σ ti n) = sl σ + n := rfl
end Reads
