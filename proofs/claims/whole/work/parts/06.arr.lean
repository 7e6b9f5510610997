/-! new cells, arrays, statics, casts, copies -/
theorem fi_pnew {σ : PS} {ci N i r : Nat} : fi (pnew σ ci N) i r = if r = nx σ then 0 else fi σ i r := rfl
theorem fr_pnew {σ : PS} {ci N i r : Nat} : fr (pnew σ ci N) i r = if r = nx σ then 0 else fr σ i r := rfl
theorem cat_sum : ∀ st : List PV, ((st.map tv).map fun v => v.category).sum = st.length
  | [] => rfl
  | v :: t => by
    simp only [List.map_cons, List.sum_cons, List.length_cons, tv_cat]
    rw [cat_sum t]
    omega
section RowsC
variable {M : MM} {d pc : Nat} {lv : List (Nat × PV)} {st : List PV} {σ : PS} {P : Option PV → PS → Prop}
/-- the heap with one cell more -/
theorem RepH.grow {K : KX} {σ σ' : PS} {H H' : Heap} (hR : RepH K σ H) (e2 : H'.size = H.size + 1) (e3 : ∀ q : Nat, q < H.size → H'[q]? = H[q]?)
    (h1 : nx σ' = nx σ + 1) (ht : ∀ r, r ≠ nx σ → tg σ' r = tg σ r)
    (h2 : ∀ r, r ≠ nx σ → al σ' r = al σ r) (h3 : ∀ r j, r ≠ nx σ → ai σ' r j = ai σ r j) (h4 : ∀ r j, r ≠ nx σ → ar σ' r j = ar σ r j) (h5 : ∀ i r, r ≠ nx σ → fi σ' i r = fi σ i r) (h6 : ∀ i r, r ≠ nx σ → fr σ' i r = fr σ i r)
    (hnew : (∃ (ci : Nat) (q : vw_C), tg σ' (nx σ) = ci + 1 ∧ cls[ci]? = some q ∧ t_OB H.size (kC K ci) q.2.2 (kI K ci) H' (fun k => fval σ' ci k (H.size + 1))) ∨
      ∃ ti : Nat, ti < 6 ∧ tg σ' (nx σ) = 100 + ti ∧ H'[H.size]? = some (arrV (kA K ti) (al σ' (H.size + 1)) (fun j => aval σ' ti (H.size + 1) j))) : RepH K σ' H' := by
  obtain ⟨r1, r2, r3, r4, r5, r6, r7⟩ := hR
  have fv : ∀ ci k r, r ≠ nx σ → fval σ' ci k r = fval σ ci k r := fun ci k r h => by
    unfold fval
    rw [h5 _ r h, h6 _ r h]
  have av : ∀ ti r j, r ≠ nx σ → aval σ' ti r j = aval σ ti r j := fun ti r j h => by
    unfold aval
    rw [h3 r j h, h4 r j h]
  refine ⟨by omega, by omega, fun a ci q ha hq => ?_, fun a ti hti ha => ?_, fun r hr => ?_, fun r hr => ?_, ?_⟩
  · by_cases hn : a + 1 = nx σ
    · have haH : a = H.size := by omega
      subst haH
      refine ⟨r2, ?_⟩
      rcases hnew with ⟨cj, q', g1, g2, g3⟩ | ⟨ti, g0, g1, -⟩
      · rw [hn, g1] at ha
        have : cj = ci := by omega
        subst this
        cases g2.symm.trans hq
        exact g3
      · rw [hn, g1] at ha
        have := (cls_le hq).2
        omega
    · rw [ht _ hn] at ha
      obtain ⟨g1, g2⟩ := r3 a ci q ha hq
      refine ⟨g1, ?_⟩
      have hlt : a < H.size := by
        obtain ⟨cell, z, -⟩ := g2
        exact (Array.getElem?_eq_some_iff.mp z).1
      exact (g2.kept (e3 a hlt)).to (fun k _ => (fv ci k (a + 1) hn).symm)
  · by_cases hn : a + 1 = nx σ
    · have haH : a = H.size := by omega
      subst haH
      refine ⟨r2, ?_⟩
      rcases hnew with ⟨cj, q', g1, g2, g3⟩ | ⟨tj, g0, g1, g2⟩
      · rw [hn, g1] at ha
        have := (cls_le g2).2
        omega
      · rw [hn, g1] at ha
        have : tj = ti := by omega
        subst this
        exact g2
    · rw [ht _ hn] at ha
      obtain ⟨g1, g2⟩ := r4 a ti hti ha
      refine ⟨g1, ?_⟩
      have hlt : a < H.size := (Array.getElem?_eq_some_iff.mp g2).1
      rw [e3 a hlt, g2, h2 _ hn]
      congr 2
      funext j
      exact (av ti (a + 1) j hn).symm
  · by_cases hn : r = nx σ
    · exfalso
      subst hn
      rcases hnew with ⟨cj, q', g1, g2, g3⟩ | ⟨tj, g0, g1, g2⟩
      · rw [g1] at hr; have := (cls_le g2).2; omega
      · rw [g1] at hr; omega
    · rw [ht _ hn] at hr
      rw [h2 _ hn]
      exact r5 r hr
  · by_cases hn : r = nx σ
    · exfalso
      subst hn
      rcases hnew with ⟨cj, q', g1, g2, g3⟩ | ⟨tj, g0, g1, g2⟩
      · rw [g1] at hr; have := (cls_le g2).2; omega
      · rw [g1] at hr; omega
    · rw [ht _ hn] at hr
      rw [h2 _ hn]
      obtain ⟨g1, g2, g3⟩ := r6 r hr
      exact ⟨g1, g2, fun j hj => by rw [h3 _ _ hn]; exact g3 j hj⟩
  · rw [ht 0 (by omega), h2 0 (by omega)]; exact r7
/-- a step that makes one cell -/
theorem Wp.made {σ' : PS} {pc' : Nat} {st' : List PV} {n : Nat} (hn : nx σ' = nx σ + 1) (hs : sl σ' = sl σ + n)
    (h : ∀ (p : Program) (l : Launch) (e : Env) (R : Room) (s : State) (m : MethodId) (args : Array Value) (below : List Frame) (meth : Method) (c : Code) (K : KX) (H : Heap) (locs : List Loc) (cells slots : Nat) (ls : Array Slot) (Z : State → Prop), Cx M d K p R s m args meth c → RepH K σ H → cells + 1 ≤ R.cells → slots + n ≤ R.slots → lv_has ls M.2.2.1 (lvs lv) →
      (∀ H' : Heap, RepH K σ' H' → (∀ q : Nat, q < H.size → H'[q]? = H[q]?) → W p l e R s m args below meth c H' locs (cells + 1) (slots + n) Z (F0 m pc' ls (st'.map tv))) → W p l e R s m args below meth c H locs cells slots Z (F0 m pc ls (st.map tv)))
    (k : Wp M d pc' lv st' σ' P) : Wp M d pc lv st σ P := by
  obtain ⟨v, σ'', hP, h1, h2, hW⟩ := k
  refine ⟨v, σ'', hP, by omega, by omega, fun p l e R s m args below meth c K H locs cells slots ls Z C hR hB hL hc hs' hl hk => ?_⟩
  refine h p l e R s m args below meth c K H locs cells slots ls Z C hR (by omega) (by omega) hl (fun H' hR' hq => ?_)
  refine hW p l e R s m args below meth c K H' locs (cells + 1) (slots + n) ls Z C hR' (fun q hq' => ?_) hL (by omega) (by omega) hl ?_
  · rw [hq q (Nat.lt_of_lt_of_le hq' hR.2.1)]; exact hB q hq'
  · have e1 : cells + 1 + (nx σ'' - nx σ') = cells + (nx σ'' - nx σ) := by omega
    have e2 : slots + n + (sl σ'' - sl σ') = slots + (sl σ'' - sl σ) := by omega
    rw [e1, e2]
    exact hk
theorem p_new {idx ci N : Nat} {q : vw_C} (hd : decode M.2.1 pc = .ok (.new idx, 3)) (hc : cls[ci]? = some q) (hN : q.2.2 = N) (hw : Cond.classLink M.1.cls idx q.1 ∈ GT) (hi : Cond.instantiable q.1 N ∈ GT) (hini : Cond.initialized q.1 ∈ GT)
    (kk : Wp M d (pc + 3) lv (.inr (nx σ) :: st) (pnew σ ci N) P) : Wp M d pc lv st σ P := by
  refine Wp.made (σ' := pnew σ ci N) (n := N) rfl rfl (fun p l e R s m args below meth c K H locs cells slots ls Z C hR hcl hsl hl k => ?_) kk
  subst hN
  have hKn := C.2.2.2.2.2.1.1.1 ci q hc
  refine W.newcK C.1 C.2.1 C.2.2.2.1 (C.w hw) (C.w hi) (C.w hini) rfl hd hcl hsl hKn.2.1 rfl fun H1 kC hkC e1 z1 o1 => ?_
  have hx : nx σ = H.size + 1 := hR.1
  have key : RepH K (pnew σ ci q.2.2) H1 := by
    refine hR.grow z1 o1 rfl (fun r h => va_up_ne _ _ h) (fun _ _ => rfl) (fun _ _ _ => rfl) (fun _ _ _ => rfl) (fun i r h => by rw [fi_pnew, if_neg h]) (fun i r h => by rw [fr_pnew, if_neg h]) (Or.inl ⟨ci, q, va_up_self _ _ _, hc, ?_⟩)
    refine (u_born (fty ci) (fun w h => C.w h) (cls_in hc) hKn hkC e1 (cls_ty hc)).to (fun k hk => ?_)
    rw [fty_dv ci (cls_le hc).2 k (Nat.lt_of_lt_of_le hk (cls_le hc).1)]
    unfold fval
    rw [fi_pnew, fr_pnew, ← hx, if_pos rfl, if_pos rfl]
    rfl
  have := k H1 key o1
  simp only [List.map_cons] at this
  rw [hx] at this
  exact this
theorem tys_at {K : KX} {ti : Nat} (h : ti < 6) : (tys K)[ti]? = some (kA K ti, aty ti) := by
  rcases (by omega : ti = 0 ∨ ti = 1 ∨ ti = 2 ∨ ti = 3 ∨ ti = 4 ∨ ti = 5) with rfl | rfl | rfl | rfl | rfl | rfl <;> rfl
theorem p_newa {atype : ArrayType} {ti n : Nat} {x : Int32} (hd : decode M.2.1 pc = .ok (.newarray atype, 2)) (hti : ti < 2) (hty : newarray.typeOf atype = aty ti) (hw : Cond.arrayClass (aty ti) ∈ GT) (hx0 : ¬ x < 0) (hxn : x.toNatClampNeg = n) (hb : n ≤ 100000000)
    (kk : Wp M d (pc + 2) lv (.inr (nx σ) :: st) (parr σ ti n) P) : Wp M d pc lv (.inl x :: st) σ P := by
  refine Wp.made (σ' := parr σ ti n) (n := n) rfl rfl (fun p l e R s m args below meth c K H locs cells slots ls Z C hR hcl hsl hl k => ?_) kk
  have hK := (C.2.2.2.2.2.1.1.2 ti _ (tys_at (by omega))).2
  have hcb : componentBytes (newarray.typeOf atype) ≤ 4 := by
    rw [hty]; rcases (by omega : ti = 0 ∨ ti = 1) with rfl | rfl <;> decide
  refine va_newaK C.1 C.2.1 (by rw [hty]; exact C.w hw) rfl hd rfl hx0 hxn (Nat.le_trans (Nat.mul_le_mul_left n hcb) (by omega)) hcl hsl rfl fun H1 cA e1 z1 o1 hAr hNm => ?_
  have hx : nx σ = H.size + 1 := hR.1
  have hcA : cA = kA K ti := by
    rw [hty] at hNm
    rcases (by omega : ti = 0 ∨ ti = 1) with rfl | rfl
    · exact Option.some.inj (hNm.symm.trans hK)
    · exact Option.some.inj (hNm.symm.trans hK)
  subst hcA
  have key : RepH K (parr σ ti n) H1 := by
    refine hR.grow z1 o1 rfl (fun r h => va_up_ne _ _ h) (fun r h => va_up_ne _ _ h) (fun r j h => if_neg h) (fun r j h => if_neg h) (fun _ _ _ => rfl) (fun _ _ _ => rfl) (Or.inr ⟨ti, by omega, va_up_self _ _ _, ?_⟩)
    rw [e1, ← hx]
    have ea : al (parr σ ti n) (nx σ) = n := va_up_self _ _ _
    rw [ea]
    congr 2
    funext j
    rw [hty]
    unfold aval
    rw [if_pos hti]
    have ez : ai (parr σ ti n) (nx σ) j = 0 := if_pos rfl
    rw [ez]
    rcases (by omega : ti = 0 ∨ ti = 1) with rfl | rfl <;> rfl
  have := k H1 key o1
  simp only [List.map_cons] at this
  rw [hx] at this
  exact this
theorem p_newq {idx ti n : Nat} {C0 : String} {x : Int32} (hd : decode M.2.1 pc = .ok (.anewarray idx, 3)) (hti : 2 ≤ ti ∧ ti < 6) (hty : aty ti = .object C0) (hw : Cond.classLink M.1.cls idx C0 ∈ GT) (ho : Cond.arrayOver (.object C0) ∈ NT ∨ Cond.arrayOver (.object C0) ∈ GT) (hx0 : ¬ x < 0) (hxn : x.toNatClampNeg = n) (hb : n ≤ 100000000)
    (kk : Wp M d (pc + 3) lv (.inr (nx σ) :: st) (parr σ ti n) P) : Wp M d pc lv (.inl x :: st) σ P := by
  refine Wp.made (σ' := parr σ ti n) (n := n) rfl rfl (fun p l e R s m args below meth c K H locs cells slots ls Z C hR hcl hsl hl k => ?_) kk
  have hK := (C.2.2.2.2.2.1.1.2 ti _ (tys_at hti.2)).2
  have hov : (Cond.arrayOver (.object C0)).before args s = true := by
    rcases ho with h | h
    · exact va_AO.use (C.2.2.2.2.2.1.2.1 _ h)
    · exact C.w h
  subst hxn
  refine W.anew C.1 C.2.1 C.2.2.2.1 (C.w hw) hov rfl hd rfl hx0 (by omega) hcl hsl fun cA kA9 comp f1 f2 f3 f4 => ?_
  have hx : nx σ = H.size + 1 := hR.1
  have hcA : cA = kA K ti := by
    simp only [hty] at hK
    obtain ⟨_, _, _, _, _, g⟩ := hK
    exact Option.some.inj (f1.symm.trans g)
  subst hcA
  generalize hH1 : H.push ({ cls := kA K ti, slots := Array.replicate x.toNatClampNeg .null, vm := .none } : Cell) = H1
  have z1 : H1.size = H.size + 1 := by rw [← hH1, Array.size_push]
  have e1 : H1[H.size]? = some (arrV (kA K ti) x.toNatClampNeg (fun _ => .null)) := by rw [← hH1, Array.getElem?_push_size, ← arrV_new]
  have o1 : ∀ q : Nat, q < H.size → H1[q]? = H[q]? := fun q hq => by rw [← hH1, Array.getElem?_push, if_neg (Nat.ne_of_lt hq)]
  have key : RepH K (parr σ ti x.toNatClampNeg) H1 := by
    refine hR.grow z1 o1 rfl (fun r h => va_up_ne _ _ h) (fun r h => va_up_ne _ _ h) (fun r j h => if_neg h) (fun r j h => if_neg h) (fun _ _ _ => rfl) (fun _ _ _ => rfl) (Or.inr ⟨ti, hti.2, va_up_self _ _ _, ?_⟩)
    rw [e1, ← hx]
    have ea : al (parr σ ti x.toNatClampNeg) (nx σ) = x.toNatClampNeg := va_up_self _ _ _
    rw [ea]
    congr 2
    funext j
    unfold aval
    rw [if_neg (by omega)]
    have ez : ar (parr σ ti x.toNatClampNeg) (nx σ) j = 0 := if_pos rfl
    rw [ez]
    rfl
  have := k H1 key o1
  simp only [List.map_cons] at this
  rw [hx] at this
  exact this
theorem RepH.posA {K : KX} {H : Heap} (hR : RepH K σ H) {r n : Nat} (h : tg σ r = 100 + n) : ∃ a, r = a + 1 := hR.pos (n := 99 + n) (by omega)
theorem p_alen {ti r : Nat} (hd : decode M.2.1 pc = .ok (.arraylength, 1)) (hti : ti < 6) (ht : tg σ r = 100 + ti) (kk : Wp M d (pc + 1) lv (.inl (nI (al σ r)) :: st) σ P) : Wp M d pc lv (.inr r :: st) σ P := by
  refine Wp.go (fun p l e R s m args below meth c K H locs cells slots ls Z C hR hB hL hl k => ?_) kk
  obtain ⟨a, rfl⟩ := hR.posA ht
  obtain ⟨g1, g2⟩ := hR.2.2.2.1 a ti hti ht
  exact W.alen (n := Int32.ofNat (al σ (a + 1))) C.1 C.2.1 g2 ((C.2.2.2.2.2.1.1.2 ti _ (tys_at hti)).1 _ _) (by rw [arrV_size] <;> rfl) rfl rfl hd k
theorem p_alenZ {r : Nat} (hd : decode M.2.1 pc = .ok (.arraylength, 1)) (ht : tg σ r = 99) (kk : Wp M d (pc + 1) lv (.inl 0 :: st) σ P) : Wp M d pc lv (.inr r :: st) σ P := by
  refine Wp.go (fun p l e R s m args below meth c K H locs cells slots ls Z C hR hB hL hl k => ?_) kk
  obtain ⟨rfl, -⟩ := hR.2.2.2.2.1 r ht
  obtain ⟨cell, g1, g2, g3, g4, g5, g6, g7⟩ := C.2.2.2.2.2.1.2.2.2.1
  exact W.alen (n := 0) C.1 C.2.1 (by rw [hB _ (Nat.not_le.mp g7)]; exact g1) g2 g5 rfl rfl hd k
theorem p_alenX {r : Nat} (hd : decode M.2.1 pc = .ok (.arraylength, 1)) (ht : tg σ r = 98) (kk : Wp M d (pc + 1) lv (.inl (nI (al σ r)) :: st) σ P) : Wp M d pc lv (.inr r :: st) σ P := by
  refine Wp.go (fun p l e R s m args below meth c K H locs cells slots ls Z C hR hB hL hl k => ?_) kk
  obtain ⟨rfl, h2, -⟩ := hR.2.2.2.2.2.1 r ht
  obtain ⟨⟨scr, g1, g2, g3, g4, g5⟩, g6⟩ := C.2.2.2.2.2.1.2.2.2.2.2
  exact W.alen (n := Int32.ofNat (al σ (kx K + 1))) C.1 C.2.1 (by rw [hB _ g6]; exact g1) g2 (by rw [g4, h2] <;> rfl) rfl rfl hd k
theorem p_ialdX {r : Nat} {j : Int32} {n : Nat} (hd : decode M.2.1 pc = .ok (.iaload, 1)) (ht : tg σ r = 98) (hj : j = nI n) (hn : n < al σ r) (hm : al σ r < 2 ^ 31) (kk : Wp M d (pc + 1) lv (.inl (ai σ r n) :: st) σ P) : Wp M d pc lv (.inl j :: .inr r :: st) σ P := by
  refine Wp.go (fun p l e R s m args below meth c K H locs cells slots ls Z C hR hB hL hl k => ?_) kk
  obtain ⟨rfl, h2, h3⟩ := hR.2.2.2.2.2.1 r ht
  obtain ⟨⟨scr, g1, g2, g3, g4, g5⟩, g6⟩ := C.2.2.2.2.2.1.2.2.2.2.2
  subst hj
  have hcl : (nI n).toNatClampNeg = n := nI_clamp (by omega)
  exact W.iald (v := .int (ai σ (kx K + 1) n)) C.1 C.2.1 (by rw [hB _ g6]; exact g1) g2 g3 (by rw [g4, ← h2]; exact nI_in hn hm) (by rw [hcl, h3 n (by omega)]; exact g5 n (by omega)) rfl rfl hd k
theorem nI_in2 {n N : Nat} (h : n < N) (hb : n < 2 ^ 31) : ¬ (nI n < 0 ∨ N ≤ (nI n).toNatClampNeg) := by
  rintro (h1 | h1)
  · exact nI_pos hb h1
  · rw [nI_clamp hb] at h1; omega
theorem p_iald {r : Nat} {j : Int32} {n : Nat} (hd : decode M.2.1 pc = .ok (.iaload, 1)) (ht : tg σ r = 100) (hj : j = nI n) (hn : n < al σ r) (hb : n < 2 ^ 31) (kk : Wp M d (pc + 1) lv (.inl (ai σ r n) :: st) σ P) : Wp M d pc lv (.inl j :: .inr r :: st) σ P := by
  refine Wp.go (fun p l e R s m args below meth c K H locs cells slots ls Z C hR hB hL hl k => ?_) kk
  obtain ⟨a, rfl⟩ := hR.posA (n := 0) ht
  obtain ⟨g1, g2⟩ := hR.2.2.2.1 a 0 (by omega) ht
  subst hj
  exact W.iald (v := .int (ai σ (a + 1) n)) C.1 C.2.1 g2 ((C.2.2.2.2.2.1.1.2 0 _ (tys_at (by omega))).1 _ _) (fun q => by cases q) (by rw [arrV_size]; exact nI_in2 hn hb) (by rw [nI_clamp hb, arrV_read _ _ hn]; rfl) rfl rfl hd k
theorem p_zald {r : Nat} {j : Int32} {n : Nat} (hd : decode M.2.1 pc = .ok (.baload, 1)) (ht : tg σ r = 101) (hj : j = nI n) (hn : n < al σ r) (hb : n < 2 ^ 31) (kk : Wp M d (pc + 1) lv (.inl (ai σ r n) :: st) σ P) : Wp M d pc lv (.inl j :: .inr r :: st) σ P := by
  refine Wp.go (fun p l e R s m args below meth c K H locs cells slots ls Z C hR hB hL hl k => ?_) kk
  obtain ⟨a, rfl⟩ := hR.posA (n := 1) ht
  obtain ⟨g1, g2⟩ := hR.2.2.2.1 a 1 (by omega) ht
  subst hj
  exact W.zald (v := .int (ai σ (a + 1) n)) C.1 C.2.1 g2 ((C.2.2.2.2.2.1.1.2 1 _ (tys_at (by omega))).1 _ _) (fun q => by cases q) (by rw [arrV_size]; exact nI_in2 hn hb) (by rw [nI_clamp hb, arrV_read _ _ hn]; rfl) rfl rfl hd k
theorem aty_ref {ti : Nat} (h : 2 ≤ ti) : (aty ti).isReference = true := by
  match ti, h with
  | 2, _ => rfl
  | 3, _ => rfl
  | 4, _ => rfl
  | n + 5, _ => rfl
theorem p_aald {ti r : Nat} {j : Int32} {n : Nat} (hd : decode M.2.1 pc = .ok (.aaload, 1)) (hti : 2 ≤ ti ∧ ti < 6) (ht : tg σ r = 100 + ti) (hj : j = nI n) (hn : n < al σ r) (hb : n < 2 ^ 31) (kk : Wp M d (pc + 1) lv (.inr (ar σ r n) :: st) σ P) : Wp M d pc lv (.inl j :: .inr r :: st) σ P := by
  refine Wp.go (fun p l e R s m args below meth c K H locs cells slots ls Z C hR hB hL hl k => ?_) kk
  obtain ⟨a, rfl⟩ := hR.posA ht
  obtain ⟨g1, g2⟩ := hR.2.2.2.1 a ti hti.2 ht
  subst hj
  exact W.aald (v := tv (.inr (ar σ (a + 1) n))) (ty := aty ti) C.1 C.2.1 g2 ((C.2.2.2.2.2.1.1.2 ti _ (tys_at hti.2)).1 _ _) (aty_ref hti.1) (fun q => by cases q) (by rw [arrV_size]; exact nI_in2 hn hb) (by rw [nI_clamp hb, arrV_read _ _ hn]; unfold aval; rw [if_neg (by omega)]) rfl rfl hd k
/-- the heap behind a store into an array -/
theorem RepH.sto {K : KX} {σ' : PS} {H H' : Heap} {a ti : Nat} (hR : RepH K σ H) (hti : ti < 6) (ht : tg σ (a + 1) = 100 + ti) {f : Nat → Value} (e1 : H'[a]? = some (arrV (kA K ti) (al σ (a + 1)) f)) (e2 : H'.size = H.size) (e3 : ∀ q, q ≠ a → H'[q]? = H[q]?)
    (h1 : σ'.1 = σ.1) (h2 : al σ' = al σ) (h5 : fi σ' = fi σ) (h6 : fr σ' = fr σ) (hf : ∀ j, j < al σ (a + 1) → f j = aval σ' ti (a + 1) j) (h3 : ∀ r j, r ≠ a + 1 → ai σ' r j = ai σ r j) (h4 : ∀ r j, r ≠ a + 1 → ar σ' r j = ar σ r j) : RepH K σ' H' := by
  obtain ⟨r1, r2, r3, r4, r5, r6, r7⟩ := hR
  have n1 : nx σ' = nx σ := by unfold nx; rw [h1]
  have t1 : tg σ' = tg σ := by unfold tg; rw [h1]
  refine ⟨by rw [n1, e2]; exact r1, by rw [e2]; exact r2, fun b ci q hb hq => ?_, fun b tj htj hb => ?_, fun r hr => ?_, fun r hr => ?_, by rw [t1, h2]; exact r7⟩
  · rw [t1] at hb
    obtain ⟨g1, g2⟩ := r3 b ci q hb hq
    have hba : b ≠ a := by
      rintro rfl
      have := (cls_le hq).2
      omega
    refine ⟨g1, (g2.kept (e3 b hba)).to (fun k _ => ?_)⟩
    unfold fval
    rw [h5, h6]
  · rw [t1] at hb
    obtain ⟨g1, g2⟩ := r4 b tj htj hb
    refine ⟨g1, ?_⟩
    by_cases hba : b = a
    · subst hba
      have : tj = ti := by omega
      subst this
      rw [e1, h2]
      congr 1
      unfold arrV
      congr 1
      apply Array.ext
      · simp
      · intro i hi1 hi2
        simp at hi1
        simp [hf i hi1]
    · rw [e3 b hba, g2, h2]
      congr 2
      funext j
      unfold aval
      rw [h3 _ _ (by omega), h4 _ _ (by omega)]
  · rw [t1] at hr
    rw [h2]
    exact r5 r hr
  · rw [t1] at hr
    rw [h2]
    obtain ⟨g1, g2, g3⟩ := r6 r hr
    exact ⟨g1, g2, fun j hj => by rw [h3 _ _ (by rintro rfl; omega)]; exact g3 j hj⟩
/-- a step that writes into one cell -/
theorem Wp.wrote {σ' : PS} {pc' : Nat} {st' : List PV} (hs : σ'.1 = σ.1)
    (h : ∀ (p : Program) (l : Launch) (e : Env) (R : Room) (s : State) (m : MethodId) (args : Array Value) (below : List Frame) (meth : Method) (c : Code) (K : KX) (H : Heap) (locs : List Loc) (cells slots : Nat) (ls : Array Slot) (Z : State → Prop), Cx M d K p R s m args meth c → RepH K σ H → (∀ q : Nat, q < kb K → H[q]? = s.heap[q]?) → lv_has ls M.2.2.1 (lvs lv) → (∀ q ∈ locs, kb K ≤ q.base) →
      (∀ (H' : Heap) (locs' : List Loc), RepH K σ' H' → (∀ q : Nat, q < kb K → H'[q]? = H[q]?) → (∀ q ∈ locs', kb K ≤ q.base) → W p l e R s m args below meth c H' locs' cells slots Z (F0 m pc' ls (st'.map tv))) → W p l e R s m args below meth c H locs cells slots Z (F0 m pc ls (st.map tv)))
    (k : Wp M d pc' lv st' σ' P) : Wp M d pc lv st σ P := by
  obtain ⟨v, σ'', hP, h1, h2, hW⟩ := k
  have n1 : nx σ' = nx σ := by unfold nx; rw [hs]
  have s1 : sl σ' = sl σ := by unfold sl; rw [hs]
  rw [n1, s1] at hW
  refine ⟨v, σ'', hP, by omega, by omega, fun p l e R s m args below meth c K H locs cells slots ls Z C hR hB hL hc hs' hl hk => ?_⟩
  exact h p l e R s m args below meth c K H locs cells slots ls Z C hR hB hl hL (fun H' locs' hR' hq hL' => hW p l e R s m args below meth c K H' locs' cells slots ls Z C hR' (fun q hq' => (hq q hq').trans (hB q hq')) hL' hc hs' hl hk)
theorem p_iast {r : Nat} {j x : Int32} {n : Nat} (hd : decode M.2.1 pc = .ok (.iastore, 1)) (ht : tg σ r = 100) (hj : j = nI n) (hn : n < al σ r) (hb : n < 2 ^ 31) (kk : Wp M d (pc + 1) lv st (pai σ r n x) P) : Wp M d pc lv (.inl x :: .inl j :: .inr r :: st) σ P := by
  refine Wp.wrote (σ' := pai σ r n x) rfl (fun p l e R s m args below meth c K H locs cells slots ls Z C hR hB hl hL k => ?_) kk
  obtain ⟨a, rfl⟩ := hR.posA (n := 0) ht
  obtain ⟨g1, g2⟩ := hR.2.2.2.1 a 0 (by omega) ht
  subst hj
  refine W.iast C.1 C.2.1 g2 ((C.2.2.2.2.2.1.1.2 0 _ (tys_at (by omega))).1 _ _) (fun q => by cases q) (by rw [arrV_size]; exact nI_in2 hn hb) rfl rfl hd fun H1 e z oq => ?_
  rw [nI_clamp hb, arrV_store] at e
  refine k H1 _ (hR.sto (ti := 0) (by omega) ht e z oq rfl rfl rfl rfl (fun i hi => ?_) (fun r' j' h' => ?_) (fun _ _ _ => rfl)) (fun q hq => oq q (Nat.ne_of_lt (Nat.lt_of_lt_of_le hq g1))) (fun q hq => ?_)
  · unfold updV aval
    by_cases h : i = n
    · subst h; simp [pai, ai, up2]
    · simp [pai, ai, up2, h]
  · simp [pai, ai, up2, h']
  · rcases List.mem_append.mp hq with h | h
    · exact hL q h
    · rw [List.mem_singleton.mp h]; exact g1
theorem p_zast {r : Nat} {j x : Int32} {n : Nat} (hd : decode M.2.1 pc = .ok (.bastore, 1)) (ht : tg σ r = 101) (hj : j = nI n) (hn : n < al σ r) (hb : n < 2 ^ 31) (hx : narrow .boolean (.int x) = .int x) (kk : Wp M d (pc + 1) lv st (pai σ r n x) P) : Wp M d pc lv (.inl x :: .inl j :: .inr r :: st) σ P := by
  refine Wp.wrote (σ' := pai σ r n x) rfl (fun p l e R s m args below meth c K H locs cells slots ls Z C hR hB hl hL k => ?_) kk
  obtain ⟨a, rfl⟩ := hR.posA (n := 1) ht
  obtain ⟨g1, g2⟩ := hR.2.2.2.1 a 1 (by omega) ht
  subst hj
  refine W.zast C.1 C.2.1 g2 ((C.2.2.2.2.2.1.1.2 1 _ (tys_at (by omega))).1 _ _) (fun q => by cases q) (by rw [arrV_size]; exact nI_in2 hn hb) rfl rfl hd fun H1 e z oq => ?_
  rw [nI_clamp hb, hx, arrV_store] at e
  refine k H1 _ (hR.sto (ti := 1) (by omega) ht e z oq rfl rfl rfl rfl (fun i hi => ?_) (fun r' j' h' => ?_) (fun _ _ _ => rfl)) (fun q hq => oq q (Nat.ne_of_lt (Nat.lt_of_lt_of_le hq g1))) (fun q hq => ?_)
  · unfold updV aval
    by_cases h : i = n
    · subst h; simp [pai, ai, up2]
    · simp [pai, ai, up2, h]
  · simp [pai, ai, up2, h']
  · rcases List.mem_append.mp hq with h | h
    · exact hL q h
    · rw [List.mem_singleton.mp h]; exact g1
/-- an object of class ci may lie where C0 is asked for -/
def CastOk (ci : Nat) (C0 : String) : Prop := ∃ q : vw_C, cls[ci]? = some q ∧ (q.1 = C0 ∨ Cond.castable q.1 C0 ∈ NT ∨ Cond.castable q.1 C0 ∈ GT)
theorem CastOk.asg {K : KX} {p : Program} {R : Room} {s : State} {m : MethodId} {args : Array Value} {meth : Method} {c : Code} (C : Cx M d K p R s m args meth c) {ci : Nat} {C0 : String} (h : CastOk ci C0) {comp : ClassId} (hc : s.vm.findClass C0 = some comp) : s.vm.assignable (kC K ci) comp = true := by
  obtain ⟨q, hq, h⟩ := h
  have hcl := (C.2.2.2.2.2.1.1.1 ci q hq).2
  have two : (Cond.castable q.1 C0).before args s = true → s.vm.assignable (kC K ci) comp = true := by
    intro h1
    obtain ⟨c0, t0, f1, f2, f3⟩ := Cond.castable_spec h1
    cases hc.symm.trans f2
    cases hcl.1.symm.trans f1
    exact f3
  rcases h with h | h | h
  · subst h
    cases hcl.1.symm.trans hc
    exact va_assign hcl
  · exact two (va_Nw.use rfl (C.2.2.2.2.2.1.2.1 _ h))
  · exact two (C.w h)
theorem RepH.cell {K : KX} {H : Heap} (hR : RepH K σ H) {p : Program} {R : Room} {s : State} {m : MethodId} {args : Array Value} {meth : Method} {c : Code} (C : Cx M d K p R s m args meth c) {a ci : Nat} {q : vw_C} (hq : cls[ci]? = some q) (ht : tg σ (a + 1) = ci + 1) : ∃ cell : Cell, H[a]? = some cell ∧ cell.vm.isStatics = false ∧ cell.cls = kC K ci ∧ s.vm.findClass q.1 = some cell.cls ∧ ∃ k : Class, s.vm.classes[cell.cls]? = some k := by
  obtain ⟨gb, cell, g1, g2, g3, g4⟩ := hR.2.2.1 a ci q ht hq
  obtain ⟨h1, k, h2, h3⟩ := (C.2.2.2.2.2.1.1.1 ci q hq).2
  exact ⟨cell, g1, by rw [g3]; rfl, g2, by rw [g2]; exact h1, k, by rw [g2]; exact h2⟩
theorem p_aast {ti r x ci : Nat} {C0 : String} {j : Int32} {n : Nat} (hd : decode M.2.1 pc = .ok (.aastore, 1)) (hti : 2 ≤ ti ∧ ti < 6) (hty : aty ti = .object C0) (ht : tg σ r = 100 + ti) (hx : tg σ x = ci + 1) (hca : CastOk ci C0) (hj : j = nI n) (hn : n < al σ r) (hb : n < 2 ^ 31) (kk : Wp M d (pc + 1) lv st (par σ r n x) P) : Wp M d pc lv (.inr x :: .inl j :: .inr r :: st) σ P := by
  refine Wp.wrote (σ' := par σ r n x) rfl (fun p l e R s m args below meth c K H locs cells slots ls Z C hR hB hl hL k => ?_) kk
  obtain ⟨a, rfl⟩ := hR.posA ht
  obtain ⟨b, rfl⟩ := hR.pos hx
  obtain ⟨g1, g2⟩ := hR.2.2.2.1 a ti hti.2 ht
  subst hj
  obtain ⟨q, hq, -⟩ := id hca
  obtain ⟨cv, c1, c2, c3, c4, kv, c5⟩ := hR.cell C hq hx
  have hRA := (C.2.2.2.2.2.1.1.2 ti _ (tys_at hti.2)).2
  simp only [hty] at hRA
  obtain ⟨kA9, comp, k1, k2, k3, -⟩ := hRA
  obtain ⟨kE, hkE, -⟩ := Vm.findClass_spec k3
  refine W.aast C.1 C.2.1 g2 (fun q h => by cases h) (fun h => by cases h) k1 k2 rfl hkE ⟨nI_pos hb, by rw [arrV_size, nI_clamp hb]; exact hn⟩ c1 (fun q h => by rw [h] at c2; cases c2) c5 (by rw [c3]; exact hca.asg C k3) rfl rfl hd fun H1 e z oq => ?_
  rw [nI_clamp hb, arrV_store] at e
  refine k H1 _ (hR.sto (ti := ti) hti.2 ht e z oq rfl rfl rfl rfl (fun i hi => ?_) (fun _ _ _ => rfl) (fun r' j' h' => ?_)) (fun q hq => oq q (Nat.ne_of_lt (Nat.lt_of_lt_of_le hq g1))) (fun q hq => ?_)
  · have h2 : ¬ ti < 2 := by omega
    by_cases h : i = n
    · subst h; simp [updV, aval, h2, par, ar, up2, tv]
    · simp [updV, aval, h2, par, ar, up2, h]
  · simp [par, ar, up2, h']
  · rcases List.mem_append.mp hq with h | h
    · exact hL q h
    · rw [List.mem_singleton.mp h]; exact g1
theorem p_aastN {ti r : Nat} {C0 : String} {j : Int32} {n : Nat} (hd : decode M.2.1 pc = .ok (.aastore, 1)) (hti : 2 ≤ ti ∧ ti < 6) (hty : aty ti = .object C0) (ht : tg σ r = 100 + ti) (hj : j = nI n) (hn : n < al σ r) (hb : n < 2 ^ 31) (kk : Wp M d (pc + 1) lv st (par σ r n 0) P) : Wp M d pc lv (.inr 0 :: .inl j :: .inr r :: st) σ P := by
  refine Wp.wrote (σ' := par σ r n 0) rfl (fun p l e R s m args below meth c K H locs cells slots ls Z C hR hB hl hL k => ?_) kk
  obtain ⟨a, rfl⟩ := hR.posA ht
  obtain ⟨g1, g2⟩ := hR.2.2.2.1 a ti hti.2 ht
  subst hj
  have hAr := (C.2.2.2.2.2.1.1.2 ti _ (tys_at hti.2)).1
  simp only [hty] at hAr
  refine va_WaastN (C := C0) C.1 C.2.1 g2 (hAr _ _) (fun h => by cases h) (by rw [arrV_size]; exact nI_in2 hn hb) rfl rfl hd fun H1 e z oq => ?_
  rw [nI_clamp hb, arrV_store] at e
  refine k H1 _ (hR.sto (ti := ti) hti.2 ht e z oq rfl rfl rfl rfl (fun i hi => ?_) (fun _ _ _ => rfl) (fun r' j' h' => ?_)) (fun q hq => oq q (Nat.ne_of_lt (Nat.lt_of_lt_of_le hq g1))) (fun q hq => ?_)
  · have h2 : ¬ ti < 2 := by omega
    by_cases h : i = n
    · subst h; simp [updV, aval, h2, par, ar, up2, tv]
    · simp [updV, aval, h2, par, ar, up2, h]
  · simp [par, ar, up2, h']
  · rcases List.mem_append.mp hq with h | h
    · exact hL q h
    · rw [List.mem_singleton.mp h]; exact g1
theorem p_gets {idx : Nat} {z : Nat} (hd : decode M.2.1 pc = .ok (.getstatic idx, 3)) (hw : Cond.fieldLink M.1.cls idx "java/util/ArrayList" "DEFAULTCAPACITY_EMPTY_ELEMENTDATA" "[Ljava/lang/Object;" ∈ GT) (hz : tg σ z = 99) (kk : Wp M d (pc + 3) lv (.inr z :: st) σ P) : Wp M d pc lv st σ P := by
  refine Wp.go (fun p l e R s m args below meth c K H locs cells slots ls Z C hR hB hL hl k => ?_) kk
  obtain ⟨rfl, -⟩ := hR.2.2.2.2.1 z hz
  obtain ⟨cf, kf, fi, f, a, cell, h1, h2, h3, h4, h5, h6, h7, h8⟩ := C.2.2.2.2.2.1.2.2.1
  exact W.gets C.1 C.2.1 C.2.2.2.1 (C.w hw) h1 h2 h3 h4 (by rw [hB a (Nat.not_le.mp h8)]; exact h5) (fun e => by rw [e] at h6; cases h6) h7 rfl hd k
theorem p_cast {idx ci r : Nat} {C0 : String} (hd : decode M.2.1 pc = .ok (.checkcast idx, 3)) (hw : Cond.classLink M.1.cls idx C0 ∈ GT) (hca : CastOk ci C0) (ht : tg σ r = ci + 1) (hC0 : ∃ (cj : Nat) (q : vw_C), cls[cj]? = some q ∧ q.1 = C0) (kk : Wp M d (pc + 3) lv (.inr r :: st) σ P) : Wp M d pc lv (.inr r :: st) σ P := by
  refine Wp.go (fun p l e R s m args below meth c K H locs cells slots ls Z C hR hB hL hl k => ?_) kk
  obtain ⟨a, rfl⟩ := hR.pos ht
  obtain ⟨q, hq, -⟩ := id hca
  obtain ⟨cell, c1, c2, c3, c4, kv, c5⟩ := hR.cell C hq ht
  obtain ⟨cj, q', hq', rfl⟩ := hC0
  have hcj := (C.2.2.2.2.2.1.1.1 cj q' hq').2.1
  intro T hT X
  obtain ⟨vm', X', stp⟩ := X.checkcastYes C.1 C.2.2.2.1 (C.w hw) (by rw [hT]; exact c1) c2 hcj (by rw [c3]; exact hca.asg C hcj) (g := F0 m pc ls (.ref a :: st.map tv)) rfl rfl (by rw [C.2.1]; exact hd)
  obtain ⟨t, a1, b1⟩ := k (T.setVm vm') hT X'
  exact ⟨t, stp t a1, b1⟩
theorem p_ldcM {idx : Nat} (hd : decode M.2.1 pc = .ok (.ldc idx, 2)) (hw : Cond.classLink M.1.cls idx "[Ljava/lang/Object;" ∈ GT) (kk : Wp M d (pc + 2) lv (.inr (al σ 0) :: st) σ P) : Wp M d pc lv st σ P := by
  refine Wp.go (fun p l e R s m args below meth c K H locs cells slots ls Z C hR hB hL hl k => ?_) kk
  rw [hR.2.2.2.2.2.2.2] at k
  exact va_ldcM C.1 C.2.1 C.2.2.2.1 (C.w hw) C.2.2.2.2.2.1.2.2.2.2.1 hd k
def gcN : MethodName := ⟨"java/lang/Object", "getClass", "()Ljava/lang/Class;"⟩
theorem p_getC {idx r : Nat} (hd : decode M.2.1 pc = .ok (.invokevirtual idx, 3)) (hw : Cond.methodLink M.1.cls idx gcN ∈ GT) (h1 : Cond.declares gcN ∈ NT ∨ Cond.declares gcN ∈ GT) (h2 : Cond.selects "[Ljava/lang/Object;" gcN gcN ∈ GT) (h3 : Cond.instanceMethod gcN ∈ GT) (h4 : Cond.native gcN ∈ GT) (hst : st.length ≤ 8) (hd1 : 1 ≤ d) (ht : tg σ r = 102) (kk : Wp M d (pc + 3) lv (.inr (al σ 0) :: st) σ P) : Wp M d pc lv (.inr r :: st) σ P := by
  refine Wp.go (fun p l e R s m args below meth c K H locs cells slots ls Z C hR hB hL hl k => ?_) kk
  rw [hR.2.2.2.2.2.2.2] at k
  obtain ⟨a, rfl⟩ := hR.posA (n := 2) ht
  obtain ⟨g1, g2⟩ := hR.2.2.2.1 a 2 (by omega) ht
  have hRA := (C.2.2.2.2.2.1.1.2 2 _ (tys_at (by omega))).2
  have hdc : (Cond.declares gcN).before args s = true := by
    rcases h1 with h | h
    · exact va_Nw.use rfl (C.2.2.2.2.2.1.2.1 _ h)
    · exact C.w h
  exact va_getC C.1 C.2.1 (by rw [C.2.2.1]; exact hl.1.symm) C.2.2.2.1 (C.w hw) hdc (C.w h2) (C.w h3) (C.w h4) C.2.2.2.2.2.1.2.2.2.2.1 ⟨_, g2, rfl, va_nmO hRA rfl⟩ (Nat.le_trans hd1 C.2.2.2.2.2.2.1) (by rw [cat_sum]; have := C.2.2.2.2.2.2.2.1; omega) hd k
end RowsC
