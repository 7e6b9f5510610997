/-! copies of references, calls, a method out of its body -/
section RowsD
variable {M : MM} {d pc : Nat} {lv : List (Nat × PV)} {st : List PV} {σ : PS} {P : Option PV → PS → Prop}
theorem nn_int {z : Int32} (hz : ¬ z < 0) : z.toInt = (z.toNatClampNeg : Int) := by
  have hz0 : (0 : Int) ≤ z.toInt := by
    have := Int32.not_lt.mp hz
    simpa using Int32.le_iff_toInt_le.mp this
  show z.toInt = ((z.toInt.toNat : Nat) : Int)
  omega
theorem castO4 : CastOk 3 "java/lang/Object" := ⟨_, rfl, Or.inr (by first | exact Or.inl (nt_at 883 (by decide +kernel) (by decide +kernel)) | exact Or.inr (gt_at 883 (by decide +kernel) (by decide +kernel)))⟩
theorem castO6 : CastOk 5 "java/lang/Object" := ⟨_, rfl, Or.inr (by first | exact Or.inl (nt_at 884 (by decide +kernel) (by decide +kernel)) | exact Or.inr (gt_at 884 (by decide +kernel) (by decide +kernel)))⟩
theorem p_copy {idx r0 r sp dp n : Nat} {xs xd xn : Int32} (hd : decode M.2.1 pc = .ok (.invokestatic idx, 3)) (hw : Cond.methodLink M.1.cls idx arraycopyName ∈ GT) (hw1 : Cond.native arraycopyName ∈ GT) (hw2 : Cond.static arraycopyName ∈ GT) (hw3 : Cond.initialized "java/lang/System" ∈ GT)
    (t0 : tg σ r0 = 102) (t1 : tg σ r = 102) (e0 : xs = nI sp) (e1 : xd = nI dp) (e2 : xn = nI n) (b0 : sp < 2 ^ 30) (b1 : dp < 2 ^ 30) (b2 : n < 2 ^ 30) (h4 : sp + n ≤ al σ r0) (h5 : dp + n ≤ al σ r) (hel : ∀ i, i < n → ar σ r0 (sp + i) = 0 ∨ tg σ (ar σ r0 (sp + i)) = 4 ∨ tg σ (ar σ r0 (sp + i)) = 6) (hst : st.length ≤ 8) (hd1 : 1 ≤ d)
    (kk : Wp M d (pc + 3) lv st (pcpy σ r0 sp r dp n) P) : Wp M d pc lv (.inl xn :: .inl xd :: .inr r :: .inl xs :: .inr r0 :: st) σ P := by
  refine Wp.wrote (σ' := pcpy σ r0 sp r dp n) rfl (fun p l e R s m args below meth c K H locs cells slots ls Z C hR hB hl hL k => ?_) kk
  obtain ⟨a0, rfl⟩ := hR.posA (n := 2) t0
  obtain ⟨a, rfl⟩ := hR.posA (n := 2) t1
  obtain ⟨gb0, hc0⟩ := hR.2.2.2.1 a0 2 (by omega) t0
  obtain ⟨gb, hc1⟩ := hR.2.2.2.1 a 2 (by omega) t1
  subst e0; subst e1; subst e2
  have p0 : ¬ nI sp < 0 := nI_pos (by omega)
  have p1 : ¬ nI dp < 0 := nI_pos (by omega)
  have p2 : ¬ nI n < 0 := nI_pos (by omega)
  have q0 : (nI sp).toNatClampNeg = sp := nI_clamp (by omega)
  have q1 : (nI dp).toNatClampNeg = dp := nI_clamp (by omega)
  have q2 : (nI n).toNatClampNeg = n := nI_clamp (by omega)
  have hAr := (C.2.2.2.2.2.1.1.2 2 _ (tys_at (by omega))).1
  have hRA := (C.2.2.2.2.2.1.1.2 2 _ (tys_at (by omega))).2
  have f0 : ∀ r' : Nat, (fun j => aval σ 2 r' j) = fun j => tv (.inr (ar σ r' j)) := fun r' => by funext j; simp [aval]
  rw [f0] at hc0 hc1
  obtain ⟨-, k0, hk0, cm0, hkk0⟩ := hAr (al σ (a0 + 1)) (fun j => tv (.inr (ar σ (a0 + 1) j)))
  obtain ⟨-, k1, hk1, cm1, hkk1⟩ := hAr (al σ (a + 1)) (fun j => tv (.inr (ar σ (a + 1) j)))
  intro T hT X
  obtain ⟨vm', X', step⟩ := X.arraycopy C.1 C.2.2.2.1 (C.w hw) (C.w hw1) (C.w hw2) (C.w hw3) (src := a0) (dst := a) (srcPos := nI sp) (destPos := nI dp) (n := nI n) (by rw [hT]; exact hc0) (by rw [hT]; exact hc1)
    (fun _ h => by cases h) (fun _ h => by cases h) (fun h => by cases h) (fun h => by cases h) hk0 hk1 hkk0 hkk1 rfl p0 p1 p2
    (by rw [nn_int p0, nn_int p2, q0, q2, arrV_size]; omega)
    (by rw [nn_int p1, nn_int p2, q1, q2, arrV_size]; omega)
    (fun vm₁ hal i hi => by
      rw [q2] at hi
      rw [q0]
      have e : (arrV (kA K 2) (al σ (a0 + 1)) (fun j => tv (.inr (ar σ (a0 + 1) j)))).slots.getD (sp + i) .null = tv (.inr (ar σ (a0 + 1) (sp + i))) := by
        rw [Array.getD_eq_getD_getElem?, arrV_read _ _ (by omega)]
        rfl
      rw [e]
      have any : ∀ (y ci : Nat) (q : vw_C), ar σ (a0 + 1) (sp + i) = y + 1 → tg σ (y + 1) = ci + 1 → cls[ci]? = some q → CastOk ci "java/lang/Object" → fits (aty 2) (.ref y) = true ∧ (T.setVm vm₁).takes cm1 (.ref y) := by
        intro y ci q hy hty hq hca
        obtain ⟨cellV, g1, g2, g3, g4, kC9, hkC⟩ := hR.cell C hq hty
        obtain ⟨kA9, comp, r1, r2, r3, -⟩ := hRA
        cases hk1.symm.trans r1
        cases hkk1.symm.trans r2
        obtain ⟨kE, hkE, -⟩ := Vm.findClass_spec r3
        obtain ⟨kC', hkC', -⟩ := hal.2.2 _ _ hkC
        obtain ⟨kE', hkE', -⟩ := hal.2.2 _ _ hkE
        refine ⟨rfl, cellV, (show T.heap[y]? = some cellV by rw [hT]; exact g1), (fun q h => by rw [h] at g2; cases g2), ⟨kC', hkC'⟩, ⟨kE', hkE'⟩, ?_⟩
        show vm₁.assignable _ _ = true
        rw [hal.assignable, g3]
        exact hca.asg C r3
      rcases hel i hi with h0 | h0 | h0
      · rw [h0]; exact ⟨rfl, trivial⟩
      · obtain ⟨y, hy⟩ := hR.pos (n := 3) h0
        rw [hy]
        exact any y 3 _ hy (by rw [← hy]; exact h0) rfl castO4
      · obtain ⟨y, hy⟩ := hR.pos (n := 5) h0
        rw [hy]
        exact any y 5 _ hy (by rw [← hy]; exact h0) rfl castO6)
    (g := F0 m pc ls ((.inl (nI n) :: .inl (nI dp) :: .inr (a + 1) :: .inl (nI sp) :: .inr (a0 + 1) :: st : List PV).map tv)) rfl (by rw [C.2.2.1]; exact hl.1) (rest := st.map tv) rfl (by rw [C.2.1]; exact hd) (Nat.le_trans hd1 C.2.2.2.2.2.2.1)
    (by
      have hw9 : nativeFrameWords "java/lang/System" "arraycopy" 5 ≤ 20 := by decide
      have := C.2.2.2.2.2.2.2.1
      show 2 * 0 + _ + _ ≤ _
      rw [cat_sum]
      omega)
  have e1 : copied (arrV (kA K 2) (al σ (a0 + 1)) (fun j => tv (.inr (ar σ (a0 + 1) j)))) (arrV (kA K 2) (al σ (a + 1)) (fun j => tv (.inr (ar σ (a + 1) j)))) (nI sp) (nI dp) (nI n) = arrV (kA K 2) (al σ (a + 1)) (fun j => tv (.inr (va_cpy (ar σ (a0 + 1)) (ar σ (a + 1)) sp dp n j))) := by
    have := va_copied (fun z : Nat => tv (.inr z)) (kA K 2) (kA K 2) (n1 := al σ (a + 1)) (dp := dp) (ar σ (a0 + 1)) (ar σ (a + 1)) h4
    rw [← this]
    unfold copied
    rw [q0, q1, q2]
  rw [e1] at X' step
  have hlt : a < H.size := (Array.getElem?_eq_some_iff.mp hc1).1
  have hheap : ((T.setVm vm').setCell a (arrV (kA K 2) (al σ (a + 1)) (fun j => tv (.inr (va_cpy (ar σ (a0 + 1)) (ar σ (a + 1)) sp dp n j))))).heap = H.setIfInBounds a (arrV (kA K 2) (al σ (a + 1)) (fun j => tv (.inr (va_cpy (ar σ (a0 + 1)) (ar σ (a + 1)) sp dp n j)))) := by rw [← hT]; rfl
  have oq : ∀ q : Nat, q ≠ a → (H.setIfInBounds a (arrV (kA K 2) (al σ (a + 1)) (fun j => tv (.inr (va_cpy (ar σ (a0 + 1)) (ar σ (a + 1)) sp dp n j)))))[q]? = H[q]? := fun q hq => by simp [Array.getElem?_setIfInBounds, Ne.symm hq]
  obtain ⟨t, a1, b1⟩ := k _ _ (hR.sto (ti := 2) (σ' := pcpy σ (a0 + 1) sp (a + 1) dp n) (by omega) t1 (f := fun j => tv (.inr (va_cpy (ar σ (a0 + 1)) (ar σ (a + 1)) sp dp n j))) (show (H.setIfInBounds a _)[a]? = some _ by simp [Array.getElem?_setIfInBounds, hlt]) (by simp) oq rfl rfl rfl rfl (fun j hj => by simp [aval, pcpy, ar]) (fun _ _ _ => rfl) (fun r' j' h' => if_neg h'))
    (fun q hq => oq q (Nat.ne_of_lt (Nat.lt_of_lt_of_le hq gb))) (fun q hq => by
      rcases List.mem_append.mp hq with h | h
      · exact hL q h
      · obtain ⟨z, -, hz⟩ := List.mem_map.mp h
        rw [← hz]
        exact gb) _ hheap X'
  exact ⟨t, step t a1, b1⟩
end RowsD
