/-! what a list's own methods do to the picture -/
def isL (l : Nat) : Prop := l = 6 ∨ l = 7 ∨ l = 310 ∨ l = 311
theorem Lay.ne {N : Nat} {Y : Nat → Nat} {σ : PS} (h : Lay N Y σ) {l l' : Nat} (hl : isL l) (hl' : isL l') (hne : l ≠ l') : Y l ≠ Y l' := by
  obtain ⟨q1, q2, q3, q4, q5, q6⟩ := h.2.2.2.2.2.2.2.2.2.2
  rcases hl with rfl | rfl | rfl | rfl <;> rcases hl' with rfl | rfl | rfl | rfl <;> first | exact absurd rfl hne | assumption | exact Ne.symm (by assumption)
theorem LF.keepL {N : Nat} {Y : Nat → Nat} {σ σ' : PS} {l l' n : Nat} {f : Nat → Nat} (h : LF σ σ' (Y l)) (k : KP σ σ') (hF : FR σ) (hL : Lay N Y σ) (hd : DIS Y σ) (hl : isL l) (hl' : isL l') (hne : l' ≠ l) (hA : AL σ (Y l') n f) : AL σ' (Y l') n f := by
  obtain ⟨h1, h2, h3, h4, h5, h6, h7, h8⟩ := h
  have hy := hL.ne hl' hl hne
  refine k.keepL hF hA (h5 2 _ (Or.inl hy)) (h6 1 _ (Or.inl hy)) (fun j hj => ?_)
  obtain ⟨a1, a2, a3, a4, a5, a6, a7, a8, a9⟩ := hA
  have ht : tg σ (fr σ 1 (Y l')) = 102 := by
    rcases a8 with ⟨-, q⟩ | ⟨q, -⟩
    · omega
    · exact q
  exact h7 _ j a6 (hd l' l hl' hl hne ht)
theorem LF.dis {N : Nat} {Y : Nat → Nat} {σ σ' : PS} {l : Nat} (h : LF σ σ' (Y l)) (hL : Lay N Y σ) (hd : DIS Y σ) (hl : isL l) (hlt : ∀ l', isL l' → fr σ 1 (Y l') < nx σ) : DIS Y σ' := by
  obtain ⟨h1, h2, h3, h4, h5, h6, h7, h8⟩ := h
  intro a b ha hb hab ht
  have lo : ∀ c, isL c → c ≠ l → fr σ' 1 (Y c) = fr σ 1 (Y c) := fun c hc hne => h6 1 _ (Or.inl (hL.ne hc hl hne))
  by_cases ea : a = l
  · subst ea
    rw [lo b hb (Ne.symm hab)]
    rcases h8 with q | q
    · rw [q] at ht ⊢
      rw [(h3 _ (hlt a ha)).1] at ht
      exact hd a b ha hb hab ht
    · have := hlt b hb
      omega
  · rw [lo a ha ea] at ht ⊢
    rw [(h3 _ (hlt a ha)).1] at ht
    by_cases eb : b = l
    · subst eb
      rcases h8 with q | q
      · rw [q]; exact hd a b ha hb hab ht
      · have := hlt a ha
        omega
    · rw [lo b hb eb]; exact hd a b ha hb hab ht
theorem LF.capE {N : Nat} {Y : Nat → Nat} {σ σ' : PS} {l : Nat} (h : LF σ σ' (Y l)) (hL : Lay N Y σ) (hl : isL l) (hlt : ∀ l', isL l' → fr σ 1 (Y l') < nx σ) : caps Y σ' + al σ (fr σ 1 (Y l)) = caps Y σ + al σ' (fr σ' 1 (Y l)) := by
  obtain ⟨h1, h2, h3, h4, h5, h6, h7, h8⟩ := h
  have lo : ∀ c, isL c → c ≠ l → al σ' (fr σ' 1 (Y c)) = al σ (fr σ 1 (Y c)) := fun c hc hne => by
    rw [h6 1 _ (Or.inl (hL.ne hc hl hne)), (h3 _ (hlt c hc)).2]
  have c6 := lo 6 (Or.inl rfl)
  have c7 := lo 7 (Or.inr (Or.inl rfl))
  have c10 := lo 310 (Or.inr (Or.inr (Or.inl rfl)))
  have c11 := lo 311 (Or.inr (Or.inr (Or.inr rfl)))
  unfold caps
  rcases hl with rfl | rfl | rfl | rfl
  · rw [c7 (by omega), c10 (by omega), c11 (by omega)]; omega
  · rw [c6 (by omega), c10 (by omega), c11 (by omega)]; omega
  · rw [c6 (by omega), c7 (by omega), c11 (by omega)]; omega
  · rw [c6 (by omega), c7 (by omega), c10 (by omega)]; omega
section CRL
variable {N : Nat} {Y : Nat → Nat} {bd : Nat × Nat × Nat} {hs : List Nat} {σ σ' : PS} {A : AS} {f : Nat → Nat} {m : Nat} {g : Nat → Nat} {rf : Nat → Nat → Nat}
theorem CRx.lt (h : CRx N Y bd hs σ A f m g rf) : ∀ l, isL l → fr σ 1 (Y l) < nx σ := by
  obtain ⟨h1, h2, h3, h4, h5, h6, h7, h8, h9, h10⟩ := h
  intro l hl
  rcases hl with rfl | rfl | rfl | rfl
  · exact h6.1.2.2.2.2.2.1
  · exact h6.2.1.2.2.2.2.2.1
  · exact (h7 0 (by omega)).1.2.2.2.2.2.1
  · exact (h7 1 (by omega)).1.2.2.2.2.2.1
theorem AL.kind {l n : Nat} {f : Nat → Nat} (h : AL σ l n f) : tg σ (fr σ 1 l) = 102 ∨ tg σ (fr σ 1 l) = 99 := by
  rcases h.2.2.2.2.2.2.2.1 with q | q
  · exact Or.inr q.1
  · exact Or.inl q.1
theorem ror_kp (k : KP σ σ') (hF : FR σ) (h : ∀ b, b < 2 → AL σ' (Y (310 + b)) (rn A b) (rf b)) (h7 : ROR Y σ A rf) : ROR Y σ' A rf := by
  intro b hb
  refine ⟨h b hb, fun i hi => ?_⟩
  obtain ⟨q1, q2, q3, q4⟩ := (h7 b hb).2 i hi
  have y := hF.lt (r := rf b i) (by omega)
  obtain ⟨-, k2, -, k4, -⟩ := k
  rw [(k2 _ y).1, k4 _ _ y (by omega), k4 _ _ y (by omega), k4 _ _ y (by omega)]
  exact ⟨q1, q2, q3, q4⟩
theorem isL10 {b : Nat} (hb : b < 2) : isL (310 + b) := by
  unfold isL; omega
theorem RM.fr (h : FR σ) {l n i : Nat} {f : Nat → Nat} (hr : RM σ σ' l n i f) : FR σ' := by
  obtain ⟨L, n1, s1, e1, t1, hA⟩ := hr
  exact ⟨⟨by rw [n1]; exact h.1.1, by rw [t1]; exact h.1.2⟩, fun r hr => by rw [t1]; exact h.2 r (by omega)⟩
theorem ltr_rm {a i j : Nat} (h : if j < i then LTR σ a A j else LTR σ a A (j + 1)) : LTR σ a (rmL A i) j := by
  unfold LTR
  simp only [sv_rmL]
  by_cases e : j < i
  · rw [if_pos e] at h
    simp [Nat.not_le.mpr e]
    exact h
  · rw [if_neg e] at h
    simp [Nat.not_lt.mp e]
    exact h
/-- a letter that waits is taken in hand -/
theorem CRx.rmW (h : CRx N Y bd hs σ A f m g rf) {i : Nat} (hi : i < ln A) (hr : RM σ σ' (Y 6) (ln A) i f) : CRx N Y bd (f i :: hs) σ' (rmL A i) (fun j => if j < i then f j else f (j + 1)) m g rf := by
  have hlt := h.lt
  have hF' := RM.fr h.2.1 hr
  obtain ⟨h1, h2, h3, h4, h5, ⟨a1, a2, a3, a4, a5, a6, a7, a8, a9, a10⟩, h7, h8, h9, h10⟩ := h
  obtain ⟨L, n1, s1, e1, t1, hA⟩ := hr
  have k := L.kp a1.kind
  have x : ∀ j, j < ln A → f j < nx σ := fun j hj => h2.lt (by have := (a3 j hj).1; omega)
  have fn : ∀ j, j < ln A - 1 → ∃ j', j' < ln A ∧ j' ≠ i ∧ (if j < i then f j else f (j + 1)) = f j' := fun j hj => by
    by_cases e : j < i
    · exact ⟨j, by omega, by omega, if_pos e⟩
    · exact ⟨j + 1, by omega, by omega, if_neg e⟩
  have cE := L.capE h1 (Or.inl rfl) hlt
  refine ⟨k.lay h2 h1, hF', k.shr h2 h1 h3, k.cor h2 h1 h4, k.msc h2 h1 h5, ⟨hA, L.keepL k h2 h1 h9 (Or.inl rfl) (Or.inr (Or.inl rfl)) (by omega) a2, fun j hj => ⟨?_, ?_⟩, fun j hj => ?_, fun j j' hj hj' e => ?_, a6, fun j j' hj hj' => ?_, fun y hy => ?_, List.nodup_cons.mpr ⟨fun z => (a8 _ z).2.1 i hi rfl, a9⟩, ?_⟩, ror_kp k h2 (fun b hb => L.keepL k h2 h1 h9 (Or.inl rfl) (isL10 hb) (by omega) (h7 b hb).1) h7, k.acr h2 h1 h8, L.dis h1 h9 (Or.inl rfl) hlt, ?_⟩
  · obtain ⟨j', q1, q2, q3⟩ := fn j hj
    show tg σ' (if j < i then f j else f (j + 1)) = 4
    rw [q3, t1]
    exact (a3 j' q1).1
  · refine ltr_rm ?_
    show if j < i then LTR σ' (if j < i then f j else f (j + 1)) A j else LTR σ' (if j < i then f j else f (j + 1)) A (j + 1)
    have hj : j < ln A - 1 := hj
    by_cases e : j < i
    · rw [if_pos e, if_pos e]; exact k.ltr (x j (by omega)) (a3 j (by omega)).2
    · rw [if_neg e, if_neg e]; exact k.ltr (x (j + 1) (by omega)) (a3 (j + 1) (by omega)).2
  · rw [t1]; exact a4 j hj
  · have hj : j < ln A - 1 := hj
    have hj' : j' < ln A - 1 := hj'
    have e : (if j < i then f j else f (j + 1)) = (if j' < i then f j' else f (j' + 1)) := e
    by_cases e1 : j < i <;> by_cases e2 : j' < i
    · rw [if_pos e1, if_pos e2] at e; exact a5 j j' (by omega) (by omega) e
    · rw [if_pos e1, if_neg e2] at e; have := a5 j (j' + 1) (by omega) (by omega) e; omega
    · rw [if_neg e1, if_pos e2] at e; have := a5 (j + 1) j' (by omega) (by omega) e; omega
    · rw [if_neg e1, if_neg e2] at e; have := a5 (j + 1) (j' + 1) (by omega) (by omega) e; omega
  · obtain ⟨q, q1, q2, q3⟩ := fn j hj
    show (if j < i then f j else f (j + 1)) ≠ g j'
    rw [q3]
    exact a7 q j' q1 hj'
  · rcases List.mem_cons.mp hy with rfl | hy
    · refine ⟨by rw [t1]; exact (a3 i hi).1, fun j hj => ?_, fun j hj => Ne.symm (a7 i j hi hj)⟩
      obtain ⟨q, q1, q2, q3⟩ := fn j hj
      show (if j < i then f j else f (j + 1)) ≠ f i
      rw [q3]
      exact fun z => q2 (a5 q i q1 hi z)
    · obtain ⟨y1, y2, y3⟩ := a8 y hy
      refine ⟨by rw [t1]; exact y1, fun j hj => ?_, y3⟩
      obtain ⟨q, q1, q2, q3⟩ := fn j hj
      show (if j < i then f j else f (j + 1)) ≠ y
      rw [q3]
      exact y2 q q1
  · show ln A - 1 + m + (f i :: hs).length ≤ 70
    simp only [List.length_cons]
    omega
  · unfold BUD at h10 ⊢
    show nx σ' ≤ bd.1 + (ln A - 1 + m + (f i :: hs).length) + bd.2.2 + caps Y σ' ∧ sl σ' ≤ bd.2.1 + 11 * (ln A - 1 + m + (f i :: hs).length) + 3 * bd.2.2 + 4 * caps Y σ'
    have ea : al σ' (fr σ' 1 (Y 6)) = al σ (fr σ 1 (Y 6)) := by rw [e1, (L.2.2.1 _ (hlt 6 (Or.inl rfl))).2]
    simp only [List.length_cons]
    omega
/-- a letter in hand becomes spare -/
theorem CRx.adS {x : Nat} (h : CRx N Y bd (x :: hs) σ A f m g rf) (hr : ADD σ σ' (Y 7) m g x) : CRx N Y bd hs σ' A f (m + 1) (va_up g m x) rf := by
  have hlt := h.lt
  obtain ⟨h1, h2, h3, h4, h5, ⟨a1, a2, a3, a4, a5, a6, a7, a8, a9, a10⟩, h7, h8, h9, h10⟩ := h
  obtain ⟨L, hA, b1, b2, hF'⟩ := hr
  have k := L.kp a2.kind
  obtain ⟨x1, x2, x3⟩ := a8 x List.mem_cons_self
  have y : ∀ r, tg σ r = 4 → r < nx σ := fun r hr => h2.lt (by omega)
  have cE := L.capE h1 (Or.inr (Or.inl rfl)) hlt
  refine ⟨k.lay h2 h1, hF', k.shr h2 h1 h3, k.cor h2 h1 h4, k.msc h2 h1 h5, ⟨L.keepL k h2 h1 h9 (Or.inr (Or.inl rfl)) (Or.inl rfl) (by omega) a1, hA, fun j hj => ⟨?_, ?_⟩, fun j hj => ?_, a5, fun j j' hj hj' e => ?_, fun j j' hj hj' => ?_, fun z hz => ?_, (List.nodup_cons.mp a9).2, ?_⟩, ror_kp k h2 (fun b hb => L.keepL k h2 h1 h9 (Or.inr (Or.inl rfl)) (isL10 hb) (by omega) (h7 b hb).1) h7, k.acr h2 h1 h8, L.dis h1 h9 (Or.inr (Or.inl rfl)) hlt, ?_⟩
  · rw [(k.2.1 _ (y _ (a3 j hj).1)).1]; exact (a3 j hj).1
  · exact k.ltr (y _ (a3 j hj).1) (a3 j hj).2
  · by_cases e : j = m
    · subst e; rw [va_up_self, (k.2.1 _ (y _ x1)).1]; exact x1
    · rw [va_up_ne g x e, (k.2.1 _ (y _ (a4 j (by omega)))).1]; exact a4 j (by omega)
  · by_cases e1 : j = m <;> by_cases e2 : j' = m
    · omega
    · subst e1; rw [va_up_self, va_up_ne g x e2] at e; exact absurd e.symm (x3 j' (by omega))
    · subst e2; rw [va_up_self, va_up_ne g x e1] at e; exact absurd e (x3 j (by omega))
    · rw [va_up_ne g x e1, va_up_ne g x e2] at e; exact a6 j j' (by omega) (by omega) e
  · by_cases e : j' = m
    · subst e; rw [va_up_self]; exact x2 j hj
    · rw [va_up_ne g x e]; exact a7 j j' hj (by omega)
  · obtain ⟨z1, z2, z3⟩ := a8 z (List.mem_cons_of_mem _ hz)
    refine ⟨by rw [(k.2.1 _ (y _ z1)).1]; exact z1, z2, fun j hj => ?_⟩
    by_cases e : j = m
    · subst e; rw [va_up_self]; exact fun q => (List.nodup_cons.mp a9).1 (q ▸ hz)
    · rw [va_up_ne g x e]; exact z3 j (by omega)
  · simp only [List.length_cons] at a10; omega
  · unfold BUD at h10 ⊢
    simp only [List.length_cons] at h10
    have e2 : ln A + (m + 1) + hs.length = ln A + m + (hs.length + 1) := by omega
    rw [e2]
    omega
/-- a spare letter is taken in hand: the last -/
theorem CRx.rmS (h : CRx N Y bd hs σ A f m g rf) (hm : 0 < m) (hr : RM σ σ' (Y 7) m (m - 1) g) : CRx N Y bd (g (m - 1) :: hs) σ' A f (m - 1) (fun j => if j < m - 1 then g j else g (j + 1)) rf := by
  have hlt := h.lt
  have hF' := RM.fr h.2.1 hr
  obtain ⟨h1, h2, h3, h4, h5, ⟨a1, a2, a3, a4, a5, a6, a7, a8, a9, a10⟩, h7, h8, h9, h10⟩ := h
  obtain ⟨L, n1, s1, e1, t1, hA⟩ := hr
  have k := L.kp a2.kind
  have y : ∀ r, tg σ r = 4 → r < nx σ := fun r hr => h2.lt (by omega)
  have gn : ∀ j, j < m - 1 → (if j < m - 1 then g j else g (j + 1)) = g j := fun j hj => if_pos hj
  have cE := L.capE h1 (Or.inr (Or.inl rfl)) hlt
  refine ⟨k.lay h2 h1, hF', k.shr h2 h1 h3, k.cor h2 h1 h4, k.msc h2 h1 h5, ⟨L.keepL k h2 h1 h9 (Or.inr (Or.inl rfl)) (Or.inl rfl) (by omega) a1, hA, fun j hj => ⟨?_, ?_⟩, fun j hj => ?_, a5, fun j j' hj hj' e => ?_, fun j j' hj hj' => ?_, fun z hz => ?_, List.nodup_cons.mpr ⟨fun z => (a8 _ z).2.2 (m - 1) (by omega) rfl, a9⟩, ?_⟩, ror_kp k h2 (fun b hb => L.keepL k h2 h1 h9 (Or.inr (Or.inl rfl)) (isL10 hb) (by omega) (h7 b hb).1) h7, k.acr h2 h1 h8, L.dis h1 h9 (Or.inr (Or.inl rfl)) hlt, ?_⟩
  · rw [t1]; exact (a3 j hj).1
  · exact k.ltr (y _ (a3 j hj).1) (a3 j hj).2
  · show tg σ' (if j < m - 1 then g j else g (j + 1)) = 4
    rw [gn j hj, t1]; exact a4 j (by omega)
  · have e : (if j < m - 1 then g j else g (j + 1)) = (if j' < m - 1 then g j' else g (j' + 1)) := e
    rw [gn j hj, gn j' hj'] at e
    exact a6 j j' (by omega) (by omega) e
  · show f j ≠ (if j' < m - 1 then g j' else g (j' + 1))
    rw [gn j' hj']; exact a7 j j' hj (by omega)
  · rcases List.mem_cons.mp hz with rfl | hz
    · refine ⟨by rw [t1]; exact a4 _ (by omega), fun j hj => a7 j _ hj (by omega), fun j hj => ?_⟩
      show (if j < m - 1 then g j else g (j + 1)) ≠ g (m - 1)
      rw [gn j hj]
      exact fun q => by have := a6 j (m - 1) (by omega) (by omega) q; omega
    · obtain ⟨z1, z2, z3⟩ := a8 z hz
      refine ⟨by rw [t1]; exact z1, z2, fun j hj => ?_⟩
      show (if j < m - 1 then g j else g (j + 1)) ≠ z
      rw [gn j hj]
      exact z3 j (by omega)
  · simp only [List.length_cons]; omega
  · have ea : al σ' (fr σ' 1 (Y 7)) = al σ (fr σ 1 (Y 7)) := by rw [e1, (L.2.2.1 _ (hlt 7 (Or.inr (Or.inl rfl)))).2]
    unfold BUD at h10 ⊢
    simp only [List.length_cons]
    have e2 : ln A + (m - 1) + (hs.length + 1) = ln A + m + hs.length := by omega
    rw [e2]
    omega
theorem ltr_ap {a i : Nat} {G : Nat → Int32} (hi : i < ln A) (h : LTR σ a A i) : LTR σ a (apL A G) i := by
  unfold LTR
  simp only [sv_apL]
  have : ¬ i = ln A := by omega
  simp [this]
  exact h
/-- a letter in hand is put behind those that wait -/
theorem CRx.adW {x : Nat} {G : Nat → Int32} (h : CRx N Y bd (x :: hs) σ A f m g rf) (hr : ADD σ σ' (Y 6) (ln A) f x) (hG : fi σ 192 x = G 29 ∧ fi σ 193 x = G 31 ∧ fi σ 194 x = G 30 ∧ fi σ 195 x = G 32 ∧ fi σ 196 x = G 33 ∧ fi σ 197 x = G 34 ∧ fi σ 198 x = G 35 ∧ fi σ 199 x = G 36 ∧ fi σ 200 x = G 37 ∧ fi σ 201 x = G 38 ∧ fi σ 202 x = G 39) : CRx N Y bd hs σ' (apL A G) (va_up f (ln A) x) m g rf := by
  have hlt := h.lt
  obtain ⟨h1, h2, h3, h4, h5, ⟨a1, a2, a3, a4, a5, a6, a7, a8, a9, a10⟩, h7, h8, h9, h10⟩ := h
  obtain ⟨L, hA, b1, b2, hF'⟩ := hr
  have k := L.kp a1.kind
  obtain ⟨x1, x2, x3⟩ := a8 x List.mem_cons_self
  have y : ∀ r, tg σ r = 4 → r < nx σ := fun r hr => h2.lt (by omega)
  have cE := L.capE h1 (Or.inl rfl) hlt
  have len : ln (apL A G) = ln A + 1 := rfl
  refine ⟨k.lay h2 h1, hF', k.shr h2 h1 h3, k.cor h2 h1 h4, k.msc h2 h1 h5, ⟨hA, L.keepL k h2 h1 h9 (Or.inl rfl) (Or.inr (Or.inl rfl)) (by omega) a2, fun j hj => ?_, fun j hj => ?_, fun j j' hj hj' e => ?_, a6, fun j j' hj hj' => ?_, fun z hz => ?_, (List.nodup_cons.mp a9).2, ?_⟩, ror_kp k h2 (fun b hb => L.keepL k h2 h1 h9 (Or.inl rfl) (isL10 hb) (by omega) (h7 b hb).1) h7, k.acr h2 h1 h8, L.dis h1 h9 (Or.inl rfl) hlt, ?_⟩
  · rw [len] at hj
    by_cases e : j = ln A
    · subst e
      rw [va_up_self, (k.2.1 _ (y _ x1)).1]
      refine ⟨x1, ?_⟩
      unfold LTR
      simp only [sv_apL]
      obtain ⟨-, -, -, k4, -⟩ := k
      have xl := y _ x1
      rw [k4 192 x xl (by omega), k4 193 x xl (by omega), k4 194 x xl (by omega), k4 195 x xl (by omega), k4 196 x xl (by omega), k4 197 x xl (by omega), k4 198 x xl (by omega), k4 199 x xl (by omega), k4 200 x xl (by omega), k4 201 x xl (by omega), k4 202 x xl (by omega)]
      simp
      exact hG
    · have hj : j < ln A := by omega
      rw [va_up_ne f x e, (k.2.1 _ (y _ (a3 j hj).1)).1]
      exact ⟨(a3 j hj).1, ltr_ap hj (k.ltr (y _ (a3 j hj).1) (a3 j hj).2)⟩
  · rw [(k.2.1 _ (y _ (a4 j hj))).1]; exact a4 j hj
  · rw [len] at hj hj'
    by_cases e1 : j = ln A <;> by_cases e2 : j' = ln A
    · omega
    · subst e1; rw [va_up_self, va_up_ne f x e2] at e; exact absurd e.symm (x2 j' (by omega))
    · subst e2; rw [va_up_self, va_up_ne f x e1] at e; exact absurd e (x2 j (by omega))
    · rw [va_up_ne f x e1, va_up_ne f x e2] at e; exact a5 j j' (by omega) (by omega) e
  · rw [len] at hj
    by_cases e : j = ln A
    · subst e; rw [va_up_self]; exact Ne.symm (x3 j' hj')
    · rw [va_up_ne f x e]; exact a7 j j' (by omega) hj'
  · obtain ⟨z1, z2, z3⟩ := a8 z (List.mem_cons_of_mem _ hz)
    refine ⟨by rw [(k.2.1 _ (y _ z1)).1]; exact z1, fun j hj => ?_, z3⟩
    rw [len] at hj
    by_cases e : j = ln A
    · subst e; rw [va_up_self]; exact fun q => (List.nodup_cons.mp a9).1 (q ▸ hz)
    · rw [va_up_ne f x e]; exact z2 j (by omega)
  · rw [len]; simp only [List.length_cons] at a10; omega
  · unfold BUD at h10 ⊢
    rw [len]
    simp only [List.length_cons] at h10
    have e2 : ln A + 1 + m + hs.length = ln A + m + (hs.length + 1) := by omega
    rw [e2]
    omega
theorem kp_new {ci n : Nat} : KP σ (pnew σ ci n) := by
  refine ⟨Nat.le_succ _, fun r hr => ?_, fun _ _ _ => rfl, fun i r hr _ => ?_, fun i r hr _ => ?_, fun _ _ _ _ _ => rfl⟩
  · rw [tg_pnew, if_neg (by omega)]; exact ⟨rfl, rfl⟩
  · rw [fi_pnew, if_neg (by omega)]
  · rw [fr_pnew, if_neg (by omega)]
theorem fr_new (h : FR σ) {ci n : Nat} : FR (pnew σ ci n) := ⟨⟨Nat.succ_pos _, by rw [tg_pnew, if_neg (by have := h.1.1; omega)]; exact h.1.2⟩, fun r hr => by
  rw [nx_pnew] at hr
  rw [tg_pnew, if_neg (by omega)]
  exact h.2 r (by omega)⟩
theorem al_new {l n ci k : Nat} {f : Nat → Nat} (h : FR σ) (hA : AL σ l n f) : AL (pnew σ ci k) l n f :=
  kp_new.keepL h hA (by rw [fi_pnew, if_neg (by have := hA.2.2.2.2.2.2.1; omega)]) (by rw [fr_pnew, if_neg (by have := hA.2.2.2.2.2.2.1; omega)]) (fun _ _ => rfl)
theorem CRx.yl (h : CRx N Y bd hs σ A f m g rf) : ∀ l, isL l → Y l < nx σ := by
  obtain ⟨h1, h2, h3, h4, h5, h6, h7, h8, h9, h10⟩ := h
  intro l hl
  rcases hl with rfl | rfl | rfl | rfl
  · exact h6.1.2.2.2.2.2.2.1
  · exact h6.2.1.2.2.2.2.2.2.1
  · exact (h7 0 (by omega)).1.2.2.2.2.2.2.1
  · exact (h7 1 (by omega)).1.2.2.2.2.2.2.1
theorem frl_new (h : CRx N Y bd hs σ A f m g rf) {ci k l : Nat} (hl : isL l) : fr (pnew σ ci k) 1 (Y l) = fr σ 1 (Y l) := by
  rw [fr_pnew, if_neg (by have := h.yl l hl; omega)]
theorem dis_new (h : CRx N Y bd hs σ A f m g rf) {ci k : Nat} : DIS Y (pnew σ ci k) ∧ caps Y (pnew σ ci k) = caps Y σ := by
  refine ⟨fun a b ha hb hab ht => ?_, ?_⟩
  · rw [frl_new h ha] at ht ⊢
    rw [frl_new h hb]
    rw [tg_pnew, if_neg (by have := h.lt a ha; omega)] at ht
    exact h.2.2.2.2.2.2.2.2.1 a b ha hb hab ht
  · unfold caps
    rw [frl_new h (Or.inl rfl), frl_new h (Or.inr (Or.inl rfl)), frl_new h (Or.inr (Or.inr (Or.inl rfl))), frl_new h (Or.inr (Or.inr (Or.inr rfl)))]
    rfl
/-- a new letter, in hand -/
theorem CRx.nwH (h : CRx N Y bd hs σ A f m g rf) (h70 : ln A + m + hs.length ≤ 69) : CRx N Y bd (nx σ :: hs) (pnew σ 3 11) A f m g rf := by
  obtain ⟨d1, d2⟩ := dis_new h (ci := 3) (k := 11)
  obtain ⟨h1, h2, h3, h4, h5, ⟨a1, a2, a3, a4, a5, a6, a7, a8, a9, a10⟩, h7, h8, h9, h10⟩ := h
  have k : KP σ (pnew σ 3 11) := kp_new
  have y : ∀ r, tg σ r = 4 → r < nx σ := fun r hr => h2.lt (by omega)
  refine ⟨k.lay h2 h1, fr_new h2, k.shr h2 h1 h3, k.cor h2 h1 h4, k.msc h2 h1 h5, ⟨al_new h2 a1, al_new h2 a2, fun j hj => ⟨?_, ?_⟩, fun j hj => ?_, a5, a6, a7, fun z hz => ?_, List.nodup_cons.mpr ⟨fun z => ?_, a9⟩, ?_⟩, ror_kp k h2 (fun b hb => al_new h2 (h7 b hb).1) h7, k.acr h2 h1 h8, d1, ?_⟩
  · rw [(k.2.1 _ (y _ (a3 j hj).1)).1]; exact (a3 j hj).1
  · exact k.ltr (y _ (a3 j hj).1) (a3 j hj).2
  · rw [(k.2.1 _ (y _ (a4 j hj))).1]; exact a4 j hj
  · rcases List.mem_cons.mp hz with rfl | hz
    · refine ⟨by rw [tg_pnew, if_pos rfl], fun j hj q => ?_, fun j hj q => ?_⟩
      · have := y _ (a3 j hj).1; omega
      · have := y _ (a4 j hj); omega
    · obtain ⟨z1, z2, z3⟩ := a8 z hz
      exact ⟨by rw [(k.2.1 _ (y _ z1)).1]; exact z1, z2, z3⟩
  · have := y _ (a8 _ z).1
    omega
  · simp only [List.length_cons]; omega
  · unfold BUD at h10 ⊢
    rw [d2, nx_pnew, sl_pnew]
    simp only [List.length_cons]
    omega
end CRL
