/-! the rows of requests -/
def rmR (A : AS) (b i : Nat) : AS := (ln A, (fun b' => if b' = b then rn A b - 1 else rn A b'), fun k j => if (22 ≤ k ∧ k < 25) ∧ 20 * b + i ≤ j ∧ j < 20 * b + 19 then sv A k (j + 1) else sv A k j)
def apR (A : AS) (b : Nat) (c n w : Int32) : AS := (ln A, (fun b' => if b' = b then rn A b + 1 else rn A b'), up2 (up2 (up2 (sv A) 22 (20 * b + rn A b) c) 23 (20 * b + rn A b) n) 24 (20 * b + rn A b) w)
/-- the requests of c up to n are struck out, from place i - 1 down -/
noncomputable def skA (b : Nat) (c n : Int32) : Nat → AS → AS
  | 0, A => A
  | i + 1, A => skA b c n i (if sv A 22 (20 * b + i) = c ∧ sv A 23 (20 * b + i) ≤ n then rmR A b i else A)
theorem sv_rmR {A : AS} {b i k j : Nat} : sv (rmR A b i) k j = if (22 ≤ k ∧ k < 25) ∧ 20 * b + i ≤ j ∧ j < 20 * b + 19 then sv A k (j + 1) else sv A k j := rfl
theorem rn_rmR {A : AS} {b i b' : Nat} : rn (rmR A b i) b' = if b' = b then rn A b - 1 else rn A b' := rfl
theorem rn_apR {A : AS} {b b' : Nat} {c n w : Int32} : rn (apR A b c n w) b' = if b' = b then rn A b + 1 else rn A b' := rfl
section CRR
variable {N : Nat} {Y : Nat → Nat} {bd : Nat × Nat × Nat} {hs : List Nat} {σ σ' : PS} {A : AS} {f : Nat → Nat} {m : Nat} {g : Nat → Nat} {rf : Nat → Nat → Nat} {P : Option PV → PS → Prop}
theorem ltr_kp {A' : AS} (e : ∀ k j, 29 ≤ k → sv A' k j = sv A k j) {a i : Nat} (h : LTR σ a A i) : LTR σ a A' i := by
  unfold LTR at h ⊢
  rw [e 29 i (by omega), e 30 i (by omega), e 31 i (by omega), e 32 i (by omega), e 33 i (by omega), e 34 i (by omega), e 35 i (by omega), e 36 i (by omega), e 37 i (by omega), e 38 i (by omega), e 39 i (by omega)]
  exact h
/-- what does not speak of rows -/
theorem CRx.oth {A' : AS} (h : CRx N Y bd hs σ A f m g rf) (hl : ln A' = ln A) (e : ∀ k j, ¬ (22 ≤ k ∧ k < 25) → sv A' k j = sv A k j) : SHR N Y σ A' ∧ COR N Y σ A' ∧ MSC N Y σ A' ∧ MAR Y hs σ A' f m g ∧ ACR Y σ A' := by
  obtain ⟨h1, h2, ⟨s1, s2, s3, s4, s5, s6, s7⟩, ⟨o1, o2, o3, o4, o5, o6, o7, o8, o9, o10⟩, ⟨p1, p2, p3, p4⟩, ⟨a1, a2, a3, a4, a5, a6, a7, a8, a9, a10⟩, h7, h8, h9, h10⟩ := h
  refine ⟨⟨fun i hi => ?_, fun i hi => ?_, fun i hi => ?_, fun i hi => ?_, fun i hi => ?_, fun i hi => ?_, fun i hi => ?_⟩, ⟨fun i hi => ?_, fun i hi => ?_, fun i hi => ?_, fun i hi => ?_, fun i hi => ?_, fun i hi => ?_, fun i hi => ?_, fun i hi => ?_, fun i hi => ?_, fun i hi => ?_⟩, ⟨?_, ?_, ?_, fun c hc => ?_⟩, ?_, fun b hb => ?_⟩
  · rw [e 5 i (by omega)]; exact s1 i hi
  · rw [e 6 i (by omega)]; exact s2 i hi
  · rw [e 7 i (by omega)]; exact s3 i hi
  · rw [e 8 i (by omega)]; exact s4 i hi
  · rw [e 9 i (by omega)]; exact s5 i hi
  · rw [e 10 i (by omega)]; exact s6 i hi
  · rw [e 11 i (by omega)]; exact s7 i hi
  · rw [e 17 i (by omega)]; exact o1 i hi
  · rw [e 12 i (by omega)]; exact o2 i hi
  · rw [e 13 i (by omega)]; exact o3 i hi
  · rw [e 15 i (by omega)]; exact o4 i hi
  · rw [e 16 i (by omega)]; exact o5 i hi
  · rw [e 18 i (by omega)]; exact o6 i hi
  · rw [e 19 i (by omega)]; exact o7 i hi
  · rw [e 14 i (by omega)]; exact o8 i hi
  · rw [e 20 i (by omega)]; exact o9 i hi
  · rw [e 21 i (by omega)]; exact o10 i hi
  · rw [e 2 0 (by omega)]; exact p1
  · rw [e 3 0 (by omega)]; exact p2
  · rw [e 4 0 (by omega)]; exact p3
  · rw [e 27 c (by omega)]; exact p4 c hc
  · unfold MAR
    rw [hl]
    exact ⟨a1, a2, fun i hi => ⟨(a3 i hi).1, ltr_kp (fun k j hk => e k j (by omega)) (a3 i hi).2⟩, a4, a5, a6, a7, a8, a9, a10⟩
  · have := h8 b hb
    rw [e 42 b (by omega), e 40 b (by omega), e 26 b (by omega), e 41 b (by omega)]
    exact this
theorem mar_kp (k : KP σ σ') (hF : FR σ) (h1 : AL σ' (Y 6) (ln A) f) (h2 : AL σ' (Y 7) m g) (h : MAR Y hs σ A f m g) : MAR Y hs σ' A f m g := by
  obtain ⟨a1, a2, a3, a4, a5, a6, a7, a8, a9, a10⟩ := h
  have y : ∀ r, tg σ r = 4 → r < nx σ := fun r hr => hF.lt (by omega)
  refine ⟨h1, h2, fun j hj => ⟨?_, ?_⟩, fun j hj => ?_, a5, a6, a7, fun z hz => ?_, a9, a10⟩
  · rw [(k.2.1 _ (y _ (a3 j hj).1)).1]; exact (a3 j hj).1
  · exact k.ltr (y _ (a3 j hj).1) (a3 j hj).2
  · rw [(k.2.1 _ (y _ (a4 j hj))).1]; exact a4 j hj
  · obtain ⟨z1, z2, z3⟩ := a8 z hz
    exact ⟨by rw [(k.2.1 _ (y _ z1)).1]; exact z1, z2, z3⟩
/-- a request is taken out of a row -/
theorem CRx.rmR (h : CRx N Y bd hs σ A f m g rf) {b i : Nat} (hb : b < 2) (hi : i < rn A b) (h20 : ∀ b', b' < 2 → rn A b' ≤ 20) (hr : RM σ σ' (Y (310 + b)) (rn A b) i (rf b)) : CRx N Y bd hs σ' (rmR A b i) f m g (fun b' => if b' = b then (fun j => if j < i then rf b j else rf b (j + 1)) else rf b') := by
  have hlt := h.lt
  have hF' := RM.fr h.2.1 hr
  obtain ⟨x1, x2, x3, x4, x5⟩ := h.oth (A' := Jvm.Pilot.@@N@@.rmR A b i) rfl (fun k j hk => by rw [sv_rmR, if_neg (fun z => hk z.1)])
  obtain ⟨h1, h2, h3, h4, h5, h6, h7, h8, h9, h10⟩ := h
  obtain ⟨L, n1, s1, e1, t1, hA⟩ := hr
  have k := L.kp (h7 b hb).1.kind
  have cE := L.capE h1 (isL10 hb) hlt
  refine ⟨k.lay h2 h1, hF', k.shr h2 h1 x1, k.cor h2 h1 x2, k.msc h2 h1 x3, mar_kp k h2 (L.keepL k h2 h1 h9 (isL10 hb) (Or.inl rfl) (by omega) x4.1) (L.keepL k h2 h1 h9 (isL10 hb) (Or.inr (Or.inl rfl)) (by omega) x4.2.1) x4, fun b' hb' => ?_, k.acr h2 h1 x5, L.dis h1 h9 (isL10 hb) hlt, ?_⟩
  · rw [rn_rmR]
    by_cases e : b' = b
    · subst e
      rw [if_pos rfl]
      simp only [eq_self, ite_true]
      refine ⟨hA, fun j hj => ?_⟩
      have go : ∀ j', j' < rn A b' → tg σ' (rf b' j') = 6 ∧ fi σ' 320 (rf b' j') = sv A 22 (20 * b' + j') ∧ fi σ' 321 (rf b' j') = sv A 23 (20 * b' + j') ∧ fi σ' 322 (rf b' j') = sv A 24 (20 * b' + j') := by
        intro j' hj'
        obtain ⟨q1, q2, q3, q4⟩ := (h7 b' hb').2 j' hj'
        have y := h2.lt (r := rf b' j') (by omega)
        rw [t1, k.2.2.2.1 _ _ y (by omega), k.2.2.2.1 _ _ y (by omega), k.2.2.2.1 _ _ y (by omega)]
        exact ⟨q1, q2, q3, q4⟩
      have hb20 := h20 b' hb'
      simp only [sv_rmR]
      by_cases e2 : j < i
      · have ef : (if j < i then rf b' j else rf b' (j + 1)) = rf b' j := if_pos e2
        rw [ef, if_neg (by omega), if_neg (by omega), if_neg (by omega)]
        exact go j (by omega)
      · have ef : (if j < i then rf b' j else rf b' (j + 1)) = rf b' (j + 1) := if_neg e2
        rw [ef, if_pos (by omega), if_pos (by omega), if_pos (by omega)]
        exact go (j + 1) (by omega)
    · rw [if_neg e]
      simp only [if_neg e]
      refine ⟨L.keepL k h2 h1 h9 (isL10 hb) (isL10 hb') (by omega) (h7 b' hb').1, fun j hj => ?_⟩
      obtain ⟨q1, q2, q3, q4⟩ := (h7 b' hb').2 j hj
      have y := h2.lt (r := rf b' j) (by omega)
      simp only [sv_rmR]
      have := h20 b' hb'
      rw [if_neg (by omega), if_neg (by omega), if_neg (by omega), t1, k.2.2.2.1 _ _ y (by omega), k.2.2.2.1 _ _ y (by omega), k.2.2.2.1 _ _ y (by omega)]
      exact ⟨q1, q2, q3, q4⟩
  · have ea : al σ' (fr σ' 1 (Y (310 + b))) = al σ (fr σ 1 (Y (310 + b))) := by rw [e1, (L.2.2.1 _ (hlt _ (isL10 hb))).2]
    unfold BUD at h10 ⊢
    show nx σ' ≤ bd.1 + (ln A + m + hs.length) + bd.2.2 + caps Y σ' ∧ sl σ' ≤ bd.2.1 + 11 * (ln A + m + hs.length) + 3 * bd.2.2 + 4 * caps Y σ'
    omega
/-- a request is put behind a row -/
theorem CRx.apR (h : CRx N Y bd hs σ A f m g rf) {b r : Nat} (hb : b < 2) (h20 : ∀ b', b' < 2 → rn A b' ≤ 19) (ht : tg σ r = 6) (hr : ADD σ σ' (Y (310 + b)) (rn A b) (rf b) r) : CRx N Y bd hs σ' (apR A b (fi σ 320 r) (fi σ 321 r) (fi σ 322 r)) f m g (fun b' => if b' = b then va_up (rf b) (rn A b) r else rf b') := by
  have hlt := h.lt
  have hs : ∀ k j, sv (Jvm.Pilot.@@N@@.apR A b (fi σ 320 r) (fi σ 321 r) (fi σ 322 r)) k j = if k = 24 ∧ j = 20 * b + rn A b then fi σ 322 r else if k = 23 ∧ j = 20 * b + rn A b then fi σ 321 r else if k = 22 ∧ j = 20 * b + rn A b then fi σ 320 r else sv A k j := fun _ _ => rfl
  obtain ⟨x1, x2, x3, x4, x5⟩ := h.oth (A' := Jvm.Pilot.@@N@@.apR A b (fi σ 320 r) (fi σ 321 r) (fi σ 322 r)) rfl (fun k j hk => by rw [hs, if_neg (by omega), if_neg (by omega), if_neg (by omega)])
  obtain ⟨h1, h2, h3, h4, h5, h6, h7, h8, h9, h10⟩ := h
  obtain ⟨L, hA, b1, b2, hF'⟩ := hr
  have k := L.kp (h7 b hb).1.kind
  have cE := L.capE h1 (isL10 hb) hlt
  have ry := h2.lt (r := r) (by omega)
  refine ⟨k.lay h2 h1, hF', k.shr h2 h1 x1, k.cor h2 h1 x2, k.msc h2 h1 x3, mar_kp k h2 (L.keepL k h2 h1 h9 (isL10 hb) (Or.inl rfl) (by omega) x4.1) (L.keepL k h2 h1 h9 (isL10 hb) (Or.inr (Or.inl rfl)) (by omega) x4.2.1) x4, fun b' hb' => ?_, k.acr h2 h1 x5, L.dis h1 h9 (isL10 hb) hlt, ?_⟩
  · have go : ∀ j', j' < rn A b' → tg σ' (rf b' j') = 6 ∧ fi σ' 320 (rf b' j') = sv A 22 (20 * b' + j') ∧ fi σ' 321 (rf b' j') = sv A 23 (20 * b' + j') ∧ fi σ' 322 (rf b' j') = sv A 24 (20 * b' + j') := by
      intro j' hj'
      obtain ⟨q1, q2, q3, q4⟩ := (h7 b' hb').2 j' hj'
      have y := h2.lt (r := rf b' j') (by omega)
      rw [(k.2.1 _ y).1, k.2.2.2.1 _ _ y (by omega), k.2.2.2.1 _ _ y (by omega), k.2.2.2.1 _ _ y (by omega)]
      exact ⟨q1, q2, q3, q4⟩
    have hb20 := h20 b' hb'
    rw [rn_apR]
    by_cases e : b' = b
    · subst e
      rw [if_pos rfl]
      simp only [eq_self, ite_true]
      refine ⟨hA, fun j hj => ?_⟩
      by_cases e2 : j = rn A b'
      · subst e2
        rw [va_up_self, (k.2.1 _ ry).1, k.2.2.2.1 _ _ ry (by omega), k.2.2.2.1 _ _ ry (by omega), k.2.2.2.1 _ _ ry (by omega)]
        refine ⟨ht, ?_, ?_, ?_⟩
        · rw [hs, if_neg (by omega), if_neg (by omega), if_pos ⟨rfl, rfl⟩]
        · rw [hs, if_neg (by omega), if_pos ⟨rfl, rfl⟩]
        · rw [hs, if_pos ⟨rfl, rfl⟩]
      · rw [va_up_ne _ r e2, hs, if_neg (by omega), if_neg (by omega), if_neg (by omega), hs, if_neg (by omega), if_neg (by omega), if_neg (by omega), hs, if_neg (by omega), if_neg (by omega), if_neg (by omega)]
        exact go j (by omega)
    · rw [if_neg e]
      simp only [if_neg e]
      refine ⟨L.keepL k h2 h1 h9 (isL10 hb) (isL10 hb') (by omega) (h7 b' hb').1, fun j hj => ?_⟩
      have := h20 b hb
      rw [hs, if_neg (by omega), if_neg (by omega), if_neg (by omega), hs, if_neg (by omega), if_neg (by omega), if_neg (by omega), hs, if_neg (by omega), if_neg (by omega), if_neg (by omega)]
      exact go j hj
  · unfold BUD at h10 ⊢
    show nx σ' ≤ bd.1 + (ln A + m + _) + bd.2.2 + caps Y σ' ∧ sl σ' ≤ bd.2.1 + 11 * (ln A + m + _) + 3 * bd.2.2 + 4 * caps Y σ'
    omega
/-- a new request -/
theorem CRx.nwR (h : CRx N Y bd hs σ A f m g rf) : CRx N Y (bd.1, bd.2.1, bd.2.2 + 1) hs (pnew σ 5 3) A f m g rf := by
  obtain ⟨d1, d2⟩ := dis_new h (ci := 5) (k := 3)
  obtain ⟨h1, h2, h3, h4, h5, h6, h7, h8, h9, h10⟩ := h
  have k : KP σ (pnew σ 5 3) := kp_new
  refine ⟨k.lay h2 h1, fr_new h2, k.shr h2 h1 h3, k.cor h2 h1 h4, k.msc h2 h1 h5, mar_kp k h2 (al_new h2 h6.1) (al_new h2 h6.2.1) h6, ror_kp k h2 (fun b hb => al_new h2 (h7 b hb).1) h7, k.acr h2 h1 h8, d1, ?_⟩
  unfold BUD at h10 ⊢
  rw [d2, nx_pnew, sl_pnew]
  show nx σ + 1 ≤ bd.1 + _ + (bd.2.2 + 1) + caps Y σ ∧ sl σ + 3 ≤ bd.2.1 + _ + 3 * (bd.2.2 + 1) + 4 * caps Y σ
  omega
end CRR
