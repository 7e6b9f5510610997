/-! WHAT THE CLASS'S OBJECTS HOLD. Y: where they lie (0: the mesh, 1..4: its arrays, 5: the mail, 6, 7: its lists, 100..: shares, 200..: cores, 300, 301: desks, 310, 311: their rows) -/
def Lay (N : Nat) (Y : Nat → Nat) (σ : PS) : Prop := (2 ≤ N ∧ N ≤ 4) ∧
  (tg σ (Y 0) = 8 ∧ fi σ 448 (Y 0) = nI N ∧ fi σ 449 (Y 0) = nI N ∧ fi σ 450 (Y 0) = nI (N + 1) ∧ fr σ 453 (Y 0) = Y 1 ∧ fr σ 454 (Y 0) = Y 2 ∧ fr σ 455 (Y 0) = Y 3 ∧ fr σ 456 (Y 0) = Y 4 ∧ fr σ 457 (Y 0) = Y 5) ∧
  (tg σ (Y 1) = 103 ∧ al σ (Y 1) = 2 * N + 2 ∧ ∀ i, i < 2 * N + 2 → ar σ (Y 1) i = Y (100 + i) ∧ tg σ (Y (100 + i)) = 7) ∧
  (tg σ (Y 2) = 104 ∧ al σ (Y 2) = N ∧ ∀ c, c < N → ar σ (Y 2) c = Y (200 + c) ∧ tg σ (Y (200 + c)) = 2) ∧
  (tg σ (Y 3) = 105 ∧ al σ (Y 3) = 2 ∧ ∀ b, b < 2 → ar σ (Y 3) b = Y (300 + b) ∧ tg σ (Y (300 + b)) = 3 ∧ fr σ 128 (Y (300 + b)) = Y (310 + b)) ∧
  (tg σ (Y 4) = 100 ∧ al σ (Y 4) = N) ∧ (tg σ (Y 5) = 5 ∧ fr σ 256 (Y 5) = Y 6 ∧ fr σ 257 (Y 5) = Y 7) ∧
  (∀ i j, i < 2 * N + 2 → j < 2 * N + 2 → Y (100 + i) = Y (100 + j) → i = j) ∧ (∀ i j, i < N → j < N → Y (200 + i) = Y (200 + j) → i = j) ∧ (∀ i j, i < 2 → j < 2 → Y (300 + i) = Y (300 + j) → i = j) ∧
  (Y 6 ≠ Y 7 ∧ Y 6 ≠ Y 310 ∧ Y 6 ≠ Y 311 ∧ Y 7 ≠ Y 310 ∧ Y 7 ≠ Y 311 ∧ Y 310 ≠ Y 311)
def SHR (N : Nat) (Y : Nat → Nat) (σ : PS) (A : AS) : Prop :=
  (∀ i, i < 2 * N + 2 → fi σ 384 (Y (100 + i)) = sv A 5 i) ∧ (∀ i, i < 2 * N + 2 → fi σ 385 (Y (100 + i)) = sv A 6 i) ∧ (∀ i, i < 2 * N + 2 → fi σ 386 (Y (100 + i)) = sv A 7 i) ∧ (∀ i, i < 2 * N + 2 → fi σ 387 (Y (100 + i)) = sv A 8 i) ∧
  (∀ i, i < 2 * N + 2 → fi σ 388 (Y (100 + i)) = sv A 9 i) ∧ (∀ i, i < 2 * N + 2 → fi σ 389 (Y (100 + i)) = sv A 10 i) ∧ (∀ i, i < 2 * N + 2 → fi σ 390 (Y (100 + i)) = sv A 11 i)
def COR (N : Nat) (Y : Nat → Nat) (σ : PS) (A : AS) : Prop :=
  (∀ c, c < N → fi σ 64 (Y (200 + c)) = sv A 17 c) ∧ (∀ c, c < N → fi σ 65 (Y (200 + c)) = sv A 12 c) ∧ (∀ c, c < N → fi σ 66 (Y (200 + c)) = sv A 13 c) ∧ (∀ c, c < N → fi σ 67 (Y (200 + c)) = sv A 15 c) ∧ (∀ c, c < N → fi σ 68 (Y (200 + c)) = sv A 16 c) ∧
  (∀ c, c < N → fi σ 69 (Y (200 + c)) = sv A 18 c) ∧ (∀ c, c < N → fi σ 70 (Y (200 + c)) = sv A 19 c) ∧ (∀ c, c < N → fi σ 71 (Y (200 + c)) = sv A 14 c) ∧ (∀ c, c < N → fi σ 72 (Y (200 + c)) = sv A 20 c) ∧ (∀ c, c < N → fi σ 73 (Y (200 + c)) = sv A 21 c)
def MSC (N : Nat) (Y : Nat → Nat) (σ : PS) (A : AS) : Prop := fi σ 451 (Y 0) = sv A 2 0 ∧ fi σ 452 (Y 0) = sv A 3 0 ∧ fi σ 458 (Y 0) = sv A 4 0 ∧ ∀ c, c < N → ai σ (Y 4) c = sv A 27 c
/-- the letter at a is the i-th -/
def LTR (σ : PS) (a : Nat) (A : AS) (i : Nat) : Prop := fi σ 192 a = sv A 29 i ∧ fi σ 193 a = sv A 31 i ∧ fi σ 194 a = sv A 30 i ∧ fi σ 195 a = sv A 32 i ∧ fi σ 196 a = sv A 33 i ∧ fi σ 197 a = sv A 34 i ∧ fi σ 198 a = sv A 35 i ∧ fi σ 199 a = sv A 36 i ∧ fi σ 200 a = sv A 37 i ∧ fi σ 201 a = sv A 38 i ∧ fi σ 202 a = sv A 39 i
/-- the mail: f waits, g is spare, hs is in hand -/
def MAR (Y : Nat → Nat) (hs : List Nat) (σ : PS) (A : AS) (f : Nat → Nat) (m : Nat) (g : Nat → Nat) : Prop :=
  AL σ (Y 6) (ln A) f ∧ AL σ (Y 7) m g ∧ (∀ i, i < ln A → tg σ (f i) = 4 ∧ LTR σ (f i) A i) ∧ (∀ j, j < m → tg σ (g j) = 4) ∧ (∀ i j, i < ln A → j < ln A → f i = f j → i = j) ∧ (∀ i j, i < m → j < m → g i = g j → i = j) ∧ (∀ i j, i < ln A → j < m → f i ≠ g j) ∧
  (∀ h ∈ hs, tg σ h = 4 ∧ (∀ i, i < ln A → f i ≠ h) ∧ ∀ j, j < m → g j ≠ h) ∧ hs.Nodup ∧ ln A + m + hs.length ≤ 70
def ROR (Y : Nat → Nat) (σ : PS) (A : AS) (rf : Nat → Nat → Nat) : Prop := ∀ b, b < 2 → AL σ (Y (310 + b)) (rn A b) (rf b) ∧ ∀ i, i < rn A b → tg σ (rf b i) = 6 ∧ fi σ 320 (rf b i) = sv A 22 (20 * b + i) ∧ fi σ 321 (rf b i) = sv A 23 (20 * b + i) ∧ fi σ 322 (rf b i) = sv A 24 (20 * b + i)
def ACR (Y : Nat → Nat) (σ : PS) (A : AS) : Prop := ∀ b, b < 2 → fi σ 130 (Y (300 + b)) = sv A 42 b ∧ ((fr σ 129 (Y (300 + b)) = 0 ∧ sv A 40 b = -1) ∨ (tg σ (fr σ 129 (Y (300 + b))) = 6 ∧ fi σ 320 (fr σ 129 (Y (300 + b))) = sv A 40 b ∧ fi σ 321 (fr σ 129 (Y (300 + b))) = sv A 26 b ∧ fi σ 322 (fr σ 129 (Y (300 + b))) = sv A 41 b ∧ sv A 40 b ≠ -1))
/-- no two lists share an array -/
def DIS (Y : Nat → Nat) (σ : PS) : Prop := ∀ l l', (l = 6 ∨ l = 7 ∨ l = 310 ∨ l = 311) → (l' = 6 ∨ l' = 7 ∨ l' = 310 ∨ l' = 311) → l ≠ l' → tg σ (fr σ 1 (Y l)) = 102 → fr σ 1 (Y l) ≠ fr σ 1 (Y l')
def caps (Y : Nat → Nat) (σ : PS) : Nat := al σ (fr σ 1 (Y 6)) + al σ (fr σ 1 (Y 7)) + al σ (fr σ 1 (Y 310)) + al σ (fr σ 1 (Y 311))
/-- what has been made: bd.1, bd.2.1 at first, bd.2.2 requests -/
def BUD (Y : Nat → Nat) (bd : Nat × Nat × Nat) (σ : PS) (t : Nat) : Prop := nx σ ≤ bd.1 + t + bd.2.2 + caps Y σ ∧ sl σ ≤ bd.2.1 + 11 * t + 3 * bd.2.2 + 4 * caps Y σ
def CRx (N : Nat) (Y : Nat → Nat) (bd : Nat × Nat × Nat) (hs : List Nat) (σ : PS) (A : AS) (f : Nat → Nat) (m : Nat) (g : Nat → Nat) (rf : Nat → Nat → Nat) : Prop :=
  Lay N Y σ ∧ FR σ ∧ SHR N Y σ A ∧ COR N Y σ A ∧ MSC N Y σ A ∧ MAR Y hs σ A f m g ∧ ROR Y σ A rf ∧ ACR Y σ A ∧ DIS Y σ ∧ BUD Y bd σ (ln A + m + hs.length)
def CR (N : Nat) (Y : Nat → Nat) (bd : Nat × Nat × Nat) (hs : List Nat) (σ : PS) (A : AS) : Prop := ∃ f m g rf, CRx N Y bd hs σ A f m g rf
theorem FR.lt {σ : PS} (h : FR σ) {r : Nat} (ht : tg σ r ≠ 0) : r < nx σ := by
  rcases Nat.lt_or_ge r (nx σ) with q | q
  · exact q
  · exact absurd (h.2 r q) ht
/-- nothing but lists and what is new has changed -/
def KP (σ σ' : PS) : Prop := nx σ ≤ nx σ' ∧ (∀ r, r < nx σ → tg σ' r = tg σ r ∧ al σ' r = al σ r) ∧ (∀ r j, r < nx σ → ai σ' r j = ai σ r j) ∧ (∀ i r, r < nx σ → 3 ≤ i → fi σ' i r = fi σ i r) ∧ (∀ i r, r < nx σ → i ≠ 1 → fr σ' i r = fr σ i r) ∧ ∀ r j, r < nx σ → tg σ r ≠ 102 → tg σ r ≠ 99 → ar σ' r j = ar σ r j
theorem LF.kp {σ σ' : PS} {l : Nat} (h : LF σ σ' l) (he : tg σ (fr σ 1 l) = 102 ∨ tg σ (fr σ 1 l) = 99) : KP σ σ' := by
  obtain ⟨h1, h2, h3, h4, h5, h6, h7, h8⟩ := h
  exact ⟨h1, h3, h4, fun i r _ hi => h5 i r (Or.inr hi), fun i r _ hi => h6 i r (Or.inr hi), fun r j hr a b => h7 r j hr (by rintro rfl; rcases he with q | q <;> omega)⟩
theorem KP.lay {N : Nat} {Y : Nat → Nat} {σ σ' : PS} (k : KP σ σ') (hF : FR σ) (h : Lay N Y σ) : Lay N Y σ' := by
  obtain ⟨k1, k2, k3, k4, k5, k6⟩ := k
  obtain ⟨a0, ⟨b1, b2, b3, b4, b5, b6, b7, b8, b9⟩, ⟨c1, c2, c3⟩, ⟨d1, d2, d3⟩, ⟨e1, e2, e3⟩, ⟨f1, f2⟩, ⟨g1, g2, g3⟩, rest⟩ := h
  have x0 := hF.lt (r := Y 0) (by omega)
  have x1 := hF.lt (r := Y 1) (by omega)
  have x2 := hF.lt (r := Y 2) (by omega)
  have x3 := hF.lt (r := Y 3) (by omega)
  have x4 := hF.lt (r := Y 4) (by omega)
  have x5 := hF.lt (r := Y 5) (by omega)
  refine ⟨a0, ⟨?_, ?_, ?_, ?_, ?_, ?_, ?_, ?_, ?_⟩, ⟨?_, ?_, fun i hi => ⟨?_, ?_⟩⟩, ⟨?_, ?_, fun c hc => ⟨?_, ?_⟩⟩, ⟨?_, ?_, fun b hb => ⟨?_, ?_, ?_⟩⟩, ⟨?_, ?_⟩, ⟨?_, ?_, ?_⟩, rest⟩
  · rw [(k2 _ x0).1]; exact b1
  · rw [k4 _ _ x0 (by omega)]; exact b2
  · rw [k4 _ _ x0 (by omega)]; exact b3
  · rw [k4 _ _ x0 (by omega)]; exact b4
  · rw [k5 _ _ x0 (by omega)]; exact b5
  · rw [k5 _ _ x0 (by omega)]; exact b6
  · rw [k5 _ _ x0 (by omega)]; exact b7
  · rw [k5 _ _ x0 (by omega)]; exact b8
  · rw [k5 _ _ x0 (by omega)]; exact b9
  · rw [(k2 _ x1).1]; exact c1
  · rw [(k2 _ x1).2]; exact c2
  · rw [k6 _ _ x1 (by omega) (by omega)]; exact (c3 i hi).1
  · rw [(k2 _ (hF.lt (by have := (c3 i hi).2; omega))).1]; exact (c3 i hi).2
  · rw [(k2 _ x2).1]; exact d1
  · rw [(k2 _ x2).2]; exact d2
  · rw [k6 _ _ x2 (by omega) (by omega)]; exact (d3 c hc).1
  · rw [(k2 _ (hF.lt (by have := (d3 c hc).2; omega))).1]; exact (d3 c hc).2
  · rw [(k2 _ x3).1]; exact e1
  · rw [(k2 _ x3).2]; exact e2
  · rw [k6 _ _ x3 (by omega) (by omega)]; exact (e3 b hb).1
  · rw [(k2 _ (hF.lt (by have := (e3 b hb).2.1; omega))).1]; exact (e3 b hb).2.1
  · rw [k5 _ _ (hF.lt (by have := (e3 b hb).2.1; omega)) (by omega)]; exact (e3 b hb).2.2
  · rw [(k2 _ x4).1]; exact f1
  · rw [(k2 _ x4).2]; exact f2
  · rw [(k2 _ x5).1]; exact g1
  · rw [k5 _ _ x5 (by omega)]; exact g2
  · rw [k5 _ _ x5 (by omega)]; exact g3
theorem Lay.sh {N : Nat} {Y : Nat → Nat} {σ : PS} (h : Lay N Y σ) {i : Nat} (hi : i < 2 * N + 2) : tg σ (Y (100 + i)) = 7 := (h.2.2.1.2.2 i hi).2
theorem Lay.co {N : Nat} {Y : Nat → Nat} {σ : PS} (h : Lay N Y σ) {i : Nat} (hi : i < N) : tg σ (Y (200 + i)) = 2 := (h.2.2.2.1.2.2 i hi).2
theorem Lay.dk {N : Nat} {Y : Nat → Nat} {σ : PS} (h : Lay N Y σ) {i : Nat} (hi : i < 2) : tg σ (Y (300 + i)) = 3 := (h.2.2.2.2.1.2.2 i hi).2.1
theorem KP.shr {N : Nat} {Y : Nat → Nat} {σ σ' : PS} {A : AS} (k : KP σ σ') (hF : FR σ) (hL : Lay N Y σ) (h : SHR N Y σ A) : SHR N Y σ' A := by
  have x : ∀ i, i < 2 * N + 2 → Y (100 + i) < nx σ := fun i hi => hF.lt (by have := hL.sh hi; omega)
  obtain ⟨h1, h2, h3, h4, h5, h6, h7⟩ := h
  obtain ⟨-, -, -, k4, -⟩ := k
  refine ⟨fun i hi => ?_, fun i hi => ?_, fun i hi => ?_, fun i hi => ?_, fun i hi => ?_, fun i hi => ?_, fun i hi => ?_⟩ <;> rw [k4 _ _ (x i hi) (by omega)]
  · exact h1 i hi
  · exact h2 i hi
  · exact h3 i hi
  · exact h4 i hi
  · exact h5 i hi
  · exact h6 i hi
  · exact h7 i hi
theorem KP.cor {N : Nat} {Y : Nat → Nat} {σ σ' : PS} {A : AS} (k : KP σ σ') (hF : FR σ) (hL : Lay N Y σ) (h : COR N Y σ A) : COR N Y σ' A := by
  have x : ∀ i, i < N → Y (200 + i) < nx σ := fun i hi => hF.lt (by have := hL.co hi; omega)
  obtain ⟨h1, h2, h3, h4, h5, h6, h7, h8, h9, h10⟩ := h
  obtain ⟨-, -, -, k4, -⟩ := k
  refine ⟨fun i hi => ?_, fun i hi => ?_, fun i hi => ?_, fun i hi => ?_, fun i hi => ?_, fun i hi => ?_, fun i hi => ?_, fun i hi => ?_, fun i hi => ?_, fun i hi => ?_⟩ <;> rw [k4 _ _ (x i hi) (by omega)]
  · exact h1 i hi
  · exact h2 i hi
  · exact h3 i hi
  · exact h4 i hi
  · exact h5 i hi
  · exact h6 i hi
  · exact h7 i hi
  · exact h8 i hi
  · exact h9 i hi
  · exact h10 i hi
theorem KP.msc {N : Nat} {Y : Nat → Nat} {σ σ' : PS} {A : AS} (k : KP σ σ') (hF : FR σ) (hL : Lay N Y σ) (h : MSC N Y σ A) : MSC N Y σ' A := by
  have x0 := hF.lt (r := Y 0) (by have := hL.2.1.1; omega)
  have x4 := hF.lt (r := Y 4) (by have := hL.2.2.2.2.2.1.1; omega)
  obtain ⟨h1, h2, h3, h4⟩ := h
  obtain ⟨-, -, k3, k4, -⟩ := k
  refine ⟨?_, ?_, ?_, fun c hc => ?_⟩
  · rw [k4 _ _ x0 (by omega)]; exact h1
  · rw [k4 _ _ x0 (by omega)]; exact h2
  · rw [k4 _ _ x0 (by omega)]; exact h3
  · rw [k3 _ _ x4]; exact h4 c hc
theorem KP.ltr {σ σ' : PS} {A : AS} {a i : Nat} (k : KP σ σ') (ha : a < nx σ) (h : LTR σ a A i) : LTR σ' a A i := by
  obtain ⟨-, -, -, k4, -⟩ := k
  unfold LTR
  rw [k4 192 a ha (by omega), k4 193 a ha (by omega), k4 194 a ha (by omega), k4 195 a ha (by omega), k4 196 a ha (by omega), k4 197 a ha (by omega), k4 198 a ha (by omega), k4 199 a ha (by omega), k4 200 a ha (by omega), k4 201 a ha (by omega), k4 202 a ha (by omega)]
  exact h
theorem KP.acr {N : Nat} {Y : Nat → Nat} {σ σ' : PS} {A : AS} (k : KP σ σ') (hF : FR σ) (hL : Lay N Y σ) (h : ACR Y σ A) : ACR Y σ' A := by
  intro b hb
  have x := hF.lt (r := Y (300 + b)) (by have := hL.dk hb; omega)
  obtain ⟨h1, h2⟩ := h b hb
  obtain ⟨-, k2, -, k4, k5, -⟩ := k
  rw [k4 _ _ x (by omega), k5 _ _ x (by omega)]
  refine ⟨h1, ?_⟩
  rcases h2 with h2 | ⟨q1, q2, q3, q4, q5⟩
  · exact Or.inl h2
  · have y := hF.lt (r := fr σ 129 (Y (300 + b))) (by omega)
    rw [(k2 _ y).1, k4 _ _ y (by omega), k4 _ _ y (by omega), k4 _ _ y (by omega)]
    exact Or.inr ⟨q1, q2, q3, q4, q5⟩
/-- a list that was left alone -/
theorem KP.keepL {σ σ' : PS} {l n : Nat} {f : Nat → Nat} (k : KP σ σ') (hF : FR σ) (h : AL σ l n f) (h1 : fi σ' 2 l = fi σ 2 l) (h2 : fr σ' 1 l = fr σ 1 l) (h3 : ∀ j, j < n → ar σ' (fr σ 1 l) j = ar σ (fr σ 1 l) j) : AL σ' l n f := by
  obtain ⟨a1, a2, a3, a4, a5, a6, a7, a8, a9⟩ := h
  obtain ⟨k1, k2, -⟩ := k
  unfold AL
  rw [(k2 l a7).1, h1, h2, (k2 _ a6).1, (k2 _ a6).2]
  refine ⟨a1, a2, a3, a4, a5, by omega, by omega, a8, fun i hi => ?_⟩
  rw [h3 i hi]
  obtain ⟨q1, q2⟩ := a9 i hi
  refine ⟨q1, ?_⟩
  rw [(k2 _ (hF.lt (by omega))).1]
  exact q2
