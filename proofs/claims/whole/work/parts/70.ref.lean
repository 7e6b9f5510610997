/-! THE REFERENCE: its arrays against the state as numbers. Z k: where the array of kind k lies; E: the places of which nothing is said -/
def isZ (k : Nat) : Bool := decide ((5 ≤ k ∧ k ≤ 27) ∨ (29 ≤ k ∧ k ≤ 39))
def tz (k : Nat) : Nat := if k = 6 ∨ k = 7 ∨ k = 10 ∨ k = 12 ∨ k = 13 ∨ k = 14 ∨ k = 24 ∨ k = 34 ∨ k = 35 ∨ k = 39 then 101 else 100
def lz (k : Nat) : Nat := if k ≤ 11 then 10 else if k ≤ 21 then 4 else if k ≤ 24 then 40 else if k ≤ 26 then 2 else if k = 27 then 4 else 120
def RLy (N m : Nat) (Z : Nat → Nat) (σ : PS) : Prop := (2 ≤ N ∧ N ≤ 4) ∧ tg σ m = 9 ∧ fi σ 513 m = nI N ∧ (∀ k, isZ k = true → fr σ (512 + k) m = Z k ∧ tg σ (Z k) = tz k ∧ al σ (Z k) = lz k) ∧ ∀ k k', isZ k = true → isZ k' = true → Z k = Z k' → k = k'
/-- nothing but the reference's own has changed -/
def FQ (m : Nat) (Z : Nat → Nat) (σ σ' : PS) : Prop := σ'.1 = σ.1 ∧ fr σ' = fr σ ∧ al σ' = al σ ∧ ar σ' = ar σ ∧ (∀ k r, (k < 512 ∨ r ≠ m) → fi σ' k r = fi σ k r) ∧ ∀ r j, (∀ k, isZ k = true → r ≠ Z k) → ai σ' r j = ai σ r j
def RX (N m : Nat) (Z : Nat → Nat) (σ0 : PS) (E : Nat → Nat → Prop) (σ : PS) (A : AS) : Prop := RLy N m Z σ ∧ FQ m Z σ0 σ ∧ (fi σ 514 m = sv A 2 0 ∧ fi σ 515 m = sv A 3 0 ∧ fi σ 516 m = sv A 4 0 ∧ fi σ 540 m = nI (ln A)) ∧ (∀ b, b < 2 → ai σ (Z 25) b = nI (rn A b)) ∧ (∀ k i, isZ k = true → k ≠ 25 → i < lz k → ¬ E k i → ai σ (Z k) i = sv A k i) ∧ ∀ k i, isZ k = true → tz k = 101 → i < lz k → bz (ai σ (Z k) i)
def stL (A : AS) (n : Nat) : AS := (n, rn A, sv A)
def stR (A : AS) (b n : Nat) : AS := (ln A, (fun b' => if b' = b then n else rn A b'), sv A)
section RowsX
variable {M : MM} {d pc : Nat} {lv : List (Nat × PV)} {st : List PV} {σ : PS} {P : Option PV → PS → Prop} {N m : Nat} {Z : Nat → Nat} {σ0 : PS} {E : Nat → Nat → Prop} {A : AS}
theorem RX.tg (h : RX N m Z σ0 E σ A) : tg σ m = 9 := h.1.2.1
theorem RX.hN (h : RX N m Z σ0 E σ A) : 2 ≤ N ∧ N ≤ 4 := h.1.1
theorem x_gf (k : Nat) {idx : Nat} (hR : RX N m Z σ0 E σ A) (hd : decode M.2.1 pc = .ok (.getfield idx, 3)) (hf : FS M.1.cls idx 8 k) (hr : isR 8 k = true) (hk : isZ k = true) (kk : Wp M d (pc + 3) lv (.inr (Z k) :: st) σ P) : Wp M d pc lv (.inr m :: st) σ P :=
  p_gRv (512 + k) hd hf hr rfl hR.1.2.1 (hR.1.2.2.2.1 k hk).1 kk
theorem x_gN {idx : Nat} (hR : RX N m Z σ0 E σ A) (hd : decode M.2.1 pc = .ok (.getfield idx, 3)) (hf : FS M.1.cls idx 8 1) (hr : isR 8 1 = false) (kk : Wp M d (pc + 3) lv (.inl (nI N) :: st) σ P) : Wp M d pc lv (.inr m :: st) σ P :=
  p_gIv 513 hd hf hr rfl hR.1.2.1 hR.1.2.2.1 kk
theorem x_g2 {idx : Nat} (hR : RX N m Z σ0 E σ A) (hd : decode M.2.1 pc = .ok (.getfield idx, 3)) (hf : FS M.1.cls idx 8 2) (hr : isR 8 2 = false) (kk : Wp M d (pc + 3) lv (.inl (sv A 2 0) :: st) σ P) : Wp M d pc lv (.inr m :: st) σ P :=
  p_gIv 514 hd hf hr rfl hR.1.2.1 hR.2.2.1.1 kk
theorem x_g3 {idx : Nat} (hR : RX N m Z σ0 E σ A) (hd : decode M.2.1 pc = .ok (.getfield idx, 3)) (hf : FS M.1.cls idx 8 3) (hr : isR 8 3 = false) (kk : Wp M d (pc + 3) lv (.inl (sv A 3 0) :: st) σ P) : Wp M d pc lv (.inr m :: st) σ P :=
  p_gIv 515 hd hf hr rfl hR.1.2.1 hR.2.2.1.2.1 kk
theorem x_g4 {idx : Nat} (hR : RX N m Z σ0 E σ A) (hd : decode M.2.1 pc = .ok (.getfield idx, 3)) (hf : FS M.1.cls idx 8 4) (hr : isR 8 4 = false) (kk : Wp M d (pc + 3) lv (.inl (sv A 4 0) :: st) σ P) : Wp M d pc lv (.inr m :: st) σ P :=
  p_gIv 516 hd hf hr rfl hR.1.2.1 hR.2.2.1.2.2.1 kk
theorem x_gL {idx : Nat} (hR : RX N m Z σ0 E σ A) (hd : decode M.2.1 pc = .ok (.getfield idx, 3)) (hf : FS M.1.cls idx 8 28) (hr : isR 8 28 = false) (kk : Wp M d (pc + 3) lv (.inl (nI (ln A)) :: st) σ P) : Wp M d pc lv (.inr m :: st) σ P :=
  p_gIv 540 hd hf hr rfl hR.1.2.1 hR.2.2.1.2.2.2 kk
/-- a field of the reference's is written -/
theorem RX.pf {k : Nat} {v : Int32} (h : RX N m Z σ0 E σ A) (hk : k = 512 ∨ k = 516 ∨ k = 540) {A' : AS} (e1 : k = 540 → v = nI (ln A')) (e1' : k ≠ 540 → ln A' = ln A) (e2 : k = 516 → v = sv A' 4 0) (e2' : k ≠ 516 → sv A' 4 0 = sv A 4 0) (e3 : rn A' = rn A) (e4 : ∀ k i, k ≠ 4 → sv A' k i = sv A k i) : RX N m Z σ0 E (pfi σ k m v) A' := by
  obtain ⟨⟨a1, a2, a3, a4, a5⟩, ⟨b1, b2, b3, b4, b5, b6⟩, ⟨c1, c2, c3, c4⟩, h4, h5, h6⟩ := h
  refine ⟨⟨a1, a2, ?_, a4, a5⟩, ⟨b1, b2, b3, b4, fun k' r hr => ?_, b6⟩, ⟨?_, ?_, ?_, ?_⟩, fun b hb => ?_, fun k' i y1 y2 y3 y4 => ?_, h6⟩
  · rw [fi_pfi, if_neg (by omega)]; exact a3
  · rw [fi_pfi, if_neg (by omega)]; exact b5 k' r hr
  · rw [fi_pfi, if_neg (by omega), e4 2 0 (by omega)]; exact c1
  · rw [fi_pfi, if_neg (by omega), e4 3 0 (by omega)]; exact c2
  · rw [fi_pfi]
    by_cases z : k = 516
    · rw [if_pos ⟨z.symm, rfl⟩]; exact e2 z
    · rw [if_neg (by omega), e2' z]; exact c3
  · rw [fi_pfi]
    by_cases z : k = 540
    · rw [if_pos ⟨z.symm, rfl⟩]; exact e1 z
    · rw [if_neg (by omega), e1' z]; exact c4
  · rw [e3]; exact h4 b hb
  · have hk4 : k' ≠ 4 := by rintro rfl; exact absurd y1 (by decide)
    rw [e4 k' i hk4]
    exact h5 k' i y1 y2 y3 y4
theorem x_pL (n : Nat) {idx : Nat} {x : Int32} (hR : RX N m Z σ0 E σ A) (hd : decode M.2.1 pc = .ok (.putfield idx, 3)) (hf : FS M.1.cls idx 8 28) (hfin : FinOk M 8 28) (hx : x = nI n) (kk : ∀ σ', RX N m Z σ0 E σ' (stL A n) → ai σ' = ai σ → Wp M d (pc + 3) lv st σ' P) : Wp M d pc lv (.inl x :: .inr m :: st) σ P :=
  p_pI 540 hd hf rfl rfl hfin rfl hR.1.2.1 (kk _ (hR.pf (Or.inr (Or.inr rfl)) (fun _ => hx) (fun z => absurd rfl z) (fun z => absurd z (by decide)) (fun _ => rfl) rfl (fun _ _ _ => rfl)) rfl)
theorem x_pt {idx : Nat} {x : Int32} (hR : RX N m Z σ0 E σ A) (hd : decode M.2.1 pc = .ok (.putfield idx, 3)) (hf : FS M.1.cls idx 8 4) (hfin : FinOk M 8 4) (kk : ∀ σ', RX N m Z σ0 E σ' (set1 A 4 0 x) → Wp M d (pc + 3) lv st σ' P) : Wp M d pc lv (.inl x :: .inr m :: st) σ P :=
  p_pI 516 hd hf rfl rfl hfin rfl hR.1.2.1 (kk _ (hR.pf (Or.inr (Or.inl rfl)) (fun z => absurd z (by decide)) (fun _ => rfl) (fun _ => by rw [sv_set1, if_pos ⟨rfl, rfl⟩]) (fun z => absurd rfl z) rfl (fun k i hk => by rw [sv_set1, if_neg (by omega)])))
theorem x_p0 {idx : Nat} {x : Int32} (hR : RX N m Z σ0 E σ A) (hd : decode M.2.1 pc = .ok (.putfield idx, 3)) (hf : FS M.1.cls idx 8 0) (hfin : FinOk M 8 0) (kk : ∀ σ', RX N m Z σ0 E σ' A → Wp M d (pc + 3) lv st σ' P) : Wp M d pc lv (.inl x :: .inr m :: st) σ P :=
  p_pI 512 hd hf rfl rfl hfin rfl hR.1.2.1 (kk _ (hR.pf (Or.inl rfl) (fun z => absurd z (by decide)) (fun _ => rfl) (fun z => absurd z (by decide)) (fun _ => rfl) rfl (fun _ _ _ => rfl)))
theorem lz_lt {k : Nat} : lz k < 2 ^ 31 := by
  unfold lz
  split <;> (try split) <;> (try split) <;> (try split) <;> (try split) <;> omega
theorem tz_or {k : Nat} : tz k = 100 ∨ tz k = 101 := by
  unfold tz
  split
  · exact Or.inr rfl
  · exact Or.inl rfl
/-- a number is read -/
theorem x_lr (k : Nat) {n : Nat} {j v : Int32} (hR : RX N m Z σ0 E σ A) (hk : isZ k = true) (ht : tz k = 100) (hd : decode M.2.1 pc = .ok (.iaload, 1)) (hj : j = nI n) (hn : n < lz k) (hv : ai σ (Z k) n = v) (kk : Wp M d (pc + 1) lv (.inl v :: st) σ P) : Wp M d pc lv (.inl j :: .inr (Z k) :: st) σ P := by
  have q := hR.1.2.2.2.1 k hk
  refine p_iald hd (q.2.1.trans ht) hj (by rw [q.2.2]; exact hn) (Nat.lt_trans hn lz_lt) ?_
  rw [hv]; exact kk
theorem x_lrb (k : Nat) {n : Nat} {j v : Int32} (hR : RX N m Z σ0 E σ A) (hk : isZ k = true) (ht : tz k = 101) (hd : decode M.2.1 pc = .ok (.baload, 1)) (hj : j = nI n) (hn : n < lz k) (hv : ai σ (Z k) n = v) (kk : Wp M d (pc + 1) lv (.inl v :: st) σ P) : Wp M d pc lv (.inl j :: .inr (Z k) :: st) σ P := by
  have q := hR.1.2.2.2.1 k hk
  refine p_zald hd (q.2.1.trans ht) hj (by rw [q.2.2]; exact hn) (Nat.lt_trans hn lz_lt) ?_
  rw [hv]; exact kk
/-- an array of the reference's is written -/
theorem RX.pa {k n : Nat} {v : Int32} (h : RX N m Z σ0 E σ A) (hk : isZ k = true) (hv : tz k = 101 → bz v) {E' : Nat → Nat → Prop} {A' : AS} (e1 : ln A' = ln A) (e2 : ∀ b, b < 2 → nI (rn A' b) = if k = 25 ∧ b = n then v else nI (rn A b)) (e3 : ∀ k, k < 5 → sv A' k 0 = sv A k 0)
    (e4 : ∀ k' i, isZ k' = true → k' ≠ 25 → i < lz k' → ¬ E' k' i → ¬ (k' = k ∧ i = n) → ¬ E k' i ∧ sv A' k' i = sv A k' i) (e5 : k ≠ 25 → ¬ E' k n → v = sv A' k n) : RX N m Z σ0 E' (pai σ (Z k) n v) A' := by
  obtain ⟨⟨a1, a2, a3, a4, a5⟩, ⟨b1, b2, b3, b4, b5, b6⟩, ⟨c1, c2, c3, c4⟩, h4, h5, h6⟩ := h
  refine ⟨⟨a1, a2, a3, a4, a5⟩, ⟨b1, b2, b3, b4, b5, fun r j hr => ?_⟩, ⟨?_, ?_, ?_, ?_⟩, fun b hb => ?_, fun k' i y1 y2 y3 y4 => ?_, fun k' i y1 y2 y3 => ?_⟩
  · rw [ai_pai, if_neg (fun z => hr k hk z.1)]; exact b6 r j hr
  · rw [e3 2 (by omega)]; exact c1
  · rw [e3 3 (by omega)]; exact c2
  · rw [e3 4 (by omega)]; exact c3
  · rw [e1]; exact c4
  · rw [e2 b hb, ai_pai]
    by_cases z : k = 25 ∧ b = n
    · rw [if_pos z, if_pos ⟨by rw [z.1], z.2⟩]
    · rw [if_neg z, if_neg (fun y => z ⟨(a5 25 k rfl hk y.1).symm, y.2⟩)]
      exact h4 b hb
  · rw [ai_pai]
    by_cases z : k' = k ∧ i = n
    · rw [if_pos ⟨by rw [z.1], z.2⟩, z.1, z.2]
      exact e5 (by rw [← z.1]; exact y2) (by rw [← z.1, ← z.2]; exact y4)
    · rw [if_neg (fun y => z ⟨a5 k' k y1 hk y.1, y.2⟩)]
      obtain ⟨q1, q2⟩ := e4 k' i y1 y2 y3 y4 z
      rw [q2]
      exact h5 k' i y1 y2 y3 q1
  · rw [ai_pai]
    by_cases z : k' = k ∧ i = n
    · rw [if_pos ⟨by rw [z.1], z.2⟩]
      exact hv (by rw [← z.1]; exact y2)
    · rw [if_neg (fun y => z ⟨a5 k' k y1 hk y.1, y.2⟩)]
      exact h6 k' i y1 y2 y3
/-- other words for the same -/
theorem RX.cg (h : RX N m Z σ0 E σ A) {E' : Nat → Nat → Prop} {A' : AS} (e1 : ln A' = ln A) (e2 : ∀ b, b < 2 → rn A' b = rn A b) (e3 : ∀ k, k < 5 → sv A' k 0 = sv A k 0) (e4 : ∀ k' i, isZ k' = true → k' ≠ 25 → i < lz k' → ¬ E' k' i → ¬ E k' i ∧ sv A' k' i = sv A k' i) : RX N m Z σ0 E' σ A' := by
  obtain ⟨h1, h2, ⟨c1, c2, c3, c4⟩, h4, h5, h6⟩ := h
  refine ⟨h1, h2, ⟨?_, ?_, ?_, ?_⟩, fun b hb => ?_, fun k' i y1 y2 y3 y4 => ?_, h6⟩
  · rw [e3 2 (by omega)]; exact c1
  · rw [e3 3 (by omega)]; exact c2
  · rw [e3 4 (by omega)]; exact c3
  · rw [e1]; exact c4
  · rw [e2 b hb]; exact h4 b hb
  · obtain ⟨q1, q2⟩ := e4 k' i y1 y2 y3 y4
    rw [q2]; exact h5 k' i y1 y2 y3 q1
theorem x_st (k : Nat) {n : Nat} {j v : Int32} {E' : Nat → Nat → Prop} (A' : AS) (hR : RX N m Z σ0 E σ A) (hk : isZ k = true) (ht : tz k = 100) (hd : decode M.2.1 pc = .ok (.iastore, 1)) (hj : j = nI n) (hn : n < lz k) (e1 : ln A' = ln A) (e2 : ∀ b, b < 2 → nI (rn A' b) = if k = 25 ∧ b = n then v else nI (rn A b)) (e3 : ∀ k, k < 5 → sv A' k 0 = sv A k 0)
    (e4 : ∀ k' i, isZ k' = true → k' ≠ 25 → i < lz k' → ¬ E' k' i → ¬ (k' = k ∧ i = n) → ¬ E k' i ∧ sv A' k' i = sv A k' i) (e5 : k ≠ 25 → ¬ E' k n → v = sv A' k n)
    (kk : ∀ σ', RX N m Z σ0 E' σ' A' → (∀ k' i, isZ k' = true → ¬ (k' = k ∧ i = n) → ai σ' (Z k') i = ai σ (Z k') i) → Wp M d (pc + 1) lv st σ' P) : Wp M d pc lv (.inl v :: .inl j :: .inr (Z k) :: st) σ P := by
  have q := hR.1.2.2.2.1 k hk
  refine p_iast hd (q.2.1.trans ht) hj (by rw [q.2.2]; exact hn) (Nat.lt_trans hn lz_lt) (kk _ (hR.pa hk (fun z => by omega) e1 e2 e3 e4 e5) (fun k' i y1 y2 => ?_))
  rw [ai_pai, if_neg (fun y => y2 ⟨hR.1.2.2.2.2 k' k y1 hk y.1, y.2⟩)]
theorem x_sb (k : Nat) {n : Nat} {j v : Int32} {E' : Nat → Nat → Prop} (A' : AS) (hR : RX N m Z σ0 E σ A) (hk : isZ k = true) (ht : tz k = 101) (hd : decode M.2.1 pc = .ok (.bastore, 1)) (hj : j = nI n) (hn : n < lz k) (hv : bz v) (e1 : ln A' = ln A) (e2 : ∀ b, b < 2 → nI (rn A' b) = if k = 25 ∧ b = n then v else nI (rn A b)) (e3 : ∀ k, k < 5 → sv A' k 0 = sv A k 0)
    (e4 : ∀ k' i, isZ k' = true → k' ≠ 25 → i < lz k' → ¬ E' k' i → ¬ (k' = k ∧ i = n) → ¬ E k' i ∧ sv A' k' i = sv A k' i) (e5 : k ≠ 25 → ¬ E' k n → v = sv A' k n)
    (kk : ∀ σ', RX N m Z σ0 E' σ' A' → (∀ k' i, isZ k' = true → ¬ (k' = k ∧ i = n) → ai σ' (Z k') i = ai σ (Z k') i) → Wp M d (pc + 1) lv st σ' P) : Wp M d pc lv (.inl v :: .inl j :: .inr (Z k) :: st) σ P := by
  have q := hR.1.2.2.2.1 k hk
  refine p_zast hd (q.2.1.trans ht) hj (by rw [q.2.2]; exact hn) (Nat.lt_trans hn lz_lt) (nar_z hv).1 (kk _ (hR.pa hk (fun _ => hv) e1 e2 e3 e4 e5) (fun k' i y1 y2 => ?_))
  rw [ai_pai, if_neg (fun y => y2 ⟨hR.1.2.2.2.2 k' k y1 hk y.1, y.2⟩)]
end RowsX
/-! as it stands between the steps of a call: Ex A: letters and requests that are no more there, and what nobody reads; D: what is being written -/
def Ex (A : AS) (k i : Nat) : Prop := ((29 ≤ k ∧ k < 40) ∧ ln A ≤ i) ∨ ((22 ≤ k ∧ k < 25) ∧ ∀ b j, b < 2 → j < 20 → i = 20 * b + j → rn A b ≤ j) ∨ (k = 14 ∧ sv A 12 i = 0) ∨ (k = 10 ∧ sv A 9 i = -1) ∨ (k = 26 ∧ sv A 40 i = -1) ∨ (k = 39 ∧ sv A 29 i = 5 ∧ sv A 38 i = -1)
def RR (N m : Nat) (Z : Nat → Nat) (σ0 : PS) (D : Nat → Nat → Prop) (σ : PS) (A : AS) : Prop := (∀ k i, D k i → k = 10 ∨ k = 12 ∨ k = 14 ∨ k = 26) ∧ RX N m Z σ0 (fun k i => Ex A k i ∨ D k i) σ A
def nD : Nat → Nat → Prop := fun _ _ => False
def okA (A : AS) (D : Nat → Nat → Prop) (k i : Nat) : Prop := ((29 ≤ k ∧ k < 40) → i < ln A) ∧ ((22 ≤ k ∧ k < 25) → ∃ b j, b < 2 ∧ j < 20 ∧ i = 20 * b + j ∧ j < rn A b) ∧ (k = 14 → sv A 12 i ≠ 0) ∧ (k = 10 → sv A 9 i ≠ -1) ∧ (k = 26 → sv A 40 i ≠ -1) ∧ (k = 39 → ¬ (sv A 29 i = 5 ∧ sv A 38 i = -1)) ∧ ¬ D k i
section RowsR
variable {M : MM} {d pc : Nat} {lv : List (Nat × PV)} {st : List PV} {σ : PS} {P : Option PV → PS → Prop} {N m : Nat} {Z : Nat → Nat} {σ0 : PS} {D : Nat → Nat → Prop} {A : AS}
theorem RR.tg (h : RR N m Z σ0 D σ A) : tg σ m = 9 := h.2.1.2.1
theorem okA.no {k i : Nat} (h : okA A D k i) : ¬ (Ex A k i ∨ D k i) := by
  obtain ⟨h1, h2, h3, h4, h5, h6, h7⟩ := h
  rintro (q | q)
  · rcases q with ⟨q1, q2⟩ | ⟨q1, q2⟩ | ⟨q1, q2⟩ | ⟨q1, q2⟩ | ⟨q1, q2⟩ | ⟨q1, q2⟩
    · have := h1 q1; omega
    · obtain ⟨b, j, a1, a2, a3, a4⟩ := h2 q1
      have := q2 b j a1 a2 a3; omega
    · exact h3 q1 q2
    · exact h4 q1 q2
    · exact h5 q1 q2
    · exact h6 q1 q2
  · exact h7 q
/-- the kinds that are read without more ado -/
def pl (k : Nat) : Bool := decide (k ≠ 10 ∧ k ≠ 12 ∧ k ≠ 14 ∧ k ≠ 26 ∧ ¬ (22 ≤ k ∧ k < 25) ∧ ¬ (29 ≤ k ∧ k < 40))
theorem RR.pl {k i : Nat} (h : RR N m Z σ0 D σ A) (hk : pl k = true) : okA A D k i := by
  have hk := of_decide_eq_true hk
  exact ⟨fun q => by omega, fun q => by omega, fun q => by omega, fun q => by omega, fun q => by omega, fun q => by omega, fun q => by have := h.1 k i q; omega⟩
theorem RR.ll {k i : Nat} (h : RR N m Z σ0 D σ A) (hk : 29 ≤ k ∧ k < 39) (hi : i < ln A) : okA A D k i :=
  ⟨fun _ => hi, fun q => by omega, fun q => by omega, fun q => by omega, fun q => by omega, fun q => by omega, fun q => by have := h.1 k i q; omega⟩
theorem RR.lr {k b j : Nat} (h : RR N m Z σ0 D σ A) (hk : 22 ≤ k ∧ k < 25) (hb : b < 2) (hj : j < rn A b) (h20 : j < 20) : okA A D k (20 * b + j) :=
  ⟨fun q => by omega, fun _ => ⟨b, j, hb, h20, rfl, hj⟩, fun q => by omega, fun q => by omega, fun q => by omega, fun q => by omega, fun q => by have := h.1 k _ q; omega⟩
theorem ok_12 {i : Nat} : okA A nD 12 i := ⟨fun q => by omega, fun q => by omega, fun q => by omega, fun q => by omega, fun q => by omega, fun q => by omega, id⟩
theorem RR.o14 {i : Nat} (hD : ¬ D 14 i) (h : sv A 12 i ≠ 0) : okA A D 14 i := ⟨fun q => by omega, fun q => by omega, fun _ => h, fun q => by omega, fun q => by omega, fun q => by omega, hD⟩
theorem ok_10 {i : Nat} (h : sv A 9 i ≠ -1) : okA A nD 10 i := ⟨fun q => by omega, fun q => by omega, fun q => by omega, fun _ => h, fun q => by omega, fun q => by omega, id⟩
theorem ok_26 {i : Nat} (h : sv A 40 i ≠ -1) : okA A nD 26 i := ⟨fun q => by omega, fun q => by omega, fun q => by omega, fun q => by omega, fun _ => h, fun q => by omega, id⟩
theorem r_ld (k : Nat) {n : Nat} {j : Int32} (hR : RR N m Z σ0 D σ A) (hk : isZ k = true) (h25 : k ≠ 25) (ht : tz k = 100) (hd : decode M.2.1 pc = .ok (.iaload, 1)) (hj : j = nI n) (hn : n < lz k) (hE : okA A D k n) (kk : Wp M d (pc + 1) lv (.inl (sv A k n) :: st) σ P) : Wp M d pc lv (.inl j :: .inr (Z k) :: st) σ P :=
  x_lr k hR.2 hk ht hd hj hn (hR.2.2.2.2.2.1 k n hk h25 hn hE.no) kk
theorem r_lb (k : Nat) {n : Nat} {j : Int32} (hR : RR N m Z σ0 D σ A) (hk : isZ k = true) (h25 : k ≠ 25) (ht : tz k = 101) (hd : decode M.2.1 pc = .ok (.baload, 1)) (hj : j = nI n) (hn : n < lz k) (hE : okA A D k n) (kk : Wp M d (pc + 1) lv (.inl (sv A k n) :: st) σ P) : Wp M d pc lv (.inl j :: .inr (Z k) :: st) σ P :=
  x_lrb k hR.2 hk ht hd hj hn (hR.2.2.2.2.2.1 k n hk h25 hn hE.no) kk
theorem r_lS {n : Nat} {j : Int32} (hR : RR N m Z σ0 D σ A) (hd : decode M.2.1 pc = .ok (.iaload, 1)) (hj : j = nI n) (hn : n < 2) (kk : Wp M d (pc + 1) lv (.inl (nI (rn A n)) :: st) σ P) : Wp M d pc lv (.inl j :: .inr (Z 25) :: st) σ P :=
  x_lr 25 hR.2 rfl rfl hd hj hn (hR.2.2.2.2.1 n hn) kk
/-- kinds that no place's being read hangs on -/
def pw (k : Nat) : Bool := decide (5 ≤ k ∧ k ≠ 9 ∧ k ≠ 12 ∧ k ≠ 25 ∧ k ≠ 29 ∧ k ≠ 38 ∧ k < 40)
theorem Ex_set {k n : Nat} {v : Int32} (hk : k ≠ 9 ∧ k ≠ 12 ∧ k ≠ 29 ∧ k ≠ 38 ∧ k ≠ 40) {k' i : Nat} : Ex (set1 A k n v) k' i ↔ Ex A k' i := by
  unfold Ex
  rw [sv_set1, if_neg (by omega), sv_set1, if_neg (by omega), sv_set1, if_neg (by omega), sv_set1, if_neg (by omega), sv_set1, if_neg (by omega)]
  exact Iff.rfl
theorem rr_st {k n : Nat} {v : Int32} (hp : pw k = true) : ∀ k' i, isZ k' = true → k' ≠ 25 → i < lz k' → ¬ (Ex (set1 A k n v) k' i ∨ (D k' i ∧ ¬ (k' = k ∧ i = n))) → ¬ (k' = k ∧ i = n) → ¬ (Ex A k' i ∨ D k' i) ∧ sv (set1 A k n v) k' i = sv A k' i := by
  have hp := of_decide_eq_true hp
  intro k' i _ _ _ h1 h2
  refine ⟨?_, by rw [sv_set1, if_neg h2]⟩
  rintro (q | q)
  · exact h1 (Or.inl ((Ex_set (by omega)).mpr q))
  · exact h1 (Or.inr ⟨q, h2⟩)
theorem r_st (k : Nat) {n : Nat} {j v : Int32} (hR : RR N m Z σ0 D σ A) (hk : isZ k = true) (hp : pw k = true) (ht : tz k = 100) (hd : decode M.2.1 pc = .ok (.iastore, 1)) (hj : j = nI n) (hn : n < lz k) (kk : ∀ σ', RR N m Z σ0 (fun k' i => D k' i ∧ ¬ (k' = k ∧ i = n)) σ' (set1 A k n v) → Wp M d (pc + 1) lv st σ' P) : Wp M d pc lv (.inl v :: .inl j :: .inr (Z k) :: st) σ P := by
  have hp' := of_decide_eq_true hp
  exact x_st k (set1 A k n v) hR.2 hk ht hd hj hn rfl (fun b hb => by rw [if_neg (by omega)]; rfl) (fun k' hk' => by rw [sv_set1, if_neg (by omega)]) (rr_st hp) (fun _ _ => by rw [sv_set1, if_pos ⟨rfl, rfl⟩]) (fun σ' h _ => kk σ' ⟨fun k' i q => hR.1 k' i q.1, h⟩)
theorem r_sb (k : Nat) {n : Nat} {j v : Int32} (hR : RR N m Z σ0 D σ A) (hk : isZ k = true) (hp : pw k = true) (ht : tz k = 101) (hd : decode M.2.1 pc = .ok (.bastore, 1)) (hj : j = nI n) (hn : n < lz k) (hv : bz v) (kk : ∀ σ', RR N m Z σ0 (fun k' i => D k' i ∧ ¬ (k' = k ∧ i = n)) σ' (set1 A k n v) → Wp M d (pc + 1) lv st σ' P) : Wp M d pc lv (.inl v :: .inl j :: .inr (Z k) :: st) σ P := by
  have hp' := of_decide_eq_true hp
  exact x_sb k (set1 A k n v) hR.2 hk ht hd hj hn hv rfl (fun b hb => by rw [if_neg (by omega)]; rfl) (fun k' hk' => by rw [sv_set1, if_neg (by omega)]) (rr_st hp) (fun _ _ => by rw [sv_set1, if_pos ⟨rfl, rfl⟩]) (fun σ' h _ => kk σ' ⟨fun k' i q => hR.1 k' i q.1, h⟩)
/-- as r_st, with nothing else under way -/
theorem RR.nd {D' : Nat → Nat → Prop} (h : RR N m Z σ0 D σ A) (e : ∀ k i, D k i → D' k i) (e' : ∀ k i, D' k i → k = 10 ∨ k = 12 ∨ k = 14 ∨ k = 26) : RR N m Z σ0 D' σ A :=
  ⟨e', h.2.cg rfl (fun _ _ => rfl) (fun _ _ => rfl) (fun k' i _ _ _ q => ⟨fun z => q (by rcases z with z | z; exact Or.inl z; exact Or.inr (e _ _ z)), rfl⟩)⟩
theorem RR.n0 (h : RR N m Z σ0 D σ A) (e : ∀ k i, ¬ D k i) : RR N m Z σ0 nD σ A := h.nd (fun k i q => e k i q) (fun _ _ q => absurd q id)
theorem r_sn (k : Nat) {n : Nat} {j v : Int32} (hR : RR N m Z σ0 nD σ A) (hk : isZ k = true) (hp : pw k = true) (ht : tz k = 100) (hd : decode M.2.1 pc = .ok (.iastore, 1)) (hj : j = nI n) (hn : n < lz k) (kk : ∀ σ', RR N m Z σ0 nD σ' (set1 A k n v) → Wp M d (pc + 1) lv st σ' P) : Wp M d pc lv (.inl v :: .inl j :: .inr (Z k) :: st) σ P :=
  r_st k hR hk hp ht hd hj hn (fun σ' h => kk σ' (h.n0 (fun _ _ q => q.1)))
theorem r_snb (k : Nat) {n : Nat} {j v : Int32} (hR : RR N m Z σ0 nD σ A) (hk : isZ k = true) (hp : pw k = true) (ht : tz k = 101) (hd : decode M.2.1 pc = .ok (.bastore, 1)) (hj : j = nI n) (hn : n < lz k) (hv : bz v) (kk : ∀ σ', RR N m Z σ0 nD σ' (set1 A k n v) → Wp M d (pc + 1) lv st σ' P) : Wp M d pc lv (.inl v :: .inl j :: .inr (Z k) :: st) σ P :=
  r_sb k hR hk hp ht hd hj hn hv (fun σ' h => kk σ' (h.n0 (fun _ _ q => q.1)))
/-- as long as D has no such kind -/
theorem r_sd (k : Nat) {n : Nat} {j v : Int32} (hR : RR N m Z σ0 D σ A) (hk : isZ k = true) (hp : pw k = true) (h3 : k ≠ 10 ∧ k ≠ 12 ∧ k ≠ 14) (ht : tz k = 100) (hd : decode M.2.1 pc = .ok (.iastore, 1)) (hj : j = nI n) (hn : n < lz k) (kk : ∀ σ', RR N m Z σ0 D σ' (set1 A k n v) → Wp M d (pc + 1) lv st σ' P) : Wp M d pc lv (.inl v :: .inl j :: .inr (Z k) :: st) σ P :=
  r_st k hR hk hp ht hd hj hn (fun σ' h => kk σ' (h.nd (fun _ _ q => q.1) hR.1))
theorem r_sdb (k : Nat) {n : Nat} {j v : Int32} (hR : RR N m Z σ0 D σ A) (hk : isZ k = true) (hp : pw k = true) (h3 : k ≠ 10 ∧ k ≠ 12 ∧ k ≠ 14) (ht : tz k = 101) (hd : decode M.2.1 pc = .ok (.bastore, 1)) (hj : j = nI n) (hn : n < lz k) (hv : bz v) (kk : ∀ σ', RR N m Z σ0 D σ' (set1 A k n v) → Wp M d (pc + 1) lv st σ' P) : Wp M d pc lv (.inl v :: .inl j :: .inr (Z k) :: st) σ P :=
  r_sb k hR hk hp ht hd hj hn hv (fun σ' h => kk σ' (h.nd (fun _ _ q => q.1) hR.1))
end RowsR
