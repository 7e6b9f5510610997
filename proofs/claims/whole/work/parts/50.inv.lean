/-! WHAT ALWAYS HOLDS of the numbers: letters and cells are well formed, letters that take each other's places are there once, tokens and owners are neither made nor lost -/
/-- the sum of g over the places below n -/
def sm (g : Nat → Nat) : Nat → Nat
  | 0 => 0
  | n + 1 => sm g n + g n
theorem sm_s {g : Nat → Nat} {n : Nat} : sm g (n + 1) = sm g n + g n := rfl
theorem sm_congr {g h : Nat → Nat} : ∀ n, (∀ i, i < n → g i = h i) → sm g n = sm h n
  | 0, _ => rfl
  | n + 1, e => by unfold sm; rw [sm_congr n (fun i hi => e i (by omega)), e n (by omega)]
theorem sm_rm {g : Nat → Nat} : ∀ n i, i < n → sm g n = g i + sm (fun j => if i ≤ j then g (j + 1) else g j) (n - 1)
  | 0, i, h => by omega
  | n + 1, i, h => by
    by_cases e : i = n
    · subst e
      rw [Nat.add_sub_cancel, sm_congr (g := fun j => if i ≤ j then g (j + 1) else g j) (h := g) i (fun j hj => if_neg (by omega)), sm_s]
      omega
    · obtain ⟨k, rfl⟩ : ∃ k, n = k + 1 := ⟨n - 1, by omega⟩
      have ih := sm_rm (g := g) (k + 1) i (by omega)
      rw [Nat.add_sub_cancel] at ih ⊢
      show sm g (k + 1) + g (k + 1) = g i + (sm (fun j => if i ≤ j then g (j + 1) else g j) k + (if i ≤ k then g (k + 1) else g k))
      rw [ih, if_pos (by omega)]
      omega
theorem sm_up {g h : Nat → Nat} {i : Nat} : ∀ n, i < n → (∀ j, j < n → j ≠ i → g j = h j) → sm g n + h i = sm h n + g i
  | 0, hi, _ => by omega
  | n + 1, hi, e => by
    unfold sm
    by_cases q : i = n
    · subst q
      rw [sm_congr i (fun j hj => e j (by omega) (by omega))]
      omega
    · have := sm_up (g := g) (h := h) n (by omega) (fun j hj hne => e j (by omega) hne)
      rw [e n (by omega) (by omega)]
      omega
theorem sm_le {g : Nat → Nat} : ∀ n i, i < n → g i ≤ sm g n
  | 0, i, h => by omega
  | n + 1, i, h => by
    unfold sm
    by_cases e : i = n
    · subst e; omega
    · have := sm_le (g := g) n i (by omega); omega
theorem sm_mono {g : Nat → Nat} : ∀ n k, k ≤ n → sm g k ≤ sm g n
  | 0, k, h => by have : k = 0 := by omega
                  subst this; exact Nat.le_refl _
  | n + 1, k, h => by
    by_cases e : k = n + 1
    · subst e; exact Nat.le_refl _
    · have := sm_mono (g := g) n k (by omega); rw [sm_s]; omega
def bz (x : Int32) : Prop := x = 0 ∨ x = 1
def nt (x : Int32) : Nat := x.toNatClampNeg
def o1 (x : Int32) : Nat := if x = 0 then 0 else 1
/-- tokens, and owners, of block b in the i-th letter -/
def lt' (A : AS) (b i : Nat) : Nat := if sv A 29 i = 3 ∧ sv A 32 i = nI b then nt (sv A 33 i) else 0
def lo' (A : AS) (b i : Nat) : Nat := if sv A 29 i = 3 ∧ sv A 32 i = nI b then o1 (sv A 34 i) else 0
def lw (N : Nat) (A : AS) (i : Nat) : Prop :=
  (∃ t s b : Nat, t ≤ N ∧ s ≤ N ∧ b < 2 ∧ sv A 30 i = nI t ∧ sv A 31 i = nI s ∧ sv A 32 i = nI b ∧ ((sv A 29 i = 1 ∧ s < N) ∨ (sv A 29 i = 2 ∧ s < N) ∨ sv A 29 i = 3 ∨ (sv A 29 i = 4 ∧ s < N ∧ t = N) ∨ (sv A 29 i = 5 ∧ s = N ∧ t < N) ∨ (sv A 29 i = 6 ∧ s < N ∧ t = N ∧ b = 0))) ∧
  (bz (sv A 34 i) ∧ bz (sv A 35 i) ∧ bz (sv A 39 i)) ∧ (sv A 29 i = 3 → (∃ ct : Nat, 1 ≤ ct ∧ ct ≤ N + 1 ∧ sv A 33 i = nI ct) ∧ (sv A 34 i = 1 → sv A 35 i = 1)) ∧ (sv A 29 i ≠ 3 → sv A 33 i = 0 ∧ sv A 34 i = 0 ∧ sv A 35 i = 0) ∧ (sv A 38 i = -1 ∨ ∃ c, c < N ∧ sv A 38 i = nI c)
def uq (A : AS) (i j : Nat) : Prop := sv A 29 i = sv A 29 j → sv A 29 i ≠ 3 → sv A 31 i = sv A 31 j → sv A 30 i = sv A 30 j → (sv A 29 i = 5 → sv A 32 i = sv A 32 j) → i = j
def cw (N : Nat) (A : AS) (i : Nat) : Prop := (∃ t, t ≤ N + 1 ∧ sv A 5 i = nI t) ∧ (bz (sv A 6 i) ∧ bz (sv A 7 i) ∧ bz (sv A 10 i)) ∧ (sv A 6 i = 1 → sv A 7 i = 1 ∧ sv A 5 i ≠ 0) ∧ (sv A 9 i = -1 ∨ ∃ c, c < N ∧ sv A 9 i = nI c)
/-- eb, eo: tokens and owners of each block that are in hand -/
def LI (N : Nat) (A : AS) (eb eo : Nat → Nat) : Prop := (2 ≤ N ∧ N ≤ 4) ∧ (∀ i, i < ln A → lw N A i) ∧ (∀ i j, i < ln A → j < ln A → uq A i j) ∧ (∀ i, i < 2 * N + 2 → cw N A i) ∧
  (∀ b, b < 2 → sm (fun x => nt (sv A 5 (2 * x + b))) (N + 1) + sm (lt' A b) (ln A) + eb b = N + 1) ∧ (∀ b, b < 2 → sm (fun x => o1 (sv A 6 (2 * x + b))) (N + 1) + sm (lo' A b) (ln A) + eo b = 1)
/-- pigeons -/
theorem pigeon : ∀ (B n : Nat) (k : Nat → Nat), (∀ i, i < n → k i < B) → (∀ i j, i < n → j < n → k i = k j → i = j) → n ≤ B
  | 0, n, k, h, _ => by
    rcases Nat.eq_zero_or_pos n with q | q
    · omega
    · have := h 0 q; omega
  | B + 1, n, k, h, inj => by
    by_cases hx : ∃ i, i < n ∧ k i = B
    · obtain ⟨i, hi, hk⟩ := hx
      have := pigeon B (n - 1) (fun j => if j < i then k j else k (j + 1)) (fun j hj => by
        by_cases e : j < i
        · simp only [if_pos e]
          have := h j (by omega)
          have h2 : k j ≠ B := fun q => by have := inj j i (by omega) hi (q.trans hk.symm); omega
          omega
        · simp only [if_neg e]
          have := h (j + 1) (by omega)
          have h2 : k (j + 1) ≠ B := fun q => by have := inj (j + 1) i (by omega) hi (q.trans hk.symm); omega
          omega) (fun a b ha hb e => by
        by_cases e1 : a < i <;> by_cases e2 : b < i
        · simp only [if_pos e1, if_pos e2] at e; exact inj a b (by omega) (by omega) e
        · simp only [if_pos e1, if_neg e2] at e; have := inj a (b + 1) (by omega) (by omega) e; omega
        · simp only [if_neg e1, if_pos e2] at e; have := inj (a + 1) b (by omega) (by omega) e; omega
        · simp only [if_neg e1, if_neg e2] at e; have := inj (a + 1) (b + 1) (by omega) (by omega) e; omega)
      omega
    · have := pigeon B n k (fun i hi => by
        have := h i hi
        have h2 : k i ≠ B := fun q => hx ⟨i, hi, q⟩
        omega) inj
      omega
/-- a number for each letter -/
def lkey (A : AS) (i : Nat) : Nat := if sv A 29 i = 3 then 56 + 5 * nt (sv A 32 i) + sm (lt' A (nt (sv A 32 i))) i else if sv A 29 i = 1 then 5 * nt (sv A 31 i) + nt (sv A 30 i) else if sv A 29 i = 2 then 20 + 5 * nt (sv A 31 i) + nt (sv A 30 i) else if sv A 29 i = 4 then 40 + nt (sv A 31 i) else if sv A 29 i = 5 then 44 + 4 * nt (sv A 32 i) + nt (sv A 30 i) else 52 + nt (sv A 31 i)
theorem nt_nI {n : Nat} (h : n < 2 ^ 31) : nt (nI n) = n := nI_clamp h
theorem sm_lt {g : Nat → Nat} {i j n : Nat} (h : i < j) (hj : j ≤ n) : sm g i + g i ≤ sm g j := by
  have := sm_mono (g := g) j (i + 1) (by omega)
  rw [sm_s] at this
  exact this
set_option maxHeartbeats 4000000 in
theorem LI.bound {N : Nat} {A : AS} {eb eo : Nat → Nat} (h : LI N A eb eo) : ln A ≤ 66 := by
  obtain ⟨hN, hl, hu, hc, ht, ho⟩ := h
  refine pigeon 66 (ln A) (lkey A) (fun i hi => ?_) (fun i j hi hj e => ?_)
  · obtain ⟨⟨t, s, b, q1, q2, q3, q4, q5, q6, q7⟩, -, w3, -⟩ := hl i hi
    unfold lkey
    rw [q4, q5, q6, nt_nI (by omega), nt_nI (by omega), nt_nI (by omega)]
    rcases q7 with ⟨k, z⟩ | ⟨k, z⟩ | k | ⟨k, z, z2⟩ | ⟨k, z, z2⟩ | ⟨k, z, z2, z3⟩ <;> rw [k]
    · simp; omega
    · simp; omega
    · rw [if_pos rfl]
      obtain ⟨⟨ct, c1, c2, c3⟩, -⟩ := w3 k
      have h1 := sm_lt (g := lt' A b) hi (Nat.le_refl _)
      have h2 : lt' A b i = ct := by unfold lt'; rw [if_pos ⟨k, q6⟩, c3, nt_nI (by omega)]
      have := ht b q3
      omega
    · simp; omega
    · simp; omega
    · simp; omega
  · obtain ⟨⟨t, s, b, q1, q2, q3, q4, q5, q6, q7⟩, -, w3, -⟩ := hl i hi
    obtain ⟨⟨t', s', b', p1, p2, p3, p4, p5, p6, p7⟩, -, u3, -⟩ := hl j hj
    have key : ∀ k : Int32, sv A 29 i = k → sv A 29 j = k → k ≠ 3 → s = s' → t = t' → (k = 5 → b = b') → i = j := by
      intro k a1 a2 a3 a4 a5 a6
      refine hu i j hi hj (a1.trans a2.symm) (by rw [a1]; exact a3) (by rw [q5, p5, a4]) (by rw [q4, p4, a5]) (fun z => by rw [q6, p6, a6 (a1.symm.trans z)])
    have le3 : ∀ i' j' bb, i' < j' → j' < ln A → sv A 29 i' = 3 → sv A 32 i' = nI bb → sm (lt' A bb) i' < sm (lt' A bb) j' := by
      intro i' j' bb h1 h2 h3 h4
      obtain ⟨-, -, w, -⟩ := hl i' (by omega)
      obtain ⟨⟨ct, c1, c2, c3⟩, -⟩ := w h3
      have a := sm_lt (g := lt' A bb) h1 (Nat.le_refl _)
      have h5 : lt' A bb i' = ct := by unfold lt'; rw [if_pos ⟨h3, h4⟩, c3, nt_nI (by omega)]
      omega
    have up3 : ∀ i' bb, bb < 2 → i' < ln A → sv A 29 i' = 3 → sv A 32 i' = nI bb → sm (lt' A bb) i' < 5 := by
      intro i' bb hb h2 h3 h4
      obtain ⟨-, -, w, -⟩ := hl i' h2
      obtain ⟨⟨ct, c1, c2, c3⟩, -⟩ := w h3
      have h1 := sm_lt (g := lt' A bb) h2 (Nat.le_refl _)
      have h5 : lt' A bb i' = ct := by unfold lt'; rw [if_pos ⟨h3, h4⟩, c3, nt_nI (by omega)]
      have := ht bb hb
      omega
    unfold lkey at e
    rw [q4, q5, q6, p4, p5, p6, nt_nI (by omega), nt_nI (by omega), nt_nI (by omega), nt_nI (by omega), nt_nI (by omega), nt_nI (by omega)] at e
    rcases q7 with ⟨k, z⟩ | ⟨k, z⟩ | k | ⟨k, z, z2⟩ | ⟨k, z, z2⟩ | ⟨k, z, z2, z3⟩ <;> rcases p7 with ⟨k', y⟩ | ⟨k', y⟩ | k' | ⟨k', y, y2⟩ | ⟨k', y, y2⟩ | ⟨k', y, y2, y3⟩ <;> rw [k, k'] at e <;> simp at e
    · exact key 1 k k' (by decide) (by omega) (by omega) (fun h => absurd h (by decide))
    · exfalso; omega
    · exfalso; omega
    · exfalso; omega
    · exfalso; omega
    · exfalso; omega
    · exfalso; omega
    · exact key 2 k k' (by decide) (by omega) (by omega) (fun h => absurd h (by decide))
    · exfalso; omega
    · exfalso; omega
    · exfalso; omega
    · exfalso; omega
    · exfalso; omega
    · exfalso; omega
    · have a1 := up3 i b q3 hi k q6
      have a2 := up3 j b' p3 hj k' p6
      have eb : b = b' := by omega
      subst eb
      rcases Nat.lt_trichotomy i j with q | q | q
      · have := le3 i j b q hj k q6; omega
      · exact q
      · have := le3 j i b q hi k' p6; omega
    · exfalso; omega
    · exfalso; omega
    · exfalso; omega
    · exfalso; omega
    · exfalso; omega
    · exfalso; omega
    · exact key 4 k k' (by decide) (by omega) (by omega) (fun h => absurd h (by decide))
    · exfalso; omega
    · exfalso; omega
    · exfalso; omega
    · exfalso; omega
    · exfalso; omega
    · exfalso; omega
    · exact key 5 k k' (by decide) (by omega) (by omega) (fun _ => by omega)
    · exfalso; omega
    · exfalso; omega
    · exfalso; omega
    · exfalso; omega
    · exfalso; omega
    · exfalso; omega
    · exact key 6 k k' (by decide) (by omega) (by omega) (fun h => absurd h (by decide))
