/-! THE STATE AS NUMBERS: how many letters wait, how many requests stand in each row, and the numbers by kind and place (the kinds are numbered as the reference's fields are; 40, 41, 42: core, kind and serial of a block's active request) -/
abbrev AS : Type := Nat × (Nat → Nat) × (Nat → Nat → Int32)
def ln (A : AS) : Nat := A.1
def rn (A : AS) : Nat → Nat := A.2.1
def sv (A : AS) : Nat → Nat → Int32 := A.2.2
def set1 (A : AS) (k i : Nat) (v : Int32) : AS := (ln A, rn A, up2 (sv A) k i v)
/-- letters: one taken out, one put behind -/
def rmL (A : AS) (i : Nat) : AS := (ln A - 1, rn A, fun k j => if (29 ≤ k ∧ k < 40) ∧ i ≤ j then sv A k (j + 1) else sv A k j)
def apL (A : AS) (g : Nat → Int32) : AS := (ln A + 1, rn A, fun k j => if (29 ≤ k ∧ k < 40) ∧ j = ln A then g k else sv A k j)
def nwL (kd fm to bl : Int32) : Nat → Int32 := fun k => if k = 29 then kd else if k = 30 then to else if k = 31 then fm else if k = 32 then bl else if k = 38 then -1 else 0
def mtL (A : AS) (kd fm to bl : Int32) (j : Nat) : Prop := sv A 29 j = kd ∧ sv A 31 j = fm ∧ sv A 30 j = to ∧ (kd = 5 → sv A 32 j = bl)
/-- the first letter that the new one takes the place of -/
def fdL (A : AS) (kd fm to bl : Int32) (j : Nat) : Prop := j < ln A ∧ mtL A kd fm to bl j ∧ ∀ i, i < j → ¬ mtL A kd fm to bl i
noncomputable def dpL (A : AS) (kd fm to bl : Int32) : AS := @ite _ (kd = 3) (Classical.propDecidable _) A (@dite _ (∃ j, fdL A kd fm to bl j) (Classical.propDecidable _) (fun h => rmL A h.choose) (fun _ => A))
theorem fdL_inj {A : AS} {kd fm to bl : Int32} {i j : Nat} (hi : fdL A kd fm to bl i) (hj : fdL A kd fm to bl j) : i = j := by
  rcases Nat.lt_trichotomy i j with h | h | h
  · exact absurd hi.2.1 (hj.2.2 i h)
  · exact h
  · exact absurd hj.2.1 (hi.2.2 j h)
theorem dpL_3 {A : AS} {fm to bl : Int32} : dpL A 3 fm to bl = A := by unfold dpL; rw [if_pos rfl]
theorem dpL_at {A : AS} {kd fm to bl : Int32} {j : Nat} (hk : kd ≠ 3) (h : fdL A kd fm to bl j) : dpL A kd fm to bl = rmL A j := by
  unfold dpL
  have hx : ∃ j, fdL A kd fm to bl j := ⟨j, h⟩
  rw [if_neg hk, dif_pos hx, fdL_inj hx.choose_spec h]
theorem dpL_no {A : AS} {kd fm to bl : Int32} (h : ∀ j, j < ln A → ¬ mtL A kd fm to bl j) : dpL A kd fm to bl = A := by
  unfold dpL
  by_cases hk : kd = 3
  · rw [if_pos hk]
  · rw [if_neg hk, dif_neg]
    rintro ⟨j, hj⟩
    exact h j hj.1 hj.2.1
/-- a letter is sent: it takes the place of an older one, and is the last -/
noncomputable def sdL (A : AS) (kd fm to bl : Int32) : AS := apL (dpL A kd fm to bl) (nwL kd fm to bl)
theorem dpL_le (A : AS) (kd fm to bl : Int32) : ln (dpL A kd fm to bl) ≤ ln A := by
  by_cases hk : kd = 3
  · subst hk; rw [dpL_3]; exact Nat.le_refl _
  · by_cases h : ∃ j, fdL A kd fm to bl j
    · obtain ⟨j, hj⟩ := h
      rw [dpL_at hk hj]
      exact Nat.sub_le _ _
    · unfold dpL
      rw [if_neg hk, dif_neg h]
      exact Nat.le_refl _
theorem sv_set1 {A : AS} {k i k' j : Nat} {v : Int32} : sv (set1 A k i v) k' j = if k' = k ∧ j = i then v else sv A k' j := rfl
theorem ln_set1 {A : AS} {k i : Nat} {v : Int32} : ln (set1 A k i v) = ln A := rfl
theorem rn_set1 {A : AS} {k i : Nat} {v : Int32} : rn (set1 A k i v) = rn A := rfl
theorem sv_rmL {A : AS} {i k j : Nat} : sv (rmL A i) k j = if (29 ≤ k ∧ k < 40) ∧ i ≤ j then sv A k (j + 1) else sv A k j := rfl
theorem sv_apL {A : AS} {g : Nat → Int32} {k j : Nat} : sv (apL A g) k j = if (29 ≤ k ∧ k < 40) ∧ j = ln A then g k else sv A k j := rfl
