/-! ArrayList: what a list holds, and its methods -/
/-- the list at l holds the n references f 0, f 1 .. -/
def AL (σ : PS) (l n : Nat) (f : Nat → Nat) : Prop := tg σ l = 1 ∧ fi σ 2 l = nI n ∧ n ≤ 72 ∧ n ≤ al σ (fr σ 1 l) ∧ al σ (fr σ 1 l) ≤ 110 ∧ fr σ 1 l < nx σ ∧ l < nx σ ∧
  ((tg σ (fr σ 1 l) = 99 ∧ al σ (fr σ 1 l) = 0) ∨ (tg σ (fr σ 1 l) = 102 ∧ 10 ≤ al σ (fr σ 1 l))) ∧ ∀ i, i < n → ar σ (fr σ 1 l) i = f i ∧ (tg σ (f i) = 4 ∨ tg σ (f i) = 6)
/-- only the list l has changed: its own fields, its array -/
def LF (σ σ' : PS) (l : Nat) : Prop := nx σ ≤ nx σ' ∧ sl σ ≤ sl σ' ∧ (∀ r, r < nx σ → tg σ' r = tg σ r ∧ al σ' r = al σ r) ∧ (∀ r j, r < nx σ → ai σ' r j = ai σ r j) ∧ (∀ i r, (r ≠ l ∨ 3 ≤ i) → fi σ' i r = fi σ i r) ∧ (∀ i r, (r ≠ l ∨ i ≠ 1) → fr σ' i r = fr σ i r) ∧
  (∀ r j, r < nx σ → r ≠ fr σ 1 l → ar σ' r j = ar σ r j) ∧ (fr σ' 1 l = fr σ 1 l ∨ nx σ ≤ fr σ' 1 l)
theorem sp_AL_size {σ : PS} {l : Nat} {P : Option PV → PS → Prop} (h : tg σ l = 1) (hP : P (some (.inl (fi σ 2 l))) σ) : Ctr m_AL_size 1 [.inr l] σ P := by
  refine Ctr.of y_AL_size (Nat.le_of_ble_eq_true rfl) ?_
  refine p_aload_n e_AL_size_0 rfl ?_
  refine p_gI 2 e_AL_size_1 f_AL_48 rfl rfl (by assumption) ?_
  refine p_iret e_AL_size_4 (rv_i ?_)
  exact hP
theorem sp_AL_isEmpty {σ : PS} {l : Nat} {P : Option PV → PS → Prop} (h : tg σ l = 1) (hP : P (some (.inl (if fi σ 2 l = 0 then 1 else 0))) σ) : Ctr m_AL_isEmpty 1 [.inr l] σ P := by
  refine Ctr.of y_AL_isEmpty (Nat.le_of_ble_eq_true rfl) ?_
  refine p_aload_n e_AL_isEmpty_0 rfl ?_
  refine p_gI 2 e_AL_isEmpty_1 f_AL_48 rfl rfl (by assumption) ?_
  refine p_if_ne (tgt := 11) e_AL_isEmpty_4 (by decide) (fun h4 => ?_) (fun h4 => ?_)
  · refine p_iconst (x := 0) e_AL_isEmpty_11 (by decide) ?_
    refine p_iret e_AL_isEmpty_12 (rv_z (by first | assumption | exact Or.inl rfl | exact Or.inr rfl) ?_)
    rw [if_neg h4] at hP
    exact hP
  · refine p_iconst (x := 1) e_AL_isEmpty_7 (by decide) ?_
    refine p_goto (tgt := 12) e_AL_isEmpty_8 (by decide) ?_
    refine p_iret e_AL_isEmpty_12 (rv_z (by first | assumption | exact Or.inl rfl | exact Or.inr rfl) ?_)
    rw [if_pos h4] at hP
    exact hP
theorem sp_Pre_checkIndex {σ : PS} {i n z : Nat} {P : Option PV → PS → Prop} (h : i < n) (hn : n < 2 ^ 31) (hP : P (some (.inl (nI i))) σ) : Ctr m_Pre_checkIndex 1 [.inl (nI i), .inl (nI n), .inr z] σ P := by
  refine Ctr.of y_Pre_checkIndex (Nat.le_of_ble_eq_true rfl) ?_
  refine p_iload_n e_Pre_checkIndex_0 rfl ?_
  refine p_if_lt (tgt := 9) e_Pre_checkIndex_1 (by decide) (fun hx => absurd hx (nI_pos (by omega))) (fun _ => ?_)
  refine p_iload_n e_Pre_checkIndex_4 rfl ?_
  refine p_iload_n e_Pre_checkIndex_5 rfl ?_
  refine p_icmp_lt (tgt := 16) e_Pre_checkIndex_6 (by decide) (fun _ => ?_) (fun hx => absurd (nI_lt h hn) hx)
  refine p_iload_n e_Pre_checkIndex_16 rfl ?_
  refine p_iret e_Pre_checkIndex_17 (rv_i ?_)
  exact hP
theorem sp_Objs_checkIndex {σ : PS} {i n : Nat} {P : Option PV → PS → Prop} (h : i < n) (hn : n < 2 ^ 31) (hP : P (some (.inl (nI i))) σ) : Ctr m_Objs_checkIndex 2 [.inl (nI i), .inl (nI n)] σ P := by
  refine Ctr.of y_Objs_checkIndex (Nat.le_of_ble_eq_true rfl) ?_
  refine p_iload_n e_Objs_checkIndex_0 rfl ?_
  refine p_iload_n e_Objs_checkIndex_1 rfl ?_
  refine p_null e_Objs_checkIndex_2 ?_
  refine p_stat (d' := 1) [_, _, _] _ e_Objs_checkIndex_3 c_Objs_105 k_Pre_checkIndex t_Pre_checkIndex rfl rfl (Nat.le_of_ble_eq_true rfl) (Nat.le_of_ble_eq_true rfl) ?_
  refine sp_Pre_checkIndex h hn ?_
  refine p_iret e_Objs_checkIndex_6 (rv_i ?_)
  exact hP
theorem sp_AL_elementData {σ : PS} {l n i : Nat} {f : Nat → Nat} {P : Option PV → PS → Prop} (h : AL σ l n f) (hi : i < n) (hP : P (some (.inr (f i))) σ) : Ctr m_AL_elementData 1 [.inr l, .inl (nI i)] σ P := by
  obtain ⟨h1, h2, h3, h4, h5, h6, h7, h8, h9⟩ := h
  have ht : tg σ (fr σ 1 l) = 102 := by
    rcases h8 with ⟨-, h⟩ | ⟨h, -⟩
    · omega
    · exact h
  refine Ctr.of y_AL_elementData (Nat.le_of_ble_eq_true rfl) ?_
  refine p_aload_n e_AL_elementData_0 rfl ?_
  refine p_gR 1 e_AL_elementData_1 f_AL_9 rfl rfl (by assumption) ?_
  refine p_iload_n e_AL_elementData_4 rfl ?_
  refine p_aald e_AL_elementData_5 (ti := 2) (n := i) (by decide) ht rfl (by omega) (by omega) ?_
  refine p_aret e_AL_elementData_6 (rv_o ?_)
  rw [(h9 i hi).1]
  exact hP
theorem sp_AL_get {σ : PS} {l n i : Nat} {f : Nat → Nat} {P : Option PV → PS → Prop} (h : AL σ l n f) (hi : i < n) (hP : P (some (.inr (f i))) σ) : Ctr m_AL_get 3 [.inr l, .inl (nI i)] σ P := by
  have h1 := h.1
  have h2 := h.2.1
  have h3 := h.2.2.1
  refine Ctr.of y_AL_get (Nat.le_of_ble_eq_true rfl) ?_
  refine p_iload_n e_AL_get_0 rfl ?_
  refine p_aload_n e_AL_get_1 rfl ?_
  refine p_gI 2 e_AL_get_2 f_AL_48 rfl rfl (by assumption) ?_
  rw [h2]
  refine p_stat (d' := 2) [_, _] _ e_AL_get_5 c_AL_118 k_Objs_checkIndex t_Objs_checkIndex rfl rfl (Nat.le_of_ble_eq_true rfl) (Nat.le_of_ble_eq_true rfl) ?_
  refine sp_Objs_checkIndex hi (by omega) ?_
  refine p_pop e_AL_get_8 ?_
  refine p_aload_n e_AL_get_9 rfl ?_
  refine p_iload_n e_AL_get_10 rfl ?_
  refine p_inv (ci := 0) (d' := 1) [_] _ e_AL_get_11 c_AL_123 k_AL_elementData i_AL_elementData s_AL_elementData rfl rfl (by assumption) rfl rfl (Nat.le_of_ble_eq_true rfl) (Nat.le_of_ble_eq_true rfl) ?_
  refine sp_AL_elementData h hi ?_
  refine p_aret e_AL_get_14 (rv_o ?_)
  exact hP
