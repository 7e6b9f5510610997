/-! ArrayList: taking out -/
/-- the list l has lost its place i -/
def RM (σ σ' : PS) (l n i : Nat) (f : Nat → Nat) : Prop := LF σ σ' l ∧ nx σ' = nx σ ∧ sl σ' = sl σ ∧ fr σ' 1 l = fr σ 1 l ∧ tg σ' = tg σ ∧ AL σ' l (n - 1) (fun j => if j < i then f j else f (j + 1))
theorem rm_of {σ σ' : PS} {l n i : Nat} {f : Nat → Nat} (h : AL σ l n f) (hi : i < n) (h1 : σ'.1 = σ.1) (h2 : al σ' = al σ) (h3 : ai σ' = ai σ) (h4 : fr σ' = fr σ) (h5 : ∀ k r, (r ≠ l ∨ 3 ≤ k) → fi σ' k r = fi σ k r) (h6 : fi σ' 2 l = nI (n - 1)) (h7 : ∀ r j, r ≠ fr σ 1 l → ar σ' r j = ar σ r j)
    (h8 : ∀ j, j < n - 1 → ar σ' (fr σ 1 l) j = if j < i then ar σ (fr σ 1 l) j else ar σ (fr σ 1 l) (j + 1)) : RM σ σ' l n i f := by
  have n1 : nx σ' = nx σ := by unfold nx; rw [h1]
  have s1 : sl σ' = sl σ := by unfold sl; rw [h1]
  have t1 : tg σ' = tg σ := by unfold tg; rw [h1]
  obtain ⟨a1, a2, a3, a4, a5, a6, a7, a8, a9⟩ := h
  refine ⟨⟨by omega, by omega, fun r _ => by rw [t1, h2]; exact ⟨rfl, rfl⟩, fun r j _ => by rw [h3], h5, fun k r _ => by rw [h4], fun r j _ hr => h7 r j hr, Or.inl (by rw [h4])⟩, n1, s1, by rw [h4], t1, ?_⟩
  unfold AL
  rw [h4, t1, h2, n1]
  refine ⟨a1, h6, by omega, by omega, a5, a6, a7, a8, fun j hj => ?_⟩
  rw [h8 j hj]
  by_cases hji : j < i
  · simp only [if_pos hji]; exact a9 j (by omega)
  · simp only [if_neg hji]; exact a9 (j + 1) (by omega)
theorem sp_AL_fastRemove {σ : PS} {l n i e : Nat} {f : Nat → Nat} {P : Option PV → PS → Prop} (h : AL σ l n f) (hi : i < n) (he : e = fr σ 1 l) (hP : ∀ σ', RM σ σ' l n i f → P none σ') : Ctr m_AL_fastRemove 1 [.inr l, .inr e, .inl (nI i)] σ P := by
  obtain ⟨h1, h2, h3, h4, h5, h6, h7, h8, h9⟩ := id h
  subst he
  have ht : tg σ (fr σ 1 l) = 102 := by
    rcases h8 with ⟨-, h⟩ | ⟨h, -⟩
    · omega
    · exact h
  have e1 : nI n - 1 = nI (n - 1) := by
    obtain ⟨k, rfl⟩ : ∃ k, n = k + 1 := ⟨n - 1, by omega⟩
    exact nI_pred k
  refine Ctr.of y_AL_fastRemove (Nat.le_of_ble_eq_true rfl) ?_
  refine p_aload_n e_AL_fastRemove_0 rfl ?_
  refine p_dup e_AL_fastRemove_1 ?_
  refine p_gI 0 e_AL_fastRemove_2 f_AL_63 rfl rfl (by assumption) ?_
  refine p_iconst (x := 1) e_AL_fastRemove_5 (by decide) ?_
  refine p_iadd e_AL_fastRemove_6 ?_
  refine p_pI 0 e_AL_fastRemove_7 f_AL_63 rfl rfl (fun q h => by cases h; exact Or.inl rfl) rfl (by assumption) ?_
  refine p_aload_n e_AL_fastRemove_10 rfl ?_
  refine p_gIv 2 e_AL_fastRemove_11 f_AL_48 rfl rfl (by assumption) h2 ?_
  refine p_iconst (x := 1) e_AL_fastRemove_14 (by decide) ?_
  refine p_isub e_AL_fastRemove_15 ?_
  refine p_top e1 ?_
  refine p_dup e_AL_fastRemove_16 ?_
  refine p_istore_n e_AL_fastRemove_17 (by decide) ?_
  refine p_iload_n e_AL_fastRemove_18 rfl ?_
  refine p_icmp_le (tgt := 34) e_AL_fastRemove_19 (by decide) (fun h19 => ?_) (fun h19 => ?_)
  · have hin : i = n - 1 := by
      rcases Nat.lt_or_ge i (n - 1) with q | q
      · exact absurd h19 (nI_ge q (by omega))
      · omega
    refine p_aload_n e_AL_fastRemove_34 rfl ?_
    refine p_aload_n e_AL_fastRemove_35 rfl ?_
    refine p_iload_n e_AL_fastRemove_36 rfl ?_
    refine p_dup_x1 e_AL_fastRemove_37 ?_
    refine p_pI 2 e_AL_fastRemove_38 f_AL_48 rfl rfl (fun q h => by cases h; exact Or.inl rfl) rfl (by assumption) ?_
    refine p_null e_AL_fastRemove_41 ?_
    refine p_aastN (ti := 2) (n := n - 1) e_AL_fastRemove_42 (by decide) rfl ht rfl (by show n - 1 < al σ (fr σ 1 l); omega) (by omega) ?_
    refine p_ret e_AL_fastRemove_43 (rv_v ?_)
    refine hP _ (rm_of h hi rfl rfl rfl rfl (fun k r hr => ?_) ?_ (fun r j hr => ?_) (fun j hj => ?_))
    · have q2 : ¬ (k = 2 ∧ r = l) := by omega
      have q0 : ¬ (k = 0 ∧ r = l) := by omega
      simp [fi_par, fi_pfi, q0, q2]
    · simp [fi_par, fi_pfi]
    · simp [ar_par, ar_pfi, hr]
    · have q : ¬ j = n - 1 := by omega
      have q' : j < i := by omega
      simp [ar_par, ar_pfi, q, q']
  · have hin : i < n - 1 := by
      rcases Nat.lt_or_ge i (n - 1) with q | q
      · exact q
      · exact absurd (nI_le q (by omega)) h19
    have e2 : nI i + 1 = nI (i + 1) := nI_1 i
    have e3 : nI (n - 1) - nI i = nI (n - 1 - i) := pk_sub (by omega)
    refine p_aload_n e_AL_fastRemove_22 rfl ?_
    refine p_iload_n e_AL_fastRemove_23 rfl ?_
    refine p_iconst (x := 1) e_AL_fastRemove_24 (by decide) ?_
    refine p_iadd e_AL_fastRemove_25 ?_
    refine p_top e2 ?_
    refine p_aload_n e_AL_fastRemove_26 rfl ?_
    refine p_iload_n e_AL_fastRemove_27 rfl ?_
    refine p_iload_n e_AL_fastRemove_28 rfl ?_
    refine p_iload_n e_AL_fastRemove_29 rfl ?_
    refine p_isub e_AL_fastRemove_30 ?_
    refine p_top e3 ?_
    refine p_copy (sp := i + 1) (dp := i) (n := n - 1 - i) e_AL_fastRemove_31 c_AL_112 v_arraycopy t_ac w_52 ht ht rfl rfl rfl (by omega) (by omega) (by omega) (by show i + 1 + (n - 1 - i) ≤ al σ (fr σ 1 l); omega) (by show i + (n - 1 - i) ≤ al σ (fr σ 1 l); omega) (fun j hj => ?_) (Nat.le_of_ble_eq_true rfl) (by decide) ?_
    · show ar σ (fr σ 1 l) (i + 1 + j) = 0 ∨ tg σ (ar σ (fr σ 1 l) (i + 1 + j)) = 4 ∨ tg σ (ar σ (fr σ 1 l) (i + 1 + j)) = 6
      obtain ⟨q1, q2⟩ := h9 (i + 1 + j) (by omega)
      rw [q1]
      exact Or.inr q2
    refine p_aload_n e_AL_fastRemove_34 rfl ?_
    refine p_aload_n e_AL_fastRemove_35 rfl ?_
    refine p_iload_n e_AL_fastRemove_36 rfl ?_
    refine p_dup_x1 e_AL_fastRemove_37 ?_
    refine p_pI 2 e_AL_fastRemove_38 f_AL_48 rfl rfl (fun q h => by cases h; exact Or.inl rfl) rfl (by assumption) ?_
    refine p_null e_AL_fastRemove_41 ?_
    refine p_aastN (ti := 2) (n := n - 1) e_AL_fastRemove_42 (by decide) rfl ht rfl (by show n - 1 < al σ (fr σ 1 l); omega) (by omega) ?_
    refine p_ret e_AL_fastRemove_43 (rv_v ?_)
    refine hP _ (rm_of h hi rfl rfl rfl rfl (fun k r hr => ?_) ?_ (fun r j hr => ?_) (fun j hj => ?_))
    · have q2 : ¬ (k = 2 ∧ r = l) := by omega
      have q0 : ¬ (k = 0 ∧ r = l) := by omega
      show (if k = 2 ∧ r = l then nI (n - 1) else if k = 0 ∧ r = l then fi σ 0 l + 1 else fi σ k r) = _
      rw [if_neg q2, if_neg q0]
    · exact if_pos ⟨rfl, rfl⟩
    · show (if r = fr σ 1 l ∧ j = n - 1 then 0 else if r = fr σ 1 l then va_cpy (ar σ (fr σ 1 l)) (ar σ (fr σ 1 l)) (i + 1) i (n - 1 - i) j else ar σ r j) = _
      rw [if_neg (fun z => hr z.1), if_neg hr]
    · show (if fr σ 1 l = fr σ 1 l ∧ j = n - 1 then 0 else if fr σ 1 l = fr σ 1 l then va_cpy (ar σ (fr σ 1 l)) (ar σ (fr σ 1 l)) (i + 1) i (n - 1 - i) j else ar σ (fr σ 1 l) j) = _
      rw [if_neg (by omega), if_pos rfl]
      unfold va_cpy
      by_cases hji : j < i
      · rw [if_neg (by omega), if_pos hji]
      · rw [if_pos (by omega), if_neg hji]
        congr 1
        omega
theorem sp_AL_remove {σ : PS} {l n i : Nat} {f : Nat → Nat} {P : Option PV → PS → Prop} (h : AL σ l n f) (hi : i < n) (hP : ∀ σ', RM σ σ' l n i f → P (some (.inr (f i))) σ') : Ctr m_AL_remove 3 [.inr l, .inl (nI i)] σ P := by
  obtain ⟨h1, h2, h3, h4, h5, h6, h7, h8, h9⟩ := id h
  have ht : tg σ (fr σ 1 l) = 102 := by
    rcases h8 with ⟨-, h⟩ | ⟨h, -⟩
    · omega
    · exact h
  refine Ctr.of y_AL_remove (Nat.le_of_ble_eq_true rfl) ?_
  refine p_iload_n e_AL_remove_0 rfl ?_
  refine p_aload_n e_AL_remove_1 rfl ?_
  refine p_gIv 2 e_AL_remove_2 f_AL_48 rfl rfl (by assumption) h2 ?_
  refine p_stat (d' := 2) [_, _] _ e_AL_remove_5 c_AL_118 k_Objs_checkIndex t_Objs_checkIndex rfl rfl (Nat.le_of_ble_eq_true rfl) (Nat.le_of_ble_eq_true rfl) ?_
  refine sp_Objs_checkIndex hi (by omega) ?_
  refine p_pop e_AL_remove_8 ?_
  refine p_aload_n e_AL_remove_9 rfl ?_
  refine p_gR 1 e_AL_remove_10 f_AL_9 rfl rfl (by assumption) ?_
  refine p_astore_n e_AL_remove_13 (by decide) ?_
  refine p_aload_n e_AL_remove_14 rfl ?_
  refine p_iload_n e_AL_remove_15 rfl ?_
  refine p_aald e_AL_remove_16 (ti := 2) (n := i) (by decide) ht rfl (by omega) (by omega) ?_
  refine p_astore_n e_AL_remove_17 (by decide) ?_
  refine p_aload_n e_AL_remove_18 rfl ?_
  refine p_aload_n e_AL_remove_19 rfl ?_
  refine p_iload_n e_AL_remove_20 rfl ?_
  refine p_inv (ci := 0) (d' := 1) [_, _] _ e_AL_remove_21 c_AL_144 k_AL_fastRemove i_AL_fastRemove s_AL_fastRemove rfl rfl (by assumption) rfl rfl (Nat.le_of_ble_eq_true rfl) (Nat.le_of_ble_eq_true rfl) ?_
  refine sp_AL_fastRemove h hi rfl (fun σ' hR => ?_)
  refine p_aload_n e_AL_remove_24 rfl ?_
  refine p_aret e_AL_remove_25 (rv_o ?_)
  rw [(h9 i hi).1]
  exact hP σ' hR
