/-! the public methods that only tell -/
theorem ix {i : Int32} {n : Nat} (hn : n < 2 ^ 31) (h0 : 0 ≤ i) (h1 : i < nI n) : ∃ j, j < n ∧ i = nI j := by
  obtain ⟨j, hj, rfl⟩ := nI_of (Int32.not_lt.mpr h0)
  exact ⟨j, (nI_ltI hj hn).mp h1, rfl⟩
theorem ixle {i : Int32} {n : Nat} (hn : n < 2 ^ 31) (h0 : 0 ≤ i) (h1 : i ≤ nI n) : ∃ j, j ≤ n ∧ i = nI j := by
  obtain ⟨j, hj, rfl⟩ := nI_of (Int32.not_lt.mpr h0)
  exact ⟨j, (nI_leI hj hn).mp h1, rfl⟩
theorem ix2 {i : Int32} (h0 : 0 ≤ i) (h1 : i < 2) : ∃ j, j < 2 ∧ i = nI j := ix (n := 2) (by omega) h0 h1
def isC (N : Nat) (c : Int32) : Prop := 0 ≤ c ∧ c < nI N
def isNd (N : Nat) (c : Int32) : Prop := 0 ≤ c ∧ c ≤ nI N
def isB (b : Int32) : Prop := 0 ≤ b ∧ b < 2
def lsA (A : AS) (j : Nat) : Int32 := sv A 29 j + 8 * sv A 30 j + 64 * sv A 31 j + 512 * sv A 32 j + 1024 * sv A 33 j + (if sv A 34 j = 0 then 0 else 8192) + (if sv A 35 j = 0 then 0 else 16384)
section Pub1
variable {N : Nat} {Y : Nat → Nat} {bd : Nat × Nat × Nat} {hs : List Nat} {σ : PS} {A : AS} {f : Nat → Nat} {m : Nat} {g : Nat → Nat} {rf : Nat → Nat → Nat} {P : Option PV → PS → Prop}
theorem sp_TM_letters (h : CRx N Y bd hs σ A f m g rf) (hP : P (some (.inl (nI (ln A)))) σ) : Ctr m_TM_letters 3 [.inr (Y 0)] σ P := by
  obtain ⟨a0, ⟨b1, b2, b3, b4, b5, b6, b7, b8, b9⟩, -⟩ := h.1
  have t5 := (h.1.2.2.2.2.2.2.1).1
  refine Ctr.of y_TM_letters (Nat.le_of_ble_eq_true rfl) ?_
  refine p_aload_n e_TM_letters_0 rfl ?_
  refine p_gRv 457 e_TM_letters_1 f_TM_67 rfl rfl (by assumption) b9 ?_
  refine p_inv (ci := 4) (d' := 2) [] _ e_TM_letters_4 c_TM_170 k_Mail_size i_Mail_size s_Mail_size rfl rfl (by assumption) rfl rfl (Nat.le_of_ble_eq_true rfl) (Nat.le_of_ble_eq_true rfl) ?_
  refine sp_Mail_size h ?_
  refine p_iret e_TM_letters_7 (rv_i ?_)
  exact hP
theorem sp_TM_letter {i : Int32} (h : CRx N Y bd hs σ A f m g rf) (k1 : ∀ j, j < ln A → i = nI j → P (some (.inl (lsA A j))) σ) (k0 : ¬ (0 ≤ i ∧ i < nI (ln A)) → P (some (.inl (-1))) σ) : Ctr m_TM_letter 5 [.inr (Y 0), .inl i] σ P := by
  obtain ⟨a0, ⟨b1, b2, b3, b4, b5, b6, b7, b8, b9⟩, -⟩ := h.1
  have t5 := (h.1.2.2.2.2.2.2.1).1
  have hle := h.2.2.2.2.2.1.2.2.2.2.2.2.2.2.2
  refine Ctr.of y_TM_letter (Nat.le_of_ble_eq_true rfl) ?_
  refine p_aload_n e_TM_letter_0 rfl ?_
  refine p_gRv 457 e_TM_letter_1 f_TM_67 rfl rfl (by assumption) b9 ?_
  refine p_iload_n e_TM_letter_4 rfl ?_
  refine p_inv (ci := 4) (d' := 2) [_] _ e_TM_letter_5 c_TM_107 k_Mail_has i_Mail_has s_Mail_has rfl rfl (by assumption) rfl rfl (Nat.le_of_ble_eq_true rfl) (Nat.le_of_ble_eq_true rfl) ?_
  refine sp_Mail_has h (fun y1 y2 => ?_) (fun y => ?_)
  · refine p_if_ne (tgt := 13) e_TM_letter_8 (by decide) (fun _ => ?_) (fun hx => absurd hx ((by decide)))
    obtain ⟨j, hj, rfl⟩ := ix (by omega) y1 y2
    refine p_aload_n e_TM_letter_13 rfl ?_
    refine p_gRv 457 e_TM_letter_14 f_TM_67 rfl rfl (by assumption) b9 ?_
    refine p_iload_n e_TM_letter_17 rfl ?_
    refine p_inv (ci := 4) (d' := 4) [_] _ e_TM_letter_18 c_TM_174 k_Mail_at i_Mail_at s_Mail_at rfl rfl (by assumption) rfl rfl (Nat.le_of_ble_eq_true rfl) (Nat.le_of_ble_eq_true rfl) ?_
    refine sp_Mail_at h hj ?_
    obtain ⟨tl, l1, l2, l3, l4, l5, l6, l7, l8, l9, l10, l11⟩ := h.2.2.2.2.2.1.2.2.1 j hj
    refine p_inv (ci := 3) (d' := 1) [] _ e_TM_letter_21 c_TM_177 k_Letter_sum i_Letter_sum s_Letter_sum rfl rfl (tl) rfl rfl (Nat.le_of_ble_eq_true rfl) (Nat.le_of_ble_eq_true rfl) ?_
    refine sp_Letter_sum tl ?_
    rw [l1, l2, l3, l4, l5, l6, l7]
    refine p_iret e_TM_letter_24 (rv_i ?_)
    exact k1 j hj rfl
  · refine p_if_ne (tgt := 13) e_TM_letter_8 (by decide) (fun hx => absurd (rfl) hx) (fun _ => ?_)
    refine p_iconst (x := (-1)) e_TM_letter_11 (by decide) ?_
    refine p_iret e_TM_letter_12 (rv_i ?_)
    exact k0 y
set_option maxHeartbeats 4000000 in
theorem sp_TM_tokens {x b : Int32} (h : CRx N Y bd hs σ A f m g rf) (k1 : ∀ x' b', x' ≤ N → b' < 2 → x = nI x' → b = nI b' → P (some (.inl (sv A 5 (2 * x' + b') + (if sv A 6 (2 * x' + b') = 0 then 0 else 8) + (if sv A 7 (2 * x' + b') = 0 then 0 else 16)))) σ) (k0 : ¬ (isNd N x ∧ isB b) → P (some (.inl (-1))) σ) : Ctr m_TM_tokens 2 [.inr (Y 0), .inl x, .inl b] σ P := by
  obtain ⟨a0, ⟨b1, b2, b3, b4, b5, b6, b7, b8, b9⟩, -⟩ := h.1
  have no : ¬ (isNd N x ∧ isB b) → Wp m_TM_tokens 2 15 (largs 0 [.inr (Y 0), .inl x, .inl b]) [] σ (fun v σ' => RV m_TM_tokens.2.2.2 v ∧ P v σ') := by
    intro hy
    refine p_iconst (x := (-1)) e_TM_tokens_15 (by decide) ?_
    refine p_iret e_TM_tokens_16 (rv_i ?_)
    exact k0 hy
  refine Ctr.of y_TM_tokens (Nat.le_of_ble_eq_true rfl) ?_
  refine p_aload_n e_TM_tokens_0 rfl ?_
  refine p_iload_n e_TM_tokens_1 rfl ?_
  refine p_inv (ci := 7) (d' := 1) [_] _ e_TM_tokens_2 c_TM_180 k_TM_isNode i_TM_isNode s_TM_isNode rfl rfl (by assumption) rfl rfl (Nat.le_of_ble_eq_true rfl) (Nat.le_of_ble_eq_true rfl) ?_
  refine sp_isNode b1 (fun y1 y2 => ?_) (fun y => ?_)
  · refine p_if_eq (tgt := 15) e_TM_tokens_5 (by decide) (fun hx => absurd hx ((by decide))) (fun _ => ?_)
    rw [b3] at y2
    refine p_iload_n e_TM_tokens_8 rfl ?_
    refine p_stat (d' := 1) [_] _ e_TM_tokens_9 c_TM_75 k_TM_isBlock t_TM_isBlock rfl rfl (Nat.le_of_ble_eq_true rfl) (Nat.le_of_ble_eq_true rfl) ?_
    refine sp_isBlock (fun z1 z2 => ?_) (fun z => ?_)
    · refine p_if_ne (tgt := 17) e_TM_tokens_12 (by decide) (fun _ => ?_) (fun hx => absurd hx ((by decide)))
      obtain ⟨x', hx, rfl⟩ := ixle (by omega) y1 y2
      obtain ⟨b', hb, rfl⟩ := ix2 z1 z2
      have hi : 2 * x' + b' < 2 * N + 2 := by omega
      have ts : tg σ (Y (100 + (2 * x' + b'))) = 7 := h.1.sh hi
      have v5 := h.2.2.1.1 _ hi
      have v6 := h.2.2.1.2.1 _ hi
      have v7 := h.2.2.1.2.2.1 _ hi
      have kk := k1 x' b' hx hb rfl rfl
      refine p_aload_n e_TM_tokens_17 rfl ?_
      refine p_iload_n e_TM_tokens_18 rfl ?_
      refine p_iload_n e_TM_tokens_19 rfl ?_
      refine p_inv (ci := 7) (d' := 1) [_, _] _ e_TM_tokens_20 c_TM_159 k_TM_share i_TM_share s_TM_share rfl rfl (by assumption) rfl rfl (Nat.le_of_ble_eq_true rfl) (Nat.le_of_ble_eq_true rfl) ?_
      refine h.1.share hx hb ?_
      refine p_astore_n e_TM_tokens_23 (by decide) ?_
      refine p_aload_n e_TM_tokens_24 rfl ?_
      refine p_gIv 384 e_TM_tokens_25 f_TM_54 rfl rfl (by assumption) v5 ?_
      refine p_aload_n e_TM_tokens_28 rfl ?_
      refine p_gIv 385 e_TM_tokens_29 f_TM_57 rfl rfl (by assumption) v6 ?_
      refine p_if_eq (tgt := 40) e_TM_tokens_32 (by decide) (fun h32 => ?_) (fun h32 => ?_)
      · rw [if_pos h32] at kk
        refine p_iconst (x := 0) e_TM_tokens_40 (by decide) ?_
        refine p_iadd e_TM_tokens_41 ?_
        refine p_aload_n e_TM_tokens_42 rfl ?_
        refine p_gIv 386 e_TM_tokens_43 f_TM_61 rfl rfl (by assumption) v7 ?_
        refine p_if_eq (tgt := 54) e_TM_tokens_46 (by decide) (fun h46 => ?_) (fun h46 => ?_)
        · rw [if_pos h46] at kk
          refine p_iconst (x := 0) e_TM_tokens_54 (by decide) ?_
          refine p_iadd e_TM_tokens_55 ?_
          refine p_iret e_TM_tokens_56 (rv_i ?_)
          exact kk
        · rw [if_neg h46] at kk
          refine p_bipush (x := 16) e_TM_tokens_49 (by decide) ?_
          refine p_goto (tgt := 55) e_TM_tokens_51 (by decide) ?_
          refine p_iadd e_TM_tokens_55 ?_
          refine p_iret e_TM_tokens_56 (rv_i ?_)
          exact kk
      · rw [if_neg h32] at kk
        refine p_bipush (x := 8) e_TM_tokens_35 (by decide) ?_
        refine p_goto (tgt := 41) e_TM_tokens_37 (by decide) ?_
        refine p_iadd e_TM_tokens_41 ?_
        refine p_aload_n e_TM_tokens_42 rfl ?_
        refine p_gIv 386 e_TM_tokens_43 f_TM_61 rfl rfl (by assumption) v7 ?_
        refine p_if_eq (tgt := 54) e_TM_tokens_46 (by decide) (fun h46 => ?_) (fun h46 => ?_)
        · rw [if_pos h46] at kk
          refine p_iconst (x := 0) e_TM_tokens_54 (by decide) ?_
          refine p_iadd e_TM_tokens_55 ?_
          refine p_iret e_TM_tokens_56 (rv_i ?_)
          exact kk
        · rw [if_neg h46] at kk
          refine p_bipush (x := 16) e_TM_tokens_49 (by decide) ?_
          refine p_goto (tgt := 55) e_TM_tokens_51 (by decide) ?_
          refine p_iadd e_TM_tokens_55 ?_
          refine p_iret e_TM_tokens_56 (rv_i ?_)
          exact kk
    · refine p_if_ne (tgt := 17) e_TM_tokens_12 (by decide) (fun hx => absurd (rfl) hx) (fun _ => ?_)
      exact no (fun q => z q.2)
  · refine p_if_eq (tgt := 15) e_TM_tokens_5 (by decide) (fun _ => ?_) (fun hx => absurd (rfl) hx)
    rw [b3] at y
    exact no (fun q => y q.1)
set_option maxHeartbeats 4000000 in
theorem sp_TM_data {x b : Int32} (h : CRx N Y bd hs σ A f m g rf) (k1 : ∀ x' b', x' ≤ N → b' < 2 → x = nI x' → b = nI b' → P (some (.inl (if sv A 7 (2 * x' + b') = 0 then 0 else sv A 8 (2 * x' + b')))) σ) (k0 : ¬ (isNd N x ∧ isB b) → P (some (.inl 0)) σ) : Ctr m_TM_data 2 [.inr (Y 0), .inl x, .inl b] σ P := by
  obtain ⟨a0, ⟨b1, b2, b3, b4, b5, b6, b7, b8, b9⟩, -⟩ := h.1
  have no : ¬ (isNd N x ∧ isB b) → Wp m_TM_data 2 15 (largs 0 [.inr (Y 0), .inl x, .inl b]) [] σ (fun v σ' => RV m_TM_data.2.2.2 v ∧ P v σ') := by
    intro hy
    refine p_iconst (x := 0) e_TM_data_15 (by decide) ?_
    refine p_iret e_TM_data_16 (rv_i ?_)
    exact k0 hy
  refine Ctr.of y_TM_data (Nat.le_of_ble_eq_true rfl) ?_
  refine p_aload_n e_TM_data_0 rfl ?_
  refine p_iload_n e_TM_data_1 rfl ?_
  refine p_inv (ci := 7) (d' := 1) [_] _ e_TM_data_2 c_TM_180 k_TM_isNode i_TM_isNode s_TM_isNode rfl rfl (by assumption) rfl rfl (Nat.le_of_ble_eq_true rfl) (Nat.le_of_ble_eq_true rfl) ?_
  refine sp_isNode b1 (fun y1 y2 => ?_) (fun y => ?_)
  · refine p_if_eq (tgt := 15) e_TM_data_5 (by decide) (fun hx => absurd hx ((by decide))) (fun _ => ?_)
    rw [b3] at y2
    refine p_iload_n e_TM_data_8 rfl ?_
    refine p_stat (d' := 1) [_] _ e_TM_data_9 c_TM_75 k_TM_isBlock t_TM_isBlock rfl rfl (Nat.le_of_ble_eq_true rfl) (Nat.le_of_ble_eq_true rfl) ?_
    refine sp_isBlock (fun z1 z2 => ?_) (fun z => ?_)
    · refine p_if_ne (tgt := 17) e_TM_data_12 (by decide) (fun _ => ?_) (fun hx => absurd hx ((by decide)))
      obtain ⟨x', hx, rfl⟩ := ixle (by omega) y1 y2
      obtain ⟨b', hb, rfl⟩ := ix2 z1 z2
      have hi : 2 * x' + b' < 2 * N + 2 := by omega
      have ts : tg σ (Y (100 + (2 * x' + b'))) = 7 := h.1.sh hi
      have v7 := h.2.2.1.2.2.1 _ hi
      have v8 := h.2.2.1.2.2.2.1 _ hi
      have kk := k1 x' b' hx hb rfl rfl
      refine p_aload_n e_TM_data_17 rfl ?_
      refine p_iload_n e_TM_data_18 rfl ?_
      refine p_iload_n e_TM_data_19 rfl ?_
      refine p_inv (ci := 7) (d' := 1) [_, _] _ e_TM_data_20 c_TM_159 k_TM_share i_TM_share s_TM_share rfl rfl (by assumption) rfl rfl (Nat.le_of_ble_eq_true rfl) (Nat.le_of_ble_eq_true rfl) ?_
      refine h.1.share hx hb ?_
      refine p_astore_n e_TM_data_23 (by decide) ?_
      refine p_aload_n e_TM_data_24 rfl ?_
      refine p_gIv 386 e_TM_data_25 f_TM_61 rfl rfl (by assumption) v7 ?_
      refine p_if_eq (tgt := 38) e_TM_data_28 (by decide) (fun h28 => ?_) (fun h28 => ?_)
      · rw [if_pos h28] at kk
        refine p_iconst (x := 0) e_TM_data_38 (by decide) ?_
        refine p_iret e_TM_data_39 (rv_i ?_)
        exact kk
      · rw [if_neg h28] at kk
        refine p_aload_n e_TM_data_31 rfl ?_
        refine p_gIv 387 e_TM_data_32 f_TM_183 rfl rfl (by assumption) v8 ?_
        refine p_goto (tgt := 39) e_TM_data_35 (by decide) ?_
        refine p_iret e_TM_data_39 (rv_i ?_)
        exact kk
    · refine p_if_ne (tgt := 17) e_TM_data_12 (by decide) (fun hx => absurd (rfl) hx) (fun _ => ?_)
      exact no (fun q => z q.2)
  · refine p_if_eq (tgt := 15) e_TM_data_5 (by decide) (fun _ => ?_) (fun hx => absurd (rfl) hx)
    rw [b3] at y
    exact no (fun q => y q.1)
set_option maxHeartbeats 4000000 in
theorem sp_TM_knows {x b : Int32} (h : CRx N Y bd hs σ A f m g rf) (k1 : ∀ x' b', x' ≤ N → b' < 2 → x = nI x' → b = nI b' → P (some (.inl (if sv A 9 (2 * x' + b') = -1 then -1 else sv A 9 (2 * x' + b') + (if sv A 10 (2 * x' + b') = 0 then 0 else 8)))) σ) (k0 : ¬ (isNd N x ∧ isB b) → P (some (.inl (-2))) σ) : Ctr m_TM_knows 2 [.inr (Y 0), .inl x, .inl b] σ P := by
  obtain ⟨a0, ⟨b1, b2, b3, b4, b5, b6, b7, b8, b9⟩, -⟩ := h.1
  have no : ¬ (isNd N x ∧ isB b) → Wp m_TM_knows 2 15 (largs 0 [.inr (Y 0), .inl x, .inl b]) [] σ (fun v σ' => RV m_TM_knows.2.2.2 v ∧ P v σ') := by
    intro hy
    refine p_bipush (x := (-2)) e_TM_knows_15 (by decide) ?_
    refine p_iret e_TM_knows_17 (rv_i ?_)
    exact k0 hy
  refine Ctr.of y_TM_knows (Nat.le_of_ble_eq_true rfl) ?_
  refine p_aload_n e_TM_knows_0 rfl ?_
  refine p_iload_n e_TM_knows_1 rfl ?_
  refine p_inv (ci := 7) (d' := 1) [_] _ e_TM_knows_2 c_TM_180 k_TM_isNode i_TM_isNode s_TM_isNode rfl rfl (by assumption) rfl rfl (Nat.le_of_ble_eq_true rfl) (Nat.le_of_ble_eq_true rfl) ?_
  refine sp_isNode b1 (fun y1 y2 => ?_) (fun y => ?_)
  · refine p_if_eq (tgt := 15) e_TM_knows_5 (by decide) (fun hx => absurd hx ((by decide))) (fun _ => ?_)
    rw [b3] at y2
    refine p_iload_n e_TM_knows_8 rfl ?_
    refine p_stat (d' := 1) [_] _ e_TM_knows_9 c_TM_75 k_TM_isBlock t_TM_isBlock rfl rfl (Nat.le_of_ble_eq_true rfl) (Nat.le_of_ble_eq_true rfl) ?_
    refine sp_isBlock (fun z1 z2 => ?_) (fun z => ?_)
    · refine p_if_ne (tgt := 18) e_TM_knows_12 (by decide) (fun _ => ?_) (fun hx => absurd hx ((by decide)))
      obtain ⟨x', hx, rfl⟩ := ixle (by omega) y1 y2
      obtain ⟨b', hb, rfl⟩ := ix2 z1 z2
      have hi : 2 * x' + b' < 2 * N + 2 := by omega
      have ts : tg σ (Y (100 + (2 * x' + b'))) = 7 := h.1.sh hi
      have v9 := h.2.2.1.2.2.2.2.1 _ hi
      have v10 := h.2.2.1.2.2.2.2.2.1 _ hi
      have kk := k1 x' b' hx hb rfl rfl
      refine p_aload_n e_TM_knows_18 rfl ?_
      refine p_iload_n e_TM_knows_19 rfl ?_
      refine p_iload_n e_TM_knows_20 rfl ?_
      refine p_inv (ci := 7) (d' := 1) [_, _] _ e_TM_knows_21 c_TM_159 k_TM_share i_TM_share s_TM_share rfl rfl (by assumption) rfl rfl (Nat.le_of_ble_eq_true rfl) (Nat.le_of_ble_eq_true rfl) ?_
      refine h.1.share hx hb ?_
      refine p_astore_n e_TM_knows_24 (by decide) ?_
      refine p_aload_n e_TM_knows_25 rfl ?_
      refine p_gIv 388 e_TM_knows_26 f_TM_186 rfl rfl (by assumption) v9 ?_
      refine p_iconst (x := (-1)) e_TM_knows_29 (by decide) ?_
      refine p_icmp_ne (tgt := 35) e_TM_knows_30 (by decide) (fun h30 => ?_) (fun h30 => ?_)
      · rw [if_neg h30] at kk
        refine p_aload_n e_TM_knows_35 rfl ?_
        refine p_gIv 388 e_TM_knows_36 f_TM_186 rfl rfl (by assumption) v9 ?_
        refine p_aload_n e_TM_knows_39 rfl ?_
        refine p_gIv 389 e_TM_knows_40 f_TM_189 rfl rfl (by assumption) v10 ?_
        refine p_if_eq (tgt := 51) e_TM_knows_43 (by decide) (fun h43 => ?_) (fun h43 => ?_)
        · rw [if_pos h43] at kk
          refine p_iconst (x := 0) e_TM_knows_51 (by decide) ?_
          refine p_iadd e_TM_knows_52 ?_
          refine p_iret e_TM_knows_53 (rv_i ?_)
          exact kk
        · rw [if_neg h43] at kk
          refine p_bipush (x := 8) e_TM_knows_46 (by decide) ?_
          refine p_goto (tgt := 52) e_TM_knows_48 (by decide) ?_
          refine p_iadd e_TM_knows_52 ?_
          refine p_iret e_TM_knows_53 (rv_i ?_)
          exact kk
      · rw [if_pos h30] at kk
        refine p_iconst (x := (-1)) e_TM_knows_33 (by decide) ?_
        refine p_iret e_TM_knows_34 (rv_i ?_)
        exact kk
    · refine p_if_ne (tgt := 18) e_TM_knows_12 (by decide) (fun hx => absurd (rfl) hx) (fun _ => ?_)
      exact no (fun q => z q.2)
  · refine p_if_eq (tgt := 15) e_TM_knows_5 (by decide) (fun _ => ?_) (fun hx => absurd (rfl) hx)
    rw [b3] at y
    exact no (fun q => y q.1)
theorem sp_TM_row {b : Int32} (h : CRx N Y bd hs σ A f m g rf) (k1 : ∀ b', b' < 2 → b = nI b' → P (some (.inl (nI (rn A b')))) σ) (k0 : ¬ isB b → P (some (.inl (-1))) σ) : Ctr m_TM_row 2 [.inr (Y 0), .inl b] σ P := by
  obtain ⟨a0, ⟨b1, b2, b3, b4, b5, b6, b7, b8, b9⟩, -, -, ⟨d1, d2, d3⟩, -⟩ := h.1
  refine Ctr.of y_TM_row (Nat.le_of_ble_eq_true rfl) ?_
  refine p_iload_n e_TM_row_0 rfl ?_
  refine p_stat (d' := 1) [_] _ e_TM_row_1 c_TM_75 k_TM_isBlock t_TM_isBlock rfl rfl (Nat.le_of_ble_eq_true rfl) (Nat.le_of_ble_eq_true rfl) ?_
  refine sp_isBlock (fun z1 z2 => ?_) (fun z => ?_)
  · refine p_if_eq (tgt := 22) e_TM_row_4 (by decide) (fun hx => absurd hx ((by decide))) (fun _ => ?_)
    obtain ⟨b', hb, rfl⟩ := ix2 z1 z2
    have td : tg σ (Y (300 + b')) = 3 := h.1.dk hb
    obtain ⟨hA, -⟩ := h.2.2.2.2.2.2.1 b' hb
    have tl := hA.1
    refine p_aload_n e_TM_row_7 rfl ?_
    refine p_gRv 455 e_TM_row_8 f_TM_49 rfl rfl (by assumption) b7 ?_
    refine p_iload_n e_TM_row_11 rfl ?_
    refine p_aaldv e_TM_row_12 (ti := 5) (n := b') (v := Y (300 + b')) (by decide) d1 rfl (by omega) (by omega) (d3 b' hb).1 ?_
    refine p_gRv 128 e_TM_row_13 f_TM_192 rfl rfl (by assumption) (d3 b' hb).2.2 ?_
    refine p_inv (ci := 0) (d' := 1) [] _ e_TM_row_16 c_TM_196 k_AL_size i_AL_size s_AL_size rfl rfl (by assumption) rfl rfl (Nat.le_of_ble_eq_true rfl) (Nat.le_of_ble_eq_true rfl) ?_
    refine sp_AL_size tl ?_
    rw [hA.2.1]
    refine p_goto (tgt := 23) e_TM_row_19 (by decide) ?_
    refine p_iret e_TM_row_23 (rv_i ?_)
    exact k1 b' hb rfl
  · refine p_if_eq (tgt := 22) e_TM_row_4 (by decide) (fun _ => ?_) (fun hx => absurd (rfl) hx)
    refine p_iconst (x := (-1)) e_TM_row_22 (by decide) ?_
    refine p_iret e_TM_row_23 (rv_i ?_)
    exact k0 z
theorem sp_TM_state {c : Int32} (h : CRx N Y bd hs σ A f m g rf) (k1 : ∀ c', c' < N → c = nI c' → P (some (.inl (if sv A 12 c' = 0 then 0 else 1 + sv A 18 c' + (if sv A 14 c' = 0 then 0 else 8)))) σ) (k0 : ¬ isC N c → P (some (.inl (-1))) σ) : Ctr m_TM_state 2 [.inr (Y 0), .inl c] σ P := by
  obtain ⟨a0, ⟨b1, b2, b3, b4, b5, b6, b7, b8, b9⟩, -, ⟨d1, d2, d3⟩, -⟩ := h.1
  refine Ctr.of y_TM_state (Nat.le_of_ble_eq_true rfl) ?_
  refine p_aload_n e_TM_state_0 rfl ?_
  refine p_iload_n e_TM_state_1 rfl ?_
  refine p_inv (ci := 7) (d' := 1) [_] _ e_TM_state_2 c_TM_71 k_TM_isCore i_TM_isCore s_TM_isCore rfl rfl (by assumption) rfl rfl (Nat.le_of_ble_eq_true rfl) (Nat.le_of_ble_eq_true rfl) ?_
  refine sp_isCore b1 (fun y1 y2 => ?_) (fun y => ?_)
  · refine p_if_ne (tgt := 10) e_TM_state_5 (by decide) (fun _ => ?_) (fun hx => absurd hx ((by decide)))
    rw [b2] at y2
    obtain ⟨c', hc, rfl⟩ := ix (by omega) y1 y2
    have tc : tg σ (Y (200 + c')) = 2 := h.1.co hc
    have v12 := h.2.2.2.1.2.1 c' hc
    have v18 := h.2.2.2.1.2.2.2.2.2.1 c' hc
    have v14 := h.2.2.2.1.2.2.2.2.2.2.2.1 c' hc
    have kk := k1 c' hc rfl
    refine p_aload_n e_TM_state_10 rfl ?_
    refine p_gRv 454 e_TM_state_11 f_TM_38 rfl rfl (by assumption) b6 ?_
    refine p_iload_n e_TM_state_14 rfl ?_
    refine p_aaldv e_TM_state_15 (ti := 4) (n := c') (v := Y (200 + c')) (by decide) d1 rfl (by omega) (by omega) (d3 c' hc).1 ?_
    refine p_astore_n e_TM_state_16 (by decide) ?_
    refine p_aload_n e_TM_state_17 rfl ?_
    refine p_gIv 65 e_TM_state_18 f_TM_78 rfl rfl (by assumption) v12 ?_
    refine p_if_ne (tgt := 26) e_TM_state_21 (by decide) (fun h21 => ?_) (fun h21 => ?_)
    · rw [if_neg h21] at kk
      refine p_iconst (x := 1) e_TM_state_26 (by decide) ?_
      refine p_aload_n e_TM_state_27 rfl ?_
      refine p_gIv 69 e_TM_state_28 f_TM_199 rfl rfl (by assumption) v18 ?_
      refine p_iadd e_TM_state_31 ?_
      refine p_aload_n e_TM_state_32 rfl ?_
      refine p_gIv 71 e_TM_state_33 f_TM_202 rfl rfl (by assumption) v14 ?_
      refine p_if_eq (tgt := 44) e_TM_state_36 (by decide) (fun h36 => ?_) (fun h36 => ?_)
      · rw [if_pos h36] at kk
        refine p_iconst (x := 0) e_TM_state_44 (by decide) ?_
        refine p_iadd e_TM_state_45 ?_
        refine p_iret e_TM_state_46 (rv_i ?_)
        exact kk
      · rw [if_neg h36] at kk
        refine p_bipush (x := 8) e_TM_state_39 (by decide) ?_
        refine p_goto (tgt := 45) e_TM_state_41 (by decide) ?_
        refine p_iadd e_TM_state_45 ?_
        refine p_iret e_TM_state_46 (rv_i ?_)
        exact kk
    · rw [if_pos h21] at kk
      refine p_iconst (x := 0) e_TM_state_24 (by decide) ?_
      refine p_iret e_TM_state_25 (rv_i ?_)
      exact kk
  · refine p_if_ne (tgt := 10) e_TM_state_5 (by decide) (fun hx => absurd (rfl) hx) (fun _ => ?_)
    rw [b2] at y
    refine p_iconst (x := (-1)) e_TM_state_8 (by decide) ?_
    refine p_iret e_TM_state_9 (rv_i ?_)
    exact k0 y
theorem sp_TM_ended {c : Int32} (h : CRx N Y bd hs σ A f m g rf) (k1 : ∀ c', c' < N → c = nI c' → P (some (.inl (sv A 20 c'))) σ) (k0 : ¬ isC N c → P (some (.inl (-1))) σ) : Ctr m_TM_ended 2 [.inr (Y 0), .inl c] σ P := by
  obtain ⟨a0, ⟨b1, b2, b3, b4, b5, b6, b7, b8, b9⟩, -, ⟨d1, d2, d3⟩, -⟩ := h.1
  refine Ctr.of y_TM_ended (Nat.le_of_ble_eq_true rfl) ?_
  refine p_aload_n e_TM_ended_0 rfl ?_
  refine p_iload_n e_TM_ended_1 rfl ?_
  refine p_inv (ci := 7) (d' := 1) [_] _ e_TM_ended_2 c_TM_71 k_TM_isCore i_TM_isCore s_TM_isCore rfl rfl (by assumption) rfl rfl (Nat.le_of_ble_eq_true rfl) (Nat.le_of_ble_eq_true rfl) ?_
  refine sp_isCore b1 (fun y1 y2 => ?_) (fun y => ?_)
  · refine p_if_eq (tgt := 20) e_TM_ended_5 (by decide) (fun hx => absurd hx ((by decide))) (fun _ => ?_)
    rw [b2] at y2
    obtain ⟨c', hc, rfl⟩ := ix (by omega) y1 y2
    have tc : tg σ (Y (200 + c')) = 2 := h.1.co hc
    have v20 := h.2.2.2.1.2.2.2.2.2.2.2.2.1 c' hc
    refine p_aload_n e_TM_ended_8 rfl ?_
    refine p_gRv 454 e_TM_ended_9 f_TM_38 rfl rfl (by assumption) b6 ?_
    refine p_iload_n e_TM_ended_12 rfl ?_
    refine p_aaldv e_TM_ended_13 (ti := 4) (n := c') (v := Y (200 + c')) (by decide) d1 rfl (by omega) (by omega) (d3 c' hc).1 ?_
    refine p_gIv 72 e_TM_ended_14 f_TM_205 rfl rfl (by assumption) v20 ?_
    refine p_goto (tgt := 21) e_TM_ended_17 (by decide) ?_
    refine p_iret e_TM_ended_21 (rv_i ?_)
    exact k1 c' hc rfl
  · refine p_if_eq (tgt := 20) e_TM_ended_5 (by decide) (fun _ => ?_) (fun hx => absurd (rfl) hx)
    rw [b2] at y
    refine p_iconst (x := (-1)) e_TM_ended_20 (by decide) ?_
    refine p_iret e_TM_ended_21 (rv_i ?_)
    exact k0 y
theorem sp_TM_result {c : Int32} (h : CRx N Y bd hs σ A f m g rf) (k1 : ∀ c', c' < N → c = nI c' → P (some (.inl (sv A 21 c'))) σ) (k0 : ¬ isC N c → P (some (.inl 0)) σ) : Ctr m_TM_result 2 [.inr (Y 0), .inl c] σ P := by
  obtain ⟨a0, ⟨b1, b2, b3, b4, b5, b6, b7, b8, b9⟩, -, ⟨d1, d2, d3⟩, -⟩ := h.1
  refine Ctr.of y_TM_result (Nat.le_of_ble_eq_true rfl) ?_
  refine p_aload_n e_TM_result_0 rfl ?_
  refine p_iload_n e_TM_result_1 rfl ?_
  refine p_inv (ci := 7) (d' := 1) [_] _ e_TM_result_2 c_TM_71 k_TM_isCore i_TM_isCore s_TM_isCore rfl rfl (by assumption) rfl rfl (Nat.le_of_ble_eq_true rfl) (Nat.le_of_ble_eq_true rfl) ?_
  refine sp_isCore b1 (fun y1 y2 => ?_) (fun y => ?_)
  · refine p_if_eq (tgt := 20) e_TM_result_5 (by decide) (fun hx => absurd hx ((by decide))) (fun _ => ?_)
    rw [b2] at y2
    obtain ⟨c', hc, rfl⟩ := ix (by omega) y1 y2
    have tc : tg σ (Y (200 + c')) = 2 := h.1.co hc
    have v21 := h.2.2.2.1.2.2.2.2.2.2.2.2.2 c' hc
    refine p_aload_n e_TM_result_8 rfl ?_
    refine p_gRv 454 e_TM_result_9 f_TM_38 rfl rfl (by assumption) b6 ?_
    refine p_iload_n e_TM_result_12 rfl ?_
    refine p_aaldv e_TM_result_13 (ti := 4) (n := c') (v := Y (200 + c')) (by decide) d1 rfl (by omega) (by omega) (d3 c' hc).1 ?_
    refine p_gIv 73 e_TM_result_14 f_TM_208 rfl rfl (by assumption) v21 ?_
    refine p_goto (tgt := 21) e_TM_result_17 (by decide) ?_
    refine p_iret e_TM_result_21 (rv_i ?_)
    exact k1 c' hc rfl
  · refine p_if_eq (tgt := 20) e_TM_result_5 (by decide) (fun _ => ?_) (fun hx => absurd (rfl) hx)
    rw [b2] at y
    refine p_iconst (x := 0) e_TM_result_20 (by decide) ?_
    refine p_iret e_TM_result_21 (rv_i ?_)
    exact k0 y
end Pub1
