/-! the small methods of the class -/
theorem sp_Core_begin {σ : PS} {c : Nat} {w b v : Int32} {P : Option PV → PS → Prop} (h : tg σ c = 2) (hw : w = 0 ∨ w = 1)
    (hP : P none (pfi (pfi (pfi (pfi (pfi (pfi (pfi σ 64 c (fi σ 64 c + 1)) 65 c 1) 66 c w) 67 c b) 68 c v) 69 c 0) 71 c 0)) : Ctr m_Core_begin 1 [.inr c, .inl w, .inl b, .inl v] σ P := by
  refine Ctr.of y_Core_begin (Nat.le_of_ble_eq_true rfl) ?_
  refine p_aload_n e_Core_begin_0 rfl ?_
  refine p_dup e_Core_begin_1 ?_
  refine p_gI 64 e_Core_begin_2 f_Core_7 rfl rfl (by assumption) ?_
  refine p_iconst (x := 1) e_Core_begin_5 (by decide) ?_
  refine p_iadd e_Core_begin_6 ?_
  refine p_pI 64 e_Core_begin_7 f_Core_7 rfl rfl (fun q h => by cases h; exact Or.inl rfl) rfl (by assumption) ?_
  refine p_aload_n e_Core_begin_10 rfl ?_
  refine p_iconst (x := 1) e_Core_begin_11 (by decide) ?_
  refine p_pZ 65 e_Core_begin_12 f_Core_13 rfl rfl (fun q h => by cases h; exact Or.inl rfl) rfl (by assumption) (by first | assumption | exact Or.inl rfl | exact Or.inr rfl) ?_
  refine p_aload_n e_Core_begin_15 rfl ?_
  refine p_iload_n e_Core_begin_16 rfl ?_
  refine p_pZ 66 e_Core_begin_17 f_Core_17 rfl rfl (fun q h => by cases h; exact Or.inl rfl) rfl (by assumption) (by first | assumption | exact Or.inl rfl | exact Or.inr rfl) ?_
  refine p_aload_n e_Core_begin_20 rfl ?_
  refine p_iload_n e_Core_begin_21 rfl ?_
  refine p_pI 67 e_Core_begin_22 f_Core_20 rfl rfl (fun q h => by cases h; exact Or.inl rfl) rfl (by assumption) ?_
  refine p_aload_n e_Core_begin_25 rfl ?_
  refine p_iload_n e_Core_begin_26 rfl ?_
  refine p_pI 68 e_Core_begin_27 f_Core_23 rfl rfl (fun q h => by cases h; exact Or.inl rfl) rfl (by assumption) ?_
  refine p_aload_n e_Core_begin_30 rfl ?_
  refine p_iconst (x := 0) e_Core_begin_31 (by decide) ?_
  refine p_pI 69 e_Core_begin_32 f_Core_26 rfl rfl (fun q h => by cases h; exact Or.inl rfl) rfl (by assumption) ?_
  refine p_aload_n e_Core_begin_35 rfl ?_
  refine p_iconst (x := 0) e_Core_begin_36 (by decide) ?_
  refine p_pZ 71 e_Core_begin_37 f_Core_29 rfl rfl (fun q h => by cases h; exact Or.inl rfl) rfl (by assumption) (by first | assumption | exact Or.inl rfl | exact Or.inr rfl) ?_
  refine p_ret e_Core_begin_40 (rv_v ?_)
  exact hP
theorem sp_Core_isDue {σ : PS} {c : Nat} {t : Int32} {P : Option PV → PS → Prop} (h : tg σ c = 2) (k1 : fi σ 65 c ≠ 0 → fi σ 71 c = 0 → fi σ 70 c = t → P (some (.inl 1)) σ) (k0 : ¬ (fi σ 65 c ≠ 0 ∧ fi σ 71 c = 0 ∧ fi σ 70 c = t) → P (some (.inl 0)) σ) : Ctr m_Core_isDue 1 [.inr c, .inl t] σ P := by
  refine Ctr.of y_Core_isDue (Nat.le_of_ble_eq_true rfl) ?_
  refine p_aload_n e_Core_isDue_0 rfl ?_
  refine p_gI 65 e_Core_isDue_1 f_Core_13 rfl rfl (by assumption) ?_
  refine p_if_eq (tgt := 26) e_Core_isDue_4 (by decide) (fun h4 => ?_) (fun h4 => ?_)
  · refine p_iconst (x := 0) e_Core_isDue_26 (by decide) ?_
    refine p_iret e_Core_isDue_27 (rv_z (by first | assumption | exact Or.inl rfl | exact Or.inr rfl) ?_)
    exact k0 (fun q => q.1 h4)
  refine p_aload_n e_Core_isDue_7 rfl ?_
  refine p_gI 71 e_Core_isDue_8 f_Core_29 rfl rfl (by assumption) ?_
  refine p_if_ne (tgt := 26) e_Core_isDue_11 (by decide) (fun h11 => ?_) (fun h11 => ?_)
  · refine p_iconst (x := 0) e_Core_isDue_26 (by decide) ?_
    refine p_iret e_Core_isDue_27 (rv_z (by first | assumption | exact Or.inl rfl | exact Or.inr rfl) ?_)
    exact k0 (fun q => h11 q.2.1)
  refine p_aload_n e_Core_isDue_14 rfl ?_
  refine p_gI 70 e_Core_isDue_15 f_Core_32 rfl rfl (by assumption) ?_
  refine p_iload_n e_Core_isDue_18 rfl ?_
  refine p_icmp_ne (tgt := 26) e_Core_isDue_19 (by decide) (fun h19 => ?_) (fun h19 => ?_)
  · refine p_iconst (x := 0) e_Core_isDue_26 (by decide) ?_
    refine p_iret e_Core_isDue_27 (rv_z (by first | assumption | exact Or.inl rfl | exact Or.inr rfl) ?_)
    exact k0 (fun q => h19 q.2.2)
  refine p_iconst (x := 1) e_Core_isDue_22 (by decide) ?_
  refine p_goto (tgt := 27) e_Core_isDue_23 (by decide) ?_
  refine p_iret e_Core_isDue_27 (rv_z (by first | assumption | exact Or.inl rfl | exact Or.inr rfl) ?_)
  exact k1 h4 h11 h19
theorem sp_Core_isBusyWith {σ : PS} {c : Nat} {b : Int32} {P : Option PV → PS → Prop} (h : tg σ c = 2) (k1 : fi σ 65 c ≠ 0 → fi σ 67 c = b → P (some (.inl 1)) σ) (k0 : ¬ (fi σ 65 c ≠ 0 ∧ fi σ 67 c = b) → P (some (.inl 0)) σ) : Ctr m_Core_isBusyWith 1 [.inr c, .inl b] σ P := by
  refine Ctr.of y_Core_isBusyWith (Nat.le_of_ble_eq_true rfl) ?_
  refine p_aload_n e_Core_isBusyWith_0 rfl ?_
  refine p_gI 65 e_Core_isBusyWith_1 f_Core_13 rfl rfl (by assumption) ?_
  refine p_if_eq (tgt := 19) e_Core_isBusyWith_4 (by decide) (fun h4 => ?_) (fun h4 => ?_)
  · refine p_iconst (x := 0) e_Core_isBusyWith_19 (by decide) ?_
    refine p_iret e_Core_isBusyWith_20 (rv_z (by first | assumption | exact Or.inl rfl | exact Or.inr rfl) ?_)
    exact k0 (fun q => q.1 h4)
  refine p_aload_n e_Core_isBusyWith_7 rfl ?_
  refine p_gI 67 e_Core_isBusyWith_8 f_Core_20 rfl rfl (by assumption) ?_
  refine p_iload_n e_Core_isBusyWith_11 rfl ?_
  refine p_icmp_ne (tgt := 19) e_Core_isBusyWith_12 (by decide) (fun h12 => ?_) (fun h12 => ?_)
  · refine p_iconst (x := 0) e_Core_isBusyWith_19 (by decide) ?_
    refine p_iret e_Core_isBusyWith_20 (rv_z (by first | assumption | exact Or.inl rfl | exact Or.inr rfl) ?_)
    exact k0 (fun q => h12 q.2)
  refine p_iconst (x := 1) e_Core_isBusyWith_15 (by decide) ?_
  refine p_goto (tgt := 20) e_Core_isBusyWith_16 (by decide) ?_
  refine p_iret e_Core_isBusyWith_20 (rv_z (by first | assumption | exact Or.inl rfl | exact Or.inr rfl) ?_)
  exact k1 h4 h12
/-- a letter written anew -/
def adr (σ : PS) (l : Nat) (kd fm to bl : Int32) : PS := pfi (pfi (pfi (pfi (pfi (pfi (pfi (pfi (pfi (pfi (pfi σ 192 l kd) 193 l fm) 194 l to) 195 l bl) 196 l 0) 197 l 0) 198 l 0) 199 l 0) 200 l 0) 201 l (-1)) 202 l 0
theorem sp_Letter_address {σ : PS} {l : Nat} {kd fm to bl : Int32} {P : Option PV → PS → Prop} (h : tg σ l = 4) (hP : P none (adr σ l kd fm to bl)) : Ctr m_Letter_address 1 [.inr l, .inl kd, .inl fm, .inl to, .inl bl] σ P := by
  refine Ctr.of y_Letter_address (Nat.le_of_ble_eq_true rfl) ?_
  refine p_aload_n e_Letter_address_0 rfl ?_
  refine p_iload_n e_Letter_address_1 rfl ?_
  refine p_pI 192 e_Letter_address_2 f_Letter_9 rfl rfl (fun q h => by cases h; exact Or.inl rfl) rfl (by assumption) ?_
  refine p_aload_n e_Letter_address_5 rfl ?_
  refine p_iload_n e_Letter_address_6 rfl ?_
  refine p_pI 193 e_Letter_address_7 f_Letter_15 rfl rfl (fun q h => by cases h; exact Or.inl rfl) rfl (by assumption) ?_
  refine p_aload_n e_Letter_address_10 rfl ?_
  refine p_iload_n e_Letter_address_11 rfl ?_
  refine p_pI 194 e_Letter_address_12 f_Letter_18 rfl rfl (fun q h => by cases h; exact Or.inl rfl) rfl (by assumption) ?_
  refine p_aload_n e_Letter_address_15 rfl ?_
  refine p_iload e_Letter_address_16 rfl ?_
  refine p_pI 195 e_Letter_address_18 f_Letter_21 rfl rfl (fun q h => by cases h; exact Or.inl rfl) rfl (by assumption) ?_
  refine p_aload_n e_Letter_address_21 rfl ?_
  refine p_iconst (x := 0) e_Letter_address_22 (by decide) ?_
  refine p_pI 196 e_Letter_address_23 f_Letter_24 rfl rfl (fun q h => by cases h; exact Or.inl rfl) rfl (by assumption) ?_
  refine p_aload_n e_Letter_address_26 rfl ?_
  refine p_iconst (x := 0) e_Letter_address_27 (by decide) ?_
  refine p_pZ 197 e_Letter_address_28 f_Letter_27 rfl rfl (fun q h => by cases h; exact Or.inl rfl) rfl (by assumption) (by first | assumption | exact Or.inl rfl | exact Or.inr rfl) ?_
  refine p_aload_n e_Letter_address_31 rfl ?_
  refine p_iconst (x := 0) e_Letter_address_32 (by decide) ?_
  refine p_pZ 198 e_Letter_address_33 f_Letter_31 rfl rfl (fun q h => by cases h; exact Or.inl rfl) rfl (by assumption) (by first | assumption | exact Or.inl rfl | exact Or.inr rfl) ?_
  refine p_aload_n e_Letter_address_36 rfl ?_
  refine p_iconst (x := 0) e_Letter_address_37 (by decide) ?_
  refine p_pI 199 e_Letter_address_38 f_Letter_34 rfl rfl (fun q h => by cases h; exact Or.inl rfl) rfl (by assumption) ?_
  refine p_aload_n e_Letter_address_41 rfl ?_
  refine p_iconst (x := 0) e_Letter_address_42 (by decide) ?_
  refine p_pI 200 e_Letter_address_43 f_Letter_37 rfl rfl (fun q h => by cases h; exact Or.inl rfl) rfl (by assumption) ?_
  refine p_aload_n e_Letter_address_46 rfl ?_
  refine p_iconst (x := (-1)) e_Letter_address_47 (by decide) ?_
  refine p_pI 201 e_Letter_address_48 f_Letter_40 rfl rfl (fun q h => by cases h; exact Or.inl rfl) rfl (by assumption) ?_
  refine p_aload_n e_Letter_address_51 rfl ?_
  refine p_iconst (x := 0) e_Letter_address_52 (by decide) ?_
  refine p_pZ 202 e_Letter_address_53 f_Letter_43 rfl rfl (fun q h => by cases h; exact Or.inl rfl) rfl (by assumption) (by first | assumption | exact Or.inl rfl | exact Or.inr rfl) ?_
  refine p_ret e_Letter_address_56 (rv_v ?_)
  exact hP
theorem sp_Letter_yieldsTo {σ : PS} {l : Nat} {kd fm to bl : Int32} {P : Option PV → PS → Prop} (h : tg σ l = 4) (k1 : fi σ 192 l = kd → fi σ 193 l = fm → fi σ 194 l = to → (kd = 5 → fi σ 195 l = bl) → P (some (.inl 1)) σ) (k0 : ¬ (fi σ 192 l = kd ∧ fi σ 193 l = fm ∧ fi σ 194 l = to ∧ (kd = 5 → fi σ 195 l = bl)) → P (some (.inl 0)) σ) : Ctr m_Letter_yieldsTo 1 [.inr l, .inl kd, .inl fm, .inl to, .inl bl] σ P := by
  refine Ctr.of y_Letter_yieldsTo (Nat.le_of_ble_eq_true rfl) ?_
  refine p_aload_n e_Letter_yieldsTo_0 rfl ?_
  refine p_gI 192 e_Letter_yieldsTo_1 f_Letter_9 rfl rfl (by assumption) ?_
  refine p_iload_n e_Letter_yieldsTo_4 rfl ?_
  refine p_icmp_ne (tgt := 45) e_Letter_yieldsTo_5 (by decide) (fun h5 => ?_) (fun h5 => ?_)
  · refine p_iconst (x := 0) e_Letter_yieldsTo_45 (by decide) ?_
    refine p_iret e_Letter_yieldsTo_46 (rv_z (by first | assumption | exact Or.inl rfl | exact Or.inr rfl) ?_)
    exact k0 (fun q => h5 q.1)
  refine p_aload_n e_Letter_yieldsTo_8 rfl ?_
  refine p_gI 193 e_Letter_yieldsTo_9 f_Letter_15 rfl rfl (by assumption) ?_
  refine p_iload_n e_Letter_yieldsTo_12 rfl ?_
  refine p_icmp_ne (tgt := 45) e_Letter_yieldsTo_13 (by decide) (fun h13 => ?_) (fun h13 => ?_)
  · refine p_iconst (x := 0) e_Letter_yieldsTo_45 (by decide) ?_
    refine p_iret e_Letter_yieldsTo_46 (rv_z (by first | assumption | exact Or.inl rfl | exact Or.inr rfl) ?_)
    exact k0 (fun q => h13 q.2.1)
  refine p_aload_n e_Letter_yieldsTo_16 rfl ?_
  refine p_gI 194 e_Letter_yieldsTo_17 f_Letter_18 rfl rfl (by assumption) ?_
  refine p_iload_n e_Letter_yieldsTo_20 rfl ?_
  refine p_icmp_ne (tgt := 45) e_Letter_yieldsTo_21 (by decide) (fun h21 => ?_) (fun h21 => ?_)
  · refine p_iconst (x := 0) e_Letter_yieldsTo_45 (by decide) ?_
    refine p_iret e_Letter_yieldsTo_46 (rv_z (by first | assumption | exact Or.inl rfl | exact Or.inr rfl) ?_)
    exact k0 (fun q => h21 q.2.2.1)
  refine p_aload_n e_Letter_yieldsTo_24 rfl ?_
  refine p_gI 192 e_Letter_yieldsTo_25 f_Letter_9 rfl rfl (by assumption) ?_
  refine p_iconst (x := 5) e_Letter_yieldsTo_28 (by decide) ?_
  refine p_icmp_ne (tgt := 41) e_Letter_yieldsTo_29 (by decide) (fun h29 => ?_) (fun h29 => ?_)
  · refine p_iconst (x := 1) e_Letter_yieldsTo_41 (by decide) ?_
    refine p_goto (tgt := 46) e_Letter_yieldsTo_42 (by decide) ?_
    refine p_iret e_Letter_yieldsTo_46 (rv_z (by first | assumption | exact Or.inl rfl | exact Or.inr rfl) ?_)
    exact k1 h5 h13 h21 (fun q => absurd (h5.trans q) h29)
  refine p_aload_n e_Letter_yieldsTo_32 rfl ?_
  refine p_gI 195 e_Letter_yieldsTo_33 f_Letter_21 rfl rfl (by assumption) ?_
  refine p_iload e_Letter_yieldsTo_36 rfl ?_
  refine p_icmp_ne (tgt := 45) e_Letter_yieldsTo_38 (by decide) (fun h38 => ?_) (fun h38 => ?_)
  · refine p_iconst (x := 0) e_Letter_yieldsTo_45 (by decide) ?_
    refine p_iret e_Letter_yieldsTo_46 (rv_z (by first | assumption | exact Or.inl rfl | exact Or.inr rfl) ?_)
    exact k0 (fun q => h38 (q.2.2.2 (h5.symm.trans h29)))
  refine p_iconst (x := 1) e_Letter_yieldsTo_41 (by decide) ?_
  refine p_goto (tgt := 46) e_Letter_yieldsTo_42 (by decide) ?_
  refine p_iret e_Letter_yieldsTo_46 (rv_z (by first | assumption | exact Or.inl rfl | exact Or.inr rfl) ?_)
  exact k1 h5 h13 h21 (fun _ => h38)
theorem sp_Letter_sum {σ : PS} {l : Nat} {P : Option PV → PS → Prop} (h : tg σ l = 4) (hP : P (some (.inl (fi σ 192 l + 8 * fi σ 194 l + 64 * fi σ 193 l + 512 * fi σ 195 l + 1024 * fi σ 196 l + (if fi σ 197 l = 0 then 0 else 8192) + (if fi σ 198 l = 0 then 0 else 16384)))) σ) : Ctr m_Letter_sum 1 [.inr l] σ P := by
  refine Ctr.of y_Letter_sum (Nat.le_of_ble_eq_true rfl) ?_
  refine p_aload_n e_Letter_sum_0 rfl ?_
  refine p_gI 192 e_Letter_sum_1 f_Letter_9 rfl rfl (by assumption) ?_
  refine p_bipush (x := 8) e_Letter_sum_4 (by decide) ?_
  refine p_aload_n e_Letter_sum_6 rfl ?_
  refine p_gI 194 e_Letter_sum_7 f_Letter_18 rfl rfl (by assumption) ?_
  refine p_imul e_Letter_sum_10 ?_
  refine p_iadd e_Letter_sum_11 ?_
  refine p_bipush (x := 64) e_Letter_sum_12 (by decide) ?_
  refine p_aload_n e_Letter_sum_14 rfl ?_
  refine p_gI 193 e_Letter_sum_15 f_Letter_15 rfl rfl (by assumption) ?_
  refine p_imul e_Letter_sum_18 ?_
  refine p_iadd e_Letter_sum_19 ?_
  refine p_sipush (x := 512) e_Letter_sum_20 (by decide) ?_
  refine p_aload_n e_Letter_sum_23 rfl ?_
  refine p_gI 195 e_Letter_sum_24 f_Letter_21 rfl rfl (by assumption) ?_
  refine p_imul e_Letter_sum_27 ?_
  refine p_iadd e_Letter_sum_28 ?_
  refine p_istore_n e_Letter_sum_29 (by decide) ?_
  refine p_iload_n e_Letter_sum_30 rfl ?_
  refine p_sipush (x := 1024) e_Letter_sum_31 (by decide) ?_
  refine p_aload_n e_Letter_sum_34 rfl ?_
  refine p_gI 196 e_Letter_sum_35 f_Letter_24 rfl rfl (by assumption) ?_
  refine p_imul e_Letter_sum_38 ?_
  refine p_iadd e_Letter_sum_39 ?_
  refine p_aload_n e_Letter_sum_40 rfl ?_
  refine p_gI 197 e_Letter_sum_41 f_Letter_27 rfl rfl (by assumption) ?_
  refine p_if_eq (tgt := 53) e_Letter_sum_44 (by decide) (fun h44 => ?_) (fun h44 => ?_)
  · rw [if_pos h44] at hP
    refine p_iconst (x := 0) e_Letter_sum_53 (by decide) ?_
    refine p_iadd e_Letter_sum_54 ?_
    refine p_aload_n e_Letter_sum_55 rfl ?_
    refine p_gI 198 e_Letter_sum_56 f_Letter_31 rfl rfl (by assumption) ?_
    refine p_if_eq (tgt := 68) e_Letter_sum_59 (by decide) (fun h59 => ?_) (fun h59 => ?_)
    · rw [if_pos h59] at hP
      refine p_iconst (x := 0) e_Letter_sum_68 (by decide) ?_
      refine p_iadd e_Letter_sum_69 ?_
      refine p_iret e_Letter_sum_70 (rv_i ?_)
      exact hP
    · rw [if_neg h59] at hP
      refine p_sipush (x := 16384) e_Letter_sum_62 (by decide) ?_
      refine p_goto (tgt := 69) e_Letter_sum_65 (by decide) ?_
      refine p_iadd e_Letter_sum_69 ?_
      refine p_iret e_Letter_sum_70 (rv_i ?_)
      exact hP
  · rw [if_neg h44] at hP
    refine p_sipush (x := 8192) e_Letter_sum_47 (by decide) ?_
    refine p_goto (tgt := 54) e_Letter_sum_50 (by decide) ?_
    refine p_iadd e_Letter_sum_54 ?_
    refine p_aload_n e_Letter_sum_55 rfl ?_
    refine p_gI 198 e_Letter_sum_56 f_Letter_31 rfl rfl (by assumption) ?_
    refine p_if_eq (tgt := 68) e_Letter_sum_59 (by decide) (fun h59 => ?_) (fun h59 => ?_)
    · rw [if_pos h59] at hP
      refine p_iconst (x := 0) e_Letter_sum_68 (by decide) ?_
      refine p_iadd e_Letter_sum_69 ?_
      refine p_iret e_Letter_sum_70 (rv_i ?_)
      exact hP
    · rw [if_neg h59] at hP
      refine p_sipush (x := 16384) e_Letter_sum_62 (by decide) ?_
      refine p_goto (tgt := 69) e_Letter_sum_65 (by decide) ?_
      refine p_iadd e_Letter_sum_69 ?_
      refine p_iret e_Letter_sum_70 (rv_i ?_)
      exact hP
theorem sp_Req_isOf {σ : PS} {r : Nat} {c n : Int32} {P : Option PV → PS → Prop} (h : tg σ r = 6) (k1 : fi σ 320 r = c → fi σ 321 r ≤ n → P (some (.inl 1)) σ) (k0 : ¬ (fi σ 320 r = c ∧ fi σ 321 r ≤ n) → P (some (.inl 0)) σ) : Ctr m_Req_isOf 1 [.inr r, .inl c, .inl n] σ P := by
  refine Ctr.of y_Req_isOf (Nat.le_of_ble_eq_true rfl) ?_
  refine p_aload_n e_Req_isOf_0 rfl ?_
  refine p_gI 320 e_Req_isOf_1 f_Req_7 rfl rfl (by assumption) ?_
  refine p_iload_n e_Req_isOf_4 rfl ?_
  refine p_icmp_ne (tgt := 20) e_Req_isOf_5 (by decide) (fun h5 => ?_) (fun h5 => ?_)
  · refine p_iconst (x := 0) e_Req_isOf_20 (by decide) ?_
    refine p_iret e_Req_isOf_21 (rv_z (by first | assumption | exact Or.inl rfl | exact Or.inr rfl) ?_)
    exact k0 (fun q => h5 q.1)
  refine p_aload_n e_Req_isOf_8 rfl ?_
  refine p_gI 321 e_Req_isOf_9 f_Req_13 rfl rfl (by assumption) ?_
  refine p_iload_n e_Req_isOf_12 rfl ?_
  refine p_icmp_gt (tgt := 20) e_Req_isOf_13 (by decide) (fun h13 => ?_) (fun h13 => ?_)
  · refine p_iconst (x := 0) e_Req_isOf_20 (by decide) ?_
    refine p_iret e_Req_isOf_21 (rv_z (by first | assumption | exact Or.inl rfl | exact Or.inr rfl) ?_)
    exact k0 (fun q => absurd h13 (Int32.not_lt.mpr q.2))
  refine p_iconst (x := 1) e_Req_isOf_16 (by decide) ?_
  refine p_goto (tgt := 21) e_Req_isOf_17 (by decide) ?_
  refine p_iret e_Req_isOf_21 (rv_z (by first | assumption | exact Or.inl rfl | exact Or.inr rfl) ?_)
  exact k1 h5 (Int32.not_lt.mp h13)
theorem sp_Req_init {σ : PS} {r : Nat} {c n w : Int32} {P : Option PV → PS → Prop} (h : tg σ r = 6) (h0 : r ≠ 0) (hw : w = 0 ∨ w = 1) (hP : P none (pfi (pfi (pfi σ 320 r c) 321 r n) 322 r w)) : Ctr m_Req_init 1 [.inr r, .inl c, .inl n, .inl w] σ P := by
  refine Ctr.of y_Req_init (Nat.le_of_ble_eq_true rfl) ?_
  refine p_aload_n e_Req_init_0 rfl ?_
  refine p_oinit e_Req_init_1 c_Req_1 i_oi q_oi h0 (Nat.le_of_ble_eq_true rfl) (by decide) ?_
  refine p_aload_n e_Req_init_4 rfl ?_
  refine p_iload_n e_Req_init_5 rfl ?_
  refine p_pI 320 e_Req_init_6 f_Req_7 rfl rfl (fun q h => by cases h; exact Or.inr ⟨rfl, rfl, rfl⟩) rfl (by assumption) ?_
  refine p_aload_n e_Req_init_9 rfl ?_
  refine p_iload_n e_Req_init_10 rfl ?_
  refine p_pI 321 e_Req_init_11 f_Req_13 rfl rfl (fun q h => by cases h; exact Or.inr ⟨rfl, rfl, rfl⟩) rfl (by assumption) ?_
  refine p_aload_n e_Req_init_14 rfl ?_
  refine p_iload_n e_Req_init_15 rfl ?_
  refine p_pZ 322 e_Req_init_16 f_Req_16 rfl rfl (fun q h => by cases h; exact Or.inr ⟨rfl, rfl, rfl⟩) rfl (by assumption) (by first | assumption | exact Or.inl rfl | exact Or.inr rfl) ?_
  refine p_ret e_Req_init_19 (rv_v ?_)
  exact hP
theorem sp_Share_learn {σ : PS} {s : Nat} {c w n : Int32} {P : Option PV → PS → Prop} (h : tg σ s = 7) (hw : w = 0 ∨ w = 1) (hP : P none (pfi (pfi (pfi σ 388 s c) 389 s w) 390 s n)) : Ctr m_Share_learn 1 [.inr s, .inl c, .inl w, .inl n] σ P := by
  refine Ctr.of y_Share_learn (Nat.le_of_ble_eq_true rfl) ?_
  refine p_aload_n e_Share_learn_0 rfl ?_
  refine p_iload_n e_Share_learn_1 rfl ?_
  refine p_pI 388 e_Share_learn_2 f_Share_9 rfl rfl (fun q h => by cases h; exact Or.inl rfl) rfl (by assumption) ?_
  refine p_aload_n e_Share_learn_5 rfl ?_
  refine p_iload_n e_Share_learn_6 rfl ?_
  refine p_pZ 389 e_Share_learn_7 f_Share_36 rfl rfl (fun q h => by cases h; exact Or.inl rfl) rfl (by assumption) (by first | assumption | exact Or.inl rfl | exact Or.inr rfl) ?_
  refine p_aload_n e_Share_learn_10 rfl ?_
  refine p_iload_n e_Share_learn_11 rfl ?_
  refine p_pI 390 e_Share_learn_12 f_Share_39 rfl rfl (fun q h => by cases h; exact Or.inl rfl) rfl (by assumption) ?_
  refine p_ret e_Share_learn_15 (rv_v ?_)
  exact hP
theorem sp_Share_lose {σ : PS} {s : Nat} {n w : Int32} {P : Option PV → PS → Prop} (h : tg σ s = 7) (hP : P none (pfi (pfi (pfi σ 384 s (fi σ 384 s - n)) 385 s (if fi σ 385 s ≠ 0 ∧ w = 0 then 1 else 0)) 386 s (if fi σ 386 s ≠ 0 ∧ 0 < fi σ 384 s - n then 1 else 0))) : Ctr m_Share_lose 1 [.inr s, .inl n, .inl w] σ P := by
  refine Ctr.of y_Share_lose (Nat.le_of_ble_eq_true rfl) ?_
  have tail : ∀ (z : Int32), z = 0 ∨ z = 1 → z = (if fi σ 385 s ≠ 0 ∧ w = 0 then 1 else 0) → Wp m_Share_lose 1 27 (largs 0 [.inr s, .inl n, .inl w]) [.inl z, .inr s] (pfi σ 384 s (fi σ 384 s - n)) (fun v σ' => RV m_Share_lose.2.2.2 v ∧ P v σ') := by
    intro z hz ez
    rw [← ez] at hP
    refine p_pZ 385 e_Share_lose_27 f_Share_21 rfl rfl (fun q h => by cases h; exact Or.inl rfl) rfl (by assumption) (by first | assumption | exact Or.inl rfl | exact Or.inr rfl) ?_
    refine p_aload_n e_Share_lose_30 rfl ?_
    refine p_aload_n e_Share_lose_31 rfl ?_
    refine p_gI 386 e_Share_lose_32 f_Share_29 rfl rfl (by assumption) ?_
    refine p_if_eq (tgt := 49) e_Share_lose_35 (by decide) (fun h35 => ?_) (fun h35 => ?_)
    · rw [if_neg (fun q => q.1 h35)] at hP
      refine p_iconst (x := 0) e_Share_lose_49 (by decide) ?_
      refine p_pZ 386 e_Share_lose_50 f_Share_29 rfl rfl (fun q h => by cases h; exact Or.inl rfl) rfl (by assumption) (by first | assumption | exact Or.inl rfl | exact Or.inr rfl) ?_
      refine p_ret e_Share_lose_53 (rv_v ?_)
      exact hP
    refine p_aload_n e_Share_lose_38 rfl ?_
    refine p_gIv 384 e_Share_lose_39 f_Share_15 rfl rfl (by assumption) (v := fi σ 384 s - n) (if_pos ⟨rfl, rfl⟩) ?_
    refine p_if_le (tgt := 49) e_Share_lose_42 (by decide) (fun h42 => ?_) (fun h42 => ?_)
    · rw [if_neg (fun q => absurd q.2 (Int32.not_lt.mpr h42))] at hP
      refine p_iconst (x := 0) e_Share_lose_49 (by decide) ?_
      refine p_pZ 386 e_Share_lose_50 f_Share_29 rfl rfl (fun q h => by cases h; exact Or.inl rfl) rfl (by assumption) (by first | assumption | exact Or.inl rfl | exact Or.inr rfl) ?_
      refine p_ret e_Share_lose_53 (rv_v ?_)
      exact hP
    · rw [if_pos ⟨h35, Int32.not_le.mp h42⟩] at hP
      refine p_iconst (x := 1) e_Share_lose_45 (by decide) ?_
      refine p_goto (tgt := 50) e_Share_lose_46 (by decide) ?_
      refine p_pZ 386 e_Share_lose_50 f_Share_29 rfl rfl (fun q h => by cases h; exact Or.inl rfl) rfl (by assumption) (by first | assumption | exact Or.inl rfl | exact Or.inr rfl) ?_
      refine p_ret e_Share_lose_53 (rv_v ?_)
      exact hP
  refine p_aload_n e_Share_lose_0 rfl ?_
  refine p_dup e_Share_lose_1 ?_
  refine p_gI 384 e_Share_lose_2 f_Share_15 rfl rfl (by assumption) ?_
  refine p_iload_n e_Share_lose_5 rfl ?_
  refine p_isub e_Share_lose_6 ?_
  refine p_pI 384 e_Share_lose_7 f_Share_15 rfl rfl (fun q h => by cases h; exact Or.inl rfl) rfl (by assumption) ?_
  refine p_aload_n e_Share_lose_10 rfl ?_
  refine p_aload_n e_Share_lose_11 rfl ?_
  refine p_gI 385 e_Share_lose_12 f_Share_21 rfl rfl (by assumption) ?_
  refine p_if_eq (tgt := 26) e_Share_lose_15 (by decide) (fun h15 => ?_) (fun h15 => ?_)
  · refine p_iconst (x := 0) e_Share_lose_26 (by decide) ?_
    exact tail 0 (Or.inl rfl) (by rw [if_neg (fun q => q.1 h15)])
  refine p_iload_n e_Share_lose_18 rfl ?_
  refine p_if_ne (tgt := 26) e_Share_lose_19 (by decide) (fun h19 => ?_) (fun h19 => ?_)
  · refine p_iconst (x := 0) e_Share_lose_26 (by decide) ?_
    exact tail 0 (Or.inl rfl) (by rw [if_neg (fun q => h19 q.2)])
  · refine p_iconst (x := 1) e_Share_lose_22 (by decide) ?_
    refine p_goto (tgt := 27) e_Share_lose_23 (by decide) ?_
    exact tail 1 (Or.inr rfl) (by rw [if_pos ⟨h15, h19⟩])
/-- what a node has when it has got a letter's tokens -/
def gnd (σ : PS) (s l : Nat) : PS := if fi σ 198 l = 0 then pfi (pfi σ 384 s (fi σ 384 s + fi σ 196 l)) 385 s (if fi σ 385 s ≠ 0 ∨ fi σ 197 l ≠ 0 then 1 else 0) else
  pfi (pfi (pfi (pfi σ 384 s (fi σ 384 s + fi σ 196 l)) 385 s (if fi σ 385 s ≠ 0 ∨ fi σ 197 l ≠ 0 then 1 else 0)) 386 s 1) 387 s (fi σ 199 l)
theorem sp_Share_gain {σ : PS} {s l : Nat} {P : Option PV → PS → Prop} (h : tg σ s = 7) (hl : tg σ l = 4) (hP : P none (gnd σ s l)) : Ctr m_Share_gain 1 [.inr s, .inr l] σ P := by
  refine Ctr.of y_Share_gain (Nat.le_of_ble_eq_true rfl) ?_
  have tail : ∀ (z : Int32), z = 0 ∨ z = 1 → z = (if fi σ 385 s ≠ 0 ∨ fi σ 197 l ≠ 0 then 1 else 0) → Wp m_Share_gain 1 33 (largs 0 [.inr s, .inr l]) [.inl z, .inr s] (pfi σ 384 s (fi σ 384 s + fi σ 196 l)) (fun v σ' => RV m_Share_gain.2.2.2 v ∧ P v σ') := by
    intro z hz ez
    unfold gnd at hP
    rw [← ez] at hP
    refine p_pZ 385 e_Share_gain_33 f_Share_21 rfl rfl (fun q h => by cases h; exact Or.inl rfl) rfl (by assumption) (by first | assumption | exact Or.inl rfl | exact Or.inr rfl) ?_
    refine p_aload_n e_Share_gain_36 rfl ?_
    refine p_gI 198 e_Share_gain_37 f_Share_26 rfl rfl (by assumption) ?_
    refine p_if_eq (tgt := 56) e_Share_gain_40 (by decide) (fun h40 => ?_) (fun h40 => ?_)
    · refine p_ret e_Share_gain_56 (rv_v ?_)
      rw [if_pos (show fi σ 198 l = 0 from h40)] at hP
      exact hP
    · rw [if_neg (show ¬ fi σ 198 l = 0 from h40)] at hP
      refine p_aload_n e_Share_gain_43 rfl ?_
      refine p_iconst (x := 1) e_Share_gain_44 (by decide) ?_
      refine p_pZ 386 e_Share_gain_45 f_Share_29 rfl rfl (fun q h => by cases h; exact Or.inl rfl) rfl (by assumption) (by first | assumption | exact Or.inl rfl | exact Or.inr rfl) ?_
      refine p_aload_n e_Share_gain_48 rfl ?_
      refine p_aload_n e_Share_gain_49 rfl ?_
      refine p_gI 199 e_Share_gain_50 f_Share_32 rfl rfl (by assumption) ?_
      refine p_pI 387 e_Share_gain_53 f_Share_35 rfl rfl (fun q h => by cases h; exact Or.inl rfl) rfl (by assumption) ?_
      refine p_ret e_Share_gain_56 (rv_v ?_)
      exact hP
  refine p_aload_n e_Share_gain_0 rfl ?_
  refine p_dup e_Share_gain_1 ?_
  refine p_gI 384 e_Share_gain_2 f_Share_15 rfl rfl (by assumption) ?_
  refine p_aload_n e_Share_gain_5 rfl ?_
  refine p_gI 196 e_Share_gain_6 f_Share_18 rfl rfl (by assumption) ?_
  refine p_iadd e_Share_gain_9 ?_
  refine p_pI 384 e_Share_gain_10 f_Share_15 rfl rfl (fun q h => by cases h; exact Or.inl rfl) rfl (by assumption) ?_
  refine p_aload_n e_Share_gain_13 rfl ?_
  refine p_aload_n e_Share_gain_14 rfl ?_
  refine p_gI 385 e_Share_gain_15 f_Share_21 rfl rfl (by assumption) ?_
  refine p_if_ne (tgt := 28) e_Share_gain_18 (by decide) (fun h18 => ?_) (fun h18 => ?_)
  · refine p_iconst (x := 1) e_Share_gain_28 (by decide) ?_
    refine p_goto (tgt := 33) e_Share_gain_29 (by decide) ?_
    exact tail 1 (Or.inr rfl) (if_pos (Or.inl h18)).symm
  refine p_aload_n e_Share_gain_21 rfl ?_
  refine p_gI 197 e_Share_gain_22 f_Share_25 rfl rfl (by assumption) ?_
  refine p_if_eq (tgt := 32) e_Share_gain_25 (by decide) (fun h25 => ?_) (fun h25 => ?_)
  · refine p_iconst (x := 0) e_Share_gain_32 (by decide) ?_
    exact tail 0 (Or.inl rfl) (by rw [if_neg]; rintro (q | q); exact q h18; exact q h25)
  · refine p_iconst (x := 1) e_Share_gain_28 (by decide) ?_
    refine p_goto (tgt := 33) e_Share_gain_29 (by decide) ?_
    exact tail 1 (Or.inr rfl) (if_pos (Or.inr h25)).symm
theorem sp_isCore {σ : PS} {x : Nat} {c : Int32} {P : Option PV → PS → Prop} (h : tg σ x = 8) (k1 : 0 ≤ c → c < fi σ 448 x → P (some (.inl 1)) σ) (k0 : ¬ (0 ≤ c ∧ c < fi σ 448 x) → P (some (.inl 0)) σ) : Ctr m_TM_isCore 1 [.inr x, .inl c] σ P := by
  refine Ctr.of y_TM_isCore (Nat.le_of_ble_eq_true rfl) ?_
  refine p_iload_n e_TM_isCore_0 rfl ?_
  refine p_if_lt (tgt := 16) e_TM_isCore_1 (by decide) (fun h1 => ?_) (fun h1 => ?_)
  · refine p_iconst (x := 0) e_TM_isCore_16 (by decide) ?_
    refine p_iret e_TM_isCore_17 (rv_z (by first | assumption | exact Or.inl rfl | exact Or.inr rfl) ?_)
    exact k0 (fun q => absurd h1 (Int32.not_lt.mpr q.1))
  refine p_iload_n e_TM_isCore_4 rfl ?_
  refine p_aload_n e_TM_isCore_5 rfl ?_
  refine p_gI 448 e_TM_isCore_6 f_TM_13 rfl rfl (by assumption) ?_
  refine p_icmp_ge (tgt := 16) e_TM_isCore_9 (by decide) (fun h9 => ?_) (fun h9 => ?_)
  · refine p_iconst (x := 0) e_TM_isCore_16 (by decide) ?_
    refine p_iret e_TM_isCore_17 (rv_z (by first | assumption | exact Or.inl rfl | exact Or.inr rfl) ?_)
    exact k0 (fun q => absurd h9 (Int32.not_le.mpr q.2))
  refine p_iconst (x := 1) e_TM_isCore_12 (by decide) ?_
  refine p_goto (tgt := 17) e_TM_isCore_13 (by decide) ?_
  refine p_iret e_TM_isCore_17 (rv_z (by first | assumption | exact Or.inl rfl | exact Or.inr rfl) ?_)
  exact k1 (Int32.not_lt.mp h1) (Int32.not_le.mp h9)
theorem sp_isNode {σ : PS} {x : Nat} {c : Int32} {P : Option PV → PS → Prop} (h : tg σ x = 8) (k1 : 0 ≤ c → c ≤ fi σ 449 x → P (some (.inl 1)) σ) (k0 : ¬ (0 ≤ c ∧ c ≤ fi σ 449 x) → P (some (.inl 0)) σ) : Ctr m_TM_isNode 1 [.inr x, .inl c] σ P := by
  refine Ctr.of y_TM_isNode (Nat.le_of_ble_eq_true rfl) ?_
  refine p_iload_n e_TM_isNode_0 rfl ?_
  refine p_if_lt (tgt := 16) e_TM_isNode_1 (by decide) (fun h1 => ?_) (fun h1 => ?_)
  · refine p_iconst (x := 0) e_TM_isNode_16 (by decide) ?_
    refine p_iret e_TM_isNode_17 (rv_z (by first | assumption | exact Or.inl rfl | exact Or.inr rfl) ?_)
    exact k0 (fun q => absurd h1 (Int32.not_lt.mpr q.1))
  refine p_iload_n e_TM_isNode_4 rfl ?_
  refine p_aload_n e_TM_isNode_5 rfl ?_
  refine p_gI 449 e_TM_isNode_6 f_TM_23 rfl rfl (by assumption) ?_
  refine p_icmp_gt (tgt := 16) e_TM_isNode_9 (by decide) (fun h9 => ?_) (fun h9 => ?_)
  · refine p_iconst (x := 0) e_TM_isNode_16 (by decide) ?_
    refine p_iret e_TM_isNode_17 (rv_z (by first | assumption | exact Or.inl rfl | exact Or.inr rfl) ?_)
    exact k0 (fun q => absurd h9 (Int32.not_lt.mpr q.2))
  refine p_iconst (x := 1) e_TM_isNode_12 (by decide) ?_
  refine p_goto (tgt := 17) e_TM_isNode_13 (by decide) ?_
  refine p_iret e_TM_isNode_17 (rv_z (by first | assumption | exact Or.inl rfl | exact Or.inr rfl) ?_)
  exact k1 (Int32.not_lt.mp h1) (Int32.not_lt.mp h9)
theorem sp_isBlock {σ : PS} {c : Int32} {P : Option PV → PS → Prop} (k1 : 0 ≤ c → c < 2 → P (some (.inl 1)) σ) (k0 : ¬ (0 ≤ c ∧ c < 2) → P (some (.inl 0)) σ) : Ctr m_TM_isBlock 1 [.inl c] σ P := by
  refine Ctr.of y_TM_isBlock (Nat.le_of_ble_eq_true rfl) ?_
  refine p_iload_n e_TM_isBlock_0 rfl ?_
  refine p_if_lt (tgt := 13) e_TM_isBlock_1 (by decide) (fun h1 => ?_) (fun h1 => ?_)
  · refine p_iconst (x := 0) e_TM_isBlock_13 (by decide) ?_
    refine p_iret e_TM_isBlock_14 (rv_z (by first | assumption | exact Or.inl rfl | exact Or.inr rfl) ?_)
    exact k0 (fun q => absurd h1 (Int32.not_lt.mpr q.1))
  refine p_iload_n e_TM_isBlock_4 rfl ?_
  refine p_iconst (x := 2) e_TM_isBlock_5 (by decide) ?_
  refine p_icmp_ge (tgt := 13) e_TM_isBlock_6 (by decide) (fun h6 => ?_) (fun h6 => ?_)
  · refine p_iconst (x := 0) e_TM_isBlock_13 (by decide) ?_
    refine p_iret e_TM_isBlock_14 (rv_z (by first | assumption | exact Or.inl rfl | exact Or.inr rfl) ?_)
    exact k0 (fun q => absurd h6 (Int32.not_le.mpr q.2))
  refine p_iconst (x := 1) e_TM_isBlock_9 (by decide) ?_
  refine p_goto (tgt := 14) e_TM_isBlock_10 (by decide) ?_
  refine p_iret e_TM_isBlock_14 (rv_z (by first | assumption | exact Or.inl rfl | exact Or.inr rfl) ?_)
  exact k1 (Int32.not_lt.mp h1) (Int32.not_le.mp h6)
theorem sp_clamp {σ : PS} {v a b : Int32} {P : Option PV → PS → Prop} (hP : P (some (.inl (if a < (if v < b then v else b) then (if v < b then v else b) else a))) σ) : Ctr m_TM_clamp 1 [.inl v, .inl a, .inl b] σ P := by
  refine Ctr.of y_TM_clamp (Nat.le_of_ble_eq_true rfl) ?_
  refine p_iload_n e_TM_clamp_0 rfl ?_
  refine p_iload_n e_TM_clamp_1 rfl ?_
  refine p_iload_n e_TM_clamp_2 rfl ?_
  refine p_mmin e_TM_clamp_3 c_TM_213 (Nat.le_of_ble_eq_true rfl) (by decide) ?_
  refine p_mmax e_TM_clamp_6 c_TM_219 (Nat.le_of_ble_eq_true rfl) (by decide) ?_
  refine p_iret e_TM_clamp_9 (rv_i ?_)
  exact hP
theorem sp_share {σ : PS} {x s a n b : Nat} {P : Option PV → PS → Prop} (h : tg σ x = 8) (hs : fr σ 453 x = s) (ht : tg σ s = 103) (hn : 2 * n + b < al σ s) (hn2 : al σ s ≤ 100) (ha : ar σ s (2 * n + b) = a) (hP : P (some (.inr a)) σ) : Ctr m_TM_share 1 [.inr x, .inl (nI n), .inl (nI b)] σ P := by
  refine Ctr.of y_TM_share (Nat.le_of_ble_eq_true rfl) ?_
  have e : nI n * 2 + nI b = nI (2 * n + b) := by
    have : (2 : Int32) = nI 2 := by decide
    rw [this, pk_mul, nI_add, Nat.mul_comm]
  refine p_aload_n e_TM_share_0 rfl ?_
  refine p_gRv 453 e_TM_share_1 f_TM_31 rfl rfl (by assumption) hs ?_
  refine p_iload_n e_TM_share_4 rfl ?_
  refine p_iconst (x := 2) e_TM_share_5 (by decide) ?_
  refine p_imul e_TM_share_6 ?_
  refine p_iload_n e_TM_share_7 rfl ?_
  refine p_iadd e_TM_share_8 ?_
  refine p_top e ?_
  refine p_aald (ti := 3) (n := 2 * n + b) e_TM_share_9 (by decide) ht rfl hn (by omega) ?_
  refine p_aret e_TM_share_10 (rv_o ?_)
  rw [ha]
  exact hP
