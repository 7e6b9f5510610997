/-! ArrayList: putting in -/
/-- nothing lies beyond the next reference -/
def FR (σ : PS) : Prop := (0 < nx σ ∧ tg σ 0 = 0) ∧ ∀ r, nx σ ≤ r → tg σ r = 0
theorem sp_copyOf3 {σ : PS} {e c m : Nat} {P : Option PV → PS → Prop} (hF : FR σ) (he : tg σ e = 102) (hc : al σ e = c) (hcm : c ≤ m) (hm : m ≤ 1000) (hel : ∀ i, i < c → ar σ e i = 0 ∨ tg σ (ar σ e i) = 4 ∨ tg σ (ar σ e i) = 6)
    (hP : P (some (.inr (nx σ))) (pcpy (parr σ 2 m) e 0 (nx σ) 0 c)) : Ctr m_Arrs_copyOf3 1 [.inr e, .inl (nI m), .inr (al σ 0)] σ P := by
  have hne : ∀ r, tg σ r ≠ 0 → r ≠ nx σ := fun r h q => h (by rw [q]; exact hF.2 _ (Nat.le_refl _))
  have hen : e ≠ nx σ := hne e (by omega)
  refine Ctr.of y_Arrs_copyOf3 (Nat.le_of_ble_eq_true rfl) ?_
  refine p_aload_n e_Arrs_copyOf3_0 rfl ?_
  refine p_ldcM e_Arrs_copyOf3_1 l_Arrs_110 ?_
  refine p_acmp_ne (tgt := 13) e_Arrs_copyOf3_3 (by decide) (fun h => absurd rfl h) (fun _ => ?_)
  refine p_iload_n e_Arrs_copyOf3_6 rfl ?_
  refine p_newq (ti := 2) (n := m) e_Arrs_copyOf3_7 (by decide) rfl l_Arrs_2 (Or.inl a_Obj) (nI_pos (by omega)) (nI_clamp (by omega)) (by omega) ?_
  have t1 : tg (parr σ 2 m) e = 102 := by rw [tg_parr, if_neg hen]; exact he
  have t2 : tg (parr σ 2 m) (nx σ) = 102 := by rw [tg_parr, if_pos rfl]
  have a1 : al (parr σ 2 m) e = c := by rw [al_parr, if_neg hen]; exact hc
  have a2 : al (parr σ 2 m) (nx σ) = m := by rw [al_parr, if_pos rfl]
  refine p_goto (tgt := 24) e_Arrs_copyOf3_10 (by decide) ?_
  refine p_astore_n e_Arrs_copyOf3_24 (by decide) ?_
  refine p_aload_n e_Arrs_copyOf3_25 rfl ?_
  refine p_iconst (x := 0) e_Arrs_copyOf3_26 (by decide) ?_
  refine p_aload_n e_Arrs_copyOf3_27 rfl ?_
  refine p_iconst (x := 0) e_Arrs_copyOf3_28 (by decide) ?_
  refine p_aload_n e_Arrs_copyOf3_29 rfl ?_
  refine p_alen (ti := 2) e_Arrs_copyOf3_30 (by decide) t1 ?_
  rw [a1]
  refine p_iload_n e_Arrs_copyOf3_31 rfl ?_
  refine p_mmin e_Arrs_copyOf3_32 c_Arrs_304 (Nat.le_of_ble_eq_true rfl) (by decide) ?_
  refine p_top (y := nI c) ?_ ?_
  · by_cases h : nI m < nI c
    · have := (nI_ltI (by omega) (by omega)).mp h
      omega
    · rw [if_neg h]
  refine p_copy (sp := 0) (dp := 0) (n := c) e_Arrs_copyOf3_35 c_Arrs_150 v_arraycopy t_ac w_52 t1 t2 rfl rfl rfl (by omega) (by omega) (by omega) (by omega) (by omega) (fun i hi => ?_) (Nat.le_of_ble_eq_true rfl) (by decide) ?_
  · have q : ar (parr σ 2 m) e (0 + i) = ar σ e i := by rw [ar_parr, if_neg hen, Nat.zero_add]
    rw [q]
    rcases hel i hi with h | h | h
    · exact Or.inl h
    · refine Or.inr (Or.inl ?_)
      rw [tg_parr, if_neg (hne _ (by omega))]
      exact h
    · refine Or.inr (Or.inr ?_)
      rw [tg_parr, if_neg (hne _ (by omega))]
      exact h
  refine p_aload_n e_Arrs_copyOf3_38 rfl ?_
  refine p_aret e_Arrs_copyOf3_39 (rv_a ?_)
  exact hP
theorem sp_copyOf2 {σ : PS} {e c m : Nat} {P : Option PV → PS → Prop} (hF : FR σ) (he : tg σ e = 102) (hc : al σ e = c) (hcm : c ≤ m) (hm : m ≤ 1000) (hel : ∀ i, i < c → ar σ e i = 0 ∨ tg σ (ar σ e i) = 4 ∨ tg σ (ar σ e i) = 6)
    (hP : P (some (.inr (nx σ))) (pcpy (parr σ 2 m) e 0 (nx σ) 0 c)) : Ctr m_Arrs_copyOf2 2 [.inr e, .inl (nI m)] σ P := by
  refine Ctr.of y_Arrs_copyOf2 (Nat.le_of_ble_eq_true rfl) ?_
  refine p_aload_n e_Arrs_copyOf2_0 rfl ?_
  refine p_iload_n e_Arrs_copyOf2_1 rfl ?_
  refine p_aload_n e_Arrs_copyOf2_2 rfl ?_
  refine p_getC e_Arrs_copyOf2_3 c_Arrs_86 (Or.inl v_declares) s_gc i_gc v_getClass (Nat.le_of_ble_eq_true rfl) (by decide) he ?_
  refine p_stat (d' := 1) [_, _, _] _ e_Arrs_copyOf2_6 c_Arrs_300 k_Arrs_copyOf3 t_Arrs_copyOf3 rfl rfl (Nat.le_of_ble_eq_true rfl) (Nat.le_of_ble_eq_true rfl) ?_
  refine sp_copyOf3 hF he hc hcm hm hel ?_
  refine p_aret e_Arrs_copyOf2_9 (rv_a ?_)
  exact hP
theorem sp_newLength {σ : PS} {c k : Nat} {P : Option PV → PS → Prop} (hk : 1 ≤ k) (hk2 : k ≤ 1000) (hc : c ≤ 1000) (hP : P (some (.inl (nI (c + k)))) σ) : Ctr m_ASup_newLength 1 [.inl (nI c), .inl (nI 1), .inl (nI k)] σ P := by
  refine Ctr.of y_ASup_newLength (Nat.le_of_ble_eq_true rfl) ?_
  refine p_iload_n e_ASup_newLength_0 rfl ?_
  refine p_iload_n e_ASup_newLength_1 rfl ?_
  refine p_iload_n e_ASup_newLength_2 rfl ?_
  refine p_mmax e_ASup_newLength_3 c_ASup_194 (Nat.le_of_ble_eq_true rfl) (by decide) ?_
  refine p_top (y := nI k) ?_ ?_
  · by_cases h : nI 1 < nI k
    · rw [if_pos h]
    · rw [if_neg h]
      have : ¬ 1 < k := fun q => h (nI_lt q (by omega))
      have : k = 1 := by omega
      rw [this]
  refine p_iadd e_ASup_newLength_6 ?_
  refine p_top (y := nI (c + k)) (nI_add c k) ?_
  refine p_istore_n e_ASup_newLength_7 (by decide) ?_
  refine p_iconst (x := 0) e_ASup_newLength_8 (by decide) ?_
  refine p_iload_n e_ASup_newLength_9 rfl ?_
  refine p_icmp_ge (tgt := 21) e_ASup_newLength_10 (by decide) (fun hx => absurd hx (nI_nle (by omega) (by omega))) (fun _ => ?_)
  refine p_iload_n e_ASup_newLength_13 rfl ?_
  refine p_ldc e_ASup_newLength_14 u_ASup_200 ?_
  refine p_icmp_gt (tgt := 21) e_ASup_newLength_16 (by decide) (fun hx => ?_) (fun _ => ?_)
  · have : nI (c + k) ≤ nI 2147483639 := nI_le (by omega) (by decide)
    have h2 : nI 2147483639 = 2147483639 := by decide
    rw [h2] at this
    exact absurd hx (Int32.not_lt.mpr this)
  refine p_iload_n e_ASup_newLength_19 rfl ?_
  refine p_iret e_ASup_newLength_20 (rv_i ?_)
  exact hP
/-- the list l has a new array with room for one more -/
def GRW (σ σ' : PS) (l n : Nat) (f : Nat → Nat) : Prop := LF σ σ' l ∧ nx σ' = nx σ + 1 ∧ fr σ' 1 l = nx σ ∧ tg σ' (nx σ) = 102 ∧ n + 1 ≤ al σ' (nx σ) ∧ 10 ≤ al σ' (nx σ) ∧ al σ' (nx σ) ≤ 110 ∧ (∀ i, i < n → ar σ' (nx σ) i = f i) ∧ sl σ' + 4 * n ≤ sl σ + 4 * al σ' (nx σ) ∧ fi σ' = fi σ ∧ FR σ'
theorem sp_grow1 {σ : PS} {l n : Nat} {f : Nat → Nat} {P : Option PV → PS → Prop} (hF : FR σ) (h : AL σ l n f) (hn : n ≤ 71) (hfull : n = al σ (fr σ 1 l)) (hP : ∀ σ', GRW σ σ' l n f → P (some (.inr (nx σ))) σ') : Ctr m_AL_grow1 3 [.inr l, .inl (nI (n + 1))] σ P := by
  obtain ⟨h1, h2, h3, h4, h5, h6, h7, h8, h9⟩ := id h
  have hne : ∀ r, tg σ r ≠ 0 → r ≠ nx σ := fun r h q => h (by rw [q]; exact hF.2 _ (Nat.le_refl _))
  have hln : l ≠ nx σ := by omega
  refine Ctr.of y_AL_grow1 (Nat.le_of_ble_eq_true rfl) ?_
  rcases h8 with ⟨ht, hc⟩ | ⟨ht, hc⟩
  · have hn0 : n = 0 := by omega
    subst hn0
    refine p_aload_n e_AL_grow1_0 rfl ?_
    refine p_gR 1 e_AL_grow1_1 f_AL_9 rfl rfl (by assumption) ?_
    refine p_alenZ e_AL_grow1_4 ht ?_
    refine p_istore_n e_AL_grow1_5 (by decide) ?_
    refine p_iload_n e_AL_grow1_6 rfl ?_
    refine p_if_gt (tgt := 20) e_AL_grow1_7 (by decide) (fun hx => absurd hx ((by decide))) (fun _ => ?_)
    refine p_aload_n e_AL_grow1_10 rfl ?_
    refine p_gR 1 e_AL_grow1_11 f_AL_9 rfl rfl (by assumption) ?_
    refine p_gets (z := fr σ 1 l) e_AL_grow1_14 w_175 ht ?_
    refine p_acmp_eq (tgt := 45) e_AL_grow1_17 (by decide) (fun _ => ?_) (fun h => absurd rfl h)
    refine p_aload_n e_AL_grow1_45 rfl ?_
    refine p_bipush (x := 10) e_AL_grow1_46 (by decide) ?_
    refine p_iload_n e_AL_grow1_48 rfl ?_
    refine p_mmax e_AL_grow1_49 c_AL_79 (Nat.le_of_ble_eq_true rfl) (by decide) ?_
    refine p_top (y := nI 10) (by decide) ?_
    refine p_newq (ti := 2) (n := 10) e_AL_grow1_52 (by decide) rfl l_AL_7 (Or.inl a_Obj) (nI_pos (by omega)) (nI_clamp (by omega)) (by omega) ?_
    have t1 : tg (parr σ 2 10) l = 1 := by rw [tg_parr, if_neg hln]; exact h1
    refine p_dup_x1 e_AL_grow1_55 ?_
    refine p_pR 1 e_AL_grow1_56 f_AL_9 rfl rfl (fun q h => by cases h; exact Or.inl rfl) (by assumption) ?_
    refine p_aret e_AL_grow1_59 (rv_a ?_)
    refine hP _ ⟨⟨Nat.le_succ _, Nat.le_add_right _ _, fun r hr => ?_, fun r j hr => ?_, fun i r _ => rfl, fun i r hr => ?_, fun r j hr _ => ?_, Or.inr ?_⟩, rfl, ?_, ?_, ?_, ?_, ?_, fun i hi => by omega, ?_, rfl, ⟨Nat.succ_pos _, by rw [tg_pfr, tg_parr, if_neg (by have := hF.1.1; omega)]; exact hF.1.2⟩, fun r hr => ?_⟩
    · rw [tg_pfr, al_pfr, tg_parr, al_parr, if_neg (by omega), if_neg (by omega)]; exact ⟨rfl, rfl⟩
    · rw [ai_pfr, ai_parr, if_neg (by omega)]
    · rw [fr_pfr, if_neg (by omega)]; rfl
    · rw [ar_pfr, ar_parr, if_neg (by omega)]
    · rw [fr_pfr, if_pos ⟨rfl, rfl⟩]; exact Nat.le_refl _
    · rw [fr_pfr, if_pos ⟨rfl, rfl⟩]
    · rw [tg_pfr, tg_parr, if_pos rfl]
    · rw [al_pfr, al_parr, if_pos rfl]; omega
    · rw [al_pfr, al_parr, if_pos rfl]; omega
    · rw [al_pfr, al_parr, if_pos rfl]; omega
    · rw [al_pfr, al_parr, if_pos rfl, sl_pfr, sl_parr]; omega
    · rw [tg_pfr, tg_parr, if_neg (by rw [nx_pfr, nx_parr] at hr; omega)]
      exact hF.2 r (by rw [nx_pfr, nx_parr] at hr; omega)
  · have e1 : nI (n + 1) - nI n = nI 1 := by rw [pk_sub (by omega)]; congr 1; omega
    have e2 : nI n >>> ((1 : Int32) &&& 31) = nI (n / 2) := pk_shrN (by omega) _ 1 (by decide)
    have hen : fr σ 1 l ≠ nx σ := hne _ (by omega)
    refine p_aload_n e_AL_grow1_0 rfl ?_
    refine p_gR 1 e_AL_grow1_1 f_AL_9 rfl rfl (by assumption) ?_
    refine p_alen (ti := 2) e_AL_grow1_4 (by decide) ht ?_
    rw [← hfull]
    refine p_istore_n e_AL_grow1_5 (by decide) ?_
    refine p_iload_n e_AL_grow1_6 rfl ?_
    refine p_if_gt (tgt := 20) e_AL_grow1_7 (by decide) (fun _ => ?_) (fun hx => absurd (nI_lt (a := 0) (by omega) (by omega)) hx)
    refine p_iload_n e_AL_grow1_20 rfl ?_
    refine p_iload_n e_AL_grow1_21 rfl ?_
    refine p_iload_n e_AL_grow1_22 rfl ?_
    refine p_isub e_AL_grow1_23 ?_
    refine p_top e1 ?_
    refine p_iload_n e_AL_grow1_24 rfl ?_
    refine p_iconst (x := 1) e_AL_grow1_25 (by decide) ?_
    refine p_ishr e_AL_grow1_26 ?_
    refine p_top e2 ?_
    refine p_stat (d' := 1) [_, _, _] _ e_AL_grow1_27 c_AL_73 k_ASup_newLength t_ASup_newLength rfl rfl (Nat.le_of_ble_eq_true rfl) (Nat.le_of_ble_eq_true rfl) ?_
    refine sp_newLength (by omega) (by omega) (by omega) ?_
    refine p_istore_n e_AL_grow1_30 (by decide) ?_
    refine p_aload_n e_AL_grow1_31 rfl ?_
    refine p_aload_n e_AL_grow1_32 rfl ?_
    refine p_gR 1 e_AL_grow1_33 f_AL_9 rfl rfl (by assumption) ?_
    refine p_iload_n e_AL_grow1_36 rfl ?_
    refine p_stat (d' := 2) [_, _] _ e_AL_grow1_37 c_AL_66 k_Arrs_copyOf2 t_Arrs_copyOf2 rfl rfl (Nat.le_of_ble_eq_true rfl) (Nat.le_of_ble_eq_true rfl) ?_
    refine sp_copyOf2 (c := n) hF ht hfull.symm (by omega) (by omega) (fun i hi => by rw [(h9 i hi).1]; exact Or.inr (h9 i hi).2) ?_
    have t1 : tg (pcpy (parr σ 2 (n + n / 2)) (fr σ 1 l) 0 (nx σ) 0 n) l = 1 := by rw [tg_pcpy, tg_parr, if_neg hln]; exact h1
    refine p_dup_x1 e_AL_grow1_40 ?_
    refine p_pR 1 e_AL_grow1_41 f_AL_9 rfl rfl (fun q h => by cases h; exact Or.inl rfl) (by assumption) ?_
    refine p_aret e_AL_grow1_44 (rv_a ?_)
    refine hP _ ⟨⟨Nat.le_succ _, Nat.le_add_right _ _, fun r hr => ?_, fun r j hr => ?_, fun i r _ => rfl, fun i r hr => ?_, fun r j hr _ => ?_, Or.inr ?_⟩, rfl, ?_, ?_, ?_, ?_, ?_, fun i hi => ?_, ?_, rfl, ⟨Nat.succ_pos _, by rw [tg_pfr, tg_pcpy, tg_parr, if_neg (by have := hF.1.1; omega)]; exact hF.1.2⟩, fun r hr => ?_⟩
    · rw [tg_pfr, al_pfr, tg_pcpy, al_pcpy, tg_parr, al_parr, if_neg (by omega), if_neg (by omega)]; exact ⟨rfl, rfl⟩
    · rw [ai_pfr, ai_pcpy, ai_parr, if_neg (by omega)]
    · rw [fr_pfr, if_neg (by omega)]; rfl
    · rw [ar_pfr, ar_pcpy, if_neg (by omega), ar_parr, if_neg (by omega)]
    · rw [fr_pfr, if_pos ⟨rfl, rfl⟩]; exact Nat.le_refl _
    · rw [fr_pfr, if_pos ⟨rfl, rfl⟩]
    · rw [tg_pfr, tg_pcpy, tg_parr, if_pos rfl]
    · rw [al_pfr, al_pcpy, al_parr, if_pos rfl]; omega
    · rw [al_pfr, al_pcpy, al_parr, if_pos rfl]; omega
    · rw [al_pfr, al_pcpy, al_parr, if_pos rfl]; omega
    · rw [ar_pfr, ar_pcpy, if_pos rfl]
      unfold va_cpy
      rw [if_pos (by omega), ar_parr, if_neg hen]
      rw [show 0 + (i - 0) = i by omega]
      exact (h9 i hi).1
    · rw [al_pfr, al_pcpy, al_parr, if_pos rfl, sl_pfr, sl_pcpy, sl_parr]; omega
    · rw [nx_pfr, nx_pcpy, nx_parr] at hr
      rw [tg_pfr, tg_pcpy, tg_parr, if_neg (by omega)]
      exact hF.2 r (by omega)
theorem sp_grow0 {σ : PS} {l n : Nat} {f : Nat → Nat} {P : Option PV → PS → Prop} (hF : FR σ) (h : AL σ l n f) (hn : n ≤ 71) (hfull : n = al σ (fr σ 1 l)) (hP : ∀ σ', GRW σ σ' l n f → P (some (.inr (nx σ))) σ') : Ctr m_AL_grow0 4 [.inr l] σ P := by
  have h1 := h.1
  have h2 := h.2.1
  refine Ctr.of y_AL_grow0 (Nat.le_of_ble_eq_true rfl) ?_
  refine p_aload_n e_AL_grow0_0 rfl ?_
  refine p_aload_n e_AL_grow0_1 rfl ?_
  refine p_gIv 2 e_AL_grow0_2 f_AL_48 rfl rfl (by assumption) h2 ?_
  refine p_iconst (x := 1) e_AL_grow0_5 (by decide) ?_
  refine p_iadd e_AL_grow0_6 ?_
  refine p_top (y := nI (n + 1)) (nI_1 n) ?_
  refine p_inv (ci := 0) (d' := 3) [_] _ e_AL_grow0_7 c_AL_69 k_AL_grow1 i_AL_grow1 s_AL_grow1 rfl rfl (by assumption) rfl rfl (Nat.le_of_ble_eq_true rfl) (Nat.le_of_ble_eq_true rfl) ?_
  refine sp_grow1 hF h hn hfull (fun σ' hG => ?_)
  refine p_aret e_AL_grow0_10 (rv_a ?_)
  exact hP σ' hG
/-- the list l has x behind its n -/
def ADD (σ σ' : PS) (l n : Nat) (f : Nat → Nat) (x : Nat) : Prop := LF σ σ' l ∧ AL σ' l (n + 1) (va_up f n x) ∧ nx σ' + al σ (fr σ 1 l) ≤ nx σ + al σ' (fr σ' 1 l) ∧ sl σ' + 4 * al σ (fr σ 1 l) ≤ sl σ + 4 * al σ' (fr σ' 1 l) ∧ FR σ'
theorem castO {σ : PS} {x : Nat} (h : tg σ x = 4 ∨ tg σ x = 6) : ∃ ci, tg σ x = ci + 1 ∧ CastOk ci "java/lang/Object" := by
  rcases h with h | h
  · exact ⟨3, h, castO4⟩
  · exact ⟨5, h, castO6⟩
theorem sp_add3 {σ : PS} {l n x e : Nat} {f : Nat → Nat} {P : Option PV → PS → Prop} (hF : FR σ) (h : AL σ l n f) (hn : n ≤ 71) (hx : tg σ x = 4 ∨ tg σ x = 6) (he : e = fr σ 1 l) (hP : ∀ σ', ADD σ σ' l n f x → P none σ') : Ctr m_AL_add3 5 [.inr l, .inr x, .inr e, .inl (nI n)] σ P := by
  obtain ⟨h1, h2, h3, h4, h5, h6, h7, h8, h9⟩ := id h
  subst he
  have xlt : x < nx σ := by
    rcases Nat.lt_or_ge x (nx σ) with q | q
    · exact q
    · have := hF.2 x q; omega
  refine Ctr.of y_AL_add3 (Nat.le_of_ble_eq_true rfl) ?_
  refine p_iload_n e_AL_add3_0 rfl ?_
  refine p_aload_n e_AL_add3_1 rfl ?_
  have hal : Wp m_AL_add3 5 3 (largs 0 [.inr l, .inr x, .inr (fr σ 1 l), .inl (nI n)]) [.inl (nI (al σ (fr σ 1 l))), .inl (nI n)] σ (fun v σ' => RV m_AL_add3.2.2.2 v ∧ P v σ') := by
    by_cases hfull : n = al σ (fr σ 1 l)
    · refine p_icmp_ne (tgt := 11) e_AL_add3_3 (by decide) (fun hx => absurd (by rw [← hfull]) hx) (fun _ => ?_)
      refine p_aload_n e_AL_add3_6 rfl ?_
      refine p_inv (ci := 0) (d' := 4) [] _ e_AL_add3_7 c_AL_129 k_AL_grow0 i_AL_grow0 s_AL_grow0 rfl rfl (by assumption) rfl rfl (Nat.le_of_ble_eq_true rfl) (Nat.le_of_ble_eq_true rfl) ?_
      refine sp_grow0 hF h hn hfull (fun σ' hG => ?_)
      obtain ⟨⟨g1, g2, g3, g4, g5, g6, g7, g8⟩, k1, k2, k3, k4, k5, k6, k7, k8, k9, k10⟩ := hG
      obtain ⟨ci, c1, c2⟩ := castO hx
      have tl : tg σ' l = 1 := by rw [(g3 l h7).1]; exact h1
      refine p_astore_n e_AL_add3_10 (by decide) ?_
      refine p_aload_n e_AL_add3_11 rfl ?_
      refine p_iload_n e_AL_add3_12 rfl ?_
      refine p_aload_n e_AL_add3_13 rfl ?_
      refine p_aast (ti := 2) (n := n) (ci := ci) e_AL_add3_14 (by decide) rfl k3 (by rw [(g3 x xlt).1]; exact c1) c2 rfl (by omega) (by omega) ?_
      refine p_aload_n e_AL_add3_15 rfl ?_
      refine p_iload_n e_AL_add3_16 rfl ?_
      refine p_iconst (x := 1) e_AL_add3_17 (by decide) ?_
      refine p_iadd e_AL_add3_18 ?_
      refine p_top (y := nI (n + 1)) (nI_1 n) ?_
      refine p_pI 2 e_AL_add3_19 f_AL_48 rfl rfl (fun q h => by cases h; exact Or.inl rfl) rfl tl ?_
      refine p_ret e_AL_add3_22 (rv_v ?_)
      refine hP _ ⟨⟨g1, g2, g3, g4, fun i r hr => ?_, g6, fun r j hr hne => ?_, g8⟩, ⟨?_, ?_, by omega, ?_, ?_, ?_, ?_, Or.inr ⟨?_, ?_⟩, fun i hi => ?_⟩, ?_, ?_, ?_⟩
      · rw [fi_pfi, if_neg (by omega), fi_par]; exact g5 i r hr
      · rw [ar_pfi, ar_par, if_neg (by omega)]; exact g7 r j hr hne
      · exact tl
      · rw [fi_pfi, if_pos ⟨rfl, rfl⟩]
      · show n + 1 ≤ al σ' (fr σ' 1 l); rw [k2]; exact k4
      · show al σ' (fr σ' 1 l) ≤ 110; rw [k2]; exact k6
      · show fr σ' 1 l < nx σ'; omega
      · show l < nx σ'; omega
      · show tg σ' (fr σ' 1 l) = 102; rw [k2]; exact k3
      · show 10 ≤ al σ' (fr σ' 1 l); rw [k2]; exact k5
      · show (if fr σ' 1 l = nx σ ∧ i = n then x else ar σ' (fr σ' 1 l) i) = va_up f n x i ∧ (tg σ' (va_up f n x i) = 4 ∨ tg σ' (va_up f n x i) = 6)
        by_cases hin : i = n
        · subst hin
          rw [if_pos ⟨k2, rfl⟩, va_up_self, (g3 x xlt).1]
          exact ⟨rfl, hx⟩
        · rw [if_neg (fun z => hin z.2), va_up_ne f x hin, k2, k7 i (by omega)]
          obtain ⟨q1, q2⟩ := h9 i (by omega)
          have hlt : f i < nx σ := by
            rcases Nat.lt_or_ge (f i) (nx σ) with q | q
            · exact q
            · have := hF.2 (f i) q; omega
          rw [(g3 (f i) hlt).1]
          exact ⟨rfl, q2⟩
      · show nx σ' + al σ (fr σ 1 l) ≤ nx σ + al σ' (fr σ' 1 l); rw [k2]; omega
      · show sl σ' + 4 * al σ (fr σ 1 l) ≤ sl σ + 4 * al σ' (fr σ' 1 l); rw [k2]; omega
      · exact k10
    · refine p_icmp_ne (tgt := 11) e_AL_add3_3 (by decide) (fun _ => ?_) (fun hx => absurd hx (fun q => hfull ((nI_eq (by omega) (by omega)).mp q)))
      have ht : tg σ (fr σ 1 l) = 102 := by
        rcases h8 with ⟨-, h⟩ | ⟨h, -⟩
        · omega
        · exact h
      obtain ⟨ci, c1, c2⟩ := castO hx
      refine p_aload_n e_AL_add3_11 rfl ?_
      refine p_iload_n e_AL_add3_12 rfl ?_
      refine p_aload_n e_AL_add3_13 rfl ?_
      refine p_aast (ti := 2) (n := n) (ci := ci) e_AL_add3_14 (by decide) rfl ht c1 c2 rfl (by omega) (by omega) ?_
      refine p_aload_n e_AL_add3_15 rfl ?_
      refine p_iload_n e_AL_add3_16 rfl ?_
      refine p_iconst (x := 1) e_AL_add3_17 (by decide) ?_
      refine p_iadd e_AL_add3_18 ?_
      refine p_top (y := nI (n + 1)) (nI_1 n) ?_
      refine p_pI 2 e_AL_add3_19 f_AL_48 rfl rfl (fun q h => by cases h; exact Or.inl rfl) rfl (by assumption) ?_
      refine p_ret e_AL_add3_22 (rv_v ?_)
      refine hP _ ⟨⟨Nat.le_refl _, Nat.le_refl _, fun r _ => ⟨rfl, rfl⟩, fun _ _ _ => rfl, fun i r hr => ?_, fun _ _ _ => rfl, fun r j hr hne => ?_, Or.inl rfl⟩, ⟨h1, ?_, by omega, ?_, h5, h6, h7, h8, fun i hi => ?_⟩, Nat.le_refl _, Nat.le_refl _, hF⟩
      · rw [fi_pfi, if_neg (by omega), fi_par]
      · rw [ar_pfi, ar_par, if_neg (by omega)]
      · rw [fi_pfi, if_pos ⟨rfl, rfl⟩]
      · show n + 1 ≤ al σ (fr σ 1 l); omega
      · show (if fr σ 1 l = fr σ 1 l ∧ i = n then x else ar σ (fr σ 1 l) i) = va_up f n x i ∧ (tg σ (va_up f n x i) = 4 ∨ tg σ (va_up f n x i) = 6)
        by_cases hin : i = n
        · subst hin
          rw [if_pos ⟨rfl, rfl⟩, va_up_self]
          exact ⟨rfl, hx⟩
        · rw [if_neg (fun z => hin z.2), va_up_ne f x hin]
          exact h9 i (by omega)
  rcases h8 with ⟨ht, hc⟩ | ⟨ht, hc⟩
  · refine p_alenZ e_AL_add3_2 ht ?_
    rw [hc] at hal
    exact hal
  · exact p_alen (ti := 2) e_AL_add3_2 (by decide) ht hal
theorem sp_AL_add {σ : PS} {l n x : Nat} {f : Nat → Nat} {P : Option PV → PS → Prop} (hF : FR σ) (h : AL σ l n f) (hn : n ≤ 71) (hx : tg σ x = 4 ∨ tg σ x = 6) (hP : ∀ σ', ADD σ σ' l n f x → P (some (.inl 1)) σ') : Ctr m_AL_add1 6 [.inr l, .inr x] σ P := by
  obtain ⟨h1, h2, h3, h4, h5, h6, h7, h8, h9⟩ := id h
  refine Ctr.of y_AL_add1 (Nat.le_of_ble_eq_true rfl) ?_
  refine p_aload_n e_AL_add1_0 rfl ?_
  refine p_dup e_AL_add1_1 ?_
  refine p_gI 0 e_AL_add1_2 f_AL_63 rfl rfl (by assumption) ?_
  refine p_iconst (x := 1) e_AL_add1_5 (by decide) ?_
  refine p_iadd e_AL_add1_6 ?_
  refine p_pI 0 e_AL_add1_7 f_AL_63 rfl rfl (fun q h => by cases h; exact Or.inl rfl) rfl (by assumption) ?_
  refine p_aload_n e_AL_add1_10 rfl ?_
  refine p_aload_n e_AL_add1_11 rfl ?_
  refine p_aload_n e_AL_add1_12 rfl ?_
  refine p_gR 1 e_AL_add1_13 f_AL_9 rfl rfl (by assumption) ?_
  refine p_aload_n e_AL_add1_16 rfl ?_
  refine p_gIv 2 e_AL_add1_17 f_AL_48 rfl rfl (by assumption) h2 ?_
  refine p_inv (ci := 0) (d' := 5) [_, _, _] _ e_AL_add1_20 c_AL_131 k_AL_add3 i_AL_add3 s_AL_add3 rfl rfl (by assumption) rfl rfl (Nat.le_of_ble_eq_true rfl) (Nat.le_of_ble_eq_true rfl) ?_
  have hA : AL (pfi σ 0 l (fi σ 0 l + 1)) l n f := ⟨h1, h2, h3, h4, h5, h6, h7, h8, h9⟩
  refine sp_add3 (σ := pfi σ 0 l (fi σ 0 l + 1)) hF hA hn hx rfl (fun σ' hA' => ?_)
  refine p_iconst (x := 1) e_AL_add1_23 (by decide) ?_
  refine p_iret e_AL_add1_24 (rv_z (by first | assumption | exact Or.inl rfl | exact Or.inr rfl) ?_)
  obtain ⟨⟨g1, g2, g3, g4, g5, g6, g7, g8⟩, k1, k2, k3, k4⟩ := hA'
  refine hP σ' ⟨⟨g1, g2, g3, g4, fun i r hr => ?_, g6, g7, g8⟩, k1, k2, k3, k4⟩
  rw [g5 i r hr, fi_pfi, if_neg (by omega)]
