/-! the mail's methods -/
/-- what is in hand stays as it is written; what is not the class's own stays: kinds and lengths, the reference's fields, the numbers of all arrays but z -/
def HK (z : Nat) (σ σ' : PS) (hs : List Nat) : Prop := (∀ h ∈ hs, ∀ k, 192 ≤ k → k ≤ 202 → fi σ' k h = fi σ k h) ∧ nx σ ≤ nx σ' ∧ (∀ r, r < nx σ → tg σ' r = tg σ r ∧ al σ' r = al σ r) ∧ (∀ k r, r < nx σ → 512 ≤ k → fi σ' k r = fi σ k r ∧ fr σ' k r = fr σ k r) ∧ ∀ r j, r < nx σ → r ≠ z → ai σ' r j = ai σ r j
theorem HK.rf {z : Nat} {σ : PS} {hs : List Nat} : HK z σ σ hs := ⟨fun _ _ _ _ _ => rfl, Nat.le_refl _, fun _ _ => ⟨rfl, rfl⟩, fun _ _ _ _ => ⟨rfl, rfl⟩, fun _ _ _ _ => rfl⟩
theorem HK.tr {z : Nat} {σ σ' σ'' : PS} {hs : List Nat} (h1 : HK z σ σ' hs) (h2 : HK z σ' σ'' hs) : HK z σ σ'' hs := by
  obtain ⟨a1, a2, a3, a4, a5⟩ := h1
  obtain ⟨b1, b2, b3, b4, b5⟩ := h2
  refine ⟨fun h hh k a b => (b1 h hh k a b).trans (a1 h hh k a b), Nat.le_trans a2 b2, fun r hr => ?_, fun k r hr hk => ?_, fun r j hr hz => ?_⟩
  · have q := b3 r (by omega)
    exact ⟨q.1.trans (a3 r hr).1, q.2.trans (a3 r hr).2⟩
  · have q := b4 k r (by omega) hk
    exact ⟨q.1.trans (a4 k r hr hk).1, q.2.trans (a4 k r hr hk).2⟩
  · exact (b5 r j (by omega) hz).trans (a5 r j hr hz)
theorem HK.put {z : Nat} {σ : PS} {hs : List Nat} {i a : Nat} {v : Int32} (h : ¬ (192 ≤ i ∧ i ≤ 202) ∨ a ∉ hs) (hi : i < 512 := by omega) : HK z σ (pfi σ i a v) hs := by
  refine ⟨fun y hy k q1 q2 => ?_, Nat.le_refl _, fun _ _ => ⟨rfl, rfl⟩, fun k r _ hk => ⟨?_, rfl⟩, fun _ _ _ _ => rfl⟩
  · rw [fi_pfi, if_neg]
    rintro ⟨rfl, rfl⟩
    rcases h with h | h
    · exact h ⟨q1, q2⟩
    · exact h hy
  · rw [fi_pfi, if_neg (by omega)]
theorem HK.pfr {z : Nat} {σ : PS} {hs : List Nat} {i a v : Nat} (hi : i < 512 := by omega) : HK z σ (pfr σ i a v) hs := by
  refine ⟨fun _ _ _ _ _ => rfl, Nat.le_refl _, fun _ _ => ⟨rfl, rfl⟩, fun k r _ hk => ⟨rfl, ?_⟩, fun _ _ _ _ => rfl⟩
  rw [fr_pfr, if_neg (by omega)]
theorem HK.pai {z : Nat} {σ : PS} {hs : List Nat} {j : Nat} {v : Int32} : HK z σ (pai σ z j v) hs := by
  refine ⟨fun _ _ _ _ _ => rfl, Nat.le_refl _, fun _ _ => ⟨rfl, rfl⟩, fun k r _ hk => ⟨rfl, rfl⟩, fun r j _ hz => ?_⟩
  rw [ai_pai, if_neg (fun q => hz q.1)]
theorem HK.new {z : Nat} {σ : PS} {hs : List Nat} {ci n : Nat} (h : ∀ y ∈ hs, y < nx σ) : HK z σ (pnew σ ci n) hs := by
  refine ⟨fun y hy k q1 q2 => ?_, by rw [nx_pnew]; omega, fun r hr => ⟨?_, rfl⟩, fun k r hr hk => ⟨?_, ?_⟩, fun _ _ _ _ => rfl⟩
  · have := h y hy
    rw [fi_pnew, if_neg (by omega)]
  · rw [tg_pnew, if_neg (by omega)]
  · rw [fi_pnew, if_neg (by omega)]
  · rw [fr_pnew, if_neg (by omega)]
theorem HK.lf {z : Nat} {σ σ' : PS} {hs : List Nat} {l : Nat} (h : LF σ σ' l) : HK z σ σ' hs := ⟨fun y hy k q1 q2 => h.2.2.2.2.1 k y (Or.inr (by omega)), h.1, h.2.2.1, fun k r _ hk => ⟨h.2.2.2.2.1 k r (Or.inr (by omega)), h.2.2.2.2.2.1 k r (Or.inr (by omega))⟩, fun r j hr _ => h.2.2.2.1 r j hr⟩
theorem HK.sub {z : Nat} {σ σ' : PS} {hs : List Nat} {x : Nat} (h : HK z σ σ' (x :: hs)) : HK z σ σ' hs := ⟨fun y hy => h.1 y (List.mem_cons_of_mem _ hy), h.2⟩
section Mail
variable {N : Nat} {Y : Nat → Nat} {bd : Nat × Nat × Nat} {hs : List Nat} {σ : PS} {A : AS} {f : Nat → Nat} {m : Nat} {g : Nat → Nat} {rf : Nat → Nat → Nat} {P : Option PV → PS → Prop}
theorem sp_Mail_size (h : CRx N Y bd hs σ A f m g rf) (hP : P (some (.inl (nI (ln A)))) σ) : Ctr m_Mail_size 2 [.inr (Y 5)] σ P := by
  obtain ⟨h1, h2, h3, h4, h5, ⟨a1, a2, a3, a4, a5, a6, a7, a8, a9, a10⟩, h7, h8, h9, h10⟩ := id h
  obtain ⟨t5, t6, t7⟩ := h1.2.2.2.2.2.2.1
  have tw := a1.1
  have sw := a1.2.1
  refine Ctr.of y_Mail_size (Nat.le_of_ble_eq_true rfl) ?_
  refine p_aload_n e_Mail_size_0 rfl ?_
  refine p_gRv 256 e_Mail_size_1 f_Mail_12 rfl rfl (by assumption) t6 ?_
  refine p_inv (ci := 0) (d' := 1) [] _ e_Mail_size_4 c_Mail_21 k_AL_size i_AL_size s_AL_size rfl rfl (by assumption) rfl rfl (Nat.le_of_ble_eq_true rfl) (Nat.le_of_ble_eq_true rfl) ?_
  refine sp_AL_size tw ?_
  rw [sw]
  refine p_iret e_Mail_size_7 (rv_i ?_)
  exact hP
theorem sp_Mail_has {i : Int32} (h : CRx N Y bd hs σ A f m g rf) (k1 : 0 ≤ i → i < nI (ln A) → P (some (.inl 1)) σ) (k0 : ¬ (0 ≤ i ∧ i < nI (ln A)) → P (some (.inl 0)) σ) : Ctr m_Mail_has 2 [.inr (Y 5), .inl i] σ P := by
  obtain ⟨h1, h2, h3, h4, h5, ⟨a1, a2, a3, a4, a5, a6, a7, a8, a9, a10⟩, h7, h8, h9, h10⟩ := id h
  obtain ⟨t5, t6, t7⟩ := h1.2.2.2.2.2.2.1
  have tw := a1.1
  have sw := a1.2.1
  refine Ctr.of y_Mail_has (Nat.le_of_ble_eq_true rfl) ?_
  refine p_iload_n e_Mail_has_0 rfl ?_
  refine p_if_lt (tgt := 19) e_Mail_has_1 (by decide) (fun h1 => ?_) (fun h1 => ?_)
  · refine p_iconst (x := 0) e_Mail_has_19 (by decide) ?_
    refine p_iret e_Mail_has_20 (rv_z (by first | assumption | exact Or.inl rfl | exact Or.inr rfl) ?_)
    exact k0 (fun q => absurd h1 (Int32.not_lt.mpr q.1))
  refine p_iload_n e_Mail_has_4 rfl ?_
  refine p_aload_n e_Mail_has_5 rfl ?_
  refine p_gRv 256 e_Mail_has_6 f_Mail_12 rfl rfl (by assumption) t6 ?_
  refine p_inv (ci := 0) (d' := 1) [] _ e_Mail_has_9 c_Mail_21 k_AL_size i_AL_size s_AL_size rfl rfl (by assumption) rfl rfl (Nat.le_of_ble_eq_true rfl) (Nat.le_of_ble_eq_true rfl) ?_
  refine sp_AL_size tw ?_
  rw [sw]
  refine p_icmp_ge (tgt := 19) e_Mail_has_12 (by decide) (fun q9 => ?_) (fun q9 => ?_)
  · refine p_iconst (x := 0) e_Mail_has_19 (by decide) ?_
    refine p_iret e_Mail_has_20 (rv_z (by first | assumption | exact Or.inl rfl | exact Or.inr rfl) ?_)
    exact k0 (fun q => absurd q9 (Int32.not_le.mpr q.2))
  refine p_iconst (x := 1) e_Mail_has_15 (by decide) ?_
  refine p_goto (tgt := 20) e_Mail_has_16 (by decide) ?_
  refine p_iret e_Mail_has_20 (rv_z (by first | assumption | exact Or.inl rfl | exact Or.inr rfl) ?_)
  exact k1 (Int32.not_lt.mp h1) (Int32.not_le.mp q9)
theorem sp_Mail_at {i : Nat} (h : CRx N Y bd hs σ A f m g rf) (hi : i < ln A) (hP : P (some (.inr (f i))) σ) : Ctr m_Mail_at 4 [.inr (Y 5), .inl (nI i)] σ P := by
  obtain ⟨h1, h2, h3, h4, h5, ⟨a1, a2, a3, a4, a5, a6, a7, a8, a9, a10⟩, h7, h8, h9, h10⟩ := id h
  obtain ⟨t5, t6, t7⟩ := h1.2.2.2.2.2.2.1
  have tw := a1.1
  refine Ctr.of y_Mail_at (Nat.le_of_ble_eq_true rfl) ?_
  refine p_aload_n e_Mail_at_0 rfl ?_
  refine p_gRv 256 e_Mail_at_1 f_Mail_12 rfl rfl (by assumption) t6 ?_
  refine p_iload_n e_Mail_at_4 rfl ?_
  refine p_inv (ci := 0) (d' := 3) [_] _ e_Mail_at_5 c_Mail_25 k_AL_get i_AL_get s_AL_get rfl rfl (by assumption) rfl rfl (Nat.le_of_ble_eq_true rfl) (Nat.le_of_ble_eq_true rfl) ?_
  refine sp_AL_get a1 hi ?_
  refine p_cast (ci := 3) e_Mail_at_8 l_Mail_29 ⟨_, rfl, Or.inl rfl⟩ (a3 i hi).1 ⟨3, _, rfl, rfl⟩ ?_
  refine p_aret e_Mail_at_11 (rv_o ?_)
  exact hP
theorem sp_Mail_take {i : Nat} (h : CRx N Y bd hs σ A f m g rf) (hi : i < ln A) (hP : ∀ σ', CRx N Y bd (f i :: hs) σ' (rmL A i) (fun j => if j < i then f j else f (j + 1)) m g rf → HK (Y 4) σ σ' (f i :: hs) → P (some (.inr (f i))) σ') : Ctr m_Mail_take 4 [.inr (Y 5), .inl (nI i)] σ P := by
  obtain ⟨h1, h2, h3, h4, h5, ⟨a1, a2, a3, a4, a5, a6, a7, a8, a9, a10⟩, h7, h8, h9, h10⟩ := id h
  obtain ⟨t5, t6, t7⟩ := h1.2.2.2.2.2.2.1
  have tw := a1.1
  refine Ctr.of y_Mail_take (Nat.le_of_ble_eq_true rfl) ?_
  refine p_aload_n e_Mail_take_0 rfl ?_
  refine p_gRv 256 e_Mail_take_1 f_Mail_12 rfl rfl (by assumption) t6 ?_
  refine p_iload_n e_Mail_take_4 rfl ?_
  refine p_inv (ci := 0) (d' := 3) [_] _ e_Mail_take_5 c_Mail_31 k_AL_remove i_AL_remove s_AL_remove rfl rfl (by assumption) rfl rfl (Nat.le_of_ble_eq_true rfl) (Nat.le_of_ble_eq_true rfl) ?_
  refine sp_AL_remove a1 hi (fun σ' hR => ?_)
  have ht : tg σ' (f i) = 4 := by rw [hR.2.2.2.2.1]; exact (a3 i hi).1
  refine p_cast (ci := 3) e_Mail_take_8 l_Mail_29 ⟨_, rfl, Or.inl rfl⟩ (by assumption) ⟨3, _, rfl, rfl⟩ ?_
  refine p_aret e_Mail_take_11 (rv_o ?_)
  exact hP σ' (h.rmW hi hR) (HK.lf hR.1)
theorem sp_Mail_giveBack {x : Nat} (h : CRx N Y bd (x :: hs) σ A f m g rf) (hP : ∀ σ' g', CRx N Y bd hs σ' A f (m + 1) g' rf → HK (Y 4) σ σ' hs → P none σ') : Ctr m_Mail_giveBack 7 [.inr (Y 5), .inr x] σ P := by
  obtain ⟨h1, h2, h3, h4, h5, ⟨a1, a2, a3, a4, a5, a6, a7, a8, a9, a10⟩, h7, h8, h9, h10⟩ := id h
  obtain ⟨t5, t6, t7⟩ := h1.2.2.2.2.2.2.1
  have tw := a2.1
  simp only [List.length_cons] at a10
  refine Ctr.of y_Mail_giveBack (Nat.le_of_ble_eq_true rfl) ?_
  refine p_aload_n e_Mail_giveBack_0 rfl ?_
  refine p_gRv 257 e_Mail_giveBack_1 f_Mail_18 rfl rfl (by assumption) t7 ?_
  refine p_aload_n e_Mail_giveBack_4 rfl ?_
  refine p_inv (ci := 0) (d' := 6) [_] _ e_Mail_giveBack_5 c_Mail_34 k_AL_add1 i_AL_add1 s_AL_add1 rfl rfl (by assumption) rfl rfl (Nat.le_of_ble_eq_true rfl) (Nat.le_of_ble_eq_true rfl) ?_
  refine sp_AL_add h2 a2 (by omega) (Or.inl (a8 x List.mem_cons_self).1) (fun σ' hA => ?_)
  refine p_pop e_Mail_giveBack_8 ?_
  refine p_ret e_Mail_giveBack_9 (rv_v ?_)
  exact hP σ' _ (h.adS hA) (HK.lf hA.1)
set_option maxHeartbeats 4000000 in
theorem sp_dropOlder {kd fm to bl : Int32} (hk : kd ≠ 3) (h : CRx N Y bd hs σ A f m g rf) (hP : ∀ σ' f' m' g', CRx N Y bd hs σ' (dpL A kd fm to bl) f' m' g' rf → HK (Y 4) σ σ' hs → P none σ') : Ctr m_Mail_dropOlder 7 [.inr (Y 5), .inl kd, .inl fm, .inl to, .inl bl] σ P := by
  obtain ⟨h1, h2, h3, h4, h5, ⟨a1, a2, a3, a4, a5, a6, a7, a8, a9, a10⟩, h7, h8, h9, h10⟩ := id h
  obtain ⟨t5, t6, t7⟩ := h1.2.2.2.2.2.2.1
  have tw := a1.1
  have ts := a2.1
  have sw := a1.2.1
  have hln : ln A ≤ 70 := by omega
  refine Ctr.of y_Mail_dropOlder (Nat.le_of_ble_eq_true rfl) ?_
  have loop : ∀ k i, i + k = ln A → (∀ j, j < i → ¬ mtL A kd fm to bl j) → Wp m_Mail_dropOlder 7 3 [(5, .inl (nI i)), (0, .inr (Y 5)), (1, .inl kd), (2, .inl fm), (3, .inl to), (4, .inl bl)] [] σ (fun v σ' => RV m_Mail_dropOlder.2.2.2 v ∧ P v σ') := by
    intro k
    induction k with
    | zero =>
      intro i hi hno
      refine p_iload e_Mail_dropOlder_3 rfl ?_
      refine p_aload_n e_Mail_dropOlder_5 rfl ?_
      refine p_gRv 256 e_Mail_dropOlder_6 f_Mail_12 rfl rfl (by assumption) t6 ?_
      refine p_inv (ci := 0) (d' := 1) [] _ e_Mail_dropOlder_9 c_Mail_21 k_AL_size i_AL_size s_AL_size rfl rfl (by assumption) rfl rfl (Nat.le_of_ble_eq_true rfl) (Nat.le_of_ble_eq_true rfl) ?_
      refine sp_AL_size tw ?_
      rw [sw]
      refine p_icmp_ge (tgt := 65) e_Mail_dropOlder_12 (by decide) (fun _ => ?_) (fun hx => absurd (nI_le (by omega) (by omega)) hx)
      refine p_ret e_Mail_dropOlder_65 (rv_v ?_)
      have hd : dpL A kd fm to bl = A := dpL_no (fun j hj => hno j (by omega))
      exact hP σ f m g (by rw [hd]; exact h) HK.rf
    | succ k ih =>
      intro i hi hno
      have hil : i < ln A := by omega
      refine p_iload e_Mail_dropOlder_3 rfl ?_
      refine p_aload_n e_Mail_dropOlder_5 rfl ?_
      refine p_gRv 256 e_Mail_dropOlder_6 f_Mail_12 rfl rfl (by assumption) t6 ?_
      refine p_inv (ci := 0) (d' := 1) [] _ e_Mail_dropOlder_9 c_Mail_21 k_AL_size i_AL_size s_AL_size rfl rfl (by assumption) rfl rfl (Nat.le_of_ble_eq_true rfl) (Nat.le_of_ble_eq_true rfl) ?_
      refine sp_AL_size tw ?_
      rw [sw]
      refine p_icmp_ge (tgt := 65) e_Mail_dropOlder_12 (by decide) (fun hx => absurd hx (nI_ge hil (by omega))) (fun _ => ?_)
      refine p_aload_n e_Mail_dropOlder_15 rfl ?_
      refine p_gRv 256 e_Mail_dropOlder_16 f_Mail_12 rfl rfl (by assumption) t6 ?_
      refine p_iload e_Mail_dropOlder_19 rfl ?_
      refine p_inv (ci := 0) (d' := 3) [_] _ e_Mail_dropOlder_21 c_Mail_25 k_AL_get i_AL_get s_AL_get rfl rfl (by assumption) rfl rfl (Nat.le_of_ble_eq_true rfl) (Nat.le_of_ble_eq_true rfl) ?_
      refine sp_AL_get a1 hil ?_
      obtain ⟨tl, l1, l2, l3, l4, -⟩ := a3 i hil
      refine p_cast (ci := 3) e_Mail_dropOlder_24 l_Mail_29 ⟨_, rfl, Or.inl rfl⟩ (by assumption) ⟨3, _, rfl, rfl⟩ ?_
      refine p_iload_n e_Mail_dropOlder_27 rfl ?_
      refine p_iload_n e_Mail_dropOlder_28 rfl ?_
      refine p_iload_n e_Mail_dropOlder_29 rfl ?_
      refine p_iload e_Mail_dropOlder_30 rfl ?_
      refine p_inv (ci := 3) (d' := 1) [_, _, _, _] _ e_Mail_dropOlder_32 c_Mail_50 k_Letter_yieldsTo i_Letter_yieldsTo s_Letter_yieldsTo rfl rfl (by assumption) rfl rfl (Nat.le_of_ble_eq_true rfl) (Nat.le_of_ble_eq_true rfl) ?_
      refine sp_Letter_yieldsTo tl (fun q1 q2 q3 q4 => ?_) (fun q => ?_)
      · refine p_if_eq (tgt := 59) e_Mail_dropOlder_35 (by decide) (fun hx => absurd hx ((by decide))) (fun _ => ?_)
        have hm : mtL A kd fm to bl i := ⟨l1.symm.trans q1, l2.symm.trans q2, l3.symm.trans q3, fun z => l4.symm.trans (q4 z)⟩
        refine p_aload_n e_Mail_dropOlder_38 rfl ?_
        refine p_gRv 257 e_Mail_dropOlder_39 f_Mail_18 rfl rfl (by assumption) t7 ?_
        refine p_aload_n e_Mail_dropOlder_42 rfl ?_
        refine p_gRv 256 e_Mail_dropOlder_43 f_Mail_12 rfl rfl (by assumption) t6 ?_
        refine p_iload e_Mail_dropOlder_46 rfl ?_
        refine p_inv (ci := 0) (d' := 3) [_] _ e_Mail_dropOlder_48 c_Mail_31 k_AL_remove i_AL_remove s_AL_remove rfl rfl (by assumption) rfl rfl (Nat.le_of_ble_eq_true rfl) (Nat.le_of_ble_eq_true rfl) ?_
        refine sp_AL_remove a1 hil (fun σ' hR => ?_)
        have hc := h.rmW hil hR
        have ht : tg σ' (f i) = 4 := by rw [hR.2.2.2.2.1]; exact tl
        refine p_cast (ci := 3) e_Mail_dropOlder_51 l_Mail_29 ⟨_, rfl, Or.inl rfl⟩ (by assumption) ⟨3, _, rfl, rfl⟩ ?_
        obtain ⟨c1, c2, c3, c4, c5, ⟨b1, b2, b3, b4, b5, b6, b7, b8, b9, b10⟩, c7, c8, c9, c10⟩ := id hc
        have ts' := b2.1
        simp only [List.length_cons] at b10
        have e1 : ln (rmL A i) = ln A - 1 := rfl
        refine p_inv (ci := 0) (d' := 6) [_] _ e_Mail_dropOlder_54 c_Mail_34 k_AL_add1 i_AL_add1 s_AL_add1 rfl rfl (by assumption) rfl rfl (Nat.le_of_ble_eq_true rfl) (Nat.le_of_ble_eq_true rfl) ?_
        refine sp_AL_add c2 b2 (by omega) (Or.inl ht) (fun σ'' hA => ?_)
        refine p_pop e_Mail_dropOlder_57 ?_
        refine p_ret e_Mail_dropOlder_58 (rv_v ?_)
        have hd : dpL A kd fm to bl = rmL A i := dpL_at hk ⟨hil, hm, hno⟩
        refine hP σ'' _ _ _ (by rw [hd]; exact hc.adS hA) ((HK.lf hR.1).tr (HK.lf hA.1))
      · refine p_if_eq (tgt := 59) e_Mail_dropOlder_35 (by decide) (fun _ => ?_) (fun hx => absurd (rfl) hx)
        refine p_iinc e_Mail_dropOlder_59 rfl rfl (by decide) ?_
        refine p_goto (tgt := 3) e_Mail_dropOlder_62 (by decide) ?_
        refine Wp.lv [(5, .inl (nI (i + 1))), (0, .inr (Y 5)), (1, .inl kd), (2, .inl fm), (3, .inl to), (4, .inl bl)] ⟨congrArg (fun z => some (Sum.inl z)) (nI_1 i), rfl, rfl, rfl, rfl, rfl, trivial⟩ ?_
        refine ih (i + 1) (by omega) (fun j hj => ?_)
        by_cases e : j = i
        · subst e
          exact fun z => q ⟨l1.trans z.1, l2.trans z.2.1, l3.trans z.2.2.1, fun y => l4.trans (z.2.2.2 y)⟩
        · exact hno j (by omega)
  refine p_iconst (x := 0) e_Mail_dropOlder_0 (by decide) ?_
  refine p_istore e_Mail_dropOlder_1 (by decide) ?_
  exact Wp.lv [(5, .inl (nI 0)), (0, .inr (Y 5)), (1, .inl kd), (2, .inl fm), (3, .inl to), (4, .inl bl)] ⟨rfl, rfl, rfl, rfl, rfl, rfl, trivial⟩ (loop (ln A) 0 (by omega) (fun j hj => by omega))
end Mail
