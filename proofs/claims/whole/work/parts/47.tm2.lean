/-! ending and asking -/
theorem ln_sdL {A : AS} {kd fm to bl : Int32} : ln (sdL A kd fm to bl) = ln (dpL A kd fm to bl) + 1 := rfl
/-- the access of c on block b can end -/
def ceA (N : Nat) (A : AS) (c b : Nat) : Prop := sv A 7 (2 * c + b) ≠ 0 ∧ (sv A 13 c = 0 ∨ sv A 5 (2 * c + b) = nI (N + 1))
/-- it ends, but for the letter -/
def enB (A : AS) (c b : Nat) : AS := set1 (set1 (if sv A 13 c = 0 then set1 A 21 c (sv A 8 (2 * c + b)) else set1 (set1 A 21 c (sv A 8 (2 * c + b))) 8 (2 * c + b) (sv A 16 c)) 12 c 0) 20 c (sv A 20 c + 1)
theorem ln_enB {A : AS} {c b : Nat} : ln (enB A c b) = ln A := by
  unfold enB
  split <;> rfl
noncomputable def enA (N : Nat) (A : AS) (c b : Nat) : AS := if sv A 14 c = 0 then enB A c b else set1 (sdL (enB A c b) 6 (nI c) (nI N) 0) 37 (ln (dpL (enB A c b) 6 (nI c) (nI N) 0)) (sv A 17 c)
/-- c asks the nodes below x -/
noncomputable def akA (A : AS) (c : Nat) (kd bl : Int32) : Nat → AS
  | 0 => A
  | x + 1 => if x = c then akA A c kd bl x else sdL (akA A c kd bl x) kd (nI c) (nI x) bl
def rwk (A : AS) (c : Nat) : Int32 := if sv A 13 c = 0 then 1 else 2
theorem sv_akA {A : AS} {c : Nat} {kd bl : Int32} {k j : Nat} (hk : ¬ (29 ≤ k ∧ k < 40)) : ∀ x, sv (akA A c kd bl x) k j = sv A k j
  | 0 => rfl
  | x + 1 => by
    unfold akA
    by_cases e : x = c
    · rw [if_pos e]; exact sv_akA hk x
    · rw [if_neg e, sv_sdL hk]; exact sv_akA hk x
noncomputable def agA (N : Nat) (A : AS) (c : Nat) : AS := if sv A 18 c < sv A 2 0 then akA (set1 (set1 A 18 c (sv A 18 c + 1)) 19 c (sv A 4 0 + sv A 3 0)) c (rwk A c) (sv A 15 c) (N + 1) else
  set1 (set1 (sdL (set1 A 14 c 1) 4 (nI c) (nI N) (sv A 15 c)) 37 (ln (dpL (set1 A 14 c 1) 4 (nI c) (nI N) (sv A 15 c))) (sv A 17 c)) 39 (ln (dpL (set1 A 14 c 1) 4 (nI c) (nI N) (sv A 15 c))) (sv A 13 c)
section TM2
variable {N : Nat} {Y : Nat → Nat} {bd : Nat × Nat × Nat} {hs : List Nat} {σ : PS} {A : AS} {f : Nat → Nat} {m : Nat} {g : Nat → Nat} {rf : Nat → Nat → Nat} {P : Option PV → PS → Prop}
set_option maxHeartbeats 4000000 in
theorem sp_canEnd {c b : Nat} (hc : c < N) (hb : b < 2) (hbl : sv A 15 c = nI b) (h : CRx N Y bd hs σ A f m g rf) (k1 : ceA N A c b → P (some (.inl 1)) σ) (k0 : ¬ ceA N A c b → P (some (.inl 0)) σ) : Ctr m_TM_canEnd 2 [.inr (Y 0), .inl (nI c)] σ P := by
  obtain ⟨a0, ⟨b1, b2, b3, b4, b5, b6, b7, b8, b9⟩, -, ⟨d1, d2, d3⟩, -⟩ := h.1
  have hi : 2 * c + b < 2 * N + 2 := by omega
  have ts : tg σ (Y (100 + (2 * c + b))) = 7 := h.1.sh hi
  have tc : tg σ (Y (200 + c)) = 2 := h.1.co hc
  obtain ⟨s1, s2, s3, s4, s5, s6, s7⟩ := h.2.2.1
  obtain ⟨o1, o2, o3, o4, o5, o6, o7, o8, o9, o10⟩ := h.2.2.2.1
  have v15 : fi σ 67 (Y (200 + c)) = nI b := (o4 c hc).trans hbl
  have v13 := o3 c hc
  have v7 := s3 _ hi
  have v5 := s1 _ hi
  refine Ctr.of y_TM_canEnd (Nat.le_of_ble_eq_true rfl) ?_
  refine p_aload_n e_TM_canEnd_0 rfl ?_
  refine p_gRv 454 e_TM_canEnd_1 f_TM_38 rfl rfl (by assumption) b6 ?_
  refine p_iload_n e_TM_canEnd_4 rfl ?_
  refine p_aaldv e_TM_canEnd_5 (ti := 4) (n := c) (v := Y (200 + c)) (by decide) d1 rfl (by omega) (by omega) (d3 c hc).1 ?_
  refine p_astore_n e_TM_canEnd_6 (by decide) ?_
  refine p_aload_n e_TM_canEnd_7 rfl ?_
  refine p_iload_n e_TM_canEnd_8 rfl ?_
  refine p_aload_n e_TM_canEnd_9 rfl ?_
  refine p_gIv 67 e_TM_canEnd_10 f_TM_222 rfl rfl (by assumption) v15 ?_
  refine p_inv (ci := 7) (d' := 1) [_, _] _ e_TM_canEnd_13 c_TM_159 k_TM_share i_TM_share s_TM_share rfl rfl (by assumption) rfl rfl (Nat.le_of_ble_eq_true rfl) (Nat.le_of_ble_eq_true rfl) ?_
  refine h.1.share (by omega) hb ?_
  refine p_astore_n e_TM_canEnd_16 (by decide) ?_
  refine p_aload_n e_TM_canEnd_17 rfl ?_
  refine p_gIv 386 e_TM_canEnd_18 f_TM_61 rfl rfl (by assumption) v7 ?_
  refine p_if_eq (tgt := 46) e_TM_canEnd_21 (by decide) (fun h21 => ?_) (fun h21 => ?_)
  · refine p_iconst (x := 0) e_TM_canEnd_46 (by decide) ?_
    refine p_iret e_TM_canEnd_47 (rv_z (by first | assumption | exact Or.inl rfl | exact Or.inr rfl) ?_)
    exact k0 (fun q => q.1 h21)
  refine p_aload_n e_TM_canEnd_24 rfl ?_
  refine p_gIv 66 e_TM_canEnd_25 f_TM_223 rfl rfl (by assumption) v13 ?_
  refine p_if_eq (tgt := 42) e_TM_canEnd_28 (by decide) (fun h28 => ?_) (fun h28 => ?_)
  · refine p_iconst (x := 1) e_TM_canEnd_42 (by decide) ?_
    refine p_goto (tgt := 47) e_TM_canEnd_43 (by decide) ?_
    refine p_iret e_TM_canEnd_47 (rv_z (by first | assumption | exact Or.inl rfl | exact Or.inr rfl) ?_)
    exact k1 ⟨h21, Or.inl h28⟩
  refine p_aload_n e_TM_canEnd_31 rfl ?_
  refine p_gIv 384 e_TM_canEnd_32 f_TM_54 rfl rfl (by assumption) v5 ?_
  refine p_aload_n e_TM_canEnd_35 rfl ?_
  refine p_gIv 450 e_TM_canEnd_36 f_TM_26 rfl rfl (by assumption) b4 ?_
  refine p_icmp_ne (tgt := 46) e_TM_canEnd_39 (by decide) (fun h39 => ?_) (fun h39 => ?_)
  · refine p_iconst (x := 0) e_TM_canEnd_46 (by decide) ?_
    refine p_iret e_TM_canEnd_47 (rv_z (by first | assumption | exact Or.inl rfl | exact Or.inr rfl) ?_)
    refine k0 (fun q => ?_)
    rcases q.2 with q | q
    · exact h28 q
    · exact h39 q
  · refine p_iconst (x := 1) e_TM_canEnd_42 (by decide) ?_
    refine p_goto (tgt := 47) e_TM_canEnd_43 (by decide) ?_
    refine p_iret e_TM_canEnd_47 (rv_z (by first | assumption | exact Or.inl rfl | exact Or.inr rfl) ?_)
    exact k1 ⟨h21, Or.inr h39⟩
set_option maxHeartbeats 4000000 in
theorem sp_end {c b : Nat} (hc : c < N) (hb : b < 2) (hbl : sv A 15 c = nI b) (hn : ln A ≤ 67) (hh : hs.length ≤ 1) (h : CRx N Y bd hs σ A f m g rf) (hP : ∀ σ' f' m' g', CRx N Y bd hs σ' (enA N A c b) f' m' g' rf → HK (Y 4) σ σ' hs → P none σ') : Ctr m_TM_endd 9 [.inr (Y 0), .inl (nI c)] σ P := by
  obtain ⟨a0, ⟨b1, b2, b3, b4, b5, b6, b7, b8, b9⟩, -, ⟨d1, d2, d3⟩, -⟩ := h.1
  have hi : 2 * c + b < 2 * N + 2 := by omega
  have ts : tg σ (Y (100 + (2 * c + b))) = 7 := h.1.sh hi
  have tc : tg σ (Y (200 + c)) = 2 := h.1.co hc
  have t5 := (h.1.2.2.2.2.2.2.1).1
  obtain ⟨s1, s2, s3, s4, s5, s6, s7⟩ := h.2.2.1
  obtain ⟨o1, o2, o3, o4, o5, o6, o7, o8, o9, o10⟩ := h.2.2.2.1
  have v15 : fi σ 67 (Y (200 + c)) = nI b := (o4 c hc).trans hbl
  have v13 := o3 c hc
  have v16 := o5 c hc
  have v8 := s4 _ hi
  have v20 := o9 c hc
  have v14 := o8 c hc
  have v17 := o1 c hc
  have tail : ∀ (σ1 : PS) (A1 : AS), CRx N Y bd hs σ1 A1 f m g rf → HK (Y 4) σ σ1 hs → A1 = (if sv A 13 c = 0 then set1 A 21 c (sv A 8 (2 * c + b)) else set1 (set1 A 21 c (sv A 8 (2 * c + b))) 8 (2 * c + b) (sv A 16 c)) → fi σ1 72 (Y (200 + c)) = sv A 20 c → fi σ1 71 (Y (200 + c)) = sv A 14 c → fi σ1 64 (Y (200 + c)) = sv A 17 c →
      Wp m_TM_endd 9 40 [(3, .inr (Y (100 + (2 * c + b)))), (2, .inr (Y (200 + c))), (0, .inr (Y 0)), (1, .inl (nI c))] [] σ1 (fun v σ' => RV m_TM_endd.2.2.2 v ∧ P v σ') := by
    intro σ1 A1 hc1 hk1 eA w20 w14 w17
    have tc1 : tg σ1 (Y (200 + c)) = 2 := hc1.1.co hc
    have tx1 : tg σ1 (Y 0) = 8 := hc1.1.2.1.1
    have u9 : fr σ1 457 (Y 0) = Y 5 := hc1.1.2.1.2.2.2.2.2.2.2.2
    have u3 : fi σ1 449 (Y 0) = nI N := hc1.1.2.1.2.2.1
    refine p_aload_n e_TM_endd_40 rfl ?_
    refine p_iconst (x := 0) e_TM_endd_41 (by decide) ?_
    refine p_pZ 65 e_TM_endd_42 f_TM_78 rfl rfl (fun q h => by cases h; exact Or.inl rfl) rfl (by assumption) (by first | assumption | exact Or.inl rfl | exact Or.inr rfl) ?_
    refine p_aload_n e_TM_endd_45 rfl ?_
    refine p_dup e_TM_endd_46 ?_
    refine p_gIv 72 e_TM_endd_47 f_TM_205 rfl rfl (by assumption) w20 ?_
    refine p_iconst (x := 1) e_TM_endd_50 (by decide) ?_
    refine p_iadd e_TM_endd_51 ?_
    have h2 := cw_72 (v := sv A 20 c + 1) (cw_65 (v := 0) hc1 hc) hc
    have k2 : HK (Y 4) σ (pfi (pfi σ1 65 (Y (200 + c)) 0) 72 (Y (200 + c)) (sv A 20 c + 1)) hs := (hk1.tr (HK.put (Or.inl (by omega)))).tr (HK.put (Or.inl (by omega)))
    have eB : set1 (set1 A1 12 c 0) 20 c (sv A 20 c + 1) = enB A c b := by rw [eA]; rfl
    rw [eB] at h2
    refine p_pI 72 e_TM_endd_52 f_TM_205 rfl rfl (fun q h => by cases h; exact Or.inl rfl) rfl (by assumption) ?_
    refine p_aload_n e_TM_endd_55 rfl ?_
    refine p_gIv 71 e_TM_endd_56 f_TM_202 rfl rfl (by assumption) w14 ?_
    unfold enA at hP
    refine p_if_eq (tgt := 88) e_TM_endd_59 (by decide) (fun h59 => ?_) (fun h59 => ?_)
    · rw [if_pos h59] at hP
      refine p_ret e_TM_endd_88 (rv_v ?_)
      exact hP _ _ _ _ h2 k2
    · rw [if_neg h59] at hP
      refine p_aload_n e_TM_endd_62 rfl ?_
      refine p_gRv 457 e_TM_endd_63 f_TM_67 rfl rfl (by assumption) u9 ?_
      refine p_bipush (x := 6) e_TM_endd_66 (by decide) ?_
      refine p_iload_n e_TM_endd_68 rfl ?_
      refine p_aload_n e_TM_endd_69 rfl ?_
      refine p_gIv 449 e_TM_endd_70 f_TM_23 rfl rfl (by assumption) u3 ?_
      refine p_iconst (x := 0) e_TM_endd_73 (by decide) ?_
      refine p_inv (ci := 4) (d' := 8) [_, _, _, _] _ e_TM_endd_74 c_TM_225 k_Mail_send i_Mail_send s_Mail_send rfl rfl ((h2.1.2.2.2.2.2.2.1).1) rfl rfl (Nat.le_of_ble_eq_true rfl) (Nat.le_of_ble_eq_true rfl) ?_
      refine sp_send (kd := 6) (fm := nI c) (to := nI N) (bl := 0) (by rw [ln_enB]; exact hn) hh h2 (fun σ3 f3 m3 g3 hc3 hk3 => ?_)
      have hl : ln (dpL (enB A c b) 6 (nI c) (nI N) 0) < ln (sdL (enB A c b) 6 (nI c) (nI N) 0) := by rw [ln_sdL]; exact Nat.lt_succ_self _
      have tl : tg σ3 (f3 (ln (dpL (enB A c b) 6 (nI c) (nI N) 0))) = 4 := (hc3.2.2.2.2.2.1.2.2.1 _ hl).1
      have tc3 : tg σ3 (Y (200 + c)) = 2 := hc3.1.co hc
      have nh : f3 (ln (dpL (enB A c b) 6 (nI c) (nI N) 0)) ∉ hs := fun z => (hc3.2.2.2.2.2.1.2.2.2.2.2.2.2.1 _ z).2.1 _ hl rfl
      have w17' : fi σ3 64 (Y (200 + c)) = sv A 17 c := by
        rw [hc3.2.2.2.1.1 c hc, sv_sdL (by omega)]
        unfold enB
        split <;> rfl
      refine p_astore e_TM_endd_77 (by decide) ?_
      refine p_aload e_TM_endd_79 rfl ?_
      refine p_aload_n e_TM_endd_81 rfl ?_
      refine p_gIv 64 e_TM_endd_82 f_TM_229 rfl rfl (by assumption) w17' ?_
      refine p_pI 200 e_TM_endd_85 f_TM_139 rfl rfl (fun q h => by cases h; exact Or.inl rfl) rfl (by assumption) ?_
      refine p_ret e_TM_endd_88 (rv_v ?_)
      exact hP _ _ _ _ (cl_200 hc3 hl) ((k2.tr hk3).tr (HK.put (Or.inr nh)))
  refine Ctr.of y_TM_endd (Nat.le_of_ble_eq_true rfl) ?_
  refine p_aload_n e_TM_endd_0 rfl ?_
  refine p_gRv 454 e_TM_endd_1 f_TM_38 rfl rfl (by assumption) b6 ?_
  refine p_iload_n e_TM_endd_4 rfl ?_
  refine p_aaldv e_TM_endd_5 (ti := 4) (n := c) (v := Y (200 + c)) (by decide) d1 rfl (by omega) (by omega) (d3 c hc).1 ?_
  refine p_astore_n e_TM_endd_6 (by decide) ?_
  refine p_aload_n e_TM_endd_7 rfl ?_
  refine p_iload_n e_TM_endd_8 rfl ?_
  refine p_aload_n e_TM_endd_9 rfl ?_
  refine p_gIv 67 e_TM_endd_10 f_TM_222 rfl rfl (by assumption) v15 ?_
  refine p_inv (ci := 7) (d' := 1) [_, _] _ e_TM_endd_13 c_TM_159 k_TM_share i_TM_share s_TM_share rfl rfl (by assumption) rfl rfl (Nat.le_of_ble_eq_true rfl) (Nat.le_of_ble_eq_true rfl) ?_
  refine h.1.share (by omega) hb ?_
  refine p_astore_n e_TM_endd_16 (by decide) ?_
  refine p_aload_n e_TM_endd_17 rfl ?_
  refine p_aload_n e_TM_endd_18 rfl ?_
  refine p_gIv 387 e_TM_endd_19 f_TM_183 rfl rfl (by assumption) v8 ?_
  refine p_pI 73 e_TM_endd_22 f_TM_208 rfl rfl (fun q h => by cases h; exact Or.inl rfl) rfl (by assumption) ?_
  have h1 := cw_73 (v := sv A 8 (2 * c + b)) h hc
  have k1 : HK (Y 4) σ (pfi σ 73 (Y (200 + c)) (sv A 8 (2 * c + b))) hs := HK.put (Or.inl (by omega))
  refine p_aload_n e_TM_endd_25 rfl ?_
  refine p_gIv 66 e_TM_endd_26 f_TM_223 rfl rfl (by assumption) v13 ?_
  refine p_if_eq (tgt := 40) e_TM_endd_29 (by decide) (fun h29 => ?_) (fun h29 => ?_)
  · refine Wp.lv [(3, .inr (Y (100 + (2 * c + b)))), (2, .inr (Y (200 + c))), (0, .inr (Y 0)), (1, .inl (nI c))] ⟨rfl, rfl, rfl, rfl, trivial⟩ ?_
    exact tail _ _ h1 k1 (if_pos h29).symm v20 v14 v17
  · refine p_aload_n e_TM_endd_32 rfl ?_
    refine p_aload_n e_TM_endd_33 rfl ?_
    refine p_gIv 68 e_TM_endd_34 f_TM_224 rfl rfl (by assumption) v16 ?_
    refine p_pI 387 e_TM_endd_37 f_TM_183 rfl rfl (fun q h => by cases h; exact Or.inl rfl) rfl (by assumption) ?_
    refine Wp.lv [(3, .inr (Y (100 + (2 * c + b)))), (2, .inr (Y (200 + c))), (0, .inr (Y 0)), (1, .inl (nI c))] ⟨rfl, rfl, rfl, rfl, trivial⟩ ?_
    exact tail _ _ (cw_387 h1 hi) (k1.tr (HK.put (Or.inl (by omega)))) (if_neg h29).symm v20 v14 v17
set_option maxHeartbeats 4000000 in
theorem sp_ask {c : Nat} (hc : c < N) (hn : ∀ x, x ≤ N + 1 → ln (akA A c (rwk A c) (sv A 15 c) x) ≤ 67) (hh : hs.length ≤ 1) (h : CRx N Y bd hs σ A f m g rf) (hP : ∀ σ' f' m' g', CRx N Y bd hs σ' (akA A c (rwk A c) (sv A 15 c) (N + 1)) f' m' g' rf → HK (Y 4) σ σ' hs → P none σ') : Ctr m_TM_ask 9 [.inr (Y 0), .inl (nI c)] σ P := by
  obtain ⟨a0, ⟨b1, b2, b3, b4, b5, b6, b7, b8, b9⟩, -, ⟨d1, d2, d3⟩, -⟩ := h.1
  have loop : ∀ k x, x + k = N + 1 → ∀ (σ1 : PS) (m1 : Nat) (f1 g1 : Nat → Nat), CRx N Y bd hs σ1 (akA A c (rwk A c) (sv A 15 c) x) f1 m1 g1 rf → HK (Y 4) σ σ1 hs → Wp m_TM_ask 9 9 [(3, .inl (nI x)), (2, .inr (Y (200 + c))), (0, .inr (Y 0)), (1, .inl (nI c))] [] σ1 (fun v σ' => RV m_TM_ask.2.2.2 v ∧ P v σ') := by
    intro k
    induction k with
    | zero =>
      intro x hx σ1 m1 f1 g1 hc1 hk1
      have tx1 : tg σ1 (Y 0) = 8 := hc1.1.2.1.1
      have u3 : fi σ1 449 (Y 0) = nI N := hc1.1.2.1.2.2.1
      refine p_iload_n e_TM_ask_9 rfl ?_
      refine p_aload_n e_TM_ask_10 rfl ?_
      refine p_gIv 449 e_TM_ask_11 f_TM_23 rfl rfl (by assumption) u3 ?_
      refine p_icmp_gt (tgt := 54) e_TM_ask_14 (by decide) (fun _ => ?_) (fun hx => absurd (nI_lt (by omega) (by omega)) hx)
      refine p_ret e_TM_ask_54 (rv_v ?_)
      have ex : x = N + 1 := by omega
      subst ex
      exact hP _ _ _ _ hc1 hk1
    | succ k ih =>
      intro x hx σ1 m1 f1 g1 hc1 hk1
      have tx1 : tg σ1 (Y 0) = 8 := hc1.1.2.1.1
      have u3 : fi σ1 449 (Y 0) = nI N := hc1.1.2.1.2.2.1
      have u9 : fr σ1 457 (Y 0) = Y 5 := hc1.1.2.1.2.2.2.2.2.2.2.2
      have t5 := (hc1.1.2.2.2.2.2.2.1).1
      have tc1 : tg σ1 (Y (200 + c)) = 2 := hc1.1.co hc
      have w13 : fi σ1 66 (Y (200 + c)) = sv A 13 c := (hc1.2.2.2.1.2.2.1 c hc).trans (sv_akA (by omega) x)
      have w15 : fi σ1 67 (Y (200 + c)) = sv A 15 c := (hc1.2.2.2.1.2.2.2.1 c hc).trans (sv_akA (by omega) x)
      refine p_iload_n e_TM_ask_9 rfl ?_
      refine p_aload_n e_TM_ask_10 rfl ?_
      refine p_gIv 449 e_TM_ask_11 f_TM_23 rfl rfl (by assumption) u3 ?_
      refine p_icmp_gt (tgt := 54) e_TM_ask_14 (by decide) (fun hx => absurd hx (nI_nlt (by omega) (by omega))) (fun _ => ?_)
      refine p_iload_n e_TM_ask_17 rfl ?_
      refine p_iload_n e_TM_ask_18 rfl ?_
      have next : ∀ (σ2 : PS) (m2 : Nat) (f2 g2 : Nat → Nat), CRx N Y bd hs σ2 (akA A c (rwk A c) (sv A 15 c) (x + 1)) f2 m2 g2 rf → HK (Y 4) σ σ2 hs → Wp m_TM_ask 9 48 [(3, .inl (nI x)), (2, .inr (Y (200 + c))), (0, .inr (Y 0)), (1, .inl (nI c))] [] σ2 (fun v σ' => RV m_TM_ask.2.2.2 v ∧ P v σ') := by
        intro σ2 m2 f2 g2 hc2 hk2
        refine p_iinc e_TM_ask_48 rfl rfl (by decide) ?_
        refine p_goto (tgt := 9) e_TM_ask_51 (by decide) ?_
        refine Wp.lv [(3, .inl (nI (x + 1))), (2, .inr (Y (200 + c))), (0, .inr (Y 0)), (1, .inl (nI c))] ⟨congrArg (fun z => some (Sum.inl z)) (nI_1 x), rfl, rfl, rfl, trivial⟩ ?_
        exact ih (x + 1) (by omega) σ2 m2 f2 g2 hc2 hk2
      by_cases e : x = c
      · refine p_icmp_eq (tgt := 48) e_TM_ask_19 (by decide) (fun _ => ?_) (fun hx => absurd (by rw [e]) hx)
        refine next σ1 m1 f1 g1 ?_ hk1
        unfold akA
        rw [if_pos e]
        exact hc1
      · refine p_icmp_eq (tgt := 48) e_TM_ask_19 (by decide) (fun hx => absurd hx (fun q => e ((nI_eq (by omega) (by omega)).mp q))) (fun _ => ?_)
        have ek : akA A c (rwk A c) (sv A 15 c) (x + 1) = sdL (akA A c (rwk A c) (sv A 15 c) x) (rwk A c) (nI c) (nI x) (sv A 15 c) := by
          rw [akA, if_neg e]
        rw [ek] at next
        have snd : Wp m_TM_ask 9 38 [(3, .inl (nI x)), (2, .inr (Y (200 + c))), (0, .inr (Y 0)), (1, .inl (nI c))] [.inl (rwk A c), .inr (Y 5)] σ1 (fun v σ' => RV m_TM_ask.2.2.2 v ∧ P v σ') := by
          refine p_iload_n e_TM_ask_38 rfl ?_
          refine p_iload_n e_TM_ask_39 rfl ?_
          refine p_aload_n e_TM_ask_40 rfl ?_
          refine p_gIv 67 e_TM_ask_41 f_TM_222 rfl rfl (by assumption) w15 ?_
          refine p_inv (ci := 4) (d' := 8) [_, _, _, _] _ e_TM_ask_44 c_TM_225 k_Mail_send i_Mail_send s_Mail_send rfl rfl (by assumption) rfl rfl (Nat.le_of_ble_eq_true rfl) (Nat.le_of_ble_eq_true rfl) ?_
          refine sp_send (hn x (by omega)) hh hc1 (fun σ2 f2 m2 g2 hc2 hk2 => ?_)
          refine p_pop e_TM_ask_47 ?_
          exact next σ2 m2 f2 g2 hc2 (hk1.tr hk2)
        refine p_aload_n e_TM_ask_22 rfl ?_
        refine p_gRv 457 e_TM_ask_23 f_TM_67 rfl rfl (by assumption) u9 ?_
        refine p_aload_n e_TM_ask_26 rfl ?_
        refine p_gIv 66 e_TM_ask_27 f_TM_223 rfl rfl (by assumption) w13 ?_
        refine p_if_eq (tgt := 37) e_TM_ask_30 (by decide) (fun h30 => ?_) (fun h30 => ?_)
        · have er : rwk A c = 1 := if_pos h30
          rw [er] at snd
          refine p_iconst (x := 1) e_TM_ask_37 (by decide) ?_
          exact snd
        · have er : rwk A c = 2 := if_neg h30
          rw [er] at snd
          refine p_iconst (x := 2) e_TM_ask_33 (by decide) ?_
          refine p_goto (tgt := 38) e_TM_ask_34 (by decide) ?_
          exact snd
  refine Ctr.of y_TM_ask (Nat.le_of_ble_eq_true rfl) ?_
  refine p_aload_n e_TM_ask_0 rfl ?_
  refine p_gRv 454 e_TM_ask_1 f_TM_38 rfl rfl (by assumption) b6 ?_
  refine p_iload_n e_TM_ask_4 rfl ?_
  refine p_aaldv e_TM_ask_5 (ti := 4) (n := c) (v := Y (200 + c)) (by decide) d1 rfl (by omega) (by omega) (d3 c hc).1 ?_
  refine p_astore_n e_TM_ask_6 (by decide) ?_
  refine p_iconst (x := 0) e_TM_ask_7 (by decide) ?_
  refine p_istore_n e_TM_ask_8 (by decide) ?_
  exact Wp.lv [(3, .inl (nI 0)), (2, .inr (Y (200 + c))), (0, .inr (Y 0)), (1, .inl (nI c))] ⟨rfl, rfl, rfl, rfl, trivial⟩ (loop (N + 1) 0 (by omega) σ m f g h HK.rf)
set_option maxHeartbeats 4000000 in
theorem sp_askAgain {c : Nat} (hc : c < N) (hw : sv A 13 c = 0 ∨ sv A 13 c = 1) (hn0 : ln A ≤ 67) (hn : ∀ x, x ≤ N + 1 → ln (akA (set1 (set1 A 18 c (sv A 18 c + 1)) 19 c (sv A 4 0 + sv A 3 0)) c (rwk A c) (sv A 15 c) x) ≤ 67) (hh : hs.length ≤ 1) (h : CRx N Y bd hs σ A f m g rf) (hP : ∀ σ' f' m' g', CRx N Y bd hs σ' (agA N A c) f' m' g' rf → HK (Y 4) σ σ' hs → P none σ') : Ctr m_TM_askAgain 10 [.inr (Y 0), .inl (nI c)] σ P := by
  obtain ⟨a0, ⟨b1, b2, b3, b4, b5, b6, b7, b8, b9⟩, -, ⟨d1, d2, d3⟩, -⟩ := h.1
  have tc : tg σ (Y (200 + c)) = 2 := h.1.co hc
  obtain ⟨o1, o2, o3, o4, o5, o6, o7, o8, o9, o10⟩ := h.2.2.2.1
  obtain ⟨p1, p2, p3, p4⟩ := h.2.2.2.2.1
  have v18 := o6 c hc
  refine Ctr.of y_TM_askAgain (Nat.le_of_ble_eq_true rfl) ?_
  refine p_aload_n e_TM_askAgain_0 rfl ?_
  refine p_gRv 454 e_TM_askAgain_1 f_TM_38 rfl rfl (by assumption) b6 ?_
  refine p_iload_n e_TM_askAgain_4 rfl ?_
  refine p_aaldv e_TM_askAgain_5 (ti := 4) (n := c) (v := Y (200 + c)) (by decide) d1 rfl (by omega) (by omega) (d3 c hc).1 ?_
  refine p_astore_n e_TM_askAgain_6 (by decide) ?_
  refine p_aload_n e_TM_askAgain_7 rfl ?_
  refine p_gIv 69 e_TM_askAgain_8 f_TM_199 rfl rfl (by assumption) v18 ?_
  refine p_aload_n e_TM_askAgain_11 rfl ?_
  refine p_gIv 451 e_TM_askAgain_12 f_TM_17 rfl rfl (by assumption) p1 ?_
  unfold agA at hP
  refine p_icmp_ge (tgt := 47) e_TM_askAgain_15 (by decide) (fun h15 => ?_) (fun h15 => ?_)
  · rw [if_neg (Int32.not_lt.mpr h15)] at hP
    have h1 := cw_71 (v := 1) h hc
    have v15 : fi (pfi σ 71 (Y (200 + c)) 1) 67 (Y (200 + c)) = sv A 15 c := o4 c hc
    refine p_aload_n e_TM_askAgain_47 rfl ?_
    refine p_iconst (x := 1) e_TM_askAgain_48 (by decide) ?_
    refine p_pZ 71 e_TM_askAgain_49 f_TM_202 rfl rfl (fun q h => by cases h; exact Or.inl rfl) rfl (by assumption) (by first | assumption | exact Or.inl rfl | exact Or.inr rfl) ?_
    refine p_aload_n e_TM_askAgain_52 rfl ?_
    refine p_gRv 457 e_TM_askAgain_53 f_TM_67 rfl rfl (by assumption) b9 ?_
    refine p_iconst (x := 4) e_TM_askAgain_56 (by decide) ?_
    refine p_iload_n e_TM_askAgain_57 rfl ?_
    refine p_aload_n e_TM_askAgain_58 rfl ?_
    refine p_gIv 449 e_TM_askAgain_59 f_TM_23 rfl rfl (by assumption) b3 ?_
    refine p_aload_n e_TM_askAgain_62 rfl ?_
    refine p_gIv 67 e_TM_askAgain_63 f_TM_222 rfl rfl (by assumption) v15 ?_
    refine p_inv (ci := 4) (d' := 8) [_, _, _, _] _ e_TM_askAgain_66 c_TM_225 k_Mail_send i_Mail_send s_Mail_send rfl rfl ((h1.1.2.2.2.2.2.2.1).1) rfl rfl (Nat.le_of_ble_eq_true rfl) (Nat.le_of_ble_eq_true rfl) ?_
    refine sp_send (A := set1 A 14 c 1) (kd := 4) (fm := nI c) (to := nI N) (bl := sv A 15 c) hn0 hh h1 (fun σ3 f3 m3 g3 hc3 hk3 => ?_)
    have hl : ln (dpL (set1 A 14 c 1) 4 (nI c) (nI N) (sv A 15 c)) < ln (sdL (set1 A 14 c 1) 4 (nI c) (nI N) (sv A 15 c)) := by rw [ln_sdL]; exact Nat.lt_succ_self _
    have tl : tg σ3 (f3 (ln (dpL (set1 A 14 c 1) 4 (nI c) (nI N) (sv A 15 c)))) = 4 := (hc3.2.2.2.2.2.1.2.2.1 _ hl).1
    have tc3 : tg σ3 (Y (200 + c)) = 2 := hc3.1.co hc
    have nh : f3 (ln (dpL (set1 A 14 c 1) 4 (nI c) (nI N) (sv A 15 c))) ∉ hs := fun z => (hc3.2.2.2.2.2.1.2.2.2.2.2.2.2.1 _ z).2.1 _ hl rfl
    have w17 : fi σ3 64 (Y (200 + c)) = sv A 17 c := (hc3.2.2.2.1.1 c hc).trans (sv_sdL (by omega))
    have w13 : fi σ3 66 (Y (200 + c)) = sv A 13 c := (hc3.2.2.2.1.2.2.1 c hc).trans (sv_sdL (by omega))
    refine p_astore_n e_TM_askAgain_69 (by decide) ?_
    refine p_aload_n e_TM_askAgain_70 rfl ?_
    refine p_aload_n e_TM_askAgain_71 rfl ?_
    refine p_gIv 64 e_TM_askAgain_72 f_TM_229 rfl rfl (by assumption) w17 ?_
    refine p_pI 200 e_TM_askAgain_75 f_TM_139 rfl rfl (fun q h => by cases h; exact Or.inl rfl) rfl (by assumption) ?_
    refine p_aload_n e_TM_askAgain_78 rfl ?_
    refine p_aload_n e_TM_askAgain_79 rfl ?_
    refine p_gIv 66 e_TM_askAgain_80 f_TM_223 rfl rfl (by assumption) w13 ?_
    refine p_pZ 202 e_TM_askAgain_83 f_TM_142 rfl rfl (fun q h => by cases h; exact Or.inl rfl) rfl (by assumption) (by first | assumption | exact Or.inl rfl | exact Or.inr rfl) ?_
    refine p_ret e_TM_askAgain_86 (rv_v ?_)
    have k1 : HK (Y 4) σ (pfi σ 71 (Y (200 + c)) 1) hs := HK.put (Or.inl (by omega))
    exact hP _ _ _ _ (cl_202 (cl_200 hc3 hl) hl) (((k1.tr hk3).tr (HK.put (Or.inr nh))).tr (HK.put (Or.inr nh)))
  · rw [if_pos (Int32.not_le.mp h15)] at hP
    have h1 := cw_69 (v := sv A 18 c + 1) h hc
    refine p_aload_n e_TM_askAgain_18 rfl ?_
    refine p_dup e_TM_askAgain_19 ?_
    refine p_gIv 69 e_TM_askAgain_20 f_TM_199 rfl rfl (by assumption) v18 ?_
    refine p_iconst (x := 1) e_TM_askAgain_23 (by decide) ?_
    refine p_iadd e_TM_askAgain_24 ?_
    refine p_pI 69 e_TM_askAgain_25 f_TM_199 rfl rfl (fun q h => by cases h; exact Or.inl rfl) rfl (by assumption) ?_
    refine p_aload_n e_TM_askAgain_28 rfl ?_
    refine p_aload_n e_TM_askAgain_29 rfl ?_
    refine p_gIv 458 e_TM_askAgain_30 f_TM_92 rfl rfl (by assumption) p3 ?_
    refine p_aload_n e_TM_askAgain_33 rfl ?_
    refine p_gIv 452 e_TM_askAgain_34 f_TM_20 rfl rfl (by assumption) p2 ?_
    refine p_iadd e_TM_askAgain_37 ?_
    refine p_pI 70 e_TM_askAgain_38 f_TM_95 rfl rfl (fun q h => by cases h; exact Or.inl rfl) rfl (by assumption) ?_
    refine p_aload_n e_TM_askAgain_41 rfl ?_
    refine p_iload_n e_TM_askAgain_42 rfl ?_
    have h2 := cw_70 (v := sv A 4 0 + sv A 3 0) h1 hc
    have k2 : HK (Y 4) σ (pfi (pfi σ 69 (Y (200 + c)) (sv A 18 c + 1)) 70 (Y (200 + c)) (sv A 4 0 + sv A 3 0)) hs := (HK.put (Or.inl (by omega))).tr (HK.put (Or.inl (by omega)))
    refine p_inv (ci := 7) (d' := 9) [_] _ e_TM_askAgain_43 c_TM_98 k_TM_ask i_TM_ask s_TM_ask rfl rfl (by assumption) rfl rfl (Nat.le_of_ble_eq_true rfl) (Nat.le_of_ble_eq_true rfl) ?_
    refine sp_ask hc hn hh h2 (fun σ3 f3 m3 g3 hc3 hk3 => ?_)
    refine p_ret e_TM_askAgain_46 (rv_v ?_)
    exact hP _ _ _ _ hc3 (k2.tr hk3)
end TM2
