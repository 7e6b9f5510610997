/-! giving, giving way, ending, asking -/
section Rows46
variable {M : MM} {d pc : Nat} {lv : List (Nat × PV)} {st : List PV} {σ : PS} {P : Option PV → PS → Prop}
theorem p_aaldv {ti r : Nat} {j : Int32} {n v : Nat} (hd : decode M.2.1 pc = .ok (.aaload, 1)) (hti : 2 ≤ ti ∧ ti < 6) (ht : tg σ r = 100 + ti) (hj : j = nI n) (hn : n < al σ r) (hb : n < 2 ^ 31) (hv : ar σ r n = v) (kk : Wp M d (pc + 1) lv (.inr v :: st) σ P) : Wp M d pc lv (.inl j :: .inr r :: st) σ P := by
  subst hv; exact p_aald hd hti ht hj hn hb kk
theorem p_ialdv {r : Nat} {j : Int32} {n : Nat} {v : Int32} (hd : decode M.2.1 pc = .ok (.iaload, 1)) (ht : tg σ r = 100) (hj : j = nI n) (hn : n < al σ r) (hb : n < 2 ^ 31) (hv : ai σ r n = v) (kk : Wp M d (pc + 1) lv (.inl v :: st) σ P) : Wp M d pc lv (.inl j :: .inr r :: st) σ P := by
  subst hv; exact p_iald hd ht hj hn hb kk
end Rows46
theorem sv_dpL {A : AS} {kd fm to bl : Int32} {k j : Nat} (hk : ¬ (29 ≤ k ∧ k < 40)) : sv (dpL A kd fm to bl) k j = sv A k j := by
  by_cases h3 : kd = 3
  · subst h3; rw [dpL_3]
  · by_cases h : ∃ i, fdL A kd fm to bl i
    · obtain ⟨i, hi⟩ := h
      rw [dpL_at h3 hi, sv_rmL, if_neg (fun z => hk z.1)]
    · unfold dpL
      rw [if_neg h3, dif_neg h]
theorem sv_sdL {A : AS} {kd fm to bl : Int32} {k j : Nat} (hk : ¬ (29 ≤ k ∧ k < 40)) : sv (sdL A kd fm to bl) k j = sv A k j := by
  unfold sdL
  rw [sv_apL, if_neg (fun z => hk z.1), sv_dpL hk]
/-- x gives to 'to' -/
noncomputable def gvA (A : AS) (x b : Nat) (to many ow wd : Int32) : AS := if many = 0 then A else
  set1 (set1 (set1 (set1 (set1 (set1 (set1 (sdL A 3 (nI x) to (nI b)) 33 (ln A) many) 34 (ln A) ow) 35 (ln A) wd) 36 (ln A) (sv A 8 (2 * x + b))) 5 (2 * x + b) (sv A 5 (2 * x + b) - many)) 6 (2 * x + b) (if sv A 6 (2 * x + b) ≠ 0 ∧ ow = 0 then 1 else 0)) 7 (2 * x + b) (if sv A 7 (2 * x + b) ≠ 0 ∧ 0 < sv A 5 (2 * x + b) - many then 1 else 0)
noncomputable def gwA (A : AS) (x b : Nat) : AS := if sv A 9 (2 * x + b) = -1 ∨ sv A 9 (2 * x + b) = nI x then A else if sv A 10 (2 * x + b) ≠ 0 then gvA A x b (sv A 9 (2 * x + b)) (sv A 5 (2 * x + b)) (sv A 6 (2 * x + b)) (sv A 6 (2 * x + b)) else if sv A 6 (2 * x + b) ≠ 0 then gvA A x b (sv A 9 (2 * x + b)) 1 1 1 else A
section TM1
variable {N : Nat} {Y : Nat → Nat} {bd : Nat × Nat × Nat} {hs : List Nat} {σ : PS} {A : AS} {f : Nat → Nat} {m : Nat} {g : Nat → Nat} {rf : Nat → Nat → Nat} {P : Option PV → PS → Prop}
theorem Lay.share (h : Lay N Y σ) {x b : Nat} (hx : x ≤ N) (hb : b < 2) (hP : P (some (.inr (Y (100 + (2 * x + b))))) σ) : Ctr m_TM_share 1 [.inr (Y 0), .inl (nI x), .inl (nI b)] σ P := by
  obtain ⟨a0, ⟨b1, b2, b3, b4, b5, -⟩, ⟨c1, c2, c3⟩, -⟩ := h
  exact sp_share b1 b5 c1 (by omega) (by omega) (c3 (2 * x + b) (by omega)).1 hP
set_option maxHeartbeats 4000000 in
theorem sp_give {x b : Nat} {to many ow wd : Int32} (hx : x ≤ N) (hb : b < 2) (how : ow = 0 ∨ ow = 1) (hwd : wd = 0 ∨ wd = 1) (hn : ln A ≤ 67) (hh : hs.length ≤ 1) (h : CRx N Y bd hs σ A f m g rf) (hP : ∀ σ' f' m' g', CRx N Y bd hs σ' (gvA A x b to many ow wd) f' m' g' rf → HK (Y 4) σ σ' hs → P none σ') : Ctr m_TM_give 9 [.inr (Y 0), .inl (nI x), .inl to, .inl (nI b), .inl many, .inl ow, .inl wd] σ P := by
  obtain ⟨a0, ⟨b1, b2, b3, b4, b5, b6, b7, b8, b9⟩, -⟩ := h.1
  have hi : 2 * x + b < 2 * N + 2 := by omega
  refine Ctr.of y_TM_give (Nat.le_of_ble_eq_true rfl) ?_
  refine p_iload e_TM_give_0 rfl ?_
  refine p_if_ne (tgt := 6) e_TM_give_2 (by decide) (fun h2 => ?_) (fun h2 => ?_)
  · refine p_aload_n e_TM_give_6 rfl ?_
    refine p_iload_n e_TM_give_7 rfl ?_
    refine p_iload_n e_TM_give_8 rfl ?_
    refine p_inv (ci := 7) (d' := 1) [_, _] _ e_TM_give_9 c_TM_159 k_TM_share i_TM_share s_TM_share rfl rfl (by assumption) rfl rfl (Nat.le_of_ble_eq_true rfl) (Nat.le_of_ble_eq_true rfl) ?_
    refine h.1.share hx hb ?_
    have ts : tg σ (Y (100 + (2 * x + b))) = 7 := h.1.sh hi
    refine p_astore e_TM_give_12 (by decide) ?_
    refine p_aload_n e_TM_give_14 rfl ?_
    refine p_gRv 457 e_TM_give_15 f_TM_67 rfl rfl (by assumption) b9 ?_
    refine p_iconst (x := 3) e_TM_give_18 (by decide) ?_
    refine p_iload_n e_TM_give_19 rfl ?_
    refine p_iload_n e_TM_give_20 rfl ?_
    refine p_iload_n e_TM_give_21 rfl ?_
    refine p_inv (ci := 4) (d' := 8) [_, _, _, _] _ e_TM_give_22 c_TM_225 k_Mail_send i_Mail_send s_Mail_send rfl rfl ((h.1.2.2.2.2.2.2.1).1) rfl rfl (Nat.le_of_ble_eq_true rfl) (Nat.le_of_ble_eq_true rfl) ?_
    refine sp_send (kd := 3) hn hh h (fun σ1 f1 m1 g1 hc hk => ?_)
    rw [dpL_3]
    have hl : ln A < ln (sdL A 3 (nI x) to (nI b)) := by unfold sdL; rw [dpL_3]; exact Nat.lt_succ_self _
    have tl : tg σ1 (f1 (ln A)) = 4 := (hc.2.2.2.2.2.1.2.2.1 _ hl).1
    have ts1 : tg σ1 (Y (100 + (2 * x + b))) = 7 := hc.1.sh hi
    have v8 : fi σ1 387 (Y (100 + (2 * x + b))) = sv A 8 (2 * x + b) := (hc.2.2.1.2.2.2.1 _ hi).trans (sv_sdL (by omega))
    have v5 : fi σ1 384 (Y (100 + (2 * x + b))) = sv A 5 (2 * x + b) := (hc.2.2.1.1 _ hi).trans (sv_sdL (by omega))
    have v6 : fi σ1 385 (Y (100 + (2 * x + b))) = sv A 6 (2 * x + b) := (hc.2.2.1.2.1 _ hi).trans (sv_sdL (by omega))
    have v7 : fi σ1 386 (Y (100 + (2 * x + b))) = sv A 7 (2 * x + b) := (hc.2.2.1.2.2.1 _ hi).trans (sv_sdL (by omega))
    have nh : f1 (ln A) ∉ hs := fun z => (hc.2.2.2.2.2.1.2.2.2.2.2.2.2.1 _ z).2.1 _ hl rfl
    refine p_astore e_TM_give_25 (by decide) ?_
    refine p_aload e_TM_give_27 rfl ?_
    refine p_iload e_TM_give_29 rfl ?_
    refine p_pI 196 e_TM_give_31 f_TM_230 rfl rfl (fun q h => by cases h; exact Or.inl rfl) rfl (by assumption) ?_
    refine p_aload e_TM_give_34 rfl ?_
    refine p_iload e_TM_give_36 rfl ?_
    refine p_pZ 197 e_TM_give_38 f_TM_211 rfl rfl (fun q h => by cases h; exact Or.inl rfl) rfl (by assumption) (by first | assumption | exact Or.inl rfl | exact Or.inr rfl) ?_
    refine p_aload e_TM_give_41 rfl ?_
    refine p_iload e_TM_give_43 rfl ?_
    refine p_pZ 198 e_TM_give_45 f_TM_231 rfl rfl (fun q h => by cases h; exact Or.inl rfl) rfl (by assumption) (by first | assumption | exact Or.inl rfl | exact Or.inr rfl) ?_
    refine p_aload e_TM_give_48 rfl ?_
    refine p_aload e_TM_give_50 rfl ?_
    refine p_gIv 387 e_TM_give_52 f_TM_183 rfl rfl (by assumption) v8 ?_
    refine p_pI 199 e_TM_give_55 f_TM_212 rfl rfl (fun q h => by cases h; exact Or.inl rfl) rfl (by assumption) ?_
    refine p_aload e_TM_give_58 rfl ?_
    refine p_iload e_TM_give_60 rfl ?_
    refine p_iload e_TM_give_62 rfl ?_
    have h4 := cl_199 (v := sv A 8 (2 * x + b)) (cl_198 (v := wd) (cl_197 (v := ow) (cl_196 (v := many) hc hl) hl) hl) hl
    have k4 : HK (Y 4) σ (pfi (pfi (pfi (pfi σ1 196 (f1 (ln A)) many) 197 (f1 (ln A)) ow) 198 (f1 (ln A)) wd) 199 (f1 (ln A)) (sv A 8 (2 * x + b))) hs := (((hk.tr (HK.put (Or.inr nh))).tr (HK.put (Or.inr nh))).tr (HK.put (Or.inr nh))).tr (HK.put (Or.inr nh))
    refine p_inv (ci := 6) (d' := 1) [_, _] _ e_TM_give_64 c_TM_234 k_Share_lose i_Share_lose s_Share_lose rfl rfl (by assumption) rfl rfl (Nat.le_of_ble_eq_true rfl) (Nat.le_of_ble_eq_true rfl) ?_
    refine sp_Share_lose ts1 ?_
    refine p_ret e_TM_give_67 (rv_v ?_)
    have h7 := cw_386 (v := (if sv A 7 (2 * x + b) ≠ 0 ∧ 0 < sv A 5 (2 * x + b) - many then 1 else 0)) (cw_385 (v := (if sv A 6 (2 * x + b) ≠ 0 ∧ ow = 0 then 1 else 0)) (cw_384 (v := sv A 5 (2 * x + b) - many) h4 hi) hi) hi
    have e5 : fi (pfi (pfi (pfi (pfi σ1 196 (f1 (ln A)) many) 197 (f1 (ln A)) ow) 198 (f1 (ln A)) wd) 199 (f1 (ln A)) (sv A 8 (2 * x + b))) 384 (Y (100 + (2 * x + b))) = sv A 5 (2 * x + b) := v5
    have e6 : fi (pfi (pfi (pfi (pfi σ1 196 (f1 (ln A)) many) 197 (f1 (ln A)) ow) 198 (f1 (ln A)) wd) 199 (f1 (ln A)) (sv A 8 (2 * x + b))) 385 (Y (100 + (2 * x + b))) = sv A 6 (2 * x + b) := v6
    have e7 : fi (pfi (pfi (pfi (pfi σ1 196 (f1 (ln A)) many) 197 (f1 (ln A)) ow) 198 (f1 (ln A)) wd) 199 (f1 (ln A)) (sv A 8 (2 * x + b))) 386 (Y (100 + (2 * x + b))) = sv A 7 (2 * x + b) := v7
    rw [e5, e6, e7]
    have hg : gvA A x b to many ow wd = _ := if_neg h2
    rw [hg] at hP
    exact hP _ f1 m1 g1 h7 (((k4.tr (HK.put (Or.inl (by omega)))).tr (HK.put (Or.inl (by omega)))).tr (HK.put (Or.inl (by omega))))
  · refine p_ret e_TM_give_5 (rv_v ?_)
    have hg : gvA A x b to many ow wd = A := if_pos h2
    rw [hg] at hP
    exact hP σ f m g h HK.rf
set_option maxHeartbeats 4000000 in
theorem sp_giveWay {x b : Nat} (hx : x ≤ N) (hb : b < 2) (how : sv A 6 (2 * x + b) = 0 ∨ sv A 6 (2 * x + b) = 1) (hn : ln A ≤ 67) (hh : hs.length ≤ 1) (h : CRx N Y bd hs σ A f m g rf) (hP : ∀ σ' f' m' g', CRx N Y bd hs σ' (gwA A x b) f' m' g' rf → HK (Y 4) σ σ' hs → P none σ') : Ctr m_TM_giveWay 10 [.inr (Y 0), .inl (nI x), .inl (nI b)] σ P := by
  obtain ⟨a0, ⟨b1, b2, b3, b4, b5, b6, b7, b8, b9⟩, -⟩ := h.1
  have hi : 2 * x + b < 2 * N + 2 := by omega
  have ts : tg σ (Y (100 + (2 * x + b))) = 7 := h.1.sh hi
  obtain ⟨s1, s2, s3, s4, s5, s6, s7⟩ := h.2.2.1
  have v5 := s1 _ hi
  have v6 := s2 _ hi
  have v9 := s5 _ hi
  have v10 := s6 _ hi
  unfold gwA at hP
  refine Ctr.of y_TM_giveWay (Nat.le_of_ble_eq_true rfl) ?_
  refine p_aload_n e_TM_giveWay_0 rfl ?_
  refine p_iload_n e_TM_giveWay_1 rfl ?_
  refine p_iload_n e_TM_giveWay_2 rfl ?_
  refine p_inv (ci := 7) (d' := 1) [_, _] _ e_TM_giveWay_3 c_TM_159 k_TM_share i_TM_share s_TM_share rfl rfl (by assumption) rfl rfl (Nat.le_of_ble_eq_true rfl) (Nat.le_of_ble_eq_true rfl) ?_
  refine h.1.share hx hb ?_
  refine p_astore_n e_TM_giveWay_6 (by decide) ?_
  refine p_aload_n e_TM_giveWay_7 rfl ?_
  refine p_gIv 388 e_TM_giveWay_8 f_TM_186 rfl rfl (by assumption) v9 ?_
  refine p_iconst (x := (-1)) e_TM_giveWay_11 (by decide) ?_
  refine p_icmp_eq (tgt := 23) e_TM_giveWay_12 (by decide) (fun h12 => ?_) (fun h12 => ?_)
  · refine p_ret e_TM_giveWay_23 (rv_v ?_)
    rw [if_pos (Or.inl h12)] at hP
    exact hP σ f m g h HK.rf
  refine p_aload_n e_TM_giveWay_15 rfl ?_
  refine p_gIv 388 e_TM_giveWay_16 f_TM_186 rfl rfl (by assumption) v9 ?_
  refine p_iload_n e_TM_giveWay_19 rfl ?_
  refine p_icmp_ne (tgt := 24) e_TM_giveWay_20 (by decide) (fun h20 => ?_) (fun h20 => ?_)
  · rw [if_neg (by rintro (q | q); exact h12 q; exact h20 q)] at hP
    refine p_aload_n e_TM_giveWay_24 rfl ?_
    refine p_gIv 389 e_TM_giveWay_25 f_TM_189 rfl rfl (by assumption) v10 ?_
    refine p_if_eq (tgt := 56) e_TM_giveWay_28 (by decide) (fun h28 => ?_) (fun h28 => ?_)
    · rw [if_neg (fun q => q h28)] at hP
      refine p_aload_n e_TM_giveWay_56 rfl ?_
      refine p_gIv 385 e_TM_giveWay_57 f_TM_57 rfl rfl (by assumption) v6 ?_
      refine p_if_eq (tgt := 76) e_TM_giveWay_60 (by decide) (fun h60 => ?_) (fun h60 => ?_)
      · rw [if_neg (fun q => q h60)] at hP
        refine p_ret e_TM_giveWay_76 (rv_v ?_)
        exact hP σ f m g h HK.rf
      · rw [if_pos h60] at hP
        refine p_aload_n e_TM_giveWay_63 rfl ?_
        refine p_iload_n e_TM_giveWay_64 rfl ?_
        refine p_aload_n e_TM_giveWay_65 rfl ?_
        refine p_gIv 388 e_TM_giveWay_66 f_TM_186 rfl rfl (by assumption) v9 ?_
        refine p_iload_n e_TM_giveWay_69 rfl ?_
        refine p_iconst (x := 1) e_TM_giveWay_70 (by decide) ?_
        refine p_iconst (x := 1) e_TM_giveWay_71 (by decide) ?_
        refine p_iconst (x := 1) e_TM_giveWay_72 (by decide) ?_
        refine p_inv (ci := 7) (d' := 9) [_, _, _, _, _, _] _ e_TM_giveWay_73 c_TM_166 k_TM_give i_TM_give s_TM_give rfl rfl (by assumption) rfl rfl (Nat.le_of_ble_eq_true rfl) (Nat.le_of_ble_eq_true rfl) ?_
        refine sp_give hx hb (Or.inr rfl) (Or.inr rfl) hn hh h (fun σ1 f1 m1 g1 hc hk => ?_)
        refine p_ret e_TM_giveWay_76 (rv_v ?_)
        exact hP σ1 f1 m1 g1 hc hk
    · rw [if_pos h28] at hP
      refine p_aload_n e_TM_giveWay_31 rfl ?_
      refine p_iload_n e_TM_giveWay_32 rfl ?_
      refine p_aload_n e_TM_giveWay_33 rfl ?_
      refine p_gIv 388 e_TM_giveWay_34 f_TM_186 rfl rfl (by assumption) v9 ?_
      refine p_iload_n e_TM_giveWay_37 rfl ?_
      refine p_aload_n e_TM_giveWay_38 rfl ?_
      refine p_gIv 384 e_TM_giveWay_39 f_TM_54 rfl rfl (by assumption) v5 ?_
      refine p_aload_n e_TM_giveWay_42 rfl ?_
      refine p_gIv 385 e_TM_giveWay_43 f_TM_57 rfl rfl (by assumption) v6 ?_
      refine p_aload_n e_TM_giveWay_46 rfl ?_
      refine p_gIv 385 e_TM_giveWay_47 f_TM_57 rfl rfl (by assumption) v6 ?_
      refine p_inv (ci := 7) (d' := 9) [_, _, _, _, _, _] _ e_TM_giveWay_50 c_TM_166 k_TM_give i_TM_give s_TM_give rfl rfl (by assumption) rfl rfl (Nat.le_of_ble_eq_true rfl) (Nat.le_of_ble_eq_true rfl) ?_
      refine sp_give hx hb how how hn hh h (fun σ1 f1 m1 g1 hc hk => ?_)
      refine p_goto (tgt := 76) e_TM_giveWay_53 (by decide) ?_
      refine p_ret e_TM_giveWay_76 (rv_v ?_)
      exact hP σ1 f1 m1 g1 hc hk
  · refine p_ret e_TM_giveWay_23 (rv_v ?_)
    rw [if_pos (Or.inr h20)] at hP
    exact hP σ f m g h HK.rf
end TM1
