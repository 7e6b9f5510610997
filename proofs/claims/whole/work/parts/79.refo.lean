/-! the reference: making active, lapsing, PLEASE -/
section RefO
variable {M : MM} {d pc : Nat} {lv : List (Nat × PV)} {st : List PV} {σ : PS} {P : Option PV → PS → Prop} {N m T : Nat} {Z : Nat → Nat} {σ0 : PS} {E D : Nat → Nat → Prop} {A : AS} {eb eo : Nat → Nat}
theorem sv_ln9 {i : Nat} {co w sr : Int32} : sv (lnA A i co w sr) 9 i = co := by unfold lnA; rw [sv_set1, if_neg (by omega), sv_set1, if_neg (by omega), sv_set1, if_pos ⟨rfl, rfl⟩]
theorem sv_ln10 {i : Nat} {co w sr : Int32} : sv (lnA A i co w sr) 10 i = w := by unfold lnA; rw [sv_set1, if_neg (by omega), sv_set1, if_pos ⟨rfl, rfl⟩]
theorem sv_ln11 {i : Nat} {co w sr : Int32} : sv (lnA A i co w sr) 11 i = sr := by unfold lnA; rw [sv_set1, if_pos ⟨rfl, rfl⟩]
theorem af_v {b : Nat} : sv (af1 A b) 40 b = sv A 22 (20 * b) ∧ sv (af1 A b) 41 b = sv A 24 (20 * b) ∧ sv (af1 A b) 42 b = sv A 42 b + 1 := by
  unfold af1
  refine ⟨?_, ?_, ?_⟩
  · rw [sv_set1, if_neg (by omega), sv_set1, if_neg (by omega), sv_set1, if_neg (by omega), sv_set1, if_pos ⟨rfl, rfl⟩]
  · rw [sv_set1, if_neg (by omega), sv_set1, if_pos ⟨rfl, rfl⟩]
  · rw [sv_set1, if_pos ⟨rfl, rfl⟩]
set_option maxHeartbeats 1000000 in
theorem sp_MM_activate {b : Nat} (hb : b < 2) (hI : IV N A eb eo) (hcp : sv A 42 b = sv A 11 (2 * N + b)) (hR : RR N m Z σ0 nD σ A) (hP : ∀ σ', RR N m Z σ0 nD σ' (afA N A b) → P none σ') : Ctr m_MM_activate 6 [.inr m, .inl (nI b)] σ P := by
  have hN := hR.2.hN
  have h5 := (hI.2.2.1 b hb).1
  refine Ctr.of y_MM_activate (Nat.le_of_ble_eq_true rfl) ?_
  refine p_aload_n e_MM_activate_0 rfl ?_
  refine x_gf 25 hR.2 e_MM_activate_1 f_MM_71 rfl rfl ?_
  refine p_iload_n e_MM_activate_4 rfl ?_
  refine r_lS hR e_MM_activate_5 (rfl) (by show _ < 2; omega) ?_
  by_cases hr : rn A b = 0
  · refine p_if_ne (tgt := 10) e_MM_activate_6 (by decide) (fun hx => absurd ((by rw [hr]; exact nI_0)) hx) (fun _ => ?_)
    refine p_ret e_MM_activate_9 (rv_v ?_)
    have e : afA N A b = A := if_pos hr
    exact hP _ (by rw [e]; exact hR)
  · refine p_if_ne (tgt := 10) e_MM_activate_6 (by decide) (fun _ => ?_) (fun hx => absurd hx (nI_ne0 (by omega) (by omega)))
    obtain ⟨⟨c, hc, q22⟩, q24⟩ := (hI.2.2.1 b hb).2 0 (by omega)
    have hco : sv A 22 (20 * b) = nI c := q22
    have hw : bz (sv A 24 (20 * b)) := q24
    have hne : sv A 22 (20 * b) ≠ -1 := by rw [hco]; intro q; exact absurd (nI_pos (n := c) (by omega)) (by rw [q]; simp [m1_lt])
    replace hR := hR.act (b := b) (co := sv A 22 (20 * b)) (w := sv A 24 (20 * b)) (sr := sv A 42 b + 1)
    refine p_iconst (x := 2) e_MM_activate_10 (by decide) ?_
    refine p_aload_n e_MM_activate_11 rfl ?_
    refine x_gN hR.2 e_MM_activate_12 f_MM_113 rfl ?_
    refine p_imul e_MM_activate_15 ?_
    refine p_iload_n e_MM_activate_16 rfl ?_
    refine p_iadd e_MM_activate_17 ?_
    refine p_top (at2) ?_
    refine p_istore_n e_MM_activate_18 (by decide) ?_
    refine p_aload_n e_MM_activate_19 rfl ?_
    refine x_gf 9 hR.2 e_MM_activate_20 f_MM_23 rfl rfl ?_
    refine p_iload_n e_MM_activate_23 rfl ?_
    refine p_aload_n e_MM_activate_24 rfl ?_
    refine x_gf 22 hR.2 e_MM_activate_25 f_MM_62 rfl rfl ?_
    refine p_bipush (x := 20) e_MM_activate_28 (by decide) ?_
    refine p_iload_n e_MM_activate_30 rfl ?_
    refine p_imul e_MM_activate_31 ?_
    refine p_top (at20a) ?_
    refine r_ldv 22 (v := sv A 22 (20 * b)) hR rfl (by decide) rfl e_MM_activate_32 (rfl) (by show _ < 40; omega) (hR.lr (b := b) (j := 0) (by decide) hb (show 0 < rn A b by omega) (by omega)) ((by rw [sv_set1, if_neg (by omega), sv_set1, if_neg (by omega), sv_set1, if_neg (by omega)])) ?_
    refine r_s9 hR e_MM_activate_33 rfl (by omega) (fun σ hR => ?_)
    refine p_aload_n e_MM_activate_34 rfl ?_
    refine x_gf 10 hR.2 e_MM_activate_35 f_MM_26 rfl rfl ?_
    refine p_iload_n e_MM_activate_38 rfl ?_
    refine p_aload_n e_MM_activate_39 rfl ?_
    refine x_gf 24 hR.2 e_MM_activate_40 f_MM_68 rfl rfl ?_
    refine p_bipush (x := 20) e_MM_activate_43 (by decide) ?_
    refine p_iload_n e_MM_activate_45 rfl ?_
    refine p_imul e_MM_activate_46 ?_
    refine p_top (at20a) ?_
    refine r_lbv 24 (v := sv A 24 (20 * b)) hR rfl (by decide) rfl e_MM_activate_47 (rfl) (by show _ < 40; omega) (hR.lr (b := b) (j := 0) (by decide) hb (show 0 < rn A b by omega) (by omega)) ((by rw [sv_set1, if_neg (by omega), sv_set1, if_neg (by omega), sv_set1, if_neg (by omega), sv_set1, if_neg (by omega)])) ?_
    refine r_sb 10 hR rfl rfl rfl e_MM_activate_48 rfl (by show _ < 10; omega) hw (fun σ hR => ?_)
    refine p_aload_n e_MM_activate_49 rfl ?_
    refine x_gf 26 hR.2 e_MM_activate_50 f_MM_74 rfl rfl ?_
    refine p_iload_n e_MM_activate_53 rfl ?_
    refine p_aload_n e_MM_activate_54 rfl ?_
    refine x_gf 23 hR.2 e_MM_activate_55 f_MM_65 rfl rfl ?_
    refine p_bipush (x := 20) e_MM_activate_58 (by decide) ?_
    refine p_iload_n e_MM_activate_60 rfl ?_
    refine p_imul e_MM_activate_61 ?_
    refine p_top (at20a) ?_
    refine r_ldv 23 (v := sv A 23 (20 * b)) hR rfl (by decide) rfl e_MM_activate_62 (rfl) (by show _ < 40; omega) (hR.lr (b := b) (j := 0) (by decide) hb (show 0 < rn A b by omega) (by omega)) ((by rw [sv_set1, if_neg (by omega), sv_set1, if_neg (by omega), sv_set1, if_neg (by omega), sv_set1, if_neg (by omega), sv_set1, if_neg (by omega)])) ?_
    refine r_st 26 hR rfl rfl rfl e_MM_activate_63 rfl (by show _ < 2; omega) (fun σ hR => ?_)
    replace hR : RR N m Z σ0 nD σ _ := hR.n0 (fun k i q => by omega)
    have s11 : sv (rmR (set1 (set1 (set1 (set1 (set1 (set1 A 40 b (sv A 22 (20 * b))) 41 b (sv A 24 (20 * b))) 42 b (sv A 42 b + 1)) 9 (2 * N + b) (sv A 22 (20 * b))) 10 (2 * N + b) (sv A 24 (20 * b))) 26 b (sv A 23 (20 * b))) b 0) 11 (2 * N + b) = sv A 11 (2 * N + b) := by rw [sv_rmR, if_neg (by omega), sv_set1, if_neg (by omega), sv_set1, if_neg (by omega), sv_set1, if_neg (by omega), sv_set1, if_neg (by omega), sv_set1, if_neg (by omega), sv_set1, if_neg (by omega)]
    have ern : rn (set1 (set1 (set1 (set1 (set1 (set1 A 40 b (sv A 22 (20 * b))) 41 b (sv A 24 (20 * b))) 42 b (sv A 42 b + 1)) 9 (2 * N + b) (sv A 22 (20 * b))) 10 (2 * N + b) (sv A 24 (20 * b))) 26 b (sv A 23 (20 * b))) = rn A := by rw [rn_set1, rn_set1, rn_set1, rn_set1, rn_set1, rn_set1]
    have ae := act_eq (A := A) (b := b) (N := N) (co := sv A 22 (20 * b)) (w := sv A 24 (20 * b)) (n := sv A 23 (20 * b)) (sr := sv A 42 b + 1)
    generalize set1 (set1 (set1 (set1 (set1 (set1 A 40 b (sv A 22 (20 * b))) 41 b (sv A 24 (20 * b))) 42 b (sv A 42 b + 1)) 9 (2 * N + b) (sv A 22 (20 * b))) 10 (2 * N + b) (sv A 24 (20 * b))) 26 b (sv A 23 (20 * b)) = B at hR s11 ern ae
    have tm := hR.tg
    refine p_aload_n e_MM_activate_64 rfl ?_
    refine p_iload_n e_MM_activate_65 rfl ?_
    refine p_iconst (x := 0) e_MM_activate_66 (by decide) ?_
    refine p_top nI_0.symm ?_
    refine p_inv (ci := 8) (d' := 1) [_, _] _ e_MM_activate_67 c_MM_167 k_MM_takeOut i_MM_takeOut s_MM_takeOut rfl rfl (by assumption) rfl rfl (Nat.le_of_ble_eq_true rfl) (Nat.le_of_ble_eq_true rfl) ?_
    refine sp_MM_takeOut hb (by rw [ern]; omega) (by rw [ern]; omega) hR.2 (fun σ hR2 => ?_)
    replace hR : RR N m Z σ0 nD σ (rmR B b 0) := RR.rmR hb (by rw [ern]; omega) (fun b' hb' => by rw [ern]; exact hI.r20 b' hb') hR.1 hR2
    refine p_aload_n e_MM_activate_70 rfl ?_
    refine x_gf 11 hR.2 e_MM_activate_71 f_MM_29 rfl rfl ?_
    refine p_iload_n e_MM_activate_74 rfl ?_
    refine p_dup2 e_MM_activate_75 ?_
    refine r_ldv 11 (v := sv A 11 (2 * N + b)) hR rfl (by decide) rfl e_MM_activate_76 (rfl) (by show _ < 10; omega) (hR.pl rfl) (s11) ?_
    refine p_iconst (x := 1) e_MM_activate_77 (by decide) ?_
    refine p_iadd e_MM_activate_78 ?_
    refine p_top ((show sv A 11 (2 * N + b) + 1 = sv A 42 b + 1 by rw [hcp])) ?_
    refine r_sn 11 hR rfl rfl rfl e_MM_activate_79 (rfl) (by show _ < 10; omega) (fun σ hR => ?_)
    rw [ae] at hR
    have hI1 := hI.af1 hb hr
    obtain ⟨v40, v41, v42⟩ := af_v (A := A) (b := b)
    have ea : acw (af1 A b) b = sv A 24 (20 * b) := by
      unfold acw
      rw [v40, v41, if_neg hne]
      rcases hw with q | q
      · rw [q, if_pos rfl]
      · rw [q, if_neg (by decide)]
    have et : taA N (af1 A b) b = lnA (tlA N (af1 A b) b (sv A 22 (20 * b)) (sv A 24 (20 * b)) (sv A 42 b + 1) N) (2 * N + b) (sv A 22 (20 * b)) (sv A 24 (20 * b)) (sv A 42 b + 1) := by
      unfold taA
      rw [v40, ea, v42]
    have e1 : af1 A b = set1 (set1 (set1 (set1 (rmR A b 0) 40 b (sv A 22 (20 * b))) 26 b (sv A 23 (20 * b))) 41 b (sv A 24 (20 * b))) 42 b (sv A 42 b + 1) := rfl
    have ef : afA N A b = gwA (taA N (af1 A b) b) N b := if_neg hr
    have hI2 := hI1.ta hb
    rw [← e1] at hR
    rw [ef] at hP
    clear e1 ef ae s11
    generalize af1 A b = X at *
    have tm := hR.tg
    have hX : LI N (lnA X (2 * N + b) (sv A 22 (20 * b)) (sv A 24 (20 * b)) (sv A 42 b + 1)) eb eo := hI1.1.lrn (Or.inr ⟨c, hc, hco⟩) hw
    refine p_aload_n e_MM_activate_80 rfl ?_
    refine p_iload_n e_MM_activate_81 rfl ?_
    refine p_inv (ci := 8) (d' := 4) [_] _ e_MM_activate_82 c_MM_170 k_MM_tellAll i_MM_tellAll s_MM_tellAll rfl rfl (by assumption) rfl rfl (Nat.le_of_ble_eq_true rfl) (Nat.le_of_ble_eq_true rfl) ?_
    refine sp_MM_tellAll (eb := eb) (eo := eo) hb sv_ln9 (fun _ => sv_ln10) sv_ln11 (fun c' hc' => hX.tl hb (Or.inr ⟨c, hc, hco⟩) hw c' hc') hR (fun σ hR => ?_)
    rw [tl_ln, ← et] at hR
    have tm := hR.tg
    refine p_aload_n e_MM_activate_85 rfl ?_
    refine p_aload_n e_MM_activate_86 rfl ?_
    refine x_gN hR.2 e_MM_activate_87 f_MM_113 rfl ?_
    refine p_iload_n e_MM_activate_90 rfl ?_
    refine p_inv (ci := 8) (d' := 5) [_, _] _ e_MM_activate_91 c_MM_173 k_MM_giveWay i_MM_giveWay s_MM_giveWay rfl rfl (by assumption) rfl rfl (Nat.le_of_ble_eq_true rfl) (Nat.le_of_ble_eq_true rfl) ?_
    refine sp_MM_giveWay (Nat.le_refl _) hb hI2.1 hR (fun σ hR => ?_)
    refine p_ret e_MM_activate_94 (rv_v ?_)
    exact hP _ hR
theorem RR.off {b : Nat} (hR : RR N m Z σ0 nD σ A) : RR N m Z σ0 nD σ (set1 A 40 b (-1)) := by
  refine ⟨hR.1, hR.2.cg rfl (fun _ _ => rfl) (fun k hk => by rw [sv_set1, if_neg (by omega)]) (fun k i y1 y2 y3 y4 => ⟨?_, ?_⟩)⟩
  · rintro (z | z)
    · refine y4 (Or.inl ?_)
      unfold Ex at z ⊢
      rw [sv_set1 (k' := 12), if_neg (by omega), sv_set1 (k' := 9), if_neg (by omega), sv_set1 (k' := 29), if_neg (by omega), sv_set1 (k' := 38), if_neg (by omega)]
      rcases z with z | z | z | z | z | z
      · exact Or.inl z
      · exact Or.inr (Or.inl z)
      · exact Or.inr (Or.inr (Or.inl z))
      · exact Or.inr (Or.inr (Or.inr (Or.inl z)))
      · refine Or.inr (Or.inr (Or.inr (Or.inr (Or.inl ⟨z.1, ?_⟩))))
        rw [sv_set1]
        split
        · rfl
        · exact z.2
      · exact Or.inr (Or.inr (Or.inr (Or.inr (Or.inr z))))
    · exact absurd z id
  · have hk : k < 40 := by have := of_decide_eq_true y1; omega
    rw [sv_set1, if_neg (by omega)]
theorem RR.k9 {n : Nat} (hR : RR N m Z σ0 (fun k i => nD k i ∨ (k = 10 ∧ i = n)) σ A) (h : sv A 9 n = -1) : RR N m Z σ0 nD σ A := by
  refine ⟨fun _ _ q => absurd q id, hR.2.cg rfl (fun _ _ => rfl) (fun _ _ => rfl) (fun k i y1 y2 y3 y4 => ⟨?_, rfl⟩)⟩
  rintro (z | z | z)
  · exact y4 (Or.inl z)
  · exact absurd z id
  · refine y4 (Or.inl (Or.inr (Or.inr (Or.inr (Or.inl ⟨z.1, ?_⟩)))))
    rw [z.2]; exact h
theorem RR.known0 {i : Nat} {sr : Int32} (hR : RR N m Z σ0 nD σ (set1 A 9 i (-1))) (h : sv A 11 i = sr) : RR N m Z σ0 nD σ (lnA A i (-1) 0 sr) := by
  have s9 : ∀ j, sv (lnA A i (-1) 0 sr) 9 j = sv (set1 A 9 i (-1)) 9 j := fun j => by unfold lnA; rw [sv_set1, if_neg (by omega), sv_set1, if_neg (by omega)]
  have so : ∀ k j, k ≠ 10 → sv (lnA A i (-1) 0 sr) k j = sv (set1 A 9 i (-1)) k j := fun k j hk => by
    unfold lnA
    rw [sv_set1]
    by_cases z : k = 11 ∧ j = i
    · rw [if_pos z, z.1, z.2, sv_set1, if_neg (by omega), h]
    · rw [if_neg z, sv_set1, if_neg (by omega)]
  refine ⟨hR.1, hR.2.cg rfl (fun _ _ => rfl) (fun k hk => so k 0 (by omega)) (fun k j y1 y2 y3 y4 => ⟨?_, ?_⟩)⟩
  · rintro (z | z)
    · refine y4 (Or.inl ?_)
      unfold Ex at z ⊢
      rw [so 12 _ (by omega), s9, so 40 _ (by omega), so 29 _ (by omega), so 38 _ (by omega)]
      exact z
    · exact absurd z id
  · by_cases hk : k = 10
    · subst hk
      by_cases hj : j = i
      · refine absurd (Or.inl (Or.inr (Or.inr (Or.inr (Or.inl ⟨rfl, ?_⟩))))) y4
        rw [s9, hj, sv_set1, if_pos ⟨rfl, rfl⟩]
      · unfold lnA
        rw [sv_set1, if_neg (by omega), sv_set1, if_neg (fun z => hj z.2)]
    · exact so k j hk
theorem LI.k9 (h : LI N A eb eo) {i : Nat} : LI N (set1 A 9 i (-1)) eb eo := by
  have h1 := h.set38 (i := 0) (v := sv A 38 0)
  obtain ⟨a1, a2, a3, a4, a5, a6⟩ := h
  have e : ∀ k j, k ≠ 9 → sv (set1 A 9 i (-1)) k j = sv A k j := fun k j hk => by rw [sv_set1, if_neg (by omega)]
  have elt : ∀ b j, lt' (set1 A 9 i (-1)) b j = lt' A b j := fun b j => by unfold lt'; rw [e 29 _ (by omega), e 32 _ (by omega), e 33 _ (by omega)]
  have elo : ∀ b j, lo' (set1 A 9 i (-1)) b j = lo' A b j := fun b j => by unfold lo'; rw [e 29 _ (by omega), e 32 _ (by omega), e 34 _ (by omega)]
  refine ⟨a1, fun j hj => lw_of (fun k q1 q2 => e k j (by omega)) (a2 j hj), fun j j' hj hj' => ?_, fun j hj => ?_, fun b hb => ?_, fun b hb => ?_⟩
  · unfold uq
    rw [e 29 _ (by omega), e 29 _ (by omega), e 31 _ (by omega), e 31 _ (by omega), e 30 _ (by omega), e 30 _ (by omega), e 32 _ (by omega), e 32 _ (by omega)]
    exact a3 j j' hj hj'
  · obtain ⟨w1, w2, w3, w4⟩ := a4 j hj
    unfold cw
    rw [e 5 _ (by omega), e 6 _ (by omega), e 7 _ (by omega), e 10 _ (by omega), sv_set1]
    refine ⟨w1, w2, w3, ?_⟩
    split
    · exact Or.inl rfl
    · exact w4
  · have q1 : sm (fun x => nt (sv (set1 A 9 i (-1)) 5 (2 * x + b))) (N + 1) = sm (fun x => nt (sv A 5 (2 * x + b))) (N + 1) := sm_congr _ (fun x _ => by rw [e 5 _ (by omega)])
    have q2 : sm (lt' (set1 A 9 i (-1)) b) (ln A) = sm (lt' A b) (ln A) := sm_congr _ (fun x _ => elt b x)
    rw [q1, ln_set1, q2]
    exact a5 b hb
  · have q1 : sm (fun x => o1 (sv (set1 A 9 i (-1)) 6 (2 * x + b))) (N + 1) = sm (fun x => o1 (sv A 6 (2 * x + b))) (N + 1) := sm_congr _ (fun x _ => by rw [e 6 _ (by omega)])
    have q2 : sm (lo' (set1 A 9 i (-1)) b) (ln A) = sm (lo' A b) (ln A) := sm_congr _ (fun x _ => elo b x)
    rw [q1, ln_set1, q2]
    exact a6 b hb
set_option maxHeartbeats 1000000 in
theorem sp_MM_lapse {c : Nat} {n : Int32} (hc : c < N) (hI : IV N A eb eo) (hC : CP N A) (hR : RR N m Z σ0 nD σ A) (hP : ∀ σ', RR N m Z σ0 nD σ' (lpA N A c n) → P none σ') : Ctr m_MM_lapse 7 [.inr m, .inl (nI c), .inl n] σ P := by
  have hN := hR.2.hN
  have strike : ∀ (b : Nat), b < 2 → ∀ (i : Nat) (σ : PS) (A1 : AS), IV N A1 eb eo → i ≤ rn A1 b → RR N m Z σ0 nD σ A1 → (∀ σ2, RR N m Z σ0 nD σ2 (skA b (nI c) n i A1) → Wp m_MM_lapse 7 85 [(3, .inl (nI b)), (0, .inr m), (1, .inl (nI c)), (2, .inl n)] [] σ2 (fun v σ' => RV m_MM_lapse.2.2.2 v ∧ P v σ')) → Wp m_MM_lapse 7 35 [(4, .inl (nI i - 1)), (3, .inl (nI b)), (0, .inr m), (1, .inl (nI c)), (2, .inl n)] [] σ (fun v σ' => RV m_MM_lapse.2.2.2 v ∧ P v σ') := by
    intro b hb i
    induction i with
    | zero =>
      intro σ A1 hI1 hi hR fin
      refine p_iload e_MM_lapse_35 rfl ?_
      refine p_if_lt (tgt := 85) e_MM_lapse_37 (by decide) (fun _ => ?_) (fun hx => absurd ((by decide)) hx)
      exact Wp.lv2 (fin σ hR) ⟨rfl, rfl, rfl, rfl, trivial⟩
    | succ i ih =>
      intro σ A1 hI1 hi hR fin
      have h5 := (hI1.2.2.1 b hb).1
      have tm := hR.tg
      rw [cnt_s]
      unfold skA at fin
      have nxt : ∀ (σ2 : PS) (A2 : AS), IV N A2 eb eo → i ≤ rn A2 b → RR N m Z σ0 nD σ2 A2 → (∀ σ3, RR N m Z σ0 nD σ3 (skA b (nI c) n i A2) → Wp m_MM_lapse 7 85 [(3, .inl (nI b)), (0, .inr m), (1, .inl (nI c)), (2, .inl n)] [] σ3 (fun v σ' => RV m_MM_lapse.2.2.2 v ∧ P v σ')) → Wp m_MM_lapse 7 79 [(4, .inl (nI i)), (3, .inl (nI b)), (0, .inr m), (1, .inl (nI c)), (2, .inl n)] [] σ2 (fun v σ' => RV m_MM_lapse.2.2.2 v ∧ P v σ') := by
        intro σ2 A2 hI2 hi2 hR2 fin2
        refine p_iinc e_MM_lapse_79 rfl rfl (by decide) ?_
        refine p_goto (tgt := 35) e_MM_lapse_82 (by decide) ?_
        exact Wp.lv2 (ih σ2 A2 hI2 hi2 hR2 fin2) ⟨congrArg (fun z => some (Sum.inl z)) cnt_d, rfl, rfl, rfl, rfl, trivial⟩
      refine p_iload e_MM_lapse_35 rfl ?_
      refine p_if_lt (tgt := 85) e_MM_lapse_37 (by decide) (fun hx => absurd hx (nI_pos (by omega))) (fun _ => ?_)
      refine p_aload_n e_MM_lapse_40 rfl ?_
      refine x_gf 22 hR.2 e_MM_lapse_41 f_MM_62 rfl rfl ?_
      refine p_bipush (x := 20) e_MM_lapse_44 (by decide) ?_
      refine p_iload_n e_MM_lapse_46 rfl ?_
      refine p_imul e_MM_lapse_47 ?_
      refine p_iload e_MM_lapse_48 rfl ?_
      refine p_iadd e_MM_lapse_50 ?_
      refine p_top (at20) ?_
      refine r_ld 22 hR rfl (by decide) rfl e_MM_lapse_51 (rfl) (by show _ < 40; omega) (hR.lr (by decide) hb (by omega) (by omega)) ?_
      refine p_iload_n e_MM_lapse_52 rfl ?_
      refine p_icmp_ne (tgt := 79) e_MM_lapse_53 (by decide) (fun h53 => ?_) (fun h53 => ?_)
      · rw [if_neg (fun q => h53 q.1)] at fin
        exact nxt σ A1 hI1 (by omega) hR fin
      refine p_aload_n e_MM_lapse_56 rfl ?_
      refine x_gf 23 hR.2 e_MM_lapse_57 f_MM_65 rfl rfl ?_
      refine p_bipush (x := 20) e_MM_lapse_60 (by decide) ?_
      refine p_iload_n e_MM_lapse_62 rfl ?_
      refine p_imul e_MM_lapse_63 ?_
      refine p_iload e_MM_lapse_64 rfl ?_
      refine p_iadd e_MM_lapse_66 ?_
      refine p_top (at20) ?_
      refine r_ld 23 hR rfl (by decide) rfl e_MM_lapse_67 (rfl) (by show _ < 40; omega) (hR.lr (by decide) hb (by omega) (by omega)) ?_
      refine p_iload_n e_MM_lapse_68 rfl ?_
      refine p_icmp_gt (tgt := 79) e_MM_lapse_69 (by decide) (fun h69 => ?_) (fun h69 => ?_)
      · rw [if_neg (fun q => absurd h69 (Int32.not_lt.mpr q.2))] at fin
        exact nxt σ A1 hI1 (by omega) hR fin
      · rw [if_pos ⟨h53, Int32.not_lt.mp h69⟩] at fin
        refine p_aload_n e_MM_lapse_72 rfl ?_
        refine p_iload_n e_MM_lapse_73 rfl ?_
        refine p_iload e_MM_lapse_74 rfl ?_
        refine p_inv (ci := 8) (d' := 1) [_, _] _ e_MM_lapse_76 c_MM_167 k_MM_takeOut i_MM_takeOut s_MM_takeOut rfl rfl (by assumption) rfl rfl (Nat.le_of_ble_eq_true rfl) (Nat.le_of_ble_eq_true rfl) ?_
        refine sp_MM_takeOut hb (by omega) (by omega) hR.2 (fun σ2 hR2 => ?_)
        exact nxt σ2 (rmR A1 b i) (hI1.rm hb (by omega)) (by rw [rn_rmR, if_pos rfl]; omega) (RR.rmR hb (by omega) hI1.r20 hR.1 hR2) fin
  have step : ∀ (b : Nat), b < 2 → ∀ (σ : PS) (A1 : AS), IV N A1 eb eo → CP1 N A1 b → RR N m Z σ0 nD σ A1 → (∀ σ2, RR N m Z σ0 nD σ2 (lpS N A1 b c n) → Wp m_MM_lapse 7 93 [(3, .inl (nI (b + 1))), (0, .inr m), (1, .inl (nI c)), (2, .inl n)] [] σ2 (fun v σ' => RV m_MM_lapse.2.2.2 v ∧ P v σ')) → Wp m_MM_lapse 7 93 [(3, .inl (nI b)), (0, .inr m), (1, .inl (nI c)), (2, .inl n)] [] σ (fun v σ' => RV m_MM_lapse.2.2.2 v ∧ P v σ') := by
    intro b hb σ A1 hI1 hcp hR fin
    have tm := hR.tg
    have nxt : ∀ σ2 : PS, RR N m Z σ0 nD σ2 (lpS N A1 b c n) → Wp m_MM_lapse 7 147 [(3, .inl (nI b)), (0, .inr m), (1, .inl (nI c)), (2, .inl n)] [] σ2 (fun v σ' => RV m_MM_lapse.2.2.2 v ∧ P v σ') := by
      intro σ2 hR2
      refine p_iinc e_MM_lapse_147 rfl rfl (by decide) ?_
      refine p_goto (tgt := 93) e_MM_lapse_150 (by decide) ?_
      exact Wp.lv2 (fin σ2 hR2) ⟨congrArg (fun z => some (Sum.inl z)) (nI_1 b), rfl, rfl, rfl, trivial⟩
    have hnc : nI c ≠ -1 := by intro q; exact absurd (nI_pos (n := c) (by omega)) (by rw [q]; simp [m1_lt])
    refine p_iload_n e_MM_lapse_93 rfl ?_
    refine p_iconst (x := 2) e_MM_lapse_94 (by decide) ?_
    refine p_icmp_ge (tgt := 153) e_MM_lapse_95 (by decide) (fun hx => absurd hx ((show ¬ (2 : Int32) ≤ nI b from nI_ge (b := 2) hb (by omega)))) (fun _ => ?_)
    refine p_iconst (x := 2) e_MM_lapse_98 (by decide) ?_
    refine p_aload_n e_MM_lapse_99 rfl ?_
    refine x_gN hR.2 e_MM_lapse_100 f_MM_113 rfl ?_
    refine p_imul e_MM_lapse_103 ?_
    refine p_iload_n e_MM_lapse_104 rfl ?_
    refine p_iadd e_MM_lapse_105 ?_
    refine p_top (at2) ?_
    refine p_istore e_MM_lapse_106 (by decide) ?_
    refine p_aload_n e_MM_lapse_108 rfl ?_
    refine x_gf 9 hR.2 e_MM_lapse_109 f_MM_23 rfl rfl ?_
    refine p_iload e_MM_lapse_112 rfl ?_
    refine r_ld 9 hR rfl (by decide) rfl e_MM_lapse_114 (rfl) (by show _ < 10; omega) (hR.pl rfl) ?_
    refine p_iload_n e_MM_lapse_115 rfl ?_
    refine p_icmp_ne (tgt := 147) e_MM_lapse_116 (by decide) (fun h116 => ?_) (fun h116 => ?_)
    · refine Wp.lv2 (nxt σ ?_) ⟨rfl, rfl, rfl, rfl, trivial⟩
      have e : lpS N A1 b c n = A1 := if_neg (fun q => h116 (hcp.1.symm.trans q.2.1))
      rw [e]; exact hR
    have e40 : sv A1 40 b = nI c := hcp.1.trans h116
    have n40 : sv A1 40 b ≠ -1 := by rw [e40]; exact hnc
    refine p_aload_n e_MM_lapse_119 rfl ?_
    refine x_gf 26 hR.2 e_MM_lapse_120 f_MM_74 rfl rfl ?_
    refine p_iload_n e_MM_lapse_123 rfl ?_
    refine r_ld 26 hR rfl (by decide) rfl e_MM_lapse_124 (rfl) (by show _ < 2; omega) (ok_26 n40) ?_
    refine p_iload_n e_MM_lapse_125 rfl ?_
    refine p_icmp_gt (tgt := 147) e_MM_lapse_126 (by decide) (fun h126 => ?_) (fun h126 => ?_)
    · refine Wp.lv2 (nxt σ ?_) ⟨rfl, rfl, rfl, rfl, trivial⟩
      have e : lpS N A1 b c n = A1 := if_neg (fun q => absurd h126 (Int32.not_lt.mpr q.2.2))
      rw [e]; exact hR
    · have e : lpS N A1 b c n = afA N (taA N (set1 A1 40 b (-1)) b) b := if_pos ⟨n40, e40, Int32.not_lt.mp h126⟩
      rw [e] at nxt
      have hIo := hI1.off (b := b)
      have hIt := hIo.ta hb
      have o40 : sv (set1 A1 40 b (-1)) 40 b = -1 := by rw [sv_set1, if_pos ⟨rfl, rfl⟩]
      have oa : acw (set1 A1 40 b (-1)) b = 0 := by unfold acw; rw [if_pos o40]
      have o42 : sv (set1 A1 40 b (-1)) 42 b = sv A1 42 b := by rw [sv_set1, if_neg (by omega)]
      have o11 : sv (set1 A1 40 b (-1)) 11 (2 * N + b) = sv A1 42 b := by rw [sv_set1, if_neg (by omega)]; exact hcp.2.2.symm
      have et : taA N (set1 A1 40 b (-1)) b = lnA (tlA N (set1 A1 40 b (-1)) b (-1) 0 (sv A1 42 b) N) (2 * N + b) (-1) 0 (sv A1 42 b) := by
        unfold taA
        rw [o40, oa, o42]
      have ecp : sv (taA N (set1 A1 40 b (-1)) b) 42 b = sv (taA N (set1 A1 40 b (-1)) b) 11 (2 * N + b) := by
        rw [sv_taA (by omega), if_neg (by omega), if_neg (by omega), if_neg (by omega), sv_taA (by omega), if_pos ⟨rfl, rfl⟩]
      replace hR := hR.off (b := b)
      generalize set1 A1 40 b (-1) = X at *
      refine p_aload_n e_MM_lapse_129 rfl ?_
      refine x_gf 9 hR.2 e_MM_lapse_130 f_MM_23 rfl rfl ?_
      refine p_iload e_MM_lapse_133 rfl ?_
      refine p_iconst (x := (-1)) e_MM_lapse_135 (by decide) ?_
      refine r_s9 hR e_MM_lapse_136 rfl (by omega) (fun σ hR => ?_)
      replace hR := RR.k9 hR (by rw [sv_set1, if_pos ⟨rfl, rfl⟩])
      have tm := hR.tg
      refine p_aload_n e_MM_lapse_137 rfl ?_
      refine p_iload_n e_MM_lapse_138 rfl ?_
      refine p_inv (ci := 8) (d' := 4) [_] _ e_MM_lapse_139 c_MM_170 k_MM_tellAll i_MM_tellAll s_MM_tellAll rfl rfl (by assumption) rfl rfl (Nat.le_of_ble_eq_true rfl) (Nat.le_of_ble_eq_true rfl) ?_
      refine sp_MM_tellAll (w := 0) (eb := eb) (eo := eo) hb (by rw [sv_set1, if_pos ⟨rfl, rfl⟩]) (fun q => absurd rfl q) (show sv (set1 X 9 (2 * N + b) (-1)) 11 (2 * N + b) = sv A1 42 b by rw [sv_set1, if_neg (by omega)]; exact o11) (fun c' hc' => hIo.1.k9.tl hb (Or.inl rfl) (Or.inl rfl) c' hc') hR (fun σ hR => ?_)
      rw [tl_set (by omega)] at hR
      replace hR := RR.known0 hR (show _ = sv A1 42 b from (sv_tlA (by omega) N).trans o11)
      rw [← et] at hR
      have tm := hR.tg
      refine p_aload_n e_MM_lapse_142 rfl ?_
      refine p_iload_n e_MM_lapse_143 rfl ?_
      refine p_inv (ci := 8) (d' := 6) [_] _ e_MM_lapse_144 c_MM_176 k_MM_activate i_MM_activate s_MM_activate rfl rfl (by assumption) rfl rfl (Nat.le_of_ble_eq_true rfl) (Nat.le_of_ble_eq_true rfl) ?_
      refine sp_MM_activate hb hIt ecp hR (fun σ hR => ?_)
      exact Wp.lv2 (nxt σ hR) ⟨rfl, rfl, rfl, rfl, trivial⟩
  unfold lpA at hP
  refine Ctr.of y_MM_lapse (Nat.le_of_ble_eq_true rfl) ?_
  refine p_aload_n e_MM_lapse_0 rfl ?_
  refine x_gf 27 hR.2 e_MM_lapse_1 f_MM_77 rfl rfl ?_
  refine p_iload_n e_MM_lapse_4 rfl ?_
  refine r_ld 27 hR rfl (by decide) rfl e_MM_lapse_5 (rfl) (by show _ < 4; omega) (hR.pl rfl) ?_
  refine p_iload_n e_MM_lapse_6 rfl ?_
  refine p_icmp_lt (tgt := 11) e_MM_lapse_7 (by decide) (fun h7 => ?_) (fun h7 => ?_)
  · rw [if_pos h7] at hP
    refine p_aload_n e_MM_lapse_11 rfl ?_
    refine x_gf 27 hR.2 e_MM_lapse_12 f_MM_77 rfl rfl ?_
    refine p_iload_n e_MM_lapse_15 rfl ?_
    refine p_iload_n e_MM_lapse_16 rfl ?_
    refine r_sn 27 hR rfl rfl rfl e_MM_lapse_17 (rfl) (by show _ < 4; omega) (fun σ hR => ?_)
    refine p_iconst (x := 0) e_MM_lapse_18 (by decide) ?_
    refine p_istore_n e_MM_lapse_19 (by decide) ?_
    have hI1 : IV N (set1 A 27 c n) eb eo := ⟨hI.1.set (by unfold rel; omega), hI.2.keep rfl (fun k j hk => by rw [sv_set1, if_neg (by omega)])⟩
    have hI2 := IV.sk (c := nI c) (n := n) (b := 0) (by omega) _ (set1 A 27 c n) (Nat.le_refl _) hI1
    have hI3 := hI.lpR (c := c) (n := n)
    obtain ⟨k1, k2, k3, k4, k5, k6⟩ := lpR_keep (c := c) (n := n) hI.r20
    have hC3 : CP N (lpR A c n) := hC.mv (fun k j hk => by rw [k6 _ _ (by omega), sv_set1, if_neg (by omega)])
    refine p_iload_n e_MM_lapse_20 rfl ?_
    refine p_iconst (x := 2) e_MM_lapse_21 (by decide) ?_
    refine p_icmp_ge (tgt := 91) e_MM_lapse_22 (by decide) (fun hx => absurd hx ((by decide))) (fun _ => ?_)
    refine p_aload_n e_MM_lapse_25 rfl ?_
    refine x_gf 25 hR.2 e_MM_lapse_26 f_MM_71 rfl rfl ?_
    refine p_iload_n e_MM_lapse_29 rfl ?_
    refine r_lS (n := 0) hR e_MM_lapse_30 nI_0.symm (by omega) ?_
    refine p_iconst (x := 1) e_MM_lapse_31 (by decide) ?_
    refine p_isub e_MM_lapse_32 ?_
    refine p_istore e_MM_lapse_33 (by decide) ?_
    refine Wp.lv2 (strike 0 (by omega) (rn A 0) _ (set1 A 27 c n) hI1 (Nat.le_refl _) hR (fun σ2 hR2 => ?_)) ⟨rfl, rfl, rfl, rfl, rfl, trivial⟩
    refine p_iinc e_MM_lapse_85 rfl rfl (by decide) ?_
    refine p_goto (tgt := 20) e_MM_lapse_88 (by decide) ?_
    refine p_iload_n e_MM_lapse_20 rfl ?_
    refine p_iconst (x := 2) e_MM_lapse_21 (by decide) ?_
    refine p_icmp_ge (tgt := 91) e_MM_lapse_22 (by decide) (fun hx => absurd hx ((by decide))) (fun _ => ?_)
    refine p_aload_n e_MM_lapse_25 rfl ?_
    refine x_gf 25 hR2.2 e_MM_lapse_26 f_MM_71 rfl rfl ?_
    refine p_iload_n e_MM_lapse_29 rfl ?_
    refine r_lS (n := 1) hR2 e_MM_lapse_30 (by decide) (by omega) ?_
    refine p_iconst (x := 1) e_MM_lapse_31 (by decide) ?_
    refine p_isub e_MM_lapse_32 ?_
    refine p_istore e_MM_lapse_33 (by decide) ?_
    refine Wp.lv2 (strike 1 (by omega) (rn (skA 0 (nI c) n (rn A 0) (set1 A 27 c n)) 1) σ2 _ hI2 (Nat.le_refl _) hR2 (fun σ3 hR3 => ?_)) ⟨rfl, congrArg (fun z => some (Sum.inl z)) (show nI 0 + Int32.ofInt 1 = nI 1 by decide), rfl, rfl, rfl, trivial⟩
    refine p_iinc e_MM_lapse_85 rfl rfl (by decide) ?_
    refine p_goto (tgt := 20) e_MM_lapse_88 (by decide) ?_
    refine p_iload_n e_MM_lapse_20 rfl ?_
    refine p_iconst (x := 2) e_MM_lapse_21 (by decide) ?_
    refine p_icmp_ge (tgt := 91) e_MM_lapse_22 (by decide) (fun _ => ?_) (fun hx => absurd ((by decide)) hx)
    refine p_iconst (x := 0) e_MM_lapse_91 (by decide) ?_
    refine p_istore_n e_MM_lapse_92 (by decide) ?_
    have hR3' : RR N m Z σ0 nD σ3 (lpR A c n) := hR3
    refine Wp.lv2 (step 0 (by omega) σ3 (lpR A c n) hI3 (hC3 0 (by omega)) hR3' (fun σ4 hR4 => ?_)) ⟨rfl, rfl, rfl, rfl, trivial⟩
    refine step 1 (by omega) σ4 _ (hI3.lpS (by omega)) (hC3.lpS hI3 (by omega) 1 (by omega)) hR4 (fun σ5 hR5 => ?_)
    refine p_iload_n e_MM_lapse_93 rfl ?_
    refine p_iconst (x := 2) e_MM_lapse_94 (by decide) ?_
    refine p_icmp_ge (tgt := 153) e_MM_lapse_95 (by decide) (fun _ => ?_) (fun hx => absurd ((by decide)) hx)
    refine p_ret e_MM_lapse_153 (rv_v ?_)
    exact hP _ hR5
  · rw [if_neg h7] at hP
    refine p_ret e_MM_lapse_10 (rv_v ?_)
    exact hP _ hR
end RefO
