/-! the reference: asking, issue, tick, getting tokens, evict -/
section RefI
variable {M : MM} {d pc : Nat} {lv : List (Nat × PV)} {st : List PV} {σ : PS} {P : Option PV → PS → Prop} {N m T : Nat} {Z : Nat → Nat} {σ0 : PS} {D : Nat → Nat → Prop} {A : AS} {eb eo : Nat → Nat}
theorem r_s12s {n : Nat} {j v : Int32} (hR : RR N m Z σ0 D σ A) (hd : decode M.2.1 pc = .ok (.bastore, 1)) (hj : j = nI n) (hn : n < 4) (hv : v = sv A 12 n) (hz : bz v) (kk : ∀ σ', RR N m Z σ0 (fun k' i => D k' i ∧ ¬ (k' = 12 ∧ i = n)) σ' A → Wp M d (pc + 1) lv st σ' P) : Wp M d pc lv (.inl v :: .inl j :: .inr (Z 12) :: st) σ P := by
  refine x_sb 12 A hR.2 rfl rfl hd hj hn hz rfl (fun b hb => by rw [if_neg (by omega)]) (fun _ _ => rfl) (fun k' i y1 y2 y3 y4 y5 => ⟨fun z => y4 ?_, rfl⟩) (fun _ _ => hv) (fun σ' h h2 => kk σ' ⟨fun k' i q => hR.1 k' i q.1, h⟩)
  rcases z with z | z
  · exact Or.inl z
  · exact Or.inr ⟨z, y5⟩
theorem sp_MM_isCore {c : Int32} (hR : RR N m Z σ0 D σ A) (k1 : 0 ≤ c → c < nI N → P (some (.inl 1)) σ) (k0 : ¬ (0 ≤ c ∧ c < nI N) → P (some (.inl 0)) σ) : Ctr m_MM_isCore 1 [.inr m, .inl c] σ P := by
  refine Ctr.of y_MM_isCore (Nat.le_of_ble_eq_true rfl) ?_
  refine p_iload_n e_MM_isCore_0 rfl ?_
  refine p_if_lt (tgt := 16) e_MM_isCore_1 (by decide) (fun h1 => ?_) (fun h1 => ?_)
  · refine p_iconst (x := 0) e_MM_isCore_16 (by decide) ?_
    refine p_iret e_MM_isCore_17 (rv_z (by first | assumption | exact Or.inl rfl | exact Or.inr rfl) ?_)
    exact k0 (fun q => absurd h1 (Int32.not_lt.mpr q.1))
  refine p_iload_n e_MM_isCore_4 rfl ?_
  refine p_aload_n e_MM_isCore_5 rfl ?_
  refine x_gN hR.2 e_MM_isCore_6 f_MM_113 rfl ?_
  refine p_icmp_ge (tgt := 16) e_MM_isCore_9 (by decide) (fun h9 => ?_) (fun h9 => ?_)
  · refine p_iconst (x := 0) e_MM_isCore_16 (by decide) ?_
    refine p_iret e_MM_isCore_17 (rv_z (by first | assumption | exact Or.inl rfl | exact Or.inr rfl) ?_)
    exact k0 (fun q => absurd h9 (Int32.not_le.mpr q.2))
  refine p_iconst (x := 1) e_MM_isCore_12 (by decide) ?_
  refine p_goto (tgt := 17) e_MM_isCore_13 (by decide) ?_
  refine p_iret e_MM_isCore_17 (rv_z (by first | assumption | exact Or.inl rfl | exact Or.inr rfl) ?_)
  exact k1 (Int32.not_lt.mp h1) (Int32.not_le.mp h9)
theorem sp_MM_isNode {c : Int32} (hR : RR N m Z σ0 D σ A) (k1 : 0 ≤ c → c ≤ nI N → P (some (.inl 1)) σ) (k0 : ¬ (0 ≤ c ∧ c ≤ nI N) → P (some (.inl 0)) σ) : Ctr m_MM_isNode 1 [.inr m, .inl c] σ P := by
  refine Ctr.of y_MM_isNode (Nat.le_of_ble_eq_true rfl) ?_
  refine p_iload_n e_MM_isNode_0 rfl ?_
  refine p_if_lt (tgt := 16) e_MM_isNode_1 (by decide) (fun h1 => ?_) (fun h1 => ?_)
  · refine p_iconst (x := 0) e_MM_isNode_16 (by decide) ?_
    refine p_iret e_MM_isNode_17 (rv_z (by first | assumption | exact Or.inl rfl | exact Or.inr rfl) ?_)
    exact k0 (fun q => absurd h1 (Int32.not_lt.mpr q.1))
  refine p_iload_n e_MM_isNode_4 rfl ?_
  refine p_aload_n e_MM_isNode_5 rfl ?_
  refine x_gN hR.2 e_MM_isNode_6 f_MM_113 rfl ?_
  refine p_icmp_gt (tgt := 16) e_MM_isNode_9 (by decide) (fun h9 => ?_) (fun h9 => ?_)
  · refine p_iconst (x := 0) e_MM_isNode_16 (by decide) ?_
    refine p_iret e_MM_isNode_17 (rv_z (by first | assumption | exact Or.inl rfl | exact Or.inr rfl) ?_)
    exact k0 (fun q => absurd h9 (Int32.not_lt.mpr q.2))
  refine p_iconst (x := 1) e_MM_isNode_12 (by decide) ?_
  refine p_goto (tgt := 17) e_MM_isNode_13 (by decide) ?_
  refine p_iret e_MM_isNode_17 (rv_z (by first | assumption | exact Or.inl rfl | exact Or.inr rfl) ?_)
  exact k1 (Int32.not_lt.mp h1) (Int32.not_lt.mp h9)
theorem sp_MM_isBlock {c : Int32} (k1 : 0 ≤ c → c < 2 → P (some (.inl 1)) σ) (k0 : ¬ (0 ≤ c ∧ c < 2) → P (some (.inl 0)) σ) : Ctr m_MM_isBlock 1 [.inl c] σ P := by
  refine Ctr.of y_MM_isBlock (Nat.le_of_ble_eq_true rfl) ?_
  refine p_iload_n e_MM_isBlock_0 rfl ?_
  refine p_if_eq (tgt := 9) e_MM_isBlock_1 (by decide) (fun h1 => ?_) (fun h1 => ?_)
  · refine p_iconst (x := 1) e_MM_isBlock_9 (by decide) ?_
    refine p_goto (tgt := 14) e_MM_isBlock_10 (by decide) ?_
    refine p_iret e_MM_isBlock_14 (rv_z (by first | assumption | exact Or.inl rfl | exact Or.inr rfl) ?_)
    exact k1 (by rw [h1]; decide) (by rw [h1]; decide)
  refine p_iload_n e_MM_isBlock_4 rfl ?_
  refine p_iconst (x := 1) e_MM_isBlock_5 (by decide) ?_
  refine p_icmp_ne (tgt := 13) e_MM_isBlock_6 (by decide) (fun h6 => ?_) (fun h6 => ?_)
  · refine p_iconst (x := 0) e_MM_isBlock_13 (by decide) ?_
    refine p_iret e_MM_isBlock_14 (rv_z (by first | assumption | exact Or.inl rfl | exact Or.inr rfl) ?_)
    refine k0 (fun q => ?_)
    obtain ⟨j, hj, rfl⟩ := ix2 q.1 q.2
    rcases (show j = 0 ∨ j = 1 by omega) with rfl | rfl
    · exact h1 (by decide)
    · exact h6 (by decide)
  · refine p_iconst (x := 1) e_MM_isBlock_9 (by decide) ?_
    refine p_goto (tgt := 14) e_MM_isBlock_10 (by decide) ?_
    refine p_iret e_MM_isBlock_14 (rv_z (by first | assumption | exact Or.inl rfl | exact Or.inr rfl) ?_)
    exact k1 (by rw [h6]; decide) (by rw [h6]; decide)
set_option maxHeartbeats 4000000 in
theorem sp_MM_ask {c : Nat} (hc : c < N) (hL : ∀ x, x ≤ N + 1 → LI N (akA A c (rwk A c) (sv A 15 c) x) eb eo) (hR : RR N m Z σ0 nD σ A) (hP : ∀ σ', RR N m Z σ0 nD σ' (akA A c (rwk A c) (sv A 15 c) (N + 1)) → P none σ') : Ctr m_MM_ask 4 [.inr m, .inl (nI c)] σ P := by
  have hN := hR.2.hN
  have loop : ∀ k x, x + k = N + 1 → ∀ σ : PS, RR N m Z σ0 nD σ (akA A c (rwk A c) (sv A 15 c) x) → Wp m_MM_ask 4 2 [(2, .inl (nI x)), (0, .inr m), (1, .inl (nI c))] [] σ (fun v σ' => RV m_MM_ask.2.2.2 v ∧ P v σ') := by
    intro k
    induction k with
    | zero =>
      intro x hx σ hR
      have e : x = N + 1 := by omega
      subst e
      refine p_iload_n e_MM_ask_2 rfl ?_
      refine p_aload_n e_MM_ask_3 rfl ?_
      refine x_gN hR.2 e_MM_ask_4 f_MM_113 rfl ?_
      refine p_icmp_gt (tgt := 48) e_MM_ask_7 (by decide) (fun _ => ?_) (fun hx => absurd (nI_lt (Nat.lt_succ_self _) (by omega)) hx)
      refine p_ret e_MM_ask_48 (rv_v ?_)
      exact hP _ hR
    | succ k ih =>
      intro x hx σ hR
      have tm := hR.tg
      have hl := (hL x (by omega)).bound
      refine p_iload_n e_MM_ask_2 rfl ?_
      refine p_aload_n e_MM_ask_3 rfl ?_
      refine x_gN hR.2 e_MM_ask_4 f_MM_113 rfl ?_
      refine p_icmp_gt (tgt := 48) e_MM_ask_7 (by decide) (fun hx => absurd hx (nI_nlt (by omega) (by omega))) (fun _ => ?_)
      refine p_iload_n e_MM_ask_10 rfl ?_
      refine p_iload_n e_MM_ask_11 rfl ?_
      have ih2 := ih (x + 1) (by omega)
      unfold akA at ih2
      have go : ∀ σ2 : PS, RR N m Z σ0 nD σ2 (if x = c then akA A c (rwk A c) (sv A 15 c) x else sdL (akA A c (rwk A c) (sv A 15 c) x) (rwk A c) (nI c) (nI x) (sv A 15 c)) → Wp m_MM_ask 4 42 [(2, .inl (nI x)), (0, .inr m), (1, .inl (nI c))] [] σ2 (fun v σ' => RV m_MM_ask.2.2.2 v ∧ P v σ') := by
        intro σ2 hR2
        refine p_iinc e_MM_ask_42 rfl rfl (by decide) ?_
        refine p_goto (tgt := 2) e_MM_ask_45 (by decide) ?_
        exact Wp.lv2 (ih2 σ2 hR2) ⟨congrArg (fun z => some (Sum.inl z)) (nI_1 x), rfl, rfl, trivial⟩
      refine p_icmp_eq (tgt := 42) e_MM_ask_12 (by decide) (fun h12 => ?_) (fun h12 => ?_)
      · have e : x = c := (nI_eq (by omega) (by omega)).mp h12
        exact Wp.lv2 (go σ (by rw [if_pos e]; exact hR)) ⟨rfl, rfl, rfl, trivial⟩
      · have e : x ≠ c := fun q => h12 (by rw [q])
        have rest : Wp m_MM_ask 4 30 [(2, .inl (nI x)), (0, .inr m), (1, .inl (nI c))] [.inl (rwk A c), .inr m] σ (fun v σ' => RV m_MM_ask.2.2.2 v ∧ P v σ') := by
          refine p_iload_n e_MM_ask_30 rfl ?_
          refine p_iload_n e_MM_ask_31 rfl ?_
          refine p_aload_n e_MM_ask_32 rfl ?_
          refine x_gf 15 hR.2 e_MM_ask_33 f_MM_41 rfl rfl ?_
          refine p_iload_n e_MM_ask_36 rfl ?_
          refine r_ldv 15 (v := sv A 15 c) hR rfl (by decide) rfl e_MM_ask_37 (rfl) (by show _ < 4; omega) (hR.pl rfl) ((sv_akA (by omega) x)) ?_
          refine p_inv (ci := 8) (d' := 3) [_, _, _, _] _ e_MM_ask_38 c_MM_137 k_MM_send i_MM_send s_MM_send rfl rfl (by assumption) rfl rfl (Nat.le_of_ble_eq_true rfl) (Nat.le_of_ble_eq_true rfl) ?_
          refine sp_MM_send (by omega) (hL x (by omega)).hu hR (fun σ2 hR2 => ?_)
          refine p_istore_n e_MM_ask_41 (by decide) ?_
          exact Wp.lv2 (go σ2 (by rw [if_neg e]; exact hR2)) ⟨rfl, rfl, rfl, trivial⟩
        refine p_aload_n e_MM_ask_15 rfl ?_
        refine p_aload_n e_MM_ask_16 rfl ?_
        refine x_gf 13 hR.2 e_MM_ask_17 f_MM_35 rfl rfl ?_
        refine p_iload_n e_MM_ask_20 rfl ?_
        refine r_lbv 13 (v := sv A 13 c) hR rfl (by decide) rfl e_MM_ask_21 (rfl) (by show _ < 4; omega) (hR.pl rfl) ((sv_akA (by omega) x)) ?_
        refine p_if_eq (tgt := 29) e_MM_ask_22 (by decide) (fun h22 => ?_) (fun h22 => ?_)
        · refine p_iconst (x := 1) e_MM_ask_29 (by decide) ?_
          refine p_top (show (1 : Int32) = rwk A c by unfold rwk; rw [if_pos h22]) ?_
          exact rest
        · refine p_iconst (x := 2) e_MM_ask_25 (by decide) ?_
          refine p_goto (tgt := 30) e_MM_ask_26 (by decide) ?_
          refine p_top (show (2 : Int32) = rwk A c by unfold rwk; rw [if_neg h22]) ?_
          exact rest
  refine Ctr.of y_MM_ask (Nat.le_of_ble_eq_true rfl) ?_
  refine p_iconst (x := 0) e_MM_ask_0 (by decide) ?_
  refine p_istore_n e_MM_ask_1 (by decide) ?_
  exact Wp.lv2 (loop (N + 1) 0 (by omega) σ hR) ⟨rfl, rfl, rfl, trivial⟩
set_option maxHeartbeats 4000000 in
theorem sp_MM_repeat {c b : Nat} (hc : c < N) (hb : b < 2) (hbl : sv A 15 c = nI b) (hw : bz (sv A 13 c)) (hI : LI N A eb eo) (hR : RR N m Z σ0 nD σ A) (hP : ∀ σ', RR N m Z σ0 nD σ' (agA N A c) → P none σ') : Ctr m_MM_repeat 5 [.inr m, .inl (nI c)] σ P := by
  have hN := hR.2.hN
  have tm := hR.tg
  have hl := hI.bound
  refine Ctr.of y_MM_repeat (Nat.le_of_ble_eq_true rfl) ?_
  unfold agA at hP
  refine p_aload_n e_MM_repeat_0 rfl ?_
  refine x_gf 18 hR.2 e_MM_repeat_1 f_MM_50 rfl rfl ?_
  refine p_iload_n e_MM_repeat_4 rfl ?_
  refine r_ld 18 hR rfl (by decide) rfl e_MM_repeat_5 (rfl) (by show _ < 4; omega) (hR.pl rfl) ?_
  refine p_aload_n e_MM_repeat_6 rfl ?_
  refine x_g2 hR.2 e_MM_repeat_7 f_MM_117 rfl ?_
  refine p_icmp_ge (tgt := 44) e_MM_repeat_10 (by decide) (fun h10 => ?_) (fun h10 => ?_)
  · rw [if_neg (Int32.not_lt.mpr h10)] at hP
    refine p_aload_n e_MM_repeat_44 rfl ?_
    refine x_gf 14 hR.2 e_MM_repeat_45 f_MM_38 rfl rfl ?_
    refine p_iload_n e_MM_repeat_48 rfl ?_
    refine p_iconst (x := 1) e_MM_repeat_49 (by decide) ?_
    refine r_snb 14 hR rfl rfl rfl e_MM_repeat_50 (rfl) (by show _ < 4; omega) (by first | assumption | exact Or.inl rfl | exact Or.inr rfl | exact bz_if) (fun σ hR => ?_)
    refine p_aload_n e_MM_repeat_51 rfl ?_
    refine p_iconst (x := 4) e_MM_repeat_52 (by decide) ?_
    refine p_iload_n e_MM_repeat_53 rfl ?_
    refine p_aload_n e_MM_repeat_54 rfl ?_
    refine x_gN hR.2 e_MM_repeat_55 f_MM_113 rfl ?_
    refine p_aload_n e_MM_repeat_58 rfl ?_
    refine x_gf 15 hR.2 e_MM_repeat_59 f_MM_41 rfl rfl ?_
    refine p_iload_n e_MM_repeat_62 rfl ?_
    refine r_ld 15 hR rfl (by decide) rfl e_MM_repeat_63 (rfl) (by show _ < 4; omega) (hR.pl rfl) ?_
    have tm := hR.tg
    refine p_inv (ci := 8) (d' := 3) [_, _, _, _] _ e_MM_repeat_64 c_MM_137 k_MM_send i_MM_send s_MM_send rfl rfl (by assumption) rfl rfl (Nat.le_of_ble_eq_true rfl) (Nat.le_of_ble_eq_true rfl) ?_
    have hI2 : LI N (set1 A 14 c 1) eb eo := hI.set (by unfold rel; omega)
    have e15 : sv (set1 A 14 c 1) 15 c = sv A 15 c := rfl
    rw [e15]
    refine sp_MM_send (by show ln A ≤ 118; omega) hI2.hu hR (fun σ hR => ?_)
    have hle := dpL_le (set1 A 14 c 1) 4 (nI c) (nI N) (sv A 15 c)
    rw [ln_set1] at hle
    have s17 : sv (sdL (set1 A 14 c 1) 4 (nI c) (nI N) (sv A 15 c)) 17 c = sv A 17 c := by rw [sv_sdL (by omega), sv_set1, if_neg (by omega)]
    have s13 : sv (sdL (set1 A 14 c 1) 4 (nI c) (nI N) (sv A 15 c)) 13 c = sv A 13 c := by rw [sv_sdL (by omega), sv_set1, if_neg (by omega)]
    refine p_istore_n e_MM_repeat_67 (by decide) ?_
    refine p_aload_n e_MM_repeat_68 rfl ?_
    refine x_gf 37 hR.2 e_MM_repeat_69 f_MM_104 rfl rfl ?_
    refine p_iload_n e_MM_repeat_72 rfl ?_
    refine p_aload_n e_MM_repeat_73 rfl ?_
    refine x_gf 17 hR.2 e_MM_repeat_74 f_MM_47 rfl rfl ?_
    refine p_iload_n e_MM_repeat_77 rfl ?_
    refine r_ldv 17 (v := sv A 17 c) hR rfl (by decide) rfl e_MM_repeat_78 (rfl) (by show _ < 4; omega) (hR.pl rfl) (s17) ?_
    refine r_sn 37 hR rfl rfl rfl e_MM_repeat_79 (rfl) (by show _ < 120; omega) (fun σ hR => ?_)
    refine p_aload_n e_MM_repeat_80 rfl ?_
    refine x_gf 39 hR.2 e_MM_repeat_81 f_MM_110 rfl rfl ?_
    refine p_iload_n e_MM_repeat_84 rfl ?_
    refine p_aload_n e_MM_repeat_85 rfl ?_
    refine x_gf 13 hR.2 e_MM_repeat_86 f_MM_35 rfl rfl ?_
    refine p_iload_n e_MM_repeat_89 rfl ?_
    refine r_lbv 13 (v := sv A 13 c) hR rfl (by decide) rfl e_MM_repeat_90 (rfl) (by show _ < 4; omega) (hR.pl rfl) ((by rw [sv_set1, if_neg (by omega)]; exact s13)) ?_
    refine r_snb 39 hR rfl rfl rfl e_MM_repeat_91 (rfl) (by show _ < 120; omega) (by first | assumption | exact Or.inl rfl | exact Or.inr rfl | exact bz_if) (fun σ hR => ?_)
    refine p_ret e_MM_repeat_92 (rv_v ?_)
    exact hP _ hR
  · rw [if_pos (Int32.not_le.mp h10)] at hP
    refine p_aload_n e_MM_repeat_13 rfl ?_
    refine x_gf 18 hR.2 e_MM_repeat_14 f_MM_50 rfl rfl ?_
    refine p_iload_n e_MM_repeat_17 rfl ?_
    refine p_dup2 e_MM_repeat_18 ?_
    refine r_ld 18 hR rfl (by decide) rfl e_MM_repeat_19 (rfl) (by show _ < 4; omega) (hR.pl rfl) ?_
    refine p_iconst (x := 1) e_MM_repeat_20 (by decide) ?_
    refine p_iadd e_MM_repeat_21 ?_
    refine r_sn 18 hR rfl rfl rfl e_MM_repeat_22 (rfl) (by show _ < 4; omega) (fun σ hR => ?_)
    refine p_aload_n e_MM_repeat_23 rfl ?_
    refine x_gf 19 hR.2 e_MM_repeat_24 f_MM_53 rfl rfl ?_
    refine p_iload_n e_MM_repeat_27 rfl ?_
    refine p_aload_n e_MM_repeat_28 rfl ?_
    refine x_g4 hR.2 e_MM_repeat_29 f_MM_158 rfl ?_
    refine p_top (show sv (set1 A 18 c (sv A 18 c + 1)) 4 0 = sv A 4 0 by rw [sv_set1, if_neg (by omega)]) ?_
    refine p_aload_n e_MM_repeat_32 rfl ?_
    refine x_g3 hR.2 e_MM_repeat_33 f_MM_120 rfl ?_
    refine p_top (show sv (set1 A 18 c (sv A 18 c + 1)) 3 0 = sv A 3 0 by rw [sv_set1, if_neg (by omega)]) ?_
    refine p_iadd e_MM_repeat_36 ?_
    refine r_sn 19 hR rfl rfl rfl e_MM_repeat_37 (rfl) (by show _ < 4; omega) (fun σ hR => ?_)
    refine p_aload_n e_MM_repeat_38 rfl ?_
    refine p_iload_n e_MM_repeat_39 rfl ?_
    have tm := hR.tg
    have e15 : sv (set1 (set1 A 18 c (sv A 18 c + 1)) 19 c (sv A 4 0 + sv A 3 0)) 15 c = sv A 15 c := by rw [sv_set1, if_neg (by omega), sv_set1, if_neg (by omega)]
    have e13 : rwk (set1 (set1 A 18 c (sv A 18 c + 1)) 19 c (sv A 4 0 + sv A 3 0)) c = rwk A c := rfl
    have hI2 : LI N (set1 (set1 A 18 c (sv A 18 c + 1)) 19 c (sv A 4 0 + sv A 3 0)) eb eo := (hI.set (by unfold rel; omega)).set (by unfold rel; omega)
    generalize set1 (set1 A 18 c (sv A 18 c + 1)) 19 c (sv A 4 0 + sv A 3 0) = B at *
    refine p_inv (ci := 8) (d' := 4) [_] _ e_MM_repeat_40 c_MM_161 k_MM_ask i_MM_ask s_MM_ask rfl rfl (by assumption) rfl rfl (Nat.le_of_ble_eq_true rfl) (Nat.le_of_ble_eq_true rfl) ?_
    refine sp_MM_ask (eb := eb) (eo := eo) hc (fun x hx => ?_) hR (fun σ hR => ?_)
    · rw [e15, hbl]; exact LI.ak hI2 hc hb rwk_12 x hx
    · rw [e15, e13] at hR
      refine p_ret e_MM_repeat_43 (rv_v ?_)
      exact hP _ hR
set_option maxHeartbeats 4000000 in
theorem sp_MM_tick {n : Int32} (hI : QI N T A) (hR : RR N m Z σ0 nD σ A)
    (k1 : ∀ t σ', 1 ≤ t → t ≤ 50 → n = nI t → RR N m Z σ0 nD σ' (tiA N A t) → P (some (.inl (sv (tiA N A t) 4 0))) σ')
    (k0 : ∀ σ', ¬ (1 ≤ n ∧ n ≤ 50) → RR N m Z σ0 nD σ' A → P (some (.inl (-1))) σ') : Ctr m_MM_tick 6 [.inr m, .inl n] σ P := by
  have hN := hR.2.hN
  refine Ctr.of y_MM_tick (Nat.le_of_ble_eq_true rfl) ?_
  refine p_aload_n e_MM_tick_0 rfl ?_
  refine p_iconst (x := 0) e_MM_tick_1 (by decide) ?_
  refine r_p0 hR e_MM_tick_2 f_MM_123 (fun q h => by cases h; exact Or.inl rfl) (fun σ hR => ?_)
  refine p_iload_n e_MM_tick_5 rfl ?_
  refine p_iconst (x := 1) e_MM_tick_6 (by decide) ?_
  have no : ¬ (1 ≤ n ∧ n ≤ 50) → Wp m_MM_tick 6 16 [] [] σ (fun v σ' => RV m_MM_tick.2.2.2 v ∧ P v σ') := by
    intro hy
    refine p_iconst (x := (-1)) e_MM_tick_16 (by decide) ?_
    refine p_iret e_MM_tick_17 (rv_i ?_)
    exact k0 _ hy hR
  refine p_icmp_lt (tgt := 16) e_MM_tick_7 (by decide) (fun h7 => ?_) (fun h7 => ?_)
  · exact Wp.lv2 (no (fun q => absurd h7 (Int32.not_lt.mpr q.1))) trivial
  refine p_iload_n e_MM_tick_10 rfl ?_
  refine p_bipush (x := 50) e_MM_tick_11 (by decide) ?_
  refine p_icmp_le (tgt := 18) e_MM_tick_13 (by decide) (fun h13 => ?_) (fun h13 => ?_)
  · have n1 : 1 ≤ n := Int32.not_lt.mp h7
    obtain ⟨t, ht, rfl⟩ : ∃ t, t ≤ 50 ∧ n = nI t := ixle (n := 50) (by omega) (by
      have := Int32.le_iff_toInt_le.mp n1
      exact Int32.le_iff_toInt_le.mpr (Int.le_trans (by decide) this)) h13
    have ht1 : 1 ≤ t := by
      have : nI 1 ≤ nI t := n1
      exact (nI_leI (by omega) (by omega)).mp this
    have outer : ∀ k u, u + k = t → ∀ σ : PS, RR N m Z σ0 nD σ (tiA N A u) → Wp m_MM_tick 6 20 [(2, .inl (nI u)), (0, .inr m), (1, .inl (nI t))] [] σ (fun v σ' => RV m_MM_tick.2.2.2 v ∧ P v σ') := by
      intro k
      induction k with
      | zero =>
        intro u hu σ hR
        have e : u = t := by omega
        subst e
        refine p_iload_n e_MM_tick_20 rfl ?_
        refine p_iload_n e_MM_tick_21 rfl ?_
        refine p_icmp_ge (tgt := 93) e_MM_tick_22 (by decide) (fun _ => ?_) (fun hx => absurd (nI_le (Nat.le_refl _) (by omega)) hx)
        refine p_aload_n e_MM_tick_93 rfl ?_
        refine x_g4 hR.2 e_MM_tick_94 f_MM_158 rfl ?_
        refine p_iret e_MM_tick_97 (rv_i ?_)
        exact k1 u _ ht1 ht rfl hR
      | succ k ih =>
        intro u hu σ hR
        have hQ := (hI.ti u).tm (v := sv (tiA N A u) 4 0 + 1)
        have inner : ∀ k c, c + k = N → ∀ σ : PS, RR N m Z σ0 nD σ (tuA N (set1 (tiA N A u) 4 0 (sv (tiA N A u) 4 0 + 1)) c) → Wp m_MM_tick 6 37 [(3, .inl (nI c)), (2, .inl (nI u)), (0, .inr m), (1, .inl (nI t))] [] σ (fun v σ' => RV m_MM_tick.2.2.2 v ∧ P v σ') := by
          intro k'
          induction k' with
          | zero =>
            intro c hc σ hR
            have e : c = N := by omega
            subst e
            refine p_iload_n e_MM_tick_37 rfl ?_
            refine p_aload_n e_MM_tick_38 rfl ?_
            refine x_gN hR.2 e_MM_tick_39 f_MM_113 rfl ?_
            refine p_icmp_ge (tgt := 87) e_MM_tick_42 (by decide) (fun _ => ?_) (fun hx => absurd (nI_le (Nat.le_refl _) (by omega)) hx)
            refine p_iinc e_MM_tick_87 rfl rfl (by decide) ?_
            refine p_goto (tgt := 20) e_MM_tick_90 (by decide) ?_
            exact Wp.lv2 (ih (u + 1) (by omega) σ hR) ⟨congrArg (fun z => some (Sum.inl z)) (nI_1 u), rfl, rfl, trivial⟩
          | succ k' ih' =>
            intro c hc σ hR
            have hcN : c < N := by omega
            have hQ1 := hQ.tu c (by omega)
            have ih2 := ih' (c + 1) (by omega)
            unfold tuA at ih2
            generalize tuA N (set1 (tiA N A u) 4 0 (sv (tiA N A u) 4 0 + 1)) c = B at *
            have tm := hR.tg
            obtain ⟨⟨b', hb', e15⟩, e12, e13, e14⟩ := hQ1.2.1.1 c hcN
            have go : ∀ σ2 : PS, RR N m Z σ0 nD σ2 (if sv B 12 c ≠ 0 ∧ sv B 14 c = 0 ∧ sv B 19 c = sv B 4 0 then agA N B c else B) → Wp m_MM_tick 6 81 [(3, .inl (nI c)), (2, .inl (nI u)), (0, .inr m), (1, .inl (nI t))] [] σ2 (fun v σ' => RV m_MM_tick.2.2.2 v ∧ P v σ') := by
              intro σ2 hR2
              refine p_iinc e_MM_tick_81 rfl rfl (by decide) ?_
              refine p_goto (tgt := 37) e_MM_tick_84 (by decide) ?_
              exact Wp.lv2 (ih2 σ2 hR2) ⟨congrArg (fun z => some (Sum.inl z)) (nI_1 c), rfl, rfl, rfl, trivial⟩
            refine p_iload_n e_MM_tick_37 rfl ?_
            refine p_aload_n e_MM_tick_38 rfl ?_
            refine x_gN hR.2 e_MM_tick_39 f_MM_113 rfl ?_
            refine p_icmp_ge (tgt := 87) e_MM_tick_42 (by decide) (fun hx => absurd hx (nI_ge hcN (by omega))) (fun _ => ?_)
            refine p_aload_n e_MM_tick_45 rfl ?_
            refine x_gf 12 hR.2 e_MM_tick_46 f_MM_32 rfl rfl ?_
            refine p_iload_n e_MM_tick_49 rfl ?_
            refine r_lb 12 hR rfl (by decide) rfl e_MM_tick_50 (rfl) (by show _ < 4; omega) (ok_12) ?_
            refine p_if_eq (tgt := 81) e_MM_tick_51 (by decide) (fun h51 => ?_) (fun h51 => ?_)
            · exact go σ (by rw [if_neg (fun q => q.1 h51)]; exact hR)
            refine p_aload_n e_MM_tick_54 rfl ?_
            refine x_gf 14 hR.2 e_MM_tick_55 f_MM_38 rfl rfl ?_
            refine p_iload_n e_MM_tick_58 rfl ?_
            refine r_lb 14 hR rfl (by decide) rfl e_MM_tick_59 (rfl) (by show _ < 4; omega) (RR.o14 id h51) ?_
            refine p_if_ne (tgt := 81) e_MM_tick_60 (by decide) (fun h60 => ?_) (fun h60 => ?_)
            · exact go σ (by rw [if_neg (fun q => h60 q.2.1)]; exact hR)
            refine p_aload_n e_MM_tick_63 rfl ?_
            refine x_gf 19 hR.2 e_MM_tick_64 f_MM_53 rfl rfl ?_
            refine p_iload_n e_MM_tick_67 rfl ?_
            refine r_ld 19 hR rfl (by decide) rfl e_MM_tick_68 (rfl) (by show _ < 4; omega) (hR.pl rfl) ?_
            refine p_aload_n e_MM_tick_69 rfl ?_
            refine x_g4 hR.2 e_MM_tick_70 f_MM_158 rfl ?_
            refine p_icmp_ne (tgt := 81) e_MM_tick_73 (by decide) (fun h73 => ?_) (fun h73 => ?_)
            · exact go σ (by rw [if_neg (fun q => h73 q.2.2)]; exact hR)
            · refine p_aload_n e_MM_tick_76 rfl ?_
              refine p_iload_n e_MM_tick_77 rfl ?_
              refine p_inv (ci := 8) (d' := 5) [_] _ e_MM_tick_78 c_MM_164 k_MM_repeat i_MM_repeat s_MM_repeat rfl rfl (by assumption) rfl rfl (Nat.le_of_ble_eq_true rfl) (Nat.le_of_ble_eq_true rfl) ?_
              refine sp_MM_repeat hcN hb' e15 e13 hQ1.1 hR (fun σ2 hR2 => ?_)
              exact go σ2 (by rw [if_pos ⟨h51, h60, h73⟩]; exact hR2)
        refine p_iload_n e_MM_tick_20 rfl ?_
        refine p_iload_n e_MM_tick_21 rfl ?_
        refine p_icmp_ge (tgt := 93) e_MM_tick_22 (by decide) (fun hx => absurd hx (nI_ge (by omega) (by omega))) (fun _ => ?_)
        refine p_aload_n e_MM_tick_25 rfl ?_
        refine p_dup e_MM_tick_26 ?_
        refine x_g4 hR.2 e_MM_tick_27 f_MM_158 rfl ?_
        refine p_iconst (x := 1) e_MM_tick_30 (by decide) ?_
        refine p_iadd e_MM_tick_31 ?_
        refine r_pt hR e_MM_tick_32 f_MM_158 (fun q h => by cases h; exact Or.inl rfl) (fun σ hR => ?_)
        refine p_iconst (x := 0) e_MM_tick_35 (by decide) ?_
        refine p_istore_n e_MM_tick_36 (by decide) ?_
        exact Wp.lv2 (inner N 0 (by omega) _ hR) ⟨rfl, rfl, rfl, rfl, trivial⟩
    refine p_iconst (x := 0) e_MM_tick_18 (by decide) ?_
    refine p_istore_n e_MM_tick_19 (by decide) ?_
    exact Wp.lv2 (outer t 0 (by omega) _ hR) ⟨rfl, rfl, rfl, trivial⟩
  · exact Wp.lv2 (no (fun q => absurd q.2 (fun z => h13 z))) trivial
end RefI
