/-! the reference: issue, getting tokens, evict -/
section RefL2
variable {M : MM} {d pc : Nat} {lv : List (Nat × PV)} {st : List PV} {σ : PS} {P : Option PV → PS → Prop} {N m T : Nat} {Z : Nat → Nat} {σ0 : PS} {D : Nat → Nat → Prop} {A : AS} {eb eo : Nat → Nat}
set_option maxHeartbeats 400000 in
theorem sp_MM_getTokens {x b : Nat} {ct ow wd dt : Int32} (hx : x ≤ N) (hb : b < 2) (hI : LI N (gtA A (2 * x + b) ct ow wd dt) eb eo) (hR : RR N m Z σ0 nD σ A) (hP : ∀ σ', RR N m Z σ0 nD σ' (tkA N A x b ct ow wd dt) → P none σ') : Ctr m_MM_getTokens 6 [.inr m, .inl (nI x), .inl (nI b), .inl ct, .inl ow, .inl wd, .inl dt] σ P := by
  have hN := hR.2.hN
  refine Ctr.of y_MM_getTokens (Nat.le_of_ble_eq_true rfl) ?_
  have rest : ∀ σ : PS, RR N m Z σ0 nD σ (gtA A (2 * x + b) ct ow wd dt) → Wp m_MM_getTokens 6 72 [(7, .inl (nI (2 * x + b))), (0, .inr m), (1, .inl (nI x)), (2, .inl (nI b)), (3, .inl ct), (4, .inl ow), (5, .inl wd), (6, .inl dt)] [] σ (fun v σ' => RV m_MM_getTokens.2.2.2 v ∧ P v σ') := by
    intro σ hR
    have tm := hR.tg
    unfold tkA at hP
    generalize gtA A (2 * x + b) ct ow wd dt = B at *
    refine p_aload_n e_MM_getTokens_72 rfl ?_
    refine p_iload_n e_MM_getTokens_73 rfl ?_
    refine p_iload_n e_MM_getTokens_74 rfl ?_
    refine p_inv (ci := 8) (d' := 5) [_, _] _ e_MM_getTokens_75 c_MM_173 k_MM_giveWay i_MM_giveWay s_MM_giveWay rfl rfl (by assumption) rfl rfl (Nat.le_of_ble_eq_true rfl) (Nat.le_of_ble_eq_true rfl) ?_
    refine sp_MM_giveWay hx hb hI hR (fun σ hR => ?_)
    have hI2 := hI.gw hx hb
    generalize gwA B x b = C at *
    have tm := hR.tg
    have stop : ¬ (x < N ∧ sv C 12 x ≠ 0 ∧ sv C 15 x = nI b ∧ ceA N C x b) → Wp m_MM_getTokens 6 118 [] [] σ (fun v σ' => RV m_MM_getTokens.2.2.2 v ∧ P v σ') := by
      intro hy
      rw [if_neg hy] at hP
      refine p_ret e_MM_getTokens_118 (rv_v ?_)
      exact hP _ hR
    refine p_iload_n e_MM_getTokens_78 rfl ?_
    refine p_aload_n e_MM_getTokens_79 rfl ?_
    refine x_gN hR.2 e_MM_getTokens_80 f_MM_113 rfl ?_
    by_cases hxN : x < N
    · refine p_icmp_ge (tgt := 118) e_MM_getTokens_83 (by decide) (fun hx => absurd hx (nI_ge hxN (by omega))) (fun _ => ?_)
      refine p_aload_n e_MM_getTokens_86 rfl ?_
      refine x_gf 12 hR.2 e_MM_getTokens_87 f_MM_32 rfl rfl ?_
      refine p_iload_n e_MM_getTokens_90 rfl ?_
      refine r_lb 12 hR rfl (by decide) rfl e_MM_getTokens_91 (rfl) (by show _ < 4; omega) (ok_12) ?_
      refine p_if_eq (tgt := 118) e_MM_getTokens_92 (by decide) (fun h92 => ?_) (fun h92 => ?_)
      · exact Wp.lv2 (stop (fun q => q.2.1 h92)) trivial
      refine p_aload_n e_MM_getTokens_95 rfl ?_
      refine x_gf 15 hR.2 e_MM_getTokens_96 f_MM_41 rfl rfl ?_
      refine p_iload_n e_MM_getTokens_99 rfl ?_
      refine r_ld 15 hR rfl (by decide) rfl e_MM_getTokens_100 (rfl) (by show _ < 4; omega) (hR.pl rfl) ?_
      refine p_iload_n e_MM_getTokens_101 rfl ?_
      refine p_icmp_ne (tgt := 118) e_MM_getTokens_102 (by decide) (fun h102 => ?_) (fun h102 => ?_)
      · exact Wp.lv2 (stop (fun q => h102 q.2.2.1)) trivial
      refine p_aload_n e_MM_getTokens_105 rfl ?_
      refine p_iload_n e_MM_getTokens_106 rfl ?_
      refine p_inv (ci := 8) (d' := 1) [_] _ e_MM_getTokens_107 c_MM_152 k_MM_canEnd i_MM_canEnd s_MM_canEnd rfl rfl (by assumption) rfl rfl (Nat.le_of_ble_eq_true rfl) (Nat.le_of_ble_eq_true rfl) ?_
      refine sp_MM_canEnd hxN hb h102 hR (fun w1 => ?_) (fun w0 => ?_)
      · refine p_if_eq (tgt := 118) e_MM_getTokens_110 (by decide) (fun hx => absurd hx ((by decide))) (fun _ => ?_)
        refine p_aload_n e_MM_getTokens_113 rfl ?_
        refine p_iload_n e_MM_getTokens_114 rfl ?_
        refine p_inv (ci := 8) (d' := 4) [_] _ e_MM_getTokens_115 c_MM_155 k_MM_endd i_MM_endd s_MM_endd rfl rfl (by assumption) rfl rfl (Nat.le_of_ble_eq_true rfl) (Nat.le_of_ble_eq_true rfl) ?_
        refine sp_MM_end hxN hb h102 h92 hI2 (fun k i q => absurd q id) hR (fun σ hR => ?_)
        rw [if_pos ⟨hxN, h92, h102, w1⟩] at hP
        refine p_ret e_MM_getTokens_118 (rv_v ?_)
        exact hP _ hR
      · refine p_if_eq (tgt := 118) e_MM_getTokens_110 (by decide) (fun _ => ?_) (fun hx => absurd (rfl) hx)
        exact Wp.lv2 (stop (fun q => w0 q.2.2.2)) trivial
    · refine p_icmp_ge (tgt := 118) e_MM_getTokens_83 (by decide) (fun _ => ?_) (fun hx => absurd (nI_le (by omega) (by omega)) hx)
      exact Wp.lv2 (stop (fun q => hxN q.1)) trivial
  have tail : ∀ (σ : PS) (z : Int32), RR N m Z σ0 nD σ (set1 A 5 (2 * x + b) (sv A 5 (2 * x + b) + ct)) → z = (if sv A 6 (2 * x + b) ≠ 0 ∨ ow ≠ 0 then 1 else 0) → Wp m_MM_getTokens 6 49 [(7, .inl (nI (2 * x + b))), (0, .inr m), (1, .inl (nI x)), (2, .inl (nI b)), (3, .inl ct), (4, .inl ow), (5, .inl wd), (6, .inl dt)] [.inl z, .inl (nI (2 * x + b)), .inr (Z 6)] σ (fun v σ' => RV m_MM_getTokens.2.2.2 v ∧ P v σ') := by
    intro σ z hR ez
    subst ez
    unfold gtA at rest
    refine r_snb 6 hR rfl rfl rfl e_MM_getTokens_49 (rfl) (by show _ < 10; omega) (by first | assumption | exact Or.inl rfl | exact Or.inr rfl | exact bz_if) (fun σ hR => ?_)
    refine p_iload e_MM_getTokens_50 rfl ?_
    refine p_if_eq (tgt := 72) e_MM_getTokens_52 (by decide) (fun h52 => ?_) (fun h52 => ?_)
    · rw [if_pos h52] at rest
      exact rest _ hR
    · rw [if_neg h52] at rest
      refine p_aload_n e_MM_getTokens_55 rfl ?_
      refine x_gf 8 hR.2 e_MM_getTokens_56 f_MM_20 rfl rfl ?_
      refine p_iload e_MM_getTokens_59 rfl ?_
      refine p_iload e_MM_getTokens_61 rfl ?_
      refine r_sn 8 hR rfl rfl rfl e_MM_getTokens_63 (rfl) (by show _ < 10; omega) (fun σ hR => ?_)
      refine p_aload_n e_MM_getTokens_64 rfl ?_
      refine x_gf 7 hR.2 e_MM_getTokens_65 f_MM_17 rfl rfl ?_
      refine p_iload e_MM_getTokens_68 rfl ?_
      refine p_iconst (x := 1) e_MM_getTokens_70 (by decide) ?_
      refine r_snb 7 hR rfl rfl rfl e_MM_getTokens_71 (rfl) (by show _ < 10; omega) (by first | assumption | exact Or.inl rfl | exact Or.inr rfl | exact bz_if) (fun σ hR => ?_)
      exact rest _ (hR.eq rfl rfl (fun k i => (set_set (by omega) k i).symm))
  refine p_iconst (x := 2) e_MM_getTokens_0 (by decide) ?_
  refine p_iload_n e_MM_getTokens_1 rfl ?_
  refine p_imul e_MM_getTokens_2 ?_
  refine p_iload_n e_MM_getTokens_3 rfl ?_
  refine p_iadd e_MM_getTokens_4 ?_
  refine p_top (at2) ?_
  refine p_istore e_MM_getTokens_5 (by decide) ?_
  refine p_aload_n e_MM_getTokens_7 rfl ?_
  refine x_gf 5 hR.2 e_MM_getTokens_8 f_MM_7 rfl rfl ?_
  refine p_iload e_MM_getTokens_11 rfl ?_
  refine p_aload_n e_MM_getTokens_13 rfl ?_
  refine x_gf 5 hR.2 e_MM_getTokens_14 f_MM_7 rfl rfl ?_
  refine p_iload e_MM_getTokens_17 rfl ?_
  refine r_ld 5 hR rfl (by decide) rfl e_MM_getTokens_19 (rfl) (by show _ < 10; omega) (hR.pl rfl) ?_
  refine p_iload_n e_MM_getTokens_20 rfl ?_
  refine p_iadd e_MM_getTokens_21 ?_
  refine r_sn 5 hR rfl rfl rfl e_MM_getTokens_22 (rfl) (by show _ < 10; omega) (fun σ hR => ?_)
  refine p_aload_n e_MM_getTokens_23 rfl ?_
  refine x_gf 6 hR.2 e_MM_getTokens_24 f_MM_13 rfl rfl ?_
  refine p_iload e_MM_getTokens_27 rfl ?_
  refine p_aload_n e_MM_getTokens_29 rfl ?_
  refine x_gf 6 hR.2 e_MM_getTokens_30 f_MM_13 rfl rfl ?_
  refine p_iload e_MM_getTokens_33 rfl ?_
  refine r_lbv 6 (v := sv A 6 (2 * x + b)) hR rfl (by decide) rfl e_MM_getTokens_35 (rfl) (by show _ < 10; omega) (hR.pl rfl) ((by rw [sv_set1, if_neg (by omega)])) ?_
  refine p_if_ne (tgt := 44) e_MM_getTokens_36 (by decide) (fun h36 => ?_) (fun h36 => ?_)
  · refine p_iconst (x := 1) e_MM_getTokens_44 (by decide) ?_
    refine p_goto (tgt := 49) e_MM_getTokens_45 (by decide) ?_
    exact Wp.lv2 (tail _ 1 hR (by rw [if_pos (Or.inl h36)])) ⟨rfl, rfl, rfl, rfl, rfl, rfl, rfl, rfl, trivial⟩
  refine p_iload e_MM_getTokens_39 rfl ?_
  refine p_if_eq (tgt := 48) e_MM_getTokens_41 (by decide) (fun h41 => ?_) (fun h41 => ?_)
  · refine p_iconst (x := 0) e_MM_getTokens_48 (by decide) ?_
    exact Wp.lv2 (tail _ 0 hR (by rw [if_neg]; rintro (q | q); exact q h36; exact q h41)) ⟨rfl, rfl, rfl, rfl, rfl, rfl, rfl, rfl, trivial⟩
  · refine p_iconst (x := 1) e_MM_getTokens_44 (by decide) ?_
    refine p_goto (tgt := 49) e_MM_getTokens_45 (by decide) ?_
    exact Wp.lv2 (tail _ 1 hR (by rw [if_pos (Or.inr h41)])) ⟨rfl, rfl, rfl, rfl, rfl, rfl, rfl, rfl, trivial⟩
theorem own_wd (hI : LI N A eb eo) {x b : Nat} (hx : x ≤ N) (hb : b < 2) : (if (sv A 6 (2 * x + b) ≠ 0 ∨ (0 : Int32) ≠ 0) ∧ sv A 7 (2 * x + b) ≠ 0 then (1 : Int32) else 0) = sv A 6 (2 * x + b) := by
  obtain ⟨-, ⟨w6, w7, w10⟩, wv, w9⟩ := hI.cwf hx hb
  rcases w6 with q | q
  · rw [q, if_neg]; rintro ⟨y | y, -⟩ <;> exact y rfl
  · rw [q, if_pos ⟨Or.inl (by decide), by rw [(wv q).1]; decide⟩]
set_option maxHeartbeats 400000 in
theorem sp_MM_evict {c b : Int32} (hI : QI N T A) (hR : RR N m Z σ0 nD σ A)
    (k1 : ∀ c' b' σ', c' < N → b' < 2 → c = nI c' → b = nI b' → sv A 5 (2 * c' + b') ≠ 0 → ¬ (sv A 12 c' ≠ 0 ∧ sv A 15 c' = b) → RR N m Z σ0 nD σ' (gvA A c' b' (nI N) (sv A 5 (2 * c' + b')) (sv A 6 (2 * c' + b')) (sv A 6 (2 * c' + b'))) → P (some (.inl 1)) σ')
    (k2 : ∀ c' b' σ', c' < N → b' < 2 → c = nI c' → b = nI b' → (sv A 5 (2 * c' + b') = 0 ∨ (sv A 12 c' ≠ 0 ∧ sv A 15 c' = b)) → RR N m Z σ0 nD σ' A → P (some (.inl 0)) σ') (k0 : ∀ σ', ¬ (isC N c ∧ isB b) → RR N m Z σ0 nD σ' A → P (some (.inl 0)) σ') : Ctr m_MM_evict 5 [.inr m, .inl c, .inl b] σ P := by
  have hN := hR.2.hN
  have hl := hI.1.bound
  refine Ctr.of y_MM_evict (Nat.le_of_ble_eq_true rfl) ?_
  refine p_aload_n e_MM_evict_0 rfl ?_
  refine p_iconst (x := 0) e_MM_evict_1 (by decide) ?_
  refine r_p0 hR e_MM_evict_2 f_MM_123 (fun q h => by cases h; exact Or.inl rfl) (fun σ hR => ?_)
  refine p_aload_n e_MM_evict_5 rfl ?_
  refine p_iload_n e_MM_evict_6 rfl ?_
  have tm := hR.tg
  refine p_inv (ci := 8) (d' := 1) [_] _ e_MM_evict_7 c_MM_145 k_MM_isCore i_MM_isCore s_MM_isCore rfl rfl (by assumption) rfl rfl (Nat.le_of_ble_eq_true rfl) (Nat.le_of_ble_eq_true rfl) ?_
  have no : ¬ (isC N c ∧ isB b) → Wp m_MM_evict 5 52 [] [] σ (fun v σ' => RV m_MM_evict.2.2.2 v ∧ P v σ') := by
    intro hy
    refine p_iconst (x := 0) e_MM_evict_52 (by decide) ?_
    refine p_iret e_MM_evict_53 (rv_z (by first | assumption | exact Or.inl rfl | exact Or.inr rfl) ?_)
    exact k0 _ hy hR
  refine sp_MM_isCore hR (fun y1 y2 => ?_) (fun y => ?_)
  · refine p_if_eq (tgt := 52) e_MM_evict_10 (by decide) (fun hx => absurd hx ((by decide))) (fun _ => ?_)
    refine p_iload_n e_MM_evict_13 rfl ?_
    refine p_stat (d' := 1) [_] _ e_MM_evict_14 c_MM_149 k_MM_isBlock t_MM_isBlock rfl rfl (Nat.le_of_ble_eq_true rfl) (Nat.le_of_ble_eq_true rfl) ?_
    refine sp_MM_isBlock (fun z1 z2 => ?_) (fun z => ?_)
    · refine p_if_eq (tgt := 52) e_MM_evict_17 (by decide) (fun hx => absurd hx ((by decide))) (fun _ => ?_)
      obtain ⟨c', hc, rfl⟩ := ix (by omega) y1 y2
      obtain ⟨b', hb, rfl⟩ := ix2 z1 z2
      have bad : (sv A 5 (2 * c' + b') = 0 ∨ (sv A 12 c' ≠ 0 ∧ sv A 15 c' = nI b')) → Wp m_MM_evict 5 52 [] [] σ (fun v σ' => RV m_MM_evict.2.2.2 v ∧ P v σ') := by
        intro hy
        refine p_iconst (x := 0) e_MM_evict_52 (by decide) ?_
        refine p_iret e_MM_evict_53 (rv_z (by first | assumption | exact Or.inl rfl | exact Or.inr rfl) ?_)
        exact k2 c' b' _ hc hb rfl rfl hy hR
      have good : sv A 5 (2 * c' + b') ≠ 0 → ¬ (sv A 12 c' ≠ 0 ∧ sv A 15 c' = nI b') → Wp m_MM_evict 5 54 [(0, .inr m), (1, .inl (nI c')), (2, .inl (nI b'))] [] σ (fun v σ' => RV m_MM_evict.2.2.2 v ∧ P v σ') := by
        intro h1 h2
        refine p_aload_n e_MM_evict_54 rfl ?_
        refine p_iload_n e_MM_evict_55 rfl ?_
        refine p_iload_n e_MM_evict_56 rfl ?_
        refine p_aload_n e_MM_evict_57 rfl ?_
        refine x_gN hR.2 e_MM_evict_58 f_MM_113 rfl ?_
        refine p_aload_n e_MM_evict_61 rfl ?_
        refine x_gf 5 hR.2 e_MM_evict_62 f_MM_7 rfl rfl ?_
        refine p_iconst (x := 2) e_MM_evict_65 (by decide) ?_
        refine p_iload_n e_MM_evict_66 rfl ?_
        refine p_imul e_MM_evict_67 ?_
        refine p_iload_n e_MM_evict_68 rfl ?_
        refine p_iadd e_MM_evict_69 ?_
        refine p_top (at2) ?_
        refine r_ld 5 hR rfl (by decide) rfl e_MM_evict_70 (rfl) (by show _ < 10; omega) (hR.pl rfl) ?_
        refine p_aload_n e_MM_evict_71 rfl ?_
        refine x_gf 6 hR.2 e_MM_evict_72 f_MM_13 rfl rfl ?_
        refine p_iconst (x := 2) e_MM_evict_75 (by decide) ?_
        refine p_iload_n e_MM_evict_76 rfl ?_
        refine p_imul e_MM_evict_77 ?_
        refine p_iload_n e_MM_evict_78 rfl ?_
        refine p_iadd e_MM_evict_79 ?_
        refine p_top (at2) ?_
        refine r_lb 6 hR rfl (by decide) rfl e_MM_evict_80 (rfl) (by show _ < 10; omega) (hR.pl rfl) ?_
        refine p_iconst (x := 0) e_MM_evict_81 (by decide) ?_
        refine p_inv (ci := 8) (d' := 4) [_, _, _, _, _, _] _ e_MM_evict_82 c_MM_141 k_MM_give i_MM_give s_MM_give rfl rfl (by assumption) rfl rfl (Nat.le_of_ble_eq_true rfl) (Nat.le_of_ble_eq_true rfl) ?_
        refine sp_MM_give (by omega) hb (hI.1.own (by omega) hb) (by omega) hR (fun σ hR => ?_)
        rw [own_wd hI.1 (by omega) hb] at hR
        refine p_iconst (x := 1) e_MM_evict_85 (by decide) ?_
        refine p_iret e_MM_evict_86 (rv_z (by first | assumption | exact Or.inl rfl | exact Or.inr rfl) ?_)
        exact k1 c' b' _ hc hb rfl rfl h1 h2 hR
      refine p_aload_n e_MM_evict_20 rfl ?_
      refine x_gf 5 hR.2 e_MM_evict_21 f_MM_7 rfl rfl ?_
      refine p_iconst (x := 2) e_MM_evict_24 (by decide) ?_
      refine p_iload_n e_MM_evict_25 rfl ?_
      refine p_imul e_MM_evict_26 ?_
      refine p_iload_n e_MM_evict_27 rfl ?_
      refine p_iadd e_MM_evict_28 ?_
      refine p_top (at2) ?_
      refine r_ld 5 hR rfl (by decide) rfl e_MM_evict_29 (rfl) (by show _ < 10; omega) (hR.pl rfl) ?_
      refine p_if_eq (tgt := 52) e_MM_evict_30 (by decide) (fun h30 => ?_) (fun h30 => ?_)
      · exact Wp.lv2 (bad (Or.inl h30)) trivial
      refine p_aload_n e_MM_evict_33 rfl ?_
      refine x_gf 12 hR.2 e_MM_evict_34 f_MM_32 rfl rfl ?_
      refine p_iload_n e_MM_evict_37 rfl ?_
      refine r_lb 12 hR rfl (by decide) rfl e_MM_evict_38 (rfl) (by show _ < 4; omega) (ok_12) ?_
      refine p_if_eq (tgt := 54) e_MM_evict_39 (by decide) (fun h39 => ?_) (fun h39 => ?_)
      · exact Wp.lv2 (good h30 (fun q => q.1 h39)) ⟨rfl, rfl, rfl, trivial⟩
      refine p_aload_n e_MM_evict_42 rfl ?_
      refine x_gf 15 hR.2 e_MM_evict_43 f_MM_41 rfl rfl ?_
      refine p_iload_n e_MM_evict_46 rfl ?_
      refine r_ld 15 hR rfl (by decide) rfl e_MM_evict_47 (rfl) (by show _ < 4; omega) (hR.pl rfl) ?_
      refine p_iload_n e_MM_evict_48 rfl ?_
      refine p_icmp_ne (tgt := 54) e_MM_evict_49 (by decide) (fun h49 => ?_) (fun h49 => ?_)
      · exact Wp.lv2 (good h30 (fun q => h49 q.2)) ⟨rfl, rfl, rfl, trivial⟩
      · exact Wp.lv2 (bad (Or.inr ⟨h39, h49⟩)) trivial
    · refine p_if_eq (tgt := 52) e_MM_evict_17 (by decide) (fun _ => ?_) (fun hx => absurd (rfl) hx)
      exact Wp.lv2 (no (fun q => z q.2)) trivial
  · refine p_if_eq (tgt := 52) e_MM_evict_10 (by decide) (fun _ => ?_) (fun hx => absurd (rfl) hx)
    exact Wp.lv2 (no (fun q => y q.1)) trivial
end RefL2
