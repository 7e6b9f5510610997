/-! the reference: issue, getting tokens, evict -/
section RefJ
variable {M : MM} {d pc : Nat} {lv : List (Nat × PV)} {st : List PV} {σ : PS} {P : Option PV → PS → Prop} {N m T : Nat} {Z : Nat → Nat} {σ0 : PS} {D : Nat → Nat → Prop} {A : AS} {eb eo : Nat → Nat}
/-- an access begins: what will be written -/
theorem RR.bg0 {c : Nat} (hR : RR N m Z σ0 nD σ A) (h12 : sv A 12 c = 0) : RR N m Z σ0 (fun k i => (k = 12 ∨ k = 14) ∧ i = c) σ (set1 A 12 c 1) := by
  refine ⟨fun k i q => by omega, hR.2.cg rfl (fun _ _ => rfl) (fun k hk => by rw [sv_set1, if_neg (by omega)]) (fun k i y1 y2 y3 y4 => ⟨?_, ?_⟩)⟩
  · rintro (z | z)
    · refine y4 ?_
      by_cases e : (k = 12 ∨ k = 14) ∧ i = c
      · exact Or.inr e
      · refine Or.inl ?_
        unfold Ex at z ⊢
        rw [sv_set1 (k' := 9), if_neg (by omega), sv_set1 (k' := 40), if_neg (by omega), sv_set1 (k' := 29), if_neg (by omega), sv_set1 (k' := 38), if_neg (by omega)]
        rcases z with z | z | z | z
        · exact Or.inl z
        · exact Or.inr (Or.inl z)
        · refine Or.inr (Or.inr (Or.inl ⟨z.1, ?_⟩))
          rw [sv_set1, if_neg (by omega)]
          exact z.2
        · exact Or.inr (Or.inr (Or.inr z))
    · exact z
  · rw [sv_set1, if_neg]
    rintro ⟨rfl, rfl⟩
    exact y4 (Or.inr ⟨Or.inl rfl, rfl⟩)
theorem bg_eq {c : Nat} {w b v : Int32} (k i : Nat) : sv (bgA A c w b v) k i = sv (set1 (set1 (set1 (set1 (set1 (set1 (set1 A 12 c 1) 15 c b) 13 c w) 16 c v) 17 c (sv A 17 c + 1)) 18 c 0) 14 c 0) k i := by
  rw [sv_bgA, sv_set1, sv_set1, sv_set1, sv_set1, sv_set1, sv_set1, sv_set1]
  by_cases e : i = c
  · subst e
    simp only [and_true, ite_true]
    by_cases e1 : k = 14
    · simp [e1]
    by_cases e2 : k = 18
    · simp [e2]
    by_cases e3 : k = 17
    · simp [e3]
    by_cases e4 : k = 16
    · simp [e4]
    by_cases e5 : k = 13
    · simp [e5]
    by_cases e6 : k = 15
    · simp [e6]
    by_cases e7 : k = 12
    · simp [e7]
    simp [e1, e2, e3, e4, e5, e6, e7]
  · simp [e]
set_option maxHeartbeats 4000000 in
theorem sp_MM_issue {c w b v : Int32} (hw : bz w) (hI : QI N T A) (hR : RR N m Z σ0 nD σ A)
    (k1 : ∀ c' b' σ', c' < N → b' < 2 → c = nI c' → b = nI b' → sv A 12 c' = 0 → RR N m Z σ0 nD σ' (isA N A c' b' w v) → (ceA N (bgA A c' w (nI b') v) c' b' → P (some (.inl 1)) σ') ∧ (¬ ceA N (bgA A c' w (nI b') v) c' b' → P (some (.inl 0)) σ'))
    (k2 : ∀ c' σ', c' < N → c = nI c' → isB b → sv A 12 c' ≠ 0 → RR N m Z σ0 nD σ' A → P (some (.inl (-2))) σ') (k0 : ∀ σ', ¬ (isC N c ∧ isB b) → RR N m Z σ0 nD σ' A → P (some (.inl (-1))) σ') : Ctr m_MM_issue 5 [.inr m, .inl c, .inl w, .inl b, .inl v] σ P := by
  have hN := hR.2.hN
  refine Ctr.of y_MM_issue (Nat.le_of_ble_eq_true rfl) ?_
  refine p_aload_n e_MM_issue_0 rfl ?_
  refine p_iconst (x := 0) e_MM_issue_1 (by decide) ?_
  refine r_p0 hR e_MM_issue_2 f_MM_123 (fun q h => by cases h; exact Or.inl rfl) (fun σ hR => ?_)
  refine p_aload_n e_MM_issue_5 rfl ?_
  refine p_iload_n e_MM_issue_6 rfl ?_
  have tm := hR.tg
  have no : ¬ (isC N c ∧ isB b) → Wp m_MM_issue 5 20 [] [] σ (fun v σ' => RV m_MM_issue.2.2.2 v ∧ P v σ') := by
    intro hy
    refine p_iconst (x := (-1)) e_MM_issue_20 (by decide) ?_
    refine p_iret e_MM_issue_21 (rv_i ?_)
    exact k0 _ hy hR
  refine p_inv (ci := 8) (d' := 1) [_] _ e_MM_issue_7 c_MM_145 k_MM_isCore i_MM_isCore s_MM_isCore rfl rfl (by assumption) rfl rfl (Nat.le_of_ble_eq_true rfl) (Nat.le_of_ble_eq_true rfl) ?_
  refine sp_MM_isCore hR (fun y1 y2 => ?_) (fun y => ?_)
  · refine p_if_eq (tgt := 20) e_MM_issue_10 (by decide) (fun hx => absurd hx ((by decide))) (fun _ => ?_)
    refine p_iload_n e_MM_issue_13 rfl ?_
    refine p_stat (d' := 1) [_] _ e_MM_issue_14 c_MM_149 k_MM_isBlock t_MM_isBlock rfl rfl (Nat.le_of_ble_eq_true rfl) (Nat.le_of_ble_eq_true rfl) ?_
    refine sp_MM_isBlock (fun z1 z2 => ?_) (fun z => ?_)
    · refine p_if_ne (tgt := 22) e_MM_issue_17 (by decide) (fun _ => ?_) (fun hx => absurd hx ((by decide)))
      obtain ⟨c', hc, rfl⟩ := ix (by omega) y1 y2
      obtain ⟨b', hb, rfl⟩ := ix2 z1 z2
      refine p_aload_n e_MM_issue_22 rfl ?_
      refine x_gf 12 hR.2 e_MM_issue_23 f_MM_32 rfl rfl ?_
      refine p_iload_n e_MM_issue_26 rfl ?_
      refine r_lb 12 hR rfl (by decide) rfl e_MM_issue_27 (rfl) (by show _ < 4; omega) (ok_12) ?_
      refine p_if_eq (tgt := 34) e_MM_issue_28 (by decide) (fun h28 => ?_) (fun h28 => ?_)
      · have hR1 := hR.bg0 h28
        have k11 := k1 c' b'
        have hI1 := hI.iv.bg (c := c') (w := w) (v := v) hb hw
        have s17 : ∀ (B : AS), sv (set1 (set1 (set1 (set1 A 12 c' 1) 15 c' (nI b')) 13 c' w) 16 c' v) 17 c' = sv A 17 c' := fun _ => by rw [sv_set1, if_neg (by omega), sv_set1, if_neg (by omega), sv_set1, if_neg (by omega), sv_set1, if_neg (by omega)]
        replace hR := hR1
        refine p_aload_n e_MM_issue_34 rfl ?_
        refine x_gf 15 hR.2 e_MM_issue_35 f_MM_41 rfl rfl ?_
        refine p_iload_n e_MM_issue_38 rfl ?_
        refine p_iload_n e_MM_issue_39 rfl ?_
        refine r_sd 15 hR rfl rfl (by decide) rfl e_MM_issue_40 (rfl) (by show _ < 4; omega) (fun σ hR => ?_)
        refine p_aload_n e_MM_issue_41 rfl ?_
        refine x_gf 13 hR.2 e_MM_issue_42 f_MM_35 rfl rfl ?_
        refine p_iload_n e_MM_issue_45 rfl ?_
        refine p_iload_n e_MM_issue_46 rfl ?_
        refine r_sdb 13 hR rfl rfl (by decide) rfl e_MM_issue_47 (rfl) (by show _ < 4; omega) (by first | assumption | exact Or.inl rfl | exact Or.inr rfl | exact bz_if) (fun σ hR => ?_)
        refine p_aload_n e_MM_issue_48 rfl ?_
        refine x_gf 16 hR.2 e_MM_issue_49 f_MM_44 rfl rfl ?_
        refine p_iload_n e_MM_issue_52 rfl ?_
        refine p_iload e_MM_issue_53 rfl ?_
        refine r_sd 16 hR rfl rfl (by decide) rfl e_MM_issue_55 (rfl) (by show _ < 4; omega) (fun σ hR => ?_)
        refine p_aload_n e_MM_issue_56 rfl ?_
        refine x_gf 17 hR.2 e_MM_issue_57 f_MM_47 rfl rfl ?_
        refine p_iload_n e_MM_issue_60 rfl ?_
        refine p_dup2 e_MM_issue_61 ?_
        refine r_ldv 17 (v := sv A 17 c') hR rfl (by decide) rfl e_MM_issue_62 (rfl) (by show _ < 4; omega) (hR.pl rfl) (s17 A) ?_
        refine p_iconst (x := 1) e_MM_issue_63 (by decide) ?_
        refine p_iadd e_MM_issue_64 ?_
        refine r_sd 17 hR rfl rfl (by decide) rfl e_MM_issue_65 (rfl) (by show _ < 4; omega) (fun σ hR => ?_)
        refine p_aload_n e_MM_issue_66 rfl ?_
        refine x_gf 18 hR.2 e_MM_issue_67 f_MM_50 rfl rfl ?_
        refine p_iload_n e_MM_issue_70 rfl ?_
        refine p_iconst (x := 0) e_MM_issue_71 (by decide) ?_
        refine r_sd 18 hR rfl rfl (by decide) rfl e_MM_issue_72 (rfl) (by show _ < 4; omega) (fun σ hR => ?_)
        refine p_aload_n e_MM_issue_73 rfl ?_
        refine x_gf 14 hR.2 e_MM_issue_74 f_MM_38 rfl rfl ?_
        refine p_iload_n e_MM_issue_77 rfl ?_
        refine p_iconst (x := 0) e_MM_issue_78 (by decide) ?_
        refine r_sb 14 hR rfl rfl rfl e_MM_issue_79 rfl (by show _ < 4; omega) (Or.inl rfl) (fun σ hR => ?_)
        have hR : RR N m Z σ0 (fun k i => k = 12 ∧ i = c') σ (bgA A c' w (nI b') v) := RR.eq (hR.nd (fun k i q => by omega) (fun k i q => by omega)) rfl rfl (fun k i => bg_eq k i)
        have e15 : sv (bgA A c' w (nI b') v) 15 c' = nI b' := by rw [sv_bgA]; simp
        have e12 : sv (bgA A c' w (nI b') v) 12 c' = 1 := by rw [sv_bgA]; simp
        have k12 := fun σ' h1 => k11 σ' hc hb rfl rfl h28 h1
        unfold isA at k12
        clear k11 k1
        generalize bgA A c' w (nI b') v = B at *
        have tm := hR.tg
        refine p_aload_n e_MM_issue_80 rfl ?_
        refine p_iload_n e_MM_issue_81 rfl ?_
        refine p_inv (ci := 8) (d' := 1) [_] _ e_MM_issue_82 c_MM_152 k_MM_canEnd i_MM_canEnd s_MM_canEnd rfl rfl (by assumption) rfl rfl (Nat.le_of_ble_eq_true rfl) (Nat.le_of_ble_eq_true rfl) ?_
        refine sp_MM_canEnd hc hb e15 hR (fun w1 => ?_) (fun w0 => ?_)
        · refine p_if_eq (tgt := 95) e_MM_issue_85 (by decide) (fun hx => absurd hx ((by decide))) (fun _ => ?_)
          refine p_aload_n e_MM_issue_88 rfl ?_
          refine p_iload_n e_MM_issue_89 rfl ?_
          refine p_inv (ci := 8) (d' := 4) [_] _ e_MM_issue_90 c_MM_155 k_MM_endd i_MM_endd s_MM_endd rfl rfl (by assumption) rfl rfl (Nat.le_of_ble_eq_true rfl) (Nat.le_of_ble_eq_true rfl) ?_
          refine sp_MM_end hc hb e15 (by rw [e12]; decide) hI1.1 (fun k i q => q) hR (fun σ hR => ?_)
          refine p_iconst (x := 1) e_MM_issue_93 (by decide) ?_
          refine p_iret e_MM_issue_94 (rv_i ?_)
          have e : isT N B c' b' = enA N B c' b' := if_pos w1
          exact (k12 _ (by rw [e]; exact hR)).1 w1
        · refine p_if_eq (tgt := 95) e_MM_issue_85 (by decide) (fun _ => ?_) (fun hx => absurd (rfl) hx)
          refine p_aload_n e_MM_issue_95 rfl ?_
          refine x_gf 12 hR.2 e_MM_issue_96 f_MM_32 rfl rfl ?_
          refine p_iload_n e_MM_issue_99 rfl ?_
          refine p_iconst (x := 1) e_MM_issue_100 (by decide) ?_
          refine r_s12s hR e_MM_issue_101 rfl (show c' < 4 by omega) e12.symm (Or.inr rfl) (fun σ hR => ?_)
          have hR : RR N m Z σ0 nD σ B := hR.n0 (fun k i q => q.2 q.1)
          refine p_aload_n e_MM_issue_102 rfl ?_
          refine x_gf 19 hR.2 e_MM_issue_103 f_MM_53 rfl rfl ?_
          refine p_iload_n e_MM_issue_106 rfl ?_
          refine p_aload_n e_MM_issue_107 rfl ?_
          refine x_g4 hR.2 e_MM_issue_108 f_MM_158 rfl ?_
          refine p_aload_n e_MM_issue_111 rfl ?_
          refine x_g3 hR.2 e_MM_issue_112 f_MM_120 rfl ?_
          refine p_iadd e_MM_issue_115 ?_
          refine r_sn 19 hR rfl rfl rfl e_MM_issue_116 (rfl) (by show _ < 4; omega) (fun σ hR => ?_)
          have hI2 : LI N (set1 B 19 c' (sv B 4 0 + sv B 3 0)) z0 z0 := hI1.1.set (by unfold rel; omega)
          have er : rwk (set1 B 19 c' (sv B 4 0 + sv B 3 0)) c' = rwk B c' := rfl
          have e15' : sv (set1 B 19 c' (sv B 4 0 + sv B 3 0)) 15 c' = nI b' := e15
          have tm := hR.tg
          refine p_aload_n e_MM_issue_117 rfl ?_
          refine p_iload_n e_MM_issue_118 rfl ?_
          refine p_inv (ci := 8) (d' := 4) [_] _ e_MM_issue_119 c_MM_161 k_MM_ask i_MM_ask s_MM_ask rfl rfl (by assumption) rfl rfl (Nat.le_of_ble_eq_true rfl) (Nat.le_of_ble_eq_true rfl) ?_
          refine sp_MM_ask (eb := z0) (eo := z0) hc (fun x hx => ?_) hR (fun σ hR => ?_)
          · rw [e15']
            exact LI.ak hI2 hc hb rwk_12 x hx
          · rw [er, e15'] at hR
            refine p_iconst (x := 0) e_MM_issue_122 (by decide) ?_
            refine p_iret e_MM_issue_123 (rv_i ?_)
            have e : isT N B c' b' = _ := if_neg w0
            exact (k12 _ (by rw [e]; exact hR)).2 w0
      · refine p_bipush (x := (-2)) e_MM_issue_31 (by decide) ?_
        refine p_iret e_MM_issue_33 (rv_i ?_)
        exact k2 c' _ hc rfl ⟨z1, z2⟩ h28 hR
    · refine p_if_ne (tgt := 22) e_MM_issue_17 (by decide) (fun hx => absurd (rfl) hx) (fun _ => ?_)
      exact Wp.lv2 (no (fun q => z q.2)) trivial
  · refine p_if_eq (tgt := 20) e_MM_issue_10 (by decide) (fun _ => ?_) (fun hx => absurd (rfl) hx)
    exact Wp.lv2 (no (fun q => y q.1)) trivial
set_option maxHeartbeats 4000000 in
theorem sp_MM_getTokens {x b : Nat} {ct ow wd dt : Int32} (hx : x ≤ N) (hb : b < 2) (hI : LI N (gtA A (2 * x + b) ct ow wd dt) eb eo) (hR : RR N m Z σ0 nD σ A) (hP : ∀ σ', RR N m Z σ0 nD σ' (tkA N A x b ct ow wd dt) → P none σ') : Ctr m_MM_getTokens 6 [.inr m, .inl (nI x), .inl (nI b), .inl ct, .inl ow, .inl wd, .inl dt] σ P := by
  have hN := hR.2.hN
  refine Ctr.of y_MM_getTokens (Nat.le_of_ble_eq_true rfl) ?_
  have rest : ∀ σ : PS, RR N m Z σ0 nD σ (gtA A (2 * x + b) ct ow wd dt) → Wp m_MM_getTokens 6 72 [(7, .inl (nI (2 * x + b))), (0, .inr m), (1, .inl (nI x)), (2, .inl (nI b)), (3, .inl ct), (4, .inl ow), (5, .inl wd), (6, .inl dt)] [] σ (fun v σ' => RV m_MM_getTokens.2.2.2 v ∧ P v σ') := by
    intro σ hR
    have tm := hR.tg
    unfold tkA at hP
    generalize gtA A (2 * x + b) ct ow wd dt = B at *
    refine p_aload_n e_MM_getTokens_72 rfl ?_
    refine p_iload_n e_MM_getTokens_73 rfl ?_
    refine p_iload_n e_MM_getTokens_74 rfl ?_
    refine p_inv (ci := 8) (d' := 5) [_, _] _ e_MM_getTokens_75 c_MM_173 k_MM_giveWay i_MM_giveWay s_MM_giveWay rfl rfl (by assumption) rfl rfl (Nat.le_of_ble_eq_true rfl) (Nat.le_of_ble_eq_true rfl) ?_
    refine sp_MM_giveWay hx hb hI hR (fun σ hR => ?_)
    have hI2 := hI.gw hx hb
    generalize gwA B x b = C at *
    have tm := hR.tg
    have stop : ¬ (x < N ∧ sv C 12 x ≠ 0 ∧ sv C 15 x = nI b ∧ ceA N C x b) → Wp m_MM_getTokens 6 118 [] [] σ (fun v σ' => RV m_MM_getTokens.2.2.2 v ∧ P v σ') := by
      intro hy
      rw [if_neg hy] at hP
      refine p_ret e_MM_getTokens_118 (rv_v ?_)
      exact hP _ hR
    refine p_iload_n e_MM_getTokens_78 rfl ?_
    refine p_aload_n e_MM_getTokens_79 rfl ?_
    refine x_gN hR.2 e_MM_getTokens_80 f_MM_113 rfl ?_
    by_cases hxN : x < N
    · refine p_icmp_ge (tgt := 118) e_MM_getTokens_83 (by decide) (fun hx => absurd hx (nI_ge hxN (by omega))) (fun _ => ?_)
      refine p_aload_n e_MM_getTokens_86 rfl ?_
      refine x_gf 12 hR.2 e_MM_getTokens_87 f_MM_32 rfl rfl ?_
      refine p_iload_n e_MM_getTokens_90 rfl ?_
      refine r_lb 12 hR rfl (by decide) rfl e_MM_getTokens_91 (rfl) (by show _ < 4; omega) (ok_12) ?_
      refine p_if_eq (tgt := 118) e_MM_getTokens_92 (by decide) (fun h92 => ?_) (fun h92 => ?_)
      · exact Wp.lv2 (stop (fun q => q.2.1 h92)) trivial
      refine p_aload_n e_MM_getTokens_95 rfl ?_
      refine x_gf 15 hR.2 e_MM_getTokens_96 f_MM_41 rfl rfl ?_
      refine p_iload_n e_MM_getTokens_99 rfl ?_
      refine r_ld 15 hR rfl (by decide) rfl e_MM_getTokens_100 (rfl) (by show _ < 4; omega) (hR.pl rfl) ?_
      refine p_iload_n e_MM_getTokens_101 rfl ?_
      refine p_icmp_ne (tgt := 118) e_MM_getTokens_102 (by decide) (fun h102 => ?_) (fun h102 => ?_)
      · exact Wp.lv2 (stop (fun q => h102 q.2.2.1)) trivial
      refine p_aload_n e_MM_getTokens_105 rfl ?_
      refine p_iload_n e_MM_getTokens_106 rfl ?_
      refine p_inv (ci := 8) (d' := 1) [_] _ e_MM_getTokens_107 c_MM_152 k_MM_canEnd i_MM_canEnd s_MM_canEnd rfl rfl (by assumption) rfl rfl (Nat.le_of_ble_eq_true rfl) (Nat.le_of_ble_eq_true rfl) ?_
      refine sp_MM_canEnd hxN hb h102 hR (fun w1 => ?_) (fun w0 => ?_)
      · refine p_if_eq (tgt := 118) e_MM_getTokens_110 (by decide) (fun hx => absurd hx ((by decide))) (fun _ => ?_)
        refine p_aload_n e_MM_getTokens_113 rfl ?_
        refine p_iload_n e_MM_getTokens_114 rfl ?_
        refine p_inv (ci := 8) (d' := 4) [_] _ e_MM_getTokens_115 c_MM_155 k_MM_endd i_MM_endd s_MM_endd rfl rfl (by assumption) rfl rfl (Nat.le_of_ble_eq_true rfl) (Nat.le_of_ble_eq_true rfl) ?_
        refine sp_MM_end hxN hb h102 h92 hI2 (fun k i q => absurd q id) hR (fun σ hR => ?_)
        rw [if_pos ⟨hxN, h92, h102, w1⟩] at hP
        refine p_ret e_MM_getTokens_118 (rv_v ?_)
        exact hP _ hR
      · refine p_if_eq (tgt := 118) e_MM_getTokens_110 (by decide) (fun _ => ?_) (fun hx => absurd (rfl) hx)
        exact Wp.lv2 (stop (fun q => w0 q.2.2.2)) trivial
    · refine p_icmp_ge (tgt := 118) e_MM_getTokens_83 (by decide) (fun _ => ?_) (fun hx => absurd (nI_le (by omega) (by omega)) hx)
      exact Wp.lv2 (stop (fun q => hxN q.1)) trivial
  have tail : ∀ (σ : PS) (z : Int32), RR N m Z σ0 nD σ (set1 A 5 (2 * x + b) (sv A 5 (2 * x + b) + ct)) → z = (if sv A 6 (2 * x + b) ≠ 0 ∨ ow ≠ 0 then 1 else 0) → Wp m_MM_getTokens 6 49 [(7, .inl (nI (2 * x + b))), (0, .inr m), (1, .inl (nI x)), (2, .inl (nI b)), (3, .inl ct), (4, .inl ow), (5, .inl wd), (6, .inl dt)] [.inl z, .inl (nI (2 * x + b)), .inr (Z 6)] σ (fun v σ' => RV m_MM_getTokens.2.2.2 v ∧ P v σ') := by
    intro σ z hR ez
    subst ez
    unfold gtA at rest
    refine r_snb 6 hR rfl rfl rfl e_MM_getTokens_49 (rfl) (by show _ < 10; omega) (by first | assumption | exact Or.inl rfl | exact Or.inr rfl | exact bz_if) (fun σ hR => ?_)
    refine p_iload e_MM_getTokens_50 rfl ?_
    refine p_if_eq (tgt := 72) e_MM_getTokens_52 (by decide) (fun h52 => ?_) (fun h52 => ?_)
    · rw [if_pos h52] at rest
      exact rest _ hR
    · rw [if_neg h52] at rest
      refine p_aload_n e_MM_getTokens_55 rfl ?_
      refine x_gf 8 hR.2 e_MM_getTokens_56 f_MM_20 rfl rfl ?_
      refine p_iload e_MM_getTokens_59 rfl ?_
      refine p_iload e_MM_getTokens_61 rfl ?_
      refine r_sn 8 hR rfl rfl rfl e_MM_getTokens_63 (rfl) (by show _ < 10; omega) (fun σ hR => ?_)
      refine p_aload_n e_MM_getTokens_64 rfl ?_
      refine x_gf 7 hR.2 e_MM_getTokens_65 f_MM_17 rfl rfl ?_
      refine p_iload e_MM_getTokens_68 rfl ?_
      refine p_iconst (x := 1) e_MM_getTokens_70 (by decide) ?_
      refine r_snb 7 hR rfl rfl rfl e_MM_getTokens_71 (rfl) (by show _ < 10; omega) (by first | assumption | exact Or.inl rfl | exact Or.inr rfl | exact bz_if) (fun σ hR => ?_)
      exact rest _ (hR.eq rfl rfl (fun k i => (set_set (by omega) k i).symm))
  refine p_iconst (x := 2) e_MM_getTokens_0 (by decide) ?_
  refine p_iload_n e_MM_getTokens_1 rfl ?_
  refine p_imul e_MM_getTokens_2 ?_
  refine p_iload_n e_MM_getTokens_3 rfl ?_
  refine p_iadd e_MM_getTokens_4 ?_
  refine p_top (at2) ?_
  refine p_istore e_MM_getTokens_5 (by decide) ?_
  refine p_aload_n e_MM_getTokens_7 rfl ?_
  refine x_gf 5 hR.2 e_MM_getTokens_8 f_MM_7 rfl rfl ?_
  refine p_iload e_MM_getTokens_11 rfl ?_
  refine p_aload_n e_MM_getTokens_13 rfl ?_
  refine x_gf 5 hR.2 e_MM_getTokens_14 f_MM_7 rfl rfl ?_
  refine p_iload e_MM_getTokens_17 rfl ?_
  refine r_ld 5 hR rfl (by decide) rfl e_MM_getTokens_19 (rfl) (by show _ < 10; omega) (hR.pl rfl) ?_
  refine p_iload_n e_MM_getTokens_20 rfl ?_
  refine p_iadd e_MM_getTokens_21 ?_
  refine r_sn 5 hR rfl rfl rfl e_MM_getTokens_22 (rfl) (by show _ < 10; omega) (fun σ hR => ?_)
  refine p_aload_n e_MM_getTokens_23 rfl ?_
  refine x_gf 6 hR.2 e_MM_getTokens_24 f_MM_13 rfl rfl ?_
  refine p_iload e_MM_getTokens_27 rfl ?_
  refine p_aload_n e_MM_getTokens_29 rfl ?_
  refine x_gf 6 hR.2 e_MM_getTokens_30 f_MM_13 rfl rfl ?_
  refine p_iload e_MM_getTokens_33 rfl ?_
  refine r_lbv 6 (v := sv A 6 (2 * x + b)) hR rfl (by decide) rfl e_MM_getTokens_35 (rfl) (by show _ < 10; omega) (hR.pl rfl) ((by rw [sv_set1, if_neg (by omega)])) ?_
  refine p_if_ne (tgt := 44) e_MM_getTokens_36 (by decide) (fun h36 => ?_) (fun h36 => ?_)
  · refine p_iconst (x := 1) e_MM_getTokens_44 (by decide) ?_
    refine p_goto (tgt := 49) e_MM_getTokens_45 (by decide) ?_
    exact Wp.lv2 (tail _ 1 hR (by rw [if_pos (Or.inl h36)])) ⟨rfl, rfl, rfl, rfl, rfl, rfl, rfl, rfl, trivial⟩
  refine p_iload e_MM_getTokens_39 rfl ?_
  refine p_if_eq (tgt := 48) e_MM_getTokens_41 (by decide) (fun h41 => ?_) (fun h41 => ?_)
  · refine p_iconst (x := 0) e_MM_getTokens_48 (by decide) ?_
    exact Wp.lv2 (tail _ 0 hR (by rw [if_neg]; rintro (q | q); exact q h36; exact q h41)) ⟨rfl, rfl, rfl, rfl, rfl, rfl, rfl, rfl, trivial⟩
  · refine p_iconst (x := 1) e_MM_getTokens_44 (by decide) ?_
    refine p_goto (tgt := 49) e_MM_getTokens_45 (by decide) ?_
    exact Wp.lv2 (tail _ 1 hR (by rw [if_pos (Or.inr h41)])) ⟨rfl, rfl, rfl, rfl, rfl, rfl, rfl, rfl, trivial⟩
theorem own_wd (hI : LI N A eb eo) {x b : Nat} (hx : x ≤ N) (hb : b < 2) : (if (sv A 6 (2 * x + b) ≠ 0 ∨ (0 : Int32) ≠ 0) ∧ sv A 7 (2 * x + b) ≠ 0 then (1 : Int32) else 0) = sv A 6 (2 * x + b) := by
  obtain ⟨-, ⟨w6, w7, w10⟩, wv, w9⟩ := hI.cwf hx hb
  rcases w6 with q | q
  · rw [q, if_neg]; rintro ⟨y | y, -⟩ <;> exact y rfl
  · rw [q, if_pos ⟨Or.inl (by decide), by rw [(wv q).1]; decide⟩]
set_option maxHeartbeats 4000000 in
theorem sp_MM_evict {c b : Int32} (hI : QI N T A) (hR : RR N m Z σ0 nD σ A)
    (k1 : ∀ c' b' σ', c' < N → b' < 2 → c = nI c' → b = nI b' → sv A 5 (2 * c' + b') ≠ 0 → ¬ (sv A 12 c' ≠ 0 ∧ sv A 15 c' = b) → RR N m Z σ0 nD σ' (gvA A c' b' (nI N) (sv A 5 (2 * c' + b')) (sv A 6 (2 * c' + b')) (sv A 6 (2 * c' + b'))) → P (some (.inl 1)) σ')
    (k2 : ∀ c' b' σ', c' < N → b' < 2 → c = nI c' → b = nI b' → (sv A 5 (2 * c' + b') = 0 ∨ (sv A 12 c' ≠ 0 ∧ sv A 15 c' = b)) → RR N m Z σ0 nD σ' A → P (some (.inl 0)) σ') (k0 : ∀ σ', ¬ (isC N c ∧ isB b) → RR N m Z σ0 nD σ' A → P (some (.inl 0)) σ') : Ctr m_MM_evict 5 [.inr m, .inl c, .inl b] σ P := by
  have hN := hR.2.hN
  have hl := hI.1.bound
  refine Ctr.of y_MM_evict (Nat.le_of_ble_eq_true rfl) ?_
  refine p_aload_n e_MM_evict_0 rfl ?_
  refine p_iconst (x := 0) e_MM_evict_1 (by decide) ?_
  refine r_p0 hR e_MM_evict_2 f_MM_123 (fun q h => by cases h; exact Or.inl rfl) (fun σ hR => ?_)
  refine p_aload_n e_MM_evict_5 rfl ?_
  refine p_iload_n e_MM_evict_6 rfl ?_
  have tm := hR.tg
  refine p_inv (ci := 8) (d' := 1) [_] _ e_MM_evict_7 c_MM_145 k_MM_isCore i_MM_isCore s_MM_isCore rfl rfl (by assumption) rfl rfl (Nat.le_of_ble_eq_true rfl) (Nat.le_of_ble_eq_true rfl) ?_
  have no : ¬ (isC N c ∧ isB b) → Wp m_MM_evict 5 52 [] [] σ (fun v σ' => RV m_MM_evict.2.2.2 v ∧ P v σ') := by
    intro hy
    refine p_iconst (x := 0) e_MM_evict_52 (by decide) ?_
    refine p_iret e_MM_evict_53 (rv_z (by first | assumption | exact Or.inl rfl | exact Or.inr rfl) ?_)
    exact k0 _ hy hR
  refine sp_MM_isCore hR (fun y1 y2 => ?_) (fun y => ?_)
  · refine p_if_eq (tgt := 52) e_MM_evict_10 (by decide) (fun hx => absurd hx ((by decide))) (fun _ => ?_)
    refine p_iload_n e_MM_evict_13 rfl ?_
    refine p_stat (d' := 1) [_] _ e_MM_evict_14 c_MM_149 k_MM_isBlock t_MM_isBlock rfl rfl (Nat.le_of_ble_eq_true rfl) (Nat.le_of_ble_eq_true rfl) ?_
    refine sp_MM_isBlock (fun z1 z2 => ?_) (fun z => ?_)
    · refine p_if_eq (tgt := 52) e_MM_evict_17 (by decide) (fun hx => absurd hx ((by decide))) (fun _ => ?_)
      obtain ⟨c', hc, rfl⟩ := ix (by omega) y1 y2
      obtain ⟨b', hb, rfl⟩ := ix2 z1 z2
      have bad : (sv A 5 (2 * c' + b') = 0 ∨ (sv A 12 c' ≠ 0 ∧ sv A 15 c' = nI b')) → Wp m_MM_evict 5 52 [] [] σ (fun v σ' => RV m_MM_evict.2.2.2 v ∧ P v σ') := by
        intro hy
        refine p_iconst (x := 0) e_MM_evict_52 (by decide) ?_
        refine p_iret e_MM_evict_53 (rv_z (by first | assumption | exact Or.inl rfl | exact Or.inr rfl) ?_)
        exact k2 c' b' _ hc hb rfl rfl hy hR
      have good : sv A 5 (2 * c' + b') ≠ 0 → ¬ (sv A 12 c' ≠ 0 ∧ sv A 15 c' = nI b') → Wp m_MM_evict 5 54 [(0, .inr m), (1, .inl (nI c')), (2, .inl (nI b'))] [] σ (fun v σ' => RV m_MM_evict.2.2.2 v ∧ P v σ') := by
        intro h1 h2
        refine p_aload_n e_MM_evict_54 rfl ?_
        refine p_iload_n e_MM_evict_55 rfl ?_
        refine p_iload_n e_MM_evict_56 rfl ?_
        refine p_aload_n e_MM_evict_57 rfl ?_
        refine x_gN hR.2 e_MM_evict_58 f_MM_113 rfl ?_
        refine p_aload_n e_MM_evict_61 rfl ?_
        refine x_gf 5 hR.2 e_MM_evict_62 f_MM_7 rfl rfl ?_
        refine p_iconst (x := 2) e_MM_evict_65 (by decide) ?_
        refine p_iload_n e_MM_evict_66 rfl ?_
        refine p_imul e_MM_evict_67 ?_
        refine p_iload_n e_MM_evict_68 rfl ?_
        refine p_iadd e_MM_evict_69 ?_
        refine p_top (at2) ?_
        refine r_ld 5 hR rfl (by decide) rfl e_MM_evict_70 (rfl) (by show _ < 10; omega) (hR.pl rfl) ?_
        refine p_aload_n e_MM_evict_71 rfl ?_
        refine x_gf 6 hR.2 e_MM_evict_72 f_MM_13 rfl rfl ?_
        refine p_iconst (x := 2) e_MM_evict_75 (by decide) ?_
        refine p_iload_n e_MM_evict_76 rfl ?_
        refine p_imul e_MM_evict_77 ?_
        refine p_iload_n e_MM_evict_78 rfl ?_
        refine p_iadd e_MM_evict_79 ?_
        refine p_top (at2) ?_
        refine r_lb 6 hR rfl (by decide) rfl e_MM_evict_80 (rfl) (by show _ < 10; omega) (hR.pl rfl) ?_
        refine p_iconst (x := 0) e_MM_evict_81 (by decide) ?_
        refine p_inv (ci := 8) (d' := 4) [_, _, _, _, _, _] _ e_MM_evict_82 c_MM_141 k_MM_give i_MM_give s_MM_give rfl rfl (by assumption) rfl rfl (Nat.le_of_ble_eq_true rfl) (Nat.le_of_ble_eq_true rfl) ?_
        refine sp_MM_give (by omega) hb (hI.1.own (by omega) hb) (by omega) hR (fun σ hR => ?_)
        rw [own_wd hI.1 (by omega) hb] at hR
        refine p_iconst (x := 1) e_MM_evict_85 (by decide) ?_
        refine p_iret e_MM_evict_86 (rv_z (by first | assumption | exact Or.inl rfl | exact Or.inr rfl) ?_)
        exact k1 c' b' _ hc hb rfl rfl h1 h2 hR
      refine p_aload_n e_MM_evict_20 rfl ?_
      refine x_gf 5 hR.2 e_MM_evict_21 f_MM_7 rfl rfl ?_
      refine p_iconst (x := 2) e_MM_evict_24 (by decide) ?_
      refine p_iload_n e_MM_evict_25 rfl ?_
      refine p_imul e_MM_evict_26 ?_
      refine p_iload_n e_MM_evict_27 rfl ?_
      refine p_iadd e_MM_evict_28 ?_
      refine p_top (at2) ?_
      refine r_ld 5 hR rfl (by decide) rfl e_MM_evict_29 (rfl) (by show _ < 10; omega) (hR.pl rfl) ?_
      refine p_if_eq (tgt := 52) e_MM_evict_30 (by decide) (fun h30 => ?_) (fun h30 => ?_)
      · exact Wp.lv2 (bad (Or.inl h30)) trivial
      refine p_aload_n e_MM_evict_33 rfl ?_
      refine x_gf 12 hR.2 e_MM_evict_34 f_MM_32 rfl rfl ?_
      refine p_iload_n e_MM_evict_37 rfl ?_
      refine r_lb 12 hR rfl (by decide) rfl e_MM_evict_38 (rfl) (by show _ < 4; omega) (ok_12) ?_
      refine p_if_eq (tgt := 54) e_MM_evict_39 (by decide) (fun h39 => ?_) (fun h39 => ?_)
      · exact Wp.lv2 (good h30 (fun q => q.1 h39)) ⟨rfl, rfl, rfl, trivial⟩
      refine p_aload_n e_MM_evict_42 rfl ?_
      refine x_gf 15 hR.2 e_MM_evict_43 f_MM_41 rfl rfl ?_
      refine p_iload_n e_MM_evict_46 rfl ?_
      refine r_ld 15 hR rfl (by decide) rfl e_MM_evict_47 (rfl) (by show _ < 4; omega) (hR.pl rfl) ?_
      refine p_iload_n e_MM_evict_48 rfl ?_
      refine p_icmp_ne (tgt := 54) e_MM_evict_49 (by decide) (fun h49 => ?_) (fun h49 => ?_)
      · exact Wp.lv2 (good h30 (fun q => h49 q.2)) ⟨rfl, rfl, rfl, trivial⟩
      · exact Wp.lv2 (bad (Or.inr ⟨h39, h49⟩)) trivial
    · refine p_if_eq (tgt := 52) e_MM_evict_17 (by decide) (fun _ => ?_) (fun hx => absurd (rfl) hx)
      exact Wp.lv2 (no (fun q => z q.2)) trivial
  · refine p_if_eq (tgt := 52) e_MM_evict_10 (by decide) (fun _ => ?_) (fun hx => absurd (rfl) hx)
    exact Wp.lv2 (no (fun q => y q.1)) trivial
end RefJ
