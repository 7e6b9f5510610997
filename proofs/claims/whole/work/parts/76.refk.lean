/-! the reference: issue, getting tokens, evict -/
section RefK
variable {M : MM} {d pc : Nat} {lv : List (Nat × PV)} {st : List PV} {σ : PS} {P : Option PV → PS → Prop} {N m T : Nat} {Z : Nat → Nat} {σ0 : PS} {D : Nat → Nat → Prop} {A : AS} {eb eo : Nat → Nat}
set_option maxHeartbeats 400000 in
theorem wp_MM_bg {c b : Nat} {w v : Int32} {Q : Option PV → PS → Prop} (hc : c < N) (hw : bz w) (hR : RR N m Z σ0 (fun k i => (k = 12 ∨ k = 14) ∧ i = c) σ (set1 A 12 c 1))
    (kk : ∀ σ', RR N m Z σ0 (fun k i => k = 12 ∧ i = c) σ' (bgA A c w (nI b) v) → Wp m_MM_issue 5 80 [(0, .inr m), (1, .inl (nI c)), (2, .inl w), (3, .inl (nI b)), (4, .inl v)] [] σ' Q) : Wp m_MM_issue 5 34 [(0, .inr m), (1, .inl (nI c)), (2, .inl w), (3, .inl (nI b)), (4, .inl v)] [] σ Q := by
  have hN := hR.2.hN
  have s17 : sv (set1 (set1 (set1 (set1 A 12 c 1) 15 c (nI b)) 13 c w) 16 c v) 17 c = sv A 17 c := by rw [sv_set1, if_neg (by omega), sv_set1, if_neg (by omega), sv_set1, if_neg (by omega), sv_set1, if_neg (by omega)]
  refine p_aload_n e_MM_issue_34 rfl ?_
  refine x_gf 15 hR.2 e_MM_issue_35 f_MM_41 rfl rfl ?_
  refine p_iload_n e_MM_issue_38 rfl ?_
  refine p_iload_n e_MM_issue_39 rfl ?_
  refine r_sd 15 hR rfl rfl (by decide) rfl e_MM_issue_40 (rfl) (by show _ < 4; omega) (fun σ hR => ?_)
  refine p_aload_n e_MM_issue_41 rfl ?_
  refine x_gf 13 hR.2 e_MM_issue_42 f_MM_35 rfl rfl ?_
  refine p_iload_n e_MM_issue_45 rfl ?_
  refine p_iload_n e_MM_issue_46 rfl ?_
  refine r_sdb 13 hR rfl rfl (by decide) rfl e_MM_issue_47 (rfl) (by show _ < 4; omega) (by first | assumption | exact Or.inl rfl | exact Or.inr rfl | exact bz_if) (fun σ hR => ?_)
  refine p_aload_n e_MM_issue_48 rfl ?_
  refine x_gf 16 hR.2 e_MM_issue_49 f_MM_44 rfl rfl ?_
  refine p_iload_n e_MM_issue_52 rfl ?_
  refine p_iload e_MM_issue_53 rfl ?_
  refine r_sd 16 hR rfl rfl (by decide) rfl e_MM_issue_55 (rfl) (by show _ < 4; omega) (fun σ hR => ?_)
  refine p_aload_n e_MM_issue_56 rfl ?_
  refine x_gf 17 hR.2 e_MM_issue_57 f_MM_47 rfl rfl ?_
  refine p_iload_n e_MM_issue_60 rfl ?_
  refine p_dup2 e_MM_issue_61 ?_
  refine r_ldv 17 (v := sv A 17 c) hR rfl (by decide) rfl e_MM_issue_62 (rfl) (by show _ < 4; omega) (hR.pl rfl) (s17) ?_
  refine p_iconst (x := 1) e_MM_issue_63 (by decide) ?_
  refine p_iadd e_MM_issue_64 ?_
  refine r_sd 17 hR rfl rfl (by decide) rfl e_MM_issue_65 (rfl) (by show _ < 4; omega) (fun σ hR => ?_)
  refine p_aload_n e_MM_issue_66 rfl ?_
  refine x_gf 18 hR.2 e_MM_issue_67 f_MM_50 rfl rfl ?_
  refine p_iload_n e_MM_issue_70 rfl ?_
  refine p_iconst (x := 0) e_MM_issue_71 (by decide) ?_
  refine r_sd 18 hR rfl rfl (by decide) rfl e_MM_issue_72 (rfl) (by show _ < 4; omega) (fun σ hR => ?_)
  refine p_aload_n e_MM_issue_73 rfl ?_
  refine x_gf 14 hR.2 e_MM_issue_74 f_MM_38 rfl rfl ?_
  refine p_iload_n e_MM_issue_77 rfl ?_
  refine p_iconst (x := 0) e_MM_issue_78 (by decide) ?_
  refine r_sb 14 hR rfl rfl rfl e_MM_issue_79 rfl (by show _ < 4; omega) (Or.inl rfl) (fun σ hR => ?_)
  exact kk σ (RR.bgE (hR.nd (fun k i q => by omega) (fun k i q => by omega)))
set_option maxHeartbeats 400000 in
theorem wp_MM_issue {c b : Nat} {w v : Int32} (hc : c < N) (hb : b < 2) (e15 : sv A 15 c = nI b) (e12 : sv A 12 c = 1) (hI1 : LI N A z0 z0) (hR : RR N m Z σ0 (fun k i => k = 12 ∧ i = c) σ A)
    (k1 : ∀ σ', RR N m Z σ0 nD σ' (isT N A c b) → (ceA N A c b → P (some (.inl 1)) σ') ∧ (¬ ceA N A c b → P (some (.inl 0)) σ')) : Wp m_MM_issue 5 80 [(0, .inr m), (1, .inl (nI c)), (2, .inl w), (3, .inl (nI b)), (4, .inl v)] [] σ (fun v σ' => RV m_MM_issue.2.2.2 v ∧ P v σ') := by
  have hN := hR.2.hN
  have tm := hR.tg
  refine p_aload_n e_MM_issue_80 rfl ?_
  refine p_iload_n e_MM_issue_81 rfl ?_
  refine p_inv (ci := 8) (d' := 1) [_] _ e_MM_issue_82 c_MM_152 k_MM_canEnd i_MM_canEnd s_MM_canEnd rfl rfl (by assumption) rfl rfl (Nat.le_of_ble_eq_true rfl) (Nat.le_of_ble_eq_true rfl) ?_
  refine sp_MM_canEnd hc hb e15 hR (fun w1 => ?_) (fun w0 => ?_)
  · refine p_if_eq (tgt := 95) e_MM_issue_85 (by decide) (fun hx => absurd hx ((by decide))) (fun _ => ?_)
    refine p_aload_n e_MM_issue_88 rfl ?_
    refine p_iload_n e_MM_issue_89 rfl ?_
    refine p_inv (ci := 8) (d' := 4) [_] _ e_MM_issue_90 c_MM_155 k_MM_endd i_MM_endd s_MM_endd rfl rfl (by assumption) rfl rfl (Nat.le_of_ble_eq_true rfl) (Nat.le_of_ble_eq_true rfl) ?_
    refine sp_MM_end hc hb e15 (by rw [e12]; decide) hI1 (fun k i q => q) hR (fun σ hR => ?_)
    refine p_iconst (x := 1) e_MM_issue_93 (by decide) ?_
    refine p_iret e_MM_issue_94 (rv_i ?_)
    have e : isT N A c b = enA N A c b := if_pos w1
    exact (k1 _ (by rw [e]; exact hR)).1 w1
  · refine p_if_eq (tgt := 95) e_MM_issue_85 (by decide) (fun _ => ?_) (fun hx => absurd (rfl) hx)
    refine p_aload_n e_MM_issue_95 rfl ?_
    refine x_gf 12 hR.2 e_MM_issue_96 f_MM_32 rfl rfl ?_
    refine p_iload_n e_MM_issue_99 rfl ?_
    refine p_iconst (x := 1) e_MM_issue_100 (by decide) ?_
    refine r_s12s hR e_MM_issue_101 rfl (show c < 4 by omega) e12.symm (Or.inr rfl) (fun σ hR => ?_)
    have hR : RR N m Z σ0 nD σ A := hR.n0 (fun k i q => q.2 q.1)
    refine p_aload_n e_MM_issue_102 rfl ?_
    refine x_gf 19 hR.2 e_MM_issue_103 f_MM_53 rfl rfl ?_
    refine p_iload_n e_MM_issue_106 rfl ?_
    refine p_aload_n e_MM_issue_107 rfl ?_
    refine x_g4 hR.2 e_MM_issue_108 f_MM_158 rfl ?_
    refine p_aload_n e_MM_issue_111 rfl ?_
    refine x_g3 hR.2 e_MM_issue_112 f_MM_120 rfl ?_
    refine p_iadd e_MM_issue_115 ?_
    refine r_sn 19 hR rfl rfl rfl e_MM_issue_116 (rfl) (by show _ < 4; omega) (fun σ hR => ?_)
    have hI2 : LI N (set1 A 19 c (sv A 4 0 + sv A 3 0)) z0 z0 := hI1.set (by unfold rel; omega)
    have er : rwk (set1 A 19 c (sv A 4 0 + sv A 3 0)) c = rwk A c := rfl
    have e15' : sv (set1 A 19 c (sv A 4 0 + sv A 3 0)) 15 c = nI b := e15
    have tm := hR.tg
    refine p_aload_n e_MM_issue_117 rfl ?_
    refine p_iload_n e_MM_issue_118 rfl ?_
    refine p_inv (ci := 8) (d' := 4) [_] _ e_MM_issue_119 c_MM_161 k_MM_ask i_MM_ask s_MM_ask rfl rfl (by assumption) rfl rfl (Nat.le_of_ble_eq_true rfl) (Nat.le_of_ble_eq_true rfl) ?_
    refine sp_MM_ask (eb := z0) (eo := z0) hc (fun x hx => ?_) hR (fun σ hR => ?_)
    · rw [e15']
      exact LI.ak hI2 hc hb rwk_12 x hx
    · rw [er, e15'] at hR
      refine p_iconst (x := 0) e_MM_issue_122 (by decide) ?_
      refine p_iret e_MM_issue_123 (rv_i ?_)
      have e : isT N A c b = _ := if_neg w0
      exact (k1 _ (by rw [e]; exact hR)).2 w0
set_option maxHeartbeats 400000 in
theorem sp_MM_issue {c w b v : Int32} (hw : bz w) (hI : QI N T A) (hR : RR N m Z σ0 nD σ A)
    (k1 : ∀ c' b' σ', c' < N → b' < 2 → c = nI c' → b = nI b' → sv A 12 c' = 0 → RR N m Z σ0 nD σ' (isA N A c' b' w v) → (ceA N (bgA A c' w (nI b') v) c' b' → P (some (.inl 1)) σ') ∧ (¬ ceA N (bgA A c' w (nI b') v) c' b' → P (some (.inl 0)) σ'))
    (k2 : ∀ c' σ', c' < N → c = nI c' → isB b → sv A 12 c' ≠ 0 → RR N m Z σ0 nD σ' A → P (some (.inl (-2))) σ') (k0 : ∀ σ', ¬ (isC N c ∧ isB b) → RR N m Z σ0 nD σ' A → P (some (.inl (-1))) σ') : Ctr m_MM_issue 5 [.inr m, .inl c, .inl w, .inl b, .inl v] σ P := by
  have hN := hR.2.hN
  refine Ctr.of y_MM_issue (Nat.le_of_ble_eq_true rfl) ?_
  refine p_aload_n e_MM_issue_0 rfl ?_
  refine p_iconst (x := 0) e_MM_issue_1 (by decide) ?_
  refine r_p0 hR e_MM_issue_2 f_MM_123 (fun q h => by cases h; exact Or.inl rfl) (fun σ hR => ?_)
  refine p_aload_n e_MM_issue_5 rfl ?_
  refine p_iload_n e_MM_issue_6 rfl ?_
  have tm := hR.tg
  have no : ¬ (isC N c ∧ isB b) → Wp m_MM_issue 5 20 [] [] σ (fun v σ' => RV m_MM_issue.2.2.2 v ∧ P v σ') := by
    intro hy
    refine p_iconst (x := (-1)) e_MM_issue_20 (by decide) ?_
    refine p_iret e_MM_issue_21 (rv_i ?_)
    exact k0 _ hy hR
  refine p_inv (ci := 8) (d' := 1) [_] _ e_MM_issue_7 c_MM_145 k_MM_isCore i_MM_isCore s_MM_isCore rfl rfl (by assumption) rfl rfl (Nat.le_of_ble_eq_true rfl) (Nat.le_of_ble_eq_true rfl) ?_
  refine sp_MM_isCore hR (fun y1 y2 => ?_) (fun y => ?_)
  · refine p_if_eq (tgt := 20) e_MM_issue_10 (by decide) (fun hx => absurd hx ((by decide))) (fun _ => ?_)
    refine p_iload_n e_MM_issue_13 rfl ?_
    refine p_stat (d' := 1) [_] _ e_MM_issue_14 c_MM_149 k_MM_isBlock t_MM_isBlock rfl rfl (Nat.le_of_ble_eq_true rfl) (Nat.le_of_ble_eq_true rfl) ?_
    refine sp_MM_isBlock (fun z1 z2 => ?_) (fun z => ?_)
    · refine p_if_ne (tgt := 22) e_MM_issue_17 (by decide) (fun _ => ?_) (fun hx => absurd hx ((by decide)))
      obtain ⟨c', hc, rfl⟩ := ix (by omega) y1 y2
      obtain ⟨b', hb, rfl⟩ := ix2 z1 z2
      refine p_aload_n e_MM_issue_22 rfl ?_
      refine x_gf 12 hR.2 e_MM_issue_23 f_MM_32 rfl rfl ?_
      refine p_iload_n e_MM_issue_26 rfl ?_
      refine r_lb 12 hR rfl (by decide) rfl e_MM_issue_27 (rfl) (by show _ < 4; omega) (ok_12) ?_
      refine p_if_eq (tgt := 34) e_MM_issue_28 (by decide) (fun h28 => ?_) (fun h28 => ?_)
      · have hR1 := hR.bg0 h28
        have k11 := k1 c' b'
        have hI1 := hI.iv.bg (c := c') (w := w) (v := v) hb hw
        refine Wp.lv2 (wp_MM_bg (w := w) (v := v) (b := b') hc hw hR1 (fun σ' hR' => ?_)) ⟨rfl, rfl, rfl, rfl, rfl, trivial⟩
        have e15 : sv (bgA A c' w (nI b') v) 15 c' = nI b' := by rw [sv_bgA]; simp
        have e12 : sv (bgA A c' w (nI b') v) 12 c' = 1 := by rw [sv_bgA]; simp
        have k12 := fun σ' h1 => k11 σ' hc hb rfl rfl h28 h1
        exact wp_MM_issue hc hb e15 e12 hI1.1 hR' k12
      · refine p_bipush (x := (-2)) e_MM_issue_31 (by decide) ?_
        refine p_iret e_MM_issue_33 (rv_i ?_)
        exact k2 c' _ hc rfl ⟨z1, z2⟩ h28 hR
    · refine p_if_ne (tgt := 22) e_MM_issue_17 (by decide) (fun hx => absurd (rfl) hx) (fun _ => ?_)
      exact Wp.lv2 (no (fun q => z q.2)) trivial
  · refine p_if_eq (tgt := 20) e_MM_issue_10 (by decide) (fun _ => ?_) (fun hx => absurd (rfl) hx)
    exact Wp.lv2 (no (fun q => y q.1)) trivial
end RefK
