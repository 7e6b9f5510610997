/-! the reference: deliver -/
section RefQ
variable {M : MM} {d pc : Nat} {lv : List (Nat × PV)} {st : List PV} {σ : PS} {P : Option PV → PS → Prop} {N m T : Nat} {Z : Nat → Nat} {σ0 : PS} {E D : Nat → Nat → Prop} {A : AS} {eb eo : Nat → Nat}
/-- after the copy to the last place nothing is lost -/
theorem RR.mv {j : Nat} (hl : ln A ≤ 100) (hR : RX N m Z σ0 (mvE (fun k i => Ex A k i ∨ nD k i) j 119 40) σ (mvA A j 119 40)) : RR N m Z σ0 nD σ A := by
  refine ⟨fun _ _ q => absurd q id, hR.cg rfl (fun _ _ => rfl) (fun k hk => by rw [sv_mvA, if_neg (by omega)]) (fun k i y1 y2 y3 y4 => ?_)⟩
  have : ¬ ((29 ≤ k ∧ k < 40) ∧ i = 119) := by
    rintro ⟨z1, z2⟩
    exact y4 (Or.inl (Or.inl ⟨z1, by omega⟩))
  unfold mvE
  rw [if_neg this, sv_mvA, if_neg this]
  exact ⟨y4, rfl⟩
theorem mv_at {j k : Nat} (hk : 29 ≤ k ∧ k < 40) (hR : RX N m Z σ0 (mvE (fun k i => Ex A k i ∨ nD k i) j 119 40) σ (mvA A j 119 40)) (h : okA A nD k j) : ai σ (Z k) 119 = sv A k j := by
  rw [hR.2.2.2.2.1 k 119 (isZ_L hk) (by omega) (by rw [lz_L hk]; omega) (by unfold mvE; rw [if_pos ⟨hk, rfl⟩]; exact h.no), sv_mvA, if_pos ⟨hk, rfl⟩]
theorem c119 : (119 : Int32) = nI 119 := by decide
/-- READ: what the reference does with it -/
theorem rd_ref (hI : LI N A eb eo) {x b : Nat} (hx : x ≤ N) (hb : b < 2) (ho : sv A 6 (2 * x + b) ≠ 0) : (sv A 5 (2 * x + b) ≤ 1 ↔ sv A 5 (2 * x + b) = 1) ∧ sv A 7 (2 * x + b) ≠ 0 := by
  have hN := hI.1
  obtain ⟨⟨t, ht, e5⟩, ⟨w6, w7, w10⟩, wv, w9⟩ := hI.cwf hx hb
  have o1 : sv A 6 (2 * x + b) = 1 := by rcases w6 with q | q; exact absurd q ho; exact q
  refine ⟨?_, by rw [(wv o1).1]; decide⟩
  have t0 : t ≠ 0 := by rintro rfl; exact (wv o1).2 (by rw [e5]; exact nI_0)
  rw [e5]
  have e1 : (1 : Int32) = nI 1 := by decide
  rw [e1, nI_leI (by omega) (by omega), nI_eq (by omega) (by omega)]
  omega
set_option maxHeartbeats 1000000 in
theorem sp_MM_deliver {i : Int32} (hI : QI N T A) (hR : RR N m Z σ0 nD σ A)
    (k1 : ∀ j σ', j < ln A → i = nI j → RR N m Z σ0 nD σ' (dlA N A j) → P (some (.inl (sv A 29 j))) σ')
    (k0 : ∀ σ', ¬ (0 ≤ i ∧ i < nI (ln A)) → RR N m Z σ0 nD σ' A → P (some (.inl (-1))) σ') : Ctr m_MM_deliver 9 [.inr m, .inl i] σ P := by
  have hN := hR.2.hN
  have hb66 := hI.1.bound
  refine Ctr.of y_MM_deliver (Nat.le_of_ble_eq_true rfl) ?_
  refine p_aload_n e_MM_deliver_0 rfl ?_
  refine p_iconst (x := 0) e_MM_deliver_1 (by decide) ?_
  refine r_p0 hR e_MM_deliver_2 f_MM_123 (fun q h => by cases h; exact Or.inl rfl) (fun σ hR => ?_)
  refine p_iload_n e_MM_deliver_5 rfl ?_
  have no : ¬ (0 ≤ i ∧ i < nI (ln A)) → Wp m_MM_deliver 9 17 [] [] σ (fun v σ' => RV m_MM_deliver.2.2.2 v ∧ P v σ') := by
    intro hy
    refine p_iconst (x := (-1)) e_MM_deliver_17 (by decide) ?_
    refine p_iret e_MM_deliver_18 (rv_i ?_)
    exact k0 _ hy hR
  refine p_if_lt (tgt := 17) e_MM_deliver_6 (by decide) (fun h6 => ?_) (fun h6 => ?_)
  · exact Wp.lv2 (no (fun q => absurd h6 (Int32.not_lt.mpr q.1))) trivial
  refine p_iload_n e_MM_deliver_9 rfl ?_
  refine p_aload_n e_MM_deliver_10 rfl ?_
  refine x_gL hR.2 e_MM_deliver_11 f_MM_126 rfl ?_
  refine p_icmp_lt (tgt := 19) e_MM_deliver_14 (by decide) (fun h14 => ?_) (fun h14 => ?_)
  · obtain ⟨j, hj, rfl⟩ := ix (by omega) (Int32.not_lt.mp h6) h14
    have tm := hR.tg
    refine p_aload_n e_MM_deliver_19 rfl ?_
    refine p_iload_n e_MM_deliver_20 rfl ?_
    refine p_bipush (x := 119) e_MM_deliver_21 (by decide) ?_
    refine p_top c119 ?_
    refine p_inv (ci := 8) (d' := 1) [_, _] _ e_MM_deliver_23 c_MM_129 k_MM_move i_MM_move s_MM_move rfl rfl (by assumption) rfl rfl (Nat.le_of_ble_eq_true rfl) (Nat.le_of_ble_eq_true rfl) ?_
    refine sp_MM_move (by omega) (by omega) hR.2 (fun σ1 hR1 _ => ?_)
    have a29 := mv_at (k := 29) (by omega) hR1 (hR.ll (by omega) hj)
    have a30 := mv_at (k := 30) (by omega) hR1 (hR.ll (by omega) hj)
    have a31 := mv_at (k := 31) (by omega) hR1 (hR.ll (by omega) hj)
    have a32 := mv_at (k := 32) (by omega) hR1 (hR.ll (by omega) hj)
    have a33 := mv_at (k := 33) (by omega) hR1 (hR.ll (by omega) hj)
    have a34 := mv_at (k := 34) (by omega) hR1 (hR.ll (by omega) hj)
    have a35 := mv_at (k := 35) (by omega) hR1 (hR.ll (by omega) hj)
    have a36 := mv_at (k := 36) (by omega) hR1 (hR.ll (by omega) hj)
    have a37 := mv_at (k := 37) (by omega) hR1 (hR.ll (by omega) hj)
    have a38 := mv_at (k := 38) (by omega) hR1 (hR.ll (by omega) hj)
    have a39 : ¬ (sv A 29 j = 5 ∧ sv A 38 j = -1) → ai σ1 (Z 39) 119 = sv A 39 j := fun q => mv_at (k := 39) (by omega) hR1 ⟨fun _ => hj, fun z => by omega, fun z => by omega, fun z => by omega, fun z => by omega, fun _ => q, id⟩
    have hR1' := RR.mv (by omega) hR1
    have tm := hR1'.tg
    refine p_aload_n e_MM_deliver_26 rfl ?_
    refine p_iload_n e_MM_deliver_27 rfl ?_
    refine p_inv (ci := 8) (d' := 2) [_] _ e_MM_deliver_28 c_MM_133 k_MM_remove i_MM_remove s_MM_remove rfl rfl (by assumption) rfl rfl (Nat.le_of_ble_eq_true rfl) (Nat.le_of_ble_eq_true rfl) ?_
    refine sp_MM_remove hj (by omega) hR1'.2 (fun σ hR2 raw => ?_)
    replace hR : RR N m Z σ0 nD σ (rmL A j) := RR.rm hj hR1'.1 hR2
    have tm := hR.tg
    replace a29 := (raw 29 119 rfl (by omega)).trans a29
    replace a30 := (raw 30 119 rfl (by omega)).trans a30
    replace a31 := (raw 31 119 rfl (by omega)).trans a31
    replace a32 := (raw 32 119 rfl (by omega)).trans a32
    replace a33 := (raw 33 119 rfl (by omega)).trans a33
    replace a34 := (raw 34 119 rfl (by omega)).trans a34
    replace a35 := (raw 35 119 rfl (by omega)).trans a35
    replace a36 := (raw 36 119 rfl (by omega)).trans a36
    replace a37 := (raw 37 119 rfl (by omega)).trans a37
    replace a38 := (raw 38 119 rfl (by omega)).trans a38
    replace a39 := fun q => (raw 39 119 rfl (by omega)).trans (a39 q)
    have b39 : bz (ai σ (Z 39) 119) := hR.2.2.2.2.2.2 39 119 rfl rfl (show 119 < 120 by omega)
    obtain ⟨⟨t, s, b, v1, v2, v3, v4, v5, v6, v7⟩, ⟨z1', z2', z3'⟩, w3, w4, w5⟩ := hI.1.2.1 j hj
    rw [v4] at a30
    rw [v5] at a31
    rw [v6] at a32
    have ed : dlA N A j = dlX N A j t s b := by
      unfold dlA
      rw [v4, v5, v6, nt_nI (by omega), nt_nI (by omega), nt_nI (by omega)]
    have hlk : LK N A j t s b := ⟨v1, v2, v3, v4, v5, v6⟩
    have hr := hI.2.rmL hj
    have hb1 : sv A 29 j ≠ 3 → IV N (rmL A j) z0 z0 := fun q => ⟨hI.1.rm0 hj q, hr.1⟩
    have fin : ∀ σ2 : PS, RR N m Z σ0 nD σ2 (dlX N A j t s b) → Wp m_MM_deliver 9 352 [(2, .inl (sv A 29 j))] [] σ2 (fun v σ' => RV m_MM_deliver.2.2.2 v ∧ P v σ') := by
      intro σ2 hR2
      refine p_iload_n e_MM_deliver_352 rfl ?_
      refine p_iret e_MM_deliver_353 (rv_i ?_)
      exact k1 j _ hj rfl (by rw [ed]; exact hR2)
    unfold dlX at fin
    generalize hy39 : ai σ (Z 39) 119 = y39 at *
    refine p_aload_n e_MM_deliver_31 rfl ?_
    refine x_gf 29 hR.2 e_MM_deliver_32 f_MM_80 rfl rfl ?_
    refine p_bipush (x := 119) e_MM_deliver_35 (by decide) ?_
    refine x_lr 29 hR.2 rfl rfl e_MM_deliver_37 c119 (by show _ < 120; omega) a29 ?_
    refine p_istore_n e_MM_deliver_38 (by decide) ?_
    refine p_aload_n e_MM_deliver_39 rfl ?_
    refine x_gf 30 hR.2 e_MM_deliver_40 f_MM_83 rfl rfl ?_
    refine p_bipush (x := 119) e_MM_deliver_43 (by decide) ?_
    refine x_lr 30 hR.2 rfl rfl e_MM_deliver_45 c119 (by show _ < 120; omega) a30 ?_
    refine p_istore_n e_MM_deliver_46 (by decide) ?_
    refine p_aload_n e_MM_deliver_47 rfl ?_
    refine x_gf 31 hR.2 e_MM_deliver_48 f_MM_86 rfl rfl ?_
    refine p_bipush (x := 119) e_MM_deliver_51 (by decide) ?_
    refine x_lr 31 hR.2 rfl rfl e_MM_deliver_53 c119 (by show _ < 120; omega) a31 ?_
    refine p_istore e_MM_deliver_54 (by decide) ?_
    refine p_aload_n e_MM_deliver_56 rfl ?_
    refine x_gf 32 hR.2 e_MM_deliver_57 f_MM_89 rfl rfl ?_
    refine p_bipush (x := 119) e_MM_deliver_60 (by decide) ?_
    refine x_lr 32 hR.2 rfl rfl e_MM_deliver_62 c119 (by show _ < 120; omega) a32 ?_
    refine p_istore e_MM_deliver_63 (by decide) ?_
    refine p_iconst (x := 2) e_MM_deliver_65 (by decide) ?_
    refine p_iload_n e_MM_deliver_66 rfl ?_
    refine p_imul e_MM_deliver_67 ?_
    refine p_iload e_MM_deliver_68 rfl ?_
    refine p_iadd e_MM_deliver_70 ?_
    refine p_top (at2) ?_
    refine p_istore e_MM_deliver_71 (by decide) ?_
    refine p_aload_n e_MM_deliver_73 rfl ?_
    refine x_gf 37 hR.2 e_MM_deliver_74 f_MM_104 rfl rfl ?_
    refine p_bipush (x := 119) e_MM_deliver_77 (by decide) ?_
    refine x_lr 37 hR.2 rfl rfl e_MM_deliver_79 c119 (by show _ < 120; omega) a37 ?_
    refine p_istore e_MM_deliver_80 (by decide) ?_
    refine p_aload_n e_MM_deliver_82 rfl ?_
    refine x_gf 38 hR.2 e_MM_deliver_83 f_MM_107 rfl rfl ?_
    refine p_bipush (x := 119) e_MM_deliver_86 (by decide) ?_
    refine x_lr 38 hR.2 rfl rfl e_MM_deliver_88 c119 (by show _ < 120; omega) a38 ?_
    refine p_istore e_MM_deliver_89 (by decide) ?_
    refine p_aload_n e_MM_deliver_91 rfl ?_
    refine x_gf 39 hR.2 e_MM_deliver_92 f_MM_110 rfl rfl ?_
    refine p_bipush (x := 119) e_MM_deliver_95 (by decide) ?_
    refine x_lrb 39 hR.2 rfl rfl e_MM_deliver_97 c119 (by show _ < 120; omega) hy39 ?_
    refine p_istore e_MM_deliver_98 (by decide) ?_
    refine Wp.lv2 (lv' := [(9, .inl y39), (8, .inl (sv A 38 j)), (7, .inl (sv A 37 j)), (6, .inl (nI (2 * t + b))), (5, .inl (nI b)), (4, .inl (nI s)), (3, .inl (nI t)), (2, .inl (sv A 29 j)), (0, .inr m), (1, .inl (nI j))]) ?_ ⟨rfl, rfl, rfl, rfl, rfl, rfl, rfl, rfl, rfl, rfl, trivial⟩
    rcases v7 with ⟨k, y⟩ | ⟨k, y⟩ | k | ⟨k, y, y2'⟩ | ⟨k, y, y2'⟩ | ⟨k, y, y2', y3'⟩
    · -- READ
      rw [if_pos k] at fin
      have hI1 := (hb1 (by rw [k]; decide)).1
      obtain ⟨-, ⟨w6, w7, w10⟩, wv, w9⟩ := hI1.cwf v1 v3
      unfold rdA at fin
      refine p_iload_n e_MM_deliver_100 rfl ?_
      refine p_iconst (x := 1) e_MM_deliver_101 (by decide) ?_
      refine p_icmp_ne (tgt := 168) e_MM_deliver_102 (by decide) (fun hx => absurd (k) hx) (fun _ => ?_)
      refine p_aload_n e_MM_deliver_105 rfl ?_
      refine x_gf 9 hR.2 e_MM_deliver_106 f_MM_23 rfl rfl ?_
      refine p_iload e_MM_deliver_109 rfl ?_
      refine r_ld 9 hR rfl (by decide) rfl e_MM_deliver_111 (rfl) (by show _ < 10; omega) (hR.pl rfl) ?_
      rcases w9 with w9 | ⟨c, hc, w9⟩
      · refine p_if_ge (tgt := 352) e_MM_deliver_112 (by decide) (fun hx => absurd hx ((by rw [w9]; decide))) (fun _ => ?_)
        refine p_aload_n e_MM_deliver_115 rfl ?_
        refine x_gf 6 hR.2 e_MM_deliver_116 f_MM_13 rfl rfl ?_
        refine p_iload e_MM_deliver_119 rfl ?_
        refine r_lb 6 hR rfl (by decide) rfl e_MM_deliver_121 (rfl) (by show _ < 10; omega) (hR.pl rfl) ?_
        refine p_if_eq (tgt := 352) e_MM_deliver_122 (by decide) (fun h122 => ?_) (fun h122 => ?_)
        · rw [if_neg (fun q => q.2 h122)] at fin
          exact Wp.lv2 (fin σ hR) ⟨rfl, trivial⟩
        rw [if_pos ⟨w9, h122⟩] at fin
        obtain ⟨r1, r2⟩ := rd_ref hI1 v1 v3 h122
        have l67 := hI1.bound
        refine p_aload_n e_MM_deliver_125 rfl ?_
        refine x_gf 5 hR.2 e_MM_deliver_126 f_MM_7 rfl rfl ?_
        refine p_iload e_MM_deliver_129 rfl ?_
        refine r_ld 5 hR rfl (by decide) rfl e_MM_deliver_131 (rfl) (by show _ < 10; omega) (hR.pl rfl) ?_
        refine p_iconst (x := 1) e_MM_deliver_132 (by decide) ?_
        refine p_icmp_le (tgt := 140) e_MM_deliver_133 (by decide) (fun h133 => ?_) (fun h133 => ?_)
        · refine p_iconst (x := 0) e_MM_deliver_140 (by decide) ?_
          refine p_istore e_MM_deliver_141 (by decide) ?_
          refine p_aload_n e_MM_deliver_143 rfl ?_
          refine p_iload_n e_MM_deliver_144 rfl ?_
          refine p_iload e_MM_deliver_145 rfl ?_
          refine p_iload e_MM_deliver_147 rfl ?_
          refine p_iconst (x := 1) e_MM_deliver_149 (by decide) ?_
          refine p_iload e_MM_deliver_150 rfl ?_
          refine p_if_ne (tgt := 159) e_MM_deliver_152 (by decide) (fun hx => absurd (rfl) hx) (fun _ => ?_)
          refine p_iconst (x := 1) e_MM_deliver_155 (by decide) ?_
          refine p_goto (tgt := 160) e_MM_deliver_156 (by decide) ?_
          refine p_iload e_MM_deliver_160 rfl ?_
          refine p_inv (ci := 8) (d' := 4) [_, _, _, _, _, _] _ e_MM_deliver_162 c_MM_141 k_MM_give i_MM_give s_MM_give rfl rfl (by assumption) rfl rfl (Nat.le_of_ble_eq_true rfl) (Nat.le_of_ble_eq_true rfl) ?_
          refine sp_MM_give v1 v3 (Or.inr rfl) (by omega) hR (fun σ hR => ?_)
          rw [if_pos ⟨Or.inl (by decide), r2⟩] at hR
          rw [if_pos (r1.mp h133)] at fin
          refine p_goto (tgt := 352) e_MM_deliver_165 (by decide) ?_
          exact Wp.lv2 (fin σ hR) ⟨rfl, trivial⟩
        · refine p_iconst (x := 1) e_MM_deliver_136 (by decide) ?_
          refine p_goto (tgt := 141) e_MM_deliver_137 (by decide) ?_
          refine p_istore e_MM_deliver_141 (by decide) ?_
          refine p_aload_n e_MM_deliver_143 rfl ?_
          refine p_iload_n e_MM_deliver_144 rfl ?_
          refine p_iload e_MM_deliver_145 rfl ?_
          refine p_iload e_MM_deliver_147 rfl ?_
          refine p_iconst (x := 1) e_MM_deliver_149 (by decide) ?_
          refine p_iload e_MM_deliver_150 rfl ?_
          refine p_if_ne (tgt := 159) e_MM_deliver_152 (by decide) (fun _ => ?_) (fun hx => absurd hx ((by decide)))
          refine p_iconst (x := 0) e_MM_deliver_159 (by decide) ?_
          refine p_iload e_MM_deliver_160 rfl ?_
          refine p_inv (ci := 8) (d' := 4) [_, _, _, _, _, _] _ e_MM_deliver_162 c_MM_141 k_MM_give i_MM_give s_MM_give rfl rfl (by assumption) rfl rfl (Nat.le_of_ble_eq_true rfl) (Nat.le_of_ble_eq_true rfl) ?_
          refine sp_MM_give v1 v3 (Or.inl rfl) (by omega) hR (fun σ hR => ?_)
          rw [if_pos ⟨Or.inr (by decide), r2⟩] at hR
          rw [if_neg (fun q => h133 (r1.mpr q))] at fin
          refine p_goto (tgt := 352) e_MM_deliver_165 (by decide) ?_
          exact Wp.lv2 (fin σ hR) ⟨rfl, trivial⟩
      · refine p_if_ge (tgt := 352) e_MM_deliver_112 (by decide) (fun _ => ?_) (fun hx => absurd ((by rw [w9]; exact nI_pos' (by omega))) hx)
        rw [if_neg (fun q => by rw [w9] at q; exact absurd (nI_pos (n := c) (by omega)) (by rw [q.1]; simp [m1_lt]))] at fin
        exact Wp.lv2 (fin σ hR) ⟨rfl, trivial⟩
    · -- WRITE
      rw [if_neg (by rw [k]; decide), if_pos k] at fin
      have hI1 := (hb1 (by rw [k]; decide)).1
      obtain ⟨-, ⟨w6, w7, w10⟩, wv, w9⟩ := hI1.cwf v1 v3
      have l67 := hI1.bound
      unfold wrA at fin
      refine p_iload_n e_MM_deliver_100 rfl ?_
      refine p_iconst (x := 1) e_MM_deliver_101 (by decide) ?_
      refine p_icmp_ne (tgt := 168) e_MM_deliver_102 (by decide) (fun _ => ?_) (fun hx => absurd hx ((by rw [k]; decide)))
      refine p_iload_n e_MM_deliver_168 rfl ?_
      refine p_iconst (x := 2) e_MM_deliver_169 (by decide) ?_
      refine p_icmp_ne (tgt := 210) e_MM_deliver_170 (by decide) (fun hx => absurd (k) hx) (fun _ => ?_)
      refine p_aload_n e_MM_deliver_173 rfl ?_
      refine x_gf 9 hR.2 e_MM_deliver_174 f_MM_23 rfl rfl ?_
      refine p_iload e_MM_deliver_177 rfl ?_
      refine r_ld 9 hR rfl (by decide) rfl e_MM_deliver_179 (rfl) (by show _ < 10; omega) (hR.pl rfl) ?_
      rcases w9 with w9 | ⟨c, hc, w9⟩
      · refine p_if_ge (tgt := 352) e_MM_deliver_180 (by decide) (fun hx => absurd hx ((by rw [w9]; decide))) (fun _ => ?_)
        rw [if_pos w9] at fin
        refine p_aload_n e_MM_deliver_183 rfl ?_
        refine p_iload_n e_MM_deliver_184 rfl ?_
        refine p_iload e_MM_deliver_185 rfl ?_
        refine p_iload e_MM_deliver_187 rfl ?_
        refine p_aload_n e_MM_deliver_189 rfl ?_
        refine x_gf 5 hR.2 e_MM_deliver_190 f_MM_7 rfl rfl ?_
        refine p_iload e_MM_deliver_193 rfl ?_
        refine r_ld 5 hR rfl (by decide) rfl e_MM_deliver_195 (rfl) (by show _ < 10; omega) (hR.pl rfl) ?_
        refine p_aload_n e_MM_deliver_196 rfl ?_
        refine x_gf 6 hR.2 e_MM_deliver_197 f_MM_13 rfl rfl ?_
        refine p_iload e_MM_deliver_200 rfl ?_
        refine r_lb 6 hR rfl (by decide) rfl e_MM_deliver_202 (rfl) (by show _ < 10; omega) (hR.pl rfl) ?_
        refine p_iconst (x := 0) e_MM_deliver_203 (by decide) ?_
        refine p_inv (ci := 8) (d' := 4) [_, _, _, _, _, _] _ e_MM_deliver_204 c_MM_141 k_MM_give i_MM_give s_MM_give rfl rfl (by assumption) rfl rfl (Nat.le_of_ble_eq_true rfl) (Nat.le_of_ble_eq_true rfl) ?_
        refine sp_MM_give v1 v3 w6 (by omega) hR (fun σ hR => ?_)
        rw [own_wd hI1 v1 v3] at hR
        refine p_goto (tgt := 352) e_MM_deliver_207 (by decide) ?_
        exact Wp.lv2 (fin σ hR) ⟨rfl, trivial⟩
      · refine p_if_ge (tgt := 352) e_MM_deliver_180 (by decide) (fun _ => ?_) (fun hx => absurd ((by rw [w9]; exact nI_pos' (by omega))) hx)
        rw [if_neg (fun q => by rw [w9] at q; exact absurd (nI_pos (n := c) (by omega)) (by rw [q]; simp [m1_lt]))] at fin
        exact Wp.lv2 (fin σ hR) ⟨rfl, trivial⟩
    · -- TOKENS
      rw [if_neg (by rw [k]; decide), if_neg (by rw [k]; decide), if_pos k] at fin
      obtain ⟨⟨ct, c1, c2, c3⟩, -⟩ := w3 k
      have hI1 := hI.1.gt0 hj hlk k ⟨c1, c2⟩ c3
      refine p_iload_n e_MM_deliver_100 rfl ?_
      refine p_iconst (x := 1) e_MM_deliver_101 (by decide) ?_
      refine p_icmp_ne (tgt := 168) e_MM_deliver_102 (by decide) (fun _ => ?_) (fun hx => absurd hx ((by rw [k]; decide)))
      refine p_iload_n e_MM_deliver_168 rfl ?_
      refine p_iconst (x := 2) e_MM_deliver_169 (by decide) ?_
      refine p_icmp_ne (tgt := 210) e_MM_deliver_170 (by decide) (fun _ => ?_) (fun hx => absurd hx ((by rw [k]; decide)))
      refine p_iload_n e_MM_deliver_210 rfl ?_
      refine p_iconst (x := 3) e_MM_deliver_211 (by decide) ?_
      refine p_icmp_ne (tgt := 253) e_MM_deliver_212 (by decide) (fun hx => absurd (k) hx) (fun _ => ?_)
      refine p_aload_n e_MM_deliver_215 rfl ?_
      refine p_iload_n e_MM_deliver_216 rfl ?_
      refine p_iload e_MM_deliver_217 rfl ?_
      refine p_aload_n e_MM_deliver_219 rfl ?_
      refine x_gf 33 hR.2 e_MM_deliver_220 f_MM_92 rfl rfl ?_
      refine p_bipush (x := 119) e_MM_deliver_223 (by decide) ?_
      refine x_lr 33 hR.2 rfl rfl e_MM_deliver_225 c119 (by show _ < 120; omega) a33 ?_
      refine p_aload_n e_MM_deliver_226 rfl ?_
      refine x_gf 34 hR.2 e_MM_deliver_227 f_MM_95 rfl rfl ?_
      refine p_bipush (x := 119) e_MM_deliver_230 (by decide) ?_
      refine x_lrb 34 hR.2 rfl rfl e_MM_deliver_232 c119 (by show _ < 120; omega) a34 ?_
      refine p_aload_n e_MM_deliver_233 rfl ?_
      refine x_gf 35 hR.2 e_MM_deliver_234 f_MM_98 rfl rfl ?_
      refine p_bipush (x := 119) e_MM_deliver_237 (by decide) ?_
      refine x_lrb 35 hR.2 rfl rfl e_MM_deliver_239 c119 (by show _ < 120; omega) a35 ?_
      refine p_aload_n e_MM_deliver_240 rfl ?_
      refine x_gf 36 hR.2 e_MM_deliver_241 f_MM_101 rfl rfl ?_
      refine p_bipush (x := 119) e_MM_deliver_244 (by decide) ?_
      refine x_lr 36 hR.2 rfl rfl e_MM_deliver_246 c119 (by show _ < 120; omega) a36 ?_
      refine p_inv (ci := 8) (d' := 6) [_, _, _, _, _, _] _ e_MM_deliver_247 c_MM_182 k_MM_getTokens i_MM_getTokens s_MM_getTokens rfl rfl (by assumption) rfl rfl (Nat.le_of_ble_eq_true rfl) (Nat.le_of_ble_eq_true rfl) ?_
      refine sp_MM_getTokens v1 v3 hI1 hR (fun σ hR => ?_)
      refine p_goto (tgt := 352) e_MM_deliver_250 (by decide) ?_
      exact Wp.lv2 (fin σ hR) ⟨rfl, trivial⟩
    · -- PLEASE
      rw [if_neg (by rw [k]; decide), if_neg (by rw [k]; decide), if_neg (by rw [k]; decide), if_pos k] at fin
      have hI1 := hb1 (by rw [k]; decide)
      have ey : y39 = sv A 39 j := a39 (fun q => by rw [k] at q; exact absurd q.1 (by decide))
      subst ey
      refine p_iload_n e_MM_deliver_100 rfl ?_
      refine p_iconst (x := 1) e_MM_deliver_101 (by decide) ?_
      refine p_icmp_ne (tgt := 168) e_MM_deliver_102 (by decide) (fun _ => ?_) (fun hx => absurd hx ((by rw [k]; decide)))
      refine p_iload_n e_MM_deliver_168 rfl ?_
      refine p_iconst (x := 2) e_MM_deliver_169 (by decide) ?_
      refine p_icmp_ne (tgt := 210) e_MM_deliver_170 (by decide) (fun _ => ?_) (fun hx => absurd hx ((by rw [k]; decide)))
      refine p_iload_n e_MM_deliver_210 rfl ?_
      refine p_iconst (x := 3) e_MM_deliver_211 (by decide) ?_
      refine p_icmp_ne (tgt := 253) e_MM_deliver_212 (by decide) (fun _ => ?_) (fun hx => absurd hx ((by rw [k]; decide)))
      refine p_iload_n e_MM_deliver_253 rfl ?_
      refine p_iconst (x := 4) e_MM_deliver_254 (by decide) ?_
      refine p_icmp_ne (tgt := 273) e_MM_deliver_255 (by decide) (fun hx => absurd (k) hx) (fun _ => ?_)
      refine p_aload_n e_MM_deliver_258 rfl ?_
      refine p_iload e_MM_deliver_259 rfl ?_
      refine p_iload e_MM_deliver_261 rfl ?_
      refine p_iload e_MM_deliver_263 rfl ?_
      refine p_iload e_MM_deliver_265 rfl ?_
      refine p_inv (ci := 8) (d' := 8) [_, _, _, _] _ e_MM_deliver_267 c_MM_186 k_MM_please i_MM_please s_MM_please rfl rfl (by assumption) rfl rfl (Nat.le_of_ble_eq_true rfl) (Nat.le_of_ble_eq_true rfl) ?_
      refine sp_MM_please y v3 z3' hI1 hr (LK.po hI hj hlk k y) hR (fun σ hR => ?_)
      refine p_goto (tgt := 352) e_MM_deliver_270 (by decide) ?_
      exact Wp.lv2 (fin σ hR) ⟨rfl, trivial⟩
    · -- KNOW
      rw [if_neg (by rw [k]; decide), if_neg (by rw [k]; decide), if_neg (by rw [k]; decide), if_neg (by rw [k]; decide), if_pos k] at fin
      have hI1 := (hb1 (by rw [k]; decide)).1
      unfold knA at fin
      have go : (sv (rmL A j) 11 (2 * t + b) < sv A 37 j ∨ (sv A 37 j = sv (rmL A j) 11 (2 * t + b) ∧ sv A 38 j = -1)) → Wp m_MM_deliver 9 307 [(9, .inl y39), (8, .inl (sv A 38 j)), (7, .inl (sv A 37 j)), (6, .inl (nI (2 * t + b))), (5, .inl (nI b)), (4, .inl (nI s)), (3, .inl (nI t)), (2, .inl (sv A 29 j)), (0, .inr m), (1, .inl (nI j))] [] σ (fun v σ' => RV m_MM_deliver.2.2.2 v ∧ P v σ') := by
        intro hy
        rw [if_pos hy] at fin
        have hI2 : LI N (lnA (rmL A j) (2 * t + b) (sv A 38 j) (sv A 39 j) (sv A 37 j)) z0 z0 := hI1.lrn w5 z3'
        refine p_aload_n e_MM_deliver_307 rfl ?_
        refine x_gf 11 hR.2 e_MM_deliver_308 f_MM_29 rfl rfl ?_
        refine p_iload e_MM_deliver_311 rfl ?_
        refine p_iload e_MM_deliver_313 rfl ?_
        refine r_sn 11 hR rfl rfl rfl e_MM_deliver_315 (rfl) (by show _ < 10; omega) (fun σ hR => ?_)
        refine p_aload_n e_MM_deliver_316 rfl ?_
        refine x_gf 9 hR.2 e_MM_deliver_317 f_MM_23 rfl rfl ?_
        refine p_iload e_MM_deliver_320 rfl ?_
        refine p_iload e_MM_deliver_322 rfl ?_
        refine r_s9 hR e_MM_deliver_324 rfl (by omega) (fun σ hR => ?_)
        refine p_aload_n e_MM_deliver_325 rfl ?_
        refine x_gf 10 hR.2 e_MM_deliver_326 f_MM_26 rfl rfl ?_
        refine p_iload e_MM_deliver_329 rfl ?_
        refine p_iload e_MM_deliver_331 rfl ?_
        refine r_s10 (w := sv A 39 j) hR e_MM_deliver_333 rfl (by omega) b39 (fun q => a39 (fun z => q (by rw [sv_set1, if_pos ⟨rfl, rfl⟩]; exact z.2))) (fun σ hR => ?_)
        replace hR : RR N m Z σ0 nD σ (lnA (rmL A j) (2 * t + b) (sv A 38 j) (sv A 39 j) (sv A 37 j)) := by
          unfold lnA
          rw [set_com (k := 11) (k' := 9) (by omega), set_com (k := 11) (k' := 10) (by omega)] at hR
          exact hR
        have tm := hR.tg
        refine p_aload_n e_MM_deliver_334 rfl ?_
        refine p_iload_n e_MM_deliver_335 rfl ?_
        refine p_iload e_MM_deliver_336 rfl ?_
        refine p_inv (ci := 8) (d' := 5) [_, _] _ e_MM_deliver_338 c_MM_173 k_MM_giveWay i_MM_giveWay s_MM_giveWay rfl rfl (by assumption) rfl rfl (Nat.le_of_ble_eq_true rfl) (Nat.le_of_ble_eq_true rfl) ?_
        refine sp_MM_giveWay v1 v3 hI2 hR (fun σ hR => ?_)
        refine p_goto (tgt := 352) e_MM_deliver_341 (by decide) ?_
        exact Wp.lv2 (fin σ hR) ⟨rfl, trivial⟩
      have stop : ¬ (sv (rmL A j) 11 (2 * t + b) < sv A 37 j ∨ (sv A 37 j = sv (rmL A j) 11 (2 * t + b) ∧ sv A 38 j = -1)) → Wp m_MM_deliver 9 352 [(2, .inl (sv A 29 j))] [] σ (fun v σ' => RV m_MM_deliver.2.2.2 v ∧ P v σ') := by
        intro hy
        rw [if_neg hy] at fin
        exact fin σ hR
      refine p_iload_n e_MM_deliver_100 rfl ?_
      refine p_iconst (x := 1) e_MM_deliver_101 (by decide) ?_
      refine p_icmp_ne (tgt := 168) e_MM_deliver_102 (by decide) (fun _ => ?_) (fun hx => absurd hx ((by rw [k]; decide)))
      refine p_iload_n e_MM_deliver_168 rfl ?_
      refine p_iconst (x := 2) e_MM_deliver_169 (by decide) ?_
      refine p_icmp_ne (tgt := 210) e_MM_deliver_170 (by decide) (fun _ => ?_) (fun hx => absurd hx ((by rw [k]; decide)))
      refine p_iload_n e_MM_deliver_210 rfl ?_
      refine p_iconst (x := 3) e_MM_deliver_211 (by decide) ?_
      refine p_icmp_ne (tgt := 253) e_MM_deliver_212 (by decide) (fun _ => ?_) (fun hx => absurd hx ((by rw [k]; decide)))
      refine p_iload_n e_MM_deliver_253 rfl ?_
      refine p_iconst (x := 4) e_MM_deliver_254 (by decide) ?_
      refine p_icmp_ne (tgt := 273) e_MM_deliver_255 (by decide) (fun _ => ?_) (fun hx => absurd hx ((by rw [k]; decide)))
      refine p_iload_n e_MM_deliver_273 rfl ?_
      refine p_iconst (x := 5) e_MM_deliver_274 (by decide) ?_
      refine p_icmp_ne (tgt := 344) e_MM_deliver_275 (by decide) (fun hx => absurd (k) hx) (fun _ => ?_)
      refine p_iload e_MM_deliver_278 rfl ?_
      refine p_aload_n e_MM_deliver_280 rfl ?_
      refine x_gf 11 hR.2 e_MM_deliver_281 f_MM_29 rfl rfl ?_
      refine p_iload e_MM_deliver_284 rfl ?_
      refine r_ld 11 hR rfl (by decide) rfl e_MM_deliver_286 (rfl) (by show _ < 10; omega) (hR.pl rfl) ?_
      refine p_icmp_gt (tgt := 307) e_MM_deliver_287 (by decide) (fun h287 => ?_) (fun h287 => ?_)
      · exact go (Or.inl h287)
      refine p_iload e_MM_deliver_290 rfl ?_
      refine p_aload_n e_MM_deliver_292 rfl ?_
      refine x_gf 11 hR.2 e_MM_deliver_293 f_MM_29 rfl rfl ?_
      refine p_iload e_MM_deliver_296 rfl ?_
      refine r_ld 11 hR rfl (by decide) rfl e_MM_deliver_298 (rfl) (by show _ < 10; omega) (hR.pl rfl) ?_
      refine p_icmp_ne (tgt := 352) e_MM_deliver_299 (by decide) (fun h299 => ?_) (fun h299 => ?_)
      · refine Wp.lv2 (stop ?_) ⟨rfl, trivial⟩
        rintro (q | q)
        · exact h287 q
        · exact h299 q.1
      refine p_iload e_MM_deliver_302 rfl ?_
      rcases w5 with w5 | ⟨c, hc, w5⟩
      · refine p_if_ge (tgt := 352) e_MM_deliver_304 (by decide) (fun hx => absurd hx ((by rw [w5]; decide))) (fun _ => ?_)
        exact go (Or.inr ⟨h299, w5⟩)
      · refine p_if_ge (tgt := 352) e_MM_deliver_304 (by decide) (fun _ => ?_) (fun hx => absurd ((by rw [w5]; exact nI_pos' (by omega))) hx)
        refine Wp.lv2 (stop ?_) ⟨rfl, trivial⟩
        rintro (q | q)
        · exact h287 q
        · rw [w5] at q; exact absurd (nI_pos (n := c) (by omega)) (by rw [q.2]; simp [m1_lt])
    · -- OVER
      rw [if_neg (by rw [k]; decide), if_neg (by rw [k]; decide), if_neg (by rw [k]; decide), if_neg (by rw [k]; decide), if_neg (by rw [k]; decide)] at fin
      have hI1 := hb1 (by rw [k]; decide)
      refine p_iload_n e_MM_deliver_100 rfl ?_
      refine p_iconst (x := 1) e_MM_deliver_101 (by decide) ?_
      refine p_icmp_ne (tgt := 168) e_MM_deliver_102 (by decide) (fun _ => ?_) (fun hx => absurd hx ((by rw [k]; decide)))
      refine p_iload_n e_MM_deliver_168 rfl ?_
      refine p_iconst (x := 2) e_MM_deliver_169 (by decide) ?_
      refine p_icmp_ne (tgt := 210) e_MM_deliver_170 (by decide) (fun _ => ?_) (fun hx => absurd hx ((by rw [k]; decide)))
      refine p_iload_n e_MM_deliver_210 rfl ?_
      refine p_iconst (x := 3) e_MM_deliver_211 (by decide) ?_
      refine p_icmp_ne (tgt := 253) e_MM_deliver_212 (by decide) (fun _ => ?_) (fun hx => absurd hx ((by rw [k]; decide)))
      refine p_iload_n e_MM_deliver_253 rfl ?_
      refine p_iconst (x := 4) e_MM_deliver_254 (by decide) ?_
      refine p_icmp_ne (tgt := 273) e_MM_deliver_255 (by decide) (fun _ => ?_) (fun hx => absurd hx ((by rw [k]; decide)))
      refine p_iload_n e_MM_deliver_273 rfl ?_
      refine p_iconst (x := 5) e_MM_deliver_274 (by decide) ?_
      refine p_icmp_ne (tgt := 344) e_MM_deliver_275 (by decide) (fun _ => ?_) (fun hx => absurd hx ((by rw [k]; decide)))
      refine p_aload_n e_MM_deliver_344 rfl ?_
      refine p_iload e_MM_deliver_345 rfl ?_
      refine p_iload e_MM_deliver_347 rfl ?_
      refine p_inv (ci := 8) (d' := 7) [_, _] _ e_MM_deliver_349 c_MM_179 k_MM_lapse i_MM_lapse s_MM_lapse rfl rfl (by assumption) rfl rfl (Nat.le_of_ble_eq_true rfl) (Nat.le_of_ble_eq_true rfl) ?_
      refine sp_MM_lapse y hI1 hr.2.2 hR (fun σ hR => ?_)
      exact Wp.lv2 (fin σ hR) ⟨rfl, trivial⟩
  · exact Wp.lv2 (no (fun q => h14 q.2)) trivial
end RefQ
