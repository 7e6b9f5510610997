/-! the reference: giving, ending, asking -/
theorem at2 {x b : Nat} : (2 : Int32) * nI x + nI b = nI (2 * x + b) := by
  have : (2 : Int32) = nI 2 := by decide
  rw [this, pk_mul, nI_add]
theorem at20a {b : Nat} : (20 : Int32) * nI b = nI (20 * b) := by
  have : (20 : Int32) = nI 20 := by decide
  rw [this, pk_mul]
theorem at20 {b i : Nat} : (20 : Int32) * nI b + nI i = nI (20 * b + i) := by rw [at20a, nI_add]
theorem LI.hu {N : Nat} {A : AS} {eb eo : Nat → Nat} (h : LI N A eb eo) {kd fm to bl : Int32} : kd ≠ 3 → ∀ i j, i < ln A → j < ln A → mtL A kd fm to bl i → mtL A kd fm to bl j → i = j := by
  intro h3 i j hi hj a b
  refine h.2.2.1 i j hi hj (a.1.trans b.1.symm) (by rw [a.1]; exact h3) (a.2.1.trans b.2.1.symm) (a.2.2.1.trans b.2.2.1.symm) (fun z => ?_)
  have z' : kd = 5 := a.1.symm.trans z
  exact (a.2.2.2 z').trans (b.2.2.2 z').symm
section RefG
variable {M : MM} {d pc : Nat} {lv : List (Nat × PV)} {st : List PV} {σ : PS} {P : Option PV → PS → Prop} {N m : Nat} {Z : Nat → Nat} {σ0 : PS} {D : Nat → Nat → Prop} {A : AS} {eb eo : Nat → Nat}
theorem r_ldv (k : Nat) {n : Nat} {j v : Int32} (hR : RR N m Z σ0 D σ A) (hk : isZ k = true) (h25 : k ≠ 25) (ht : tz k = 100) (hd : decode M.2.1 pc = .ok (.iaload, 1)) (hj : j = nI n) (hn : n < lz k) (hE : okA A D k n) (hv : sv A k n = v) (kk : Wp M d (pc + 1) lv (.inl v :: st) σ P) : Wp M d pc lv (.inl j :: .inr (Z k) :: st) σ P := by
  subst hv; exact r_ld k hR hk h25 ht hd hj hn hE kk
theorem r_lbv (k : Nat) {n : Nat} {j v : Int32} (hR : RR N m Z σ0 D σ A) (hk : isZ k = true) (h25 : k ≠ 25) (ht : tz k = 101) (hd : decode M.2.1 pc = .ok (.baload, 1)) (hj : j = nI n) (hn : n < lz k) (hE : okA A D k n) (hv : sv A k n = v) (kk : Wp M d (pc + 1) lv (.inl v :: st) σ P) : Wp M d pc lv (.inl j :: .inr (Z k) :: st) σ P := by
  subst hv; exact r_lb k hR hk h25 ht hd hj hn hE kk
theorem r_pt {idx : Nat} {x : Int32} (hR : RR N m Z σ0 D σ A) (hd : decode M.2.1 pc = .ok (.putfield idx, 3)) (hf : FS M.1.cls idx 8 4) (hfin : FinOk M 8 4) (kk : ∀ σ', RR N m Z σ0 D σ' (set1 A 4 0 x) → Wp M d (pc + 3) lv st σ' P) : Wp M d pc lv (.inl x :: .inr m :: st) σ P :=
  x_pt hR.2 hd hf hfin (fun σ' h => kk σ' ⟨hR.1, h.cg rfl (fun _ _ => rfl) (fun _ _ => rfl) (fun k' i _ _ _ q => ⟨fun z => q (by rcases z with z | z; exact Or.inl ((Ex_set (by omega)).mpr z); exact Or.inr z), rfl⟩)⟩)
theorem r_p0 {idx : Nat} {x : Int32} (hR : RR N m Z σ0 D σ A) (hd : decode M.2.1 pc = .ok (.putfield idx, 3)) (hf : FS M.1.cls idx 8 0) (hfin : FinOk M 8 0) (kk : ∀ σ', RR N m Z σ0 D σ' A → Wp M d (pc + 3) lv st σ' P) : Wp M d pc lv (.inl x :: .inr m :: st) σ P :=
  x_p0 hR.2 hd hf hfin (fun σ' h => kk σ' ⟨hR.1, h⟩)
/-- an access is under way no more -/
theorem r_s12z {n : Nat} {j : Int32} (hR : RR N m Z σ0 D σ A) (hd : decode M.2.1 pc = .ok (.bastore, 1)) (hj : j = nI n) (hn : n < 4) (kk : ∀ σ', RR N m Z σ0 (fun k' i => D k' i ∧ ¬ (k' = 12 ∧ i = n)) σ' (set1 A 12 n 0) → (∀ k' i, isZ k' = true → ¬ (k' = 12 ∧ i = n) → ai σ' (Z k') i = ai σ (Z k') i) → Wp M d (pc + 1) lv st σ' P) : Wp M d pc lv (.inl 0 :: .inl j :: .inr (Z 12) :: st) σ P := by
  refine x_sb 12 (set1 A 12 n 0) hR.2 rfl rfl hd hj hn (Or.inl rfl) rfl (fun b hb => by rw [if_neg (by omega)]; rfl) (fun k' hk' => by rw [sv_set1, if_neg (by omega)]) (fun k' i y1 y2 y3 y4 y5 => ⟨fun z => y4 ?_, by rw [sv_set1, if_neg y5]⟩) (fun _ _ => by rw [sv_set1, if_pos ⟨rfl, rfl⟩]) (fun σ' h h2 => kk σ' ⟨fun k' i q => hR.1 k' i q.1, h⟩ h2)
  rcases z with z | z
  · refine Or.inl ?_
    unfold Ex at z ⊢
    rw [sv_set1 (k' := 9), if_neg (by omega), sv_set1 (k' := 40), if_neg (by omega), sv_set1 (k' := 29), if_neg (by omega), sv_set1 (k' := 38), if_neg (by omega)]
    rcases z with z | z | z | z
    · exact Or.inl z
    · exact Or.inr (Or.inl z)
    · refine Or.inr (Or.inr (Or.inl ⟨z.1, ?_⟩))
      rw [sv_set1]
      split
      · rfl
      · exact z.2
    · exact Or.inr (Or.inr (Or.inr z))
  · exact Or.inr ⟨z, y5⟩
theorem RR.f14 {c : Nat} {v : Int32} (h : RR N m Z σ0 D σ (set1 A 14 c v)) (h0 : sv A 12 c = 0) : RR N m Z σ0 D σ A := by
  refine ⟨h.1, h.2.cg rfl (fun _ _ => rfl) (fun k hk => by rw [sv_set1, if_neg (by omega)]) (fun k' i y1 y2 y3 y4 => ⟨fun z => y4 ?_, ?_⟩)⟩
  · rcases z with z | z
    · exact Or.inl ((Ex_set (by omega)).mp z)
    · exact Or.inr z
  · rw [sv_set1, if_neg]
    rintro ⟨rfl, rfl⟩
    exact y4 (Or.inl (Or.inr (Or.inr (Or.inl ⟨rfl, h0⟩))))
set_option maxHeartbeats 4000000 in
theorem sp_MM_give {x b : Nat} {to many ow sd : Int32} (hx : x ≤ N) (hb : b < 2) (how : bz ow) (hl : ln A ≤ 118) (hR : RR N m Z σ0 nD σ A) (hP : ∀ σ', RR N m Z σ0 nD σ' (gvA A x b to many ow (if (ow ≠ 0 ∨ sd ≠ 0) ∧ sv A 7 (2 * x + b) ≠ 0 then 1 else 0)) → P none σ') : Ctr m_MM_give 4 [.inr m, .inl (nI x), .inl (nI b), .inl to, .inl many, .inl ow, .inl sd] σ P := by
  have hN := hR.2.hN
  have tm := hR.tg
  refine Ctr.of y_MM_give (Nat.le_of_ble_eq_true rfl) ?_
  refine p_iconst (x := 2) e_MM_give_0 (by decide) ?_
  refine p_iload_n e_MM_give_1 rfl ?_
  refine p_imul e_MM_give_2 ?_
  refine p_iload_n e_MM_give_3 rfl ?_
  refine p_iadd e_MM_give_4 ?_
  refine p_top (at2) ?_
  refine p_istore e_MM_give_5 (by decide) ?_
  refine p_iload e_MM_give_7 rfl ?_
  refine p_if_ne (tgt := 13) e_MM_give_9 (by decide) (fun h9 => ?_) (fun h9 => ?_)
  · unfold gvA at hP
    rw [if_neg h9] at hP
    refine p_aload_n e_MM_give_13 rfl ?_
    refine p_iconst (x := 3) e_MM_give_14 (by decide) ?_
    refine p_iload_n e_MM_give_15 rfl ?_
    refine p_iload_n e_MM_give_16 rfl ?_
    refine p_iload_n e_MM_give_17 rfl ?_
    refine p_inv (ci := 8) (d' := 3) [_, _, _, _] _ e_MM_give_18 c_MM_137 k_MM_send i_MM_send s_MM_send rfl rfl (by assumption) rfl rfl (Nat.le_of_ble_eq_true rfl) (Nat.le_of_ble_eq_true rfl) ?_
    refine sp_MM_send (kd := 3) hl (fun q => absurd rfl q) hR (fun σ hR => ?_)
    rw [dpL_3]
    have s8 : sv (sdL A 3 (nI x) to (nI b)) 8 (2 * x + b) = sv A 8 (2 * x + b) := sv_sdL (by omega)
    have s5 : sv (sdL A 3 (nI x) to (nI b)) 5 (2 * x + b) = sv A 5 (2 * x + b) := sv_sdL (by omega)
    have s6 : sv (sdL A 3 (nI x) to (nI b)) 6 (2 * x + b) = sv A 6 (2 * x + b) := sv_sdL (by omega)
    have s7 : sv (sdL A 3 (nI x) to (nI b)) 7 (2 * x + b) = sv A 7 (2 * x + b) := sv_sdL (by omega)
    generalize sdL A 3 (nI x) to (nI b) = B at *
    refine p_istore e_MM_give_21 (by decide) ?_
    refine p_aload_n e_MM_give_23 rfl ?_
    refine x_gf 33 hR.2 e_MM_give_24 f_MM_92 rfl rfl ?_
    refine p_iload e_MM_give_27 rfl ?_
    refine p_iload e_MM_give_29 rfl ?_
    refine r_sn 33 hR rfl rfl rfl e_MM_give_31 (rfl) (by show _ < 120; omega) (fun σ hR => ?_)
    refine p_aload_n e_MM_give_32 rfl ?_
    refine x_gf 34 hR.2 e_MM_give_33 f_MM_95 rfl rfl ?_
    refine p_iload e_MM_give_36 rfl ?_
    refine p_iload e_MM_give_38 rfl ?_
    refine r_snb 34 hR rfl rfl rfl e_MM_give_40 (rfl) (by show _ < 120; omega) (by first | assumption | exact Or.inl rfl | exact Or.inr rfl | exact bz_if) (fun σ hR => ?_)
    refine p_aload_n e_MM_give_41 rfl ?_
    refine x_gf 35 hR.2 e_MM_give_42 f_MM_98 rfl rfl ?_
    refine p_iload e_MM_give_45 rfl ?_
    -- withData
    have t3 : ∀ (σ : PS) (z : Int32) (B7 : AS), RR N m Z σ0 nD σ B7 → sv B7 7 (2 * x + b) = sv A 7 (2 * x + b) → sv B7 5 (2 * x + b) = sv A 5 (2 * x + b) - many → bz z → (∀ σ', RR N m Z σ0 nD σ' (set1 (set1 B7 6 (2 * x + b) z) 7 (2 * x + b) (if sv A 7 (2 * x + b) ≠ 0 ∧ 0 < sv A 5 (2 * x + b) - many then 1 else 0)) → P none σ') → Wp m_MM_give 4 130 [(8, .inl (nI (ln A))), (7, .inl (nI (2 * x + b))), (0, .inr m), (1, .inl (nI x)), (2, .inl (nI b)), (3, .inl to), (4, .inl many), (5, .inl ow), (6, .inl sd)] [.inl z, .inl (nI (2 * x + b)), .inr (Z 6)] σ (fun v σ' => RV m_MM_give.2.2.2 v ∧ P v σ') := by
      intro σ z B7 hR e7 e5 hz hP
      have tl : ∀ (σ : PS) (y : Int32), RR N m Z σ0 nD σ (set1 B7 6 (2 * x + b) z) → y = (if sv A 7 (2 * x + b) ≠ 0 ∧ 0 < sv A 5 (2 * x + b) - many then 1 else 0) → Wp m_MM_give 4 162 [(8, .inl (nI (ln A))), (7, .inl (nI (2 * x + b))), (0, .inr m), (1, .inl (nI x)), (2, .inl (nI b)), (3, .inl to), (4, .inl many), (5, .inl ow), (6, .inl sd)] [.inl y, .inl (nI (2 * x + b)), .inr (Z 7)] σ (fun v σ' => RV m_MM_give.2.2.2 v ∧ P v σ') := by
        intro σ y hR ey
        subst ey
        refine r_snb 7 hR rfl rfl rfl e_MM_give_162 (rfl) (by show _ < 10; omega) (by first | assumption | exact Or.inl rfl | exact Or.inr rfl | exact bz_if) (fun σ hR => ?_)
        refine p_ret e_MM_give_163 (rv_v ?_)
        exact hP _ hR
      refine r_snb 6 hR rfl rfl rfl e_MM_give_130 (rfl) (by show _ < 10; omega) (by first | assumption | exact Or.inl rfl | exact Or.inr rfl | exact bz_if) (fun σ hR => ?_)
      refine p_aload_n e_MM_give_131 rfl ?_
      refine x_gf 7 hR.2 e_MM_give_132 f_MM_17 rfl rfl ?_
      refine p_iload e_MM_give_135 rfl ?_
      refine p_aload_n e_MM_give_137 rfl ?_
      refine x_gf 7 hR.2 e_MM_give_138 f_MM_17 rfl rfl ?_
      refine p_iload e_MM_give_141 rfl ?_
      refine r_lbv 7 (v := sv A 7 (2 * x + b)) hR rfl (by decide) rfl e_MM_give_143 (rfl) (by show _ < 10; omega) (hR.pl rfl) ((by rw [sv_set1, if_neg (by omega)]; exact e7)) ?_
      refine p_if_eq (tgt := 161) e_MM_give_144 (by decide) (fun h144 => ?_) (fun h144 => ?_)
      · refine p_iconst (x := 0) e_MM_give_161 (by decide) ?_
        exact tl _ 0 hR (by rw [if_neg (fun q => q.1 h144)])
      refine p_aload_n e_MM_give_147 rfl ?_
      refine x_gf 5 hR.2 e_MM_give_148 f_MM_7 rfl rfl ?_
      refine p_iload e_MM_give_151 rfl ?_
      refine r_ldv 5 (v := sv A 5 (2 * x + b) - many) hR rfl (by decide) rfl e_MM_give_153 (rfl) (by show _ < 10; omega) (hR.pl rfl) ((by rw [sv_set1, if_neg (by omega)]; exact e5)) ?_
      refine p_if_le (tgt := 161) e_MM_give_154 (by decide) (fun h154 => ?_) (fun h154 => ?_)
      · refine p_iconst (x := 0) e_MM_give_161 (by decide) ?_
        exact tl _ 0 hR (by rw [if_neg (fun q => absurd q.2 (Int32.not_lt.mpr h154))])
      · refine p_iconst (x := 1) e_MM_give_157 (by decide) ?_
        refine p_goto (tgt := 162) e_MM_give_158 (by decide) ?_
        exact tl _ 1 hR (by rw [if_pos ⟨h144, Int32.not_le.mp h154⟩])
    have t2 : ∀ (σ : PS) (z : Int32), RR N m Z σ0 nD σ (set1 (set1 B 33 (ln A) many) 34 (ln A) ow) → z = (if (ow ≠ 0 ∨ sd ≠ 0) ∧ sv A 7 (2 * x + b) ≠ 0 then 1 else 0) → Wp m_MM_give 4 72 [(8, .inl (nI (ln A))), (7, .inl (nI (2 * x + b))), (0, .inr m), (1, .inl (nI x)), (2, .inl (nI b)), (3, .inl to), (4, .inl many), (5, .inl ow), (6, .inl sd)] [.inl z, .inl (nI (ln A)), .inr (Z 35)] σ (fun v σ' => RV m_MM_give.2.2.2 v ∧ P v σ') := by
      intro σ z hR ez
      subst ez
      refine r_snb 35 hR rfl rfl rfl e_MM_give_72 (rfl) (by show _ < 120; omega) (by first | assumption | exact Or.inl rfl | exact Or.inr rfl | exact bz_if) (fun σ hR => ?_)
      refine p_aload_n e_MM_give_73 rfl ?_
      refine x_gf 36 hR.2 e_MM_give_74 f_MM_101 rfl rfl ?_
      refine p_iload e_MM_give_77 rfl ?_
      refine p_aload_n e_MM_give_79 rfl ?_
      refine x_gf 8 hR.2 e_MM_give_80 f_MM_20 rfl rfl ?_
      refine p_iload e_MM_give_83 rfl ?_
      refine r_ldv 8 (v := sv A 8 (2 * x + b)) hR rfl (by decide) rfl e_MM_give_85 (rfl) (by show _ < 10; omega) (hR.pl rfl) ((by rw [sv_set1, if_neg (by omega), sv_set1, if_neg (by omega), sv_set1, if_neg (by omega)]; exact s8)) ?_
      refine r_sn 36 hR rfl rfl rfl e_MM_give_86 (rfl) (by show _ < 120; omega) (fun σ hR => ?_)
      refine p_aload_n e_MM_give_87 rfl ?_
      refine x_gf 5 hR.2 e_MM_give_88 f_MM_7 rfl rfl ?_
      refine p_iload e_MM_give_91 rfl ?_
      refine p_aload_n e_MM_give_93 rfl ?_
      refine x_gf 5 hR.2 e_MM_give_94 f_MM_7 rfl rfl ?_
      refine p_iload e_MM_give_97 rfl ?_
      refine r_ldv 5 (v := sv A 5 (2 * x + b)) hR rfl (by decide) rfl e_MM_give_99 (rfl) (by show _ < 10; omega) (hR.pl rfl) ((by rw [sv_set1, if_neg (by omega), sv_set1, if_neg (by omega), sv_set1, if_neg (by omega), sv_set1, if_neg (by omega)]; exact s5)) ?_
      refine p_iload e_MM_give_100 rfl ?_
      refine p_isub e_MM_give_102 ?_
      refine r_sn 5 hR rfl rfl rfl e_MM_give_103 (rfl) (by show _ < 10; omega) (fun σ hR => ?_)
      refine p_aload_n e_MM_give_104 rfl ?_
      refine x_gf 6 hR.2 e_MM_give_105 f_MM_13 rfl rfl ?_
      refine p_iload e_MM_give_108 rfl ?_
      refine p_aload_n e_MM_give_110 rfl ?_
      refine x_gf 6 hR.2 e_MM_give_111 f_MM_13 rfl rfl ?_
      refine p_iload e_MM_give_114 rfl ?_
      refine r_lbv 6 (v := sv A 6 (2 * x + b)) hR rfl (by decide) rfl e_MM_give_116 (rfl) (by show _ < 10; omega) (hR.pl rfl) ((by rw [sv_set1, if_neg (by omega), sv_set1, if_neg (by omega), sv_set1, if_neg (by omega), sv_set1, if_neg (by omega), sv_set1, if_neg (by omega)]; exact s6)) ?_
      have e7 : sv (set1 (set1 (set1 (set1 (set1 B 33 (ln A) many) 34 (ln A) ow) 35 (ln A) (if (ow ≠ 0 ∨ sd ≠ 0) ∧ sv A 7 (2 * x + b) ≠ 0 then 1 else 0)) 36 (ln A) (sv A 8 (2 * x + b))) 5 (2 * x + b) (sv A 5 (2 * x + b) - many)) 7 (2 * x + b) = sv A 7 (2 * x + b) := by rw [sv_set1, if_neg (by omega), sv_set1, if_neg (by omega), sv_set1, if_neg (by omega), sv_set1, if_neg (by omega), sv_set1, if_neg (by omega)]; exact s7
      have e5 : sv (set1 (set1 (set1 (set1 (set1 B 33 (ln A) many) 34 (ln A) ow) 35 (ln A) (if (ow ≠ 0 ∨ sd ≠ 0) ∧ sv A 7 (2 * x + b) ≠ 0 then 1 else 0)) 36 (ln A) (sv A 8 (2 * x + b))) 5 (2 * x + b) (sv A 5 (2 * x + b) - many)) 5 (2 * x + b) = sv A 5 (2 * x + b) - many := by rw [sv_set1, if_pos ⟨rfl, rfl⟩]
      refine p_if_eq (tgt := 129) e_MM_give_117 (by decide) (fun h117 => ?_) (fun h117 => ?_)
      · refine p_iconst (x := 0) e_MM_give_129 (by decide) ?_
        refine Wp.lv2 (t3 _ 0 _ hR e7 e5 (Or.inl rfl) (fun σ' h => hP σ' ?_)) ⟨rfl, rfl, rfl, rfl, rfl, rfl, rfl, rfl, rfl, trivial⟩
        have e6 : (if sv A 6 (2 * x + b) ≠ 0 ∧ ow = 0 then (1 : Int32) else 0) = 0 := if_neg (fun q => q.1 h117)
        rw [e6]
        exact h
      refine p_iload e_MM_give_120 rfl ?_
      refine p_if_ne (tgt := 129) e_MM_give_122 (by decide) (fun h122 => ?_) (fun h122 => ?_)
      · refine p_iconst (x := 0) e_MM_give_129 (by decide) ?_
        refine Wp.lv2 (t3 _ 0 _ hR e7 e5 (Or.inl rfl) (fun σ' h => hP σ' ?_)) ⟨rfl, rfl, rfl, rfl, rfl, rfl, rfl, rfl, rfl, trivial⟩
        have e6 : (if sv A 6 (2 * x + b) ≠ 0 ∧ ow = 0 then (1 : Int32) else 0) = 0 := if_neg (fun q => h122 q.2)
        rw [e6]
        exact h
      · refine p_iconst (x := 1) e_MM_give_125 (by decide) ?_
        refine p_goto (tgt := 130) e_MM_give_126 (by decide) ?_
        refine Wp.lv2 (t3 _ 1 _ hR e7 e5 (Or.inr rfl) (fun σ' h => hP σ' ?_)) ⟨rfl, rfl, rfl, rfl, rfl, rfl, rfl, rfl, rfl, trivial⟩
        have e6 : (if sv A 6 (2 * x + b) ≠ 0 ∧ ow = 0 then (1 : Int32) else 0) = 1 := if_pos ⟨h117, h122⟩
        rw [e6]
        exact h
    have mid : (ow ≠ 0 ∨ sd ≠ 0) → Wp m_MM_give 4 57 [(8, .inl (nI (ln A))), (7, .inl (nI (2 * x + b))), (0, .inr m), (1, .inl (nI x)), (2, .inl (nI b)), (3, .inl to), (4, .inl many), (5, .inl ow), (6, .inl sd)] [.inl (nI (ln A)), .inr (Z 35)] σ (fun v σ' => RV m_MM_give.2.2.2 v ∧ P v σ') := by
      intro hy
      refine p_aload_n e_MM_give_57 rfl ?_
      refine x_gf 7 hR.2 e_MM_give_58 f_MM_17 rfl rfl ?_
      refine p_iload e_MM_give_61 rfl ?_
      refine r_lbv 7 (v := sv A 7 (2 * x + b)) hR rfl (by decide) rfl e_MM_give_63 (rfl) (by show _ < 10; omega) (hR.pl rfl) ((by rw [sv_set1, if_neg (by omega), sv_set1, if_neg (by omega)]; exact s7)) ?_
      refine p_if_eq (tgt := 71) e_MM_give_64 (by decide) (fun h64 => ?_) (fun h64 => ?_)
      · refine p_iconst (x := 0) e_MM_give_71 (by decide) ?_
        exact t2 _ 0 hR (by rw [if_neg (fun q => q.2 h64)])
      · refine p_iconst (x := 1) e_MM_give_67 (by decide) ?_
        refine p_goto (tgt := 72) e_MM_give_68 (by decide) ?_
        exact t2 _ 1 hR (by rw [if_pos ⟨hy, h64⟩])
    refine p_iload e_MM_give_47 rfl ?_
    refine p_if_ne (tgt := 57) e_MM_give_49 (by decide) (fun h49 => ?_) (fun h49 => ?_)
    · exact Wp.lv2 (mid (Or.inl h49)) ⟨rfl, rfl, rfl, rfl, rfl, rfl, rfl, rfl, rfl, trivial⟩
    refine p_iload e_MM_give_52 rfl ?_
    refine p_if_eq (tgt := 71) e_MM_give_54 (by decide) (fun h54 => ?_) (fun h54 => ?_)
    · refine p_iconst (x := 0) e_MM_give_71 (by decide) ?_
      refine Wp.lv2 (t2 _ 0 hR (by rw [if_neg]; rintro ⟨q | q, -⟩; exact q h49; exact q h54)) ⟨rfl, rfl, rfl, rfl, rfl, rfl, rfl, rfl, rfl, trivial⟩
    · exact Wp.lv2 (mid (Or.inr h54)) ⟨rfl, rfl, rfl, rfl, rfl, rfl, rfl, rfl, rfl, trivial⟩
  · unfold gvA at hP
    rw [if_pos h9] at hP
    refine p_ret e_MM_give_12 (rv_v ?_)
    exact hP _ hR
theorem m1_lt : (-1 : Int32) < 0 := by decide
set_option maxHeartbeats 4000000 in
theorem sp_MM_giveWay {x b : Nat} (hx : x ≤ N) (hb : b < 2) (hI : LI N A eb eo) (hR : RR N m Z σ0 nD σ A) (hP : ∀ σ', RR N m Z σ0 nD σ' (gwA A x b) → P none σ') : Ctr m_MM_giveWay 5 [.inr m, .inl (nI x), .inl (nI b)] σ P := by
  have hN := hR.2.hN
  have tm := hR.tg
  have hl := hI.bound
  obtain ⟨-, ⟨w6, w7, w10⟩, wv, w9⟩ := hI.cwf hx hb
  unfold gwA at hP
  refine Ctr.of y_MM_giveWay (Nat.le_of_ble_eq_true rfl) ?_
  refine p_iconst (x := 2) e_MM_giveWay_0 (by decide) ?_
  refine p_iload_n e_MM_giveWay_1 rfl ?_
  refine p_imul e_MM_giveWay_2 ?_
  refine p_iload_n e_MM_giveWay_3 rfl ?_
  refine p_iadd e_MM_giveWay_4 ?_
  refine p_top (at2) ?_
  refine p_istore_n e_MM_giveWay_5 (by decide) ?_
  refine p_aload_n e_MM_giveWay_6 rfl ?_
  refine x_gf 9 hR.2 e_MM_giveWay_7 f_MM_23 rfl rfl ?_
  refine p_iload_n e_MM_giveWay_10 rfl ?_
  refine r_ld 9 hR rfl (by decide) rfl e_MM_giveWay_11 (rfl) (by show _ < 10; omega) (hR.pl rfl) ?_
  refine p_istore e_MM_giveWay_12 (by decide) ?_
  refine p_iload e_MM_giveWay_14 rfl ?_
  rcases w9 with w9 | ⟨c, hc, w9⟩
  · refine p_if_lt (tgt := 25) e_MM_giveWay_16 (by decide) (fun _ => ?_) (fun hx => absurd ((by rw [w9]; decide)) hx)
    rw [if_pos (Or.inl w9)] at hP
    refine p_ret e_MM_giveWay_25 (rv_v ?_)
    exact hP _ hR
  · refine p_if_lt (tgt := 25) e_MM_giveWay_16 (by decide) (fun hx => absurd hx ((by rw [w9]; exact nI_pos (by omega)))) (fun _ => ?_)
    refine p_iload e_MM_giveWay_19 rfl ?_
    refine p_iload_n e_MM_giveWay_21 rfl ?_
    refine p_icmp_ne (tgt := 26) e_MM_giveWay_22 (by decide) (fun h22 => ?_) (fun h22 => ?_)
    · have hn1 : sv A 9 (2 * x + b) ≠ -1 := by rw [w9]; intro q; exact absurd (nI_pos (n := c) (by omega)) (by rw [q]; simp [m1_lt])
      rw [if_neg (by rintro (q | q); exact hn1 q; exact h22 q)] at hP
      refine p_aload_n e_MM_giveWay_26 rfl ?_
      refine x_gf 10 hR.2 e_MM_giveWay_27 f_MM_26 rfl rfl ?_
      refine p_iload_n e_MM_giveWay_30 rfl ?_
      refine r_lb 10 hR rfl (by decide) rfl e_MM_giveWay_31 (rfl) (by show _ < 10; omega) (ok_10 hn1) ?_
      refine p_if_eq (tgt := 59) e_MM_giveWay_32 (by decide) (fun h32 => ?_) (fun h32 => ?_)
      · rw [if_neg (fun q => q h32)] at hP
        refine p_aload_n e_MM_giveWay_59 rfl ?_
        refine x_gf 6 hR.2 e_MM_giveWay_60 f_MM_13 rfl rfl ?_
        refine p_iload_n e_MM_giveWay_63 rfl ?_
        refine r_lb 6 hR rfl (by decide) rfl e_MM_giveWay_64 (rfl) (by show _ < 10; omega) (hR.pl rfl) ?_
        refine p_if_eq (tgt := 79) e_MM_giveWay_65 (by decide) (fun h65 => ?_) (fun h65 => ?_)
        · rw [if_neg (fun q => q h65)] at hP
          refine p_ret e_MM_giveWay_79 (rv_v ?_)
          exact hP _ hR
        · rw [if_pos h65] at hP
          have o1 : sv A 6 (2 * x + b) = 1 := by rcases w6 with q | q; exact absurd q h65; exact q
          have v1 : sv A 7 (2 * x + b) ≠ 0 := by rw [(wv o1).1]; decide
          refine p_aload_n e_MM_giveWay_68 rfl ?_
          refine p_iload_n e_MM_giveWay_69 rfl ?_
          refine p_iload_n e_MM_giveWay_70 rfl ?_
          refine p_iload e_MM_giveWay_71 rfl ?_
          refine p_iconst (x := 1) e_MM_giveWay_73 (by decide) ?_
          refine p_iconst (x := 1) e_MM_giveWay_74 (by decide) ?_
          refine p_iconst (x := 0) e_MM_giveWay_75 (by decide) ?_
          refine p_inv (ci := 8) (d' := 4) [_, _, _, _, _, _] _ e_MM_giveWay_76 c_MM_141 k_MM_give i_MM_give s_MM_give rfl rfl (by assumption) rfl rfl (Nat.le_of_ble_eq_true rfl) (Nat.le_of_ble_eq_true rfl) ?_
          refine sp_MM_give hx hb (Or.inr rfl) (by omega) hR (fun σ hR => ?_)
          rw [if_pos ⟨Or.inl (by decide), v1⟩] at hR
          refine p_ret e_MM_giveWay_79 (rv_v ?_)
          exact hP _ hR
      · rw [if_pos h32] at hP
        refine p_aload_n e_MM_giveWay_35 rfl ?_
        refine p_iload_n e_MM_giveWay_36 rfl ?_
        refine p_iload_n e_MM_giveWay_37 rfl ?_
        refine p_iload e_MM_giveWay_38 rfl ?_
        refine p_aload_n e_MM_giveWay_40 rfl ?_
        refine x_gf 5 hR.2 e_MM_giveWay_41 f_MM_7 rfl rfl ?_
        refine p_iload_n e_MM_giveWay_44 rfl ?_
        refine r_ld 5 hR rfl (by decide) rfl e_MM_giveWay_45 (rfl) (by show _ < 10; omega) (hR.pl rfl) ?_
        refine p_aload_n e_MM_giveWay_46 rfl ?_
        refine x_gf 6 hR.2 e_MM_giveWay_47 f_MM_13 rfl rfl ?_
        refine p_iload_n e_MM_giveWay_50 rfl ?_
        refine r_lb 6 hR rfl (by decide) rfl e_MM_giveWay_51 (rfl) (by show _ < 10; omega) (hR.pl rfl) ?_
        refine p_iconst (x := 0) e_MM_giveWay_52 (by decide) ?_
        refine p_inv (ci := 8) (d' := 4) [_, _, _, _, _, _] _ e_MM_giveWay_53 c_MM_141 k_MM_give i_MM_give s_MM_give rfl rfl (by assumption) rfl rfl (Nat.le_of_ble_eq_true rfl) (Nat.le_of_ble_eq_true rfl) ?_
        refine sp_MM_give hx hb w6 (by omega) hR (fun σ hR => ?_)
        have ew : (if (sv A 6 (2 * x + b) ≠ 0 ∨ (0 : Int32) ≠ 0) ∧ sv A 7 (2 * x + b) ≠ 0 then (1 : Int32) else 0) = sv A 6 (2 * x + b) := by
          rcases w6 with q | q
          · rw [q, if_neg]; rintro ⟨y | y, -⟩ <;> exact y rfl
          · rw [q, if_pos ⟨Or.inl (by decide), by rw [(wv q).1]; decide⟩]
        rw [ew] at hR
        refine p_goto (tgt := 79) e_MM_giveWay_56 (by decide) ?_
        refine p_ret e_MM_giveWay_79 (rv_v ?_)
        exact hP _ hR
    · rw [if_pos (Or.inr h22)] at hP
      refine p_ret e_MM_giveWay_25 (rv_v ?_)
      exact hP _ hR
theorem sp_MM_canEnd {c b : Nat} (hc : c < N) (hb : b < 2) (hbl : sv A 15 c = nI b) (hR : RR N m Z σ0 D σ A) (k1 : ceA N A c b → P (some (.inl 1)) σ) (k0 : ¬ ceA N A c b → P (some (.inl 0)) σ) : Ctr m_MM_canEnd 1 [.inr m, .inl (nI c)] σ P := by
  have hN := hR.2.hN
  have no : ¬ ceA N A c b → Wp m_MM_canEnd 1 48 [] [] σ (fun v σ' => RV m_MM_canEnd.2.2.2 v ∧ P v σ') := by
    intro h
    refine p_iconst (x := 0) e_MM_canEnd_48 (by decide) ?_
    refine p_iret e_MM_canEnd_49 (rv_z (by first | assumption | exact Or.inl rfl | exact Or.inr rfl) ?_)
    exact k0 h
  have ys : ceA N A c b → Wp m_MM_canEnd 1 44 [] [] σ (fun v σ' => RV m_MM_canEnd.2.2.2 v ∧ P v σ') := by
    intro h
    refine p_iconst (x := 1) e_MM_canEnd_44 (by decide) ?_
    refine p_goto (tgt := 49) e_MM_canEnd_45 (by decide) ?_
    refine p_iret e_MM_canEnd_49 (rv_z (by first | assumption | exact Or.inl rfl | exact Or.inr rfl) ?_)
    exact k1 h
  refine Ctr.of y_MM_canEnd (Nat.le_of_ble_eq_true rfl) ?_
  refine p_iconst (x := 2) e_MM_canEnd_0 (by decide) ?_
  refine p_iload_n e_MM_canEnd_1 rfl ?_
  refine p_imul e_MM_canEnd_2 ?_
  refine p_aload_n e_MM_canEnd_3 rfl ?_
  refine x_gf 15 hR.2 e_MM_canEnd_4 f_MM_41 rfl rfl ?_
  refine p_iload_n e_MM_canEnd_7 rfl ?_
  refine r_ldv 15 (v := nI b) hR rfl (by decide) rfl e_MM_canEnd_8 (rfl) (by show _ < 4; omega) (hR.pl rfl) (hbl) ?_
  refine p_iadd e_MM_canEnd_9 ?_
  refine p_top (at2) ?_
  refine p_istore_n e_MM_canEnd_10 (by decide) ?_
  refine p_aload_n e_MM_canEnd_11 rfl ?_
  refine x_gf 7 hR.2 e_MM_canEnd_12 f_MM_17 rfl rfl ?_
  refine p_iload_n e_MM_canEnd_15 rfl ?_
  refine r_lb 7 hR rfl (by decide) rfl e_MM_canEnd_16 (rfl) (by show _ < 10; omega) (hR.pl rfl) ?_
  refine p_if_eq (tgt := 48) e_MM_canEnd_17 (by decide) (fun h17 => ?_) (fun h17 => ?_)
  · exact Wp.lv2 (no (fun q => q.1 h17)) trivial
  refine p_aload_n e_MM_canEnd_20 rfl ?_
  refine x_gf 13 hR.2 e_MM_canEnd_21 f_MM_35 rfl rfl ?_
  refine p_iload_n e_MM_canEnd_24 rfl ?_
  refine r_lb 13 hR rfl (by decide) rfl e_MM_canEnd_25 (rfl) (by show _ < 4; omega) (hR.pl rfl) ?_
  refine p_if_eq (tgt := 44) e_MM_canEnd_26 (by decide) (fun h26 => ?_) (fun h26 => ?_)
  · exact Wp.lv2 (ys ⟨h17, Or.inl h26⟩) trivial
  refine p_aload_n e_MM_canEnd_29 rfl ?_
  refine x_gf 5 hR.2 e_MM_canEnd_30 f_MM_7 rfl rfl ?_
  refine p_iload_n e_MM_canEnd_33 rfl ?_
  refine r_ld 5 hR rfl (by decide) rfl e_MM_canEnd_34 (rfl) (by show _ < 10; omega) (hR.pl rfl) ?_
  refine p_aload_n e_MM_canEnd_35 rfl ?_
  refine x_gN hR.2 e_MM_canEnd_36 f_MM_113 rfl ?_
  refine p_iconst (x := 1) e_MM_canEnd_39 (by decide) ?_
  refine p_iadd e_MM_canEnd_40 ?_
  refine p_top (nI_1 N) ?_
  refine p_icmp_ne (tgt := 48) e_MM_canEnd_41 (by decide) (fun h41 => ?_) (fun h41 => ?_)
  · exact Wp.lv2 (no (fun q => by rcases q.2 with y | y; exact h26 y; exact h41 y)) trivial
  · exact Wp.lv2 (ys ⟨h17, Or.inr h41⟩) trivial
/-- the same numbers in other words -/
theorem RR.eq {A' : AS} (h : RR N m Z σ0 D σ A) (e1 : ln A' = ln A) (e2 : rn A' = rn A) (e3 : ∀ k i, sv A' k i = sv A k i) : RR N m Z σ0 D σ A' := by
  refine ⟨h.1, h.2.cg e1 (fun b _ => by rw [e2]) (fun k _ => e3 k 0) (fun k i _ _ _ y => ⟨fun z => y ?_, e3 k i⟩)⟩
  rcases z with z | z
  · refine Or.inl ?_
    unfold Ex at z ⊢
    rw [e1, e2, e3, e3, e3, e3, e3]
    exact z
  · exact Or.inr z
theorem set_set {k i k' i' : Nat} {v v' : Int32} (h : ¬ (k = k' ∧ i = i')) : ∀ q j, sv (set1 (set1 A k i v) k' i' v') q j = sv (set1 (set1 A k' i' v') k i v) q j := by
  intro q j
  rw [sv_set1, sv_set1, sv_set1, sv_set1]
  by_cases z : q = k' ∧ j = i'
  · rw [if_pos z, if_neg (by rintro ⟨rfl, rfl⟩; exact h ⟨z.1, z.2⟩), if_pos z]
  · rw [if_neg z, if_neg z]
set_option maxHeartbeats 4000000 in
theorem sp_MM_end {c b : Nat} (hc : c < N) (hb : b < 2) (hbl : sv A 15 c = nI b) (h12 : sv A 12 c ≠ 0) (hI : LI N A eb eo) (hD : ∀ k i, D k i → k = 12 ∧ i = c) (hR : RR N m Z σ0 D σ A) (hP : ∀ σ', RR N m Z σ0 nD σ' (enA N A c b) → P none σ') : Ctr m_MM_endd 4 [.inr m, .inl (nI c)] σ P := by
  have hN := hR.2.hN
  have tm := hR.tg
  have hl := hI.bound
  have r14 : ai σ (Z 14) c = sv A 14 c := hR.2.2.2.2.2.1 14 c rfl (by decide) (show c < 4 by omega) (RR.o14 (fun q => by have := (hD 14 c q).1; omega) h12).no
  refine Ctr.of y_MM_endd (Nat.le_of_ble_eq_true rfl) ?_
  refine p_iconst (x := 2) e_MM_endd_0 (by decide) ?_
  refine p_iload_n e_MM_endd_1 rfl ?_
  refine p_imul e_MM_endd_2 ?_
  refine p_aload_n e_MM_endd_3 rfl ?_
  refine x_gf 15 hR.2 e_MM_endd_4 f_MM_41 rfl rfl ?_
  refine p_iload_n e_MM_endd_7 rfl ?_
  refine r_ldv 15 (v := nI b) hR rfl (by decide) rfl e_MM_endd_8 (rfl) (by show _ < 4; omega) (hR.pl rfl) (hbl) ?_
  refine p_iadd e_MM_endd_9 ?_
  refine p_top (at2) ?_
  refine p_istore_n e_MM_endd_10 (by decide) ?_
  refine p_aload_n e_MM_endd_11 rfl ?_
  refine x_gf 21 hR.2 e_MM_endd_12 f_MM_59 rfl rfl ?_
  refine p_iload_n e_MM_endd_15 rfl ?_
  refine p_aload_n e_MM_endd_16 rfl ?_
  refine x_gf 8 hR.2 e_MM_endd_17 f_MM_20 rfl rfl ?_
  refine p_iload_n e_MM_endd_20 rfl ?_
  refine r_ld 8 hR rfl (by decide) rfl e_MM_endd_21 rfl (by show _ < 10; omega) (hR.pl rfl) ?_
  refine x_st 21 (E' := fun k i => Ex (set1 A 21 c (sv A 8 (2 * c + b))) k i ∨ D k i) (set1 A 21 c (sv A 8 (2 * c + b))) hR.2 rfl rfl e_MM_endd_22 rfl (show c < 4 by omega) rfl (fun b hb => by rw [if_neg (by omega)]; rfl) (fun k' hk' => by rw [sv_set1, if_neg (by omega)]) (fun k' i y1 y2 y3 y4 y5 => rr_st (A := A) (D := D) (k := 21) (n := c) rfl k' i y1 y2 y3 (fun q => y4 (by rcases q with q | q; exact Or.inl q; exact Or.inr q.1)) y5) (fun _ _ => by rw [sv_set1, if_pos ⟨rfl, rfl⟩]) (fun σ1 hR1 raw1 => ?_)
  have hR : RR N m Z σ0 D σ1 (set1 A 21 c (sv A 8 (2 * c + b))) := ⟨hR.1, hR1⟩
  have r14 : ai σ1 (Z 14) c = sv A 14 c := (raw1 14 c rfl (by omega)).trans r14
  have main : ∀ (σ : PS) (B : AS), RR N m Z σ0 D σ B → ai σ (Z 14) c = sv A 14 c → (ln B = ln A ∧ rn B = rn A) → (∀ k j, sv B k j = sv (if sv A 13 c = 0 then set1 A 21 c (sv A 8 (2 * c + b)) else set1 (set1 A 21 c (sv A 8 (2 * c + b))) 8 (2 * c + b) (sv A 16 c)) k j) → Wp m_MM_endd 4 53 [(2, .inl (nI (2 * c + b))), (0, .inr m), (1, .inl (nI c))] [] σ (fun v σ' => RV m_MM_endd.2.2.2 v ∧ P v σ') := by
    intro σ B hR r14 eB eS
    have s20 : sv B 20 c = sv A 20 c := by
      rw [eS]
      split
      · rw [sv_set1, if_neg (by omega)]
      · rw [sv_set1, if_neg (by omega), sv_set1, if_neg (by omega)]
    have s17 : sv B 17 c = sv A 17 c := by
      rw [eS]
      split
      · rw [sv_set1, if_neg (by omega)]
      · rw [sv_set1, if_neg (by omega), sv_set1, if_neg (by omega)]
    refine p_aload_n e_MM_endd_53 rfl ?_
    refine x_gf 20 hR.2 e_MM_endd_54 f_MM_56 rfl rfl ?_
    refine p_iload_n e_MM_endd_57 rfl ?_
    refine p_dup2 e_MM_endd_58 ?_
    refine r_ldv 20 (v := sv A 20 c) hR rfl (by decide) rfl e_MM_endd_59 rfl (by show _ < 4; omega) (hR.pl rfl) s20 ?_
    refine p_iconst (x := 1) e_MM_endd_60 (by decide) ?_
    refine p_iadd e_MM_endd_61 ?_
    refine x_st 20 (E' := fun k i => Ex (set1 B 20 c (sv A 20 c + 1)) k i ∨ D k i) (set1 B 20 c (sv A 20 c + 1)) hR.2 rfl rfl e_MM_endd_62 rfl (show c < 4 by omega) rfl (fun b hb => by rw [if_neg (by omega)]; rfl) (fun k' hk' => by rw [sv_set1, if_neg (by omega)]) (fun k' i y1 y2 y3 y4 y5 => rr_st (A := B) (D := D) (k := 20) (n := c) rfl k' i y1 y2 y3 (fun q => y4 (by rcases q with q | q; exact Or.inl q; exact Or.inr q.1)) y5) (fun _ _ => by rw [sv_set1, if_pos ⟨rfl, rfl⟩]) (fun σ2 hR2 raw2 => ?_)
    have hR : RR N m Z σ0 D σ2 (set1 B 20 c (sv A 20 c + 1)) := ⟨hR.1, hR2⟩
    have r14 : ai σ2 (Z 14) c = sv A 14 c := (raw2 14 c rfl (by omega)).trans r14
    refine p_aload_n e_MM_endd_63 rfl ?_
    refine x_gf 12 hR.2 e_MM_endd_64 f_MM_32 rfl rfl ?_
    refine p_iload_n e_MM_endd_67 rfl ?_
    refine p_iconst (x := 0) e_MM_endd_68 (by decide) ?_
    refine r_s12z hR e_MM_endd_69 rfl (show c < 4 by omega) (fun σ3 hR3 raw3 => ?_)
    have r14 : ai σ3 (Z 14) c = sv A 14 c := (raw3 14 c rfl (by omega)).trans r14
    have hR : RR N m Z σ0 nD σ3 (enB A c b) := by
      refine (hR3.n0 (fun k i q => q.2 (hD k i q.1))).eq (by rw [ln_enB]; exact eB.1.symm) (by rw [rn_enB]; exact eB.2.symm) (fun k i => ?_)
      unfold enB
      rw [set_set (by omega) k i, sv_set1, sv_set1, sv_set1, sv_set1, eS]
    have tm := hR.tg
    have hI2 : LI N (enB A c b) eb eo := hI.enB
    unfold enA at hP
    have fin : ∀ (σ : PS) (B : AS), sv B 12 c = 0 → RR N m Z σ0 nD σ B → (∀ σ', RR N m Z σ0 nD σ' B → P none σ') → Wp m_MM_endd 4 104 [(0, .inr m), (1, .inl (nI c))] [] σ (fun v σ' => RV m_MM_endd.2.2.2 v ∧ P v σ') := by
      intro σ B hB hR hP
      refine p_aload_n e_MM_endd_104 rfl ?_
      refine x_gf 14 hR.2 e_MM_endd_105 f_MM_38 rfl rfl ?_
      refine p_iload_n e_MM_endd_108 rfl ?_
      refine p_iconst (x := 0) e_MM_endd_109 (by decide) ?_
      refine r_snb 14 hR rfl rfl rfl e_MM_endd_110 (rfl) (by show _ < 4; omega) (by first | assumption | exact Or.inl rfl | exact Or.inr rfl | exact bz_if) (fun σ hR => ?_)
      refine p_ret e_MM_endd_111 (rv_v ?_)
      exact hP _ (hR.f14 hB)
    refine p_aload_n e_MM_endd_70 rfl ?_
    refine x_gf 14 hR.2 e_MM_endd_71 f_MM_38 rfl rfl ?_
    refine p_iload_n e_MM_endd_74 rfl ?_
    refine x_lrb 14 hR.2 rfl rfl e_MM_endd_75 rfl (show c < 4 by omega) r14 ?_
    refine p_if_eq (tgt := 104) e_MM_endd_76 (by decide) (fun h76 => ?_) (fun h76 => ?_)
    · rw [if_pos h76] at hP
      exact Wp.lv2 (fin _ _ (by rw [sv_enB12, if_pos rfl]) hR hP) ⟨rfl, rfl, trivial⟩
    · rw [if_neg h76] at hP
      refine p_aload_n e_MM_endd_79 rfl ?_
      refine p_bipush (x := 6) e_MM_endd_80 (by decide) ?_
      refine p_iload_n e_MM_endd_82 rfl ?_
      refine p_aload_n e_MM_endd_83 rfl ?_
      refine x_gN hR.2 e_MM_endd_84 f_MM_113 rfl ?_
      refine p_iconst (x := 0) e_MM_endd_87 (by decide) ?_
      refine p_inv (ci := 8) (d' := 3) [_, _, _, _] _ e_MM_endd_88 c_MM_137 k_MM_send i_MM_send s_MM_send rfl rfl (by assumption) rfl rfl (Nat.le_of_ble_eq_true rfl) (Nat.le_of_ble_eq_true rfl) ?_
      refine sp_MM_send (kd := 6) (by rw [ln_enB]; omega) hI2.hu hR (fun σ hR => ?_)
      have hle := dpL_le (enB A c b) 6 (nI c) (nI N) 0
      rw [ln_enB] at hle
      refine p_istore_n e_MM_endd_91 (by decide) ?_
      refine p_aload_n e_MM_endd_92 rfl ?_
      refine x_gf 37 hR.2 e_MM_endd_93 f_MM_104 rfl rfl ?_
      refine p_iload_n e_MM_endd_96 rfl ?_
      refine p_aload_n e_MM_endd_97 rfl ?_
      refine x_gf 17 hR.2 e_MM_endd_98 f_MM_47 rfl rfl ?_
      refine p_iload_n e_MM_endd_101 rfl ?_
      refine r_ldv 17 (v := sv A 17 c) hR rfl (by decide) rfl e_MM_endd_102 (rfl) (by show _ < 4; omega) (hR.pl rfl) ((by rw [sv_sdL (by omega)]; exact sv_enB (by omega))) ?_
      refine r_sn 37 hR rfl rfl rfl e_MM_endd_103 (rfl) (by show _ < 120; omega) (fun σ hR => ?_)
      exact Wp.lv2 (fin _ _ (by rw [sv_set1, if_neg (by omega), sv_sdL (by omega), sv_enB12, if_pos rfl]) hR hP) ⟨rfl, rfl, trivial⟩
  refine p_aload_n e_MM_endd_23 rfl ?_
  refine x_gf 8 hR.2 e_MM_endd_24 f_MM_20 rfl rfl ?_
  refine p_iload_n e_MM_endd_27 rfl ?_
  refine p_aload_n e_MM_endd_28 rfl ?_
  refine x_gf 13 hR.2 e_MM_endd_29 f_MM_35 rfl rfl ?_
  refine p_iload_n e_MM_endd_32 rfl ?_
  refine r_lbv 13 (v := sv A 13 c) hR rfl (by decide) rfl e_MM_endd_33 (rfl) (by show _ < 4; omega) (hR.pl rfl) ((by rw [sv_set1, if_neg (by omega)])) ?_
  refine p_if_eq (tgt := 46) e_MM_endd_34 (by decide) (fun h34 => ?_) (fun h34 => ?_)
  · refine p_aload_n e_MM_endd_46 rfl ?_
    refine x_gf 8 hR.2 e_MM_endd_47 f_MM_20 rfl rfl ?_
    refine p_iload_n e_MM_endd_50 rfl ?_
    refine r_ldv 8 (v := sv A 8 (2 * c + b)) hR rfl (by decide) rfl e_MM_endd_51 (rfl) (by show _ < 10; omega) (hR.pl rfl) ((by rw [sv_set1, if_neg (by omega)])) ?_
    refine x_st 8 (E' := fun k i => Ex (set1 (set1 A 21 c (sv A 8 (2 * c + b))) 8 (2 * c + b) (sv A 8 (2 * c + b))) k i ∨ D k i) (set1 (set1 A 21 c (sv A 8 (2 * c + b))) 8 (2 * c + b) (sv A 8 (2 * c + b))) hR.2 rfl rfl e_MM_endd_52 rfl (show 2 * c + b < 10 by omega) rfl (fun b hb => by rw [if_neg (by omega)]; rfl) (fun k' hk' => by rw [sv_set1, if_neg (by omega)]) (fun k' i y1 y2 y3 y4 y5 => rr_st (A := set1 A 21 c (sv A 8 (2 * c + b))) (D := D) (k := 8) (n := 2 * c + b) rfl k' i y1 y2 y3 (fun q => y4 (by rcases q with q | q; exact Or.inl q; exact Or.inr q.1)) y5) (fun _ _ => by rw [sv_set1, if_pos ⟨rfl, rfl⟩]) (fun σ2 hR2 raw2 => ?_)
    refine Wp.lv2 (main σ2 _ ⟨hR.1, hR2⟩ ((raw2 14 c rfl (by omega)).trans r14) ⟨rfl, rfl⟩ (fun k j => ?_)) ⟨rfl, rfl, rfl, trivial⟩
    rw [if_pos h34, sv_set1]
    by_cases z : k = 8 ∧ j = 2 * c + b
    · rw [if_pos z, z.1, z.2, sv_set1, if_neg (by omega)]
    · rw [if_neg z]
  · refine p_aload_n e_MM_endd_37 rfl ?_
    refine x_gf 16 hR.2 e_MM_endd_38 f_MM_44 rfl rfl ?_
    refine p_iload_n e_MM_endd_41 rfl ?_
    refine r_ldv 16 (v := sv A 16 c) hR rfl (by decide) rfl e_MM_endd_42 (rfl) (by show _ < 4; omega) (hR.pl rfl) ((by rw [sv_set1, if_neg (by omega)])) ?_
    refine p_goto (tgt := 52) e_MM_endd_43 (by decide) ?_
    refine x_st 8 (E' := fun k i => Ex (set1 (set1 A 21 c (sv A 8 (2 * c + b))) 8 (2 * c + b) (sv A 16 c)) k i ∨ D k i) (set1 (set1 A 21 c (sv A 8 (2 * c + b))) 8 (2 * c + b) (sv A 16 c)) hR.2 rfl rfl e_MM_endd_52 rfl (show 2 * c + b < 10 by omega) rfl (fun b hb => by rw [if_neg (by omega)]; rfl) (fun k' hk' => by rw [sv_set1, if_neg (by omega)]) (fun k' i y1 y2 y3 y4 y5 => rr_st (A := set1 A 21 c (sv A 8 (2 * c + b))) (D := D) (k := 8) (n := 2 * c + b) rfl k' i y1 y2 y3 (fun q => y4 (by rcases q with q | q; exact Or.inl q; exact Or.inr q.1)) y5) (fun _ _ => by rw [sv_set1, if_pos ⟨rfl, rfl⟩]) (fun σ2 hR2 raw2 => ?_)
    refine Wp.lv2 (main σ2 _ ⟨hR.1, hR2⟩ ((raw2 14 c rfl (by omega)).trans r14) ⟨rfl, rfl⟩ (fun k j => ?_)) ⟨rfl, rfl, rfl, trivial⟩
    rw [if_neg h34]
end RefG
