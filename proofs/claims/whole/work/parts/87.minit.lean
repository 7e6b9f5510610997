/-! the reference's constructor -/
def ikz (k : Nat) : Nat := if k ≤ 27 then k - 5 else k - 6
/-- K arrays are there -/
def MI (σ0 : PS) (m K : Nat) (σ : PS) : Prop := FR σ ∧ (nx σ = nx σ0 + K ∧ sl σ ≤ sl σ0 + 120 * K) ∧ EX (fun _ x => x = m) n1 σ0 σ ∧ (∀ k, fi σ k m = 0) ∧ ∀ k, isZ k = true → ikz k < K → fr σ (512 + k) m = nx σ0 + ikz k ∧ tg σ (nx σ0 + ikz k) = tz k ∧ al σ (nx σ0 + ikz k) = lz k ∧ ∀ j, ai σ (nx σ0 + ikz k) j = 0
theorem ikz_inj {k k' : Nat} (h : isZ k = true) (h' : isZ k' = true) (e : ikz k = ikz k') : k = k' := by
  have h := of_decide_eq_true h
  have h' := of_decide_eq_true h'
  unfold ikz at e
  split at e <;> split at e <;> omega
theorem ikz_lt {k : Nat} (h : isZ k = true) : ikz k < 34 := by
  have h := of_decide_eq_true h
  unfold ikz
  split <;> omega
theorem lz_le {k : Nat} : lz k ≤ 120 := by
  unfold lz
  split <;> (try split) <;> (try split) <;> (try split) <;> (try split) <;> omega
section MMI
variable {M : MM} {d pc : Nat} {lv : List (Nat × PV)} {st : List PV} {σ σ0 : PS} {P : Option PV → PS → Prop} {N m K : Nat} {R Q : Int32} {Z : Nat → Nat} {b i j : Nat}
theorem mi_step {k : Nat} (hk : isZ k = true) (hK : ikz k = K) (hm : m < nx σ0) (h : MI σ0 m K σ) : MI σ0 m (K + 1) (pfr (parr σ (tz k - 100) (lz k)) (512 + k) m (nx σ)) := by
  obtain ⟨h1, ⟨h2, h3⟩, h4, h5, h6⟩ := h
  have tzz : 100 + (tz k - 100) = tz k := by rcases tz_or (k := k) with q | q <;> omega
  have lzz := lz_le (k := k)
  refine ⟨FR.na h1, ⟨by show nx σ + 1 = _; omega, by show sl σ + lz k ≤ _; omega⟩, (h4.na).fr (Or.inl rfl), h5, fun k' hk' hl => ?_⟩
  rw [fr_pfr, tg_pfr, tg_parr, al_pfr, al_parr]
  by_cases e : k' = k
  · subst e
    rw [if_pos ⟨rfl, rfl⟩, hK, if_pos h2.symm, if_pos h2.symm]
    refine ⟨h2, tzz, rfl, fun j => ?_⟩
    rw [ai_pfr, ai_parr, if_pos h2.symm]
  · have hlt : ikz k' < K := by
      rcases Nat.lt_or_ge (ikz k') K with q | q
      · exact q
      · exact absurd (ikz_inj hk' hk (by omega)) e
    rw [if_neg (by omega), if_neg (by omega), if_neg (by omega)]
    obtain ⟨q1, q2, q3, q4⟩ := h6 k' hk' hlt
    refine ⟨q1, q2, q3, fun j => ?_⟩
    rw [ai_pfr, ai_parr, if_neg (by omega)]
    exact q4 j
theorem x_mk (k : Nat) {idx : Nat} {atype : ArrayType} {x : Int32} (hk : isZ k = true) (hK : ikz k = K) (hmm : (m < nx σ0 ∧ tg σ0 m = 9) ∧ MI σ0 m K σ) (hd : decode M.2.1 pc = .ok (.newarray atype, 2)) (hty : newarray.typeOf atype = aty (tz k - 100)) (hw : Cond.arrayClass (aty (tz k - 100)) ∈ GT) (hx : x = nI (lz k)) (hd2 : decode M.2.1 (pc + 2) = .ok (.putfield idx, 3)) (hf : FS M.1.cls idx 8 k) (hr : isR 8 k = true) (hfin : FinOk M 8 k)
    (kk : ∀ σ', ((m < nx σ0 ∧ tg σ0 m = 9) ∧ MI σ0 m (K + 1) σ') → Wp M d (pc + 5) lv st σ' P) : Wp M d pc lv (.inl x :: .inr m :: st) σ P := by
  obtain ⟨⟨hm, tm⟩, h⟩ := hmm
  have l2 := lz_le (k := k)
  have hx2 := h.2.1.1
  have tzl : tz k - 100 < 2 := by rcases tz_or (k := k) with q | q <;> omega
  have tm1 : tg (parr σ (tz k - 100) (lz k)) m = 9 := by rw [tg_parr, if_neg (by omega)]; exact (h.2.2.1.2.1 m hm).1.trans tm
  rw [hx]
  refine p_newa (ti := tz k - 100) (n := lz k) hd tzl hty hw (nI_pos (by omega)) (nI_clamp (by omega)) (by omega) ?_
  refine p_pR (512 + k) hd2 hf hr rfl hfin tm1 ?_
  exact kk _ ⟨⟨hm, tm⟩, mi_step hk hK hm h⟩
set_option maxHeartbeats 4000000 in
theorem wp_n0 (h0 : m ≠ 0) (h : (m < nx σ0 ∧ tg σ0 m = 9) ∧ MI σ0 m 0 σ) {c p q : Int32} (k : ∀ σ', ((m < nx σ0 ∧ tg σ0 m = 9) ∧ MI σ0 m 34 σ') → Wp m_MM_init 1 263 [(0, .inr m), (1, .inl c), (2, .inl p), (3, .inl q)] [] σ' P) : Wp m_MM_init 1 0 (largs 0 [.inr m, .inl c, .inl p, .inl q]) [] σ P := by
  refine p_aload_n e_MM_init_0 rfl ?_
  refine p_oinit e_MM_init_1 c_MM_1 i_oi q_oi h0 (Nat.le_of_ble_eq_true rfl) (by decide) ?_
  refine p_aload_n e_MM_init_4 rfl ?_
  refine p_bipush (x := 10) e_MM_init_5 (by decide) ?_
  refine x_mk 5 rfl rfl h e_MM_init_7 rfl a_int (by decide) e_MM_init_9 f_MM_7 rfl (fun q h => by cases h; exact Or.inr ⟨rfl, rfl, rfl⟩) (fun σ h => ?_)
  refine p_aload_n e_MM_init_12 rfl ?_
  refine p_bipush (x := 10) e_MM_init_13 (by decide) ?_
  refine x_mk 6 rfl rfl h e_MM_init_15 rfl a_boolean (by decide) e_MM_init_17 f_MM_13 rfl (fun q h => by cases h; exact Or.inr ⟨rfl, rfl, rfl⟩) (fun σ h => ?_)
  refine p_aload_n e_MM_init_20 rfl ?_
  refine p_bipush (x := 10) e_MM_init_21 (by decide) ?_
  refine x_mk 7 rfl rfl h e_MM_init_23 rfl a_boolean (by decide) e_MM_init_25 f_MM_17 rfl (fun q h => by cases h; exact Or.inr ⟨rfl, rfl, rfl⟩) (fun σ h => ?_)
  refine p_aload_n e_MM_init_28 rfl ?_
  refine p_bipush (x := 10) e_MM_init_29 (by decide) ?_
  refine x_mk 8 rfl rfl h e_MM_init_31 rfl a_int (by decide) e_MM_init_33 f_MM_20 rfl (fun q h => by cases h; exact Or.inr ⟨rfl, rfl, rfl⟩) (fun σ h => ?_)
  refine p_aload_n e_MM_init_36 rfl ?_
  refine p_bipush (x := 10) e_MM_init_37 (by decide) ?_
  refine x_mk 9 rfl rfl h e_MM_init_39 rfl a_int (by decide) e_MM_init_41 f_MM_23 rfl (fun q h => by cases h; exact Or.inr ⟨rfl, rfl, rfl⟩) (fun σ h => ?_)
  refine p_aload_n e_MM_init_44 rfl ?_
  refine p_bipush (x := 10) e_MM_init_45 (by decide) ?_
  refine x_mk 10 rfl rfl h e_MM_init_47 rfl a_boolean (by decide) e_MM_init_49 f_MM_26 rfl (fun q h => by cases h; exact Or.inr ⟨rfl, rfl, rfl⟩) (fun σ h => ?_)
  refine p_aload_n e_MM_init_52 rfl ?_
  refine p_bipush (x := 10) e_MM_init_53 (by decide) ?_
  refine x_mk 11 rfl rfl h e_MM_init_55 rfl a_int (by decide) e_MM_init_57 f_MM_29 rfl (fun q h => by cases h; exact Or.inr ⟨rfl, rfl, rfl⟩) (fun σ h => ?_)
  refine p_aload_n e_MM_init_60 rfl ?_
  refine p_iconst (x := 4) e_MM_init_61 (by decide) ?_
  refine x_mk 12 rfl rfl h e_MM_init_62 rfl a_boolean (by decide) e_MM_init_64 f_MM_32 rfl (fun q h => by cases h; exact Or.inr ⟨rfl, rfl, rfl⟩) (fun σ h => ?_)
  refine p_aload_n e_MM_init_67 rfl ?_
  refine p_iconst (x := 4) e_MM_init_68 (by decide) ?_
  refine x_mk 13 rfl rfl h e_MM_init_69 rfl a_boolean (by decide) e_MM_init_71 f_MM_35 rfl (fun q h => by cases h; exact Or.inr ⟨rfl, rfl, rfl⟩) (fun σ h => ?_)
  refine p_aload_n e_MM_init_74 rfl ?_
  refine p_iconst (x := 4) e_MM_init_75 (by decide) ?_
  refine x_mk 14 rfl rfl h e_MM_init_76 rfl a_boolean (by decide) e_MM_init_78 f_MM_38 rfl (fun q h => by cases h; exact Or.inr ⟨rfl, rfl, rfl⟩) (fun σ h => ?_)
  refine p_aload_n e_MM_init_81 rfl ?_
  refine p_iconst (x := 4) e_MM_init_82 (by decide) ?_
  refine x_mk 15 rfl rfl h e_MM_init_83 rfl a_int (by decide) e_MM_init_85 f_MM_41 rfl (fun q h => by cases h; exact Or.inr ⟨rfl, rfl, rfl⟩) (fun σ h => ?_)
  refine p_aload_n e_MM_init_88 rfl ?_
  refine p_iconst (x := 4) e_MM_init_89 (by decide) ?_
  refine x_mk 16 rfl rfl h e_MM_init_90 rfl a_int (by decide) e_MM_init_92 f_MM_44 rfl (fun q h => by cases h; exact Or.inr ⟨rfl, rfl, rfl⟩) (fun σ h => ?_)
  refine p_aload_n e_MM_init_95 rfl ?_
  refine p_iconst (x := 4) e_MM_init_96 (by decide) ?_
  refine x_mk 17 rfl rfl h e_MM_init_97 rfl a_int (by decide) e_MM_init_99 f_MM_47 rfl (fun q h => by cases h; exact Or.inr ⟨rfl, rfl, rfl⟩) (fun σ h => ?_)
  refine p_aload_n e_MM_init_102 rfl ?_
  refine p_iconst (x := 4) e_MM_init_103 (by decide) ?_
  refine x_mk 18 rfl rfl h e_MM_init_104 rfl a_int (by decide) e_MM_init_106 f_MM_50 rfl (fun q h => by cases h; exact Or.inr ⟨rfl, rfl, rfl⟩) (fun σ h => ?_)
  refine p_aload_n e_MM_init_109 rfl ?_
  refine p_iconst (x := 4) e_MM_init_110 (by decide) ?_
  refine x_mk 19 rfl rfl h e_MM_init_111 rfl a_int (by decide) e_MM_init_113 f_MM_53 rfl (fun q h => by cases h; exact Or.inr ⟨rfl, rfl, rfl⟩) (fun σ h => ?_)
  refine p_aload_n e_MM_init_116 rfl ?_
  refine p_iconst (x := 4) e_MM_init_117 (by decide) ?_
  refine x_mk 20 rfl rfl h e_MM_init_118 rfl a_int (by decide) e_MM_init_120 f_MM_56 rfl (fun q h => by cases h; exact Or.inr ⟨rfl, rfl, rfl⟩) (fun σ h => ?_)
  refine p_aload_n e_MM_init_123 rfl ?_
  refine p_iconst (x := 4) e_MM_init_124 (by decide) ?_
  refine x_mk 21 rfl rfl h e_MM_init_125 rfl a_int (by decide) e_MM_init_127 f_MM_59 rfl (fun q h => by cases h; exact Or.inr ⟨rfl, rfl, rfl⟩) (fun σ h => ?_)
  refine p_aload_n e_MM_init_130 rfl ?_
  refine p_bipush (x := 40) e_MM_init_131 (by decide) ?_
  refine x_mk 22 rfl rfl h e_MM_init_133 rfl a_int (by decide) e_MM_init_135 f_MM_62 rfl (fun q h => by cases h; exact Or.inr ⟨rfl, rfl, rfl⟩) (fun σ h => ?_)
  refine p_aload_n e_MM_init_138 rfl ?_
  refine p_bipush (x := 40) e_MM_init_139 (by decide) ?_
  refine x_mk 23 rfl rfl h e_MM_init_141 rfl a_int (by decide) e_MM_init_143 f_MM_65 rfl (fun q h => by cases h; exact Or.inr ⟨rfl, rfl, rfl⟩) (fun σ h => ?_)
  refine p_aload_n e_MM_init_146 rfl ?_
  refine p_bipush (x := 40) e_MM_init_147 (by decide) ?_
  refine x_mk 24 rfl rfl h e_MM_init_149 rfl a_boolean (by decide) e_MM_init_151 f_MM_68 rfl (fun q h => by cases h; exact Or.inr ⟨rfl, rfl, rfl⟩) (fun σ h => ?_)
  refine p_aload_n e_MM_init_154 rfl ?_
  refine p_iconst (x := 2) e_MM_init_155 (by decide) ?_
  refine x_mk 25 rfl rfl h e_MM_init_156 rfl a_int (by decide) e_MM_init_158 f_MM_71 rfl (fun q h => by cases h; exact Or.inr ⟨rfl, rfl, rfl⟩) (fun σ h => ?_)
  refine p_aload_n e_MM_init_161 rfl ?_
  refine p_iconst (x := 2) e_MM_init_162 (by decide) ?_
  refine x_mk 26 rfl rfl h e_MM_init_163 rfl a_int (by decide) e_MM_init_165 f_MM_74 rfl (fun q h => by cases h; exact Or.inr ⟨rfl, rfl, rfl⟩) (fun σ h => ?_)
  refine p_aload_n e_MM_init_168 rfl ?_
  refine p_iconst (x := 4) e_MM_init_169 (by decide) ?_
  refine x_mk 27 rfl rfl h e_MM_init_170 rfl a_int (by decide) e_MM_init_172 f_MM_77 rfl (fun q h => by cases h; exact Or.inr ⟨rfl, rfl, rfl⟩) (fun σ h => ?_)
  refine p_aload_n e_MM_init_175 rfl ?_
  refine p_bipush (x := 120) e_MM_init_176 (by decide) ?_
  refine x_mk 29 rfl rfl h e_MM_init_178 rfl a_int (by decide) e_MM_init_180 f_MM_80 rfl (fun q h => by cases h; exact Or.inr ⟨rfl, rfl, rfl⟩) (fun σ h => ?_)
  refine p_aload_n e_MM_init_183 rfl ?_
  refine p_bipush (x := 120) e_MM_init_184 (by decide) ?_
  refine x_mk 30 rfl rfl h e_MM_init_186 rfl a_int (by decide) e_MM_init_188 f_MM_83 rfl (fun q h => by cases h; exact Or.inr ⟨rfl, rfl, rfl⟩) (fun σ h => ?_)
  refine p_aload_n e_MM_init_191 rfl ?_
  refine p_bipush (x := 120) e_MM_init_192 (by decide) ?_
  refine x_mk 31 rfl rfl h e_MM_init_194 rfl a_int (by decide) e_MM_init_196 f_MM_86 rfl (fun q h => by cases h; exact Or.inr ⟨rfl, rfl, rfl⟩) (fun σ h => ?_)
  refine p_aload_n e_MM_init_199 rfl ?_
  refine p_bipush (x := 120) e_MM_init_200 (by decide) ?_
  refine x_mk 32 rfl rfl h e_MM_init_202 rfl a_int (by decide) e_MM_init_204 f_MM_89 rfl (fun q h => by cases h; exact Or.inr ⟨rfl, rfl, rfl⟩) (fun σ h => ?_)
  refine p_aload_n e_MM_init_207 rfl ?_
  refine p_bipush (x := 120) e_MM_init_208 (by decide) ?_
  refine x_mk 33 rfl rfl h e_MM_init_210 rfl a_int (by decide) e_MM_init_212 f_MM_92 rfl (fun q h => by cases h; exact Or.inr ⟨rfl, rfl, rfl⟩) (fun σ h => ?_)
  refine p_aload_n e_MM_init_215 rfl ?_
  refine p_bipush (x := 120) e_MM_init_216 (by decide) ?_
  refine x_mk 34 rfl rfl h e_MM_init_218 rfl a_boolean (by decide) e_MM_init_220 f_MM_95 rfl (fun q h => by cases h; exact Or.inr ⟨rfl, rfl, rfl⟩) (fun σ h => ?_)
  refine p_aload_n e_MM_init_223 rfl ?_
  refine p_bipush (x := 120) e_MM_init_224 (by decide) ?_
  refine x_mk 35 rfl rfl h e_MM_init_226 rfl a_boolean (by decide) e_MM_init_228 f_MM_98 rfl (fun q h => by cases h; exact Or.inr ⟨rfl, rfl, rfl⟩) (fun σ h => ?_)
  refine p_aload_n e_MM_init_231 rfl ?_
  refine p_bipush (x := 120) e_MM_init_232 (by decide) ?_
  refine x_mk 36 rfl rfl h e_MM_init_234 rfl a_int (by decide) e_MM_init_236 f_MM_101 rfl (fun q h => by cases h; exact Or.inr ⟨rfl, rfl, rfl⟩) (fun σ h => ?_)
  refine p_aload_n e_MM_init_239 rfl ?_
  refine p_bipush (x := 120) e_MM_init_240 (by decide) ?_
  refine x_mk 37 rfl rfl h e_MM_init_242 rfl a_int (by decide) e_MM_init_244 f_MM_104 rfl (fun q h => by cases h; exact Or.inr ⟨rfl, rfl, rfl⟩) (fun σ h => ?_)
  refine p_aload_n e_MM_init_247 rfl ?_
  refine p_bipush (x := 120) e_MM_init_248 (by decide) ?_
  refine x_mk 38 rfl rfl h e_MM_init_250 rfl a_int (by decide) e_MM_init_252 f_MM_107 rfl (fun q h => by cases h; exact Or.inr ⟨rfl, rfl, rfl⟩) (fun σ h => ?_)
  refine p_aload_n e_MM_init_255 rfl ?_
  refine p_bipush (x := 120) e_MM_init_256 (by decide) ?_
  refine x_mk 39 rfl rfl h e_MM_init_258 rfl a_boolean (by decide) e_MM_init_260 f_MM_110 rfl (fun q h => by cases h; exact Or.inr ⟨rfl, rfl, rfl⟩) (fun σ h => ?_)
  exact Wp.lv2 (k _ h) ⟨rfl, rfl, rfl, rfl, trivial⟩
/-- the three numbers -/
def sc3 (σ : PS) (m N : Nat) (R Q : Int32) : PS := pfi (pfi (pfi σ 513 m (nI N)) 514 m R) 515 m Q
theorem cl_br {lo hi v : Int32} : (¬ lo ≤ v → lo = cl lo hi v) ∧ (lo ≤ v → ¬ v ≤ hi → hi = cl lo hi v) ∧ (lo ≤ v → v ≤ hi → v = cl lo hi v) := by
  unfold cl
  refine ⟨fun h => by rw [if_neg h], fun h h' => by rw [if_pos h, if_neg h'], fun h h' => by rw [if_pos h, if_pos h']⟩
theorem wp_n1 (tm : tg σ m = 9) {c p q : Int32} (hN : nI N = cl 2 4 c) (hR : R = cl 0 4 p) (hQ : Q = cl 1 20 q) (k : Wp m_MM_init 1 333 [(0, .inr m)] [] (sc3 σ m N R Q) P) : Wp m_MM_init 1 263 [(0, .inr m), (1, .inl c), (2, .inl p), (3, .inl q)] [] σ P := by
  have s3 : ∀ v, v = cl 1 20 q → Wp m_MM_init 1 330 [(0, .inr m)] [.inl v, .inr m] (pfi (pfi σ 513 m (nI N)) 514 m R) P := by
    intro v hv
    have tm : tg (pfi (pfi σ 513 m (nI N)) 514 m R) m = 9 := tm
    refine p_top (hv.trans hQ.symm) ?_
    refine p_pI 515 e_MM_init_330 f_MM_120 rfl rfl (fun q h => by cases h; exact Or.inr ⟨rfl, rfl, rfl⟩) rfl (by assumption) ?_
    exact k
  have s2 : ∀ v, v = cl 0 4 p → Wp m_MM_init 1 305 [(0, .inr m), (3, .inl q)] [.inl v, .inr m] (pfi σ 513 m (nI N)) P := by
    intro v hv
    have tm : tg (pfi σ 513 m (nI N)) m = 9 := tm
    refine p_top (hv.trans hR.symm) ?_
    refine p_pI 514 e_MM_init_305 f_MM_117 rfl rfl (fun q h => by cases h; exact Or.inr ⟨rfl, rfl, rfl⟩) rfl (by assumption) ?_
    refine p_aload_n e_MM_init_308 rfl ?_
    refine p_iload_n e_MM_init_309 rfl ?_
    refine p_iconst (x := 1) e_MM_init_310 (by decide) ?_
    refine p_icmp_ge (tgt := 318) e_MM_init_311 (by decide) (fun h311 => ?_) (fun h311 => ?_)
    · refine p_iload_n e_MM_init_318 rfl ?_
      refine p_bipush (x := 20) e_MM_init_319 (by decide) ?_
      refine p_icmp_le (tgt := 329) e_MM_init_321 (by decide) (fun h321 => ?_) (fun h321 => ?_)
      · refine p_iload_n e_MM_init_329 rfl ?_
        exact Wp.lv2 (s3 _ (cl_br.2.2 h311 h321)) ⟨rfl, trivial⟩
      · refine p_bipush (x := 20) e_MM_init_324 (by decide) ?_
        refine p_goto (tgt := 330) e_MM_init_326 (by decide) ?_
        exact Wp.lv2 (s3 _ (cl_br.2.1 h311 h321)) ⟨rfl, trivial⟩
    · refine p_iconst (x := 1) e_MM_init_314 (by decide) ?_
      refine p_goto (tgt := 330) e_MM_init_315 (by decide) ?_
      exact Wp.lv2 (s3 _ (cl_br.1 h311)) ⟨rfl, trivial⟩
  have s1 : ∀ v, v = cl 2 4 c → Wp m_MM_init 1 283 [(0, .inr m), (2, .inl p), (3, .inl q)] [.inl v, .inr m] σ P := by
    intro v hv
    refine p_top (hv.trans hN.symm) ?_
    refine p_pI 513 e_MM_init_283 f_MM_113 rfl rfl (fun q h => by cases h; exact Or.inr ⟨rfl, rfl, rfl⟩) rfl (by assumption) ?_
    refine p_aload_n e_MM_init_286 rfl ?_
    refine p_iload_n e_MM_init_287 rfl ?_
    refine p_if_ge (tgt := 295) e_MM_init_288 (by decide) (fun h288 => ?_) (fun h288 => ?_)
    · refine p_iload_n e_MM_init_295 rfl ?_
      refine p_iconst (x := 4) e_MM_init_296 (by decide) ?_
      refine p_icmp_le (tgt := 304) e_MM_init_297 (by decide) (fun h297 => ?_) (fun h297 => ?_)
      · refine p_iload_n e_MM_init_304 rfl ?_
        exact Wp.lv2 (s2 _ (cl_br.2.2 h288 h297)) ⟨rfl, rfl, trivial⟩
      · refine p_iconst (x := 4) e_MM_init_300 (by decide) ?_
        refine p_goto (tgt := 305) e_MM_init_301 (by decide) ?_
        exact Wp.lv2 (s2 _ (cl_br.2.1 h288 h297)) ⟨rfl, rfl, trivial⟩
    · refine p_iconst (x := 0) e_MM_init_291 (by decide) ?_
      refine p_goto (tgt := 305) e_MM_init_292 (by decide) ?_
      exact Wp.lv2 (s2 _ (cl_br.1 h288)) ⟨rfl, rfl, trivial⟩
  refine p_aload_n e_MM_init_263 rfl ?_
  refine p_iload_n e_MM_init_264 rfl ?_
  refine p_iconst (x := 2) e_MM_init_265 (by decide) ?_
  refine p_icmp_ge (tgt := 273) e_MM_init_266 (by decide) (fun h266 => ?_) (fun h266 => ?_)
  · refine p_iload_n e_MM_init_273 rfl ?_
    refine p_iconst (x := 4) e_MM_init_274 (by decide) ?_
    refine p_icmp_le (tgt := 282) e_MM_init_275 (by decide) (fun h275 => ?_) (fun h275 => ?_)
    · refine p_iload_n e_MM_init_282 rfl ?_
      exact Wp.lv2 (s1 _ (cl_br.2.2 h266 h275)) ⟨rfl, rfl, rfl, trivial⟩
    · refine p_iconst (x := 4) e_MM_init_278 (by decide) ?_
      refine p_goto (tgt := 283) e_MM_init_279 (by decide) ?_
      exact Wp.lv2 (s1 _ (cl_br.2.1 h266 h275)) ⟨rfl, rfl, rfl, trivial⟩
  · refine p_iconst (x := 2) e_MM_init_269 (by decide) ?_
    refine p_goto (tgt := 283) e_MM_init_270 (by decide) ?_
    exact Wp.lv2 (s1 _ (cl_br.1 h266)) ⟨rfl, rfl, rfl, trivial⟩
def Az (N : Nat) (R Q : Int32) (j b : Nat) : AS := (0, (fun _ => 0), fun k i => if k = 2 then R else if k = 3 then Q else if k = 9 ∧ i < j then -1 else if (k = 5 ∨ k = 6 ∨ k = 7) ∧ 2 * N ≤ i ∧ i < 2 * N + b then (if k = 5 then nI (N + 1) else 1) else 0)
theorem sv_Az {k : Nat} : sv (Az N R Q j b) k i = if k = 2 then R else if k = 3 then Q else if k = 9 ∧ i < j then -1 else if (k = 5 ∨ k = 6 ∨ k = 7) ∧ 2 * N ≤ i ∧ i < 2 * N + b then (if k = 5 then nI (N + 1) else 1) else 0 := rfl
/-- how the arrays stand at first -/
theorem rx_0 (hN : 2 ≤ N ∧ N ≤ 4) (hm : m < nx σ0 ∧ tg σ0 m = 9) (h : MI σ0 m 34 σ) : RX N m (fun k => nx σ0 + ikz k) (sc3 σ m N R Q) n2 (sc3 σ m N R Q) (Az N R Q 0 0) := by
  obtain ⟨h1, ⟨h2, h3⟩, h4, h5, h6⟩ := h
  have fq : FQ m (fun k => nx σ0 + ikz k) (sc3 σ m N R Q) (sc3 σ m N R Q) := ⟨rfl, rfl, rfl, rfl, fun _ _ _ => rfl, fun _ _ _ => rfl⟩
  have f : ∀ k, fi (sc3 σ m N R Q) k m = if k = 515 then Q else if k = 514 then R else if k = 513 then nI N else 0 := by
    intro k
    unfold sc3
    rw [fi_pfi, fi_pfi, fi_pfi, h5 k]
    simp
  have az : ∀ k i, k ≠ 2 → k ≠ 3 → sv (Az N R Q 0 0) k i = 0 := by
    intro k i e1 e2
    rw [sv_Az, if_neg e1, if_neg e2, if_neg (by omega), if_neg (by omega)]
  refine ⟨⟨hN, (h4.2.1 m hm.1).1.trans hm.2, ?_, fun k hk => ?_, fun k k' hk hk' e => ikz_inj hk hk' (by have e : nx σ0 + ikz k = nx σ0 + ikz k' := e; omega)⟩, fq, ⟨?_, ?_, ?_, ?_⟩, fun b hb => ?_, fun k i hk h25 hi _ => ?_, fun k i hk ht hi => ?_⟩
  · rw [f 513]; rfl
  · obtain ⟨q1, q2, q3, q4⟩ := h6 k hk (ikz_lt hk)
    exact ⟨q1, q2, q3⟩
  · rw [f 514]; rfl
  · rw [f 515]; rfl
  · rw [f 516, az 4 0 (by omega) (by omega)]; rfl
  · rw [f 540]; exact nI_0.symm
  · exact ((h6 25 rfl (by decide)).2.2.2 b).trans nI_0.symm
  · have hk2 := of_decide_eq_true hk
    rw [az k i (by omega) (by omega)]
    exact (h6 k hk (ikz_lt hk)).2.2.2 i
  · exact Or.inl ((h6 k hk (ikz_lt hk)).2.2.2 i)
/-- who knows nothing -/
theorem wp_n2 (k : ∀ σ', RX N m Z σ0 n2 σ' (Az N R Q 10 0) → Wp m_MM_init 1 357 [(0, .inr m)] [] σ' P) : ∀ n j, j + n = 10 → ∀ σ, RX N m Z σ0 n2 σ (Az N R Q j 0) → Wp m_MM_init 1 336 [(4, .inl (nI j)), (0, .inr m)] [] σ P := by
  intro n
  induction n with
  | zero =>
    intro j hj σ hR
    have e : j = 10 := by omega
    subst e
    refine p_iload e_MM_init_336 rfl ?_
    refine p_bipush (x := 10) e_MM_init_338 (by decide) ?_
    refine p_icmp_ge (tgt := 357) e_MM_init_340 (by decide) (fun _ => ?_) (fun hx => absurd ((show nI 10 ≤ nI 10 from nI_le (Nat.le_refl _) (by omega))) hx)
    exact Wp.lv2 (k σ hR) ⟨rfl, trivial⟩
  | succ n ih =>
    intro j hj σ hR
    refine p_iload e_MM_init_336 rfl ?_
    refine p_bipush (x := 10) e_MM_init_338 (by decide) ?_
    refine p_icmp_ge (tgt := 357) e_MM_init_340 (by decide) (fun hx => absurd hx ((show ¬ (nI 10 ≤ nI j) from nI_ge (by omega) (by omega)))) (fun _ => ?_)
    refine p_aload_n e_MM_init_343 rfl ?_
    refine x_gf 9 hR e_MM_init_344 f_MM_23 rfl rfl ?_
    refine p_iload e_MM_init_347 rfl ?_
    refine p_iconst (x := (-1)) e_MM_init_349 (by decide) ?_
    refine x_st 9 (E' := n2) (Az N R Q (j + 1) 0) hR rfl rfl e_MM_init_350 rfl (show j < 10 by omega) rfl (fun b hb => by rw [if_neg (by omega)]; rfl) (fun k hk => ?_) (fun k' i y1 y2 y3 y4 y5 => ⟨id, ?_⟩) (fun _ _ => ?_) (fun σ' h _ => ?_)
    · rw [sv_Az, sv_Az]
      split
      · rfl
      · split
        · rfl
        · first | rw [if_neg (by omega), if_neg (by omega), if_neg (by omega), if_neg (by omega)] | rw [if_neg (by omega), if_neg (by omega), if_neg (by omega)] | rw [if_neg (by omega), if_neg (by omega)]
    · rw [sv_Az, sv_Az]
      split
      · rfl
      · split
        · rfl
        · by_cases e : k' = 9 ∧ i < j
          · rw [if_pos e, if_pos ⟨e.1, by omega⟩]
          · rw [if_neg e, if_neg (by omega)]
    · rw [sv_Az, if_neg (by omega), if_neg (by omega), if_pos ⟨rfl, by omega⟩]
    · refine p_iinc e_MM_init_351 rfl rfl (by decide) ?_
      refine p_goto (tgt := 336) e_MM_init_354 (by decide) ?_
      exact Wp.lv2 (ih (j + 1) (by omega) σ' h) ⟨congrArg (fun z => some (Sum.inl z)) (nI_1 j), rfl, trivial⟩
theorem az_set {k : Nat} : sv (Az N R Q 10 (b + 1)) k i = sv (set1 (set1 (set1 (Az N R Q 10 b) 5 (2 * N + b) (nI (N + 1))) 6 (2 * N + b) 1) 7 (2 * N + b) 1) k i := by
  rw [sv_set1, sv_set1, sv_set1, sv_Az (b := b + 1), sv_Az (b := b)]
  by_cases ei : i = 2 * N + b
  · subst ei
    by_cases e7 : k = 7
    · subst e7; simp
    · by_cases e6 : k = 6
      · subst e6; simp
      · by_cases e5 : k = 5
        · subst e5; simp
        · simp [e5, e6, e7]
  · have : (i < 2 * N + (b + 1)) ↔ (i < 2 * N + b) := by omega
    have h7 : ∀ y, ¬ (k = y ∧ i = 2 * N + b) := fun y q => ei q.2
    simp only [this, if_neg (h7 7), if_neg (h7 6), if_neg (h7 5)]
/-- the home has all -/
theorem wp_n3 (hN : 2 ≤ N ∧ N ≤ 4) (hb : b < 2) (hR : RX N m Z σ0 n2 σ (Az N R Q 10 b)) (k : ∀ σ', RX N m Z σ0 n2 σ' (Az N R Q 10 (b + 1)) → Wp m_MM_init 1 360 [(4, .inl (nI (b + 1))), (0, .inr m)] [] σ' P) : Wp m_MM_init 1 360 [(4, .inl (nI b)), (0, .inr m)] [] σ P := by
  have lo : ∀ (A : AS) (kk n : Nat) (v : Int32), 5 ≤ kk → ∀ k, k < 5 → sv (set1 A kk n v) k 0 = sv A k 0 := fun A kk n v h k hk => by rw [sv_set1, if_neg (by omega)]
  refine p_iload e_MM_init_360 rfl ?_
  refine p_iconst (x := 2) e_MM_init_362 (by decide) ?_
  refine p_icmp_ge (tgt := 412) e_MM_init_363 (by decide) (fun hx => absurd hx ((show ¬ (nI 2 ≤ nI b) from nI_ge hb (by omega)))) (fun _ => ?_)
  refine p_iconst (x := 2) e_MM_init_366 (by decide) ?_
  refine p_aload_n e_MM_init_367 rfl ?_
  refine x_gN hR e_MM_init_368 f_MM_113 rfl ?_
  refine p_imul e_MM_init_371 ?_
  refine p_iload e_MM_init_372 rfl ?_
  refine p_iadd e_MM_init_374 ?_
  refine p_top at2 ?_
  refine p_istore e_MM_init_375 (by decide) ?_
  refine p_aload_n e_MM_init_377 rfl ?_
  refine x_gf 5 hR e_MM_init_378 f_MM_7 rfl rfl ?_
  refine p_iload e_MM_init_381 rfl ?_
  refine p_aload_n e_MM_init_383 rfl ?_
  refine x_gN hR e_MM_init_384 f_MM_113 rfl ?_
  refine p_iconst (x := 1) e_MM_init_387 (by decide) ?_
  refine p_iadd e_MM_init_388 ?_
  refine p_top (nI_1 N) ?_
  refine x_st 5 (E' := n2) (set1 (Az N R Q 10 b) 5 (2 * N + b) (nI (N + 1))) hR rfl rfl e_MM_init_389 rfl (show 2 * N + b < 10 by omega) rfl (fun b hb => by rw [if_neg (by omega)]; rfl) (lo _ _ _ _ (by omega)) (fun k' i y1 y2 y3 y4 y5 => ⟨id, by rw [sv_set1, if_neg y5]⟩) (fun _ _ => by rw [sv_set1, if_pos ⟨rfl, rfl⟩]) (fun σ1 hR1 _ => ?_)
  refine p_aload_n e_MM_init_390 rfl ?_
  refine x_gf 6 hR1 e_MM_init_391 f_MM_13 rfl rfl ?_
  refine p_iload e_MM_init_394 rfl ?_
  refine p_iconst (x := 1) e_MM_init_396 (by decide) ?_
  refine x_sb 6 (E' := n2) (set1 (set1 (Az N R Q 10 b) 5 (2 * N + b) (nI (N + 1))) 6 (2 * N + b) 1) hR1 rfl rfl e_MM_init_397 rfl (show 2 * N + b < 10 by omega) (Or.inr rfl) rfl (fun b hb => by rw [if_neg (by omega)]; rfl) (lo _ _ _ _ (by omega)) (fun k' i y1 y2 y3 y4 y5 => ⟨id, by rw [sv_set1, if_neg y5]⟩) (fun _ _ => by rw [sv_set1, if_pos ⟨rfl, rfl⟩]) (fun σ2 hR2 _ => ?_)
  refine p_aload_n e_MM_init_398 rfl ?_
  refine x_gf 7 hR2 e_MM_init_399 f_MM_17 rfl rfl ?_
  refine p_iload e_MM_init_402 rfl ?_
  refine p_iconst (x := 1) e_MM_init_404 (by decide) ?_
  refine x_sb 7 (E' := n2) (set1 (set1 (set1 (Az N R Q 10 b) 5 (2 * N + b) (nI (N + 1))) 6 (2 * N + b) 1) 7 (2 * N + b) 1) hR2 rfl rfl e_MM_init_405 rfl (show 2 * N + b < 10 by omega) (Or.inr rfl) rfl (fun b hb => by rw [if_neg (by omega)]; rfl) (lo _ _ _ _ (by omega)) (fun k' i y1 y2 y3 y4 y5 => ⟨id, by rw [sv_set1, if_neg y5]⟩) (fun _ _ => by rw [sv_set1, if_pos ⟨rfl, rfl⟩]) (fun σ3 hR3 _ => ?_)
  refine p_iinc e_MM_init_406 rfl rfl (by decide) ?_
  refine p_goto (tgt := 360) e_MM_init_409 (by decide) ?_
  refine Wp.lv2 (k σ3 (hR3.cg rfl (fun _ _ => rfl) (fun k hk => ?_) (fun k' i y1 y2 y3 y4 => ⟨id, ?_⟩))) ⟨congrArg (fun z => some (Sum.inl z)) (nI_1 b), rfl, trivial⟩
  · rw [lo _ _ _ _ (by omega) k hk, lo _ _ _ _ (by omega) k hk, lo _ _ _ _ (by omega) k hk, sv_Az, sv_Az]
    split
    · rfl
    · split
      · rfl
      · first | rw [if_neg (by omega), if_neg (by omega), if_neg (by omega), if_neg (by omega)] | rw [if_neg (by omega), if_neg (by omega), if_neg (by omega)] | rw [if_neg (by omega), if_neg (by omega)]
  · exact az_set
theorem FQ.rf : FQ m Z σ σ := ⟨rfl, rfl, rfl, rfl, fun _ _ _ => rfl, fun _ _ _ => rfl⟩
/-- from here on -/
theorem RX.re {E : Nat → Nat → Prop} {A : AS} (h : RX N m Z σ0 E σ A) : RX N m Z σ E σ A := ⟨h.1, FQ.rf, h.2.2⟩
theorem rr_0 (h : RX N m Z σ0 n2 σ (Az N R Q 10 2)) : RR N m Z σ nD σ (A0 N R Q) := by
  refine ⟨fun _ _ q => absurd q id, h.re.cg rfl (fun _ _ => rfl) (fun k hk => ?_) (fun k' i y1 y2 y3 y4 => ⟨id, ?_⟩)⟩
  · rw [sv_Az, sv_A0]
    split
    · rfl
    · split
      · rfl
      · first | rw [if_neg (by omega), if_neg (by omega), if_neg (by omega), if_neg (by omega)] | rw [if_neg (by omega), if_neg (by omega), if_neg (by omega)] | rw [if_neg (by omega), if_neg (by omega)]
  · have hk := of_decide_eq_true y1
    rw [sv_Az, sv_A0]
    split
    · rfl
    · split
      · rfl
      · by_cases e : k' = 9
        · subst e
          rw [if_pos (Or.inl rfl), if_pos ⟨rfl, y3⟩]
        · rw [if_neg (show ¬ (k' = 9 ∨ k' = 40) by omega), if_neg (show ¬ (k' = 9 ∧ i < 10) by omega)]
theorem sp_MM_init {c p q : Int32} (hN2 : 2 ≤ N ∧ N ≤ 4) (hF : FR σ0) (h0 : ∀ k, fi σ0 k m = 0) (tm : tg σ0 m = 9) (hN : nI N = cl 2 4 c) (hR : R = cl 0 4 p) (hQ : Q = cl 1 20 q)
    (hP : ∀ σ, RR N m (fun k => nx σ0 + ikz k) σ nD σ (A0 N R Q) → EX (fun _ x => x = m) n1 σ0 σ → FR σ → nx σ = nx σ0 + 34 → sl σ ≤ sl σ0 + 4080 → P none σ) : Ctr m_MM_init 1 [.inr m, .inl c, .inl p, .inl q] σ0 P := by
  have hm := hF.lt (r := m) (by omega)
  have hm0 : m ≠ 0 := by rintro rfl; rw [hF.1.2] at tm; omega
  refine Ctr.of y_MM_init (Nat.le_of_ble_eq_true rfl) ?_
  refine wp_n0 hm0 ⟨⟨hm, tm⟩, hF, ⟨rfl, Nat.le_refl _⟩, EX.rf, h0, fun k _ hk => absurd hk (Nat.not_lt_zero _)⟩ (fun σ1 h1 => ?_)
  have tm1 : tg σ1 m = 9 := (h1.2.2.2.1.2.1 m hm).1.trans tm
  have ex1 : EX (fun _ x => x = m) n1 σ0 (sc3 σ1 m N R Q) := (((h1.2.2.2.1).fi (Or.inl rfl)).fi (Or.inl rfl)).fi (Or.inl rfl)
  have nx1 : nx (sc3 σ1 m N R Q) = nx σ0 + 34 := h1.2.2.1.1
  have sl1 : sl (sc3 σ1 m N R Q) ≤ sl σ0 + 4080 := h1.2.2.1.2
  have fr1 : FR (sc3 σ1 m N R Q) := h1.2.1
  refine wp_n1 (N := N) (R := R) (Q := Q) tm1 hN hR hQ ?_
  have hx := rx_0 (R := R) (Q := Q) hN2 h1.1 h1.2
  generalize sc3 σ1 m N R Q = σ2 at hx ex1 nx1 sl1 fr1 ⊢
  refine p_iconst (x := 0) e_MM_init_333 (by decide) ?_
  refine p_istore e_MM_init_334 (by decide) ?_
  refine Wp.lv2 (wp_n2 (R := R) (Q := Q) (fun σ3 hx3 => ?_) 10 0 rfl σ2 hx) ⟨rfl, rfl, trivial⟩
  refine p_iconst (x := 0) e_MM_init_357 (by decide) ?_
  refine p_istore e_MM_init_358 (by decide) ?_
  refine Wp.lv2 (wp_n3 (b := 0) hN2 (by omega) hx3 (fun σ4 hx4 => ?_)) ⟨rfl, rfl, trivial⟩
  refine wp_n3 (b := 1) hN2 (by omega) hx4 (fun σ5 hx5 => ?_)
  refine p_iload e_MM_init_360 rfl ?_
  refine p_iconst (x := 2) e_MM_init_362 (by decide) ?_
  refine p_icmp_ge (tgt := 412) e_MM_init_363 (by decide) (fun _ => ?_) (fun hx => absurd ((show nI 2 ≤ nI 2 from nI_le (Nat.le_refl _) (by omega))) hx)
  refine p_ret e_MM_init_412 (rv_v ?_)
  obtain ⟨a1, a2, a3, a4, a5, a6⟩ := hx5.2.1
  have nx5 : nx σ5 = nx σ2 := congrArg (fun z => z.1) a1
  have sl5 : sl σ5 = sl σ2 := congrArg (fun z => z.2.1) a1
  have tg5 : tg σ5 = tg σ2 := congrArg (fun z => z.2.2) a1
  refine hP σ5 (rr_0 hx5) ⟨by rw [nx5]; exact ex1.1, fun r hr => ?_, fun r j hr => ?_, fun k r hr hk => ?_, fun r j hr hG => ?_⟩ ?_ (by omega) (by omega)
  · rw [tg5, a3]; exact ex1.2.1 r hr
  · rw [a6 r j (fun k hk e => by have e : r = nx σ0 + ikz k := e; omega)]; exact ex1.2.2.1 r j hr
  · rw [a5 k r (Or.inr hk), a2]; exact ex1.2.2.2.1 k r hr hk
  · rw [a4]; exact ex1.2.2.2.2 r j hr hG
  · unfold FR
    rw [nx5, tg5]; exact fr1
end MMI
