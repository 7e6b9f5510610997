/-! the class's constructor, stretch by stretch -/
def shI (N b j k : Nat) : Int32 := if k = 388 then -1 else if 2 * N ≤ j ∧ j < 2 * N + b then (if k = 384 then nI (N + 1) else if k = 385 then 1 else if k = 386 then 1 else 0) else 0
def zI : Nat → Nat → Int32 := fun _ _ => 0
def S1 (r n0 N b i : Nat) (σ : PS) : Prop := fr σ 453 r = n0 ∧ OB n0 3 (2 * N + 2) 7 (shI N b) i σ
def S2 (r a N i : Nat) (σ : PS) : Prop := fr σ 454 r = a ∧ OB a 4 N 2 zI i σ
def S4 (r a N : Nat) (σ : PS) : Prop := fr σ 456 r = a ∧ tg σ a = 100 ∧ al σ a = N ∧ ∀ j, ai σ a j = 0
def S3 (r a z b : Nat) (σ : PS) : Prop := fr σ 455 r = a ∧ tg σ a = 105 ∧ al σ a = 2 ∧ ∀ j, j < b → ar σ a j = a + 1 + 2 * j ∧ tg σ (a + 1 + 2 * j) = 3 ∧ fr σ 128 (a + 1 + 2 * j) = a + 2 + 2 * j ∧ fr σ 129 (a + 1 + 2 * j) = 0 ∧ fi σ 130 (a + 1 + 2 * j) = 0 ∧ NL z (a + 2 + 2 * j) σ
def S5 (r a z : Nat) (σ : PS) : Prop := fr σ 457 r = a ∧ tg σ a = 5 ∧ fr σ 256 a = a + 1 ∧ fr σ 257 a = a + 2 ∧ NL z (a + 1) σ ∧ NL z (a + 2) σ
section Ini2
variable {F : Nat → Nat → Prop} {G : Nat → Prop} {σ σ' σ0 : PS} {r N n B a z b i : Nat} {R Q : Int32} {P : Option PV → PS → Prop}
theorem S1.ex (h : S1 r a N b i σ) (e : EX F G σ σ') (hr : r < nx σ) (ha : a + 1 + i ≤ nx σ) (hFr : ¬ F 453 r) (hG : ¬ G a) (hF : ∀ j k, j < i → ¬ F k (a + 1 + j)) : S1 r a N b i σ' :=
  ⟨(e.2.2.2.1 453 r hr hFr).2.trans h.1, h.2.ex e ha hG hF⟩
theorem S2.ex (h : S2 r a N i σ) (e : EX F G σ σ') (hr : r < nx σ) (ha : a + 1 + i ≤ nx σ) (hFr : ¬ F 454 r) (hG : ¬ G a) (hF : ∀ j k, j < i → ¬ F k (a + 1 + j)) : S2 r a N i σ' :=
  ⟨(e.2.2.2.1 454 r hr hFr).2.trans h.1, h.2.ex e ha hG hF⟩
theorem S4.ex (h : S4 r a N σ) (e : EX F G σ σ') (hr : r < nx σ) (ha : a < nx σ) (hFr : ¬ F 456 r) : S4 r a N σ' :=
  ⟨(e.2.2.2.1 456 r hr hFr).2.trans h.1, (e.2.1 a ha).1.trans h.2.1, (e.2.1 a ha).2.trans h.2.2.1, fun j => (e.2.2.1 a j ha).trans (h.2.2.2 j)⟩
theorem S3.ex (h : S3 r a z b σ) (e : EX F G σ σ') (hr : r < nx σ) (ha : a + 1 + 2 * b ≤ nx σ) (hFr : ¬ F 455 r) (hG : ¬ G a) (hF : ∀ x k, a < x → x < a + 1 + 2 * b → ¬ F k x) : S3 r a z b σ' := by
  obtain ⟨h1, h2, h3, h4⟩ := h
  refine ⟨(e.2.2.2.1 455 r hr hFr).2.trans h1, (e.2.1 a (by omega)).1.trans h2, (e.2.1 a (by omega)).2.trans h3, fun j hj => ?_⟩
  obtain ⟨q1, q2, q3, q4, q5, q6⟩ := h4 j hj
  have x1 : a + 1 + 2 * j < nx σ := by omega
  have f1 := fun k => hF (a + 1 + 2 * j) k (by omega) (by omega)
  exact ⟨(e.2.2.2.2 a j (by omega) hG).trans q1, (e.2.1 _ x1).1.trans q2, (e.2.2.2.1 128 _ x1 (f1 _)).2.trans q3, (e.2.2.2.1 129 _ x1 (f1 _)).2.trans q4, (e.2.2.2.1 130 _ x1 (f1 _)).1.trans q5, q6.ex e (by omega) (fun k => hF _ k (by omega) (by omega))⟩
/-- the scalars -/
theorem bs_0 (hF : FR σ0) (h0 : fi σ0 458 r = 0) : BS σ0 r N R Q 0 0 (pfi (pfi (pfi (pfi (pfi σ0 448 r (nI N)) 451 r R) 452 r Q) 449 r (nI N)) 450 r (nI (N + 1))) := by
  refine ⟨hF, ⟨rfl, Nat.le_refl _⟩, fun _ _ => ⟨rfl, rfl⟩, fun _ _ _ => rfl, ?_, ?_, ?_, ?_, ?_, ?_⟩
  · rw [fi_pfi, if_neg (by omega), fi_pfi, if_neg (by omega), fi_pfi, if_neg (by omega), fi_pfi, if_neg (by omega), fi_pfi, if_pos ⟨rfl, rfl⟩]
  · rw [fi_pfi, if_neg (by omega), fi_pfi, if_pos ⟨rfl, rfl⟩]
  · rw [fi_pfi, if_pos ⟨rfl, rfl⟩]
  · rw [fi_pfi, if_neg (by omega), fi_pfi, if_neg (by omega), fi_pfi, if_neg (by omega), fi_pfi, if_pos ⟨rfl, rfl⟩]
  · rw [fi_pfi, if_neg (by omega), fi_pfi, if_neg (by omega), fi_pfi, if_pos ⟨rfl, rfl⟩]
  · rw [fi_pfi, if_neg (by omega), fi_pfi, if_neg (by omega), fi_pfi, if_neg (by omega), fi_pfi, if_neg (by omega), fi_pfi, if_neg (by omega)]
    exact h0
theorem wp_i0 {c p q : Int32} (hF : FR σ0) (h0 : fi σ0 458 r = 0) (tr : tg σ0 r = 8) (hN : nI N = cl 2 4 c) (hR : R = cl 0 4 p) (hQ : Q = cl 1 20 q)
    (k : ∀ σ, BS σ0 r N R Q 0 0 σ → Wp m_TM_init 5 53 [(0, .inr r)] [] σ P) : Wp m_TM_init 5 0 (largs 0 [.inr r, .inl c, .inl p, .inl q]) [] σ0 P := by
  have hr0 : r ≠ 0 := by rintro rfl; rw [hF.1.2] at tr; omega
  have kk := k _ (bs_0 (R := R) (Q := Q) (N := N) hF h0)
  refine p_aload_n e_TM_init_0 rfl ?_
  refine p_oinit e_TM_init_1 c_TM_1 i_oi q_oi hr0 (Nat.le_of_ble_eq_true rfl) (by decide) ?_
  refine p_aload_n e_TM_init_4 rfl ?_
  refine p_iload_n e_TM_init_5 rfl ?_
  refine p_iconst (x := 2) e_TM_init_6 (by decide) ?_
  refine p_iconst (x := 4) e_TM_init_7 (by decide) ?_
  refine p_stat (d' := 1) [_, _, _] _ e_TM_init_8 c_TM_7 k_TM_clamp t_TM_clamp rfl rfl (Nat.le_of_ble_eq_true rfl) (Nat.le_of_ble_eq_true rfl) ?_
  refine sp_TM_clamp (by decide) ?_
  refine p_top hN.symm ?_
  refine p_pI 448 e_TM_init_11 f_TM_13 rfl rfl (fun q h => by cases h; exact Or.inr ⟨rfl, rfl, rfl⟩) rfl (by assumption) ?_
  refine p_aload_n e_TM_init_14 rfl ?_
  refine p_iload_n e_TM_init_15 rfl ?_
  refine p_iconst (x := 0) e_TM_init_16 (by decide) ?_
  refine p_iconst (x := 4) e_TM_init_17 (by decide) ?_
  refine p_stat (d' := 1) [_, _, _] _ e_TM_init_18 c_TM_7 k_TM_clamp t_TM_clamp rfl rfl (Nat.le_of_ble_eq_true rfl) (Nat.le_of_ble_eq_true rfl) ?_
  refine sp_TM_clamp (by decide) ?_
  refine p_top hR.symm ?_
  refine p_pI 451 e_TM_init_21 f_TM_17 rfl rfl (fun q h => by cases h; exact Or.inr ⟨rfl, rfl, rfl⟩) rfl (by assumption) ?_
  refine p_aload_n e_TM_init_24 rfl ?_
  refine p_iload_n e_TM_init_25 rfl ?_
  refine p_iconst (x := 1) e_TM_init_26 (by decide) ?_
  refine p_bipush (x := 20) e_TM_init_27 (by decide) ?_
  refine p_stat (d' := 1) [_, _, _] _ e_TM_init_29 c_TM_7 k_TM_clamp t_TM_clamp rfl rfl (Nat.le_of_ble_eq_true rfl) (Nat.le_of_ble_eq_true rfl) ?_
  refine sp_TM_clamp (by decide) ?_
  refine p_top hQ.symm ?_
  refine p_pI 452 e_TM_init_32 f_TM_20 rfl rfl (fun q h => by cases h; exact Or.inr ⟨rfl, rfl, rfl⟩) rfl (by assumption) ?_
  refine p_aload_n e_TM_init_35 rfl ?_
  refine p_aload_n e_TM_init_36 rfl ?_
  refine p_gIv 448 e_TM_init_37 f_TM_13 rfl rfl (by assumption) (by rw [fi_pfi, if_neg (by omega), fi_pfi, if_neg (by omega), fi_pfi, if_pos ⟨rfl, rfl⟩] : fi (pfi (pfi (pfi σ0 448 r (nI N)) 451 r R) 452 r Q) 448 r = nI N) ?_
  refine p_pI 449 e_TM_init_40 f_TM_23 rfl rfl (fun q h => by cases h; exact Or.inr ⟨rfl, rfl, rfl⟩) rfl (by assumption) ?_
  refine p_aload_n e_TM_init_43 rfl ?_
  refine p_aload_n e_TM_init_44 rfl ?_
  refine p_gIv 448 e_TM_init_45 f_TM_13 rfl rfl (by assumption) (by rw [fi_pfi, if_neg (by omega), fi_pfi, if_neg (by omega), fi_pfi, if_neg (by omega), fi_pfi, if_pos ⟨rfl, rfl⟩] : fi (pfi (pfi (pfi (pfi σ0 448 r (nI N)) 451 r R) 452 r Q) 449 r (nI N)) 448 r = nI N) ?_
  refine p_iconst (x := 1) e_TM_init_48 (by decide) ?_
  refine p_iadd e_TM_init_49 ?_
  refine p_top (nI_1 N) ?_
  refine p_pI 450 e_TM_init_50 f_TM_26 rfl rfl (fun q h => by cases h; exact Or.inr ⟨rfl, rfl, rfl⟩) rfl (by assumption) ?_
  exact Wp.lv2 kk ⟨rfl, trivial⟩
/-- the array of shares -/
theorem wp_i1 (hN : 2 ≤ N ∧ N ≤ 4) (hr : r < nx σ0) (tr : tg σ0 r = 8) (h : BS σ0 r N R Q 0 0 σ)
    (k : ∀ σ', BS σ0 r N R Q 1 (2 * N + 2) σ' → S1 r (nx σ0) N 0 0 σ' → Wp m_TM_init 5 71 [(4, .inl (nI 0)), (0, .inr r)] [] σ' P) : Wp m_TM_init 5 53 [(0, .inr r)] [] σ P := by
  have tr1 : tg σ r = 8 := (h.2.2.1 r hr).1.trans tr
  have hx : nx σ = nx σ0 := h.2.1.1
  have v1 := h.2.2.2.2.1
  refine p_aload_n e_TM_init_53 rfl ?_
  refine p_aload_n e_TM_init_54 rfl ?_
  refine p_gIv 448 e_TM_init_55 f_TM_13 rfl rfl (by assumption) v1 ?_
  refine p_iconst (x := 1) e_TM_init_58 (by decide) ?_
  refine p_iadd e_TM_init_59 ?_
  refine p_iconst (x := 2) e_TM_init_60 (by decide) ?_
  refine p_imul e_TM_init_61 ?_
  refine p_top (show (nI N + 1) * 2 = nI (2 * N + 2) by rcases (show N = 2 ∨ N = 3 ∨ N = 4 by omega) with rfl | rfl | rfl <;> decide) ?_
  refine p_newq (ti := 3) (n := 2 * N + 2) e_TM_init_62 (by decide) rfl l_TM_29 (Or.inl a_Share) (nI_pos (by omega)) (nI_clamp (by omega)) (by omega) ?_
  have e : EX (fun k x => k = 453 ∧ x = r) n1 σ (pfr (parr σ 3 (2 * N + 2)) 453 r (nx σ)) := (EX.rf.na).fr (Or.inl ⟨rfl, rfl⟩)
  have tr2 : tg (parr σ 3 (2 * N + 2)) r = 8 := by rw [tg_parr, if_neg (by omega)]; exact tr1
  have kk := k _ (h.ex hr e (fun k' y1 y2 y3 => by have := y3.1; omega) (FR.na h.1) (n' := 1) (B' := 2 * N + 2) (by show nx σ + 1 = _; omega) (by have := h.2.1.2; show sl σ + (2 * N + 2) ≤ _; omega)) ⟨by rw [fr_pfr, if_pos ⟨rfl, rfl⟩, hx], by rw [tg_pfr, tg_parr, if_pos hx.symm], by rw [al_pfr, al_parr, if_pos hx.symm], fun j hj => by omega⟩
  refine p_pR 453 e_TM_init_65 f_TM_31 rfl rfl (fun q h => by cases h; exact Or.inr ⟨rfl, rfl, rfl⟩) (by assumption) ?_
  refine p_iconst (x := 0) e_TM_init_68 (by decide) ?_
  refine p_istore e_TM_init_69 (by decide) ?_
  exact Wp.lv2 kk ⟨rfl, rfl, trivial⟩
theorem sh_one (hF : FR σ) (ha : a + 1 + i = nx σ) (hi : i < n) (h : OB a 3 n 7 (shI N 0) i σ) : OB a 3 n 7 (shI N 0) (i + 1) (par (pfi (pnew σ 6 7) 388 (nx σ) (-1)) a i (nx σ)) ∧ EX n2 (fun x => x = a) σ (par (pfi (pnew σ 6 7) 388 (nx σ) (-1)) a i (nx σ)) := by
  have e : EX n2 (fun x => x = a) σ (par (pfi (pnew σ 6 7) 388 (nx σ) (-1)) a i (nx σ)) := ((EX.rf.nw).fi (Or.inr (Nat.le_refl _))).ar (Or.inl rfl)
  refine ⟨h.one e ha (by rw [ar_par, if_pos ⟨rfl, rfl⟩]) (fun j hj => by rw [ar_par, if_neg (by omega)]; rfl) (by rw [tg_par, tg_pfi, tg_pnew, if_pos rfl]) (fun k => ?_), e⟩
  rw [fi_par, fi_pfi]
  unfold shI
  by_cases q : k = 388
  · rw [if_pos ⟨q, rfl⟩, if_pos q]
  · rw [if_neg (fun y => q y.1), if_neg q, if_neg (by omega), fi_pnew, if_pos rfl]
theorem co_one (hF : FR σ) (ha : a + 1 + i = nx σ) (hi : i < n) (h : OB a 4 n 2 zI i σ) : OB a 4 n 2 zI (i + 1) (par (pnew σ 1 10) a i (nx σ)) ∧ EX n2 (fun x => x = a) σ (par (pnew σ 1 10) a i (nx σ)) := by
  have e : EX n2 (fun x => x = a) σ (par (pnew σ 1 10) a i (nx σ)) := (EX.rf.nw).ar (Or.inl rfl)
  refine ⟨h.one e ha (by rw [ar_par, if_pos ⟨rfl, rfl⟩]) (fun j hj => by rw [ar_par, if_neg (by omega)]; rfl) (by rw [tg_par, tg_pnew, if_pos rfl]) (fun k => ?_), e⟩
  rw [fi_par, fi_pnew, if_pos rfl]
  rfl
/-- the shares -/
theorem wp_i2 (hN : 2 ≤ N ∧ N ≤ 4) (hr : r < nx σ0) (tr : tg σ0 r = 8)
    (k : ∀ σ', BS σ0 r N R Q (2 * N + 3) (16 * N + 16) σ' → S1 r (nx σ0) N 0 (2 * N + 2) σ' → Wp m_TM_init 5 101 [(0, .inr r)] [] σ' P) :
    ∀ m i, i + m = 2 * N + 2 → ∀ σ, BS σ0 r N R Q (1 + i) (2 * N + 2 + 7 * i) σ → S1 r (nx σ0) N 0 i σ → Wp m_TM_init 5 71 [(4, .inl (nI i)), (0, .inr r)] [] σ P := by
  intro m
  induction m with
  | zero =>
    intro i hi σ h hS
    have e : i = 2 * N + 2 := by omega
    subst e
    have tr1 : tg σ r = 8 := (h.2.2.1 r hr).1.trans tr
    have ta := hS.2.1
    refine p_iload e_TM_init_71 rfl ?_
    refine p_aload_n e_TM_init_73 rfl ?_
    refine p_gRv 453 e_TM_init_74 f_TM_31 rfl rfl (by assumption) hS.1 ?_
    refine p_alen (ti := 3) e_TM_init_77 (by decide) (by assumption) ?_
    rw [hS.2.2.1]
    refine p_icmp_ge (tgt := 101) e_TM_init_78 (by decide) (fun _ => ?_) (fun hx => absurd (nI_le (Nat.le_refl _) (by omega)) hx)
    refine Wp.lv2 (k σ ?_ hS) ⟨rfl, trivial⟩
    obtain ⟨q1, ⟨q2, q3⟩, q4⟩ := h
    exact ⟨q1, ⟨by omega, by omega⟩, q4⟩
  | succ m ih =>
    intro i hi σ h hS
    have tr1 : tg σ r = 8 := (h.2.2.1 r hr).1.trans tr
    have ta := hS.2.1
    have hx := h.2.1.1
    have hn0 : nx σ ≠ 0 := by have := h.1.1.1; omega
    obtain ⟨o1, e⟩ := sh_one h.1 (show nx σ0 + 1 + i = nx σ by omega) (show i < 2 * N + 2 by omega) hS.2
    refine p_iload e_TM_init_71 rfl ?_
    refine p_aload_n e_TM_init_73 rfl ?_
    refine p_gRv 453 e_TM_init_74 f_TM_31 rfl rfl (by assumption) hS.1 ?_
    refine p_alen (ti := 3) e_TM_init_77 (by decide) (by assumption) ?_
    rw [hS.2.2.1]
    refine p_icmp_ge (tgt := 101) e_TM_init_78 (by decide) (fun hx => absurd hx (nI_ge (by omega) (by omega))) (fun _ => ?_)
    refine p_aload_n e_TM_init_81 rfl ?_
    refine p_gRv 453 e_TM_init_82 f_TM_31 rfl rfl (by assumption) hS.1 ?_
    refine p_iload e_TM_init_85 rfl ?_
    refine p_new (ci := 6) (N := 7) e_TM_init_87 rfl rfl l_TM_29 n_Share w_42 ?_
    have ts : tg (pnew σ 6 7) (nx σ) = 7 := by rw [tg_pnew, if_pos rfl]
    refine p_dup e_TM_init_90 ?_
    refine p_initN (d' := 1) [] _ e_TM_init_91 c_TM_35 k_Share_init i_Share_init rfl rfl (hn0) rfl rfl (Nat.le_of_ble_eq_true rfl) (Nat.le_of_ble_eq_true rfl) ?_
    refine sp_Share_init ts hn0 ?_
    refine p_aast (ti := 3) (n := i) (ci := 6) e_TM_init_94 (by decide) rfl (by rw [tg_pfi, tg_pnew, if_neg (by omega)]; exact ta) ts ⟨_, rfl, Or.inl rfl⟩ rfl (by rw [al_pfi, al_pnew, hS.2.2.1]; omega) (by omega) ?_
    refine p_iinc e_TM_init_95 rfl rfl (by decide) ?_
    refine p_goto (tgt := 71) e_TM_init_98 (by decide) ?_
    refine Wp.lv2 (ih (i + 1) (by omega) _ (h.ex hr e (fun _ _ _ => id) (FR.nw h.1) (by show nx σ + 1 = _; omega) (by have := h.2.1.2; show sl σ + 7 ≤ _; omega)) ⟨?_, o1⟩) ⟨congrArg (fun z => some (Sum.inl z)) (nI_1 i), rfl, trivial⟩
    exact (e.2.2.2.1 453 r (by omega) id).2.trans hS.1
/-- the array of cores -/
theorem wp_i3 (hN : 2 ≤ N ∧ N ≤ 4) (hr : r < nx σ0) (tr : tg σ0 r = 8) (h : BS σ0 r N R Q (2 * N + 3) (16 * N + 16) σ) (h1 : S1 r (nx σ0) N 0 (2 * N + 2) σ)
    (k : ∀ σ', BS σ0 r N R Q (2 * N + 4) (17 * N + 16) σ' → S1 r (nx σ0) N 0 (2 * N + 2) σ' → S2 r (nx σ0 + (2 * N + 3)) N 0 σ' → Wp m_TM_init 5 115 [(4, .inl (nI 0)), (0, .inr r)] [] σ' P) : Wp m_TM_init 5 101 [(0, .inr r)] [] σ P := by
  have tr1 : tg σ r = 8 := (h.2.2.1 r hr).1.trans tr
  have hx : nx σ = nx σ0 + (2 * N + 3) := h.2.1.1
  have v1 := h.2.2.2.2.1
  refine p_aload_n e_TM_init_101 rfl ?_
  refine p_aload_n e_TM_init_102 rfl ?_
  refine p_gIv 448 e_TM_init_103 f_TM_13 rfl rfl (by assumption) v1 ?_
  refine p_newq (ti := 4) (n := N) e_TM_init_106 (by decide) rfl l_TM_36 (Or.inl a_Core) (nI_pos (by omega)) (nI_clamp (by omega)) (by omega) ?_
  have e : EX (fun k x => k = 454 ∧ x = r) n1 σ (pfr (parr σ 4 N) 454 r (nx σ)) := (EX.rf.na).fr (Or.inl ⟨rfl, rfl⟩)
  have tr2 : tg (parr σ 4 N) r = 8 := by rw [tg_parr, if_neg (by omega)]; exact tr1
  have kk := k _ (h.ex hr e (fun k' y1 y2 y3 => by have := y3.1; omega) (FR.na h.1) (n' := 2 * N + 4) (B' := 17 * N + 16) (by show nx σ + 1 = _; omega) (by have := h.2.1.2; show sl σ + N ≤ _; omega)) (h1.ex e (by omega) (by omega) (fun q => by have := q.1; omega) id (fun j k hj q => by have := q.2; omega)) ⟨by rw [fr_pfr, if_pos ⟨rfl, rfl⟩, hx], by rw [tg_pfr, tg_parr, if_pos hx.symm], by rw [al_pfr, al_parr, if_pos hx.symm], fun j hj => by omega⟩
  refine p_pR 454 e_TM_init_109 f_TM_38 rfl rfl (fun q h => by cases h; exact Or.inr ⟨rfl, rfl, rfl⟩) (by assumption) ?_
  refine p_iconst (x := 0) e_TM_init_112 (by decide) ?_
  refine p_istore e_TM_init_113 (by decide) ?_
  exact Wp.lv2 kk ⟨rfl, rfl, trivial⟩
/-- the cores -/
theorem wp_i4 (hN : 2 ≤ N ∧ N ≤ 4) (hr : r < nx σ0) (tr : tg σ0 r = 8)
    (k : ∀ σ', BS σ0 r N R Q (3 * N + 4) (27 * N + 16) σ' → S1 r (nx σ0) N 0 (2 * N + 2) σ' → S2 r (nx σ0 + (2 * N + 3)) N N σ' → Wp m_TM_init 5 145 [(0, .inr r)] [] σ' P) :
    ∀ m i, i + m = N → ∀ σ, BS σ0 r N R Q (2 * N + 4 + i) (17 * N + 16 + 10 * i) σ → S1 r (nx σ0) N 0 (2 * N + 2) σ → S2 r (nx σ0 + (2 * N + 3)) N i σ → Wp m_TM_init 5 115 [(4, .inl (nI i)), (0, .inr r)] [] σ P := by
  intro m
  induction m with
  | zero =>
    intro i hi σ h h1 hS
    have e : i = N := by omega
    subst e
    have tr1 : tg σ r = 8 := (h.2.2.1 r hr).1.trans tr
    have ta := hS.2.1
    refine p_iload e_TM_init_115 rfl ?_
    refine p_aload_n e_TM_init_117 rfl ?_
    refine p_gRv 454 e_TM_init_118 f_TM_38 rfl rfl (by assumption) hS.1 ?_
    refine p_alen (ti := 4) e_TM_init_121 (by decide) (by assumption) ?_
    rw [hS.2.2.1]
    refine p_icmp_ge (tgt := 145) e_TM_init_122 (by decide) (fun _ => ?_) (fun hx => absurd (nI_le (Nat.le_refl _) (by omega)) hx)
    refine Wp.lv2 (k σ ?_ h1 hS) ⟨rfl, trivial⟩
    obtain ⟨q1, ⟨q2, q3⟩, q4⟩ := h
    exact ⟨q1, ⟨by omega, by omega⟩, q4⟩
  | succ m ih =>
    intro i hi σ h h1 hS
    have tr1 : tg σ r = 8 := (h.2.2.1 r hr).1.trans tr
    have ta := hS.2.1
    have hx := h.2.1.1
    have hn0 : nx σ ≠ 0 := by have := h.1.1.1; omega
    obtain ⟨o1, e⟩ := co_one h.1 (show nx σ0 + (2 * N + 3) + 1 + i = nx σ by omega) (show i < N by omega) hS.2
    refine p_iload e_TM_init_115 rfl ?_
    refine p_aload_n e_TM_init_117 rfl ?_
    refine p_gRv 454 e_TM_init_118 f_TM_38 rfl rfl (by assumption) hS.1 ?_
    refine p_alen (ti := 4) e_TM_init_121 (by decide) (by assumption) ?_
    rw [hS.2.2.1]
    refine p_icmp_ge (tgt := 145) e_TM_init_122 (by decide) (fun hx => absurd hx (nI_ge (by omega) (by omega))) (fun _ => ?_)
    refine p_aload_n e_TM_init_125 rfl ?_
    refine p_gRv 454 e_TM_init_126 f_TM_38 rfl rfl (by assumption) hS.1 ?_
    refine p_iload e_TM_init_129 rfl ?_
    refine p_new (ci := 1) (N := 10) e_TM_init_131 rfl rfl l_TM_36 n_Core w_43 ?_
    have ts : tg (pnew σ 1 10) (nx σ) = 2 := by rw [tg_pnew, if_pos rfl]
    refine p_dup e_TM_init_134 ?_
    refine p_initN (d' := 1) [] _ e_TM_init_135 c_TM_42 k_Core_init i_Core_init rfl rfl (hn0) rfl rfl (Nat.le_of_ble_eq_true rfl) (Nat.le_of_ble_eq_true rfl) ?_
    refine sp_Core_init hn0 ?_
    refine p_aast (ti := 4) (n := i) (ci := 1) e_TM_init_138 (by decide) rfl (by rw [tg_pnew, if_neg (by omega)]; exact ta) ts ⟨_, rfl, Or.inl rfl⟩ rfl (by rw [al_pnew, hS.2.2.1]; omega) (by omega) ?_
    refine p_iinc e_TM_init_139 rfl rfl (by decide) ?_
    refine p_goto (tgt := 115) e_TM_init_142 (by decide) ?_
    refine Wp.lv2 (ih (i + 1) (by omega) _ (h.ex hr e (fun _ _ _ => id) (FR.nw h.1) (by show nx σ + 1 = _; omega) (by have := h.2.1.2; show sl σ + 10 ≤ _; omega)) (h1.ex e (by omega) (by omega) id (by omega) (fun _ _ _ => id)) ⟨?_, o1⟩) ⟨congrArg (fun z => some (Sum.inl z)) (nI_1 i), rfl, trivial⟩
    exact (e.2.2.2.1 454 r (by omega) id).2.trans hS.1
end Ini2
