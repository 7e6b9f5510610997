/-! the class's constructor: desks and mail -/
section Ini3
variable {F : Nat → Nat → Prop} {G : Nat → Prop} {σ σ' σ0 : PS} {r N n B a z b i : Nat} {R Q : Int32} {P : Option PV → PS → Prop}
/-- the row of numbers, the array of desks -/
theorem wp_i5 (hN : 2 ≤ N ∧ N ≤ 4) (hr : r < nx σ0) (tr : tg σ0 r = 8) (h : BS σ0 r N R Q (3 * N + 4) (27 * N + 16) σ) (h1 : S1 r (nx σ0) N 0 (2 * N + 2) σ) (h2 : S2 r (nx σ0 + (2 * N + 3)) N N σ)
    (k : ∀ σ', BS σ0 r N R Q (3 * N + 5) (28 * N + 16) σ' → S1 r (nx σ0) N 0 (2 * N + 2) σ' → S2 r (nx σ0 + (2 * N + 3)) N N σ' → S4 r (nx σ0 + (3 * N + 4)) N σ' → Wp m_TM_init 5 155 [(0, .inr r)] [] σ' P) : Wp m_TM_init 5 145 [(0, .inr r)] [] σ P := by
  have tr1 : tg σ r = 8 := (h.2.2.1 r hr).1.trans tr
  have hx : nx σ = nx σ0 + (3 * N + 4) := h.2.1.1
  have v1 := h.2.2.2.2.1
  refine p_aload_n e_TM_init_145 rfl ?_
  refine p_aload_n e_TM_init_146 rfl ?_
  refine p_gIv 448 e_TM_init_147 f_TM_13 rfl rfl (by assumption) v1 ?_
  refine p_newa (ti := 0) (n := N) e_TM_init_150 (by decide) rfl a_int (nI_pos (by omega)) (nI_clamp (by omega)) (by omega) ?_
  have e : EX (fun k x => k = 456 ∧ x = r) n1 σ (pfr (parr σ 0 N) 456 r (nx σ)) := (EX.rf.na).fr (Or.inl ⟨rfl, rfl⟩)
  have tr2 : tg (parr σ 0 N) r = 8 := by rw [tg_parr, if_neg (by omega)]; exact tr1
  have kk := k _ (h.ex hr e (fun k' y1 y2 y3 => by have := y3.1; omega) (FR.na h.1) (n' := 3 * N + 5) (B' := 28 * N + 16) (by show nx σ + 1 = _; omega) (by have := h.2.1.2; show sl σ + N ≤ _; omega)) (h1.ex e (by omega) (by omega) (fun q => by have := q.1; omega) id (fun j k hj q => by have := q.2; omega)) (h2.ex e (by omega) (by omega) (fun q => by have := q.1; omega) id (fun j k hj q => by have := q.2; omega)) ⟨by rw [fr_pfr, if_pos ⟨rfl, rfl⟩, hx], by rw [tg_pfr, tg_parr, if_pos hx.symm], by rw [al_pfr, al_parr, if_pos hx.symm], fun j => by rw [ai_pfr, ai_parr, if_pos hx.symm]⟩
  refine p_pR 456 e_TM_init_152 f_TM_43 rfl rfl (fun q h => by cases h; exact Or.inr ⟨rfl, rfl, rfl⟩) (by assumption) ?_
  exact Wp.lv2 kk ⟨rfl, trivial⟩
theorem wp_i6 (hN : 2 ≤ N ∧ N ≤ 4) (hr : r < nx σ0) (tr : tg σ0 r = 8) (h : BS σ0 r N R Q (3 * N + 5) (28 * N + 16) σ) (h1 : S1 r (nx σ0) N 0 (2 * N + 2) σ) (h2 : S2 r (nx σ0 + (2 * N + 3)) N N σ) (h4 : S4 r (nx σ0 + (3 * N + 4)) N σ)
    (k : ∀ σ', BS σ0 r N R Q (3 * N + 6) (28 * N + 18) σ' → S1 r (nx σ0) N 0 (2 * N + 2) σ' → S2 r (nx σ0 + (2 * N + 3)) N N σ' → S4 r (nx σ0 + (3 * N + 4)) N σ' → S3 r (nx σ0 + (3 * N + 5)) z 0 σ' → Wp m_TM_init 5 166 [(4, .inl (nI 0)), (0, .inr r)] [] σ' P) : Wp m_TM_init 5 155 [(0, .inr r)] [] σ P := by
  have tr1 : tg σ r = 8 := (h.2.2.1 r hr).1.trans tr
  have hx : nx σ = nx σ0 + (3 * N + 5) := h.2.1.1
  refine p_aload_n e_TM_init_155 rfl ?_
  refine p_iconst (x := 2) e_TM_init_156 (by decide) ?_
  refine p_top (show (2 : Int32) = nI 2 from rfl) ?_
  refine p_newq (ti := 5) (n := 2) e_TM_init_157 (by decide) rfl l_TM_47 (Or.inl a_Desk) (nI_pos (by omega)) (nI_clamp (by omega)) (by omega) ?_
  have e : EX (fun k x => k = 455 ∧ x = r) n1 σ (pfr (parr σ 5 2) 455 r (nx σ)) := (EX.rf.na).fr (Or.inl ⟨rfl, rfl⟩)
  have tr2 : tg (parr σ 5 2) r = 8 := by rw [tg_parr, if_neg (by omega)]; exact tr1
  have kk := k _ (h.ex hr e (fun k' y1 y2 y3 => by have := y3.1; omega) (FR.na h.1) (n' := 3 * N + 6) (B' := 28 * N + 18) (by show nx σ + 1 = _; omega) (by have := h.2.1.2; show sl σ + 2 ≤ _; omega)) (h1.ex e (by omega) (by omega) (fun q => by have := q.1; omega) id (fun j k hj q => by have := q.2; omega)) (h2.ex e (by omega) (by omega) (fun q => by have := q.1; omega) id (fun j k hj q => by have := q.2; omega)) (h4.ex e (by omega) (by omega) (fun q => by have := q.1; omega)) ⟨by rw [fr_pfr, if_pos ⟨rfl, rfl⟩, hx], by rw [tg_pfr, tg_parr, if_pos hx.symm], by rw [al_pfr, al_parr, if_pos hx.symm], fun j hj => by omega⟩
  refine p_pR 455 e_TM_init_160 f_TM_49 rfl rfl (fun q h => by cases h; exact Or.inr ⟨rfl, rfl, rfl⟩) (by assumption) ?_
  refine p_iconst (x := 0) e_TM_init_163 (by decide) ?_
  refine p_istore e_TM_init_164 (by decide) ?_
  exact Wp.lv2 kk ⟨rfl, rfl, trivial⟩
/-- the home's share of block b -/
def hm (σ : PS) (h N : Nat) : PS := pfi (pfi (pfi σ 384 h (nI (N + 1))) 385 h 1) 386 h 1
theorem fi_hm {h k x : Nat} : fi (hm σ h N) k x = if x = h ∧ (k = 384 ∨ k = 385 ∨ k = 386) then (if k = 384 then nI (N + 1) else 1) else fi σ k x := by
  unfold hm
  rw [fi_pfi, fi_pfi, fi_pfi]
  by_cases e : x = h
  · by_cases e1 : k = 386
    · rw [if_pos ⟨e1, e⟩, if_pos ⟨e, by omega⟩, if_neg (by omega)]
    · by_cases e2 : k = 385
      · rw [if_neg (by omega), if_pos ⟨e2, e⟩, if_pos ⟨e, by omega⟩, if_neg (by omega)]
      · by_cases e3 : k = 384
        · rw [if_neg (by omega), if_neg (by omega), if_pos ⟨e3, e⟩, if_pos ⟨e, by omega⟩, if_pos e3]
        · rw [if_neg (by omega), if_neg (by omega), if_neg (by omega), if_neg (by omega)]
  · rw [if_neg (by omega), if_neg (by omega), if_neg (by omega), if_neg (by omega)]
theorem S1.hm (h : S1 r a N b (2 * N + 2) σ) (hb : b < 2) : S1 r a N (b + 1) (2 * N + 2) (hm σ (a + 1 + (2 * N + b)) N) := by
  obtain ⟨h1, h2, h3, h4⟩ := h
  refine ⟨h1, h2, h3, fun j hj => ?_⟩
  obtain ⟨q1, q2, q3⟩ := h4 j hj
  refine ⟨q1, q2, fun k => ?_⟩
  rw [fi_hm, q3 k]
  unfold shI
  by_cases e : j = 2 * N + b
  · subst e
    by_cases e1 : k = 384
    · rw [if_pos ⟨rfl, by omega⟩, if_pos e1, if_neg (by omega), if_pos (by omega), if_pos e1]
    · by_cases e2 : k = 385
      · rw [if_pos ⟨rfl, by omega⟩, if_neg e1, if_neg (by omega), if_pos (by omega), if_neg e1, if_pos e2]
      · by_cases e3 : k = 386
        · rw [if_pos ⟨rfl, by omega⟩, if_neg e1, if_neg (by omega), if_pos (by omega), if_neg e1, if_neg e2, if_pos e3]
        · rw [if_neg (by omega)]
          by_cases e4 : k = 388
          · rw [if_pos e4, if_pos e4]
          · rw [if_neg e4, if_neg e4, if_neg (by omega), if_pos (by omega), if_neg e1, if_neg e2, if_neg e3]
  · rw [if_neg (by omega)]
    by_cases e4 : k = 388
    · rw [if_pos e4, if_pos e4]
    · rw [if_neg e4, if_neg e4]
      by_cases e5 : 2 * N ≤ j ∧ j < 2 * N + b
      · rw [if_pos e5, if_pos (show 2 * N ≤ j ∧ j < 2 * N + (b + 1) by omega)]
      · rw [if_neg e5, if_neg (show ¬ (2 * N ≤ j ∧ j < 2 * N + (b + 1)) by omega)]
theorem S3.hm {h : Nat} (q : S3 r a z b σ) : S3 r a z b (hm σ h N) := by
  obtain ⟨h1, h2, h3, h4⟩ := q
  refine ⟨h1, h2, h3, fun j hj => ?_⟩
  obtain ⟨q1, q2, q3, q4, q5, q6, q7, q8⟩ := h4 j hj
  exact ⟨q1, q2, q3, q4, by rw [fi_hm, if_neg (by omega)]; exact q5, q6, by rw [fi_hm, if_neg (by omega)]; exact q7, q8⟩
theorem S3.one {d : Nat} (h : S3 r a z b σ) (hd : d = a + 1 + 2 * b) (t : tg σ d = 3) (f1 : fr σ 128 d = d + 1) (f2 : fr σ 129 d = 0) (f3 : fi σ 130 d = 0) (nl : NL z (d + 1) σ) : S3 r a z (b + 1) (par σ a b d) := by
  obtain ⟨h1, h2, h3, h4⟩ := h
  refine ⟨h1, h2, h3, fun j hj => ?_⟩
  rw [ar_par]
  by_cases e : j = b
  · subst e
    rw [if_pos ⟨rfl, rfl⟩, ← hd]
    have e2 : a + 2 + 2 * j = d + 1 := by omega
    rw [e2]
    exact ⟨rfl, t, f1, f2, f3, nl⟩
  · rw [if_neg (fun q => e q.2)]
    exact h4 j (by omega)
/-- a desk -/
theorem wp_i7 (hN : 2 ≤ N ∧ N ≤ 4) (hr : r < nx σ0) (tr : tg σ0 r = 8) (hz : tg σ0 z = 99 ∧ al σ0 z = 0) (hzl : z < nx σ0) (hb : b < 2) (h : BS σ0 r N R Q (3 * N + 6 + 2 * b) (28 * N + 18 + 6 * b) σ) (h1 : S1 r (nx σ0) N b (2 * N + 2) σ) (h2 : S2 r (nx σ0 + (2 * N + 3)) N N σ) (h4 : S4 r (nx σ0 + (3 * N + 4)) N σ) (h3 : S3 r (nx σ0 + (3 * N + 5)) z b σ)
    (k : ∀ σ', BS σ0 r N R Q (3 * N + 6 + 2 * (b + 1)) (28 * N + 18 + 6 * (b + 1)) σ' → S1 r (nx σ0) N (b + 1) (2 * N + 2) σ' → S2 r (nx σ0 + (2 * N + 3)) N N σ' → S4 r (nx σ0 + (3 * N + 4)) N σ' → S3 r (nx σ0 + (3 * N + 5)) z (b + 1) σ' → Wp m_TM_init 5 166 [(4, .inl (nI (b + 1))), (0, .inr r)] [] σ' P) : Wp m_TM_init 5 166 [(4, .inl (nI b)), (0, .inr r)] [] σ P := by
  have tr1 : tg σ r = 8 := (h.2.2.1 r hr).1.trans tr
  have tz1 : tg σ z = 99 := (h.2.2.1 z hzl).1.trans hz.1
  have hx : nx σ = nx σ0 + (3 * N + 6 + 2 * b) := h.2.1.1
  have hn0 : nx σ ≠ 0 := by have := h.1.1.1; omega
  refine p_iload e_TM_init_166 rfl ?_
  refine p_iconst (x := 2) e_TM_init_168 (by decide) ?_
  refine p_icmp_ge (tgt := 229) e_TM_init_169 (by decide) (fun hx => absurd hx ((show ¬ (nI 2 ≤ nI b) from nI_ge hb (by omega)))) (fun _ => ?_)
  refine p_aload_n e_TM_init_172 rfl ?_
  refine p_gRv 455 e_TM_init_173 f_TM_49 rfl rfl (by assumption) h3.1 ?_
  refine p_iload e_TM_init_176 rfl ?_
  refine p_new (ci := 2) (N := 3) e_TM_init_178 rfl rfl l_TM_47 n_Desk w_44 ?_
  have td : tg (pnew σ 2 3) (nx σ) = 3 := by rw [tg_pnew, if_pos rfl]
  refine p_dup e_TM_init_181 ?_
  refine p_initN (d' := 4) [] _ e_TM_init_182 c_TM_53 k_Desk_init i_Desk_init rfl rfl (hn0) rfl rfl (Nat.le_of_ble_eq_true rfl) (Nat.le_of_ble_eq_true rfl) ?_
  refine sp_Desk_init (z := z) td hn0 (by rw [tg_pnew, if_neg (by omega)]; exact tz1) (FR.nw h.1) (fun σ1 f1 nx1 sl1 nl e1 q1 => ?_)
  rw [nx_pnew] at nx1 nl q1
  rw [sl_pnew] at sl1
  have eA : EX n2 n1 σ σ1 := ((EX.rf.nw (F := fun k x => x = nx σ) (G := n1)).tr (e1.up (fun k x _ q => q.2) (fun _ _ => id))).up (fun k x hx q => by omega) (fun _ _ => id)
  have g1 := h1.ex eA (by omega) (by omega) id id (fun _ _ _ => id)
  have g2 := h2.ex eA (by omega) (by omega) id id (fun _ _ _ => id)
  have g4 := h4.ex eA (by omega) (by omega) id
  have g3 := h3.ex eA (by omega) (by omega) id id (fun _ _ _ _ => id)
  have gB := h.ex hr eA (fun _ _ _ => id) f1 (n' := 3 * N + 6 + 2 * (b + 1)) (B' := 28 * N + 18 + 6 * (b + 1)) (by omega) (by have := h.2.1.2; omega)
  have tr2 : tg σ1 r = 8 := (eA.2.1 r (by omega)).1.trans tr1
  have ta := g3.2.1
  have td1 : tg σ1 (nx σ) = 3 := (e1.2.1 _ (by rw [nx_pnew]; omega)).1.trans td
  have fd2 : fr σ1 129 (nx σ) = 0 := ((e1.2.2.2.1 129 _ (by rw [nx_pnew]; omega) (fun q => by have := q.1; omega)).2).trans (by rw [fr_pnew, if_pos rfl])
  have fd3 : fi σ1 130 (nx σ) = 0 := ((e1.2.2.2.1 130 _ (by rw [nx_pnew]; omega) (fun q => by have := q.1; omega)).1).trans (by rw [fi_pnew, if_pos rfl])
  have s3 := g3.one (d := nx σ) (by omega) td1 q1 fd2 fd3 nl
  refine p_aast (ti := 5) (n := b) (ci := 2) e_TM_init_185 (by decide) rfl ta td1 ⟨_, rfl, Or.inl rfl⟩ rfl (by rw [g3.2.2.1]; omega) (by omega) ?_
  have eP : EX n2 (fun x => x = nx σ0 + (3 * N + 5)) σ1 (par σ1 (nx σ0 + (3 * N + 5)) b (nx σ)) := EX.rf.ar (Or.inl rfl)
  replace g1 := g1.ex eP (by omega) (by omega) id (fun q => by omega) (fun _ _ _ => id)
  replace g2 := g2.ex eP (by omega) (by omega) id (fun q => by omega) (fun _ _ _ => id)
  replace g4 := g4.ex eP (by omega) (by omega) id
  replace gB := gB.ex hr eP (fun _ _ _ => id) f1 (n' := 3 * N + 6 + 2 * (b + 1)) (B' := 28 * N + 18 + 6 * (b + 1)) gB.2.1.1 gB.2.1.2
  replace tr2 : tg (par σ1 (nx σ0 + (3 * N + 5)) b (nx σ)) r = 8 := tr2
  have f2 : FR (par σ1 (nx σ0 + (3 * N + 5)) b (nx σ)) := f1
  have nx2 : nx (par σ1 (nx σ0 + (3 * N + 5)) b (nx σ)) = nx σ + 1 + 1 := nx1
  clear g3 nl e1 q1 td1 fd2 fd3 eA eP ta f1 nx1
  generalize par σ1 (nx σ0 + (3 * N + 5)) b (nx σ) = σ2 at g1 g2 g4 gB tr2 s3 f2 nx2 ⊢
  have v9 := gB.2.2.2.2.2.1
  have v10 := gB.2.2.2.2.2.2.1
  have ta := g1.2.1
  have th : tg σ2 (nx σ0 + 1 + (2 * N + b)) = 7 := (g1.2.2.2 (2 * N + b) (by omega)).2.1
  have ah : ar σ2 (nx σ0) (2 * N + b) = nx σ0 + 1 + (2 * N + b) := (g1.2.2.2 (2 * N + b) (by omega)).1
  have eH : EX (fun k x => x = nx σ0 + 1 + (2 * N + b) ∧ 384 ≤ k ∧ k ≤ 386) n1 σ2 (hm σ2 (nx σ0 + 1 + (2 * N + b)) N) := ((EX.rf.fi (Or.inl ⟨rfl, by omega, by omega⟩)).fi (Or.inl ⟨rfl, by omega, by omega⟩)).fi (Or.inl ⟨rfl, by omega, by omega⟩)
  have kk := k _ (gB.ex hr eH (fun k' y1 y2 y3 => by have := y3.2; omega) f2 (n' := 3 * N + 6 + 2 * (b + 1)) (B' := 28 * N + 18 + 6 * (b + 1)) gB.2.1.1 gB.2.1.2) (g1.hm hb) (g2.ex eH (by omega) (by omega) (fun q => by have := q.2; omega) id (fun j k hj q => by have := q.1; omega)) (g4.ex eH (by omega) (by omega) (fun q => by have := q.2; omega)) s3.hm
  refine p_aload_n e_TM_init_186 rfl ?_
  refine p_gRv 453 e_TM_init_187 f_TM_31 rfl rfl (by assumption) g1.1 ?_
  refine p_aload_n e_TM_init_190 rfl ?_
  refine p_gIv 449 e_TM_init_191 f_TM_23 rfl rfl (by assumption) v9 ?_
  refine p_iconst (x := 2) e_TM_init_194 (by decide) ?_
  refine p_imul e_TM_init_195 ?_
  refine p_iload e_TM_init_196 rfl ?_
  refine p_iadd e_TM_init_198 ?_
  refine p_top (show nI N * 2 + nI b = nI (2 * N + b) by rw [show nI N * 2 = nI (2 * N) by rcases (show N = 2 ∨ N = 3 ∨ N = 4 by omega) with rfl | rfl | rfl <;> decide]; exact nI_add _ _) ?_
  refine p_aaldv e_TM_init_199 (ti := 3) (n := 2 * N + b) (v := nx σ0 + 1 + (2 * N + b)) (by decide) ta rfl (by rw [g1.2.2.1]; omega) (by omega) ah ?_
  refine p_astore e_TM_init_200 (by decide) ?_
  refine p_aload e_TM_init_202 rfl ?_
  refine p_aload_n e_TM_init_204 rfl ?_
  refine p_gIv 450 e_TM_init_205 f_TM_26 rfl rfl (by assumption) v10 ?_
  refine p_pI 384 e_TM_init_208 f_TM_54 rfl rfl (fun q h => by cases h; exact Or.inl rfl) rfl (by assumption) ?_
  refine p_aload e_TM_init_211 rfl ?_
  refine p_iconst (x := 1) e_TM_init_213 (by decide) ?_
  refine p_pZ 385 e_TM_init_214 f_TM_57 rfl rfl (fun q h => by cases h; exact Or.inl rfl) rfl (by assumption) (by first | assumption | exact Or.inl rfl | exact Or.inr rfl) ?_
  refine p_aload e_TM_init_217 rfl ?_
  refine p_iconst (x := 1) e_TM_init_219 (by decide) ?_
  refine p_pZ 386 e_TM_init_220 f_TM_61 rfl rfl (fun q h => by cases h; exact Or.inl rfl) rfl (by assumption) (by first | assumption | exact Or.inl rfl | exact Or.inr rfl) ?_
  refine p_iinc e_TM_init_223 rfl rfl (by decide) ?_
  refine p_goto (tgt := 166) e_TM_init_226 (by decide) ?_
  exact Wp.lv2 kk ⟨congrArg (fun z => some (Sum.inl z)) (nI_1 b), rfl, trivial⟩
/-- the mail's lists -/
theorem wp_m1 (h : tg σ r = 5) (hz : tg σ z = 99) (hF : FR σ) (k : ∀ σ', FR σ' → nx σ' = nx σ + 1 → sl σ' ≤ sl σ + 3 → NL z (nx σ) σ' → EX (fun k x => k = 256 ∧ x = r) n1 σ σ' → fr σ' 256 r = nx σ → Wp m_Mail_init 4 15 [(0, .inr r)] [] σ' P) : Wp m_Mail_init 4 4 [(0, .inr r)] [] σ P := by
  have hx := hF.1.1
  have hr := hF.lt (r := r) (by omega)
  have hzl := hF.lt (r := z) (by omega)
  refine p_aload_n e_Mail_init_4 rfl ?_
  refine p_new (ci := 0) (N := 3) e_Mail_init_5 rfl rfl l_Mail_9 n_AL w_47 ?_
  have tl : tg (pnew σ 0 3) (nx σ) = 1 := by rw [tg_pnew, if_pos rfl]
  have tz' : tg (pnew σ 0 3) z = 99 := by rw [tg_pnew, if_neg (by omega)]; exact hz
  have hn0 : nx σ ≠ 0 := by omega
  refine p_dup e_Mail_init_8 ?_
  refine p_init (d' := 3) [] _ e_Mail_init_9 c_Mail_11 k_AL_init i_AL_init rfl rfl (hn0) rfl rfl (Nat.le_of_ble_eq_true rfl) (Nat.le_of_ble_eq_true rfl) ?_
  refine sp_AL_init tl hn0 tz' ?_
  obtain ⟨q1, q2⟩ := nl_new (z := z) hx
  have td : tg (pfr (pfi (pnew σ 0 3) 0 (nx σ) 0) 1 (nx σ) z) r = 5 := ((q2.2.1 r hr).1).trans h
  have fr1 : FR (pfr (pfi (pnew σ 0 3) 0 (nx σ) 0) 1 (nx σ) z) := hF.nw
  refine p_pR 256 e_Mail_init_12 f_Mail_12 rfl rfl (fun q h => by cases h; exact Or.inr ⟨rfl, rfl, rfl⟩) (by assumption) ?_
  refine Wp.lv2 (k _ fr1 rfl (Nat.le_refl _) (q1.ex (EX.rf.fr (F := fun k x => k = 256 ∧ x = r) (G := n1) (Or.inl ⟨rfl, rfl⟩)) (by show nx σ < nx σ + 1; omega) (fun k q => ?_)) ((q2.up (fun _ _ _ => False.elim) (fun _ _ => id)).fr (Or.inl ⟨rfl, rfl⟩)) (by rw [fr_pfr, if_pos ⟨rfl, rfl⟩])) ⟨rfl, trivial⟩
  have := q.2
  omega
theorem wp_m2 (h : tg σ r = 5) (hz : tg σ z = 99) (hF : FR σ) (k : ∀ σ', FR σ' → nx σ' = nx σ + 1 → sl σ' ≤ sl σ + 3 → NL z (nx σ) σ' → EX (fun k x => k = 257 ∧ x = r) n1 σ σ' → fr σ' 257 r = nx σ → Wp m_Mail_init 4 26 [(0, .inr r)] [] σ' P) : Wp m_Mail_init 4 15 [(0, .inr r)] [] σ P := by
  have hx := hF.1.1
  have hr := hF.lt (r := r) (by omega)
  have hzl := hF.lt (r := z) (by omega)
  refine p_aload_n e_Mail_init_15 rfl ?_
  refine p_new (ci := 0) (N := 3) e_Mail_init_16 rfl rfl l_Mail_9 n_AL w_47 ?_
  have tl : tg (pnew σ 0 3) (nx σ) = 1 := by rw [tg_pnew, if_pos rfl]
  have tz' : tg (pnew σ 0 3) z = 99 := by rw [tg_pnew, if_neg (by omega)]; exact hz
  have hn0 : nx σ ≠ 0 := by omega
  refine p_dup e_Mail_init_19 ?_
  refine p_init (d' := 3) [] _ e_Mail_init_20 c_Mail_11 k_AL_init i_AL_init rfl rfl (hn0) rfl rfl (Nat.le_of_ble_eq_true rfl) (Nat.le_of_ble_eq_true rfl) ?_
  refine sp_AL_init tl hn0 tz' ?_
  obtain ⟨q1, q2⟩ := nl_new (z := z) hx
  have td : tg (pfr (pfi (pnew σ 0 3) 0 (nx σ) 0) 1 (nx σ) z) r = 5 := ((q2.2.1 r hr).1).trans h
  have fr1 : FR (pfr (pfi (pnew σ 0 3) 0 (nx σ) 0) 1 (nx σ) z) := hF.nw
  refine p_pR 257 e_Mail_init_23 f_Mail_18 rfl rfl (fun q h => by cases h; exact Or.inr ⟨rfl, rfl, rfl⟩) (by assumption) ?_
  refine Wp.lv2 (k _ fr1 rfl (Nat.le_refl _) (q1.ex (EX.rf.fr (F := fun k x => k = 257 ∧ x = r) (G := n1) (Or.inl ⟨rfl, rfl⟩)) (by show nx σ < nx σ + 1; omega) (fun k q => ?_)) ((q2.up (fun _ _ _ => False.elim) (fun _ _ => id)).fr (Or.inl ⟨rfl, rfl⟩)) (by rw [fr_pfr, if_pos ⟨rfl, rfl⟩])) ⟨rfl, trivial⟩
  have := q.2
  omega
theorem sp_Mail_init (h : tg σ r = 5) (hz : tg σ z = 99) (hF : FR σ) (hP : ∀ σ', FR σ' → nx σ' = nx σ + 2 → sl σ' ≤ sl σ + 6 → NL z (nx σ) σ' → NL z (nx σ + 1) σ' → EX (fun k x => x = r) n1 σ σ' → fr σ' 256 r = nx σ → fr σ' 257 r = nx σ + 1 → P none σ') : Ctr m_Mail_init 4 [.inr r] σ P := by
  have hr := hF.lt (r := r) (by omega)
  have hzl := hF.lt (r := z) (by omega)
  have h0 : r ≠ 0 := by rintro rfl; rw [hF.1.2] at h; omega
  refine Ctr.of y_Mail_init (Nat.le_of_ble_eq_true rfl) ?_
  refine p_aload_n e_Mail_init_0 rfl ?_
  refine p_oinit e_Mail_init_1 c_Mail_3 i_oi q_oi h0 (Nat.le_of_ble_eq_true rfl) (by decide) ?_
  refine Wp.lv2 (wp_m1 h hz hF (fun σ1 f1 n1' s1 l1 e1 q1 => ?_)) ⟨rfl, trivial⟩
  refine wp_m2 ((e1.2.1 r hr).1.trans h) ((e1.2.1 z hzl).1.trans hz) f1 (fun σ2 f2 n2' s2 l2 e2 q2 => ?_)
  refine p_ret e_Mail_init_26 (rv_v ?_)
  rw [n1'] at n2' l2 q2
  refine hP σ2 f2 (by omega) (by omega) (l1.ex e2 (by omega) (fun k q => by have := q.2; omega)) l2 ((e1.up (fun _ _ _ q => q.2) (fun _ _ => id)).tr (e2.up (fun _ _ _ q => q.2) (fun _ _ => id))) ((e2.2.2.2.1 256 r (by omega) (fun q => by have := q.1; omega)).2.trans q1) q2
theorem wp_i8 (hN : 2 ≤ N ∧ N ≤ 4) (hr : r < nx σ0) (tr : tg σ0 r = 8) (hz : tg σ0 z = 99 ∧ al σ0 z = 0) (hzl : z < nx σ0) (h : BS σ0 r N R Q (3 * N + 10) (28 * N + 30) σ) (h1 : S1 r (nx σ0) N 2 (2 * N + 2) σ) (h2 : S2 r (nx σ0 + (2 * N + 3)) N N σ) (h4 : S4 r (nx σ0 + (3 * N + 4)) N σ) (h3 : S3 r (nx σ0 + (3 * N + 5)) z 2 σ)
    (k : ∀ σ', BS σ0 r N R Q (3 * N + 13) (28 * N + 38) σ' → S1 r (nx σ0) N 2 (2 * N + 2) σ' → S2 r (nx σ0 + (2 * N + 3)) N N σ' → S4 r (nx σ0 + (3 * N + 4)) N σ' → S3 r (nx σ0 + (3 * N + 5)) z 2 σ' → S5 r (nx σ0 + (3 * N + 10)) z σ' → P none σ') : Wp m_TM_init 5 166 [(4, .inl (nI 2)), (0, .inr r)] [] σ (fun v σ' => RV m_TM_init.2.2.2 v ∧ P v σ') := by
  have tr1 : tg σ r = 8 := (h.2.2.1 r hr).1.trans tr
  have tz1 : tg σ z = 99 := (h.2.2.1 z hzl).1.trans hz.1
  have hx : nx σ = nx σ0 + (3 * N + 10) := h.2.1.1
  have hn0 : nx σ ≠ 0 := by have := h.1.1.1; omega
  refine p_iload e_TM_init_166 rfl ?_
  refine p_iconst (x := 2) e_TM_init_168 (by decide) ?_
  refine p_icmp_ge (tgt := 229) e_TM_init_169 (by decide) (fun _ => ?_) (fun hx => absurd ((show nI 2 ≤ nI 2 from nI_le (Nat.le_refl _) (by omega))) hx)
  refine p_aload_n e_TM_init_229 rfl ?_
  refine p_new (ci := 4) (N := 2) e_TM_init_230 rfl rfl l_TM_64 n_Mail w_48 ?_
  have td : tg (pnew σ 4 2) (nx σ) = 5 := by rw [tg_pnew, if_pos rfl]
  refine p_dup e_TM_init_233 ?_
  refine p_initN (d' := 4) [] _ e_TM_init_234 c_TM_66 k_Mail_init i_Mail_init rfl rfl (hn0) rfl rfl (Nat.le_of_ble_eq_true rfl) (Nat.le_of_ble_eq_true rfl) ?_
  refine sp_Mail_init (z := z) td (by rw [tg_pnew, if_neg (by omega)]; exact tz1) (FR.nw h.1) (fun σ1 f1 nx1 sl1 l1 l2 e1 q1 q2 => ?_)
  rw [nx_pnew] at nx1 l1 l2 q1 q2
  rw [sl_pnew] at sl1
  have eA : EX n2 n1 σ σ1 := ((EX.rf.nw (F := fun k x => x = nx σ) (G := n1)).tr (e1.up (fun k x _ q => q) (fun _ _ => id))).up (fun k x hx q => by omega) (fun _ _ => id)
  have g1 := h1.ex eA (by omega) (by omega) id id (fun _ _ _ => id)
  have g2 := h2.ex eA (by omega) (by omega) id id (fun _ _ _ => id)
  have g4 := h4.ex eA (by omega) (by omega) id
  have g3 := h3.ex eA (by omega) (by omega) id id (fun _ _ _ _ => id)
  have gB := h.ex hr eA (fun _ _ _ => id) f1 (n' := 3 * N + 13) (B' := 28 * N + 38) (by omega) (by have := h.2.1.2; omega)
  have tr2 : tg σ1 r = 8 := (eA.2.1 r (by omega)).1.trans tr1
  have td1 : tg σ1 (nx σ) = 5 := (e1.2.1 _ (by rw [nx_pnew]; omega)).1.trans td
  have eP : EX (fun k x => k = 457 ∧ x = r) n1 σ1 (pfr σ1 457 r (nx σ)) := EX.rf.fr (Or.inl ⟨rfl, rfl⟩)
  refine p_pR 457 e_TM_init_237 f_TM_67 rfl rfl (fun q h => by cases h; exact Or.inr ⟨rfl, rfl, rfl⟩) (by assumption) ?_
  refine p_ret e_TM_init_240 (rv_v ?_)
  refine k _ (gB.ex hr eP (fun k' y1 y2 y3 => by have := y3.1; omega) f1 (n' := 3 * N + 13) (B' := 28 * N + 38) gB.2.1.1 gB.2.1.2) (g1.ex eP (by omega) (by omega) (fun q => by have := q.1; omega) id (fun j k hj q => by have := q.2; omega)) (g2.ex eP (by omega) (by omega) (fun q => by have := q.1; omega) id (fun j k hj q => by have := q.2; omega)) (g4.ex eP (by omega) (by omega) (fun q => by have := q.1; omega)) (g3.ex eP (by omega) (by omega) (fun q => by have := q.1; omega) id (fun x k y1 y2 q => by have := q.2; omega)) ?_
  rw [← hx]
  refine ⟨by rw [fr_pfr, if_pos ⟨rfl, rfl⟩], td1, ?_, ?_, l1.ex eP (by omega) (fun k q => by have := q.2; omega), l2.ex eP (by omega) (fun k q => by have := q.2; omega)⟩
  · rw [fr_pfr, if_neg (by omega)]; exact q1
  · rw [fr_pfr, if_neg (by omega)]; exact q2
end Ini3
