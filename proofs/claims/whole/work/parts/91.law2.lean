/-! the law from its entry -/
section Law2
variable {N T m s L i z r : Nat} {Y Z : Nat → Nat} {X : Nat → Int32} {bd : Nat × Nat × Nat} {σ σ1 σ2 σ0 : PS} {A A' : AS} {P : Option PV → PS → Prop}
theorem cl_N (c : Int32) : ∃ N, (2 ≤ N ∧ N ≤ 4) ∧ nI N = cl 2 4 c := by
  unfold cl
  by_cases h : 2 ≤ c
  · rw [if_pos h]
    by_cases h' : c ≤ 4
    · rw [if_pos h']
      have h0 : ¬ c < 0 := fun q => absurd (Int32.lt_of_lt_of_le q (show (0 : Int32) ≤ 2 by decide)) (Int32.not_lt.mpr h)
      obtain ⟨j, hj, rfl⟩ := nI_of h0
      have a1 := (nI_leI (a := 2) (by omega) hj).mp h
      have a2 := (nI_leI (b := 4) hj (by omega)).mp h'
      exact ⟨j, ⟨a1, a2⟩, rfl⟩
    · rw [if_neg h']
      exact ⟨4, by omega, rfl⟩
  · rw [if_neg h]
    exact ⟨2, by omega, rfl⟩
theorem caps_le {f g : Nat → Nat} {mm : Nat} {rf : Nat → Nat → Nat} (h : CRx N Y bd [] σ A f mm g rf) : nx σ ≤ bd.1 + 70 + bd.2.2 + 440 ∧ sl σ ≤ bd.2.1 + 11 * 70 + 3 * bd.2.2 + 4 * 440 := by
  obtain ⟨-, -, -, -, -, ⟨a1, a2, -, -, -, -, -, -, -, a10⟩, hr, -, -, hb1, hb2⟩ := h
  have e1 := a1.2.2.2.2.1
  have e2 := a2.2.2.2.2.1
  have e3 : al σ (fr σ 1 (Y 310)) ≤ 110 := (hr 0 (by omega)).1.2.2.2.2.1
  have e4 : al σ (fr σ 1 (Y 311)) ≤ 110 := (hr 1 (by omega)).1.2.2.2.2.1
  have ec : caps Y σ ≤ 440 := by unfold caps; omega
  omega
/-- both made -/
theorem liv_0 {R Q : Int32} {f g : Nat → Nat} {rf : Nat → Nat → Nat} (hC : CRx N Y (nx σ1, sl σ1, 0) [] σ1 (A0 N R Q) f 0 g rf) (hS : SCR s L X σ1) (hR : RR N (nx σ1) Z σ2 nD σ2 (A0 N R Q)) (hZ : ∀ k, isZ k = true → nx σ1 < Z k) (hE : EX (fun _ x => x = nx σ1) n1 (pnew σ1 8 40) σ2) (hF : FR σ2) : LIV N Y (nx σ1) Z s L X (nx σ2, sl σ2, 0) 0 (A0 N R Q) σ2 := by
  have hF1 := hC.2.1
  obtain ⟨e1, e2, e3, e4, e5⟩ := hE
  rw [nx_pnew] at e1 e2 e3 e4 e5
  have w : WK (fun _ => False) σ1 σ2 := by
    refine ⟨by omega, fun x hx => ?_, fun k x hx _ => ?_, fun x j hx _ => ?_⟩
    · have q := e2 x (by omega)
      rw [tg_pnew, if_neg (by omega)] at q
      exact q
    · have q := e4 k x (by omega) (by omega)
      rw [fi_pnew, fr_pnew, if_neg (by omega), if_neg (by omega)] at q
      exact q
    · exact ⟨e3 x j (by omega), e5 x j (by omega) id⟩
  have x4 := hF1.lt (r := Y 4) (by have := hC.1.2.2.2.2.2.1.1; omega)
  have xs := hF1.lt (r := s) (by have := hS.1; omega)
  refine ⟨⟨f, 0, g, rf, hC.wk (bd' := (nx σ2, sl σ2, 0)) w (fun _ q => q.elim) id hF (by show nx σ2 + nx σ1 ≤ nx σ1 + nx σ2; omega) (by show sl σ2 + sl σ1 ≤ sl σ1 + sl σ2; omega) rfl⟩, hR, QI_0 hC.1.1, fun k hk e => by have := hZ k hk; omega, (w.2.1 s xs).1.trans hS.1, (w.2.1 s xs).2.trans hS.2.1, fun j hj => (w.2.2.2 s j xs id).1.trans (hS.2.2 j hj)⟩
theorem wp_law (hL : L ≤ 2563) (hF : FR σ0) (hz : tg σ0 z = 99 ∧ al σ0 z = 0) (hS : SCR s L X σ0) (hP : ∀ σ, nx σ ≤ nx σ0 + 2000 → sl σ ≤ sl σ0 + 20000 → P (some (.inl 1)) σ) : Wp m_Law_law 15 0 (largs 0 [.inr s]) [] σ0 (fun v σ' => RV m_Law_law.2.2.2 v ∧ P v σ') := by
  obtain ⟨N, hN2, hN⟩ := cl_N (if 0 < L then X 0 else 0)
  have xs := hF.lt (r := s) (by have := hS.1; omega)
  have xz := hF.lt (r := z) (by omega)
  have hn0 : nx σ0 ≠ 0 := by have := hF.1.1; omega
  have cell : ∀ (σ : PS) (M' : Nat) (P' : Option PV → PS → Prop), SCR s L X σ → M' < 10 → P' (some (.inl (if M' < L then X M' else 0))) σ → Ctr m_Law_cell 1 [.inr s, .inl (nI M')] σ P' := fun σ M' P' h h' k => sp_Law_cell h hL h' k
  refine p_new (ci := 7) (N := 11) e_Law_law_0 rfl rfl l_Law_7 n_TM w_40 ?_
  have hF1 : FR (pnew σ0 7 11) := hF.nw
  have tr : tg (pnew σ0 7 11) (nx σ0) = 8 := by rw [tg_pnew, if_pos rfl]
  have f0 : fi (pnew σ0 7 11) 458 (nx σ0) = 0 := by rw [fi_pnew, if_pos rfl]
  have hz1 : tg (pnew σ0 7 11) z = 99 ∧ al (pnew σ0 7 11) z = 0 := ⟨by rw [tg_pnew, if_neg (by omega)]; exact hz.1, hz.2⟩
  have hS1 : SCR s L X (pnew σ0 7 11) := ⟨by rw [tg_pnew, if_neg (by omega)]; exact hS.1, hS.2.1, hS.2.2⟩
  have nx1 : nx (pnew σ0 7 11) = nx σ0 + 1 := rfl
  have sl1 : sl (pnew σ0 7 11) = sl σ0 + 11 := rfl
  generalize pnew σ0 7 11 = σ1 at hF1 tr f0 hz1 hS1 nx1 sl1 ⊢
  refine p_dup e_Law_law_3 ?_
  refine p_aload_n e_Law_law_4 rfl ?_
  refine p_iconst (x := 0) e_Law_law_5 (by decide) ?_
  refine p_stat (d' := 1) [_, _] _ e_Law_law_6 c_Law_9 k_Law_cell t_Law_cell rfl rfl (Nat.le_of_ble_eq_true rfl) (Nat.le_of_ble_eq_true rfl) ?_
  refine cell σ1 0 _ hS1 (by omega) ?_
  refine p_aload_n e_Law_law_9 rfl ?_
  refine p_iconst (x := 1) e_Law_law_10 (by decide) ?_
  refine p_stat (d' := 1) [_, _] _ e_Law_law_11 c_Law_9 k_Law_cell t_Law_cell rfl rfl (Nat.le_of_ble_eq_true rfl) (Nat.le_of_ble_eq_true rfl) ?_
  refine cell σ1 1 _ hS1 (by omega) ?_
  refine p_aload_n e_Law_law_14 rfl ?_
  refine p_iconst (x := 2) e_Law_law_15 (by decide) ?_
  refine p_stat (d' := 1) [_, _] _ e_Law_law_16 c_Law_9 k_Law_cell t_Law_cell rfl rfl (Nat.le_of_ble_eq_true rfl) (Nat.le_of_ble_eq_true rfl) ?_
  refine cell σ1 2 _ hS1 (by omega) ?_
  refine p_init (d' := 5) [_, _, _] _ e_Law_law_19 c_Law_15 k_TM_init i_TM_init rfl rfl (hn0) rfl rfl (Nat.le_of_ble_eq_true rfl) (Nat.le_of_ble_eq_true rfl) ?_
  refine sp_TM_init hN2 hF1 f0 tr hz1 hN rfl rfl (fun σ2 hC nxa nxb sla ht hai => ?_)
  have xs1 : s < nx σ1 := by omega
  have hS2 : SCR s L X σ2 := ⟨(ht s xs1).1.trans hS1.1, (ht s xs1).2.trans hS1.2.1, fun j hj => (hai s j xs1).trans (hS1.2.2 j hj)⟩
  have hF2 := hC.2.1
  have hn2 : nx σ2 ≠ 0 := by omega
  generalize hY : Yf (nx σ0) (nx σ1) N = Y at hC
  have y0 : Y 0 = nx σ0 := by rw [← hY]; rfl
  refine p_astore_n e_Law_law_22 (by decide) ?_
  refine p_new (ci := 8) (N := 40) e_Law_law_23 rfl rfl l_Law_18 n_MM w_49 ?_
  have hF3 : FR (pnew σ2 8 40) := hF2.nw
  have tm : tg (pnew σ2 8 40) (nx σ2) = 9 := by rw [tg_pnew, if_pos rfl]
  have f3 : ∀ k, fi (pnew σ2 8 40) k (nx σ2) = 0 := fun k => by rw [fi_pnew, if_pos rfl]
  have hS3 : SCR s L X (pnew σ2 8 40) := ⟨by rw [tg_pnew, if_neg (by omega)]; exact hS2.1, hS2.2.1, hS2.2.2⟩
  have nx3 : nx (pnew σ2 8 40) = nx σ2 + 1 := rfl
  have sl3 : sl (pnew σ2 8 40) = sl σ2 + 40 := rfl
  have mk : ∀ σ4, RR N (nx σ2) (fun k => nx (pnew σ2 8 40) + ikz k) σ4 nD σ4 (A0 N (cl 0 4 (if 1 < L then X 1 else 0)) (cl 1 20 (if 2 < L then X 2 else 0))) → EX (fun _ x => x = nx σ2) n1 (pnew σ2 8 40) σ4 → FR σ4 → LIV N Y (nx σ2) (fun k => nx (pnew σ2 8 40) + ikz k) s L X (nx σ4, sl σ4, 0) 0 (A0 N (cl 0 4 (if 1 < L then X 1 else 0)) (cl 1 20 (if 2 < L then X 2 else 0))) σ4 := fun σ4 hR hE hF4 => liv_0 hC hS2 hR (fun k _ => by show nx σ2 < nx σ2 + 1 + ikz k; omega) hE hF4
  generalize pnew σ2 8 40 = σ3 at hF3 tm f3 hS3 nx3 sl3 mk ⊢
  refine p_dup e_Law_law_26 ?_
  refine p_aload_n e_Law_law_27 rfl ?_
  refine p_iconst (x := 0) e_Law_law_28 (by decide) ?_
  refine p_stat (d' := 1) [_, _] _ e_Law_law_29 c_Law_9 k_Law_cell t_Law_cell rfl rfl (Nat.le_of_ble_eq_true rfl) (Nat.le_of_ble_eq_true rfl) ?_
  refine cell σ3 0 _ hS3 (by omega) ?_
  refine p_aload_n e_Law_law_32 rfl ?_
  refine p_iconst (x := 1) e_Law_law_33 (by decide) ?_
  refine p_stat (d' := 1) [_, _] _ e_Law_law_34 c_Law_9 k_Law_cell t_Law_cell rfl rfl (Nat.le_of_ble_eq_true rfl) (Nat.le_of_ble_eq_true rfl) ?_
  refine cell σ3 1 _ hS3 (by omega) ?_
  refine p_aload_n e_Law_law_37 rfl ?_
  refine p_iconst (x := 2) e_Law_law_38 (by decide) ?_
  refine p_stat (d' := 1) [_, _] _ e_Law_law_39 c_Law_9 k_Law_cell t_Law_cell rfl rfl (Nat.le_of_ble_eq_true rfl) (Nat.le_of_ble_eq_true rfl) ?_
  refine cell σ3 2 _ hS3 (by omega) ?_
  refine p_init (d' := 1) [_, _, _] _ e_Law_law_42 c_Law_20 k_MM_init i_MM_init rfl rfl (hn2) rfl rfl (Nat.le_of_ble_eq_true rfl) (Nat.le_of_ble_eq_true rfl) ?_
  refine sp_MM_init hN2 hF3 f3 tm hN rfl rfl (fun σ4 hR hE hF4 nx4 sl4 => ?_)
  have hI := mk σ4 hR hE hF4
  refine p_astore_n e_Law_law_45 (by decide) ?_
  refine p_iconst (x := 3) e_Law_law_46 (by decide) ?_
  refine p_istore_n e_Law_law_47 (by decide) ?_
  refine Wp.lv2 (law_loop (B1 := nx σ4) (B2 := sl σ4) hL (fun σ bd A T hT b1 b2 b3 h => ?_) L 3 0 _ _ σ4 rfl (by omega) (by omega) rfl rfl (Nat.le_refl _) hI) ⟨rfl, rfl, by rw [y0]; rfl, rfl, trivial⟩
  obtain ⟨⟨f, mm, g, rf, hC'⟩, -⟩ := h
  obtain ⟨c1, c2⟩ := caps_le hC'
  exact hP σ (by omega) (by omega)
end Law2
