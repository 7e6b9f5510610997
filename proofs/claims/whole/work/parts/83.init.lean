/-! the class's constructor -/
def cl (lo hi v : Int32) : Int32 := if lo ≤ v then (if v ≤ hi then v else hi) else lo
theorem cl_max {lo hi v : Int32} (h : lo ≤ hi) : (if lo < (if v < hi then v else hi) then (if v < hi then v else hi) else lo) = cl lo hi v := by
  unfold cl
  have key : ∀ a b : Int32, (a < b ↔ a.toInt < b.toInt) ∧ (a ≤ b ↔ a.toInt ≤ b.toInt) := fun a b => ⟨Int32.lt_iff_toInt_lt, Int32.le_iff_toInt_le⟩
  have ext : ∀ a b : Int32, a.toInt = b.toInt → a = b := fun a b q => Int32.toInt_inj.mp q
  have h := (key lo hi).2.mp h
  by_cases h1 : v < hi
  · have g1 := (key _ _).1.mp h1
    rw [if_pos h1]
    by_cases h2 : lo ≤ v
    · rw [if_pos h2, if_pos ((key _ _).2.mpr (by omega))]
      by_cases h3 : lo < v
      · rw [if_pos h3]
      · rw [if_neg h3]
        have g2 := (key _ _).2.mp h2
        exact ext _ _ (by have g3 : ¬ lo.toInt < v.toInt := fun q => h3 ((key _ _).1.mpr q); omega)
    · rw [if_neg h2, if_neg (fun q => h2 ((key _ _).2.mpr (by have := (key _ _).1.mp q; omega)))]
  · have g1 : ¬ v.toInt < hi.toInt := fun q => h1 ((key _ _).1.mpr q)
    rw [if_neg h1, if_pos ((key _ _).2.mpr (show lo.toInt ≤ v.toInt by omega))]
    have e1 : (if v ≤ hi then v else hi) = hi := by
      by_cases h3 : v ≤ hi
      · rw [if_pos h3]; have := (key _ _).2.mp h3; exact ext _ _ (by omega)
      · rw [if_neg h3]
    rw [e1]
    by_cases h4 : lo < hi
    · rw [if_pos h4]
    · rw [if_neg h4]
      exact ext _ _ (by have g3 : ¬ lo.toInt < hi.toInt := fun q => h4 ((key _ _).1.mpr q); omega)
/-- nothing but F and G of what was there at b has changed -/
def EX (F : Nat → Nat → Prop) (G : Nat → Prop) (b σ : PS) : Prop := nx b ≤ nx σ ∧ (∀ r, r < nx b → tg σ r = tg b r ∧ al σ r = al b r) ∧ (∀ r j, r < nx b → ai σ r j = ai b r j) ∧ (∀ k r, r < nx b → ¬ F k r → fi σ k r = fi b k r ∧ fr σ k r = fr b k r) ∧ ∀ r j, r < nx b → ¬ G r → ar σ r j = ar b r j
def n2 : Nat → Nat → Prop := fun _ _ => False
def n1 : Nat → Prop := fun _ => False
section Ini
variable {F : Nat → Nat → Prop} {G : Nat → Prop} {b σ σ' : PS}
theorem EX.rf : EX F G σ σ := ⟨Nat.le_refl _, fun _ _ => ⟨rfl, rfl⟩, fun _ _ _ => rfl, fun _ _ _ _ => ⟨rfl, rfl⟩, fun _ _ _ _ => rfl⟩
theorem EX.tr (h : EX F G b σ) (h' : EX F G σ σ') : EX F G b σ' := by
  obtain ⟨a1, a2, a3, a4, a5⟩ := h
  obtain ⟨b1, b2, b3, b4, b5⟩ := h'
  refine ⟨by omega, fun r hr => ?_, fun r j hr => ?_, fun k r hr hF => ?_, fun r j hr hG => ?_⟩
  · have q := b2 r (by omega)
    exact ⟨q.1.trans (a2 r hr).1, q.2.trans (a2 r hr).2⟩
  · exact (b3 r j (by omega)).trans (a3 r j hr)
  · have q := b4 k r (by omega) hF
    exact ⟨q.1.trans (a4 k r hr hF).1, q.2.trans (a4 k r hr hF).2⟩
  · exact (b5 r j (by omega) hG).trans (a5 r j hr hG)
theorem EX.up {F' : Nat → Nat → Prop} {G' : Nat → Prop} (h : EX F G b σ) (e : ∀ k r, r < nx b → F k r → F' k r) (e' : ∀ r, r < nx b → G r → G' r) : EX F' G' b σ :=
  ⟨h.1, h.2.1, h.2.2.1, fun k r hr hF => h.2.2.2.1 k r hr (fun q => hF (e k r hr q)), fun r j hr hG => h.2.2.2.2 r j hr (fun q => hG (e' r hr q))⟩
theorem EX.fi {k r : Nat} {v : Int32} (h : EX F G b σ) (q : F k r ∨ nx b ≤ r) : EX F G b (pfi σ k r v) := by
  obtain ⟨a1, a2, a3, a4, a5⟩ := h
  refine ⟨a1, a2, a3, fun k' r' hr hF => ?_, a5⟩
  rw [fi_pfi, fr_pfi, if_neg]
  · exact a4 k' r' hr hF
  · rintro ⟨rfl, rfl⟩
    rcases q with q | q
    · exact hF q
    · omega
theorem EX.fr {k r v : Nat} (h : EX F G b σ) (q : F k r ∨ nx b ≤ r) : EX F G b (pfr σ k r v) := by
  obtain ⟨a1, a2, a3, a4, a5⟩ := h
  refine ⟨a1, a2, a3, fun k' r' hr hF => ?_, a5⟩
  rw [fr_pfr, fi_pfr, if_neg]
  · exact a4 k' r' hr hF
  · rintro ⟨rfl, rfl⟩
    rcases q with q | q
    · exact hF q
    · omega
theorem EX.ar {a j v : Nat} (h : EX F G b σ) (q : G a ∨ nx b ≤ a) : EX F G b (par σ a j v) := by
  obtain ⟨a1, a2, a3, a4, a5⟩ := h
  refine ⟨a1, a2, a3, a4, fun r' j' hr hG => ?_⟩
  rw [ar_par, if_neg]
  · exact a5 r' j' hr hG
  · rintro ⟨rfl, rfl⟩
    rcases q with q | q
    · exact hG q
    · omega
theorem EX.nw {ci n : Nat} (h : EX F G b σ) : EX F G b (pnew σ ci n) := by
  obtain ⟨a1, a2, a3, a4, a5⟩ := h
  refine ⟨by rw [nx_pnew]; omega, fun r hr => ?_, a3, fun k' r' hr hF => ?_, a5⟩
  · rw [tg_pnew, if_neg (by omega)]; exact a2 r hr
  · rw [fi_pnew, fr_pnew, if_neg (by omega), if_neg (by omega)]; exact a4 k' r' hr hF
theorem EX.na {ti n : Nat} (h : EX F G b σ) : EX F G b (parr σ ti n) := by
  obtain ⟨a1, a2, a3, a4, a5⟩ := h
  refine ⟨by rw [nx_parr]; omega, fun r hr => ?_, fun r j hr => ?_, a4, fun r' j' hr hG => ?_⟩
  · rw [tg_parr, al_parr, if_neg (by omega), if_neg (by omega)]; exact a2 r hr
  · rw [ai_parr, if_neg (by omega)]; exact a3 r j hr
  · rw [ar_parr, if_neg (by omega)]; exact a5 r' j' hr hG
theorem FR.nw {ci n : Nat} (h : FR σ) : FR (pnew σ ci n) := by
  refine ⟨⟨by rw [nx_pnew]; omega, ?_⟩, fun r hr => ?_⟩
  · rw [tg_pnew, if_neg (by have := h.1.1; omega)]; exact h.1.2
  · rw [nx_pnew] at hr
    rw [tg_pnew, if_neg (by omega)]; exact h.2 r (by omega)
theorem FR.na {ti n : Nat} (h : FR σ) : FR (parr σ ti n) := by
  refine ⟨⟨by rw [nx_parr]; omega, ?_⟩, fun r hr => ?_⟩
  · rw [tg_parr, if_neg (by have := h.1.1; omega)]; exact h.1.2
  · rw [nx_parr] at hr
    rw [tg_parr, if_neg (by omega)]; exact h.2 r (by omega)
/-- the scalars of the mesh at r; n objects and B slots since σ0 -/
def BS (σ0 : PS) (r N : Nat) (R Q : Int32) (n B : Nat) (σ : PS) : Prop := FR σ ∧ (nx σ = nx σ0 + n ∧ sl σ ≤ sl σ0 + B) ∧ (∀ x, x < nx σ0 → tg σ x = tg σ0 x ∧ al σ x = al σ0 x) ∧ (∀ x j, x < nx σ0 → ai σ x j = ai σ0 x j) ∧ (fi σ 448 r = nI N ∧ fi σ 449 r = nI N ∧ fi σ 450 r = nI (N + 1) ∧ fi σ 451 r = R ∧ fi σ 452 r = Q ∧ fi σ 458 r = 0)
variable {σ0 : PS} {r N n B : Nat} {R Q : Int32}
theorem BS.ex (h : BS σ0 r N R Q n B σ) (hr : r < nx σ0) (e : EX F G σ σ') (hF : ∀ k, 448 ≤ k → k ≤ 452 ∨ k = 458 → ¬ F k r) (hR : FR σ') {n' B' : Nat} (h1 : nx σ' = nx σ0 + n') (h2 : sl σ' ≤ sl σ0 + B') : BS σ0 r N R Q n' B' σ' := by
  obtain ⟨a1, ⟨a2, a3⟩, a4, a5, c1, c2, c3, c4, c5, c6⟩ := h
  obtain ⟨e1, e2, e3, e4, e5⟩ := e
  have q : ∀ k, 448 ≤ k → k ≤ 452 ∨ k = 458 → fi σ' k r = fi σ k r := fun k hk hk' => (e4 k r (by omega) (hF k hk hk')).1
  refine ⟨hR, ⟨h1, h2⟩, fun x hx => ?_, fun x j hx => ?_, ?_, ?_, ?_, ?_, ?_, ?_⟩
  · have z := e2 x (by omega)
    exact ⟨z.1.trans (a4 x hx).1, z.2.trans (a4 x hx).2⟩
  · exact (e3 x j (by omega)).trans (a5 x j hx)
  · rw [q 448 (by omega) (by omega)]; exact c1
  · rw [q 449 (by omega) (by omega)]; exact c2
  · rw [q 450 (by omega) (by omega)]; exact c3
  · rw [q 451 (by omega) (by omega)]; exact c4
  · rw [q 452 (by omega) (by omega)]; exact c5
  · rw [q 458 (by omega) (by omega)]; exact c6
/-- an array at a of objects that lie behind it -/
def OB (a ti n t : Nat) (I : Nat → Nat → Int32) (i : Nat) (σ : PS) : Prop := tg σ a = 100 + ti ∧ al σ a = n ∧ ∀ j, j < i → ar σ a j = a + 1 + j ∧ tg σ (a + 1 + j) = t ∧ ∀ k, fi σ k (a + 1 + j) = I j k
variable {a ti t i : Nat} {I : Nat → Nat → Int32}
theorem OB.ex (h : OB a ti n t I i σ) (e : EX F G σ σ') (ha : a + 1 + i ≤ nx σ) (hG : ¬ G a) (hF : ∀ j k, j < i → ¬ F k (a + 1 + j)) : OB a ti n t I i σ' := by
  obtain ⟨a1, a2, a3⟩ := h
  obtain ⟨e1, e2, e3, e4, e5⟩ := e
  refine ⟨(e2 a (by omega)).1.trans a1, (e2 a (by omega)).2.trans a2, fun j hj => ?_⟩
  obtain ⟨b1, b2, b3⟩ := a3 j hj
  exact ⟨(e5 a j (by omega) hG).trans b1, (e2 _ (by omega)).1.trans b2, fun k => (e4 k _ (by omega) (hF j k hj)).1.trans (b3 k)⟩
/-- one object more -/
theorem OB.one (h : OB a ti n t I i σ) (e : EX n2 (fun x => x = a) σ σ') (ha : a + 1 + i = nx σ) (h1 : ar σ' a i = nx σ) (h0 : ∀ j, j < i → ar σ' a j = ar σ a j) (h2 : tg σ' (nx σ) = t) (h3 : ∀ k, fi σ' k (nx σ) = I i k) : OB a ti n t I (i + 1) σ' := by
  obtain ⟨a1, a2, a3⟩ := h
  obtain ⟨e1, e2, e3, e4, e5⟩ := e
  refine ⟨(e2 a (by omega)).1.trans a1, (e2 a (by omega)).2.trans a2, fun j hj => ?_⟩
  by_cases q : j = i
  · subst q
    rw [ha]
    exact ⟨h1, h2, h3⟩
  · obtain ⟨b1, b2, b3⟩ := a3 j (by omega)
    exact ⟨(h0 j (by omega)).trans b1, (e2 _ (by omega)).1.trans b2, fun k => (e4 k _ (by omega) id).1.trans (b3 k)⟩
/-- an empty list -/
def NL (z l : Nat) (σ : PS) : Prop := tg σ l = 1 ∧ fi σ 2 l = 0 ∧ fr σ 1 l = z
variable {z l : Nat}
theorem NL.ex (h : NL z l σ) (e : EX F G σ σ') (hl : l < nx σ) (hF : ∀ k, ¬ F k l) : NL z l σ' := by
  obtain ⟨a1, a2, a3⟩ := h
  obtain ⟨e1, e2, e3, e4, e5⟩ := e
  exact ⟨(e2 l hl).1.trans a1, (e4 2 l hl (hF 2)).1.trans a2, (e4 1 l hl (hF 1)).2.trans a3⟩
theorem NL.al (h : NL z l σ) (hz : tg σ z = 99 ∧ al σ z = 0) (hF : FR σ) {f : Nat → Nat} : AL σ l 0 f := by
  obtain ⟨a1, a2, a3⟩ := h
  have x1 := hF.lt (r := z) (by omega)
  have x2 := hF.lt (r := l) (by omega)
  unfold AL
  rw [a3, hz.2]
  exact ⟨a1, a2.trans nI_0.symm, by omega, by omega, by omega, x1, x2, Or.inl ⟨hz.1, rfl⟩, fun i hi => by omega⟩
variable {P : Option PV → PS → Prop}
theorem sp_TM_clamp {v lo hi : Int32} (h : lo ≤ hi) (hP : P (some (.inl (cl lo hi v))) σ) : Ctr m_TM_clamp 1 [.inl v, .inl lo, .inl hi] σ P := by
  refine Ctr.of y_TM_clamp (Nat.le_of_ble_eq_true rfl) ?_
  refine p_iload_n e_TM_clamp_0 rfl ?_
  refine p_iload_n e_TM_clamp_1 rfl ?_
  refine p_iload_n e_TM_clamp_2 rfl ?_
  refine p_mmin e_TM_clamp_3 c_TM_213 (Nat.le_of_ble_eq_true rfl) (by decide) ?_
  refine p_mmax e_TM_clamp_6 c_TM_219 (Nat.le_of_ble_eq_true rfl) (by decide) ?_
  refine p_top (cl_max h) ?_
  refine p_iret e_TM_clamp_9 (rv_i ?_)
  exact hP
theorem sp_Share_init (h : tg σ r = 7) (h0 : r ≠ 0) (hP : P none (pfi σ 388 r (-1))) : Ctr m_Share_init 1 [.inr r] σ P := by
  refine Ctr.of y_Share_init (Nat.le_of_ble_eq_true rfl) ?_
  refine p_aload_n e_Share_init_0 rfl ?_
  refine p_oinit e_Share_init_1 c_Share_3 i_oi q_oi h0 (Nat.le_of_ble_eq_true rfl) (by decide) ?_
  refine p_aload_n e_Share_init_4 rfl ?_
  refine p_iconst (x := (-1)) e_Share_init_5 (by decide) ?_
  refine p_pI 388 e_Share_init_6 f_Share_9 rfl rfl (fun q h => by cases h; exact Or.inl rfl) rfl (by assumption) ?_
  refine p_ret e_Share_init_9 (rv_v ?_)
  exact hP
theorem sp_Core_init (h0 : r ≠ 0) (hP : P none σ) : Ctr m_Core_init 1 [.inr r] σ P := by
  refine Ctr.of y_Core_init (Nat.le_of_ble_eq_true rfl) ?_
  refine p_aload_n e_Core_init_0 rfl ?_
  refine p_oinit e_Core_init_1 c_Core_1 i_oi q_oi h0 (Nat.le_of_ble_eq_true rfl) (by decide) ?_
  refine p_ret e_Core_init_4 (rv_v ?_)
  exact hP
theorem sp_AC_init (h0 : r ≠ 0) (hP : P none σ) : Ctr m_AC_init 1 [.inr r] σ P := by
  refine Ctr.of y_AC_init (Nat.le_of_ble_eq_true rfl) ?_
  refine p_aload_n e_AC_init_0 rfl ?_
  refine p_oinit e_AC_init_1 c_AC_1 i_oi q_oi h0 (Nat.le_of_ble_eq_true rfl) (by decide) ?_
  refine p_ret e_AC_init_4 (rv_v ?_)
  exact hP
theorem sp_AbL_init (h : tg σ r = 1) (h0 : r ≠ 0) (hP : P none (pfi σ 0 r 0)) : Ctr m_AbL_init 2 [.inr r] σ P := by
  refine Ctr.of y_AbL_init (Nat.le_of_ble_eq_true rfl) ?_
  refine p_aload_n e_AbL_init_0 rfl ?_
  refine p_init (d' := 1) [] _ e_AbL_init_1 c_AbL_1 k_AC_init i_AC_init rfl rfl (h0) rfl rfl (Nat.le_of_ble_eq_true rfl) (Nat.le_of_ble_eq_true rfl) ?_
  refine sp_AC_init h0 ?_
  refine p_aload_n e_AbL_init_4 rfl ?_
  refine p_iconst (x := 0) e_AbL_init_5 (by decide) ?_
  refine p_pI 0 e_AbL_init_6 f_AbL_7 rfl rfl (fun q h => by cases h; exact Or.inl rfl) rfl (by assumption) ?_
  refine p_ret e_AbL_init_9 (rv_v ?_)
  exact hP
theorem sp_AL_init (h : tg σ l = 1) (h0 : l ≠ 0) (hz : tg σ z = 99) (hP : P none (pfr (pfi σ 0 l 0) 1 l z)) : Ctr m_AL_init 3 [.inr l] σ P := by
  refine Ctr.of y_AL_init (Nat.le_of_ble_eq_true rfl) ?_
  refine p_aload_n e_AL_init_0 rfl ?_
  refine p_init (d' := 2) [] _ e_AL_init_1 c_AL_1 k_AbL_init i_AbL_init rfl rfl (h0) rfl rfl (Nat.le_of_ble_eq_true rfl) (Nat.le_of_ble_eq_true rfl) ?_
  refine sp_AbL_init h h0 ?_
  have h' : tg (pfi σ 0 l 0) l = 1 := h
  refine p_aload_n e_AL_init_4 rfl ?_
  refine p_gets (z := z) e_AL_init_5 w_175 hz ?_
  refine p_pR 1 e_AL_init_8 f_AL_9 rfl rfl (fun q h => by cases h; exact Or.inl rfl) (by assumption) ?_
  refine p_ret e_AL_init_11 (rv_v ?_)
  exact hP
/-- a new list -/
theorem nl_new (hx : 0 < nx σ) : NL z (nx σ) (pfr (pfi (pnew σ 0 3) 0 (nx σ) 0) 1 (nx σ) z) ∧ EX n2 n1 σ (pfr (pfi (pnew σ 0 3) 0 (nx σ) 0) 1 (nx σ) z) := by
  refine ⟨⟨?_, ?_, ?_⟩, ((EX.rf.nw).fi (Or.inr (Nat.le_refl _))).fr (Or.inr (Nat.le_refl _))⟩
  · rw [tg_pfr, tg_pfi, tg_pnew, if_pos rfl]
  · rw [fi_pfr, fi_pfi, if_neg (by omega), fi_pnew, if_pos rfl]
  · rw [fr_pfr, if_pos ⟨rfl, rfl⟩]
theorem sp_Desk_init (h : tg σ r = 3) (h0 : r ≠ 0) (hz : tg σ z = 99) (hF : FR σ) (hP : ∀ σ', FR σ' → nx σ' = nx σ + 1 → sl σ' ≤ sl σ + 3 → NL z (nx σ) σ' → EX (fun k x => k = 128 ∧ x = r) n1 σ σ' → fr σ' 128 r = nx σ → P none σ') : Ctr m_Desk_init 4 [.inr r] σ P := by
  have hx := hF.1.1
  have hr := hF.lt (r := r) (by omega)
  have hzl := hF.lt (r := z) (by omega)
  refine Ctr.of y_Desk_init (Nat.le_of_ble_eq_true rfl) ?_
  refine p_aload_n e_Desk_init_0 rfl ?_
  refine p_oinit e_Desk_init_1 c_Desk_1 i_oi q_oi h0 (Nat.le_of_ble_eq_true rfl) (by decide) ?_
  refine p_aload_n e_Desk_init_4 rfl ?_
  refine p_new (ci := 0) (N := 3) e_Desk_init_5 rfl rfl l_Desk_7 n_AL w_47 ?_
  have tl : tg (pnew σ 0 3) (nx σ) = 1 := by rw [tg_pnew, if_pos rfl]
  have tz' : tg (pnew σ 0 3) z = 99 := by rw [tg_pnew, if_neg (by omega)]; exact hz
  have hn0 : nx σ ≠ 0 := by omega
  refine p_dup e_Desk_init_8 ?_
  refine p_init (d' := 3) [] _ e_Desk_init_9 c_Desk_9 k_AL_init i_AL_init rfl rfl (hn0) rfl rfl (Nat.le_of_ble_eq_true rfl) (Nat.le_of_ble_eq_true rfl) ?_
  refine sp_AL_init tl hn0 tz' ?_
  obtain ⟨q1, q2⟩ := nl_new (z := z) hx
  have td : tg (pfr (pfi (pnew σ 0 3) 0 (nx σ) 0) 1 (nx σ) z) r = 3 := ((q2.2.1 r hr).1).trans h
  have fr1 : FR (pfr (pfi (pnew σ 0 3) 0 (nx σ) 0) 1 (nx σ) z) := hF.nw
  refine p_pR 128 e_Desk_init_12 f_Desk_10 rfl rfl (fun q h => by cases h; exact Or.inr ⟨rfl, rfl, rfl⟩) (by assumption) ?_
  refine p_ret e_Desk_init_15 (rv_v ?_)
  refine hP _ fr1 rfl (Nat.le_refl _) (q1.ex (EX.rf.fr (F := fun k x => k = 128 ∧ x = r) (G := n1) (Or.inl ⟨rfl, rfl⟩)) (by show nx σ < nx σ + 1; omega) (fun k q => ?_)) ((q2.up (fun _ _ _ => False.elim) (fun _ _ => id)).fr (Or.inl ⟨rfl, rfl⟩)) (by rw [fr_pfr, if_pos ⟨rfl, rfl⟩])
  have := q.2
  omega
end Ini
