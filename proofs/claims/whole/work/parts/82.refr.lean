/-! what the tellers tell, as functions of the state; the reference tells the same -/
noncomputable def sel (c : Prop) (a b : Int32) : Int32 := @ite _ c (Classical.propDecidable c) a b
theorem sel_t {c : Prop} {a b : Int32} (h : c) : sel c a b = a := by unfold sel; rw [if_pos h]
theorem sel_f {c : Prop} {a b : Int32} (h : ¬ c) : sel c a b = b := by unfold sel; rw [if_neg h]
def tkF (A : AS) (i : Nat) : Int32 := sv A 5 i + (if sv A 6 i = 0 then 0 else 8) + (if sv A 7 i = 0 then 0 else 16)
def daF (A : AS) (i : Nat) : Int32 := if sv A 7 i = 0 then 0 else sv A 8 i
def kwF (A : AS) (i : Nat) : Int32 := if sv A 9 i = -1 then -1 else sv A 9 i + (if sv A 10 i = 0 then 0 else 8)
def stF (A : AS) (c : Nat) : Int32 := if sv A 12 c = 0 then 0 else 1 + sv A 18 c + (if sv A 14 c = 0 then 0 else 8)
noncomputable def vLe (A : AS) (i : Int32) : Int32 := sel (0 ≤ i ∧ i < nI (ln A)) (lsA A (nt i)) (-1)
noncomputable def vTk (N : Nat) (A : AS) (x b : Int32) : Int32 := sel (isNd N x ∧ isB b) (tkF A (2 * nt x + nt b)) (-1)
noncomputable def vDa (N : Nat) (A : AS) (x b : Int32) : Int32 := sel (isNd N x ∧ isB b) (daF A (2 * nt x + nt b)) 0
noncomputable def vKn (N : Nat) (A : AS) (x b : Int32) : Int32 := sel (isNd N x ∧ isB b) (kwF A (2 * nt x + nt b)) (-2)
noncomputable def vRo (A : AS) (b : Int32) : Int32 := sel (isB b) (nI (rn A (nt b))) (-1)
noncomputable def vSt (N : Nat) (A : AS) (c : Int32) : Int32 := sel (isC N c) (stF A (nt c)) (-1)
noncomputable def vEn (N : Nat) (A : AS) (c : Int32) : Int32 := sel (isC N c) (sv A 20 (nt c)) (-1)
noncomputable def vRe (N : Nat) (A : AS) (c : Int32) : Int32 := sel (isC N c) (sv A 21 (nt c)) 0
/-- v is what the owner of block b has -/
def MV (N : Nat) (A : AS) (b : Int32) (v : Int32) : Prop := ∃ b', b' < 2 ∧ b = nI b' ∧ ((∃ x, x ≤ N ∧ sv A 6 (2 * x + b') ≠ 0 ∧ v = sv A 8 (2 * x + b')) ∨ ((∀ x, x ≤ N → sv A 6 (2 * x + b') = 0) ∧ ∃ i, i < ln A ∧ sv A 34 i ≠ 0 ∧ sv A 32 i = b ∧ v = sv A 36 i))
noncomputable def vMe (N : Nat) (A : AS) (b : Int32) : Int32 := @dite _ (∃ v, MV N A b v) (Classical.propDecidable _) (fun h => Classical.choose h) (fun _ => 0)
theorem sm_ex {g : Nat → Nat} : ∀ n, sm g n ≠ 0 → ∃ i, i < n ∧ g i ≠ 0
  | 0, h => absurd rfl h
  | n + 1, h => by
    by_cases e : g n = 0
    · rw [sm_s, e] at h
      obtain ⟨i, hi, hg⟩ := sm_ex n (by omega)
      exact ⟨i, by omega, hg⟩
    · exact ⟨n, by omega, e⟩
theorem sm_two {g : Nat → Nat} {n i j : Nat} (hi : i < n) (hj : j < n) (hne : i ≠ j) : g i + g j ≤ sm g n := by
  rcases Nat.lt_or_ge i j with h | h
  · have h1 := sm_lt (g := g) h (Nat.le_refl _)
    have h2 := sm_lt (g := g) hj (Nat.le_refl _)
    omega
  · have h1 := sm_lt (g := g) (show j < i by omega) (Nat.le_refl _)
    have h2 := sm_lt (g := g) hi (Nat.le_refl _)
    omega
theorem o1_n {x : Int32} (h : x ≠ 0) : o1 x = 1 := by unfold o1; rw [if_neg h]
section Tell
variable {N T : Nat} {Y : Nat → Nat} {bd : Nat × Nat × Nat} {hs : List Nat} {σ σ0 : PS} {A : AS} {f : Nat → Nat} {m : Nat} {g : Nat → Nat} {rf : Nat → Nat → Nat} {P : Option PV → PS → Prop} {Z : Nat → Nat}
theorem isNd_n {x : Nat} (hx : x ≤ N) (hN : N ≤ 4) : isNd N (nI x) := ⟨nI_pos' (by omega), (nI_leI (by omega) (by omega)).mpr hx⟩
theorem isC_n {x : Nat} (hx : x < N) (hN : N ≤ 4) : isC N (nI x) := ⟨nI_pos' (by omega), (nI_ltI (by omega) (by omega)).mpr hx⟩
theorem isB_n {b : Nat} (hb : b < 2) : isB (nI b) := ⟨nI_pos' (by omega), show nI b < nI 2 from (nI_ltI (by omega) (by omega)).mpr hb⟩
theorem LI.owl (h : LI N A z0 z0) {i b : Nat} (hi : i < ln A) (h4 : sv A 34 i ≠ 0) (h2 : sv A 32 i = nI b) : sv A 29 i = 3 ∧ lo' A b i = 1 := by
  obtain ⟨-, -, -, w4, -⟩ := h.2.1 i hi
  have e3 : sv A 29 i = 3 := by
    by_cases q : sv A 29 i = 3
    · exact q
    · exact absurd (w4 q).2.1 h4
  refine ⟨e3, ?_⟩
  unfold lo'
  rw [if_pos ⟨e3, h2⟩, o1_n h4]
theorem LI.own1 (h : LI N A z0 z0) {x y b : Nat} (hb : b < 2) (hx : x ≤ N) (hy : y ≤ N) (h1 : sv A 6 (2 * x + b) ≠ 0) (h2 : sv A 6 (2 * y + b) ≠ 0) : x = y := by
  have e := h.2.2.2.2.2 b hb
  by_cases q : x = y
  · exact q
  · have := sm_two (g := fun x => o1 (sv A 6 (2 * x + b))) (n := N + 1) (show x < N + 1 by omega) (show y < N + 1 by omega) q
    simp only [o1_n h1, o1_n h2] at this
    omega
theorem LI.own2 (h : LI N A z0 z0) {x i b : Nat} (hb : b < 2) (hx : x ≤ N) (hi : i < ln A) (h1 : sv A 6 (2 * x + b) ≠ 0) (h4 : sv A 34 i ≠ 0) (h2 : sv A 32 i = nI b) : False := by
  have e := h.2.2.2.2.2 b hb
  have a1 := sm_le (g := fun x => o1 (sv A 6 (2 * x + b))) (N + 1) x (by omega)
  have a2 := sm_le (g := lo' A b) (ln A) i hi
  simp only [o1_n h1] at a1
  rw [(h.owl hi h4 h2).2] at a2
  omega
theorem LI.own3 (h : LI N A z0 z0) {i j b : Nat} (hb : b < 2) (hi : i < ln A) (hj : j < ln A) (h4 : sv A 34 i ≠ 0) (h2 : sv A 32 i = nI b) (h4' : sv A 34 j ≠ 0) (h2' : sv A 32 j = nI b) : i = j := by
  have e := h.2.2.2.2.2 b hb
  by_cases q : i = j
  · exact q
  · have := sm_two (g := lo' A b) hi hj q
    rw [(h.owl hi h4 h2).2, (h.owl hj h4' h2').2] at this
    omega
theorem LI.own4 (h : LI N A z0 z0) {b : Nat} (hb : b < 2) (hx : ∀ x, x ≤ N → sv A 6 (2 * x + b) = 0) : ∃ i, i < ln A ∧ sv A 34 i ≠ 0 ∧ sv A 32 i = nI b := by
  have e := h.2.2.2.2.2 b hb
  have s0 : sm (fun x => o1 (sv A 6 (2 * x + b))) (N + 1) = 0 := by
    by_cases q : sm (fun x => o1 (sv A 6 (2 * x + b))) (N + 1) = 0
    · exact q
    · obtain ⟨x, hx', g0⟩ := sm_ex _ q
      refine absurd ?_ g0
      show o1 _ = 0
      unfold o1
      rw [if_pos (hx x (by omega))]
  have s1 : z0 b = 0 := rfl
  obtain ⟨i, hi, g0⟩ := sm_ex (g := lo' A b) (ln A) (by omega)
  unfold lo' at g0
  by_cases q : sv A 29 i = 3 ∧ sv A 32 i = nI b
  · rw [if_pos q] at g0
    refine ⟨i, hi, fun z => g0 ?_, q.2⟩
    unfold o1
    rw [if_pos z]
  · rw [if_neg q] at g0
    exact absurd rfl g0
theorem LI.mv (h : LI N A z0 z0) {b v w : Int32} (h1 : MV N A b v) (h2 : MV N A b w) : v = w := by
  obtain ⟨b1, hb, rfl, q1⟩ := h1
  obtain ⟨b2, hb2, e, q2⟩ := h2
  have e := (nI_eq (by omega) (by omega)).mp e
  subst e
  rcases q1 with ⟨x, hx, x1, rfl⟩ | ⟨n1, i, hi, i1, i2, rfl⟩ <;> rcases q2 with ⟨y, hy, y1, rfl⟩ | ⟨n2, j, hj, j1, j2, rfl⟩
  · rw [h.own1 hb hx hy x1 y1]
  · exact absurd (n2 x hx) x1
  · exact absurd (n1 y hy) y1
  · rw [h.own3 hb hi hj i1 i2 j1 j2]
theorem LI.me (h : LI N A z0 z0) {b v : Int32} (h1 : MV N A b v) : vMe N A b = v := by
  have hx : ∃ v, MV N A b v := ⟨v, h1⟩
  unfold vMe
  rw [dif_pos hx]
  exact h.mv (Classical.choose_spec hx) h1
theorem me_no {b : Int32} (h : ¬ isB b) : vMe N A b = 0 := by
  unfold vMe
  rw [dif_neg]
  rintro ⟨v, b', hb, rfl, -⟩
  exact h (isB_n hb)
/-! the class -/
theorem tm_letter {i : Int32} (hl : ln A ≤ 100) (h : CRx N Y bd hs σ A f m g rf) (hP : P (some (.inl (vLe A i))) σ) : Ctr m_TM_letter 5 [.inr (Y 0), .inl i] σ P := by
  refine sp_TM_letter h (fun j hj e => ?_) (fun q => ?_)
  · subst e
    unfold vLe at hP
    rw [sel_t ⟨nI_pos' (by omega), (nI_ltI (by omega) (by omega)).mpr hj⟩, nt_nI (by omega)] at hP
    exact hP
  · unfold vLe at hP
    rw [sel_f q] at hP
    exact hP
theorem tm_tokens {x b : Int32} (h : CRx N Y bd hs σ A f m g rf) (hP : P (some (.inl (vTk N A x b))) σ) : Ctr m_TM_tokens 2 [.inr (Y 0), .inl x, .inl b] σ P := by
  have hN := h.1.1
  refine sp_TM_tokens h (fun x' b' hx hb e e' => ?_) (fun q => ?_)
  · subst e e'
    unfold vTk at hP
    rw [sel_t ⟨isNd_n hx hN.2, isB_n hb⟩, nt_nI (by omega), nt_nI (by omega)] at hP
    exact hP
  · unfold vTk at hP
    rw [sel_f q] at hP
    exact hP
theorem tm_data {x b : Int32} (h : CRx N Y bd hs σ A f m g rf) (hP : P (some (.inl (vDa N A x b))) σ) : Ctr m_TM_data 2 [.inr (Y 0), .inl x, .inl b] σ P := by
  have hN := h.1.1
  refine sp_TM_data h (fun x' b' hx hb e e' => ?_) (fun q => ?_)
  · subst e e'
    unfold vDa at hP
    rw [sel_t ⟨isNd_n hx hN.2, isB_n hb⟩, nt_nI (by omega), nt_nI (by omega)] at hP
    exact hP
  · unfold vDa at hP
    rw [sel_f q] at hP
    exact hP
theorem tm_knows {x b : Int32} (h : CRx N Y bd hs σ A f m g rf) (hP : P (some (.inl (vKn N A x b))) σ) : Ctr m_TM_knows 2 [.inr (Y 0), .inl x, .inl b] σ P := by
  have hN := h.1.1
  refine sp_TM_knows h (fun x' b' hx hb e e' => ?_) (fun q => ?_)
  · subst e e'
    unfold vKn at hP
    rw [sel_t ⟨isNd_n hx hN.2, isB_n hb⟩, nt_nI (by omega), nt_nI (by omega)] at hP
    exact hP
  · unfold vKn at hP
    rw [sel_f q] at hP
    exact hP
theorem tm_row {b : Int32} (h : CRx N Y bd hs σ A f m g rf) (hP : P (some (.inl (vRo A b))) σ) : Ctr m_TM_row 2 [.inr (Y 0), .inl b] σ P := by
  refine sp_TM_row h (fun b' hb e => ?_) (fun q => ?_)
  · subst e
    unfold vRo at hP
    rw [sel_t (isB_n hb), nt_nI (by omega)] at hP
    exact hP
  · unfold vRo at hP
    rw [sel_f q] at hP
    exact hP
theorem tm_state {c : Int32} (h : CRx N Y bd hs σ A f m g rf) (hP : P (some (.inl (vSt N A c))) σ) : Ctr m_TM_state 2 [.inr (Y 0), .inl c] σ P := by
  have hN := h.1.1
  refine sp_TM_state h (fun c' hc e => ?_) (fun q => ?_)
  · subst e
    unfold vSt at hP
    rw [sel_t (isC_n hc hN.2), nt_nI (by omega)] at hP
    exact hP
  · unfold vSt at hP
    rw [sel_f q] at hP
    exact hP
theorem tm_ended {c : Int32} (h : CRx N Y bd hs σ A f m g rf) (hP : P (some (.inl (vEn N A c))) σ) : Ctr m_TM_ended 2 [.inr (Y 0), .inl c] σ P := by
  have hN := h.1.1
  refine sp_TM_ended h (fun c' hc e => ?_) (fun q => ?_)
  · subst e
    unfold vEn at hP
    rw [sel_t (isC_n hc hN.2), nt_nI (by omega)] at hP
    exact hP
  · unfold vEn at hP
    rw [sel_f q] at hP
    exact hP
theorem tm_result {c : Int32} (h : CRx N Y bd hs σ A f m g rf) (hP : P (some (.inl (vRe N A c))) σ) : Ctr m_TM_result 2 [.inr (Y 0), .inl c] σ P := by
  have hN := h.1.1
  refine sp_TM_result h (fun c' hc e => ?_) (fun q => ?_)
  · subst e
    unfold vRe at hP
    rw [sel_t (isC_n hc hN.2), nt_nI (by omega)] at hP
    exact hP
  · unfold vRe at hP
    rw [sel_f q] at hP
    exact hP
theorem tm_memory {b : Int32} (hI : LI N A z0 z0) (h : CRx N Y bd hs σ A f m g rf) (hP : P (some (.inl (vMe N A b))) σ) : Ctr m_TM_memory 5 [.inr (Y 0), .inl b] σ P := by
  have hb66 := hI.bound
  refine sp_TM_memory (by omega) h (fun b' x hb e hx h1 => ?_) (fun b' i hb e hx hi h1 h2 => ?_) (fun b' hb e hx hno => ?_) (fun q => ?_)
  · rw [hI.me ⟨b', hb, e, Or.inl ⟨x, hx, h1, rfl⟩⟩] at hP
    exact hP
  · rw [hI.me ⟨b', hb, e, Or.inr ⟨hx, i, hi, h1, h2, rfl⟩⟩] at hP
    exact hP
  · obtain ⟨i, hi, h1, h2⟩ := hI.own4 hb hx
    exact absurd ⟨h1, by rw [h2, e]⟩ (hno i hi)
  · rw [me_no q] at hP
    exact hP
/-! the reference -/
theorem sp_MM_letters (hR : RR N m Z σ0 nD σ A) (hP : ∀ σ', RR N m Z σ0 nD σ' A → P (some (.inl (nI (ln A)))) σ') : Ctr m_MM_letters 1 [.inr m] σ P := by
  refine Ctr.of y_MM_letters (Nat.le_of_ble_eq_true rfl) ?_
  refine p_aload_n e_MM_letters_0 rfl ?_
  refine p_iconst (x := 0) e_MM_letters_1 (by decide) ?_
  refine r_p0 hR e_MM_letters_2 f_MM_123 (fun q h => by cases h; exact Or.inl rfl) (fun σ hR => ?_)
  refine p_aload_n e_MM_letters_5 rfl ?_
  refine x_gL hR.2 e_MM_letters_6 f_MM_126 rfl ?_
  refine p_iret e_MM_letters_9 (rv_i ?_)
  exact hP _ hR
set_option maxHeartbeats 1000000 in
theorem sp_MM_letter {i : Int32} (hI : LI N A z0 z0) (hR : RR N m Z σ0 nD σ A) (hP : ∀ σ', RR N m Z σ0 nD σ' A → P (some (.inl (vLe A i))) σ') : Ctr m_MM_letter 1 [.inr m, .inl i] σ P := by
  have hb66 := hI.bound
  refine Ctr.of y_MM_letter (Nat.le_of_ble_eq_true rfl) ?_
  refine p_aload_n e_MM_letter_0 rfl ?_
  refine p_iconst (x := 0) e_MM_letter_1 (by decide) ?_
  refine r_p0 hR e_MM_letter_2 f_MM_123 (fun q h => by cases h; exact Or.inl rfl) (fun σ hR => ?_)
  refine p_iload_n e_MM_letter_5 rfl ?_
  have no : ¬ (0 ≤ i ∧ i < nI (ln A)) → Wp m_MM_letter 1 17 [] [] σ (fun v σ' => RV m_MM_letter.2.2.2 v ∧ P v σ') := by
    intro hy
    refine p_iconst (x := (-1)) e_MM_letter_17 (by decide) ?_
    refine p_iret e_MM_letter_18 (rv_i ?_)
    have q := hP _ hR
    unfold vLe at q
    rw [sel_f hy] at q
    exact q
  refine p_if_lt (tgt := 17) e_MM_letter_6 (by decide) (fun h6 => ?_) (fun h6 => ?_)
  · exact Wp.lv2 (no (fun q => absurd h6 (Int32.not_lt.mpr q.1))) trivial
  refine p_iload_n e_MM_letter_9 rfl ?_
  refine p_aload_n e_MM_letter_10 rfl ?_
  refine x_gL hR.2 e_MM_letter_11 f_MM_126 rfl ?_
  refine p_icmp_lt (tgt := 19) e_MM_letter_14 (by decide) (fun h14 => ?_) (fun h14 => ?_)
  · obtain ⟨j, hj, rfl⟩ := ix (by omega) (Int32.not_lt.mp h6) h14
    obtain ⟨-, -, -, w4, -⟩ := hI.2.1 j hj
    have kk := hP _ hR
    unfold vLe at kk
    rw [sel_t ⟨Int32.not_lt.mp h6, h14⟩, nt_nI (by omega)] at kk
    unfold lsA at kk
    refine p_aload_n e_MM_letter_19 rfl ?_
    refine x_gf 29 hR.2 e_MM_letter_20 f_MM_80 rfl rfl ?_
    refine p_iload_n e_MM_letter_23 rfl ?_
    refine r_ld 29 hR rfl (by decide) rfl e_MM_letter_24 (rfl) (by show _ < 120; omega) (hR.ll (by decide) (by omega)) ?_
    refine p_bipush (x := 8) e_MM_letter_25 (by decide) ?_
    refine p_aload_n e_MM_letter_27 rfl ?_
    refine x_gf 30 hR.2 e_MM_letter_28 f_MM_83 rfl rfl ?_
    refine p_iload_n e_MM_letter_31 rfl ?_
    refine r_ld 30 hR rfl (by decide) rfl e_MM_letter_32 (rfl) (by show _ < 120; omega) (hR.ll (by decide) (by omega)) ?_
    refine p_imul e_MM_letter_33 ?_
    refine p_iadd e_MM_letter_34 ?_
    refine p_bipush (x := 64) e_MM_letter_35 (by decide) ?_
    refine p_aload_n e_MM_letter_37 rfl ?_
    refine x_gf 31 hR.2 e_MM_letter_38 f_MM_86 rfl rfl ?_
    refine p_iload_n e_MM_letter_41 rfl ?_
    refine r_ld 31 hR rfl (by decide) rfl e_MM_letter_42 (rfl) (by show _ < 120; omega) (hR.ll (by decide) (by omega)) ?_
    refine p_imul e_MM_letter_43 ?_
    refine p_iadd e_MM_letter_44 ?_
    refine p_sipush (x := 512) e_MM_letter_45 (by decide) ?_
    refine p_aload_n e_MM_letter_48 rfl ?_
    refine x_gf 32 hR.2 e_MM_letter_49 f_MM_89 rfl rfl ?_
    refine p_iload_n e_MM_letter_52 rfl ?_
    refine r_ld 32 hR rfl (by decide) rfl e_MM_letter_53 (rfl) (by show _ < 120; omega) (hR.ll (by decide) (by omega)) ?_
    refine p_imul e_MM_letter_54 ?_
    refine p_iadd e_MM_letter_55 ?_
    refine p_istore_n e_MM_letter_56 (by decide) ?_
    refine p_aload_n e_MM_letter_57 rfl ?_
    refine x_gf 29 hR.2 e_MM_letter_58 f_MM_80 rfl rfl ?_
    refine p_iload_n e_MM_letter_61 rfl ?_
    refine r_ld 29 hR rfl (by decide) rfl e_MM_letter_62 (rfl) (by show _ < 120; omega) (hR.ll (by decide) (by omega)) ?_
    refine p_iconst (x := 3) e_MM_letter_63 (by decide) ?_
    refine p_icmp_eq (tgt := 71) e_MM_letter_64 (by decide) (fun h64 => ?_) (fun h64 => ?_)
    · refine p_iload_n e_MM_letter_71 rfl ?_
      refine p_sipush (x := 1024) e_MM_letter_72 (by decide) ?_
      refine p_aload_n e_MM_letter_75 rfl ?_
      refine x_gf 33 hR.2 e_MM_letter_76 f_MM_92 rfl rfl ?_
      refine p_iload_n e_MM_letter_79 rfl ?_
      refine r_ld 33 hR rfl (by decide) rfl e_MM_letter_80 (rfl) (by show _ < 120; omega) (hR.ll (by decide) (by omega)) ?_
      refine p_imul e_MM_letter_81 ?_
      refine p_iadd e_MM_letter_82 ?_
      refine p_aload_n e_MM_letter_83 rfl ?_
      refine x_gf 34 hR.2 e_MM_letter_84 f_MM_95 rfl rfl ?_
      refine p_iload_n e_MM_letter_87 rfl ?_
      refine r_lb 34 hR rfl (by decide) rfl e_MM_letter_88 (rfl) (by show _ < 120; omega) (hR.ll (by decide) (by omega)) ?_
      refine p_if_eq (tgt := 98) e_MM_letter_89 (by decide) (fun h89 => ?_) (fun h89 => ?_)
      · rw [if_pos h89] at kk
        refine p_iconst (x := 0) e_MM_letter_98 (by decide) ?_
        refine p_iadd e_MM_letter_99 ?_
        refine p_aload_n e_MM_letter_100 rfl ?_
        refine x_gf 35 hR.2 e_MM_letter_101 f_MM_98 rfl rfl ?_
        refine p_iload_n e_MM_letter_104 rfl ?_
        refine r_lb 35 hR rfl (by decide) rfl e_MM_letter_105 (rfl) (by show _ < 120; omega) (hR.ll (by decide) (by omega)) ?_
        refine p_if_eq (tgt := 115) e_MM_letter_106 (by decide) (fun h106 => ?_) (fun h106 => ?_)
        · rw [if_pos h106] at kk
          refine p_iconst (x := 0) e_MM_letter_115 (by decide) ?_
          refine p_iadd e_MM_letter_116 ?_
          refine p_iret e_MM_letter_117 (rv_i ?_)
          exact kk
        · rw [if_neg h106] at kk
          refine p_sipush (x := 16384) e_MM_letter_109 (by decide) ?_
          refine p_goto (tgt := 116) e_MM_letter_112 (by decide) ?_
          refine p_iadd e_MM_letter_116 ?_
          refine p_iret e_MM_letter_117 (rv_i ?_)
          exact kk
      · rw [if_neg h89] at kk
        refine p_sipush (x := 8192) e_MM_letter_92 (by decide) ?_
        refine p_goto (tgt := 99) e_MM_letter_95 (by decide) ?_
        refine p_iadd e_MM_letter_99 ?_
        refine p_aload_n e_MM_letter_100 rfl ?_
        refine x_gf 35 hR.2 e_MM_letter_101 f_MM_98 rfl rfl ?_
        refine p_iload_n e_MM_letter_104 rfl ?_
        refine r_lb 35 hR rfl (by decide) rfl e_MM_letter_105 (rfl) (by show _ < 120; omega) (hR.ll (by decide) (by omega)) ?_
        refine p_if_eq (tgt := 115) e_MM_letter_106 (by decide) (fun h106 => ?_) (fun h106 => ?_)
        · rw [if_pos h106] at kk
          refine p_iconst (x := 0) e_MM_letter_115 (by decide) ?_
          refine p_iadd e_MM_letter_116 ?_
          refine p_iret e_MM_letter_117 (rv_i ?_)
          exact kk
        · rw [if_neg h106] at kk
          refine p_sipush (x := 16384) e_MM_letter_109 (by decide) ?_
          refine p_goto (tgt := 116) e_MM_letter_112 (by decide) ?_
          refine p_iadd e_MM_letter_116 ?_
          refine p_iret e_MM_letter_117 (rv_i ?_)
          exact kk
    · obtain ⟨e3, e4, e5⟩ := w4 h64
      rw [e3, e4, e5] at kk
      simp at kk
      refine p_iload_n e_MM_letter_67 rfl ?_
      refine p_goto (tgt := 117) e_MM_letter_68 (by decide) ?_
      refine p_iret e_MM_letter_117 (rv_i ?_)
      exact kk
  · exact Wp.lv2 (no (fun q => h14 q.2)) trivial
set_option maxHeartbeats 1000000 in
theorem sp_MM_tokens {x b : Int32} (hR : RR N m Z σ0 nD σ A) (hP : ∀ σ', RR N m Z σ0 nD σ' A → P (some (.inl (vTk N A x b))) σ') : Ctr m_MM_tokens 2 [.inr m, .inl x, .inl b] σ P := by
  have hN := hR.2.hN
  refine Ctr.of y_MM_tokens (Nat.le_of_ble_eq_true rfl) ?_
  refine p_aload_n e_MM_tokens_0 rfl ?_
  refine p_iconst (x := 0) e_MM_tokens_1 (by decide) ?_
  refine r_p0 hR e_MM_tokens_2 f_MM_123 (fun q h => by cases h; exact Or.inl rfl) (fun σ hR => ?_)
  refine p_aload_n e_MM_tokens_5 rfl ?_
  refine p_iload_n e_MM_tokens_6 rfl ?_
  have tm := hR.tg
  have no : ¬ (isNd N x ∧ isB b) → Wp m_MM_tokens 2 20 [] [] σ (fun v σ' => RV m_MM_tokens.2.2.2 v ∧ P v σ') := by
    intro hy
    refine p_iconst (x := (-1)) e_MM_tokens_20 (by decide) ?_
    refine p_iret e_MM_tokens_21 (rv_i ?_)
    have q := hP _ hR
    unfold vTk at q
    rw [sel_f hy] at q
    exact q
  refine p_inv (ci := 8) (d' := 1) [_] _ e_MM_tokens_7 c_MM_190 k_MM_isNode i_MM_isNode s_MM_isNode rfl rfl (by assumption) rfl rfl (Nat.le_of_ble_eq_true rfl) (Nat.le_of_ble_eq_true rfl) ?_
  refine sp_MM_isNode hR (fun y1 y2 => ?_) (fun y => ?_)
  · refine p_if_eq (tgt := 20) e_MM_tokens_10 (by decide) (fun hx => absurd hx ((by decide))) (fun _ => ?_)
    refine p_iload_n e_MM_tokens_13 rfl ?_
    refine p_stat (d' := 1) [_] _ e_MM_tokens_14 c_MM_149 k_MM_isBlock t_MM_isBlock rfl rfl (Nat.le_of_ble_eq_true rfl) (Nat.le_of_ble_eq_true rfl) ?_
    refine sp_MM_isBlock (fun z1 z2 => ?_) (fun z => ?_)
    · refine p_if_ne (tgt := 22) e_MM_tokens_17 (by decide) (fun _ => ?_) (fun hx => absurd hx ((by decide)))
      obtain ⟨x', hx, rfl⟩ := ixle (by omega) y1 y2
      obtain ⟨b', hb, rfl⟩ := ix2 z1 z2
      have kk := hP _ hR
      unfold vTk at kk
      rw [sel_t ⟨isNd_n hx hN.2, isB_n hb⟩, nt_nI (by omega), nt_nI (by omega)] at kk
      unfold tkF at kk
      refine p_iconst (x := 2) e_MM_tokens_22 (by decide) ?_
      refine p_iload_n e_MM_tokens_23 rfl ?_
      refine p_imul e_MM_tokens_24 ?_
      refine p_iload_n e_MM_tokens_25 rfl ?_
      refine p_iadd e_MM_tokens_26 ?_
      refine p_top (at2) ?_
      refine p_istore_n e_MM_tokens_27 (by decide) ?_
      refine p_aload_n e_MM_tokens_28 rfl ?_
      refine x_gf 5 hR.2 e_MM_tokens_29 f_MM_7 rfl rfl ?_
      refine p_iload_n e_MM_tokens_32 rfl ?_
      refine r_ld 5 hR rfl (by decide) rfl e_MM_tokens_33 (rfl) (by show _ < 10; omega) (hR.pl rfl) ?_
      refine p_aload_n e_MM_tokens_34 rfl ?_
      refine x_gf 6 hR.2 e_MM_tokens_35 f_MM_13 rfl rfl ?_
      refine p_iload_n e_MM_tokens_38 rfl ?_
      refine r_lb 6 hR rfl (by decide) rfl e_MM_tokens_39 (rfl) (by show _ < 10; omega) (hR.pl rfl) ?_
      refine p_if_eq (tgt := 48) e_MM_tokens_40 (by decide) (fun h40 => ?_) (fun h40 => ?_)
      · rw [if_pos h40] at kk
        refine p_iconst (x := 0) e_MM_tokens_48 (by decide) ?_
        refine p_iadd e_MM_tokens_49 ?_
        refine p_aload_n e_MM_tokens_50 rfl ?_
        refine x_gf 7 hR.2 e_MM_tokens_51 f_MM_17 rfl rfl ?_
        refine p_iload_n e_MM_tokens_54 rfl ?_
        refine r_lb 7 hR rfl (by decide) rfl e_MM_tokens_55 (rfl) (by show _ < 10; omega) (hR.pl rfl) ?_
        refine p_if_eq (tgt := 64) e_MM_tokens_56 (by decide) (fun h56 => ?_) (fun h56 => ?_)
        · rw [if_pos h56] at kk
          refine p_iconst (x := 0) e_MM_tokens_64 (by decide) ?_
          refine p_iadd e_MM_tokens_65 ?_
          refine p_iret e_MM_tokens_66 (rv_i ?_)
          exact kk
        · rw [if_neg h56] at kk
          refine p_bipush (x := 16) e_MM_tokens_59 (by decide) ?_
          refine p_goto (tgt := 65) e_MM_tokens_61 (by decide) ?_
          refine p_iadd e_MM_tokens_65 ?_
          refine p_iret e_MM_tokens_66 (rv_i ?_)
          exact kk
      · rw [if_neg h40] at kk
        refine p_bipush (x := 8) e_MM_tokens_43 (by decide) ?_
        refine p_goto (tgt := 49) e_MM_tokens_45 (by decide) ?_
        refine p_iadd e_MM_tokens_49 ?_
        refine p_aload_n e_MM_tokens_50 rfl ?_
        refine x_gf 7 hR.2 e_MM_tokens_51 f_MM_17 rfl rfl ?_
        refine p_iload_n e_MM_tokens_54 rfl ?_
        refine r_lb 7 hR rfl (by decide) rfl e_MM_tokens_55 (rfl) (by show _ < 10; omega) (hR.pl rfl) ?_
        refine p_if_eq (tgt := 64) e_MM_tokens_56 (by decide) (fun h56 => ?_) (fun h56 => ?_)
        · rw [if_pos h56] at kk
          refine p_iconst (x := 0) e_MM_tokens_64 (by decide) ?_
          refine p_iadd e_MM_tokens_65 ?_
          refine p_iret e_MM_tokens_66 (rv_i ?_)
          exact kk
        · rw [if_neg h56] at kk
          refine p_bipush (x := 16) e_MM_tokens_59 (by decide) ?_
          refine p_goto (tgt := 65) e_MM_tokens_61 (by decide) ?_
          refine p_iadd e_MM_tokens_65 ?_
          refine p_iret e_MM_tokens_66 (rv_i ?_)
          exact kk
    · refine p_if_ne (tgt := 22) e_MM_tokens_17 (by decide) (fun hx => absurd (rfl) hx) (fun _ => ?_)
      exact Wp.lv2 (no (fun q => z q.2)) trivial
  · refine p_if_eq (tgt := 20) e_MM_tokens_10 (by decide) (fun _ => ?_) (fun hx => absurd (rfl) hx)
    exact Wp.lv2 (no (fun q => y q.1)) trivial
set_option maxHeartbeats 1000000 in
theorem sp_MM_data {x b : Int32} (hR : RR N m Z σ0 nD σ A) (hP : ∀ σ', RR N m Z σ0 nD σ' A → P (some (.inl (vDa N A x b))) σ') : Ctr m_MM_data 2 [.inr m, .inl x, .inl b] σ P := by
  have hN := hR.2.hN
  refine Ctr.of y_MM_data (Nat.le_of_ble_eq_true rfl) ?_
  refine p_aload_n e_MM_data_0 rfl ?_
  refine p_iconst (x := 0) e_MM_data_1 (by decide) ?_
  refine r_p0 hR e_MM_data_2 f_MM_123 (fun q h => by cases h; exact Or.inl rfl) (fun σ hR => ?_)
  refine p_aload_n e_MM_data_5 rfl ?_
  refine p_iload_n e_MM_data_6 rfl ?_
  have tm := hR.tg
  have no : ¬ (isNd N x ∧ isB b) → Wp m_MM_data 2 46 [] [] σ (fun v σ' => RV m_MM_data.2.2.2 v ∧ P v σ') := by
    intro hy
    refine p_iconst (x := 0) e_MM_data_46 (by decide) ?_
    refine p_iret e_MM_data_47 (rv_i ?_)
    have q := hP _ hR
    unfold vDa at q
    rw [sel_f hy] at q
    exact q
  refine p_inv (ci := 8) (d' := 1) [_] _ e_MM_data_7 c_MM_190 k_MM_isNode i_MM_isNode s_MM_isNode rfl rfl (by assumption) rfl rfl (Nat.le_of_ble_eq_true rfl) (Nat.le_of_ble_eq_true rfl) ?_
  refine sp_MM_isNode hR (fun y1 y2 => ?_) (fun y => ?_)
  · refine p_if_eq (tgt := 46) e_MM_data_10 (by decide) (fun hx => absurd hx ((by decide))) (fun _ => ?_)
    refine p_iload_n e_MM_data_13 rfl ?_
    refine p_stat (d' := 1) [_] _ e_MM_data_14 c_MM_149 k_MM_isBlock t_MM_isBlock rfl rfl (Nat.le_of_ble_eq_true rfl) (Nat.le_of_ble_eq_true rfl) ?_
    refine sp_MM_isBlock (fun z1 z2 => ?_) (fun z => ?_)
    · refine p_if_eq (tgt := 46) e_MM_data_17 (by decide) (fun hx => absurd hx ((by decide))) (fun _ => ?_)
      obtain ⟨x', hx, rfl⟩ := ixle (by omega) y1 y2
      obtain ⟨b', hb, rfl⟩ := ix2 z1 z2
      have kk := hP _ hR
      unfold vDa at kk
      rw [sel_t ⟨isNd_n hx hN.2, isB_n hb⟩, nt_nI (by omega), nt_nI (by omega)] at kk
      unfold daF at kk
      refine p_aload_n e_MM_data_20 rfl ?_
      refine x_gf 7 hR.2 e_MM_data_21 f_MM_17 rfl rfl ?_
      refine p_iconst (x := 2) e_MM_data_24 (by decide) ?_
      refine p_iload_n e_MM_data_25 rfl ?_
      refine p_imul e_MM_data_26 ?_
      refine p_iload_n e_MM_data_27 rfl ?_
      refine p_iadd e_MM_data_28 ?_
      refine p_top (at2) ?_
      refine r_lb 7 hR rfl (by decide) rfl e_MM_data_29 (rfl) (by show _ < 10; omega) (hR.pl rfl) ?_
      refine p_if_eq (tgt := 46) e_MM_data_30 (by decide) (fun h30 => ?_) (fun h30 => ?_)
      · rw [if_pos h30] at kk
        refine p_iconst (x := 0) e_MM_data_46 (by decide) ?_
        refine p_iret e_MM_data_47 (rv_i ?_)
        exact kk
      · rw [if_neg h30] at kk
        refine p_aload_n e_MM_data_33 rfl ?_
        refine x_gf 8 hR.2 e_MM_data_34 f_MM_20 rfl rfl ?_
        refine p_iconst (x := 2) e_MM_data_37 (by decide) ?_
        refine p_iload_n e_MM_data_38 rfl ?_
        refine p_imul e_MM_data_39 ?_
        refine p_iload_n e_MM_data_40 rfl ?_
        refine p_iadd e_MM_data_41 ?_
        refine p_top (at2) ?_
        refine r_ld 8 hR rfl (by decide) rfl e_MM_data_42 (rfl) (by show _ < 10; omega) (hR.pl rfl) ?_
        refine p_goto (tgt := 47) e_MM_data_43 (by decide) ?_
        refine p_iret e_MM_data_47 (rv_i ?_)
        exact kk
    · refine p_if_eq (tgt := 46) e_MM_data_17 (by decide) (fun _ => ?_) (fun hx => absurd (rfl) hx)
      exact Wp.lv2 (no (fun q => z q.2)) trivial
  · refine p_if_eq (tgt := 46) e_MM_data_10 (by decide) (fun _ => ?_) (fun hx => absurd (rfl) hx)
    exact Wp.lv2 (no (fun q => y q.1)) trivial
set_option maxHeartbeats 1000000 in
theorem sp_MM_knows {x b : Int32} (hI : LI N A z0 z0) (hR : RR N m Z σ0 nD σ A) (hP : ∀ σ', RR N m Z σ0 nD σ' A → P (some (.inl (vKn N A x b))) σ') : Ctr m_MM_knows 2 [.inr m, .inl x, .inl b] σ P := by
  have hN := hR.2.hN
  refine Ctr.of y_MM_knows (Nat.le_of_ble_eq_true rfl) ?_
  refine p_aload_n e_MM_knows_0 rfl ?_
  refine p_iconst (x := 0) e_MM_knows_1 (by decide) ?_
  refine r_p0 hR e_MM_knows_2 f_MM_123 (fun q h => by cases h; exact Or.inl rfl) (fun σ hR => ?_)
  refine p_aload_n e_MM_knows_5 rfl ?_
  refine p_iload_n e_MM_knows_6 rfl ?_
  have tm := hR.tg
  have no : ¬ (isNd N x ∧ isB b) → Wp m_MM_knows 2 20 [] [] σ (fun v σ' => RV m_MM_knows.2.2.2 v ∧ P v σ') := by
    intro hy
    refine p_bipush (x := (-2)) e_MM_knows_20 (by decide) ?_
    refine p_iret e_MM_knows_22 (rv_i ?_)
    have q := hP _ hR
    unfold vKn at q
    rw [sel_f hy] at q
    exact q
  refine p_inv (ci := 8) (d' := 1) [_] _ e_MM_knows_7 c_MM_190 k_MM_isNode i_MM_isNode s_MM_isNode rfl rfl (by assumption) rfl rfl (Nat.le_of_ble_eq_true rfl) (Nat.le_of_ble_eq_true rfl) ?_
  refine sp_MM_isNode hR (fun y1 y2 => ?_) (fun y => ?_)
  · refine p_if_eq (tgt := 20) e_MM_knows_10 (by decide) (fun hx => absurd hx ((by decide))) (fun _ => ?_)
    refine p_iload_n e_MM_knows_13 rfl ?_
    refine p_stat (d' := 1) [_] _ e_MM_knows_14 c_MM_149 k_MM_isBlock t_MM_isBlock rfl rfl (Nat.le_of_ble_eq_true rfl) (Nat.le_of_ble_eq_true rfl) ?_
    refine sp_MM_isBlock (fun z1 z2 => ?_) (fun z => ?_)
    · refine p_if_ne (tgt := 23) e_MM_knows_17 (by decide) (fun _ => ?_) (fun hx => absurd hx ((by decide)))
      obtain ⟨x', hx, rfl⟩ := ixle (by omega) y1 y2
      obtain ⟨b', hb, rfl⟩ := ix2 z1 z2
      obtain ⟨-, -, -, w9⟩ := hI.cwf hx hb
      have kk := hP _ hR
      unfold vKn at kk
      rw [sel_t ⟨isNd_n hx hN.2, isB_n hb⟩, nt_nI (by omega), nt_nI (by omega)] at kk
      unfold kwF at kk
      refine p_iconst (x := 2) e_MM_knows_23 (by decide) ?_
      refine p_iload_n e_MM_knows_24 rfl ?_
      refine p_imul e_MM_knows_25 ?_
      refine p_iload_n e_MM_knows_26 rfl ?_
      refine p_iadd e_MM_knows_27 ?_
      refine p_top (at2) ?_
      refine p_istore_n e_MM_knows_28 (by decide) ?_
      refine p_aload_n e_MM_knows_29 rfl ?_
      refine x_gf 9 hR.2 e_MM_knows_30 f_MM_23 rfl rfl ?_
      refine p_iload_n e_MM_knows_33 rfl ?_
      refine r_ld 9 hR rfl (by decide) rfl e_MM_knows_34 (rfl) (by show _ < 10; omega) (hR.pl rfl) ?_
      rcases w9 with w9 | ⟨c, hc, w9⟩
      · rw [if_pos w9] at kk
        refine p_if_ge (tgt := 42) e_MM_knows_35 (by decide) (fun hx => absurd hx ((by rw [w9]; decide))) (fun _ => ?_)
        refine p_iconst (x := (-1)) e_MM_knows_38 (by decide) ?_
        refine p_goto (tgt := 64) e_MM_knows_39 (by decide) ?_
        refine p_iret e_MM_knows_64 (rv_i ?_)
        exact kk
      · have n9 : sv A 9 (2 * x' + b') ≠ -1 := fun q => by rw [w9] at q; exact absurd (nI_pos (n := c) (by omega)) (by rw [q]; simp [m1_lt])
        rw [if_neg n9] at kk
        refine p_if_ge (tgt := 42) e_MM_knows_35 (by decide) (fun _ => ?_) (fun hx => absurd ((by rw [w9]; exact nI_pos' (by omega))) hx)
        refine p_aload_n e_MM_knows_42 rfl ?_
        refine x_gf 9 hR.2 e_MM_knows_43 f_MM_23 rfl rfl ?_
        refine p_iload_n e_MM_knows_46 rfl ?_
        refine r_ld 9 hR rfl (by decide) rfl e_MM_knows_47 (rfl) (by show _ < 10; omega) (hR.pl rfl) ?_
        refine p_aload_n e_MM_knows_48 rfl ?_
        refine x_gf 10 hR.2 e_MM_knows_49 f_MM_26 rfl rfl ?_
        refine p_iload_n e_MM_knows_52 rfl ?_
        refine r_lb 10 hR rfl (by decide) rfl e_MM_knows_53 (rfl) (by show _ < 10; omega) (ok_10 n9) ?_
        refine p_if_eq (tgt := 62) e_MM_knows_54 (by decide) (fun h54 => ?_) (fun h54 => ?_)
        · rw [if_pos h54] at kk
          refine p_iconst (x := 0) e_MM_knows_62 (by decide) ?_
          refine p_iadd e_MM_knows_63 ?_
          refine p_iret e_MM_knows_64 (rv_i ?_)
          exact kk
        · rw [if_neg h54] at kk
          refine p_bipush (x := 8) e_MM_knows_57 (by decide) ?_
          refine p_goto (tgt := 63) e_MM_knows_59 (by decide) ?_
          refine p_iadd e_MM_knows_63 ?_
          refine p_iret e_MM_knows_64 (rv_i ?_)
          exact kk
    · refine p_if_ne (tgt := 23) e_MM_knows_17 (by decide) (fun hx => absurd (rfl) hx) (fun _ => ?_)
      exact Wp.lv2 (no (fun q => z q.2)) trivial
  · refine p_if_eq (tgt := 20) e_MM_knows_10 (by decide) (fun _ => ?_) (fun hx => absurd (rfl) hx)
    exact Wp.lv2 (no (fun q => y q.1)) trivial
theorem sp_MM_row {b : Int32} (hR : RR N m Z σ0 nD σ A) (hP : ∀ σ', RR N m Z σ0 nD σ' A → P (some (.inl (vRo A b))) σ') : Ctr m_MM_row 2 [.inr m, .inl b] σ P := by
  refine Ctr.of y_MM_row (Nat.le_of_ble_eq_true rfl) ?_
  refine p_aload_n e_MM_row_0 rfl ?_
  refine p_iconst (x := 0) e_MM_row_1 (by decide) ?_
  refine r_p0 hR e_MM_row_2 f_MM_123 (fun q h => by cases h; exact Or.inl rfl) (fun σ hR => ?_)
  refine p_iload_n e_MM_row_5 rfl ?_
  have kk := hP _ hR
  unfold vRo at kk
  refine p_stat (d' := 1) [_] _ e_MM_row_6 c_MM_149 k_MM_isBlock t_MM_isBlock rfl rfl (Nat.le_of_ble_eq_true rfl) (Nat.le_of_ble_eq_true rfl) ?_
  refine sp_MM_isBlock (fun z1 z2 => ?_) (fun z => ?_)
  · refine p_if_eq (tgt := 21) e_MM_row_9 (by decide) (fun hx => absurd hx ((by decide))) (fun _ => ?_)
    obtain ⟨b', hb, rfl⟩ := ix2 z1 z2
    rw [sel_t (isB_n hb), nt_nI (by omega)] at kk
    refine p_aload_n e_MM_row_12 rfl ?_
    refine x_gf 25 hR.2 e_MM_row_13 f_MM_71 rfl rfl ?_
    refine p_iload_n e_MM_row_16 rfl ?_
    refine r_lS hR e_MM_row_17 (rfl) (by show _ < 2; omega) ?_
    refine p_goto (tgt := 22) e_MM_row_18 (by decide) ?_
    refine p_iret e_MM_row_22 (rv_i ?_)
    exact kk
  · refine p_if_eq (tgt := 21) e_MM_row_9 (by decide) (fun _ => ?_) (fun hx => absurd (rfl) hx)
    rw [sel_f (c := isB b) z] at kk
    refine p_iconst (x := (-1)) e_MM_row_21 (by decide) ?_
    refine p_iret e_MM_row_22 (rv_i ?_)
    exact kk
theorem sp_MM_state {c : Int32} (hR : RR N m Z σ0 nD σ A) (hP : ∀ σ', RR N m Z σ0 nD σ' A → P (some (.inl (vSt N A c))) σ') : Ctr m_MM_state 2 [.inr m, .inl c] σ P := by
  have hN := hR.2.hN
  refine Ctr.of y_MM_state (Nat.le_of_ble_eq_true rfl) ?_
  refine p_aload_n e_MM_state_0 rfl ?_
  refine p_iconst (x := 0) e_MM_state_1 (by decide) ?_
  refine r_p0 hR e_MM_state_2 f_MM_123 (fun q h => by cases h; exact Or.inl rfl) (fun σ hR => ?_)
  refine p_aload_n e_MM_state_5 rfl ?_
  refine p_iload_n e_MM_state_6 rfl ?_
  have tm := hR.tg
  have kk := hP _ hR
  unfold vSt at kk
  refine p_inv (ci := 8) (d' := 1) [_] _ e_MM_state_7 c_MM_145 k_MM_isCore i_MM_isCore s_MM_isCore rfl rfl (by assumption) rfl rfl (Nat.le_of_ble_eq_true rfl) (Nat.le_of_ble_eq_true rfl) ?_
  refine sp_MM_isCore hR (fun y1 y2 => ?_) (fun y => ?_)
  · refine p_if_ne (tgt := 17) e_MM_state_10 (by decide) (fun _ => ?_) (fun hx => absurd hx ((by decide)))
    obtain ⟨c', hc, rfl⟩ := ix (by omega) y1 y2
    rw [sel_t (isC_n hc hN.2), nt_nI (by omega)] at kk
    unfold stF at kk
    refine p_aload_n e_MM_state_17 rfl ?_
    refine x_gf 12 hR.2 e_MM_state_18 f_MM_32 rfl rfl ?_
    refine p_iload_n e_MM_state_21 rfl ?_
    refine r_lb 12 hR rfl (by decide) rfl e_MM_state_22 (rfl) (by show _ < 4; omega) (ok_12) ?_
    refine p_if_ne (tgt := 30) e_MM_state_23 (by decide) (fun h23 => ?_) (fun h23 => ?_)
    · rw [if_neg h23] at kk
      refine p_iconst (x := 1) e_MM_state_30 (by decide) ?_
      refine p_aload_n e_MM_state_31 rfl ?_
      refine x_gf 18 hR.2 e_MM_state_32 f_MM_50 rfl rfl ?_
      refine p_iload_n e_MM_state_35 rfl ?_
      refine r_ld 18 hR rfl (by decide) rfl e_MM_state_36 (rfl) (by show _ < 4; omega) (hR.pl rfl) ?_
      refine p_iadd e_MM_state_37 ?_
      refine p_aload_n e_MM_state_38 rfl ?_
      refine x_gf 14 hR.2 e_MM_state_39 f_MM_38 rfl rfl ?_
      refine p_iload_n e_MM_state_42 rfl ?_
      refine r_lb 14 hR rfl (by decide) rfl e_MM_state_43 (rfl) (by show _ < 4; omega) (RR.o14 id h23) ?_
      refine p_if_eq (tgt := 52) e_MM_state_44 (by decide) (fun h44 => ?_) (fun h44 => ?_)
      · rw [if_pos h44] at kk
        refine p_iconst (x := 0) e_MM_state_52 (by decide) ?_
        refine p_iadd e_MM_state_53 ?_
        refine p_iret e_MM_state_54 (rv_i ?_)
        exact kk
      · rw [if_neg h44] at kk
        refine p_bipush (x := 8) e_MM_state_47 (by decide) ?_
        refine p_goto (tgt := 53) e_MM_state_49 (by decide) ?_
        refine p_iadd e_MM_state_53 ?_
        refine p_iret e_MM_state_54 (rv_i ?_)
        exact kk
    · rw [if_pos h23] at kk
      refine p_iconst (x := 0) e_MM_state_26 (by decide) ?_
      refine p_goto (tgt := 54) e_MM_state_27 (by decide) ?_
      refine p_iret e_MM_state_54 (rv_i ?_)
      exact kk
  · refine p_if_ne (tgt := 17) e_MM_state_10 (by decide) (fun hx => absurd (rfl) hx) (fun _ => ?_)
    rw [sel_f (c := isC N c) y] at kk
    refine p_iconst (x := (-1)) e_MM_state_13 (by decide) ?_
    refine p_goto (tgt := 54) e_MM_state_14 (by decide) ?_
    refine p_iret e_MM_state_54 (rv_i ?_)
    exact kk
theorem sp_MM_ended {c : Int32} (hR : RR N m Z σ0 nD σ A) (hP : ∀ σ', RR N m Z σ0 nD σ' A → P (some (.inl (vEn N A c))) σ') : Ctr m_MM_ended 2 [.inr m, .inl c] σ P := by
  have hN := hR.2.hN
  refine Ctr.of y_MM_ended (Nat.le_of_ble_eq_true rfl) ?_
  refine p_aload_n e_MM_ended_0 rfl ?_
  refine p_iconst (x := 0) e_MM_ended_1 (by decide) ?_
  refine r_p0 hR e_MM_ended_2 f_MM_123 (fun q h => by cases h; exact Or.inl rfl) (fun σ hR => ?_)
  refine p_aload_n e_MM_ended_5 rfl ?_
  refine p_iload_n e_MM_ended_6 rfl ?_
  have tm := hR.tg
  have kk := hP _ hR
  unfold vEn at kk
  refine p_inv (ci := 8) (d' := 1) [_] _ e_MM_ended_7 c_MM_145 k_MM_isCore i_MM_isCore s_MM_isCore rfl rfl (by assumption) rfl rfl (Nat.le_of_ble_eq_true rfl) (Nat.le_of_ble_eq_true rfl) ?_
  refine sp_MM_isCore hR (fun y1 y2 => ?_) (fun y => ?_)
  · refine p_if_eq (tgt := 22) e_MM_ended_10 (by decide) (fun hx => absurd hx ((by decide))) (fun _ => ?_)
    obtain ⟨c', hc, rfl⟩ := ix (by omega) y1 y2
    rw [sel_t (isC_n hc hN.2), nt_nI (by omega)] at kk
    refine p_aload_n e_MM_ended_13 rfl ?_
    refine x_gf 20 hR.2 e_MM_ended_14 f_MM_56 rfl rfl ?_
    refine p_iload_n e_MM_ended_17 rfl ?_
    refine r_ld 20 hR rfl (by decide) rfl e_MM_ended_18 (rfl) (by show _ < 4; omega) (hR.pl rfl) ?_
    refine p_goto (tgt := 23) e_MM_ended_19 (by decide) ?_
    refine p_iret e_MM_ended_23 (rv_i ?_)
    exact kk
  · refine p_if_eq (tgt := 22) e_MM_ended_10 (by decide) (fun _ => ?_) (fun hx => absurd (rfl) hx)
    rw [sel_f (c := isC N c) y] at kk
    refine p_iconst (x := (-1)) e_MM_ended_22 (by decide) ?_
    refine p_iret e_MM_ended_23 (rv_i ?_)
    exact kk
theorem sp_MM_result {c : Int32} (hR : RR N m Z σ0 nD σ A) (hP : ∀ σ', RR N m Z σ0 nD σ' A → P (some (.inl (vRe N A c))) σ') : Ctr m_MM_result 2 [.inr m, .inl c] σ P := by
  have hN := hR.2.hN
  refine Ctr.of y_MM_result (Nat.le_of_ble_eq_true rfl) ?_
  refine p_aload_n e_MM_result_0 rfl ?_
  refine p_iconst (x := 0) e_MM_result_1 (by decide) ?_
  refine r_p0 hR e_MM_result_2 f_MM_123 (fun q h => by cases h; exact Or.inl rfl) (fun σ hR => ?_)
  refine p_aload_n e_MM_result_5 rfl ?_
  refine p_iload_n e_MM_result_6 rfl ?_
  have tm := hR.tg
  have kk := hP _ hR
  unfold vRe at kk
  refine p_inv (ci := 8) (d' := 1) [_] _ e_MM_result_7 c_MM_145 k_MM_isCore i_MM_isCore s_MM_isCore rfl rfl (by assumption) rfl rfl (Nat.le_of_ble_eq_true rfl) (Nat.le_of_ble_eq_true rfl) ?_
  refine sp_MM_isCore hR (fun y1 y2 => ?_) (fun y => ?_)
  · refine p_if_eq (tgt := 22) e_MM_result_10 (by decide) (fun hx => absurd hx ((by decide))) (fun _ => ?_)
    obtain ⟨c', hc, rfl⟩ := ix (by omega) y1 y2
    rw [sel_t (isC_n hc hN.2), nt_nI (by omega)] at kk
    refine p_aload_n e_MM_result_13 rfl ?_
    refine x_gf 21 hR.2 e_MM_result_14 f_MM_59 rfl rfl ?_
    refine p_iload_n e_MM_result_17 rfl ?_
    refine r_ld 21 hR rfl (by decide) rfl e_MM_result_18 (rfl) (by show _ < 4; omega) (hR.pl rfl) ?_
    refine p_goto (tgt := 23) e_MM_result_19 (by decide) ?_
    refine p_iret e_MM_result_23 (rv_i ?_)
    exact kk
  · refine p_if_eq (tgt := 22) e_MM_result_10 (by decide) (fun _ => ?_) (fun hx => absurd (rfl) hx)
    rw [sel_f (c := isC N c) y] at kk
    refine p_iconst (x := 0) e_MM_result_22 (by decide) ?_
    refine p_iret e_MM_result_23 (rv_i ?_)
    exact kk
set_option maxHeartbeats 2000000 in
theorem sp_MM_memory {b : Int32} (hI : LI N A z0 z0) (hR : RR N m Z σ0 nD σ A) (hP : ∀ σ', RR N m Z σ0 nD σ' A → P (some (.inl (vMe N A b))) σ') : Ctr m_MM_memory 2 [.inr m, .inl b] σ P := by
  have hN := hR.2.hN
  have hb66 := hI.bound
  refine Ctr.of y_MM_memory (Nat.le_of_ble_eq_true rfl) ?_
  refine p_aload_n e_MM_memory_0 rfl ?_
  refine p_iconst (x := 0) e_MM_memory_1 (by decide) ?_
  refine r_p0 hR e_MM_memory_2 f_MM_123 (fun q h => by cases h; exact Or.inl rfl) (fun σ hR => ?_)
  refine p_iconst (x := 0) e_MM_memory_5 (by decide) ?_
  refine p_istore_n e_MM_memory_6 (by decide) ?_
  refine p_iconst (x := 0) e_MM_memory_7 (by decide) ?_
  refine p_istore_n e_MM_memory_8 (by decide) ?_
  have kk := hP _ hR
  by_cases hB : isB b
  · obtain ⟨b', hb, rfl⟩ := ix2 hB.1 hB.2
    have loop2 : ∀ k i r, i + k = ln A → ((∃ x, x ≤ N ∧ sv A 6 (2 * x + b') ≠ 0 ∧ r = sv A 8 (2 * x + b')) ∨ ((∀ x, x ≤ N → sv A 6 (2 * x + b') = 0) ∧ ((∀ j, j < i → ¬ (sv A 34 j ≠ 0 ∧ sv A 32 j = nI b')) ∨ ∃ j, j < i ∧ sv A 34 j ≠ 0 ∧ sv A 32 j = nI b' ∧ r = sv A 36 j))) → Wp m_MM_memory 2 60 [(2, .inl r), (3, .inl (nI i)), (0, .inr m), (1, .inl (nI b'))] [] σ (fun v σ' => RV m_MM_memory.2.2.2 v ∧ P v σ') := by
      intro k
      induction k with
      | zero =>
        intro i r hi hv
        refine p_iload_n e_MM_memory_60 rfl ?_
        refine p_aload_n e_MM_memory_61 rfl ?_
        refine x_gL hR.2 e_MM_memory_62 f_MM_126 rfl ?_
        refine p_icmp_ge (tgt := 121) e_MM_memory_65 (by decide) (fun _ => ?_) (fun hx => absurd (nI_le (by omega) (by omega)) hx)
        refine p_iload_n e_MM_memory_121 rfl ?_
        refine p_iret e_MM_memory_122 (rv_i ?_)
        have : MV N A (nI b') r := by
          refine ⟨b', hb, rfl, ?_⟩
          rcases hv with hv | ⟨h1, h2 | ⟨j, j1, j2, j3, j4⟩⟩
          · exact Or.inl hv
          · obtain ⟨j, j1, j2, j3⟩ := hI.own4 hb h1
            exact absurd ⟨j2, j3⟩ (h2 j (by omega))
          · exact Or.inr ⟨h1, j, by omega, j2, j3, j4⟩
        rw [hI.me this] at kk
        exact kk
      | succ k ih =>
        intro i r hi hv
        have hil : i < ln A := by omega
        refine p_iload_n e_MM_memory_60 rfl ?_
        refine p_aload_n e_MM_memory_61 rfl ?_
        refine x_gL hR.2 e_MM_memory_62 f_MM_126 rfl ?_
        refine p_icmp_ge (tgt := 121) e_MM_memory_65 (by decide) (fun hx => absurd hx (nI_ge hil (by omega))) (fun _ => ?_)
        have nxt : ∀ r', ((∃ x, x ≤ N ∧ sv A 6 (2 * x + b') ≠ 0 ∧ r' = sv A 8 (2 * x + b')) ∨ ((∀ x, x ≤ N → sv A 6 (2 * x + b') = 0) ∧ ((∀ j, j < i + 1 → ¬ (sv A 34 j ≠ 0 ∧ sv A 32 j = nI b')) ∨ ∃ j, j < i + 1 ∧ sv A 34 j ≠ 0 ∧ sv A 32 j = nI b' ∧ r' = sv A 36 j))) → Wp m_MM_memory 2 114 [(2, .inl r), (3, .inl (nI i)), (0, .inr m), (1, .inl (nI b'))] [.inl r'] σ (fun v σ' => RV m_MM_memory.2.2.2 v ∧ P v σ') := by
          intro r' hr'
          refine p_istore_n e_MM_memory_114 (by decide) ?_
          refine p_iinc e_MM_memory_115 rfl rfl (by decide) ?_
          refine p_goto (tgt := 60) e_MM_memory_118 (by decide) ?_
          exact Wp.lv2 (ih (i + 1) r' (by omega) hr') ⟨rfl, congrArg (fun z => some (Sum.inl z)) (nI_1 i), rfl, rfl, trivial⟩
        have same : ¬ (sv A 34 i ≠ 0 ∧ sv A 32 i = nI b') → Wp m_MM_memory 2 113 [(2, .inl r), (3, .inl (nI i)), (0, .inr m), (1, .inl (nI b'))] [] σ (fun v σ' => RV m_MM_memory.2.2.2 v ∧ P v σ') := by
          intro hy
          refine p_iload_n e_MM_memory_113 rfl ?_
          refine nxt r ?_
          rcases hv with hv | ⟨h1, h2 | ⟨j, j1, j2⟩⟩
          · exact Or.inl hv
          · refine Or.inr ⟨h1, Or.inl (fun j hj => ?_)⟩
            by_cases e : j = i
            · subst e; exact hy
            · exact h2 j (by omega)
          · exact Or.inr ⟨h1, Or.inr ⟨j, by omega, j2⟩⟩
        refine p_iload_n e_MM_memory_68 rfl ?_
        refine p_stat (d' := 1) [_] _ e_MM_memory_69 c_MM_149 k_MM_isBlock t_MM_isBlock rfl rfl (Nat.le_of_ble_eq_true rfl) (Nat.le_of_ble_eq_true rfl) ?_
        refine sp_MM_isBlock (fun _ _ => ?_) (fun z => absurd hB z)
        refine p_if_eq (tgt := 121) e_MM_memory_72 (by decide) (fun hx => absurd hx ((by decide))) (fun _ => ?_)
        refine p_aload_n e_MM_memory_75 rfl ?_
        refine x_gf 29 hR.2 e_MM_memory_76 f_MM_80 rfl rfl ?_
        refine p_iload_n e_MM_memory_79 rfl ?_
        refine r_ld 29 hR rfl (by decide) rfl e_MM_memory_80 (rfl) (by show _ < 120; omega) (hR.ll (by decide) (by omega)) ?_
        refine p_iconst (x := 3) e_MM_memory_81 (by decide) ?_
        refine p_icmp_ne (tgt := 113) e_MM_memory_82 (by decide) (fun h82 => ?_) (fun h82 => ?_)
        · exact Wp.lv2 (same (fun q => h82 (hI.owl hil q.1 q.2).1)) ⟨rfl, rfl, rfl, rfl, trivial⟩
        refine p_aload_n e_MM_memory_85 rfl ?_
        refine x_gf 32 hR.2 e_MM_memory_86 f_MM_89 rfl rfl ?_
        refine p_iload_n e_MM_memory_89 rfl ?_
        refine r_ld 32 hR rfl (by decide) rfl e_MM_memory_90 (rfl) (by show _ < 120; omega) (hR.ll (by decide) (by omega)) ?_
        refine p_iload_n e_MM_memory_91 rfl ?_
        refine p_icmp_ne (tgt := 113) e_MM_memory_92 (by decide) (fun h92 => ?_) (fun h92 => ?_)
        · exact Wp.lv2 (same (fun q => h92 q.2)) ⟨rfl, rfl, rfl, rfl, trivial⟩
        refine p_aload_n e_MM_memory_95 rfl ?_
        refine x_gf 34 hR.2 e_MM_memory_96 f_MM_95 rfl rfl ?_
        refine p_iload_n e_MM_memory_99 rfl ?_
        refine r_lb 34 hR rfl (by decide) rfl e_MM_memory_100 (rfl) (by show _ < 120; omega) (hR.ll (by decide) (by omega)) ?_
        refine p_if_eq (tgt := 113) e_MM_memory_101 (by decide) (fun h101 => ?_) (fun h101 => ?_)
        · exact Wp.lv2 (same (fun q => q.1 h101)) ⟨rfl, rfl, rfl, rfl, trivial⟩
        · refine p_aload_n e_MM_memory_104 rfl ?_
          refine x_gf 36 hR.2 e_MM_memory_105 f_MM_101 rfl rfl ?_
          refine p_iload_n e_MM_memory_108 rfl ?_
          refine r_ld 36 hR rfl (by decide) rfl e_MM_memory_109 (rfl) (by show _ < 120; omega) (hR.ll (by decide) (by omega)) ?_
          refine p_goto (tgt := 114) e_MM_memory_110 (by decide) ?_
          refine nxt _ (Or.inr ⟨fun x hx => ?_, Or.inr ⟨i, by omega, h101, h92, rfl⟩⟩)
          by_cases q : sv A 6 (2 * x + b') = 0
          · exact q
          · exact (hI.own2 hb hx hil q h101 h92).elim
    have loop1 : ∀ k x r, x + k = N + 1 → ((∃ y, y < x ∧ sv A 6 (2 * y + b') ≠ 0 ∧ r = sv A 8 (2 * y + b')) ∨ (∀ y, y < x → sv A 6 (2 * y + b') = 0)) → Wp m_MM_memory 2 9 [(3, .inl (nI x)), (2, .inl r), (0, .inr m), (1, .inl (nI b'))] [] σ (fun v σ' => RV m_MM_memory.2.2.2 v ∧ P v σ') := by
      intro k
      induction k with
      | zero =>
        intro x r hx hv
        refine p_iload_n e_MM_memory_9 rfl ?_
        refine p_aload_n e_MM_memory_10 rfl ?_
        refine x_gN hR.2 e_MM_memory_11 f_MM_113 rfl ?_
        refine p_icmp_gt (tgt := 58) e_MM_memory_14 (by decide) (fun _ => ?_) (fun hx => absurd (nI_lt (by omega) (by omega)) hx)
        refine p_iconst (x := 0) e_MM_memory_58 (by decide) ?_
        refine p_istore_n e_MM_memory_59 (by decide) ?_
        refine Wp.lv2 (loop2 (ln A) 0 r (by omega) ?_) ⟨rfl, rfl, rfl, rfl, trivial⟩
        rcases hv with ⟨y, y1, y2⟩ | hv
        · exact Or.inl ⟨y, by omega, y2⟩
        · exact Or.inr ⟨fun y hy => hv y (by omega), Or.inl (fun j hj => by omega)⟩
      | succ k ih =>
        intro x r hx hv
        refine p_iload_n e_MM_memory_9 rfl ?_
        refine p_aload_n e_MM_memory_10 rfl ?_
        refine x_gN hR.2 e_MM_memory_11 f_MM_113 rfl ?_
        refine p_icmp_gt (tgt := 58) e_MM_memory_14 (by decide) (fun hx => absurd hx (nI_nlt (by omega) (by omega))) (fun _ => ?_)
        refine p_iload_n e_MM_memory_17 rfl ?_
        refine p_stat (d' := 1) [_] _ e_MM_memory_18 c_MM_149 k_MM_isBlock t_MM_isBlock rfl rfl (Nat.le_of_ble_eq_true rfl) (Nat.le_of_ble_eq_true rfl) ?_
        refine sp_MM_isBlock (fun _ _ => ?_) (fun z => absurd hB z)
        refine p_if_eq (tgt := 58) e_MM_memory_21 (by decide) (fun hx => absurd hx ((by decide))) (fun _ => ?_)
        refine p_aload_n e_MM_memory_24 rfl ?_
        refine x_gf 6 hR.2 e_MM_memory_25 f_MM_13 rfl rfl ?_
        refine p_iconst (x := 2) e_MM_memory_28 (by decide) ?_
        refine p_iload_n e_MM_memory_29 rfl ?_
        refine p_imul e_MM_memory_30 ?_
        refine p_iload_n e_MM_memory_31 rfl ?_
        refine p_iadd e_MM_memory_32 ?_
        refine p_top (at2) ?_
        refine r_lb 6 hR rfl (by decide) rfl e_MM_memory_33 (rfl) (by show _ < 10; omega) (hR.pl rfl) ?_
        refine p_if_eq (tgt := 50) e_MM_memory_34 (by decide) (fun h34 => ?_) (fun h34 => ?_)
        · refine p_iload_n e_MM_memory_50 rfl ?_
          refine p_istore_n e_MM_memory_51 (by decide) ?_
          refine p_iinc e_MM_memory_52 rfl rfl (by decide) ?_
          refine p_goto (tgt := 9) e_MM_memory_55 (by decide) ?_
          refine Wp.lv2 (ih (x + 1) r (by omega) ?_) ⟨congrArg (fun z => some (Sum.inl z)) (nI_1 x), rfl, rfl, rfl, trivial⟩
          rcases hv with ⟨y, y1, y2⟩ | hv
          · exact Or.inl ⟨y, by omega, y2⟩
          · refine Or.inr (fun y hy => ?_)
            by_cases e : y = x
            · subst e; exact h34
            · exact hv y (by omega)
        · refine p_aload_n e_MM_memory_37 rfl ?_
          refine x_gf 8 hR.2 e_MM_memory_38 f_MM_20 rfl rfl ?_
          refine p_iconst (x := 2) e_MM_memory_41 (by decide) ?_
          refine p_iload_n e_MM_memory_42 rfl ?_
          refine p_imul e_MM_memory_43 ?_
          refine p_iload_n e_MM_memory_44 rfl ?_
          refine p_iadd e_MM_memory_45 ?_
          refine p_top (at2) ?_
          refine r_ld 8 hR rfl (by decide) rfl e_MM_memory_46 (rfl) (by show _ < 10; omega) (hR.pl rfl) ?_
          refine p_goto (tgt := 51) e_MM_memory_47 (by decide) ?_
          refine p_istore_n e_MM_memory_51 (by decide) ?_
          refine p_iinc e_MM_memory_52 rfl rfl (by decide) ?_
          refine p_goto (tgt := 9) e_MM_memory_55 (by decide) ?_
          exact Wp.lv2 (ih (x + 1) _ (by omega) (Or.inl ⟨x, by omega, h34, rfl⟩)) ⟨congrArg (fun z => some (Sum.inl z)) (nI_1 x), rfl, rfl, rfl, trivial⟩
    exact Wp.lv2 (loop1 (N + 1) 0 0 (by omega) (Or.inr (fun y hy => by omega))) ⟨rfl, rfl, rfl, rfl, trivial⟩
  · rw [me_no hB] at kk
    refine p_iload_n e_MM_memory_9 rfl ?_
    refine p_aload_n e_MM_memory_10 rfl ?_
    refine x_gN hR.2 e_MM_memory_11 f_MM_113 rfl ?_
    refine p_icmp_gt (tgt := 58) e_MM_memory_14 (by decide) (fun hx => absurd hx (nI_nlt (Nat.zero_le _) (by omega))) (fun _ => ?_)
    refine p_iload_n e_MM_memory_17 rfl ?_
    refine p_stat (d' := 1) [_] _ e_MM_memory_18 c_MM_149 k_MM_isBlock t_MM_isBlock rfl rfl (Nat.le_of_ble_eq_true rfl) (Nat.le_of_ble_eq_true rfl) ?_
    refine sp_MM_isBlock (fun z1 z2 => absurd ⟨z1, z2⟩ hB) (fun _ => ?_)
    refine p_if_eq (tgt := 58) e_MM_memory_21 (by decide) (fun _ => ?_) (fun hx => absurd (rfl) hx)
    refine p_iconst (x := 0) e_MM_memory_58 (by decide) ?_
    refine p_istore_n e_MM_memory_59 (by decide) ?_
    refine p_iload_n e_MM_memory_60 rfl ?_
    refine p_aload_n e_MM_memory_61 rfl ?_
    refine x_gL hR.2 e_MM_memory_62 f_MM_126 rfl ?_
    refine p_icmp_ge (tgt := 121) e_MM_memory_65 (by decide) (fun h65 => ?_) (fun h65 => ?_)
    · refine p_iload_n e_MM_memory_121 rfl ?_
      refine p_iret e_MM_memory_122 (rv_i ?_)
      exact kk
    · refine p_iload_n e_MM_memory_68 rfl ?_
      refine p_stat (d' := 1) [_] _ e_MM_memory_69 c_MM_149 k_MM_isBlock t_MM_isBlock rfl rfl (Nat.le_of_ble_eq_true rfl) (Nat.le_of_ble_eq_true rfl) ?_
      refine sp_MM_isBlock (fun z1 z2 => absurd ⟨z1, z2⟩ hB) (fun _ => ?_)
      refine p_if_eq (tgt := 121) e_MM_memory_72 (by decide) (fun _ => ?_) (fun hx => absurd (rfl) hx)
      refine p_iload_n e_MM_memory_121 rfl ?_
      refine p_iret e_MM_memory_122 (rv_i ?_)
      exact kk
end Tell
