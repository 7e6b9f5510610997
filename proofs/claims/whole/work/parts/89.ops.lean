/-! what the calls that change something answer and leave, as functions of the state -/
noncomputable def sel2 (c : Prop) (a b : Int32 × AS) : Int32 × AS := @ite _ c (Classical.propDecidable c) a b
theorem sel2_t {c : Prop} {a b : Int32 × AS} (h : c) : sel2 c a b = a := by unfold sel2; rw [if_pos h]
theorem sel2_f {c : Prop} {a b : Int32 × AS} (h : ¬ c) : sel2 c a b = b := by unfold sel2; rw [if_neg h]
noncomputable def oIs (N : Nat) (A : AS) (c w b v : Int32) : Int32 × AS := sel2 (isC N c ∧ isB b) (sel2 (sv A 12 (nt c) = 0) (sel (ceA N (bgA A (nt c) w b v) (nt c) (nt b)) 1 0, isA N A (nt c) (nt b) w v) (-2, A)) (-1, A)
noncomputable def oTi (N : Nat) (A : AS) (n : Int32) : Int32 × AS := sel2 (1 ≤ n ∧ n ≤ 50) (sv (tiA N A (nt n)) 4 0, tiA N A (nt n)) (-1, A)
noncomputable def oDl (N : Nat) (A : AS) (i : Int32) : Int32 × AS := sel2 (0 ≤ i ∧ i < nI (ln A)) (sv A 29 (nt i), dlA N A (nt i)) (-1, A)
noncomputable def oEv (N : Nat) (A : AS) (c b : Int32) : Int32 × AS := sel2 (isC N c ∧ isB b) (sel2 (sv A 5 (2 * nt c + nt b) = 0 ∨ (sv A 12 (nt c) ≠ 0 ∧ sv A 15 (nt c) = b)) (0, A) (1, gvA A (nt c) (nt b) (nI N) (sv A 5 (2 * nt c + nt b)) (sv A 6 (2 * nt c + nt b)) (sv A 6 (2 * nt c + nt b)))) (0, A)
section Ops
variable {N T m mm : Nat} {Y Z : Nat → Nat} {bd : Nat × Nat × Nat} {σ σ0 : PS} {A : AS} {f : Nat → Nat} {g : Nat → Nat} {rf : Nat → Nat → Nat} {P : Option PV → PS → Prop} {c w b v i n x : Int32}
theorem oIs_1 {c' b' : Nat} (hc : c' < N) (hN : N ≤ 4) (hb : b' < 2) (h : sv A 12 c' = 0) : oIs N A (nI c') w (nI b') v = (sel (ceA N (bgA A c' w (nI b') v) c' b') 1 0, isA N A c' b' w v) := by
  unfold oIs
  rw [sel2_t ⟨isC_n hc hN, isB_n hb⟩, nt_nI (by omega), nt_nI (by omega), sel2_t h]
theorem oIs_2 {c' : Nat} (hc : c' < N) (hN : N ≤ 4) (hb : isB b) (h : sv A 12 c' ≠ 0) : oIs N A (nI c') w b v = (-2, A) := by
  unfold oIs
  rw [sel2_t ⟨isC_n hc hN, hb⟩, nt_nI (by omega), sel2_f h]
theorem oIs_0 (h : ¬ (isC N c ∧ isB b)) : oIs N A c w b v = (-1, A) := sel2_f h
theorem oTi_1 {t : Nat} (h1 : 1 ≤ t) (h2 : t ≤ 50) : oTi N A (nI t) = (sv (tiA N A t) 4 0, tiA N A t) := by
  unfold oTi
  rw [sel2_t ⟨show nI 1 ≤ nI t from nI_le h1 (by omega), show nI t ≤ nI 50 from nI_le h2 (by omega)⟩, nt_nI (by omega)]
theorem oDl_1 {j : Nat} (hl : ln A ≤ 100) (h : j < ln A) : oDl N A (nI j) = (sv A 29 j, dlA N A j) := by
  unfold oDl
  rw [sel2_t ⟨nI_pos' (by omega), (nI_ltI (by omega) (by omega)).mpr h⟩, nt_nI (by omega)]
theorem oEv_1 {c' b' : Nat} (hc : c' < N) (hN : N ≤ 4) (hb : b' < 2) (h : ¬ (sv A 5 (2 * c' + b') = 0 ∨ (sv A 12 c' ≠ 0 ∧ sv A 15 c' = nI b'))) : oEv N A (nI c') (nI b') = (1, gvA A c' b' (nI N) (sv A 5 (2 * c' + b')) (sv A 6 (2 * c' + b')) (sv A 6 (2 * c' + b'))) := by
  unfold oEv
  rw [sel2_t ⟨isC_n hc hN, isB_n hb⟩, nt_nI (by omega), nt_nI (by omega), sel2_f h]
theorem oEv_2 {c' b' : Nat} (hc : c' < N) (hN : N ≤ 4) (hb : b' < 2) (h : sv A 5 (2 * c' + b') = 0 ∨ (sv A 12 c' ≠ 0 ∧ sv A 15 c' = nI b')) : oEv N A (nI c') (nI b') = (0, A) := by
  unfold oEv
  rw [sel2_t ⟨isC_n hc hN, isB_n hb⟩, nt_nI (by omega), nt_nI (by omega), sel2_t h]
/-! what always holds is kept -/
theorem QI.up (h : QI N T A) : QI N (T + 1) A := by
  obtain ⟨h1, h2, ⟨h3, h4⟩, h5⟩ := h
  refine ⟨h1, h2, ⟨fun c hc => ?_, h4⟩, h5⟩
  obtain ⟨a1, a2, a3, a4⟩ := h3 c hc
  exact ⟨a1, a2, by omega, a4⟩
theorem qi_is (hT : T < 100000) (hw : bz w) (h : QI N T A) : QI N (T + 1) (oIs N A c w b v).2 := by
  have hN := h.1.1
  by_cases q : isC N c ∧ isB b
  · obtain ⟨c', hc, rfl⟩ := ix (by omega) q.1.1 q.1.2
    obtain ⟨b', hb, rfl⟩ := ix2 q.2.1 q.2.2
    by_cases z : sv A 12 c' = 0
    · rw [oIs_1 hc hN.2 hb z]; exact h.is hT hc hb hw
    · rw [oIs_2 hc hN.2 (isB_n hb) z]; exact h.up
  · rw [oIs_0 q]; exact h.up
theorem qi_ti (h : QI N T A) : QI N (T + 1) (oTi N A n).2 := by
  by_cases q : 1 ≤ n ∧ n ≤ 50
  · unfold oTi
    rw [sel2_t q]; exact (h.ti _).up
  · unfold oTi
    rw [sel2_f q]; exact h.up
theorem qi_dl (h : QI N T A) : QI N (T + 1) (oDl N A i).2 := by
  have hb := h.1.bound
  by_cases q : 0 ≤ i ∧ i < nI (ln A)
  · obtain ⟨j, hj, rfl⟩ := ix (by omega) q.1 q.2
    rw [oDl_1 (by omega) hj]; exact (h.dlA hj).up
  · unfold oDl
    rw [sel2_f q]; exact h.up
theorem qi_ev (h : QI N T A) : QI N (T + 1) (oEv N A c b).2 := by
  have hN := h.1.1
  by_cases q : isC N c ∧ isB b
  · obtain ⟨c', hc, rfl⟩ := ix (by omega) q.1.1 q.1.2
    obtain ⟨b', hb, rfl⟩ := ix2 q.2.1 q.2.2
    by_cases z : sv A 5 (2 * c' + b') = 0 ∨ (sv A 12 c' ≠ 0 ∧ sv A 15 c' = nI b')
    · rw [oEv_2 hc hN.2 hb z]; exact h.up
    · rw [oEv_1 hc hN.2 hb z]; exact (h.ev hc hb).up
  · unfold oEv
    rw [sel2_f q]; exact h.up
/-! the class -/
theorem tm_issue (hw : bz w) (hI : QI N T A) (h : CRx N Y bd [] σ A f mm g rf) (hP : ∀ σ' f' m' g' rf' q, q ≤ 1 → CRx N Y (bd.1, bd.2.1, bd.2.2 + q) [] σ' (oIs N A c w b v).2 f' m' g' rf' → HK (Y 4) σ σ' [] → P (some (.inl (oIs N A c w b v).1)) σ') : Ctr m_TM_issue 10 [.inr (Y 0), .inl c, .inl w, .inl b, .inl v] σ P := by
  have hN := h.1.1
  refine sp_TM_issue hw hI.iv (Nat.zero_le _) h (fun c' b' σ' f' m' g' hc hb e1 e2 h12 hc1 hk => ?_) (fun c' hc e1 hB h12 => ?_) (fun q => ?_)
  · subst e1 e2
    rw [oIs_1 hc hN.2 hb h12] at hP
    have kk := hP σ' f' m' g' rf 0 (Nat.zero_le _) hc1 hk
    refine ⟨fun y => ?_, fun y => ?_⟩
    · rw [sel_t y] at kk; exact kk
    · rw [sel_f y] at kk; exact kk
  · subst e1
    rw [oIs_2 hc hN.2 hB h12] at hP
    exact hP σ f mm g rf 0 (Nat.zero_le _) h HK.rf
  · rw [oIs_0 q] at hP
    exact hP σ f mm g rf 0 (Nat.zero_le _) h HK.rf
theorem tm_tick (hI : QI N T A) (h : CRx N Y bd [] σ A f mm g rf) (hP : ∀ σ' f' m' g' rf' q, q ≤ 1 → CRx N Y (bd.1, bd.2.1, bd.2.2 + q) [] σ' (oTi N A n).2 f' m' g' rf' → HK (Y 4) σ σ' [] → P (some (.inl (oTi N A n).1)) σ') : Ctr m_TM_tick 11 [.inr (Y 0), .inl n] σ P := by
  refine sp_TM_tick hI (Nat.zero_le _) h (fun t σ' f' m' g' h1 h2 e hc1 hk => ?_) (fun q => ?_)
  · subst e
    rw [oTi_1 h1 h2] at hP
    exact hP σ' f' m' g' rf 0 (Nat.zero_le _) hc1 hk
  · rw [show oTi N A n = (-1, A) from sel2_f q] at hP
    exact hP σ f mm g rf 0 (Nat.zero_le _) h HK.rf
theorem tm_deliver (hI : QI N T A) (h : CRx N Y bd [] σ A f mm g rf) (hP : ∀ σ' f' m' g' rf' q, q ≤ 1 → CRx N Y (bd.1, bd.2.1, bd.2.2 + q) [] σ' (oDl N A i).2 f' m' g' rf' → HK (Y 4) σ σ' [] → P (some (.inl (oDl N A i).1)) σ') : Ctr m_TM_deliver 14 [.inr (Y 0), .inl i] σ P := by
  have hb := hI.1.bound
  refine sp_TM_deliver hI h (fun j σ' f' m' g' rf' q hj e hq hc1 hk => ?_) (fun q => ?_)
  · subst e
    rw [oDl_1 (by omega) hj] at hP
    exact hP σ' f' m' g' rf' q hq hc1 hk
  · rw [show oDl N A i = (-1, A) from sel2_f q] at hP
    exact hP σ f mm g rf 0 (Nat.zero_le _) h HK.rf
theorem tm_evict (hI : QI N T A) (h : CRx N Y bd [] σ A f mm g rf) (hP : ∀ σ' f' m' g' rf' q, q ≤ 1 → CRx N Y (bd.1, bd.2.1, bd.2.2 + q) [] σ' (oEv N A c b).2 f' m' g' rf' → HK (Y 4) σ σ' [] → P (some (.inl (oEv N A c b).1)) σ') : Ctr m_TM_evict 10 [.inr (Y 0), .inl c, .inl b] σ P := by
  have hN := h.1.1
  refine sp_TM_evict hI.iv (Nat.zero_le _) h (fun c' b' σ' f' m' g' hc hb e1 e2 y1 y2 hc1 hk => ?_) (fun c' b' hc hb e1 e2 y => ?_) (fun q => ?_)
  · subst e1 e2
    rw [oEv_1 hc hN.2 hb (fun z => z.elim y1 y2)] at hP
    exact hP σ' f' m' g' rf 0 (Nat.zero_le _) hc1 hk
  · subst e1 e2
    rw [oEv_2 hc hN.2 hb y] at hP
    exact hP σ f mm g rf 0 (Nat.zero_le _) h HK.rf
  · rw [show oEv N A c b = (0, A) from sel2_f q] at hP
    exact hP σ f mm g rf 0 (Nat.zero_le _) h HK.rf
/-! the reference -/
theorem mm_issue (hw : bz w) (hI : QI N T A) (hR : RR N m Z σ0 nD σ A) (hP : ∀ σ', RR N m Z σ0 nD σ' (oIs N A c w b v).2 → P (some (.inl (oIs N A c w b v).1)) σ') : Ctr m_MM_issue 5 [.inr m, .inl c, .inl w, .inl b, .inl v] σ P := by
  have hN := hI.1.1
  refine sp_MM_issue hw hI hR (fun c' b' σ' hc hb e1 e2 h12 hc1 => ?_) (fun c' σ' hc e1 hB h12 h => ?_) (fun σ' q h => ?_)
  · subst e1 e2
    rw [oIs_1 hc hN.2 hb h12] at hP
    have kk := hP σ' hc1
    refine ⟨fun y => ?_, fun y => ?_⟩
    · rw [sel_t y] at kk; exact kk
    · rw [sel_f y] at kk; exact kk
  · subst e1
    rw [oIs_2 hc hN.2 hB h12] at hP
    exact hP σ' h
  · rw [oIs_0 q] at hP
    exact hP σ' h
theorem mm_tick (hI : QI N T A) (hR : RR N m Z σ0 nD σ A) (hP : ∀ σ', RR N m Z σ0 nD σ' (oTi N A n).2 → P (some (.inl (oTi N A n).1)) σ') : Ctr m_MM_tick 6 [.inr m, .inl n] σ P := by
  refine sp_MM_tick hI hR (fun t σ' h1 h2 e h => ?_) (fun σ' q h => ?_)
  · subst e
    rw [oTi_1 h1 h2] at hP
    exact hP σ' h
  · rw [show oTi N A n = (-1, A) from sel2_f q] at hP
    exact hP σ' h
theorem mm_deliver (hI : QI N T A) (hR : RR N m Z σ0 nD σ A) (hP : ∀ σ', RR N m Z σ0 nD σ' (oDl N A i).2 → P (some (.inl (oDl N A i).1)) σ') : Ctr m_MM_deliver 9 [.inr m, .inl i] σ P := by
  have hb := hI.1.bound
  refine sp_MM_deliver hI hR (fun j σ' hj e h => ?_) (fun σ' q h => ?_)
  · subst e
    rw [oDl_1 (by omega) hj] at hP
    exact hP σ' h
  · rw [show oDl N A i = (-1, A) from sel2_f q] at hP
    exact hP σ' h
theorem mm_evict (hI : QI N T A) (hR : RR N m Z σ0 nD σ A) (hP : ∀ σ', RR N m Z σ0 nD σ' (oEv N A c b).2 → P (some (.inl (oEv N A c b).1)) σ') : Ctr m_MM_evict 5 [.inr m, .inl c, .inl b] σ P := by
  have hN := hI.1.1
  refine sp_MM_evict hI hR (fun c' b' σ' hc hb e1 e2 y1 y2 h => ?_) (fun c' b' σ' hc hb e1 e2 y h => ?_) (fun σ' q h => ?_)
  · subst e1 e2
    rw [oEv_1 hc hN.2 hb (fun z => z.elim y1 y2)] at hP
    exact hP σ' h
  · subst e1 e2
    rw [oEv_2 hc hN.2 hb y] at hP
    exact hP σ' h
  · rw [show oEv N A c b = (0, A) from sel2_f q] at hP
    exact hP σ' h
end Ops
