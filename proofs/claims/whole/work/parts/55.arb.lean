/-! the arbiter: striking out, making active, lapsing -/
def RI (N : Nat) (A : AS) : Prop := (∀ c, c < N → (∃ b, b < 2 ∧ sv A 15 c = nI b) ∧ bz (sv A 12 c) ∧ bz (sv A 13 c) ∧ bz (sv A 14 c)) ∧ (∀ b, b < 2 → rn A b ≤ 5 ∧ ∀ i, i < rn A b → (∃ c, c < N ∧ sv A 22 (20 * b + i) = nI c) ∧ bz (sv A 24 (20 * b + i))) ∧ (∀ b, b < 2 → sv A 40 b = -1 ∨ ((∃ c, c < N ∧ sv A 40 b = nI c) ∧ bz (sv A 41 b)))
theorem RI.keep {N : Nat} {A A' : AS} (h : RI N A) (hr : rn A' = rn A) (e : ∀ k j, (12 ≤ k ∧ k < 26) ∨ k = 40 ∨ k = 41 → sv A' k j = sv A k j) : RI N A' := by
  obtain ⟨h1, h2, h3⟩ := h
  refine ⟨fun c hc => ?_, fun b hb => ?_, fun b hb => ?_⟩
  · rw [e 15 c (by omega), e 12 c (by omega), e 13 c (by omega), e 14 c (by omega)]; exact h1 c hc
  · rw [hr]
    refine ⟨(h2 b hb).1, fun i hi => ?_⟩
    rw [e 22 _ (by omega), e 24 _ (by omega)]
    exact (h2 b hb).2 i hi
  · rw [e 40 b (by omega), e 41 b (by omega)]; exact h3 b hb
theorem rn_dpL {A : AS} {kd fm to bl : Int32} : rn (dpL A kd fm to bl) = rn A := by
  by_cases h3 : kd = 3
  · subst h3; rw [dpL_3]
  · by_cases h : ∃ i, fdL A kd fm to bl i
    · obtain ⟨i, hi⟩ := h
      rw [dpL_at h3 hi]
      rfl
    · unfold dpL
      rw [if_neg h3, dif_neg h]
theorem rn_sdL {A : AS} {kd fm to bl : Int32} : rn (sdL A kd fm to bl) = rn A := rn_dpL
/-- kinds that giving and telling leave alone -/
def ksf (k : Nat) : Prop := (12 ≤ k ∧ k < 29) ∨ 40 ≤ k ∨ k < 5
theorem gv_keep {A : AS} {x b : Nat} {to many ow wd : Int32} : rn (gvA A x b to many ow wd) = rn A ∧ ∀ k j, ksf k → sv (gvA A x b to many ow wd) k j = sv A k j := by
  unfold gvA
  split
  · exact ⟨rfl, fun _ _ _ => rfl⟩
  · refine ⟨rn_sdL, fun k j hk => ?_⟩
    unfold ksf at hk
    rw [sv_set1, if_neg (by omega), sv_set1, if_neg (by omega), sv_set1, if_neg (by omega), sv_set1, if_neg (by omega), sv_set1, if_neg (by omega), sv_set1, if_neg (by omega), sv_set1, if_neg (by omega), sv_sdL (by omega)]
theorem gw_keep {A : AS} {x b : Nat} : rn (gwA A x b) = rn A ∧ ∀ k j, ksf k → sv (gwA A x b) k j = sv A k j := by
  unfold gwA
  split
  · exact ⟨rfl, fun _ _ _ => rfl⟩
  · split
    · exact gv_keep
    · split
      · exact gv_keep
      · exact ⟨rfl, fun _ _ _ => rfl⟩
theorem rn_tlA {N : Nat} {A : AS} {b : Nat} {co w sr : Int32} : ∀ c, rn (tlA N A b co w sr c) = rn A
  | 0 => rfl
  | c + 1 => by
    unfold tlA
    show rn (sdL _ _ _ _ _) = rn A
    rw [rn_sdL]
    exact rn_tlA c
theorem ta_keep {N : Nat} {A : AS} {b : Nat} : rn (taA N A b) = rn A ∧ ∀ k j, ksf k → sv (taA N A b) k j = sv A k j := by
  unfold taA lnA
  refine ⟨rn_tlA N, fun k j hk => ?_⟩
  unfold ksf at hk
  rw [sv_set1, if_neg (by omega), sv_set1, if_neg (by omega), sv_set1, if_neg (by omega), sv_tlA (by omega)]
noncomputable def afA (N : Nat) (A : AS) (b : Nat) : AS := if rn A b = 0 then A else gwA (taA N (set1 (set1 (set1 (set1 (rmR A b 0) 40 b (sv A 22 (20 * b))) 26 b (sv A 23 (20 * b))) 41 b (sv A 24 (20 * b))) 42 b (sv A 42 b + 1)) b) N b
noncomputable def lpS (N : Nat) (A : AS) (b c : Nat) (n : Int32) : AS := if sv A 40 b ≠ -1 ∧ sv A 40 b = nI c ∧ sv A 26 b ≤ n then afA N (taA N (set1 A 40 b (-1)) b) b else A
noncomputable def lpR (A : AS) (c : Nat) (n : Int32) : AS := skA 1 (nI c) n (rn (skA 0 (nI c) n (rn A 0) (set1 A 27 c n)) 1) (skA 0 (nI c) n (rn A 0) (set1 A 27 c n))
noncomputable def lpA (N : Nat) (A : AS) (c : Nat) (n : Int32) : AS := if sv A 27 c < n then lpS N (lpS N (lpR A c n) 0 c n) 1 c n else A
section Arb
variable {N : Nat} {Y : Nat → Nat} {bd : Nat × Nat × Nat} {hs : List Nat} {σ : PS} {A : AS} {f : Nat → Nat} {m : Nat} {g : Nat → Nat} {rf : Nat → Nat → Nat} {P : Option PV → PS → Prop} {eb eo : Nat → Nat}
def IV (N : Nat) (A : AS) (eb eo : Nat → Nat) : Prop := LI N A eb eo ∧ RI N A
theorem RI.rm (h : RI N A) {b i : Nat} (hb : b < 2) (hi : i < rn A b) : RI N (rmR A b i) := by
  obtain ⟨h1, h2, h3⟩ := h
  refine ⟨fun c hc => ?_, fun b' hb' => ?_, fun b' hb' => ?_⟩
  · rw [sv_rmR, if_neg (by omega), sv_rmR, if_neg (by omega), sv_rmR, if_neg (by omega), sv_rmR, if_neg (by omega)]; exact h1 c hc
  · rw [rn_rmR]
    have q := (h2 b' hb').1
    by_cases e : b' = b
    · subst e
      rw [if_pos rfl]
      refine ⟨by omega, fun j hj => ?_⟩
      rw [sv_rmR, sv_rmR]
      by_cases e2 : i ≤ j
      · rw [if_pos (by omega), if_pos (by omega)]; exact (h2 b' hb').2 (j + 1) (by omega)
      · rw [if_neg (by omega), if_neg (by omega)]; exact (h2 b' hb').2 j (by omega)
    · rw [if_neg e]
      refine ⟨q, fun j hj => ?_⟩
      rw [sv_rmR, if_neg (by omega), sv_rmR, if_neg (by omega)]
      exact (h2 b' hb').2 j hj
  · rw [sv_rmR, if_neg (by omega), sv_rmR, if_neg (by omega)]; exact h3 b' hb'
theorem IV.rm (h : IV N A eb eo) {b i : Nat} (hb : b < 2) (hi : i < rn A b) : IV N (rmR A b i) eb eo :=
  ⟨h.1.cong rfl (fun k j hr => by unfold rel at hr; rw [sv_rmR, if_neg (by omega)]), h.2.rm hb hi⟩
theorem IV.sk {b : Nat} {c n : Int32} (hb : b < 2) : ∀ (i : Nat) (A : AS), i ≤ rn A b → IV N A eb eo → IV N (skA b c n i A) eb eo
  | 0, A, _, h => h
  | i + 1, A, hi, h => by
    unfold skA
    split
    · exact IV.sk hb i _ (by rw [rn_rmR, if_pos rfl]; omega) (h.rm hb (by omega))
    · exact IV.sk hb i _ (by omega) h
theorem IV.gw (h : IV N A eb eo) {x b : Nat} (hx : x ≤ N) (hb : b < 2) : IV N (gwA A x b) eb eo := ⟨h.1.gw hx hb, h.2.keep gw_keep.1 (fun k j hk => gw_keep.2 k j (by unfold ksf; omega))⟩
theorem IV.ta (h : IV N A eb eo) {b : Nat} (hb : b < 2) : IV N (taA N A b) eb eo := by
  refine ⟨h.1.ta hb ?_, h.2.keep ta_keep.1 (fun k j hk => ta_keep.2 k j (by unfold ksf; omega))⟩
  rcases h.2.2.2 b hb with q | q
  · exact Or.inl q
  · exact Or.inr q.1
/-- the first of the row, made active -/
noncomputable def af1 (A : AS) (b : Nat) : AS := set1 (set1 (set1 (set1 (rmR A b 0) 40 b (sv A 22 (20 * b))) 26 b (sv A 23 (20 * b))) 41 b (sv A 24 (20 * b))) 42 b (sv A 42 b + 1)
theorem IV.af1 (h : IV N A eb eo) {b : Nat} (hb : b < 2) (hr : rn A b ≠ 0) : IV N (af1 A b) eb eo := by
  have h0 := h.rm hb (i := 0) (by omega)
  refine ⟨(((h0.1.set (by unfold rel; omega)).set (by unfold rel; omega)).set (by unfold rel; omega)).set (by unfold rel; omega), h0.2.1, h0.2.2.1, fun b' hb' => ?_⟩
  have s40 : sv (Jvm.Pilot.@@N@@.af1 A b) 40 b' = if b' = b then sv A 22 (20 * b) else sv A 40 b' := by
    unfold Jvm.Pilot.@@N@@.af1
    rw [sv_set1, if_neg (by omega), sv_set1, if_neg (by omega), sv_set1, if_neg (by omega), sv_set1]
    by_cases e : b' = b
    · rw [if_pos ⟨rfl, e⟩, if_pos e]
    · rw [if_neg (fun z => e z.2), if_neg e, sv_rmR, if_neg (by omega)]
  have s41 : sv (Jvm.Pilot.@@N@@.af1 A b) 41 b' = if b' = b then sv A 24 (20 * b) else sv A 41 b' := by
    unfold Jvm.Pilot.@@N@@.af1
    rw [sv_set1, if_neg (by omega), sv_set1]
    by_cases e : b' = b
    · rw [if_pos ⟨rfl, e⟩, if_pos e]
    · rw [if_neg (fun z => e z.2), if_neg e, sv_set1, if_neg (by omega), sv_set1, if_neg (by omega), sv_rmR, if_neg (by omega)]
  rw [s40, s41]
  by_cases e : b' = b
  · rw [if_pos e, if_pos e]
    obtain ⟨q1, q2⟩ := (h.2.2.1 b hb).2 0 (by omega)
    exact Or.inr ⟨q1, q2⟩
  · rw [if_neg e, if_neg e]
    exact h.2.2.2 b' hb'
theorem IV.af (h : IV N A eb eo) {b : Nat} (hb : b < 2) : IV N (afA N A b) eb eo := by
  unfold afA
  split
  · exact h
  · rename_i hr
    exact ((h.af1 hb hr).ta hb).gw (Nat.le_refl _) hb
theorem IV.off (h : IV N A eb eo) {b : Nat} : IV N (set1 A 40 b (-1)) eb eo := by
  refine ⟨h.1.set (by unfold rel; omega), h.2.1, h.2.2.1, fun b' hb' => ?_⟩
  have s41 : sv (set1 A 40 b (-1)) 41 b' = sv A 41 b' := by rw [sv_set1, if_neg (by omega)]
  rw [s41, sv_set1]
  by_cases e : b' = b
  · rw [if_pos ⟨rfl, e⟩]; exact Or.inl rfl
  · rw [if_neg (fun z => e z.2)]; exact h.2.2.2 b' hb'
theorem IV.lpS (h : IV N A eb eo) {b c : Nat} {n : Int32} (hb : b < 2) : IV N (lpS N A b c n) eb eo := by
  unfold Jvm.Pilot.@@N@@.lpS
  split
  · exact (h.off.ta hb).af hb
  · exact h
theorem IV.lpR (h : IV N A eb eo) {c : Nat} {n : Int32} : IV N (lpR A c n) eb eo := by
  have h1 : IV N (set1 A 27 c n) eb eo := ⟨h.1.set (by unfold rel; omega), h.2.keep rfl (fun k j hk => by rw [sv_set1, if_neg (by omega)])⟩
  exact IV.sk (by omega) _ _ (Nat.le_refl _) (IV.sk (by omega) _ _ (Nat.le_refl _) h1)
theorem IV.lp (h : IV N A eb eo) {c : Nat} {n : Int32} : IV N (lpA N A c n) eb eo := by
  unfold lpA
  split
  · exact (h.lpR.lpS (by omega)).lpS (by omega)
  · exact h
theorem cnt_s (i : Nat) : nI (i + 1) - 1 = nI i := nI_pred i
theorem cnt_d {i : Nat} : nI i + Int32.ofInt (-1) = nI i - 1 := by
  rw [Int32.sub_eq_add_neg]; rfl
set_option maxHeartbeats 4000000 in
theorem sp_strike {b : Nat} {c n : Int32} (hb : b < 2) (h20 : ∀ b', b' < 2 → rn A b' ≤ 20) (h : CRx N Y bd hs σ A f m g rf) (hP : ∀ σ' rf', CRx N Y bd hs σ' (skA b c n (rn A b) A) f m g rf' → HK (Y 4) σ σ' hs → P none σ') : Ctr m_Desk_strike 4 [.inr (Y (300 + b)), .inl c, .inl n] σ P := by
  have loop : ∀ (i : Nat) (σ1 : PS) (A1 : AS) (rf1 : Nat → Nat → Nat), i ≤ rn A1 b → (∀ b', b' < 2 → rn A1 b' ≤ 20) → CRx N Y bd hs σ1 A1 f m g rf1 → HK (Y 4) σ σ1 hs → skA b c n i A1 = skA b c n (rn A b) A → Wp m_Desk_strike 4 10 [(3, .inl (nI i - 1)), (0, .inr (Y (300 + b))), (1, .inl c), (2, .inl n)] [] σ1 (fun v σ' => RV m_Desk_strike.2.2.2 v ∧ P v σ') := by
    intro i
    induction i with
    | zero =>
      intro σ1 A1 rf1 hi h20' hc hk e
      refine p_iload_n e_Desk_strike_10 rfl ?_
      refine p_if_lt (tgt := 48) e_Desk_strike_11 (by decide) (fun _ => ?_) (fun hx => absurd ((by decide)) hx)
      refine p_ret e_Desk_strike_48 (rv_v ?_)
      refine hP σ1 rf1 ?_ hk
      rw [← e]
      exact hc
    | succ i ih =>
      intro σ1 A1 rf1 hi h20' hc hk e
      have td : tg σ1 (Y (300 + b)) = 3 := hc.1.dk hb
      have ur : fr σ1 128 (Y (300 + b)) = Y (310 + b) := (hc.1.2.2.2.2.1.2.2 b hb).2.2
      obtain ⟨hA, hE⟩ := hc.2.2.2.2.2.2.1 b hb
      have tl := hA.1
      have hil : i < rn A1 b := by omega
      obtain ⟨q1, q2, q3, q4⟩ := hE i hil
      rw [cnt_s]
      refine p_iload_n e_Desk_strike_10 rfl ?_
      refine p_if_lt (tgt := 48) e_Desk_strike_11 (by decide) (fun hx => absurd hx (nI_pos (by have := h20' b hb; omega))) (fun _ => ?_)
      refine p_aload_n e_Desk_strike_14 rfl ?_
      refine p_gRv 128 e_Desk_strike_15 f_Desk_10 rfl rfl (by assumption) ur ?_
      refine p_iload_n e_Desk_strike_18 rfl ?_
      refine p_inv (ci := 0) (d' := 3) [_] _ e_Desk_strike_19 c_Desk_20 k_AL_get i_AL_get s_AL_get rfl rfl (by assumption) rfl rfl (Nat.le_of_ble_eq_true rfl) (Nat.le_of_ble_eq_true rfl) ?_
      refine sp_AL_get hA hil ?_
      refine p_cast (ci := 5) e_Desk_strike_22 l_Desk_24 ⟨_, rfl, Or.inl rfl⟩ (by assumption) ⟨5, _, rfl, rfl⟩ ?_
      refine p_iload_n e_Desk_strike_25 rfl ?_
      refine p_iload_n e_Desk_strike_26 rfl ?_
      have nxt : ∀ (σ2 : PS) (A2 : AS) (rf2 : Nat → Nat → Nat), i ≤ rn A2 b → (∀ b', b' < 2 → rn A2 b' ≤ 20) → CRx N Y bd hs σ2 A2 f m g rf2 → HK (Y 4) σ σ2 hs → skA b c n i A2 = skA b c n (rn A b) A → Wp m_Desk_strike 4 42 [(3, .inl (nI i)), (0, .inr (Y (300 + b))), (1, .inl c), (2, .inl n)] [] σ2 (fun v σ' => RV m_Desk_strike.2.2.2 v ∧ P v σ') := by
        intro σ2 A2 rf2 a1 a2 a3 a4 a5
        refine p_iinc e_Desk_strike_42 rfl rfl (by decide) ?_
        refine p_goto (tgt := 10) e_Desk_strike_45 (by decide) ?_
        exact Wp.lv2 (ih σ2 A2 rf2 a1 a2 a3 a4 a5) ⟨congrArg (fun z => some (Sum.inl z)) cnt_d, rfl, rfl, rfl, trivial⟩
      refine p_inv (ci := 5) (d' := 1) [_, _] _ e_Desk_strike_27 c_Desk_26 k_Req_isOf i_Req_isOf s_Req_isOf rfl rfl (q1) rfl rfl (Nat.le_of_ble_eq_true rfl) (Nat.le_of_ble_eq_true rfl) ?_
      refine sp_Req_isOf q1 (fun y1 y2 => ?_) (fun y => ?_)
      · refine p_if_eq (tgt := 42) e_Desk_strike_30 (by decide) (fun hx => absurd hx ((by decide))) (fun _ => ?_)
        refine p_aload_n e_Desk_strike_33 rfl ?_
        refine p_gRv 128 e_Desk_strike_34 f_Desk_10 rfl rfl (by assumption) ur ?_
        refine p_iload_n e_Desk_strike_37 rfl ?_
        refine p_inv (ci := 0) (d' := 3) [_] _ e_Desk_strike_38 c_Desk_30 k_AL_remove i_AL_remove s_AL_remove rfl rfl (by assumption) rfl rfl (Nat.le_of_ble_eq_true rfl) (Nat.le_of_ble_eq_true rfl) ?_
        refine sp_AL_remove hA hil (fun σ2 hR => ?_)
        refine p_pop e_Desk_strike_41 ?_
        have es : skA b c n (i + 1) A1 = skA b c n i (rmR A1 b i) := by
          rw [skA, if_pos ⟨q2.symm.trans y1, by rw [← q3]; exact y2⟩]
        refine Wp.lv2 (nxt σ2 (rmR A1 b i) _ (by rw [rn_rmR, if_pos rfl]; omega) (fun b' hb' => ?_) (hc.rmR hb hil h20' hR) (hk.tr (HK.lf hR.1)) (es.symm.trans e)) ⟨rfl, rfl, rfl, rfl, trivial⟩
        rw [rn_rmR]
        have := h20' b hb
        have := h20' b' hb'
        split <;> omega
      · refine p_if_eq (tgt := 42) e_Desk_strike_30 (by decide) (fun _ => ?_) (fun hx => absurd (rfl) hx)
        have es : skA b c n (i + 1) A1 = skA b c n i A1 := by
          rw [skA, if_neg (fun z => y ⟨q2.trans z.1, by rw [q3]; exact z.2⟩)]
        exact Wp.lv2 (nxt σ1 A1 rf1 (by omega) h20' hc hk (es.symm.trans e)) ⟨rfl, rfl, rfl, rfl, trivial⟩
  have td : tg σ (Y (300 + b)) = 3 := h.1.dk hb
  have ur : fr σ 128 (Y (300 + b)) = Y (310 + b) := (h.1.2.2.2.2.1.2.2 b hb).2.2
  obtain ⟨hA, hE⟩ := h.2.2.2.2.2.2.1 b hb
  have tl := hA.1
  refine Ctr.of y_Desk_strike (Nat.le_of_ble_eq_true rfl) ?_
  refine p_aload_n e_Desk_strike_0 rfl ?_
  refine p_gRv 128 e_Desk_strike_1 f_Desk_10 rfl rfl (by assumption) ur ?_
  refine p_inv (ci := 0) (d' := 1) [] _ e_Desk_strike_4 c_Desk_16 k_AL_size i_AL_size s_AL_size rfl rfl (by assumption) rfl rfl (Nat.le_of_ble_eq_true rfl) (Nat.le_of_ble_eq_true rfl) ?_
  refine sp_AL_size tl ?_
  rw [hA.2.1]
  refine p_iconst (x := 1) e_Desk_strike_7 (by decide) ?_
  refine p_isub e_Desk_strike_8 ?_
  refine p_istore_n e_Desk_strike_9 (by decide) ?_
  exact Wp.lv2 (loop (rn A b) σ A rf (Nat.le_refl _) h20 h HK.rf rfl) ⟨rfl, rfl, rfl, rfl, trivial⟩
end Arb
