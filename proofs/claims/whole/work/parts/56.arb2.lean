/-! making active, lapsing, PLEASE, TOKENS, KNOW -/
section Arb2
variable {N : Nat} {Y : Nat → Nat} {bd : Nat × Nat × Nat} {hs : List Nat} {σ : PS} {A : AS} {f : Nat → Nat} {m : Nat} {g : Nat → Nat} {rf : Nat → Nat → Nat} {P : Option PV → PS → Prop} {eb eo : Nat → Nat}
theorem LI.own (h : LI N A eb eo) {x b : Nat} (hx : x ≤ N) (hb : b < 2) : sv A 6 (2 * x + b) = 0 ∨ sv A 6 (2 * x + b) = 1 := (h.cwf hx hb).2.1.1
theorem LI.b67 (h : LI N A eb eo) : ln A ≤ 67 := Nat.le_succ_of_le h.bound
set_option maxHeartbeats 4000000 in
theorem sp_activateFirst {b : Nat} (hb : b < 2) (hI : IV N A eb eo) (hh : hs.length ≤ 1) (h : CRx N Y bd hs σ A f m g rf) (hP : ∀ σ' f' m' g' rf', CRx N Y bd hs σ' (afA N A b) f' m' g' rf' → HK (Y 4) σ σ' hs → P none σ') : Ctr m_TM_activateFirst 11 [.inr (Y 0), .inl (nI b)] σ P := by
  obtain ⟨a0, ⟨b1, b2, b3, b4, b5, b6, b7, b8, b9⟩, -, -, ⟨d1, d2, d3⟩, -⟩ := h.1
  have td : tg σ (Y (300 + b)) = 3 := h.1.dk hb
  have ur : fr σ 128 (Y (300 + b)) = Y (310 + b) := (d3 b hb).2.2
  obtain ⟨hA, hE⟩ := h.2.2.2.2.2.2.1 b hb
  have tl := hA.1
  have r5 := (hI.2.2.1 b hb).1
  refine Ctr.of y_TM_activateFirst (Nat.le_of_ble_eq_true rfl) ?_
  refine p_aload_n e_TM_activateFirst_0 rfl ?_
  refine p_gRv 455 e_TM_activateFirst_1 f_TM_49 rfl rfl (by assumption) b7 ?_
  refine p_iload_n e_TM_activateFirst_4 rfl ?_
  refine p_aaldv e_TM_activateFirst_5 (ti := 5) (n := b) (v := Y (300 + b)) (by decide) d1 rfl (by omega) (by omega) (d3 b hb).1 ?_
  refine p_astore_n e_TM_activateFirst_6 (by decide) ?_
  refine p_aload_n e_TM_activateFirst_7 rfl ?_
  refine p_gRv 128 e_TM_activateFirst_8 f_TM_192 rfl rfl (by assumption) ur ?_
  refine p_inv (ci := 0) (d' := 1) [] _ e_TM_activateFirst_11 c_TM_278 k_AL_isEmpty i_AL_isEmpty s_AL_isEmpty rfl rfl (by assumption) rfl rfl (Nat.le_of_ble_eq_true rfl) (Nat.le_of_ble_eq_true rfl) ?_
  refine sp_AL_isEmpty tl ?_
  rw [hA.2.1]
  unfold afA at hP
  by_cases hr : rn A b = 0
  · rw [hr, if_pos nI_0]
    refine p_if_eq (tgt := 18) e_TM_activateFirst_14 (by decide) (fun hx => absurd hx ((by decide))) (fun _ => ?_)
    refine p_ret e_TM_activateFirst_17 (rv_v ?_)
    rw [if_pos hr] at hP
    exact hP _ _ _ _ _ h HK.rf
  · rw [if_neg hr] at hP
    rw [if_neg (nI_ne0 (by omega) (by omega))]
    refine p_if_eq (tgt := 18) e_TM_activateFirst_14 (by decide) (fun _ => ?_) (fun hx => absurd (rfl) hx)
    refine p_aload_n e_TM_activateFirst_18 rfl ?_
    refine p_aload_n e_TM_activateFirst_19 rfl ?_
    refine p_gRv 128 e_TM_activateFirst_20 f_TM_192 rfl rfl (by assumption) ur ?_
    refine p_iconst (x := nI 0) e_TM_activateFirst_23 (by decide) ?_
    refine p_inv (ci := 0) (d' := 3) [_] _ e_TM_activateFirst_24 c_TM_282 k_AL_remove i_AL_remove s_AL_remove rfl rfl (by assumption) rfl rfl (Nat.le_of_ble_eq_true rfl) (Nat.le_of_ble_eq_true rfl) ?_
    refine sp_AL_remove hA (i := 0) (by omega) (fun σ1 hR => ?_)
    obtain ⟨q1, q2, q3, q4⟩ := hE 0 (by omega)
    obtain ⟨⟨cc, hcc, ecc⟩, hw0⟩ := (hI.2.2.1 b hb).2 0 (by omega)
    have t1 : tg σ1 (rf b 0) = 6 := by rw [hR.2.2.2.2.1]; exact q1
    have v1 : fi σ1 320 (rf b 0) = sv A 22 (20 * b) := (hR.1.2.2.2.2.1 320 _ (Or.inr (by omega))).trans q2
    have v2 : fi σ1 321 (rf b 0) = sv A 23 (20 * b) := (hR.1.2.2.2.2.1 321 _ (Or.inr (by omega))).trans q3
    have v3 : fi σ1 322 (rf b 0) = sv A 24 (20 * b) := (hR.1.2.2.2.2.1 322 _ (Or.inr (by omega))).trans q4
    have hc1 := h.rmR hb (i := 0) (by omega) (fun b' hb' => by have := (hI.2.2.1 b' hb').1; omega) hR
    have td1 : tg σ1 (Y (300 + b)) = 3 := hc1.1.dk hb
    have hne : fi σ1 320 (rf b 0) ≠ -1 := by
      rw [v1]
      have : sv A 22 (20 * b) = nI cc := ecc
      rw [this]
      intro z
      have := congrArg Int32.toInt z
      rw [nI_toInt (by omega)] at this
      have h2 : (-1 : Int32).toInt = -1 := by decide
      omega
    have hc2 := cw_act hc1 hb t1 hne
    rw [v1, v2, v3] at hc2
    have w42 : fi (pfr σ1 129 (Y (300 + b)) (rf b 0)) 130 (Y (300 + b)) = sv A 42 b := by
      have := (hc2.2.2.2.2.2.2.2.1 b hb).1
      rw [this, sv_set1, if_neg (by omega), sv_set1, if_neg (by omega), sv_set1, if_neg (by omega), sv_rmR, if_neg (by omega)]
    refine p_cast (ci := 5) e_TM_activateFirst_27 l_TM_244 ⟨_, rfl, Or.inl rfl⟩ (by assumption) ⟨5, _, rfl, rfl⟩ ?_
    refine p_pR 129 e_TM_activateFirst_30 f_TM_253 rfl rfl (fun q h => by cases h; exact Or.inl rfl) (by assumption) ?_
    refine p_aload_n e_TM_activateFirst_33 rfl ?_
    refine p_dup e_TM_activateFirst_34 ?_
    refine p_gIv 130 e_TM_activateFirst_35 f_TM_286 rfl rfl (by assumption) w42 ?_
    refine p_iconst (x := 1) e_TM_activateFirst_38 (by decide) ?_
    refine p_iadd e_TM_activateFirst_39 ?_
    refine p_pI 130 e_TM_activateFirst_40 f_TM_286 rfl rfl (fun q h => by cases h; exact Or.inl rfl) rfl (by assumption) ?_
    refine p_aload_n e_TM_activateFirst_43 rfl ?_
    refine p_iload_n e_TM_activateFirst_44 rfl ?_
    have hc3 := cw_130 (v := sv A 42 b + 1) hc2 hb
    have hI3 := hI.af1 hb hr
    refine p_inv (ci := 7) (d' := 9) [_] _ e_TM_activateFirst_45 c_TM_275 k_TM_tellActive i_TM_tellActive s_TM_tellActive rfl rfl (hc3.1.2.1.1) rfl rfl (Nat.le_of_ble_eq_true rfl) (Nat.le_of_ble_eq_true rfl) ?_
    refine sp_tellActive (A := af1 A b) hb (fun c hc => (hI3.1.tl hb (by rcases hI3.2.2.2 b hb with q | q; exact Or.inl q; exact Or.inr q.1) bz_acw c hc).b67) hh hc3 (fun σ4 f4 m4 g4 hc4 hk4 => ?_)
    have hI4 := hI3.ta hb
    have tx4 : tg σ4 (Y 0) = 8 := hc4.1.2.1.1
    have u3 : fi σ4 449 (Y 0) = nI N := hc4.1.2.1.2.2.1
    refine p_aload_n e_TM_activateFirst_48 rfl ?_
    refine p_aload_n e_TM_activateFirst_49 rfl ?_
    refine p_gIv 449 e_TM_activateFirst_50 f_TM_23 rfl rfl (by assumption) u3 ?_
    refine p_iload_n e_TM_activateFirst_53 rfl ?_
    refine p_inv (ci := 7) (d' := 10) [_, _] _ e_TM_activateFirst_54 c_TM_241 k_TM_giveWay i_TM_giveWay s_TM_giveWay rfl rfl (by assumption) rfl rfl (Nat.le_of_ble_eq_true rfl) (Nat.le_of_ble_eq_true rfl) ?_
    refine sp_giveWay (Nat.le_refl _) hb (hI4.1.own (Nat.le_refl _) hb) hI4.1.b67 hh hc4 (fun σ5 f5 m5 g5 hc5 hk5 => ?_)
    refine p_ret e_TM_activateFirst_57 (rv_v ?_)
    have k3 : HK (Y 4) σ (pfi (pfr σ1 129 (Y (300 + b)) (rf b 0)) 130 (Y (300 + b)) (sv A 42 b + 1)) hs := ((HK.lf hR.1).tr HK.pfr).tr (HK.put (Or.inl (by omega)))
    exact hP _ _ _ _ _ hc5 ((k3.tr hk4).tr hk5)
set_option maxHeartbeats 4000000 in
theorem sp_lapse {c : Nat} {n : Int32} (hc : c < N) (hI : IV N A eb eo) (hh : hs.length ≤ 1) (h : CRx N Y bd hs σ A f m g rf) (hP : ∀ σ' f' m' g' rf', CRx N Y bd hs σ' (lpA N A c n) f' m' g' rf' → HK (Y 4) σ σ' hs → P none σ') : Ctr m_TM_lapse 12 [.inr (Y 0), .inl (nI c), .inl n] σ P := by
  obtain ⟨a0, ⟨b1, b2, b3, b4, b5, b6, b7, b8, b9⟩, -, -, ⟨d1, d2, d3⟩, ⟨e1, e2⟩, -⟩ := h.1
  have w27 := h.2.2.2.2.1.2.2.2 c hc
  have r20 : ∀ {A' : AS}, IV N A' eb eo → ∀ b', b' < 2 → rn A' b' ≤ 20 := fun hi b' hb' => by have := (hi.2.2.1 b' hb').1; omega
  -- the second loop
  have step : ∀ (b : Nat), b < 2 → ∀ (σ1 : PS) (A1 : AS) (m1 : Nat) (f1 g1 : Nat → Nat) (rf1 : Nat → Nat → Nat), IV N A1 eb eo → CRx N Y bd hs σ1 A1 f1 m1 g1 rf1 → HK (Y 4) σ σ1 hs →
      (∀ (σ2 : PS) (m2 : Nat) (f2 g2 : Nat → Nat) (rf2 : Nat → Nat → Nat), CRx N Y bd hs σ2 (lpS N A1 b c n) f2 m2 g2 rf2 → HK (Y 4) σ σ2 hs → Wp m_TM_lapse 12 44 [(3, .inl (nI (b + 1))), (0, .inr (Y 0)), (1, .inl (nI c)), (2, .inl n)] [] σ2 (fun v σ' => RV m_TM_lapse.2.2.2 v ∧ P v σ')) →
      Wp m_TM_lapse 12 44 [(3, .inl (nI b)), (0, .inr (Y 0)), (1, .inl (nI c)), (2, .inl n)] [] σ1 (fun v σ' => RV m_TM_lapse.2.2.2 v ∧ P v σ') := by
    intro b hb σ1 A1 m1 f1 g1 rf1 hI1 hc1 hk1 next
    obtain ⟨-, ⟨x1, -, -, -, -, -, x7, -, -⟩, -, -, ⟨y1, y2, y3⟩, -⟩ := hc1.1
    have td : tg σ1 (Y (300 + b)) = 3 := hc1.1.dk hb
    obtain ⟨q1, q2⟩ := hc1.2.2.2.2.2.2.2.1 b hb
    have fin : ∀ (σ2 : PS) (m2 : Nat) (f2 g2 : Nat → Nat) (rf2 : Nat → Nat → Nat), CRx N Y bd hs σ2 (lpS N A1 b c n) f2 m2 g2 rf2 → HK (Y 4) σ σ2 hs → Wp m_TM_lapse 12 94 [(3, .inl (nI b)), (0, .inr (Y 0)), (1, .inl (nI c)), (2, .inl n)] [] σ2 (fun v σ' => RV m_TM_lapse.2.2.2 v ∧ P v σ') := by
      intro σ2 m2 f2 g2 rf2 z1 z2
      refine p_iinc e_TM_lapse_94 rfl rfl (by decide) ?_
      refine p_goto (tgt := 44) e_TM_lapse_97 (by decide) ?_
      exact Wp.lv2 (next σ2 m2 f2 g2 rf2 z1 z2) ⟨congrArg (fun z => some (Sum.inl z)) (nI_1 b), rfl, rfl, rfl, trivial⟩
    refine p_iload_n e_TM_lapse_44 rfl ?_
    refine p_iconst (x := 2) e_TM_lapse_45 (by decide) ?_
    refine p_icmp_ge (tgt := 100) e_TM_lapse_46 (by decide) (fun hx => absurd hx (nI_ge (a := b) (b := 2) hb (by omega))) (fun _ => ?_)
    refine p_aload_n e_TM_lapse_49 rfl ?_
    refine p_gRv 455 e_TM_lapse_50 f_TM_49 rfl rfl (by assumption) x7 ?_
    refine p_iload_n e_TM_lapse_53 rfl ?_
    refine p_aaldv e_TM_lapse_54 (ti := 5) (n := b) (v := Y (300 + b)) (by decide) y1 rfl (by omega) (by omega) (y3 b hb).1 ?_
    refine p_astore e_TM_lapse_55 (by decide) ?_
    refine p_aload e_TM_lapse_57 rfl ?_
    refine p_gR 129 e_TM_lapse_59 f_TM_253 rfl rfl (by assumption) ?_
    rcases q2 with ⟨r1, r2⟩ | ⟨r1, r2, r3, r4, r5⟩
    · refine p_ifnull (tgt := 94) e_TM_lapse_62 (by decide) (fun _ => ?_) (fun hx => absurd (r1) hx)
      refine Wp.lv2 (fin σ1 m1 f1 g1 rf1 ?_ hk1) ⟨rfl, rfl, rfl, rfl, trivial⟩
      have : lpS N A1 b c n = A1 := if_neg (fun z => z.1 r2)
      rw [this]
      exact hc1
    · have hne : fr σ1 129 (Y (300 + b)) ≠ 0 := by
        intro q
        rw [q, hc1.2.1.1.2] at r1
        omega
      refine p_ifnull (tgt := 94) e_TM_lapse_62 (by decide) (fun hx => absurd hx (hne)) (fun _ => ?_)
      refine p_aload e_TM_lapse_65 rfl ?_
      refine p_gR 129 e_TM_lapse_67 f_TM_253 rfl rfl (by assumption) ?_
      refine p_iload_n e_TM_lapse_70 rfl ?_
      refine p_iload_n e_TM_lapse_71 rfl ?_
      refine p_inv (ci := 5) (d' := 1) [_, _] _ e_TM_lapse_72 c_TM_271 k_Req_isOf i_Req_isOf s_Req_isOf rfl rfl (r1) rfl rfl (Nat.le_of_ble_eq_true rfl) (Nat.le_of_ble_eq_true rfl) ?_
      refine sp_Req_isOf r1 (fun z1 z2 => ?_) (fun z => ?_)
      · refine p_if_eq (tgt := 94) e_TM_lapse_75 (by decide) (fun hx => absurd hx ((by decide))) (fun _ => ?_)
        refine p_aload e_TM_lapse_78 rfl ?_
        refine p_null e_TM_lapse_80 ?_
        refine p_pR 129 e_TM_lapse_81 f_TM_253 rfl rfl (fun q h => by cases h; exact Or.inl rfl) (by assumption) ?_
        refine p_aload_n e_TM_lapse_84 rfl ?_
        refine p_iload_n e_TM_lapse_85 rfl ?_
        have hc2 := cw_act0 hc1 hb
        have hI2 := hI1.off (b := b)
        refine p_inv (ci := 7) (d' := 9) [_] _ e_TM_lapse_86 c_TM_275 k_TM_tellActive i_TM_tellActive s_TM_tellActive rfl rfl (hc2.1.2.1.1) rfl rfl (Nat.le_of_ble_eq_true rfl) (Nat.le_of_ble_eq_true rfl) ?_
        refine sp_tellActive (A := set1 A1 40 b (-1)) hb (fun c' hc' => (hI2.1.tl hb (Or.inl (by rw [sv_set1, if_pos ⟨rfl, rfl⟩])) bz_acw c' hc').b67) hh hc2 (fun σ3 f3 m3 g3 hc3 hk3 => ?_)
        refine p_aload_n e_TM_lapse_89 rfl ?_
        refine p_iload_n e_TM_lapse_90 rfl ?_
        refine p_inv (ci := 7) (d' := 11) [_] _ e_TM_lapse_91 c_TM_257 k_TM_activateFirst i_TM_activateFirst s_TM_activateFirst rfl rfl (hc3.1.2.1.1) rfl rfl (Nat.le_of_ble_eq_true rfl) (Nat.le_of_ble_eq_true rfl) ?_
        refine sp_activateFirst hb (hI2.ta hb) hh hc3 (fun σ4 f4 m4 g4 rf4 hc4 hk4 => ?_)
        refine Wp.lv2 (fin σ4 m4 f4 g4 rf4 ?_ (((hk1.tr HK.pfr).tr hk3).tr hk4)) ⟨rfl, rfl, rfl, rfl, trivial⟩
        have : lpS N A1 b c n = _ := if_pos ⟨r5, r2.symm.trans z1, by rw [← r3]; exact z2⟩
        rw [this]
        exact hc4
      · refine p_if_eq (tgt := 94) e_TM_lapse_75 (by decide) (fun _ => ?_) (fun hx => absurd (rfl) hx)
        refine Wp.lv2 (fin σ1 m1 f1 g1 rf1 ?_ hk1) ⟨rfl, rfl, rfl, rfl, trivial⟩
        have : lpS N A1 b c n = A1 := if_neg (fun y => z ⟨r2.trans y.2.1, by rw [r3]; exact y.2.2⟩)
        rw [this]
        exact hc1
  -- the first loop
  have step0 : ∀ (b : Nat), b < 2 → ∀ (σ1 : PS) (A1 : AS) (rf1 : Nat → Nat → Nat), IV N A1 eb eo → CRx N Y bd hs σ1 A1 f m g rf1 → HK (Y 4) σ σ1 hs →
      (∀ (σ2 : PS) (rf2 : Nat → Nat → Nat), CRx N Y bd hs σ2 (skA b (nI c) n (rn A1 b) A1) f m g rf2 → HK (Y 4) σ σ2 hs → Wp m_TM_lapse 12 20 [(3, .inl (nI (b + 1))), (0, .inr (Y 0)), (1, .inl (nI c)), (2, .inl n)] [] σ2 (fun v σ' => RV m_TM_lapse.2.2.2 v ∧ P v σ')) →
      Wp m_TM_lapse 12 20 [(3, .inl (nI b)), (0, .inr (Y 0)), (1, .inl (nI c)), (2, .inl n)] [] σ1 (fun v σ' => RV m_TM_lapse.2.2.2 v ∧ P v σ') := by
    intro b hb σ1 A1 rf1 hI1 hc1 hk1 next
    obtain ⟨-, ⟨x1, -, -, -, -, -, x7, -, -⟩, -, -, ⟨y1, y2, y3⟩, -⟩ := hc1.1
    refine p_iload_n e_TM_lapse_20 rfl ?_
    refine p_iconst (x := 2) e_TM_lapse_21 (by decide) ?_
    refine p_icmp_ge (tgt := 42) e_TM_lapse_22 (by decide) (fun hx => absurd hx (nI_ge (a := b) (b := 2) hb (by omega))) (fun _ => ?_)
    refine p_aload_n e_TM_lapse_25 rfl ?_
    refine p_gRv 455 e_TM_lapse_26 f_TM_49 rfl rfl (by assumption) x7 ?_
    refine p_iload_n e_TM_lapse_29 rfl ?_
    refine p_aaldv e_TM_lapse_30 (ti := 5) (n := b) (v := Y (300 + b)) (by decide) y1 rfl (by omega) (by omega) (y3 b hb).1 ?_
    refine p_iload_n e_TM_lapse_31 rfl ?_
    refine p_iload_n e_TM_lapse_32 rfl ?_
    refine p_inv (ci := 2) (d' := 4) [_, _] _ e_TM_lapse_33 c_TM_268 k_Desk_strike i_Desk_strike s_Desk_strike rfl rfl (hc1.1.dk hb) rfl rfl (Nat.le_of_ble_eq_true rfl) (Nat.le_of_ble_eq_true rfl) ?_
    refine sp_strike hb (r20 hI1) hc1 (fun σ2 rf2 hc2 hk2 => ?_)
    refine p_iinc e_TM_lapse_36 rfl rfl (by decide) ?_
    refine p_goto (tgt := 20) e_TM_lapse_39 (by decide) ?_
    exact Wp.lv2 (next σ2 rf2 hc2 (hk1.tr hk2)) ⟨congrArg (fun z => some (Sum.inl z)) (nI_1 b), rfl, rfl, rfl, trivial⟩
  refine Ctr.of y_TM_lapse (Nat.le_of_ble_eq_true rfl) ?_
  refine p_iload_n e_TM_lapse_0 rfl ?_
  refine p_aload_n e_TM_lapse_1 rfl ?_
  refine p_gRv 456 e_TM_lapse_2 f_TM_43 rfl rfl (by assumption) b8 ?_
  refine p_iload_n e_TM_lapse_5 rfl ?_
  refine p_ialdv e_TM_lapse_6 (n := c) (v := sv A 27 c) e1 rfl (by omega) (by omega) w27 ?_
  unfold lpA at hP
  refine p_icmp_gt (tgt := 11) e_TM_lapse_7 (by decide) (fun h7 => ?_) (fun h7 => ?_)
  · rw [if_pos h7] at hP
    refine p_aload_n e_TM_lapse_11 rfl ?_
    refine p_gRv 456 e_TM_lapse_12 f_TM_43 rfl rfl (by assumption) b8 ?_
    refine p_iload_n e_TM_lapse_15 rfl ?_
    refine p_iload_n e_TM_lapse_16 rfl ?_
    refine p_iast e_TM_lapse_17 (n := c) e1 rfl (by omega) (by omega) ?_
    have hc1 := cw_lapsed (c := c) (v := n) h
    have hk1 : HK (Y 4) σ (pai σ (Y 4) c n) hs := HK.pai
    have hI1 : IV N (set1 A 27 c n) eb eo := ⟨hI.1.set (by unfold rel; omega), hI.2.keep rfl (fun k j hk => by rw [sv_set1, if_neg (by omega)])⟩
    refine p_iconst (x := 0) e_TM_lapse_18 (by decide) ?_
    refine p_istore_n e_TM_lapse_19 (by decide) ?_
    refine Wp.lv2 (step0 0 (by omega) _ _ _ hI1 hc1 hk1 (fun σ2 rf2 hc2 hk2 => ?_)) ⟨rfl, rfl, rfl, rfl, trivial⟩
    have hI2 : IV N (skA 0 (nI c) n (rn A 0) (set1 A 27 c n)) eb eo := IV.sk (by omega) _ _ (Nat.le_refl _) hI1
    refine step0 1 (by omega) _ _ _ hI2 hc2 hk2 (fun σ3 rf3 hc3 hk3 => ?_)
    refine p_iload_n e_TM_lapse_20 rfl ?_
    refine p_iconst (x := 2) e_TM_lapse_21 (by decide) ?_
    refine p_icmp_ge (tgt := 42) e_TM_lapse_22 (by decide) (fun _ => ?_) (fun hx => absurd (Int32.le_refl _) hx)
    refine p_iconst (x := 0) e_TM_lapse_42 (by decide) ?_
    refine p_istore_n e_TM_lapse_43 (by decide) ?_
    have hI3 : IV N (lpR A c n) eb eo := hI.lpR
    refine Wp.lv2 (step 0 (by omega) _ (lpR A c n) _ _ _ _ hI3 hc3 hk3 (fun σ4 m4 f4 g4 rf4 hc4 hk4 => ?_)) ⟨rfl, rfl, rfl, rfl, trivial⟩
    refine step 1 (by omega) _ _ _ _ _ _ (hI3.lpS (by omega)) hc4 hk4 (fun σ5 m5 f5 g5 rf5 hc5 hk5 => ?_)
    refine p_iload_n e_TM_lapse_44 rfl ?_
    refine p_iconst (x := 2) e_TM_lapse_45 (by decide) ?_
    refine p_icmp_ge (tgt := 100) e_TM_lapse_46 (by decide) (fun _ => ?_) (fun hx => absurd (Int32.le_refl _) hx)
    refine p_ret e_TM_lapse_100 (rv_v ?_)
    exact hP _ _ _ _ _ hc5 hk5
  · rw [if_neg h7] at hP
    refine p_ret e_TM_lapse_10 (rv_v ?_)
    exact hP _ _ _ _ _ h HK.rf
end Arb2
