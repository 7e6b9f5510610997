/-! tick and deliver -/
section Pub3
variable {N T : Nat} {Y : Nat → Nat} {bd : Nat × Nat × Nat} {hs : List Nat} {σ : PS} {A : AS} {f : Nat → Nat} {m : Nat} {g : Nat → Nat} {rf : Nat → Nat → Nat} {P : Option PV → PS → Prop}
set_option maxHeartbeats 4000000 in
theorem sp_TM_tick {n : Int32} (hI : QI N T A) (hh : hs.length ≤ 1) (h : CRx N Y bd hs σ A f m g rf)
    (k1 : ∀ t σ' f' m' g', 1 ≤ t → t ≤ 50 → n = nI t → CRx N Y bd hs σ' (tiA N A t) f' m' g' rf → HK (Y 4) σ σ' hs → P (some (.inl (sv (tiA N A t) 4 0))) σ')
    (k0 : ¬ (1 ≤ n ∧ n ≤ 50) → P (some (.inl (-1))) σ) : Ctr m_TM_tick 11 [.inr (Y 0), .inl n] σ P := by
  have b1 := h.1.2.1.1
  have no : ¬ (1 ≤ n ∧ n ≤ 50) → Wp m_TM_tick 11 11 (largs 0 [.inr (Y 0), .inl n]) [] σ (fun v σ' => RV m_TM_tick.2.2.2 v ∧ P v σ') := by
    intro hy
    refine p_iconst (x := (-1)) e_TM_tick_11 (by decide) ?_
    refine p_iret e_TM_tick_12 (rv_i ?_)
    exact k0 hy
  refine Ctr.of y_TM_tick (Nat.le_of_ble_eq_true rfl) ?_
  refine p_iload_n e_TM_tick_0 rfl ?_
  refine p_iconst (x := 1) e_TM_tick_1 (by decide) ?_
  refine p_icmp_lt (tgt := 11) e_TM_tick_2 (by decide) (fun h2 => ?_) (fun h2 => ?_)
  · exact no (fun q => absurd h2 (Int32.not_lt.mpr q.1))
  refine p_iload_n e_TM_tick_5 rfl ?_
  refine p_bipush (x := 50) e_TM_tick_6 (by decide) ?_
  refine p_icmp_le (tgt := 13) e_TM_tick_8 (by decide) (fun h8 => ?_) (fun h8 => ?_)
  · have n1 : 1 ≤ n := Int32.not_lt.mp h2
    obtain ⟨t, ht, rfl⟩ : ∃ t, t ≤ 50 ∧ n = nI t := ixle (n := 50) (by omega) (by
      have := Int32.le_iff_toInt_le.mp n1
      exact Int32.le_iff_toInt_le.mpr (Int.le_trans (by decide) this)) h8
    have ht1 : 1 ≤ t := by
      have : nI 1 ≤ nI t := n1
      exact (nI_leI (by omega) (by omega)).mp this
    -- the outer loop, u units done
    have outer : ∀ k u, u + k = t → ∀ (σ1 : PS) (m1 : Nat) (f1 g1 : Nat → Nat), CRx N Y bd hs σ1 (tiA N A u) f1 m1 g1 rf → HK (Y 4) σ σ1 hs → Wp m_TM_tick 11 15 [(2, .inl (nI u)), (0, .inr (Y 0)), (1, .inl (nI t))] [] σ1 (fun v σ' => RV m_TM_tick.2.2.2 v ∧ P v σ') := by
      intro k
      induction k with
      | zero =>
        intro u hu σ1 m1 f1 g1 hc1 hk1
        have e : u = t := by omega
        subst e
        have x1 := hc1.1.2.1.1
        have x4 := hc1.2.2.2.2.1.2.2.1
        refine p_iload_n e_TM_tick_15 rfl ?_
        refine p_iload_n e_TM_tick_16 rfl ?_
        refine p_icmp_ge (tgt := 73) e_TM_tick_17 (by decide) (fun _ => ?_) (fun hx => absurd (nI_le (Nat.le_refl _) (by omega)) hx)
        refine p_aload_n e_TM_tick_73 rfl ?_
        refine p_gIv 458 e_TM_tick_74 f_TM_92 rfl rfl (by assumption) x4 ?_
        refine p_iret e_TM_tick_77 (rv_i ?_)
        exact k1 u σ1 f1 m1 g1 ht1 ht rfl hc1 hk1
      | succ k ih =>
        intro u hu σ1 m1 f1 g1 hc1 hk1
        have x1 := hc1.1.2.1.1
        have x4 := hc1.2.2.2.2.1.2.2.1
        have hQ := (hI.ti u).tm (v := sv (tiA N A u) 4 0 + 1)
        have inner : ∀ k c, c + k = N → ∀ (σ1 : PS) (m1 : Nat) (f1 g1 : Nat → Nat), CRx N Y bd hs σ1 (tuA N (set1 (tiA N A u) 4 0 (sv (tiA N A u) 4 0 + 1)) c) f1 m1 g1 rf → HK (Y 4) σ σ1 hs → Wp m_TM_tick 11 32 [(3, .inl (nI c)), (2, .inl (nI u)), (0, .inr (Y 0)), (1, .inl (nI t))] [] σ1 (fun v σ' => RV m_TM_tick.2.2.2 v ∧ P v σ') := by
          intro k'
          induction k' with
          | zero =>
            intro c hc σ1 m1 f1 g1 hc1 hk1
            have e : c = N := by omega
            subst e
            obtain ⟨a0, ⟨b1, b2, b3, b4, b5, b6, b7, b8, b9⟩, -⟩ := hc1.1
            refine p_iload_n e_TM_tick_32 rfl ?_
            refine p_aload_n e_TM_tick_33 rfl ?_
            refine p_gIv 448 e_TM_tick_34 f_TM_13 rfl rfl (by assumption) b2 ?_
            refine p_icmp_ge (tgt := 67) e_TM_tick_37 (by decide) (fun _ => ?_) (fun hx => absurd (nI_le (Nat.le_refl _) (by omega)) hx)
            refine p_iinc e_TM_tick_67 rfl rfl (by decide) ?_
            refine p_goto (tgt := 15) e_TM_tick_70 (by decide) ?_
            exact Wp.lv2 (ih (u + 1) (by omega) σ1 m1 f1 g1 hc1 hk1) ⟨congrArg (fun z => some (Sum.inl z)) (nI_1 u), rfl, rfl, trivial⟩
          | succ k' ih' =>
            intro c hc σ1 m1 f1 g1 hc1 hk1
            have hcN : c < N := by omega
            have hQ1 := hQ.tu c (by omega)
            have e4 : sv (tuA N (set1 (tiA N A u) 4 0 (sv (tiA N A u) 4 0 + 1)) c) 4 0 = sv (tuA N (set1 (tiA N A u) 4 0 (sv (tiA N A u) 4 0 + 1)) c) 4 0 := rfl
            have ih2 := ih' (c + 1) (by omega)
            unfold tuA at ih2
            generalize hB : tuA N (set1 (tiA N A u) 4 0 (sv (tiA N A u) 4 0 + 1)) c = B at *
            obtain ⟨a0, ⟨b1, b2, b3, b4, b5, b6, b7, b8, b9⟩, -, ⟨d1, d2, d3⟩, -⟩ := hc1.1
            have tc : tg σ1 (Y (200 + c)) = 2 := hc1.1.co hcN
            have v12 := hc1.2.2.2.1.2.1 c hcN
            have v14 := hc1.2.2.2.1.2.2.2.2.2.2.2.1 c hcN
            have v19 := hc1.2.2.2.1.2.2.2.2.2.2.1 c hcN
            have w4 := hc1.2.2.2.2.1.2.2.1
            refine p_iload_n e_TM_tick_32 rfl ?_
            refine p_aload_n e_TM_tick_33 rfl ?_
            refine p_gIv 448 e_TM_tick_34 f_TM_13 rfl rfl (by assumption) b2 ?_
            refine p_icmp_ge (tgt := 67) e_TM_tick_37 (by decide) (fun hx => absurd hx (nI_ge hcN (by omega))) (fun _ => ?_)
            refine p_aload_n e_TM_tick_40 rfl ?_
            refine p_gRv 454 e_TM_tick_41 f_TM_38 rfl rfl (by assumption) b6 ?_
            refine p_iload_n e_TM_tick_44 rfl ?_
            refine p_aaldv e_TM_tick_45 (ti := 4) (n := c) (v := Y (200 + c)) (by decide) d1 rfl (by omega) (by omega) (d3 c hcN).1 ?_
            refine p_aload_n e_TM_tick_46 rfl ?_
            refine p_gIv 458 e_TM_tick_47 f_TM_92 rfl rfl (by assumption) w4 ?_
            refine p_inv (ci := 1) (d' := 1) [_] _ e_TM_tick_50 c_TM_101 k_Core_isDue i_Core_isDue s_Core_isDue rfl rfl (by assumption) rfl rfl (Nat.le_of_ble_eq_true rfl) (Nat.le_of_ble_eq_true rfl) ?_
            refine sp_Core_isDue tc (fun z1 z2 z3 => ?_) (fun z => ?_)
            · refine p_if_eq (tgt := 61) e_TM_tick_53 (by decide) (fun hx => absurd hx ((by decide))) (fun _ => ?_)
              rw [v12] at z1
              rw [v14] at z2
              rw [v19] at z3
              rw [if_pos ⟨z1, z2, z3⟩] at ih2
              obtain ⟨⟨b', hb', e15⟩, e12, e13, e14⟩ := hQ1.2.1.1 c hcN
              refine p_aload_n e_TM_tick_56 rfl ?_
              refine p_iload_n e_TM_tick_57 rfl ?_
              refine p_inv (ci := 7) (d' := 10) [_] _ e_TM_tick_58 c_TM_104 k_TM_askAgain i_TM_askAgain s_TM_askAgain rfl rfl (by assumption) rfl rfl (Nat.le_of_ble_eq_true rfl) (Nat.le_of_ble_eq_true rfl) ?_
              refine sp_askAgain hcN e13 hQ1.1.b67 (fun x hx => ?_) hh hc1 (fun σ2 f2 m2 g2 hc2 hk2 => ?_)
              · rw [e15]
                exact (LI.ak ((hQ1.1.set (by unfold rel; omega)).set (by unfold rel; omega)) hcN hb' rwk_12 x hx).b67
              · refine p_iinc e_TM_tick_61 rfl rfl (by decide) ?_
                refine p_goto (tgt := 32) e_TM_tick_64 (by decide) ?_
                exact Wp.lv2 (ih2 σ2 m2 f2 g2 hc2 (hk1.tr hk2)) ⟨congrArg (fun z => some (Sum.inl z)) (nI_1 c), rfl, rfl, rfl, trivial⟩
            · refine p_if_eq (tgt := 61) e_TM_tick_53 (by decide) (fun _ => ?_) (fun hx => absurd (rfl) hx)
              rw [v12, v14, v19] at z
              rw [if_neg z] at ih2
              refine p_iinc e_TM_tick_61 rfl rfl (by decide) ?_
              refine p_goto (tgt := 32) e_TM_tick_64 (by decide) ?_
              exact Wp.lv2 (ih2 σ1 m1 f1 g1 hc1 hk1) ⟨congrArg (fun z => some (Sum.inl z)) (nI_1 c), rfl, rfl, rfl, trivial⟩
        refine p_iload_n e_TM_tick_15 rfl ?_
        refine p_iload_n e_TM_tick_16 rfl ?_
        refine p_icmp_ge (tgt := 73) e_TM_tick_17 (by decide) (fun hx => absurd hx (nI_ge (by omega) (by omega))) (fun _ => ?_)
        refine p_aload_n e_TM_tick_20 rfl ?_
        refine p_dup e_TM_tick_21 ?_
        refine p_gIv 458 e_TM_tick_22 f_TM_92 rfl rfl (by assumption) x4 ?_
        refine p_iconst (x := 1) e_TM_tick_25 (by decide) ?_
        refine p_iadd e_TM_tick_26 ?_
        refine p_pI 458 e_TM_tick_27 f_TM_92 rfl rfl (fun q h => by cases h; exact Or.inl rfl) rfl (by assumption) ?_
        refine p_iconst (x := 0) e_TM_tick_30 (by decide) ?_
        refine p_istore_n e_TM_tick_31 (by decide) ?_
        exact Wp.lv2 (inner N 0 (by omega) _ m1 f1 g1 (cw_time hc1) (hk1.tr (HK.put (Or.inl (by omega))))) ⟨rfl, rfl, rfl, rfl, trivial⟩
    refine p_iconst (x := 0) e_TM_tick_13 (by decide) ?_
    refine p_istore_n e_TM_tick_14 (by decide) ?_
    exact Wp.lv2 (outer t 0 (by omega) σ m f g h HK.rf) ⟨rfl, rfl, rfl, trivial⟩
  · exact no (fun q => absurd q.2 (fun z => h8 z))
set_option maxHeartbeats 4000000 in
theorem sp_TM_deliver {i : Int32} (hI : QI N T A) (h : CRx N Y bd [] σ A f m g rf)
    (k1 : ∀ j σ' f' m' g' rf' q, j < ln A → i = nI j → q ≤ 1 → CRx N Y (bd.1, bd.2.1, bd.2.2 + q) [] σ' (dlA N A j) f' m' g' rf' → HK (Y 4) σ σ' [] → P (some (.inl (sv A 29 j))) σ')
    (k0 : ¬ (0 ≤ i ∧ i < nI (ln A)) → P (some (.inl (-1))) σ) : Ctr m_TM_deliver 14 [.inr (Y 0), .inl i] σ P := by
  obtain ⟨a0, ⟨b1, b2, b3, b4, b5, b6, b7, b8, b9⟩, -⟩ := h.1
  have t5 := (h.1.2.2.2.2.2.2.1).1
  have hb66 := hI.1.bound
  refine Ctr.of y_TM_deliver (Nat.le_of_ble_eq_true rfl) ?_
  refine p_aload_n e_TM_deliver_0 rfl ?_
  refine p_gRv 457 e_TM_deliver_1 f_TM_67 rfl rfl (by assumption) b9 ?_
  refine p_iload_n e_TM_deliver_4 rfl ?_
  refine p_inv (ci := 4) (d' := 2) [_] _ e_TM_deliver_5 c_TM_107 k_Mail_has i_Mail_has s_Mail_has rfl rfl (by assumption) rfl rfl (Nat.le_of_ble_eq_true rfl) (Nat.le_of_ble_eq_true rfl) ?_
  refine sp_Mail_has h (fun z1 z2 => ?_) (fun z => ?_)
  · refine p_if_ne (tgt := 13) e_TM_deliver_8 (by decide) (fun _ => ?_) (fun hx => absurd hx ((by decide)))
    obtain ⟨j, hj, rfl⟩ := ix (by omega) z1 z2
    refine p_aload_n e_TM_deliver_13 rfl ?_
    refine p_gRv 457 e_TM_deliver_14 f_TM_67 rfl rfl (by assumption) b9 ?_
    refine p_iload_n e_TM_deliver_17 rfl ?_
    refine p_inv (ci := 4) (d' := 4) [_] _ e_TM_deliver_18 c_TM_110 k_Mail_take i_Mail_take s_Mail_take rfl rfl (by assumption) rfl rfl (Nat.le_of_ble_eq_true rfl) (Nat.le_of_ble_eq_true rfl) ?_
    refine sp_Mail_take h hj (fun σ1 hc1 hk1 => ?_)
    have tl : tg σ1 (f j) = 4 := (hc1.2.2.2.2.2.1.2.2.2.2.2.2.2.1 (f j) List.mem_cons_self).1
    obtain ⟨-, l1, l2, l3, l4, l5, l6, l7, l8, l9, l10, l11⟩ := h.2.2.2.2.2.1.2.2.1 j hj
    obtain ⟨⟨t, s, b, v1, v2, v3, v4, v5, v6, v7⟩, ⟨z1', z2', z3'⟩, w3, w4, w5⟩ := hI.1.2.1 j hj
    have kp : ∀ k, 192 ≤ k → k ≤ 202 → fi σ1 k (f j) = fi σ k (f j) := fun k q1 q2 => hk1.1 (f j) List.mem_cons_self k q1 q2
    have y1 : fi σ1 192 (f j) = sv A 29 j := (kp 192 (by omega) (by omega)).trans l1
    have y2 : fi σ1 193 (f j) = nI s := ((kp 193 (by omega) (by omega)).trans l2).trans v5
    have y3 : fi σ1 194 (f j) = nI t := ((kp 194 (by omega) (by omega)).trans l3).trans v4
    have y4 : fi σ1 195 (f j) = nI b := ((kp 195 (by omega) (by omega)).trans l4).trans v6
    have y5 : fi σ1 196 (f j) = sv A 33 j := (kp 196 (by omega) (by omega)).trans l5
    have y6 : fi σ1 197 (f j) = sv A 34 j := (kp 197 (by omega) (by omega)).trans l6
    have y7 : fi σ1 198 (f j) = sv A 35 j := (kp 198 (by omega) (by omega)).trans l7
    have y8 : fi σ1 199 (f j) = sv A 36 j := (kp 199 (by omega) (by omega)).trans l8
    have y9 : fi σ1 200 (f j) = sv A 37 j := (kp 200 (by omega) (by omega)).trans l9
    have y10 : fi σ1 201 (f j) = sv A 38 j := (kp 201 (by omega) (by omega)).trans l10
    have y11 : fi σ1 202 (f j) = sv A 39 j := (kp 202 (by omega) (by omega)).trans l11
    have ed : dlA N A j = dlX N A j t s b := by
      unfold dlA
      rw [v4, v5, v6, nt_nI (by omega), nt_nI (by omega), nt_nI (by omega)]
    have hlk : LK N A j t s b := ⟨v1, v2, v3, v4, v5, v6⟩
    have tail : ∀ (σ2 : PS) (f2 : Nat → Nat) (m2 : Nat) (g2 : Nat → Nat) (rf2 : Nat → Nat → Nat) (q : Nat), q ≤ 1 → CRx N Y (bd.1, bd.2.1, bd.2.2 + q) [f j] σ2 (dlX N A j t s b) f2 m2 g2 rf2 → HK (Y 4) σ1 σ2 [f j] → Wp m_TM_deliver 14 153 [(3, .inl (sv A 29 j)), (2, .inr (f j)), (0, .inr (Y 0)), (1, .inl (nI j))] [] σ2 (fun v σ' => RV m_TM_deliver.2.2.2 v ∧ P v σ') := by
      intro σ2 f2 m2 g2 rf2 q hq hc2 hk2
      have x1 := hc2.1.2.1.1
      have x9 := hc2.1.2.1.2.2.2.2.2.2.2.2
      have x5 := (hc2.1.2.2.2.2.2.2.1).1
      refine p_aload_n e_TM_deliver_153 rfl ?_
      refine p_gRv 457 e_TM_deliver_154 f_TM_67 rfl rfl (by assumption) x9 ?_
      refine p_aload_n e_TM_deliver_157 rfl ?_
      refine p_inv (ci := 4) (d' := 7) [_] _ e_TM_deliver_158 c_TM_156 k_Mail_giveBack i_Mail_giveBack s_Mail_giveBack rfl rfl (by assumption) rfl rfl (Nat.le_of_ble_eq_true rfl) (Nat.le_of_ble_eq_true rfl) ?_
      refine sp_Mail_giveBack hc2 (fun σ3 g3 hc3 hk3 => ?_)
      refine p_iload_n e_TM_deliver_161 rfl ?_
      refine p_iret e_TM_deliver_162 (rv_i ?_)
      exact k1 j σ3 f2 (m2 + 1) g3 rf2 q hj rfl hq (by rw [ed]; exact hc3) ((hk1.tr hk2).sub.tr hk3)
    have x1 := hc1.1.2.1.1
    have hr := hI.2.rmL hj
    have hb1 : sv A 29 j ≠ 3 → IV N (rmL A j) z0 z0 := fun q => ⟨hI.1.rm0 hj q, hr.1⟩
    refine p_astore_n e_TM_deliver_21 (by decide) ?_
    refine p_aload_n e_TM_deliver_22 rfl ?_
    refine p_gIv 192 e_TM_deliver_23 f_TM_114 rfl rfl (by assumption) y1 ?_
    refine p_istore_n e_TM_deliver_26 (by decide) ?_
    refine p_iload_n e_TM_deliver_27 rfl ?_
    unfold dlX at tail
    rcases v7 with ⟨k, y⟩ | ⟨k, y⟩ | k | ⟨k, y, y2'⟩ | ⟨k, y, y2'⟩ | ⟨k, y, y2', y3'⟩
    · rw [if_pos k] at tail
      have hI1 := hb1 (by rw [k]; decide)
      refine p_top k ?_
      refine p_tableIn (tgt := 64) (off := 36) e_TM_deliver_28 (by decide) (by decide) (by decide) (by decide) ?_
      refine p_aload_n e_TM_deliver_64 rfl ?_
      refine p_aload_n e_TM_deliver_65 rfl ?_
      refine p_gIv 194 e_TM_deliver_66 f_TM_119 rfl rfl (by assumption) y3 ?_
      refine p_aload_n e_TM_deliver_69 rfl ?_
      refine p_gIv 195 e_TM_deliver_70 f_TM_122 rfl rfl (by assumption) y4 ?_
      refine p_aload_n e_TM_deliver_73 rfl ?_
      refine p_gIv 193 e_TM_deliver_74 f_TM_125 rfl rfl (by assumption) y2 ?_
      refine p_inv (ci := 7) (d' := 10) [_, _, _] _ e_TM_deliver_77 c_TM_128 k_TM_onRead i_TM_onRead s_TM_onRead rfl rfl (by assumption) rfl rfl (Nat.le_of_ble_eq_true rfl) (Nat.le_of_ble_eq_true rfl) ?_
      refine sp_onRead v1 v3 hI1.1.b67 (Nat.le_refl _) hc1 (fun σ2 f2 m2 g2 hc2 hk2 => ?_)
      refine p_goto (tgt := 153) e_TM_deliver_80 (by decide) ?_
      exact Wp.lv2 (tail σ2 f2 m2 g2 _ 0 (by omega) hc2 hk2) ⟨rfl, rfl, rfl, rfl, trivial⟩
    · rw [if_neg (by rw [k]; decide), if_pos k] at tail
      have hI1 := hb1 (by rw [k]; decide)
      refine p_top k ?_
      refine p_tableIn (tgt := 83) (off := 55) e_TM_deliver_28 (by decide) (by decide) (by decide) (by decide) ?_
      refine p_aload_n e_TM_deliver_83 rfl ?_
      refine p_aload_n e_TM_deliver_84 rfl ?_
      refine p_gIv 194 e_TM_deliver_85 f_TM_119 rfl rfl (by assumption) y3 ?_
      refine p_aload_n e_TM_deliver_88 rfl ?_
      refine p_gIv 195 e_TM_deliver_89 f_TM_122 rfl rfl (by assumption) y4 ?_
      refine p_aload_n e_TM_deliver_92 rfl ?_
      refine p_gIv 193 e_TM_deliver_93 f_TM_125 rfl rfl (by assumption) y2 ?_
      refine p_inv (ci := 7) (d' := 10) [_, _, _] _ e_TM_deliver_96 c_TM_132 k_TM_onWrite i_TM_onWrite s_TM_onWrite rfl rfl (by assumption) rfl rfl (Nat.le_of_ble_eq_true rfl) (Nat.le_of_ble_eq_true rfl) ?_
      refine sp_onWrite v1 v3 (hI1.1.own v1 v3) hI1.1.b67 (Nat.le_refl _) hc1 (fun σ2 f2 m2 g2 hc2 hk2 => ?_)
      refine p_goto (tgt := 153) e_TM_deliver_99 (by decide) ?_
      exact Wp.lv2 (tail σ2 f2 m2 g2 _ 0 (by omega) hc2 hk2) ⟨rfl, rfl, rfl, rfl, trivial⟩
    · rw [if_neg (by rw [k]; decide), if_neg (by rw [k]; decide), if_pos k] at tail
      obtain ⟨⟨ct, c1, c2, c3⟩, -⟩ := w3 k
      have hI1 : IV N (gtA (rmL A j) (2 * t + b) (sv A 33 j) (sv A 34 j) (sv A 35 j) (sv A 36 j)) (fun _ => 0) (fun _ => 0) := ⟨hI.1.gt0 hj hlk k ⟨c1, c2⟩ c3, hr.gt.1⟩
      refine p_top k ?_
      refine p_tableIn (tgt := 102) (off := 74) e_TM_deliver_28 (by decide) (by decide) (by decide) (by decide) ?_
      refine p_aload_n e_TM_deliver_102 rfl ?_
      refine p_aload_n e_TM_deliver_103 rfl ?_
      refine p_inv (ci := 7) (d' := 11) [_] _ e_TM_deliver_104 c_TM_135 k_TM_onTokens i_TM_onTokens s_TM_onTokens rfl rfl (by assumption) rfl rfl (Nat.le_of_ble_eq_true rfl) (Nat.le_of_ble_eq_true rfl) ?_
      refine sp_onTokens List.mem_cons_self v1 v3 y3 y4 y5 y6 y7 y8 hI1 (Nat.le_refl _) hc1 (fun σ2 f2 m2 g2 hc2 hk2 => ?_)
      refine p_goto (tgt := 153) e_TM_deliver_107 (by decide) ?_
      exact Wp.lv2 (tail σ2 f2 m2 g2 _ 0 (by omega) hc2 hk2) ⟨rfl, rfl, rfl, rfl, trivial⟩
    · rw [if_neg (by rw [k]; decide), if_neg (by rw [k]; decide), if_neg (by rw [k]; decide), if_pos k] at tail
      have hI1 := hb1 (by rw [k]; decide)
      have hr4 := pl_r3 hr.2.1 hI1 y v3 (LK.po hI hj hlk k y)
      refine p_top k ?_
      refine p_tableIn (tgt := 110) (off := 82) e_TM_deliver_28 (by decide) (by decide) (by decide) (by decide) ?_
      refine p_aload_n e_TM_deliver_110 rfl ?_
      refine p_aload_n e_TM_deliver_111 rfl ?_
      refine p_gIv 193 e_TM_deliver_112 f_TM_125 rfl rfl (by assumption) y2 ?_
      refine p_aload_n e_TM_deliver_115 rfl ?_
      refine p_gIv 195 e_TM_deliver_116 f_TM_122 rfl rfl (by assumption) y4 ?_
      refine p_aload_n e_TM_deliver_119 rfl ?_
      refine p_gIv 200 e_TM_deliver_120 f_TM_139 rfl rfl (by assumption) y9 ?_
      refine p_aload_n e_TM_deliver_123 rfl ?_
      refine p_gIv 202 e_TM_deliver_124 f_TM_142 rfl rfl (by assumption) y11 ?_
      refine p_inv (ci := 7) (d' := 13) [_, _, _, _] _ e_TM_deliver_127 c_TM_145 k_TM_onPlease i_TM_onPlease s_TM_onPlease rfl rfl (by assumption) rfl rfl (Nat.le_of_ble_eq_true rfl) (Nat.le_of_ble_eq_true rfl) ?_
      refine sp_onPlease y v3 z3' hI1 (by omega) (Nat.le_refl _) hc1 (fun σ2 f2 m2 g2 rf2 q hq hc2 hk2 => ?_)
      refine p_goto (tgt := 153) e_TM_deliver_130 (by decide) ?_
      exact Wp.lv2 (tail σ2 f2 m2 g2 rf2 q hq hc2 hk2) ⟨rfl, rfl, rfl, rfl, trivial⟩
    · rw [if_neg (by rw [k]; decide), if_neg (by rw [k]; decide), if_neg (by rw [k]; decide), if_neg (by rw [k]; decide), if_pos k] at tail
      have hI1 := hb1 (by rw [k]; decide)
      refine p_top k ?_
      refine p_tableIn (tgt := 133) (off := 105) e_TM_deliver_28 (by decide) (by decide) (by decide) (by decide) ?_
      refine p_aload_n e_TM_deliver_133 rfl ?_
      refine p_aload_n e_TM_deliver_134 rfl ?_
      refine p_inv (ci := 7) (d' := 11) [_] _ e_TM_deliver_135 c_TM_149 k_TM_onKnow i_TM_onKnow s_TM_onKnow rfl rfl (by assumption) rfl rfl (Nat.le_of_ble_eq_true rfl) (Nat.le_of_ble_eq_true rfl) ?_
      refine sp_onKnow List.mem_cons_self v1 v3 z3' w5 y3 y4 y9 y10 y11 hI1 (Nat.le_refl _) hc1 (fun σ2 f2 m2 g2 hc2 hk2 => ?_)
      refine p_goto (tgt := 153) e_TM_deliver_138 (by decide) ?_
      exact Wp.lv2 (tail σ2 f2 m2 g2 _ 0 (by omega) hc2 hk2) ⟨rfl, rfl, rfl, rfl, trivial⟩
    · rw [if_neg (by rw [k]; decide), if_neg (by rw [k]; decide), if_neg (by rw [k]; decide), if_neg (by rw [k]; decide), if_neg (by rw [k]; decide)] at tail
      have hI1 := hb1 (by rw [k]; decide)
      refine p_top k ?_
      refine p_tableOut (tgt := 141) e_TM_deliver_28 (Or.inr (by decide)) (by decide) ?_
      refine p_aload_n e_TM_deliver_141 rfl ?_
      refine p_aload_n e_TM_deliver_142 rfl ?_
      refine p_gIv 193 e_TM_deliver_143 f_TM_125 rfl rfl (by assumption) y2 ?_
      refine p_aload_n e_TM_deliver_146 rfl ?_
      refine p_gIv 200 e_TM_deliver_147 f_TM_139 rfl rfl (by assumption) y9 ?_
      refine p_inv (ci := 7) (d' := 12) [_, _] _ e_TM_deliver_150 c_TM_152 k_TM_lapse i_TM_lapse s_TM_lapse rfl rfl (by assumption) rfl rfl (Nat.le_of_ble_eq_true rfl) (Nat.le_of_ble_eq_true rfl) ?_
      refine sp_lapse y hI1 (Nat.le_refl _) hc1 (fun σ2 f2 m2 g2 rf2 hc2 hk2 => ?_)
      exact Wp.lv2 (tail σ2 f2 m2 g2 rf2 0 (by omega) hc2 hk2) ⟨rfl, rfl, rfl, rfl, trivial⟩
  · refine p_if_ne (tgt := 13) e_TM_deliver_8 (by decide) (fun hx => absurd (rfl) hx) (fun _ => ?_)
    refine p_iconst (x := (-1)) e_TM_deliver_11 (by decide) ?_
    refine p_iret e_TM_deliver_12 (rv_i ?_)
    exact k0 z
end Pub3
