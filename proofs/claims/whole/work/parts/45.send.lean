/-! sending a letter -/
theorem sp_Letter_init {σ : PS} {r : Nat} {P : Option PV → PS → Prop} (h0 : r ≠ 0) (hP : P none σ) : Ctr m_Letter_init 1 [.inr r] σ P := by
  refine Ctr.of y_Letter_init (Nat.le_of_ble_eq_true rfl) ?_
  refine p_aload_n e_Letter_init_0 rfl ?_
  refine p_oinit e_Letter_init_1 c_Letter_3 i_oi q_oi h0 (Nat.le_of_ble_eq_true rfl) (by decide) ?_
  refine p_ret e_Letter_init_4 (rv_v ?_)
  exact hP
section Send
variable {N : Nat} {Y : Nat → Nat} {bd : Nat × Nat × Nat} {hs : List Nat} {σ : PS} {A : AS} {f : Nat → Nat} {m : Nat} {g : Nat → Nat} {rf : Nat → Nat → Nat} {P : Option PV → PS → Prop}
theorem CRx.adr {x : Nat} {kd fm to bl : Int32} (h : CRx N Y bd (x :: hs) σ A f m g rf) : CRx N Y bd (x :: hs) (adr σ x kd fm to bl) A f m g rf :=
  have m1 : x ∈ x :: hs := List.mem_cons_self
  ch_202 (ch_201 (ch_200 (ch_199 (ch_198 (ch_197 (ch_196 (ch_195 (ch_194 (ch_193 (ch_192 h m1) m1) m1) m1) m1) m1) m1) m1) m1) m1) m1
theorem hk_adr {x : Nat} {kd fm to bl : Int32} (h : x ∉ hs) : HK (Y 4) σ (adr σ x kd fm to bl) hs := by
  unfold Jvm.Pilot.@@N@@.adr
  exact (((((((((((HK.put (Or.inr h)).tr (HK.put (Or.inr h))).tr (HK.put (Or.inr h))).tr (HK.put (Or.inr h))).tr (HK.put (Or.inr h))).tr (HK.put (Or.inr h))).tr (HK.put (Or.inr h))).tr (HK.put (Or.inr h))).tr (HK.put (Or.inr h))).tr (HK.put (Or.inr h))).tr (HK.put (Or.inr h)))
theorem rd_ne {i j a b : Nat} {v : Int32} (h : ¬ j = i) : fi (pfi σ i a v) j b = fi σ j b := (fi_pfi).trans (if_neg (fun z => h z.1))
theorem rd_eq {i a : Nat} {v : Int32} : fi (pfi σ i a v) i a = v := (fi_pfi).trans (if_pos ⟨rfl, rfl⟩)
theorem adr_vals {x : Nat} {kd fm to bl : Int32} : fi (adr σ x kd fm to bl) 192 x = nwL kd fm to bl 29 ∧ fi (adr σ x kd fm to bl) 193 x = nwL kd fm to bl 31 ∧ fi (adr σ x kd fm to bl) 194 x = nwL kd fm to bl 30 ∧ fi (adr σ x kd fm to bl) 195 x = nwL kd fm to bl 32 ∧ fi (adr σ x kd fm to bl) 196 x = nwL kd fm to bl 33 ∧ fi (adr σ x kd fm to bl) 197 x = nwL kd fm to bl 34 ∧ fi (adr σ x kd fm to bl) 198 x = nwL kd fm to bl 35 ∧ fi (adr σ x kd fm to bl) 199 x = nwL kd fm to bl 36 ∧ fi (adr σ x kd fm to bl) 200 x = nwL kd fm to bl 37 ∧ fi (adr σ x kd fm to bl) 201 x = nwL kd fm to bl 38 ∧ fi (adr σ x kd fm to bl) 202 x = nwL kd fm to bl 39 := by
  refine ⟨?_, ?_, ?_, ?_, ?_, ?_, ?_, ?_, ?_, ?_, ?_⟩ <;> simp only [adr, rd_ne, rd_eq, Nat.reduceEqDiff, not_false_eq_true] <;> rfl
set_option maxHeartbeats 4000000 in
theorem sp_send {kd fm to bl : Int32} (hn : ln A ≤ 67) (hh : hs.length ≤ 1) (h : CRx N Y bd hs σ A f m g rf) (hP : ∀ σ' f' m' g', CRx N Y bd hs σ' (sdL A kd fm to bl) f' m' g' rf → HK (Y 4) σ σ' hs → P (some (.inr (f' (ln (dpL A kd fm to bl))))) σ') : Ctr m_Mail_send 8 [.inr (Y 5), .inl kd, .inl fm, .inl to, .inl bl] σ P := by
  have hle := dpL_le A kd fm to bl
  obtain ⟨A1, hA1⟩ : ∃ A1, A1 = dpL A kd fm to bl := ⟨_, rfl⟩
  have hsd : sdL A kd fm to bl = apL A1 (nwL kd fm to bl) := by rw [hA1]; rfl
  rw [hsd] at hP
  rw [← hA1] at hP hle
  obtain ⟨t5, t6, t7⟩ := h.1.2.2.2.2.2.2.1
  have fin : ∀ (σ2 : PS) (x m2 : Nat) (f2 g2 : Nat → Nat), CRx N Y bd (x :: hs) σ2 A1 f2 m2 g2 rf → HK (Y 4) σ σ2 hs → Wp m_Mail_send 8 53 [(0, .inr (Y 5)), (1, .inl kd), (2, .inl fm), (3, .inl to), (4, .inl bl)] [.inr x] σ2 (fun v σ' => RV m_Mail_send.2.2.2 v ∧ P v σ') := by
    intro σ2 x m2 f2 g2 hc hk
    have tx : tg σ2 x = 4 := (hc.2.2.2.2.2.1.2.2.2.2.2.2.2.1 x List.mem_cons_self).1
    have nd := (List.nodup_cons.mp hc.2.2.2.2.2.1.2.2.2.2.2.2.2.2.1).1
    refine p_astore e_Mail_send_53 (by decide) ?_
    refine p_aload e_Mail_send_55 rfl ?_
    refine p_iload_n e_Mail_send_57 rfl ?_
    refine p_iload_n e_Mail_send_58 rfl ?_
    refine p_iload_n e_Mail_send_59 rfl ?_
    refine p_iload e_Mail_send_60 rfl ?_
    refine p_inv (ci := 3) (d' := 1) [_, _, _, _] _ e_Mail_send_62 c_Mail_47 k_Letter_address i_Letter_address s_Letter_address rfl rfl (by assumption) rfl rfl (Nat.le_of_ble_eq_true rfl) (Nat.le_of_ble_eq_true rfl) ?_
    refine sp_Letter_address tx ?_
    have hc3 := CRx.adr (kd := kd) (fm := fm) (to := to) (bl := bl) hc
    have hk3 : HK (Y 4) σ (adr σ2 x kd fm to bl) hs := hk.tr (hk_adr nd)
    obtain ⟨c1, c2, c3, c4, c5, ⟨b1, b2, b3, b4, b5, b6, b7, b8, b9, b10⟩, c7, c8, c9, c10⟩ := id hc3
    obtain ⟨u5, u6, u7⟩ := c1.2.2.2.2.2.2.1
    have tw := b1.1
    have tx3 : tg (adr σ2 x kd fm to bl) x = 4 := tx
    refine p_aload_n e_Mail_send_65 rfl ?_
    refine p_gRv 256 e_Mail_send_66 f_Mail_12 rfl rfl (by assumption) u6 ?_
    refine p_aload e_Mail_send_69 rfl ?_
    refine p_inv (ci := 0) (d' := 6) [_] _ e_Mail_send_71 c_Mail_34 k_AL_add1 i_AL_add1 s_AL_add1 rfl rfl (by assumption) rfl rfl (Nat.le_of_ble_eq_true rfl) (Nat.le_of_ble_eq_true rfl) ?_
    refine sp_AL_add c2 b1 (by omega) (Or.inl tx3) (fun σ4 hA => ?_)
    refine p_pop e_Mail_send_74 ?_
    refine p_aload e_Mail_send_75 rfl ?_
    refine p_aret e_Mail_send_77 (rv_o ?_)
    have h4 := hP σ4 _ _ _ (hc3.adW hA (G := nwL kd fm to bl) adr_vals) (hk3.tr (HK.lf hA.1))
    rw [va_up_self] at h4
    exact h4
  have mid : ∀ (σ1 : PS) (m1 : Nat) (f1 g1 : Nat → Nat), CRx N Y bd hs σ1 A1 f1 m1 g1 rf → HK (Y 4) σ σ1 hs → Wp m_Mail_send 8 14 [(0, .inr (Y 5)), (1, .inl kd), (2, .inl fm), (3, .inl to), (4, .inl bl)] [] σ1 (fun v σ' => RV m_Mail_send.2.2.2 v ∧ P v σ') := by
    intro σ1 m1 f1 g1 hc hk
    obtain ⟨c1, c2, c3, c4, c5, ⟨b1, b2, b3, b4, b5, b6, b7, b8, b9, b10⟩, c7, c8, c9, c10⟩ := id hc
    obtain ⟨u5, u6, u7⟩ := c1.2.2.2.2.2.2.1
    have ts := b2.1
    have ss := b2.2.1
    refine p_aload_n e_Mail_send_14 rfl ?_
    refine p_gRv 257 e_Mail_send_15 f_Mail_18 rfl rfl (by assumption) u7 ?_
    refine p_inv (ci := 0) (d' := 1) [] _ e_Mail_send_18 c_Mail_42 k_AL_isEmpty i_AL_isEmpty s_AL_isEmpty rfl rfl (by assumption) rfl rfl (Nat.le_of_ble_eq_true rfl) (Nat.le_of_ble_eq_true rfl) ?_
    refine sp_AL_isEmpty ts ?_
    rw [ss]
    by_cases hm : m1 = 0
    · subst hm
      rw [if_pos nI_0]
      refine p_if_eq (tgt := 34) e_Mail_send_21 (by decide) (fun hx => absurd hx ((by decide))) (fun _ => ?_)
      refine p_new (ci := 3) (N := 11) e_Mail_send_24 rfl rfl l_Mail_29 n_Letter w_55 ?_
      have hn0 : nx σ1 ≠ 0 := by have := c2.1.1; omega
      refine p_dup e_Mail_send_27 ?_
      refine p_initN (d' := 1) [] _ e_Mail_send_28 c_Mail_46 k_Letter_init i_Letter_init rfl rfl (hn0) rfl rfl (Nat.le_of_ble_eq_true rfl) (Nat.le_of_ble_eq_true rfl) ?_
      refine sp_Letter_init hn0 ?_
      refine p_goto (tgt := 53) e_Mail_send_31 (by decide) ?_
      refine Wp.lv [(0, .inr (Y 5)), (1, .inl kd), (2, .inl fm), (3, .inl to), (4, .inl bl)] ⟨rfl, rfl, rfl, rfl, rfl, trivial⟩ ?_
      refine fin (pnew σ1 3 11) (nx σ1) 0 f1 g1 (hc.nwH (by omega)) (hk.tr (HK.new (fun y hy => c2.lt (r := y) (by have := (b8 y hy).1; omega))))
    · have hne : ¬ nI m1 = 0 := nI_ne0 (by omega) (by omega)
      rw [if_neg hne]
      refine p_if_eq (tgt := 34) e_Mail_send_21 (by decide) (fun _ => ?_) (fun hx => absurd (rfl) hx)
      have e1 : nI m1 - 1 = nI (m1 - 1) := by
        obtain ⟨k, rfl⟩ : ∃ k, m1 = k + 1 := ⟨m1 - 1, by omega⟩
        exact nI_pred k
      refine p_aload_n e_Mail_send_34 rfl ?_
      refine p_gRv 257 e_Mail_send_35 f_Mail_18 rfl rfl (by assumption) u7 ?_
      refine p_aload_n e_Mail_send_38 rfl ?_
      refine p_gRv 257 e_Mail_send_39 f_Mail_18 rfl rfl (by assumption) u7 ?_
      refine p_inv (ci := 0) (d' := 1) [] _ e_Mail_send_42 c_Mail_21 k_AL_size i_AL_size s_AL_size rfl rfl (by assumption) rfl rfl (Nat.le_of_ble_eq_true rfl) (Nat.le_of_ble_eq_true rfl) ?_
      refine sp_AL_size ts ?_
      rw [ss]
      refine p_iconst (x := 1) e_Mail_send_45 (by decide) ?_
      refine p_isub e_Mail_send_46 ?_
      refine p_top e1 ?_
      refine p_inv (ci := 0) (d' := 3) [_] _ e_Mail_send_47 c_Mail_31 k_AL_remove i_AL_remove s_AL_remove rfl rfl (by assumption) rfl rfl (Nat.le_of_ble_eq_true rfl) (Nat.le_of_ble_eq_true rfl) ?_
      refine sp_AL_remove b2 (by omega) (fun σ2 hR => ?_)
      have ht : tg σ2 (g1 (m1 - 1)) = 4 := by rw [hR.2.2.2.2.1]; exact b4 _ (by omega)
      refine p_cast (ci := 3) e_Mail_send_50 l_Mail_29 ⟨_, rfl, Or.inl rfl⟩ (by assumption) ⟨3, _, rfl, rfl⟩ ?_
      refine Wp.lv [(0, .inr (Y 5)), (1, .inl kd), (2, .inl fm), (3, .inl to), (4, .inl bl)] ⟨rfl, rfl, rfl, rfl, rfl, trivial⟩ ?_
      exact fin σ2 _ _ _ _ (hc.rmS (by omega) hR) (hk.tr (HK.lf hR.1))
  refine Ctr.of y_Mail_send (Nat.le_of_ble_eq_true rfl) ?_
  refine p_iload_n e_Mail_send_0 rfl ?_
  refine p_iconst (x := 3) e_Mail_send_1 (by decide) ?_
  refine p_icmp_eq (tgt := 14) e_Mail_send_2 (by decide) (fun h2 => ?_) (fun h2 => ?_)
  · refine Wp.lv [(0, .inr (Y 5)), (1, .inl kd), (2, .inl fm), (3, .inl to), (4, .inl bl)] ⟨rfl, rfl, rfl, rfl, rfl, trivial⟩ ?_
    subst h2
    rw [dpL_3] at hA1
    subst hA1
    exact mid σ m f g h HK.rf
  · refine p_aload_n e_Mail_send_5 rfl ?_
    refine p_iload_n e_Mail_send_6 rfl ?_
    refine p_iload_n e_Mail_send_7 rfl ?_
    refine p_iload_n e_Mail_send_8 rfl ?_
    refine p_iload e_Mail_send_9 rfl ?_
    refine p_inv (ci := 4) (d' := 7) [_, _, _, _] _ e_Mail_send_11 c_Mail_38 k_Mail_dropOlder i_Mail_dropOlder s_Mail_dropOlder rfl rfl (by assumption) rfl rfl (Nat.le_of_ble_eq_true rfl) (Nat.le_of_ble_eq_true rfl) ?_
    refine sp_dropOlder h2 h (fun σ1 f1 m1 g1 hc hk => ?_)
    rw [← hA1] at hc
    refine Wp.lv [(0, .inr (Y 5)), (1, .inl kd), (2, .inl fm), (3, .inl to), (4, .inl bl)] ⟨rfl, rfl, rfl, rfl, rfl, trivial⟩ ?_
    exact mid σ1 m1 f1 g1 hc hk
end Send
