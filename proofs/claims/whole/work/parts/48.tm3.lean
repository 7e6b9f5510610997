/-! what letters do: READ, WRITE, TOKENS, KNOW; the arbiter tells -/
theorem Wp.lv2 {M : MM} {d pc : Nat} {lv lv' : List (Nat × PV)} {st : List PV} {σ : PS} {P : Option PV → PS → Prop} (k : Wp M d pc lv' st σ P) (h : lsub lv lv') : Wp M d pc lv st σ P := Wp.lv lv' h k
noncomputable def rdA (A : AS) (x b : Nat) (c : Int32) : AS := if sv A 9 (2 * x + b) = -1 ∧ sv A 6 (2 * x + b) ≠ 0 then gvA A x b c 1 (if sv A 5 (2 * x + b) = 1 then 1 else 0) 1 else A
noncomputable def wrA (A : AS) (x b : Nat) (c : Int32) : AS := if sv A 9 (2 * x + b) = -1 then gvA A x b c (sv A 5 (2 * x + b)) (sv A 6 (2 * x + b)) (sv A 6 (2 * x + b)) else A
/-- a node learns -/
def lnA (A : AS) (i : Nat) (c w n : Int32) : AS := set1 (set1 (set1 A 9 i c) 10 i w) 11 i n
/-- a node gets a letter's tokens -/
def gtA (A : AS) (i : Nat) (ct ow wd dt : Int32) : AS := if wd = 0 then set1 (set1 A 5 i (sv A 5 i + ct)) 6 i (if sv A 6 i ≠ 0 ∨ ow ≠ 0 then 1 else 0) else set1 (set1 (set1 (set1 A 5 i (sv A 5 i + ct)) 6 i (if sv A 6 i ≠ 0 ∨ ow ≠ 0 then 1 else 0)) 7 i 1) 8 i dt
/-- the cores below c are told of block b -/
noncomputable def tlA (N : Nat) (A : AS) (b : Nat) (co w sr : Int32) : Nat → AS
  | 0 => A
  | c + 1 => set1 (set1 (set1 (sdL (tlA N A b co w sr c) 5 (nI N) (nI c) (nI b)) 38 (ln (dpL (tlA N A b co w sr c) 5 (nI N) (nI c) (nI b))) co) 39 (ln (dpL (tlA N A b co w sr c) 5 (nI N) (nI c) (nI b))) w) 37 (ln (dpL (tlA N A b co w sr c) 5 (nI N) (nI c) (nI b))) sr
theorem sv_tlA {N : Nat} {A : AS} {b : Nat} {co w sr : Int32} {k j : Nat} (hk : ¬ (29 ≤ k ∧ k < 40)) : ∀ c, sv (tlA N A b co w sr c) k j = sv A k j
  | 0 => rfl
  | c + 1 => by
    unfold tlA
    rw [sv_set1, if_neg (by omega), sv_set1, if_neg (by omega), sv_set1, if_neg (by omega), sv_sdL hk]
    exact sv_tlA hk c
def acw (A : AS) (b : Nat) : Int32 := if sv A 40 b = -1 then 0 else if sv A 41 b = 0 then 0 else 1
noncomputable def taA (N : Nat) (A : AS) (b : Nat) : AS := lnA (tlA N A b (sv A 40 b) (acw A b) (sv A 42 b) N) (2 * N + b) (sv A 40 b) (acw A b) (sv A 42 b)
section TM3
variable {N : Nat} {Y : Nat → Nat} {bd : Nat × Nat × Nat} {hs : List Nat} {σ : PS} {A : AS} {f : Nat → Nat} {m : Nat} {g : Nat → Nat} {rf : Nat → Nat → Nat} {P : Option PV → PS → Prop}
set_option maxHeartbeats 4000000 in
theorem sp_onRead {x b : Nat} {c : Int32} (hx : x ≤ N) (hb : b < 2) (hn : ln A ≤ 67) (hh : hs.length ≤ 1) (h : CRx N Y bd hs σ A f m g rf) (hP : ∀ σ' f' m' g', CRx N Y bd hs σ' (rdA A x b c) f' m' g' rf → HK (Y 4) σ σ' hs → P none σ') : Ctr m_TM_onRead 10 [.inr (Y 0), .inl (nI x), .inl (nI b), .inl c] σ P := by
  obtain ⟨a0, ⟨b1, b2, b3, b4, b5, b6, b7, b8, b9⟩, -⟩ := h.1
  have hi : 2 * x + b < 2 * N + 2 := by omega
  have ts : tg σ (Y (100 + (2 * x + b))) = 7 := h.1.sh hi
  obtain ⟨s1, s2, s3, s4, s5, s6, s7⟩ := h.2.2.1
  have v5 := s1 _ hi
  have v6 := s2 _ hi
  have v9 := s5 _ hi
  unfold rdA at hP
  refine Ctr.of y_TM_onRead (Nat.le_of_ble_eq_true rfl) ?_
  refine p_aload_n e_TM_onRead_0 rfl ?_
  refine p_iload_n e_TM_onRead_1 rfl ?_
  refine p_iload_n e_TM_onRead_2 rfl ?_
  refine p_inv (ci := 7) (d' := 1) [_, _] _ e_TM_onRead_3 c_TM_159 k_TM_share i_TM_share s_TM_share rfl rfl (by assumption) rfl rfl (Nat.le_of_ble_eq_true rfl) (Nat.le_of_ble_eq_true rfl) ?_
  refine h.1.share hx hb ?_
  refine p_astore e_TM_onRead_6 (by decide) ?_
  refine p_aload e_TM_onRead_8 rfl ?_
  refine p_gIv 388 e_TM_onRead_10 f_TM_186 rfl rfl (by assumption) v9 ?_
  refine p_iconst (x := (-1)) e_TM_onRead_13 (by decide) ?_
  refine p_icmp_ne (tgt := 25) e_TM_onRead_14 (by decide) (fun h14 => ?_) (fun h14 => ?_)
  · refine p_ret e_TM_onRead_25 (rv_v ?_)
    rw [if_neg (fun q => h14 q.1)] at hP
    exact hP σ f m g h HK.rf
  refine p_aload e_TM_onRead_17 rfl ?_
  refine p_gIv 385 e_TM_onRead_19 f_TM_57 rfl rfl (by assumption) v6 ?_
  refine p_if_ne (tgt := 26) e_TM_onRead_22 (by decide) (fun h22 => ?_) (fun h22 => ?_)
  · rw [if_pos ⟨h14, h22⟩] at hP
    have go : ∀ z : Int32, z = 0 ∨ z = 1 → z = (if sv A 5 (2 * x + b) = 1 then 1 else 0) → Wp m_TM_onRead 10 40 [(4, .inr (Y (100 + (2 * x + b)))), (0, .inr (Y 0)), (1, .inl (nI x)), (2, .inl (nI b)), (3, .inl c)] [.inl z] σ (fun v σ' => RV m_TM_onRead.2.2.2 v ∧ P v σ') := by
      intro z hz ez
      rw [← ez] at hP
      refine p_istore e_TM_onRead_40 (by decide) ?_
      refine p_aload_n e_TM_onRead_42 rfl ?_
      refine p_iload_n e_TM_onRead_43 rfl ?_
      refine p_iload_n e_TM_onRead_44 rfl ?_
      refine p_iload_n e_TM_onRead_45 rfl ?_
      refine p_iconst (x := 1) e_TM_onRead_46 (by decide) ?_
      refine p_iload e_TM_onRead_47 rfl ?_
      refine p_iconst (x := 1) e_TM_onRead_49 (by decide) ?_
      refine p_inv (ci := 7) (d' := 9) [_, _, _, _, _, _] _ e_TM_onRead_50 c_TM_166 k_TM_give i_TM_give s_TM_give rfl rfl (by assumption) rfl rfl (Nat.le_of_ble_eq_true rfl) (Nat.le_of_ble_eq_true rfl) ?_
      refine sp_give hx hb hz (Or.inr rfl) hn hh h (fun σ1 f1 m1 g1 hc hk => ?_)
      refine p_ret e_TM_onRead_53 (rv_v ?_)
      exact hP _ _ _ _ hc hk
    refine p_aload e_TM_onRead_26 rfl ?_
    refine p_gIv 384 e_TM_onRead_28 f_TM_54 rfl rfl (by assumption) v5 ?_
    refine p_iconst (x := 1) e_TM_onRead_31 (by decide) ?_
    refine p_icmp_ne (tgt := 39) e_TM_onRead_32 (by decide) (fun h32 => ?_) (fun h32 => ?_)
    · refine p_iconst (x := 0) e_TM_onRead_39 (by decide) ?_
      exact Wp.lv2 (go 0 (Or.inl rfl) (if_neg h32).symm) ⟨rfl, rfl, rfl, rfl, rfl, trivial⟩
    · refine p_iconst (x := 1) e_TM_onRead_35 (by decide) ?_
      refine p_goto (tgt := 40) e_TM_onRead_36 (by decide) ?_
      exact Wp.lv2 (go 1 (Or.inr rfl) (if_pos h32).symm) ⟨rfl, rfl, rfl, rfl, rfl, trivial⟩
  · refine p_ret e_TM_onRead_25 (rv_v ?_)
    rw [if_neg (fun q => q.2 h22)] at hP
    exact hP σ f m g h HK.rf
set_option maxHeartbeats 4000000 in
theorem sp_onWrite {x b : Nat} {c : Int32} (hx : x ≤ N) (hb : b < 2) (how : sv A 6 (2 * x + b) = 0 ∨ sv A 6 (2 * x + b) = 1) (hn : ln A ≤ 67) (hh : hs.length ≤ 1) (h : CRx N Y bd hs σ A f m g rf) (hP : ∀ σ' f' m' g', CRx N Y bd hs σ' (wrA A x b c) f' m' g' rf → HK (Y 4) σ σ' hs → P none σ') : Ctr m_TM_onWrite 10 [.inr (Y 0), .inl (nI x), .inl (nI b), .inl c] σ P := by
  obtain ⟨a0, ⟨b1, b2, b3, b4, b5, b6, b7, b8, b9⟩, -⟩ := h.1
  have hi : 2 * x + b < 2 * N + 2 := by omega
  have ts : tg σ (Y (100 + (2 * x + b))) = 7 := h.1.sh hi
  obtain ⟨s1, s2, s3, s4, s5, s6, s7⟩ := h.2.2.1
  have v5 := s1 _ hi
  have v6 := s2 _ hi
  have v9 := s5 _ hi
  unfold wrA at hP
  refine Ctr.of y_TM_onWrite (Nat.le_of_ble_eq_true rfl) ?_
  refine p_aload_n e_TM_onWrite_0 rfl ?_
  refine p_iload_n e_TM_onWrite_1 rfl ?_
  refine p_iload_n e_TM_onWrite_2 rfl ?_
  refine p_inv (ci := 7) (d' := 1) [_, _] _ e_TM_onWrite_3 c_TM_159 k_TM_share i_TM_share s_TM_share rfl rfl (by assumption) rfl rfl (Nat.le_of_ble_eq_true rfl) (Nat.le_of_ble_eq_true rfl) ?_
  refine h.1.share hx hb ?_
  refine p_astore e_TM_onWrite_6 (by decide) ?_
  refine p_aload e_TM_onWrite_8 rfl ?_
  refine p_gIv 388 e_TM_onWrite_10 f_TM_186 rfl rfl (by assumption) v9 ?_
  refine p_iconst (x := (-1)) e_TM_onWrite_13 (by decide) ?_
  refine p_icmp_ne (tgt := 39) e_TM_onWrite_14 (by decide) (fun h14 => ?_) (fun h14 => ?_)
  · refine p_ret e_TM_onWrite_39 (rv_v ?_)
    rw [if_neg h14] at hP
    exact hP σ f m g h HK.rf
  · rw [if_pos h14] at hP
    refine p_aload_n e_TM_onWrite_17 rfl ?_
    refine p_iload_n e_TM_onWrite_18 rfl ?_
    refine p_iload_n e_TM_onWrite_19 rfl ?_
    refine p_iload_n e_TM_onWrite_20 rfl ?_
    refine p_aload e_TM_onWrite_21 rfl ?_
    refine p_gIv 384 e_TM_onWrite_23 f_TM_54 rfl rfl (by assumption) v5 ?_
    refine p_aload e_TM_onWrite_26 rfl ?_
    refine p_gIv 385 e_TM_onWrite_28 f_TM_57 rfl rfl (by assumption) v6 ?_
    refine p_aload e_TM_onWrite_31 rfl ?_
    refine p_gIv 385 e_TM_onWrite_33 f_TM_57 rfl rfl (by assumption) v6 ?_
    refine p_inv (ci := 7) (d' := 9) [_, _, _, _, _, _] _ e_TM_onWrite_36 c_TM_166 k_TM_give i_TM_give s_TM_give rfl rfl (by assumption) rfl rfl (Nat.le_of_ble_eq_true rfl) (Nat.le_of_ble_eq_true rfl) ?_
    refine sp_give hx hb how how hn hh h (fun σ1 f1 m1 g1 hc hk => ?_)
    refine p_ret e_TM_onWrite_39 (rv_v ?_)
    exact hP _ _ _ _ hc hk
theorem CRx.learn {i : Nat} {c w n : Int32} (hi : i < 2 * N + 2) (h : CRx N Y bd hs σ A f m g rf) : CRx N Y bd hs (pfi (pfi (pfi σ 388 (Y (100 + i)) c) 389 (Y (100 + i)) w) 390 (Y (100 + i)) n) (lnA A i c w n) f m g rf := cw_390 (cw_389 (cw_388 h hi) hi) hi
theorem HK.learn {i : Nat} {c w n : Int32} : HK (Y 4) σ (pfi (pfi (pfi σ 388 i c) 389 i w) 390 i n) hs := ((HK.put (Or.inl (by omega))).tr (HK.put (Or.inl (by omega)))).tr (HK.put (Or.inl (by omega)))
set_option maxHeartbeats 4000000 in
theorem sp_tellActive {b : Nat} (hb : b < 2) (hn : ∀ c, c ≤ N → ln (tlA N A b (sv A 40 b) (acw A b) (sv A 42 b) c) ≤ 67) (hh : hs.length ≤ 1) (h : CRx N Y bd hs σ A f m g rf) (hP : ∀ σ' f' m' g', CRx N Y bd hs σ' (taA N A b) f' m' g' rf → HK (Y 4) σ σ' hs → P none σ') : Ctr m_TM_tellActive 9 [.inr (Y 0), .inl (nI b)] σ P := by
  obtain ⟨a0, ⟨b1, b2, b3, b4, b5, b6, b7, b8, b9⟩, -, -, ⟨d1, d2, d3⟩, -⟩ := h.1
  have td : tg σ (Y (300 + b)) = 3 := h.1.dk hb
  obtain ⟨q1, q2⟩ := h.2.2.2.2.2.2.2.1 b hb
  have hw01 : acw A b = 0 ∨ acw A b = 1 := by
    unfold acw
    split
    · exact Or.inl rfl
    · split
      · exact Or.inl rfl
      · exact Or.inr rfl
  have loop : ∀ k c, c + k = N → ∀ (σ1 : PS) (m1 : Nat) (f1 g1 : Nat → Nat), CRx N Y bd hs σ1 (tlA N A b (sv A 40 b) (acw A b) (sv A 42 b) c) f1 m1 g1 rf → HK (Y 4) σ σ1 hs → Wp m_TM_tellActive 9 53 [(5, .inl (nI c)), (4, .inl (acw A b)), (3, .inl (sv A 40 b)), (2, .inr (Y (300 + b))), (0, .inr (Y 0)), (1, .inl (nI b))] [] σ1 (fun v σ' => RV m_TM_tellActive.2.2.2 v ∧ P v σ') := by
    intro k
    induction k with
    | zero =>
      intro c hc σ1 m1 f1 g1 hc1 hk1
      have ec : c = N := by omega
      subst ec
      have tx1 : tg σ1 (Y 0) = 8 := hc1.1.2.1.1
      have u2 : fi σ1 448 (Y 0) = nI c := hc1.1.2.1.2.1
      have u3 : fi σ1 449 (Y 0) = nI c := hc1.1.2.1.2.2.1
      have td1 : tg σ1 (Y (300 + b)) = 3 := hc1.1.dk hb
      have w42 : fi σ1 130 (Y (300 + b)) = sv A 42 b := (hc1.2.2.2.2.2.2.2.1 b hb).1.trans (sv_tlA (by omega) c)
      refine p_iload e_TM_tellActive_53 rfl ?_
      refine p_aload_n e_TM_tellActive_55 rfl ?_
      refine p_gIv 448 e_TM_tellActive_56 f_TM_13 rfl rfl (by assumption) u2 ?_
      refine p_icmp_ge (tgt := 107) e_TM_tellActive_59 (by decide) (fun _ => ?_) (fun hx => absurd (Int32.le_refl _) hx)
      refine p_aload_n e_TM_tellActive_107 rfl ?_
      refine p_aload_n e_TM_tellActive_108 rfl ?_
      refine p_gIv 449 e_TM_tellActive_109 f_TM_23 rfl rfl (by assumption) u3 ?_
      refine p_iload_n e_TM_tellActive_112 rfl ?_
      refine p_inv (ci := 7) (d' := 1) [_, _] _ e_TM_tellActive_113 c_TM_159 k_TM_share i_TM_share s_TM_share rfl rfl (by assumption) rfl rfl (Nat.le_of_ble_eq_true rfl) (Nat.le_of_ble_eq_true rfl) ?_
      refine hc1.1.share (Nat.le_refl _) hb ?_
      have ts : tg σ1 (Y (100 + (2 * c + b))) = 7 := hc1.1.sh (by omega)
      refine p_iload_n e_TM_tellActive_116 rfl ?_
      refine p_iload e_TM_tellActive_117 rfl ?_
      refine p_aload_n e_TM_tellActive_119 rfl ?_
      refine p_gIv 130 e_TM_tellActive_120 f_TM_286 rfl rfl (by assumption) w42 ?_
      refine p_inv (ci := 6) (d' := 1) [_, _, _] _ e_TM_tellActive_123 c_TM_264 k_Share_learn i_Share_learn s_Share_learn rfl rfl (by assumption) rfl rfl (Nat.le_of_ble_eq_true rfl) (Nat.le_of_ble_eq_true rfl) ?_
      refine sp_Share_learn ts hw01 ?_
      refine p_ret e_TM_tellActive_126 (rv_v ?_)
      exact hP _ _ _ _ (hc1.learn (by omega)) (hk1.tr HK.learn)
    | succ k ih =>
      intro c hc σ1 m1 f1 g1 hc1 hk1
      have tx1 : tg σ1 (Y 0) = 8 := hc1.1.2.1.1
      have u2 : fi σ1 448 (Y 0) = nI N := hc1.1.2.1.2.1
      have u3 : fi σ1 449 (Y 0) = nI N := hc1.1.2.1.2.2.1
      have u9 : fr σ1 457 (Y 0) = Y 5 := hc1.1.2.1.2.2.2.2.2.2.2.2
      have t5 := (hc1.1.2.2.2.2.2.2.1).1
      refine p_iload e_TM_tellActive_53 rfl ?_
      refine p_aload_n e_TM_tellActive_55 rfl ?_
      refine p_gIv 448 e_TM_tellActive_56 f_TM_13 rfl rfl (by assumption) u2 ?_
      refine p_icmp_ge (tgt := 107) e_TM_tellActive_59 (by decide) (fun hx => absurd hx (nI_ge (by omega) (by omega))) (fun _ => ?_)
      refine p_aload_n e_TM_tellActive_62 rfl ?_
      refine p_gRv 457 e_TM_tellActive_63 f_TM_67 rfl rfl (by assumption) u9 ?_
      refine p_iconst (x := 5) e_TM_tellActive_66 (by decide) ?_
      refine p_aload_n e_TM_tellActive_67 rfl ?_
      refine p_gIv 449 e_TM_tellActive_68 f_TM_23 rfl rfl (by assumption) u3 ?_
      refine p_iload e_TM_tellActive_71 rfl ?_
      refine p_iload_n e_TM_tellActive_73 rfl ?_
      refine p_inv (ci := 4) (d' := 8) [_, _, _, _] _ e_TM_tellActive_74 c_TM_225 k_Mail_send i_Mail_send s_Mail_send rfl rfl (by assumption) rfl rfl (Nat.le_of_ble_eq_true rfl) (Nat.le_of_ble_eq_true rfl) ?_
      refine sp_send (hn c (by omega)) hh hc1 (fun σ2 f2 m2 g2 hc2 hk2 => ?_)
      have hl : ln (dpL (tlA N A b (sv A 40 b) (acw A b) (sv A 42 b) c) 5 (nI N) (nI c) (nI b)) < ln (sdL (tlA N A b (sv A 40 b) (acw A b) (sv A 42 b) c) 5 (nI N) (nI c) (nI b)) := by rw [ln_sdL]; exact Nat.lt_succ_self _
      have tl : tg σ2 (f2 (ln (dpL (tlA N A b (sv A 40 b) (acw A b) (sv A 42 b) c) 5 (nI N) (nI c) (nI b)))) = 4 := (hc2.2.2.2.2.2.1.2.2.1 _ hl).1
      have td2 : tg σ2 (Y (300 + b)) = 3 := hc2.1.dk hb
      have nh : f2 (ln (dpL (tlA N A b (sv A 40 b) (acw A b) (sv A 42 b) c) 5 (nI N) (nI c) (nI b))) ∉ hs := fun z => (hc2.2.2.2.2.2.1.2.2.2.2.2.2.2.1 _ z).2.1 _ hl rfl
      have w42 : fi σ2 130 (Y (300 + b)) = sv A 42 b := ((hc2.2.2.2.2.2.2.2.1 b hb).1.trans (sv_sdL (by omega))).trans (sv_tlA (by omega) c)
      refine p_astore e_TM_tellActive_77 (by decide) ?_
      refine p_aload e_TM_tellActive_79 rfl ?_
      refine p_iload_n e_TM_tellActive_81 rfl ?_
      refine p_pI 201 e_TM_tellActive_82 f_TM_263 rfl rfl (fun q h => by cases h; exact Or.inl rfl) rfl (by assumption) ?_
      refine p_aload e_TM_tellActive_85 rfl ?_
      refine p_iload e_TM_tellActive_87 rfl ?_
      refine p_pZ 202 e_TM_tellActive_89 f_TM_142 rfl rfl (fun q h => by cases h; exact Or.inl rfl) rfl (by assumption) (by first | assumption | exact Or.inl rfl | exact Or.inr rfl) ?_
      refine p_aload e_TM_tellActive_92 rfl ?_
      refine p_aload_n e_TM_tellActive_94 rfl ?_
      refine p_gIv 130 e_TM_tellActive_95 f_TM_286 rfl rfl (by assumption) w42 ?_
      refine p_pI 200 e_TM_tellActive_98 f_TM_139 rfl rfl (fun q h => by cases h; exact Or.inl rfl) rfl (by assumption) ?_
      refine p_iinc e_TM_tellActive_101 rfl rfl (by decide) ?_
      refine p_goto (tgt := 53) e_TM_tellActive_104 (by decide) ?_
      refine Wp.lv [(5, .inl (nI (c + 1))), (4, .inl (acw A b)), (3, .inl (sv A 40 b)), (2, .inr (Y (300 + b))), (0, .inr (Y 0)), (1, .inl (nI b))] ⟨congrArg (fun z => some (Sum.inl z)) (nI_1 c), rfl, rfl, rfl, rfl, rfl, trivial⟩ ?_
      refine ih (c + 1) (by omega) _ m2 f2 g2 ?_ ((((hk1.tr hk2).tr (HK.put (Or.inr nh))).tr (HK.put (Or.inr nh))).tr (HK.put (Or.inr nh)))
      exact cl_200 (cl_202 (cl_201 hc2 hl) hl) hl
  have st : Wp m_TM_tellActive 9 50 [(4, .inl (acw A b)), (3, .inl (sv A 40 b)), (2, .inr (Y (300 + b))), (0, .inr (Y 0)), (1, .inl (nI b))] [] σ (fun v σ' => RV m_TM_tellActive.2.2.2 v ∧ P v σ') := by
    refine p_iconst (x := 0) e_TM_tellActive_50 (by decide) ?_
    refine p_istore e_TM_tellActive_51 (by decide) ?_
    exact Wp.lv2 (loop N 0 (by omega) σ m f g h HK.rf) ⟨rfl, rfl, rfl, rfl, rfl, rfl, trivial⟩
  refine Ctr.of y_TM_tellActive (Nat.le_of_ble_eq_true rfl) ?_
  refine p_aload_n e_TM_tellActive_0 rfl ?_
  refine p_gRv 455 e_TM_tellActive_1 f_TM_49 rfl rfl (by assumption) b7 ?_
  refine p_iload_n e_TM_tellActive_4 rfl ?_
  refine p_aaldv e_TM_tellActive_5 (ti := 5) (n := b) (v := Y (300 + b)) (by decide) d1 rfl (by omega) (by omega) (d3 b hb).1 ?_
  refine p_astore_n e_TM_tellActive_6 (by decide) ?_
  refine p_aload_n e_TM_tellActive_7 rfl ?_
  refine p_gR 129 e_TM_tellActive_8 f_TM_253 rfl rfl (by assumption) ?_
  rcases q2 with ⟨r1, r2⟩ | ⟨r1, r2, r3, r4, r5⟩
  · refine p_ifnonnull (tgt := 18) e_TM_tellActive_11 (by decide) (fun hx => absurd (r1) hx) (fun _ => ?_)
    refine p_iconst (x := (-1)) e_TM_tellActive_14 (by decide) ?_
    refine p_goto (tgt := 25) e_TM_tellActive_15 (by decide) ?_
    refine p_istore_n e_TM_tellActive_25 (by decide) ?_
    refine p_aload_n e_TM_tellActive_26 rfl ?_
    refine p_gR 129 e_TM_tellActive_27 f_TM_253 rfl rfl (by assumption) ?_
    refine p_ifnull (tgt := 47) e_TM_tellActive_30 (by decide) (fun _ => ?_) (fun hx => absurd (r1) hx)
    refine p_iconst (x := 0) e_TM_tellActive_47 (by decide) ?_
    refine p_istore e_TM_tellActive_48 (by decide) ?_
    have e0 : acw A b = 0 := if_pos r2
    rw [e0, r2] at st
    exact Wp.lv2 st ⟨rfl, rfl, rfl, rfl, rfl, trivial⟩
  · have hne : fr σ 129 (Y (300 + b)) ≠ 0 := by
      intro q
      rw [q, h.2.1.1.2] at r1
      omega
    refine p_ifnonnull (tgt := 18) e_TM_tellActive_11 (by decide) (fun _ => ?_) (fun hx => absurd hx (hne))
    refine p_aload_n e_TM_tellActive_18 rfl ?_
    refine p_gR 129 e_TM_tellActive_19 f_TM_253 rfl rfl (by assumption) ?_
    refine p_gIv 320 e_TM_tellActive_22 f_TM_287 rfl rfl r1 r2 ?_
    refine p_istore_n e_TM_tellActive_25 (by decide) ?_
    refine p_aload_n e_TM_tellActive_26 rfl ?_
    refine p_gR 129 e_TM_tellActive_27 f_TM_253 rfl rfl (by assumption) ?_
    refine p_ifnull (tgt := 47) e_TM_tellActive_30 (by decide) (fun hx => absurd hx (hne)) (fun _ => ?_)
    refine p_aload_n e_TM_tellActive_33 rfl ?_
    refine p_gR 129 e_TM_tellActive_34 f_TM_253 rfl rfl (by assumption) ?_
    refine p_gIv 322 e_TM_tellActive_37 f_TM_290 rfl rfl r1 r4 ?_
    refine p_if_eq (tgt := 47) e_TM_tellActive_40 (by decide) (fun h40 => ?_) (fun h40 => ?_)
    · refine p_iconst (x := 0) e_TM_tellActive_47 (by decide) ?_
      refine p_istore e_TM_tellActive_48 (by decide) ?_
      have e0 : acw A b = 0 := by unfold acw; rw [if_neg r5, if_pos h40]
      rw [e0] at st
      exact Wp.lv2 st ⟨rfl, rfl, rfl, rfl, rfl, trivial⟩
    · refine p_iconst (x := 1) e_TM_tellActive_43 (by decide) ?_
      refine p_goto (tgt := 48) e_TM_tellActive_44 (by decide) ?_
      refine p_istore e_TM_tellActive_48 (by decide) ?_
      have e0 : acw A b = 1 := by unfold acw; rw [if_neg r5, if_neg h40]
      rw [e0] at st
      exact Wp.lv2 st ⟨rfl, rfl, rfl, rfl, rfl, trivial⟩
end TM3
