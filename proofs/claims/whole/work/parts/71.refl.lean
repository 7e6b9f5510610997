/-! the reference's letters: moved, taken out, sent -/
def mvE (E : Nat → Nat → Prop) (fm to t : Nat) : Nat → Nat → Prop := fun k i => if (29 ≤ k ∧ k < t) ∧ i = to then E k fm else E k i
def mvA (A : AS) (fm to t : Nat) : AS := (ln A, rn A, fun k i => if (29 ≤ k ∧ k < t) ∧ i = to then sv A k fm else sv A k i)
def rmE (A : AS) (E : Nat → Nat → Prop) (i : Nat) : Nat → Nat → Prop := fun k j => ((29 ≤ k ∧ k < 40) ∧ ln A - 1 ≤ j) ∨ (if (29 ≤ k ∧ k < 40) ∧ i ≤ j then E k (j + 1) else E k j)
def wE (E : Nat → Nat → Prop) (n : Nat) (ds : List Nat) : Nat → Nat → Prop := fun k i => E k i ∧ ¬ (i = n ∧ k ∈ ds)
def wA (A : AS) (n : Nat) (g : Nat → Int32) (ds : List Nat) : AS := (ln A, rn A, fun k i => if i = n ∧ k ∈ ds then g k else sv A k i)
section RefL
variable {M : MM} {d pc : Nat} {lv : List (Nat × PV)} {st : List PV} {σ : PS} {P : Option PV → PS → Prop} {N m : Nat} {Z : Nat → Nat} {σ0 : PS} {E D : Nat → Nat → Prop} {A : AS}
theorem sv_mvA {fm to t k i : Nat} : sv (mvA A fm to t) k i = if (29 ≤ k ∧ k < t) ∧ i = to then sv A k fm else sv A k i := rfl
theorem sv_wA {n k i : Nat} {g : Nat → Int32} {ds : List Nat} : sv (wA A n g ds) k i = if i = n ∧ k ∈ ds then g k else sv A k i := rfl
theorem isZ_L {k : Nat} (h : 29 ≤ k ∧ k < 40) : isZ k = true := decide_eq_true (by omega)
theorem lz_L {k : Nat} (h : 29 ≤ k ∧ k < 40) : lz k = 120 := by unfold lz; rw [if_neg (by omega), if_neg (by omega), if_neg (by omega), if_neg (by omega), if_neg (by omega)]
theorem mv_e4 {fm to k : Nat} (hk : 29 ≤ k ∧ k < 40) : ∀ k' i, isZ k' = true → k' ≠ 25 → i < lz k' → ¬ mvE E fm to (k + 1) k' i → ¬ (k' = k ∧ i = to) → ¬ mvE E fm to k k' i ∧ sv (mvA A fm to (k + 1)) k' i = sv (mvA A fm to k) k' i := by
  intro k' i _ _ _ h1 h2
  unfold mvE at h1 ⊢
  rw [sv_mvA, sv_mvA]
  by_cases z : (29 ≤ k' ∧ k' < k) ∧ i = to
  · rw [if_pos (by omega)] at h1 ⊢
    rw [if_pos (by omega), if_pos z]
    exact ⟨h1, rfl⟩
  · rw [if_neg (by omega)] at h1 ⊢
    rw [if_neg (by omega), if_neg z]
    exact ⟨h1, rfl⟩
theorem mv_v {fm to k : Nat} {x : Int32} (hk : 29 ≤ k ∧ k < 40) (hf : fm < 120) (hR : RX N m Z σ0 (mvE E fm to k) σ (mvA A fm to k)) (hx : ai σ (Z k) fm = x) : ¬ mvE E fm to (k + 1) k to → x = sv (mvA A fm to (k + 1)) k to := by
  intro h
  unfold mvE at h
  rw [if_pos (by omega)] at h
  rw [sv_mvA, if_pos (by omega), ← hx, hR.2.2.2.2.1 k fm (isZ_L hk) (by omega) (by rw [lz_L hk]; exact hf) (by unfold mvE; rw [if_neg (by omega)]; exact h), sv_mvA, if_neg (by omega)]
theorem x_mvI (k : Nat) {fm to : Nat} (hR : RX N m Z σ0 (mvE E fm to k) σ (mvA A fm to k)) (hk : 29 ≤ k ∧ k < 40) (ht : tz k = 100) (hd1 : decode M.2.1 pc = .ok (.iaload, 1)) (hd2 : decode M.2.1 (pc + 1) = .ok (.iastore, 1)) (hf : fm < 120) (hto : to < 120) (kk : ∀ σ', RX N m Z σ0 (mvE E fm to (k + 1)) σ' (mvA A fm to (k + 1)) → (∀ k' i, isZ k' = true → i ≠ to → ai σ' (Z k') i = ai σ (Z k') i) → Wp M d (pc + 1 + 1) lv st σ' P) : Wp M d pc lv (.inl (nI fm) :: .inr (Z k) :: .inl (nI to) :: .inr (Z k) :: st) σ P := by
  have l := lz_L hk
  refine x_lr k hR (isZ_L hk) ht hd1 rfl (by omega) rfl ?_
  exact x_st k (mvA A fm to (k + 1)) hR (isZ_L hk) ht hd2 rfl (by omega) rfl (fun b _ => by rw [if_neg (by omega)]; rfl) (fun k' hk' => by rw [sv_mvA, sv_mvA, if_neg (by omega), if_neg (by omega)]) (mv_e4 hk) (fun _ => mv_v hk hf hR rfl) (fun σ' h1 h2 => kk σ' h1 (fun k' i y1 y2 => h2 k' i y1 (fun z => y2 z.2)))
theorem x_mvB (k : Nat) {fm to : Nat} (hR : RX N m Z σ0 (mvE E fm to k) σ (mvA A fm to k)) (hk : 29 ≤ k ∧ k < 40) (ht : tz k = 101) (hd1 : decode M.2.1 pc = .ok (.baload, 1)) (hd2 : decode M.2.1 (pc + 1) = .ok (.bastore, 1)) (hf : fm < 120) (hto : to < 120) (kk : ∀ σ', RX N m Z σ0 (mvE E fm to (k + 1)) σ' (mvA A fm to (k + 1)) → (∀ k' i, isZ k' = true → i ≠ to → ai σ' (Z k') i = ai σ (Z k') i) → Wp M d (pc + 1 + 1) lv st σ' P) : Wp M d pc lv (.inl (nI fm) :: .inr (Z k) :: .inl (nI to) :: .inr (Z k) :: st) σ P := by
  have l := lz_L hk
  refine x_lrb k hR (isZ_L hk) ht hd1 rfl (by omega) rfl ?_
  exact x_sb k (mvA A fm to (k + 1)) hR (isZ_L hk) ht hd2 rfl (by omega) (hR.2.2.2.2.2 k fm (isZ_L hk) ht (by omega)) rfl (fun b _ => by rw [if_neg (by omega)]; rfl) (fun k' hk' => by rw [sv_mvA, sv_mvA, if_neg (by omega), if_neg (by omega)]) (mv_e4 hk) (fun _ => mv_v hk hf hR rfl) (fun σ' h1 h2 => kk σ' h1 (fun k' i y1 y2 => h2 k' i y1 (fun z => y2 z.2)))
set_option maxHeartbeats 4000000 in
theorem sp_MM_move {fm to : Nat} (hf : fm < 120) (ht : to < 120) (hR0 : RX N m Z σ0 E σ A) (hP : ∀ σ', RX N m Z σ0 (mvE E fm to 40) σ' (mvA A fm to 40) → (∀ k i, isZ k = true → i ≠ to → ai σ' (Z k) i = ai σ (Z k) i) → P none σ') : Ctr m_MM_move 1 [.inr m, .inl (nI fm), .inl (nI to)] σ P := by
  have hR : RX N m Z σ0 (mvE E fm to 29) σ (mvA A fm to 29) := hR0.cg rfl (fun _ _ => rfl) (fun k hk => by rw [sv_mvA, if_neg (by omega)]) (fun k i _ _ _ q => by
    unfold mvE at q
    rw [if_neg (by omega)] at q
    exact ⟨q, by rw [sv_mvA, if_neg (by omega)]⟩)
  refine Ctr.of y_MM_move (Nat.le_of_ble_eq_true rfl) ?_
  refine p_aload_n e_MM_move_0 rfl ?_
  refine x_gf 29 hR e_MM_move_1 f_MM_80 rfl rfl ?_
  refine p_iload_n e_MM_move_4 rfl ?_
  refine p_aload_n e_MM_move_5 rfl ?_
  refine x_gf 29 hR e_MM_move_6 f_MM_80 rfl rfl ?_
  refine p_iload_n e_MM_move_9 rfl ?_
  refine x_mvI 29 hR (by decide) rfl e_MM_move_10 e_MM_move_11 hf ht (fun σ1 hR r1 => ?_)
  refine p_aload_n e_MM_move_12 rfl ?_
  refine x_gf 30 hR e_MM_move_13 f_MM_83 rfl rfl ?_
  refine p_iload_n e_MM_move_16 rfl ?_
  refine p_aload_n e_MM_move_17 rfl ?_
  refine x_gf 30 hR e_MM_move_18 f_MM_83 rfl rfl ?_
  refine p_iload_n e_MM_move_21 rfl ?_
  refine x_mvI 30 hR (by decide) rfl e_MM_move_22 e_MM_move_23 hf ht (fun σ2 hR r2 => ?_)
  refine p_aload_n e_MM_move_24 rfl ?_
  refine x_gf 31 hR e_MM_move_25 f_MM_86 rfl rfl ?_
  refine p_iload_n e_MM_move_28 rfl ?_
  refine p_aload_n e_MM_move_29 rfl ?_
  refine x_gf 31 hR e_MM_move_30 f_MM_86 rfl rfl ?_
  refine p_iload_n e_MM_move_33 rfl ?_
  refine x_mvI 31 hR (by decide) rfl e_MM_move_34 e_MM_move_35 hf ht (fun σ3 hR r3 => ?_)
  refine p_aload_n e_MM_move_36 rfl ?_
  refine x_gf 32 hR e_MM_move_37 f_MM_89 rfl rfl ?_
  refine p_iload_n e_MM_move_40 rfl ?_
  refine p_aload_n e_MM_move_41 rfl ?_
  refine x_gf 32 hR e_MM_move_42 f_MM_89 rfl rfl ?_
  refine p_iload_n e_MM_move_45 rfl ?_
  refine x_mvI 32 hR (by decide) rfl e_MM_move_46 e_MM_move_47 hf ht (fun σ4 hR r4 => ?_)
  refine p_aload_n e_MM_move_48 rfl ?_
  refine x_gf 33 hR e_MM_move_49 f_MM_92 rfl rfl ?_
  refine p_iload_n e_MM_move_52 rfl ?_
  refine p_aload_n e_MM_move_53 rfl ?_
  refine x_gf 33 hR e_MM_move_54 f_MM_92 rfl rfl ?_
  refine p_iload_n e_MM_move_57 rfl ?_
  refine x_mvI 33 hR (by decide) rfl e_MM_move_58 e_MM_move_59 hf ht (fun σ5 hR r5 => ?_)
  refine p_aload_n e_MM_move_60 rfl ?_
  refine x_gf 34 hR e_MM_move_61 f_MM_95 rfl rfl ?_
  refine p_iload_n e_MM_move_64 rfl ?_
  refine p_aload_n e_MM_move_65 rfl ?_
  refine x_gf 34 hR e_MM_move_66 f_MM_95 rfl rfl ?_
  refine p_iload_n e_MM_move_69 rfl ?_
  refine x_mvB 34 hR (by decide) rfl e_MM_move_70 e_MM_move_71 hf ht (fun σ6 hR r6 => ?_)
  refine p_aload_n e_MM_move_72 rfl ?_
  refine x_gf 35 hR e_MM_move_73 f_MM_98 rfl rfl ?_
  refine p_iload_n e_MM_move_76 rfl ?_
  refine p_aload_n e_MM_move_77 rfl ?_
  refine x_gf 35 hR e_MM_move_78 f_MM_98 rfl rfl ?_
  refine p_iload_n e_MM_move_81 rfl ?_
  refine x_mvB 35 hR (by decide) rfl e_MM_move_82 e_MM_move_83 hf ht (fun σ7 hR r7 => ?_)
  refine p_aload_n e_MM_move_84 rfl ?_
  refine x_gf 36 hR e_MM_move_85 f_MM_101 rfl rfl ?_
  refine p_iload_n e_MM_move_88 rfl ?_
  refine p_aload_n e_MM_move_89 rfl ?_
  refine x_gf 36 hR e_MM_move_90 f_MM_101 rfl rfl ?_
  refine p_iload_n e_MM_move_93 rfl ?_
  refine x_mvI 36 hR (by decide) rfl e_MM_move_94 e_MM_move_95 hf ht (fun σ8 hR r8 => ?_)
  refine p_aload_n e_MM_move_96 rfl ?_
  refine x_gf 37 hR e_MM_move_97 f_MM_104 rfl rfl ?_
  refine p_iload_n e_MM_move_100 rfl ?_
  refine p_aload_n e_MM_move_101 rfl ?_
  refine x_gf 37 hR e_MM_move_102 f_MM_104 rfl rfl ?_
  refine p_iload_n e_MM_move_105 rfl ?_
  refine x_mvI 37 hR (by decide) rfl e_MM_move_106 e_MM_move_107 hf ht (fun σ9 hR r9 => ?_)
  refine p_aload_n e_MM_move_108 rfl ?_
  refine x_gf 38 hR e_MM_move_109 f_MM_107 rfl rfl ?_
  refine p_iload_n e_MM_move_112 rfl ?_
  refine p_aload_n e_MM_move_113 rfl ?_
  refine x_gf 38 hR e_MM_move_114 f_MM_107 rfl rfl ?_
  refine p_iload_n e_MM_move_117 rfl ?_
  refine x_mvI 38 hR (by decide) rfl e_MM_move_118 e_MM_move_119 hf ht (fun σ10 hR r10 => ?_)
  refine p_aload_n e_MM_move_120 rfl ?_
  refine x_gf 39 hR e_MM_move_121 f_MM_110 rfl rfl ?_
  refine p_iload_n e_MM_move_124 rfl ?_
  refine p_aload_n e_MM_move_125 rfl ?_
  refine x_gf 39 hR e_MM_move_126 f_MM_110 rfl rfl ?_
  refine p_iload_n e_MM_move_129 rfl ?_
  refine x_mvB 39 hR (by decide) rfl e_MM_move_130 e_MM_move_131 hf ht (fun σ11 hR r11 => ?_)
  refine p_ret e_MM_move_132 (rv_v ?_)
  refine hP _ hR (fun k i y1 y2 => ?_)
  rw [r11 k i y1 y2, r10 k i y1 y2, r9 k i y1 y2, r8 k i y1 y2, r7 k i y1 y2, r6 k i y1 y2, r5 k i y1 y2, r4 k i y1 y2, r3 k i y1 y2, r2 k i y1 y2, r1 k i y1 y2]
/-- half way of taking out -/
def rmh (A : AS) (i t : Nat) : AS := (ln A - 1, rn A, fun k j => if (29 ≤ k ∧ k < 40) ∧ i ≤ j ∧ j < t then sv A k (j + 1) else sv A k j)
def rmhE (E : Nat → Nat → Prop) (i t : Nat) : Nat → Nat → Prop := fun k j => if (29 ≤ k ∧ k < 40) ∧ i ≤ j ∧ j < t then E k (j + 1) else E k j
theorem sv_rmh {i t k j : Nat} : sv (rmh A i t) k j = if (29 ≤ k ∧ k < 40) ∧ i ≤ j ∧ j < t then sv A k (j + 1) else sv A k j := rfl
set_option maxHeartbeats 4000000 in
theorem sp_MM_remove {i : Nat} (hi : i < ln A) (hl : ln A ≤ 119) (hR : RX N m Z σ0 E σ A) (hP : ∀ σ', RX N m Z σ0 (rmE A E i) σ' (rmL A i) → (∀ k j, isZ k = true → ln A ≤ j → ai σ' (Z k) j = ai σ (Z k) j) → P none σ') : Ctr m_MM_remove 2 [.inr m, .inl (nI i)] σ P := by
  have e1 : nI (ln A) - 1 = nI (ln A - 1) := by
    obtain ⟨k, hk⟩ : ∃ k, ln A = k + 1 := ⟨ln A - 1, by omega⟩
    rw [hk]; exact nI_pred k
  have loop : ∀ n t, t + n = ln A - 1 → i ≤ t → ∀ σ1 : PS, RX N m Z σ0 (rmhE E i t) σ1 (rmh A i t) → (∀ k j, isZ k = true → ln A ≤ j → ai σ1 (Z k) j = ai σ (Z k) j) → Wp m_MM_remove 2 12 [(2, .inl (nI t)), (0, .inr m), (1, .inl (nI i))] [] σ1 (fun v σ' => RV m_MM_remove.2.2.2 v ∧ P v σ') := by
    intro n
    induction n with
    | zero =>
      intro t ht hit σ1 hR1 raw
      refine p_iload_n e_MM_remove_12 rfl ?_
      refine p_aload_n e_MM_remove_13 rfl ?_
      refine x_gL hR1 e_MM_remove_14 f_MM_126 rfl ?_
      refine p_icmp_ge (tgt := 34) e_MM_remove_17 (by decide) (fun _ => ?_) (fun hx => absurd (nI_le (show ln A - 1 ≤ t by omega) (by omega)) hx)
      refine p_ret e_MM_remove_34 (rv_v ?_)
      refine hP σ1 (hR1.cg rfl (fun _ _ => rfl) (fun k hk => by rw [sv_rmL, sv_rmh, if_neg (by omega), if_neg (by omega)]) (fun k j y1 y2 y3 y4 => ?_)) raw
      unfold rmE at y4
      by_cases z : (29 ≤ k ∧ k < 40) ∧ i ≤ j
      · by_cases z2 : j < t
        · rw [if_pos z] at y4
          have a1 : rmhE E i t k j = E k (j + 1) := by unfold rmhE; rw [if_pos (by omega)]
          rw [a1, sv_rmL, if_pos z, sv_rmh, if_pos (by omega)]
          exact ⟨fun q => y4 (Or.inr q), rfl⟩
        · exact absurd (Or.inl (by omega)) y4
      · rw [if_neg z] at y4
        have a1 : rmhE E i t k j = E k j := by unfold rmhE; rw [if_neg (by omega)]
        rw [a1, sv_rmL, if_neg z, sv_rmh, if_neg (by omega)]
        exact ⟨fun q => y4 (Or.inr q), rfl⟩
    | succ n ih =>
      intro t ht hit σ1 hR1 raw
      have tm := hR1.tg
      refine p_iload_n e_MM_remove_12 rfl ?_
      refine p_aload_n e_MM_remove_13 rfl ?_
      refine x_gL hR1 e_MM_remove_14 f_MM_126 rfl ?_
      refine p_icmp_ge (tgt := 34) e_MM_remove_17 (by decide) (fun hx => absurd hx (nI_ge (show t < ln A - 1 by omega) (show ln A - 1 < 2 ^ 31 by omega))) (fun _ => ?_)
      refine p_aload_n e_MM_remove_20 rfl ?_
      refine p_iload_n e_MM_remove_21 rfl ?_
      refine p_iconst (x := 1) e_MM_remove_22 (by decide) ?_
      refine p_iadd e_MM_remove_23 ?_
      refine p_top (nI_1 t) ?_
      refine p_iload_n e_MM_remove_24 rfl ?_
      refine p_inv (ci := 8) (d' := 1) [_, _] _ e_MM_remove_25 c_MM_129 k_MM_move i_MM_move s_MM_move rfl rfl (by assumption) rfl rfl (Nat.le_of_ble_eq_true rfl) (Nat.le_of_ble_eq_true rfl) ?_
      refine sp_MM_move (by omega) (by omega) hR1 (fun σ2 hR2 raw2 => ?_)
      refine p_iinc e_MM_remove_28 rfl rfl (by decide) ?_
      refine p_goto (tgt := 12) e_MM_remove_31 (by decide) ?_
      refine Wp.lv2 (ih (t + 1) (by omega) (by omega) σ2 (hR2.cg rfl (fun _ _ => rfl) (fun k hk => by rw [sv_rmh, sv_mvA, if_neg (by omega), if_neg (by omega), sv_rmh, if_neg (by omega)]) (fun k j y1 y2 y3 y4 => ?_)) (fun k j y1 y2 => (raw2 k j y1 (by omega)).trans (raw k j y1 y2))) ⟨congrArg (fun z => some (Sum.inl z)) (nI_1 t), rfl, rfl, trivial⟩
      by_cases z : (29 ≤ k ∧ k < 40) ∧ j = t
      · obtain ⟨z1, rfl⟩ := z
        have a1 : mvE (rmhE E i j) (j + 1) j 40 k j = E k (j + 1) := by unfold mvE rmhE; rw [if_pos ⟨z1, rfl⟩, if_neg (by omega)]
        have a2 : sv (mvA (rmh A i j) (j + 1) j 40) k j = sv A k (j + 1) := by rw [sv_mvA, if_pos ⟨z1, rfl⟩, sv_rmh, if_neg (by omega)]
        have a3 : rmhE E i (j + 1) k j = E k (j + 1) := by unfold rmhE; rw [if_pos (by omega)]
        have a4 : sv (rmh A i (j + 1)) k j = sv A k (j + 1) := by rw [sv_rmh, if_pos (by omega)]
        rw [a3] at y4
        rw [a1, a2, a4]
        exact ⟨y4, rfl⟩
      · have a1 : mvE (rmhE E i t) (t + 1) t 40 k j = rmhE E i t k j := by unfold mvE; rw [if_neg z]
        have a2 : sv (mvA (rmh A i t) (t + 1) t 40) k j = sv (rmh A i t) k j := by rw [sv_mvA, if_neg z]
        have a3 : rmhE E i (t + 1) k j = rmhE E i t k j := by
          unfold rmhE
          by_cases z2 : (29 ≤ k ∧ k < 40) ∧ i ≤ j ∧ j < t
          · rw [if_pos z2, if_pos (by omega)]
          · rw [if_neg z2, if_neg (by omega)]
        have a4 : sv (rmh A i (t + 1)) k j = sv (rmh A i t) k j := by
          rw [sv_rmh, sv_rmh]
          by_cases z2 : (29 ≤ k ∧ k < 40) ∧ i ≤ j ∧ j < t
          · rw [if_pos z2, if_pos (by omega)]
          · rw [if_neg z2, if_neg (by omega)]
        rw [a3] at y4
        rw [a1, a2, a4]
        exact ⟨y4, rfl⟩
  refine Ctr.of y_MM_remove (Nat.le_of_ble_eq_true rfl) ?_
  refine p_aload_n e_MM_remove_0 rfl ?_
  refine p_dup e_MM_remove_1 ?_
  refine x_gL hR e_MM_remove_2 f_MM_126 rfl ?_
  refine p_iconst (x := 1) e_MM_remove_5 (by decide) ?_
  refine p_isub e_MM_remove_6 ?_
  refine x_pL (ln A - 1) hR e_MM_remove_7 f_MM_126 (fun q h => by cases h; exact Or.inl rfl) e1 (fun σ1 hR1 r1 => ?_)
  refine p_iload_n e_MM_remove_10 rfl ?_
  refine p_istore_n e_MM_remove_11 (by decide) ?_
  refine Wp.lv2 (loop (ln A - 1 - i) i (by omega) (Nat.le_refl _) σ1 (hR1.cg rfl (fun _ _ => rfl) (fun k hk => by rw [sv_rmh, if_neg (by omega)]; rfl) (fun k j y1 y2 y3 y4 => ?_)) (fun k j _ _ => by rw [r1])) ⟨rfl, rfl, rfl, trivial⟩
  unfold rmhE at y4
  rw [if_neg (by omega)] at y4
  exact ⟨y4, by rw [sv_rmh, if_neg (by omega)]; rfl⟩
theorem RR.rm {i : Nat} (hi : i < ln A) (h0 : ∀ k i, D k i → k = 10 ∨ k = 12 ∨ k = 14 ∨ k = 26) (h : RX N m Z σ0 (rmE A (fun k i => Ex A k i ∨ D k i) i) σ (rmL A i)) : RR N m Z σ0 D σ (rmL A i) := by
  refine ⟨h0, h.cg rfl (fun _ _ => rfl) (fun _ _ => rfl) (fun k j y1 y2 y3 y4 => ⟨fun q => y4 ?_, rfl⟩)⟩
  unfold rmE at q
  rcases q with q | q
  · exact Or.inl (Or.inl ⟨q.1, q.2⟩)
  · by_cases z : 29 ≤ k ∧ k < 40
    · have q' : Ex A k (if j < i then j else j + 1) ∨ D k (if j < i then j else j + 1) := by
        by_cases z2 : i ≤ j
        · rw [if_pos ⟨z, z2⟩] at q; rw [if_neg (by omega)]; exact q
        · rw [if_neg (by omega)] at q; rw [if_pos (by omega)]; exact q
      rcases q' with q' | q'
      · refine Or.inl ?_
        unfold Ex at q' ⊢
        rw [sv_rm_at (k := 29) (by omega), sv_rm_at (k := 38) (by omega)]
        have el : ln (rmL A i) = ln A - 1 := rfl
        rcases q' with ⟨q1, q2⟩ | ⟨q1, q2⟩ | ⟨q1, q2⟩ | ⟨q1, q2⟩ | ⟨q1, q2⟩ | ⟨q1, q2⟩
        · refine Or.inl ⟨q1, ?_⟩
          rw [el]
          split at q2 <;> omega
        · omega
        · omega
        · omega
        · omega
        · exact Or.inr (Or.inr (Or.inr (Or.inr (Or.inr ⟨q1, q2⟩))))
      · have := h0 _ _ q'; omega
    · rw [if_neg (fun y => z y.1)] at q
      rcases q with q | q
      · refine Or.inl ?_
        unfold Ex at q ⊢
        rw [sv_rm_lo (k := 12) (by omega), sv_rm_lo (k := 9) (by omega), sv_rm_lo (k := 40) (by omega)]
        rcases q with ⟨q1, q2⟩ | ⟨q1, q2⟩ | ⟨q1, q2⟩ | ⟨q1, q2⟩ | ⟨q1, q2⟩ | ⟨q1, q2⟩
        · omega
        · exact Or.inr (Or.inl ⟨q1, q2⟩)
        · exact Or.inr (Or.inr (Or.inl ⟨q1, q2⟩))
        · exact Or.inr (Or.inr (Or.inr (Or.inl ⟨q1, q2⟩)))
        · exact Or.inr (Or.inr (Or.inr (Or.inr (Or.inl ⟨q1, q2⟩))))
        · omega
      · exact Or.inr q
theorem w_e4 {n k : Nat} {g : Nat → Int32} {ds : List Nat} : ∀ k' i, isZ k' = true → k' ≠ 25 → i < lz k' → ¬ wE E n (k :: ds) k' i → ¬ (k' = k ∧ i = n) → ¬ wE E n ds k' i ∧ sv (wA A n g (k :: ds)) k' i = sv (wA A n g ds) k' i := by
  intro k' i _ _ _ h1 h2
  have e : (i = n ∧ k' ∈ k :: ds) ↔ (i = n ∧ k' ∈ ds) := by
    rw [List.mem_cons]
    constructor
    · rintro ⟨a, b | b⟩
      · exact absurd ⟨b, a⟩ h2
      · exact ⟨a, b⟩
    · rintro ⟨a, b⟩; exact ⟨a, Or.inr b⟩
  unfold wE at h1 ⊢
  rw [e] at h1
  refine ⟨h1, ?_⟩
  rw [sv_wA, sv_wA]
  by_cases z : i = n ∧ k' ∈ ds
  · rw [if_pos z, if_pos (e.mpr z)]
  · rw [if_neg z, if_neg (fun y => z (e.mp y))]
theorem w_e3 {n k k' i : Nat} {g : Nat → Int32} {ds : List Nat} (h : k' ≠ k) : sv (wA A n g (k :: ds)) k' i = sv (wA A n g ds) k' i := by
  rw [sv_wA, sv_wA]
  by_cases z : i = n ∧ k' ∈ ds
  · rw [if_pos z, if_pos ⟨z.1, List.mem_cons_of_mem _ z.2⟩]
  · rw [if_neg z, if_neg]
    rintro ⟨a, b⟩
    rcases List.mem_cons.mp b with b | b
    · exact h b
    · exact z ⟨a, b⟩
theorem x_apI (k : Nat) (ds : List Nat) {n : Nat} {g : Nat → Int32} {v : Int32} (hR : RX N m Z σ0 (wE E n ds) σ (wA A n g ds)) (hk : 29 ≤ k ∧ k < 40) (ht : tz k = 100) (hd : decode M.2.1 pc = .ok (.iastore, 1)) (hn : n < 120) (hv : v = g k) (kk : ∀ σ', RX N m Z σ0 (wE E n (k :: ds)) σ' (wA A n g (k :: ds)) → Wp M d (pc + 1) lv st σ' P) : Wp M d pc lv (.inl v :: .inl (nI n) :: .inr (Z k) :: st) σ P :=
  x_st k (wA A n g (k :: ds)) hR (isZ_L hk) ht hd rfl (by rw [lz_L hk]; exact hn) rfl (fun b _ => by rw [if_neg (by omega)]; rfl) (fun k' hk' => w_e3 (by omega)) w_e4 (fun _ _ => by rw [sv_wA, if_pos ⟨rfl, List.mem_cons_self⟩]; exact hv) (fun σ' h _ => kk σ' h)
theorem x_apB (k : Nat) (ds : List Nat) {n : Nat} {g : Nat → Int32} {v : Int32} (hR : RX N m Z σ0 (wE E n ds) σ (wA A n g ds)) (hk : 29 ≤ k ∧ k < 40) (ht : tz k = 101) (hd : decode M.2.1 pc = .ok (.bastore, 1)) (hn : n < 120) (hv : v = g k) (hz : bz v) (kk : ∀ σ', RX N m Z σ0 (wE E n (k :: ds)) σ' (wA A n g (k :: ds)) → Wp M d (pc + 1) lv st σ' P) : Wp M d pc lv (.inl v :: .inl (nI n) :: .inr (Z k) :: st) σ P :=
  x_sb k (wA A n g (k :: ds)) hR (isZ_L hk) ht hd rfl (by rw [lz_L hk]; exact hn) hz rfl (fun b _ => by rw [if_neg (by omega)]; rfl) (fun k' hk' => w_e3 (by omega)) w_e4 (fun _ _ => by rw [sv_wA, if_pos ⟨rfl, List.mem_cons_self⟩]; exact hv) (fun σ' h _ => kk σ' h)
set_option maxHeartbeats 4000000 in
theorem sp_MM_send {kd fm to bl : Int32} (hl : ln A ≤ 118) (hu : kd ≠ 3 → ∀ i j, i < ln A → j < ln A → mtL A kd fm to bl i → mtL A kd fm to bl j → i = j) (hR : RR N m Z σ0 D σ A) (hP : ∀ σ', RR N m Z σ0 D σ' (sdL A kd fm to bl) → P (some (.inl (nI (ln (dpL A kd fm to bl))))) σ') : Ctr m_MM_send 3 [.inr m, .inl kd, .inl fm, .inl to, .inl bl] σ P := by
  have hle := dpL_le A kd fm to bl
  have fin : ∀ (σ1 : PS) (x : Int32), RR N m Z σ0 D σ1 (dpL A kd fm to bl) → Wp m_MM_send 3 92 [(5, .inl x), (0, .inr m), (1, .inl kd), (2, .inl fm), (3, .inl to), (4, .inl bl)] [] σ1 (fun v σ' => RV m_MM_send.2.2.2 v ∧ P v σ') := by
    intro σ x hR1
    unfold sdL at hP
    generalize dpL A kd fm to bl = B at *
    have hR : RX N m Z σ0 (wE (fun k i => Ex B k i ∨ D k i) (ln B) []) σ (wA B (ln B) (nwL kd fm to bl) []) := hR1.2.cg rfl (fun _ _ => rfl) (fun k _ => by rw [sv_wA, if_neg (fun y => by cases y.2)]) (fun k i _ _ _ q => ⟨fun z => q ⟨z, fun y => by cases y.2⟩, by rw [sv_wA, if_neg (fun y => by cases y.2)]⟩)
    refine p_aload_n e_MM_send_92 rfl ?_
    refine x_gL hR e_MM_send_93 f_MM_126 rfl ?_
    refine p_istore e_MM_send_96 (by decide) ?_
    show Wp m_MM_send 3 98 ((5, .inl (nI (ln B))) :: _) [] σ _
    refine p_aload_n e_MM_send_98 rfl ?_
    refine x_gf 29 hR e_MM_send_99 f_MM_80 rfl rfl ?_
    refine p_iload e_MM_send_102 rfl ?_
    refine p_iload_n e_MM_send_104 rfl ?_
    refine x_apI 29 [] hR (by decide) rfl e_MM_send_105 (by omega) rfl (fun σ hR => ?_)
    refine p_aload_n e_MM_send_106 rfl ?_
    refine x_gf 31 hR e_MM_send_107 f_MM_86 rfl rfl ?_
    refine p_iload e_MM_send_110 rfl ?_
    refine p_iload_n e_MM_send_112 rfl ?_
    refine x_apI 31 [29] hR (by decide) rfl e_MM_send_113 (by omega) rfl (fun σ hR => ?_)
    refine p_aload_n e_MM_send_114 rfl ?_
    refine x_gf 30 hR e_MM_send_115 f_MM_83 rfl rfl ?_
    refine p_iload e_MM_send_118 rfl ?_
    refine p_iload_n e_MM_send_120 rfl ?_
    refine x_apI 30 [31,29] hR (by decide) rfl e_MM_send_121 (by omega) rfl (fun σ hR => ?_)
    refine p_aload_n e_MM_send_122 rfl ?_
    refine x_gf 32 hR e_MM_send_123 f_MM_89 rfl rfl ?_
    refine p_iload e_MM_send_126 rfl ?_
    refine p_iload e_MM_send_128 rfl ?_
    refine x_apI 32 [30,31,29] hR (by decide) rfl e_MM_send_130 (by omega) rfl (fun σ hR => ?_)
    refine p_aload_n e_MM_send_131 rfl ?_
    refine x_gf 33 hR e_MM_send_132 f_MM_92 rfl rfl ?_
    refine p_iload e_MM_send_135 rfl ?_
    refine p_iconst (x := 0) e_MM_send_137 (by decide) ?_
    refine x_apI 33 [32,30,31,29] hR (by decide) rfl e_MM_send_138 (by omega) rfl (fun σ hR => ?_)
    refine p_aload_n e_MM_send_139 rfl ?_
    refine x_gf 34 hR e_MM_send_140 f_MM_95 rfl rfl ?_
    refine p_iload e_MM_send_143 rfl ?_
    refine p_iconst (x := 0) e_MM_send_145 (by decide) ?_
    refine x_apB 34 [33,32,30,31,29] hR (by decide) rfl e_MM_send_146 (by omega) rfl (Or.inl rfl) (fun σ hR => ?_)
    refine p_aload_n e_MM_send_147 rfl ?_
    refine x_gf 35 hR e_MM_send_148 f_MM_98 rfl rfl ?_
    refine p_iload e_MM_send_151 rfl ?_
    refine p_iconst (x := 0) e_MM_send_153 (by decide) ?_
    refine x_apB 35 [34,33,32,30,31,29] hR (by decide) rfl e_MM_send_154 (by omega) rfl (Or.inl rfl) (fun σ hR => ?_)
    refine p_aload_n e_MM_send_155 rfl ?_
    refine x_gf 36 hR e_MM_send_156 f_MM_101 rfl rfl ?_
    refine p_iload e_MM_send_159 rfl ?_
    refine p_iconst (x := 0) e_MM_send_161 (by decide) ?_
    refine x_apI 36 [35,34,33,32,30,31,29] hR (by decide) rfl e_MM_send_162 (by omega) rfl (fun σ hR => ?_)
    refine p_aload_n e_MM_send_163 rfl ?_
    refine x_gf 37 hR e_MM_send_164 f_MM_104 rfl rfl ?_
    refine p_iload e_MM_send_167 rfl ?_
    refine p_iconst (x := 0) e_MM_send_169 (by decide) ?_
    refine x_apI 37 [36,35,34,33,32,30,31,29] hR (by decide) rfl e_MM_send_170 (by omega) rfl (fun σ hR => ?_)
    refine p_aload_n e_MM_send_171 rfl ?_
    refine x_gf 38 hR e_MM_send_172 f_MM_107 rfl rfl ?_
    refine p_iload e_MM_send_175 rfl ?_
    refine p_iconst (x := (-1)) e_MM_send_177 (by decide) ?_
    refine x_apI 38 [37,36,35,34,33,32,30,31,29] hR (by decide) rfl e_MM_send_178 (by omega) rfl (fun σ hR => ?_)
    refine p_aload_n e_MM_send_179 rfl ?_
    refine x_gf 39 hR e_MM_send_180 f_MM_110 rfl rfl ?_
    refine p_iload e_MM_send_183 rfl ?_
    refine p_iconst (x := 0) e_MM_send_185 (by decide) ?_
    refine x_apB 39 [38,37,36,35,34,33,32,30,31,29] hR (by decide) rfl e_MM_send_186 (by omega) rfl (Or.inl rfl) (fun σ hR => ?_)
    refine p_aload_n e_MM_send_187 rfl ?_
    refine p_dup e_MM_send_188 ?_
    refine x_gL hR e_MM_send_189 f_MM_126 rfl ?_
    refine p_iconst (x := 1) e_MM_send_192 (by decide) ?_
    refine p_iadd e_MM_send_193 ?_
    refine x_pL (ln B + 1) hR e_MM_send_194 f_MM_126 (fun q h => by cases h; exact Or.inl rfl) (nI_1 (ln B)) (fun σ2 hR2 _ => ?_)
    refine p_iload e_MM_send_197 rfl ?_
    refine p_iret e_MM_send_199 (rv_i ?_)
    refine hP _ ⟨hR1.1, hR2.cg rfl (fun _ _ => rfl) (fun k hk => ?_) (fun k i y1 y2 y3 y4 => ?_)⟩
    · rw [sv_apL, if_neg (by omega)]
      show _ = sv (wA B (ln B) (nwL kd fm to bl) _) k 0
      rw [sv_wA, if_neg]
      rintro ⟨-, q⟩
      simp at q
      omega
    · have hm : k ∈ [39, 38, 37, 36, 35, 34, 33, 32, 30, 31, 29] ↔ (29 ≤ k ∧ k < 40) := by simp; omega
      have e2 : sv (stL (wA B (ln B) (nwL kd fm to bl) [39, 38, 37, 36, 35, 34, 33, 32, 30, 31, 29]) (ln B + 1)) k i = if i = ln B ∧ k ∈ [39, 38, 37, 36, 35, 34, 33, 32, 30, 31, 29] then nwL kd fm to bl k else sv B k i := rfl
      rw [e2, sv_apL]
      unfold wE
      by_cases z : i = ln B ∧ (29 ≤ k ∧ k < 40)
      · rw [if_pos ⟨z.2, z.1⟩, if_pos ⟨z.1, hm.mpr z.2⟩]
        exact ⟨fun q => q.2 ⟨z.1, hm.mpr z.2⟩, rfl⟩
      · rw [if_neg (fun y => z ⟨y.2, y.1⟩), if_neg (fun y => z ⟨y.1, hm.mp y.2⟩)]
        refine ⟨?_, rfl⟩
        rintro ⟨q, -⟩
        refine y4 ?_
        rcases q with q | q
        · refine Or.inl ?_
          have el : ln (apL B (nwL kd fm to bl)) = ln B + 1 := rfl
          unfold Ex at q ⊢
          rcases q with ⟨q1, q2⟩ | ⟨q1, q2⟩ | ⟨q1, q2⟩ | ⟨q1, q2⟩ | ⟨q1, q2⟩ | ⟨q1, q2⟩
          · exact Or.inl ⟨q1, by rw [el]; omega⟩
          · exact Or.inr (Or.inl ⟨q1, q2⟩)
          · exact Or.inr (Or.inr (Or.inl ⟨q1, by rw [sv_ap_lo (by omega)]; exact q2⟩))
          · exact Or.inr (Or.inr (Or.inr (Or.inl ⟨q1, by rw [sv_ap_lo (by omega)]; exact q2⟩)))
          · exact Or.inr (Or.inr (Or.inr (Or.inr (Or.inl ⟨q1, by rw [sv_ap_lo (by omega)]; exact q2⟩))))
          · refine Or.inr (Or.inr (Or.inr (Or.inr (Or.inr ⟨q1, ?_⟩))))
            rw [sv_apL, sv_apL, if_neg (by omega), if_neg (by omega)]
            exact q2
        · exact Or.inr q
  -- one place of the loop
  have step : ∀ (σ1 : PS) (B : AS) (j : Nat), RR N m Z σ0 D σ1 B → j < ln B → ln B ≤ 118 → kd ≠ 3 → (mtL B kd fm to bl j → Wp m_MM_send 3 80 [(5, .inl (nI j)), (0, .inr m), (1, .inl kd), (2, .inl fm), (3, .inl to), (4, .inl bl)] [] σ1 (fun v σ' => RV m_MM_send.2.2.2 v ∧ P v σ')) → (¬ mtL B kd fm to bl j → Wp m_MM_send 3 86 [(5, .inl (nI j)), (0, .inr m), (1, .inl kd), (2, .inl fm), (3, .inl to), (4, .inl bl)] [] σ1 (fun v σ' => RV m_MM_send.2.2.2 v ∧ P v σ')) → Wp m_MM_send 3 8 [(5, .inl (nI j)), (0, .inr m), (1, .inl kd), (2, .inl fm), (3, .inl to), (4, .inl bl)] [] σ1 (fun v σ' => RV m_MM_send.2.2.2 v ∧ P v σ') := by
    intro σ1 B j hR hj hB hk3 k1 k0
    have out : ∀ z : Int32, (z = 1 ∧ mtL B kd fm to bl j) ∨ (z = 0 ∧ ¬ mtL B kd fm to bl j) → Wp m_MM_send 3 73 [(5, .inl (nI j)), (0, .inr m), (1, .inl kd), (2, .inl fm), (3, .inl to), (4, .inl bl)] [.inl z] σ1 (fun v σ' => RV m_MM_send.2.2.2 v ∧ P v σ') := by
      intro z hz
      refine p_istore e_MM_send_73 (by decide) ?_
      refine p_iload e_MM_send_75 rfl ?_
      refine p_if_eq (tgt := 86) e_MM_send_77 (by decide) (fun h77 => ?_) (fun h77 => ?_)
      · rcases hz with q | q
        · rw [h77] at q; exact absurd q.1 (by decide)
        · exact Wp.lv2 (k0 q.2) ⟨rfl, rfl, rfl, rfl, rfl, rfl, trivial⟩
      · rcases hz with q | q
        · exact Wp.lv2 (k1 q.2) ⟨rfl, rfl, rfl, rfl, rfl, rfl, trivial⟩
        · exact absurd q.1 h77
    refine p_iload e_MM_send_8 rfl ?_
    refine p_if_lt (tgt := 92) e_MM_send_10 (by decide) (fun hx => absurd hx (nI_pos (by omega))) (fun _ => ?_)
    refine p_iload_n e_MM_send_13 rfl ?_
    refine p_iconst (x := 3) e_MM_send_14 (by decide) ?_
    refine p_icmp_eq (tgt := 92) e_MM_send_15 (by decide) (fun hx => absurd hx (hk3)) (fun _ => ?_)
    refine p_aload_n e_MM_send_18 rfl ?_
    refine x_gf 29 hR.2 e_MM_send_19 f_MM_80 rfl rfl ?_
    refine p_iload e_MM_send_22 rfl ?_
    refine r_ld 29 hR rfl (by decide) rfl e_MM_send_24 (rfl) (by show _ < 120; omega) (hR.ll (by decide) (by omega)) ?_
    refine p_iload_n e_MM_send_25 rfl ?_
    refine p_icmp_ne (tgt := 72) e_MM_send_26 (by decide) (fun h26 => ?_) (fun h26 => ?_)
    · refine p_iconst (x := 0) e_MM_send_72 (by decide) ?_
      exact out 0 (Or.inr ⟨rfl, fun q => h26 q.1⟩)
    refine p_aload_n e_MM_send_29 rfl ?_
    refine x_gf 31 hR.2 e_MM_send_30 f_MM_86 rfl rfl ?_
    refine p_iload e_MM_send_33 rfl ?_
    refine r_ld 31 hR rfl (by decide) rfl e_MM_send_35 (rfl) (by show _ < 120; omega) (hR.ll (by decide) (by omega)) ?_
    refine p_iload_n e_MM_send_36 rfl ?_
    refine p_icmp_ne (tgt := 72) e_MM_send_37 (by decide) (fun h37 => ?_) (fun h37 => ?_)
    · refine p_iconst (x := 0) e_MM_send_72 (by decide) ?_
      exact out 0 (Or.inr ⟨rfl, fun q => h37 q.2.1⟩)
    refine p_aload_n e_MM_send_40 rfl ?_
    refine x_gf 30 hR.2 e_MM_send_41 f_MM_83 rfl rfl ?_
    refine p_iload e_MM_send_44 rfl ?_
    refine r_ld 30 hR rfl (by decide) rfl e_MM_send_46 (rfl) (by show _ < 120; omega) (hR.ll (by decide) (by omega)) ?_
    refine p_iload_n e_MM_send_47 rfl ?_
    refine p_icmp_ne (tgt := 72) e_MM_send_48 (by decide) (fun h48 => ?_) (fun h48 => ?_)
    · refine p_iconst (x := 0) e_MM_send_72 (by decide) ?_
      exact out 0 (Or.inr ⟨rfl, fun q => h48 q.2.2.1⟩)
    refine p_iload_n e_MM_send_51 rfl ?_
    refine p_iconst (x := 5) e_MM_send_52 (by decide) ?_
    refine p_icmp_ne (tgt := 68) e_MM_send_53 (by decide) (fun h53 => ?_) (fun h53 => ?_)
    · refine p_iconst (x := 1) e_MM_send_68 (by decide) ?_
      refine p_goto (tgt := 73) e_MM_send_69 (by decide) ?_
      exact out 1 (Or.inl ⟨rfl, h26, h37, h48, fun q => absurd q h53⟩)
    refine p_aload_n e_MM_send_56 rfl ?_
    refine x_gf 32 hR.2 e_MM_send_57 f_MM_89 rfl rfl ?_
    refine p_iload e_MM_send_60 rfl ?_
    refine r_ld 32 hR rfl (by decide) rfl e_MM_send_62 (rfl) (by show _ < 120; omega) (hR.ll (by decide) (by omega)) ?_
    refine p_iload e_MM_send_63 rfl ?_
    refine p_icmp_ne (tgt := 72) e_MM_send_65 (by decide) (fun h65 => ?_) (fun h65 => ?_)
    · refine p_iconst (x := 0) e_MM_send_72 (by decide) ?_
      exact out 0 (Or.inr ⟨rfl, fun q => h65 (q.2.2.2 h53)⟩)
    · refine p_iconst (x := 1) e_MM_send_68 (by decide) ?_
      refine p_goto (tgt := 73) e_MM_send_69 (by decide) ?_
      exact out 1 (Or.inl ⟨rfl, h26, h37, h48, fun _ => h65⟩)
  have tail : ∀ (j : Nat) (σ1 : PS), RR N m Z σ0 D σ1 (dpL A kd fm to bl) → kd ≠ 3 → j ≤ ln (dpL A kd fm to bl) → (∀ i, i < j → ¬ mtL (dpL A kd fm to bl) kd fm to bl i) → Wp m_MM_send 3 8 [(5, .inl (nI j - 1)), (0, .inr m), (1, .inl kd), (2, .inl fm), (3, .inl to), (4, .inl bl)] [] σ1 (fun v σ' => RV m_MM_send.2.2.2 v ∧ P v σ') := by
    intro j
    induction j with
    | zero =>
      intro σ1 hR hk3 hj hno
      refine p_iload e_MM_send_8 rfl ?_
      refine p_if_lt (tgt := 92) e_MM_send_10 (by decide) (fun _ => ?_) (fun hx => absurd ((by decide)) hx)
      exact fin σ1 _ hR
    | succ j ih =>
      intro σ1 hR hk3 hj hno
      rw [cnt_s]
      refine step σ1 _ j hR (by omega) (by omega) hk3 (fun q => absurd q (hno j (by omega))) (fun _ => ?_)
      refine p_iinc e_MM_send_86 rfl rfl (by decide) ?_
      refine p_goto (tgt := 8) e_MM_send_89 (by decide) ?_
      exact Wp.lv2 (ih σ1 hR hk3 (by omega) (fun i hi => hno i (by omega))) ⟨congrArg (fun z => some (Sum.inl z)) cnt_d, rfl, rfl, rfl, rfl, rfl, trivial⟩
  have head : ∀ (j : Nat), kd ≠ 3 → j ≤ ln A → (∀ i, j ≤ i → i < ln A → ¬ mtL A kd fm to bl i) → Wp m_MM_send 3 8 [(5, .inl (nI j - 1)), (0, .inr m), (1, .inl kd), (2, .inl fm), (3, .inl to), (4, .inl bl)] [] σ (fun v σ' => RV m_MM_send.2.2.2 v ∧ P v σ') := by
    intro j
    induction j with
    | zero =>
      intro hk3 hj hno
      refine p_iload e_MM_send_8 rfl ?_
      refine p_if_lt (tgt := 92) e_MM_send_10 (by decide) (fun _ => ?_) (fun hx => absurd ((by decide)) hx)
      have e : dpL A kd fm to bl = A := dpL_no (fun i hi => hno i (Nat.zero_le _) hi)
      exact fin σ _ (by rw [e]; exact hR)
    | succ j ih =>
      intro hk3 hj hno
      rw [cnt_s]
      refine step σ A j hR (by omega) (by omega) hk3 (fun q => ?_) (fun q => ?_)
      · have e : dpL A kd fm to bl = rmL A j := dpL_at hk3 ⟨by omega, q, fun i hi y => absurd (hu hk3 i j (by omega) (by omega) y q) (by omega)⟩
        have tm := hR.tg
        refine p_aload_n e_MM_send_80 rfl ?_
        refine p_iload e_MM_send_81 rfl ?_
        refine p_inv (ci := 8) (d' := 2) [_] _ e_MM_send_83 c_MM_133 k_MM_remove i_MM_remove s_MM_remove rfl rfl (by assumption) rfl rfl (Nat.le_of_ble_eq_true rfl) (Nat.le_of_ble_eq_true rfl) ?_
        refine sp_MM_remove (by omega) (by omega) hR.2 (fun σ2 hR2 _ => ?_)
        have hR3 := RR.rm (by omega) hR.1 hR2
        rw [← e] at hR3
        refine p_iinc e_MM_send_86 rfl rfl (by decide) ?_
        refine p_goto (tgt := 8) e_MM_send_89 (by decide) ?_
        refine Wp.lv2 (tail j σ2 hR3 hk3 (by rw [e]; show j ≤ ln A - 1; omega) (fun i hi y => ?_)) ⟨congrArg (fun z => some (Sum.inl z)) cnt_d, rfl, rfl, rfl, rfl, rfl, trivial⟩
        rw [e] at y
        have y' : mtL A kd fm to bl i := by
          unfold mtL at y ⊢
          rw [sv_rm_at (by omega), sv_rm_at (by omega), sv_rm_at (by omega), sv_rm_at (by omega), if_pos hi] at y
          exact y
        exact absurd (hu hk3 i j (by omega) (by omega) y' q) (by omega)
      · refine p_iinc e_MM_send_86 rfl rfl (by decide) ?_
        refine p_goto (tgt := 8) e_MM_send_89 (by decide) ?_
        refine Wp.lv2 (ih hk3 (by omega) (fun i h1 h2 => ?_)) ⟨congrArg (fun z => some (Sum.inl z)) cnt_d, rfl, rfl, rfl, rfl, rfl, trivial⟩
        by_cases z : i = j
        · subst z; exact q
        · exact hno i (by omega) h2
  refine Ctr.of y_MM_send (Nat.le_of_ble_eq_true rfl) ?_
  refine p_aload_n e_MM_send_0 rfl ?_
  refine x_gL hR.2 e_MM_send_1 f_MM_126 rfl ?_
  refine p_iconst (x := 1) e_MM_send_4 (by decide) ?_
  refine p_isub e_MM_send_5 ?_
  refine p_istore e_MM_send_6 (by decide) ?_
  by_cases hk3 : kd = 3
  · have e : dpL A kd fm to bl = A := by rw [hk3]; exact dpL_3
    have f0 := fun x => fin σ x (by rw [e]; exact hR)
    rcases Nat.eq_zero_or_pos (ln A) with q | q
    · refine p_iload e_MM_send_8 rfl ?_
      refine p_if_lt (tgt := 92) e_MM_send_10 (by decide) (fun _ => ?_) (fun hx => absurd ((by rw [q]; decide)) hx)
      exact Wp.lv2 (f0 _) ⟨rfl, rfl, rfl, rfl, rfl, rfl, trivial⟩
    · refine p_iload e_MM_send_8 rfl ?_
      have e1 : nI (ln A) - 1 = nI (ln A - 1) := by
        obtain ⟨k, hk⟩ : ∃ k, ln A = k + 1 := ⟨ln A - 1, by omega⟩
        rw [hk]; exact nI_pred k
      refine p_if_lt (tgt := 92) e_MM_send_10 (by decide) (fun hx => absurd hx ((by rw [e1]; exact nI_pos (by omega)))) (fun _ => ?_)
      refine p_iload_n e_MM_send_13 rfl ?_
      refine p_iconst (x := 3) e_MM_send_14 (by decide) ?_
      refine p_icmp_eq (tgt := 92) e_MM_send_15 (by decide) (fun _ => ?_) (fun hx => absurd (hk3) hx)
      exact Wp.lv2 (f0 _) ⟨rfl, rfl, rfl, rfl, rfl, rfl, trivial⟩
  · exact Wp.lv2 (head (ln A) hk3 (Nat.le_refl _) (fun i h1 h2 => by omega)) ⟨rfl, rfl, rfl, rfl, rfl, rfl, trivial⟩
end RefL
