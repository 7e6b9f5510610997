/-! the reference's rows and the arbiter: taking out, telling -/
def cvE (E : Nat → Nat → Prop) (p t : Nat) : Nat → Nat → Prop := fun k i => if (22 ≤ k ∧ k < t) ∧ i = p then E k (p + 1) else E k i
def cvA (A : AS) (p t : Nat) : AS := (ln A, rn A, fun k i => if (22 ≤ k ∧ k < t) ∧ i = p then sv A k (p + 1) else sv A k i)
def toE (A : AS) (E : Nat → Nat → Prop) (b i : Nat) : Nat → Nat → Prop := fun k j => ((22 ≤ k ∧ k < 25) ∧ 20 * b + (rn A b - 1) ≤ j ∧ j < 20 * b + 20) ∨ (if (22 ≤ k ∧ k < 25) ∧ 20 * b + i ≤ j ∧ j < 20 * b + 19 then E k (j + 1) else E k j)
section RefM
variable {M : MM} {d pc : Nat} {lv : List (Nat × PV)} {st : List PV} {σ : PS} {P : Option PV → PS → Prop} {N m T : Nat} {Z : Nat → Nat} {σ0 : PS} {E D : Nat → Nat → Prop} {A : AS} {eb eo : Nat → Nat}
theorem sv_cvA {p t k i : Nat} : sv (cvA A p t) k i = if (22 ≤ k ∧ k < t) ∧ i = p then sv A k (p + 1) else sv A k i := rfl
theorem isZ_R {k : Nat} (h : 22 ≤ k ∧ k < 25) : isZ k = true := decide_eq_true (by omega)
theorem lz_R {k : Nat} (h : 22 ≤ k ∧ k < 25) : lz k = 40 := by unfold lz; rw [if_neg (by omega), if_neg (by omega), if_pos (by omega)]
theorem cv_e4 {p k : Nat} (hk : 22 ≤ k ∧ k < 25) : ∀ k' i, isZ k' = true → k' ≠ 25 → i < lz k' → ¬ cvE E p (k + 1) k' i → ¬ (k' = k ∧ i = p) → ¬ cvE E p k k' i ∧ sv (cvA A p (k + 1)) k' i = sv (cvA A p k) k' i := by
  intro k' i _ _ _ h1 h2
  unfold cvE at h1 ⊢
  rw [sv_cvA, sv_cvA]
  by_cases z : (22 ≤ k' ∧ k' < k) ∧ i = p
  · rw [if_pos (by omega)] at h1 ⊢
    rw [if_pos (by omega), if_pos z]
    exact ⟨h1, rfl⟩
  · rw [if_neg (by omega)] at h1 ⊢
    rw [if_neg (by omega), if_neg z]
    exact ⟨h1, rfl⟩
theorem cv_v {p k : Nat} {x : Int32} (hk : 22 ≤ k ∧ k < 25) (hf : p + 1 < 40) (hR : RX N m Z σ0 (cvE E p k) σ (cvA A p k)) (hx : ai σ (Z k) (p + 1) = x) : ¬ cvE E p (k + 1) k p → x = sv (cvA A p (k + 1)) k p := by
  intro h
  unfold cvE at h
  rw [if_pos (by omega)] at h
  rw [sv_cvA, if_pos (by omega), ← hx, hR.2.2.2.2.1 k (p + 1) (isZ_R hk) (by omega) (by rw [lz_R hk]; exact hf) (by unfold cvE; rw [if_neg (by omega)]; exact h), sv_cvA, if_neg (by omega)]
theorem x_cvI (k : Nat) {p : Nat} (hR : RX N m Z σ0 (cvE E p k) σ (cvA A p k)) (hk : 22 ≤ k ∧ k < 25) (ht : tz k = 100) (hd1 : decode M.2.1 pc = .ok (.iaload, 1)) (hd2 : decode M.2.1 (pc + 1) = .ok (.iastore, 1)) (hf : p + 1 < 40) (kk : ∀ σ', RX N m Z σ0 (cvE E p (k + 1)) σ' (cvA A p (k + 1)) → Wp M d (pc + 1 + 1) lv st σ' P) : Wp M d pc lv (.inl (nI (p + 1)) :: .inr (Z k) :: .inl (nI p) :: .inr (Z k) :: st) σ P := by
  have l := lz_R hk
  refine x_lr k hR (isZ_R hk) ht hd1 rfl (by omega) rfl ?_
  exact x_st k (cvA A p (k + 1)) hR (isZ_R hk) ht hd2 rfl (by omega) rfl (fun b _ => by rw [if_neg (by omega)]; rfl) (fun k' hk' => by rw [sv_cvA, sv_cvA, if_neg (by omega), if_neg (by omega)]) (cv_e4 hk) (fun _ => cv_v hk hf hR rfl) (fun σ' h1 _ => kk σ' h1)
theorem x_cvB (k : Nat) {p : Nat} (hR : RX N m Z σ0 (cvE E p k) σ (cvA A p k)) (hk : 22 ≤ k ∧ k < 25) (ht : tz k = 101) (hd1 : decode M.2.1 pc = .ok (.baload, 1)) (hd2 : decode M.2.1 (pc + 1) = .ok (.bastore, 1)) (hf : p + 1 < 40) (kk : ∀ σ', RX N m Z σ0 (cvE E p (k + 1)) σ' (cvA A p (k + 1)) → Wp M d (pc + 1 + 1) lv st σ' P) : Wp M d pc lv (.inl (nI (p + 1)) :: .inr (Z k) :: .inl (nI p) :: .inr (Z k) :: st) σ P := by
  have l := lz_R hk
  refine x_lrb k hR (isZ_R hk) ht hd1 rfl (by omega) rfl ?_
  exact x_sb k (cvA A p (k + 1)) hR (isZ_R hk) ht hd2 rfl (by omega) (hR.2.2.2.2.2 k (p + 1) (isZ_R hk) ht (by omega)) rfl (fun b _ => by rw [if_neg (by omega)]; rfl) (fun k' hk' => by rw [sv_cvA, sv_cvA, if_neg (by omega), if_neg (by omega)]) (cv_e4 hk) (fun _ => cv_v hk hf hR rfl) (fun σ' h1 _ => kk σ' h1)
/-- half way of taking a request out -/
def rth (A : AS) (b i t : Nat) : AS := (ln A, (fun b' => if b' = b then rn A b - 1 else rn A b'), fun k j => if (22 ≤ k ∧ k < 25) ∧ 20 * b + i ≤ j ∧ j < 20 * b + t then sv A k (j + 1) else sv A k j)
def rthE (E : Nat → Nat → Prop) (b i t : Nat) : Nat → Nat → Prop := fun k j => if (22 ≤ k ∧ k < 25) ∧ 20 * b + i ≤ j ∧ j < 20 * b + t then E k (j + 1) else E k j
theorem sv_rth {b i t k j : Nat} : sv (rth A b i t) k j = if (22 ≤ k ∧ k < 25) ∧ 20 * b + i ≤ j ∧ j < 20 * b + t then sv A k (j + 1) else sv A k j := rfl
set_option maxHeartbeats 4000000 in
theorem sp_MM_takeOut {b i : Nat} (hb : b < 2) (hi : i < rn A b) (h20 : rn A b ≤ 20) (hR : RX N m Z σ0 E σ A) (hP : ∀ σ', RX N m Z σ0 (toE A E b i) σ' (rmR A b i) → P none σ') : Ctr m_MM_takeOut 1 [.inr m, .inl (nI b), .inl (nI i)] σ P := by
  have e1 : nI (rn A b) - 1 = nI (rn A b - 1) := by
    obtain ⟨k, hk⟩ : ∃ k, rn A b = k + 1 := ⟨rn A b - 1, by omega⟩
    rw [hk]; exact nI_pred k
  have loop : ∀ n t, t + n = rn A b - 1 → i ≤ t → ∀ σ1 : PS, RX N m Z σ0 (rthE E b i t) σ1 (rth A b i t) → Wp m_MM_takeOut 1 17 [(3, .inl (nI (20 * b + t))), (0, .inr m), (1, .inl (nI b)), (2, .inl (nI i))] [] σ1 (fun v σ' => RV m_MM_takeOut.2.2.2 v ∧ P v σ') := by
    intro n
    induction n with
    | zero =>
      intro t ht hit σ1 hR1
      have r25 : ai σ1 (Z 25) b = nI (rn A b - 1) := by rw [hR1.2.2.2.1 b hb]; show nI (if b = b then _ else _) = _; rw [if_pos rfl]
      refine p_iload_n e_MM_takeOut_17 rfl ?_
      refine p_bipush (x := 20) e_MM_takeOut_18 (by decide) ?_
      refine p_iload_n e_MM_takeOut_20 rfl ?_
      refine p_imul e_MM_takeOut_21 ?_
      refine p_top at20a ?_
      refine p_aload_n e_MM_takeOut_22 rfl ?_
      refine x_gf 25 hR1 e_MM_takeOut_23 f_MM_71 rfl rfl ?_
      refine p_iload_n e_MM_takeOut_26 rfl ?_
      refine x_lr 25 hR1 rfl rfl e_MM_takeOut_27 rfl hb r25 ?_
      refine p_iadd e_MM_takeOut_28 ?_
      refine p_top (nI_add _ _) ?_
      refine p_icmp_ge (tgt := 80) e_MM_takeOut_29 (by decide) (fun _ => ?_) (fun hx => absurd (nI_le (by omega) (by omega)) hx)
      refine p_ret e_MM_takeOut_80 (rv_v ?_)
      refine hP σ1 (hR1.cg rfl (fun _ _ => rfl) (fun k hk => by rw [sv_rmR, sv_rth, if_neg (by omega), if_neg (by omega)]) (fun k j y1 y2 y3 y4 => ?_))
      unfold toE at y4
      by_cases z : (22 ≤ k ∧ k < 25) ∧ 20 * b + i ≤ j ∧ j < 20 * b + 19
      · by_cases z2 : j < 20 * b + t
        · rw [if_pos z] at y4
          have a1 : rthE E b i t k j = E k (j + 1) := by unfold rthE; rw [if_pos (by omega)]
          rw [a1, sv_rmR, if_pos z, sv_rth, if_pos (by omega)]
          exact ⟨fun q => y4 (Or.inr q), rfl⟩
        · exact absurd (Or.inl (by omega)) y4
      · rw [if_neg z] at y4
        have a1 : rthE E b i t k j = E k j := by
          unfold rthE
          rw [if_neg (by omega)]
        rw [a1, sv_rmR, if_neg z, sv_rth, if_neg (by omega)]
        exact ⟨fun q => y4 (Or.inr q), rfl⟩
    | succ n ih =>
      intro t ht hit σ1 hR1
      have r25 : ai σ1 (Z 25) b = nI (rn A b - 1) := by rw [hR1.2.2.2.1 b hb]; show nI (if b = b then _ else _) = _; rw [if_pos rfl]
      refine p_iload_n e_MM_takeOut_17 rfl ?_
      refine p_bipush (x := 20) e_MM_takeOut_18 (by decide) ?_
      refine p_iload_n e_MM_takeOut_20 rfl ?_
      refine p_imul e_MM_takeOut_21 ?_
      refine p_top at20a ?_
      refine p_aload_n e_MM_takeOut_22 rfl ?_
      refine x_gf 25 hR1 e_MM_takeOut_23 f_MM_71 rfl rfl ?_
      refine p_iload_n e_MM_takeOut_26 rfl ?_
      refine x_lr 25 hR1 rfl rfl e_MM_takeOut_27 rfl hb r25 ?_
      refine p_iadd e_MM_takeOut_28 ?_
      refine p_top (nI_add _ _) ?_
      refine p_icmp_ge (tgt := 80) e_MM_takeOut_29 (by decide) (fun hx => absurd hx (nI_ge (by omega) (by omega))) (fun _ => ?_)
      have hR : RX N m Z σ0 (cvE (rthE E b i t) (20 * b + t) 22) σ1 (cvA (rth A b i t) (20 * b + t) 22) := hR1.cg rfl (fun _ _ => rfl) (fun k hk => by rw [sv_cvA, if_neg (by omega)]) (fun k i _ _ _ q => by
        unfold cvE at q
        rw [if_neg (by omega)] at q
        exact ⟨q, by rw [sv_cvA, if_neg (by omega)]⟩)
      refine p_aload_n e_MM_takeOut_32 rfl ?_
      refine x_gf 22 hR e_MM_takeOut_33 f_MM_62 rfl rfl ?_
      refine p_iload_n e_MM_takeOut_36 rfl ?_
      refine p_aload_n e_MM_takeOut_37 rfl ?_
      refine x_gf 22 hR e_MM_takeOut_38 f_MM_62 rfl rfl ?_
      refine p_iload_n e_MM_takeOut_41 rfl ?_
      refine p_iconst (x := 1) e_MM_takeOut_42 (by decide) ?_
      refine p_iadd e_MM_takeOut_43 ?_
      refine p_top (nI_1 _) ?_
      refine x_cvI 22 hR (by decide) rfl e_MM_takeOut_44 e_MM_takeOut_45 (by omega) (fun σ2 hR => ?_)
      refine p_aload_n e_MM_takeOut_46 rfl ?_
      refine x_gf 23 hR e_MM_takeOut_47 f_MM_65 rfl rfl ?_
      refine p_iload_n e_MM_takeOut_50 rfl ?_
      refine p_aload_n e_MM_takeOut_51 rfl ?_
      refine x_gf 23 hR e_MM_takeOut_52 f_MM_65 rfl rfl ?_
      refine p_iload_n e_MM_takeOut_55 rfl ?_
      refine p_iconst (x := 1) e_MM_takeOut_56 (by decide) ?_
      refine p_iadd e_MM_takeOut_57 ?_
      refine p_top (nI_1 _) ?_
      refine x_cvI 23 hR (by decide) rfl e_MM_takeOut_58 e_MM_takeOut_59 (by omega) (fun σ3 hR => ?_)
      refine p_aload_n e_MM_takeOut_60 rfl ?_
      refine x_gf 24 hR e_MM_takeOut_61 f_MM_68 rfl rfl ?_
      refine p_iload_n e_MM_takeOut_64 rfl ?_
      refine p_aload_n e_MM_takeOut_65 rfl ?_
      refine x_gf 24 hR e_MM_takeOut_66 f_MM_68 rfl rfl ?_
      refine p_iload_n e_MM_takeOut_69 rfl ?_
      refine p_iconst (x := 1) e_MM_takeOut_70 (by decide) ?_
      refine p_iadd e_MM_takeOut_71 ?_
      refine p_top (nI_1 _) ?_
      refine x_cvB 24 hR (by decide) rfl e_MM_takeOut_72 e_MM_takeOut_73 (by omega) (fun σ4 hR => ?_)
      refine p_iinc e_MM_takeOut_74 rfl rfl (by decide) ?_
      refine p_goto (tgt := 17) e_MM_takeOut_77 (by decide) ?_
      refine Wp.lv2 (ih (t + 1) (by omega) (by omega) σ4 (hR.cg rfl (fun _ _ => rfl) (fun k hk => by rw [sv_rth, sv_cvA, if_neg (by omega), if_neg (by omega), sv_rth, if_neg (by omega)]) (fun k j y1 y2 y3 y4 => ?_))) ⟨congrArg (fun z => some (Sum.inl z)) (nI_1 _), rfl, rfl, rfl, trivial⟩
      by_cases z : (22 ≤ k ∧ k < 25) ∧ j = 20 * b + t
      · obtain ⟨z1, rfl⟩ := z
        have a1 : cvE (rthE E b i t) (20 * b + t) (24 + 1) k (20 * b + t) = E k (20 * b + t + 1) := by unfold cvE rthE; rw [if_pos ⟨z1, rfl⟩, if_neg (by omega)]
        have a2 : sv (cvA (rth A b i t) (20 * b + t) (24 + 1)) k (20 * b + t) = sv A k (20 * b + t + 1) := by rw [sv_cvA, if_pos ⟨z1, rfl⟩, sv_rth, if_neg (by omega)]
        have a3 : rthE E b i (t + 1) k (20 * b + t) = E k (20 * b + t + 1) := by unfold rthE; rw [if_pos (by omega)]
        have a4 : sv (rth A b i (t + 1)) k (20 * b + t) = sv A k (20 * b + t + 1) := by rw [sv_rth, if_pos (by omega)]
        rw [a3] at y4
        rw [a1, a2, a4]
        exact ⟨y4, rfl⟩
      · have a1 : cvE (rthE E b i t) (20 * b + t) (24 + 1) k j = rthE E b i t k j := by unfold cvE; rw [if_neg (by omega)]
        have a2 : sv (cvA (rth A b i t) (20 * b + t) (24 + 1)) k j = sv (rth A b i t) k j := by rw [sv_cvA, if_neg (by omega)]
        have a3 : rthE E b i (t + 1) k j = rthE E b i t k j := by
          unfold rthE
          by_cases z2 : (22 ≤ k ∧ k < 25) ∧ 20 * b + i ≤ j ∧ j < 20 * b + t
          · rw [if_pos z2, if_pos (by omega)]
          · rw [if_neg z2, if_neg (by omega)]
        have a4 : sv (rth A b i (t + 1)) k j = sv (rth A b i t) k j := by
          rw [sv_rth, sv_rth]
          by_cases z2 : (22 ≤ k ∧ k < 25) ∧ 20 * b + i ≤ j ∧ j < 20 * b + t
          · rw [if_pos z2, if_pos (by omega)]
          · rw [if_neg z2, if_neg (by omega)]
        rw [a3] at y4
        rw [a1, a2, a4]
        exact ⟨y4, rfl⟩
  refine Ctr.of y_MM_takeOut (Nat.le_of_ble_eq_true rfl) ?_
  refine p_aload_n e_MM_takeOut_0 rfl ?_
  refine x_gf 25 hR e_MM_takeOut_1 f_MM_71 rfl rfl ?_
  refine p_iload_n e_MM_takeOut_4 rfl ?_
  refine p_dup2 e_MM_takeOut_5 ?_
  refine x_lr 25 hR rfl rfl e_MM_takeOut_6 rfl hb (hR.2.2.2.1 b hb) ?_
  refine p_iconst (x := 1) e_MM_takeOut_7 (by decide) ?_
  refine p_isub e_MM_takeOut_8 ?_
  refine x_st 25 (E' := rthE E b i i) (rth A b i i) hR rfl rfl e_MM_takeOut_9 rfl hb rfl (fun b' hb' => ?_) (fun k' hk' => by rw [sv_rth, if_neg (by omega)]) (fun k' j y1 y2 y3 y4 y5 => ?_) (fun q => absurd rfl q) (fun σ1 hR1 _ => ?_)
  · show nI (if b' = b then rn A b - 1 else rn A b') = _
    by_cases z : b' = b
    · rw [if_pos z, if_pos ⟨rfl, z⟩, e1]
    · rw [if_neg z, if_neg (fun y => z y.2)]
  · unfold rthE at y4
    rw [if_neg (by omega)] at y4
    exact ⟨y4, by rw [sv_rth, if_neg (by omega)]⟩
  · refine p_bipush (x := 20) e_MM_takeOut_10 (by decide) ?_
    refine p_iload_n e_MM_takeOut_12 rfl ?_
    refine p_imul e_MM_takeOut_13 ?_
    refine p_iload_n e_MM_takeOut_14 rfl ?_
    refine p_iadd e_MM_takeOut_15 ?_
    refine p_top at20 ?_
    refine p_istore_n e_MM_takeOut_16 (by decide) ?_
    exact Wp.lv2 (loop (rn A b - 1 - i) i (by omega) (Nat.le_refl _) σ1 hR1) ⟨rfl, rfl, rfl, rfl, trivial⟩
theorem RR.rmR {b i : Nat} (hb : b < 2) (hi : i < rn A b) (h20 : ∀ b', b' < 2 → rn A b' ≤ 20) (h0 : ∀ k i, D k i → k = 10 ∨ k = 12 ∨ k = 14 ∨ k = 26) (h : RX N m Z σ0 (toE A (fun k i => Ex A k i ∨ D k i) b i) σ (rmR A b i)) : RR N m Z σ0 D σ (rmR A b i) := by
  have hb20 := h20 b hb
  refine ⟨h0, h.cg rfl (fun _ _ => rfl) (fun _ _ => rfl) (fun k j y1 y2 y3 y4 => ⟨fun q => y4 ?_, rfl⟩)⟩
  have ek : ∀ k' j', ¬ (22 ≤ k' ∧ k' < 25) → sv (Jvm.Pilot.@@N@@.rmR A b i) k' j' = sv A k' j' := fun k' j' hk' => by rw [sv_rmR, if_neg (fun z => hk' z.1)]
  have el : ln (Jvm.Pilot.@@N@@.rmR A b i) = ln A := rfl
  by_cases z : 22 ≤ k ∧ k < 25
  · refine Or.inl (Or.inr (Or.inl ⟨z, fun b' j' hb' hj' e => ?_⟩))
    rw [rn_rmR]
    have two : (∀ b'' j'', b'' < 2 → j'' < 20 → j = 20 * b'' + j'' → rn A b'' ≤ j'') ∨ (∀ b'' j'', b'' < 2 → j'' < 20 → j + 1 = 20 * b'' + j'' → rn A b'' ≤ j'') ∧ (20 * b + i ≤ j ∧ j < 20 * b + 19) ∨ (20 * b + (rn A b - 1) ≤ j ∧ j < 20 * b + 20) := by
      unfold toE at q
      rcases q with q | q
      · exact Or.inr (Or.inr q.2)
      · by_cases y : 20 * b + i ≤ j ∧ j < 20 * b + 19
        · rw [if_pos ⟨z, y⟩] at q
          rcases q with q | q
          · unfold Ex at q
            rcases q with ⟨q1, q2⟩ | ⟨q1, q2⟩ | ⟨q1, q2⟩ | ⟨q1, q2⟩ | ⟨q1, q2⟩ | ⟨q1, q2⟩
            · omega
            · exact Or.inr (Or.inl ⟨q2, y⟩)
            · omega
            · omega
            · omega
            · omega
          · have := h0 _ _ q; omega
        · rw [if_neg (fun x => y x.2)] at q
          rcases q with q | q
          · unfold Ex at q
            rcases q with ⟨q1, q2⟩ | ⟨q1, q2⟩ | ⟨q1, q2⟩ | ⟨q1, q2⟩ | ⟨q1, q2⟩ | ⟨q1, q2⟩
            · omega
            · exact Or.inl q2
            · omega
            · omega
            · omega
            · omega
          · have := h0 _ _ q; omega
    rcases two with q | q | q
    · have := q b' j' hb' hj' e
      by_cases x : b' = b
      · subst x; rw [if_pos rfl]; omega
      · rw [if_neg x]; exact this
    · have hbb : b' = b := by omega
      subst hbb
      rw [if_pos rfl]
      have := q.1 b' (j' + 1) hb' (by omega) (by omega)
      omega
    · have hbb : b' = b := by omega
      subst hbb
      rw [if_pos rfl]
      omega
  · unfold toE at q
    rw [if_neg (fun x => z x.1)] at q
    rcases q with q | q
    · exact absurd q.1 z
    · rcases q with q | q
      · refine Or.inl ?_
        unfold Ex at q ⊢
        rw [ek 12 _ (by omega), ek 9 _ (by omega), ek 40 _ (by omega), ek 29 _ (by omega), ek 38 _ (by omega), el]
        rcases q with q | q | q
        · exact Or.inl q
        · exact absurd q.1 z
        · exact Or.inr (Or.inr q)
      · exact Or.inr q
end RefM
