/-! the reference: telling all, making active, lapsing, PLEASE -/
theorem as_ext {A B : AS} (h1 : ln A = ln B) (h2 : rn A = rn B) (h3 : ∀ k i, sv A k i = sv B k i) : A = B := by
  obtain ⟨a, b, c⟩ := A
  obtain ⟨a', b', c'⟩ := B
  have e1 : a = a' := h1
  have e2 : b = b' := h2
  have e3 : c = c' := funext (fun k => funext (fun i => h3 k i))
  rw [e1, e2, e3]
section RefN
variable {M : MM} {d pc : Nat} {lv : List (Nat × PV)} {st : List PV} {σ : PS} {P : Option PV → PS → Prop} {N m T : Nat} {Z : Nat → Nat} {σ0 : PS} {E D : Nat → Nat → Prop} {A : AS} {eb eo : Nat → Nat}
theorem set_com {k i k' i' : Nat} {v v' : Int32} (h : ¬ (k = k' ∧ i = i')) : set1 (set1 A k i v) k' i' v' = set1 (set1 A k' i' v') k i v := as_ext rfl rfl (set_set h)
theorem rm_set {k i j : Nat} {v : Int32} (hk : ¬ (29 ≤ k ∧ k < 40)) : rmL (set1 A k i v) j = set1 (rmL A j) k i v := by
  refine as_ext rfl rfl (fun q z => ?_)
  rw [sv_rmL, sv_set1, sv_set1, sv_set1, sv_rmL]
  by_cases y : (29 ≤ q ∧ q < 40) ∧ j ≤ z
  · rw [if_pos y, if_neg (by omega), if_neg (by omega), if_pos y]
  · rw [if_neg y, if_neg y]
theorem ap_set {k i : Nat} {v : Int32} {g : Nat → Int32} (hk : ¬ (29 ≤ k ∧ k < 40)) : apL (set1 A k i v) g = set1 (apL A g) k i v := by
  refine as_ext rfl rfl (fun q z => ?_)
  rw [sv_apL, sv_set1, sv_set1, sv_apL, ln_set1]
  by_cases y : (29 ≤ q ∧ q < 40) ∧ z = ln A
  · rw [if_pos y, if_neg (by omega), if_pos y]
  · rw [if_neg y, if_neg y]
theorem mt_set {k i j : Nat} {v kd fm to bl : Int32} (hk : ¬ (29 ≤ k ∧ k < 40)) : mtL (set1 A k i v) kd fm to bl j ↔ mtL A kd fm to bl j := by
  unfold mtL
  rw [sv_set1, if_neg (by omega), sv_set1, if_neg (by omega), sv_set1, if_neg (by omega), sv_set1, if_neg (by omega)]
theorem dp_set {k i : Nat} {v kd fm to bl : Int32} (hk : ¬ (29 ≤ k ∧ k < 40)) : dpL (set1 A k i v) kd fm to bl = set1 (dpL A kd fm to bl) k i v := by
  have e : ∀ j, fdL (set1 A k i v) kd fm to bl j ↔ fdL A kd fm to bl j := by
    intro j
    unfold fdL
    rw [ln_set1, mt_set hk]
    constructor
    · rintro ⟨a, b, c⟩; exact ⟨a, b, fun z hz y => c z hz ((mt_set hk).mpr y)⟩
    · rintro ⟨a, b, c⟩; exact ⟨a, b, fun z hz y => c z hz ((mt_set hk).mp y)⟩
  by_cases h3 : kd = 3
  · subst h3; rw [dpL_3, dpL_3]
  · by_cases hx : ∃ j, fdL A kd fm to bl j
    · obtain ⟨j, hj⟩ := hx
      rw [dpL_at h3 hj, dpL_at h3 ((e j).mpr hj), rm_set hk]
    · have hx' : ¬ ∃ j, fdL (set1 A k i v) kd fm to bl j := fun ⟨j, hj⟩ => hx ⟨j, (e j).mp hj⟩
      unfold dpL
      rw [if_neg h3, dif_neg hx, if_neg h3, dif_neg hx']
theorem sd_set {k i : Nat} {v kd fm to bl : Int32} (hk : ¬ (29 ≤ k ∧ k < 40)) : sdL (set1 A k i v) kd fm to bl = set1 (sdL A kd fm to bl) k i v := by
  unfold sdL
  rw [dp_set hk, ap_set hk]
theorem tl_set {k i b : Nat} {v co w sr : Int32} (hk : ¬ (29 ≤ k ∧ k < 40)) : ∀ c, tlA N (set1 A k i v) b co w sr c = set1 (tlA N A b co w sr c) k i v
  | 0 => rfl
  | c + 1 => by
    unfold tlA
    rw [tl_set hk c, dp_set hk, sd_set hk, ln_set1, set_com (k := k) (k' := 38) (by omega), set_com (k := k) (k' := 39) (by omega), set_com (k := k) (k' := 37) (by omega)]
theorem tl_ln {i b : Nat} {co w sr c1 w1 n1 : Int32} (c : Nat) : tlA N (lnA A i c1 w1 n1) b co w sr c = lnA (tlA N A b co w sr c) i c1 w1 n1 := by
  unfold lnA
  rw [tl_set (by omega), tl_set (by omega), tl_set (by omega)]
/-- core and kind of the active request are written into a KNOW -/
theorem r_s38 {n : Nat} {j co : Int32} (hR : RR N m Z σ0 nD σ A) (hd : decode M.2.1 pc = .ok (.iastore, 1)) (hj : j = nI n) (hn : n < 120) (kk : ∀ σ', RX N m Z σ0 (fun k i => Ex (set1 A 38 n co) k i ∨ (k = 39 ∧ i = n)) σ' (set1 A 38 n co) → Wp M d (pc + 1) lv st σ' P) : Wp M d pc lv (.inl co :: .inl j :: .inr (Z 38) :: st) σ P := by
  refine x_st 38 (set1 A 38 n co) hR.2 rfl rfl hd hj hn rfl (fun b hb => by rw [if_neg (by omega)]; rfl) (fun k' hk' => by rw [sv_set1, if_neg (by omega)]) (fun k' i y1 y2 y3 y4 y5 => ⟨?_, by rw [sv_set1, if_neg y5]⟩) (fun _ _ => by rw [sv_set1, if_pos ⟨rfl, rfl⟩]) (fun σ' h _ => kk σ' h)
  rintro (z | z)
  · refine y4 ?_
    by_cases e : k' = 39 ∧ i = n
    · exact Or.inr e
    · refine Or.inl ?_
      unfold Ex at z ⊢
      rw [sv_set1 (k' := 12), if_neg (by omega), sv_set1 (k' := 9), if_neg (by omega), sv_set1 (k' := 40), if_neg (by omega), sv_set1 (k' := 29), if_neg (by omega)]
      rcases z with z | z | z | z | z | z
      · exact Or.inl z
      · exact Or.inr (Or.inl z)
      · exact Or.inr (Or.inr (Or.inl z))
      · exact Or.inr (Or.inr (Or.inr (Or.inl z)))
      · exact Or.inr (Or.inr (Or.inr (Or.inr (Or.inl z))))
      · refine Or.inr (Or.inr (Or.inr (Or.inr (Or.inr ⟨z.1, z.2.1, ?_⟩))))
        rw [sv_set1, if_neg (by omega)]
        exact z.2.2
  · exact z
theorem r_s39 {n : Nat} {j y w : Int32} (hR : RX N m Z σ0 (fun k i => Ex A k i ∨ (k = 39 ∧ i = n)) σ A) (hd : decode M.2.1 pc = .ok (.bastore, 1)) (hj : j = nI n) (hn : n < 120) (hz : bz y) (hw : ¬ (sv A 29 n = 5 ∧ sv A 38 n = -1) → y = w) (kk : ∀ σ', RR N m Z σ0 nD σ' (set1 A 39 n w) → Wp M d (pc + 1) lv st σ' P) : Wp M d pc lv (.inl y :: .inl j :: .inr (Z 39) :: st) σ P := by
  refine x_sb 39 (E' := fun k i => Ex (set1 A 39 n w) k i ∨ nD k i) (set1 A 39 n w) hR rfl rfl hd hj hn hz rfl (fun b hb => by rw [if_neg (by omega)]; rfl) (fun k' hk' => by rw [sv_set1, if_neg (by omega)]) (fun k' i y1 y2 y3 y4 y5 => ⟨?_, by rw [sv_set1, if_neg y5]⟩) (fun _ q => ?_) (fun σ' h _ => kk σ' ⟨fun _ _ q => absurd q id, h⟩)
  · rintro (z | z)
    · exact y4 (Or.inl ((Ex_set (by omega)).mpr z))
    · exact y5 z
  · rw [sv_set1, if_pos ⟨rfl, rfl⟩]
    refine hw (fun z => q (Or.inl ((Ex_set (by omega)).mpr ?_)))
    exact Or.inr (Or.inr (Or.inr (Or.inr (Or.inr ⟨rfl, z⟩))))
set_option maxHeartbeats 4000000 in
theorem sp_MM_tellAll {b : Nat} {co w sr : Int32} (hb : b < 2) (hco : sv A 9 (2 * N + b) = co) (hw : co ≠ -1 → sv A 10 (2 * N + b) = w) (hsr : sv A 11 (2 * N + b) = sr) (hL : ∀ c, c ≤ N → LI N (tlA N A b co w sr c) eb eo) (hR : RR N m Z σ0 nD σ A) (hP : ∀ σ', RR N m Z σ0 nD σ' (tlA N A b co w sr N) → P none σ') : Ctr m_MM_tellAll 4 [.inr m, .inl (nI b)] σ P := by
  have hN := hR.2.hN
  have loop : ∀ k c, c + k = N → ∀ σ : PS, RR N m Z σ0 nD σ (tlA N A b co w sr c) → Wp m_MM_tellAll 4 11 [(3, .inl (nI c)), (2, .inl (nI (2 * N + b))), (0, .inr m), (1, .inl (nI b))] [] σ (fun v σ' => RV m_MM_tellAll.2.2.2 v ∧ P v σ') := by
    intro k
    induction k with
    | zero =>
      intro c hc σ hR
      have e : c = N := by omega
      subst e
      refine p_iload_n e_MM_tellAll_11 rfl ?_
      refine p_aload_n e_MM_tellAll_12 rfl ?_
      refine x_gN hR.2 e_MM_tellAll_13 f_MM_113 rfl ?_
      refine p_icmp_ge (tgt := 77) e_MM_tellAll_16 (by decide) (fun _ => ?_) (fun hx => absurd (nI_le (Nat.le_refl _) (by omega)) hx)
      refine p_ret e_MM_tellAll_77 (rv_v ?_)
      exact hP _ hR
    | succ k ih =>
      intro c hc σ hR
      have tm := hR.tg
      have hl := (hL c (by omega)).bound
      have ih2 := ih (c + 1) (by omega)
      unfold tlA at ih2
      have t9 : sv (tlA N A b co w sr c) 9 (2 * N + b) = co := (sv_tlA (by omega) c).trans hco
      have t10 : co ≠ -1 → sv (tlA N A b co w sr c) 10 (2 * N + b) = w := fun q => (sv_tlA (by omega) c).trans (hw q)
      have t11 : sv (tlA N A b co w sr c) 11 (2 * N + b) = sr := (sv_tlA (by omega) c).trans hsr
      have hu := (hL c (by omega)).hu (kd := 5) (fm := nI N) (to := nI c) (bl := nI b)
      generalize tlA N A b co w sr c = B at ih2 hR hl t9 t10 t11 hu
      refine p_iload_n e_MM_tellAll_11 rfl ?_
      refine p_aload_n e_MM_tellAll_12 rfl ?_
      refine x_gN hR.2 e_MM_tellAll_13 f_MM_113 rfl ?_
      refine p_icmp_ge (tgt := 77) e_MM_tellAll_16 (by decide) (fun hx => absurd hx (nI_ge (by omega) (by omega))) (fun _ => ?_)
      refine p_aload_n e_MM_tellAll_19 rfl ?_
      refine p_iconst (x := 5) e_MM_tellAll_20 (by decide) ?_
      refine p_aload_n e_MM_tellAll_21 rfl ?_
      refine x_gN hR.2 e_MM_tellAll_22 f_MM_113 rfl ?_
      refine p_iload_n e_MM_tellAll_25 rfl ?_
      refine p_iload_n e_MM_tellAll_26 rfl ?_
      refine p_inv (ci := 8) (d' := 3) [_, _, _, _] _ e_MM_tellAll_27 c_MM_137 k_MM_send i_MM_send s_MM_send rfl rfl (by assumption) rfl rfl (Nat.le_of_ble_eq_true rfl) (Nat.le_of_ble_eq_true rfl) ?_
      refine sp_MM_send (kd := 5) (by omega) hu hR (fun σ hR => ?_)
      have hle := dpL_le B 5 (nI N) (nI c) (nI b)
      have s29 : sv (sdL B 5 (nI N) (nI c) (nI b)) 29 (ln (dpL B 5 (nI N) (nI c) (nI b))) = 5 := sv29_sd
      have s9 : sv (sdL B 5 (nI N) (nI c) (nI b)) 9 (2 * N + b) = co := (sv_sdL (by omega)).trans t9
      have s10 : co ≠ -1 → sv (sdL B 5 (nI N) (nI c) (nI b)) 10 (2 * N + b) = w := fun q => (sv_sdL (by omega)).trans (t10 q)
      have s11 : sv (sdL B 5 (nI N) (nI c) (nI b)) 11 (2 * N + b) = sr := (sv_sdL (by omega)).trans t11
      generalize ln (dpL B 5 (nI N) (nI c) (nI b)) = n at ih2 hle s29
      generalize sdL B 5 (nI N) (nI c) (nI b) = C at hR ih2 s29 s9 s10 s11
      have n120 : n < 120 := by omega
      refine p_istore e_MM_tellAll_30 (by decide) ?_
      refine p_aload_n e_MM_tellAll_32 rfl ?_
      refine x_gf 37 hR.2 e_MM_tellAll_33 f_MM_104 rfl rfl ?_
      refine p_iload e_MM_tellAll_36 rfl ?_
      refine p_aload_n e_MM_tellAll_38 rfl ?_
      refine x_gf 11 hR.2 e_MM_tellAll_39 f_MM_29 rfl rfl ?_
      refine p_iload_n e_MM_tellAll_42 rfl ?_
      refine r_ldv 11 (v := sr) hR rfl (by decide) rfl e_MM_tellAll_43 (rfl) (by show _ < 10; omega) (hR.pl rfl) (s11) ?_
      refine r_sn 37 hR rfl rfl rfl e_MM_tellAll_44 (rfl) (by show _ < 120; omega) (fun σ hR => ?_)
      refine p_aload_n e_MM_tellAll_45 rfl ?_
      refine x_gf 38 hR.2 e_MM_tellAll_46 f_MM_107 rfl rfl ?_
      refine p_iload e_MM_tellAll_49 rfl ?_
      refine p_aload_n e_MM_tellAll_51 rfl ?_
      refine x_gf 9 hR.2 e_MM_tellAll_52 f_MM_23 rfl rfl ?_
      refine p_iload_n e_MM_tellAll_55 rfl ?_
      refine r_ldv 9 (v := co) hR rfl (by decide) rfl e_MM_tellAll_56 (rfl) (by show _ < 10; omega) (hR.pl rfl) ((by rw [sv_set1, if_neg (by omega)]; exact s9)) ?_
      have v10 : co ≠ -1 → ai _ (Z 10) (2 * N + b) = w := fun q => (hR.2.2.2.2.2.1 10 (2 * N + b) rfl (by decide) (show 2 * N + b < 10 by omega) (ok_10 (show sv (set1 C 37 n sr) 9 (2 * N + b) ≠ -1 by rw [sv_set1, if_neg (by omega), s9]; exact q)).no).trans (by rw [sv_set1, if_neg (by omega)]; exact s10 q)
      refine r_s38 hR e_MM_tellAll_57 rfl n120 (fun σ2 hR2 => ?_)
      have v10' : co ≠ -1 → ai σ2 (Z 10) (2 * N + b) = w := fun q => (hR2.2.2.2.2.1 10 (2 * N + b) rfl (by decide) (show 2 * N + b < 10 by omega) (by
        rintro (z | z)
        · exact (ok_10 (show sv (set1 (set1 C 37 n sr) 38 n co) 9 (2 * N + b) ≠ -1 by rw [sv_set1, if_neg (by omega), sv_set1, if_neg (by omega), s9]; exact q)).no (Or.inl z)
        · omega)).trans (by rw [sv_set1, if_neg (by omega), sv_set1, if_neg (by omega)]; exact s10 q)
      refine p_aload_n e_MM_tellAll_58 rfl ?_
      refine x_gf 39 hR2 e_MM_tellAll_59 f_MM_110 rfl rfl ?_
      refine p_iload e_MM_tellAll_62 rfl ?_
      refine p_aload_n e_MM_tellAll_64 rfl ?_
      refine x_gf 10 hR2 e_MM_tellAll_65 f_MM_26 rfl rfl ?_
      refine p_iload_n e_MM_tellAll_68 rfl ?_
      refine x_lrb 10 hR2 rfl rfl e_MM_tellAll_69 rfl (show 2 * N + b < 10 by omega) rfl ?_
      refine r_s39 (w := w) hR2 e_MM_tellAll_70 rfl n120 (hR2.2.2.2.2.2 10 _ rfl rfl (show 2 * N + b < 10 by omega)) (fun q => v10' (fun z => q ⟨by rw [sv_set1, if_neg (by omega), sv_set1, if_neg (by omega)]; exact s29, by rw [sv_set1, if_pos ⟨rfl, rfl⟩]; exact z⟩)) (fun σ3 hR3 => ?_)
      refine p_iinc e_MM_tellAll_71 rfl rfl (by decide) ?_
      refine p_goto (tgt := 11) e_MM_tellAll_74 (by decide) ?_
      refine Wp.lv2 (ih2 σ3 ?_) ⟨congrArg (fun z => some (Sum.inl z)) (nI_1 c), rfl, rfl, rfl, trivial⟩
      rw [set_com (k := 37) (k' := 38) (by omega), set_com (k := 37) (k' := 39) (by omega)] at hR3
      exact hR3
  refine Ctr.of y_MM_tellAll (Nat.le_of_ble_eq_true rfl) ?_
  refine p_iconst (x := 2) e_MM_tellAll_0 (by decide) ?_
  refine p_aload_n e_MM_tellAll_1 rfl ?_
  refine x_gN hR.2 e_MM_tellAll_2 f_MM_113 rfl ?_
  refine p_imul e_MM_tellAll_5 ?_
  refine p_iload_n e_MM_tellAll_6 rfl ?_
  refine p_iadd e_MM_tellAll_7 ?_
  refine p_top (at2) ?_
  refine p_istore_n e_MM_tellAll_8 (by decide) ?_
  refine p_iconst (x := 0) e_MM_tellAll_9 (by decide) ?_
  refine p_istore_n e_MM_tellAll_10 (by decide) ?_
  exact Wp.lv2 (loop N 0 (by omega) _ hR) ⟨rfl, rfl, rfl, rfl, trivial⟩
/-- what is known is written -/
theorem r_s9 {n : Nat} {j v : Int32} (hR : RR N m Z σ0 D σ A) (hd : decode M.2.1 pc = .ok (.iastore, 1)) (hj : j = nI n) (hn : n < 10) (kk : ∀ σ', RR N m Z σ0 (fun k i => D k i ∨ (k = 10 ∧ i = n)) σ' (set1 A 9 n v) → Wp M d (pc + 1) lv st σ' P) : Wp M d pc lv (.inl v :: .inl j :: .inr (Z 9) :: st) σ P := by
  refine x_st 9 (E' := fun k i => Ex (set1 A 9 n v) k i ∨ (D k i ∨ (k = 10 ∧ i = n))) (set1 A 9 n v) hR.2 rfl rfl hd hj hn rfl (fun b hb => by rw [if_neg (by omega)]; rfl) (fun k' hk' => by rw [sv_set1, if_neg (by omega)]) (fun k' i y1 y2 y3 y4 y5 => ⟨?_, by rw [sv_set1, if_neg y5]⟩) (fun _ _ => by rw [sv_set1, if_pos ⟨rfl, rfl⟩]) (fun σ' h _ => kk σ' ⟨fun k i q => by rcases q with q | q; exact hR.1 k i q; omega, h⟩)
  rintro (z | z)
  · refine y4 ?_
    by_cases e : k' = 10 ∧ i = n
    · exact Or.inr (Or.inr e)
    · refine Or.inl ?_
      unfold Ex at z ⊢
      rw [sv_set1 (k' := 12), if_neg (by omega), sv_set1 (k' := 40), if_neg (by omega), sv_set1 (k' := 29), if_neg (by omega), sv_set1 (k' := 38), if_neg (by omega)]
      rcases z with z | z | z | z | z
      · exact Or.inl z
      · exact Or.inr (Or.inl z)
      · exact Or.inr (Or.inr (Or.inl z))
      · refine Or.inr (Or.inr (Or.inr (Or.inl ⟨z.1, ?_⟩)))
        rw [sv_set1, if_neg (by omega)]
        exact z.2
      · exact Or.inr (Or.inr (Or.inr (Or.inr z)))
  · exact y4 (Or.inr (Or.inl z))
theorem RR.act {b : Nat} {co w sr : Int32} (hR : RR N m Z σ0 nD σ A) : RR N m Z σ0 (fun k i => k = 26 ∧ i = b) σ (set1 (set1 (set1 A 40 b co) 41 b w) 42 b sr) := by
  refine ⟨fun k i q => by omega, hR.2.cg rfl (fun _ _ => rfl) (fun k hk => by rw [sv_set1, if_neg (by omega), sv_set1, if_neg (by omega), sv_set1, if_neg (by omega)]) (fun k i y1 y2 y3 y4 => ⟨?_, ?_⟩)⟩
  · rintro (z | z)
    · refine y4 ?_
      by_cases e : k = 26 ∧ i = b
      · exact Or.inr e
      · refine Or.inl ((Ex_set (by omega)).mpr ((Ex_set (by omega)).mpr ?_))
        unfold Ex at z ⊢
        rw [sv_set1 (k' := 12), if_neg (by omega), sv_set1 (k' := 9), if_neg (by omega), sv_set1 (k' := 29), if_neg (by omega), sv_set1 (k' := 38), if_neg (by omega)]
        rcases z with z | z | z | z | z | z
        · exact Or.inl z
        · exact Or.inr (Or.inl z)
        · exact Or.inr (Or.inr (Or.inl z))
        · exact Or.inr (Or.inr (Or.inr (Or.inl z)))
        · refine Or.inr (Or.inr (Or.inr (Or.inr (Or.inl ⟨z.1, ?_⟩))))
          rw [sv_set1, if_neg (by omega)]
          exact z.2
        · exact Or.inr (Or.inr (Or.inr (Or.inr (Or.inr z))))
    · exact z
  · have hk : k < 40 := by have := of_decide_eq_true y1; omega
    rw [sv_set1, if_neg (by omega), sv_set1, if_neg (by omega), sv_set1, if_neg (by omega)]
theorem rmR_set {k i b j : Nat} {v : Int32} (hk : ¬ (22 ≤ k ∧ k < 25)) : rmR (set1 A k i v) b j = set1 (rmR A b j) k i v := by
  refine as_ext rfl rfl (fun q z => ?_)
  rw [sv_rmR, sv_set1, sv_set1, sv_set1, sv_rmR]
  by_cases y : (22 ≤ q ∧ q < 25) ∧ 20 * b + j ≤ z ∧ z < 20 * b + 19
  · rw [if_pos y, if_neg (by omega), if_neg (by omega), if_pos y]
  · rw [if_neg y, if_neg y]
theorem act_eq {b N : Nat} {co w n sr : Int32} : set1 (rmR (set1 (set1 (set1 (set1 (set1 (set1 A 40 b co) 41 b w) 42 b sr) 9 (2 * N + b) co) 10 (2 * N + b) w) 26 b n) b 0) 11 (2 * N + b) sr = lnA (set1 (set1 (set1 (set1 (rmR A b 0) 40 b co) 26 b n) 41 b w) 42 b sr) (2 * N + b) co w sr := by
  unfold lnA
  rw [rmR_set (by omega), rmR_set (by omega), rmR_set (by omega), rmR_set (by omega), rmR_set (by omega), rmR_set (by omega), set_com (k := 10) (k' := 26) (by omega), set_com (k := 9) (k' := 26) (by omega), set_com (k := 42) (k' := 26) (by omega), set_com (k := 41) (k' := 26) (by omega)]
end RefN
