/-! the reference: PLEASE, deliver -/
section RefP
variable {M : MM} {d pc : Nat} {lv : List (Nat × PV)} {st : List PV} {σ : PS} {P : Option PV → PS → Prop} {N m T : Nat} {Z : Nat → Nat} {σ0 : PS} {E D : Nat → Nat → Prop} {A : AS} {eb eo : Nat → Nat}
theorem x_wI (k : Nat) (ds : List Nat) {n : Nat} {g : Nat → Int32} {v : Int32} (hR : RX N m Z σ0 (wE E n ds) σ (wA A n g ds)) (hk : isZ k = true) (h25 : k ≠ 25 ∧ 5 ≤ k) (ht : tz k = 100) (hd : decode M.2.1 pc = .ok (.iastore, 1)) (hn : n < lz k) (hv : v = g k) (kk : ∀ σ', RX N m Z σ0 (wE E n (k :: ds)) σ' (wA A n g (k :: ds)) → Wp M d (pc + 1) lv st σ' P) : Wp M d pc lv (.inl v :: .inl (nI n) :: .inr (Z k) :: st) σ P :=
  x_st k (wA A n g (k :: ds)) hR hk ht hd rfl hn rfl (fun b _ => by rw [if_neg (by omega)]; rfl) (fun k' hk' => w_e3 (by omega)) w_e4 (fun _ _ => by rw [sv_wA, if_pos ⟨rfl, List.mem_cons_self⟩]; exact hv) (fun σ' h _ => kk σ' h)
theorem x_wB (k : Nat) (ds : List Nat) {n : Nat} {g : Nat → Int32} {v : Int32} (hR : RX N m Z σ0 (wE E n ds) σ (wA A n g ds)) (hk : isZ k = true) (h25 : k ≠ 25 ∧ 5 ≤ k) (ht : tz k = 101) (hd : decode M.2.1 pc = .ok (.bastore, 1)) (hn : n < lz k) (hv : v = g k) (hz : bz v) (kk : ∀ σ', RX N m Z σ0 (wE E n (k :: ds)) σ' (wA A n g (k :: ds)) → Wp M d (pc + 1) lv st σ' P) : Wp M d pc lv (.inl v :: .inl (nI n) :: .inr (Z k) :: st) σ P :=
  x_sb k (wA A n g (k :: ds)) hR hk ht hd rfl hn hz rfl (fun b _ => by rw [if_neg (by omega)]; rfl) (fun k' hk' => w_e3 (by omega)) w_e4 (fun _ _ => by rw [sv_wA, if_pos ⟨rfl, List.mem_cons_self⟩]; exact hv) (fun σ' h _ => kk σ' h)
def gq (c n w : Int32) : Nat → Int32 := fun k => if k = 22 then c else if k = 23 then n else w
/-- a request was put behind -/
theorem RR.apq {b : Nat} {c n w : Int32} (hb : b < 2) (h20 : ∀ b', b' < 2 → rn A b' ≤ 19) (h : RX N m Z σ0 (wE (fun k i => Ex A k i ∨ nD k i) (20 * b + rn A b) [24, 23, 22]) σ (stR (wA A (20 * b + rn A b) (gq c n w) [24, 23, 22]) b (rn A b + 1))) : RR N m Z σ0 nD σ (apR A b c n w) := by
  have hm : ∀ k, k ∈ [24, 23, 22] ↔ (22 ≤ k ∧ k < 25) := fun k => by simp; omega
  have hb19 := h20 b hb
  refine ⟨fun _ _ q => absurd q id, h.cg rfl (fun b' _ => ?_) (fun k hk => ?_) (fun k i y1 y2 y3 y4 => ?_)⟩
  · rw [rn_apR]; rfl
  · have e2 : sv (stR (wA A (20 * b + rn A b) (gq c n w) [24, 23, 22]) b (rn A b + 1)) k 0 = if 0 = 20 * b + rn A b ∧ k ∈ [24, 23, 22] then gq c n w k else sv A k 0 := rfl
    rw [e2, sv_apR, if_neg (by omega), if_neg (by omega), if_neg (by omega), if_neg]
    rintro ⟨-, q⟩
    have := (hm k).mp q
    omega
  · have e2 : sv (stR (wA A (20 * b + rn A b) (gq c n w) [24, 23, 22]) b (rn A b + 1)) k i = if i = 20 * b + rn A b ∧ k ∈ [24, 23, 22] then gq c n w k else sv A k i := rfl
    rw [e2, sv_apR]
    unfold wE
    by_cases z : i = 20 * b + rn A b ∧ (22 ≤ k ∧ k < 25)
    · refine ⟨fun q => q.2 ⟨z.1, (hm k).mpr z.2⟩, ?_⟩
      rw [if_pos (show i = 20 * b + rn A b ∧ k ∈ [24, 23, 22] from ⟨z.1, (hm k).mpr z.2⟩)]
      unfold gq
      rcases (show k = 22 ∨ k = 23 ∨ k = 24 by omega) with rfl | rfl | rfl
      · rw [if_neg (by omega), if_neg (by omega), if_pos ⟨rfl, z.1⟩, if_pos rfl]
      · rw [if_neg (by omega), if_pos ⟨rfl, z.1⟩, if_neg (by omega), if_pos rfl]
      · rw [if_pos ⟨rfl, z.1⟩, if_neg (by omega), if_neg (by omega)]
    · rw [if_neg (by omega), if_neg (by omega), if_neg (by omega), if_neg (fun y => z ⟨y.1, (hm k).mp y.2⟩)]
      refine ⟨?_, rfl⟩
      rintro ⟨q | q, -⟩
      · refine y4 (Or.inl ?_)
        have so : ∀ k' j', ¬ (22 ≤ k' ∧ k' < 25) → sv (apR A b c n w) k' j' = sv A k' j' := fun k' j' hk' => by rw [sv_apR, if_neg (by omega), if_neg (by omega), if_neg (by omega)]
        unfold Ex at q ⊢
        rw [so 12 _ (by omega), so 9 _ (by omega), so 40 _ (by omega), so 29 _ (by omega), so 38 _ (by omega)]
        rcases q with q | q | q
        · exact Or.inl q
        · refine Or.inr (Or.inl ⟨q.1, fun b' j' hb' hj' e => ?_⟩)
          have := q.2 b' j' hb' hj' e
          rw [rn_apR]
          by_cases x : b' = b
          · subst x
            rw [if_pos rfl]
            have : j' ≠ rn A b' := fun y => z ⟨by rw [e, y], q.1⟩
            omega
          · rw [if_neg x]; exact this
        · exact Or.inr (Or.inr q)
      · exact absurd q id
set_option maxHeartbeats 1000000 in
theorem sp_MM_please {c b : Nat} {n w : Int32} (hc : c < N) (hb : b < 2) (hw : bz w) (hI : IV N A eb eo) (hrs : RS N T A) (hp : PO N A c n) (hR : RR N m Z σ0 nD σ A) (hP : ∀ σ', RR N m Z σ0 nD σ' (plA N A c b n w) → P none σ') : Ctr m_MM_please 8 [.inr m, .inl (nI c), .inl (nI b), .inl n, .inl w] σ P := by
  have hN := hR.2.hN
  have tm := hR.tg
  have r3 := pl_r3 hrs.2.1 hI hc hb hp
  have hpl := (hrs.pl hI hc hb hw hp).2
  unfold plA at hP
  refine Ctr.of y_MM_please (Nat.le_of_ble_eq_true rfl) ?_
  refine p_iload_n e_MM_please_0 rfl ?_
  refine p_aload_n e_MM_please_1 rfl ?_
  refine x_gf 27 hR.2 e_MM_please_2 f_MM_77 rfl rfl ?_
  refine p_iload_n e_MM_please_5 rfl ?_
  refine r_ld 27 hR rfl (by decide) rfl e_MM_please_6 (rfl) (by show _ < 4; omega) (hR.pl rfl) ?_
  refine p_icmp_gt (tgt := 11) e_MM_please_7 (by decide) (fun h7 => ?_) (fun h7 => ?_)
  · rw [if_pos h7] at hP
    refine p_aload_n e_MM_please_11 rfl ?_
    refine p_iload_n e_MM_please_12 rfl ?_
    refine p_iload_n e_MM_please_13 rfl ?_
    refine p_iconst (x := 1) e_MM_please_14 (by decide) ?_
    refine p_isub e_MM_please_15 ?_
    refine p_inv (ci := 8) (d' := 7) [_, _] _ e_MM_please_16 c_MM_179 k_MM_lapse i_MM_lapse s_MM_lapse rfl rfl (by assumption) rfl rfl (Nat.le_of_ble_eq_true rfl) (Nat.le_of_ble_eq_true rfl) ?_
    refine sp_MM_lapse hc hI hrs.2.2 hR (fun σ hR => ?_)
    have hI1 : IV N (lpA N A c (n - 1)) eb eo := hI.lp
    have hcp := hrs.2.2.lp hI (c := c) (n := n - 1)
    have hI2 := hI1.ap (n := n) hb hc hw (by omega)
    generalize lpA N A c (n - 1) = B at *
    have tm := hR.tg
    have hRw : RX N m Z σ0 (wE (fun k i => Ex B k i ∨ nD k i) (20 * b + rn B b) []) σ (wA B (20 * b + rn B b) (gq (nI c) n w) []) := hR.2.cg rfl (fun _ _ => rfl) (fun k _ => by rw [sv_wA, if_neg (fun y => by cases y.2)]) (fun k i _ _ _ q => ⟨fun z => q ⟨z, fun y => by cases y.2⟩, by rw [sv_wA, if_neg (fun y => by cases y.2)]⟩)
    refine p_bipush (x := 20) e_MM_please_19 (by decide) ?_
    refine p_iload_n e_MM_please_21 rfl ?_
    refine p_imul e_MM_please_22 ?_
    refine p_aload_n e_MM_please_23 rfl ?_
    refine x_gf 25 hR.2 e_MM_please_24 f_MM_71 rfl rfl ?_
    refine p_iload_n e_MM_please_27 rfl ?_
    refine r_lS hR e_MM_please_28 (rfl) (by show _ < 2; omega) ?_
    refine p_iadd e_MM_please_29 ?_
    refine p_top (at20) ?_
    refine p_istore e_MM_please_30 (by decide) ?_
    refine p_aload_n e_MM_please_32 rfl ?_
    refine x_gf 22 hRw e_MM_please_33 f_MM_62 rfl rfl ?_
    refine p_iload e_MM_please_36 rfl ?_
    refine p_iload_n e_MM_please_38 rfl ?_
    refine x_wI 22 [] hRw rfl (by decide) rfl e_MM_please_39 (by show _ < 40; omega) rfl (fun σ hRw => ?_)
    refine p_aload_n e_MM_please_40 rfl ?_
    refine x_gf 23 hRw e_MM_please_41 f_MM_65 rfl rfl ?_
    refine p_iload e_MM_please_44 rfl ?_
    refine p_iload_n e_MM_please_46 rfl ?_
    refine x_wI 23 [22] hRw rfl (by decide) rfl e_MM_please_47 (by show _ < 40; omega) rfl (fun σ hRw => ?_)
    refine p_aload_n e_MM_please_48 rfl ?_
    refine x_gf 24 hRw e_MM_please_49 f_MM_68 rfl rfl ?_
    refine p_iload e_MM_please_52 rfl ?_
    refine p_iload e_MM_please_54 rfl ?_
    refine x_wB 24 [23, 22] hRw rfl (by decide) rfl e_MM_please_56 (by show _ < 40; omega) rfl hw (fun σ hRw => ?_)
    refine p_aload_n e_MM_please_57 rfl ?_
    refine x_gf 25 hRw e_MM_please_58 f_MM_71 rfl rfl ?_
    refine p_iload_n e_MM_please_61 rfl ?_
    refine p_dup2 e_MM_please_62 ?_
    refine x_lr 25 hRw rfl rfl e_MM_please_63 rfl hb (hRw.2.2.2.1 b hb) ?_
    refine p_iconst (x := 1) e_MM_please_64 (by decide) ?_
    refine p_iadd e_MM_please_65 ?_
    refine x_st 25 (E' := wE (fun k i => Ex B k i ∨ nD k i) (20 * b + rn B b) [24, 23, 22]) (stR (wA B (20 * b + rn B b) (gq (nI c) n w) [24, 23, 22]) b (rn B b + 1)) hRw rfl rfl e_MM_please_66 rfl hb rfl (fun b' hb' => ?_) (fun _ _ => rfl) (fun k' j y1 y2 y3 y4 y5 => ⟨y4, rfl⟩) (fun q => absurd rfl q) (fun σ hRw _ => ?_)
    · show nI (if b' = b then rn B b + 1 else rn B b') = _
      by_cases z : b' = b
      · rw [if_pos z, if_pos ⟨rfl, z⟩]; exact (nI_1 _).symm
      · rw [if_neg z, if_neg (fun y => z y.2)]; rfl
    · have hR : RR N m Z σ0 nD σ (apR B b (nI c) n w) := RR.apq hb (fun b' hb' => by have := (hI1.2.2.1 b' hb').1; omega) hRw
      have s9 : sv (apR B b (nI c) n w) 9 (2 * N + b) = sv B 9 (2 * N + b) := by rw [sv_apR, if_neg (by omega), if_neg (by omega), if_neg (by omega)]
      have s42 : sv (apR B b (nI c) n w) 42 b = sv (apR B b (nI c) n w) 11 (2 * N + b) := by
        rw [sv_apR, if_neg (by omega), if_neg (by omega), if_neg (by omega), sv_apR, if_neg (by omega), if_neg (by omega), if_neg (by omega)]
        exact (hcp b hb).2.2
      have e40 := (hcp b hb).1
      have tm := hR.tg
      refine p_aload_n e_MM_please_67 rfl ?_
      refine x_gf 9 hR.2 e_MM_please_68 f_MM_23 rfl rfl ?_
      refine p_iconst (x := 2) e_MM_please_71 (by decide) ?_
      refine p_aload_n e_MM_please_72 rfl ?_
      refine x_gN hR.2 e_MM_please_73 f_MM_113 rfl ?_
      refine p_imul e_MM_please_76 ?_
      refine p_iload_n e_MM_please_77 rfl ?_
      refine p_iadd e_MM_please_78 ?_
      refine p_top (at2) ?_
      refine r_ldv 9 (v := sv B 9 (2 * N + b)) hR rfl (by decide) rfl e_MM_please_79 (rfl) (by show _ < 10; omega) (hR.pl rfl) (s9) ?_
      rcases hI1.2.2.2 b hb with q | ⟨⟨c', hc', q⟩, -⟩
      · rw [if_pos q] at hP
        refine p_if_ge (tgt := 88) e_MM_please_80 (by decide) (fun hx => absurd hx ((by rw [← e40, q]; decide))) (fun _ => ?_)
        refine p_aload_n e_MM_please_83 rfl ?_
        refine p_iload_n e_MM_please_84 rfl ?_
        refine p_inv (ci := 8) (d' := 6) [_] _ e_MM_please_85 c_MM_176 k_MM_activate i_MM_activate s_MM_activate rfl rfl (by assumption) rfl rfl (Nat.le_of_ble_eq_true rfl) (Nat.le_of_ble_eq_true rfl) ?_
        refine sp_MM_activate hb hI2 s42 hR (fun σ hR => ?_)
        refine p_ret e_MM_please_88 (rv_v ?_)
        exact hP _ hR
      · have hnc : sv B 40 b ≠ -1 := by rw [q]; intro z; exact absurd (nI_pos (n := c') (by omega)) (by rw [z]; simp [m1_lt])
        rw [if_neg hnc] at hP
        refine p_if_ge (tgt := 88) e_MM_please_80 (by decide) (fun _ => ?_) (fun hx => absurd ((by rw [← e40, q]; exact nI_pos' (by omega))) hx)
        refine p_ret e_MM_please_88 (rv_v ?_)
        exact hP _ hR
  · rw [if_neg h7] at hP
    refine p_ret e_MM_please_10 (rv_v ?_)
    exact hP _ hR
theorem r_s10 {n : Nat} {j y w : Int32} (hR : RR N m Z σ0 (fun k i => nD k i ∨ (k = 10 ∧ i = n)) σ A) (hd : decode M.2.1 pc = .ok (.bastore, 1)) (hj : j = nI n) (hn : n < 10) (hz : bz y) (hw : sv A 9 n ≠ -1 → y = w) (kk : ∀ σ', RR N m Z σ0 nD σ' (set1 A 10 n w) → Wp M d (pc + 1) lv st σ' P) : Wp M d pc lv (.inl y :: .inl j :: .inr (Z 10) :: st) σ P := by
  refine x_sb 10 (E' := fun k i => Ex (set1 A 10 n w) k i ∨ nD k i) (set1 A 10 n w) hR.2 rfl rfl hd hj hn hz rfl (fun b hb => by rw [if_neg (by omega)]; rfl) (fun k' hk' => by rw [sv_set1, if_neg (by omega)]) (fun k' i y1 y2 y3 y4 y5 => ⟨?_, by rw [sv_set1, if_neg y5]⟩) (fun _ q => ?_) (fun σ' h _ => kk σ' ⟨fun _ _ q => absurd q id, h⟩)
  · rintro (z | z | z)
    · exact y4 (Or.inl ((Ex_set (by omega)).mpr z))
    · exact absurd z id
    · exact y5 z
  · rw [sv_set1, if_pos ⟨rfl, rfl⟩]
    refine hw (fun z => q (Or.inl ((Ex_set (by omega)).mpr ?_)))
    exact Or.inr (Or.inr (Or.inr (Or.inl ⟨rfl, z⟩)))
end RefP
