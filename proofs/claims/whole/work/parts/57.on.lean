/-! PLEASE, TOKENS, KNOW -/
noncomputable def plA (N : Nat) (A : AS) (c b : Nat) (n w : Int32) : AS := if sv A 27 c < n then (if sv (lpA N A c (n - 1)) 40 b = -1 then afA N (apR (lpA N A c (n - 1)) b (nI c) n w) b else apR (lpA N A c (n - 1)) b (nI c) n w) else A
noncomputable def tkA (N : Nat) (A : AS) (x b : Nat) (ct ow wd dt : Int32) : AS := @ite _ (x < N ∧ sv (gwA (gtA A (2 * x + b) ct ow wd dt) x b) 12 x ≠ 0 ∧ sv (gwA (gtA A (2 * x + b) ct ow wd dt) x b) 15 x = nI b ∧ ceA N (gwA (gtA A (2 * x + b) ct ow wd dt) x b) x b) (Classical.propDecidable _) (enA N (gwA (gtA A (2 * x + b) ct ow wd dt) x b) x b) (gwA (gtA A (2 * x + b) ct ow wd dt) x b)
noncomputable def knA (A : AS) (x b : Nat) (n co w : Int32) : AS := if sv A 11 (2 * x + b) < n ∨ (n = sv A 11 (2 * x + b) ∧ co = -1) then gwA (lnA A (2 * x + b) co w n) x b else A
section On
variable {N : Nat} {Y : Nat → Nat} {bd : Nat × Nat × Nat} {hs : List Nat} {σ : PS} {A : AS} {f : Nat → Nat} {m : Nat} {g : Nat → Nat} {rf : Nat → Nat → Nat} {P : Option PV → PS → Prop} {eb eo : Nat → Nat}
theorem sv_apR {b k j : Nat} {c n w : Int32} : sv (apR A b c n w) k j = if k = 24 ∧ j = 20 * b + rn A b then w else if k = 23 ∧ j = 20 * b + rn A b then n else if k = 22 ∧ j = 20 * b + rn A b then c else sv A k j := rfl
theorem IV.ap (h : IV N A eb eo) {b c : Nat} {n w : Int32} (hb : b < 2) (hc : c < N) (hw : bz w) (hr : rn A b ≤ 4) : IV N (apR A b (nI c) n w) eb eo := by
  refine ⟨h.1.cong rfl (fun k j hk => by unfold rel at hk; rw [sv_apR, if_neg (by omega), if_neg (by omega), if_neg (by omega)]), fun c' hc' => ?_, fun b' hb' => ?_, fun b' hb' => ?_⟩
  · rw [sv_apR, if_neg (by omega), if_neg (by omega), if_neg (by omega), sv_apR, if_neg (by omega), if_neg (by omega), if_neg (by omega), sv_apR, if_neg (by omega), if_neg (by omega), if_neg (by omega), sv_apR, if_neg (by omega), if_neg (by omega), if_neg (by omega)]
    exact h.2.1 c' hc'
  · rw [rn_apR]
    have q5 := (h.2.2.1 b' hb').1
    by_cases e : b' = b
    · subst e
      rw [if_pos rfl]
      refine ⟨by omega, fun i hi => ?_⟩
      by_cases e2 : i = rn A b'
      · subst e2
        rw [sv_apR, if_neg (by omega), if_neg (by omega), if_pos ⟨rfl, rfl⟩, sv_apR, if_pos ⟨rfl, rfl⟩]
        exact ⟨⟨c, hc, rfl⟩, hw⟩
      · rw [sv_apR, if_neg (by omega), if_neg (by omega), if_neg (by omega), sv_apR, if_neg (by omega), if_neg (by omega), if_neg (by omega)]
        exact (h.2.2.1 b' hb').2 i (by omega)
    · rw [if_neg e]
      refine ⟨q5, fun i hi => ?_⟩
      rw [sv_apR, if_neg (by omega), if_neg (by omega), if_neg (by omega), sv_apR, if_neg (by omega), if_neg (by omega), if_neg (by omega)]
      exact (h.2.2.1 b' hb').2 i hi
  · rw [sv_apR, if_neg (by omega), if_neg (by omega), if_neg (by omega), sv_apR, if_neg (by omega), if_neg (by omega), if_neg (by omega)]
    exact h.2.2.2 b' hb'
theorem CRx.nwQ (h : CRx N Y bd hs σ A f m g rf) {c n w : Int32} : CRx N Y (bd.1, bd.2.1, bd.2.2 + 1) hs (pfi (pfi (pfi (pnew σ 5 3) 320 (nx σ) c) 321 (nx σ) n) 322 (nx σ) w) A f m g rf := by
  obtain ⟨d1, d2⟩ := dis_new h (ci := 5) (k := 3)
  have fe : ∀ i r, r < nx σ → fi (pfi (pfi (pfi (pnew σ 5 3) 320 (nx σ) c) 321 (nx σ) n) 322 (nx σ) w) i r = fi σ i r := fun i r hr => by
    rw [fi_pfi, if_neg (by omega), fi_pfi, if_neg (by omega), fi_pfi, if_neg (by omega), fi_pnew, if_neg (by omega)]
  have k : KP σ (pfi (pfi (pfi (pnew σ 5 3) 320 (nx σ) c) 321 (nx σ) n) 322 (nx σ) w) := by
    obtain ⟨k1, k2, k3, k4, k5, k6⟩ := kp_new (σ := σ) (ci := 5) (n := 3)
    exact ⟨k1, k2, k3, fun i r hr _ => fe i r hr, k5, k6⟩
  have aln : ∀ (l n' : Nat) (ff : Nat → Nat), AL σ l n' ff → AL (pfi (pfi (pfi (pnew σ 5 3) 320 (nx σ) c) 321 (nx σ) n) 322 (nx σ) w) l n' ff := fun l n' ff hA =>
    k.keepL h.2.1 hA (fe 2 l hA.2.2.2.2.2.2.1) (by show fr (pnew σ 5 3) 1 l = _; rw [fr_pnew, if_neg (by have := hA.2.2.2.2.2.2.1; omega)]) (fun _ _ => rfl)
  obtain ⟨h1, h2, h3, h4, h5, h6, h7, h8, h9, h10⟩ := h
  refine ⟨k.lay h2 h1, fr_new h2, k.shr h2 h1 h3, k.cor h2 h1 h4, k.msc h2 h1 h5, mar_kp k h2 (aln _ _ _ h6.1) (aln _ _ _ h6.2.1) h6, ror_kp k h2 (fun b hb => aln _ _ _ (h7 b hb).1) h7, k.acr h2 h1 h8, d1, ?_⟩
  unfold BUD at h10 ⊢
  show nx σ + 1 ≤ bd.1 + _ + (bd.2.2 + 1) + caps Y (pnew σ 5 3) ∧ sl σ + 3 ≤ bd.2.1 + _ + 3 * (bd.2.2 + 1) + 4 * caps Y (pnew σ 5 3)
  rw [d2]
  omega
set_option maxHeartbeats 4000000 in
theorem sp_onPlease {c b : Nat} {n w : Int32} (hc : c < N) (hb : b < 2) (hw : bz w) (hI : IV N A eb eo) (hr4 : rn (lpA N A c (n - 1)) b ≤ 4) (hh : hs.length ≤ 1) (h : CRx N Y bd hs σ A f m g rf) (hP : ∀ σ' f' m' g' rf' q, q ≤ 1 → CRx N Y (bd.1, bd.2.1, bd.2.2 + q) hs σ' (plA N A c b n w) f' m' g' rf' → HK (Y 4) σ σ' hs → P none σ') : Ctr m_TM_onPlease 13 [.inr (Y 0), .inl (nI c), .inl (nI b), .inl n, .inl w] σ P := by
  obtain ⟨a0, ⟨b1, b2, b3, b4, b5, b6, b7, b8, b9⟩, -, -, ⟨d1, d2, d3⟩, ⟨e1, e2⟩, -⟩ := h.1
  have w27 := h.2.2.2.2.1.2.2.2 c hc
  refine Ctr.of y_TM_onPlease (Nat.le_of_ble_eq_true rfl) ?_
  refine p_iload_n e_TM_onPlease_0 rfl ?_
  refine p_aload_n e_TM_onPlease_1 rfl ?_
  refine p_gRv 456 e_TM_onPlease_2 f_TM_43 rfl rfl (by assumption) b8 ?_
  refine p_iload_n e_TM_onPlease_5 rfl ?_
  refine p_ialdv e_TM_onPlease_6 (n := c) (v := sv A 27 c) e1 rfl (by omega) (by omega) w27 ?_
  unfold plA at hP
  refine p_icmp_gt (tgt := 11) e_TM_onPlease_7 (by decide) (fun h7 => ?_) (fun h7 => ?_)
  · rw [if_pos h7] at hP
    refine p_aload_n e_TM_onPlease_11 rfl ?_
    refine p_iload_n e_TM_onPlease_12 rfl ?_
    refine p_iload_n e_TM_onPlease_13 rfl ?_
    refine p_iconst (x := 1) e_TM_onPlease_14 (by decide) ?_
    refine p_isub e_TM_onPlease_15 ?_
    refine p_inv (ci := 7) (d' := 12) [_, _] _ e_TM_onPlease_16 c_TM_152 k_TM_lapse i_TM_lapse s_TM_lapse rfl rfl (by assumption) rfl rfl (Nat.le_of_ble_eq_true rfl) (Nat.le_of_ble_eq_true rfl) ?_
    refine sp_lapse hc hI hh h (fun σ1 f1 m1 g1 rf1 hc1 hk1 => ?_)
    have hI1 : IV N (lpA N A c (n - 1)) eb eo := hI.lp
    obtain ⟨-, ⟨x1, -, -, -, -, -, x7, -, -⟩, -, -, ⟨y1, y2, y3⟩, -⟩ := hc1.1
    have td : tg σ1 (Y (300 + b)) = 3 := hc1.1.dk hb
    have ur : fr σ1 128 (Y (300 + b)) = Y (310 + b) := (y3 b hb).2.2
    obtain ⟨q1, q2⟩ := hc1.2.2.2.2.2.2.2.1 b hb
    refine p_aload_n e_TM_onPlease_19 rfl ?_
    refine p_gRv 455 e_TM_onPlease_20 f_TM_49 rfl rfl (by assumption) x7 ?_
    refine p_iload_n e_TM_onPlease_23 rfl ?_
    refine p_aaldv e_TM_onPlease_24 (ti := 5) (n := b) (v := Y (300 + b)) (by decide) y1 rfl (by omega) (by omega) (y3 b hb).1 ?_
    refine p_astore e_TM_onPlease_25 (by decide) ?_
    refine p_aload e_TM_onPlease_27 rfl ?_
    refine p_gRv 128 e_TM_onPlease_29 f_TM_192 rfl rfl (by assumption) ur ?_
    refine p_new (ci := 5) (N := 3) e_TM_onPlease_32 rfl rfl l_TM_244 n_Req w_56 ?_
    have hn0 : nx σ1 ≠ 0 := by have := hc1.2.1.1.1; omega
    have tr : tg (pnew σ1 5 3) (nx σ1) = 6 := by rw [tg_pnew, if_pos rfl]
    refine p_dup e_TM_onPlease_35 ?_
    refine p_iload_n e_TM_onPlease_36 rfl ?_
    refine p_iload_n e_TM_onPlease_37 rfl ?_
    refine p_iload e_TM_onPlease_38 rfl ?_
    refine p_init (d' := 1) [_, _, _] _ e_TM_onPlease_40 c_TM_246 k_Req_init i_Req_init rfl rfl (hn0) rfl rfl (Nat.le_of_ble_eq_true rfl) (Nat.le_of_ble_eq_true rfl) ?_
    refine sp_Req_init tr hn0 hw ?_
    have hc2 := hc1.nwQ (c := nI c) (n := n) (w := w)
    obtain ⟨hA, hE⟩ := hc2.2.2.2.2.2.2.1 b hb
    have tl := hA.1
    have r5 := (hI1.2.2.1 b hb).1
    refine p_inv (ci := 0) (d' := 6) [_] _ e_TM_onPlease_43 c_TM_249 k_AL_add1 i_AL_add1 s_AL_add1 rfl rfl (by assumption) rfl rfl (Nat.le_of_ble_eq_true rfl) (Nat.le_of_ble_eq_true rfl) ?_
    refine sp_AL_add hc2.2.1 hA (by omega) (Or.inr tr) (fun σ3 hA3 => ?_)
    have hc3 := hc2.apR hb (fun b' hb' => by have := (hI1.2.2.1 b' hb').1; omega) (r := nx σ1) tr hA3
    have v1 : fi (pfi (pfi (pfi (pnew σ1 5 3) 320 (nx σ1) (nI c)) 321 (nx σ1) n) 322 (nx σ1) w) 320 (nx σ1) = nI c := by rw [rd_ne (by omega), rd_ne (by omega), rd_eq]
    have v2 : fi (pfi (pfi (pfi (pnew σ1 5 3) 320 (nx σ1) (nI c)) 321 (nx σ1) n) 322 (nx σ1) w) 321 (nx σ1) = n := by rw [rd_ne (by omega), rd_eq]
    have v3 : fi (pfi (pfi (pfi (pnew σ1 5 3) 320 (nx σ1) (nI c)) 321 (nx σ1) n) 322 (nx σ1) w) 322 (nx σ1) = w := by rw [rd_eq]
    rw [v1, v2, v3] at hc3
    have hI3 := hI1.ap (n := n) hb hc hw hr4
    have hkn : HK (Y 4) σ1 (pfi (pfi (pfi (pnew σ1 5 3) 320 (nx σ1) (nI c)) 321 (nx σ1) n) 322 (nx σ1) w) hs := (((HK.new (fun y hy => hc1.2.1.lt (r := y) (by have := (hc1.2.2.2.2.2.1.2.2.2.2.2.2.2.1 y hy).1; omega))).tr (HK.put (Or.inl (by omega)))).tr (HK.put (Or.inl (by omega)))).tr (HK.put (Or.inl (by omega)))
    have hk3 : HK (Y 4) σ σ3 hs := (hk1.tr hkn).tr (HK.lf hA3.1)
    have td3 : tg σ3 (Y (300 + b)) = 3 := hc3.1.dk hb
    obtain ⟨p1, p2⟩ := hc3.2.2.2.2.2.2.2.1 b hb
    have e40 : sv (apR (lpA N A c (n - 1)) b (nI c) n w) 40 b = sv (lpA N A c (n - 1)) 40 b := by rw [sv_apR, if_neg (by omega), if_neg (by omega), if_neg (by omega)]
    rw [e40] at p2
    refine p_pop e_TM_onPlease_46 ?_
    refine p_aload e_TM_onPlease_47 rfl ?_
    refine p_gR 129 e_TM_onPlease_49 f_TM_253 rfl rfl (by assumption) ?_
    rcases p2 with ⟨r1, r2⟩ | ⟨r1, r2, r3, r4, r5⟩
    · refine p_ifnonnull (tgt := 60) e_TM_onPlease_52 (by decide) (fun hx => absurd (r1) hx) (fun _ => ?_)
      rw [if_pos r2] at hP
      refine p_aload_n e_TM_onPlease_55 rfl ?_
      refine p_iload_n e_TM_onPlease_56 rfl ?_
      refine p_inv (ci := 7) (d' := 11) [_] _ e_TM_onPlease_57 c_TM_257 k_TM_activateFirst i_TM_activateFirst s_TM_activateFirst rfl rfl (hc3.1.2.1.1) rfl rfl (Nat.le_of_ble_eq_true rfl) (Nat.le_of_ble_eq_true rfl) ?_
      refine sp_activateFirst hb hI3 hh hc3 (fun σ4 f4 m4 g4 rf4 hc4 hk4 => ?_)
      refine p_ret e_TM_onPlease_60 (rv_v ?_)
      exact hP _ _ _ _ _ 1 (Nat.le_refl _) hc4 (hk3.tr hk4)
    · have hne : fr σ3 129 (Y (300 + b)) ≠ 0 := by
        intro q
        rw [q, hc3.2.1.1.2] at r1
        omega
      refine p_ifnonnull (tgt := 60) e_TM_onPlease_52 (by decide) (fun _ => ?_) (fun hx => absurd hx (hne))
      rw [if_neg r5] at hP
      refine p_ret e_TM_onPlease_60 (rv_v ?_)
      exact hP _ _ _ _ _ 1 (Nat.le_refl _) hc3 hk3
  · rw [if_neg h7] at hP
    refine p_ret e_TM_onPlease_10 (rv_v ?_)
    exact hP _ _ _ _ _ 0 (Nat.zero_le _) h HK.rf
set_option maxHeartbeats 4000000 in
theorem sp_onKnow {l x b : Nat} {n co w : Int32} (hl : l ∈ hs) (hx : x ≤ N) (hb : b < 2) (hw : bz w) (hco : co = -1 ∨ ∃ d, d < N ∧ co = nI d) (l1 : fi σ 194 l = nI x) (l2 : fi σ 195 l = nI b) (l3 : fi σ 200 l = n) (l4 : fi σ 201 l = co) (l5 : fi σ 202 l = w) (hI : IV N A eb eo) (hh : hs.length ≤ 1) (h : CRx N Y bd hs σ A f m g rf) (hP : ∀ σ' f' m' g', CRx N Y bd hs σ' (knA A x b n co w) f' m' g' rf → HK (Y 4) σ σ' hs → P none σ') : Ctr m_TM_onKnow 11 [.inr (Y 0), .inr l] σ P := by
  have b1 := h.1.2.1.1
  have hi : 2 * x + b < 2 * N + 2 := by omega
  have ts : tg σ (Y (100 + (2 * x + b))) = 7 := h.1.sh hi
  have tl : tg σ l = 4 := (h.2.2.2.2.2.1.2.2.2.2.2.2.2.1 l hl).1
  have v11 := h.2.2.1.2.2.2.2.2.2 _ hi
  unfold knA at hP
  refine Ctr.of y_TM_onKnow (Nat.le_of_ble_eq_true rfl) ?_
  have go : sv A 11 (2 * x + b) < n ∨ (n = sv A 11 (2 * x + b) ∧ co = -1) → Wp m_TM_onKnow 11 65 [(2, .inr (Y (100 + (2 * x + b)))), (0, .inr (Y 0)), (1, .inr l)] [] σ (fun v σ' => RV m_TM_onKnow.2.2.2 v ∧ P v σ') := by
    intro hy
    rw [if_pos hy] at hP
    refine p_aload_n e_TM_onKnow_65 rfl ?_
    refine p_aload_n e_TM_onKnow_66 rfl ?_
    refine p_gIv 201 e_TM_onKnow_67 f_TM_263 rfl rfl (by assumption) l4 ?_
    refine p_aload_n e_TM_onKnow_70 rfl ?_
    refine p_gIv 202 e_TM_onKnow_71 f_TM_142 rfl rfl (by assumption) l5 ?_
    refine p_aload_n e_TM_onKnow_74 rfl ?_
    refine p_gIv 200 e_TM_onKnow_75 f_TM_139 rfl rfl (by assumption) l3 ?_
    refine p_inv (ci := 6) (d' := 1) [_, _, _] _ e_TM_onKnow_78 c_TM_264 k_Share_learn i_Share_learn s_Share_learn rfl rfl (by assumption) rfl rfl (Nat.le_of_ble_eq_true rfl) (Nat.le_of_ble_eq_true rfl) ?_
    refine sp_Share_learn ts hw ?_
    have hc1 := h.learn (i := 2 * x + b) (c := co) (w := w) (n := n) hi
    have hI1 : IV N (lnA A (2 * x + b) co w n) eb eo := ⟨hI.1.lrn hco hw, hI.2.keep rfl (fun k j hk => by unfold lnA; rw [sv_set1, if_neg (by omega), sv_set1, if_neg (by omega), sv_set1, if_neg (by omega)])⟩
    refine p_aload_n e_TM_onKnow_81 rfl ?_
    refine p_aload_n e_TM_onKnow_82 rfl ?_
    refine p_gIv 194 e_TM_onKnow_83 f_TM_119 rfl rfl (by assumption) l1 ?_
    refine p_aload_n e_TM_onKnow_86 rfl ?_
    refine p_gIv 195 e_TM_onKnow_87 f_TM_122 rfl rfl (by assumption) l2 ?_
    refine p_inv (ci := 7) (d' := 10) [_, _] _ e_TM_onKnow_90 c_TM_241 k_TM_giveWay i_TM_giveWay s_TM_giveWay rfl rfl (hc1.1.2.1.1) rfl rfl (Nat.le_of_ble_eq_true rfl) (Nat.le_of_ble_eq_true rfl) ?_
    refine sp_giveWay hx hb (hI1.1.own hx hb) hI1.1.b67 hh hc1 (fun σ2 f2 m2 g2 hc2 hk2 => ?_)
    refine p_ret e_TM_onKnow_93 (rv_v ?_)
    exact hP _ _ _ _ hc2 (HK.learn.tr hk2)
  have no : ¬ (sv A 11 (2 * x + b) < n ∨ (n = sv A 11 (2 * x + b) ∧ co = -1)) → Wp m_TM_onKnow 11 93 [(2, .inr (Y (100 + (2 * x + b)))), (0, .inr (Y 0)), (1, .inr l)] [] σ (fun v σ' => RV m_TM_onKnow.2.2.2 v ∧ P v σ') := by
    intro hy
    rw [if_neg hy] at hP
    refine p_ret e_TM_onKnow_93 (rv_v ?_)
    exact hP _ _ _ _ h HK.rf
  -- the second half, with the first flag z
  have half : ∀ z : Int32, (z = 1 ∧ sv A 11 (2 * x + b) < n) ∨ (z = 0 ∧ ¬ sv A 11 (2 * x + b) < n) → Wp m_TM_onKnow 11 29 [(2, .inr (Y (100 + (2 * x + b)))), (0, .inr (Y 0)), (1, .inr l)] [.inl z] σ (fun v σ' => RV m_TM_onKnow.2.2.2 v ∧ P v σ') := by
    intro z hz
    have last : ∀ y : Int32, (y = 1 ∧ n = sv A 11 (2 * x + b) ∧ co = -1) ∨ (y = 0 ∧ ¬ (n = sv A 11 (2 * x + b) ∧ co = -1)) → Wp m_TM_onKnow 11 54 [(3, .inl z), (2, .inr (Y (100 + (2 * x + b)))), (0, .inr (Y 0)), (1, .inr l)] [.inl y] σ (fun v σ' => RV m_TM_onKnow.2.2.2 v ∧ P v σ') := by
      intro y hy
      refine p_istore e_TM_onKnow_54 (by decide) ?_
      refine p_iload_n e_TM_onKnow_56 rfl ?_
      refine p_if_ne (tgt := 65) e_TM_onKnow_57 (by decide) (fun h57 => ?_) (fun h57 => ?_)
      · refine Wp.lv2 (go ?_) ⟨rfl, rfl, rfl, trivial⟩
        rcases hz with q | q
        · exact Or.inl q.2
        · exact absurd q.1 h57
      refine p_iload e_TM_onKnow_60 rfl ?_
      refine p_if_eq (tgt := 93) e_TM_onKnow_62 (by decide) (fun h62 => ?_) (fun h62 => ?_)
      · refine Wp.lv2 (no ?_) ⟨rfl, rfl, rfl, trivial⟩
        rcases hz with q | q
        · rw [h57] at q; exact absurd q.1 (by decide)
        · rcases hy with p | p
          · rw [h62] at p; exact absurd p.1 (by decide)
          · rintro (t | t)
            · exact q.2 t
            · exact p.2 t
      · refine Wp.lv2 (go ?_) ⟨rfl, rfl, rfl, trivial⟩
        rcases hy with p | p
        · exact Or.inr p.2
        · exact absurd p.1 h62
    refine p_istore_n e_TM_onKnow_29 (by decide) ?_
    refine p_aload_n e_TM_onKnow_30 rfl ?_
    refine p_gIv 200 e_TM_onKnow_31 f_TM_139 rfl rfl (by assumption) l3 ?_
    refine p_aload_n e_TM_onKnow_34 rfl ?_
    refine p_gIv 390 e_TM_onKnow_35 f_TM_260 rfl rfl (by assumption) v11 ?_
    refine p_icmp_ne (tgt := 53) e_TM_onKnow_38 (by decide) (fun h38 => ?_) (fun h38 => ?_)
    · refine p_iconst (x := 0) e_TM_onKnow_53 (by decide) ?_
      exact Wp.lv2 (last 0 (Or.inr ⟨rfl, fun q => h38 q.1⟩)) ⟨rfl, rfl, rfl, rfl, trivial⟩
    refine p_aload_n e_TM_onKnow_41 rfl ?_
    refine p_gIv 201 e_TM_onKnow_42 f_TM_263 rfl rfl (by assumption) l4 ?_
    refine p_iconst (x := (-1)) e_TM_onKnow_45 (by decide) ?_
    refine p_icmp_ne (tgt := 53) e_TM_onKnow_46 (by decide) (fun h46 => ?_) (fun h46 => ?_)
    · refine p_iconst (x := 0) e_TM_onKnow_53 (by decide) ?_
      exact Wp.lv2 (last 0 (Or.inr ⟨rfl, fun q => h46 q.2⟩)) ⟨rfl, rfl, rfl, rfl, trivial⟩
    · refine p_iconst (x := 1) e_TM_onKnow_49 (by decide) ?_
      refine p_goto (tgt := 54) e_TM_onKnow_50 (by decide) ?_
      exact Wp.lv2 (last 1 (Or.inl ⟨rfl, h38, h46⟩)) ⟨rfl, rfl, rfl, rfl, trivial⟩
  refine p_aload_n e_TM_onKnow_0 rfl ?_
  refine p_aload_n e_TM_onKnow_1 rfl ?_
  refine p_gIv 194 e_TM_onKnow_2 f_TM_119 rfl rfl (by assumption) l1 ?_
  refine p_aload_n e_TM_onKnow_5 rfl ?_
  refine p_gIv 195 e_TM_onKnow_6 f_TM_122 rfl rfl (by assumption) l2 ?_
  refine p_inv (ci := 7) (d' := 1) [_, _] _ e_TM_onKnow_9 c_TM_159 k_TM_share i_TM_share s_TM_share rfl rfl (by assumption) rfl rfl (Nat.le_of_ble_eq_true rfl) (Nat.le_of_ble_eq_true rfl) ?_
  refine h.1.share hx hb ?_
  refine p_astore_n e_TM_onKnow_12 (by decide) ?_
  refine p_aload_n e_TM_onKnow_13 rfl ?_
  refine p_gIv 200 e_TM_onKnow_14 f_TM_139 rfl rfl (by assumption) l3 ?_
  refine p_aload_n e_TM_onKnow_17 rfl ?_
  refine p_gIv 390 e_TM_onKnow_18 f_TM_260 rfl rfl (by assumption) v11 ?_
  refine p_icmp_le (tgt := 28) e_TM_onKnow_21 (by decide) (fun h21 => ?_) (fun h21 => ?_)
  · refine p_iconst (x := 0) e_TM_onKnow_28 (by decide) ?_
    exact Wp.lv2 (half 0 (Or.inr ⟨rfl, Int32.not_lt.mpr h21⟩)) ⟨rfl, rfl, rfl, trivial⟩
  · refine p_iconst (x := 1) e_TM_onKnow_24 (by decide) ?_
    refine p_goto (tgt := 29) e_TM_onKnow_25 (by decide) ?_
    exact Wp.lv2 (half 1 (Or.inl ⟨rfl, Int32.not_le.mp h21⟩)) ⟨rfl, rfl, rfl, trivial⟩
set_option maxHeartbeats 4000000 in
theorem sp_onTokens {l x b : Nat} {ct ow wd dt : Int32} (hl : l ∈ hs) (hx : x ≤ N) (hb : b < 2) (l1 : fi σ 194 l = nI x) (l2 : fi σ 195 l = nI b) (l3 : fi σ 196 l = ct) (l4 : fi σ 197 l = ow) (l5 : fi σ 198 l = wd) (l6 : fi σ 199 l = dt) (hI1 : IV N (gtA A (2 * x + b) ct ow wd dt) (fun _ => 0) (fun _ => 0)) (hh : hs.length ≤ 1) (h : CRx N Y bd hs σ A f m g rf) (hP : ∀ σ' f' m' g', CRx N Y bd hs σ' (tkA N A x b ct ow wd dt) f' m' g' rf → HK (Y 4) σ σ' hs → P none σ') : Ctr m_TM_onTokens 11 [.inr (Y 0), .inr l] σ P := by
  have b1 := h.1.2.1.1
  have hi : 2 * x + b < 2 * N + 2 := by omega
  have ts : tg σ (Y (100 + (2 * x + b))) = 7 := h.1.sh hi
  have tl : tg σ l = 4 := (h.2.2.2.2.2.1.2.2.2.2.2.2.2.1 l hl).1
  have v5 := h.2.2.1.1 _ hi
  have v6 := h.2.2.1.2.1 _ hi
  have hg : CRx N Y bd hs (gnd σ (Y (100 + (2 * x + b))) l) (gtA A (2 * x + b) ct ow wd dt) f m g rf ∧ HK (Y 4) σ (gnd σ (Y (100 + (2 * x + b))) l) hs := by
    unfold gnd gtA
    rw [v5, v6, l3, l4, l5, l6]
    have c2 := cw_385 (v := (if sv A 6 (2 * x + b) ≠ 0 ∨ ow ≠ 0 then 1 else 0)) (cw_384 (v := sv A 5 (2 * x + b) + ct) h hi) hi
    have k2 : HK (Y 4) σ (pfi (pfi σ 384 (Y (100 + (2 * x + b))) (sv A 5 (2 * x + b) + ct)) 385 (Y (100 + (2 * x + b))) (if sv A 6 (2 * x + b) ≠ 0 ∨ ow ≠ 0 then 1 else 0)) hs := (HK.put (Or.inl (by omega))).tr (HK.put (Or.inl (by omega)))
    by_cases e : wd = 0
    · rw [if_pos e, if_pos e]; exact ⟨c2, k2⟩
    · rw [if_neg e, if_neg e]; exact ⟨cw_387 (cw_386 c2 hi) hi, (k2.tr (HK.put (Or.inl (by omega)))).tr (HK.put (Or.inl (by omega)))⟩
  obtain ⟨hc1, hk1⟩ := hg
  unfold tkA at hP
  refine Ctr.of y_TM_onTokens (Nat.le_of_ble_eq_true rfl) ?_
  refine p_aload_n e_TM_onTokens_0 rfl ?_
  refine p_aload_n e_TM_onTokens_1 rfl ?_
  refine p_gIv 194 e_TM_onTokens_2 f_TM_119 rfl rfl (by assumption) l1 ?_
  refine p_aload_n e_TM_onTokens_5 rfl ?_
  refine p_gIv 195 e_TM_onTokens_6 f_TM_122 rfl rfl (by assumption) l2 ?_
  refine p_inv (ci := 7) (d' := 1) [_, _] _ e_TM_onTokens_9 c_TM_159 k_TM_share i_TM_share s_TM_share rfl rfl (by assumption) rfl rfl (Nat.le_of_ble_eq_true rfl) (Nat.le_of_ble_eq_true rfl) ?_
  refine h.1.share hx hb ?_
  refine p_aload_n e_TM_onTokens_12 rfl ?_
  refine p_inv (ci := 6) (d' := 1) [_] _ e_TM_onTokens_13 c_TM_238 k_Share_gain i_Share_gain s_Share_gain rfl rfl (by assumption) rfl rfl (Nat.le_of_ble_eq_true rfl) (Nat.le_of_ble_eq_true rfl) ?_
  refine sp_Share_gain ts tl ?_
  have tl1 : tg (gnd σ (Y (100 + (2 * x + b))) l) l = 4 := (hc1.2.2.2.2.2.1.2.2.2.2.2.2.2.1 l hl).1
  have m1 : fi (gnd σ (Y (100 + (2 * x + b))) l) 194 l = nI x := (hk1.1 l hl 194 (by omega) (by omega)).trans l1
  have m2 : fi (gnd σ (Y (100 + (2 * x + b))) l) 195 l = nI b := (hk1.1 l hl 195 (by omega) (by omega)).trans l2
  refine p_aload_n e_TM_onTokens_16 rfl ?_
  refine p_aload_n e_TM_onTokens_17 rfl ?_
  refine p_gIv 194 e_TM_onTokens_18 f_TM_119 rfl rfl (by assumption) m1 ?_
  refine p_aload_n e_TM_onTokens_21 rfl ?_
  refine p_gIv 195 e_TM_onTokens_22 f_TM_122 rfl rfl (by assumption) m2 ?_
  refine p_inv (ci := 7) (d' := 10) [_, _] _ e_TM_onTokens_25 c_TM_241 k_TM_giveWay i_TM_giveWay s_TM_giveWay rfl rfl (hc1.1.2.1.1) rfl rfl (Nat.le_of_ble_eq_true rfl) (Nat.le_of_ble_eq_true rfl) ?_
  refine sp_giveWay hx hb (hI1.1.own hx hb) hI1.1.b67 hh hc1 (fun σ2 f2 m2' g2 hc2 hk2 => ?_)
  have hI2 := hI1.gw hx hb
  have hk12 := hk1.tr hk2
  have tl2 : tg σ2 l = 4 := (hc2.2.2.2.2.2.1.2.2.2.2.2.2.2.1 l hl).1
  have n1 : fi σ2 194 l = nI x := (hk12.1 l hl 194 (by omega) (by omega)).trans l1
  have n2 : fi σ2 195 l = nI b := (hk12.1 l hl 195 (by omega) (by omega)).trans l2
  obtain ⟨a0, ⟨x1, x2, -, -, -, x6, -⟩, -, ⟨d1, d2, d3⟩, -⟩ := hc2.1
  have stop : ¬ (x < N ∧ sv (gwA (gtA A (2 * x + b) ct ow wd dt) x b) 12 x ≠ 0 ∧ sv (gwA (gtA A (2 * x + b) ct ow wd dt) x b) 15 x = nI b ∧ ceA N (gwA (gtA A (2 * x + b) ct ow wd dt) x b) x b) → Wp m_TM_onTokens 11 77 [(0, .inr (Y 0)), (1, .inr l)] [] σ2 (fun v σ' => RV m_TM_onTokens.2.2.2 v ∧ P v σ') := by
    intro hy
    rw [if_neg hy] at hP
    refine p_ret e_TM_onTokens_77 (rv_v ?_)
    exact hP _ _ _ _ hc2 hk12
  refine p_aload_n e_TM_onTokens_28 rfl ?_
  refine p_aload_n e_TM_onTokens_29 rfl ?_
  refine p_gIv 194 e_TM_onTokens_30 f_TM_119 rfl rfl (by assumption) n1 ?_
  refine p_inv (ci := 7) (d' := 1) [_] _ e_TM_onTokens_33 c_TM_71 k_TM_isCore i_TM_isCore s_TM_isCore rfl rfl (by assumption) rfl rfl (Nat.le_of_ble_eq_true rfl) (Nat.le_of_ble_eq_true rfl) ?_
  refine sp_isCore x1 (fun y1 y2 => ?_) (fun y => ?_)
  · refine p_if_eq (tgt := 77) e_TM_onTokens_36 (by decide) (fun hx => absurd hx ((by decide))) (fun _ => ?_)
    have hxN : x < N := by
      rw [x2] at y2
      exact (nI_ltI (by omega) (by omega)).mp y2
    have tc : tg σ2 (Y (200 + x)) = 2 := hc2.1.co hxN
    have o12 := hc2.2.2.2.1.2.1 x hxN
    have o15 := hc2.2.2.2.1.2.2.2.1 x hxN
    refine p_aload_n e_TM_onTokens_39 rfl ?_
    refine p_gRv 454 e_TM_onTokens_40 f_TM_38 rfl rfl (by assumption) x6 ?_
    refine p_aload_n e_TM_onTokens_43 rfl ?_
    refine p_gIv 194 e_TM_onTokens_44 f_TM_119 rfl rfl (by assumption) n1 ?_
    refine p_aaldv e_TM_onTokens_47 (ti := 4) (n := x) (v := Y (200 + x)) (by decide) d1 rfl (by omega) (by omega) (d3 x hxN).1 ?_
    refine p_aload_n e_TM_onTokens_48 rfl ?_
    refine p_gIv 195 e_TM_onTokens_49 f_TM_122 rfl rfl (by assumption) n2 ?_
    refine p_inv (ci := 1) (d' := 1) [_] _ e_TM_onTokens_52 c_TM_163 k_Core_isBusyWith i_Core_isBusyWith s_Core_isBusyWith rfl rfl (by assumption) rfl rfl (Nat.le_of_ble_eq_true rfl) (Nat.le_of_ble_eq_true rfl) ?_
    refine sp_Core_isBusyWith tc (fun z1 z2 => ?_) (fun z => ?_)
    · refine p_if_eq (tgt := 77) e_TM_onTokens_55 (by decide) (fun hx => absurd hx ((by decide))) (fun _ => ?_)
      rw [o12] at z1
      rw [o15] at z2
      refine p_aload_n e_TM_onTokens_58 rfl ?_
      refine p_aload_n e_TM_onTokens_59 rfl ?_
      refine p_gIv 194 e_TM_onTokens_60 f_TM_119 rfl rfl (by assumption) n1 ?_
      refine p_inv (ci := 7) (d' := 2) [_] _ e_TM_onTokens_63 c_TM_85 k_TM_canEnd i_TM_canEnd s_TM_canEnd rfl rfl (by assumption) rfl rfl (Nat.le_of_ble_eq_true rfl) (Nat.le_of_ble_eq_true rfl) ?_
      refine sp_canEnd hxN hb z2 hc2 (fun w1 => ?_) (fun w0 => ?_)
      · refine p_if_eq (tgt := 77) e_TM_onTokens_66 (by decide) (fun hx => absurd hx ((by decide))) (fun _ => ?_)
        refine p_aload_n e_TM_onTokens_69 rfl ?_
        refine p_aload_n e_TM_onTokens_70 rfl ?_
        refine p_gIv 194 e_TM_onTokens_71 f_TM_119 rfl rfl (by assumption) n1 ?_
        refine p_inv (ci := 7) (d' := 9) [_] _ e_TM_onTokens_74 c_TM_88 k_TM_endd i_TM_endd s_TM_endd rfl rfl (by assumption) rfl rfl (Nat.le_of_ble_eq_true rfl) (Nat.le_of_ble_eq_true rfl) ?_
        refine sp_end hxN hb z2 hI2.1.b67 hh hc2 (fun σ3 f3 m3 g3 hc3 hk3 => ?_)
        refine p_ret e_TM_onTokens_77 (rv_v ?_)
        rw [if_pos ⟨hxN, z1, z2, w1⟩] at hP
        exact hP _ _ _ _ hc3 (hk12.tr hk3)
      · refine p_if_eq (tgt := 77) e_TM_onTokens_66 (by decide) (fun _ => ?_) (fun hx => absurd (rfl) hx)
        exact Wp.lv2 (stop (fun q => w0 q.2.2.2)) ⟨rfl, rfl, trivial⟩
    · refine p_if_eq (tgt := 77) e_TM_onTokens_55 (by decide) (fun _ => ?_) (fun hx => absurd (rfl) hx)
      exact Wp.lv2 (stop (fun q => z ⟨by rw [o12]; exact q.2.1, by rw [o15]; exact q.2.2.1⟩)) ⟨rfl, rfl, trivial⟩
  · refine p_if_eq (tgt := 77) e_TM_onTokens_36 (by decide) (fun _ => ?_) (fun hx => absurd (rfl) hx)
    refine Wp.lv2 (stop (fun q => y ⟨nI_pos' (by omega), ?_⟩)) ⟨rfl, rfl, trivial⟩
    rw [x2]
    exact nI_lt q.1 (by omega)
end On
