/-! the public methods: memory, evict, issue, tick, deliver -/
/-- an access begins -/
def bgA (A : AS) (c : Nat) (w b v : Int32) : AS := set1 (set1 (set1 (set1 (set1 (set1 (set1 A 17 c (sv A 17 c + 1)) 12 c 1) 13 c w) 15 c b) 16 c v) 18 c 0) 14 c 0
noncomputable def isT (N : Nat) (B : AS) (c b : Nat) : AS := @ite _ (ceA N B c b) (Classical.propDecidable _) (enA N B c b) (akA (set1 B 19 c (sv B 4 0 + sv B 3 0)) c (rwk B c) (nI b) (N + 1))
noncomputable def isA (N : Nat) (A : AS) (c b : Nat) (w v : Int32) : AS := isT N (bgA A c w (nI b) v) c b
/-- a unit of time, for the cores below c -/
noncomputable def tuA (N : Nat) (A : AS) : Nat → AS
  | 0 => A
  | c + 1 => if sv (tuA N A c) 12 c ≠ 0 ∧ sv (tuA N A c) 14 c = 0 ∧ sv (tuA N A c) 19 c = sv (tuA N A c) 4 0 then agA N (tuA N A c) c else tuA N A c
/-- k units of time -/
noncomputable def tiA (N : Nat) (A : AS) : Nat → AS
  | 0 => A
  | k + 1 => tuA N (set1 (tiA N A k) 4 0 (sv (tiA N A k) 4 0 + 1)) N
section Pub2
variable {N : Nat} {Y : Nat → Nat} {bd : Nat × Nat × Nat} {hs : List Nat} {σ : PS} {A : AS} {f : Nat → Nat} {m : Nat} {g : Nat → Nat} {rf : Nat → Nat → Nat} {P : Option PV → PS → Prop} {eb eo : Nat → Nat}
theorem sv_bgA {c k j : Nat} {w b v : Int32} : sv (bgA A c w b v) k j = if j = c then (if k = 14 then 0 else if k = 18 then 0 else if k = 16 then v else if k = 15 then b else if k = 13 then w else if k = 12 then 1 else if k = 17 then sv A 17 c + 1 else sv A k j) else sv A k j := by
  unfold bgA
  simp only [sv_set1]
  by_cases e : j = c
  · simp [e]
  · simp [e]
theorem IV.bg (h : IV N A eb eo) {c b : Nat} {w v : Int32} (hb : b < 2) (hw : bz w) : IV N (bgA A c w (nI b) v) eb eo := by
  refine ⟨h.1.cong rfl (fun k j hk => ?_), fun d hd => ?_, fun b' hb' => ⟨(h.2.2.1 b' hb').1, fun i hi => ?_⟩, fun b' hb' => ?_⟩
  · unfold rel at hk
    rw [sv_bgA]
    by_cases e : j = c
    · rw [if_pos e, if_neg (by omega), if_neg (by omega), if_neg (by omega), if_neg (by omega), if_neg (by omega), if_neg (by omega), if_neg (by omega)]
    · rw [if_neg e]
  · rw [sv_bgA, sv_bgA, sv_bgA, sv_bgA]
    by_cases e : d = c
    · simp [e]
      exact ⟨⟨b, hb, rfl⟩, Or.inr rfl, hw, Or.inl rfl⟩
    · simp [e]
      exact h.2.1 d hd
  · rw [sv_bgA, sv_bgA]
    simp
    exact (h.2.2.1 b' hb').2 i hi
  · rw [sv_bgA, sv_bgA]
    simp
    exact h.2.2.2 b' hb'
theorem CRx.bg {c : Nat} {w b v : Int32} (hc : c < N) (h : CRx N Y bd hs σ A f m g rf) : CRx N Y bd hs (pfi (pfi (pfi (pfi (pfi (pfi (pfi σ 64 (Y (200 + c)) (fi σ 64 (Y (200 + c)) + 1)) 65 (Y (200 + c)) 1) 66 (Y (200 + c)) w) 67 (Y (200 + c)) b) 68 (Y (200 + c)) v) 69 (Y (200 + c)) 0) 71 (Y (200 + c)) 0) (bgA A c w b v) f m g rf := by
  have e := h.2.2.2.1.1 c hc
  rw [e]
  exact cw_71 (cw_69 (cw_68 (cw_67 (cw_66 (cw_65 (cw_64 h hc) hc) hc) hc) hc) hc) hc
set_option maxHeartbeats 4000000 in
theorem sp_TM_memory {b : Int32} (hn : ln A ≤ 70) (h : CRx N Y bd hs σ A f m g rf)
    (k1 : ∀ b' x, b' < 2 → b = nI b' → x ≤ N → sv A 6 (2 * x + b') ≠ 0 → P (some (.inl (sv A 8 (2 * x + b')))) σ)
    (k2 : ∀ b' i, b' < 2 → b = nI b' → (∀ x, x ≤ N → sv A 6 (2 * x + b') = 0) → i < ln A → sv A 34 i ≠ 0 → sv A 32 i = b → P (some (.inl (sv A 36 i))) σ)
    (k3 : ∀ b', b' < 2 → b = nI b' → (∀ x, x ≤ N → sv A 6 (2 * x + b') = 0) → (∀ i, i < ln A → ¬ (sv A 34 i ≠ 0 ∧ sv A 32 i = b)) → P (some (.inl 0)) σ) (k0 : ¬ isB b → P (some (.inl 0)) σ) : Ctr m_TM_memory 5 [.inr (Y 0), .inl b] σ P := by
  obtain ⟨a0, ⟨b1, b2, b3, b4, b5, b6, b7, b8, b9⟩, -⟩ := h.1
  have t5 := (h.1.2.2.2.2.2.2.1).1
  refine Ctr.of y_TM_memory (Nat.le_of_ble_eq_true rfl) ?_
  refine p_iload_n e_TM_memory_0 rfl ?_
  refine p_stat (d' := 1) [_] _ e_TM_memory_1 c_TM_75 k_TM_isBlock t_TM_isBlock rfl rfl (Nat.le_of_ble_eq_true rfl) (Nat.le_of_ble_eq_true rfl) ?_
  refine sp_isBlock (fun z1 z2 => ?_) (fun z => ?_)
  · refine p_if_ne (tgt := 9) e_TM_memory_4 (by decide) (fun _ => ?_) (fun hx => absurd hx ((by decide)))
    obtain ⟨b', hb, rfl⟩ := ix2 z1 z2
    have loop2 : ∀ k i, i + k = ln A → (∀ x, x ≤ N → sv A 6 (2 * x + b') = 0) → (∀ j, j < i → ¬ (sv A 34 j ≠ 0 ∧ sv A 32 j = nI b')) → Wp m_TM_memory 5 46 [(2, .inl (nI i)), (0, .inr (Y 0)), (1, .inl (nI b'))] [] σ (fun v σ' => RV m_TM_memory.2.2.2 v ∧ P v σ') := by
      intro k
      induction k with
      | zero =>
        intro i hi hx hno
        refine p_iload_n e_TM_memory_46 rfl ?_
        refine p_aload_n e_TM_memory_47 rfl ?_
        refine p_gRv 457 e_TM_memory_48 f_TM_67 rfl rfl (by assumption) b9 ?_
        refine p_inv (ci := 4) (d' := 2) [] _ e_TM_memory_51 c_TM_170 k_Mail_size i_Mail_size s_Mail_size rfl rfl (by assumption) rfl rfl (Nat.le_of_ble_eq_true rfl) (Nat.le_of_ble_eq_true rfl) ?_
        refine sp_Mail_size h ?_
        refine p_icmp_ge (tgt := 92) e_TM_memory_54 (by decide) (fun _ => ?_) (fun hx => absurd (nI_le (by omega) (by omega)) hx)
        refine p_iconst (x := 0) e_TM_memory_92 (by decide) ?_
        refine p_iret e_TM_memory_93 (rv_i ?_)
        exact k3 b' hb rfl hx (fun j hj => hno j (by omega))
      | succ k ih =>
        intro i hi hx hno
        have hil : i < ln A := by omega
        obtain ⟨tl, l1, l2, l3, l4, l5, l6, l7, l8, -⟩ := h.2.2.2.2.2.1.2.2.1 i hil
        refine p_iload_n e_TM_memory_46 rfl ?_
        refine p_aload_n e_TM_memory_47 rfl ?_
        refine p_gRv 457 e_TM_memory_48 f_TM_67 rfl rfl (by assumption) b9 ?_
        refine p_inv (ci := 4) (d' := 2) [] _ e_TM_memory_51 c_TM_170 k_Mail_size i_Mail_size s_Mail_size rfl rfl (by assumption) rfl rfl (Nat.le_of_ble_eq_true rfl) (Nat.le_of_ble_eq_true rfl) ?_
        refine sp_Mail_size h ?_
        refine p_icmp_ge (tgt := 92) e_TM_memory_54 (by decide) (fun hx => absurd hx (nI_ge hil (by omega))) (fun _ => ?_)
        refine p_aload_n e_TM_memory_57 rfl ?_
        refine p_gRv 457 e_TM_memory_58 f_TM_67 rfl rfl (by assumption) b9 ?_
        refine p_iload_n e_TM_memory_61 rfl ?_
        refine p_inv (ci := 4) (d' := 4) [_] _ e_TM_memory_62 c_TM_174 k_Mail_at i_Mail_at s_Mail_at rfl rfl (by assumption) rfl rfl (Nat.le_of_ble_eq_true rfl) (Nat.le_of_ble_eq_true rfl) ?_
        refine sp_Mail_at h hil ?_
        have nxt : ¬ (sv A 34 i ≠ 0 ∧ sv A 32 i = nI b') → Wp m_TM_memory 5 86 [(2, .inl (nI i)), (0, .inr (Y 0)), (1, .inl (nI b'))] [] σ (fun v σ' => RV m_TM_memory.2.2.2 v ∧ P v σ') := by
          intro hy
          refine p_iinc e_TM_memory_86 rfl rfl (by decide) ?_
          refine p_goto (tgt := 46) e_TM_memory_89 (by decide) ?_
          refine Wp.lv2 (ih (i + 1) (by omega) hx (fun j hj => ?_)) ⟨congrArg (fun z => some (Sum.inl z)) (nI_1 i), rfl, rfl, trivial⟩
          by_cases e : j = i
          · subst e; exact hy
          · exact hno j (by omega)
        refine p_astore_n e_TM_memory_65 (by decide) ?_
        refine p_aload_n e_TM_memory_66 rfl ?_
        refine p_gIv 197 e_TM_memory_67 f_TM_211 rfl rfl (by assumption) l6 ?_
        refine p_if_eq (tgt := 86) e_TM_memory_70 (by decide) (fun h70 => ?_) (fun h70 => ?_)
        · exact Wp.lv2 (nxt (fun q => q.1 h70)) ⟨rfl, rfl, rfl, trivial⟩
        refine p_aload_n e_TM_memory_73 rfl ?_
        refine p_gIv 195 e_TM_memory_74 f_TM_122 rfl rfl (by assumption) l4 ?_
        refine p_iload_n e_TM_memory_77 rfl ?_
        refine p_icmp_ne (tgt := 86) e_TM_memory_78 (by decide) (fun h78 => ?_) (fun h78 => ?_)
        · exact Wp.lv2 (nxt (fun q => h78 q.2)) ⟨rfl, rfl, rfl, trivial⟩
        · refine p_aload_n e_TM_memory_81 rfl ?_
          refine p_gIv 199 e_TM_memory_82 f_TM_212 rfl rfl (by assumption) l8 ?_
          refine p_iret e_TM_memory_85 (rv_i ?_)
          exact k2 b' i hb rfl hx hil h70 h78
    have loop1 : ∀ k x, x + k = N + 1 → (∀ y, y < x → sv A 6 (2 * y + b') = 0) → Wp m_TM_memory 5 11 [(2, .inl (nI x)), (0, .inr (Y 0)), (1, .inl (nI b'))] [] σ (fun v σ' => RV m_TM_memory.2.2.2 v ∧ P v σ') := by
      intro k
      induction k with
      | zero =>
        intro x hx hno
        refine p_iload_n e_TM_memory_11 rfl ?_
        refine p_aload_n e_TM_memory_12 rfl ?_
        refine p_gIv 449 e_TM_memory_13 f_TM_23 rfl rfl (by assumption) b3 ?_
        refine p_icmp_gt (tgt := 44) e_TM_memory_16 (by decide) (fun _ => ?_) (fun hx => absurd (nI_lt (by omega) (by omega)) hx)
        refine p_iconst (x := 0) e_TM_memory_44 (by decide) ?_
        refine p_istore_n e_TM_memory_45 (by decide) ?_
        exact Wp.lv2 (loop2 (ln A) 0 (by omega) (fun y hy => hno y (by omega)) (fun j hj => by omega)) ⟨rfl, rfl, rfl, trivial⟩
      | succ k ih =>
        intro x hx hno
        have hi : 2 * x + b' < 2 * N + 2 := by omega
        have ts : tg σ (Y (100 + (2 * x + b'))) = 7 := h.1.sh hi
        have v6 := h.2.2.1.2.1 _ hi
        have v8 := h.2.2.1.2.2.2.1 _ hi
        refine p_iload_n e_TM_memory_11 rfl ?_
        refine p_aload_n e_TM_memory_12 rfl ?_
        refine p_gIv 449 e_TM_memory_13 f_TM_23 rfl rfl (by assumption) b3 ?_
        refine p_icmp_gt (tgt := 44) e_TM_memory_16 (by decide) (fun hx => absurd hx (nI_nlt (by omega) (by omega))) (fun _ => ?_)
        refine p_aload_n e_TM_memory_19 rfl ?_
        refine p_iload_n e_TM_memory_20 rfl ?_
        refine p_iload_n e_TM_memory_21 rfl ?_
        refine p_inv (ci := 7) (d' := 1) [_, _] _ e_TM_memory_22 c_TM_159 k_TM_share i_TM_share s_TM_share rfl rfl (by assumption) rfl rfl (Nat.le_of_ble_eq_true rfl) (Nat.le_of_ble_eq_true rfl) ?_
        refine h.1.share (by omega) hb ?_
        refine p_astore_n e_TM_memory_25 (by decide) ?_
        refine p_aload_n e_TM_memory_26 rfl ?_
        refine p_gIv 385 e_TM_memory_27 f_TM_57 rfl rfl (by assumption) v6 ?_
        refine p_if_eq (tgt := 38) e_TM_memory_30 (by decide) (fun h30 => ?_) (fun h30 => ?_)
        · refine p_iinc e_TM_memory_38 rfl rfl (by decide) ?_
          refine p_goto (tgt := 11) e_TM_memory_41 (by decide) ?_
          refine Wp.lv2 (ih (x + 1) (by omega) (fun y hy => ?_)) ⟨congrArg (fun z => some (Sum.inl z)) (nI_1 x), rfl, rfl, trivial⟩
          by_cases e : y = x
          · subst e; exact h30
          · exact hno y (by omega)
        · refine p_aload_n e_TM_memory_33 rfl ?_
          refine p_gIv 387 e_TM_memory_34 f_TM_183 rfl rfl (by assumption) v8 ?_
          refine p_iret e_TM_memory_37 (rv_i ?_)
          exact k1 b' x hb rfl (by omega) h30
    refine p_iconst (x := 0) e_TM_memory_9 (by decide) ?_
    refine p_istore_n e_TM_memory_10 (by decide) ?_
    exact Wp.lv2 (loop1 (N + 1) 0 (by omega) (fun y hy => by omega)) ⟨rfl, rfl, rfl, trivial⟩
  · refine p_if_ne (tgt := 9) e_TM_memory_4 (by decide) (fun hx => absurd (rfl) hx) (fun _ => ?_)
    refine p_iconst (x := 0) e_TM_memory_7 (by decide) ?_
    refine p_iret e_TM_memory_8 (rv_i ?_)
    exact k0 z
set_option maxHeartbeats 4000000 in
theorem sp_TM_evict {c b : Int32} (hI : IV N A eb eo) (hh : hs.length ≤ 1) (h : CRx N Y bd hs σ A f m g rf)
    (k1 : ∀ c' b' σ' f' m' g', c' < N → b' < 2 → c = nI c' → b = nI b' → sv A 5 (2 * c' + b') ≠ 0 → ¬ (sv A 12 c' ≠ 0 ∧ sv A 15 c' = b) → CRx N Y bd hs σ' (gvA A c' b' (nI N) (sv A 5 (2 * c' + b')) (sv A 6 (2 * c' + b')) (sv A 6 (2 * c' + b'))) f' m' g' rf → HK (Y 4) σ σ' hs → P (some (.inl 1)) σ')
    (k2 : ∀ c' b', c' < N → b' < 2 → c = nI c' → b = nI b' → (sv A 5 (2 * c' + b') = 0 ∨ (sv A 12 c' ≠ 0 ∧ sv A 15 c' = b)) → P (some (.inl 0)) σ) (k0 : ¬ (isC N c ∧ isB b) → P (some (.inl 0)) σ) : Ctr m_TM_evict 10 [.inr (Y 0), .inl c, .inl b] σ P := by
  obtain ⟨a0, ⟨b1, b2, b3, b4, b5, b6, b7, b8, b9⟩, -, ⟨d1, d2, d3⟩, -⟩ := h.1
  have no : ¬ (isC N c ∧ isB b) → Wp m_TM_evict 10 15 (largs 0 [.inr (Y 0), .inl c, .inl b]) [] σ (fun v σ' => RV m_TM_evict.2.2.2 v ∧ P v σ') := by
    intro hy
    refine p_iconst (x := 0) e_TM_evict_15 (by decide) ?_
    refine p_iret e_TM_evict_16 (rv_z (by first | assumption | exact Or.inl rfl | exact Or.inr rfl) ?_)
    exact k0 hy
  refine Ctr.of y_TM_evict (Nat.le_of_ble_eq_true rfl) ?_
  refine p_aload_n e_TM_evict_0 rfl ?_
  refine p_iload_n e_TM_evict_1 rfl ?_
  refine p_inv (ci := 7) (d' := 1) [_] _ e_TM_evict_2 c_TM_71 k_TM_isCore i_TM_isCore s_TM_isCore rfl rfl (by assumption) rfl rfl (Nat.le_of_ble_eq_true rfl) (Nat.le_of_ble_eq_true rfl) ?_
  refine sp_isCore b1 (fun y1 y2 => ?_) (fun y => ?_)
  · refine p_if_eq (tgt := 15) e_TM_evict_5 (by decide) (fun hx => absurd hx ((by decide))) (fun _ => ?_)
    rw [b2] at y2
    refine p_iload_n e_TM_evict_8 rfl ?_
    refine p_stat (d' := 1) [_] _ e_TM_evict_9 c_TM_75 k_TM_isBlock t_TM_isBlock rfl rfl (Nat.le_of_ble_eq_true rfl) (Nat.le_of_ble_eq_true rfl) ?_
    refine sp_isBlock (fun z1 z2 => ?_) (fun z => ?_)
    · refine p_if_ne (tgt := 17) e_TM_evict_12 (by decide) (fun _ => ?_) (fun hx => absurd hx ((by decide)))
      obtain ⟨c', hc, rfl⟩ := ix (by omega) y1 y2
      obtain ⟨b', hb, rfl⟩ := ix2 z1 z2
      have hi : 2 * c' + b' < 2 * N + 2 := by omega
      have ts : tg σ (Y (100 + (2 * c' + b'))) = 7 := h.1.sh hi
      have tc : tg σ (Y (200 + c')) = 2 := h.1.co hc
      have v5 := h.2.2.1.1 _ hi
      have v6 := h.2.2.1.2.1 _ hi
      have v12 := h.2.2.2.1.2.1 c' hc
      have v15 := h.2.2.2.1.2.2.2.1 c' hc
      have bad : (sv A 5 (2 * c' + b') = 0 ∨ (sv A 12 c' ≠ 0 ∧ sv A 15 c' = nI b')) → Wp m_TM_evict 10 44 [(3, .inr (Y (100 + (2 * c' + b')))), (0, .inr (Y 0)), (1, .inl (nI c')), (2, .inl (nI b'))] [] σ (fun v σ' => RV m_TM_evict.2.2.2 v ∧ P v σ') := by
        intro hy
        refine p_iconst (x := 0) e_TM_evict_44 (by decide) ?_
        refine p_iret e_TM_evict_45 (rv_z (by first | assumption | exact Or.inl rfl | exact Or.inr rfl) ?_)
        exact k2 c' b' hc hb rfl rfl hy
      refine p_aload_n e_TM_evict_17 rfl ?_
      refine p_iload_n e_TM_evict_18 rfl ?_
      refine p_iload_n e_TM_evict_19 rfl ?_
      refine p_inv (ci := 7) (d' := 1) [_, _] _ e_TM_evict_20 c_TM_159 k_TM_share i_TM_share s_TM_share rfl rfl (by assumption) rfl rfl (Nat.le_of_ble_eq_true rfl) (Nat.le_of_ble_eq_true rfl) ?_
      refine h.1.share (by omega) hb ?_
      refine p_astore_n e_TM_evict_23 (by decide) ?_
      refine p_aload_n e_TM_evict_24 rfl ?_
      refine p_gIv 384 e_TM_evict_25 f_TM_54 rfl rfl (by assumption) v5 ?_
      refine p_if_eq (tgt := 44) e_TM_evict_28 (by decide) (fun h28 => ?_) (fun h28 => ?_)
      · exact Wp.lv2 (bad (Or.inl h28)) ⟨rfl, rfl, rfl, rfl, trivial⟩
      refine p_aload_n e_TM_evict_31 rfl ?_
      refine p_gRv 454 e_TM_evict_32 f_TM_38 rfl rfl (by assumption) b6 ?_
      refine p_iload_n e_TM_evict_35 rfl ?_
      refine p_aaldv e_TM_evict_36 (ti := 4) (n := c') (v := Y (200 + c')) (by decide) d1 rfl (by omega) (by omega) (d3 c' hc).1 ?_
      refine p_iload_n e_TM_evict_37 rfl ?_
      refine p_inv (ci := 1) (d' := 1) [_] _ e_TM_evict_38 c_TM_163 k_Core_isBusyWith i_Core_isBusyWith s_Core_isBusyWith rfl rfl (by assumption) rfl rfl (Nat.le_of_ble_eq_true rfl) (Nat.le_of_ble_eq_true rfl) ?_
      refine sp_Core_isBusyWith tc (fun x1 x2 => ?_) (fun x => ?_)
      · refine p_if_eq (tgt := 46) e_TM_evict_41 (by decide) (fun hx => absurd hx ((by decide))) (fun _ => ?_)
        exact Wp.lv2 (bad (Or.inr ⟨by rw [← v12]; exact x1, by rw [← v15]; exact x2⟩)) ⟨rfl, rfl, rfl, rfl, trivial⟩
      · refine p_if_eq (tgt := 46) e_TM_evict_41 (by decide) (fun _ => ?_) (fun hx => absurd (rfl) hx)
        refine p_aload_n e_TM_evict_46 rfl ?_
        refine p_iload_n e_TM_evict_47 rfl ?_
        refine p_aload_n e_TM_evict_48 rfl ?_
        refine p_gIv 449 e_TM_evict_49 f_TM_23 rfl rfl (by assumption) b3 ?_
        refine p_iload_n e_TM_evict_52 rfl ?_
        refine p_aload_n e_TM_evict_53 rfl ?_
        refine p_gIv 384 e_TM_evict_54 f_TM_54 rfl rfl (by assumption) v5 ?_
        refine p_aload_n e_TM_evict_57 rfl ?_
        refine p_gIv 385 e_TM_evict_58 f_TM_57 rfl rfl (by assumption) v6 ?_
        refine p_aload_n e_TM_evict_61 rfl ?_
        refine p_gIv 385 e_TM_evict_62 f_TM_57 rfl rfl (by assumption) v6 ?_
        refine p_inv (ci := 7) (d' := 9) [_, _, _, _, _, _] _ e_TM_evict_65 c_TM_166 k_TM_give i_TM_give s_TM_give rfl rfl (by assumption) rfl rfl (Nat.le_of_ble_eq_true rfl) (Nat.le_of_ble_eq_true rfl) ?_
        refine sp_give (x := c') (by omega) hb (hI.1.own (by omega) hb) (hI.1.own (by omega) hb) hI.1.b67 hh h (fun σ1 f1 m1 g1 hc1 hk1 => ?_)
        refine p_iconst (x := 1) e_TM_evict_68 (by decide) ?_
        refine p_iret e_TM_evict_69 (rv_z (by first | assumption | exact Or.inl rfl | exact Or.inr rfl) ?_)
        exact k1 c' b' σ1 f1 m1 g1 hc hb rfl rfl h28 (fun q => x ⟨by rw [v12]; exact q.1, by rw [v15]; exact q.2⟩) hc1 hk1
    · refine p_if_ne (tgt := 17) e_TM_evict_12 (by decide) (fun hx => absurd (rfl) hx) (fun _ => ?_)
      exact no (fun q => z q.2)
  · refine p_if_eq (tgt := 15) e_TM_evict_5 (by decide) (fun _ => ?_) (fun hx => absurd (rfl) hx)
    rw [b2] at y
    exact no (fun q => y q.1)
theorem sp_begin {c : Nat} {w b v : Int32} (hc : c < N) (hw : bz w) (h : CRx N Y bd hs σ A f m g rf) (hP : ∀ σ', CRx N Y bd hs σ' (bgA A c w b v) f m g rf → HK (Y 4) σ σ' hs → P none σ') : Ctr m_Core_begin 1 [.inr (Y (200 + c)), .inl w, .inl b, .inl v] σ P :=
  sp_Core_begin (h.1.co hc) hw (hP _ (h.bg hc) (((((((HK.put (Or.inl (by omega))).tr (HK.put (Or.inl (by omega)))).tr (HK.put (Or.inl (by omega)))).tr (HK.put (Or.inl (by omega)))).tr (HK.put (Or.inl (by omega)))).tr (HK.put (Or.inl (by omega)))).tr (HK.put (Or.inl (by omega)))))
set_option maxHeartbeats 4000000 in
theorem wp_issue {c b : Nat} {w v : Int32} (hc : c < N) (hb : b < 2) (e15 : sv A 15 c = nI b) (hI1 : IV N A eb eo) (hh : hs.length ≤ 1) (hc1 : CRx N Y bd hs σ A f m g rf)
    (k1 : ∀ σ' f' m' g', CRx N Y bd hs σ' (isT N A c b) f' m' g' rf → HK (Y 4) σ σ' hs → (ceA N A c b → P (some (.inl 1)) σ') ∧ (¬ ceA N A c b → P (some (.inl 0)) σ')) : Wp m_TM_issue 10 45 [(5, .inr (Y (200 + c))), (0, .inr (Y 0)), (1, .inl (nI c)), (2, .inl w), (3, .inl (nI b)), (4, .inl v)] [] σ (fun v σ' => RV m_TM_issue.2.2.2 v ∧ P v σ') := by
  have tx1 := hc1.1.2.1.1
  refine p_aload_n e_TM_issue_45 rfl ?_
  refine p_iload_n e_TM_issue_46 rfl ?_
  refine p_inv (ci := 7) (d' := 2) [_] _ e_TM_issue_47 c_TM_85 k_TM_canEnd i_TM_canEnd s_TM_canEnd rfl rfl (by assumption) rfl rfl (Nat.le_of_ble_eq_true rfl) (Nat.le_of_ble_eq_true rfl) ?_
  refine sp_canEnd hc hb e15 hc1 (fun w1 => ?_) (fun w0 => ?_)
  · refine p_if_eq (tgt := 60) e_TM_issue_50 (by decide) (fun hx => absurd hx ((by decide))) (fun _ => ?_)
    refine p_aload_n e_TM_issue_53 rfl ?_
    refine p_iload_n e_TM_issue_54 rfl ?_
    refine p_inv (ci := 7) (d' := 9) [_] _ e_TM_issue_55 c_TM_88 k_TM_endd i_TM_endd s_TM_endd rfl rfl (by assumption) rfl rfl (Nat.le_of_ble_eq_true rfl) (Nat.le_of_ble_eq_true rfl) ?_
    refine sp_end hc hb e15 hI1.1.b67 hh hc1 (fun σ2 f2 m2 g2 hc2 hk2 => ?_)
    refine p_iconst (x := 1) e_TM_issue_58 (by decide) ?_
    refine p_iret e_TM_issue_59 (rv_i ?_)
    have e : isT N A c b = enA N A c b := if_pos w1
    exact (k1 σ2 f2 m2 g2 (by rw [e]; exact hc2) hk2).1 w1
  · refine p_if_eq (tgt := 60) e_TM_issue_50 (by decide) (fun _ => ?_) (fun hx => absurd (rfl) hx)
    have u4 := hc1.2.2.2.2.1.2.2.1
    have u3 := hc1.2.2.2.2.1.2.1
    have tc1 := hc1.1.co hc
    refine p_aload e_TM_issue_60 rfl ?_
    refine p_aload_n e_TM_issue_62 rfl ?_
    refine p_gIv 458 e_TM_issue_63 f_TM_92 rfl rfl (by assumption) u4 ?_
    refine p_aload_n e_TM_issue_66 rfl ?_
    refine p_gIv 452 e_TM_issue_67 f_TM_20 rfl rfl (by assumption) u3 ?_
    refine p_iadd e_TM_issue_70 ?_
    refine p_pI 70 e_TM_issue_71 f_TM_95 rfl rfl (fun q h => by cases h; exact Or.inl rfl) rfl (by assumption) ?_
    have hc2 := cw_70 (v := sv A 4 0 + sv A 3 0) hc1 hc
    have hI2 : IV N (set1 A 19 c (sv A 4 0 + sv A 3 0)) eb eo := ⟨hI1.1.set (by unfold rel; omega), hI1.2⟩
    refine p_aload_n e_TM_issue_74 rfl ?_
    refine p_iload_n e_TM_issue_75 rfl ?_
    refine p_inv (ci := 7) (d' := 9) [_] _ e_TM_issue_76 c_TM_98 k_TM_ask i_TM_ask s_TM_ask rfl rfl (hc2.1.2.1.1) rfl rfl (Nat.le_of_ble_eq_true rfl) (Nat.le_of_ble_eq_true rfl) ?_
    have er : rwk (set1 A 19 c (sv A 4 0 + sv A 3 0)) c = rwk A c := rfl
    have e15' : sv (set1 A 19 c (sv A 4 0 + sv A 3 0)) 15 c = nI b := e15
    refine sp_ask hc (fun x hx => ?_) hh hc2 (fun σ2 f2 m2 g2 hc3 hk3 => ?_)
    · rw [e15']
      exact (LI.ak hI2.1 hc hb rwk_12 x hx).b67
    · rw [er, e15'] at hc3
      refine p_iconst (x := 0) e_TM_issue_79 (by decide) ?_
      refine p_iret e_TM_issue_80 (rv_i ?_)
      have e : isT N A c b = _ := if_neg w0
      exact (k1 σ2 f2 m2 g2 (by rw [e]; exact hc3) ((HK.put (Or.inl (by omega))).tr hk3)).2 w0
set_option maxHeartbeats 4000000 in
theorem sp_TM_issue {c w b v : Int32} (hw : bz w) (hI : IV N A eb eo) (hh : hs.length ≤ 1) (h : CRx N Y bd hs σ A f m g rf)
    (k1 : ∀ c' b' σ' f' m' g', c' < N → b' < 2 → c = nI c' → b = nI b' → sv A 12 c' = 0 → CRx N Y bd hs σ' (isA N A c' b' w v) f' m' g' rf → HK (Y 4) σ σ' hs → (ceA N (bgA A c' w (nI b') v) c' b' → P (some (.inl 1)) σ') ∧ (¬ ceA N (bgA A c' w (nI b') v) c' b' → P (some (.inl 0)) σ'))
    (k2 : ∀ c', c' < N → c = nI c' → isB b → sv A 12 c' ≠ 0 → P (some (.inl (-2))) σ) (k0 : ¬ (isC N c ∧ isB b) → P (some (.inl (-1))) σ) : Ctr m_TM_issue 10 [.inr (Y 0), .inl c, .inl w, .inl b, .inl v] σ P := by
  obtain ⟨a0, ⟨b1, b2, b3, b4, b5, b6, b7, b8, b9⟩, -, ⟨d1, d2, d3⟩, -⟩ := h.1
  have no : ¬ (isC N c ∧ isB b) → Wp m_TM_issue 10 15 (largs 0 [.inr (Y 0), .inl c, .inl w, .inl b, .inl v]) [] σ (fun v σ' => RV m_TM_issue.2.2.2 v ∧ P v σ') := by
    intro hy
    refine p_iconst (x := (-1)) e_TM_issue_15 (by decide) ?_
    refine p_iret e_TM_issue_16 (rv_i ?_)
    exact k0 hy
  refine Ctr.of y_TM_issue (Nat.le_of_ble_eq_true rfl) ?_
  refine p_aload_n e_TM_issue_0 rfl ?_
  refine p_iload_n e_TM_issue_1 rfl ?_
  refine p_inv (ci := 7) (d' := 1) [_] _ e_TM_issue_2 c_TM_71 k_TM_isCore i_TM_isCore s_TM_isCore rfl rfl (by assumption) rfl rfl (Nat.le_of_ble_eq_true rfl) (Nat.le_of_ble_eq_true rfl) ?_
  refine sp_isCore b1 (fun y1 y2 => ?_) (fun y => ?_)
  · refine p_if_eq (tgt := 15) e_TM_issue_5 (by decide) (fun hx => absurd hx ((by decide))) (fun _ => ?_)
    rw [b2] at y2
    refine p_iload_n e_TM_issue_8 rfl ?_
    refine p_stat (d' := 1) [_] _ e_TM_issue_9 c_TM_75 k_TM_isBlock t_TM_isBlock rfl rfl (Nat.le_of_ble_eq_true rfl) (Nat.le_of_ble_eq_true rfl) ?_
    refine sp_isBlock (fun z1 z2 => ?_) (fun z => ?_)
    · refine p_if_ne (tgt := 17) e_TM_issue_12 (by decide) (fun _ => ?_) (fun hx => absurd hx ((by decide)))
      obtain ⟨c', hc, rfl⟩ := ix (by omega) y1 y2
      obtain ⟨b', hb, rfl⟩ := ix2 z1 z2
      have tc : tg σ (Y (200 + c')) = 2 := h.1.co hc
      have v12 := h.2.2.2.1.2.1 c' hc
      refine p_aload_n e_TM_issue_17 rfl ?_
      refine p_gRv 454 e_TM_issue_18 f_TM_38 rfl rfl (by assumption) b6 ?_
      refine p_iload_n e_TM_issue_21 rfl ?_
      refine p_aaldv e_TM_issue_22 (ti := 4) (n := c') (v := Y (200 + c')) (by decide) d1 rfl (by omega) (by omega) (d3 c' hc).1 ?_
      refine p_astore e_TM_issue_23 (by decide) ?_
      refine p_aload e_TM_issue_25 rfl ?_
      refine p_gIv 65 e_TM_issue_27 f_TM_78 rfl rfl (by assumption) v12 ?_
      refine p_if_eq (tgt := 36) e_TM_issue_30 (by decide) (fun h30 => ?_) (fun h30 => ?_)
      · refine p_aload e_TM_issue_36 rfl ?_
        refine p_iload_n e_TM_issue_38 rfl ?_
        refine p_iload_n e_TM_issue_39 rfl ?_
        refine p_iload e_TM_issue_40 rfl ?_
        refine p_inv (ci := 1) (d' := 1) [_, _, _] _ e_TM_issue_42 c_TM_81 k_Core_begin i_Core_begin s_Core_begin rfl rfl (by assumption) rfl rfl (Nat.le_of_ble_eq_true rfl) (Nat.le_of_ble_eq_true rfl) ?_
        refine sp_begin hc hw h (fun σ1 hc1 hk1 => ?_)
        have hI1 := hI.bg (c := c') (w := w) (v := v) hb hw
        have e15 : sv (bgA A c' w (nI b') v) 15 c' = nI b' := by rw [sv_bgA]; simp
        have k11 := fun σ' f' m' g' h1 h2 => k1 c' b' σ' f' m' g' hc hb rfl rfl h30 h1 (hk1.tr h2)
        unfold isA at k11
        generalize bgA A c' w (nI b') v = B at *
        exact Wp.lv2 (wp_issue hc hb e15 hI1 hh hc1 k11) ⟨rfl, rfl, rfl, rfl, rfl, rfl, trivial⟩
      · refine p_bipush (x := (-2)) e_TM_issue_33 (by decide) ?_
        refine p_iret e_TM_issue_35 (rv_i ?_)
        exact k2 c' hc rfl ⟨z1, z2⟩ h30
    · refine p_if_ne (tgt := 17) e_TM_issue_12 (by decide) (fun hx => absurd (rfl) hx) (fun _ => ?_)
      exact no (fun q => z q.2)
  · refine p_if_eq (tgt := 15) e_TM_issue_5 (by decide) (fun _ => ?_) (fun hx => absurd (rfl) hx)
    rw [b2] at y
    exact no (fun q => y q.1)
end Pub2
