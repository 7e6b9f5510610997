/-! what always holds stays: taking out, sending, giving, getting, learning -/
section Inv
variable {N : Nat} {A : AS} {eb eo : Nat → Nat}
theorem sv_rm_at {i j k : Nat} (hk : 29 ≤ k ∧ k < 40) : sv (rmL A i) k j = sv A k (if j < i then j else j + 1) := by
  rw [sv_rmL]
  by_cases e : j < i
  · rw [if_neg (fun z => by omega), if_pos e]
  · rw [if_pos ⟨hk, by omega⟩, if_neg e]
theorem sv_rm_lo {i j k : Nat} (hk : ¬ (29 ≤ k ∧ k < 40)) : sv (rmL A i) k j = sv A k j := by
  rw [sv_rmL, if_neg (fun z => hk z.1)]
theorem lw_of {A' : AS} {i j : Nat} (e : ∀ k, 29 ≤ k → k < 40 → sv A' k j = sv A k i) (h : lw N A i) : lw N A' j := by
  unfold lw at h ⊢
  rw [e 29 (by omega) (by omega), e 30 (by omega) (by omega), e 31 (by omega) (by omega), e 32 (by omega) (by omega), e 33 (by omega) (by omega), e 34 (by omega) (by omega), e 35 (by omega) (by omega), e 38 (by omega) (by omega), e 39 (by omega) (by omega)]
  exact h
theorem lw_rm {i j : Nat} (h : lw N A (if j < i then j else j + 1)) : lw N (rmL A i) j := lw_of (fun k a b => sv_rm_at ⟨a, b⟩) h
theorem lt_rm {b i j : Nat} : lt' (rmL A i) b j = if i ≤ j then lt' A b (j + 1) else lt' A b j := by
  unfold lt'
  rw [sv_rm_at (by omega), sv_rm_at (by omega), sv_rm_at (by omega)]
  by_cases e : j < i
  · rw [if_pos e, if_neg (Nat.not_le.mpr e)]
  · rw [if_neg e, if_pos (Nat.not_lt.mp e)]
theorem lo_rm {b i j : Nat} : lo' (rmL A i) b j = if i ≤ j then lo' A b (j + 1) else lo' A b j := by
  unfold lo'
  rw [sv_rm_at (by omega), sv_rm_at (by omega), sv_rm_at (by omega)]
  by_cases e : j < i
  · rw [if_pos e, if_neg (Nat.not_le.mpr e)]
  · rw [if_neg e, if_pos (Nat.not_lt.mp e)]
theorem cw_of {A' : AS} {i : Nat} (h5 : sv A' 5 i = sv A 5 i) (h6 : sv A' 6 i = sv A 6 i) (h7 : sv A' 7 i = sv A 7 i) (h9 : sv A' 9 i = sv A 9 i) (h10 : sv A' 10 i = sv A 10 i) (h : cw N A i) : cw N A' i := by
  unfold cw at h ⊢
  rw [h5, h6, h7, h9, h10]
  exact h
/-- a letter is taken in hand -/
theorem LI.rm (h : LI N A eb eo) {i : Nat} (hi : i < ln A) : LI N (rmL A i) (fun b => eb b + lt' A b i) (fun b => eo b + lo' A b i) := by
  obtain ⟨hN, hl, hu, hc, ht, ho⟩ := h
  have len : ln (rmL A i) = ln A - 1 := rfl
  have sk : ∀ j, j < ln A - 1 → (if j < i then j else j + 1) < ln A := fun j hj => by split <;> omega
  refine ⟨hN, fun j hj => lw_rm (hl _ (sk j hj)), fun j j' hj hj' => ?_, fun j hj => cw_of (sv_rm_lo (by omega)) (sv_rm_lo (by omega)) (sv_rm_lo (by omega)) (sv_rm_lo (by omega)) (sv_rm_lo (by omega)) (hc j hj), fun b hb => ?_, fun b hb => ?_⟩
  · unfold uq
    rw [sv_rm_at (by omega), sv_rm_at (by omega), sv_rm_at (by omega), sv_rm_at (by omega), sv_rm_at (by omega), sv_rm_at (by omega), sv_rm_at (by omega), sv_rm_at (by omega)]
    intro a1 a2 a3 a4 a5
    have := hu _ _ (sk j hj) (sk j' hj') a1 a2 a3 a4 a5
    split at this <;> split at this <;> omega
  · have e1 : sm (fun x => nt (sv (rmL A i) 5 (2 * x + b))) (N + 1) = sm (fun x => nt (sv A 5 (2 * x + b))) (N + 1) := sm_congr _ (fun x _ => by rw [sv_rm_lo (by omega)])
    have e2 := sm_rm (g := lt' A b) (ln A) i hi
    have e3 : sm (lt' (rmL A i) b) (ln A - 1) = sm (fun j => if i ≤ j then lt' A b (j + 1) else lt' A b j) (ln A - 1) := sm_congr _ (fun j _ => lt_rm)
    rw [e1, len, e3]
    have := ht b hb
    show _ + _ + (eb b + lt' A b i) = _
    omega
  · have e1 : sm (fun x => o1 (sv (rmL A i) 6 (2 * x + b))) (N + 1) = sm (fun x => o1 (sv A 6 (2 * x + b))) (N + 1) := sm_congr _ (fun x _ => by rw [sv_rm_lo (by omega)])
    have e2 := sm_rm (g := lo' A b) (ln A) i hi
    have e3 : sm (lo' (rmL A i) b) (ln A - 1) = sm (fun j => if i ≤ j then lo' A b (j + 1) else lo' A b j) (ln A - 1) := sm_congr _ (fun j _ => lo_rm)
    rw [e1, len, e3]
    have := ho b hb
    show _ + _ + (eo b + lo' A b i) = _
    omega
theorem LI.eq {eb' eo' : Nat → Nat} (h : LI N A eb eo) (h1 : ∀ b, b < 2 → eb b = eb' b) (h2 : ∀ b, b < 2 → eo b = eo' b) : LI N A eb' eo' := by
  obtain ⟨hN, hl, hu, hc, ht, ho⟩ := h
  exact ⟨hN, hl, hu, hc, fun b hb => by rw [← h1 b hb]; exact ht b hb, fun b hb => by rw [← h2 b hb]; exact ho b hb⟩
/-- behind dpL no letter is left whose place the new one takes -/
theorem LI.dp (h : LI N A eb eo) {kd fm to bl : Int32} (hk : kd ≠ 3) : LI N (dpL A kd fm to bl) eb eo ∧ ∀ j, j < ln (dpL A kd fm to bl) → ¬ mtL (dpL A kd fm to bl) kd fm to bl j := by
  by_cases hx : ∃ j, fdL A kd fm to bl j
  · obtain ⟨i, hi⟩ := hx
    rw [dpL_at hk hi]
    have hz : ∀ b, lt' A b i = 0 ∧ lo' A b i = 0 := fun b => by
      have : ¬ (sv A 29 i = 3 ∧ sv A 32 i = nI b) := fun z => hk (hi.2.1.1.symm.trans z.1)
      unfold lt' lo'
      rw [if_neg this, if_neg this]
      exact ⟨rfl, rfl⟩
    refine ⟨(h.rm hi.1).eq (fun b _ => by rw [(hz b).1]; rfl) (fun b _ => by rw [(hz b).2]; rfl), fun j hj hm => ?_⟩
    have hj' : (if j < i then j else j + 1) < ln A := by
      have : ln (rmL A i) = ln A - 1 := rfl
      have := hi.1
      split <;> omega
    unfold mtL at hm
    rw [sv_rm_at (by omega), sv_rm_at (by omega), sv_rm_at (by omega), sv_rm_at (by omega)] at hm
    obtain ⟨m1, m2, m3, m4⟩ := hm
    obtain ⟨n1, n2, n3, n4⟩ := hi.2.1
    have := h.2.2.1 _ i hj' hi.1 (m1.trans n1.symm) (by rw [m1]; exact hk) (m2.trans n2.symm) (m3.trans n3.symm) (fun z => (m4 (m1.symm.trans z)).trans (n4 (m1.symm.trans z)).symm)
    split at this <;> omega
  · have hno : ∀ j, j < ln A → ¬ mtL A kd fm to bl j := by
      intro j hj hm
      obtain ⟨k, ⟨hk1, hk2⟩, hk3⟩ := pk_least (fun j => j < ln A ∧ mtL A kd fm to bl j) ⟨j, hj, hm⟩
      exact hx ⟨k, hk1, hk2, fun i hi q => hk3 i hi ⟨by omega, q⟩⟩
    rw [dpL_no hno]
    exact ⟨h, hno⟩
theorem sv_ap_old {G : Nat → Int32} {k j : Nat} (hj : j < ln A) : sv (apL A G) k j = sv A k j := by
  rw [sv_apL, if_neg (fun z => by omega)]
theorem sv_ap_new {G : Nat → Int32} {k : Nat} (hk : 29 ≤ k ∧ k < 40) : sv (apL A G) k (ln A) = G k := by
  rw [sv_apL, if_pos ⟨hk, rfl⟩]
theorem sv_ap_lo {G : Nat → Int32} {k j : Nat} (hk : ¬ (29 ≤ k ∧ k < 40)) : sv (apL A G) k j = sv A k j := by
  rw [sv_apL, if_neg (fun z => hk z.1)]
theorem lt_of {A' : AS} {b i j : Nat} (e : ∀ k, 29 ≤ k → k < 40 → sv A' k j = sv A k i) : lt' A' b j = lt' A b i ∧ lo' A' b j = lo' A b i := by
  unfold lt' lo'
  rw [e 29 (by omega) (by omega), e 32 (by omega) (by omega), e 33 (by omega) (by omega), e 34 (by omega) (by omega)]
  exact ⟨rfl, rfl⟩
/-- a letter behind the others -/
theorem LI.ap {G : Nat → Int32} {eb' eo' : Nat → Nat} (h : LI N A eb eo) (hw : lw N (apL A G) (ln A)) (hu : ∀ j, j < ln A → uq (apL A G) j (ln A)) (hb : ∀ b, b < 2 → eb b = lt' (apL A G) b (ln A) + eb' b) (ho : ∀ b, b < 2 → eo b = lo' (apL A G) b (ln A) + eo' b) : LI N (apL A G) eb' eo' := by
  obtain ⟨hN, hl, hu0, hc, ht, hoo⟩ := h
  have len : ln (apL A G) = ln A + 1 := rfl
  refine ⟨hN, fun j hj => ?_, fun j j' hj hj' => ?_, fun j hj => cw_of (sv_ap_lo (by omega)) (sv_ap_lo (by omega)) (sv_ap_lo (by omega)) (sv_ap_lo (by omega)) (sv_ap_lo (by omega)) (hc j hj), fun b hb' => ?_, fun b hb' => ?_⟩
  · rw [len] at hj
    by_cases e : j = ln A
    · subst e; exact hw
    · exact lw_of (fun k _ _ => sv_ap_old (by omega)) (hl j (by omega))
  · rw [len] at hj hj'
    by_cases e : j = ln A <;> by_cases e' : j' = ln A
    · exact fun _ _ _ _ _ => e.trans e'.symm
    · subst e
      intro a1 a2 a3 a4 a5
      exact (hu j' (by omega) a1.symm (by rw [← a1]; exact a2) a3.symm a4.symm (fun z => (a5 (a1.trans z)).symm)).symm
    · subst e'; exact hu j (by omega)
    · unfold uq
      rw [sv_ap_old (by omega), sv_ap_old (by omega), sv_ap_old (by omega), sv_ap_old (by omega), sv_ap_old (by omega), sv_ap_old (by omega), sv_ap_old (by omega), sv_ap_old (by omega)]
      exact hu0 j j' (by omega) (by omega)
  · have e1 : sm (fun x => nt (sv (apL A G) 5 (2 * x + b))) (N + 1) = sm (fun x => nt (sv A 5 (2 * x + b))) (N + 1) := sm_congr _ (fun x _ => by rw [sv_ap_lo (by omega)])
    have e2 : sm (lt' (apL A G) b) (ln A) = sm (lt' A b) (ln A) := sm_congr _ (fun j hj => (lt_of (fun k _ _ => sv_ap_old hj)).1)
    rw [e1, len, sm_s (g := lt' (apL A G) b), e2]
    have := ht b hb'
    have := hb b hb'
    omega
  · have e1 : sm (fun x => o1 (sv (apL A G) 6 (2 * x + b))) (N + 1) = sm (fun x => o1 (sv A 6 (2 * x + b))) (N + 1) := sm_congr _ (fun x _ => by rw [sv_ap_lo (by omega)])
    have e2 : sm (lo' (apL A G) b) (ln A) = sm (lo' A b) (ln A) := sm_congr _ (fun j hj => (lt_of (fun k _ _ => sv_ap_old hj)).2)
    rw [e1, len, sm_s (g := lo' (apL A G) b), e2]
    have := hoo b hb'
    have := ho b hb'
    omega
end Inv
