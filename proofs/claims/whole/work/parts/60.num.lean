/-! NUMBERS OF REQUESTS: what keeps the rows short; the arbiter's active request against what the home knows -/
/-- a PLEASE of c with number p waits -/
def P4 (A : AS) (c : Nat) (p : Int32) : Prop := ∃ j, j < ln A ∧ sv A 29 j = 4 ∧ sv A 31 j = nI c ∧ sv A 37 j = p
def DR (A : AS) (b : Nat) : Prop := ∀ i j, i < rn A b → j < rn A b → sv A 22 (20 * b + i) = sv A 22 (20 * b + j) → i = j
def AR (A : AS) (b : Nat) (Q : Int32 → Int32 → Prop) : Prop := ∀ i, i < rn A b → Q (sv A 22 (20 * b + i)) (sv A 23 (20 * b + i))
def RQ (N : Nat) (A : AS) (c q : Int32) : Prop := ∀ c', c' < N → c = nI c' → (sv A 27 c').toInt < q.toInt ∧ q.toInt ≤ (sv A 17 c').toInt ∧ (∀ p, P4 A c' p → q.toInt < p.toInt) ∧ (sv A 12 c' ≠ 0 → sv A 14 c' = 0 → q.toInt < (sv A 17 c').toInt)
def NI (N T : Nat) (A : AS) : Prop := (∀ c, c < N → 0 ≤ (sv A 27 c).toInt ∧ 0 ≤ (sv A 17 c).toInt ∧ (sv A 17 c).toInt ≤ (T : Int) ∧ (sv A 12 c ≠ 0 → 0 < (sv A 17 c).toInt) ∧ ∀ p, P4 A c p → 0 < p.toInt ∧ p.toInt ≤ (sv A 17 c).toInt ∧ (sv A 12 c ≠ 0 → sv A 14 c = 0 → p.toInt < (sv A 17 c).toInt)) ∧ ∀ b, b < 2 → DR A b ∧ AR A b (RQ N A)
section Num
variable {N T : Nat} {A A' : AS} {eb eo : Nat → Nat}
theorem P4.rm {i c : Nat} {p : Int32} (hi : i < ln A) (h : P4 (rmL A i) c p) : P4 A c p := by
  obtain ⟨j, hj, h1, h2, h3⟩ := h
  rw [sv_rm_at (by omega)] at h1 h2 h3
  have hj' : j < ln A - 1 := hj
  refine ⟨_, ?_, h1, h2, h3⟩
  split <;> omega
theorem P4.dp {kd fm to bl : Int32} {c : Nat} {p : Int32} (h : P4 (dpL A kd fm to bl) c p) : P4 A c p := by
  by_cases h3 : kd = 3
  · subst h3; rw [dpL_3] at h; exact h
  · by_cases hx : ∃ j, fdL A kd fm to bl j
    · obtain ⟨j, hj⟩ := hx
      rw [dpL_at h3 hj] at h
      exact h.rm hj.1
    · unfold dpL at h
      rw [if_neg h3, dif_neg hx] at h
      exact h
theorem P4.sd {kd fm to bl : Int32} {c : Nat} {p : Int32} (hk : kd ≠ 4) (h : P4 (sdL A kd fm to bl) c p) : P4 A c p := by
  obtain ⟨j, hj, h1, h2, h3⟩ := h
  rw [ln_sdL] at hj
  by_cases e : j < ln (dpL A kd fm to bl)
  · unfold sdL at h1 h2 h3
    rw [sv_ap_old e] at h1 h2 h3
    exact P4.dp ⟨j, e, h1, h2, h3⟩
  · have e2 : j = ln (dpL A kd fm to bl) := by omega
    subst e2
    unfold sdL at h1
    rw [sv_ap_new (by omega)] at h1
    exact absurd h1 hk
theorem P4.set {k i c : Nat} {v p : Int32} (hk : (k ≠ 29 ∧ k ≠ 31 ∧ k ≠ 37) ∨ (k = 37 ∧ sv A 29 i ≠ 4)) (h : P4 (set1 A k i v) c p) : P4 A c p := by
  obtain ⟨j, hj, h1, h2, h3⟩ := h
  rw [sv_set1] at h1 h2 h3
  rcases hk with ⟨a1, a2, a3⟩ | ⟨rfl, a2⟩
  · rw [if_neg (by omega)] at h1 h2 h3
    exact ⟨j, hj, h1, h2, h3⟩
  · rw [if_neg (by omega)] at h1 h2
    rw [if_neg (by rintro ⟨-, rfl⟩; exact a2 h1)] at h3
    exact ⟨j, hj, h1, h2, h3⟩
theorem sv29_sd {kd fm to bl : Int32} : sv (sdL A kd fm to bl) 29 (ln (dpL A kd fm to bl)) = kd := by
  unfold sdL
  rw [sv_ap_new (by omega)]
  rfl
theorem P4.gv {x b c : Nat} {to many ow wd p : Int32} (h : P4 (gvA A x b to many ow wd) c p) : P4 A c p := by
  unfold gvA at h
  split at h
  · exact h
  · exact ((((((((h.set (by omega)).set (by omega)).set (by omega)).set (by omega)).set (by omega)).set (by omega)).set (by omega)).sd (by decide))
theorem P4.gw {x b c : Nat} {p : Int32} (h : P4 (gwA A x b) c p) : P4 A c p := by
  unfold gwA at h
  split at h
  · exact h
  · split at h
    · exact h.gv
    · split at h
      · exact h.gv
      · exact h
theorem P4.ak {c c' : Nat} {kd bl p : Int32} (hk : kd ≠ 4) : ∀ x, P4 (akA A c kd bl x) c' p → P4 A c' p
  | 0, h => h
  | x + 1, h => by
    unfold akA at h
    split at h
    · exact P4.ak hk x h
    · exact P4.ak hk x (h.sd hk)
theorem P4.tl {b c' : Nat} {co w sr p : Int32} : ∀ c, P4 (tlA N A b co w sr c) c' p → P4 A c' p
  | 0, h => h
  | c + 1, h => by
    unfold tlA at h
    refine P4.tl c (P4.sd (by decide) (P4.set (Or.inl (by omega)) (P4.set (Or.inl (by omega)) (P4.set (Or.inr ⟨rfl, ?_⟩) h))))
    rw [sv_set1, if_neg (by omega), sv_set1, if_neg (by omega), sv29_sd]
    decide
theorem P4.ta {b c : Nat} {p : Int32} (h : P4 (taA N A b) c p) : P4 A c p := by
  unfold taA lnA at h
  exact (((h.set (by omega)).set (by omega)).set (by omega)).tl
theorem P4.en {c b c' : Nat} {p : Int32} (h : P4 (enA N A c b) c' p) : P4 A c' p := by
  have hb : ∀ p, P4 (enB A c b) c' p → P4 A c' p := by
    intro p h
    unfold enB at h
    have h2 := (h.set (by omega)).set (by omega)
    split at h2
    · exact h2.set (by omega)
    · exact (h2.set (by omega)).set (by omega)
  unfold enA at h
  split at h
  · exact hb _ h
  · refine hb _ (P4.sd (by decide) (P4.set (Or.inr ⟨rfl, ?_⟩) h))
    rw [sv29_sd]
    decide
theorem AR.imp {b : Nat} {Q Q' : Int32 → Int32 → Prop} (h : AR A b Q) (e : ∀ c q, Q c q → Q' c q) : AR A b Q' := fun i hi => e _ _ (h i hi)
theorem NI.mv (h : NI N T A) (hr : rn A' = rn A) (e : ∀ k j, k = 12 ∨ k = 14 ∨ k = 17 ∨ k = 22 ∨ k = 23 ∨ k = 27 → sv A' k j = sv A k j) (h4 : ∀ c p, P4 A' c p → P4 A c p) : NI N T A' := by
  obtain ⟨h1, h2⟩ := h
  refine ⟨fun c hc => ?_, fun b hb => ⟨?_, ?_⟩⟩
  · rw [e 27 c (by omega), e 17 c (by omega), e 12 c (by omega), e 14 c (by omega)]
    obtain ⟨a1, a2, a3, a4, a5⟩ := h1 c hc
    exact ⟨a1, a2, a3, a4, fun p hp => a5 p (h4 c p hp)⟩
  · intro i j hi hj q
    rw [hr] at hi hj
    rw [e 22 _ (by omega), e 22 _ (by omega)] at q
    exact (h2 b hb).1 i j hi hj q
  · intro i hi
    rw [hr] at hi
    rw [e 22 _ (by omega), e 23 _ (by omega)]
    intro c' hc' q
    rw [e 27 c' (by omega), e 17 c' (by omega), e 12 c' (by omega), e 14 c' (by omega)]
    obtain ⟨a1, a2, a3, a4⟩ := (h2 b hb).2 i hi c' hc' q
    exact ⟨a1, a2, fun p hp => a3 p (h4 c' p hp), a4⟩
theorem NI.gv (h : NI N T A) {x b : Nat} {to many ow wd : Int32} : NI N T (gvA A x b to many ow wd) := h.mv gv_keep.1 (fun k j hk => gv_keep.2 k j (by unfold ksf; omega)) (fun _ _ => P4.gv)
theorem NI.gw (h : NI N T A) {x b : Nat} : NI N T (gwA A x b) := h.mv gw_keep.1 (fun k j hk => gw_keep.2 k j (by unfold ksf; omega)) (fun _ _ => P4.gw)
theorem NI.ta (h : NI N T A) {b : Nat} : NI N T (taA N A b) := h.mv ta_keep.1 (fun k j hk => ta_keep.2 k j (by unfold ksf; omega)) (fun _ _ => P4.ta)
theorem NI.set (h : NI N T A) {k i : Nat} {v : Int32} (hk : k ≠ 12 ∧ k ≠ 14 ∧ k ≠ 17 ∧ k ≠ 22 ∧ k ≠ 23 ∧ k ≠ 27 ∧ k ≠ 29 ∧ k ≠ 31 ∧ k ≠ 37) : NI N T (set1 A k i v) :=
  h.mv rfl (fun k' j hk' => by rw [sv_set1, if_neg (by omega)]) (fun _ _ => P4.set (Or.inl (by omega)))
theorem rn_akA {c : Nat} {kd bl : Int32} : ∀ x, rn (akA A c kd bl x) = rn A
  | 0 => rfl
  | x + 1 => by
    unfold akA
    split
    · exact rn_akA x
    · rw [rn_sdL]; exact rn_akA x
theorem NI.ak (h : NI N T A) {c x : Nat} {kd bl : Int32} (hk : kd = 1 ∨ kd = 2) : NI N T (akA A c kd bl x) :=
  h.mv (rn_akA x) (fun k j hk => sv_akA (by omega) x) (fun _ _ => P4.ak (by rcases hk with rfl | rfl <;> decide) x)
/-- a row that lost its place i -/
theorem rw_rm {b i b' j : Nat} (hb : b < 2) (hb' : b' < 2) (h20 : ∀ b', b' < 2 → rn A b' ≤ 20) (hi : i < rn A b) (hj : j < rn (rmR A b i) b') {k : Nat} (hk : 22 ≤ k ∧ k < 25) : sv (rmR A b i) k (20 * b' + j) = sv A k (20 * b' + (if b' = b ∧ i ≤ j then j + 1 else j)) := by
  have q := h20 b hb
  have q' := h20 b' hb'
  rw [rn_rmR] at hj
  rw [sv_rmR]
  by_cases e : b' = b
  · subst e
    rw [if_pos rfl] at hj
    by_cases e2 : i ≤ j
    · rw [if_pos (by omega), if_pos ⟨rfl, e2⟩]; rfl
    · rw [if_neg (by omega), if_neg (by omega)]
  · rw [if_neg e] at hj
    rw [if_neg (by omega), if_neg (by omega)]
theorem rw_rm2 {b i b' j : Nat} (hj : j < rn (rmR A b i) b') (hi : i < rn A b) : (if b' = b ∧ i ≤ j then j + 1 else j) < rn A b' := by
  rw [rn_rmR] at hj
  by_cases e : b' = b
  · subst e
    rw [if_pos rfl] at hj
    split <;> omega
  · rw [if_neg e] at hj
    rw [if_neg (by omega)]
    exact hj
theorem AR.rm {b i b' : Nat} {Q : Int32 → Int32 → Prop} (hb : b < 2) (hb' : b' < 2) (h20 : ∀ b', b' < 2 → rn A b' ≤ 20) (hi : i < rn A b) (h : AR A b' Q) : AR (rmR A b i) b' Q := by
  intro j hj
  rw [rw_rm hb hb' h20 hi hj (by omega), rw_rm hb hb' h20 hi hj (by omega)]
  exact h _ (rw_rm2 hj hi)
theorem DR.rm {b i b' : Nat} (hb : b < 2) (hb' : b' < 2) (h20 : ∀ b', b' < 2 → rn A b' ≤ 20) (hi : i < rn A b) (h : DR A b') : DR (rmR A b i) b' := by
  intro j j' hj hj' e
  rw [rw_rm hb hb' h20 hi hj (by omega), rw_rm hb hb' h20 hi hj' (by omega)] at e
  have := h _ _ (rw_rm2 hj hi) (rw_rm2 hj' hi) e
  split at this <;> split at this <;> omega
theorem P4.rR {b i c : Nat} {p : Int32} (h : P4 (rmR A b i) c p) : P4 A c p := by
  obtain ⟨j, hj, h1, h2, h3⟩ := h
  rw [sv_rmR, if_neg (by omega)] at h1 h2 h3
  exact ⟨j, hj, h1, h2, h3⟩
theorem RQ.mv {c q : Int32} (h : RQ N A c q) (e : ∀ k j, k = 12 ∨ k = 14 ∨ k = 17 ∨ k = 27 → sv A' k j = sv A k j) (h4 : ∀ c p, P4 A' c p → P4 A c p) : RQ N A' c q := by
  intro c' hc' z
  rw [e 27 c' (by omega), e 17 c' (by omega), e 12 c' (by omega), e 14 c' (by omega)]
  obtain ⟨a1, a2, a3, a4⟩ := h c' hc' z
  exact ⟨a1, a2, fun p hp => a3 p (h4 c' p hp), a4⟩
theorem NI.rm (h : NI N T A) {b i : Nat} (hb : b < 2) (h20 : ∀ b', b' < 2 → rn A b' ≤ 20) (hi : i < rn A b) : NI N T (rmR A b i) := by
  obtain ⟨h1, h2⟩ := h
  have e : ∀ k j, k = 12 ∨ k = 14 ∨ k = 17 ∨ k = 27 → sv (rmR A b i) k j = sv A k j := fun k j hk => by rw [sv_rmR, if_neg (by omega)]
  refine ⟨fun c hc => ?_, fun b' hb' => ⟨(h2 b' hb').1.rm hb hb' h20 hi, ((h2 b' hb').2.rm hb hb' h20 hi).imp (fun c q z => z.mv e (fun _ _ => P4.rR))⟩⟩
  rw [e 27 c (by omega), e 17 c (by omega), e 12 c (by omega), e 14 c (by omega)]
  obtain ⟨a1, a2, a3, a4, a5⟩ := h1 c hc
  exact ⟨a1, a2, a3, a4, fun p hp => a5 p hp.rR⟩
theorem IV.r20 (h : IV N A eb eo) : ∀ b, b < 2 → rn A b ≤ 20 := fun b hb => by have := (h.2.2.1 b hb).1; omega
/-! striking out -/
theorem sk_keep {b : Nat} {c n : Int32} (hb : b < 2) : ∀ (i : Nat) (A : AS), i ≤ rn A b → (∀ b', b' < 2 → rn A b' ≤ 20) →
    (∀ b' Q, b' < 2 → AR A b' Q → AR (skA b c n i A) b' Q) ∧ (∀ b', b' < 2 → DR A b' → DR (skA b c n i A) b') ∧ (∀ b', b' < 2 → rn (skA b c n i A) b' ≤ rn A b') ∧ ln (skA b c n i A) = ln A ∧ ∀ k j, ¬ (22 ≤ k ∧ k < 25) → sv (skA b c n i A) k j = sv A k j
  | 0, A, _, _ => ⟨fun _ _ _ h => h, fun _ _ h => h, fun _ _ => Nat.le_refl _, rfl, fun _ _ _ => rfl⟩
  | i + 1, A, hi, h20 => by
    unfold skA
    split
    · have hle : ∀ b', b' < 2 → rn (rmR A b i) b' ≤ rn A b' := fun b' hb' => by rw [rn_rmR]; split <;> simp_all
      obtain ⟨a1, a2, a3, a4, a5⟩ := sk_keep hb i (rmR A b i) (by rw [rn_rmR, if_pos rfl]; omega) (fun b' hb' => Nat.le_trans (hle b' hb') (h20 b' hb'))
      refine ⟨fun b' Q hb' h => a1 b' Q hb' (h.rm hb hb' h20 (by omega)), fun b' hb' h => a2 b' hb' (h.rm hb hb' h20 (by omega)), fun b' hb' => Nat.le_trans (a3 b' hb') (hle b' hb'), a4, fun k j hk => (a5 k j hk).trans (by rw [sv_rmR, if_neg (fun z => hk z.1)])⟩
    · exact sk_keep hb i A (by omega) h20
theorem sk_row {b : Nat} {c n : Int32} (hb : b < 2) : ∀ (i : Nat) (A : AS), i ≤ rn A b → (∀ b', b' < 2 → rn A b' ≤ 20) → (∀ j, i ≤ j → j < rn A b → ¬ (sv A 22 (20 * b + j) = c ∧ sv A 23 (20 * b + j) ≤ n)) → AR (skA b c n i A) b (fun c' q => ¬ (c' = c ∧ q ≤ n))
  | 0, A, _, _, h => fun j hj => h j (Nat.zero_le _) hj
  | i + 1, A, hi, h20, h => by
    unfold skA
    split
    · rename_i hm
      have hle : ∀ b', b' < 2 → rn (rmR A b i) b' ≤ rn A b' := fun b' hb' => by rw [rn_rmR]; split <;> simp_all
      refine sk_row hb i (rmR A b i) (by rw [rn_rmR, if_pos rfl]; omega) (fun b' hb' => Nat.le_trans (hle b' hb') (h20 b' hb')) (fun j hj1 hj2 => ?_)
      rw [rw_rm hb hb h20 (by omega) hj2 (by omega), rw_rm hb hb h20 (by omega) hj2 (by omega), if_pos ⟨rfl, hj1⟩]
      rw [rn_rmR, if_pos rfl] at hj2
      exact h (j + 1) (by omega) (by omega)
    · rename_i hm
      refine sk_row hb i A (by omega) h20 (fun j hj1 hj2 => ?_)
      by_cases e : j = i
      · subst e; exact hm
      · exact h j (by omega) hj2
theorem lpR_keep {c : Nat} {n : Int32} (h20 : ∀ b', b' < 2 → rn A b' ≤ 20) : (∀ b' Q, b' < 2 → AR A b' Q → AR (lpR A c n) b' Q) ∧ (∀ b', b' < 2 → DR A b' → DR (lpR A c n) b') ∧ (∀ b', b' < 2 → AR (lpR A c n) b' (fun c' q => ¬ (c' = nI c ∧ q ≤ n))) ∧ (∀ b', b' < 2 → rn (lpR A c n) b' ≤ rn A b') ∧ ln (lpR A c n) = ln A ∧ ∀ k j, ¬ (22 ≤ k ∧ k < 25) → sv (lpR A c n) k j = sv (set1 A 27 c n) k j := by
  unfold lpR
  obtain ⟨a1, a2, a3, a4, a5⟩ := sk_keep (c := nI c) (n := n) (b := 0) (by omega) (rn A 0) (set1 A 27 c n) (Nat.le_refl _) h20
  have h20' : ∀ b', b' < 2 → rn (skA 0 (nI c) n (rn A 0) (set1 A 27 c n)) b' ≤ 20 := fun b' hb' => Nat.le_trans (a3 b' hb') (h20 b' hb')
  have r0 := sk_row (c := nI c) (n := n) (b := 0) (by omega) (rn A 0) (set1 A 27 c n) (Nat.le_refl _) h20 (fun j h1 h2 => absurd h2 (by rw [rn_set1]; omega))
  have r1 := sk_row (c := nI c) (n := n) (b := 1) (by omega) _ (skA 0 (nI c) n (rn A 0) (set1 A 27 c n)) (Nat.le_refl _) h20' (fun j h1 h2 => absurd h2 (by omega))
  generalize hB : skA 0 (nI c) n (rn A 0) (set1 A 27 c n) = B at *
  obtain ⟨b1, b2, b3, b4, b5⟩ := sk_keep (c := nI c) (n := n) (b := 1) (by omega) (rn B 1) B (Nat.le_refl _) h20'
  have s0 : ∀ b' Q, AR A b' Q → AR (set1 A 27 c n) b' Q := fun b' Q h i hi => by
    rw [sv_set1, if_neg (by omega), sv_set1, if_neg (by omega)]; exact h i hi
  have t0 : ∀ b', DR A b' → DR (set1 A 27 c n) b' := fun b' h i j hi hj e => by
    rw [sv_set1, if_neg (by omega), sv_set1, if_neg (by omega)] at e; exact h i j hi hj e
  refine ⟨fun b' Q hb' h => b1 b' Q hb' (a1 b' Q hb' (s0 b' Q h)), fun b' hb' h => b2 b' hb' (a2 b' hb' (t0 b' h)), fun b' hb' => ?_, fun b' hb' => Nat.le_trans (b3 b' hb') (a3 b' hb'), b4.trans a4, fun k j hk => (b5 k j hk).trans (a5 k j hk)⟩
  by_cases e : b' = 0
  · subst e; exact b1 0 _ (by omega) r0
  · have : b' = 1 := by omega
    subst this
    exact r1
theorem NI.lpR (h : NI N T A) {c : Nat} {n : Int32} (h20 : ∀ b', b' < 2 → rn A b' ≤ 20) (hc : c < N) (hn : sv A 27 c < n) : NI N T (lpR A c n) := by
  obtain ⟨k1, k2, k3, k4, k5, k6⟩ := lpR_keep (c := c) (n := n) h20
  have p4 : ∀ c' p, P4 (Jvm.Pilot.@@N@@.lpR A c n) c' p → P4 A c' p := by
    rintro c' p ⟨j, hj, h1, h2, h3⟩
    rw [k6 _ _ (by omega), sv_set1, if_neg (by omega)] at h1 h2 h3
    exact ⟨j, by rw [k5] at hj; exact hj, h1, h2, h3⟩
  have e : ∀ k j, k = 12 ∨ k = 14 ∨ k = 17 → sv (Jvm.Pilot.@@N@@.lpR A c n) k j = sv A k j := fun k j hk => by rw [k6 _ _ (by omega), sv_set1, if_neg (by omega)]
  have e27 : ∀ c', sv (Jvm.Pilot.@@N@@.lpR A c n) 27 c' = if c' = c then n else sv A 27 c' := fun c' => by
    rw [k6 _ _ (by omega), sv_set1]
    by_cases z : c' = c
    · rw [if_pos ⟨rfl, z⟩, if_pos z]
    · rw [if_neg (fun q => z q.2), if_neg z]
  have hn' : (sv A 27 c).toInt < n.toInt := Int32.lt_iff_toInt_lt.mp hn
  obtain ⟨h1, h2⟩ := h
  refine ⟨fun c' hc' => ?_, fun b hb => ⟨k2 b hb (h2 b hb).1, fun i hi => ?_⟩⟩
  · obtain ⟨a1, a2, a3, a4, a5⟩ := h1 c' hc'
    rw [e27, e 17 c' (by omega), e 12 c' (by omega), e 14 c' (by omega)]
    refine ⟨?_, a2, a3, a4, fun p hp => a5 p (p4 c' p hp)⟩
    by_cases z : c' = c
    · subst z; rw [if_pos rfl]; omega
    · rw [if_neg z]; exact a1
  · have q1 := k1 b _ hb (h2 b hb).2 i hi
    have q2 := k3 b hb i hi
    intro c' hc' z
    obtain ⟨a1, a2, a3, a4⟩ := q1 c' hc' z
    rw [e27, e 17 c' (by omega), e 12 c' (by omega), e 14 c' (by omega)]
    refine ⟨?_, a2, fun p hp => a3 p (p4 c' p hp), a4⟩
    by_cases y : c' = c
    · subst y
      rw [if_pos rfl]
      have : ¬ sv (Jvm.Pilot.@@N@@.lpR A c' n) 23 (20 * b + i) ≤ n := fun y => q2 ⟨z, y⟩
      exact Int32.lt_iff_toInt_lt.mp (Int32.not_le.mp this)
    · rw [if_neg y]; exact a1
theorem NI.af (h : NI N T A) {b : Nat} (hb : b < 2) (h20 : ∀ b', b' < 2 → rn A b' ≤ 20) : NI N T (afA N A b) := by
  unfold afA
  split
  · exact h
  · exact ((((((h.rm hb h20 (i := 0) (by omega)).set (by omega)).set (by omega)).set (by omega)).set (by omega)).ta).gw
theorem NI.lpS (h : NI N T A) {b c : Nat} {n : Int32} (hb : b < 2) (h20 : ∀ b', b' < 2 → rn A b' ≤ 20) : NI N T (lpS N A b c n) := by
  unfold Jvm.Pilot.@@N@@.lpS
  split
  · exact ((h.set (by omega)).ta).af hb (fun b' hb' => by rw [ta_keep.1]; exact h20 b' hb')
  · exact h
theorem NI.lp (h : NI N T A) (hI : IV N A eb eo) {c : Nat} {n : Int32} (hc : c < N) : NI N T (lpA N A c n) := by
  unfold lpA
  split
  · rename_i hn
    have h1 := h.lpR hI.r20 hc hn
    exact (h1.lpS (by omega) hI.lpR.r20).lpS (by omega) (hI.lpR.lpS (by omega)).r20
  · exact h
/-! what making active and lapsing leave alone -/
theorem af_keep {b : Nat} (hb : b < 2) (h20 : ∀ b', b' < 2 → rn A b' ≤ 20) : (∀ b' Q, b' < 2 → AR A b' Q → AR (afA N A b) b' Q) ∧ ∀ k j, (12 ≤ k ∧ k < 22) ∨ k = 27 → sv (afA N A b) k j = sv A k j := by
  unfold afA
  split
  · exact ⟨fun _ _ _ h => h, fun _ _ _ => rfl⟩
  · refine ⟨fun b' Q hb' h => ?_, fun k j hk => ?_⟩
    · have h1 := h.rm hb hb' h20 (i := 0) (by omega)
      intro i hi
      rw [gw_keep.1, ta_keep.1] at hi
      rw [gw_keep.2 22 _ (by unfold ksf; omega), gw_keep.2 23 _ (by unfold ksf; omega), ta_keep.2 22 _ (by unfold ksf; omega), ta_keep.2 23 _ (by unfold ksf; omega), sv_set1, if_neg (by omega), sv_set1, if_neg (by omega), sv_set1, if_neg (by omega), sv_set1, if_neg (by omega), sv_set1, if_neg (by omega), sv_set1, if_neg (by omega), sv_set1, if_neg (by omega), sv_set1, if_neg (by omega)]
      exact h1 i hi
    · rw [gw_keep.2 k _ (by unfold ksf; omega), ta_keep.2 k _ (by unfold ksf; omega), sv_set1, if_neg (by omega), sv_set1, if_neg (by omega), sv_set1, if_neg (by omega), sv_set1, if_neg (by omega), sv_rmR, if_neg (by omega)]
theorem lpS_keep {b c : Nat} {n : Int32} (hb : b < 2) (h20 : ∀ b', b' < 2 → rn A b' ≤ 20) : (∀ b' Q, b' < 2 → AR A b' Q → AR (lpS N A b c n) b' Q) ∧ ∀ k j, (12 ≤ k ∧ k < 22) ∨ k = 27 → sv (lpS N A b c n) k j = sv A k j := by
  unfold lpS
  split
  · obtain ⟨a1, a2⟩ := af_keep (A := taA N (set1 A 40 b (-1)) b) (N := N) hb (fun b' hb' => by rw [ta_keep.1]; exact h20 b' hb')
    refine ⟨fun b' Q hb' h => a1 b' Q hb' (fun i hi => ?_), fun k j hk => (a2 k j hk).trans ?_⟩
    · rw [ta_keep.1] at hi
      rw [ta_keep.2 22 _ (by unfold ksf; omega), ta_keep.2 23 _ (by unfold ksf; omega), sv_set1, if_neg (by omega), sv_set1, if_neg (by omega)]
      exact h i hi
    · rw [ta_keep.2 k _ (by unfold ksf; omega), sv_set1, if_neg (by omega)]
  · exact ⟨fun _ _ _ h => h, fun _ _ _ => rfl⟩
theorem lp_keep {c : Nat} {n : Int32} (hI : IV N A eb eo) : (∀ b' Q, b' < 2 → AR A b' Q → AR (lpA N A c n) b' Q) ∧ (∀ k j, 12 ≤ k ∧ k < 22 → sv (lpA N A c n) k j = sv A k j) ∧ sv (lpA N A c n) 27 c = if sv A 27 c < n then n else sv A 27 c := by
  unfold lpA
  split
  · obtain ⟨k1, k2, k3, k4, k5, k6⟩ := lpR_keep (c := c) (n := n) hI.r20
    obtain ⟨a1, a2⟩ := lpS_keep (N := N) (A := lpR A c n) (c := c) (n := n) (b := 0) (by omega) hI.lpR.r20
    obtain ⟨b1, b2⟩ := lpS_keep (N := N) (A := lpS N (lpR A c n) 0 c n) (c := c) (n := n) (b := 1) (by omega) (hI.lpR.lpS (by omega)).r20
    refine ⟨fun b' Q hb' h => b1 b' Q hb' (a1 b' Q hb' (k1 b' Q hb' h)), fun k j hk => ?_, ?_⟩
    · rw [b2 k j (by omega), a2 k j (by omega), k6 k j (by omega), sv_set1, if_neg (by omega)]
    · rw [b2 27 c (by omega), a2 27 c (by omega), k6 27 c (by omega), sv_set1, if_pos ⟨rfl, rfl⟩]
  · exact ⟨fun _ _ _ h => h, fun _ _ _ => rfl, rfl⟩
theorem P4.af {b c : Nat} {p : Int32} (h : P4 (afA N A b) c p) : P4 A c p := by
  unfold afA at h
  split at h
  · exact h
  · exact (((((h.gw.ta).set (by omega)).set (by omega)).set (by omega)).set (by omega)).rR
theorem P4.lpS {b c' c : Nat} {n p : Int32} (h : P4 (lpS N A b c' n) c p) : P4 A c p := by
  unfold Jvm.Pilot.@@N@@.lpS at h
  split at h
  · exact (h.af.ta).set (by omega)
  · exact h
theorem P4.lp {c' c : Nat} {n p : Int32} (hI : IV N A eb eo) (h : P4 (lpA N A c' n) c p) : P4 A c p := by
  unfold lpA at h
  split at h
  · obtain ⟨k1, k2, k3, k4, k5, k6⟩ := lpR_keep (c := c') (n := n) hI.r20
    obtain ⟨j, hj, h1, h2, h3⟩ := h.lpS.lpS
    rw [k6 _ _ (by omega), sv_set1, if_neg (by omega)] at h1 h2 h3
    exact ⟨j, by rw [k5] at hj; exact hj, h1, h2, h3⟩
  · exact h
end Num
