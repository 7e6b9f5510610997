/-! WHAT HOLDS BETWEEN CALLS -/
def CP1 (N : Nat) (A : AS) (b : Nat) : Prop := sv A 40 b = sv A 9 (2 * N + b) ∧ (sv A 40 b ≠ -1 → sv A 41 b = sv A 10 (2 * N + b)) ∧ sv A 42 b = sv A 11 (2 * N + b)
def CP (N : Nat) (A : AS) : Prop := ∀ b, b < 2 → CP1 N A b
def RS (N T : Nat) (A : AS) : Prop := RI N A ∧ NI N T A ∧ CP N A
def z0 : Nat → Nat := fun _ => 0
def QI (N T : Nat) (A : AS) : Prop := LI N A z0 z0 ∧ RS N T A
noncomputable def dlX (N : Nat) (A : AS) (i x s b : Nat) : AS := if sv A 29 i = 1 then rdA (rmL A i) x b (nI s) else if sv A 29 i = 2 then wrA (rmL A i) x b (nI s) else if sv A 29 i = 3 then tkA N (rmL A i) x b (sv A 33 i) (sv A 34 i) (sv A 35 i) (sv A 36 i) else if sv A 29 i = 4 then plA N (rmL A i) s b (sv A 37 i) (sv A 39 i) else if sv A 29 i = 5 then knA (rmL A i) x b (sv A 37 i) (sv A 38 i) (sv A 39 i) else lpA N (rmL A i) s (sv A 37 i)
noncomputable def dlA (N : Nat) (A : AS) (i : Nat) : AS := dlX N A i (nt (sv A 30 i)) (nt (sv A 31 i)) (nt (sv A 32 i))
section Rest
variable {N T : Nat} {A A' : AS} {eb eo : Nat → Nat}
theorem QI.iv (h : QI N T A) : IV N A z0 z0 := ⟨h.1, h.2.1⟩
theorem CP1.mv {b : Nat} (h : CP1 N A b) (e : ∀ k, 9 ≤ k ∧ k < 12 → sv A' k (2 * N + b) = sv A k (2 * N + b)) (e' : ∀ k, 40 ≤ k ∧ k < 43 → sv A' k b = sv A k b) : CP1 N A' b := by
  unfold CP1
  rw [e 9 (by omega), e 10 (by omega), e 11 (by omega), e' 40 (by omega), e' 41 (by omega), e' 42 (by omega)]
  exact h
theorem CP.mv (h : CP N A) (e : ∀ k j, (9 ≤ k ∧ k < 12) ∨ (40 ≤ k ∧ k < 43) → sv A' k j = sv A k j) : CP N A' := fun b hb => (h b hb).mv (fun k hk => e k _ (Or.inl hk)) (fun k hk => e k _ (Or.inr hk))
theorem gv_k2 {x b : Nat} {to many ow wd : Int32} {k j : Nat} (h1 : ¬ (5 ≤ k ∧ k < 8)) (h2 : ¬ (29 ≤ k ∧ k < 40)) : sv (gvA A x b to many ow wd) k j = sv A k j := by
  unfold gvA
  split
  · rfl
  · rw [sv_set1, if_neg (by omega), sv_set1, if_neg (by omega), sv_set1, if_neg (by omega), sv_set1, if_neg (by omega), sv_set1, if_neg (by omega), sv_set1, if_neg (by omega), sv_set1, if_neg (by omega), sv_sdL h2]
theorem gw_k2 {x b k j : Nat} (h1 : ¬ (5 ≤ k ∧ k < 8)) (h2 : ¬ (29 ≤ k ∧ k < 40)) : sv (gwA A x b) k j = sv A k j := by
  unfold gwA
  split
  · rfl
  · split
    · exact gv_k2 h1 h2
    · split
      · exact gv_k2 h1 h2
      · rfl
theorem RI.gv (h : RI N A) {x b : Nat} {to many ow wd : Int32} : RI N (gvA A x b to many ow wd) := h.keep gv_keep.1 (fun k j hk => gv_keep.2 k j (by unfold ksf; omega))
theorem RS.gv (h : RS N T A) {x b : Nat} {to many ow wd : Int32} : RS N T (gvA A x b to many ow wd) := ⟨h.1.gv, h.2.1.gv, h.2.2.mv (fun k j hk => gv_k2 (by omega) (by omega))⟩
theorem RS.gw (h : RS N T A) {x b : Nat} : RS N T (gwA A x b) := ⟨h.1.keep gw_keep.1 (fun k j hk => gw_keep.2 k j (by unfold ksf; omega)), h.2.1.gw, h.2.2.mv (fun k j hk => gw_k2 (by omega) (by omega))⟩
theorem RS.rd (h : RS N T A) {x b : Nat} {c : Int32} : RS N T (rdA A x b c) := by
  unfold rdA
  split
  · exact h.gv
  · exact h
theorem RS.wr (h : RS N T A) {x b : Nat} {c : Int32} : RS N T (wrA A x b c) := by
  unfold wrA
  split
  · exact h.gv
  · exact h
theorem RS.rmL (h : RS N T A) {i : Nat} (hi : i < ln A) : RS N T (rmL A i) :=
  ⟨h.1.keep rfl (fun k j hk => sv_rm_lo (by omega)), h.2.1.mv rfl (fun k j hk => sv_rm_lo (by omega)) (fun _ _ => P4.rm hi), h.2.2.mv (fun k j hk => sv_rm_lo (by omega))⟩
theorem RI.keep2 (h : RI N A) (hr : rn A' = rn A) (e : ∀ k j, k = 13 ∨ k = 15 ∨ k = 22 ∨ k = 24 ∨ k = 40 ∨ k = 41 → sv A' k j = sv A k j) (e12 : ∀ c, c < N → bz (sv A' 12 c)) (e14 : ∀ c, c < N → bz (sv A' 14 c)) : RI N A' := by
  obtain ⟨h1, h2, h3⟩ := h
  refine ⟨fun c hc => ?_, fun b hb => ?_, fun b hb => ?_⟩
  · rw [e 15 c (by omega), e 13 c (by omega)]; exact ⟨(h1 c hc).1, e12 c hc, (h1 c hc).2.2.1, e14 c hc⟩
  · rw [hr]
    refine ⟨(h2 b hb).1, fun i hi => ?_⟩
    rw [e 22 _ (by omega), e 24 _ (by omega)]
    exact (h2 b hb).2 i hi
  · rw [e 40 b (by omega), e 41 b (by omega)]; exact h3 b hb
theorem NI.mv3 (h : NI N T A) (hr : rn A' = rn A) (e : ∀ k j, k = 14 ∨ k = 17 ∨ k = 22 ∨ k = 23 ∨ k = 27 → sv A' k j = sv A k j) (e12 : ∀ j, sv A' 12 j ≠ 0 → sv A 12 j ≠ 0) (h4 : ∀ c p, P4 A' c p → P4 A c p) : NI N T A' := by
  obtain ⟨h1, h2⟩ := h
  refine ⟨fun c hc => ?_, fun b hb => ⟨?_, ?_⟩⟩
  · rw [e 27 c (by omega), e 17 c (by omega), e 14 c (by omega)]
    obtain ⟨a1, a2, a3, a4, a5⟩ := h1 c hc
    exact ⟨a1, a2, a3, fun z => a4 (e12 c z), fun p hp => ⟨(a5 p (h4 c p hp)).1, (a5 p (h4 c p hp)).2.1, fun z => (a5 p (h4 c p hp)).2.2 (e12 c z)⟩⟩
  · intro i j hi hj q
    rw [hr] at hi hj
    rw [e 22 _ (by omega), e 22 _ (by omega)] at q
    exact (h2 b hb).1 i j hi hj q
  · intro i hi
    rw [hr] at hi
    rw [e 22 _ (by omega), e 23 _ (by omega)]
    intro c' hc' q
    rw [e 27 c' (by omega), e 17 c' (by omega), e 14 c' (by omega)]
    obtain ⟨a1, a2, a3, a4⟩ := (h2 b hb).2 i hi c' hc' q
    exact ⟨a1, a2, fun p hp => a3 p (h4 c' p hp), fun z => a4 (e12 c' z)⟩
theorem sv_enB {c b k j : Nat} (hk : k ≠ 8 ∧ k ≠ 12 ∧ k ≠ 20 ∧ k ≠ 21) : sv (enB A c b) k j = sv A k j := by
  unfold enB
  rw [sv_set1, if_neg (by omega), sv_set1, if_neg (by omega)]
  split
  · rw [sv_set1, if_neg (by omega)]
  · rw [sv_set1, if_neg (by omega), sv_set1, if_neg (by omega)]
theorem sv_enB12 {c b j : Nat} : sv (enB A c b) 12 j = if j = c then 0 else sv A 12 j := by
  unfold enB
  rw [sv_set1, if_neg (by omega), sv_set1]
  by_cases e : j = c
  · rw [if_pos ⟨rfl, e⟩, if_pos e]
  · rw [if_neg (fun z => e z.2), if_neg e]
    split
    · rw [sv_set1, if_neg (by omega)]
    · rw [sv_set1, if_neg (by omega), sv_set1, if_neg (by omega)]
theorem sv_enA {c b k j : Nat} (hk : k ≠ 8 ∧ k ≠ 12 ∧ k ≠ 20 ∧ k ≠ 21) (h2 : ¬ (29 ≤ k ∧ k < 40)) : sv (enA N A c b) k j = sv A k j := by
  unfold enA
  split
  · exact sv_enB hk
  · rw [sv_set1, if_neg (by omega), sv_sdL h2]; exact sv_enB hk
theorem sv_enA12 {c b j : Nat} : sv (enA N A c b) 12 j = if j = c then 0 else sv A 12 j := by
  unfold enA
  split
  · exact sv_enB12
  · rw [sv_set1, if_neg (by omega), sv_sdL (by omega)]; exact sv_enB12
theorem rn_enB {c b : Nat} : rn (enB A c b) = rn A := by
  unfold enB
  rw [rn_set1, rn_set1]
  split <;> rfl
theorem rn_enA {c b : Nat} : rn (enA N A c b) = rn A := by
  unfold enA
  split
  · exact rn_enB
  · rw [rn_set1, rn_sdL]; exact rn_enB
theorem RS.en (h : RS N T A) {c b : Nat} : RS N T (enA N A c b) := by
  refine ⟨h.1.keep2 rn_enA (fun k j hk => sv_enA (by omega) (by omega)) (fun c' hc' => ?_) (fun c' hc' => ?_), h.2.1.mv3 rn_enA (fun k j hk => sv_enA (by omega) (by omega)) (fun j hj => ?_) (fun _ _ => P4.en), h.2.2.mv (fun k j hk => sv_enA (by omega) (by omega))⟩
  · rw [sv_enA12]
    split
    · exact Or.inl rfl
    · exact (h.1.1 c' hc').2.1
  · rw [sv_enA (by omega) (by omega)]; exact (h.1.1 c' hc').2.2.2
  · rw [sv_enA12] at hj
    by_cases e : j = c
    · rw [if_pos e] at hj; exact absurd rfl hj
    · rw [if_neg e] at hj; exact hj
theorem sv_gtA {i k j : Nat} {ct ow wd dt : Int32} (hk : ¬ (5 ≤ k ∧ k < 9)) : sv (gtA A i ct ow wd dt) k j = sv A k j := by
  unfold gtA
  split
  · rw [sv_set1, if_neg (by omega), sv_set1, if_neg (by omega)]
  · rw [sv_set1, if_neg (by omega), sv_set1, if_neg (by omega), sv_set1, if_neg (by omega), sv_set1, if_neg (by omega)]
theorem rn_gtA {i : Nat} {ct ow wd dt : Int32} : rn (gtA A i ct ow wd dt) = rn A := by
  unfold gtA
  split <;> rfl
theorem ln_gtA {i : Nat} {ct ow wd dt : Int32} : ln (gtA A i ct ow wd dt) = ln A := by
  unfold gtA
  split <;> rfl
theorem P4.gt {i c : Nat} {ct ow wd dt p : Int32} (h : P4 (gtA A i ct ow wd dt) c p) : P4 A c p := by
  obtain ⟨j, hj, h1, h2, h3⟩ := h
  rw [sv_gtA (by omega)] at h1 h2 h3
  rw [ln_gtA] at hj
  exact ⟨j, hj, h1, h2, h3⟩
theorem RS.gt (h : RS N T A) {i : Nat} {ct ow wd dt : Int32} : RS N T (gtA A i ct ow wd dt) :=
  ⟨h.1.keep rn_gtA (fun k j hk => sv_gtA (by omega)), h.2.1.mv rn_gtA (fun k j hk => sv_gtA (by omega)) (fun _ _ => P4.gt), h.2.2.mv (fun k j hk => sv_gtA (by omega))⟩
theorem RS.tk (h : RS N T A) {x b : Nat} {ct ow wd dt : Int32} : RS N T (tkA N A x b ct ow wd dt) := by
  unfold tkA
  split
  · exact h.gt.gw.en
  · exact h.gt.gw
theorem RS.kn (h : RS N T A) {x b : Nat} {n co w : Int32} (hx : x < N) (hb : b < 2) : RS N T (knA A x b n co w) := by
  unfold knA
  split
  · have e : ∀ k j, ¬ (9 ≤ k ∧ k < 12) → sv (lnA A (2 * x + b) co w n) k j = sv A k j := fun k j hk => by unfold lnA; rw [sv_set1, if_neg (by omega), sv_set1, if_neg (by omega), sv_set1, if_neg (by omega)]
    have hni : NI N T (lnA A (2 * x + b) co w n) := by unfold lnA; exact ((h.2.1.set (by omega)).set (by omega)).set (by omega)
    have hri : RI N (lnA A (2 * x + b) co w n) := h.1.keep (A' := lnA A (2 * x + b) co w n) rfl (fun k j hk => e k j (by omega))
    have hcp : CP N (lnA A (2 * x + b) co w n) := fun b' hb' => (h.2.2 b' hb').mv (fun k hk => by unfold lnA; rw [sv_set1, if_neg (by omega), sv_set1, if_neg (by omega), sv_set1, if_neg (by omega)]) (fun k hk => e k _ (by omega))
    have hrs : RS N T (lnA A (2 * x + b) co w n) := ⟨hri, hni, hcp⟩
    exact hrs.gw
  · exact h
/-! the arbiter -/
theorem sv_taA {b k j : Nat} (hk : ¬ (29 ≤ k ∧ k < 40)) : sv (taA N A b) k j = if k = 11 ∧ j = 2 * N + b then sv A 42 b else if k = 10 ∧ j = 2 * N + b then acw A b else if k = 9 ∧ j = 2 * N + b then sv A 40 b else sv A k j := by
  unfold taA lnA
  rw [sv_set1, sv_set1, sv_set1, sv_tlA hk]
theorem CP.ta {b : Nat} (h : ∀ b', b' < 2 → b' ≠ b → CP1 N A b') (h1 : sv A 40 b ≠ -1 → bz (sv A 41 b)) : CP N (taA N A b) := by
  intro b' hb'
  by_cases e : b' = b
  · subst e
    unfold CP1
    simp only [sv_taA (show ¬ (29 ≤ 40 ∧ 40 < 40) by omega), sv_taA (show ¬ (29 ≤ 9 ∧ 9 < 40) by omega), sv_taA (show ¬ (29 ≤ 10 ∧ 10 < 40) by omega), sv_taA (show ¬ (29 ≤ 11 ∧ 11 < 40) by omega), sv_taA (show ¬ (29 ≤ 41 ∧ 41 < 40) by omega), sv_taA (show ¬ (29 ≤ 42 ∧ 42 < 40) by omega)]
    refine ⟨?_, fun z => ?_, ?_⟩
    · simp
    · simp at z
      simp
      unfold acw
      rw [if_neg z]
      rcases h1 z with q | q
      · rw [q, if_pos rfl]
      · rw [q, if_neg (by decide)]
    · simp
  · refine (h b' hb' e).mv (fun k hk => ?_) (fun k hk => ?_)
    · rw [sv_taA (by omega), if_neg (by omega), if_neg (by omega), if_neg (by omega)]
    · rw [sv_taA (by omega), if_neg (by omega), if_neg (by omega), if_neg (by omega)]
theorem CP.af (h : CP N A) (hI : IV N A eb eo) {b : Nat} (hb : b < 2) : CP N (afA N A b) := by
  unfold afA
  split
  · exact h
  · rename_i hr
    have h1 := hI.af1 hb hr
    refine CP.mv (A := taA N (af1 A b) b) (CP.ta (fun b' hb' hne => (h b' hb').mv (fun k hk => ?_) (fun k hk => ?_)) (fun z => ?_)) (fun k j hk => gw_k2 (by omega) (by omega))
    · unfold af1
      rw [sv_set1, if_neg (by omega), sv_set1, if_neg (by omega), sv_set1, if_neg (by omega), sv_set1, if_neg (by omega), sv_rmR, if_neg (by omega)]
    · unfold af1
      rw [sv_set1, if_neg (by omega), sv_set1, if_neg (by omega), sv_set1, if_neg (by omega), sv_set1, if_neg (by omega), sv_rmR, if_neg (by omega)]
    · rcases h1.2.2.2 b hb with q | q
      · exact absurd q z
      · exact q.2
theorem CP.lpS (h : CP N A) (hI : IV N A eb eo) {b c : Nat} {n : Int32} (hb : b < 2) : CP N (lpS N A b c n) := by
  unfold Jvm.Pilot.@@N@@.lpS
  split
  · refine CP.af (CP.ta (fun b' hb' hne => (h b' hb').mv (fun k hk => by rw [sv_set1, if_neg (by omega)]) (fun k hk => by rw [sv_set1, if_neg (by omega)])) (fun z => absurd ?_ z)) (hI.off.ta hb) hb
    rw [sv_set1, if_pos ⟨rfl, rfl⟩]
  · exact h
theorem CP.lp (h : CP N A) (hI : IV N A eb eo) {c : Nat} {n : Int32} : CP N (lpA N A c n) := by
  unfold lpA
  split
  · obtain ⟨k1, k2, k3, k4, k5, k6⟩ := lpR_keep (c := c) (n := n) hI.r20
    have h1 : CP N (lpR A c n) := h.mv (fun k j hk => by rw [k6 _ _ (by omega), sv_set1, if_neg (by omega)])
    exact (h1.lpS hI.lpR (by omega)).lpS (hI.lpR.lpS (by omega)) (by omega)
  · exact h
/-- the row of a block whose requests are none of c's -/
theorem row_few (hI : IV N A eb eo) {b c : Nat} (hb : b < 2) (hc : c < N) (h : DR A b) (h2 : AR A b (fun c' _ => c' ≠ nI c)) : rn A b ≤ 3 := by
  have hN := hI.1.1
  have hr := (hI.2.2.1 b hb).2
  have := pigeon N (rn A b + 1) (fun i => if i < rn A b then nt (sv A 22 (20 * b + i)) else c) (fun i hi => by
    by_cases e : i < rn A b
    · simp only [if_pos e]
      obtain ⟨⟨c', hc', q⟩, -⟩ := hr i e
      rw [q, nt_nI (by omega)]; exact hc'
    · simp only [if_neg e]; exact hc) (fun i j hi hj e => by
    by_cases e1 : i < rn A b <;> by_cases e2 : j < rn A b
    · simp only [if_pos e1, if_pos e2] at e
      obtain ⟨⟨c', hc', q⟩, -⟩ := hr i e1
      obtain ⟨⟨c'', hc'', q'⟩, -⟩ := hr j e2
      rw [q, q', nt_nI (by omega), nt_nI (by omega)] at e
      exact h i j e1 e2 (by rw [q, q', e])
    · simp only [if_pos e1, if_neg e2] at e
      obtain ⟨⟨c', hc', q⟩, -⟩ := hr i e1
      rw [q, nt_nI (by omega)] at e
      exact absurd (by rw [q, e]) (h2 i e1)
    · simp only [if_neg e1, if_pos e2] at e
      obtain ⟨⟨c', hc', q⟩, -⟩ := hr j e2
      rw [q, nt_nI (by omega)] at e
      exact absurd (by rw [q, e]) (h2 j e2)
    · omega)
  omega
theorem ti_pred {n : Int32} (h : 0 < n.toInt) : (n - 1).toInt = n.toInt - 1 := by
  have h2 := Int32.toInt_lt n
  rw [Int32.toInt_sub]
  show (n.toInt - 1).bmod (2 ^ 32) = n.toInt - 1
  exact Int.bmod_eq_of_le (by omega) (by omega)
theorem ti_succ {n : Int32} (h : n.toInt < 2147483646) : (n + 1).toInt = n.toInt + 1 := by
  have h2 := Int32.le_toInt n
  rw [Int32.toInt_add]
  show (n.toInt + 1).bmod (2 ^ 32) = n.toInt + 1
  exact Int.bmod_eq_of_le (by omega) (by omega)
/-- what PLEASE number n of c needs -/
def PO (N : Nat) (A : AS) (c : Nat) (n : Int32) : Prop := 0 < n.toInt ∧ n.toInt ≤ (sv A 17 c).toInt ∧ (sv A 12 c ≠ 0 → sv A 14 c = 0 → n.toInt < (sv A 17 c).toInt) ∧ (∀ b, b < 2 → AR A b (fun c' q => c' = nI c → q.toInt < n.toInt)) ∧ ∀ p, ¬ P4 A c p
theorem pl_none (h : NI N T A) (hI : IV N A eb eo) {c : Nat} {n : Int32} (hc : c < N) (hp : PO N A c n) : ∀ b, b < 2 → AR (lpA N A c (n - 1)) b (fun c' _ => c' ≠ nI c) := by
  intro b hb i hi e
  obtain ⟨k1, k2, k3⟩ := lp_keep (c := c) (n := n - 1) hI
  have q1 := k1 b _ hb (hp.2.2.2.1 b hb) i hi e
  have q2 := ((h.lp hI hc (n := n - 1)).2 b hb).2 i hi c hc e
  have q3 := q2.1
  rw [k3] at q3
  have q4 := ti_pred hp.1
  by_cases z : sv A 27 c < n - 1
  · rw [if_pos z, q4] at q3; omega
  · rw [if_neg z] at q3
    have := Int32.le_iff_toInt_le.mp (Int32.not_lt.mp z)
    omega
theorem pl_r3 (h : NI N T A) (hI : IV N A eb eo) {c b : Nat} {n : Int32} (hc : c < N) (hb : b < 2) (hp : PO N A c n) : rn (lpA N A c (n - 1)) b ≤ 3 :=
  row_few hI.lp hb hc ((h.lp hI hc).2 b hb).1 (pl_none h hI hc hp b hb)
theorem NI.ap (h : NI N T A) (h20 : ∀ b', b' < 2 → rn A b' ≤ 19) {c b : Nat} {n w : Int32} (hc : c < N) (hN : N ≤ 4) (hb : b < 2) (hq : RQ N A (nI c) n) (hno : AR A b (fun c' _ => c' ≠ nI c)) : NI N T (apR A b (nI c) n w) := by
  have e : ∀ k j, ¬ (22 ≤ k ∧ k < 25) → sv (apR A b (nI c) n w) k j = sv A k j := fun k j hk => by rw [sv_apR, if_neg (by omega), if_neg (by omega), if_neg (by omega)]
  have p4 : ∀ c' p, P4 (apR A b (nI c) n w) c' p → P4 A c' p := by
    rintro c' p ⟨j, hj, h1, h2, h3⟩
    rw [e _ _ (by omega)] at h1 h2 h3
    exact ⟨j, hj, h1, h2, h3⟩
  have old : ∀ b' i k, b' < 2 → i < rn A b' → k = 22 ∨ k = 23 → sv (apR A b (nI c) n w) k (20 * b' + i) = sv A k (20 * b' + i) := by
    intro b' i k hb' hi hk
    have q := h20 b' hb'
    have q' := h20 b hb
    have : ¬ (20 * b' + i = 20 * b + rn A b) := by
      by_cases z : b' = b
      · subst z; omega
      · omega
    rw [sv_apR, if_neg (fun z => this z.2), if_neg (fun z => this z.2), if_neg (fun z => this z.2)]
  have new : sv (apR A b (nI c) n w) 22 (20 * b + rn A b) = nI c ∧ sv (apR A b (nI c) n w) 23 (20 * b + rn A b) = n := by
    constructor
    · rw [sv_apR, if_neg (by omega), if_neg (by omega), if_pos ⟨rfl, rfl⟩]
    · rw [sv_apR, if_neg (by omega), if_pos ⟨rfl, rfl⟩]
  obtain ⟨h1, h2⟩ := h
  refine ⟨fun c' hc' => ?_, fun b' hb' => ⟨fun i j hi hj z => ?_, fun i hi => ?_⟩⟩
  · rw [e 27 c' (by omega), e 17 c' (by omega), e 12 c' (by omega), e 14 c' (by omega)]
    obtain ⟨a1, a2, a3, a4, a5⟩ := h1 c' hc'
    exact ⟨a1, a2, a3, a4, fun p hp => a5 p (p4 c' p hp)⟩
  · rw [rn_apR] at hi hj
    by_cases y : b' = b
    · subst y
      rw [if_pos rfl] at hi hj
      by_cases ei : i = rn A b' <;> by_cases ej : j = rn A b'
      · omega
      · subst ei
        rw [new.1, old b' j 22 hb' (by omega) (by omega)] at z
        exact absurd z.symm (hno j (by omega))
      · subst ej
        rw [new.1, old b' i 22 hb' (by omega) (by omega)] at z
        exact absurd z (hno i (by omega))
      · rw [old b' i 22 hb' (by omega) (by omega), old b' j 22 hb' (by omega) (by omega)] at z
        exact (h2 b' hb').1 i j (by omega) (by omega) z
    · rw [if_neg y] at hi hj
      rw [old b' i 22 hb' hi (by omega), old b' j 22 hb' hj (by omega)] at z
      exact (h2 b' hb').1 i j hi hj z
  · rw [rn_apR] at hi
    by_cases y : b' = b ∧ i = rn A b
    · obtain ⟨rfl, rfl⟩ := y
      rw [new.1, new.2]
      exact hq.mv (fun k j hk => e k j (by omega)) p4
    · have hi' : i < rn A b' := by
        by_cases z : b' = b
        · subst z; rw [if_pos rfl] at hi; omega
        · rw [if_neg z] at hi; exact hi
      rw [old b' i 22 hb' hi' (by omega), old b' i 23 hb' hi' (by omega)]
      exact ((h2 b' hb').2 i hi').mv (fun k j hk => e k j (by omega)) p4
theorem RS.pl (h : RS N T A) (hI : IV N A eb eo) {c b : Nat} {n w : Int32} (hc : c < N) (hb : b < 2) (hw : bz w) (hp : PO N A c n) : RS N T (plA N A c b n w) ∧ IV N (plA N A c b n w) eb eo := by
  have r3 := pl_r3 h.2.1 hI hc hb hp
  have hN := hI.1.1
  unfold plA
  split
  · rename_i h27
    have hI1 : IV N (lpA N A c (n - 1)) eb eo := hI.lp
    have hn1 := h.2.1.lp hI hc (n := n - 1)
    have hc1 := h.2.2.lp hI (c := c) (n := n - 1)
    have hI2 := hI1.ap (n := n) hb hc hw (by omega)
    have none := pl_none h.2.1 hI hc hp b hb
    obtain ⟨k1, k2, k3⟩ := lp_keep (c := c) (n := n - 1) hI
    have hn2 : NI N T (apR (lpA N A c (n - 1)) b (nI c) n w) := by
      refine hn1.ap (fun b' hb' => by have := (hI1.2.2.1 b' hb').1; omega) hc hN.2 hb (fun c' hc' e => ?_) none
      have ec : c = c' := (nI_eq (by omega) (by omega)).mp e
      subst ec
      rw [k3, k2 17 c (by omega), k2 12 c (by omega), k2 14 c (by omega)]
      refine ⟨?_, hp.2.1, fun p hp4 => absurd (hp4.lp hI) (hp.2.2.2.2 p), hp.2.2.1⟩
      split
      · rw [ti_pred hp.1]; omega
      · exact Int32.lt_iff_toInt_lt.mp h27
    have hc2 : CP N (apR (lpA N A c (n - 1)) b (nI c) n w) := hc1.mv (fun k j hk => by rw [sv_apR, if_neg (by omega), if_neg (by omega), if_neg (by omega)])
    split
    · exact ⟨⟨(hI2.af hb).2, hn2.af hb hI2.r20, hc2.af hI2 hb⟩, hI2.af hb⟩
    · exact ⟨⟨hI2.2, hn2, hc2⟩, hI2⟩
  · exact ⟨h, hI⟩
end Rest
