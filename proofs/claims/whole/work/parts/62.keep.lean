/-! every call keeps what holds between calls -/
section Keep
variable {N T : Nat} {A A' : AS} {eb eo : Nat → Nat}
theorem RS.lp (h : RS N T A) (hI : IV N A eb eo) {c : Nat} {n : Int32} (hc : c < N) : RS N T (lpA N A c n) := ⟨hI.lp.2, h.2.1.lp hI hc, h.2.2.lp hI⟩
theorem ltz {i b : Nat} (hk : sv A 29 i ≠ 3) : lt' A b i = 0 ∧ lo' A b i = 0 := by
  unfold lt' lo'
  rw [if_neg (fun z => hk z.1), if_neg (fun z => hk z.1)]
  exact ⟨rfl, rfl⟩
theorem LI.rm0 (h : LI N A z0 z0) {i : Nat} (hi : i < ln A) (hk : sv A 29 i ≠ 3) : LI N (rmL A i) z0 z0 :=
  (h.rm hi).eq (fun b _ => by rw [(ltz hk).1]; rfl) (fun b _ => by rw [(ltz hk).2]; rfl)
/-- what is known of a letter -/
def LK (N : Nat) (A : AS) (i t s b : Nat) : Prop := t ≤ N ∧ s ≤ N ∧ b < 2 ∧ sv A 30 i = nI t ∧ sv A 31 i = nI s ∧ sv A 32 i = nI b
theorem LK.po (h : QI N T A) {i t s b : Nat} (hi : i < ln A) (hl : LK N A i t s b) (hk : sv A 29 i = 4) (hs : s < N) : PO N (rmL A i) s (sv A 37 i) := by
  obtain ⟨-, -, -, e30, e31, e32⟩ := hl
  have hN := h.1.1
  have p : P4 A s (sv A 37 i) := ⟨i, hi, hk, e31, rfl⟩
  obtain ⟨a1, a2, a3, a4, a5⟩ := h.2.2.1.1 s hs
  obtain ⟨b1, b2, b3⟩ := a5 _ p
  have e : ∀ k j, ¬ (29 ≤ k ∧ k < 40) → sv (rmL A i) k j = sv A k j := fun k j hk => sv_rm_lo hk
  refine ⟨b1, by rw [e _ _ (by omega)]; exact b2, by rw [e _ _ (by omega), e _ _ (by omega), e _ _ (by omega)]; exact b3, fun b' hb' j hj z => ?_, ?_⟩
  · rw [e _ _ (by omega)] at z
    rw [e _ _ (by omega)]
    exact ((h.2.2.1.2 b' hb').2 j hj s hs z).2.2.1 _ p
  · rintro p' ⟨j, hj, q1, q2, q3⟩
    rw [sv_rm_at (by omega)] at q1 q2 q3
    have hj' : j < ln A - 1 := hj
    have hj2 : (if j < i then j else j + 1) < ln A := by split <;> omega
    have hne : (if j < i then j else j + 1) ≠ i := by split <;> omega
    generalize (if j < i then j else j + 1) = j' at *
    refine hne (h.1.2.2.1 j' i hj2 hi (q1.trans hk.symm) (by rw [q1]; decide) (q2.trans e31.symm) ?_ (fun z => by rw [q1] at z; exact absurd z (by decide)))
    have to : ∀ j, j < ln A → sv A 29 j = 4 → sv A 30 j = nI N := by
      intro j hj k4
      obtain ⟨⟨t', s', b', -, -, -, w4, -, -, w7⟩, -⟩ := h.1.2.1 j hj
      rw [w4]
      rcases w7 with ⟨k, _⟩ | ⟨k, _⟩ | k | ⟨k, _, z⟩ | ⟨k, _⟩ | ⟨k, _⟩
      · rw [k] at k4; exact absurd k4 (by decide)
      · rw [k] at k4; exact absurd k4 (by decide)
      · rw [k] at k4; exact absurd k4 (by decide)
      · rw [z]
      · rw [k] at k4; exact absurd k4 (by decide)
      · rw [k] at k4; exact absurd k4 (by decide)
    rw [to j' hj2 q1, to i hi hk]
theorem LI.gt0 (h : LI N A z0 z0) {i t s b ct : Nat} (hi : i < ln A) (hl : LK N A i t s b) (hk : sv A 29 i = 3) (hct : 1 ≤ ct ∧ ct ≤ N + 1) (e33 : sv A 33 i = nI ct) : LI N (gtA (rmL A i) (2 * t + b) (sv A 33 i) (sv A 34 i) (sv A 35 i) (sv A 36 i)) z0 z0 := by
  obtain ⟨ht, hs, hb, e30, e31, e32⟩ := hl
  have hN := h.1
  obtain ⟨-, ⟨z1, z2, z3⟩, w3, -⟩ := h.2.1 i hi
  obtain ⟨-, w3b⟩ := w3 hk
  rw [e33]
  refine (h.rm hi).gt ht hb ?_ z1 z2 hct.1 ?_ w3b (fun b' hb' hne => ?_)
  · show 0 + lt' A b i = ct
    unfold lt'
    rw [if_pos ⟨hk, e32⟩, e33, nt_nI (by omega)]
    omega
  · show 0 + lo' A b i = o1 (sv A 34 i)
    unfold lo'
    rw [if_pos ⟨hk, e32⟩]
    omega
  · have : ¬ (sv A 29 i = 3 ∧ sv A 32 i = nI b') := by
      rintro ⟨-, q⟩
      rw [e32] at q
      exact hne ((nI_eq (by omega) (by omega)).mp q).symm
    show 0 + lt' A b' i = 0 ∧ 0 + lo' A b' i = 0
    unfold lt' lo'
    rw [if_neg this, if_neg this]
    exact ⟨rfl, rfl⟩
theorem QI.dl (h : QI N T A) {i t s b : Nat} (hi : i < ln A) (hl : LK N A i t s b) : QI N T (dlX N A i t s b) := by
  have hl' := hl
  obtain ⟨ht, hs, hb, e30, e31, e32⟩ := hl
  have hN := h.1.1
  obtain ⟨⟨t', s', b', v1, v2, v3, v4, v5, v6, v7⟩, ⟨z1, z2, z3⟩, w3, w4, w5⟩ := h.1.2.1 i hi
  have et : t' = t := (nI_eq (by omega) (by omega)).mp (v4.symm.trans e30)
  have es : s' = s := (nI_eq (by omega) (by omega)).mp (v5.symm.trans e31)
  have eb : b' = b := (nI_eq (by omega) (by omega)).mp (v6.symm.trans e32)
  subst et es eb
  have hr := h.2.rmL hi
  unfold dlX
  rcases v7 with ⟨k, y⟩ | ⟨k, y⟩ | k | ⟨k, y, y2⟩ | ⟨k, y, y2⟩ | ⟨k, y, y2, y3⟩
  · rw [if_pos k]
    exact ⟨(h.1.rm0 hi (by rw [k]; decide)).rd ht hb hs, hr.rd⟩
  · rw [k, if_neg (by decide), if_pos rfl]
    exact ⟨(h.1.rm0 hi (by rw [k]; decide)).wr ht hb hs, hr.wr⟩
  · obtain ⟨⟨ct, c1, c2, c3⟩, -⟩ := w3 k
    have hg := (h.1.gt0 hi hl' k ⟨c1, c2⟩ c3).gw ht hb
    rw [k, if_neg (by decide), if_neg (by decide), if_pos rfl]
    refine ⟨?_, hr.tk⟩
    unfold tkA
    split
    · rename_i q; exact hg.en q.1
    · exact hg
  · have hp := LK.po h hi hl' k y
    rw [k, if_neg (by decide), if_neg (by decide), if_neg (by decide), if_pos rfl]
    have q := hr.pl ⟨h.1.rm0 hi (by rw [k]; decide), hr.1⟩ y hb z3 hp (w := sv A 39 i)
    exact ⟨q.2.1, q.1⟩
  · rw [k, if_neg (by decide), if_neg (by decide), if_neg (by decide), if_neg (by decide), if_pos rfl]
    refine ⟨?_, hr.kn y2 hb⟩
    have h0 := h.1.rm0 hi (by rw [k]; decide)
    unfold knA
    split
    · exact (h0.lrn w5 z3).gw ht hb
    · exact h0
  · rw [k, if_neg (by decide), if_neg (by decide), if_neg (by decide), if_neg (by decide), if_neg (by decide)]
    have hI1 : IV N (rmL A i) z0 z0 := ⟨h.1.rm0 hi (by rw [k]; decide), hr.1⟩
    exact ⟨hI1.lp.1, hr.lp hI1 y⟩
theorem QI.dlA (h : QI N T A) {i : Nat} (hi : i < ln A) : QI N T (dlA N A i) := by
  obtain ⟨⟨t, s, b, v1, v2, v3, v4, v5, v6, v7⟩, -⟩ := h.1.2.1 i hi
  have hN := h.1.1
  unfold Jvm.Pilot.@@N@@.dlA
  rw [v4, v5, v6, nt_nI (by omega), nt_nI (by omega), nt_nI (by omega)]
  exact h.dl hi ⟨v1, v2, v3, v4, v5, v6⟩
theorem QI.ev (h : QI N T A) {c b : Nat} (hc : c < N) (hb : b < 2) : QI N T (gvA A c b (nI N) (sv A 5 (2 * c + b)) (sv A 6 (2 * c + b)) (sv A 6 (2 * c + b))) := ⟨h.1.giveAll (by omega) hb (Nat.le_refl _), h.2.gv⟩
theorem NI.bg (h : NI N T A) {c : Nat} {w b v : Int32} (hT : T < 100000) (hc : c < N) : NI N (T + 1) (bgA A c w b v) := by
  have e : ∀ k j, k = 22 ∨ k = 23 ∨ k = 27 ∨ k = 29 ∨ k = 31 ∨ k = 37 → sv (bgA A c w b v) k j = sv A k j := fun k j hk => by
    rw [sv_bgA]
    by_cases z : j = c
    · rw [if_pos z, if_neg (by omega), if_neg (by omega), if_neg (by omega), if_neg (by omega), if_neg (by omega), if_neg (by omega), if_neg (by omega)]
    · rw [if_neg z]
  have e17 : ∀ j, sv (bgA A c w b v) 17 j = if j = c then sv A 17 c + 1 else sv A 17 j := fun j => by rw [sv_bgA]; simp
  have e12 : ∀ j, sv (bgA A c w b v) 12 j = if j = c then 1 else sv A 12 j := fun j => by rw [sv_bgA]; simp
  have e14 : ∀ j, sv (bgA A c w b v) 14 j = if j = c then 0 else sv A 14 j := fun j => by rw [sv_bgA]; simp
  have p4 : ∀ c' p, P4 (bgA A c w b v) c' p → P4 A c' p := by
    rintro c' p ⟨j, hj, h1, h2, h3⟩
    rw [e _ _ (by omega)] at h1 h2 h3
    exact ⟨j, hj, h1, h2, h3⟩
  obtain ⟨h1, h2⟩ := h
  obtain ⟨d1, d2, d3, d4, d5⟩ := h1 c hc
  have ts := ti_succ (n := sv A 17 c) (by omega)
  refine ⟨fun c' hc' => ?_, fun b' hb' => ⟨fun i j hi hj z => ?_, fun i hi c' hc' z => ?_⟩⟩
  · obtain ⟨a1, a2, a3, a4, a5⟩ := h1 c' hc'
    rw [e 27 c' (by omega), e17, e12, e14]
    by_cases z : c' = c
    · subst z
      rw [if_pos rfl, if_pos rfl, if_pos rfl, ts]
      refine ⟨a1, by omega, by omega, fun _ => by omega, fun p hp => ?_⟩
      obtain ⟨b1, b2, b3⟩ := a5 p (p4 _ p hp)
      exact ⟨b1, by omega, fun _ _ => by omega⟩
    · rw [if_neg z, if_neg z, if_neg z]
      exact ⟨a1, a2, by omega, a4, fun p hp => a5 p (p4 _ p hp)⟩
  · rw [e 22 _ (by omega), e 22 _ (by omega)] at z
    exact (h2 b' hb').1 i j hi hj z
  · rw [e 22 _ (by omega)] at z
    obtain ⟨a1, a2, a3, a4⟩ := (h2 b' hb').2 i hi c' hc' z
    rw [e 23 _ (by omega), e 27 c' (by omega), e17, e12, e14]
    refine ⟨a1, ?_, fun p hp => a3 p (p4 _ p hp), ?_⟩
    · by_cases y : c' = c
      · subst y; rw [if_pos rfl, ts]; omega
      · rw [if_neg y]; exact a2
    · by_cases y : c' = c
      · subst y; rw [if_pos rfl, if_pos rfl, if_pos rfl, ts]; intro _ _; omega
      · rw [if_neg y, if_neg y, if_neg y]; exact a4
theorem RI.set (h : RI N A) {k i : Nat} {v : Int32} (hk : k ≠ 12 ∧ k ≠ 13 ∧ k ≠ 14 ∧ k ≠ 15 ∧ k ≠ 22 ∧ k ≠ 24 ∧ k ≠ 40 ∧ k ≠ 41) : RI N (set1 A k i v) :=
  h.keep2 rfl (fun k' j hk' => by rw [sv_set1, if_neg (by omega)]) (fun c hc => by rw [sv_set1, if_neg (by omega)]; exact (h.1 c hc).2.1) (fun c hc => by rw [sv_set1, if_neg (by omega)]; exact (h.1 c hc).2.2.2)
theorem RS.set (h : RS N T A) {k i : Nat} {v : Int32} (hk : k = 2 ∨ k = 3 ∨ k = 4 ∨ k = 18 ∨ k = 19 ∨ k = 20 ∨ k = 21 ∨ k = 39) : RS N T (set1 A k i v) := ⟨h.1.set (by omega), h.2.1.set (by omega), h.2.2.mv (fun k' j hk' => by rw [sv_set1, if_neg (by omega)])⟩
theorem RS.ak (h : RS N T A) {c x : Nat} {kd bl : Int32} (hk : kd = 1 ∨ kd = 2) : RS N T (akA A c kd bl x) :=
  ⟨h.1.keep (rn_akA x) (fun k j hk => sv_akA (by omega) x), h.2.1.ak hk, h.2.2.mv (fun k j hk => sv_akA (by omega) x)⟩
theorem QI.isT (h : QI N T A) {c b : Nat} (hc : c < N) (hb : b < 2) : QI N T (isT N A c b) := by
  unfold Jvm.Pilot.@@N@@.isT
  split
  · exact ⟨h.1.en hc, h.2.en⟩
  · exact ⟨LI.ak (h.1.set (by unfold rel; omega)) hc hb rwk_12 _ (Nat.le_refl _), (h.2.set (by omega)).ak rwk_12⟩
theorem QI.is (h : QI N T A) {c b : Nat} {w v : Int32} (hT : T < 100000) (hc : c < N) (hb : b < 2) (hw : bz w) : QI N (T + 1) (isA N A c b w v) := by
  have hI := h.iv.bg (c := c) (w := w) (v := v) hb hw
  have h1 : QI N (T + 1) (bgA A c w (nI b) v) := ⟨hI.1, hI.2, h.2.2.1.bg hT hc, h.2.2.2.mv (fun k j hk => by
    rw [sv_bgA]
    by_cases z : j = c
    · rw [if_pos z, if_neg (by omega), if_neg (by omega), if_neg (by omega), if_neg (by omega), if_neg (by omega), if_neg (by omega), if_neg (by omega)]
    · rw [if_neg z])⟩
  exact h1.isT hc hb
/-- PLEASE is sent -/
theorem P4.pls {c c' : Nat} {bl w n p : Int32} (hN : N ≤ 4) (hc : c < N) (hc' : c' < N) (h : P4 (set1 (set1 (sdL A 4 (nI c) (nI N) bl) 37 (ln (dpL A 4 (nI c) (nI N) bl)) n) 39 (ln (dpL A 4 (nI c) (nI N) bl)) w) c' p) : P4 A c' p ∨ (c' = c ∧ p = n) := by
  obtain ⟨j, hj, h1, h2, h3⟩ := h.set (by omega)
  rw [sv_set1, if_neg (by omega)] at h1 h2
  rw [sv_set1] at h3
  have hj2 : j < ln (dpL A 4 (nI c) (nI N) bl) + 1 := hj
  by_cases e : j < ln (dpL A 4 (nI c) (nI N) bl)
  · unfold sdL at h1 h2 h3
    rw [sv_ap_old e] at h1 h2
    rw [if_neg (by omega), sv_ap_old e] at h3
    exact Or.inl (P4.dp ⟨j, e, h1, h2, h3⟩)
  · have e2 : j = ln (dpL A 4 (nI c) (nI N) bl) := by omega
    subst e2
    unfold sdL at h2
    rw [sv_ap_new (by omega)] at h2
    rw [if_pos ⟨rfl, rfl⟩] at h3
    exact Or.inr ⟨((nI_eq (by omega) (by omega)).mp h2).symm, h3.symm⟩
theorem RS.ag (h : RS N T A) (hN : N ≤ 4) {c : Nat} (hc : c < N) (hb : sv A 12 c ≠ 0) (hp : sv A 14 c = 0) : RS N T (agA N A c) := by
  unfold agA
  split
  · exact ((h.set (by omega)).set (by omega)).ak rwk_12
  · refine RS.set ⟨?_, ?_, ?_⟩ (by omega)
    · refine h.1.keep2 rn_sdL (fun k j hk => ?_) (fun c' hc' => ?_) (fun c' hc' => ?_)
      · rw [sv_set1, if_neg (by omega), sv_sdL (by omega), sv_set1, if_neg (by omega)]
      · rw [sv_set1, if_neg (by omega), sv_sdL (by omega), sv_set1, if_neg (by omega)]; exact (h.1.1 c' hc').2.1
      · rw [sv_set1, if_neg (by omega), sv_sdL (by omega), sv_set1]
        split
        · exact Or.inr rfl
        · exact (h.1.1 c' hc').2.2.2
    · have e : ∀ k j, k = 12 ∨ k = 17 ∨ k = 22 ∨ k = 23 ∨ k = 27 → sv (set1 (sdL (set1 A 14 c 1) 4 (nI c) (nI N) (sv A 15 c)) 37 (ln (dpL (set1 A 14 c 1) 4 (nI c) (nI N) (sv A 15 c))) (sv A 17 c)) k j = sv A k j := fun k j hk => by
        rw [sv_set1, if_neg (by omega), sv_sdL (by omega), sv_set1, if_neg (by omega)]
      have e14 : ∀ j, sv (set1 (sdL (set1 A 14 c 1) 4 (nI c) (nI N) (sv A 15 c)) 37 (ln (dpL (set1 A 14 c 1) 4 (nI c) (nI N) (sv A 15 c))) (sv A 17 c)) 14 j = if j = c then 1 else sv A 14 j := fun j => by
        rw [sv_set1, if_neg (by omega), sv_sdL (by omega), sv_set1]
        by_cases z : j = c
        · rw [if_pos ⟨rfl, z⟩, if_pos z]
        · rw [if_neg (fun q => z q.2), if_neg z]
      have p4 : ∀ c' p, c' < N → P4 (set1 (sdL (set1 A 14 c 1) 4 (nI c) (nI N) (sv A 15 c)) 37 (ln (dpL (set1 A 14 c 1) 4 (nI c) (nI N) (sv A 15 c))) (sv A 17 c)) c' p → P4 A c' p ∨ (c' = c ∧ p = sv A 17 c) := by
        intro c' p hc' q
        have q2 : P4 (set1 (set1 (sdL (set1 A 14 c 1) 4 (nI c) (nI N) (sv A 15 c)) 37 (ln (dpL (set1 A 14 c 1) 4 (nI c) (nI N) (sv A 15 c))) (sv A 17 c)) 39 (ln (dpL (set1 A 14 c 1) 4 (nI c) (nI N) (sv A 15 c))) 0) c' p := by
          obtain ⟨j, hj, h1, h2, h3⟩ := q
          exact ⟨j, hj, by rw [sv_set1, if_neg (by omega)]; exact h1, by rw [sv_set1, if_neg (by omega)]; exact h2, by rw [sv_set1, if_neg (by omega)]; exact h3⟩
        rcases P4.pls hN hc hc' q2 with z | z
        · exact Or.inl (z.set (by omega))
        · exact Or.inr z
      generalize hB : set1 (sdL (set1 A 14 c 1) 4 (nI c) (nI N) (sv A 15 c)) 37 (ln (dpL (set1 A 14 c 1) 4 (nI c) (nI N) (sv A 15 c))) (sv A 17 c) = B at *
      have hrB : rn B = rn A := by rw [← hB]; exact rn_sdL
      obtain ⟨h1, h2⟩ := h.2.1
      obtain ⟨d1, d2, d3, d4, d5⟩ := h1 c hc
      refine ⟨fun c' hc' => ?_, fun b' hb' => ⟨fun i j hi hj z => ?_, fun i hi c' hc' z => ?_⟩⟩
      · obtain ⟨a1, a2, a3, a4, a5⟩ := h1 c' hc'
        rw [e 27 c' (by omega), e 17 c' (by omega), e 12 c' (by omega), e14]
        refine ⟨a1, a2, a3, a4, fun p hp4 => ?_⟩
        rcases p4 c' p hc' hp4 with q | ⟨rfl, rfl⟩
        · obtain ⟨b1, b2, b3⟩ := a5 p q
          refine ⟨b1, b2, fun y1 y2 => ?_⟩
          by_cases y : c' = c
          · rw [if_pos y] at y2; exact absurd y2 (by decide)
          · rw [if_neg y] at y2; exact b3 y1 y2
        · refine ⟨d4 hb, Int.le_refl _, fun y1 y2 => ?_⟩
          rw [if_pos rfl] at y2; exact absurd y2 (by decide)
      · rw [e 22 _ (by omega), e 22 _ (by omega)] at z
        rw [hrB] at hi hj
        exact (h2 b' hb').1 i j hi hj z
      · rw [e 22 _ (by omega)] at z
        rw [hrB] at hi
        obtain ⟨a1, a2, a3, a4⟩ := (h2 b' hb').2 i hi c' hc' z
        rw [e 23 _ (by omega), e 27 c' (by omega), e 17 c' (by omega), e 12 c' (by omega), e14]
        refine ⟨a1, a2, fun p hp4 => ?_, fun y1 y2 => ?_⟩
        · rcases p4 c' p hc' hp4 with q | ⟨rfl, rfl⟩
          · exact a3 p q
          · exact a4 hb hp
        · by_cases y : c' = c
          · rw [if_pos y] at y2; exact absurd y2 (by decide)
          · rw [if_neg y] at y2; exact a4 y1 y2
    · refine h.2.2.mv (fun k j hk => ?_)
      rw [sv_set1, if_neg (by omega), sv_sdL (by omega), sv_set1, if_neg (by omega)]
theorem QI.tu (h : QI N T A) : ∀ c, c ≤ N → QI N T (tuA N A c)
  | 0, _ => h
  | c + 1, hc => by
    have ih := QI.tu h c (by omega)
    unfold tuA
    split
    · rename_i q
      obtain ⟨⟨b, hb, e15⟩, e12, e13, e14⟩ := ih.2.1.1 c (by omega)
      exact ⟨ih.1.ag (by omega) hb e15 e13, ih.2.ag h.1.1.2 (by omega) q.1 q.2.1⟩
    · exact ih
theorem QI.tm (h : QI N T A) {v : Int32} : QI N T (set1 A 4 0 v) := ⟨h.1.set (by unfold rel; omega), h.2.set (by omega)⟩
theorem QI.ti (h : QI N T A) : ∀ k, QI N T (tiA N A k)
  | 0 => h
  | k + 1 => by
    unfold tiA
    exact (QI.ti h k).tm.tu N (Nat.le_refl _)
end Keep
