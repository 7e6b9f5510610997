/-! what always holds stays: sending, giving, getting, learning, ending, asking -/
section Inv3
variable {N : Nat} {A A' : AS} {eb eo : Nat → Nat}
def rel (k : Nat) : Prop := k = 5 ∨ k = 6 ∨ k = 7 ∨ k = 9 ∨ k = 10 ∨ (29 ≤ k ∧ k ≤ 35) ∨ k = 38 ∨ k = 39
theorem LI.cong (h : LI N A eb eo) (hl : ln A' = ln A) (e : ∀ k j, rel k → sv A' k j = sv A k j) : LI N A' eb eo := by
  obtain ⟨hN, hw, hu, hc, ht, ho⟩ := h
  have r : ∀ k, (k = 5 ∨ k = 6 ∨ k = 7 ∨ k = 9 ∨ k = 10 ∨ (29 ≤ k ∧ k ≤ 35) ∨ k = 38 ∨ k = 39) → ∀ j, sv A' k j = sv A k j := fun k hk j => e k j hk
  have elt : ∀ b j, lt' A' b j = lt' A b j := fun b j => by unfold lt'; rw [r 29 (by omega), r 32 (by omega), r 33 (by omega)]
  have elo : ∀ b j, lo' A' b j = lo' A b j := fun b j => by unfold lo'; rw [r 29 (by omega), r 32 (by omega), r 34 (by omega)]
  refine ⟨hN, fun i hi => ?_, fun i j hi hj => ?_, fun i hi => cw_of (r 5 (by omega) i) (r 6 (by omega) i) (r 7 (by omega) i) (r 9 (by omega) i) (r 10 (by omega) i) (hc i hi), fun b hb => ?_, fun b hb => ?_⟩
  · rw [hl] at hi
    have := hw i hi
    unfold lw at this ⊢
    rw [r 29 (by omega), r 30 (by omega), r 31 (by omega), r 32 (by omega), r 33 (by omega), r 34 (by omega), r 35 (by omega), r 38 (by omega), r 39 (by omega)]
    exact this
  · rw [hl] at hi hj
    have := hu i j hi hj
    unfold uq at this ⊢
    rw [r 29 (by omega), r 29 (by omega), r 30 (by omega), r 30 (by omega), r 31 (by omega), r 31 (by omega), r 32 (by omega), r 32 (by omega)]
    exact this
  · rw [hl, sm_congr (g := lt' A' b) (h := lt' A b) _ (fun j _ => elt b j), sm_congr (g := fun x => nt (sv A' 5 (2 * x + b))) (h := fun x => nt (sv A 5 (2 * x + b))) _ (fun x _ => by rw [r 5 (by omega)])]
    exact ht b hb
  · rw [hl, sm_congr (g := lo' A' b) (h := lo' A b) _ (fun j _ => elo b j), sm_congr (g := fun x => o1 (sv A' 6 (2 * x + b))) (h := fun x => o1 (sv A 6 (2 * x + b))) _ (fun x _ => by rw [r 6 (by omega)])]
    exact ho b hb
theorem LI.set (h : LI N A eb eo) {k i : Nat} {v : Int32} (hk : ¬ rel k) : LI N (set1 A k i v) eb eo :=
  h.cong rfl (fun k' j hr => by
    have q : ¬ (k' = k ∧ j = i) := fun z => hk (z.1 ▸ hr)
    rw [sv_set1, if_neg q])
/-- a letter that is not of tokens, by its head -/
def hd (N : Nat) (kd : Int32) (s t b : Nat) : Prop := s ≤ N ∧ t ≤ N ∧ b < 2 ∧ ((kd = 1 ∧ s < N) ∨ (kd = 2 ∧ s < N) ∨ (kd = 4 ∧ s < N ∧ t = N) ∨ (kd = 5 ∧ s = N ∧ t < N) ∨ (kd = 6 ∧ s < N ∧ t = N ∧ b = 0))
theorem hd.ne {kd : Int32} {s t b : Nat} (h : hd N kd s t b) : kd ≠ 3 := by
  rcases h.2.2.2 with q | q | q | q | q <;> rw [q.1] <;> decide
theorem LI.send (h : LI N A eb eo) {kd : Int32} {s t b : Nat} (w : hd N kd s t b) : LI N (sdL A kd (nI s) (nI t) (nI b)) eb eo := by
  obtain ⟨h1, h2⟩ := h.dp (fm := nI s) (to := nI t) (bl := nI b) w.ne
  obtain ⟨w1, w2, w3, w4⟩ := id w
  have v : ∀ k, 29 ≤ k ∧ k < 40 → sv (apL (dpL A kd (nI s) (nI t) (nI b)) (nwL kd (nI s) (nI t) (nI b))) k (ln (dpL A kd (nI s) (nI t) (nI b))) = nwL kd (nI s) (nI t) (nI b) k := fun k hk => sv_ap_new hk
  have z : ∀ b', lt' (apL (dpL A kd (nI s) (nI t) (nI b)) (nwL kd (nI s) (nI t) (nI b))) b' (ln (dpL A kd (nI s) (nI t) (nI b))) = 0 ∧ lo' (apL (dpL A kd (nI s) (nI t) (nI b)) (nwL kd (nI s) (nI t) (nI b))) b' (ln (dpL A kd (nI s) (nI t) (nI b))) = 0 := by
    intro b'
    unfold lt' lo'
    rw [v 29 (by omega)]
    have : ¬ (nwL kd (nI s) (nI t) (nI b) 29 = 3 ∧ sv (apL (dpL A kd (nI s) (nI t) (nI b)) (nwL kd (nI s) (nI t) (nI b))) 32 (ln (dpL A kd (nI s) (nI t) (nI b))) = nI b') := fun q => w.ne q.1
    rw [if_neg this, if_neg this]
    exact ⟨rfl, rfl⟩
  refine h1.ap ?_ (fun j hj => ?_) (fun b' _ => by rw [(z b').1, Nat.zero_add]) (fun b' _ => by rw [(z b').2, Nat.zero_add])
  · unfold lw
    rw [v 29 (by omega), v 30 (by omega), v 31 (by omega), v 32 (by omega), v 33 (by omega), v 34 (by omega), v 35 (by omega), v 38 (by omega), v 39 (by omega)]
    refine ⟨⟨t, s, b, w2, w1, w3, rfl, rfl, rfl, ?_⟩, ⟨Or.inl rfl, Or.inl rfl, Or.inl rfl⟩, fun q => absurd q w.ne, fun _ => ⟨rfl, rfl, rfl⟩, Or.inl rfl⟩
    rcases w4 with q | q | q | q | q
    · exact Or.inl q
    · exact Or.inr (Or.inl q)
    · exact Or.inr (Or.inr (Or.inr (Or.inl q)))
    · exact Or.inr (Or.inr (Or.inr (Or.inr (Or.inl q))))
    · exact Or.inr (Or.inr (Or.inr (Or.inr (Or.inr q))))
  · unfold uq
    rw [v 29 (by omega), v 30 (by omega), v 31 (by omega), v 32 (by omega), sv_ap_old hj, sv_ap_old hj, sv_ap_old hj, sv_ap_old hj]
    intro a1 a2 a3 a4 a5
    exact absurd ⟨a1, a3, a4, fun q => a5 (a1.trans q)⟩ (h2 j hj)
theorem LI.set38 (h : LI N A eb eo) {i : Nat} {v : Int32} (hv : v = -1 ∨ ∃ c, c < N ∧ v = nI c) : LI N (set1 A 38 i v) eb eo := by
  obtain ⟨hN, hw, hu, hc, ht, ho⟩ := h
  refine ⟨hN, fun j hj => ?_, hu, hc, ht, ho⟩
  obtain ⟨q1, q2, q3, q4, q5⟩ := hw j hj
  refine ⟨q1, q2, q3, q4, ?_⟩
  rw [sv_set1]
  by_cases e : j = i
  · rw [if_pos ⟨rfl, e⟩]; exact hv
  · rw [if_neg (fun z => e z.2)]; exact q5
theorem LI.set39 (h : LI N A eb eo) {i : Nat} {v : Int32} (hv : bz v) : LI N (set1 A 39 i v) eb eo := by
  obtain ⟨hN, hw, hu, hc, ht, ho⟩ := h
  refine ⟨hN, fun j hj => ?_, hu, hc, ht, ho⟩
  obtain ⟨q1, ⟨r1, r2, r3⟩, q3, q4, q5⟩ := hw j hj
  refine ⟨q1, ⟨r1, r2, ?_⟩, q3, q4, q5⟩
  rw [sv_set1]
  by_cases e : j = i
  · rw [if_pos ⟨rfl, e⟩]; exact hv
  · rw [if_neg (fun z => e z.2)]; exact r3
/-- a cell gets other tokens; the difference is in hand -/
theorem LI.cell (h : LI N A eb eo) {x b : Nat} (hx : x ≤ N) (hb : b < 2) {v5 v6 v7 : Int32} {eb' eo' : Nat → Nat} (hcw : cw N (set1 (set1 (set1 A 5 (2 * x + b) v5) 6 (2 * x + b) v6) 7 (2 * x + b) v7) (2 * x + b))
    (h1 : nt v5 + eb' b = nt (sv A 5 (2 * x + b)) + eb b) (h2 : o1 v6 + eo' b = o1 (sv A 6 (2 * x + b)) + eo b) (h3 : ∀ b', b' < 2 → b' ≠ b → eb' b' = eb b' ∧ eo' b' = eo b') : LI N (set1 (set1 (set1 A 5 (2 * x + b) v5) 6 (2 * x + b) v6) 7 (2 * x + b) v7) eb' eo' := by
  obtain ⟨hN, hw, hu, hc, ht, ho⟩ := h
  have s5 : ∀ j, sv (set1 (set1 (set1 A 5 (2 * x + b) v5) 6 (2 * x + b) v6) 7 (2 * x + b) v7) 5 j = if j = 2 * x + b then v5 else sv A 5 j := fun j => by simp [sv_set1]
  have s6 : ∀ j, sv (set1 (set1 (set1 A 5 (2 * x + b) v5) 6 (2 * x + b) v6) 7 (2 * x + b) v7) 6 j = if j = 2 * x + b then v6 else sv A 6 j := fun j => by simp [sv_set1]
  have s7 : ∀ j, sv (set1 (set1 (set1 A 5 (2 * x + b) v5) 6 (2 * x + b) v6) 7 (2 * x + b) v7) 7 j = if j = 2 * x + b then v7 else sv A 7 j := fun j => by simp [sv_set1]
  refine ⟨hN, hw, hu, fun j hj => ?_, fun b' hb' => ?_, fun b' hb' => ?_⟩
  · by_cases e : j = 2 * x + b
    · subst e; exact hcw
    · exact cw_of (A := A) (by rw [s5, if_neg e]) (by rw [s6, if_neg e]) (by rw [s7, if_neg e]) rfl rfl (hc j hj)
  · have hl : sm (lt' (set1 (set1 (set1 A 5 (2 * x + b) v5) 6 (2 * x + b) v6) 7 (2 * x + b) v7) b') (ln A) = sm (lt' A b') (ln A) := rfl
    have t0 := ht b' hb'
    show sm (fun y => nt (sv (set1 (set1 (set1 A 5 (2 * x + b) v5) 6 (2 * x + b) v6) 7 (2 * x + b) v7) 5 (2 * y + b'))) (N + 1) + sm (lt' A b') (ln A) + eb' b' = N + 1
    by_cases e : b' = b
    · subst e
      have u := sm_up (g := fun y => nt (sv (set1 (set1 (set1 A 5 (2 * x + b') v5) 6 (2 * x + b') v6) 7 (2 * x + b') v7) 5 (2 * y + b'))) (h := fun y => nt (sv A 5 (2 * y + b'))) (i := x) (N + 1) (by omega) (fun j _ hj => by show nt _ = nt _; rw [s5, if_neg (by omega)])
      have u2 : nt (sv (set1 (set1 (set1 A 5 (2 * x + b') v5) 6 (2 * x + b') v6) 7 (2 * x + b') v7) 5 (2 * x + b')) = nt v5 := by rw [s5, if_pos rfl]
      simp only [u2] at u
      omega
    · have u : sm (fun y => nt (sv (set1 (set1 (set1 A 5 (2 * x + b) v5) 6 (2 * x + b) v6) 7 (2 * x + b) v7) 5 (2 * y + b'))) (N + 1) = sm (fun y => nt (sv A 5 (2 * y + b'))) (N + 1) := sm_congr _ (fun j _ => by rw [s5, if_neg (by omega)])
      rw [u, (h3 b' hb' e).1]
      exact t0
  · have t0 := ho b' hb'
    show sm (fun y => o1 (sv (set1 (set1 (set1 A 5 (2 * x + b) v5) 6 (2 * x + b) v6) 7 (2 * x + b) v7) 6 (2 * y + b'))) (N + 1) + sm (lo' A b') (ln A) + eo' b' = 1
    by_cases e : b' = b
    · subst e
      have u := sm_up (g := fun y => o1 (sv (set1 (set1 (set1 A 5 (2 * x + b') v5) 6 (2 * x + b') v6) 7 (2 * x + b') v7) 6 (2 * y + b'))) (h := fun y => o1 (sv A 6 (2 * y + b'))) (i := x) (N + 1) (by omega) (fun j _ hj => by show o1 _ = o1 _; rw [s6, if_neg (by omega)])
      have u2 : o1 (sv (set1 (set1 (set1 A 5 (2 * x + b') v5) 6 (2 * x + b') v6) 7 (2 * x + b') v7) 6 (2 * x + b')) = o1 v6 := by rw [s6, if_pos rfl]
      simp only [u2] at u
      omega
    · have u : sm (fun y => o1 (sv (set1 (set1 (set1 A 5 (2 * x + b) v5) 6 (2 * x + b) v6) 7 (2 * x + b) v7) 6 (2 * y + b'))) (N + 1) = sm (fun y => o1 (sv A 6 (2 * y + b'))) (N + 1) := sm_congr _ (fun j _ => by rw [s6, if_neg (by omega)])
      rw [u, (h3 b' hb' e).2]
      exact t0
theorem bz_if {p : Prop} [Decidable p] : bz (if p then 1 else 0) := by
  split
  · exact Or.inr rfl
  · exact Or.inl rfl
theorem o1_1 : o1 1 = 1 := by decide
theorem o1_0 : o1 0 = 0 := by decide
set_option maxHeartbeats 4000000 in
/-- x gives k tokens -/
theorem LI.give (h : LI N A eb eo) {x b t k : Nat} {ow wd : Int32} (hx : x ≤ N) (hb : b < 2) (ht : t ≤ N) (hk : nI k = sv A 5 (2 * x + b) ∨ (k = 1 ∧ sv A 6 (2 * x + b) = 1)) (hk2 : k ≤ N + 1) (how : bz ow) (hwd : bz wd) (h1 : ow = 1 → sv A 6 (2 * x + b) = 1 ∧ wd = 1) (h2 : sv A 6 (2 * x + b) = 1 → ow = 0 → nI k < sv A 5 (2 * x + b)) : LI N (gvA A x b (nI t) (nI k) ow wd) eb eo := by
  by_cases k0 : k = 0
  · subst k0
    have : gvA A x b (nI t) (nI 0) ow wd = A := if_pos rfl
    rw [this]
    exact h
  have hN := h.1
  have hnk : ¬ nI k = 0 := nI_ne0 (by omega) (by omega)
  obtain ⟨⟨tt, g1, g2⟩, ⟨g3, g4, g5⟩, g6, g7⟩ := h.2.2.2.1 (2 * x + b) (by omega)
  have hkt : k ≤ tt := by
    rcases hk with q | ⟨q1, q2⟩
    · rw [g2] at q
      have := (nI_eq (a := k) (b := tt) (by omega) (by omega)).mp q
      omega
    · have := (g6 q2).2
      rw [g2] at this
      rcases Nat.eq_zero_or_pos tt with z | z
      · subst z; exact absurd rfl this
      · omega
  have e5 : sv A 5 (2 * x + b) - nI k = nI (tt - k) := by rw [g2]; exact pk_sub hkt
  have pos : (0 < sv A 5 (2 * x + b) - nI k) ↔ k < tt := by
    rw [e5]
    have : (0 : Int32) = nI 0 := rfl
    rw [this, nI_ltI (by omega) (by omega)]
    omega
  -- the cell
  have hc1 := h.cell (x := x) (b := b) hx hb (v5 := nI (tt - k)) (v6 := if sv A 6 (2 * x + b) ≠ 0 ∧ ow = 0 then 1 else 0) (v7 := if sv A 7 (2 * x + b) ≠ 0 ∧ 0 < sv A 5 (2 * x + b) - nI k then 1 else 0) (eb' := fun b' => if b' = b then eb b + k else eb b') (eo' := fun b' => if b' = b then eo b + o1 ow else eo b') ?_ ?_ ?_ ?_
  · -- the letter
    have e : LI N (apL (set1 (set1 (set1 A 5 (2 * x + b) (nI (tt - k))) 6 (2 * x + b) (if sv A 6 (2 * x + b) ≠ 0 ∧ ow = 0 then 1 else 0)) 7 (2 * x + b) (if sv A 7 (2 * x + b) ≠ 0 ∧ 0 < sv A 5 (2 * x + b) - nI k then 1 else 0)) (fun q => if q = 33 then nI k else if q = 34 then ow else if q = 35 then wd else if q = 36 then sv A 8 (2 * x + b) else nwL 3 (nI x) (nI t) (nI b) q)) eb eo := by
      have v : ∀ (G : Nat → Int32) q, 29 ≤ q ∧ q < 40 → sv (apL (set1 (set1 (set1 A 5 (2 * x + b) (nI (tt - k))) 6 (2 * x + b) (if sv A 6 (2 * x + b) ≠ 0 ∧ ow = 0 then 1 else 0)) 7 (2 * x + b) (if sv A 7 (2 * x + b) ≠ 0 ∧ 0 < sv A 5 (2 * x + b) - nI k then 1 else 0)) G) q (ln A) = G q := fun G q hq => sv_ap_new (A := set1 (set1 (set1 A 5 (2 * x + b) (nI (tt - k))) 6 (2 * x + b) (if sv A 6 (2 * x + b) ≠ 0 ∧ ow = 0 then 1 else 0)) 7 (2 * x + b) (if sv A 7 (2 * x + b) ≠ 0 ∧ 0 < sv A 5 (2 * x + b) - nI k then 1 else 0)) hq
      refine hc1.ap ?_ (fun j hj => ?_) (fun b' hb' => ?_) (fun b' hb' => ?_)
      · show lw N _ (ln A)
        unfold lw
        rw [v _ 29 (by omega), v _ 30 (by omega), v _ 31 (by omega), v _ 32 (by omega), v _ 33 (by omega), v _ 34 (by omega), v _ 35 (by omega), v _ 38 (by omega), v _ 39 (by omega)]
        exact ⟨⟨t, x, b, ht, hx, hb, rfl, rfl, rfl, Or.inr (Or.inr (Or.inl rfl))⟩, ⟨how, hwd, Or.inl rfl⟩, fun _ => ⟨⟨k, by omega, hk2, rfl⟩, fun q => (h1 q).2⟩, fun q => absurd rfl q, Or.inl rfl⟩
      · show uq _ j (ln A)
        intro a1 a2
        rw [a1, v _ 29 (by omega)] at a2
        exact absurd rfl a2
      · show (if b' = b then eb b + k else eb b') = lt' _ b' (ln A) + eb b'
        unfold lt'
        rw [v _ 29 (by omega), v _ 32 (by omega), v _ 33 (by omega)]
        by_cases e : b' = b
        · subst e
          rw [if_pos rfl, if_pos ⟨rfl, rfl⟩]
          show eb b' + k = nt (nI k) + eb b'
          rw [nt_nI (by omega)]
          omega
        · rw [if_neg e, if_neg]
          · omega
          · intro q
            have : nI b = nI b' := q.2
            exact e ((nI_eq (by omega) (by omega)).mp this).symm
      · show (if b' = b then eo b + o1 ow else eo b') = lo' _ b' (ln A) + eo b'
        unfold lo'
        rw [v _ 29 (by omega), v _ 32 (by omega), v _ 34 (by omega)]
        by_cases e : b' = b
        · subst e
          rw [if_pos rfl, if_pos ⟨rfl, rfl⟩]
          show eo b' + o1 ow = o1 ow + eo b'
          omega
        · rw [if_neg e, if_neg]
          · omega
          · intro q
            have : nI b = nI b' := q.2
            exact e ((nI_eq (by omega) (by omega)).mp this).symm
    have hg : gvA A x b (nI t) (nI k) ow wd = _ := if_neg hnk
    rw [hg]
    refine e.cong ?_ (fun q j hr => ?_)
    · show ln (sdL A 3 (nI x) (nI t) (nI b)) = ln A + 1
      rw [ln_sdL, dpL_3]
    · rw [e5]
      unfold sdL
      rw [dpL_3]
      simp only [sv_set1, sv_apL]
      have hr' : q = 5 ∨ q = 6 ∨ q = 7 ∨ q = 9 ∨ q = 10 ∨ (29 ≤ q ∧ q ≤ 35) ∨ q = 38 ∨ q = 39 := hr
      have hl9 : ln (set1 (set1 (set1 A 5 (2 * x + b) (nI (tt - k))) 6 (2 * x + b) (if sv A 6 (2 * x + b) ≠ 0 ∧ ow = 0 then 1 else 0)) 7 (2 * x + b) (if sv A 7 (2 * x + b) ≠ 0 ∧ 0 < nI (tt - k) then 1 else 0)) = ln A := rfl
      rw [hl9]
      by_cases q7 : q = 7
      · subst q7; simp
      by_cases q6 : q = 6
      · subst q6; simp
      by_cases q5 : q = 5
      · subst q5; simp
      by_cases q36 : q = 36
      · omega
      by_cases q35 : q = 35
      · subst q35; by_cases z : j = ln A <;> simp [z]
      by_cases q34 : q = 34
      · subst q34; by_cases z : j = ln A <;> simp [z]
      by_cases q33 : q = 33
      · subst q33; by_cases z : j = ln A <;> simp [z]
      simp [q7, q6, q5, q36, q35, q34, q33]
  · refine ⟨⟨tt - k, by omega, by simp [sv_set1]⟩, ⟨by simp only [sv_set1]; simp; exact bz_if, by simp only [sv_set1]; simp; exact bz_if, g5⟩, ?_, g7⟩
    have s6 : sv (set1 (set1 (set1 A 5 (2 * x + b) (nI (tt - k))) 6 (2 * x + b) (if sv A 6 (2 * x + b) ≠ 0 ∧ ow = 0 then 1 else 0)) 7 (2 * x + b) (if sv A 7 (2 * x + b) ≠ 0 ∧ 0 < sv A 5 (2 * x + b) - nI k then 1 else 0)) 6 (2 * x + b) = if sv A 6 (2 * x + b) ≠ 0 ∧ ow = 0 then 1 else 0 := by simp [sv_set1]
    have s7 : sv (set1 (set1 (set1 A 5 (2 * x + b) (nI (tt - k))) 6 (2 * x + b) (if sv A 6 (2 * x + b) ≠ 0 ∧ ow = 0 then 1 else 0)) 7 (2 * x + b) (if sv A 7 (2 * x + b) ≠ 0 ∧ 0 < sv A 5 (2 * x + b) - nI k then 1 else 0)) 7 (2 * x + b) = if sv A 7 (2 * x + b) ≠ 0 ∧ 0 < sv A 5 (2 * x + b) - nI k then 1 else 0 := by simp [sv_set1]
    have s5 : sv (set1 (set1 (set1 A 5 (2 * x + b) (nI (tt - k))) 6 (2 * x + b) (if sv A 6 (2 * x + b) ≠ 0 ∧ ow = 0 then 1 else 0)) 7 (2 * x + b) (if sv A 7 (2 * x + b) ≠ 0 ∧ 0 < sv A 5 (2 * x + b) - nI k then 1 else 0)) 5 (2 * x + b) = nI (tt - k) := by simp [sv_set1]
    rw [s6, s7, s5]
    intro q
    by_cases z : sv A 6 (2 * x + b) ≠ 0 ∧ ow = 0
    · have own : sv A 6 (2 * x + b) = 1 := by
        rcases g3 with y | y
        · exact absurd y z.1
        · exact y
      have hlt := h2 own z.2
      rw [g2, nI_ltI (by omega) (by omega)] at hlt
      refine ⟨?_, nI_ne0 (by omega) (by omega)⟩
      rw [if_pos ⟨by rw [(g6 own).1]; decide, pos.mpr hlt⟩]
    · rw [if_neg z] at q
      exact absurd q (by decide)
  · show nt (nI (tt - k)) + (if b = b then eb b + k else eb b) = nt (sv A 5 (2 * x + b)) + eb b
    rw [if_pos rfl, g2, nt_nI (by omega), nt_nI (by omega)]
    omega
  · show o1 (if sv A 6 (2 * x + b) ≠ 0 ∧ ow = 0 then 1 else 0) + (if b = b then eo b + o1 ow else eo b) = o1 (sv A 6 (2 * x + b)) + eo b
    rw [if_pos rfl]
    rcases how with y | y
    · subst y
      rcases g3 with z | z
      · rw [z, if_neg (fun q => q.1 rfl), o1_0]; omega
      · rw [z, if_pos ⟨by decide, rfl⟩, o1_0]; omega
    · have := (h1 y).1
      rw [this, y, if_neg (fun q => absurd q.2 (by decide)), o1_0, o1_1]
      omega
  · intro b' _ hne
    exact ⟨if_neg hne, if_neg hne⟩
end Inv3
