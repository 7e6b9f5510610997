/-! what always holds stays: the methods' own steps -/
section Inv4
variable {N : Nat} {A : AS} {eb eo : Nat → Nat}
theorem LI.cwf (h : LI N A eb eo) {x b : Nat} (hx : x ≤ N) (hb : b < 2) : cw N A (2 * x + b) := h.2.2.2.1 _ (by omega)
theorem LI.giveAll (h : LI N A eb eo) {x b t : Nat} (hx : x ≤ N) (hb : b < 2) (ht : t ≤ N) : LI N (gvA A x b (nI t) (sv A 5 (2 * x + b)) (sv A 6 (2 * x + b)) (sv A 6 (2 * x + b))) eb eo := by
  obtain ⟨⟨tt, g1, g2⟩, ⟨g3, g4, g5⟩, g6, g7⟩ := h.cwf hx hb
  have := h.give (k := tt) (ow := sv A 6 (2 * x + b)) (wd := sv A 6 (2 * x + b)) hx hb ht (Or.inl g2.symm) g1 g3 g3 (fun q => ⟨q, q⟩) (fun q1 q2 => absurd (q1.symm.trans q2) (by decide))
  rw [← g2] at this
  exact this
theorem LI.gw (h : LI N A eb eo) {x b : Nat} (hx : x ≤ N) (hb : b < 2) : LI N (gwA A x b) eb eo := by
  unfold gwA
  obtain ⟨⟨tt, g1, g2⟩, ⟨g3, g4, g5⟩, g6, g7⟩ := h.cwf hx hb
  split
  · exact h
  · rename_i hne
    obtain ⟨c, hc, e⟩ : ∃ c, c < N ∧ sv A 9 (2 * x + b) = nI c := by
      rcases g7 with q | q
      · exact absurd (Or.inl q) hne
      · exact q
    rw [e]
    split
    · exact h.giveAll hx hb (by omega)
    · split
      · rename_i ho
        have o : sv A 6 (2 * x + b) = 1 := by
          rcases g3 with q | q
          · exact absurd q ho
          · exact q
        exact h.give (k := 1) hx hb (by omega) (Or.inr ⟨rfl, o⟩) (by omega) (Or.inr rfl) (Or.inr rfl) (fun _ => ⟨o, rfl⟩) (fun _ q => absurd q (by decide))
      · exact h
theorem LI.rd (h : LI N A eb eo) {x b c : Nat} (hx : x ≤ N) (hb : b < 2) (hc : c ≤ N) : LI N (rdA A x b (nI c)) eb eo := by
  unfold rdA
  obtain ⟨⟨tt, g1, g2⟩, ⟨g3, g4, g5⟩, g6, g7⟩ := h.cwf hx hb
  have hN := h.1
  split
  · rename_i ho
    have o : sv A 6 (2 * x + b) = 1 := by
      rcases g3 with q | q
      · exact absurd q ho.2
      · exact q
    have t0 : tt ≠ 0 := by
      intro q
      have := (g6 o).2
      rw [g2, q] at this
      exact this rfl
    refine h.give (k := 1) hx hb hc (Or.inr ⟨rfl, o⟩) (by omega) bz_if (Or.inr rfl) (fun _ => ⟨o, rfl⟩) (fun _ q => ?_)
    have : ¬ sv A 5 (2 * x + b) = 1 := by
      intro z
      rw [if_pos z] at q
      exact absurd q (by decide)
    rw [g2] at this ⊢
    refine nI_lt ?_ (by omega)
    have : tt ≠ 1 := fun z => this (by rw [z]; rfl)
    omega
  · exact h
theorem LI.wr (h : LI N A eb eo) {x b c : Nat} (hx : x ≤ N) (hb : b < 2) (hc : c ≤ N) : LI N (wrA A x b (nI c)) eb eo := by
  unfold wrA
  split
  · exact h.giveAll hx hb hc
  · exact h
theorem LI.lrn (h : LI N A eb eo) {i : Nat} {c w n : Int32} (hc : c = -1 ∨ ∃ d, d < N ∧ c = nI d) (hw : bz w) : LI N (lnA A i c w n) eb eo := by
  refine LI.set (k := 11) ?_ (by unfold rel; omega)
  obtain ⟨hN, hl, hu, hcw, ht, ho⟩ := h
  refine ⟨hN, hl, hu, fun j hj => ?_, ht, ho⟩
  obtain ⟨q1, ⟨r1, r2, r3⟩, q3, q4⟩ := hcw j hj
  refine ⟨q1, ⟨r1, r2, ?_⟩, q3, ?_⟩
  · rw [sv_set1]
    by_cases e : j = i
    · rw [if_pos ⟨rfl, e⟩]; exact hw
    · rw [if_neg (fun z => e z.2)]; exact r3
  · rw [sv_set1, if_neg (by omega), sv_set1]
    by_cases e : j = i
    · rw [if_pos ⟨rfl, e⟩]; exact hc
    · rw [if_neg (fun z => e z.2)]; exact q4
/-- the tokens in hand go into a cell -/
theorem LI.gt (h : LI N A eb eo) {x b ct : Nat} {ow wd dt : Int32} (hx : x ≤ N) (hb : b < 2) (hct : eb b = ct) (how : bz ow) (hwd : bz wd) (hc1 : 1 ≤ ct) (hoo : eo b = o1 ow) (hw1 : ow = 1 → wd = 1) (hz : ∀ b', b' < 2 → b' ≠ b → eb b' = 0 ∧ eo b' = 0) : LI N (gtA A (2 * x + b) (nI ct) ow wd dt) (fun _ => 0) (fun _ => 0) := by
  have hN := h.1
  obtain ⟨⟨tt, g1, g2⟩, ⟨g3, g4, g5⟩, g6, g7⟩ := h.cwf hx hb
  have sum := h.2.2.2.2.1 b hb
  have le : tt + ct ≤ N + 1 := by
    have := sm_le (g := fun y => nt (sv A 5 (2 * y + b))) (N + 1) x (by omega)
    simp only [g2] at this
    rw [nt_nI (by omega)] at this
    omega
  have e5 : sv A 5 (2 * x + b) + nI ct = nI (tt + ct) := by rw [g2]; exact nI_add tt ct
  have z1 : ∀ v7 : Int32, bz v7 → (ow = 1 ∨ sv A 6 (2 * x + b) = 1 → v7 = 1) → LI N (set1 (set1 (set1 A 5 (2 * x + b) (nI (tt + ct))) 6 (2 * x + b) (if sv A 6 (2 * x + b) ≠ 0 ∨ ow ≠ 0 then 1 else 0)) 7 (2 * x + b) v7) (fun _ => 0) (fun _ => 0) := by
    intro v7 hv hv1
    have s6 : sv (set1 (set1 (set1 A 5 (2 * x + b) (nI (tt + ct))) 6 (2 * x + b) (if sv A 6 (2 * x + b) ≠ 0 ∨ ow ≠ 0 then 1 else 0)) 7 (2 * x + b) v7) 6 (2 * x + b) = (if sv A 6 (2 * x + b) ≠ 0 ∨ ow ≠ 0 then 1 else 0) := by simp [sv_set1]
    have s7 : sv (set1 (set1 (set1 A 5 (2 * x + b) (nI (tt + ct))) 6 (2 * x + b) (if sv A 6 (2 * x + b) ≠ 0 ∨ ow ≠ 0 then 1 else 0)) 7 (2 * x + b) v7) 7 (2 * x + b) = v7 := by simp [sv_set1]
    have s5 : sv (set1 (set1 (set1 A 5 (2 * x + b) (nI (tt + ct))) 6 (2 * x + b) (if sv A 6 (2 * x + b) ≠ 0 ∨ ow ≠ 0 then 1 else 0)) 7 (2 * x + b) v7) 5 (2 * x + b) = nI (tt + ct) := by simp [sv_set1]
    refine h.cell hx hb ⟨⟨tt + ct, le, s5⟩, ⟨by rw [s6]; exact bz_if, by rw [s7]; exact hv, g5⟩, ?_, g7⟩ ?_ ?_ (fun b' hb' hne => ?_)
    · rw [s6, s7, s5]
      intro q
      refine ⟨hv1 ?_, nI_ne0 (by omega) (by omega)⟩
      by_cases y : sv A 6 (2 * x + b) ≠ 0 ∨ ow ≠ 0
      · rcases y with y | y
        · rcases g3 with w | w
          · exact absurd w y
          · exact Or.inr w
        · rcases how with w | w
          · exact absurd w y
          · exact Or.inl w
      · rw [if_neg y] at q
        exact absurd q (by decide)
    · rw [g2, nt_nI (by omega), nt_nI (by omega)]
      omega
    · rw [hoo]
      have so := h.2.2.2.2.2 b hb
      have lo : o1 (sv A 6 (2 * x + b)) ≤ sm (fun y => o1 (sv A 6 (2 * y + b))) (N + 1) := sm_le (g := fun y => o1 (sv A 6 (2 * y + b))) (N + 1) x (by omega)
      rcases how with y | y <;> rcases g3 with w | w
      · rw [w, y, if_neg (by rintro (q | q) <;> exact q rfl), o1_0]
      · rw [w, y, if_pos (Or.inl (by decide)), o1_0, o1_1]
      · rw [w, y, if_pos (Or.inr (by decide)), o1_0, o1_1]
      · rw [w, o1_1] at lo
        rw [hoo, y, o1_1] at so
        omega
    · obtain ⟨a, c⟩ := hz b' hb' hne
      exact ⟨a.symm, c.symm⟩
  unfold gtA
  rw [e5]
  rcases hwd with y | y
  · rw [if_pos y]
    refine (z1 (sv A 7 (2 * x + b)) g4 (fun q => ?_)).cong rfl (fun k j hr => ?_)
    · rcases q with q | q
      · exact absurd (y.symm.trans (hw1 q)) (by decide)
      · exact (g6 q).1
    · have : sv (set1 (set1 (set1 A 5 (2 * x + b) (nI (tt + ct))) 6 (2 * x + b) (if sv A 6 (2 * x + b) ≠ 0 ∨ ow ≠ 0 then 1 else 0)) 7 (2 * x + b) (sv A 7 (2 * x + b))) k j = sv (set1 (set1 A 5 (2 * x + b) (nI (tt + ct))) 6 (2 * x + b) (if sv A 6 (2 * x + b) ≠ 0 ∨ ow ≠ 0 then 1 else 0)) k j := by
        rw [sv_set1]
        by_cases e : k = 7 ∧ j = 2 * x + b
        · rw [if_pos e, e.1, e.2, sv_set1, if_neg (by omega), sv_set1, if_neg (by omega)]
        · rw [if_neg e]
      exact this.symm
  · rw [if_neg (by rw [y]; decide)]
    exact (z1 1 (Or.inr rfl) (fun _ => rfl)).set (k := 8) (by unfold rel; omega)
theorem LI.enB (h : LI N A eb eo) {c b : Nat} : LI N (enB A c b) eb eo := by
  unfold Jvm.Pilot.@@N@@.enB
  refine LI.set (k := 20) (LI.set (k := 12) ?_ (by unfold rel; omega)) (by unfold rel; omega)
  split
  · exact h.set (by unfold rel; omega)
  · exact (h.set (by unfold rel; omega)).set (by unfold rel; omega)
theorem LI.en (h : LI N A eb eo) {c b : Nat} (hc : c < N) : LI N (enA N A c b) eb eo := by
  unfold enA
  split
  · exact h.enB
  · refine LI.set (k := 37) ?_ (by unfold rel; omega)
    exact h.enB.send (kd := 6) (s := c) (t := N) (b := 0) ⟨by omega, by omega, by omega, Or.inr (Or.inr (Or.inr (Or.inr ⟨rfl, hc, rfl, rfl⟩)))⟩
theorem LI.ak (h : LI N A eb eo) {c b : Nat} {kd : Int32} (hc : c < N) (hb : b < 2) (hk : kd = 1 ∨ kd = 2) : ∀ x, x ≤ N + 1 → LI N (akA A c kd (nI b) x) eb eo
  | 0, _ => h
  | x + 1, hx => by
    unfold akA
    have ih := LI.ak h hc hb hk x (by omega)
    split
    · exact ih
    · refine ih.send ⟨by omega, by omega, hb, ?_⟩
      rcases hk with q | q
      · exact Or.inl ⟨q, hc⟩
      · exact Or.inr (Or.inl ⟨q, hc⟩)
theorem rwk_12 {c : Nat} : rwk A c = 1 ∨ rwk A c = 2 := by
  unfold rwk
  split
  · exact Or.inl rfl
  · exact Or.inr rfl
theorem LI.ag (h : LI N A eb eo) {c b : Nat} (hc : c < N) (hb : b < 2) (hbl : sv A 15 c = nI b) (hw : bz (sv A 13 c)) : LI N (agA N A c) eb eo := by
  unfold agA
  rw [hbl]
  split
  · exact LI.ak ((h.set (by unfold rel; omega)).set (by unfold rel; omega)) hc hb rwk_12 _ (Nat.le_refl _)
  · refine LI.set39 (LI.set (k := 37) ?_ (by unfold rel; omega)) hw
    exact (h.set (k := 14) (by unfold rel; omega)).send ⟨by omega, by omega, hb, Or.inr (Or.inr (Or.inl ⟨rfl, hc, rfl⟩))⟩
theorem LI.tl (h : LI N A eb eo) {b : Nat} {co w sr : Int32} (hb : b < 2) (hco : co = -1 ∨ ∃ d, d < N ∧ co = nI d) (hw : bz w) : ∀ c, c ≤ N → LI N (tlA N A b co w sr c) eb eo
  | 0, _ => h
  | c + 1, hc => by
    unfold tlA
    have ih := LI.tl h hb hco hw (sr := sr) c (by omega)
    refine LI.set (k := 37) (LI.set39 (LI.set38 ?_ hco) hw) (by unfold rel; omega)
    exact ih.send ⟨by omega, by omega, hb, Or.inr (Or.inr (Or.inr (Or.inl ⟨rfl, rfl, by omega⟩)))⟩
theorem bz_acw {b : Nat} : bz (acw A b) := by
  unfold acw
  split
  · exact Or.inl rfl
  · split
    · exact Or.inl rfl
    · exact Or.inr rfl
theorem LI.ta (h : LI N A eb eo) {b : Nat} (hb : b < 2) (hco : sv A 40 b = -1 ∨ ∃ d, d < N ∧ sv A 40 b = nI d) : LI N (taA N A b) eb eo :=
  (h.tl hb hco bz_acw N (Nat.le_refl _)).lrn hco bz_acw
end Inv4
