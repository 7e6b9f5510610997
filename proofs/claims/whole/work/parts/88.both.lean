/-! BOTH TOGETHER: what the one does leaves the other as it was -/
def WK (X : Nat → Prop) (σ σ' : PS) : Prop := nx σ ≤ nx σ' ∧ (∀ r, r < nx σ → tg σ' r = tg σ r ∧ al σ' r = al σ r) ∧ (∀ k r, r < nx σ → ¬ X r → fi σ' k r = fi σ k r ∧ fr σ' k r = fr σ k r) ∧ ∀ r j, r < nx σ → ¬ X r → ai σ' r j = ai σ r j ∧ ar σ' r j = ar σ r j
section Both
variable {N T m mm : Nat} {Y Z : Nat → Nat} {bd bd' : Nat × Nat × Nat} {hs : List Nat} {σ σ' σ0 : PS} {A : AS} {f : Nat → Nat} {g : Nat → Nat} {rf : Nat → Nat → Nat} {X : Nat → Prop} {D : Nat → Nat → Prop} {P : Option PV → PS → Prop}
theorem AL.wk {l n : Nat} (h : AL σ l n f) (w : WK X σ σ') (hF : FR σ) (hX : ∀ r, X r → tg σ r = 9 ∨ tg σ r = 100 ∨ tg σ r = 101) : AL σ' l n f ∧ fr σ' 1 l = fr σ 1 l ∧ al σ' (fr σ 1 l) = al σ (fr σ 1 l) ∧ tg σ' (fr σ 1 l) = tg σ (fr σ 1 l) := by
  obtain ⟨a1, a2, a3, a4, a5, a6, a7, a8, a9⟩ := h
  obtain ⟨w1, w2, w3, w4⟩ := w
  have nl : ¬ X l := fun q => by have := hX l q; omega
  have na : ¬ X (fr σ 1 l) := fun q => by have := hX _ q; rcases a8 with z | z <;> omega
  have e1 := (w3 1 l a7 nl).2
  have e2 := w2 _ a6
  refine ⟨?_, e1, e2.2, e2.1⟩
  unfold AL
  rw [(w2 l a7).1, (w3 2 l a7 nl).1, e1, e2.1, e2.2]
  refine ⟨a1, a2, a3, a4, a5, by omega, by omega, a8, fun i hi => ?_⟩
  obtain ⟨q1, q2⟩ := a9 i hi
  rw [(w4 _ i a6 na).2, (w2 _ (hF.lt (by omega))).1]
  exact ⟨q1, q2⟩
theorem WK.lay (w : WK X σ σ') (hF : FR σ) (hX : ∀ r, X r → tg σ r = 9 ∨ tg σ r = 100 ∨ tg σ r = 101) (h : Lay N Y σ) : Lay N Y σ' := by
  obtain ⟨w1, w2, w3, w4⟩ := w
  obtain ⟨a0, ⟨b1, b2, b3, b4, b5, b6, b7, b8, b9⟩, ⟨c1, c2, c3⟩, ⟨d1, d2, d3⟩, ⟨e1, e2, e3⟩, ⟨f1, f2⟩, ⟨g1, g2, g3⟩, rest⟩ := h
  have x0 := hF.lt (r := Y 0) (by omega)
  have x1 := hF.lt (r := Y 1) (by omega)
  have x2 := hF.lt (r := Y 2) (by omega)
  have x3 := hF.lt (r := Y 3) (by omega)
  have x4 := hF.lt (r := Y 4) (by omega)
  have x5 := hF.lt (r := Y 5) (by omega)
  have n0 : ¬ X (Y 0) := fun q => by have := hX _ q; omega
  have n1 : ¬ X (Y 1) := fun q => by have := hX _ q; omega
  have n2 : ¬ X (Y 2) := fun q => by have := hX _ q; omega
  have n3 : ¬ X (Y 3) := fun q => by have := hX _ q; omega
  have n5 : ¬ X (Y 5) := fun q => by have := hX _ q; omega
  refine ⟨a0, ⟨?_, ?_, ?_, ?_, ?_, ?_, ?_, ?_, ?_⟩, ⟨?_, ?_, fun i hi => ⟨?_, ?_⟩⟩, ⟨?_, ?_, fun c hc => ⟨?_, ?_⟩⟩, ⟨?_, ?_, fun b hb => ⟨?_, ?_, ?_⟩⟩, ⟨?_, ?_⟩, ⟨?_, ?_, ?_⟩, rest⟩
  · rw [(w2 _ x0).1]; exact b1
  · rw [(w3 _ _ x0 n0).1]; exact b2
  · rw [(w3 _ _ x0 n0).1]; exact b3
  · rw [(w3 _ _ x0 n0).1]; exact b4
  · rw [(w3 _ _ x0 n0).2]; exact b5
  · rw [(w3 _ _ x0 n0).2]; exact b6
  · rw [(w3 _ _ x0 n0).2]; exact b7
  · rw [(w3 _ _ x0 n0).2]; exact b8
  · rw [(w3 _ _ x0 n0).2]; exact b9
  · rw [(w2 _ x1).1]; exact c1
  · rw [(w2 _ x1).2]; exact c2
  · rw [(w4 _ _ x1 n1).2]; exact (c3 i hi).1
  · rw [(w2 _ (hF.lt (by have := (c3 i hi).2; omega))).1]; exact (c3 i hi).2
  · rw [(w2 _ x2).1]; exact d1
  · rw [(w2 _ x2).2]; exact d2
  · rw [(w4 _ _ x2 n2).2]; exact (d3 c hc).1
  · rw [(w2 _ (hF.lt (by have := (d3 c hc).2; omega))).1]; exact (d3 c hc).2
  · rw [(w2 _ x3).1]; exact e1
  · rw [(w2 _ x3).2]; exact e2
  · rw [(w4 _ _ x3 n3).2]; exact (e3 b hb).1
  · rw [(w2 _ (hF.lt (by have := (e3 b hb).2.1; omega))).1]; exact (e3 b hb).2.1
  · have nd : ¬ X (Y (300 + b)) := fun q => by have := hX _ q; have := (e3 b hb).2.1; omega
    rw [(w3 _ _ (hF.lt (by have := (e3 b hb).2.1; omega)) nd).2]; exact (e3 b hb).2.2
  · rw [(w2 _ x4).1]; exact f1
  · rw [(w2 _ x4).2]; exact f2
  · rw [(w2 _ x5).1]; exact g1
  · rw [(w3 _ _ x5 n5).2]; exact g2
  · rw [(w3 _ _ x5 n5).2]; exact g3
/-- the class's picture is not touched by what is not the class's -/
theorem CRx.wk (h : CRx N Y bd hs σ A f mm g rf) (w : WK X σ σ') (hX : ∀ r, X r → tg σ r = 9 ∨ tg σ r = 100 ∨ tg σ r = 101) (h4 : ¬ X (Y 4)) (hF' : FR σ') (hb1 : nx σ' + bd.1 ≤ nx σ + bd'.1) (hb2 : sl σ' + bd.2.1 ≤ sl σ + bd'.2.1) (hb3 : bd'.2.2 = bd.2.2) : CRx N Y bd' hs σ' A f mm g rf := by
  obtain ⟨h1, hF, ⟨s1, s2, s3, s4, s5, s6, s7⟩, ⟨o1, o2, o3, o4, o5, o6, o7, o8, o9, o10⟩, ⟨p1, p2, p3, p4⟩, ⟨a1, a2, a3, a4, a5, a6, a7, a8, a9, a10⟩, hr, hc, hd, hb⟩ := h
  have hL := w.lay hF hX h1
  obtain ⟨w1, w2, w3, w4⟩ := id w
  have no : ∀ r, tg σ r ≠ 0 → tg σ r ≠ 9 → tg σ r ≠ 100 → tg σ r ≠ 101 → ∀ k, fi σ' k r = fi σ k r ∧ fr σ' k r = fr σ k r := fun r y0 y1 y2 y3 k => w3 k r (hF.lt y0) (fun q => by have := hX r q; omega)
  have sh : ∀ i k, i < 2 * N + 2 → fi σ' k (Y (100 + i)) = fi σ k (Y (100 + i)) := fun i k hi => by
    have t := h1.sh hi
    exact (no _ (by omega) (by omega) (by omega) (by omega) k).1
  have co : ∀ i k, i < N → fi σ' k (Y (200 + i)) = fi σ k (Y (200 + i)) := fun i k hi => by
    have t := h1.co hi
    exact (no _ (by omega) (by omega) (by omega) (by omega) k).1
  have t0 := h1.2.1.1
  have me := no (Y 0) (by omega) (by omega) (by omega) (by omega)
  obtain ⟨l6, c6, e6, t6⟩ := a1.wk w hF hX
  obtain ⟨l7, c7, e7, t7⟩ := a2.wk w hF hX
  have rows : ∀ b, b < 2 → AL σ' (Y (310 + b)) (rn A b) (rf b) ∧ fr σ' 1 (Y (310 + b)) = fr σ 1 (Y (310 + b)) ∧ al σ' (fr σ 1 (Y (310 + b))) = al σ (fr σ 1 (Y (310 + b))) ∧ tg σ' (fr σ 1 (Y (310 + b))) = tg σ (fr σ 1 (Y (310 + b))) := fun b hb => (hr b hb).1.wk w hF hX
  obtain ⟨l10, c10, e10, t10⟩ := rows 0 (by omega)
  obtain ⟨l11, c11, e11, t11⟩ := rows 1 (by omega)
  have ltr : ∀ r, tg σ r = 4 → tg σ' r = 4 ∧ ∀ k, fi σ' k r = fi σ k r := fun r t => ⟨(w2 r (hF.lt (by omega))).1.trans t, fun k => (no r (by omega) (by omega) (by omega) (by omega) k).1⟩
  have rq : ∀ r, tg σ r = 6 → tg σ' r = 6 ∧ ∀ k, fi σ' k r = fi σ k r := fun r t => ⟨(w2 r (hF.lt (by omega))).1.trans t, fun k => (no r (by omega) (by omega) (by omega) (by omega) k).1⟩
  have cap : caps Y σ' = caps Y σ := by
    unfold caps
    rw [c6, c7, show fr σ' 1 (Y 310) = fr σ 1 (Y 310) from c10, show fr σ' 1 (Y 311) = fr σ 1 (Y 311) from c11, e6, e7, show al σ' (fr σ 1 (Y 310)) = al σ (fr σ 1 (Y 310)) from e10, show al σ' (fr σ 1 (Y 311)) = al σ (fr σ 1 (Y 311)) from e11]
  refine ⟨hL, hF', ⟨fun i hi => ?_, fun i hi => ?_, fun i hi => ?_, fun i hi => ?_, fun i hi => ?_, fun i hi => ?_, fun i hi => ?_⟩, ⟨fun i hi => ?_, fun i hi => ?_, fun i hi => ?_, fun i hi => ?_, fun i hi => ?_, fun i hi => ?_, fun i hi => ?_, fun i hi => ?_, fun i hi => ?_, fun i hi => ?_⟩, ⟨?_, ?_, ?_, fun c hc => ?_⟩, ⟨l6, l7, fun i hi => ?_, fun j hj => ?_, a5, a6, a7, fun x hx => ?_, a9, a10⟩, fun b hb => ⟨(rows b hb).1, fun i hi => ?_⟩, fun b hb => ?_, fun l l' y1 y2 y3 y4 => ?_, ?_, ?_⟩
  · rw [sh i _ hi]; exact s1 i hi
  · rw [sh i _ hi]; exact s2 i hi
  · rw [sh i _ hi]; exact s3 i hi
  · rw [sh i _ hi]; exact s4 i hi
  · rw [sh i _ hi]; exact s5 i hi
  · rw [sh i _ hi]; exact s6 i hi
  · rw [sh i _ hi]; exact s7 i hi
  · rw [co i _ hi]; exact o1 i hi
  · rw [co i _ hi]; exact o2 i hi
  · rw [co i _ hi]; exact o3 i hi
  · rw [co i _ hi]; exact o4 i hi
  · rw [co i _ hi]; exact o5 i hi
  · rw [co i _ hi]; exact o6 i hi
  · rw [co i _ hi]; exact o7 i hi
  · rw [co i _ hi]; exact o8 i hi
  · rw [co i _ hi]; exact o9 i hi
  · rw [co i _ hi]; exact o10 i hi
  · rw [(me _).1]; exact p1
  · rw [(me _).1]; exact p2
  · rw [(me _).1]; exact p3
  · rw [(w4 _ _ (hF.lt (by have := h1.2.2.2.2.2.1.1; omega)) h4).1]; exact p4 c hc
  · obtain ⟨t, l⟩ := a3 i hi
    obtain ⟨t', k'⟩ := ltr _ t
    refine ⟨t', ?_⟩
    unfold LTR at l ⊢
    rw [k', k', k', k', k', k', k', k', k', k', k']
    exact l
  · exact (ltr _ (a4 j hj)).1
  · obtain ⟨t, q⟩ := a8 x hx
    exact ⟨(ltr _ t).1, q⟩
  · obtain ⟨t, q⟩ := (hr b hb).2 i hi
    obtain ⟨t', k'⟩ := rq _ t
    rw [k', k', k']
    exact ⟨t', q⟩
  · obtain ⟨q1, q2⟩ := hc b hb
    have td := h1.dk hb
    have nd := no _ (show tg σ (Y (300 + b)) ≠ 0 by omega) (by omega) (by omega) (by omega)
    rw [(nd 130).1, (nd 129).2]
    refine ⟨q1, ?_⟩
    rcases q2 with q2 | ⟨t, q2⟩
    · exact Or.inl q2
    · obtain ⟨t', k'⟩ := rq _ t
      rw [k', k', k']
      exact Or.inr ⟨t', q2⟩
  · have key : ∀ l, (l = 6 ∨ l = 7 ∨ l = 310 ∨ l = 311) → fr σ' 1 (Y l) = fr σ 1 (Y l) ∧ tg σ' (fr σ 1 (Y l)) = tg σ (fr σ 1 (Y l)) := by
      rintro l (rfl | rfl | rfl | rfl)
      · exact ⟨c6, t6⟩
      · exact ⟨c7, t7⟩
      · exact ⟨c10, t10⟩
      · exact ⟨c11, t11⟩
    rw [(key l y1).1, (key l y1).2] at y4
    rw [(key l y1).1, (key l' y2).1]
    exact hd l l' y1 y2 y3 y4
  · have := hb.1
    rw [cap, hb3]
    omega
  · have := hb.2
    rw [cap, hb3]
    omega
/-- the reference's own -/
def own (m : Nat) (Z : Nat → Nat) (r : Nat) : Prop := r = m ∨ ∃ k, isZ k = true ∧ r = Z k
theorem FQ.nx (h : FQ m Z σ σ') : nx σ' = nx σ ∧ sl σ' = sl σ ∧ tg σ' = tg σ := ⟨congrArg (fun z => z.1) h.1, congrArg (fun z => z.2.1) h.1, congrArg (fun z => z.2.2) h.1⟩
theorem FQ.wk (h : FQ m Z σ σ') : WK (own m Z) σ σ' := by
  obtain ⟨e1, e2, e3⟩ := h.nx
  obtain ⟨a1, a2, a3, a4, a5, a6⟩ := h
  refine ⟨by omega, fun r _ => ⟨by rw [e3], by rw [a3]⟩, fun k r _ hX => ⟨a5 k r (Or.inr (fun q => hX (Or.inl q))), by rw [a2]⟩, fun r j _ hX => ⟨a6 r j (fun k hk q => hX (Or.inr ⟨k, hk, q⟩)), by rw [a4]⟩⟩
theorem FQ.fr (h : FQ m Z σ σ') (hF : FR σ) : FR σ' := by
  obtain ⟨e1, e2, e3⟩ := h.nx
  unfold FR
  rw [e1, e3]
  exact hF
theorem rr_own (hR : RR N m Z σ0 D σ A) {r : Nat} (h : own m Z r) : tg σ r = 9 ∨ tg σ r = 100 ∨ tg σ r = 101 := by
  rcases h with rfl | ⟨k, hk, rfl⟩
  · exact Or.inl hR.tg
  · rw [(hR.2.1.2.2.2.1 k hk).2.1]
    rcases tz_or (k := k) with q | q
    · exact Or.inr (Or.inl q)
    · exact Or.inr (Or.inr q)
theorem rr_own0 (hR : RR N m Z σ0 D σ A) {r : Nat} (h : own m Z r) : tg σ0 r = 9 ∨ tg σ0 r = 100 ∨ tg σ0 r = 101 := by
  have e := hR.2.2.1.nx.2.2
  rw [← e]
  exact rr_own hR h
/-- the class's picture after the reference's step -/
theorem CRx.ref {A' : AS} (h : CRx N Y bd hs σ A f mm g rf) (hR : RR N m Z σ D σ' A') (h4 : ∀ k, isZ k = true → Z k ≠ Y 4) : CRx N Y bd hs σ' A f mm g rf := by
  have q := hR.2.2.1
  obtain ⟨e1, e2, e3⟩ := q.nx
  refine h.wk q.wk (fun r hr => rr_own0 hR hr) ?_ (q.fr h.2.1) (by omega) (by omega) rfl
  rintro (z | ⟨k, hk, z⟩)
  · have t1 := rr_own0 hR (Or.inl rfl)
    have t2 : tg σ m = 9 := by rw [← e3]; exact hR.tg
    have t3 := h.1.2.2.2.2.2.1.1
    rw [z] at t3
    omega
  · exact h4 k hk z.symm
theorem RR.re (h : RR N m Z σ0 D σ A) : RR N m Z σ D σ A := ⟨h.1, h.2.re⟩
/-- the reference's picture after the class's step -/
theorem RR.cls (h : RR N m Z σ0 D σ A) (hF : FR σ) (k : HK (Y 4) σ σ' hs) (h4 : ∀ k, isZ k = true → Z k ≠ Y 4) : RR N m Z σ' D σ' A := by
  obtain ⟨hD, ⟨a1, a2, a3, a4, a5⟩, -, ⟨c1, c2, c3, c4⟩, h5, h6, h7⟩ := h
  obtain ⟨-, k1, k2, k3, k5⟩ := k
  have xm := hF.lt (r := m) (by omega)
  have xz : ∀ k, isZ k = true → Z k < nx σ := fun k hk => hF.lt (by rw [(a4 k hk).2.1]; rcases tz_or (k := k) with q | q <;> omega)
  have fm : ∀ k, 512 ≤ k → fi σ' k m = fi σ k m := fun k hk => (k3 k m xm hk).1
  refine ⟨hD, ⟨a1, (k2 m xm).1.trans a2, (fm 513 (by omega)).trans a3, fun k hk => ?_, a5⟩, FQ.rf, ⟨(fm 514 (by omega)).trans c1, (fm 515 (by omega)).trans c2, (fm 516 (by omega)).trans c3, (fm 540 (by omega)).trans c4⟩, fun b hb => (k5 _ b (xz 25 rfl) (h4 25 rfl)).trans (h5 b hb), fun k i y1 y2 y3 y4 => (k5 _ i (xz k y1) (h4 k y1)).trans (h6 k i y1 y2 y3 y4), fun k i y1 y2 y3 => ?_⟩
  · obtain ⟨q1, q2, q3⟩ := a4 k hk
    exact ⟨(k3 _ m xm (by omega)).2.trans q1, (k2 _ (xz k hk)).1.trans q2, (k2 _ (xz k hk)).2.trans q3⟩
  · rw [k5 _ i (xz k y1) (h4 k y1)]
    exact h7 k i y1 y2 y3
end Both
