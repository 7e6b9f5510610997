/-! the reference: issue, getting tokens, evict -/
section RefJ
variable {M : MM} {d pc : Nat} {lv : List (Nat × PV)} {st : List PV} {σ : PS} {P : Option PV → PS → Prop} {N m T : Nat} {Z : Nat → Nat} {σ0 : PS} {D : Nat → Nat → Prop} {A : AS} {eb eo : Nat → Nat}
/-- an access begins: what will be written -/
theorem RR.bg0 {c : Nat} (hR : RR N m Z σ0 nD σ A) (h12 : sv A 12 c = 0) : RR N m Z σ0 (fun k i => (k = 12 ∨ k = 14) ∧ i = c) σ (set1 A 12 c 1) := by
  refine ⟨fun k i q => by omega, hR.2.cg rfl (fun _ _ => rfl) (fun k hk => by rw [sv_set1, if_neg (by omega)]) (fun k i y1 y2 y3 y4 => ⟨?_, ?_⟩)⟩
  · rintro (z | z)
    · refine y4 ?_
      by_cases e : (k = 12 ∨ k = 14) ∧ i = c
      · exact Or.inr e
      · refine Or.inl ?_
        unfold Ex at z ⊢
        rw [sv_set1 (k' := 9), if_neg (by omega), sv_set1 (k' := 40), if_neg (by omega), sv_set1 (k' := 29), if_neg (by omega), sv_set1 (k' := 38), if_neg (by omega)]
        rcases z with z | z | z | z
        · exact Or.inl z
        · exact Or.inr (Or.inl z)
        · refine Or.inr (Or.inr (Or.inl ⟨z.1, ?_⟩))
          rw [sv_set1, if_neg (by omega)]
          exact z.2
        · exact Or.inr (Or.inr (Or.inr z))
    · exact z
  · rw [sv_set1, if_neg]
    rintro ⟨rfl, rfl⟩
    exact y4 (Or.inr ⟨Or.inl rfl, rfl⟩)
theorem bg_eq {c : Nat} {w b v : Int32} (k i : Nat) : sv (bgA A c w b v) k i = sv (set1 (set1 (set1 (set1 (set1 (set1 (set1 A 12 c 1) 15 c b) 13 c w) 16 c v) 17 c (sv A 17 c + 1)) 18 c 0) 14 c 0) k i := by
  rw [sv_bgA, sv_set1, sv_set1, sv_set1, sv_set1, sv_set1, sv_set1, sv_set1]
  by_cases e : i = c
  · subst e
    simp only [and_true, ite_true]
    by_cases e1 : k = 14
    · simp [e1]
    by_cases e2 : k = 18
    · simp [e2]
    by_cases e3 : k = 17
    · simp [e3]
    by_cases e4 : k = 16
    · simp [e4]
    by_cases e5 : k = 13
    · simp [e5]
    by_cases e6 : k = 15
    · simp [e6]
    by_cases e7 : k = 12
    · simp [e7]
    simp [e1, e2, e3, e4, e5, e6, e7]
  · simp [e]
theorem ln_bgA {c : Nat} {w b v : Int32} : ln (bgA A c w b v) = ln A := by
  unfold bgA
  rw [ln_set1, ln_set1, ln_set1, ln_set1, ln_set1, ln_set1, ln_set1]
theorem rn_bgA {c : Nat} {w b v : Int32} : rn (bgA A c w b v) = rn A := by
  unfold bgA
  rw [rn_set1, rn_set1, rn_set1, rn_set1, rn_set1, rn_set1, rn_set1]
theorem RR.bgE {c : Nat} {w b v : Int32} (h : RR N m Z σ0 D σ (set1 (set1 (set1 (set1 (set1 (set1 (set1 A 12 c 1) 15 c b) 13 c w) 16 c v) 17 c (sv A 17 c + 1)) 18 c 0) 14 c 0)) : RR N m Z σ0 D σ (bgA A c w b v) := by
  refine h.eq ?_ ?_ (fun k i => bg_eq k i)
  · rw [ln_bgA, ln_set1, ln_set1, ln_set1, ln_set1, ln_set1, ln_set1, ln_set1]
  · rw [rn_bgA, rn_set1, rn_set1, rn_set1, rn_set1, rn_set1, rn_set1, rn_set1]
end RefJ
