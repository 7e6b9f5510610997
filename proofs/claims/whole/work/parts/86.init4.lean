/-! the class's constructor: what stands at its end -/
def A0 (N : Nat) (R Q : Int32) : AS := (0, (fun _ => 0), fun k i => if k = 2 then R else if k = 3 then Q else if k = 9 ∨ k = 40 then -1 else if (k = 5 ∨ k = 6 ∨ k = 7) ∧ 2 * N ≤ i ∧ i < 2 * N + 2 then (if k = 5 then nI (N + 1) else 1) else 0)
def Yf (r n N : Nat) (y : Nat) : Nat := if y = 0 then r else if y = 1 then n else if y = 2 then n + (2 * N + 3) else if y = 3 then n + (3 * N + 5) else if y = 4 then n + (3 * N + 4) else if y = 5 then n + (3 * N + 10) else if y = 6 then n + (3 * N + 10) + 1 else if y = 7 then n + (3 * N + 10) + 2 else if y < 200 then n + 1 + (y - 100) else if y < 300 then n + (2 * N + 3) + 1 + (y - 200) else if y < 310 then n + (3 * N + 5) + 1 + 2 * (y - 300) else n + (3 * N + 5) + 2 + 2 * (y - 310)
section Ini4
variable {σ σ' σ0 : PS} {r N n a z b i : Nat} {R Q : Int32} {P : Option PV → PS → Prop}
theorem sv_A0 {k : Nat} : sv (A0 N R Q) k i = if k = 2 then R else if k = 3 then Q else if k = 9 ∨ k = 40 then -1 else if (k = 5 ∨ k = 6 ∨ k = 7) ∧ 2 * N ≤ i ∧ i < 2 * N + 2 then (if k = 5 then nI (N + 1) else 1) else 0 := rfl
theorem sv_A0z {k : Nat} (h : k ≠ 2 ∧ k ≠ 3 ∧ k ≠ 9 ∧ k ≠ 40 ∧ k ≠ 5 ∧ k ≠ 6 ∧ k ≠ 7) : sv (A0 N R Q) k i = 0 := by
  rw [sv_A0, if_neg (by omega), if_neg (by omega), if_neg (by omega), if_neg (by omega)]
theorem sv_A0n {k : Nat} (h : k = 9 ∨ k = 40) : sv (A0 N R Q) k i = -1 := by
  rw [sv_A0, if_neg (by omega), if_neg (by omega), if_pos h]
theorem sv_A0h {k : Nat} (h : k = 5 ∨ k = 6 ∨ k = 7) (hi : 2 * N ≤ i ∧ i < 2 * N + 2) : sv (A0 N R Q) k i = if k = 5 then nI (N + 1) else 1 := by
  rw [sv_A0, if_neg (by omega), if_neg (by omega), if_neg (by omega), if_pos ⟨h, hi⟩]
theorem sv_A0o {k : Nat} (h : k = 5 ∨ k = 6 ∨ k = 7) (hi : ¬ (2 * N ≤ i ∧ i < 2 * N + 2)) : sv (A0 N R Q) k i = 0 := by
  rw [sv_A0, if_neg (by omega), if_neg (by omega), if_neg (by omega), if_neg (fun q => hi q.2)]
theorem Yf_s (h : i < 100) : Yf r n N (100 + i) = n + 1 + i := by
  unfold Yf
  rw [if_neg (by omega), if_neg (by omega), if_neg (by omega), if_neg (by omega), if_neg (by omega), if_neg (by omega), if_neg (by omega), if_neg (by omega), if_pos (by omega)]
  omega
theorem Yf_c (h : i < 100) : Yf r n N (200 + i) = n + (2 * N + 3) + 1 + i := by
  unfold Yf
  rw [if_neg (by omega), if_neg (by omega), if_neg (by omega), if_neg (by omega), if_neg (by omega), if_neg (by omega), if_neg (by omega), if_neg (by omega), if_neg (by omega), if_pos (by omega)]
  omega
theorem Yf_d (h : i < 10) : Yf r n N (300 + i) = n + (3 * N + 5) + 1 + 2 * i := by
  unfold Yf
  rw [if_neg (by omega), if_neg (by omega), if_neg (by omega), if_neg (by omega), if_neg (by omega), if_neg (by omega), if_neg (by omega), if_neg (by omega), if_neg (by omega), if_neg (by omega), if_pos (by omega)]
  omega
theorem Yf_l : Yf r n N (310 + i) = n + (3 * N + 5) + 2 + 2 * i := by
  unfold Yf
  rw [if_neg (by omega), if_neg (by omega), if_neg (by omega), if_neg (by omega), if_neg (by omega), if_neg (by omega), if_neg (by omega), if_neg (by omega), if_neg (by omega), if_neg (by omega), if_neg (by omega)]
  omega
theorem sm_zero {g : Nat → Nat} : ∀ n, (∀ i, i < n → g i = 0) → sm g n = 0
  | 0, _ => rfl
  | n + 1, h => by rw [sm_s, sm_zero n (fun i hi => h i (by omega)), h n (by omega)]
theorem LI_0 (hN : 2 ≤ N ∧ N ≤ 4) : LI N (A0 N R Q) z0 z0 := by
  have l0 : ln (A0 N R Q) = 0 := rfl
  refine ⟨hN, fun i hi => by rw [l0] at hi; omega, fun i j hi => by rw [l0] at hi; omega, fun i hi => ?_, fun b hb => ?_, fun b hb => ?_⟩
  · unfold cw
    rw [sv_A0n (k := 9) (by omega), sv_A0z (k := 10) (by omega)]
    by_cases q : 2 * N ≤ i ∧ i < 2 * N + 2
    · rw [sv_A0h (k := 5) (by omega) q, sv_A0h (k := 6) (by omega) q, sv_A0h (k := 7) (by omega) q, if_pos rfl, if_neg (by omega), if_neg (by omega)]
      refine ⟨⟨N + 1, by omega, rfl⟩, ⟨Or.inr rfl, Or.inr rfl, Or.inl rfl⟩, fun _ => ⟨rfl, fun e => ?_⟩, Or.inl rfl⟩
      have := (nI_eq (a := N + 1) (b := 0) (by omega) (by omega)).mp (e.trans nI_0.symm)
      omega
    · rw [sv_A0o (k := 5) (by omega) q, sv_A0o (k := 6) (by omega) q, sv_A0o (k := 7) (by omega) q]
      exact ⟨⟨0, by omega, nI_0.symm⟩, ⟨Or.inl rfl, Or.inl rfl, Or.inl rfl⟩, fun e => absurd e (by decide), Or.inl rfl⟩
  · rw [l0, sm_s, sm_zero N (fun x hx => by show nt (sv (A0 N R Q) 5 (2 * x + b)) = 0; rw [sv_A0o (by omega) (by omega)]; decide)]
    rw [sv_A0h (by omega) (by omega), if_pos rfl, nt_nI (by omega)]
    show 0 + (N + 1) + 0 + 0 = N + 1
    omega
  · rw [l0, sm_s, sm_zero N (fun x hx => by show o1 (sv (A0 N R Q) 6 (2 * x + b)) = 0; rw [sv_A0o (by omega) (by omega)]; decide)]
    rw [sv_A0h (by omega) (by omega), if_neg (by omega)]
    rfl
theorem QI_0 (hN : 2 ≤ N ∧ N ≤ 4) : QI N 0 (A0 N R Q) := by
  have p4 : ∀ c p, ¬ P4 (A0 N R Q) c p := by
    rintro c p ⟨j, hj, -⟩
    have : ln (A0 N R Q) = 0 := rfl
    omega
  have r0 : ∀ b, rn (A0 N R Q) b = 0 := fun _ => rfl
  refine ⟨LI_0 hN, ⟨fun c hc => ?_, fun b hb => ?_, fun b hb => ?_⟩, ⟨fun c hc => ?_, fun b hb => ⟨fun i j hi => ?_, fun i hi => ?_⟩⟩, fun b hb => ⟨?_, fun q => ?_, ?_⟩⟩
  · rw [sv_A0z (k := 15) (by omega), sv_A0z (k := 12) (by omega), sv_A0z (k := 13) (by omega), sv_A0z (k := 14) (by omega)]
    exact ⟨⟨0, by omega, nI_0.symm⟩, Or.inl rfl, Or.inl rfl, Or.inl rfl⟩
  · rw [r0]
    exact ⟨by omega, fun i hi => by omega⟩
  · exact Or.inl (sv_A0n (by omega))
  · rw [sv_A0z (k := 27) (by omega), sv_A0z (k := 17) (by omega), sv_A0z (k := 12) (by omega), sv_A0z (k := 14) (by omega)]
    exact ⟨by decide, by decide, by decide, fun q => absurd rfl q, fun p hp => absurd hp (p4 c p)⟩
  · rw [r0] at hi; omega
  · rw [r0] at hi; omega
  · rw [sv_A0n (by omega), sv_A0n (by omega)]
  · exact absurd (sv_A0n (by omega)) q
  · rw [sv_A0z (by omega), sv_A0z (by omega)]
/-- the picture at the end -/
def YP (Y : Nat → Nat) (r n N : Nat) : Prop := (Y 0 = r ∧ Y 1 = n ∧ Y 2 = n + (2 * N + 3) ∧ Y 3 = n + (3 * N + 5) ∧ Y 4 = n + (3 * N + 4) ∧ Y 5 = n + (3 * N + 10) ∧ Y 6 = n + (3 * N + 10) + 1 ∧ Y 7 = n + (3 * N + 10) + 2 ∧ Y 310 = n + (3 * N + 5) + 2 ∧ Y 311 = n + (3 * N + 5) + 4) ∧ (∀ i, i < 100 → Y (100 + i) = n + 1 + i) ∧ (∀ i, i < 100 → Y (200 + i) = n + (2 * N + 3) + 1 + i) ∧ (∀ i, i < 10 → Y (300 + i) = n + (3 * N + 5) + 1 + 2 * i) ∧ ∀ i, Y (310 + i) = n + (3 * N + 5) + 2 + 2 * i
theorem Yf_p : YP (Yf r n N) r n N := ⟨⟨rfl, rfl, rfl, rfl, rfl, rfl, rfl, rfl, rfl, rfl⟩, fun _ h => Yf_s h, fun _ h => Yf_c h, fun _ h => Yf_d h, fun _ => Yf_l⟩
variable {Y : Nat → Nat}
theorem yp_inj (hY : YP Y r n N) (hN : N ≤ 4) : (∀ i j, i < 2 * N + 2 → j < 2 * N + 2 → Y (100 + i) = Y (100 + j) → i = j) ∧ (∀ i j, i < N → j < N → Y (200 + i) = Y (200 + j) → i = j) ∧ (∀ i j, i < 2 → j < 2 → Y (300 + i) = Y (300 + j) → i = j) ∧ (Y 6 ≠ Y 7 ∧ Y 6 ≠ Y 310 ∧ Y 6 ≠ Y 311 ∧ Y 7 ≠ Y 310 ∧ Y 7 ≠ Y 311 ∧ Y 310 ≠ Y 311) := by
  obtain ⟨⟨y0, y1, y2, y3, y4, y5, y6, y7, y310, y311⟩, ys, yc, yd, yl⟩ := hY
  refine ⟨fun i j hi hj e => ?_, fun i j hi hj e => ?_, fun i j hi hj e => ?_, ?_⟩
  · rw [ys i (by omega), ys j (by omega)] at e
    omega
  · rw [yc i (by omega), yc j (by omega)] at e
    omega
  · rw [yd i (by omega), yd j (by omega)] at e
    omega
  · rw [y6, y7, y310, y311]
    clear y0 y1 y2 y3 y4 y5 y6 y7 y310 y311 ys yc yd yl
    refine ⟨?_, ?_, ?_, ?_, ?_, ?_⟩ <;> omega
theorem lay_0 (hY : YP Y r n N) (hN : 2 ≤ N ∧ N ≤ 4) (tr : tg σ r = 8) (hB : fi σ 448 r = nI N ∧ fi σ 449 r = nI N ∧ fi σ 450 r = nI (N + 1))
    (h1 : S1 r n N 2 (2 * N + 2) σ) (h2 : S2 r (n + (2 * N + 3)) N N σ) (h4 : S4 r (n + (3 * N + 4)) N σ) (h3 : S3 r (n + (3 * N + 5)) z 2 σ) (h5 : S5 r (n + (3 * N + 10)) z σ) : Lay N Y σ := by
  have ij := yp_inj hY hN.2
  refine ⟨hN, ?_, ⟨?_, ?_, fun i hi => ?_⟩, ⟨?_, ?_, fun c hc => ?_⟩, ⟨?_, ?_, fun b hb => ?_⟩, ⟨?_, ?_⟩, ?_, ij⟩
  · rw [hY.1.1, hY.1.2.1, hY.1.2.2.1, hY.1.2.2.2.1, hY.1.2.2.2.2.1, hY.1.2.2.2.2.2.1]
    exact ⟨tr, hB.1, hB.2.1, hB.2.2, h1.1, h2.1, h3.1, h4.1, h5.1⟩
  · rw [hY.1.2.1]; exact h1.2.1
  · rw [hY.1.2.1]; exact h1.2.2.1
  · rw [hY.1.2.1, hY.2.1 i (by omega)]; exact ⟨(h1.2.2.2 i hi).1, (h1.2.2.2 i hi).2.1⟩
  · rw [hY.1.2.2.1]; exact h2.2.1
  · rw [hY.1.2.2.1]; exact h2.2.2.1
  · rw [hY.1.2.2.1, hY.2.2.1 c (by omega)]; exact ⟨(h2.2.2.2 c hc).1, (h2.2.2.2 c hc).2.1⟩
  · rw [hY.1.2.2.2.1]; exact h3.2.1
  · rw [hY.1.2.2.2.1]; exact h3.2.2.1
  · rw [hY.1.2.2.2.1, hY.2.2.2.1 b (by omega), hY.2.2.2.2 b]; exact ⟨(h3.2.2.2 b hb).1, (h3.2.2.2 b hb).2.1, (h3.2.2.2 b hb).2.2.1⟩
  · rw [hY.1.2.2.2.2.1]; exact h4.2.1
  · rw [hY.1.2.2.2.2.1]; exact h4.2.2.1
  · rw [hY.1.2.2.2.2.2.1, hY.1.2.2.2.2.2.2.1, hY.1.2.2.2.2.2.2.2.1]; exact ⟨h5.2.1, h5.2.2.1, h5.2.2.2.1⟩
theorem shr_0 (hY : YP Y r n N) (hN : 2 ≤ N ∧ N ≤ 4) (h1 : S1 r n N 2 (2 * N + 2) σ) : SHR N Y σ (A0 N R Q) := by
  have sh : ∀ i k, i < 2 * N + 2 → fi σ k (Y (100 + i)) = shI N 2 i k := fun i k hi => by rw [hY.2.1 i (by omega)]; exact (h1.2.2.2 i hi).2.2 k
  have shz : ∀ i k, i < 2 * N + 2 → k = 387 ∨ k = 389 ∨ k = 390 → fi σ k (Y (100 + i)) = 0 := by
    intro i k hi hk
    rw [sh i k hi]
    unfold shI
    rw [if_neg (by omega)]
    split
    · rw [if_neg (by omega), if_neg (by omega), if_neg (by omega)]
    · rfl
  refine ⟨fun i hi => ?_, fun i hi => ?_, fun i hi => ?_, fun i hi => ?_, fun i hi => ?_, fun i hi => ?_, fun i hi => ?_⟩
  · rw [sh i _ hi]
    unfold shI
    rw [if_neg (by omega)]
    by_cases q : 2 * N ≤ i ∧ i < 2 * N + 2
    · rw [if_pos q, if_pos rfl, sv_A0h (by omega) q, if_pos rfl]
    · rw [if_neg q, sv_A0o (by omega) q]
  · rw [sh i _ hi]
    unfold shI
    rw [if_neg (by omega)]
    by_cases q : 2 * N ≤ i ∧ i < 2 * N + 2
    · rw [if_pos q, if_neg (by omega), if_pos rfl, sv_A0h (by omega) q, if_neg (by omega)]
    · rw [if_neg q, sv_A0o (by omega) q]
  · rw [sh i _ hi]
    unfold shI
    rw [if_neg (by omega)]
    by_cases q : 2 * N ≤ i ∧ i < 2 * N + 2
    · rw [if_pos q, if_neg (by omega), if_neg (by omega), if_pos rfl, sv_A0h (by omega) q, if_neg (by omega)]
    · rw [if_neg q, sv_A0o (by omega) q]
  · rw [shz i _ hi (by omega), sv_A0z (by omega)]
  · rw [sh i _ hi, sv_A0n (by omega)]
    unfold shI
    rw [if_pos rfl]
  · rw [shz i _ hi (by omega), sv_A0z (by omega)]
  · rw [shz i _ hi (by omega), sv_A0z (by omega)]
theorem cor_0 (hY : YP Y r n N) (hN : 2 ≤ N ∧ N ≤ 4) (h2 : S2 r (n + (2 * N + 3)) N N σ) : COR N Y σ (A0 N R Q) := by
  have co : ∀ c k, c < N → fi σ k (Y (200 + c)) = 0 := fun c k hc => by rw [hY.2.2.1 c (by omega)]; exact (h2.2.2.2 c hc).2.2 k
  refine ⟨fun c hc => ?_, fun c hc => ?_, fun c hc => ?_, fun c hc => ?_, fun c hc => ?_, fun c hc => ?_, fun c hc => ?_, fun c hc => ?_, fun c hc => ?_, fun c hc => ?_⟩ <;> rw [co c _ hc, sv_A0z (by omega)]
theorem nl_0 (hY : YP Y r n N) (h3 : S3 r (n + (3 * N + 5)) z 2 σ) (h5 : S5 r (n + (3 * N + 10)) z σ) : ∀ l, (l = 6 ∨ l = 7 ∨ l = 310 ∨ l = 311) → NL z (Y l) σ := by
  rintro l (rfl | rfl | rfl | rfl)
  · rw [hY.1.2.2.2.2.2.2.1]; exact h5.2.2.2.2.1
  · rw [hY.1.2.2.2.2.2.2.2.1]; exact h5.2.2.2.2.2
  · rw [hY.1.2.2.2.2.2.2.2.2.1]; exact (h3.2.2.2 0 (by omega)).2.2.2.2.2
  · rw [hY.1.2.2.2.2.2.2.2.2.2]; exact (h3.2.2.2 1 (by omega)).2.2.2.2.2
theorem cr_0 {f g : Nat → Nat} {rf : Nat → Nat → Nat} (hY : YP Y r n N) (hN : 2 ≤ N ∧ N ≤ 4) (tr : tg σ r = 8) (hz : tg σ z = 99 ∧ al σ z = 0) (hF : FR σ) (hB : fi σ 448 r = nI N ∧ fi σ 449 r = nI N ∧ fi σ 450 r = nI (N + 1) ∧ fi σ 451 r = R ∧ fi σ 452 r = Q ∧ fi σ 458 r = 0)
    (h1 : S1 r n N 2 (2 * N + 2) σ) (h2 : S2 r (n + (2 * N + 3)) N N σ) (h4 : S4 r (n + (3 * N + 4)) N σ) (h3 : S3 r (n + (3 * N + 5)) z 2 σ) (h5 : S5 r (n + (3 * N + 10)) z σ) : CRx N Y (nx σ, sl σ, 0) [] σ (A0 N R Q) f 0 g rf := by
  have l0 : ln (A0 N R Q) = 0 := rfl
  have r0 : ∀ b, rn (A0 N R Q) b = 0 := fun _ => rfl
  have nl := nl_0 hY h3 h5
  refine ⟨lay_0 hY hN tr ⟨hB.1, hB.2.1, hB.2.2.1⟩ h1 h2 h4 h3 h5, hF, shr_0 hY hN h1, cor_0 hY hN h2, ⟨?_, ?_, ?_, fun c hc => ?_⟩, ?_, fun b hb => ?_, fun b hb => ?_, ?_, ?_, ?_⟩
  · rw [hY.1.1]; exact hB.2.2.2.1
  · rw [hY.1.1]; exact hB.2.2.2.2.1
  · rw [hY.1.1, sv_A0z (by omega)]; exact hB.2.2.2.2.2
  · rw [hY.1.2.2.2.2.1, sv_A0z (by omega)]; exact h4.2.2.2 c
  · refine ⟨(nl 6 (by omega)).al hz hF, (nl 7 (by omega)).al hz hF, fun i hi => by rw [l0] at hi; omega, fun j hj => by omega, fun i j hi => by rw [l0] at hi; omega, fun i j hi => by omega, fun i j hi => by rw [l0] at hi; omega, fun x hx => absurd hx (List.not_mem_nil), List.nodup_nil, ?_⟩
    rw [l0]
    show 0 + 0 + 0 ≤ 70
    omega
  · rw [r0]
    refine ⟨(nl (310 + b) (by omega)).al hz hF, fun i hi => by omega⟩
  · rw [hY.2.2.2.1 b (by omega), sv_A0z (by omega), sv_A0n (by omega)]
    exact ⟨(h3.2.2.2 b hb).2.2.2.2.1, Or.inl ⟨(h3.2.2.2 b hb).2.2.2.1, rfl⟩⟩
  · intro l l' hl hl' _ ht
    rw [(nl l hl).2.2, hz.1] at ht
    omega
  · exact Nat.le_trans (Nat.le_add_right _ _) (Nat.le_trans (Nat.le_add_right _ _) (Nat.le_add_right _ _))
  · exact Nat.le_trans (Nat.le_add_right _ _) (Nat.le_trans (Nat.le_add_right _ _) (Nat.le_add_right _ _))
theorem sp_TM_init {c p q : Int32} (hN2 : 2 ≤ N ∧ N ≤ 4) (hF : FR σ0) (h0 : fi σ0 458 r = 0) (tr : tg σ0 r = 8) (hz : tg σ0 z = 99 ∧ al σ0 z = 0) (hN : nI N = cl 2 4 c) (hR : R = cl 0 4 p) (hQ : Q = cl 1 20 q)
    (hP : ∀ σ, CRx N (Yf r (nx σ0) N) (nx σ, sl σ, 0) [] σ (A0 N R Q) (fun _ => 0) 0 (fun _ => 0) (fun _ _ => 0) → nx σ0 + 10 < nx σ → nx σ ≤ nx σ0 + 25 → sl σ ≤ sl σ0 + 150 → (∀ x, x < nx σ0 → tg σ x = tg σ0 x ∧ al σ x = al σ0 x) → (∀ x j, x < nx σ0 → ai σ x j = ai σ0 x j) → P none σ) : Ctr m_TM_init 5 [.inr r, .inl c, .inl p, .inl q] σ0 P := by
  have hr := hF.lt (r := r) (by omega)
  have hzl := hF.lt (r := z) (by omega)
  refine Ctr.of y_TM_init (Nat.le_of_ble_eq_true rfl) ?_
  refine wp_i0 hF h0 tr hN hR hQ (fun σ1 hB1 => ?_)
  refine wp_i1 hN2 hr tr hB1 (fun σ2 hB2 h12 => ?_)
  refine wp_i2 hN2 hr tr (fun σ3 hB3 h13 => ?_) (2 * N + 2) 0 (by omega) σ2 hB2 h12
  refine wp_i3 hN2 hr tr hB3 h13 (fun σ4 hB4 h14 h24 => ?_)
  refine wp_i4 hN2 hr tr (fun σ5 hB5 h15 h25 => ?_) N 0 (by omega) σ4 hB4 h14 h24
  refine wp_i5 hN2 hr tr hB5 h15 h25 (fun σ6 hB6 h16 h26 h46 => ?_)
  refine wp_i6 (z := z) hN2 hr tr hB6 h16 h26 h46 (fun σ7 hB7 h17 h27 h47 h37 => ?_)
  refine wp_i7 (b := 0) hN2 hr tr hz hzl (by omega) hB7 h17 h27 h47 h37 (fun σ8 hB8 h18 h28 h48 h38 => ?_)
  refine wp_i7 (b := 1) hN2 hr tr hz hzl (by omega) hB8 h18 h28 h48 h38 (fun σ9 hB9 h19 h29 h49 h39 => ?_)
  refine wp_i8 hN2 hr tr hz hzl hB9 h19 h29 h49 h39 (fun σ hB h1 h2 h4 h3 h5 => ?_)
  obtain ⟨hF', ⟨hn, hs⟩, ht, hai, hb⟩ := hB
  have tz := ht z hzl
  exact hP σ (cr_0 Yf_p hN2 ((ht r hr).1.trans tr) ⟨tz.1.trans hz.1, tz.2.trans hz.2⟩ hF' hb h1 h2 h4 h3 h5) (by omega) (by omega) (by omega) ht hai
end Ini4
