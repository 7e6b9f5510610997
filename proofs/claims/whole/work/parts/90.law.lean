/-! THE LAW: one script, both answer alike -/
def SCR (s L : Nat) (X : Nat → Int32) (σ : PS) : Prop := tg σ s = 98 ∧ al σ s = L ∧ ∀ j, j < L → ai σ s j = X j
def LIV (N : Nat) (Y : Nat → Nat) (m : Nat) (Z : Nat → Nat) (s L : Nat) (X : Nat → Int32) (bd : Nat × Nat × Nat) (T : Nat) (A : AS) (σ : PS) : Prop := (∃ f mm g rf, CRx N Y bd [] σ A f mm g rf) ∧ RR N m Z σ nD σ A ∧ QI N T A ∧ (∀ k, isZ k = true → Z k ≠ Y 4) ∧ SCR s L X σ
section Law
variable {M : MM} {d pc : Nat} {lv : List (Nat × PV)} {st : List PV} {N T m s L i : Nat} {Y Z : Nat → Nat} {X : Nat → Int32} {bd : Nat × Nat × Nat} {σ σ1 σ2 σ0 : PS} {A A' : AS} {P : Option PV → PS → Prop}
theorem p_scr {j : Int32} {n : Nat} (hd : decode M.2.1 pc = .ok (.iaload, 1)) (h : SCR s L X σ) (hj : j = nI n) (hn : n < L) (hL : L ≤ 2563) (kk : Wp M d (pc + 1) lv (.inl (X n) :: st) σ P) : Wp M d pc lv (.inl j :: .inr s :: st) σ P := by
  refine p_ialdX hd h.1 hj (by rw [h.2.1]; exact hn) (by rw [h.2.1]; omega) ?_
  rw [h.2.2 n hn]
  exact kk
theorem SCR.hk {hs : List Nat} (h : SCR s L X σ) (hF : FR σ) (h4 : tg σ (Y 4) = 100) (k : HK (Y 4) σ σ1 hs) : SCR s L X σ1 := by
  obtain ⟨a1, a2, a3⟩ := h
  obtain ⟨-, k1, k2, k3, k5⟩ := k
  have xs := hF.lt (r := s) (by omega)
  have ne : s ≠ Y 4 := fun e => by rw [e] at a1; omega
  exact ⟨(k2 s xs).1.trans a1, (k2 s xs).2.trans a2, fun j hj => (k5 s j xs ne).trans (a3 j hj)⟩
theorem SCR.fq (h : SCR s L X σ) (hR : RR N m Z σ nD σ1 A) : SCR s L X σ1 := by
  obtain ⟨a1, a2, a3⟩ := h
  have q := hR.2.2.1
  obtain ⟨e1, e2, e3⟩ := q.nx
  refine ⟨by rw [e3]; exact a1, by rw [q.2.2.1]; exact a2, fun j hj => ?_⟩
  rw [q.2.2.2.2.2 s j (fun k hk e => ?_)]
  · exact a3 j hj
  · have := rr_own0 hR (Or.inr ⟨k, hk, e⟩)
    omega
theorem LIV.mid {hs : List Nat} (h : LIV N Y m Z s L X bd T A σ) (k : HK (Y 4) σ σ1 hs) : RR N m Z σ1 nD σ1 A ∧ SCR s L X σ1 ∧ tg σ1 m = 9 := by
  obtain ⟨⟨f, mm, g, rf, hC⟩, hR, hQ, h4, hS⟩ := h
  have r1 := hR.cls hC.2.1 k h4
  exact ⟨r1, hS.hk hC.2.1 hC.1.2.2.2.2.2.1.1 k, r1.tg⟩
theorem LIV.nx {hs : List Nat} {bd1 : Nat × Nat × Nat} {f g : Nat → Nat} {mm : Nat} {rf : Nat → Nat → Nat} (h : LIV N Y m Z s L X bd T A σ) (hC1 : CRx N Y bd1 [] σ1 A' f mm g rf) (k : HK (Y 4) σ σ1 hs) (hR2 : RR N m Z σ1 nD σ2 A') (hQ : QI N (T + 1) A') : LIV N Y m Z s L X bd1 (T + 1) A' σ2 := by
  obtain ⟨r1, s1, t1⟩ := h.mid k
  obtain ⟨-, -, -, h4, -⟩ := h
  exact ⟨⟨f, mm, g, rf, hC1.ref hR2 h4⟩, hR2.re, hQ, h4, s1.fq hR2⟩
theorem sp_Law_cell {j : Nat} (h : SCR s L X σ) (hL : L ≤ 2563) (hj : j < 10) (hP : P (some (.inl (if j < L then X j else 0))) σ) : Ctr m_Law_cell 1 [.inr s, .inl (nI j)] σ P := by
  have ts := h.1
  refine Ctr.of y_Law_cell (Nat.le_of_ble_eq_true rfl) ?_
  refine p_iload_n e_Law_cell_0 rfl ?_
  refine p_aload_n e_Law_cell_1 rfl ?_
  refine p_alenX e_Law_cell_2 ts ?_
  rw [h.2.1]
  by_cases q : j < L
  · rw [if_pos q] at hP
    refine p_icmp_ge (tgt := 12) e_Law_cell_3 (by decide) (fun hx => absurd hx (nI_ge q (by omega))) (fun _ => ?_)
    refine p_aload_n e_Law_cell_6 rfl ?_
    refine p_iload_n e_Law_cell_7 rfl ?_
    refine p_scr e_Law_cell_8 h rfl q hL ?_
    refine p_goto (tgt := 13) e_Law_cell_9 (by decide) ?_
    refine p_iret e_Law_cell_13 (rv_i ?_)
    exact hP
  · rw [if_neg q] at hP
    refine p_icmp_ge (tgt := 12) e_Law_cell_3 (by decide) (fun _ => ?_) (fun hx => absurd (nI_le (by omega) (by omega)) hx)
    refine p_iconst (x := 0) e_Law_cell_12 (by decide) ?_
    refine p_iret e_Law_cell_13 (rv_i ?_)
    exact hP
theorem wp_L_issue (hT : T < 100000) (hi : i + 5 ≤ L) (hL : L ≤ 2563) (h : LIV N Y m Z s L X bd T A σ) (nxt : ∀ σ' bd' A', bd'.1 = bd.1 → bd'.2.1 = bd.2.1 → bd'.2.2 ≤ bd.2.2 + 1 → LIV N Y m Z s L X bd' (T + 1) A' σ' → Wp m_Law_law 15 530 [(3, .inl (nI i)), (2, .inr m), (1, .inr (Y 0)), (0, .inr s)] [] σ' P) : Wp m_Law_law 15 132 [(3, .inl (nI i)), (2, .inr m), (1, .inr (Y 0)), (0, .inr s)] [] σ P := by
  obtain ⟨⟨f, mm, g, rf, hC⟩, hR, hQ, h4, hS⟩ := id h
  have t0 := hC.1.2.1.1
  obtain ⟨w, hw, hw0, hw1⟩ : ∃ w : Int32, bz w ∧ (X (i + 2) = 0 → w = 0) ∧ (¬ X (i + 2) = 0 → w = 1) := by
    by_cases q : X (i + 2) = 0
    · exact ⟨0, Or.inl rfl, fun _ => rfl, fun z => absurd q z⟩
    · exact ⟨1, Or.inr rfl, fun z => absurd z q, fun _ => rfl⟩
  have go2 : ∀ (σ1 : PS) (v : Int32), SCR s L X σ1 → tg σ1 m = 9 → v = (oIs N A (X (i + 1)) w (X (i + 3)) (X (i + 4))).1 → RR N m Z σ1 nD σ1 A → (∀ σ2, RR N m Z σ1 nD σ2 (oIs N A (X (i + 1)) w (X (i + 3)) (X (i + 4))).2 → Wp m_Law_law 15 530 [(3, .inl (nI i)), (2, .inr m), (1, .inr (Y 0)), (0, .inr s)] [] σ2 P) → Wp m_Law_law 15 183 [(3, .inl (nI i)), (2, .inr m), (1, .inr (Y 0)), (0, .inr s)] [.inl w, .inl (X (i + 1)), .inr m, .inl v] σ1 P := by
    intro σ1 v hS1 tm ev hR1 k2
    refine p_aload_n e_Law_law_183 rfl ?_
    refine p_iload_n e_Law_law_184 rfl ?_
    refine p_iconst (x := 3) e_Law_law_185 (by decide) ?_
    refine p_iadd e_Law_law_186 ?_
    refine p_scr (n := i + 3) e_Law_law_187 hS1 (show nI i + nI 3 = nI (i + 3) from nI_add i 3) (by omega) hL ?_
    refine p_aload_n e_Law_law_188 rfl ?_
    refine p_iload_n e_Law_law_189 rfl ?_
    refine p_iconst (x := 4) e_Law_law_190 (by decide) ?_
    refine p_iadd e_Law_law_191 ?_
    refine p_scr (n := i + 4) e_Law_law_192 hS1 (show nI i + nI 4 = nI (i + 4) from nI_add i 4) (by omega) hL ?_
    refine p_inv (ci := 8) (d' := 5) [_, _, _, _] _ e_Law_law_193 c_Law_25 k_MM_issue i_MM_issue s_MM_issue rfl rfl (by assumption) rfl rfl (Nat.le_of_ble_eq_true rfl) (Nat.le_of_ble_eq_true rfl) ?_
    refine mm_issue hw hQ hR1 (fun σ2 hR2 => ?_)
    refine p_icmp_eq (tgt := 530) e_Law_law_196 (by decide) (fun _ => ?_) (fun hx => absurd (ev) hx)
    exact k2 σ2 hR2
  have go1 : Wp m_Law_law 15 151 [(3, .inl (nI i)), (2, .inr m), (1, .inr (Y 0)), (0, .inr s)] [.inl w, .inl (X (i + 1)), .inr (Y 0)] σ P := by
    refine p_aload_n e_Law_law_151 rfl ?_
    refine p_iload_n e_Law_law_152 rfl ?_
    refine p_iconst (x := 3) e_Law_law_153 (by decide) ?_
    refine p_iadd e_Law_law_154 ?_
    refine p_scr (n := i + 3) e_Law_law_155 hS (show nI i + nI 3 = nI (i + 3) from nI_add i 3) (by omega) hL ?_
    refine p_aload_n e_Law_law_156 rfl ?_
    refine p_iload_n e_Law_law_157 rfl ?_
    refine p_iconst (x := 4) e_Law_law_158 (by decide) ?_
    refine p_iadd e_Law_law_159 ?_
    refine p_scr (n := i + 4) e_Law_law_160 hS (show nI i + nI 4 = nI (i + 4) from nI_add i 4) (by omega) hL ?_
    refine p_inv (ci := 7) (d' := 10) [_, _, _, _] _ e_Law_law_161 c_Law_21 k_TM_issue i_TM_issue s_TM_issue rfl rfl (by assumption) rfl rfl (Nat.le_of_ble_eq_true rfl) (Nat.le_of_ble_eq_true rfl) ?_
    refine tm_issue hw hQ hC (fun σ1 f1 m1 g1 rf1 q hq hC1 hk => ?_)
    obtain ⟨hR1, hS1, tm⟩ := h.mid hk
    have go3 := go2 σ1 _ hS1 tm rfl hR1 (fun σ2 hR2 => nxt σ2 (bd.1, bd.2.1, bd.2.2 + q) _ rfl rfl (by show bd.2.2 + q ≤ _; omega) (h.nx hC1 hk hR2 (qi_is hT hw hQ)))
    refine p_aload_n e_Law_law_164 rfl ?_
    refine p_aload_n e_Law_law_165 rfl ?_
    refine p_iload_n e_Law_law_166 rfl ?_
    refine p_iconst (x := 1) e_Law_law_167 (by decide) ?_
    refine p_iadd e_Law_law_168 ?_
    refine p_scr (n := i + 1) e_Law_law_169 hS1 (show nI i + nI 1 = nI (i + 1) from nI_add i 1) (by omega) hL ?_
    refine p_aload_n e_Law_law_170 rfl ?_
    refine p_iload_n e_Law_law_171 rfl ?_
    refine p_iconst (x := 2) e_Law_law_172 (by decide) ?_
    refine p_iadd e_Law_law_173 ?_
    refine p_scr (n := i + 2) e_Law_law_174 hS1 (show nI i + nI 2 = nI (i + 2) from nI_add i 2) (by omega) hL ?_
    refine p_if_eq (tgt := 182) e_Law_law_175 (by decide) (fun h175 => ?_) (fun h175 => ?_)
    · refine p_iconst (x := 0) e_Law_law_182 (by decide) ?_
      refine p_top (hw0 h175).symm ?_
      exact go3
    · refine p_iconst (x := 1) e_Law_law_178 (by decide) ?_
      refine p_goto (tgt := 183) e_Law_law_179 (by decide) ?_
      refine p_top (hw1 h175).symm ?_
      exact go3
  refine p_aload_n e_Law_law_132 rfl ?_
  refine p_aload_n e_Law_law_133 rfl ?_
  refine p_iload_n e_Law_law_134 rfl ?_
  refine p_iconst (x := 1) e_Law_law_135 (by decide) ?_
  refine p_iadd e_Law_law_136 ?_
  refine p_scr (n := i + 1) e_Law_law_137 hS (show nI i + nI 1 = nI (i + 1) from nI_add i 1) (by omega) hL ?_
  refine p_aload_n e_Law_law_138 rfl ?_
  refine p_iload_n e_Law_law_139 rfl ?_
  refine p_iconst (x := 2) e_Law_law_140 (by decide) ?_
  refine p_iadd e_Law_law_141 ?_
  refine p_scr (n := i + 2) e_Law_law_142 hS (show nI i + nI 2 = nI (i + 2) from nI_add i 2) (by omega) hL ?_
  refine p_if_eq (tgt := 150) e_Law_law_143 (by decide) (fun h143 => ?_) (fun h143 => ?_)
  · refine p_iconst (x := 0) e_Law_law_150 (by decide) ?_
    refine p_top (hw0 h143).symm ?_
    exact go1
  · refine p_iconst (x := 1) e_Law_law_146 (by decide) ?_
    refine p_goto (tgt := 151) e_Law_law_147 (by decide) ?_
    refine p_top (hw1 h143).symm ?_
    exact go1
theorem wp_L_tick (hT : T < 100000) (hi : i + 5 ≤ L) (hL : L ≤ 2563) (h : LIV N Y m Z s L X bd T A σ) (nxt : ∀ σ' bd' A', bd'.1 = bd.1 → bd'.2.1 = bd.2.1 → bd'.2.2 ≤ bd.2.2 + 1 → LIV N Y m Z s L X bd' (T + 1) A' σ' → Wp m_Law_law 15 530 [(3, .inl (nI i)), (2, .inr m), (1, .inr (Y 0)), (0, .inr s)] [] σ' P) : Wp m_Law_law 15 201 [(3, .inl (nI i)), (2, .inr m), (1, .inr (Y 0)), (0, .inr s)] [] σ P := by
  obtain ⟨⟨f, mm, g, rf, hC⟩, hR, hQ, h4, hS⟩ := id h
  have t0 := hC.1.2.1.1
  refine p_aload_n e_Law_law_201 rfl ?_
  refine p_aload_n e_Law_law_202 rfl ?_
  refine p_iload_n e_Law_law_203 rfl ?_
  refine p_iconst (x := 1) e_Law_law_204 (by decide) ?_
  refine p_iadd e_Law_law_205 ?_
  refine p_scr (n := i + 1) e_Law_law_206 hS (show nI i + nI 1 = nI (i + 1) from nI_add i 1) (by omega) hL ?_
  refine p_inv (ci := 7) (d' := 11) [_] _ e_Law_law_207 c_Law_26 k_TM_tick i_TM_tick s_TM_tick rfl rfl (by assumption) rfl rfl (Nat.le_of_ble_eq_true rfl) (Nat.le_of_ble_eq_true rfl) ?_
  refine tm_tick hQ hC (fun σ1 f1 m1 g1 rf1 q hq hC1 hk => ?_)
  obtain ⟨hR1, hS1, tm⟩ := h.mid hk
  refine p_aload_n e_Law_law_210 rfl ?_
  refine p_aload_n e_Law_law_211 rfl ?_
  refine p_iload_n e_Law_law_212 rfl ?_
  refine p_iconst (x := 1) e_Law_law_213 (by decide) ?_
  refine p_iadd e_Law_law_214 ?_
  refine p_scr (n := i + 1) e_Law_law_215 hS1 (show nI i + nI 1 = nI (i + 1) from nI_add i 1) (by omega) hL ?_
  refine p_inv (ci := 8) (d' := 6) [_] _ e_Law_law_216 c_Law_30 k_MM_tick i_MM_tick s_MM_tick rfl rfl (by assumption) rfl rfl (Nat.le_of_ble_eq_true rfl) (Nat.le_of_ble_eq_true rfl) ?_
  refine mm_tick hQ hR1 (fun σ2 hR2 => ?_)
  refine p_icmp_eq (tgt := 530) e_Law_law_219 (by decide) (fun _ => ?_) (fun hx => absurd (rfl) hx)
  exact nxt σ2 (bd.1, bd.2.1, bd.2.2 + q) _ rfl rfl (by show bd.2.2 + q ≤ _; omega) (h.nx hC1 hk hR2 (qi_ti hQ))
theorem wp_L_deliver (hT : T < 100000) (hi : i + 5 ≤ L) (hL : L ≤ 2563) (h : LIV N Y m Z s L X bd T A σ) (nxt : ∀ σ' bd' A', bd'.1 = bd.1 → bd'.2.1 = bd.2.1 → bd'.2.2 ≤ bd.2.2 + 1 → LIV N Y m Z s L X bd' (T + 1) A' σ' → Wp m_Law_law 15 530 [(3, .inl (nI i)), (2, .inr m), (1, .inr (Y 0)), (0, .inr s)] [] σ' P) : Wp m_Law_law 15 224 [(3, .inl (nI i)), (2, .inr m), (1, .inr (Y 0)), (0, .inr s)] [] σ P := by
  obtain ⟨⟨f, mm, g, rf, hC⟩, hR, hQ, h4, hS⟩ := id h
  have t0 := hC.1.2.1.1
  refine p_aload_n e_Law_law_224 rfl ?_
  refine p_aload_n e_Law_law_225 rfl ?_
  refine p_iload_n e_Law_law_226 rfl ?_
  refine p_iconst (x := 1) e_Law_law_227 (by decide) ?_
  refine p_iadd e_Law_law_228 ?_
  refine p_scr (n := i + 1) e_Law_law_229 hS (show nI i + nI 1 = nI (i + 1) from nI_add i 1) (by omega) hL ?_
  refine p_inv (ci := 7) (d' := 14) [_] _ e_Law_law_230 c_Law_31 k_TM_deliver i_TM_deliver s_TM_deliver rfl rfl (by assumption) rfl rfl (Nat.le_of_ble_eq_true rfl) (Nat.le_of_ble_eq_true rfl) ?_
  refine tm_deliver hQ hC (fun σ1 f1 m1 g1 rf1 q hq hC1 hk => ?_)
  obtain ⟨hR1, hS1, tm⟩ := h.mid hk
  refine p_aload_n e_Law_law_233 rfl ?_
  refine p_aload_n e_Law_law_234 rfl ?_
  refine p_iload_n e_Law_law_235 rfl ?_
  refine p_iconst (x := 1) e_Law_law_236 (by decide) ?_
  refine p_iadd e_Law_law_237 ?_
  refine p_scr (n := i + 1) e_Law_law_238 hS1 (show nI i + nI 1 = nI (i + 1) from nI_add i 1) (by omega) hL ?_
  refine p_inv (ci := 8) (d' := 9) [_] _ e_Law_law_239 c_Law_34 k_MM_deliver i_MM_deliver s_MM_deliver rfl rfl (by assumption) rfl rfl (Nat.le_of_ble_eq_true rfl) (Nat.le_of_ble_eq_true rfl) ?_
  refine mm_deliver hQ hR1 (fun σ2 hR2 => ?_)
  refine p_icmp_eq (tgt := 530) e_Law_law_242 (by decide) (fun _ => ?_) (fun hx => absurd (rfl) hx)
  exact nxt σ2 (bd.1, bd.2.1, bd.2.2 + q) _ rfl rfl (by show bd.2.2 + q ≤ _; omega) (h.nx hC1 hk hR2 (qi_dl hQ))
theorem wp_L_evict (hT : T < 100000) (hi : i + 5 ≤ L) (hL : L ≤ 2563) (h : LIV N Y m Z s L X bd T A σ) (nxt : ∀ σ' bd' A', bd'.1 = bd.1 → bd'.2.1 = bd.2.1 → bd'.2.2 ≤ bd.2.2 + 1 → LIV N Y m Z s L X bd' (T + 1) A' σ' → Wp m_Law_law 15 530 [(3, .inl (nI i)), (2, .inr m), (1, .inr (Y 0)), (0, .inr s)] [] σ' P) : Wp m_Law_law 15 247 [(3, .inl (nI i)), (2, .inr m), (1, .inr (Y 0)), (0, .inr s)] [] σ P := by
  obtain ⟨⟨f, mm, g, rf, hC⟩, hR, hQ, h4, hS⟩ := id h
  have t0 := hC.1.2.1.1
  refine p_aload_n e_Law_law_247 rfl ?_
  refine p_aload_n e_Law_law_248 rfl ?_
  refine p_iload_n e_Law_law_249 rfl ?_
  refine p_iconst (x := 1) e_Law_law_250 (by decide) ?_
  refine p_iadd e_Law_law_251 ?_
  refine p_scr (n := i + 1) e_Law_law_252 hS (show nI i + nI 1 = nI (i + 1) from nI_add i 1) (by omega) hL ?_
  refine p_aload_n e_Law_law_253 rfl ?_
  refine p_iload_n e_Law_law_254 rfl ?_
  refine p_iconst (x := 2) e_Law_law_255 (by decide) ?_
  refine p_iadd e_Law_law_256 ?_
  refine p_scr (n := i + 2) e_Law_law_257 hS (show nI i + nI 2 = nI (i + 2) from nI_add i 2) (by omega) hL ?_
  refine p_inv (ci := 7) (d' := 10) [_, _] _ e_Law_law_258 c_Law_35 k_TM_evict i_TM_evict s_TM_evict rfl rfl (by assumption) rfl rfl (Nat.le_of_ble_eq_true rfl) (Nat.le_of_ble_eq_true rfl) ?_
  refine tm_evict hQ hC (fun σ1 f1 m1 g1 rf1 q hq hC1 hk => ?_)
  obtain ⟨hR1, hS1, tm⟩ := h.mid hk
  refine p_aload_n e_Law_law_261 rfl ?_
  refine p_aload_n e_Law_law_262 rfl ?_
  refine p_iload_n e_Law_law_263 rfl ?_
  refine p_iconst (x := 1) e_Law_law_264 (by decide) ?_
  refine p_iadd e_Law_law_265 ?_
  refine p_scr (n := i + 1) e_Law_law_266 hS1 (show nI i + nI 1 = nI (i + 1) from nI_add i 1) (by omega) hL ?_
  refine p_aload_n e_Law_law_267 rfl ?_
  refine p_iload_n e_Law_law_268 rfl ?_
  refine p_iconst (x := 2) e_Law_law_269 (by decide) ?_
  refine p_iadd e_Law_law_270 ?_
  refine p_scr (n := i + 2) e_Law_law_271 hS1 (show nI i + nI 2 = nI (i + 2) from nI_add i 2) (by omega) hL ?_
  refine p_inv (ci := 8) (d' := 5) [_, _] _ e_Law_law_272 c_Law_39 k_MM_evict i_MM_evict s_MM_evict rfl rfl (by assumption) rfl rfl (Nat.le_of_ble_eq_true rfl) (Nat.le_of_ble_eq_true rfl) ?_
  refine mm_evict hQ hR1 (fun σ2 hR2 => ?_)
  refine p_icmp_eq (tgt := 530) e_Law_law_275 (by decide) (fun _ => ?_) (fun hx => absurd (rfl) hx)
  exact nxt σ2 (bd.1, bd.2.1, bd.2.2 + q) _ rfl rfl (by show bd.2.2 + q ≤ _; omega) (h.nx hC1 hk hR2 (qi_ev hQ))
theorem wp_L_letters (hT : T < 100000) (hi : i + 5 ≤ L) (hL : L ≤ 2563) (h : LIV N Y m Z s L X bd T A σ) (nxt : ∀ σ' bd' A', bd'.1 = bd.1 → bd'.2.1 = bd.2.1 → bd'.2.2 ≤ bd.2.2 + 1 → LIV N Y m Z s L X bd' (T + 1) A' σ' → Wp m_Law_law 15 530 [(3, .inl (nI i)), (2, .inr m), (1, .inr (Y 0)), (0, .inr s)] [] σ' P) : Wp m_Law_law 15 280 [(3, .inl (nI i)), (2, .inr m), (1, .inr (Y 0)), (0, .inr s)] [] σ P := by
  obtain ⟨⟨f, mm, g, rf, hC⟩, hR, hQ, h4, hS⟩ := id h
  have t0 := hC.1.2.1.1
  refine p_aload_n e_Law_law_280 rfl ?_
  refine p_inv (ci := 7) (d' := 3) [] _ e_Law_law_281 c_Law_40 k_TM_letters i_TM_letters s_TM_letters rfl rfl (by assumption) rfl rfl (Nat.le_of_ble_eq_true rfl) (Nat.le_of_ble_eq_true rfl) ?_
  refine sp_TM_letters hC ?_
  have tm := hR.tg
  refine p_aload_n e_Law_law_284 rfl ?_
  refine p_inv (ci := 8) (d' := 1) [] _ e_Law_law_285 c_Law_44 k_MM_letters i_MM_letters s_MM_letters rfl rfl (by assumption) rfl rfl (Nat.le_of_ble_eq_true rfl) (Nat.le_of_ble_eq_true rfl) ?_
  refine sp_MM_letters hR (fun σ2 hR2 => ?_)
  refine p_icmp_eq (tgt := 530) e_Law_law_288 (by decide) (fun _ => ?_) (fun hx => absurd (rfl) hx)
  exact nxt σ2 bd A rfl rfl (by omega) (h.nx (hs := []) hC HK.rf hR2 hQ.up)
theorem wp_L_letter (hT : T < 100000) (hi : i + 5 ≤ L) (hL : L ≤ 2563) (h : LIV N Y m Z s L X bd T A σ) (nxt : ∀ σ' bd' A', bd'.1 = bd.1 → bd'.2.1 = bd.2.1 → bd'.2.2 ≤ bd.2.2 + 1 → LIV N Y m Z s L X bd' (T + 1) A' σ' → Wp m_Law_law 15 530 [(3, .inl (nI i)), (2, .inr m), (1, .inr (Y 0)), (0, .inr s)] [] σ' P) : Wp m_Law_law 15 293 [(3, .inl (nI i)), (2, .inr m), (1, .inr (Y 0)), (0, .inr s)] [] σ P := by
  obtain ⟨⟨f, mm, g, rf, hC⟩, hR, hQ, h4, hS⟩ := id h
  have t0 := hC.1.2.1.1
  refine p_aload_n e_Law_law_293 rfl ?_
  refine p_aload_n e_Law_law_294 rfl ?_
  refine p_iload_n e_Law_law_295 rfl ?_
  refine p_iconst (x := 1) e_Law_law_296 (by decide) ?_
  refine p_iadd e_Law_law_297 ?_
  refine p_scr (n := i + 1) e_Law_law_298 hS (show nI i + nI 1 = nI (i + 1) from nI_add i 1) (by omega) hL ?_
  refine p_inv (ci := 7) (d' := 5) [_] _ e_Law_law_299 c_Law_45 k_TM_letter i_TM_letter s_TM_letter rfl rfl (by assumption) rfl rfl (Nat.le_of_ble_eq_true rfl) (Nat.le_of_ble_eq_true rfl) ?_
  refine tm_letter (by have := hQ.1.bound; omega) hC ?_
  have tm := hR.tg
  refine p_aload_n e_Law_law_302 rfl ?_
  refine p_aload_n e_Law_law_303 rfl ?_
  refine p_iload_n e_Law_law_304 rfl ?_
  refine p_iconst (x := 1) e_Law_law_305 (by decide) ?_
  refine p_iadd e_Law_law_306 ?_
  refine p_scr (n := i + 1) e_Law_law_307 hS (show nI i + nI 1 = nI (i + 1) from nI_add i 1) (by omega) hL ?_
  refine p_inv (ci := 8) (d' := 1) [_] _ e_Law_law_308 c_Law_48 k_MM_letter i_MM_letter s_MM_letter rfl rfl (by assumption) rfl rfl (Nat.le_of_ble_eq_true rfl) (Nat.le_of_ble_eq_true rfl) ?_
  refine sp_MM_letter hQ.1 hR (fun σ2 hR2 => ?_)
  refine p_icmp_eq (tgt := 530) e_Law_law_311 (by decide) (fun _ => ?_) (fun hx => absurd (rfl) hx)
  exact nxt σ2 bd A rfl rfl (by omega) (h.nx (hs := []) hC HK.rf hR2 hQ.up)
theorem wp_L_tokens (hT : T < 100000) (hi : i + 5 ≤ L) (hL : L ≤ 2563) (h : LIV N Y m Z s L X bd T A σ) (nxt : ∀ σ' bd' A', bd'.1 = bd.1 → bd'.2.1 = bd.2.1 → bd'.2.2 ≤ bd.2.2 + 1 → LIV N Y m Z s L X bd' (T + 1) A' σ' → Wp m_Law_law 15 530 [(3, .inl (nI i)), (2, .inr m), (1, .inr (Y 0)), (0, .inr s)] [] σ' P) : Wp m_Law_law 15 316 [(3, .inl (nI i)), (2, .inr m), (1, .inr (Y 0)), (0, .inr s)] [] σ P := by
  obtain ⟨⟨f, mm, g, rf, hC⟩, hR, hQ, h4, hS⟩ := id h
  have t0 := hC.1.2.1.1
  refine p_aload_n e_Law_law_316 rfl ?_
  refine p_aload_n e_Law_law_317 rfl ?_
  refine p_iload_n e_Law_law_318 rfl ?_
  refine p_iconst (x := 1) e_Law_law_319 (by decide) ?_
  refine p_iadd e_Law_law_320 ?_
  refine p_scr (n := i + 1) e_Law_law_321 hS (show nI i + nI 1 = nI (i + 1) from nI_add i 1) (by omega) hL ?_
  refine p_aload_n e_Law_law_322 rfl ?_
  refine p_iload_n e_Law_law_323 rfl ?_
  refine p_iconst (x := 2) e_Law_law_324 (by decide) ?_
  refine p_iadd e_Law_law_325 ?_
  refine p_scr (n := i + 2) e_Law_law_326 hS (show nI i + nI 2 = nI (i + 2) from nI_add i 2) (by omega) hL ?_
  refine p_inv (ci := 7) (d' := 2) [_, _] _ e_Law_law_327 c_Law_49 k_TM_tokens i_TM_tokens s_TM_tokens rfl rfl (by assumption) rfl rfl (Nat.le_of_ble_eq_true rfl) (Nat.le_of_ble_eq_true rfl) ?_
  refine tm_tokens hC ?_
  have tm := hR.tg
  refine p_aload_n e_Law_law_330 rfl ?_
  refine p_aload_n e_Law_law_331 rfl ?_
  refine p_iload_n e_Law_law_332 rfl ?_
  refine p_iconst (x := 1) e_Law_law_333 (by decide) ?_
  refine p_iadd e_Law_law_334 ?_
  refine p_scr (n := i + 1) e_Law_law_335 hS (show nI i + nI 1 = nI (i + 1) from nI_add i 1) (by omega) hL ?_
  refine p_aload_n e_Law_law_336 rfl ?_
  refine p_iload_n e_Law_law_337 rfl ?_
  refine p_iconst (x := 2) e_Law_law_338 (by decide) ?_
  refine p_iadd e_Law_law_339 ?_
  refine p_scr (n := i + 2) e_Law_law_340 hS (show nI i + nI 2 = nI (i + 2) from nI_add i 2) (by omega) hL ?_
  refine p_inv (ci := 8) (d' := 2) [_, _] _ e_Law_law_341 c_Law_53 k_MM_tokens i_MM_tokens s_MM_tokens rfl rfl (by assumption) rfl rfl (Nat.le_of_ble_eq_true rfl) (Nat.le_of_ble_eq_true rfl) ?_
  refine sp_MM_tokens hR (fun σ2 hR2 => ?_)
  refine p_icmp_eq (tgt := 530) e_Law_law_344 (by decide) (fun _ => ?_) (fun hx => absurd (rfl) hx)
  exact nxt σ2 bd A rfl rfl (by omega) (h.nx (hs := []) hC HK.rf hR2 hQ.up)
theorem wp_L_data (hT : T < 100000) (hi : i + 5 ≤ L) (hL : L ≤ 2563) (h : LIV N Y m Z s L X bd T A σ) (nxt : ∀ σ' bd' A', bd'.1 = bd.1 → bd'.2.1 = bd.2.1 → bd'.2.2 ≤ bd.2.2 + 1 → LIV N Y m Z s L X bd' (T + 1) A' σ' → Wp m_Law_law 15 530 [(3, .inl (nI i)), (2, .inr m), (1, .inr (Y 0)), (0, .inr s)] [] σ' P) : Wp m_Law_law 15 349 [(3, .inl (nI i)), (2, .inr m), (1, .inr (Y 0)), (0, .inr s)] [] σ P := by
  obtain ⟨⟨f, mm, g, rf, hC⟩, hR, hQ, h4, hS⟩ := id h
  have t0 := hC.1.2.1.1
  refine p_aload_n e_Law_law_349 rfl ?_
  refine p_aload_n e_Law_law_350 rfl ?_
  refine p_iload_n e_Law_law_351 rfl ?_
  refine p_iconst (x := 1) e_Law_law_352 (by decide) ?_
  refine p_iadd e_Law_law_353 ?_
  refine p_scr (n := i + 1) e_Law_law_354 hS (show nI i + nI 1 = nI (i + 1) from nI_add i 1) (by omega) hL ?_
  refine p_aload_n e_Law_law_355 rfl ?_
  refine p_iload_n e_Law_law_356 rfl ?_
  refine p_iconst (x := 2) e_Law_law_357 (by decide) ?_
  refine p_iadd e_Law_law_358 ?_
  refine p_scr (n := i + 2) e_Law_law_359 hS (show nI i + nI 2 = nI (i + 2) from nI_add i 2) (by omega) hL ?_
  refine p_inv (ci := 7) (d' := 2) [_, _] _ e_Law_law_360 c_Law_54 k_TM_data i_TM_data s_TM_data rfl rfl (by assumption) rfl rfl (Nat.le_of_ble_eq_true rfl) (Nat.le_of_ble_eq_true rfl) ?_
  refine tm_data hC ?_
  have tm := hR.tg
  refine p_aload_n e_Law_law_363 rfl ?_
  refine p_aload_n e_Law_law_364 rfl ?_
  refine p_iload_n e_Law_law_365 rfl ?_
  refine p_iconst (x := 1) e_Law_law_366 (by decide) ?_
  refine p_iadd e_Law_law_367 ?_
  refine p_scr (n := i + 1) e_Law_law_368 hS (show nI i + nI 1 = nI (i + 1) from nI_add i 1) (by omega) hL ?_
  refine p_aload_n e_Law_law_369 rfl ?_
  refine p_iload_n e_Law_law_370 rfl ?_
  refine p_iconst (x := 2) e_Law_law_371 (by decide) ?_
  refine p_iadd e_Law_law_372 ?_
  refine p_scr (n := i + 2) e_Law_law_373 hS (show nI i + nI 2 = nI (i + 2) from nI_add i 2) (by omega) hL ?_
  refine p_inv (ci := 8) (d' := 2) [_, _] _ e_Law_law_374 c_Law_57 k_MM_data i_MM_data s_MM_data rfl rfl (by assumption) rfl rfl (Nat.le_of_ble_eq_true rfl) (Nat.le_of_ble_eq_true rfl) ?_
  refine sp_MM_data hR (fun σ2 hR2 => ?_)
  refine p_icmp_eq (tgt := 530) e_Law_law_377 (by decide) (fun _ => ?_) (fun hx => absurd (rfl) hx)
  exact nxt σ2 bd A rfl rfl (by omega) (h.nx (hs := []) hC HK.rf hR2 hQ.up)
theorem wp_L_knows (hT : T < 100000) (hi : i + 5 ≤ L) (hL : L ≤ 2563) (h : LIV N Y m Z s L X bd T A σ) (nxt : ∀ σ' bd' A', bd'.1 = bd.1 → bd'.2.1 = bd.2.1 → bd'.2.2 ≤ bd.2.2 + 1 → LIV N Y m Z s L X bd' (T + 1) A' σ' → Wp m_Law_law 15 530 [(3, .inl (nI i)), (2, .inr m), (1, .inr (Y 0)), (0, .inr s)] [] σ' P) : Wp m_Law_law 15 382 [(3, .inl (nI i)), (2, .inr m), (1, .inr (Y 0)), (0, .inr s)] [] σ P := by
  obtain ⟨⟨f, mm, g, rf, hC⟩, hR, hQ, h4, hS⟩ := id h
  have t0 := hC.1.2.1.1
  refine p_aload_n e_Law_law_382 rfl ?_
  refine p_aload_n e_Law_law_383 rfl ?_
  refine p_iload_n e_Law_law_384 rfl ?_
  refine p_iconst (x := 1) e_Law_law_385 (by decide) ?_
  refine p_iadd e_Law_law_386 ?_
  refine p_scr (n := i + 1) e_Law_law_387 hS (show nI i + nI 1 = nI (i + 1) from nI_add i 1) (by omega) hL ?_
  refine p_aload_n e_Law_law_388 rfl ?_
  refine p_iload_n e_Law_law_389 rfl ?_
  refine p_iconst (x := 2) e_Law_law_390 (by decide) ?_
  refine p_iadd e_Law_law_391 ?_
  refine p_scr (n := i + 2) e_Law_law_392 hS (show nI i + nI 2 = nI (i + 2) from nI_add i 2) (by omega) hL ?_
  refine p_inv (ci := 7) (d' := 2) [_, _] _ e_Law_law_393 c_Law_58 k_TM_knows i_TM_knows s_TM_knows rfl rfl (by assumption) rfl rfl (Nat.le_of_ble_eq_true rfl) (Nat.le_of_ble_eq_true rfl) ?_
  refine tm_knows hC ?_
  have tm := hR.tg
  refine p_aload_n e_Law_law_396 rfl ?_
  refine p_aload_n e_Law_law_397 rfl ?_
  refine p_iload_n e_Law_law_398 rfl ?_
  refine p_iconst (x := 1) e_Law_law_399 (by decide) ?_
  refine p_iadd e_Law_law_400 ?_
  refine p_scr (n := i + 1) e_Law_law_401 hS (show nI i + nI 1 = nI (i + 1) from nI_add i 1) (by omega) hL ?_
  refine p_aload_n e_Law_law_402 rfl ?_
  refine p_iload_n e_Law_law_403 rfl ?_
  refine p_iconst (x := 2) e_Law_law_404 (by decide) ?_
  refine p_iadd e_Law_law_405 ?_
  refine p_scr (n := i + 2) e_Law_law_406 hS (show nI i + nI 2 = nI (i + 2) from nI_add i 2) (by omega) hL ?_
  refine p_inv (ci := 8) (d' := 2) [_, _] _ e_Law_law_407 c_Law_61 k_MM_knows i_MM_knows s_MM_knows rfl rfl (by assumption) rfl rfl (Nat.le_of_ble_eq_true rfl) (Nat.le_of_ble_eq_true rfl) ?_
  refine sp_MM_knows hQ.1 hR (fun σ2 hR2 => ?_)
  refine p_icmp_eq (tgt := 530) e_Law_law_410 (by decide) (fun _ => ?_) (fun hx => absurd (rfl) hx)
  exact nxt σ2 bd A rfl rfl (by omega) (h.nx (hs := []) hC HK.rf hR2 hQ.up)
theorem wp_L_row (hT : T < 100000) (hi : i + 5 ≤ L) (hL : L ≤ 2563) (h : LIV N Y m Z s L X bd T A σ) (nxt : ∀ σ' bd' A', bd'.1 = bd.1 → bd'.2.1 = bd.2.1 → bd'.2.2 ≤ bd.2.2 + 1 → LIV N Y m Z s L X bd' (T + 1) A' σ' → Wp m_Law_law 15 530 [(3, .inl (nI i)), (2, .inr m), (1, .inr (Y 0)), (0, .inr s)] [] σ' P) : Wp m_Law_law 15 415 [(3, .inl (nI i)), (2, .inr m), (1, .inr (Y 0)), (0, .inr s)] [] σ P := by
  obtain ⟨⟨f, mm, g, rf, hC⟩, hR, hQ, h4, hS⟩ := id h
  have t0 := hC.1.2.1.1
  refine p_aload_n e_Law_law_415 rfl ?_
  refine p_aload_n e_Law_law_416 rfl ?_
  refine p_iload_n e_Law_law_417 rfl ?_
  refine p_iconst (x := 1) e_Law_law_418 (by decide) ?_
  refine p_iadd e_Law_law_419 ?_
  refine p_scr (n := i + 1) e_Law_law_420 hS (show nI i + nI 1 = nI (i + 1) from nI_add i 1) (by omega) hL ?_
  refine p_inv (ci := 7) (d' := 2) [_] _ e_Law_law_421 c_Law_62 k_TM_row i_TM_row s_TM_row rfl rfl (by assumption) rfl rfl (Nat.le_of_ble_eq_true rfl) (Nat.le_of_ble_eq_true rfl) ?_
  refine tm_row hC ?_
  have tm := hR.tg
  refine p_aload_n e_Law_law_424 rfl ?_
  refine p_aload_n e_Law_law_425 rfl ?_
  refine p_iload_n e_Law_law_426 rfl ?_
  refine p_iconst (x := 1) e_Law_law_427 (by decide) ?_
  refine p_iadd e_Law_law_428 ?_
  refine p_scr (n := i + 1) e_Law_law_429 hS (show nI i + nI 1 = nI (i + 1) from nI_add i 1) (by omega) hL ?_
  refine p_inv (ci := 8) (d' := 2) [_] _ e_Law_law_430 c_Law_65 k_MM_row i_MM_row s_MM_row rfl rfl (by assumption) rfl rfl (Nat.le_of_ble_eq_true rfl) (Nat.le_of_ble_eq_true rfl) ?_
  refine sp_MM_row hR (fun σ2 hR2 => ?_)
  refine p_icmp_eq (tgt := 530) e_Law_law_433 (by decide) (fun _ => ?_) (fun hx => absurd (rfl) hx)
  exact nxt σ2 bd A rfl rfl (by omega) (h.nx (hs := []) hC HK.rf hR2 hQ.up)
theorem wp_L_state (hT : T < 100000) (hi : i + 5 ≤ L) (hL : L ≤ 2563) (h : LIV N Y m Z s L X bd T A σ) (nxt : ∀ σ' bd' A', bd'.1 = bd.1 → bd'.2.1 = bd.2.1 → bd'.2.2 ≤ bd.2.2 + 1 → LIV N Y m Z s L X bd' (T + 1) A' σ' → Wp m_Law_law 15 530 [(3, .inl (nI i)), (2, .inr m), (1, .inr (Y 0)), (0, .inr s)] [] σ' P) : Wp m_Law_law 15 438 [(3, .inl (nI i)), (2, .inr m), (1, .inr (Y 0)), (0, .inr s)] [] σ P := by
  obtain ⟨⟨f, mm, g, rf, hC⟩, hR, hQ, h4, hS⟩ := id h
  have t0 := hC.1.2.1.1
  refine p_aload_n e_Law_law_438 rfl ?_
  refine p_aload_n e_Law_law_439 rfl ?_
  refine p_iload_n e_Law_law_440 rfl ?_
  refine p_iconst (x := 1) e_Law_law_441 (by decide) ?_
  refine p_iadd e_Law_law_442 ?_
  refine p_scr (n := i + 1) e_Law_law_443 hS (show nI i + nI 1 = nI (i + 1) from nI_add i 1) (by omega) hL ?_
  refine p_inv (ci := 7) (d' := 2) [_] _ e_Law_law_444 c_Law_66 k_TM_state i_TM_state s_TM_state rfl rfl (by assumption) rfl rfl (Nat.le_of_ble_eq_true rfl) (Nat.le_of_ble_eq_true rfl) ?_
  refine tm_state hC ?_
  have tm := hR.tg
  refine p_aload_n e_Law_law_447 rfl ?_
  refine p_aload_n e_Law_law_448 rfl ?_
  refine p_iload_n e_Law_law_449 rfl ?_
  refine p_iconst (x := 1) e_Law_law_450 (by decide) ?_
  refine p_iadd e_Law_law_451 ?_
  refine p_scr (n := i + 1) e_Law_law_452 hS (show nI i + nI 1 = nI (i + 1) from nI_add i 1) (by omega) hL ?_
  refine p_inv (ci := 8) (d' := 2) [_] _ e_Law_law_453 c_Law_69 k_MM_state i_MM_state s_MM_state rfl rfl (by assumption) rfl rfl (Nat.le_of_ble_eq_true rfl) (Nat.le_of_ble_eq_true rfl) ?_
  refine sp_MM_state hR (fun σ2 hR2 => ?_)
  refine p_icmp_eq (tgt := 530) e_Law_law_456 (by decide) (fun _ => ?_) (fun hx => absurd (rfl) hx)
  exact nxt σ2 bd A rfl rfl (by omega) (h.nx (hs := []) hC HK.rf hR2 hQ.up)
theorem wp_L_ended (hT : T < 100000) (hi : i + 5 ≤ L) (hL : L ≤ 2563) (h : LIV N Y m Z s L X bd T A σ) (nxt : ∀ σ' bd' A', bd'.1 = bd.1 → bd'.2.1 = bd.2.1 → bd'.2.2 ≤ bd.2.2 + 1 → LIV N Y m Z s L X bd' (T + 1) A' σ' → Wp m_Law_law 15 530 [(3, .inl (nI i)), (2, .inr m), (1, .inr (Y 0)), (0, .inr s)] [] σ' P) : Wp m_Law_law 15 461 [(3, .inl (nI i)), (2, .inr m), (1, .inr (Y 0)), (0, .inr s)] [] σ P := by
  obtain ⟨⟨f, mm, g, rf, hC⟩, hR, hQ, h4, hS⟩ := id h
  have t0 := hC.1.2.1.1
  refine p_aload_n e_Law_law_461 rfl ?_
  refine p_aload_n e_Law_law_462 rfl ?_
  refine p_iload_n e_Law_law_463 rfl ?_
  refine p_iconst (x := 1) e_Law_law_464 (by decide) ?_
  refine p_iadd e_Law_law_465 ?_
  refine p_scr (n := i + 1) e_Law_law_466 hS (show nI i + nI 1 = nI (i + 1) from nI_add i 1) (by omega) hL ?_
  refine p_inv (ci := 7) (d' := 2) [_] _ e_Law_law_467 c_Law_70 k_TM_ended i_TM_ended s_TM_ended rfl rfl (by assumption) rfl rfl (Nat.le_of_ble_eq_true rfl) (Nat.le_of_ble_eq_true rfl) ?_
  refine tm_ended hC ?_
  have tm := hR.tg
  refine p_aload_n e_Law_law_470 rfl ?_
  refine p_aload_n e_Law_law_471 rfl ?_
  refine p_iload_n e_Law_law_472 rfl ?_
  refine p_iconst (x := 1) e_Law_law_473 (by decide) ?_
  refine p_iadd e_Law_law_474 ?_
  refine p_scr (n := i + 1) e_Law_law_475 hS (show nI i + nI 1 = nI (i + 1) from nI_add i 1) (by omega) hL ?_
  refine p_inv (ci := 8) (d' := 2) [_] _ e_Law_law_476 c_Law_73 k_MM_ended i_MM_ended s_MM_ended rfl rfl (by assumption) rfl rfl (Nat.le_of_ble_eq_true rfl) (Nat.le_of_ble_eq_true rfl) ?_
  refine sp_MM_ended hR (fun σ2 hR2 => ?_)
  refine p_icmp_eq (tgt := 530) e_Law_law_479 (by decide) (fun _ => ?_) (fun hx => absurd (rfl) hx)
  exact nxt σ2 bd A rfl rfl (by omega) (h.nx (hs := []) hC HK.rf hR2 hQ.up)
theorem wp_L_result (hT : T < 100000) (hi : i + 5 ≤ L) (hL : L ≤ 2563) (h : LIV N Y m Z s L X bd T A σ) (nxt : ∀ σ' bd' A', bd'.1 = bd.1 → bd'.2.1 = bd.2.1 → bd'.2.2 ≤ bd.2.2 + 1 → LIV N Y m Z s L X bd' (T + 1) A' σ' → Wp m_Law_law 15 530 [(3, .inl (nI i)), (2, .inr m), (1, .inr (Y 0)), (0, .inr s)] [] σ' P) : Wp m_Law_law 15 484 [(3, .inl (nI i)), (2, .inr m), (1, .inr (Y 0)), (0, .inr s)] [] σ P := by
  obtain ⟨⟨f, mm, g, rf, hC⟩, hR, hQ, h4, hS⟩ := id h
  have t0 := hC.1.2.1.1
  refine p_aload_n e_Law_law_484 rfl ?_
  refine p_aload_n e_Law_law_485 rfl ?_
  refine p_iload_n e_Law_law_486 rfl ?_
  refine p_iconst (x := 1) e_Law_law_487 (by decide) ?_
  refine p_iadd e_Law_law_488 ?_
  refine p_scr (n := i + 1) e_Law_law_489 hS (show nI i + nI 1 = nI (i + 1) from nI_add i 1) (by omega) hL ?_
  refine p_inv (ci := 7) (d' := 2) [_] _ e_Law_law_490 c_Law_74 k_TM_result i_TM_result s_TM_result rfl rfl (by assumption) rfl rfl (Nat.le_of_ble_eq_true rfl) (Nat.le_of_ble_eq_true rfl) ?_
  refine tm_result hC ?_
  have tm := hR.tg
  refine p_aload_n e_Law_law_493 rfl ?_
  refine p_aload_n e_Law_law_494 rfl ?_
  refine p_iload_n e_Law_law_495 rfl ?_
  refine p_iconst (x := 1) e_Law_law_496 (by decide) ?_
  refine p_iadd e_Law_law_497 ?_
  refine p_scr (n := i + 1) e_Law_law_498 hS (show nI i + nI 1 = nI (i + 1) from nI_add i 1) (by omega) hL ?_
  refine p_inv (ci := 8) (d' := 2) [_] _ e_Law_law_499 c_Law_77 k_MM_result i_MM_result s_MM_result rfl rfl (by assumption) rfl rfl (Nat.le_of_ble_eq_true rfl) (Nat.le_of_ble_eq_true rfl) ?_
  refine sp_MM_result hR (fun σ2 hR2 => ?_)
  refine p_icmp_eq (tgt := 530) e_Law_law_502 (by decide) (fun _ => ?_) (fun hx => absurd (rfl) hx)
  exact nxt σ2 bd A rfl rfl (by omega) (h.nx (hs := []) hC HK.rf hR2 hQ.up)
theorem wp_L_memory (hT : T < 100000) (hi : i + 5 ≤ L) (hL : L ≤ 2563) (h : LIV N Y m Z s L X bd T A σ) (nxt : ∀ σ' bd' A', bd'.1 = bd.1 → bd'.2.1 = bd.2.1 → bd'.2.2 ≤ bd.2.2 + 1 → LIV N Y m Z s L X bd' (T + 1) A' σ' → Wp m_Law_law 15 530 [(3, .inl (nI i)), (2, .inr m), (1, .inr (Y 0)), (0, .inr s)] [] σ' P) : Wp m_Law_law 15 507 [(3, .inl (nI i)), (2, .inr m), (1, .inr (Y 0)), (0, .inr s)] [] σ P := by
  obtain ⟨⟨f, mm, g, rf, hC⟩, hR, hQ, h4, hS⟩ := id h
  have t0 := hC.1.2.1.1
  refine p_aload_n e_Law_law_507 rfl ?_
  refine p_aload_n e_Law_law_508 rfl ?_
  refine p_iload_n e_Law_law_509 rfl ?_
  refine p_iconst (x := 1) e_Law_law_510 (by decide) ?_
  refine p_iadd e_Law_law_511 ?_
  refine p_scr (n := i + 1) e_Law_law_512 hS (show nI i + nI 1 = nI (i + 1) from nI_add i 1) (by omega) hL ?_
  refine p_inv (ci := 7) (d' := 5) [_] _ e_Law_law_513 c_Law_78 k_TM_memory i_TM_memory s_TM_memory rfl rfl (by assumption) rfl rfl (Nat.le_of_ble_eq_true rfl) (Nat.le_of_ble_eq_true rfl) ?_
  refine tm_memory hQ.1 hC ?_
  have tm := hR.tg
  refine p_aload_n e_Law_law_516 rfl ?_
  refine p_aload_n e_Law_law_517 rfl ?_
  refine p_iload_n e_Law_law_518 rfl ?_
  refine p_iconst (x := 1) e_Law_law_519 (by decide) ?_
  refine p_iadd e_Law_law_520 ?_
  refine p_scr (n := i + 1) e_Law_law_521 hS (show nI i + nI 1 = nI (i + 1) from nI_add i 1) (by omega) hL ?_
  refine p_inv (ci := 8) (d' := 2) [_] _ e_Law_law_522 c_Law_81 k_MM_memory i_MM_memory s_MM_memory rfl rfl (by assumption) rfl rfl (Nat.le_of_ble_eq_true rfl) (Nat.le_of_ble_eq_true rfl) ?_
  refine sp_MM_memory hQ.1 hR (fun σ2 hR2 => ?_)
  refine p_icmp_eq (tgt := 530) e_Law_law_525 (by decide) (fun _ => ?_) (fun hx => absurd (rfl) hx)
  exact nxt σ2 bd A rfl rfl (by omega) (h.nx (hs := []) hC HK.rf hR2 hQ.up)
theorem gt5 (hL : L ≤ 2563) (hi : i ≤ 3000) : (nI L - 5 < nI i) ↔ L < i + 5 := by
  rcases Nat.lt_or_ge L 5 with h | h
  · have : nI L - 5 < 0 := by
      rcases (show L = 0 ∨ L = 1 ∨ L = 2 ∨ L = 3 ∨ L = 4 by omega) with rfl | rfl | rfl | rfl | rfl <;> decide
    exact ⟨fun _ => by omega, fun _ => Int32.lt_of_lt_of_le this (nI_pos' (by omega))⟩
  · obtain ⟨k, rfl⟩ : ∃ k, L = k + 5 := ⟨L - 5, by omega⟩
    have e : nI (k + 5) - 5 = nI k := by
      show nI (k + 5) - nI 5 = nI k
      rw [← nI_add, Int32.add_sub_cancel]
    rw [e, nI_ltI (by omega) (by omega)]
    omega
theorem law_loop {B1 B2 : Nat} (hL : L ≤ 2563) (hP : ∀ σ bd A T, T ≤ 600 → bd.1 = B1 → bd.2.1 = B2 → bd.2.2 ≤ T → LIV N Y m Z s L X bd T A σ → P (some (.inl 1)) σ) :
    ∀ n i T bd A σ, i = 3 + 5 * T → i ≤ L + 5 → L ≤ i + n → bd.1 = B1 → bd.2.1 = B2 → bd.2.2 ≤ T → LIV N Y m Z s L X bd T A σ → Wp m_Law_law 15 48 [(3, .inl (nI i)), (2, .inr m), (1, .inr (Y 0)), (0, .inr s)] [] σ (fun v σ' => RV m_Law_law.2.2.2 v ∧ P v σ') := by
  intro n
  induction n with
  | zero =>
    intro i T bd A σ hiT hi5 hn b1 b2 b3 h
    have ts := h.2.2.2.2.1
    refine p_iload_n e_Law_law_48 rfl ?_
    refine p_aload_n e_Law_law_49 rfl ?_
    refine p_alenX e_Law_law_50 ts ?_
    rw [h.2.2.2.2.2.1]
    refine p_iconst (x := 5) e_Law_law_51 (by decide) ?_
    refine p_isub e_Law_law_52 ?_
    refine p_icmp_gt (tgt := 536) e_Law_law_53 (by decide) (fun _ => ?_) (fun hx => absurd ((gt5 hL (by omega)).mpr (by omega)) hx)
    refine p_iconst (x := 1) e_Law_law_536 (by decide) ?_
    refine p_iret e_Law_law_537 (rv_z (by first | assumption | exact Or.inl rfl | exact Or.inr rfl) ?_)
    exact hP σ bd A T (by omega) b1 b2 b3 h
  | succ n ih =>
    intro i T bd A σ hiT hi5 hn b1 b2 b3 h
    have ts := h.2.2.2.2.1
    have hS := h.2.2.2.2
    refine p_iload_n e_Law_law_48 rfl ?_
    refine p_aload_n e_Law_law_49 rfl ?_
    refine p_alenX e_Law_law_50 ts ?_
    rw [h.2.2.2.2.2.1]
    refine p_iconst (x := 5) e_Law_law_51 (by decide) ?_
    refine p_isub e_Law_law_52 ?_
    by_cases hi : L < i + 5
    · refine p_icmp_gt (tgt := 536) e_Law_law_53 (by decide) (fun _ => ?_) (fun hx => absurd ((gt5 hL (by omega)).mpr hi) hx)
      refine p_iconst (x := 1) e_Law_law_536 (by decide) ?_
      refine p_iret e_Law_law_537 (rv_z (by first | assumption | exact Or.inl rfl | exact Or.inr rfl) ?_)
      exact hP σ bd A T (by omega) b1 b2 b3 h
    replace hi : i + 5 ≤ L := by omega
    refine p_icmp_gt (tgt := 536) e_Law_law_53 (by decide) (fun hx => absurd hx ((fun q => by have := (gt5 hL (by omega)).mp q; omega))) (fun _ => ?_)
    have hT : T < 100000 := by omega
    have nx0 : ∀ σ' bd' A', bd'.1 = bd.1 → bd'.2.1 = bd.2.1 → bd'.2.2 ≤ bd.2.2 + 1 → LIV N Y m Z s L X bd' (T + 1) A' σ' → Wp m_Law_law 15 530 [(3, .inl (nI i)), (2, .inr m), (1, .inr (Y 0)), (0, .inr s)] [] σ' (fun v σ' => RV m_Law_law.2.2.2 v ∧ P v σ') := by
      intro σ' bd' A' q1 q2 q3 h'
      refine p_iinc e_Law_law_530 rfl rfl (by decide) ?_
      refine p_goto (tgt := 48) e_Law_law_533 (by decide) ?_
      exact Wp.lv2 (ih (i + 5) (T + 1) bd' A' σ' (by omega) (by omega) (by omega) (q1.trans b1) (q2.trans b2) (by omega) h') ⟨congrArg (fun z => some (Sum.inl z)) (nI_add i 5), rfl, rfl, rfl, trivial⟩
    have nxt := nx0
    refine p_aload_n e_Law_law_56 rfl ?_
    refine p_iload_n e_Law_law_57 rfl ?_
    refine p_scr e_Law_law_58 hS rfl (by omega) hL ?_
    refine p_bipush (x := 15) e_Law_law_59 (by decide) ?_
    refine p_iand e_Law_law_61 ?_
    generalize X i &&& 15 = y
    by_cases hy : ¬ (0 ≤ y ∧ y < nI 14)
    · refine p_tableOut (tgt := 530) e_Law_law_62 ?_ (by decide) ?_
      · rcases Int.lt_or_le y.toInt 0 with q | q
        · exact Or.inl q
        · rcases Int.lt_or_le 13 y.toInt with q' | q'
          · exact Or.inr q'
          · refine absurd ⟨Int32.le_iff_toInt_le.mpr q, Int32.lt_iff_toInt_lt.mpr ?_⟩ hy
            rw [nI_toInt (by omega)]
            omega
      · exact nxt σ bd A rfl rfl (by omega) ⟨h.1, h.2.1, h.2.2.1.up, h.2.2.2⟩
    replace hy := Classical.not_not.mp hy
    obtain ⟨k, hk, rfl⟩ := ix (by omega) hy.1 hy.2
    clear hy
    rcases (show k = 0 ∨ k = 1 ∨ k = 2 ∨ k = 3 ∨ k = 4 ∨ k = 5 ∨ k = 6 ∨ k = 7 ∨ k = 8 ∨ k = 9 ∨ k = 10 ∨ k = 11 ∨ k = 12 ∨ k = 13 by omega) with rfl | rfl | rfl | rfl | rfl | rfl | rfl | rfl | rfl | rfl | rfl | rfl | rfl | rfl
    · refine p_tableIn (off := 70) (tgt := 132) e_Law_law_62 (by decide) (by decide) rfl (by decide) ?_
      exact wp_L_issue hT hi hL h nxt
    · refine p_tableIn (off := 139) (tgt := 201) e_Law_law_62 (by decide) (by decide) rfl (by decide) ?_
      exact wp_L_tick hT hi hL h nxt
    · refine p_tableIn (off := 162) (tgt := 224) e_Law_law_62 (by decide) (by decide) rfl (by decide) ?_
      exact wp_L_deliver hT hi hL h nxt
    · refine p_tableIn (off := 185) (tgt := 247) e_Law_law_62 (by decide) (by decide) rfl (by decide) ?_
      exact wp_L_evict hT hi hL h nxt
    · refine p_tableIn (off := 218) (tgt := 280) e_Law_law_62 (by decide) (by decide) rfl (by decide) ?_
      exact wp_L_letters hT hi hL h nxt
    · refine p_tableIn (off := 231) (tgt := 293) e_Law_law_62 (by decide) (by decide) rfl (by decide) ?_
      exact wp_L_letter hT hi hL h nxt
    · refine p_tableIn (off := 254) (tgt := 316) e_Law_law_62 (by decide) (by decide) rfl (by decide) ?_
      exact wp_L_tokens hT hi hL h nxt
    · refine p_tableIn (off := 287) (tgt := 349) e_Law_law_62 (by decide) (by decide) rfl (by decide) ?_
      exact wp_L_data hT hi hL h nxt
    · refine p_tableIn (off := 320) (tgt := 382) e_Law_law_62 (by decide) (by decide) rfl (by decide) ?_
      exact wp_L_knows hT hi hL h nxt
    · refine p_tableIn (off := 353) (tgt := 415) e_Law_law_62 (by decide) (by decide) rfl (by decide) ?_
      exact wp_L_row hT hi hL h nxt
    · refine p_tableIn (off := 376) (tgt := 438) e_Law_law_62 (by decide) (by decide) rfl (by decide) ?_
      exact wp_L_state hT hi hL h nxt
    · refine p_tableIn (off := 399) (tgt := 461) e_Law_law_62 (by decide) (by decide) rfl (by decide) ?_
      exact wp_L_ended hT hi hL h nxt
    · refine p_tableIn (off := 422) (tgt := 484) e_Law_law_62 (by decide) (by decide) rfl (by decide) ?_
      exact wp_L_result hT hi hL h nxt
    · refine p_tableIn (off := 445) (tgt := 507) e_Law_law_62 (by decide) (by decide) rfl (by decide) ?_
      exact wp_L_memory hT hi hL h nxt
end Law
