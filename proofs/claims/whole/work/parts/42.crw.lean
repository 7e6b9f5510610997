/-! what a write does to the picture -/
theorem cw_384 {N : Nat} {Y : Nat → Nat} {bd : Nat × Nat × Nat} {hs : List Nat} {σ : PS} {A : AS} {f : Nat → Nat} {m : Nat} {g : Nat → Nat} {rf : Nat → Nat → Nat} (h : CRx N Y bd hs σ A f m g rf) {i : Nat} (hi : i < 2 * N + 2) {v : Int32} : CRx N Y bd hs (pfi σ 384 (Y (100 + i)) v) (set1 A 5 i v) f m g rf := by
  obtain ⟨h1, h2, ⟨s1, s2, s3, s4, s5, s6, s7⟩, h4, h5, h6, h7, h8, h9, h10⟩ := h
  refine ⟨h1, h2, ⟨fun j hj => ?_, s2, s3, s4, s5, s6, s7⟩, h4, h5, h6, h7, h8, h9, h10⟩
  rw [fi_pfi, sv_set1]
  by_cases e : j = i
  · subst e; rw [if_pos ⟨rfl, rfl⟩, if_pos ⟨rfl, rfl⟩]
  · rw [if_neg (fun z => e (h1.2.2.2.2.2.2.2.1 j i hj hi z.2)), if_neg (fun z => e z.2)]; exact s1 j hj
theorem cw_385 {N : Nat} {Y : Nat → Nat} {bd : Nat × Nat × Nat} {hs : List Nat} {σ : PS} {A : AS} {f : Nat → Nat} {m : Nat} {g : Nat → Nat} {rf : Nat → Nat → Nat} (h : CRx N Y bd hs σ A f m g rf) {i : Nat} (hi : i < 2 * N + 2) {v : Int32} : CRx N Y bd hs (pfi σ 385 (Y (100 + i)) v) (set1 A 6 i v) f m g rf := by
  obtain ⟨h1, h2, ⟨s1, s2, s3, s4, s5, s6, s7⟩, h4, h5, h6, h7, h8, h9, h10⟩ := h
  refine ⟨h1, h2, ⟨s1, fun j hj => ?_, s3, s4, s5, s6, s7⟩, h4, h5, h6, h7, h8, h9, h10⟩
  rw [fi_pfi, sv_set1]
  by_cases e : j = i
  · subst e; rw [if_pos ⟨rfl, rfl⟩, if_pos ⟨rfl, rfl⟩]
  · rw [if_neg (fun z => e (h1.2.2.2.2.2.2.2.1 j i hj hi z.2)), if_neg (fun z => e z.2)]; exact s2 j hj
theorem cw_386 {N : Nat} {Y : Nat → Nat} {bd : Nat × Nat × Nat} {hs : List Nat} {σ : PS} {A : AS} {f : Nat → Nat} {m : Nat} {g : Nat → Nat} {rf : Nat → Nat → Nat} (h : CRx N Y bd hs σ A f m g rf) {i : Nat} (hi : i < 2 * N + 2) {v : Int32} : CRx N Y bd hs (pfi σ 386 (Y (100 + i)) v) (set1 A 7 i v) f m g rf := by
  obtain ⟨h1, h2, ⟨s1, s2, s3, s4, s5, s6, s7⟩, h4, h5, h6, h7, h8, h9, h10⟩ := h
  refine ⟨h1, h2, ⟨s1, s2, fun j hj => ?_, s4, s5, s6, s7⟩, h4, h5, h6, h7, h8, h9, h10⟩
  rw [fi_pfi, sv_set1]
  by_cases e : j = i
  · subst e; rw [if_pos ⟨rfl, rfl⟩, if_pos ⟨rfl, rfl⟩]
  · rw [if_neg (fun z => e (h1.2.2.2.2.2.2.2.1 j i hj hi z.2)), if_neg (fun z => e z.2)]; exact s3 j hj
theorem cw_387 {N : Nat} {Y : Nat → Nat} {bd : Nat × Nat × Nat} {hs : List Nat} {σ : PS} {A : AS} {f : Nat → Nat} {m : Nat} {g : Nat → Nat} {rf : Nat → Nat → Nat} (h : CRx N Y bd hs σ A f m g rf) {i : Nat} (hi : i < 2 * N + 2) {v : Int32} : CRx N Y bd hs (pfi σ 387 (Y (100 + i)) v) (set1 A 8 i v) f m g rf := by
  obtain ⟨h1, h2, ⟨s1, s2, s3, s4, s5, s6, s7⟩, h4, h5, h6, h7, h8, h9, h10⟩ := h
  refine ⟨h1, h2, ⟨s1, s2, s3, fun j hj => ?_, s5, s6, s7⟩, h4, h5, h6, h7, h8, h9, h10⟩
  rw [fi_pfi, sv_set1]
  by_cases e : j = i
  · subst e; rw [if_pos ⟨rfl, rfl⟩, if_pos ⟨rfl, rfl⟩]
  · rw [if_neg (fun z => e (h1.2.2.2.2.2.2.2.1 j i hj hi z.2)), if_neg (fun z => e z.2)]; exact s4 j hj
theorem cw_388 {N : Nat} {Y : Nat → Nat} {bd : Nat × Nat × Nat} {hs : List Nat} {σ : PS} {A : AS} {f : Nat → Nat} {m : Nat} {g : Nat → Nat} {rf : Nat → Nat → Nat} (h : CRx N Y bd hs σ A f m g rf) {i : Nat} (hi : i < 2 * N + 2) {v : Int32} : CRx N Y bd hs (pfi σ 388 (Y (100 + i)) v) (set1 A 9 i v) f m g rf := by
  obtain ⟨h1, h2, ⟨s1, s2, s3, s4, s5, s6, s7⟩, h4, h5, h6, h7, h8, h9, h10⟩ := h
  refine ⟨h1, h2, ⟨s1, s2, s3, s4, fun j hj => ?_, s6, s7⟩, h4, h5, h6, h7, h8, h9, h10⟩
  rw [fi_pfi, sv_set1]
  by_cases e : j = i
  · subst e; rw [if_pos ⟨rfl, rfl⟩, if_pos ⟨rfl, rfl⟩]
  · rw [if_neg (fun z => e (h1.2.2.2.2.2.2.2.1 j i hj hi z.2)), if_neg (fun z => e z.2)]; exact s5 j hj
theorem cw_389 {N : Nat} {Y : Nat → Nat} {bd : Nat × Nat × Nat} {hs : List Nat} {σ : PS} {A : AS} {f : Nat → Nat} {m : Nat} {g : Nat → Nat} {rf : Nat → Nat → Nat} (h : CRx N Y bd hs σ A f m g rf) {i : Nat} (hi : i < 2 * N + 2) {v : Int32} : CRx N Y bd hs (pfi σ 389 (Y (100 + i)) v) (set1 A 10 i v) f m g rf := by
  obtain ⟨h1, h2, ⟨s1, s2, s3, s4, s5, s6, s7⟩, h4, h5, h6, h7, h8, h9, h10⟩ := h
  refine ⟨h1, h2, ⟨s1, s2, s3, s4, s5, fun j hj => ?_, s7⟩, h4, h5, h6, h7, h8, h9, h10⟩
  rw [fi_pfi, sv_set1]
  by_cases e : j = i
  · subst e; rw [if_pos ⟨rfl, rfl⟩, if_pos ⟨rfl, rfl⟩]
  · rw [if_neg (fun z => e (h1.2.2.2.2.2.2.2.1 j i hj hi z.2)), if_neg (fun z => e z.2)]; exact s6 j hj
theorem cw_390 {N : Nat} {Y : Nat → Nat} {bd : Nat × Nat × Nat} {hs : List Nat} {σ : PS} {A : AS} {f : Nat → Nat} {m : Nat} {g : Nat → Nat} {rf : Nat → Nat → Nat} (h : CRx N Y bd hs σ A f m g rf) {i : Nat} (hi : i < 2 * N + 2) {v : Int32} : CRx N Y bd hs (pfi σ 390 (Y (100 + i)) v) (set1 A 11 i v) f m g rf := by
  obtain ⟨h1, h2, ⟨s1, s2, s3, s4, s5, s6, s7⟩, h4, h5, h6, h7, h8, h9, h10⟩ := h
  refine ⟨h1, h2, ⟨s1, s2, s3, s4, s5, s6, fun j hj => ?_⟩, h4, h5, h6, h7, h8, h9, h10⟩
  rw [fi_pfi, sv_set1]
  by_cases e : j = i
  · subst e; rw [if_pos ⟨rfl, rfl⟩, if_pos ⟨rfl, rfl⟩]
  · rw [if_neg (fun z => e (h1.2.2.2.2.2.2.2.1 j i hj hi z.2)), if_neg (fun z => e z.2)]; exact s7 j hj
theorem cw_64 {N : Nat} {Y : Nat → Nat} {bd : Nat × Nat × Nat} {hs : List Nat} {σ : PS} {A : AS} {f : Nat → Nat} {m : Nat} {g : Nat → Nat} {rf : Nat → Nat → Nat} (h : CRx N Y bd hs σ A f m g rf) {i : Nat} (hi : i < N) {v : Int32} : CRx N Y bd hs (pfi σ 64 (Y (200 + i)) v) (set1 A 17 i v) f m g rf := by
  obtain ⟨h1, h2, h3, ⟨s1, s2, s3, s4, s5, s6, s7, s8, s9, s10⟩, h5, h6, h7, h8, h9, h10⟩ := h
  refine ⟨h1, h2, h3, ⟨fun j hj => ?_, s2, s3, s4, s5, s6, s7, s8, s9, s10⟩, h5, h6, h7, h8, h9, h10⟩
  rw [fi_pfi, sv_set1]
  by_cases e : j = i
  · subst e; rw [if_pos ⟨rfl, rfl⟩, if_pos ⟨rfl, rfl⟩]
  · rw [if_neg (fun z => e (h1.2.2.2.2.2.2.2.2.1 j i hj hi z.2)), if_neg (fun z => e z.2)]; exact s1 j hj
theorem cw_65 {N : Nat} {Y : Nat → Nat} {bd : Nat × Nat × Nat} {hs : List Nat} {σ : PS} {A : AS} {f : Nat → Nat} {m : Nat} {g : Nat → Nat} {rf : Nat → Nat → Nat} (h : CRx N Y bd hs σ A f m g rf) {i : Nat} (hi : i < N) {v : Int32} : CRx N Y bd hs (pfi σ 65 (Y (200 + i)) v) (set1 A 12 i v) f m g rf := by
  obtain ⟨h1, h2, h3, ⟨s1, s2, s3, s4, s5, s6, s7, s8, s9, s10⟩, h5, h6, h7, h8, h9, h10⟩ := h
  refine ⟨h1, h2, h3, ⟨s1, fun j hj => ?_, s3, s4, s5, s6, s7, s8, s9, s10⟩, h5, h6, h7, h8, h9, h10⟩
  rw [fi_pfi, sv_set1]
  by_cases e : j = i
  · subst e; rw [if_pos ⟨rfl, rfl⟩, if_pos ⟨rfl, rfl⟩]
  · rw [if_neg (fun z => e (h1.2.2.2.2.2.2.2.2.1 j i hj hi z.2)), if_neg (fun z => e z.2)]; exact s2 j hj
theorem cw_66 {N : Nat} {Y : Nat → Nat} {bd : Nat × Nat × Nat} {hs : List Nat} {σ : PS} {A : AS} {f : Nat → Nat} {m : Nat} {g : Nat → Nat} {rf : Nat → Nat → Nat} (h : CRx N Y bd hs σ A f m g rf) {i : Nat} (hi : i < N) {v : Int32} : CRx N Y bd hs (pfi σ 66 (Y (200 + i)) v) (set1 A 13 i v) f m g rf := by
  obtain ⟨h1, h2, h3, ⟨s1, s2, s3, s4, s5, s6, s7, s8, s9, s10⟩, h5, h6, h7, h8, h9, h10⟩ := h
  refine ⟨h1, h2, h3, ⟨s1, s2, fun j hj => ?_, s4, s5, s6, s7, s8, s9, s10⟩, h5, h6, h7, h8, h9, h10⟩
  rw [fi_pfi, sv_set1]
  by_cases e : j = i
  · subst e; rw [if_pos ⟨rfl, rfl⟩, if_pos ⟨rfl, rfl⟩]
  · rw [if_neg (fun z => e (h1.2.2.2.2.2.2.2.2.1 j i hj hi z.2)), if_neg (fun z => e z.2)]; exact s3 j hj
theorem cw_67 {N : Nat} {Y : Nat → Nat} {bd : Nat × Nat × Nat} {hs : List Nat} {σ : PS} {A : AS} {f : Nat → Nat} {m : Nat} {g : Nat → Nat} {rf : Nat → Nat → Nat} (h : CRx N Y bd hs σ A f m g rf) {i : Nat} (hi : i < N) {v : Int32} : CRx N Y bd hs (pfi σ 67 (Y (200 + i)) v) (set1 A 15 i v) f m g rf := by
  obtain ⟨h1, h2, h3, ⟨s1, s2, s3, s4, s5, s6, s7, s8, s9, s10⟩, h5, h6, h7, h8, h9, h10⟩ := h
  refine ⟨h1, h2, h3, ⟨s1, s2, s3, fun j hj => ?_, s5, s6, s7, s8, s9, s10⟩, h5, h6, h7, h8, h9, h10⟩
  rw [fi_pfi, sv_set1]
  by_cases e : j = i
  · subst e; rw [if_pos ⟨rfl, rfl⟩, if_pos ⟨rfl, rfl⟩]
  · rw [if_neg (fun z => e (h1.2.2.2.2.2.2.2.2.1 j i hj hi z.2)), if_neg (fun z => e z.2)]; exact s4 j hj
theorem cw_68 {N : Nat} {Y : Nat → Nat} {bd : Nat × Nat × Nat} {hs : List Nat} {σ : PS} {A : AS} {f : Nat → Nat} {m : Nat} {g : Nat → Nat} {rf : Nat → Nat → Nat} (h : CRx N Y bd hs σ A f m g rf) {i : Nat} (hi : i < N) {v : Int32} : CRx N Y bd hs (pfi σ 68 (Y (200 + i)) v) (set1 A 16 i v) f m g rf := by
  obtain ⟨h1, h2, h3, ⟨s1, s2, s3, s4, s5, s6, s7, s8, s9, s10⟩, h5, h6, h7, h8, h9, h10⟩ := h
  refine ⟨h1, h2, h3, ⟨s1, s2, s3, s4, fun j hj => ?_, s6, s7, s8, s9, s10⟩, h5, h6, h7, h8, h9, h10⟩
  rw [fi_pfi, sv_set1]
  by_cases e : j = i
  · subst e; rw [if_pos ⟨rfl, rfl⟩, if_pos ⟨rfl, rfl⟩]
  · rw [if_neg (fun z => e (h1.2.2.2.2.2.2.2.2.1 j i hj hi z.2)), if_neg (fun z => e z.2)]; exact s5 j hj
theorem cw_69 {N : Nat} {Y : Nat → Nat} {bd : Nat × Nat × Nat} {hs : List Nat} {σ : PS} {A : AS} {f : Nat → Nat} {m : Nat} {g : Nat → Nat} {rf : Nat → Nat → Nat} (h : CRx N Y bd hs σ A f m g rf) {i : Nat} (hi : i < N) {v : Int32} : CRx N Y bd hs (pfi σ 69 (Y (200 + i)) v) (set1 A 18 i v) f m g rf := by
  obtain ⟨h1, h2, h3, ⟨s1, s2, s3, s4, s5, s6, s7, s8, s9, s10⟩, h5, h6, h7, h8, h9, h10⟩ := h
  refine ⟨h1, h2, h3, ⟨s1, s2, s3, s4, s5, fun j hj => ?_, s7, s8, s9, s10⟩, h5, h6, h7, h8, h9, h10⟩
  rw [fi_pfi, sv_set1]
  by_cases e : j = i
  · subst e; rw [if_pos ⟨rfl, rfl⟩, if_pos ⟨rfl, rfl⟩]
  · rw [if_neg (fun z => e (h1.2.2.2.2.2.2.2.2.1 j i hj hi z.2)), if_neg (fun z => e z.2)]; exact s6 j hj
theorem cw_70 {N : Nat} {Y : Nat → Nat} {bd : Nat × Nat × Nat} {hs : List Nat} {σ : PS} {A : AS} {f : Nat → Nat} {m : Nat} {g : Nat → Nat} {rf : Nat → Nat → Nat} (h : CRx N Y bd hs σ A f m g rf) {i : Nat} (hi : i < N) {v : Int32} : CRx N Y bd hs (pfi σ 70 (Y (200 + i)) v) (set1 A 19 i v) f m g rf := by
  obtain ⟨h1, h2, h3, ⟨s1, s2, s3, s4, s5, s6, s7, s8, s9, s10⟩, h5, h6, h7, h8, h9, h10⟩ := h
  refine ⟨h1, h2, h3, ⟨s1, s2, s3, s4, s5, s6, fun j hj => ?_, s8, s9, s10⟩, h5, h6, h7, h8, h9, h10⟩
  rw [fi_pfi, sv_set1]
  by_cases e : j = i
  · subst e; rw [if_pos ⟨rfl, rfl⟩, if_pos ⟨rfl, rfl⟩]
  · rw [if_neg (fun z => e (h1.2.2.2.2.2.2.2.2.1 j i hj hi z.2)), if_neg (fun z => e z.2)]; exact s7 j hj
theorem cw_71 {N : Nat} {Y : Nat → Nat} {bd : Nat × Nat × Nat} {hs : List Nat} {σ : PS} {A : AS} {f : Nat → Nat} {m : Nat} {g : Nat → Nat} {rf : Nat → Nat → Nat} (h : CRx N Y bd hs σ A f m g rf) {i : Nat} (hi : i < N) {v : Int32} : CRx N Y bd hs (pfi σ 71 (Y (200 + i)) v) (set1 A 14 i v) f m g rf := by
  obtain ⟨h1, h2, h3, ⟨s1, s2, s3, s4, s5, s6, s7, s8, s9, s10⟩, h5, h6, h7, h8, h9, h10⟩ := h
  refine ⟨h1, h2, h3, ⟨s1, s2, s3, s4, s5, s6, s7, fun j hj => ?_, s9, s10⟩, h5, h6, h7, h8, h9, h10⟩
  rw [fi_pfi, sv_set1]
  by_cases e : j = i
  · subst e; rw [if_pos ⟨rfl, rfl⟩, if_pos ⟨rfl, rfl⟩]
  · rw [if_neg (fun z => e (h1.2.2.2.2.2.2.2.2.1 j i hj hi z.2)), if_neg (fun z => e z.2)]; exact s8 j hj
theorem cw_72 {N : Nat} {Y : Nat → Nat} {bd : Nat × Nat × Nat} {hs : List Nat} {σ : PS} {A : AS} {f : Nat → Nat} {m : Nat} {g : Nat → Nat} {rf : Nat → Nat → Nat} (h : CRx N Y bd hs σ A f m g rf) {i : Nat} (hi : i < N) {v : Int32} : CRx N Y bd hs (pfi σ 72 (Y (200 + i)) v) (set1 A 20 i v) f m g rf := by
  obtain ⟨h1, h2, h3, ⟨s1, s2, s3, s4, s5, s6, s7, s8, s9, s10⟩, h5, h6, h7, h8, h9, h10⟩ := h
  refine ⟨h1, h2, h3, ⟨s1, s2, s3, s4, s5, s6, s7, s8, fun j hj => ?_, s10⟩, h5, h6, h7, h8, h9, h10⟩
  rw [fi_pfi, sv_set1]
  by_cases e : j = i
  · subst e; rw [if_pos ⟨rfl, rfl⟩, if_pos ⟨rfl, rfl⟩]
  · rw [if_neg (fun z => e (h1.2.2.2.2.2.2.2.2.1 j i hj hi z.2)), if_neg (fun z => e z.2)]; exact s9 j hj
theorem cw_73 {N : Nat} {Y : Nat → Nat} {bd : Nat × Nat × Nat} {hs : List Nat} {σ : PS} {A : AS} {f : Nat → Nat} {m : Nat} {g : Nat → Nat} {rf : Nat → Nat → Nat} (h : CRx N Y bd hs σ A f m g rf) {i : Nat} (hi : i < N) {v : Int32} : CRx N Y bd hs (pfi σ 73 (Y (200 + i)) v) (set1 A 21 i v) f m g rf := by
  obtain ⟨h1, h2, h3, ⟨s1, s2, s3, s4, s5, s6, s7, s8, s9, s10⟩, h5, h6, h7, h8, h9, h10⟩ := h
  refine ⟨h1, h2, h3, ⟨s1, s2, s3, s4, s5, s6, s7, s8, s9, fun j hj => ?_⟩, h5, h6, h7, h8, h9, h10⟩
  rw [fi_pfi, sv_set1]
  by_cases e : j = i
  · subst e; rw [if_pos ⟨rfl, rfl⟩, if_pos ⟨rfl, rfl⟩]
  · rw [if_neg (fun z => e (h1.2.2.2.2.2.2.2.2.1 j i hj hi z.2)), if_neg (fun z => e z.2)]; exact s10 j hj
theorem cl_192 {N : Nat} {Y : Nat → Nat} {bd : Nat × Nat × Nat} {hs : List Nat} {σ : PS} {A : AS} {f : Nat → Nat} {m : Nat} {g : Nat → Nat} {rf : Nat → Nat → Nat} (h : CRx N Y bd hs σ A f m g rf) {i : Nat} (hi : i < ln A) {v : Int32} : CRx N Y bd hs (pfi σ 192 (f i) v) (set1 A 29 i v) f m g rf := by
  obtain ⟨h1, h2, h3, h4, h5, ⟨a1, a2, a3, a4, a5, a6⟩, h7, h8, h9, h10⟩ := h
  refine ⟨h1, h2, h3, h4, h5, ⟨a1, a2, fun j hj => ?_, a4, a5, a6⟩, h7, h8, h9, h10⟩
  obtain ⟨t, ⟨s1, s2, s3, s4, s5, s6, s7, s8, s9, s10, s11⟩⟩ := a3 j hj
  refine ⟨t, ⟨?_, s2, s3, s4, s5, s6, s7, s8, s9, s10, s11⟩⟩
  rw [fi_pfi, sv_set1]
  by_cases e : j = i
  · subst e; rw [if_pos ⟨rfl, rfl⟩, if_pos ⟨rfl, rfl⟩]
  · rw [if_neg (fun z => e (a5 j i hj hi z.2)), if_neg (fun z => e z.2)]; exact s1
theorem ch_192 {N : Nat} {Y : Nat → Nat} {bd : Nat × Nat × Nat} {hs : List Nat} {σ : PS} {A : AS} {f : Nat → Nat} {m : Nat} {g : Nat → Nat} {rf : Nat → Nat → Nat} (h : CRx N Y bd hs σ A f m g rf) {l : Nat} (hl : l ∈ hs) {v : Int32} : CRx N Y bd hs (pfi σ 192 l v) A f m g rf := by
  obtain ⟨h1, h2, h3, h4, h5, ⟨a1, a2, a3, a4, a5, a6, a7, a8, a9⟩, h7, h8, h9, h10⟩ := h
  refine ⟨h1, h2, h3, h4, h5, ⟨a1, a2, fun j hj => ?_, a4, a5, a6, a7, a8, a9⟩, h7, h8, h9, h10⟩
  obtain ⟨t, ⟨s1, s2, s3, s4, s5, s6, s7, s8, s9, s10, s11⟩⟩ := a3 j hj
  refine ⟨t, ⟨?_, s2, s3, s4, s5, s6, s7, s8, s9, s10, s11⟩⟩
  rw [fi_pfi, if_neg (fun z => (a8 l hl).2.1 j hj z.2)]; exact s1
theorem cl_193 {N : Nat} {Y : Nat → Nat} {bd : Nat × Nat × Nat} {hs : List Nat} {σ : PS} {A : AS} {f : Nat → Nat} {m : Nat} {g : Nat → Nat} {rf : Nat → Nat → Nat} (h : CRx N Y bd hs σ A f m g rf) {i : Nat} (hi : i < ln A) {v : Int32} : CRx N Y bd hs (pfi σ 193 (f i) v) (set1 A 31 i v) f m g rf := by
  obtain ⟨h1, h2, h3, h4, h5, ⟨a1, a2, a3, a4, a5, a6⟩, h7, h8, h9, h10⟩ := h
  refine ⟨h1, h2, h3, h4, h5, ⟨a1, a2, fun j hj => ?_, a4, a5, a6⟩, h7, h8, h9, h10⟩
  obtain ⟨t, ⟨s1, s2, s3, s4, s5, s6, s7, s8, s9, s10, s11⟩⟩ := a3 j hj
  refine ⟨t, ⟨s1, ?_, s3, s4, s5, s6, s7, s8, s9, s10, s11⟩⟩
  rw [fi_pfi, sv_set1]
  by_cases e : j = i
  · subst e; rw [if_pos ⟨rfl, rfl⟩, if_pos ⟨rfl, rfl⟩]
  · rw [if_neg (fun z => e (a5 j i hj hi z.2)), if_neg (fun z => e z.2)]; exact s2
theorem ch_193 {N : Nat} {Y : Nat → Nat} {bd : Nat × Nat × Nat} {hs : List Nat} {σ : PS} {A : AS} {f : Nat → Nat} {m : Nat} {g : Nat → Nat} {rf : Nat → Nat → Nat} (h : CRx N Y bd hs σ A f m g rf) {l : Nat} (hl : l ∈ hs) {v : Int32} : CRx N Y bd hs (pfi σ 193 l v) A f m g rf := by
  obtain ⟨h1, h2, h3, h4, h5, ⟨a1, a2, a3, a4, a5, a6, a7, a8, a9⟩, h7, h8, h9, h10⟩ := h
  refine ⟨h1, h2, h3, h4, h5, ⟨a1, a2, fun j hj => ?_, a4, a5, a6, a7, a8, a9⟩, h7, h8, h9, h10⟩
  obtain ⟨t, ⟨s1, s2, s3, s4, s5, s6, s7, s8, s9, s10, s11⟩⟩ := a3 j hj
  refine ⟨t, ⟨s1, ?_, s3, s4, s5, s6, s7, s8, s9, s10, s11⟩⟩
  rw [fi_pfi, if_neg (fun z => (a8 l hl).2.1 j hj z.2)]; exact s2
theorem cl_194 {N : Nat} {Y : Nat → Nat} {bd : Nat × Nat × Nat} {hs : List Nat} {σ : PS} {A : AS} {f : Nat → Nat} {m : Nat} {g : Nat → Nat} {rf : Nat → Nat → Nat} (h : CRx N Y bd hs σ A f m g rf) {i : Nat} (hi : i < ln A) {v : Int32} : CRx N Y bd hs (pfi σ 194 (f i) v) (set1 A 30 i v) f m g rf := by
  obtain ⟨h1, h2, h3, h4, h5, ⟨a1, a2, a3, a4, a5, a6⟩, h7, h8, h9, h10⟩ := h
  refine ⟨h1, h2, h3, h4, h5, ⟨a1, a2, fun j hj => ?_, a4, a5, a6⟩, h7, h8, h9, h10⟩
  obtain ⟨t, ⟨s1, s2, s3, s4, s5, s6, s7, s8, s9, s10, s11⟩⟩ := a3 j hj
  refine ⟨t, ⟨s1, s2, ?_, s4, s5, s6, s7, s8, s9, s10, s11⟩⟩
  rw [fi_pfi, sv_set1]
  by_cases e : j = i
  · subst e; rw [if_pos ⟨rfl, rfl⟩, if_pos ⟨rfl, rfl⟩]
  · rw [if_neg (fun z => e (a5 j i hj hi z.2)), if_neg (fun z => e z.2)]; exact s3
theorem ch_194 {N : Nat} {Y : Nat → Nat} {bd : Nat × Nat × Nat} {hs : List Nat} {σ : PS} {A : AS} {f : Nat → Nat} {m : Nat} {g : Nat → Nat} {rf : Nat → Nat → Nat} (h : CRx N Y bd hs σ A f m g rf) {l : Nat} (hl : l ∈ hs) {v : Int32} : CRx N Y bd hs (pfi σ 194 l v) A f m g rf := by
  obtain ⟨h1, h2, h3, h4, h5, ⟨a1, a2, a3, a4, a5, a6, a7, a8, a9⟩, h7, h8, h9, h10⟩ := h
  refine ⟨h1, h2, h3, h4, h5, ⟨a1, a2, fun j hj => ?_, a4, a5, a6, a7, a8, a9⟩, h7, h8, h9, h10⟩
  obtain ⟨t, ⟨s1, s2, s3, s4, s5, s6, s7, s8, s9, s10, s11⟩⟩ := a3 j hj
  refine ⟨t, ⟨s1, s2, ?_, s4, s5, s6, s7, s8, s9, s10, s11⟩⟩
  rw [fi_pfi, if_neg (fun z => (a8 l hl).2.1 j hj z.2)]; exact s3
theorem cl_195 {N : Nat} {Y : Nat → Nat} {bd : Nat × Nat × Nat} {hs : List Nat} {σ : PS} {A : AS} {f : Nat → Nat} {m : Nat} {g : Nat → Nat} {rf : Nat → Nat → Nat} (h : CRx N Y bd hs σ A f m g rf) {i : Nat} (hi : i < ln A) {v : Int32} : CRx N Y bd hs (pfi σ 195 (f i) v) (set1 A 32 i v) f m g rf := by
  obtain ⟨h1, h2, h3, h4, h5, ⟨a1, a2, a3, a4, a5, a6⟩, h7, h8, h9, h10⟩ := h
  refine ⟨h1, h2, h3, h4, h5, ⟨a1, a2, fun j hj => ?_, a4, a5, a6⟩, h7, h8, h9, h10⟩
  obtain ⟨t, ⟨s1, s2, s3, s4, s5, s6, s7, s8, s9, s10, s11⟩⟩ := a3 j hj
  refine ⟨t, ⟨s1, s2, s3, ?_, s5, s6, s7, s8, s9, s10, s11⟩⟩
  rw [fi_pfi, sv_set1]
  by_cases e : j = i
  · subst e; rw [if_pos ⟨rfl, rfl⟩, if_pos ⟨rfl, rfl⟩]
  · rw [if_neg (fun z => e (a5 j i hj hi z.2)), if_neg (fun z => e z.2)]; exact s4
theorem ch_195 {N : Nat} {Y : Nat → Nat} {bd : Nat × Nat × Nat} {hs : List Nat} {σ : PS} {A : AS} {f : Nat → Nat} {m : Nat} {g : Nat → Nat} {rf : Nat → Nat → Nat} (h : CRx N Y bd hs σ A f m g rf) {l : Nat} (hl : l ∈ hs) {v : Int32} : CRx N Y bd hs (pfi σ 195 l v) A f m g rf := by
  obtain ⟨h1, h2, h3, h4, h5, ⟨a1, a2, a3, a4, a5, a6, a7, a8, a9⟩, h7, h8, h9, h10⟩ := h
  refine ⟨h1, h2, h3, h4, h5, ⟨a1, a2, fun j hj => ?_, a4, a5, a6, a7, a8, a9⟩, h7, h8, h9, h10⟩
  obtain ⟨t, ⟨s1, s2, s3, s4, s5, s6, s7, s8, s9, s10, s11⟩⟩ := a3 j hj
  refine ⟨t, ⟨s1, s2, s3, ?_, s5, s6, s7, s8, s9, s10, s11⟩⟩
  rw [fi_pfi, if_neg (fun z => (a8 l hl).2.1 j hj z.2)]; exact s4
theorem cl_196 {N : Nat} {Y : Nat → Nat} {bd : Nat × Nat × Nat} {hs : List Nat} {σ : PS} {A : AS} {f : Nat → Nat} {m : Nat} {g : Nat → Nat} {rf : Nat → Nat → Nat} (h : CRx N Y bd hs σ A f m g rf) {i : Nat} (hi : i < ln A) {v : Int32} : CRx N Y bd hs (pfi σ 196 (f i) v) (set1 A 33 i v) f m g rf := by
  obtain ⟨h1, h2, h3, h4, h5, ⟨a1, a2, a3, a4, a5, a6⟩, h7, h8, h9, h10⟩ := h
  refine ⟨h1, h2, h3, h4, h5, ⟨a1, a2, fun j hj => ?_, a4, a5, a6⟩, h7, h8, h9, h10⟩
  obtain ⟨t, ⟨s1, s2, s3, s4, s5, s6, s7, s8, s9, s10, s11⟩⟩ := a3 j hj
  refine ⟨t, ⟨s1, s2, s3, s4, ?_, s6, s7, s8, s9, s10, s11⟩⟩
  rw [fi_pfi, sv_set1]
  by_cases e : j = i
  · subst e; rw [if_pos ⟨rfl, rfl⟩, if_pos ⟨rfl, rfl⟩]
  · rw [if_neg (fun z => e (a5 j i hj hi z.2)), if_neg (fun z => e z.2)]; exact s5
theorem ch_196 {N : Nat} {Y : Nat → Nat} {bd : Nat × Nat × Nat} {hs : List Nat} {σ : PS} {A : AS} {f : Nat → Nat} {m : Nat} {g : Nat → Nat} {rf : Nat → Nat → Nat} (h : CRx N Y bd hs σ A f m g rf) {l : Nat} (hl : l ∈ hs) {v : Int32} : CRx N Y bd hs (pfi σ 196 l v) A f m g rf := by
  obtain ⟨h1, h2, h3, h4, h5, ⟨a1, a2, a3, a4, a5, a6, a7, a8, a9⟩, h7, h8, h9, h10⟩ := h
  refine ⟨h1, h2, h3, h4, h5, ⟨a1, a2, fun j hj => ?_, a4, a5, a6, a7, a8, a9⟩, h7, h8, h9, h10⟩
  obtain ⟨t, ⟨s1, s2, s3, s4, s5, s6, s7, s8, s9, s10, s11⟩⟩ := a3 j hj
  refine ⟨t, ⟨s1, s2, s3, s4, ?_, s6, s7, s8, s9, s10, s11⟩⟩
  rw [fi_pfi, if_neg (fun z => (a8 l hl).2.1 j hj z.2)]; exact s5
theorem cl_197 {N : Nat} {Y : Nat → Nat} {bd : Nat × Nat × Nat} {hs : List Nat} {σ : PS} {A : AS} {f : Nat → Nat} {m : Nat} {g : Nat → Nat} {rf : Nat → Nat → Nat} (h : CRx N Y bd hs σ A f m g rf) {i : Nat} (hi : i < ln A) {v : Int32} : CRx N Y bd hs (pfi σ 197 (f i) v) (set1 A 34 i v) f m g rf := by
  obtain ⟨h1, h2, h3, h4, h5, ⟨a1, a2, a3, a4, a5, a6⟩, h7, h8, h9, h10⟩ := h
  refine ⟨h1, h2, h3, h4, h5, ⟨a1, a2, fun j hj => ?_, a4, a5, a6⟩, h7, h8, h9, h10⟩
  obtain ⟨t, ⟨s1, s2, s3, s4, s5, s6, s7, s8, s9, s10, s11⟩⟩ := a3 j hj
  refine ⟨t, ⟨s1, s2, s3, s4, s5, ?_, s7, s8, s9, s10, s11⟩⟩
  rw [fi_pfi, sv_set1]
  by_cases e : j = i
  · subst e; rw [if_pos ⟨rfl, rfl⟩, if_pos ⟨rfl, rfl⟩]
  · rw [if_neg (fun z => e (a5 j i hj hi z.2)), if_neg (fun z => e z.2)]; exact s6
theorem ch_197 {N : Nat} {Y : Nat → Nat} {bd : Nat × Nat × Nat} {hs : List Nat} {σ : PS} {A : AS} {f : Nat → Nat} {m : Nat} {g : Nat → Nat} {rf : Nat → Nat → Nat} (h : CRx N Y bd hs σ A f m g rf) {l : Nat} (hl : l ∈ hs) {v : Int32} : CRx N Y bd hs (pfi σ 197 l v) A f m g rf := by
  obtain ⟨h1, h2, h3, h4, h5, ⟨a1, a2, a3, a4, a5, a6, a7, a8, a9⟩, h7, h8, h9, h10⟩ := h
  refine ⟨h1, h2, h3, h4, h5, ⟨a1, a2, fun j hj => ?_, a4, a5, a6, a7, a8, a9⟩, h7, h8, h9, h10⟩
  obtain ⟨t, ⟨s1, s2, s3, s4, s5, s6, s7, s8, s9, s10, s11⟩⟩ := a3 j hj
  refine ⟨t, ⟨s1, s2, s3, s4, s5, ?_, s7, s8, s9, s10, s11⟩⟩
  rw [fi_pfi, if_neg (fun z => (a8 l hl).2.1 j hj z.2)]; exact s6
theorem cl_198 {N : Nat} {Y : Nat → Nat} {bd : Nat × Nat × Nat} {hs : List Nat} {σ : PS} {A : AS} {f : Nat → Nat} {m : Nat} {g : Nat → Nat} {rf : Nat → Nat → Nat} (h : CRx N Y bd hs σ A f m g rf) {i : Nat} (hi : i < ln A) {v : Int32} : CRx N Y bd hs (pfi σ 198 (f i) v) (set1 A 35 i v) f m g rf := by
  obtain ⟨h1, h2, h3, h4, h5, ⟨a1, a2, a3, a4, a5, a6⟩, h7, h8, h9, h10⟩ := h
  refine ⟨h1, h2, h3, h4, h5, ⟨a1, a2, fun j hj => ?_, a4, a5, a6⟩, h7, h8, h9, h10⟩
  obtain ⟨t, ⟨s1, s2, s3, s4, s5, s6, s7, s8, s9, s10, s11⟩⟩ := a3 j hj
  refine ⟨t, ⟨s1, s2, s3, s4, s5, s6, ?_, s8, s9, s10, s11⟩⟩
  rw [fi_pfi, sv_set1]
  by_cases e : j = i
  · subst e; rw [if_pos ⟨rfl, rfl⟩, if_pos ⟨rfl, rfl⟩]
  · rw [if_neg (fun z => e (a5 j i hj hi z.2)), if_neg (fun z => e z.2)]; exact s7
theorem ch_198 {N : Nat} {Y : Nat → Nat} {bd : Nat × Nat × Nat} {hs : List Nat} {σ : PS} {A : AS} {f : Nat → Nat} {m : Nat} {g : Nat → Nat} {rf : Nat → Nat → Nat} (h : CRx N Y bd hs σ A f m g rf) {l : Nat} (hl : l ∈ hs) {v : Int32} : CRx N Y bd hs (pfi σ 198 l v) A f m g rf := by
  obtain ⟨h1, h2, h3, h4, h5, ⟨a1, a2, a3, a4, a5, a6, a7, a8, a9⟩, h7, h8, h9, h10⟩ := h
  refine ⟨h1, h2, h3, h4, h5, ⟨a1, a2, fun j hj => ?_, a4, a5, a6, a7, a8, a9⟩, h7, h8, h9, h10⟩
  obtain ⟨t, ⟨s1, s2, s3, s4, s5, s6, s7, s8, s9, s10, s11⟩⟩ := a3 j hj
  refine ⟨t, ⟨s1, s2, s3, s4, s5, s6, ?_, s8, s9, s10, s11⟩⟩
  rw [fi_pfi, if_neg (fun z => (a8 l hl).2.1 j hj z.2)]; exact s7
theorem cl_199 {N : Nat} {Y : Nat → Nat} {bd : Nat × Nat × Nat} {hs : List Nat} {σ : PS} {A : AS} {f : Nat → Nat} {m : Nat} {g : Nat → Nat} {rf : Nat → Nat → Nat} (h : CRx N Y bd hs σ A f m g rf) {i : Nat} (hi : i < ln A) {v : Int32} : CRx N Y bd hs (pfi σ 199 (f i) v) (set1 A 36 i v) f m g rf := by
  obtain ⟨h1, h2, h3, h4, h5, ⟨a1, a2, a3, a4, a5, a6⟩, h7, h8, h9, h10⟩ := h
  refine ⟨h1, h2, h3, h4, h5, ⟨a1, a2, fun j hj => ?_, a4, a5, a6⟩, h7, h8, h9, h10⟩
  obtain ⟨t, ⟨s1, s2, s3, s4, s5, s6, s7, s8, s9, s10, s11⟩⟩ := a3 j hj
  refine ⟨t, ⟨s1, s2, s3, s4, s5, s6, s7, ?_, s9, s10, s11⟩⟩
  rw [fi_pfi, sv_set1]
  by_cases e : j = i
  · subst e; rw [if_pos ⟨rfl, rfl⟩, if_pos ⟨rfl, rfl⟩]
  · rw [if_neg (fun z => e (a5 j i hj hi z.2)), if_neg (fun z => e z.2)]; exact s8
theorem ch_199 {N : Nat} {Y : Nat → Nat} {bd : Nat × Nat × Nat} {hs : List Nat} {σ : PS} {A : AS} {f : Nat → Nat} {m : Nat} {g : Nat → Nat} {rf : Nat → Nat → Nat} (h : CRx N Y bd hs σ A f m g rf) {l : Nat} (hl : l ∈ hs) {v : Int32} : CRx N Y bd hs (pfi σ 199 l v) A f m g rf := by
  obtain ⟨h1, h2, h3, h4, h5, ⟨a1, a2, a3, a4, a5, a6, a7, a8, a9⟩, h7, h8, h9, h10⟩ := h
  refine ⟨h1, h2, h3, h4, h5, ⟨a1, a2, fun j hj => ?_, a4, a5, a6, a7, a8, a9⟩, h7, h8, h9, h10⟩
  obtain ⟨t, ⟨s1, s2, s3, s4, s5, s6, s7, s8, s9, s10, s11⟩⟩ := a3 j hj
  refine ⟨t, ⟨s1, s2, s3, s4, s5, s6, s7, ?_, s9, s10, s11⟩⟩
  rw [fi_pfi, if_neg (fun z => (a8 l hl).2.1 j hj z.2)]; exact s8
theorem cl_200 {N : Nat} {Y : Nat → Nat} {bd : Nat × Nat × Nat} {hs : List Nat} {σ : PS} {A : AS} {f : Nat → Nat} {m : Nat} {g : Nat → Nat} {rf : Nat → Nat → Nat} (h : CRx N Y bd hs σ A f m g rf) {i : Nat} (hi : i < ln A) {v : Int32} : CRx N Y bd hs (pfi σ 200 (f i) v) (set1 A 37 i v) f m g rf := by
  obtain ⟨h1, h2, h3, h4, h5, ⟨a1, a2, a3, a4, a5, a6⟩, h7, h8, h9, h10⟩ := h
  refine ⟨h1, h2, h3, h4, h5, ⟨a1, a2, fun j hj => ?_, a4, a5, a6⟩, h7, h8, h9, h10⟩
  obtain ⟨t, ⟨s1, s2, s3, s4, s5, s6, s7, s8, s9, s10, s11⟩⟩ := a3 j hj
  refine ⟨t, ⟨s1, s2, s3, s4, s5, s6, s7, s8, ?_, s10, s11⟩⟩
  rw [fi_pfi, sv_set1]
  by_cases e : j = i
  · subst e; rw [if_pos ⟨rfl, rfl⟩, if_pos ⟨rfl, rfl⟩]
  · rw [if_neg (fun z => e (a5 j i hj hi z.2)), if_neg (fun z => e z.2)]; exact s9
theorem ch_200 {N : Nat} {Y : Nat → Nat} {bd : Nat × Nat × Nat} {hs : List Nat} {σ : PS} {A : AS} {f : Nat → Nat} {m : Nat} {g : Nat → Nat} {rf : Nat → Nat → Nat} (h : CRx N Y bd hs σ A f m g rf) {l : Nat} (hl : l ∈ hs) {v : Int32} : CRx N Y bd hs (pfi σ 200 l v) A f m g rf := by
  obtain ⟨h1, h2, h3, h4, h5, ⟨a1, a2, a3, a4, a5, a6, a7, a8, a9⟩, h7, h8, h9, h10⟩ := h
  refine ⟨h1, h2, h3, h4, h5, ⟨a1, a2, fun j hj => ?_, a4, a5, a6, a7, a8, a9⟩, h7, h8, h9, h10⟩
  obtain ⟨t, ⟨s1, s2, s3, s4, s5, s6, s7, s8, s9, s10, s11⟩⟩ := a3 j hj
  refine ⟨t, ⟨s1, s2, s3, s4, s5, s6, s7, s8, ?_, s10, s11⟩⟩
  rw [fi_pfi, if_neg (fun z => (a8 l hl).2.1 j hj z.2)]; exact s9
theorem cl_201 {N : Nat} {Y : Nat → Nat} {bd : Nat × Nat × Nat} {hs : List Nat} {σ : PS} {A : AS} {f : Nat → Nat} {m : Nat} {g : Nat → Nat} {rf : Nat → Nat → Nat} (h : CRx N Y bd hs σ A f m g rf) {i : Nat} (hi : i < ln A) {v : Int32} : CRx N Y bd hs (pfi σ 201 (f i) v) (set1 A 38 i v) f m g rf := by
  obtain ⟨h1, h2, h3, h4, h5, ⟨a1, a2, a3, a4, a5, a6⟩, h7, h8, h9, h10⟩ := h
  refine ⟨h1, h2, h3, h4, h5, ⟨a1, a2, fun j hj => ?_, a4, a5, a6⟩, h7, h8, h9, h10⟩
  obtain ⟨t, ⟨s1, s2, s3, s4, s5, s6, s7, s8, s9, s10, s11⟩⟩ := a3 j hj
  refine ⟨t, ⟨s1, s2, s3, s4, s5, s6, s7, s8, s9, ?_, s11⟩⟩
  rw [fi_pfi, sv_set1]
  by_cases e : j = i
  · subst e; rw [if_pos ⟨rfl, rfl⟩, if_pos ⟨rfl, rfl⟩]
  · rw [if_neg (fun z => e (a5 j i hj hi z.2)), if_neg (fun z => e z.2)]; exact s10
theorem ch_201 {N : Nat} {Y : Nat → Nat} {bd : Nat × Nat × Nat} {hs : List Nat} {σ : PS} {A : AS} {f : Nat → Nat} {m : Nat} {g : Nat → Nat} {rf : Nat → Nat → Nat} (h : CRx N Y bd hs σ A f m g rf) {l : Nat} (hl : l ∈ hs) {v : Int32} : CRx N Y bd hs (pfi σ 201 l v) A f m g rf := by
  obtain ⟨h1, h2, h3, h4, h5, ⟨a1, a2, a3, a4, a5, a6, a7, a8, a9⟩, h7, h8, h9, h10⟩ := h
  refine ⟨h1, h2, h3, h4, h5, ⟨a1, a2, fun j hj => ?_, a4, a5, a6, a7, a8, a9⟩, h7, h8, h9, h10⟩
  obtain ⟨t, ⟨s1, s2, s3, s4, s5, s6, s7, s8, s9, s10, s11⟩⟩ := a3 j hj
  refine ⟨t, ⟨s1, s2, s3, s4, s5, s6, s7, s8, s9, ?_, s11⟩⟩
  rw [fi_pfi, if_neg (fun z => (a8 l hl).2.1 j hj z.2)]; exact s10
theorem cl_202 {N : Nat} {Y : Nat → Nat} {bd : Nat × Nat × Nat} {hs : List Nat} {σ : PS} {A : AS} {f : Nat → Nat} {m : Nat} {g : Nat → Nat} {rf : Nat → Nat → Nat} (h : CRx N Y bd hs σ A f m g rf) {i : Nat} (hi : i < ln A) {v : Int32} : CRx N Y bd hs (pfi σ 202 (f i) v) (set1 A 39 i v) f m g rf := by
  obtain ⟨h1, h2, h3, h4, h5, ⟨a1, a2, a3, a4, a5, a6⟩, h7, h8, h9, h10⟩ := h
  refine ⟨h1, h2, h3, h4, h5, ⟨a1, a2, fun j hj => ?_, a4, a5, a6⟩, h7, h8, h9, h10⟩
  obtain ⟨t, ⟨s1, s2, s3, s4, s5, s6, s7, s8, s9, s10, s11⟩⟩ := a3 j hj
  refine ⟨t, ⟨s1, s2, s3, s4, s5, s6, s7, s8, s9, s10, ?_⟩⟩
  rw [fi_pfi, sv_set1]
  by_cases e : j = i
  · subst e; rw [if_pos ⟨rfl, rfl⟩, if_pos ⟨rfl, rfl⟩]
  · rw [if_neg (fun z => e (a5 j i hj hi z.2)), if_neg (fun z => e z.2)]; exact s11
theorem ch_202 {N : Nat} {Y : Nat → Nat} {bd : Nat × Nat × Nat} {hs : List Nat} {σ : PS} {A : AS} {f : Nat → Nat} {m : Nat} {g : Nat → Nat} {rf : Nat → Nat → Nat} (h : CRx N Y bd hs σ A f m g rf) {l : Nat} (hl : l ∈ hs) {v : Int32} : CRx N Y bd hs (pfi σ 202 l v) A f m g rf := by
  obtain ⟨h1, h2, h3, h4, h5, ⟨a1, a2, a3, a4, a5, a6, a7, a8, a9⟩, h7, h8, h9, h10⟩ := h
  refine ⟨h1, h2, h3, h4, h5, ⟨a1, a2, fun j hj => ?_, a4, a5, a6, a7, a8, a9⟩, h7, h8, h9, h10⟩
  obtain ⟨t, ⟨s1, s2, s3, s4, s5, s6, s7, s8, s9, s10, s11⟩⟩ := a3 j hj
  refine ⟨t, ⟨s1, s2, s3, s4, s5, s6, s7, s8, s9, s10, ?_⟩⟩
  rw [fi_pfi, if_neg (fun z => (a8 l hl).2.1 j hj z.2)]; exact s11
theorem cw_time {N : Nat} {Y : Nat → Nat} {bd : Nat × Nat × Nat} {hs : List Nat} {σ : PS} {A : AS} {f : Nat → Nat} {m : Nat} {g : Nat → Nat} {rf : Nat → Nat → Nat} (h : CRx N Y bd hs σ A f m g rf) {v : Int32} : CRx N Y bd hs (pfi σ 458 (Y 0) v) (set1 A 4 0 v) f m g rf := by
  obtain ⟨h1, h2, h3, h4, ⟨s1, s2, s3, s4⟩, h6, h7, h8, h9, h10⟩ := h
  refine ⟨h1, h2, h3, h4, ⟨s1, s2, ?_, s4⟩, h6, h7, h8, h9, h10⟩
  rw [fi_pfi, sv_set1, if_pos ⟨rfl, rfl⟩, if_pos ⟨rfl, rfl⟩]
theorem cw_lapsed {N : Nat} {Y : Nat → Nat} {bd : Nat × Nat × Nat} {hs : List Nat} {σ : PS} {A : AS} {f : Nat → Nat} {m : Nat} {g : Nat → Nat} {rf : Nat → Nat → Nat} (h : CRx N Y bd hs σ A f m g rf) {c : Nat} {v : Int32} : CRx N Y bd hs (pai σ (Y 4) c v) (set1 A 27 c v) f m g rf := by
  obtain ⟨h1, h2, h3, h4, ⟨s1, s2, s3, s4⟩, h6, h7, h8, h9, h10⟩ := h
  refine ⟨h1, h2, h3, h4, ⟨s1, s2, s3, fun j hj => ?_⟩, h6, h7, h8, h9, h10⟩
  rw [ai_pai, sv_set1]
  by_cases e : j = c
  · subst e; rw [if_pos ⟨rfl, rfl⟩, if_pos ⟨rfl, rfl⟩]
  · rw [if_neg (fun z => e z.2), if_neg (fun z => e z.2)]; exact s4 j hj
theorem cw_130 {N : Nat} {Y : Nat → Nat} {bd : Nat × Nat × Nat} {hs : List Nat} {σ : PS} {A : AS} {f : Nat → Nat} {m : Nat} {g : Nat → Nat} {rf : Nat → Nat → Nat} (h : CRx N Y bd hs σ A f m g rf) {b : Nat} (hb : b < 2) {v : Int32} : CRx N Y bd hs (pfi σ 130 (Y (300 + b)) v) (set1 A 42 b v) f m g rf := by
  obtain ⟨h1, h2, h3, h4, h5, h6, h7, h8, h9, h10⟩ := h
  refine ⟨h1, h2, h3, h4, h5, h6, h7, fun j hj => ⟨?_, (h8 j hj).2⟩, h9, h10⟩
  rw [fi_pfi, sv_set1]
  by_cases e : j = b
  · subst e; rw [if_pos ⟨rfl, rfl⟩, if_pos ⟨rfl, rfl⟩]
  · rw [if_neg (fun z => e (h1.2.2.2.2.2.2.2.2.2.1 j b hj hb z.2)), if_neg (fun z => e z.2)]; exact (h8 j hj).1
theorem cw_act0 {N : Nat} {Y : Nat → Nat} {bd : Nat × Nat × Nat} {hs : List Nat} {σ : PS} {A : AS} {f : Nat → Nat} {m : Nat} {g : Nat → Nat} {rf : Nat → Nat → Nat} (h : CRx N Y bd hs σ A f m g rf) {b : Nat} (hb : b < 2) : CRx N Y bd hs (pfr σ 129 (Y (300 + b)) 0) (set1 A 40 b (-1)) f m g rf := by
  obtain ⟨h1, h2, h3, h4, h5, h6, h7, h8, h9, h10⟩ := h
  refine ⟨h1, h2, h3, h4, h5, h6, h7, fun j hj => ⟨(h8 j hj).1, ?_⟩, h9, h10⟩
  rw [fr_pfr, sv_set1]
  by_cases e : j = b
  · subst e; rw [if_pos ⟨rfl, rfl⟩, if_pos ⟨rfl, rfl⟩]; exact Or.inl ⟨rfl, rfl⟩
  · rw [if_neg (fun z => e (h1.2.2.2.2.2.2.2.2.2.1 j b hj hb z.2)), if_neg (fun z => e z.2)]; exact (h8 j hj).2
theorem cw_act {N : Nat} {Y : Nat → Nat} {bd : Nat × Nat × Nat} {hs : List Nat} {σ : PS} {A : AS} {f : Nat → Nat} {m : Nat} {g : Nat → Nat} {rf : Nat → Nat → Nat} (h : CRx N Y bd hs σ A f m g rf) {b r : Nat} (hb : b < 2) (hr : tg σ r = 6) (h0 : fi σ 320 r ≠ -1) : CRx N Y bd hs (pfr σ 129 (Y (300 + b)) r) (set1 (set1 (set1 A 40 b (fi σ 320 r)) 26 b (fi σ 321 r)) 41 b (fi σ 322 r)) f m g rf := by
  obtain ⟨h1, h2, h3, h4, h5, h6, h7, h8, h9, h10⟩ := h
  refine ⟨h1, h2, h3, h4, h5, h6, h7, fun j hj => ⟨(h8 j hj).1, ?_⟩, h9, h10⟩
  rw [fr_pfr]
  have q1 : sv (set1 (set1 (set1 A 40 b (fi σ 320 r)) 26 b (fi σ 321 r)) 41 b (fi σ 322 r)) 40 j = if j = b then fi σ 320 r else sv A 40 j := by simp [sv_set1]
  have q2 : sv (set1 (set1 (set1 A 40 b (fi σ 320 r)) 26 b (fi σ 321 r)) 41 b (fi σ 322 r)) 26 j = if j = b then fi σ 321 r else sv A 26 j := by simp [sv_set1]
  have q3 : sv (set1 (set1 (set1 A 40 b (fi σ 320 r)) 26 b (fi σ 321 r)) 41 b (fi σ 322 r)) 41 j = if j = b then fi σ 322 r else sv A 41 j := by simp [sv_set1]
  rw [q1, q2, q3]
  by_cases e : j = b
  · subst e; rw [if_pos ⟨rfl, rfl⟩, if_pos rfl, if_pos rfl, if_pos rfl]; exact Or.inr ⟨hr, rfl, rfl, rfl, h0⟩
  · rw [if_neg (fun z => e (h1.2.2.2.2.2.2.2.2.2.1 j b hj hb z.2)), if_neg e, if_neg e, if_neg e]; exact (h8 j hj).2
