/-! THE CLAIM OUT OF ONE WALK OF THE LAW'S BODY. Your part is whole_start (and what it stands on); all else here is the same for every law, but numbers. -/
def R_law : String := "TokenMeshLaw"
def lw_P (b : Addr) (xs : List Int32) (args : Array Value) (s : State) : Prop := args = #[.ref b] ∧ s.IntsAt b xs ∧ xs.length ≤ 2563 ∧ (Jvm.Cond.and given_1 narrow_1).before args s = true
def lw_Q (_ : Array Value) (s : State) (o : Outcome) (t : State) : Prop := o = .returned (some (.int 1)) ∧ Framed s o t [] 600000 7302250
def lw_Z (below : List Frame) (a : Array Value) (s : State) : State → Prop := fun t => ∃ o, t.status = .running ∧ Ended t below o ∧ lw_Q a s o t
/-- the law's own end, with 1 on the stack, nothing written that was there before, its room as the claim has it -/
theorem lw_ret {p : Program} {l : Launch} {e : Env} {s : State} {m : MethodId} {below : List Frame} {meth : Method} {c : Code} {b : Nat} (hx : p.tables.exec = Jvm.exec) (hb : c.code = code) (hr : meth.sig.returnType = ret) (hlocks : meth.locks = false) {pc : Nat} {H : Heap} {ls : Array Slot} (hdg : decode code pc = .ok (.ireturn, 1)) : W p l e room_1 s m #[Value.ref b] below meth c H [] 600000 7302250 (lw_Z below #[Value.ref b] s) (F0 m pc ls [.int 1]) := by
  intro T hT X
  obtain ⟨fs, hret, hrun, hended, hW, hframe⟩ := X.leave (v := some (.int 1)) (hlocks := hlocks) (fun h => by rw [hr] at h; cases h)
  have hmeth' : T.vm.method? m = some meth := X.method'
  refine ⟨T.setFrames fs, ?_, .returned (some (.int 1)), hrun, hended, rfl, ⟨_, rfl⟩, hW, hframe⟩
  jvm_step X.here [X.here.top, hx, hb, hdg, hmeth', hr, ret, narrow_b1]
  (try refine ⟨rfl, ?_⟩); (try refine ⟨rfl, ?_⟩)
  first | (intro acts; rw [hret _ acts rfl rfl rfl]) | rw [hret _ _ rfl rfl rfl]
  exact Steps.refl _
/-- what holds at the law's entry: the machine, the code, the tables' words (any of lw_tbl by 'hts w (by decide +kernel)'), the script of L ints xs at the cell b, what the Statement gives of the start (any of its parts by flat_of_before) -/
def lw_At (p : Program) (s : State) (m : MethodId) (meth : Method) (c : Code) (b L : Nat) (xs : Nat → Int32) : Prop :=
  p.tables.exec = Jvm.exec ∧ c.code = code ∧ meth.sig.returnType = ret ∧ c.maxLocals = 4 ∧ s.vm.findClass R_law = some m.cls ∧ (∀ w ∈ lw_tbl, w.before #[Value.ref b] s = true) ∧ va_X b L xs s s.heap ∧ b < s.heap.size ∧ meth.locks = false ∧ (Jvm.Cond.and given_1 narrow_1).before #[Value.ref b] s = true ∧ meth.name = "law"
/-- each class that can be made -/
theorem cls_inst {ci : Nat} {q : vw_C} (hc : cls[ci]? = some q) : ∃ n, Cond.instantiable q.1 n ∈ GT := by
  match ci, hc with
  | 0, hc => cases hc; exact ⟨_, n_AL⟩
  | 1, hc => cases hc; exact ⟨_, n_Core⟩
  | 2, hc => cases hc; exact ⟨_, n_Desk⟩
  | 3, hc => cases hc; exact ⟨_, n_Letter⟩
  | 4, hc => cases hc; exact ⟨_, n_Mail⟩
  | 5, hc => cases hc; exact ⟨_, n_Req⟩
  | 6, hc => cases hc; exact ⟨_, n_Share⟩
  | 7, hc => cases hc; exact ⟨_, n_TM⟩
  | 8, hc => cases hc; exact ⟨_, n_MM⟩
  | n + 9, hc => simp [cls] at hc
theorem cls_lt {ci : Nat} {q : vw_C} (hc : cls[ci]? = some q) : ci < 9 := (cls_le hc).2
/-- array classes, out of the tables' words -/
theorem ar_prim {args : Array Value} {s : State} {ty : FieldType} (hty : ∀ C, ty ≠ .object C) (h : (Cond.arrayClass ty).before args s = true) : ∃ cA, ArrOfT s cA ty ∧ va_RA s cA ty := by
  obtain ⟨cA, kA, comp, h1, h2, h3⟩ := Cond.arrayClass_spec h
  refine ⟨cA, fun n z => ⟨fun k h => (by cases h), kA, h2, comp, h3⟩, ?_⟩
  cases ty with
  | object C => exact absurd rfl (hty C)
  | _ => exact h1
theorem ar_obj {args : Array Value} {s : State} {C : String} (h : (Cond.arrayOver (.object C)).before args s = true) : ∃ cA, ArrOfT s cA (.object C) ∧ va_RA s cA (.object C) := by
  obtain ⟨comp, c, k, h1, h2, h3, h4, h5⟩ := Cond.arrayOver_spec h
  exact ⟨c, fun n z => ⟨fun k h => (by cases h), k, h3, comp, h4⟩, k, comp, h3, h4, h1, h5⟩
/-- the heap at the start: the script, the empty row, nothing else of ours -/
def s0 (n t b L mi : Nat) (xs : Nat → Int32) : PS := ((n + 1, 0, fun r => if r = t + 1 then 99 else if r = b + 1 then 98 else 0), (fun _ _ => 0), (fun _ _ => 0), (fun r => if r = b + 1 then L else if r = 0 then mi + 1 else 0), (fun r j => if r = b + 1 then xs j else 0), fun _ _ => 0)
section Start
variable {n t b L mi : Nat} {xs : Nat → Int32}
theorem tg_s0 {r : Nat} : tg (s0 n t b L mi xs) r = if r = t + 1 then 99 else if r = b + 1 then 98 else 0 := rfl
theorem al_s0 {r : Nat} : al (s0 n t b L mi xs) r = if r = b + 1 then L else if r = 0 then mi + 1 else 0 := rfl
theorem ai_s0 {r j : Nat} : ai (s0 n t b L mi xs) r j = if r = b + 1 then xs j else 0 := rfl
theorem fr_s0 (ht : t < n) (hb : b < n) : FR (s0 n t b L mi xs) := by
  refine ⟨⟨Nat.succ_pos _, ?_⟩, fun r hr => ?_⟩
  · rw [tg_s0, if_neg (by omega), if_neg (by omega)]
  · have hr : n + 1 ≤ r := hr
    rw [tg_s0, if_neg (by omega), if_neg (by omega)]
theorem rep_s0 {K : KX} {H : Heap} (hz : kz K = t) (hm : km K = mi) (hkb : kb K = n) (hx : kx K = b) (hkL : kL K = L) (hkX : kX K = xs) (hn : n = H.size) (hne : t ≠ b) : RepH K (s0 n t b L mi xs) H := by
  refine ⟨by rw [← hn]; rfl, by omega, fun a ci q h1 h2 => ?_, fun a ti h1 h2 => ?_, fun r h => ?_, fun r h => ?_, ?_, ?_⟩
  · have := cls_lt h2
    rw [tg_s0] at h1
    split at h1
    · omega
    · split at h1 <;> omega
  · rw [tg_s0] at h2
    split at h2
    · omega
    · split at h2 <;> omega
  · rw [tg_s0] at h
    split at h
    · rename_i e
      refine ⟨by omega, ?_⟩
      rw [al_s0, if_neg (by omega), if_neg (by omega)]
    · split at h <;> omega
  · rw [tg_s0] at h
    split at h
    · omega
    · split at h
      · rename_i e
        refine ⟨by omega, ?_, fun j _ => ?_⟩
        · rw [al_s0, if_pos e, hkL]
        · rw [ai_s0, if_pos e, hkX]
      · omega
  · rw [tg_s0, if_neg (by omega), if_neg (by omega)]
  · rw [al_s0, if_neg (by omega), if_pos rfl, hm]
end Start
/-- what stands fast at the law's entry -/
theorem sf_0 {s : State} {b L : Nat} {xs : Nat → Int32} (hts : ∀ w ∈ lw_tbl, w.before #[Value.ref b] s = true) (hX : va_X b L xs s s.heap) (hbl : b < s.heap.size) (hgv : (Jvm.Cond.and given_1 narrow_1).before #[Value.ref b] s = true) : ∃ K : KX, SF K s ∧ (kb K = s.heap.size ∧ kx K = b ∧ kL K = L ∧ kX K = xs) ∧ kz K < s.heap.size ∧ kz K ≠ b := by
  have hgt : ∀ w ∈ GT, w.before #[Value.ref b] s = true := fun w h => hts w (List.mem_filter.mp h).1
  have hnt : ∀ w ∈ NT, w.before #[Value.ref b] s = true := fun w h => hts w (List.mem_filter.mp h).1
  have k1 : ∀ ci : Nat, ∃ D : ClassId × (Nat → Nat), ∀ q, cls[ci]? = some q → u_Kn s q.1 q.2.1 q.2.2 D.1 D.2 := by
    intro ci
    cases hc : cls[ci]? with
    | none =>
      obtain ⟨cA, -⟩ := ar_prim (ty := .int) (fun C h => by cases h) (hgt _ a_int)
      exact ⟨(cA, fun _ => 0), fun q h => by cases h⟩
    | some q =>
      obtain ⟨n, hn⟩ := cls_inst hc
      obtain ⟨cC, iS, h⟩ := u_known (C := q.1) (T := q.2.1) (N := q.2.2) (n := n) hgt (cls_in hc) (hgt _ hn)
      exact ⟨(cC, iS), fun q' h' => by cases h'; exact h⟩
  obtain ⟨D, hD⟩ := Classical.axiomOfChoice k1
  have k2 : ∀ ti : Nat, ∃ cA : ClassId, ti < 6 → ArrOfT s cA (aty ti) ∧ va_RA s cA (aty ti) := by
    intro ti
    by_cases h : ti < 6
    · rcases (by omega : ti = 0 ∨ ti = 1 ∨ ti = 2 ∨ ti = 3 ∨ ti = 4 ∨ ti = 5) with rfl | rfl | rfl | rfl | rfl | rfl
      · obtain ⟨cA, q⟩ := ar_prim (ty := .int) (fun C h => by cases h) (hgt _ a_int); exact ⟨cA, fun _ => q⟩
      · obtain ⟨cA, q⟩ := ar_prim (ty := .boolean) (fun C h => by cases h) (hgt _ a_boolean); exact ⟨cA, fun _ => q⟩
      · obtain ⟨cA, q⟩ := ar_obj (hnt _ a_Obj); exact ⟨cA, fun _ => q⟩
      · obtain ⟨cA, q⟩ := ar_obj (hnt _ a_Share); exact ⟨cA, fun _ => q⟩
      · obtain ⟨cA, q⟩ := ar_obj (hnt _ a_Core); exact ⟨cA, fun _ => q⟩
      · obtain ⟨cA, q⟩ := ar_obj (hnt _ a_Desk); exact ⟨cA, fun _ => q⟩
    · obtain ⟨cA, -⟩ := ar_prim (ty := .int) (fun C h => by cases h) (hgt _ a_int)
      exact ⟨cA, fun q => absurd q h⟩
  obtain ⟨cA, hcA⟩ := Classical.axiomOfChoice k2
  have hs := flat_of_before _ hgv
  have harr : (Cond.arrayOf (.static "java/util/ArrayList" "DEFAULTCAPACITY_EMPTY_ELEMENTDATA" "[Ljava/lang/Object;") (.object "java/lang/Object")).before #[Value.ref b] s = true := hs _ (by decide +kernel)
  have hlen : (Cond.eq (.length (.static "java/util/ArrayList" "DEFAULTCAPACITY_EMPTY_ELEMENTDATA" "[Ljava/lang/Object;")) (.int 0)).before #[Value.ref b] s = true := hs _ (by decide +kernel)
  have hmi : (Cond.isRef (.mirror "[Ljava/lang/Object;")).before #[Value.ref b] s = true := hs _ (by decide +kernel)
  obtain ⟨mi, hM⟩ := va_Mi.of hmi
  obtain ⟨t, ht, hT⟩ := va_Tof (N := 0) (f := fun _ => .null) (A := fun q => s.heap.size ≤ q) (by omega) harr (Cond.eq_int hlen rfl) (fun j hj => by omega) (fun a ha => by omega)
  have hZ := va_Zof (A := fun q => s.heap.size ≤ q) (hts (.laysStatic "java/util/ArrayList" "DEFAULTCAPACITY_EMPTY_ELEMENTDATA" "[Ljava/lang/Object;") (by decide +kernel)) (hgt _ w_47) ht (fun a ha => by omega)
  have htl : t < s.heap.size := by
    obtain ⟨cell, h1, -⟩ := hT
    exact (Array.getElem?_eq_some_iff.mp h1).1
  have hne : t ≠ b := by
    rintro rfl
    obtain ⟨cell, h1, ⟨-, kA, h3, comp, h4⟩, -⟩ := hT
    obtain ⟨scr, g1, ⟨-, kA', g3, comp', g4⟩, -⟩ := hX
    cases h1.symm.trans g1
    cases h3.symm.trans g3
    rw [h4] at g4
    cases g4
  refine ⟨(fun c => (D c).1, fun c => (D c).2, cA, t, mi, s.heap.size, b, L, xs), ⟨⟨fun c q hq => hD c q hq, fun k q hk => ?_⟩, fun w hw => ?_, hZ, hT, hM, hX, hbl⟩, ⟨rfl, rfl, rfl, rfl⟩, htl, hne⟩
  · have hk6 : k < 6 := (List.getElem?_eq_some_iff.mp hk).1
    rw [tys_at hk6] at hk
    cases hk
    exact hcA k hk6
  · have h := hnt w hw
    have hi := nt_kinds hw
    unfold isN at hi
    split at hi
    · exact va_Nw.of rfl h
    · exact va_Nw.of rfl h
    · exact va_Nw.of rfl h
    · exact h
    · cases hi
set_option maxHeartbeats 4000000 in
/-- THE LAW, from its entry -/
theorem whole_start {p : Program} {e : Env} {s : State} {m : MethodId} {below : List Frame} {meth : Method} {c : Code} (l : Launch) {b L : Nat} {xs : Nat → Int32} (hL : L ≤ 2563) (C0 : lw_At p s m meth c b L xs) : W p l e room_1 s m #[Value.ref b] below meth c s.heap [] 0 0 (lw_Z below #[Value.ref b] s) (entryFrame m ([Value.ref b] : List Value).toArray 4) := by
  obtain ⟨hx, hb, hr, hml, hown, hts, hX, hbl, hlocks, hgv, hnm⟩ := C0
  obtain ⟨K, hSF, ⟨hkb, hkx, hkL, hkX⟩, htl, hne⟩ := sf_0 hts hX hbl hgv
  have hF : FR (s0 s.heap.size (kz K) b L (km K) xs) := fr_s0 htl hbl
  have hz : tg (s0 s.heap.size (kz K) b L (km K) xs) (kz K + 1) = 99 ∧ al (s0 s.heap.size (kz K) b L (km K) xs) (kz K + 1) = 0 := ⟨by rw [tg_s0, if_pos rfl], by rw [al_s0, if_neg (by omega), if_neg (by omega)]⟩
  have hS : SCR (b + 1) L xs (s0 s.heap.size (kz K) b L (km K) xs) := ⟨by rw [tg_s0, if_neg (by omega), if_pos rfl], by rw [al_s0, if_pos rfl], fun j _ => by rw [ai_s0, if_pos rfl]⟩
  have hRep : RepH K (s0 s.heap.size (kz K) b L (km K) xs) s.heap := rep_s0 rfl rfl hkb hkx hkL hkX rfl hne
  obtain ⟨v, σ', ⟨-, hv, hn, hs⟩, h1, h2, hW⟩ := wp_law (P := fun v σ => v = some (.inl 1) ∧ nx σ ≤ nx (s0 s.heap.size (kz K) b L (km K) xs) + 2000 ∧ sl σ ≤ sl (s0 s.heap.size (kz K) b L (km K) xs) + 20000) hL hF hz hS (fun σ q1 q2 => ⟨rfl, q1, q2⟩)
  have hl := lv_entry ([Value.ref b]) (n := 4) (Nat.le_of_ble_eq_true rfl)
  rw [lg_entry_eq]
  refine hW p l e room_1 s m _ below meth c K s.heap [] 0 0 _ _ ⟨hx, hb, hml, hown, fun w h => hts w (List.mem_filter.mp h).1, hSF, Nat.le_of_ble_eq_true rfl, Nat.le_of_ble_eq_true rfl, hnm⟩ hRep (fun _ _ => rfl) (fun q h => by cases h) (by show 0 + _ ≤ 600000; omega) (by show 0 + _ ≤ 7302250; omega) ⟨hl.1, hl.2.1, fun q hq => ?_⟩ ?_
  · obtain ⟨r, hr, rfl⟩ := List.mem_map.mp hq
    exact hl.2.2 _ (largs_mem [.inr (b + 1)] 0 r (dd_mem _ r hr))
  · intro H' locs' pc' ls' hR' hB' hL' hret
    subst hv
    rcases hret with ⟨hd, x, hx'⟩ | ⟨hd, r, hr'⟩ | ⟨hd, hn'⟩
    · refine va_forget (fun q hq => by have := hL' q hq; omega) ?_
      refine W.widen (k := 600000) (n := 7302250) (by omega) (by omega) ?_
      exact lw_ret hx hb hr hlocks hd
    · cases hr'
    · cases hn'
set_option maxHeartbeats 4000000 in
theorem lw_walk (l : Launch) (b : Addr) (xs : List Int32) : MetFree l x (headSpec (Jvm.Cond.code x code maxLocals ret :: tables_1) room_1) (lw_P b xs) (fun _ _ _ _ _ => True) lw_Q := by
  refine MetFree.of_bodyS (code := code) (maxLocals := maxLocals) (ret := ret) (by decide) ?_ ?_
  · intro args s m h hn
    obtain ⟨meth, c, h1, h2, h3, h4, h5, h6, -, -⟩ := Cond.code_spec hn (atoms_spec (ws := Jvm.Cond.code x code maxLocals ret :: tables_1) h _ List.mem_cons_self)
    exact ⟨meth, c, h1, h2, h3, h4, h5, h6⟩
  · intro p e s m args below meth c s₁ B hml0 hP _
    obtain ⟨rfl, hx, hbd, hgv⟩ := hP
    obtain ⟨scr, harrAt, hlist, hof, hsmall⟩ := hx
    obtain ⟨hcb, hkn, -, -⟩ := State.arrayAt?_spec harrAt
    have hown : s.vm.findClass R_law = some m.cls := findClass_of_methodNamed B.named
    have hts0 : ∀ c ∈ (Jvm.Cond.code x code maxLocals ret :: tables_1), c.before #[Value.ref b] s = true := atoms_spec (ws := Jvm.Cond.code x code maxLocals ret :: tables_1) B.pre
    have hts : ∀ w ∈ lw_tbl, w.before #[Value.ref b] s = true := k2_hts_sels lw_privs (fun w hw => hts0 w (List.mem_cons_of_mem _ hw)) lw_privs_ok
    have hml : c.maxLocals = 4 := B.maxLocals_eq (hts0 _ List.mem_cons_self)
    have X₀ : Stand p l e room_1 s m #[Value.ref b] below meth c s₁ [] 0 0 := Stand.of_body B
    have hh0 : s₁.heap = s.heap := by rw [B.state]; rfl
    have hsz : scr.slots.size = xs.length := by rw [← Array.length_toList, hlist, List.length_map]
    have hval : ∀ j : Nat, j < xs.length → scr.slots[j]? = some (.int (xs.getD j 0)) := fun j hj => by
      rw [← Array.getElem?_toList, hlist]
      simp [hj]
    have hbl : b < s.heap.size := (Array.getElem?_eq_some_iff.mp hcb).1
    have hX : va_X b xs.length (fun j => xs.getD j 0) s s.heap := ⟨scr, hcb, hof, hkn, hsz, hval⟩
    have K : W p l e room_1 s m #[Value.ref b] below meth c s₁.heap [] 0 0 (lw_Z below #[Value.ref b] s) (entryFrame m ([Value.ref b] : List Value).toArray 4) := by
      rw [hh0]
      exact whole_start l hbd ⟨B.exec, B.bytes, B.returns, hml, hown, hts, hX, hbl, B.notSynchronized, hgv, (name_of_methodNamed B.named B.method).1⟩
    obtain ⟨t, a1, o, b1, b2, b3⟩ := K s₁ rfl X₀
    exact ⟨t, o, a1, b1, b2, b3⟩
theorem lw_pre_spec {args : Array Value} {s : State} (h : (Jvm.Cond.and given_1 narrow_1).before args s = true) (hr : rest_1_c.before args s = true) : ∃ (b : Addr) (xs : List Int32), lw_P b xs args s := by
  have hs := flat_of_before _ h
  have hq := flat_of_before _ hr
  have hc : (Cond.count 1).before args s = true := hs _ (by decide +kernel)
  have harr : (Cond.arrayOf (.arg 0) .int).before args s = true := hs _ (by decide +kernel)
  have hle : (Cond.le (.length (.arg 0)) (.int 2563)).before args s = true := hs _ (by decide +kernel)
  have hlen : (Cond.isInt (.length (.arg 0))).before args s = true := hq _ (by decide +kernel)
  have hall : (Cond.all (.arg 0) (.isInt (.elem (.arg 0) (.index 0)))).before args s = true := hq _ (by decide +kernel)
  obtain ⟨b, xs, hb, hx⟩ := State.ints_of_pre rfl harr hlen hall
  have hsm : xs.length < 2 ^ 31 := hx.choose_spec.2.2.2
  have hev : (Term.length (.arg 0)).eval args s none [] s = some (.int xs.length.toInt32) := hx.length_eval hb
  have hv := Cond.le_ints hev (show (Term.int 2563).eval args s none [] s = some (.int 2563) from rfl)
  have hd : xs.length.toInt32 ≤ 2563 := by
    simpa [Cond.before, Cond.holds, hv] using hle
  have hN : xs.length ≤ 2563 := (Int32.ofNat_le_ofNat hsm (by decide)).mp (show Int32.ofNat xs.length ≤ Int32.ofNat 2563 from hd)
  exact ⟨b, xs, Cond.one_arg hc (show args[0]? = some (.ref b) from hb), hx, hN, h⟩
theorem lw_comes (l : Launch) : Comes l x (Jvm.Cond.code x code maxLocals ret :: tables_1) room_1 (fun tb e args s => Calls_1 tb e args s ∧ rest_1 tb e args s ∧ Pre_1 tb e args s)
    (fun _ _ args s o t => lw_Q args s o t) := by
  intro p e ha hc hk s m args below hf hfit hheap happ hpre
  obtain ⟨b, xs, hP⟩ := lw_pre_spec hpre.2.2 hpre.2.1
  obtain ⟨k, o, h1, h2, h3, hQ⟩ := lw_walk l b xs p e ha hc hk s m args below hf ((Spec.applies_iff_loose hf).mp happ).1 hP trivial
  exact ⟨k, o, h1, h2, h3, hQ⟩
theorem lw_frame {s t : State} {o : Outcome} {args : Array Value} (h : Framed s o t [] 600000 7302250) :
    Framed s o t (fieldLocs frame_1_writes args s ++ arrayLocs frame_1_arrays args s ++ staticLocs frame_1_statics s) 600000 7302250 := h
theorem lw_limb (L : Cond) (hL : ∀ (args : Array Value) (s t : State), L.after args s (.returned (some (.int 1))) t = true) :
    ArmFor flags0 classFile x code maxLocals ret World_1 tables_1 room_1 Calls_1 rest_1 Pre_1
      (fun tb e a s o t => postC L tb e a s o t ∧ Framed s o t (fieldLocs frame_1_writes a s ++ arrayLocs frame_1_arrays a s ++ staticLocs frame_1_statics s) 600000 7302250) := by
  intro l _ _ _ p e ha hc hk s m args below hf hfit hheap happ hpre
  obtain ⟨k, o, h1, h2, h3, rfl, hF⟩ := lw_comes l p e ha hc hk s m args below hf hfit hheap happ hpre
  exact ⟨k, _, h1, h2, h3, hL args s _, lw_frame hF⟩
theorem i_vc : Claimed_1_1 ∧ Claimed_1_2 := ⟨lw_limb limb_1_1 (fun args s t => by simp [limb_1_1, Cond.after, Cond.holds, Cond.value]), lw_limb limb_1_2 (fun args s t => Cond.after_iff.mpr (by
  first | (rw [show limb_1_2 = Cond.eq .result (.int 1) from rfl, Cond.eq_ints (x := 1) (y := 1) rfl rfl]; simp; done) | (simp [limb_1_2, Cond.value, Term.eval]; done)))⟩
