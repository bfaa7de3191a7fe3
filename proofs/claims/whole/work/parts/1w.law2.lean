/-! THE LAW: its ends (as the skeleton has them), and what its start gives -/
def R_law : String := "CacheYardLaw"
def lw_P (b : Addr) (xs : List Int32) (args : Array Value) (s : State) : Prop := args = #[.ref b] ∧ s.IntsAt b xs ∧ xs.length ≤ 3072 ∧ (Jvm.Cond.and given_1 narrow_1).before args s = true
def lw_Q (_ : Array Value) (s : State) (o : Outcome) (t : State) : Prop := o = .returned (some (.int 1)) ∧ Framed s o t [] 601024 7293034
def lw_Z (below : List Frame) (a : Array Value) (s : State) : State → Prop := fun t => ∃ o, t.status = .running ∧ Ended t below o ∧ lw_Q a s o t
/-- the law's own end, with 1 on the stack, nothing written that was there before, its room as the claim has it -/
theorem lw_ret {p : Program} {l : Launch} {e : Env} {s : State} {m : MethodId} {below : List Frame} {meth : Method} {c : Code} {b : Nat} (hx : p.tables.exec = Jvm.exec) (hb : c.code = code) (hr : meth.sig.returnType = ret) (hlocks : meth.locks = false) {pc : Nat} {H : Heap} {ls : Array Slot} (hdg : decode code pc = .ok (.ireturn, 1)) : W p l e room_1 s m #[Value.ref b] below meth c H [] 601024 7293034 (lw_Z below #[Value.ref b] s) (F0 m pc ls [.int 1]) := by
  intro T hT X
  obtain ⟨fs, hret, hrun, hended, hW, hframe⟩ := X.leave (v := some (.int 1)) (hlocks := hlocks) (fun h => by rw [hr] at h; cases h)
  have hmeth' : T.vm.method? m = some meth := X.method'
  refine ⟨T.setFrames fs, ?_, .returned (some (.int 1)), hrun, hended, rfl, ⟨_, rfl⟩, hW, hframe⟩
  jvm_step X.here [X.here.top, hx, hb, hdg, hmeth', hr, ret, narrow_b1]
  (try refine ⟨rfl, ?_⟩); (try refine ⟨rfl, ?_⟩)
  first | (intro acts; rw [hret _ acts rfl rfl rfl]) | rw [hret _ _ rfl rfl rfl]
  exact Steps.refl _
/-- what holds at the law's entry: the machine, the code, the tables' words (any of lw_tbl by 'hts w (by decide +kernel)'), the script of L ints xs at the cell b, what the Statement gives of the start (any of its parts by flat_of_before) -/
def lw_At (p : Program) (s : State) (m : MethodId) (meth : Method) (c : Code) (b L : Nat) (xs : Nat → Int32) : Prop :=
  p.tables.exec = Jvm.exec ∧ c.code = code ∧ meth.sig.returnType = ret ∧ c.maxLocals = 7 ∧ s.vm.findClass R_law = some m.cls ∧ (∀ w ∈ lw_tbl, w.before #[Value.ref b] s = true) ∧ va_X b L xs s s.heap ∧ b < s.heap.size ∧ meth.locks = false ∧ (Jvm.Cond.and given_1 narrow_1).before #[Value.ref b] s = true

theorem zl_str {own tx : String} {k : Nat} {A : Array Value} {s : State} (h1 : (Cond.stringRef own k tx).before A s = true) (h2 : (Cond.exactly (.string own k) "java/lang/String").before A s = true) : ∃ a, vk_R own k tx a s := by
  obtain ⟨a, c, cA, kA, q1, -⟩ := Cond.exactly_spec (args := A) (first := s) (o := none) (s := s) (idx := []) h2
  exact ⟨a, vk_R.of h1 q1⟩
set_option maxHeartbeats 4000000 in
set_option maxRecDepth 100000 in
theorem zl_V {s : State} {b : Nat} (hts : ∀ w ∈ lw_tbl, w.before #[Value.ref b] s = true) (hgv : (Jvm.Cond.and given_1 narrow_1).before #[Value.ref b] s = true) : zj_V s := by
  have hs := flat_of_before _ hgv
  refine ⟨fun w hw => ?_, fun x hx => ?_, fun x hx => ?_, fun z hz => ?_, fun z hz => ?_, va_AO.of (hts _ (List.mem_of_getElem? (i := 47) rfl)), fun z hz => ?_⟩
  · simp only [zj_g, List.mem_cons, List.not_mem_nil, or_false] at hw
    rcases hw with rfl | rfl | rfl
    · exact va_Nw.of rfl (hts _ (List.mem_of_getElem? (i := 116) rfl))
    · exact va_Nw.of rfl (hts _ (List.mem_of_getElem? (i := 130) rfl))
    · exact va_Nw.of rfl (hts _ (List.mem_of_getElem? (i := 135) rfl))
  · simp only [zj_d, List.mem_cons, List.not_mem_nil, or_false] at hx
    rcases hx with rfl | rfl | rfl
    · exact va_Nw.of rfl (hts _ (List.mem_of_getElem? (i := 98) rfl))
    · exact va_Nw.of rfl (hts _ (List.mem_of_getElem? (i := 100) rfl))
    · exact va_Nw.of rfl (hts _ (List.mem_of_getElem? (i := 102) rfl))
  · simp only [zj_c, List.mem_cons, List.not_mem_nil, or_false] at hx
    rcases hx with rfl | rfl | rfl | rfl
    · exact va_Nw.of rfl (hts _ (List.mem_of_getElem? (i := 96) rfl))
    · exact va_Nw.of rfl (hts _ (List.mem_of_getElem? (i := 243) rfl))
    · exact va_Nw.of rfl (hts _ (List.mem_of_getElem? (i := 315) rfl))
    · exact va_Nw.of rfl (hts _ (List.mem_of_getElem? (i := 351) rfl))
  · simp only [zj_s, List.mem_cons, List.not_mem_nil, or_false] at hz
    rcases hz with rfl | rfl | rfl | rfl | rfl | rfl | rfl | rfl | rfl | rfl | rfl | rfl | rfl
    · exact zl_str (hts _ (List.mem_of_getElem? (i := 136) rfl)) (hs _ (by decide +kernel))
    · exact zl_str (hts _ (List.mem_of_getElem? (i := 163) rfl)) (hs _ (by decide +kernel))
    · exact zl_str (hts _ (List.mem_of_getElem? (i := 164) rfl)) (hs _ (by decide +kernel))
    · exact zl_str (hts _ (List.mem_of_getElem? (i := 165) rfl)) (hs _ (by decide +kernel))
    · exact zl_str (hts _ (List.mem_of_getElem? (i := 172) rfl)) (hs _ (by decide +kernel))
    · exact zl_str (hts _ (List.mem_of_getElem? (i := 176) rfl)) (hs _ (by decide +kernel))
    · exact zl_str (hts _ (List.mem_of_getElem? (i := 240) rfl)) (hs _ (by decide +kernel))
    · exact zl_str (hts _ (List.mem_of_getElem? (i := 250) rfl)) (hs _ (by decide +kernel))
    · exact zl_str (hts _ (List.mem_of_getElem? (i := 328) rfl)) (hs _ (by decide +kernel))
    · exact zl_str (hts _ (List.mem_of_getElem? (i := 358) rfl)) (hs _ (by decide +kernel))
    · exact zl_str (hts _ (List.mem_of_getElem? (i := 367) rfl)) (hs _ (by decide +kernel))
    · exact zl_str (hts _ (List.mem_of_getElem? (i := 380) rfl)) (hs _ (by decide +kernel))
    · exact zl_str (hts _ (List.mem_of_getElem? (i := 391) rfl)) (hs _ (by decide +kernel))
  · simp only [zj_m, List.mem_cons, List.not_mem_nil, or_false] at hz
    rcases hz with rfl | rfl
    · exact va_Nw.of rfl (hts _ (List.mem_of_getElem? (i := 50) rfl))
    · exact va_Nw.of rfl (hts _ (List.mem_of_getElem? (i := 178) rfl))
  · simp only [zj_n, List.mem_cons, List.not_mem_nil, or_false] at hz
    rcases hz with rfl | rfl | rfl | rfl
    · exact va_Nc.of (hs _ (by decide +kernel))
    · exact va_Nc.of (hs _ (by decide +kernel))
    · exact va_Nc.of (hs _ (by decide +kernel))
    · exact va_Nc.of (hs _ (by decide +kernel))
set_option maxHeartbeats 4000000 in
set_option maxRecDepth 100000 in
theorem zl_J {s : State} {b : Nat} (hts : ∀ w ∈ lw_tbl, w.before #[Value.ref b] s = true) (hgv : (Jvm.Cond.and given_1 narrow_1).before #[Value.ref b] s = true) : zj_J (fun q : Nat => s.heap.size ≤ q) s s.heap := by
  have hs := flat_of_before _ hgv
  exact ⟨zl_V hts hgv, vx_Zqof (hts _ (List.mem_of_getElem? (i := 121) rfl)) (hts _ (List.mem_of_getElem? (i := 29) rfl)) (hs _ (by decide +kernel)) (fun a h => Nat.not_le.mpr h), vx_Zqof (hts _ (List.mem_of_getElem? (i := 123) rfl)) (hts _ (List.mem_of_getElem? (i := 29) rfl)) (hs _ (by decide +kernel)) (fun a h => Nat.not_le.mpr h)⟩
theorem zl_arr {s : State} {A : Array Value} {ty : FieldType} (h : (Cond.arrayClass ty).before A s = true) (ht : ty = .int ∨ ty = .boolean ∨ ty = .long) : ∃ cA, ArrOfT s cA ty ∧ va_RA s cA ty := by
  obtain ⟨cA, kA, comp, h1, h2, h3⟩ := Cond.arrayClass_spec (args := A) (first := s) (o := none) (s := s) (idx := []) h
  refine ⟨cA, fun N z => ⟨(fun k h => by cases h), kA, h2, comp, h3⟩, ?_⟩
  rcases ht with rfl | rfl | rfl
  · exact h1
  · exact h1
  · exact h1
theorem zl_arrO {s : State} {A : Array Value} {C : String} (h : (Cond.arrayOver (.object C)).before A s = true) : ∃ cA, ArrOfT s cA (.object C) ∧ va_RA s cA (.object C) := by
  obtain ⟨comp, cA, kA, h1, -, h2, h3, h4⟩ := Cond.arrayOver_spec (args := A) (first := s) (o := none) (s := s) (idx := []) h
  exact ⟨cA, fun N z => ⟨(fun k h => by cases h), kA, h2, comp, h3⟩, kA, comp, h2, h3, h1, h4⟩
set_option maxRecDepth 100000 in
theorem zl_K {s : State} {A : Array Value} (hts : ∀ w ∈ kw_all, w.before A s = true) (hAO : va_AO "CacheYard$Cache" s) : ∃ (dC : Nat → ClassId) (dI : Nat → Nat → Nat) (cI cZ cO cL : ClassId), va_K (dC, dI) zk_cl (zz_ty cI cZ cO cL) s := by
  obtain ⟨c0, i0, hk0⟩ := u_known (C := zk_RC) (T := zk_TC) (N := 12) (n := 12) hts kl_C (hts _ kj_138)
  obtain ⟨c1, i1, hk1⟩ := u_known (C := zk_RW) (T := zk_TW) (N := 5) (n := 5) hts kl_W (hts _ kj_47)
  obtain ⟨c2, i2, hk2⟩ := u_known (C := zk_RY) (T := zk_TY) (N := 2) (n := 2) hts kl_Y (hts _ kj_38)
  obtain ⟨c3, i3, hk3⟩ := u_known (C := zk_RM) (T := zk_TM) (N := 22) (n := 22) hts kl_M (hts _ kj_341)
  obtain ⟨cI, a1, b1⟩ := zl_arr (hts _ kj_61) (Or.inl rfl)
  obtain ⟨cZ, a2, b2⟩ := zl_arr (hts _ kj_170) (Or.inr (Or.inl rfl))
  obtain ⟨cL, a3, b3⟩ := zl_arr (hts _ kj_462) (Or.inr (Or.inr rfl))
  obtain ⟨cO, a4, b4⟩ := zl_arrO (A := #[]) hAO
  refine ⟨fun k => match k with | 0 => c0 | 1 => c1 | 2 => c2 | _ => c3, fun k => match k with | 0 => i0 | 1 => i1 | 2 => i2 | _ => i3, cI, cZ, cO, cL, fun k q hq => ?_, fun k q hq => ?_⟩
  · match k, hq with
    | 0, hq => cases hq; exact hk0
    | 1, hq => cases hq; exact hk1
    | 2, hq => cases hq; exact hk2
    | 3, hq => cases hq; exact hk3
    | k + 4, hq => simp [zk_cl] at hq
  · match k, hq with
    | 0, hq => cases hq; exact ⟨a1, b1⟩
    | 1, hq => cases hq; exact ⟨a2, b2⟩
    | 2, hq => cases hq; exact ⟨a4, b4⟩
    | 3, hq => cases hq; exact ⟨a3, b3⟩
    | k + 4, hq => simp [zz_ty] at hq
