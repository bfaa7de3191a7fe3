/-! THROWING, in this claim: what the state must give, and contracts of methods that may throw -/
abbrev zj_IA : String := "java/lang/IllegalArgumentException"
abbrev zj_UO : String := "java/lang/UnsupportedOperationException"
abbrev zj_NS : String := "java/util/NoSuchElementException"
abbrev zj_IO : String := "java/lang/IndexOutOfBoundsException"
abbrev zj_up : List String := ["java/lang/RuntimeException", "java/lang/Exception"]
def zj_g : List Cond := [.superclass Bundle.tN "java/lang/Object", .codeSync Bundle.tFill prog_12_method_18_code 1 (some (.object Bundle.tN)), .native Bundle.tFill0]
def zj_d : List MethodName := [Bundle.initS "java/lang/RuntimeException", Bundle.initS "java/lang/Exception", Bundle.initS Bundle.tN]
def zj_c : List String := [zj_IA, zj_UO, zj_NS, zj_IO]
def zj_s : List (Nat × String) := [(24, "caches are 0 .. 3"), (29, "the sets' bits are 0 .. 4"), (31, "places are 1 .. 8"), (33, "kinds are 0 .. 2"), (41, "a tree has 1, 2, 4 or 8 places"), (47, "bits are 0 .. 6"), (54, "addresses are 0 .. 4095"), (62, "no more than 400 accesses are kept"), (130, "this cache has not been made"), (86, "the cache has no such set or place"), (96, "of a place 0 and 1 are told"), (117, "of a cache 0 .. 5 are told"), (132, "lines are 1 .. 64")]
def zj_m : List (Nat × MethodName) := [(17, ky_W_init), (49, ky_C_init)]
def zj_n : List (String × String) := [(zj_UO, zj_IA), (zj_IO, zj_NS), (zj_IA, zj_NS), (zj_IA, zj_IO)]
def zj_V (U : State) : Prop := (∀ w ∈ zj_g, va_Nw w U) ∧ (∀ x ∈ zj_d, va_Nw (.declares x) U) ∧ (∀ x ∈ zj_c, va_Nw (.castable x x) U) ∧ (∀ z ∈ zj_s, ∃ a, vk_R zk_RY z.1 z.2 a U) ∧ (∀ z ∈ zj_m, va_Nw (.methodLinkNest zk_RY z.1 z.2 zk_RY) U) ∧ va_AO "CacheYard$Cache" U ∧ ∀ z ∈ zj_n, va_Nc z.1 z.2 U
theorem zj_gg : zj_g.all goodWord = true := by decide +kernel
theorem zj_V.warm {s U : State} (hW : s.WarmedH U.vm) (h : zj_V s) : zj_V U := by
  obtain ⟨h1, h2, h3, h4, h5, h6, h7⟩ := h
  refine ⟨fun w hw => word_at hW (good_of_word (List.all_eq_true.mp zj_gg w hw)) (h1 w hw), fun x hx => va_Nw.warmD hW (h2 x hx), fun x hx => va_Nw.warmC hW (h3 x hx), fun z hz => ?_, fun z hz => va_Nw.warmM hW (h5 z hz), va_AO.moved hW.alike h6, fun z hz => va_Nc.moved hW.alike (h7 z hz)⟩
  obtain ⟨a, ha⟩ := h4 z hz
  exact ⟨a, vk_R.warm hW ha⟩
def zj_J (A : Nat → Prop) (U : State) (H : Heap) : Prop := zj_V U ∧ vx_Zq Bundle.tN "UNASSIGNED_STACK" Bundle.steD A U H ∧ vx_Zq Bundle.tN "SUPPRESSED_SENTINEL" Bundle.listD A U H
theorem zj_J.go {A B : Nat → Prop} {s U : State} {H0 H : Heap} {locs : List Loc} (h : zj_J A s H0) (hS : va_S A H0 H locs) (hW : s.WarmedH U.vm) (hAB : ∀ q, B q → A q) : zj_J B U H :=
  ⟨h.1.warm hW, vx_Zq.narrow (vx_Zq.moved hW.alike (h.2.1.kept hS.2.1)) hAB, vx_Zq.narrow (vx_Zq.moved hW.alike (h.2.2.kept hS.2.1)) hAB⟩
/-- the words of a throw of the class cls, by the entries ik and ic of CacheYard's table -/
def zx_W (cls : String) (ik ic : Nat) (args : Array Value) (s : State) : Prop :=
  ∃ (ix : Nat) (rx : ByteArray), (decode rx 0 = .ok (.aload_n 0, 1) ∧ decode rx 1 = .ok (.aload_n 1, 1) ∧ decode rx 2 = .ok (.invokespecial ix, 3) ∧ decode rx 5 = .ok (.return_, 1)) ∧ Bundle.fit cls = true ∧
    (Cond.classLink zk_RY ik cls).before args s = true ∧ (Cond.initialized cls).before args s = true ∧ (∀ w ∈ zx_at zk_RY ic cls ix rx zj_up, w.before args s = true) ∧ ∀ w ∈ Cond.classLink zk_RY ik cls :: Cond.initialized cls :: zx_at zk_RY ic cls ix rx zj_up, vx_ot w = true
def zj_all : List Cond := zj_g ++ (zj_d.map Cond.declares ++ zj_c.map (fun x => Cond.castable x x))
theorem zj_allot : zj_all.all (fun w => w.onTables) = true := by decide +kernel
theorem zj_V.all {s : State} {args : Array Value} (h : zj_V s) : ∀ w ∈ zj_all, w.before args s = true := by
  intro w hw
  refine va_Nw.use (List.all_eq_true.mp zj_allot w hw) ?_
  rcases List.mem_append.mp hw with q | q
  · exact h.1 w q
  · rcases List.mem_append.mp q with q | q
    · obtain ⟨x, hx, rfl⟩ := List.mem_map.mp q
      exact h.2.1 x hx
    · obtain ⟨x, hx, rfl⟩ := List.mem_map.mp q
      exact h.2.2.1 x hx
theorem zx_words {cls : String} {ik ic ix : Nat} {rx : ByteArray} {args : Array Value} {s : State} (hts : ∀ w ∈ kw_all, w.before args s = true) (hV : zj_V s) (hd : decode rx 0 = .ok (.aload_n 0, 1) ∧ decode rx 1 = .ok (.aload_n 1, 1) ∧ decode rx 2 = .ok (.invokespecial ix, 3) ∧ decode rx 5 = .ok (.return_, 1)) (hf : Bundle.fit cls = true) (h1 : Cond.classLink zk_RY ik cls ∈ kw_all) (h2 : Cond.initialized cls ∈ kw_all)
    (h3 : (zx_at zk_RY ic cls ix rx zj_up).all (fun w => decide (w ∈ kw_all) || decide (w ∈ zj_all)) = true) (h4 : (Cond.classLink zk_RY ik cls :: Cond.initialized cls :: zx_at zk_RY ic cls ix rx zj_up).all vx_ot = true) : zx_W cls ik ic args s := by
  refine ⟨ix, rx, hd, hf, hts _ h1, hts _ h2, fun w hw => ?_, fun w hw => List.all_eq_true.mp h4 w hw⟩
  have := List.all_eq_true.mp h3 w hw
  simp only [Bool.or_eq_true, decide_eq_true_eq] at this
  rcases this with q | q
  · exact hts w q
  · exact hV.all w q
