/-! contracts of methods that may throw; worlds with a tail -/
def zx_Pre (D : va_G) (tys : List (ClassId × FieldType)) (ws : va_W) (sz : Nat) (av : List Value) : Array Value → State → Prop :=
  va_Pc av (fun U => U.heap.size = sz ∧ va_P D zk_cl ws U.heap ∧ va_K D zk_cl tys U ∧ va_D (fun _ => True) ws ∧ zj_J (va_A ws sz) U U.heap)
def zx_X (D : va_G) (tys : List (ClassId × FieldType)) (ws : va_W) (sz : Nat) (px : String → va_W → Prop) : String → State → State → Prop :=
  vx_X (fun _ : va_W => True) (fun E w t => px E w ∧ zz_B D tys (va_A ws sz) w t) (va_A ws sz)
def zx_Mi (l : Launch) (y : MethodName) (Ws : List Cond) (rm : Room) (D : va_G) (tys : List (ClassId × FieldType)) (ws : va_W) (av : List Value) (post : Int32 → va_W → Prop) (px : String → va_W → Prop) (mc ms : Nat) : Prop :=
  ∀ sz, vx_Met l y Ws rm (zx_Pre D tys ws sz av) (zz_Qi D tys ws sz post) (zx_X D tys ws sz px) mc ms (va_A ws sz)
def zx_Mv (l : Launch) (y : MethodName) (Ws : List Cond) (rm : Room) (D : va_G) (tys : List (ClassId × FieldType)) (ws : va_W) (av : List Value) (post : va_W → Prop) (px : String → va_W → Prop) (mc ms : Nat) : Prop :=
  ∀ sz, vx_Met l y Ws rm (zx_Pre D tys ws sz av) (zz_Qv D tys ws sz post) (zx_X D tys ws sz px) mc ms (va_A ws sz)
def zx_Mr (l : Launch) (y : MethodName) (Ws : List Cond) (rm : Room) (D : va_G) (tys : List (ClassId × FieldType)) (ws : va_W) (av : List Value) (post : Nat → va_W → Prop) (px : String → va_W → Prop) (mc ms : Nat) : Prop :=
  ∀ sz, vx_Met l y Ws rm (zx_Pre D tys ws sz av) (zz_Qr D tys ws sz post) (zx_X D tys ws sz px) mc ms (va_A ws sz)
/-- .. that don't throw, but ask the same of the state -/
def zj_Mv (l : Launch) (y : MethodName) (Ws : List Cond) (rm : Room) (D : va_G) (tys : List (ClassId × FieldType)) (ws : va_W) (av : List Value) (post : va_W → Prop) (mc ms : Nat) : Prop :=
  ∀ sz, Met l y Ws rm (zx_Pre D tys ws sz av) (zz_Qv D tys ws sz post) mc ms (va_A ws sz)
theorem zx_blind {D : va_G} {tys : List (ClassId × FieldType)} {ws : va_W} {sz : Nat} {av : List Value} : FrameBlind (zx_Pre D tys ws sz av) := by
  intro a U g mk q
  obtain ⟨q0, q1, qP, qK, qD, qJ⟩ := q
  exact ⟨q0, q1, qP, va_K.moved (u := U) (U := U.calling g mk a) (Vm.Alike.refl U.vm) qK, qD, qJ.go (U := U.calling g mk a) va_S.rf (State.WarmedH.refl U) (fun _ h => h)⟩
theorem zx_pre {D : va_G} {tys : List (ClassId × FieldType)} {wr wc : va_W} {av : List Value} {A0 : Nat → Prop} {s : State} {H : Heap} {locs : List Loc} (hP : va_P D zk_cl (wr ++ wc) H) (hD : va_D A0 (wr ++ wc)) (hK : va_K D zk_cl tys s) (hS : va_S A0 s.heap H locs) (hA : ∀ q, s.heap.size ≤ q → A0 q) (hJ : zj_J A0 s s.heap) :
    ∀ U : State, U.heap = H → s.WarmedH U.vm → zx_Pre D tys wc H.size av av.toArray U := by
  intro U hU hW
  refine ⟨rfl, by rw [hU], ?_, va_K.moved hW.alike hK, (zz_D.r hD).weaken (fun _ _ _ _ => trivial), ?_⟩
  · rw [hU]; exact zz_P.r hP
  · rw [hU]; exact hJ.go hS hW (zz_free hD hS hA)
section ZX1
variable {l : Launch} {y : MethodName} {Ws : List Cond} {rm : Room} {D : va_G} {tys : List (ClassId × FieldType)} {ws : va_W} {av : List Value} {mc ms : Nat} {cc : ByteArray} {maxL : Nat} {own : String}
theorem zj_entry_v {post : va_W → Prop} (hy : plainName y.cls = true) (hw0 : Ws = Cond.code y cc maxL none :: kw_all) (ho : y.cls = own) (hlen : (lg_sl av).length ≤ maxL)
    (body : ∀ (p : Program) (e : Env) (s : State) (m : MethodId) (args : Array Value) (below : List Frame) (meth : Method) (c : Code) (Q : State → Prop), p.tables.exec = Jvm.exec → c.code = cc → c.maxLocals = maxL → s.vm.findClass own = some m.cls → (∀ w ∈ kw_all, w.before args s = true) → meth.name = y.name →
      va_P D zk_cl ws s.heap → va_K D zk_cl tys s → ∀ A : Nat → Prop, va_D A ws → (∀ q : Nat, s.heap.size ≤ q → A q) → va_S A s.heap s.heap [] → zj_J A s s.heap →
      (∀ (w : va_W) (H : Heap) (locs : List Loc) (pc : Nat) (ls : Array Slot), decode cc pc = .ok (.return_, 1) → va_P D zk_cl w H → va_D A w → va_S A s.heap H locs → post w → W p l e rm s m args below meth c H locs mc ms Q (F0 m pc ls [])) →
      ∀ ls : Array Slot, lv_has ls maxL (lv_args 0 av) → W p l e rm s m args below meth c s.heap [] 0 0 Q (F0 m 0 ls [])) : zj_Mv l y Ws rm D tys ws av post mc ms := by
  intro sz
  subst ho
  refine Met.ofW (cc := cc) (maxL := maxL) (ret := none) hy hw0 ?_
  intro p e s m args below meth c s₁ B hml hv
  obtain ⟨rfl, hsz, hP, hK, hD0, hJ⟩ := hv
  have hl := lv_entry av (n := maxL) hlen
  rw [lg_entry_eq]
  refine body p e s m _ below meth c _ B.exec B.bytes hml (findClass_of_methodNamed B.named) (fun w hw => atoms_spec (ws := Ws) B.pre w (by rw [hw0]; exact List.mem_cons_of_mem _ hw)) (name_of_methodNamed B.named B.method).1 hP hK _ hD0.self (fun q h => Or.inr (by omega)) va_S.rf hJ (fun w H locs pc ls hdg hP hD hS hpost => ?_) _ hl
  exact W.vret B.exec B.bytes B.returns (fun t ht hW => ⟨⟨w, rfl, hpost, by rw [ht]; exact hP, va_K.moved hW.alike hK, hD⟩, hS.F ht⟩) hS.2.2 hdg B.notSynchronized
/-- at a method's entry -/
theorem zx_entry {Qc : Array Value → State → Outcome → State → Prop} {XC : String → State → State → Prop} {sz : Nat} {ret : Option FieldType} (hy : plainName y.cls = true) (hw0 : Ws = Cond.code y cc maxL ret :: kw_all) (ho : y.cls = own) (hlen : (lg_sl av).length ≤ maxL)
    (body : ∀ (p : Program) (e : Env) (s : State) (m : MethodId) (args : Array Value) (below : List Frame) (meth : Method) (c : Code), p.tables.exec = Jvm.exec → c.code = cc → c.maxLocals = maxL → s.vm.findClass own = some m.cls → (∀ w ∈ kw_all, w.before args s = true) → meth.sig.returnType = ret → meth.locks = false → meth.name = y.name → (∀ x ∈ c.exceptionTable.toList, False) →
      va_P D zk_cl ws s.heap → va_K D zk_cl tys s → ∀ A : Nat → Prop, A = va_A ws sz → va_D A ws → (∀ q : Nat, s.heap.size ≤ q → A q) → va_S A s.heap s.heap [] → zj_J A s s.heap → ∀ ls : Array Slot, lv_has ls maxL (lv_args 0 av) →
      W p l e rm s m args below meth c s.heap [] 0 0 (vx_MQ below Qc XC args s mc ms A) (F0 m 0 ls [])) : vx_Met l y Ws rm (zx_Pre D tys ws sz av) Qc XC mc ms (va_A ws sz) := by
  subst ho
  refine vx_ofW (cc := cc) (maxL := maxL) (ret := ret) hy hw0 ?_
  intro p e s m args below meth c s₁ B hml htab hv
  obtain ⟨rfl, hsz, hP, hK, hD0, hJ⟩ := hv
  have hl := lv_entry av (n := maxL) hlen
  rw [lg_entry_eq]
  exact body p e s m _ below meth c B.exec B.bytes hml (findClass_of_methodNamed B.named) (fun w hw => atoms_spec (ws := Ws) B.pre w (by rw [hw0]; exact List.mem_cons_of_mem _ hw)) B.returns B.notSynchronized (name_of_methodNamed B.named B.method).1 htab hP hK _ rfl hD0.self (fun q h => Or.inr (by omega)) va_S.rf hJ _ hl
/-- .. with handlers -/
theorem zx_entryH {Qc : Array Value → State → Outcome → State → Prop} {XC : String → State → State → Prop} {sz : Nat} {ret : Option FieldType} {hh : List (Nat × Nat × Nat × Nat)} (hy : plainName y.cls = true) (hw0 : Ws = Cond.codeWith y cc maxL ret hh :: kw_all) (ho : y.cls = own) (hlen : (lg_sl av).length ≤ maxL)
    (body : ∀ (p : Program) (e : Env) (s : State) (m : MethodId) (args : Array Value) (below : List Frame) (meth : Method) (c : Code), p.tables.exec = Jvm.exec → c.code = cc → c.maxLocals = maxL → s.vm.findClass own = some m.cls → (∀ w ∈ kw_all, w.before args s = true) → meth.sig.returnType = ret → meth.locks = false → meth.name = y.name → c.exceptionTable.toList = tableOf hh →
      va_P D zk_cl ws s.heap → va_K D zk_cl tys s → ∀ A : Nat → Prop, A = va_A ws sz → va_D A ws → (∀ q : Nat, s.heap.size ≤ q → A q) → va_S A s.heap s.heap [] → zj_J A s s.heap → ∀ ls : Array Slot, lv_has ls maxL (lv_args 0 av) →
      W p l e rm s m args below meth c s.heap [] 0 0 (vx_MQ below Qc XC args s mc ms A) (F0 m 0 ls [])) : vx_Met l y Ws rm (zx_Pre D tys ws sz av) Qc XC mc ms (va_A ws sz) := by
  subst ho
  refine vx_ofWH (cc := cc) (maxL := maxL) (ret := ret) hy hw0 ?_
  intro p e s m args below meth c s₁ B hml hv
  obtain ⟨rfl, hsz, hP, hK, hD0, hJ⟩ := hv
  have hl := lv_entry av (n := maxL) hlen
  have htab := vx_table (x := y) B (atoms_spec (ws := Ws) B.pre _ (by rw [hw0]; exact List.mem_cons_self))
  rw [lg_entry_eq]
  exact body p e s m _ below meth c B.exec B.bytes hml (findClass_of_methodNamed B.named) (fun w hw => atoms_spec (ws := Ws) B.pre w (by rw [hw0]; exact List.mem_cons_of_mem _ hw)) B.returns B.notSynchronized (name_of_methodNamed B.named B.method).1 htab hP hK _ rfl hD0.self (fun q h => Or.inr (by omega)) va_S.rf hJ _ hl
end ZX1
/-- a throw at pc -/
def zx_T (p : Program) (l : Launch) (e : Env) (rm : Room) (s : State) (m : MethodId) (args : Array Value) (below : List Frame) (meth : Method) (c : Code) (D : va_G) (A : Nat → Prop) (px : String → va_W → Prop) (mc ms : Nat) (Q : State → Prop) (cc : ByteArray) (maxL : Nat) : Prop :=
  ∀ (cls text : String) (ik is ic : Nat) (w : va_W) (H : Heap) (locs : List Loc) (pc : Nat) (ls : Array Slot) (rest : List Value) (cells slots : Nat), zx_W cls ik ic args s → (∃ a, vk_R zk_RY is text a s) →
    decode cc pc = .ok (.new ik, 3) → decode cc (pc + 3) = .ok (.dup, 1) → decode cc (pc + 4) = .ok (.ldc is, 2) → decode cc (pc + 6) = .ok (.invokespecial ic, 3) → decode cc (pc + 9) = .ok (.athrow, 1) →
    va_P D zk_cl w H → va_D A w → va_S A s.heap H locs → ls.size = maxL → px cls w → 5 < rm.frames → (rest.map fun v => v.category).sum + 82 ≤ rm.locals → cells + 1 ≤ rm.cells → slots + 6 ≤ rm.slots → cells + 1 ≤ mc → slots + 6 ≤ ms →
    W p l e rm s m args below meth c H locs cells slots Q (F0 m pc ls rest)
/-- what a callee has thrown goes on -/
def zx_O (p : Program) (l : Launch) (e : Env) (rm : Room) (s : State) (m : MethodId) (args : Array Value) (below : List Frame) (meth : Method) (c : Code) (D : va_G) (A : Nat → Prop) (px : String → va_W → Prop) (mc ms : Nat) (Q : State → Prop) : Prop :=
  ∀ (E : String) (ce : Cell) (q : Addr) (w : va_W) (H : Heap) (locs : List Loc) (pc : Nat) (ls : Array Slot) (rest : List Value) (cells slots : Nat), va_P D zk_cl w H → va_D A w → va_S A s.heap H locs → H[q]? = some ce → ce.vm = .none → s.vm.findClass E = some ce.cls → px E w → cells ≤ mc → slots ≤ ms →
    vx_W p l e rm s m args below meth c H locs cells slots Q (F0 m pc ls rest) q
section ZX2
variable {p : Program} {l : Launch} {e : Env} {rm : Room} {s : State} {m : MethodId} {args : Array Value} {below : List Frame} {meth : Method} {c : Code} {D : va_G} {tys : List (ClassId × FieldType)} {ws : va_W} {sz mc ms : Nat} {Qc : Array Value → State → Outcome → State → Prop} {px : String → va_W → Prop} {cc : ByteArray} {maxL : Nat}
theorem zx_T_of (hx : p.tables.exec = Jvm.exec) (hb : c.code = cc) (hml : c.maxLocals = maxL) (hst : l.stackTraces = false) (hown : s.vm.findClass zk_RY = some m.cls) (hlk : meth.locks = false) (htab : ∀ x ∈ c.exceptionTable.toList, False) (hK : va_K D zk_cl tys s) (hJ : zj_J (va_A ws sz) s s.heap) :
    zx_T p l e rm s m args below meth c D (va_A ws sz) px mc ms (vx_MQ below Qc (zx_X D tys ws sz px) args s mc ms (va_A ws sz)) cc maxL := by
  intro cls text ik is ic w H locs pc ls rest cells slots hW hstr d0 d3 d4 d6 d9 hP hD hS hsz hpx hfr hlo hcl hsl hmc hms
  obtain ⟨ix, rx, ⟨x0, x1, x2, x5⟩, hf, hk, hini, hat, hgood⟩ := hW
  obtain ⟨sa, hsa⟩ := hstr
  refine zx_throw hx hb hst x0 x1 x2 x5 hown hf (by decide +kernel) hk hini hsa hat hgood hJ.2.1 hJ.2.2 hS (by rw [hml]; exact hsz) d0 d3 d4 d6 d9 (fun x hx => (htab x hx).elim) hfr hlo hcl hsl hlk (fun t hal h1 h2 => ?_) hS.2.2 hmc hms
  refine ⟨w, trivial, ⟨hpx, fun k q hk => (hP k q hk).kept (h2 q.1 (hP k q hk).lt), va_K.moved hal hK, hD⟩, Nat.le_trans hS.1 h1, fun q hq hn => ?_⟩
  rw [h2 q (Nat.lt_of_lt_of_le hq hS.1)]
  exact hS.2.1 q hq hn
theorem zx_O_of (hlk : meth.locks = false) (htab : ∀ x ∈ c.exceptionTable.toList, False) (hK : va_K D zk_cl tys s) :
    zx_O p l e rm s m args below meth c D (va_A ws sz) px mc ms (vx_MQ below Qc (zx_X D tys ws sz px) args s mc ms (va_A ws sz)) := by
  intro E ce q w H locs pc ls rest cells slots hP hD hS hce hcv hcl hpx hmc hms
  exact vx_out (fun x hx => (htab x hx).elim) hlk hce hcv hcl (fun t ht hal => ⟨w, trivial, ⟨hpx, by rw [ht]; exact hP, va_K.moved hal hK, hD⟩, hS.F ht⟩) hS.2.2 hmc hms
end ZX2
section ZX3
variable {l : Launch} {y : MethodName} {Ws : List Cond} {rm : Room} {D : va_G} {tys : List (ClassId × FieldType)} {ws : va_W} {av : List Value} {mc ms : Nat} {cc : ByteArray} {maxL : Nat} {px : String → va_W → Prop}
theorem zx_entry_i {post : Int32 → va_W → Prop} (hst : l.stackTraces = false) (hy : plainName y.cls = true) (hw : Ws = Cond.code y cc maxL (some .int) :: kw_all) (ho : y.cls = zk_RY) (hlen : (lg_sl av).length ≤ maxL)
    (body : ∀ (p : Program) (e : Env) (s : State) (m : MethodId) (args : Array Value) (below : List Frame) (meth : Method) (c : Code) (Q : State → Prop), p.tables.exec = Jvm.exec → c.code = cc → c.maxLocals = maxL → s.vm.findClass zk_RY = some m.cls → (∀ w ∈ kw_all, w.before args s = true) → meth.name = y.name →
      va_P D zk_cl ws s.heap → va_K D zk_cl tys s → ∀ A : Nat → Prop, va_D A ws → (∀ q : Nat, s.heap.size ≤ q → A q) → va_S A s.heap s.heap [] → zj_J A s s.heap → zx_T p l e rm s m args below meth c D A px mc ms Q cc maxL → zx_O p l e rm s m args below meth c D A px mc ms Q →
      (∀ (r : Int32) (w : va_W) (H : Heap) (locs : List Loc) (pc : Nat) (ls : Array Slot), decode cc pc = .ok (.ireturn, 1) → va_P D zk_cl w H → va_D A w → va_S A s.heap H locs → post r w → W p l e rm s m args below meth c H locs mc ms Q (F0 m pc ls [.int r])) →
      ∀ ls : Array Slot, lv_has ls maxL (lv_args 0 av) → W p l e rm s m args below meth c s.heap [] 0 0 Q (F0 m 0 ls [])) : zx_Mi l y Ws rm D tys ws av post px mc ms := by
  intro sz
  refine zx_entry hy hw ho hlen ?_
  intro p e s m args below meth c hx hb hml hown hts hr hlocks hin htab hP hK A hAe hD hA hS hJ ls hl
  subst hAe
  refine body p e s m args below meth c _ hx hb hml hown hts hin hP hK _ hD hA hS hJ (zx_T_of hx hb hml hst hown hlocks htab hK hJ) (zx_O_of hlocks htab hK) (fun r w H locs pc ls hdg hP hD hS hpost => ?_) ls hl
  exact vx_ret (W.iret (v := r) hx hb hr (fun t ht hW => ⟨⟨r, w, rfl, hpost, by rw [ht]; exact hP, va_K.moved hW.alike hK, hD⟩, hS.F ht⟩) hS.2.2 hdg hlocks)
theorem zx_entry_v {post : va_W → Prop} (hst : l.stackTraces = false) (hy : plainName y.cls = true) (hw : Ws = Cond.code y cc maxL none :: kw_all) (ho : y.cls = zk_RY) (hlen : (lg_sl av).length ≤ maxL)
    (body : ∀ (p : Program) (e : Env) (s : State) (m : MethodId) (args : Array Value) (below : List Frame) (meth : Method) (c : Code) (Q : State → Prop), p.tables.exec = Jvm.exec → c.code = cc → c.maxLocals = maxL → s.vm.findClass zk_RY = some m.cls → (∀ w ∈ kw_all, w.before args s = true) → meth.name = y.name →
      va_P D zk_cl ws s.heap → va_K D zk_cl tys s → ∀ A : Nat → Prop, va_D A ws → (∀ q : Nat, s.heap.size ≤ q → A q) → va_S A s.heap s.heap [] → zj_J A s s.heap → zx_T p l e rm s m args below meth c D A px mc ms Q cc maxL → zx_O p l e rm s m args below meth c D A px mc ms Q →
      (∀ (w : va_W) (H : Heap) (locs : List Loc) (pc : Nat) (ls : Array Slot), decode cc pc = .ok (.return_, 1) → va_P D zk_cl w H → va_D A w → va_S A s.heap H locs → post w → W p l e rm s m args below meth c H locs mc ms Q (F0 m pc ls [])) →
      ∀ ls : Array Slot, lv_has ls maxL (lv_args 0 av) → W p l e rm s m args below meth c s.heap [] 0 0 Q (F0 m 0 ls [])) : zx_Mv l y Ws rm D tys ws av post px mc ms := by
  intro sz
  refine zx_entry hy hw ho hlen ?_
  intro p e s m args below meth c hx hb hml hown hts hr hlocks hin htab hP hK A hAe hD hA hS hJ ls hl
  subst hAe
  refine body p e s m args below meth c _ hx hb hml hown hts hin hP hK _ hD hA hS hJ (zx_T_of hx hb hml hst hown hlocks htab hK hJ) (zx_O_of hlocks htab hK) (fun w H locs pc ls hdg hP hD hS hpost => ?_) ls hl
  exact vx_ret (W.vret hx hb hr (fun t ht hW => ⟨⟨w, rfl, hpost, by rw [ht]; exact hP, va_K.moved hW.alike hK, hD⟩, hS.F ht⟩) hS.2.2 hdg hlocks)
theorem zx_entry_r {post : Nat → va_W → Prop} {C : String} (hst : l.stackTraces = false) (hy : plainName y.cls = true) (hw : Ws = Cond.code y cc maxL (some (.object C)) :: kw_all) (ho : y.cls = zk_RY) (hlen : (lg_sl av).length ≤ maxL)
    (body : ∀ (p : Program) (e : Env) (s : State) (m : MethodId) (args : Array Value) (below : List Frame) (meth : Method) (c : Code) (Q : State → Prop), p.tables.exec = Jvm.exec → c.code = cc → c.maxLocals = maxL → s.vm.findClass zk_RY = some m.cls → (∀ w ∈ kw_all, w.before args s = true) → meth.name = y.name →
      va_P D zk_cl ws s.heap → va_K D zk_cl tys s → ∀ A : Nat → Prop, va_D A ws → (∀ q : Nat, s.heap.size ≤ q → A q) → va_S A s.heap s.heap [] → zj_J A s s.heap → zx_T p l e rm s m args below meth c D A px mc ms Q cc maxL → zx_O p l e rm s m args below meth c D A px mc ms Q →
      (∀ (r : Nat) (w : va_W) (H : Heap) (locs : List Loc) (pc : Nat) (ls : Array Slot), decode cc pc = .ok (.areturn, 1) → va_P D zk_cl w H → va_D A w → va_S A s.heap H locs → post r w → W p l e rm s m args below meth c H locs mc ms Q (F0 m pc ls [.ref r])) →
      ∀ ls : Array Slot, lv_has ls maxL (lv_args 0 av) → W p l e rm s m args below meth c s.heap [] 0 0 Q (F0 m 0 ls [])) : zx_Mr l y Ws rm D tys ws av post px mc ms := by
  intro sz
  refine zx_entry hy hw ho hlen ?_
  intro p e s m args below meth c hx hb hml hown hts hr hlocks hin htab hP hK A hAe hD hA hS hJ ls hl
  subst hAe
  refine body p e s m args below meth c _ hx hb hml hown hts hin hP hK _ hD hA hS hJ (zx_T_of hx hb hml hst hown hlocks htab hK hJ) (zx_O_of hlocks htab hK) (fun r w H locs pc ls hdg hP hD hS hpost => ?_) ls hl
  exact vx_ret (W.aret (v := .ref r) hx hb hr (Or.inl ⟨_, rfl⟩) (Or.inr ⟨_, rfl⟩) (fun t ht hW => ⟨⟨w, r, rfl, trivial, hpost, by rw [ht]; exact hP, va_K.moved hW.alike hK, hD⟩, hS.F ht⟩) hS.2.2 hdg hlocks)
end ZX3
section ZX4
variable {p : Program} {l : Launch} {e : Env} {R : Room} {s : State} {m : MethodId} {args : Array Value} {below : List Frame} {meth : Method} {c : Code} {H : Heap} {locs : List Loc} {cells slots : Nat} {Q : State → Prop}
variable {cc : ByteArray} {pc nL : Nat} {ls : Array Slot} {D : va_G} {tys : List (ClassId × FieldType)} {wc wr : va_W} {A0 : Nat → Prop} {mc ms : Nat} {st0 rest : List Value} {a : Array Value} {px : String → va_W → Prop}
/-- where a callee throws -/
def zx_K (p : Program) (l : Launch) (e : Env) (R : Room) (s : State) (m : MethodId) (args : Array Value) (below : List Frame) (meth : Method) (c : Code) (D : va_G) (A0 : Nat → Prop) (px : String → va_W → Prop) (wr : va_W) (cells slots : Nat) (Q : State → Prop) (g : JFrame) : Prop :=
  ∀ (E : String) (ce : Cell) (q9 : Addr) (w1 : va_W) (H1 : Heap) (locs1 : List Loc), px E w1 → va_P D zk_cl (wr ++ w1) H1 → va_D A0 (wr ++ w1) → va_S A0 s.heap H1 locs1 → H1[q9]? = some ce → ce.vm = .none → s.vm.findClass E = some ce.cls → vx_W p l e R s m args below meth c H1 locs1 cells slots Q g q9
theorem zx_calli {post : Int32 → va_W → Prop} (hr : vx_Run p l e R s m args below meth c H locs cells slots mc ms (F0 m pc ls st0) rest (zz_Qi D tys wc H.size post a) (zx_X D tys wc H.size px) (va_A wc H.size)) (hP : va_P D zk_cl (wr ++ wc) H) (hD : va_D A0 (wr ++ wc)) (hS : va_S A0 s.heap H locs) (hA : ∀ q, s.heap.size ≤ q → A0 q)
    (kx : zx_K p l e R s m args below meth c D A0 px wr (cells + mc) (slots + ms) Q (F0 m pc ls rest))
    (kk : ∀ (r : Int32) (w1 : va_W) (H1 : Heap) (locs1 : List Loc), post r w1 → va_P D zk_cl (wr ++ w1) H1 → va_D A0 (wr ++ w1) → va_S A0 s.heap H1 locs1 → W p l e R s m args below meth c H1 locs1 (cells + mc) (slots + ms) Q (F0 m (pc + 3) ls (.int r :: rest))) : W p l e R s m args below meth c H locs cells slots Q (F0 m pc ls st0) := by
  have hFc := zz_free hD hS hA
  refine vx_calli hr hS (fun q _ h => hFc q h) hFc (fun q _ h => hFc q h) (fun E ce q9 u t H1 locs1 ht hvm hw hB hz1 hk1 hS1 h1 h2 h3 => ?_) (fun r u t H1 locs1 ht hvm hw hB hz1 hk1 hS1 => ?_)
  · obtain ⟨hpx, hP1, hK1, hD1⟩ := hB
    rw [ht] at hP1
    obtain ⟨hP2, hD2⟩ := zz_join hP hD hk1 hFc hP1 hD1
    exact kx E ce q9 u H1 locs1 hpx hP2 hD2 hS1 h1 h2 h3
  · obtain ⟨hP1, hK1, hD1⟩ := hB
    rw [ht] at hP1
    obtain ⟨hP2, hD2⟩ := zz_join hP hD hk1 hFc hP1 hD1
    exact kk r u H1 locs1 hw hP2 hD2 hS1
theorem zx_callv {post : va_W → Prop} (hr : vx_Run p l e R s m args below meth c H locs cells slots mc ms (F0 m pc ls st0) rest (zz_Qv D tys wc H.size post a) (zx_X D tys wc H.size px) (va_A wc H.size)) (hP : va_P D zk_cl (wr ++ wc) H) (hD : va_D A0 (wr ++ wc)) (hS : va_S A0 s.heap H locs) (hA : ∀ q, s.heap.size ≤ q → A0 q)
    (kx : zx_K p l e R s m args below meth c D A0 px wr (cells + mc) (slots + ms) Q (F0 m pc ls rest))
    (kk : ∀ (w1 : va_W) (H1 : Heap) (locs1 : List Loc), post w1 → va_P D zk_cl (wr ++ w1) H1 → va_D A0 (wr ++ w1) → va_S A0 s.heap H1 locs1 → W p l e R s m args below meth c H1 locs1 (cells + mc) (slots + ms) Q (F0 m (pc + 3) ls rest)) : W p l e R s m args below meth c H locs cells slots Q (F0 m pc ls st0) := by
  have hFc := zz_free hD hS hA
  refine vx_callv hr hS (fun q _ h => hFc q h) hFc (fun q _ h => hFc q h) (fun E ce q9 u t H1 locs1 ht hvm hw hB hz1 hk1 hS1 h1 h2 h3 => ?_) (fun u t H1 locs1 ht hvm hw hB hz1 hk1 hS1 => ?_)
  · obtain ⟨hpx, hP1, hK1, hD1⟩ := hB
    rw [ht] at hP1
    obtain ⟨hP2, hD2⟩ := zz_join hP hD hk1 hFc hP1 hD1
    exact kx E ce q9 u H1 locs1 hpx hP2 hD2 hS1 h1 h2 h3
  · obtain ⟨hP1, hK1, hD1⟩ := hB
    rw [ht] at hP1
    obtain ⟨hP2, hD2⟩ := zz_join hP hD hk1 hFc hP1 hD1
    exact kk u H1 locs1 hw hP2 hD2 hS1
theorem zx_callr {post : Nat → va_W → Prop} (hr : vx_Run p l e R s m args below meth c H locs cells slots mc ms (F0 m pc ls st0) rest (zz_Qr D tys wc H.size post a) (zx_X D tys wc H.size px) (va_A wc H.size)) (hP : va_P D zk_cl (wr ++ wc) H) (hD : va_D A0 (wr ++ wc)) (hS : va_S A0 s.heap H locs) (hA : ∀ q, s.heap.size ≤ q → A0 q)
    (kx : zx_K p l e R s m args below meth c D A0 px wr (cells + mc) (slots + ms) Q (F0 m pc ls rest))
    (kk : ∀ (r : Nat) (w1 : va_W) (H1 : Heap) (locs1 : List Loc), post r w1 → va_P D zk_cl (wr ++ w1) H1 → va_D A0 (wr ++ w1) → va_S A0 s.heap H1 locs1 → W p l e R s m args below meth c H1 locs1 (cells + mc) (slots + ms) Q (F0 m (pc + 3) ls (.ref r :: rest))) : W p l e R s m args below meth c H locs cells slots Q (F0 m pc ls st0) := by
  have hFc := zz_free hD hS hA
  intro T hT X
  rcases hr T hT X with ⟨v, st₀, t, T', L, h0, X', hL, e1, e2, ⟨⟨u, ra, hv, hp, hb⟩, hF⟩, st⟩ | ⟨q, st₀, t, T', L, E, ce, h0, X', hL, e1, e2, ⟨u, hp, hb, hF⟩, hce, hcv, hcl, st⟩
  · cases hv
    obtain ⟨k1, k2, k3⟩ := vx_keep h0 e1 hS (fun q _ h => hFc q h) hFc hL hF
    obtain ⟨hpp, hP1, hK1, hD1⟩ := hb
    rw [← e1] at hP1
    obtain ⟨hP2, hD2⟩ := zz_join hP hD k2 hFc hP1 hD1
    obtain ⟨t2, a1, b1⟩ := kk ra u T'.heap (locs ++ L) hpp hP2 hD2 k3 T' rfl X'
    exact ⟨t2, st t2 a1, b1⟩
  · obtain ⟨k1, k2, k3⟩ := vx_keep h0 e1 hS (fun q _ h => hFc q h) hFc hL hF
    obtain ⟨hpx, hP1, hK1, hD1⟩ := hb
    rw [← e1] at hP1
    obtain ⟨hP2, hD2⟩ := zz_join hP hD k2 hFc hP1 hD1
    obtain ⟨t2, a1, b1⟩ := kx E ce q u T'.heap (locs ++ L) hpx hP2 hD2 k3 (by rw [e1]; exact hce) hcv hcl T' rfl X'
    exact ⟨t2, st.trans a1, b1⟩
variable {y : MethodName} {bytes : ByteArray} {maxL n index : Nat} {ret : Option FieldType} {Ws Ts : List Cond} {rm : Room} {own C : String} {b : Nat} {As : List Value}
theorem zx_iV {post : Int32 → va_W → Prop} {q0 ci : Nat} {fs : List Value} {qc : vw_C} (S : CallFix p m c cc nL s args Ts own) (hM : zx_Mi l y Ws rm D tys wc (.ref b :: As) post px mc ms) (cw : CallW R s args own C index y bytes maxL ret Ws rm mc ms n) (hP : va_P D zk_cl (wr ++ wc) H) (hD : va_D A0 (wr ++ wc)) (hK : va_K D zk_cl tys s) (hS : va_S A0 s.heap H locs) (hA : ∀ q, s.heap.size ≤ q → A0 q) (hJ : zj_J A0 s s.heap)
    (he : wc[q0]? = some (b, .inr (ci, fs))) (hc : zk_cl[ci]? = some qc) (hC : qc.1 = C) (hn : As.length = n) (hsize : ls.size = nL) (hst : st0 = As.reverse ++ .ref b :: rest) (hW : (rest.map fun v => v.category).sum ≤ 8) (hdg : decode cc pc = .ok (.invokevirtual index, 3)) (hf : cells + mc ≤ R.cells ∧ slots + ms ≤ R.slots)
    (kx : zx_K p l e R s m args below meth c D A0 px wr (cells + mc) (slots + ms) Q (F0 m pc ls rest))
    (kk : ∀ (r : Int32) (w1 : va_W) (H1 : Heap) (locs1 : List Loc), post r w1 → va_P D zk_cl (wr ++ w1) H1 → va_D A0 (wr ++ w1) → va_S A0 s.heap H1 locs1 → W p l e R s m args below meth c H1 locs1 (cells + mc) (slots + ms) Q (F0 m (pc + 3) ls (.int r :: rest))) : W p l e R s m args below meth c H locs cells slots Q (F0 m pc ls st0) := by
  subst hC
  exact zx_calli (vx_runV S (hM H.size) cw ⟨zx_blind, va_recv hK (zz_P.r hP) hc he, zx_pre hP hD hK hS hA hJ⟩ rfl hn hsize hst (lv_room hW) hdg hf) hP hD hS hA kx kk
theorem zx_vV {post : va_W → Prop} {q0 ci : Nat} {fs : List Value} {qc : vw_C} (S : CallFix p m c cc nL s args Ts own) (hM : zx_Mv l y Ws rm D tys wc (.ref b :: As) post px mc ms) (cw : CallW R s args own C index y bytes maxL ret Ws rm mc ms n) (hP : va_P D zk_cl (wr ++ wc) H) (hD : va_D A0 (wr ++ wc)) (hK : va_K D zk_cl tys s) (hS : va_S A0 s.heap H locs) (hA : ∀ q, s.heap.size ≤ q → A0 q) (hJ : zj_J A0 s s.heap)
    (he : wc[q0]? = some (b, .inr (ci, fs))) (hc : zk_cl[ci]? = some qc) (hC : qc.1 = C) (hn : As.length = n) (hsize : ls.size = nL) (hst : st0 = As.reverse ++ .ref b :: rest) (hW : (rest.map fun v => v.category).sum ≤ 8) (hdg : decode cc pc = .ok (.invokevirtual index, 3)) (hf : cells + mc ≤ R.cells ∧ slots + ms ≤ R.slots)
    (kx : zx_K p l e R s m args below meth c D A0 px wr (cells + mc) (slots + ms) Q (F0 m pc ls rest))
    (kk : ∀ (w1 : va_W) (H1 : Heap) (locs1 : List Loc), post w1 → va_P D zk_cl (wr ++ w1) H1 → va_D A0 (wr ++ w1) → va_S A0 s.heap H1 locs1 → W p l e R s m args below meth c H1 locs1 (cells + mc) (slots + ms) Q (F0 m (pc + 3) ls rest)) : W p l e R s m args below meth c H locs cells slots Q (F0 m pc ls st0) := by
  subst hC
  exact zx_callv (vx_runV S (hM H.size) cw ⟨zx_blind, va_recv hK (zz_P.r hP) hc he, zx_pre hP hD hK hS hA hJ⟩ rfl hn hsize hst (lv_room hW) hdg hf) hP hD hS hA kx kk
theorem zx_rV {post : Nat → va_W → Prop} {q0 ci : Nat} {fs : List Value} {qc : vw_C} (S : CallFix p m c cc nL s args Ts own) (hM : zx_Mr l y Ws rm D tys wc (.ref b :: As) post px mc ms) (cw : CallW R s args own C index y bytes maxL ret Ws rm mc ms n) (hP : va_P D zk_cl (wr ++ wc) H) (hD : va_D A0 (wr ++ wc)) (hK : va_K D zk_cl tys s) (hS : va_S A0 s.heap H locs) (hA : ∀ q, s.heap.size ≤ q → A0 q) (hJ : zj_J A0 s s.heap)
    (he : wc[q0]? = some (b, .inr (ci, fs))) (hc : zk_cl[ci]? = some qc) (hC : qc.1 = C) (hn : As.length = n) (hsize : ls.size = nL) (hst : st0 = As.reverse ++ .ref b :: rest) (hW : (rest.map fun v => v.category).sum ≤ 8) (hdg : decode cc pc = .ok (.invokevirtual index, 3)) (hf : cells + mc ≤ R.cells ∧ slots + ms ≤ R.slots)
    (kx : zx_K p l e R s m args below meth c D A0 px wr (cells + mc) (slots + ms) Q (F0 m pc ls rest))
    (kk : ∀ (r : Nat) (w1 : va_W) (H1 : Heap) (locs1 : List Loc), post r w1 → va_P D zk_cl (wr ++ w1) H1 → va_D A0 (wr ++ w1) → va_S A0 s.heap H1 locs1 → W p l e R s m args below meth c H1 locs1 (cells + mc) (slots + ms) Q (F0 m (pc + 3) ls (.ref r :: rest))) : W p l e R s m args below meth c H locs cells slots Q (F0 m pc ls st0) := by
  subst hC
  exact zx_callr (vx_runV S (hM H.size) cw ⟨zx_blind, va_recv hK (zz_P.r hP) hc he, zx_pre hP hD hK hS hA hJ⟩ rfl hn hsize hst (lv_room hW) hdg hf) hP hD hS hA kx kk
theorem zx_vS {post : va_W → Prop} (S : CallFix p m c cc nL s args Ts own) (hM : zx_Mv l y Ws rm D tys wc As post px mc ms) (cw : CallB R s args own index y bytes maxL ret Ws rm mc ms n ∧ (Cond.static y).before args s = true) (hP : va_P D zk_cl (wr ++ wc) H) (hD : va_D A0 (wr ++ wc)) (hK : va_K D zk_cl tys s) (hS : va_S A0 s.heap H locs) (hA : ∀ q, s.heap.size ≤ q → A0 q) (hJ : zj_J A0 s s.heap)
    (hn : As.length = n) (hsize : ls.size = nL) (hst : st0 = As.reverse ++ rest) (hW : (rest.map fun v => v.category).sum ≤ 8) (hdg : decode cc pc = .ok (.invokestatic index, 3)) (hf : cells + mc ≤ R.cells ∧ slots + ms ≤ R.slots)
    (kx : zx_K p l e R s m args below meth c D A0 px wr (cells + mc) (slots + ms) Q (F0 m pc ls rest))
    (kk : ∀ (w1 : va_W) (H1 : Heap) (locs1 : List Loc), post w1 → va_P D zk_cl (wr ++ w1) H1 → va_D A0 (wr ++ w1) → va_S A0 s.heap H1 locs1 → W p l e R s m args below meth c H1 locs1 (cells + mc) (slots + ms) Q (F0 m (pc + 3) ls rest)) : W p l e R s m args below meth c H locs cells slots Q (F0 m pc ls st0) :=
  zx_callv (vx_runS S (hM H.size) cw ⟨zx_blind, zx_pre hP hD hK hS hA hJ⟩ rfl hn hsize hst (lv_room hW) hdg hf) hP hD hS hA kx kk
/-- a constructor that asks the state's words -/
theorem zj_vI {post : va_W → Prop} (S : CallFix p m c cc nL s args Ts own) (hM : zj_Mv l y Ws rm D tys wc (.ref b :: As) post mc ms) (cw : CallB R s args own index y bytes maxL none Ws rm mc ms n ∧ y.name = "<init>" ∧ (Cond.instanceMethod y).before args s = true) (hP : va_P D zk_cl (wr ++ wc) H) (hD : va_D A0 (wr ++ wc)) (hK : va_K D zk_cl tys s) (hS : va_S A0 s.heap H locs) (hA : ∀ q, s.heap.size ≤ q → A0 q) (hJ : zj_J A0 s s.heap)
    (hn : As.length = n) (hsize : ls.size = nL) (hst : st0 = As.reverse ++ .ref b :: rest) (hW : (rest.map fun v => v.category).sum ≤ 8) (hdg : decode cc pc = .ok (.invokespecial index, 3)) (hf : cells + mc ≤ R.cells ∧ slots + ms ≤ R.slots)
    (kk : ∀ (w1 : va_W) (H1 : Heap) (locs1 : List Loc), post w1 → va_P D zk_cl (wr ++ w1) H1 → va_D A0 (wr ++ w1) → va_S A0 s.heap H1 locs1 → W p l e R s m args below meth c H1 locs1 (cells + mc) (slots + ms) Q (F0 m (pc + 3) ls rest)) : W p l e R s m args below meth c H locs cells slots Q (F0 m pc ls st0) :=
  zz_callv (va_runI S (hM H.size) cw ⟨zx_blind, zx_pre hP hD hK hS hA hJ⟩ rfl hn hsize hst (lv_room hW) hdg hf) hP hD hS hA kk
/-- a nest mate's private constructor -/
theorem zz_vIN {post : va_W → Prop} {host : String} {H0 : Heap} (S : CallFix p m c cc nL s args Ts own) (hM : zz_Mv l y Ws rm D tys wc (.ref b :: As) post mc ms) (cw : va_CN R s args own index y host bytes maxL none Ws rm mc ms n ∧ y.name = "<init>" ∧ (Cond.instanceMethod y).before args s = true) (hP : va_P D zk_cl (wr ++ wc) H) (hD : va_D A0 (wr ++ wc)) (hK : va_K D zk_cl tys s) (hS : va_S A0 H0 H locs) (hA : ∀ q, H0.size ≤ q → A0 q)
    (hn : As.length = n) (hsize : ls.size = nL) (hst : st0 = As.reverse ++ .ref b :: rest) (hW : (rest.map fun v => v.category).sum ≤ 8) (hdg : decode cc pc = .ok (.invokespecial index, 3)) (hf : cells + mc ≤ R.cells ∧ slots + ms ≤ R.slots)
    (kk : ∀ (w1 : va_W) (H1 : Heap) (locs1 : List Loc), post w1 → va_P D zk_cl (wr ++ w1) H1 → va_D A0 (wr ++ w1) → va_S A0 H0 H1 locs1 → W p l e R s m args below meth c H1 locs1 (cells + mc) (slots + ms) Q (F0 m (pc + 3) ls rest)) : W p l e R s m args below meth c H locs cells slots Q (F0 m pc ls st0) :=
  zz_callv (va_runIN S (hM H.size) cw ⟨zz_blind, zz_pre hP hD hK⟩ rfl hn hsize hst (lv_room hW) hdg hf) hP hD hS hA kk
end ZX4
/-! worlds with a tail -/
section ZT
variable {D : va_G} {cl : List vw_C} {A : Nat → Prop} {L T w1 w2 : va_W} {H : Heap}
theorem zz_PT (hP : va_P D cl (L ++ T) H) (is js : List Nat) (h1 : is.filterMap (fun i => L[i]?) = w1) (h2 : js.filterMap (fun i => L[i]?) = w2) : va_P D cl ((w1 ++ T) ++ w2) H :=
  va_P.app (va_P.app ((zz_P.l hP).sub is h1) (zz_P.r hP)) ((zz_P.l hP).sub js h2)
theorem zz_mem {ws ws' : va_W} {is : List Nat} (hs : is.map (fun i => ws[i]?) = ws'.map some) : ∀ q ∈ ws', q ∈ ws := by
  intro q hq
  have : some q ∈ is.map (fun i => ws[i]?) := by rw [hs]; exact List.mem_map_of_mem hq
  obtain ⟨i, -, hi⟩ := List.mem_map.mp this
  exact List.mem_of_getElem? hi
theorem zz_DT0 (hD : va_D A (L ++ T)) (is : List Nat) (hn : va_nd is = true) (hs : is.map (fun i => L[i]?) = w1.map some) : va_D A (w1 ++ T) := by
  refine va_D.app ((zz_D.l hD).sub is hn hs) (zz_D.r hD) (fun i j p q hp hq e => ?_)
  have hm := zz_mem hs p (List.mem_of_getElem? hp)
  rw [zz_D.pw, List.map_append] at hD
  exact (List.nodup_append.mp hD.1).2.2 _ (List.mem_map_of_mem hm) _ (List.mem_map_of_mem (List.mem_of_getElem? hq)) e
theorem zz_PT0 (hP : va_P D cl (L ++ T) H) (is : List Nat) (h1 : is.filterMap (fun i => L[i]?) = w1) : va_P D cl (w1 ++ T) H := va_P.app ((zz_P.l hP).sub is h1) (zz_P.r hP)
theorem zz_sw {a b c : va_W} : List.Perm ((a ++ b) ++ c) ((a ++ c) ++ b) := by
  rw [List.append_assoc, List.append_assoc]
  exact List.Perm.append_left a List.perm_append_comm
theorem zz_DT (hD : va_D A (L ++ T)) (is js : List Nat) (hn : va_nd (is ++ js) = true) (hs : (is ++ js).map (fun i => L[i]?) = (w1 ++ w2).map some) : va_D A ((w1 ++ T) ++ w2) :=
  zz_D.perm zz_sw (zz_DT0 hD (is ++ js) hn hs)
end ZT
