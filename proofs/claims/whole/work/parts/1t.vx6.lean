/-! ROWS for the law's own callers of the class, and for the law -/
section ZL1
variable {l : Launch} {y : MethodName} {Ws : List Cond} {rm : Room} {D : va_G} {tys : List (ClassId × FieldType)} {ws : va_W} {av : List Value} {mc ms : Nat} {cc : ByteArray} {maxL : Nat}
theorem zx_entryH_i {post : Int32 → va_W → Prop} {hh : List (Nat × Nat × Nat × Nat)} (hy : plainName y.cls = true) (hw : Ws = Cond.codeWith y cc maxL (some .int) hh :: kw_all) (ho : y.cls = zk_RL) (hlen : (lg_sl av).length ≤ maxL)
    (body : ∀ (p : Program) (e : Env) (s : State) (m : MethodId) (args : Array Value) (below : List Frame) (meth : Method) (c : Code) (Q : State → Prop), p.tables.exec = Jvm.exec → c.code = cc → c.maxLocals = maxL → s.vm.findClass zk_RL = some m.cls → (∀ w ∈ kw_all, w.before args s = true) → meth.name = y.name → c.exceptionTable.toList = tableOf hh →
      va_P D zk_cl ws s.heap → va_K D zk_cl tys s → ∀ A : Nat → Prop, va_D A ws → (∀ q : Nat, s.heap.size ≤ q → A q) → va_S A s.heap s.heap [] → zj_J A s s.heap →
      (∀ (r : Int32) (w : va_W) (H : Heap) (locs : List Loc) (pc : Nat) (ls : Array Slot), decode cc pc = .ok (.ireturn, 1) → va_P D zk_cl w H → va_D A w → va_S A s.heap H locs → post r w → W p l e rm s m args below meth c H locs mc ms Q (F0 m pc ls [.int r])) →
      ∀ ls : Array Slot, lv_has ls maxL (lv_args 0 av) → W p l e rm s m args below meth c s.heap [] 0 0 Q (F0 m 0 ls [])) : zx_Mi l y Ws rm D tys ws av post (fun _ _ => False) mc ms := by
  intro sz
  refine zx_entryH hy hw ho hlen ?_
  intro p e s m args below meth c hx hb hml hown hts hr hlocks hin htab hP hK A hAe hD hA hS hJ ls hl
  subst hAe
  refine body p e s m args below meth c _ hx hb hml hown hts hin htab hP hK _ hD hA hS hJ (fun r w H locs pc ls hdg hP hD hS hpost => ?_) ls hl
  exact vx_ret (W.iret (v := r) hx hb hr (fun t ht hW => ⟨⟨r, w, rfl, hpost, by rw [ht]; exact hP, va_K.moved hW.alike hK, hD⟩, hS.F ht⟩) hS.2.2 hdg hlocks)
end ZL1
theorem zz_gwW {y : MethodName} {bytes : ByteArray} {maxL : Nat} {ret : Option FieldType} {hh : List (Nat × Nat × Nat × Nat)} (hcode : Cond.codeWith y bytes maxL ret hh ∈ kw_all) : GoodIn kw_all (Cond.codeWith y bytes maxL ret hh :: kw_all) := fun w h => (List.mem_cons.mp h).elim (fun e => e ▸ kw_good _ hcode) (kw_good w)
theorem zx_cw {R : Room} {s : State} {args : Array Value} {own : String} {index maxL mc ms : Nat} {y : MethodName} {bytes : ByteArray} {ret : Option FieldType} {hh : List (Nat × Nat × Nat × Nat)} {rm : Room} {n : Nat} (hts : ∀ w ∈ kw_all, w.before args s = true) (hcode : Cond.codeWith y bytes maxL ret hh ∈ kw_all) (hini : Cond.initialized y.cls ∈ kw_all) (hl : Cond.methodLink own index y ∈ kw_all) (hst : Cond.static y ∈ kw_all) (hd : zz_nm y n) (hrc : rm.cells = mc) (hrs : rm.slots = ms) (hR : rm.frames + 1 ≤ R.frames ∧ 8 + (maxL + 11) + rm.locals ≤ R.locals) :
    vx_CSW R s args own index y bytes maxL ret hh (Cond.codeWith y bytes maxL ret hh :: kw_all) rm mc ms n := by
  refine ⟨⟨hrc, hrs, hR.1, hR.2, pay_in hts (zz_gwW hcode), List.mem_cons_self⟩, hts _ hcode, hts _ hini, ⟨hd.1, hd.2.1⟩, fun sig h => ?_, hts _ hl, hts _ hst⟩
  have h2 := hd.2.2
  rw [h] at h2
  exact (Option.some.inj h2).symm
section ZL2
variable {p : Program} {l : Launch} {e : Env} {R : Room} {s : State} {m : MethodId} {args : Array Value} {below : List Frame} {meth : Method} {c : Code} {H : Heap} {locs : List Loc} {cells slots : Nat} {Q : State → Prop}
variable {cc : ByteArray} {pc nL : Nat} {ls : Array Slot} {D : va_G} {tys : List (ClassId × FieldType)} {wc wr : va_W} {A0 : Nat → Prop} {mc ms : Nat} {st0 rest : List Value} {px : String → va_W → Prop}
variable {y : MethodName} {bytes : ByteArray} {maxL n index : Nat} {ret : Option FieldType} {Ws Ts : List Cond} {rm : Room} {own : String} {As : List Value}
/-- a static call of a method that catches all that is thrown -/
theorem zl_iS {post : Int32 → va_W → Prop} {hh : List (Nat × Nat × Nat × Nat)} (S : CallFix p m c cc nL s args Ts own) (hM : zx_Mi l y Ws rm D tys wc As post (fun _ _ => False) mc ms) (cw : vx_CSW R s args own index y bytes maxL ret hh Ws rm mc ms n) (hP : va_P D zk_cl (wr ++ wc) H) (hD : va_D A0 (wr ++ wc)) (hK : va_K D zk_cl tys s) (hS : va_S A0 s.heap H locs) (hA : ∀ q, s.heap.size ≤ q → A0 q) (hJ : zj_J A0 s s.heap)
    (hn : As.length = n) (hsize : ls.size = nL) (hst : st0 = As.reverse ++ rest) (hW : (rest.map fun v => v.category).sum ≤ 8) (hdg : decode cc pc = .ok (.invokestatic index, 3)) (hf : cells + mc ≤ R.cells ∧ slots + ms ≤ R.slots)
    (kk : ∀ (r : Int32) (w1 : va_W) (H1 : Heap) (locs1 : List Loc), post r w1 → va_P D zk_cl (wr ++ w1) H1 → va_D A0 (wr ++ w1) → va_S A0 s.heap H1 locs1 → W p l e R s m args below meth c H1 locs1 (cells + mc) (slots + ms) Q (F0 m (pc + 3) ls (.int r :: rest))) : W p l e R s m args below meth c H locs cells slots Q (F0 m pc ls st0) :=
  zx_calli (vx_runSX S (hM H.size) cw ⟨zx_blind, zx_pre hP hD hK hS hA hJ⟩ rfl hn hsize hst (lv_room hW) hdg hf) hP hD hS hA (fun _ _ _ _ _ _ h => h.elim) kk
theorem zx_catch {hh hh1 hh2 : List (Nat × Nat × Nat × Nat)} {x : Nat × Nat × Nat × Nat} {name E : String} {ce : Cell} {q : Addr} (hown : s.vm.findClass own = some m.cls) (htab : c.exceptionTable.toList = tableOf hh) (hsp : hh = hh1 ++ x :: hh2)
    (hpass : ∀ z ∈ hh1, z.2.2.2 ≠ 0 ∧ ∃ nm : String, (Cond.classLink own z.2.2.2 nm).before args s = true ∧ va_Nc E nm s) (hcov : x.1 ≤ pc ∧ pc < x.2.1) (h0 : x.2.2.2 ≠ 0) (hlink : (Cond.classLink own x.2.2.2 name).before args s = true) (hcast : (Cond.castable E name).before args s = true) (g1 : H[q]? = some ce) (g2 : ce.vm = .none) (g3 : s.vm.findClass E = some ce.cls)
    (kk : W p l e R s m args below meth c H locs cells slots Q (F0 m x.2.2.1 ls [.ref q])) : vx_W p l e R s m args below meth c H locs cells slots Q (F0 m pc ls rest) q := by
  refine vx_catch (name := name) hown (tableOf hh1) ⟨x.1, x.2.1, x.2.2.1, x.2.2.2⟩ (tableOf hh2) (by rw [htab, hsp]; simp [tableOf]) (fun z hz => ?_) (by simp [covers, hcov.1, hcov.2]) h0 hlink hcast g1 g2 g3 kk
  obtain ⟨u, hu, rfl⟩ := List.mem_map.mp hz
  exact Or.inr (hpass u hu)
/-- the law's script -/
theorem zl_sld (hx : p.tables.exec = Jvm.exec) (hb : c.code = cc) {b L : Nat} {xs : Nat → Int32} {A : Nat → Prop} {H0 : Heap} (hX : va_X b L xs s H0) (hbl : b < H0.size) (hbA : ¬ A b) (hS : va_S A H0 H locs) {k : Nat} (hk : k < L) (hL : L < 2 ^ 31) (hdg : decode cc pc = .ok (.iaload, 1))
    (kk : W p l e R s m args below meth c H locs cells slots Q (F0 m (pc + 1) ls (.int (xs k) :: rest))) : W p l e R s m args below meth c H locs cells slots Q (F0 m pc ls (.int (nI k) :: .ref b :: rest)) :=
  va_sld hx hb hX hbl hbA hS (vp_in_nI hk hL) hdg (by rw [nI_clamp (by omega)]; exact kk)
end ZL2
section ZT2
variable {D : va_G} {cl : List vw_C} {A : Nat → Prop} {L T w1 w2 : va_W} {H : Heap}
theorem zz_PTc (hP : va_P D cl (L ++ T) H) (is js : List Nat) (h1 : is.filterMap (fun i => L[i]?) = w1) (h2 : js.filterMap (fun i => L[i]?) = w2) : va_P D cl (w1 ++ (w2 ++ T)) H :=
  va_P.app ((zz_P.l hP).sub is h1) (va_P.app ((zz_P.l hP).sub js h2) (zz_P.r hP))
theorem zz_DTc (hD : va_D A (L ++ T)) (is js : List Nat) (hn : va_nd (is ++ js) = true) (hs : (is ++ js).map (fun i => L[i]?) = (w1 ++ w2).map some) : va_D A (w1 ++ (w2 ++ T)) := by
  rw [← List.append_assoc]
  exact zz_DT0 hD (is ++ js) hn hs
end ZT2
abbrev kh_L_make : List (Nat × Nat × Nat × Nat) := [(0, 11, 14, 13)]
abbrev kw_L_make : List Cond := Cond.codeWith ky_L_make kb_L_make 7 (some .int) kh_L_make :: kw_all
abbrev kh_L_access : List (Nat × Nat × Nat × Nat) := [(0, 10, 13, 13), (0, 10, 17, 19)]
abbrev kw_L_access : List Cond := Cond.codeWith ky_L_access kb_L_access 5 (some .int) kh_L_access :: kw_all
abbrev kh_L_flush : List (Nat × Nat × Nat × Nat) := [(0, 9, 12, 25)]
abbrev kw_L_flush : List Cond := Cond.codeWith ky_L_flush kb_L_flush 4 (some .int) kh_L_flush :: kw_all
abbrev kh_L_place : List (Nat × Nat × Nat × Nat) := [(0, 14, 17, 25), (0, 14, 21, 31), (0, 14, 25, 13)]
abbrev kw_L_place : List Cond := Cond.codeWith ky_L_place kb_L_place 7 (some .int) kh_L_place :: kw_all
abbrev kh_L_about : List (Nat × Nat × Nat × Nat) := [(0, 10, 13, 25), (0, 10, 17, 13)]
abbrev kw_L_about : List Cond := Cond.codeWith ky_L_about kb_L_about 5 (some .int) kh_L_about :: kw_all
abbrev kh_L_curve : List (Nat × Nat × Nat × Nat) := [(0, 10, 13, 13)]
abbrev kw_L_curve : List Cond := Cond.codeWith ky_L_curve kb_L_curve 5 (some .int) kh_L_curve :: kw_all
abbrev kh_L_best : List (Nat × Nat × Nat × Nat) := [(0, 10, 13, 13)]
abbrev kw_L_best : List Cond := Cond.codeWith ky_L_best kb_L_best 5 (some .int) kh_L_best :: kw_all
