def rm_cl_make : Room := { frames := 7, cells := 5, slots := 412, locals := 116 }
set_option maxHeartbeats 4000000 in
set_option maxRecDepth 100000 in
/-- make, caught -/
theorem cl_make (l : Launch) (hst : l.stackTraces = false) (dC : Nat → ClassId) (dI : Nat → Nat → Nat) (cI cZ cO cL : ClassId) (y : Nat → Nat) (q : Nat → Nat) (n : Nat) (fa : Nat → Int32) (fn : Nat → Int32) (ff : Nat → Int32) (fl : Nat → Int32) (co : Nat → Option Nat) (T : va_W) (ad : Nat → Nat) (Ks : Nat → Option zK) (x0 : Int32) (x1 : Int32) (x2 : Int32) (x3 : Int32) (x4 : Int32) (hys : zy_is cI cZ co T n fa ad Ks) : zx_Mi l ky_L_make kw_L_make rm_cl_make (dC, dI) (zz_ty cI cZ cO cL) ([(y 0, .inr (2, [.ref (y 1), .ref (q 0)])), (y 1, .inl (cO, 4, .inr (.inr (.inr (.inr co))))), (q 0, zr_ob q n), (q 1, .inl (cI, 400, .inl fa)), (q 2, .inl (cI, 400, .inl fn)), (q 3, .inl (cI, 4096, .inl ff)), (q 4, .inl (cI, 64, .inl fl))] ++ T) [.ref (y 0), .int x0, .int x1, .int x2, .int x3, .int x4] (fun (r : Int32) (w : va_W) => ∃ (T2 : va_W), ∃ (co2 : Nat → Option Nat), ∃ (Ks2 : Nat → Option zK), ∃ (t : Nat), w = ([(y 0, .inr (2, [.ref (y 1), .ref (q 0)])), (y 1, .inl (cO, 4, .inr (.inr (.inr (.inr co2))))), (q 0, zr_ob q n), (q 1, .inl (cI, 400, .inl fa)), (q 2, .inl (cI, 400, .inl fn)), (q 3, .inl (cI, 4096, .inl ff)), (q 4, .inl (cI, 64, .inl fl))] ++ T2) ∧ (r = nI t) ∧ (zq_make Ks x0 x1 x2 x3 x4 t Ks2) ∧ (zy_T cI cZ co2 Ks2 T2)) (fun _ _ => False) 5 412 := by
  refine zx_entryH_i (cc := kb_L_make) (maxL := 7) (hh := kh_L_make) (by decide) rfl rfl (Nat.le_of_ble_eq_true rfl) ?_
  intro p e s m args below meth c Q hx hb hml hown hts hin htab hP hK A hD hA hS hJ hret ls hl
  have hl : lv_has ls 7 [(0, .ref (y 0)), (1, .int x0), (2, .int x1), (3, .int x2), (4, .int x3), (5, .int x4)] := hl
  obtain ⟨H, eH⟩ : ∃ z, z = s.heap := ⟨_, rfl⟩
  obtain ⟨locs, eL⟩ : ∃ z : List Loc, z = [] := ⟨_, rfl⟩
  rw [← eH] at hP ⊢
  have hS : va_S A s.heap H locs := by rw [eH, eL]; exact hS
  rw [← eL]
  refine lv_aload_n hx hb kd_L_make_0 rfl (lv_at hl 0 rfl) ?_
  refine lv_iload_n hx hb kd_L_make_1 rfl (lv_at hl 1 rfl) ?_
  refine lv_iload_n hx hb kd_L_make_2 rfl (lv_at hl 2 rfl) ?_
  refine lv_iload_n hx hb kd_L_make_3 rfl (lv_at hl 3 rfl) ?_
  refine lv_iload hx hb kd_L_make_4 (lv_at hl 4 rfl) ?_
  refine lv_iload hx hb kd_L_make_6 (lv_at hl 5 rfl) ?_
  refine zx_vV (As := [.int x0, .int x1, .int x2, .int x3, .int x4]) (rest := []) (wc := ([(y 0, .inr (2, [.ref (y 1), .ref (q 0)])), (y 1, .inl (cO, 4, .inr (.inr (.inr (.inr co))))), (q 0, zr_ob q n), (q 1, .inl (cI, 400, .inl fa)), (q 2, .inl (cI, 400, .inl fn)), (q 3, .inl (cI, 4096, .inl ff)), (q 4, .inl (cI, 64, .inl fl))] ++ T)) (wr := []) ⟨hx, hb, hml, hown, hts⟩ (cy_make l hst dC dI cI cZ cO cL y q n fa fn ff fl co T ad Ks x0 x1 x2 x3 x4 (hys)) (zz_cwV hts kj_81 kj_25 kj_78 kj_79 kj_80 kz_Y_make rfl rfl ⟨Nat.le_of_ble_eq_true rfl, Nat.le_of_ble_eq_true rfl⟩) (zz_PTc hP [] [0, 1, 2, 3, 4, 5, 6] rfl rfl) (zz_DTc hD [] [0, 1, 2, 3, 4, 5, 6] (by decide) rfl) hK hS hA hJ (q0 := 0) rfl rfl rfl rfl hl.1 rfl (Nat.le_of_ble_eq_true rfl) kd_L_make_8 ⟨by decide, by decide⟩ (fun E9 ce9 q9 w9 H locs hpx hP hD hS g1 g2 g3 => ?_) (fun w9 H locs hw hP hD hS => ?_)
  · skip
    obtain ⟨T9, rfl, hT9, hcond⟩ := hpx
    have hP : va_P (dC, dI) zk_cl ([(y 0, .inr (2, [.ref (y 1), .ref (q 0)])), (y 1, .inl (cO, 4, .inr (.inr (.inr (.inr co))))), (q 0, zr_ob q n), (q 1, .inl (cI, 400, .inl fa)), (q 2, .inl (cI, 400, .inl fn)), (q 3, .inl (cI, 4096, .inl ff)), (q 4, .inl (cI, 64, .inl fl))] ++ T9) H := hP
    have hD : va_D A ([(y 0, .inr (2, [.ref (y 1), .ref (q 0)])), (y 1, .inl (cO, 4, .inr (.inr (.inr (.inr co))))), (q 0, zr_ob q n), (q 1, .inl (cI, 400, .inl fa)), (q 2, .inl (cI, 400, .inl fn)), (q 3, .inl (cI, 4096, .inl ff)), (q 4, .inl (cI, 64, .inl fl))] ++ T9) := hD
    obtain ⟨rfl, hbad⟩ := hcond
    refine zx_catch (hh1 := []) (x := (0, 11, 14, 13)) (hh2 := []) (name := zj_IA) hown htab rfl (fun z hz => nomatch hz) ⟨by decide, by decide⟩ (by decide) (hts _ kj_77) (va_Nw.use rfl (hJ.1.2.2.1 zj_IA (List.mem_of_getElem? (i := 0) rfl))) g1 g2 g3 ?_
    refine lv_astore (lv' := [(6, .ref q9), (0, .ref (y 0)), (1, .int x0), (2, .int x1), (3, .int x2), (4, .int x3), (5, .int x4)]) hx hb kd_L_make_14 hl (by decide) rfl (fun ls hl => ?_)
    refine lv_iconst (v := nI 1) hx hb kd_L_make_16 (by decide) ?_
    exact hret _ _ _ _ _ _ kd_L_make_17 hP hD hS (⟨T9, co, Ks, 1, rfl, rfl, (Or.inl ⟨rfl, rfl, hbad⟩), (hT9)⟩)
  obtain ⟨T9, co2, Ks2, rfl, hq9, hs9⟩ := hw
  have hP : va_P (dC, dI) zk_cl ([(y 0, .inr (2, [.ref (y 1), .ref (q 0)])), (y 1, .inl (cO, 4, .inr (.inr (.inr (.inr co2))))), (q 0, zr_ob q n), (q 1, .inl (cI, 400, .inl fa)), (q 2, .inl (cI, 400, .inl fn)), (q 3, .inl (cI, 4096, .inl ff)), (q 4, .inl (cI, 64, .inl fl))] ++ T9) H := hP
  have hD : va_D A ([(y 0, .inr (2, [.ref (y 1), .ref (q 0)])), (y 1, .inl (cO, 4, .inr (.inr (.inr (.inr co2))))), (q 0, zr_ob q n), (q 1, .inl (cI, 400, .inl fa)), (q 2, .inl (cI, 400, .inl fn)), (q 3, .inl (cI, 4096, .inl ff)), (q 4, .inl (cI, 64, .inl fl))] ++ T9) := hD
  refine lv_goto (tgt := 18) hx hb kd_L_make_11 (by decide) ?_
  refine lv_iconst (v := nI 0) hx hb kd_L_make_18 (by decide) ?_
  exact hret _ _ _ _ _ _ kd_L_make_19 hP hD hS (⟨T9, co2, Ks2, 0, rfl, rfl, (hq9), (hs9)⟩)

def rm_cl_access : Room := { frames := 7, cells := 1, slots := 6, locals := 145 }
set_option maxHeartbeats 4000000 in
set_option maxRecDepth 100000 in
/-- access, caught -/
theorem cl_access (l : Launch) (hst : l.stackTraces = false) (dC : Nat → ClassId) (dI : Nat → Nat → Nat) (cI cZ cO cL : ClassId) (y : Nat → Nat) (q : Nat → Nat) (n : Nat) (fa : Nat → Int32) (fn : Nat → Int32) (ff : Nat → Int32) (fl : Nat → Int32) (co : Nat → Option Nat) (T : va_W) (ad : Nat → Nat) (Ks : Nat → Option zK) (oa : Nat) (fo : Nat → Int64) (x : Int32) (wr : Int32) (hys : zy_is cI cZ co T n fa ad Ks) : zx_Mi l ky_L_access kw_L_access rm_cl_access (dC, dI) (zz_ty cI cZ cO cL) ([(y 0, .inr (2, [.ref (y 1), .ref (q 0)])), (y 1, .inl (cO, 4, .inr (.inr (.inr (.inr co))))), (q 0, zr_ob q n), (q 1, .inl (cI, 400, .inl fa)), (q 2, .inl (cI, 400, .inl fn)), (q 3, .inl (cI, 4096, .inl ff)), (q 4, .inl (cI, 64, .inl fl)), (oa, .inl (cL, 1, .inr (.inl fo)))] ++ T) [.ref (y 0), .int x, .int wr, .ref oa] (fun (r : Int32) (w : va_W) => ∃ (T2 : va_W), ∃ (n2 : Nat), ∃ (fa2 : Nat → Int32), ∃ (fo2 : Nat → Int64), ∃ (ad2 : Nat → Nat), ∃ (Ks2 : Nat → Option zK), ∃ (t : Nat), ∃ (v : Int32), w = ([(y 0, .inr (2, [.ref (y 1), .ref (q 0)])), (y 1, .inl (cO, 4, .inr (.inr (.inr (.inr co))))), (q 0, zr_ob q n2), (q 1, .inl (cI, 400, .inl fa2)), (q 2, .inl (cI, 400, .inl fn)), (q 3, .inl (cI, 4096, .inl ff)), (q 4, .inl (cI, 64, .inl fl)), (oa, .inl (cL, 1, .inr (.inl fo2)))] ++ T2) ∧ (r = nI t) ∧ (zq_access n ad Ks x wr v t n2 ad2 Ks2) ∧ (zy_is cI cZ co T2 n2 fa2 ad2 Ks2) ∧ (t = 0 → fo2 0 = v.toInt64)) (fun _ _ => False) 1 6 := by
  refine zx_entryH_i (cc := kb_L_access) (maxL := 5) (hh := kh_L_access) (by decide) rfl rfl (Nat.le_of_ble_eq_true rfl) ?_
  intro p e s m args below meth c Q hx hb hml hown hts hin htab hP hK A hD hA hS hJ hret ls hl
  have hl : lv_has ls 5 [(0, .ref (y 0)), (1, .int x), (2, .int wr), (3, .ref oa)] := hl
  obtain ⟨H, eH⟩ : ∃ z, z = s.heap := ⟨_, rfl⟩
  obtain ⟨locs, eL⟩ : ∃ z : List Loc, z = [] := ⟨_, rfl⟩
  rw [← eH] at hP ⊢
  have hS : va_S A s.heap H locs := by rw [eH, eL]; exact hS
  rw [← eL]
  refine lv_aload_n hx hb kd_L_access_0 rfl (lv_at hl 3 rfl) ?_
  refine lv_iconst (v := nI 0) hx hb kd_L_access_1 (by decide) ?_
  refine lv_aload_n hx hb kd_L_access_2 rfl (lv_at hl 0 rfl) ?_
  refine lv_iload_n hx hb kd_L_access_3 rfl (lv_at hl 1 rfl) ?_
  refine lv_iload_n hx hb kd_L_access_4 rfl (lv_at hl 2 rfl) ?_
  refine zx_iV (As := [.int x, .int wr]) (rest := [.int (nI 0), .ref oa]) (wc := ([(y 0, .inr (2, [.ref (y 1), .ref (q 0)])), (y 1, .inl (cO, 4, .inr (.inr (.inr (.inr co))))), (q 0, zr_ob q n), (q 1, .inl (cI, 400, .inl fa)), (q 2, .inl (cI, 400, .inl fn)), (q 3, .inl (cI, 4096, .inl ff)), (q 4, .inl (cI, 64, .inl fl))] ++ T)) (wr := [(oa, .inl (cL, 1, .inr (.inl fo)))]) ⟨hx, hb, hml, hown, hts⟩ (cy_access l hst dC dI cI cZ cO cL y q n fa fn ff fl co T ad Ks x wr (hys)) (zz_cwV hts kj_185 kj_25 kj_182 kj_183 kj_184 kz_Y_access rfl rfl ⟨Nat.le_of_ble_eq_true rfl, Nat.le_of_ble_eq_true rfl⟩) (zz_PTc hP [7] [0, 1, 2, 3, 4, 5, 6] rfl rfl) (zz_DTc hD [7] [0, 1, 2, 3, 4, 5, 6] (by decide) rfl) hK hS hA hJ (q0 := 0) rfl rfl rfl rfl hl.1 rfl (Nat.le_of_ble_eq_true rfl) kd_L_access_5 ⟨by decide, by decide⟩ (fun E9 ce9 q9 w9 H locs hpx hP hD hS g1 g2 g3 => ?_) (fun r9 w9 H locs hw hP hD hS => ?_)
  · skip
    obtain ⟨T9, rfl, hT9, hcond⟩ := hpx
    have hP : va_P (dC, dI) zk_cl ([(oa, .inl (cL, 1, .inr (.inl fo))), (y 0, .inr (2, [.ref (y 1), .ref (q 0)])), (y 1, .inl (cO, 4, .inr (.inr (.inr (.inr co))))), (q 0, zr_ob q n), (q 1, .inl (cI, 400, .inl fa)), (q 2, .inl (cI, 400, .inl fn)), (q 3, .inl (cI, 4096, .inl ff)), (q 4, .inl (cI, 64, .inl fl))] ++ T9) H := hP
    have hD : va_D A ([(oa, .inl (cL, 1, .inr (.inl fo))), (y 0, .inr (2, [.ref (y 1), .ref (q 0)])), (y 1, .inl (cO, 4, .inr (.inr (.inr (.inr co))))), (q 0, zr_ob q n), (q 1, .inl (cI, 400, .inl fa)), (q 2, .inl (cI, 400, .inl fn)), (q 3, .inl (cI, 4096, .inl ff)), (q 4, .inl (cI, 64, .inl fl))] ++ T9) := hD
    rcases hcond with ⟨rfl, hbad⟩ | ⟨rfl, hbad, hn9⟩
    · skip
      refine zx_catch (hh1 := []) (x := (0, 10, 13, 13)) (hh2 := [(0, 10, 17, 19)]) (name := zj_IA) hown htab rfl (fun z hz => nomatch hz) ⟨by decide, by decide⟩ (by decide) (hts _ kj_77) (va_Nw.use rfl (hJ.1.2.2.1 zj_IA (List.mem_of_getElem? (i := 0) rfl))) g1 g2 g3 ?_
      refine lv_astore (lv' := [(4, .ref q9), (0, .ref (y 0)), (1, .int x), (2, .int wr), (3, .ref oa)]) hx hb kd_L_access_13 hl (by decide) rfl (fun ls hl => ?_)
      refine lv_iconst (v := nI 1) hx hb kd_L_access_15 (by decide) ?_
      exact hret _ _ _ _ _ _ kd_L_access_16 (zz_PT0 hP [1, 2, 3, 4, 5, 6, 7, 0] rfl) (zz_DT0 hD [1, 2, 3, 4, 5, 6, 7, 0] (by decide) rfl) hS (⟨T9, n, fa, fo, ad, Ks, 1, 0, rfl, rfl, (Or.inl ⟨rfl, hbad, rfl, rfl, rfl⟩), (⟨hT9, hys.2⟩), (fun z => absurd z (by decide))⟩)
    · skip
      refine zx_catch (hh1 := [(0, 10, 13, 13)]) (x := (0, 10, 17, 19)) (hh2 := []) (name := zj_UO) hown htab rfl (fun z hz => by rw [List.mem_singleton.mp hz]; exact ⟨by decide, zj_IA, hts _ kj_77, hJ.1.2.2.2.2.2.2 (zj_UO, zj_IA) (List.mem_of_getElem? (i := 0) rfl)⟩) ⟨by decide, by decide⟩ (by decide) (hts _ kj_181) (va_Nw.use rfl (hJ.1.2.2.1 zj_UO (List.mem_of_getElem? (i := 1) rfl))) g1 g2 g3 ?_
      refine lv_astore (lv' := [(4, .ref q9), (0, .ref (y 0)), (1, .int x), (2, .int wr), (3, .ref oa)]) hx hb kd_L_access_17 hl (by decide) rfl (fun ls hl => ?_)
      refine lv_iconst (v := nI 2) hx hb kd_L_access_19 (by decide) ?_
      exact hret _ _ _ _ _ _ kd_L_access_20 (zz_PT0 hP [1, 2, 3, 4, 5, 6, 7, 0] rfl) (zz_DT0 hD [1, 2, 3, 4, 5, 6, 7, 0] (by decide) rfl) hS (⟨T9, n, fa, fo, ad, Ks, 2, 0, rfl, rfl, (Or.inr (Or.inl ⟨rfl, hbad, hn9, rfl, rfl, rfl⟩)), (⟨hT9, hys.2⟩), (fun z => absurd z (by decide))⟩)
  generalize r9 = v9 at hw ⊢
  obtain ⟨T9, n2, fa2, ad2, Ks2, rfl, hq9, hs9⟩ := hw
  have hP : va_P (dC, dI) zk_cl ([(oa, .inl (cL, 1, .inr (.inl fo))), (y 0, .inr (2, [.ref (y 1), .ref (q 0)])), (y 1, .inl (cO, 4, .inr (.inr (.inr (.inr co))))), (q 0, zr_ob q n2), (q 1, .inl (cI, 400, .inl fa2)), (q 2, .inl (cI, 400, .inl fn)), (q 3, .inl (cI, 4096, .inl ff)), (q 4, .inl (cI, 64, .inl fl))] ++ T9) H := hP
  have hD : va_D A ([(oa, .inl (cL, 1, .inr (.inl fo))), (y 0, .inr (2, [.ref (y 1), .ref (q 0)])), (y 1, .inl (cO, 4, .inr (.inr (.inr (.inr co))))), (q 0, zr_ob q n2), (q 1, .inl (cI, 400, .inl fa2)), (q 2, .inl (cI, 400, .inl fn)), (q 3, .inl (cI, 4096, .inl ff)), (q 4, .inl (cI, 64, .inl fl))] ++ T9) := hD
  refine lv_i2l (v := v9.toInt64) hx hb kd_L_access_8 rfl ?_
  refine zz_last hx hb hK hP hD hS 0 3 rfl rfl (k := 0) (by omega) (by decide) kd_L_access_9 (fun H locs hP hD hS => ?_)
  have hP : va_P (dC, dI) zk_cl ([(oa, .inl (cL, 1, .inr (.inl (vp_updL fo 0 v9.toInt64)))), (y 0, .inr (2, [.ref (y 1), .ref (q 0)])), (y 1, .inl (cO, 4, .inr (.inr (.inr (.inr co))))), (q 0, zr_ob q n2), (q 1, .inl (cI, 400, .inl fa2)), (q 2, .inl (cI, 400, .inl fn)), (q 3, .inl (cI, 4096, .inl ff)), (q 4, .inl (cI, 64, .inl fl))] ++ T9) H := hP
  have hD : va_D A ([(oa, .inl (cL, 1, .inr (.inl (vp_updL fo 0 v9.toInt64)))), (y 0, .inr (2, [.ref (y 1), .ref (q 0)])), (y 1, .inl (cO, 4, .inr (.inr (.inr (.inr co))))), (q 0, zr_ob q n2), (q 1, .inl (cI, 400, .inl fa2)), (q 2, .inl (cI, 400, .inl fn)), (q 3, .inl (cI, 4096, .inl ff)), (q 4, .inl (cI, 64, .inl fl))] ++ T9) := hD
  refine lv_goto (tgt := 21) hx hb kd_L_access_10 (by decide) ?_
  refine lv_iconst (v := nI 0) hx hb kd_L_access_21 (by decide) ?_
  exact hret _ _ _ _ _ _ kd_L_access_22 (zz_PT0 hP [1, 2, 3, 4, 5, 6, 7, 0] rfl) (zz_DT0 hD [1, 2, 3, 4, 5, 6, 7, 0] (by decide) rfl) hS (⟨T9, n2, fa2, vp_updL fo 0 v9.toInt64, ad2, Ks2, 0, v9, rfl, rfl, (hq9), (hs9), (fun _ => zl_up)⟩)

def rm_cl_flush : Room := { frames := 8, cells := 1, slots := 6, locals := 133 }
set_option maxHeartbeats 4000000 in
set_option maxRecDepth 100000 in
/-- flush, caught -/
theorem cl_flush (l : Launch) (hst : l.stackTraces = false) (dC : Nat → ClassId) (dI : Nat → Nat → Nat) (cI cZ cO cL : ClassId) (y : Nat → Nat) (q : Nat → Nat) (n : Nat) (fa : Nat → Int32) (fn : Nat → Int32) (ff : Nat → Int32) (fl : Nat → Int32) (co : Nat → Option Nat) (T : va_W) (ad : Nat → Nat) (Ks : Nat → Option zK) (oa : Nat) (fo : Nat → Int64) (x : Int32) (hys : zy_is cI cZ co T n fa ad Ks) : zx_Mi l ky_L_flush kw_L_flush rm_cl_flush (dC, dI) (zz_ty cI cZ cO cL) ([(y 0, .inr (2, [.ref (y 1), .ref (q 0)])), (y 1, .inl (cO, 4, .inr (.inr (.inr (.inr co))))), (q 0, zr_ob q n), (q 1, .inl (cI, 400, .inl fa)), (q 2, .inl (cI, 400, .inl fn)), (q 3, .inl (cI, 4096, .inl ff)), (q 4, .inl (cI, 64, .inl fl)), (oa, .inl (cL, 1, .inr (.inl fo)))] ++ T) [.ref (y 0), .int x, .ref oa] (fun (r : Int32) (w : va_W) => ∃ (T2 : va_W), ∃ (fo2 : Nat → Int64), ∃ (Ks2 : Nat → Option zK), ∃ (t : Nat), ∃ (v : Int32), w = ([(y 0, .inr (2, [.ref (y 1), .ref (q 0)])), (y 1, .inl (cO, 4, .inr (.inr (.inr (.inr co))))), (q 0, zr_ob q n), (q 1, .inl (cI, 400, .inl fa)), (q 2, .inl (cI, 400, .inl fn)), (q 3, .inl (cI, 4096, .inl ff)), (q 4, .inl (cI, 64, .inl fl)), (oa, .inl (cL, 1, .inr (.inl fo2)))] ++ T2) ∧ (r = nI t) ∧ (zq_flush Ks x v t Ks2) ∧ (zy_T cI cZ co Ks2 T2) ∧ (t = 0 → fo2 0 = v.toInt64)) (fun _ _ => False) 1 6 := by
  refine zx_entryH_i (cc := kb_L_flush) (maxL := 4) (hh := kh_L_flush) (by decide) rfl rfl (Nat.le_of_ble_eq_true rfl) ?_
  intro p e s m args below meth c Q hx hb hml hown hts hin htab hP hK A hD hA hS hJ hret ls hl
  have hl : lv_has ls 4 [(0, .ref (y 0)), (1, .int x), (2, .ref oa)] := hl
  obtain ⟨H, eH⟩ : ∃ z, z = s.heap := ⟨_, rfl⟩
  obtain ⟨locs, eL⟩ : ∃ z : List Loc, z = [] := ⟨_, rfl⟩
  rw [← eH] at hP ⊢
  have hS : va_S A s.heap H locs := by rw [eH, eL]; exact hS
  rw [← eL]
  refine lv_aload_n hx hb kd_L_flush_0 rfl (lv_at hl 2 rfl) ?_
  refine lv_iconst (v := nI 0) hx hb kd_L_flush_1 (by decide) ?_
  refine lv_aload_n hx hb kd_L_flush_2 rfl (lv_at hl 0 rfl) ?_
  refine lv_iload_n hx hb kd_L_flush_3 rfl (lv_at hl 1 rfl) ?_
  refine zx_iV (As := [.int x]) (rest := [.int (nI 0), .ref oa]) (wc := ([(y 0, .inr (2, [.ref (y 1), .ref (q 0)])), (y 1, .inl (cO, 4, .inr (.inr (.inr (.inr co))))), (q 0, zr_ob q n), (q 1, .inl (cI, 400, .inl fa)), (q 2, .inl (cI, 400, .inl fn)), (q 3, .inl (cI, 4096, .inl ff)), (q 4, .inl (cI, 64, .inl fl))] ++ T)) (wr := [(oa, .inl (cL, 1, .inr (.inl fo)))]) ⟨hx, hb, hml, hown, hts⟩ (cy_flush l hst dC dI cI cZ cO cL y q n fa fn ff fl co T ad Ks x (hys)) (zz_cwV hts kj_243 kj_25 kj_240 kj_241 kj_242 kz_Y_flush rfl rfl ⟨Nat.le_of_ble_eq_true rfl, Nat.le_of_ble_eq_true rfl⟩) (zz_PTc hP [7] [0, 1, 2, 3, 4, 5, 6] rfl rfl) (zz_DTc hD [7] [0, 1, 2, 3, 4, 5, 6] (by decide) rfl) hK hS hA hJ (q0 := 0) rfl rfl rfl rfl hl.1 rfl (Nat.le_of_ble_eq_true rfl) kd_L_flush_4 ⟨by decide, by decide⟩ (fun E9 ce9 q9 w9 H locs hpx hP hD hS g1 g2 g3 => ?_) (fun r9 w9 H locs hw hP hD hS => ?_)
  · skip
    obtain ⟨T9, rfl, hT9, hcond⟩ := hpx
    have hP : va_P (dC, dI) zk_cl ([(oa, .inl (cL, 1, .inr (.inl fo))), (y 0, .inr (2, [.ref (y 1), .ref (q 0)])), (y 1, .inl (cO, 4, .inr (.inr (.inr (.inr co))))), (q 0, zr_ob q n), (q 1, .inl (cI, 400, .inl fa)), (q 2, .inl (cI, 400, .inl fn)), (q 3, .inl (cI, 4096, .inl ff)), (q 4, .inl (cI, 64, .inl fl))] ++ T9) H := hP
    have hD : va_D A ([(oa, .inl (cL, 1, .inr (.inl fo))), (y 0, .inr (2, [.ref (y 1), .ref (q 0)])), (y 1, .inl (cO, 4, .inr (.inr (.inr (.inr co))))), (q 0, zr_ob q n), (q 1, .inl (cI, 400, .inl fa)), (q 2, .inl (cI, 400, .inl fn)), (q 3, .inl (cI, 4096, .inl ff)), (q 4, .inl (cI, 64, .inl fl))] ++ T9) := hD
    obtain ⟨rfl, hbad⟩ := hcond
    refine zx_catch (hh1 := []) (x := (0, 9, 12, 25)) (hh2 := []) (name := zj_NS) hown htab rfl (fun z hz => nomatch hz) ⟨by decide, by decide⟩ (by decide) (hts _ kj_239) (va_Nw.use rfl (hJ.1.2.2.1 zj_NS (List.mem_of_getElem? (i := 2) rfl))) g1 g2 g3 ?_
    refine lv_astore_n (lv' := [(3, .ref q9), (0, .ref (y 0)), (1, .int x), (2, .ref oa)]) hx hb kd_L_flush_12 rfl hl (by decide) rfl (fun ls hl => ?_)
    refine lv_iconst (v := nI 1) hx hb kd_L_flush_13 (by decide) ?_
    exact hret _ _ _ _ _ _ kd_L_flush_14 (zz_PT0 hP [1, 2, 3, 4, 5, 6, 7, 0] rfl) (zz_DT0 hD [1, 2, 3, 4, 5, 6, 7, 0] (by decide) rfl) hS (⟨T9, fo, Ks, 1, 0, rfl, rfl, (Or.inl ⟨rfl, rfl, hbad⟩), (hT9), (fun z => absurd z (by decide))⟩)
  generalize r9 = v9 at hw ⊢
  obtain ⟨T9, Ks2, rfl, hq9, hs9⟩ := hw
  have hP : va_P (dC, dI) zk_cl ([(oa, .inl (cL, 1, .inr (.inl fo))), (y 0, .inr (2, [.ref (y 1), .ref (q 0)])), (y 1, .inl (cO, 4, .inr (.inr (.inr (.inr co))))), (q 0, zr_ob q n), (q 1, .inl (cI, 400, .inl fa)), (q 2, .inl (cI, 400, .inl fn)), (q 3, .inl (cI, 4096, .inl ff)), (q 4, .inl (cI, 64, .inl fl))] ++ T9) H := hP
  have hD : va_D A ([(oa, .inl (cL, 1, .inr (.inl fo))), (y 0, .inr (2, [.ref (y 1), .ref (q 0)])), (y 1, .inl (cO, 4, .inr (.inr (.inr (.inr co))))), (q 0, zr_ob q n), (q 1, .inl (cI, 400, .inl fa)), (q 2, .inl (cI, 400, .inl fn)), (q 3, .inl (cI, 4096, .inl ff)), (q 4, .inl (cI, 64, .inl fl))] ++ T9) := hD
  refine lv_i2l (v := v9.toInt64) hx hb kd_L_flush_7 rfl ?_
  refine zz_last hx hb hK hP hD hS 0 3 rfl rfl (k := 0) (by omega) (by decide) kd_L_flush_8 (fun H locs hP hD hS => ?_)
  have hP : va_P (dC, dI) zk_cl ([(oa, .inl (cL, 1, .inr (.inl (vp_updL fo 0 v9.toInt64)))), (y 0, .inr (2, [.ref (y 1), .ref (q 0)])), (y 1, .inl (cO, 4, .inr (.inr (.inr (.inr co))))), (q 0, zr_ob q n), (q 1, .inl (cI, 400, .inl fa)), (q 2, .inl (cI, 400, .inl fn)), (q 3, .inl (cI, 4096, .inl ff)), (q 4, .inl (cI, 64, .inl fl))] ++ T9) H := hP
  have hD : va_D A ([(oa, .inl (cL, 1, .inr (.inl (vp_updL fo 0 v9.toInt64)))), (y 0, .inr (2, [.ref (y 1), .ref (q 0)])), (y 1, .inl (cO, 4, .inr (.inr (.inr (.inr co))))), (q 0, zr_ob q n), (q 1, .inl (cI, 400, .inl fa)), (q 2, .inl (cI, 400, .inl fn)), (q 3, .inl (cI, 4096, .inl ff)), (q 4, .inl (cI, 64, .inl fl))] ++ T9) := hD
  refine lv_goto (tgt := 15) hx hb kd_L_flush_9 (by decide) ?_
  refine lv_iconst (v := nI 0) hx hb kd_L_flush_15 (by decide) ?_
  exact hret _ _ _ _ _ _ kd_L_flush_16 (zz_PT0 hP [1, 2, 3, 4, 5, 6, 7, 0] rfl) (zz_DT0 hD [1, 2, 3, 4, 5, 6, 7, 0] (by decide) rfl) hS (⟨T9, vp_updL fo 0 v9.toInt64, Ks2, 0, v9, rfl, rfl, (hq9), (hs9), (fun _ => zl_up)⟩)

def rm_cl_place : Room := { frames := 8, cells := 2, slots := 12, locals := 137 }
set_option maxHeartbeats 4000000 in
set_option maxRecDepth 100000 in
/-- place, caught -/
theorem cl_place (l : Launch) (hst : l.stackTraces = false) (dC : Nat → ClassId) (dI : Nat → Nat → Nat) (cI cZ cO cL : ClassId) (y : Nat → Nat) (q : Nat → Nat) (n : Nat) (fa : Nat → Int32) (fn : Nat → Int32) (ff : Nat → Int32) (fl : Nat → Int32) (co : Nat → Option Nat) (T : va_W) (ad : Nat → Nat) (Ks : Nat → Option zK) (oa : Nat) (fo : Nat → Int64) (x : Int32) (v : Int32) (z : Int32) (u : Int32) (hys : zy_is cI cZ co T n fa ad Ks) : zx_Mi l ky_L_place kw_L_place rm_cl_place (dC, dI) (zz_ty cI cZ cO cL) ([(y 0, .inr (2, [.ref (y 1), .ref (q 0)])), (y 1, .inl (cO, 4, .inr (.inr (.inr (.inr co))))), (q 0, zr_ob q n), (q 1, .inl (cI, 400, .inl fa)), (q 2, .inl (cI, 400, .inl fn)), (q 3, .inl (cI, 4096, .inl ff)), (q 4, .inl (cI, 64, .inl fl)), (oa, .inl (cL, 1, .inr (.inl fo)))] ++ T) [.ref (y 0), .int x, .int v, .int z, .int u, .ref oa] (fun (r : Int32) (w : va_W) => ∃ (T2 : va_W), ∃ (fo2 : Nat → Int64), ∃ (t : Nat), ∃ (ans : Int32), w = ([(y 0, .inr (2, [.ref (y 1), .ref (q 0)])), (y 1, .inl (cO, 4, .inr (.inr (.inr (.inr co))))), (q 0, zr_ob q n), (q 1, .inl (cI, 400, .inl fa)), (q 2, .inl (cI, 400, .inl fn)), (q 3, .inl (cI, 4096, .inl ff)), (q 4, .inl (cI, 64, .inl fl)), (oa, .inl (cL, 1, .inr (.inl fo2)))] ++ T2) ∧ (r = nI t) ∧ (zq_place Ks x v z u ans t) ∧ (zy_T cI cZ co Ks T2) ∧ (t = 0 → fo2 0 = ans.toInt64)) (fun _ _ => False) 2 12 := by
  refine zx_entryH_i (cc := kb_L_place) (maxL := 7) (hh := kh_L_place) (by decide) rfl rfl (Nat.le_of_ble_eq_true rfl) ?_
  intro p e s m args below meth c Q hx hb hml hown hts hin htab hP hK A hD hA hS hJ hret ls hl
  have hl : lv_has ls 7 [(0, .ref (y 0)), (1, .int x), (2, .int v), (3, .int z), (4, .int u), (5, .ref oa)] := hl
  obtain ⟨H, eH⟩ : ∃ z, z = s.heap := ⟨_, rfl⟩
  obtain ⟨locs, eL⟩ : ∃ z : List Loc, z = [] := ⟨_, rfl⟩
  rw [← eH] at hP ⊢
  have hS : va_S A s.heap H locs := by rw [eH, eL]; exact hS
  rw [← eL]
  refine lv_aload hx hb kd_L_place_0 (lv_at hl 5 rfl) ?_
  refine lv_iconst (v := nI 0) hx hb kd_L_place_2 (by decide) ?_
  refine lv_aload_n hx hb kd_L_place_3 rfl (lv_at hl 0 rfl) ?_
  refine lv_iload_n hx hb kd_L_place_4 rfl (lv_at hl 1 rfl) ?_
  refine lv_iload_n hx hb kd_L_place_5 rfl (lv_at hl 2 rfl) ?_
  refine lv_iload_n hx hb kd_L_place_6 rfl (lv_at hl 3 rfl) ?_
  refine lv_iload hx hb kd_L_place_7 (lv_at hl 4 rfl) ?_
  refine zx_iV (As := [.int x, .int v, .int z, .int u]) (rest := [.int (nI 0), .ref oa]) (wc := ([(y 0, .inr (2, [.ref (y 1), .ref (q 0)])), (y 1, .inl (cO, 4, .inr (.inr (.inr (.inr co))))), (q 0, zr_ob q n), (q 1, .inl (cI, 400, .inl fa)), (q 2, .inl (cI, 400, .inl fn)), (q 3, .inl (cI, 4096, .inl ff)), (q 4, .inl (cI, 64, .inl fl))] ++ T)) (wr := [(oa, .inl (cL, 1, .inr (.inl fo)))]) ⟨hx, hb, hml, hown, hts⟩ (cy_place l hst dC dI cI cZ cO cL y q n fa fn ff fl co T ad Ks x v z u (hys)) (zz_cwV hts kj_275 kj_25 kj_272 kj_273 kj_274 kz_Y_place rfl rfl ⟨Nat.le_of_ble_eq_true rfl, Nat.le_of_ble_eq_true rfl⟩) (zz_PTc hP [7] [0, 1, 2, 3, 4, 5, 6] rfl rfl) (zz_DTc hD [7] [0, 1, 2, 3, 4, 5, 6] (by decide) rfl) hK hS hA hJ (q0 := 0) rfl rfl rfl rfl hl.1 rfl (Nat.le_of_ble_eq_true rfl) kd_L_place_9 ⟨by decide, by decide⟩ (fun E9 ce9 q9 w9 H locs hpx hP hD hS g1 g2 g3 => ?_) (fun r9 w9 H locs hw hP hD hS => ?_)
  · skip
    obtain ⟨T9, rfl, hT9, hcond⟩ := hpx
    have hP : va_P (dC, dI) zk_cl ([(oa, .inl (cL, 1, .inr (.inl fo))), (y 0, .inr (2, [.ref (y 1), .ref (q 0)])), (y 1, .inl (cO, 4, .inr (.inr (.inr (.inr co))))), (q 0, zr_ob q n), (q 1, .inl (cI, 400, .inl fa)), (q 2, .inl (cI, 400, .inl fn)), (q 3, .inl (cI, 4096, .inl ff)), (q 4, .inl (cI, 64, .inl fl))] ++ T9) H := hP
    have hD : va_D A ([(oa, .inl (cL, 1, .inr (.inl fo))), (y 0, .inr (2, [.ref (y 1), .ref (q 0)])), (y 1, .inl (cO, 4, .inr (.inr (.inr (.inr co))))), (q 0, zr_ob q n), (q 1, .inl (cI, 400, .inl fa)), (q 2, .inl (cI, 400, .inl fn)), (q 3, .inl (cI, 4096, .inl ff)), (q 4, .inl (cI, 64, .inl fl))] ++ T9) := hD
    rcases hcond with ⟨rfl, hbad⟩ | ⟨c9, K9, k1, k2, k3, ⟨rfl, hbad⟩ | ⟨rfl, a9, p9, m1, m2, m3, m4, m5, m6⟩⟩
    · skip
      refine zx_catch (hh1 := []) (x := (0, 14, 17, 25)) (hh2 := [(0, 14, 21, 31), (0, 14, 25, 13)]) (name := zj_NS) hown htab rfl (fun z hz => nomatch hz) ⟨by decide, by decide⟩ (by decide) (hts _ kj_239) (va_Nw.use rfl (hJ.1.2.2.1 zj_NS (List.mem_of_getElem? (i := 2) rfl))) g1 g2 g3 ?_
      refine lv_astore (lv' := [(6, .ref q9), (0, .ref (y 0)), (1, .int x), (2, .int v), (3, .int z), (4, .int u), (5, .ref oa)]) hx hb kd_L_place_17 hl (by decide) rfl (fun ls hl => ?_)
      refine lv_iconst (v := nI 1) hx hb kd_L_place_19 (by decide) ?_
      exact hret _ _ _ _ _ _ kd_L_place_20 (zz_PT0 hP [1, 2, 3, 4, 5, 6, 7, 0] rfl) (zz_DT0 hD [1, 2, 3, 4, 5, 6, 7, 0] (by decide) rfl) hS (⟨T9, fo, 1, 0, rfl, rfl, (Or.inl ⟨rfl, hbad⟩), (hT9), (fun z => absurd z (by decide))⟩)
    · skip
      refine zx_catch (hh1 := [(0, 14, 17, 25)]) (x := (0, 14, 21, 31)) (hh2 := [(0, 14, 25, 13)]) (name := zj_IO) hown htab rfl (fun z hz => by rw [List.mem_singleton.mp hz]; exact ⟨by decide, zj_NS, hts _ kj_239, hJ.1.2.2.2.2.2.2 (zj_IO, zj_NS) (List.mem_of_getElem? (i := 1) rfl)⟩) ⟨by decide, by decide⟩ (by decide) (hts _ kj_271) (va_Nw.use rfl (hJ.1.2.2.1 zj_IO (List.mem_of_getElem? (i := 3) rfl))) g1 g2 g3 ?_
      refine lv_astore (lv' := [(6, .ref q9), (0, .ref (y 0)), (1, .int x), (2, .int v), (3, .int z), (4, .int u), (5, .ref oa)]) hx hb kd_L_place_21 hl (by decide) rfl (fun ls hl => ?_)
      refine lv_iconst (v := nI 2) hx hb kd_L_place_23 (by decide) ?_
      exact hret _ _ _ _ _ _ kd_L_place_24 (zz_PT0 hP [1, 2, 3, 4, 5, 6, 7, 0] rfl) (zz_DT0 hD [1, 2, 3, 4, 5, 6, 7, 0] (by decide) rfl) hS (⟨T9, fo, 2, 0, rfl, rfl, (Or.inr ⟨c9, K9, k1, k2, k3, Or.inl ⟨rfl, hbad⟩⟩), (hT9), (fun z => absurd z (by decide))⟩)
    · skip
      refine zx_catch (hh1 := [(0, 14, 17, 25), (0, 14, 21, 31)]) (x := (0, 14, 25, 13)) (hh2 := []) (name := zj_IA) hown htab rfl (fun z hz => by
        rcases List.mem_cons.mp hz with e | hz
        · rw [e]; exact ⟨by decide, zj_NS, hts _ kj_239, hJ.1.2.2.2.2.2.2 (zj_IA, zj_NS) (List.mem_of_getElem? (i := 2) rfl)⟩
        · rw [List.mem_singleton.mp hz]; exact ⟨by decide, zj_IO, hts _ kj_271, hJ.1.2.2.2.2.2.2 (zj_IA, zj_IO) (List.mem_of_getElem? (i := 3) rfl)⟩) ⟨by decide, by decide⟩ (by decide) (hts _ kj_77) (va_Nw.use rfl (hJ.1.2.2.1 zj_IA (List.mem_of_getElem? (i := 0) rfl))) g1 g2 g3 ?_
      refine lv_astore (lv' := [(6, .ref q9), (0, .ref (y 0)), (1, .int x), (2, .int v), (3, .int z), (4, .int u), (5, .ref oa)]) hx hb kd_L_place_25 hl (by decide) rfl (fun ls hl => ?_)
      refine lv_iconst (v := nI 3) hx hb kd_L_place_27 (by decide) ?_
      exact hret _ _ _ _ _ _ kd_L_place_28 (zz_PT0 hP [1, 2, 3, 4, 5, 6, 7, 0] rfl) (zz_DT0 hD [1, 2, 3, 4, 5, 6, 7, 0] (by decide) rfl) hS (⟨T9, fo, 3, 0, rfl, rfl, (Or.inr ⟨c9, K9, k1, k2, k3, Or.inr ⟨a9, p9, m1, m2, m3, m4, Or.inl ⟨rfl, m5, m6⟩⟩⟩), (hT9), (fun z => absurd z (by decide))⟩)
  generalize r9 = v9 at hw ⊢
  obtain ⟨T9, rfl, hq9, hs9⟩ := hw
  have hP : va_P (dC, dI) zk_cl ([(oa, .inl (cL, 1, .inr (.inl fo))), (y 0, .inr (2, [.ref (y 1), .ref (q 0)])), (y 1, .inl (cO, 4, .inr (.inr (.inr (.inr co))))), (q 0, zr_ob q n), (q 1, .inl (cI, 400, .inl fa)), (q 2, .inl (cI, 400, .inl fn)), (q 3, .inl (cI, 4096, .inl ff)), (q 4, .inl (cI, 64, .inl fl))] ++ T9) H := hP
  have hD : va_D A ([(oa, .inl (cL, 1, .inr (.inl fo))), (y 0, .inr (2, [.ref (y 1), .ref (q 0)])), (y 1, .inl (cO, 4, .inr (.inr (.inr (.inr co))))), (q 0, zr_ob q n), (q 1, .inl (cI, 400, .inl fa)), (q 2, .inl (cI, 400, .inl fn)), (q 3, .inl (cI, 4096, .inl ff)), (q 4, .inl (cI, 64, .inl fl))] ++ T9) := hD
  refine lv_i2l (v := v9.toInt64) hx hb kd_L_place_12 rfl ?_
  refine zz_last hx hb hK hP hD hS 0 3 rfl rfl (k := 0) (by omega) (by decide) kd_L_place_13 (fun H locs hP hD hS => ?_)
  have hP : va_P (dC, dI) zk_cl ([(oa, .inl (cL, 1, .inr (.inl (vp_updL fo 0 v9.toInt64)))), (y 0, .inr (2, [.ref (y 1), .ref (q 0)])), (y 1, .inl (cO, 4, .inr (.inr (.inr (.inr co))))), (q 0, zr_ob q n), (q 1, .inl (cI, 400, .inl fa)), (q 2, .inl (cI, 400, .inl fn)), (q 3, .inl (cI, 4096, .inl ff)), (q 4, .inl (cI, 64, .inl fl))] ++ T9) H := hP
  have hD : va_D A ([(oa, .inl (cL, 1, .inr (.inl (vp_updL fo 0 v9.toInt64)))), (y 0, .inr (2, [.ref (y 1), .ref (q 0)])), (y 1, .inl (cO, 4, .inr (.inr (.inr (.inr co))))), (q 0, zr_ob q n), (q 1, .inl (cI, 400, .inl fa)), (q 2, .inl (cI, 400, .inl fn)), (q 3, .inl (cI, 4096, .inl ff)), (q 4, .inl (cI, 64, .inl fl))] ++ T9) := hD
  refine lv_goto (tgt := 29) hx hb kd_L_place_14 (by decide) ?_
  refine lv_iconst (v := nI 0) hx hb kd_L_place_29 (by decide) ?_
  exact hret _ _ _ _ _ _ kd_L_place_30 (zz_PT0 hP [1, 2, 3, 4, 5, 6, 7, 0] rfl) (zz_DT0 hD [1, 2, 3, 4, 5, 6, 7, 0] (by decide) rfl) hS (⟨T9, vp_updL fo 0 v9.toInt64, 0, v9, rfl, rfl, (hq9), (hs9), (fun _ => zl_up)⟩)

def rm_cl_about : Room := { frames := 8, cells := 2, slots := 12, locals := 135 }
set_option maxHeartbeats 4000000 in
set_option maxRecDepth 100000 in
/-- about, caught -/
theorem cl_about (l : Launch) (hst : l.stackTraces = false) (dC : Nat → ClassId) (dI : Nat → Nat → Nat) (cI cZ cO cL : ClassId) (y : Nat → Nat) (q : Nat → Nat) (n : Nat) (fa : Nat → Int32) (fn : Nat → Int32) (ff : Nat → Int32) (fl : Nat → Int32) (co : Nat → Option Nat) (T : va_W) (ad : Nat → Nat) (Ks : Nat → Option zK) (oa : Nat) (fo : Nat → Int64) (x : Int32) (v : Int32) (hys : zy_is cI cZ co T n fa ad Ks) : zx_Mi l ky_L_about kw_L_about rm_cl_about (dC, dI) (zz_ty cI cZ cO cL) ([(y 0, .inr (2, [.ref (y 1), .ref (q 0)])), (y 1, .inl (cO, 4, .inr (.inr (.inr (.inr co))))), (q 0, zr_ob q n), (q 1, .inl (cI, 400, .inl fa)), (q 2, .inl (cI, 400, .inl fn)), (q 3, .inl (cI, 4096, .inl ff)), (q 4, .inl (cI, 64, .inl fl)), (oa, .inl (cL, 1, .inr (.inl fo)))] ++ T) [.ref (y 0), .int x, .int v, .ref oa] (fun (r : Int32) (w : va_W) => ∃ (T2 : va_W), ∃ (fo2 : Nat → Int64), ∃ (t : Nat), ∃ (ans : Int32), w = ([(y 0, .inr (2, [.ref (y 1), .ref (q 0)])), (y 1, .inl (cO, 4, .inr (.inr (.inr (.inr co))))), (q 0, zr_ob q n), (q 1, .inl (cI, 400, .inl fa)), (q 2, .inl (cI, 400, .inl fn)), (q 3, .inl (cI, 4096, .inl ff)), (q 4, .inl (cI, 64, .inl fl)), (oa, .inl (cL, 1, .inr (.inl fo2)))] ++ T2) ∧ (r = nI t) ∧ (zq_about Ks x v ans t) ∧ (zy_T cI cZ co Ks T2) ∧ (t = 0 → fo2 0 = ans.toInt64)) (fun _ _ => False) 2 12 := by
  refine zx_entryH_i (cc := kb_L_about) (maxL := 5) (hh := kh_L_about) (by decide) rfl rfl (Nat.le_of_ble_eq_true rfl) ?_
  intro p e s m args below meth c Q hx hb hml hown hts hin htab hP hK A hD hA hS hJ hret ls hl
  have hl : lv_has ls 5 [(0, .ref (y 0)), (1, .int x), (2, .int v), (3, .ref oa)] := hl
  obtain ⟨H, eH⟩ : ∃ z, z = s.heap := ⟨_, rfl⟩
  obtain ⟨locs, eL⟩ : ∃ z : List Loc, z = [] := ⟨_, rfl⟩
  rw [← eH] at hP ⊢
  have hS : va_S A s.heap H locs := by rw [eH, eL]; exact hS
  rw [← eL]
  refine lv_aload_n hx hb kd_L_about_0 rfl (lv_at hl 3 rfl) ?_
  refine lv_iconst (v := nI 0) hx hb kd_L_about_1 (by decide) ?_
  refine lv_aload_n hx hb kd_L_about_2 rfl (lv_at hl 0 rfl) ?_
  refine lv_iload_n hx hb kd_L_about_3 rfl (lv_at hl 1 rfl) ?_
  refine lv_iload_n hx hb kd_L_about_4 rfl (lv_at hl 2 rfl) ?_
  refine zx_iV (As := [.int x, .int v]) (rest := [.int (nI 0), .ref oa]) (wc := ([(y 0, .inr (2, [.ref (y 1), .ref (q 0)])), (y 1, .inl (cO, 4, .inr (.inr (.inr (.inr co))))), (q 0, zr_ob q n), (q 1, .inl (cI, 400, .inl fa)), (q 2, .inl (cI, 400, .inl fn)), (q 3, .inl (cI, 4096, .inl ff)), (q 4, .inl (cI, 64, .inl fl))] ++ T)) (wr := [(oa, .inl (cL, 1, .inr (.inl fo)))]) ⟨hx, hb, hml, hown, hts⟩ (cy_about l hst dC dI cI cZ cO cL y q n fa fn ff fl co T ad Ks x v (hys)) (zz_cwV hts kj_301 kj_25 kj_298 kj_299 kj_300 kz_Y_about rfl rfl ⟨Nat.le_of_ble_eq_true rfl, Nat.le_of_ble_eq_true rfl⟩) (zz_PTc hP [7] [0, 1, 2, 3, 4, 5, 6] rfl rfl) (zz_DTc hD [7] [0, 1, 2, 3, 4, 5, 6] (by decide) rfl) hK hS hA hJ (q0 := 0) rfl rfl rfl rfl hl.1 rfl (Nat.le_of_ble_eq_true rfl) kd_L_about_5 ⟨by decide, by decide⟩ (fun E9 ce9 q9 w9 H locs hpx hP hD hS g1 g2 g3 => ?_) (fun r9 w9 H locs hw hP hD hS => ?_)
  · skip
    obtain ⟨T9, rfl, hT9, hcond⟩ := hpx
    have hP : va_P (dC, dI) zk_cl ([(oa, .inl (cL, 1, .inr (.inl fo))), (y 0, .inr (2, [.ref (y 1), .ref (q 0)])), (y 1, .inl (cO, 4, .inr (.inr (.inr (.inr co))))), (q 0, zr_ob q n), (q 1, .inl (cI, 400, .inl fa)), (q 2, .inl (cI, 400, .inl fn)), (q 3, .inl (cI, 4096, .inl ff)), (q 4, .inl (cI, 64, .inl fl))] ++ T9) H := hP
    have hD : va_D A ([(oa, .inl (cL, 1, .inr (.inl fo))), (y 0, .inr (2, [.ref (y 1), .ref (q 0)])), (y 1, .inl (cO, 4, .inr (.inr (.inr (.inr co))))), (q 0, zr_ob q n), (q 1, .inl (cI, 400, .inl fa)), (q 2, .inl (cI, 400, .inl fn)), (q 3, .inl (cI, 4096, .inl ff)), (q 4, .inl (cI, 64, .inl fl))] ++ T9) := hD
    rcases hcond with ⟨rfl, hbad⟩ | ⟨rfl, ⟨c9, K9, k1, k2, k3⟩, hbad⟩
    · skip
      refine zx_catch (hh1 := []) (x := (0, 10, 13, 25)) (hh2 := [(0, 10, 17, 13)]) (name := zj_NS) hown htab rfl (fun z hz => nomatch hz) ⟨by decide, by decide⟩ (by decide) (hts _ kj_239) (va_Nw.use rfl (hJ.1.2.2.1 zj_NS (List.mem_of_getElem? (i := 2) rfl))) g1 g2 g3 ?_
      refine lv_astore (lv' := [(4, .ref q9), (0, .ref (y 0)), (1, .int x), (2, .int v), (3, .ref oa)]) hx hb kd_L_about_13 hl (by decide) rfl (fun ls hl => ?_)
      refine lv_iconst (v := nI 1) hx hb kd_L_about_15 (by decide) ?_
      exact hret _ _ _ _ _ _ kd_L_about_16 (zz_PT0 hP [1, 2, 3, 4, 5, 6, 7, 0] rfl) (zz_DT0 hD [1, 2, 3, 4, 5, 6, 7, 0] (by decide) rfl) hS (⟨T9, fo, 1, 0, rfl, rfl, (Or.inl ⟨rfl, hbad⟩), (hT9), (fun z => absurd z (by decide))⟩)
    · skip
      refine zx_catch (hh1 := [(0, 10, 13, 25)]) (x := (0, 10, 17, 13)) (hh2 := []) (name := zj_IA) hown htab rfl (fun z hz => by rw [List.mem_singleton.mp hz]; exact ⟨by decide, zj_NS, hts _ kj_239, hJ.1.2.2.2.2.2.2 (zj_IA, zj_NS) (List.mem_of_getElem? (i := 2) rfl)⟩) ⟨by decide, by decide⟩ (by decide) (hts _ kj_77) (va_Nw.use rfl (hJ.1.2.2.1 zj_IA (List.mem_of_getElem? (i := 0) rfl))) g1 g2 g3 ?_
      refine lv_astore (lv' := [(4, .ref q9), (0, .ref (y 0)), (1, .int x), (2, .int v), (3, .ref oa)]) hx hb kd_L_about_17 hl (by decide) rfl (fun ls hl => ?_)
      refine lv_iconst (v := nI 2) hx hb kd_L_about_19 (by decide) ?_
      exact hret _ _ _ _ _ _ kd_L_about_20 (zz_PT0 hP [1, 2, 3, 4, 5, 6, 7, 0] rfl) (zz_DT0 hD [1, 2, 3, 4, 5, 6, 7, 0] (by decide) rfl) hS (⟨T9, fo, 2, 0, rfl, rfl, (Or.inr ⟨c9, K9, k1, k2, k3, Or.inl ⟨rfl, hbad⟩⟩), (hT9), (fun z => absurd z (by decide))⟩)
  generalize r9 = v9 at hw ⊢
  obtain ⟨T9, rfl, hq9, hs9⟩ := hw
  have hP : va_P (dC, dI) zk_cl ([(oa, .inl (cL, 1, .inr (.inl fo))), (y 0, .inr (2, [.ref (y 1), .ref (q 0)])), (y 1, .inl (cO, 4, .inr (.inr (.inr (.inr co))))), (q 0, zr_ob q n), (q 1, .inl (cI, 400, .inl fa)), (q 2, .inl (cI, 400, .inl fn)), (q 3, .inl (cI, 4096, .inl ff)), (q 4, .inl (cI, 64, .inl fl))] ++ T9) H := hP
  have hD : va_D A ([(oa, .inl (cL, 1, .inr (.inl fo))), (y 0, .inr (2, [.ref (y 1), .ref (q 0)])), (y 1, .inl (cO, 4, .inr (.inr (.inr (.inr co))))), (q 0, zr_ob q n), (q 1, .inl (cI, 400, .inl fa)), (q 2, .inl (cI, 400, .inl fn)), (q 3, .inl (cI, 4096, .inl ff)), (q 4, .inl (cI, 64, .inl fl))] ++ T9) := hD
  refine lv_i2l (v := v9.toInt64) hx hb kd_L_about_8 rfl ?_
  refine zz_last hx hb hK hP hD hS 0 3 rfl rfl (k := 0) (by omega) (by decide) kd_L_about_9 (fun H locs hP hD hS => ?_)
  have hP : va_P (dC, dI) zk_cl ([(oa, .inl (cL, 1, .inr (.inl (vp_updL fo 0 v9.toInt64)))), (y 0, .inr (2, [.ref (y 1), .ref (q 0)])), (y 1, .inl (cO, 4, .inr (.inr (.inr (.inr co))))), (q 0, zr_ob q n), (q 1, .inl (cI, 400, .inl fa)), (q 2, .inl (cI, 400, .inl fn)), (q 3, .inl (cI, 4096, .inl ff)), (q 4, .inl (cI, 64, .inl fl))] ++ T9) H := hP
  have hD : va_D A ([(oa, .inl (cL, 1, .inr (.inl (vp_updL fo 0 v9.toInt64)))), (y 0, .inr (2, [.ref (y 1), .ref (q 0)])), (y 1, .inl (cO, 4, .inr (.inr (.inr (.inr co))))), (q 0, zr_ob q n), (q 1, .inl (cI, 400, .inl fa)), (q 2, .inl (cI, 400, .inl fn)), (q 3, .inl (cI, 4096, .inl ff)), (q 4, .inl (cI, 64, .inl fl))] ++ T9) := hD
  refine lv_goto (tgt := 21) hx hb kd_L_about_10 (by decide) ?_
  refine lv_iconst (v := nI 0) hx hb kd_L_about_21 (by decide) ?_
  exact hret _ _ _ _ _ _ kd_L_about_22 (zz_PT0 hP [1, 2, 3, 4, 5, 6, 7, 0] rfl) (zz_DT0 hD [1, 2, 3, 4, 5, 6, 7, 0] (by decide) rfl) hS (⟨T9, vp_updL fo 0 v9.toInt64, 0, v9, rfl, rfl, (hq9), (hs9), (fun _ => zl_up)⟩)

def rm_cl_curve : Room := { frames := 8, cells := 1, slots := 6, locals := 133 }
set_option maxHeartbeats 4000000 in
set_option maxRecDepth 100000 in
/-- curve, caught -/
theorem cl_curve (l : Launch) (hst : l.stackTraces = false) (dC : Nat → ClassId) (dI : Nat → Nat → Nat) (cI cZ cO cL : ClassId) (y : Nat → Nat) (q : Nat → Nat) (n : Nat) (fa : Nat → Int32) (fn : Nat → Int32) (ff : Nat → Int32) (fl : Nat → Int32) (co : Nat → Option Nat) (T : va_W) (ad : Nat → Nat) (Ks : Nat → Option zK) (oa : Nat) (fo : Nat → Int64) (x : Int32) (v : Int32) (hys : zy_is cI cZ co T n fa ad Ks) : zx_Mi l ky_L_curve kw_L_curve rm_cl_curve (dC, dI) (zz_ty cI cZ cO cL) ([(y 0, .inr (2, [.ref (y 1), .ref (q 0)])), (y 1, .inl (cO, 4, .inr (.inr (.inr (.inr co))))), (q 0, zr_ob q n), (q 1, .inl (cI, 400, .inl fa)), (q 2, .inl (cI, 400, .inl fn)), (q 3, .inl (cI, 4096, .inl ff)), (q 4, .inl (cI, 64, .inl fl)), (oa, .inl (cL, 1, .inr (.inl fo)))] ++ T) [.ref (y 0), .int x, .int v, .ref oa] (fun (r : Int32) (w : va_W) => ∃ (T2 : va_W), ∃ (fn2 : Nat → Int32), ∃ (ff2 : Nat → Int32), ∃ (fl2 : Nat → Int32), ∃ (fo2 : Nat → Int64), ∃ (t : Nat), ∃ (ans : Int32), w = ([(y 0, .inr (2, [.ref (y 1), .ref (q 0)])), (y 1, .inl (cO, 4, .inr (.inr (.inr (.inr co))))), (q 0, zr_ob q n), (q 1, .inl (cI, 400, .inl fa)), (q 2, .inl (cI, 400, .inl fn2)), (q 3, .inl (cI, 4096, .inl ff2)), (q 4, .inl (cI, 64, .inl fl2)), (oa, .inl (cL, 1, .inr (.inl fo2)))] ++ T2) ∧ (r = nI t) ∧ (zl_cv false n ad x v ans t) ∧ (zy_T cI cZ co Ks T2) ∧ (t = 0 → fo2 0 = ans.toInt64)) (fun _ _ => False) 1 6 := by
  refine zx_entryH_i (cc := kb_L_curve) (maxL := 5) (hh := kh_L_curve) (by decide) rfl rfl (Nat.le_of_ble_eq_true rfl) ?_
  intro p e s m args below meth c Q hx hb hml hown hts hin htab hP hK A hD hA hS hJ hret ls hl
  have hl : lv_has ls 5 [(0, .ref (y 0)), (1, .int x), (2, .int v), (3, .ref oa)] := hl
  obtain ⟨H, eH⟩ : ∃ z, z = s.heap := ⟨_, rfl⟩
  obtain ⟨locs, eL⟩ : ∃ z : List Loc, z = [] := ⟨_, rfl⟩
  rw [← eH] at hP ⊢
  have hS : va_S A s.heap H locs := by rw [eH, eL]; exact hS
  rw [← eL]
  refine lv_aload_n hx hb kd_L_curve_0 rfl (lv_at hl 3 rfl) ?_
  refine lv_iconst (v := nI 0) hx hb kd_L_curve_1 (by decide) ?_
  refine lv_aload_n hx hb kd_L_curve_2 rfl (lv_at hl 0 rfl) ?_
  refine lv_iload_n hx hb kd_L_curve_3 rfl (lv_at hl 1 rfl) ?_
  refine lv_iload_n hx hb kd_L_curve_4 rfl (lv_at hl 2 rfl) ?_
  refine zx_iV (As := [.int x, .int v]) (rest := [.int (nI 0), .ref oa]) (wc := ([(y 0, .inr (2, [.ref (y 1), .ref (q 0)])), (y 1, .inl (cO, 4, .inr (.inr (.inr (.inr co))))), (q 0, zr_ob q n), (q 1, .inl (cI, 400, .inl fa)), (q 2, .inl (cI, 400, .inl fn)), (q 3, .inl (cI, 4096, .inl ff)), (q 4, .inl (cI, 64, .inl fl))] ++ T)) (wr := [(oa, .inl (cL, 1, .inr (.inl fo)))]) ⟨hx, hb, hml, hown, hts⟩ (cy_curve l hst dC dI cI cZ cO cL y q n fa fn ff fl co T ad Ks x v (hys)) (zz_cwV hts kj_313 kj_25 kj_310 kj_311 kj_312 kz_Y_curve rfl rfl ⟨Nat.le_of_ble_eq_true rfl, Nat.le_of_ble_eq_true rfl⟩) (zz_PTc hP [7] [0, 1, 2, 3, 4, 5, 6] rfl rfl) (zz_DTc hD [7] [0, 1, 2, 3, 4, 5, 6] (by decide) rfl) hK hS hA hJ (q0 := 0) rfl rfl rfl rfl hl.1 rfl (Nat.le_of_ble_eq_true rfl) kd_L_curve_5 ⟨by decide, by decide⟩ (fun E9 ce9 q9 w9 H locs hpx hP hD hS g1 g2 g3 => ?_) (fun r9 w9 H locs hw hP hD hS => ?_)
  · skip
    obtain ⟨T9, rfl, hT9, hcond⟩ := hpx
    have hP : va_P (dC, dI) zk_cl ([(oa, .inl (cL, 1, .inr (.inl fo))), (y 0, .inr (2, [.ref (y 1), .ref (q 0)])), (y 1, .inl (cO, 4, .inr (.inr (.inr (.inr co))))), (q 0, zr_ob q n), (q 1, .inl (cI, 400, .inl fa)), (q 2, .inl (cI, 400, .inl fn)), (q 3, .inl (cI, 4096, .inl ff)), (q 4, .inl (cI, 64, .inl fl))] ++ T9) H := hP
    have hD : va_D A ([(oa, .inl (cL, 1, .inr (.inl fo))), (y 0, .inr (2, [.ref (y 1), .ref (q 0)])), (y 1, .inl (cO, 4, .inr (.inr (.inr (.inr co))))), (q 0, zr_ob q n), (q 1, .inl (cI, 400, .inl fa)), (q 2, .inl (cI, 400, .inl fn)), (q 3, .inl (cI, 4096, .inl ff)), (q 4, .inl (cI, 64, .inl fl))] ++ T9) := hD
    obtain ⟨rfl, hbad⟩ := hcond
    refine zx_catch (hh1 := []) (x := (0, 10, 13, 13)) (hh2 := []) (name := zj_IA) hown htab rfl (fun z hz => nomatch hz) ⟨by decide, by decide⟩ (by decide) (hts _ kj_77) (va_Nw.use rfl (hJ.1.2.2.1 zj_IA (List.mem_of_getElem? (i := 0) rfl))) g1 g2 g3 ?_
    refine lv_astore (lv' := [(4, .ref q9), (0, .ref (y 0)), (1, .int x), (2, .int v), (3, .ref oa)]) hx hb kd_L_curve_13 hl (by decide) rfl (fun ls hl => ?_)
    refine lv_iconst (v := nI 1) hx hb kd_L_curve_15 (by decide) ?_
    exact hret _ _ _ _ _ _ kd_L_curve_16 (zz_PT0 hP [1, 2, 3, 4, 5, 6, 7, 0] rfl) (zz_DT0 hD [1, 2, 3, 4, 5, 6, 7, 0] (by decide) rfl) hS (⟨T9, fn, ff, fl, fo, 1, 0, rfl, rfl, (Or.inl ⟨rfl, hbad⟩), (hT9), (fun z => absurd z (by decide))⟩)
  generalize r9 = v9 at hw ⊢
  obtain ⟨fn2, ff2, fl2, li, bb, cn, nx, Ls, rfl, e1, e2, e3, e4, e5, e6, e7⟩ := hw
  have hP : va_P (dC, dI) zk_cl ([(oa, .inl (cL, 1, .inr (.inl fo))), (y 0, .inr (2, [.ref (y 1), .ref (q 0)])), (y 1, .inl (cO, 4, .inr (.inr (.inr (.inr co))))), (q 0, zr_ob q n), (q 1, .inl (cI, 400, .inl fa)), (q 2, .inl (cI, 400, .inl fn2)), (q 3, .inl (cI, 4096, .inl ff2)), (q 4, .inl (cI, 64, .inl fl2))] ++ T) H := hP
  have hD : va_D A ([(oa, .inl (cL, 1, .inr (.inl fo))), (y 0, .inr (2, [.ref (y 1), .ref (q 0)])), (y 1, .inl (cO, 4, .inr (.inr (.inr (.inr co))))), (q 0, zr_ob q n), (q 1, .inl (cI, 400, .inl fa)), (q 2, .inl (cI, 400, .inl fn2)), (q 3, .inl (cI, 4096, .inl ff2)), (q 4, .inl (cI, 64, .inl fl2))] ++ T) := hD
  refine lv_i2l (v := v9.toInt64) hx hb kd_L_curve_8 rfl ?_
  refine zz_last hx hb hK hP hD hS 0 3 rfl rfl (k := 0) (by omega) (by decide) kd_L_curve_9 (fun H locs hP hD hS => ?_)
  have hP : va_P (dC, dI) zk_cl ([(oa, .inl (cL, 1, .inr (.inl (vp_updL fo 0 v9.toInt64)))), (y 0, .inr (2, [.ref (y 1), .ref (q 0)])), (y 1, .inl (cO, 4, .inr (.inr (.inr (.inr co))))), (q 0, zr_ob q n), (q 1, .inl (cI, 400, .inl fa)), (q 2, .inl (cI, 400, .inl fn2)), (q 3, .inl (cI, 4096, .inl ff2)), (q 4, .inl (cI, 64, .inl fl2))] ++ T) H := hP
  have hD : va_D A ([(oa, .inl (cL, 1, .inr (.inl (vp_updL fo 0 v9.toInt64)))), (y 0, .inr (2, [.ref (y 1), .ref (q 0)])), (y 1, .inl (cO, 4, .inr (.inr (.inr (.inr co))))), (q 0, zr_ob q n), (q 1, .inl (cI, 400, .inl fa)), (q 2, .inl (cI, 400, .inl fn2)), (q 3, .inl (cI, 4096, .inl ff2)), (q 4, .inl (cI, 64, .inl fl2))] ++ T) := hD
  refine lv_goto (tgt := 17) hx hb kd_L_curve_10 (by decide) ?_
  refine lv_iconst (v := nI 0) hx hb kd_L_curve_17 (by decide) ?_
  exact hret _ _ _ _ _ _ kd_L_curve_18 (zz_PT0 hP [1, 2, 3, 4, 5, 6, 7, 0] rfl) (zz_DT0 hD [1, 2, 3, 4, 5, 6, 7, 0] (by decide) rfl) hS (⟨T, fn2, ff2, fl2, vp_updL fo 0 v9.toInt64, 0, v9, rfl, rfl, (Or.inr ⟨rfl, li, bb, cn, nx, Ls, e1, e2, e3, e4, e5, e6, e7⟩), (hys.1), (fun _ => zl_up)⟩)

def rm_cl_best : Room := { frames := 8, cells := 1, slots := 6, locals := 133 }
set_option maxHeartbeats 4000000 in
set_option maxRecDepth 100000 in
/-- best, caught -/
theorem cl_best (l : Launch) (hst : l.stackTraces = false) (dC : Nat → ClassId) (dI : Nat → Nat → Nat) (cI cZ cO cL : ClassId) (y : Nat → Nat) (q : Nat → Nat) (n : Nat) (fa : Nat → Int32) (fn : Nat → Int32) (ff : Nat → Int32) (fl : Nat → Int32) (co : Nat → Option Nat) (T : va_W) (ad : Nat → Nat) (Ks : Nat → Option zK) (oa : Nat) (fo : Nat → Int64) (x : Int32) (v : Int32) (hys : zy_is cI cZ co T n fa ad Ks) : zx_Mi l ky_L_best kw_L_best rm_cl_best (dC, dI) (zz_ty cI cZ cO cL) ([(y 0, .inr (2, [.ref (y 1), .ref (q 0)])), (y 1, .inl (cO, 4, .inr (.inr (.inr (.inr co))))), (q 0, zr_ob q n), (q 1, .inl (cI, 400, .inl fa)), (q 2, .inl (cI, 400, .inl fn)), (q 3, .inl (cI, 4096, .inl ff)), (q 4, .inl (cI, 64, .inl fl)), (oa, .inl (cL, 1, .inr (.inl fo)))] ++ T) [.ref (y 0), .int x, .int v, .ref oa] (fun (r : Int32) (w : va_W) => ∃ (T2 : va_W), ∃ (fn2 : Nat → Int32), ∃ (ff2 : Nat → Int32), ∃ (fl2 : Nat → Int32), ∃ (fo2 : Nat → Int64), ∃ (t : Nat), ∃ (ans : Int32), w = ([(y 0, .inr (2, [.ref (y 1), .ref (q 0)])), (y 1, .inl (cO, 4, .inr (.inr (.inr (.inr co))))), (q 0, zr_ob q n), (q 1, .inl (cI, 400, .inl fa)), (q 2, .inl (cI, 400, .inl fn2)), (q 3, .inl (cI, 4096, .inl ff2)), (q 4, .inl (cI, 64, .inl fl2)), (oa, .inl (cL, 1, .inr (.inl fo2)))] ++ T2) ∧ (r = nI t) ∧ (zl_cv true n ad x v ans t) ∧ (zy_T cI cZ co Ks T2) ∧ (t = 0 → fo2 0 = ans.toInt64)) (fun _ _ => False) 1 6 := by
  refine zx_entryH_i (cc := kb_L_best) (maxL := 5) (hh := kh_L_best) (by decide) rfl rfl (Nat.le_of_ble_eq_true rfl) ?_
  intro p e s m args below meth c Q hx hb hml hown hts hin htab hP hK A hD hA hS hJ hret ls hl
  have hl : lv_has ls 5 [(0, .ref (y 0)), (1, .int x), (2, .int v), (3, .ref oa)] := hl
  obtain ⟨H, eH⟩ : ∃ z, z = s.heap := ⟨_, rfl⟩
  obtain ⟨locs, eL⟩ : ∃ z : List Loc, z = [] := ⟨_, rfl⟩
  rw [← eH] at hP ⊢
  have hS : va_S A s.heap H locs := by rw [eH, eL]; exact hS
  rw [← eL]
  refine lv_aload_n hx hb kd_L_best_0 rfl (lv_at hl 3 rfl) ?_
  refine lv_iconst (v := nI 0) hx hb kd_L_best_1 (by decide) ?_
  refine lv_aload_n hx hb kd_L_best_2 rfl (lv_at hl 0 rfl) ?_
  refine lv_iload_n hx hb kd_L_best_3 rfl (lv_at hl 1 rfl) ?_
  refine lv_iload_n hx hb kd_L_best_4 rfl (lv_at hl 2 rfl) ?_
  refine zx_iV (As := [.int x, .int v]) (rest := [.int (nI 0), .ref oa]) (wc := ([(y 0, .inr (2, [.ref (y 1), .ref (q 0)])), (y 1, .inl (cO, 4, .inr (.inr (.inr (.inr co))))), (q 0, zr_ob q n), (q 1, .inl (cI, 400, .inl fa)), (q 2, .inl (cI, 400, .inl fn)), (q 3, .inl (cI, 4096, .inl ff)), (q 4, .inl (cI, 64, .inl fl))] ++ T)) (wr := [(oa, .inl (cL, 1, .inr (.inl fo)))]) ⟨hx, hb, hml, hown, hts⟩ (cy_best l hst dC dI cI cZ cO cL y q n fa fn ff fl co T ad Ks x v (hys)) (zz_cwV hts kj_339 kj_25 kj_336 kj_337 kj_338 kz_Y_best rfl rfl ⟨Nat.le_of_ble_eq_true rfl, Nat.le_of_ble_eq_true rfl⟩) (zz_PTc hP [7] [0, 1, 2, 3, 4, 5, 6] rfl rfl) (zz_DTc hD [7] [0, 1, 2, 3, 4, 5, 6] (by decide) rfl) hK hS hA hJ (q0 := 0) rfl rfl rfl rfl hl.1 rfl (Nat.le_of_ble_eq_true rfl) kd_L_best_5 ⟨by decide, by decide⟩ (fun E9 ce9 q9 w9 H locs hpx hP hD hS g1 g2 g3 => ?_) (fun r9 w9 H locs hw hP hD hS => ?_)
  · skip
    obtain ⟨T9, rfl, hT9, hcond⟩ := hpx
    have hP : va_P (dC, dI) zk_cl ([(oa, .inl (cL, 1, .inr (.inl fo))), (y 0, .inr (2, [.ref (y 1), .ref (q 0)])), (y 1, .inl (cO, 4, .inr (.inr (.inr (.inr co))))), (q 0, zr_ob q n), (q 1, .inl (cI, 400, .inl fa)), (q 2, .inl (cI, 400, .inl fn)), (q 3, .inl (cI, 4096, .inl ff)), (q 4, .inl (cI, 64, .inl fl))] ++ T9) H := hP
    have hD : va_D A ([(oa, .inl (cL, 1, .inr (.inl fo))), (y 0, .inr (2, [.ref (y 1), .ref (q 0)])), (y 1, .inl (cO, 4, .inr (.inr (.inr (.inr co))))), (q 0, zr_ob q n), (q 1, .inl (cI, 400, .inl fa)), (q 2, .inl (cI, 400, .inl fn)), (q 3, .inl (cI, 4096, .inl ff)), (q 4, .inl (cI, 64, .inl fl))] ++ T9) := hD
    obtain ⟨rfl, hbad⟩ := hcond
    refine zx_catch (hh1 := []) (x := (0, 10, 13, 13)) (hh2 := []) (name := zj_IA) hown htab rfl (fun z hz => nomatch hz) ⟨by decide, by decide⟩ (by decide) (hts _ kj_77) (va_Nw.use rfl (hJ.1.2.2.1 zj_IA (List.mem_of_getElem? (i := 0) rfl))) g1 g2 g3 ?_
    refine lv_astore (lv' := [(4, .ref q9), (0, .ref (y 0)), (1, .int x), (2, .int v), (3, .ref oa)]) hx hb kd_L_best_13 hl (by decide) rfl (fun ls hl => ?_)
    refine lv_iconst (v := nI 1) hx hb kd_L_best_15 (by decide) ?_
    exact hret _ _ _ _ _ _ kd_L_best_16 (zz_PT0 hP [1, 2, 3, 4, 5, 6, 7, 0] rfl) (zz_DT0 hD [1, 2, 3, 4, 5, 6, 7, 0] (by decide) rfl) hS (⟨T9, fn, ff, fl, fo, 1, 0, rfl, rfl, (Or.inl ⟨rfl, hbad⟩), (hT9), (fun z => absurd z (by decide))⟩)
  generalize r9 = v9 at hw ⊢
  obtain ⟨fn2, ff2, fl2, li, bb, cn, nx, Ls, rfl, e1, e2, e3, e4, e5, e6, e7⟩ := hw
  have hP : va_P (dC, dI) zk_cl ([(oa, .inl (cL, 1, .inr (.inl fo))), (y 0, .inr (2, [.ref (y 1), .ref (q 0)])), (y 1, .inl (cO, 4, .inr (.inr (.inr (.inr co))))), (q 0, zr_ob q n), (q 1, .inl (cI, 400, .inl fa)), (q 2, .inl (cI, 400, .inl fn2)), (q 3, .inl (cI, 4096, .inl ff2)), (q 4, .inl (cI, 64, .inl fl2))] ++ T) H := hP
  have hD : va_D A ([(oa, .inl (cL, 1, .inr (.inl fo))), (y 0, .inr (2, [.ref (y 1), .ref (q 0)])), (y 1, .inl (cO, 4, .inr (.inr (.inr (.inr co))))), (q 0, zr_ob q n), (q 1, .inl (cI, 400, .inl fa)), (q 2, .inl (cI, 400, .inl fn2)), (q 3, .inl (cI, 4096, .inl ff2)), (q 4, .inl (cI, 64, .inl fl2))] ++ T) := hD
  refine lv_i2l (v := v9.toInt64) hx hb kd_L_best_8 rfl ?_
  refine zz_last hx hb hK hP hD hS 0 3 rfl rfl (k := 0) (by omega) (by decide) kd_L_best_9 (fun H locs hP hD hS => ?_)
  have hP : va_P (dC, dI) zk_cl ([(oa, .inl (cL, 1, .inr (.inl (vp_updL fo 0 v9.toInt64)))), (y 0, .inr (2, [.ref (y 1), .ref (q 0)])), (y 1, .inl (cO, 4, .inr (.inr (.inr (.inr co))))), (q 0, zr_ob q n), (q 1, .inl (cI, 400, .inl fa)), (q 2, .inl (cI, 400, .inl fn2)), (q 3, .inl (cI, 4096, .inl ff2)), (q 4, .inl (cI, 64, .inl fl2))] ++ T) H := hP
  have hD : va_D A ([(oa, .inl (cL, 1, .inr (.inl (vp_updL fo 0 v9.toInt64)))), (y 0, .inr (2, [.ref (y 1), .ref (q 0)])), (y 1, .inl (cO, 4, .inr (.inr (.inr (.inr co))))), (q 0, zr_ob q n), (q 1, .inl (cI, 400, .inl fa)), (q 2, .inl (cI, 400, .inl fn2)), (q 3, .inl (cI, 4096, .inl ff2)), (q 4, .inl (cI, 64, .inl fl2))] ++ T) := hD
  refine lv_goto (tgt := 17) hx hb kd_L_best_10 (by decide) ?_
  refine lv_iconst (v := nI 0) hx hb kd_L_best_17 (by decide) ?_
  exact hret _ _ _ _ _ _ kd_L_best_18 (zz_PT0 hP [1, 2, 3, 4, 5, 6, 7, 0] rfl) (zz_DT0 hD [1, 2, 3, 4, 5, 6, 7, 0] (by decide) rfl) hS (⟨T, fn2, ff2, fl2, vp_updL fo 0 v9.toInt64, 0, v9, rfl, rfl, (Or.inr ⟨rfl, li, bb, cn, nx, Ls, e1, e2, e3, e4, e5, e6, e7⟩), (hys.1), (fun _ => zl_up)⟩)
