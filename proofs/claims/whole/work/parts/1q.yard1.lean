def rm_ci_bitCount : Room := { frames := 0, cells := 0, slots := 0, locals := 0 }
set_option maxHeartbeats 4000000 in
set_option maxRecDepth 100000 in
/-- how many bits -/
theorem ci_bitCount (l : Launch) (dC : Nat → ClassId) (dI : Nat → Nat → Nat) (cI cZ cO cL : ClassId) (k : Nat) (hk : 1 ≤ k ∧ k ≤ 8) : zz_Mi l ky_I_bitCount kw_I_bitCount rm_ci_bitCount (dC, dI) (zz_ty cI cZ cO cL) [] [.int (nI k)] (fun (r : Int32) (w : va_W) => w = [] ∧ (zi_bc k r)) 0 0 := by
  refine zz_entry_i (cc := kb_I_bitCount) (maxL := 1) (own := zk_RI) (by decide) rfl rfl (Nat.le_of_ble_eq_true rfl) ?_
  intro p e s m args below meth c Q hx hb hml hown hts hin hP hK A hD hA hS hret ls hl
  have hl : lv_has ls 1 [(0, .int (nI k))] := hl
  obtain ⟨H, eH⟩ : ∃ z, z = s.heap := ⟨_, rfl⟩
  obtain ⟨locs, eL⟩ : ∃ z : List Loc, z = [] := ⟨_, rfl⟩
  rw [← eH] at hP ⊢
  have hS : va_S A s.heap H locs := by rw [eH, eL]; exact hS
  rw [← eL]
  refine lv_iload_n hx hb kd_I_bitCount_0 rfl (lv_at hl 0 rfl) ?_
  refine lv_iload_n hx hb kd_I_bitCount_1 rfl (lv_at hl 0 rfl) ?_
  refine lv_iconst (v := nI 1) hx hb kd_I_bitCount_2 (by decide) ?_
  refine lv_iushr hx hb kd_I_bitCount_3 rfl ?_
  refine lv_ldcw hx hb hown (hts _ kj_132) kd_I_bitCount_4 ?_
  refine lv_iand hx hb kd_I_bitCount_7 ?_
  refine lv_isub hx hb kd_I_bitCount_8 ?_
  refine lv_istore_n (lv' := [(0, .int ((nI k) - ((((nI k).toUInt32 >>> ((nI 1).toUInt32 &&& Int32.toUInt32 31)).toInt32) &&& (1431655765 : Int32))))]) hx hb kd_I_bitCount_9 rfl hl (by decide) rfl (fun ls hl => ?_)
  refine lv_iload_n hx hb kd_I_bitCount_10 rfl (lv_at hl 0 rfl) ?_
  refine lv_ldcw hx hb hown (hts _ kj_133) kd_I_bitCount_11 ?_
  refine lv_iand hx hb kd_I_bitCount_14 ?_
  refine lv_iload_n hx hb kd_I_bitCount_15 rfl (lv_at hl 0 rfl) ?_
  refine lv_iconst (v := nI 2) hx hb kd_I_bitCount_16 (by decide) ?_
  refine lv_iushr hx hb kd_I_bitCount_17 rfl ?_
  refine lv_ldcw hx hb hown (hts _ kj_133) kd_I_bitCount_18 ?_
  refine lv_iand hx hb kd_I_bitCount_21 ?_
  refine lv_iadd hx hb kd_I_bitCount_22 ?_
  refine lv_istore_n (lv' := [(0, .int ((((nI k) - ((((nI k).toUInt32 >>> ((nI 1).toUInt32 &&& Int32.toUInt32 31)).toInt32) &&& (1431655765 : Int32))) &&& (858993459 : Int32)) + (((((nI k) - ((((nI k).toUInt32 >>> ((nI 1).toUInt32 &&& Int32.toUInt32 31)).toInt32) &&& (1431655765 : Int32))).toUInt32 >>> ((nI 2).toUInt32 &&& Int32.toUInt32 31)).toInt32) &&& (858993459 : Int32))))]) hx hb kd_I_bitCount_23 rfl hl (by decide) rfl (fun ls hl => ?_)
  refine lv_iload_n hx hb kd_I_bitCount_24 rfl (lv_at hl 0 rfl) ?_
  refine lv_iload_n hx hb kd_I_bitCount_25 rfl (lv_at hl 0 rfl) ?_
  refine lv_iconst (v := nI 4) hx hb kd_I_bitCount_26 (by decide) ?_
  refine lv_iushr hx hb kd_I_bitCount_27 rfl ?_
  refine lv_iadd hx hb kd_I_bitCount_28 ?_
  refine lv_ldcw hx hb hown (hts _ kj_134) kd_I_bitCount_29 ?_
  refine lv_iand hx hb kd_I_bitCount_32 ?_
  refine lv_istore_n (lv' := [(0, .int ((((((nI k) - ((((nI k).toUInt32 >>> ((nI 1).toUInt32 &&& Int32.toUInt32 31)).toInt32) &&& (1431655765 : Int32))) &&& (858993459 : Int32)) + (((((nI k) - ((((nI k).toUInt32 >>> ((nI 1).toUInt32 &&& Int32.toUInt32 31)).toInt32) &&& (1431655765 : Int32))).toUInt32 >>> ((nI 2).toUInt32 &&& Int32.toUInt32 31)).toInt32) &&& (858993459 : Int32))) + ((((((nI k) - ((((nI k).toUInt32 >>> ((nI 1).toUInt32 &&& Int32.toUInt32 31)).toInt32) &&& (1431655765 : Int32))) &&& (858993459 : Int32)) + (((((nI k) - ((((nI k).toUInt32 >>> ((nI 1).toUInt32 &&& Int32.toUInt32 31)).toInt32) &&& (1431655765 : Int32))).toUInt32 >>> ((nI 2).toUInt32 &&& Int32.toUInt32 31)).toInt32) &&& (858993459 : Int32))).toUInt32 >>> ((nI 4).toUInt32 &&& Int32.toUInt32 31)).toInt32)) &&& (252645135 : Int32)))]) hx hb kd_I_bitCount_33 rfl hl (by decide) rfl (fun ls hl => ?_)
  refine lv_iload_n hx hb kd_I_bitCount_34 rfl (lv_at hl 0 rfl) ?_
  refine lv_iload_n hx hb kd_I_bitCount_35 rfl (lv_at hl 0 rfl) ?_
  refine lv_bipush (v := nI 8) hx hb kd_I_bitCount_36 (by decide) ?_
  refine lv_iushr hx hb kd_I_bitCount_38 rfl ?_
  refine lv_iadd hx hb kd_I_bitCount_39 ?_
  refine lv_istore_n (lv' := [(0, .int (((((((nI k) - ((((nI k).toUInt32 >>> ((nI 1).toUInt32 &&& Int32.toUInt32 31)).toInt32) &&& (1431655765 : Int32))) &&& (858993459 : Int32)) + (((((nI k) - ((((nI k).toUInt32 >>> ((nI 1).toUInt32 &&& Int32.toUInt32 31)).toInt32) &&& (1431655765 : Int32))).toUInt32 >>> ((nI 2).toUInt32 &&& Int32.toUInt32 31)).toInt32) &&& (858993459 : Int32))) + ((((((nI k) - ((((nI k).toUInt32 >>> ((nI 1).toUInt32 &&& Int32.toUInt32 31)).toInt32) &&& (1431655765 : Int32))) &&& (858993459 : Int32)) + (((((nI k) - ((((nI k).toUInt32 >>> ((nI 1).toUInt32 &&& Int32.toUInt32 31)).toInt32) &&& (1431655765 : Int32))).toUInt32 >>> ((nI 2).toUInt32 &&& Int32.toUInt32 31)).toInt32) &&& (858993459 : Int32))).toUInt32 >>> ((nI 4).toUInt32 &&& Int32.toUInt32 31)).toInt32)) &&& (252645135 : Int32)) + ((((((((nI k) - ((((nI k).toUInt32 >>> ((nI 1).toUInt32 &&& Int32.toUInt32 31)).toInt32) &&& (1431655765 : Int32))) &&& (858993459 : Int32)) + (((((nI k) - ((((nI k).toUInt32 >>> ((nI 1).toUInt32 &&& Int32.toUInt32 31)).toInt32) &&& (1431655765 : Int32))).toUInt32 >>> ((nI 2).toUInt32 &&& Int32.toUInt32 31)).toInt32) &&& (858993459 : Int32))) + ((((((nI k) - ((((nI k).toUInt32 >>> ((nI 1).toUInt32 &&& Int32.toUInt32 31)).toInt32) &&& (1431655765 : Int32))) &&& (858993459 : Int32)) + (((((nI k) - ((((nI k).toUInt32 >>> ((nI 1).toUInt32 &&& Int32.toUInt32 31)).toInt32) &&& (1431655765 : Int32))).toUInt32 >>> ((nI 2).toUInt32 &&& Int32.toUInt32 31)).toInt32) &&& (858993459 : Int32))).toUInt32 >>> ((nI 4).toUInt32 &&& Int32.toUInt32 31)).toInt32)) &&& (252645135 : Int32)).toUInt32 >>> ((nI 8).toUInt32 &&& Int32.toUInt32 31)).toInt32)))]) hx hb kd_I_bitCount_40 rfl hl (by decide) rfl (fun ls hl => ?_)
  refine lv_iload_n hx hb kd_I_bitCount_41 rfl (lv_at hl 0 rfl) ?_
  refine lv_iload_n hx hb kd_I_bitCount_42 rfl (lv_at hl 0 rfl) ?_
  refine lv_bipush (v := nI 16) hx hb kd_I_bitCount_43 (by decide) ?_
  refine lv_iushr hx hb kd_I_bitCount_45 rfl ?_
  refine lv_iadd hx hb kd_I_bitCount_46 ?_
  refine lv_istore_n (lv' := [(0, .int ((((((((nI k) - ((((nI k).toUInt32 >>> ((nI 1).toUInt32 &&& Int32.toUInt32 31)).toInt32) &&& (1431655765 : Int32))) &&& (858993459 : Int32)) + (((((nI k) - ((((nI k).toUInt32 >>> ((nI 1).toUInt32 &&& Int32.toUInt32 31)).toInt32) &&& (1431655765 : Int32))).toUInt32 >>> ((nI 2).toUInt32 &&& Int32.toUInt32 31)).toInt32) &&& (858993459 : Int32))) + ((((((nI k) - ((((nI k).toUInt32 >>> ((nI 1).toUInt32 &&& Int32.toUInt32 31)).toInt32) &&& (1431655765 : Int32))) &&& (858993459 : Int32)) + (((((nI k) - ((((nI k).toUInt32 >>> ((nI 1).toUInt32 &&& Int32.toUInt32 31)).toInt32) &&& (1431655765 : Int32))).toUInt32 >>> ((nI 2).toUInt32 &&& Int32.toUInt32 31)).toInt32) &&& (858993459 : Int32))).toUInt32 >>> ((nI 4).toUInt32 &&& Int32.toUInt32 31)).toInt32)) &&& (252645135 : Int32)) + ((((((((nI k) - ((((nI k).toUInt32 >>> ((nI 1).toUInt32 &&& Int32.toUInt32 31)).toInt32) &&& (1431655765 : Int32))) &&& (858993459 : Int32)) + (((((nI k) - ((((nI k).toUInt32 >>> ((nI 1).toUInt32 &&& Int32.toUInt32 31)).toInt32) &&& (1431655765 : Int32))).toUInt32 >>> ((nI 2).toUInt32 &&& Int32.toUInt32 31)).toInt32) &&& (858993459 : Int32))) + ((((((nI k) - ((((nI k).toUInt32 >>> ((nI 1).toUInt32 &&& Int32.toUInt32 31)).toInt32) &&& (1431655765 : Int32))) &&& (858993459 : Int32)) + (((((nI k) - ((((nI k).toUInt32 >>> ((nI 1).toUInt32 &&& Int32.toUInt32 31)).toInt32) &&& (1431655765 : Int32))).toUInt32 >>> ((nI 2).toUInt32 &&& Int32.toUInt32 31)).toInt32) &&& (858993459 : Int32))).toUInt32 >>> ((nI 4).toUInt32 &&& Int32.toUInt32 31)).toInt32)) &&& (252645135 : Int32)).toUInt32 >>> ((nI 8).toUInt32 &&& Int32.toUInt32 31)).toInt32)) + (((((((((nI k) - ((((nI k).toUInt32 >>> ((nI 1).toUInt32 &&& Int32.toUInt32 31)).toInt32) &&& (1431655765 : Int32))) &&& (858993459 : Int32)) + (((((nI k) - ((((nI k).toUInt32 >>> ((nI 1).toUInt32 &&& Int32.toUInt32 31)).toInt32) &&& (1431655765 : Int32))).toUInt32 >>> ((nI 2).toUInt32 &&& Int32.toUInt32 31)).toInt32) &&& (858993459 : Int32))) + ((((((nI k) - ((((nI k).toUInt32 >>> ((nI 1).toUInt32 &&& Int32.toUInt32 31)).toInt32) &&& (1431655765 : Int32))) &&& (858993459 : Int32)) + (((((nI k) - ((((nI k).toUInt32 >>> ((nI 1).toUInt32 &&& Int32.toUInt32 31)).toInt32) &&& (1431655765 : Int32))).toUInt32 >>> ((nI 2).toUInt32 &&& Int32.toUInt32 31)).toInt32) &&& (858993459 : Int32))).toUInt32 >>> ((nI 4).toUInt32 &&& Int32.toUInt32 31)).toInt32)) &&& (252645135 : Int32)) + ((((((((nI k) - ((((nI k).toUInt32 >>> ((nI 1).toUInt32 &&& Int32.toUInt32 31)).toInt32) &&& (1431655765 : Int32))) &&& (858993459 : Int32)) + (((((nI k) - ((((nI k).toUInt32 >>> ((nI 1).toUInt32 &&& Int32.toUInt32 31)).toInt32) &&& (1431655765 : Int32))).toUInt32 >>> ((nI 2).toUInt32 &&& Int32.toUInt32 31)).toInt32) &&& (858993459 : Int32))) + ((((((nI k) - ((((nI k).toUInt32 >>> ((nI 1).toUInt32 &&& Int32.toUInt32 31)).toInt32) &&& (1431655765 : Int32))) &&& (858993459 : Int32)) + (((((nI k) - ((((nI k).toUInt32 >>> ((nI 1).toUInt32 &&& Int32.toUInt32 31)).toInt32) &&& (1431655765 : Int32))).toUInt32 >>> ((nI 2).toUInt32 &&& Int32.toUInt32 31)).toInt32) &&& (858993459 : Int32))).toUInt32 >>> ((nI 4).toUInt32 &&& Int32.toUInt32 31)).toInt32)) &&& (252645135 : Int32)).toUInt32 >>> ((nI 8).toUInt32 &&& Int32.toUInt32 31)).toInt32)).toUInt32 >>> ((nI 16).toUInt32 &&& Int32.toUInt32 31)).toInt32)))]) hx hb kd_I_bitCount_47 rfl hl (by decide) rfl (fun ls hl => ?_)
  refine lv_iload_n hx hb kd_I_bitCount_48 rfl (lv_at hl 0 rfl) ?_
  refine lv_bipush (v := nI 63) hx hb kd_I_bitCount_49 (by decide) ?_
  refine lv_iand hx hb kd_I_bitCount_51 ?_
  exact hret _ _ _ _ _ _ kd_I_bitCount_52 hP hD hS (⟨rfl, (by
    rcases (show k = 1 ∨ k = 2 ∨ k = 3 ∨ k = 4 ∨ k = 5 ∨ k = 6 ∨ k = 7 ∨ k = 8 by omega) with rfl | rfl | rfl | rfl | rfl | rfl | rfl | rfl
    · exact Or.inl ⟨by decide, by decide⟩
    · exact Or.inl ⟨by decide, by decide⟩
    · exact Or.inr ⟨by decide, by decide⟩
    · exact Or.inl ⟨by decide, by decide⟩
    · exact Or.inr ⟨by decide, by decide⟩
    · exact Or.inr ⟨by decide, by decide⟩
    · exact Or.inr ⟨by decide, by decide⟩
    · exact Or.inl ⟨by decide, by decide⟩)⟩)

def rm_cy_areBits : Room := { frames := 0, cells := 0, slots := 0, locals := 0 }
set_option maxHeartbeats 4000000 in
set_option maxRecDepth 100000 in
/-- bits are 0 to 6 -/
theorem cy_areBits (l : Launch) (dC : Nat → ClassId) (dI : Nat → Nat → Nat) (cI cZ cO cL : ClassId) (x : Int32)  : zz_Mi l ky_Y_areBits kw_Y_areBits rm_cy_areBits (dC, dI) (zz_ty cI cZ cO cL) [] [.int x] (fun (r : Int32) (w : va_W) => ∃ (h : Nat), w = [] ∧ (r = nI h) ∧ ((h = 1 ∧ ∃ k, k ≤ 6 ∧ x = nI k) ∨ (h = 0 ∧ ∀ k, k ≤ 6 → ¬ x = nI k)) ∧ (h ≤ 1)) 0 0 := by
  refine zz_entry_z (cc := kb_Y_areBits) (maxL := 1) (own := zk_RY) (by decide) rfl rfl (Nat.le_of_ble_eq_true rfl) ?_
  intro p e s m args below meth c Q hx hb hml hown hts hin hP hK A hD hA hS hret ls hl
  have hl : lv_has ls 1 [(0, .int x)] := hl
  obtain ⟨H, eH⟩ : ∃ z, z = s.heap := ⟨_, rfl⟩
  obtain ⟨locs, eL⟩ : ∃ z : List Loc, z = [] := ⟨_, rfl⟩
  rw [← eH] at hP ⊢
  have hS : va_S A s.heap H locs := by rw [eH, eL]; exact hS
  rw [← eL]
  refine lv_iload_n hx hb kd_Y_areBits_0 rfl (lv_at hl 0 rfl) ?_
  refine lv_if_lt (tgt := 14) hx hb kd_Y_areBits_1 (by decide) (fun c1 => ?_) (fun c1 => ?_)
  · skip
    refine lv_iconst (v := nI 0) hx hb kd_Y_areBits_14 (by decide) ?_
    exact hret _ _ _ _ _ _ (Or.inl rfl) kd_Y_areBits_15 hP hD hS (⟨0, rfl, rfl, (by first | exact Or.inl ⟨rfl, by obtain ⟨k, _, k2, e⟩ := zu_rng (lo := 0) (by decide) (by decide) c1 (zu_ngt c7); exact ⟨k, k2, e⟩⟩ | exact Or.inr ⟨rfl, fun k hk => zu_no (lo := 0) (n := 6) (by decide) (by decide) (Or.inr (zu_gtn c7)) k (Nat.zero_le _) hk⟩ | exact Or.inr ⟨rfl, fun k hk => zu_no (lo := 0) (n := 6) (by decide) (by decide) (Or.inl c1) k (Nat.zero_le _) hk⟩), (by omega)⟩)
  · skip
    refine lv_iload_n hx hb kd_Y_areBits_4 rfl (lv_at hl 0 rfl) ?_
    refine lv_bipush (v := nI 6) hx hb kd_Y_areBits_5 (by decide) ?_
    refine lv_icmp_gt (tgt := 14) hx hb kd_Y_areBits_7 (by decide) (fun c7 => ?_) (fun c7 => ?_)
    · skip
      refine lv_iconst (v := nI 0) hx hb kd_Y_areBits_14 (by decide) ?_
      exact hret _ _ _ _ _ _ (Or.inl rfl) kd_Y_areBits_15 hP hD hS (⟨0, rfl, rfl, (by first | exact Or.inl ⟨rfl, by obtain ⟨k, _, k2, e⟩ := zu_rng (lo := 0) (by decide) (by decide) c1 (zu_ngt c7); exact ⟨k, k2, e⟩⟩ | exact Or.inr ⟨rfl, fun k hk => zu_no (lo := 0) (n := 6) (by decide) (by decide) (Or.inr (zu_gtn c7)) k (Nat.zero_le _) hk⟩ | exact Or.inr ⟨rfl, fun k hk => zu_no (lo := 0) (n := 6) (by decide) (by decide) (Or.inl c1) k (Nat.zero_le _) hk⟩), (by omega)⟩)
    · skip
      refine lv_iconst (v := nI 1) hx hb kd_Y_areBits_10 (by decide) ?_
      refine lv_goto (tgt := 15) hx hb kd_Y_areBits_11 (by decide) ?_
      exact hret _ _ _ _ _ _ (Or.inr rfl) kd_Y_areBits_15 hP hD hS (⟨1, rfl, rfl, (by first | exact Or.inl ⟨rfl, by obtain ⟨k, _, k2, e⟩ := zu_rng (lo := 0) (by decide) (by decide) c1 (zu_ngt c7); exact ⟨k, k2, e⟩⟩ | exact Or.inr ⟨rfl, fun k hk => zu_no (lo := 0) (n := 6) (by decide) (by decide) (Or.inr (zu_gtn c7)) k (Nat.zero_le _) hk⟩ | exact Or.inr ⟨rfl, fun k hk => zu_no (lo := 0) (n := 6) (by decide) (by decide) (Or.inl c1) k (Nat.zero_le _) hk⟩), (by omega)⟩)

def rm_cy_require : Room := { frames := 6, cells := 1, slots := 6, locals := 90 }
set_option maxHeartbeats 4000000 in
set_option maxRecDepth 100000 in
/-- lines and bits -/
theorem cy_require (l : Launch) (hst : l.stackTraces = false) (dC : Nat → ClassId) (dI : Nat → Nat → Nat) (cI cZ cO cL : ClassId) (x : Int32) (v : Int32)  : zx_Mv l ky_Y_requireLinesAndBits kw_Y_requireLinesAndBits rm_cy_require (dC, dI) (zz_ty cI cZ cO cL) [] [.int x, .int v] (fun (w : va_W) => ∃ (li : Nat), ∃ (bb : Nat), w = [] ∧ (x = nI li) ∧ (v = nI bb) ∧ (1 ≤ li ∧ li ≤ 64) ∧ (bb ≤ 6)) (fun (E : String) (w : va_W) => w = [] ∧ E = zj_IA ∧ zm_bad x v) 1 6 := by
  refine zx_entry_v (cc := kb_Y_requireLinesAndBits) (maxL := 2) hst (by decide) rfl rfl (Nat.le_of_ble_eq_true rfl) ?_
  intro p e s m args below meth c Q hx hb hml hown hts hin hP hK A hD hA hS hJ hthr hout hret ls hl
  have hl : lv_has ls 2 [(0, .int x), (1, .int v)] := hl
  obtain ⟨H, eH⟩ : ∃ z, z = s.heap := ⟨_, rfl⟩
  obtain ⟨locs, eL⟩ : ∃ z : List Loc, z = [] := ⟨_, rfl⟩
  rw [← eH] at hP ⊢
  have hS : va_S A s.heap H locs := by rw [eH, eL]; exact hS
  rw [← eL]
  refine lv_iload_n hx hb kd_Y_requireLinesAndBits_0 rfl (lv_at hl 0 rfl) ?_
  refine lv_iconst (v := nI 1) hx hb kd_Y_requireLinesAndBits_1 (by decide) ?_
  refine lv_icmp_lt (tgt := 11) hx hb kd_Y_requireLinesAndBits_2 (by decide) (fun c2 => ?_) (fun c2 => ?_)
  · skip
    exact hthr zj_IA "lines are 1 .. 64" 22 132 26 _ _ _ 11 ls _ _ _ (zx_wI hts hJ.1) (hJ.1.2.2.2.1 (132, "lines are 1 .. 64") (List.mem_of_getElem? (i := 12) rfl)) kd_Y_requireLinesAndBits_11 kd_Y_requireLinesAndBits_14 kd_Y_requireLinesAndBits_15 kd_Y_requireLinesAndBits_17 kd_Y_requireLinesAndBits_20 hP hD hS hl.1 (by first | exact ⟨rfl, rfl, Or.inl (zu_no (lo := 1) (n := 64) (by decide) (by decide) (Or.inl c2))⟩ | exact ⟨rfl, rfl, Or.inl (zu_no (lo := 1) (n := 64) (by decide) (by decide) (Or.inr c8))⟩) (by decide) (by decide) (by decide) (by decide) (by decide) (by decide)
  · skip
    refine lv_iload_n hx hb kd_Y_requireLinesAndBits_5 rfl (lv_at hl 0 rfl) ?_
    refine lv_bipush (v := nI 64) hx hb kd_Y_requireLinesAndBits_6 (by decide) ?_
    refine lv_icmp_le (tgt := 21) hx hb kd_Y_requireLinesAndBits_8 (by decide) (fun c8 => ?_) (fun c8 => ?_)
    · skip
      obtain ⟨li, hli1, hli2, rfl⟩ := zu_rng (lo := 1) (by decide) (by decide) c2 c8
      refine lv_iload_n hx hb kd_Y_requireLinesAndBits_21 rfl (lv_at hl 1 rfl) ?_
      refine zz_iS (As := [.int v]) (rest := []) (wc := []) (wr := []) ⟨hx, hb, hml, hown, hts⟩ (cy_areBits l dC dI cI cZ cO cL v ) (zz_cwS hts kj_137 kj_25 kj_135 kj_136 kz_Y_areBits rfl rfl ⟨Nat.le_of_ble_eq_true rfl, Nat.le_of_ble_eq_true rfl⟩) hP hD hK hS hA rfl hl.1 rfl (Nat.le_of_ble_eq_true rfl) kd_Y_requireLinesAndBits_22 ⟨by decide, by decide⟩ (fun r9 w9 H locs hw hP hD hS => ?_)
      obtain ⟨h_1, rfl, rfl, hb22, hb122⟩ := hw
      have hP : va_P (dC, dI) zk_cl [] H := hP
      have hD : va_D A [] := hD
      refine zz_if_ne (tgt := 38) hx hb kd_Y_requireLinesAndBits_25 (by decide) (by omega) (fun c25 => ?_) (fun c25 => ?_)
      · skip
        obtain ⟨bb, hbb, rfl⟩ : ∃ k, k ≤ 6 ∧ v = nI k := by
          rcases hb22 with ⟨_, z⟩ | ⟨z, _⟩
          · exact z
          · omega
        refine W.widen (k := 1) (n := 6) (by decide) (by decide) ?_
        exact hret _ _ _ _ _ kd_Y_requireLinesAndBits_38 hP hD hS (⟨li, bb, rfl, (rfl), (rfl), (by omega), (by omega)⟩)
      · skip
        exact hthr zj_IA "bits are 0 .. 6" 22 47 26 _ _ _ 28 ls _ _ _ (zx_wI hts hJ.1) (hJ.1.2.2.2.1 (47, "bits are 0 .. 6") (List.mem_of_getElem? (i := 5) rfl)) kd_Y_requireLinesAndBits_28 kd_Y_requireLinesAndBits_31 kd_Y_requireLinesAndBits_32 kd_Y_requireLinesAndBits_34 kd_Y_requireLinesAndBits_37 hP hD hS hl.1 (⟨rfl, rfl, Or.inr (by
          rcases hb22 with ⟨z, _⟩ | ⟨_, z⟩
          · omega
          · exact z)⟩) (by decide) (by decide) (by decide) (by decide) (by decide) (by decide)
    · skip
      exact hthr zj_IA "lines are 1 .. 64" 22 132 26 _ _ _ 11 ls _ _ _ (zx_wI hts hJ.1) (hJ.1.2.2.2.1 (132, "lines are 1 .. 64") (List.mem_of_getElem? (i := 12) rfl)) kd_Y_requireLinesAndBits_11 kd_Y_requireLinesAndBits_14 kd_Y_requireLinesAndBits_15 kd_Y_requireLinesAndBits_17 kd_Y_requireLinesAndBits_20 hP hD hS hl.1 (by first | exact ⟨rfl, rfl, Or.inl (zu_no (lo := 1) (n := 64) (by decide) (by decide) (Or.inl c2))⟩ | exact ⟨rfl, rfl, Or.inl (zu_no (lo := 1) (n := 64) (by decide) (by decide) (Or.inr c8))⟩) (by decide) (by decide) (by decide) (by decide) (by decide) (by decide)

def rm_cy_madeCache : Room := { frames := 6, cells := 1, slots := 6, locals := 90 }
set_option maxHeartbeats 4000000 in
set_option maxRecDepth 100000 in
/-- the cache that was made -/
theorem cy_madeCache (l : Launch) (hst : l.stackTraces = false) (dC : Nat → ClassId) (dI : Nat → Nat → Nat) (cI cZ cO cL : ClassId) (y : Nat → Nat) (q : Nat → Nat) (co : Nat → Option Nat) (x : Int32)  : zx_Mr l ky_Y_madeCache kw_Y_madeCache rm_cy_madeCache (dC, dI) (zz_ty cI cZ cO cL) [(y 0, .inr (2, [.ref (y 1), .ref (q 0)])), (y 1, .inl (cO, 4, .inr (.inr (.inr (.inr co)))))] [.ref (y 0), .int x] (fun (r : Nat) (w : va_W) => ∃ (ca : Nat), w = [(y 0, .inr (2, [.ref (y 1), .ref (q 0)])), (y 1, .inl (cO, 4, .inr (.inr (.inr (.inr co)))))] ∧ (ca < 4) ∧ (x = nI ca) ∧ (co ca = some r)) (fun (E : String) (w : va_W) => w = [(y 0, .inr (2, [.ref (y 1), .ref (q 0)])), (y 1, .inl (cO, 4, .inr (.inr (.inr (.inr co)))))] ∧ E = zj_NS ∧ ∀ c, c < 4 → x = nI c → co c = none) 1 6 := by
  refine zx_entry_r (cc := kb_Y_madeCache) (maxL := 3) hst (by decide) rfl rfl (Nat.le_of_ble_eq_true rfl) ?_
  intro p e s m args below meth c Q hx hb hml hown hts hin hP hK A hD hA hS hJ hthr hout hret ls hl
  have hl : lv_has ls 3 [(0, .ref (y 0)), (1, .int x)] := hl
  obtain ⟨H, eH⟩ : ∃ z, z = s.heap := ⟨_, rfl⟩
  obtain ⟨locs, eL⟩ : ∃ z : List Loc, z = [] := ⟨_, rfl⟩
  rw [← eH] at hP ⊢
  have hS : va_S A s.heap H locs := by rw [eH, eL]; exact hS
  rw [← eL]
  refine lv_iload_n hx hb kd_Y_madeCache_0 rfl (lv_at hl 1 rfl) ?_
  refine lv_if_lt (tgt := 9) hx hb kd_Y_madeCache_1 (by decide) (fun c1 => ?_) (fun c1 => ?_)
  · skip
    exact hthr zj_NS "caches are 0 .. 3" 127 24 129 _ _ _ 9 ls _ _ _ (zx_wN hts hJ.1) (hJ.1.2.2.2.1 (24, "caches are 0 .. 3") (List.mem_of_getElem? (i := 0) rfl)) kd_Y_madeCache_9 kd_Y_madeCache_12 kd_Y_madeCache_13 kd_Y_madeCache_15 kd_Y_madeCache_18 hP hD hS hl.1 (by first | exact ⟨rfl, rfl, fun c hc e => absurd e (zu_nol (n := 4) (by decide) (Or.inl c1) c hc)⟩ | exact ⟨rfl, rfl, fun c hc e => absurd e (zu_nol (n := 4) (by decide) (Or.inr c6) c hc)⟩) (by decide) (by decide) (by decide) (by decide) (by decide) (by decide)
  · skip
    refine lv_iload_n hx hb kd_Y_madeCache_4 rfl (lv_at hl 1 rfl) ?_
    refine lv_iconst (v := nI 4) hx hb kd_Y_madeCache_5 (by decide) ?_
    refine lv_icmp_lt (tgt := 19) hx hb kd_Y_madeCache_6 (by decide) (fun c6 => ?_) (fun c6 => ?_)
    · skip
      obtain ⟨c0, hc0, rfl⟩ := zu_rngl (by decide) c1 c6
      refine lv_aload_n hx hb kd_Y_madeCache_19 rfl (lv_at hl 0 rfl) ?_
      refine va_get (D := (dC, dI)) (ci := 2) (v := .ref (y 1)) (C := zk_RY) (T := zk_TY) (N := 2) hx hb hts kl_Y hown hK hP 0 rfl rfl 0 (by decide) (hts _ kj_62) (fun _ h9 => h9) rfl kd_Y_madeCache_20 ?_
      refine lv_iload_n hx hb kd_Y_madeCache_23 rfl (lv_at hl 1 rfl) ?_
      refine zz_aald hx hb hK hP 1 2 rfl rfl (k := c0) (by omega) (by decide) kd_Y_madeCache_24 ?_
      rcases hco : co c0 with _ | a0
      · skip
        refine lv_astore_nN (lv' := [(2, .null), (0, .ref (y 0)), (1, .int (nI c0))]) hx hb kd_Y_madeCache_25 rfl hl (by decide) rfl (fun ls hl => ?_)
        refine lv_aload_nN hx hb kd_Y_madeCache_26 rfl (lv_at hl 0 rfl) ?_
        refine lv_ifnonnullN hx hb kd_Y_madeCache_27 ?_
        exact hthr zj_NS "this cache has not been made" 127 130 129 _ _ _ 30 ls _ _ _ (zx_wN hts hJ.1) (hJ.1.2.2.2.1 (130, "this cache has not been made") (List.mem_of_getElem? (i := 8) rfl)) kd_Y_madeCache_30 kd_Y_madeCache_33 kd_Y_madeCache_34 kd_Y_madeCache_36 kd_Y_madeCache_39 hP hD hS hl.1 (⟨rfl, rfl, fun c hc e => by rw [← (nI_eq (by omega) (by omega)).mp e]; exact hco⟩) (by decide) (by decide) (by decide) (by decide) (by decide) (by decide)
      · skip
        refine lv_astore_n (lv' := [(2, .ref a0), (0, .ref (y 0)), (1, .int (nI c0))]) hx hb kd_Y_madeCache_25 rfl hl (by decide) rfl (fun ls hl => ?_)
        refine lv_aload_n hx hb kd_Y_madeCache_26 rfl (lv_at hl 0 rfl) ?_
        refine lv_ifnonnull (tgt := 40) hx hb kd_Y_madeCache_27 (by decide) ?_
        refine lv_aload_n hx hb kd_Y_madeCache_40 rfl (lv_at hl 0 rfl) ?_
        refine W.widen (k := 1) (n := 6) (by decide) (by decide) ?_
        exact hret _ _ _ _ _ _ kd_Y_madeCache_41 hP hD hS (⟨c0, rfl, (hc0), (rfl), (hco)⟩)
    · skip
      exact hthr zj_NS "caches are 0 .. 3" 127 24 129 _ _ _ 9 ls _ _ _ (zx_wN hts hJ.1) (hJ.1.2.2.2.1 (24, "caches are 0 .. 3") (List.mem_of_getElem? (i := 0) rfl)) kd_Y_madeCache_9 kd_Y_madeCache_12 kd_Y_madeCache_13 kd_Y_madeCache_15 kd_Y_madeCache_18 hP hD hS hl.1 (by first | exact ⟨rfl, rfl, fun c hc e => absurd e (zu_nol (n := 4) (by decide) (Or.inl c1) c hc)⟩ | exact ⟨rfl, rfl, fun c hc e => absurd e (zu_nol (n := 4) (by decide) (Or.inr c6) c hc)⟩) (by decide) (by decide) (by decide) (by decide) (by decide) (by decide)

def rm_cy_init : Room := { frames := 2, cells := 6, slots := 4973, locals := 40 }
set_option maxHeartbeats 4000000 in
set_option maxRecDepth 100000 in
/-- a new yard -/
theorem cy_init (l : Launch) (dC : Nat → ClassId) (dI : Nat → Nat → Nat) (cI cZ cO cL : ClassId) (h : Nat)  : zj_Mv l ky_Y_init kw_Y_init rm_cy_init (dC, dI) (zz_ty cI cZ cO cL) [(h, .inr (2, [.null, .null]))] [.ref h] (fun (w : va_W) => ∃ (y2 : Nat → Nat), ∃ (q2 : Nat → Nat), w = [(y2 0, .inr (2, [.ref (y2 1), .ref (q2 0)])), (y2 1, .inl (cO, 4, .inr (.inr (.inr (.inr (fun _ => none)))))), (q2 0, zr_ob q2 0), (q2 1, .inl (cI, 400, .inl (fun _ => 0))), (q2 2, .inl (cI, 400, .inl (fun _ => 0))), (q2 3, .inl (cI, 4096, .inl (fun _ => 0))), (q2 4, .inl (cI, 64, .inl (fun _ => 0)))] ∧ (y2 0 = h)) 6 4973 := by
  refine zj_entry_v (cc := kb_Y_init) (maxL := 1) (own := zk_RY) (by decide) rfl rfl (Nat.le_of_ble_eq_true rfl) ?_
  intro p e s m args below meth c Q hx hb hml hown hts hin hP hK A hD hA hS hJ hret ls hl
  have hl : lv_has ls 1 [(0, .ref h)] := hl
  obtain ⟨H, eH⟩ : ∃ z, z = s.heap := ⟨_, rfl⟩
  obtain ⟨locs, eL⟩ : ∃ z : List Loc, z = [] := ⟨_, rfl⟩
  rw [← eH] at hP ⊢
  have hS : va_S A s.heap H locs := by rw [eH, eL]; exact hS
  rw [← eL]
  refine lv_aload_n hx hb kd_Y_init_0 rfl (lv_at hl 0 rfl) ?_
  refine W.objInit hx hb hown (hts _ kj_42) (hts _ kj_43) (hts _ kj_44) rfl (by rw [hml]; exact hl.1) rfl kd_Y_init_1 (Nat.le_of_ble_eq_true rfl) (Nat.le_of_ble_eq_true rfl) ?_
  refine W.eq (g2 := F0 m 4 ls []) rfl ?_
  refine lv_aload_n hx hb kd_Y_init_4 rfl (lv_at hl 0 rfl) ?_
  refine lv_iconst (v := nI 4) hx hb kd_Y_init_5 (by decide) ?_
  refine va_newq (N' := 4) (n := nI 4) hx hb hown (hts _ kj_45) hJ.1.2.2.2.2.2.1 hK hP hD hS hA (by decide) rfl (by decide) (by decide) (by decide) kd_Y_init_6 (fun q_1 cA_2 H hK hP hD hS => ?_)
  obtain rfl : cO = cA_2 := zz_KeqO hK 2 4 rfl rfl
  have hK := hK.sub (tys' := zz_ty cI cZ cO cL) [0, 1, 2, 3] rfl
  have hP : va_P (dC, dI) zk_cl [(h, .inr (2, [.null, .null])), (q_1, .inl (cO, 4, .inr (.inr (.inr (.inr (fun _ => none))))))] H := hP
  have hD : va_D A [(h, .inr (2, [.null, .null])), (q_1, .inl (cO, 4, .inr (.inr (.inr (.inr (fun _ => none))))))] := hD
  refine W.widen (k := 1) (n := 4) (by decide) (by decide) ?_
  refine va_putF (D := (dC, dI)) (ci := 2) (v := .ref q_1) (ty := .array (.object "CacheYard$Cache")) (C := zk_RY) (T := zk_TY) (N := 2) hx hb hts kl_Y zk_tY zk_kY zk_nY hown hK hP hD hS 0 rfl rfl 0 (by decide) (hts _ kj_62) (fun _ h9 => h9) rfl hin rfl (by decide +kernel) rfl rfl (Nat.le_of_ble_eq_true rfl) kd_Y_init_9 (fun H locs hP hD hS => ?_)
  have hP : va_P (dC, dI) zk_cl [(h, .inr (2, [.ref q_1, .null])), (q_1, .inl (cO, 4, .inr (.inr (.inr (.inr (fun _ => none))))))] H := hP
  have hD : va_D A [(h, .inr (2, [.ref q_1, .null])), (q_1, .inl (cO, 4, .inr (.inr (.inr (.inr (fun _ => none))))))] := hD
  refine lv_aload_n hx hb kd_Y_init_12 rfl (lv_at hl 0 rfl) ?_
  refine va_new (ci := 1) (fs := [.null, .int (nI 0), .null, .null, .null]) (C := zk_RW) (T := zk_TW) (N := 5) hx hb hts kl_W zk_tW zk_kW hown (hts _ kj_46) (hts _ kj_47) (hts _ kj_26) hK hP hD hS hA rfl (fun j hj => by rcases (show j = 0 ∨ j = 1 ∨ j = 2 ∨ j = 3 ∨ j = 4 by omega) with rfl | rfl | rfl | rfl | rfl <;> rfl) (by decide) (by decide) kd_Y_init_13 (fun q_3 H hP hD hS => ?_)
  have hP : va_P (dC, dI) zk_cl [(h, .inr (2, [.ref q_1, .null])), (q_1, .inl (cO, 4, .inr (.inr (.inr (.inr (fun _ => none)))))), (q_3, .inr (1, [.null, .int (nI 0), .null, .null, .null]))] H := hP
  have hD : va_D A [(h, .inr (2, [.ref q_1, .null])), (q_1, .inl (cO, 4, .inr (.inr (.inr (.inr (fun _ => none)))))), (q_3, .inr (1, [.null, .int (nI 0), .null, .null, .null]))] := hD
  refine W.widen (k := 2) (n := 9) (by decide) (by decide) ?_
  refine lv_dup hx hb kd_Y_init_16 rfl ?_
  refine zz_vIN (As := []) (rest := [.ref q_3, .ref h]) (wc := [(q_3, .inr (1, [.null, .int (nI 0), .null, .null, .null]))]) (wr := [(h, .inr (2, [.ref q_1, .null])), (q_1, .inl (cO, 4, .inr (.inr (.inr (.inr (fun _ => none))))))]) ⟨hx, hb, hml, hown, hts⟩ (cr_init l dC dI cI cZ cO cL q_3 ) ⟨va_cnB 0 hts (zz_gw kj_49) rfl rfl rfl (hJ.1.2.2.2.2.1 (17, ky_W_init) (List.mem_of_getElem? (i := 0) rfl)) (hts _ kj_26) kz_W_init ⟨Nat.le_of_ble_eq_true rfl, Nat.le_of_ble_eq_true rfl⟩, rfl, hts _ kj_48⟩ hP hD hK hS hA rfl hl.1 rfl (Nat.le_of_ble_eq_true rfl) kd_Y_init_17 ⟨by decide, by decide⟩ (fun w9 H locs hw hP hD hS => ?_)
  obtain ⟨qr, rfl, h017⟩ := hw
  have hP : va_P (dC, dI) zk_cl [(h, .inr (2, [.ref q_1, .null])), (q_1, .inl (cO, 4, .inr (.inr (.inr (.inr (fun _ => none)))))), (qr 0, zr_ob qr 0), (qr 1, .inl (cI, 400, .inl (fun _ => 0))), (qr 2, .inl (cI, 400, .inl (fun _ => 0))), (qr 3, .inl (cI, 4096, .inl (fun _ => 0))), (qr 4, .inl (cI, 64, .inl (fun _ => 0)))] H := hP
  have hD : va_D A [(h, .inr (2, [.ref q_1, .null])), (q_1, .inl (cO, 4, .inr (.inr (.inr (.inr (fun _ => none)))))), (qr 0, zr_ob qr 0), (qr 1, .inl (cI, 400, .inl (fun _ => 0))), (qr 2, .inl (cI, 400, .inl (fun _ => 0))), (qr 3, .inl (cI, 4096, .inl (fun _ => 0))), (qr 4, .inl (cI, 64, .inl (fun _ => 0)))] := hD
  rw [← h017]
  refine va_putF (D := (dC, dI)) (ci := 2) (v := .ref (qr 0)) (ty := .object "CacheYard$Row") (C := zk_RY) (T := zk_TY) (N := 2) hx hb hts kl_Y zk_tY zk_kY zk_nY hown hK hP hD hS 0 rfl rfl 1 (by decide) (hts _ kj_63) (fun _ h9 => h9) rfl hin rfl (by decide +kernel) rfl rfl (Nat.le_of_ble_eq_true rfl) kd_Y_init_20 (fun H locs hP hD hS => ?_)
  have hP : va_P (dC, dI) zk_cl [(h, .inr (2, [.ref q_1, .ref (qr 0)])), (q_1, .inl (cO, 4, .inr (.inr (.inr (.inr (fun _ => none)))))), (qr 0, zr_ob qr 0), (qr 1, .inl (cI, 400, .inl (fun _ => 0))), (qr 2, .inl (cI, 400, .inl (fun _ => 0))), (qr 3, .inl (cI, 4096, .inl (fun _ => 0))), (qr 4, .inl (cI, 64, .inl (fun _ => 0)))] H := hP
  have hD : va_D A [(h, .inr (2, [.ref q_1, .ref (qr 0)])), (q_1, .inl (cO, 4, .inr (.inr (.inr (.inr (fun _ => none)))))), (qr 0, zr_ob qr 0), (qr 1, .inl (cI, 400, .inl (fun _ => 0))), (qr 2, .inl (cI, 400, .inl (fun _ => 0))), (qr 3, .inl (cI, 4096, .inl (fun _ => 0))), (qr 4, .inl (cI, 64, .inl (fun _ => 0)))] := hD
  refine W.widen (k := 6) (n := 4973) (by decide) (by decide) ?_
  exact hret _ _ _ _ _ kd_Y_init_23 hP hD hS (⟨zq_l [h, q_1], qr, rfl, (rfl)⟩)
