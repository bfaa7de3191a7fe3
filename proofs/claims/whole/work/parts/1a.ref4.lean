def rm_cm_curve : Room := { frames := 1, cells := 0, slots := 0, locals := 26 }
set_option maxHeartbeats 4000000 in
set_option maxRecDepth 100000 in
/-- the curve -/
theorem cm_curve (l : Launch) (dC : Nat → ClassId) (dI : Nat → Nat → Nat) (cI cZ cO cL : ClassId) (q : Nat → Nat) (th : Nat) (n : Nat) (lc : Nat) (kp : Nat) (ga : Nat → Int32) (gn : Nat → Int32) (gq : Nat → Int32) (ad : Nat → Nat) (x : Int32) (y : Int32) (hn : n ≤ 400) (hga : ∀ j, j < n → ga j = nI (ad j) ∧ ad j < 4096) : zz_Mi l ky_M_curve kw_M_curve rm_cm_curve (dC, dI) (zz_ty cI cZ cO cL) [(q 0, zm_ob q th n lc kp), (q 1, .inl (cI, 400, .inl ga)), (q 16, .inl (cI, 64, .inl gn)), (q 17, .inl (cI, 64, .inl gq))] [.ref (q 0), .int x, .int y] (fun (r : Int32) (w : va_W) => ∃ (t2 : Nat), ∃ (lc2 : Nat), ∃ (gn2 : Nat → Int32), ∃ (gq2 : Nat → Int32), w = [(q 0, zm_ob q t2 n lc2 kp), (q 1, .inl (cI, 400, .inl ga)), (q 16, .inl (cI, 64, .inl gn2)), (q 17, .inl (cI, 64, .inl gq2))] ∧ (zm_cv n ad x y r t2)) 0 0 := by
  refine zz_entry_i (cc := kb_M_curve) (maxL := 5) (own := zk_RM) (by decide) rfl rfl (Nat.le_of_ble_eq_true rfl) ?_
  intro p e s m args below meth c Q hx hb hml hown hts hin hP hK A hD hA hS hret ls hl
  have hl : lv_has ls 5 [(0, .ref (q 0)), (1, .int x), (2, .int y)] := hl
  obtain ⟨H, eH⟩ : ∃ z, z = s.heap := ⟨_, rfl⟩
  obtain ⟨locs, eL⟩ : ∃ z : List Loc, z = [] := ⟨_, rfl⟩
  rw [← eH] at hP ⊢
  have hS : va_S A s.heap H locs := by rw [eH, eL]; exact hS
  rw [← eL]
  refine lv_aload_n hx hb kd_M_curve_0 rfl (lv_at hl 0 rfl) ?_
  refine lv_iload_n hx hb kd_M_curve_1 rfl (lv_at hl 1 rfl) ?_
  refine lv_iconst (v := nI 1) hx hb kd_M_curve_2 (by decide) ?_
  refine lv_bipush (v := nI 64) hx hb kd_M_curve_3 (by decide) ?_
  refine zz_iS (As := [.int x, .int (nI 1), .int (nI 64)]) (rest := [.ref (q 0)]) (wc := []) (wr := [(q 0, zm_ob q th n lc kp), (q 1, .inl (cI, 400, .inl ga)), (q 16, .inl (cI, 64, .inl gn)), (q 17, .inl (cI, 64, .inl gq))]) ⟨hx, hb, hml, hown, hts⟩ (cm_in l dC dI cI cZ cO cL x (nI 1) (nI 64) ) (zz_cwS hts kj_400 kj_27 kj_398 kj_399 kz_M_in rfl rfl ⟨Nat.le_of_ble_eq_true rfl, Nat.le_of_ble_eq_true rfl⟩) hP hD hK hS hA rfl hl.1 rfl (Nat.le_of_ble_eq_true rfl) kd_M_curve_5 ⟨by decide, by decide⟩ (fun r9 w9 H locs hw hP hD hS => ?_)
  obtain ⟨h_1, rfl, rfl, hin5, hb15⟩ := hw
  have hP : va_P (dC, dI) zk_cl [(q 0, zm_ob q th n lc kp), (q 1, .inl (cI, 400, .inl ga)), (q 16, .inl (cI, 64, .inl gn)), (q 17, .inl (cI, 64, .inl gq))] H := hP
  have hD : va_D A [(q 0, zm_ob q th n lc kp), (q 1, .inl (cI, 400, .inl ga)), (q 16, .inl (cI, 64, .inl gn)), (q 17, .inl (cI, 64, .inl gq))] := hD
  refine zz_if_eq (tgt := 21) hx hb kd_M_curve_8 (by decide) (by omega) (fun c8 => ?_) (fun c8 => ?_)
  · skip
    refine lv_iconst (v := nI 1) hx hb kd_M_curve_21 (by decide) ?_
    refine lv_goto (tgt := 26) hx hb kd_M_curve_22 (by decide) ?_
    refine lv_iconst (v := nI 0) hx hb kd_M_curve_26 (by decide) ?_
    refine lv_iconst (v := nI 0) hx hb kd_M_curve_27 (by decide) ?_
    refine zz_iV (As := [.int (nI 1), .int (nI 0), .int (nI 0)]) (rest := []) (wc := [(q 0, zm_ob q th n lc kp)]) (wr := [(q 1, .inl (cI, 400, .inl ga)), (q 16, .inl (cI, 64, .inl gn)), (q 17, .inl (cI, 64, .inl gq))]) ⟨hx, hb, hml, hown, hts⟩ (cm_refuse l dC dI cI cZ cO cL q th n lc kp 1 0 0 (by omega) (by omega) (by omega)) (zz_cwV hts kj_403 kj_27 kj_401 kj_402 kj_13 kz_M_refuse rfl rfl ⟨Nat.le_of_ble_eq_true rfl, Nat.le_of_ble_eq_true rfl⟩) (hP.sub [1, 2, 3, 0] rfl) (hD.sub [1, 2, 3, 0] (by decide) rfl) hK hS hA (q0 := 0) rfl rfl rfl rfl hl.1 rfl (Nat.le_of_ble_eq_true rfl) kd_M_curve_28 ⟨by decide, by decide⟩ (fun r9 w9 H locs hw hP hD hS => ?_)
    obtain ⟨t1, h0, rfl, rfl, hrf28, hh28, hb128⟩ := hw
    have hP : va_P (dC, dI) zk_cl [(q 1, .inl (cI, 400, .inl ga)), (q 16, .inl (cI, 64, .inl gn)), (q 17, .inl (cI, 64, .inl gq)), (q 0, zm_ob q t1 n lc kp)] H := hP
    have hD : va_D A [(q 1, .inl (cI, 400, .inl ga)), (q 16, .inl (cI, 64, .inl gn)), (q 17, .inl (cI, 64, .inl gq)), (q 0, zm_ob q t1 n lc kp)] := hD
    refine zz_if_eq (tgt := 36) hx hb kd_M_curve_31 (by decide) (by omega) (fun c31 => ?_) (fun c31 => ?_)
    · skip
      exact absurd c31 (by unfold zm_rf at hrf28; omega)
    · skip
      refine lv_iconst (v := nI 0) hx hb kd_M_curve_34 (by decide) ?_
      exact hret _ _ _ _ _ _ kd_M_curve_35 (hP.sub [3, 0, 1, 2] rfl) (hD.sub [3, 0, 1, 2] (by decide) rfl) hS (⟨t1, lc, gn, gq, rfl, (Or.inl ⟨by unfold zm_rf at hrf28; omega, by first | exact Or.inl (fun k a b => zm_in0 (by decide) (by decide) hin5 c8 k a b) | exact Or.inr (fun k a => zm_in0 (by decide) (by decide) hin15 c18 k (by omega) a)⟩)⟩)
  · skip
    obtain ⟨li, hli1, hli2, ex⟩ := zm_inN (by decide) (by decide) hin5 c8
    subst ex
    refine lv_iload_n hx hb kd_M_curve_11 rfl (lv_at hl 2 rfl) ?_
    refine lv_iconst (v := nI 0) hx hb kd_M_curve_12 (by decide) ?_
    refine lv_bipush (v := nI 6) hx hb kd_M_curve_13 (by decide) ?_
    refine zz_iS (As := [.int y, .int (nI 0), .int (nI 6)]) (rest := [.ref (q 0)]) (wc := []) (wr := [(q 0, zm_ob q th n lc kp), (q 1, .inl (cI, 400, .inl ga)), (q 16, .inl (cI, 64, .inl gn)), (q 17, .inl (cI, 64, .inl gq))]) ⟨hx, hb, hml, hown, hts⟩ (cm_in l dC dI cI cZ cO cL y (nI 0) (nI 6) ) (zz_cwS hts kj_400 kj_27 kj_398 kj_399 kz_M_in rfl rfl ⟨Nat.le_of_ble_eq_true rfl, Nat.le_of_ble_eq_true rfl⟩) hP hD hK hS hA rfl hl.1 rfl (Nat.le_of_ble_eq_true rfl) kd_M_curve_15 ⟨by decide, by decide⟩ (fun r9 w9 H locs hw hP hD hS => ?_)
    obtain ⟨h_4, rfl, rfl, hin15, hb115⟩ := hw
    have hP : va_P (dC, dI) zk_cl [(q 0, zm_ob q th n lc kp), (q 1, .inl (cI, 400, .inl ga)), (q 16, .inl (cI, 64, .inl gn)), (q 17, .inl (cI, 64, .inl gq))] H := hP
    have hD : va_D A [(q 0, zm_ob q th n lc kp), (q 1, .inl (cI, 400, .inl ga)), (q 16, .inl (cI, 64, .inl gn)), (q 17, .inl (cI, 64, .inl gq))] := hD
    refine zz_if_ne (tgt := 25) hx hb kd_M_curve_18 (by decide) (by omega) (fun c18 => ?_) (fun c18 => ?_)
    · skip
      obtain ⟨bb, hbb1, hbb, ey⟩ := zm_inN (by decide) (by decide) hin15 c18
      subst ey
      refine lv_iconst (v := nI 0) hx hb kd_M_curve_25 (by decide) ?_
      refine lv_iconst (v := nI 0) hx hb kd_M_curve_26 (by decide) ?_
      refine lv_iconst (v := nI 0) hx hb kd_M_curve_27 (by decide) ?_
      refine zz_iV (As := [.int (nI 0), .int (nI 0), .int (nI 0)]) (rest := []) (wc := [(q 0, zm_ob q th n lc kp)]) (wr := [(q 1, .inl (cI, 400, .inl ga)), (q 16, .inl (cI, 64, .inl gn)), (q 17, .inl (cI, 64, .inl gq))]) ⟨hx, hb, hml, hown, hts⟩ (cm_refuse l dC dI cI cZ cO cL q th n lc kp 0 0 0 (by omega) (by omega) (by omega)) (zz_cwV hts kj_403 kj_27 kj_401 kj_402 kj_13 kz_M_refuse rfl rfl ⟨Nat.le_of_ble_eq_true rfl, Nat.le_of_ble_eq_true rfl⟩) (hP.sub [1, 2, 3, 0] rfl) (hD.sub [1, 2, 3, 0] (by decide) rfl) hK hS hA (q0 := 0) rfl rfl rfl rfl hl.1 rfl (Nat.le_of_ble_eq_true rfl) kd_M_curve_28 ⟨by decide, by decide⟩ (fun r9 w9 H locs hw hP hD hS => ?_)
      obtain ⟨t1, h0, rfl, rfl, hrf28, hh28, hb128⟩ := hw
      have hP : va_P (dC, dI) zk_cl [(q 1, .inl (cI, 400, .inl ga)), (q 16, .inl (cI, 64, .inl gn)), (q 17, .inl (cI, 64, .inl gq)), (q 0, zm_ob q t1 n lc kp)] H := hP
      have hD : va_D A [(q 1, .inl (cI, 400, .inl ga)), (q 16, .inl (cI, 64, .inl gn)), (q 17, .inl (cI, 64, .inl gq)), (q 0, zm_ob q t1 n lc kp)] := hD
      refine zz_if_eq (tgt := 36) hx hb kd_M_curve_31 (by decide) (by omega) (fun c31 => ?_) (fun c31 => ?_)
      · skip
        refine lv_aload_n hx hb kd_M_curve_36 rfl (lv_at hl 0 rfl) ?_
        refine lv_iconst (v := nI 0) hx hb kd_M_curve_37 (by decide) ?_
        refine va_put (D := (dC, dI)) (ci := 3) (v := .int (nI 0)) (ty := .int) (C := zk_RM) (T := zk_TM) (N := 22) hx hb hts kl_M zk_tM zk_kM zk_nM hown hK hP hD hS 3 rfl rfl 17 (by decide) (hts _ kj_363) (fun _ h9 => h9) rfl (by decide +kernel) rfl rfl (Nat.le_of_ble_eq_true rfl) kd_M_curve_38 (fun H locs hP hD hS => ?_)
        have hP : va_P (dC, dI) zk_cl [(q 1, .inl (cI, 400, .inl ga)), (q 16, .inl (cI, 64, .inl gn)), (q 17, .inl (cI, 64, .inl gq)), (q 0, zm_ob q t1 n 0 kp)] H := hP
        have hD : va_D A [(q 1, .inl (cI, 400, .inl ga)), (q 16, .inl (cI, 64, .inl gn)), (q 17, .inl (cI, 64, .inl gq)), (q 0, zm_ob q t1 n 0 kp)] := hD
        refine lv_iconst (v := nI 0) hx hb kd_M_curve_41 (by decide) ?_
        refine lv_istore_n (lv' := [(3, .int (nI 0)), (0, .ref (q 0)), (1, .int (nI li)), (2, .int (nI bb))]) hx hb kd_M_curve_42 rfl hl (by decide) rfl (fun ls hl => ?_)
        refine lv_iconst (v := nI 0) hx hb kd_M_curve_43 (by decide) ?_
        refine lv_istore (lv' := [(4, .int (nI 0)), (3, .int (nI 0)), (0, .ref (q 0)), (1, .int (nI li)), (2, .int (nI bb))]) hx hb kd_M_curve_44 hl (by decide) rfl (fun ls hl => ?_)
        have hc46 : ∀ (nn : Nat), ∀ (i : Nat) (cn : Nat) (lc1 : Nat) (M : List (Nat × Nat)) (gn1 : Nat → Int32) (gq1 : Nat → Int32), n - i < nn → (i ≤ n) → (zm_R li (fun i => ad i / 2 ^ bb) i M cn) → (zM_at gn1 gq1 M) → (lc1 = M.length) → ∀ (H : Heap) (locs : List Loc), va_P (dC, dI) zk_cl [(q 0, zm_ob q t1 n lc1 kp), (q 1, .inl (cI, 400, .inl ga)), (q 16, .inl (cI, 64, .inl gn1)), (q 17, .inl (cI, 64, .inl gq1))] H → va_D A [(q 0, zm_ob q t1 n lc1 kp), (q 1, .inl (cI, 400, .inl ga)), (q 16, .inl (cI, 64, .inl gn1)), (q 17, .inl (cI, 64, .inl gq1))] → va_S A s.heap H locs → ∀ ls : Array Slot, lv_has ls 5 [(0, .ref (q 0)), (1, .int (nI li)), (2, .int (nI bb)), (3, .int (nI cn)), (4, .int (nI i))] → W p l e rm_cm_curve s m args below meth c H locs 0 0 Q (F0 m 46 ls []) := by
          intro nn
          induction nn with
          | zero => intro i cn lc1 M gn1 gq1 hm; exact absurd hm (Nat.not_lt_zero _)
          | succ nn ih =>
            intro i cn lc1 M gn1 gq1 hm hi hR hM hlc H locs hP hD hS ls hl
            have hL := zm_R_len hli1 i M cn hR
            have hcn := zm_R_cnt i M cn hR
            refine lv_iload hx hb kd_M_curve_46 (lv_at hl 4 rfl) ?_
            refine lv_aload_n hx hb kd_M_curve_48 rfl (lv_at hl 0 rfl) ?_
            refine va_get (D := (dC, dI)) (ci := 3) (v := .int (nI n)) (C := zk_RM) (T := zk_TM) (N := 22) hx hb hts kl_M hown hK hP 0 rfl rfl 1 (by decide) (hts _ kj_347) (fun _ h9 => h9) rfl kd_M_curve_49 ?_
            refine zz_icmp_ge (tgt := 88) hx hb kd_M_curve_52 (by decide) (by omega) (by omega) (fun c52 => ?_) (fun c52 => ?_)
            · skip
              refine lv_iload_n hx hb kd_M_curve_88 rfl (lv_at hl 3 rfl) ?_
              exact hret _ _ _ _ _ _ kd_M_curve_89 hP hD hS (⟨t1, lc1, gn1, gq1, rfl, (Or.inr ⟨by unfold zm_rf at hrf28; omega, li, bb, cn, M, rfl, rfl, hli1, hli2, hbb, rfl, (show i = n by omega) ▸ hR⟩)⟩)
            · skip
              refine lv_aload_n hx hb kd_M_curve_55 rfl (lv_at hl 0 rfl) ?_
              refine lv_aload_n hx hb kd_M_curve_56 rfl (lv_at hl 0 rfl) ?_
              refine va_get (D := (dC, dI)) (ci := 3) (v := .ref (q 1)) (C := zk_RM) (T := zk_TM) (N := 22) hx hb hts kl_M hown hK hP 0 rfl rfl 2 (by decide) (hts _ kj_348) (fun _ h9 => h9) rfl kd_M_curve_57 ?_
              refine lv_iload hx hb kd_M_curve_60 (lv_at hl 4 rfl) ?_
              refine zz_iald hx hb hK hP 1 0 rfl rfl (k := i) (by omega) (by decide) kd_M_curve_62 ?_
              refine zz_top (y := nI (ad i)) ((hga i c52).1) ?_
              have hbk : (fun i => ad i / 2 ^ bb) i < 4096 := Nat.lt_of_le_of_lt (Nat.div_le_self _ _) (hga i c52).2
              refine lv_iload_n hx hb kd_M_curve_63 rfl (lv_at hl 2 rfl) ?_
              refine lv_ishr hx hb kd_M_curve_64 ?_
              refine zz_top (y := nI (ad i / 2 ^ bb)) (zn_shr (by have := (hga i c52).2; omega) (by omega)) ?_
              refine lv_iload_n hx hb kd_M_curve_65 rfl (lv_at hl 1 rfl) ?_
              refine lv_iload hx hb kd_M_curve_66 (lv_at hl 4 rfl) ?_
              refine zz_iV (As := [.int (nI (ad i / 2 ^ bb)), .int (nI li), .int (nI i)]) (rest := []) (wc := [(q 0, zm_ob q t1 n lc1 kp), (q 16, .inl (cI, 64, .inl gn1)), (q 17, .inl (cI, 64, .inl gq1))]) (wr := [(q 1, .inl (cI, 400, .inl ga))]) ⟨hx, hb, hml, hown, hts⟩ (cm_comes l dC dI cI cZ cO cL q t1 n lc1 kp gn1 gq1 (ad i / 2 ^ bb) li i (by omega) (by omega) (hbk)) (zz_cwV hts kj_454 kj_27 kj_452 kj_453 kj_22 kz_M_comes rfl rfl ⟨Nat.le_of_ble_eq_true rfl, Nat.le_of_ble_eq_true rfl⟩) (hP.sub [1, 0, 2, 3] rfl) (hD.sub [1, 0, 2, 3] (by decide) rfl) hK hS hA (q0 := 0) rfl rfl rfl rfl hl.1 rfl (Nat.le_of_ble_eq_true rfl) kd_M_curve_68 ⟨by decide, by decide⟩ (fun r9 w9 H locs hw hP hD hS => ?_)
              obtain ⟨h1, l1, lc3, rfl, rfl, g168, hb168⟩ := hw
              have hP : va_P (dC, dI) zk_cl [(q 1, .inl (cI, 400, .inl ga)), (q 0, zm_ob q t1 n lc3 kp), (q 16, .inl (cI, 64, .inl (upd gn1 l1 (nI (ad i / 2 ^ bb))))), (q 17, .inl (cI, 64, .inl (upd gq1 l1 (nI i))))] H := hP
              have hD : va_D A [(q 1, .inl (cI, 400, .inl ga)), (q 0, zm_ob q t1 n lc3 kp), (q 16, .inl (cI, 64, .inl (upd gn1 l1 (nI (ad i / 2 ^ bb))))), (q 17, .inl (cI, 64, .inl (upd gq1 l1 (nI i))))] := hD
              have hst := zm_R_s (bk := (fun i => ad i / 2 ^ bb)) hR hM hlc hbk g168
              refine zz_if_eq (tgt := 80) hx hb kd_M_curve_71 (by decide) (by omega) (fun c71 => ?_) (fun c71 => ?_)
              · skip
                refine lv_iload_n hx hb kd_M_curve_80 rfl (lv_at hl 3 rfl) ?_
                refine lv_istore_n (lv' := [(3, .int (nI cn)), (0, .ref (q 0)), (1, .int (nI li)), (2, .int (nI bb)), (4, .int (nI i))]) hx hb kd_M_curve_81 rfl hl (by decide) rfl (fun ls hl => ?_)
                refine lv_iinc (v := nI (i + 1)) (lv' := [(4, .int (nI (i + 1))), (3, .int (nI cn)), (0, .ref (q 0)), (1, .int (nI li)), (2, .int (nI bb))]) hx hb kd_M_curve_82 hl (k := 4) rfl (by first | exact nI_1 _ | (show _ + _ = _; exact nI_1 _)) (by decide) rfl (fun ls hl => ?_)
                refine lv_goto (tgt := 46) hx hb kd_M_curve_85 (by decide) ?_
                exact ih (i + 1) cn lc3 (zm_up M l1 ((fun i => ad i / 2 ^ bb) i, i)) (upd gn1 l1 (nI (ad i / 2 ^ bb))) (upd gq1 l1 (nI i)) (by omega) (by omega) (by first | (have := hst.1; rw [show h1 = 1 by omega] at this; exact this) | (have := hst.1; rw [show h1 = 0 by omega] at this; exact this)) (zM_up hM hbk (by omega) hst.2.2) (hst.2.1) _ _ (hP.sub [1, 0, 2, 3] rfl) (hD.sub [1, 0, 2, 3] (by decide) rfl) hS ls (lv_sub hl [2, 3, 4, 1, 0] rfl)
              · skip
                refine lv_iload_n hx hb kd_M_curve_74 rfl (lv_at hl 3 rfl) ?_
                refine lv_iconst (v := nI 1) hx hb kd_M_curve_75 (by decide) ?_
                refine lv_iadd hx hb kd_M_curve_76 ?_
                refine zz_top (y := nI (cn + 1)) (nI_add _ _) ?_
                refine lv_goto (tgt := 81) hx hb kd_M_curve_77 (by decide) ?_
                refine lv_istore_n (lv' := [(3, .int (nI (cn + 1))), (0, .ref (q 0)), (1, .int (nI li)), (2, .int (nI bb)), (4, .int (nI i))]) hx hb kd_M_curve_81 rfl hl (by decide) rfl (fun ls hl => ?_)
                refine lv_iinc (v := nI (i + 1)) (lv' := [(4, .int (nI (i + 1))), (3, .int (nI (cn + 1))), (0, .ref (q 0)), (1, .int (nI li)), (2, .int (nI bb))]) hx hb kd_M_curve_82 hl (k := 4) rfl (by first | exact nI_1 _ | (show _ + _ = _; exact nI_1 _)) (by decide) rfl (fun ls hl => ?_)
                refine lv_goto (tgt := 46) hx hb kd_M_curve_85 (by decide) ?_
                exact ih (i + 1) (cn + 1) lc3 (zm_up M l1 ((fun i => ad i / 2 ^ bb) i, i)) (upd gn1 l1 (nI (ad i / 2 ^ bb))) (upd gq1 l1 (nI i)) (by omega) (by omega) (by first | (have := hst.1; rw [show h1 = 1 by omega] at this; exact this) | (have := hst.1; rw [show h1 = 0 by omega] at this; exact this)) (zM_up hM hbk (by omega) hst.2.2) (hst.2.1) _ _ (hP.sub [1, 0, 2, 3] rfl) (hD.sub [1, 0, 2, 3] (by decide) rfl) hS ls (lv_sub hl [2, 3, 4, 1, 0] rfl)
        exact hc46 _ 0 0 0 ([]) gn gq (Nat.lt_succ_self _) (by omega) (⟨rfl, rfl⟩) (fun j h => by simp at h) (rfl) _ _ (hP.sub [3, 0, 1, 2] rfl) (hD.sub [3, 0, 1, 2] (by decide) rfl) hS ls (lv_sub hl [2, 3, 4, 1, 0] rfl)
      · skip
        exact absurd c31 (by unfold zm_rf at hrf28; omega)
    · skip
      refine lv_iconst (v := nI 1) hx hb kd_M_curve_21 (by decide) ?_
      refine lv_goto (tgt := 26) hx hb kd_M_curve_22 (by decide) ?_
      refine lv_iconst (v := nI 0) hx hb kd_M_curve_26 (by decide) ?_
      refine lv_iconst (v := nI 0) hx hb kd_M_curve_27 (by decide) ?_
      refine zz_iV (As := [.int (nI 1), .int (nI 0), .int (nI 0)]) (rest := []) (wc := [(q 0, zm_ob q th n lc kp)]) (wr := [(q 1, .inl (cI, 400, .inl ga)), (q 16, .inl (cI, 64, .inl gn)), (q 17, .inl (cI, 64, .inl gq))]) ⟨hx, hb, hml, hown, hts⟩ (cm_refuse l dC dI cI cZ cO cL q th n lc kp 1 0 0 (by omega) (by omega) (by omega)) (zz_cwV hts kj_403 kj_27 kj_401 kj_402 kj_13 kz_M_refuse rfl rfl ⟨Nat.le_of_ble_eq_true rfl, Nat.le_of_ble_eq_true rfl⟩) (hP.sub [1, 2, 3, 0] rfl) (hD.sub [1, 2, 3, 0] (by decide) rfl) hK hS hA (q0 := 0) rfl rfl rfl rfl hl.1 rfl (Nat.le_of_ble_eq_true rfl) kd_M_curve_28 ⟨by decide, by decide⟩ (fun r9 w9 H locs hw hP hD hS => ?_)
      obtain ⟨t1, h0, rfl, rfl, hrf28, hh28, hb128⟩ := hw
      have hP : va_P (dC, dI) zk_cl [(q 1, .inl (cI, 400, .inl ga)), (q 16, .inl (cI, 64, .inl gn)), (q 17, .inl (cI, 64, .inl gq)), (q 0, zm_ob q t1 n lc kp)] H := hP
      have hD : va_D A [(q 1, .inl (cI, 400, .inl ga)), (q 16, .inl (cI, 64, .inl gn)), (q 17, .inl (cI, 64, .inl gq)), (q 0, zm_ob q t1 n lc kp)] := hD
      refine zz_if_eq (tgt := 36) hx hb kd_M_curve_31 (by decide) (by omega) (fun c31 => ?_) (fun c31 => ?_)
      · skip
        exact absurd c31 (by unfold zm_rf at hrf28; omega)
      · skip
        refine lv_iconst (v := nI 0) hx hb kd_M_curve_34 (by decide) ?_
        exact hret _ _ _ _ _ _ kd_M_curve_35 (hP.sub [3, 0, 1, 2] rfl) (hD.sub [3, 0, 1, 2] (by decide) rfl) hS (⟨t1, lc, gn, gq, rfl, (Or.inl ⟨by unfold zm_rf at hrf28; omega, by first | exact Or.inl (fun k a b => zm_in0 (by decide) (by decide) hin5 c8 k a b) | exact Or.inr (fun k a => zm_in0 (by decide) (by decide) hin15 c18 k (by omega) a)⟩)⟩)
