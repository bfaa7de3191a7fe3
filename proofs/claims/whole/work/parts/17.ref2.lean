def rm_cm_victimOf : Room := { frames := 1, cells := 0, slots := 0, locals := 26 }
set_option maxHeartbeats 4000000 in
set_option maxRecDepth 100000 in
/-- the place of the victim -/
theorem cm_victimOf (l : Launch) (dC : Nat → ClassId) (dI : Nat → Nat → Nat) (cI cZ cO cL : ClassId) (q : Nat → Nat) (th : Nat) (n : Nat) (lc : Nat) (kp : Nat) (gw : Nat → Int32) (gk : Nat → Int32) (gl : Nat → Int32) (gc : Nat → Int32) (gp : Nat → Int32) (ca : Nat) (ao : Nat) (wa : Nat) (kd : Nat) (hc : ca < 4) (hw : gw ca = nI wa) (hw8 : 1 ≤ wa ∧ wa ≤ 8) (hkd : gk ca = nI kd) (hk3 : kd ≤ 2) (hat : ao + 8 ≤ 512) : zz_Mi l ky_M_victimOf kw_M_victimOf rm_cm_victimOf (dC, dI) (zz_ty cI cZ cO cL) [(q 0, zm_ob q th n lc kp), (q 4, .inl (cI, 4, .inl gw)), (q 5, .inl (cI, 4, .inl gk)), (q 13, .inl (cI, 512, .inl gl)), (q 14, .inl (cI, 512, .inl gc)), (q 15, .inl (cZ, 512, .inl gp))] [.ref (q 0), .int (nI ca), .int (nI ao)] (fun (r : Int32) (w : va_W) => ∃ (o : Nat), w = [(q 0, zm_ob q th n lc kp), (q 4, .inl (cI, 4, .inl gw)), (q 5, .inl (cI, 4, .inl gk)), (q 13, .inl (cI, 512, .inl gl)), (q 14, .inl (cI, 512, .inl gc)), (q 15, .inl (cZ, 512, .inl gp))] ∧ (r = nI o) ∧ ((kd = 2 ∧ o = zt_pt (zm_tb gp ao) 4 (wa / 2) 1 0) ∨ (kd ≠ 2 ∧ zf_AM (zm_gs kd ao gl gc) wa o))) 0 0 := by
  refine zz_entry_i (cc := kb_M_victimOf) (maxL := 6) (own := zk_RM) (by decide) rfl rfl (Nat.le_of_ble_eq_true rfl) ?_
  intro p e s m args below meth c Q hx hb hml hown hts hin hP hK A hD hA hS hret ls hl
  have hl : lv_has ls 6 [(0, .ref (q 0)), (1, .int (nI ca)), (2, .int (nI ao))] := hl
  obtain ⟨H, eH⟩ : ∃ z, z = s.heap := ⟨_, rfl⟩
  obtain ⟨locs, eL⟩ : ∃ z : List Loc, z = [] := ⟨_, rfl⟩
  rw [← eH] at hP ⊢
  have hS : va_S A s.heap H locs := by rw [eH, eL]; exact hS
  rw [← eL]
  refine lv_aload_n hx hb kd_M_victimOf_0 rfl (lv_at hl 0 rfl) ?_
  refine va_get (D := (dC, dI)) (ci := 3) (v := .ref (q 5)) (C := zk_RM) (T := zk_TM) (N := 22) hx hb hts kl_M hown hK hP 0 rfl rfl 6 (by decide) (hts _ kj_352) (fun _ h9 => h9) rfl kd_M_victimOf_1 ?_
  refine lv_iload_n hx hb kd_M_victimOf_4 rfl (lv_at hl 1 rfl) ?_
  refine zz_iald hx hb hK hP 2 0 rfl rfl (k := ca) (by omega) (by decide) kd_M_victimOf_5 ?_
  refine zz_top (y := nI kd) (hkd) ?_
  refine lv_iconst (v := nI 2) hx hb kd_M_victimOf_6 (by decide) ?_
  refine zz_icmp_ne (tgt := 17) hx hb kd_M_victimOf_7 (by decide) (by omega) (by decide) (fun c7 => ?_) (fun c7 => ?_)
  · skip
    refine lv_iconst (v := nI 0) hx hb kd_M_victimOf_17 (by decide) ?_
    refine lv_istore_n (lv' := [(3, .int (nI 0)), (0, .ref (q 0)), (1, .int (nI ca)), (2, .int (nI ao))]) hx hb kd_M_victimOf_18 rfl hl (by decide) rfl (fun ls hl => ?_)
    refine lv_iconst (v := nI 1) hx hb kd_M_victimOf_19 (by decide) ?_
    refine lv_istore (lv' := [(4, .int (nI 1)), (3, .int (nI 0)), (0, .ref (q 0)), (1, .int (nI ca)), (2, .int (nI ao))]) hx hb kd_M_victimOf_20 hl (by decide) rfl (fun ls hl => ?_)
    have hc22 : ∀ (nn : Nat), ∀ (o : Nat) (k : Nat), wa - k < nn → (1 ≤ k ∧ k ≤ wa) → (zf_AM (zm_gs kd ao gl gc) k o) → ∀ (H : Heap) (locs : List Loc), va_P (dC, dI) zk_cl [(q 0, zm_ob q th n lc kp), (q 4, .inl (cI, 4, .inl gw)), (q 5, .inl (cI, 4, .inl gk)), (q 13, .inl (cI, 512, .inl gl)), (q 14, .inl (cI, 512, .inl gc)), (q 15, .inl (cZ, 512, .inl gp))] H → va_D A [(q 0, zm_ob q th n lc kp), (q 4, .inl (cI, 4, .inl gw)), (q 5, .inl (cI, 4, .inl gk)), (q 13, .inl (cI, 512, .inl gl)), (q 14, .inl (cI, 512, .inl gc)), (q 15, .inl (cZ, 512, .inl gp))] → va_S A s.heap H locs → ∀ ls : Array Slot, lv_has ls 6 [(0, .ref (q 0)), (1, .int (nI ca)), (2, .int (nI ao)), (3, .int (nI o)), (4, .int (nI k))] → W p l e rm_cm_victimOf s m args below meth c H locs 0 0 Q (F0 m 22 ls []) := by
      intro nn
      induction nn with
      | zero => intro o k hm; exact absurd hm (Nat.not_lt_zero _)
      | succ nn ih =>
        intro o k hm hk ham H locs hP hD hS ls hl
        have ho := ham.1
        refine lv_iload hx hb kd_M_victimOf_22 (lv_at hl 4 rfl) ?_
        refine lv_aload_n hx hb kd_M_victimOf_24 rfl (lv_at hl 0 rfl) ?_
        refine va_get (D := (dC, dI)) (ci := 3) (v := .ref (q 4)) (C := zk_RM) (T := zk_TM) (N := 22) hx hb hts kl_M hown hK hP 0 rfl rfl 5 (by decide) (hts _ kj_351) (fun _ h9 => h9) rfl kd_M_victimOf_25 ?_
        refine lv_iload_n hx hb kd_M_victimOf_28 rfl (lv_at hl 1 rfl) ?_
        refine zz_iald hx hb hK hP 1 0 rfl rfl (k := ca) (by omega) (by decide) kd_M_victimOf_29 ?_
        refine zz_top (y := nI wa) (hw) ?_
        refine zz_icmp_ge (tgt := 115) hx hb kd_M_victimOf_30 (by decide) (by omega) (by omega) (fun c30 => ?_) (fun c30 => ?_)
        · skip
          refine lv_iload_n hx hb kd_M_victimOf_115 rfl (lv_at hl 3 rfl) ?_
          exact hret _ _ _ _ _ _ kd_M_victimOf_116 hP hD hS (⟨o, rfl, rfl, (Or.inr ⟨c7, (show k = wa by omega) ▸ ham⟩)⟩)
        · skip
          refine lv_aload_n hx hb kd_M_victimOf_33 rfl (lv_at hl 0 rfl) ?_
          refine va_get (D := (dC, dI)) (ci := 3) (v := .ref (q 5)) (C := zk_RM) (T := zk_TM) (N := 22) hx hb hts kl_M hown hK hP 0 rfl rfl 6 (by decide) (hts _ kj_352) (fun _ h9 => h9) rfl kd_M_victimOf_34 ?_
          refine lv_iload_n hx hb kd_M_victimOf_37 rfl (lv_at hl 1 rfl) ?_
          refine zz_iald hx hb hK hP 2 0 rfl rfl (k := ca) (by omega) (by decide) kd_M_victimOf_38 ?_
          refine zz_top (y := nI kd) (hkd) ?_
          refine zz_if_ne (tgt := 70) hx hb kd_M_victimOf_39 (by decide) (by omega) (fun c39 => ?_) (fun c39 => ?_)
          · skip
            refine lv_aload_n hx hb kd_M_victimOf_70 rfl (lv_at hl 0 rfl) ?_
            refine va_get (D := (dC, dI)) (ci := 3) (v := .ref (q 14)) (C := zk_RM) (T := zk_TM) (N := 22) hx hb hts kl_M hown hK hP 0 rfl rfl 15 (by decide) (hts _ kj_361) (fun _ h9 => h9) rfl kd_M_victimOf_71 ?_
            refine lv_iload_n hx hb kd_M_victimOf_74 rfl (lv_at hl 2 rfl) ?_
            refine lv_iload hx hb kd_M_victimOf_75 (lv_at hl 4 rfl) ?_
            refine lv_iadd hx hb kd_M_victimOf_77 ?_
            refine zz_top (y := nI (ao + k)) (nI_add _ _) ?_
            refine zz_iald hx hb hK hP 4 0 rfl rfl (k := ao + k) (by omega) (by decide) kd_M_victimOf_78 ?_
            refine lv_aload_n hx hb kd_M_victimOf_79 rfl (lv_at hl 0 rfl) ?_
            refine va_get (D := (dC, dI)) (ci := 3) (v := .ref (q 14)) (C := zk_RM) (T := zk_TM) (N := 22) hx hb hts kl_M hown hK hP 0 rfl rfl 15 (by decide) (hts _ kj_361) (fun _ h9 => h9) rfl kd_M_victimOf_80 ?_
            refine lv_iload_n hx hb kd_M_victimOf_83 rfl (lv_at hl 2 rfl) ?_
            refine lv_iload_n hx hb kd_M_victimOf_84 rfl (lv_at hl 3 rfl) ?_
            refine lv_iadd hx hb kd_M_victimOf_85 ?_
            refine zz_top (y := nI (ao + o)) (nI_add _ _) ?_
            refine zz_iald hx hb hK hP 4 0 rfl rfl (k := ao + o) (by omega) (by decide) kd_M_victimOf_86 ?_
            refine lv_icmp_ge (tgt := 94) hx hb kd_M_victimOf_87 (by decide) (fun c87 => ?_) (fun c87 => ?_)
            · skip
              refine lv_iconst (v := nI 0) hx hb kd_M_victimOf_94 (by decide) ?_
              refine lv_istore (lv' := [(5, .int (nI 0)), (0, .ref (q 0)), (1, .int (nI ca)), (2, .int (nI ao)), (3, .int (nI o)), (4, .int (nI k))]) hx hb kd_M_victimOf_95 hl (by decide) rfl (fun ls hl => ?_)
              refine lv_iload hx hb kd_M_victimOf_97 (lv_at hl 0 rfl) ?_
              refine zz_if_eq (tgt := 107) hx hb kd_M_victimOf_99 (by decide) (by decide) (fun _ => ?_) (fun c9 => absurd c9 (by decide))
              refine lv_iload_n hx hb kd_M_victimOf_107 rfl (lv_at hl 4 rfl) ?_
              refine lv_istore_n (lv' := [(3, .int (nI o)), (5, .int (nI 0)), (0, .ref (q 0)), (1, .int (nI ca)), (2, .int (nI ao)), (4, .int (nI k))]) hx hb kd_M_victimOf_108 rfl hl (by decide) rfl (fun ls hl => ?_)
              refine lv_iinc (v := nI (k + 1)) (lv' := [(4, .int (nI (k + 1))), (3, .int (nI o)), (5, .int (nI 0)), (0, .ref (q 0)), (1, .int (nI ca)), (2, .int (nI ao))]) hx hb kd_M_victimOf_109 hl (k := 5) rfl (by first | exact nI_1 _ | (show _ + _ = _; exact nI_1 _)) (by decide) rfl (fun ls hl => ?_)
              refine lv_goto (tgt := 22) hx hb kd_M_victimOf_112 (by decide) ?_
              exact ih o (k + 1) (by omega) (by omega) (by first | (rw [zm_gs0 c39] at ham ⊢; first | exact zf_AM_t ham (zu_nle c59) | exact zf_AM_f ham (zu_nlt c59)) | (rw [zm_gs1 c39] at ham ⊢; first | exact zf_AM_t ham (zu_nle c87) | exact zf_AM_f ham (zu_nlt c87))) _ _ hP hD hS ls (lv_sub hl [3, 4, 5, 1, 0] rfl)
            · skip
              refine lv_iconst (v := nI 1) hx hb kd_M_victimOf_90 (by decide) ?_
              refine lv_goto (tgt := 95) hx hb kd_M_victimOf_91 (by decide) ?_
              refine lv_istore (lv' := [(5, .int (nI 1)), (0, .ref (q 0)), (1, .int (nI ca)), (2, .int (nI ao)), (3, .int (nI o)), (4, .int (nI k))]) hx hb kd_M_victimOf_95 hl (by decide) rfl (fun ls hl => ?_)
              refine lv_iload hx hb kd_M_victimOf_97 (lv_at hl 0 rfl) ?_
              refine zz_if_eq (tgt := 107) hx hb kd_M_victimOf_99 (by decide) (by decide) (fun c9 => absurd c9 (by decide)) (fun _ => ?_)
              refine lv_iload hx hb kd_M_victimOf_102 (lv_at hl 5 rfl) ?_
              refine lv_goto (tgt := 108) hx hb kd_M_victimOf_104 (by decide) ?_
              refine lv_istore_n (lv' := [(3, .int (nI k)), (5, .int (nI 1)), (0, .ref (q 0)), (1, .int (nI ca)), (2, .int (nI ao)), (4, .int (nI k))]) hx hb kd_M_victimOf_108 rfl hl (by decide) rfl (fun ls hl => ?_)
              refine lv_iinc (v := nI (k + 1)) (lv' := [(4, .int (nI (k + 1))), (3, .int (nI k)), (5, .int (nI 1)), (0, .ref (q 0)), (1, .int (nI ca)), (2, .int (nI ao))]) hx hb kd_M_victimOf_109 hl (k := 5) rfl (by first | exact nI_1 _ | (show _ + _ = _; exact nI_1 _)) (by decide) rfl (fun ls hl => ?_)
              refine lv_goto (tgt := 22) hx hb kd_M_victimOf_112 (by decide) ?_
              exact ih k (k + 1) (by omega) (by omega) (by first | (rw [zm_gs0 c39] at ham ⊢; first | exact zf_AM_t ham (zu_nle c59) | exact zf_AM_f ham (zu_nlt c59)) | (rw [zm_gs1 c39] at ham ⊢; first | exact zf_AM_t ham (zu_nle c87) | exact zf_AM_f ham (zu_nlt c87))) _ _ hP hD hS ls (lv_sub hl [3, 4, 5, 1, 0] rfl)
          · skip
            refine lv_aload_n hx hb kd_M_victimOf_42 rfl (lv_at hl 0 rfl) ?_
            refine va_get (D := (dC, dI)) (ci := 3) (v := .ref (q 13)) (C := zk_RM) (T := zk_TM) (N := 22) hx hb hts kl_M hown hK hP 0 rfl rfl 14 (by decide) (hts _ kj_360) (fun _ h9 => h9) rfl kd_M_victimOf_43 ?_
            refine lv_iload_n hx hb kd_M_victimOf_46 rfl (lv_at hl 2 rfl) ?_
            refine lv_iload hx hb kd_M_victimOf_47 (lv_at hl 4 rfl) ?_
            refine lv_iadd hx hb kd_M_victimOf_49 ?_
            refine zz_top (y := nI (ao + k)) (nI_add _ _) ?_
            refine zz_iald hx hb hK hP 3 0 rfl rfl (k := ao + k) (by omega) (by decide) kd_M_victimOf_50 ?_
            refine lv_aload_n hx hb kd_M_victimOf_51 rfl (lv_at hl 0 rfl) ?_
            refine va_get (D := (dC, dI)) (ci := 3) (v := .ref (q 13)) (C := zk_RM) (T := zk_TM) (N := 22) hx hb hts kl_M hown hK hP 0 rfl rfl 14 (by decide) (hts _ kj_360) (fun _ h9 => h9) rfl kd_M_victimOf_52 ?_
            refine lv_iload_n hx hb kd_M_victimOf_55 rfl (lv_at hl 2 rfl) ?_
            refine lv_iload_n hx hb kd_M_victimOf_56 rfl (lv_at hl 3 rfl) ?_
            refine lv_iadd hx hb kd_M_victimOf_57 ?_
            refine zz_top (y := nI (ao + o)) (nI_add _ _) ?_
            refine zz_iald hx hb hK hP 3 0 rfl rfl (k := ao + o) (by omega) (by decide) kd_M_victimOf_58 ?_
            refine lv_icmp_ge (tgt := 66) hx hb kd_M_victimOf_59 (by decide) (fun c59 => ?_) (fun c59 => ?_)
            · skip
              refine lv_iconst (v := nI 0) hx hb kd_M_victimOf_66 (by decide) ?_
              refine lv_goto (tgt := 95) hx hb kd_M_victimOf_67 (by decide) ?_
              refine lv_istore (lv' := [(5, .int (nI 0)), (0, .ref (q 0)), (1, .int (nI ca)), (2, .int (nI ao)), (3, .int (nI o)), (4, .int (nI k))]) hx hb kd_M_victimOf_95 hl (by decide) rfl (fun ls hl => ?_)
              refine lv_iload hx hb kd_M_victimOf_97 (lv_at hl 0 rfl) ?_
              refine zz_if_eq (tgt := 107) hx hb kd_M_victimOf_99 (by decide) (by decide) (fun _ => ?_) (fun c9 => absurd c9 (by decide))
              refine lv_iload_n hx hb kd_M_victimOf_107 rfl (lv_at hl 4 rfl) ?_
              refine lv_istore_n (lv' := [(3, .int (nI o)), (5, .int (nI 0)), (0, .ref (q 0)), (1, .int (nI ca)), (2, .int (nI ao)), (4, .int (nI k))]) hx hb kd_M_victimOf_108 rfl hl (by decide) rfl (fun ls hl => ?_)
              refine lv_iinc (v := nI (k + 1)) (lv' := [(4, .int (nI (k + 1))), (3, .int (nI o)), (5, .int (nI 0)), (0, .ref (q 0)), (1, .int (nI ca)), (2, .int (nI ao))]) hx hb kd_M_victimOf_109 hl (k := 5) rfl (by first | exact nI_1 _ | (show _ + _ = _; exact nI_1 _)) (by decide) rfl (fun ls hl => ?_)
              refine lv_goto (tgt := 22) hx hb kd_M_victimOf_112 (by decide) ?_
              exact ih o (k + 1) (by omega) (by omega) (by first | (rw [zm_gs0 c39] at ham ⊢; first | exact zf_AM_t ham (zu_nle c59) | exact zf_AM_f ham (zu_nlt c59)) | (rw [zm_gs1 c39] at ham ⊢; first | exact zf_AM_t ham (zu_nle c87) | exact zf_AM_f ham (zu_nlt c87))) _ _ hP hD hS ls (lv_sub hl [3, 4, 5, 1, 0] rfl)
            · skip
              refine lv_iconst (v := nI 1) hx hb kd_M_victimOf_62 (by decide) ?_
              refine lv_goto (tgt := 95) hx hb kd_M_victimOf_63 (by decide) ?_
              refine lv_istore (lv' := [(5, .int (nI 1)), (0, .ref (q 0)), (1, .int (nI ca)), (2, .int (nI ao)), (3, .int (nI o)), (4, .int (nI k))]) hx hb kd_M_victimOf_95 hl (by decide) rfl (fun ls hl => ?_)
              refine lv_iload hx hb kd_M_victimOf_97 (lv_at hl 0 rfl) ?_
              refine zz_if_eq (tgt := 107) hx hb kd_M_victimOf_99 (by decide) (by decide) (fun c9 => absurd c9 (by decide)) (fun _ => ?_)
              refine lv_iload hx hb kd_M_victimOf_102 (lv_at hl 5 rfl) ?_
              refine lv_goto (tgt := 108) hx hb kd_M_victimOf_104 (by decide) ?_
              refine lv_istore_n (lv' := [(3, .int (nI k)), (5, .int (nI 1)), (0, .ref (q 0)), (1, .int (nI ca)), (2, .int (nI ao)), (4, .int (nI k))]) hx hb kd_M_victimOf_108 rfl hl (by decide) rfl (fun ls hl => ?_)
              refine lv_iinc (v := nI (k + 1)) (lv' := [(4, .int (nI (k + 1))), (3, .int (nI k)), (5, .int (nI 1)), (0, .ref (q 0)), (1, .int (nI ca)), (2, .int (nI ao))]) hx hb kd_M_victimOf_109 hl (k := 5) rfl (by first | exact nI_1 _ | (show _ + _ = _; exact nI_1 _)) (by decide) rfl (fun ls hl => ?_)
              refine lv_goto (tgt := 22) hx hb kd_M_victimOf_112 (by decide) ?_
              exact ih k (k + 1) (by omega) (by omega) (by first | (rw [zm_gs0 c39] at ham ⊢; first | exact zf_AM_t ham (zu_nle c59) | exact zf_AM_f ham (zu_nlt c59)) | (rw [zm_gs1 c39] at ham ⊢; first | exact zf_AM_t ham (zu_nle c87) | exact zf_AM_f ham (zu_nlt c87))) _ _ hP hD hS ls (lv_sub hl [3, 4, 5, 1, 0] rfl)
    exact hc22 _ 0 1 (Nat.lt_succ_self _) (by omega) (zf_AM_1) _ _ hP hD hS ls (lv_sub hl [2, 3, 4, 1, 0] rfl)
  · skip
    refine lv_aload_n hx hb kd_M_victimOf_10 rfl (lv_at hl 0 rfl) ?_
    refine lv_iload_n hx hb kd_M_victimOf_11 rfl (lv_at hl 1 rfl) ?_
    refine lv_iload_n hx hb kd_M_victimOf_12 rfl (lv_at hl 2 rfl) ?_
    refine zz_iV (As := [.int (nI ca), .int (nI ao)]) (rest := []) (wc := [(q 0, zm_ob q th n lc kp), (q 4, .inl (cI, 4, .inl gw)), (q 15, .inl (cZ, 512, .inl gp))]) (wr := [(q 5, .inl (cI, 4, .inl gk)), (q 13, .inl (cI, 512, .inl gl)), (q 14, .inl (cI, 512, .inl gc))]) ⟨hx, hb, hml, hown, hts⟩ (cm_pointed l dC dI cI cZ cO cL q th n lc kp gw gp ca ao wa (hc) (hw) (hw8.2) (hat)) (zz_cwV hts kj_422 kj_27 kj_420 kj_421 kj_18 kz_M_pointed rfl rfl ⟨Nat.le_of_ble_eq_true rfl, Nat.le_of_ble_eq_true rfl⟩) (hP.sub [2, 3, 4, 0, 1, 5] rfl) (hD.sub [2, 3, 4, 0, 1, 5] (by decide) rfl) hK hS hA (q0 := 0) rfl rfl rfl rfl hl.1 rfl (Nat.le_of_ble_eq_true rfl) kd_M_victimOf_13 ⟨by decide, by decide⟩ (fun r9 w9 H locs hw hP hD hS => ?_)
    obtain ⟨rfl, rfl⟩ := hw
    have hP : va_P (dC, dI) zk_cl [(q 5, .inl (cI, 4, .inl gk)), (q 13, .inl (cI, 512, .inl gl)), (q 14, .inl (cI, 512, .inl gc)), (q 0, zm_ob q th n lc kp), (q 4, .inl (cI, 4, .inl gw)), (q 15, .inl (cZ, 512, .inl gp))] H := hP
    have hD : va_D A [(q 5, .inl (cI, 4, .inl gk)), (q 13, .inl (cI, 512, .inl gl)), (q 14, .inl (cI, 512, .inl gc)), (q 0, zm_ob q th n lc kp), (q 4, .inl (cI, 4, .inl gw)), (q 15, .inl (cZ, 512, .inl gp))] := hD
    exact hret _ _ _ _ _ _ kd_M_victimOf_16 (hP.sub [3, 4, 0, 1, 2, 5] rfl) (hD.sub [3, 4, 0, 1, 2, 5] (by decide) rfl) hS (⟨zt_pt (zm_tb gp ao) 4 (wa / 2) 1 0, rfl, rfl, (Or.inl ⟨c7, rfl⟩)⟩)

def rm_cm_count : Room := { frames := 0, cells := 0, slots := 0, locals := 0 }
set_option maxHeartbeats 4000000 in
set_option maxRecDepth 100000 in
/-- how many blocks, or dirty ones -/
theorem cm_count (l : Launch) (dC : Nat → ClassId) (dI : Nat → Nat → Nat) (cI cZ cO cL : ClassId) (q : Nat → Nat) (th : Nat) (n : Nat) (lc : Nat) (kp : Nat) (gb : Nat → Int32) (gd : Nat → Int32) (ca : Nat) (dz : Nat) (hc : ca < 4) (hdz : dz ≤ 1) : zz_Mi l ky_M_count kw_M_count rm_cm_count (dC, dI) (zz_ty cI cZ cO cL) [(q 0, zm_ob q th n lc kp), (q 11, .inl (cI, 512, .inl gb)), (q 12, .inl (cZ, 512, .inl gd))] [.ref (q 0), .int (nI ca), .int (nI dz)] (fun (r : Int32) (w : va_W) => w = [(q 0, zm_ob q th n lc kp), (q 11, .inl (cI, 512, .inl gb)), (q 12, .inl (cZ, 512, .inl gd))] ∧ (r = nI (zf_ct (zm_cp gb gd (128 * ca) dz) 128))) 0 0 := by
  refine zz_entry_i (cc := kb_M_count) (maxL := 5) (own := zk_RM) (by decide) rfl rfl (Nat.le_of_ble_eq_true rfl) ?_
  intro p e s m args below meth c Q hx hb hml hown hts hin hP hK A hD hA hS hret ls hl
  have hl : lv_has ls 5 [(0, .ref (q 0)), (1, .int (nI ca)), (2, .int (nI dz))] := hl
  obtain ⟨H, eH⟩ : ∃ z, z = s.heap := ⟨_, rfl⟩
  obtain ⟨locs, eL⟩ : ∃ z : List Loc, z = [] := ⟨_, rfl⟩
  rw [← eH] at hP ⊢
  have hS : va_S A s.heap H locs := by rw [eH, eL]; exact hS
  rw [← eL]
  refine lv_iconst (v := nI 0) hx hb kd_M_count_0 (by decide) ?_
  refine lv_istore_n (lv' := [(3, .int (nI 0)), (0, .ref (q 0)), (1, .int (nI ca)), (2, .int (nI dz))]) hx hb kd_M_count_1 rfl hl (by decide) rfl (fun ls hl => ?_)
  refine lv_iconst (v := nI 0) hx hb kd_M_count_2 (by decide) ?_
  refine lv_istore (lv' := [(4, .int (nI 0)), (3, .int (nI 0)), (0, .ref (q 0)), (1, .int (nI ca)), (2, .int (nI dz))]) hx hb kd_M_count_3 hl (by decide) rfl (fun ls hl => ?_)
  have hc5 : ∀ (nn : Nat), ∀ (m0 : Nat) (k : Nat), 128 - k < nn → (k ≤ 128) → (m0 = zf_ct (zm_cp gb gd (128 * ca) dz) k) → ∀ (H : Heap) (locs : List Loc), va_P (dC, dI) zk_cl [(q 0, zm_ob q th n lc kp), (q 11, .inl (cI, 512, .inl gb)), (q 12, .inl (cZ, 512, .inl gd))] H → va_D A [(q 0, zm_ob q th n lc kp), (q 11, .inl (cI, 512, .inl gb)), (q 12, .inl (cZ, 512, .inl gd))] → va_S A s.heap H locs → ∀ ls : Array Slot, lv_has ls 5 [(0, .ref (q 0)), (1, .int (nI ca)), (2, .int (nI dz)), (3, .int (nI m0)), (4, .int (nI k))] → W p l e rm_cm_count s m args below meth c H locs 0 0 Q (F0 m 5 ls []) := by
    intro nn
    induction nn with
    | zero => intro m0 k hm; exact absurd hm (Nat.not_lt_zero _)
    | succ nn ih =>
      intro m0 k hm hk hm0 H locs hP hD hS ls hl
      refine lv_iload hx hb kd_M_count_5 (lv_at hl 4 rfl) ?_
      refine lv_sipush (v := nI 128) hx hb kd_M_count_7 (by decide) ?_
      refine zz_icmp_ge (tgt := 63) hx hb kd_M_count_10 (by decide) (by omega) (by decide) (fun c10 => ?_) (fun c10 => ?_)
      · skip
        refine lv_iload_n hx hb kd_M_count_63 rfl (lv_at hl 3 rfl) ?_
        exact hret _ _ _ _ _ _ kd_M_count_64 hP hD hS (⟨rfl, by rw [hm0, show k = 128 by omega]⟩)
      · skip
        refine lv_aload_n hx hb kd_M_count_13 rfl (lv_at hl 0 rfl) ?_
        refine va_get (D := (dC, dI)) (ci := 3) (v := .ref (q 11)) (C := zk_RM) (T := zk_TM) (N := 22) hx hb hts kl_M hown hK hP 0 rfl rfl 12 (by decide) (hts _ kj_358) (fun _ h9 => h9) rfl kd_M_count_14 ?_
        refine lv_sipush (v := nI 128) hx hb kd_M_count_17 (by decide) ?_
        refine lv_iload_n hx hb kd_M_count_20 rfl (lv_at hl 1 rfl) ?_
        refine lv_imul hx hb kd_M_count_21 ?_
        refine zz_top (y := nI (128 * ca)) (pk_mul _ _) ?_
        refine lv_iload hx hb kd_M_count_22 (lv_at hl 4 rfl) ?_
        refine lv_iadd hx hb kd_M_count_24 ?_
        refine zz_top (y := nI (128 * ca + k)) (nI_add _ _) ?_
        refine zz_iald hx hb hK hP 1 0 rfl rfl (k := 128 * ca + k) (by omega) (by decide) kd_M_count_25 ?_
        refine lv_if_lt (tgt := 55) hx hb kd_M_count_26 (by decide) (fun c26 => ?_) (fun c26 => ?_)
        · skip
          refine lv_iload_n hx hb kd_M_count_55 rfl (lv_at hl 3 rfl) ?_
          refine lv_istore_n (lv' := [(3, .int (nI m0)), (0, .ref (q 0)), (1, .int (nI ca)), (2, .int (nI dz)), (4, .int (nI k))]) hx hb kd_M_count_56 rfl hl (by decide) rfl (fun ls hl => ?_)
          refine lv_iinc (v := nI (k + 1)) (lv' := [(4, .int (nI (k + 1))), (3, .int (nI m0)), (0, .ref (q 0)), (1, .int (nI ca)), (2, .int (nI dz))]) hx hb kd_M_count_57 hl (k := 4) rfl (by first | exact nI_1 _ | (show _ + _ = _; exact nI_1 _)) (by decide) rfl (fun ls hl => ?_)
          refine lv_goto (tgt := 5) hx hb kd_M_count_60 (by decide) ?_
          exact ih m0 (k + 1) (by omega) (by omega) (by first | rw [zf_ct_f (zm_cp_f (Or.inl c26)), hm0] | rw [zf_ct_t (zm_cp_t c26 (Or.inl c30)), hm0] | rw [zf_ct_f (zm_cp_f (Or.inr ⟨c30, c46⟩)), hm0] | rw [zf_ct_t (zm_cp_t c26 (Or.inr c46)), hm0]) _ _ hP hD hS ls (lv_sub hl [2, 3, 4, 1, 0] rfl)
        · skip
          refine lv_iload_n hx hb kd_M_count_29 rfl (lv_at hl 2 rfl) ?_
          refine zz_if_eq (tgt := 49) hx hb kd_M_count_30 (by decide) (by omega) (fun c30 => ?_) (fun c30 => ?_)
          · skip
            refine lv_iload_n hx hb kd_M_count_49 rfl (lv_at hl 3 rfl) ?_
            refine lv_iconst (v := nI 1) hx hb kd_M_count_50 (by decide) ?_
            refine lv_iadd hx hb kd_M_count_51 ?_
            refine zz_top (y := nI (m0 + 1)) (nI_add _ _) ?_
            refine lv_goto (tgt := 56) hx hb kd_M_count_52 (by decide) ?_
            refine lv_istore_n (lv' := [(3, .int (nI (m0 + 1))), (0, .ref (q 0)), (1, .int (nI ca)), (2, .int (nI dz)), (4, .int (nI k))]) hx hb kd_M_count_56 rfl hl (by decide) rfl (fun ls hl => ?_)
            refine lv_iinc (v := nI (k + 1)) (lv' := [(4, .int (nI (k + 1))), (3, .int (nI (m0 + 1))), (0, .ref (q 0)), (1, .int (nI ca)), (2, .int (nI dz))]) hx hb kd_M_count_57 hl (k := 4) rfl (by first | exact nI_1 _ | (show _ + _ = _; exact nI_1 _)) (by decide) rfl (fun ls hl => ?_)
            refine lv_goto (tgt := 5) hx hb kd_M_count_60 (by decide) ?_
            exact ih (m0 + 1) (k + 1) (by omega) (by omega) (by first | rw [zf_ct_f (zm_cp_f (Or.inl c26)), hm0] | rw [zf_ct_t (zm_cp_t c26 (Or.inl c30)), hm0] | rw [zf_ct_f (zm_cp_f (Or.inr ⟨c30, c46⟩)), hm0] | rw [zf_ct_t (zm_cp_t c26 (Or.inr c46)), hm0]) _ _ hP hD hS ls (lv_sub hl [2, 3, 4, 1, 0] rfl)
          · skip
            refine lv_aload_n hx hb kd_M_count_33 rfl (lv_at hl 0 rfl) ?_
            refine va_get (D := (dC, dI)) (ci := 3) (v := .ref (q 12)) (C := zk_RM) (T := zk_TM) (N := 22) hx hb hts kl_M hown hK hP 0 rfl rfl 13 (by decide) (hts _ kj_359) (fun _ h9 => h9) rfl kd_M_count_34 ?_
            refine lv_sipush (v := nI 128) hx hb kd_M_count_37 (by decide) ?_
            refine lv_iload_n hx hb kd_M_count_40 rfl (lv_at hl 1 rfl) ?_
            refine lv_imul hx hb kd_M_count_41 ?_
            refine zz_top (y := nI (128 * ca)) (pk_mul _ _) ?_
            refine lv_iload hx hb kd_M_count_42 (lv_at hl 4 rfl) ?_
            refine lv_iadd hx hb kd_M_count_44 ?_
            refine zz_top (y := nI (128 * ca + k)) (nI_add _ _) ?_
            refine zz_zald hx hb hK hP 2 1 rfl rfl (k := 128 * ca + k) (by omega) (by decide) kd_M_count_45 ?_
            refine lv_if_eq (tgt := 55) hx hb kd_M_count_46 (by decide) (fun c46 => ?_) (fun c46 => ?_)
            · skip
              refine lv_iload_n hx hb kd_M_count_55 rfl (lv_at hl 3 rfl) ?_
              refine lv_istore_n (lv' := [(3, .int (nI m0)), (0, .ref (q 0)), (1, .int (nI ca)), (2, .int (nI dz)), (4, .int (nI k))]) hx hb kd_M_count_56 rfl hl (by decide) rfl (fun ls hl => ?_)
              refine lv_iinc (v := nI (k + 1)) (lv' := [(4, .int (nI (k + 1))), (3, .int (nI m0)), (0, .ref (q 0)), (1, .int (nI ca)), (2, .int (nI dz))]) hx hb kd_M_count_57 hl (k := 4) rfl (by first | exact nI_1 _ | (show _ + _ = _; exact nI_1 _)) (by decide) rfl (fun ls hl => ?_)
              refine lv_goto (tgt := 5) hx hb kd_M_count_60 (by decide) ?_
              exact ih m0 (k + 1) (by omega) (by omega) (by first | rw [zf_ct_f (zm_cp_f (Or.inl c26)), hm0] | rw [zf_ct_t (zm_cp_t c26 (Or.inl c30)), hm0] | rw [zf_ct_f (zm_cp_f (Or.inr ⟨c30, c46⟩)), hm0] | rw [zf_ct_t (zm_cp_t c26 (Or.inr c46)), hm0]) _ _ hP hD hS ls (lv_sub hl [2, 3, 4, 1, 0] rfl)
            · skip
              refine lv_iload_n hx hb kd_M_count_49 rfl (lv_at hl 3 rfl) ?_
              refine lv_iconst (v := nI 1) hx hb kd_M_count_50 (by decide) ?_
              refine lv_iadd hx hb kd_M_count_51 ?_
              refine zz_top (y := nI (m0 + 1)) (nI_add _ _) ?_
              refine lv_goto (tgt := 56) hx hb kd_M_count_52 (by decide) ?_
              refine lv_istore_n (lv' := [(3, .int (nI (m0 + 1))), (0, .ref (q 0)), (1, .int (nI ca)), (2, .int (nI dz)), (4, .int (nI k))]) hx hb kd_M_count_56 rfl hl (by decide) rfl (fun ls hl => ?_)
              refine lv_iinc (v := nI (k + 1)) (lv' := [(4, .int (nI (k + 1))), (3, .int (nI (m0 + 1))), (0, .ref (q 0)), (1, .int (nI ca)), (2, .int (nI dz))]) hx hb kd_M_count_57 hl (k := 4) rfl (by first | exact nI_1 _ | (show _ + _ = _; exact nI_1 _)) (by decide) rfl (fun ls hl => ?_)
              refine lv_goto (tgt := 5) hx hb kd_M_count_60 (by decide) ?_
              exact ih (m0 + 1) (k + 1) (by omega) (by omega) (by first | rw [zf_ct_f (zm_cp_f (Or.inl c26)), hm0] | rw [zf_ct_t (zm_cp_t c26 (Or.inl c30)), hm0] | rw [zf_ct_f (zm_cp_f (Or.inr ⟨c30, c46⟩)), hm0] | rw [zf_ct_t (zm_cp_t c26 (Or.inr c46)), hm0]) _ _ hP hD hS ls (lv_sub hl [2, 3, 4, 1, 0] rfl)
  exact hc5 _ 0 0 (Nat.lt_succ_self _) (by omega) (rfl) _ _ hP hD hS ls (lv_sub hl [2, 3, 4, 1, 0] rfl)

def rm_cm_see : Room := { frames := 2, cells := 0, slots := 0, locals := 51 }
set_option maxHeartbeats 4000000 in
set_option maxRecDepth 100000 in
/-- a cache sees an access -/
theorem cm_see (l : Launch) (dC : Nat → ClassId) (dI : Nat → Nat → Nat) (cI cZ cO cL : ClassId) (q : Nat → Nat) (th : Nat) (n : Nat) (lc : Nat) (kp : Nat) (gsb : Nat → Int32) (gw : Nat → Int32) (gk : Nat → Int32) (gbt : Nat → Int32) (gh : Nat → Int32) (gm : Nat → Int32) (gv : Nat → Int32) (gr : Nat → Int32) (gb : Nat → Int32) (gd : Nat → Int32) (gl : Nat → Int32) (gc : Nat → Int32) (gp : Nat → Int32) (ca : Nat) (ad : Nat) (sb : Nat) (wy : Nat) (kd : Nat) (bb : Nat) (b : Nat) (a : Nat) (ao : Nat) (wr : Int32) (hc : ca < 4) (had : ad < 4096) (hsb : gsb ca = nI sb) (hsb4 : sb ≤ 4) (hw : gw ca = nI wy) (hwy : 1 ≤ wy ∧ wy ≤ 8) (hkd : gk ca = nI kd) (hk3 : kd ≤ 2) (hk2 : kd = 2 → wy = 1 ∨ wy = 2 ∨ wy = 4 ∨ wy = 8) (hbt : gbt ca = nI bb) (hbb : bb ≤ 6) (hbit : ∀ j, j < 512 → gd j = 0 ∨ gd j = 1) (hb1 : ad / 2 ^ bb = b) (ha1 : b % 2 ^ sb = a) (ha2 : 128 * ca + 8 * a = ao) (hb2 : b < 4096) : zz_Mi l ky_M_see kw_M_see rm_cm_see (dC, dI) (zz_ty cI cZ cO cL) [(q 0, zm_ob q th n lc kp), (q 3, .inl (cI, 4, .inl gsb)), (q 4, .inl (cI, 4, .inl gw)), (q 5, .inl (cI, 4, .inl gk)), (q 6, .inl (cI, 4, .inl gbt)), (q 7, .inl (cI, 4, .inl gh)), (q 8, .inl (cI, 4, .inl gm)), (q 9, .inl (cI, 4, .inl gv)), (q 10, .inl (cI, 4, .inl gr)), (q 11, .inl (cI, 512, .inl gb)), (q 12, .inl (cZ, 512, .inl gd)), (q 13, .inl (cI, 512, .inl gl)), (q 14, .inl (cI, 512, .inl gc)), (q 15, .inl (cZ, 512, .inl gp))] [.ref (q 0), .int (nI ca), .int (nI ad), .int wr] (fun (r : Int32) (w : va_W) => ∃ (h : Nat), ∃ (pl : Nat), ∃ (gh2 : Nat → Int32), ∃ (gm2 : Nat → Int32), ∃ (gv2 : Nat → Int32), ∃ (gr2 : Nat → Int32), ∃ (gb2 : Nat → Int32), ∃ (gd2 : Nat → Int32), ∃ (gc2 : Nat → Int32), ∃ (gp2 : Nat → Int32), w = [(q 0, zm_ob q th n lc kp), (q 3, .inl (cI, 4, .inl gsb)), (q 4, .inl (cI, 4, .inl gw)), (q 5, .inl (cI, 4, .inl gk)), (q 6, .inl (cI, 4, .inl gbt)), (q 7, .inl (cI, 4, .inl gh2)), (q 8, .inl (cI, 4, .inl gm2)), (q 9, .inl (cI, 4, .inl gv2)), (q 10, .inl (cI, 4, .inl gr2)), (q 11, .inl (cI, 512, .inl gb2)), (q 12, .inl (cZ, 512, .inl gd2)), (q 13, .inl (cI, 512, .inl (upd gl (ao + pl) (nI n)))), (q 14, .inl (cI, 512, .inl gc2)), (q 15, .inl (cZ, 512, .inl gp2))] ∧ (r = nI h) ∧ (pl < wy) ∧ ((h = 1 ∧ zf_FP (fun k => gb (ao + k)) wy (nI b) (nI pl) ∧ gh2 = upd gh ca (gh ca + 1) ∧ gm2 = gm ∧ gv2 = gv ∧ gr2 = gr ∧ gb2 = gb ∧ gc2 = gc) ∨ (h = 0 ∧ zf_FP (fun k => gb (ao + k)) wy (nI b) (-1) ∧ zc_bi wy kd (fun k => gb (ao + k)) (zm_gs kd ao gl gc) (fun k => gd (ao + k)) (zm_tb gp ao) pl (gv ca) (gr ca) (gv2 ca) (gr2 ca) ∧ (∀ j, j ≠ ca → gv2 j = gv j ∧ gr2 j = gr j) ∧ gh2 = gh ∧ gm2 = upd gm ca (gm ca + 1) ∧ gb2 = upd gb (ao + pl) (nI b) ∧ gc2 = upd gc (ao + pl) (nI n))) ∧ ((∀ j, j ≠ ao + pl → gd2 j = gd j) ∧ gd2 (ao + pl) = if wr = 0 then (if h = 1 then gd (ao + pl) else 0) else 1) ∧ (zm_tb gp2 ao = zt_mt pl 4 (wy / 2) 1 0 (zm_tb gp ao)) ∧ (∀ j, (j < ao ∨ ao + 8 ≤ j) → gp2 j = gp j) ∧ (h ≤ 1)) 0 0 := by
  refine zz_entry_z (cc := kb_M_see) (maxL := 8) (own := zk_RM) (by decide) rfl rfl (Nat.le_of_ble_eq_true rfl) ?_
  intro p e s m args below meth c Q hx hb hml hown hts hin hP hK A hD hA hS hret ls hl
  have hl : lv_has ls 8 [(0, .ref (q 0)), (1, .int (nI ca)), (2, .int (nI ad)), (3, .int wr)] := hl
  obtain ⟨H, eH⟩ : ∃ z, z = s.heap := ⟨_, rfl⟩
  obtain ⟨locs, eL⟩ : ∃ z : List Loc, z = [] := ⟨_, rfl⟩
  rw [← eH] at hP ⊢
  have hS : va_S A s.heap H locs := by rw [eH, eL]; exact hS
  rw [← eL]
  have ha : a < 16 := by rw [← ha1]; exact zu_set hsb4
  have hao : ao + 8 ≤ 512 := by omega
  refine lv_iload_n hx hb kd_M_see_0 rfl (lv_at hl 2 rfl) ?_
  refine lv_aload_n hx hb kd_M_see_1 rfl (lv_at hl 0 rfl) ?_
  refine va_get (D := (dC, dI)) (ci := 3) (v := .ref (q 6)) (C := zk_RM) (T := zk_TM) (N := 22) hx hb hts kl_M hown hK hP 0 rfl rfl 7 (by decide) (hts _ kj_353) (fun _ h9 => h9) rfl kd_M_see_2 ?_
  refine lv_iload_n hx hb kd_M_see_5 rfl (lv_at hl 1 rfl) ?_
  refine zz_iald hx hb hK hP 4 0 rfl rfl (k := ca) (by omega) (by decide) kd_M_see_6 ?_
  refine zz_top (y := nI bb) (hbt) ?_
  refine lv_ishr hx hb kd_M_see_7 ?_
  refine zz_top (y := nI b) ((zn_shr (by omega) (by omega)).trans (by rw [hb1])) ?_
  refine lv_istore (lv' := [(4, .int (nI b)), (0, .ref (q 0)), (1, .int (nI ca)), (2, .int (nI ad)), (3, .int wr)]) hx hb kd_M_see_8 hl (by decide) rfl (fun ls hl => ?_)
  refine lv_sipush (v := nI 128) hx hb kd_M_see_10 (by decide) ?_
  refine lv_iload_n hx hb kd_M_see_13 rfl (lv_at hl 2 rfl) ?_
  refine lv_imul hx hb kd_M_see_14 ?_
  refine zz_top (y := nI (128 * ca)) (pk_mul _ _) ?_
  refine lv_bipush (v := nI 8) hx hb kd_M_see_15 (by decide) ?_
  refine lv_iload hx hb kd_M_see_17 (lv_at hl 0 rfl) ?_
  refine lv_iconst (v := nI 1) hx hb kd_M_see_19 (by decide) ?_
  refine lv_aload_n hx hb kd_M_see_20 rfl (lv_at hl 1 rfl) ?_
  refine va_get (D := (dC, dI)) (ci := 3) (v := .ref (q 3)) (C := zk_RM) (T := zk_TM) (N := 22) hx hb hts kl_M hown hK hP 0 rfl rfl 4 (by decide) (hts _ kj_350) (fun _ h9 => h9) rfl kd_M_see_21 ?_
  refine lv_iload_n hx hb kd_M_see_24 rfl (lv_at hl 2 rfl) ?_
  refine zz_iald hx hb hK hP 1 0 rfl rfl (k := ca) (by omega) (by decide) kd_M_see_25 ?_
  refine zz_top (y := nI sb) (hsb) ?_
  refine lv_ishl hx hb kd_M_see_26 ?_
  refine zz_top (y := nI (2 ^ sb)) (zn_shl1 (by omega)) ?_
  refine lv_iconst (v := nI 1) hx hb kd_M_see_27 (by decide) ?_
  refine lv_isub hx hb kd_M_see_28 ?_
  refine zz_top (y := nI (2 ^ sb - 1)) (pk_sub Nat.one_le_two_pow) ?_
  refine lv_iand hx hb kd_M_see_29 ?_
  refine zz_top (y := nI a) ((zn_mask (by omega) (by omega)).trans (by rw [ha1])) ?_
  refine lv_imul hx hb kd_M_see_30 ?_
  refine zz_top (y := nI (8 * a)) (pk_mul _ _) ?_
  refine lv_iadd hx hb kd_M_see_31 ?_
  refine zz_top (y := nI ao) ((nI_add _ _).trans (by rw [ha2])) ?_
  refine lv_istore (lv' := [(5, .int (nI ao)), (4, .int (nI b)), (0, .ref (q 0)), (1, .int (nI ca)), (2, .int (nI ad)), (3, .int wr)]) hx hb kd_M_see_32 hl (by decide) rfl (fun ls hl => ?_)
  refine lv_aload_n hx hb kd_M_see_34 rfl (lv_at hl 2 rfl) ?_
  refine lv_iload_n hx hb kd_M_see_35 rfl (lv_at hl 3 rfl) ?_
  refine lv_iload hx hb kd_M_see_36 (lv_at hl 0 rfl) ?_
  refine lv_iload hx hb kd_M_see_38 (lv_at hl 1 rfl) ?_
  refine zz_iV (As := [.int (nI ca), .int (nI ao), .int (nI b)]) (rest := []) (wc := [(q 0, zm_ob q th n lc kp), (q 4, .inl (cI, 4, .inl gw)), (q 11, .inl (cI, 512, .inl gb))]) (wr := [(q 3, .inl (cI, 4, .inl gsb)), (q 5, .inl (cI, 4, .inl gk)), (q 6, .inl (cI, 4, .inl gbt)), (q 7, .inl (cI, 4, .inl gh)), (q 8, .inl (cI, 4, .inl gm)), (q 9, .inl (cI, 4, .inl gv)), (q 10, .inl (cI, 4, .inl gr)), (q 12, .inl (cZ, 512, .inl gd)), (q 13, .inl (cI, 512, .inl gl)), (q 14, .inl (cI, 512, .inl gc)), (q 15, .inl (cZ, 512, .inl gp))]) ⟨hx, hb, hml, hown, hts⟩ (cm_placeOf l dC dI cI cZ cO cL q th n lc kp gw gb ca ao wy (nI b) (by omega) (hw) (by omega) (by omega)) (zz_cwV hts kj_416 kj_27 kj_414 kj_415 kj_16 kz_M_placeOf rfl rfl ⟨Nat.le_of_ble_eq_true rfl, Nat.le_of_ble_eq_true rfl⟩) (hP.sub [1, 3, 4, 5, 6, 7, 8, 10, 11, 12, 13, 0, 2, 9] rfl) (hD.sub [1, 3, 4, 5, 6, 7, 8, 10, 11, 12, 13, 0, 2, 9] (by decide) rfl) hK hS hA (q0 := 0) rfl rfl rfl rfl hl.1 rfl (Nat.le_of_ble_eq_true rfl) kd_M_see_40 ⟨by decide, by decide⟩ (fun r9 w9 H locs hw hP hD hS => ?_)
  generalize r9 = r0 at hw ⊢
  obtain ⟨rfl, fp40⟩ := hw
  have hP : va_P (dC, dI) zk_cl [(q 3, .inl (cI, 4, .inl gsb)), (q 5, .inl (cI, 4, .inl gk)), (q 6, .inl (cI, 4, .inl gbt)), (q 7, .inl (cI, 4, .inl gh)), (q 8, .inl (cI, 4, .inl gm)), (q 9, .inl (cI, 4, .inl gv)), (q 10, .inl (cI, 4, .inl gr)), (q 12, .inl (cZ, 512, .inl gd)), (q 13, .inl (cI, 512, .inl gl)), (q 14, .inl (cI, 512, .inl gc)), (q 15, .inl (cZ, 512, .inl gp)), (q 0, zm_ob q th n lc kp), (q 4, .inl (cI, 4, .inl gw)), (q 11, .inl (cI, 512, .inl gb))] H := hP
  have hD : va_D A [(q 3, .inl (cI, 4, .inl gsb)), (q 5, .inl (cI, 4, .inl gk)), (q 6, .inl (cI, 4, .inl gbt)), (q 7, .inl (cI, 4, .inl gh)), (q 8, .inl (cI, 4, .inl gm)), (q 9, .inl (cI, 4, .inl gv)), (q 10, .inl (cI, 4, .inl gr)), (q 12, .inl (cZ, 512, .inl gd)), (q 13, .inl (cI, 512, .inl gl)), (q 14, .inl (cI, 512, .inl gc)), (q 15, .inl (cZ, 512, .inl gp)), (q 0, zm_ob q th n lc kp), (q 4, .inl (cI, 4, .inl gw)), (q 11, .inl (cI, 512, .inl gb))] := hD
  refine lv_istore (lv' := [(6, .int r0), (5, .int (nI ao)), (4, .int (nI b)), (0, .ref (q 0)), (1, .int (nI ca)), (2, .int (nI ad)), (3, .int wr)]) hx hb kd_M_see_43 hl (by decide) rfl (fun ls hl => ?_)
  have hc192 : ∀ (h : Nat) (pl : Nat) (gh1 : Nat → Int32) (gm1 : Nat → Int32) (gv1 : Nat → Int32) (gr1 : Nat → Int32) (gb1 : Nat → Int32) (gd1 : Nat → Int32) (gc1 : Nat → Int32), (pl < wy) → ((h = 1 ∧ zf_FP (fun k => gb (ao + k)) wy (nI b) (nI pl) ∧ gh1 = upd gh ca (gh ca + 1) ∧ gm1 = gm ∧ gv1 = gv ∧ gr1 = gr ∧ gb1 = gb ∧ gc1 = gc) ∨ (h = 0 ∧ zf_FP (fun k => gb (ao + k)) wy (nI b) (-1) ∧ zc_bi wy kd (fun k => gb (ao + k)) (zm_gs kd ao gl gc) (fun k => gd (ao + k)) (zm_tb gp ao) pl (gv ca) (gr ca) (gv1 ca) (gr1 ca) ∧ (∀ j, j ≠ ca → gv1 j = gv j ∧ gr1 j = gr j) ∧ gh1 = gh ∧ gm1 = upd gm ca (gm ca + 1) ∧ gb1 = upd gb (ao + pl) (nI b) ∧ gc1 = upd gc (ao + pl) (nI n))) → ((∀ j, j ≠ ao + pl → gd1 j = gd j) ∧ gd1 (ao + pl) = if h = 1 then gd (ao + pl) else 0) → ∀ (H : Heap) (locs : List Loc), va_P (dC, dI) zk_cl [(q 0, zm_ob q th n lc kp), (q 3, .inl (cI, 4, .inl gsb)), (q 4, .inl (cI, 4, .inl gw)), (q 5, .inl (cI, 4, .inl gk)), (q 6, .inl (cI, 4, .inl gbt)), (q 7, .inl (cI, 4, .inl gh1)), (q 8, .inl (cI, 4, .inl gm1)), (q 9, .inl (cI, 4, .inl gv1)), (q 10, .inl (cI, 4, .inl gr1)), (q 11, .inl (cI, 512, .inl gb1)), (q 12, .inl (cZ, 512, .inl gd1)), (q 13, .inl (cI, 512, .inl gl)), (q 14, .inl (cI, 512, .inl gc1)), (q 15, .inl (cZ, 512, .inl gp))] H → va_D A [(q 0, zm_ob q th n lc kp), (q 3, .inl (cI, 4, .inl gsb)), (q 4, .inl (cI, 4, .inl gw)), (q 5, .inl (cI, 4, .inl gk)), (q 6, .inl (cI, 4, .inl gbt)), (q 7, .inl (cI, 4, .inl gh1)), (q 8, .inl (cI, 4, .inl gm1)), (q 9, .inl (cI, 4, .inl gv1)), (q 10, .inl (cI, 4, .inl gr1)), (q 11, .inl (cI, 512, .inl gb1)), (q 12, .inl (cZ, 512, .inl gd1)), (q 13, .inl (cI, 512, .inl gl)), (q 14, .inl (cI, 512, .inl gc1)), (q 15, .inl (cZ, 512, .inl gp))] → va_S A s.heap H locs → ∀ ls : Array Slot, lv_has ls 8 [(0, .ref (q 0)), (1, .int (nI ca)), (3, .int wr), (5, .int (nI ao)), (6, .int (nI pl)), (7, .int (nI h))] → W p l e rm_cm_see s m args below meth c H locs 0 0 Q (F0 m 192 ls []) := by
    intro h pl gh1 gm1 gv1 gr1 gb1 gd1 gc1 hpl hc1 hd1 H locs hP hD hS ls hl
    have hh : h ≤ 1 := by rcases hc1 with ⟨z, _⟩ | ⟨z, _⟩ <;> omega
    have hb1d : gd1 (ao + pl) = 0 ∨ gd1 (ao + pl) = 1 := by
      rw [hd1.2]
      split
      · exact hbit _ (by omega)
      · exact Or.inl rfl
    refine lv_aload_n hx hb kd_M_see_192 rfl (lv_at hl 0 rfl) ?_
    refine va_get (D := (dC, dI)) (ci := 3) (v := .ref (q 13)) (C := zk_RM) (T := zk_TM) (N := 22) hx hb hts kl_M hown hK hP 0 rfl rfl 14 (by decide) (hts _ kj_360) (fun _ h9 => h9) rfl kd_M_see_193 ?_
    refine lv_iload hx hb kd_M_see_196 (lv_at hl 3 rfl) ?_
    refine lv_iload hx hb kd_M_see_198 (lv_at hl 4 rfl) ?_
    refine lv_iadd hx hb kd_M_see_200 ?_
    refine zz_top (y := nI (ao + pl)) (nI_add _ _) ?_
    refine lv_aload_n hx hb kd_M_see_201 rfl (lv_at hl 0 rfl) ?_
    refine va_get (D := (dC, dI)) (ci := 3) (v := .int (nI n)) (C := zk_RM) (T := zk_TM) (N := 22) hx hb hts kl_M hown hK hP 0 rfl rfl 1 (by decide) (hts _ kj_347) (fun _ h9 => h9) rfl kd_M_see_202 ?_
    refine zz_iast hx hb hK hP hD hS 11 0 rfl rfl (k := ao + pl) (by omega) (by decide) kd_M_see_205 (fun H locs hP hD hS => ?_)
    have hP : va_P (dC, dI) zk_cl [(q 0, zm_ob q th n lc kp), (q 3, .inl (cI, 4, .inl gsb)), (q 4, .inl (cI, 4, .inl gw)), (q 5, .inl (cI, 4, .inl gk)), (q 6, .inl (cI, 4, .inl gbt)), (q 7, .inl (cI, 4, .inl gh1)), (q 8, .inl (cI, 4, .inl gm1)), (q 9, .inl (cI, 4, .inl gv1)), (q 10, .inl (cI, 4, .inl gr1)), (q 11, .inl (cI, 512, .inl gb1)), (q 12, .inl (cZ, 512, .inl gd1)), (q 13, .inl (cI, 512, .inl (upd gl (ao + pl) (nI n)))), (q 14, .inl (cI, 512, .inl gc1)), (q 15, .inl (cZ, 512, .inl gp))] H := hP
    have hD : va_D A [(q 0, zm_ob q th n lc kp), (q 3, .inl (cI, 4, .inl gsb)), (q 4, .inl (cI, 4, .inl gw)), (q 5, .inl (cI, 4, .inl gk)), (q 6, .inl (cI, 4, .inl gbt)), (q 7, .inl (cI, 4, .inl gh1)), (q 8, .inl (cI, 4, .inl gm1)), (q 9, .inl (cI, 4, .inl gv1)), (q 10, .inl (cI, 4, .inl gr1)), (q 11, .inl (cI, 512, .inl gb1)), (q 12, .inl (cZ, 512, .inl gd1)), (q 13, .inl (cI, 512, .inl (upd gl (ao + pl) (nI n)))), (q 14, .inl (cI, 512, .inl gc1)), (q 15, .inl (cZ, 512, .inl gp))] := hD
    have hc238 : ∀ (gd2 : Nat → Int32), ((∀ j, j ≠ ao + pl → gd2 j = gd j) ∧ gd2 (ao + pl) = if wr = 0 then (if h = 1 then gd (ao + pl) else 0) else 1) → ∀ (H : Heap) (locs : List Loc), va_P (dC, dI) zk_cl [(q 0, zm_ob q th n lc kp), (q 3, .inl (cI, 4, .inl gsb)), (q 4, .inl (cI, 4, .inl gw)), (q 5, .inl (cI, 4, .inl gk)), (q 6, .inl (cI, 4, .inl gbt)), (q 7, .inl (cI, 4, .inl gh1)), (q 8, .inl (cI, 4, .inl gm1)), (q 9, .inl (cI, 4, .inl gv1)), (q 10, .inl (cI, 4, .inl gr1)), (q 11, .inl (cI, 512, .inl gb1)), (q 12, .inl (cZ, 512, .inl gd2)), (q 13, .inl (cI, 512, .inl (upd gl (ao + pl) (nI n)))), (q 14, .inl (cI, 512, .inl gc1)), (q 15, .inl (cZ, 512, .inl gp))] H → va_D A [(q 0, zm_ob q th n lc kp), (q 3, .inl (cI, 4, .inl gsb)), (q 4, .inl (cI, 4, .inl gw)), (q 5, .inl (cI, 4, .inl gk)), (q 6, .inl (cI, 4, .inl gbt)), (q 7, .inl (cI, 4, .inl gh1)), (q 8, .inl (cI, 4, .inl gm1)), (q 9, .inl (cI, 4, .inl gv1)), (q 10, .inl (cI, 4, .inl gr1)), (q 11, .inl (cI, 512, .inl gb1)), (q 12, .inl (cZ, 512, .inl gd2)), (q 13, .inl (cI, 512, .inl (upd gl (ao + pl) (nI n)))), (q 14, .inl (cI, 512, .inl gc1)), (q 15, .inl (cZ, 512, .inl gp))] → va_S A s.heap H locs → ∀ ls : Array Slot, lv_has ls 8 [(0, .ref (q 0)), (1, .int (nI ca)), (5, .int (nI ao)), (6, .int (nI pl)), (7, .int (nI h))] → W p l e rm_cm_see s m args below meth c H locs 0 0 Q (F0 m 238 ls []) := by
      intro gd2 hd2 H locs hP hD hS ls hl
      refine lv_aload_n hx hb kd_M_see_238 rfl (lv_at hl 0 rfl) ?_
      refine lv_iload_n hx hb kd_M_see_239 rfl (lv_at hl 1 rfl) ?_
      refine lv_iload hx hb kd_M_see_240 (lv_at hl 2 rfl) ?_
      refine lv_iload hx hb kd_M_see_242 (lv_at hl 3 rfl) ?_
      refine zz_vV (As := [.int (nI ca), .int (nI ao), .int (nI pl)]) (rest := []) (wc := [(q 0, zm_ob q th n lc kp), (q 4, .inl (cI, 4, .inl gw)), (q 15, .inl (cZ, 512, .inl gp))]) (wr := [(q 3, .inl (cI, 4, .inl gsb)), (q 5, .inl (cI, 4, .inl gk)), (q 6, .inl (cI, 4, .inl gbt)), (q 7, .inl (cI, 4, .inl gh1)), (q 8, .inl (cI, 4, .inl gm1)), (q 9, .inl (cI, 4, .inl gv1)), (q 10, .inl (cI, 4, .inl gr1)), (q 11, .inl (cI, 512, .inl gb1)), (q 12, .inl (cZ, 512, .inl gd2)), (q 13, .inl (cI, 512, .inl (upd gl (ao + pl) (nI n)))), (q 14, .inl (cI, 512, .inl gc1))]) ⟨hx, hb, hml, hown, hts⟩ (cm_turn l dC dI cI cZ cO cL q th n lc kp gw gp ca ao pl wy (by omega) (hw) (by omega) (by omega) (by omega)) (zz_cwV hts kj_425 kj_27 kj_423 kj_424 kj_19 kz_M_turn rfl rfl ⟨Nat.le_of_ble_eq_true rfl, Nat.le_of_ble_eq_true rfl⟩) (hP.sub [1, 3, 4, 5, 6, 7, 8, 9, 10, 11, 12, 0, 2, 13] rfl) (hD.sub [1, 3, 4, 5, 6, 7, 8, 9, 10, 11, 12, 0, 2, 13] (by decide) rfl) hK hS hA (q0 := 0) rfl rfl rfl rfl hl.1 rfl (Nat.le_of_ble_eq_true rfl) kd_M_see_244 ⟨by decide, by decide⟩ (fun w9 H locs hw hP hD hS => ?_)
      obtain ⟨gp2_1, rfl, g1, g2⟩ := hw
      have hP : va_P (dC, dI) zk_cl [(q 3, .inl (cI, 4, .inl gsb)), (q 5, .inl (cI, 4, .inl gk)), (q 6, .inl (cI, 4, .inl gbt)), (q 7, .inl (cI, 4, .inl gh1)), (q 8, .inl (cI, 4, .inl gm1)), (q 9, .inl (cI, 4, .inl gv1)), (q 10, .inl (cI, 4, .inl gr1)), (q 11, .inl (cI, 512, .inl gb1)), (q 12, .inl (cZ, 512, .inl gd2)), (q 13, .inl (cI, 512, .inl (upd gl (ao + pl) (nI n)))), (q 14, .inl (cI, 512, .inl gc1)), (q 0, zm_ob q th n lc kp), (q 4, .inl (cI, 4, .inl gw)), (q 15, .inl (cZ, 512, .inl gp2_1))] H := hP
      have hD : va_D A [(q 3, .inl (cI, 4, .inl gsb)), (q 5, .inl (cI, 4, .inl gk)), (q 6, .inl (cI, 4, .inl gbt)), (q 7, .inl (cI, 4, .inl gh1)), (q 8, .inl (cI, 4, .inl gm1)), (q 9, .inl (cI, 4, .inl gv1)), (q 10, .inl (cI, 4, .inl gr1)), (q 11, .inl (cI, 512, .inl gb1)), (q 12, .inl (cZ, 512, .inl gd2)), (q 13, .inl (cI, 512, .inl (upd gl (ao + pl) (nI n)))), (q 14, .inl (cI, 512, .inl gc1)), (q 0, zm_ob q th n lc kp), (q 4, .inl (cI, 4, .inl gw)), (q 15, .inl (cZ, 512, .inl gp2_1))] := hD
      refine lv_iload hx hb kd_M_see_247 (lv_at hl 4 rfl) ?_
      exact hret _ _ _ _ _ _ (zu_bit hh) kd_M_see_249 (hP.sub [11, 0, 12, 1, 2, 3, 4, 5, 6, 7, 8, 9, 10, 13] rfl) (hD.sub [11, 0, 12, 1, 2, 3, 4, 5, 6, 7, 8, 9, 10, 13] (by decide) rfl) hS (⟨h, pl, gh1, gm1, gv1, gr1, gb1, gd2, gc1, gp2_1, rfl, rfl, (hpl), (hc1), (hd2), (g1), (g2), (hh)⟩)
    refine lv_aload_n hx hb kd_M_see_206 rfl (lv_at hl 0 rfl) ?_
    refine va_get (D := (dC, dI)) (ci := 3) (v := .ref (q 12)) (C := zk_RM) (T := zk_TM) (N := 22) hx hb hts kl_M hown hK hP 0 rfl rfl 13 (by decide) (hts _ kj_359) (fun _ h9 => h9) rfl kd_M_see_207 ?_
    refine lv_iload hx hb kd_M_see_210 (lv_at hl 3 rfl) ?_
    refine lv_iload hx hb kd_M_see_212 (lv_at hl 4 rfl) ?_
    refine lv_iadd hx hb kd_M_see_214 ?_
    refine zz_top (y := nI (ao + pl)) (nI_add _ _) ?_
    refine lv_aload_n hx hb kd_M_see_215 rfl (lv_at hl 0 rfl) ?_
    refine va_get (D := (dC, dI)) (ci := 3) (v := .ref (q 12)) (C := zk_RM) (T := zk_TM) (N := 22) hx hb hts kl_M hown hK hP 0 rfl rfl 13 (by decide) (hts _ kj_359) (fun _ h9 => h9) rfl kd_M_see_216 ?_
    refine lv_iload hx hb kd_M_see_219 (lv_at hl 3 rfl) ?_
    refine lv_iload hx hb kd_M_see_221 (lv_at hl 4 rfl) ?_
    refine lv_iadd hx hb kd_M_see_223 ?_
    refine zz_top (y := nI (ao + pl)) (nI_add _ _) ?_
    refine zz_zald hx hb hK hP 10 1 rfl rfl (k := ao + pl) (by omega) (by decide) kd_M_see_224 ?_
    refine lv_if_ne (tgt := 232) hx hb kd_M_see_225 (by decide) (fun c225 => ?_) (fun c225 => ?_)
    · skip
      refine lv_iconst (v := nI 1) hx hb kd_M_see_232 (by decide) ?_
      refine lv_goto (tgt := 237) hx hb kd_M_see_233 (by decide) ?_
      refine zz_zast hx hb hK hP hD hS 10 1 rfl rfl (k := ao + pl) (by omega) (by decide) (Or.inr rfl) kd_M_see_237 (fun H locs hP hD hS => ?_)
      have hP : va_P (dC, dI) zk_cl [(q 0, zm_ob q th n lc kp), (q 3, .inl (cI, 4, .inl gsb)), (q 4, .inl (cI, 4, .inl gw)), (q 5, .inl (cI, 4, .inl gk)), (q 6, .inl (cI, 4, .inl gbt)), (q 7, .inl (cI, 4, .inl gh1)), (q 8, .inl (cI, 4, .inl gm1)), (q 9, .inl (cI, 4, .inl gv1)), (q 10, .inl (cI, 4, .inl gr1)), (q 11, .inl (cI, 512, .inl gb1)), (q 12, .inl (cZ, 512, .inl (upd gd1 (ao + pl) (nI 1)))), (q 13, .inl (cI, 512, .inl (upd gl (ao + pl) (nI n)))), (q 14, .inl (cI, 512, .inl gc1)), (q 15, .inl (cZ, 512, .inl gp))] H := hP
      have hD : va_D A [(q 0, zm_ob q th n lc kp), (q 3, .inl (cI, 4, .inl gsb)), (q 4, .inl (cI, 4, .inl gw)), (q 5, .inl (cI, 4, .inl gk)), (q 6, .inl (cI, 4, .inl gbt)), (q 7, .inl (cI, 4, .inl gh1)), (q 8, .inl (cI, 4, .inl gm1)), (q 9, .inl (cI, 4, .inl gv1)), (q 10, .inl (cI, 4, .inl gr1)), (q 11, .inl (cI, 512, .inl gb1)), (q 12, .inl (cZ, 512, .inl (upd gd1 (ao + pl) (nI 1)))), (q 13, .inl (cI, 512, .inl (upd gl (ao + pl) (nI n)))), (q 14, .inl (cI, 512, .inl gc1)), (q 15, .inl (cZ, 512, .inl gp))] := hD
      exact hc238 (upd gd1 (ao + pl) (nI 1))  (by first | exact ⟨fun j hj => by rw [pk_un hj]; exact hd1.1 j hj, by rw [pk_us, if_pos c229, ← hd1.2]; exact c225.symm⟩ | exact ⟨fun j hj => by rw [pk_un hj]; exact hd1.1 j hj, by rw [pk_us, if_neg c229]; rfl⟩ | exact ⟨fun j hj => by rw [pk_un hj]; exact hd1.1 j hj, by
        rw [pk_us]
        by_cases z : wr = 0
        · rw [if_pos z, ← hd1.2]
          exact (hb1d.resolve_left c225).symm
        · rw [if_neg z]; rfl⟩) _ _ hP hD hS ls (lv_sub hl [0, 1, 3, 4, 5] rfl)
    · skip
      refine lv_iload_n hx hb kd_M_see_228 rfl (lv_at hl 2 rfl) ?_
      refine lv_if_eq (tgt := 236) hx hb kd_M_see_229 (by decide) (fun c229 => ?_) (fun c229 => ?_)
      · skip
        refine lv_iconst (v := nI 0) hx hb kd_M_see_236 (by decide) ?_
        refine zz_zast hx hb hK hP hD hS 10 1 rfl rfl (k := ao + pl) (by omega) (by decide) (Or.inl rfl) kd_M_see_237 (fun H locs hP hD hS => ?_)
        have hP : va_P (dC, dI) zk_cl [(q 0, zm_ob q th n lc kp), (q 3, .inl (cI, 4, .inl gsb)), (q 4, .inl (cI, 4, .inl gw)), (q 5, .inl (cI, 4, .inl gk)), (q 6, .inl (cI, 4, .inl gbt)), (q 7, .inl (cI, 4, .inl gh1)), (q 8, .inl (cI, 4, .inl gm1)), (q 9, .inl (cI, 4, .inl gv1)), (q 10, .inl (cI, 4, .inl gr1)), (q 11, .inl (cI, 512, .inl gb1)), (q 12, .inl (cZ, 512, .inl (upd gd1 (ao + pl) (nI 0)))), (q 13, .inl (cI, 512, .inl (upd gl (ao + pl) (nI n)))), (q 14, .inl (cI, 512, .inl gc1)), (q 15, .inl (cZ, 512, .inl gp))] H := hP
        have hD : va_D A [(q 0, zm_ob q th n lc kp), (q 3, .inl (cI, 4, .inl gsb)), (q 4, .inl (cI, 4, .inl gw)), (q 5, .inl (cI, 4, .inl gk)), (q 6, .inl (cI, 4, .inl gbt)), (q 7, .inl (cI, 4, .inl gh1)), (q 8, .inl (cI, 4, .inl gm1)), (q 9, .inl (cI, 4, .inl gv1)), (q 10, .inl (cI, 4, .inl gr1)), (q 11, .inl (cI, 512, .inl gb1)), (q 12, .inl (cZ, 512, .inl (upd gd1 (ao + pl) (nI 0)))), (q 13, .inl (cI, 512, .inl (upd gl (ao + pl) (nI n)))), (q 14, .inl (cI, 512, .inl gc1)), (q 15, .inl (cZ, 512, .inl gp))] := hD
        exact hc238 (upd gd1 (ao + pl) (nI 0))  (by first | exact ⟨fun j hj => by rw [pk_un hj]; exact hd1.1 j hj, by rw [pk_us, if_pos c229, ← hd1.2]; exact c225.symm⟩ | exact ⟨fun j hj => by rw [pk_un hj]; exact hd1.1 j hj, by rw [pk_us, if_neg c229]; rfl⟩ | exact ⟨fun j hj => by rw [pk_un hj]; exact hd1.1 j hj, by
          rw [pk_us]
          by_cases z : wr = 0
          · rw [if_pos z, ← hd1.2]
            exact (hb1d.resolve_left c225).symm
          · rw [if_neg z]; rfl⟩) _ _ hP hD hS ls (lv_sub hl [0, 1, 3, 4, 5] rfl)
      · skip
        refine lv_iconst (v := nI 1) hx hb kd_M_see_232 (by decide) ?_
        refine lv_goto (tgt := 237) hx hb kd_M_see_233 (by decide) ?_
        refine zz_zast hx hb hK hP hD hS 10 1 rfl rfl (k := ao + pl) (by omega) (by decide) (Or.inr rfl) kd_M_see_237 (fun H locs hP hD hS => ?_)
        have hP : va_P (dC, dI) zk_cl [(q 0, zm_ob q th n lc kp), (q 3, .inl (cI, 4, .inl gsb)), (q 4, .inl (cI, 4, .inl gw)), (q 5, .inl (cI, 4, .inl gk)), (q 6, .inl (cI, 4, .inl gbt)), (q 7, .inl (cI, 4, .inl gh1)), (q 8, .inl (cI, 4, .inl gm1)), (q 9, .inl (cI, 4, .inl gv1)), (q 10, .inl (cI, 4, .inl gr1)), (q 11, .inl (cI, 512, .inl gb1)), (q 12, .inl (cZ, 512, .inl (upd gd1 (ao + pl) (nI 1)))), (q 13, .inl (cI, 512, .inl (upd gl (ao + pl) (nI n)))), (q 14, .inl (cI, 512, .inl gc1)), (q 15, .inl (cZ, 512, .inl gp))] H := hP
        have hD : va_D A [(q 0, zm_ob q th n lc kp), (q 3, .inl (cI, 4, .inl gsb)), (q 4, .inl (cI, 4, .inl gw)), (q 5, .inl (cI, 4, .inl gk)), (q 6, .inl (cI, 4, .inl gbt)), (q 7, .inl (cI, 4, .inl gh1)), (q 8, .inl (cI, 4, .inl gm1)), (q 9, .inl (cI, 4, .inl gv1)), (q 10, .inl (cI, 4, .inl gr1)), (q 11, .inl (cI, 512, .inl gb1)), (q 12, .inl (cZ, 512, .inl (upd gd1 (ao + pl) (nI 1)))), (q 13, .inl (cI, 512, .inl (upd gl (ao + pl) (nI n)))), (q 14, .inl (cI, 512, .inl gc1)), (q 15, .inl (cZ, 512, .inl gp))] := hD
        exact hc238 (upd gd1 (ao + pl) (nI 1))  (by first | exact ⟨fun j hj => by rw [pk_un hj]; exact hd1.1 j hj, by rw [pk_us, if_pos c229, ← hd1.2]; exact c225.symm⟩ | exact ⟨fun j hj => by rw [pk_un hj]; exact hd1.1 j hj, by rw [pk_us, if_neg c229]; rfl⟩ | exact ⟨fun j hj => by rw [pk_un hj]; exact hd1.1 j hj, by
          rw [pk_us]
          by_cases z : wr = 0
          · rw [if_pos z, ← hd1.2]
            exact (hb1d.resolve_left c225).symm
          · rw [if_neg z]; rfl⟩) _ _ hP hD hS ls (lv_sub hl [0, 1, 3, 4, 5] rfl)
  refine lv_iload hx hb kd_M_see_45 (lv_at hl 0 rfl) ?_
  refine lv_if_lt (tgt := 54) hx hb kd_M_see_47 (by decide) (fun c47 => ?_) (fun c47 => ?_)
  · skip
    have hm1 := zf_FP_neg (by omega) fp40 c47
    refine lv_iconst (v := nI 0) hx hb kd_M_see_54 (by decide) ?_
    refine lv_istore (lv' := [(7, .int (nI 0)), (6, .int r0), (5, .int (nI ao)), (4, .int (nI b)), (0, .ref (q 0)), (1, .int (nI ca)), (2, .int (nI ad)), (3, .int wr)]) hx hb kd_M_see_55 hl (by decide) rfl (fun ls hl => ?_)
    refine lv_iload hx hb kd_M_see_57 (lv_at hl 0 rfl) ?_
    refine zz_if_eq (tgt := 75) hx hb kd_M_see_59 (by decide) (by decide) (fun _ => ?_) (fun c9 => absurd c9 (by decide))
    refine lv_aload_n hx hb kd_M_see_75 rfl (lv_at hl 4 rfl) ?_
    refine va_get (D := (dC, dI)) (ci := 3) (v := .ref (q 8)) (C := zk_RM) (T := zk_TM) (N := 22) hx hb hts kl_M hown hK hP 11 rfl rfl 9 (by decide) (hts _ kj_355) (fun _ h9 => h9) rfl kd_M_see_76 ?_
    refine lv_iload_n hx hb kd_M_see_79 rfl (lv_at hl 5 rfl) ?_
    refine lv_dup2_11 hx hb kd_M_see_80 rfl rfl ?_
    refine zz_iald hx hb hK hP 4 0 rfl rfl (k := ca) (by omega) (by decide) kd_M_see_81 ?_
    refine lv_iconst (v := nI 1) hx hb kd_M_see_82 (by decide) ?_
    refine lv_iadd hx hb kd_M_see_83 ?_
    refine zz_iast hx hb hK hP hD hS 4 0 rfl rfl (k := ca) (by omega) (by decide) kd_M_see_84 (fun H locs hP hD hS => ?_)
    have hP : va_P (dC, dI) zk_cl [(q 3, .inl (cI, 4, .inl gsb)), (q 5, .inl (cI, 4, .inl gk)), (q 6, .inl (cI, 4, .inl gbt)), (q 7, .inl (cI, 4, .inl gh)), (q 8, .inl (cI, 4, .inl (upd gm ca ((gm ca) + (nI 1))))), (q 9, .inl (cI, 4, .inl gv)), (q 10, .inl (cI, 4, .inl gr)), (q 12, .inl (cZ, 512, .inl gd)), (q 13, .inl (cI, 512, .inl gl)), (q 14, .inl (cI, 512, .inl gc)), (q 15, .inl (cZ, 512, .inl gp)), (q 0, zm_ob q th n lc kp), (q 4, .inl (cI, 4, .inl gw)), (q 11, .inl (cI, 512, .inl gb))] H := hP
    have hD : va_D A [(q 3, .inl (cI, 4, .inl gsb)), (q 5, .inl (cI, 4, .inl gk)), (q 6, .inl (cI, 4, .inl gbt)), (q 7, .inl (cI, 4, .inl gh)), (q 8, .inl (cI, 4, .inl (upd gm ca ((gm ca) + (nI 1))))), (q 9, .inl (cI, 4, .inl gv)), (q 10, .inl (cI, 4, .inl gr)), (q 12, .inl (cZ, 512, .inl gd)), (q 13, .inl (cI, 512, .inl gl)), (q 14, .inl (cI, 512, .inl gc)), (q 15, .inl (cZ, 512, .inl gp)), (q 0, zm_ob q th n lc kp), (q 4, .inl (cI, 4, .inl gw)), (q 11, .inl (cI, 512, .inl gb))] := hD
    refine lv_aload_n hx hb kd_M_see_85 rfl (lv_at hl 4 rfl) ?_
    refine lv_iload_n hx hb kd_M_see_86 rfl (lv_at hl 5 rfl) ?_
    refine lv_iload hx hb kd_M_see_87 (lv_at hl 2 rfl) ?_
    refine lv_iconst (v := (-1)) hx hb kd_M_see_89 (by decide) ?_
    refine zz_iV (As := [.int (nI ca), .int (nI ao), .int (-1)]) (rest := []) (wc := [(q 0, zm_ob q th n lc kp), (q 4, .inl (cI, 4, .inl gw)), (q 11, .inl (cI, 512, .inl gb))]) (wr := [(q 3, .inl (cI, 4, .inl gsb)), (q 5, .inl (cI, 4, .inl gk)), (q 6, .inl (cI, 4, .inl gbt)), (q 7, .inl (cI, 4, .inl gh)), (q 8, .inl (cI, 4, .inl (upd gm ca ((gm ca) + (nI 1))))), (q 9, .inl (cI, 4, .inl gv)), (q 10, .inl (cI, 4, .inl gr)), (q 12, .inl (cZ, 512, .inl gd)), (q 13, .inl (cI, 512, .inl gl)), (q 14, .inl (cI, 512, .inl gc)), (q 15, .inl (cZ, 512, .inl gp))]) ⟨hx, hb, hml, hown, hts⟩ (cm_placeOf l dC dI cI cZ cO cL q th n lc kp gw gb ca ao wy (-1) (by omega) (hw) (by omega) (by omega)) (zz_cwV hts kj_416 kj_27 kj_414 kj_415 kj_16 kz_M_placeOf rfl rfl ⟨Nat.le_of_ble_eq_true rfl, Nat.le_of_ble_eq_true rfl⟩) hP hD hK hS hA (q0 := 0) rfl rfl rfl rfl hl.1 rfl (Nat.le_of_ble_eq_true rfl) kd_M_see_90 ⟨by decide, by decide⟩ (fun r9 w9 H locs hw hP hD hS => ?_)
    generalize r9 = r1 at hw ⊢
    obtain ⟨rfl, fp90⟩ := hw
    have hP : va_P (dC, dI) zk_cl [(q 3, .inl (cI, 4, .inl gsb)), (q 5, .inl (cI, 4, .inl gk)), (q 6, .inl (cI, 4, .inl gbt)), (q 7, .inl (cI, 4, .inl gh)), (q 8, .inl (cI, 4, .inl (upd gm ca ((gm ca) + (nI 1))))), (q 9, .inl (cI, 4, .inl gv)), (q 10, .inl (cI, 4, .inl gr)), (q 12, .inl (cZ, 512, .inl gd)), (q 13, .inl (cI, 512, .inl gl)), (q 14, .inl (cI, 512, .inl gc)), (q 15, .inl (cZ, 512, .inl gp)), (q 0, zm_ob q th n lc kp), (q 4, .inl (cI, 4, .inl gw)), (q 11, .inl (cI, 512, .inl gb))] H := hP
    have hD : va_D A [(q 3, .inl (cI, 4, .inl gsb)), (q 5, .inl (cI, 4, .inl gk)), (q 6, .inl (cI, 4, .inl gbt)), (q 7, .inl (cI, 4, .inl gh)), (q 8, .inl (cI, 4, .inl (upd gm ca ((gm ca) + (nI 1))))), (q 9, .inl (cI, 4, .inl gv)), (q 10, .inl (cI, 4, .inl gr)), (q 12, .inl (cZ, 512, .inl gd)), (q 13, .inl (cI, 512, .inl gl)), (q 14, .inl (cI, 512, .inl gc)), (q 15, .inl (cZ, 512, .inl gp)), (q 0, zm_ob q th n lc kp), (q 4, .inl (cI, 4, .inl gw)), (q 11, .inl (cI, 512, .inl gb))] := hD
    refine lv_istore (lv' := [(6, .int r1), (7, .int (nI 0)), (5, .int (nI ao)), (4, .int (nI b)), (0, .ref (q 0)), (1, .int (nI ca)), (2, .int (nI ad)), (3, .int wr)]) hx hb kd_M_see_93 hl (by decide) rfl (fun ls hl => ?_)
    have hc155 : ∀ (pl : Nat) (gv1 : Nat → Int32) (gr1 : Nat → Int32), (pl < wy) → (zc_bi wy kd (fun k => gb (ao + k)) (zm_gs kd ao gl gc) (fun k => gd (ao + k)) (zm_tb gp ao) pl (gv ca) (gr ca) (gv1 ca) (gr1 ca)) → (∀ j, j ≠ ca → gv1 j = gv j ∧ gr1 j = gr j) → ∀ (H : Heap) (locs : List Loc), va_P (dC, dI) zk_cl [(q 0, zm_ob q th n lc kp), (q 3, .inl (cI, 4, .inl gsb)), (q 4, .inl (cI, 4, .inl gw)), (q 5, .inl (cI, 4, .inl gk)), (q 6, .inl (cI, 4, .inl gbt)), (q 7, .inl (cI, 4, .inl gh)), (q 8, .inl (cI, 4, .inl (upd gm ca (gm ca + nI 1)))), (q 9, .inl (cI, 4, .inl gv1)), (q 10, .inl (cI, 4, .inl gr1)), (q 11, .inl (cI, 512, .inl gb)), (q 12, .inl (cZ, 512, .inl gd)), (q 13, .inl (cI, 512, .inl gl)), (q 14, .inl (cI, 512, .inl gc)), (q 15, .inl (cZ, 512, .inl gp))] H → va_D A [(q 0, zm_ob q th n lc kp), (q 3, .inl (cI, 4, .inl gsb)), (q 4, .inl (cI, 4, .inl gw)), (q 5, .inl (cI, 4, .inl gk)), (q 6, .inl (cI, 4, .inl gbt)), (q 7, .inl (cI, 4, .inl gh)), (q 8, .inl (cI, 4, .inl (upd gm ca (gm ca + nI 1)))), (q 9, .inl (cI, 4, .inl gv1)), (q 10, .inl (cI, 4, .inl gr1)), (q 11, .inl (cI, 512, .inl gb)), (q 12, .inl (cZ, 512, .inl gd)), (q 13, .inl (cI, 512, .inl gl)), (q 14, .inl (cI, 512, .inl gc)), (q 15, .inl (cZ, 512, .inl gp))] → va_S A s.heap H locs → ∀ ls : Array Slot, lv_has ls 8 [(0, .ref (q 0)), (1, .int (nI ca)), (3, .int wr), (4, .int (nI b)), (5, .int (nI ao)), (6, .int (nI pl)), (7, .int (nI 0))] → W p l e rm_cm_see s m args below meth c H locs 0 0 Q (F0 m 155 ls []) := by
      intro pl gv1 gr1 hpl hbi hoth H locs hP hD hS ls hl
      refine lv_aload_n hx hb kd_M_see_155 rfl (lv_at hl 0 rfl) ?_
      refine va_get (D := (dC, dI)) (ci := 3) (v := .ref (q 11)) (C := zk_RM) (T := zk_TM) (N := 22) hx hb hts kl_M hown hK hP 0 rfl rfl 12 (by decide) (hts _ kj_358) (fun _ h9 => h9) rfl kd_M_see_156 ?_
      refine lv_iload hx hb kd_M_see_159 (lv_at hl 4 rfl) ?_
      refine lv_iload hx hb kd_M_see_161 (lv_at hl 5 rfl) ?_
      refine lv_iadd hx hb kd_M_see_163 ?_
      refine zz_top (y := nI (ao + pl)) (nI_add _ _) ?_
      refine lv_iload hx hb kd_M_see_164 (lv_at hl 3 rfl) ?_
      refine zz_iast hx hb hK hP hD hS 9 0 rfl rfl (k := ao + pl) (by omega) (by decide) kd_M_see_166 (fun H locs hP hD hS => ?_)
      have hP : va_P (dC, dI) zk_cl [(q 0, zm_ob q th n lc kp), (q 3, .inl (cI, 4, .inl gsb)), (q 4, .inl (cI, 4, .inl gw)), (q 5, .inl (cI, 4, .inl gk)), (q 6, .inl (cI, 4, .inl gbt)), (q 7, .inl (cI, 4, .inl gh)), (q 8, .inl (cI, 4, .inl (upd gm ca (gm ca + nI 1)))), (q 9, .inl (cI, 4, .inl gv1)), (q 10, .inl (cI, 4, .inl gr1)), (q 11, .inl (cI, 512, .inl (upd gb (ao + pl) (nI b)))), (q 12, .inl (cZ, 512, .inl gd)), (q 13, .inl (cI, 512, .inl gl)), (q 14, .inl (cI, 512, .inl gc)), (q 15, .inl (cZ, 512, .inl gp))] H := hP
      have hD : va_D A [(q 0, zm_ob q th n lc kp), (q 3, .inl (cI, 4, .inl gsb)), (q 4, .inl (cI, 4, .inl gw)), (q 5, .inl (cI, 4, .inl gk)), (q 6, .inl (cI, 4, .inl gbt)), (q 7, .inl (cI, 4, .inl gh)), (q 8, .inl (cI, 4, .inl (upd gm ca (gm ca + nI 1)))), (q 9, .inl (cI, 4, .inl gv1)), (q 10, .inl (cI, 4, .inl gr1)), (q 11, .inl (cI, 512, .inl (upd gb (ao + pl) (nI b)))), (q 12, .inl (cZ, 512, .inl gd)), (q 13, .inl (cI, 512, .inl gl)), (q 14, .inl (cI, 512, .inl gc)), (q 15, .inl (cZ, 512, .inl gp))] := hD
      refine lv_aload_n hx hb kd_M_see_167 rfl (lv_at hl 0 rfl) ?_
      refine va_get (D := (dC, dI)) (ci := 3) (v := .ref (q 12)) (C := zk_RM) (T := zk_TM) (N := 22) hx hb hts kl_M hown hK hP 0 rfl rfl 13 (by decide) (hts _ kj_359) (fun _ h9 => h9) rfl kd_M_see_168 ?_
      refine lv_iload hx hb kd_M_see_171 (lv_at hl 4 rfl) ?_
      refine lv_iload hx hb kd_M_see_173 (lv_at hl 5 rfl) ?_
      refine lv_iadd hx hb kd_M_see_175 ?_
      refine zz_top (y := nI (ao + pl)) (nI_add _ _) ?_
      refine lv_iconst (v := nI 0) hx hb kd_M_see_176 (by decide) ?_
      refine zz_zast hx hb hK hP hD hS 10 1 rfl rfl (k := ao + pl) (by omega) (by decide) (Or.inl rfl) kd_M_see_177 (fun H locs hP hD hS => ?_)
      have hP : va_P (dC, dI) zk_cl [(q 0, zm_ob q th n lc kp), (q 3, .inl (cI, 4, .inl gsb)), (q 4, .inl (cI, 4, .inl gw)), (q 5, .inl (cI, 4, .inl gk)), (q 6, .inl (cI, 4, .inl gbt)), (q 7, .inl (cI, 4, .inl gh)), (q 8, .inl (cI, 4, .inl (upd gm ca (gm ca + nI 1)))), (q 9, .inl (cI, 4, .inl gv1)), (q 10, .inl (cI, 4, .inl gr1)), (q 11, .inl (cI, 512, .inl (upd gb (ao + pl) (nI b)))), (q 12, .inl (cZ, 512, .inl (upd gd (ao + pl) (nI 0)))), (q 13, .inl (cI, 512, .inl gl)), (q 14, .inl (cI, 512, .inl gc)), (q 15, .inl (cZ, 512, .inl gp))] H := hP
      have hD : va_D A [(q 0, zm_ob q th n lc kp), (q 3, .inl (cI, 4, .inl gsb)), (q 4, .inl (cI, 4, .inl gw)), (q 5, .inl (cI, 4, .inl gk)), (q 6, .inl (cI, 4, .inl gbt)), (q 7, .inl (cI, 4, .inl gh)), (q 8, .inl (cI, 4, .inl (upd gm ca (gm ca + nI 1)))), (q 9, .inl (cI, 4, .inl gv1)), (q 10, .inl (cI, 4, .inl gr1)), (q 11, .inl (cI, 512, .inl (upd gb (ao + pl) (nI b)))), (q 12, .inl (cZ, 512, .inl (upd gd (ao + pl) (nI 0)))), (q 13, .inl (cI, 512, .inl gl)), (q 14, .inl (cI, 512, .inl gc)), (q 15, .inl (cZ, 512, .inl gp))] := hD
      refine lv_aload_n hx hb kd_M_see_178 rfl (lv_at hl 0 rfl) ?_
      refine va_get (D := (dC, dI)) (ci := 3) (v := .ref (q 14)) (C := zk_RM) (T := zk_TM) (N := 22) hx hb hts kl_M hown hK hP 0 rfl rfl 15 (by decide) (hts _ kj_361) (fun _ h9 => h9) rfl kd_M_see_179 ?_
      refine lv_iload hx hb kd_M_see_182 (lv_at hl 4 rfl) ?_
      refine lv_iload hx hb kd_M_see_184 (lv_at hl 5 rfl) ?_
      refine lv_iadd hx hb kd_M_see_186 ?_
      refine zz_top (y := nI (ao + pl)) (nI_add _ _) ?_
      refine lv_aload_n hx hb kd_M_see_187 rfl (lv_at hl 0 rfl) ?_
      refine va_get (D := (dC, dI)) (ci := 3) (v := .int (nI n)) (C := zk_RM) (T := zk_TM) (N := 22) hx hb hts kl_M hown hK hP 0 rfl rfl 1 (by decide) (hts _ kj_347) (fun _ h9 => h9) rfl kd_M_see_188 ?_
      refine zz_iast hx hb hK hP hD hS 12 0 rfl rfl (k := ao + pl) (by omega) (by decide) kd_M_see_191 (fun H locs hP hD hS => ?_)
      have hP : va_P (dC, dI) zk_cl [(q 0, zm_ob q th n lc kp), (q 3, .inl (cI, 4, .inl gsb)), (q 4, .inl (cI, 4, .inl gw)), (q 5, .inl (cI, 4, .inl gk)), (q 6, .inl (cI, 4, .inl gbt)), (q 7, .inl (cI, 4, .inl gh)), (q 8, .inl (cI, 4, .inl (upd gm ca (gm ca + nI 1)))), (q 9, .inl (cI, 4, .inl gv1)), (q 10, .inl (cI, 4, .inl gr1)), (q 11, .inl (cI, 512, .inl (upd gb (ao + pl) (nI b)))), (q 12, .inl (cZ, 512, .inl (upd gd (ao + pl) (nI 0)))), (q 13, .inl (cI, 512, .inl gl)), (q 14, .inl (cI, 512, .inl (upd gc (ao + pl) (nI n)))), (q 15, .inl (cZ, 512, .inl gp))] H := hP
      have hD : va_D A [(q 0, zm_ob q th n lc kp), (q 3, .inl (cI, 4, .inl gsb)), (q 4, .inl (cI, 4, .inl gw)), (q 5, .inl (cI, 4, .inl gk)), (q 6, .inl (cI, 4, .inl gbt)), (q 7, .inl (cI, 4, .inl gh)), (q 8, .inl (cI, 4, .inl (upd gm ca (gm ca + nI 1)))), (q 9, .inl (cI, 4, .inl gv1)), (q 10, .inl (cI, 4, .inl gr1)), (q 11, .inl (cI, 512, .inl (upd gb (ao + pl) (nI b)))), (q 12, .inl (cZ, 512, .inl (upd gd (ao + pl) (nI 0)))), (q 13, .inl (cI, 512, .inl gl)), (q 14, .inl (cI, 512, .inl (upd gc (ao + pl) (nI n)))), (q 15, .inl (cZ, 512, .inl gp))] := hD
      exact hc192 0 pl gh (upd gm ca (gm ca + nI 1)) gv1 gr1 (upd gb (ao + pl) (nI b)) (upd gd (ao + pl) (nI 0)) (upd gc (ao + pl) (nI n))  (by first | exact hpl0 | exact hpl) (by first | exact Or.inl ⟨rfl, fp40, rfl, rfl, rfl, rfl, rfl, rfl⟩ | exact Or.inr ⟨rfl, hm1 ▸ fp40, hbi, hoth, rfl, rfl, rfl, rfl⟩) (by first | exact ⟨fun _ _ => rfl, by rw [if_pos rfl]⟩ | exact ⟨fun j hj => pk_un hj, by rw [pk_us, if_neg (by decide)]; rfl⟩) _ _ hP hD hS ls (lv_sub hl [0, 1, 2, 4, 5, 6] rfl)
    refine lv_iload hx hb kd_M_see_95 (lv_at hl 0 rfl) ?_
    refine lv_if_ge (tgt := 155) hx hb kd_M_see_97 (by decide) (fun c97 => ?_) (fun c97 => ?_)
    · skip
      obtain ⟨ple, hple, rfl⟩ := zf_FP_pos fp90 (fun z => absurd c97 (by rw [zf_ile]; rw [zf_ilt] at z; omega))
      exact hc155 ple gv gr  (by first | exact hple | exact hplv) (by first | exact ⟨hple, Or.inl ⟨fp90, rfl, rfl⟩⟩ | exact ⟨hplv, Or.inr ⟨hm2 ▸ fp90, hv104, pk_us, Or.inl ⟨c134, pk_us⟩⟩⟩ | exact ⟨hplv, Or.inr ⟨hm2 ▸ fp90, hv104, pk_us, Or.inr ⟨c134, pk_us⟩⟩⟩) (by first | exact fun _ _ => ⟨rfl, rfl⟩ | exact fun j hj => ⟨pk_un hj, pk_un hj⟩) _ _ (hP.sub [11, 0, 12, 1, 2, 3, 4, 5, 6, 13, 7, 8, 9, 10] rfl) (hD.sub [11, 0, 12, 1, 2, 3, 4, 5, 6, 13, 7, 8, 9, 10] (by decide) rfl) hS ls (lv_sub hl [4, 5, 7, 3, 2, 0, 1] rfl)
    · skip
      have hm2 := zf_FP_neg (by omega) fp90 (zu_nle c97)
      refine lv_aload_n hx hb kd_M_see_100 rfl (lv_at hl 4 rfl) ?_
      refine lv_iload_n hx hb kd_M_see_101 rfl (lv_at hl 5 rfl) ?_
      refine lv_iload hx hb kd_M_see_102 (lv_at hl 2 rfl) ?_
      refine zz_iV (As := [.int (nI ca), .int (nI ao)]) (rest := []) (wc := [(q 0, zm_ob q th n lc kp), (q 4, .inl (cI, 4, .inl gw)), (q 5, .inl (cI, 4, .inl gk)), (q 13, .inl (cI, 512, .inl gl)), (q 14, .inl (cI, 512, .inl gc)), (q 15, .inl (cZ, 512, .inl gp))]) (wr := [(q 3, .inl (cI, 4, .inl gsb)), (q 6, .inl (cI, 4, .inl gbt)), (q 7, .inl (cI, 4, .inl gh)), (q 8, .inl (cI, 4, .inl (upd gm ca ((gm ca) + (nI 1))))), (q 9, .inl (cI, 4, .inl gv)), (q 10, .inl (cI, 4, .inl gr)), (q 12, .inl (cZ, 512, .inl gd)), (q 11, .inl (cI, 512, .inl gb))]) ⟨hx, hb, hml, hown, hts⟩ (cm_victimOf l dC dI cI cZ cO cL q th n lc kp gw gk gl gc gp ca ao wy kd (by omega) (hw) (hwy) (hkd) (hk3) (by omega)) (zz_cwV hts kj_419 kj_27 kj_417 kj_418 kj_17 kz_M_victimOf rfl rfl ⟨Nat.le_of_ble_eq_true rfl, Nat.le_of_ble_eq_true rfl⟩) (hP.sub [0, 2, 3, 4, 5, 6, 7, 13, 11, 12, 1, 8, 9, 10] rfl) (hD.sub [0, 2, 3, 4, 5, 6, 7, 13, 11, 12, 1, 8, 9, 10] (by decide) rfl) hK hS hA (q0 := 0) rfl rfl rfl rfl hl.1 rfl (Nat.le_of_ble_eq_true rfl) kd_M_see_104 ⟨by decide, by decide⟩ (fun r9 w9 H locs hw hP hD hS => ?_)
      obtain ⟨o1, rfl, rfl, hv104⟩ := hw
      have hP : va_P (dC, dI) zk_cl [(q 3, .inl (cI, 4, .inl gsb)), (q 6, .inl (cI, 4, .inl gbt)), (q 7, .inl (cI, 4, .inl gh)), (q 8, .inl (cI, 4, .inl (upd gm ca ((gm ca) + (nI 1))))), (q 9, .inl (cI, 4, .inl gv)), (q 10, .inl (cI, 4, .inl gr)), (q 12, .inl (cZ, 512, .inl gd)), (q 11, .inl (cI, 512, .inl gb)), (q 0, zm_ob q th n lc kp), (q 4, .inl (cI, 4, .inl gw)), (q 5, .inl (cI, 4, .inl gk)), (q 13, .inl (cI, 512, .inl gl)), (q 14, .inl (cI, 512, .inl gc)), (q 15, .inl (cZ, 512, .inl gp))] H := hP
      have hD : va_D A [(q 3, .inl (cI, 4, .inl gsb)), (q 6, .inl (cI, 4, .inl gbt)), (q 7, .inl (cI, 4, .inl gh)), (q 8, .inl (cI, 4, .inl (upd gm ca ((gm ca) + (nI 1))))), (q 9, .inl (cI, 4, .inl gv)), (q 10, .inl (cI, 4, .inl gr)), (q 12, .inl (cZ, 512, .inl gd)), (q 11, .inl (cI, 512, .inl gb)), (q 0, zm_ob q th n lc kp), (q 4, .inl (cI, 4, .inl gw)), (q 5, .inl (cI, 4, .inl gk)), (q 13, .inl (cI, 512, .inl gl)), (q 14, .inl (cI, 512, .inl gc)), (q 15, .inl (cZ, 512, .inl gp))] := hD
      have hplv : o1 < wy := by
        rcases hv104 with ⟨z, e⟩ | ⟨_, e⟩
        · rw [e]; exact zt_pt_lt (hk2 z)
        · exact e.1
      refine lv_istore (lv' := [(6, .int (nI o1)), (7, .int (nI 0)), (5, .int (nI ao)), (4, .int (nI b)), (0, .ref (q 0)), (1, .int (nI ca)), (2, .int (nI ad)), (3, .int wr)]) hx hb kd_M_see_107 hl (by decide) rfl (fun ls hl => ?_)
      refine lv_aload_n hx hb kd_M_see_109 rfl (lv_at hl 4 rfl) ?_
      refine va_get (D := (dC, dI)) (ci := 3) (v := .ref (q 9)) (C := zk_RM) (T := zk_TM) (N := 22) hx hb hts kl_M hown hK hP 8 rfl rfl 10 (by decide) (hts _ kj_356) (fun _ h9 => h9) rfl kd_M_see_110 ?_
      refine lv_iload_n hx hb kd_M_see_113 rfl (lv_at hl 5 rfl) ?_
      refine lv_dup2_11 hx hb kd_M_see_114 rfl rfl ?_
      refine zz_iald hx hb hK hP 4 0 rfl rfl (k := ca) (by omega) (by decide) kd_M_see_115 ?_
      refine lv_iconst (v := nI 1) hx hb kd_M_see_116 (by decide) ?_
      refine lv_iadd hx hb kd_M_see_117 ?_
      refine zz_iast hx hb hK hP hD hS 4 0 rfl rfl (k := ca) (by omega) (by decide) kd_M_see_118 (fun H locs hP hD hS => ?_)
      have hP : va_P (dC, dI) zk_cl [(q 3, .inl (cI, 4, .inl gsb)), (q 6, .inl (cI, 4, .inl gbt)), (q 7, .inl (cI, 4, .inl gh)), (q 8, .inl (cI, 4, .inl (upd gm ca ((gm ca) + (nI 1))))), (q 9, .inl (cI, 4, .inl (upd gv ca ((gv ca) + (nI 1))))), (q 10, .inl (cI, 4, .inl gr)), (q 12, .inl (cZ, 512, .inl gd)), (q 11, .inl (cI, 512, .inl gb)), (q 0, zm_ob q th n lc kp), (q 4, .inl (cI, 4, .inl gw)), (q 5, .inl (cI, 4, .inl gk)), (q 13, .inl (cI, 512, .inl gl)), (q 14, .inl (cI, 512, .inl gc)), (q 15, .inl (cZ, 512, .inl gp))] H := hP
      have hD : va_D A [(q 3, .inl (cI, 4, .inl gsb)), (q 6, .inl (cI, 4, .inl gbt)), (q 7, .inl (cI, 4, .inl gh)), (q 8, .inl (cI, 4, .inl (upd gm ca ((gm ca) + (nI 1))))), (q 9, .inl (cI, 4, .inl (upd gv ca ((gv ca) + (nI 1))))), (q 10, .inl (cI, 4, .inl gr)), (q 12, .inl (cZ, 512, .inl gd)), (q 11, .inl (cI, 512, .inl gb)), (q 0, zm_ob q th n lc kp), (q 4, .inl (cI, 4, .inl gw)), (q 5, .inl (cI, 4, .inl gk)), (q 13, .inl (cI, 512, .inl gl)), (q 14, .inl (cI, 512, .inl gc)), (q 15, .inl (cZ, 512, .inl gp))] := hD
      refine lv_aload_n hx hb kd_M_see_119 rfl (lv_at hl 4 rfl) ?_
      refine va_get (D := (dC, dI)) (ci := 3) (v := .ref (q 10)) (C := zk_RM) (T := zk_TM) (N := 22) hx hb hts kl_M hown hK hP 8 rfl rfl 11 (by decide) (hts _ kj_357) (fun _ h9 => h9) rfl kd_M_see_120 ?_
      refine lv_iload_n hx hb kd_M_see_123 rfl (lv_at hl 5 rfl) ?_
      refine lv_aload_n hx hb kd_M_see_124 rfl (lv_at hl 4 rfl) ?_
      refine va_get (D := (dC, dI)) (ci := 3) (v := .ref (q 12)) (C := zk_RM) (T := zk_TM) (N := 22) hx hb hts kl_M hown hK hP 8 rfl rfl 13 (by decide) (hts _ kj_359) (fun _ h9 => h9) rfl kd_M_see_125 ?_
      refine lv_iload hx hb kd_M_see_128 (lv_at hl 2 rfl) ?_
      refine lv_iload hx hb kd_M_see_130 (lv_at hl 0 rfl) ?_
      refine lv_iadd hx hb kd_M_see_132 ?_
      refine zz_top (y := nI (ao + o1)) (nI_add _ _) ?_
      refine zz_zald hx hb hK hP 6 1 rfl rfl (k := ao + o1) (by omega) (by decide) kd_M_see_133 ?_
      refine lv_if_eq (tgt := 148) hx hb kd_M_see_134 (by decide) (fun c134 => ?_) (fun c134 => ?_)
      · skip
        refine lv_aload_n hx hb kd_M_see_148 rfl (lv_at hl 4 rfl) ?_
        refine va_get (D := (dC, dI)) (ci := 3) (v := .ref (q 10)) (C := zk_RM) (T := zk_TM) (N := 22) hx hb hts kl_M hown hK hP 8 rfl rfl 11 (by decide) (hts _ kj_357) (fun _ h9 => h9) rfl kd_M_see_149 ?_
        refine lv_iload_n hx hb kd_M_see_152 rfl (lv_at hl 5 rfl) ?_
        refine zz_iald hx hb hK hP 5 0 rfl rfl (k := ca) (by omega) (by decide) kd_M_see_153 ?_
        refine zz_iast hx hb hK hP hD hS 5 0 rfl rfl (k := ca) (by omega) (by decide) kd_M_see_154 (fun H locs hP hD hS => ?_)
        have hP : va_P (dC, dI) zk_cl [(q 3, .inl (cI, 4, .inl gsb)), (q 6, .inl (cI, 4, .inl gbt)), (q 7, .inl (cI, 4, .inl gh)), (q 8, .inl (cI, 4, .inl (upd gm ca ((gm ca) + (nI 1))))), (q 9, .inl (cI, 4, .inl (upd gv ca ((gv ca) + (nI 1))))), (q 10, .inl (cI, 4, .inl (upd gr ca (gr ca)))), (q 12, .inl (cZ, 512, .inl gd)), (q 11, .inl (cI, 512, .inl gb)), (q 0, zm_ob q th n lc kp), (q 4, .inl (cI, 4, .inl gw)), (q 5, .inl (cI, 4, .inl gk)), (q 13, .inl (cI, 512, .inl gl)), (q 14, .inl (cI, 512, .inl gc)), (q 15, .inl (cZ, 512, .inl gp))] H := hP
        have hD : va_D A [(q 3, .inl (cI, 4, .inl gsb)), (q 6, .inl (cI, 4, .inl gbt)), (q 7, .inl (cI, 4, .inl gh)), (q 8, .inl (cI, 4, .inl (upd gm ca ((gm ca) + (nI 1))))), (q 9, .inl (cI, 4, .inl (upd gv ca ((gv ca) + (nI 1))))), (q 10, .inl (cI, 4, .inl (upd gr ca (gr ca)))), (q 12, .inl (cZ, 512, .inl gd)), (q 11, .inl (cI, 512, .inl gb)), (q 0, zm_ob q th n lc kp), (q 4, .inl (cI, 4, .inl gw)), (q 5, .inl (cI, 4, .inl gk)), (q 13, .inl (cI, 512, .inl gl)), (q 14, .inl (cI, 512, .inl gc)), (q 15, .inl (cZ, 512, .inl gp))] := hD
        exact hc155 o1 (upd gv ca ((gv ca) + (nI 1))) (upd gr ca (gr ca))  (by first | exact hple | exact hplv) (by first | exact ⟨hple, Or.inl ⟨fp90, rfl, rfl⟩⟩ | exact ⟨hplv, Or.inr ⟨hm2 ▸ fp90, hv104, pk_us, Or.inl ⟨c134, pk_us⟩⟩⟩ | exact ⟨hplv, Or.inr ⟨hm2 ▸ fp90, hv104, pk_us, Or.inr ⟨c134, pk_us⟩⟩⟩) (by first | exact fun _ _ => ⟨rfl, rfl⟩ | exact fun j hj => ⟨pk_un hj, pk_un hj⟩) _ _ (hP.sub [8, 0, 9, 10, 1, 2, 3, 4, 5, 7, 6, 11, 12, 13] rfl) (hD.sub [8, 0, 9, 10, 1, 2, 3, 4, 5, 7, 6, 11, 12, 13] (by decide) rfl) hS ls (lv_sub hl [4, 5, 7, 3, 2, 0, 1] rfl)
      · skip
        refine lv_aload_n hx hb kd_M_see_137 rfl (lv_at hl 4 rfl) ?_
        refine va_get (D := (dC, dI)) (ci := 3) (v := .ref (q 10)) (C := zk_RM) (T := zk_TM) (N := 22) hx hb hts kl_M hown hK hP 8 rfl rfl 11 (by decide) (hts _ kj_357) (fun _ h9 => h9) rfl kd_M_see_138 ?_
        refine lv_iload_n hx hb kd_M_see_141 rfl (lv_at hl 5 rfl) ?_
        refine zz_iald hx hb hK hP 5 0 rfl rfl (k := ca) (by omega) (by decide) kd_M_see_142 ?_
        refine lv_iconst (v := nI 1) hx hb kd_M_see_143 (by decide) ?_
        refine lv_iadd hx hb kd_M_see_144 ?_
        refine lv_goto (tgt := 154) hx hb kd_M_see_145 (by decide) ?_
        refine zz_iast hx hb hK hP hD hS 5 0 rfl rfl (k := ca) (by omega) (by decide) kd_M_see_154 (fun H locs hP hD hS => ?_)
        have hP : va_P (dC, dI) zk_cl [(q 3, .inl (cI, 4, .inl gsb)), (q 6, .inl (cI, 4, .inl gbt)), (q 7, .inl (cI, 4, .inl gh)), (q 8, .inl (cI, 4, .inl (upd gm ca ((gm ca) + (nI 1))))), (q 9, .inl (cI, 4, .inl (upd gv ca ((gv ca) + (nI 1))))), (q 10, .inl (cI, 4, .inl (upd gr ca ((gr ca) + (nI 1))))), (q 12, .inl (cZ, 512, .inl gd)), (q 11, .inl (cI, 512, .inl gb)), (q 0, zm_ob q th n lc kp), (q 4, .inl (cI, 4, .inl gw)), (q 5, .inl (cI, 4, .inl gk)), (q 13, .inl (cI, 512, .inl gl)), (q 14, .inl (cI, 512, .inl gc)), (q 15, .inl (cZ, 512, .inl gp))] H := hP
        have hD : va_D A [(q 3, .inl (cI, 4, .inl gsb)), (q 6, .inl (cI, 4, .inl gbt)), (q 7, .inl (cI, 4, .inl gh)), (q 8, .inl (cI, 4, .inl (upd gm ca ((gm ca) + (nI 1))))), (q 9, .inl (cI, 4, .inl (upd gv ca ((gv ca) + (nI 1))))), (q 10, .inl (cI, 4, .inl (upd gr ca ((gr ca) + (nI 1))))), (q 12, .inl (cZ, 512, .inl gd)), (q 11, .inl (cI, 512, .inl gb)), (q 0, zm_ob q th n lc kp), (q 4, .inl (cI, 4, .inl gw)), (q 5, .inl (cI, 4, .inl gk)), (q 13, .inl (cI, 512, .inl gl)), (q 14, .inl (cI, 512, .inl gc)), (q 15, .inl (cZ, 512, .inl gp))] := hD
        exact hc155 o1 (upd gv ca ((gv ca) + (nI 1))) (upd gr ca ((gr ca) + (nI 1)))  (by first | exact hple | exact hplv) (by first | exact ⟨hple, Or.inl ⟨fp90, rfl, rfl⟩⟩ | exact ⟨hplv, Or.inr ⟨hm2 ▸ fp90, hv104, pk_us, Or.inl ⟨c134, pk_us⟩⟩⟩ | exact ⟨hplv, Or.inr ⟨hm2 ▸ fp90, hv104, pk_us, Or.inr ⟨c134, pk_us⟩⟩⟩) (by first | exact fun _ _ => ⟨rfl, rfl⟩ | exact fun j hj => ⟨pk_un hj, pk_un hj⟩) _ _ (hP.sub [8, 0, 9, 10, 1, 2, 3, 4, 5, 7, 6, 11, 12, 13] rfl) (hD.sub [8, 0, 9, 10, 1, 2, 3, 4, 5, 7, 6, 11, 12, 13] (by decide) rfl) hS ls (lv_sub hl [4, 5, 7, 3, 2, 0, 1] rfl)
  · skip
    obtain ⟨pl0, hpl0, rfl⟩ := zf_FP_pos fp40 c47
    refine lv_iconst (v := nI 1) hx hb kd_M_see_50 (by decide) ?_
    refine lv_goto (tgt := 55) hx hb kd_M_see_51 (by decide) ?_
    refine lv_istore (lv' := [(7, .int (nI 1)), (6, .int (nI pl0)), (5, .int (nI ao)), (4, .int (nI b)), (0, .ref (q 0)), (1, .int (nI ca)), (2, .int (nI ad)), (3, .int wr)]) hx hb kd_M_see_55 hl (by decide) rfl (fun ls hl => ?_)
    refine lv_iload hx hb kd_M_see_57 (lv_at hl 0 rfl) ?_
    refine zz_if_eq (tgt := 75) hx hb kd_M_see_59 (by decide) (by decide) (fun c9 => absurd c9 (by decide)) (fun _ => ?_)
    refine lv_aload_n hx hb kd_M_see_62 rfl (lv_at hl 4 rfl) ?_
    refine va_get (D := (dC, dI)) (ci := 3) (v := .ref (q 7)) (C := zk_RM) (T := zk_TM) (N := 22) hx hb hts kl_M hown hK hP 11 rfl rfl 8 (by decide) (hts _ kj_354) (fun _ h9 => h9) rfl kd_M_see_63 ?_
    refine lv_iload_n hx hb kd_M_see_66 rfl (lv_at hl 5 rfl) ?_
    refine lv_dup2_11 hx hb kd_M_see_67 rfl rfl ?_
    refine zz_iald hx hb hK hP 3 0 rfl rfl (k := ca) (by omega) (by decide) kd_M_see_68 ?_
    refine lv_iconst (v := nI 1) hx hb kd_M_see_69 (by decide) ?_
    refine lv_iadd hx hb kd_M_see_70 ?_
    refine zz_iast hx hb hK hP hD hS 3 0 rfl rfl (k := ca) (by omega) (by decide) kd_M_see_71 (fun H locs hP hD hS => ?_)
    have hP : va_P (dC, dI) zk_cl [(q 3, .inl (cI, 4, .inl gsb)), (q 5, .inl (cI, 4, .inl gk)), (q 6, .inl (cI, 4, .inl gbt)), (q 7, .inl (cI, 4, .inl (upd gh ca ((gh ca) + (nI 1))))), (q 8, .inl (cI, 4, .inl gm)), (q 9, .inl (cI, 4, .inl gv)), (q 10, .inl (cI, 4, .inl gr)), (q 12, .inl (cZ, 512, .inl gd)), (q 13, .inl (cI, 512, .inl gl)), (q 14, .inl (cI, 512, .inl gc)), (q 15, .inl (cZ, 512, .inl gp)), (q 0, zm_ob q th n lc kp), (q 4, .inl (cI, 4, .inl gw)), (q 11, .inl (cI, 512, .inl gb))] H := hP
    have hD : va_D A [(q 3, .inl (cI, 4, .inl gsb)), (q 5, .inl (cI, 4, .inl gk)), (q 6, .inl (cI, 4, .inl gbt)), (q 7, .inl (cI, 4, .inl (upd gh ca ((gh ca) + (nI 1))))), (q 8, .inl (cI, 4, .inl gm)), (q 9, .inl (cI, 4, .inl gv)), (q 10, .inl (cI, 4, .inl gr)), (q 12, .inl (cZ, 512, .inl gd)), (q 13, .inl (cI, 512, .inl gl)), (q 14, .inl (cI, 512, .inl gc)), (q 15, .inl (cZ, 512, .inl gp)), (q 0, zm_ob q th n lc kp), (q 4, .inl (cI, 4, .inl gw)), (q 11, .inl (cI, 512, .inl gb))] := hD
    refine lv_goto (tgt := 192) hx hb kd_M_see_72 (by decide) ?_
    exact hc192 1 pl0 (upd gh ca ((gh ca) + (nI 1))) gm gv gr gb gd gc  (by first | exact hpl0 | exact hpl) (by first | exact Or.inl ⟨rfl, fp40, rfl, rfl, rfl, rfl, rfl, rfl⟩ | exact Or.inr ⟨rfl, hm1 ▸ fp40, hbi, hoth, rfl, rfl, rfl, rfl⟩) (by first | exact ⟨fun _ _ => rfl, by rw [if_pos rfl]⟩ | exact ⟨fun j hj => pk_un hj, by rw [pk_us, if_neg (by decide)]; rfl⟩) _ _ (hP.sub [11, 0, 12, 1, 2, 3, 4, 5, 6, 13, 7, 8, 9, 10] rfl) (hD.sub [11, 0, 12, 1, 2, 3, 4, 5, 6, 13, 7, 8, 9, 10] (by decide) rfl) hS ls (lv_sub hl [4, 5, 7, 2, 1, 0] rfl)
