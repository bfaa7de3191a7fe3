def rm_cm_best : Room := { frames := 1, cells := 0, slots := 0, locals := 23 }
set_option maxHeartbeats 4000000 in
set_option maxRecDepth 100000 in
/-- the best -/
theorem cm_best (l : Launch) (dC : Nat → ClassId) (dI : Nat → Nat → Nat) (cI cZ cO cL : ClassId) (q : Nat → Nat) (th : Nat) (n : Nat) (lc : Nat) (kp : Nat) (ga : Nat → Int32) (ge : Nat → Int32) (ad : Nat → Nat) (x : Int32) (y : Int32) (hn : n ≤ 400) (hga : ∀ j, j < n → ga j = nI (ad j) ∧ ad j < 4096) : zz_Mi l ky_M_best kw_M_best rm_cm_best (dC, dI) (zz_ty cI cZ cO cL) [(q 0, zm_ob q th n lc kp), (q 1, .inl (cI, 400, .inl ga)), (q 18, .inl (cI, 400, .inl ge))] [.ref (q 0), .int x, .int y] (fun (r : Int32) (w : va_W) => ∃ (t2 : Nat), ∃ (kp2 : Nat), ∃ (ge2 : Nat → Int32), w = [(q 0, zm_ob q t2 n lc kp2), (q 1, .inl (cI, 400, .inl ga)), (q 18, .inl (cI, 400, .inl ge2))] ∧ (zm_bs n ad x y r t2)) 0 0 := by
  refine zz_entry_i (cc := kb_M_best) (maxL := 9) (own := zk_RM) (by decide) rfl rfl (Nat.le_of_ble_eq_true rfl) ?_
  intro p e s m args below meth c Q hx hb hml hown hts hin hP hK A hD hA hS hret ls hl
  have hl : lv_has ls 9 [(0, .ref (q 0)), (1, .int x), (2, .int y)] := hl
  obtain ⟨H, eH⟩ : ∃ z, z = s.heap := ⟨_, rfl⟩
  obtain ⟨locs, eL⟩ : ∃ z : List Loc, z = [] := ⟨_, rfl⟩
  rw [← eH] at hP ⊢
  have hS : va_S A s.heap H locs := by rw [eH, eL]; exact hS
  rw [← eL]
  refine lv_aload_n hx hb kd_M_best_0 rfl (lv_at hl 0 rfl) ?_
  refine lv_iload_n hx hb kd_M_best_1 rfl (lv_at hl 1 rfl) ?_
  refine lv_iconst (v := nI 1) hx hb kd_M_best_2 (by decide) ?_
  refine lv_bipush (v := nI 64) hx hb kd_M_best_3 (by decide) ?_
  refine zz_iS (As := [.int x, .int (nI 1), .int (nI 64)]) (rest := [.ref (q 0)]) (wc := []) (wr := [(q 0, zm_ob q th n lc kp), (q 1, .inl (cI, 400, .inl ga)), (q 18, .inl (cI, 400, .inl ge))]) ⟨hx, hb, hml, hown, hts⟩ (cm_in l dC dI cI cZ cO cL x (nI 1) (nI 64) ) (zz_cwS hts kj_400 kj_27 kj_398 kj_399 kz_M_in rfl rfl ⟨Nat.le_of_ble_eq_true rfl, Nat.le_of_ble_eq_true rfl⟩) hP hD hK hS hA rfl hl.1 rfl (Nat.le_of_ble_eq_true rfl) kd_M_best_5 ⟨by decide, by decide⟩ (fun r9 w9 H locs hw hP hD hS => ?_)
  obtain ⟨h_1, rfl, rfl, hin5, hb15⟩ := hw
  have hP : va_P (dC, dI) zk_cl [(q 0, zm_ob q th n lc kp), (q 1, .inl (cI, 400, .inl ga)), (q 18, .inl (cI, 400, .inl ge))] H := hP
  have hD : va_D A [(q 0, zm_ob q th n lc kp), (q 1, .inl (cI, 400, .inl ga)), (q 18, .inl (cI, 400, .inl ge))] := hD
  refine zz_if_eq (tgt := 21) hx hb kd_M_best_8 (by decide) (by omega) (fun c8 => ?_) (fun c8 => ?_)
  · skip
    refine lv_iconst (v := nI 1) hx hb kd_M_best_21 (by decide) ?_
    refine lv_goto (tgt := 26) hx hb kd_M_best_22 (by decide) ?_
    refine lv_iconst (v := nI 0) hx hb kd_M_best_26 (by decide) ?_
    refine lv_iconst (v := nI 0) hx hb kd_M_best_27 (by decide) ?_
    refine zz_iV (As := [.int (nI 1), .int (nI 0), .int (nI 0)]) (rest := []) (wc := [(q 0, zm_ob q th n lc kp)]) (wr := [(q 1, .inl (cI, 400, .inl ga)), (q 18, .inl (cI, 400, .inl ge))]) ⟨hx, hb, hml, hown, hts⟩ (cm_refuse l dC dI cI cZ cO cL q th n lc kp 1 0 0 (by omega) (by omega) (by omega)) (zz_cwV hts kj_403 kj_27 kj_401 kj_402 kj_13 kz_M_refuse rfl rfl ⟨Nat.le_of_ble_eq_true rfl, Nat.le_of_ble_eq_true rfl⟩) (hP.sub [1, 2, 0] rfl) (hD.sub [1, 2, 0] (by decide) rfl) hK hS hA (q0 := 0) rfl rfl rfl rfl hl.1 rfl (Nat.le_of_ble_eq_true rfl) kd_M_best_28 ⟨by decide, by decide⟩ (fun r9 w9 H locs hw hP hD hS => ?_)
    obtain ⟨t1, h0, rfl, rfl, hrf28, hh28, hb128⟩ := hw
    have hP : va_P (dC, dI) zk_cl [(q 1, .inl (cI, 400, .inl ga)), (q 18, .inl (cI, 400, .inl ge)), (q 0, zm_ob q t1 n lc kp)] H := hP
    have hD : va_D A [(q 1, .inl (cI, 400, .inl ga)), (q 18, .inl (cI, 400, .inl ge)), (q 0, zm_ob q t1 n lc kp)] := hD
    refine zz_if_eq (tgt := 36) hx hb kd_M_best_31 (by decide) (by omega) (fun c31 => ?_) (fun c31 => ?_)
    · skip
      exact absurd c31 (by unfold zm_rf at hrf28; omega)
    · skip
      refine lv_iconst (v := nI 0) hx hb kd_M_best_34 (by decide) ?_
      exact hret _ _ _ _ _ _ kd_M_best_35 (hP.sub [2, 0, 1] rfl) (hD.sub [2, 0, 1] (by decide) rfl) hS (⟨t1, kp, ge, rfl, (Or.inl ⟨by unfold zm_rf at hrf28; omega, by first | exact Or.inl (fun k a b => zm_in0 (by decide) (by decide) hin5 c8 k a b) | exact Or.inr (fun k a => zm_in0 (by decide) (by decide) hin15 c18 k (by omega) a)⟩)⟩)
  · skip
    obtain ⟨li, hli1, hli2, ex⟩ := zm_inN (by decide) (by decide) hin5 c8
    subst ex
    refine lv_iload_n hx hb kd_M_best_11 rfl (lv_at hl 2 rfl) ?_
    refine lv_iconst (v := nI 0) hx hb kd_M_best_12 (by decide) ?_
    refine lv_bipush (v := nI 6) hx hb kd_M_best_13 (by decide) ?_
    refine zz_iS (As := [.int y, .int (nI 0), .int (nI 6)]) (rest := [.ref (q 0)]) (wc := []) (wr := [(q 0, zm_ob q th n lc kp), (q 1, .inl (cI, 400, .inl ga)), (q 18, .inl (cI, 400, .inl ge))]) ⟨hx, hb, hml, hown, hts⟩ (cm_in l dC dI cI cZ cO cL y (nI 0) (nI 6) ) (zz_cwS hts kj_400 kj_27 kj_398 kj_399 kz_M_in rfl rfl ⟨Nat.le_of_ble_eq_true rfl, Nat.le_of_ble_eq_true rfl⟩) hP hD hK hS hA rfl hl.1 rfl (Nat.le_of_ble_eq_true rfl) kd_M_best_15 ⟨by decide, by decide⟩ (fun r9 w9 H locs hw hP hD hS => ?_)
    obtain ⟨h_4, rfl, rfl, hin15, hb115⟩ := hw
    have hP : va_P (dC, dI) zk_cl [(q 0, zm_ob q th n lc kp), (q 1, .inl (cI, 400, .inl ga)), (q 18, .inl (cI, 400, .inl ge))] H := hP
    have hD : va_D A [(q 0, zm_ob q th n lc kp), (q 1, .inl (cI, 400, .inl ga)), (q 18, .inl (cI, 400, .inl ge))] := hD
    refine zz_if_ne (tgt := 25) hx hb kd_M_best_18 (by decide) (by omega) (fun c18 => ?_) (fun c18 => ?_)
    · skip
      obtain ⟨bb, hbb1, hbb, ey⟩ := zm_inN (by decide) (by decide) hin15 c18
      subst ey
      refine lv_iconst (v := nI 0) hx hb kd_M_best_25 (by decide) ?_
      refine lv_iconst (v := nI 0) hx hb kd_M_best_26 (by decide) ?_
      refine lv_iconst (v := nI 0) hx hb kd_M_best_27 (by decide) ?_
      refine zz_iV (As := [.int (nI 0), .int (nI 0), .int (nI 0)]) (rest := []) (wc := [(q 0, zm_ob q th n lc kp)]) (wr := [(q 1, .inl (cI, 400, .inl ga)), (q 18, .inl (cI, 400, .inl ge))]) ⟨hx, hb, hml, hown, hts⟩ (cm_refuse l dC dI cI cZ cO cL q th n lc kp 0 0 0 (by omega) (by omega) (by omega)) (zz_cwV hts kj_403 kj_27 kj_401 kj_402 kj_13 kz_M_refuse rfl rfl ⟨Nat.le_of_ble_eq_true rfl, Nat.le_of_ble_eq_true rfl⟩) (hP.sub [1, 2, 0] rfl) (hD.sub [1, 2, 0] (by decide) rfl) hK hS hA (q0 := 0) rfl rfl rfl rfl hl.1 rfl (Nat.le_of_ble_eq_true rfl) kd_M_best_28 ⟨by decide, by decide⟩ (fun r9 w9 H locs hw hP hD hS => ?_)
      obtain ⟨t1, h0, rfl, rfl, hrf28, hh28, hb128⟩ := hw
      have hP : va_P (dC, dI) zk_cl [(q 1, .inl (cI, 400, .inl ga)), (q 18, .inl (cI, 400, .inl ge)), (q 0, zm_ob q t1 n lc kp)] H := hP
      have hD : va_D A [(q 1, .inl (cI, 400, .inl ga)), (q 18, .inl (cI, 400, .inl ge)), (q 0, zm_ob q t1 n lc kp)] := hD
      refine zz_if_eq (tgt := 36) hx hb kd_M_best_31 (by decide) (by omega) (fun c31 => ?_) (fun c31 => ?_)
      · skip
        refine lv_aload_n hx hb kd_M_best_36 rfl (lv_at hl 0 rfl) ?_
        refine lv_iconst (v := nI 0) hx hb kd_M_best_37 (by decide) ?_
        refine va_put (D := (dC, dI)) (ci := 3) (v := .int (nI 0)) (ty := .int) (C := zk_RM) (T := zk_TM) (N := 22) hx hb hts kl_M zk_tM zk_kM zk_nM hown hK hP hD hS 2 rfl rfl 20 (by decide) (hts _ kj_366) (fun _ h9 => h9) rfl (by decide +kernel) rfl rfl (Nat.le_of_ble_eq_true rfl) kd_M_best_38 (fun H locs hP hD hS => ?_)
        have hP : va_P (dC, dI) zk_cl [(q 1, .inl (cI, 400, .inl ga)), (q 18, .inl (cI, 400, .inl ge)), (q 0, zm_ob q t1 n lc 0)] H := hP
        have hD : va_D A [(q 1, .inl (cI, 400, .inl ga)), (q 18, .inl (cI, 400, .inl ge)), (q 0, zm_ob q t1 n lc 0)] := hD
        obtain ⟨nx, hnx⟩ := zx_all n (fun i => ad i / 2 ^ bb)
        refine lv_iconst (v := nI 0) hx hb kd_M_best_41 (by decide) ?_
        refine lv_istore_n (lv' := [(3, .int (nI 0)), (0, .ref (q 0)), (1, .int (nI li)), (2, .int (nI bb))]) hx hb kd_M_best_42 rfl hl (by decide) rfl (fun ls hl => ?_)
        refine lv_iconst (v := nI 0) hx hb kd_M_best_43 (by decide) ?_
        refine lv_istore (lv' := [(4, .int (nI 0)), (3, .int (nI 0)), (0, .ref (q 0)), (1, .int (nI li)), (2, .int (nI bb))]) hx hb kd_M_best_44 hl (by decide) rfl (fun ls hl => ?_)
        have hc46 : ∀ (nn : Nat), ∀ (t : Nat) (cn : Nat) (kp1 : Nat) (E : List Nat) (ge1 : Nat → Int32), n - t < nn → (t ≤ n) → (zb_R li nx t E cn) → (zl_at ge1 E) → (kp1 = E.length) → ∀ (H : Heap) (locs : List Loc), va_P (dC, dI) zk_cl [(q 0, zm_ob q t1 n lc kp1), (q 1, .inl (cI, 400, .inl ga)), (q 18, .inl (cI, 400, .inl ge1))] H → va_D A [(q 0, zm_ob q t1 n lc kp1), (q 1, .inl (cI, 400, .inl ga)), (q 18, .inl (cI, 400, .inl ge1))] → va_S A s.heap H locs → ∀ ls : Array Slot, lv_has ls 9 [(0, .ref (q 0)), (1, .int (nI li)), (2, .int (nI bb)), (3, .int (nI cn)), (4, .int (nI t))] → W p l e rm_cm_best s m args below meth c H locs 0 0 Q (F0 m 46 ls []) := by
          intro nn
          induction nn with
          | zero => intro t cn kp1 E ge1 hm; exact absurd hm (Nat.not_lt_zero _)
          | succ nn ih =>
            intro t cn kp1 E ge1 hm ht hR hE hkp H locs hP hD hS ls hl
            have hL := zb_R_len hli1 t E cn hR
            have hcn := zb_R_cnt hli1 hli2 t E cn hR
            refine lv_iload hx hb kd_M_best_46 (lv_at hl 4 rfl) ?_
            refine lv_aload_n hx hb kd_M_best_48 rfl (lv_at hl 0 rfl) ?_
            refine va_get (D := (dC, dI)) (ci := 3) (v := .int (nI n)) (C := zk_RM) (T := zk_TM) (N := 22) hx hb hts kl_M hown hK hP 0 rfl rfl 1 (by decide) (hts _ kj_347) (fun _ h9 => h9) rfl kd_M_best_49 ?_
            refine zz_icmp_ge (tgt := 228) hx hb kd_M_best_52 (by decide) (by omega) (by omega) (fun c52 => ?_) (fun c52 => ?_)
            · skip
              refine lv_iload_n hx hb kd_M_best_228 rfl (lv_at hl 3 rfl) ?_
              exact hret _ _ _ _ _ _ kd_M_best_229 hP hD hS (⟨t1, kp1, ge1, rfl, (Or.inr ⟨by unfold zm_rf at hrf28; omega, li, bb, cn, nx, E, rfl, rfl, hli1, hli2, hbb, rfl, hnx, (show t = n by omega) ▸ hR⟩)⟩)
            · skip
              have hc101 : ∀ (kp2 : Nat) (E1 : List Nat) (ge2 : Nat → Int32), (zl_at ge2 E1) → (kp2 = E1.length) → (E1 = zb_in nx t E) → ∀ (H : Heap) (locs : List Loc), va_P (dC, dI) zk_cl [(q 0, zm_ob q t1 n lc kp2), (q 1, .inl (cI, 400, .inl ga)), (q 18, .inl (cI, 400, .inl ge2))] H → va_D A [(q 0, zm_ob q t1 n lc kp2), (q 1, .inl (cI, 400, .inl ga)), (q 18, .inl (cI, 400, .inl ge2))] → va_S A s.heap H locs → ∀ ls : Array Slot, lv_has ls 9 [(0, .ref (q 0)), (1, .int (nI li)), (2, .int (nI bb)), (3, .int (nI cn)), (4, .int (nI t))] → W p l e rm_cm_best s m args below meth c H locs 0 0 Q (F0 m 101 ls []) := by
                intro kp2 E1 ge2 hE1 hkp2 hin H locs hP hD hS ls hl
                have hk64 : kp2 ≤ 64 := by
                  have z := zb_in_len (nx := nx) (t := t) (E := E)
                  rw [← hin] at z
                  omega
                refine lv_iconst (v := nI 0) hx hb kd_M_best_101 (by decide) ?_
                refine lv_istore (lv' := [(6, .int (nI 0)), (0, .ref (q 0)), (1, .int (nI li)), (2, .int (nI bb)), (3, .int (nI cn)), (4, .int (nI t))]) hx hb kd_M_best_102 hl (by decide) rfl (fun ls hl => ?_)
                refine lv_iconst (v := (-1)) hx hb kd_M_best_104 (by decide) ?_
                refine lv_istore (lv' := [(7, .int (-1)), (6, .int (nI 0)), (0, .ref (q 0)), (1, .int (nI li)), (2, .int (nI bb)), (3, .int (nI cn)), (4, .int (nI t))]) hx hb kd_M_best_105 hl (by decide) rfl (fun ls hl => ?_)
                refine lv_iconst (v := nI 0) hx hb kd_M_best_107 (by decide) ?_
                refine lv_istore (lv' := [(8, .int (nI 0)), (7, .int (-1)), (6, .int (nI 0)), (0, .ref (q 0)), (1, .int (nI li)), (2, .int (nI bb)), (3, .int (nI cn)), (4, .int (nI t))]) hx hb kd_M_best_108 hl (by decide) rfl (fun ls hl => ?_)
                have hc110 : ∀ (nn : Nat), ∀ (k : Nat) (lf : Nat) (c2 : Nat) (la : Int32) (ge3 : Nat → Int32), kp2 - k < nn → (k ≤ kp2) → (lf = (zE_f E1 t k).length) → (zl_at ge3 (zE_f E1 t k)) → (∀ j, k ≤ j → j < E1.length → ge3 j = nI (E1.getD j 0)) → (zf_LX ge3 lf la) → (c2 = cn + (E1.take k).count t) → ∀ (H : Heap) (locs : List Loc), va_P (dC, dI) zk_cl [(q 0, zm_ob q t1 n lc kp2), (q 1, .inl (cI, 400, .inl ga)), (q 18, .inl (cI, 400, .inl ge3))] H → va_D A [(q 0, zm_ob q t1 n lc kp2), (q 1, .inl (cI, 400, .inl ga)), (q 18, .inl (cI, 400, .inl ge3))] → va_S A s.heap H locs → ∀ ls : Array Slot, lv_has ls 9 [(0, .ref (q 0)), (1, .int (nI li)), (2, .int (nI bb)), (3, .int (nI c2)), (4, .int (nI t)), (6, .int (nI lf)), (7, .int la), (8, .int (nI k))] → W p l e rm_cm_best s m args below meth c H locs 0 0 Q (F0 m 110 ls []) := by
                  intro nn
                  induction nn with
                  | zero => intro k lf c2 la ge3 hm; exact absurd hm (Nat.not_lt_zero _)
                  | succ nn ih110 =>
                    intro k lf c2 la ge3 hm hk hlf hF hB hla hc2 H locs hP hD hS ls hl
                    have hle := zE_le (E := E1) (t := t) (k := k)
                    refine lv_iload hx hb kd_M_best_110 (lv_at hl 7 rfl) ?_
                    refine lv_aload_n hx hb kd_M_best_112 rfl (lv_at hl 0 rfl) ?_
                    refine va_get (D := (dC, dI)) (ci := 3) (v := .int (nI kp2)) (C := zk_RM) (T := zk_TM) (N := 22) hx hb hts kl_M hown hK hP 0 rfl rfl 20 (by decide) (hts _ kj_366) (fun _ h9 => h9) rfl kd_M_best_113 ?_
                    refine zz_icmp_ge (tgt := 191) hx hb kd_M_best_116 (by decide) (by omega) (by omega) (fun c116 => ?_) (fun c116 => ?_)
                    · skip
                      refine lv_iload hx hb kd_M_best_191 (lv_at hl 5 rfl) ?_
                      refine lv_iload_n hx hb kd_M_best_193 rfl (lv_at hl 1 rfl) ?_
                      refine lv_iconst (v := nI 1) hx hb kd_M_best_194 (by decide) ?_
                      refine lv_isub hx hb kd_M_best_195 ?_
                      refine zz_top (y := nI (li - 1)) (pk_sub (by omega)) ?_
                      refine zz_icmp_le (tgt := 216) hx hb kd_M_best_196 (by decide) (by omega) (by omega) (fun c196 => ?_) (fun c196 => ?_)
                      · skip
                        refine lv_aload_n hx hb kd_M_best_216 rfl (lv_at hl 0 rfl) ?_
                        refine lv_iload hx hb kd_M_best_217 (lv_at hl 5 rfl) ?_
                        refine va_put (D := (dC, dI)) (ci := 3) (v := .int (nI lf)) (ty := .int) (C := zk_RM) (T := zk_TM) (N := 22) hx hb hts kl_M zk_tM zk_kM zk_nM hown hK hP hD hS 0 rfl rfl 20 (by decide) (hts _ kj_366) (fun _ h9 => h9) rfl (by decide +kernel) rfl rfl (Nat.le_of_ble_eq_true rfl) kd_M_best_219 (fun H locs hP hD hS => ?_)
                        have hP : va_P (dC, dI) zk_cl [(q 0, zm_ob q t1 n lc lf), (q 1, .inl (cI, 400, .inl ga)), (q 18, .inl (cI, 400, .inl ge3))] H := hP
                        have hD : va_D A [(q 0, zm_ob q t1 n lc lf), (q 1, .inl (cI, 400, .inl ga)), (q 18, .inl (cI, 400, .inl ge3))] := hD
                        refine lv_iinc (v := nI (t + 1)) (lv' := [(4, .int (nI (t + 1))), (0, .ref (q 0)), (1, .int (nI li)), (2, .int (nI bb)), (3, .int (nI c2)), (6, .int (nI lf)), (7, .int la), (8, .int (nI k))]) hx hb kd_M_best_222 hl (k := 4) rfl (by first | exact nI_1 _ | (show _ + _ = _; exact nI_1 _)) (by decide) rfl (fun ls hl => ?_)
                        refine lv_goto (tgt := 46) hx hb kd_M_best_225 (by decide) ?_
                        exact ih (t + 1) c2 lf (zE_f E1 t k) ge3 (by omega) (by omega) (by first | exact zb_R_s1 hR hin (by omega) hc2 (by omega) | exact zb_R_s2 hR hin (by omega) hc2 (by omega) hF (hlf ▸ hax)) (by first | exact hF | (have z := (zE_drop hF (hlf ▸ hm)).1; rw [← hlf] at z ⊢; exact z)) (by first | exact hlf | (rw [(zE_drop hF (hlf ▸ hm)).2.2, ← hlf])) _ _ hP hD hS ls (lv_sub hl [1, 2, 3, 4, 0] rfl)
                      · skip
                        obtain ⟨m, rfl, hax⟩ : ∃ m, la = nI m ∧ zf_AX ge3 lf m := by
                          rcases hla with ⟨z, _⟩ | z
                          · omega
                          · exact z
                        have hm := hax.1
                        refine lv_iinc (v := nI (lf - 1)) (lv' := [(6, .int (nI (lf - 1))), (0, .ref (q 0)), (1, .int (nI li)), (2, .int (nI bb)), (3, .int (nI c2)), (4, .int (nI t)), (7, .int (nI m)), (8, .int (nI k))]) hx hb kd_M_best_199 hl (k := 5) rfl (by first | exact zn_dec (by omega) | (show _ + _ = _; exact zn_dec (by omega))) (by decide) rfl (fun ls hl => ?_)
                        refine lv_aload_n hx hb kd_M_best_202 rfl (lv_at hl 1 rfl) ?_
                        refine va_get (D := (dC, dI)) (ci := 3) (v := .ref (q 18)) (C := zk_RM) (T := zk_TM) (N := 22) hx hb hts kl_M hown hK hP 0 rfl rfl 21 (by decide) (hts _ kj_367) (fun _ h9 => h9) rfl kd_M_best_203 ?_
                        refine lv_iload hx hb kd_M_best_206 (lv_at hl 6 rfl) ?_
                        refine lv_aload_n hx hb kd_M_best_208 rfl (lv_at hl 1 rfl) ?_
                        refine va_get (D := (dC, dI)) (ci := 3) (v := .ref (q 18)) (C := zk_RM) (T := zk_TM) (N := 22) hx hb hts kl_M hown hK hP 0 rfl rfl 21 (by decide) (hts _ kj_367) (fun _ h9 => h9) rfl kd_M_best_209 ?_
                        refine lv_iload hx hb kd_M_best_212 (lv_at hl 0 rfl) ?_
                        refine zz_iald hx hb hK hP 2 0 rfl rfl (k := lf - 1) (by omega) (by decide) kd_M_best_214 ?_
                        refine zz_top (y := nI ((zE_f E1 t k).getD (lf - 1) 0)) ((hF (lf - 1) (by omega)).1) ?_
                        refine zz_iast hx hb hK hP hD hS 2 0 rfl rfl (k := m) (by omega) (by decide) kd_M_best_215 (fun H locs hP hD hS => ?_)
                        have hP : va_P (dC, dI) zk_cl [(q 0, zm_ob q t1 n lc kp2), (q 1, .inl (cI, 400, .inl ga)), (q 18, .inl (cI, 400, .inl (upd ge3 m (nI ((zE_f E1 t k).getD (lf - 1) 0)))))] H := hP
                        have hD : va_D A [(q 0, zm_ob q t1 n lc kp2), (q 1, .inl (cI, 400, .inl ga)), (q 18, .inl (cI, 400, .inl (upd ge3 m (nI ((zE_f E1 t k).getD (lf - 1) 0)))))] := hD
                        refine lv_aload_n hx hb kd_M_best_216 rfl (lv_at hl 1 rfl) ?_
                        refine lv_iload hx hb kd_M_best_217 (lv_at hl 0 rfl) ?_
                        refine va_put (D := (dC, dI)) (ci := 3) (v := .int (nI (lf - 1))) (ty := .int) (C := zk_RM) (T := zk_TM) (N := 22) hx hb hts kl_M zk_tM zk_kM zk_nM hown hK hP hD hS 0 rfl rfl 20 (by decide) (hts _ kj_366) (fun _ h9 => h9) rfl (by decide +kernel) rfl rfl (Nat.le_of_ble_eq_true rfl) kd_M_best_219 (fun H locs hP hD hS => ?_)
                        have hP : va_P (dC, dI) zk_cl [(q 0, zm_ob q t1 n lc (lf - 1)), (q 1, .inl (cI, 400, .inl ga)), (q 18, .inl (cI, 400, .inl (upd ge3 m (nI ((zE_f E1 t k).getD (lf - 1) 0)))))] H := hP
                        have hD : va_D A [(q 0, zm_ob q t1 n lc (lf - 1)), (q 1, .inl (cI, 400, .inl ga)), (q 18, .inl (cI, 400, .inl (upd ge3 m (nI ((zE_f E1 t k).getD (lf - 1) 0)))))] := hD
                        refine lv_iinc (v := nI (t + 1)) (lv' := [(4, .int (nI (t + 1))), (6, .int (nI (lf - 1))), (0, .ref (q 0)), (1, .int (nI li)), (2, .int (nI bb)), (3, .int (nI c2)), (7, .int (nI m)), (8, .int (nI k))]) hx hb kd_M_best_222 hl (k := 5) rfl (by first | exact nI_1 _ | (show _ + _ = _; exact nI_1 _)) (by decide) rfl (fun ls hl => ?_)
                        refine lv_goto (tgt := 46) hx hb kd_M_best_225 (by decide) ?_
                        exact ih (t + 1) c2 (lf - 1) (((zE_f E1 t k).set m ((zE_f E1 t k).getD ((zE_f E1 t k).length - 1) 0)).dropLast) (upd ge3 m (nI ((zE_f E1 t k).getD (lf - 1) 0))) (by omega) (by omega) (by first | exact zb_R_s1 hR hin (by omega) hc2 (by omega) | exact zb_R_s2 hR hin (by omega) hc2 (by omega) hF (hlf ▸ hax)) (by first | exact hF | (have z := (zE_drop hF (hlf ▸ hm)).1; rw [← hlf] at z ⊢; exact z)) (by first | exact hlf | (rw [(zE_drop hF (hlf ▸ hm)).2.2, ← hlf])) _ _ hP hD hS ls (lv_sub hl [2, 3, 4, 5, 0] rfl)
                    · skip
                      refine lv_aload_n hx hb kd_M_best_119 rfl (lv_at hl 0 rfl) ?_
                      refine va_get (D := (dC, dI)) (ci := 3) (v := .ref (q 18)) (C := zk_RM) (T := zk_TM) (N := 22) hx hb hts kl_M hown hK hP 0 rfl rfl 21 (by decide) (hts _ kj_367) (fun _ h9 => h9) rfl kd_M_best_120 ?_
                      refine lv_iload hx hb kd_M_best_123 (lv_at hl 7 rfl) ?_
                      refine zz_iald hx hb hK hP 2 0 rfl rfl (k := k) (by omega) (by decide) kd_M_best_125 ?_
                      refine zz_top (y := nI (E1.getD k 0)) (hB k (Nat.le_refl _) (by omega)) ?_
                      refine lv_iload hx hb kd_M_best_126 (lv_at hl 4 rfl) ?_
                      refine zz_icmp_ne (tgt := 137) hx hb kd_M_best_128 (by decide) (by have := (hE1 k (by omega)).2; omega) (by omega) (fun c128 => ?_) (fun c128 => ?_)
                      · skip
                        refine lv_aload_n hx hb kd_M_best_137 rfl (lv_at hl 0 rfl) ?_
                        refine va_get (D := (dC, dI)) (ci := 3) (v := .ref (q 18)) (C := zk_RM) (T := zk_TM) (N := 22) hx hb hts kl_M hown hK hP 0 rfl rfl 21 (by decide) (hts _ kj_367) (fun _ h9 => h9) rfl kd_M_best_138 ?_
                        refine lv_iload hx hb kd_M_best_141 (lv_at hl 5 rfl) ?_
                        refine lv_aload_n hx hb kd_M_best_143 rfl (lv_at hl 0 rfl) ?_
                        refine va_get (D := (dC, dI)) (ci := 3) (v := .ref (q 18)) (C := zk_RM) (T := zk_TM) (N := 22) hx hb hts kl_M hown hK hP 0 rfl rfl 21 (by decide) (hts _ kj_367) (fun _ h9 => h9) rfl kd_M_best_144 ?_
                        refine lv_iload hx hb kd_M_best_147 (lv_at hl 7 rfl) ?_
                        refine zz_iald hx hb hK hP 2 0 rfl rfl (k := k) (by omega) (by decide) kd_M_best_149 ?_
                        refine zz_top (y := nI (E1.getD k 0)) (hB k (Nat.le_refl _) (by omega)) ?_
                        refine zz_iast hx hb hK hP hD hS 2 0 rfl rfl (k := lf) (by omega) (by decide) kd_M_best_150 (fun H locs hP hD hS => ?_)
                        have hP : va_P (dC, dI) zk_cl [(q 0, zm_ob q t1 n lc kp2), (q 1, .inl (cI, 400, .inl ga)), (q 18, .inl (cI, 400, .inl (upd ge3 lf (nI (E1.getD k 0)))))] H := hP
                        have hD : va_D A [(q 0, zm_ob q t1 n lc kp2), (q 1, .inl (cI, 400, .inl ga)), (q 18, .inl (cI, 400, .inl (upd ge3 lf (nI (E1.getD k 0)))))] := hD
                        refine lv_iload hx hb kd_M_best_151 (lv_at hl 6 rfl) ?_
                        refine lv_if_lt (tgt := 173) hx hb kd_M_best_153 (by decide) (fun c153 => ?_) (fun c153 => ?_)
                        · skip
                          have hl0 := zf_LX_neg (by omega) hla c153
                          refine lv_iload hx hb kd_M_best_173 (lv_at hl 5 rfl) ?_
                          refine lv_goto (tgt := 180) hx hb kd_M_best_175 (by decide) ?_
                          refine lv_istore (lv' := [(7, .int (nI lf)), (0, .ref (q 0)), (1, .int (nI li)), (2, .int (nI bb)), (3, .int (nI c2)), (4, .int (nI t)), (6, .int (nI lf)), (8, .int (nI k))]) hx hb kd_M_best_180 hl (by decide) rfl (fun ls hl => ?_)
                          refine lv_iinc (v := nI (lf + 1)) (lv' := [(6, .int (nI (lf + 1))), (7, .int (nI lf)), (0, .ref (q 0)), (1, .int (nI li)), (2, .int (nI bb)), (3, .int (nI c2)), (4, .int (nI t)), (8, .int (nI k))]) hx hb kd_M_best_182 hl (k := 6) rfl (by first | exact nI_1 _ | (show _ + _ = _; exact nI_1 _)) (by decide) rfl (fun ls hl => ?_)
                          refine lv_iinc (v := nI (k + 1)) (lv' := [(8, .int (nI (k + 1))), (6, .int (nI (lf + 1))), (7, .int (nI lf)), (0, .ref (q 0)), (1, .int (nI li)), (2, .int (nI bb)), (3, .int (nI c2)), (4, .int (nI t))]) hx hb kd_M_best_185 hl (k := 7) rfl (by first | exact nI_1 _ | (show _ + _ = _; exact nI_1 _)) (by decide) rfl (fun ls hl => ?_)
                          refine lv_goto (tgt := 110) hx hb kd_M_best_188 (by decide) ?_
                          exact ih110 (k + 1) (lf + 1) c2 (nI lf) (upd ge3 lf (nI (E1.getD k 0))) (by omega) (by omega) (by first | (rw [zE_n (by omega) c128]; exact hlf) | (rw [zE_t (by omega) c128, List.length_append, ← hlf]; rfl)) (by first | (rw [zE_n (by omega) c128]; exact hF) | (rw [zE_t (by omega) c128]; have z := zl_push hF (hE1 k (by omega)).2; rw [← hlf] at z; exact z)) (by first | exact fun j a b => hB j (by omega) b | exact fun j a b => by rw [pk_un (by omega)]; exact hB j (by omega) b) (by first | exact hla | exact Or.inr ⟨lf, rfl, by rw [hl0]; exact zf_AX_1⟩ | exact Or.inr ⟨lf, rfl, zf_AX_t (zf_AX_c (fun j hj => pk_un (by omega)) hax) (zu_nle c170)⟩ | exact Or.inr ⟨m, rfl, zf_AX_f (zf_AX_c (fun j hj => pk_un (by omega)) hax) (zu_nlt c170)⟩) (by first | (rw [zE_cn (by omega) c128, hc2]; omega) | (rw [zE_ct (by omega) c128, hc2])) _ _ hP hD hS ls (lv_sub hl [3, 4, 5, 6, 7, 1, 2, 0] rfl)
                        · skip
                          obtain ⟨m, rfl, hax⟩ := zf_LX_pos hla c153
                          have hm := hax.1
                          refine lv_aload_n hx hb kd_M_best_156 rfl (lv_at hl 0 rfl) ?_
                          refine va_get (D := (dC, dI)) (ci := 3) (v := .ref (q 18)) (C := zk_RM) (T := zk_TM) (N := 22) hx hb hts kl_M hown hK hP 0 rfl rfl 21 (by decide) (hts _ kj_367) (fun _ h9 => h9) rfl kd_M_best_157 ?_
                          refine lv_iload hx hb kd_M_best_160 (lv_at hl 5 rfl) ?_
                          refine zz_iald hx hb hK hP 2 0 rfl rfl (k := lf) (by omega) (by decide) kd_M_best_162 ?_
                          refine lv_aload_n hx hb kd_M_best_163 rfl (lv_at hl 0 rfl) ?_
                          refine va_get (D := (dC, dI)) (ci := 3) (v := .ref (q 18)) (C := zk_RM) (T := zk_TM) (N := 22) hx hb hts kl_M hown hK hP 0 rfl rfl 21 (by decide) (hts _ kj_367) (fun _ h9 => h9) rfl kd_M_best_164 ?_
                          refine lv_iload hx hb kd_M_best_167 (lv_at hl 6 rfl) ?_
                          refine zz_iald hx hb hK hP 2 0 rfl rfl (k := m) (by omega) (by decide) kd_M_best_169 ?_
                          refine lv_icmp_le (tgt := 178) hx hb kd_M_best_170 (by decide) (fun c170 => ?_) (fun c170 => ?_)
                          · skip
                            refine lv_iload hx hb kd_M_best_178 (lv_at hl 6 rfl) ?_
                            refine lv_istore (lv' := [(7, .int (nI m)), (0, .ref (q 0)), (1, .int (nI li)), (2, .int (nI bb)), (3, .int (nI c2)), (4, .int (nI t)), (6, .int (nI lf)), (8, .int (nI k))]) hx hb kd_M_best_180 hl (by decide) rfl (fun ls hl => ?_)
                            refine lv_iinc (v := nI (lf + 1)) (lv' := [(6, .int (nI (lf + 1))), (7, .int (nI m)), (0, .ref (q 0)), (1, .int (nI li)), (2, .int (nI bb)), (3, .int (nI c2)), (4, .int (nI t)), (8, .int (nI k))]) hx hb kd_M_best_182 hl (k := 6) rfl (by first | exact nI_1 _ | (show _ + _ = _; exact nI_1 _)) (by decide) rfl (fun ls hl => ?_)
                            refine lv_iinc (v := nI (k + 1)) (lv' := [(8, .int (nI (k + 1))), (6, .int (nI (lf + 1))), (7, .int (nI m)), (0, .ref (q 0)), (1, .int (nI li)), (2, .int (nI bb)), (3, .int (nI c2)), (4, .int (nI t))]) hx hb kd_M_best_185 hl (k := 7) rfl (by first | exact nI_1 _ | (show _ + _ = _; exact nI_1 _)) (by decide) rfl (fun ls hl => ?_)
                            refine lv_goto (tgt := 110) hx hb kd_M_best_188 (by decide) ?_
                            exact ih110 (k + 1) (lf + 1) c2 (nI m) (upd ge3 lf (nI (E1.getD k 0))) (by omega) (by omega) (by first | (rw [zE_n (by omega) c128]; exact hlf) | (rw [zE_t (by omega) c128, List.length_append, ← hlf]; rfl)) (by first | (rw [zE_n (by omega) c128]; exact hF) | (rw [zE_t (by omega) c128]; have z := zl_push hF (hE1 k (by omega)).2; rw [← hlf] at z; exact z)) (by first | exact fun j a b => hB j (by omega) b | exact fun j a b => by rw [pk_un (by omega)]; exact hB j (by omega) b) (by first | exact hla | exact Or.inr ⟨lf, rfl, by rw [hl0]; exact zf_AX_1⟩ | exact Or.inr ⟨lf, rfl, zf_AX_t (zf_AX_c (fun j hj => pk_un (by omega)) hax) (zu_nle c170)⟩ | exact Or.inr ⟨m, rfl, zf_AX_f (zf_AX_c (fun j hj => pk_un (by omega)) hax) (zu_nlt c170)⟩) (by first | (rw [zE_cn (by omega) c128, hc2]; omega) | (rw [zE_ct (by omega) c128, hc2])) _ _ hP hD hS ls (lv_sub hl [3, 4, 5, 6, 7, 1, 2, 0] rfl)
                          · skip
                            refine lv_iload hx hb kd_M_best_173 (lv_at hl 5 rfl) ?_
                            refine lv_goto (tgt := 180) hx hb kd_M_best_175 (by decide) ?_
                            refine lv_istore (lv' := [(7, .int (nI lf)), (0, .ref (q 0)), (1, .int (nI li)), (2, .int (nI bb)), (3, .int (nI c2)), (4, .int (nI t)), (6, .int (nI lf)), (8, .int (nI k))]) hx hb kd_M_best_180 hl (by decide) rfl (fun ls hl => ?_)
                            refine lv_iinc (v := nI (lf + 1)) (lv' := [(6, .int (nI (lf + 1))), (7, .int (nI lf)), (0, .ref (q 0)), (1, .int (nI li)), (2, .int (nI bb)), (3, .int (nI c2)), (4, .int (nI t)), (8, .int (nI k))]) hx hb kd_M_best_182 hl (k := 6) rfl (by first | exact nI_1 _ | (show _ + _ = _; exact nI_1 _)) (by decide) rfl (fun ls hl => ?_)
                            refine lv_iinc (v := nI (k + 1)) (lv' := [(8, .int (nI (k + 1))), (6, .int (nI (lf + 1))), (7, .int (nI lf)), (0, .ref (q 0)), (1, .int (nI li)), (2, .int (nI bb)), (3, .int (nI c2)), (4, .int (nI t))]) hx hb kd_M_best_185 hl (k := 7) rfl (by first | exact nI_1 _ | (show _ + _ = _; exact nI_1 _)) (by decide) rfl (fun ls hl => ?_)
                            refine lv_goto (tgt := 110) hx hb kd_M_best_188 (by decide) ?_
                            exact ih110 (k + 1) (lf + 1) c2 (nI lf) (upd ge3 lf (nI (E1.getD k 0))) (by omega) (by omega) (by first | (rw [zE_n (by omega) c128]; exact hlf) | (rw [zE_t (by omega) c128, List.length_append, ← hlf]; rfl)) (by first | (rw [zE_n (by omega) c128]; exact hF) | (rw [zE_t (by omega) c128]; have z := zl_push hF (hE1 k (by omega)).2; rw [← hlf] at z; exact z)) (by first | exact fun j a b => hB j (by omega) b | exact fun j a b => by rw [pk_un (by omega)]; exact hB j (by omega) b) (by first | exact hla | exact Or.inr ⟨lf, rfl, by rw [hl0]; exact zf_AX_1⟩ | exact Or.inr ⟨lf, rfl, zf_AX_t (zf_AX_c (fun j hj => pk_un (by omega)) hax) (zu_nle c170)⟩ | exact Or.inr ⟨m, rfl, zf_AX_f (zf_AX_c (fun j hj => pk_un (by omega)) hax) (zu_nlt c170)⟩) (by first | (rw [zE_cn (by omega) c128, hc2]; omega) | (rw [zE_ct (by omega) c128, hc2])) _ _ hP hD hS ls (lv_sub hl [3, 4, 5, 6, 7, 1, 2, 0] rfl)
                      · skip
                        refine lv_iinc (v := nI (c2 + 1)) (lv' := [(3, .int (nI (c2 + 1))), (0, .ref (q 0)), (1, .int (nI li)), (2, .int (nI bb)), (4, .int (nI t)), (6, .int (nI lf)), (7, .int la), (8, .int (nI k))]) hx hb kd_M_best_131 hl (k := 3) rfl (by first | exact nI_1 _ | (show _ + _ = _; exact nI_1 _)) (by decide) rfl (fun ls hl => ?_)
                        refine lv_goto (tgt := 185) hx hb kd_M_best_134 (by decide) ?_
                        refine lv_iinc (v := nI (k + 1)) (lv' := [(8, .int (nI (k + 1))), (3, .int (nI (c2 + 1))), (0, .ref (q 0)), (1, .int (nI li)), (2, .int (nI bb)), (4, .int (nI t)), (6, .int (nI lf)), (7, .int la)]) hx hb kd_M_best_185 hl (k := 7) rfl (by first | exact nI_1 _ | (show _ + _ = _; exact nI_1 _)) (by decide) rfl (fun ls hl => ?_)
                        refine lv_goto (tgt := 110) hx hb kd_M_best_188 (by decide) ?_
                        exact ih110 (k + 1) lf (c2 + 1) la ge3 (by omega) (by omega) (by first | (rw [zE_n (by omega) c128]; exact hlf) | (rw [zE_t (by omega) c128, List.length_append, ← hlf]; rfl)) (by first | (rw [zE_n (by omega) c128]; exact hF) | (rw [zE_t (by omega) c128]; have z := zl_push hF (hE1 k (by omega)).2; rw [← hlf] at z; exact z)) (by first | exact fun j a b => hB j (by omega) b | exact fun j a b => by rw [pk_un (by omega)]; exact hB j (by omega) b) (by first | exact hla | exact Or.inr ⟨lf, rfl, by rw [hl0]; exact zf_AX_1⟩ | exact Or.inr ⟨lf, rfl, zf_AX_t (zf_AX_c (fun j hj => pk_un (by omega)) hax) (zu_nle c170)⟩ | exact Or.inr ⟨m, rfl, zf_AX_f (zf_AX_c (fun j hj => pk_un (by omega)) hax) (zu_nlt c170)⟩) (by first | (rw [zE_cn (by omega) c128, hc2]; omega) | (rw [zE_ct (by omega) c128, hc2])) _ _ hP hD hS ls (lv_sub hl [2, 3, 4, 1, 5, 6, 7, 0] rfl)
                exact hc110 _ 0 0 cn (-1) ge2 (Nat.lt_succ_self _) (by omega) (rfl) (fun j h => by simp [zE_f] at h) (fun j a b => (hE1 j b).1) (Or.inl ⟨rfl, rfl⟩) (by simp) _ _ hP hD hS ls (lv_sub hl [3, 4, 5, 6, 7, 2, 1, 0] rfl)
              refine lv_iload hx hb kd_M_best_55 (lv_at hl 4 rfl) ?_
              refine zz_if_le (tgt := 72) hx hb kd_M_best_57 (by decide) (by omega) (fun c57 => ?_) (fun c57 => ?_)
              · skip
                refine lv_iconst (v := (-1)) hx hb kd_M_best_72 (by decide) ?_
                refine lv_istore (lv' := [(5, .int (-1)), (0, .ref (q 0)), (1, .int (nI li)), (2, .int (nI bb)), (3, .int (nI cn)), (4, .int (nI t))]) hx hb kd_M_best_73 hl (by decide) rfl (fun ls hl => ?_)
                refine lv_iload hx hb kd_M_best_75 (lv_at hl 0 rfl) ?_
                refine lv_if_lt (tgt := 101) hx hb kd_M_best_77 (by decide) (fun c77 => ?_) (fun c77 => ?_)
                · skip
                  exact hc101 kp1 E ge1  (by first | exact hE | (rw [hkp]; exact zl_push hE (by omega))) (by first | exact hkp | (rw [List.length_append, hkp]; rfl)) (by first | exact zb_in_0 (Or.inl c57) | exact zb_in_0 (Or.inr hnx4) | exact zb_in_1 c57 (zx_NX_u (hnx _) hu2) (by omega)) _ _ hP hD hS ls (lv_sub hl [1, 2, 3, 4, 5] rfl)
                · skip
                  exact absurd c77 (fun z => z (by decide))
              · skip
                refine lv_aload_n hx hb kd_M_best_60 rfl (lv_at hl 0 rfl) ?_
                refine lv_iload hx hb kd_M_best_61 (lv_at hl 4 rfl) ?_
                refine lv_iconst (v := nI 1) hx hb kd_M_best_63 (by decide) ?_
                refine lv_isub hx hb kd_M_best_64 ?_
                refine zz_top (y := nI (t - 1)) (pk_sub (by omega)) ?_
                refine lv_iload_n hx hb kd_M_best_65 rfl (lv_at hl 2 rfl) ?_
                refine zz_iV (As := [.int (nI (t - 1)), .int (nI bb)]) (rest := []) (wc := [(q 0, zm_ob q t1 n lc kp1), (q 1, .inl (cI, 400, .inl ga))]) (wr := [(q 18, .inl (cI, 400, .inl ge1))]) ⟨hx, hb, hml, hown, hts⟩ (cm_nextOf l dC dI cI cZ cO cL q t1 n lc kp1 ga ad (t - 1) bb (by omega) (hn) (hga) (hbb)) (zz_cwV hts kj_461 kj_27 kj_459 kj_460 kj_23 kz_M_nextOf rfl rfl ⟨Nat.le_of_ble_eq_true rfl, Nat.le_of_ble_eq_true rfl⟩) (hP.sub [2, 0, 1] rfl) (hD.sub [2, 0, 1] (by decide) rfl) hK hS hA (q0 := 0) rfl rfl rfl rfl hl.1 rfl (Nat.le_of_ble_eq_true rfl) kd_M_best_66 ⟨by decide, by decide⟩ (fun r9 w9 H locs hw hP hD hS => ?_)
                generalize r9 = re at hw ⊢
                obtain ⟨rfl, hnx66⟩ := hw
                have hP : va_P (dC, dI) zk_cl [(q 18, .inl (cI, 400, .inl ge1)), (q 0, zm_ob q t1 n lc kp1), (q 1, .inl (cI, 400, .inl ga))] H := hP
                have hD : va_D A [(q 18, .inl (cI, 400, .inl ge1)), (q 0, zm_ob q t1 n lc kp1), (q 1, .inl (cI, 400, .inl ga))] := hD
                refine lv_goto (tgt := 73) hx hb kd_M_best_69 (by decide) ?_
                refine lv_istore (lv' := [(5, .int re), (0, .ref (q 0)), (1, .int (nI li)), (2, .int (nI bb)), (3, .int (nI cn)), (4, .int (nI t))]) hx hb kd_M_best_73 hl (by decide) rfl (fun ls hl => ?_)
                refine lv_iload hx hb kd_M_best_75 (lv_at hl 0 rfl) ?_
                refine lv_if_lt (tgt := 101) hx hb kd_M_best_77 (by decide) (fun c77 => ?_) (fun c77 => ?_)
                · skip
                  have hnx4 : nx (t - 1) = 400 := zx_NX_u (hnx _) (zx_rn (by omega) hnx66 c77)
                  exact hc101 kp1 E ge1  (by first | exact hE | (rw [hkp]; exact zl_push hE (by omega))) (by first | exact hkp | (rw [List.length_append, hkp]; rfl)) (by first | exact zb_in_0 (Or.inl c57) | exact zb_in_0 (Or.inr hnx4) | exact zb_in_1 c57 (zx_NX_u (hnx _) hu2) (by omega)) _ _ (hP.sub [1, 2, 0] rfl) (hD.sub [1, 2, 0] (by decide) rfl) hS ls (lv_sub hl [1, 2, 3, 4, 5] rfl)
                · skip
                  obtain ⟨u, hu1, rfl, hu2⟩ := zx_re hnx66 c77
                  refine lv_aload_n hx hb kd_M_best_80 rfl (lv_at hl 1 rfl) ?_
                  refine va_get (D := (dC, dI)) (ci := 3) (v := .ref (q 18)) (C := zk_RM) (T := zk_TM) (N := 22) hx hb hts kl_M hown hK hP 1 rfl rfl 21 (by decide) (hts _ kj_367) (fun _ h9 => h9) rfl kd_M_best_81 ?_
                  refine lv_aload_n hx hb kd_M_best_84 rfl (lv_at hl 1 rfl) ?_
                  refine va_get (D := (dC, dI)) (ci := 3) (v := .int (nI kp1)) (C := zk_RM) (T := zk_TM) (N := 22) hx hb hts kl_M hown hK hP 1 rfl rfl 20 (by decide) (hts _ kj_366) (fun _ h9 => h9) rfl kd_M_best_85 ?_
                  refine lv_iload hx hb kd_M_best_88 (lv_at hl 0 rfl) ?_
                  refine zz_iast hx hb hK hP hD hS 0 0 rfl rfl (k := kp1) (by omega) (by decide) kd_M_best_90 (fun H locs hP hD hS => ?_)
                  have hP : va_P (dC, dI) zk_cl [(q 18, .inl (cI, 400, .inl (upd ge1 kp1 (nI u)))), (q 0, zm_ob q t1 n lc kp1), (q 1, .inl (cI, 400, .inl ga))] H := hP
                  have hD : va_D A [(q 18, .inl (cI, 400, .inl (upd ge1 kp1 (nI u)))), (q 0, zm_ob q t1 n lc kp1), (q 1, .inl (cI, 400, .inl ga))] := hD
                  refine lv_aload_n hx hb kd_M_best_91 rfl (lv_at hl 1 rfl) ?_
                  refine lv_dup hx hb kd_M_best_92 rfl ?_
                  refine va_get (D := (dC, dI)) (ci := 3) (v := .int (nI kp1)) (C := zk_RM) (T := zk_TM) (N := 22) hx hb hts kl_M hown hK hP 1 rfl rfl 20 (by decide) (hts _ kj_366) (fun _ h9 => h9) rfl kd_M_best_93 ?_
                  refine lv_iconst (v := nI 1) hx hb kd_M_best_96 (by decide) ?_
                  refine lv_iadd hx hb kd_M_best_97 ?_
                  refine zz_top (y := nI (kp1 + 1)) (nI_add _ _) ?_
                  refine va_put (D := (dC, dI)) (ci := 3) (v := .int (nI (kp1 + 1))) (ty := .int) (C := zk_RM) (T := zk_TM) (N := 22) hx hb hts kl_M zk_tM zk_kM zk_nM hown hK hP hD hS 1 rfl rfl 20 (by decide) (hts _ kj_366) (fun _ h9 => h9) rfl (by decide +kernel) rfl rfl (Nat.le_of_ble_eq_true rfl) kd_M_best_98 (fun H locs hP hD hS => ?_)
                  have hP : va_P (dC, dI) zk_cl [(q 18, .inl (cI, 400, .inl (upd ge1 kp1 (nI u)))), (q 0, zm_ob q t1 n lc (kp1 + 1)), (q 1, .inl (cI, 400, .inl ga))] H := hP
                  have hD : va_D A [(q 18, .inl (cI, 400, .inl (upd ge1 kp1 (nI u)))), (q 0, zm_ob q t1 n lc (kp1 + 1)), (q 1, .inl (cI, 400, .inl ga))] := hD
                  exact hc101 (kp1 + 1) (E ++ [u]) (upd ge1 kp1 (nI u))  (by first | exact hE | (rw [hkp]; exact zl_push hE (by omega))) (by first | exact hkp | (rw [List.length_append, hkp]; rfl)) (by first | exact zb_in_0 (Or.inl c57) | exact zb_in_0 (Or.inr hnx4) | exact zb_in_1 c57 (zx_NX_u (hnx _) hu2) (by omega)) _ _ (hP.sub [1, 2, 0] rfl) (hD.sub [1, 2, 0] (by decide) rfl) hS ls (lv_sub hl [1, 2, 3, 4, 5] rfl)
        exact hc46 _ 0 0 0 ([]) ge (Nat.lt_succ_self _) (by omega) (⟨rfl, rfl⟩) (fun j h => by simp at h) (rfl) _ _ (hP.sub [2, 0, 1] rfl) (hD.sub [2, 0, 1] (by decide) rfl) hS ls (lv_sub hl [2, 3, 4, 1, 0] rfl)
      · skip
        exact absurd c31 (by unfold zm_rf at hrf28; omega)
    · skip
      refine lv_iconst (v := nI 1) hx hb kd_M_best_21 (by decide) ?_
      refine lv_goto (tgt := 26) hx hb kd_M_best_22 (by decide) ?_
      refine lv_iconst (v := nI 0) hx hb kd_M_best_26 (by decide) ?_
      refine lv_iconst (v := nI 0) hx hb kd_M_best_27 (by decide) ?_
      refine zz_iV (As := [.int (nI 1), .int (nI 0), .int (nI 0)]) (rest := []) (wc := [(q 0, zm_ob q th n lc kp)]) (wr := [(q 1, .inl (cI, 400, .inl ga)), (q 18, .inl (cI, 400, .inl ge))]) ⟨hx, hb, hml, hown, hts⟩ (cm_refuse l dC dI cI cZ cO cL q th n lc kp 1 0 0 (by omega) (by omega) (by omega)) (zz_cwV hts kj_403 kj_27 kj_401 kj_402 kj_13 kz_M_refuse rfl rfl ⟨Nat.le_of_ble_eq_true rfl, Nat.le_of_ble_eq_true rfl⟩) (hP.sub [1, 2, 0] rfl) (hD.sub [1, 2, 0] (by decide) rfl) hK hS hA (q0 := 0) rfl rfl rfl rfl hl.1 rfl (Nat.le_of_ble_eq_true rfl) kd_M_best_28 ⟨by decide, by decide⟩ (fun r9 w9 H locs hw hP hD hS => ?_)
      obtain ⟨t1, h0, rfl, rfl, hrf28, hh28, hb128⟩ := hw
      have hP : va_P (dC, dI) zk_cl [(q 1, .inl (cI, 400, .inl ga)), (q 18, .inl (cI, 400, .inl ge)), (q 0, zm_ob q t1 n lc kp)] H := hP
      have hD : va_D A [(q 1, .inl (cI, 400, .inl ga)), (q 18, .inl (cI, 400, .inl ge)), (q 0, zm_ob q t1 n lc kp)] := hD
      refine zz_if_eq (tgt := 36) hx hb kd_M_best_31 (by decide) (by omega) (fun c31 => ?_) (fun c31 => ?_)
      · skip
        exact absurd c31 (by unfold zm_rf at hrf28; omega)
      · skip
        refine lv_iconst (v := nI 0) hx hb kd_M_best_34 (by decide) ?_
        exact hret _ _ _ _ _ _ kd_M_best_35 (hP.sub [2, 0, 1] rfl) (hD.sub [2, 0, 1] (by decide) rfl) hS (⟨t1, kp, ge, rfl, (Or.inl ⟨by unfold zm_rf at hrf28; omega, by first | exact Or.inl (fun k a b => zm_in0 (by decide) (by decide) hin5 c8 k a b) | exact Or.inr (fun k a => zm_in0 (by decide) (by decide) hin15 c18 k (by omega) a)⟩)⟩)
