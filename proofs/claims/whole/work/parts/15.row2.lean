def rm_cr_countHits : Room := { frames := 1, cells := 0, slots := 0, locals := 23 }
set_option maxHeartbeats 4000000 in
set_option maxRecDepth 100000 in
/-- how many hits -/
theorem cr_countHits (l : Launch) (dC : Nat → ClassId) (dI : Nat → Nat → Nat) (cI cZ cO cL : ClassId) (q : Nat → Nat) (n : Nat) (fa : Nat → Int32) (fn : Nat → Int32) (ff : Nat → Int32) (fl : Nat → Int32) (ad : Nat → Nat) (li : Nat) (bb : Nat) (bs : Nat) (hn : n ≤ 400) (hfa : ∀ j, j < n → fa j = nI (ad j) ∧ ad j < 4096) (hbb : bb ≤ 6) (hli : 1 ≤ li ∧ li ≤ 64) (hbs : bs ≤ 1) : zz_Mi l ky_W_countHits kw_W_countHits rm_cr_countHits (dC, dI) (zz_ty cI cZ cO cL) [(q 0, zr_ob q n), (q 1, .inl (cI, 400, .inl fa)), (q 2, .inl (cI, 400, .inl fn)), (q 3, .inl (cI, 4096, .inl ff)), (q 4, .inl (cI, 64, .inl fl))] [.ref (q 0), .int (nI li), .int (nI bb), .int (nI bs)] (fun (r : Int32) (w : va_W) => ∃ (fn2 : Nat → Int32), ∃ (ff2 : Nat → Int32), ∃ (fl2 : Nat → Int32), ∃ (nx : Nat → Nat), ∃ (Ls : List Nat), ∃ (cn : Nat), w = [(q 0, zr_ob q n), (q 1, .inl (cI, 400, .inl fa)), (q 2, .inl (cI, 400, .inl fn2)), (q 3, .inl (cI, 4096, .inl ff2)), (q 4, .inl (cI, 64, .inl fl2))] ∧ (r = nI cn) ∧ (∀ i, i < n → zx_NX n (fun i => ad i / 2 ^ bb) i (nx i)) ∧ (zc_R (decide (bs = 1)) li nx n Ls cn)) 0 0 := by
  refine zz_entry_i (cc := kb_W_countHits) (maxL := 8) (own := zk_RW) (by decide) rfl rfl (Nat.le_of_ble_eq_true rfl) ?_
  intro p e s m args below meth c Q hx hb hml hown hts hin hP hK A hD hA hS hret ls hl
  have hl : lv_has ls 8 [(0, .ref (q 0)), (1, .int (nI li)), (2, .int (nI bb)), (3, .int (nI bs))] := hl
  obtain ⟨H, eH⟩ : ∃ z, z = s.heap := ⟨_, rfl⟩
  obtain ⟨locs, eL⟩ : ∃ z : List Loc, z = [] := ⟨_, rfl⟩
  rw [← eH] at hP ⊢
  have hS : va_S A s.heap H locs := by rw [eH, eL]; exact hS
  rw [← eL]
  refine lv_aload_n hx hb kd_W_countHits_0 rfl (lv_at hl 0 rfl) ?_
  refine lv_iload_n hx hb kd_W_countHits_1 rfl (lv_at hl 2 rfl) ?_
  refine zz_vV (As := [.int (nI bb)]) (rest := []) (wc := [(q 0, zr_ob q n), (q 1, .inl (cI, 400, .inl fa)), (q 2, .inl (cI, 400, .inl fn)), (q 3, .inl (cI, 4096, .inl ff))]) (wr := [(q 4, .inl (cI, 64, .inl fl))]) ⟨hx, hb, hml, hown, hts⟩ (cr_findNextUses l dC dI cI cZ cO cL q n fa fn ff ad bb (hn) (hfa) (hbb)) (zz_cwV hts kj_323 kj_26 kj_321 kj_322 kj_9 kz_W_findNextUses rfl rfl ⟨Nat.le_of_ble_eq_true rfl, Nat.le_of_ble_eq_true rfl⟩) (hP.sub [4, 0, 1, 2, 3] rfl) (hD.sub [4, 0, 1, 2, 3] (by decide) rfl) hK hS hA (q0 := 0) rfl rfl rfl rfl hl.1 rfl (Nat.le_of_ble_eq_true rfl) kd_W_countHits_2 ⟨by decide, by decide⟩ (fun w9 H locs hw hP hD hS => ?_)
  obtain ⟨fn2_1, ff2_2, rfl, hnx2⟩ := hw
  have hP : va_P (dC, dI) zk_cl [(q 4, .inl (cI, 64, .inl fl)), (q 0, zr_ob q n), (q 1, .inl (cI, 400, .inl fa)), (q 2, .inl (cI, 400, .inl fn2_1)), (q 3, .inl (cI, 4096, .inl ff2_2))] H := hP
  have hD : va_D A [(q 4, .inl (cI, 64, .inl fl)), (q 0, zr_ob q n), (q 1, .inl (cI, 400, .inl fa)), (q 2, .inl (cI, 400, .inl fn2_1)), (q 3, .inl (cI, 4096, .inl ff2_2))] := hD
  obtain ⟨nx, hnx⟩ := zx_ch hnx2
  refine lv_iconst (v := nI 0) hx hb kd_W_countHits_5 (by decide) ?_
  refine lv_istore (lv' := [(4, .int (nI 0)), (0, .ref (q 0)), (1, .int (nI li)), (2, .int (nI bb)), (3, .int (nI bs))]) hx hb kd_W_countHits_6 hl (by decide) rfl (fun ls hl => ?_)
  refine lv_iconst (v := nI 0) hx hb kd_W_countHits_8 (by decide) ?_
  refine lv_istore (lv' := [(5, .int (nI 0)), (4, .int (nI 0)), (0, .ref (q 0)), (1, .int (nI li)), (2, .int (nI bb)), (3, .int (nI bs))]) hx hb kd_W_countHits_9 hl (by decide) rfl (fun ls hl => ?_)
  refine lv_iconst (v := nI 0) hx hb kd_W_countHits_11 (by decide) ?_
  refine lv_istore (lv' := [(6, .int (nI 0)), (5, .int (nI 0)), (4, .int (nI 0)), (0, .ref (q 0)), (1, .int (nI li)), (2, .int (nI bb)), (3, .int (nI bs))]) hx hb kd_W_countHits_12 hl (by decide) rfl (fun ls hl => ?_)
  have hc14 : ∀ (nn : Nat), ∀ (i : Nat) (hd : Nat) (cn : Nat) (Ls : List Nat) (fl1 : Nat → Int32), n - i < nn → (i ≤ n) → (hd = Ls.length) → (zc_R (decide (bs = 1)) li nx i Ls cn) → (zl_at fl1 Ls) → ∀ (H : Heap) (locs : List Loc), va_P (dC, dI) zk_cl [(q 0, zr_ob q n), (q 1, .inl (cI, 400, .inl fa)), (q 2, .inl (cI, 400, .inl fn2_1)), (q 3, .inl (cI, 4096, .inl ff2_2)), (q 4, .inl (cI, 64, .inl fl1))] H → va_D A [(q 0, zr_ob q n), (q 1, .inl (cI, 400, .inl fa)), (q 2, .inl (cI, 400, .inl fn2_1)), (q 3, .inl (cI, 4096, .inl ff2_2)), (q 4, .inl (cI, 64, .inl fl1))] → va_S A s.heap H locs → ∀ ls : Array Slot, lv_has ls 8 [(0, .ref (q 0)), (1, .int (nI li)), (3, .int (nI bs)), (4, .int (nI hd)), (5, .int (nI cn)), (6, .int (nI i))] → W p l e rm_cr_countHits s m args below meth c H locs 0 0 Q (F0 m 14 ls []) := by
    intro nn
    induction nn with
    | zero => intro i hd cn Ls fl1 hm; exact absurd hm (Nat.not_lt_zero _)
    | succ nn ih =>
      intro i hd cn Ls fl1 hm hi hlen hR hfl H locs hP hD hS ls hl
      have hL := zc_R_len hli.1 i Ls cn hR
      have hL64 : Ls.length ≤ 64 := by omega
      have hcni := zc_R_cnt i Ls cn hR
      refine lv_iload hx hb kd_W_countHits_14 (lv_at hl 5 rfl) ?_
      refine lv_aload_n hx hb kd_W_countHits_16 rfl (lv_at hl 0 rfl) ?_
      refine va_get (D := (dC, dI)) (ci := 1) (v := .int (nI n)) (C := zk_RW) (T := zk_TW) (N := 5) hx hb hts kl_W hown hK hP 0 rfl rfl 1 (by decide) (hts _ kj_52) (fun _ h9 => h9) rfl kd_W_countHits_17 ?_
      refine zz_icmp_ge (tgt := 99) hx hb kd_W_countHits_20 (by decide) (by omega) (by omega) (fun c20 => ?_) (fun c20 => ?_)
      · skip
        refine lv_iload hx hb kd_W_countHits_99 (lv_at hl 4 rfl) ?_
        exact hret _ _ _ _ _ _ kd_W_countHits_101 hP hD hS (⟨fn2_1, ff2_2, fl1, nx, Ls, cn, rfl, rfl, (fun i h => (hnx i h).2), ((show i = n by omega) ▸ hR)⟩)
      · skip
        have hc80 : ∀ (l0 : Nat) (cn2 : Nat) (hd2 : Nat), (l0 ≤ Ls.length) → (l0 < 64) → (zc_ch (decide (bs = 1)) li Ls i l0) → (cn2 = cn + if i ∈ Ls then 1 else 0) → (hd2 = (Ls.eraseIdx l0).length + 1) → ∀ (H : Heap) (locs : List Loc), va_P (dC, dI) zk_cl [(q 0, zr_ob q n), (q 1, .inl (cI, 400, .inl fa)), (q 2, .inl (cI, 400, .inl fn2_1)), (q 3, .inl (cI, 4096, .inl ff2_2)), (q 4, .inl (cI, 64, .inl fl1))] H → va_D A [(q 0, zr_ob q n), (q 1, .inl (cI, 400, .inl fa)), (q 2, .inl (cI, 400, .inl fn2_1)), (q 3, .inl (cI, 4096, .inl ff2_2)), (q 4, .inl (cI, 64, .inl fl1))] → va_S A s.heap H locs → ∀ ls : Array Slot, lv_has ls 8 [(0, .ref (q 0)), (1, .int (nI li)), (3, .int (nI bs)), (4, .int (nI hd2)), (5, .int (nI cn2)), (6, .int (nI i)), (7, .int (nI l0))] → W p l e rm_cr_countHits s m args below meth c H locs 0 0 Q (F0 m 80 ls []) := by
          intro l0 cn2 hd2 hl0 hl64 hch hcn hhd H locs hP hD hS ls hl
          refine lv_aload_n hx hb kd_W_countHits_80 rfl (lv_at hl 0 rfl) ?_
          refine lv_iload hx hb kd_W_countHits_81 (lv_at hl 6 rfl) ?_
          refine lv_aload_n hx hb kd_W_countHits_83 rfl (lv_at hl 0 rfl) ?_
          refine va_get (D := (dC, dI)) (ci := 1) (v := .ref (q 2)) (C := zk_RW) (T := zk_TW) (N := 5) hx hb hts kl_W hown hK hP 0 rfl rfl 2 (by decide) (hts _ kj_53) (fun _ h9 => h9) rfl kd_W_countHits_84 ?_
          refine lv_iload hx hb kd_W_countHits_87 (lv_at hl 5 rfl) ?_
          refine zz_iald hx hb hK hP 2 0 rfl rfl (k := i) (by omega) (by decide) kd_W_countHits_89 ?_
          refine zz_top (y := nI (nx i)) ((hnx i c20).1) ?_
          refine zz_vV (As := [.int (nI l0), .int (nI (nx i))]) (rest := []) (wc := [(q 0, zr_ob q n), (q 4, .inl (cI, 64, .inl fl1))]) (wr := [(q 1, .inl (cI, 400, .inl fa)), (q 2, .inl (cI, 400, .inl fn2_1)), (q 3, .inl (cI, 4096, .inl ff2_2))]) ⟨hx, hb, hml, hown, hts⟩ (cr_bringToFront l dC dI cI cZ cO cL q n fl1 l0 (nI (nx i)) (hl64)) (zz_cwV hts kj_332 kj_26 kj_330 kj_331 kj_12 kz_W_bringToFront rfl rfl ⟨Nat.le_of_ble_eq_true rfl, Nat.le_of_ble_eq_true rfl⟩) (hP.sub [1, 2, 3, 0, 4] rfl) (hD.sub [1, 2, 3, 0, 4] (by decide) rfl) hK hS hA (q0 := 0) rfl rfl rfl rfl hl.1 rfl (Nat.le_of_ble_eq_true rfl) kd_W_countHits_90 ⟨by decide, by decide⟩ (fun w9 H locs hw hP hD hS => ?_)
          obtain ⟨fl2_2, rfl, b090, b190, b290⟩ := hw
          have hP : va_P (dC, dI) zk_cl [(q 1, .inl (cI, 400, .inl fa)), (q 2, .inl (cI, 400, .inl fn2_1)), (q 3, .inl (cI, 4096, .inl ff2_2)), (q 0, zr_ob q n), (q 4, .inl (cI, 64, .inl fl2_2))] H := hP
          have hD : va_D A [(q 1, .inl (cI, 400, .inl fa)), (q 2, .inl (cI, 400, .inl fn2_1)), (q 3, .inl (cI, 4096, .inl ff2_2)), (q 0, zr_ob q n), (q 4, .inl (cI, 64, .inl fl2_2))] := hD
          refine lv_iinc (v := nI (i + 1)) (lv' := [(6, .int (nI (i + 1))), (0, .ref (q 0)), (1, .int (nI li)), (3, .int (nI bs)), (4, .int (nI hd2)), (5, .int (nI cn2)), (7, .int (nI l0))]) hx hb kd_W_countHits_93 hl (k := 5) rfl (by first | exact nI_1 _ | (show _ + _ = _; exact nI_1 _)) (by decide) rfl (fun ls hl => ?_)
          refine lv_goto (tgt := 14) hx hb kd_W_countHits_96 (by decide) ?_
          exact ih (i + 1) hd2 cn2 (nx i :: Ls.eraseIdx l0) fl2_2 (by omega) (by omega) (hhd) (⟨Ls, cn, l0, hR, hch, rfl, hcn⟩) (zl_front hfl (zx_NX_le hn (hnx i c20).2) hl0 b090 b190 b290) _ _ (hP.sub [3, 0, 1, 2, 4] rfl) (hD.sub [3, 0, 1, 2, 4] (by decide) rfl) hS ls (lv_sub hl [1, 2, 3, 4, 5, 0] rfl)
        refine lv_aload_n hx hb kd_W_countHits_23 rfl (lv_at hl 0 rfl) ?_
        refine lv_iload hx hb kd_W_countHits_24 (lv_at hl 5 rfl) ?_
        refine lv_iload hx hb kd_W_countHits_26 (lv_at hl 3 rfl) ?_
        refine zz_iV (As := [.int (nI i), .int (nI hd)]) (rest := []) (wc := [(q 0, zr_ob q n), (q 4, .inl (cI, 64, .inl fl1))]) (wr := [(q 1, .inl (cI, 400, .inl fa)), (q 2, .inl (cI, 400, .inl fn2_1)), (q 3, .inl (cI, 4096, .inl ff2_2))]) ⟨hx, hb, hml, hown, hts⟩ (cr_findLine l dC dI cI cZ cO cL q n fl1 hd (nI i) (by omega)) (zz_cwV hts kj_326 kj_26 kj_324 kj_325 kj_10 kz_W_findLine rfl rfl ⟨Nat.le_of_ble_eq_true rfl, Nat.le_of_ble_eq_true rfl⟩) (hP.sub [1, 2, 3, 0, 4] rfl) (hD.sub [1, 2, 3, 0, 4] (by decide) rfl) hK hS hA (q0 := 0) rfl rfl rfl rfl hl.1 rfl (Nat.le_of_ble_eq_true rfl) kd_W_countHits_28 ⟨by decide, by decide⟩ (fun r9 w9 H locs hw hP hD hS => ?_)
        generalize r9 = r0 at hw ⊢
        obtain ⟨rfl, fp28⟩ := hw
        have hP : va_P (dC, dI) zk_cl [(q 1, .inl (cI, 400, .inl fa)), (q 2, .inl (cI, 400, .inl fn2_1)), (q 3, .inl (cI, 4096, .inl ff2_2)), (q 0, zr_ob q n), (q 4, .inl (cI, 64, .inl fl1))] H := hP
        have hD : va_D A [(q 1, .inl (cI, 400, .inl fa)), (q 2, .inl (cI, 400, .inl fn2_1)), (q 3, .inl (cI, 4096, .inl ff2_2)), (q 0, zr_ob q n), (q 4, .inl (cI, 64, .inl fl1))] := hD
        refine lv_istore (lv' := [(7, .int r0), (0, .ref (q 0)), (1, .int (nI li)), (3, .int (nI bs)), (4, .int (nI hd)), (5, .int (nI cn)), (6, .int (nI i))]) hx hb kd_W_countHits_31 hl (by decide) rfl (fun ls hl => ?_)
        refine lv_iload hx hb kd_W_countHits_33 (lv_at hl 0 rfl) ?_
        refine lv_iconst (v := (-1)) hx hb kd_W_countHits_35 (by decide) ?_
        refine lv_icmp_eq (tgt := 45) hx hb kd_W_countHits_36 (by decide) (fun c36 => ?_) (fun c36 => ?_)
        · skip
          have hno : i ∉ Ls := zl_none hfl hL64 (hlen ▸ c36 ▸ fp28)
          refine lv_iload hx hb kd_W_countHits_45 (lv_at hl 4 rfl) ?_
          refine lv_iload_n hx hb kd_W_countHits_47 rfl (lv_at hl 2 rfl) ?_
          refine zz_icmp_ge (tgt := 61) hx hb kd_W_countHits_48 (by decide) (by omega) (by omega) (fun c48 => ?_) (fun c48 => ?_)
          · skip
            refine lv_iload_n hx hb kd_W_countHits_61 rfl (lv_at hl 3 rfl) ?_
            refine zz_if_eq (tgt := 74) hx hb kd_W_countHits_62 (by decide) (by omega) (fun c62 => ?_) (fun c62 => ?_)
            · skip
              refine lv_iload hx hb kd_W_countHits_74 (lv_at hl 4 rfl) ?_
              refine lv_iconst (v := nI 1) hx hb kd_W_countHits_76 (by decide) ?_
              refine lv_isub hx hb kd_W_countHits_77 ?_
              refine zz_top (y := nI (hd - 1)) (pk_sub (by omega)) ?_
              refine lv_istore (lv' := [(7, .int (nI (hd - 1))), (0, .ref (q 0)), (1, .int (nI li)), (3, .int (nI bs)), (4, .int (nI hd)), (5, .int (nI cn)), (6, .int (nI i))]) hx hb kd_W_countHits_78 hl (by decide) rfl (fun ls hl => ?_)
              exact hc80 (hd - 1) cn hd  (by first | omega | exact Nat.le_of_lt ax68.1 | (have := ax68.1; omega)) (by first | omega | (have := ax68.1; omega)) (by first | exact Or.inl ⟨hl2, hyes⟩ | exact Or.inr (Or.inl ⟨hno, by omega, by omega⟩) | exact Or.inr (Or.inr ⟨hno, by omega, Or.inl ⟨by simp; omega, by omega⟩⟩) | exact Or.inr (Or.inr ⟨hno, by omega, Or.inr ⟨by simp; omega, zl_max hfl (hlen ▸ ax68)⟩⟩)) (by first | (rw [if_neg hno]; rfl) | rw [if_neg hno] | rw [if_pos (List.mem_of_getElem? hyes)]) (by first | (rw [hlen]; exact zl_len hl2) | (rw [hlen]; exact zl_len (show Ls.length - 1 < Ls.length by omega)) | (rw [hlen]; exact zl_len (hlen ▸ ax68.1)) | rw [hlen, List.eraseIdx_of_length_le (Nat.le_refl _)]) _ _ (hP.sub [3, 0, 1, 2, 4] rfl) (hD.sub [3, 0, 1, 2, 4] (by decide) rfl) hS ls (lv_sub hl [1, 2, 3, 4, 5, 6, 0] rfl)
            · skip
              refine lv_aload_n hx hb kd_W_countHits_65 rfl (lv_at hl 1 rfl) ?_
              refine lv_iload hx hb kd_W_countHits_66 (lv_at hl 4 rfl) ?_
              refine zz_iV (As := [.int (nI hd)]) (rest := []) (wc := [(q 0, zr_ob q n), (q 4, .inl (cI, 64, .inl fl1))]) (wr := [(q 1, .inl (cI, 400, .inl fa)), (q 2, .inl (cI, 400, .inl fn2_1)), (q 3, .inl (cI, 4096, .inl ff2_2))]) ⟨hx, hb, hml, hown, hts⟩ (cr_lineNeededLast l dC dI cI cZ cO cL q n fl1 hd (by omega)) (zz_cwV hts kj_329 kj_26 kj_327 kj_328 kj_11 kz_W_lineNeededLast rfl rfl ⟨Nat.le_of_ble_eq_true rfl, Nat.le_of_ble_eq_true rfl⟩) hP hD hK hS hA (q0 := 0) rfl rfl rfl rfl hl.1 rfl (Nat.le_of_ble_eq_true rfl) kd_W_countHits_68 ⟨by decide, by decide⟩ (fun r9 w9 H locs hw hP hD hS => ?_)
              obtain ⟨o_4, rfl, rfl, ax68⟩ := hw
              have hP : va_P (dC, dI) zk_cl [(q 1, .inl (cI, 400, .inl fa)), (q 2, .inl (cI, 400, .inl fn2_1)), (q 3, .inl (cI, 4096, .inl ff2_2)), (q 0, zr_ob q n), (q 4, .inl (cI, 64, .inl fl1))] H := hP
              have hD : va_D A [(q 1, .inl (cI, 400, .inl fa)), (q 2, .inl (cI, 400, .inl fn2_1)), (q 3, .inl (cI, 4096, .inl ff2_2)), (q 0, zr_ob q n), (q 4, .inl (cI, 64, .inl fl1))] := hD
              refine lv_goto (tgt := 78) hx hb kd_W_countHits_71 (by decide) ?_
              refine lv_istore (lv' := [(7, .int (nI o_4)), (0, .ref (q 0)), (1, .int (nI li)), (3, .int (nI bs)), (4, .int (nI hd)), (5, .int (nI cn)), (6, .int (nI i))]) hx hb kd_W_countHits_78 hl (by decide) rfl (fun ls hl => ?_)
              exact hc80 o_4 cn hd  (by first | omega | exact Nat.le_of_lt ax68.1 | (have := ax68.1; omega)) (by first | omega | (have := ax68.1; omega)) (by first | exact Or.inl ⟨hl2, hyes⟩ | exact Or.inr (Or.inl ⟨hno, by omega, by omega⟩) | exact Or.inr (Or.inr ⟨hno, by omega, Or.inl ⟨by simp; omega, by omega⟩⟩) | exact Or.inr (Or.inr ⟨hno, by omega, Or.inr ⟨by simp; omega, zl_max hfl (hlen ▸ ax68)⟩⟩)) (by first | (rw [if_neg hno]; rfl) | rw [if_neg hno] | rw [if_pos (List.mem_of_getElem? hyes)]) (by first | (rw [hlen]; exact zl_len hl2) | (rw [hlen]; exact zl_len (show Ls.length - 1 < Ls.length by omega)) | (rw [hlen]; exact zl_len (hlen ▸ ax68.1)) | rw [hlen, List.eraseIdx_of_length_le (Nat.le_refl _)]) _ _ (hP.sub [3, 0, 1, 2, 4] rfl) (hD.sub [3, 0, 1, 2, 4] (by decide) rfl) hS ls (lv_sub hl [1, 2, 3, 4, 5, 6, 0] rfl)
          · skip
            refine lv_iload hx hb kd_W_countHits_51 (lv_at hl 4 rfl) ?_
            refine lv_istore (lv' := [(7, .int (nI hd)), (0, .ref (q 0)), (1, .int (nI li)), (3, .int (nI bs)), (4, .int (nI hd)), (5, .int (nI cn)), (6, .int (nI i))]) hx hb kd_W_countHits_53 hl (by decide) rfl (fun ls hl => ?_)
            refine lv_iinc (v := nI (hd + 1)) (lv' := [(4, .int (nI (hd + 1))), (7, .int (nI hd)), (0, .ref (q 0)), (1, .int (nI li)), (3, .int (nI bs)), (5, .int (nI cn)), (6, .int (nI i))]) hx hb kd_W_countHits_55 hl (k := 4) rfl (by first | exact nI_1 _ | (show _ + _ = _; exact nI_1 _)) (by decide) rfl (fun ls hl => ?_)
            refine lv_goto (tgt := 80) hx hb kd_W_countHits_58 (by decide) ?_
            exact hc80 hd cn (hd + 1)  (by first | omega | exact Nat.le_of_lt ax68.1 | (have := ax68.1; omega)) (by first | omega | (have := ax68.1; omega)) (by first | exact Or.inl ⟨hl2, hyes⟩ | exact Or.inr (Or.inl ⟨hno, by omega, by omega⟩) | exact Or.inr (Or.inr ⟨hno, by omega, Or.inl ⟨by simp; omega, by omega⟩⟩) | exact Or.inr (Or.inr ⟨hno, by omega, Or.inr ⟨by simp; omega, zl_max hfl (hlen ▸ ax68)⟩⟩)) (by first | (rw [if_neg hno]; rfl) | rw [if_neg hno] | rw [if_pos (List.mem_of_getElem? hyes)]) (by first | (rw [hlen]; exact zl_len hl2) | (rw [hlen]; exact zl_len (show Ls.length - 1 < Ls.length by omega)) | (rw [hlen]; exact zl_len (hlen ▸ ax68.1)) | rw [hlen, List.eraseIdx_of_length_le (Nat.le_refl _)]) _ _ (hP.sub [3, 0, 1, 2, 4] rfl) (hD.sub [3, 0, 1, 2, 4] (by decide) rfl) hS ls (lv_sub hl [2, 3, 4, 0, 5, 6, 1] rfl)
        · skip
          obtain ⟨l1, hl1, rfl⟩ := zf_FP_lt fp28 c36
          have hl2 : l1 < Ls.length := by omega
          have hyes := zl_found hfl (by omega) hL64 hl2 (hlen ▸ fp28)
          refine lv_iinc (v := nI (cn + 1)) (lv' := [(5, .int (nI (cn + 1))), (7, .int (nI l1)), (0, .ref (q 0)), (1, .int (nI li)), (3, .int (nI bs)), (4, .int (nI hd)), (6, .int (nI i))]) hx hb kd_W_countHits_39 hl (k := 5) rfl (by first | exact nI_1 _ | (show _ + _ = _; exact nI_1 _)) (by decide) rfl (fun ls hl => ?_)
          refine lv_goto (tgt := 80) hx hb kd_W_countHits_42 (by decide) ?_
          exact hc80 l1 (cn + 1) hd  (by first | omega | exact Nat.le_of_lt ax68.1 | (have := ax68.1; omega)) (by first | omega | (have := ax68.1; omega)) (by first | exact Or.inl ⟨hl2, hyes⟩ | exact Or.inr (Or.inl ⟨hno, by omega, by omega⟩) | exact Or.inr (Or.inr ⟨hno, by omega, Or.inl ⟨by simp; omega, by omega⟩⟩) | exact Or.inr (Or.inr ⟨hno, by omega, Or.inr ⟨by simp; omega, zl_max hfl (hlen ▸ ax68)⟩⟩)) (by first | (rw [if_neg hno]; rfl) | rw [if_neg hno] | rw [if_pos (List.mem_of_getElem? hyes)]) (by first | (rw [hlen]; exact zl_len hl2) | (rw [hlen]; exact zl_len (show Ls.length - 1 < Ls.length by omega)) | (rw [hlen]; exact zl_len (hlen ▸ ax68.1)) | rw [hlen, List.eraseIdx_of_length_le (Nat.le_refl _)]) _ _ (hP.sub [3, 0, 1, 2, 4] rfl) (hD.sub [3, 0, 1, 2, 4] (by decide) rfl) hS ls (lv_sub hl [2, 3, 4, 5, 0, 6, 1] rfl)
  exact hc14 _ 0 0 0 ([]) fl (Nat.lt_succ_self _) (by omega) (rfl) (⟨rfl, rfl⟩) (fun j h => by simp at h) _ _ (hP.sub [1, 2, 3, 4, 0] rfl) (hD.sub [1, 2, 3, 4, 0] (by decide) rfl) hS ls (lv_sub hl [3, 4, 6, 2, 1, 0] rfl)
