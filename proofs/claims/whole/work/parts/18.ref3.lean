def rm_cm_nextOf : Room := { frames := 0, cells := 0, slots := 0, locals := 0 }
set_option maxHeartbeats 4000000 in
set_option maxRecDepth 100000 in
/-- the next use behind k -/
theorem cm_nextOf (l : Launch) (dC : Nat → ClassId) (dI : Nat → Nat → Nat) (cI cZ cO cL : ClassId) (q : Nat → Nat) (th : Nat) (n : Nat) (lc : Nat) (kp : Nat) (ga : Nat → Int32) (ad : Nat → Nat) (k : Nat) (bb : Nat) (hk : k < n) (hn : n ≤ 400) (hga : ∀ j, j < n → ga j = nI (ad j) ∧ ad j < 4096) (hbb : bb ≤ 6) : zz_Mi l ky_M_nextOf kw_M_nextOf rm_cm_nextOf (dC, dI) (zz_ty cI cZ cO cL) [(q 0, zm_ob q th n lc kp), (q 1, .inl (cI, 400, .inl ga))] [.ref (q 0), .int (nI k), .int (nI bb)] (fun (r : Int32) (w : va_W) => w = [(q 0, zm_ob q th n lc kp), (q 1, .inl (cI, 400, .inl ga))] ∧ ((∃ u, u < n ∧ r = nI u ∧ zx_NX n (fun i => ad i / 2 ^ bb) k u) ∨ (r = -1 ∧ zx_NX n (fun i => ad i / 2 ^ bb) k 400))) 0 0 := by
  refine zz_entry_i (cc := kb_M_nextOf) (maxL := 4) (own := zk_RM) (by decide) rfl rfl (Nat.le_of_ble_eq_true rfl) ?_
  intro p e s m args below meth c Q hx hb hml hown hts hin hP hK A hD hA hS hret ls hl
  have hl : lv_has ls 4 [(0, .ref (q 0)), (1, .int (nI k)), (2, .int (nI bb))] := hl
  obtain ⟨H, eH⟩ : ∃ z, z = s.heap := ⟨_, rfl⟩
  obtain ⟨locs, eL⟩ : ∃ z : List Loc, z = [] := ⟨_, rfl⟩
  rw [← eH] at hP ⊢
  have hS : va_S A s.heap H locs := by rw [eH, eL]; exact hS
  rw [← eL]
  refine lv_iload_n hx hb kd_M_nextOf_0 rfl (lv_at hl 1 rfl) ?_
  refine lv_iconst (v := nI 1) hx hb kd_M_nextOf_1 (by decide) ?_
  refine lv_iadd hx hb kd_M_nextOf_2 ?_
  refine zz_top (y := nI (k + 1)) (nI_add _ _) ?_
  refine lv_istore_n (lv' := [(3, .int (nI (k + 1))), (0, .ref (q 0)), (1, .int (nI k)), (2, .int (nI bb))]) hx hb kd_M_nextOf_3 rfl hl (by decide) rfl (fun ls hl => ?_)
  have hc4 : ∀ (nn : Nat), ∀ (j : Nat), n - j < nn → (k < j ∧ j ≤ n) → (∀ i, k < i → i < j → ad i / 2 ^ bb ≠ ad k / 2 ^ bb) → ∀ (H : Heap) (locs : List Loc), va_P (dC, dI) zk_cl [(q 0, zm_ob q th n lc kp), (q 1, .inl (cI, 400, .inl ga))] H → va_D A [(q 0, zm_ob q th n lc kp), (q 1, .inl (cI, 400, .inl ga))] → va_S A s.heap H locs → ∀ ls : Array Slot, lv_has ls 4 [(0, .ref (q 0)), (1, .int (nI k)), (2, .int (nI bb)), (3, .int (nI j))] → W p l e rm_cm_nextOf s m args below meth c H locs 0 0 Q (F0 m 4 ls []) := by
    intro nn
    induction nn with
    | zero => intro j hm; exact absurd hm (Nat.not_lt_zero _)
    | succ nn ih =>
      intro j hm hj hno H locs hP hD hS ls hl
      refine lv_iload_n hx hb kd_M_nextOf_4 rfl (lv_at hl 3 rfl) ?_
      refine lv_aload_n hx hb kd_M_nextOf_5 rfl (lv_at hl 0 rfl) ?_
      refine va_get (D := (dC, dI)) (ci := 3) (v := .int (nI n)) (C := zk_RM) (T := zk_TM) (N := 22) hx hb hts kl_M hown hK hP 0 rfl rfl 1 (by decide) (hts _ kj_347) (fun _ h9 => h9) rfl kd_M_nextOf_6 ?_
      refine zz_icmp_ge (tgt := 37) hx hb kd_M_nextOf_9 (by decide) (by omega) (by omega) (fun c9 => ?_) (fun c9 => ?_)
      · skip
        refine lv_iload_n hx hb kd_M_nextOf_37 rfl (lv_at hl 3 rfl) ?_
        refine lv_aload_n hx hb kd_M_nextOf_38 rfl (lv_at hl 0 rfl) ?_
        refine va_get (D := (dC, dI)) (ci := 3) (v := .int (nI n)) (C := zk_RM) (T := zk_TM) (N := 22) hx hb hts kl_M hown hK hP 0 rfl rfl 1 (by decide) (hts _ kj_347) (fun _ h9 => h9) rfl kd_M_nextOf_39 ?_
        refine zz_icmp_ge (tgt := 49) hx hb kd_M_nextOf_42 (by decide) (by omega) (by omega) (fun c42 => ?_) (fun c42 => ?_)
        · skip
          refine lv_iconst (v := (-1)) hx hb kd_M_nextOf_49 (by decide) ?_
          exact hret _ _ _ _ _ _ kd_M_nextOf_50 hP hD hS (⟨rfl, (by first | exact Or.inr ⟨rfl, Or.inr ⟨rfl, fun i a b => hno i a (by omega)⟩⟩ | exact Or.inl ⟨j, c42, rfl, Or.inl ⟨hj.1, c42, c28, hno⟩⟩)⟩)
        · skip
          exact absurd c42 (by omega)
      · skip
        refine lv_aload_n hx hb kd_M_nextOf_12 rfl (lv_at hl 0 rfl) ?_
        refine va_get (D := (dC, dI)) (ci := 3) (v := .ref (q 1)) (C := zk_RM) (T := zk_TM) (N := 22) hx hb hts kl_M hown hK hP 0 rfl rfl 2 (by decide) (hts _ kj_348) (fun _ h9 => h9) rfl kd_M_nextOf_13 ?_
        refine lv_iload_n hx hb kd_M_nextOf_16 rfl (lv_at hl 3 rfl) ?_
        refine zz_iald hx hb hK hP 1 0 rfl rfl (k := j) (by omega) (by decide) kd_M_nextOf_17 ?_
        refine zz_top (y := nI (ad j)) ((hga j c9).1) ?_
        refine lv_iload_n hx hb kd_M_nextOf_18 rfl (lv_at hl 2 rfl) ?_
        refine lv_ishr hx hb kd_M_nextOf_19 ?_
        refine zz_top (y := nI (ad j / 2 ^ bb)) (zn_shr (by have := (hga j c9).2; omega) (by omega)) ?_
        refine lv_aload_n hx hb kd_M_nextOf_20 rfl (lv_at hl 0 rfl) ?_
        refine va_get (D := (dC, dI)) (ci := 3) (v := .ref (q 1)) (C := zk_RM) (T := zk_TM) (N := 22) hx hb hts kl_M hown hK hP 0 rfl rfl 2 (by decide) (hts _ kj_348) (fun _ h9 => h9) rfl kd_M_nextOf_21 ?_
        refine lv_iload_n hx hb kd_M_nextOf_24 rfl (lv_at hl 1 rfl) ?_
        refine zz_iald hx hb hK hP 1 0 rfl rfl (k := k) (by omega) (by decide) kd_M_nextOf_25 ?_
        refine zz_top (y := nI (ad k)) ((hga k hk).1) ?_
        refine lv_iload_n hx hb kd_M_nextOf_26 rfl (lv_at hl 2 rfl) ?_
        refine lv_ishr hx hb kd_M_nextOf_27 ?_
        refine zz_top (y := nI (ad k / 2 ^ bb)) (zn_shr (by have := (hga k hk).2; omega) (by omega)) ?_
        refine zz_icmp_eq (tgt := 37) hx hb kd_M_nextOf_28 (by decide) (Nat.lt_of_le_of_lt (Nat.div_le_self _ _) (by have := (hga j c9).2; omega)) (Nat.lt_of_le_of_lt (Nat.div_le_self _ _) (by have := (hga k hk).2; omega)) (fun c28 => ?_) (fun c28 => ?_)
        · skip
          refine lv_iload_n hx hb kd_M_nextOf_37 rfl (lv_at hl 3 rfl) ?_
          refine lv_aload_n hx hb kd_M_nextOf_38 rfl (lv_at hl 0 rfl) ?_
          refine va_get (D := (dC, dI)) (ci := 3) (v := .int (nI n)) (C := zk_RM) (T := zk_TM) (N := 22) hx hb hts kl_M hown hK hP 0 rfl rfl 1 (by decide) (hts _ kj_347) (fun _ h9 => h9) rfl kd_M_nextOf_39 ?_
          refine zz_icmp_ge (tgt := 49) hx hb kd_M_nextOf_42 (by decide) (by omega) (by omega) (fun c42 => ?_) (fun c42 => ?_)
          · skip
            exact absurd c42 (by omega)
          · skip
            refine lv_iload_n hx hb kd_M_nextOf_45 rfl (lv_at hl 3 rfl) ?_
            refine lv_goto (tgt := 50) hx hb kd_M_nextOf_46 (by decide) ?_
            exact hret _ _ _ _ _ _ kd_M_nextOf_50 hP hD hS (⟨rfl, (by first | exact Or.inr ⟨rfl, Or.inr ⟨rfl, fun i a b => hno i a (by omega)⟩⟩ | exact Or.inl ⟨j, c42, rfl, Or.inl ⟨hj.1, c42, c28, hno⟩⟩)⟩)
        · skip
          refine lv_iinc (v := nI (j + 1)) (lv' := [(3, .int (nI (j + 1))), (0, .ref (q 0)), (1, .int (nI k)), (2, .int (nI bb))]) hx hb kd_M_nextOf_31 hl (k := 3) rfl (by first | exact nI_1 _ | (show _ + _ = _; exact nI_1 _)) (by decide) rfl (fun ls hl => ?_)
          refine lv_goto (tgt := 4) hx hb kd_M_nextOf_34 (by decide) ?_
          exact ih (j + 1) (by omega) (by omega) (fun i a b => by
            rcases Nat.lt_or_ge i j with z | z
            · exact hno i a z
            · rw [show i = j by omega]; exact c28) _ _ hP hD hS ls (lv_sub hl [1, 2, 3, 0] rfl)
  exact hc4 _ (k + 1) (Nat.lt_succ_self _) (by omega) (fun i a b => by omega) _ _ hP hD hS ls (lv_sub hl [1, 2, 3, 0] rfl)

def rm_cm_comes : Room := { frames := 0, cells := 0, slots := 0, locals := 0 }
set_option maxHeartbeats 4000000 in
set_option maxRecDepth 100000 in
/-- a block comes to a line -/
theorem cm_comes (l : Launch) (dC : Nat → ClassId) (dI : Nat → Nat → Nat) (cI cZ cO cL : ClassId) (q : Nat → Nat) (th : Nat) (n : Nat) (lc : Nat) (kp : Nat) (gn : Nat → Int32) (gq : Nat → Int32) (b : Nat) (li : Nat) (nw : Nat) (hlc : lc ≤ li) (hli : 1 ≤ li ∧ li ≤ 64) (hb0 : b < 4096) : zz_Mi l ky_M_comes kw_M_comes rm_cm_comes (dC, dI) (zz_ty cI cZ cO cL) [(q 0, zm_ob q th n lc kp), (q 16, .inl (cI, 64, .inl gn)), (q 17, .inl (cI, 64, .inl gq))] [.ref (q 0), .int (nI b), .int (nI li), .int (nI nw)] (fun (r : Int32) (w : va_W) => ∃ (h : Nat), ∃ (l0 : Nat), ∃ (lc2 : Nat), w = [(q 0, zm_ob q th n lc2 kp), (q 16, .inl (cI, 64, .inl (upd gn l0 (nI b)))), (q 17, .inl (cI, 64, .inl (upd gq l0 (nI nw))))] ∧ (r = nI h) ∧ ((h = 1 ∧ l0 < lc ∧ gn l0 = nI b ∧ lc2 = lc) ∨ (h = 0 ∧ (∀ j, j < lc → gn j ≠ nI b) ∧ ((lc < li ∧ l0 = lc ∧ lc2 = lc + 1) ∨ (¬ lc < li ∧ zf_AM gq lc l0 ∧ lc2 = lc)))) ∧ (h ≤ 1)) 0 0 := by
  refine zz_entry_z (cc := kb_M_comes) (maxL := 7) (own := zk_RM) (by decide) rfl rfl (Nat.le_of_ble_eq_true rfl) ?_
  intro p e s m args below meth c Q hx hb hml hown hts hin hP hK A hD hA hS hret ls hl
  have hl : lv_has ls 7 [(0, .ref (q 0)), (1, .int (nI b)), (2, .int (nI li)), (3, .int (nI nw))] := hl
  obtain ⟨H, eH⟩ : ∃ z, z = s.heap := ⟨_, rfl⟩
  obtain ⟨locs, eL⟩ : ∃ z : List Loc, z = [] := ⟨_, rfl⟩
  rw [← eH] at hP ⊢
  have hS : va_S A s.heap H locs := by rw [eH, eL]; exact hS
  rw [← eL]
  refine lv_iconst (v := (-1)) hx hb kd_M_comes_0 (by decide) ?_
  refine lv_istore (lv' := [(4, .int (-1)), (0, .ref (q 0)), (1, .int (nI b)), (2, .int (nI li)), (3, .int (nI nw))]) hx hb kd_M_comes_1 hl (by decide) rfl (fun ls hl => ?_)
  refine lv_iconst (v := nI 0) hx hb kd_M_comes_3 (by decide) ?_
  refine lv_istore (lv' := [(5, .int (nI 0)), (4, .int (-1)), (0, .ref (q 0)), (1, .int (nI b)), (2, .int (nI li)), (3, .int (nI nw))]) hx hb kd_M_comes_4 hl (by decide) rfl (fun ls hl => ?_)
  refine lv_iconst (v := nI 0) hx hb kd_M_comes_6 (by decide) ?_
  refine lv_istore (lv' := [(6, .int (nI 0)), (5, .int (nI 0)), (4, .int (-1)), (0, .ref (q 0)), (1, .int (nI b)), (2, .int (nI li)), (3, .int (nI nw))]) hx hb kd_M_comes_7 hl (by decide) rfl (fun ls hl => ?_)
  have hc9 : ∀ (nn : Nat), ∀ (k : Nat) (o : Nat) (f : Int32), lc - k < nn → (k ≤ lc) → (zf_FA gn k (nI b) f) → (zf_AM0 gq k o) → ∀ (H : Heap) (locs : List Loc), va_P (dC, dI) zk_cl [(q 0, zm_ob q th n lc kp), (q 16, .inl (cI, 64, .inl gn)), (q 17, .inl (cI, 64, .inl gq))] H → va_D A [(q 0, zm_ob q th n lc kp), (q 16, .inl (cI, 64, .inl gn)), (q 17, .inl (cI, 64, .inl gq))] → va_S A s.heap H locs → ∀ ls : Array Slot, lv_has ls 7 [(0, .ref (q 0)), (1, .int (nI b)), (2, .int (nI li)), (3, .int (nI nw)), (4, .int f), (5, .int (nI o)), (6, .int (nI k))] → W p l e rm_cm_comes s m args below meth c H locs 0 0 Q (F0 m 9 ls []) := by
    intro nn
    induction nn with
    | zero => intro k o f hm; exact absurd hm (Nat.not_lt_zero _)
    | succ nn ih =>
      intro k o f hm hk hf ham H locs hP hD hS ls hl
      have ho := zf_AM0_le ham
      refine lv_iload hx hb kd_M_comes_9 (lv_at hl 6 rfl) ?_
      refine lv_aload_n hx hb kd_M_comes_11 rfl (lv_at hl 0 rfl) ?_
      refine va_get (D := (dC, dI)) (ci := 3) (v := .int (nI lc)) (C := zk_RM) (T := zk_TM) (N := 22) hx hb hts kl_M hown hK hP 0 rfl rfl 17 (by decide) (hts _ kj_363) (fun _ h9 => h9) rfl kd_M_comes_12 ?_
      refine zz_icmp_ge (tgt := 70) hx hb kd_M_comes_15 (by decide) (by omega) (by omega) (fun c15 => ?_) (fun c15 => ?_)
      · skip
        refine lv_iload hx hb kd_M_comes_70 (lv_at hl 4 rfl) ?_
        refine lv_if_lt (tgt := 79) hx hb kd_M_comes_72 (by decide) (fun c72 => ?_) (fun c72 => ?_)
        · skip
          have hno := zf_FA_neg (by omega) hf c72
          have ekl : k = lc := by omega
          refine lv_iconst (v := nI 0) hx hb kd_M_comes_79 (by decide) ?_
          refine lv_istore (lv' := [(6, .int (nI 0)), (0, .ref (q 0)), (1, .int (nI b)), (2, .int (nI li)), (3, .int (nI nw)), (4, .int f), (5, .int (nI o))]) hx hb kd_M_comes_80 hl (by decide) rfl (fun ls hl => ?_)
          refine lv_iload hx hb kd_M_comes_82 (lv_at hl 0 rfl) ?_
          refine zz_if_ne (tgt := 114) hx hb kd_M_comes_84 (by decide) (by decide) (fun c9 => absurd c9 (by decide)) (fun _ => ?_)
          refine lv_aload_n hx hb kd_M_comes_87 rfl (lv_at hl 1 rfl) ?_
          refine va_get (D := (dC, dI)) (ci := 3) (v := .int (nI lc)) (C := zk_RM) (T := zk_TM) (N := 22) hx hb hts kl_M hown hK hP 0 rfl rfl 17 (by decide) (hts _ kj_363) (fun _ h9 => h9) rfl kd_M_comes_88 ?_
          refine lv_iload_n hx hb kd_M_comes_91 rfl (lv_at hl 3 rfl) ?_
          refine zz_icmp_ge (tgt := 114) hx hb kd_M_comes_92 (by decide) (by omega) (by omega) (fun c92 => ?_) (fun c92 => ?_)
          · skip
            have ham2 : zf_AM gq lc o := by
              rcases ham with ⟨z, _⟩ | z
              · omega
              · exact ekl ▸ z
            have ho2 := ham2.1
            refine lv_iload hx hb kd_M_comes_114 (lv_at hl 0 rfl) ?_
            refine zz_if_ne (tgt := 123) hx hb kd_M_comes_116 (by decide) (by decide) (fun c9 => absurd c9 (by decide)) (fun _ => ?_)
            refine lv_iload hx hb kd_M_comes_119 (lv_at hl 6 rfl) ?_
            refine lv_istore (lv' := [(4, .int (nI o)), (6, .int (nI 0)), (0, .ref (q 0)), (1, .int (nI b)), (2, .int (nI li)), (3, .int (nI nw)), (5, .int (nI o))]) hx hb kd_M_comes_121 hl (by decide) rfl (fun ls hl => ?_)
            refine lv_aload_n hx hb kd_M_comes_123 rfl (lv_at hl 2 rfl) ?_
            refine va_get (D := (dC, dI)) (ci := 3) (v := .ref (q 16)) (C := zk_RM) (T := zk_TM) (N := 22) hx hb hts kl_M hown hK hP 0 rfl rfl 18 (by decide) (hts _ kj_364) (fun _ h9 => h9) rfl kd_M_comes_124 ?_
            refine lv_iload hx hb kd_M_comes_127 (lv_at hl 0 rfl) ?_
            refine lv_iload_n hx hb kd_M_comes_129 rfl (lv_at hl 3 rfl) ?_
            refine zz_iast hx hb hK hP hD hS 1 0 rfl rfl (k := o) (by omega) (by decide) kd_M_comes_130 (fun H locs hP hD hS => ?_)
            have hP : va_P (dC, dI) zk_cl [(q 0, zm_ob q th n lc kp), (q 16, .inl (cI, 64, .inl (upd gn o (nI b)))), (q 17, .inl (cI, 64, .inl gq))] H := hP
            have hD : va_D A [(q 0, zm_ob q th n lc kp), (q 16, .inl (cI, 64, .inl (upd gn o (nI b)))), (q 17, .inl (cI, 64, .inl gq))] := hD
            refine lv_aload_n hx hb kd_M_comes_131 rfl (lv_at hl 2 rfl) ?_
            refine va_get (D := (dC, dI)) (ci := 3) (v := .ref (q 17)) (C := zk_RM) (T := zk_TM) (N := 22) hx hb hts kl_M hown hK hP 0 rfl rfl 19 (by decide) (hts _ kj_365) (fun _ h9 => h9) rfl kd_M_comes_132 ?_
            refine lv_iload hx hb kd_M_comes_135 (lv_at hl 0 rfl) ?_
            refine lv_iload_n hx hb kd_M_comes_137 rfl (lv_at hl 5 rfl) ?_
            refine zz_iast hx hb hK hP hD hS 2 0 rfl rfl (k := o) (by omega) (by decide) kd_M_comes_138 (fun H locs hP hD hS => ?_)
            have hP : va_P (dC, dI) zk_cl [(q 0, zm_ob q th n lc kp), (q 16, .inl (cI, 64, .inl (upd gn o (nI b)))), (q 17, .inl (cI, 64, .inl (upd gq o (nI nw))))] H := hP
            have hD : va_D A [(q 0, zm_ob q th n lc kp), (q 16, .inl (cI, 64, .inl (upd gn o (nI b)))), (q 17, .inl (cI, 64, .inl (upd gq o (nI nw))))] := hD
            refine lv_iload hx hb kd_M_comes_139 (lv_at hl 1 rfl) ?_
            exact hret _ _ _ _ _ _ (Or.inl rfl) kd_M_comes_141 hP hD hS (⟨0, o, lc, rfl, rfl, (by first | exact Or.inl ⟨rfl, by omega, hm2, rfl⟩ | exact Or.inr ⟨rfl, ekl ▸ hno, Or.inl ⟨c92, rfl, rfl⟩⟩ | exact Or.inr ⟨rfl, ekl ▸ hno, Or.inr ⟨by omega, ham2, rfl⟩⟩), (by omega)⟩)
          · skip
            refine lv_aload_n hx hb kd_M_comes_95 rfl (lv_at hl 1 rfl) ?_
            refine va_get (D := (dC, dI)) (ci := 3) (v := .int (nI lc)) (C := zk_RM) (T := zk_TM) (N := 22) hx hb hts kl_M hown hK hP 0 rfl rfl 17 (by decide) (hts _ kj_363) (fun _ h9 => h9) rfl kd_M_comes_96 ?_
            refine lv_istore (lv' := [(4, .int (nI lc)), (6, .int (nI 0)), (0, .ref (q 0)), (1, .int (nI b)), (2, .int (nI li)), (3, .int (nI nw)), (5, .int (nI o))]) hx hb kd_M_comes_99 hl (by decide) rfl (fun ls hl => ?_)
            refine lv_aload_n hx hb kd_M_comes_101 rfl (lv_at hl 2 rfl) ?_
            refine lv_dup hx hb kd_M_comes_102 rfl ?_
            refine va_get (D := (dC, dI)) (ci := 3) (v := .int (nI lc)) (C := zk_RM) (T := zk_TM) (N := 22) hx hb hts kl_M hown hK hP 0 rfl rfl 17 (by decide) (hts _ kj_363) (fun _ h9 => h9) rfl kd_M_comes_103 ?_
            refine lv_iconst (v := nI 1) hx hb kd_M_comes_106 (by decide) ?_
            refine lv_iadd hx hb kd_M_comes_107 ?_
            refine zz_top (y := nI (lc + 1)) (nI_add _ _) ?_
            refine va_put (D := (dC, dI)) (ci := 3) (v := .int (nI (lc + 1))) (ty := .int) (C := zk_RM) (T := zk_TM) (N := 22) hx hb hts kl_M zk_tM zk_kM zk_nM hown hK hP hD hS 0 rfl rfl 17 (by decide) (hts _ kj_363) (fun _ h9 => h9) rfl (by decide +kernel) rfl rfl (Nat.le_of_ble_eq_true rfl) kd_M_comes_108 (fun H locs hP hD hS => ?_)
            have hP : va_P (dC, dI) zk_cl [(q 0, zm_ob q th n (lc + 1) kp), (q 16, .inl (cI, 64, .inl gn)), (q 17, .inl (cI, 64, .inl gq))] H := hP
            have hD : va_D A [(q 0, zm_ob q th n (lc + 1) kp), (q 16, .inl (cI, 64, .inl gn)), (q 17, .inl (cI, 64, .inl gq))] := hD
            refine lv_goto (tgt := 123) hx hb kd_M_comes_111 (by decide) ?_
            refine lv_aload_n hx hb kd_M_comes_123 rfl (lv_at hl 2 rfl) ?_
            refine va_get (D := (dC, dI)) (ci := 3) (v := .ref (q 16)) (C := zk_RM) (T := zk_TM) (N := 22) hx hb hts kl_M hown hK hP 0 rfl rfl 18 (by decide) (hts _ kj_364) (fun _ h9 => h9) rfl kd_M_comes_124 ?_
            refine lv_iload hx hb kd_M_comes_127 (lv_at hl 0 rfl) ?_
            refine lv_iload_n hx hb kd_M_comes_129 rfl (lv_at hl 3 rfl) ?_
            refine zz_iast hx hb hK hP hD hS 1 0 rfl rfl (k := lc) (by omega) (by decide) kd_M_comes_130 (fun H locs hP hD hS => ?_)
            have hP : va_P (dC, dI) zk_cl [(q 0, zm_ob q th n (lc + 1) kp), (q 16, .inl (cI, 64, .inl (upd gn lc (nI b)))), (q 17, .inl (cI, 64, .inl gq))] H := hP
            have hD : va_D A [(q 0, zm_ob q th n (lc + 1) kp), (q 16, .inl (cI, 64, .inl (upd gn lc (nI b)))), (q 17, .inl (cI, 64, .inl gq))] := hD
            refine lv_aload_n hx hb kd_M_comes_131 rfl (lv_at hl 2 rfl) ?_
            refine va_get (D := (dC, dI)) (ci := 3) (v := .ref (q 17)) (C := zk_RM) (T := zk_TM) (N := 22) hx hb hts kl_M hown hK hP 0 rfl rfl 19 (by decide) (hts _ kj_365) (fun _ h9 => h9) rfl kd_M_comes_132 ?_
            refine lv_iload hx hb kd_M_comes_135 (lv_at hl 0 rfl) ?_
            refine lv_iload_n hx hb kd_M_comes_137 rfl (lv_at hl 5 rfl) ?_
            refine zz_iast hx hb hK hP hD hS 2 0 rfl rfl (k := lc) (by omega) (by decide) kd_M_comes_138 (fun H locs hP hD hS => ?_)
            have hP : va_P (dC, dI) zk_cl [(q 0, zm_ob q th n (lc + 1) kp), (q 16, .inl (cI, 64, .inl (upd gn lc (nI b)))), (q 17, .inl (cI, 64, .inl (upd gq lc (nI nw))))] H := hP
            have hD : va_D A [(q 0, zm_ob q th n (lc + 1) kp), (q 16, .inl (cI, 64, .inl (upd gn lc (nI b)))), (q 17, .inl (cI, 64, .inl (upd gq lc (nI nw))))] := hD
            refine lv_iload hx hb kd_M_comes_139 (lv_at hl 1 rfl) ?_
            exact hret _ _ _ _ _ _ (Or.inl rfl) kd_M_comes_141 hP hD hS (⟨0, lc, lc + 1, rfl, rfl, (by first | exact Or.inl ⟨rfl, by omega, hm2, rfl⟩ | exact Or.inr ⟨rfl, ekl ▸ hno, Or.inl ⟨c92, rfl, rfl⟩⟩ | exact Or.inr ⟨rfl, ekl ▸ hno, Or.inr ⟨by omega, ham2, rfl⟩⟩), (by omega)⟩)
        · skip
          obtain ⟨m, hm1, rfl, hm2⟩ := zf_FA_pos hf c72
          refine lv_iconst (v := nI 1) hx hb kd_M_comes_75 (by decide) ?_
          refine lv_goto (tgt := 80) hx hb kd_M_comes_76 (by decide) ?_
          refine lv_istore (lv' := [(6, .int (nI 1)), (0, .ref (q 0)), (1, .int (nI b)), (2, .int (nI li)), (3, .int (nI nw)), (4, .int (nI m)), (5, .int (nI o))]) hx hb kd_M_comes_80 hl (by decide) rfl (fun ls hl => ?_)
          refine lv_iload hx hb kd_M_comes_82 (lv_at hl 0 rfl) ?_
          refine zz_if_ne (tgt := 114) hx hb kd_M_comes_84 (by decide) (by decide) (fun _ => ?_) (fun c9 => absurd c9 (by decide))
          refine lv_iload hx hb kd_M_comes_114 (lv_at hl 0 rfl) ?_
          refine zz_if_ne (tgt := 123) hx hb kd_M_comes_116 (by decide) (by decide) (fun _ => ?_) (fun c9 => absurd c9 (by decide))
          refine lv_aload_n hx hb kd_M_comes_123 rfl (lv_at hl 1 rfl) ?_
          refine va_get (D := (dC, dI)) (ci := 3) (v := .ref (q 16)) (C := zk_RM) (T := zk_TM) (N := 22) hx hb hts kl_M hown hK hP 0 rfl rfl 18 (by decide) (hts _ kj_364) (fun _ h9 => h9) rfl kd_M_comes_124 ?_
          refine lv_iload hx hb kd_M_comes_127 (lv_at hl 5 rfl) ?_
          refine lv_iload_n hx hb kd_M_comes_129 rfl (lv_at hl 2 rfl) ?_
          refine zz_iast hx hb hK hP hD hS 1 0 rfl rfl (k := m) (by omega) (by decide) kd_M_comes_130 (fun H locs hP hD hS => ?_)
          have hP : va_P (dC, dI) zk_cl [(q 0, zm_ob q th n lc kp), (q 16, .inl (cI, 64, .inl (upd gn m (nI b)))), (q 17, .inl (cI, 64, .inl gq))] H := hP
          have hD : va_D A [(q 0, zm_ob q th n lc kp), (q 16, .inl (cI, 64, .inl (upd gn m (nI b)))), (q 17, .inl (cI, 64, .inl gq))] := hD
          refine lv_aload_n hx hb kd_M_comes_131 rfl (lv_at hl 1 rfl) ?_
          refine va_get (D := (dC, dI)) (ci := 3) (v := .ref (q 17)) (C := zk_RM) (T := zk_TM) (N := 22) hx hb hts kl_M hown hK hP 0 rfl rfl 19 (by decide) (hts _ kj_365) (fun _ h9 => h9) rfl kd_M_comes_132 ?_
          refine lv_iload hx hb kd_M_comes_135 (lv_at hl 5 rfl) ?_
          refine lv_iload_n hx hb kd_M_comes_137 rfl (lv_at hl 4 rfl) ?_
          refine zz_iast hx hb hK hP hD hS 2 0 rfl rfl (k := m) (by omega) (by decide) kd_M_comes_138 (fun H locs hP hD hS => ?_)
          have hP : va_P (dC, dI) zk_cl [(q 0, zm_ob q th n lc kp), (q 16, .inl (cI, 64, .inl (upd gn m (nI b)))), (q 17, .inl (cI, 64, .inl (upd gq m (nI nw))))] H := hP
          have hD : va_D A [(q 0, zm_ob q th n lc kp), (q 16, .inl (cI, 64, .inl (upd gn m (nI b)))), (q 17, .inl (cI, 64, .inl (upd gq m (nI nw))))] := hD
          refine lv_iload hx hb kd_M_comes_139 (lv_at hl 0 rfl) ?_
          exact hret _ _ _ _ _ _ (Or.inr rfl) kd_M_comes_141 hP hD hS (⟨1, m, lc, rfl, rfl, (by first | exact Or.inl ⟨rfl, by omega, hm2, rfl⟩ | exact Or.inr ⟨rfl, ekl ▸ hno, Or.inl ⟨c92, rfl, rfl⟩⟩ | exact Or.inr ⟨rfl, ekl ▸ hno, Or.inr ⟨by omega, ham2, rfl⟩⟩), (by omega)⟩)
      · skip
        refine lv_aload_n hx hb kd_M_comes_18 rfl (lv_at hl 0 rfl) ?_
        refine va_get (D := (dC, dI)) (ci := 3) (v := .ref (q 16)) (C := zk_RM) (T := zk_TM) (N := 22) hx hb hts kl_M hown hK hP 0 rfl rfl 18 (by decide) (hts _ kj_364) (fun _ h9 => h9) rfl kd_M_comes_19 ?_
        refine lv_iload hx hb kd_M_comes_22 (lv_at hl 6 rfl) ?_
        refine zz_iald hx hb hK hP 1 0 rfl rfl (k := k) (by omega) (by decide) kd_M_comes_24 ?_
        refine lv_iload_n hx hb kd_M_comes_25 rfl (lv_at hl 1 rfl) ?_
        refine lv_icmp_ne (tgt := 34) hx hb kd_M_comes_26 (by decide) (fun c26 => ?_) (fun c26 => ?_)
        · skip
          refine lv_iload hx hb kd_M_comes_34 (lv_at hl 4 rfl) ?_
          refine lv_istore (lv' := [(4, .int f), (0, .ref (q 0)), (1, .int (nI b)), (2, .int (nI li)), (3, .int (nI nw)), (5, .int (nI o)), (6, .int (nI k))]) hx hb kd_M_comes_36 hl (by decide) rfl (fun ls hl => ?_)
          refine lv_aload_n hx hb kd_M_comes_38 rfl (lv_at hl 1 rfl) ?_
          refine va_get (D := (dC, dI)) (ci := 3) (v := .ref (q 17)) (C := zk_RM) (T := zk_TM) (N := 22) hx hb hts kl_M hown hK hP 0 rfl rfl 19 (by decide) (hts _ kj_365) (fun _ h9 => h9) rfl kd_M_comes_39 ?_
          refine lv_iload hx hb kd_M_comes_42 (lv_at hl 6 rfl) ?_
          refine zz_iald hx hb hK hP 2 0 rfl rfl (k := k) (by omega) (by decide) kd_M_comes_44 ?_
          refine lv_aload_n hx hb kd_M_comes_45 rfl (lv_at hl 1 rfl) ?_
          refine va_get (D := (dC, dI)) (ci := 3) (v := .ref (q 17)) (C := zk_RM) (T := zk_TM) (N := 22) hx hb hts kl_M hown hK hP 0 rfl rfl 19 (by decide) (hts _ kj_365) (fun _ h9 => h9) rfl kd_M_comes_46 ?_
          refine lv_iload hx hb kd_M_comes_49 (lv_at hl 5 rfl) ?_
          refine zz_iald hx hb hK hP 2 0 rfl rfl (k := o) (by omega) (by decide) kd_M_comes_51 ?_
          refine lv_icmp_ge (tgt := 60) hx hb kd_M_comes_52 (by decide) (fun c52 => ?_) (fun c52 => ?_)
          · skip
            refine lv_iload hx hb kd_M_comes_60 (lv_at hl 5 rfl) ?_
            refine lv_istore (lv' := [(5, .int (nI o)), (4, .int f), (0, .ref (q 0)), (1, .int (nI b)), (2, .int (nI li)), (3, .int (nI nw)), (6, .int (nI k))]) hx hb kd_M_comes_62 hl (by decide) rfl (fun ls hl => ?_)
            refine lv_iinc (v := nI (k + 1)) (lv' := [(6, .int (nI (k + 1))), (5, .int (nI o)), (4, .int f), (0, .ref (q 0)), (1, .int (nI b)), (2, .int (nI li)), (3, .int (nI nw))]) hx hb kd_M_comes_64 hl (k := 6) rfl (by first | exact nI_1 _ | (show _ + _ = _; exact nI_1 _)) (by decide) rfl (fun ls hl => ?_)
            refine lv_goto (tgt := 9) hx hb kd_M_comes_67 (by decide) ?_
            exact ih (k + 1) o f (by omega) (by omega) (by first | exact zf_FA_t c26 | exact zf_FA_f c26 hf) (by first | exact zf_AM0_t ham (zu_nle c52) | exact zf_AM0_f ham (zu_nlt c52)) _ _ hP hD hS ls (lv_sub hl [3, 4, 5, 6, 2, 1, 0] rfl)
          · skip
            refine lv_iload hx hb kd_M_comes_55 (lv_at hl 6 rfl) ?_
            refine lv_goto (tgt := 62) hx hb kd_M_comes_57 (by decide) ?_
            refine lv_istore (lv' := [(5, .int (nI k)), (4, .int f), (0, .ref (q 0)), (1, .int (nI b)), (2, .int (nI li)), (3, .int (nI nw)), (6, .int (nI k))]) hx hb kd_M_comes_62 hl (by decide) rfl (fun ls hl => ?_)
            refine lv_iinc (v := nI (k + 1)) (lv' := [(6, .int (nI (k + 1))), (5, .int (nI k)), (4, .int f), (0, .ref (q 0)), (1, .int (nI b)), (2, .int (nI li)), (3, .int (nI nw))]) hx hb kd_M_comes_64 hl (k := 6) rfl (by first | exact nI_1 _ | (show _ + _ = _; exact nI_1 _)) (by decide) rfl (fun ls hl => ?_)
            refine lv_goto (tgt := 9) hx hb kd_M_comes_67 (by decide) ?_
            exact ih (k + 1) k f (by omega) (by omega) (by first | exact zf_FA_t c26 | exact zf_FA_f c26 hf) (by first | exact zf_AM0_t ham (zu_nle c52) | exact zf_AM0_f ham (zu_nlt c52)) _ _ hP hD hS ls (lv_sub hl [3, 4, 5, 6, 2, 1, 0] rfl)
        · skip
          refine lv_iload hx hb kd_M_comes_29 (lv_at hl 6 rfl) ?_
          refine lv_goto (tgt := 36) hx hb kd_M_comes_31 (by decide) ?_
          refine lv_istore (lv' := [(4, .int (nI k)), (0, .ref (q 0)), (1, .int (nI b)), (2, .int (nI li)), (3, .int (nI nw)), (5, .int (nI o)), (6, .int (nI k))]) hx hb kd_M_comes_36 hl (by decide) rfl (fun ls hl => ?_)
          refine lv_aload_n hx hb kd_M_comes_38 rfl (lv_at hl 1 rfl) ?_
          refine va_get (D := (dC, dI)) (ci := 3) (v := .ref (q 17)) (C := zk_RM) (T := zk_TM) (N := 22) hx hb hts kl_M hown hK hP 0 rfl rfl 19 (by decide) (hts _ kj_365) (fun _ h9 => h9) rfl kd_M_comes_39 ?_
          refine lv_iload hx hb kd_M_comes_42 (lv_at hl 6 rfl) ?_
          refine zz_iald hx hb hK hP 2 0 rfl rfl (k := k) (by omega) (by decide) kd_M_comes_44 ?_
          refine lv_aload_n hx hb kd_M_comes_45 rfl (lv_at hl 1 rfl) ?_
          refine va_get (D := (dC, dI)) (ci := 3) (v := .ref (q 17)) (C := zk_RM) (T := zk_TM) (N := 22) hx hb hts kl_M hown hK hP 0 rfl rfl 19 (by decide) (hts _ kj_365) (fun _ h9 => h9) rfl kd_M_comes_46 ?_
          refine lv_iload hx hb kd_M_comes_49 (lv_at hl 5 rfl) ?_
          refine zz_iald hx hb hK hP 2 0 rfl rfl (k := o) (by omega) (by decide) kd_M_comes_51 ?_
          refine lv_icmp_ge (tgt := 60) hx hb kd_M_comes_52 (by decide) (fun c52 => ?_) (fun c52 => ?_)
          · skip
            refine lv_iload hx hb kd_M_comes_60 (lv_at hl 5 rfl) ?_
            refine lv_istore (lv' := [(5, .int (nI o)), (4, .int (nI k)), (0, .ref (q 0)), (1, .int (nI b)), (2, .int (nI li)), (3, .int (nI nw)), (6, .int (nI k))]) hx hb kd_M_comes_62 hl (by decide) rfl (fun ls hl => ?_)
            refine lv_iinc (v := nI (k + 1)) (lv' := [(6, .int (nI (k + 1))), (5, .int (nI o)), (4, .int (nI k)), (0, .ref (q 0)), (1, .int (nI b)), (2, .int (nI li)), (3, .int (nI nw))]) hx hb kd_M_comes_64 hl (k := 6) rfl (by first | exact nI_1 _ | (show _ + _ = _; exact nI_1 _)) (by decide) rfl (fun ls hl => ?_)
            refine lv_goto (tgt := 9) hx hb kd_M_comes_67 (by decide) ?_
            exact ih (k + 1) o (nI k) (by omega) (by omega) (by first | exact zf_FA_t c26 | exact zf_FA_f c26 hf) (by first | exact zf_AM0_t ham (zu_nle c52) | exact zf_AM0_f ham (zu_nlt c52)) _ _ hP hD hS ls (lv_sub hl [3, 4, 5, 6, 2, 1, 0] rfl)
          · skip
            refine lv_iload hx hb kd_M_comes_55 (lv_at hl 6 rfl) ?_
            refine lv_goto (tgt := 62) hx hb kd_M_comes_57 (by decide) ?_
            refine lv_istore (lv' := [(5, .int (nI k)), (4, .int (nI k)), (0, .ref (q 0)), (1, .int (nI b)), (2, .int (nI li)), (3, .int (nI nw)), (6, .int (nI k))]) hx hb kd_M_comes_62 hl (by decide) rfl (fun ls hl => ?_)
            refine lv_iinc (v := nI (k + 1)) (lv' := [(6, .int (nI (k + 1))), (5, .int (nI k)), (4, .int (nI k)), (0, .ref (q 0)), (1, .int (nI b)), (2, .int (nI li)), (3, .int (nI nw))]) hx hb kd_M_comes_64 hl (k := 6) rfl (by first | exact nI_1 _ | (show _ + _ = _; exact nI_1 _)) (by decide) rfl (fun ls hl => ?_)
            refine lv_goto (tgt := 9) hx hb kd_M_comes_67 (by decide) ?_
            exact ih (k + 1) k (nI k) (by omega) (by omega) (by first | exact zf_FA_t c26 | exact zf_FA_f c26 hf) (by first | exact zf_AM0_t ham (zu_nle c52) | exact zf_AM0_f ham (zu_nlt c52)) _ _ hP hD hS ls (lv_sub hl [3, 4, 5, 6, 2, 1, 0] rfl)
  exact hc9 _ 0 0 (-1) (Nat.lt_succ_self _) (by omega) (zf_FA_0) (Or.inl ⟨rfl, rfl⟩) _ _ hP hD hS ls (lv_sub hl [3, 4, 5, 6, 2, 1, 0] rfl)
