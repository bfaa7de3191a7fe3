abbrev kw_Y_init : List Cond := Cond.code ky_Y_init kb_Y_init 1 none :: kw_all
abbrev kw_W_init : List Cond := Cond.code ky_W_init kb_W_init 1 none :: kw_all
abbrev kw_Y_accesses : List Cond := Cond.code ky_Y_accesses kb_Y_accesses 1 (some .int) :: kw_all
abbrev kw_W_length : List Cond := Cond.code ky_W_length kb_W_length 1 (some .int) :: kw_all
abbrev kw_Y_make : List Cond := Cond.code ky_Y_make kb_Y_make 7 none :: kw_all
abbrev kw_I_bitCount : List Cond := Cond.code ky_I_bitCount kb_I_bitCount 1 (some .int) :: kw_all
abbrev kw_Y_areBits : List Cond := Cond.code ky_Y_areBits kb_Y_areBits 1 (some .boolean) :: kw_all
abbrev kw_C_init : List Cond := Cond.code ky_C_init kb_C_init 1 none :: kw_all
abbrev kw_C_become : List Cond := Cond.code ky_C_become kb_C_become 5 none :: kw_all
abbrev kw_C_emptyAll : List Cond := Cond.code ky_C_emptyAll kb_C_emptyAll 2 none :: kw_all
abbrev kw_Y_access : List Cond := Cond.code ky_Y_access kb_Y_access 7 (some .int) :: kw_all
abbrev kw_W_keep : List Cond := Cond.code ky_W_keep kb_W_keep 2 none :: kw_all
abbrev kw_C_sees : List Cond := Cond.code ky_C_sees kb_C_sees 9 (some .boolean) :: kw_all
abbrev kw_C_countSets : List Cond := Cond.code ky_C_countSets kb_C_countSets 1 (some .int) :: kw_all
abbrev kw_C_findPlace : List Cond := Cond.code ky_C_findPlace kb_C_findPlace 4 (some .int) :: kw_all
abbrev kw_C_blockAt : List Cond := Cond.code ky_C_blockAt kb_C_blockAt 3 (some .int) :: kw_all
abbrev kw_C_slotOf : List Cond := Cond.code ky_C_slotOf kb_C_slotOf 3 (some .int) :: kw_all
abbrev kw_C_bringIn : List Cond := Cond.code ky_C_bringIn kb_C_bringIn 5 (some .int) :: kw_all
abbrev kw_C_pointedPlace : List Cond := Cond.code ky_C_pointedPlace kb_C_pointedPlace 7 (some .int) :: kw_all
abbrev kw_C_oldestPlace : List Cond := Cond.code ky_C_oldestPlace kb_C_oldestPlace 4 (some .int) :: kw_all
abbrev kw_C_isDirtyAt : List Cond := Cond.code ky_C_isDirtyAt kb_C_isDirtyAt 3 (some .boolean) :: kw_all
abbrev kw_C_pointAway : List Cond := Cond.code ky_C_pointAway kb_C_pointAway 6 none :: kw_all
abbrev kw_Y_flush : List Cond := Cond.code ky_Y_flush kb_Y_flush 2 (some .int) :: kw_all
abbrev kw_Y_madeCache : List Cond := Cond.code ky_Y_madeCache kb_Y_madeCache 3 (some (.object "CacheYard$Cache")) :: kw_all
abbrev kw_C_letAllGo : List Cond := Cond.code ky_C_letAllGo kb_C_letAllGo 2 (some .int) :: kw_all
abbrev kw_C_countDirty : List Cond := Cond.code ky_C_countDirty kb_C_countDirty 3 (some .int) :: kw_all
abbrev kw_Y_place : List Cond := Cond.code ky_Y_place kb_Y_place 6 (some .int) :: kw_all
abbrev kw_C_hasPlace : List Cond := Cond.code ky_C_hasPlace kb_C_hasPlace 3 (some .boolean) :: kw_all
abbrev kw_Y_about : List Cond := Cond.code ky_Y_about kb_Y_about 4 (some .int) :: kw_all
abbrev kw_C_countHeld : List Cond := Cond.code ky_C_countHeld kb_C_countHeld 3 (some .int) :: kw_all
abbrev kw_Y_curve : List Cond := Cond.code ky_Y_curve kb_Y_curve 3 (some .int) :: kw_all
abbrev kw_Y_requireLinesAndBits : List Cond := Cond.code ky_Y_requireLinesAndBits kb_Y_requireLinesAndBits 2 none :: kw_all
abbrev kw_W_countHits : List Cond := Cond.code ky_W_countHits kb_W_countHits 8 (some .int) :: kw_all
abbrev kw_W_findNextUses : List Cond := Cond.code ky_W_findNextUses kb_W_findNextUses 4 none :: kw_all
abbrev kw_W_findLine : List Cond := Cond.code ky_W_findLine kb_W_findLine 4 (some .int) :: kw_all
abbrev kw_W_lineNeededLast : List Cond := Cond.code ky_W_lineNeededLast kb_W_lineNeededLast 4 (some .int) :: kw_all
abbrev kw_W_bringToFront : List Cond := Cond.code ky_W_bringToFront kb_W_bringToFront 4 none :: kw_all
abbrev kw_Y_best : List Cond := Cond.code ky_Y_best kb_Y_best 3 (some .int) :: kw_all
abbrev kw_M_init : List Cond := Cond.code ky_M_init kb_M_init 1 none :: kw_all
abbrev kw_M_thrown : List Cond := Cond.code ky_M_thrown kb_M_thrown 1 (some .int) :: kw_all
abbrev kw_M_make : List Cond := Cond.code ky_M_make kb_M_make 8 none :: kw_all
abbrev kw_M_in : List Cond := Cond.code ky_M_in kb_M_in 3 (some .boolean) :: kw_all
abbrev kw_M_refuse : List Cond := Cond.code ky_M_refuse kb_M_refuse 4 (some .boolean) :: kw_all
abbrev kw_M_empty : List Cond := Cond.code ky_M_empty kb_M_empty 3 none :: kw_all
abbrev kw_M_access : List Cond := Cond.code ky_M_access kb_M_access 7 (some .int) :: kw_all
abbrev kw_M_see : List Cond := Cond.code ky_M_see kb_M_see 8 (some .boolean) :: kw_all
abbrev kw_M_placeOf : List Cond := Cond.code ky_M_placeOf kb_M_placeOf 6 (some .int) :: kw_all
abbrev kw_M_victimOf : List Cond := Cond.code ky_M_victimOf kb_M_victimOf 6 (some .int) :: kw_all
abbrev kw_M_pointed : List Cond := Cond.code ky_M_pointed kb_M_pointed 7 (some .int) :: kw_all
abbrev kw_M_turn : List Cond := Cond.code ky_M_turn kb_M_turn 8 none :: kw_all
abbrev kw_M_flush : List Cond := Cond.code ky_M_flush kb_M_flush 3 (some .int) :: kw_all
abbrev kw_M_isThere : List Cond := Cond.code ky_M_isThere kb_M_isThere 2 (some .boolean) :: kw_all
abbrev kw_M_count : List Cond := Cond.code ky_M_count kb_M_count 5 (some .int) :: kw_all
abbrev kw_M_place : List Cond := Cond.code ky_M_place kb_M_place 8 (some .int) :: kw_all
abbrev kw_M_about : List Cond := Cond.code ky_M_about kb_M_about 4 (some .int) :: kw_all
abbrev kw_M_accesses : List Cond := Cond.code ky_M_accesses kb_M_accesses 1 (some .int) :: kw_all
abbrev kw_M_curve : List Cond := Cond.code ky_M_curve kb_M_curve 5 (some .int) :: kw_all
abbrev kw_M_comes : List Cond := Cond.code ky_M_comes kb_M_comes 7 (some .boolean) :: kw_all
abbrev kw_M_best : List Cond := Cond.code ky_M_best kb_M_best 9 (some .int) :: kw_all
abbrev kw_M_nextOf : List Cond := Cond.code ky_M_nextOf kb_M_nextOf 4 (some .int) :: kw_all
theorem kl_C : ∀ w ∈ u_ws zk_RC zk_TC 12, w ∈ kw_all := kw_pick _ [158, 159, 160, 161, 162, 163, 164, 165, 166, 167, 168, 169] (by decide +kernel)
theorem kl_W : ∀ w ∈ u_ws zk_RW zk_TW 5, w ∈ kw_all := kw_pick _ [56, 57, 58, 59, 60] (by decide +kernel)
theorem kl_Y : ∀ w ∈ u_ws zk_RY zk_TY 2, w ∈ kw_all := kw_pick _ [64, 65] (by decide +kernel)
theorem kl_M : ∀ w ∈ u_ws zk_RM zk_TM 22, w ∈ kw_all := kw_pick _ [368, 369, 370, 371, 372, 373, 374, 375, 376, 377, 378, 379, 380, 381, 382, 383, 384, 385, 386, 387, 388, 389] (by decide +kernel)
/-! ROWS OF MY OWN: numbers, branches by numbers, array places by numbers; contracts in one form; calls with their frame -/
theorem zn_dec {a : Nat} (h : 0 < a) : nI a + (-1) = nI (a - 1) := by
  obtain ⟨b, rfl⟩ : ∃ b, a = b + 1 := ⟨a - 1, by omega⟩
  exact pk_m1 b
theorem zn_sl : ∀ n, n < 32 → ((nI n &&& 31).toBitVec.smod 32).toNat = n := by decide +kernel
theorem zn_shr {n k : Nat} (h : n < 2 ^ 31) (hk : k < 32) : nI n >>> (nI k &&& 31) = nI (n / 2 ^ k) := pk_shrN h _ k (zn_sl k hk)
theorem zn_shl1 {k : Nat} (h : k ≤ 16) : nI 1 <<< (nI k &&& 31) = nI (2 ^ k) := by
  rw [pk_shlN (n := 1) (nI k &&& 31) k (zn_sl k (by omega)) (by
    have : 2 ^ k ≤ 2 ^ 16 := Nat.pow_le_pow_right (by decide) h
    omega), Nat.one_mul]
theorem zn_mask {n k : Nat} (h : n < 2 ^ 31) (hk : k ≤ 16) : nI n &&& nI (2 ^ k - 1) = nI (n % 2 ^ k) :=
  pk_andN (by omega) k (pk_tn (by
    have : 2 ^ k ≤ 2 ^ 16 := Nat.pow_le_pow_right (by decide) hk
    omega))
section ZA
variable {p : Program} {l : Launch} {e : Env} {R : Room} {s : State} {m : MethodId} {args : Array Value} {below : List Frame} {meth : Method} {c : Code} {H : Heap} {locs : List Loc} {cells slots : Nat} {Q : State → Prop}
variable {cc : ByteArray} {pc : Nat} {ls : Array Slot} {rest : List Value}
theorem zz_top {x y : Int32} (h : x = y) (k : W p l e R s m args below meth c H locs cells slots Q (F0 m pc ls (.int y :: rest))) : W p l e R s m args below meth c H locs cells slots Q (F0 m pc ls (.int x :: rest)) := by
  rw [h]; exact k
theorem zz_icmp_lt (hx : p.tables.exec = Jvm.exec) (hb : c.code = cc) {a b : Nat} {off : Int} {tgt : Nat} (hdg : decode cc pc = .ok (.if_icmp .lt off, 3)) (ht : (pc : Int) + off = (tgt : Int)) (ha : a < 2 ^ 31) (hb2 : b < 2 ^ 31)
    (kt : a < b → W p l e R s m args below meth c H locs cells slots Q (F0 m tgt ls rest)) (kf : b ≤ a → W p l e R s m args below meth c H locs cells slots Q (F0 m (pc + 3) ls rest)) : W p l e R s m args below meth c H locs cells slots Q (F0 m pc ls (.int (nI b) :: .int (nI a) :: rest)) :=
  lv_icmp_lt hx hb hdg ht (fun h => kt ((nI_ltI ha hb2).mp h)) (fun h => kf (Nat.not_lt.mp fun q => h ((nI_ltI ha hb2).mpr q)))
theorem zz_icmp_ge (hx : p.tables.exec = Jvm.exec) (hb : c.code = cc) {a b : Nat} {off : Int} {tgt : Nat} (hdg : decode cc pc = .ok (.if_icmp .ge off, 3)) (ht : (pc : Int) + off = (tgt : Int)) (ha : a < 2 ^ 31) (hb2 : b < 2 ^ 31)
    (kt : b ≤ a → W p l e R s m args below meth c H locs cells slots Q (F0 m tgt ls rest)) (kf : a < b → W p l e R s m args below meth c H locs cells slots Q (F0 m (pc + 3) ls rest)) : W p l e R s m args below meth c H locs cells slots Q (F0 m pc ls (.int (nI b) :: .int (nI a) :: rest)) :=
  lv_icmp_ge hx hb hdg ht (fun h => kt ((nI_leI hb2 ha).mp h)) (fun h => kf (Nat.not_le.mp fun q => h ((nI_leI hb2 ha).mpr q)))
theorem zz_icmp_gt (hx : p.tables.exec = Jvm.exec) (hb : c.code = cc) {a b : Nat} {off : Int} {tgt : Nat} (hdg : decode cc pc = .ok (.if_icmp .gt off, 3)) (ht : (pc : Int) + off = (tgt : Int)) (ha : a < 2 ^ 31) (hb2 : b < 2 ^ 31)
    (kt : b < a → W p l e R s m args below meth c H locs cells slots Q (F0 m tgt ls rest)) (kf : a ≤ b → W p l e R s m args below meth c H locs cells slots Q (F0 m (pc + 3) ls rest)) : W p l e R s m args below meth c H locs cells slots Q (F0 m pc ls (.int (nI b) :: .int (nI a) :: rest)) :=
  lv_icmp_gt hx hb hdg ht (fun h => kt ((nI_ltI hb2 ha).mp h)) (fun h => kf (Nat.not_lt.mp fun q => h ((nI_ltI hb2 ha).mpr q)))
theorem zz_icmp_le (hx : p.tables.exec = Jvm.exec) (hb : c.code = cc) {a b : Nat} {off : Int} {tgt : Nat} (hdg : decode cc pc = .ok (.if_icmp .le off, 3)) (ht : (pc : Int) + off = (tgt : Int)) (ha : a < 2 ^ 31) (hb2 : b < 2 ^ 31)
    (kt : a ≤ b → W p l e R s m args below meth c H locs cells slots Q (F0 m tgt ls rest)) (kf : b < a → W p l e R s m args below meth c H locs cells slots Q (F0 m (pc + 3) ls rest)) : W p l e R s m args below meth c H locs cells slots Q (F0 m pc ls (.int (nI b) :: .int (nI a) :: rest)) :=
  lv_icmp_le hx hb hdg ht (fun h => kt ((nI_leI ha hb2).mp h)) (fun h => kf (Nat.not_le.mp fun q => h ((nI_leI ha hb2).mpr q)))
theorem zz_icmp_eq (hx : p.tables.exec = Jvm.exec) (hb : c.code = cc) {a b : Nat} {off : Int} {tgt : Nat} (hdg : decode cc pc = .ok (.if_icmp .eq off, 3)) (ht : (pc : Int) + off = (tgt : Int)) (ha : a < 2 ^ 31) (hb2 : b < 2 ^ 31)
    (kt : a = b → W p l e R s m args below meth c H locs cells slots Q (F0 m tgt ls rest)) (kf : ¬ a = b → W p l e R s m args below meth c H locs cells slots Q (F0 m (pc + 3) ls rest)) : W p l e R s m args below meth c H locs cells slots Q (F0 m pc ls (.int (nI b) :: .int (nI a) :: rest)) :=
  lv_icmp_eq hx hb hdg ht (fun h => kt ((nI_eq ha hb2).mp h)) (fun h => kf (fun q => h ((nI_eq ha hb2).mpr q)))
theorem zz_icmp_ne (hx : p.tables.exec = Jvm.exec) (hb : c.code = cc) {a b : Nat} {off : Int} {tgt : Nat} (hdg : decode cc pc = .ok (.if_icmp .ne off, 3)) (ht : (pc : Int) + off = (tgt : Int)) (ha : a < 2 ^ 31) (hb2 : b < 2 ^ 31)
    (kt : ¬ a = b → W p l e R s m args below meth c H locs cells slots Q (F0 m tgt ls rest)) (kf : a = b → W p l e R s m args below meth c H locs cells slots Q (F0 m (pc + 3) ls rest)) : W p l e R s m args below meth c H locs cells slots Q (F0 m pc ls (.int (nI b) :: .int (nI a) :: rest)) :=
  lv_icmp_ne hx hb hdg ht (fun h => kt (fun q => h ((nI_eq ha hb2).mpr q))) (fun h => kf ((nI_eq ha hb2).mp h))
theorem zz_if_eq (hx : p.tables.exec = Jvm.exec) (hb : c.code = cc) {a : Nat} {off : Int} {tgt : Nat} (hdg : decode cc pc = .ok (.ifCond .eq off, 3)) (ht : (pc : Int) + off = (tgt : Int)) (ha : a < 2 ^ 31)
    (kt : a = 0 → W p l e R s m args below meth c H locs cells slots Q (F0 m tgt ls rest)) (kf : 0 < a → W p l e R s m args below meth c H locs cells slots Q (F0 m (pc + 3) ls rest)) : W p l e R s m args below meth c H locs cells slots Q (F0 m pc ls (.int (nI a) :: rest)) :=
  lv_if_eq hx hb hdg ht (fun h => kt (Nat.eq_zero_of_not_pos fun q => nI_ne0 q ha h)) (fun h => kf (Nat.pos_of_ne_zero fun q => h (by rw [q]; rfl)))
theorem zz_if_ne (hx : p.tables.exec = Jvm.exec) (hb : c.code = cc) {a : Nat} {off : Int} {tgt : Nat} (hdg : decode cc pc = .ok (.ifCond .ne off, 3)) (ht : (pc : Int) + off = (tgt : Int)) (ha : a < 2 ^ 31)
    (kt : 0 < a → W p l e R s m args below meth c H locs cells slots Q (F0 m tgt ls rest)) (kf : a = 0 → W p l e R s m args below meth c H locs cells slots Q (F0 m (pc + 3) ls rest)) : W p l e R s m args below meth c H locs cells slots Q (F0 m pc ls (.int (nI a) :: rest)) :=
  lv_if_ne hx hb hdg ht (fun h => kt (Nat.pos_of_ne_zero fun q => h (by rw [q]; rfl))) (fun h => kf (Nat.eq_zero_of_not_pos fun q => nI_ne0 q ha h))
theorem zz_if_gt (hx : p.tables.exec = Jvm.exec) (hb : c.code = cc) {a : Nat} {off : Int} {tgt : Nat} (hdg : decode cc pc = .ok (.ifCond .gt off, 3)) (ht : (pc : Int) + off = (tgt : Int)) (ha : a < 2 ^ 31)
    (kt : 0 < a → W p l e R s m args below meth c H locs cells slots Q (F0 m tgt ls rest)) (kf : a = 0 → W p l e R s m args below meth c H locs cells slots Q (F0 m (pc + 3) ls rest)) : W p l e R s m args below meth c H locs cells slots Q (F0 m pc ls (.int (nI a) :: rest)) :=
  lv_if_gt hx hb hdg ht (fun h => kt ((nI_ltI (by decide) ha).mp h)) (fun h => kf (Nat.eq_zero_of_not_pos fun q => h ((nI_ltI (a := 0) (by decide) ha).mpr q)))
theorem zz_if_le (hx : p.tables.exec = Jvm.exec) (hb : c.code = cc) {a : Nat} {off : Int} {tgt : Nat} (hdg : decode cc pc = .ok (.ifCond .le off, 3)) (ht : (pc : Int) + off = (tgt : Int)) (ha : a < 2 ^ 31)
    (kt : a = 0 → W p l e R s m args below meth c H locs cells slots Q (F0 m tgt ls rest)) (kf : 0 < a → W p l e R s m args below meth c H locs cells slots Q (F0 m (pc + 3) ls rest)) : W p l e R s m args below meth c H locs cells slots Q (F0 m pc ls (.int (nI a) :: rest)) :=
  lv_if_le hx hb hdg ht (fun h => kt (Nat.eq_zero_of_not_pos fun q => nI_nle q ha h)) (fun h => kf (Nat.pos_of_ne_zero fun q => h (by rw [q]; exact (by decide : (0 : Int32) ≤ 0))))
theorem zz_if_lt (hx : p.tables.exec = Jvm.exec) (hb : c.code = cc) {a : Nat} {off : Int} (hdg : decode cc pc = .ok (.ifCond .lt off, 3)) {tgt : Nat} (ht : (pc : Int) + off = (tgt : Int)) (ha : a < 2 ^ 31)
    (kf : W p l e R s m args below meth c H locs cells slots Q (F0 m (pc + 3) ls rest)) : W p l e R s m args below meth c H locs cells slots Q (F0 m pc ls (.int (nI a) :: rest)) :=
  lv_if_lt hx hb hdg ht (fun h => absurd h (nI_pos ha)) (fun _ => kf)
theorem zz_if_ge (hx : p.tables.exec = Jvm.exec) (hb : c.code = cc) {a : Nat} {off : Int} {tgt : Nat} (hdg : decode cc pc = .ok (.ifCond .ge off, 3)) (ht : (pc : Int) + off = (tgt : Int)) (ha : a < 2 ^ 31)
    (kt : W p l e R s m args below meth c H locs cells slots Q (F0 m tgt ls rest)) : W p l e R s m args below meth c H locs cells slots Q (F0 m pc ls (.int (nI a) :: rest)) :=
  lv_if_ge hx hb hdg ht (fun _ => kt) (fun h => absurd (nI_pos' ha) h)
variable {D : va_G} {cl : List vw_C} {A : Nat → Prop} {a : Nat} {tys : List (ClassId × FieldType)} {ws : va_W} {H0 : Heap}
theorem zz_iald (hx : p.tables.exec = Jvm.exec) (hb : c.code = cc) (hK : va_K D cl tys s) (hP : va_P D cl ws H) (q0 t0 : Nat) {cA : ClassId} {n : Nat} {f : Nat → Int32} (ha : ws[q0]? = some (a, .inl (cA, n, .inl f))) (ht : tys[t0]? = some (cA, .int)) {k : Nat} (hk : k < n) (hn : n < 2 ^ 31) (hdg : decode cc pc = .ok (.iaload, 1))
    (kk : W p l e R s m args below meth c H locs cells slots Q (F0 m (pc + 1) ls (.int (f k) :: rest))) : W p l e R s m args below meth c H locs cells slots Q (F0 m pc ls (.int (nI k) :: .ref a :: rest)) :=
  va_iald hx hb hK hP q0 t0 ha ht (vp_in_nI hk hn) hdg (by rw [nI_clamp (by omega)]; exact kk)
theorem zz_zald (hx : p.tables.exec = Jvm.exec) (hb : c.code = cc) (hK : va_K D cl tys s) (hP : va_P D cl ws H) (q0 t0 : Nat) {cA : ClassId} {n : Nat} {f : Nat → Int32} (ha : ws[q0]? = some (a, .inl (cA, n, .inl f))) (ht : tys[t0]? = some (cA, .boolean)) {k : Nat} (hk : k < n) (hn : n < 2 ^ 31) (hdg : decode cc pc = .ok (.baload, 1))
    (kk : W p l e R s m args below meth c H locs cells slots Q (F0 m (pc + 1) ls (.int (f k) :: rest))) : W p l e R s m args below meth c H locs cells slots Q (F0 m pc ls (.int (nI k) :: .ref a :: rest)) :=
  va_zald hx hb hK hP q0 t0 ha ht (vp_in_nI hk hn) hdg (by rw [nI_clamp (by omega)]; exact kk)
theorem zz_lald (hx : p.tables.exec = Jvm.exec) (hb : c.code = cc) (hK : va_K D cl tys s) (hP : va_P D cl ws H) (q0 t0 : Nat) {cA : ClassId} {n : Nat} {f : Nat → Int64} (ha : ws[q0]? = some (a, .inl (cA, n, .inr (.inl f)))) (ht : tys[t0]? = some (cA, .long)) {k : Nat} (hk : k < n) (hn : n < 2 ^ 31) (hdg : decode cc pc = .ok (.laload, 1))
    (kk : W p l e R s m args below meth c H locs cells slots Q (F0 m (pc + 1) ls (.long (f k) :: rest))) : W p l e R s m args below meth c H locs cells slots Q (F0 m pc ls (.int (nI k) :: .ref a :: rest)) :=
  va_lald hx hb hK hP q0 t0 ha ht (vp_in_nI hk hn) hdg (by rw [nI_clamp (by omega)]; exact kk)
theorem zz_aald (hx : p.tables.exec = Jvm.exec) (hb : c.code = cc) (hK : va_K D cl tys s) (hP : va_P D cl ws H) (q0 t0 : Nat) {cA : ClassId} {C : String} {n : Nat} {f : Nat → Option Nat} (ha : ws[q0]? = some (a, .inl (cA, n, .inr (.inr (.inr (.inr f)))))) (ht : tys[t0]? = some (cA, .object C)) {k : Nat} (hk : k < n) (hn : n < 2 ^ 31) (hdg : decode cc pc = .ok (.aaload, 1))
    (kk : W p l e R s m args below meth c H locs cells slots Q (F0 m (pc + 1) ls (va_rf (f k) :: rest))) : W p l e R s m args below meth c H locs cells slots Q (F0 m pc ls (.int (nI k) :: .ref a :: rest)) :=
  va_aldq hx hb hK hP q0 t0 ha ht (vp_in_nI hk hn) hdg (by rw [nI_clamp (by omega)]; exact kk)
theorem zz_iast (hx : p.tables.exec = Jvm.exec) (hb : c.code = cc) (hK : va_K D cl tys s) (hP : va_P D cl ws H) (hD : va_D A ws) (hS : va_S A H0 H locs) (q0 t0 : Nat) {cA : ClassId} {n : Nat} {f : Nat → Int32} (ha : ws[q0]? = some (a, .inl (cA, n, .inl f))) (ht : tys[t0]? = some (cA, .int)) {k : Nat} {x : Int32} (hk : k < n) (hn : n < 2 ^ 31) (hdg : decode cc pc = .ok (.iastore, 1))
    (kk : ∀ (H1 : Heap) (locs1 : List Loc), va_P D cl (ws.set q0 (a, .inl (cA, n, .inl (upd f k x)))) H1 → va_D A (ws.set q0 (a, .inl (cA, n, .inl (upd f k x)))) → va_S A H0 H1 locs1 → W p l e R s m args below meth c H1 locs1 cells slots Q (F0 m (pc + 1) ls rest)) : W p l e R s m args below meth c H locs cells slots Q (F0 m pc ls (.int x :: .int (nI k) :: .ref a :: rest)) := by
  refine va_iast hx hb hK hP hD hS q0 t0 ha ht (vp_in_nI hk hn) hdg (fun H1 locs1 h1 h2 h3 => ?_)
  rw [nI_clamp (by omega)] at h1 h2
  exact kk H1 locs1 h1 h2 h3
theorem zz_last (hx : p.tables.exec = Jvm.exec) (hb : c.code = cc) (hK : va_K D cl tys s) (hP : va_P D cl ws H) (hD : va_D A ws) (hS : va_S A H0 H locs) (q0 t0 : Nat) {cA : ClassId} {n : Nat} {f : Nat → Int64} (ha : ws[q0]? = some (a, .inl (cA, n, .inr (.inl f)))) (ht : tys[t0]? = some (cA, .long)) {k : Nat} {x : Int64} (hk : k < n) (hn : n < 2 ^ 31) (hdg : decode cc pc = .ok (.lastore, 1))
    (kk : ∀ (H1 : Heap) (locs1 : List Loc), va_P D cl (ws.set q0 (a, .inl (cA, n, .inr (.inl (vp_updL f k x))))) H1 → va_D A (ws.set q0 (a, .inl (cA, n, .inr (.inl (vp_updL f k x))))) → va_S A H0 H1 locs1 → W p l e R s m args below meth c H1 locs1 cells slots Q (F0 m (pc + 1) ls rest)) : W p l e R s m args below meth c H locs cells slots Q (F0 m pc ls (.long x :: .int (nI k) :: .ref a :: rest)) := by
  refine va_last hx hb hK hP hD hS q0 t0 ha ht (vp_in_nI hk hn) hdg (fun H1 locs1 h1 h2 h3 => ?_)
  rw [nI_clamp (by omega)] at h1 h2
  exact kk H1 locs1 h1 h2 h3
theorem zz_bit {x : Int32} (h : x = 0 ∨ x = 1) : vp_nar .boolean x = x := by
  rcases h with rfl | rfl <;> rfl
theorem zz_zast (hx : p.tables.exec = Jvm.exec) (hb : c.code = cc) (hK : va_K D cl tys s) (hP : va_P D cl ws H) (hD : va_D A ws) (hS : va_S A H0 H locs) (q0 t0 : Nat) {cA : ClassId} {n : Nat} {f : Nat → Int32} (ha : ws[q0]? = some (a, .inl (cA, n, .inl f))) (ht : tys[t0]? = some (cA, .boolean)) {k : Nat} {x : Int32} (hk : k < n) (hn : n < 2 ^ 31) (hbit : x = 0 ∨ x = 1) (hdg : decode cc pc = .ok (.bastore, 1))
    (kk : ∀ (H1 : Heap) (locs1 : List Loc), va_P D cl (ws.set q0 (a, .inl (cA, n, .inl (upd f k x)))) H1 → va_D A (ws.set q0 (a, .inl (cA, n, .inl (upd f k x)))) → va_S A H0 H1 locs1 → W p l e R s m args below meth c H1 locs1 cells slots Q (F0 m (pc + 1) ls rest)) : W p l e R s m args below meth c H locs cells slots Q (F0 m pc ls (.int x :: .int (nI k) :: .ref a :: rest)) := by
  refine va_zast hx hb hK hP hD hS q0 t0 ha ht (vp_in_nI hk hn) hdg (fun H1 locs1 h1 h2 h3 => ?_)
  rw [nI_clamp (by omega), zz_bit hbit] at h1 h2
  exact kk H1 locs1 h1 h2 h3
end ZA
/-- contracts: the world ws ahead, a world behind -/
def zz_ty (cI cZ cO cL : ClassId) : List (ClassId × FieldType) := [(cI, .int), (cZ, .boolean), (cO, .object "CacheYard$Cache"), (cL, .long)]
def zz_Pre (D : va_G) (tys : List (ClassId × FieldType)) (ws : va_W) (sz : Nat) (av : List Value) : Array Value → State → Prop :=
  va_Pc av (fun U => U.heap.size = sz ∧ va_P D zk_cl ws U.heap ∧ va_K D zk_cl tys U ∧ va_D (fun _ => True) ws)
def zz_B (D : va_G) (tys : List (ClassId × FieldType)) (A : Nat → Prop) (w : va_W) (t : State) : Prop := va_P D zk_cl w t.heap ∧ va_K D zk_cl tys t ∧ va_D A w
def zz_Qi (D : va_G) (tys : List (ClassId × FieldType)) (ws : va_W) (sz : Nat) (post : Int32 → va_W → Prop) := va_Qi post (zz_B D tys (va_A ws sz)) (va_A ws sz)
def zz_Qv (D : va_G) (tys : List (ClassId × FieldType)) (ws : va_W) (sz : Nat) (post : va_W → Prop) := va_Qv post (zz_B D tys (va_A ws sz)) (va_A ws sz)
def zz_Qr (D : va_G) (tys : List (ClassId × FieldType)) (ws : va_W) (sz : Nat) (post : Nat → va_W → Prop) := va_Qr (fun _ : va_W => True) (fun w a t => post a w ∧ zz_B D tys (va_A ws sz) w t) (va_A ws sz)
def zz_Mi (l : Launch) (y : MethodName) (Ws : List Cond) (rm : Room) (D : va_G) (tys : List (ClassId × FieldType)) (ws : va_W) (av : List Value) (post : Int32 → va_W → Prop) (mc ms : Nat) : Prop :=
  ∀ sz, Met l y Ws rm (zz_Pre D tys ws sz av) (zz_Qi D tys ws sz post) mc ms (va_A ws sz)
def zz_Mv (l : Launch) (y : MethodName) (Ws : List Cond) (rm : Room) (D : va_G) (tys : List (ClassId × FieldType)) (ws : va_W) (av : List Value) (post : va_W → Prop) (mc ms : Nat) : Prop :=
  ∀ sz, Met l y Ws rm (zz_Pre D tys ws sz av) (zz_Qv D tys ws sz post) mc ms (va_A ws sz)
def zz_Mr (l : Launch) (y : MethodName) (Ws : List Cond) (rm : Room) (D : va_G) (tys : List (ClassId × FieldType)) (ws : va_W) (av : List Value) (post : Nat → va_W → Prop) (mc ms : Nat) : Prop :=
  ∀ sz, Met l y Ws rm (zz_Pre D tys ws sz av) (zz_Qr D tys ws sz post) mc ms (va_A ws sz)
/-- what holds at a method's entry -/
theorem zz_entry {l : Launch} {y : MethodName} {Ws : List Cond} {rm : Room} {D : va_G} {tys : List (ClassId × FieldType)} {ws : va_W} {av : List Value} {Qc : Array Value → State → Outcome → State → Prop} {mc ms sz : Nat} {cc : ByteArray} {maxL : Nat} {ret : Option FieldType} {own : String}
    (hy : plainName y.cls = true) (hw0 : Ws = Cond.code y cc maxL ret :: kw_all) (ho : y.cls = own) (hlen : (lg_sl av).length ≤ maxL)
    (body : ∀ (p : Program) (e : Env) (s : State) (m : MethodId) (args : Array Value) (below : List Frame) (meth : Method) (c : Code), p.tables.exec = Jvm.exec → c.code = cc → c.maxLocals = maxL → s.vm.findClass own = some m.cls → (∀ w ∈ kw_all, w.before args s = true) → meth.sig.returnType = ret → meth.locks = false → meth.name = y.name →
      va_P D zk_cl ws s.heap → va_K D zk_cl tys s → ∀ A : Nat → Prop, A = va_A ws sz → s.heap.size = sz → va_D A ws → (∀ q : Nat, s.heap.size ≤ q → A q) → va_S A s.heap s.heap [] → ∀ ls : Array Slot, lv_has ls maxL (lv_args 0 av) →
      W p l e rm s m args below meth c s.heap [] 0 0 (MQ below Qc args s mc ms A) (F0 m 0 ls [])) : Met l y Ws rm (zz_Pre D tys ws sz av) Qc mc ms (va_A ws sz) := by
  subst ho
  refine Met.ofW (cc := cc) (maxL := maxL) (ret := ret) hy hw0 ?_
  intro p e s m args below meth c s₁ B hml hv
  obtain ⟨rfl, hsz, hP, hK, hD0⟩ := hv
  have hl := lv_entry av (n := maxL) hlen
  rw [lg_entry_eq]
  refine body p e s m _ below meth c B.exec B.bytes hml (findClass_of_methodNamed B.named) (fun w hw => atoms_spec (ws := Ws) B.pre w (by rw [hw0]; exact List.mem_cons_of_mem _ hw)) B.returns B.notSynchronized (name_of_methodNamed B.named B.method).1 hP hK _ rfl hsz hD0.self (fun q h => Or.inr (by omega)) va_S.rf _ hl
section ZE
variable {l : Launch} {y : MethodName} {Ws : List Cond} {rm : Room} {D : va_G} {tys : List (ClassId × FieldType)} {ws : va_W} {av : List Value} {mc ms : Nat} {cc : ByteArray} {maxL : Nat} {own : String}
theorem zz_entry_i {post : Int32 → va_W → Prop} (hy : plainName y.cls = true) (hw : Ws = Cond.code y cc maxL (some .int) :: kw_all) (ho : y.cls = own) (hlen : (lg_sl av).length ≤ maxL)
    (body : ∀ (p : Program) (e : Env) (s : State) (m : MethodId) (args : Array Value) (below : List Frame) (meth : Method) (c : Code) (Q : State → Prop), p.tables.exec = Jvm.exec → c.code = cc → c.maxLocals = maxL → s.vm.findClass own = some m.cls → (∀ w ∈ kw_all, w.before args s = true) → meth.name = y.name →
      va_P D zk_cl ws s.heap → va_K D zk_cl tys s → ∀ A : Nat → Prop, va_D A ws → (∀ q : Nat, s.heap.size ≤ q → A q) → va_S A s.heap s.heap [] →
      (∀ (r : Int32) (w : va_W) (H : Heap) (locs : List Loc) (pc : Nat) (ls : Array Slot), decode cc pc = .ok (.ireturn, 1) → va_P D zk_cl w H → va_D A w → va_S A s.heap H locs → post r w → W p l e rm s m args below meth c H locs mc ms Q (F0 m pc ls [.int r])) →
      ∀ ls : Array Slot, lv_has ls maxL (lv_args 0 av) → W p l e rm s m args below meth c s.heap [] 0 0 Q (F0 m 0 ls [])) : zz_Mi l y Ws rm D tys ws av post mc ms := by
  intro sz
  refine zz_entry hy hw ho hlen ?_
  intro p e s m args below meth c hx hb hml hown hts hr hlocks hin hP hK A hAe hsz hD hA hS ls hl
  subst hAe
  refine body p e s m args below meth c _ hx hb hml hown hts hin hP hK _ hD hA hS (fun r w H locs pc ls hdg hP hD hS hpost => ?_) ls hl
  exact W.iret (v := r) hx hb hr (fun t ht hW => ⟨⟨r, w, rfl, hpost, by rw [ht]; exact hP, va_K.moved hW.alike hK, hD⟩, hS.F ht⟩) hS.2.2 hdg hlocks
theorem zz_entry_z {post : Int32 → va_W → Prop} (hy : plainName y.cls = true) (hw : Ws = Cond.code y cc maxL (some .boolean) :: kw_all) (ho : y.cls = own) (hlen : (lg_sl av).length ≤ maxL)
    (body : ∀ (p : Program) (e : Env) (s : State) (m : MethodId) (args : Array Value) (below : List Frame) (meth : Method) (c : Code) (Q : State → Prop), p.tables.exec = Jvm.exec → c.code = cc → c.maxLocals = maxL → s.vm.findClass own = some m.cls → (∀ w ∈ kw_all, w.before args s = true) → meth.name = y.name →
      va_P D zk_cl ws s.heap → va_K D zk_cl tys s → ∀ A : Nat → Prop, va_D A ws → (∀ q : Nat, s.heap.size ≤ q → A q) → va_S A s.heap s.heap [] →
      (∀ (r : Int32) (w : va_W) (H : Heap) (locs : List Loc) (pc : Nat) (ls : Array Slot), r = 0 ∨ r = 1 → decode cc pc = .ok (.ireturn, 1) → va_P D zk_cl w H → va_D A w → va_S A s.heap H locs → post r w → W p l e rm s m args below meth c H locs mc ms Q (F0 m pc ls [.int r])) →
      ∀ ls : Array Slot, lv_has ls maxL (lv_args 0 av) → W p l e rm s m args below meth c s.heap [] 0 0 Q (F0 m 0 ls [])) : zz_Mi l y Ws rm D tys ws av post mc ms := by
  intro sz
  refine zz_entry hy hw ho hlen ?_
  intro p e s m args below meth c hx hb hml hown hts hr hlocks hin hP hK A hAe hsz hD hA hS ls hl
  subst hAe
  refine body p e s m args below meth c _ hx hb hml hown hts hin hP hK _ hD hA hS (fun r w H locs pc ls hbit hdg hP hD hS hpost => ?_) ls hl
  exact W.zret (v := r) hx hb hr (by rcases hbit with rfl | rfl <;> rfl) (fun t ht hW => ⟨⟨r, w, rfl, hpost, by rw [ht]; exact hP, va_K.moved hW.alike hK, hD⟩, hS.F ht⟩) hS.2.2 hdg hlocks
theorem zz_entry_v {post : va_W → Prop} (hy : plainName y.cls = true) (hw : Ws = Cond.code y cc maxL none :: kw_all) (ho : y.cls = own) (hlen : (lg_sl av).length ≤ maxL)
    (body : ∀ (p : Program) (e : Env) (s : State) (m : MethodId) (args : Array Value) (below : List Frame) (meth : Method) (c : Code) (Q : State → Prop), p.tables.exec = Jvm.exec → c.code = cc → c.maxLocals = maxL → s.vm.findClass own = some m.cls → (∀ w ∈ kw_all, w.before args s = true) → meth.name = y.name →
      va_P D zk_cl ws s.heap → va_K D zk_cl tys s → ∀ A : Nat → Prop, va_D A ws → (∀ q : Nat, s.heap.size ≤ q → A q) → va_S A s.heap s.heap [] →
      (∀ (w : va_W) (H : Heap) (locs : List Loc) (pc : Nat) (ls : Array Slot), decode cc pc = .ok (.return_, 1) → va_P D zk_cl w H → va_D A w → va_S A s.heap H locs → post w → W p l e rm s m args below meth c H locs mc ms Q (F0 m pc ls [])) →
      ∀ ls : Array Slot, lv_has ls maxL (lv_args 0 av) → W p l e rm s m args below meth c s.heap [] 0 0 Q (F0 m 0 ls [])) : zz_Mv l y Ws rm D tys ws av post mc ms := by
  intro sz
  refine zz_entry hy hw ho hlen ?_
  intro p e s m args below meth c hx hb hml hown hts hr hlocks hin hP hK A hAe hsz hD hA hS ls hl
  subst hAe
  refine body p e s m args below meth c _ hx hb hml hown hts hin hP hK _ hD hA hS (fun w H locs pc ls hdg hP hD hS hpost => ?_) ls hl
  exact W.vret hx hb hr (fun t ht hW => ⟨⟨w, rfl, hpost, by rw [ht]; exact hP, va_K.moved hW.alike hK, hD⟩, hS.F ht⟩) hS.2.2 hdg hlocks
theorem zz_entry_r {post : Nat → va_W → Prop} {C : String} (hy : plainName y.cls = true) (hw : Ws = Cond.code y cc maxL (some (.object C)) :: kw_all) (ho : y.cls = own) (hlen : (lg_sl av).length ≤ maxL)
    (body : ∀ (p : Program) (e : Env) (s : State) (m : MethodId) (args : Array Value) (below : List Frame) (meth : Method) (c : Code) (Q : State → Prop), p.tables.exec = Jvm.exec → c.code = cc → c.maxLocals = maxL → s.vm.findClass own = some m.cls → (∀ w ∈ kw_all, w.before args s = true) → meth.name = y.name →
      va_P D zk_cl ws s.heap → va_K D zk_cl tys s → ∀ A : Nat → Prop, va_D A ws → (∀ q : Nat, s.heap.size ≤ q → A q) → va_S A s.heap s.heap [] →
      (∀ (r : Nat) (w : va_W) (H : Heap) (locs : List Loc) (pc : Nat) (ls : Array Slot), decode cc pc = .ok (.areturn, 1) → va_P D zk_cl w H → va_D A w → va_S A s.heap H locs → post r w → W p l e rm s m args below meth c H locs mc ms Q (F0 m pc ls [.ref r])) →
      ∀ ls : Array Slot, lv_has ls maxL (lv_args 0 av) → W p l e rm s m args below meth c s.heap [] 0 0 Q (F0 m 0 ls [])) : zz_Mr l y Ws rm D tys ws av post mc ms := by
  intro sz
  refine zz_entry hy hw ho hlen ?_
  intro p e s m args below meth c hx hb hml hown hts hr hlocks hin hP hK A hAe hsz hD hA hS ls hl
  subst hAe
  refine body p e s m args below meth c _ hx hb hml hown hts hin hP hK _ hD hA hS (fun r w H locs pc ls hdg hP hD hS hpost => ?_) ls hl
  exact W.aret (v := .ref r) hx hb hr (Or.inl ⟨_, rfl⟩) (Or.inr ⟨_, rfl⟩) (fun t ht hW => ⟨⟨w, r, rfl, trivial, hpost, by rw [ht]; exact hP, va_K.moved hW.alike hK, hD⟩, hS.F ht⟩) hS.2.2 hdg hlocks
end ZE
theorem zz_blind {D : va_G} {tys : List (ClassId × FieldType)} {ws : va_W} {sz : Nat} {av : List Value} : FrameBlind (zz_Pre D tys ws sz av) := by
  intro a U g mk q
  obtain ⟨q0, q1, qP, qK, qD⟩ := q
  exact ⟨q0, q1, qP, va_K.moved (u := U) (U := U.calling g mk a) (Vm.Alike.refl U.vm) qK, qD⟩
theorem zz_P.perm {D : va_G} {cl : List vw_C} {w w2 : va_W} {H : Heap} (h : List.Perm w w2) (hP : va_P D cl w H) : va_P D cl w2 H := by
  intro k q hk
  obtain ⟨i, hi⟩ := List.getElem?_of_mem (h.mem_iff.mpr (List.mem_of_getElem? hk))
  exact hP i q hi
theorem zz_D.pw {A : Nat → Prop} {w : va_W} : va_D A w ↔ (w.map Prod.fst).Nodup ∧ ∀ q ∈ w, A q.1 := by
  constructor
  · intro h
    refine ⟨?_, fun q hq => ?_⟩
    · rw [List.nodup_iff_pairwise_ne, List.pairwise_iff_getElem]
      intro i j hi hj hij e
      rw [List.length_map] at hi hj
      rw [List.getElem_map, List.getElem_map] at e
      have := h.1 i j _ _ (List.getElem?_eq_getElem hi) (List.getElem?_eq_getElem hj) e
      omega
    · obtain ⟨i, hi⟩ := List.getElem?_of_mem hq
      exact h.2 i q hi
  · rintro ⟨h1, h2⟩
    refine ⟨fun i j p q hi hj e => ?_, fun k q hk => h2 q (List.mem_of_getElem? hk)⟩
    rw [List.nodup_iff_pairwise_ne, List.pairwise_iff_getElem] at h1
    obtain ⟨li, ei⟩ := List.getElem?_eq_some_iff.mp hi
    obtain ⟨lj, ej⟩ := List.getElem?_eq_some_iff.mp hj
    rcases Nat.lt_trichotomy i j with z | z | z
    · refine absurd ?_ (h1 i j (by rw [List.length_map]; exact li) (by rw [List.length_map]; exact lj) z)
      rw [List.getElem_map, List.getElem_map, ei, ej]; exact e
    · exact z
    · refine absurd ?_ (h1 j i (by rw [List.length_map]; exact lj) (by rw [List.length_map]; exact li) z)
      rw [List.getElem_map, List.getElem_map, ei, ej]; exact e.symm
theorem zz_D.perm {A : Nat → Prop} {w w2 : va_W} (h : List.Perm w w2) (hD : va_D A w) : va_D A w2 := by
  rw [zz_D.pw] at hD ⊢
  exact ⟨(h.map Prod.fst).nodup_iff.mp hD.1, fun q hq => hD.2 q (h.mem_iff.mpr hq)⟩
theorem zz_P.l {D : va_G} {cl : List vw_C} {w w2 : va_W} {H : Heap} (h : va_P D cl (w ++ w2) H) : va_P D cl w H := fun k q hk => by
  obtain ⟨i, hi⟩ := List.getElem?_of_mem (List.mem_append_left w2 (List.mem_of_getElem? hk))
  exact h i q hi
theorem zz_P.r {D : va_G} {cl : List vw_C} {w w2 : va_W} {H : Heap} (h : va_P D cl (w ++ w2) H) : va_P D cl w2 H := fun k q hk => by
  obtain ⟨i, hi⟩ := List.getElem?_of_mem (List.mem_append_right w (List.mem_of_getElem? hk))
  exact h i q hi
theorem zz_D.l {A : Nat → Prop} {w w2 : va_W} (h : va_D A (w ++ w2)) : va_D A w := by
  rw [zz_D.pw, List.map_append] at h
  rw [zz_D.pw]
  exact ⟨(List.nodup_append.mp h.1).1, fun q hq => h.2 q (List.mem_append_left _ hq)⟩
theorem zz_D.r {A : Nat → Prop} {w w2 : va_W} (h : va_D A (w ++ w2)) : va_D A w2 := by
  rw [zz_D.pw, List.map_append] at h
  rw [zz_D.pw]
  exact ⟨(List.nodup_append.mp h.1).2.1, fun q hq => h.2 q (List.mem_append_right _ hq)⟩
/-- the frame: what isn't the callee's stays -/
theorem zz_join {A0 : Nat → Prop} {D : va_G} {cl : List vw_C} {wc wr w1 : va_W} {H H1 : Heap} (hP : va_P D cl (wr ++ wc) H) (hD : va_D A0 (wr ++ wc)) (hk : ∀ q : Nat, q < H.size → ¬ va_A wc H.size q → H1[q]? = H[q]?) (hF : ∀ q, va_A wc H.size q → A0 q) (hP1 : va_P D cl w1 H1) (hD1 : va_D (va_A wc H.size) w1) : va_P D cl (wr ++ w1) H1 ∧ va_D A0 (wr ++ w1) := by
  have apart : ∀ (k : Nat) (q : Nat × va_E), wr[k]? = some q → q.1 < H.size ∧ ¬ va_A wc H.size q.1 := by
    intro k q hq
    have hl := (zz_P.l hP k q hq).lt
    refine ⟨hl, fun h => ?_⟩
    rcases h with ⟨k2, e, h⟩ | h
    · have hk1 : k < wr.length := (List.getElem?_eq_some_iff.mp hq).1
      have h1 : (wr ++ wc)[k]? = some q := by rw [List.getElem?_append_left hk1]; exact hq
      have h2 : (wr ++ wc)[wr.length + k2]? = some (q.1, e) := by rw [List.getElem?_append_right (by omega), Nat.add_sub_cancel_left]; exact h
      have := hD.1 _ _ _ _ h1 h2 rfl
      omega
    · omega
  refine ⟨va_P.app (fun k q hq => ?_) hP1, va_D.app (zz_D.l hD) (hD1.weaken (fun k q _ h => hF q.1 h)) (fun i j x y hx hy hxy => ?_)⟩
  · obtain ⟨g1, g2⟩ := apart k q hq
    exact (zz_P.l hP k q hq).kept (hk q.1 g1 g2)
  · exact (apart i x hx).2 (by rw [hxy]; exact hD1.2 j y hy)
theorem zz_free {A0 : Nat → Prop} {wr wc : va_W} {H0 H : Heap} {locs : List Loc} (hD : va_D A0 (wr ++ wc)) (hS : va_S A0 H0 H locs) (hA : ∀ q, H0.size ≤ q → A0 q) : ∀ q, va_A wc H.size q → A0 q := by
  intro q h
  rcases h with ⟨k, e, h⟩ | h
  · exact (zz_D.r hD).2 k (q, e) h
  · exact hA q (Nat.le_trans hS.1 h)
theorem zz_pre {D : va_G} {tys : List (ClassId × FieldType)} {wr wc : va_W} {av : List Value} {A0 : Nat → Prop} {s : State} {H : Heap} (hP : va_P D zk_cl (wr ++ wc) H) (hD : va_D A0 (wr ++ wc)) (hK : va_K D zk_cl tys s) :
    ∀ U : State, U.heap = H → s.WarmedH U.vm → zz_Pre D tys wc H.size av av.toArray U := by
  intro U hU hW
  refine ⟨rfl, by rw [hU], ?_, va_K.moved hW.alike hK, (zz_D.r hD).weaken (fun _ _ _ _ => trivial)⟩
  rw [hU]
  exact zz_P.r hP
theorem zz_gw {y : MethodName} {bytes : ByteArray} {maxL : Nat} {ret : Option FieldType} (hcode : Cond.code y bytes maxL ret ∈ kw_all) : GoodIn kw_all (Cond.code y bytes maxL ret :: kw_all) := fun w h => (List.mem_cons.mp h).elim (fun e => e ▸ kw_good _ hcode) (kw_good w)
def zz_nm (y : MethodName) (n : Nat) : Prop := y.cls ≠ "java/lang/invoke/MethodHandle" ∧ y.cls ≠ "java/lang/invoke/VarHandle" ∧ (parseMethodDescriptor y.desc).map (fun d => d.parameters.length) = some n
theorem zz_cwV {R : Room} {s : State} {args : Array Value} {own C : String} {index maxL mc ms : Nat} {y : MethodName} {bytes : ByteArray} {ret : Option FieldType} {rm : Room} {n : Nat} (hts : ∀ w ∈ kw_all, w.before args s = true) (hcode : Cond.code y bytes maxL ret ∈ kw_all) (hini : Cond.initialized y.cls ∈ kw_all) (hl : Cond.methodLink own index y ∈ kw_all) (hin : Cond.instanceMethod y ∈ kw_all) (hsel : Cond.selects C y y ∈ kw_all) (hd : zz_nm y n) (hrc : rm.cells = mc) (hrs : rm.slots = ms) (hR : rm.frames + 1 ≤ R.frames ∧ 8 + (maxL + 11) + rm.locals ≤ R.locals) :
    CallW R s args own C index y bytes maxL ret (Cond.code y bytes maxL ret :: kw_all) rm mc ms n :=
  ⟨callB_of n hts (zz_gw hcode) rfl hrc hrs (hts _ hini) (hts _ hl) hd hR, hts _ hin, hts _ hsel⟩
theorem zz_cwS {R : Room} {s : State} {args : Array Value} {own : String} {index maxL mc ms : Nat} {y : MethodName} {bytes : ByteArray} {ret : Option FieldType} {rm : Room} {n : Nat} (hts : ∀ w ∈ kw_all, w.before args s = true) (hcode : Cond.code y bytes maxL ret ∈ kw_all) (hini : Cond.initialized y.cls ∈ kw_all) (hl : Cond.methodLink own index y ∈ kw_all) (hst : Cond.static y ∈ kw_all) (hd : zz_nm y n) (hrc : rm.cells = mc) (hrs : rm.slots = ms) (hR : rm.frames + 1 ≤ R.frames ∧ 8 + (maxL + 11) + rm.locals ≤ R.locals) :
    CallB R s args own index y bytes maxL ret (Cond.code y bytes maxL ret :: kw_all) rm mc ms n ∧ (Cond.static y).before args s = true :=
  ⟨callB_of n hts (zz_gw hcode) rfl hrc hrs (hts _ hini) (hts _ hl) hd hR, hts _ hst⟩
theorem zz_cwI {R : Room} {s : State} {args : Array Value} {own : String} {index maxL mc ms : Nat} {y : MethodName} {bytes : ByteArray} {rm : Room} {n : Nat} (hts : ∀ w ∈ kw_all, w.before args s = true) (hcode : Cond.code y bytes maxL none ∈ kw_all) (hini : Cond.initialized y.cls ∈ kw_all) (hl : Cond.methodLink own index y ∈ kw_all) (hin : Cond.instanceMethod y ∈ kw_all) (hy : y.name = "<init>") (hd : zz_nm y n) (hrc : rm.cells = mc) (hrs : rm.slots = ms) (hR : rm.frames + 1 ≤ R.frames ∧ 8 + (maxL + 11) + rm.locals ≤ R.locals) :
    CallB R s args own index y bytes maxL none (Cond.code y bytes maxL none :: kw_all) rm mc ms n ∧ y.name = "<init>" ∧ (Cond.instanceMethod y).before args s = true :=
  ⟨callB_of n hts (zz_gw hcode) rfl hrc hrs (hts _ hini) (hts _ hl) hd hR, hy, hts _ hin⟩
theorem zz_Keq {D : va_G} {cl : List vw_C} {tys : List (ClassId × FieldType)} {U : State} (hK : va_K D cl tys U) (i j : Nat) {a b : ClassId} {ty : FieldType} (hi : tys[i]? = some (a, ty)) (hj : tys[j]? = some (b, ty)) (hp : ty = .int ∨ ty = .boolean ∨ ty = .long) : a = b := by
  have h1 := (hK.2 i _ hi).2
  have h2 := (hK.2 j _ hj).2
  rcases hp with rfl | rfl | rfl
  · exact Option.some.inj (Eq.trans (Eq.symm h1) h2)
  · exact Option.some.inj (Eq.trans (Eq.symm h1) h2)
  · exact Option.some.inj (Eq.trans (Eq.symm h1) h2)
section ZC
variable {p : Program} {l : Launch} {e : Env} {R : Room} {s : State} {m : MethodId} {args : Array Value} {below : List Frame} {meth : Method} {c : Code} {H : Heap} {locs : List Loc} {cells slots : Nat} {Q : State → Prop}
variable {cc : ByteArray} {pc nL : Nat} {ls : Array Slot} {D : va_G} {tys : List (ClassId × FieldType)} {wc wr : va_W} {A0 : Nat → Prop} {H0 : Heap} {mc ms : Nat} {st0 rest : List Value} {a : Array Value}
theorem zz_calli {post : Int32 → va_W → Prop} (hr : va_Run p l e R s m args below meth c H locs cells slots mc ms (F0 m pc ls st0) rest (zz_Qi D tys wc H.size post a) (va_A wc H.size)) (hP : va_P D zk_cl (wr ++ wc) H) (hD : va_D A0 (wr ++ wc)) (hS : va_S A0 H0 H locs) (hA : ∀ q, H0.size ≤ q → A0 q)
    (kk : ∀ (r : Int32) (w1 : va_W) (H1 : Heap) (locs1 : List Loc), post r w1 → va_P D zk_cl (wr ++ w1) H1 → va_D A0 (wr ++ w1) → va_S A0 H0 H1 locs1 → W p l e R s m args below meth c H1 locs1 (cells + mc) (slots + ms) Q (F0 m (pc + 3) ls (.int r :: rest))) : W p l e R s m args below meth c H locs cells slots Q (F0 m pc ls st0) := by
  have hFc := zz_free hD hS hA
  refine va_calli hr hS (fun q _ h => hFc q h) hFc (fun r u t H1 locs1 ht hvm hw hB hz1 hk1 hS1 => ?_)
  obtain ⟨hP1, hK1, hD1⟩ := hB
  rw [ht] at hP1
  obtain ⟨hP2, hD2⟩ := zz_join hP hD hk1 hFc hP1 hD1
  exact kk r u H1 locs1 hw hP2 hD2 hS1
theorem zz_callv {post : va_W → Prop} (hr : va_Run p l e R s m args below meth c H locs cells slots mc ms (F0 m pc ls st0) rest (zz_Qv D tys wc H.size post a) (va_A wc H.size)) (hP : va_P D zk_cl (wr ++ wc) H) (hD : va_D A0 (wr ++ wc)) (hS : va_S A0 H0 H locs) (hA : ∀ q, H0.size ≤ q → A0 q)
    (kk : ∀ (w1 : va_W) (H1 : Heap) (locs1 : List Loc), post w1 → va_P D zk_cl (wr ++ w1) H1 → va_D A0 (wr ++ w1) → va_S A0 H0 H1 locs1 → W p l e R s m args below meth c H1 locs1 (cells + mc) (slots + ms) Q (F0 m (pc + 3) ls rest)) : W p l e R s m args below meth c H locs cells slots Q (F0 m pc ls st0) := by
  have hFc := zz_free hD hS hA
  refine va_callv hr hS (fun q _ h => hFc q h) hFc (fun u t H1 locs1 ht hvm hw hB hz1 hk1 hS1 => ?_)
  obtain ⟨hP1, hK1, hD1⟩ := hB
  rw [ht] at hP1
  obtain ⟨hP2, hD2⟩ := zz_join hP hD hk1 hFc hP1 hD1
  exact kk u H1 locs1 hw hP2 hD2 hS1
theorem zz_callr {post : Nat → va_W → Prop} (hr : va_Run p l e R s m args below meth c H locs cells slots mc ms (F0 m pc ls st0) rest (zz_Qr D tys wc H.size post a) (va_A wc H.size)) (hP : va_P D zk_cl (wr ++ wc) H) (hD : va_D A0 (wr ++ wc)) (hS : va_S A0 H0 H locs) (hA : ∀ q, H0.size ≤ q → A0 q)
    (kk : ∀ (r : Nat) (w1 : va_W) (H1 : Heap) (locs1 : List Loc), post r w1 → va_P D zk_cl (wr ++ w1) H1 → va_D A0 (wr ++ w1) → va_S A0 H0 H1 locs1 → W p l e R s m args below meth c H1 locs1 (cells + mc) (slots + ms) Q (F0 m (pc + 3) ls (.ref r :: rest))) : W p l e R s m args below meth c H locs cells slots Q (F0 m pc ls st0) := by
  have hFc := zz_free hD hS hA
  refine va_callr hr hS (fun q _ h => hFc q h) hFc (fun u ra t H1 locs1 ht hvm hw hB hz1 hk1 hS1 => ?_)
  obtain ⟨hp, hP1, hK1, hD1⟩ := hB
  rw [ht] at hP1
  obtain ⟨hP2, hD2⟩ := zz_join hP hD hk1 hFc hP1 hD1
  exact kk ra u H1 locs1 hp hP2 hD2 hS1
variable {y : MethodName} {bytes : ByteArray} {maxL n index : Nat} {ret : Option FieldType} {Ws Ts : List Cond} {rm : Room} {own C : String} {b : Nat} {As : List Value}
theorem zz_iV {post : Int32 → va_W → Prop} {q0 ci : Nat} {fs : List Value} {qc : vw_C} (S : CallFix p m c cc nL s args Ts own) (hM : zz_Mi l y Ws rm D tys wc (.ref b :: As) post mc ms) (cw : CallW R s args own C index y bytes maxL ret Ws rm mc ms n) (hP : va_P D zk_cl (wr ++ wc) H) (hD : va_D A0 (wr ++ wc)) (hK : va_K D zk_cl tys s) (hS : va_S A0 H0 H locs) (hA : ∀ q, H0.size ≤ q → A0 q)
    (he : wc[q0]? = some (b, .inr (ci, fs))) (hc : zk_cl[ci]? = some qc) (hC : qc.1 = C) (hn : As.length = n) (hsize : ls.size = nL) (hst : st0 = As.reverse ++ .ref b :: rest) (hW : (rest.map fun v => v.category).sum ≤ 8) (hdg : decode cc pc = .ok (.invokevirtual index, 3)) (hf : cells + mc ≤ R.cells ∧ slots + ms ≤ R.slots)
    (kk : ∀ (r : Int32) (w1 : va_W) (H1 : Heap) (locs1 : List Loc), post r w1 → va_P D zk_cl (wr ++ w1) H1 → va_D A0 (wr ++ w1) → va_S A0 H0 H1 locs1 → W p l e R s m args below meth c H1 locs1 (cells + mc) (slots + ms) Q (F0 m (pc + 3) ls (.int r :: rest))) : W p l e R s m args below meth c H locs cells slots Q (F0 m pc ls st0) := by
  subst hC
  exact zz_calli (va_runV S (hM H.size) cw ⟨zz_blind, va_recv hK (zz_P.r hP) hc he, zz_pre hP hD hK⟩ rfl hn hsize hst (lv_room hW) hdg hf) hP hD hS hA kk
theorem zz_vV {post : va_W → Prop} {q0 ci : Nat} {fs : List Value} {qc : vw_C} (S : CallFix p m c cc nL s args Ts own) (hM : zz_Mv l y Ws rm D tys wc (.ref b :: As) post mc ms) (cw : CallW R s args own C index y bytes maxL ret Ws rm mc ms n) (hP : va_P D zk_cl (wr ++ wc) H) (hD : va_D A0 (wr ++ wc)) (hK : va_K D zk_cl tys s) (hS : va_S A0 H0 H locs) (hA : ∀ q, H0.size ≤ q → A0 q)
    (he : wc[q0]? = some (b, .inr (ci, fs))) (hc : zk_cl[ci]? = some qc) (hC : qc.1 = C) (hn : As.length = n) (hsize : ls.size = nL) (hst : st0 = As.reverse ++ .ref b :: rest) (hW : (rest.map fun v => v.category).sum ≤ 8) (hdg : decode cc pc = .ok (.invokevirtual index, 3)) (hf : cells + mc ≤ R.cells ∧ slots + ms ≤ R.slots)
    (kk : ∀ (w1 : va_W) (H1 : Heap) (locs1 : List Loc), post w1 → va_P D zk_cl (wr ++ w1) H1 → va_D A0 (wr ++ w1) → va_S A0 H0 H1 locs1 → W p l e R s m args below meth c H1 locs1 (cells + mc) (slots + ms) Q (F0 m (pc + 3) ls rest)) : W p l e R s m args below meth c H locs cells slots Q (F0 m pc ls st0) := by
  subst hC
  exact zz_callv (va_runV S (hM H.size) cw ⟨zz_blind, va_recv hK (zz_P.r hP) hc he, zz_pre hP hD hK⟩ rfl hn hsize hst (lv_room hW) hdg hf) hP hD hS hA kk
theorem zz_iS {post : Int32 → va_W → Prop} (S : CallFix p m c cc nL s args Ts own) (hM : zz_Mi l y Ws rm D tys wc As post mc ms) (cw : CallB R s args own index y bytes maxL ret Ws rm mc ms n ∧ (Cond.static y).before args s = true) (hP : va_P D zk_cl (wr ++ wc) H) (hD : va_D A0 (wr ++ wc)) (hK : va_K D zk_cl tys s) (hS : va_S A0 H0 H locs) (hA : ∀ q, H0.size ≤ q → A0 q)
    (hn : As.length = n) (hsize : ls.size = nL) (hst : st0 = As.reverse ++ rest) (hW : (rest.map fun v => v.category).sum ≤ 8) (hdg : decode cc pc = .ok (.invokestatic index, 3)) (hf : cells + mc ≤ R.cells ∧ slots + ms ≤ R.slots)
    (kk : ∀ (r : Int32) (w1 : va_W) (H1 : Heap) (locs1 : List Loc), post r w1 → va_P D zk_cl (wr ++ w1) H1 → va_D A0 (wr ++ w1) → va_S A0 H0 H1 locs1 → W p l e R s m args below meth c H1 locs1 (cells + mc) (slots + ms) Q (F0 m (pc + 3) ls (.int r :: rest))) : W p l e R s m args below meth c H locs cells slots Q (F0 m pc ls st0) :=
  zz_calli (va_runS S (hM H.size) cw ⟨zz_blind, zz_pre hP hD hK⟩ rfl hn hsize hst (lv_room hW) hdg hf) hP hD hS hA kk
theorem zz_vS {post : va_W → Prop} (S : CallFix p m c cc nL s args Ts own) (hM : zz_Mv l y Ws rm D tys wc As post mc ms) (cw : CallB R s args own index y bytes maxL ret Ws rm mc ms n ∧ (Cond.static y).before args s = true) (hP : va_P D zk_cl (wr ++ wc) H) (hD : va_D A0 (wr ++ wc)) (hK : va_K D zk_cl tys s) (hS : va_S A0 H0 H locs) (hA : ∀ q, H0.size ≤ q → A0 q)
    (hn : As.length = n) (hsize : ls.size = nL) (hst : st0 = As.reverse ++ rest) (hW : (rest.map fun v => v.category).sum ≤ 8) (hdg : decode cc pc = .ok (.invokestatic index, 3)) (hf : cells + mc ≤ R.cells ∧ slots + ms ≤ R.slots)
    (kk : ∀ (w1 : va_W) (H1 : Heap) (locs1 : List Loc), post w1 → va_P D zk_cl (wr ++ w1) H1 → va_D A0 (wr ++ w1) → va_S A0 H0 H1 locs1 → W p l e R s m args below meth c H1 locs1 (cells + mc) (slots + ms) Q (F0 m (pc + 3) ls rest)) : W p l e R s m args below meth c H locs cells slots Q (F0 m pc ls st0) :=
  zz_callv (va_runS S (hM H.size) cw ⟨zz_blind, zz_pre hP hD hK⟩ rfl hn hsize hst (lv_room hW) hdg hf) hP hD hS hA kk
theorem zz_vI {post : va_W → Prop} (S : CallFix p m c cc nL s args Ts own) (hM : zz_Mv l y Ws rm D tys wc (.ref b :: As) post mc ms) (cw : CallB R s args own index y bytes maxL none Ws rm mc ms n ∧ y.name = "<init>" ∧ (Cond.instanceMethod y).before args s = true) (hP : va_P D zk_cl (wr ++ wc) H) (hD : va_D A0 (wr ++ wc)) (hK : va_K D zk_cl tys s) (hS : va_S A0 H0 H locs) (hA : ∀ q, H0.size ≤ q → A0 q)
    (hn : As.length = n) (hsize : ls.size = nL) (hst : st0 = As.reverse ++ .ref b :: rest) (hW : (rest.map fun v => v.category).sum ≤ 8) (hdg : decode cc pc = .ok (.invokespecial index, 3)) (hf : cells + mc ≤ R.cells ∧ slots + ms ≤ R.slots)
    (kk : ∀ (w1 : va_W) (H1 : Heap) (locs1 : List Loc), post w1 → va_P D zk_cl (wr ++ w1) H1 → va_D A0 (wr ++ w1) → va_S A0 H0 H1 locs1 → W p l e R s m args below meth c H1 locs1 (cells + mc) (slots + ms) Q (F0 m (pc + 3) ls rest)) : W p l e R s m args below meth c H locs cells slots Q (F0 m pc ls st0) :=
  zz_callv (va_runI S (hM H.size) cw ⟨zz_blind, zz_pre hP hD hK⟩ rfl hn hsize hst (lv_room hW) hdg hf) hP hD hS hA kk
end ZC
theorem kz_Y_init : zz_nm ky_Y_init 0 := ⟨by decide +kernel, by decide +kernel, by decide +kernel⟩
theorem kz_W_init : zz_nm ky_W_init 0 := ⟨by decide +kernel, by decide +kernel, by decide +kernel⟩
theorem kz_Y_accesses : zz_nm ky_Y_accesses 0 := ⟨by decide +kernel, by decide +kernel, by decide +kernel⟩
theorem kz_W_length : zz_nm ky_W_length 0 := ⟨by decide +kernel, by decide +kernel, by decide +kernel⟩
theorem kz_L_make : zz_nm ky_L_make 6 := ⟨by decide +kernel, by decide +kernel, by decide +kernel⟩
theorem kz_Y_make : zz_nm ky_Y_make 5 := ⟨by decide +kernel, by decide +kernel, by decide +kernel⟩
theorem kz_I_bitCount : zz_nm ky_I_bitCount 1 := ⟨by decide +kernel, by decide +kernel, by decide +kernel⟩
theorem kz_Y_areBits : zz_nm ky_Y_areBits 1 := ⟨by decide +kernel, by decide +kernel, by decide +kernel⟩
theorem kz_C_init : zz_nm ky_C_init 0 := ⟨by decide +kernel, by decide +kernel, by decide +kernel⟩
theorem kz_C_become : zz_nm ky_C_become 4 := ⟨by decide +kernel, by decide +kernel, by decide +kernel⟩
theorem kz_C_emptyAll : zz_nm ky_C_emptyAll 0 := ⟨by decide +kernel, by decide +kernel, by decide +kernel⟩
theorem kz_L_access : zz_nm ky_L_access 4 := ⟨by decide +kernel, by decide +kernel, by decide +kernel⟩
theorem kz_Y_access : zz_nm ky_Y_access 2 := ⟨by decide +kernel, by decide +kernel, by decide +kernel⟩
theorem kz_W_keep : zz_nm ky_W_keep 1 := ⟨by decide +kernel, by decide +kernel, by decide +kernel⟩
theorem kz_C_sees : zz_nm ky_C_sees 3 := ⟨by decide +kernel, by decide +kernel, by decide +kernel⟩
theorem kz_C_countSets : zz_nm ky_C_countSets 0 := ⟨by decide +kernel, by decide +kernel, by decide +kernel⟩
theorem kz_C_findPlace : zz_nm ky_C_findPlace 2 := ⟨by decide +kernel, by decide +kernel, by decide +kernel⟩
theorem kz_C_blockAt : zz_nm ky_C_blockAt 2 := ⟨by decide +kernel, by decide +kernel, by decide +kernel⟩
theorem kz_C_slotOf : zz_nm ky_C_slotOf 2 := ⟨by decide +kernel, by decide +kernel, by decide +kernel⟩
theorem kz_C_bringIn : zz_nm ky_C_bringIn 2 := ⟨by decide +kernel, by decide +kernel, by decide +kernel⟩
theorem kz_C_pointedPlace : zz_nm ky_C_pointedPlace 1 := ⟨by decide +kernel, by decide +kernel, by decide +kernel⟩
theorem kz_C_oldestPlace : zz_nm ky_C_oldestPlace 1 := ⟨by decide +kernel, by decide +kernel, by decide +kernel⟩
theorem kz_C_isDirtyAt : zz_nm ky_C_isDirtyAt 2 := ⟨by decide +kernel, by decide +kernel, by decide +kernel⟩
theorem kz_C_pointAway : zz_nm ky_C_pointAway 2 := ⟨by decide +kernel, by decide +kernel, by decide +kernel⟩
theorem kz_L_flush : zz_nm ky_L_flush 3 := ⟨by decide +kernel, by decide +kernel, by decide +kernel⟩
theorem kz_Y_flush : zz_nm ky_Y_flush 1 := ⟨by decide +kernel, by decide +kernel, by decide +kernel⟩
theorem kz_Y_madeCache : zz_nm ky_Y_madeCache 1 := ⟨by decide +kernel, by decide +kernel, by decide +kernel⟩
theorem kz_C_letAllGo : zz_nm ky_C_letAllGo 0 := ⟨by decide +kernel, by decide +kernel, by decide +kernel⟩
theorem kz_C_countDirty : zz_nm ky_C_countDirty 0 := ⟨by decide +kernel, by decide +kernel, by decide +kernel⟩
theorem kz_L_place : zz_nm ky_L_place 6 := ⟨by decide +kernel, by decide +kernel, by decide +kernel⟩
theorem kz_Y_place : zz_nm ky_Y_place 4 := ⟨by decide +kernel, by decide +kernel, by decide +kernel⟩
theorem kz_C_hasPlace : zz_nm ky_C_hasPlace 2 := ⟨by decide +kernel, by decide +kernel, by decide +kernel⟩
theorem kz_L_about : zz_nm ky_L_about 4 := ⟨by decide +kernel, by decide +kernel, by decide +kernel⟩
theorem kz_Y_about : zz_nm ky_Y_about 2 := ⟨by decide +kernel, by decide +kernel, by decide +kernel⟩
theorem kz_C_countHeld : zz_nm ky_C_countHeld 0 := ⟨by decide +kernel, by decide +kernel, by decide +kernel⟩
theorem kz_L_curve : zz_nm ky_L_curve 4 := ⟨by decide +kernel, by decide +kernel, by decide +kernel⟩
theorem kz_Y_curve : zz_nm ky_Y_curve 2 := ⟨by decide +kernel, by decide +kernel, by decide +kernel⟩
theorem kz_Y_requireLinesAndBits : zz_nm ky_Y_requireLinesAndBits 2 := ⟨by decide +kernel, by decide +kernel, by decide +kernel⟩
theorem kz_W_countHits : zz_nm ky_W_countHits 3 := ⟨by decide +kernel, by decide +kernel, by decide +kernel⟩
theorem kz_W_findNextUses : zz_nm ky_W_findNextUses 1 := ⟨by decide +kernel, by decide +kernel, by decide +kernel⟩
theorem kz_W_findLine : zz_nm ky_W_findLine 2 := ⟨by decide +kernel, by decide +kernel, by decide +kernel⟩
theorem kz_W_lineNeededLast : zz_nm ky_W_lineNeededLast 1 := ⟨by decide +kernel, by decide +kernel, by decide +kernel⟩
theorem kz_W_bringToFront : zz_nm ky_W_bringToFront 2 := ⟨by decide +kernel, by decide +kernel, by decide +kernel⟩
theorem kz_L_best : zz_nm ky_L_best 4 := ⟨by decide +kernel, by decide +kernel, by decide +kernel⟩
theorem kz_Y_best : zz_nm ky_Y_best 2 := ⟨by decide +kernel, by decide +kernel, by decide +kernel⟩
theorem kz_M_init : zz_nm ky_M_init 0 := ⟨by decide +kernel, by decide +kernel, by decide +kernel⟩
theorem kz_M_thrown : zz_nm ky_M_thrown 0 := ⟨by decide +kernel, by decide +kernel, by decide +kernel⟩
theorem kz_M_make : zz_nm ky_M_make 5 := ⟨by decide +kernel, by decide +kernel, by decide +kernel⟩
theorem kz_M_in : zz_nm ky_M_in 3 := ⟨by decide +kernel, by decide +kernel, by decide +kernel⟩
theorem kz_M_refuse : zz_nm ky_M_refuse 3 := ⟨by decide +kernel, by decide +kernel, by decide +kernel⟩
theorem kz_M_empty : zz_nm ky_M_empty 1 := ⟨by decide +kernel, by decide +kernel, by decide +kernel⟩
theorem kz_M_access : zz_nm ky_M_access 2 := ⟨by decide +kernel, by decide +kernel, by decide +kernel⟩
theorem kz_M_see : zz_nm ky_M_see 3 := ⟨by decide +kernel, by decide +kernel, by decide +kernel⟩
theorem kz_M_placeOf : zz_nm ky_M_placeOf 3 := ⟨by decide +kernel, by decide +kernel, by decide +kernel⟩
theorem kz_M_victimOf : zz_nm ky_M_victimOf 2 := ⟨by decide +kernel, by decide +kernel, by decide +kernel⟩
theorem kz_M_pointed : zz_nm ky_M_pointed 2 := ⟨by decide +kernel, by decide +kernel, by decide +kernel⟩
theorem kz_M_turn : zz_nm ky_M_turn 3 := ⟨by decide +kernel, by decide +kernel, by decide +kernel⟩
theorem kz_M_flush : zz_nm ky_M_flush 1 := ⟨by decide +kernel, by decide +kernel, by decide +kernel⟩
theorem kz_M_isThere : zz_nm ky_M_isThere 1 := ⟨by decide +kernel, by decide +kernel, by decide +kernel⟩
theorem kz_M_count : zz_nm ky_M_count 2 := ⟨by decide +kernel, by decide +kernel, by decide +kernel⟩
theorem kz_M_place : zz_nm ky_M_place 4 := ⟨by decide +kernel, by decide +kernel, by decide +kernel⟩
theorem kz_M_about : zz_nm ky_M_about 2 := ⟨by decide +kernel, by decide +kernel, by decide +kernel⟩
theorem kz_M_accesses : zz_nm ky_M_accesses 0 := ⟨by decide +kernel, by decide +kernel, by decide +kernel⟩
theorem kz_M_curve : zz_nm ky_M_curve 2 := ⟨by decide +kernel, by decide +kernel, by decide +kernel⟩
theorem kz_M_comes : zz_nm ky_M_comes 3 := ⟨by decide +kernel, by decide +kernel, by decide +kernel⟩
theorem kz_M_best : zz_nm ky_M_best 2 := ⟨by decide +kernel, by decide +kernel, by decide +kernel⟩
theorem kz_M_nextOf : zz_nm ky_M_nextOf 2 := ⟨by decide +kernel, by decide +kernel, by decide +kernel⟩
