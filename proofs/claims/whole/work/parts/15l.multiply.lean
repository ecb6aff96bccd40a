/-! Whole: multiply, divide (laid by wip/gen/m_whole11.py) -/
set_option maxHeartbeats 4000000 in
set_option maxRecDepth 100000 in
/-- Whole.multiply(bx) -/
theorem c3_multiply (l : Launch) (K : Cxt) (E : Nat → va_E) (z0 : Nat → Wh) (sz h : Nat) (bx : Int32) (hh : h ∈ bd_N K) {n : Nat} {g : Int32} {f : Nat → Nat} (hz : z0 h = (n, g, f)) (okh : bd_ok (n, g, f)) (hm : q_s f n * bx.toInt.natAbs < 4294967296 ^ 24) : Met l yX3_multiply wsX3_multiply ({ frames := 1, cells := 0, slots := 0, locals := 30 }) (va_Pc [.ref h, .int bx] (bd_P K E z0 sz)) (va_Qv (fun u => u.1 = E ∧ bd_n (u.2 h) (bd_v (n, g, f) * bx.toInt) ∧ ∀ b, b ≠ h → u.2 b = z0 b) (bd_B K) (bd_A K sz)) 0 0 (bd_A K sz) := by
  refine bd_ofW (cc := cX3_multiply) (maxL := 9) (ret := none) (by decide) rfl (Nat.le_of_ble_eq_true rfl) ?_
  intro p e s m below meth c ls C hr hlk hsz hw hl
  have hx := C.1
  have hb := C.2.1
  have hown := C.2.2.2.1
  have hts := C.2.2.2.2.1
  have i3 : ∀ w ∈ wsX30, w ∈ wsX3_multiply := by decide +kernel
  have lk17 : Cond.fieldLink RX3 17 "BallDesk$Whole" "size" "I" ∈ wsX3_multiply := by decide +kernel
  have lk13 : Cond.fieldLink RX3 13 "BallDesk$Whole" "sign" "I" ∈ wsX3_multiply := by decide +kernel
  have lk9 : Cond.fieldLink RX3 9 "BallDesk$Whole" "row" "[J" ∈ wsX3_multiply := by decide +kernel
  have lk30 : Cond.constantLong RX3 30 (4294967295) ∈ wsX3_multiply := by decide +kernel
  have ho : ∀ b, b ≠ h → z0 b = z0 b := fun _ _ => rfl
  have hl : lv_has ls 9 [(0, .ref h), (1, .int bx)] := hl
  have hxm := bd_ok_m okh
  obtain ⟨h24, hf, ht⟩ := bd_ok_sz okh
  have hP31 : bx.toInt.natAbs ≤ 2147483648 := by
    have h1 := Int32.toInt_lt bx
    have h2 := Int32.le_toInt bx
    omega
  have hmls := bd_mls hxm bx.toInt
  have hai := q_absI bx
  generalize hPe : bx.toInt.natAbs = P at hm hP31 hmls hai
  refine lv_iload_n hx hb dX3_multiply_0 rfl (lv_at hl 1 rfl) ?_
  refine bd_i2l (v := bx.toInt64) hx hb dX3_multiply_1 (rfl) ?_
  refine va_mabs_long hx hb (C.2.2.1.trans hl.1.symm) hown (hts (.methodLink RX3 81 Lib.MathLoose.abs_long.x) (by decide +kernel)) (hts (.static Lib.MathLoose.abs_long.x) (by decide +kernel)) (hts (.initialized "java/lang/Math") (by decide +kernel)) (hts (.code Lib.MathLoose.abs_long.x Lib.MathLoose.abs_long.code 2 (some .long)) (by decide +kernel)) (Nat.le_of_ble_eq_true rfl) (Nat.le_of_ble_eq_true rfl) (Nat.le_refl _) (Nat.le_refl _) dX3_multiply_2 ?_
  rw [hai]
  refine lv_lstore_n (lv' := [(2, .long (lN P)), (0, .ref h), (1, .int bx)]) hx hb dX3_multiply_5 rfl hl (by decide) rfl (fun ls hl => ?_)
  refine lv_lconst (v := lN 0) hx hb dX3_multiply_6 rfl ?_
  refine lv_lstore (lv' := [(4, .long (lN 0)), (2, .long (lN P)), (0, .ref h), (1, .int bx)]) hx hb dX3_multiply_7 hl (by decide) rfl (fun ls hl => ?_)
  refine lv_iconst (v := nI 0) hx hb dX3_multiply_9 (by decide) ?_
  refine lv_istore (lv' := [(6, .int (nI 0)), (4, .long (lN 0)), (2, .long (lN P)), (0, .ref h), (1, .int bx)]) hx hb dX3_multiply_10 hl (by decide) rfl (fun ls hl => ?_)
  suffices hloop : ∀ (d i cy : Nat) (z : Nat → Wh) (ls : Array Slot) (H : Heap) (locs : List Loc) (fh : Nat → Nat), i + d = n → z h = (n, g, fh) → q_r fh → cy < 4294967296 → (∀ j, i ≤ j → fh j = f j) → q_s fh i + cy * 4294967296 ^ i = q_s f i * P → (∀ b, b ≠ h → z b = z0 b) → lv_has ls 9 [(6, .int (nI i)), (4, .long (lN cy)), (2, .long (lN P)), (0, .ref h), (1, .int bx)] → bd_W K E z (bd_A K sz) s.heap H locs → W p l e (headSpec wsX3_multiply ({ frames := 1, cells := 0, slots := 0, locals := 30 })).room s m [.ref h, .int bx].toArray below meth c H locs 0 0 (MQ below (va_Qv (fun u => u.1 = E ∧ bd_n (u.2 h) (bd_v (n, g, f) * bx.toInt) ∧ ∀ b, b ≠ h → u.2 b = z0 b) (bd_B K) (bd_A K sz)) [.ref h, .int bx].toArray s 0 0 (bd_A K sz)) (F0 m 12 ls []) from hloop n 0 0 z0 ls _ _ f (by omega) hz hf (by decide) (fun _ _ => rfl) (by show 0 + 0 * _ = 0 * P; omega) ho (lv_sub hl [0, 1, 2, 3, 4] rfl) hw
  clear hw hl ls ho hz
  intro d
  induction d using Nat.strongRecOn with
  | ind d ih =>
    intro i cy z ls H locs fh hid hz hfh hcy hge hv ho hl hw
    refine lv_iload hx hb dX3_multiply_12 (lv_at hl 0 rfl) ?_
    refine lv_aload_n hx hb dX3_multiply_14 rfl (lv_at hl 3 rfl) ?_
    refine bd_gsz C i3 hw hh hz dX3_multiply_15 lk17 ?_
    refine bd_ige (h1 := (by omega)) (h2 := (by omega)) (tgt := 61) hx hb dX3_multiply_18 (by decide) (fun hc18 => ?_) (fun hc18 => ?_)
    · have hi : i = n := by omega
      subst hi
      refine lv_aload_n hx hb dX3_multiply_61 rfl (lv_at hl 3 rfl) ?_
      refine lv_dup hx hb dX3_multiply_62 rfl ?_
      refine bd_gsg C i3 hw hh hz dX3_multiply_63 lk13 ?_
      refine lv_iload_n hx hb dX3_multiply_66 rfl (lv_at hl 4 rfl) ?_
      refine bd_sip (As := [.int bx]) (rest := [.int g, .ref h]) C (cJ_sgI _ _ _ _ _ 0 bx) (va_cwS 1 hts gX3_multiply_J6_signum_0f7a4 rfl rfl rfl (by decide +kernel) ⟨Nat.le_of_ble_eq_true rfl, Nat.le_of_ble_eq_true rfl⟩) hsz hw dX3_multiply_67 rfl hl.1 rfl (Nat.le_of_ble_eq_true rfl) ⟨Nat.le_refl _, Nat.le_refl _⟩ (fun H locs hw => ?_)
      refine bd_imul (v := (g * q_sg bx.toInt)) hx hb dX3_multiply_70 (rfl) ?_
      refine bd_psg C i3 hw hh hz dX3_multiply_71 lk13 (fun z H locs hz hfr hw => ?_)
      have hz : z h = (i, (g * q_sg bx.toInt), fh) := hz
      have ho := bd_tr hfr ho
      refine lv_aload_n hx hb dX3_multiply_74 rfl (lv_at hl 3 rfl) ?_
      refine bd_gsz C i3 hw hh hz dX3_multiply_75 lk17 ?_
      refine lv_istore (lv' := [(6, .int (nI i)), (4, .long (lN cy)), (2, .long (lN P)), (0, .ref h), (1, .int bx)]) hx hb dX3_multiply_78 hl (by decide) rfl (fun ls hl => ?_)
      refine lv_iload hx hb dX3_multiply_80 (lv_at hl 0 rfl) ?_
      refine lv_bipush (v := nI 24) hx hb dX3_multiply_82 (by decide) ?_
      refine bd_ige (h1 := (by omega)) (h2 := (by omega)) (tgt := 99) hx hb dX3_multiply_84 (by decide) (fun hc84 => ?_) (fun hc84 => ?_)
      · have hi24 : i = 24 := by omega
        have hc0 : cy = 0 := by
          rcases Nat.eq_zero_or_pos cy with q | q
          · exact q
          · have h8 := Nat.mul_le_mul_right (4294967296 ^ i) q
            rw [hi24] at hv h8 hm
            omega
        rw [hc0, Nat.zero_mul, Nat.add_zero] at hv
        refine lv_aload_n hx hb dX3_multiply_99 rfl (lv_at hl 3 rfl) ?_
        refine lv_iload hx hb dX3_multiply_100 (lv_at hl 0 rfl) ?_
        refine bd_cv (As := [.int (nI i)]) (rest := []) C (c3_trim _ _ _ _ _ _ i hh hz (by omega) hfh) (cwV 1 hts gX3_multiply_X3_trim rfl rfl rfl (by decide +kernel) ⟨Nat.le_of_ble_eq_true rfl, Nat.le_of_ble_eq_true rfl⟩) hsz hw (bd_recv C hw hh) dX3_multiply_102 rfl hl.1 rfl (Nat.le_of_ble_eq_true rfl) ⟨Nat.le_refl _, Nat.le_refl _⟩ (fun E1 z H locs hp hw => ?_)
        obtain ⟨hE, hz2, hfr⟩ := hp
        rw [show E1 = E from hE] at hw
        have ho := bd_tr (z2 := z) hfr ho
        exact bd_vret C hr hlk hw dX3_multiply_105 ⟨rfl, by rw [show (E, z).2 h = _ from hz2]; exact bd_fin hfh (by omega) (by rw [hv]; exact hmls.1) (by rw [hv]; exact hmls.2), ho⟩
      · refine lv_aload_n hx hb dX3_multiply_87 rfl (lv_at hl 3 rfl) ?_
        refine bd_grw C i3 hw hh hz dX3_multiply_88 lk9 ?_
        refine lv_iload hx hb dX3_multiply_91 (lv_at hl 0 rfl) ?_
        refine lv_lload hx hb dX3_multiply_93 (lv_at hl 1 rfl) ?_
        refine bd_ast C hw hh hz dX3_multiply_95 (by omega) (fun z H locs hz hfr hw => ?_)
        have ho := bd_tr hfr ho
        have hv2 : q_s (va_up fh i cy) (i + 1) = q_s f i * P := by
          show q_s (va_up fh i cy) i + va_up fh i cy i * _ = _
          rw [va_up_self, q_cg (f := fh) (fun j hj => va_up_ne _ _ (by omega))]
          exact hv
        refine lv_iinc (v := (nI (i + 1))) (lv' := [(6, .int (nI (i + 1))), (4, .long (lN cy)), (2, .long (lN P)), (0, .ref h), (1, .int bx)]) hx hb dX3_multiply_96 hl (k := 0) rfl (nI_1 _) (by decide) rfl (fun ls hl => ?_)
        refine lv_aload_n hx hb dX3_multiply_99 rfl (lv_at hl 3 rfl) ?_
        refine lv_iload hx hb dX3_multiply_100 (lv_at hl 0 rfl) ?_
        refine bd_cv (As := [.int (nI (i + 1))]) (rest := []) C (c3_trim _ _ _ _ _ _ (i + 1) hh hz (by omega) (q_r_up hfh hcy)) (cwV 1 hts gX3_multiply_X3_trim rfl rfl rfl (by decide +kernel) ⟨Nat.le_of_ble_eq_true rfl, Nat.le_of_ble_eq_true rfl⟩) hsz hw (bd_recv C hw hh) dX3_multiply_102 rfl hl.1 rfl (Nat.le_of_ble_eq_true rfl) ⟨Nat.le_refl _, Nat.le_refl _⟩ (fun E1 z H locs hp hw => ?_)
        obtain ⟨hE, hz2, hfr⟩ := hp
        rw [show E1 = E from hE] at hw
        have ho := bd_tr (z2 := z) hfr ho
        exact bd_vret C hr hlk hw dX3_multiply_105 ⟨rfl, by rw [show (E, z).2 h = _ from hz2]; exact bd_fin (q_r_up hfh hcy) (by omega) (by rw [hv2]; exact hmls.1) (by rw [hv2]; exact hmls.2), ho⟩
    · have hu := q_mu64 (hf i (by omega)) hP31 hcy
      refine lv_aload_n hx hb dX3_multiply_21 rfl (lv_at hl 3 rfl) ?_
      refine bd_grw C i3 hw hh hz dX3_multiply_22 lk9 ?_
      refine lv_iload hx hb dX3_multiply_25 (lv_at hl 0 rfl) ?_
      refine bd_ald C hw hh hz dX3_multiply_27 (by omega) ?_
      refine lv_lload_n hx hb dX3_multiply_28 rfl (lv_at hl 2 rfl) ?_
      refine bd_lmul (v := (lN (fh i * P))) hx hb dX3_multiply_29 (lN_mul _ _) ?_
      refine lv_lload hx hb dX3_multiply_30 (lv_at hl 1 rfl) ?_
      refine bd_ladd (v := (lN (f i * P + cy))) hx hb dX3_multiply_32 ((lN_add _ _).trans (by rw [hge i (Nat.le_refl i)])) ?_
      refine lv_lstore (lv' := [(7, .long (lN (f i * P + cy))), (6, .int (nI i)), (4, .long (lN cy)), (2, .long (lN P)), (0, .ref h), (1, .int bx)]) hx hb dX3_multiply_33 hl (by decide) rfl (fun ls hl => ?_)
      refine lv_aload_n hx hb dX3_multiply_35 rfl (lv_at hl 4 rfl) ?_
      refine bd_grw C i3 hw hh hz dX3_multiply_36 lk9 ?_
      refine lv_iload hx hb dX3_multiply_39 (lv_at hl 1 rfl) ?_
      refine lv_lload hx hb dX3_multiply_41 (lv_at hl 0 rfl) ?_
      refine lv_ldc2 (v := lN 4294967295) hx hb hown (hts _ lk30) dX3_multiply_43 ?_
      refine bd_land (v := (lN ((f i * P + cy) % 4294967296))) hx hb dX3_multiply_46 (bd_m32 hu.1) ?_
      refine bd_ast C hw hh hz dX3_multiply_47 (by omega) (fun z H locs hz hfr hw => ?_)
      have hz : z h = (n, g, (va_up fh i ((f i * P + cy) % 4294967296))) := hz
      have ho := bd_tr hfr ho
      refine lv_lload hx hb dX3_multiply_48 (lv_at hl 0 rfl) ?_
      refine lv_bipush (v := nI 32) hx hb dX3_multiply_50 (by decide) ?_
      refine bd_lushr (v := (lN ((f i * P + cy) / 4294967296))) hx hb dX3_multiply_52 (bd_s32 hu.1) ?_
      refine lv_lstore (lv' := [(4, .long (lN ((f i * P + cy) / 4294967296))), (7, .long (lN (f i * P + cy))), (6, .int (nI i)), (2, .long (lN P)), (0, .ref h), (1, .int bx)]) hx hb dX3_multiply_53 hl (by decide) rfl (fun ls hl => ?_)
      refine lv_iinc (v := (nI (i + 1))) (lv' := [(6, .int (nI (i + 1))), (4, .long (lN ((f i * P + cy) / 4294967296))), (7, .long (lN (f i * P + cy))), (2, .long (lN P)), (0, .ref h), (1, .int bx)]) hx hb dX3_multiply_55 hl (k := 2) rfl (nI_1 _) (by decide) rfl (fun ls hl => ?_)
      refine lv_goto (tgt := 12) hx hb dX3_multiply_58 (by decide) ?_
      exact ih (d - 1) (by omega) (i + 1) ((f i * P + cy) / 4294967296) z ls H locs _ (by omega) hz (q_r_up hfh (Nat.mod_lt _ (by decide))) hu.2 (fun j hj => by rw [va_up_ne _ _ (by omega)]; exact hge j (by omega)) (q_mul1 (by rw [q_cg (f := fh) (fun j hj => va_up_ne _ _ (by omega))]; exact hv) (by rw [va_up_self]; omega)) ho (lv_sub hl [0, 1, 3, 4, 5] rfl) hw
set_option maxHeartbeats 4000000 in
set_option maxRecDepth 100000 in
/-- Whole.divide(b), rounded down -/
theorem c3_divide (l : Launch) (K : Cxt) (E : Nat → va_E) (z0 : Nat → Wh) (sz h : Nat) (b : Nat) (hh : h ∈ bd_N K) {n : Nat} {g : Int32} {f : Nat → Nat} (hz : z0 h = (n, g, f)) {v : Int} (hv : bd_n (n, g, f) v) (hb0 : 0 < b) (hb31 : b < 2 ^ 31) (hb2 : q_s f n + 1 < 4294967296 ^ 24) : Met l yX3_divide wsX3_divide ({ frames := 1, cells := 0, slots := 0, locals := 30 }) (va_Pc [.ref h, .int (nI b)] (bd_P K E z0 sz)) (va_Qi (fun r u => r = nI (v.natAbs % b) ∧ u.1 = E ∧ bd_n (u.2 h) (v / (b : Int)) ∧ ∀ a, a ≠ h → u.2 a = z0 a) (bd_B K) (bd_A K sz)) 0 0 (bd_A K sz) := by
  refine bd_ofW (cc := cX3_divide) (maxL := 8) (ret := (some .int)) (by decide) rfl (Nat.le_of_ble_eq_true rfl) ?_
  intro p e s m below meth c ls C hr hlk hsz hw hl
  have hx := C.1
  have hb := C.2.1
  have hown := C.2.2.2.1
  have hts := C.2.2.2.2.1
  have i3 : ∀ w ∈ wsX30, w ∈ wsX3_divide := by decide +kernel
  have lk13 : Cond.fieldLink RX3 13 "BallDesk$Whole" "sign" "I" ∈ wsX3_divide := by decide +kernel
  have lk17 : Cond.fieldLink RX3 17 "BallDesk$Whole" "size" "I" ∈ wsX3_divide := by decide +kernel
  have lk9 : Cond.fieldLink RX3 9 "BallDesk$Whole" "row" "[J" ∈ wsX3_divide := by decide +kernel
  have ho : ∀ b, b ≠ h → z0 b = z0 b := fun _ _ => rfl
  have hl : lv_has ls 8 [(0, .ref h), (1, .int (nI b))] := hl
  have hma := bd_n_m hv
  have hsg := bd_n_sg hv
  have okh := hv.1
  obtain ⟨h24, hf, ht⟩ := bd_ok_sz okh
  refine lv_iload_n hx hb dX3_divide_0 rfl (lv_at hl 1 rfl) ?_
  refine bd_zgt (h1 := (by omega)) (tgt := 6) hx hb dX3_divide_1 (by decide) (fun hc1 => ?_) (fun hc1 => ?_)
  · suffices hj18 : W p l e (headSpec wsX3_divide ({ frames := 1, cells := 0, slots := 0, locals := 30 })).room s m [.ref h, .int (nI b)].toArray below meth c s.heap [] 0 0 (MQ below (va_Qi (fun r u => r = nI (v.natAbs % b) ∧ u.1 = E ∧ bd_n (u.2 h) (v / (b : Int)) ∧ ∀ a, a ≠ h → u.2 a = z0 a) (bd_B K) (bd_A K sz)) [.ref h, .int (nI b)].toArray s 0 0 (bd_A K sz)) (F0 m 18 ls [.int (nI (if g < 0 then 1 else 0))]) by
      refine lv_aload_n hx hb dX3_divide_6 rfl (lv_at hl 0 rfl) ?_
      refine bd_gsg C i3 hw hh hz dX3_divide_7 lk13 ?_
      refine lv_if_ge (tgt := 17) hx hb dX3_divide_10 (by decide) (fun hc10 => ?_) (fun hc10 => ?_)
      · refine lv_iconst (v := nI 0) hx hb dX3_divide_17 (by decide) ?_
        rw [if_neg (Int32.not_lt.mpr hc10)] at hj18
        exact hj18
      · refine lv_iconst (v := nI 1) hx hb dX3_divide_13 (by decide) ?_
        refine lv_goto (tgt := 18) hx hb dX3_divide_14 (by decide) ?_
        rw [if_pos (Int32.not_le.mp hc10)] at hj18
        exact hj18
    refine lv_istore_n (lv' := [(2, .int (nI (if g < 0 then 1 else 0))), (0, .ref h), (1, .int (nI b))]) hx hb dX3_divide_18 rfl hl (by decide) rfl (fun ls hl => ?_)
    refine lv_lconst (v := lN 0) hx hb dX3_divide_19 rfl ?_
    refine lv_lstore_n (lv' := [(3, .long (lN 0)), (2, .int (nI (if g < 0 then 1 else 0))), (0, .ref h), (1, .int (nI b))]) hx hb dX3_divide_20 rfl hl (by decide) rfl (fun ls hl => ?_)
    refine lv_aload_n hx hb dX3_divide_21 rfl (lv_at hl 2 rfl) ?_
    refine bd_gsz C i3 hw hh hz dX3_divide_22 lk17 ?_
    refine lv_iconst (v := nI 1) hx hb dX3_divide_25 (by decide) ?_
    refine bd_isub (v := (nI n - nI 1)) hx hb dX3_divide_26 (rfl) ?_
    refine lv_istore (lv' := [(5, .int (nI n - nI 1)), (3, .long (lN 0)), (2, .int (nI (if g < 0 then 1 else 0))), (0, .ref h), (1, .int (nI b))]) hx hb dX3_divide_27 hl (by decide) rfl (fun ls hl => ?_)
    suffices hloop : ∀ (k r : Nat) (z : Nat → Wh) (ls : Array Slot) (H : Heap) (locs : List Loc) (fh : Nat → Nat), k ≤ n → z h = (n, g, fh) → q_r fh → r < b → (∀ j, j < k → fh j = f j) → q_s (fun j => f (k + j)) (n - k) = b * q_s (fun j => fh (k + j)) (n - k) + r → (∀ a, a ≠ h → z a = z0 a) → lv_has ls 8 [(5, .int (nI k - nI 1)), (3, .long (lN r)), (2, .int (nI (if g < 0 then 1 else 0))), (0, .ref h), (1, .int (nI b))] → bd_W K E z (bd_A K sz) s.heap H locs → W p l e (headSpec wsX3_divide ({ frames := 1, cells := 0, slots := 0, locals := 30 })).room s m [.ref h, .int (nI b)].toArray below meth c H locs 0 0 (MQ below (va_Qi (fun r u => r = nI (v.natAbs % b) ∧ u.1 = E ∧ bd_n (u.2 h) (v / (b : Int)) ∧ ∀ a, a ≠ h → u.2 a = z0 a) (bd_B K) (bd_A K sz)) [.ref h, .int (nI b)].toArray s 0 0 (bd_A K sz)) (F0 m 29 ls []) from hloop n 0 z0 ls _ _ f (Nat.le_refl n) hz hf hb0 (fun _ _ => rfl) (by rw [Nat.sub_self]; rfl) ho (lv_sub hl [0, 1, 2, 3, 4] rfl) hw
    clear hw hl ls ho hz
    intro k
    induction k using Nat.strongRecOn with
    | ind k ih =>
      intro r z ls H locs fh hk hz hfh hrb hlo hv1 ho hl hw
      refine lv_iload hx hb dX3_divide_29 (lv_at hl 0 rfl) ?_
      refine bd_dlt (h1 := (by omega)) (tgt := 72) hx hb dX3_divide_31 (by decide) (fun hc31 => ?_) (fun hc31 => ?_)
      · subst hc31
        have hd0 : q_s f n = b * q_s fh n + r := by
          have h1 := hv1
          simp only [Nat.zero_add, Nat.sub_zero] at h1
          exact h1
        have hmod : v.natAbs % b = r := by rw [← hma, hd0, Nat.mul_add_mod, Nat.mod_eq_of_lt hrb]
        have hQ : q_s fh n ≤ q_s f n := by
          rw [hd0]
          exact Nat.le_trans (Nat.le_mul_of_pos_left _ hb0) (Nat.le_add_right _ _)
        refine lv_aload_n hx hb dX3_divide_72 rfl (lv_at hl 3 rfl) ?_
        refine lv_aload_n hx hb dX3_divide_73 rfl (lv_at hl 3 rfl) ?_
        refine bd_gsz C i3 hw hh hz dX3_divide_74 lk17 ?_
        refine bd_cv (As := [.int (nI n)]) (rest := []) C (c3_trim _ _ _ _ _ _ n hh hz h24 hfh) (cwV 1 hts gX3_divide_X3_trim rfl rfl rfl (by decide +kernel) ⟨Nat.le_of_ble_eq_true rfl, Nat.le_of_ble_eq_true rfl⟩) hsz hw (bd_recv C hw hh) dX3_divide_77 rfl hl.1 rfl (Nat.le_of_ble_eq_true rfl) ⟨Nat.le_refl _, Nat.le_refl _⟩ (fun E1 z H locs hp hw => ?_)
        obtain ⟨hE, hz2, hfr⟩ := hp
        rw [show E1 = E from hE] at hw
        have hz : z h = (q_tr fh n, (if q_tr fh n = 0 then 0 else g), fh) := hz2
        have ho := bd_tr (z2 := z) hfr ho
        refine lv_iload_n hx hb dX3_divide_80 rfl (lv_at hl 2 rfl) ?_
        refine bd_zeq (h1 := by split <;> decide) (tgt := 94) hx hb dX3_divide_81 (by decide) (fun hc81 => ?_) (fun hc81 => ?_)
        · have hg : ¬ g < 0 := by
            intro q
            rw [if_pos q] at hc81
            exact absurd hc81 (by decide)
          refine lv_lload_n hx hb dX3_divide_94 rfl (lv_at hl 1 rfl) ?_
          refine bd_l2i (v := (nI r)) hx hb dX3_divide_95 (lN_i r) ?_
          have hfin : bd_n (z h) (v / (b : Int)) := by
            rw [hz]
            rcases hsg with q | q | q
            · refine bd_fin hfh h24 (Or.inr ?_) ?_
              · have h1 : q_s f n = 0 := by omega
                omega
              · have h1 : q_s fh n = 0 := by
                  have h1 : q_s f n = 0 := by omega
                  omega
                rw [h1, q.2]
                simp
            · refine bd_fin hfh h24 (Or.inl (Or.inl q.1)) ?_
              rw [q.1, i1, Int.one_mul, ← fl_pos hd0 hrb]
              congr 1
              omega
            · refine bd_fin hfh h24 (Or.inl (Or.inr q.1)) ?_
              exact absurd (by rw [q.1]; decide +kernel) hg
          exact bd_iret C hr hlk hw dX3_divide_96 ⟨by rw [hmod], rfl, hfin, ho⟩
        · have hg : g < 0 := by
            rcases Decidable.em (g < 0) with q | q
            · exact q
            · rw [if_neg q] at hc81
              exact absurd hc81 (by decide)
          refine lv_lload_n hx hb dX3_divide_84 rfl (lv_at hl 1 rfl) ?_
          refine lv_lconst (v := lN 0) hx hb dX3_divide_85 rfl ?_
          refine bd_leq (h1 := (by omega)) (h2 := (by decide)) (tgt := 94) hx hb dX3_divide_86 dX3_divide_87 (by decide) (fun hc86 => ?_) (fun hc86 => ?_)
          · refine lv_lload_n hx hb dX3_divide_94 rfl (lv_at hl 1 rfl) ?_
            refine bd_l2i (v := (nI r)) hx hb dX3_divide_95 (lN_i r) ?_
            have hfin : bd_n (z h) (v / (b : Int)) := by
              rw [hz]
              rcases hsg with q | q | q
              · refine bd_fin hfh h24 (Or.inr ?_) ?_
                · have h1 : q_s f n = 0 := by omega
                  omega
                · have h1 : q_s fh n = 0 := by
                    have h1 : q_s f n = 0 := by omega
                    omega
                  rw [h1, q.2]
                  simp
              · refine bd_fin hfh h24 (Or.inl (Or.inl q.1)) ?_
                rw [q.1, i1, Int.one_mul, ← fl_pos hd0 hrb]
                congr 1
                omega
              · refine bd_fin hfh h24 (Or.inl (Or.inr q.1)) ?_
                rw [hc86, Nat.add_zero] at hd0
                rw [q.1, im1, Int.neg_one_mul, ← fl_neg0 hd0 hb0]
                congr 1
                omega
            exact bd_iret C hr hlk hw dX3_divide_96 ⟨by rw [hmod], rfl, hfin, ho⟩
          · refine lv_aload_n hx hb dX3_divide_90 rfl (lv_at hl 3 rfl) ?_
            refine bd_cv (As := []) (rest := []) C (c3_stepDown _ _ _ _ _ _ hh hz (Nat.le_trans (q_tr_le _ _) h24) hfh (q_tr_top fh n) (by rw [q_tr_val]; omega)) (cwV 0 hts gX3_divide_X3_stepDown rfl rfl rfl (by decide +kernel) ⟨Nat.le_of_ble_eq_true rfl, Nat.le_of_ble_eq_true rfl⟩) hsz hw (bd_recv C hw hh) dX3_divide_91 rfl hl.1 rfl (Nat.le_of_ble_eq_true rfl) ⟨Nat.le_refl _, Nat.le_refl _⟩ (fun E1 z H locs hp hw => ?_)
            obtain ⟨hE, hn2, hfr⟩ := hp
            rw [show E1 = E from hE] at hw
            rw [q_tr_val] at hn2
            have ho := bd_tr (z2 := z) hfr ho
            have hfin : bd_n (z h) (v / (b : Int)) := by
              have h1 : v = -((q_s f n : Nat) : Int) := by
                rcases hsg with q | q | q
                · rw [q.1] at hg; exact absurd hg (by decide +kernel)
                · rw [q.1] at hg; exact absurd hg (by decide +kernel)
                · omega
              rw [h1, fl_neg hd0 hrb (Nat.pos_of_ne_zero hc86)]
              exact hn2
            refine lv_lload_n hx hb dX3_divide_94 rfl (lv_at hl 1 rfl) ?_
            refine bd_l2i (v := (nI r)) hx hb dX3_divide_95 (lN_i r) ?_
            exact bd_iret C hr hlk hw dX3_divide_96 ⟨by rw [hmod], rfl, hfin, ho⟩
      · rw [bd_sub1 hc31] at hl
        have hu := q_dvu hrb (hf (k - 1) (by omega))
        have hqd : (r * 4294967296 + f (k - 1)) / b < 4294967296 := Nat.div_lt_of_lt_mul (by rw [Nat.mul_comm]; omega)
        refine lv_lload_n hx hb dX3_divide_34 rfl (lv_at hl 1 rfl) ?_
        refine lv_bipush (v := nI 32) hx hb dX3_divide_35 (by decide) ?_
        refine bd_lshl (v := (lN (r * 4294967296))) hx hb dX3_divide_37 (wb_shl r (k := 32) (by decide)) ?_
        refine lv_aload_n hx hb dX3_divide_38 rfl (lv_at hl 3 rfl) ?_
        refine bd_grw C i3 hw hh hz dX3_divide_39 lk9 ?_
        refine lv_iload hx hb dX3_divide_42 (lv_at hl 0 rfl) ?_
        refine bd_ald C hw hh hz dX3_divide_44 (by omega) ?_
        rw [hlo (k - 1) (by omega)]
        refine bd_lor (v := (lN (r * 4294967296 + f (k - 1)))) hx hb dX3_divide_45 (g_or (k := 32) (by decide) (hf _ (by omega)) (by omega)) ?_
        refine lv_lstore (lv' := [(6, .long (lN (r * 4294967296 + f (k - 1)))), (5, .int (nI (k - 1))), (3, .long (lN r)), (2, .int (nI (if g < 0 then 1 else 0))), (0, .ref h), (1, .int (nI b))]) hx hb dX3_divide_46 hl (by decide) rfl (fun ls hl => ?_)
        refine lv_aload_n hx hb dX3_divide_48 rfl (lv_at hl 4 rfl) ?_
        refine bd_grw C i3 hw hh hz dX3_divide_49 lk9 ?_
        refine lv_iload hx hb dX3_divide_52 (lv_at hl 1 rfl) ?_
        refine lv_lload hx hb dX3_divide_54 (lv_at hl 0 rfl) ?_
        refine lv_iload_n hx hb dX3_divide_56 rfl (lv_at hl 5 rfl) ?_
        refine bd_i2l (v := (lN b)) hx hb dX3_divide_57 (nI_l hb31) ?_
        refine bd_ldiv (v := (lN ((r * 4294967296 + f (k - 1)) / b))) hx hb dX3_divide_58 (lN_ne0 hb0 (by omega)) (pk_lDiv (by omega) hb0 (by omega)) ?_
        refine bd_ast C hw hh hz dX3_divide_59 (by omega) (fun z H locs hz hfr hw => ?_)
        have hz : z h = (n, g, (va_up fh (k - 1) ((r * 4294967296 + f (k - 1)) / b))) := hz
        have ho := bd_tr hfr ho
        refine lv_lload hx hb dX3_divide_60 (lv_at hl 0 rfl) ?_
        refine lv_iload_n hx hb dX3_divide_62 rfl (lv_at hl 5 rfl) ?_
        refine bd_i2l (v := (lN b)) hx hb dX3_divide_63 (nI_l hb31) ?_
        refine bd_lrem (v := (lN ((r * 4294967296 + f (k - 1)) % b))) hx hb dX3_divide_64 (lN_ne0 hb0 (by omega)) (pk_lRem (by omega) hb0 (by omega)) ?_
        refine lv_lstore_n (lv' := [(3, .long (lN ((r * 4294967296 + f (k - 1)) % b))), (6, .long (lN (r * 4294967296 + f (k - 1)))), (5, .int (nI (k - 1))), (2, .int (nI (if g < 0 then 1 else 0))), (0, .ref h), (1, .int (nI b))]) hx hb dX3_divide_65 rfl hl (by decide) rfl (fun ls hl => ?_)
        refine lv_iinc (v := (nI (k - 1) - nI 1)) (lv' := [(5, .int (nI (k - 1) - nI 1)), (3, .long (lN ((r * 4294967296 + f (k - 1)) % b))), (6, .long (lN (r * 4294967296 + f (k - 1)))), (2, .int (nI (if g < 0 then 1 else 0))), (0, .ref h), (1, .int (nI b))]) hx hb dX3_divide_66 hl (k := 2) rfl (bd_dec _) (by decide) rfl (fun ls hl => ?_)
        refine lv_goto (tgt := 29) hx hb dX3_divide_69 (by decide) ?_
        exact ih (k - 1) (by omega) ((r * 4294967296 + f (k - 1)) % b) z ls H locs _ (by omega) hz (q_r_up hfh hqd) (Nat.mod_lt _ hb0) (fun j hj => by rw [va_up_ne _ _ (by omega)]; exact hlo j (by omega)) ((q_dvk hc31 hk).trans ((q_dv1 hv1).trans (by rw [q_dvk hc31 hk, va_up_self]; congr 3; exact congrArg _ (q_cg (fun j _ => (va_up_ne _ _ (by omega)).symm))))) ho (lv_sub hl [0, 1, 3, 4, 5] rfl) hw
  · exact absurd hc1 (by omega)
