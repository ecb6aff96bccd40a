/-! the model: put, power, bits, sizes, compare (laid by wip/gen/m_mod2.py) -/
set_option maxHeartbeats 4000000 in
set_option maxRecDepth 100000 in
/-- put(r, v) -/
theorem v5_put (l : Launch) (K : Cxt) (E0 : Nat → va_E) (z0 : Nat → Wh) (sz : Nat) {mo : Nat → Nat} {th : Int32} {P : Nat} {rg0 : Nat → Int} (hv : md_v K E0 mo th P rg0) (r : Nat) (v : Int64) (hr60 : r < 60) : Met l yX5_put wsX5_put ({ frames := 1, cells := 0, slots := 0, locals := 30 }) (va_Pc [.ref (mo 0), .int (nI r), .long v] (bd_P K E0 z0 sz)) (va_Qv (mv_q K mo th P rg0 r v.toInt) (bd_B K) (bd_A K sz)) 0 0 (bd_A K sz) := by
  refine bd_ofW (cc := cX5_put) (maxL := 7) (ret := none) (by decide) rfl (Nat.le_of_ble_eq_true rfl) ?_
  intro p e s m below meth c ls C hr hlk hsz hw hl
  have hx := C.1
  have hb := C.2.1
  have hown := C.2.2.2.1
  have hts := C.2.2.2.2.1
  have i5 : ∀ w ∈ wsX50, w ∈ wsX5_put := by decide +kernel
  have lk7 : Cond.fieldLink RX5 7 "BallDeskModel" "limbs" "[I" ∈ wsX5_put := by decide +kernel
  have lk55 : Cond.constantLong RX5 55 (16777215) ∈ wsX5_put := by decide +kernel
  have hl : lv_has ls 7 [(0, .ref (mo 0)), (1, .int (nI r)), (2, .long v)] := hl
  obtain ⟨Fo, Go, So, Ro, hm, hrg⟩ := hv
  obtain ⟨hP1, hP2⟩ := md_P hm
  refine lv_aload_n hx hb dX5_put_0 rfl (lv_at hl 0 rfl) ?_
  refine lv_iload_n hx hb dX5_put_1 rfl (lv_at hl 1 rfl) ?_
  refine bd_cv (As := [.int (nI r)]) (rest := []) C (m5_none _ _ _ _ _ hm r (by omega)) (cwV 1 hts gX5_put_X5_none rfl rfl rfl (by decide +kernel) ⟨Nat.le_of_ble_eq_true rfl, Nat.le_of_ble_eq_true rfl⟩) hsz hw (md_recv C hw hm) dX5_put_2 rfl hl.1 rfl (Nat.le_of_ble_eq_true rfl) ⟨Nat.le_refl _, Nat.le_refl _⟩ (fun E z H locs hp hw => ?_)
  obtain ⟨f0, hf0, hm⟩ := hp
  refine lv_lload_n hx hb dX5_put_5 rfl (lv_at hl 2 rfl) ?_
  refine lv_lconst (v := lN 0) hx hb dX5_put_6 rfl ?_
  refine bd_lcmp (v := (lg_cmp v (lN 0))) hx hb dX5_put_7 (rfl) ?_
  refine lv_if_ge (tgt := 16) hx hb dX5_put_8 (by decide) (fun hc8 => ?_) (fun hc8 => ?_)
  · rw [lg_q3] at hc8
    have hneg : 0 ≤ v.toInt := q3_ge.mp hc8
    refine lv_lload_n (x := lN v.toInt.natAbs) hx hb dX5_put_16 rfl (by have h9 := lv_at hl 2 rfl; rw [← l_abs hneg]; exact h9) ?_
    refine lv_lstore (lv' := [(4, .long (lN v.toInt.natAbs)), (0, .ref (mo 0)), (1, .int (nI r)), (2, .long v)]) hx hb dX5_put_17 hl (by decide) rfl (fun ls hl => ?_)
    refine lv_iconst (v := nI 0) hx hb dX5_put_19 (by decide) ?_
    refine lv_istore (lv' := [(6, .int (nI 0)), (4, .long (lN v.toInt.natAbs)), (0, .ref (mo 0)), (1, .int (nI r)), (2, .long v)]) hx hb dX5_put_20 hl (by decide) rfl (fun ls hl => ?_)
    suffices hloop : ∀ (d9 i : Nat) (f1 : Nat → Nat) (E : Nat → va_E) (ls : Array Slot) (H : Heap) (locs : List Loc), i + d9 = 3 → md_at K E mo th P (va_up Fo r f1) (va_up Go r 0) So Ro → (∀ j, j < i → f1 j = v.toInt.natAbs / 16777216 ^ j % 16777216) → (∀ j, i ≤ j → j < 34 → f1 j = 0) → lv_has ls 7 [(6, .int (nI i)), (4, .long (lN v.toInt.natAbs)), (0, .ref (mo 0)), (1, .int (nI r)), (2, .long v)] → bd_W K E z (bd_A K sz) s.heap H locs → W p l e (headSpec wsX5_put ({ frames := 1, cells := 0, slots := 0, locals := 30 })).room s m [.ref (mo 0), .int (nI r), .long v].toArray below meth c H locs 0 0 (MQ below (va_Qv (mv_q K mo th P rg0 r v.toInt) (bd_B K) (bd_A K sz)) [.ref (mo 0), .int (nI r), .long v].toArray s 0 0 (bd_A K sz)) (F0 m 22 ls []) from hloop 3 0 f0 E ls _ _ (by omega) hm (fun j hj => absurd hj (by omega)) (fun j _ h2 => hf0 j h2) (lv_sub hl [0, 1, 2, 3, 4] rfl) hw
    clear hw hl ls hm 
    intro d9
    induction d9 using Nat.strongRecOn with
    | ind d9 ih =>
      intro i f1 E ls H locs hjd hm hf hg hl hw
      refine lv_iload hx hb dX5_put_22 (lv_at hl 0 rfl) ?_
      refine lv_iconst (v := nI 3) hx hb dX5_put_24 (by decide) ?_
      refine bd_ige (h1 := (by omega)) (h2 := (by omega)) (tgt := 59) hx hb dX5_put_25 (by decide) (fun hc25 => ?_) (fun hc25 => ?_)
      · have hall : ∀ j, j < 34 → f1 j = v.toInt.natAbs / 16777216 ^ j % 16777216 := by
          intro j hj
          rcases Nat.lt_or_ge j 3 with q | q
          · exact hf j (by omega)
          · rw [hg j (by omega) hj, Nat.div_eq_of_lt (Nat.lt_of_lt_of_le (l_b v) (Nat.le_trans (by decide) (Nat.pow_le_pow_right (by decide) q)))]
        have hb1 : ∀ j, j < 34 → f1 j < 16777216 := fun j hj => by rw [hall j hj]; exact Nat.mod_lt _ (by decide)
        have hs1 : h_s f1 34 = v.toInt.natAbs := h_ofd hall (Nat.lt_of_lt_of_le (l_b v) (by decide +kernel))
        refine lv_aload_n hx hb dX5_put_59 rfl (lv_at hl 2 rfl) ?_
        refine lv_iload_n hx hb dX5_put_60 rfl (lv_at hl 3 rfl) ?_
        refine lv_lload_n hx hb dX5_put_61 rfl (lv_at hl 4 rfl) ?_
        refine lv_lconst (v := lN 0) hx hb dX5_put_62 rfl ?_
        refine bd_lcmp (v := (lg_cmp v (lN 0))) hx hb dX5_put_63 (rfl) ?_
        refine lv_if_ge (tgt := 71) hx hb dX5_put_64 (by decide) (fun hc64 => ?_) (fun hc64 => ?_)
        · refine lv_iconst (v := nI 1) hx hb dX5_put_71 (by decide) ?_
          refine bd_cv (As := [.int (nI r), .int (nI 1)]) (rest := []) C (m5_settle _ _ _ _ _ hm r (nI 1) (by omega) (by rw [va_up_self]; exact hb1)) (cwV 2 hts gX5_put_X5_settle rfl rfl rfl (by decide +kernel) ⟨Nat.le_of_ble_eq_true rfl, Nat.le_of_ble_eq_true rfl⟩) hsz hw (md_recv C hw hm) dX5_put_72 rfl hl.1 rfl (Nat.le_of_ble_eq_true rfl) ⟨Nat.le_refl _, Nat.le_refl _⟩ (fun E z H locs hp hw => ?_)
          have hm := hp
          rw [va_up2] at hm
          rw [va_up_self] at hm
          exact bd_vret C hr hlk hw dX5_put_75 (mv_end hm hrg hb1 hs1 (sg_if hs1 (fun q => by rcases sg3 v.toInt with ⟨a, b⟩ | ⟨a, b⟩ | ⟨a, b⟩ <;> first | exact b.symm | (exfalso; omega))))
        · exact absurd (by rw [lg_q3]; exact q3_ge.mpr hneg) hc64
      · refine lv_aload_n hx hb dX5_put_28 rfl (lv_at hl 2 rfl) ?_
        refine md_g C i5 hw hm 3 (by decide) (v := .ref (mo 1)) rfl dX5_put_29 lk7 ?_
        refine lv_bipush (v := nI 34) hx hb dX5_put_32 (by decide) ?_
        refine lv_iload_n hx hb dX5_put_34 rfl (lv_at hl 3 rfl) ?_
        refine bd_imul (v := nI (34 * r)) hx hb dX5_put_35 (nI_mul _ _) ?_
        refine lv_iload hx hb dX5_put_36 (lv_at hl 0 rfl) ?_
        refine bd_iadd (v := nI (34 * r + i)) hx hb dX5_put_38 (nI_add _ _) ?_
        refine lv_lload hx hb dX5_put_39 (lv_at hl 1 rfl) ?_
        refine lv_bipush (v := nI 24) hx hb dX5_put_41 (by decide) ?_
        refine lv_iload hx hb dX5_put_43 (lv_at hl 0 rfl) ?_
        refine bd_imul (v := (nI (24 * i))) hx hb dX5_put_45 (nI_mul _ _) ?_
        refine bd_lushr (v := (lN (v.toInt.natAbs / 2 ^ (24 * i)))) hx hb dX5_put_46 (l_dig (l_b v) (by omega)) ?_
        refine lv_ldc2 (v := lN 16777215) hx hb hown (hts _ lk55) dX5_put_47 ?_
        refine bd_land (v := (lN (v.toInt.natAbs / 2 ^ (24 * i) % 16777216))) hx hb dX5_put_50 (l_m24 (Nat.lt_of_le_of_lt (Nat.div_le_self _ _) (l_b v))) ?_
        refine bd_l2i (v := (nI (v.toInt.natAbs / 2 ^ (24 * i) % 16777216))) hx hb dX5_put_51 (l_2i _) ?_
        refine md_st1u C hw (r := r) (k := i) (x := (v.toInt.natAbs / 2 ^ (24 * i) % 16777216)) hm dX5_put_52 (by omega) (by omega) (fun E H locs hm hw => ?_)
        refine lv_iinc (v := (nI (i + 1))) (lv' := [(6, .int (nI (i + 1))), (4, .long (lN v.toInt.natAbs)), (0, .ref (mo 0)), (1, .int (nI r)), (2, .long v)]) hx hb dX5_put_53 hl (k := 0) rfl (nI_1 _) (by decide) rfl (fun ls hl => ?_)
        refine lv_goto (tgt := 22) hx hb dX5_put_56 (by decide) ?_
        exact ih (d9 - 1) (by omega) (i + 1) _ E ls H locs (by omega) hm (up_s (T := fun j y => y = v.toInt.natAbs / 16777216 ^ j % 16777216) hf (by rw [hP])) (fun j h1 h2 => by rw [va_up_ne _ _ (by omega)]; exact hg j (by omega) h2) (lv_sub hl [0, 1, 2, 3, 4] rfl) hw
  · rw [lg_q3] at hc8
    have hneg : v.toInt < 0 := Int.not_le.mp (fun q => hc8 (q3_ge.mpr q))
    refine lv_lload_n hx hb dX5_put_11 rfl (lv_at hl 2 rfl) ?_
    refine bd_lneg (v := (lN v.toInt.natAbs)) hx hb dX5_put_12 (l_absn hneg) ?_
    refine lv_goto (tgt := 17) hx hb dX5_put_13 (by decide) ?_
    refine lv_lstore (lv' := [(4, .long (lN v.toInt.natAbs)), (0, .ref (mo 0)), (1, .int (nI r)), (2, .long v)]) hx hb dX5_put_17 hl (by decide) rfl (fun ls hl => ?_)
    refine lv_iconst (v := nI 0) hx hb dX5_put_19 (by decide) ?_
    refine lv_istore (lv' := [(6, .int (nI 0)), (4, .long (lN v.toInt.natAbs)), (0, .ref (mo 0)), (1, .int (nI r)), (2, .long v)]) hx hb dX5_put_20 hl (by decide) rfl (fun ls hl => ?_)
    suffices hloop : ∀ (d9 i : Nat) (f1 : Nat → Nat) (E : Nat → va_E) (ls : Array Slot) (H : Heap) (locs : List Loc), i + d9 = 3 → md_at K E mo th P (va_up Fo r f1) (va_up Go r 0) So Ro → (∀ j, j < i → f1 j = v.toInt.natAbs / 16777216 ^ j % 16777216) → (∀ j, i ≤ j → j < 34 → f1 j = 0) → lv_has ls 7 [(6, .int (nI i)), (4, .long (lN v.toInt.natAbs)), (0, .ref (mo 0)), (1, .int (nI r)), (2, .long v)] → bd_W K E z (bd_A K sz) s.heap H locs → W p l e (headSpec wsX5_put ({ frames := 1, cells := 0, slots := 0, locals := 30 })).room s m [.ref (mo 0), .int (nI r), .long v].toArray below meth c H locs 0 0 (MQ below (va_Qv (mv_q K mo th P rg0 r v.toInt) (bd_B K) (bd_A K sz)) [.ref (mo 0), .int (nI r), .long v].toArray s 0 0 (bd_A K sz)) (F0 m 22 ls []) from hloop 3 0 f0 E ls _ _ (by omega) hm (fun j hj => absurd hj (by omega)) (fun j _ h2 => hf0 j h2) (lv_sub hl [0, 1, 2, 3, 4] rfl) hw
    clear hw hl ls hm 
    intro d9
    induction d9 using Nat.strongRecOn with
    | ind d9 ih =>
      intro i f1 E ls H locs hjd hm hf hg hl hw
      refine lv_iload hx hb dX5_put_22 (lv_at hl 0 rfl) ?_
      refine lv_iconst (v := nI 3) hx hb dX5_put_24 (by decide) ?_
      refine bd_ige (h1 := (by omega)) (h2 := (by omega)) (tgt := 59) hx hb dX5_put_25 (by decide) (fun hc25 => ?_) (fun hc25 => ?_)
      · have hall : ∀ j, j < 34 → f1 j = v.toInt.natAbs / 16777216 ^ j % 16777216 := by
          intro j hj
          rcases Nat.lt_or_ge j 3 with q | q
          · exact hf j (by omega)
          · rw [hg j (by omega) hj, Nat.div_eq_of_lt (Nat.lt_of_lt_of_le (l_b v) (Nat.le_trans (by decide) (Nat.pow_le_pow_right (by decide) q)))]
        have hb1 : ∀ j, j < 34 → f1 j < 16777216 := fun j hj => by rw [hall j hj]; exact Nat.mod_lt _ (by decide)
        have hs1 : h_s f1 34 = v.toInt.natAbs := h_ofd hall (Nat.lt_of_lt_of_le (l_b v) (by decide +kernel))
        refine lv_aload_n hx hb dX5_put_59 rfl (lv_at hl 2 rfl) ?_
        refine lv_iload_n hx hb dX5_put_60 rfl (lv_at hl 3 rfl) ?_
        refine lv_lload_n hx hb dX5_put_61 rfl (lv_at hl 4 rfl) ?_
        refine lv_lconst (v := lN 0) hx hb dX5_put_62 rfl ?_
        refine bd_lcmp (v := (lg_cmp v (lN 0))) hx hb dX5_put_63 (rfl) ?_
        refine lv_if_ge (tgt := 71) hx hb dX5_put_64 (by decide) (fun hc64 => ?_) (fun hc64 => ?_)
        · exact absurd (by rw [lg_q3] at hc64; exact q3_ge.mp hc64) (Int.not_le.mpr hneg)
        · refine lv_iconst (v := (-1)) hx hb dX5_put_67 (by decide) ?_
          refine lv_goto (tgt := 72) hx hb dX5_put_68 (by decide) ?_
          refine bd_cv (As := [.int (nI r), .int (-1)]) (rest := []) C (m5_settle _ _ _ _ _ hm r (-1) (by omega) (by rw [va_up_self]; exact hb1)) (cwV 2 hts gX5_put_X5_settle rfl rfl rfl (by decide +kernel) ⟨Nat.le_of_ble_eq_true rfl, Nat.le_of_ble_eq_true rfl⟩) hsz hw (md_recv C hw hm) dX5_put_72 rfl hl.1 rfl (Nat.le_of_ble_eq_true rfl) ⟨Nat.le_refl _, Nat.le_refl _⟩ (fun E z H locs hp hw => ?_)
          have hm := hp
          rw [va_up2] at hm
          rw [va_up_self] at hm
          exact bd_vret C hr hlk hw dX5_put_75 (mv_end hm hrg hb1 hs1 (sg_if hs1 (fun q => by rcases sg3 v.toInt with ⟨a, b⟩ | ⟨a, b⟩ | ⟨a, b⟩ <;> first | exact b.symm | (exfalso; omega))))
      · refine lv_aload_n hx hb dX5_put_28 rfl (lv_at hl 2 rfl) ?_
        refine md_g C i5 hw hm 3 (by decide) (v := .ref (mo 1)) rfl dX5_put_29 lk7 ?_
        refine lv_bipush (v := nI 34) hx hb dX5_put_32 (by decide) ?_
        refine lv_iload_n hx hb dX5_put_34 rfl (lv_at hl 3 rfl) ?_
        refine bd_imul (v := nI (34 * r)) hx hb dX5_put_35 (nI_mul _ _) ?_
        refine lv_iload hx hb dX5_put_36 (lv_at hl 0 rfl) ?_
        refine bd_iadd (v := nI (34 * r + i)) hx hb dX5_put_38 (nI_add _ _) ?_
        refine lv_lload hx hb dX5_put_39 (lv_at hl 1 rfl) ?_
        refine lv_bipush (v := nI 24) hx hb dX5_put_41 (by decide) ?_
        refine lv_iload hx hb dX5_put_43 (lv_at hl 0 rfl) ?_
        refine bd_imul (v := (nI (24 * i))) hx hb dX5_put_45 (nI_mul _ _) ?_
        refine bd_lushr (v := (lN (v.toInt.natAbs / 2 ^ (24 * i)))) hx hb dX5_put_46 (l_dig (l_b v) (by omega)) ?_
        refine lv_ldc2 (v := lN 16777215) hx hb hown (hts _ lk55) dX5_put_47 ?_
        refine bd_land (v := (lN (v.toInt.natAbs / 2 ^ (24 * i) % 16777216))) hx hb dX5_put_50 (l_m24 (Nat.lt_of_le_of_lt (Nat.div_le_self _ _) (l_b v))) ?_
        refine bd_l2i (v := (nI (v.toInt.natAbs / 2 ^ (24 * i) % 16777216))) hx hb dX5_put_51 (l_2i _) ?_
        refine md_st1u C hw (r := r) (k := i) (x := (v.toInt.natAbs / 2 ^ (24 * i) % 16777216)) hm dX5_put_52 (by omega) (by omega) (fun E H locs hm hw => ?_)
        refine lv_iinc (v := (nI (i + 1))) (lv' := [(6, .int (nI (i + 1))), (4, .long (lN v.toInt.natAbs)), (0, .ref (mo 0)), (1, .int (nI r)), (2, .long v)]) hx hb dX5_put_53 hl (k := 0) rfl (nI_1 _) (by decide) rfl (fun ls hl => ?_)
        refine lv_goto (tgt := 22) hx hb dX5_put_56 (by decide) ?_
        exact ih (d9 - 1) (by omega) (i + 1) _ E ls H locs (by omega) hm (up_s (T := fun j y => y = v.toInt.natAbs / 16777216 ^ j % 16777216) hf (by rw [hP])) (fun j h1 h2 => by rw [va_up_ne _ _ (by omega)]; exact hg j (by omega) h2) (lv_sub hl [0, 1, 2, 3, 4] rfl) hw
set_option maxHeartbeats 4000000 in
set_option maxRecDepth 100000 in
/-- power(r, n) -/
theorem v5_power (l : Launch) (K : Cxt) (E0 : Nat → va_E) (z0 : Nat → Wh) (sz : Nat) {mo : Nat → Nat} {th : Int32} {P : Nat} {rg0 : Nat → Int} (hv : md_v K E0 mo th P rg0) (r n : Nat) (hr60 : r < 60) (hn : n < 816) : Met l yX5_power wsX5_power ({ frames := 1, cells := 0, slots := 0, locals := 30 }) (va_Pc [.ref (mo 0), .int (nI r), .int (nI n)] (bd_P K E0 z0 sz)) (va_Qv (mv_q K mo th P rg0 r ((2 ^ n : Nat) : Int)) (bd_B K) (bd_A K sz)) 0 0 (bd_A K sz) := by
  refine bd_ofW (cc := cX5_power) (maxL := 3) (ret := none) (by decide) rfl (Nat.le_of_ble_eq_true rfl) ?_
  intro p e s m below meth c ls C hr hlk hsz hw hl
  have hx := C.1
  have hb := C.2.1
  have hown := C.2.2.2.1
  have hts := C.2.2.2.2.1
  have i5 : ∀ w ∈ wsX50, w ∈ wsX5_power := by decide +kernel
  have lk7 : Cond.fieldLink RX5 7 "BallDeskModel" "limbs" "[I" ∈ wsX5_power := by decide +kernel
  have lk13 : Cond.fieldLink RX5 13 "BallDeskModel" "signs" "[I" ∈ wsX5_power := by decide +kernel
  have hl : lv_has ls 3 [(0, .ref (mo 0)), (1, .int (nI r)), (2, .int (nI n))] := hl
  obtain ⟨Fo, Go, So, Ro, hm, hrg⟩ := hv
  obtain ⟨hP1, hP2⟩ := md_P hm
  refine lv_aload_n hx hb dX5_power_0 rfl (lv_at hl 0 rfl) ?_
  refine lv_iload_n hx hb dX5_power_1 rfl (lv_at hl 1 rfl) ?_
  refine bd_cv (As := [.int (nI r)]) (rest := []) C (m5_none _ _ _ _ _ hm r (by omega)) (cwV 1 hts gX5_power_X5_none rfl rfl rfl (by decide +kernel) ⟨Nat.le_of_ble_eq_true rfl, Nat.le_of_ble_eq_true rfl⟩) hsz hw (md_recv C hw hm) dX5_power_2 rfl hl.1 rfl (Nat.le_of_ble_eq_true rfl) ⟨Nat.le_refl _, Nat.le_refl _⟩ (fun E z H locs hp hw => ?_)
  obtain ⟨f0, hf0, hm⟩ := hp
  refine lv_aload_n hx hb dX5_power_5 rfl (lv_at hl 0 rfl) ?_
  refine md_g C i5 hw hm 3 (by decide) (v := .ref (mo 1)) rfl dX5_power_6 lk7 ?_
  refine lv_bipush (v := nI 34) hx hb dX5_power_9 (by decide) ?_
  refine lv_iload_n hx hb dX5_power_11 rfl (lv_at hl 1 rfl) ?_
  refine bd_imul (v := nI (34 * r)) hx hb dX5_power_12 (nI_mul _ _) ?_
  refine lv_iload_n hx hb dX5_power_13 rfl (lv_at hl 2 rfl) ?_
  refine lv_bipush (v := nI 24) hx hb dX5_power_14 (by decide) ?_
  refine bd_idiv (v := (nI (n / 24))) hx hb dX5_power_16 (by decide) (pk_div (by omega) (by decide) (by decide)) ?_
  refine bd_iadd (v := nI (34 * r + (n / 24))) hx hb dX5_power_17 (nI_add _ _) ?_
  refine lv_iconst (v := nI 1) hx hb dX5_power_18 (by decide) ?_
  refine lv_iload_n hx hb dX5_power_19 rfl (lv_at hl 2 rfl) ?_
  refine lv_bipush (v := nI 24) hx hb dX5_power_20 (by decide) ?_
  refine bd_irem (v := (nI (n % 24))) hx hb dX5_power_22 (by decide) (pk_rem (by omega) (by decide) (by decide)) ?_
  refine bd_ishl (v := (nI (2 ^ (n % 24)))) hx hb dX5_power_23 ((i_shl 1 (by omega)).trans (congrArg nI (Nat.one_mul _))) ?_
  refine md_st1u C hw (r := r) (k := (n / 24)) (x := (2 ^ (n % 24))) hm dX5_power_24 (by omega) (by omega) (fun E H locs hm hw => ?_)
  refine lv_aload_n hx hb dX5_power_25 rfl (lv_at hl 0 rfl) ?_
  refine md_g C i5 hw hm 4 (by decide) (v := .ref (mo 2)) rfl dX5_power_26 lk13 ?_
  refine lv_iload_n hx hb dX5_power_29 rfl (lv_at hl 1 rfl) ?_
  refine lv_iconst (v := nI 1) hx hb dX5_power_30 (by decide) ?_
  refine md_st2u C hw (r := r) (x := (nI 1)) hm dX5_power_31 (by omega) (fun E H locs hm hw => ?_)
  have hall : ∀ j, j < 34 → va_up f0 (n / 24) (2 ^ (n % 24)) j = if j = n / 24 then 2 ^ (n % 24) else 0 := by
    intro j hj
    by_cases q : j = n / 24
    · rw [if_pos q, q, va_up_self]
    · rw [if_neg q, va_up_ne _ _ q]
      exact hf0 j hj
  obtain ⟨h1, h2⟩ := h_pow hn hall
  exact bd_vret C hr hlk hw dX5_power_32 (mv_end hm hrg h2 (by rw [h1, Int.natAbs_natCast]) (by rcases sg3 ((2 ^ n : Nat) : Int) with ⟨a, b⟩ | ⟨a, b⟩ | ⟨a, b⟩ <;> first | exact b.symm | (exfalso; have := Nat.pow_pos (n := n) (show 0 < 2 by decide); omega)))
set_option maxHeartbeats 4000000 in
set_option maxRecDepth 100000 in
/-- bits(r) -/
theorem m5_bits (l : Launch) (K : Cxt) (E0 : Nat → va_E) (z0 : Nat → Wh) (sz : Nat) {mo : Nat → Nat} {th : Int32} {P : Nat} {Fo : Nat → Nat → Nat} {Go : Nat → Int32} {So Ro : Nat → Nat} (hm : md_at K E0 mo th P Fo Go So Ro) (r : Nat) (hr60 : r < 60) (hF : ∀ j, j < 34 → Fo r j < 16777216) : Met l yX5_bits wsX5_bits ({ frames := 1, cells := 0, slots := 0, locals := 30 }) (va_Pc [.ref (mo 0), .int (nI r)] (bd_P K E0 z0 sz)) (va_Qi (fun v u => v = nI (q_bl (h_s (Fo r) 34)) ∧ u = (E0, z0)) (bd_B K) (bd_A K sz)) 0 0 (bd_A K sz) := by
  refine bd_ofW (cc := cX5_bits) (maxL := 5) (ret := (some .int)) (by decide) rfl (Nat.le_of_ble_eq_true rfl) ?_
  intro p e s m below meth c ls C hr hlk hsz hw hl
  have hx := C.1
  have hb := C.2.1
  have hown := C.2.2.2.1
  have hts := C.2.2.2.2.1
  have hl : lv_has ls 5 [(0, .ref (mo 0)), (1, .int (nI r))] := hl
  obtain ⟨hP1, hP2⟩ := md_P hm
  refine lv_bipush (v := nI 33) hx hb dX5_bits_0 (by decide) ?_
  refine lv_istore_n (lv' := [(2, .int (nI 33)), (0, .ref (mo 0)), (1, .int (nI r))]) hx hb dX5_bits_2 rfl hl (by decide) rfl (fun ls hl => ?_)
  suffices hloop : ∀ (k : Nat) (ls : Array Slot) (H : Heap) (locs : List Loc), k ≤ 34 → (∀ m, k ≤ m → m < 34 → Fo r m = 0) → lv_has ls 5 [(2, .int (nI k - nI 1)), (0, .ref (mo 0)), (1, .int (nI r))] → bd_W K E0 z0 (bd_A K sz) s.heap H locs → W p l e (headSpec wsX5_bits ({ frames := 1, cells := 0, slots := 0, locals := 30 })).room s m [.ref (mo 0), .int (nI r)].toArray below meth c H locs 0 0 (MQ below (va_Qi (fun v u => v = nI (q_bl (h_s (Fo r) 34)) ∧ u = (E0, z0)) (bd_B K) (bd_A K sz)) [.ref (mo 0), .int (nI r)].toArray s 0 0 (bd_A K sz)) (F0 m 3 ls []) from hloop 34 ls _ _ (by omega) (fun m h1 h2 => absurd h1 (by omega)) (lv_sub hl [0, 1, 2] rfl) hw
  clear hw hl ls
  intro k
  induction k using Nat.strongRecOn with
  | ind k ih =>
    intro ls H locs hk hz hl hw
    rcases k with _ | j
    · have hs0 : h_s (Fo r) 34 = 0 := h_z.mpr (fun m hm9 => hz m (Nat.zero_le _) hm9)
      refine lv_iload_n hx hb dX5_bits_3 rfl (lv_at hl 0 rfl) ?_
      refine lv_if_lt (tgt := 22) hx hb dX5_bits_4 (by decide) (fun hc4 => ?_) (fun hc4 => ?_)
      · refine lv_iload_n hx hb dX5_bits_22 rfl (lv_at hl 0 rfl) ?_
        refine lv_if_ge (tgt := 30) hx hb dX5_bits_23 (by decide) (fun hc23 => ?_) (fun hc23 => ?_)
        · exact absurd hc23 (by decide)
        · refine lv_iconst (v := nI 0) hx hb dX5_bits_26 (by decide) ?_
          refine lv_goto (tgt := 34) hx hb dX5_bits_27 (by decide) ?_
          refine lv_istore_n (lv' := [(3, .int (nI 0)), (2, .int (nI 0 - nI 1)), (0, .ref (mo 0)), (1, .int (nI r))]) hx hb dX5_bits_34 rfl hl (by decide) rfl (fun ls hl => ?_)
          refine lv_iload_n hx hb dX5_bits_35 rfl (lv_at hl 1 rfl) ?_
          refine lv_if_ge (tgt := 43) hx hb dX5_bits_36 (by decide) (fun hc36 => ?_) (fun hc36 => ?_)
          · exact absurd hc36 (by decide)
          · refine lv_iconst (v := nI 0) hx hb dX5_bits_39 (by decide) ?_
            refine lv_goto (tgt := 49) hx hb dX5_bits_40 (by decide) ?_
            refine lv_istore (lv' := [(4, .int (nI 0)), (3, .int (nI 0)), (2, .int (nI 0 - nI 1)), (0, .ref (mo 0)), (1, .int (nI r))]) hx hb dX5_bits_49 hl (by decide) rfl (fun ls hl => ?_)
            suffices hloop : ∀ (d9 tp n : Nat) (ls : Array Slot) (H : Heap) (locs : List Loc), tp ≤ d9 → tp < 16777216 → n + q_bl tp = q_bl (h_s (Fo r) 34) → lv_has ls 5 [(4, .int (nI tp)), (3, .int (nI n)), (0, .ref (mo 0)), (1, .int (nI r))] → bd_W K E0 z0 (bd_A K sz) s.heap H locs → W p l e (headSpec wsX5_bits ({ frames := 1, cells := 0, slots := 0, locals := 30 })).room s m [.ref (mo 0), .int (nI r)].toArray below meth c H locs 0 0 (MQ below (va_Qi (fun v u => v = nI (q_bl (h_s (Fo r) 34)) ∧ u = (E0, z0)) (bd_B K) (bd_A K sz)) [.ref (mo 0), .int (nI r)].toArray s 0 0 (bd_A K sz)) (F0 m 51 ls []) from hloop 0 0 0 ls _ _ (Nat.le_refl _) (by decide) (by rw [hs0]; rfl) (lv_sub hl [0, 1, 3, 4] rfl) hw
            clear hw hl ls ih
            intro d9
            induction d9 using Nat.strongRecOn with
            | ind d9 ih2 =>
              intro tp n ls H locs htd htb htn hl hw
              refine lv_iload hx hb dX5_bits_51 (lv_at hl 0 rfl) ?_
              refine bd_zle (h1 := (by omega)) (tgt := 68) hx hb dX5_bits_53 (by decide) (fun hc53 => ?_) (fun hc53 => ?_)
              · refine lv_iload_n hx hb dX5_bits_68 rfl (lv_at hl 1 rfl) ?_
                exact bd_iret C hr hlk hw dX5_bits_69 ⟨by rw [← htn, hc53] <;> rfl, rfl⟩
              · refine lv_iinc (v := (nI (n + 1))) (lv' := [(3, .int (nI (n + 1))), (4, .int (nI tp)), (0, .ref (mo 0)), (1, .int (nI r))]) hx hb dX5_bits_56 hl (k := 1) rfl (nI_1 _) (by decide) rfl (fun ls hl => ?_)
                refine lv_iload hx hb dX5_bits_59 (lv_at hl 1 rfl) ?_
                refine lv_iconst (v := nI 1) hx hb dX5_bits_61 (by decide) ?_
                refine bd_ishr (v := (nI (tp / 2))) hx hb dX5_bits_62 (i_shn (k := 1) (by omega) (by decide)) ?_
                refine lv_istore (lv' := [(4, .int (nI (tp / 2))), (3, .int (nI (n + 1))), (0, .ref (mo 0)), (1, .int (nI r))]) hx hb dX5_bits_63 hl (by decide) rfl (fun ls hl => ?_)
                refine lv_goto (tgt := 51) hx hb dX5_bits_65 (by decide) ?_
                exact ih2 (d9 - 1) (by omega) (tp / 2) (n + 1) ls H locs (by omega) (by omega) (by rw [← htn, bl_half hc53]; omega) (lv_sub hl [0, 1, 2, 3] rfl) hw
      · exact absurd (by decide) hc4
    · rw [nI_p1] at hl
      refine lv_iload_n hx hb dX5_bits_3 rfl (lv_at hl 0 rfl) ?_
      refine bd_zlt (h1 := (by omega)) (tgt := 22) hx hb dX5_bits_4 (by decide) ?_
      refine lv_aload_n hx hb dX5_bits_7 rfl (lv_at hl 1 rfl) ?_
      refine lv_iload_n hx hb dX5_bits_8 rfl (lv_at hl 2 rfl) ?_
      refine lv_iload_n hx hb dX5_bits_9 rfl (lv_at hl 0 rfl) ?_
      refine bd_cip (As := [.int (nI r), .int (nI j)]) (rest := []) C (m5_at _ _ _ _ _ hm r j (by omega) (by omega)) (cwV 2 hts gX5_bits_X5_at rfl rfl rfl (by decide +kernel) ⟨Nat.le_of_ble_eq_true rfl, Nat.le_of_ble_eq_true rfl⟩) hsz hw (md_recv C hw hm) dX5_bits_10 rfl hl.1 rfl (Nat.le_of_ble_eq_true rfl) ⟨Nat.le_refl _, Nat.le_refl _⟩ (fun H locs hw => ?_)
      refine bd_zne (h1 := (Nat.lt_of_lt_of_le (hF j (by omega)) (by decide))) (tgt := 22) hx hb dX5_bits_13 (by decide) (fun hc13 => ?_) (fun hc13 => ?_)
      · refine lv_iload_n hx hb dX5_bits_22 rfl (lv_at hl 0 rfl) ?_
        refine bd_zge (h1 := (by omega)) (tgt := 30) hx hb dX5_bits_23 (by decide) ?_
        refine lv_bipush (v := nI 24) hx hb dX5_bits_30 (by decide) ?_
        refine lv_iload_n hx hb dX5_bits_32 rfl (lv_at hl 0 rfl) ?_
        refine bd_imul (v := (nI (24 * j))) hx hb dX5_bits_33 (nI_mul _ _) ?_
        refine lv_istore_n (lv' := [(3, .int (nI (24 * j))), (2, .int (nI j)), (0, .ref (mo 0)), (1, .int (nI r))]) hx hb dX5_bits_34 rfl hl (by decide) rfl (fun ls hl => ?_)
        refine lv_iload_n hx hb dX5_bits_35 rfl (lv_at hl 1 rfl) ?_
        refine bd_zge (h1 := (by omega)) (tgt := 43) hx hb dX5_bits_36 (by decide) ?_
        refine lv_aload_n hx hb dX5_bits_43 rfl (lv_at hl 2 rfl) ?_
        refine lv_iload_n hx hb dX5_bits_44 rfl (lv_at hl 3 rfl) ?_
        refine lv_iload_n hx hb dX5_bits_45 rfl (lv_at hl 1 rfl) ?_
        refine bd_cip (As := [.int (nI r), .int (nI j)]) (rest := []) C (m5_at _ _ _ _ _ hm r j (by omega) (by omega)) (cwV 2 hts gX5_bits_X5_at rfl rfl rfl (by decide +kernel) ⟨Nat.le_of_ble_eq_true rfl, Nat.le_of_ble_eq_true rfl⟩) hsz hw (md_recv C hw hm) dX5_bits_46 rfl hl.1 rfl (Nat.le_of_ble_eq_true rfl) ⟨Nat.le_refl _, Nat.le_refl _⟩ (fun H locs hw => ?_)
        refine lv_istore (lv' := [(4, .int (nI (Fo r j))), (3, .int (nI (24 * j))), (2, .int (nI j)), (0, .ref (mo 0)), (1, .int (nI r))]) hx hb dX5_bits_49 hl (by decide) rfl (fun ls hl => ?_)
        suffices hloop : ∀ (d9 tp n : Nat) (ls : Array Slot) (H : Heap) (locs : List Loc), tp ≤ d9 → tp < 16777216 → n + q_bl tp = q_bl (h_s (Fo r) 34) → lv_has ls 5 [(4, .int (nI tp)), (3, .int (nI n)), (0, .ref (mo 0)), (1, .int (nI r))] → bd_W K E0 z0 (bd_A K sz) s.heap H locs → W p l e (headSpec wsX5_bits ({ frames := 1, cells := 0, slots := 0, locals := 30 })).room s m [.ref (mo 0), .int (nI r)].toArray below meth c H locs 0 0 (MQ below (va_Qi (fun v u => v = nI (q_bl (h_s (Fo r) 34)) ∧ u = (E0, z0)) (bd_B K) (bd_A K sz)) [.ref (mo 0), .int (nI r)].toArray s 0 0 (bd_A K sz)) (F0 m 51 ls []) from hloop (Fo r j) (Fo r j) (24 * j) ls _ _ (Nat.le_refl _) (hF j (by omega)) ((bl_top hF (by omega) (by omega) (fun m h1 h2 => hz m h1 h2)).symm) (lv_sub hl [0, 1, 3, 4] rfl) hw
        clear hw hl ls ih
        intro d9
        induction d9 using Nat.strongRecOn with
        | ind d9 ih2 =>
          intro tp n ls H locs htd htb htn hl hw
          refine lv_iload hx hb dX5_bits_51 (lv_at hl 0 rfl) ?_
          refine bd_zle (h1 := (by omega)) (tgt := 68) hx hb dX5_bits_53 (by decide) (fun hc53 => ?_) (fun hc53 => ?_)
          · refine lv_iload_n hx hb dX5_bits_68 rfl (lv_at hl 1 rfl) ?_
            exact bd_iret C hr hlk hw dX5_bits_69 ⟨by rw [← htn, hc53] <;> rfl, rfl⟩
          · refine lv_iinc (v := (nI (n + 1))) (lv' := [(3, .int (nI (n + 1))), (4, .int (nI tp)), (0, .ref (mo 0)), (1, .int (nI r))]) hx hb dX5_bits_56 hl (k := 1) rfl (nI_1 _) (by decide) rfl (fun ls hl => ?_)
            refine lv_iload hx hb dX5_bits_59 (lv_at hl 1 rfl) ?_
            refine lv_iconst (v := nI 1) hx hb dX5_bits_61 (by decide) ?_
            refine bd_ishr (v := (nI (tp / 2))) hx hb dX5_bits_62 (i_shn (k := 1) (by omega) (by decide)) ?_
            refine lv_istore (lv' := [(4, .int (nI (tp / 2))), (3, .int (nI (n + 1))), (0, .ref (mo 0)), (1, .int (nI r))]) hx hb dX5_bits_63 hl (by decide) rfl (fun ls hl => ?_)
            refine lv_goto (tgt := 51) hx hb dX5_bits_65 (by decide) ?_
            exact ih2 (d9 - 1) (by omega) (tp / 2) (n + 1) ls H locs (by omega) (by omega) (by rw [← htn, bl_half hc53]; omega) (lv_sub hl [0, 1, 2, 3] rfl) hw
      · refine lv_iinc (v := (nI j - nI 1)) (lv' := [(2, .int (nI j - nI 1)), (0, .ref (mo 0)), (1, .int (nI r))]) hx hb dX5_bits_16 hl (k := 0) rfl (bd_dec _) (by decide) rfl (fun ls hl => ?_)
        refine lv_goto (tgt := 3) hx hb dX5_bits_19 (by decide) ?_
        exact ih j (by omega) ls H locs (by omega) (fun m h1 h2 => (Nat.eq_or_lt_of_le h1).elim (fun q => by rw [← q]; exact hc13) (fun q => hz m q h2)) (lv_sub hl [0, 1, 2] rfl) hw
set_option maxHeartbeats 4000000 in
set_option maxRecDepth 100000 in
/-- sizes(a, b) -/
theorem m5_sizes (l : Launch) (K : Cxt) (E0 : Nat → va_E) (z0 : Nat → Wh) (sz : Nat) {mo : Nat → Nat} {th : Int32} {P : Nat} {Fo : Nat → Nat → Nat} {Go : Nat → Int32} {So Ro : Nat → Nat} (hm : md_at K E0 mo th P Fo Go So Ro) (ra rb : Nat) (ha60 : ra < 60) (hb60 : rb < 60) (hFa : ∀ j, j < 34 → Fo ra j < 16777216) (hFb : ∀ j, j < 34 → Fo rb j < 16777216) : Met l yX5_sizes wsX5_sizes ({ frames := 1, cells := 0, slots := 0, locals := 30 }) (va_Pc [.ref (mo 0), .int (nI ra), .int (nI rb)] (bd_P K E0 z0 sz)) (va_Qi (fun v u => v = q_c3 (h_s (Fo ra) 34) (h_s (Fo rb) 34) ∧ u = (E0, z0)) (bd_B K) (bd_A K sz)) 0 0 (bd_A K sz) := by
  refine bd_ofW (cc := cX5_sizes) (maxL := 4) (ret := (some .int)) (by decide) rfl (Nat.le_of_ble_eq_true rfl) ?_
  intro p e s m below meth c ls C hr hlk hsz hw hl
  have hx := C.1
  have hb := C.2.1
  have hown := C.2.2.2.1
  have hts := C.2.2.2.2.1
  have hl : lv_has ls 4 [(0, .ref (mo 0)), (1, .int (nI ra)), (2, .int (nI rb))] := hl
  obtain ⟨hP1, hP2⟩ := md_P hm
  refine lv_bipush (v := nI 33) hx hb dX5_sizes_0 (by decide) ?_
  refine lv_istore_n (lv' := [(3, .int (nI 33)), (0, .ref (mo 0)), (1, .int (nI ra)), (2, .int (nI rb))]) hx hb dX5_sizes_2 rfl hl (by decide) rfl (fun ls hl => ?_)
  suffices hloop : ∀ (k : Nat) (ls : Array Slot) (H : Heap) (locs : List Loc), k < 34 → (∀ m, k < m → m < 34 → Fo ra m = Fo rb m) → lv_has ls 4 [(3, .int (nI k)), (0, .ref (mo 0)), (1, .int (nI ra)), (2, .int (nI rb))] → bd_W K E0 z0 (bd_A K sz) s.heap H locs → W p l e (headSpec wsX5_sizes ({ frames := 1, cells := 0, slots := 0, locals := 30 })).room s m [.ref (mo 0), .int (nI ra), .int (nI rb)].toArray below meth c H locs 0 0 (MQ below (va_Qi (fun v u => v = q_c3 (h_s (Fo ra) 34) (h_s (Fo rb) 34) ∧ u = (E0, z0)) (bd_B K) (bd_A K sz)) [.ref (mo 0), .int (nI ra), .int (nI rb)].toArray s 0 0 (bd_A K sz)) (F0 m 3 ls []) from hloop 33 ls _ _ (by omega) (fun m h1 h2 => absurd h1 (by omega)) (lv_sub hl [0, 1, 2, 3] rfl) hw
  clear hw hl ls
  intro k
  induction k using Nat.strongRecOn with
  | ind k ih =>
    intro ls H locs hk heq hl hw
    refine lv_iload_n hx hb dX5_sizes_3 rfl (lv_at hl 0 rfl) ?_
    refine bd_zle (h1 := (by omega)) (tgt := 28) hx hb dX5_sizes_4 (by decide) (fun hc4 => ?_) (fun hc4 => ?_)
    · have h3 := c3_top hFa hFb hk heq (Or.inl hc4)
      refine lv_aload_n hx hb dX5_sizes_28 rfl (lv_at hl 1 rfl) ?_
      refine lv_iload_n hx hb dX5_sizes_29 rfl (lv_at hl 2 rfl) ?_
      refine lv_iload_n hx hb dX5_sizes_30 rfl (lv_at hl 0 rfl) ?_
      refine bd_cip (As := [.int (nI ra), .int (nI k)]) (rest := []) C (m5_at _ _ _ _ _ hm ra k (by omega) (by omega)) (cwV 2 hts gX5_sizes_X5_at rfl rfl rfl (by decide +kernel) ⟨Nat.le_of_ble_eq_true rfl, Nat.le_of_ble_eq_true rfl⟩) hsz hw (md_recv C hw hm) dX5_sizes_31 rfl hl.1 rfl (Nat.le_of_ble_eq_true rfl) ⟨Nat.le_refl _, Nat.le_refl _⟩ (fun H locs hw => ?_)
      refine lv_aload_n hx hb dX5_sizes_34 rfl (lv_at hl 1 rfl) ?_
      refine lv_iload_n hx hb dX5_sizes_35 rfl (lv_at hl 3 rfl) ?_
      refine lv_iload_n hx hb dX5_sizes_36 rfl (lv_at hl 0 rfl) ?_
      refine bd_cip (As := [.int (nI rb), .int (nI k)]) (rest := [.int (nI (Fo ra k))]) C (m5_at _ _ _ _ _ hm rb k (by omega) (by omega)) (cwV 2 hts gX5_sizes_X5_at rfl rfl rfl (by decide +kernel) ⟨Nat.le_of_ble_eq_true rfl, Nat.le_of_ble_eq_true rfl⟩) hsz hw (md_recv C hw hm) dX5_sizes_37 rfl hl.1 rfl (Nat.le_of_ble_eq_true rfl) ⟨Nat.le_refl _, Nat.le_refl _⟩ (fun H locs hw => ?_)
      refine bd_ile (h1 := (Nat.lt_of_lt_of_le (hFa k (by omega)) (by decide))) (h2 := (Nat.lt_of_lt_of_le (hFb k (by omega)) (by decide))) (tgt := 47) hx hb dX5_sizes_40 (by decide) (fun hc40 => ?_) (fun hc40 => ?_)
      · refine lv_aload_n hx hb dX5_sizes_47 rfl (lv_at hl 1 rfl) ?_
        refine lv_iload_n hx hb dX5_sizes_48 rfl (lv_at hl 2 rfl) ?_
        refine lv_iload_n hx hb dX5_sizes_49 rfl (lv_at hl 0 rfl) ?_
        refine bd_cip (As := [.int (nI ra), .int (nI k)]) (rest := []) C (m5_at _ _ _ _ _ hm ra k (by omega) (by omega)) (cwV 2 hts gX5_sizes_X5_at rfl rfl rfl (by decide +kernel) ⟨Nat.le_of_ble_eq_true rfl, Nat.le_of_ble_eq_true rfl⟩) hsz hw (md_recv C hw hm) dX5_sizes_50 rfl hl.1 rfl (Nat.le_of_ble_eq_true rfl) ⟨Nat.le_refl _, Nat.le_refl _⟩ (fun H locs hw => ?_)
        refine lv_aload_n hx hb dX5_sizes_53 rfl (lv_at hl 1 rfl) ?_
        refine lv_iload_n hx hb dX5_sizes_54 rfl (lv_at hl 3 rfl) ?_
        refine lv_iload_n hx hb dX5_sizes_55 rfl (lv_at hl 0 rfl) ?_
        refine bd_cip (As := [.int (nI rb), .int (nI k)]) (rest := [.int (nI (Fo ra k))]) C (m5_at _ _ _ _ _ hm rb k (by omega) (by omega)) (cwV 2 hts gX5_sizes_X5_at rfl rfl rfl (by decide +kernel) ⟨Nat.le_of_ble_eq_true rfl, Nat.le_of_ble_eq_true rfl⟩) hsz hw (md_recv C hw hm) dX5_sizes_56 rfl hl.1 rfl (Nat.le_of_ble_eq_true rfl) ⟨Nat.le_refl _, Nat.le_refl _⟩ (fun H locs hw => ?_)
        refine bd_ige (h1 := (Nat.lt_of_lt_of_le (hFa k (by omega)) (by decide))) (h2 := (Nat.lt_of_lt_of_le (hFb k (by omega)) (by decide))) (tgt := 66) hx hb dX5_sizes_59 (by decide) (fun hc59 => ?_) (fun hc59 => ?_)
        · refine lv_iconst (v := nI 0) hx hb dX5_sizes_66 (by decide) ?_
          exact bd_iret C hr hlk hw dX5_sizes_67 ⟨by rw [h3, q_c3_eq (Nat.le_antisymm hc40 hc59)] <;> rfl, rfl⟩
        · refine lv_iconst (v := (-1)) hx hb dX5_sizes_62 (by decide) ?_
          refine lv_goto (tgt := 67) hx hb dX5_sizes_63 (by decide) ?_
          exact bd_iret C hr hlk hw dX5_sizes_67 ⟨by rw [h3, q_c3_lt hc59] <;> rfl, rfl⟩
      · refine lv_iconst (v := nI 1) hx hb dX5_sizes_43 (by decide) ?_
        refine lv_goto (tgt := 67) hx hb dX5_sizes_44 (by decide) ?_
        exact bd_iret C hr hlk hw dX5_sizes_67 ⟨by rw [h3, q_c3_gt hc40] <;> rfl, rfl⟩
    · refine lv_aload_n hx hb dX5_sizes_7 rfl (lv_at hl 1 rfl) ?_
      refine lv_iload_n hx hb dX5_sizes_8 rfl (lv_at hl 2 rfl) ?_
      refine lv_iload_n hx hb dX5_sizes_9 rfl (lv_at hl 0 rfl) ?_
      refine bd_cip (As := [.int (nI ra), .int (nI k)]) (rest := []) C (m5_at _ _ _ _ _ hm ra k (by omega) (by omega)) (cwV 2 hts gX5_sizes_X5_at rfl rfl rfl (by decide +kernel) ⟨Nat.le_of_ble_eq_true rfl, Nat.le_of_ble_eq_true rfl⟩) hsz hw (md_recv C hw hm) dX5_sizes_10 rfl hl.1 rfl (Nat.le_of_ble_eq_true rfl) ⟨Nat.le_refl _, Nat.le_refl _⟩ (fun H locs hw => ?_)
      refine lv_aload_n hx hb dX5_sizes_13 rfl (lv_at hl 1 rfl) ?_
      refine lv_iload_n hx hb dX5_sizes_14 rfl (lv_at hl 3 rfl) ?_
      refine lv_iload_n hx hb dX5_sizes_15 rfl (lv_at hl 0 rfl) ?_
      refine bd_cip (As := [.int (nI rb), .int (nI k)]) (rest := [.int (nI (Fo ra k))]) C (m5_at _ _ _ _ _ hm rb k (by omega) (by omega)) (cwV 2 hts gX5_sizes_X5_at rfl rfl rfl (by decide +kernel) ⟨Nat.le_of_ble_eq_true rfl, Nat.le_of_ble_eq_true rfl⟩) hsz hw (md_recv C hw hm) dX5_sizes_16 rfl hl.1 rfl (Nat.le_of_ble_eq_true rfl) ⟨Nat.le_refl _, Nat.le_refl _⟩ (fun H locs hw => ?_)
      refine bd_ine (h1 := (Nat.lt_of_lt_of_le (hFa k (by omega)) (by decide))) (h2 := (Nat.lt_of_lt_of_le (hFb k (by omega)) (by decide))) (tgt := 28) hx hb dX5_sizes_19 (by decide) (fun hc19 => ?_) (fun hc19 => ?_)
      · have h3 := c3_top hFa hFb hk heq (Or.inr hc19)
        refine lv_aload_n hx hb dX5_sizes_28 rfl (lv_at hl 1 rfl) ?_
        refine lv_iload_n hx hb dX5_sizes_29 rfl (lv_at hl 2 rfl) ?_
        refine lv_iload_n hx hb dX5_sizes_30 rfl (lv_at hl 0 rfl) ?_
        refine bd_cip (As := [.int (nI ra), .int (nI k)]) (rest := []) C (m5_at _ _ _ _ _ hm ra k (by omega) (by omega)) (cwV 2 hts gX5_sizes_X5_at rfl rfl rfl (by decide +kernel) ⟨Nat.le_of_ble_eq_true rfl, Nat.le_of_ble_eq_true rfl⟩) hsz hw (md_recv C hw hm) dX5_sizes_31 rfl hl.1 rfl (Nat.le_of_ble_eq_true rfl) ⟨Nat.le_refl _, Nat.le_refl _⟩ (fun H locs hw => ?_)
        refine lv_aload_n hx hb dX5_sizes_34 rfl (lv_at hl 1 rfl) ?_
        refine lv_iload_n hx hb dX5_sizes_35 rfl (lv_at hl 3 rfl) ?_
        refine lv_iload_n hx hb dX5_sizes_36 rfl (lv_at hl 0 rfl) ?_
        refine bd_cip (As := [.int (nI rb), .int (nI k)]) (rest := [.int (nI (Fo ra k))]) C (m5_at _ _ _ _ _ hm rb k (by omega) (by omega)) (cwV 2 hts gX5_sizes_X5_at rfl rfl rfl (by decide +kernel) ⟨Nat.le_of_ble_eq_true rfl, Nat.le_of_ble_eq_true rfl⟩) hsz hw (md_recv C hw hm) dX5_sizes_37 rfl hl.1 rfl (Nat.le_of_ble_eq_true rfl) ⟨Nat.le_refl _, Nat.le_refl _⟩ (fun H locs hw => ?_)
        refine bd_ile (h1 := (Nat.lt_of_lt_of_le (hFa k (by omega)) (by decide))) (h2 := (Nat.lt_of_lt_of_le (hFb k (by omega)) (by decide))) (tgt := 47) hx hb dX5_sizes_40 (by decide) (fun hc40 => ?_) (fun hc40 => ?_)
        · refine lv_aload_n hx hb dX5_sizes_47 rfl (lv_at hl 1 rfl) ?_
          refine lv_iload_n hx hb dX5_sizes_48 rfl (lv_at hl 2 rfl) ?_
          refine lv_iload_n hx hb dX5_sizes_49 rfl (lv_at hl 0 rfl) ?_
          refine bd_cip (As := [.int (nI ra), .int (nI k)]) (rest := []) C (m5_at _ _ _ _ _ hm ra k (by omega) (by omega)) (cwV 2 hts gX5_sizes_X5_at rfl rfl rfl (by decide +kernel) ⟨Nat.le_of_ble_eq_true rfl, Nat.le_of_ble_eq_true rfl⟩) hsz hw (md_recv C hw hm) dX5_sizes_50 rfl hl.1 rfl (Nat.le_of_ble_eq_true rfl) ⟨Nat.le_refl _, Nat.le_refl _⟩ (fun H locs hw => ?_)
          refine lv_aload_n hx hb dX5_sizes_53 rfl (lv_at hl 1 rfl) ?_
          refine lv_iload_n hx hb dX5_sizes_54 rfl (lv_at hl 3 rfl) ?_
          refine lv_iload_n hx hb dX5_sizes_55 rfl (lv_at hl 0 rfl) ?_
          refine bd_cip (As := [.int (nI rb), .int (nI k)]) (rest := [.int (nI (Fo ra k))]) C (m5_at _ _ _ _ _ hm rb k (by omega) (by omega)) (cwV 2 hts gX5_sizes_X5_at rfl rfl rfl (by decide +kernel) ⟨Nat.le_of_ble_eq_true rfl, Nat.le_of_ble_eq_true rfl⟩) hsz hw (md_recv C hw hm) dX5_sizes_56 rfl hl.1 rfl (Nat.le_of_ble_eq_true rfl) ⟨Nat.le_refl _, Nat.le_refl _⟩ (fun H locs hw => ?_)
          refine bd_ige (h1 := (Nat.lt_of_lt_of_le (hFa k (by omega)) (by decide))) (h2 := (Nat.lt_of_lt_of_le (hFb k (by omega)) (by decide))) (tgt := 66) hx hb dX5_sizes_59 (by decide) (fun hc59 => ?_) (fun hc59 => ?_)
          · refine lv_iconst (v := nI 0) hx hb dX5_sizes_66 (by decide) ?_
            exact bd_iret C hr hlk hw dX5_sizes_67 ⟨by rw [h3, q_c3_eq (Nat.le_antisymm hc40 hc59)] <;> rfl, rfl⟩
          · refine lv_iconst (v := (-1)) hx hb dX5_sizes_62 (by decide) ?_
            refine lv_goto (tgt := 67) hx hb dX5_sizes_63 (by decide) ?_
            exact bd_iret C hr hlk hw dX5_sizes_67 ⟨by rw [h3, q_c3_lt hc59] <;> rfl, rfl⟩
        · refine lv_iconst (v := nI 1) hx hb dX5_sizes_43 (by decide) ?_
          refine lv_goto (tgt := 67) hx hb dX5_sizes_44 (by decide) ?_
          exact bd_iret C hr hlk hw dX5_sizes_67 ⟨by rw [h3, q_c3_gt hc40] <;> rfl, rfl⟩
      · refine lv_iinc (v := (nI (k - 1))) (lv' := [(3, .int (nI (k - 1))), (0, .ref (mo 0)), (1, .int (nI ra)), (2, .int (nI rb))]) hx hb dX5_sizes_22 hl (k := 0) rfl ((bd_dec _).trans (bd_sub1 hc4)) (by decide) rfl (fun ls hl => ?_)
        refine lv_goto (tgt := 3) hx hb dX5_sizes_25 (by decide) ?_
        exact ih (k - 1) (by omega) ls H locs (by omega) (fun m h1 h2 => (Nat.lt_or_ge k m).elim (fun q => heq m q h2) (fun q => by rw [show m = k by omega]; exact hc19)) (lv_sub hl [0, 1, 2, 3] rfl) hw
set_option maxHeartbeats 4000000 in
set_option maxRecDepth 100000 in
/-- compare(a, b) -/
theorem v5_compare (l : Launch) (K : Cxt) (E0 : Nat → va_E) (z0 : Nat → Wh) (sz : Nat) {mo : Nat → Nat} {th : Int32} {P : Nat} {rg0 : Nat → Int} (hv : md_v K E0 mo th P rg0) (ra rb : Nat) (ha60 : ra < 60) (hb60 : rb < 60) : Met l yX5_compare wsX5_compare ({ frames := 2, cells := 0, slots := 0, locals := 60 }) (va_Pc [.ref (mo 0), .int (nI ra), .int (nI rb)] (bd_P K E0 z0 sz)) (va_Qi (fun v u => v = q_i3 (rg0 ra) (rg0 rb) ∧ u = (E0, z0)) (bd_B K) (bd_A K sz)) 0 0 (bd_A K sz) := by
  refine bd_ofW (cc := cX5_compare) (maxL := 3) (ret := (some .int)) (by decide) rfl (Nat.le_of_ble_eq_true rfl) ?_
  intro p e s m below meth c ls C hr hlk hsz hw hl
  have hx := C.1
  have hb := C.2.1
  have hown := C.2.2.2.1
  have hts := C.2.2.2.2.1
  have i5 : ∀ w ∈ wsX50, w ∈ wsX5_compare := by decide +kernel
  have lk13 : Cond.fieldLink RX5 13 "BallDeskModel" "signs" "[I" ∈ wsX5_compare := by decide +kernel
  have hl : lv_has ls 3 [(0, .ref (mo 0)), (1, .int (nI ra)), (2, .int (nI rb))] := hl
  obtain ⟨Fo, Go, So, Ro, hm, hrg⟩ := hv
  obtain ⟨hP1, hP2⟩ := md_P hm
  obtain ⟨hFa, hva, hga⟩ := hrg ra ha60
  obtain ⟨hFb, hvb, hgb⟩ := hrg rb hb60
  refine lv_aload_n hx hb dX5_compare_0 rfl (lv_at hl 0 rfl) ?_
  refine md_g C i5 hw hm 4 (by decide) (v := .ref (mo 2)) rfl dX5_compare_1 lk13 ?_
  refine lv_iload_n hx hb dX5_compare_4 rfl (lv_at hl 1 rfl) ?_
  refine md_ld2 C hw hm dX5_compare_5 (by omega) ?_
  refine lv_aload_n hx hb dX5_compare_6 rfl (lv_at hl 0 rfl) ?_
  refine md_g C i5 hw hm 4 (by decide) (v := .ref (mo 2)) rfl dX5_compare_7 lk13 ?_
  refine lv_iload_n hx hb dX5_compare_10 rfl (lv_at hl 2 rfl) ?_
  refine md_ld2 C hw hm dX5_compare_11 (by omega) ?_
  refine lv_icmp_eq (tgt := 36) hx hb dX5_compare_12 (by decide) (fun hc12 => ?_) (fun hc12 => ?_)
  · refine lv_aload_n hx hb dX5_compare_36 rfl (lv_at hl 0 rfl) ?_
    refine md_g C i5 hw hm 4 (by decide) (v := .ref (mo 2)) rfl dX5_compare_37 lk13 ?_
    refine lv_iload_n hx hb dX5_compare_40 rfl (lv_at hl 1 rfl) ?_
    refine md_ld2 C hw hm dX5_compare_41 (by omega) ?_
    refine lv_aload_n hx hb dX5_compare_42 rfl (lv_at hl 0 rfl) ?_
    refine lv_iload_n hx hb dX5_compare_43 rfl (lv_at hl 1 rfl) ?_
    refine lv_iload_n hx hb dX5_compare_44 rfl (lv_at hl 2 rfl) ?_
    refine bd_cip (As := [.int (nI ra), .int (nI rb)]) (rest := [.int (Go ra)]) C (m5_sizes _ _ _ _ _ hm ra rb ha60 hb60 hFa hFb) (cwV 2 hts gX5_compare_X5_sizes rfl rfl rfl (by decide +kernel) ⟨Nat.le_of_ble_eq_true rfl, Nat.le_of_ble_eq_true rfl⟩) hsz hw (md_recv C hw hm) dX5_compare_45 rfl hl.1 rfl (Nat.le_of_ble_eq_true rfl) ⟨Nat.le_refl _, Nat.le_refl _⟩ (fun H locs hw => ?_)
    rw [hva, hvb, hga]
    refine bd_imul (v := (q_i3 (rg0 ra) (rg0 rb))) hx hb dX5_compare_48 (cmq_eq (by rw [hga, hgb] at hc12; exact hc12)) ?_
    exact bd_iret C hr hlk hw dX5_compare_49 (⟨rfl, rfl⟩)
  · refine lv_aload_n hx hb dX5_compare_15 rfl (lv_at hl 0 rfl) ?_
    refine md_g C i5 hw hm 4 (by decide) (v := .ref (mo 2)) rfl dX5_compare_16 lk13 ?_
    refine lv_iload_n hx hb dX5_compare_19 rfl (lv_at hl 1 rfl) ?_
    refine md_ld2 C hw hm dX5_compare_20 (by omega) ?_
    refine lv_aload_n hx hb dX5_compare_21 rfl (lv_at hl 0 rfl) ?_
    refine md_g C i5 hw hm 4 (by decide) (v := .ref (mo 2)) rfl dX5_compare_22 lk13 ?_
    refine lv_iload_n hx hb dX5_compare_25 rfl (lv_at hl 2 rfl) ?_
    refine md_ld2 C hw hm dX5_compare_26 (by omega) ?_
    refine lv_icmp_le (tgt := 34) hx hb dX5_compare_27 (by decide) (fun hc27 => ?_) (fun hc27 => ?_)
    · refine lv_iconst (v := (-1)) hx hb dX5_compare_34 (by decide) ?_
      exact bd_iret C hr hlk hw dX5_compare_35 ⟨by rw [cmq_le (by rw [← hga, ← hgb]; exact hc12) (by rw [← hga, ← hgb]; exact hc27)] <;> rfl, rfl⟩
    · refine lv_iconst (v := nI 1) hx hb dX5_compare_30 (by decide) ?_
      refine lv_goto (tgt := 35) hx hb dX5_compare_31 (by decide) ?_
      exact bd_iret C hr hlk hw dX5_compare_35 ⟨by rw [cmq_gt (by rw [← hga, ← hgb]; exact hc27)] <;> rfl, rfl⟩
/-- bits and sizes by values -/
theorem v5_bits (l : Launch) (K : Cxt) (E0 : Nat → va_E) (z0 : Nat → Wh) (sz : Nat) {mo : Nat → Nat} {th : Int32} {P : Nat} {rg0 : Nat → Int} (hv : md_v K E0 mo th P rg0) (r : Nat) (hr60 : r < 60) : Met l yX5_bits wsX5_bits ({ frames := 1, cells := 0, slots := 0, locals := 30 }) (va_Pc [.ref (mo 0), .int (nI r)] (bd_P K E0 z0 sz)) (va_Qi (fun v u => v = nI (q_bl (rg0 r).natAbs) ∧ u = (E0, z0)) (bd_B K) (bd_A K sz)) 0 0 (bd_A K sz) := by
  obtain ⟨F, G, S, R, hm, hi⟩ := hv
  have h := m5_bits l K E0 z0 sz hm r hr60 (hi r hr60).1
  rw [(hi r hr60).2.1] at h
  exact h
theorem v5_sizes (l : Launch) (K : Cxt) (E0 : Nat → va_E) (z0 : Nat → Wh) (sz : Nat) {mo : Nat → Nat} {th : Int32} {P : Nat} {rg0 : Nat → Int} (hv : md_v K E0 mo th P rg0) (ra rb : Nat) (ha60 : ra < 60) (hb60 : rb < 60) : Met l yX5_sizes wsX5_sizes ({ frames := 1, cells := 0, slots := 0, locals := 30 }) (va_Pc [.ref (mo 0), .int (nI ra), .int (nI rb)] (bd_P K E0 z0 sz)) (va_Qi (fun v u => v = q_c3 (rg0 ra).natAbs (rg0 rb).natAbs ∧ u = (E0, z0)) (bd_B K) (bd_A K sz)) 0 0 (bd_A K sz) := by
  obtain ⟨F, G, S, R, hm, hi⟩ := hv
  have h := m5_sizes l K E0 z0 sz hm ra rb ha60 hb60 (hi ra ha60).1 (hi rb hb60).1
  rw [(hi ra ha60).2.1, (hi rb hb60).2.1] at h
  exact h
