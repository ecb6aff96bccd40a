/-! Ball, isPlace (laid by wip/gen/m_desk1.py) -/
set_option maxHeartbeats 4000000 in
set_option maxRecDepth 100000 in
/-- Ball.become -/
theorem c0_become (l : Launch) (K : Cxt) (E0 : Nat → va_E) (z0 : Nat → Wh) (sz : Nat) {sg0 : Nat → Int} (hS : sg_S K z0 sg0) (q x y q2 x2 y2 : Nat) (h1 : bl_at K E0 q x y) (h2 : bl_at K E0 q2 x2 y2) (hmx : x ∈ bd_N K) (hmy : y ∈ bd_N K) (hmx2 : x2 ∈ bd_N K) (hmy2 : y2 ∈ bd_N K) (hne : y2 ≠ x) (hxy : x ≠ y) : Met l yX0_become wsX0_become ({ frames := 2, cells := 0, slots := 0, locals := 80 }) (va_Pc [.ref q, .ref q2] (bd_P K E0 z0 sz)) (va_Qv (fun u => u.1 = E0 ∧ ∃ sg1 : Nat → Int, sg_S K u.2 sg1 ∧ sg1 x = sg0 x2 ∧ sg1 y = sg0 y2 ∧ ∀ b, b ≠ x → b ≠ y → sg1 b = sg0 b) (bd_B K) (bd_A K sz)) 0 0 (bd_A K sz) := by
  refine bd_ofW (cc := cX0_become) (maxL := 2) (ret := none) (by decide) rfl (Nat.le_of_ble_eq_true rfl) ?_
  intro p e s m below meth c ls C hr hlk hsz hw hl
  have hx := C.1
  have hb := C.2.1
  have hown := C.2.2.2.1
  have hts := C.2.2.2.2.1
  have ib0 : ∀ w ∈ wsX00, w ∈ wsX0_become := by decide +kernel
  have lk10 : Cond.fieldLink RX0 10 "BallDesk$Ball" "middle" "LBallDesk$Whole;" ∈ wsX0_become := by decide +kernel
  have lk16 : Cond.fieldLink RX0 16 "BallDesk$Ball" "radius" "LBallDesk$Whole;" ∈ wsX0_become := by decide +kernel
  have hl : lv_has ls 2 [(0, .ref q), (1, .ref q2)] := hl
  refine lv_aload_n hx hb dX0_become_0 rfl (lv_at hl 0 rfl) ?_
  refine bl_gm C ib0 hw h1 dX0_become_1 lk10 ?_
  refine lv_aload_n hx hb dX0_become_4 rfl (lv_at hl 1 rfl) ?_
  refine bl_gm C ib0 hw h2 dX0_become_5 lk10 ?_
  refine sv_v (As := [.ref x2]) (rest := []) C (v3_become_ _ _ _ _ _ hS x x2 hmx hmx2) (cwV 1 hts gX0_become_X3_become_ rfl rfl rfl (by decide +kernel) ⟨Nat.le_of_ble_eq_true rfl, Nat.le_of_ble_eq_true rfl⟩) hsz hw (bd_recv C hw hmx) dX0_become_8 rfl hl.1 rfl (Nat.le_of_ble_eq_true rfl) ⟨Nat.le_refl _, Nat.le_refl _⟩ (fun z sg H locs hv8 hf8 hS hw => ?_)
  refine lv_aload_n hx hb dX0_become_11 rfl (lv_at hl 0 rfl) ?_
  refine bl_gr C ib0 hw h1 dX0_become_12 lk16 ?_
  refine lv_aload_n hx hb dX0_become_15 rfl (lv_at hl 1 rfl) ?_
  refine bl_gr C ib0 hw h2 dX0_become_16 lk16 ?_
  refine sv_v (As := [.ref y2]) (rest := []) C (v3_become_ _ _ _ _ _ hS y y2 hmy hmy2) (cwV 1 hts gX0_become_X3_become_ rfl rfl rfl (by decide +kernel) ⟨Nat.le_of_ble_eq_true rfl, Nat.le_of_ble_eq_true rfl⟩) hsz hw (bd_recv C hw hmy) dX0_become_19 rfl hl.1 rfl (Nat.le_of_ble_eq_true rfl) ⟨Nat.le_refl _, Nat.le_refl _⟩ (fun z sg H locs hv9 hf9 hS hw => ?_)
  exact bd_vret C hr hlk hw dX0_become_22 ⟨rfl, sg, hS, (hf9 x hxy).trans hv8, hv9.trans (hf8 y2 hne), fun b a1 a2 => (hf9 b a2).trans (hf8 b a1)⟩
set_option maxHeartbeats 4000000 in
set_option maxRecDepth 100000 in
/-- Ball.isWithin -/
theorem c0_isWithin (l : Launch) (K : Cxt) (E0 : Nat → va_E) (z0 : Nat → Wh) (sz : Nat) {sg0 : Nat → Int} (hS : sg_S K z0 sg0) (q x y t : Nat) (h1 : bl_at K E0 q x y) (hmx : x ∈ bd_N K) (hmy : y ∈ bd_N K) (hmt : t ∈ bd_N K) : Met l yX0_isWithin wsX0_isWithin ({ frames := 2, cells := 0, slots := 0, locals := 70 }) (va_Pc [.ref q, .ref t] (bd_P K E0 z0 sz)) (va_Qi (fun r u => r = (if (sg0 x).natAbs ≤ (sg0 t).natAbs ∧ 0 ≤ sg0 y ∧ (sg0 y).natAbs ≤ (sg0 t).natAbs then 1 else 0) ∧ u = (E0, z0)) (bd_B K) (bd_A K sz)) 0 0 (bd_A K sz) := by
  refine bd_ofW (cc := cX0_isWithin) (maxL := 2) (ret := (some .boolean)) (by decide) rfl (Nat.le_of_ble_eq_true rfl) ?_
  intro p e s m below meth c ls C hr hlk hsz hw hl
  have hx := C.1
  have hb := C.2.1
  have hown := C.2.2.2.1
  have hts := C.2.2.2.2.1
  have ib0 : ∀ w ∈ wsX00, w ∈ wsX0_isWithin := by decide +kernel
  have lk10 : Cond.fieldLink RX0 10 "BallDesk$Ball" "middle" "LBallDesk$Whole;" ∈ wsX0_isWithin := by decide +kernel
  have lk16 : Cond.fieldLink RX0 16 "BallDesk$Ball" "radius" "LBallDesk$Whole;" ∈ wsX0_isWithin := by decide +kernel
  have hl : lv_has ls 2 [(0, .ref q), (1, .ref t)] := hl
  refine lv_aload_n hx hb dX0_isWithin_0 rfl (lv_at hl 0 rfl) ?_
  refine bl_gm C ib0 hw h1 dX0_isWithin_1 lk10 ?_
  refine lv_aload_n hx hb dX0_isWithin_4 rfl (lv_at hl 1 rfl) ?_
  refine bd_cip (As := [.ref t]) (rest := []) C (v3_ows _ _ _ _ _ hS x t hmx hmt) (cwV 1 hts gX0_isWithin_X3_orderWithoutSign rfl rfl rfl (by decide +kernel) ⟨Nat.le_of_ble_eq_true rfl, Nat.le_of_ble_eq_true rfl⟩) hsz hw (bd_recv C hw hmx) dX0_isWithin_5 rfl hl.1 rfl (Nat.le_of_ble_eq_true rfl) ⟨Nat.le_refl _, Nat.le_refl _⟩ (fun H locs hw => ?_)
  refine lv_if_gt (tgt := 36) hx hb dX0_isWithin_8 (by decide) (fun hc8 => ?_) (fun hc8 => ?_)
  · rw [q3_c] at hc8
    refine lv_iconst (v := nI 0) hx hb dX0_isWithin_36 (by decide) ?_
    exact bd_zret C hr hlk hw dX0_isWithin_37 (Or.inl rfl) ⟨(if_neg (fun q => absurd (q3_gt.mp hc8) (by omega))).symm, rfl⟩
  · have hA := Int.not_lt.mp (fun q => hc8 (by rw [q3_c]; exact q3_gt.mpr q))
    refine lv_aload_n hx hb dX0_isWithin_11 rfl (lv_at hl 0 rfl) ?_
    refine bl_gr C ib0 hw h1 dX0_isWithin_12 lk16 ?_
    refine bd_cip (As := []) (rest := []) C (v3_sign _ _ _ _ _ hS y hmy) (cwV 0 hts gX0_isWithin_X3_sign rfl rfl rfl (by decide +kernel) ⟨Nat.le_of_ble_eq_true rfl, Nat.le_of_ble_eq_true rfl⟩) hsz hw (bd_recv C hw hmy) dX0_isWithin_15 rfl hl.1 rfl (Nat.le_of_ble_eq_true rfl) ⟨Nat.le_refl _, Nat.le_refl _⟩ (fun H locs hw => ?_)
    refine lv_if_lt (tgt := 36) hx hb dX0_isWithin_18 (by decide) (fun hc18 => ?_) (fun hc18 => ?_)
    · have hB := q3_lt.mp hc18
      refine lv_iconst (v := nI 0) hx hb dX0_isWithin_36 (by decide) ?_
      exact bd_zret C hr hlk hw dX0_isWithin_37 (Or.inl rfl) ⟨(if_neg (fun q => absurd q.2.1 (Int.not_le.mpr hB))).symm, rfl⟩
    · have hB := Int.not_lt.mp (fun q => hc18 (q3_lt.mpr q))
      refine lv_aload_n hx hb dX0_isWithin_21 rfl (lv_at hl 0 rfl) ?_
      refine bl_gr C ib0 hw h1 dX0_isWithin_22 lk16 ?_
      refine lv_aload_n hx hb dX0_isWithin_25 rfl (lv_at hl 1 rfl) ?_
      refine bd_cip (As := [.ref t]) (rest := []) C (v3_ows _ _ _ _ _ hS y t hmy hmt) (cwV 1 hts gX0_isWithin_X3_orderWithoutSign rfl rfl rfl (by decide +kernel) ⟨Nat.le_of_ble_eq_true rfl, Nat.le_of_ble_eq_true rfl⟩) hsz hw (bd_recv C hw hmy) dX0_isWithin_26 rfl hl.1 rfl (Nat.le_of_ble_eq_true rfl) ⟨Nat.le_refl _, Nat.le_refl _⟩ (fun H locs hw => ?_)
      refine lv_if_gt (tgt := 36) hx hb dX0_isWithin_29 (by decide) (fun hc29 => ?_) (fun hc29 => ?_)
      · rw [q3_c] at hc29
        refine lv_iconst (v := nI 0) hx hb dX0_isWithin_36 (by decide) ?_
        exact bd_zret C hr hlk hw dX0_isWithin_37 (Or.inl rfl) ⟨(if_neg (fun q => absurd (q3_gt.mp hc29) (by omega))).symm, rfl⟩
      · have hC := Int.not_lt.mp (fun q => hc29 (by rw [q3_c]; exact q3_gt.mpr q))
        refine lv_iconst (v := nI 1) hx hb dX0_isWithin_32 (by decide) ?_
        refine lv_goto (tgt := 37) hx hb dX0_isWithin_33 (by decide) ?_
        exact bd_zret C hr hlk hw dX0_isWithin_37 (Or.inr rfl) ⟨(if_pos ⟨by omega, by omega, by omega⟩).symm, rfl⟩
set_option maxHeartbeats 4000000 in
set_option maxRecDepth 100000 in
/-- BallDesk.isPlace -/
theorem c4_isPlace (l : Launch) (K : Cxt) (E0 : Nat → va_E) (z0 : Nat → Wh) (sz : Nat) (k : Int32) : Met l yX4_isPlace wsX4_isPlace ({ frames := 0, cells := 0, slots := 0, locals := 0 }) (va_Pc [.int k] (bd_P K E0 z0 sz)) (va_Qi (fun r u => r = pl_i k ∧ u = (E0, z0)) (bd_B K) (bd_A K sz)) 0 0 (bd_A K sz) := by
  refine bd_ofW (cc := cX4_isPlace) (maxL := 1) (ret := (some .boolean)) (by decide) rfl (Nat.le_of_ble_eq_true rfl) ?_
  intro p e s m below meth c ls C hr hlk hsz hw hl
  have hx := C.1
  have hb := C.2.1
  have hown := C.2.2.2.1
  have hts := C.2.2.2.2.1
  have hl : lv_has ls 1 [(0, .int k)] := hl
  refine lv_iload_n hx hb dX4_isPlace_0 rfl (lv_at hl 0 rfl) ?_
  refine lv_if_lt (tgt := 14) hx hb dX4_isPlace_1 (by decide) (fun hc1 => ?_) (fun hc1 => ?_)
  · have hno : ¬ dk_pl k := fun q => absurd q.1 (by have h0 := Int32.lt_iff_toInt_lt.mp hc1; rw [i0] at h0; omega)
    refine lv_iconst (v := nI 0) hx hb dX4_isPlace_14 (by decide) ?_
    exact bd_zret C hr hlk hw dX4_isPlace_15 (Or.inl rfl) ⟨(if_neg hno).symm, rfl⟩
  · have hge : 0 ≤ k.toInt := by have h0 : ¬ k.toInt < (0 : Int32).toInt := fun q => hc1 (Int32.lt_iff_toInt_lt.mpr q); rw [i0] at h0; omega
    refine lv_iload_n hx hb dX4_isPlace_4 rfl (lv_at hl 0 rfl) ?_
    refine lv_bipush (v := nI 12) hx hb dX4_isPlace_5 (by decide) ?_
    refine lv_icmp_ge (tgt := 14) hx hb dX4_isPlace_7 (by decide) (fun hc7 => ?_) (fun hc7 => ?_)
    · have hno : ¬ dk_pl k := fun q => absurd q.2 (by have h0 := Int32.le_iff_toInt_le.mp hc7; rw [nI_toInt (by decide)] at h0; omega)
      refine lv_iconst (v := nI 0) hx hb dX4_isPlace_14 (by decide) ?_
      exact bd_zret C hr hlk hw dX4_isPlace_15 (Or.inl rfl) ⟨(if_neg hno).symm, rfl⟩
    · have hyes : dk_pl k := ⟨hge, by have h0 : ¬ (nI 12).toInt ≤ k.toInt := fun q => hc7 (Int32.le_iff_toInt_le.mpr q); rw [nI_toInt (by decide)] at h0; omega⟩
      refine lv_iconst (v := nI 1) hx hb dX4_isPlace_10 (by decide) ?_
      refine lv_goto (tgt := 15) hx hb dX4_isPlace_11 (by decide) ?_
      exact bd_zret C hr hlk hw dX4_isPlace_15 (Or.inr rfl) ⟨(if_pos hyes).symm, rfl⟩
