/-! Whole: orderWithoutSign, at (laid by wip/gen/m_whole3.py) -/
set_option maxHeartbeats 4000000 in
set_option maxRecDepth 100000 in
/-- Whole.orderWithoutSign -/
theorem c3_ows (l : Launch) (K : Cxt) (E : Nat → va_E) (z0 : Nat → Wh) (sz h : Nat) (x : Nat) (hh : h ∈ bd_N K) (hmx : x ∈ bd_N K) {n nx : Nat} {g gx : Int32} {f fx : Nat → Nat} (hz : z0 h = (n, g, f)) (hzx : z0 x = (nx, gx, fx)) (h24 : n ≤ 24) (h24x : nx ≤ 24) (hf : q_r f) (hfx : q_r fx) (ht : bd_tp n f) (htx : bd_tp nx fx) : Met l yX3_orderWithoutSign wsX3_orderWithoutSign ({ frames := 1, cells := 0, slots := 0, locals := 30 }) (va_Pc [.ref h, .ref x] (bd_P K E z0 sz)) (va_Qi (fun r u => r = q_c3 (q_s f n) (q_s fx nx) ∧ u = (E, z0)) (bd_B K) (bd_A K sz)) 0 0 (bd_A K sz) := by
  refine bd_ofW (cc := cX3_orderWithoutSign) (maxL := 3) (ret := (some .int)) (by decide) rfl (Nat.le_of_ble_eq_true rfl) ?_
  intro p e s m below meth c ls C hr hlk hsz hw hl
  have hx := C.1
  have hb := C.2.1
  have hown := C.2.2.2.1
  have hts := C.2.2.2.2.1
  have i3 : ∀ w ∈ wsX30, w ∈ wsX3_orderWithoutSign := by decide +kernel
  have lk17 : Cond.fieldLink RX3 17 "BallDesk$Whole" "size" "I" ∈ wsX3_orderWithoutSign := by decide +kernel
  have lk9 : Cond.fieldLink RX3 9 "BallDesk$Whole" "row" "[J" ∈ wsX3_orderWithoutSign := by decide +kernel
  have ho : ∀ b, b ≠ h → z0 b = z0 b := fun _ _ => rfl
  have hl : lv_has ls 3 [(0, .ref h), (1, .ref x)] := hl
  refine lv_aload_n hx hb dX3_orderWithoutSign_0 rfl (lv_at hl 0 rfl) ?_
  refine bd_gsz C i3 hw hh hz dX3_orderWithoutSign_1 lk17 ?_
  refine lv_aload_n hx hb dX3_orderWithoutSign_4 rfl (lv_at hl 1 rfl) ?_
  refine bd_gsz C i3 hw hmx hzx dX3_orderWithoutSign_5 lk17 ?_
  refine bd_ieq (h1 := (by omega)) (h2 := (by omega)) (tgt := 23) hx hb dX3_orderWithoutSign_8 (by decide) (fun hc8 => ?_) (fun hc8 => ?_)
  · subst hc8
    refine lv_aload_n hx hb dX3_orderWithoutSign_23 rfl (lv_at hl 0 rfl) ?_
    refine bd_gsz C i3 hw hh hz dX3_orderWithoutSign_24 lk17 ?_
    refine lv_iconst (v := nI 1) hx hb dX3_orderWithoutSign_27 (by decide) ?_
    refine bd_isub (v := (nI n - nI 1)) hx hb dX3_orderWithoutSign_28 (rfl) ?_
    refine lv_istore_n (lv' := [(2, .int (nI n - nI 1)), (0, .ref h), (1, .ref x)]) hx hb dX3_orderWithoutSign_29 rfl hl (by decide) rfl (fun ls hl => ?_)
    suffices hloop : ∀ (k : Nat) (ls : Array Slot) (H : Heap) (locs : List Loc), k ≤ n → (∀ j, k ≤ j → j < n → f j = fx j) → lv_has ls 3 [(2, .int (nI k - nI 1)), (0, .ref h), (1, .ref x)] → bd_W K E z0 (bd_A K sz) s.heap H locs → W p l e (headSpec wsX3_orderWithoutSign ({ frames := 1, cells := 0, slots := 0, locals := 30 })).room s m [.ref h, .ref x].toArray below meth c H locs 0 0 (MQ below (va_Qi (fun r u => r = q_c3 (q_s f n) (q_s fx n) ∧ u = (E, z0)) (bd_B K) (bd_A K sz)) [.ref h, .ref x].toArray s 0 0 (bd_A K sz)) (F0 m 30 ls []) from hloop n ls _ _ (Nat.le_refl n) (fun j h1 h2 => absurd h1 (by omega)) hl hw
    clear hw hl ls
    intro k
    induction k using Nat.strongRecOn with
    | ind k ih =>
      intro ls H locs hk he hl hw
      refine lv_iload_n hx hb dX3_orderWithoutSign_30 rfl (lv_at hl 0 rfl) ?_
      refine bd_dlt (h1 := (by omega)) (tgt := 72) hx hb dX3_orderWithoutSign_31 (by decide) (fun hc31 => ?_) (fun hc31 => ?_)
      · refine lv_iconst (v := 0) hx hb dX3_orderWithoutSign_72 (by decide) ?_
        exact bd_iret C hr hlk hw dX3_orderWithoutSign_73 (⟨(q_c3_eq (q_cg (fun j hj => he j (by omega) hj))).symm, rfl⟩)
      · rw [bd_sub1 hc31] at hl
        refine lv_aload_n hx hb dX3_orderWithoutSign_34 rfl (lv_at hl 1 rfl) ?_
        refine bd_grw C i3 hw hh hz dX3_orderWithoutSign_35 lk9 ?_
        refine lv_iload_n hx hb dX3_orderWithoutSign_38 rfl (lv_at hl 0 rfl) ?_
        refine bd_ald C hw hh hz dX3_orderWithoutSign_39 (by omega) ?_
        refine lv_aload_n hx hb dX3_orderWithoutSign_40 rfl (lv_at hl 2 rfl) ?_
        refine bd_grw C i3 hw hmx hzx dX3_orderWithoutSign_41 lk9 ?_
        refine lv_iload_n hx hb dX3_orderWithoutSign_44 rfl (lv_at hl 0 rfl) ?_
        refine bd_ald C hw hmx hzx dX3_orderWithoutSign_45 (by omega) ?_
        refine bd_leq (h1 := (q_r63 hf (by omega))) (h2 := (q_r63 hfx (by omega))) (tgt := 66) hx hb dX3_orderWithoutSign_46 dX3_orderWithoutSign_47 (by decide) (fun hc46 => ?_) (fun hc46 => ?_)
        · refine lv_iinc (v := (nI (k - 1) - nI 1)) (lv' := [(2, .int (nI (k - 1) - nI 1)), (0, .ref h), (1, .ref x)]) hx hb dX3_orderWithoutSign_66 hl (k := 0) rfl (bd_dec _) (by decide) rfl (fun ls hl => ?_)
          refine lv_goto (tgt := 30) hx hb dX3_orderWithoutSign_69 (by decide) ?_
          exact ih (k - 1) (by omega) ls H locs (by omega) (fun j h1 h2 => (Nat.eq_or_lt_of_le h1).elim (fun q => by rw [← q]; exact hc46) (fun q => he j (by omega) h2)) (lv_sub hl [0, 1, 2] rfl) hw
        · refine lv_aload_n hx hb dX3_orderWithoutSign_50 rfl (lv_at hl 1 rfl) ?_
          refine bd_grw C i3 hw hh hz dX3_orderWithoutSign_51 lk9 ?_
          refine lv_iload_n hx hb dX3_orderWithoutSign_54 rfl (lv_at hl 0 rfl) ?_
          refine bd_ald C hw hh hz dX3_orderWithoutSign_55 (by omega) ?_
          refine lv_aload_n hx hb dX3_orderWithoutSign_56 rfl (lv_at hl 2 rfl) ?_
          refine bd_grw C i3 hw hmx hzx dX3_orderWithoutSign_57 lk9 ?_
          refine lv_iload_n hx hb dX3_orderWithoutSign_60 rfl (lv_at hl 0 rfl) ?_
          refine bd_ald C hw hmx hzx dX3_orderWithoutSign_61 (by omega) ?_
          refine bd_sip (As := [.long (lN (f (k - 1))), .long (lN (fx (k - 1)))]) (rest := []) C (cJ_cmpL _ _ _ _ _ 0 (f (k - 1)) (fx (k - 1)) (q_r63 hf (by omega)) (q_r63 hfx (by omega))) (va_cwS 2 hts gX3_orderWithoutSign_J13_compare_74951 rfl rfl rfl (by decide +kernel) ⟨Nat.le_of_ble_eq_true rfl, Nat.le_of_ble_eq_true rfl⟩) hsz hw dX3_orderWithoutSign_62 rfl hl.1 rfl (by decide) ⟨Nat.le_refl _, Nat.le_refl _⟩ (fun H locs hw => ?_)
          exact bd_iret C hr hlk hw dX3_orderWithoutSign_65 (⟨q_c3_top (q_r_ok hf h24) (q_r_ok hfx h24) (by omega) (fun j h1 h2 => he j (by omega) h2) hc46, rfl⟩)
  · refine lv_aload_n hx hb dX3_orderWithoutSign_11 rfl (lv_at hl 0 rfl) ?_
    refine bd_gsz C i3 hw hh hz dX3_orderWithoutSign_12 lk17 ?_
    refine lv_aload_n hx hb dX3_orderWithoutSign_15 rfl (lv_at hl 1 rfl) ?_
    refine bd_gsz C i3 hw hmx hzx dX3_orderWithoutSign_16 lk17 ?_
    refine bd_sip (As := [.int (nI n), .int (nI nx)]) (rest := []) C (cJ_cmpI _ _ _ _ _ 0 (nI n) (nI nx)) (va_cwS 2 hts gX3_orderWithoutSign_J6_compare_7cf53 rfl rfl rfl (by decide +kernel) ⟨Nat.le_of_ble_eq_true rfl, Nat.le_of_ble_eq_true rfl⟩) hsz hw dX3_orderWithoutSign_19 rfl hl.1 rfl (by decide) ⟨Nat.le_refl _, Nat.le_refl _⟩ (fun H locs hw => ?_)
    exact bd_iret C hr hlk hw dX3_orderWithoutSign_22 (⟨q_c3_sz (q_r_ok hf h24) (q_r_ok hfx h24x) ht htx (by omega) (by omega) hc8, rfl⟩)
set_option maxHeartbeats 4000000 in
set_option maxRecDepth 100000 in
/-- Whole.at(i) -/
theorem c3_at (l : Launch) (K : Cxt) (E : Nat → va_E) (z0 : Nat → Wh) (sz h : Nat) (i : Nat) (hh : h ∈ bd_N K) {n : Nat} {g : Int32} {f : Nat → Nat} (hz : z0 h = (n, g, f)) (h24 : n ≤ 24) (hi : i < 2 ^ 31) : Met l yX3_at wsX3_at ({ frames := 0, cells := 0, slots := 0, locals := 0 }) (va_Pc [.ref h, .int (nI i)] (bd_P K E z0 sz)) (va_Ql (fun r u => r = lN (q_at n f (i : Int)) ∧ u = (E, z0)) (bd_B K) (bd_A K sz)) 0 0 (bd_A K sz) := by
  refine bd_ofW (cc := cX3_at) (maxL := 2) (ret := (some .long)) (by decide) rfl (Nat.le_of_ble_eq_true rfl) ?_
  intro p e s m below meth c ls C hr hlk hsz hw hl
  have hx := C.1
  have hb := C.2.1
  have hown := C.2.2.2.1
  have hts := C.2.2.2.2.1
  have i3 : ∀ w ∈ wsX30, w ∈ wsX3_at := by decide +kernel
  have lk17 : Cond.fieldLink RX3 17 "BallDesk$Whole" "size" "I" ∈ wsX3_at := by decide +kernel
  have lk9 : Cond.fieldLink RX3 9 "BallDesk$Whole" "row" "[J" ∈ wsX3_at := by decide +kernel
  have ho : ∀ b, b ≠ h → z0 b = z0 b := fun _ _ => rfl
  have hl : lv_has ls 2 [(0, .ref h), (1, .int (nI i))] := hl
  refine lv_iload_n hx hb dX3_at_0 rfl (lv_at hl 1 rfl) ?_
  refine bd_zlt (h1 := hi) hx hb dX3_at_1 (tgt := 21) (by decide) ?_
  refine lv_iload_n hx hb dX3_at_4 rfl (lv_at hl 1 rfl) ?_
  refine lv_aload_n hx hb dX3_at_5 rfl (lv_at hl 0 rfl) ?_
  refine bd_gsz C i3 hw hh hz dX3_at_6 lk17 ?_
  refine bd_ige (h1 := (by omega)) (h2 := (by omega)) (tgt := 21) hx hb dX3_at_9 (by decide) (fun hc9 => ?_) (fun hc9 => ?_)
  · refine lv_lconst (v := lN 0) hx hb dX3_at_21 rfl ?_
    exact bd_lret C hr hlk hw dX3_at_22 ⟨by unfold q_at; rw [if_neg (by omega)], rfl⟩
  · refine lv_aload_n hx hb dX3_at_12 rfl (lv_at hl 0 rfl) ?_
    refine bd_grw C i3 hw hh hz dX3_at_13 lk9 ?_
    refine lv_iload_n hx hb dX3_at_16 rfl (lv_at hl 1 rfl) ?_
    refine bd_ald C hw hh hz dX3_at_17 (by omega) ?_
    refine lv_goto (tgt := 22) hx hb dX3_at_18 (by decide) ?_
    exact bd_lret C hr hlk hw dX3_at_22 ⟨by rw [bd_at_in hc9], rfl⟩
set_option maxHeartbeats 4000000 in
set_option maxRecDepth 100000 in
/-- Whole.at(i), i below 0 -/
theorem c3_atneg (l : Launch) (K : Cxt) (E : Nat → va_E) (z0 : Nat → Wh) (sz h : Nat) (i : Int32) (hh : h ∈ bd_N K) {n : Nat} {g : Int32} {f : Nat → Nat} (hz : z0 h = (n, g, f)) (hi : i < 0) : Met l yX3_at wsX3_at ({ frames := 0, cells := 0, slots := 0, locals := 0 }) (va_Pc [.ref h, .int i] (bd_P K E z0 sz)) (va_Ql (fun r u => r = lN 0 ∧ u = (E, z0)) (bd_B K) (bd_A K sz)) 0 0 (bd_A K sz) := by
  refine bd_ofW (cc := cX3_at) (maxL := 2) (ret := (some .long)) (by decide) rfl (Nat.le_of_ble_eq_true rfl) ?_
  intro p e s m below meth c ls C hr hlk hsz hw hl
  have hx := C.1
  have hb := C.2.1
  have hown := C.2.2.2.1
  have hts := C.2.2.2.2.1
  have ho : ∀ b, b ≠ h → z0 b = z0 b := fun _ _ => rfl
  have hl : lv_has ls 2 [(0, .ref h), (1, .int i)] := hl
  refine lv_iload_n hx hb dX3_at_0 rfl (lv_at hl 1 rfl) ?_
  refine lv_if_lt (tgt := 21) hx hb dX3_at_1 (by decide) (fun hc1 => ?_) (fun hc1 => ?_)
  · refine lv_lconst (v := lN 0) hx hb dX3_at_21 rfl ?_
    exact bd_lret C hr hlk hw dX3_at_22 ⟨rfl, rfl⟩
  · exact absurd hi hc1
