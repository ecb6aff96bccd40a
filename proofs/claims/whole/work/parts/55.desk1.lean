/-! BallDesk: change, ends (laid by wip/gen/m_desk2.py) -/
theorem i64_b (x : Int64) : x.toInt.natAbs ≤ 2 ^ 63 := by
  have h1 := Int64.toInt_lt x
  have h2 := Int64.le_toInt x
  omega
set_option maxHeartbeats 4000000 in
set_option maxRecDepth 100000 in
/-- BallDesk.X4_change -/
theorem c4_change (l : Launch) (K : Cxt) (E0 : Nat → va_E) (z0 : Nat → Wh) (sz : Nat) {P : Nat} {a B : Nat → Nat} (hbk : bk_at K E0 P a B) {sg0 : Nat → Int} (hS : sg_S K z0 sg0) (t : Nat) (x : Int64) (ht : t < 42) (ht5 : t ≠ 5) (hb1 : (sg0 (B t)).natAbs ≤ 2 ^ 700) : Met l yX4_change wsX4_change ({ frames := 4, cells := 0, slots := 0, locals := 130 }) (va_Pc [.ref (a 0), .ref (B t), .long x] (bd_P K E0 z0 sz)) (va_Qv (fun u => u.1 = E0 ∧ ∃ sg1 : Nat → Int, sg_S K u.2 sg1 ∧ sg1 (B t) = sg0 (B t) + x.toInt ∧ ∀ b, b ≠ (B t) → b ≠ (B 5) → sg1 b = sg0 b) (bd_B K) (bd_A K sz)) 0 0 (bd_A K sz) := by
  refine bd_ofW (cc := cX4_change) (maxL := 4) (ret := none) (by decide) rfl (Nat.le_of_ble_eq_true rfl) ?_
  intro p e s m below meth c ls C hr hlk hsz hw hl
  have hx := C.1
  have hb := C.2.1
  have hown := C.2.2.2.1
  have hts := C.2.2.2.2.1
  have i4 : ∀ w ∈ wsX40, w ∈ wsX4_change := by decide +kernel
  have lk39 : Cond.fieldLink RX4 39 "BallDesk" "step" "LBallDesk$Whole;" ∈ wsX4_change := by decide +kernel
  obtain ⟨hP1, hP2⟩ := bk_P hbk
  have hl : lv_has ls 4 [(0, .ref (a 0)), (1, .ref (B t)), (2, .long x)] := hl
  have f_t : sg0 (B t) = sg0 (B t) := rfl
  have hfr : ∀ b, b ≠ (B t) → b ≠ (B 5) → sg0 b = sg0 b := fun _ _ _ => rfl
  refine lv_aload_n hx hb dX4_change_0 rfl (lv_at hl 0 rfl) ?_
  refine bk_g C i4 hw hbk 8 (by decide) (v := .ref (B 5)) rfl dX4_change_1 lk39 ?_
  refine lv_lload_n hx hb dX4_change_4 rfl (lv_at hl 2 rfl) ?_
  refine sv_v (As := [.long x]) (rest := []) C (v3_become _ _ _ _ _ hS (B 5) x (bk_in hbk (i := 5) (by omega))) (cwV 1 hts gX4_change_X3_become rfl rfl rfl (by decide +kernel) ⟨Nat.le_of_ble_eq_true rfl, Nat.le_of_ble_eq_true rfl⟩) hsz hw (bd_recv C hw (bk_in hbk (i := 5) (by omega))) dX4_change_5 rfl hl.1 rfl (Nat.le_of_ble_eq_true rfl) ⟨Nat.le_refl _, Nat.le_refl _⟩ (fun z sg H locs hv9 hf9 hS hw => ?_)
  have fT9 : sg (B 5) = x.toInt := hv9.trans (by rfl)
  have f_t : sg (B t) = sg0 (B t) := (hf9 (B t) (bk_ne hbk (i := t) (j := 5) (by omega) (by omega) (by omega))).trans f_t
  have f_5 := fT9
  have hfr : ∀ b, b ≠ (B t) → b ≠ (B 5) → sg b = sg0 b := fun b n0 n1 => (hf9 b n1).trans (hfr b n0 n1)
  refine lv_aload_n hx hb dX4_change_8 rfl (lv_at hl 1 rfl) ?_
  refine lv_aload_n hx hb dX4_change_9 rfl (lv_at hl 1 rfl) ?_
  refine lv_aload_n hx hb dX4_change_10 rfl (lv_at hl 0 rfl) ?_
  refine bk_g C i4 hw hbk 8 (by decide) (v := .ref (B 5)) rfl dX4_change_11 lk39 ?_
  refine sv_v (As := [.ref (B t), .ref (B 5)]) (rest := []) C (v3_sum _ _ _ _ _ hS (B t) (B t) (B 5) (bk_in hbk (i := t) (by omega)) (bk_in hbk (i := t) (by omega)) (bk_in hbk (i := 5) (by omega)) (by rw [f_t, f_5]; exact (Nat.lt_of_le_of_lt (Nat.add_le_add hb1 (i64_b x)) (by decide +kernel)))) (cwV 2 hts gX4_change_X3_sum rfl rfl rfl (by decide +kernel) ⟨Nat.le_of_ble_eq_true rfl, Nat.le_of_ble_eq_true rfl⟩) hsz hw (bd_recv C hw (bk_in hbk (i := t) (by omega))) dX4_change_14 rfl hl.1 rfl (Nat.le_of_ble_eq_true rfl) ⟨Nat.le_refl _, Nat.le_refl _⟩ (fun z sg H locs hv9 hf9 hS hw => ?_)
  have fT9 : sg (B t) = (sg0 (B t) + x.toInt) := hv9.trans (by rw [f_t, f_5])
  have f_5 : sg (B 5) = x.toInt := (hf9 (B 5) (bk_ne hbk (i := 5) (j := t) (by omega) (by omega) (by omega))).trans f_5
  have f_t := fT9
  have hfr : ∀ b, b ≠ (B t) → b ≠ (B 5) → sg b = sg0 b := fun b n0 n1 => (hf9 b n0).trans (hfr b n0 n1)
  exact bd_vret C hr hlk hw dX4_change_17 ⟨rfl, sg, hS, f_t, hfr⟩
set_option maxHeartbeats 4000000 in
set_option maxRecDepth 100000 in
/-- BallDesk.X4_findEnds -/
theorem c4_findEnds (l : Launch) (K : Cxt) (E0 : Nat → va_E) (z0 : Nat → Wh) (sz : Nat) {P : Nat} {a B : Nat → Nat} (hbk : bk_at K E0 P a B) {sg0 : Nat → Int} (hS : sg_S K z0 sg0) (i : Nat) (hi : i < 12) (hb1 : (sg0 (B (8 + i))).natAbs + (sg0 (B (20 + i))).natAbs < 4294967296 ^ 24) : Met l yX4_findEnds wsX4_findEnds ({ frames := 4, cells := 0, slots := 0, locals := 130 }) (va_Pc [.ref (a 0), .ref (a (3 + i))] (bd_P K E0 z0 sz)) (va_Qv (fun u => u.1 = E0 ∧ ∃ sg1 : Nat → Int, sg_S K u.2 sg1 ∧ sg1 (B 1) = sg0 (B (8 + i)) - sg0 (B (20 + i)) ∧ sg1 (B 2) = sg0 (B (8 + i)) + sg0 (B (20 + i)) ∧ ∀ b, b ≠ (B 1) → b ≠ (B 2) → sg1 b = sg0 b) (bd_B K) (bd_A K sz)) 0 0 (bd_A K sz) := by
  refine bd_ofW (cc := cX4_findEnds) (maxL := 2) (ret := none) (by decide) rfl (Nat.le_of_ble_eq_true rfl) ?_
  intro p e s m below meth c ls C hr hlk hsz hw hl
  have hx := C.1
  have hb := C.2.1
  have hown := C.2.2.2.1
  have hts := C.2.2.2.2.1
  have i4 : ∀ w ∈ wsX40, w ∈ wsX4_findEnds := by decide +kernel
  have ib0 : ∀ w ∈ wsX00, w ∈ wsX4_findEnds := by decide +kernel
  have lk27 : Cond.fieldLink RX4 27 "BallDesk" "low" "LBallDesk$Whole;" ∈ wsX4_findEnds := by decide +kernel
  have lk85 : Cond.fieldLink RX4 85 "BallDesk$Ball" "middle" "LBallDesk$Whole;" ∈ wsX4_findEnds := by decide +kernel
  have lk92 : Cond.fieldLink RX4 92 "BallDesk$Ball" "radius" "LBallDesk$Whole;" ∈ wsX4_findEnds := by decide +kernel
  have lk30 : Cond.fieldLink RX4 30 "BallDesk" "high" "LBallDesk$Whole;" ∈ wsX4_findEnds := by decide +kernel
  obtain ⟨hP1, hP2⟩ := bk_P hbk
  have hl : lv_has ls 2 [(0, .ref (a 0)), (1, .ref (a (3 + i)))] := hl
  have hfr : ∀ b, b ≠ (B 1) → b ≠ (B 2) → sg0 b = sg0 b := fun _ _ _ => rfl
  have fm_i : sg0 (B (8 + i)) = sg0 (B (8 + i)) := rfl
  have fr_i : sg0 (B (20 + i)) = sg0 (B (20 + i)) := rfl
  refine lv_aload_n hx hb dX4_findEnds_0 rfl (lv_at hl 0 rfl) ?_
  refine bk_g C i4 hw hbk 4 (by decide) (v := .ref (B 1)) rfl dX4_findEnds_1 lk27 ?_
  refine lv_aload_n hx hb dX4_findEnds_4 rfl (lv_at hl 1 rfl) ?_
  refine bl_gm C ib0 hw (bk_pl hbk (k := i) hi) dX4_findEnds_5 lk85 ?_
  refine lv_aload_n hx hb dX4_findEnds_8 rfl (lv_at hl 1 rfl) ?_
  refine bl_gr C ib0 hw (bk_pl hbk (k := i) hi) dX4_findEnds_9 lk92 ?_
  refine sv_v (As := [.ref (B (8 + i)), .ref (B (20 + i))]) (rest := []) C (v3_difference _ _ _ _ _ hS (B 1) (B (8 + i)) (B (20 + i)) (bk_in hbk (i := 1) (by omega)) (bk_in hbk (i := (8 + i)) (by omega)) (bk_in hbk (i := (20 + i)) (by omega)) (by rw [fm_i, fr_i]; exact hb1)) (cwV 2 hts gX4_findEnds_X3_difference rfl rfl rfl (by decide +kernel) ⟨Nat.le_of_ble_eq_true rfl, Nat.le_of_ble_eq_true rfl⟩) hsz hw (bd_recv C hw (bk_in hbk (i := 1) (by omega))) dX4_findEnds_12 rfl hl.1 rfl (Nat.le_of_ble_eq_true rfl) ⟨Nat.le_refl _, Nat.le_refl _⟩ (fun z sg H locs hv9 hf9 hS hw => ?_)
  have fT9 : sg (B 1) = (sg0 (B (8 + i)) - sg0 (B (20 + i))) := hv9.trans (by rw [fm_i, fr_i])
  have f_1 := fT9
  have hfr : ∀ b, b ≠ (B 1) → b ≠ (B 2) → sg b = sg0 b := fun b n0 n1 => (hf9 b n0).trans (hfr b n0 n1)
  refine lv_aload_n hx hb dX4_findEnds_15 rfl (lv_at hl 0 rfl) ?_
  refine bk_g C i4 hw hbk 5 (by decide) (v := .ref (B 2)) rfl dX4_findEnds_16 lk30 ?_
  refine lv_aload_n hx hb dX4_findEnds_19 rfl (lv_at hl 1 rfl) ?_
  refine bl_gm C ib0 hw (bk_pl hbk (k := i) hi) dX4_findEnds_20 lk85 ?_
  refine lv_aload_n hx hb dX4_findEnds_23 rfl (lv_at hl 1 rfl) ?_
  refine bl_gr C ib0 hw (bk_pl hbk (k := i) hi) dX4_findEnds_24 lk92 ?_
  have fm_i : sg (B (8 + i)) = sg0 (B (8 + i)) := hfr _ (bk_ne hbk (i := (8 + i)) (j := 1) (by omega) (by omega) (by omega)) (bk_ne hbk (i := (8 + i)) (j := 2) (by omega) (by omega) (by omega))
  have fr_i : sg (B (20 + i)) = sg0 (B (20 + i)) := hfr _ (bk_ne hbk (i := (20 + i)) (j := 1) (by omega) (by omega) (by omega)) (bk_ne hbk (i := (20 + i)) (j := 2) (by omega) (by omega) (by omega))
  refine sv_v (As := [.ref (B (8 + i)), .ref (B (20 + i))]) (rest := []) C (v3_sum _ _ _ _ _ hS (B 2) (B (8 + i)) (B (20 + i)) (bk_in hbk (i := 2) (by omega)) (bk_in hbk (i := (8 + i)) (by omega)) (bk_in hbk (i := (20 + i)) (by omega)) (by rw [fm_i, fr_i]; exact hb1)) (cwV 2 hts gX4_findEnds_X3_sum rfl rfl rfl (by decide +kernel) ⟨Nat.le_of_ble_eq_true rfl, Nat.le_of_ble_eq_true rfl⟩) hsz hw (bd_recv C hw (bk_in hbk (i := 2) (by omega))) dX4_findEnds_27 rfl hl.1 rfl (Nat.le_of_ble_eq_true rfl) ⟨Nat.le_refl _, Nat.le_refl _⟩ (fun z sg H locs hv9 hf9 hS hw => ?_)
  have fT9 : sg (B 2) = (sg0 (B (8 + i)) + sg0 (B (20 + i))) := hv9.trans (by rw [fm_i, fr_i])
  have f_1 : sg (B 1) = (sg0 (B (8 + i)) - sg0 (B (20 + i))) := (hf9 (B 1) (bk_ne hbk (i := 1) (j := 2) (by omega) (by omega) (by omega))).trans f_1
  have f_2 := fT9
  have hfr : ∀ b, b ≠ (B 1) → b ≠ (B 2) → sg b = sg0 b := fun b n0 n1 => (hf9 b n1).trans (hfr b n0 n1)
  exact bd_vret C hr hlk hw dX4_findEnds_30 ⟨rfl, sg, hS, f_1, f_2, hfr⟩
set_option maxHeartbeats 4000000 in
set_option maxRecDepth 100000 in
/-- BallDesk.X4_findOtherEnds -/
theorem c4_findOtherEnds (l : Launch) (K : Cxt) (E0 : Nat → va_E) (z0 : Nat → Wh) (sz : Nat) {P : Nat} {a B : Nat → Nat} (hbk : bk_at K E0 P a B) {sg0 : Nat → Int} (hS : sg_S K z0 sg0) (i : Nat) (hi : i < 12) (hb1 : (sg0 (B (8 + i))).natAbs + (sg0 (B (20 + i))).natAbs < 4294967296 ^ 24) : Met l yX4_findOtherEnds wsX4_findOtherEnds ({ frames := 4, cells := 0, slots := 0, locals := 130 }) (va_Pc [.ref (a 0), .ref (a (3 + i))] (bd_P K E0 z0 sz)) (va_Qv (fun u => u.1 = E0 ∧ ∃ sg1 : Nat → Int, sg_S K u.2 sg1 ∧ sg1 (B 3) = sg0 (B (8 + i)) - sg0 (B (20 + i)) ∧ sg1 (B 4) = sg0 (B (8 + i)) + sg0 (B (20 + i)) ∧ ∀ b, b ≠ (B 3) → b ≠ (B 4) → sg1 b = sg0 b) (bd_B K) (bd_A K sz)) 0 0 (bd_A K sz) := by
  refine bd_ofW (cc := cX4_findOtherEnds) (maxL := 2) (ret := none) (by decide) rfl (Nat.le_of_ble_eq_true rfl) ?_
  intro p e s m below meth c ls C hr hlk hsz hw hl
  have hx := C.1
  have hb := C.2.1
  have hown := C.2.2.2.1
  have hts := C.2.2.2.2.1
  have i4 : ∀ w ∈ wsX40, w ∈ wsX4_findOtherEnds := by decide +kernel
  have ib0 : ∀ w ∈ wsX00, w ∈ wsX4_findOtherEnds := by decide +kernel
  have lk33 : Cond.fieldLink RX4 33 "BallDesk" "left" "LBallDesk$Whole;" ∈ wsX4_findOtherEnds := by decide +kernel
  have lk85 : Cond.fieldLink RX4 85 "BallDesk$Ball" "middle" "LBallDesk$Whole;" ∈ wsX4_findOtherEnds := by decide +kernel
  have lk92 : Cond.fieldLink RX4 92 "BallDesk$Ball" "radius" "LBallDesk$Whole;" ∈ wsX4_findOtherEnds := by decide +kernel
  have lk36 : Cond.fieldLink RX4 36 "BallDesk" "right" "LBallDesk$Whole;" ∈ wsX4_findOtherEnds := by decide +kernel
  obtain ⟨hP1, hP2⟩ := bk_P hbk
  have hl : lv_has ls 2 [(0, .ref (a 0)), (1, .ref (a (3 + i)))] := hl
  have hfr : ∀ b, b ≠ (B 3) → b ≠ (B 4) → sg0 b = sg0 b := fun _ _ _ => rfl
  have fm_i : sg0 (B (8 + i)) = sg0 (B (8 + i)) := rfl
  have fr_i : sg0 (B (20 + i)) = sg0 (B (20 + i)) := rfl
  refine lv_aload_n hx hb dX4_findOtherEnds_0 rfl (lv_at hl 0 rfl) ?_
  refine bk_g C i4 hw hbk 6 (by decide) (v := .ref (B 3)) rfl dX4_findOtherEnds_1 lk33 ?_
  refine lv_aload_n hx hb dX4_findOtherEnds_4 rfl (lv_at hl 1 rfl) ?_
  refine bl_gm C ib0 hw (bk_pl hbk (k := i) hi) dX4_findOtherEnds_5 lk85 ?_
  refine lv_aload_n hx hb dX4_findOtherEnds_8 rfl (lv_at hl 1 rfl) ?_
  refine bl_gr C ib0 hw (bk_pl hbk (k := i) hi) dX4_findOtherEnds_9 lk92 ?_
  refine sv_v (As := [.ref (B (8 + i)), .ref (B (20 + i))]) (rest := []) C (v3_difference _ _ _ _ _ hS (B 3) (B (8 + i)) (B (20 + i)) (bk_in hbk (i := 3) (by omega)) (bk_in hbk (i := (8 + i)) (by omega)) (bk_in hbk (i := (20 + i)) (by omega)) (by rw [fm_i, fr_i]; exact hb1)) (cwV 2 hts gX4_findOtherEnds_X3_difference rfl rfl rfl (by decide +kernel) ⟨Nat.le_of_ble_eq_true rfl, Nat.le_of_ble_eq_true rfl⟩) hsz hw (bd_recv C hw (bk_in hbk (i := 3) (by omega))) dX4_findOtherEnds_12 rfl hl.1 rfl (Nat.le_of_ble_eq_true rfl) ⟨Nat.le_refl _, Nat.le_refl _⟩ (fun z sg H locs hv9 hf9 hS hw => ?_)
  have fT9 : sg (B 3) = (sg0 (B (8 + i)) - sg0 (B (20 + i))) := hv9.trans (by rw [fm_i, fr_i])
  have f_3 := fT9
  have hfr : ∀ b, b ≠ (B 3) → b ≠ (B 4) → sg b = sg0 b := fun b n0 n1 => (hf9 b n0).trans (hfr b n0 n1)
  refine lv_aload_n hx hb dX4_findOtherEnds_15 rfl (lv_at hl 0 rfl) ?_
  refine bk_g C i4 hw hbk 7 (by decide) (v := .ref (B 4)) rfl dX4_findOtherEnds_16 lk36 ?_
  refine lv_aload_n hx hb dX4_findOtherEnds_19 rfl (lv_at hl 1 rfl) ?_
  refine bl_gm C ib0 hw (bk_pl hbk (k := i) hi) dX4_findOtherEnds_20 lk85 ?_
  refine lv_aload_n hx hb dX4_findOtherEnds_23 rfl (lv_at hl 1 rfl) ?_
  refine bl_gr C ib0 hw (bk_pl hbk (k := i) hi) dX4_findOtherEnds_24 lk92 ?_
  have fm_i : sg (B (8 + i)) = sg0 (B (8 + i)) := hfr _ (bk_ne hbk (i := (8 + i)) (j := 3) (by omega) (by omega) (by omega)) (bk_ne hbk (i := (8 + i)) (j := 4) (by omega) (by omega) (by omega))
  have fr_i : sg (B (20 + i)) = sg0 (B (20 + i)) := hfr _ (bk_ne hbk (i := (20 + i)) (j := 3) (by omega) (by omega) (by omega)) (bk_ne hbk (i := (20 + i)) (j := 4) (by omega) (by omega) (by omega))
  refine sv_v (As := [.ref (B (8 + i)), .ref (B (20 + i))]) (rest := []) C (v3_sum _ _ _ _ _ hS (B 4) (B (8 + i)) (B (20 + i)) (bk_in hbk (i := 4) (by omega)) (bk_in hbk (i := (8 + i)) (by omega)) (bk_in hbk (i := (20 + i)) (by omega)) (by rw [fm_i, fr_i]; exact hb1)) (cwV 2 hts gX4_findOtherEnds_X3_sum rfl rfl rfl (by decide +kernel) ⟨Nat.le_of_ble_eq_true rfl, Nat.le_of_ble_eq_true rfl⟩) hsz hw (bd_recv C hw (bk_in hbk (i := 4) (by omega))) dX4_findOtherEnds_27 rfl hl.1 rfl (Nat.le_of_ble_eq_true rfl) ⟨Nat.le_refl _, Nat.le_refl _⟩ (fun z sg H locs hv9 hf9 hS hw => ?_)
  have fT9 : sg (B 4) = (sg0 (B (8 + i)) + sg0 (B (20 + i))) := hv9.trans (by rw [fm_i, fr_i])
  have f_3 : sg (B 3) = (sg0 (B (8 + i)) - sg0 (B (20 + i))) := (hf9 (B 3) (bk_ne hbk (i := 3) (j := 4) (by omega) (by omega) (by omega))).trans f_3
  have f_4 := fT9
  have hfr : ∀ b, b ≠ (B 3) → b ≠ (B 4) → sg b = sg0 b := fun b n0 n1 => (hf9 b n1).trans (hfr b n0 n1)
  exact bd_vret C hr hlk hw dX4_findOtherEnds_30 ⟨rfl, sg, hS, f_3, f_4, hfr⟩
set_option maxHeartbeats 4000000 in
set_option maxRecDepth 100000 in
/-- BallDesk.X4_refineEnds -/
theorem c4_refineEnds (l : Launch) (K : Cxt) (E0 : Nat → va_E) (z0 : Nat → Wh) (sz : Nat) {P : Nat} {a B : Nat → Nat} (hbk : bk_at K E0 P a B) {sg0 : Nat → Int} (hS : sg_S K z0 sg0)  (hb1 : (sg0 (B 1)).natAbs < 4294967296 ^ 8) (hb2 : (sg0 (B 2)).natAbs < 4294967296 ^ 8) : Met l yX4_refineEnds wsX4_refineEnds ({ frames := 4, cells := 0, slots := 0, locals := 130 }) (va_Pc [.ref (a 0)] (bd_P K E0 z0 sz)) (va_Qv (fun u => u.1 = E0 ∧ ∃ sg1 : Nat → Int, sg_S K u.2 sg1 ∧ sg1 (B 1) = sg0 (B 1) * dk_p 64 ∧ sg1 (B 2) = sg0 (B 2) * dk_p 64 ∧ ∀ b, b ≠ (B 1) → b ≠ (B 2) → sg1 b = sg0 b) (bd_B K) (bd_A K sz)) 0 0 (bd_A K sz) := by
  refine bd_ofW (cc := cX4_refineEnds) (maxL := 1) (ret := none) (by decide) rfl (Nat.le_of_ble_eq_true rfl) ?_
  intro p e s m below meth c ls C hr hlk hsz hw hl
  have hx := C.1
  have hb := C.2.1
  have hown := C.2.2.2.1
  have hts := C.2.2.2.2.1
  have i4 : ∀ w ∈ wsX40, w ∈ wsX4_refineEnds := by decide +kernel
  have lk27 : Cond.fieldLink RX4 27 "BallDesk" "low" "LBallDesk$Whole;" ∈ wsX4_refineEnds := by decide +kernel
  have lk30 : Cond.fieldLink RX4 30 "BallDesk" "high" "LBallDesk$Whole;" ∈ wsX4_refineEnds := by decide +kernel
  obtain ⟨hP1, hP2⟩ := bk_P hbk
  have hl : lv_has ls 1 [(0, .ref (a 0))] := hl
  have f_1 : sg0 (B 1) = sg0 (B 1) := rfl
  have f_2 : sg0 (B 2) = sg0 (B 2) := rfl
  have hfr : ∀ b, b ≠ (B 1) → b ≠ (B 2) → sg0 b = sg0 b := fun _ _ _ => rfl
  refine lv_aload_n hx hb dX4_refineEnds_0 rfl (lv_at hl 0 rfl) ?_
  refine bk_g C i4 hw hbk 4 (by decide) (v := .ref (B 1)) rfl dX4_refineEnds_1 lk27 ?_
  refine lv_bipush (v := nI 64) hx hb dX4_refineEnds_4 (by decide) ?_
  refine sv_v (As := [.int (nI 64)]) (rest := []) C (v3_raise _ _ _ _ _ hS (B 1) 64 8 (bk_in hbk (i := 1) (by omega)) (by omega) (by rw [f_1]; exact hb1) (by decide)) (cwV 1 hts gX4_refineEnds_X3_raise rfl rfl rfl (by decide +kernel) ⟨Nat.le_of_ble_eq_true rfl, Nat.le_of_ble_eq_true rfl⟩) hsz hw (bd_recv C hw (bk_in hbk (i := 1) (by omega))) dX4_refineEnds_6 rfl hl.1 rfl (Nat.le_of_ble_eq_true rfl) ⟨Nat.le_refl _, Nat.le_refl _⟩ (fun z sg H locs hv9 hf9 hS hw => ?_)
  have fT9 : sg (B 1) = (sg0 (B 1) * dk_p 64) := hv9.trans (by rw [f_1])
  have f_2 : sg (B 2) = sg0 (B 2) := (hf9 (B 2) (bk_ne hbk (i := 2) (j := 1) (by omega) (by omega) (by omega))).trans f_2
  have f_1 := fT9
  have hfr : ∀ b, b ≠ (B 1) → b ≠ (B 2) → sg b = sg0 b := fun b n0 n1 => (hf9 b n0).trans (hfr b n0 n1)
  refine lv_aload_n hx hb dX4_refineEnds_9 rfl (lv_at hl 0 rfl) ?_
  refine bk_g C i4 hw hbk 5 (by decide) (v := .ref (B 2)) rfl dX4_refineEnds_10 lk30 ?_
  refine lv_bipush (v := nI 64) hx hb dX4_refineEnds_13 (by decide) ?_
  refine sv_v (As := [.int (nI 64)]) (rest := []) C (v3_raise _ _ _ _ _ hS (B 2) 64 8 (bk_in hbk (i := 2) (by omega)) (by omega) (by rw [f_2]; exact hb2) (by decide)) (cwV 1 hts gX4_refineEnds_X3_raise rfl rfl rfl (by decide +kernel) ⟨Nat.le_of_ble_eq_true rfl, Nat.le_of_ble_eq_true rfl⟩) hsz hw (bd_recv C hw (bk_in hbk (i := 2) (by omega))) dX4_refineEnds_15 rfl hl.1 rfl (Nat.le_of_ble_eq_true rfl) ⟨Nat.le_refl _, Nat.le_refl _⟩ (fun z sg H locs hv9 hf9 hS hw => ?_)
  have fT9 : sg (B 2) = (sg0 (B 2) * dk_p 64) := hv9.trans (by rw [f_2])
  have f_1 : sg (B 1) = (sg0 (B 1) * dk_p 64) := (hf9 (B 1) (bk_ne hbk (i := 1) (j := 2) (by omega) (by omega) (by omega))).trans f_1
  have f_2 := fT9
  have hfr : ∀ b, b ≠ (B 1) → b ≠ (B 2) → sg b = sg0 b := fun b n0 n1 => (hf9 b n1).trans (hfr b n0 n1)
  exact bd_vret C hr hlk hw dX4_refineEnds_18 ⟨rfl, sg, hS, f_1, f_2, hfr⟩
set_option maxHeartbeats 4000000 in
set_option maxRecDepth 100000 in
/-- BallDesk.X4_coarsenEnds -/
theorem c4_coarsenEnds (l : Launch) (K : Cxt) (E0 : Nat → va_E) (z0 : Nat → Wh) (sz : Nat) {P : Nat} {a B : Nat → Nat} (hbk : bk_at K E0 P a B) {sg0 : Nat → Int} (hS : sg_S K z0 sg0)  (hb1 : (sg0 (B 1)).natAbs ≤ 2 ^ 600) (hb2 : (sg0 (B 2)).natAbs ≤ 2 ^ 600) : Met l yX4_coarsenEnds wsX4_coarsenEnds ({ frames := 5, cells := 0, slots := 0, locals := 160 }) (va_Pc [.ref (a 0)] (bd_P K E0 z0 sz)) (va_Qv (fun u => u.1 = E0 ∧ ∃ sg1 : Nat → Int, sg_S K u.2 sg1 ∧ sg1 (B 1) = dk_cl (sg0 (B 1)) ∧ sg1 (B 2) = dk_ch (sg0 (B 2)) ∧ ∀ b, b ≠ (B 1) → b ≠ (B 2) → b ≠ (B 5) → sg1 b = sg0 b) (bd_B K) (bd_A K sz)) 0 0 (bd_A K sz) := by
  refine bd_ofW (cc := cX4_coarsenEnds) (maxL := 1) (ret := none) (by decide) rfl (Nat.le_of_ble_eq_true rfl) ?_
  intro p e s m below meth c ls C hr hlk hsz hw hl
  have hx := C.1
  have hb := C.2.1
  have hown := C.2.2.2.1
  have hts := C.2.2.2.2.1
  have i4 : ∀ w ∈ wsX40, w ∈ wsX4_coarsenEnds := by decide +kernel
  have lk27 : Cond.fieldLink RX4 27 "BallDesk" "low" "LBallDesk$Whole;" ∈ wsX4_coarsenEnds := by decide +kernel
  have lk216 : Cond.constantLong RX4 216 (-1) ∈ wsX4_coarsenEnds := by decide +kernel
  have lk30 : Cond.fieldLink RX4 30 "BallDesk" "high" "LBallDesk$Whole;" ∈ wsX4_coarsenEnds := by decide +kernel
  have lk177 : Cond.constantLong RX4 177 (2) ∈ wsX4_coarsenEnds := by decide +kernel
  obtain ⟨hP1, hP2⟩ := bk_P hbk
  have hl : lv_has ls 1 [(0, .ref (a 0))] := hl
  have f_1 : sg0 (B 1) = sg0 (B 1) := rfl
  have f_2 : sg0 (B 2) = sg0 (B 2) := rfl
  have hfr : ∀ b, b ≠ (B 1) → b ≠ (B 2) → b ≠ (B 5) → sg0 b = sg0 b := fun _ _ _ _ => rfl
  refine lv_aload_n hx hb dX4_coarsenEnds_0 rfl (lv_at hl 0 rfl) ?_
  refine bk_g C i4 hw hbk 4 (by decide) (v := .ref (B 1)) rfl dX4_coarsenEnds_1 lk27 ?_
  refine lv_bipush (v := nI 64) hx hb dX4_coarsenEnds_4 (by decide) ?_
  refine sv_v (As := [.int (nI 64)]) (rest := []) C (v3_lower _ _ _ _ _ hS (B 1) 64 (bk_in hbk (i := 1) (by omega)) (by omega) (by omega)) (cwV 1 hts gX4_coarsenEnds_X3_lower rfl rfl rfl (by decide +kernel) ⟨Nat.le_of_ble_eq_true rfl, Nat.le_of_ble_eq_true rfl⟩) hsz hw (bd_recv C hw (bk_in hbk (i := 1) (by omega))) dX4_coarsenEnds_6 rfl hl.1 rfl (Nat.le_of_ble_eq_true rfl) ⟨Nat.le_refl _, Nat.le_refl _⟩ (fun z sg H locs hv9 hf9 hS hw => ?_)
  have fT9 : sg (B 1) = (sg0 (B 1) / dk_p 64) := hv9.trans (by rw [f_1])
  have f_2 : sg (B 2) = sg0 (B 2) := (hf9 (B 2) (bk_ne hbk (i := 2) (j := 1) (by omega) (by omega) (by omega))).trans f_2
  have f_1 := fT9
  have hfr : ∀ b, b ≠ (B 1) → b ≠ (B 2) → b ≠ (B 5) → sg b = sg0 b := fun b n0 n1 n2 => (hf9 b n0).trans (hfr b n0 n1 n2)
  refine lv_aload_n hx hb dX4_coarsenEnds_9 rfl (lv_at hl 0 rfl) ?_
  refine lv_aload_n hx hb dX4_coarsenEnds_10 rfl (lv_at hl 0 rfl) ?_
  refine bk_g C i4 hw hbk 4 (by decide) (v := .ref (B 1)) rfl dX4_coarsenEnds_11 lk27 ?_
  refine lv_ldc2 (v := (-1)) hx hb hown (hts _ lk216) dX4_coarsenEnds_14 ?_
  refine bd_cv (As := [.ref (B 1), .long (-1)]) (rest := []) C (c4_change _ _ _ _ _ hbk hS 1 (-1) (by decide) (by decide) (by rw [f_1]; exact (Nat.le_trans (fl_abs (Nat.pow_pos (by decide))) (Nat.le_trans hb1 (by decide +kernel))))) (cwV 2 hts gX4_coarsenEnds_X4_change rfl rfl rfl (by decide +kernel) ⟨Nat.le_of_ble_eq_true rfl, Nat.le_of_ble_eq_true rfl⟩) hsz hw (bk_recv C hw hbk) dX4_coarsenEnds_17 rfl hl.1 rfl (Nat.le_of_ble_eq_true rfl) ⟨Nat.le_refl _, Nat.le_refl _⟩ (fun E1 z H locs hp hw => ?_)
  obtain ⟨hE9, sg, hS, hv0_, hf9⟩ := hp
  rw [show E1 = E0 from hE9] at hw
  have fT0_ : sg (B 1) = (dk_cl (sg0 (B 1))) := hv0_.trans (by rw [f_1]; rfl)
  have f_2 : sg (B 2) = sg0 (B 2) := (hf9 (B 2) (bk_ne hbk (i := 2) (j := 1) (by omega) (by omega) (by omega)) (bk_ne hbk (i := 2) (j := 5) (by omega) (by omega) (by omega))).trans f_2
  have f_1 := fT0_
  have hfr : ∀ b, b ≠ (B 1) → b ≠ (B 2) → b ≠ (B 5) → sg b = sg0 b := fun b n0 n1 n2 => (hf9 b n0 n2).trans (hfr b n0 n1 n2)
  refine lv_aload_n hx hb dX4_coarsenEnds_20 rfl (lv_at hl 0 rfl) ?_
  refine bk_g C i4 hw hbk 5 (by decide) (v := .ref (B 2)) rfl dX4_coarsenEnds_21 lk30 ?_
  refine lv_bipush (v := nI 64) hx hb dX4_coarsenEnds_24 (by decide) ?_
  refine sv_v (As := [.int (nI 64)]) (rest := []) C (v3_lower _ _ _ _ _ hS (B 2) 64 (bk_in hbk (i := 2) (by omega)) (by omega) (by omega)) (cwV 1 hts gX4_coarsenEnds_X3_lower rfl rfl rfl (by decide +kernel) ⟨Nat.le_of_ble_eq_true rfl, Nat.le_of_ble_eq_true rfl⟩) hsz hw (bd_recv C hw (bk_in hbk (i := 2) (by omega))) dX4_coarsenEnds_26 rfl hl.1 rfl (Nat.le_of_ble_eq_true rfl) ⟨Nat.le_refl _, Nat.le_refl _⟩ (fun z sg H locs hv9 hf9 hS hw => ?_)
  have fT9 : sg (B 2) = (sg0 (B 2) / dk_p 64) := hv9.trans (by rw [f_2])
  have f_1 : sg (B 1) = (dk_cl (sg0 (B 1))) := (hf9 (B 1) (bk_ne hbk (i := 1) (j := 2) (by omega) (by omega) (by omega))).trans f_1
  have f_2 := fT9
  have hfr : ∀ b, b ≠ (B 1) → b ≠ (B 2) → b ≠ (B 5) → sg b = sg0 b := fun b n0 n1 n2 => (hf9 b n1).trans (hfr b n0 n1 n2)
  refine lv_aload_n hx hb dX4_coarsenEnds_29 rfl (lv_at hl 0 rfl) ?_
  refine lv_aload_n hx hb dX4_coarsenEnds_30 rfl (lv_at hl 0 rfl) ?_
  refine bk_g C i4 hw hbk 5 (by decide) (v := .ref (B 2)) rfl dX4_coarsenEnds_31 lk30 ?_
  refine lv_ldc2 (v := 2) hx hb hown (hts _ lk177) dX4_coarsenEnds_34 ?_
  refine bd_cv (As := [.ref (B 2), .long 2]) (rest := []) C (c4_change _ _ _ _ _ hbk hS 2 2 (by decide) (by decide) (by rw [f_2]; exact (Nat.le_trans (fl_abs (Nat.pow_pos (by decide))) (Nat.le_trans hb2 (by decide +kernel))))) (cwV 2 hts gX4_coarsenEnds_X4_change rfl rfl rfl (by decide +kernel) ⟨Nat.le_of_ble_eq_true rfl, Nat.le_of_ble_eq_true rfl⟩) hsz hw (bk_recv C hw hbk) dX4_coarsenEnds_37 rfl hl.1 rfl (Nat.le_of_ble_eq_true rfl) ⟨Nat.le_refl _, Nat.le_refl _⟩ (fun E1 z H locs hp hw => ?_)
  obtain ⟨hE9, sg, hS, hv0_, hf9⟩ := hp
  rw [show E1 = E0 from hE9] at hw
  have fT0_ : sg (B 2) = (dk_ch (sg0 (B 2))) := hv0_.trans (by rw [f_2]; rfl)
  have f_1 : sg (B 1) = (dk_cl (sg0 (B 1))) := (hf9 (B 1) (bk_ne hbk (i := 1) (j := 2) (by omega) (by omega) (by omega)) (bk_ne hbk (i := 1) (j := 5) (by omega) (by omega) (by omega))).trans f_1
  have f_2 := fT0_
  have hfr : ∀ b, b ≠ (B 1) → b ≠ (B 2) → b ≠ (B 5) → sg b = sg0 b := fun b n0 n1 n2 => (hf9 b n1 n2).trans (hfr b n0 n1 n2)
  exact bd_vret C hr hlk hw dX4_coarsenEnds_40 ⟨rfl, sg, hS, f_1, f_2, hfr⟩
