/-! BallDesk: add, take, times, over (laid by wip/gen/m_desk4.py) -/
theorem b8 {x : Nat} (h : x ≤ 2 ^ 240) : x < 4294967296 ^ 8 := Nat.lt_of_le_of_lt h (by decide +kernel)
theorem nn_b {x : Int} {b : Nat} (h : x.natAbs ≤ b) : ((x.natAbs : Int)).natAbs ≤ b := by rw [Int.natAbs_natCast]; exact h
theorem pP_b {P : Nat} (h : P ≤ 192) : (dk_p P).natAbs ≤ 2 ^ 192 := by
  rw [Int.natAbs_natCast]
  exact Nat.pow_le_pow_right (by decide) h
theorem add_b {x y : Int} {b d : Nat} (h1 : x.natAbs ≤ b) (h2 : y.natAbs ≤ d) : (x + y).natAbs ≤ b + d := Nat.le_trans (Int.natAbs_add_le _ _) (Nat.add_le_add h1 h2)
theorem neg_b {x : Int} {b : Nat} (h1 : x.natAbs ≤ b) : (-x).natAbs ≤ b := by rw [Int.natAbs_neg]; exact h1
theorem tm_b {P : Nat} {m1 r1 m2 r2 : Int} (h1 : m1.natAbs ≤ 2 ^ 240) (h2 : r1.natAbs ≤ 2 ^ 240) (h3 : m2.natAbs ≤ 2 ^ 240) (h4 : r2.natAbs ≤ 2 ^ 240) : (((m1 * r2).natAbs : Int)).natAbs + (((m2 * r1).natAbs : Int)).natAbs < 4294967296 ^ 24 ∧ (((m1 * r2).natAbs : Int) + ((m2 * r1).natAbs : Int)).natAbs + (r1 * r2).natAbs < 4294967296 ^ 24 ∧ (-(-(((m1 * r2).natAbs : Int) + ((m2 * r1).natAbs : Int) + r1 * r2) / dk_p P)).natAbs ≤ 2 ^ 700 := by
  have a1 := nn_b (mul_b h1 h4)
  have a2 := nn_b (mul_b h3 h2)
  have a3 := mul_b h2 h4
  refine ⟨Nat.lt_of_le_of_lt (Nat.add_le_add a1 a2) (by decide +kernel), Nat.lt_of_le_of_lt (Nat.add_le_add (add_b a1 a2) a3) (by decide +kernel), neg_b ?_⟩
  exact Nat.le_trans (fl_abs (Nat.pow_pos (by decide))) (Nat.le_trans (neg_b (add_b (add_b a1 a2) a3)) (by decide +kernel))
theorem ov_b {P : Nat} {x : Int} (hP : P ≤ 192) (h : x.natAbs ≤ 2 ^ 240) : (x * dk_p P).natAbs + 1 < 4294967296 ^ 24 := Nat.lt_of_le_of_lt (Nat.add_le_add_right (mul_b h (pP_b hP)) 1) (by decide +kernel)
theorem rq_b {P : Nat} {m1 r1 r2 D : Int} (hP : P ≤ 192) (h1 : m1.natAbs ≤ 2 ^ 240) (h2 : r1.natAbs ≤ 2 ^ 240) (h3 : r2.natAbs ≤ 2 ^ 240) (h4 : D.natAbs ≤ 2 ^ 240) (h5 : 0 ≤ r2) (h6 : r2 < D) : (((m1 * r2).natAbs : Int)).natAbs + (D * r1).natAbs < 4294967296 ^ 24 ∧ (((m1 * r2).natAbs : Int) + D * r1).natAbs < 4294967296 ^ 16 ∧ D.natAbs + r2.natAbs < 4294967296 ^ 24 ∧ (D - r2).natAbs < 4294967296 ^ 8 ∧ 0 < D * (D - r2) ∧ (-((((m1 * r2).natAbs : Int) + D * r1) * dk_p P)).natAbs + 1 < 4294967296 ^ 24 ∧ (-(-((((m1 * r2).natAbs : Int) + D * r1) * dk_p P) / (D * (D - r2)))).natAbs ≤ 2 ^ 700 := by
  have a1 := nn_b (mul_b h1 h3)
  have a2 := mul_b h4 h2
  have a3 := add_b a1 a2
  have a4 := neg_b (mul_b a3 (pP_b hP))
  have a5 : 0 < D * (D - r2) := Int.mul_pos (by omega) (by omega)
  refine ⟨Nat.lt_of_le_of_lt (Nat.add_le_add a1 a2) (by decide +kernel), Nat.lt_of_le_of_lt a3 (by decide +kernel), Nat.lt_of_le_of_lt (Nat.add_le_add h4 h3) (by decide +kernel), b8 (by omega), a5, Nat.lt_of_le_of_lt (Nat.add_le_add_right a4 1) (by decide +kernel), neg_b ?_⟩
  exact Nat.le_trans (fl_absI a5) (Nat.le_trans a4 (by decide +kernel))
set_option maxHeartbeats 4000000 in
set_option maxRecDepth 100000 in
/-- BallDesk.X4_radiusOfQuotient -/
theorem c4_rq (l : Launch) (K : Cxt) (E0 : Nat → va_E) (z0 : Nat → Wh) (sz : Nat) {P : Nat} {a B : Nat → Nat} (hbk : bk_at K E0 P a B) {sg0 : Nat → Int} (hS : sg_S K z0 sg0) (i j : Nat) (hi : i < 12) (hj : j < 12) (h1 : (sg0 (B (8 + i))).natAbs ≤ 2 ^ 240) (h2 : (sg0 (B (20 + i))).natAbs ≤ 2 ^ 240) (h3 : (sg0 (B (20 + j))).natAbs ≤ 2 ^ 240) (h4 : (sg0 (B 3)).natAbs ≤ 2 ^ 240) (h5 : 0 ≤ sg0 (B (20 + j))) (h6 : sg0 (B (20 + j)) < sg0 (B 3)) : Met l yX4_radiusOfQuotient wsX4_radiusOfQuotient ({ frames := 5, cells := 0, slots := 0, locals := 180 }) (va_Pc [.ref (a 0), .ref (a (3 + i)), .ref (B 3), .ref (B (20 + j))] (bd_P K E0 z0 sz)) (va_Qv (fun u => bk_at K u.1 P a B ∧ ∃ sg1 : Nat → Int, sg_S K u.2 sg1 ∧ sg1 (B 7) = -(-((((sg0 (B (8 + i)) * sg0 (B (20 + j))).natAbs : Int) + (sg0 (B 3) * sg0 (B (20 + i)))) * dk_p P) / (sg0 (B 3) * (sg0 (B 3) - sg0 (B (20 + j))))) + 1 ∧ ∀ b, b ≠ (B 7) → b ≠ (B 1) → b ≠ (B 2) → b ≠ (B 4) → b ≠ (B 5) → sg1 b = sg0 b) (bd_B K) (bd_A K sz)) 0 0 (bd_A K sz) := by
  refine bd_ofW (cc := cX4_radiusOfQuotient) (maxL := 4) (ret := none) (by decide) rfl (Nat.le_of_ble_eq_true rfl) ?_
  intro p e s m below meth c ls C hr hlk hsz hw hl
  have hx := C.1
  have hb := C.2.1
  have hown := C.2.2.2.1
  have hts := C.2.2.2.2.1
  have i4 : ∀ w ∈ wsX40, w ∈ wsX4_radiusOfQuotient := by decide +kernel
  have ib0 : ∀ w ∈ wsX00, w ∈ wsX4_radiusOfQuotient := by decide +kernel
  have lk36 : Cond.fieldLink RX4 36 "BallDesk" "right" "LBallDesk$Whole;" ∈ wsX4_radiusOfQuotient := by decide +kernel
  have lk85 : Cond.fieldLink RX4 85 "BallDesk$Ball" "middle" "LBallDesk$Whole;" ∈ wsX4_radiusOfQuotient := by decide +kernel
  have lk30 : Cond.fieldLink RX4 30 "BallDesk" "high" "LBallDesk$Whole;" ∈ wsX4_radiusOfQuotient := by decide +kernel
  have lk92 : Cond.fieldLink RX4 92 "BallDesk$Ball" "radius" "LBallDesk$Whole;" ∈ wsX4_radiusOfQuotient := by decide +kernel
  have lk58 : Cond.fieldLink RX4 58 "BallDesk" "bits" "I" ∈ wsX4_radiusOfQuotient := by decide +kernel
  have lk27 : Cond.fieldLink RX4 27 "BallDesk" "low" "LBallDesk$Whole;" ∈ wsX4_radiusOfQuotient := by decide +kernel
  have lk45 : Cond.fieldLink RX4 45 "BallDesk" "division" "LBallDesk$Division;" ∈ wsX4_radiusOfQuotient := by decide +kernel
  have lk23 : Cond.fieldLink RX4 23 "BallDesk" "made" "LBallDesk$Ball;" ∈ wsX4_radiusOfQuotient := by decide +kernel
  obtain ⟨hP1, hP2⟩ := bk_P hbk
  have hl : lv_has ls 4 [(0, .ref (a 0)), (1, .ref (a (3 + i))), (2, .ref (B 3)), (3, .ref (B (20 + j)))] := hl
  have fm_i : sg0 (B (8 + i)) = sg0 (B (8 + i)) := rfl
  have fr_i : sg0 (B (20 + i)) = sg0 (B (20 + i)) := rfl
  have fr_j : sg0 (B (20 + j)) = sg0 (B (20 + j)) := rfl
  have f_3 : sg0 (B 3) = sg0 (B 3) := rfl
  have hfr : ∀ b, b ≠ (B 7) → b ≠ (B 1) → b ≠ (B 2) → b ≠ (B 4) → b ≠ (B 5) → sg0 b = sg0 b := fun _ _ _ _ _ _ => rfl
  obtain ⟨hs1, hs2, hs3, hs4, hs5, hs6, hs7⟩ := rq_b hP2 h1 h2 h3 h4 h5 h6
  refine lv_aload_n hx hb dX4_radiusOfQuotient_0 rfl (lv_at hl 0 rfl) ?_
  refine bk_g C i4 hw hbk 7 (by decide) (v := .ref (B 4)) rfl dX4_radiusOfQuotient_1 lk36 ?_
  refine lv_aload_n hx hb dX4_radiusOfQuotient_4 rfl (lv_at hl 1 rfl) ?_
  refine bl_gm C ib0 hw (bk_pl hbk (k := i) hi) dX4_radiusOfQuotient_5 lk85 ?_
  refine lv_aload_n hx hb dX4_radiusOfQuotient_8 rfl (lv_at hl 3 rfl) ?_
  refine sv_v (As := [.ref (B (8 + i)), .ref (B (20 + j))]) (rest := []) C (v3_product _ _ _ _ _ hS (B 4) (B (8 + i)) (B (20 + j)) 8 8 (bk_in hbk (i := 4) (by omega)) (bk_in hbk (i := (8 + i)) (by omega)) (bk_in hbk (i := (20 + j)) (by omega)) (bk_ne hbk (i := (8 + i)) (j := 4) (by omega) (by omega) (by omega)) (bk_ne hbk (i := (20 + j)) (j := 4) (by omega) (by omega) (by omega)) (by rw [fm_i]; exact b8 h1) (by rw [fr_j]; exact b8 h3) (by decide)) (cwV 2 hts gX4_radiusOfQuotient_X3_product rfl rfl rfl (by decide +kernel) ⟨Nat.le_of_ble_eq_true rfl, Nat.le_of_ble_eq_true rfl⟩) hsz hw (bd_recv C hw (bk_in hbk (i := 4) (by omega))) dX4_radiusOfQuotient_9 rfl hl.1 rfl (Nat.le_of_ble_eq_true rfl) ⟨Nat.le_refl _, Nat.le_refl _⟩ (fun z sg H locs hv9 hf9 hS hw => ?_)
  have fT9 : sg (B 4) = (sg0 (B (8 + i)) * sg0 (B (20 + j))) := hv9.trans (by rw [fm_i, fr_j])
  have fm_i : sg (B (8 + i)) = sg0 (B (8 + i)) := (hf9 (B (8 + i)) (bk_ne hbk (i := (8 + i)) (j := 4) (by omega) (by omega) (by omega))).trans fm_i
  have fr_i : sg (B (20 + i)) = sg0 (B (20 + i)) := (hf9 (B (20 + i)) (bk_ne hbk (i := (20 + i)) (j := 4) (by omega) (by omega) (by omega))).trans fr_i
  have fr_j : sg (B (20 + j)) = sg0 (B (20 + j)) := (hf9 (B (20 + j)) (bk_ne hbk (i := (20 + j)) (j := 4) (by omega) (by omega) (by omega))).trans fr_j
  have f_3 : sg (B 3) = sg0 (B 3) := (hf9 (B 3) (bk_ne hbk (i := 3) (j := 4) (by omega) (by omega) (by omega))).trans f_3
  have f_4 := fT9
  have hfr : ∀ b, b ≠ (B 7) → b ≠ (B 1) → b ≠ (B 2) → b ≠ (B 4) → b ≠ (B 5) → sg b = sg0 b := fun b n0 n1 n2 n3 n4 => (hf9 b n3).trans (hfr b n0 n1 n2 n3 n4)
  refine lv_aload_n hx hb dX4_radiusOfQuotient_12 rfl (lv_at hl 0 rfl) ?_
  refine bk_g C i4 hw hbk 7 (by decide) (v := .ref (B 4)) rfl dX4_radiusOfQuotient_13 lk36 ?_
  refine sv_v (As := []) (rest := []) C (v3_dropSign _ _ _ _ _ hS (B 4) (bk_in hbk (i := 4) (by omega))) (cwV 0 hts gX4_radiusOfQuotient_X3_dropSign rfl rfl rfl (by decide +kernel) ⟨Nat.le_of_ble_eq_true rfl, Nat.le_of_ble_eq_true rfl⟩) hsz hw (bd_recv C hw (bk_in hbk (i := 4) (by omega))) dX4_radiusOfQuotient_16 rfl hl.1 rfl (Nat.le_of_ble_eq_true rfl) ⟨Nat.le_refl _, Nat.le_refl _⟩ (fun z sg H locs hv9 hf9 hS hw => ?_)
  have fT9 : sg (B 4) = ((sg0 (B (8 + i)) * sg0 (B (20 + j))).natAbs : Int) := hv9.trans (by rw [f_4])
  have fm_i : sg (B (8 + i)) = sg0 (B (8 + i)) := (hf9 (B (8 + i)) (bk_ne hbk (i := (8 + i)) (j := 4) (by omega) (by omega) (by omega))).trans fm_i
  have fr_i : sg (B (20 + i)) = sg0 (B (20 + i)) := (hf9 (B (20 + i)) (bk_ne hbk (i := (20 + i)) (j := 4) (by omega) (by omega) (by omega))).trans fr_i
  have fr_j : sg (B (20 + j)) = sg0 (B (20 + j)) := (hf9 (B (20 + j)) (bk_ne hbk (i := (20 + j)) (j := 4) (by omega) (by omega) (by omega))).trans fr_j
  have f_3 : sg (B 3) = sg0 (B 3) := (hf9 (B 3) (bk_ne hbk (i := 3) (j := 4) (by omega) (by omega) (by omega))).trans f_3
  have f_4 := fT9
  have hfr : ∀ b, b ≠ (B 7) → b ≠ (B 1) → b ≠ (B 2) → b ≠ (B 4) → b ≠ (B 5) → sg b = sg0 b := fun b n0 n1 n2 n3 n4 => (hf9 b n3).trans (hfr b n0 n1 n2 n3 n4)
  refine lv_aload_n hx hb dX4_radiusOfQuotient_19 rfl (lv_at hl 0 rfl) ?_
  refine bk_g C i4 hw hbk 5 (by decide) (v := .ref (B 2)) rfl dX4_radiusOfQuotient_20 lk30 ?_
  refine lv_aload_n hx hb dX4_radiusOfQuotient_23 rfl (lv_at hl 2 rfl) ?_
  refine lv_aload_n hx hb dX4_radiusOfQuotient_24 rfl (lv_at hl 1 rfl) ?_
  refine bl_gr C ib0 hw (bk_pl hbk (k := i) hi) dX4_radiusOfQuotient_25 lk92 ?_
  refine sv_v (As := [.ref (B 3), .ref (B (20 + i))]) (rest := []) C (v3_product _ _ _ _ _ hS (B 2) (B 3) (B (20 + i)) 8 8 (bk_in hbk (i := 2) (by omega)) (bk_in hbk (i := 3) (by omega)) (bk_in hbk (i := (20 + i)) (by omega)) (bk_ne hbk (i := 3) (j := 2) (by omega) (by omega) (by omega)) (bk_ne hbk (i := (20 + i)) (j := 2) (by omega) (by omega) (by omega)) (by rw [f_3]; exact b8 h4) (by rw [fr_i]; exact b8 h2) (by decide)) (cwV 2 hts gX4_radiusOfQuotient_X3_product rfl rfl rfl (by decide +kernel) ⟨Nat.le_of_ble_eq_true rfl, Nat.le_of_ble_eq_true rfl⟩) hsz hw (bd_recv C hw (bk_in hbk (i := 2) (by omega))) dX4_radiusOfQuotient_28 rfl hl.1 rfl (Nat.le_of_ble_eq_true rfl) ⟨Nat.le_refl _, Nat.le_refl _⟩ (fun z sg H locs hv9 hf9 hS hw => ?_)
  have fT9 : sg (B 2) = (sg0 (B 3) * sg0 (B (20 + i))) := hv9.trans (by rw [f_3, fr_i])
  have fm_i : sg (B (8 + i)) = sg0 (B (8 + i)) := (hf9 (B (8 + i)) (bk_ne hbk (i := (8 + i)) (j := 2) (by omega) (by omega) (by omega))).trans fm_i
  have fr_i : sg (B (20 + i)) = sg0 (B (20 + i)) := (hf9 (B (20 + i)) (bk_ne hbk (i := (20 + i)) (j := 2) (by omega) (by omega) (by omega))).trans fr_i
  have fr_j : sg (B (20 + j)) = sg0 (B (20 + j)) := (hf9 (B (20 + j)) (bk_ne hbk (i := (20 + j)) (j := 2) (by omega) (by omega) (by omega))).trans fr_j
  have f_3 : sg (B 3) = sg0 (B 3) := (hf9 (B 3) (bk_ne hbk (i := 3) (j := 2) (by omega) (by omega) (by omega))).trans f_3
  have f_4 : sg (B 4) = ((sg0 (B (8 + i)) * sg0 (B (20 + j))).natAbs : Int) := (hf9 (B 4) (bk_ne hbk (i := 4) (j := 2) (by omega) (by omega) (by omega))).trans f_4
  have f_2 := fT9
  have hfr : ∀ b, b ≠ (B 7) → b ≠ (B 1) → b ≠ (B 2) → b ≠ (B 4) → b ≠ (B 5) → sg b = sg0 b := fun b n0 n1 n2 n3 n4 => (hf9 b n2).trans (hfr b n0 n1 n2 n3 n4)
  refine lv_aload_n hx hb dX4_radiusOfQuotient_31 rfl (lv_at hl 0 rfl) ?_
  refine bk_g C i4 hw hbk 7 (by decide) (v := .ref (B 4)) rfl dX4_radiusOfQuotient_32 lk36 ?_
  refine lv_aload_n hx hb dX4_radiusOfQuotient_35 rfl (lv_at hl 0 rfl) ?_
  refine bk_g C i4 hw hbk 7 (by decide) (v := .ref (B 4)) rfl dX4_radiusOfQuotient_36 lk36 ?_
  refine lv_aload_n hx hb dX4_radiusOfQuotient_39 rfl (lv_at hl 0 rfl) ?_
  refine bk_g C i4 hw hbk 5 (by decide) (v := .ref (B 2)) rfl dX4_radiusOfQuotient_40 lk30 ?_
  refine sv_v (As := [.ref (B 4), .ref (B 2)]) (rest := []) C (v3_sum _ _ _ _ _ hS (B 4) (B 4) (B 2) (bk_in hbk (i := 4) (by omega)) (bk_in hbk (i := 4) (by omega)) (bk_in hbk (i := 2) (by omega)) (by rw [f_4, f_2]; exact hs1)) (cwV 2 hts gX4_radiusOfQuotient_X3_sum rfl rfl rfl (by decide +kernel) ⟨Nat.le_of_ble_eq_true rfl, Nat.le_of_ble_eq_true rfl⟩) hsz hw (bd_recv C hw (bk_in hbk (i := 4) (by omega))) dX4_radiusOfQuotient_43 rfl hl.1 rfl (Nat.le_of_ble_eq_true rfl) ⟨Nat.le_refl _, Nat.le_refl _⟩ (fun z sg H locs hv9 hf9 hS hw => ?_)
  have fT9 : sg (B 4) = (((sg0 (B (8 + i)) * sg0 (B (20 + j))).natAbs : Int) + (sg0 (B 3) * sg0 (B (20 + i)))) := hv9.trans (by rw [f_4, f_2])
  have fm_i : sg (B (8 + i)) = sg0 (B (8 + i)) := (hf9 (B (8 + i)) (bk_ne hbk (i := (8 + i)) (j := 4) (by omega) (by omega) (by omega))).trans fm_i
  have fr_i : sg (B (20 + i)) = sg0 (B (20 + i)) := (hf9 (B (20 + i)) (bk_ne hbk (i := (20 + i)) (j := 4) (by omega) (by omega) (by omega))).trans fr_i
  have fr_j : sg (B (20 + j)) = sg0 (B (20 + j)) := (hf9 (B (20 + j)) (bk_ne hbk (i := (20 + j)) (j := 4) (by omega) (by omega) (by omega))).trans fr_j
  have f_3 : sg (B 3) = sg0 (B 3) := (hf9 (B 3) (bk_ne hbk (i := 3) (j := 4) (by omega) (by omega) (by omega))).trans f_3
  have f_2 : sg (B 2) = (sg0 (B 3) * sg0 (B (20 + i))) := (hf9 (B 2) (bk_ne hbk (i := 2) (j := 4) (by omega) (by omega) (by omega))).trans f_2
  have f_4 := fT9
  have hfr : ∀ b, b ≠ (B 7) → b ≠ (B 1) → b ≠ (B 2) → b ≠ (B 4) → b ≠ (B 5) → sg b = sg0 b := fun b n0 n1 n2 n3 n4 => (hf9 b n3).trans (hfr b n0 n1 n2 n3 n4)
  refine lv_aload_n hx hb dX4_radiusOfQuotient_46 rfl (lv_at hl 0 rfl) ?_
  refine bk_g C i4 hw hbk 7 (by decide) (v := .ref (B 4)) rfl dX4_radiusOfQuotient_47 lk36 ?_
  refine lv_aload_n hx hb dX4_radiusOfQuotient_50 rfl (lv_at hl 0 rfl) ?_
  refine bk_g C i4 hw hbk 0 (by decide) (v := .int (nI P)) rfl dX4_radiusOfQuotient_51 lk58 ?_
  refine sv_v (As := [.int (nI P)]) (rest := []) C (v3_raise _ _ _ _ _ hS (B 4) P 16 (bk_in hbk (i := 4) (by omega)) (by omega) (by rw [f_4]; exact hs2) (by omega)) (cwV 1 hts gX4_radiusOfQuotient_X3_raise rfl rfl rfl (by decide +kernel) ⟨Nat.le_of_ble_eq_true rfl, Nat.le_of_ble_eq_true rfl⟩) hsz hw (bd_recv C hw (bk_in hbk (i := 4) (by omega))) dX4_radiusOfQuotient_54 rfl hl.1 rfl (Nat.le_of_ble_eq_true rfl) ⟨Nat.le_refl _, Nat.le_refl _⟩ (fun z sg H locs hv9 hf9 hS hw => ?_)
  have fT9 : sg (B 4) = ((((sg0 (B (8 + i)) * sg0 (B (20 + j))).natAbs : Int) + (sg0 (B 3) * sg0 (B (20 + i)))) * dk_p P) := hv9.trans (by rw [f_4])
  have fm_i : sg (B (8 + i)) = sg0 (B (8 + i)) := (hf9 (B (8 + i)) (bk_ne hbk (i := (8 + i)) (j := 4) (by omega) (by omega) (by omega))).trans fm_i
  have fr_i : sg (B (20 + i)) = sg0 (B (20 + i)) := (hf9 (B (20 + i)) (bk_ne hbk (i := (20 + i)) (j := 4) (by omega) (by omega) (by omega))).trans fr_i
  have fr_j : sg (B (20 + j)) = sg0 (B (20 + j)) := (hf9 (B (20 + j)) (bk_ne hbk (i := (20 + j)) (j := 4) (by omega) (by omega) (by omega))).trans fr_j
  have f_3 : sg (B 3) = sg0 (B 3) := (hf9 (B 3) (bk_ne hbk (i := 3) (j := 4) (by omega) (by omega) (by omega))).trans f_3
  have f_2 : sg (B 2) = (sg0 (B 3) * sg0 (B (20 + i))) := (hf9 (B 2) (bk_ne hbk (i := 2) (j := 4) (by omega) (by omega) (by omega))).trans f_2
  have f_4 := fT9
  have hfr : ∀ b, b ≠ (B 7) → b ≠ (B 1) → b ≠ (B 2) → b ≠ (B 4) → b ≠ (B 5) → sg b = sg0 b := fun b n0 n1 n2 n3 n4 => (hf9 b n3).trans (hfr b n0 n1 n2 n3 n4)
  refine lv_aload_n hx hb dX4_radiusOfQuotient_57 rfl (lv_at hl 0 rfl) ?_
  refine bk_g C i4 hw hbk 4 (by decide) (v := .ref (B 1)) rfl dX4_radiusOfQuotient_58 lk27 ?_
  refine lv_aload_n hx hb dX4_radiusOfQuotient_61 rfl (lv_at hl 2 rfl) ?_
  refine lv_aload_n hx hb dX4_radiusOfQuotient_62 rfl (lv_at hl 3 rfl) ?_
  refine sv_v (As := [.ref (B 3), .ref (B (20 + j))]) (rest := []) C (v3_difference _ _ _ _ _ hS (B 1) (B 3) (B (20 + j)) (bk_in hbk (i := 1) (by omega)) (bk_in hbk (i := 3) (by omega)) (bk_in hbk (i := (20 + j)) (by omega)) (by rw [f_3, fr_j]; exact hs3)) (cwV 2 hts gX4_radiusOfQuotient_X3_difference rfl rfl rfl (by decide +kernel) ⟨Nat.le_of_ble_eq_true rfl, Nat.le_of_ble_eq_true rfl⟩) hsz hw (bd_recv C hw (bk_in hbk (i := 1) (by omega))) dX4_radiusOfQuotient_63 rfl hl.1 rfl (Nat.le_of_ble_eq_true rfl) ⟨Nat.le_refl _, Nat.le_refl _⟩ (fun z sg H locs hv9 hf9 hS hw => ?_)
  have fT9 : sg (B 1) = (sg0 (B 3) - sg0 (B (20 + j))) := hv9.trans (by rw [f_3, fr_j])
  have fm_i : sg (B (8 + i)) = sg0 (B (8 + i)) := (hf9 (B (8 + i)) (bk_ne hbk (i := (8 + i)) (j := 1) (by omega) (by omega) (by omega))).trans fm_i
  have fr_i : sg (B (20 + i)) = sg0 (B (20 + i)) := (hf9 (B (20 + i)) (bk_ne hbk (i := (20 + i)) (j := 1) (by omega) (by omega) (by omega))).trans fr_i
  have fr_j : sg (B (20 + j)) = sg0 (B (20 + j)) := (hf9 (B (20 + j)) (bk_ne hbk (i := (20 + j)) (j := 1) (by omega) (by omega) (by omega))).trans fr_j
  have f_3 : sg (B 3) = sg0 (B 3) := (hf9 (B 3) (bk_ne hbk (i := 3) (j := 1) (by omega) (by omega) (by omega))).trans f_3
  have f_4 : sg (B 4) = ((((sg0 (B (8 + i)) * sg0 (B (20 + j))).natAbs : Int) + (sg0 (B 3) * sg0 (B (20 + i)))) * dk_p P) := (hf9 (B 4) (bk_ne hbk (i := 4) (j := 1) (by omega) (by omega) (by omega))).trans f_4
  have f_2 : sg (B 2) = (sg0 (B 3) * sg0 (B (20 + i))) := (hf9 (B 2) (bk_ne hbk (i := 2) (j := 1) (by omega) (by omega) (by omega))).trans f_2
  have f_1 := fT9
  have hfr : ∀ b, b ≠ (B 7) → b ≠ (B 1) → b ≠ (B 2) → b ≠ (B 4) → b ≠ (B 5) → sg b = sg0 b := fun b n0 n1 n2 n3 n4 => (hf9 b n1).trans (hfr b n0 n1 n2 n3 n4)
  refine lv_aload_n hx hb dX4_radiusOfQuotient_66 rfl (lv_at hl 0 rfl) ?_
  refine bk_g C i4 hw hbk 5 (by decide) (v := .ref (B 2)) rfl dX4_radiusOfQuotient_67 lk30 ?_
  refine lv_aload_n hx hb dX4_radiusOfQuotient_70 rfl (lv_at hl 2 rfl) ?_
  refine lv_aload_n hx hb dX4_radiusOfQuotient_71 rfl (lv_at hl 0 rfl) ?_
  refine bk_g C i4 hw hbk 4 (by decide) (v := .ref (B 1)) rfl dX4_radiusOfQuotient_72 lk27 ?_
  refine sv_v (As := [.ref (B 3), .ref (B 1)]) (rest := []) C (v3_product _ _ _ _ _ hS (B 2) (B 3) (B 1) 8 8 (bk_in hbk (i := 2) (by omega)) (bk_in hbk (i := 3) (by omega)) (bk_in hbk (i := 1) (by omega)) (bk_ne hbk (i := 3) (j := 2) (by omega) (by omega) (by omega)) (bk_ne hbk (i := 1) (j := 2) (by omega) (by omega) (by omega)) (by rw [f_3]; exact b8 h4) (by rw [f_1]; exact hs4) (by decide)) (cwV 2 hts gX4_radiusOfQuotient_X3_product rfl rfl rfl (by decide +kernel) ⟨Nat.le_of_ble_eq_true rfl, Nat.le_of_ble_eq_true rfl⟩) hsz hw (bd_recv C hw (bk_in hbk (i := 2) (by omega))) dX4_radiusOfQuotient_75 rfl hl.1 rfl (Nat.le_of_ble_eq_true rfl) ⟨Nat.le_refl _, Nat.le_refl _⟩ (fun z sg H locs hv9 hf9 hS hw => ?_)
  have fT9 : sg (B 2) = (sg0 (B 3) * (sg0 (B 3) - sg0 (B (20 + j)))) := hv9.trans (by rw [f_3, f_1])
  have fm_i : sg (B (8 + i)) = sg0 (B (8 + i)) := (hf9 (B (8 + i)) (bk_ne hbk (i := (8 + i)) (j := 2) (by omega) (by omega) (by omega))).trans fm_i
  have fr_i : sg (B (20 + i)) = sg0 (B (20 + i)) := (hf9 (B (20 + i)) (bk_ne hbk (i := (20 + i)) (j := 2) (by omega) (by omega) (by omega))).trans fr_i
  have fr_j : sg (B (20 + j)) = sg0 (B (20 + j)) := (hf9 (B (20 + j)) (bk_ne hbk (i := (20 + j)) (j := 2) (by omega) (by omega) (by omega))).trans fr_j
  have f_3 : sg (B 3) = sg0 (B 3) := (hf9 (B 3) (bk_ne hbk (i := 3) (j := 2) (by omega) (by omega) (by omega))).trans f_3
  have f_4 : sg (B 4) = ((((sg0 (B (8 + i)) * sg0 (B (20 + j))).natAbs : Int) + (sg0 (B 3) * sg0 (B (20 + i)))) * dk_p P) := (hf9 (B 4) (bk_ne hbk (i := 4) (j := 2) (by omega) (by omega) (by omega))).trans f_4
  have f_1 : sg (B 1) = (sg0 (B 3) - sg0 (B (20 + j))) := (hf9 (B 1) (bk_ne hbk (i := 1) (j := 2) (by omega) (by omega) (by omega))).trans f_1
  have f_2 := fT9
  have hfr : ∀ b, b ≠ (B 7) → b ≠ (B 1) → b ≠ (B 2) → b ≠ (B 4) → b ≠ (B 5) → sg b = sg0 b := fun b n0 n1 n2 n3 n4 => (hf9 b n2).trans (hfr b n0 n1 n2 n3 n4)
  refine lv_aload_n hx hb dX4_radiusOfQuotient_78 rfl (lv_at hl 0 rfl) ?_
  refine bk_g C i4 hw hbk 7 (by decide) (v := .ref (B 4)) rfl dX4_radiusOfQuotient_79 lk36 ?_
  refine sv_v (As := []) (rest := []) C (v3_turn _ _ _ _ _ hS (B 4) (bk_in hbk (i := 4) (by omega))) (cwV 0 hts gX4_radiusOfQuotient_X3_turn rfl rfl rfl (by decide +kernel) ⟨Nat.le_of_ble_eq_true rfl, Nat.le_of_ble_eq_true rfl⟩) hsz hw (bd_recv C hw (bk_in hbk (i := 4) (by omega))) dX4_radiusOfQuotient_82 rfl hl.1 rfl (Nat.le_of_ble_eq_true rfl) ⟨Nat.le_refl _, Nat.le_refl _⟩ (fun z sg H locs hv9 hf9 hS hw => ?_)
  have fT9 : sg (B 4) = (-((((sg0 (B (8 + i)) * sg0 (B (20 + j))).natAbs : Int) + (sg0 (B 3) * sg0 (B (20 + i)))) * dk_p P)) := hv9.trans (by rw [f_4])
  have fm_i : sg (B (8 + i)) = sg0 (B (8 + i)) := (hf9 (B (8 + i)) (bk_ne hbk (i := (8 + i)) (j := 4) (by omega) (by omega) (by omega))).trans fm_i
  have fr_i : sg (B (20 + i)) = sg0 (B (20 + i)) := (hf9 (B (20 + i)) (bk_ne hbk (i := (20 + i)) (j := 4) (by omega) (by omega) (by omega))).trans fr_i
  have fr_j : sg (B (20 + j)) = sg0 (B (20 + j)) := (hf9 (B (20 + j)) (bk_ne hbk (i := (20 + j)) (j := 4) (by omega) (by omega) (by omega))).trans fr_j
  have f_3 : sg (B 3) = sg0 (B 3) := (hf9 (B 3) (bk_ne hbk (i := 3) (j := 4) (by omega) (by omega) (by omega))).trans f_3
  have f_2 : sg (B 2) = (sg0 (B 3) * (sg0 (B 3) - sg0 (B (20 + j)))) := (hf9 (B 2) (bk_ne hbk (i := 2) (j := 4) (by omega) (by omega) (by omega))).trans f_2
  have f_1 : sg (B 1) = (sg0 (B 3) - sg0 (B (20 + j))) := (hf9 (B 1) (bk_ne hbk (i := 1) (j := 4) (by omega) (by omega) (by omega))).trans f_1
  have f_4 := fT9
  have hfr : ∀ b, b ≠ (B 7) → b ≠ (B 1) → b ≠ (B 2) → b ≠ (B 4) → b ≠ (B 5) → sg b = sg0 b := fun b n0 n1 n2 n3 n4 => (hf9 b n3).trans (hfr b n0 n1 n2 n3 n4)
  refine lv_aload_n hx hb dX4_radiusOfQuotient_85 rfl (lv_at hl 0 rfl) ?_
  refine bk_g C i4 hw hbk 9 (by decide) (v := .ref (a 16)) rfl dX4_radiusOfQuotient_86 lk45 ?_
  refine lv_aload_n hx hb dX4_radiusOfQuotient_89 rfl (lv_at hl 0 rfl) ?_
  refine bk_g C i4 hw hbk 3 (by decide) (v := .ref (a 2)) rfl dX4_radiusOfQuotient_90 lk23 ?_
  refine bl_gr C ib0 hw (bk_made hbk) dX4_radiusOfQuotient_93 lk92 ?_
  refine lv_aload_n hx hb dX4_radiusOfQuotient_96 rfl (lv_at hl 0 rfl) ?_
  refine bk_g C i4 hw hbk 7 (by decide) (v := .ref (B 4)) rfl dX4_radiusOfQuotient_97 lk36 ?_
  refine lv_aload_n hx hb dX4_radiusOfQuotient_100 rfl (lv_at hl 0 rfl) ?_
  refine bk_g C i4 hw hbk 5 (by decide) (v := .ref (B 2)) rfl dX4_radiusOfQuotient_101 lk30 ?_
  refine sv_q (As := [.ref (B 7), .ref (B 4), .ref (B 2)]) (rest := []) C (v1_quotient _ _ _ _ _ hS (a 16) (a 17) (a 18) (B 7) (B 4) (B 2) (bk_dv hbk) (bk_in hbk (i := 7) (by omega)) (bk_in hbk (i := 4) (by omega)) (bk_in hbk (i := 2) (by omega)) (by rw [f_2]; exact hs5) (by rw [f_4]; exact hs6)) (cwV 3 hts gX4_radiusOfQuotient_X1_quotient rfl rfl rfl (by decide +kernel) ⟨Nat.le_of_ble_eq_true rfl, Nat.le_of_ble_eq_true rfl⟩) hsz hw (dv_recv2 C hw (bk_dv hbk)) dX4_radiusOfQuotient_104 rfl hl.1 rfl (Nat.le_of_ble_eq_true rfl) ⟨Nat.le_refl _, Nat.le_refl _⟩ (fun E z sg H locs hd9 hfe9 hv9 hf9 hS hw => ?_)
  have hbk := bk_mv1 hbk hd9 hfe9
  have fT9 : sg (B 7) = (-((((sg0 (B (8 + i)) * sg0 (B (20 + j))).natAbs : Int) + (sg0 (B 3) * sg0 (B (20 + i)))) * dk_p P) / (sg0 (B 3) * (sg0 (B 3) - sg0 (B (20 + j))))) := hv9.trans (by rw [f_4, f_2])
  have fm_i : sg (B (8 + i)) = sg0 (B (8 + i)) := (hf9 (B (8 + i)) (bk_ne hbk (i := (8 + i)) (j := 7) (by omega) (by omega) (by omega))).trans fm_i
  have fr_i : sg (B (20 + i)) = sg0 (B (20 + i)) := (hf9 (B (20 + i)) (bk_ne hbk (i := (20 + i)) (j := 7) (by omega) (by omega) (by omega))).trans fr_i
  have fr_j : sg (B (20 + j)) = sg0 (B (20 + j)) := (hf9 (B (20 + j)) (bk_ne hbk (i := (20 + j)) (j := 7) (by omega) (by omega) (by omega))).trans fr_j
  have f_3 : sg (B 3) = sg0 (B 3) := (hf9 (B 3) (bk_ne hbk (i := 3) (j := 7) (by omega) (by omega) (by omega))).trans f_3
  have f_4 : sg (B 4) = (-((((sg0 (B (8 + i)) * sg0 (B (20 + j))).natAbs : Int) + (sg0 (B 3) * sg0 (B (20 + i)))) * dk_p P)) := (hf9 (B 4) (bk_ne hbk (i := 4) (j := 7) (by omega) (by omega) (by omega))).trans f_4
  have f_2 : sg (B 2) = (sg0 (B 3) * (sg0 (B 3) - sg0 (B (20 + j)))) := (hf9 (B 2) (bk_ne hbk (i := 2) (j := 7) (by omega) (by omega) (by omega))).trans f_2
  have f_1 : sg (B 1) = (sg0 (B 3) - sg0 (B (20 + j))) := (hf9 (B 1) (bk_ne hbk (i := 1) (j := 7) (by omega) (by omega) (by omega))).trans f_1
  have f_7 := fT9
  have hfr : ∀ b, b ≠ (B 7) → b ≠ (B 1) → b ≠ (B 2) → b ≠ (B 4) → b ≠ (B 5) → sg b = sg0 b := fun b n0 n1 n2 n3 n4 => (hf9 b n0).trans (hfr b n0 n1 n2 n3 n4)
  refine lv_pop hx hb dX4_radiusOfQuotient_107 rfl ?_
  refine lv_aload_n hx hb dX4_radiusOfQuotient_108 rfl (lv_at hl 0 rfl) ?_
  refine bk_g C i4 hw hbk 3 (by decide) (v := .ref (a 2)) rfl dX4_radiusOfQuotient_109 lk23 ?_
  refine bl_gr C ib0 hw (bk_made hbk) dX4_radiusOfQuotient_112 lk92 ?_
  refine sv_v (As := []) (rest := []) C (v3_turn _ _ _ _ _ hS (B 7) (bk_in hbk (i := 7) (by omega))) (cwV 0 hts gX4_radiusOfQuotient_X3_turn rfl rfl rfl (by decide +kernel) ⟨Nat.le_of_ble_eq_true rfl, Nat.le_of_ble_eq_true rfl⟩) hsz hw (bd_recv C hw (bk_in hbk (i := 7) (by omega))) dX4_radiusOfQuotient_115 rfl hl.1 rfl (Nat.le_of_ble_eq_true rfl) ⟨Nat.le_refl _, Nat.le_refl _⟩ (fun z sg H locs hv9 hf9 hS hw => ?_)
  have fT9 : sg (B 7) = (-(-((((sg0 (B (8 + i)) * sg0 (B (20 + j))).natAbs : Int) + (sg0 (B 3) * sg0 (B (20 + i)))) * dk_p P) / (sg0 (B 3) * (sg0 (B 3) - sg0 (B (20 + j)))))) := hv9.trans (by rw [f_7])
  have fm_i : sg (B (8 + i)) = sg0 (B (8 + i)) := (hf9 (B (8 + i)) (bk_ne hbk (i := (8 + i)) (j := 7) (by omega) (by omega) (by omega))).trans fm_i
  have fr_i : sg (B (20 + i)) = sg0 (B (20 + i)) := (hf9 (B (20 + i)) (bk_ne hbk (i := (20 + i)) (j := 7) (by omega) (by omega) (by omega))).trans fr_i
  have fr_j : sg (B (20 + j)) = sg0 (B (20 + j)) := (hf9 (B (20 + j)) (bk_ne hbk (i := (20 + j)) (j := 7) (by omega) (by omega) (by omega))).trans fr_j
  have f_3 : sg (B 3) = sg0 (B 3) := (hf9 (B 3) (bk_ne hbk (i := 3) (j := 7) (by omega) (by omega) (by omega))).trans f_3
  have f_4 : sg (B 4) = (-((((sg0 (B (8 + i)) * sg0 (B (20 + j))).natAbs : Int) + (sg0 (B 3) * sg0 (B (20 + i)))) * dk_p P)) := (hf9 (B 4) (bk_ne hbk (i := 4) (j := 7) (by omega) (by omega) (by omega))).trans f_4
  have f_2 : sg (B 2) = (sg0 (B 3) * (sg0 (B 3) - sg0 (B (20 + j)))) := (hf9 (B 2) (bk_ne hbk (i := 2) (j := 7) (by omega) (by omega) (by omega))).trans f_2
  have f_1 : sg (B 1) = (sg0 (B 3) - sg0 (B (20 + j))) := (hf9 (B 1) (bk_ne hbk (i := 1) (j := 7) (by omega) (by omega) (by omega))).trans f_1
  have f_7 := fT9
  have hfr : ∀ b, b ≠ (B 7) → b ≠ (B 1) → b ≠ (B 2) → b ≠ (B 4) → b ≠ (B 5) → sg b = sg0 b := fun b n0 n1 n2 n3 n4 => (hf9 b n0).trans (hfr b n0 n1 n2 n3 n4)
  refine lv_aload_n hx hb dX4_radiusOfQuotient_118 rfl (lv_at hl 0 rfl) ?_
  refine lv_aload_n hx hb dX4_radiusOfQuotient_119 rfl (lv_at hl 0 rfl) ?_
  refine bk_g C i4 hw hbk 3 (by decide) (v := .ref (a 2)) rfl dX4_radiusOfQuotient_120 lk23 ?_
  refine bl_gr C ib0 hw (bk_made hbk) dX4_radiusOfQuotient_123 lk92 ?_
  refine lv_lconst (v := lN 1) hx hb dX4_radiusOfQuotient_126 rfl ?_
  refine bd_cv (As := [.ref (B 7), .long (lN 1)]) (rest := []) C (c4_change _ _ _ _ _ hbk hS 7 (lN 1) (by decide) (by decide) (by rw [f_7]; exact hs7)) (cwV 2 hts gX4_radiusOfQuotient_X4_change rfl rfl rfl (by decide +kernel) ⟨Nat.le_of_ble_eq_true rfl, Nat.le_of_ble_eq_true rfl⟩) hsz hw (bk_recv C hw hbk) dX4_radiusOfQuotient_127 rfl hl.1 rfl (Nat.le_of_ble_eq_true rfl) ⟨Nat.le_refl _, Nat.le_refl _⟩ (fun E1 z H locs hp hw => ?_)
  obtain ⟨hE9, sg, hS, hv0_, hf9⟩ := hp
  rw [show E1 = E from hE9] at hw
  have fT0_ : sg (B 7) = (-(-((((sg0 (B (8 + i)) * sg0 (B (20 + j))).natAbs : Int) + (sg0 (B 3) * sg0 (B (20 + i)))) * dk_p P) / (sg0 (B 3) * (sg0 (B 3) - sg0 (B (20 + j))))) + 1) := hv0_.trans (by rw [f_7]; rfl)
  have fm_i : sg (B (8 + i)) = sg0 (B (8 + i)) := (hf9 (B (8 + i)) (bk_ne hbk (i := (8 + i)) (j := 7) (by omega) (by omega) (by omega)) (bk_ne hbk (i := (8 + i)) (j := 5) (by omega) (by omega) (by omega))).trans fm_i
  have fr_i : sg (B (20 + i)) = sg0 (B (20 + i)) := (hf9 (B (20 + i)) (bk_ne hbk (i := (20 + i)) (j := 7) (by omega) (by omega) (by omega)) (bk_ne hbk (i := (20 + i)) (j := 5) (by omega) (by omega) (by omega))).trans fr_i
  have fr_j : sg (B (20 + j)) = sg0 (B (20 + j)) := (hf9 (B (20 + j)) (bk_ne hbk (i := (20 + j)) (j := 7) (by omega) (by omega) (by omega)) (bk_ne hbk (i := (20 + j)) (j := 5) (by omega) (by omega) (by omega))).trans fr_j
  have f_3 : sg (B 3) = sg0 (B 3) := (hf9 (B 3) (bk_ne hbk (i := 3) (j := 7) (by omega) (by omega) (by omega)) (bk_ne hbk (i := 3) (j := 5) (by omega) (by omega) (by omega))).trans f_3
  have f_4 : sg (B 4) = (-((((sg0 (B (8 + i)) * sg0 (B (20 + j))).natAbs : Int) + (sg0 (B 3) * sg0 (B (20 + i)))) * dk_p P)) := (hf9 (B 4) (bk_ne hbk (i := 4) (j := 7) (by omega) (by omega) (by omega)) (bk_ne hbk (i := 4) (j := 5) (by omega) (by omega) (by omega))).trans f_4
  have f_2 : sg (B 2) = (sg0 (B 3) * (sg0 (B 3) - sg0 (B (20 + j)))) := (hf9 (B 2) (bk_ne hbk (i := 2) (j := 7) (by omega) (by omega) (by omega)) (bk_ne hbk (i := 2) (j := 5) (by omega) (by omega) (by omega))).trans f_2
  have f_1 : sg (B 1) = (sg0 (B 3) - sg0 (B (20 + j))) := (hf9 (B 1) (bk_ne hbk (i := 1) (j := 7) (by omega) (by omega) (by omega)) (bk_ne hbk (i := 1) (j := 5) (by omega) (by omega) (by omega))).trans f_1
  have f_7 := fT0_
  have hfr : ∀ b, b ≠ (B 7) → b ≠ (B 1) → b ≠ (B 2) → b ≠ (B 4) → b ≠ (B 5) → sg b = sg0 b := fun b n0 n1 n2 n3 n4 => (hf9 b n0 n4).trans (hfr b n0 n1 n2 n3 n4)
  exact bd_vret C hr hlk hw dX4_radiusOfQuotient_130 ⟨hbk, sg, hS, f_7, hfr⟩
set_option maxHeartbeats 4000000 in
set_option maxRecDepth 100000 in
/-- BallDesk.add -/
theorem c4_add (l : Launch) (K : Cxt) (E0 : Nat → va_E) (z0 : Nat → Wh) (sz : Nat) {P : Nat} {a B : Nat → Nat} (hbk : bk_at K E0 P a B) {sg0 : Nat → Int} (hS : sg_S K z0 sg0) {mu ra : Nat → Int} (hiv : bk_iv P B sg0 mu ra) (k i j : Int32)  : Met l yX4_add wsX4_add ({ frames := 7, cells := 0, slots := 0, locals := 240 }) (va_Pc [.ref (a 0), .int k, .int i, .int j] (bd_P K E0 z0 sz)) (va_Qi (bk_post K P a B (dk_add P k i j mu ra)) (bd_B K) (bd_A K sz)) 0 0 (bd_A K sz) := by
  refine bd_ofW (cc := cX4_add) (maxL := 4) (ret := (some .int)) (by decide) rfl (Nat.le_of_ble_eq_true rfl) ?_
  intro p e s m below meth c ls C hr hlk hsz hw hl
  have hx := C.1
  have hb := C.2.1
  have hown := C.2.2.2.1
  have hts := C.2.2.2.2.1
  have i4 : ∀ w ∈ wsX40, w ∈ wsX4_add := by decide +kernel
  have ib0 : ∀ w ∈ wsX00, w ∈ wsX4_add := by decide +kernel
  have lk23 : Cond.fieldLink RX4 23 "BallDesk" "made" "LBallDesk$Ball;" ∈ wsX4_add := by decide +kernel
  have lk85 : Cond.fieldLink RX4 85 "BallDesk$Ball" "middle" "LBallDesk$Whole;" ∈ wsX4_add := by decide +kernel
  have lk18 : Cond.fieldLink RX4 18 "BallDesk" "places" "[LBallDesk$Ball;" ∈ wsX4_add := by decide +kernel
  have lk92 : Cond.fieldLink RX4 92 "BallDesk$Ball" "radius" "LBallDesk$Whole;" ∈ wsX4_add := by decide +kernel
  obtain ⟨hP1, hP2⟩ := bk_P hbk
  have hl : lv_has ls 4 [(0, .ref (a 0)), (1, .int k), (2, .int i), (3, .int j)] := hl
  have hof : ∀ j, (j = 0 ∨ 8 ≤ j) → j < 32 → sg0 (B j) = sg0 (B j) := fun _ _ _ => rfl
  have hfi := hiv.2.1
  refine lv_iload_n hx hb dX4_add_0 rfl (lv_at hl 1 rfl) ?_
  refine bd_sip (As := [.int k]) (rest := []) C (c4_isPlace _ _ _ _ _ k) (va_cwS 1 hts gX4_add_X4_isPlace rfl rfl rfl (by decide +kernel) ⟨Nat.le_of_ble_eq_true rfl, Nat.le_of_ble_eq_true rfl⟩) hsz hw dX4_add_1 rfl hl.1 rfl (Nat.le_of_ble_eq_true rfl) ⟨Nat.le_refl _, Nat.le_refl _⟩ (fun H locs hw => ?_)
  refine lv_if_eq (tgt := 21) hx hb dX4_add_4 (by decide) (fun hc4 => ?_) (fun hc4 => ?_)
  · have hno := pl_f hc4
    refine lv_iconst (v := (-1)) hx hb dX4_add_21 (by decide) ?_
    have hd9 : dk_add P k i j mu ra = (-1, mu, ra) := if_neg (fun q => hno q.1)
    exact bd_iret C hr hlk hw dX4_add_22 (by rw [hd9]; exact ⟨rfl, hbk, sg0, hS, bk_ivm hiv hof hfi⟩)
  · have hpl_kn := pl_t hc4
    obtain ⟨kn, hkn, hk_kn, hx_kn⟩ := pl_x hpl_kn
    subst hk_kn
    refine lv_iload_n hx hb dX4_add_7 rfl (lv_at hl 2 rfl) ?_
    refine bd_sip (As := [.int i]) (rest := []) C (c4_isPlace _ _ _ _ _ i) (va_cwS 1 hts gX4_add_X4_isPlace rfl rfl rfl (by decide +kernel) ⟨Nat.le_of_ble_eq_true rfl, Nat.le_of_ble_eq_true rfl⟩) hsz hw dX4_add_8 rfl hl.1 rfl (Nat.le_of_ble_eq_true rfl) ⟨Nat.le_refl _, Nat.le_refl _⟩ (fun H locs hw => ?_)
    refine lv_if_eq (tgt := 21) hx hb dX4_add_11 (by decide) (fun hc11 => ?_) (fun hc11 => ?_)
    · have hno := pl_f hc11
      refine lv_iconst (v := (-1)) hx hb dX4_add_21 (by decide) ?_
      have hd9 : dk_add P (nI kn) i j mu ra = (-1, mu, ra) := if_neg (fun q => hno q.2.1)
      exact bd_iret C hr hlk hw dX4_add_22 (by rw [hd9]; exact ⟨rfl, hbk, sg0, hS, bk_ivm hiv hof hfi⟩)
    · have hpl_im := pl_t hc11
      obtain ⟨im, him, hk_im, hx_im⟩ := pl_x hpl_im
      subst hk_im
      refine lv_iload_n hx hb dX4_add_14 rfl (lv_at hl 3 rfl) ?_
      refine bd_sip (As := [.int j]) (rest := []) C (c4_isPlace _ _ _ _ _ j) (va_cwS 1 hts gX4_add_X4_isPlace rfl rfl rfl (by decide +kernel) ⟨Nat.le_of_ble_eq_true rfl, Nat.le_of_ble_eq_true rfl⟩) hsz hw dX4_add_15 rfl hl.1 rfl (Nat.le_of_ble_eq_true rfl) ⟨Nat.le_refl _, Nat.le_refl _⟩ (fun H locs hw => ?_)
      refine lv_if_ne (tgt := 23) hx hb dX4_add_18 (by decide) (fun hc18 => ?_) (fun hc18 => ?_)
      · have hpl_jm := pl_t hc18
        obtain ⟨jm, hjm, hk_jm, hx_jm⟩ := pl_x hpl_jm
        subst hk_jm
        obtain ⟨hbm_im, hb0_im, hbr_im⟩ := bk_b hP2 hiv him
        obtain ⟨hbm_jm, hb0_jm, hbr_jm⟩ := bk_b hP2 hiv hjm
        have hd : dk_add P (nI kn) (nI im) (nI jm) mu ra = dk_keep P kn (mu im + mu jm) (ra im + ra jm) mu ra := by unfold dk_add; rw [if_pos ⟨hpl_kn, hpl_im, hpl_jm⟩, hx_kn, hx_im, hx_jm]
        refine lv_aload_n hx hb dX4_add_23 rfl (lv_at hl 0 rfl) ?_
        refine bk_g C i4 hw hbk 3 (by decide) (v := .ref (a 2)) rfl dX4_add_24 lk23 ?_
        refine bl_gm C ib0 hw (bk_made hbk) dX4_add_27 lk85 ?_
        refine lv_aload_n hx hb dX4_add_30 rfl (lv_at hl 0 rfl) ?_
        refine bk_g C i4 hw hbk 2 (by decide) (v := .ref (a 1)) rfl dX4_add_31 lk18 ?_
        refine lv_iload_n hx hb dX4_add_34 rfl (lv_at hl 2 rfl) ?_
        refine bk_ald C hw hbk him dX4_add_35 ?_
        refine bl_gm C ib0 hw (bk_pl hbk (k := im) him) dX4_add_36 lk85 ?_
        refine lv_aload_n hx hb dX4_add_39 rfl (lv_at hl 0 rfl) ?_
        refine bk_g C i4 hw hbk 2 (by decide) (v := .ref (a 1)) rfl dX4_add_40 lk18 ?_
        refine lv_iload_n hx hb dX4_add_43 rfl (lv_at hl 3 rfl) ?_
        refine bk_ald C hw hbk hjm dX4_add_44 ?_
        refine bl_gm C ib0 hw (bk_pl hbk (k := jm) hjm) dX4_add_45 lk85 ?_
        have fm_im : sg0 (B (8 + im)) = mu im := (hof (8 + im) (by omega) (by omega)).trans (hiv.2.2 im him).1
        have fm_jm : sg0 (B (8 + jm)) = mu jm := (hof (8 + jm) (by omega) (by omega)).trans (hiv.2.2 jm hjm).1
        refine sv_v (As := [.ref (B (8 + im)), .ref (B (8 + jm))]) (rest := []) C (v3_sum _ _ _ _ _ hS (B 6) (B (8 + im)) (B (8 + jm)) (bk_in hbk (i := 6) (by omega)) (bk_in hbk (i := (8 + im)) (by omega)) (bk_in hbk (i := (8 + jm)) (by omega)) (by rw [fm_im, fm_jm]; exact (Nat.lt_of_le_of_lt (Nat.add_le_add hbm_im hbm_jm) (by decide +kernel)))) (cwV 2 hts gX4_add_X3_sum rfl rfl rfl (by decide +kernel) ⟨Nat.le_of_ble_eq_true rfl, Nat.le_of_ble_eq_true rfl⟩) hsz hw (bd_recv C hw (bk_in hbk (i := 6) (by omega))) dX4_add_48 rfl hl.1 rfl (Nat.le_of_ble_eq_true rfl) ⟨Nat.le_refl _, Nat.le_refl _⟩ (fun z sg H locs hv9 hf9 hS hw => ?_)
        have fT9 : sg (B 6) = (mu im + mu jm) := hv9.trans (by rw [fm_im, fm_jm])
        have f_6 := fT9
        have hof : ∀ j, (j = 0 ∨ 8 ≤ j) → j < 32 → sg (B j) = sg0 (B j) := fun j h1 h2 => (hf9 (B j) (bk_ne hbk (i := j) (j := 6) (by omega) (by omega) (by omega))).trans (hof j h1 h2)
        have hfi : fn_iv (P + 64) (bk_A B) sg := fn_ivm hfi (hf9 (bk_A B 1) (bk_ne hbk (i := 31 + 1) (j := 6) (by decide) (by decide) (by decide))) (hf9 (bk_A B 2) (bk_ne hbk (i := 31 + 2) (j := 6) (by decide) (by decide) (by decide))) (hf9 (bk_A B 3) (bk_ne hbk (i := 31 + 3) (j := 6) (by decide) (by decide) (by decide)))
        refine lv_aload_n hx hb dX4_add_51 rfl (lv_at hl 0 rfl) ?_
        refine bk_g C i4 hw hbk 3 (by decide) (v := .ref (a 2)) rfl dX4_add_52 lk23 ?_
        refine bl_gr C ib0 hw (bk_made hbk) dX4_add_55 lk92 ?_
        refine lv_aload_n hx hb dX4_add_58 rfl (lv_at hl 0 rfl) ?_
        refine bk_g C i4 hw hbk 2 (by decide) (v := .ref (a 1)) rfl dX4_add_59 lk18 ?_
        refine lv_iload_n hx hb dX4_add_62 rfl (lv_at hl 2 rfl) ?_
        refine bk_ald C hw hbk him dX4_add_63 ?_
        refine bl_gr C ib0 hw (bk_pl hbk (k := im) him) dX4_add_64 lk92 ?_
        refine lv_aload_n hx hb dX4_add_67 rfl (lv_at hl 0 rfl) ?_
        refine bk_g C i4 hw hbk 2 (by decide) (v := .ref (a 1)) rfl dX4_add_68 lk18 ?_
        refine lv_iload_n hx hb dX4_add_71 rfl (lv_at hl 3 rfl) ?_
        refine bk_ald C hw hbk hjm dX4_add_72 ?_
        refine bl_gr C ib0 hw (bk_pl hbk (k := jm) hjm) dX4_add_73 lk92 ?_
        have fr_im : sg (B (20 + im)) = ra im := (hof (20 + im) (by omega) (by omega)).trans (hiv.2.2 im him).2.1
        have fr_jm : sg (B (20 + jm)) = ra jm := (hof (20 + jm) (by omega) (by omega)).trans (hiv.2.2 jm hjm).2.1
        refine sv_v (As := [.ref (B (20 + im)), .ref (B (20 + jm))]) (rest := []) C (v3_sum _ _ _ _ _ hS (B 7) (B (20 + im)) (B (20 + jm)) (bk_in hbk (i := 7) (by omega)) (bk_in hbk (i := (20 + im)) (by omega)) (bk_in hbk (i := (20 + jm)) (by omega)) (by rw [fr_im, fr_jm]; exact (Nat.lt_of_le_of_lt (Nat.add_le_add hbr_im hbr_jm) (by decide +kernel)))) (cwV 2 hts gX4_add_X3_sum rfl rfl rfl (by decide +kernel) ⟨Nat.le_of_ble_eq_true rfl, Nat.le_of_ble_eq_true rfl⟩) hsz hw (bd_recv C hw (bk_in hbk (i := 7) (by omega))) dX4_add_76 rfl hl.1 rfl (Nat.le_of_ble_eq_true rfl) ⟨Nat.le_refl _, Nat.le_refl _⟩ (fun z sg H locs hv9 hf9 hS hw => ?_)
        have fT9 : sg (B 7) = (ra im + ra jm) := hv9.trans (by rw [fr_im, fr_jm])
        have f_6 : sg (B 6) = (mu im + mu jm) := (hf9 (B 6) (bk_ne hbk (i := 6) (j := 7) (by omega) (by omega) (by omega))).trans f_6
        have f_7 := fT9
        have hof : ∀ j, (j = 0 ∨ 8 ≤ j) → j < 32 → sg (B j) = sg0 (B j) := fun j h1 h2 => (hf9 (B j) (bk_ne hbk (i := j) (j := 7) (by omega) (by omega) (by omega))).trans (hof j h1 h2)
        have hfi : fn_iv (P + 64) (bk_A B) sg := fn_ivm hfi (hf9 (bk_A B 1) (bk_ne hbk (i := 31 + 1) (j := 7) (by decide) (by decide) (by decide))) (hf9 (bk_A B 2) (bk_ne hbk (i := 31 + 2) (j := 7) (by decide) (by decide) (by decide))) (hf9 (bk_A B 3) (bk_ne hbk (i := 31 + 3) (j := 7) (by decide) (by decide) (by decide)))
        refine lv_aload_n hx hb dX4_add_79 rfl (lv_at hl 0 rfl) ?_
        refine lv_iload_n hx hb dX4_add_80 rfl (lv_at hl 1 rfl) ?_
        refine bd_ci (As := [.int (nI kn)]) (rest := []) C (c4_keep _ _ _ _ _ hbk hS (bk_ivm hiv hof hfi) kn hkn) (cwV 1 hts gX4_add_X4_keep rfl rfl rfl (by decide +kernel) ⟨Nat.le_of_ble_eq_true rfl, Nat.le_of_ble_eq_true rfl⟩) hsz hw (bk_recv C hw hbk) dX4_add_81 rfl hl.1 rfl (Nat.le_of_ble_eq_true rfl) ⟨Nat.le_refl _, Nat.le_refl _⟩ (fun r9 E9 z H locs hp hw => ?_)
        rw [f_6, f_7] at hp
        exact bd_iret C hr hlk hw dX4_add_84 (by rw [hd]; exact hp)
      · have hno := pl_f hc18
        refine lv_iconst (v := (-1)) hx hb dX4_add_21 (by decide) ?_
        have hd9 : dk_add P (nI kn) (nI im) j mu ra = (-1, mu, ra) := if_neg (fun q => hno q.2.2)
        exact bd_iret C hr hlk hw dX4_add_22 (by rw [hd9]; exact ⟨rfl, hbk, sg0, hS, bk_ivm hiv hof hfi⟩)
set_option maxHeartbeats 4000000 in
set_option maxRecDepth 100000 in
/-- BallDesk.take -/
theorem c4_take (l : Launch) (K : Cxt) (E0 : Nat → va_E) (z0 : Nat → Wh) (sz : Nat) {P : Nat} {a B : Nat → Nat} (hbk : bk_at K E0 P a B) {sg0 : Nat → Int} (hS : sg_S K z0 sg0) {mu ra : Nat → Int} (hiv : bk_iv P B sg0 mu ra) (k i j : Int32)  : Met l yX4_take wsX4_take ({ frames := 7, cells := 0, slots := 0, locals := 240 }) (va_Pc [.ref (a 0), .int k, .int i, .int j] (bd_P K E0 z0 sz)) (va_Qi (bk_post K P a B (dk_take P k i j mu ra)) (bd_B K) (bd_A K sz)) 0 0 (bd_A K sz) := by
  refine bd_ofW (cc := cX4_take) (maxL := 4) (ret := (some .int)) (by decide) rfl (Nat.le_of_ble_eq_true rfl) ?_
  intro p e s m below meth c ls C hr hlk hsz hw hl
  have hx := C.1
  have hb := C.2.1
  have hown := C.2.2.2.1
  have hts := C.2.2.2.2.1
  have i4 : ∀ w ∈ wsX40, w ∈ wsX4_take := by decide +kernel
  have ib0 : ∀ w ∈ wsX00, w ∈ wsX4_take := by decide +kernel
  have lk23 : Cond.fieldLink RX4 23 "BallDesk" "made" "LBallDesk$Ball;" ∈ wsX4_take := by decide +kernel
  have lk85 : Cond.fieldLink RX4 85 "BallDesk$Ball" "middle" "LBallDesk$Whole;" ∈ wsX4_take := by decide +kernel
  have lk18 : Cond.fieldLink RX4 18 "BallDesk" "places" "[LBallDesk$Ball;" ∈ wsX4_take := by decide +kernel
  have lk92 : Cond.fieldLink RX4 92 "BallDesk$Ball" "radius" "LBallDesk$Whole;" ∈ wsX4_take := by decide +kernel
  obtain ⟨hP1, hP2⟩ := bk_P hbk
  have hl : lv_has ls 4 [(0, .ref (a 0)), (1, .int k), (2, .int i), (3, .int j)] := hl
  have hof : ∀ j, (j = 0 ∨ 8 ≤ j) → j < 32 → sg0 (B j) = sg0 (B j) := fun _ _ _ => rfl
  have hfi := hiv.2.1
  refine lv_iload_n hx hb dX4_take_0 rfl (lv_at hl 1 rfl) ?_
  refine bd_sip (As := [.int k]) (rest := []) C (c4_isPlace _ _ _ _ _ k) (va_cwS 1 hts gX4_take_X4_isPlace rfl rfl rfl (by decide +kernel) ⟨Nat.le_of_ble_eq_true rfl, Nat.le_of_ble_eq_true rfl⟩) hsz hw dX4_take_1 rfl hl.1 rfl (Nat.le_of_ble_eq_true rfl) ⟨Nat.le_refl _, Nat.le_refl _⟩ (fun H locs hw => ?_)
  refine lv_if_eq (tgt := 21) hx hb dX4_take_4 (by decide) (fun hc4 => ?_) (fun hc4 => ?_)
  · have hno := pl_f hc4
    refine lv_iconst (v := (-1)) hx hb dX4_take_21 (by decide) ?_
    have hd9 : dk_take P k i j mu ra = (-1, mu, ra) := if_neg (fun q => hno q.1)
    exact bd_iret C hr hlk hw dX4_take_22 (by rw [hd9]; exact ⟨rfl, hbk, sg0, hS, bk_ivm hiv hof hfi⟩)
  · have hpl_kn := pl_t hc4
    obtain ⟨kn, hkn, hk_kn, hx_kn⟩ := pl_x hpl_kn
    subst hk_kn
    refine lv_iload_n hx hb dX4_take_7 rfl (lv_at hl 2 rfl) ?_
    refine bd_sip (As := [.int i]) (rest := []) C (c4_isPlace _ _ _ _ _ i) (va_cwS 1 hts gX4_take_X4_isPlace rfl rfl rfl (by decide +kernel) ⟨Nat.le_of_ble_eq_true rfl, Nat.le_of_ble_eq_true rfl⟩) hsz hw dX4_take_8 rfl hl.1 rfl (Nat.le_of_ble_eq_true rfl) ⟨Nat.le_refl _, Nat.le_refl _⟩ (fun H locs hw => ?_)
    refine lv_if_eq (tgt := 21) hx hb dX4_take_11 (by decide) (fun hc11 => ?_) (fun hc11 => ?_)
    · have hno := pl_f hc11
      refine lv_iconst (v := (-1)) hx hb dX4_take_21 (by decide) ?_
      have hd9 : dk_take P (nI kn) i j mu ra = (-1, mu, ra) := if_neg (fun q => hno q.2.1)
      exact bd_iret C hr hlk hw dX4_take_22 (by rw [hd9]; exact ⟨rfl, hbk, sg0, hS, bk_ivm hiv hof hfi⟩)
    · have hpl_im := pl_t hc11
      obtain ⟨im, him, hk_im, hx_im⟩ := pl_x hpl_im
      subst hk_im
      refine lv_iload_n hx hb dX4_take_14 rfl (lv_at hl 3 rfl) ?_
      refine bd_sip (As := [.int j]) (rest := []) C (c4_isPlace _ _ _ _ _ j) (va_cwS 1 hts gX4_take_X4_isPlace rfl rfl rfl (by decide +kernel) ⟨Nat.le_of_ble_eq_true rfl, Nat.le_of_ble_eq_true rfl⟩) hsz hw dX4_take_15 rfl hl.1 rfl (Nat.le_of_ble_eq_true rfl) ⟨Nat.le_refl _, Nat.le_refl _⟩ (fun H locs hw => ?_)
      refine lv_if_ne (tgt := 23) hx hb dX4_take_18 (by decide) (fun hc18 => ?_) (fun hc18 => ?_)
      · have hpl_jm := pl_t hc18
        obtain ⟨jm, hjm, hk_jm, hx_jm⟩ := pl_x hpl_jm
        subst hk_jm
        obtain ⟨hbm_im, hb0_im, hbr_im⟩ := bk_b hP2 hiv him
        obtain ⟨hbm_jm, hb0_jm, hbr_jm⟩ := bk_b hP2 hiv hjm
        have hd : dk_take P (nI kn) (nI im) (nI jm) mu ra = dk_keep P kn (mu im - mu jm) (ra im + ra jm) mu ra := by unfold dk_take; rw [if_pos ⟨hpl_kn, hpl_im, hpl_jm⟩, hx_kn, hx_im, hx_jm]
        refine lv_aload_n hx hb dX4_take_23 rfl (lv_at hl 0 rfl) ?_
        refine bk_g C i4 hw hbk 3 (by decide) (v := .ref (a 2)) rfl dX4_take_24 lk23 ?_
        refine bl_gm C ib0 hw (bk_made hbk) dX4_take_27 lk85 ?_
        refine lv_aload_n hx hb dX4_take_30 rfl (lv_at hl 0 rfl) ?_
        refine bk_g C i4 hw hbk 2 (by decide) (v := .ref (a 1)) rfl dX4_take_31 lk18 ?_
        refine lv_iload_n hx hb dX4_take_34 rfl (lv_at hl 2 rfl) ?_
        refine bk_ald C hw hbk him dX4_take_35 ?_
        refine bl_gm C ib0 hw (bk_pl hbk (k := im) him) dX4_take_36 lk85 ?_
        refine lv_aload_n hx hb dX4_take_39 rfl (lv_at hl 0 rfl) ?_
        refine bk_g C i4 hw hbk 2 (by decide) (v := .ref (a 1)) rfl dX4_take_40 lk18 ?_
        refine lv_iload_n hx hb dX4_take_43 rfl (lv_at hl 3 rfl) ?_
        refine bk_ald C hw hbk hjm dX4_take_44 ?_
        refine bl_gm C ib0 hw (bk_pl hbk (k := jm) hjm) dX4_take_45 lk85 ?_
        have fm_im : sg0 (B (8 + im)) = mu im := (hof (8 + im) (by omega) (by omega)).trans (hiv.2.2 im him).1
        have fm_jm : sg0 (B (8 + jm)) = mu jm := (hof (8 + jm) (by omega) (by omega)).trans (hiv.2.2 jm hjm).1
        refine sv_v (As := [.ref (B (8 + im)), .ref (B (8 + jm))]) (rest := []) C (v3_difference _ _ _ _ _ hS (B 6) (B (8 + im)) (B (8 + jm)) (bk_in hbk (i := 6) (by omega)) (bk_in hbk (i := (8 + im)) (by omega)) (bk_in hbk (i := (8 + jm)) (by omega)) (by rw [fm_im, fm_jm]; exact (Nat.lt_of_le_of_lt (Nat.add_le_add hbm_im hbm_jm) (by decide +kernel)))) (cwV 2 hts gX4_take_X3_difference rfl rfl rfl (by decide +kernel) ⟨Nat.le_of_ble_eq_true rfl, Nat.le_of_ble_eq_true rfl⟩) hsz hw (bd_recv C hw (bk_in hbk (i := 6) (by omega))) dX4_take_48 rfl hl.1 rfl (Nat.le_of_ble_eq_true rfl) ⟨Nat.le_refl _, Nat.le_refl _⟩ (fun z sg H locs hv9 hf9 hS hw => ?_)
        have fT9 : sg (B 6) = (mu im - mu jm) := hv9.trans (by rw [fm_im, fm_jm])
        have f_6 := fT9
        have hof : ∀ j, (j = 0 ∨ 8 ≤ j) → j < 32 → sg (B j) = sg0 (B j) := fun j h1 h2 => (hf9 (B j) (bk_ne hbk (i := j) (j := 6) (by omega) (by omega) (by omega))).trans (hof j h1 h2)
        have hfi : fn_iv (P + 64) (bk_A B) sg := fn_ivm hfi (hf9 (bk_A B 1) (bk_ne hbk (i := 31 + 1) (j := 6) (by decide) (by decide) (by decide))) (hf9 (bk_A B 2) (bk_ne hbk (i := 31 + 2) (j := 6) (by decide) (by decide) (by decide))) (hf9 (bk_A B 3) (bk_ne hbk (i := 31 + 3) (j := 6) (by decide) (by decide) (by decide)))
        refine lv_aload_n hx hb dX4_take_51 rfl (lv_at hl 0 rfl) ?_
        refine bk_g C i4 hw hbk 3 (by decide) (v := .ref (a 2)) rfl dX4_take_52 lk23 ?_
        refine bl_gr C ib0 hw (bk_made hbk) dX4_take_55 lk92 ?_
        refine lv_aload_n hx hb dX4_take_58 rfl (lv_at hl 0 rfl) ?_
        refine bk_g C i4 hw hbk 2 (by decide) (v := .ref (a 1)) rfl dX4_take_59 lk18 ?_
        refine lv_iload_n hx hb dX4_take_62 rfl (lv_at hl 2 rfl) ?_
        refine bk_ald C hw hbk him dX4_take_63 ?_
        refine bl_gr C ib0 hw (bk_pl hbk (k := im) him) dX4_take_64 lk92 ?_
        refine lv_aload_n hx hb dX4_take_67 rfl (lv_at hl 0 rfl) ?_
        refine bk_g C i4 hw hbk 2 (by decide) (v := .ref (a 1)) rfl dX4_take_68 lk18 ?_
        refine lv_iload_n hx hb dX4_take_71 rfl (lv_at hl 3 rfl) ?_
        refine bk_ald C hw hbk hjm dX4_take_72 ?_
        refine bl_gr C ib0 hw (bk_pl hbk (k := jm) hjm) dX4_take_73 lk92 ?_
        have fr_im : sg (B (20 + im)) = ra im := (hof (20 + im) (by omega) (by omega)).trans (hiv.2.2 im him).2.1
        have fr_jm : sg (B (20 + jm)) = ra jm := (hof (20 + jm) (by omega) (by omega)).trans (hiv.2.2 jm hjm).2.1
        refine sv_v (As := [.ref (B (20 + im)), .ref (B (20 + jm))]) (rest := []) C (v3_sum _ _ _ _ _ hS (B 7) (B (20 + im)) (B (20 + jm)) (bk_in hbk (i := 7) (by omega)) (bk_in hbk (i := (20 + im)) (by omega)) (bk_in hbk (i := (20 + jm)) (by omega)) (by rw [fr_im, fr_jm]; exact (Nat.lt_of_le_of_lt (Nat.add_le_add hbr_im hbr_jm) (by decide +kernel)))) (cwV 2 hts gX4_take_X3_sum rfl rfl rfl (by decide +kernel) ⟨Nat.le_of_ble_eq_true rfl, Nat.le_of_ble_eq_true rfl⟩) hsz hw (bd_recv C hw (bk_in hbk (i := 7) (by omega))) dX4_take_76 rfl hl.1 rfl (Nat.le_of_ble_eq_true rfl) ⟨Nat.le_refl _, Nat.le_refl _⟩ (fun z sg H locs hv9 hf9 hS hw => ?_)
        have fT9 : sg (B 7) = (ra im + ra jm) := hv9.trans (by rw [fr_im, fr_jm])
        have f_6 : sg (B 6) = (mu im - mu jm) := (hf9 (B 6) (bk_ne hbk (i := 6) (j := 7) (by omega) (by omega) (by omega))).trans f_6
        have f_7 := fT9
        have hof : ∀ j, (j = 0 ∨ 8 ≤ j) → j < 32 → sg (B j) = sg0 (B j) := fun j h1 h2 => (hf9 (B j) (bk_ne hbk (i := j) (j := 7) (by omega) (by omega) (by omega))).trans (hof j h1 h2)
        have hfi : fn_iv (P + 64) (bk_A B) sg := fn_ivm hfi (hf9 (bk_A B 1) (bk_ne hbk (i := 31 + 1) (j := 7) (by decide) (by decide) (by decide))) (hf9 (bk_A B 2) (bk_ne hbk (i := 31 + 2) (j := 7) (by decide) (by decide) (by decide))) (hf9 (bk_A B 3) (bk_ne hbk (i := 31 + 3) (j := 7) (by decide) (by decide) (by decide)))
        refine lv_aload_n hx hb dX4_take_79 rfl (lv_at hl 0 rfl) ?_
        refine lv_iload_n hx hb dX4_take_80 rfl (lv_at hl 1 rfl) ?_
        refine bd_ci (As := [.int (nI kn)]) (rest := []) C (c4_keep _ _ _ _ _ hbk hS (bk_ivm hiv hof hfi) kn hkn) (cwV 1 hts gX4_take_X4_keep rfl rfl rfl (by decide +kernel) ⟨Nat.le_of_ble_eq_true rfl, Nat.le_of_ble_eq_true rfl⟩) hsz hw (bk_recv C hw hbk) dX4_take_81 rfl hl.1 rfl (Nat.le_of_ble_eq_true rfl) ⟨Nat.le_refl _, Nat.le_refl _⟩ (fun r9 E9 z H locs hp hw => ?_)
        rw [f_6, f_7] at hp
        exact bd_iret C hr hlk hw dX4_take_84 (by rw [hd]; exact hp)
      · have hno := pl_f hc18
        refine lv_iconst (v := (-1)) hx hb dX4_take_21 (by decide) ?_
        have hd9 : dk_take P (nI kn) (nI im) j mu ra = (-1, mu, ra) := if_neg (fun q => hno q.2.2)
        exact bd_iret C hr hlk hw dX4_take_22 (by rw [hd9]; exact ⟨rfl, hbk, sg0, hS, bk_ivm hiv hof hfi⟩)
set_option maxHeartbeats 4000000 in
set_option maxRecDepth 100000 in
/-- BallDesk.times -/
theorem c4_times (l : Launch) (K : Cxt) (E0 : Nat → va_E) (z0 : Nat → Wh) (sz : Nat) {P : Nat} {a B : Nat → Nat} (hbk : bk_at K E0 P a B) {sg0 : Nat → Int} (hS : sg_S K z0 sg0) {mu ra : Nat → Int} (hiv : bk_iv P B sg0 mu ra) (k i j : Int32)  : Met l yX4_times wsX4_times ({ frames := 7, cells := 0, slots := 0, locals := 240 }) (va_Pc [.ref (a 0), .int k, .int i, .int j] (bd_P K E0 z0 sz)) (va_Qi (bk_post K P a B (dk_times P k i j mu ra)) (bd_B K) (bd_A K sz)) 0 0 (bd_A K sz) := by
  refine bd_ofW (cc := cX4_times) (maxL := 6) (ret := (some .int)) (by decide) rfl (Nat.le_of_ble_eq_true rfl) ?_
  intro p e s m below meth c ls C hr hlk hsz hw hl
  have hx := C.1
  have hb := C.2.1
  have hown := C.2.2.2.1
  have hts := C.2.2.2.2.1
  have i4 : ∀ w ∈ wsX40, w ∈ wsX4_times := by decide +kernel
  have ib0 : ∀ w ∈ wsX00, w ∈ wsX4_times := by decide +kernel
  have lk18 : Cond.fieldLink RX4 18 "BallDesk" "places" "[LBallDesk$Ball;" ∈ wsX4_times := by decide +kernel
  have lk23 : Cond.fieldLink RX4 23 "BallDesk" "made" "LBallDesk$Ball;" ∈ wsX4_times := by decide +kernel
  have lk85 : Cond.fieldLink RX4 85 "BallDesk$Ball" "middle" "LBallDesk$Whole;" ∈ wsX4_times := by decide +kernel
  have lk58 : Cond.fieldLink RX4 58 "BallDesk" "bits" "I" ∈ wsX4_times := by decide +kernel
  have lk33 : Cond.fieldLink RX4 33 "BallDesk" "left" "LBallDesk$Whole;" ∈ wsX4_times := by decide +kernel
  have lk92 : Cond.fieldLink RX4 92 "BallDesk$Ball" "radius" "LBallDesk$Whole;" ∈ wsX4_times := by decide +kernel
  have lk36 : Cond.fieldLink RX4 36 "BallDesk" "right" "LBallDesk$Whole;" ∈ wsX4_times := by decide +kernel
  obtain ⟨hP1, hP2⟩ := bk_P hbk
  have hl : lv_has ls 6 [(0, .ref (a 0)), (1, .int k), (2, .int i), (3, .int j)] := hl
  have hof : ∀ j, (j = 0 ∨ 8 ≤ j) → j < 32 → sg0 (B j) = sg0 (B j) := fun _ _ _ => rfl
  have hfi := hiv.2.1
  refine lv_iload_n hx hb dX4_times_0 rfl (lv_at hl 1 rfl) ?_
  refine bd_sip (As := [.int k]) (rest := []) C (c4_isPlace _ _ _ _ _ k) (va_cwS 1 hts gX4_times_X4_isPlace rfl rfl rfl (by decide +kernel) ⟨Nat.le_of_ble_eq_true rfl, Nat.le_of_ble_eq_true rfl⟩) hsz hw dX4_times_1 rfl hl.1 rfl (Nat.le_of_ble_eq_true rfl) ⟨Nat.le_refl _, Nat.le_refl _⟩ (fun H locs hw => ?_)
  refine lv_if_eq (tgt := 21) hx hb dX4_times_4 (by decide) (fun hc4 => ?_) (fun hc4 => ?_)
  · have hno := pl_f hc4
    refine lv_iconst (v := (-1)) hx hb dX4_times_21 (by decide) ?_
    have hd9 : dk_times P k i j mu ra = (-1, mu, ra) := if_neg (fun q => hno q.1)
    exact bd_iret C hr hlk hw dX4_times_22 (by rw [hd9]; exact ⟨rfl, hbk, sg0, hS, bk_ivm hiv hof hfi⟩)
  · have hpl_kn := pl_t hc4
    obtain ⟨kn, hkn, hk_kn, hx_kn⟩ := pl_x hpl_kn
    subst hk_kn
    refine lv_iload_n hx hb dX4_times_7 rfl (lv_at hl 2 rfl) ?_
    refine bd_sip (As := [.int i]) (rest := []) C (c4_isPlace _ _ _ _ _ i) (va_cwS 1 hts gX4_times_X4_isPlace rfl rfl rfl (by decide +kernel) ⟨Nat.le_of_ble_eq_true rfl, Nat.le_of_ble_eq_true rfl⟩) hsz hw dX4_times_8 rfl hl.1 rfl (Nat.le_of_ble_eq_true rfl) ⟨Nat.le_refl _, Nat.le_refl _⟩ (fun H locs hw => ?_)
    refine lv_if_eq (tgt := 21) hx hb dX4_times_11 (by decide) (fun hc11 => ?_) (fun hc11 => ?_)
    · have hno := pl_f hc11
      refine lv_iconst (v := (-1)) hx hb dX4_times_21 (by decide) ?_
      have hd9 : dk_times P (nI kn) i j mu ra = (-1, mu, ra) := if_neg (fun q => hno q.2.1)
      exact bd_iret C hr hlk hw dX4_times_22 (by rw [hd9]; exact ⟨rfl, hbk, sg0, hS, bk_ivm hiv hof hfi⟩)
    · have hpl_im := pl_t hc11
      obtain ⟨im, him, hk_im, hx_im⟩ := pl_x hpl_im
      subst hk_im
      refine lv_iload_n hx hb dX4_times_14 rfl (lv_at hl 3 rfl) ?_
      refine bd_sip (As := [.int j]) (rest := []) C (c4_isPlace _ _ _ _ _ j) (va_cwS 1 hts gX4_times_X4_isPlace rfl rfl rfl (by decide +kernel) ⟨Nat.le_of_ble_eq_true rfl, Nat.le_of_ble_eq_true rfl⟩) hsz hw dX4_times_15 rfl hl.1 rfl (Nat.le_of_ble_eq_true rfl) ⟨Nat.le_refl _, Nat.le_refl _⟩ (fun H locs hw => ?_)
      refine lv_if_ne (tgt := 23) hx hb dX4_times_18 (by decide) (fun hc18 => ?_) (fun hc18 => ?_)
      · have hpl_jm := pl_t hc18
        obtain ⟨jm, hjm, hk_jm, hx_jm⟩ := pl_x hpl_jm
        subst hk_jm
        obtain ⟨hbm_im, hb0_im, hbr_im⟩ := bk_b hP2 hiv him
        obtain ⟨hbm_jm, hb0_jm, hbr_jm⟩ := bk_b hP2 hiv hjm
        have hd : dk_times P (nI kn) (nI im) (nI jm) mu ra = dk_keep P kn (mu im * mu jm / dk_p P) (dk_timesR P (mu im) (ra im) (mu jm) (ra jm)) mu ra := by unfold dk_times; rw [if_pos ⟨hpl_kn, hpl_im, hpl_jm⟩, hx_kn, hx_im, hx_jm]
        obtain ⟨hs1, hs2, hs3⟩ := tm_b (P := P) hbm_im hbr_im hbm_jm hbr_jm
        refine lv_aload_n hx hb dX4_times_23 rfl (lv_at hl 0 rfl) ?_
        refine bk_g C i4 hw hbk 2 (by decide) (v := .ref (a 1)) rfl dX4_times_24 lk18 ?_
        refine lv_iload_n hx hb dX4_times_27 rfl (lv_at hl 2 rfl) ?_
        refine bk_ald C hw hbk him dX4_times_28 ?_
        refine lv_astore (lv' := [(4, .ref (a (3 + im))), (0, .ref (a 0)), (1, .int (nI kn)), (2, .int (nI im)), (3, .int (nI jm))]) hx hb dX4_times_29 hl (by decide) rfl (fun ls hl => ?_)
        refine lv_aload_n hx hb dX4_times_31 rfl (lv_at hl 1 rfl) ?_
        refine bk_g C i4 hw hbk 2 (by decide) (v := .ref (a 1)) rfl dX4_times_32 lk18 ?_
        refine lv_iload_n hx hb dX4_times_35 rfl (lv_at hl 4 rfl) ?_
        refine bk_ald C hw hbk hjm dX4_times_36 ?_
        refine lv_astore (lv' := [(5, .ref (a (3 + jm))), (4, .ref (a (3 + im))), (0, .ref (a 0)), (1, .int (nI kn)), (2, .int (nI im)), (3, .int (nI jm))]) hx hb dX4_times_37 hl (by decide) rfl (fun ls hl => ?_)
        refine lv_aload_n hx hb dX4_times_39 rfl (lv_at hl 2 rfl) ?_
        refine bk_g C i4 hw hbk 3 (by decide) (v := .ref (a 2)) rfl dX4_times_40 lk23 ?_
        refine bl_gm C ib0 hw (bk_made hbk) dX4_times_43 lk85 ?_
        refine lv_aload hx hb dX4_times_46 (lv_at hl 1 rfl) ?_
        refine bl_gm C ib0 hw (bk_pl hbk (k := im) him) dX4_times_48 lk85 ?_
        refine lv_aload hx hb dX4_times_51 (lv_at hl 0 rfl) ?_
        refine bl_gm C ib0 hw (bk_pl hbk (k := jm) hjm) dX4_times_53 lk85 ?_
        have fm_im : sg0 (B (8 + im)) = mu im := (hof (8 + im) (by omega) (by omega)).trans (hiv.2.2 im him).1
        have fm_jm : sg0 (B (8 + jm)) = mu jm := (hof (8 + jm) (by omega) (by omega)).trans (hiv.2.2 jm hjm).1
        refine sv_v (As := [.ref (B (8 + im)), .ref (B (8 + jm))]) (rest := []) C (v3_product _ _ _ _ _ hS (B 6) (B (8 + im)) (B (8 + jm)) 8 8 (bk_in hbk (i := 6) (by omega)) (bk_in hbk (i := (8 + im)) (by omega)) (bk_in hbk (i := (8 + jm)) (by omega)) (bk_ne hbk (i := (8 + im)) (j := 6) (by omega) (by omega) (by omega)) (bk_ne hbk (i := (8 + jm)) (j := 6) (by omega) (by omega) (by omega)) (by rw [fm_im]; exact b8 hbm_im) (by rw [fm_jm]; exact b8 hbm_jm) (by decide)) (cwV 2 hts gX4_times_X3_product rfl rfl rfl (by decide +kernel) ⟨Nat.le_of_ble_eq_true rfl, Nat.le_of_ble_eq_true rfl⟩) hsz hw (bd_recv C hw (bk_in hbk (i := 6) (by omega))) dX4_times_56 rfl hl.1 rfl (Nat.le_of_ble_eq_true rfl) ⟨Nat.le_refl _, Nat.le_refl _⟩ (fun z sg H locs hv9 hf9 hS hw => ?_)
        have fT9 : sg (B 6) = (mu im * mu jm) := hv9.trans (by rw [fm_im, fm_jm])
        have f_6 := fT9
        have hof : ∀ j, (j = 0 ∨ 8 ≤ j) → j < 32 → sg (B j) = sg0 (B j) := fun j h1 h2 => (hf9 (B j) (bk_ne hbk (i := j) (j := 6) (by omega) (by omega) (by omega))).trans (hof j h1 h2)
        have hfi : fn_iv (P + 64) (bk_A B) sg := fn_ivm hfi (hf9 (bk_A B 1) (bk_ne hbk (i := 31 + 1) (j := 6) (by decide) (by decide) (by decide))) (hf9 (bk_A B 2) (bk_ne hbk (i := 31 + 2) (j := 6) (by decide) (by decide) (by decide))) (hf9 (bk_A B 3) (bk_ne hbk (i := 31 + 3) (j := 6) (by decide) (by decide) (by decide)))
        refine lv_aload_n hx hb dX4_times_59 rfl (lv_at hl 2 rfl) ?_
        refine bk_g C i4 hw hbk 3 (by decide) (v := .ref (a 2)) rfl dX4_times_60 lk23 ?_
        refine bl_gm C ib0 hw (bk_made hbk) dX4_times_63 lk85 ?_
        refine lv_aload_n hx hb dX4_times_66 rfl (lv_at hl 2 rfl) ?_
        refine bk_g C i4 hw hbk 0 (by decide) (v := .int (nI P)) rfl dX4_times_67 lk58 ?_
        refine sv_v (As := [.int (nI P)]) (rest := []) C (v3_lower _ _ _ _ _ hS (B 6) P (bk_in hbk (i := 6) (by omega)) (by omega) (by omega)) (cwV 1 hts gX4_times_X3_lower rfl rfl rfl (by decide +kernel) ⟨Nat.le_of_ble_eq_true rfl, Nat.le_of_ble_eq_true rfl⟩) hsz hw (bd_recv C hw (bk_in hbk (i := 6) (by omega))) dX4_times_70 rfl hl.1 rfl (Nat.le_of_ble_eq_true rfl) ⟨Nat.le_refl _, Nat.le_refl _⟩ (fun z sg H locs hv9 hf9 hS hw => ?_)
        have fT9 : sg (B 6) = (mu im * mu jm / dk_p P) := hv9.trans (by rw [f_6])
        have f_6 := fT9
        have hof : ∀ j, (j = 0 ∨ 8 ≤ j) → j < 32 → sg (B j) = sg0 (B j) := fun j h1 h2 => (hf9 (B j) (bk_ne hbk (i := j) (j := 6) (by omega) (by omega) (by omega))).trans (hof j h1 h2)
        have hfi : fn_iv (P + 64) (bk_A B) sg := fn_ivm hfi (hf9 (bk_A B 1) (bk_ne hbk (i := 31 + 1) (j := 6) (by decide) (by decide) (by decide))) (hf9 (bk_A B 2) (bk_ne hbk (i := 31 + 2) (j := 6) (by decide) (by decide) (by decide))) (hf9 (bk_A B 3) (bk_ne hbk (i := 31 + 3) (j := 6) (by decide) (by decide) (by decide)))
        refine lv_aload_n hx hb dX4_times_73 rfl (lv_at hl 2 rfl) ?_
        refine bk_g C i4 hw hbk 6 (by decide) (v := .ref (B 3)) rfl dX4_times_74 lk33 ?_
        refine lv_aload hx hb dX4_times_77 (lv_at hl 1 rfl) ?_
        refine bl_gm C ib0 hw (bk_pl hbk (k := im) him) dX4_times_79 lk85 ?_
        refine lv_aload hx hb dX4_times_82 (lv_at hl 0 rfl) ?_
        refine bl_gr C ib0 hw (bk_pl hbk (k := jm) hjm) dX4_times_84 lk92 ?_
        have fm_im : sg (B (8 + im)) = mu im := (hof (8 + im) (by omega) (by omega)).trans (hiv.2.2 im him).1
        have fr_jm : sg (B (20 + jm)) = ra jm := (hof (20 + jm) (by omega) (by omega)).trans (hiv.2.2 jm hjm).2.1
        refine sv_v (As := [.ref (B (8 + im)), .ref (B (20 + jm))]) (rest := []) C (v3_product _ _ _ _ _ hS (B 3) (B (8 + im)) (B (20 + jm)) 8 8 (bk_in hbk (i := 3) (by omega)) (bk_in hbk (i := (8 + im)) (by omega)) (bk_in hbk (i := (20 + jm)) (by omega)) (bk_ne hbk (i := (8 + im)) (j := 3) (by omega) (by omega) (by omega)) (bk_ne hbk (i := (20 + jm)) (j := 3) (by omega) (by omega) (by omega)) (by rw [fm_im]; exact b8 hbm_im) (by rw [fr_jm]; exact b8 hbr_jm) (by decide)) (cwV 2 hts gX4_times_X3_product rfl rfl rfl (by decide +kernel) ⟨Nat.le_of_ble_eq_true rfl, Nat.le_of_ble_eq_true rfl⟩) hsz hw (bd_recv C hw (bk_in hbk (i := 3) (by omega))) dX4_times_87 rfl hl.1 rfl (Nat.le_of_ble_eq_true rfl) ⟨Nat.le_refl _, Nat.le_refl _⟩ (fun z sg H locs hv9 hf9 hS hw => ?_)
        have fT9 : sg (B 3) = (mu im * ra jm) := hv9.trans (by rw [fm_im, fr_jm])
        have f_6 : sg (B 6) = (mu im * mu jm / dk_p P) := (hf9 (B 6) (bk_ne hbk (i := 6) (j := 3) (by omega) (by omega) (by omega))).trans f_6
        have f_3 := fT9
        have hof : ∀ j, (j = 0 ∨ 8 ≤ j) → j < 32 → sg (B j) = sg0 (B j) := fun j h1 h2 => (hf9 (B j) (bk_ne hbk (i := j) (j := 3) (by omega) (by omega) (by omega))).trans (hof j h1 h2)
        have hfi : fn_iv (P + 64) (bk_A B) sg := fn_ivm hfi (hf9 (bk_A B 1) (bk_ne hbk (i := 31 + 1) (j := 3) (by decide) (by decide) (by decide))) (hf9 (bk_A B 2) (bk_ne hbk (i := 31 + 2) (j := 3) (by decide) (by decide) (by decide))) (hf9 (bk_A B 3) (bk_ne hbk (i := 31 + 3) (j := 3) (by decide) (by decide) (by decide)))
        refine lv_aload_n hx hb dX4_times_90 rfl (lv_at hl 2 rfl) ?_
        refine bk_g C i4 hw hbk 6 (by decide) (v := .ref (B 3)) rfl dX4_times_91 lk33 ?_
        refine sv_v (As := []) (rest := []) C (v3_dropSign _ _ _ _ _ hS (B 3) (bk_in hbk (i := 3) (by omega))) (cwV 0 hts gX4_times_X3_dropSign rfl rfl rfl (by decide +kernel) ⟨Nat.le_of_ble_eq_true rfl, Nat.le_of_ble_eq_true rfl⟩) hsz hw (bd_recv C hw (bk_in hbk (i := 3) (by omega))) dX4_times_94 rfl hl.1 rfl (Nat.le_of_ble_eq_true rfl) ⟨Nat.le_refl _, Nat.le_refl _⟩ (fun z sg H locs hv9 hf9 hS hw => ?_)
        have fT9 : sg (B 3) = ((mu im * ra jm).natAbs : Int) := hv9.trans (by rw [f_3])
        have f_6 : sg (B 6) = (mu im * mu jm / dk_p P) := (hf9 (B 6) (bk_ne hbk (i := 6) (j := 3) (by omega) (by omega) (by omega))).trans f_6
        have f_3 := fT9
        have hof : ∀ j, (j = 0 ∨ 8 ≤ j) → j < 32 → sg (B j) = sg0 (B j) := fun j h1 h2 => (hf9 (B j) (bk_ne hbk (i := j) (j := 3) (by omega) (by omega) (by omega))).trans (hof j h1 h2)
        have hfi : fn_iv (P + 64) (bk_A B) sg := fn_ivm hfi (hf9 (bk_A B 1) (bk_ne hbk (i := 31 + 1) (j := 3) (by decide) (by decide) (by decide))) (hf9 (bk_A B 2) (bk_ne hbk (i := 31 + 2) (j := 3) (by decide) (by decide) (by decide))) (hf9 (bk_A B 3) (bk_ne hbk (i := 31 + 3) (j := 3) (by decide) (by decide) (by decide)))
        refine lv_aload_n hx hb dX4_times_97 rfl (lv_at hl 2 rfl) ?_
        refine bk_g C i4 hw hbk 7 (by decide) (v := .ref (B 4)) rfl dX4_times_98 lk36 ?_
        refine lv_aload hx hb dX4_times_101 (lv_at hl 0 rfl) ?_
        refine bl_gm C ib0 hw (bk_pl hbk (k := jm) hjm) dX4_times_103 lk85 ?_
        refine lv_aload hx hb dX4_times_106 (lv_at hl 1 rfl) ?_
        refine bl_gr C ib0 hw (bk_pl hbk (k := im) him) dX4_times_108 lk92 ?_
        have fm_jm : sg (B (8 + jm)) = mu jm := (hof (8 + jm) (by omega) (by omega)).trans (hiv.2.2 jm hjm).1
        have fr_im : sg (B (20 + im)) = ra im := (hof (20 + im) (by omega) (by omega)).trans (hiv.2.2 im him).2.1
        refine sv_v (As := [.ref (B (8 + jm)), .ref (B (20 + im))]) (rest := []) C (v3_product _ _ _ _ _ hS (B 4) (B (8 + jm)) (B (20 + im)) 8 8 (bk_in hbk (i := 4) (by omega)) (bk_in hbk (i := (8 + jm)) (by omega)) (bk_in hbk (i := (20 + im)) (by omega)) (bk_ne hbk (i := (8 + jm)) (j := 4) (by omega) (by omega) (by omega)) (bk_ne hbk (i := (20 + im)) (j := 4) (by omega) (by omega) (by omega)) (by rw [fm_jm]; exact b8 hbm_jm) (by rw [fr_im]; exact b8 hbr_im) (by decide)) (cwV 2 hts gX4_times_X3_product rfl rfl rfl (by decide +kernel) ⟨Nat.le_of_ble_eq_true rfl, Nat.le_of_ble_eq_true rfl⟩) hsz hw (bd_recv C hw (bk_in hbk (i := 4) (by omega))) dX4_times_111 rfl hl.1 rfl (Nat.le_of_ble_eq_true rfl) ⟨Nat.le_refl _, Nat.le_refl _⟩ (fun z sg H locs hv9 hf9 hS hw => ?_)
        have fT9 : sg (B 4) = (mu jm * ra im) := hv9.trans (by rw [fm_jm, fr_im])
        have f_6 : sg (B 6) = (mu im * mu jm / dk_p P) := (hf9 (B 6) (bk_ne hbk (i := 6) (j := 4) (by omega) (by omega) (by omega))).trans f_6
        have f_3 : sg (B 3) = ((mu im * ra jm).natAbs : Int) := (hf9 (B 3) (bk_ne hbk (i := 3) (j := 4) (by omega) (by omega) (by omega))).trans f_3
        have f_4 := fT9
        have hof : ∀ j, (j = 0 ∨ 8 ≤ j) → j < 32 → sg (B j) = sg0 (B j) := fun j h1 h2 => (hf9 (B j) (bk_ne hbk (i := j) (j := 4) (by omega) (by omega) (by omega))).trans (hof j h1 h2)
        have hfi : fn_iv (P + 64) (bk_A B) sg := fn_ivm hfi (hf9 (bk_A B 1) (bk_ne hbk (i := 31 + 1) (j := 4) (by decide) (by decide) (by decide))) (hf9 (bk_A B 2) (bk_ne hbk (i := 31 + 2) (j := 4) (by decide) (by decide) (by decide))) (hf9 (bk_A B 3) (bk_ne hbk (i := 31 + 3) (j := 4) (by decide) (by decide) (by decide)))
        refine lv_aload_n hx hb dX4_times_114 rfl (lv_at hl 2 rfl) ?_
        refine bk_g C i4 hw hbk 7 (by decide) (v := .ref (B 4)) rfl dX4_times_115 lk36 ?_
        refine sv_v (As := []) (rest := []) C (v3_dropSign _ _ _ _ _ hS (B 4) (bk_in hbk (i := 4) (by omega))) (cwV 0 hts gX4_times_X3_dropSign rfl rfl rfl (by decide +kernel) ⟨Nat.le_of_ble_eq_true rfl, Nat.le_of_ble_eq_true rfl⟩) hsz hw (bd_recv C hw (bk_in hbk (i := 4) (by omega))) dX4_times_118 rfl hl.1 rfl (Nat.le_of_ble_eq_true rfl) ⟨Nat.le_refl _, Nat.le_refl _⟩ (fun z sg H locs hv9 hf9 hS hw => ?_)
        have fT9 : sg (B 4) = ((mu jm * ra im).natAbs : Int) := hv9.trans (by rw [f_4])
        have f_6 : sg (B 6) = (mu im * mu jm / dk_p P) := (hf9 (B 6) (bk_ne hbk (i := 6) (j := 4) (by omega) (by omega) (by omega))).trans f_6
        have f_3 : sg (B 3) = ((mu im * ra jm).natAbs : Int) := (hf9 (B 3) (bk_ne hbk (i := 3) (j := 4) (by omega) (by omega) (by omega))).trans f_3
        have f_4 := fT9
        have hof : ∀ j, (j = 0 ∨ 8 ≤ j) → j < 32 → sg (B j) = sg0 (B j) := fun j h1 h2 => (hf9 (B j) (bk_ne hbk (i := j) (j := 4) (by omega) (by omega) (by omega))).trans (hof j h1 h2)
        have hfi : fn_iv (P + 64) (bk_A B) sg := fn_ivm hfi (hf9 (bk_A B 1) (bk_ne hbk (i := 31 + 1) (j := 4) (by decide) (by decide) (by decide))) (hf9 (bk_A B 2) (bk_ne hbk (i := 31 + 2) (j := 4) (by decide) (by decide) (by decide))) (hf9 (bk_A B 3) (bk_ne hbk (i := 31 + 3) (j := 4) (by decide) (by decide) (by decide)))
        refine lv_aload_n hx hb dX4_times_121 rfl (lv_at hl 2 rfl) ?_
        refine bk_g C i4 hw hbk 6 (by decide) (v := .ref (B 3)) rfl dX4_times_122 lk33 ?_
        refine lv_aload_n hx hb dX4_times_125 rfl (lv_at hl 2 rfl) ?_
        refine bk_g C i4 hw hbk 6 (by decide) (v := .ref (B 3)) rfl dX4_times_126 lk33 ?_
        refine lv_aload_n hx hb dX4_times_129 rfl (lv_at hl 2 rfl) ?_
        refine bk_g C i4 hw hbk 7 (by decide) (v := .ref (B 4)) rfl dX4_times_130 lk36 ?_
        refine sv_v (As := [.ref (B 3), .ref (B 4)]) (rest := []) C (v3_sum _ _ _ _ _ hS (B 3) (B 3) (B 4) (bk_in hbk (i := 3) (by omega)) (bk_in hbk (i := 3) (by omega)) (bk_in hbk (i := 4) (by omega)) (by rw [f_3, f_4]; exact hs1)) (cwV 2 hts gX4_times_X3_sum rfl rfl rfl (by decide +kernel) ⟨Nat.le_of_ble_eq_true rfl, Nat.le_of_ble_eq_true rfl⟩) hsz hw (bd_recv C hw (bk_in hbk (i := 3) (by omega))) dX4_times_133 rfl hl.1 rfl (Nat.le_of_ble_eq_true rfl) ⟨Nat.le_refl _, Nat.le_refl _⟩ (fun z sg H locs hv9 hf9 hS hw => ?_)
        have fT9 : sg (B 3) = (((mu im * ra jm).natAbs : Int) + ((mu jm * ra im).natAbs : Int)) := hv9.trans (by rw [f_3, f_4])
        have f_6 : sg (B 6) = (mu im * mu jm / dk_p P) := (hf9 (B 6) (bk_ne hbk (i := 6) (j := 3) (by omega) (by omega) (by omega))).trans f_6
        have f_4 : sg (B 4) = ((mu jm * ra im).natAbs : Int) := (hf9 (B 4) (bk_ne hbk (i := 4) (j := 3) (by omega) (by omega) (by omega))).trans f_4
        have f_3 := fT9
        have hof : ∀ j, (j = 0 ∨ 8 ≤ j) → j < 32 → sg (B j) = sg0 (B j) := fun j h1 h2 => (hf9 (B j) (bk_ne hbk (i := j) (j := 3) (by omega) (by omega) (by omega))).trans (hof j h1 h2)
        have hfi : fn_iv (P + 64) (bk_A B) sg := fn_ivm hfi (hf9 (bk_A B 1) (bk_ne hbk (i := 31 + 1) (j := 3) (by decide) (by decide) (by decide))) (hf9 (bk_A B 2) (bk_ne hbk (i := 31 + 2) (j := 3) (by decide) (by decide) (by decide))) (hf9 (bk_A B 3) (bk_ne hbk (i := 31 + 3) (j := 3) (by decide) (by decide) (by decide)))
        refine lv_aload_n hx hb dX4_times_136 rfl (lv_at hl 2 rfl) ?_
        refine bk_g C i4 hw hbk 7 (by decide) (v := .ref (B 4)) rfl dX4_times_137 lk36 ?_
        refine lv_aload hx hb dX4_times_140 (lv_at hl 1 rfl) ?_
        refine bl_gr C ib0 hw (bk_pl hbk (k := im) him) dX4_times_142 lk92 ?_
        refine lv_aload hx hb dX4_times_145 (lv_at hl 0 rfl) ?_
        refine bl_gr C ib0 hw (bk_pl hbk (k := jm) hjm) dX4_times_147 lk92 ?_
        have fr_im : sg (B (20 + im)) = ra im := (hof (20 + im) (by omega) (by omega)).trans (hiv.2.2 im him).2.1
        have fr_jm : sg (B (20 + jm)) = ra jm := (hof (20 + jm) (by omega) (by omega)).trans (hiv.2.2 jm hjm).2.1
        refine sv_v (As := [.ref (B (20 + im)), .ref (B (20 + jm))]) (rest := []) C (v3_product _ _ _ _ _ hS (B 4) (B (20 + im)) (B (20 + jm)) 8 8 (bk_in hbk (i := 4) (by omega)) (bk_in hbk (i := (20 + im)) (by omega)) (bk_in hbk (i := (20 + jm)) (by omega)) (bk_ne hbk (i := (20 + im)) (j := 4) (by omega) (by omega) (by omega)) (bk_ne hbk (i := (20 + jm)) (j := 4) (by omega) (by omega) (by omega)) (by rw [fr_im]; exact b8 hbr_im) (by rw [fr_jm]; exact b8 hbr_jm) (by decide)) (cwV 2 hts gX4_times_X3_product rfl rfl rfl (by decide +kernel) ⟨Nat.le_of_ble_eq_true rfl, Nat.le_of_ble_eq_true rfl⟩) hsz hw (bd_recv C hw (bk_in hbk (i := 4) (by omega))) dX4_times_150 rfl hl.1 rfl (Nat.le_of_ble_eq_true rfl) ⟨Nat.le_refl _, Nat.le_refl _⟩ (fun z sg H locs hv9 hf9 hS hw => ?_)
        have fT9 : sg (B 4) = (ra im * ra jm) := hv9.trans (by rw [fr_im, fr_jm])
        have f_6 : sg (B 6) = (mu im * mu jm / dk_p P) := (hf9 (B 6) (bk_ne hbk (i := 6) (j := 4) (by omega) (by omega) (by omega))).trans f_6
        have f_3 : sg (B 3) = (((mu im * ra jm).natAbs : Int) + ((mu jm * ra im).natAbs : Int)) := (hf9 (B 3) (bk_ne hbk (i := 3) (j := 4) (by omega) (by omega) (by omega))).trans f_3
        have f_4 := fT9
        have hof : ∀ j, (j = 0 ∨ 8 ≤ j) → j < 32 → sg (B j) = sg0 (B j) := fun j h1 h2 => (hf9 (B j) (bk_ne hbk (i := j) (j := 4) (by omega) (by omega) (by omega))).trans (hof j h1 h2)
        have hfi : fn_iv (P + 64) (bk_A B) sg := fn_ivm hfi (hf9 (bk_A B 1) (bk_ne hbk (i := 31 + 1) (j := 4) (by decide) (by decide) (by decide))) (hf9 (bk_A B 2) (bk_ne hbk (i := 31 + 2) (j := 4) (by decide) (by decide) (by decide))) (hf9 (bk_A B 3) (bk_ne hbk (i := 31 + 3) (j := 4) (by decide) (by decide) (by decide)))
        refine lv_aload_n hx hb dX4_times_153 rfl (lv_at hl 2 rfl) ?_
        refine bk_g C i4 hw hbk 6 (by decide) (v := .ref (B 3)) rfl dX4_times_154 lk33 ?_
        refine lv_aload_n hx hb dX4_times_157 rfl (lv_at hl 2 rfl) ?_
        refine bk_g C i4 hw hbk 6 (by decide) (v := .ref (B 3)) rfl dX4_times_158 lk33 ?_
        refine lv_aload_n hx hb dX4_times_161 rfl (lv_at hl 2 rfl) ?_
        refine bk_g C i4 hw hbk 7 (by decide) (v := .ref (B 4)) rfl dX4_times_162 lk36 ?_
        refine sv_v (As := [.ref (B 3), .ref (B 4)]) (rest := []) C (v3_sum _ _ _ _ _ hS (B 3) (B 3) (B 4) (bk_in hbk (i := 3) (by omega)) (bk_in hbk (i := 3) (by omega)) (bk_in hbk (i := 4) (by omega)) (by rw [f_3, f_4]; exact hs2)) (cwV 2 hts gX4_times_X3_sum rfl rfl rfl (by decide +kernel) ⟨Nat.le_of_ble_eq_true rfl, Nat.le_of_ble_eq_true rfl⟩) hsz hw (bd_recv C hw (bk_in hbk (i := 3) (by omega))) dX4_times_165 rfl hl.1 rfl (Nat.le_of_ble_eq_true rfl) ⟨Nat.le_refl _, Nat.le_refl _⟩ (fun z sg H locs hv9 hf9 hS hw => ?_)
        have fT9 : sg (B 3) = (((mu im * ra jm).natAbs : Int) + ((mu jm * ra im).natAbs : Int) + (ra im * ra jm)) := hv9.trans (by rw [f_3, f_4])
        have f_6 : sg (B 6) = (mu im * mu jm / dk_p P) := (hf9 (B 6) (bk_ne hbk (i := 6) (j := 3) (by omega) (by omega) (by omega))).trans f_6
        have f_4 : sg (B 4) = (ra im * ra jm) := (hf9 (B 4) (bk_ne hbk (i := 4) (j := 3) (by omega) (by omega) (by omega))).trans f_4
        have f_3 := fT9
        have hof : ∀ j, (j = 0 ∨ 8 ≤ j) → j < 32 → sg (B j) = sg0 (B j) := fun j h1 h2 => (hf9 (B j) (bk_ne hbk (i := j) (j := 3) (by omega) (by omega) (by omega))).trans (hof j h1 h2)
        have hfi : fn_iv (P + 64) (bk_A B) sg := fn_ivm hfi (hf9 (bk_A B 1) (bk_ne hbk (i := 31 + 1) (j := 3) (by decide) (by decide) (by decide))) (hf9 (bk_A B 2) (bk_ne hbk (i := 31 + 2) (j := 3) (by decide) (by decide) (by decide))) (hf9 (bk_A B 3) (bk_ne hbk (i := 31 + 3) (j := 3) (by decide) (by decide) (by decide)))
        refine lv_aload_n hx hb dX4_times_168 rfl (lv_at hl 2 rfl) ?_
        refine bk_g C i4 hw hbk 6 (by decide) (v := .ref (B 3)) rfl dX4_times_169 lk33 ?_
        refine sv_v (As := []) (rest := []) C (v3_turn _ _ _ _ _ hS (B 3) (bk_in hbk (i := 3) (by omega))) (cwV 0 hts gX4_times_X3_turn rfl rfl rfl (by decide +kernel) ⟨Nat.le_of_ble_eq_true rfl, Nat.le_of_ble_eq_true rfl⟩) hsz hw (bd_recv C hw (bk_in hbk (i := 3) (by omega))) dX4_times_172 rfl hl.1 rfl (Nat.le_of_ble_eq_true rfl) ⟨Nat.le_refl _, Nat.le_refl _⟩ (fun z sg H locs hv9 hf9 hS hw => ?_)
        have fT9 : sg (B 3) = (-(((mu im * ra jm).natAbs : Int) + ((mu jm * ra im).natAbs : Int) + (ra im * ra jm))) := hv9.trans (by rw [f_3])
        have f_6 : sg (B 6) = (mu im * mu jm / dk_p P) := (hf9 (B 6) (bk_ne hbk (i := 6) (j := 3) (by omega) (by omega) (by omega))).trans f_6
        have f_4 : sg (B 4) = (ra im * ra jm) := (hf9 (B 4) (bk_ne hbk (i := 4) (j := 3) (by omega) (by omega) (by omega))).trans f_4
        have f_3 := fT9
        have hof : ∀ j, (j = 0 ∨ 8 ≤ j) → j < 32 → sg (B j) = sg0 (B j) := fun j h1 h2 => (hf9 (B j) (bk_ne hbk (i := j) (j := 3) (by omega) (by omega) (by omega))).trans (hof j h1 h2)
        have hfi : fn_iv (P + 64) (bk_A B) sg := fn_ivm hfi (hf9 (bk_A B 1) (bk_ne hbk (i := 31 + 1) (j := 3) (by decide) (by decide) (by decide))) (hf9 (bk_A B 2) (bk_ne hbk (i := 31 + 2) (j := 3) (by decide) (by decide) (by decide))) (hf9 (bk_A B 3) (bk_ne hbk (i := 31 + 3) (j := 3) (by decide) (by decide) (by decide)))
        refine lv_aload_n hx hb dX4_times_175 rfl (lv_at hl 2 rfl) ?_
        refine bk_g C i4 hw hbk 6 (by decide) (v := .ref (B 3)) rfl dX4_times_176 lk33 ?_
        refine lv_aload_n hx hb dX4_times_179 rfl (lv_at hl 2 rfl) ?_
        refine bk_g C i4 hw hbk 0 (by decide) (v := .int (nI P)) rfl dX4_times_180 lk58 ?_
        refine sv_v (As := [.int (nI P)]) (rest := []) C (v3_lower _ _ _ _ _ hS (B 3) P (bk_in hbk (i := 3) (by omega)) (by omega) (by omega)) (cwV 1 hts gX4_times_X3_lower rfl rfl rfl (by decide +kernel) ⟨Nat.le_of_ble_eq_true rfl, Nat.le_of_ble_eq_true rfl⟩) hsz hw (bd_recv C hw (bk_in hbk (i := 3) (by omega))) dX4_times_183 rfl hl.1 rfl (Nat.le_of_ble_eq_true rfl) ⟨Nat.le_refl _, Nat.le_refl _⟩ (fun z sg H locs hv9 hf9 hS hw => ?_)
        have fT9 : sg (B 3) = (-(((mu im * ra jm).natAbs : Int) + ((mu jm * ra im).natAbs : Int) + (ra im * ra jm)) / dk_p P) := hv9.trans (by rw [f_3])
        have f_6 : sg (B 6) = (mu im * mu jm / dk_p P) := (hf9 (B 6) (bk_ne hbk (i := 6) (j := 3) (by omega) (by omega) (by omega))).trans f_6
        have f_4 : sg (B 4) = (ra im * ra jm) := (hf9 (B 4) (bk_ne hbk (i := 4) (j := 3) (by omega) (by omega) (by omega))).trans f_4
        have f_3 := fT9
        have hof : ∀ j, (j = 0 ∨ 8 ≤ j) → j < 32 → sg (B j) = sg0 (B j) := fun j h1 h2 => (hf9 (B j) (bk_ne hbk (i := j) (j := 3) (by omega) (by omega) (by omega))).trans (hof j h1 h2)
        have hfi : fn_iv (P + 64) (bk_A B) sg := fn_ivm hfi (hf9 (bk_A B 1) (bk_ne hbk (i := 31 + 1) (j := 3) (by decide) (by decide) (by decide))) (hf9 (bk_A B 2) (bk_ne hbk (i := 31 + 2) (j := 3) (by decide) (by decide) (by decide))) (hf9 (bk_A B 3) (bk_ne hbk (i := 31 + 3) (j := 3) (by decide) (by decide) (by decide)))
        refine lv_aload_n hx hb dX4_times_186 rfl (lv_at hl 2 rfl) ?_
        refine bk_g C i4 hw hbk 6 (by decide) (v := .ref (B 3)) rfl dX4_times_187 lk33 ?_
        refine sv_v (As := []) (rest := []) C (v3_turn _ _ _ _ _ hS (B 3) (bk_in hbk (i := 3) (by omega))) (cwV 0 hts gX4_times_X3_turn rfl rfl rfl (by decide +kernel) ⟨Nat.le_of_ble_eq_true rfl, Nat.le_of_ble_eq_true rfl⟩) hsz hw (bd_recv C hw (bk_in hbk (i := 3) (by omega))) dX4_times_190 rfl hl.1 rfl (Nat.le_of_ble_eq_true rfl) ⟨Nat.le_refl _, Nat.le_refl _⟩ (fun z sg H locs hv9 hf9 hS hw => ?_)
        have fT9 : sg (B 3) = (-(-(((mu im * ra jm).natAbs : Int) + ((mu jm * ra im).natAbs : Int) + (ra im * ra jm)) / dk_p P)) := hv9.trans (by rw [f_3])
        have f_6 : sg (B 6) = (mu im * mu jm / dk_p P) := (hf9 (B 6) (bk_ne hbk (i := 6) (j := 3) (by omega) (by omega) (by omega))).trans f_6
        have f_4 : sg (B 4) = (ra im * ra jm) := (hf9 (B 4) (bk_ne hbk (i := 4) (j := 3) (by omega) (by omega) (by omega))).trans f_4
        have f_3 := fT9
        have hof : ∀ j, (j = 0 ∨ 8 ≤ j) → j < 32 → sg (B j) = sg0 (B j) := fun j h1 h2 => (hf9 (B j) (bk_ne hbk (i := j) (j := 3) (by omega) (by omega) (by omega))).trans (hof j h1 h2)
        have hfi : fn_iv (P + 64) (bk_A B) sg := fn_ivm hfi (hf9 (bk_A B 1) (bk_ne hbk (i := 31 + 1) (j := 3) (by decide) (by decide) (by decide))) (hf9 (bk_A B 2) (bk_ne hbk (i := 31 + 2) (j := 3) (by decide) (by decide) (by decide))) (hf9 (bk_A B 3) (bk_ne hbk (i := 31 + 3) (j := 3) (by decide) (by decide) (by decide)))
        refine lv_aload_n hx hb dX4_times_193 rfl (lv_at hl 2 rfl) ?_
        refine bk_g C i4 hw hbk 3 (by decide) (v := .ref (a 2)) rfl dX4_times_194 lk23 ?_
        refine bl_gr C ib0 hw (bk_made hbk) dX4_times_197 lk92 ?_
        refine lv_aload_n hx hb dX4_times_200 rfl (lv_at hl 2 rfl) ?_
        refine bk_g C i4 hw hbk 6 (by decide) (v := .ref (B 3)) rfl dX4_times_201 lk33 ?_
        refine sv_v (As := [.ref (B 3)]) (rest := []) C (v3_become_ _ _ _ _ _ hS (B 7) (B 3) (bk_in hbk (i := 7) (by omega)) (bk_in hbk (i := 3) (by omega))) (cwV 1 hts gX4_times_X3_become_ rfl rfl rfl (by decide +kernel) ⟨Nat.le_of_ble_eq_true rfl, Nat.le_of_ble_eq_true rfl⟩) hsz hw (bd_recv C hw (bk_in hbk (i := 7) (by omega))) dX4_times_204 rfl hl.1 rfl (Nat.le_of_ble_eq_true rfl) ⟨Nat.le_refl _, Nat.le_refl _⟩ (fun z sg H locs hv9 hf9 hS hw => ?_)
        have fT9 : sg (B 7) = (-(-(((mu im * ra jm).natAbs : Int) + ((mu jm * ra im).natAbs : Int) + (ra im * ra jm)) / dk_p P)) := hv9.trans (by exact f_3)
        have f_6 : sg (B 6) = (mu im * mu jm / dk_p P) := (hf9 (B 6) (bk_ne hbk (i := 6) (j := 7) (by omega) (by omega) (by omega))).trans f_6
        have f_3 : sg (B 3) = (-(-(((mu im * ra jm).natAbs : Int) + ((mu jm * ra im).natAbs : Int) + (ra im * ra jm)) / dk_p P)) := (hf9 (B 3) (bk_ne hbk (i := 3) (j := 7) (by omega) (by omega) (by omega))).trans f_3
        have f_4 : sg (B 4) = (ra im * ra jm) := (hf9 (B 4) (bk_ne hbk (i := 4) (j := 7) (by omega) (by omega) (by omega))).trans f_4
        have f_7 := fT9
        have hof : ∀ j, (j = 0 ∨ 8 ≤ j) → j < 32 → sg (B j) = sg0 (B j) := fun j h1 h2 => (hf9 (B j) (bk_ne hbk (i := j) (j := 7) (by omega) (by omega) (by omega))).trans (hof j h1 h2)
        have hfi : fn_iv (P + 64) (bk_A B) sg := fn_ivm hfi (hf9 (bk_A B 1) (bk_ne hbk (i := 31 + 1) (j := 7) (by decide) (by decide) (by decide))) (hf9 (bk_A B 2) (bk_ne hbk (i := 31 + 2) (j := 7) (by decide) (by decide) (by decide))) (hf9 (bk_A B 3) (bk_ne hbk (i := 31 + 3) (j := 7) (by decide) (by decide) (by decide)))
        refine lv_aload_n hx hb dX4_times_207 rfl (lv_at hl 2 rfl) ?_
        refine lv_aload_n hx hb dX4_times_208 rfl (lv_at hl 2 rfl) ?_
        refine bk_g C i4 hw hbk 3 (by decide) (v := .ref (a 2)) rfl dX4_times_209 lk23 ?_
        refine bl_gr C ib0 hw (bk_made hbk) dX4_times_212 lk92 ?_
        refine lv_lconst (v := lN 1) hx hb dX4_times_215 rfl ?_
        refine bd_cv (As := [.ref (B 7), .long (lN 1)]) (rest := []) C (c4_change _ _ _ _ _ hbk hS 7 (lN 1) (by decide) (by decide) (by rw [f_7]; exact hs3)) (cwV 2 hts gX4_times_X4_change rfl rfl rfl (by decide +kernel) ⟨Nat.le_of_ble_eq_true rfl, Nat.le_of_ble_eq_true rfl⟩) hsz hw (bk_recv C hw hbk) dX4_times_216 rfl hl.1 rfl (Nat.le_of_ble_eq_true rfl) ⟨Nat.le_refl _, Nat.le_refl _⟩ (fun E1 z H locs hp hw => ?_)
        obtain ⟨hE9, sg, hS, hv0_, hf9⟩ := hp
        rw [show E1 = E0 from hE9] at hw
        have fT0_ : sg (B 7) = (dk_timesR P (mu im) (ra im) (mu jm) (ra jm)) := hv0_.trans (by rw [f_7]; rfl)
        have f_6 : sg (B 6) = (mu im * mu jm / dk_p P) := (hf9 (B 6) (bk_ne hbk (i := 6) (j := 7) (by omega) (by omega) (by omega)) (bk_ne hbk (i := 6) (j := 5) (by omega) (by omega) (by omega))).trans f_6
        have f_3 : sg (B 3) = (-(-(((mu im * ra jm).natAbs : Int) + ((mu jm * ra im).natAbs : Int) + (ra im * ra jm)) / dk_p P)) := (hf9 (B 3) (bk_ne hbk (i := 3) (j := 7) (by omega) (by omega) (by omega)) (bk_ne hbk (i := 3) (j := 5) (by omega) (by omega) (by omega))).trans f_3
        have f_4 : sg (B 4) = (ra im * ra jm) := (hf9 (B 4) (bk_ne hbk (i := 4) (j := 7) (by omega) (by omega) (by omega)) (bk_ne hbk (i := 4) (j := 5) (by omega) (by omega) (by omega))).trans f_4
        have f_7 := fT0_
        have hof : ∀ j, (j = 0 ∨ 8 ≤ j) → j < 32 → sg (B j) = sg0 (B j) := fun j h1 h2 => (hf9 (B j) (bk_ne hbk (i := j) (j := 7) (by omega) (by omega) (by omega)) (bk_ne hbk (i := j) (j := 5) (by omega) (by omega) (by omega))).trans (hof j h1 h2)
        have hfi : fn_iv (P + 64) (bk_A B) sg := fn_ivm hfi (hf9 (bk_A B 1) (bk_ne hbk (i := 31 + 1) (j := 7) (by decide) (by decide) (by decide)) (bk_ne hbk (i := 31 + 1) (j := 5) (by decide) (by decide) (by decide))) (hf9 (bk_A B 2) (bk_ne hbk (i := 31 + 2) (j := 7) (by decide) (by decide) (by decide)) (bk_ne hbk (i := 31 + 2) (j := 5) (by decide) (by decide) (by decide))) (hf9 (bk_A B 3) (bk_ne hbk (i := 31 + 3) (j := 7) (by decide) (by decide) (by decide)) (bk_ne hbk (i := 31 + 3) (j := 5) (by decide) (by decide) (by decide)))
        refine lv_aload_n hx hb dX4_times_219 rfl (lv_at hl 2 rfl) ?_
        refine lv_iload_n hx hb dX4_times_220 rfl (lv_at hl 3 rfl) ?_
        refine bd_ci (As := [.int (nI kn)]) (rest := []) C (c4_keep _ _ _ _ _ hbk hS (bk_ivm hiv hof hfi) kn hkn) (cwV 1 hts gX4_times_X4_keep rfl rfl rfl (by decide +kernel) ⟨Nat.le_of_ble_eq_true rfl, Nat.le_of_ble_eq_true rfl⟩) hsz hw (bk_recv C hw hbk) dX4_times_221 rfl hl.1 rfl (Nat.le_of_ble_eq_true rfl) ⟨Nat.le_refl _, Nat.le_refl _⟩ (fun r9 E9 z H locs hp hw => ?_)
        rw [f_6, f_7] at hp
        exact bd_iret C hr hlk hw dX4_times_224 (by rw [hd]; exact hp)
      · have hno := pl_f hc18
        refine lv_iconst (v := (-1)) hx hb dX4_times_21 (by decide) ?_
        have hd9 : dk_times P (nI kn) (nI im) j mu ra = (-1, mu, ra) := if_neg (fun q => hno q.2.2)
        exact bd_iret C hr hlk hw dX4_times_22 (by rw [hd9]; exact ⟨rfl, hbk, sg0, hS, bk_ivm hiv hof hfi⟩)
set_option maxHeartbeats 4000000 in
set_option maxRecDepth 100000 in
/-- BallDesk.over -/
theorem c4_over (l : Launch) (K : Cxt) (E0 : Nat → va_E) (z0 : Nat → Wh) (sz : Nat) {P : Nat} {a B : Nat → Nat} (hbk : bk_at K E0 P a B) {sg0 : Nat → Int} (hS : sg_S K z0 sg0) {mu ra : Nat → Int} (hiv : bk_iv P B sg0 mu ra) (k i j : Int32)  : Met l yX4_over wsX4_over ({ frames := 7, cells := 0, slots := 0, locals := 240 }) (va_Pc [.ref (a 0), .int k, .int i, .int j] (bd_P K E0 z0 sz)) (va_Qi (bk_post K P a B (dk_over P k i j mu ra)) (bd_B K) (bd_A K sz)) 0 0 (bd_A K sz) := by
  refine bd_ofW (cc := cX4_over) (maxL := 7) (ret := (some .int)) (by decide) rfl (Nat.le_of_ble_eq_true rfl) ?_
  intro p e s m below meth c ls C hr hlk hsz hw hl
  have hx := C.1
  have hb := C.2.1
  have hown := C.2.2.2.1
  have hts := C.2.2.2.2.1
  have i4 : ∀ w ∈ wsX40, w ∈ wsX4_over := by decide +kernel
  have ib0 : ∀ w ∈ wsX00, w ∈ wsX4_over := by decide +kernel
  have lk18 : Cond.fieldLink RX4 18 "BallDesk" "places" "[LBallDesk$Ball;" ∈ wsX4_over := by decide +kernel
  have lk33 : Cond.fieldLink RX4 33 "BallDesk" "left" "LBallDesk$Whole;" ∈ wsX4_over := by decide +kernel
  have lk85 : Cond.fieldLink RX4 85 "BallDesk$Ball" "middle" "LBallDesk$Whole;" ∈ wsX4_over := by decide +kernel
  have lk92 : Cond.fieldLink RX4 92 "BallDesk$Ball" "radius" "LBallDesk$Whole;" ∈ wsX4_over := by decide +kernel
  have lk23 : Cond.fieldLink RX4 23 "BallDesk" "made" "LBallDesk$Ball;" ∈ wsX4_over := by decide +kernel
  have lk58 : Cond.fieldLink RX4 58 "BallDesk" "bits" "I" ∈ wsX4_over := by decide +kernel
  have lk45 : Cond.fieldLink RX4 45 "BallDesk" "division" "LBallDesk$Division;" ∈ wsX4_over := by decide +kernel
  obtain ⟨hP1, hP2⟩ := bk_P hbk
  have hl : lv_has ls 7 [(0, .ref (a 0)), (1, .int k), (2, .int i), (3, .int j)] := hl
  have hof : ∀ j, (j = 0 ∨ 8 ≤ j) → j < 32 → sg0 (B j) = sg0 (B j) := fun _ _ _ => rfl
  have hfi := hiv.2.1
  refine lv_iload_n hx hb dX4_over_0 rfl (lv_at hl 1 rfl) ?_
  refine bd_sip (As := [.int k]) (rest := []) C (c4_isPlace _ _ _ _ _ k) (va_cwS 1 hts gX4_over_X4_isPlace rfl rfl rfl (by decide +kernel) ⟨Nat.le_of_ble_eq_true rfl, Nat.le_of_ble_eq_true rfl⟩) hsz hw dX4_over_1 rfl hl.1 rfl (Nat.le_of_ble_eq_true rfl) ⟨Nat.le_refl _, Nat.le_refl _⟩ (fun H locs hw => ?_)
  refine lv_if_eq (tgt := 21) hx hb dX4_over_4 (by decide) (fun hc4 => ?_) (fun hc4 => ?_)
  · have hno := pl_f hc4
    refine lv_iconst (v := (-1)) hx hb dX4_over_21 (by decide) ?_
    have hd9 : dk_over P k i j mu ra = (-1, mu, ra) := if_neg (fun q => hno q.1.1)
    exact bd_iret C hr hlk hw dX4_over_22 (by rw [hd9]; exact ⟨rfl, hbk, sg0, hS, bk_ivm hiv hof hfi⟩)
  · have hpl_kn := pl_t hc4
    obtain ⟨kn, hkn, hk_kn, hx_kn⟩ := pl_x hpl_kn
    subst hk_kn
    refine lv_iload_n hx hb dX4_over_7 rfl (lv_at hl 2 rfl) ?_
    refine bd_sip (As := [.int i]) (rest := []) C (c4_isPlace _ _ _ _ _ i) (va_cwS 1 hts gX4_over_X4_isPlace rfl rfl rfl (by decide +kernel) ⟨Nat.le_of_ble_eq_true rfl, Nat.le_of_ble_eq_true rfl⟩) hsz hw dX4_over_8 rfl hl.1 rfl (Nat.le_of_ble_eq_true rfl) ⟨Nat.le_refl _, Nat.le_refl _⟩ (fun H locs hw => ?_)
    refine lv_if_eq (tgt := 21) hx hb dX4_over_11 (by decide) (fun hc11 => ?_) (fun hc11 => ?_)
    · have hno := pl_f hc11
      refine lv_iconst (v := (-1)) hx hb dX4_over_21 (by decide) ?_
      have hd9 : dk_over P (nI kn) i j mu ra = (-1, mu, ra) := if_neg (fun q => hno q.1.2.1)
      exact bd_iret C hr hlk hw dX4_over_22 (by rw [hd9]; exact ⟨rfl, hbk, sg0, hS, bk_ivm hiv hof hfi⟩)
    · have hpl_im := pl_t hc11
      obtain ⟨im, him, hk_im, hx_im⟩ := pl_x hpl_im
      subst hk_im
      refine lv_iload_n hx hb dX4_over_14 rfl (lv_at hl 3 rfl) ?_
      refine bd_sip (As := [.int j]) (rest := []) C (c4_isPlace _ _ _ _ _ j) (va_cwS 1 hts gX4_over_X4_isPlace rfl rfl rfl (by decide +kernel) ⟨Nat.le_of_ble_eq_true rfl, Nat.le_of_ble_eq_true rfl⟩) hsz hw dX4_over_15 rfl hl.1 rfl (Nat.le_of_ble_eq_true rfl) ⟨Nat.le_refl _, Nat.le_refl _⟩ (fun H locs hw => ?_)
      refine lv_if_ne (tgt := 23) hx hb dX4_over_18 (by decide) (fun hc18 => ?_) (fun hc18 => ?_)
      · have hpl_jm := pl_t hc18
        obtain ⟨jm, hjm, hk_jm, hx_jm⟩ := pl_x hpl_jm
        subst hk_jm
        refine lv_aload_n hx hb dX4_over_23 rfl (lv_at hl 0 rfl) ?_
        refine bk_g C i4 hw hbk 2 (by decide) (v := .ref (a 1)) rfl dX4_over_24 lk18 ?_
        refine lv_iload_n hx hb dX4_over_27 rfl (lv_at hl 2 rfl) ?_
        refine bk_ald C hw hbk him dX4_over_28 ?_
        refine lv_astore (lv' := [(4, .ref (a (3 + im))), (0, .ref (a 0)), (1, .int (nI kn)), (2, .int (nI im)), (3, .int (nI jm))]) hx hb dX4_over_29 hl (by decide) rfl (fun ls hl => ?_)
        refine lv_aload_n hx hb dX4_over_31 rfl (lv_at hl 1 rfl) ?_
        refine bk_g C i4 hw hbk 2 (by decide) (v := .ref (a 1)) rfl dX4_over_32 lk18 ?_
        refine lv_iload_n hx hb dX4_over_35 rfl (lv_at hl 4 rfl) ?_
        refine bk_ald C hw hbk hjm dX4_over_36 ?_
        refine lv_astore (lv' := [(5, .ref (a (3 + jm))), (4, .ref (a (3 + im))), (0, .ref (a 0)), (1, .int (nI kn)), (2, .int (nI im)), (3, .int (nI jm))]) hx hb dX4_over_37 hl (by decide) rfl (fun ls hl => ?_)
        refine lv_aload_n hx hb dX4_over_39 rfl (lv_at hl 2 rfl) ?_
        refine bk_g C i4 hw hbk 6 (by decide) (v := .ref (B 3)) rfl dX4_over_40 lk33 ?_
        refine lv_astore (lv' := [(6, .ref (B 3)), (5, .ref (a (3 + jm))), (4, .ref (a (3 + im))), (0, .ref (a 0)), (1, .int (nI kn)), (2, .int (nI im)), (3, .int (nI jm))]) hx hb dX4_over_43 hl (by decide) rfl (fun ls hl => ?_)
        refine lv_aload hx hb dX4_over_45 (lv_at hl 0 rfl) ?_
        refine lv_aload hx hb dX4_over_47 (lv_at hl 1 rfl) ?_
        refine bl_gm C ib0 hw (bk_pl hbk (k := jm) hjm) dX4_over_49 lk85 ?_
        have fm_jm : sg0 (B (8 + jm)) = mu jm := (hof (8 + jm) (by omega) (by omega)).trans (hiv.2.2 jm hjm).1
        refine sv_v (As := [.ref (B (8 + jm))]) (rest := []) C (v3_become_ _ _ _ _ _ hS (B 3) (B (8 + jm)) (bk_in hbk (i := 3) (by omega)) (bk_in hbk (i := (8 + jm)) (by omega))) (cwV 1 hts gX4_over_X3_become_ rfl rfl rfl (by decide +kernel) ⟨Nat.le_of_ble_eq_true rfl, Nat.le_of_ble_eq_true rfl⟩) hsz hw (bd_recv C hw (bk_in hbk (i := 3) (by omega))) dX4_over_52 rfl hl.1 rfl (Nat.le_of_ble_eq_true rfl) ⟨Nat.le_refl _, Nat.le_refl _⟩ (fun z sg H locs hv9 hf9 hS hw => ?_)
        have fT9 : sg (B 3) = mu jm := hv9.trans (by exact fm_jm)
        have f_3 := fT9
        have hof : ∀ j, (j = 0 ∨ 8 ≤ j) → j < 32 → sg (B j) = sg0 (B j) := fun j h1 h2 => (hf9 (B j) (bk_ne hbk (i := j) (j := 3) (by omega) (by omega) (by omega))).trans (hof j h1 h2)
        have hfi : fn_iv (P + 64) (bk_A B) sg := fn_ivm hfi (hf9 (bk_A B 1) (bk_ne hbk (i := 31 + 1) (j := 3) (by decide) (by decide) (by decide))) (hf9 (bk_A B 2) (bk_ne hbk (i := 31 + 2) (j := 3) (by decide) (by decide) (by decide))) (hf9 (bk_A B 3) (bk_ne hbk (i := 31 + 3) (j := 3) (by decide) (by decide) (by decide)))
        refine lv_aload hx hb dX4_over_55 (lv_at hl 0 rfl) ?_
        refine sv_v (As := []) (rest := []) C (v3_dropSign _ _ _ _ _ hS (B 3) (bk_in hbk (i := 3) (by omega))) (cwV 0 hts gX4_over_X3_dropSign rfl rfl rfl (by decide +kernel) ⟨Nat.le_of_ble_eq_true rfl, Nat.le_of_ble_eq_true rfl⟩) hsz hw (bd_recv C hw (bk_in hbk (i := 3) (by omega))) dX4_over_57 rfl hl.1 rfl (Nat.le_of_ble_eq_true rfl) ⟨Nat.le_refl _, Nat.le_refl _⟩ (fun z sg H locs hv9 hf9 hS hw => ?_)
        have fT9 : sg (B 3) = ((mu jm).natAbs : Int) := hv9.trans (by rw [f_3])
        have f_3 := fT9
        have hof : ∀ j, (j = 0 ∨ 8 ≤ j) → j < 32 → sg (B j) = sg0 (B j) := fun j h1 h2 => (hf9 (B j) (bk_ne hbk (i := j) (j := 3) (by omega) (by omega) (by omega))).trans (hof j h1 h2)
        have hfi : fn_iv (P + 64) (bk_A B) sg := fn_ivm hfi (hf9 (bk_A B 1) (bk_ne hbk (i := 31 + 1) (j := 3) (by decide) (by decide) (by decide))) (hf9 (bk_A B 2) (bk_ne hbk (i := 31 + 2) (j := 3) (by decide) (by decide) (by decide))) (hf9 (bk_A B 3) (bk_ne hbk (i := 31 + 3) (j := 3) (by decide) (by decide) (by decide)))
        refine lv_aload hx hb dX4_over_60 (lv_at hl 0 rfl) ?_
        refine lv_aload hx hb dX4_over_62 (lv_at hl 1 rfl) ?_
        refine bl_gr C ib0 hw (bk_pl hbk (k := jm) hjm) dX4_over_64 lk92 ?_
        have fr_jm : sg (B (20 + jm)) = ra jm := (hof (20 + jm) (by omega) (by omega)).trans (hiv.2.2 jm hjm).2.1
        refine bd_cip (As := [.ref (B (20 + jm))]) (rest := []) C (v3_order _ _ _ _ _ hS (B 3) (B (20 + jm)) (bk_in hbk (i := 3) (by omega)) (bk_in hbk (i := (20 + jm)) (by omega))) (cwV 1 hts gX4_over_X3_order rfl rfl rfl (by decide +kernel) ⟨Nat.le_of_ble_eq_true rfl, Nat.le_of_ble_eq_true rfl⟩) hsz hw (bd_recv C hw (bk_in hbk (i := 3) (by omega))) dX4_over_67 rfl hl.1 rfl (Nat.le_of_ble_eq_true rfl) ⟨Nat.le_refl _, Nat.le_refl _⟩ (fun H locs hw => ?_)
        rw [f_3, fr_jm]
        refine lv_if_gt (tgt := 75) hx hb dX4_over_70 (by decide) (fun hc70 => ?_) (fun hc70 => ?_)
        · obtain ⟨hbm_im, hb0_im, hbr_im⟩ := bk_b hP2 hiv him
          obtain ⟨hbm_jm, hb0_jm, hbr_jm⟩ := bk_b hP2 hiv hjm
          have hgt := q3_gt.mp hc70
          have hdp : 0 < ((mu jm).natAbs : Int) := by omega
          have hd : dk_over P (nI kn) (nI im) (nI jm) mu ra = dk_keep P kn (dk_overM P (mu im) (mu jm)) (dk_overR P (mu im) (ra im) (mu jm) (ra jm)) mu ra := by unfold dk_over; rw [if_pos ⟨⟨hpl_kn, hpl_im, hpl_jm⟩, by rw [hx_jm]; exact hgt⟩, hx_kn, hx_im, hx_jm]
          refine lv_aload_n hx hb dX4_over_75 rfl (lv_at hl 3 rfl) ?_
          refine bk_g C i4 hw hbk 3 (by decide) (v := .ref (a 2)) rfl dX4_over_76 lk23 ?_
          refine bl_gm C ib0 hw (bk_made hbk) dX4_over_79 lk85 ?_
          refine lv_aload hx hb dX4_over_82 (lv_at hl 2 rfl) ?_
          refine bl_gm C ib0 hw (bk_pl hbk (k := im) him) dX4_over_84 lk85 ?_
          have fm_im : sg (B (8 + im)) = mu im := (hof (8 + im) (by omega) (by omega)).trans (hiv.2.2 im him).1
          refine sv_v (As := [.ref (B (8 + im))]) (rest := []) C (v3_become_ _ _ _ _ _ hS (B 6) (B (8 + im)) (bk_in hbk (i := 6) (by omega)) (bk_in hbk (i := (8 + im)) (by omega))) (cwV 1 hts gX4_over_X3_become_ rfl rfl rfl (by decide +kernel) ⟨Nat.le_of_ble_eq_true rfl, Nat.le_of_ble_eq_true rfl⟩) hsz hw (bd_recv C hw (bk_in hbk (i := 6) (by omega))) dX4_over_87 rfl hl.1 rfl (Nat.le_of_ble_eq_true rfl) ⟨Nat.le_refl _, Nat.le_refl _⟩ (fun z sg H locs hv9 hf9 hS hw => ?_)
          have fT9 : sg (B 6) = mu im := hv9.trans (by exact fm_im)
          have f_3 : sg (B 3) = ((mu jm).natAbs : Int) := (hf9 (B 3) (bk_ne hbk (i := 3) (j := 6) (by omega) (by omega) (by omega))).trans f_3
          have f_6 := fT9
          have hof : ∀ j, (j = 0 ∨ 8 ≤ j) → j < 32 → sg (B j) = sg0 (B j) := fun j h1 h2 => (hf9 (B j) (bk_ne hbk (i := j) (j := 6) (by omega) (by omega) (by omega))).trans (hof j h1 h2)
          have hfi : fn_iv (P + 64) (bk_A B) sg := fn_ivm hfi (hf9 (bk_A B 1) (bk_ne hbk (i := 31 + 1) (j := 6) (by decide) (by decide) (by decide))) (hf9 (bk_A B 2) (bk_ne hbk (i := 31 + 2) (j := 6) (by decide) (by decide) (by decide))) (hf9 (bk_A B 3) (bk_ne hbk (i := 31 + 3) (j := 6) (by decide) (by decide) (by decide)))
          refine lv_aload hx hb dX4_over_90 (lv_at hl 1 rfl) ?_
          refine bl_gm C ib0 hw (bk_pl hbk (k := jm) hjm) dX4_over_92 lk85 ?_
          have fm_jm : sg (B (8 + jm)) = mu jm := (hof (8 + jm) (by omega) (by omega)).trans (hiv.2.2 jm hjm).1
          refine bd_cip (As := []) (rest := []) C (v3_sign _ _ _ _ _ hS (B (8 + jm)) (bk_in hbk (i := (8 + jm)) (by omega))) (cwV 0 hts gX4_over_X3_sign rfl rfl rfl (by decide +kernel) ⟨Nat.le_of_ble_eq_true rfl, Nat.le_of_ble_eq_true rfl⟩) hsz hw (bd_recv C hw (bk_in hbk (i := (8 + jm)) (by omega))) dX4_over_95 rfl hl.1 rfl (Nat.le_of_ble_eq_true rfl) ⟨Nat.le_refl _, Nat.le_refl _⟩ (fun H locs hw => ?_)
          rw [fm_jm]
          refine lv_if_ge (tgt := 111) hx hb dX4_over_98 (by decide) (fun hc98 => ?_) (fun hc98 => ?_)
          · have hMv : (if mu jm < 0 then -mu im else mu im) = mu im := if_neg (Int.not_lt.mpr (q3_ge.mp hc98))
            have hcur : (mu im).natAbs ≤ 2 ^ 240 := hbm_im
            refine lv_aload_n hx hb dX4_over_111 rfl (lv_at hl 3 rfl) ?_
            refine bk_g C i4 hw hbk 3 (by decide) (v := .ref (a 2)) rfl dX4_over_112 lk23 ?_
            refine bl_gm C ib0 hw (bk_made hbk) dX4_over_115 lk85 ?_
            refine lv_aload_n hx hb dX4_over_118 rfl (lv_at hl 3 rfl) ?_
            refine bk_g C i4 hw hbk 0 (by decide) (v := .int (nI P)) rfl dX4_over_119 lk58 ?_
            refine sv_v (As := [.int (nI P)]) (rest := []) C (v3_raise _ _ _ _ _ hS (B 6) P 8 (bk_in hbk (i := 6) (by omega)) (by omega) (by rw [f_6]; exact b8 hcur) (by omega)) (cwV 1 hts gX4_over_X3_raise rfl rfl rfl (by decide +kernel) ⟨Nat.le_of_ble_eq_true rfl, Nat.le_of_ble_eq_true rfl⟩) hsz hw (bd_recv C hw (bk_in hbk (i := 6) (by omega))) dX4_over_122 rfl hl.1 rfl (Nat.le_of_ble_eq_true rfl) ⟨Nat.le_refl _, Nat.le_refl _⟩ (fun z sg H locs hv9 hf9 hS hw => ?_)
            have fT9 : sg (B 6) = (mu im * dk_p P) := hv9.trans (by rw [f_6])
            have f_3 : sg (B 3) = ((mu jm).natAbs : Int) := (hf9 (B 3) (bk_ne hbk (i := 3) (j := 6) (by omega) (by omega) (by omega))).trans f_3
            have f_6 := fT9
            have hof : ∀ j, (j = 0 ∨ 8 ≤ j) → j < 32 → sg (B j) = sg0 (B j) := fun j h1 h2 => (hf9 (B j) (bk_ne hbk (i := j) (j := 6) (by omega) (by omega) (by omega))).trans (hof j h1 h2)
            have hfi : fn_iv (P + 64) (bk_A B) sg := fn_ivm hfi (hf9 (bk_A B 1) (bk_ne hbk (i := 31 + 1) (j := 6) (by decide) (by decide) (by decide))) (hf9 (bk_A B 2) (bk_ne hbk (i := 31 + 2) (j := 6) (by decide) (by decide) (by decide))) (hf9 (bk_A B 3) (bk_ne hbk (i := 31 + 3) (j := 6) (by decide) (by decide) (by decide)))
            refine lv_aload_n hx hb dX4_over_125 rfl (lv_at hl 3 rfl) ?_
            refine bk_g C i4 hw hbk 9 (by decide) (v := .ref (a 16)) rfl dX4_over_126 lk45 ?_
            refine lv_aload_n hx hb dX4_over_129 rfl (lv_at hl 3 rfl) ?_
            refine bk_g C i4 hw hbk 3 (by decide) (v := .ref (a 2)) rfl dX4_over_130 lk23 ?_
            refine bl_gm C ib0 hw (bk_made hbk) dX4_over_133 lk85 ?_
            refine lv_aload_n hx hb dX4_over_136 rfl (lv_at hl 3 rfl) ?_
            refine bk_g C i4 hw hbk 3 (by decide) (v := .ref (a 2)) rfl dX4_over_137 lk23 ?_
            refine bl_gm C ib0 hw (bk_made hbk) dX4_over_140 lk85 ?_
            refine lv_aload hx hb dX4_over_143 (lv_at hl 0 rfl) ?_
            have hcb : (mu im * dk_p P).natAbs + 1 < 4294967296 ^ 24 := ov_b hP2 hcur
            refine sv_q (As := [.ref (B 6), .ref (B 6), .ref (B 3)]) (rest := []) C (v1_quotient _ _ _ _ _ hS (a 16) (a 17) (a 18) (B 6) (B 6) (B 3) (bk_dv hbk) (bk_in hbk (i := 6) (by omega)) (bk_in hbk (i := 6) (by omega)) (bk_in hbk (i := 3) (by omega)) (by rw [f_3]; exact hdp) (by rw [f_6]; exact hcb)) (cwV 3 hts gX4_over_X1_quotient rfl rfl rfl (by decide +kernel) ⟨Nat.le_of_ble_eq_true rfl, Nat.le_of_ble_eq_true rfl⟩) hsz hw (dv_recv2 C hw (bk_dv hbk)) dX4_over_145 rfl hl.1 rfl (Nat.le_of_ble_eq_true rfl) ⟨Nat.le_refl _, Nat.le_refl _⟩ (fun E z sg H locs hd9 hfe9 hv9 hf9 hS hw => ?_)
            have hbk := bk_mv1 hbk hd9 hfe9
            have fT9 : sg (B 6) = (dk_overM P (mu im) (mu jm)) := hv9.trans (by rw [f_6, f_3]; unfold dk_overM; rw [hMv])
            have f_3 : sg (B 3) = ((mu jm).natAbs : Int) := (hf9 (B 3) (bk_ne hbk (i := 3) (j := 6) (by omega) (by omega) (by omega))).trans f_3
            have f_6 := fT9
            have hof : ∀ j, (j = 0 ∨ 8 ≤ j) → j < 32 → sg (B j) = sg0 (B j) := fun j h1 h2 => (hf9 (B j) (bk_ne hbk (i := j) (j := 6) (by omega) (by omega) (by omega))).trans (hof j h1 h2)
            have hfi : fn_iv (P + 64) (bk_A B) sg := fn_ivm hfi (hf9 (bk_A B 1) (bk_ne hbk (i := 31 + 1) (j := 6) (by decide) (by decide) (by decide))) (hf9 (bk_A B 2) (bk_ne hbk (i := 31 + 2) (j := 6) (by decide) (by decide) (by decide))) (hf9 (bk_A B 3) (bk_ne hbk (i := 31 + 3) (j := 6) (by decide) (by decide) (by decide)))
            refine lv_pop hx hb dX4_over_148 rfl ?_
            refine lv_aload_n hx hb dX4_over_149 rfl (lv_at hl 3 rfl) ?_
            refine lv_aload hx hb dX4_over_150 (lv_at hl 2 rfl) ?_
            refine lv_aload hx hb dX4_over_152 (lv_at hl 0 rfl) ?_
            refine lv_aload hx hb dX4_over_154 (lv_at hl 1 rfl) ?_
            refine bl_gr C ib0 hw (bk_pl hbk (k := jm) hjm) dX4_over_156 lk92 ?_
            have fm_im : sg (B (8 + im)) = mu im := (hof (8 + im) (by omega) (by omega)).trans (hiv.2.2 im him).1
            have fr_im : sg (B (20 + im)) = ra im := (hof (20 + im) (by omega) (by omega)).trans (hiv.2.2 im him).2.1
            have fr_jm : sg (B (20 + jm)) = ra jm := (hof (20 + jm) (by omega) (by omega)).trans (hiv.2.2 jm hjm).2.1
            refine bd_cv (As := [.ref (a (3 + im)), .ref (B 3), .ref (B (20 + jm))]) (rest := []) C (c4_rq _ _ _ _ _ hbk hS im jm him hjm (by rw [fm_im]; exact hbm_im) (by rw [fr_im]; exact hbr_im) (by rw [fr_jm]; exact hbr_jm) (by rw [f_3, Int.natAbs_natCast]; exact hbm_jm) (by rw [fr_jm]; exact hb0_jm) (by rw [fr_jm, f_3]; exact hgt)) (cwV 3 hts gX4_over_X4_radiusOfQuotient rfl rfl rfl (by decide +kernel) ⟨Nat.le_of_ble_eq_true rfl, Nat.le_of_ble_eq_true rfl⟩) hsz hw (bk_recv C hw hbk) dX4_over_159 rfl hl.1 rfl (Nat.le_of_ble_eq_true rfl) ⟨Nat.le_refl _, Nat.le_refl _⟩ (fun E z H locs hp hw => ?_)
            obtain ⟨hbk, sg, hS, hv0_, hf9⟩ := hp
            have fT0_ : sg (B 7) = (dk_overR P (mu im) (ra im) (mu jm) (ra jm)) := hv0_.trans (by rw [fm_im, fr_im, fr_jm, f_3]; rfl)
            have f_3 : sg (B 3) = ((mu jm).natAbs : Int) := (hf9 (B 3) (bk_ne hbk (i := 3) (j := 7) (by omega) (by omega) (by omega)) (bk_ne hbk (i := 3) (j := 1) (by omega) (by omega) (by omega)) (bk_ne hbk (i := 3) (j := 2) (by omega) (by omega) (by omega)) (bk_ne hbk (i := 3) (j := 4) (by omega) (by omega) (by omega)) (bk_ne hbk (i := 3) (j := 5) (by omega) (by omega) (by omega))).trans f_3
            have f_6 : sg (B 6) = (dk_overM P (mu im) (mu jm)) := (hf9 (B 6) (bk_ne hbk (i := 6) (j := 7) (by omega) (by omega) (by omega)) (bk_ne hbk (i := 6) (j := 1) (by omega) (by omega) (by omega)) (bk_ne hbk (i := 6) (j := 2) (by omega) (by omega) (by omega)) (bk_ne hbk (i := 6) (j := 4) (by omega) (by omega) (by omega)) (bk_ne hbk (i := 6) (j := 5) (by omega) (by omega) (by omega))).trans f_6
            have f_7 := fT0_
            have hof : ∀ j, (j = 0 ∨ 8 ≤ j) → j < 32 → sg (B j) = sg0 (B j) := fun j h1 h2 => (hf9 (B j) (bk_ne hbk (i := j) (j := 7) (by omega) (by omega) (by omega)) (bk_ne hbk (i := j) (j := 1) (by omega) (by omega) (by omega)) (bk_ne hbk (i := j) (j := 2) (by omega) (by omega) (by omega)) (bk_ne hbk (i := j) (j := 4) (by omega) (by omega) (by omega)) (bk_ne hbk (i := j) (j := 5) (by omega) (by omega) (by omega))).trans (hof j h1 h2)
            have hfi : fn_iv (P + 64) (bk_A B) sg := fn_ivm hfi (hf9 (bk_A B 1) (bk_ne hbk (i := 31 + 1) (j := 7) (by decide) (by decide) (by decide)) (bk_ne hbk (i := 31 + 1) (j := 1) (by decide) (by decide) (by decide)) (bk_ne hbk (i := 31 + 1) (j := 2) (by decide) (by decide) (by decide)) (bk_ne hbk (i := 31 + 1) (j := 4) (by decide) (by decide) (by decide)) (bk_ne hbk (i := 31 + 1) (j := 5) (by decide) (by decide) (by decide))) (hf9 (bk_A B 2) (bk_ne hbk (i := 31 + 2) (j := 7) (by decide) (by decide) (by decide)) (bk_ne hbk (i := 31 + 2) (j := 1) (by decide) (by decide) (by decide)) (bk_ne hbk (i := 31 + 2) (j := 2) (by decide) (by decide) (by decide)) (bk_ne hbk (i := 31 + 2) (j := 4) (by decide) (by decide) (by decide)) (bk_ne hbk (i := 31 + 2) (j := 5) (by decide) (by decide) (by decide))) (hf9 (bk_A B 3) (bk_ne hbk (i := 31 + 3) (j := 7) (by decide) (by decide) (by decide)) (bk_ne hbk (i := 31 + 3) (j := 1) (by decide) (by decide) (by decide)) (bk_ne hbk (i := 31 + 3) (j := 2) (by decide) (by decide) (by decide)) (bk_ne hbk (i := 31 + 3) (j := 4) (by decide) (by decide) (by decide)) (bk_ne hbk (i := 31 + 3) (j := 5) (by decide) (by decide) (by decide)))
            refine lv_aload_n hx hb dX4_over_162 rfl (lv_at hl 3 rfl) ?_
            refine lv_iload_n hx hb dX4_over_163 rfl (lv_at hl 4 rfl) ?_
            refine bd_ci (As := [.int (nI kn)]) (rest := []) C (c4_keep _ _ _ _ _ hbk hS (bk_ivm hiv hof hfi) kn hkn) (cwV 1 hts gX4_over_X4_keep rfl rfl rfl (by decide +kernel) ⟨Nat.le_of_ble_eq_true rfl, Nat.le_of_ble_eq_true rfl⟩) hsz hw (bk_recv C hw hbk) dX4_over_164 rfl hl.1 rfl (Nat.le_of_ble_eq_true rfl) ⟨Nat.le_refl _, Nat.le_refl _⟩ (fun r9 E9 z H locs hp hw => ?_)
            rw [f_6, f_7] at hp
            exact bd_iret C hr hlk hw dX4_over_167 (by rw [hd]; exact hp)
          · have hMv : (if mu jm < 0 then -mu im else mu im) = -mu im := if_pos (Int.not_le.mp (fun q => hc98 (q3_ge.mpr q)))
            have hcur : (-mu im).natAbs ≤ 2 ^ 240 := by rw [Int.natAbs_neg]; exact hbm_im
            refine lv_aload_n hx hb dX4_over_101 rfl (lv_at hl 3 rfl) ?_
            refine bk_g C i4 hw hbk 3 (by decide) (v := .ref (a 2)) rfl dX4_over_102 lk23 ?_
            refine bl_gm C ib0 hw (bk_made hbk) dX4_over_105 lk85 ?_
            refine sv_v (As := []) (rest := []) C (v3_turn _ _ _ _ _ hS (B 6) (bk_in hbk (i := 6) (by omega))) (cwV 0 hts gX4_over_X3_turn rfl rfl rfl (by decide +kernel) ⟨Nat.le_of_ble_eq_true rfl, Nat.le_of_ble_eq_true rfl⟩) hsz hw (bd_recv C hw (bk_in hbk (i := 6) (by omega))) dX4_over_108 rfl hl.1 rfl (Nat.le_of_ble_eq_true rfl) ⟨Nat.le_refl _, Nat.le_refl _⟩ (fun z sg H locs hv9 hf9 hS hw => ?_)
            have fT9 : sg (B 6) = (-mu im) := hv9.trans (by rw [f_6])
            have f_3 : sg (B 3) = ((mu jm).natAbs : Int) := (hf9 (B 3) (bk_ne hbk (i := 3) (j := 6) (by omega) (by omega) (by omega))).trans f_3
            have f_6 := fT9
            have hof : ∀ j, (j = 0 ∨ 8 ≤ j) → j < 32 → sg (B j) = sg0 (B j) := fun j h1 h2 => (hf9 (B j) (bk_ne hbk (i := j) (j := 6) (by omega) (by omega) (by omega))).trans (hof j h1 h2)
            have hfi : fn_iv (P + 64) (bk_A B) sg := fn_ivm hfi (hf9 (bk_A B 1) (bk_ne hbk (i := 31 + 1) (j := 6) (by decide) (by decide) (by decide))) (hf9 (bk_A B 2) (bk_ne hbk (i := 31 + 2) (j := 6) (by decide) (by decide) (by decide))) (hf9 (bk_A B 3) (bk_ne hbk (i := 31 + 3) (j := 6) (by decide) (by decide) (by decide)))
            refine lv_aload_n hx hb dX4_over_111 rfl (lv_at hl 3 rfl) ?_
            refine bk_g C i4 hw hbk 3 (by decide) (v := .ref (a 2)) rfl dX4_over_112 lk23 ?_
            refine bl_gm C ib0 hw (bk_made hbk) dX4_over_115 lk85 ?_
            refine lv_aload_n hx hb dX4_over_118 rfl (lv_at hl 3 rfl) ?_
            refine bk_g C i4 hw hbk 0 (by decide) (v := .int (nI P)) rfl dX4_over_119 lk58 ?_
            refine sv_v (As := [.int (nI P)]) (rest := []) C (v3_raise _ _ _ _ _ hS (B 6) P 8 (bk_in hbk (i := 6) (by omega)) (by omega) (by rw [f_6]; exact b8 hcur) (by omega)) (cwV 1 hts gX4_over_X3_raise rfl rfl rfl (by decide +kernel) ⟨Nat.le_of_ble_eq_true rfl, Nat.le_of_ble_eq_true rfl⟩) hsz hw (bd_recv C hw (bk_in hbk (i := 6) (by omega))) dX4_over_122 rfl hl.1 rfl (Nat.le_of_ble_eq_true rfl) ⟨Nat.le_refl _, Nat.le_refl _⟩ (fun z sg H locs hv9 hf9 hS hw => ?_)
            have fT9 : sg (B 6) = ((-mu im) * dk_p P) := hv9.trans (by rw [f_6])
            have f_3 : sg (B 3) = ((mu jm).natAbs : Int) := (hf9 (B 3) (bk_ne hbk (i := 3) (j := 6) (by omega) (by omega) (by omega))).trans f_3
            have f_6 := fT9
            have hof : ∀ j, (j = 0 ∨ 8 ≤ j) → j < 32 → sg (B j) = sg0 (B j) := fun j h1 h2 => (hf9 (B j) (bk_ne hbk (i := j) (j := 6) (by omega) (by omega) (by omega))).trans (hof j h1 h2)
            have hfi : fn_iv (P + 64) (bk_A B) sg := fn_ivm hfi (hf9 (bk_A B 1) (bk_ne hbk (i := 31 + 1) (j := 6) (by decide) (by decide) (by decide))) (hf9 (bk_A B 2) (bk_ne hbk (i := 31 + 2) (j := 6) (by decide) (by decide) (by decide))) (hf9 (bk_A B 3) (bk_ne hbk (i := 31 + 3) (j := 6) (by decide) (by decide) (by decide)))
            refine lv_aload_n hx hb dX4_over_125 rfl (lv_at hl 3 rfl) ?_
            refine bk_g C i4 hw hbk 9 (by decide) (v := .ref (a 16)) rfl dX4_over_126 lk45 ?_
            refine lv_aload_n hx hb dX4_over_129 rfl (lv_at hl 3 rfl) ?_
            refine bk_g C i4 hw hbk 3 (by decide) (v := .ref (a 2)) rfl dX4_over_130 lk23 ?_
            refine bl_gm C ib0 hw (bk_made hbk) dX4_over_133 lk85 ?_
            refine lv_aload_n hx hb dX4_over_136 rfl (lv_at hl 3 rfl) ?_
            refine bk_g C i4 hw hbk 3 (by decide) (v := .ref (a 2)) rfl dX4_over_137 lk23 ?_
            refine bl_gm C ib0 hw (bk_made hbk) dX4_over_140 lk85 ?_
            refine lv_aload hx hb dX4_over_143 (lv_at hl 0 rfl) ?_
            have hcb : ((-mu im) * dk_p P).natAbs + 1 < 4294967296 ^ 24 := ov_b hP2 hcur
            refine sv_q (As := [.ref (B 6), .ref (B 6), .ref (B 3)]) (rest := []) C (v1_quotient _ _ _ _ _ hS (a 16) (a 17) (a 18) (B 6) (B 6) (B 3) (bk_dv hbk) (bk_in hbk (i := 6) (by omega)) (bk_in hbk (i := 6) (by omega)) (bk_in hbk (i := 3) (by omega)) (by rw [f_3]; exact hdp) (by rw [f_6]; exact hcb)) (cwV 3 hts gX4_over_X1_quotient rfl rfl rfl (by decide +kernel) ⟨Nat.le_of_ble_eq_true rfl, Nat.le_of_ble_eq_true rfl⟩) hsz hw (dv_recv2 C hw (bk_dv hbk)) dX4_over_145 rfl hl.1 rfl (Nat.le_of_ble_eq_true rfl) ⟨Nat.le_refl _, Nat.le_refl _⟩ (fun E z sg H locs hd9 hfe9 hv9 hf9 hS hw => ?_)
            have hbk := bk_mv1 hbk hd9 hfe9
            have fT9 : sg (B 6) = (dk_overM P (mu im) (mu jm)) := hv9.trans (by rw [f_6, f_3]; unfold dk_overM; rw [hMv])
            have f_3 : sg (B 3) = ((mu jm).natAbs : Int) := (hf9 (B 3) (bk_ne hbk (i := 3) (j := 6) (by omega) (by omega) (by omega))).trans f_3
            have f_6 := fT9
            have hof : ∀ j, (j = 0 ∨ 8 ≤ j) → j < 32 → sg (B j) = sg0 (B j) := fun j h1 h2 => (hf9 (B j) (bk_ne hbk (i := j) (j := 6) (by omega) (by omega) (by omega))).trans (hof j h1 h2)
            have hfi : fn_iv (P + 64) (bk_A B) sg := fn_ivm hfi (hf9 (bk_A B 1) (bk_ne hbk (i := 31 + 1) (j := 6) (by decide) (by decide) (by decide))) (hf9 (bk_A B 2) (bk_ne hbk (i := 31 + 2) (j := 6) (by decide) (by decide) (by decide))) (hf9 (bk_A B 3) (bk_ne hbk (i := 31 + 3) (j := 6) (by decide) (by decide) (by decide)))
            refine lv_pop hx hb dX4_over_148 rfl ?_
            refine lv_aload_n hx hb dX4_over_149 rfl (lv_at hl 3 rfl) ?_
            refine lv_aload hx hb dX4_over_150 (lv_at hl 2 rfl) ?_
            refine lv_aload hx hb dX4_over_152 (lv_at hl 0 rfl) ?_
            refine lv_aload hx hb dX4_over_154 (lv_at hl 1 rfl) ?_
            refine bl_gr C ib0 hw (bk_pl hbk (k := jm) hjm) dX4_over_156 lk92 ?_
            have fm_im : sg (B (8 + im)) = mu im := (hof (8 + im) (by omega) (by omega)).trans (hiv.2.2 im him).1
            have fr_im : sg (B (20 + im)) = ra im := (hof (20 + im) (by omega) (by omega)).trans (hiv.2.2 im him).2.1
            have fr_jm : sg (B (20 + jm)) = ra jm := (hof (20 + jm) (by omega) (by omega)).trans (hiv.2.2 jm hjm).2.1
            refine bd_cv (As := [.ref (a (3 + im)), .ref (B 3), .ref (B (20 + jm))]) (rest := []) C (c4_rq _ _ _ _ _ hbk hS im jm him hjm (by rw [fm_im]; exact hbm_im) (by rw [fr_im]; exact hbr_im) (by rw [fr_jm]; exact hbr_jm) (by rw [f_3, Int.natAbs_natCast]; exact hbm_jm) (by rw [fr_jm]; exact hb0_jm) (by rw [fr_jm, f_3]; exact hgt)) (cwV 3 hts gX4_over_X4_radiusOfQuotient rfl rfl rfl (by decide +kernel) ⟨Nat.le_of_ble_eq_true rfl, Nat.le_of_ble_eq_true rfl⟩) hsz hw (bk_recv C hw hbk) dX4_over_159 rfl hl.1 rfl (Nat.le_of_ble_eq_true rfl) ⟨Nat.le_refl _, Nat.le_refl _⟩ (fun E z H locs hp hw => ?_)
            obtain ⟨hbk, sg, hS, hv0_, hf9⟩ := hp
            have fT0_ : sg (B 7) = (dk_overR P (mu im) (ra im) (mu jm) (ra jm)) := hv0_.trans (by rw [fm_im, fr_im, fr_jm, f_3]; rfl)
            have f_3 : sg (B 3) = ((mu jm).natAbs : Int) := (hf9 (B 3) (bk_ne hbk (i := 3) (j := 7) (by omega) (by omega) (by omega)) (bk_ne hbk (i := 3) (j := 1) (by omega) (by omega) (by omega)) (bk_ne hbk (i := 3) (j := 2) (by omega) (by omega) (by omega)) (bk_ne hbk (i := 3) (j := 4) (by omega) (by omega) (by omega)) (bk_ne hbk (i := 3) (j := 5) (by omega) (by omega) (by omega))).trans f_3
            have f_6 : sg (B 6) = (dk_overM P (mu im) (mu jm)) := (hf9 (B 6) (bk_ne hbk (i := 6) (j := 7) (by omega) (by omega) (by omega)) (bk_ne hbk (i := 6) (j := 1) (by omega) (by omega) (by omega)) (bk_ne hbk (i := 6) (j := 2) (by omega) (by omega) (by omega)) (bk_ne hbk (i := 6) (j := 4) (by omega) (by omega) (by omega)) (bk_ne hbk (i := 6) (j := 5) (by omega) (by omega) (by omega))).trans f_6
            have f_7 := fT0_
            have hof : ∀ j, (j = 0 ∨ 8 ≤ j) → j < 32 → sg (B j) = sg0 (B j) := fun j h1 h2 => (hf9 (B j) (bk_ne hbk (i := j) (j := 7) (by omega) (by omega) (by omega)) (bk_ne hbk (i := j) (j := 1) (by omega) (by omega) (by omega)) (bk_ne hbk (i := j) (j := 2) (by omega) (by omega) (by omega)) (bk_ne hbk (i := j) (j := 4) (by omega) (by omega) (by omega)) (bk_ne hbk (i := j) (j := 5) (by omega) (by omega) (by omega))).trans (hof j h1 h2)
            have hfi : fn_iv (P + 64) (bk_A B) sg := fn_ivm hfi (hf9 (bk_A B 1) (bk_ne hbk (i := 31 + 1) (j := 7) (by decide) (by decide) (by decide)) (bk_ne hbk (i := 31 + 1) (j := 1) (by decide) (by decide) (by decide)) (bk_ne hbk (i := 31 + 1) (j := 2) (by decide) (by decide) (by decide)) (bk_ne hbk (i := 31 + 1) (j := 4) (by decide) (by decide) (by decide)) (bk_ne hbk (i := 31 + 1) (j := 5) (by decide) (by decide) (by decide))) (hf9 (bk_A B 2) (bk_ne hbk (i := 31 + 2) (j := 7) (by decide) (by decide) (by decide)) (bk_ne hbk (i := 31 + 2) (j := 1) (by decide) (by decide) (by decide)) (bk_ne hbk (i := 31 + 2) (j := 2) (by decide) (by decide) (by decide)) (bk_ne hbk (i := 31 + 2) (j := 4) (by decide) (by decide) (by decide)) (bk_ne hbk (i := 31 + 2) (j := 5) (by decide) (by decide) (by decide))) (hf9 (bk_A B 3) (bk_ne hbk (i := 31 + 3) (j := 7) (by decide) (by decide) (by decide)) (bk_ne hbk (i := 31 + 3) (j := 1) (by decide) (by decide) (by decide)) (bk_ne hbk (i := 31 + 3) (j := 2) (by decide) (by decide) (by decide)) (bk_ne hbk (i := 31 + 3) (j := 4) (by decide) (by decide) (by decide)) (bk_ne hbk (i := 31 + 3) (j := 5) (by decide) (by decide) (by decide)))
            refine lv_aload_n hx hb dX4_over_162 rfl (lv_at hl 3 rfl) ?_
            refine lv_iload_n hx hb dX4_over_163 rfl (lv_at hl 4 rfl) ?_
            refine bd_ci (As := [.int (nI kn)]) (rest := []) C (c4_keep _ _ _ _ _ hbk hS (bk_ivm hiv hof hfi) kn hkn) (cwV 1 hts gX4_over_X4_keep rfl rfl rfl (by decide +kernel) ⟨Nat.le_of_ble_eq_true rfl, Nat.le_of_ble_eq_true rfl⟩) hsz hw (bk_recv C hw hbk) dX4_over_164 rfl hl.1 rfl (Nat.le_of_ble_eq_true rfl) ⟨Nat.le_refl _, Nat.le_refl _⟩ (fun r9 E9 z H locs hp hw => ?_)
            rw [f_6, f_7] at hp
            exact bd_iret C hr hlk hw dX4_over_167 (by rw [hd]; exact hp)
        · have hgt := fun q => hc70 (q3_gt.mpr q)
          refine lv_iconst (v := (-1)) hx hb dX4_over_73 (by decide) ?_
          have hd9 : dk_over P (nI kn) (nI im) (nI jm) mu ra = (-1, mu, ra) := if_neg (fun q => hgt (by have h9 := q.2; rw [hx_jm] at h9; exact h9))
          exact bd_iret C hr hlk hw dX4_over_74 (by rw [hd9]; exact ⟨rfl, hbk, sg, hS, bk_ivm hiv hof hfi⟩)
      · have hno := pl_f hc18
        refine lv_iconst (v := (-1)) hx hb dX4_over_21 (by decide) ?_
        have hd9 : dk_over P (nI kn) (nI im) j mu ra = (-1, mu, ra) := if_neg (fun q => hno q.1.2.2)
        exact bd_iret C hr hlk hw dX4_over_22 (by rw [hd9]; exact ⟨rfl, hbk, sg0, hS, bk_ivm hiv hof hfi⟩)
