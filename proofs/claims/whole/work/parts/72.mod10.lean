/-! the model: fineLog, fineArc, fineSine (laid by wip/gen/m_mod10.py) -/
/-- a fact put away from omega -/
def hid (p : Prop) : Prop := p
/-- the arc halved i times -/
noncomputable def hvn (Q : Nat) (T : Int) : Nat → Int
  | 0 => T
  | i + 1 => sp_HV Q (hvn Q T i)
theorem hvn_b {Q : Nat} {T : Int} (h : 0 ≤ T) : ∀ i, 0 ≤ hvn Q T i ∧ hvn Q T i ≤ T ∧ (0 < i → 2 * hvn Q T i ≤ T) := by
  intro i
  induction i with
  | zero => exact ⟨h, Int.le_refl _, fun q => absurd q (by omega)⟩
  | succ i ih =>
    have h1 := sp_HVb (Q := Q) ih.1
    exact ⟨h1.1, by show sp_HV Q (hvn Q T i) ≤ T; omega, fun _ => by show 2 * sp_HV Q (hvn Q T i) ≤ T; omega⟩
theorem hv_all {P : Nat} {y : Int} (hP2 : P ≤ 192) (h0 : 0 ≤ y) (hD : y ≤ ((2 ^ (P + 64) : Nat) : Int)) : True ∧ hid (y.natAbs ≤ 2 ^ 256) ∧ hid ((y * y).natAbs ≤ 2 ^ 512) ∧ 0 ≤ y * y + ((2 ^ (2 * (P + 64)) : Nat) : Int) ∧ hid ((y * y + ((2 ^ (2 * (P + 64)) : Nat) : Int)).natAbs ≤ 2 ^ 513) ∧ hid ((sp_ROOT (y * y + ((2 ^ (2 * (P + 64)) : Nat) : Int)) + ((2 ^ (P + 64) : Nat) : Int)).natAbs ≤ 2 ^ 514) ∧ 0 < sp_ROOT (y * y + ((2 ^ (2 * (P + 64)) : Nat) : Int)) + ((2 ^ (P + 64) : Nat) : Int) ∧ True := by
  have hp256 : (2 : Nat) ^ (P + 64) ≤ 2 ^ 256 := Nat.pow_le_pow_right (by decide) (by omega)
  have hp0 : 0 < 2 ^ (P + 64) := Nat.pow_pos (by decide)
  have hp512 : (2 : Nat) ^ (2 * (P + 64)) ≤ 2 ^ 512 := Nat.pow_le_pow_right (by decide) (by omega)
  have hb : y.natAbs ≤ 2 ^ 256 := by omega
  have h2 : (y * y).natAbs ≤ 2 ^ 512 := Nat.le_trans (mul_b hb hb) (by decide +kernel)
  have h20 : 0 ≤ y * y := Int.mul_nonneg h0 h0
  have h4 : (y * y + ((2 ^ (2 * (P + 64)) : Nat) : Int)).natAbs ≤ 2 ^ 513 := Nat.le_trans (add_b h2 (show (((2 ^ (2 * (P + 64)) : Nat) : Int)).natAbs ≤ 2 ^ 512 by rw [Int.natAbs_natCast]; exact hp512)) (by decide +kernel)
  have hrg := sp_rtge (Q := P + 64) (t := y)
  have hrb := Nat.le_trans (sp_ROOTb (y * y + ((2 ^ (2 * (P + 64)) : Nat) : Int))) h4
  refine ⟨trivial, hb, h2, Int.add_nonneg h20 (Int.natCast_nonneg _), h4, Nat.le_trans (add_b hrb (show (((2 ^ (P + 64) : Nat) : Int)).natAbs ≤ 2 ^ 256 by rw [Int.natAbs_natCast]; exact hp256)) (by decide +kernel), by omega, trivial⟩
theorem iZ_sn (a : Int) (n : Nat) : iZ a - nI n = iZ (a - (n : Int)) := (Int32.ofInt_sub a (n : Int)).symm
theorem iZ_neg (a : Int) : -(iZ a) = iZ (-a) := (Int32.ofInt_neg a).symm
theorem lg_d3 {D : Int} (h : 0 < D) : 2 * ((D / 3 : Int).natAbs : Int) ≤ D := by omega
theorem lg_hb {R x D : Int} (h1 : R.natAbs ≤ 2 * x.natAbs) (h2 : 2 * (x.natAbs : Int) ≤ D) (h3 : D.natAbs ≤ 2 ^ 256) : R.natAbs ≤ 2 ^ 256 := by omega
theorem lg_up {x aa : Int} {n : Nat} (h : aa = x * ((2 ^ n : Nat) : Int)) (hb : aa.natAbs ≤ 2 ^ 309) : x.natAbs * 2 ^ n < 16777216 ^ 34 := by
  rw [h, Int.natAbs_mul, Int.natAbs_natCast] at hb
  exact b34 (Nat.le_trans hb (by decide +kernel))
theorem lg_eq (a h k : Int) : (a + h * k) * 2 = a * 2 + h * 2 * k := by
  rw [Int.add_mul, Int.mul_assoc h k, Int.mul_comm k, ← Int.mul_assoc]
theorem sn_od {f : Nat → Nat} (hf : ∀ j, j < 34 → f j < 16777216) : h_s f 34 % 2 = f 0 % 2 := by
  have h0 := h_dig hf (k := 0) (by decide)
  rw [Nat.pow_zero, Nat.div_one] at h0
  omega
theorem hq10_0 {t j : Nat} (hj : j ≠ t ∧ j ≠ 32 ∧ (j < 35 ∨ 39 < j) ∧ (j < 45 ∨ 50 < j)) : j ≠ 45 := by omega
theorem hq10_1 {t j : Nat} (hj : j ≠ t ∧ j ≠ 32 ∧ (j < 35 ∨ 39 < j) ∧ (j < 45 ∨ 50 < j)) : j ≠ 32 := by omega
theorem hq10_2 {t j : Nat} (hj : j ≠ t ∧ j ≠ 32 ∧ (j < 35 ∨ 39 < j) ∧ (j < 45 ∨ 50 < j)) : j ≠ 46 := by omega
theorem hq10_3 {t j : Nat} (hj : j ≠ t ∧ j ≠ 32 ∧ (j < 35 ∨ 39 < j) ∧ (j < 45 ∨ 50 < j)) : j ≠ 47 := by omega
theorem hq10_4 {t j : Nat} (hj : j ≠ t ∧ j ≠ 32 ∧ (j < 35 ∨ 39 < j) ∧ (j < 45 ∨ 50 < j)) : j ≠ 48 := by omega
theorem hq10_5 {t j : Nat} (hj : j ≠ t ∧ j ≠ 32 ∧ (j < 35 ∨ 39 < j) ∧ (j < 45 ∨ 50 < j)) : j ≠ 49 := by omega
theorem hq10_6 {t j : Nat} (hj : j ≠ t ∧ j ≠ 32 ∧ (j < 35 ∨ 39 < j) ∧ (j < 45 ∨ 50 < j)) : j ≠ 50 := by omega
theorem hq10_7 {t j : Nat} (hj : j ≠ t ∧ j ≠ 32 ∧ (j < 35 ∨ 39 < j) ∧ (j < 45 ∨ 50 < j)) : j ≠ 50 ∧ j ≠ 32 ∧ (j < 35 ∨ 39 < j) := by omega
theorem hq10_8 {t j : Nat} (hj : j ≠ t ∧ j ≠ 32 ∧ (j < 35 ∨ 39 < j) ∧ (j < 45 ∨ 50 < j)) : j ≠ 49 ∧ j ≠ 32 ∧ (j < 35 ∨ 39 < j) := by omega
theorem hq10_9 {t j : Nat} (hj : j ≠ t ∧ j ≠ 32 ∧ (j < 35 ∨ 39 < j) ∧ (j < 45 ∨ 50 < j)) : j ≠ t := by omega
theorem hq10_10 {t j : Nat} (hj : j ≠ t ∧ j ≠ 29 ∧ j ≠ 30 ∧ j ≠ 32 ∧ (j < 35 ∨ 39 < j) ∧ (j < 52 ∨ 54 < j)) : j ≠ 52 := by omega
theorem hq10_11 {t j : Nat} (hj : j ≠ t ∧ j ≠ 29 ∧ j ≠ 30 ∧ j ≠ 32 ∧ (j < 35 ∨ 39 < j) ∧ (j < 52 ∨ 54 < j)) : j ≠ 53 := by omega
theorem hq10_12 {t j : Nat} (hj : j ≠ t ∧ j ≠ 29 ∧ j ≠ 30 ∧ j ≠ 32 ∧ (j < 35 ∨ 39 < j) ∧ (j < 52 ∨ 54 < j)) : j ≠ 54 := by omega
theorem hq10_13 {t j : Nat} (hj : j ≠ t ∧ j ≠ 29 ∧ j ≠ 30 ∧ j ≠ 32 ∧ (j < 35 ∨ 39 < j) ∧ (j < 52 ∨ 54 < j)) : j ≠ 32 := by omega
theorem hq10_14 {t j : Nat} (hj : j ≠ t ∧ j ≠ 29 ∧ j ≠ 30 ∧ j ≠ 32 ∧ (j < 35 ∨ 39 < j) ∧ (j < 52 ∨ 54 < j)) : j ≠ 52 ∧ j ≠ 32 ∧ (j < 35 ∨ 39 < j) := by omega
theorem hq10_15 {t j : Nat} (hj : j ≠ t ∧ j ≠ 29 ∧ j ≠ 30 ∧ j ≠ 32 ∧ (j < 35 ∨ 39 < j) ∧ (j < 52 ∨ 54 < j)) : j ≠ t := by omega
theorem hq10_16 {t j : Nat} (hj : j ≠ t ∧ j ≠ 29 ∧ j ≠ 30 ∧ j ≠ 32 ∧ (j < 35 ∨ 39 < j) ∧ (j < 52 ∨ 54 < j)) : j ≠ 54 ∧ j ≠ 29 ∧ j ≠ 30 := by omega
theorem hq10_17 {t j : Nat} (hj : j ≠ t ∧ j ≠ 32 ∧ (j < 52 ∨ 57 < j)) : j ≠ 52 := by omega
theorem hq10_18 {t j : Nat} (hj : j ≠ t ∧ j ≠ 32 ∧ (j < 52 ∨ 57 < j)) : j ≠ 53 := by omega
theorem hq10_19 {t j : Nat} (hj : j ≠ t ∧ j ≠ 32 ∧ (j < 52 ∨ 57 < j)) : j ≠ 54 := by omega
theorem hq10_20 {t j : Nat} (hj : j ≠ t ∧ j ≠ 32 ∧ (j < 52 ∨ 57 < j)) : j ≠ 32 := by omega
theorem hq10_21 {t j : Nat} (hj : j ≠ t ∧ j ≠ 32 ∧ (j < 52 ∨ 57 < j)) : j ≠ 55 := by omega
theorem hq10_22 {t j : Nat} (hj : j ≠ t ∧ j ≠ 32 ∧ (j < 52 ∨ 57 < j)) : j ≠ 56 := by omega
theorem hq10_23 {t j : Nat} (hj : j ≠ t ∧ j ≠ 32 ∧ (j < 52 ∨ 57 < j)) : j ≠ 57 := by omega
theorem hq10_24 {t j : Nat} (hj : j ≠ t ∧ j ≠ 32 ∧ (j < 52 ∨ 57 < j)) : j ≠ t := by omega
set_option maxHeartbeats 4000000 in
set_option maxRecDepth 100000 in
/-- fineLog -/
theorem v5_fineLog (l : Launch) (K : Cxt) (E0 : Nat → va_E) (z0 : Nat → Wh) (sz : Nat) {mo : Nat → Nat} {th : Int32} {P : Nat} {rg0 : Nat → Int} (hv : md_v K E0 mo th P rg0) (t x : Nat) (ht60 : t < 60 ∧ t ≠ 32 ∧ (t < 35 ∨ 39 < t) ∧ (t < 45 ∨ 50 < t)) (hx60 : x < 60 ∧ x ≠ 32 ∧ (x < 35 ∨ 39 < x) ∧ (x < 45 ∨ 50 < x)) (hf_27 : rg0 27 = ((2 ^ (P + 64) : Nat) : Int)) (hb0 : 0 < rg0 x) (hb1 : (rg0 x).natAbs < 2 ^ (P + 64 + 50)) : Met l yX5_fineLog wsX5_fineLog ({ frames := 7, cells := 0, slots := 0, locals := 240 }) (va_Pc [.ref (mo 0), .int (nI t), .int (nI x)] (bd_P K E0 z0 sz)) (va_Qv (fun u => ∃ rg : Nat → Int, md_v K u.1 mo th P rg ∧ rg t = sp_LOG (P + 64) (rg0 x) ∧ ∀ j, j ≠ t ∧ j ≠ 32 ∧ (j < 35 ∨ 39 < j) ∧ (j < 45 ∨ 50 < j) → rg j = rg0 j) (bd_B K) (bd_A K sz)) 0 0 (bd_A K sz) := by
  refine bd_ofW (cc := cX5_fineLog) (maxL := 4) (ret := none) (by decide) rfl (Nat.le_of_ble_eq_true rfl) ?_
  intro p e s m below meth c ls C hr hlk hsz hw hl
  have hx := C.1
  have hb := C.2.1
  have hown := C.2.2.2.1
  have hts := C.2.2.2.2.1
  have i5 : ∀ w ∈ wsX50, w ∈ wsX5_fineLog := by decide +kernel
  have lk27 : Cond.fieldLink RX5 27 "BallDeskModel" "fine" "I" ∈ wsX5_fineLog := by decide +kernel
  have hl : lv_has ls 4 [(0, .ref (mo 0)), (1, .int (nI t)), (2, .int (nI x))] := hl
  obtain ⟨hP1, hP2⟩ := mv_P hv
  have hp256 : (2 : Nat) ^ (P + 64) ≤ 2 ^ 256 := Nat.pow_le_pow_right (by decide) (by omega)
  have hDp : (0 : Int) < ((2 ^ (P + 64) : Nat) : Int) := Int.natCast_pos.mpr (Nat.pow_pos (by decide))
  have hx306 : (rg0 x).natAbs ≤ 2 ^ 306 := Nat.le_trans (Nat.le_of_lt hb1) (Nat.pow_le_pow_right (by decide) (by omega))
  obtain ⟨bb, aa, bp, hbb, hbl, hxbb, haa, hbp, haa0, hbp0, haab, hbpb, hw9⟩ := lg_pre (Q := (P + 64)) (by omega) (by omega) hb0 hb1
  have hlb := sp_lgb (Q := (P + 64)) hb0 (by omega)
  obtain ⟨hs5, hs6, hs7⟩ := lg_r (Q := (P + 64)) (by omega) (by omega) hbl hb0
  have hD256 : (((2 ^ (P + 64) : Nat) : Int) : Int).natAbs ≤ 2 ^ 256 := by rw [Int.natAbs_natCast]; exact hp256
  have hd3 : 2 * ((((2 ^ (P + 64) : Nat) : Int) / 3 : Int).natAbs : Int) ≤ ((2 ^ (P + 64) : Nat) : Int) := lg_d3 hDp
  have hHb := sp_RWb (al := 0) hDp hd3
  have hHb2 : (sp_RW 0 ((2 ^ (P + 64) : Nat) : Int) (((2 ^ (P + 64) : Nat) : Int) / 3)).natAbs ≤ 2 ^ 256 := lg_hb hHb hd3 hD256
  have hkb : ((bb : Int) - ((P + 64 : Nat) : Int) - 2).natAbs ≤ 2 ^ 9 := by omega
  have hRb : (sp_RW 0 ((2 ^ (P + 64) : Nat) : Int) (sp_lgw (P + 64) (rg0 x))).natAbs ≤ 2 ^ 288 := Nat.le_of_lt hs5
  have hx3 : (rg0 x * (nI 3).toInt).natAbs ≤ 2 ^ 310 := Nat.le_trans (mul_b hx306 (show (nI 3).toInt.natAbs ≤ 3 by decide)) (by decide +kernel)
  have hab1 := sub_b haab hbpb
  have hab2 := add_b haab hbpb
  clear hb1 hs5 hs6 hs7 hxbb hx306 hD256 hHb hd3
  have hd3 : 2 * ((((2 ^ (P + 64) : Nat) : Int) / 3 : Int).natAbs : Int) ≤ ((2 ^ (P + 64) : Nat) : Int) := lg_d3 hDp
  change hid _ at hkb hHb2 hRb hx3 hab1 hab2 haab hbpb hd3 hlb hbb
  have hP64 : P + 64 < 816 := by omega
  have hP128 : 2 * (P + 64) < 816 := by omega
  have f_x : rg0 x = rg0 x := rfl
  have f_27 : rg0 27 = ((2 ^ (P + 64) : Nat) : Int) := hf_27
  have hof : ∀ j, j ≠ t ∧ j ≠ 32 ∧ (j < 35 ∨ 39 < j) ∧ (j < 45 ∨ 50 < j) → rg0 j = rg0 j := fun _ _ => rfl
  refine lv_aload_n hx hb dX5_fineLog_0 rfl (lv_at hl 0 rfl) ?_
  refine lv_bipush (v := nI 45) hx hb dX5_fineLog_1 (by decide) ?_
  refine lv_iload_n hx hb dX5_fineLog_3 rfl (lv_at hl 2 rfl) ?_
  refine lv_iconst (v := nI 3) hx hb dX5_fineLog_4 (by decide) ?_
  refine bd_cv (As := [.int (nI 45), .int (nI x), .int (nI 3)]) (rest := []) C (v5_timesSmall _ _ _ _ _ hv 45 x (nI 3) (by decide) (by omega) (by omega) (by rw [f_x]; exact (b34 (Nat.le_trans hx3 (by decide +kernel))))) (cwV 3 hts gX5_fineLog_X5_timesSmall rfl rfl rfl (by decide +kernel) ⟨Nat.le_of_ble_eq_true rfl, Nat.le_of_ble_eq_true rfl⟩) hsz hw (mv_recv C hw hv) dX5_fineLog_5 rfl hl.1 rfl (Nat.le_of_ble_eq_true rfl) ⟨Nat.le_refl _, Nat.le_refl _⟩ (fun E z H locs hp hw => ?_)
  obtain ⟨rg, hv, hv0_, hf9⟩ := hp
  have fT0_ : rg 45 = (rg0 x * 3) := hv0_.trans (by rw [f_x]; rfl)
  have f_x : rg x = rg0 x := (hf9 x (by omega) (by omega)).trans f_x
  have f_27 : rg 27 = ((2 ^ (P + 64) : Nat) : Int) := (hf9 27 (by decide) (by decide)).trans f_27
  have f_45 := fT0_
  have hof : ∀ j, j ≠ t ∧ j ≠ 32 ∧ (j < 35 ∨ 39 < j) ∧ (j < 45 ∨ 50 < j) → rg j = rg0 j := fun j hj => (hf9 j (hq10_0 hj) (hq10_1 hj)).trans (hof j hj)
  refine lv_aload_n hx hb dX5_fineLog_8 rfl (lv_at hl 0 rfl) ?_
  refine lv_bipush (v := nI 45) hx hb dX5_fineLog_9 (by decide) ?_
  refine bd_cip (As := [.int (nI 45)]) (rest := []) C (v5_bits _ _ _ _ _ hv 45 (by omega)) (cwV 1 hts gX5_fineLog_X5_bits rfl rfl rfl (by decide +kernel) ⟨Nat.le_of_ble_eq_true rfl, Nat.le_of_ble_eq_true rfl⟩) hsz hw (mv_recv C hw hv) dX5_fineLog_11 rfl hl.1 rfl (Nat.le_of_ble_eq_true rfl) ⟨Nat.le_refl _, Nat.le_refl _⟩ (fun H locs hw => ?_)
  rw [f_45, ← (show bb = q_bl (rg0 x * 3).natAbs from hbb)]
  refine lv_aload_n hx hb dX5_fineLog_14 rfl (lv_at hl 0 rfl) ?_
  refine mv_g C i5 hw hv 2 (by decide) (v := .int (nI (P + 64))) rfl dX5_fineLog_15 lk27 ?_
  refine bd_isub (v := (iZ ((bb : Int) - ((P + 64 : Nat) : Int)))) hx hb dX5_fineLog_18 (iZ_sub _ _) ?_
  refine lv_iconst (v := nI 2) hx hb dX5_fineLog_19 (by decide) ?_
  refine bd_isub (v := (iZ ((bb : Int) - ((P + 64 : Nat) : Int) - 2))) hx hb dX5_fineLog_20 (iZ_sn _ 2) ?_
  refine lv_istore_n (lv' := [(3, .int (iZ ((bb : Int) - ((P + 64 : Nat) : Int) - 2))), (0, .ref (mo 0)), (1, .int (nI t)), (2, .int (nI x))]) hx hb dX5_fineLog_21 rfl hl (by decide) rfl (fun ls hl => ?_)
  refine lv_iload_n hx hb dX5_fineLog_22 rfl (lv_at hl 0 rfl) ?_
  refine lv_if_lt (tgt := 48) hx hb dX5_fineLog_23 (by decide) (fun hc23 => ?_) (fun hc23 => ?_)
  · have hk9 : bb < P + 64 + 2 := by have := (iz_lt (by omega) (by omega)).mp hc23; omega
    have hbpD : ((2 ^ (P + 64) : Nat) : Int) = bp := by rw [hbp, show bb - (P + 64 + 2) = 0 by omega, Nat.add_zero]
    refine lv_aload_n hx hb dX5_fineLog_48 rfl (lv_at hl 1 rfl) ?_
    refine lv_bipush (v := nI 46) hx hb dX5_fineLog_49 (by decide) ?_
    refine lv_iload_n hx hb dX5_fineLog_51 rfl (lv_at hl 3 rfl) ?_
    refine lv_iload_n hx hb dX5_fineLog_52 rfl (lv_at hl 0 rfl) ?_
    refine bd_ineg (v := (nI (P + 64 + 2 - bb))) hx hb dX5_fineLog_53 (by rw [iZ_neg, ← iZ_nat]; exact congrArg iZ (by omega)) ?_
    refine bd_cv (As := [.int (nI 46), .int (nI x), .int (nI (P + 64 + 2 - bb))]) (rest := []) C (v5_up _ _ _ _ _ hv 46 x (P + 64 + 2 - bb) (by omega) (by omega) (by omega) (by rw [f_x]; exact lg_up haa haab)) (cwV 3 hts gX5_fineLog_X5_up rfl rfl rfl (by decide +kernel) ⟨Nat.le_of_ble_eq_true rfl, Nat.le_of_ble_eq_true rfl⟩) hsz hw (mv_recv C hw hv) dX5_fineLog_54 rfl hl.1 rfl (Nat.le_of_ble_eq_true rfl) ⟨Nat.le_refl _, Nat.le_refl _⟩ (fun E z H locs hp hw => ?_)
    obtain ⟨rg, hv, hv0_, hf9⟩ := hp
    have fT0_ : rg 46 = aa := hv0_.trans (by rw [f_x, haa])
    have f_x : rg x = rg0 x := (hf9 x (by omega)).trans f_x
    have f_27 : rg 27 = ((2 ^ (P + 64) : Nat) : Int) := (hf9 27 (by decide)).trans f_27
    have f_45 : rg 45 = (rg0 x * 3) := (hf9 45 (by decide)).trans f_45
    have f_46 := fT0_
    have hof : ∀ j, j ≠ t ∧ j ≠ 32 ∧ (j < 35 ∨ 39 < j) ∧ (j < 45 ∨ 50 < j) → rg j = rg0 j := fun j hj => (hf9 j (hq10_2 hj)).trans (hof j hj)
    refine lv_aload_n hx hb dX5_fineLog_57 rfl (lv_at hl 1 rfl) ?_
    refine lv_bipush (v := nI 47) hx hb dX5_fineLog_58 (by decide) ?_
    refine lv_bipush (v := nI 27) hx hb dX5_fineLog_60 (by decide) ?_
    refine bd_cv (As := [.int (nI 47), .int (nI 27)]) (rest := []) C (v5_copy _ _ _ _ _ hv 47 27 (by omega) (by omega)) (cwV 2 hts gX5_fineLog_X5_copy rfl rfl rfl (by decide +kernel) ⟨Nat.le_of_ble_eq_true rfl, Nat.le_of_ble_eq_true rfl⟩) hsz hw (mv_recv C hw hv) dX5_fineLog_62 rfl hl.1 rfl (Nat.le_of_ble_eq_true rfl) ⟨Nat.le_refl _, Nat.le_refl _⟩ (fun E z H locs hp hw => ?_)
    obtain ⟨rg, hv, hv0_, hf9⟩ := hp
    have fT0_ : rg 47 = bp := hv0_.trans (by rw [f_27]; exact hbpD)
    have f_x : rg x = rg0 x := (hf9 x (by omega)).trans f_x
    have f_27 : rg 27 = ((2 ^ (P + 64) : Nat) : Int) := (hf9 27 (by decide)).trans f_27
    have f_45 : rg 45 = (rg0 x * 3) := (hf9 45 (by decide)).trans f_45
    have f_46 : rg 46 = aa := (hf9 46 (by decide)).trans f_46
    have f_47 := fT0_
    have hof : ∀ j, j ≠ t ∧ j ≠ 32 ∧ (j < 35 ∨ 39 < j) ∧ (j < 45 ∨ 50 < j) → rg j = rg0 j := fun j hj => (hf9 j (hq10_3 hj)).trans (hof j hj)
    refine lv_aload_n hx hb dX5_fineLog_65 rfl (lv_at hl 1 rfl) ?_
    refine lv_bipush (v := nI 48) hx hb dX5_fineLog_66 (by decide) ?_
    refine lv_bipush (v := nI 46) hx hb dX5_fineLog_68 (by decide) ?_
    refine lv_bipush (v := nI 47) hx hb dX5_fineLog_70 (by decide) ?_
    refine bd_cv (As := [.int (nI 48), .int (nI 46), .int (nI 47)]) (rest := []) C (v5_minus _ _ _ _ _ hv 48 46 47 (by decide) (by decide) (by decide) (by rw [f_46, f_47]; exact (b34 (Nat.le_trans hab1 (by decide +kernel))))) (cwV 3 hts gX5_fineLog_X5_minus rfl rfl rfl (by decide +kernel) ⟨Nat.le_of_ble_eq_true rfl, Nat.le_of_ble_eq_true rfl⟩) hsz hw (mv_recv C hw hv) dX5_fineLog_72 rfl hl.1 rfl (Nat.le_of_ble_eq_true rfl) ⟨Nat.le_refl _, Nat.le_refl _⟩ (fun E z H locs hp hw => ?_)
    obtain ⟨rg, hv, hv0_, hf9⟩ := hp
    have fT0_ : rg 48 = (aa - bp) := hv0_.trans (by rw [f_46, f_47])
    have f_x : rg x = rg0 x := (hf9 x (by omega)).trans f_x
    have f_27 : rg 27 = ((2 ^ (P + 64) : Nat) : Int) := (hf9 27 (by decide)).trans f_27
    have f_45 : rg 45 = (rg0 x * 3) := (hf9 45 (by decide)).trans f_45
    have f_46 : rg 46 = aa := (hf9 46 (by decide)).trans f_46
    have f_47 : rg 47 = bp := (hf9 47 (by decide)).trans f_47
    have f_48 := fT0_
    have hof : ∀ j, j ≠ t ∧ j ≠ 32 ∧ (j < 35 ∨ 39 < j) ∧ (j < 45 ∨ 50 < j) → rg j = rg0 j := fun j hj => (hf9 j (hq10_4 hj)).trans (hof j hj)
    refine lv_aload_n hx hb dX5_fineLog_75 rfl (lv_at hl 1 rfl) ?_
    refine lv_bipush (v := nI 48) hx hb dX5_fineLog_76 (by decide) ?_
    refine lv_bipush (v := nI 48) hx hb dX5_fineLog_78 (by decide) ?_
    refine lv_aload_n hx hb dX5_fineLog_80 rfl (lv_at hl 1 rfl) ?_
    refine mv_g C i5 hw hv 2 (by decide) (v := .int (nI (P + 64))) rfl dX5_fineLog_81 lk27 ?_
    refine bd_cv (As := [.int (nI 48), .int (nI 48), .int (nI (P + 64))]) (rest := []) C (v5_up _ _ _ _ _ hv 48 48 (P + 64) (by decide) (by decide) hP64 (by rw [f_48]; exact (b34 (Nat.le_trans (Nat.mul_le_mul hab1 hp256) (by decide +kernel))))) (cwV 3 hts gX5_fineLog_X5_up rfl rfl rfl (by decide +kernel) ⟨Nat.le_of_ble_eq_true rfl, Nat.le_of_ble_eq_true rfl⟩) hsz hw (mv_recv C hw hv) dX5_fineLog_84 rfl hl.1 rfl (Nat.le_of_ble_eq_true rfl) ⟨Nat.le_refl _, Nat.le_refl _⟩ (fun E z H locs hp hw => ?_)
    obtain ⟨rg, hv, hv0_, hf9⟩ := hp
    have fT0_ : rg 48 = ((aa - bp) * ((2 ^ (P + 64) : Nat) : Int)) := hv0_.trans (by rw [f_48])
    have f_x : rg x = rg0 x := (hf9 x (by omega)).trans f_x
    have f_27 : rg 27 = ((2 ^ (P + 64) : Nat) : Int) := (hf9 27 (by decide)).trans f_27
    have f_45 : rg 45 = (rg0 x * 3) := (hf9 45 (by decide)).trans f_45
    have f_46 : rg 46 = aa := (hf9 46 (by decide)).trans f_46
    have f_47 : rg 47 = bp := (hf9 47 (by decide)).trans f_47
    have f_48 := fT0_
    have hof : ∀ j, j ≠ t ∧ j ≠ 32 ∧ (j < 35 ∨ 39 < j) ∧ (j < 45 ∨ 50 < j) → rg j = rg0 j := fun j hj => (hf9 j (hq10_4 hj)).trans (hof j hj)
    refine lv_aload_n hx hb dX5_fineLog_87 rfl (lv_at hl 1 rfl) ?_
    refine lv_bipush (v := nI 49) hx hb dX5_fineLog_88 (by decide) ?_
    refine lv_bipush (v := nI 46) hx hb dX5_fineLog_90 (by decide) ?_
    refine lv_bipush (v := nI 47) hx hb dX5_fineLog_92 (by decide) ?_
    refine bd_cv (As := [.int (nI 49), .int (nI 46), .int (nI 47)]) (rest := []) C (v5_plus _ _ _ _ _ hv 49 46 47 (by decide) (by decide) (by decide) (by rw [f_46, f_47]; exact (b34 (Nat.le_trans hab2 (by decide +kernel))))) (cwV 3 hts gX5_fineLog_X5_plus rfl rfl rfl (by decide +kernel) ⟨Nat.le_of_ble_eq_true rfl, Nat.le_of_ble_eq_true rfl⟩) hsz hw (mv_recv C hw hv) dX5_fineLog_94 rfl hl.1 rfl (Nat.le_of_ble_eq_true rfl) ⟨Nat.le_refl _, Nat.le_refl _⟩ (fun E z H locs hp hw => ?_)
    obtain ⟨rg, hv, hv0_, hf9⟩ := hp
    have fT0_ : rg 49 = (aa + bp) := hv0_.trans (by rw [f_46, f_47])
    have f_x : rg x = rg0 x := (hf9 x (by omega)).trans f_x
    have f_27 : rg 27 = ((2 ^ (P + 64) : Nat) : Int) := (hf9 27 (by decide)).trans f_27
    have f_45 : rg 45 = (rg0 x * 3) := (hf9 45 (by decide)).trans f_45
    have f_46 : rg 46 = aa := (hf9 46 (by decide)).trans f_46
    have f_47 : rg 47 = bp := (hf9 47 (by decide)).trans f_47
    have f_48 : rg 48 = ((aa - bp) * ((2 ^ (P + 64) : Nat) : Int)) := (hf9 48 (by decide)).trans f_48
    have f_49 := fT0_
    have hof : ∀ j, j ≠ t ∧ j ≠ 32 ∧ (j < 35 ∨ 39 < j) ∧ (j < 45 ∨ 50 < j) → rg j = rg0 j := fun j hj => (hf9 j (hq10_5 hj)).trans (hof j hj)
    refine lv_aload_n hx hb dX5_fineLog_97 rfl (lv_at hl 1 rfl) ?_
    refine lv_bipush (v := nI 50) hx hb dX5_fineLog_98 (by decide) ?_
    refine lv_bipush (v := nI 48) hx hb dX5_fineLog_100 (by decide) ?_
    refine lv_bipush (v := nI 49) hx hb dX5_fineLog_102 (by decide) ?_
    refine bd_cv (As := [.int (nI 50), .int (nI 48), .int (nI 49)]) (rest := []) C (v5_divide _ _ _ _ _ hv 50 48 49 (by decide) (by decide) (by decide) (by decide) (by decide) (by decide) (by rw [f_49]; exact (by omega)) (by rw [f_49]; exact (Nat.le_trans (Nat.mul_le_mul_left 2 hab2) (by decide +kernel)))) (cwV 3 hts gX5_fineLog_X5_divide rfl rfl rfl (by decide +kernel) ⟨Nat.le_of_ble_eq_true rfl, Nat.le_of_ble_eq_true rfl⟩) hsz hw (mv_recv C hw hv) dX5_fineLog_104 rfl hl.1 rfl (Nat.le_of_ble_eq_true rfl) ⟨Nat.le_refl _, Nat.le_refl _⟩ (fun E z H locs hp hw => ?_)
    obtain ⟨rg, hv, hv0_, hf9⟩ := hp
    have fT0_ : rg 50 = (sp_lgw (P + 64) (rg0 x)) := hv0_.trans (by rw [f_48, f_49]; exact hw9.symm)
    have f_x : rg x = rg0 x := (hf9 x (by omega) (by omega)).trans f_x
    have f_27 : rg 27 = ((2 ^ (P + 64) : Nat) : Int) := (hf9 27 (by decide) (by decide)).trans f_27
    have f_45 : rg 45 = (rg0 x * 3) := (hf9 45 (by decide) (by decide)).trans f_45
    have f_46 : rg 46 = aa := (hf9 46 (by decide) (by decide)).trans f_46
    have f_47 : rg 47 = bp := (hf9 47 (by decide) (by decide)).trans f_47
    have f_48 : rg 48 = ((aa - bp) * ((2 ^ (P + 64) : Nat) : Int)) := (hf9 48 (by decide) (by decide)).trans f_48
    have f_49 : rg 49 = (aa + bp) := (hf9 49 (by decide) (by decide)).trans f_49
    have f_50 := fT0_
    have hof : ∀ j, j ≠ t ∧ j ≠ 32 ∧ (j < 35 ∨ 39 < j) ∧ (j < 45 ∨ 50 < j) → rg j = rg0 j := fun j hj => (hf9 j (hq10_6 hj) (hq10_1 hj)).trans (hof j hj)
    refine lv_aload_n hx hb dX5_fineLog_107 rfl (lv_at hl 1 rfl) ?_
    refine lv_bipush (v := nI 50) hx hb dX5_fineLog_108 (by decide) ?_
    refine lv_bipush (v := nI 50) hx hb dX5_fineLog_110 (by decide) ?_
    refine lv_iconst (v := nI 0) hx hb dX5_fineLog_112 (by decide) ?_
    refine bd_cv (As := [.int (nI 50), .int (nI 50), .int (nI 0)]) (rest := []) C (v5_row _ _ _ _ _ hv 50 50 0 (by decide) (by decide) (Or.inl rfl) (by rw [f_50]; exact hlb)) (cwV 3 hts gX5_fineLog_X5_row rfl rfl rfl (by decide +kernel) ⟨Nat.le_of_ble_eq_true rfl, Nat.le_of_ble_eq_true rfl⟩) hsz hw (mv_recv C hw hv) dX5_fineLog_113 rfl hl.1 rfl (Nat.le_of_ble_eq_true rfl) ⟨Nat.le_refl _, Nat.le_refl _⟩ (fun E z H locs hp hw => ?_)
    obtain ⟨rg, hv, hv0_, hf9⟩ := hp
    have fT0_ : rg 50 = (sp_RW 0 ((2 ^ (P + 64) : Nat) : Int) (sp_lgw (P + 64) (rg0 x))) := hv0_.trans (by rw [f_50])
    have f_x : rg x = rg0 x := (hf9 x (by omega)).trans f_x
    have f_27 : rg 27 = ((2 ^ (P + 64) : Nat) : Int) := (hf9 27 (by decide)).trans f_27
    have f_45 : rg 45 = (rg0 x * 3) := (hf9 45 (by decide)).trans f_45
    have f_46 : rg 46 = aa := (hf9 46 (by decide)).trans f_46
    have f_47 : rg 47 = bp := (hf9 47 (by decide)).trans f_47
    have f_48 : rg 48 = ((aa - bp) * ((2 ^ (P + 64) : Nat) : Int)) := (hf9 48 (by decide)).trans f_48
    have f_49 : rg 49 = (aa + bp) := (hf9 49 (by decide)).trans f_49
    have f_50 := fT0_
    have hof : ∀ j, j ≠ t ∧ j ≠ 32 ∧ (j < 35 ∨ 39 < j) ∧ (j < 45 ∨ 50 < j) → rg j = rg0 j := fun j hj => (hf9 j (hq10_7 hj)).trans (hof j hj)
    refine lv_aload_n hx hb dX5_fineLog_116 rfl (lv_at hl 1 rfl) ?_
    refine lv_bipush (v := nI 49) hx hb dX5_fineLog_117 (by decide) ?_
    refine lv_bipush (v := nI 27) hx hb dX5_fineLog_119 (by decide) ?_
    refine lv_iconst (v := nI 3) hx hb dX5_fineLog_121 (by decide) ?_
    refine bd_cv (As := [.int (nI 49), .int (nI 27), .int (nI 3)]) (rest := []) C (v5_divideSmall _ _ _ _ _ hv 49 27 3 (by decide) (by decide) (by decide) (by decide) (by decide)) (cwV 3 hts gX5_fineLog_X5_divideSmall rfl rfl rfl (by decide +kernel) ⟨Nat.le_of_ble_eq_true rfl, Nat.le_of_ble_eq_true rfl⟩) hsz hw (mv_recv C hw hv) dX5_fineLog_122 rfl hl.1 rfl (Nat.le_of_ble_eq_true rfl) ⟨Nat.le_refl _, Nat.le_refl _⟩ (fun E z H locs hp hw => ?_)
    obtain ⟨rg, hv, hv0_, hf9⟩ := hp
    have fT0_ : rg 49 = (((2 ^ (P + 64) : Nat) : Int) / 3) := hv0_.trans (by rw [f_27]; rfl)
    have f_x : rg x = rg0 x := (hf9 x (by omega) (by omega)).trans f_x
    have f_27 : rg 27 = ((2 ^ (P + 64) : Nat) : Int) := (hf9 27 (by decide) (by decide)).trans f_27
    have f_45 : rg 45 = (rg0 x * 3) := (hf9 45 (by decide) (by decide)).trans f_45
    have f_46 : rg 46 = aa := (hf9 46 (by decide) (by decide)).trans f_46
    have f_47 : rg 47 = bp := (hf9 47 (by decide) (by decide)).trans f_47
    have f_48 : rg 48 = ((aa - bp) * ((2 ^ (P + 64) : Nat) : Int)) := (hf9 48 (by decide) (by decide)).trans f_48
    have f_50 : rg 50 = (sp_RW 0 ((2 ^ (P + 64) : Nat) : Int) (sp_lgw (P + 64) (rg0 x))) := (hf9 50 (by decide) (by decide)).trans f_50
    have f_49 := fT0_
    have hof : ∀ j, j ≠ t ∧ j ≠ 32 ∧ (j < 35 ∨ 39 < j) ∧ (j < 45 ∨ 50 < j) → rg j = rg0 j := fun j hj => (hf9 j (hq10_5 hj) (hq10_1 hj)).trans (hof j hj)
    refine lv_aload_n hx hb dX5_fineLog_125 rfl (lv_at hl 1 rfl) ?_
    refine lv_bipush (v := nI 49) hx hb dX5_fineLog_126 (by decide) ?_
    refine lv_bipush (v := nI 49) hx hb dX5_fineLog_128 (by decide) ?_
    refine lv_iconst (v := nI 0) hx hb dX5_fineLog_130 (by decide) ?_
    refine bd_cv (As := [.int (nI 49), .int (nI 49), .int (nI 0)]) (rest := []) C (v5_row _ _ _ _ _ hv 49 49 0 (by decide) (by decide) (Or.inl rfl) (by rw [f_49]; exact hd3)) (cwV 3 hts gX5_fineLog_X5_row rfl rfl rfl (by decide +kernel) ⟨Nat.le_of_ble_eq_true rfl, Nat.le_of_ble_eq_true rfl⟩) hsz hw (mv_recv C hw hv) dX5_fineLog_131 rfl hl.1 rfl (Nat.le_of_ble_eq_true rfl) ⟨Nat.le_refl _, Nat.le_refl _⟩ (fun E z H locs hp hw => ?_)
    obtain ⟨rg, hv, hv0_, hf9⟩ := hp
    have fT0_ : rg 49 = (sp_RW 0 ((2 ^ (P + 64) : Nat) : Int) (((2 ^ (P + 64) : Nat) : Int) / 3)) := hv0_.trans (by rw [f_49])
    have f_x : rg x = rg0 x := (hf9 x (by omega)).trans f_x
    have f_27 : rg 27 = ((2 ^ (P + 64) : Nat) : Int) := (hf9 27 (by decide)).trans f_27
    have f_45 : rg 45 = (rg0 x * 3) := (hf9 45 (by decide)).trans f_45
    have f_46 : rg 46 = aa := (hf9 46 (by decide)).trans f_46
    have f_47 : rg 47 = bp := (hf9 47 (by decide)).trans f_47
    have f_48 : rg 48 = ((aa - bp) * ((2 ^ (P + 64) : Nat) : Int)) := (hf9 48 (by decide)).trans f_48
    have f_50 : rg 50 = (sp_RW 0 ((2 ^ (P + 64) : Nat) : Int) (sp_lgw (P + 64) (rg0 x))) := (hf9 50 (by decide)).trans f_50
    have f_49 := fT0_
    have hof : ∀ j, j ≠ t ∧ j ≠ 32 ∧ (j < 35 ∨ 39 < j) ∧ (j < 45 ∨ 50 < j) → rg j = rg0 j := fun j hj => (hf9 j (hq10_8 hj)).trans (hof j hj)
    refine lv_aload_n hx hb dX5_fineLog_134 rfl (lv_at hl 1 rfl) ?_
    refine lv_bipush (v := nI 49) hx hb dX5_fineLog_135 (by decide) ?_
    refine lv_bipush (v := nI 49) hx hb dX5_fineLog_137 (by decide) ?_
    refine lv_iload_n hx hb dX5_fineLog_139 rfl (lv_at hl 0 rfl) ?_
    refine bd_cv (As := [.int (nI 49), .int (nI 49), .int (iZ ((bb : Int) - ((P + 64 : Nat) : Int) - 2))]) (rest := []) C (v5_timesSmall _ _ _ _ _ hv 49 49 (iZ ((bb : Int) - ((P + 64 : Nat) : Int) - 2)) (by omega) (by omega) (by omega) (by rw [f_49, iZ_toInt (by omega) (by omega)]; exact (b34 (Nat.le_trans (mul_b hHb2 hkb) (by decide +kernel))))) (cwV 3 hts gX5_fineLog_X5_timesSmall rfl rfl rfl (by decide +kernel) ⟨Nat.le_of_ble_eq_true rfl, Nat.le_of_ble_eq_true rfl⟩) hsz hw (mv_recv C hw hv) dX5_fineLog_140 rfl hl.1 rfl (Nat.le_of_ble_eq_true rfl) ⟨Nat.le_refl _, Nat.le_refl _⟩ (fun E z H locs hp hw => ?_)
    obtain ⟨rg, hv, hv0_, hf9⟩ := hp
    have fT0_ : rg 49 = ((sp_RW 0 ((2 ^ (P + 64) : Nat) : Int) (((2 ^ (P + 64) : Nat) : Int) / 3)) * ((bb : Int) - ((P + 64 : Nat) : Int) - 2)) := hv0_.trans (by rw [f_49, iZ_toInt (by omega) (by omega)])
    have f_x : rg x = rg0 x := (hf9 x (by omega) (by omega)).trans f_x
    have f_27 : rg 27 = ((2 ^ (P + 64) : Nat) : Int) := (hf9 27 (by decide) (by decide)).trans f_27
    have f_45 : rg 45 = (rg0 x * 3) := (hf9 45 (by decide) (by decide)).trans f_45
    have f_46 : rg 46 = aa := (hf9 46 (by decide) (by decide)).trans f_46
    have f_47 : rg 47 = bp := (hf9 47 (by decide) (by decide)).trans f_47
    have f_48 : rg 48 = ((aa - bp) * ((2 ^ (P + 64) : Nat) : Int)) := (hf9 48 (by decide) (by decide)).trans f_48
    have f_50 : rg 50 = (sp_RW 0 ((2 ^ (P + 64) : Nat) : Int) (sp_lgw (P + 64) (rg0 x))) := (hf9 50 (by decide) (by decide)).trans f_50
    have f_49 := fT0_
    have hof : ∀ j, j ≠ t ∧ j ≠ 32 ∧ (j < 35 ∨ 39 < j) ∧ (j < 45 ∨ 50 < j) → rg j = rg0 j := fun j hj => (hf9 j (hq10_5 hj) (hq10_1 hj)).trans (hof j hj)
    refine lv_aload_n hx hb dX5_fineLog_143 rfl (lv_at hl 1 rfl) ?_
    refine lv_bipush (v := nI 50) hx hb dX5_fineLog_144 (by decide) ?_
    refine lv_bipush (v := nI 50) hx hb dX5_fineLog_146 (by decide) ?_
    refine lv_bipush (v := nI 49) hx hb dX5_fineLog_148 (by decide) ?_
    refine bd_cv (As := [.int (nI 50), .int (nI 50), .int (nI 49)]) (rest := []) C (v5_plus _ _ _ _ _ hv 50 50 49 (by decide) (by decide) (by decide) (by rw [f_50, f_49]; exact (b34 (Nat.le_trans (add_b hRb (Nat.le_trans (mul_b hHb2 hkb) (show 2 ^ 256 * 2 ^ 9 ≤ 2 ^ 288 by decide +kernel))) (by decide +kernel))))) (cwV 3 hts gX5_fineLog_X5_plus rfl rfl rfl (by decide +kernel) ⟨Nat.le_of_ble_eq_true rfl, Nat.le_of_ble_eq_true rfl⟩) hsz hw (mv_recv C hw hv) dX5_fineLog_150 rfl hl.1 rfl (Nat.le_of_ble_eq_true rfl) ⟨Nat.le_refl _, Nat.le_refl _⟩ (fun E z H locs hp hw => ?_)
    obtain ⟨rg, hv, hv0_, hf9⟩ := hp
    have fT0_ : rg 50 = ((sp_RW 0 ((2 ^ (P + 64) : Nat) : Int) (sp_lgw (P + 64) (rg0 x))) + (sp_RW 0 ((2 ^ (P + 64) : Nat) : Int) (((2 ^ (P + 64) : Nat) : Int) / 3)) * ((bb : Int) - ((P + 64 : Nat) : Int) - 2)) := hv0_.trans (by rw [f_50, f_49])
    have f_x : rg x = rg0 x := (hf9 x (by omega)).trans f_x
    have f_27 : rg 27 = ((2 ^ (P + 64) : Nat) : Int) := (hf9 27 (by decide)).trans f_27
    have f_45 : rg 45 = (rg0 x * 3) := (hf9 45 (by decide)).trans f_45
    have f_46 : rg 46 = aa := (hf9 46 (by decide)).trans f_46
    have f_47 : rg 47 = bp := (hf9 47 (by decide)).trans f_47
    have f_48 : rg 48 = ((aa - bp) * ((2 ^ (P + 64) : Nat) : Int)) := (hf9 48 (by decide)).trans f_48
    have f_49 : rg 49 = ((sp_RW 0 ((2 ^ (P + 64) : Nat) : Int) (((2 ^ (P + 64) : Nat) : Int) / 3)) * ((bb : Int) - ((P + 64 : Nat) : Int) - 2)) := (hf9 49 (by decide)).trans f_49
    have f_50 := fT0_
    have hof : ∀ j, j ≠ t ∧ j ≠ 32 ∧ (j < 35 ∨ 39 < j) ∧ (j < 45 ∨ 50 < j) → rg j = rg0 j := fun j hj => (hf9 j (hq10_6 hj)).trans (hof j hj)
    refine lv_aload_n hx hb dX5_fineLog_153 rfl (lv_at hl 1 rfl) ?_
    refine lv_iload_n hx hb dX5_fineLog_154 rfl (lv_at hl 2 rfl) ?_
    refine lv_bipush (v := nI 50) hx hb dX5_fineLog_155 (by decide) ?_
    refine lv_iconst (v := nI 2) hx hb dX5_fineLog_157 (by decide) ?_
    refine bd_cv (As := [.int (nI t), .int (nI 50), .int (nI 2)]) (rest := []) C (v5_timesSmall _ _ _ _ _ hv t 50 (nI 2) (by omega) (by decide) (by decide) (by rw [f_50]; exact (b34 (Nat.le_trans (mul_b (add_b hRb (Nat.le_trans (mul_b hHb2 hkb) (show 2 ^ 256 * 2 ^ 9 ≤ 2 ^ 288 by decide +kernel))) (show (nI 2).toInt.natAbs ≤ 2 by decide)) (by decide +kernel))))) (cwV 3 hts gX5_fineLog_X5_timesSmall rfl rfl rfl (by decide +kernel) ⟨Nat.le_of_ble_eq_true rfl, Nat.le_of_ble_eq_true rfl⟩) hsz hw (mv_recv C hw hv) dX5_fineLog_158 rfl hl.1 rfl (Nat.le_of_ble_eq_true rfl) ⟨Nat.le_refl _, Nat.le_refl _⟩ (fun E z H locs hp hw => ?_)
    obtain ⟨rg, hv, hv0_, hf9⟩ := hp
    have fT0_ : rg t = (((sp_RW 0 ((2 ^ (P + 64) : Nat) : Int) (sp_lgw (P + 64) (rg0 x))) + (sp_RW 0 ((2 ^ (P + 64) : Nat) : Int) (((2 ^ (P + 64) : Nat) : Int) / 3)) * ((bb : Int) - ((P + 64 : Nat) : Int) - 2)) * 2) := hv0_.trans (by rw [f_50]; rfl)
    have f_50 : rg 50 = ((sp_RW 0 ((2 ^ (P + 64) : Nat) : Int) (sp_lgw (P + 64) (rg0 x))) + (sp_RW 0 ((2 ^ (P + 64) : Nat) : Int) (((2 ^ (P + 64) : Nat) : Int) / 3)) * ((bb : Int) - ((P + 64 : Nat) : Int) - 2)) := (hf9 50 (by omega) (by omega)).trans f_50
    have f_t := fT0_
    have hof : ∀ j, j ≠ t ∧ j ≠ 32 ∧ (j < 35 ∨ 39 < j) ∧ (j < 45 ∨ 50 < j) → rg j = rg0 j := fun j hj => (hf9 j (hq10_9 hj) (hq10_1 hj)).trans (hof j hj)
    exact bd_vret C hr hlk hw dX5_fineLog_161 (⟨rg, hv, by rw [f_t]; unfold sp_LOG sp_L2; rw [← (show bb = q_bl (rg0 x * 3).natAbs from hbb)]; exact lg_eq _ _ _, hof⟩)
  · have hk9 : P + 64 + 2 ≤ bb := by have := mt (iz_lt (by omega) (by omega)).mpr hc23; omega
    have haX : rg0 x = aa := by rw [haa, show P + 64 + 2 - bb = 0 by omega, Nat.pow_zero]; omega
    refine lv_aload_n hx hb dX5_fineLog_26 rfl (lv_at hl 1 rfl) ?_
    refine lv_bipush (v := nI 46) hx hb dX5_fineLog_27 (by decide) ?_
    refine lv_iload_n hx hb dX5_fineLog_29 rfl (lv_at hl 3 rfl) ?_
    refine bd_cv (As := [.int (nI 46), .int (nI x)]) (rest := []) C (v5_copy _ _ _ _ _ hv 46 x (by omega) (by omega)) (cwV 2 hts gX5_fineLog_X5_copy rfl rfl rfl (by decide +kernel) ⟨Nat.le_of_ble_eq_true rfl, Nat.le_of_ble_eq_true rfl⟩) hsz hw (mv_recv C hw hv) dX5_fineLog_30 rfl hl.1 rfl (Nat.le_of_ble_eq_true rfl) ⟨Nat.le_refl _, Nat.le_refl _⟩ (fun E z H locs hp hw => ?_)
    obtain ⟨rg, hv, hv0_, hf9⟩ := hp
    have fT0_ : rg 46 = aa := hv0_.trans (by rw [f_x]; exact haX)
    have f_x : rg x = rg0 x := (hf9 x (by omega)).trans f_x
    have f_27 : rg 27 = ((2 ^ (P + 64) : Nat) : Int) := (hf9 27 (by decide)).trans f_27
    have f_45 : rg 45 = (rg0 x * 3) := (hf9 45 (by decide)).trans f_45
    have f_46 := fT0_
    have hof : ∀ j, j ≠ t ∧ j ≠ 32 ∧ (j < 35 ∨ 39 < j) ∧ (j < 45 ∨ 50 < j) → rg j = rg0 j := fun j hj => (hf9 j (hq10_2 hj)).trans (hof j hj)
    refine lv_aload_n hx hb dX5_fineLog_33 rfl (lv_at hl 1 rfl) ?_
    refine lv_bipush (v := nI 47) hx hb dX5_fineLog_34 (by decide) ?_
    refine lv_aload_n hx hb dX5_fineLog_36 rfl (lv_at hl 1 rfl) ?_
    refine mv_g C i5 hw hv 2 (by decide) (v := .int (nI (P + 64))) rfl dX5_fineLog_37 lk27 ?_
    refine lv_iload_n hx hb dX5_fineLog_40 rfl (lv_at hl 0 rfl) ?_
    refine bd_iadd (v := nI (P + 64 + (bb - (P + 64 + 2)))) hx hb dX5_fineLog_41 (by rw [← iZ_nat, iZ_add, ← iZ_nat]; exact congrArg iZ (by omega)) ?_
    refine bd_cv (As := [.int (nI 47), .int (nI (P + 64 + (bb - (P + 64 + 2))))]) (rest := []) C (v5_power _ _ _ _ _ hv 47 (P + 64 + (bb - (P + 64 + 2))) (by omega) (by omega)) (cwV 2 hts gX5_fineLog_X5_power rfl rfl rfl (by decide +kernel) ⟨Nat.le_of_ble_eq_true rfl, Nat.le_of_ble_eq_true rfl⟩) hsz hw (mv_recv C hw hv) dX5_fineLog_42 rfl hl.1 rfl (Nat.le_of_ble_eq_true rfl) ⟨Nat.le_refl _, Nat.le_refl _⟩ (fun E z H locs hp hw => ?_)
    obtain ⟨rg, hv, hv0_, hf9⟩ := hp
    have fT0_ : rg 47 = bp := hv0_.trans (by rw [hbp])
    have f_x : rg x = rg0 x := (hf9 x (by omega)).trans f_x
    have f_27 : rg 27 = ((2 ^ (P + 64) : Nat) : Int) := (hf9 27 (by decide)).trans f_27
    have f_45 : rg 45 = (rg0 x * 3) := (hf9 45 (by decide)).trans f_45
    have f_46 : rg 46 = aa := (hf9 46 (by decide)).trans f_46
    have f_47 := fT0_
    have hof : ∀ j, j ≠ t ∧ j ≠ 32 ∧ (j < 35 ∨ 39 < j) ∧ (j < 45 ∨ 50 < j) → rg j = rg0 j := fun j hj => (hf9 j (hq10_3 hj)).trans (hof j hj)
    refine lv_goto (tgt := 65) hx hb dX5_fineLog_45 (by decide) ?_
    refine lv_aload_n hx hb dX5_fineLog_65 rfl (lv_at hl 1 rfl) ?_
    refine lv_bipush (v := nI 48) hx hb dX5_fineLog_66 (by decide) ?_
    refine lv_bipush (v := nI 46) hx hb dX5_fineLog_68 (by decide) ?_
    refine lv_bipush (v := nI 47) hx hb dX5_fineLog_70 (by decide) ?_
    refine bd_cv (As := [.int (nI 48), .int (nI 46), .int (nI 47)]) (rest := []) C (v5_minus _ _ _ _ _ hv 48 46 47 (by decide) (by decide) (by decide) (by rw [f_46, f_47]; exact (b34 (Nat.le_trans hab1 (by decide +kernel))))) (cwV 3 hts gX5_fineLog_X5_minus rfl rfl rfl (by decide +kernel) ⟨Nat.le_of_ble_eq_true rfl, Nat.le_of_ble_eq_true rfl⟩) hsz hw (mv_recv C hw hv) dX5_fineLog_72 rfl hl.1 rfl (Nat.le_of_ble_eq_true rfl) ⟨Nat.le_refl _, Nat.le_refl _⟩ (fun E z H locs hp hw => ?_)
    obtain ⟨rg, hv, hv0_, hf9⟩ := hp
    have fT0_ : rg 48 = (aa - bp) := hv0_.trans (by rw [f_46, f_47])
    have f_x : rg x = rg0 x := (hf9 x (by omega)).trans f_x
    have f_27 : rg 27 = ((2 ^ (P + 64) : Nat) : Int) := (hf9 27 (by decide)).trans f_27
    have f_45 : rg 45 = (rg0 x * 3) := (hf9 45 (by decide)).trans f_45
    have f_46 : rg 46 = aa := (hf9 46 (by decide)).trans f_46
    have f_47 : rg 47 = bp := (hf9 47 (by decide)).trans f_47
    have f_48 := fT0_
    have hof : ∀ j, j ≠ t ∧ j ≠ 32 ∧ (j < 35 ∨ 39 < j) ∧ (j < 45 ∨ 50 < j) → rg j = rg0 j := fun j hj => (hf9 j (hq10_4 hj)).trans (hof j hj)
    refine lv_aload_n hx hb dX5_fineLog_75 rfl (lv_at hl 1 rfl) ?_
    refine lv_bipush (v := nI 48) hx hb dX5_fineLog_76 (by decide) ?_
    refine lv_bipush (v := nI 48) hx hb dX5_fineLog_78 (by decide) ?_
    refine lv_aload_n hx hb dX5_fineLog_80 rfl (lv_at hl 1 rfl) ?_
    refine mv_g C i5 hw hv 2 (by decide) (v := .int (nI (P + 64))) rfl dX5_fineLog_81 lk27 ?_
    refine bd_cv (As := [.int (nI 48), .int (nI 48), .int (nI (P + 64))]) (rest := []) C (v5_up _ _ _ _ _ hv 48 48 (P + 64) (by decide) (by decide) hP64 (by rw [f_48]; exact (b34 (Nat.le_trans (Nat.mul_le_mul hab1 hp256) (by decide +kernel))))) (cwV 3 hts gX5_fineLog_X5_up rfl rfl rfl (by decide +kernel) ⟨Nat.le_of_ble_eq_true rfl, Nat.le_of_ble_eq_true rfl⟩) hsz hw (mv_recv C hw hv) dX5_fineLog_84 rfl hl.1 rfl (Nat.le_of_ble_eq_true rfl) ⟨Nat.le_refl _, Nat.le_refl _⟩ (fun E z H locs hp hw => ?_)
    obtain ⟨rg, hv, hv0_, hf9⟩ := hp
    have fT0_ : rg 48 = ((aa - bp) * ((2 ^ (P + 64) : Nat) : Int)) := hv0_.trans (by rw [f_48])
    have f_x : rg x = rg0 x := (hf9 x (by omega)).trans f_x
    have f_27 : rg 27 = ((2 ^ (P + 64) : Nat) : Int) := (hf9 27 (by decide)).trans f_27
    have f_45 : rg 45 = (rg0 x * 3) := (hf9 45 (by decide)).trans f_45
    have f_46 : rg 46 = aa := (hf9 46 (by decide)).trans f_46
    have f_47 : rg 47 = bp := (hf9 47 (by decide)).trans f_47
    have f_48 := fT0_
    have hof : ∀ j, j ≠ t ∧ j ≠ 32 ∧ (j < 35 ∨ 39 < j) ∧ (j < 45 ∨ 50 < j) → rg j = rg0 j := fun j hj => (hf9 j (hq10_4 hj)).trans (hof j hj)
    refine lv_aload_n hx hb dX5_fineLog_87 rfl (lv_at hl 1 rfl) ?_
    refine lv_bipush (v := nI 49) hx hb dX5_fineLog_88 (by decide) ?_
    refine lv_bipush (v := nI 46) hx hb dX5_fineLog_90 (by decide) ?_
    refine lv_bipush (v := nI 47) hx hb dX5_fineLog_92 (by decide) ?_
    refine bd_cv (As := [.int (nI 49), .int (nI 46), .int (nI 47)]) (rest := []) C (v5_plus _ _ _ _ _ hv 49 46 47 (by decide) (by decide) (by decide) (by rw [f_46, f_47]; exact (b34 (Nat.le_trans hab2 (by decide +kernel))))) (cwV 3 hts gX5_fineLog_X5_plus rfl rfl rfl (by decide +kernel) ⟨Nat.le_of_ble_eq_true rfl, Nat.le_of_ble_eq_true rfl⟩) hsz hw (mv_recv C hw hv) dX5_fineLog_94 rfl hl.1 rfl (Nat.le_of_ble_eq_true rfl) ⟨Nat.le_refl _, Nat.le_refl _⟩ (fun E z H locs hp hw => ?_)
    obtain ⟨rg, hv, hv0_, hf9⟩ := hp
    have fT0_ : rg 49 = (aa + bp) := hv0_.trans (by rw [f_46, f_47])
    have f_x : rg x = rg0 x := (hf9 x (by omega)).trans f_x
    have f_27 : rg 27 = ((2 ^ (P + 64) : Nat) : Int) := (hf9 27 (by decide)).trans f_27
    have f_45 : rg 45 = (rg0 x * 3) := (hf9 45 (by decide)).trans f_45
    have f_46 : rg 46 = aa := (hf9 46 (by decide)).trans f_46
    have f_47 : rg 47 = bp := (hf9 47 (by decide)).trans f_47
    have f_48 : rg 48 = ((aa - bp) * ((2 ^ (P + 64) : Nat) : Int)) := (hf9 48 (by decide)).trans f_48
    have f_49 := fT0_
    have hof : ∀ j, j ≠ t ∧ j ≠ 32 ∧ (j < 35 ∨ 39 < j) ∧ (j < 45 ∨ 50 < j) → rg j = rg0 j := fun j hj => (hf9 j (hq10_5 hj)).trans (hof j hj)
    refine lv_aload_n hx hb dX5_fineLog_97 rfl (lv_at hl 1 rfl) ?_
    refine lv_bipush (v := nI 50) hx hb dX5_fineLog_98 (by decide) ?_
    refine lv_bipush (v := nI 48) hx hb dX5_fineLog_100 (by decide) ?_
    refine lv_bipush (v := nI 49) hx hb dX5_fineLog_102 (by decide) ?_
    refine bd_cv (As := [.int (nI 50), .int (nI 48), .int (nI 49)]) (rest := []) C (v5_divide _ _ _ _ _ hv 50 48 49 (by decide) (by decide) (by decide) (by decide) (by decide) (by decide) (by rw [f_49]; exact (by omega)) (by rw [f_49]; exact (Nat.le_trans (Nat.mul_le_mul_left 2 hab2) (by decide +kernel)))) (cwV 3 hts gX5_fineLog_X5_divide rfl rfl rfl (by decide +kernel) ⟨Nat.le_of_ble_eq_true rfl, Nat.le_of_ble_eq_true rfl⟩) hsz hw (mv_recv C hw hv) dX5_fineLog_104 rfl hl.1 rfl (Nat.le_of_ble_eq_true rfl) ⟨Nat.le_refl _, Nat.le_refl _⟩ (fun E z H locs hp hw => ?_)
    obtain ⟨rg, hv, hv0_, hf9⟩ := hp
    have fT0_ : rg 50 = (sp_lgw (P + 64) (rg0 x)) := hv0_.trans (by rw [f_48, f_49]; exact hw9.symm)
    have f_x : rg x = rg0 x := (hf9 x (by omega) (by omega)).trans f_x
    have f_27 : rg 27 = ((2 ^ (P + 64) : Nat) : Int) := (hf9 27 (by decide) (by decide)).trans f_27
    have f_45 : rg 45 = (rg0 x * 3) := (hf9 45 (by decide) (by decide)).trans f_45
    have f_46 : rg 46 = aa := (hf9 46 (by decide) (by decide)).trans f_46
    have f_47 : rg 47 = bp := (hf9 47 (by decide) (by decide)).trans f_47
    have f_48 : rg 48 = ((aa - bp) * ((2 ^ (P + 64) : Nat) : Int)) := (hf9 48 (by decide) (by decide)).trans f_48
    have f_49 : rg 49 = (aa + bp) := (hf9 49 (by decide) (by decide)).trans f_49
    have f_50 := fT0_
    have hof : ∀ j, j ≠ t ∧ j ≠ 32 ∧ (j < 35 ∨ 39 < j) ∧ (j < 45 ∨ 50 < j) → rg j = rg0 j := fun j hj => (hf9 j (hq10_6 hj) (hq10_1 hj)).trans (hof j hj)
    refine lv_aload_n hx hb dX5_fineLog_107 rfl (lv_at hl 1 rfl) ?_
    refine lv_bipush (v := nI 50) hx hb dX5_fineLog_108 (by decide) ?_
    refine lv_bipush (v := nI 50) hx hb dX5_fineLog_110 (by decide) ?_
    refine lv_iconst (v := nI 0) hx hb dX5_fineLog_112 (by decide) ?_
    refine bd_cv (As := [.int (nI 50), .int (nI 50), .int (nI 0)]) (rest := []) C (v5_row _ _ _ _ _ hv 50 50 0 (by decide) (by decide) (Or.inl rfl) (by rw [f_50]; exact hlb)) (cwV 3 hts gX5_fineLog_X5_row rfl rfl rfl (by decide +kernel) ⟨Nat.le_of_ble_eq_true rfl, Nat.le_of_ble_eq_true rfl⟩) hsz hw (mv_recv C hw hv) dX5_fineLog_113 rfl hl.1 rfl (Nat.le_of_ble_eq_true rfl) ⟨Nat.le_refl _, Nat.le_refl _⟩ (fun E z H locs hp hw => ?_)
    obtain ⟨rg, hv, hv0_, hf9⟩ := hp
    have fT0_ : rg 50 = (sp_RW 0 ((2 ^ (P + 64) : Nat) : Int) (sp_lgw (P + 64) (rg0 x))) := hv0_.trans (by rw [f_50])
    have f_x : rg x = rg0 x := (hf9 x (by omega)).trans f_x
    have f_27 : rg 27 = ((2 ^ (P + 64) : Nat) : Int) := (hf9 27 (by decide)).trans f_27
    have f_45 : rg 45 = (rg0 x * 3) := (hf9 45 (by decide)).trans f_45
    have f_46 : rg 46 = aa := (hf9 46 (by decide)).trans f_46
    have f_47 : rg 47 = bp := (hf9 47 (by decide)).trans f_47
    have f_48 : rg 48 = ((aa - bp) * ((2 ^ (P + 64) : Nat) : Int)) := (hf9 48 (by decide)).trans f_48
    have f_49 : rg 49 = (aa + bp) := (hf9 49 (by decide)).trans f_49
    have f_50 := fT0_
    have hof : ∀ j, j ≠ t ∧ j ≠ 32 ∧ (j < 35 ∨ 39 < j) ∧ (j < 45 ∨ 50 < j) → rg j = rg0 j := fun j hj => (hf9 j (hq10_7 hj)).trans (hof j hj)
    refine lv_aload_n hx hb dX5_fineLog_116 rfl (lv_at hl 1 rfl) ?_
    refine lv_bipush (v := nI 49) hx hb dX5_fineLog_117 (by decide) ?_
    refine lv_bipush (v := nI 27) hx hb dX5_fineLog_119 (by decide) ?_
    refine lv_iconst (v := nI 3) hx hb dX5_fineLog_121 (by decide) ?_
    refine bd_cv (As := [.int (nI 49), .int (nI 27), .int (nI 3)]) (rest := []) C (v5_divideSmall _ _ _ _ _ hv 49 27 3 (by decide) (by decide) (by decide) (by decide) (by decide)) (cwV 3 hts gX5_fineLog_X5_divideSmall rfl rfl rfl (by decide +kernel) ⟨Nat.le_of_ble_eq_true rfl, Nat.le_of_ble_eq_true rfl⟩) hsz hw (mv_recv C hw hv) dX5_fineLog_122 rfl hl.1 rfl (Nat.le_of_ble_eq_true rfl) ⟨Nat.le_refl _, Nat.le_refl _⟩ (fun E z H locs hp hw => ?_)
    obtain ⟨rg, hv, hv0_, hf9⟩ := hp
    have fT0_ : rg 49 = (((2 ^ (P + 64) : Nat) : Int) / 3) := hv0_.trans (by rw [f_27]; rfl)
    have f_x : rg x = rg0 x := (hf9 x (by omega) (by omega)).trans f_x
    have f_27 : rg 27 = ((2 ^ (P + 64) : Nat) : Int) := (hf9 27 (by decide) (by decide)).trans f_27
    have f_45 : rg 45 = (rg0 x * 3) := (hf9 45 (by decide) (by decide)).trans f_45
    have f_46 : rg 46 = aa := (hf9 46 (by decide) (by decide)).trans f_46
    have f_47 : rg 47 = bp := (hf9 47 (by decide) (by decide)).trans f_47
    have f_48 : rg 48 = ((aa - bp) * ((2 ^ (P + 64) : Nat) : Int)) := (hf9 48 (by decide) (by decide)).trans f_48
    have f_50 : rg 50 = (sp_RW 0 ((2 ^ (P + 64) : Nat) : Int) (sp_lgw (P + 64) (rg0 x))) := (hf9 50 (by decide) (by decide)).trans f_50
    have f_49 := fT0_
    have hof : ∀ j, j ≠ t ∧ j ≠ 32 ∧ (j < 35 ∨ 39 < j) ∧ (j < 45 ∨ 50 < j) → rg j = rg0 j := fun j hj => (hf9 j (hq10_5 hj) (hq10_1 hj)).trans (hof j hj)
    refine lv_aload_n hx hb dX5_fineLog_125 rfl (lv_at hl 1 rfl) ?_
    refine lv_bipush (v := nI 49) hx hb dX5_fineLog_126 (by decide) ?_
    refine lv_bipush (v := nI 49) hx hb dX5_fineLog_128 (by decide) ?_
    refine lv_iconst (v := nI 0) hx hb dX5_fineLog_130 (by decide) ?_
    refine bd_cv (As := [.int (nI 49), .int (nI 49), .int (nI 0)]) (rest := []) C (v5_row _ _ _ _ _ hv 49 49 0 (by decide) (by decide) (Or.inl rfl) (by rw [f_49]; exact hd3)) (cwV 3 hts gX5_fineLog_X5_row rfl rfl rfl (by decide +kernel) ⟨Nat.le_of_ble_eq_true rfl, Nat.le_of_ble_eq_true rfl⟩) hsz hw (mv_recv C hw hv) dX5_fineLog_131 rfl hl.1 rfl (Nat.le_of_ble_eq_true rfl) ⟨Nat.le_refl _, Nat.le_refl _⟩ (fun E z H locs hp hw => ?_)
    obtain ⟨rg, hv, hv0_, hf9⟩ := hp
    have fT0_ : rg 49 = (sp_RW 0 ((2 ^ (P + 64) : Nat) : Int) (((2 ^ (P + 64) : Nat) : Int) / 3)) := hv0_.trans (by rw [f_49])
    have f_x : rg x = rg0 x := (hf9 x (by omega)).trans f_x
    have f_27 : rg 27 = ((2 ^ (P + 64) : Nat) : Int) := (hf9 27 (by decide)).trans f_27
    have f_45 : rg 45 = (rg0 x * 3) := (hf9 45 (by decide)).trans f_45
    have f_46 : rg 46 = aa := (hf9 46 (by decide)).trans f_46
    have f_47 : rg 47 = bp := (hf9 47 (by decide)).trans f_47
    have f_48 : rg 48 = ((aa - bp) * ((2 ^ (P + 64) : Nat) : Int)) := (hf9 48 (by decide)).trans f_48
    have f_50 : rg 50 = (sp_RW 0 ((2 ^ (P + 64) : Nat) : Int) (sp_lgw (P + 64) (rg0 x))) := (hf9 50 (by decide)).trans f_50
    have f_49 := fT0_
    have hof : ∀ j, j ≠ t ∧ j ≠ 32 ∧ (j < 35 ∨ 39 < j) ∧ (j < 45 ∨ 50 < j) → rg j = rg0 j := fun j hj => (hf9 j (hq10_8 hj)).trans (hof j hj)
    refine lv_aload_n hx hb dX5_fineLog_134 rfl (lv_at hl 1 rfl) ?_
    refine lv_bipush (v := nI 49) hx hb dX5_fineLog_135 (by decide) ?_
    refine lv_bipush (v := nI 49) hx hb dX5_fineLog_137 (by decide) ?_
    refine lv_iload_n hx hb dX5_fineLog_139 rfl (lv_at hl 0 rfl) ?_
    refine bd_cv (As := [.int (nI 49), .int (nI 49), .int (iZ ((bb : Int) - ((P + 64 : Nat) : Int) - 2))]) (rest := []) C (v5_timesSmall _ _ _ _ _ hv 49 49 (iZ ((bb : Int) - ((P + 64 : Nat) : Int) - 2)) (by omega) (by omega) (by omega) (by rw [f_49, iZ_toInt (by omega) (by omega)]; exact (b34 (Nat.le_trans (mul_b hHb2 hkb) (by decide +kernel))))) (cwV 3 hts gX5_fineLog_X5_timesSmall rfl rfl rfl (by decide +kernel) ⟨Nat.le_of_ble_eq_true rfl, Nat.le_of_ble_eq_true rfl⟩) hsz hw (mv_recv C hw hv) dX5_fineLog_140 rfl hl.1 rfl (Nat.le_of_ble_eq_true rfl) ⟨Nat.le_refl _, Nat.le_refl _⟩ (fun E z H locs hp hw => ?_)
    obtain ⟨rg, hv, hv0_, hf9⟩ := hp
    have fT0_ : rg 49 = ((sp_RW 0 ((2 ^ (P + 64) : Nat) : Int) (((2 ^ (P + 64) : Nat) : Int) / 3)) * ((bb : Int) - ((P + 64 : Nat) : Int) - 2)) := hv0_.trans (by rw [f_49, iZ_toInt (by omega) (by omega)])
    have f_x : rg x = rg0 x := (hf9 x (by omega) (by omega)).trans f_x
    have f_27 : rg 27 = ((2 ^ (P + 64) : Nat) : Int) := (hf9 27 (by decide) (by decide)).trans f_27
    have f_45 : rg 45 = (rg0 x * 3) := (hf9 45 (by decide) (by decide)).trans f_45
    have f_46 : rg 46 = aa := (hf9 46 (by decide) (by decide)).trans f_46
    have f_47 : rg 47 = bp := (hf9 47 (by decide) (by decide)).trans f_47
    have f_48 : rg 48 = ((aa - bp) * ((2 ^ (P + 64) : Nat) : Int)) := (hf9 48 (by decide) (by decide)).trans f_48
    have f_50 : rg 50 = (sp_RW 0 ((2 ^ (P + 64) : Nat) : Int) (sp_lgw (P + 64) (rg0 x))) := (hf9 50 (by decide) (by decide)).trans f_50
    have f_49 := fT0_
    have hof : ∀ j, j ≠ t ∧ j ≠ 32 ∧ (j < 35 ∨ 39 < j) ∧ (j < 45 ∨ 50 < j) → rg j = rg0 j := fun j hj => (hf9 j (hq10_5 hj) (hq10_1 hj)).trans (hof j hj)
    refine lv_aload_n hx hb dX5_fineLog_143 rfl (lv_at hl 1 rfl) ?_
    refine lv_bipush (v := nI 50) hx hb dX5_fineLog_144 (by decide) ?_
    refine lv_bipush (v := nI 50) hx hb dX5_fineLog_146 (by decide) ?_
    refine lv_bipush (v := nI 49) hx hb dX5_fineLog_148 (by decide) ?_
    refine bd_cv (As := [.int (nI 50), .int (nI 50), .int (nI 49)]) (rest := []) C (v5_plus _ _ _ _ _ hv 50 50 49 (by decide) (by decide) (by decide) (by rw [f_50, f_49]; exact (b34 (Nat.le_trans (add_b hRb (Nat.le_trans (mul_b hHb2 hkb) (show 2 ^ 256 * 2 ^ 9 ≤ 2 ^ 288 by decide +kernel))) (by decide +kernel))))) (cwV 3 hts gX5_fineLog_X5_plus rfl rfl rfl (by decide +kernel) ⟨Nat.le_of_ble_eq_true rfl, Nat.le_of_ble_eq_true rfl⟩) hsz hw (mv_recv C hw hv) dX5_fineLog_150 rfl hl.1 rfl (Nat.le_of_ble_eq_true rfl) ⟨Nat.le_refl _, Nat.le_refl _⟩ (fun E z H locs hp hw => ?_)
    obtain ⟨rg, hv, hv0_, hf9⟩ := hp
    have fT0_ : rg 50 = ((sp_RW 0 ((2 ^ (P + 64) : Nat) : Int) (sp_lgw (P + 64) (rg0 x))) + (sp_RW 0 ((2 ^ (P + 64) : Nat) : Int) (((2 ^ (P + 64) : Nat) : Int) / 3)) * ((bb : Int) - ((P + 64 : Nat) : Int) - 2)) := hv0_.trans (by rw [f_50, f_49])
    have f_x : rg x = rg0 x := (hf9 x (by omega)).trans f_x
    have f_27 : rg 27 = ((2 ^ (P + 64) : Nat) : Int) := (hf9 27 (by decide)).trans f_27
    have f_45 : rg 45 = (rg0 x * 3) := (hf9 45 (by decide)).trans f_45
    have f_46 : rg 46 = aa := (hf9 46 (by decide)).trans f_46
    have f_47 : rg 47 = bp := (hf9 47 (by decide)).trans f_47
    have f_48 : rg 48 = ((aa - bp) * ((2 ^ (P + 64) : Nat) : Int)) := (hf9 48 (by decide)).trans f_48
    have f_49 : rg 49 = ((sp_RW 0 ((2 ^ (P + 64) : Nat) : Int) (((2 ^ (P + 64) : Nat) : Int) / 3)) * ((bb : Int) - ((P + 64 : Nat) : Int) - 2)) := (hf9 49 (by decide)).trans f_49
    have f_50 := fT0_
    have hof : ∀ j, j ≠ t ∧ j ≠ 32 ∧ (j < 35 ∨ 39 < j) ∧ (j < 45 ∨ 50 < j) → rg j = rg0 j := fun j hj => (hf9 j (hq10_6 hj)).trans (hof j hj)
    refine lv_aload_n hx hb dX5_fineLog_153 rfl (lv_at hl 1 rfl) ?_
    refine lv_iload_n hx hb dX5_fineLog_154 rfl (lv_at hl 2 rfl) ?_
    refine lv_bipush (v := nI 50) hx hb dX5_fineLog_155 (by decide) ?_
    refine lv_iconst (v := nI 2) hx hb dX5_fineLog_157 (by decide) ?_
    refine bd_cv (As := [.int (nI t), .int (nI 50), .int (nI 2)]) (rest := []) C (v5_timesSmall _ _ _ _ _ hv t 50 (nI 2) (by omega) (by decide) (by decide) (by rw [f_50]; exact (b34 (Nat.le_trans (mul_b (add_b hRb (Nat.le_trans (mul_b hHb2 hkb) (show 2 ^ 256 * 2 ^ 9 ≤ 2 ^ 288 by decide +kernel))) (show (nI 2).toInt.natAbs ≤ 2 by decide)) (by decide +kernel))))) (cwV 3 hts gX5_fineLog_X5_timesSmall rfl rfl rfl (by decide +kernel) ⟨Nat.le_of_ble_eq_true rfl, Nat.le_of_ble_eq_true rfl⟩) hsz hw (mv_recv C hw hv) dX5_fineLog_158 rfl hl.1 rfl (Nat.le_of_ble_eq_true rfl) ⟨Nat.le_refl _, Nat.le_refl _⟩ (fun E z H locs hp hw => ?_)
    obtain ⟨rg, hv, hv0_, hf9⟩ := hp
    have fT0_ : rg t = (((sp_RW 0 ((2 ^ (P + 64) : Nat) : Int) (sp_lgw (P + 64) (rg0 x))) + (sp_RW 0 ((2 ^ (P + 64) : Nat) : Int) (((2 ^ (P + 64) : Nat) : Int) / 3)) * ((bb : Int) - ((P + 64 : Nat) : Int) - 2)) * 2) := hv0_.trans (by rw [f_50]; rfl)
    have f_50 : rg 50 = ((sp_RW 0 ((2 ^ (P + 64) : Nat) : Int) (sp_lgw (P + 64) (rg0 x))) + (sp_RW 0 ((2 ^ (P + 64) : Nat) : Int) (((2 ^ (P + 64) : Nat) : Int) / 3)) * ((bb : Int) - ((P + 64 : Nat) : Int) - 2)) := (hf9 50 (by omega) (by omega)).trans f_50
    have f_t := fT0_
    have hof : ∀ j, j ≠ t ∧ j ≠ 32 ∧ (j < 35 ∨ 39 < j) ∧ (j < 45 ∨ 50 < j) → rg j = rg0 j := fun j hj => (hf9 j (hq10_9 hj) (hq10_1 hj)).trans (hof j hj)
    exact bd_vret C hr hlk hw dX5_fineLog_161 (⟨rg, hv, by rw [f_t]; unfold sp_LOG sp_L2; rw [← (show bb = q_bl (rg0 x * 3).natAbs from hbb)]; exact lg_eq _ _ _, hof⟩)
set_option maxHeartbeats 4000000 in
set_option maxRecDepth 100000 in
/-- fineArc -/
theorem v5_fineArc (l : Launch) (K : Cxt) (E0 : Nat → va_E) (z0 : Nat → Wh) (sz : Nat) {mo : Nat → Nat} {th : Int32} {P : Nat} {rg0 : Nat → Int} (hv : md_v K E0 mo th P rg0) (t x : Nat) (ht60 : t < 60 ∧ t ≠ 29 ∧ t ≠ 30 ∧ t ≠ 32 ∧ (t < 35 ∨ 39 < t) ∧ (t < 52 ∨ 54 < t)) (hx60 : x < 60 ∧ x ≠ 29 ∧ x ≠ 30 ∧ x ≠ 32 ∧ (x < 35 ∨ 39 < x) ∧ (x < 52 ∨ 54 < x)) (hf_27 : rg0 27 = ((2 ^ (P + 64) : Nat) : Int)) (hf_26 : rg0 26 = sp_PI (P + 64)) (hb1 : (rg0 x).natAbs ≤ 2 ^ 310) : Met l yX5_fineArc wsX5_fineArc ({ frames := 7, cells := 0, slots := 0, locals := 240 }) (va_Pc [.ref (mo 0), .int (nI t), .int (nI x)] (bd_P K E0 z0 sz)) (va_Qv (fun u => ∃ rg : Nat → Int, md_v K u.1 mo th P rg ∧ rg t = sp_AT (P + 64) (rg0 x) ∧ ∀ j, j ≠ t ∧ j ≠ 29 ∧ j ≠ 30 ∧ j ≠ 32 ∧ (j < 35 ∨ 39 < j) ∧ (j < 52 ∨ 54 < j) → rg j = rg0 j) (bd_B K) (bd_A K sz)) 0 0 (bd_A K sz) := by
  refine bd_ofW (cc := cX5_fineArc) (maxL := 6) (ret := none) (by decide) rfl (Nat.le_of_ble_eq_true rfl) ?_
  intro p e s m below meth c ls C hr hlk hsz hw hl
  have hx := C.1
  have hb := C.2.1
  have hown := C.2.2.2.1
  have hts := C.2.2.2.2.1
  have i5 : ∀ w ∈ wsX50, w ∈ wsX5_fineArc := by decide +kernel
  have lk13 : Cond.fieldLink RX5 13 "BallDeskModel" "signs" "[I" ∈ wsX5_fineArc := by decide +kernel
  have lk27 : Cond.fieldLink RX5 27 "BallDeskModel" "fine" "I" ∈ wsX5_fineArc := by decide +kernel
  have hl : lv_has ls 6 [(0, .ref (mo 0)), (1, .int (nI t)), (2, .int (nI x))] := hl
  obtain ⟨hP1, hP2⟩ := mv_P hv
  have hp256 : (2 : Nat) ^ (P + 64) ≤ 2 ^ 256 := Nat.pow_le_pow_right (by decide) (by omega)
  have hp80 : (2 : Nat) ^ 80 ≤ 2 ^ (P + 64) := Nat.pow_le_pow_right (by decide) (by omega)
  have hDp : (0 : Int) < ((2 ^ (P + 64) : Nat) : Int) := by omega
  have hp512 : (2 : Nat) ^ (2 * (P + 64)) ≤ 2 ^ 512 := Nat.pow_le_pow_right (by decide) (by omega)
  have hD2p : (0 : Int) ≤ ((2 ^ (2 * (P + 64)) : Nat) : Int) := Int.natCast_nonneg _
  have hD2b : (((2 ^ (2 * (P + 64)) : Nat) : Int) : Int).natAbs ≤ 2 ^ 512 := by rw [Int.natAbs_natCast]; exact hp512
  obtain ⟨hPI1, hPI2⟩ := sp_PIb (Q := (P + 64)) (by omega)
  have hPIb : (sp_PI (P + 64) / ((2 ^ 1 : Nat) : Int)).natAbs ≤ 2 ^ 260 := Nat.le_trans (fl_abs (by decide)) (show (sp_PI (P + 64)).natAbs ≤ 2 ^ 260 by omega)
  change hid _ at hD2b hb1 hPIb
  clear hPI1 hPI2 hp80
  have hP64 : P + 64 < 816 := by omega
  have hP128 : 2 * (P + 64) < 816 := by omega
  have f_x : rg0 x = rg0 x := rfl
  have f_27 : rg0 27 = ((2 ^ (P + 64) : Nat) : Int) := hf_27
  have f_26 : rg0 26 = (sp_PI (P + 64)) := hf_26
  have hof : ∀ j, j ≠ t ∧ j ≠ 29 ∧ j ≠ 30 ∧ j ≠ 32 ∧ (j < 35 ∨ 39 < j) ∧ (j < 52 ∨ 54 < j) → rg0 j = rg0 j := fun _ _ => rfl
  refine lv_aload_n hx hb dX5_fineArc_0 rfl (lv_at hl 0 rfl) ?_
  refine mv_g C i5 hw hv 4 (by decide) (v := .ref (mo 2)) rfl dX5_fineArc_1 lk13 ?_
  refine lv_iload_n hx hb dX5_fineArc_4 rfl (lv_at hl 2 rfl) ?_
  refine mv_ld2 C hw hv (r := x) dX5_fineArc_5 (by omega) ?_
  rw [f_x]
  refine lv_istore_n (lv' := [(3, .int (q_sg (rg0 x))), (0, .ref (mo 0)), (1, .int (nI t)), (2, .int (nI x))]) hx hb dX5_fineArc_6 rfl hl (by decide) rfl (fun ls hl => ?_)
  suffices hj83 : ∀ (sf : Nat) (T : Int) (E : Nat → va_E) (z : Nat → Wh) (rg : Nat → Int) (ls : Array Slot) (H : Heap) (locs : List Loc), sf ≤ 1 → ((sf = 1 ∧ ((2 ^ (P + 64) : Nat) : Int) < ((rg0 x).natAbs : Int) ∧ T = ((2 ^ (2 * (P + 64)) : Nat) : Int) / ((rg0 x).natAbs : Int)) ∨ (sf = 0 ∧ ¬ ((2 ^ (P + 64) : Nat) : Int) < ((rg0 x).natAbs : Int) ∧ T = ((rg0 x).natAbs : Int))) → 0 ≤ T → T ≤ ((2 ^ (P + 64) : Nat) : Int) → md_v K E mo th P rg → rg 52 = T → rg 26 = (sp_PI (P + 64)) → rg 27 = ((2 ^ (P + 64) : Nat) : Int) → (∀ j, j ≠ t ∧ j ≠ 29 ∧ j ≠ 30 ∧ j ≠ 32 ∧ (j < 35 ∨ 39 < j) ∧ (j < 52 ∨ 54 < j) → rg j = rg0 j) → lv_has ls 6 [(4, .int (nI sf)), (3, .int (q_sg (rg0 x))), (0, .ref (mo 0)), (1, .int (nI t))] → bd_W K E z (bd_A K sz) s.heap H locs → W p l e (headSpec wsX5_fineArc ({ frames := 7, cells := 0, slots := 0, locals := 240 })).room s m [.ref (mo 0), .int (nI t), .int (nI x)].toArray below meth c H locs 0 0 (MQ below (va_Qv (fun u => ∃ rg : Nat → Int, md_v K u.1 mo th P rg ∧ rg t = sp_AT (P + 64) (rg0 x) ∧ ∀ j, j ≠ t ∧ j ≠ 29 ∧ j ≠ 30 ∧ j ≠ 32 ∧ (j < 35 ∨ 39 < j) ∧ (j < 52 ∨ 54 < j) → rg j = rg0 j) (bd_B K) (bd_A K sz)) [.ref (mo 0), .int (nI t), .int (nI x)].toArray s 0 0 (bd_A K sz)) (F0 m 83 ls []) by
    refine lv_aload_n hx hb dX5_fineArc_7 rfl (lv_at hl 1 rfl) ?_
    refine lv_bipush (v := nI 52) hx hb dX5_fineArc_8 (by decide) ?_
    refine lv_iload_n hx hb dX5_fineArc_10 rfl (lv_at hl 3 rfl) ?_
    refine bd_cv (As := [.int (nI 52), .int (nI x)]) (rest := []) C (v5_copy _ _ _ _ _ hv 52 x (by decide) (by omega)) (cwV 2 hts gX5_fineArc_X5_copy rfl rfl rfl (by decide +kernel) ⟨Nat.le_of_ble_eq_true rfl, Nat.le_of_ble_eq_true rfl⟩) hsz hw (mv_recv C hw hv) dX5_fineArc_11 rfl hl.1 rfl (Nat.le_of_ble_eq_true rfl) ⟨Nat.le_refl _, Nat.le_refl _⟩ (fun E z H locs hp hw => ?_)
    obtain ⟨rg, hv, hv0_, hf9⟩ := hp
    have fT0_ : rg 52 = rg0 x := hv0_.trans (by rw [f_x])
    have f_x : rg x = rg0 x := (hf9 x (by omega)).trans f_x
    have f_27 : rg 27 = ((2 ^ (P + 64) : Nat) : Int) := (hf9 27 (by decide)).trans f_27
    have f_26 : rg 26 = (sp_PI (P + 64)) := (hf9 26 (by decide)).trans f_26
    have f_52 := fT0_
    have hof : ∀ j, j ≠ t ∧ j ≠ 29 ∧ j ≠ 30 ∧ j ≠ 32 ∧ (j < 35 ∨ 39 < j) ∧ (j < 52 ∨ 54 < j) → rg j = rg0 j := fun j hj => (hf9 j (hq10_10 hj)).trans (hof j hj)
    refine lv_aload_n hx hb dX5_fineArc_14 rfl (lv_at hl 1 rfl) ?_
    refine mv_g C i5 hw hv 4 (by decide) (v := .ref (mo 2)) rfl dX5_fineArc_15 lk13 ?_
    refine lv_bipush (v := nI 52) hx hb dX5_fineArc_18 (by decide) ?_
    refine lv_iload_n hx hb dX5_fineArc_20 rfl (lv_at hl 0 rfl) ?_
    refine lv_if_ne (tgt := 28) hx hb dX5_fineArc_21 (by decide) (fun hc21 => ?_) (fun hc21 => ?_)
    · refine lv_iconst (v := nI 1) hx hb dX5_fineArc_28 (by decide) ?_
      refine mv_st2 C hw hv (r := 52) (((rg0 x).natAbs : Int)) (by rw [f_52, Int.natAbs_natCast]) (by rw [← sg_abs]; rw [if_neg (fun q => hc21 (by rw [q]; rfl))] <;> rfl) dX5_fineArc_29 (by omega) (fun E rg H locs hv hv0_ hf9 hw => ?_)
      have fT0_ : rg 52 = ((rg0 x).natAbs : Int) := hv0_.trans (by rfl)
      have f_x : rg x = rg0 x := (hf9 x (by omega)).trans f_x
      have f_27 : rg 27 = ((2 ^ (P + 64) : Nat) : Int) := (hf9 27 (by decide)).trans f_27
      have f_26 : rg 26 = (sp_PI (P + 64)) := (hf9 26 (by decide)).trans f_26
      have f_52 := fT0_
      have hof : ∀ j, j ≠ t ∧ j ≠ 29 ∧ j ≠ 30 ∧ j ≠ 32 ∧ (j < 35 ∨ 39 < j) ∧ (j < 52 ∨ 54 < j) → rg j = rg0 j := fun j hj => (hf9 j (hq10_10 hj)).trans (hof j hj)
      refine lv_aload_n hx hb dX5_fineArc_30 rfl (lv_at hl 1 rfl) ?_
      refine lv_bipush (v := nI 52) hx hb dX5_fineArc_31 (by decide) ?_
      refine lv_bipush (v := nI 27) hx hb dX5_fineArc_33 (by decide) ?_
      refine bd_cip (As := [.int (nI 52), .int (nI 27)]) (rest := []) C (v5_compare _ _ _ _ _ hv 52 27 (by omega) (by omega)) (cwV 2 hts gX5_fineArc_X5_compare rfl rfl rfl (by decide +kernel) ⟨Nat.le_of_ble_eq_true rfl, Nat.le_of_ble_eq_true rfl⟩) hsz hw (mv_recv C hw hv) dX5_fineArc_35 rfl hl.1 rfl (Nat.le_of_ble_eq_true rfl) ⟨Nat.le_refl _, Nat.le_refl _⟩ (fun H locs hw => ?_)
      rw [f_52, f_27]
      refine lv_if_le (tgt := 45) hx hb dX5_fineArc_38 (by decide) (fun hc38 => ?_) (fun hc38 => ?_)
      · have hst : ¬ ((2 ^ (P + 64) : Nat) : Int) < ((rg0 x).natAbs : Int) := Int.not_lt.mpr (q3_le.mp hc38)
        refine lv_iconst (v := nI 0) hx hb dX5_fineArc_45 (by decide) ?_
        refine lv_istore (lv' := [(4, .int (nI 0)), (3, .int (q_sg (rg0 x))), (0, .ref (mo 0)), (1, .int (nI t)), (2, .int (nI x))]) hx hb dX5_fineArc_46 hl (by decide) rfl (fun ls hl => ?_)
        refine lv_iload hx hb dX5_fineArc_48 (lv_at hl 0 rfl) ?_
        refine bd_zeq (h1 := by decide) (tgt := 83) hx hb dX5_fineArc_50 (by decide) (fun hc50 => ?_) (fun hc50 => ?_)
        · exact hj83 0 _ E z rg ls _ _ (by decide) (Or.inr ⟨rfl, hst, rfl⟩) (Int.natCast_nonneg _) (Int.not_lt.mp hst) hv f_52 f_26 f_27 hof (lv_sub hl [0, 1, 2, 3] rfl) hw
        · exact absurd hc50 (by decide)
      · have hst : ((2 ^ (P + 64) : Nat) : Int) < ((rg0 x).natAbs : Int) := Int.not_le.mp (fun q => hc38 (q3_le.mpr q))
        refine lv_iconst (v := nI 1) hx hb dX5_fineArc_41 (by decide) ?_
        refine lv_goto (tgt := 46) hx hb dX5_fineArc_42 (by decide) ?_
        refine lv_istore (lv' := [(4, .int (nI 1)), (3, .int (q_sg (rg0 x))), (0, .ref (mo 0)), (1, .int (nI t)), (2, .int (nI x))]) hx hb dX5_fineArc_46 hl (by decide) rfl (fun ls hl => ?_)
        refine lv_iload hx hb dX5_fineArc_48 (lv_at hl 0 rfl) ?_
        refine bd_zeq (h1 := by decide) (tgt := 83) hx hb dX5_fineArc_50 (by decide) (fun hc50 => ?_) (fun hc50 => ?_)
        · exact absurd hc50 (by decide)
        · refine lv_aload_n hx hb dX5_fineArc_53 rfl (lv_at hl 2 rfl) ?_
          refine lv_bipush (v := nI 53) hx hb dX5_fineArc_54 (by decide) ?_
          refine lv_iconst (v := nI 2) hx hb dX5_fineArc_56 (by decide) ?_
          refine lv_aload_n hx hb dX5_fineArc_57 rfl (lv_at hl 2 rfl) ?_
          refine mv_g C i5 hw hv 2 (by decide) (v := .int (nI (P + 64))) rfl dX5_fineArc_58 lk27 ?_
          refine bd_imul (v := (nI (2 * (P + 64)))) hx hb dX5_fineArc_61 (nI_mul _ _) ?_
          refine bd_cv (As := [.int (nI 53), .int (nI (2 * (P + 64)))]) (rest := []) C (v5_power _ _ _ _ _ hv 53 (2 * (P + 64)) (by decide) hP128) (cwV 2 hts gX5_fineArc_X5_power rfl rfl rfl (by decide +kernel) ⟨Nat.le_of_ble_eq_true rfl, Nat.le_of_ble_eq_true rfl⟩) hsz hw (mv_recv C hw hv) dX5_fineArc_62 rfl hl.1 rfl (Nat.le_of_ble_eq_true rfl) ⟨Nat.le_refl _, Nat.le_refl _⟩ (fun E z H locs hp hw => ?_)
          obtain ⟨rg, hv, hv0_, hf9⟩ := hp
          have fT0_ : rg 53 = ((2 ^ (2 * (P + 64)) : Nat) : Int) := hv0_.trans (by rfl)
          have f_52 : rg 52 = ((rg0 x).natAbs : Int) := (hf9 52 (by decide)).trans f_52
          have f_26 : rg 26 = (sp_PI (P + 64)) := (hf9 26 (by decide)).trans f_26
          have f_27 : rg 27 = ((2 ^ (P + 64) : Nat) : Int) := (hf9 27 (by decide)).trans f_27
          have f_53 := fT0_
          have hof : ∀ j, j ≠ t ∧ j ≠ 29 ∧ j ≠ 30 ∧ j ≠ 32 ∧ (j < 35 ∨ 39 < j) ∧ (j < 52 ∨ 54 < j) → rg j = rg0 j := fun j hj => (hf9 j (hq10_11 hj)).trans (hof j hj)
          refine lv_aload_n hx hb dX5_fineArc_65 rfl (lv_at hl 2 rfl) ?_
          refine lv_bipush (v := nI 54) hx hb dX5_fineArc_66 (by decide) ?_
          refine lv_bipush (v := nI 53) hx hb dX5_fineArc_68 (by decide) ?_
          refine lv_bipush (v := nI 52) hx hb dX5_fineArc_70 (by decide) ?_
          have hT8 : 0 ≤ ((2 ^ (2 * (P + 64)) : Nat) : Int) / ((rg0 x).natAbs : Int) ∧ ((2 ^ (2 * (P + 64)) : Nat) : Int) / ((rg0 x).natAbs : Int) ≤ ((2 ^ (P + 64) : Nat) : Int) := arc_flip (Q := (P + 64)) hst
          refine bd_cv (As := [.int (nI 54), .int (nI 53), .int (nI 52)]) (rest := []) C (v5_divide _ _ _ _ _ hv 54 53 52 (by decide) (by decide) (by decide) (by decide) (by decide) (by decide) (by rw [f_52]; exact (Int.lt_trans hDp hst)) (by rw [f_52]; exact (by rw [Int.natAbs_natCast]; exact Nat.le_trans (Nat.mul_le_mul_left 2 hb1) (by decide +kernel)))) (cwV 3 hts gX5_fineArc_X5_divide rfl rfl rfl (by decide +kernel) ⟨Nat.le_of_ble_eq_true rfl, Nat.le_of_ble_eq_true rfl⟩) hsz hw (mv_recv C hw hv) dX5_fineArc_72 rfl hl.1 rfl (Nat.le_of_ble_eq_true rfl) ⟨Nat.le_refl _, Nat.le_refl _⟩ (fun E z H locs hp hw => ?_)
          obtain ⟨rg, hv, hv0_, hf9⟩ := hp
          have fT0_ : rg 54 = (((2 ^ (2 * (P + 64)) : Nat) : Int) / ((rg0 x).natAbs : Int)) := hv0_.trans (by rw [f_53, f_52])
          have f_52 : rg 52 = ((rg0 x).natAbs : Int) := (hf9 52 (by decide) (by decide)).trans f_52
          have f_26 : rg 26 = (sp_PI (P + 64)) := (hf9 26 (by decide) (by decide)).trans f_26
          have f_27 : rg 27 = ((2 ^ (P + 64) : Nat) : Int) := (hf9 27 (by decide) (by decide)).trans f_27
          have f_53 : rg 53 = ((2 ^ (2 * (P + 64)) : Nat) : Int) := (hf9 53 (by decide) (by decide)).trans f_53
          have f_54 := fT0_
          have hof : ∀ j, j ≠ t ∧ j ≠ 29 ∧ j ≠ 30 ∧ j ≠ 32 ∧ (j < 35 ∨ 39 < j) ∧ (j < 52 ∨ 54 < j) → rg j = rg0 j := fun j hj => (hf9 j (hq10_12 hj) (hq10_13 hj)).trans (hof j hj)
          refine lv_aload_n hx hb dX5_fineArc_75 rfl (lv_at hl 2 rfl) ?_
          refine lv_bipush (v := nI 52) hx hb dX5_fineArc_76 (by decide) ?_
          refine lv_bipush (v := nI 54) hx hb dX5_fineArc_78 (by decide) ?_
          refine bd_cv (As := [.int (nI 52), .int (nI 54)]) (rest := []) C (v5_copy _ _ _ _ _ hv 52 54 (by decide) (by decide)) (cwV 2 hts gX5_fineArc_X5_copy rfl rfl rfl (by decide +kernel) ⟨Nat.le_of_ble_eq_true rfl, Nat.le_of_ble_eq_true rfl⟩) hsz hw (mv_recv C hw hv) dX5_fineArc_80 rfl hl.1 rfl (Nat.le_of_ble_eq_true rfl) ⟨Nat.le_refl _, Nat.le_refl _⟩ (fun E z H locs hp hw => ?_)
          obtain ⟨rg, hv, hv0_, hf9⟩ := hp
          have fT0_ : rg 52 = (((2 ^ (2 * (P + 64)) : Nat) : Int) / ((rg0 x).natAbs : Int)) := hv0_.trans (by rw [f_54])
          have f_26 : rg 26 = (sp_PI (P + 64)) := (hf9 26 (by decide)).trans f_26
          have f_27 : rg 27 = ((2 ^ (P + 64) : Nat) : Int) := (hf9 27 (by decide)).trans f_27
          have f_53 : rg 53 = ((2 ^ (2 * (P + 64)) : Nat) : Int) := (hf9 53 (by decide)).trans f_53
          have f_54 : rg 54 = (((2 ^ (2 * (P + 64)) : Nat) : Int) / ((rg0 x).natAbs : Int)) := (hf9 54 (by decide)).trans f_54
          have f_52 := fT0_
          have hof : ∀ j, j ≠ t ∧ j ≠ 29 ∧ j ≠ 30 ∧ j ≠ 32 ∧ (j < 35 ∨ 39 < j) ∧ (j < 52 ∨ 54 < j) → rg j = rg0 j := fun j hj => (hf9 j (hq10_10 hj)).trans (hof j hj)
          exact hj83 1 _ E z rg ls _ _ (by decide) (Or.inl ⟨rfl, hst, rfl⟩) hT8.1 hT8.2 hv f_52 f_26 f_27 hof (lv_sub hl [0, 1, 2, 3] rfl) hw
    · refine lv_iconst (v := nI 0) hx hb dX5_fineArc_24 (by decide) ?_
      refine lv_goto (tgt := 29) hx hb dX5_fineArc_25 (by decide) ?_
      refine mv_st2 C hw hv (r := 52) (((rg0 x).natAbs : Int)) (by rw [f_52, Int.natAbs_natCast]) (by rw [← sg_abs]; rw [if_pos (sg_0 hc21)] <;> rfl) dX5_fineArc_29 (by omega) (fun E rg H locs hv hv0_ hf9 hw => ?_)
      have fT0_ : rg 52 = ((rg0 x).natAbs : Int) := hv0_.trans (by rfl)
      have f_x : rg x = rg0 x := (hf9 x (by omega)).trans f_x
      have f_27 : rg 27 = ((2 ^ (P + 64) : Nat) : Int) := (hf9 27 (by decide)).trans f_27
      have f_26 : rg 26 = (sp_PI (P + 64)) := (hf9 26 (by decide)).trans f_26
      have f_52 := fT0_
      have hof : ∀ j, j ≠ t ∧ j ≠ 29 ∧ j ≠ 30 ∧ j ≠ 32 ∧ (j < 35 ∨ 39 < j) ∧ (j < 52 ∨ 54 < j) → rg j = rg0 j := fun j hj => (hf9 j (hq10_10 hj)).trans (hof j hj)
      refine lv_aload_n hx hb dX5_fineArc_30 rfl (lv_at hl 1 rfl) ?_
      refine lv_bipush (v := nI 52) hx hb dX5_fineArc_31 (by decide) ?_
      refine lv_bipush (v := nI 27) hx hb dX5_fineArc_33 (by decide) ?_
      refine bd_cip (As := [.int (nI 52), .int (nI 27)]) (rest := []) C (v5_compare _ _ _ _ _ hv 52 27 (by omega) (by omega)) (cwV 2 hts gX5_fineArc_X5_compare rfl rfl rfl (by decide +kernel) ⟨Nat.le_of_ble_eq_true rfl, Nat.le_of_ble_eq_true rfl⟩) hsz hw (mv_recv C hw hv) dX5_fineArc_35 rfl hl.1 rfl (Nat.le_of_ble_eq_true rfl) ⟨Nat.le_refl _, Nat.le_refl _⟩ (fun H locs hw => ?_)
      rw [f_52, f_27]
      refine lv_if_le (tgt := 45) hx hb dX5_fineArc_38 (by decide) (fun hc38 => ?_) (fun hc38 => ?_)
      · have hst : ¬ ((2 ^ (P + 64) : Nat) : Int) < ((rg0 x).natAbs : Int) := Int.not_lt.mpr (q3_le.mp hc38)
        refine lv_iconst (v := nI 0) hx hb dX5_fineArc_45 (by decide) ?_
        refine lv_istore (lv' := [(4, .int (nI 0)), (3, .int (q_sg (rg0 x))), (0, .ref (mo 0)), (1, .int (nI t)), (2, .int (nI x))]) hx hb dX5_fineArc_46 hl (by decide) rfl (fun ls hl => ?_)
        refine lv_iload hx hb dX5_fineArc_48 (lv_at hl 0 rfl) ?_
        refine bd_zeq (h1 := by decide) (tgt := 83) hx hb dX5_fineArc_50 (by decide) (fun hc50 => ?_) (fun hc50 => ?_)
        · exact hj83 0 _ E z rg ls _ _ (by decide) (Or.inr ⟨rfl, hst, rfl⟩) (Int.natCast_nonneg _) (Int.not_lt.mp hst) hv f_52 f_26 f_27 hof (lv_sub hl [0, 1, 2, 3] rfl) hw
        · exact absurd hc50 (by decide)
      · have hst : ((2 ^ (P + 64) : Nat) : Int) < ((rg0 x).natAbs : Int) := Int.not_le.mp (fun q => hc38 (q3_le.mpr q))
        refine lv_iconst (v := nI 1) hx hb dX5_fineArc_41 (by decide) ?_
        refine lv_goto (tgt := 46) hx hb dX5_fineArc_42 (by decide) ?_
        refine lv_istore (lv' := [(4, .int (nI 1)), (3, .int (q_sg (rg0 x))), (0, .ref (mo 0)), (1, .int (nI t)), (2, .int (nI x))]) hx hb dX5_fineArc_46 hl (by decide) rfl (fun ls hl => ?_)
        refine lv_iload hx hb dX5_fineArc_48 (lv_at hl 0 rfl) ?_
        refine bd_zeq (h1 := by decide) (tgt := 83) hx hb dX5_fineArc_50 (by decide) (fun hc50 => ?_) (fun hc50 => ?_)
        · exact absurd hc50 (by decide)
        · refine lv_aload_n hx hb dX5_fineArc_53 rfl (lv_at hl 2 rfl) ?_
          refine lv_bipush (v := nI 53) hx hb dX5_fineArc_54 (by decide) ?_
          refine lv_iconst (v := nI 2) hx hb dX5_fineArc_56 (by decide) ?_
          refine lv_aload_n hx hb dX5_fineArc_57 rfl (lv_at hl 2 rfl) ?_
          refine mv_g C i5 hw hv 2 (by decide) (v := .int (nI (P + 64))) rfl dX5_fineArc_58 lk27 ?_
          refine bd_imul (v := (nI (2 * (P + 64)))) hx hb dX5_fineArc_61 (nI_mul _ _) ?_
          refine bd_cv (As := [.int (nI 53), .int (nI (2 * (P + 64)))]) (rest := []) C (v5_power _ _ _ _ _ hv 53 (2 * (P + 64)) (by decide) hP128) (cwV 2 hts gX5_fineArc_X5_power rfl rfl rfl (by decide +kernel) ⟨Nat.le_of_ble_eq_true rfl, Nat.le_of_ble_eq_true rfl⟩) hsz hw (mv_recv C hw hv) dX5_fineArc_62 rfl hl.1 rfl (Nat.le_of_ble_eq_true rfl) ⟨Nat.le_refl _, Nat.le_refl _⟩ (fun E z H locs hp hw => ?_)
          obtain ⟨rg, hv, hv0_, hf9⟩ := hp
          have fT0_ : rg 53 = ((2 ^ (2 * (P + 64)) : Nat) : Int) := hv0_.trans (by rfl)
          have f_52 : rg 52 = ((rg0 x).natAbs : Int) := (hf9 52 (by decide)).trans f_52
          have f_26 : rg 26 = (sp_PI (P + 64)) := (hf9 26 (by decide)).trans f_26
          have f_27 : rg 27 = ((2 ^ (P + 64) : Nat) : Int) := (hf9 27 (by decide)).trans f_27
          have f_53 := fT0_
          have hof : ∀ j, j ≠ t ∧ j ≠ 29 ∧ j ≠ 30 ∧ j ≠ 32 ∧ (j < 35 ∨ 39 < j) ∧ (j < 52 ∨ 54 < j) → rg j = rg0 j := fun j hj => (hf9 j (hq10_11 hj)).trans (hof j hj)
          refine lv_aload_n hx hb dX5_fineArc_65 rfl (lv_at hl 2 rfl) ?_
          refine lv_bipush (v := nI 54) hx hb dX5_fineArc_66 (by decide) ?_
          refine lv_bipush (v := nI 53) hx hb dX5_fineArc_68 (by decide) ?_
          refine lv_bipush (v := nI 52) hx hb dX5_fineArc_70 (by decide) ?_
          have hT8 : 0 ≤ ((2 ^ (2 * (P + 64)) : Nat) : Int) / ((rg0 x).natAbs : Int) ∧ ((2 ^ (2 * (P + 64)) : Nat) : Int) / ((rg0 x).natAbs : Int) ≤ ((2 ^ (P + 64) : Nat) : Int) := arc_flip (Q := (P + 64)) hst
          refine bd_cv (As := [.int (nI 54), .int (nI 53), .int (nI 52)]) (rest := []) C (v5_divide _ _ _ _ _ hv 54 53 52 (by decide) (by decide) (by decide) (by decide) (by decide) (by decide) (by rw [f_52]; exact (Int.lt_trans hDp hst)) (by rw [f_52]; exact (by rw [Int.natAbs_natCast]; exact Nat.le_trans (Nat.mul_le_mul_left 2 hb1) (by decide +kernel)))) (cwV 3 hts gX5_fineArc_X5_divide rfl rfl rfl (by decide +kernel) ⟨Nat.le_of_ble_eq_true rfl, Nat.le_of_ble_eq_true rfl⟩) hsz hw (mv_recv C hw hv) dX5_fineArc_72 rfl hl.1 rfl (Nat.le_of_ble_eq_true rfl) ⟨Nat.le_refl _, Nat.le_refl _⟩ (fun E z H locs hp hw => ?_)
          obtain ⟨rg, hv, hv0_, hf9⟩ := hp
          have fT0_ : rg 54 = (((2 ^ (2 * (P + 64)) : Nat) : Int) / ((rg0 x).natAbs : Int)) := hv0_.trans (by rw [f_53, f_52])
          have f_52 : rg 52 = ((rg0 x).natAbs : Int) := (hf9 52 (by decide) (by decide)).trans f_52
          have f_26 : rg 26 = (sp_PI (P + 64)) := (hf9 26 (by decide) (by decide)).trans f_26
          have f_27 : rg 27 = ((2 ^ (P + 64) : Nat) : Int) := (hf9 27 (by decide) (by decide)).trans f_27
          have f_53 : rg 53 = ((2 ^ (2 * (P + 64)) : Nat) : Int) := (hf9 53 (by decide) (by decide)).trans f_53
          have f_54 := fT0_
          have hof : ∀ j, j ≠ t ∧ j ≠ 29 ∧ j ≠ 30 ∧ j ≠ 32 ∧ (j < 35 ∨ 39 < j) ∧ (j < 52 ∨ 54 < j) → rg j = rg0 j := fun j hj => (hf9 j (hq10_12 hj) (hq10_13 hj)).trans (hof j hj)
          refine lv_aload_n hx hb dX5_fineArc_75 rfl (lv_at hl 2 rfl) ?_
          refine lv_bipush (v := nI 52) hx hb dX5_fineArc_76 (by decide) ?_
          refine lv_bipush (v := nI 54) hx hb dX5_fineArc_78 (by decide) ?_
          refine bd_cv (As := [.int (nI 52), .int (nI 54)]) (rest := []) C (v5_copy _ _ _ _ _ hv 52 54 (by decide) (by decide)) (cwV 2 hts gX5_fineArc_X5_copy rfl rfl rfl (by decide +kernel) ⟨Nat.le_of_ble_eq_true rfl, Nat.le_of_ble_eq_true rfl⟩) hsz hw (mv_recv C hw hv) dX5_fineArc_80 rfl hl.1 rfl (Nat.le_of_ble_eq_true rfl) ⟨Nat.le_refl _, Nat.le_refl _⟩ (fun E z H locs hp hw => ?_)
          obtain ⟨rg, hv, hv0_, hf9⟩ := hp
          have fT0_ : rg 52 = (((2 ^ (2 * (P + 64)) : Nat) : Int) / ((rg0 x).natAbs : Int)) := hv0_.trans (by rw [f_54])
          have f_26 : rg 26 = (sp_PI (P + 64)) := (hf9 26 (by decide)).trans f_26
          have f_27 : rg 27 = ((2 ^ (P + 64) : Nat) : Int) := (hf9 27 (by decide)).trans f_27
          have f_53 : rg 53 = ((2 ^ (2 * (P + 64)) : Nat) : Int) := (hf9 53 (by decide)).trans f_53
          have f_54 : rg 54 = (((2 ^ (2 * (P + 64)) : Nat) : Int) / ((rg0 x).natAbs : Int)) := (hf9 54 (by decide)).trans f_54
          have f_52 := fT0_
          have hof : ∀ j, j ≠ t ∧ j ≠ 29 ∧ j ≠ 30 ∧ j ≠ 32 ∧ (j < 35 ∨ 39 < j) ∧ (j < 52 ∨ 54 < j) → rg j = rg0 j := fun j hj => (hf9 j (hq10_10 hj)).trans (hof j hj)
          exact hj83 1 _ E z rg ls _ _ (by decide) (Or.inl ⟨rfl, hst, rfl⟩) hT8.1 hT8.2 hv f_52 f_26 f_27 hof (lv_sub hl [0, 1, 2, 3] rfl) hw
  clear hw hl ls hv f_x f_26 f_27 hof hf_26 hf_27
  intro sf T E z rg ls H locs hsf hcase hT0 hTD hv f_52 f_26 f_27 hof hl hw
  clear hb1
  refine lv_iconst (v := nI 0) hx hb dX5_fineArc_83 (by decide) ?_
  refine lv_istore (lv' := [(5, .int (nI 0)), (4, .int (nI sf)), (3, .int (q_sg (rg0 x))), (0, .ref (mo 0)), (1, .int (nI t))]) hx hb dX5_fineArc_84 hl (by decide) rfl (fun ls hl => ?_)
  suffices hloop : ∀ (d9 i : Nat) (E : Nat → va_E) (z : Nat → Wh) (rg : Nat → Int) (ls : Array Slot) (H : Heap) (locs : List Loc), i + d9 = 3 → md_v K E mo th P rg → (rg 52 = (hvn (P + 64) T i)) → (rg 26 = (sp_PI (P + 64))) → (rg 27 = ((2 ^ (P + 64) : Nat) : Int)) → (∀ j, j ≠ t ∧ j ≠ 29 ∧ j ≠ 30 ∧ j ≠ 32 ∧ (j < 35 ∨ 39 < j) ∧ (j < 52 ∨ 54 < j) → rg j = rg0 j) → lv_has ls 6 [(5, .int (nI i)), (4, .int (nI sf)), (3, .int (q_sg (rg0 x))), (0, .ref (mo 0)), (1, .int (nI t))] → bd_W K E z (bd_A K sz) s.heap H locs → W p l e (headSpec wsX5_fineArc ({ frames := 7, cells := 0, slots := 0, locals := 240 })).room s m [.ref (mo 0), .int (nI t), .int (nI x)].toArray below meth c H locs 0 0 (MQ below (va_Qv (fun u => ∃ rg : Nat → Int, md_v K u.1 mo th P rg ∧ rg t = sp_AT (P + 64) (rg0 x) ∧ ∀ j, j ≠ t ∧ j ≠ 29 ∧ j ≠ 30 ∧ j ≠ 32 ∧ (j < 35 ∨ 39 < j) ∧ (j < 52 ∨ 54 < j) → rg j = rg0 j) (bd_B K) (bd_A K sz)) [.ref (mo 0), .int (nI t), .int (nI x)].toArray s 0 0 (bd_A K sz)) (F0 m 86 ls []) from hloop 3 0 E z rg ls _ _ (by omega) hv f_52 f_26 f_27  hof (lv_sub hl [0, 1, 2, 3, 4] rfl) hw
  clear hw hl ls hv hof f_52 f_26 f_27 
  intro d9
  induction d9 using Nat.strongRecOn with
  | ind d9 ih =>
    intro i E z rg ls H locs hjd9 hv f_52 f_26 f_27  hof hl hw
    obtain ⟨cc0, hcc⟩ : ∃ y, y = (hvn (P + 64) T i) := ⟨_, rfl⟩
    have hcb := hvn_b (Q := (P + 64)) hT0 i
    rw [← hcc] at f_52 hcb
    obtain ⟨hy0, hy1, hy2, hy3, hy4, hy5, hy6, hy7⟩ := hv_all (P := P) hP2 hcb.1 (Int.le_trans hcb.2.1 hTD)
    refine lv_iload hx hb dX5_fineArc_86 (lv_at hl 0 rfl) ?_
    refine lv_iconst (v := nI 3) hx hb dX5_fineArc_88 (by decide) ?_
    refine bd_ige (h1 := (by omega)) (h2 := (by omega)) (tgt := 170) hx hb dX5_fineArc_89 (by decide) (fun hc89 => ?_) (fun hc89 => ?_)
    · have hi3 : i = 3 := by omega
      rw [hi3] at hcc
      have hc2 := hcb.2.2 (by omega)
      have hc2D : 2 * (cc0.natAbs : Int) ≤ ((2 ^ (P + 64) : Nat) : Int) := by rw [Int.natAbs_of_nonneg hcb.1]; exact Int.le_trans hc2 hTD
      have hRb := sp_RWb (al := 1) hDp hc2D
      have hR3 : (sp_RW 1 ((2 ^ (P + 64) : Nat) : Int) cc0).natAbs ≤ 2 ^ 256 := lg_hb hRb hc2D (by rw [Int.natAbs_natCast]; exact hp256)
      change hid _ at hRb hR3 hc2D
      refine lv_aload_n hx hb dX5_fineArc_170 rfl (lv_at hl 3 rfl) ?_
      refine lv_bipush (v := nI 52) hx hb dX5_fineArc_171 (by decide) ?_
      refine lv_bipush (v := nI 52) hx hb dX5_fineArc_173 (by decide) ?_
      refine lv_iconst (v := nI 1) hx hb dX5_fineArc_175 (by decide) ?_
      refine bd_cv (As := [.int (nI 52), .int (nI 52), .int (nI 1)]) (rest := []) C (v5_row _ _ _ _ _ hv 52 52 1 (by decide) (by decide) (Or.inr rfl) (by rw [f_52]; exact hc2D)) (cwV 3 hts gX5_fineArc_X5_row rfl rfl rfl (by decide +kernel) ⟨Nat.le_of_ble_eq_true rfl, Nat.le_of_ble_eq_true rfl⟩) hsz hw (mv_recv C hw hv) dX5_fineArc_176 rfl hl.1 rfl (Nat.le_of_ble_eq_true rfl) ⟨Nat.le_refl _, Nat.le_refl _⟩ (fun E z H locs hp hw => ?_)
      obtain ⟨rg, hv, hv0_, hf9⟩ := hp
      have fT0_ : rg 52 = (sp_RW 1 ((2 ^ (P + 64) : Nat) : Int) cc0) := hv0_.trans (by rw [f_52])
      have f_26 : rg 26 = (sp_PI (P + 64)) := (hf9 26 (by decide)).trans f_26
      have f_27 : rg 27 = ((2 ^ (P + 64) : Nat) : Int) := (hf9 27 (by decide)).trans f_27
      have f_52 := fT0_
      have hof : ∀ j, j ≠ t ∧ j ≠ 29 ∧ j ≠ 30 ∧ j ≠ 32 ∧ (j < 35 ∨ 39 < j) ∧ (j < 52 ∨ 54 < j) → rg j = rg0 j := fun j hj => (hf9 j (hq10_14 hj)).trans (hof j hj)
      refine lv_aload_n hx hb dX5_fineArc_179 rfl (lv_at hl 3 rfl) ?_
      refine lv_bipush (v := nI 52) hx hb dX5_fineArc_180 (by decide) ?_
      refine lv_bipush (v := nI 52) hx hb dX5_fineArc_182 (by decide) ?_
      refine lv_iconst (v := nI 3) hx hb dX5_fineArc_184 (by decide) ?_
      refine bd_cv (As := [.int (nI 52), .int (nI 52), .int (nI 3)]) (rest := []) C (v5_up _ _ _ _ _ hv 52 52 3 (by decide) (by decide) (by decide) (by rw [f_52]; exact (b34 (Nat.le_trans (Nat.mul_le_mul_right _ hR3) (by decide +kernel))))) (cwV 3 hts gX5_fineArc_X5_up rfl rfl rfl (by decide +kernel) ⟨Nat.le_of_ble_eq_true rfl, Nat.le_of_ble_eq_true rfl⟩) hsz hw (mv_recv C hw hv) dX5_fineArc_185 rfl hl.1 rfl (Nat.le_of_ble_eq_true rfl) ⟨Nat.le_refl _, Nat.le_refl _⟩ (fun E z H locs hp hw => ?_)
      obtain ⟨rg, hv, hv0_, hf9⟩ := hp
      have fT0_ : rg 52 = ((sp_RW 1 ((2 ^ (P + 64) : Nat) : Int) cc0) * ((2 ^ 3 : Nat) : Int)) := hv0_.trans (by rw [f_52])
      have f_26 : rg 26 = (sp_PI (P + 64)) := (hf9 26 (by decide)).trans f_26
      have f_27 : rg 27 = ((2 ^ (P + 64) : Nat) : Int) := (hf9 27 (by decide)).trans f_27
      have f_52 := fT0_
      have hof : ∀ j, j ≠ t ∧ j ≠ 29 ∧ j ≠ 30 ∧ j ≠ 32 ∧ (j < 35 ∨ 39 < j) ∧ (j < 52 ∨ 54 < j) → rg j = rg0 j := fun j hj => (hf9 j (hq10_10 hj)).trans (hof j hj)
      refine lv_iload hx hb dX5_fineArc_188 (lv_at hl 1 rfl) ?_
      refine bd_zeq (h1 := (by omega)) (tgt := 212) hx hb dX5_fineArc_190 (by decide) (fun hc190 => ?_) (fun hc190 => ?_)
      · refine lv_aload_n hx hb dX5_fineArc_212 rfl (lv_at hl 3 rfl) ?_
        refine mv_g C i5 hw hv 4 (by decide) (v := .ref (mo 2)) rfl dX5_fineArc_213 lk13 ?_
        refine lv_bipush (v := nI 52) hx hb dX5_fineArc_216 (by decide) ?_
        refine lv_iload_n hx hb dX5_fineArc_218 rfl (lv_at hl 2 rfl) ?_
        refine lv_if_ge (tgt := 233) hx hb dX5_fineArc_219 (by decide) (fun hc219 => ?_) (fun hc219 => ?_)
        · have hsn : ¬ rg0 x < 0 := Int.not_lt.mpr (sg_ge hc219)
          refine lv_aload_n hx hb dX5_fineArc_233 rfl (lv_at hl 3 rfl) ?_
          refine mv_g C i5 hw hv 4 (by decide) (v := .ref (mo 2)) rfl dX5_fineArc_234 lk13 ?_
          refine lv_bipush (v := nI 52) hx hb dX5_fineArc_237 (by decide) ?_
          refine mv_ld2 C hw hv (r := 52) dX5_fineArc_239 (by omega) ?_
          rw [f_52]
          refine mv_st2 C hw hv (r := 52) (((sp_RW 1 ((2 ^ (P + 64) : Nat) : Int) cc0) * ((2 ^ 3 : Nat) : Int))) (by rw [f_52]) (rfl) dX5_fineArc_240 (by omega) (fun E rg H locs hv hv0_ hf9 hw => ?_)
          have fT0_ : rg 52 = ((sp_RW 1 ((2 ^ (P + 64) : Nat) : Int) cc0) * ((2 ^ 3 : Nat) : Int)) := hv0_.trans (by rfl)
          have f_26 : rg 26 = (sp_PI (P + 64)) := (hf9 26 (by decide)).trans f_26
          have f_27 : rg 27 = ((2 ^ (P + 64) : Nat) : Int) := (hf9 27 (by decide)).trans f_27
          have f_52 := fT0_
          have hof : ∀ j, j ≠ t ∧ j ≠ 29 ∧ j ≠ 30 ∧ j ≠ 32 ∧ (j < 35 ∨ 39 < j) ∧ (j < 52 ∨ 54 < j) → rg j = rg0 j := fun j hj => (hf9 j (hq10_10 hj)).trans (hof j hj)
          refine lv_aload_n hx hb dX5_fineArc_241 rfl (lv_at hl 3 rfl) ?_
          refine lv_iload_n hx hb dX5_fineArc_242 rfl (lv_at hl 4 rfl) ?_
          refine lv_bipush (v := nI 52) hx hb dX5_fineArc_243 (by decide) ?_
          refine bd_cv (As := [.int (nI t), .int (nI 52)]) (rest := []) C (v5_copy _ _ _ _ _ hv t 52 (by omega) (by decide)) (cwV 2 hts gX5_fineArc_X5_copy rfl rfl rfl (by decide +kernel) ⟨Nat.le_of_ble_eq_true rfl, Nat.le_of_ble_eq_true rfl⟩) hsz hw (mv_recv C hw hv) dX5_fineArc_245 rfl hl.1 rfl (Nat.le_of_ble_eq_true rfl) ⟨Nat.le_refl _, Nat.le_refl _⟩ (fun E z H locs hp hw => ?_)
          obtain ⟨rg, hv, hv0_, hf9⟩ := hp
          have fT0_ : rg t = ((sp_RW 1 ((2 ^ (P + 64) : Nat) : Int) cc0) * ((2 ^ 3 : Nat) : Int)) := hv0_.trans (by rw [f_52])
          have f_52 : rg 52 = ((sp_RW 1 ((2 ^ (P + 64) : Nat) : Int) cc0) * ((2 ^ 3 : Nat) : Int)) := (hf9 52 (by omega)).trans f_52
          have f_t := fT0_
          have hof : ∀ j, j ≠ t ∧ j ≠ 29 ∧ j ≠ 30 ∧ j ≠ 32 ∧ (j < 35 ∨ 39 < j) ∧ (j < 52 ∨ 54 < j) → rg j = rg0 j := fun j hj => (hf9 j (hq10_15 hj)).trans (hof j hj)
          have hca : (¬ ((2 ^ (P + 64) : Nat) : Int) < ((rg0 x).natAbs : Int)) ∧ T = ((rg0 x).natAbs : Int) := hcase.elim (fun q => absurd q.1 (by omega)) (fun q => q.2)
          exact bd_vret C hr hlk hw dX5_fineArc_248 ⟨rg, hv, (by rw [sp_AT, if_neg hsn, sp_AP, if_neg hca.1, f_t, hcc, ← hca.2]; rfl), hof⟩
        · have hsn : rg0 x < 0 := sg_nge hc219
          refine lv_aload_n hx hb dX5_fineArc_222 rfl (lv_at hl 3 rfl) ?_
          refine mv_g C i5 hw hv 4 (by decide) (v := .ref (mo 2)) rfl dX5_fineArc_223 lk13 ?_
          refine lv_bipush (v := nI 52) hx hb dX5_fineArc_226 (by decide) ?_
          refine mv_ld2 C hw hv (r := 52) dX5_fineArc_228 (by omega) ?_
          rw [f_52]
          refine bd_ineg (v := -(q_sg ((sp_RW 1 ((2 ^ (P + 64) : Nat) : Int) cc0) * ((2 ^ 3 : Nat) : Int)))) hx hb dX5_fineArc_229 rfl ?_
          refine lv_goto (tgt := 240) hx hb dX5_fineArc_230 (by decide) ?_
          refine mv_st2 C hw hv (r := 52) (-((sp_RW 1 ((2 ^ (P + 64) : Nat) : Int) cc0) * ((2 ^ 3 : Nat) : Int))) (by rw [f_52, Int.natAbs_neg]) (sg_neg _) dX5_fineArc_240 (by omega) (fun E rg H locs hv hv0_ hf9 hw => ?_)
          have fT0_ : rg 52 = -((sp_RW 1 ((2 ^ (P + 64) : Nat) : Int) cc0) * ((2 ^ 3 : Nat) : Int)) := hv0_.trans (by rfl)
          have f_26 : rg 26 = (sp_PI (P + 64)) := (hf9 26 (by decide)).trans f_26
          have f_27 : rg 27 = ((2 ^ (P + 64) : Nat) : Int) := (hf9 27 (by decide)).trans f_27
          have f_52 := fT0_
          have hof : ∀ j, j ≠ t ∧ j ≠ 29 ∧ j ≠ 30 ∧ j ≠ 32 ∧ (j < 35 ∨ 39 < j) ∧ (j < 52 ∨ 54 < j) → rg j = rg0 j := fun j hj => (hf9 j (hq10_10 hj)).trans (hof j hj)
          refine lv_aload_n hx hb dX5_fineArc_241 rfl (lv_at hl 3 rfl) ?_
          refine lv_iload_n hx hb dX5_fineArc_242 rfl (lv_at hl 4 rfl) ?_
          refine lv_bipush (v := nI 52) hx hb dX5_fineArc_243 (by decide) ?_
          refine bd_cv (As := [.int (nI t), .int (nI 52)]) (rest := []) C (v5_copy _ _ _ _ _ hv t 52 (by omega) (by decide)) (cwV 2 hts gX5_fineArc_X5_copy rfl rfl rfl (by decide +kernel) ⟨Nat.le_of_ble_eq_true rfl, Nat.le_of_ble_eq_true rfl⟩) hsz hw (mv_recv C hw hv) dX5_fineArc_245 rfl hl.1 rfl (Nat.le_of_ble_eq_true rfl) ⟨Nat.le_refl _, Nat.le_refl _⟩ (fun E z H locs hp hw => ?_)
          obtain ⟨rg, hv, hv0_, hf9⟩ := hp
          have fT0_ : rg t = -((sp_RW 1 ((2 ^ (P + 64) : Nat) : Int) cc0) * ((2 ^ 3 : Nat) : Int)) := hv0_.trans (by rw [f_52])
          have f_52 : rg 52 = -((sp_RW 1 ((2 ^ (P + 64) : Nat) : Int) cc0) * ((2 ^ 3 : Nat) : Int)) := (hf9 52 (by omega)).trans f_52
          have f_t := fT0_
          have hof : ∀ j, j ≠ t ∧ j ≠ 29 ∧ j ≠ 30 ∧ j ≠ 32 ∧ (j < 35 ∨ 39 < j) ∧ (j < 52 ∨ 54 < j) → rg j = rg0 j := fun j hj => (hf9 j (hq10_15 hj)).trans (hof j hj)
          have hca : (¬ ((2 ^ (P + 64) : Nat) : Int) < ((rg0 x).natAbs : Int)) ∧ T = ((rg0 x).natAbs : Int) := hcase.elim (fun q => absurd q.1 (by omega)) (fun q => q.2)
          exact bd_vret C hr hlk hw dX5_fineArc_248 ⟨rg, hv, (by rw [sp_AT, if_pos hsn, sp_AP, if_neg hca.1, f_t, hcc, ← hca.2]; rfl), hof⟩
      · refine lv_aload_n hx hb dX5_fineArc_193 rfl (lv_at hl 3 rfl) ?_
        refine lv_bipush (v := nI 53) hx hb dX5_fineArc_194 (by decide) ?_
        refine lv_bipush (v := nI 26) hx hb dX5_fineArc_196 (by decide) ?_
        refine lv_iconst (v := nI 1) hx hb dX5_fineArc_198 (by decide) ?_
        refine bd_cv (As := [.int (nI 53), .int (nI 26), .int (nI 1)]) (rest := []) C (v5_down _ _ _ _ _ hv 53 26 1 (by decide) (by decide) (by decide) (by decide)) (cwV 3 hts gX5_fineArc_X5_down rfl rfl rfl (by decide +kernel) ⟨Nat.le_of_ble_eq_true rfl, Nat.le_of_ble_eq_true rfl⟩) hsz hw (mv_recv C hw hv) dX5_fineArc_199 rfl hl.1 rfl (Nat.le_of_ble_eq_true rfl) ⟨Nat.le_refl _, Nat.le_refl _⟩ (fun E z H locs hp hw => ?_)
        obtain ⟨rg, hv, hv0_, hf9⟩ := hp
        have fT0_ : rg 53 = (sp_PI (P + 64) / ((2 ^ 1 : Nat) : Int)) := hv0_.trans (by rw [f_26])
        have f_26 : rg 26 = (sp_PI (P + 64)) := (hf9 26 (by decide) (by decide)).trans f_26
        have f_27 : rg 27 = ((2 ^ (P + 64) : Nat) : Int) := (hf9 27 (by decide) (by decide)).trans f_27
        have f_52 : rg 52 = ((sp_RW 1 ((2 ^ (P + 64) : Nat) : Int) cc0) * ((2 ^ 3 : Nat) : Int)) := (hf9 52 (by decide) (by decide)).trans f_52
        have f_53 := fT0_
        have hof : ∀ j, j ≠ t ∧ j ≠ 29 ∧ j ≠ 30 ∧ j ≠ 32 ∧ (j < 35 ∨ 39 < j) ∧ (j < 52 ∨ 54 < j) → rg j = rg0 j := fun j hj => (hf9 j (hq10_11 hj) (hq10_13 hj)).trans (hof j hj)
        refine lv_aload_n hx hb dX5_fineArc_202 rfl (lv_at hl 3 rfl) ?_
        refine lv_bipush (v := nI 52) hx hb dX5_fineArc_203 (by decide) ?_
        refine lv_bipush (v := nI 53) hx hb dX5_fineArc_205 (by decide) ?_
        refine lv_bipush (v := nI 52) hx hb dX5_fineArc_207 (by decide) ?_
        refine bd_cv (As := [.int (nI 52), .int (nI 53), .int (nI 52)]) (rest := []) C (v5_minus _ _ _ _ _ hv 52 53 52 (by decide) (by decide) (by decide) (by rw [f_53, f_52]; exact (b34 (Nat.le_trans (sub_b hPIb (Nat.le_trans (mul_b hR3 (Nat.le_of_eq (Int.natAbs_natCast _))) (show 2 ^ 256 * 2 ^ 3 ≤ 2 ^ 260 by decide +kernel))) (by decide +kernel))))) (cwV 3 hts gX5_fineArc_X5_minus rfl rfl rfl (by decide +kernel) ⟨Nat.le_of_ble_eq_true rfl, Nat.le_of_ble_eq_true rfl⟩) hsz hw (mv_recv C hw hv) dX5_fineArc_209 rfl hl.1 rfl (Nat.le_of_ble_eq_true rfl) ⟨Nat.le_refl _, Nat.le_refl _⟩ (fun E z H locs hp hw => ?_)
        obtain ⟨rg, hv, hv0_, hf9⟩ := hp
        have fT0_ : rg 52 = ((sp_PI (P + 64) / ((2 ^ 1 : Nat) : Int)) - ((sp_RW 1 ((2 ^ (P + 64) : Nat) : Int) cc0) * ((2 ^ 3 : Nat) : Int))) := hv0_.trans (by rw [f_53, f_52])
        have f_26 : rg 26 = (sp_PI (P + 64)) := (hf9 26 (by decide)).trans f_26
        have f_27 : rg 27 = ((2 ^ (P + 64) : Nat) : Int) := (hf9 27 (by decide)).trans f_27
        have f_53 : rg 53 = (sp_PI (P + 64) / ((2 ^ 1 : Nat) : Int)) := (hf9 53 (by decide)).trans f_53
        have f_52 := fT0_
        have hof : ∀ j, j ≠ t ∧ j ≠ 29 ∧ j ≠ 30 ∧ j ≠ 32 ∧ (j < 35 ∨ 39 < j) ∧ (j < 52 ∨ 54 < j) → rg j = rg0 j := fun j hj => (hf9 j (hq10_10 hj)).trans (hof j hj)
        refine lv_aload_n hx hb dX5_fineArc_212 rfl (lv_at hl 3 rfl) ?_
        refine mv_g C i5 hw hv 4 (by decide) (v := .ref (mo 2)) rfl dX5_fineArc_213 lk13 ?_
        refine lv_bipush (v := nI 52) hx hb dX5_fineArc_216 (by decide) ?_
        refine lv_iload_n hx hb dX5_fineArc_218 rfl (lv_at hl 2 rfl) ?_
        refine lv_if_ge (tgt := 233) hx hb dX5_fineArc_219 (by decide) (fun hc219 => ?_) (fun hc219 => ?_)
        · have hsn : ¬ rg0 x < 0 := Int.not_lt.mpr (sg_ge hc219)
          refine lv_aload_n hx hb dX5_fineArc_233 rfl (lv_at hl 3 rfl) ?_
          refine mv_g C i5 hw hv 4 (by decide) (v := .ref (mo 2)) rfl dX5_fineArc_234 lk13 ?_
          refine lv_bipush (v := nI 52) hx hb dX5_fineArc_237 (by decide) ?_
          refine mv_ld2 C hw hv (r := 52) dX5_fineArc_239 (by omega) ?_
          rw [f_52]
          refine mv_st2 C hw hv (r := 52) (((sp_PI (P + 64) / ((2 ^ 1 : Nat) : Int)) - ((sp_RW 1 ((2 ^ (P + 64) : Nat) : Int) cc0) * ((2 ^ 3 : Nat) : Int)))) (by rw [f_52]) (rfl) dX5_fineArc_240 (by omega) (fun E rg H locs hv hv0_ hf9 hw => ?_)
          have fT0_ : rg 52 = ((sp_PI (P + 64) / ((2 ^ 1 : Nat) : Int)) - ((sp_RW 1 ((2 ^ (P + 64) : Nat) : Int) cc0) * ((2 ^ 3 : Nat) : Int))) := hv0_.trans (by rfl)
          have f_26 : rg 26 = (sp_PI (P + 64)) := (hf9 26 (by decide)).trans f_26
          have f_27 : rg 27 = ((2 ^ (P + 64) : Nat) : Int) := (hf9 27 (by decide)).trans f_27
          have f_53 : rg 53 = (sp_PI (P + 64) / ((2 ^ 1 : Nat) : Int)) := (hf9 53 (by decide)).trans f_53
          have f_52 := fT0_
          have hof : ∀ j, j ≠ t ∧ j ≠ 29 ∧ j ≠ 30 ∧ j ≠ 32 ∧ (j < 35 ∨ 39 < j) ∧ (j < 52 ∨ 54 < j) → rg j = rg0 j := fun j hj => (hf9 j (hq10_10 hj)).trans (hof j hj)
          refine lv_aload_n hx hb dX5_fineArc_241 rfl (lv_at hl 3 rfl) ?_
          refine lv_iload_n hx hb dX5_fineArc_242 rfl (lv_at hl 4 rfl) ?_
          refine lv_bipush (v := nI 52) hx hb dX5_fineArc_243 (by decide) ?_
          refine bd_cv (As := [.int (nI t), .int (nI 52)]) (rest := []) C (v5_copy _ _ _ _ _ hv t 52 (by omega) (by decide)) (cwV 2 hts gX5_fineArc_X5_copy rfl rfl rfl (by decide +kernel) ⟨Nat.le_of_ble_eq_true rfl, Nat.le_of_ble_eq_true rfl⟩) hsz hw (mv_recv C hw hv) dX5_fineArc_245 rfl hl.1 rfl (Nat.le_of_ble_eq_true rfl) ⟨Nat.le_refl _, Nat.le_refl _⟩ (fun E z H locs hp hw => ?_)
          obtain ⟨rg, hv, hv0_, hf9⟩ := hp
          have fT0_ : rg t = ((sp_PI (P + 64) / ((2 ^ 1 : Nat) : Int)) - ((sp_RW 1 ((2 ^ (P + 64) : Nat) : Int) cc0) * ((2 ^ 3 : Nat) : Int))) := hv0_.trans (by rw [f_52])
          have f_52 : rg 52 = ((sp_PI (P + 64) / ((2 ^ 1 : Nat) : Int)) - ((sp_RW 1 ((2 ^ (P + 64) : Nat) : Int) cc0) * ((2 ^ 3 : Nat) : Int))) := (hf9 52 (by omega)).trans f_52
          have f_t := fT0_
          have hof : ∀ j, j ≠ t ∧ j ≠ 29 ∧ j ≠ 30 ∧ j ≠ 32 ∧ (j < 35 ∨ 39 < j) ∧ (j < 52 ∨ 54 < j) → rg j = rg0 j := fun j hj => (hf9 j (hq10_15 hj)).trans (hof j hj)
          have hca : ((2 ^ (P + 64) : Nat) : Int) < ((rg0 x).natAbs : Int) ∧ T = ((2 ^ (2 * (P + 64)) : Nat) : Int) / ((rg0 x).natAbs : Int) := hcase.elim (fun q => q.2) (fun q => absurd q.1 (by omega))
          exact bd_vret C hr hlk hw dX5_fineArc_248 ⟨rg, hv, (by rw [sp_AT, if_neg hsn, sp_AP, if_pos hca.1, f_t, hcc, ← hca.2]; rfl), hof⟩
        · have hsn : rg0 x < 0 := sg_nge hc219
          refine lv_aload_n hx hb dX5_fineArc_222 rfl (lv_at hl 3 rfl) ?_
          refine mv_g C i5 hw hv 4 (by decide) (v := .ref (mo 2)) rfl dX5_fineArc_223 lk13 ?_
          refine lv_bipush (v := nI 52) hx hb dX5_fineArc_226 (by decide) ?_
          refine mv_ld2 C hw hv (r := 52) dX5_fineArc_228 (by omega) ?_
          rw [f_52]
          refine bd_ineg (v := -(q_sg ((sp_PI (P + 64) / ((2 ^ 1 : Nat) : Int)) - ((sp_RW 1 ((2 ^ (P + 64) : Nat) : Int) cc0) * ((2 ^ 3 : Nat) : Int))))) hx hb dX5_fineArc_229 rfl ?_
          refine lv_goto (tgt := 240) hx hb dX5_fineArc_230 (by decide) ?_
          refine mv_st2 C hw hv (r := 52) (-((sp_PI (P + 64) / ((2 ^ 1 : Nat) : Int)) - ((sp_RW 1 ((2 ^ (P + 64) : Nat) : Int) cc0) * ((2 ^ 3 : Nat) : Int)))) (by rw [f_52, Int.natAbs_neg]) (sg_neg _) dX5_fineArc_240 (by omega) (fun E rg H locs hv hv0_ hf9 hw => ?_)
          have fT0_ : rg 52 = -((sp_PI (P + 64) / ((2 ^ 1 : Nat) : Int)) - ((sp_RW 1 ((2 ^ (P + 64) : Nat) : Int) cc0) * ((2 ^ 3 : Nat) : Int))) := hv0_.trans (by rfl)
          have f_26 : rg 26 = (sp_PI (P + 64)) := (hf9 26 (by decide)).trans f_26
          have f_27 : rg 27 = ((2 ^ (P + 64) : Nat) : Int) := (hf9 27 (by decide)).trans f_27
          have f_53 : rg 53 = (sp_PI (P + 64) / ((2 ^ 1 : Nat) : Int)) := (hf9 53 (by decide)).trans f_53
          have f_52 := fT0_
          have hof : ∀ j, j ≠ t ∧ j ≠ 29 ∧ j ≠ 30 ∧ j ≠ 32 ∧ (j < 35 ∨ 39 < j) ∧ (j < 52 ∨ 54 < j) → rg j = rg0 j := fun j hj => (hf9 j (hq10_10 hj)).trans (hof j hj)
          refine lv_aload_n hx hb dX5_fineArc_241 rfl (lv_at hl 3 rfl) ?_
          refine lv_iload_n hx hb dX5_fineArc_242 rfl (lv_at hl 4 rfl) ?_
          refine lv_bipush (v := nI 52) hx hb dX5_fineArc_243 (by decide) ?_
          refine bd_cv (As := [.int (nI t), .int (nI 52)]) (rest := []) C (v5_copy _ _ _ _ _ hv t 52 (by omega) (by decide)) (cwV 2 hts gX5_fineArc_X5_copy rfl rfl rfl (by decide +kernel) ⟨Nat.le_of_ble_eq_true rfl, Nat.le_of_ble_eq_true rfl⟩) hsz hw (mv_recv C hw hv) dX5_fineArc_245 rfl hl.1 rfl (Nat.le_of_ble_eq_true rfl) ⟨Nat.le_refl _, Nat.le_refl _⟩ (fun E z H locs hp hw => ?_)
          obtain ⟨rg, hv, hv0_, hf9⟩ := hp
          have fT0_ : rg t = -((sp_PI (P + 64) / ((2 ^ 1 : Nat) : Int)) - ((sp_RW 1 ((2 ^ (P + 64) : Nat) : Int) cc0) * ((2 ^ 3 : Nat) : Int))) := hv0_.trans (by rw [f_52])
          have f_52 : rg 52 = -((sp_PI (P + 64) / ((2 ^ 1 : Nat) : Int)) - ((sp_RW 1 ((2 ^ (P + 64) : Nat) : Int) cc0) * ((2 ^ 3 : Nat) : Int))) := (hf9 52 (by omega)).trans f_52
          have f_t := fT0_
          have hof : ∀ j, j ≠ t ∧ j ≠ 29 ∧ j ≠ 30 ∧ j ≠ 32 ∧ (j < 35 ∨ 39 < j) ∧ (j < 52 ∨ 54 < j) → rg j = rg0 j := fun j hj => (hf9 j (hq10_15 hj)).trans (hof j hj)
          have hca : ((2 ^ (P + 64) : Nat) : Int) < ((rg0 x).natAbs : Int) ∧ T = ((2 ^ (2 * (P + 64)) : Nat) : Int) / ((rg0 x).natAbs : Int) := hcase.elim (fun q => q.2) (fun q => absurd q.1 (by omega))
          exact bd_vret C hr hlk hw dX5_fineArc_248 ⟨rg, hv, (by rw [sp_AT, if_pos hsn, sp_AP, if_pos hca.1, f_t, hcc, ← hca.2]; rfl), hof⟩
    · refine lv_aload_n hx hb dX5_fineArc_92 rfl (lv_at hl 3 rfl) ?_
      refine lv_bipush (v := nI 53) hx hb dX5_fineArc_93 (by decide) ?_
      refine lv_bipush (v := nI 52) hx hb dX5_fineArc_95 (by decide) ?_
      refine lv_bipush (v := nI 52) hx hb dX5_fineArc_97 (by decide) ?_
      refine bd_cv (As := [.int (nI 53), .int (nI 52), .int (nI 52)]) (rest := []) C (v5_product _ _ _ _ _ hv 53 52 52 (by decide) (by decide) (by decide) (by rw [f_52]; exact (b34 (Nat.le_trans hy2 (by decide +kernel))))) (cwV 3 hts gX5_fineArc_X5_product rfl rfl rfl (by decide +kernel) ⟨Nat.le_of_ble_eq_true rfl, Nat.le_of_ble_eq_true rfl⟩) hsz hw (mv_recv C hw hv) dX5_fineArc_99 rfl hl.1 rfl (Nat.le_of_ble_eq_true rfl) ⟨Nat.le_refl _, Nat.le_refl _⟩ (fun E z H locs hp hw => ?_)
      obtain ⟨rg, hv, hv0_, hf9⟩ := hp
      have fT0_ : rg 53 = (cc0 * cc0) := hv0_.trans (by rw [f_52])
      have f_52 : rg 52 = cc0 := (hf9 52 (by decide)).trans f_52
      have f_26 : rg 26 = (sp_PI (P + 64)) := (hf9 26 (by decide)).trans f_26
      have f_27 : rg 27 = ((2 ^ (P + 64) : Nat) : Int) := (hf9 27 (by decide)).trans f_27
      have f_53 := fT0_
      have hof : ∀ j, j ≠ t ∧ j ≠ 29 ∧ j ≠ 30 ∧ j ≠ 32 ∧ (j < 35 ∨ 39 < j) ∧ (j < 52 ∨ 54 < j) → rg j = rg0 j := fun j hj => (hf9 j (hq10_11 hj)).trans (hof j hj)
      refine lv_aload_n hx hb dX5_fineArc_102 rfl (lv_at hl 3 rfl) ?_
      refine lv_bipush (v := nI 54) hx hb dX5_fineArc_103 (by decide) ?_
      refine lv_iconst (v := nI 2) hx hb dX5_fineArc_105 (by decide) ?_
      refine lv_aload_n hx hb dX5_fineArc_106 rfl (lv_at hl 3 rfl) ?_
      refine mv_g C i5 hw hv 2 (by decide) (v := .int (nI (P + 64))) rfl dX5_fineArc_107 lk27 ?_
      refine bd_imul (v := (nI (2 * (P + 64)))) hx hb dX5_fineArc_110 (nI_mul _ _) ?_
      refine bd_cv (As := [.int (nI 54), .int (nI (2 * (P + 64)))]) (rest := []) C (v5_power _ _ _ _ _ hv 54 (2 * (P + 64)) (by decide) hP128) (cwV 2 hts gX5_fineArc_X5_power rfl rfl rfl (by decide +kernel) ⟨Nat.le_of_ble_eq_true rfl, Nat.le_of_ble_eq_true rfl⟩) hsz hw (mv_recv C hw hv) dX5_fineArc_111 rfl hl.1 rfl (Nat.le_of_ble_eq_true rfl) ⟨Nat.le_refl _, Nat.le_refl _⟩ (fun E z H locs hp hw => ?_)
      obtain ⟨rg, hv, hv0_, hf9⟩ := hp
      have fT0_ : rg 54 = ((2 ^ (2 * (P + 64)) : Nat) : Int) := hv0_.trans (by rfl)
      have f_52 : rg 52 = cc0 := (hf9 52 (by decide)).trans f_52
      have f_26 : rg 26 = (sp_PI (P + 64)) := (hf9 26 (by decide)).trans f_26
      have f_27 : rg 27 = ((2 ^ (P + 64) : Nat) : Int) := (hf9 27 (by decide)).trans f_27
      have f_53 : rg 53 = (cc0 * cc0) := (hf9 53 (by decide)).trans f_53
      have f_54 := fT0_
      have hof : ∀ j, j ≠ t ∧ j ≠ 29 ∧ j ≠ 30 ∧ j ≠ 32 ∧ (j < 35 ∨ 39 < j) ∧ (j < 52 ∨ 54 < j) → rg j = rg0 j := fun j hj => (hf9 j (hq10_12 hj)).trans (hof j hj)
      refine lv_aload_n hx hb dX5_fineArc_114 rfl (lv_at hl 3 rfl) ?_
      refine lv_bipush (v := nI 53) hx hb dX5_fineArc_115 (by decide) ?_
      refine lv_bipush (v := nI 53) hx hb dX5_fineArc_117 (by decide) ?_
      refine lv_bipush (v := nI 54) hx hb dX5_fineArc_119 (by decide) ?_
      refine bd_cv (As := [.int (nI 53), .int (nI 53), .int (nI 54)]) (rest := []) C (v5_plus _ _ _ _ _ hv 53 53 54 (by decide) (by decide) (by decide) (by rw [f_53, f_54]; exact (b34 (Nat.le_trans hy4 (by decide +kernel))))) (cwV 3 hts gX5_fineArc_X5_plus rfl rfl rfl (by decide +kernel) ⟨Nat.le_of_ble_eq_true rfl, Nat.le_of_ble_eq_true rfl⟩) hsz hw (mv_recv C hw hv) dX5_fineArc_121 rfl hl.1 rfl (Nat.le_of_ble_eq_true rfl) ⟨Nat.le_refl _, Nat.le_refl _⟩ (fun E z H locs hp hw => ?_)
      obtain ⟨rg, hv, hv0_, hf9⟩ := hp
      have fT0_ : rg 53 = (cc0 * cc0 + ((2 ^ (2 * (P + 64)) : Nat) : Int)) := hv0_.trans (by rw [f_53, f_54])
      have f_52 : rg 52 = cc0 := (hf9 52 (by decide)).trans f_52
      have f_26 : rg 26 = (sp_PI (P + 64)) := (hf9 26 (by decide)).trans f_26
      have f_27 : rg 27 = ((2 ^ (P + 64) : Nat) : Int) := (hf9 27 (by decide)).trans f_27
      have f_54 : rg 54 = ((2 ^ (2 * (P + 64)) : Nat) : Int) := (hf9 54 (by decide)).trans f_54
      have f_53 := fT0_
      have hof : ∀ j, j ≠ t ∧ j ≠ 29 ∧ j ≠ 30 ∧ j ≠ 32 ∧ (j < 35 ∨ 39 < j) ∧ (j < 52 ∨ 54 < j) → rg j = rg0 j := fun j hj => (hf9 j (hq10_11 hj)).trans (hof j hj)
      refine lv_aload_n hx hb dX5_fineArc_124 rfl (lv_at hl 3 rfl) ?_
      refine lv_bipush (v := nI 54) hx hb dX5_fineArc_125 (by decide) ?_
      refine lv_bipush (v := nI 53) hx hb dX5_fineArc_127 (by decide) ?_
      refine bd_cv (As := [.int (nI 54), .int (nI 53)]) (rest := []) C (v5_squareRoot _ _ _ _ _ hv 54 53 (by decide) (by decide) (by decide) (by rw [f_53]; exact hy3) (by rw [f_53]; exact Nat.le_trans hy4 (by decide +kernel))) (cwV 2 hts gX5_fineArc_X5_squareRoot rfl rfl rfl (by decide +kernel) ⟨Nat.le_of_ble_eq_true rfl, Nat.le_of_ble_eq_true rfl⟩) hsz hw (mv_recv C hw hv) dX5_fineArc_129 rfl hl.1 rfl (Nat.le_of_ble_eq_true rfl) ⟨Nat.le_refl _, Nat.le_refl _⟩ (fun E z H locs hp hw => ?_)
      obtain ⟨rg, hv, hv0_, hf9⟩ := hp
      have fT0_ : rg 54 = (sp_ROOT (cc0 * cc0 + ((2 ^ (2 * (P + 64)) : Nat) : Int))) := hv0_.trans (by rw [f_53])
      have f_52 : rg 52 = cc0 := (hf9 52 (by decide)).trans f_52
      have f_26 : rg 26 = (sp_PI (P + 64)) := (hf9 26 (by decide)).trans f_26
      have f_27 : rg 27 = ((2 ^ (P + 64) : Nat) : Int) := (hf9 27 (by decide)).trans f_27
      have f_53 : rg 53 = (cc0 * cc0 + ((2 ^ (2 * (P + 64)) : Nat) : Int)) := (hf9 53 (by decide)).trans f_53
      have f_54 := fT0_
      have hof : ∀ j, j ≠ t ∧ j ≠ 29 ∧ j ≠ 30 ∧ j ≠ 32 ∧ (j < 35 ∨ 39 < j) ∧ (j < 52 ∨ 54 < j) → rg j = rg0 j := fun j hj => (hf9 j (hq10_16 hj)).trans (hof j hj)
      refine lv_aload_n hx hb dX5_fineArc_132 rfl (lv_at hl 3 rfl) ?_
      refine lv_bipush (v := nI 54) hx hb dX5_fineArc_133 (by decide) ?_
      refine lv_bipush (v := nI 54) hx hb dX5_fineArc_135 (by decide) ?_
      refine lv_bipush (v := nI 27) hx hb dX5_fineArc_137 (by decide) ?_
      refine bd_cv (As := [.int (nI 54), .int (nI 54), .int (nI 27)]) (rest := []) C (v5_plus _ _ _ _ _ hv 54 54 27 (by decide) (by decide) (by decide) (by rw [f_54, f_27]; exact (b34 (Nat.le_trans hy5 (by decide +kernel))))) (cwV 3 hts gX5_fineArc_X5_plus rfl rfl rfl (by decide +kernel) ⟨Nat.le_of_ble_eq_true rfl, Nat.le_of_ble_eq_true rfl⟩) hsz hw (mv_recv C hw hv) dX5_fineArc_139 rfl hl.1 rfl (Nat.le_of_ble_eq_true rfl) ⟨Nat.le_refl _, Nat.le_refl _⟩ (fun E z H locs hp hw => ?_)
      obtain ⟨rg, hv, hv0_, hf9⟩ := hp
      have fT0_ : rg 54 = ((sp_ROOT (cc0 * cc0 + ((2 ^ (2 * (P + 64)) : Nat) : Int))) + ((2 ^ (P + 64) : Nat) : Int)) := hv0_.trans (by rw [f_54, f_27])
      have f_52 : rg 52 = cc0 := (hf9 52 (by decide)).trans f_52
      have f_26 : rg 26 = (sp_PI (P + 64)) := (hf9 26 (by decide)).trans f_26
      have f_27 : rg 27 = ((2 ^ (P + 64) : Nat) : Int) := (hf9 27 (by decide)).trans f_27
      have f_53 : rg 53 = (cc0 * cc0 + ((2 ^ (2 * (P + 64)) : Nat) : Int)) := (hf9 53 (by decide)).trans f_53
      have f_54 := fT0_
      have hof : ∀ j, j ≠ t ∧ j ≠ 29 ∧ j ≠ 30 ∧ j ≠ 32 ∧ (j < 35 ∨ 39 < j) ∧ (j < 52 ∨ 54 < j) → rg j = rg0 j := fun j hj => (hf9 j (hq10_12 hj)).trans (hof j hj)
      refine lv_aload_n hx hb dX5_fineArc_142 rfl (lv_at hl 3 rfl) ?_
      refine lv_bipush (v := nI 53) hx hb dX5_fineArc_143 (by decide) ?_
      refine lv_bipush (v := nI 52) hx hb dX5_fineArc_145 (by decide) ?_
      refine lv_aload_n hx hb dX5_fineArc_147 rfl (lv_at hl 3 rfl) ?_
      refine mv_g C i5 hw hv 2 (by decide) (v := .int (nI (P + 64))) rfl dX5_fineArc_148 lk27 ?_
      refine bd_cv (As := [.int (nI 53), .int (nI 52), .int (nI (P + 64))]) (rest := []) C (v5_up _ _ _ _ _ hv 53 52 (P + 64) (by decide) (by decide) hP64 (by rw [f_52]; exact (b34 (Nat.le_trans (Nat.mul_le_mul hy1 hp256) (by decide +kernel))))) (cwV 3 hts gX5_fineArc_X5_up rfl rfl rfl (by decide +kernel) ⟨Nat.le_of_ble_eq_true rfl, Nat.le_of_ble_eq_true rfl⟩) hsz hw (mv_recv C hw hv) dX5_fineArc_151 rfl hl.1 rfl (Nat.le_of_ble_eq_true rfl) ⟨Nat.le_refl _, Nat.le_refl _⟩ (fun E z H locs hp hw => ?_)
      obtain ⟨rg, hv, hv0_, hf9⟩ := hp
      have fT0_ : rg 53 = (cc0 * ((2 ^ (P + 64) : Nat) : Int)) := hv0_.trans (by rw [f_52])
      have f_52 : rg 52 = cc0 := (hf9 52 (by decide)).trans f_52
      have f_26 : rg 26 = (sp_PI (P + 64)) := (hf9 26 (by decide)).trans f_26
      have f_27 : rg 27 = ((2 ^ (P + 64) : Nat) : Int) := (hf9 27 (by decide)).trans f_27
      have f_54 : rg 54 = ((sp_ROOT (cc0 * cc0 + ((2 ^ (2 * (P + 64)) : Nat) : Int))) + ((2 ^ (P + 64) : Nat) : Int)) := (hf9 54 (by decide)).trans f_54
      have f_53 := fT0_
      have hof : ∀ j, j ≠ t ∧ j ≠ 29 ∧ j ≠ 30 ∧ j ≠ 32 ∧ (j < 35 ∨ 39 < j) ∧ (j < 52 ∨ 54 < j) → rg j = rg0 j := fun j hj => (hf9 j (hq10_11 hj)).trans (hof j hj)
      refine lv_aload_n hx hb dX5_fineArc_154 rfl (lv_at hl 3 rfl) ?_
      refine lv_bipush (v := nI 52) hx hb dX5_fineArc_155 (by decide) ?_
      refine lv_bipush (v := nI 53) hx hb dX5_fineArc_157 (by decide) ?_
      refine lv_bipush (v := nI 54) hx hb dX5_fineArc_159 (by decide) ?_
      refine bd_cv (As := [.int (nI 52), .int (nI 53), .int (nI 54)]) (rest := []) C (v5_divide _ _ _ _ _ hv 52 53 54 (by decide) (by decide) (by decide) (by decide) (by decide) (by decide) (by rw [f_54]; exact hy6) (by rw [f_54]; exact (Nat.le_trans (Nat.mul_le_mul_left 2 hy5) (by decide +kernel)))) (cwV 3 hts gX5_fineArc_X5_divide rfl rfl rfl (by decide +kernel) ⟨Nat.le_of_ble_eq_true rfl, Nat.le_of_ble_eq_true rfl⟩) hsz hw (mv_recv C hw hv) dX5_fineArc_161 rfl hl.1 rfl (Nat.le_of_ble_eq_true rfl) ⟨Nat.le_refl _, Nat.le_refl _⟩ (fun E z H locs hp hw => ?_)
      obtain ⟨rg, hv, hv0_, hf9⟩ := hp
      have fT0_ : rg 52 = (hvn (P + 64) T (i + 1)) := hv0_.trans (by rw [f_53, f_54]; rw [hcc]; rfl)
      have f_26 : rg 26 = (sp_PI (P + 64)) := (hf9 26 (by decide) (by decide)).trans f_26
      have f_27 : rg 27 = ((2 ^ (P + 64) : Nat) : Int) := (hf9 27 (by decide) (by decide)).trans f_27
      have f_54 : rg 54 = ((sp_ROOT (cc0 * cc0 + ((2 ^ (2 * (P + 64)) : Nat) : Int))) + ((2 ^ (P + 64) : Nat) : Int)) := (hf9 54 (by decide) (by decide)).trans f_54
      have f_53 : rg 53 = (cc0 * ((2 ^ (P + 64) : Nat) : Int)) := (hf9 53 (by decide) (by decide)).trans f_53
      have f_52 := fT0_
      have hof : ∀ j, j ≠ t ∧ j ≠ 29 ∧ j ≠ 30 ∧ j ≠ 32 ∧ (j < 35 ∨ 39 < j) ∧ (j < 52 ∨ 54 < j) → rg j = rg0 j := fun j hj => (hf9 j (hq10_10 hj) (hq10_13 hj)).trans (hof j hj)
      refine lv_iinc (v := (nI (i + 1))) (lv' := [(5, .int (nI (i + 1))), (4, .int (nI sf)), (3, .int (q_sg (rg0 x))), (0, .ref (mo 0)), (1, .int (nI t))]) hx hb dX5_fineArc_164 hl (k := 0) rfl (nI_1 _) (by decide) rfl (fun ls hl => ?_)
      refine lv_goto (tgt := 86) hx hb dX5_fineArc_167 (by decide) ?_
      exact ih (d9 - 1) (by omega) (i + 1) E z rg ls H locs (by omega) hv f_52 f_26 f_27  hof (lv_sub hl [0, 1, 2, 3, 4] rfl) hw
set_option maxHeartbeats 4000000 in
set_option maxRecDepth 100000 in
/-- fineSine -/
theorem v5_fineSine (l : Launch) (K : Cxt) (E0 : Nat → va_E) (z0 : Nat → Wh) (sz : Nat) {mo : Nat → Nat} {th : Int32} {P : Nat} {rg0 : Nat → Int} (hv : md_v K E0 mo th P rg0) (t x : Nat) (ht60 : t < 60 ∧ t ≠ 32 ∧ (t < 52 ∨ 57 < t)) (hx60 : x < 60 ∧ x ≠ 32 ∧ (x < 52 ∨ 57 < x)) (hf_26 : rg0 26 = sp_PI (P + 64)) (hb1 : (rg0 x).natAbs ≤ 2 ^ 280) : Met l yX5_fineSine wsX5_fineSine ({ frames := 6, cells := 0, slots := 0, locals := 200 }) (va_Pc [.ref (mo 0), .int (nI t), .int (nI x)] (bd_P K E0 z0 sz)) (va_Qv (fun u => ∃ rg : Nat → Int, md_v K u.1 mo th P rg ∧ rg t = sp_SIN (P + 64) (rg0 x) ∧ ∀ j, j ≠ t ∧ j ≠ 32 ∧ (j < 52 ∨ 57 < j) → rg j = rg0 j) (bd_B K) (bd_A K sz)) 0 0 (bd_A K sz) := by
  refine bd_ofW (cc := cX5_fineSine) (maxL := 5) (ret := none) (by decide) rfl (Nat.le_of_ble_eq_true rfl) ?_
  intro p e s m below meth c ls C hr hlk hsz hw hl
  have hx := C.1
  have hb := C.2.1
  have hown := C.2.2.2.1
  have hts := C.2.2.2.2.1
  have i5 : ∀ w ∈ wsX50, w ∈ wsX5_fineSine := by decide +kernel
  have lk27 : Cond.fieldLink RX5 27 "BallDeskModel" "fine" "I" ∈ wsX5_fineSine := by decide +kernel
  have lk13 : Cond.fieldLink RX5 13 "BallDeskModel" "signs" "[I" ∈ wsX5_fineSine := by decide +kernel
  have hl : lv_has ls 5 [(0, .ref (mo 0)), (1, .int (nI t)), (2, .int (nI x))] := hl
  obtain ⟨hP1, hP2⟩ := mv_P hv
  have hDp : (0 : Int) < ((2 ^ (P + 64) : Nat) : Int) := Int.natCast_pos.mpr (Nat.pow_pos (by decide))
  obtain ⟨hs1, hs2, hs3, hs4, hs5, hs6, hs7, hyb, hss0, hss3⟩ := sn_pre (Q := (P + 64)) (by omega) (by omega) hb1
  clear hs1 hs3 hs6 hs7
  have hSIN : ∀ v, sp_sn (P + 64) (rg0 x) v → v = sp_SIN (P + 64) (rg0 x) := fun v h => sp_SINe h
  unfold sp_sn at hSIN
  obtain ⟨yy, hyy⟩ : ∃ a, a = sn_y (P + 64) (rg0 x) := ⟨_, rfl⟩
  rw [← hyy] at hSIN hyb hss0 hss3
  obtain ⟨ss, hss⟩ : ∃ a, a = yy * yy / ((2 ^ (P + 64) : Nat) : Int) := ⟨_, rfl⟩
  rw [← hss] at hSIN hss0 hss3
  obtain ⟨nn, hnn⟩ : ∃ a, a = sn_n (P + 64) (rg0 x) := ⟨_, rfl⟩
  rw [← hnn] at hSIN hs4
  have hH := sn_pH (y := yy) hDp hss0 hss3
  obtain ⟨m0, hm0, hend⟩ := sn_ex hH (N := 258) hyb
  have hssb : ss.natAbs ≤ 2 ^ 288 := Nat.le_of_lt (sn_ssb (Q := (P + 64)) (by omega) hss0 hss3)
  have hnb : nn.natAbs ≤ 2 ^ 288 := Nat.le_of_lt hs4
  have hpb : (sp_PI (P + 64)).natAbs ≤ 2 ^ 288 := Nat.le_of_lt hs5
  have hn9 := mul_b hnb hpb
  clear hs4 hs5
  change hid _ at hn9 hnb hpb hssb hyb hb1
  have hP64 : P + 64 < 816 := by omega
  have hP128 : 2 * (P + 64) < 816 := by omega
  have f_x : rg0 x = rg0 x := rfl
  have f_26 : rg0 26 = (sp_PI (P + 64)) := hf_26
  have hof : ∀ j, j ≠ t ∧ j ≠ 32 ∧ (j < 52 ∨ 57 < j) → rg0 j = rg0 j := fun _ _ => rfl
  refine lv_aload_n hx hb dX5_fineSine_0 rfl (lv_at hl 0 rfl) ?_
  refine lv_bipush (v := nI 52) hx hb dX5_fineSine_1 (by decide) ?_
  refine lv_iload_n hx hb dX5_fineSine_3 rfl (lv_at hl 2 rfl) ?_
  refine lv_iconst (v := nI 1) hx hb dX5_fineSine_4 (by decide) ?_
  refine bd_cv (As := [.int (nI 52), .int (nI x), .int (nI 1)]) (rest := []) C (v5_up _ _ _ _ _ hv 52 x 1 (by decide) (by omega) (by decide) (by rw [f_x]; exact (b34 (Nat.le_trans (Nat.mul_le_mul_right _ hb1) (by decide +kernel))))) (cwV 3 hts gX5_fineSine_X5_up rfl rfl rfl (by decide +kernel) ⟨Nat.le_of_ble_eq_true rfl, Nat.le_of_ble_eq_true rfl⟩) hsz hw (mv_recv C hw hv) dX5_fineSine_5 rfl hl.1 rfl (Nat.le_of_ble_eq_true rfl) ⟨Nat.le_refl _, Nat.le_refl _⟩ (fun E z H locs hp hw => ?_)
  obtain ⟨rg, hv, hv0_, hf9⟩ := hp
  have fT0_ : rg 52 = (rg0 x * 2) := hv0_.trans (by rw [f_x]; rfl)
  have f_x : rg x = rg0 x := (hf9 x (by omega)).trans f_x
  have f_26 : rg 26 = (sp_PI (P + 64)) := (hf9 26 (by decide)).trans f_26
  have f_52 := fT0_
  have hof : ∀ j, j ≠ t ∧ j ≠ 32 ∧ (j < 52 ∨ 57 < j) → rg j = rg0 j := fun j hj => (hf9 j (hq10_17 hj)).trans (hof j hj)
  refine lv_aload_n hx hb dX5_fineSine_8 rfl (lv_at hl 0 rfl) ?_
  refine lv_bipush (v := nI 52) hx hb dX5_fineSine_9 (by decide) ?_
  refine lv_bipush (v := nI 52) hx hb dX5_fineSine_11 (by decide) ?_
  refine lv_bipush (v := nI 26) hx hb dX5_fineSine_13 (by decide) ?_
  refine bd_cv (As := [.int (nI 52), .int (nI 52), .int (nI 26)]) (rest := []) C (v5_plus _ _ _ _ _ hv 52 52 26 (by decide) (by decide) (by decide) (by rw [f_52, f_26]; exact (b34 (Nat.le_trans (add_b (Nat.le_trans (mul_b hb1 (show (2 : Int).natAbs ≤ 2 by decide)) (show 2 ^ 280 * 2 ≤ 2 ^ 281 by decide +kernel)) hpb) (by decide +kernel))))) (cwV 3 hts gX5_fineSine_X5_plus rfl rfl rfl (by decide +kernel) ⟨Nat.le_of_ble_eq_true rfl, Nat.le_of_ble_eq_true rfl⟩) hsz hw (mv_recv C hw hv) dX5_fineSine_15 rfl hl.1 rfl (Nat.le_of_ble_eq_true rfl) ⟨Nat.le_refl _, Nat.le_refl _⟩ (fun E z H locs hp hw => ?_)
  obtain ⟨rg, hv, hv0_, hf9⟩ := hp
  have fT0_ : rg 52 = (rg0 x * 2 + sp_PI (P + 64)) := hv0_.trans (by rw [f_52, f_26])
  have f_x : rg x = rg0 x := (hf9 x (by omega)).trans f_x
  have f_26 : rg 26 = (sp_PI (P + 64)) := (hf9 26 (by decide)).trans f_26
  have f_52 := fT0_
  have hof : ∀ j, j ≠ t ∧ j ≠ 32 ∧ (j < 52 ∨ 57 < j) → rg j = rg0 j := fun j hj => (hf9 j (hq10_17 hj)).trans (hof j hj)
  refine lv_aload_n hx hb dX5_fineSine_18 rfl (lv_at hl 0 rfl) ?_
  refine lv_bipush (v := nI 53) hx hb dX5_fineSine_19 (by decide) ?_
  refine lv_bipush (v := nI 26) hx hb dX5_fineSine_21 (by decide) ?_
  refine lv_iconst (v := nI 1) hx hb dX5_fineSine_23 (by decide) ?_
  refine bd_cv (As := [.int (nI 53), .int (nI 26), .int (nI 1)]) (rest := []) C (v5_up _ _ _ _ _ hv 53 26 1 (by decide) (by decide) (by decide) (by rw [f_26]; exact (b34 (Nat.le_trans (Nat.mul_le_mul_right _ hpb) (by decide +kernel))))) (cwV 3 hts gX5_fineSine_X5_up rfl rfl rfl (by decide +kernel) ⟨Nat.le_of_ble_eq_true rfl, Nat.le_of_ble_eq_true rfl⟩) hsz hw (mv_recv C hw hv) dX5_fineSine_24 rfl hl.1 rfl (Nat.le_of_ble_eq_true rfl) ⟨Nat.le_refl _, Nat.le_refl _⟩ (fun E z H locs hp hw => ?_)
  obtain ⟨rg, hv, hv0_, hf9⟩ := hp
  have fT0_ : rg 53 = (sp_PI (P + 64) * 2) := hv0_.trans (by rw [f_26]; rfl)
  have f_x : rg x = rg0 x := (hf9 x (by omega)).trans f_x
  have f_26 : rg 26 = (sp_PI (P + 64)) := (hf9 26 (by decide)).trans f_26
  have f_52 : rg 52 = (rg0 x * 2 + sp_PI (P + 64)) := (hf9 52 (by decide)).trans f_52
  have f_53 := fT0_
  have hof : ∀ j, j ≠ t ∧ j ≠ 32 ∧ (j < 52 ∨ 57 < j) → rg j = rg0 j := fun j hj => (hf9 j (hq10_18 hj)).trans (hof j hj)
  refine lv_aload_n hx hb dX5_fineSine_27 rfl (lv_at hl 0 rfl) ?_
  refine lv_bipush (v := nI 54) hx hb dX5_fineSine_28 (by decide) ?_
  refine lv_bipush (v := nI 52) hx hb dX5_fineSine_30 (by decide) ?_
  refine lv_bipush (v := nI 53) hx hb dX5_fineSine_32 (by decide) ?_
  refine bd_cv (As := [.int (nI 54), .int (nI 52), .int (nI 53)]) (rest := []) C (v5_divide _ _ _ _ _ hv 54 52 53 (by decide) (by decide) (by decide) (by decide) (by decide) (by decide) (by rw [f_53]; exact hs2) (by rw [f_53]; exact (Nat.le_trans (Nat.mul_le_mul_left 2 (mul_b hpb (show (2 : Int).natAbs ≤ 2 by decide))) (by decide +kernel)))) (cwV 3 hts gX5_fineSine_X5_divide rfl rfl rfl (by decide +kernel) ⟨Nat.le_of_ble_eq_true rfl, Nat.le_of_ble_eq_true rfl⟩) hsz hw (mv_recv C hw hv) dX5_fineSine_34 rfl hl.1 rfl (Nat.le_of_ble_eq_true rfl) ⟨Nat.le_refl _, Nat.le_refl _⟩ (fun E z H locs hp hw => ?_)
  obtain ⟨rg, hv, hv0_, hf9⟩ := hp
  have fT0_ : rg 54 = nn := hv0_.trans (by rw [f_52, f_53]; exact hnn.symm)
  have f_x : rg x = rg0 x := (hf9 x (by omega) (by omega)).trans f_x
  have f_26 : rg 26 = (sp_PI (P + 64)) := (hf9 26 (by decide) (by decide)).trans f_26
  have f_52 : rg 52 = (rg0 x * 2 + sp_PI (P + 64)) := (hf9 52 (by decide) (by decide)).trans f_52
  have f_53 : rg 53 = (sp_PI (P + 64) * 2) := (hf9 53 (by decide) (by decide)).trans f_53
  have f_54 := fT0_
  have hof : ∀ j, j ≠ t ∧ j ≠ 32 ∧ (j < 52 ∨ 57 < j) → rg j = rg0 j := fun j hj => (hf9 j (hq10_19 hj) (hq10_20 hj)).trans (hof j hj)
  refine lv_aload_n hx hb dX5_fineSine_37 rfl (lv_at hl 0 rfl) ?_
  refine lv_bipush (v := nI 54) hx hb dX5_fineSine_38 (by decide) ?_
  refine lv_iconst (v := nI 0) hx hb dX5_fineSine_40 (by decide) ?_
  have hvc := hv
  obtain ⟨F9, G9, S9, R9_, hm, hrg⟩ := hvc
  obtain ⟨hF9, hV9, -⟩ := hrg 54 (by decide)
  rw [f_54] at hV9
  have hg0 := hF9 0 (by decide)
  have hod9 : F9 54 0 % 2 = nn.natAbs % 2 := by rw [← hV9]; exact (sn_od hF9).symm
  refine bd_cip (As := [.int (nI 54), .int (nI 0)]) (rest := []) C (m5_at _ _ _ _ _ hm 54 0 (by omega) (by omega)) (cwV 2 hts gX5_fineSine_X5_at rfl rfl rfl (by decide +kernel) ⟨Nat.le_of_ble_eq_true rfl, Nat.le_of_ble_eq_true rfl⟩) hsz hw (md_recv C hw hm) dX5_fineSine_41 rfl hl.1 rfl (Nat.le_of_ble_eq_true rfl) ⟨Nat.le_refl _, Nat.le_refl _⟩ (fun H locs hw => ?_)
  refine lv_iconst (v := nI 1) hx hb dX5_fineSine_44 (by decide) ?_
  refine bd_iand (v := (nI (F9 54 0 % 2))) hx hb dX5_fineSine_45 (i_b1 (Nat.lt_of_lt_of_le hg0 (by decide))) ?_
  refine lv_iconst (v := nI 1) hx hb dX5_fineSine_46 (by decide) ?_
  refine bd_ine (h1 := (by omega)) (h2 := (by decide)) (tgt := 54) hx hb dX5_fineSine_47 (by decide) (fun hc47 => ?_) (fun hc47 => ?_)
  · have hodd : ¬ nn.natAbs % 2 = 1 := by rw [← hod9]; exact hc47
    clear hm
    refine lv_iconst (v := nI 0) hx hb dX5_fineSine_54 (by decide) ?_
    refine lv_istore_n (lv' := [(3, .int (nI 0)), (0, .ref (mo 0)), (1, .int (nI t)), (2, .int (nI x))]) hx hb dX5_fineSine_55 rfl hl (by decide) rfl (fun ls hl => ?_)
    refine lv_aload_n hx hb dX5_fineSine_56 rfl (lv_at hl 1 rfl) ?_
    refine lv_bipush (v := nI 55) hx hb dX5_fineSine_57 (by decide) ?_
    refine lv_bipush (v := nI 54) hx hb dX5_fineSine_59 (by decide) ?_
    refine lv_bipush (v := nI 26) hx hb dX5_fineSine_61 (by decide) ?_
    refine bd_cv (As := [.int (nI 55), .int (nI 54), .int (nI 26)]) (rest := []) C (v5_product _ _ _ _ _ hv 55 54 26 (by decide) (by decide) (by decide) (by rw [f_54, f_26]; exact (b34 (Nat.le_trans hn9 (by decide +kernel))))) (cwV 3 hts gX5_fineSine_X5_product rfl rfl rfl (by decide +kernel) ⟨Nat.le_of_ble_eq_true rfl, Nat.le_of_ble_eq_true rfl⟩) hsz hw (mv_recv C hw hv) dX5_fineSine_63 rfl hl.1 rfl (Nat.le_of_ble_eq_true rfl) ⟨Nat.le_refl _, Nat.le_refl _⟩ (fun E z H locs hp hw => ?_)
    obtain ⟨rg, hv, hv0_, hf9⟩ := hp
    have fT0_ : rg 55 = (nn * sp_PI (P + 64)) := hv0_.trans (by rw [f_54, f_26])
    have f_x : rg x = rg0 x := (hf9 x (by omega)).trans f_x
    have f_26 : rg 26 = (sp_PI (P + 64)) := (hf9 26 (by decide)).trans f_26
    have f_52 : rg 52 = (rg0 x * 2 + sp_PI (P + 64)) := (hf9 52 (by decide)).trans f_52
    have f_53 : rg 53 = (sp_PI (P + 64) * 2) := (hf9 53 (by decide)).trans f_53
    have f_54 : rg 54 = nn := (hf9 54 (by decide)).trans f_54
    have f_55 := fT0_
    have hof : ∀ j, j ≠ t ∧ j ≠ 32 ∧ (j < 52 ∨ 57 < j) → rg j = rg0 j := fun j hj => (hf9 j (hq10_21 hj)).trans (hof j hj)
    refine lv_aload_n hx hb dX5_fineSine_66 rfl (lv_at hl 1 rfl) ?_
    refine lv_bipush (v := nI 55) hx hb dX5_fineSine_67 (by decide) ?_
    refine lv_iload_n hx hb dX5_fineSine_69 rfl (lv_at hl 3 rfl) ?_
    refine lv_bipush (v := nI 55) hx hb dX5_fineSine_70 (by decide) ?_
    refine bd_cv (As := [.int (nI 55), .int (nI x), .int (nI 55)]) (rest := []) C (v5_minus _ _ _ _ _ hv 55 x 55 (by decide) (by omega) (by decide) (by rw [f_x, f_55]; exact (b34 (Nat.le_trans (sub_b hb1 hn9) (by decide +kernel))))) (cwV 3 hts gX5_fineSine_X5_minus rfl rfl rfl (by decide +kernel) ⟨Nat.le_of_ble_eq_true rfl, Nat.le_of_ble_eq_true rfl⟩) hsz hw (mv_recv C hw hv) dX5_fineSine_72 rfl hl.1 rfl (Nat.le_of_ble_eq_true rfl) ⟨Nat.le_refl _, Nat.le_refl _⟩ (fun E z H locs hp hw => ?_)
    obtain ⟨rg, hv, hv0_, hf9⟩ := hp
    have fT0_ : rg 55 = yy := hv0_.trans (by rw [f_x, f_55]; rw [hyy, hnn]; rfl)
    have f_x : rg x = rg0 x := (hf9 x (by omega)).trans f_x
    have f_26 : rg 26 = (sp_PI (P + 64)) := (hf9 26 (by decide)).trans f_26
    have f_52 : rg 52 = (rg0 x * 2 + sp_PI (P + 64)) := (hf9 52 (by decide)).trans f_52
    have f_53 : rg 53 = (sp_PI (P + 64) * 2) := (hf9 53 (by decide)).trans f_53
    have f_54 : rg 54 = nn := (hf9 54 (by decide)).trans f_54
    have f_55 := fT0_
    have hof : ∀ j, j ≠ t ∧ j ≠ 32 ∧ (j < 52 ∨ 57 < j) → rg j = rg0 j := fun j hj => (hf9 j (hq10_21 hj)).trans (hof j hj)
    refine lv_aload_n hx hb dX5_fineSine_75 rfl (lv_at hl 1 rfl) ?_
    refine lv_bipush (v := nI 56) hx hb dX5_fineSine_76 (by decide) ?_
    refine lv_bipush (v := nI 55) hx hb dX5_fineSine_78 (by decide) ?_
    refine lv_bipush (v := nI 55) hx hb dX5_fineSine_80 (by decide) ?_
    refine bd_cv (As := [.int (nI 56), .int (nI 55), .int (nI 55)]) (rest := []) C (v5_product _ _ _ _ _ hv 56 55 55 (by decide) (by decide) (by decide) (by rw [f_55]; exact (b34 (Nat.le_trans (mul_b hyb hyb) (by decide +kernel))))) (cwV 3 hts gX5_fineSine_X5_product rfl rfl rfl (by decide +kernel) ⟨Nat.le_of_ble_eq_true rfl, Nat.le_of_ble_eq_true rfl⟩) hsz hw (mv_recv C hw hv) dX5_fineSine_82 rfl hl.1 rfl (Nat.le_of_ble_eq_true rfl) ⟨Nat.le_refl _, Nat.le_refl _⟩ (fun E z H locs hp hw => ?_)
    obtain ⟨rg, hv, hv0_, hf9⟩ := hp
    have fT0_ : rg 56 = (yy * yy) := hv0_.trans (by rw [f_55])
    have f_x : rg x = rg0 x := (hf9 x (by omega)).trans f_x
    have f_26 : rg 26 = (sp_PI (P + 64)) := (hf9 26 (by decide)).trans f_26
    have f_52 : rg 52 = (rg0 x * 2 + sp_PI (P + 64)) := (hf9 52 (by decide)).trans f_52
    have f_53 : rg 53 = (sp_PI (P + 64) * 2) := (hf9 53 (by decide)).trans f_53
    have f_54 : rg 54 = nn := (hf9 54 (by decide)).trans f_54
    have f_55 : rg 55 = yy := (hf9 55 (by decide)).trans f_55
    have f_56 := fT0_
    have hof : ∀ j, j ≠ t ∧ j ≠ 32 ∧ (j < 52 ∨ 57 < j) → rg j = rg0 j := fun j hj => (hf9 j (hq10_22 hj)).trans (hof j hj)
    refine lv_aload_n hx hb dX5_fineSine_85 rfl (lv_at hl 1 rfl) ?_
    refine lv_bipush (v := nI 56) hx hb dX5_fineSine_86 (by decide) ?_
    refine lv_bipush (v := nI 56) hx hb dX5_fineSine_88 (by decide) ?_
    refine lv_aload_n hx hb dX5_fineSine_90 rfl (lv_at hl 1 rfl) ?_
    refine mv_g C i5 hw hv 2 (by decide) (v := .int (nI (P + 64))) rfl dX5_fineSine_91 lk27 ?_
    refine bd_cv (As := [.int (nI 56), .int (nI 56), .int (nI (P + 64))]) (rest := []) C (v5_down _ _ _ _ _ hv 56 56 (P + 64) (by decide) (by decide) (by decide) hP64) (cwV 3 hts gX5_fineSine_X5_down rfl rfl rfl (by decide +kernel) ⟨Nat.le_of_ble_eq_true rfl, Nat.le_of_ble_eq_true rfl⟩) hsz hw (mv_recv C hw hv) dX5_fineSine_94 rfl hl.1 rfl (Nat.le_of_ble_eq_true rfl) ⟨Nat.le_refl _, Nat.le_refl _⟩ (fun E z H locs hp hw => ?_)
    obtain ⟨rg, hv, hv0_, hf9⟩ := hp
    have fT0_ : rg 56 = ss := hv0_.trans (by rw [f_56]; exact hss.symm)
    have f_x : rg x = rg0 x := (hf9 x (by omega) (by omega)).trans f_x
    have f_26 : rg 26 = (sp_PI (P + 64)) := (hf9 26 (by decide) (by decide)).trans f_26
    have f_52 : rg 52 = (rg0 x * 2 + sp_PI (P + 64)) := (hf9 52 (by decide) (by decide)).trans f_52
    have f_53 : rg 53 = (sp_PI (P + 64) * 2) := (hf9 53 (by decide) (by decide)).trans f_53
    have f_54 : rg 54 = nn := (hf9 54 (by decide) (by decide)).trans f_54
    have f_55 : rg 55 = yy := (hf9 55 (by decide) (by decide)).trans f_55
    have f_56 := fT0_
    have hof : ∀ j, j ≠ t ∧ j ≠ 32 ∧ (j < 52 ∨ 57 < j) → rg j = rg0 j := fun j hj => (hf9 j (hq10_22 hj) (hq10_20 hj)).trans (hof j hj)
    refine lv_aload_n hx hb dX5_fineSine_97 rfl (lv_at hl 1 rfl) ?_
    refine lv_bipush (v := nI 57) hx hb dX5_fineSine_98 (by decide) ?_
    refine bd_cv (As := [.int (nI 57)]) (rest := []) C (v5_none _ _ _ _ _ hv 57 (by decide)) (cwV 1 hts gX5_fineSine_X5_none rfl rfl rfl (by decide +kernel) ⟨Nat.le_of_ble_eq_true rfl, Nat.le_of_ble_eq_true rfl⟩) hsz hw (mv_recv C hw hv) dX5_fineSine_100 rfl hl.1 rfl (Nat.le_of_ble_eq_true rfl) ⟨Nat.le_refl _, Nat.le_refl _⟩ (fun E z H locs hp hw => ?_)
    obtain ⟨rg, hv, hv0_, hf9⟩ := hp
    have fT0_ : rg 57 = 0 := hv0_.trans (by rfl)
    have f_x : rg x = rg0 x := (hf9 x (by omega)).trans f_x
    have f_26 : rg 26 = (sp_PI (P + 64)) := (hf9 26 (by decide)).trans f_26
    have f_52 : rg 52 = (rg0 x * 2 + sp_PI (P + 64)) := (hf9 52 (by decide)).trans f_52
    have f_53 : rg 53 = (sp_PI (P + 64) * 2) := (hf9 53 (by decide)).trans f_53
    have f_54 : rg 54 = nn := (hf9 54 (by decide)).trans f_54
    have f_55 : rg 55 = yy := (hf9 55 (by decide)).trans f_55
    have f_56 : rg 56 = ss := (hf9 56 (by decide)).trans f_56
    have f_57 := fT0_
    have hof : ∀ j, j ≠ t ∧ j ≠ 32 ∧ (j < 52 ∨ 57 < j) → rg j = rg0 j := fun j hj => (hf9 j (hq10_23 hj)).trans (hof j hj)
    refine lv_iconst (v := nI 1) hx hb dX5_fineSine_103 (by decide) ?_
    refine lv_istore (lv' := [(4, .int (nI 1)), (3, .int (nI 0)), (0, .ref (mo 0)), (1, .int (nI t)), (2, .int (nI x))]) hx hb dX5_fineSine_104 hl (by decide) rfl (fun ls hl => ?_)
    suffices hloop : ∀ (d9 i : Nat) (E : Nat → va_E) (z : Nat → Wh) (rg : Nat → Int) (ls : Array Slot) (H : Heap) (locs : List Loc), i + d9 = m0 → md_v K E mo th P rg → (rg 55 = ((sn_p ((2 ^ (P + 64) : Nat) : Int) ss yy) i)) → (rg 56 = ss) → (rg 57 = (sp_sum (sn_p ((2 ^ (P + 64) : Nat) : Int) ss yy) i)) → (∀ j, j ≠ t ∧ j ≠ 32 ∧ (j < 52 ∨ 57 < j) → rg j = rg0 j) → lv_has ls 5 [(4, .int (nI (i + 1))), (3, .int (nI 0)), (0, .ref (mo 0)), (1, .int (nI t))] → bd_W K E z (bd_A K sz) s.heap H locs → W p l e (headSpec wsX5_fineSine ({ frames := 6, cells := 0, slots := 0, locals := 200 })).room s m [.ref (mo 0), .int (nI t), .int (nI x)].toArray below meth c H locs 0 0 (MQ below (va_Qv (fun u => ∃ rg : Nat → Int, md_v K u.1 mo th P rg ∧ rg t = sp_SIN (P + 64) (rg0 x) ∧ ∀ j, j ≠ t ∧ j ≠ 32 ∧ (j < 52 ∨ 57 < j) → rg j = rg0 j) (bd_B K) (bd_A K sz)) [.ref (mo 0), .int (nI t), .int (nI x)].toArray s 0 0 (bd_A K sz)) (F0 m 106 ls []) from hloop m0 0 E z rg ls _ _ (by omega) hv f_55 f_56 f_57  hof (lv_sub hl [0, 1, 2, 3] rfl) hw
    clear hw hl ls hv hof f_x f_26 f_52 f_53 f_54 f_55 f_56 f_57 
    intro d9
    induction d9 using Nat.strongRecOn with
    | ind d9 ih =>
      intro i E z rg ls H locs hjd9 hv f_55 f_56 f_57  hof hl hw
      have hpi : ((sn_p ((2 ^ (P + 64) : Nat) : Int) ss yy) i).natAbs ≤ 2 ^ 258 := Nat.le_trans (sn_le hH i) hyb
      have hsm : (sp_sum (sn_p ((2 ^ (P + 64) : Nat) : Int) ss yy) i).natAbs ≤ 2 ^ 300 := Nat.le_trans (sn_sum hH i) (Nat.le_trans (Nat.mul_le_mul (show i ≤ 1000 by omega) hyb) (by decide +kernel))
      change hid _ at hpi hsm
      refine lv_aload_n hx hb dX5_fineSine_106 rfl (lv_at hl 2 rfl) ?_
      refine mv_g C i5 hw hv 4 (by decide) (v := .ref (mo 2)) rfl dX5_fineSine_107 lk13 ?_
      refine lv_bipush (v := nI 55) hx hb dX5_fineSine_110 (by decide) ?_
      refine mv_ld2 C hw hv (r := 55) dX5_fineSine_112 (by omega) ?_
      rw [f_55]
      refine lv_if_eq (tgt := 188) hx hb dX5_fineSine_113 (by decide) (fun hc113 => ?_) (fun hc113 => ?_)
      · have hz9 : ((sn_p ((2 ^ (P + 64) : Nat) : Int) ss yy) i) = 0 := sg_0 hc113
        have him : i = m0 := (Nat.lt_or_ge i m0).elim (fun q => absurd hz9 (hend.2 i q)) (fun q => by omega)
        rw [him] at f_57
        refine lv_aload_n hx hb dX5_fineSine_188 rfl (lv_at hl 2 rfl) ?_
        refine mv_g C i5 hw hv 4 (by decide) (v := .ref (mo 2)) rfl dX5_fineSine_189 lk13 ?_
        refine lv_bipush (v := nI 57) hx hb dX5_fineSine_192 (by decide) ?_
        refine lv_iload_n hx hb dX5_fineSine_194 rfl (lv_at hl 1 rfl) ?_
        refine bd_zeq (h1 := by decide) (tgt := 209) hx hb dX5_fineSine_195 (by decide) (fun hc195 => ?_) (fun hc195 => ?_)
        · refine lv_aload_n hx hb dX5_fineSine_209 rfl (lv_at hl 2 rfl) ?_
          refine mv_g C i5 hw hv 4 (by decide) (v := .ref (mo 2)) rfl dX5_fineSine_210 lk13 ?_
          refine lv_bipush (v := nI 57) hx hb dX5_fineSine_213 (by decide) ?_
          refine mv_ld2 C hw hv (r := 57) dX5_fineSine_215 (by omega) ?_
          rw [f_57]
          refine mv_st2 C hw hv (r := 57) ((sp_sum (sn_p ((2 ^ (P + 64) : Nat) : Int) ss yy) m0)) (by rw [f_57]) (rfl) dX5_fineSine_216 (by omega) (fun E rg H locs hv hv0_ hf9 hw => ?_)
          have fT0_ : rg 57 = (sp_sum (sn_p ((2 ^ (P + 64) : Nat) : Int) ss yy) m0) := hv0_.trans (by rfl)
          have f_55 : rg 55 = ((sn_p ((2 ^ (P + 64) : Nat) : Int) ss yy) i) := (hf9 55 (by decide)).trans f_55
          have f_56 : rg 56 = ss := (hf9 56 (by decide)).trans f_56
          have f_57 := fT0_
          have hof : ∀ j, j ≠ t ∧ j ≠ 32 ∧ (j < 52 ∨ 57 < j) → rg j = rg0 j := fun j hj => (hf9 j (hq10_23 hj)).trans (hof j hj)
          refine lv_aload_n hx hb dX5_fineSine_217 rfl (lv_at hl 2 rfl) ?_
          refine lv_iload_n hx hb dX5_fineSine_218 rfl (lv_at hl 3 rfl) ?_
          refine lv_bipush (v := nI 57) hx hb dX5_fineSine_219 (by decide) ?_
          refine bd_cv (As := [.int (nI t), .int (nI 57)]) (rest := []) C (v5_copy _ _ _ _ _ hv t 57 (by omega) (by decide)) (cwV 2 hts gX5_fineSine_X5_copy rfl rfl rfl (by decide +kernel) ⟨Nat.le_of_ble_eq_true rfl, Nat.le_of_ble_eq_true rfl⟩) hsz hw (mv_recv C hw hv) dX5_fineSine_221 rfl hl.1 rfl (Nat.le_of_ble_eq_true rfl) ⟨Nat.le_refl _, Nat.le_refl _⟩ (fun E z H locs hp hw => ?_)
          obtain ⟨rg, hv, hv0_, hf9⟩ := hp
          have fT0_ : rg t = (sp_sum (sn_p ((2 ^ (P + 64) : Nat) : Int) ss yy) m0) := hv0_.trans (by rw [f_57])
          have f_57 : rg 57 = (sp_sum (sn_p ((2 ^ (P + 64) : Nat) : Int) ss yy) m0) := (hf9 57 (by omega)).trans f_57
          have f_t := fT0_
          have hof : ∀ j, j ≠ t ∧ j ≠ 32 ∧ (j < 52 ∨ 57 < j) → rg j = rg0 j := fun j hj => (hf9 j (hq10_24 hj)).trans (hof j hj)
          exact bd_vret C hr hlk hw dX5_fineSine_224 ⟨rg, hv, hSIN _ ⟨m0, hend, by rw [if_neg hodd, f_t]⟩, hof⟩
        · exact absurd hc195 (by decide)
      · have hz9 : ¬ ((sn_p ((2 ^ (P + 64) : Nat) : Int) ss yy) i) = 0 := fun q => hc113 (by rw [q]; rfl)
        have him : i < m0 := (Nat.lt_or_ge i m0).elim id (fun q => absurd (show ((sn_p ((2 ^ (P + 64) : Nat) : Int) ss yy) i) = 0 by rw [show i = m0 by omega]; exact hend.1) hz9)
        obtain ⟨hdv0, hdv1⟩ := sn_dv (show i < 10000 by omega)
        refine lv_aload_n hx hb dX5_fineSine_116 rfl (lv_at hl 2 rfl) ?_
        refine lv_bipush (v := nI 57) hx hb dX5_fineSine_117 (by decide) ?_
        refine lv_bipush (v := nI 57) hx hb dX5_fineSine_119 (by decide) ?_
        refine lv_bipush (v := nI 55) hx hb dX5_fineSine_121 (by decide) ?_
        refine bd_cv (As := [.int (nI 57), .int (nI 57), .int (nI 55)]) (rest := []) C (v5_plus _ _ _ _ _ hv 57 57 55 (by decide) (by decide) (by decide) (by rw [f_57, f_55]; exact (b34 (Nat.le_trans (add_b hsm hpi) (by decide +kernel))))) (cwV 3 hts gX5_fineSine_X5_plus rfl rfl rfl (by decide +kernel) ⟨Nat.le_of_ble_eq_true rfl, Nat.le_of_ble_eq_true rfl⟩) hsz hw (mv_recv C hw hv) dX5_fineSine_123 rfl hl.1 rfl (Nat.le_of_ble_eq_true rfl) ⟨Nat.le_refl _, Nat.le_refl _⟩ (fun E z H locs hp hw => ?_)
        obtain ⟨rg, hv, hv0_, hf9⟩ := hp
        have fT0_ : rg 57 = (sp_sum (sn_p ((2 ^ (P + 64) : Nat) : Int) ss yy) (i + 1)) := hv0_.trans (by rw [f_57, f_55]; rfl)
        have f_55 : rg 55 = ((sn_p ((2 ^ (P + 64) : Nat) : Int) ss yy) i) := (hf9 55 (by decide)).trans f_55
        have f_56 : rg 56 = ss := (hf9 56 (by decide)).trans f_56
        have f_57 := fT0_
        have hof : ∀ j, j ≠ t ∧ j ≠ 32 ∧ (j < 52 ∨ 57 < j) → rg j = rg0 j := fun j hj => (hf9 j (hq10_23 hj)).trans (hof j hj)
        refine lv_aload_n hx hb dX5_fineSine_126 rfl (lv_at hl 2 rfl) ?_
        refine lv_bipush (v := nI 52) hx hb dX5_fineSine_127 (by decide) ?_
        refine lv_bipush (v := nI 55) hx hb dX5_fineSine_129 (by decide) ?_
        refine lv_bipush (v := nI 56) hx hb dX5_fineSine_131 (by decide) ?_
        refine bd_cv (As := [.int (nI 52), .int (nI 55), .int (nI 56)]) (rest := []) C (v5_product _ _ _ _ _ hv 52 55 56 (by decide) (by decide) (by decide) (by rw [f_55, f_56]; exact (b34 (Nat.le_trans (mul_b hpi hssb) (by decide +kernel))))) (cwV 3 hts gX5_fineSine_X5_product rfl rfl rfl (by decide +kernel) ⟨Nat.le_of_ble_eq_true rfl, Nat.le_of_ble_eq_true rfl⟩) hsz hw (mv_recv C hw hv) dX5_fineSine_133 rfl hl.1 rfl (Nat.le_of_ble_eq_true rfl) ⟨Nat.le_refl _, Nat.le_refl _⟩ (fun E z H locs hp hw => ?_)
        obtain ⟨rg, hv, hv0_, hf9⟩ := hp
        have fT0_ : rg 52 = (((sn_p ((2 ^ (P + 64) : Nat) : Int) ss yy) i) * ss) := hv0_.trans (by rw [f_55, f_56])
        have f_55 : rg 55 = ((sn_p ((2 ^ (P + 64) : Nat) : Int) ss yy) i) := (hf9 55 (by decide)).trans f_55
        have f_56 : rg 56 = ss := (hf9 56 (by decide)).trans f_56
        have f_57 : rg 57 = (sp_sum (sn_p ((2 ^ (P + 64) : Nat) : Int) ss yy) (i + 1)) := (hf9 57 (by decide)).trans f_57
        have f_52 := fT0_
        have hof : ∀ j, j ≠ t ∧ j ≠ 32 ∧ (j < 52 ∨ 57 < j) → rg j = rg0 j := fun j hj => (hf9 j (hq10_17 hj)).trans (hof j hj)
        refine lv_aload_n hx hb dX5_fineSine_136 rfl (lv_at hl 2 rfl) ?_
        refine lv_bipush (v := nI 52) hx hb dX5_fineSine_137 (by decide) ?_
        refine lv_bipush (v := nI 52) hx hb dX5_fineSine_139 (by decide) ?_
        refine lv_aload_n hx hb dX5_fineSine_141 rfl (lv_at hl 2 rfl) ?_
        refine mv_g C i5 hw hv 2 (by decide) (v := .int (nI (P + 64))) rfl dX5_fineSine_142 lk27 ?_
        refine bd_cv (As := [.int (nI 52), .int (nI 52), .int (nI (P + 64))]) (rest := []) C (v5_down _ _ _ _ _ hv 52 52 (P + 64) (by decide) (by decide) (by decide) hP64) (cwV 3 hts gX5_fineSine_X5_down rfl rfl rfl (by decide +kernel) ⟨Nat.le_of_ble_eq_true rfl, Nat.le_of_ble_eq_true rfl⟩) hsz hw (mv_recv C hw hv) dX5_fineSine_145 rfl hl.1 rfl (Nat.le_of_ble_eq_true rfl) ⟨Nat.le_refl _, Nat.le_refl _⟩ (fun E z H locs hp hw => ?_)
        obtain ⟨rg, hv, hv0_, hf9⟩ := hp
        have fT0_ : rg 52 = (((sn_p ((2 ^ (P + 64) : Nat) : Int) ss yy) i) * ss / ((2 ^ (P + 64) : Nat) : Int)) := hv0_.trans (by rw [f_52])
        have f_55 : rg 55 = ((sn_p ((2 ^ (P + 64) : Nat) : Int) ss yy) i) := (hf9 55 (by decide) (by decide)).trans f_55
        have f_56 : rg 56 = ss := (hf9 56 (by decide) (by decide)).trans f_56
        have f_57 : rg 57 = (sp_sum (sn_p ((2 ^ (P + 64) : Nat) : Int) ss yy) (i + 1)) := (hf9 57 (by decide) (by decide)).trans f_57
        have f_52 := fT0_
        have hof : ∀ j, j ≠ t ∧ j ≠ 32 ∧ (j < 52 ∨ 57 < j) → rg j = rg0 j := fun j hj => (hf9 j (hq10_17 hj) (hq10_20 hj)).trans (hof j hj)
        refine lv_aload_n hx hb dX5_fineSine_148 rfl (lv_at hl 2 rfl) ?_
        refine lv_bipush (v := nI 55) hx hb dX5_fineSine_149 (by decide) ?_
        refine lv_bipush (v := nI 52) hx hb dX5_fineSine_151 (by decide) ?_
        refine lv_iconst (v := nI 2) hx hb dX5_fineSine_153 (by decide) ?_
        refine lv_iload hx hb dX5_fineSine_154 (lv_at hl 0 rfl) ?_
        refine bd_imul (v := (nI (2 * (i + 1)))) hx hb dX5_fineSine_156 (nI_mul _ _) ?_
        refine lv_iconst (v := nI 2) hx hb dX5_fineSine_157 (by decide) ?_
        refine lv_iload hx hb dX5_fineSine_158 (lv_at hl 0 rfl) ?_
        refine bd_imul (v := (nI (2 * (i + 1)))) hx hb dX5_fineSine_160 (nI_mul _ _) ?_
        refine lv_iconst (v := nI 1) hx hb dX5_fineSine_161 (by decide) ?_
        refine bd_iadd (v := nI ((2 * (i + 1)) + 1)) hx hb dX5_fineSine_162 (nI_add _ _) ?_
        refine bd_imul (v := (nI ((2 * (i + 1)) * ((2 * (i + 1)) + 1)))) hx hb dX5_fineSine_163 (nI_mul _ _) ?_
        refine bd_cv (As := [.int (nI 55), .int (nI 52), .int (nI ((2 * (i + 1)) * ((2 * (i + 1)) + 1)))]) (rest := []) C (v5_divideSmall _ _ _ _ _ hv 55 52 ((2 * (i + 1)) * ((2 * (i + 1)) + 1)) (by decide) (by decide) (by decide) hdv0 hdv1) (cwV 3 hts gX5_fineSine_X5_divideSmall rfl rfl rfl (by decide +kernel) ⟨Nat.le_of_ble_eq_true rfl, Nat.le_of_ble_eq_true rfl⟩) hsz hw (mv_recv C hw hv) dX5_fineSine_164 rfl hl.1 rfl (Nat.le_of_ble_eq_true rfl) ⟨Nat.le_refl _, Nat.le_refl _⟩ (fun E z H locs hp hw => ?_)
        obtain ⟨rg, hv, hv0_, hf9⟩ := hp
        have fT0_ : rg 55 = (((sn_p ((2 ^ (P + 64) : Nat) : Int) ss yy) i) * ss / ((2 ^ (P + 64) : Nat) : Int) / (((2 * (i + 1)) * ((2 * (i + 1)) + 1) : Nat) : Int)) := hv0_.trans (by rw [f_52])
        have f_56 : rg 56 = ss := (hf9 56 (by decide) (by decide)).trans f_56
        have f_57 : rg 57 = (sp_sum (sn_p ((2 ^ (P + 64) : Nat) : Int) ss yy) (i + 1)) := (hf9 57 (by decide) (by decide)).trans f_57
        have f_52 : rg 52 = (((sn_p ((2 ^ (P + 64) : Nat) : Int) ss yy) i) * ss / ((2 ^ (P + 64) : Nat) : Int)) := (hf9 52 (by decide) (by decide)).trans f_52
        have f_55 := fT0_
        have hof : ∀ j, j ≠ t ∧ j ≠ 32 ∧ (j < 52 ∨ 57 < j) → rg j = rg0 j := fun j hj => (hf9 j (hq10_21 hj) (hq10_20 hj)).trans (hof j hj)
        refine lv_aload_n hx hb dX5_fineSine_167 rfl (lv_at hl 2 rfl) ?_
        refine mv_g C i5 hw hv 4 (by decide) (v := .ref (mo 2)) rfl dX5_fineSine_168 lk13 ?_
        refine lv_bipush (v := nI 55) hx hb dX5_fineSine_171 (by decide) ?_
        refine lv_aload_n hx hb dX5_fineSine_173 rfl (lv_at hl 2 rfl) ?_
        refine mv_g C i5 hw hv 4 (by decide) (v := .ref (mo 2)) rfl dX5_fineSine_174 lk13 ?_
        refine lv_bipush (v := nI 55) hx hb dX5_fineSine_177 (by decide) ?_
        refine mv_ld2 C hw hv (r := 55) dX5_fineSine_179 (by omega) ?_
        rw [f_55]
        refine bd_ineg (v := -(q_sg (((sn_p ((2 ^ (P + 64) : Nat) : Int) ss yy) i) * ss / ((2 ^ (P + 64) : Nat) : Int) / (((2 * (i + 1)) * ((2 * (i + 1)) + 1) : Nat) : Int)))) hx hb dX5_fineSine_180 rfl ?_
        refine mv_st2 C hw hv (r := 55) ((sn_p ((2 ^ (P + 64) : Nat) : Int) ss yy) (i + 1)) (by rw [f_55]; exact Int.natAbs_neg _) (sg_neg (((sn_p ((2 ^ (P + 64) : Nat) : Int) ss yy) i) * ss / ((2 ^ (P + 64) : Nat) : Int) / (((2 * (i + 1)) * ((2 * (i + 1)) + 1) : Nat) : Int))) dX5_fineSine_181 (by omega) (fun E rg H locs hv hv0_ hf9 hw => ?_)
        have fT0_ : rg 55 = (sn_p ((2 ^ (P + 64) : Nat) : Int) ss yy) (i + 1) := hv0_.trans (by rfl)
        have f_56 : rg 56 = ss := (hf9 56 (by decide)).trans f_56
        have f_57 : rg 57 = (sp_sum (sn_p ((2 ^ (P + 64) : Nat) : Int) ss yy) (i + 1)) := (hf9 57 (by decide)).trans f_57
        have f_52 : rg 52 = (((sn_p ((2 ^ (P + 64) : Nat) : Int) ss yy) i) * ss / ((2 ^ (P + 64) : Nat) : Int)) := (hf9 52 (by decide)).trans f_52
        have f_55 := fT0_
        have hof : ∀ j, j ≠ t ∧ j ≠ 32 ∧ (j < 52 ∨ 57 < j) → rg j = rg0 j := fun j hj => (hf9 j (hq10_21 hj)).trans (hof j hj)
        refine lv_iinc (v := (nI ((i + 1) + 1))) (lv' := [(4, .int (nI ((i + 1) + 1))), (3, .int (nI 0)), (0, .ref (mo 0)), (1, .int (nI t))]) hx hb dX5_fineSine_182 hl (k := 0) rfl (nI_1 _) (by decide) rfl (fun ls hl => ?_)
        refine lv_goto (tgt := 106) hx hb dX5_fineSine_185 (by decide) ?_
        exact ih (d9 - 1) (by omega) (i + 1) E z rg ls H locs (by omega) hv f_55 f_56 f_57  hof (lv_sub hl [0, 1, 2, 3] rfl) hw
  · have hodd : nn.natAbs % 2 = 1 := by rw [← hod9]; exact hc47
    clear hm
    refine lv_iconst (v := nI 1) hx hb dX5_fineSine_50 (by decide) ?_
    refine lv_goto (tgt := 55) hx hb dX5_fineSine_51 (by decide) ?_
    refine lv_istore_n (lv' := [(3, .int (nI 1)), (0, .ref (mo 0)), (1, .int (nI t)), (2, .int (nI x))]) hx hb dX5_fineSine_55 rfl hl (by decide) rfl (fun ls hl => ?_)
    refine lv_aload_n hx hb dX5_fineSine_56 rfl (lv_at hl 1 rfl) ?_
    refine lv_bipush (v := nI 55) hx hb dX5_fineSine_57 (by decide) ?_
    refine lv_bipush (v := nI 54) hx hb dX5_fineSine_59 (by decide) ?_
    refine lv_bipush (v := nI 26) hx hb dX5_fineSine_61 (by decide) ?_
    refine bd_cv (As := [.int (nI 55), .int (nI 54), .int (nI 26)]) (rest := []) C (v5_product _ _ _ _ _ hv 55 54 26 (by decide) (by decide) (by decide) (by rw [f_54, f_26]; exact (b34 (Nat.le_trans hn9 (by decide +kernel))))) (cwV 3 hts gX5_fineSine_X5_product rfl rfl rfl (by decide +kernel) ⟨Nat.le_of_ble_eq_true rfl, Nat.le_of_ble_eq_true rfl⟩) hsz hw (mv_recv C hw hv) dX5_fineSine_63 rfl hl.1 rfl (Nat.le_of_ble_eq_true rfl) ⟨Nat.le_refl _, Nat.le_refl _⟩ (fun E z H locs hp hw => ?_)
    obtain ⟨rg, hv, hv0_, hf9⟩ := hp
    have fT0_ : rg 55 = (nn * sp_PI (P + 64)) := hv0_.trans (by rw [f_54, f_26])
    have f_x : rg x = rg0 x := (hf9 x (by omega)).trans f_x
    have f_26 : rg 26 = (sp_PI (P + 64)) := (hf9 26 (by decide)).trans f_26
    have f_52 : rg 52 = (rg0 x * 2 + sp_PI (P + 64)) := (hf9 52 (by decide)).trans f_52
    have f_53 : rg 53 = (sp_PI (P + 64) * 2) := (hf9 53 (by decide)).trans f_53
    have f_54 : rg 54 = nn := (hf9 54 (by decide)).trans f_54
    have f_55 := fT0_
    have hof : ∀ j, j ≠ t ∧ j ≠ 32 ∧ (j < 52 ∨ 57 < j) → rg j = rg0 j := fun j hj => (hf9 j (hq10_21 hj)).trans (hof j hj)
    refine lv_aload_n hx hb dX5_fineSine_66 rfl (lv_at hl 1 rfl) ?_
    refine lv_bipush (v := nI 55) hx hb dX5_fineSine_67 (by decide) ?_
    refine lv_iload_n hx hb dX5_fineSine_69 rfl (lv_at hl 3 rfl) ?_
    refine lv_bipush (v := nI 55) hx hb dX5_fineSine_70 (by decide) ?_
    refine bd_cv (As := [.int (nI 55), .int (nI x), .int (nI 55)]) (rest := []) C (v5_minus _ _ _ _ _ hv 55 x 55 (by decide) (by omega) (by decide) (by rw [f_x, f_55]; exact (b34 (Nat.le_trans (sub_b hb1 hn9) (by decide +kernel))))) (cwV 3 hts gX5_fineSine_X5_minus rfl rfl rfl (by decide +kernel) ⟨Nat.le_of_ble_eq_true rfl, Nat.le_of_ble_eq_true rfl⟩) hsz hw (mv_recv C hw hv) dX5_fineSine_72 rfl hl.1 rfl (Nat.le_of_ble_eq_true rfl) ⟨Nat.le_refl _, Nat.le_refl _⟩ (fun E z H locs hp hw => ?_)
    obtain ⟨rg, hv, hv0_, hf9⟩ := hp
    have fT0_ : rg 55 = yy := hv0_.trans (by rw [f_x, f_55]; rw [hyy, hnn]; rfl)
    have f_x : rg x = rg0 x := (hf9 x (by omega)).trans f_x
    have f_26 : rg 26 = (sp_PI (P + 64)) := (hf9 26 (by decide)).trans f_26
    have f_52 : rg 52 = (rg0 x * 2 + sp_PI (P + 64)) := (hf9 52 (by decide)).trans f_52
    have f_53 : rg 53 = (sp_PI (P + 64) * 2) := (hf9 53 (by decide)).trans f_53
    have f_54 : rg 54 = nn := (hf9 54 (by decide)).trans f_54
    have f_55 := fT0_
    have hof : ∀ j, j ≠ t ∧ j ≠ 32 ∧ (j < 52 ∨ 57 < j) → rg j = rg0 j := fun j hj => (hf9 j (hq10_21 hj)).trans (hof j hj)
    refine lv_aload_n hx hb dX5_fineSine_75 rfl (lv_at hl 1 rfl) ?_
    refine lv_bipush (v := nI 56) hx hb dX5_fineSine_76 (by decide) ?_
    refine lv_bipush (v := nI 55) hx hb dX5_fineSine_78 (by decide) ?_
    refine lv_bipush (v := nI 55) hx hb dX5_fineSine_80 (by decide) ?_
    refine bd_cv (As := [.int (nI 56), .int (nI 55), .int (nI 55)]) (rest := []) C (v5_product _ _ _ _ _ hv 56 55 55 (by decide) (by decide) (by decide) (by rw [f_55]; exact (b34 (Nat.le_trans (mul_b hyb hyb) (by decide +kernel))))) (cwV 3 hts gX5_fineSine_X5_product rfl rfl rfl (by decide +kernel) ⟨Nat.le_of_ble_eq_true rfl, Nat.le_of_ble_eq_true rfl⟩) hsz hw (mv_recv C hw hv) dX5_fineSine_82 rfl hl.1 rfl (Nat.le_of_ble_eq_true rfl) ⟨Nat.le_refl _, Nat.le_refl _⟩ (fun E z H locs hp hw => ?_)
    obtain ⟨rg, hv, hv0_, hf9⟩ := hp
    have fT0_ : rg 56 = (yy * yy) := hv0_.trans (by rw [f_55])
    have f_x : rg x = rg0 x := (hf9 x (by omega)).trans f_x
    have f_26 : rg 26 = (sp_PI (P + 64)) := (hf9 26 (by decide)).trans f_26
    have f_52 : rg 52 = (rg0 x * 2 + sp_PI (P + 64)) := (hf9 52 (by decide)).trans f_52
    have f_53 : rg 53 = (sp_PI (P + 64) * 2) := (hf9 53 (by decide)).trans f_53
    have f_54 : rg 54 = nn := (hf9 54 (by decide)).trans f_54
    have f_55 : rg 55 = yy := (hf9 55 (by decide)).trans f_55
    have f_56 := fT0_
    have hof : ∀ j, j ≠ t ∧ j ≠ 32 ∧ (j < 52 ∨ 57 < j) → rg j = rg0 j := fun j hj => (hf9 j (hq10_22 hj)).trans (hof j hj)
    refine lv_aload_n hx hb dX5_fineSine_85 rfl (lv_at hl 1 rfl) ?_
    refine lv_bipush (v := nI 56) hx hb dX5_fineSine_86 (by decide) ?_
    refine lv_bipush (v := nI 56) hx hb dX5_fineSine_88 (by decide) ?_
    refine lv_aload_n hx hb dX5_fineSine_90 rfl (lv_at hl 1 rfl) ?_
    refine mv_g C i5 hw hv 2 (by decide) (v := .int (nI (P + 64))) rfl dX5_fineSine_91 lk27 ?_
    refine bd_cv (As := [.int (nI 56), .int (nI 56), .int (nI (P + 64))]) (rest := []) C (v5_down _ _ _ _ _ hv 56 56 (P + 64) (by decide) (by decide) (by decide) hP64) (cwV 3 hts gX5_fineSine_X5_down rfl rfl rfl (by decide +kernel) ⟨Nat.le_of_ble_eq_true rfl, Nat.le_of_ble_eq_true rfl⟩) hsz hw (mv_recv C hw hv) dX5_fineSine_94 rfl hl.1 rfl (Nat.le_of_ble_eq_true rfl) ⟨Nat.le_refl _, Nat.le_refl _⟩ (fun E z H locs hp hw => ?_)
    obtain ⟨rg, hv, hv0_, hf9⟩ := hp
    have fT0_ : rg 56 = ss := hv0_.trans (by rw [f_56]; exact hss.symm)
    have f_x : rg x = rg0 x := (hf9 x (by omega) (by omega)).trans f_x
    have f_26 : rg 26 = (sp_PI (P + 64)) := (hf9 26 (by decide) (by decide)).trans f_26
    have f_52 : rg 52 = (rg0 x * 2 + sp_PI (P + 64)) := (hf9 52 (by decide) (by decide)).trans f_52
    have f_53 : rg 53 = (sp_PI (P + 64) * 2) := (hf9 53 (by decide) (by decide)).trans f_53
    have f_54 : rg 54 = nn := (hf9 54 (by decide) (by decide)).trans f_54
    have f_55 : rg 55 = yy := (hf9 55 (by decide) (by decide)).trans f_55
    have f_56 := fT0_
    have hof : ∀ j, j ≠ t ∧ j ≠ 32 ∧ (j < 52 ∨ 57 < j) → rg j = rg0 j := fun j hj => (hf9 j (hq10_22 hj) (hq10_20 hj)).trans (hof j hj)
    refine lv_aload_n hx hb dX5_fineSine_97 rfl (lv_at hl 1 rfl) ?_
    refine lv_bipush (v := nI 57) hx hb dX5_fineSine_98 (by decide) ?_
    refine bd_cv (As := [.int (nI 57)]) (rest := []) C (v5_none _ _ _ _ _ hv 57 (by decide)) (cwV 1 hts gX5_fineSine_X5_none rfl rfl rfl (by decide +kernel) ⟨Nat.le_of_ble_eq_true rfl, Nat.le_of_ble_eq_true rfl⟩) hsz hw (mv_recv C hw hv) dX5_fineSine_100 rfl hl.1 rfl (Nat.le_of_ble_eq_true rfl) ⟨Nat.le_refl _, Nat.le_refl _⟩ (fun E z H locs hp hw => ?_)
    obtain ⟨rg, hv, hv0_, hf9⟩ := hp
    have fT0_ : rg 57 = 0 := hv0_.trans (by rfl)
    have f_x : rg x = rg0 x := (hf9 x (by omega)).trans f_x
    have f_26 : rg 26 = (sp_PI (P + 64)) := (hf9 26 (by decide)).trans f_26
    have f_52 : rg 52 = (rg0 x * 2 + sp_PI (P + 64)) := (hf9 52 (by decide)).trans f_52
    have f_53 : rg 53 = (sp_PI (P + 64) * 2) := (hf9 53 (by decide)).trans f_53
    have f_54 : rg 54 = nn := (hf9 54 (by decide)).trans f_54
    have f_55 : rg 55 = yy := (hf9 55 (by decide)).trans f_55
    have f_56 : rg 56 = ss := (hf9 56 (by decide)).trans f_56
    have f_57 := fT0_
    have hof : ∀ j, j ≠ t ∧ j ≠ 32 ∧ (j < 52 ∨ 57 < j) → rg j = rg0 j := fun j hj => (hf9 j (hq10_23 hj)).trans (hof j hj)
    refine lv_iconst (v := nI 1) hx hb dX5_fineSine_103 (by decide) ?_
    refine lv_istore (lv' := [(4, .int (nI 1)), (3, .int (nI 1)), (0, .ref (mo 0)), (1, .int (nI t)), (2, .int (nI x))]) hx hb dX5_fineSine_104 hl (by decide) rfl (fun ls hl => ?_)
    suffices hloop : ∀ (d9 i : Nat) (E : Nat → va_E) (z : Nat → Wh) (rg : Nat → Int) (ls : Array Slot) (H : Heap) (locs : List Loc), i + d9 = m0 → md_v K E mo th P rg → (rg 55 = ((sn_p ((2 ^ (P + 64) : Nat) : Int) ss yy) i)) → (rg 56 = ss) → (rg 57 = (sp_sum (sn_p ((2 ^ (P + 64) : Nat) : Int) ss yy) i)) → (∀ j, j ≠ t ∧ j ≠ 32 ∧ (j < 52 ∨ 57 < j) → rg j = rg0 j) → lv_has ls 5 [(4, .int (nI (i + 1))), (3, .int (nI 1)), (0, .ref (mo 0)), (1, .int (nI t))] → bd_W K E z (bd_A K sz) s.heap H locs → W p l e (headSpec wsX5_fineSine ({ frames := 6, cells := 0, slots := 0, locals := 200 })).room s m [.ref (mo 0), .int (nI t), .int (nI x)].toArray below meth c H locs 0 0 (MQ below (va_Qv (fun u => ∃ rg : Nat → Int, md_v K u.1 mo th P rg ∧ rg t = sp_SIN (P + 64) (rg0 x) ∧ ∀ j, j ≠ t ∧ j ≠ 32 ∧ (j < 52 ∨ 57 < j) → rg j = rg0 j) (bd_B K) (bd_A K sz)) [.ref (mo 0), .int (nI t), .int (nI x)].toArray s 0 0 (bd_A K sz)) (F0 m 106 ls []) from hloop m0 0 E z rg ls _ _ (by omega) hv f_55 f_56 f_57  hof (lv_sub hl [0, 1, 2, 3] rfl) hw
    clear hw hl ls hv hof f_x f_26 f_52 f_53 f_54 f_55 f_56 f_57 
    intro d9
    induction d9 using Nat.strongRecOn with
    | ind d9 ih =>
      intro i E z rg ls H locs hjd9 hv f_55 f_56 f_57  hof hl hw
      have hpi : ((sn_p ((2 ^ (P + 64) : Nat) : Int) ss yy) i).natAbs ≤ 2 ^ 258 := Nat.le_trans (sn_le hH i) hyb
      have hsm : (sp_sum (sn_p ((2 ^ (P + 64) : Nat) : Int) ss yy) i).natAbs ≤ 2 ^ 300 := Nat.le_trans (sn_sum hH i) (Nat.le_trans (Nat.mul_le_mul (show i ≤ 1000 by omega) hyb) (by decide +kernel))
      change hid _ at hpi hsm
      refine lv_aload_n hx hb dX5_fineSine_106 rfl (lv_at hl 2 rfl) ?_
      refine mv_g C i5 hw hv 4 (by decide) (v := .ref (mo 2)) rfl dX5_fineSine_107 lk13 ?_
      refine lv_bipush (v := nI 55) hx hb dX5_fineSine_110 (by decide) ?_
      refine mv_ld2 C hw hv (r := 55) dX5_fineSine_112 (by omega) ?_
      rw [f_55]
      refine lv_if_eq (tgt := 188) hx hb dX5_fineSine_113 (by decide) (fun hc113 => ?_) (fun hc113 => ?_)
      · have hz9 : ((sn_p ((2 ^ (P + 64) : Nat) : Int) ss yy) i) = 0 := sg_0 hc113
        have him : i = m0 := (Nat.lt_or_ge i m0).elim (fun q => absurd hz9 (hend.2 i q)) (fun q => by omega)
        rw [him] at f_57
        refine lv_aload_n hx hb dX5_fineSine_188 rfl (lv_at hl 2 rfl) ?_
        refine mv_g C i5 hw hv 4 (by decide) (v := .ref (mo 2)) rfl dX5_fineSine_189 lk13 ?_
        refine lv_bipush (v := nI 57) hx hb dX5_fineSine_192 (by decide) ?_
        refine lv_iload_n hx hb dX5_fineSine_194 rfl (lv_at hl 1 rfl) ?_
        refine bd_zeq (h1 := by decide) (tgt := 209) hx hb dX5_fineSine_195 (by decide) (fun hc195 => ?_) (fun hc195 => ?_)
        · exact absurd hc195 (by decide)
        · refine lv_aload_n hx hb dX5_fineSine_198 rfl (lv_at hl 2 rfl) ?_
          refine mv_g C i5 hw hv 4 (by decide) (v := .ref (mo 2)) rfl dX5_fineSine_199 lk13 ?_
          refine lv_bipush (v := nI 57) hx hb dX5_fineSine_202 (by decide) ?_
          refine mv_ld2 C hw hv (r := 57) dX5_fineSine_204 (by omega) ?_
          rw [f_57]
          refine bd_ineg (v := -(q_sg (sp_sum (sn_p ((2 ^ (P + 64) : Nat) : Int) ss yy) m0))) hx hb dX5_fineSine_205 rfl ?_
          refine lv_goto (tgt := 216) hx hb dX5_fineSine_206 (by decide) ?_
          refine mv_st2 C hw hv (r := 57) (-(sp_sum (sn_p ((2 ^ (P + 64) : Nat) : Int) ss yy) m0)) (by rw [f_57, Int.natAbs_neg]) (sg_neg _) dX5_fineSine_216 (by omega) (fun E rg H locs hv hv0_ hf9 hw => ?_)
          have fT0_ : rg 57 = -(sp_sum (sn_p ((2 ^ (P + 64) : Nat) : Int) ss yy) m0) := hv0_.trans (by rfl)
          have f_55 : rg 55 = ((sn_p ((2 ^ (P + 64) : Nat) : Int) ss yy) i) := (hf9 55 (by decide)).trans f_55
          have f_56 : rg 56 = ss := (hf9 56 (by decide)).trans f_56
          have f_57 := fT0_
          have hof : ∀ j, j ≠ t ∧ j ≠ 32 ∧ (j < 52 ∨ 57 < j) → rg j = rg0 j := fun j hj => (hf9 j (hq10_23 hj)).trans (hof j hj)
          refine lv_aload_n hx hb dX5_fineSine_217 rfl (lv_at hl 2 rfl) ?_
          refine lv_iload_n hx hb dX5_fineSine_218 rfl (lv_at hl 3 rfl) ?_
          refine lv_bipush (v := nI 57) hx hb dX5_fineSine_219 (by decide) ?_
          refine bd_cv (As := [.int (nI t), .int (nI 57)]) (rest := []) C (v5_copy _ _ _ _ _ hv t 57 (by omega) (by decide)) (cwV 2 hts gX5_fineSine_X5_copy rfl rfl rfl (by decide +kernel) ⟨Nat.le_of_ble_eq_true rfl, Nat.le_of_ble_eq_true rfl⟩) hsz hw (mv_recv C hw hv) dX5_fineSine_221 rfl hl.1 rfl (Nat.le_of_ble_eq_true rfl) ⟨Nat.le_refl _, Nat.le_refl _⟩ (fun E z H locs hp hw => ?_)
          obtain ⟨rg, hv, hv0_, hf9⟩ := hp
          have fT0_ : rg t = -(sp_sum (sn_p ((2 ^ (P + 64) : Nat) : Int) ss yy) m0) := hv0_.trans (by rw [f_57])
          have f_57 : rg 57 = -(sp_sum (sn_p ((2 ^ (P + 64) : Nat) : Int) ss yy) m0) := (hf9 57 (by omega)).trans f_57
          have f_t := fT0_
          have hof : ∀ j, j ≠ t ∧ j ≠ 32 ∧ (j < 52 ∨ 57 < j) → rg j = rg0 j := fun j hj => (hf9 j (hq10_24 hj)).trans (hof j hj)
          exact bd_vret C hr hlk hw dX5_fineSine_224 ⟨rg, hv, hSIN _ ⟨m0, hend, by rw [if_pos hodd, f_t]⟩, hof⟩
      · have hz9 : ¬ ((sn_p ((2 ^ (P + 64) : Nat) : Int) ss yy) i) = 0 := fun q => hc113 (by rw [q]; rfl)
        have him : i < m0 := (Nat.lt_or_ge i m0).elim id (fun q => absurd (show ((sn_p ((2 ^ (P + 64) : Nat) : Int) ss yy) i) = 0 by rw [show i = m0 by omega]; exact hend.1) hz9)
        obtain ⟨hdv0, hdv1⟩ := sn_dv (show i < 10000 by omega)
        refine lv_aload_n hx hb dX5_fineSine_116 rfl (lv_at hl 2 rfl) ?_
        refine lv_bipush (v := nI 57) hx hb dX5_fineSine_117 (by decide) ?_
        refine lv_bipush (v := nI 57) hx hb dX5_fineSine_119 (by decide) ?_
        refine lv_bipush (v := nI 55) hx hb dX5_fineSine_121 (by decide) ?_
        refine bd_cv (As := [.int (nI 57), .int (nI 57), .int (nI 55)]) (rest := []) C (v5_plus _ _ _ _ _ hv 57 57 55 (by decide) (by decide) (by decide) (by rw [f_57, f_55]; exact (b34 (Nat.le_trans (add_b hsm hpi) (by decide +kernel))))) (cwV 3 hts gX5_fineSine_X5_plus rfl rfl rfl (by decide +kernel) ⟨Nat.le_of_ble_eq_true rfl, Nat.le_of_ble_eq_true rfl⟩) hsz hw (mv_recv C hw hv) dX5_fineSine_123 rfl hl.1 rfl (Nat.le_of_ble_eq_true rfl) ⟨Nat.le_refl _, Nat.le_refl _⟩ (fun E z H locs hp hw => ?_)
        obtain ⟨rg, hv, hv0_, hf9⟩ := hp
        have fT0_ : rg 57 = (sp_sum (sn_p ((2 ^ (P + 64) : Nat) : Int) ss yy) (i + 1)) := hv0_.trans (by rw [f_57, f_55]; rfl)
        have f_55 : rg 55 = ((sn_p ((2 ^ (P + 64) : Nat) : Int) ss yy) i) := (hf9 55 (by decide)).trans f_55
        have f_56 : rg 56 = ss := (hf9 56 (by decide)).trans f_56
        have f_57 := fT0_
        have hof : ∀ j, j ≠ t ∧ j ≠ 32 ∧ (j < 52 ∨ 57 < j) → rg j = rg0 j := fun j hj => (hf9 j (hq10_23 hj)).trans (hof j hj)
        refine lv_aload_n hx hb dX5_fineSine_126 rfl (lv_at hl 2 rfl) ?_
        refine lv_bipush (v := nI 52) hx hb dX5_fineSine_127 (by decide) ?_
        refine lv_bipush (v := nI 55) hx hb dX5_fineSine_129 (by decide) ?_
        refine lv_bipush (v := nI 56) hx hb dX5_fineSine_131 (by decide) ?_
        refine bd_cv (As := [.int (nI 52), .int (nI 55), .int (nI 56)]) (rest := []) C (v5_product _ _ _ _ _ hv 52 55 56 (by decide) (by decide) (by decide) (by rw [f_55, f_56]; exact (b34 (Nat.le_trans (mul_b hpi hssb) (by decide +kernel))))) (cwV 3 hts gX5_fineSine_X5_product rfl rfl rfl (by decide +kernel) ⟨Nat.le_of_ble_eq_true rfl, Nat.le_of_ble_eq_true rfl⟩) hsz hw (mv_recv C hw hv) dX5_fineSine_133 rfl hl.1 rfl (Nat.le_of_ble_eq_true rfl) ⟨Nat.le_refl _, Nat.le_refl _⟩ (fun E z H locs hp hw => ?_)
        obtain ⟨rg, hv, hv0_, hf9⟩ := hp
        have fT0_ : rg 52 = (((sn_p ((2 ^ (P + 64) : Nat) : Int) ss yy) i) * ss) := hv0_.trans (by rw [f_55, f_56])
        have f_55 : rg 55 = ((sn_p ((2 ^ (P + 64) : Nat) : Int) ss yy) i) := (hf9 55 (by decide)).trans f_55
        have f_56 : rg 56 = ss := (hf9 56 (by decide)).trans f_56
        have f_57 : rg 57 = (sp_sum (sn_p ((2 ^ (P + 64) : Nat) : Int) ss yy) (i + 1)) := (hf9 57 (by decide)).trans f_57
        have f_52 := fT0_
        have hof : ∀ j, j ≠ t ∧ j ≠ 32 ∧ (j < 52 ∨ 57 < j) → rg j = rg0 j := fun j hj => (hf9 j (hq10_17 hj)).trans (hof j hj)
        refine lv_aload_n hx hb dX5_fineSine_136 rfl (lv_at hl 2 rfl) ?_
        refine lv_bipush (v := nI 52) hx hb dX5_fineSine_137 (by decide) ?_
        refine lv_bipush (v := nI 52) hx hb dX5_fineSine_139 (by decide) ?_
        refine lv_aload_n hx hb dX5_fineSine_141 rfl (lv_at hl 2 rfl) ?_
        refine mv_g C i5 hw hv 2 (by decide) (v := .int (nI (P + 64))) rfl dX5_fineSine_142 lk27 ?_
        refine bd_cv (As := [.int (nI 52), .int (nI 52), .int (nI (P + 64))]) (rest := []) C (v5_down _ _ _ _ _ hv 52 52 (P + 64) (by decide) (by decide) (by decide) hP64) (cwV 3 hts gX5_fineSine_X5_down rfl rfl rfl (by decide +kernel) ⟨Nat.le_of_ble_eq_true rfl, Nat.le_of_ble_eq_true rfl⟩) hsz hw (mv_recv C hw hv) dX5_fineSine_145 rfl hl.1 rfl (Nat.le_of_ble_eq_true rfl) ⟨Nat.le_refl _, Nat.le_refl _⟩ (fun E z H locs hp hw => ?_)
        obtain ⟨rg, hv, hv0_, hf9⟩ := hp
        have fT0_ : rg 52 = (((sn_p ((2 ^ (P + 64) : Nat) : Int) ss yy) i) * ss / ((2 ^ (P + 64) : Nat) : Int)) := hv0_.trans (by rw [f_52])
        have f_55 : rg 55 = ((sn_p ((2 ^ (P + 64) : Nat) : Int) ss yy) i) := (hf9 55 (by decide) (by decide)).trans f_55
        have f_56 : rg 56 = ss := (hf9 56 (by decide) (by decide)).trans f_56
        have f_57 : rg 57 = (sp_sum (sn_p ((2 ^ (P + 64) : Nat) : Int) ss yy) (i + 1)) := (hf9 57 (by decide) (by decide)).trans f_57
        have f_52 := fT0_
        have hof : ∀ j, j ≠ t ∧ j ≠ 32 ∧ (j < 52 ∨ 57 < j) → rg j = rg0 j := fun j hj => (hf9 j (hq10_17 hj) (hq10_20 hj)).trans (hof j hj)
        refine lv_aload_n hx hb dX5_fineSine_148 rfl (lv_at hl 2 rfl) ?_
        refine lv_bipush (v := nI 55) hx hb dX5_fineSine_149 (by decide) ?_
        refine lv_bipush (v := nI 52) hx hb dX5_fineSine_151 (by decide) ?_
        refine lv_iconst (v := nI 2) hx hb dX5_fineSine_153 (by decide) ?_
        refine lv_iload hx hb dX5_fineSine_154 (lv_at hl 0 rfl) ?_
        refine bd_imul (v := (nI (2 * (i + 1)))) hx hb dX5_fineSine_156 (nI_mul _ _) ?_
        refine lv_iconst (v := nI 2) hx hb dX5_fineSine_157 (by decide) ?_
        refine lv_iload hx hb dX5_fineSine_158 (lv_at hl 0 rfl) ?_
        refine bd_imul (v := (nI (2 * (i + 1)))) hx hb dX5_fineSine_160 (nI_mul _ _) ?_
        refine lv_iconst (v := nI 1) hx hb dX5_fineSine_161 (by decide) ?_
        refine bd_iadd (v := nI ((2 * (i + 1)) + 1)) hx hb dX5_fineSine_162 (nI_add _ _) ?_
        refine bd_imul (v := (nI ((2 * (i + 1)) * ((2 * (i + 1)) + 1)))) hx hb dX5_fineSine_163 (nI_mul _ _) ?_
        refine bd_cv (As := [.int (nI 55), .int (nI 52), .int (nI ((2 * (i + 1)) * ((2 * (i + 1)) + 1)))]) (rest := []) C (v5_divideSmall _ _ _ _ _ hv 55 52 ((2 * (i + 1)) * ((2 * (i + 1)) + 1)) (by decide) (by decide) (by decide) hdv0 hdv1) (cwV 3 hts gX5_fineSine_X5_divideSmall rfl rfl rfl (by decide +kernel) ⟨Nat.le_of_ble_eq_true rfl, Nat.le_of_ble_eq_true rfl⟩) hsz hw (mv_recv C hw hv) dX5_fineSine_164 rfl hl.1 rfl (Nat.le_of_ble_eq_true rfl) ⟨Nat.le_refl _, Nat.le_refl _⟩ (fun E z H locs hp hw => ?_)
        obtain ⟨rg, hv, hv0_, hf9⟩ := hp
        have fT0_ : rg 55 = (((sn_p ((2 ^ (P + 64) : Nat) : Int) ss yy) i) * ss / ((2 ^ (P + 64) : Nat) : Int) / (((2 * (i + 1)) * ((2 * (i + 1)) + 1) : Nat) : Int)) := hv0_.trans (by rw [f_52])
        have f_56 : rg 56 = ss := (hf9 56 (by decide) (by decide)).trans f_56
        have f_57 : rg 57 = (sp_sum (sn_p ((2 ^ (P + 64) : Nat) : Int) ss yy) (i + 1)) := (hf9 57 (by decide) (by decide)).trans f_57
        have f_52 : rg 52 = (((sn_p ((2 ^ (P + 64) : Nat) : Int) ss yy) i) * ss / ((2 ^ (P + 64) : Nat) : Int)) := (hf9 52 (by decide) (by decide)).trans f_52
        have f_55 := fT0_
        have hof : ∀ j, j ≠ t ∧ j ≠ 32 ∧ (j < 52 ∨ 57 < j) → rg j = rg0 j := fun j hj => (hf9 j (hq10_21 hj) (hq10_20 hj)).trans (hof j hj)
        refine lv_aload_n hx hb dX5_fineSine_167 rfl (lv_at hl 2 rfl) ?_
        refine mv_g C i5 hw hv 4 (by decide) (v := .ref (mo 2)) rfl dX5_fineSine_168 lk13 ?_
        refine lv_bipush (v := nI 55) hx hb dX5_fineSine_171 (by decide) ?_
        refine lv_aload_n hx hb dX5_fineSine_173 rfl (lv_at hl 2 rfl) ?_
        refine mv_g C i5 hw hv 4 (by decide) (v := .ref (mo 2)) rfl dX5_fineSine_174 lk13 ?_
        refine lv_bipush (v := nI 55) hx hb dX5_fineSine_177 (by decide) ?_
        refine mv_ld2 C hw hv (r := 55) dX5_fineSine_179 (by omega) ?_
        rw [f_55]
        refine bd_ineg (v := -(q_sg (((sn_p ((2 ^ (P + 64) : Nat) : Int) ss yy) i) * ss / ((2 ^ (P + 64) : Nat) : Int) / (((2 * (i + 1)) * ((2 * (i + 1)) + 1) : Nat) : Int)))) hx hb dX5_fineSine_180 rfl ?_
        refine mv_st2 C hw hv (r := 55) ((sn_p ((2 ^ (P + 64) : Nat) : Int) ss yy) (i + 1)) (by rw [f_55]; exact Int.natAbs_neg _) (sg_neg (((sn_p ((2 ^ (P + 64) : Nat) : Int) ss yy) i) * ss / ((2 ^ (P + 64) : Nat) : Int) / (((2 * (i + 1)) * ((2 * (i + 1)) + 1) : Nat) : Int))) dX5_fineSine_181 (by omega) (fun E rg H locs hv hv0_ hf9 hw => ?_)
        have fT0_ : rg 55 = (sn_p ((2 ^ (P + 64) : Nat) : Int) ss yy) (i + 1) := hv0_.trans (by rfl)
        have f_56 : rg 56 = ss := (hf9 56 (by decide)).trans f_56
        have f_57 : rg 57 = (sp_sum (sn_p ((2 ^ (P + 64) : Nat) : Int) ss yy) (i + 1)) := (hf9 57 (by decide)).trans f_57
        have f_52 : rg 52 = (((sn_p ((2 ^ (P + 64) : Nat) : Int) ss yy) i) * ss / ((2 ^ (P + 64) : Nat) : Int)) := (hf9 52 (by decide)).trans f_52
        have f_55 := fT0_
        have hof : ∀ j, j ≠ t ∧ j ≠ 32 ∧ (j < 52 ∨ 57 < j) → rg j = rg0 j := fun j hj => (hf9 j (hq10_21 hj)).trans (hof j hj)
        refine lv_iinc (v := (nI ((i + 1) + 1))) (lv' := [(4, .int (nI ((i + 1) + 1))), (3, .int (nI 1)), (0, .ref (mo 0)), (1, .int (nI t))]) hx hb dX5_fineSine_182 hl (k := 0) rfl (nI_1 _) (by decide) rfl (fun ls hl => ?_)
        refine lv_goto (tgt := 106) hx hb dX5_fineSine_185 (by decide) ?_
        exact ih (d9 - 1) (by omega) (i + 1) E z rg ls H locs (by omega) hv f_55 f_56 f_57  hof (lv_sub hl [0, 1, 2, 3] rfl) hw
