/-! BallDesk: set, pi, widen, root, exp, log, arc (laid by wip/gen/m_desk5.py) -/
theorem e_b {x y : Int} (h1 : x.natAbs ≤ 2 ^ 240) (h2 : y.natAbs ≤ 2 ^ 240) : (x - y).natAbs ≤ 2 ^ 241 ∧ (x + y).natAbs ≤ 2 ^ 241 := by
  refine ⟨?_, Nat.le_trans (add_b h1 h2) (by decide +kernel)⟩
  rw [Int.sub_eq_add_neg]
  exact Nat.le_trans (add_b h1 (neg_b h2)) (by decide +kernel)
theorem clb {v : Int} (h : v.natAbs ≤ 2 ^ 500) : (dk_cl v).natAbs ≤ 2 ^ 700 := Nat.le_trans (add_b (Nat.le_trans (fl_abs (Nat.pow_pos (by decide))) h) (Nat.le_refl (-1 : Int).natAbs)) (by decide +kernel)
theorem chb {v : Int} (h : v.natAbs ≤ 2 ^ 500) : (dk_ch v).natAbs ≤ 2 ^ 700 := Nat.le_trans (add_b (Nat.le_trans (fl_abs (Nat.pow_pos (by decide))) h) (Nat.le_refl (2 : Int).natAbs)) (by decide +kernel)
theorem ex_b {P : Nat} {v : Int} (h1 : -(16 * dk_p P) ≤ v) (h2 : v ≤ 16 * dk_p P) : (v * dk_p 64).natAbs ≤ 2 ^ (P + 64 + 4) := by
  have h3 : v.natAbs ≤ 16 * 2 ^ P := by
    have h0 : dk_p P = ((2 ^ P : Nat) : Int) := rfl
    rw [h0] at h1 h2
    generalize 2 ^ P = p at *
    omega
  rw [Int.natAbs_mul, Int.natAbs_natCast, show P + 64 + 4 = P + (4 + 64) by omega, Nat.pow_add, Nat.pow_add 2 4 64]
  have := Nat.mul_le_mul_right (2 ^ 64) h3
  rw [Nat.mul_comm 16 (2 ^ P), Nat.mul_assoc] at this
  exact this
theorem lg_e {P : Nat} {x y : Int} (h1 : x.natAbs ≤ 2 ^ (P + 48)) (h2 : 0 ≤ y) (h3 : y.natAbs ≤ 2 ^ (P + 48)) (h4 : 0 < x - y) : 0 < (x - y) * dk_p 64 ∧ 0 < (x + y) * dk_p 64 ∧ ((x - y) * dk_p 64).natAbs < 2 ^ (P + 64 + 50) ∧ ((x + y) * dk_p 64).natAbs < 2 ^ (P + 64 + 50) := by
  have hp : (0 : Int) < dk_p 64 := Int.natCast_pos.mpr (Nat.pow_pos (by decide))
  have hd : (dk_p 64).natAbs = 2 ^ 64 := Int.natAbs_natCast _
  have h5 : (x - y).natAbs ≤ 2 ^ (P + 48) * 2 := by omega
  have h6 : (x + y).natAbs ≤ 2 ^ (P + 48) * 2 := by omega
  have h7 : 2 ^ (P + 64 + 50) = 2 ^ (P + 48) * (4 * 2 ^ 64) := by
    rw [show P + 64 + 50 = P + 48 + (2 + 64) by omega, Nat.pow_add, Nat.pow_add 2 2 64]
  have h8 : 0 < 2 ^ (P + 48) := Nat.pow_pos (by decide)
  rw [Int.natAbs_mul, Int.natAbs_mul, hd, h7]
  refine ⟨Int.mul_pos h4 hp, Int.mul_pos (by omega) hp, ?_, ?_⟩
  · refine Nat.lt_of_le_of_lt (Nat.mul_le_mul_right _ h5) ?_
    generalize 2 ^ (P + 48) = q at *
    omega
  · refine Nat.lt_of_le_of_lt (Nat.mul_le_mul_right _ h6) ?_
    generalize 2 ^ (P + 48) = q at *
    omega
set_option maxHeartbeats 4000000 in
set_option maxRecDepth 100000 in
/-- BallDesk.set -/
theorem c4_set (l : Launch) (K : Cxt) (E0 : Nat → va_E) (z0 : Nat → Wh) (sz : Nat) {P : Nat} {a B : Nat → Nat} (hbk : bk_at K E0 P a B) {sg0 : Nat → Int} (hS : sg_S K z0 sg0) {mu ra : Nat → Int} (hiv : bk_iv P B sg0 mu ra) (k : Int32) (x y : Int64)  : Met l yX4_set wsX4_set ({ frames := 7, cells := 0, slots := 0, locals := 240 }) (va_Pc [.ref (a 0), .int k, .long x, .long y] (bd_P K E0 z0 sz)) (va_Qi (bk_post K P a B (dk_set P k x.toInt y.toInt mu ra)) (bd_B K) (bd_A K sz)) 0 0 (bd_A K sz) := by
  refine bd_ofW (cc := cX4_set) (maxL := 7) (ret := (some .int)) (by decide) rfl (Nat.le_of_ble_eq_true rfl) ?_
  intro p e s m below meth c ls C hr hlk hsz hw hl
  have hx := C.1
  have hb := C.2.1
  have hown := C.2.2.2.1
  have hts := C.2.2.2.2.1
  have i4 : ∀ w ∈ wsX40, w ∈ wsX4_set := by decide +kernel
  have ib0 : ∀ w ∈ wsX00, w ∈ wsX4_set := by decide +kernel
  have lk33 : Cond.fieldLink RX4 33 "BallDesk" "left" "LBallDesk$Whole;" ∈ wsX4_set := by decide +kernel
  have lk58 : Cond.fieldLink RX4 58 "BallDesk" "bits" "I" ∈ wsX4_set := by decide +kernel
  have lk36 : Cond.fieldLink RX4 36 "BallDesk" "right" "LBallDesk$Whole;" ∈ wsX4_set := by decide +kernel
  have lk45 : Cond.fieldLink RX4 45 "BallDesk" "division" "LBallDesk$Division;" ∈ wsX4_set := by decide +kernel
  have lk23 : Cond.fieldLink RX4 23 "BallDesk" "made" "LBallDesk$Ball;" ∈ wsX4_set := by decide +kernel
  have lk85 : Cond.fieldLink RX4 85 "BallDesk$Ball" "middle" "LBallDesk$Whole;" ∈ wsX4_set := by decide +kernel
  have lk92 : Cond.fieldLink RX4 92 "BallDesk$Ball" "radius" "LBallDesk$Whole;" ∈ wsX4_set := by decide +kernel
  obtain ⟨hP1, hP2⟩ := bk_P hbk
  have hl : lv_has ls 7 [(0, .ref (a 0)), (1, .int k), (2, .long x), (4, .long y)] := hl
  have hof : ∀ j, (j = 0 ∨ 8 ≤ j) → j < 32 → sg0 (B j) = sg0 (B j) := fun _ _ _ => rfl
  have hfi := hiv.2.1
  refine lv_iload_n hx hb dX4_set_0 rfl (lv_at hl 1 rfl) ?_
  refine bd_sip (As := [.int k]) (rest := []) C (c4_isPlace _ _ _ _ _ k) (va_cwS 1 hts gX4_set_X4_isPlace rfl rfl rfl (by decide +kernel) ⟨Nat.le_of_ble_eq_true rfl, Nat.le_of_ble_eq_true rfl⟩) hsz hw dX4_set_1 rfl hl.1 rfl (Nat.le_of_ble_eq_true rfl) ⟨Nat.le_refl _, Nat.le_refl _⟩ (fun H locs hw => ?_)
  refine lv_if_eq (tgt := 14) hx hb dX4_set_4 (by decide) (fun hc4 => ?_) (fun hc4 => ?_)
  · have hno := pl_f hc4
    refine lv_iconst (v := (-1)) hx hb dX4_set_14 (by decide) ?_
    have hd9 : dk_set P k x.toInt y.toInt mu ra = (-1, mu, ra) := if_neg (fun q => hno q.1)
    exact bd_iret C hr hlk hw dX4_set_15 (by rw [hd9]; exact ⟨rfl, hbk, sg0, hS, bk_ivm hiv hof hfi⟩)
  · have hpl_kn := pl_t hc4
    obtain ⟨kn, hkn, hk_kn, hx_kn⟩ := pl_x hpl_kn
    subst hk_kn
    refine lv_lload hx hb dX4_set_7 (lv_at hl 3 rfl) ?_
    refine lv_lconst (v := lN 0) hx hb dX4_set_9 rfl ?_
    refine bd_lcmp (v := (lg_cmp y (lN 0))) hx hb dX4_set_10 (rfl) ?_
    refine lv_if_gt (tgt := 16) hx hb dX4_set_11 (by decide) (fun hc11 => ?_) (fun hc11 => ?_)
    · rw [lg_q3] at hc11
      have hyp : 0 < y.toInt := q3_gt.mp hc11
      obtain ⟨ju, hju⟩ : ∃ ju : Nat, (x.toInt * dk_p P % y.toInt = 0 ∧ ju = 1) ∨ (¬ x.toInt * dk_p P % y.toInt = 0 ∧ ju = 0) := by
        by_cases h : x.toInt * dk_p P % y.toInt = 0
        · exact ⟨1, Or.inl ⟨h, rfl⟩⟩
        · exact ⟨0, Or.inr ⟨h, rfl⟩⟩
      refine lv_aload_n hx hb dX4_set_16 rfl (lv_at hl 0 rfl) ?_
      refine bk_g C i4 hw hbk 6 (by decide) (v := .ref (B 3)) rfl dX4_set_17 lk33 ?_
      refine lv_lload_n hx hb dX4_set_20 rfl (lv_at hl 2 rfl) ?_
      refine sv_v (As := [.long x]) (rest := []) C (v3_become _ _ _ _ _ hS (B 3) x (bk_in hbk (i := 3) (by omega))) (cwV 1 hts gX4_set_X3_become rfl rfl rfl (by decide +kernel) ⟨Nat.le_of_ble_eq_true rfl, Nat.le_of_ble_eq_true rfl⟩) hsz hw (bd_recv C hw (bk_in hbk (i := 3) (by omega))) dX4_set_21 rfl hl.1 rfl (Nat.le_of_ble_eq_true rfl) ⟨Nat.le_refl _, Nat.le_refl _⟩ (fun z sg H locs hv9 hf9 hS hw => ?_)
      have fT9 : sg (B 3) = x.toInt := hv9.trans (by rfl)
      have f_3 := fT9
      have hof : ∀ j, (j = 0 ∨ 8 ≤ j) → j < 32 → sg (B j) = sg0 (B j) := fun j h1 h2 => (hf9 (B j) (bk_ne hbk (i := j) (j := 3) (by omega) (by omega) (by omega))).trans (hof j h1 h2)
      have hfi : fn_iv (P + 64) (bk_A B) sg := fn_ivm hfi (hf9 (bk_A B 1) (bk_ne hbk (i := 31 + 1) (j := 3) (by decide) (by decide) (by decide))) (hf9 (bk_A B 2) (bk_ne hbk (i := 31 + 2) (j := 3) (by decide) (by decide) (by decide))) (hf9 (bk_A B 3) (bk_ne hbk (i := 31 + 3) (j := 3) (by decide) (by decide) (by decide)))
      refine lv_aload_n hx hb dX4_set_24 rfl (lv_at hl 0 rfl) ?_
      refine bk_g C i4 hw hbk 6 (by decide) (v := .ref (B 3)) rfl dX4_set_25 lk33 ?_
      refine lv_aload_n hx hb dX4_set_28 rfl (lv_at hl 0 rfl) ?_
      refine bk_g C i4 hw hbk 0 (by decide) (v := .int (nI P)) rfl dX4_set_29 lk58 ?_
      refine sv_v (As := [.int (nI P)]) (rest := []) C (v3_raise _ _ _ _ _ hS (B 3) P 2 (bk_in hbk (i := 3) (by omega)) (by omega) (by rw [f_3]; exact (Nat.lt_of_le_of_lt (i64_b x) (by decide +kernel))) (by omega)) (cwV 1 hts gX4_set_X3_raise rfl rfl rfl (by decide +kernel) ⟨Nat.le_of_ble_eq_true rfl, Nat.le_of_ble_eq_true rfl⟩) hsz hw (bd_recv C hw (bk_in hbk (i := 3) (by omega))) dX4_set_32 rfl hl.1 rfl (Nat.le_of_ble_eq_true rfl) ⟨Nat.le_refl _, Nat.le_refl _⟩ (fun z sg H locs hv9 hf9 hS hw => ?_)
      have fT9 : sg (B 3) = (x.toInt * dk_p P) := hv9.trans (by rw [f_3])
      have f_3 := fT9
      have hof : ∀ j, (j = 0 ∨ 8 ≤ j) → j < 32 → sg (B j) = sg0 (B j) := fun j h1 h2 => (hf9 (B j) (bk_ne hbk (i := j) (j := 3) (by omega) (by omega) (by omega))).trans (hof j h1 h2)
      have hfi : fn_iv (P + 64) (bk_A B) sg := fn_ivm hfi (hf9 (bk_A B 1) (bk_ne hbk (i := 31 + 1) (j := 3) (by decide) (by decide) (by decide))) (hf9 (bk_A B 2) (bk_ne hbk (i := 31 + 2) (j := 3) (by decide) (by decide) (by decide))) (hf9 (bk_A B 3) (bk_ne hbk (i := 31 + 3) (j := 3) (by decide) (by decide) (by decide)))
      refine lv_aload_n hx hb dX4_set_35 rfl (lv_at hl 0 rfl) ?_
      refine bk_g C i4 hw hbk 7 (by decide) (v := .ref (B 4)) rfl dX4_set_36 lk36 ?_
      refine lv_lload hx hb dX4_set_39 (lv_at hl 3 rfl) ?_
      refine sv_v (As := [.long y]) (rest := []) C (v3_become _ _ _ _ _ hS (B 4) y (bk_in hbk (i := 4) (by omega))) (cwV 1 hts gX4_set_X3_become rfl rfl rfl (by decide +kernel) ⟨Nat.le_of_ble_eq_true rfl, Nat.le_of_ble_eq_true rfl⟩) hsz hw (bd_recv C hw (bk_in hbk (i := 4) (by omega))) dX4_set_41 rfl hl.1 rfl (Nat.le_of_ble_eq_true rfl) ⟨Nat.le_refl _, Nat.le_refl _⟩ (fun z sg H locs hv9 hf9 hS hw => ?_)
      have fT9 : sg (B 4) = y.toInt := hv9.trans (by rfl)
      have f_3 : sg (B 3) = (x.toInt * dk_p P) := (hf9 (B 3) (bk_ne hbk (i := 3) (j := 4) (by omega) (by omega) (by omega))).trans f_3
      have f_4 := fT9
      have hof : ∀ j, (j = 0 ∨ 8 ≤ j) → j < 32 → sg (B j) = sg0 (B j) := fun j h1 h2 => (hf9 (B j) (bk_ne hbk (i := j) (j := 4) (by omega) (by omega) (by omega))).trans (hof j h1 h2)
      have hfi : fn_iv (P + 64) (bk_A B) sg := fn_ivm hfi (hf9 (bk_A B 1) (bk_ne hbk (i := 31 + 1) (j := 4) (by decide) (by decide) (by decide))) (hf9 (bk_A B 2) (bk_ne hbk (i := 31 + 2) (j := 4) (by decide) (by decide) (by decide))) (hf9 (bk_A B 3) (bk_ne hbk (i := 31 + 3) (j := 4) (by decide) (by decide) (by decide)))
      refine lv_aload_n hx hb dX4_set_44 rfl (lv_at hl 0 rfl) ?_
      refine bk_g C i4 hw hbk 9 (by decide) (v := .ref (a 16)) rfl dX4_set_45 lk45 ?_
      refine lv_aload_n hx hb dX4_set_48 rfl (lv_at hl 0 rfl) ?_
      refine bk_g C i4 hw hbk 3 (by decide) (v := .ref (a 2)) rfl dX4_set_49 lk23 ?_
      refine bl_gm C ib0 hw (bk_made hbk) dX4_set_52 lk85 ?_
      refine lv_aload_n hx hb dX4_set_55 rfl (lv_at hl 0 rfl) ?_
      refine bk_g C i4 hw hbk 6 (by decide) (v := .ref (B 3)) rfl dX4_set_56 lk33 ?_
      refine lv_aload_n hx hb dX4_set_59 rfl (lv_at hl 0 rfl) ?_
      refine bk_g C i4 hw hbk 7 (by decide) (v := .ref (B 4)) rfl dX4_set_60 lk36 ?_
      have hjuv : (if sg (B 3) % sg (B 4) = 0 then 1 else 0) = ju := by
        rw [f_3, f_4]
        rcases hju with ⟨h1, h2⟩ | ⟨h1, h2⟩
        · rw [if_pos h1, h2]
        · rw [if_neg h1, h2]
      have hQ9 := v1_quotient l K E0 z H.size hS (a 16) (a 17) (a 18) (B 6) (B 3) (B 4) (bk_dv hbk) (bk_in hbk (i := 6) (by omega)) (bk_in hbk (i := 3) (by omega)) (bk_in hbk (i := 4) (by omega)) (by rw [f_4]; exact hyp) (by rw [f_3]; exact (Nat.lt_of_le_of_lt (Nat.add_le_add_right (mul_b (i64_b x) (pP_b hP2)) 1) (by decide +kernel)))
      rw [hjuv] at hQ9
      refine sv_q (As := [.ref (B 6), .ref (B 3), .ref (B 4)]) (rest := []) C (hQ9) (cwV 3 hts gX4_set_X1_quotient rfl rfl rfl (by decide +kernel) ⟨Nat.le_of_ble_eq_true rfl, Nat.le_of_ble_eq_true rfl⟩) hsz hw (dv_recv2 C hw (bk_dv hbk)) dX4_set_63 rfl hl.1 rfl (Nat.le_of_ble_eq_true rfl) ⟨Nat.le_refl _, Nat.le_refl _⟩ (fun E z sg H locs hd9 hfe9 hv9 hf9 hS hw => ?_)
      have hbk := bk_mv1 hbk hd9 hfe9
      have fT9 : sg (B 6) = (x.toInt * dk_p P / y.toInt) := hv9.trans (by rw [f_3, f_4])
      have f_3 : sg (B 3) = (x.toInt * dk_p P) := (hf9 (B 3) (bk_ne hbk (i := 3) (j := 6) (by omega) (by omega) (by omega))).trans f_3
      have f_4 : sg (B 4) = y.toInt := (hf9 (B 4) (bk_ne hbk (i := 4) (j := 6) (by omega) (by omega) (by omega))).trans f_4
      have f_6 := fT9
      have hof : ∀ j, (j = 0 ∨ 8 ≤ j) → j < 32 → sg (B j) = sg0 (B j) := fun j h1 h2 => (hf9 (B j) (bk_ne hbk (i := j) (j := 6) (by omega) (by omega) (by omega))).trans (hof j h1 h2)
      have hfi : fn_iv (P + 64) (bk_A B) sg := fn_ivm hfi (hf9 (bk_A B 1) (bk_ne hbk (i := 31 + 1) (j := 6) (by decide) (by decide) (by decide))) (hf9 (bk_A B 2) (bk_ne hbk (i := 31 + 2) (j := 6) (by decide) (by decide) (by decide))) (hf9 (bk_A B 3) (bk_ne hbk (i := 31 + 3) (j := 6) (by decide) (by decide) (by decide)))
      refine lv_istore (lv' := [(6, .int (nI ju)), (0, .ref (a 0)), (1, .int (nI kn)), (2, .long x), (4, .long y)]) hx hb dX4_set_66 hl (by decide) rfl (fun ls hl => ?_)
      refine lv_aload_n hx hb dX4_set_68 rfl (lv_at hl 1 rfl) ?_
      refine bk_g C i4 hw hbk 3 (by decide) (v := .ref (a 2)) rfl dX4_set_69 lk23 ?_
      refine bl_gr C ib0 hw (bk_made hbk) dX4_set_72 lk92 ?_
      refine lv_iload hx hb dX4_set_75 (lv_at hl 0 rfl) ?_
      refine bd_zeq (h1 := (by omega)) (tgt := 84) hx hb dX4_set_77 (by decide) (fun hc77 => ?_) (fun hc77 => ?_)
      · have hd : dk_set P (nI kn) x.toInt y.toInt mu ra = dk_keep P kn (x.toInt * dk_p P / y.toInt) 1 mu ra := by unfold dk_set; rw [if_pos ⟨hpl_kn, hyp⟩, hx_kn, if_neg (show ¬ x.toInt * dk_p P % y.toInt = 0 by omega)]
        refine lv_lconst (v := lN 1) hx hb dX4_set_84 rfl ?_
        refine sv_v (As := [.long (lN 1)]) (rest := []) C (v3_become _ _ _ _ _ hS (B 7) (lN 1) (bk_in hbk (i := 7) (by omega))) (cwV 1 hts gX4_set_X3_become rfl rfl rfl (by decide +kernel) ⟨Nat.le_of_ble_eq_true rfl, Nat.le_of_ble_eq_true rfl⟩) hsz hw (bd_recv C hw (bk_in hbk (i := 7) (by omega))) dX4_set_85 rfl hl.1 rfl (Nat.le_of_ble_eq_true rfl) ⟨Nat.le_refl _, Nat.le_refl _⟩ (fun z sg H locs hv9 hf9 hS hw => ?_)
        have fT9 : sg (B 7) = 1 := hv9.trans (by rfl)
        have f_3 : sg (B 3) = (x.toInt * dk_p P) := (hf9 (B 3) (bk_ne hbk (i := 3) (j := 7) (by omega) (by omega) (by omega))).trans f_3
        have f_4 : sg (B 4) = y.toInt := (hf9 (B 4) (bk_ne hbk (i := 4) (j := 7) (by omega) (by omega) (by omega))).trans f_4
        have f_6 : sg (B 6) = (x.toInt * dk_p P / y.toInt) := (hf9 (B 6) (bk_ne hbk (i := 6) (j := 7) (by omega) (by omega) (by omega))).trans f_6
        have f_7 := fT9
        have hof : ∀ j, (j = 0 ∨ 8 ≤ j) → j < 32 → sg (B j) = sg0 (B j) := fun j h1 h2 => (hf9 (B j) (bk_ne hbk (i := j) (j := 7) (by omega) (by omega) (by omega))).trans (hof j h1 h2)
        have hfi : fn_iv (P + 64) (bk_A B) sg := fn_ivm hfi (hf9 (bk_A B 1) (bk_ne hbk (i := 31 + 1) (j := 7) (by decide) (by decide) (by decide))) (hf9 (bk_A B 2) (bk_ne hbk (i := 31 + 2) (j := 7) (by decide) (by decide) (by decide))) (hf9 (bk_A B 3) (bk_ne hbk (i := 31 + 3) (j := 7) (by decide) (by decide) (by decide)))
        refine lv_aload_n hx hb dX4_set_88 rfl (lv_at hl 1 rfl) ?_
        refine lv_iload_n hx hb dX4_set_89 rfl (lv_at hl 2 rfl) ?_
        refine bd_ci (As := [.int (nI kn)]) (rest := []) C (c4_keep _ _ _ _ _ hbk hS (bk_ivm hiv hof hfi) kn hkn) (cwV 1 hts gX4_set_X4_keep rfl rfl rfl (by decide +kernel) ⟨Nat.le_of_ble_eq_true rfl, Nat.le_of_ble_eq_true rfl⟩) hsz hw (bk_recv C hw hbk) dX4_set_90 rfl hl.1 rfl (Nat.le_of_ble_eq_true rfl) ⟨Nat.le_refl _, Nat.le_refl _⟩ (fun r9 E9 z H locs hp hw => ?_)
        rw [f_6, f_7] at hp
        exact bd_iret C hr hlk hw dX4_set_93 (by rw [hd]; exact hp)
      · have hd : dk_set P (nI kn) x.toInt y.toInt mu ra = dk_keep P kn (x.toInt * dk_p P / y.toInt) 0 mu ra := by unfold dk_set; rw [if_pos ⟨hpl_kn, hyp⟩, hx_kn, if_pos (show x.toInt * dk_p P % y.toInt = 0 by omega)]
        refine lv_lconst (v := lN 0) hx hb dX4_set_80 rfl ?_
        refine lv_goto (tgt := 85) hx hb dX4_set_81 (by decide) ?_
        refine sv_v (As := [.long (lN 0)]) (rest := []) C (v3_become _ _ _ _ _ hS (B 7) (lN 0) (bk_in hbk (i := 7) (by omega))) (cwV 1 hts gX4_set_X3_become rfl rfl rfl (by decide +kernel) ⟨Nat.le_of_ble_eq_true rfl, Nat.le_of_ble_eq_true rfl⟩) hsz hw (bd_recv C hw (bk_in hbk (i := 7) (by omega))) dX4_set_85 rfl hl.1 rfl (Nat.le_of_ble_eq_true rfl) ⟨Nat.le_refl _, Nat.le_refl _⟩ (fun z sg H locs hv9 hf9 hS hw => ?_)
        have fT9 : sg (B 7) = 0 := hv9.trans (by rfl)
        have f_3 : sg (B 3) = (x.toInt * dk_p P) := (hf9 (B 3) (bk_ne hbk (i := 3) (j := 7) (by omega) (by omega) (by omega))).trans f_3
        have f_4 : sg (B 4) = y.toInt := (hf9 (B 4) (bk_ne hbk (i := 4) (j := 7) (by omega) (by omega) (by omega))).trans f_4
        have f_6 : sg (B 6) = (x.toInt * dk_p P / y.toInt) := (hf9 (B 6) (bk_ne hbk (i := 6) (j := 7) (by omega) (by omega) (by omega))).trans f_6
        have f_7 := fT9
        have hof : ∀ j, (j = 0 ∨ 8 ≤ j) → j < 32 → sg (B j) = sg0 (B j) := fun j h1 h2 => (hf9 (B j) (bk_ne hbk (i := j) (j := 7) (by omega) (by omega) (by omega))).trans (hof j h1 h2)
        have hfi : fn_iv (P + 64) (bk_A B) sg := fn_ivm hfi (hf9 (bk_A B 1) (bk_ne hbk (i := 31 + 1) (j := 7) (by decide) (by decide) (by decide))) (hf9 (bk_A B 2) (bk_ne hbk (i := 31 + 2) (j := 7) (by decide) (by decide) (by decide))) (hf9 (bk_A B 3) (bk_ne hbk (i := 31 + 3) (j := 7) (by decide) (by decide) (by decide)))
        refine lv_aload_n hx hb dX4_set_88 rfl (lv_at hl 1 rfl) ?_
        refine lv_iload_n hx hb dX4_set_89 rfl (lv_at hl 2 rfl) ?_
        refine bd_ci (As := [.int (nI kn)]) (rest := []) C (c4_keep _ _ _ _ _ hbk hS (bk_ivm hiv hof hfi) kn hkn) (cwV 1 hts gX4_set_X4_keep rfl rfl rfl (by decide +kernel) ⟨Nat.le_of_ble_eq_true rfl, Nat.le_of_ble_eq_true rfl⟩) hsz hw (bk_recv C hw hbk) dX4_set_90 rfl hl.1 rfl (Nat.le_of_ble_eq_true rfl) ⟨Nat.le_refl _, Nat.le_refl _⟩ (fun r9 E9 z H locs hp hw => ?_)
        rw [f_6, f_7] at hp
        exact bd_iret C hr hlk hw dX4_set_93 (by rw [hd]; exact hp)
    · rw [lg_q3] at hc11
      have hno : ¬ 0 < y.toInt := fun q => hc11 (q3_gt.mpr q)
      refine lv_iconst (v := (-1)) hx hb dX4_set_14 (by decide) ?_
      have hd9 : dk_set P (nI kn) x.toInt y.toInt mu ra = (-1, mu, ra) := if_neg (fun q => hno q.2)
      exact bd_iret C hr hlk hw dX4_set_15 (by rw [hd9]; exact ⟨rfl, hbk, sg0, hS, bk_ivm hiv hof hfi⟩)
set_option maxHeartbeats 4000000 in
set_option maxRecDepth 100000 in
/-- BallDesk.pi -/
theorem c4_pi (l : Launch) (K : Cxt) (E0 : Nat → va_E) (z0 : Nat → Wh) (sz : Nat) {P : Nat} {a B : Nat → Nat} (hbk : bk_at K E0 P a B) {sg0 : Nat → Int} (hS : sg_S K z0 sg0) {mu ra : Nat → Int} (hiv : bk_iv P B sg0 mu ra) (k : Int32)  : Met l yX4_pi wsX4_pi ({ frames := 7, cells := 0, slots := 0, locals := 240 }) (va_Pc [.ref (a 0), .int k] (bd_P K E0 z0 sz)) (va_Qi (bk_post K P a B (dk_pi P k mu ra)) (bd_B K) (bd_A K sz)) 0 0 (bd_A K sz) := by
  refine bd_ofW (cc := cX4_pi) (maxL := 2) (ret := (some .int)) (by decide) rfl (Nat.le_of_ble_eq_true rfl) ?_
  intro p e s m below meth c ls C hr hlk hsz hw hl
  have hx := C.1
  have hb := C.2.1
  have hown := C.2.2.2.1
  have hts := C.2.2.2.2.1
  have i4 : ∀ w ∈ wsX40, w ∈ wsX4_pi := by decide +kernel
  have ib0 : ∀ w ∈ wsX00, w ∈ wsX4_pi := by decide +kernel
  have lk23 : Cond.fieldLink RX4 23 "BallDesk" "made" "LBallDesk$Ball;" ∈ wsX4_pi := by decide +kernel
  have lk85 : Cond.fieldLink RX4 85 "BallDesk$Ball" "middle" "LBallDesk$Whole;" ∈ wsX4_pi := by decide +kernel
  have lk70 : Cond.fieldLink RX4 70 "BallDesk" "fine" "LBallDesk$Fine;" ∈ wsX4_pi := by decide +kernel
  have lk92 : Cond.fieldLink RX4 92 "BallDesk$Ball" "radius" "LBallDesk$Whole;" ∈ wsX4_pi := by decide +kernel
  have lk177 : Cond.constantLong RX4 177 (2) ∈ wsX4_pi := by decide +kernel
  obtain ⟨hP1, hP2⟩ := bk_P hbk
  have hl : lv_has ls 2 [(0, .ref (a 0)), (1, .int k)] := hl
  have hof : ∀ j, (j = 0 ∨ 8 ≤ j) → j < 32 → sg0 (B j) = sg0 (B j) := fun _ _ _ => rfl
  have hfi := hiv.2.1
  refine lv_iload_n hx hb dX4_pi_0 rfl (lv_at hl 1 rfl) ?_
  refine bd_sip (As := [.int k]) (rest := []) C (c4_isPlace _ _ _ _ _ k) (va_cwS 1 hts gX4_pi_X4_isPlace rfl rfl rfl (by decide +kernel) ⟨Nat.le_of_ble_eq_true rfl, Nat.le_of_ble_eq_true rfl⟩) hsz hw dX4_pi_1 rfl hl.1 rfl (Nat.le_of_ble_eq_true rfl) ⟨Nat.le_refl _, Nat.le_refl _⟩ (fun H locs hw => ?_)
  refine lv_if_ne (tgt := 9) hx hb dX4_pi_4 (by decide) (fun hc4 => ?_) (fun hc4 => ?_)
  · have hpl_kn := pl_t hc4
    obtain ⟨kn, hkn, hk_kn, hx_kn⟩ := pl_x hpl_kn
    subst hk_kn
    have hd : dk_pi P (nI kn) mu ra = dk_keep P kn (sp_PI (P + 64) / dk_p 64) 2 mu ra := by unfold dk_pi; rw [if_pos hpl_kn, hx_kn]
    refine lv_aload_n hx hb dX4_pi_9 rfl (lv_at hl 0 rfl) ?_
    refine bk_g C i4 hw hbk 3 (by decide) (v := .ref (a 2)) rfl dX4_pi_10 lk23 ?_
    refine bl_gm C ib0 hw (bk_made hbk) dX4_pi_13 lk85 ?_
    refine lv_aload_n hx hb dX4_pi_16 rfl (lv_at hl 0 rfl) ?_
    refine bk_g C i4 hw hbk 10 (by decide) (v := .ref (a 15)) rfl dX4_pi_17 lk70 ?_
    refine bd_cr (As := []) (rest := [.ref (B 6)]) C (f_halfTurn _ _ _ _ _ (bk_fn hbk) hS hfi) (cwV 0 hts gX4_pi_X2_halfTurn rfl rfl rfl (by decide +kernel) ⟨Nat.le_of_ble_eq_true rfl, Nat.le_of_ble_eq_true rfl⟩) hsz hw (fn_recv C hw (bk_fn hbk)) dX4_pi_20 rfl hl.1 rfl (Nat.le_of_ble_eq_true rfl) ⟨Nat.le_refl _, Nat.le_refl _⟩ (fun E1 z H locs hp hw => ?_)
    obtain ⟨hE9, sg, hS, hfi, hv9, hf9⟩ := hp
    rw [show E1 = E0 from hE9] at hw
    have f_33 : sg (B 33) = sp_PI (P + 64) := hv9
    have hof : ∀ j, (j = 0 ∨ 8 ≤ j) → j < 32 → sg (B j) = sg0 (B j) := fun j h1 h2 => (hf9 (B j) (la_c (bk_ne hbk (i := j) (j := 31 + 2) (by omega) (by omega) (by omega)) (la_c (bk_ne hbk (i := j) (j := 31 + 4) (by omega) (by omega) (by omega)) (la_c (bk_ne hbk (i := j) (j := 31 + 5) (by omega) (by omega) (by omega)) (la_c (bk_ne hbk (i := j) (j := 31 + 6) (by omega) (by omega) (by omega)) (la_c (bk_ne hbk (i := j) (j := 31 + 7) (by omega) (by omega) (by omega)) (la_c (bk_ne hbk (i := j) (j := 31 + 8) (by omega) (by omega) (by omega)) la_n))))))).trans (hof j h1 h2)
    refine sv_v (As := [.ref (B 33)]) (rest := []) C (v3_become_ _ _ _ _ _ hS (B 6) (B 33) (bk_in hbk (i := 6) (by omega)) (bk_in hbk (i := 33) (by omega))) (cwV 1 hts gX4_pi_X3_become_ rfl rfl rfl (by decide +kernel) ⟨Nat.le_of_ble_eq_true rfl, Nat.le_of_ble_eq_true rfl⟩) hsz hw (bd_recv C hw (bk_in hbk (i := 6) (by omega))) dX4_pi_23 rfl hl.1 rfl (Nat.le_of_ble_eq_true rfl) ⟨Nat.le_refl _, Nat.le_refl _⟩ (fun z sg H locs hv9 hf9 hS hw => ?_)
    have fT9 : sg (B 6) = (sp_PI (P + 64)) := hv9.trans (by exact f_33)
    have f_33 : sg (B 33) = (sp_PI (P + 64)) := (hf9 (B 33) (bk_ne hbk (i := 33) (j := 6) (by omega) (by omega) (by omega))).trans f_33
    have f_6 := fT9
    have hof : ∀ j, (j = 0 ∨ 8 ≤ j) → j < 32 → sg (B j) = sg0 (B j) := fun j h1 h2 => (hf9 (B j) (bk_ne hbk (i := j) (j := 6) (by omega) (by omega) (by omega))).trans (hof j h1 h2)
    have hfi : fn_iv (P + 64) (bk_A B) sg := fn_ivm hfi (hf9 (bk_A B 1) (bk_ne hbk (i := 31 + 1) (j := 6) (by decide) (by decide) (by decide))) (hf9 (bk_A B 2) (bk_ne hbk (i := 31 + 2) (j := 6) (by decide) (by decide) (by decide))) (hf9 (bk_A B 3) (bk_ne hbk (i := 31 + 3) (j := 6) (by decide) (by decide) (by decide)))
    refine lv_aload_n hx hb dX4_pi_26 rfl (lv_at hl 0 rfl) ?_
    refine bk_g C i4 hw hbk 3 (by decide) (v := .ref (a 2)) rfl dX4_pi_27 lk23 ?_
    refine bl_gm C ib0 hw (bk_made hbk) dX4_pi_30 lk85 ?_
    refine lv_bipush (v := nI 64) hx hb dX4_pi_33 (by decide) ?_
    refine sv_v (As := [.int (nI 64)]) (rest := []) C (v3_lower _ _ _ _ _ hS (B 6) 64 (bk_in hbk (i := 6) (by omega)) (by omega) (by omega)) (cwV 1 hts gX4_pi_X3_lower rfl rfl rfl (by decide +kernel) ⟨Nat.le_of_ble_eq_true rfl, Nat.le_of_ble_eq_true rfl⟩) hsz hw (bd_recv C hw (bk_in hbk (i := 6) (by omega))) dX4_pi_35 rfl hl.1 rfl (Nat.le_of_ble_eq_true rfl) ⟨Nat.le_refl _, Nat.le_refl _⟩ (fun z sg H locs hv9 hf9 hS hw => ?_)
    have fT9 : sg (B 6) = (sp_PI (P + 64) / dk_p 64) := hv9.trans (by rw [f_6])
    have f_33 : sg (B 33) = (sp_PI (P + 64)) := (hf9 (B 33) (bk_ne hbk (i := 33) (j := 6) (by omega) (by omega) (by omega))).trans f_33
    have f_6 := fT9
    have hof : ∀ j, (j = 0 ∨ 8 ≤ j) → j < 32 → sg (B j) = sg0 (B j) := fun j h1 h2 => (hf9 (B j) (bk_ne hbk (i := j) (j := 6) (by omega) (by omega) (by omega))).trans (hof j h1 h2)
    have hfi : fn_iv (P + 64) (bk_A B) sg := fn_ivm hfi (hf9 (bk_A B 1) (bk_ne hbk (i := 31 + 1) (j := 6) (by decide) (by decide) (by decide))) (hf9 (bk_A B 2) (bk_ne hbk (i := 31 + 2) (j := 6) (by decide) (by decide) (by decide))) (hf9 (bk_A B 3) (bk_ne hbk (i := 31 + 3) (j := 6) (by decide) (by decide) (by decide)))
    refine lv_aload_n hx hb dX4_pi_38 rfl (lv_at hl 0 rfl) ?_
    refine bk_g C i4 hw hbk 3 (by decide) (v := .ref (a 2)) rfl dX4_pi_39 lk23 ?_
    refine bl_gr C ib0 hw (bk_made hbk) dX4_pi_42 lk92 ?_
    refine lv_ldc2 (v := 2) hx hb hown (hts _ lk177) dX4_pi_45 ?_
    refine sv_v (As := [.long 2]) (rest := []) C (v3_become _ _ _ _ _ hS (B 7) 2 (bk_in hbk (i := 7) (by omega))) (cwV 1 hts gX4_pi_X3_become rfl rfl rfl (by decide +kernel) ⟨Nat.le_of_ble_eq_true rfl, Nat.le_of_ble_eq_true rfl⟩) hsz hw (bd_recv C hw (bk_in hbk (i := 7) (by omega))) dX4_pi_48 rfl hl.1 rfl (Nat.le_of_ble_eq_true rfl) ⟨Nat.le_refl _, Nat.le_refl _⟩ (fun z sg H locs hv9 hf9 hS hw => ?_)
    have fT9 : sg (B 7) = 2 := hv9.trans (by rfl)
    have f_33 : sg (B 33) = (sp_PI (P + 64)) := (hf9 (B 33) (bk_ne hbk (i := 33) (j := 7) (by omega) (by omega) (by omega))).trans f_33
    have f_6 : sg (B 6) = (sp_PI (P + 64) / dk_p 64) := (hf9 (B 6) (bk_ne hbk (i := 6) (j := 7) (by omega) (by omega) (by omega))).trans f_6
    have f_7 := fT9
    have hof : ∀ j, (j = 0 ∨ 8 ≤ j) → j < 32 → sg (B j) = sg0 (B j) := fun j h1 h2 => (hf9 (B j) (bk_ne hbk (i := j) (j := 7) (by omega) (by omega) (by omega))).trans (hof j h1 h2)
    have hfi : fn_iv (P + 64) (bk_A B) sg := fn_ivm hfi (hf9 (bk_A B 1) (bk_ne hbk (i := 31 + 1) (j := 7) (by decide) (by decide) (by decide))) (hf9 (bk_A B 2) (bk_ne hbk (i := 31 + 2) (j := 7) (by decide) (by decide) (by decide))) (hf9 (bk_A B 3) (bk_ne hbk (i := 31 + 3) (j := 7) (by decide) (by decide) (by decide)))
    refine lv_aload_n hx hb dX4_pi_51 rfl (lv_at hl 0 rfl) ?_
    refine lv_iload_n hx hb dX4_pi_52 rfl (lv_at hl 1 rfl) ?_
    refine bd_ci (As := [.int (nI kn)]) (rest := []) C (c4_keep _ _ _ _ _ hbk hS (bk_ivm hiv hof hfi) kn hkn) (cwV 1 hts gX4_pi_X4_keep rfl rfl rfl (by decide +kernel) ⟨Nat.le_of_ble_eq_true rfl, Nat.le_of_ble_eq_true rfl⟩) hsz hw (bk_recv C hw hbk) dX4_pi_53 rfl hl.1 rfl (Nat.le_of_ble_eq_true rfl) ⟨Nat.le_refl _, Nat.le_refl _⟩ (fun r9 E9 z H locs hp hw => ?_)
    rw [f_6, f_7] at hp
    exact bd_iret C hr hlk hw dX4_pi_56 (by rw [hd]; exact hp)
  · have hno := pl_f hc4
    refine lv_iconst (v := (-1)) hx hb dX4_pi_7 (by decide) ?_
    have hd9 : dk_pi P k mu ra = (-1, mu, ra) := if_neg (hno)
    exact bd_iret C hr hlk hw dX4_pi_8 (by rw [hd9]; exact ⟨rfl, hbk, sg0, hS, bk_ivm hiv hof hfi⟩)
set_option maxHeartbeats 4000000 in
set_option maxRecDepth 100000 in
/-- BallDesk.widen -/
theorem c4_widen (l : Launch) (K : Cxt) (E0 : Nat → va_E) (z0 : Nat → Wh) (sz : Nat) {P : Nat} {a B : Nat → Nat} (hbk : bk_at K E0 P a B) {sg0 : Nat → Int} (hS : sg_S K z0 sg0) {mu ra : Nat → Int} (hiv : bk_iv P B sg0 mu ra) (k : Int32) (x : Int64)  : Met l yX4_widen wsX4_widen ({ frames := 7, cells := 0, slots := 0, locals := 240 }) (va_Pc [.ref (a 0), .int k, .long x] (bd_P K E0 z0 sz)) (va_Qi (bk_post K P a B (dk_widen P k x.toInt mu ra)) (bd_B K) (bd_A K sz)) 0 0 (bd_A K sz) := by
  refine bd_ofW (cc := cX4_widen) (maxL := 4) (ret := (some .int)) (by decide) rfl (Nat.le_of_ble_eq_true rfl) ?_
  intro p e s m below meth c ls C hr hlk hsz hw hl
  have hx := C.1
  have hb := C.2.1
  have hown := C.2.2.2.1
  have hts := C.2.2.2.2.1
  have i4 : ∀ w ∈ wsX40, w ∈ wsX4_widen := by decide +kernel
  have ib0 : ∀ w ∈ wsX00, w ∈ wsX4_widen := by decide +kernel
  have lk23 : Cond.fieldLink RX4 23 "BallDesk" "made" "LBallDesk$Ball;" ∈ wsX4_widen := by decide +kernel
  have lk18 : Cond.fieldLink RX4 18 "BallDesk" "places" "[LBallDesk$Ball;" ∈ wsX4_widen := by decide +kernel
  have lk92 : Cond.fieldLink RX4 92 "BallDesk$Ball" "radius" "LBallDesk$Whole;" ∈ wsX4_widen := by decide +kernel
  obtain ⟨hP1, hP2⟩ := bk_P hbk
  have hl : lv_has ls 4 [(0, .ref (a 0)), (1, .int k), (2, .long x)] := hl
  have hof : ∀ j, (j = 0 ∨ 8 ≤ j) → j < 32 → sg0 (B j) = sg0 (B j) := fun _ _ _ => rfl
  have hfi := hiv.2.1
  refine lv_iload_n hx hb dX4_widen_0 rfl (lv_at hl 1 rfl) ?_
  refine bd_sip (As := [.int k]) (rest := []) C (c4_isPlace _ _ _ _ _ k) (va_cwS 1 hts gX4_widen_X4_isPlace rfl rfl rfl (by decide +kernel) ⟨Nat.le_of_ble_eq_true rfl, Nat.le_of_ble_eq_true rfl⟩) hsz hw dX4_widen_1 rfl hl.1 rfl (Nat.le_of_ble_eq_true rfl) ⟨Nat.le_refl _, Nat.le_refl _⟩ (fun H locs hw => ?_)
  refine lv_if_eq (tgt := 13) hx hb dX4_widen_4 (by decide) (fun hc4 => ?_) (fun hc4 => ?_)
  · have hno := pl_f hc4
    refine lv_iconst (v := (-1)) hx hb dX4_widen_13 (by decide) ?_
    have hd9 : dk_widen P k x.toInt mu ra = (-1, mu, ra) := if_neg (fun q => hno q.1)
    exact bd_iret C hr hlk hw dX4_widen_14 (by rw [hd9]; exact ⟨rfl, hbk, sg0, hS, bk_ivm hiv hof hfi⟩)
  · have hpl_kn := pl_t hc4
    obtain ⟨kn, hkn, hk_kn, hx_kn⟩ := pl_x hpl_kn
    subst hk_kn
    refine lv_lload_n hx hb dX4_widen_7 rfl (lv_at hl 2 rfl) ?_
    refine lv_lconst (v := lN 0) hx hb dX4_widen_8 rfl ?_
    refine bd_lcmp (v := (lg_cmp x (lN 0))) hx hb dX4_widen_9 (rfl) ?_
    refine lv_if_ge (tgt := 15) hx hb dX4_widen_10 (by decide) (fun hc10 => ?_) (fun hc10 => ?_)
    · rw [lg_q3] at hc10
      have hyp : 0 ≤ x.toInt := q3_ge.mp hc10
      obtain ⟨hbm_kn, hb0_kn, hbr_kn⟩ := bk_b hP2 hiv hkn
      have hd : dk_widen P (nI kn) x.toInt mu ra = dk_keep P kn (mu kn) (ra kn + x.toInt) mu ra := by unfold dk_widen; rw [if_pos ⟨hpl_kn, hyp⟩, hx_kn]
      refine lv_aload_n hx hb dX4_widen_15 rfl (lv_at hl 0 rfl) ?_
      refine bk_g C i4 hw hbk 3 (by decide) (v := .ref (a 2)) rfl dX4_widen_16 lk23 ?_
      refine lv_aload_n hx hb dX4_widen_19 rfl (lv_at hl 0 rfl) ?_
      refine bk_g C i4 hw hbk 2 (by decide) (v := .ref (a 1)) rfl dX4_widen_20 lk18 ?_
      refine lv_iload_n hx hb dX4_widen_23 rfl (lv_at hl 1 rfl) ?_
      refine bk_ald C hw hbk hkn dX4_widen_24 ?_
      have fm_kn : sg0 (B (8 + kn)) = mu kn := (hof (8 + kn) (by omega) (by omega)).trans (hiv.2.2 kn hkn).1
      have fr_kn : sg0 (B (20 + kn)) = ra kn := (hof (20 + kn) (by omega) (by omega)).trans (hiv.2.2 kn hkn).2.1
      refine bd_cv (As := [.ref (a (3 + kn))]) (rest := []) C (c0_become _ _ _ _ _ hS (a 2) (B 6) (B 7) (a (3 + kn)) (B (8 + kn)) (B (20 + kn)) (bk_made hbk) (bk_pl hbk hkn) (bk_in hbk (i := 6) (by omega)) (bk_in hbk (i := 7) (by omega)) (bk_in hbk (i := (8 + kn)) (by omega)) (bk_in hbk (i := (20 + kn)) (by omega)) (bk_ne hbk (i := (20 + kn)) (j := 6) (by omega) (by omega) (by omega)) (bk_ne hbk (i := 6) (j := 7) (by omega) (by omega) (by omega))) (cwV 1 hts gX4_widen_X0_become rfl rfl rfl (by decide +kernel) ⟨Nat.le_of_ble_eq_true rfl, Nat.le_of_ble_eq_true rfl⟩) hsz hw (bl_recv C hw (bk_made hbk)) dX4_widen_25 rfl hl.1 rfl (Nat.le_of_ble_eq_true rfl) ⟨Nat.le_refl _, Nat.le_refl _⟩ (fun E1 z H locs hp hw => ?_)
      obtain ⟨hE9, sg, hS, hv0_, hv1_, hf9⟩ := hp
      rw [show E1 = E0 from hE9] at hw
      have fT0_ : sg (B 6) = (mu kn) := hv0_.trans (by exact fm_kn)
      have fT1_ : sg (B 7) = (ra kn) := hv1_.trans (by exact fr_kn)
      have f_6 := fT0_
      have f_7 := fT1_
      have hof : ∀ j, (j = 0 ∨ 8 ≤ j) → j < 32 → sg (B j) = sg0 (B j) := fun j h1 h2 => (hf9 (B j) (bk_ne hbk (i := j) (j := 6) (by omega) (by omega) (by omega)) (bk_ne hbk (i := j) (j := 7) (by omega) (by omega) (by omega))).trans (hof j h1 h2)
      have hfi : fn_iv (P + 64) (bk_A B) sg := fn_ivm hfi (hf9 (bk_A B 1) (bk_ne hbk (i := 31 + 1) (j := 6) (by decide) (by decide) (by decide)) (bk_ne hbk (i := 31 + 1) (j := 7) (by decide) (by decide) (by decide))) (hf9 (bk_A B 2) (bk_ne hbk (i := 31 + 2) (j := 6) (by decide) (by decide) (by decide)) (bk_ne hbk (i := 31 + 2) (j := 7) (by decide) (by decide) (by decide))) (hf9 (bk_A B 3) (bk_ne hbk (i := 31 + 3) (j := 6) (by decide) (by decide) (by decide)) (bk_ne hbk (i := 31 + 3) (j := 7) (by decide) (by decide) (by decide)))
      refine lv_aload_n hx hb dX4_widen_28 rfl (lv_at hl 0 rfl) ?_
      refine lv_aload_n hx hb dX4_widen_29 rfl (lv_at hl 0 rfl) ?_
      refine bk_g C i4 hw hbk 3 (by decide) (v := .ref (a 2)) rfl dX4_widen_30 lk23 ?_
      refine bl_gr C ib0 hw (bk_made hbk) dX4_widen_33 lk92 ?_
      refine lv_lload_n hx hb dX4_widen_36 rfl (lv_at hl 2 rfl) ?_
      refine bd_cv (As := [.ref (B 7), .long x]) (rest := []) C (c4_change _ _ _ _ _ hbk hS 7 x (by decide) (by decide) (by rw [f_7]; exact (Nat.le_trans hbr_kn (by decide +kernel)))) (cwV 2 hts gX4_widen_X4_change rfl rfl rfl (by decide +kernel) ⟨Nat.le_of_ble_eq_true rfl, Nat.le_of_ble_eq_true rfl⟩) hsz hw (bk_recv C hw hbk) dX4_widen_37 rfl hl.1 rfl (Nat.le_of_ble_eq_true rfl) ⟨Nat.le_refl _, Nat.le_refl _⟩ (fun E1 z H locs hp hw => ?_)
      obtain ⟨hE9, sg, hS, hv0_, hf9⟩ := hp
      rw [show E1 = E0 from hE9] at hw
      have fT0_ : sg (B 7) = (ra kn + x.toInt) := hv0_.trans (by rw [f_7])
      have f_6 : sg (B 6) = (mu kn) := (hf9 (B 6) (bk_ne hbk (i := 6) (j := 7) (by omega) (by omega) (by omega)) (bk_ne hbk (i := 6) (j := 5) (by omega) (by omega) (by omega))).trans f_6
      have f_7 := fT0_
      have hof : ∀ j, (j = 0 ∨ 8 ≤ j) → j < 32 → sg (B j) = sg0 (B j) := fun j h1 h2 => (hf9 (B j) (bk_ne hbk (i := j) (j := 7) (by omega) (by omega) (by omega)) (bk_ne hbk (i := j) (j := 5) (by omega) (by omega) (by omega))).trans (hof j h1 h2)
      have hfi : fn_iv (P + 64) (bk_A B) sg := fn_ivm hfi (hf9 (bk_A B 1) (bk_ne hbk (i := 31 + 1) (j := 7) (by decide) (by decide) (by decide)) (bk_ne hbk (i := 31 + 1) (j := 5) (by decide) (by decide) (by decide))) (hf9 (bk_A B 2) (bk_ne hbk (i := 31 + 2) (j := 7) (by decide) (by decide) (by decide)) (bk_ne hbk (i := 31 + 2) (j := 5) (by decide) (by decide) (by decide))) (hf9 (bk_A B 3) (bk_ne hbk (i := 31 + 3) (j := 7) (by decide) (by decide) (by decide)) (bk_ne hbk (i := 31 + 3) (j := 5) (by decide) (by decide) (by decide)))
      refine lv_aload_n hx hb dX4_widen_40 rfl (lv_at hl 0 rfl) ?_
      refine lv_iload_n hx hb dX4_widen_41 rfl (lv_at hl 1 rfl) ?_
      refine bd_ci (As := [.int (nI kn)]) (rest := []) C (c4_keep _ _ _ _ _ hbk hS (bk_ivm hiv hof hfi) kn hkn) (cwV 1 hts gX4_widen_X4_keep rfl rfl rfl (by decide +kernel) ⟨Nat.le_of_ble_eq_true rfl, Nat.le_of_ble_eq_true rfl⟩) hsz hw (bk_recv C hw hbk) dX4_widen_42 rfl hl.1 rfl (Nat.le_of_ble_eq_true rfl) ⟨Nat.le_refl _, Nat.le_refl _⟩ (fun r9 E9 z H locs hp hw => ?_)
      rw [f_6, f_7] at hp
      exact bd_iret C hr hlk hw dX4_widen_45 (by rw [hd]; exact hp)
    · rw [lg_q3] at hc10
      have hno : ¬ 0 ≤ x.toInt := fun q => hc10 (q3_ge.mpr q)
      refine lv_iconst (v := (-1)) hx hb dX4_widen_13 (by decide) ?_
      have hd9 : dk_widen P (nI kn) x.toInt mu ra = (-1, mu, ra) := if_neg (fun q => hno q.2)
      exact bd_iret C hr hlk hw dX4_widen_14 (by rw [hd9]; exact ⟨rfl, hbk, sg0, hS, bk_ivm hiv hof hfi⟩)
set_option maxHeartbeats 4000000 in
set_option maxRecDepth 100000 in
/-- BallDesk.root -/
theorem c4_root (l : Launch) (K : Cxt) (E0 : Nat → va_E) (z0 : Nat → Wh) (sz : Nat) {P : Nat} {a B : Nat → Nat} (hbk : bk_at K E0 P a B) {sg0 : Nat → Int} (hS : sg_S K z0 sg0) {mu ra : Nat → Int} (hiv : bk_iv P B sg0 mu ra) (k i : Int32)  : Met l yX4_root wsX4_root ({ frames := 7, cells := 0, slots := 0, locals := 240 }) (va_Pc [.ref (a 0), .int k, .int i] (bd_P K E0 z0 sz)) (va_Qi (bk_post K P a B (dk_root P k i mu ra)) (bd_B K) (bd_A K sz)) 0 0 (bd_A K sz) := by
  refine bd_ofW (cc := cX4_root) (maxL := 3) (ret := (some .int)) (by decide) rfl (Nat.le_of_ble_eq_true rfl) ?_
  intro p e s m below meth c ls C hr hlk hsz hw hl
  have hx := C.1
  have hb := C.2.1
  have hown := C.2.2.2.1
  have hts := C.2.2.2.2.1
  have i4 : ∀ w ∈ wsX40, w ∈ wsX4_root := by decide +kernel
  have lk18 : Cond.fieldLink RX4 18 "BallDesk" "places" "[LBallDesk$Ball;" ∈ wsX4_root := by decide +kernel
  have lk27 : Cond.fieldLink RX4 27 "BallDesk" "low" "LBallDesk$Whole;" ∈ wsX4_root := by decide +kernel
  have lk58 : Cond.fieldLink RX4 58 "BallDesk" "bits" "I" ∈ wsX4_root := by decide +kernel
  have lk70 : Cond.fieldLink RX4 70 "BallDesk" "fine" "LBallDesk$Fine;" ∈ wsX4_root := by decide +kernel
  have lk30 : Cond.fieldLink RX4 30 "BallDesk" "high" "LBallDesk$Whole;" ∈ wsX4_root := by decide +kernel
  obtain ⟨hP1, hP2⟩ := bk_P hbk
  have hl : lv_has ls 3 [(0, .ref (a 0)), (1, .int k), (2, .int i)] := hl
  have hof : ∀ j, (j = 0 ∨ 8 ≤ j) → j < 32 → sg0 (B j) = sg0 (B j) := fun _ _ _ => rfl
  have hfi := hiv.2.1
  refine lv_iload_n hx hb dX4_root_0 rfl (lv_at hl 1 rfl) ?_
  refine bd_sip (As := [.int k]) (rest := []) C (c4_isPlace _ _ _ _ _ k) (va_cwS 1 hts gX4_root_X4_isPlace rfl rfl rfl (by decide +kernel) ⟨Nat.le_of_ble_eq_true rfl, Nat.le_of_ble_eq_true rfl⟩) hsz hw dX4_root_1 rfl hl.1 rfl (Nat.le_of_ble_eq_true rfl) ⟨Nat.le_refl _, Nat.le_refl _⟩ (fun H locs hw => ?_)
  refine lv_if_eq (tgt := 14) hx hb dX4_root_4 (by decide) (fun hc4 => ?_) (fun hc4 => ?_)
  · have hno := pl_f hc4
    refine lv_iconst (v := (-1)) hx hb dX4_root_14 (by decide) ?_
    have hd9 : dk_root P k i mu ra = (-1, mu, ra) := if_neg (fun q => hno q.1.1)
    exact bd_iret C hr hlk hw dX4_root_15 (by rw [hd9]; exact ⟨rfl, hbk, sg0, hS, bk_ivm hiv hof hfi⟩)
  · have hpl_kn := pl_t hc4
    obtain ⟨kn, hkn, hk_kn, hx_kn⟩ := pl_x hpl_kn
    subst hk_kn
    refine lv_iload_n hx hb dX4_root_7 rfl (lv_at hl 2 rfl) ?_
    refine bd_sip (As := [.int i]) (rest := []) C (c4_isPlace _ _ _ _ _ i) (va_cwS 1 hts gX4_root_X4_isPlace rfl rfl rfl (by decide +kernel) ⟨Nat.le_of_ble_eq_true rfl, Nat.le_of_ble_eq_true rfl⟩) hsz hw dX4_root_8 rfl hl.1 rfl (Nat.le_of_ble_eq_true rfl) ⟨Nat.le_refl _, Nat.le_refl _⟩ (fun H locs hw => ?_)
    refine lv_if_ne (tgt := 16) hx hb dX4_root_11 (by decide) (fun hc11 => ?_) (fun hc11 => ?_)
    · have hpl_im := pl_t hc11
      obtain ⟨im, him, hk_im, hx_im⟩ := pl_x hpl_im
      subst hk_im
      obtain ⟨hbm_im, hb0_im, hbr_im⟩ := bk_b hP2 hiv him
      obtain ⟨he1, he2⟩ := e_b hbm_im hbr_im
      refine lv_aload_n hx hb dX4_root_16 rfl (lv_at hl 0 rfl) ?_
      refine lv_aload_n hx hb dX4_root_17 rfl (lv_at hl 0 rfl) ?_
      refine bk_g C i4 hw hbk 2 (by decide) (v := .ref (a 1)) rfl dX4_root_18 lk18 ?_
      refine lv_iload_n hx hb dX4_root_21 rfl (lv_at hl 2 rfl) ?_
      refine bk_ald C hw hbk him dX4_root_22 ?_
      have fm_im : sg0 (B (8 + im)) = mu im := (hof (8 + im) (by omega) (by omega)).trans (hiv.2.2 im him).1
      have fr_im : sg0 (B (20 + im)) = ra im := (hof (20 + im) (by omega) (by omega)).trans (hiv.2.2 im him).2.1
      refine bd_cv (As := [.ref (a (3 + im))]) (rest := []) C (c4_findEnds _ _ _ _ _ hbk hS im him (by rw [fm_im, fr_im]; exact (Nat.lt_of_le_of_lt (Nat.add_le_add hbm_im hbr_im) (by decide +kernel)))) (cwV 1 hts gX4_root_X4_findEnds rfl rfl rfl (by decide +kernel) ⟨Nat.le_of_ble_eq_true rfl, Nat.le_of_ble_eq_true rfl⟩) hsz hw (bk_recv C hw hbk) dX4_root_23 rfl hl.1 rfl (Nat.le_of_ble_eq_true rfl) ⟨Nat.le_refl _, Nat.le_refl _⟩ (fun E1 z H locs hp hw => ?_)
      obtain ⟨hE9, sg, hS, hv0_, hv1_, hf9⟩ := hp
      rw [show E1 = E0 from hE9] at hw
      have fT0_ : sg (B 1) = (mu im - ra im) := hv0_.trans (by rw [fm_im, fr_im])
      have fT1_ : sg (B 2) = (mu im + ra im) := hv1_.trans (by rw [fm_im, fr_im])
      have f_1 := fT0_
      have f_2 := fT1_
      have hof : ∀ j, (j = 0 ∨ 8 ≤ j) → j < 32 → sg (B j) = sg0 (B j) := fun j h1 h2 => (hf9 (B j) (bk_ne hbk (i := j) (j := 1) (by omega) (by omega) (by omega)) (bk_ne hbk (i := j) (j := 2) (by omega) (by omega) (by omega))).trans (hof j h1 h2)
      have hfi : fn_iv (P + 64) (bk_A B) sg := fn_ivm hfi (hf9 (bk_A B 1) (bk_ne hbk (i := 31 + 1) (j := 1) (by decide) (by decide) (by decide)) (bk_ne hbk (i := 31 + 1) (j := 2) (by decide) (by decide) (by decide))) (hf9 (bk_A B 2) (bk_ne hbk (i := 31 + 2) (j := 1) (by decide) (by decide) (by decide)) (bk_ne hbk (i := 31 + 2) (j := 2) (by decide) (by decide) (by decide))) (hf9 (bk_A B 3) (bk_ne hbk (i := 31 + 3) (j := 1) (by decide) (by decide) (by decide)) (bk_ne hbk (i := 31 + 3) (j := 2) (by decide) (by decide) (by decide)))
      refine lv_aload_n hx hb dX4_root_26 rfl (lv_at hl 0 rfl) ?_
      refine bk_g C i4 hw hbk 4 (by decide) (v := .ref (B 1)) rfl dX4_root_27 lk27 ?_
      refine bd_cip (As := []) (rest := []) C (v3_sign _ _ _ _ _ hS (B 1) (bk_in hbk (i := 1) (by omega))) (cwV 0 hts gX4_root_X3_sign rfl rfl rfl (by decide +kernel) ⟨Nat.le_of_ble_eq_true rfl, Nat.le_of_ble_eq_true rfl⟩) hsz hw (bd_recv C hw (bk_in hbk (i := 1) (by omega))) dX4_root_30 rfl hl.1 rfl (Nat.le_of_ble_eq_true rfl) ⟨Nat.le_refl _, Nat.le_refl _⟩ (fun H locs hw => ?_)
      rw [f_1, q3_sg]
      refine lv_if_ge (tgt := 38) hx hb dX4_root_33 (by decide) (fun hc33 => ?_) (fun hc33 => ?_)
      · have hq33 := q3_ge.mp hc33
        have hd : dk_root P (nI kn) (nI im) mu ra = dk_ends P kn (sp_ROOT ((mu im - ra im) * dk_p P)) ((sp_ROOT ((mu im + ra im) * dk_p P)) + 1) mu ra := by unfold dk_root; rw [if_pos ⟨⟨hpl_kn, hpl_im⟩, by rw [hx_im]; exact hq33⟩, hx_kn, hx_im]
        refine lv_aload_n hx hb dX4_root_38 rfl (lv_at hl 0 rfl) ?_
        refine bk_g C i4 hw hbk 4 (by decide) (v := .ref (B 1)) rfl dX4_root_39 lk27 ?_
        refine lv_aload_n hx hb dX4_root_42 rfl (lv_at hl 0 rfl) ?_
        refine bk_g C i4 hw hbk 0 (by decide) (v := .int (nI P)) rfl dX4_root_43 lk58 ?_
        refine sv_v (As := [.int (nI P)]) (rest := []) C (v3_raise _ _ _ _ _ hS (B 1) P 8 (bk_in hbk (i := 1) (by omega)) (by omega) (by rw [f_1]; exact (Nat.lt_of_le_of_lt he1 (by decide +kernel))) (by omega)) (cwV 1 hts gX4_root_X3_raise rfl rfl rfl (by decide +kernel) ⟨Nat.le_of_ble_eq_true rfl, Nat.le_of_ble_eq_true rfl⟩) hsz hw (bd_recv C hw (bk_in hbk (i := 1) (by omega))) dX4_root_46 rfl hl.1 rfl (Nat.le_of_ble_eq_true rfl) ⟨Nat.le_refl _, Nat.le_refl _⟩ (fun z sg H locs hv9 hf9 hS hw => ?_)
        have fT9 : sg (B 1) = ((mu im - ra im) * dk_p P) := hv9.trans (by rw [f_1])
        have f_2 : sg (B 2) = (mu im + ra im) := (hf9 (B 2) (bk_ne hbk (i := 2) (j := 1) (by omega) (by omega) (by omega))).trans f_2
        have f_1 := fT9
        have hof : ∀ j, (j = 0 ∨ 8 ≤ j) → j < 32 → sg (B j) = sg0 (B j) := fun j h1 h2 => (hf9 (B j) (bk_ne hbk (i := j) (j := 1) (by omega) (by omega) (by omega))).trans (hof j h1 h2)
        have hfi : fn_iv (P + 64) (bk_A B) sg := fn_ivm hfi (hf9 (bk_A B 1) (bk_ne hbk (i := 31 + 1) (j := 1) (by decide) (by decide) (by decide))) (hf9 (bk_A B 2) (bk_ne hbk (i := 31 + 2) (j := 1) (by decide) (by decide) (by decide))) (hf9 (bk_A B 3) (bk_ne hbk (i := 31 + 3) (j := 1) (by decide) (by decide) (by decide)))
        refine lv_aload_n hx hb dX4_root_49 rfl (lv_at hl 0 rfl) ?_
        refine bk_g C i4 hw hbk 10 (by decide) (v := .ref (a 15)) rfl dX4_root_50 lk70 ?_
        refine lv_aload_n hx hb dX4_root_53 rfl (lv_at hl 0 rfl) ?_
        refine bk_g C i4 hw hbk 4 (by decide) (v := .ref (B 1)) rfl dX4_root_54 lk27 ?_
        refine bd_cv (As := [.ref (B 1)]) (rest := []) C (f_squareRoot _ _ _ _ _ (bk_fn hbk) hS (B 1) (bk_in hbk (i := 1) (by omega)) (fun i hi => bk_xA hbk (j := 1) (by omega) i (by omega)) (by rw [f_1]; exact (Nat.lt_of_le_of_lt (mul_b he1 (pP_b hP2)) (by decide +kernel)))) (cwV 1 hts gX4_root_X2_squareRoot rfl rfl rfl (by decide +kernel) ⟨Nat.le_of_ble_eq_true rfl, Nat.le_of_ble_eq_true rfl⟩) hsz hw (fn_recv C hw (bk_fn hbk)) dX4_root_57 rfl hl.1 rfl (Nat.le_of_ble_eq_true rfl) ⟨Nat.le_refl _, Nat.le_refl _⟩ (fun E z H locs hp hw => ?_)
        obtain ⟨hfn9, hfe9, sg, hS, hv9, hf9⟩ := hp
        have hbk := bk_mv2 hbk hfn9 hfe9
        have fT9 : sg (B 1) = (sp_ROOT ((mu im - ra im) * dk_p P)) := hv9.trans (by rw [f_1])
        have f_2 : sg (B 2) = (mu im + ra im) := (hf9 (B 2) (bk_ne hbk (i := 2) (j := 1) (by omega) (by omega) (by omega)) (la_c (bk_ne hbk (i := 2) (j := 31 + 9) (by omega) (by omega) (by omega)) (la_c (bk_ne hbk (i := 2) (j := 31 + 10) (by omega) (by omega) (by omega)) la_n))).trans f_2
        have f_1 := fT9
        have hof : ∀ j, (j = 0 ∨ 8 ≤ j) → j < 32 → sg (B j) = sg0 (B j) := fun j h1 h2 => (hf9 (B j) (bk_ne hbk (i := j) (j := 1) (by omega) (by omega) (by omega)) (la_c (bk_ne hbk (i := j) (j := 31 + 9) (by omega) (by omega) (by omega)) (la_c (bk_ne hbk (i := j) (j := 31 + 10) (by omega) (by omega) (by omega)) la_n))).trans (hof j h1 h2)
        have hfi : fn_iv (P + 64) (bk_A B) sg := fn_ivm hfi (hf9 (bk_A B 1) (bk_ne hbk (i := 31 + 1) (j := 1) (by decide) (by decide) (by decide)) (la_c (bk_ne hbk (i := 31 + 1) (j := 31 + 9) (by omega) (by omega) (by omega)) (la_c (bk_ne hbk (i := 31 + 1) (j := 31 + 10) (by omega) (by omega) (by omega)) la_n))) (hf9 (bk_A B 2) (bk_ne hbk (i := 31 + 2) (j := 1) (by decide) (by decide) (by decide)) (la_c (bk_ne hbk (i := 31 + 2) (j := 31 + 9) (by omega) (by omega) (by omega)) (la_c (bk_ne hbk (i := 31 + 2) (j := 31 + 10) (by omega) (by omega) (by omega)) la_n))) (hf9 (bk_A B 3) (bk_ne hbk (i := 31 + 3) (j := 1) (by decide) (by decide) (by decide)) (la_c (bk_ne hbk (i := 31 + 3) (j := 31 + 9) (by omega) (by omega) (by omega)) (la_c (bk_ne hbk (i := 31 + 3) (j := 31 + 10) (by omega) (by omega) (by omega)) la_n)))
        refine lv_aload_n hx hb dX4_root_60 rfl (lv_at hl 0 rfl) ?_
        refine bk_g C i4 hw hbk 5 (by decide) (v := .ref (B 2)) rfl dX4_root_61 lk30 ?_
        refine lv_aload_n hx hb dX4_root_64 rfl (lv_at hl 0 rfl) ?_
        refine bk_g C i4 hw hbk 0 (by decide) (v := .int (nI P)) rfl dX4_root_65 lk58 ?_
        refine sv_v (As := [.int (nI P)]) (rest := []) C (v3_raise _ _ _ _ _ hS (B 2) P 8 (bk_in hbk (i := 2) (by omega)) (by omega) (by rw [f_2]; exact (Nat.lt_of_le_of_lt he2 (by decide +kernel))) (by omega)) (cwV 1 hts gX4_root_X3_raise rfl rfl rfl (by decide +kernel) ⟨Nat.le_of_ble_eq_true rfl, Nat.le_of_ble_eq_true rfl⟩) hsz hw (bd_recv C hw (bk_in hbk (i := 2) (by omega))) dX4_root_68 rfl hl.1 rfl (Nat.le_of_ble_eq_true rfl) ⟨Nat.le_refl _, Nat.le_refl _⟩ (fun z sg H locs hv9 hf9 hS hw => ?_)
        have fT9 : sg (B 2) = ((mu im + ra im) * dk_p P) := hv9.trans (by rw [f_2])
        have f_1 : sg (B 1) = (sp_ROOT ((mu im - ra im) * dk_p P)) := (hf9 (B 1) (bk_ne hbk (i := 1) (j := 2) (by omega) (by omega) (by omega))).trans f_1
        have f_2 := fT9
        have hof : ∀ j, (j = 0 ∨ 8 ≤ j) → j < 32 → sg (B j) = sg0 (B j) := fun j h1 h2 => (hf9 (B j) (bk_ne hbk (i := j) (j := 2) (by omega) (by omega) (by omega))).trans (hof j h1 h2)
        have hfi : fn_iv (P + 64) (bk_A B) sg := fn_ivm hfi (hf9 (bk_A B 1) (bk_ne hbk (i := 31 + 1) (j := 2) (by decide) (by decide) (by decide))) (hf9 (bk_A B 2) (bk_ne hbk (i := 31 + 2) (j := 2) (by decide) (by decide) (by decide))) (hf9 (bk_A B 3) (bk_ne hbk (i := 31 + 3) (j := 2) (by decide) (by decide) (by decide)))
        refine lv_aload_n hx hb dX4_root_71 rfl (lv_at hl 0 rfl) ?_
        refine bk_g C i4 hw hbk 10 (by decide) (v := .ref (a 15)) rfl dX4_root_72 lk70 ?_
        refine lv_aload_n hx hb dX4_root_75 rfl (lv_at hl 0 rfl) ?_
        refine bk_g C i4 hw hbk 5 (by decide) (v := .ref (B 2)) rfl dX4_root_76 lk30 ?_
        refine bd_cv (As := [.ref (B 2)]) (rest := []) C (f_squareRoot _ _ _ _ _ (bk_fn hbk) hS (B 2) (bk_in hbk (i := 2) (by omega)) (fun i hi => bk_xA hbk (j := 2) (by omega) i (by omega)) (by rw [f_2]; exact (Nat.lt_of_le_of_lt (mul_b he2 (pP_b hP2)) (by decide +kernel)))) (cwV 1 hts gX4_root_X2_squareRoot rfl rfl rfl (by decide +kernel) ⟨Nat.le_of_ble_eq_true rfl, Nat.le_of_ble_eq_true rfl⟩) hsz hw (fn_recv C hw (bk_fn hbk)) dX4_root_79 rfl hl.1 rfl (Nat.le_of_ble_eq_true rfl) ⟨Nat.le_refl _, Nat.le_refl _⟩ (fun E z H locs hp hw => ?_)
        obtain ⟨hfn9, hfe9, sg, hS, hv9, hf9⟩ := hp
        have hbk := bk_mv2 hbk hfn9 hfe9
        have fT9 : sg (B 2) = (sp_ROOT ((mu im + ra im) * dk_p P)) := hv9.trans (by rw [f_2])
        have f_1 : sg (B 1) = (sp_ROOT ((mu im - ra im) * dk_p P)) := (hf9 (B 1) (bk_ne hbk (i := 1) (j := 2) (by omega) (by omega) (by omega)) (la_c (bk_ne hbk (i := 1) (j := 31 + 9) (by omega) (by omega) (by omega)) (la_c (bk_ne hbk (i := 1) (j := 31 + 10) (by omega) (by omega) (by omega)) la_n))).trans f_1
        have f_2 := fT9
        have hof : ∀ j, (j = 0 ∨ 8 ≤ j) → j < 32 → sg (B j) = sg0 (B j) := fun j h1 h2 => (hf9 (B j) (bk_ne hbk (i := j) (j := 2) (by omega) (by omega) (by omega)) (la_c (bk_ne hbk (i := j) (j := 31 + 9) (by omega) (by omega) (by omega)) (la_c (bk_ne hbk (i := j) (j := 31 + 10) (by omega) (by omega) (by omega)) la_n))).trans (hof j h1 h2)
        have hfi : fn_iv (P + 64) (bk_A B) sg := fn_ivm hfi (hf9 (bk_A B 1) (bk_ne hbk (i := 31 + 1) (j := 2) (by decide) (by decide) (by decide)) (la_c (bk_ne hbk (i := 31 + 1) (j := 31 + 9) (by omega) (by omega) (by omega)) (la_c (bk_ne hbk (i := 31 + 1) (j := 31 + 10) (by omega) (by omega) (by omega)) la_n))) (hf9 (bk_A B 2) (bk_ne hbk (i := 31 + 2) (j := 2) (by decide) (by decide) (by decide)) (la_c (bk_ne hbk (i := 31 + 2) (j := 31 + 9) (by omega) (by omega) (by omega)) (la_c (bk_ne hbk (i := 31 + 2) (j := 31 + 10) (by omega) (by omega) (by omega)) la_n))) (hf9 (bk_A B 3) (bk_ne hbk (i := 31 + 3) (j := 2) (by decide) (by decide) (by decide)) (la_c (bk_ne hbk (i := 31 + 3) (j := 31 + 9) (by omega) (by omega) (by omega)) (la_c (bk_ne hbk (i := 31 + 3) (j := 31 + 10) (by omega) (by omega) (by omega)) la_n)))
        refine lv_aload_n hx hb dX4_root_82 rfl (lv_at hl 0 rfl) ?_
        refine lv_aload_n hx hb dX4_root_83 rfl (lv_at hl 0 rfl) ?_
        refine bk_g C i4 hw hbk 5 (by decide) (v := .ref (B 2)) rfl dX4_root_84 lk30 ?_
        refine lv_lconst (v := lN 1) hx hb dX4_root_87 rfl ?_
        refine bd_cv (As := [.ref (B 2), .long (lN 1)]) (rest := []) C (c4_change _ _ _ _ _ hbk hS 2 (lN 1) (by decide) (by decide) (by rw [f_2]; exact (Nat.le_trans (sp_ROOTb _) (Nat.le_trans (mul_b he2 (pP_b hP2)) (by decide +kernel))))) (cwV 2 hts gX4_root_X4_change rfl rfl rfl (by decide +kernel) ⟨Nat.le_of_ble_eq_true rfl, Nat.le_of_ble_eq_true rfl⟩) hsz hw (bk_recv C hw hbk) dX4_root_88 rfl hl.1 rfl (Nat.le_of_ble_eq_true rfl) ⟨Nat.le_refl _, Nat.le_refl _⟩ (fun E1 z H locs hp hw => ?_)
        obtain ⟨hE9, sg, hS, hv0_, hf9⟩ := hp
        rw [show E1 = E from hE9] at hw
        have fT0_ : sg (B 2) = ((sp_ROOT ((mu im + ra im) * dk_p P)) + 1) := hv0_.trans (by rw [f_2]; rfl)
        have f_1 : sg (B 1) = (sp_ROOT ((mu im - ra im) * dk_p P)) := (hf9 (B 1) (bk_ne hbk (i := 1) (j := 2) (by omega) (by omega) (by omega)) (bk_ne hbk (i := 1) (j := 5) (by omega) (by omega) (by omega))).trans f_1
        have f_2 := fT0_
        have hof : ∀ j, (j = 0 ∨ 8 ≤ j) → j < 32 → sg (B j) = sg0 (B j) := fun j h1 h2 => (hf9 (B j) (bk_ne hbk (i := j) (j := 2) (by omega) (by omega) (by omega)) (bk_ne hbk (i := j) (j := 5) (by omega) (by omega) (by omega))).trans (hof j h1 h2)
        have hfi : fn_iv (P + 64) (bk_A B) sg := fn_ivm hfi (hf9 (bk_A B 1) (bk_ne hbk (i := 31 + 1) (j := 2) (by decide) (by decide) (by decide)) (bk_ne hbk (i := 31 + 1) (j := 5) (by decide) (by decide) (by decide))) (hf9 (bk_A B 2) (bk_ne hbk (i := 31 + 2) (j := 2) (by decide) (by decide) (by decide)) (bk_ne hbk (i := 31 + 2) (j := 5) (by decide) (by decide) (by decide))) (hf9 (bk_A B 3) (bk_ne hbk (i := 31 + 3) (j := 2) (by decide) (by decide) (by decide)) (bk_ne hbk (i := 31 + 3) (j := 5) (by decide) (by decide) (by decide)))
        refine lv_aload_n hx hb dX4_root_91 rfl (lv_at hl 0 rfl) ?_
        refine lv_iload_n hx hb dX4_root_92 rfl (lv_at hl 1 rfl) ?_
        refine bd_ci (As := [.int (nI kn)]) (rest := []) C (c4_keepEnds _ _ _ _ _ hbk hS (bk_ivm hiv hof hfi) kn hkn (by rw [f_1]; exact (Nat.le_trans (sp_ROOTb _) (Nat.le_trans (mul_b he1 (pP_b hP2)) (by decide +kernel)))) (by rw [f_2]; exact (Nat.le_trans (add_b (Nat.le_trans (sp_ROOTb _) (mul_b he2 (pP_b hP2))) (Nat.le_refl (1 : Int).natAbs)) (by decide +kernel)))) (cwV 1 hts gX4_root_X4_keepEnds rfl rfl rfl (by decide +kernel) ⟨Nat.le_of_ble_eq_true rfl, Nat.le_of_ble_eq_true rfl⟩) hsz hw (bk_recv C hw hbk) dX4_root_93 rfl hl.1 rfl (Nat.le_of_ble_eq_true rfl) ⟨Nat.le_refl _, Nat.le_refl _⟩ (fun r9 E9 z H locs hp hw => ?_)
        rw [f_1, f_2] at hp
        exact bd_iret C hr hlk hw dX4_root_96 (by rw [hd]; exact hp)
      · have hq33 := Int.not_le.mp (fun q => hc33 (q3_ge.mpr q))
        refine lv_iconst (v := (-1)) hx hb dX4_root_36 (by decide) ?_
        have hd9 : dk_root P (nI kn) (nI im) mu ra = (-1, mu, ra) := if_neg (fun q => absurd q.2 (by rw [hx_im]; exact Int.not_le.mpr hq33))
        exact bd_iret C hr hlk hw dX4_root_37 (by rw [hd9]; exact ⟨rfl, hbk, sg, hS, bk_ivm hiv hof hfi⟩)
    · have hno := pl_f hc11
      refine lv_iconst (v := (-1)) hx hb dX4_root_14 (by decide) ?_
      have hd9 : dk_root P (nI kn) i mu ra = (-1, mu, ra) := if_neg (fun q => hno q.1.2)
      exact bd_iret C hr hlk hw dX4_root_15 (by rw [hd9]; exact ⟨rfl, hbk, sg0, hS, bk_ivm hiv hof hfi⟩)
set_option maxHeartbeats 4000000 in
set_option maxRecDepth 100000 in
/-- BallDesk.exp -/
theorem c4_exp (l : Launch) (K : Cxt) (E0 : Nat → va_E) (z0 : Nat → Wh) (sz : Nat) {P : Nat} {a B : Nat → Nat} (hbk : bk_at K E0 P a B) {sg0 : Nat → Int} (hS : sg_S K z0 sg0) {mu ra : Nat → Int} (hiv : bk_iv P B sg0 mu ra) (k i : Int32)  : Met l yX4_exp wsX4_exp ({ frames := 7, cells := 0, slots := 0, locals := 240 }) (va_Pc [.ref (a 0), .int k, .int i] (bd_P K E0 z0 sz)) (va_Qi (bk_post K P a B (dk_exp P k i mu ra)) (bd_B K) (bd_A K sz)) 0 0 (bd_A K sz) := by
  refine bd_ofW (cc := cX4_exp) (maxL := 3) (ret := (some .int)) (by decide) rfl (Nat.le_of_ble_eq_true rfl) ?_
  intro p e s m below meth c ls C hr hlk hsz hw hl
  have hx := C.1
  have hb := C.2.1
  have hown := C.2.2.2.1
  have hts := C.2.2.2.2.1
  have i4 : ∀ w ∈ wsX40, w ∈ wsX4_exp := by decide +kernel
  have lk18 : Cond.fieldLink RX4 18 "BallDesk" "places" "[LBallDesk$Ball;" ∈ wsX4_exp := by decide +kernel
  have lk36 : Cond.fieldLink RX4 36 "BallDesk" "right" "LBallDesk$Whole;" ∈ wsX4_exp := by decide +kernel
  have lk147 : Cond.constantLong RX4 147 (16) ∈ wsX4_exp := by decide +kernel
  have lk58 : Cond.fieldLink RX4 58 "BallDesk" "bits" "I" ∈ wsX4_exp := by decide +kernel
  have lk33 : Cond.fieldLink RX4 33 "BallDesk" "left" "LBallDesk$Whole;" ∈ wsX4_exp := by decide +kernel
  have lk27 : Cond.fieldLink RX4 27 "BallDesk" "low" "LBallDesk$Whole;" ∈ wsX4_exp := by decide +kernel
  have lk30 : Cond.fieldLink RX4 30 "BallDesk" "high" "LBallDesk$Whole;" ∈ wsX4_exp := by decide +kernel
  have lk70 : Cond.fieldLink RX4 70 "BallDesk" "fine" "LBallDesk$Fine;" ∈ wsX4_exp := by decide +kernel
  obtain ⟨hP1, hP2⟩ := bk_P hbk
  have hl : lv_has ls 3 [(0, .ref (a 0)), (1, .int k), (2, .int i)] := hl
  have hof : ∀ j, (j = 0 ∨ 8 ≤ j) → j < 32 → sg0 (B j) = sg0 (B j) := fun _ _ _ => rfl
  have hfi := hiv.2.1
  refine lv_iload_n hx hb dX4_exp_0 rfl (lv_at hl 1 rfl) ?_
  refine bd_sip (As := [.int k]) (rest := []) C (c4_isPlace _ _ _ _ _ k) (va_cwS 1 hts gX4_exp_X4_isPlace rfl rfl rfl (by decide +kernel) ⟨Nat.le_of_ble_eq_true rfl, Nat.le_of_ble_eq_true rfl⟩) hsz hw dX4_exp_1 rfl hl.1 rfl (Nat.le_of_ble_eq_true rfl) ⟨Nat.le_refl _, Nat.le_refl _⟩ (fun H locs hw => ?_)
  refine lv_if_eq (tgt := 14) hx hb dX4_exp_4 (by decide) (fun hc4 => ?_) (fun hc4 => ?_)
  · have hno := pl_f hc4
    refine lv_iconst (v := (-1)) hx hb dX4_exp_14 (by decide) ?_
    have hd9 : dk_exp P k i mu ra = (-1, mu, ra) := if_neg (fun q => hno q.1.1)
    exact bd_iret C hr hlk hw dX4_exp_15 (by rw [hd9]; exact ⟨rfl, hbk, sg0, hS, bk_ivm hiv hof hfi⟩)
  · have hpl_kn := pl_t hc4
    obtain ⟨kn, hkn, hk_kn, hx_kn⟩ := pl_x hpl_kn
    subst hk_kn
    refine lv_iload_n hx hb dX4_exp_7 rfl (lv_at hl 2 rfl) ?_
    refine bd_sip (As := [.int i]) (rest := []) C (c4_isPlace _ _ _ _ _ i) (va_cwS 1 hts gX4_exp_X4_isPlace rfl rfl rfl (by decide +kernel) ⟨Nat.le_of_ble_eq_true rfl, Nat.le_of_ble_eq_true rfl⟩) hsz hw dX4_exp_8 rfl hl.1 rfl (Nat.le_of_ble_eq_true rfl) ⟨Nat.le_refl _, Nat.le_refl _⟩ (fun H locs hw => ?_)
    refine lv_if_ne (tgt := 16) hx hb dX4_exp_11 (by decide) (fun hc11 => ?_) (fun hc11 => ?_)
    · have hpl_im := pl_t hc11
      obtain ⟨im, him, hk_im, hx_im⟩ := pl_x hpl_im
      subst hk_im
      obtain ⟨hbm_im, hb0_im, hbr_im⟩ := bk_b hP2 hiv him
      obtain ⟨he1, he2⟩ := e_b hbm_im hbr_im
      refine lv_aload_n hx hb dX4_exp_16 rfl (lv_at hl 0 rfl) ?_
      refine lv_aload_n hx hb dX4_exp_17 rfl (lv_at hl 0 rfl) ?_
      refine bk_g C i4 hw hbk 2 (by decide) (v := .ref (a 1)) rfl dX4_exp_18 lk18 ?_
      refine lv_iload_n hx hb dX4_exp_21 rfl (lv_at hl 2 rfl) ?_
      refine bk_ald C hw hbk him dX4_exp_22 ?_
      have fm_im : sg0 (B (8 + im)) = mu im := (hof (8 + im) (by omega) (by omega)).trans (hiv.2.2 im him).1
      have fr_im : sg0 (B (20 + im)) = ra im := (hof (20 + im) (by omega) (by omega)).trans (hiv.2.2 im him).2.1
      refine bd_cv (As := [.ref (a (3 + im))]) (rest := []) C (c4_findEnds _ _ _ _ _ hbk hS im him (by rw [fm_im, fr_im]; exact (Nat.lt_of_le_of_lt (Nat.add_le_add hbm_im hbr_im) (by decide +kernel)))) (cwV 1 hts gX4_exp_X4_findEnds rfl rfl rfl (by decide +kernel) ⟨Nat.le_of_ble_eq_true rfl, Nat.le_of_ble_eq_true rfl⟩) hsz hw (bk_recv C hw hbk) dX4_exp_23 rfl hl.1 rfl (Nat.le_of_ble_eq_true rfl) ⟨Nat.le_refl _, Nat.le_refl _⟩ (fun E1 z H locs hp hw => ?_)
      obtain ⟨hE9, sg, hS, hv0_, hv1_, hf9⟩ := hp
      rw [show E1 = E0 from hE9] at hw
      have fT0_ : sg (B 1) = (mu im - ra im) := hv0_.trans (by rw [fm_im, fr_im])
      have fT1_ : sg (B 2) = (mu im + ra im) := hv1_.trans (by rw [fm_im, fr_im])
      have f_1 := fT0_
      have f_2 := fT1_
      have hof : ∀ j, (j = 0 ∨ 8 ≤ j) → j < 32 → sg (B j) = sg0 (B j) := fun j h1 h2 => (hf9 (B j) (bk_ne hbk (i := j) (j := 1) (by omega) (by omega) (by omega)) (bk_ne hbk (i := j) (j := 2) (by omega) (by omega) (by omega))).trans (hof j h1 h2)
      have hfi : fn_iv (P + 64) (bk_A B) sg := fn_ivm hfi (hf9 (bk_A B 1) (bk_ne hbk (i := 31 + 1) (j := 1) (by decide) (by decide) (by decide)) (bk_ne hbk (i := 31 + 1) (j := 2) (by decide) (by decide) (by decide))) (hf9 (bk_A B 2) (bk_ne hbk (i := 31 + 2) (j := 1) (by decide) (by decide) (by decide)) (bk_ne hbk (i := 31 + 2) (j := 2) (by decide) (by decide) (by decide))) (hf9 (bk_A B 3) (bk_ne hbk (i := 31 + 3) (j := 1) (by decide) (by decide) (by decide)) (bk_ne hbk (i := 31 + 3) (j := 2) (by decide) (by decide) (by decide)))
      refine lv_aload_n hx hb dX4_exp_26 rfl (lv_at hl 0 rfl) ?_
      refine bk_g C i4 hw hbk 7 (by decide) (v := .ref (B 4)) rfl dX4_exp_27 lk36 ?_
      refine lv_ldc2 (v := lN 16) hx hb hown (hts _ lk147) dX4_exp_30 ?_
      refine sv_v (As := [.long (lN 16)]) (rest := []) C (v3_become _ _ _ _ _ hS (B 4) (lN 16) (bk_in hbk (i := 4) (by omega))) (cwV 1 hts gX4_exp_X3_become rfl rfl rfl (by decide +kernel) ⟨Nat.le_of_ble_eq_true rfl, Nat.le_of_ble_eq_true rfl⟩) hsz hw (bd_recv C hw (bk_in hbk (i := 4) (by omega))) dX4_exp_33 rfl hl.1 rfl (Nat.le_of_ble_eq_true rfl) ⟨Nat.le_refl _, Nat.le_refl _⟩ (fun z sg H locs hv9 hf9 hS hw => ?_)
      have fT9 : sg (B 4) = 16 := hv9.trans (by rfl)
      have f_1 : sg (B 1) = (mu im - ra im) := (hf9 (B 1) (bk_ne hbk (i := 1) (j := 4) (by omega) (by omega) (by omega))).trans f_1
      have f_2 : sg (B 2) = (mu im + ra im) := (hf9 (B 2) (bk_ne hbk (i := 2) (j := 4) (by omega) (by omega) (by omega))).trans f_2
      have f_4 := fT9
      have hof : ∀ j, (j = 0 ∨ 8 ≤ j) → j < 32 → sg (B j) = sg0 (B j) := fun j h1 h2 => (hf9 (B j) (bk_ne hbk (i := j) (j := 4) (by omega) (by omega) (by omega))).trans (hof j h1 h2)
      have hfi : fn_iv (P + 64) (bk_A B) sg := fn_ivm hfi (hf9 (bk_A B 1) (bk_ne hbk (i := 31 + 1) (j := 4) (by decide) (by decide) (by decide))) (hf9 (bk_A B 2) (bk_ne hbk (i := 31 + 2) (j := 4) (by decide) (by decide) (by decide))) (hf9 (bk_A B 3) (bk_ne hbk (i := 31 + 3) (j := 4) (by decide) (by decide) (by decide)))
      refine lv_aload_n hx hb dX4_exp_36 rfl (lv_at hl 0 rfl) ?_
      refine bk_g C i4 hw hbk 7 (by decide) (v := .ref (B 4)) rfl dX4_exp_37 lk36 ?_
      refine lv_aload_n hx hb dX4_exp_40 rfl (lv_at hl 0 rfl) ?_
      refine bk_g C i4 hw hbk 0 (by decide) (v := .int (nI P)) rfl dX4_exp_41 lk58 ?_
      refine sv_v (As := [.int (nI P)]) (rest := []) C (v3_raise _ _ _ _ _ hS (B 4) P 1 (bk_in hbk (i := 4) (by omega)) (by omega) (by rw [f_4]; exact (show (16 : Int).natAbs < _ by decide)) (by omega)) (cwV 1 hts gX4_exp_X3_raise rfl rfl rfl (by decide +kernel) ⟨Nat.le_of_ble_eq_true rfl, Nat.le_of_ble_eq_true rfl⟩) hsz hw (bd_recv C hw (bk_in hbk (i := 4) (by omega))) dX4_exp_44 rfl hl.1 rfl (Nat.le_of_ble_eq_true rfl) ⟨Nat.le_refl _, Nat.le_refl _⟩ (fun z sg H locs hv9 hf9 hS hw => ?_)
      have fT9 : sg (B 4) = (16 * dk_p P) := hv9.trans (by rw [f_4])
      have f_1 : sg (B 1) = (mu im - ra im) := (hf9 (B 1) (bk_ne hbk (i := 1) (j := 4) (by omega) (by omega) (by omega))).trans f_1
      have f_2 : sg (B 2) = (mu im + ra im) := (hf9 (B 2) (bk_ne hbk (i := 2) (j := 4) (by omega) (by omega) (by omega))).trans f_2
      have f_4 := fT9
      have hof : ∀ j, (j = 0 ∨ 8 ≤ j) → j < 32 → sg (B j) = sg0 (B j) := fun j h1 h2 => (hf9 (B j) (bk_ne hbk (i := j) (j := 4) (by omega) (by omega) (by omega))).trans (hof j h1 h2)
      have hfi : fn_iv (P + 64) (bk_A B) sg := fn_ivm hfi (hf9 (bk_A B 1) (bk_ne hbk (i := 31 + 1) (j := 4) (by decide) (by decide) (by decide))) (hf9 (bk_A B 2) (bk_ne hbk (i := 31 + 2) (j := 4) (by decide) (by decide) (by decide))) (hf9 (bk_A B 3) (bk_ne hbk (i := 31 + 3) (j := 4) (by decide) (by decide) (by decide)))
      refine lv_aload_n hx hb dX4_exp_47 rfl (lv_at hl 0 rfl) ?_
      refine bk_g C i4 hw hbk 6 (by decide) (v := .ref (B 3)) rfl dX4_exp_48 lk33 ?_
      refine lv_aload_n hx hb dX4_exp_51 rfl (lv_at hl 0 rfl) ?_
      refine bk_g C i4 hw hbk 7 (by decide) (v := .ref (B 4)) rfl dX4_exp_52 lk36 ?_
      refine sv_v (As := [.ref (B 4)]) (rest := []) C (v3_become_ _ _ _ _ _ hS (B 3) (B 4) (bk_in hbk (i := 3) (by omega)) (bk_in hbk (i := 4) (by omega))) (cwV 1 hts gX4_exp_X3_become_ rfl rfl rfl (by decide +kernel) ⟨Nat.le_of_ble_eq_true rfl, Nat.le_of_ble_eq_true rfl⟩) hsz hw (bd_recv C hw (bk_in hbk (i := 3) (by omega))) dX4_exp_55 rfl hl.1 rfl (Nat.le_of_ble_eq_true rfl) ⟨Nat.le_refl _, Nat.le_refl _⟩ (fun z sg H locs hv9 hf9 hS hw => ?_)
      have fT9 : sg (B 3) = (16 * dk_p P) := hv9.trans (by exact f_4)
      have f_1 : sg (B 1) = (mu im - ra im) := (hf9 (B 1) (bk_ne hbk (i := 1) (j := 3) (by omega) (by omega) (by omega))).trans f_1
      have f_2 : sg (B 2) = (mu im + ra im) := (hf9 (B 2) (bk_ne hbk (i := 2) (j := 3) (by omega) (by omega) (by omega))).trans f_2
      have f_4 : sg (B 4) = (16 * dk_p P) := (hf9 (B 4) (bk_ne hbk (i := 4) (j := 3) (by omega) (by omega) (by omega))).trans f_4
      have f_3 := fT9
      have hof : ∀ j, (j = 0 ∨ 8 ≤ j) → j < 32 → sg (B j) = sg0 (B j) := fun j h1 h2 => (hf9 (B j) (bk_ne hbk (i := j) (j := 3) (by omega) (by omega) (by omega))).trans (hof j h1 h2)
      have hfi : fn_iv (P + 64) (bk_A B) sg := fn_ivm hfi (hf9 (bk_A B 1) (bk_ne hbk (i := 31 + 1) (j := 3) (by decide) (by decide) (by decide))) (hf9 (bk_A B 2) (bk_ne hbk (i := 31 + 2) (j := 3) (by decide) (by decide) (by decide))) (hf9 (bk_A B 3) (bk_ne hbk (i := 31 + 3) (j := 3) (by decide) (by decide) (by decide)))
      refine lv_aload_n hx hb dX4_exp_58 rfl (lv_at hl 0 rfl) ?_
      refine bk_g C i4 hw hbk 6 (by decide) (v := .ref (B 3)) rfl dX4_exp_59 lk33 ?_
      refine sv_v (As := []) (rest := []) C (v3_turn _ _ _ _ _ hS (B 3) (bk_in hbk (i := 3) (by omega))) (cwV 0 hts gX4_exp_X3_turn rfl rfl rfl (by decide +kernel) ⟨Nat.le_of_ble_eq_true rfl, Nat.le_of_ble_eq_true rfl⟩) hsz hw (bd_recv C hw (bk_in hbk (i := 3) (by omega))) dX4_exp_62 rfl hl.1 rfl (Nat.le_of_ble_eq_true rfl) ⟨Nat.le_refl _, Nat.le_refl _⟩ (fun z sg H locs hv9 hf9 hS hw => ?_)
      have fT9 : sg (B 3) = (-(16 * dk_p P)) := hv9.trans (by rw [f_3])
      have f_1 : sg (B 1) = (mu im - ra im) := (hf9 (B 1) (bk_ne hbk (i := 1) (j := 3) (by omega) (by omega) (by omega))).trans f_1
      have f_2 : sg (B 2) = (mu im + ra im) := (hf9 (B 2) (bk_ne hbk (i := 2) (j := 3) (by omega) (by omega) (by omega))).trans f_2
      have f_4 : sg (B 4) = (16 * dk_p P) := (hf9 (B 4) (bk_ne hbk (i := 4) (j := 3) (by omega) (by omega) (by omega))).trans f_4
      have f_3 := fT9
      have hof : ∀ j, (j = 0 ∨ 8 ≤ j) → j < 32 → sg (B j) = sg0 (B j) := fun j h1 h2 => (hf9 (B j) (bk_ne hbk (i := j) (j := 3) (by omega) (by omega) (by omega))).trans (hof j h1 h2)
      have hfi : fn_iv (P + 64) (bk_A B) sg := fn_ivm hfi (hf9 (bk_A B 1) (bk_ne hbk (i := 31 + 1) (j := 3) (by decide) (by decide) (by decide))) (hf9 (bk_A B 2) (bk_ne hbk (i := 31 + 2) (j := 3) (by decide) (by decide) (by decide))) (hf9 (bk_A B 3) (bk_ne hbk (i := 31 + 3) (j := 3) (by decide) (by decide) (by decide)))
      refine lv_aload_n hx hb dX4_exp_65 rfl (lv_at hl 0 rfl) ?_
      refine bk_g C i4 hw hbk 4 (by decide) (v := .ref (B 1)) rfl dX4_exp_66 lk27 ?_
      refine lv_aload_n hx hb dX4_exp_69 rfl (lv_at hl 0 rfl) ?_
      refine bk_g C i4 hw hbk 6 (by decide) (v := .ref (B 3)) rfl dX4_exp_70 lk33 ?_
      refine bd_cip (As := [.ref (B 3)]) (rest := []) C (v3_order _ _ _ _ _ hS (B 1) (B 3) (bk_in hbk (i := 1) (by omega)) (bk_in hbk (i := 3) (by omega))) (cwV 1 hts gX4_exp_X3_order rfl rfl rfl (by decide +kernel) ⟨Nat.le_of_ble_eq_true rfl, Nat.le_of_ble_eq_true rfl⟩) hsz hw (bd_recv C hw (bk_in hbk (i := 1) (by omega))) dX4_exp_73 rfl hl.1 rfl (Nat.le_of_ble_eq_true rfl) ⟨Nat.le_refl _, Nat.le_refl _⟩ (fun H locs hw => ?_)
      rw [f_1, f_3]
      refine lv_if_lt (tgt := 93) hx hb dX4_exp_76 (by decide) (fun hc76 => ?_) (fun hc76 => ?_)
      · have hq76 := q3_lt.mp hc76
        refine lv_iconst (v := (-1)) hx hb dX4_exp_93 (by decide) ?_
        have hd9 : dk_exp P (nI kn) (nI im) mu ra = (-1, mu, ra) := if_neg (fun q => absurd q.2 (by rw [hx_im]; omega))
        exact bd_iret C hr hlk hw dX4_exp_94 (by rw [hd9]; exact ⟨rfl, hbk, sg, hS, bk_ivm hiv hof hfi⟩)
      · have hq76 := Int.not_lt.mp (fun q => hc76 (q3_lt.mpr q))
        refine lv_aload_n hx hb dX4_exp_79 rfl (lv_at hl 0 rfl) ?_
        refine bk_g C i4 hw hbk 5 (by decide) (v := .ref (B 2)) rfl dX4_exp_80 lk30 ?_
        refine lv_aload_n hx hb dX4_exp_83 rfl (lv_at hl 0 rfl) ?_
        refine bk_g C i4 hw hbk 7 (by decide) (v := .ref (B 4)) rfl dX4_exp_84 lk36 ?_
        refine bd_cip (As := [.ref (B 4)]) (rest := []) C (v3_order _ _ _ _ _ hS (B 2) (B 4) (bk_in hbk (i := 2) (by omega)) (bk_in hbk (i := 4) (by omega))) (cwV 1 hts gX4_exp_X3_order rfl rfl rfl (by decide +kernel) ⟨Nat.le_of_ble_eq_true rfl, Nat.le_of_ble_eq_true rfl⟩) hsz hw (bd_recv C hw (bk_in hbk (i := 2) (by omega))) dX4_exp_87 rfl hl.1 rfl (Nat.le_of_ble_eq_true rfl) ⟨Nat.le_refl _, Nat.le_refl _⟩ (fun H locs hw => ?_)
        rw [f_2, f_4]
        refine lv_if_le (tgt := 95) hx hb dX4_exp_90 (by decide) (fun hc90 => ?_) (fun hc90 => ?_)
        · have hq90 := q3_le.mp hc90
          have hx1 : ((mu im - ra im) * dk_p 64).natAbs ≤ 2 ^ (P + 64 + 4) := ex_b (by omega) (by omega)
          have hx2 : ((mu im + ra im) * dk_p 64).natAbs ≤ 2 ^ (P + 64 + 4) := ex_b (by omega) (by omega)
          have hg1 := sp_EXPb (Q := P + 64) (by omega) (by omega) hx1
          have hg2 := sp_EXPb (Q := P + 64) (by omega) (by omega) hx2
          refine lv_aload_n hx hb dX4_exp_95 rfl (lv_at hl 0 rfl) ?_
          refine bd_cv (As := []) (rest := []) C (c4_refineEnds _ _ _ _ _ hbk hS (by rw [f_1]; exact (Nat.lt_of_le_of_lt he1 (by decide +kernel))) (by rw [f_2]; exact (Nat.lt_of_le_of_lt he2 (by decide +kernel)))) (cwV 0 hts gX4_exp_X4_refineEnds rfl rfl rfl (by decide +kernel) ⟨Nat.le_of_ble_eq_true rfl, Nat.le_of_ble_eq_true rfl⟩) hsz hw (bk_recv C hw hbk) dX4_exp_96 rfl hl.1 rfl (Nat.le_of_ble_eq_true rfl) ⟨Nat.le_refl _, Nat.le_refl _⟩ (fun E1 z H locs hp hw => ?_)
          obtain ⟨hE9, sg, hS, hv0_, hv1_, hf9⟩ := hp
          rw [show E1 = E0 from hE9] at hw
          have fT0_ : sg (B 1) = ((mu im - ra im) * dk_p 64) := hv0_.trans (by rw [f_1])
          have fT1_ : sg (B 2) = ((mu im + ra im) * dk_p 64) := hv1_.trans (by rw [f_2])
          have f_4 : sg (B 4) = (16 * dk_p P) := (hf9 (B 4) (bk_ne hbk (i := 4) (j := 1) (by omega) (by omega) (by omega)) (bk_ne hbk (i := 4) (j := 2) (by omega) (by omega) (by omega))).trans f_4
          have f_3 : sg (B 3) = (-(16 * dk_p P)) := (hf9 (B 3) (bk_ne hbk (i := 3) (j := 1) (by omega) (by omega) (by omega)) (bk_ne hbk (i := 3) (j := 2) (by omega) (by omega) (by omega))).trans f_3
          have f_1 := fT0_
          have f_2 := fT1_
          have hof : ∀ j, (j = 0 ∨ 8 ≤ j) → j < 32 → sg (B j) = sg0 (B j) := fun j h1 h2 => (hf9 (B j) (bk_ne hbk (i := j) (j := 1) (by omega) (by omega) (by omega)) (bk_ne hbk (i := j) (j := 2) (by omega) (by omega) (by omega))).trans (hof j h1 h2)
          have hfi : fn_iv (P + 64) (bk_A B) sg := fn_ivm hfi (hf9 (bk_A B 1) (bk_ne hbk (i := 31 + 1) (j := 1) (by decide) (by decide) (by decide)) (bk_ne hbk (i := 31 + 1) (j := 2) (by decide) (by decide) (by decide))) (hf9 (bk_A B 2) (bk_ne hbk (i := 31 + 2) (j := 1) (by decide) (by decide) (by decide)) (bk_ne hbk (i := 31 + 2) (j := 2) (by decide) (by decide) (by decide))) (hf9 (bk_A B 3) (bk_ne hbk (i := 31 + 3) (j := 1) (by decide) (by decide) (by decide)) (bk_ne hbk (i := 31 + 3) (j := 2) (by decide) (by decide) (by decide)))
          refine lv_aload_n hx hb dX4_exp_99 rfl (lv_at hl 0 rfl) ?_
          refine bk_g C i4 hw hbk 10 (by decide) (v := .ref (a 15)) rfl dX4_exp_100 lk70 ?_
          refine lv_aload_n hx hb dX4_exp_103 rfl (lv_at hl 0 rfl) ?_
          refine bk_g C i4 hw hbk 4 (by decide) (v := .ref (B 1)) rfl dX4_exp_104 lk27 ?_
          refine bd_cv (As := [.ref (B 1)]) (rest := []) C (f_exponential _ _ _ _ _ (bk_fn hbk) hS (B 1) (bk_in hbk (i := 1) (by omega)) (bk_xA hbk (j := 1) (by omega)) hfi.1 (by rw [f_1]; exact hx1)) (cwV 1 hts gX4_exp_X2_exponential rfl rfl rfl (by decide +kernel) ⟨Nat.le_of_ble_eq_true rfl, Nat.le_of_ble_eq_true rfl⟩) hsz hw (fn_recv C hw (bk_fn hbk)) dX4_exp_107 rfl hl.1 rfl (Nat.le_of_ble_eq_true rfl) ⟨Nat.le_refl _, Nat.le_refl _⟩ (fun E1 z H locs hp hw => ?_)
          obtain ⟨hE9, sg, hS, hv9, hf9⟩ := hp
          rw [show E1 = E0 from hE9] at hw
          have fT9 : sg (B 1) = (sp_EXP (P + 64) ((mu im - ra im) * dk_p 64)) := sp_EXPe (show sp_xp (P + 64) ((mu im - ra im) * dk_p 64) (sg (B 1)) by rw [f_1] at hv9; exact hv9)
          have f_2 : sg (B 2) = ((mu im + ra im) * dk_p 64) := (hf9 (B 2) (bk_ne hbk (i := 2) (j := 1) (by omega) (by omega) (by omega)) (la_c (bk_ne hbk (i := 2) (j := 31 + 4) (by omega) (by omega) (by omega)) (la_c (bk_ne hbk (i := 2) (j := 31 + 7) (by omega) (by omega) (by omega)) (la_c (bk_ne hbk (i := 2) (j := 31 + 8) (by omega) (by omega) (by omega)) la_n)))).trans f_2
          have f_4 : sg (B 4) = (16 * dk_p P) := (hf9 (B 4) (bk_ne hbk (i := 4) (j := 1) (by omega) (by omega) (by omega)) (la_c (bk_ne hbk (i := 4) (j := 31 + 4) (by omega) (by omega) (by omega)) (la_c (bk_ne hbk (i := 4) (j := 31 + 7) (by omega) (by omega) (by omega)) (la_c (bk_ne hbk (i := 4) (j := 31 + 8) (by omega) (by omega) (by omega)) la_n)))).trans f_4
          have f_3 : sg (B 3) = (-(16 * dk_p P)) := (hf9 (B 3) (bk_ne hbk (i := 3) (j := 1) (by omega) (by omega) (by omega)) (la_c (bk_ne hbk (i := 3) (j := 31 + 4) (by omega) (by omega) (by omega)) (la_c (bk_ne hbk (i := 3) (j := 31 + 7) (by omega) (by omega) (by omega)) (la_c (bk_ne hbk (i := 3) (j := 31 + 8) (by omega) (by omega) (by omega)) la_n)))).trans f_3
          have f_1 := fT9
          have hof : ∀ j, (j = 0 ∨ 8 ≤ j) → j < 32 → sg (B j) = sg0 (B j) := fun j h1 h2 => (hf9 (B j) (bk_ne hbk (i := j) (j := 1) (by omega) (by omega) (by omega)) (la_c (bk_ne hbk (i := j) (j := 31 + 4) (by omega) (by omega) (by omega)) (la_c (bk_ne hbk (i := j) (j := 31 + 7) (by omega) (by omega) (by omega)) (la_c (bk_ne hbk (i := j) (j := 31 + 8) (by omega) (by omega) (by omega)) la_n)))).trans (hof j h1 h2)
          have hfi : fn_iv (P + 64) (bk_A B) sg := fn_ivm hfi (hf9 (bk_A B 1) (bk_ne hbk (i := 31 + 1) (j := 1) (by decide) (by decide) (by decide)) (la_c (bk_ne hbk (i := 31 + 1) (j := 31 + 4) (by omega) (by omega) (by omega)) (la_c (bk_ne hbk (i := 31 + 1) (j := 31 + 7) (by omega) (by omega) (by omega)) (la_c (bk_ne hbk (i := 31 + 1) (j := 31 + 8) (by omega) (by omega) (by omega)) la_n)))) (hf9 (bk_A B 2) (bk_ne hbk (i := 31 + 2) (j := 1) (by decide) (by decide) (by decide)) (la_c (bk_ne hbk (i := 31 + 2) (j := 31 + 4) (by omega) (by omega) (by omega)) (la_c (bk_ne hbk (i := 31 + 2) (j := 31 + 7) (by omega) (by omega) (by omega)) (la_c (bk_ne hbk (i := 31 + 2) (j := 31 + 8) (by omega) (by omega) (by omega)) la_n)))) (hf9 (bk_A B 3) (bk_ne hbk (i := 31 + 3) (j := 1) (by decide) (by decide) (by decide)) (la_c (bk_ne hbk (i := 31 + 3) (j := 31 + 4) (by omega) (by omega) (by omega)) (la_c (bk_ne hbk (i := 31 + 3) (j := 31 + 7) (by omega) (by omega) (by omega)) (la_c (bk_ne hbk (i := 31 + 3) (j := 31 + 8) (by omega) (by omega) (by omega)) la_n))))
          refine lv_aload_n hx hb dX4_exp_110 rfl (lv_at hl 0 rfl) ?_
          refine bk_g C i4 hw hbk 10 (by decide) (v := .ref (a 15)) rfl dX4_exp_111 lk70 ?_
          refine lv_aload_n hx hb dX4_exp_114 rfl (lv_at hl 0 rfl) ?_
          refine bk_g C i4 hw hbk 5 (by decide) (v := .ref (B 2)) rfl dX4_exp_115 lk30 ?_
          refine bd_cv (As := [.ref (B 2)]) (rest := []) C (f_exponential _ _ _ _ _ (bk_fn hbk) hS (B 2) (bk_in hbk (i := 2) (by omega)) (bk_xA hbk (j := 2) (by omega)) hfi.1 (by rw [f_2]; exact hx2)) (cwV 1 hts gX4_exp_X2_exponential rfl rfl rfl (by decide +kernel) ⟨Nat.le_of_ble_eq_true rfl, Nat.le_of_ble_eq_true rfl⟩) hsz hw (fn_recv C hw (bk_fn hbk)) dX4_exp_118 rfl hl.1 rfl (Nat.le_of_ble_eq_true rfl) ⟨Nat.le_refl _, Nat.le_refl _⟩ (fun E1 z H locs hp hw => ?_)
          obtain ⟨hE9, sg, hS, hv9, hf9⟩ := hp
          rw [show E1 = E0 from hE9] at hw
          have fT9 : sg (B 2) = (sp_EXP (P + 64) ((mu im + ra im) * dk_p 64)) := sp_EXPe (show sp_xp (P + 64) ((mu im + ra im) * dk_p 64) (sg (B 2)) by rw [f_2] at hv9; exact hv9)
          have f_1 : sg (B 1) = (sp_EXP (P + 64) ((mu im - ra im) * dk_p 64)) := (hf9 (B 1) (bk_ne hbk (i := 1) (j := 2) (by omega) (by omega) (by omega)) (la_c (bk_ne hbk (i := 1) (j := 31 + 4) (by omega) (by omega) (by omega)) (la_c (bk_ne hbk (i := 1) (j := 31 + 7) (by omega) (by omega) (by omega)) (la_c (bk_ne hbk (i := 1) (j := 31 + 8) (by omega) (by omega) (by omega)) la_n)))).trans f_1
          have f_4 : sg (B 4) = (16 * dk_p P) := (hf9 (B 4) (bk_ne hbk (i := 4) (j := 2) (by omega) (by omega) (by omega)) (la_c (bk_ne hbk (i := 4) (j := 31 + 4) (by omega) (by omega) (by omega)) (la_c (bk_ne hbk (i := 4) (j := 31 + 7) (by omega) (by omega) (by omega)) (la_c (bk_ne hbk (i := 4) (j := 31 + 8) (by omega) (by omega) (by omega)) la_n)))).trans f_4
          have f_3 : sg (B 3) = (-(16 * dk_p P)) := (hf9 (B 3) (bk_ne hbk (i := 3) (j := 2) (by omega) (by omega) (by omega)) (la_c (bk_ne hbk (i := 3) (j := 31 + 4) (by omega) (by omega) (by omega)) (la_c (bk_ne hbk (i := 3) (j := 31 + 7) (by omega) (by omega) (by omega)) (la_c (bk_ne hbk (i := 3) (j := 31 + 8) (by omega) (by omega) (by omega)) la_n)))).trans f_3
          have f_2 := fT9
          have hof : ∀ j, (j = 0 ∨ 8 ≤ j) → j < 32 → sg (B j) = sg0 (B j) := fun j h1 h2 => (hf9 (B j) (bk_ne hbk (i := j) (j := 2) (by omega) (by omega) (by omega)) (la_c (bk_ne hbk (i := j) (j := 31 + 4) (by omega) (by omega) (by omega)) (la_c (bk_ne hbk (i := j) (j := 31 + 7) (by omega) (by omega) (by omega)) (la_c (bk_ne hbk (i := j) (j := 31 + 8) (by omega) (by omega) (by omega)) la_n)))).trans (hof j h1 h2)
          have hfi : fn_iv (P + 64) (bk_A B) sg := fn_ivm hfi (hf9 (bk_A B 1) (bk_ne hbk (i := 31 + 1) (j := 2) (by decide) (by decide) (by decide)) (la_c (bk_ne hbk (i := 31 + 1) (j := 31 + 4) (by omega) (by omega) (by omega)) (la_c (bk_ne hbk (i := 31 + 1) (j := 31 + 7) (by omega) (by omega) (by omega)) (la_c (bk_ne hbk (i := 31 + 1) (j := 31 + 8) (by omega) (by omega) (by omega)) la_n)))) (hf9 (bk_A B 2) (bk_ne hbk (i := 31 + 2) (j := 2) (by decide) (by decide) (by decide)) (la_c (bk_ne hbk (i := 31 + 2) (j := 31 + 4) (by omega) (by omega) (by omega)) (la_c (bk_ne hbk (i := 31 + 2) (j := 31 + 7) (by omega) (by omega) (by omega)) (la_c (bk_ne hbk (i := 31 + 2) (j := 31 + 8) (by omega) (by omega) (by omega)) la_n)))) (hf9 (bk_A B 3) (bk_ne hbk (i := 31 + 3) (j := 2) (by decide) (by decide) (by decide)) (la_c (bk_ne hbk (i := 31 + 3) (j := 31 + 4) (by omega) (by omega) (by omega)) (la_c (bk_ne hbk (i := 31 + 3) (j := 31 + 7) (by omega) (by omega) (by omega)) (la_c (bk_ne hbk (i := 31 + 3) (j := 31 + 8) (by omega) (by omega) (by omega)) la_n))))
          refine lv_aload_n hx hb dX4_exp_121 rfl (lv_at hl 0 rfl) ?_
          refine bd_cv (As := []) (rest := []) C (c4_coarsenEnds _ _ _ _ _ hbk hS (by rw [f_1]; exact (Nat.le_trans hg1 (by decide +kernel))) (by rw [f_2]; exact (Nat.le_trans hg2 (by decide +kernel)))) (cwV 0 hts gX4_exp_X4_coarsenEnds rfl rfl rfl (by decide +kernel) ⟨Nat.le_of_ble_eq_true rfl, Nat.le_of_ble_eq_true rfl⟩) hsz hw (bk_recv C hw hbk) dX4_exp_122 rfl hl.1 rfl (Nat.le_of_ble_eq_true rfl) ⟨Nat.le_refl _, Nat.le_refl _⟩ (fun E1 z H locs hp hw => ?_)
          obtain ⟨hE9, sg, hS, hv0_, hv1_, hf9⟩ := hp
          rw [show E1 = E0 from hE9] at hw
          have fT0_ : sg (B 1) = (dk_cl (sp_EXP (P + 64) ((mu im - ra im) * dk_p 64))) := hv0_.trans (by rw [f_1])
          have fT1_ : sg (B 2) = (dk_ch (sp_EXP (P + 64) ((mu im + ra im) * dk_p 64))) := hv1_.trans (by rw [f_2])
          have f_4 : sg (B 4) = (16 * dk_p P) := (hf9 (B 4) (bk_ne hbk (i := 4) (j := 1) (by omega) (by omega) (by omega)) (bk_ne hbk (i := 4) (j := 2) (by omega) (by omega) (by omega)) (bk_ne hbk (i := 4) (j := 5) (by omega) (by omega) (by omega))).trans f_4
          have f_3 : sg (B 3) = (-(16 * dk_p P)) := (hf9 (B 3) (bk_ne hbk (i := 3) (j := 1) (by omega) (by omega) (by omega)) (bk_ne hbk (i := 3) (j := 2) (by omega) (by omega) (by omega)) (bk_ne hbk (i := 3) (j := 5) (by omega) (by omega) (by omega))).trans f_3
          have f_1 := fT0_
          have f_2 := fT1_
          have hof : ∀ j, (j = 0 ∨ 8 ≤ j) → j < 32 → sg (B j) = sg0 (B j) := fun j h1 h2 => (hf9 (B j) (bk_ne hbk (i := j) (j := 1) (by omega) (by omega) (by omega)) (bk_ne hbk (i := j) (j := 2) (by omega) (by omega) (by omega)) (bk_ne hbk (i := j) (j := 5) (by omega) (by omega) (by omega))).trans (hof j h1 h2)
          have hfi : fn_iv (P + 64) (bk_A B) sg := fn_ivm hfi (hf9 (bk_A B 1) (bk_ne hbk (i := 31 + 1) (j := 1) (by decide) (by decide) (by decide)) (bk_ne hbk (i := 31 + 1) (j := 2) (by decide) (by decide) (by decide)) (bk_ne hbk (i := 31 + 1) (j := 5) (by decide) (by decide) (by decide))) (hf9 (bk_A B 2) (bk_ne hbk (i := 31 + 2) (j := 1) (by decide) (by decide) (by decide)) (bk_ne hbk (i := 31 + 2) (j := 2) (by decide) (by decide) (by decide)) (bk_ne hbk (i := 31 + 2) (j := 5) (by decide) (by decide) (by decide))) (hf9 (bk_A B 3) (bk_ne hbk (i := 31 + 3) (j := 1) (by decide) (by decide) (by decide)) (bk_ne hbk (i := 31 + 3) (j := 2) (by decide) (by decide) (by decide)) (bk_ne hbk (i := 31 + 3) (j := 5) (by decide) (by decide) (by decide)))
          refine lv_aload_n hx hb dX4_exp_125 rfl (lv_at hl 0 rfl) ?_
          refine bk_g C i4 hw hbk 4 (by decide) (v := .ref (B 1)) rfl dX4_exp_126 lk27 ?_
          refine bd_cip (As := []) (rest := []) C (v3_sign _ _ _ _ _ hS (B 1) (bk_in hbk (i := 1) (by omega))) (cwV 0 hts gX4_exp_X3_sign rfl rfl rfl (by decide +kernel) ⟨Nat.le_of_ble_eq_true rfl, Nat.le_of_ble_eq_true rfl⟩) hsz hw (bd_recv C hw (bk_in hbk (i := 1) (by omega))) dX4_exp_129 rfl hl.1 rfl (Nat.le_of_ble_eq_true rfl) ⟨Nat.le_refl _, Nat.le_refl _⟩ (fun H locs hw => ?_)
          rw [f_1, q3_sg]
          refine lv_if_ge (tgt := 142) hx hb dX4_exp_132 (by decide) (fun hc132 => ?_) (fun hc132 => ?_)
          · have hq132 := q3_ge.mp hc132
            have hd : dk_exp P (nI kn) (nI im) mu ra = dk_ends P kn (dk_cl (sp_EXP (P + 64) ((mu im - ra im) * dk_p 64))) (dk_ch (sp_EXP (P + 64) ((mu im + ra im) * dk_p 64))) mu ra := by unfold dk_exp; rw [if_pos ⟨⟨hpl_kn, hpl_im⟩, by rw [hx_im]; exact hq76, by rw [hx_im]; exact hq90⟩, hx_kn, hx_im, if_neg (Int.not_lt.mpr hq132)]
            refine lv_aload_n hx hb dX4_exp_142 rfl (lv_at hl 0 rfl) ?_
            refine lv_iload_n hx hb dX4_exp_143 rfl (lv_at hl 1 rfl) ?_
            refine bd_ci (As := [.int (nI kn)]) (rest := []) C (c4_keepEnds _ _ _ _ _ hbk hS (bk_ivm hiv hof hfi) kn hkn (by rw [f_1]; exact clb hg1) (by rw [f_2]; exact chb hg2)) (cwV 1 hts gX4_exp_X4_keepEnds rfl rfl rfl (by decide +kernel) ⟨Nat.le_of_ble_eq_true rfl, Nat.le_of_ble_eq_true rfl⟩) hsz hw (bk_recv C hw hbk) dX4_exp_144 rfl hl.1 rfl (Nat.le_of_ble_eq_true rfl) ⟨Nat.le_refl _, Nat.le_refl _⟩ (fun r9 E9 z H locs hp hw => ?_)
            rw [f_1, f_2] at hp
            exact bd_iret C hr hlk hw dX4_exp_147 (by rw [hd]; exact hp)
          · have hq132 := Int.not_le.mp (fun q => hc132 (q3_ge.mpr q))
            have hd : dk_exp P (nI kn) (nI im) mu ra = dk_ends P kn 0 (dk_ch (sp_EXP (P + 64) ((mu im + ra im) * dk_p 64))) mu ra := by unfold dk_exp; rw [if_pos ⟨⟨hpl_kn, hpl_im⟩, by rw [hx_im]; exact hq76, by rw [hx_im]; exact hq90⟩, hx_kn, hx_im, if_pos hq132]
            refine lv_aload_n hx hb dX4_exp_135 rfl (lv_at hl 0 rfl) ?_
            refine bk_g C i4 hw hbk 4 (by decide) (v := .ref (B 1)) rfl dX4_exp_136 lk27 ?_
            refine sv_v (As := []) (rest := []) C (v3_clear _ _ _ _ _ hS (B 1) (bk_in hbk (i := 1) (by omega))) (cwV 0 hts gX4_exp_X3_clear rfl rfl rfl (by decide +kernel) ⟨Nat.le_of_ble_eq_true rfl, Nat.le_of_ble_eq_true rfl⟩) hsz hw (bd_recv C hw (bk_in hbk (i := 1) (by omega))) dX4_exp_139 rfl hl.1 rfl (Nat.le_of_ble_eq_true rfl) ⟨Nat.le_refl _, Nat.le_refl _⟩ (fun z sg H locs hv9 hf9 hS hw => ?_)
            have fT9 : sg (B 1) = 0 := hv9.trans (by rfl)
            have f_2 : sg (B 2) = (dk_ch (sp_EXP (P + 64) ((mu im + ra im) * dk_p 64))) := (hf9 (B 2) (bk_ne hbk (i := 2) (j := 1) (by omega) (by omega) (by omega))).trans f_2
            have f_4 : sg (B 4) = (16 * dk_p P) := (hf9 (B 4) (bk_ne hbk (i := 4) (j := 1) (by omega) (by omega) (by omega))).trans f_4
            have f_3 : sg (B 3) = (-(16 * dk_p P)) := (hf9 (B 3) (bk_ne hbk (i := 3) (j := 1) (by omega) (by omega) (by omega))).trans f_3
            have f_1 := fT9
            have hof : ∀ j, (j = 0 ∨ 8 ≤ j) → j < 32 → sg (B j) = sg0 (B j) := fun j h1 h2 => (hf9 (B j) (bk_ne hbk (i := j) (j := 1) (by omega) (by omega) (by omega))).trans (hof j h1 h2)
            have hfi : fn_iv (P + 64) (bk_A B) sg := fn_ivm hfi (hf9 (bk_A B 1) (bk_ne hbk (i := 31 + 1) (j := 1) (by decide) (by decide) (by decide))) (hf9 (bk_A B 2) (bk_ne hbk (i := 31 + 2) (j := 1) (by decide) (by decide) (by decide))) (hf9 (bk_A B 3) (bk_ne hbk (i := 31 + 3) (j := 1) (by decide) (by decide) (by decide)))
            refine lv_aload_n hx hb dX4_exp_142 rfl (lv_at hl 0 rfl) ?_
            refine lv_iload_n hx hb dX4_exp_143 rfl (lv_at hl 1 rfl) ?_
            refine bd_ci (As := [.int (nI kn)]) (rest := []) C (c4_keepEnds _ _ _ _ _ hbk hS (bk_ivm hiv hof hfi) kn hkn (by rw [f_1]; exact (Nat.zero_le _)) (by rw [f_2]; exact chb hg2)) (cwV 1 hts gX4_exp_X4_keepEnds rfl rfl rfl (by decide +kernel) ⟨Nat.le_of_ble_eq_true rfl, Nat.le_of_ble_eq_true rfl⟩) hsz hw (bk_recv C hw hbk) dX4_exp_144 rfl hl.1 rfl (Nat.le_of_ble_eq_true rfl) ⟨Nat.le_refl _, Nat.le_refl _⟩ (fun r9 E9 z H locs hp hw => ?_)
            rw [f_1, f_2] at hp
            exact bd_iret C hr hlk hw dX4_exp_147 (by rw [hd]; exact hp)
        · have hq90 := Int.not_le.mp (fun q => hc90 (q3_le.mpr q))
          refine lv_iconst (v := (-1)) hx hb dX4_exp_93 (by decide) ?_
          have hd9 : dk_exp P (nI kn) (nI im) mu ra = (-1, mu, ra) := if_neg (fun q => absurd q.2 (by rw [hx_im]; omega))
          exact bd_iret C hr hlk hw dX4_exp_94 (by rw [hd9]; exact ⟨rfl, hbk, sg, hS, bk_ivm hiv hof hfi⟩)
    · have hno := pl_f hc11
      refine lv_iconst (v := (-1)) hx hb dX4_exp_14 (by decide) ?_
      have hd9 : dk_exp P (nI kn) i mu ra = (-1, mu, ra) := if_neg (fun q => hno q.1.2)
      exact bd_iret C hr hlk hw dX4_exp_15 (by rw [hd9]; exact ⟨rfl, hbk, sg0, hS, bk_ivm hiv hof hfi⟩)
set_option maxHeartbeats 4000000 in
set_option maxRecDepth 100000 in
/-- BallDesk.log -/
theorem c4_log (l : Launch) (K : Cxt) (E0 : Nat → va_E) (z0 : Nat → Wh) (sz : Nat) {P : Nat} {a B : Nat → Nat} (hbk : bk_at K E0 P a B) {sg0 : Nat → Int} (hS : sg_S K z0 sg0) {mu ra : Nat → Int} (hiv : bk_iv P B sg0 mu ra) (k i : Int32)  : Met l yX4_log wsX4_log ({ frames := 7, cells := 0, slots := 0, locals := 240 }) (va_Pc [.ref (a 0), .int k, .int i] (bd_P K E0 z0 sz)) (va_Qi (bk_post K P a B (dk_log P k i mu ra)) (bd_B K) (bd_A K sz)) 0 0 (bd_A K sz) := by
  refine bd_ofW (cc := cX4_log) (maxL := 3) (ret := (some .int)) (by decide) rfl (Nat.le_of_ble_eq_true rfl) ?_
  intro p e s m below meth c ls C hr hlk hsz hw hl
  have hx := C.1
  have hb := C.2.1
  have hown := C.2.2.2.1
  have hts := C.2.2.2.2.1
  have i4 : ∀ w ∈ wsX40, w ∈ wsX4_log := by decide +kernel
  have lk18 : Cond.fieldLink RX4 18 "BallDesk" "places" "[LBallDesk$Ball;" ∈ wsX4_log := by decide +kernel
  have lk27 : Cond.fieldLink RX4 27 "BallDesk" "low" "LBallDesk$Whole;" ∈ wsX4_log := by decide +kernel
  have lk70 : Cond.fieldLink RX4 70 "BallDesk" "fine" "LBallDesk$Fine;" ∈ wsX4_log := by decide +kernel
  have lk30 : Cond.fieldLink RX4 30 "BallDesk" "high" "LBallDesk$Whole;" ∈ wsX4_log := by decide +kernel
  obtain ⟨hP1, hP2⟩ := bk_P hbk
  have hl : lv_has ls 3 [(0, .ref (a 0)), (1, .int k), (2, .int i)] := hl
  have hof : ∀ j, (j = 0 ∨ 8 ≤ j) → j < 32 → sg0 (B j) = sg0 (B j) := fun _ _ _ => rfl
  have hfi := hiv.2.1
  refine lv_iload_n hx hb dX4_log_0 rfl (lv_at hl 1 rfl) ?_
  refine bd_sip (As := [.int k]) (rest := []) C (c4_isPlace _ _ _ _ _ k) (va_cwS 1 hts gX4_log_X4_isPlace rfl rfl rfl (by decide +kernel) ⟨Nat.le_of_ble_eq_true rfl, Nat.le_of_ble_eq_true rfl⟩) hsz hw dX4_log_1 rfl hl.1 rfl (Nat.le_of_ble_eq_true rfl) ⟨Nat.le_refl _, Nat.le_refl _⟩ (fun H locs hw => ?_)
  refine lv_if_eq (tgt := 14) hx hb dX4_log_4 (by decide) (fun hc4 => ?_) (fun hc4 => ?_)
  · have hno := pl_f hc4
    refine lv_iconst (v := (-1)) hx hb dX4_log_14 (by decide) ?_
    have hd9 : dk_log P k i mu ra = (-1, mu, ra) := if_neg (fun q => hno q.1.1)
    exact bd_iret C hr hlk hw dX4_log_15 (by rw [hd9]; exact ⟨rfl, hbk, sg0, hS, bk_ivm hiv hof hfi⟩)
  · have hpl_kn := pl_t hc4
    obtain ⟨kn, hkn, hk_kn, hx_kn⟩ := pl_x hpl_kn
    subst hk_kn
    refine lv_iload_n hx hb dX4_log_7 rfl (lv_at hl 2 rfl) ?_
    refine bd_sip (As := [.int i]) (rest := []) C (c4_isPlace _ _ _ _ _ i) (va_cwS 1 hts gX4_log_X4_isPlace rfl rfl rfl (by decide +kernel) ⟨Nat.le_of_ble_eq_true rfl, Nat.le_of_ble_eq_true rfl⟩) hsz hw dX4_log_8 rfl hl.1 rfl (Nat.le_of_ble_eq_true rfl) ⟨Nat.le_refl _, Nat.le_refl _⟩ (fun H locs hw => ?_)
    refine lv_if_ne (tgt := 16) hx hb dX4_log_11 (by decide) (fun hc11 => ?_) (fun hc11 => ?_)
    · have hpl_im := pl_t hc11
      obtain ⟨im, him, hk_im, hx_im⟩ := pl_x hpl_im
      subst hk_im
      obtain ⟨hbm_im, hb0_im, hbr_im⟩ := bk_b hP2 hiv him
      obtain ⟨he1, he2⟩ := e_b hbm_im hbr_im
      refine lv_aload_n hx hb dX4_log_16 rfl (lv_at hl 0 rfl) ?_
      refine lv_aload_n hx hb dX4_log_17 rfl (lv_at hl 0 rfl) ?_
      refine bk_g C i4 hw hbk 2 (by decide) (v := .ref (a 1)) rfl dX4_log_18 lk18 ?_
      refine lv_iload_n hx hb dX4_log_21 rfl (lv_at hl 2 rfl) ?_
      refine bk_ald C hw hbk him dX4_log_22 ?_
      have fm_im : sg0 (B (8 + im)) = mu im := (hof (8 + im) (by omega) (by omega)).trans (hiv.2.2 im him).1
      have fr_im : sg0 (B (20 + im)) = ra im := (hof (20 + im) (by omega) (by omega)).trans (hiv.2.2 im him).2.1
      refine bd_cv (As := [.ref (a (3 + im))]) (rest := []) C (c4_findEnds _ _ _ _ _ hbk hS im him (by rw [fm_im, fr_im]; exact (Nat.lt_of_le_of_lt (Nat.add_le_add hbm_im hbr_im) (by decide +kernel)))) (cwV 1 hts gX4_log_X4_findEnds rfl rfl rfl (by decide +kernel) ⟨Nat.le_of_ble_eq_true rfl, Nat.le_of_ble_eq_true rfl⟩) hsz hw (bk_recv C hw hbk) dX4_log_23 rfl hl.1 rfl (Nat.le_of_ble_eq_true rfl) ⟨Nat.le_refl _, Nat.le_refl _⟩ (fun E1 z H locs hp hw => ?_)
      obtain ⟨hE9, sg, hS, hv0_, hv1_, hf9⟩ := hp
      rw [show E1 = E0 from hE9] at hw
      have fT0_ : sg (B 1) = (mu im - ra im) := hv0_.trans (by rw [fm_im, fr_im])
      have fT1_ : sg (B 2) = (mu im + ra im) := hv1_.trans (by rw [fm_im, fr_im])
      have f_1 := fT0_
      have f_2 := fT1_
      have hof : ∀ j, (j = 0 ∨ 8 ≤ j) → j < 32 → sg (B j) = sg0 (B j) := fun j h1 h2 => (hf9 (B j) (bk_ne hbk (i := j) (j := 1) (by omega) (by omega) (by omega)) (bk_ne hbk (i := j) (j := 2) (by omega) (by omega) (by omega))).trans (hof j h1 h2)
      have hfi : fn_iv (P + 64) (bk_A B) sg := fn_ivm hfi (hf9 (bk_A B 1) (bk_ne hbk (i := 31 + 1) (j := 1) (by decide) (by decide) (by decide)) (bk_ne hbk (i := 31 + 1) (j := 2) (by decide) (by decide) (by decide))) (hf9 (bk_A B 2) (bk_ne hbk (i := 31 + 2) (j := 1) (by decide) (by decide) (by decide)) (bk_ne hbk (i := 31 + 2) (j := 2) (by decide) (by decide) (by decide))) (hf9 (bk_A B 3) (bk_ne hbk (i := 31 + 3) (j := 1) (by decide) (by decide) (by decide)) (bk_ne hbk (i := 31 + 3) (j := 2) (by decide) (by decide) (by decide)))
      refine lv_aload_n hx hb dX4_log_26 rfl (lv_at hl 0 rfl) ?_
      refine bk_g C i4 hw hbk 4 (by decide) (v := .ref (B 1)) rfl dX4_log_27 lk27 ?_
      refine bd_cip (As := []) (rest := []) C (v3_sign _ _ _ _ _ hS (B 1) (bk_in hbk (i := 1) (by omega))) (cwV 0 hts gX4_log_X3_sign rfl rfl rfl (by decide +kernel) ⟨Nat.le_of_ble_eq_true rfl, Nat.le_of_ble_eq_true rfl⟩) hsz hw (bd_recv C hw (bk_in hbk (i := 1) (by omega))) dX4_log_30 rfl hl.1 rfl (Nat.le_of_ble_eq_true rfl) ⟨Nat.le_refl _, Nat.le_refl _⟩ (fun H locs hw => ?_)
      rw [f_1, q3_sg]
      refine lv_if_gt (tgt := 38) hx hb dX4_log_33 (by decide) (fun hc33 => ?_) (fun hc33 => ?_)
      · have hq33 := q3_gt.mp hc33
        have hd : dk_log P (nI kn) (nI im) mu ra = dk_ends P kn (dk_cl (sp_LOG (P + 64) ((mu im - ra im) * dk_p 64))) (dk_ch (sp_LOG (P + 64) ((mu im + ra im) * dk_p 64))) mu ra := by unfold dk_log; rw [if_pos ⟨⟨hpl_kn, hpl_im⟩, by rw [hx_im]; exact hq33⟩, hx_kn, hx_im]
        have hlx := (hiv.2.2 im him).2.2
        obtain ⟨hx1, hx2, hx3, hx4⟩ := lg_e (P := P) hlx.1 hlx.2.1 hlx.2.2 hq33
        have hg1 := sp_LOGb (Q := P + 64) (by omega) (by omega) hx1 hx3
        have hg2 := sp_LOGb (Q := P + 64) (by omega) (by omega) hx2 hx4
        clear hlx
        refine lv_aload_n hx hb dX4_log_38 rfl (lv_at hl 0 rfl) ?_
        refine bd_cv (As := []) (rest := []) C (c4_refineEnds _ _ _ _ _ hbk hS (by rw [f_1]; exact (Nat.lt_of_le_of_lt he1 (by decide +kernel))) (by rw [f_2]; exact (Nat.lt_of_le_of_lt he2 (by decide +kernel)))) (cwV 0 hts gX4_log_X4_refineEnds rfl rfl rfl (by decide +kernel) ⟨Nat.le_of_ble_eq_true rfl, Nat.le_of_ble_eq_true rfl⟩) hsz hw (bk_recv C hw hbk) dX4_log_39 rfl hl.1 rfl (Nat.le_of_ble_eq_true rfl) ⟨Nat.le_refl _, Nat.le_refl _⟩ (fun E1 z H locs hp hw => ?_)
        obtain ⟨hE9, sg, hS, hv0_, hv1_, hf9⟩ := hp
        rw [show E1 = E0 from hE9] at hw
        have fT0_ : sg (B 1) = ((mu im - ra im) * dk_p 64) := hv0_.trans (by rw [f_1])
        have fT1_ : sg (B 2) = ((mu im + ra im) * dk_p 64) := hv1_.trans (by rw [f_2])
        have f_1 := fT0_
        have f_2 := fT1_
        have hof : ∀ j, (j = 0 ∨ 8 ≤ j) → j < 32 → sg (B j) = sg0 (B j) := fun j h1 h2 => (hf9 (B j) (bk_ne hbk (i := j) (j := 1) (by omega) (by omega) (by omega)) (bk_ne hbk (i := j) (j := 2) (by omega) (by omega) (by omega))).trans (hof j h1 h2)
        have hfi : fn_iv (P + 64) (bk_A B) sg := fn_ivm hfi (hf9 (bk_A B 1) (bk_ne hbk (i := 31 + 1) (j := 1) (by decide) (by decide) (by decide)) (bk_ne hbk (i := 31 + 1) (j := 2) (by decide) (by decide) (by decide))) (hf9 (bk_A B 2) (bk_ne hbk (i := 31 + 2) (j := 1) (by decide) (by decide) (by decide)) (bk_ne hbk (i := 31 + 2) (j := 2) (by decide) (by decide) (by decide))) (hf9 (bk_A B 3) (bk_ne hbk (i := 31 + 3) (j := 1) (by decide) (by decide) (by decide)) (bk_ne hbk (i := 31 + 3) (j := 2) (by decide) (by decide) (by decide)))
        refine lv_aload_n hx hb dX4_log_42 rfl (lv_at hl 0 rfl) ?_
        refine bk_g C i4 hw hbk 10 (by decide) (v := .ref (a 15)) rfl dX4_log_43 lk70 ?_
        refine lv_aload_n hx hb dX4_log_46 rfl (lv_at hl 0 rfl) ?_
        refine bk_g C i4 hw hbk 4 (by decide) (v := .ref (B 1)) rfl dX4_log_47 lk27 ?_
        refine bd_cv (As := [.ref (B 1)]) (rest := []) C (f_logarithm _ _ _ _ _ (bk_fn hbk) hS (B 1) (bk_in hbk (i := 1) (by omega)) (bk_xA hbk (j := 1) (by omega)) hfi (by rw [f_1]; exact hx1) (by rw [f_1]; exact hx3)) (cwV 1 hts gX4_log_X2_logarithm rfl rfl rfl (by decide +kernel) ⟨Nat.le_of_ble_eq_true rfl, Nat.le_of_ble_eq_true rfl⟩) hsz hw (fn_recv C hw (bk_fn hbk)) dX4_log_50 rfl hl.1 rfl (Nat.le_of_ble_eq_true rfl) ⟨Nat.le_refl _, Nat.le_refl _⟩ (fun E z H locs hp hw => ?_)
        obtain ⟨hfn9, hfe9, sg, hS, hfi, hv9, hf9⟩ := hp
        have hbk := bk_mv2 hbk hfn9 hfe9
        have fT9 : sg (B 1) = (sp_LOG (P + 64) ((mu im - ra im) * dk_p 64)) := hv9.trans (by rw [f_1])
        have f_2 : sg (B 2) = ((mu im + ra im) * dk_p 64) := (hf9 (B 2) (bk_ne hbk (i := 2) (j := 1) (by omega) (by omega) (by omega)) (la_c (bk_ne hbk (i := 2) (j := 31 + 3) (by omega) (by omega) (by omega)) (la_c (bk_ne hbk (i := 2) (j := 31 + 4) (by omega) (by omega) (by omega)) (la_c (bk_ne hbk (i := 2) (j := 31 + 5) (by omega) (by omega) (by omega)) (la_c (bk_ne hbk (i := 2) (j := 31 + 6) (by omega) (by omega) (by omega)) (la_c (bk_ne hbk (i := 2) (j := 31 + 7) (by omega) (by omega) (by omega)) (la_c (bk_ne hbk (i := 2) (j := 31 + 8) (by omega) (by omega) (by omega)) la_n))))))).trans f_2
        have f_1 := fT9
        have hof : ∀ j, (j = 0 ∨ 8 ≤ j) → j < 32 → sg (B j) = sg0 (B j) := fun j h1 h2 => (hf9 (B j) (bk_ne hbk (i := j) (j := 1) (by omega) (by omega) (by omega)) (la_c (bk_ne hbk (i := j) (j := 31 + 3) (by omega) (by omega) (by omega)) (la_c (bk_ne hbk (i := j) (j := 31 + 4) (by omega) (by omega) (by omega)) (la_c (bk_ne hbk (i := j) (j := 31 + 5) (by omega) (by omega) (by omega)) (la_c (bk_ne hbk (i := j) (j := 31 + 6) (by omega) (by omega) (by omega)) (la_c (bk_ne hbk (i := j) (j := 31 + 7) (by omega) (by omega) (by omega)) (la_c (bk_ne hbk (i := j) (j := 31 + 8) (by omega) (by omega) (by omega)) la_n))))))).trans (hof j h1 h2)
        refine lv_aload_n hx hb dX4_log_53 rfl (lv_at hl 0 rfl) ?_
        refine bk_g C i4 hw hbk 10 (by decide) (v := .ref (a 15)) rfl dX4_log_54 lk70 ?_
        refine lv_aload_n hx hb dX4_log_57 rfl (lv_at hl 0 rfl) ?_
        refine bk_g C i4 hw hbk 5 (by decide) (v := .ref (B 2)) rfl dX4_log_58 lk30 ?_
        refine bd_cv (As := [.ref (B 2)]) (rest := []) C (f_logarithm _ _ _ _ _ (bk_fn hbk) hS (B 2) (bk_in hbk (i := 2) (by omega)) (bk_xA hbk (j := 2) (by omega)) hfi (by rw [f_2]; exact hx2) (by rw [f_2]; exact hx4)) (cwV 1 hts gX4_log_X2_logarithm rfl rfl rfl (by decide +kernel) ⟨Nat.le_of_ble_eq_true rfl, Nat.le_of_ble_eq_true rfl⟩) hsz hw (fn_recv C hw (bk_fn hbk)) dX4_log_61 rfl hl.1 rfl (Nat.le_of_ble_eq_true rfl) ⟨Nat.le_refl _, Nat.le_refl _⟩ (fun E z H locs hp hw => ?_)
        obtain ⟨hfn9, hfe9, sg, hS, hfi, hv9, hf9⟩ := hp
        have hbk := bk_mv2 hbk hfn9 hfe9
        have fT9 : sg (B 2) = (sp_LOG (P + 64) ((mu im + ra im) * dk_p 64)) := hv9.trans (by rw [f_2])
        have f_1 : sg (B 1) = (sp_LOG (P + 64) ((mu im - ra im) * dk_p 64)) := (hf9 (B 1) (bk_ne hbk (i := 1) (j := 2) (by omega) (by omega) (by omega)) (la_c (bk_ne hbk (i := 1) (j := 31 + 3) (by omega) (by omega) (by omega)) (la_c (bk_ne hbk (i := 1) (j := 31 + 4) (by omega) (by omega) (by omega)) (la_c (bk_ne hbk (i := 1) (j := 31 + 5) (by omega) (by omega) (by omega)) (la_c (bk_ne hbk (i := 1) (j := 31 + 6) (by omega) (by omega) (by omega)) (la_c (bk_ne hbk (i := 1) (j := 31 + 7) (by omega) (by omega) (by omega)) (la_c (bk_ne hbk (i := 1) (j := 31 + 8) (by omega) (by omega) (by omega)) la_n))))))).trans f_1
        have f_2 := fT9
        have hof : ∀ j, (j = 0 ∨ 8 ≤ j) → j < 32 → sg (B j) = sg0 (B j) := fun j h1 h2 => (hf9 (B j) (bk_ne hbk (i := j) (j := 2) (by omega) (by omega) (by omega)) (la_c (bk_ne hbk (i := j) (j := 31 + 3) (by omega) (by omega) (by omega)) (la_c (bk_ne hbk (i := j) (j := 31 + 4) (by omega) (by omega) (by omega)) (la_c (bk_ne hbk (i := j) (j := 31 + 5) (by omega) (by omega) (by omega)) (la_c (bk_ne hbk (i := j) (j := 31 + 6) (by omega) (by omega) (by omega)) (la_c (bk_ne hbk (i := j) (j := 31 + 7) (by omega) (by omega) (by omega)) (la_c (bk_ne hbk (i := j) (j := 31 + 8) (by omega) (by omega) (by omega)) la_n))))))).trans (hof j h1 h2)
        refine lv_aload_n hx hb dX4_log_64 rfl (lv_at hl 0 rfl) ?_
        refine bd_cv (As := []) (rest := []) C (c4_coarsenEnds _ _ _ _ _ hbk hS (by rw [f_1]; exact (Nat.le_trans hg1 (by decide +kernel))) (by rw [f_2]; exact (Nat.le_trans hg2 (by decide +kernel)))) (cwV 0 hts gX4_log_X4_coarsenEnds rfl rfl rfl (by decide +kernel) ⟨Nat.le_of_ble_eq_true rfl, Nat.le_of_ble_eq_true rfl⟩) hsz hw (bk_recv C hw hbk) dX4_log_65 rfl hl.1 rfl (Nat.le_of_ble_eq_true rfl) ⟨Nat.le_refl _, Nat.le_refl _⟩ (fun E1 z H locs hp hw => ?_)
        obtain ⟨hE9, sg, hS, hv0_, hv1_, hf9⟩ := hp
        rw [show E1 = E from hE9] at hw
        have fT0_ : sg (B 1) = (dk_cl (sp_LOG (P + 64) ((mu im - ra im) * dk_p 64))) := hv0_.trans (by rw [f_1])
        have fT1_ : sg (B 2) = (dk_ch (sp_LOG (P + 64) ((mu im + ra im) * dk_p 64))) := hv1_.trans (by rw [f_2])
        have f_1 := fT0_
        have f_2 := fT1_
        have hof : ∀ j, (j = 0 ∨ 8 ≤ j) → j < 32 → sg (B j) = sg0 (B j) := fun j h1 h2 => (hf9 (B j) (bk_ne hbk (i := j) (j := 1) (by omega) (by omega) (by omega)) (bk_ne hbk (i := j) (j := 2) (by omega) (by omega) (by omega)) (bk_ne hbk (i := j) (j := 5) (by omega) (by omega) (by omega))).trans (hof j h1 h2)
        have hfi : fn_iv (P + 64) (bk_A B) sg := fn_ivm hfi (hf9 (bk_A B 1) (bk_ne hbk (i := 31 + 1) (j := 1) (by decide) (by decide) (by decide)) (bk_ne hbk (i := 31 + 1) (j := 2) (by decide) (by decide) (by decide)) (bk_ne hbk (i := 31 + 1) (j := 5) (by decide) (by decide) (by decide))) (hf9 (bk_A B 2) (bk_ne hbk (i := 31 + 2) (j := 1) (by decide) (by decide) (by decide)) (bk_ne hbk (i := 31 + 2) (j := 2) (by decide) (by decide) (by decide)) (bk_ne hbk (i := 31 + 2) (j := 5) (by decide) (by decide) (by decide))) (hf9 (bk_A B 3) (bk_ne hbk (i := 31 + 3) (j := 1) (by decide) (by decide) (by decide)) (bk_ne hbk (i := 31 + 3) (j := 2) (by decide) (by decide) (by decide)) (bk_ne hbk (i := 31 + 3) (j := 5) (by decide) (by decide) (by decide)))
        refine lv_aload_n hx hb dX4_log_68 rfl (lv_at hl 0 rfl) ?_
        refine lv_iload_n hx hb dX4_log_69 rfl (lv_at hl 1 rfl) ?_
        refine bd_ci (As := [.int (nI kn)]) (rest := []) C (c4_keepEnds _ _ _ _ _ hbk hS (bk_ivm hiv hof hfi) kn hkn (by rw [f_1]; exact clb hg1) (by rw [f_2]; exact chb hg2)) (cwV 1 hts gX4_log_X4_keepEnds rfl rfl rfl (by decide +kernel) ⟨Nat.le_of_ble_eq_true rfl, Nat.le_of_ble_eq_true rfl⟩) hsz hw (bk_recv C hw hbk) dX4_log_70 rfl hl.1 rfl (Nat.le_of_ble_eq_true rfl) ⟨Nat.le_refl _, Nat.le_refl _⟩ (fun r9 E9 z H locs hp hw => ?_)
        rw [f_1, f_2] at hp
        exact bd_iret C hr hlk hw dX4_log_73 (by rw [hd]; exact hp)
      · have hq33 := Int.not_lt.mp (fun q => hc33 (q3_gt.mpr q))
        refine lv_iconst (v := (-1)) hx hb dX4_log_36 (by decide) ?_
        have hd9 : dk_log P (nI kn) (nI im) mu ra = (-1, mu, ra) := if_neg (fun q => absurd q.2 (by rw [hx_im]; exact Int.not_lt.mpr hq33))
        exact bd_iret C hr hlk hw dX4_log_37 (by rw [hd9]; exact ⟨rfl, hbk, sg, hS, bk_ivm hiv hof hfi⟩)
    · have hno := pl_f hc11
      refine lv_iconst (v := (-1)) hx hb dX4_log_14 (by decide) ?_
      have hd9 : dk_log P (nI kn) i mu ra = (-1, mu, ra) := if_neg (fun q => hno q.1.2)
      exact bd_iret C hr hlk hw dX4_log_15 (by rw [hd9]; exact ⟨rfl, hbk, sg0, hS, bk_ivm hiv hof hfi⟩)
set_option maxHeartbeats 4000000 in
set_option maxRecDepth 100000 in
/-- BallDesk.arc -/
theorem c4_arc (l : Launch) (K : Cxt) (E0 : Nat → va_E) (z0 : Nat → Wh) (sz : Nat) {P : Nat} {a B : Nat → Nat} (hbk : bk_at K E0 P a B) {sg0 : Nat → Int} (hS : sg_S K z0 sg0) {mu ra : Nat → Int} (hiv : bk_iv P B sg0 mu ra) (k i : Int32)  : Met l yX4_arc wsX4_arc ({ frames := 7, cells := 0, slots := 0, locals := 240 }) (va_Pc [.ref (a 0), .int k, .int i] (bd_P K E0 z0 sz)) (va_Qi (bk_post K P a B (dk_arc P k i mu ra)) (bd_B K) (bd_A K sz)) 0 0 (bd_A K sz) := by
  refine bd_ofW (cc := cX4_arc) (maxL := 3) (ret := (some .int)) (by decide) rfl (Nat.le_of_ble_eq_true rfl) ?_
  intro p e s m below meth c ls C hr hlk hsz hw hl
  have hx := C.1
  have hb := C.2.1
  have hown := C.2.2.2.1
  have hts := C.2.2.2.2.1
  have i4 : ∀ w ∈ wsX40, w ∈ wsX4_arc := by decide +kernel
  have lk18 : Cond.fieldLink RX4 18 "BallDesk" "places" "[LBallDesk$Ball;" ∈ wsX4_arc := by decide +kernel
  have lk70 : Cond.fieldLink RX4 70 "BallDesk" "fine" "LBallDesk$Fine;" ∈ wsX4_arc := by decide +kernel
  have lk27 : Cond.fieldLink RX4 27 "BallDesk" "low" "LBallDesk$Whole;" ∈ wsX4_arc := by decide +kernel
  have lk30 : Cond.fieldLink RX4 30 "BallDesk" "high" "LBallDesk$Whole;" ∈ wsX4_arc := by decide +kernel
  obtain ⟨hP1, hP2⟩ := bk_P hbk
  have hl : lv_has ls 3 [(0, .ref (a 0)), (1, .int k), (2, .int i)] := hl
  have hof : ∀ j, (j = 0 ∨ 8 ≤ j) → j < 32 → sg0 (B j) = sg0 (B j) := fun _ _ _ => rfl
  have hfi := hiv.2.1
  refine lv_iload_n hx hb dX4_arc_0 rfl (lv_at hl 1 rfl) ?_
  refine bd_sip (As := [.int k]) (rest := []) C (c4_isPlace _ _ _ _ _ k) (va_cwS 1 hts gX4_arc_X4_isPlace rfl rfl rfl (by decide +kernel) ⟨Nat.le_of_ble_eq_true rfl, Nat.le_of_ble_eq_true rfl⟩) hsz hw dX4_arc_1 rfl hl.1 rfl (Nat.le_of_ble_eq_true rfl) ⟨Nat.le_refl _, Nat.le_refl _⟩ (fun H locs hw => ?_)
  refine lv_if_eq (tgt := 14) hx hb dX4_arc_4 (by decide) (fun hc4 => ?_) (fun hc4 => ?_)
  · have hno := pl_f hc4
    refine lv_iconst (v := (-1)) hx hb dX4_arc_14 (by decide) ?_
    have hd9 : dk_arc P k i mu ra = (-1, mu, ra) := if_neg (fun q => hno q.1)
    exact bd_iret C hr hlk hw dX4_arc_15 (by rw [hd9]; exact ⟨rfl, hbk, sg0, hS, bk_ivm hiv hof hfi⟩)
  · have hpl_kn := pl_t hc4
    obtain ⟨kn, hkn, hk_kn, hx_kn⟩ := pl_x hpl_kn
    subst hk_kn
    refine lv_iload_n hx hb dX4_arc_7 rfl (lv_at hl 2 rfl) ?_
    refine bd_sip (As := [.int i]) (rest := []) C (c4_isPlace _ _ _ _ _ i) (va_cwS 1 hts gX4_arc_X4_isPlace rfl rfl rfl (by decide +kernel) ⟨Nat.le_of_ble_eq_true rfl, Nat.le_of_ble_eq_true rfl⟩) hsz hw dX4_arc_8 rfl hl.1 rfl (Nat.le_of_ble_eq_true rfl) ⟨Nat.le_refl _, Nat.le_refl _⟩ (fun H locs hw => ?_)
    refine lv_if_ne (tgt := 16) hx hb dX4_arc_11 (by decide) (fun hc11 => ?_) (fun hc11 => ?_)
    · have hpl_im := pl_t hc11
      obtain ⟨im, him, hk_im, hx_im⟩ := pl_x hpl_im
      subst hk_im
      obtain ⟨hbm_im, hb0_im, hbr_im⟩ := bk_b hP2 hiv him
      obtain ⟨he1, he2⟩ := e_b hbm_im hbr_im
      have hd : dk_arc P (nI kn) (nI im) mu ra = dk_ends P kn (dk_cl (sp_AT (P + 64) ((mu im - ra im) * dk_p 64))) (dk_ch (sp_AT (P + 64) ((mu im + ra im) * dk_p 64))) mu ra := by unfold dk_arc; rw [if_pos ⟨hpl_kn, hpl_im⟩, hx_kn, hx_im]
      have hg1 := sp_ATb (Q := P + 64) ((mu im - ra im) * dk_p 64) (by omega) (by omega)
      have hg2 := sp_ATb (Q := P + 64) ((mu im + ra im) * dk_p 64) (by omega) (by omega)
      refine lv_aload_n hx hb dX4_arc_16 rfl (lv_at hl 0 rfl) ?_
      refine lv_aload_n hx hb dX4_arc_17 rfl (lv_at hl 0 rfl) ?_
      refine bk_g C i4 hw hbk 2 (by decide) (v := .ref (a 1)) rfl dX4_arc_18 lk18 ?_
      refine lv_iload_n hx hb dX4_arc_21 rfl (lv_at hl 2 rfl) ?_
      refine bk_ald C hw hbk him dX4_arc_22 ?_
      have fm_im : sg0 (B (8 + im)) = mu im := (hof (8 + im) (by omega) (by omega)).trans (hiv.2.2 im him).1
      have fr_im : sg0 (B (20 + im)) = ra im := (hof (20 + im) (by omega) (by omega)).trans (hiv.2.2 im him).2.1
      refine bd_cv (As := [.ref (a (3 + im))]) (rest := []) C (c4_findEnds _ _ _ _ _ hbk hS im him (by rw [fm_im, fr_im]; exact (Nat.lt_of_le_of_lt (Nat.add_le_add hbm_im hbr_im) (by decide +kernel)))) (cwV 1 hts gX4_arc_X4_findEnds rfl rfl rfl (by decide +kernel) ⟨Nat.le_of_ble_eq_true rfl, Nat.le_of_ble_eq_true rfl⟩) hsz hw (bk_recv C hw hbk) dX4_arc_23 rfl hl.1 rfl (Nat.le_of_ble_eq_true rfl) ⟨Nat.le_refl _, Nat.le_refl _⟩ (fun E1 z H locs hp hw => ?_)
      obtain ⟨hE9, sg, hS, hv0_, hv1_, hf9⟩ := hp
      rw [show E1 = E0 from hE9] at hw
      have fT0_ : sg (B 1) = (mu im - ra im) := hv0_.trans (by rw [fm_im, fr_im])
      have fT1_ : sg (B 2) = (mu im + ra im) := hv1_.trans (by rw [fm_im, fr_im])
      have f_1 := fT0_
      have f_2 := fT1_
      have hof : ∀ j, (j = 0 ∨ 8 ≤ j) → j < 32 → sg (B j) = sg0 (B j) := fun j h1 h2 => (hf9 (B j) (bk_ne hbk (i := j) (j := 1) (by omega) (by omega) (by omega)) (bk_ne hbk (i := j) (j := 2) (by omega) (by omega) (by omega))).trans (hof j h1 h2)
      have hfi : fn_iv (P + 64) (bk_A B) sg := fn_ivm hfi (hf9 (bk_A B 1) (bk_ne hbk (i := 31 + 1) (j := 1) (by decide) (by decide) (by decide)) (bk_ne hbk (i := 31 + 1) (j := 2) (by decide) (by decide) (by decide))) (hf9 (bk_A B 2) (bk_ne hbk (i := 31 + 2) (j := 1) (by decide) (by decide) (by decide)) (bk_ne hbk (i := 31 + 2) (j := 2) (by decide) (by decide) (by decide))) (hf9 (bk_A B 3) (bk_ne hbk (i := 31 + 3) (j := 1) (by decide) (by decide) (by decide)) (bk_ne hbk (i := 31 + 3) (j := 2) (by decide) (by decide) (by decide)))
      refine lv_aload_n hx hb dX4_arc_26 rfl (lv_at hl 0 rfl) ?_
      refine bd_cv (As := []) (rest := []) C (c4_refineEnds _ _ _ _ _ hbk hS (by rw [f_1]; exact (Nat.lt_of_le_of_lt he1 (by decide +kernel))) (by rw [f_2]; exact (Nat.lt_of_le_of_lt he2 (by decide +kernel)))) (cwV 0 hts gX4_arc_X4_refineEnds rfl rfl rfl (by decide +kernel) ⟨Nat.le_of_ble_eq_true rfl, Nat.le_of_ble_eq_true rfl⟩) hsz hw (bk_recv C hw hbk) dX4_arc_27 rfl hl.1 rfl (Nat.le_of_ble_eq_true rfl) ⟨Nat.le_refl _, Nat.le_refl _⟩ (fun E1 z H locs hp hw => ?_)
      obtain ⟨hE9, sg, hS, hv0_, hv1_, hf9⟩ := hp
      rw [show E1 = E0 from hE9] at hw
      have fT0_ : sg (B 1) = ((mu im - ra im) * dk_p 64) := hv0_.trans (by rw [f_1])
      have fT1_ : sg (B 2) = ((mu im + ra im) * dk_p 64) := hv1_.trans (by rw [f_2])
      have f_1 := fT0_
      have f_2 := fT1_
      have hof : ∀ j, (j = 0 ∨ 8 ≤ j) → j < 32 → sg (B j) = sg0 (B j) := fun j h1 h2 => (hf9 (B j) (bk_ne hbk (i := j) (j := 1) (by omega) (by omega) (by omega)) (bk_ne hbk (i := j) (j := 2) (by omega) (by omega) (by omega))).trans (hof j h1 h2)
      have hfi : fn_iv (P + 64) (bk_A B) sg := fn_ivm hfi (hf9 (bk_A B 1) (bk_ne hbk (i := 31 + 1) (j := 1) (by decide) (by decide) (by decide)) (bk_ne hbk (i := 31 + 1) (j := 2) (by decide) (by decide) (by decide))) (hf9 (bk_A B 2) (bk_ne hbk (i := 31 + 2) (j := 1) (by decide) (by decide) (by decide)) (bk_ne hbk (i := 31 + 2) (j := 2) (by decide) (by decide) (by decide))) (hf9 (bk_A B 3) (bk_ne hbk (i := 31 + 3) (j := 1) (by decide) (by decide) (by decide)) (bk_ne hbk (i := 31 + 3) (j := 2) (by decide) (by decide) (by decide)))
      refine lv_aload_n hx hb dX4_arc_30 rfl (lv_at hl 0 rfl) ?_
      refine bk_g C i4 hw hbk 10 (by decide) (v := .ref (a 15)) rfl dX4_arc_31 lk70 ?_
      refine lv_aload_n hx hb dX4_arc_34 rfl (lv_at hl 0 rfl) ?_
      refine bk_g C i4 hw hbk 4 (by decide) (v := .ref (B 1)) rfl dX4_arc_35 lk27 ?_
      refine bd_cv (As := [.ref (B 1)]) (rest := []) C (f_arcOf _ _ _ _ _ (bk_fn hbk) hS (B 1) (bk_in hbk (i := 1) (by omega)) (bk_xA hbk (j := 1) (by omega)) hfi (by rw [f_1]; exact (Nat.le_trans (mul_b he1 (Nat.le_of_eq (Int.natAbs_natCast _))) (by decide +kernel)))) (cwV 1 hts gX4_arc_X2_arcOf rfl rfl rfl (by decide +kernel) ⟨Nat.le_of_ble_eq_true rfl, Nat.le_of_ble_eq_true rfl⟩) hsz hw (fn_recv C hw (bk_fn hbk)) dX4_arc_38 rfl hl.1 rfl (Nat.le_of_ble_eq_true rfl) ⟨Nat.le_refl _, Nat.le_refl _⟩ (fun E z H locs hp hw => ?_)
      obtain ⟨hfn9, hfe9, sg, hS, hfi, hv9, hf9⟩ := hp
      have hbk := bk_mv2 hbk hfn9 hfe9
      have fT9 : sg (B 1) = (sp_AT (P + 64) ((mu im - ra im) * dk_p 64)) := hv9.trans (by rw [f_1])
      have f_2 : sg (B 2) = ((mu im + ra im) * dk_p 64) := (hf9 (B 2) (bk_ne hbk (i := 2) (j := 1) (by omega) (by omega) (by omega)) (la_c (bk_ne hbk (i := 2) (j := 31 + 2) (by omega) (by omega) (by omega)) (la_c (bk_ne hbk (i := 2) (j := 31 + 4) (by omega) (by omega) (by omega)) (la_c (bk_ne hbk (i := 2) (j := 31 + 5) (by omega) (by omega) (by omega)) (la_c (bk_ne hbk (i := 2) (j := 31 + 6) (by omega) (by omega) (by omega)) (la_c (bk_ne hbk (i := 2) (j := 31 + 7) (by omega) (by omega) (by omega)) (la_c (bk_ne hbk (i := 2) (j := 31 + 8) (by omega) (by omega) (by omega)) (la_c (bk_ne hbk (i := 2) (j := 31 + 9) (by omega) (by omega) (by omega)) (la_c (bk_ne hbk (i := 2) (j := 31 + 10) (by omega) (by omega) (by omega)) la_n))))))))).trans f_2
      have f_1 := fT9
      have hof : ∀ j, (j = 0 ∨ 8 ≤ j) → j < 32 → sg (B j) = sg0 (B j) := fun j h1 h2 => (hf9 (B j) (bk_ne hbk (i := j) (j := 1) (by omega) (by omega) (by omega)) (la_c (bk_ne hbk (i := j) (j := 31 + 2) (by omega) (by omega) (by omega)) (la_c (bk_ne hbk (i := j) (j := 31 + 4) (by omega) (by omega) (by omega)) (la_c (bk_ne hbk (i := j) (j := 31 + 5) (by omega) (by omega) (by omega)) (la_c (bk_ne hbk (i := j) (j := 31 + 6) (by omega) (by omega) (by omega)) (la_c (bk_ne hbk (i := j) (j := 31 + 7) (by omega) (by omega) (by omega)) (la_c (bk_ne hbk (i := j) (j := 31 + 8) (by omega) (by omega) (by omega)) (la_c (bk_ne hbk (i := j) (j := 31 + 9) (by omega) (by omega) (by omega)) (la_c (bk_ne hbk (i := j) (j := 31 + 10) (by omega) (by omega) (by omega)) la_n))))))))).trans (hof j h1 h2)
      refine lv_aload_n hx hb dX4_arc_41 rfl (lv_at hl 0 rfl) ?_
      refine bk_g C i4 hw hbk 10 (by decide) (v := .ref (a 15)) rfl dX4_arc_42 lk70 ?_
      refine lv_aload_n hx hb dX4_arc_45 rfl (lv_at hl 0 rfl) ?_
      refine bk_g C i4 hw hbk 5 (by decide) (v := .ref (B 2)) rfl dX4_arc_46 lk30 ?_
      refine bd_cv (As := [.ref (B 2)]) (rest := []) C (f_arcOf _ _ _ _ _ (bk_fn hbk) hS (B 2) (bk_in hbk (i := 2) (by omega)) (bk_xA hbk (j := 2) (by omega)) hfi (by rw [f_2]; exact (Nat.le_trans (mul_b he2 (Nat.le_of_eq (Int.natAbs_natCast _))) (by decide +kernel)))) (cwV 1 hts gX4_arc_X2_arcOf rfl rfl rfl (by decide +kernel) ⟨Nat.le_of_ble_eq_true rfl, Nat.le_of_ble_eq_true rfl⟩) hsz hw (fn_recv C hw (bk_fn hbk)) dX4_arc_49 rfl hl.1 rfl (Nat.le_of_ble_eq_true rfl) ⟨Nat.le_refl _, Nat.le_refl _⟩ (fun E z H locs hp hw => ?_)
      obtain ⟨hfn9, hfe9, sg, hS, hfi, hv9, hf9⟩ := hp
      have hbk := bk_mv2 hbk hfn9 hfe9
      have fT9 : sg (B 2) = (sp_AT (P + 64) ((mu im + ra im) * dk_p 64)) := hv9.trans (by rw [f_2])
      have f_1 : sg (B 1) = (sp_AT (P + 64) ((mu im - ra im) * dk_p 64)) := (hf9 (B 1) (bk_ne hbk (i := 1) (j := 2) (by omega) (by omega) (by omega)) (la_c (bk_ne hbk (i := 1) (j := 31 + 2) (by omega) (by omega) (by omega)) (la_c (bk_ne hbk (i := 1) (j := 31 + 4) (by omega) (by omega) (by omega)) (la_c (bk_ne hbk (i := 1) (j := 31 + 5) (by omega) (by omega) (by omega)) (la_c (bk_ne hbk (i := 1) (j := 31 + 6) (by omega) (by omega) (by omega)) (la_c (bk_ne hbk (i := 1) (j := 31 + 7) (by omega) (by omega) (by omega)) (la_c (bk_ne hbk (i := 1) (j := 31 + 8) (by omega) (by omega) (by omega)) (la_c (bk_ne hbk (i := 1) (j := 31 + 9) (by omega) (by omega) (by omega)) (la_c (bk_ne hbk (i := 1) (j := 31 + 10) (by omega) (by omega) (by omega)) la_n))))))))).trans f_1
      have f_2 := fT9
      have hof : ∀ j, (j = 0 ∨ 8 ≤ j) → j < 32 → sg (B j) = sg0 (B j) := fun j h1 h2 => (hf9 (B j) (bk_ne hbk (i := j) (j := 2) (by omega) (by omega) (by omega)) (la_c (bk_ne hbk (i := j) (j := 31 + 2) (by omega) (by omega) (by omega)) (la_c (bk_ne hbk (i := j) (j := 31 + 4) (by omega) (by omega) (by omega)) (la_c (bk_ne hbk (i := j) (j := 31 + 5) (by omega) (by omega) (by omega)) (la_c (bk_ne hbk (i := j) (j := 31 + 6) (by omega) (by omega) (by omega)) (la_c (bk_ne hbk (i := j) (j := 31 + 7) (by omega) (by omega) (by omega)) (la_c (bk_ne hbk (i := j) (j := 31 + 8) (by omega) (by omega) (by omega)) (la_c (bk_ne hbk (i := j) (j := 31 + 9) (by omega) (by omega) (by omega)) (la_c (bk_ne hbk (i := j) (j := 31 + 10) (by omega) (by omega) (by omega)) la_n))))))))).trans (hof j h1 h2)
      refine lv_aload_n hx hb dX4_arc_52 rfl (lv_at hl 0 rfl) ?_
      refine bd_cv (As := []) (rest := []) C (c4_coarsenEnds _ _ _ _ _ hbk hS (by rw [f_1]; exact (Nat.le_trans hg1 (by decide +kernel))) (by rw [f_2]; exact (Nat.le_trans hg2 (by decide +kernel)))) (cwV 0 hts gX4_arc_X4_coarsenEnds rfl rfl rfl (by decide +kernel) ⟨Nat.le_of_ble_eq_true rfl, Nat.le_of_ble_eq_true rfl⟩) hsz hw (bk_recv C hw hbk) dX4_arc_53 rfl hl.1 rfl (Nat.le_of_ble_eq_true rfl) ⟨Nat.le_refl _, Nat.le_refl _⟩ (fun E1 z H locs hp hw => ?_)
      obtain ⟨hE9, sg, hS, hv0_, hv1_, hf9⟩ := hp
      rw [show E1 = E from hE9] at hw
      have fT0_ : sg (B 1) = (dk_cl (sp_AT (P + 64) ((mu im - ra im) * dk_p 64))) := hv0_.trans (by rw [f_1])
      have fT1_ : sg (B 2) = (dk_ch (sp_AT (P + 64) ((mu im + ra im) * dk_p 64))) := hv1_.trans (by rw [f_2])
      have f_1 := fT0_
      have f_2 := fT1_
      have hof : ∀ j, (j = 0 ∨ 8 ≤ j) → j < 32 → sg (B j) = sg0 (B j) := fun j h1 h2 => (hf9 (B j) (bk_ne hbk (i := j) (j := 1) (by omega) (by omega) (by omega)) (bk_ne hbk (i := j) (j := 2) (by omega) (by omega) (by omega)) (bk_ne hbk (i := j) (j := 5) (by omega) (by omega) (by omega))).trans (hof j h1 h2)
      have hfi : fn_iv (P + 64) (bk_A B) sg := fn_ivm hfi (hf9 (bk_A B 1) (bk_ne hbk (i := 31 + 1) (j := 1) (by decide) (by decide) (by decide)) (bk_ne hbk (i := 31 + 1) (j := 2) (by decide) (by decide) (by decide)) (bk_ne hbk (i := 31 + 1) (j := 5) (by decide) (by decide) (by decide))) (hf9 (bk_A B 2) (bk_ne hbk (i := 31 + 2) (j := 1) (by decide) (by decide) (by decide)) (bk_ne hbk (i := 31 + 2) (j := 2) (by decide) (by decide) (by decide)) (bk_ne hbk (i := 31 + 2) (j := 5) (by decide) (by decide) (by decide))) (hf9 (bk_A B 3) (bk_ne hbk (i := 31 + 3) (j := 1) (by decide) (by decide) (by decide)) (bk_ne hbk (i := 31 + 3) (j := 2) (by decide) (by decide) (by decide)) (bk_ne hbk (i := 31 + 3) (j := 5) (by decide) (by decide) (by decide)))
      refine lv_aload_n hx hb dX4_arc_56 rfl (lv_at hl 0 rfl) ?_
      refine lv_iload_n hx hb dX4_arc_57 rfl (lv_at hl 1 rfl) ?_
      refine bd_ci (As := [.int (nI kn)]) (rest := []) C (c4_keepEnds _ _ _ _ _ hbk hS (bk_ivm hiv hof hfi) kn hkn (by rw [f_1]; exact clb hg1) (by rw [f_2]; exact chb hg2)) (cwV 1 hts gX4_arc_X4_keepEnds rfl rfl rfl (by decide +kernel) ⟨Nat.le_of_ble_eq_true rfl, Nat.le_of_ble_eq_true rfl⟩) hsz hw (bk_recv C hw hbk) dX4_arc_58 rfl hl.1 rfl (Nat.le_of_ble_eq_true rfl) ⟨Nat.le_refl _, Nat.le_refl _⟩ (fun r9 E9 z H locs hp hw => ?_)
      rw [f_1, f_2] at hp
      exact bd_iret C hr hlk hw dX4_arc_61 (by rw [hd]; exact hp)
    · have hno := pl_f hc11
      refine lv_iconst (v := (-1)) hx hb dX4_arc_14 (by decide) ?_
      have hd9 : dk_arc P (nI kn) i mu ra = (-1, mu, ra) := if_neg (fun q => hno q.2)
      exact bd_iret C hr hlk hw dX4_arc_15 (by rw [hd9]; exact ⟨rfl, hbk, sg0, hS, bk_ivm hiv hof hfi⟩)
