/-! BallDesk: sine, join, lies, holds (laid by wip/gen/m_desk6.py) -/
theorem si_b {P : Nat} {x : Int} (hP1 : 16 ≤ P) (hP2 : P ≤ 192) (h : x.natAbs ≤ 2 ^ (P + 20)) : (x * dk_p 64).natAbs ≤ 2 ^ 280 ∧ (x * dk_p 64 + sp_PI (P + 64) / dk_p 1).natAbs ≤ 2 ^ 280 ∧ (x * dk_p 64).natAbs + (sp_PI (P + 64) / dk_p 1).natAbs < 4294967296 ^ 24 ∧ (sp_PI (P + 64) / dk_p 1).natAbs ≤ 2 ^ 260 := by
  have hp256 : (2 : Nat) ^ (P + 64) ≤ 2 ^ 256 := Nat.pow_le_pow_right (by decide) (by omega)
  obtain ⟨h1, h2⟩ := sp_PIb (Q := P + 64) (by omega)
  have h3 : (sp_PI (P + 64)).natAbs ≤ 2 ^ 260 := by
    generalize 2 ^ (P + 64) = q at *
    omega
  have h4 : (sp_PI (P + 64) / dk_p 1).natAbs ≤ 2 ^ 260 := Nat.le_trans (fl_abs (Nat.pow_pos (by decide))) h3
  have h5 : x.natAbs ≤ 2 ^ 212 := Nat.le_trans h (Nat.pow_le_pow_right (by decide) (by omega))
  have h6 : (x * dk_p 64).natAbs ≤ 2 ^ 276 := Nat.le_trans (mul_b h5 (Nat.le_of_eq (Int.natAbs_natCast _))) (by decide +kernel)
  exact ⟨Nat.le_trans h6 (by decide +kernel), Nat.le_trans (add_b h6 h4) (by decide +kernel), Nat.lt_of_le_of_lt (Nat.add_le_add h6 h4) (by decide +kernel), h4⟩
set_option maxHeartbeats 4000000 in
set_option maxRecDepth 100000 in
/-- BallDesk.sine -/
theorem c4_sine (l : Launch) (K : Cxt) (E0 : Nat → va_E) (z0 : Nat → Wh) (sz : Nat) {P : Nat} {a B : Nat → Nat} (hbk : bk_at K E0 P a B) {sg0 : Nat → Int} (hS : sg_S K z0 sg0) {mu ra : Nat → Int} (hiv : bk_iv P B sg0 mu ra) (k i : Int32) (cn : Nat) (co : Bool) (hco : (cn = 1 ∧ co = true) ∨ (cn = 0 ∧ co = false))  : Met l yX4_sine wsX4_sine ({ frames := 7, cells := 0, slots := 0, locals := 240 }) (va_Pc [.ref (a 0), .int k, .int i, .int (nI cn)] (bd_P K E0 z0 sz)) (va_Qi (bk_post K P a B (dk_sine P k i co mu ra)) (bd_B K) (bd_A K sz)) 0 0 (bd_A K sz) := by
  refine bd_ofW (cc := cX4_sine) (maxL := 5) (ret := (some .int)) (by decide) rfl (Nat.le_of_ble_eq_true rfl) ?_
  intro p e s m below meth c ls C hr hlk hsz hw hl
  have hx := C.1
  have hb := C.2.1
  have hown := C.2.2.2.1
  have hts := C.2.2.2.2.1
  have i4 : ∀ w ∈ wsX40, w ∈ wsX4_sine := by decide +kernel
  have ib0 : ∀ w ∈ wsX00, w ∈ wsX4_sine := by decide +kernel
  have lk18 : Cond.fieldLink RX4 18 "BallDesk" "places" "[LBallDesk$Ball;" ∈ wsX4_sine := by decide +kernel
  have lk36 : Cond.fieldLink RX4 36 "BallDesk" "right" "LBallDesk$Whole;" ∈ wsX4_sine := by decide +kernel
  have lk58 : Cond.fieldLink RX4 58 "BallDesk" "bits" "I" ∈ wsX4_sine := by decide +kernel
  have lk85 : Cond.fieldLink RX4 85 "BallDesk$Ball" "middle" "LBallDesk$Whole;" ∈ wsX4_sine := by decide +kernel
  have lk33 : Cond.fieldLink RX4 33 "BallDesk" "left" "LBallDesk$Whole;" ∈ wsX4_sine := by decide +kernel
  have lk70 : Cond.fieldLink RX4 70 "BallDesk" "fine" "LBallDesk$Fine;" ∈ wsX4_sine := by decide +kernel
  have lk23 : Cond.fieldLink RX4 23 "BallDesk" "made" "LBallDesk$Ball;" ∈ wsX4_sine := by decide +kernel
  have lk92 : Cond.fieldLink RX4 92 "BallDesk$Ball" "radius" "LBallDesk$Whole;" ∈ wsX4_sine := by decide +kernel
  have lk177 : Cond.constantLong RX4 177 (2) ∈ wsX4_sine := by decide +kernel
  obtain ⟨hP1, hP2⟩ := bk_P hbk
  have hl : lv_has ls 5 [(0, .ref (a 0)), (1, .int k), (2, .int i), (3, .int (nI cn))] := hl
  have hof : ∀ j, (j = 0 ∨ 8 ≤ j) → j < 32 → sg0 (B j) = sg0 (B j) := fun _ _ _ => rfl
  have hfi := hiv.2.1
  refine lv_iload_n hx hb dX4_sine_0 rfl (lv_at hl 1 rfl) ?_
  refine bd_sip (As := [.int k]) (rest := []) C (c4_isPlace _ _ _ _ _ k) (va_cwS 1 hts gX4_sine_X4_isPlace rfl rfl rfl (by decide +kernel) ⟨Nat.le_of_ble_eq_true rfl, Nat.le_of_ble_eq_true rfl⟩) hsz hw dX4_sine_1 rfl hl.1 rfl (Nat.le_of_ble_eq_true rfl) ⟨Nat.le_refl _, Nat.le_refl _⟩ (fun H locs hw => ?_)
  refine lv_if_eq (tgt := 14) hx hb dX4_sine_4 (by decide) (fun hc4 => ?_) (fun hc4 => ?_)
  · have hno := pl_f hc4
    refine lv_iconst (v := (-1)) hx hb dX4_sine_14 (by decide) ?_
    have hd9 : dk_sine P k i co mu ra = (-1, mu, ra) := if_neg (fun q => hno q.1.1)
    exact bd_iret C hr hlk hw dX4_sine_15 (by rw [hd9]; exact ⟨rfl, hbk, sg0, hS, bk_ivm hiv hof hfi⟩)
  · have hpl_kn := pl_t hc4
    obtain ⟨kn, hkn, hk_kn, hx_kn⟩ := pl_x hpl_kn
    subst hk_kn
    refine lv_iload_n hx hb dX4_sine_7 rfl (lv_at hl 2 rfl) ?_
    refine bd_sip (As := [.int i]) (rest := []) C (c4_isPlace _ _ _ _ _ i) (va_cwS 1 hts gX4_sine_X4_isPlace rfl rfl rfl (by decide +kernel) ⟨Nat.le_of_ble_eq_true rfl, Nat.le_of_ble_eq_true rfl⟩) hsz hw dX4_sine_8 rfl hl.1 rfl (Nat.le_of_ble_eq_true rfl) ⟨Nat.le_refl _, Nat.le_refl _⟩ (fun H locs hw => ?_)
    refine lv_if_ne (tgt := 16) hx hb dX4_sine_11 (by decide) (fun hc11 => ?_) (fun hc11 => ?_)
    · have hpl_im := pl_t hc11
      obtain ⟨im, him, hk_im, hx_im⟩ := pl_x hpl_im
      subst hk_im
      refine lv_aload_n hx hb dX4_sine_16 rfl (lv_at hl 0 rfl) ?_
      refine bk_g C i4 hw hbk 2 (by decide) (v := .ref (a 1)) rfl dX4_sine_17 lk18 ?_
      refine lv_iload_n hx hb dX4_sine_20 rfl (lv_at hl 2 rfl) ?_
      refine bk_ald C hw hbk him dX4_sine_21 ?_
      refine lv_astore (lv' := [(4, .ref (a (3 + im))), (0, .ref (a 0)), (1, .int (nI kn)), (2, .int (nI im)), (3, .int (nI cn))]) hx hb dX4_sine_22 hl (by decide) rfl (fun ls hl => ?_)
      refine lv_aload_n hx hb dX4_sine_24 rfl (lv_at hl 1 rfl) ?_
      refine bk_g C i4 hw hbk 7 (by decide) (v := .ref (B 4)) rfl dX4_sine_25 lk36 ?_
      refine lv_aload_n hx hb dX4_sine_28 rfl (lv_at hl 1 rfl) ?_
      refine bk_g C i4 hw hbk 0 (by decide) (v := .int (nI P)) rfl dX4_sine_29 lk58 ?_
      refine lv_bipush (v := nI 20) hx hb dX4_sine_32 (by decide) ?_
      refine bd_iadd (v := (nI (P + 20))) hx hb dX4_sine_34 (nI_add _ _) ?_
      refine sv_v (As := [.int (nI (P + 20))]) (rest := []) C (v3_becomePower _ _ _ _ _ hS (B 4) (P + 20) (bk_in hbk (i := 4) (by omega)) (by omega)) (cwV 1 hts gX4_sine_X3_becomePower rfl rfl rfl (by decide +kernel) ⟨Nat.le_of_ble_eq_true rfl, Nat.le_of_ble_eq_true rfl⟩) hsz hw (bd_recv C hw (bk_in hbk (i := 4) (by omega))) dX4_sine_35 rfl hl.1 rfl (Nat.le_of_ble_eq_true rfl) ⟨Nat.le_refl _, Nat.le_refl _⟩ (fun z sg H locs hv9 hf9 hS hw => ?_)
      have fT9 : sg (B 4) = (dk_p (P + 20)) := hv9.trans (by rfl)
      have f_4 := fT9
      have hof : ∀ j, (j = 0 ∨ 8 ≤ j) → j < 32 → sg (B j) = sg0 (B j) := fun j h1 h2 => (hf9 (B j) (bk_ne hbk (i := j) (j := 4) (by omega) (by omega) (by omega))).trans (hof j h1 h2)
      have hfi : fn_iv (P + 64) (bk_A B) sg := fn_ivm hfi (hf9 (bk_A B 1) (bk_ne hbk (i := 31 + 1) (j := 4) (by decide) (by decide) (by decide))) (hf9 (bk_A B 2) (bk_ne hbk (i := 31 + 2) (j := 4) (by decide) (by decide) (by decide))) (hf9 (bk_A B 3) (bk_ne hbk (i := 31 + 3) (j := 4) (by decide) (by decide) (by decide)))
      refine lv_aload hx hb dX4_sine_38 (lv_at hl 0 rfl) ?_
      refine bl_gm C ib0 hw (bk_pl hbk (k := im) him) dX4_sine_40 lk85 ?_
      refine lv_aload_n hx hb dX4_sine_43 rfl (lv_at hl 1 rfl) ?_
      refine bk_g C i4 hw hbk 7 (by decide) (v := .ref (B 4)) rfl dX4_sine_44 lk36 ?_
      have fm_im : sg (B (8 + im)) = mu im := (hof (8 + im) (by omega) (by omega)).trans (hiv.2.2 im him).1
      refine bd_cip (As := [.ref (B 4)]) (rest := []) C (v3_ows _ _ _ _ _ hS (B (8 + im)) (B 4) (bk_in hbk (i := (8 + im)) (by omega)) (bk_in hbk (i := 4) (by omega))) (cwV 1 hts gX4_sine_X3_orderWithoutSign rfl rfl rfl (by decide +kernel) ⟨Nat.le_of_ble_eq_true rfl, Nat.le_of_ble_eq_true rfl⟩) hsz hw (bd_recv C hw (bk_in hbk (i := (8 + im)) (by omega))) dX4_sine_47 rfl hl.1 rfl (Nat.le_of_ble_eq_true rfl) ⟨Nat.le_refl _, Nat.le_refl _⟩ (fun H locs hw => ?_)
      rw [fm_im, f_4, Int.natAbs_natCast, q3_c]
      refine lv_if_le (tgt := 55) hx hb dX4_sine_50 (by decide) (fun hc50 => ?_) (fun hc50 => ?_)
      · have hq50 := q3_le.mp hc50
        have hle : (mu im).natAbs ≤ 2 ^ (P + 20) := by omega
        obtain ⟨hbm_im, hb0_im, hbr_im⟩ := bk_b hP2 hiv him
        obtain ⟨hsa, hsb, hsc, hsd⟩ := si_b hP1 hP2 hle
        refine lv_aload_n hx hb dX4_sine_55 rfl (lv_at hl 1 rfl) ?_
        refine bk_g C i4 hw hbk 6 (by decide) (v := .ref (B 3)) rfl dX4_sine_56 lk33 ?_
        refine lv_aload hx hb dX4_sine_59 (lv_at hl 0 rfl) ?_
        refine bl_gm C ib0 hw (bk_pl hbk (k := im) him) dX4_sine_61 lk85 ?_
        have fm_im : sg (B (8 + im)) = mu im := (hof (8 + im) (by omega) (by omega)).trans (hiv.2.2 im him).1
        refine sv_v (As := [.ref (B (8 + im))]) (rest := []) C (v3_become_ _ _ _ _ _ hS (B 3) (B (8 + im)) (bk_in hbk (i := 3) (by omega)) (bk_in hbk (i := (8 + im)) (by omega))) (cwV 1 hts gX4_sine_X3_become_ rfl rfl rfl (by decide +kernel) ⟨Nat.le_of_ble_eq_true rfl, Nat.le_of_ble_eq_true rfl⟩) hsz hw (bd_recv C hw (bk_in hbk (i := 3) (by omega))) dX4_sine_64 rfl hl.1 rfl (Nat.le_of_ble_eq_true rfl) ⟨Nat.le_refl _, Nat.le_refl _⟩ (fun z sg H locs hv9 hf9 hS hw => ?_)
        have fT9 : sg (B 3) = mu im := hv9.trans (by exact fm_im)
        have f_4 : sg (B 4) = (dk_p (P + 20)) := (hf9 (B 4) (bk_ne hbk (i := 4) (j := 3) (by omega) (by omega) (by omega))).trans f_4
        have f_3 := fT9
        have hof : ∀ j, (j = 0 ∨ 8 ≤ j) → j < 32 → sg (B j) = sg0 (B j) := fun j h1 h2 => (hf9 (B j) (bk_ne hbk (i := j) (j := 3) (by omega) (by omega) (by omega))).trans (hof j h1 h2)
        have hfi : fn_iv (P + 64) (bk_A B) sg := fn_ivm hfi (hf9 (bk_A B 1) (bk_ne hbk (i := 31 + 1) (j := 3) (by decide) (by decide) (by decide))) (hf9 (bk_A B 2) (bk_ne hbk (i := 31 + 2) (j := 3) (by decide) (by decide) (by decide))) (hf9 (bk_A B 3) (bk_ne hbk (i := 31 + 3) (j := 3) (by decide) (by decide) (by decide)))
        refine lv_aload_n hx hb dX4_sine_67 rfl (lv_at hl 1 rfl) ?_
        refine bk_g C i4 hw hbk 6 (by decide) (v := .ref (B 3)) rfl dX4_sine_68 lk33 ?_
        refine lv_bipush (v := nI 64) hx hb dX4_sine_71 (by decide) ?_
        refine sv_v (As := [.int (nI 64)]) (rest := []) C (v3_raise _ _ _ _ _ hS (B 3) 64 8 (bk_in hbk (i := 3) (by omega)) (by omega) (by rw [f_3]; exact b8 hbm_im) (by omega)) (cwV 1 hts gX4_sine_X3_raise rfl rfl rfl (by decide +kernel) ⟨Nat.le_of_ble_eq_true rfl, Nat.le_of_ble_eq_true rfl⟩) hsz hw (bd_recv C hw (bk_in hbk (i := 3) (by omega))) dX4_sine_73 rfl hl.1 rfl (Nat.le_of_ble_eq_true rfl) ⟨Nat.le_refl _, Nat.le_refl _⟩ (fun z sg H locs hv9 hf9 hS hw => ?_)
        have fT9 : sg (B 3) = (mu im * dk_p 64) := hv9.trans (by rw [f_3])
        have f_4 : sg (B 4) = (dk_p (P + 20)) := (hf9 (B 4) (bk_ne hbk (i := 4) (j := 3) (by omega) (by omega) (by omega))).trans f_4
        have f_3 := fT9
        have hof : ∀ j, (j = 0 ∨ 8 ≤ j) → j < 32 → sg (B j) = sg0 (B j) := fun j h1 h2 => (hf9 (B j) (bk_ne hbk (i := j) (j := 3) (by omega) (by omega) (by omega))).trans (hof j h1 h2)
        have hfi : fn_iv (P + 64) (bk_A B) sg := fn_ivm hfi (hf9 (bk_A B 1) (bk_ne hbk (i := 31 + 1) (j := 3) (by decide) (by decide) (by decide))) (hf9 (bk_A B 2) (bk_ne hbk (i := 31 + 2) (j := 3) (by decide) (by decide) (by decide))) (hf9 (bk_A B 3) (bk_ne hbk (i := 31 + 3) (j := 3) (by decide) (by decide) (by decide)))
        refine lv_iload_n hx hb dX4_sine_76 rfl (lv_at hl 4 rfl) ?_
        refine bd_zeq (h1 := (by omega)) (tgt := 117) hx hb dX4_sine_77 (by decide) (fun hc77 => ?_) (fun hc77 => ?_)
        · refine lv_aload_n hx hb dX4_sine_117 rfl (lv_at hl 1 rfl) ?_
          refine bk_g C i4 hw hbk 10 (by decide) (v := .ref (a 15)) rfl dX4_sine_118 lk70 ?_
          refine lv_aload_n hx hb dX4_sine_121 rfl (lv_at hl 1 rfl) ?_
          refine bk_g C i4 hw hbk 6 (by decide) (v := .ref (B 3)) rfl dX4_sine_122 lk33 ?_
          have hg1 := sp_SINb (Q := P + 64) (by omega) (by omega) hsa
          have hd : dk_sine P (nI kn) (nI im) co mu ra = dk_keep P kn (sp_SIN (P + 64) (mu im * dk_p 64) / dk_p 64) (ra im + 2) mu ra := by
            have hco2 : co = false := by rcases hco with ⟨q1, q2⟩ | ⟨q1, q2⟩ <;> first | exact q2 | (exfalso; omega)
            unfold dk_sine
            rw [if_pos ⟨⟨hpl_kn, hpl_im⟩, by rw [hx_im]; exact hle⟩, hx_kn, hx_im, hco2]
            rfl
          refine bd_cv (As := [.ref (B 3)]) (rest := []) C (f_sineOf _ _ _ _ _ (bk_fn hbk) hS (B 3) (bk_in hbk (i := 3) (by omega)) (bk_xA hbk (j := 3) (by omega)) hfi (by rw [f_3]; exact hsa)) (cwV 1 hts gX4_sine_X2_sineOf rfl rfl rfl (by decide +kernel) ⟨Nat.le_of_ble_eq_true rfl, Nat.le_of_ble_eq_true rfl⟩) hsz hw (fn_recv C hw (bk_fn hbk)) dX4_sine_125 rfl hl.1 rfl (Nat.le_of_ble_eq_true rfl) ⟨Nat.le_refl _, Nat.le_refl _⟩ (fun E z H locs hp hw => ?_)
          obtain ⟨hfn9, hfe9, sg, hS, hfi, hv9, hf9⟩ := hp
          have hbk := bk_mv2 hbk hfn9 hfe9
          have fT9 : sg (B 3) = (sp_SIN (P + 64) (mu im * dk_p 64)) := hv9.trans (by rw [f_3])
          have f_4 : sg (B 4) = (dk_p (P + 20)) := (hf9 (B 4) (bk_ne hbk (i := 4) (j := 3) (by omega) (by omega) (by omega)) (la_c (bk_ne hbk (i := 4) (j := 31 + 2) (by omega) (by omega) (by omega)) (la_c (bk_ne hbk (i := 4) (j := 31 + 4) (by omega) (by omega) (by omega)) (la_c (bk_ne hbk (i := 4) (j := 31 + 5) (by omega) (by omega) (by omega)) (la_c (bk_ne hbk (i := 4) (j := 31 + 6) (by omega) (by omega) (by omega)) (la_c (bk_ne hbk (i := 4) (j := 31 + 7) (by omega) (by omega) (by omega)) (la_c (bk_ne hbk (i := 4) (j := 31 + 8) (by omega) (by omega) (by omega)) la_n))))))).trans f_4
          have f_3 := fT9
          have hof : ∀ j, (j = 0 ∨ 8 ≤ j) → j < 32 → sg (B j) = sg0 (B j) := fun j h1 h2 => (hf9 (B j) (bk_ne hbk (i := j) (j := 3) (by omega) (by omega) (by omega)) (la_c (bk_ne hbk (i := j) (j := 31 + 2) (by omega) (by omega) (by omega)) (la_c (bk_ne hbk (i := j) (j := 31 + 4) (by omega) (by omega) (by omega)) (la_c (bk_ne hbk (i := j) (j := 31 + 5) (by omega) (by omega) (by omega)) (la_c (bk_ne hbk (i := j) (j := 31 + 6) (by omega) (by omega) (by omega)) (la_c (bk_ne hbk (i := j) (j := 31 + 7) (by omega) (by omega) (by omega)) (la_c (bk_ne hbk (i := j) (j := 31 + 8) (by omega) (by omega) (by omega)) la_n))))))).trans (hof j h1 h2)
          refine lv_aload_n hx hb dX4_sine_128 rfl (lv_at hl 1 rfl) ?_
          refine bk_g C i4 hw hbk 6 (by decide) (v := .ref (B 3)) rfl dX4_sine_129 lk33 ?_
          refine lv_bipush (v := nI 64) hx hb dX4_sine_132 (by decide) ?_
          refine sv_v (As := [.int (nI 64)]) (rest := []) C (v3_lower _ _ _ _ _ hS (B 3) 64 (bk_in hbk (i := 3) (by omega)) (by omega) (by omega)) (cwV 1 hts gX4_sine_X3_lower rfl rfl rfl (by decide +kernel) ⟨Nat.le_of_ble_eq_true rfl, Nat.le_of_ble_eq_true rfl⟩) hsz hw (bd_recv C hw (bk_in hbk (i := 3) (by omega))) dX4_sine_134 rfl hl.1 rfl (Nat.le_of_ble_eq_true rfl) ⟨Nat.le_refl _, Nat.le_refl _⟩ (fun z sg H locs hv9 hf9 hS hw => ?_)
          have fT9 : sg (B 3) = (sp_SIN (P + 64) (mu im * dk_p 64) / dk_p 64) := hv9.trans (by rw [f_3])
          have f_4 : sg (B 4) = (dk_p (P + 20)) := (hf9 (B 4) (bk_ne hbk (i := 4) (j := 3) (by omega) (by omega) (by omega))).trans f_4
          have f_3 := fT9
          have hof : ∀ j, (j = 0 ∨ 8 ≤ j) → j < 32 → sg (B j) = sg0 (B j) := fun j h1 h2 => (hf9 (B j) (bk_ne hbk (i := j) (j := 3) (by omega) (by omega) (by omega))).trans (hof j h1 h2)
          have hfi : fn_iv (P + 64) (bk_A B) sg := fn_ivm hfi (hf9 (bk_A B 1) (bk_ne hbk (i := 31 + 1) (j := 3) (by decide) (by decide) (by decide))) (hf9 (bk_A B 2) (bk_ne hbk (i := 31 + 2) (j := 3) (by decide) (by decide) (by decide))) (hf9 (bk_A B 3) (bk_ne hbk (i := 31 + 3) (j := 3) (by decide) (by decide) (by decide)))
          refine lv_aload_n hx hb dX4_sine_137 rfl (lv_at hl 1 rfl) ?_
          refine bk_g C i4 hw hbk 3 (by decide) (v := .ref (a 2)) rfl dX4_sine_138 lk23 ?_
          refine bl_gm C ib0 hw (bk_made hbk) dX4_sine_141 lk85 ?_
          refine lv_aload_n hx hb dX4_sine_144 rfl (lv_at hl 1 rfl) ?_
          refine bk_g C i4 hw hbk 6 (by decide) (v := .ref (B 3)) rfl dX4_sine_145 lk33 ?_
          refine sv_v (As := [.ref (B 3)]) (rest := []) C (v3_become_ _ _ _ _ _ hS (B 6) (B 3) (bk_in hbk (i := 6) (by omega)) (bk_in hbk (i := 3) (by omega))) (cwV 1 hts gX4_sine_X3_become_ rfl rfl rfl (by decide +kernel) ⟨Nat.le_of_ble_eq_true rfl, Nat.le_of_ble_eq_true rfl⟩) hsz hw (bd_recv C hw (bk_in hbk (i := 6) (by omega))) dX4_sine_148 rfl hl.1 rfl (Nat.le_of_ble_eq_true rfl) ⟨Nat.le_refl _, Nat.le_refl _⟩ (fun z sg H locs hv9 hf9 hS hw => ?_)
          have fT9 : sg (B 6) = (sp_SIN (P + 64) (mu im * dk_p 64) / dk_p 64) := hv9.trans (by exact f_3)
          have f_4 : sg (B 4) = (dk_p (P + 20)) := (hf9 (B 4) (bk_ne hbk (i := 4) (j := 6) (by omega) (by omega) (by omega))).trans f_4
          have f_3 : sg (B 3) = (sp_SIN (P + 64) (mu im * dk_p 64) / dk_p 64) := (hf9 (B 3) (bk_ne hbk (i := 3) (j := 6) (by omega) (by omega) (by omega))).trans f_3
          have f_6 := fT9
          have hof : ∀ j, (j = 0 ∨ 8 ≤ j) → j < 32 → sg (B j) = sg0 (B j) := fun j h1 h2 => (hf9 (B j) (bk_ne hbk (i := j) (j := 6) (by omega) (by omega) (by omega))).trans (hof j h1 h2)
          have hfi : fn_iv (P + 64) (bk_A B) sg := fn_ivm hfi (hf9 (bk_A B 1) (bk_ne hbk (i := 31 + 1) (j := 6) (by decide) (by decide) (by decide))) (hf9 (bk_A B 2) (bk_ne hbk (i := 31 + 2) (j := 6) (by decide) (by decide) (by decide))) (hf9 (bk_A B 3) (bk_ne hbk (i := 31 + 3) (j := 6) (by decide) (by decide) (by decide)))
          refine lv_aload_n hx hb dX4_sine_151 rfl (lv_at hl 1 rfl) ?_
          refine bk_g C i4 hw hbk 3 (by decide) (v := .ref (a 2)) rfl dX4_sine_152 lk23 ?_
          refine bl_gr C ib0 hw (bk_made hbk) dX4_sine_155 lk92 ?_
          refine lv_aload hx hb dX4_sine_158 (lv_at hl 0 rfl) ?_
          refine bl_gr C ib0 hw (bk_pl hbk (k := im) him) dX4_sine_160 lk92 ?_
          have fr_im : sg (B (20 + im)) = ra im := (hof (20 + im) (by omega) (by omega)).trans (hiv.2.2 im him).2.1
          refine sv_v (As := [.ref (B (20 + im))]) (rest := []) C (v3_become_ _ _ _ _ _ hS (B 7) (B (20 + im)) (bk_in hbk (i := 7) (by omega)) (bk_in hbk (i := (20 + im)) (by omega))) (cwV 1 hts gX4_sine_X3_become_ rfl rfl rfl (by decide +kernel) ⟨Nat.le_of_ble_eq_true rfl, Nat.le_of_ble_eq_true rfl⟩) hsz hw (bd_recv C hw (bk_in hbk (i := 7) (by omega))) dX4_sine_163 rfl hl.1 rfl (Nat.le_of_ble_eq_true rfl) ⟨Nat.le_refl _, Nat.le_refl _⟩ (fun z sg H locs hv9 hf9 hS hw => ?_)
          have fT9 : sg (B 7) = ra im := hv9.trans (by exact fr_im)
          have f_4 : sg (B 4) = (dk_p (P + 20)) := (hf9 (B 4) (bk_ne hbk (i := 4) (j := 7) (by omega) (by omega) (by omega))).trans f_4
          have f_3 : sg (B 3) = (sp_SIN (P + 64) (mu im * dk_p 64) / dk_p 64) := (hf9 (B 3) (bk_ne hbk (i := 3) (j := 7) (by omega) (by omega) (by omega))).trans f_3
          have f_6 : sg (B 6) = (sp_SIN (P + 64) (mu im * dk_p 64) / dk_p 64) := (hf9 (B 6) (bk_ne hbk (i := 6) (j := 7) (by omega) (by omega) (by omega))).trans f_6
          have f_7 := fT9
          have hof : ∀ j, (j = 0 ∨ 8 ≤ j) → j < 32 → sg (B j) = sg0 (B j) := fun j h1 h2 => (hf9 (B j) (bk_ne hbk (i := j) (j := 7) (by omega) (by omega) (by omega))).trans (hof j h1 h2)
          have hfi : fn_iv (P + 64) (bk_A B) sg := fn_ivm hfi (hf9 (bk_A B 1) (bk_ne hbk (i := 31 + 1) (j := 7) (by decide) (by decide) (by decide))) (hf9 (bk_A B 2) (bk_ne hbk (i := 31 + 2) (j := 7) (by decide) (by decide) (by decide))) (hf9 (bk_A B 3) (bk_ne hbk (i := 31 + 3) (j := 7) (by decide) (by decide) (by decide)))
          refine lv_aload_n hx hb dX4_sine_166 rfl (lv_at hl 1 rfl) ?_
          refine lv_aload_n hx hb dX4_sine_167 rfl (lv_at hl 1 rfl) ?_
          refine bk_g C i4 hw hbk 3 (by decide) (v := .ref (a 2)) rfl dX4_sine_168 lk23 ?_
          refine bl_gr C ib0 hw (bk_made hbk) dX4_sine_171 lk92 ?_
          refine lv_ldc2 (v := 2) hx hb hown (hts _ lk177) dX4_sine_174 ?_
          refine bd_cv (As := [.ref (B 7), .long 2]) (rest := []) C (c4_change _ _ _ _ _ hbk hS 7 2 (by decide) (by decide) (by rw [f_7]; exact (Nat.le_trans hbr_im (by decide +kernel)))) (cwV 2 hts gX4_sine_X4_change rfl rfl rfl (by decide +kernel) ⟨Nat.le_of_ble_eq_true rfl, Nat.le_of_ble_eq_true rfl⟩) hsz hw (bk_recv C hw hbk) dX4_sine_177 rfl hl.1 rfl (Nat.le_of_ble_eq_true rfl) ⟨Nat.le_refl _, Nat.le_refl _⟩ (fun E1 z H locs hp hw => ?_)
          obtain ⟨hE9, sg, hS, hv0_, hf9⟩ := hp
          rw [show E1 = E from hE9] at hw
          have fT0_ : sg (B 7) = (ra im + 2) := hv0_.trans (by rw [f_7]; rfl)
          have f_4 : sg (B 4) = (dk_p (P + 20)) := (hf9 (B 4) (bk_ne hbk (i := 4) (j := 7) (by omega) (by omega) (by omega)) (bk_ne hbk (i := 4) (j := 5) (by omega) (by omega) (by omega))).trans f_4
          have f_3 : sg (B 3) = (sp_SIN (P + 64) (mu im * dk_p 64) / dk_p 64) := (hf9 (B 3) (bk_ne hbk (i := 3) (j := 7) (by omega) (by omega) (by omega)) (bk_ne hbk (i := 3) (j := 5) (by omega) (by omega) (by omega))).trans f_3
          have f_6 : sg (B 6) = (sp_SIN (P + 64) (mu im * dk_p 64) / dk_p 64) := (hf9 (B 6) (bk_ne hbk (i := 6) (j := 7) (by omega) (by omega) (by omega)) (bk_ne hbk (i := 6) (j := 5) (by omega) (by omega) (by omega))).trans f_6
          have f_7 := fT0_
          have hof : ∀ j, (j = 0 ∨ 8 ≤ j) → j < 32 → sg (B j) = sg0 (B j) := fun j h1 h2 => (hf9 (B j) (bk_ne hbk (i := j) (j := 7) (by omega) (by omega) (by omega)) (bk_ne hbk (i := j) (j := 5) (by omega) (by omega) (by omega))).trans (hof j h1 h2)
          have hfi : fn_iv (P + 64) (bk_A B) sg := fn_ivm hfi (hf9 (bk_A B 1) (bk_ne hbk (i := 31 + 1) (j := 7) (by decide) (by decide) (by decide)) (bk_ne hbk (i := 31 + 1) (j := 5) (by decide) (by decide) (by decide))) (hf9 (bk_A B 2) (bk_ne hbk (i := 31 + 2) (j := 7) (by decide) (by decide) (by decide)) (bk_ne hbk (i := 31 + 2) (j := 5) (by decide) (by decide) (by decide))) (hf9 (bk_A B 3) (bk_ne hbk (i := 31 + 3) (j := 7) (by decide) (by decide) (by decide)) (bk_ne hbk (i := 31 + 3) (j := 5) (by decide) (by decide) (by decide)))
          refine lv_aload_n hx hb dX4_sine_180 rfl (lv_at hl 1 rfl) ?_
          refine lv_iload_n hx hb dX4_sine_181 rfl (lv_at hl 2 rfl) ?_
          refine bd_ci (As := [.int (nI kn)]) (rest := []) C (c4_keep _ _ _ _ _ hbk hS (bk_ivm hiv hof hfi) kn hkn) (cwV 1 hts gX4_sine_X4_keep rfl rfl rfl (by decide +kernel) ⟨Nat.le_of_ble_eq_true rfl, Nat.le_of_ble_eq_true rfl⟩) hsz hw (bk_recv C hw hbk) dX4_sine_182 rfl hl.1 rfl (Nat.le_of_ble_eq_true rfl) ⟨Nat.le_refl _, Nat.le_refl _⟩ (fun r9 E9 z H locs hp hw => ?_)
          rw [f_6, f_7] at hp
          exact bd_iret C hr hlk hw dX4_sine_185 (by rw [hd]; exact hp)
        · refine lv_aload_n hx hb dX4_sine_80 rfl (lv_at hl 1 rfl) ?_
          refine bk_g C i4 hw hbk 7 (by decide) (v := .ref (B 4)) rfl dX4_sine_81 lk36 ?_
          refine lv_aload_n hx hb dX4_sine_84 rfl (lv_at hl 1 rfl) ?_
          refine bk_g C i4 hw hbk 10 (by decide) (v := .ref (a 15)) rfl dX4_sine_85 lk70 ?_
          refine bd_cr (As := []) (rest := [.ref (B 4)]) C (f_halfTurn _ _ _ _ _ (bk_fn hbk) hS hfi) (cwV 0 hts gX4_sine_X2_halfTurn rfl rfl rfl (by decide +kernel) ⟨Nat.le_of_ble_eq_true rfl, Nat.le_of_ble_eq_true rfl⟩) hsz hw (fn_recv C hw (bk_fn hbk)) dX4_sine_88 rfl hl.1 rfl (Nat.le_of_ble_eq_true rfl) ⟨Nat.le_refl _, Nat.le_refl _⟩ (fun E1 z H locs hp hw => ?_)
          obtain ⟨hE9, sg, hS, hfi, hv9, hf9⟩ := hp
          rw [show E1 = E0 from hE9] at hw
          have f_4 : sg (B 4) = (dk_p (P + 20)) := (hf9 (B 4) (la_c (bk_ne hbk (i := 4) (j := 31 + 2) (by omega) (by omega) (by omega)) (la_c (bk_ne hbk (i := 4) (j := 31 + 4) (by omega) (by omega) (by omega)) (la_c (bk_ne hbk (i := 4) (j := 31 + 5) (by omega) (by omega) (by omega)) (la_c (bk_ne hbk (i := 4) (j := 31 + 6) (by omega) (by omega) (by omega)) (la_c (bk_ne hbk (i := 4) (j := 31 + 7) (by omega) (by omega) (by omega)) (la_c (bk_ne hbk (i := 4) (j := 31 + 8) (by omega) (by omega) (by omega)) la_n))))))).trans f_4
          have f_3 : sg (B 3) = (mu im * dk_p 64) := (hf9 (B 3) (la_c (bk_ne hbk (i := 3) (j := 31 + 2) (by omega) (by omega) (by omega)) (la_c (bk_ne hbk (i := 3) (j := 31 + 4) (by omega) (by omega) (by omega)) (la_c (bk_ne hbk (i := 3) (j := 31 + 5) (by omega) (by omega) (by omega)) (la_c (bk_ne hbk (i := 3) (j := 31 + 6) (by omega) (by omega) (by omega)) (la_c (bk_ne hbk (i := 3) (j := 31 + 7) (by omega) (by omega) (by omega)) (la_c (bk_ne hbk (i := 3) (j := 31 + 8) (by omega) (by omega) (by omega)) la_n))))))).trans f_3
          have f_33 : sg (B 33) = sp_PI (P + 64) := hv9
          have hof : ∀ j, (j = 0 ∨ 8 ≤ j) → j < 32 → sg (B j) = sg0 (B j) := fun j h1 h2 => (hf9 (B j) (la_c (bk_ne hbk (i := j) (j := 31 + 2) (by omega) (by omega) (by omega)) (la_c (bk_ne hbk (i := j) (j := 31 + 4) (by omega) (by omega) (by omega)) (la_c (bk_ne hbk (i := j) (j := 31 + 5) (by omega) (by omega) (by omega)) (la_c (bk_ne hbk (i := j) (j := 31 + 6) (by omega) (by omega) (by omega)) (la_c (bk_ne hbk (i := j) (j := 31 + 7) (by omega) (by omega) (by omega)) (la_c (bk_ne hbk (i := j) (j := 31 + 8) (by omega) (by omega) (by omega)) la_n))))))).trans (hof j h1 h2)
          refine sv_v (As := [.ref (B 33)]) (rest := []) C (v3_become_ _ _ _ _ _ hS (B 4) (B 33) (bk_in hbk (i := 4) (by omega)) (bk_in hbk (i := 33) (by omega))) (cwV 1 hts gX4_sine_X3_become_ rfl rfl rfl (by decide +kernel) ⟨Nat.le_of_ble_eq_true rfl, Nat.le_of_ble_eq_true rfl⟩) hsz hw (bd_recv C hw (bk_in hbk (i := 4) (by omega))) dX4_sine_91 rfl hl.1 rfl (Nat.le_of_ble_eq_true rfl) ⟨Nat.le_refl _, Nat.le_refl _⟩ (fun z sg H locs hv9 hf9 hS hw => ?_)
          have fT9 : sg (B 4) = (sp_PI (P + 64)) := hv9.trans (by exact f_33)
          have f_3 : sg (B 3) = (mu im * dk_p 64) := (hf9 (B 3) (bk_ne hbk (i := 3) (j := 4) (by omega) (by omega) (by omega))).trans f_3
          have f_33 : sg (B 33) = (sp_PI (P + 64)) := (hf9 (B 33) (bk_ne hbk (i := 33) (j := 4) (by omega) (by omega) (by omega))).trans f_33
          have f_4 := fT9
          have hof : ∀ j, (j = 0 ∨ 8 ≤ j) → j < 32 → sg (B j) = sg0 (B j) := fun j h1 h2 => (hf9 (B j) (bk_ne hbk (i := j) (j := 4) (by omega) (by omega) (by omega))).trans (hof j h1 h2)
          have hfi : fn_iv (P + 64) (bk_A B) sg := fn_ivm hfi (hf9 (bk_A B 1) (bk_ne hbk (i := 31 + 1) (j := 4) (by decide) (by decide) (by decide))) (hf9 (bk_A B 2) (bk_ne hbk (i := 31 + 2) (j := 4) (by decide) (by decide) (by decide))) (hf9 (bk_A B 3) (bk_ne hbk (i := 31 + 3) (j := 4) (by decide) (by decide) (by decide)))
          refine lv_aload_n hx hb dX4_sine_94 rfl (lv_at hl 1 rfl) ?_
          refine bk_g C i4 hw hbk 7 (by decide) (v := .ref (B 4)) rfl dX4_sine_95 lk36 ?_
          refine lv_iconst (v := nI 1) hx hb dX4_sine_98 (by decide) ?_
          refine sv_v (As := [.int (nI 1)]) (rest := []) C (v3_lower _ _ _ _ _ hS (B 4) 1 (bk_in hbk (i := 4) (by omega)) (by omega) (by omega)) (cwV 1 hts gX4_sine_X3_lower rfl rfl rfl (by decide +kernel) ⟨Nat.le_of_ble_eq_true rfl, Nat.le_of_ble_eq_true rfl⟩) hsz hw (bd_recv C hw (bk_in hbk (i := 4) (by omega))) dX4_sine_99 rfl hl.1 rfl (Nat.le_of_ble_eq_true rfl) ⟨Nat.le_refl _, Nat.le_refl _⟩ (fun z sg H locs hv9 hf9 hS hw => ?_)
          have fT9 : sg (B 4) = (sp_PI (P + 64) / dk_p 1) := hv9.trans (by rw [f_4])
          have f_3 : sg (B 3) = (mu im * dk_p 64) := (hf9 (B 3) (bk_ne hbk (i := 3) (j := 4) (by omega) (by omega) (by omega))).trans f_3
          have f_33 : sg (B 33) = (sp_PI (P + 64)) := (hf9 (B 33) (bk_ne hbk (i := 33) (j := 4) (by omega) (by omega) (by omega))).trans f_33
          have f_4 := fT9
          have hof : ∀ j, (j = 0 ∨ 8 ≤ j) → j < 32 → sg (B j) = sg0 (B j) := fun j h1 h2 => (hf9 (B j) (bk_ne hbk (i := j) (j := 4) (by omega) (by omega) (by omega))).trans (hof j h1 h2)
          have hfi : fn_iv (P + 64) (bk_A B) sg := fn_ivm hfi (hf9 (bk_A B 1) (bk_ne hbk (i := 31 + 1) (j := 4) (by decide) (by decide) (by decide))) (hf9 (bk_A B 2) (bk_ne hbk (i := 31 + 2) (j := 4) (by decide) (by decide) (by decide))) (hf9 (bk_A B 3) (bk_ne hbk (i := 31 + 3) (j := 4) (by decide) (by decide) (by decide)))
          refine lv_aload_n hx hb dX4_sine_102 rfl (lv_at hl 1 rfl) ?_
          refine bk_g C i4 hw hbk 6 (by decide) (v := .ref (B 3)) rfl dX4_sine_103 lk33 ?_
          refine lv_aload_n hx hb dX4_sine_106 rfl (lv_at hl 1 rfl) ?_
          refine bk_g C i4 hw hbk 6 (by decide) (v := .ref (B 3)) rfl dX4_sine_107 lk33 ?_
          refine lv_aload_n hx hb dX4_sine_110 rfl (lv_at hl 1 rfl) ?_
          refine bk_g C i4 hw hbk 7 (by decide) (v := .ref (B 4)) rfl dX4_sine_111 lk36 ?_
          refine sv_v (As := [.ref (B 3), .ref (B 4)]) (rest := []) C (v3_sum _ _ _ _ _ hS (B 3) (B 3) (B 4) (bk_in hbk (i := 3) (by omega)) (bk_in hbk (i := 3) (by omega)) (bk_in hbk (i := 4) (by omega)) (by rw [f_3, f_4]; exact hsc)) (cwV 2 hts gX4_sine_X3_sum rfl rfl rfl (by decide +kernel) ⟨Nat.le_of_ble_eq_true rfl, Nat.le_of_ble_eq_true rfl⟩) hsz hw (bd_recv C hw (bk_in hbk (i := 3) (by omega))) dX4_sine_114 rfl hl.1 rfl (Nat.le_of_ble_eq_true rfl) ⟨Nat.le_refl _, Nat.le_refl _⟩ (fun z sg H locs hv9 hf9 hS hw => ?_)
          have fT9 : sg (B 3) = (mu im * dk_p 64 + sp_PI (P + 64) / dk_p 1) := hv9.trans (by rw [f_3, f_4])
          have f_4 : sg (B 4) = (sp_PI (P + 64) / dk_p 1) := (hf9 (B 4) (bk_ne hbk (i := 4) (j := 3) (by omega) (by omega) (by omega))).trans f_4
          have f_33 : sg (B 33) = (sp_PI (P + 64)) := (hf9 (B 33) (bk_ne hbk (i := 33) (j := 3) (by omega) (by omega) (by omega))).trans f_33
          have f_3 := fT9
          have hof : ∀ j, (j = 0 ∨ 8 ≤ j) → j < 32 → sg (B j) = sg0 (B j) := fun j h1 h2 => (hf9 (B j) (bk_ne hbk (i := j) (j := 3) (by omega) (by omega) (by omega))).trans (hof j h1 h2)
          have hfi : fn_iv (P + 64) (bk_A B) sg := fn_ivm hfi (hf9 (bk_A B 1) (bk_ne hbk (i := 31 + 1) (j := 3) (by decide) (by decide) (by decide))) (hf9 (bk_A B 2) (bk_ne hbk (i := 31 + 2) (j := 3) (by decide) (by decide) (by decide))) (hf9 (bk_A B 3) (bk_ne hbk (i := 31 + 3) (j := 3) (by decide) (by decide) (by decide)))
          refine lv_aload_n hx hb dX4_sine_117 rfl (lv_at hl 1 rfl) ?_
          refine bk_g C i4 hw hbk 10 (by decide) (v := .ref (a 15)) rfl dX4_sine_118 lk70 ?_
          refine lv_aload_n hx hb dX4_sine_121 rfl (lv_at hl 1 rfl) ?_
          refine bk_g C i4 hw hbk 6 (by decide) (v := .ref (B 3)) rfl dX4_sine_122 lk33 ?_
          have hg1 := sp_SINb (Q := P + 64) (by omega) (by omega) hsb
          have hd : dk_sine P (nI kn) (nI im) co mu ra = dk_keep P kn (sp_SIN (P + 64) (mu im * dk_p 64 + sp_PI (P + 64) / dk_p 1) / dk_p 64) (ra im + 2) mu ra := by
            have hco2 : co = true := by rcases hco with ⟨q1, q2⟩ | ⟨q1, q2⟩ <;> first | exact q2 | (exfalso; omega)
            unfold dk_sine
            rw [if_pos ⟨⟨hpl_kn, hpl_im⟩, by rw [hx_im]; exact hle⟩, hx_kn, hx_im, hco2]
            rfl
          refine bd_cv (As := [.ref (B 3)]) (rest := []) C (f_sineOf _ _ _ _ _ (bk_fn hbk) hS (B 3) (bk_in hbk (i := 3) (by omega)) (bk_xA hbk (j := 3) (by omega)) hfi (by rw [f_3]; exact hsb)) (cwV 1 hts gX4_sine_X2_sineOf rfl rfl rfl (by decide +kernel) ⟨Nat.le_of_ble_eq_true rfl, Nat.le_of_ble_eq_true rfl⟩) hsz hw (fn_recv C hw (bk_fn hbk)) dX4_sine_125 rfl hl.1 rfl (Nat.le_of_ble_eq_true rfl) ⟨Nat.le_refl _, Nat.le_refl _⟩ (fun E z H locs hp hw => ?_)
          obtain ⟨hfn9, hfe9, sg, hS, hfi, hv9, hf9⟩ := hp
          have hbk := bk_mv2 hbk hfn9 hfe9
          have fT9 : sg (B 3) = (sp_SIN (P + 64) (mu im * dk_p 64 + sp_PI (P + 64) / dk_p 1)) := hv9.trans (by rw [f_3])
          have f_4 : sg (B 4) = (sp_PI (P + 64) / dk_p 1) := (hf9 (B 4) (bk_ne hbk (i := 4) (j := 3) (by omega) (by omega) (by omega)) (la_c (bk_ne hbk (i := 4) (j := 31 + 2) (by omega) (by omega) (by omega)) (la_c (bk_ne hbk (i := 4) (j := 31 + 4) (by omega) (by omega) (by omega)) (la_c (bk_ne hbk (i := 4) (j := 31 + 5) (by omega) (by omega) (by omega)) (la_c (bk_ne hbk (i := 4) (j := 31 + 6) (by omega) (by omega) (by omega)) (la_c (bk_ne hbk (i := 4) (j := 31 + 7) (by omega) (by omega) (by omega)) (la_c (bk_ne hbk (i := 4) (j := 31 + 8) (by omega) (by omega) (by omega)) la_n))))))).trans f_4
          have f_3 := fT9
          have hof : ∀ j, (j = 0 ∨ 8 ≤ j) → j < 32 → sg (B j) = sg0 (B j) := fun j h1 h2 => (hf9 (B j) (bk_ne hbk (i := j) (j := 3) (by omega) (by omega) (by omega)) (la_c (bk_ne hbk (i := j) (j := 31 + 2) (by omega) (by omega) (by omega)) (la_c (bk_ne hbk (i := j) (j := 31 + 4) (by omega) (by omega) (by omega)) (la_c (bk_ne hbk (i := j) (j := 31 + 5) (by omega) (by omega) (by omega)) (la_c (bk_ne hbk (i := j) (j := 31 + 6) (by omega) (by omega) (by omega)) (la_c (bk_ne hbk (i := j) (j := 31 + 7) (by omega) (by omega) (by omega)) (la_c (bk_ne hbk (i := j) (j := 31 + 8) (by omega) (by omega) (by omega)) la_n))))))).trans (hof j h1 h2)
          refine lv_aload_n hx hb dX4_sine_128 rfl (lv_at hl 1 rfl) ?_
          refine bk_g C i4 hw hbk 6 (by decide) (v := .ref (B 3)) rfl dX4_sine_129 lk33 ?_
          refine lv_bipush (v := nI 64) hx hb dX4_sine_132 (by decide) ?_
          refine sv_v (As := [.int (nI 64)]) (rest := []) C (v3_lower _ _ _ _ _ hS (B 3) 64 (bk_in hbk (i := 3) (by omega)) (by omega) (by omega)) (cwV 1 hts gX4_sine_X3_lower rfl rfl rfl (by decide +kernel) ⟨Nat.le_of_ble_eq_true rfl, Nat.le_of_ble_eq_true rfl⟩) hsz hw (bd_recv C hw (bk_in hbk (i := 3) (by omega))) dX4_sine_134 rfl hl.1 rfl (Nat.le_of_ble_eq_true rfl) ⟨Nat.le_refl _, Nat.le_refl _⟩ (fun z sg H locs hv9 hf9 hS hw => ?_)
          have fT9 : sg (B 3) = (sp_SIN (P + 64) (mu im * dk_p 64 + sp_PI (P + 64) / dk_p 1) / dk_p 64) := hv9.trans (by rw [f_3])
          have f_4 : sg (B 4) = (sp_PI (P + 64) / dk_p 1) := (hf9 (B 4) (bk_ne hbk (i := 4) (j := 3) (by omega) (by omega) (by omega))).trans f_4
          have f_3 := fT9
          have hof : ∀ j, (j = 0 ∨ 8 ≤ j) → j < 32 → sg (B j) = sg0 (B j) := fun j h1 h2 => (hf9 (B j) (bk_ne hbk (i := j) (j := 3) (by omega) (by omega) (by omega))).trans (hof j h1 h2)
          have hfi : fn_iv (P + 64) (bk_A B) sg := fn_ivm hfi (hf9 (bk_A B 1) (bk_ne hbk (i := 31 + 1) (j := 3) (by decide) (by decide) (by decide))) (hf9 (bk_A B 2) (bk_ne hbk (i := 31 + 2) (j := 3) (by decide) (by decide) (by decide))) (hf9 (bk_A B 3) (bk_ne hbk (i := 31 + 3) (j := 3) (by decide) (by decide) (by decide)))
          refine lv_aload_n hx hb dX4_sine_137 rfl (lv_at hl 1 rfl) ?_
          refine bk_g C i4 hw hbk 3 (by decide) (v := .ref (a 2)) rfl dX4_sine_138 lk23 ?_
          refine bl_gm C ib0 hw (bk_made hbk) dX4_sine_141 lk85 ?_
          refine lv_aload_n hx hb dX4_sine_144 rfl (lv_at hl 1 rfl) ?_
          refine bk_g C i4 hw hbk 6 (by decide) (v := .ref (B 3)) rfl dX4_sine_145 lk33 ?_
          refine sv_v (As := [.ref (B 3)]) (rest := []) C (v3_become_ _ _ _ _ _ hS (B 6) (B 3) (bk_in hbk (i := 6) (by omega)) (bk_in hbk (i := 3) (by omega))) (cwV 1 hts gX4_sine_X3_become_ rfl rfl rfl (by decide +kernel) ⟨Nat.le_of_ble_eq_true rfl, Nat.le_of_ble_eq_true rfl⟩) hsz hw (bd_recv C hw (bk_in hbk (i := 6) (by omega))) dX4_sine_148 rfl hl.1 rfl (Nat.le_of_ble_eq_true rfl) ⟨Nat.le_refl _, Nat.le_refl _⟩ (fun z sg H locs hv9 hf9 hS hw => ?_)
          have fT9 : sg (B 6) = (sp_SIN (P + 64) (mu im * dk_p 64 + sp_PI (P + 64) / dk_p 1) / dk_p 64) := hv9.trans (by exact f_3)
          have f_4 : sg (B 4) = (sp_PI (P + 64) / dk_p 1) := (hf9 (B 4) (bk_ne hbk (i := 4) (j := 6) (by omega) (by omega) (by omega))).trans f_4
          have f_3 : sg (B 3) = (sp_SIN (P + 64) (mu im * dk_p 64 + sp_PI (P + 64) / dk_p 1) / dk_p 64) := (hf9 (B 3) (bk_ne hbk (i := 3) (j := 6) (by omega) (by omega) (by omega))).trans f_3
          have f_6 := fT9
          have hof : ∀ j, (j = 0 ∨ 8 ≤ j) → j < 32 → sg (B j) = sg0 (B j) := fun j h1 h2 => (hf9 (B j) (bk_ne hbk (i := j) (j := 6) (by omega) (by omega) (by omega))).trans (hof j h1 h2)
          have hfi : fn_iv (P + 64) (bk_A B) sg := fn_ivm hfi (hf9 (bk_A B 1) (bk_ne hbk (i := 31 + 1) (j := 6) (by decide) (by decide) (by decide))) (hf9 (bk_A B 2) (bk_ne hbk (i := 31 + 2) (j := 6) (by decide) (by decide) (by decide))) (hf9 (bk_A B 3) (bk_ne hbk (i := 31 + 3) (j := 6) (by decide) (by decide) (by decide)))
          refine lv_aload_n hx hb dX4_sine_151 rfl (lv_at hl 1 rfl) ?_
          refine bk_g C i4 hw hbk 3 (by decide) (v := .ref (a 2)) rfl dX4_sine_152 lk23 ?_
          refine bl_gr C ib0 hw (bk_made hbk) dX4_sine_155 lk92 ?_
          refine lv_aload hx hb dX4_sine_158 (lv_at hl 0 rfl) ?_
          refine bl_gr C ib0 hw (bk_pl hbk (k := im) him) dX4_sine_160 lk92 ?_
          have fr_im : sg (B (20 + im)) = ra im := (hof (20 + im) (by omega) (by omega)).trans (hiv.2.2 im him).2.1
          refine sv_v (As := [.ref (B (20 + im))]) (rest := []) C (v3_become_ _ _ _ _ _ hS (B 7) (B (20 + im)) (bk_in hbk (i := 7) (by omega)) (bk_in hbk (i := (20 + im)) (by omega))) (cwV 1 hts gX4_sine_X3_become_ rfl rfl rfl (by decide +kernel) ⟨Nat.le_of_ble_eq_true rfl, Nat.le_of_ble_eq_true rfl⟩) hsz hw (bd_recv C hw (bk_in hbk (i := 7) (by omega))) dX4_sine_163 rfl hl.1 rfl (Nat.le_of_ble_eq_true rfl) ⟨Nat.le_refl _, Nat.le_refl _⟩ (fun z sg H locs hv9 hf9 hS hw => ?_)
          have fT9 : sg (B 7) = ra im := hv9.trans (by exact fr_im)
          have f_4 : sg (B 4) = (sp_PI (P + 64) / dk_p 1) := (hf9 (B 4) (bk_ne hbk (i := 4) (j := 7) (by omega) (by omega) (by omega))).trans f_4
          have f_3 : sg (B 3) = (sp_SIN (P + 64) (mu im * dk_p 64 + sp_PI (P + 64) / dk_p 1) / dk_p 64) := (hf9 (B 3) (bk_ne hbk (i := 3) (j := 7) (by omega) (by omega) (by omega))).trans f_3
          have f_6 : sg (B 6) = (sp_SIN (P + 64) (mu im * dk_p 64 + sp_PI (P + 64) / dk_p 1) / dk_p 64) := (hf9 (B 6) (bk_ne hbk (i := 6) (j := 7) (by omega) (by omega) (by omega))).trans f_6
          have f_7 := fT9
          have hof : ∀ j, (j = 0 ∨ 8 ≤ j) → j < 32 → sg (B j) = sg0 (B j) := fun j h1 h2 => (hf9 (B j) (bk_ne hbk (i := j) (j := 7) (by omega) (by omega) (by omega))).trans (hof j h1 h2)
          have hfi : fn_iv (P + 64) (bk_A B) sg := fn_ivm hfi (hf9 (bk_A B 1) (bk_ne hbk (i := 31 + 1) (j := 7) (by decide) (by decide) (by decide))) (hf9 (bk_A B 2) (bk_ne hbk (i := 31 + 2) (j := 7) (by decide) (by decide) (by decide))) (hf9 (bk_A B 3) (bk_ne hbk (i := 31 + 3) (j := 7) (by decide) (by decide) (by decide)))
          refine lv_aload_n hx hb dX4_sine_166 rfl (lv_at hl 1 rfl) ?_
          refine lv_aload_n hx hb dX4_sine_167 rfl (lv_at hl 1 rfl) ?_
          refine bk_g C i4 hw hbk 3 (by decide) (v := .ref (a 2)) rfl dX4_sine_168 lk23 ?_
          refine bl_gr C ib0 hw (bk_made hbk) dX4_sine_171 lk92 ?_
          refine lv_ldc2 (v := 2) hx hb hown (hts _ lk177) dX4_sine_174 ?_
          refine bd_cv (As := [.ref (B 7), .long 2]) (rest := []) C (c4_change _ _ _ _ _ hbk hS 7 2 (by decide) (by decide) (by rw [f_7]; exact (Nat.le_trans hbr_im (by decide +kernel)))) (cwV 2 hts gX4_sine_X4_change rfl rfl rfl (by decide +kernel) ⟨Nat.le_of_ble_eq_true rfl, Nat.le_of_ble_eq_true rfl⟩) hsz hw (bk_recv C hw hbk) dX4_sine_177 rfl hl.1 rfl (Nat.le_of_ble_eq_true rfl) ⟨Nat.le_refl _, Nat.le_refl _⟩ (fun E1 z H locs hp hw => ?_)
          obtain ⟨hE9, sg, hS, hv0_, hf9⟩ := hp
          rw [show E1 = E from hE9] at hw
          have fT0_ : sg (B 7) = (ra im + 2) := hv0_.trans (by rw [f_7]; rfl)
          have f_4 : sg (B 4) = (sp_PI (P + 64) / dk_p 1) := (hf9 (B 4) (bk_ne hbk (i := 4) (j := 7) (by omega) (by omega) (by omega)) (bk_ne hbk (i := 4) (j := 5) (by omega) (by omega) (by omega))).trans f_4
          have f_3 : sg (B 3) = (sp_SIN (P + 64) (mu im * dk_p 64 + sp_PI (P + 64) / dk_p 1) / dk_p 64) := (hf9 (B 3) (bk_ne hbk (i := 3) (j := 7) (by omega) (by omega) (by omega)) (bk_ne hbk (i := 3) (j := 5) (by omega) (by omega) (by omega))).trans f_3
          have f_6 : sg (B 6) = (sp_SIN (P + 64) (mu im * dk_p 64 + sp_PI (P + 64) / dk_p 1) / dk_p 64) := (hf9 (B 6) (bk_ne hbk (i := 6) (j := 7) (by omega) (by omega) (by omega)) (bk_ne hbk (i := 6) (j := 5) (by omega) (by omega) (by omega))).trans f_6
          have f_7 := fT0_
          have hof : ∀ j, (j = 0 ∨ 8 ≤ j) → j < 32 → sg (B j) = sg0 (B j) := fun j h1 h2 => (hf9 (B j) (bk_ne hbk (i := j) (j := 7) (by omega) (by omega) (by omega)) (bk_ne hbk (i := j) (j := 5) (by omega) (by omega) (by omega))).trans (hof j h1 h2)
          have hfi : fn_iv (P + 64) (bk_A B) sg := fn_ivm hfi (hf9 (bk_A B 1) (bk_ne hbk (i := 31 + 1) (j := 7) (by decide) (by decide) (by decide)) (bk_ne hbk (i := 31 + 1) (j := 5) (by decide) (by decide) (by decide))) (hf9 (bk_A B 2) (bk_ne hbk (i := 31 + 2) (j := 7) (by decide) (by decide) (by decide)) (bk_ne hbk (i := 31 + 2) (j := 5) (by decide) (by decide) (by decide))) (hf9 (bk_A B 3) (bk_ne hbk (i := 31 + 3) (j := 7) (by decide) (by decide) (by decide)) (bk_ne hbk (i := 31 + 3) (j := 5) (by decide) (by decide) (by decide)))
          refine lv_aload_n hx hb dX4_sine_180 rfl (lv_at hl 1 rfl) ?_
          refine lv_iload_n hx hb dX4_sine_181 rfl (lv_at hl 2 rfl) ?_
          refine bd_ci (As := [.int (nI kn)]) (rest := []) C (c4_keep _ _ _ _ _ hbk hS (bk_ivm hiv hof hfi) kn hkn) (cwV 1 hts gX4_sine_X4_keep rfl rfl rfl (by decide +kernel) ⟨Nat.le_of_ble_eq_true rfl, Nat.le_of_ble_eq_true rfl⟩) hsz hw (bk_recv C hw hbk) dX4_sine_182 rfl hl.1 rfl (Nat.le_of_ble_eq_true rfl) ⟨Nat.le_refl _, Nat.le_refl _⟩ (fun r9 E9 z H locs hp hw => ?_)
          rw [f_6, f_7] at hp
          exact bd_iret C hr hlk hw dX4_sine_185 (by rw [hd]; exact hp)
      · have hq50 := Int.not_le.mp (fun q => hc50 (q3_le.mpr q))
        have hle : ¬ (mu im).natAbs ≤ 2 ^ (P + 20) := by omega
        refine lv_iconst (v := (-1)) hx hb dX4_sine_53 (by decide) ?_
        have hd9 : dk_sine P (nI kn) (nI im) co mu ra = (-1, mu, ra) := if_neg (fun q => hle (by have h9 := q.2; rw [hx_im] at h9; exact h9))
        exact bd_iret C hr hlk hw dX4_sine_54 (by rw [hd9]; exact ⟨rfl, hbk, sg, hS, bk_ivm hiv hof hfi⟩)
    · have hno := pl_f hc11
      refine lv_iconst (v := (-1)) hx hb dX4_sine_14 (by decide) ?_
      have hd9 : dk_sine P (nI kn) i co mu ra = (-1, mu, ra) := if_neg (fun q => hno q.1.2)
      exact bd_iret C hr hlk hw dX4_sine_15 (by rw [hd9]; exact ⟨rfl, hbk, sg0, hS, bk_ivm hiv hof hfi⟩)
set_option maxHeartbeats 4000000 in
set_option maxRecDepth 100000 in
/-- BallDesk.join -/
theorem c4_join (l : Launch) (K : Cxt) (E0 : Nat → va_E) (z0 : Nat → Wh) (sz : Nat) {P : Nat} {a B : Nat → Nat} (hbk : bk_at K E0 P a B) {sg0 : Nat → Int} (hS : sg_S K z0 sg0) {mu ra : Nat → Int} (hiv : bk_iv P B sg0 mu ra) (k i j : Int32)  : Met l yX4_join wsX4_join ({ frames := 7, cells := 0, slots := 0, locals := 240 }) (va_Pc [.ref (a 0), .int k, .int i, .int j] (bd_P K E0 z0 sz)) (va_Qi (bk_post K P a B (dk_join P k i j mu ra)) (bd_B K) (bd_A K sz)) 0 0 (bd_A K sz) := by
  refine bd_ofW (cc := cX4_join) (maxL := 4) (ret := (some .int)) (by decide) rfl (Nat.le_of_ble_eq_true rfl) ?_
  intro p e s m below meth c ls C hr hlk hsz hw hl
  have hx := C.1
  have hb := C.2.1
  have hown := C.2.2.2.1
  have hts := C.2.2.2.2.1
  have i4 : ∀ w ∈ wsX40, w ∈ wsX4_join := by decide +kernel
  have lk18 : Cond.fieldLink RX4 18 "BallDesk" "places" "[LBallDesk$Ball;" ∈ wsX4_join := by decide +kernel
  have lk33 : Cond.fieldLink RX4 33 "BallDesk" "left" "LBallDesk$Whole;" ∈ wsX4_join := by decide +kernel
  have lk27 : Cond.fieldLink RX4 27 "BallDesk" "low" "LBallDesk$Whole;" ∈ wsX4_join := by decide +kernel
  have lk36 : Cond.fieldLink RX4 36 "BallDesk" "right" "LBallDesk$Whole;" ∈ wsX4_join := by decide +kernel
  have lk30 : Cond.fieldLink RX4 30 "BallDesk" "high" "LBallDesk$Whole;" ∈ wsX4_join := by decide +kernel
  obtain ⟨hP1, hP2⟩ := bk_P hbk
  have hl : lv_has ls 4 [(0, .ref (a 0)), (1, .int k), (2, .int i), (3, .int j)] := hl
  have hof : ∀ j, (j = 0 ∨ 8 ≤ j) → j < 32 → sg0 (B j) = sg0 (B j) := fun _ _ _ => rfl
  have hfi := hiv.2.1
  refine lv_iload_n hx hb dX4_join_0 rfl (lv_at hl 1 rfl) ?_
  refine bd_sip (As := [.int k]) (rest := []) C (c4_isPlace _ _ _ _ _ k) (va_cwS 1 hts gX4_join_X4_isPlace rfl rfl rfl (by decide +kernel) ⟨Nat.le_of_ble_eq_true rfl, Nat.le_of_ble_eq_true rfl⟩) hsz hw dX4_join_1 rfl hl.1 rfl (Nat.le_of_ble_eq_true rfl) ⟨Nat.le_refl _, Nat.le_refl _⟩ (fun H locs hw => ?_)
  refine lv_if_eq (tgt := 21) hx hb dX4_join_4 (by decide) (fun hc4 => ?_) (fun hc4 => ?_)
  · have hno := pl_f hc4
    refine lv_iconst (v := (-1)) hx hb dX4_join_21 (by decide) ?_
    have hd9 : dk_join P k i j mu ra = (-1, mu, ra) := if_neg (fun q => hno q.1)
    exact bd_iret C hr hlk hw dX4_join_22 (by rw [hd9]; exact ⟨rfl, hbk, sg0, hS, bk_ivm hiv hof hfi⟩)
  · have hpl_kn := pl_t hc4
    obtain ⟨kn, hkn, hk_kn, hx_kn⟩ := pl_x hpl_kn
    subst hk_kn
    refine lv_iload_n hx hb dX4_join_7 rfl (lv_at hl 2 rfl) ?_
    refine bd_sip (As := [.int i]) (rest := []) C (c4_isPlace _ _ _ _ _ i) (va_cwS 1 hts gX4_join_X4_isPlace rfl rfl rfl (by decide +kernel) ⟨Nat.le_of_ble_eq_true rfl, Nat.le_of_ble_eq_true rfl⟩) hsz hw dX4_join_8 rfl hl.1 rfl (Nat.le_of_ble_eq_true rfl) ⟨Nat.le_refl _, Nat.le_refl _⟩ (fun H locs hw => ?_)
    refine lv_if_eq (tgt := 21) hx hb dX4_join_11 (by decide) (fun hc11 => ?_) (fun hc11 => ?_)
    · have hno := pl_f hc11
      refine lv_iconst (v := (-1)) hx hb dX4_join_21 (by decide) ?_
      have hd9 : dk_join P (nI kn) i j mu ra = (-1, mu, ra) := if_neg (fun q => hno q.2.1)
      exact bd_iret C hr hlk hw dX4_join_22 (by rw [hd9]; exact ⟨rfl, hbk, sg0, hS, bk_ivm hiv hof hfi⟩)
    · have hpl_im := pl_t hc11
      obtain ⟨im, him, hk_im, hx_im⟩ := pl_x hpl_im
      subst hk_im
      refine lv_iload_n hx hb dX4_join_14 rfl (lv_at hl 3 rfl) ?_
      refine bd_sip (As := [.int j]) (rest := []) C (c4_isPlace _ _ _ _ _ j) (va_cwS 1 hts gX4_join_X4_isPlace rfl rfl rfl (by decide +kernel) ⟨Nat.le_of_ble_eq_true rfl, Nat.le_of_ble_eq_true rfl⟩) hsz hw dX4_join_15 rfl hl.1 rfl (Nat.le_of_ble_eq_true rfl) ⟨Nat.le_refl _, Nat.le_refl _⟩ (fun H locs hw => ?_)
      refine lv_if_ne (tgt := 23) hx hb dX4_join_18 (by decide) (fun hc18 => ?_) (fun hc18 => ?_)
      · have hpl_jm := pl_t hc18
        obtain ⟨jm, hjm, hk_jm, hx_jm⟩ := pl_x hpl_jm
        subst hk_jm
        obtain ⟨hbm_im, hb0_im, hbr_im⟩ := bk_b hP2 hiv him
        obtain ⟨hbm_jm, hb0_jm, hbr_jm⟩ := bk_b hP2 hiv hjm
        obtain ⟨he1, he2⟩ := e_b hbm_im hbr_im
        obtain ⟨hf1, hf2⟩ := e_b hbm_jm hbr_jm
        refine lv_aload_n hx hb dX4_join_23 rfl (lv_at hl 0 rfl) ?_
        refine lv_aload_n hx hb dX4_join_24 rfl (lv_at hl 0 rfl) ?_
        refine bk_g C i4 hw hbk 2 (by decide) (v := .ref (a 1)) rfl dX4_join_25 lk18 ?_
        refine lv_iload_n hx hb dX4_join_28 rfl (lv_at hl 2 rfl) ?_
        refine bk_ald C hw hbk him dX4_join_29 ?_
        have fm_im : sg0 (B (8 + im)) = mu im := (hof (8 + im) (by omega) (by omega)).trans (hiv.2.2 im him).1
        have fr_im : sg0 (B (20 + im)) = ra im := (hof (20 + im) (by omega) (by omega)).trans (hiv.2.2 im him).2.1
        refine bd_cv (As := [.ref (a (3 + im))]) (rest := []) C (c4_findEnds _ _ _ _ _ hbk hS im him (by rw [fm_im, fr_im]; exact (Nat.lt_of_le_of_lt (Nat.add_le_add hbm_im hbr_im) (by decide +kernel)))) (cwV 1 hts gX4_join_X4_findEnds rfl rfl rfl (by decide +kernel) ⟨Nat.le_of_ble_eq_true rfl, Nat.le_of_ble_eq_true rfl⟩) hsz hw (bk_recv C hw hbk) dX4_join_30 rfl hl.1 rfl (Nat.le_of_ble_eq_true rfl) ⟨Nat.le_refl _, Nat.le_refl _⟩ (fun E1 z H locs hp hw => ?_)
        obtain ⟨hE9, sg, hS, hv0_, hv1_, hf9⟩ := hp
        rw [show E1 = E0 from hE9] at hw
        have fT0_ : sg (B 1) = (mu im - ra im) := hv0_.trans (by rw [fm_im, fr_im])
        have fT1_ : sg (B 2) = (mu im + ra im) := hv1_.trans (by rw [fm_im, fr_im])
        have f_1 := fT0_
        have f_2 := fT1_
        have hof : ∀ j, (j = 0 ∨ 8 ≤ j) → j < 32 → sg (B j) = sg0 (B j) := fun j h1 h2 => (hf9 (B j) (bk_ne hbk (i := j) (j := 1) (by omega) (by omega) (by omega)) (bk_ne hbk (i := j) (j := 2) (by omega) (by omega) (by omega))).trans (hof j h1 h2)
        have hfi : fn_iv (P + 64) (bk_A B) sg := fn_ivm hfi (hf9 (bk_A B 1) (bk_ne hbk (i := 31 + 1) (j := 1) (by decide) (by decide) (by decide)) (bk_ne hbk (i := 31 + 1) (j := 2) (by decide) (by decide) (by decide))) (hf9 (bk_A B 2) (bk_ne hbk (i := 31 + 2) (j := 1) (by decide) (by decide) (by decide)) (bk_ne hbk (i := 31 + 2) (j := 2) (by decide) (by decide) (by decide))) (hf9 (bk_A B 3) (bk_ne hbk (i := 31 + 3) (j := 1) (by decide) (by decide) (by decide)) (bk_ne hbk (i := 31 + 3) (j := 2) (by decide) (by decide) (by decide)))
        refine lv_aload_n hx hb dX4_join_33 rfl (lv_at hl 0 rfl) ?_
        refine lv_aload_n hx hb dX4_join_34 rfl (lv_at hl 0 rfl) ?_
        refine bk_g C i4 hw hbk 2 (by decide) (v := .ref (a 1)) rfl dX4_join_35 lk18 ?_
        refine lv_iload_n hx hb dX4_join_38 rfl (lv_at hl 3 rfl) ?_
        refine bk_ald C hw hbk hjm dX4_join_39 ?_
        have fm_jm : sg (B (8 + jm)) = mu jm := (hof (8 + jm) (by omega) (by omega)).trans (hiv.2.2 jm hjm).1
        have fr_jm : sg (B (20 + jm)) = ra jm := (hof (20 + jm) (by omega) (by omega)).trans (hiv.2.2 jm hjm).2.1
        refine bd_cv (As := [.ref (a (3 + jm))]) (rest := []) C (c4_findOtherEnds _ _ _ _ _ hbk hS jm hjm (by rw [fm_jm, fr_jm]; exact (Nat.lt_of_le_of_lt (Nat.add_le_add hbm_jm hbr_jm) (by decide +kernel)))) (cwV 1 hts gX4_join_X4_findOtherEnds rfl rfl rfl (by decide +kernel) ⟨Nat.le_of_ble_eq_true rfl, Nat.le_of_ble_eq_true rfl⟩) hsz hw (bk_recv C hw hbk) dX4_join_40 rfl hl.1 rfl (Nat.le_of_ble_eq_true rfl) ⟨Nat.le_refl _, Nat.le_refl _⟩ (fun E1 z H locs hp hw => ?_)
        obtain ⟨hE9, sg, hS, hv0_, hv1_, hf9⟩ := hp
        rw [show E1 = E0 from hE9] at hw
        have fT0_ : sg (B 3) = (mu jm - ra jm) := hv0_.trans (by rw [fm_jm, fr_jm])
        have fT1_ : sg (B 4) = (mu jm + ra jm) := hv1_.trans (by rw [fm_jm, fr_jm])
        have f_1 : sg (B 1) = (mu im - ra im) := (hf9 (B 1) (bk_ne hbk (i := 1) (j := 3) (by omega) (by omega) (by omega)) (bk_ne hbk (i := 1) (j := 4) (by omega) (by omega) (by omega))).trans f_1
        have f_2 : sg (B 2) = (mu im + ra im) := (hf9 (B 2) (bk_ne hbk (i := 2) (j := 3) (by omega) (by omega) (by omega)) (bk_ne hbk (i := 2) (j := 4) (by omega) (by omega) (by omega))).trans f_2
        have f_3 := fT0_
        have f_4 := fT1_
        have hof : ∀ j, (j = 0 ∨ 8 ≤ j) → j < 32 → sg (B j) = sg0 (B j) := fun j h1 h2 => (hf9 (B j) (bk_ne hbk (i := j) (j := 3) (by omega) (by omega) (by omega)) (bk_ne hbk (i := j) (j := 4) (by omega) (by omega) (by omega))).trans (hof j h1 h2)
        have hfi : fn_iv (P + 64) (bk_A B) sg := fn_ivm hfi (hf9 (bk_A B 1) (bk_ne hbk (i := 31 + 1) (j := 3) (by decide) (by decide) (by decide)) (bk_ne hbk (i := 31 + 1) (j := 4) (by decide) (by decide) (by decide))) (hf9 (bk_A B 2) (bk_ne hbk (i := 31 + 2) (j := 3) (by decide) (by decide) (by decide)) (bk_ne hbk (i := 31 + 2) (j := 4) (by decide) (by decide) (by decide))) (hf9 (bk_A B 3) (bk_ne hbk (i := 31 + 3) (j := 3) (by decide) (by decide) (by decide)) (bk_ne hbk (i := 31 + 3) (j := 4) (by decide) (by decide) (by decide)))
        refine lv_aload_n hx hb dX4_join_43 rfl (lv_at hl 0 rfl) ?_
        refine bk_g C i4 hw hbk 6 (by decide) (v := .ref (B 3)) rfl dX4_join_44 lk33 ?_
        refine lv_aload_n hx hb dX4_join_47 rfl (lv_at hl 0 rfl) ?_
        refine bk_g C i4 hw hbk 4 (by decide) (v := .ref (B 1)) rfl dX4_join_48 lk27 ?_
        refine bd_cip (As := [.ref (B 1)]) (rest := []) C (v3_order _ _ _ _ _ hS (B 3) (B 1) (bk_in hbk (i := 3) (by omega)) (bk_in hbk (i := 1) (by omega))) (cwV 1 hts gX4_join_X3_order rfl rfl rfl (by decide +kernel) ⟨Nat.le_of_ble_eq_true rfl, Nat.le_of_ble_eq_true rfl⟩) hsz hw (bd_recv C hw (bk_in hbk (i := 3) (by omega))) dX4_join_51 rfl hl.1 rfl (Nat.le_of_ble_eq_true rfl) ⟨Nat.le_refl _, Nat.le_refl _⟩ (fun H locs hw => ?_)
        rw [f_3, f_1]
        refine lv_if_ge (tgt := 68) hx hb dX4_join_54 (by decide) (fun hc54 => ?_) (fun hc54 => ?_)
        · have hq54 := q3_ge.mp hc54
          refine lv_aload_n hx hb dX4_join_68 rfl (lv_at hl 0 rfl) ?_
          refine bk_g C i4 hw hbk 7 (by decide) (v := .ref (B 4)) rfl dX4_join_69 lk36 ?_
          refine lv_aload_n hx hb dX4_join_72 rfl (lv_at hl 0 rfl) ?_
          refine bk_g C i4 hw hbk 5 (by decide) (v := .ref (B 2)) rfl dX4_join_73 lk30 ?_
          refine bd_cip (As := [.ref (B 2)]) (rest := []) C (v3_order _ _ _ _ _ hS (B 4) (B 2) (bk_in hbk (i := 4) (by omega)) (bk_in hbk (i := 2) (by omega))) (cwV 1 hts gX4_join_X3_order rfl rfl rfl (by decide +kernel) ⟨Nat.le_of_ble_eq_true rfl, Nat.le_of_ble_eq_true rfl⟩) hsz hw (bd_recv C hw (bk_in hbk (i := 4) (by omega))) dX4_join_76 rfl hl.1 rfl (Nat.le_of_ble_eq_true rfl) ⟨Nat.le_refl _, Nat.le_refl _⟩ (fun H locs hw => ?_)
          rw [f_4, f_2]
          refine lv_if_le (tgt := 93) hx hb dX4_join_79 (by decide) (fun hc79 => ?_) (fun hc79 => ?_)
          · have hq79 := q3_le.mp hc79
            refine lv_aload_n hx hb dX4_join_93 rfl (lv_at hl 0 rfl) ?_
            refine lv_iload_n hx hb dX4_join_94 rfl (lv_at hl 1 rfl) ?_
            have hd : dk_join P (nI kn) (nI im) (nI jm) mu ra = dk_ends P kn (mu im - ra im) (mu im + ra im) mu ra := by unfold dk_join; rw [if_pos ⟨hpl_kn, hpl_im, hpl_jm⟩, hx_kn, hx_im, hx_jm, if_neg (Int.not_lt.mpr hq54), if_neg (Int.not_lt.mpr hq79)]
            refine bd_ci (As := [.int (nI kn)]) (rest := []) C (c4_keepEnds _ _ _ _ _ hbk hS (bk_ivm hiv hof hfi) kn hkn (by rw [f_1]; exact (Nat.le_trans he1 (by decide +kernel))) (by rw [f_2]; exact (Nat.le_trans he2 (by decide +kernel)))) (cwV 1 hts gX4_join_X4_keepEnds rfl rfl rfl (by decide +kernel) ⟨Nat.le_of_ble_eq_true rfl, Nat.le_of_ble_eq_true rfl⟩) hsz hw (bk_recv C hw hbk) dX4_join_95 rfl hl.1 rfl (Nat.le_of_ble_eq_true rfl) ⟨Nat.le_refl _, Nat.le_refl _⟩ (fun r9 E9 z H locs hp hw => ?_)
            rw [f_1, f_2] at hp
            exact bd_iret C hr hlk hw dX4_join_98 (by rw [hd]; exact hp)
          · have hq79 := Int.not_le.mp (fun q => hc79 (q3_le.mpr q))
            refine lv_aload_n hx hb dX4_join_82 rfl (lv_at hl 0 rfl) ?_
            refine bk_g C i4 hw hbk 5 (by decide) (v := .ref (B 2)) rfl dX4_join_83 lk30 ?_
            refine lv_aload_n hx hb dX4_join_86 rfl (lv_at hl 0 rfl) ?_
            refine bk_g C i4 hw hbk 7 (by decide) (v := .ref (B 4)) rfl dX4_join_87 lk36 ?_
            refine sv_v (As := [.ref (B 4)]) (rest := []) C (v3_become_ _ _ _ _ _ hS (B 2) (B 4) (bk_in hbk (i := 2) (by omega)) (bk_in hbk (i := 4) (by omega))) (cwV 1 hts gX4_join_X3_become_ rfl rfl rfl (by decide +kernel) ⟨Nat.le_of_ble_eq_true rfl, Nat.le_of_ble_eq_true rfl⟩) hsz hw (bd_recv C hw (bk_in hbk (i := 2) (by omega))) dX4_join_90 rfl hl.1 rfl (Nat.le_of_ble_eq_true rfl) ⟨Nat.le_refl _, Nat.le_refl _⟩ (fun z sg H locs hv9 hf9 hS hw => ?_)
            have fT9 : sg (B 2) = (mu jm + ra jm) := hv9.trans (by exact f_4)
            have f_1 : sg (B 1) = (mu im - ra im) := (hf9 (B 1) (bk_ne hbk (i := 1) (j := 2) (by omega) (by omega) (by omega))).trans f_1
            have f_3 : sg (B 3) = (mu jm - ra jm) := (hf9 (B 3) (bk_ne hbk (i := 3) (j := 2) (by omega) (by omega) (by omega))).trans f_3
            have f_4 : sg (B 4) = (mu jm + ra jm) := (hf9 (B 4) (bk_ne hbk (i := 4) (j := 2) (by omega) (by omega) (by omega))).trans f_4
            have f_2 := fT9
            have hof : ∀ j, (j = 0 ∨ 8 ≤ j) → j < 32 → sg (B j) = sg0 (B j) := fun j h1 h2 => (hf9 (B j) (bk_ne hbk (i := j) (j := 2) (by omega) (by omega) (by omega))).trans (hof j h1 h2)
            have hfi : fn_iv (P + 64) (bk_A B) sg := fn_ivm hfi (hf9 (bk_A B 1) (bk_ne hbk (i := 31 + 1) (j := 2) (by decide) (by decide) (by decide))) (hf9 (bk_A B 2) (bk_ne hbk (i := 31 + 2) (j := 2) (by decide) (by decide) (by decide))) (hf9 (bk_A B 3) (bk_ne hbk (i := 31 + 3) (j := 2) (by decide) (by decide) (by decide)))
            refine lv_aload_n hx hb dX4_join_93 rfl (lv_at hl 0 rfl) ?_
            refine lv_iload_n hx hb dX4_join_94 rfl (lv_at hl 1 rfl) ?_
            have hd : dk_join P (nI kn) (nI im) (nI jm) mu ra = dk_ends P kn (mu im - ra im) (mu jm + ra jm) mu ra := by unfold dk_join; rw [if_pos ⟨hpl_kn, hpl_im, hpl_jm⟩, hx_kn, hx_im, hx_jm, if_neg (Int.not_lt.mpr hq54), if_pos hq79]
            refine bd_ci (As := [.int (nI kn)]) (rest := []) C (c4_keepEnds _ _ _ _ _ hbk hS (bk_ivm hiv hof hfi) kn hkn (by rw [f_1]; exact (Nat.le_trans he1 (by decide +kernel))) (by rw [f_2]; exact (Nat.le_trans hf2 (by decide +kernel)))) (cwV 1 hts gX4_join_X4_keepEnds rfl rfl rfl (by decide +kernel) ⟨Nat.le_of_ble_eq_true rfl, Nat.le_of_ble_eq_true rfl⟩) hsz hw (bk_recv C hw hbk) dX4_join_95 rfl hl.1 rfl (Nat.le_of_ble_eq_true rfl) ⟨Nat.le_refl _, Nat.le_refl _⟩ (fun r9 E9 z H locs hp hw => ?_)
            rw [f_1, f_2] at hp
            exact bd_iret C hr hlk hw dX4_join_98 (by rw [hd]; exact hp)
        · have hq54 := Int.not_le.mp (fun q => hc54 (q3_ge.mpr q))
          refine lv_aload_n hx hb dX4_join_57 rfl (lv_at hl 0 rfl) ?_
          refine bk_g C i4 hw hbk 4 (by decide) (v := .ref (B 1)) rfl dX4_join_58 lk27 ?_
          refine lv_aload_n hx hb dX4_join_61 rfl (lv_at hl 0 rfl) ?_
          refine bk_g C i4 hw hbk 6 (by decide) (v := .ref (B 3)) rfl dX4_join_62 lk33 ?_
          refine sv_v (As := [.ref (B 3)]) (rest := []) C (v3_become_ _ _ _ _ _ hS (B 1) (B 3) (bk_in hbk (i := 1) (by omega)) (bk_in hbk (i := 3) (by omega))) (cwV 1 hts gX4_join_X3_become_ rfl rfl rfl (by decide +kernel) ⟨Nat.le_of_ble_eq_true rfl, Nat.le_of_ble_eq_true rfl⟩) hsz hw (bd_recv C hw (bk_in hbk (i := 1) (by omega))) dX4_join_65 rfl hl.1 rfl (Nat.le_of_ble_eq_true rfl) ⟨Nat.le_refl _, Nat.le_refl _⟩ (fun z sg H locs hv9 hf9 hS hw => ?_)
          have fT9 : sg (B 1) = (mu jm - ra jm) := hv9.trans (by exact f_3)
          have f_2 : sg (B 2) = (mu im + ra im) := (hf9 (B 2) (bk_ne hbk (i := 2) (j := 1) (by omega) (by omega) (by omega))).trans f_2
          have f_3 : sg (B 3) = (mu jm - ra jm) := (hf9 (B 3) (bk_ne hbk (i := 3) (j := 1) (by omega) (by omega) (by omega))).trans f_3
          have f_4 : sg (B 4) = (mu jm + ra jm) := (hf9 (B 4) (bk_ne hbk (i := 4) (j := 1) (by omega) (by omega) (by omega))).trans f_4
          have f_1 := fT9
          have hof : ∀ j, (j = 0 ∨ 8 ≤ j) → j < 32 → sg (B j) = sg0 (B j) := fun j h1 h2 => (hf9 (B j) (bk_ne hbk (i := j) (j := 1) (by omega) (by omega) (by omega))).trans (hof j h1 h2)
          have hfi : fn_iv (P + 64) (bk_A B) sg := fn_ivm hfi (hf9 (bk_A B 1) (bk_ne hbk (i := 31 + 1) (j := 1) (by decide) (by decide) (by decide))) (hf9 (bk_A B 2) (bk_ne hbk (i := 31 + 2) (j := 1) (by decide) (by decide) (by decide))) (hf9 (bk_A B 3) (bk_ne hbk (i := 31 + 3) (j := 1) (by decide) (by decide) (by decide)))
          refine lv_aload_n hx hb dX4_join_68 rfl (lv_at hl 0 rfl) ?_
          refine bk_g C i4 hw hbk 7 (by decide) (v := .ref (B 4)) rfl dX4_join_69 lk36 ?_
          refine lv_aload_n hx hb dX4_join_72 rfl (lv_at hl 0 rfl) ?_
          refine bk_g C i4 hw hbk 5 (by decide) (v := .ref (B 2)) rfl dX4_join_73 lk30 ?_
          refine bd_cip (As := [.ref (B 2)]) (rest := []) C (v3_order _ _ _ _ _ hS (B 4) (B 2) (bk_in hbk (i := 4) (by omega)) (bk_in hbk (i := 2) (by omega))) (cwV 1 hts gX4_join_X3_order rfl rfl rfl (by decide +kernel) ⟨Nat.le_of_ble_eq_true rfl, Nat.le_of_ble_eq_true rfl⟩) hsz hw (bd_recv C hw (bk_in hbk (i := 4) (by omega))) dX4_join_76 rfl hl.1 rfl (Nat.le_of_ble_eq_true rfl) ⟨Nat.le_refl _, Nat.le_refl _⟩ (fun H locs hw => ?_)
          rw [f_4, f_2]
          refine lv_if_le (tgt := 93) hx hb dX4_join_79 (by decide) (fun hc79 => ?_) (fun hc79 => ?_)
          · have hq79 := q3_le.mp hc79
            refine lv_aload_n hx hb dX4_join_93 rfl (lv_at hl 0 rfl) ?_
            refine lv_iload_n hx hb dX4_join_94 rfl (lv_at hl 1 rfl) ?_
            have hd : dk_join P (nI kn) (nI im) (nI jm) mu ra = dk_ends P kn (mu jm - ra jm) (mu im + ra im) mu ra := by unfold dk_join; rw [if_pos ⟨hpl_kn, hpl_im, hpl_jm⟩, hx_kn, hx_im, hx_jm, if_pos hq54, if_neg (Int.not_lt.mpr hq79)]
            refine bd_ci (As := [.int (nI kn)]) (rest := []) C (c4_keepEnds _ _ _ _ _ hbk hS (bk_ivm hiv hof hfi) kn hkn (by rw [f_1]; exact (Nat.le_trans hf1 (by decide +kernel))) (by rw [f_2]; exact (Nat.le_trans he2 (by decide +kernel)))) (cwV 1 hts gX4_join_X4_keepEnds rfl rfl rfl (by decide +kernel) ⟨Nat.le_of_ble_eq_true rfl, Nat.le_of_ble_eq_true rfl⟩) hsz hw (bk_recv C hw hbk) dX4_join_95 rfl hl.1 rfl (Nat.le_of_ble_eq_true rfl) ⟨Nat.le_refl _, Nat.le_refl _⟩ (fun r9 E9 z H locs hp hw => ?_)
            rw [f_1, f_2] at hp
            exact bd_iret C hr hlk hw dX4_join_98 (by rw [hd]; exact hp)
          · have hq79 := Int.not_le.mp (fun q => hc79 (q3_le.mpr q))
            refine lv_aload_n hx hb dX4_join_82 rfl (lv_at hl 0 rfl) ?_
            refine bk_g C i4 hw hbk 5 (by decide) (v := .ref (B 2)) rfl dX4_join_83 lk30 ?_
            refine lv_aload_n hx hb dX4_join_86 rfl (lv_at hl 0 rfl) ?_
            refine bk_g C i4 hw hbk 7 (by decide) (v := .ref (B 4)) rfl dX4_join_87 lk36 ?_
            refine sv_v (As := [.ref (B 4)]) (rest := []) C (v3_become_ _ _ _ _ _ hS (B 2) (B 4) (bk_in hbk (i := 2) (by omega)) (bk_in hbk (i := 4) (by omega))) (cwV 1 hts gX4_join_X3_become_ rfl rfl rfl (by decide +kernel) ⟨Nat.le_of_ble_eq_true rfl, Nat.le_of_ble_eq_true rfl⟩) hsz hw (bd_recv C hw (bk_in hbk (i := 2) (by omega))) dX4_join_90 rfl hl.1 rfl (Nat.le_of_ble_eq_true rfl) ⟨Nat.le_refl _, Nat.le_refl _⟩ (fun z sg H locs hv9 hf9 hS hw => ?_)
            have fT9 : sg (B 2) = (mu jm + ra jm) := hv9.trans (by exact f_4)
            have f_1 : sg (B 1) = (mu jm - ra jm) := (hf9 (B 1) (bk_ne hbk (i := 1) (j := 2) (by omega) (by omega) (by omega))).trans f_1
            have f_3 : sg (B 3) = (mu jm - ra jm) := (hf9 (B 3) (bk_ne hbk (i := 3) (j := 2) (by omega) (by omega) (by omega))).trans f_3
            have f_4 : sg (B 4) = (mu jm + ra jm) := (hf9 (B 4) (bk_ne hbk (i := 4) (j := 2) (by omega) (by omega) (by omega))).trans f_4
            have f_2 := fT9
            have hof : ∀ j, (j = 0 ∨ 8 ≤ j) → j < 32 → sg (B j) = sg0 (B j) := fun j h1 h2 => (hf9 (B j) (bk_ne hbk (i := j) (j := 2) (by omega) (by omega) (by omega))).trans (hof j h1 h2)
            have hfi : fn_iv (P + 64) (bk_A B) sg := fn_ivm hfi (hf9 (bk_A B 1) (bk_ne hbk (i := 31 + 1) (j := 2) (by decide) (by decide) (by decide))) (hf9 (bk_A B 2) (bk_ne hbk (i := 31 + 2) (j := 2) (by decide) (by decide) (by decide))) (hf9 (bk_A B 3) (bk_ne hbk (i := 31 + 3) (j := 2) (by decide) (by decide) (by decide)))
            refine lv_aload_n hx hb dX4_join_93 rfl (lv_at hl 0 rfl) ?_
            refine lv_iload_n hx hb dX4_join_94 rfl (lv_at hl 1 rfl) ?_
            have hd : dk_join P (nI kn) (nI im) (nI jm) mu ra = dk_ends P kn (mu jm - ra jm) (mu jm + ra jm) mu ra := by unfold dk_join; rw [if_pos ⟨hpl_kn, hpl_im, hpl_jm⟩, hx_kn, hx_im, hx_jm, if_pos hq54, if_pos hq79]
            refine bd_ci (As := [.int (nI kn)]) (rest := []) C (c4_keepEnds _ _ _ _ _ hbk hS (bk_ivm hiv hof hfi) kn hkn (by rw [f_1]; exact (Nat.le_trans hf1 (by decide +kernel))) (by rw [f_2]; exact (Nat.le_trans hf2 (by decide +kernel)))) (cwV 1 hts gX4_join_X4_keepEnds rfl rfl rfl (by decide +kernel) ⟨Nat.le_of_ble_eq_true rfl, Nat.le_of_ble_eq_true rfl⟩) hsz hw (bk_recv C hw hbk) dX4_join_95 rfl hl.1 rfl (Nat.le_of_ble_eq_true rfl) ⟨Nat.le_refl _, Nat.le_refl _⟩ (fun r9 E9 z H locs hp hw => ?_)
            rw [f_1, f_2] at hp
            exact bd_iret C hr hlk hw dX4_join_98 (by rw [hd]; exact hp)
      · have hno := pl_f hc18
        refine lv_iconst (v := (-1)) hx hb dX4_join_21 (by decide) ?_
        have hd9 : dk_join P (nI kn) (nI im) j mu ra = (-1, mu, ra) := if_neg (fun q => hno q.2.2)
        exact bd_iret C hr hlk hw dX4_join_22 (by rw [hd9]; exact ⟨rfl, hbk, sg0, hS, bk_ivm hiv hof hfi⟩)
set_option maxHeartbeats 4000000 in
set_option maxRecDepth 100000 in
/-- BallDesk.lies -/
theorem c4_lies (l : Launch) (K : Cxt) (E0 : Nat → va_E) (z0 : Nat → Wh) (sz : Nat) {P : Nat} {a B : Nat → Nat} (hbk : bk_at K E0 P a B) {sg0 : Nat → Int} (hS : sg_S K z0 sg0) {mu ra : Nat → Int} (hiv : bk_iv P B sg0 mu ra) (i j : Int32)  : Met l yX4_lies wsX4_lies ({ frames := 7, cells := 0, slots := 0, locals := 240 }) (va_Pc [.ref (a 0), .int i, .int j] (bd_P K E0 z0 sz)) (va_Qi (bk_post K P a B (dk_lies i j mu ra, mu, ra)) (bd_B K) (bd_A K sz)) 0 0 (bd_A K sz) := by
  refine bd_ofW (cc := cX4_lies) (maxL := 5) (ret := (some .int)) (by decide) rfl (Nat.le_of_ble_eq_true rfl) ?_
  intro p e s m below meth c ls C hr hlk hsz hw hl
  have hx := C.1
  have hb := C.2.1
  have hown := C.2.2.2.1
  have hts := C.2.2.2.2.1
  have i4 : ∀ w ∈ wsX40, w ∈ wsX4_lies := by decide +kernel
  have lk18 : Cond.fieldLink RX4 18 "BallDesk" "places" "[LBallDesk$Ball;" ∈ wsX4_lies := by decide +kernel
  have lk30 : Cond.fieldLink RX4 30 "BallDesk" "high" "LBallDesk$Whole;" ∈ wsX4_lies := by decide +kernel
  have lk33 : Cond.fieldLink RX4 33 "BallDesk" "left" "LBallDesk$Whole;" ∈ wsX4_lies := by decide +kernel
  have lk27 : Cond.fieldLink RX4 27 "BallDesk" "low" "LBallDesk$Whole;" ∈ wsX4_lies := by decide +kernel
  have lk36 : Cond.fieldLink RX4 36 "BallDesk" "right" "LBallDesk$Whole;" ∈ wsX4_lies := by decide +kernel
  obtain ⟨hP1, hP2⟩ := bk_P hbk
  have hl : lv_has ls 5 [(0, .ref (a 0)), (1, .int i), (2, .int j)] := hl
  have hof : ∀ j, (j = 0 ∨ 8 ≤ j) → j < 32 → sg0 (B j) = sg0 (B j) := fun _ _ _ => rfl
  have hfi := hiv.2.1
  refine lv_iload_n hx hb dX4_lies_0 rfl (lv_at hl 1 rfl) ?_
  refine bd_sip (As := [.int i]) (rest := []) C (c4_isPlace _ _ _ _ _ i) (va_cwS 1 hts gX4_lies_X4_isPlace rfl rfl rfl (by decide +kernel) ⟨Nat.le_of_ble_eq_true rfl, Nat.le_of_ble_eq_true rfl⟩) hsz hw dX4_lies_1 rfl hl.1 rfl (Nat.le_of_ble_eq_true rfl) ⟨Nat.le_refl _, Nat.le_refl _⟩ (fun H locs hw => ?_)
  refine lv_if_eq (tgt := 14) hx hb dX4_lies_4 (by decide) (fun hc4 => ?_) (fun hc4 => ?_)
  · have hno := pl_f hc4
    refine lv_iconst (v := (-1)) hx hb dX4_lies_14 (by decide) ?_
    have hd : dk_lies i j mu ra = (-1) := if_neg (fun q => hno q.1)
    exact bd_iret C hr hlk hw dX4_lies_15 ⟨hd.symm, hbk, sg0, hS, bk_ivm hiv hof hfi⟩
  · have hpl_im := pl_t hc4
    obtain ⟨im, him, hk_im, hx_im⟩ := pl_x hpl_im
    subst hk_im
    refine lv_iload_n hx hb dX4_lies_7 rfl (lv_at hl 2 rfl) ?_
    refine bd_sip (As := [.int j]) (rest := []) C (c4_isPlace _ _ _ _ _ j) (va_cwS 1 hts gX4_lies_X4_isPlace rfl rfl rfl (by decide +kernel) ⟨Nat.le_of_ble_eq_true rfl, Nat.le_of_ble_eq_true rfl⟩) hsz hw dX4_lies_8 rfl hl.1 rfl (Nat.le_of_ble_eq_true rfl) ⟨Nat.le_refl _, Nat.le_refl _⟩ (fun H locs hw => ?_)
    refine lv_if_ne (tgt := 16) hx hb dX4_lies_11 (by decide) (fun hc11 => ?_) (fun hc11 => ?_)
    · have hpl_jm := pl_t hc11
      obtain ⟨jm, hjm, hk_jm, hx_jm⟩ := pl_x hpl_jm
      subst hk_jm
      obtain ⟨hbm_im, hb0_im, hbr_im⟩ := bk_b hP2 hiv him
      obtain ⟨hbm_jm, hb0_jm, hbr_jm⟩ := bk_b hP2 hiv hjm
      refine lv_aload_n hx hb dX4_lies_16 rfl (lv_at hl 0 rfl) ?_
      refine lv_aload_n hx hb dX4_lies_17 rfl (lv_at hl 0 rfl) ?_
      refine bk_g C i4 hw hbk 2 (by decide) (v := .ref (a 1)) rfl dX4_lies_18 lk18 ?_
      refine lv_iload_n hx hb dX4_lies_21 rfl (lv_at hl 1 rfl) ?_
      refine bk_ald C hw hbk him dX4_lies_22 ?_
      have fm_im : sg0 (B (8 + im)) = mu im := (hof (8 + im) (by omega) (by omega)).trans (hiv.2.2 im him).1
      have fr_im : sg0 (B (20 + im)) = ra im := (hof (20 + im) (by omega) (by omega)).trans (hiv.2.2 im him).2.1
      refine bd_cv (As := [.ref (a (3 + im))]) (rest := []) C (c4_findEnds _ _ _ _ _ hbk hS im him (by rw [fm_im, fr_im]; exact (Nat.lt_of_le_of_lt (Nat.add_le_add hbm_im hbr_im) (by decide +kernel)))) (cwV 1 hts gX4_lies_X4_findEnds rfl rfl rfl (by decide +kernel) ⟨Nat.le_of_ble_eq_true rfl, Nat.le_of_ble_eq_true rfl⟩) hsz hw (bk_recv C hw hbk) dX4_lies_23 rfl hl.1 rfl (Nat.le_of_ble_eq_true rfl) ⟨Nat.le_refl _, Nat.le_refl _⟩ (fun E1 z H locs hp hw => ?_)
      obtain ⟨hE9, sg, hS, hv0_, hv1_, hf9⟩ := hp
      rw [show E1 = E0 from hE9] at hw
      have fT0_ : sg (B 1) = (mu im - ra im) := hv0_.trans (by rw [fm_im, fr_im])
      have fT1_ : sg (B 2) = (mu im + ra im) := hv1_.trans (by rw [fm_im, fr_im])
      have f_1 := fT0_
      have f_2 := fT1_
      have hof : ∀ j, (j = 0 ∨ 8 ≤ j) → j < 32 → sg (B j) = sg0 (B j) := fun j h1 h2 => (hf9 (B j) (bk_ne hbk (i := j) (j := 1) (by omega) (by omega) (by omega)) (bk_ne hbk (i := j) (j := 2) (by omega) (by omega) (by omega))).trans (hof j h1 h2)
      have hfi : fn_iv (P + 64) (bk_A B) sg := fn_ivm hfi (hf9 (bk_A B 1) (bk_ne hbk (i := 31 + 1) (j := 1) (by decide) (by decide) (by decide)) (bk_ne hbk (i := 31 + 1) (j := 2) (by decide) (by decide) (by decide))) (hf9 (bk_A B 2) (bk_ne hbk (i := 31 + 2) (j := 1) (by decide) (by decide) (by decide)) (bk_ne hbk (i := 31 + 2) (j := 2) (by decide) (by decide) (by decide))) (hf9 (bk_A B 3) (bk_ne hbk (i := 31 + 3) (j := 1) (by decide) (by decide) (by decide)) (bk_ne hbk (i := 31 + 3) (j := 2) (by decide) (by decide) (by decide)))
      refine lv_aload_n hx hb dX4_lies_26 rfl (lv_at hl 0 rfl) ?_
      refine lv_aload_n hx hb dX4_lies_27 rfl (lv_at hl 0 rfl) ?_
      refine bk_g C i4 hw hbk 2 (by decide) (v := .ref (a 1)) rfl dX4_lies_28 lk18 ?_
      refine lv_iload_n hx hb dX4_lies_31 rfl (lv_at hl 2 rfl) ?_
      refine bk_ald C hw hbk hjm dX4_lies_32 ?_
      have fm_jm : sg (B (8 + jm)) = mu jm := (hof (8 + jm) (by omega) (by omega)).trans (hiv.2.2 jm hjm).1
      have fr_jm : sg (B (20 + jm)) = ra jm := (hof (20 + jm) (by omega) (by omega)).trans (hiv.2.2 jm hjm).2.1
      refine bd_cv (As := [.ref (a (3 + jm))]) (rest := []) C (c4_findOtherEnds _ _ _ _ _ hbk hS jm hjm (by rw [fm_jm, fr_jm]; exact (Nat.lt_of_le_of_lt (Nat.add_le_add hbm_jm hbr_jm) (by decide +kernel)))) (cwV 1 hts gX4_lies_X4_findOtherEnds rfl rfl rfl (by decide +kernel) ⟨Nat.le_of_ble_eq_true rfl, Nat.le_of_ble_eq_true rfl⟩) hsz hw (bk_recv C hw hbk) dX4_lies_33 rfl hl.1 rfl (Nat.le_of_ble_eq_true rfl) ⟨Nat.le_refl _, Nat.le_refl _⟩ (fun E1 z H locs hp hw => ?_)
      obtain ⟨hE9, sg, hS, hv0_, hv1_, hf9⟩ := hp
      rw [show E1 = E0 from hE9] at hw
      have fT0_ : sg (B 3) = (mu jm - ra jm) := hv0_.trans (by rw [fm_jm, fr_jm])
      have fT1_ : sg (B 4) = (mu jm + ra jm) := hv1_.trans (by rw [fm_jm, fr_jm])
      have f_1 : sg (B 1) = (mu im - ra im) := (hf9 (B 1) (bk_ne hbk (i := 1) (j := 3) (by omega) (by omega) (by omega)) (bk_ne hbk (i := 1) (j := 4) (by omega) (by omega) (by omega))).trans f_1
      have f_2 : sg (B 2) = (mu im + ra im) := (hf9 (B 2) (bk_ne hbk (i := 2) (j := 3) (by omega) (by omega) (by omega)) (bk_ne hbk (i := 2) (j := 4) (by omega) (by omega) (by omega))).trans f_2
      have f_3 := fT0_
      have f_4 := fT1_
      have hof : ∀ j, (j = 0 ∨ 8 ≤ j) → j < 32 → sg (B j) = sg0 (B j) := fun j h1 h2 => (hf9 (B j) (bk_ne hbk (i := j) (j := 3) (by omega) (by omega) (by omega)) (bk_ne hbk (i := j) (j := 4) (by omega) (by omega) (by omega))).trans (hof j h1 h2)
      have hfi : fn_iv (P + 64) (bk_A B) sg := fn_ivm hfi (hf9 (bk_A B 1) (bk_ne hbk (i := 31 + 1) (j := 3) (by decide) (by decide) (by decide)) (bk_ne hbk (i := 31 + 1) (j := 4) (by decide) (by decide) (by decide))) (hf9 (bk_A B 2) (bk_ne hbk (i := 31 + 2) (j := 3) (by decide) (by decide) (by decide)) (bk_ne hbk (i := 31 + 2) (j := 4) (by decide) (by decide) (by decide))) (hf9 (bk_A B 3) (bk_ne hbk (i := 31 + 3) (j := 3) (by decide) (by decide) (by decide)) (bk_ne hbk (i := 31 + 3) (j := 4) (by decide) (by decide) (by decide)))
      refine lv_aload_n hx hb dX4_lies_36 rfl (lv_at hl 0 rfl) ?_
      refine bk_g C i4 hw hbk 5 (by decide) (v := .ref (B 2)) rfl dX4_lies_37 lk30 ?_
      refine lv_aload_n hx hb dX4_lies_40 rfl (lv_at hl 0 rfl) ?_
      refine bk_g C i4 hw hbk 6 (by decide) (v := .ref (B 3)) rfl dX4_lies_41 lk33 ?_
      refine bd_cip (As := [.ref (B 3)]) (rest := []) C (v3_order _ _ _ _ _ hS (B 2) (B 3) (bk_in hbk (i := 2) (by omega)) (bk_in hbk (i := 3) (by omega))) (cwV 1 hts gX4_lies_X3_order rfl rfl rfl (by decide +kernel) ⟨Nat.le_of_ble_eq_true rfl, Nat.le_of_ble_eq_true rfl⟩) hsz hw (bd_recv C hw (bk_in hbk (i := 2) (by omega))) dX4_lies_44 rfl hl.1 rfl (Nat.le_of_ble_eq_true rfl) ⟨Nat.le_refl _, Nat.le_refl _⟩ (fun H locs hw => ?_)
      rw [f_2, f_3]
      refine lv_if_ge (tgt := 53) hx hb dX4_lies_47 (by decide) (fun hc47 => ?_) (fun hc47 => ?_)
      · have hq47 := q3_ge.mp hc47
        refine lv_aload_n hx hb dX4_lies_53 rfl (lv_at hl 0 rfl) ?_
        refine bk_g C i4 hw hbk 4 (by decide) (v := .ref (B 1)) rfl dX4_lies_54 lk27 ?_
        refine lv_aload_n hx hb dX4_lies_57 rfl (lv_at hl 0 rfl) ?_
        refine bk_g C i4 hw hbk 7 (by decide) (v := .ref (B 4)) rfl dX4_lies_58 lk36 ?_
        refine bd_cip (As := [.ref (B 4)]) (rest := []) C (v3_order _ _ _ _ _ hS (B 1) (B 4) (bk_in hbk (i := 1) (by omega)) (bk_in hbk (i := 4) (by omega))) (cwV 1 hts gX4_lies_X3_order rfl rfl rfl (by decide +kernel) ⟨Nat.le_of_ble_eq_true rfl, Nat.le_of_ble_eq_true rfl⟩) hsz hw (bd_recv C hw (bk_in hbk (i := 1) (by omega))) dX4_lies_61 rfl hl.1 rfl (Nat.le_of_ble_eq_true rfl) ⟨Nat.le_refl _, Nat.le_refl _⟩ (fun H locs hw => ?_)
        rw [f_1, f_4]
        refine lv_if_le (tgt := 69) hx hb dX4_lies_64 (by decide) (fun hc64 => ?_) (fun hc64 => ?_)
        · have hq64 := q3_le.mp hc64
          refine lv_aload_n hx hb dX4_lies_69 rfl (lv_at hl 0 rfl) ?_
          refine bk_g C i4 hw hbk 4 (by decide) (v := .ref (B 1)) rfl dX4_lies_70 lk27 ?_
          refine lv_aload_n hx hb dX4_lies_73 rfl (lv_at hl 0 rfl) ?_
          refine bk_g C i4 hw hbk 6 (by decide) (v := .ref (B 3)) rfl dX4_lies_74 lk33 ?_
          refine bd_cip (As := [.ref (B 3)]) (rest := []) C (v3_order _ _ _ _ _ hS (B 1) (B 3) (bk_in hbk (i := 1) (by omega)) (bk_in hbk (i := 3) (by omega))) (cwV 1 hts gX4_lies_X3_order rfl rfl rfl (by decide +kernel) ⟨Nat.le_of_ble_eq_true rfl, Nat.le_of_ble_eq_true rfl⟩) hsz hw (bd_recv C hw (bk_in hbk (i := 1) (by omega))) dX4_lies_77 rfl hl.1 rfl (Nat.le_of_ble_eq_true rfl) ⟨Nat.le_refl _, Nat.le_refl _⟩ (fun H locs hw => ?_)
          rw [f_1, f_3]
          refine lv_istore_n (lv' := [(3, .int (q_i3 (mu im - ra im) (mu jm - ra jm))), (0, .ref (a 0)), (1, .int (nI im)), (2, .int (nI jm))]) hx hb dX4_lies_80 rfl hl (by decide) rfl (fun ls hl => ?_)
          refine lv_aload_n hx hb dX4_lies_81 rfl (lv_at hl 1 rfl) ?_
          refine bk_g C i4 hw hbk 5 (by decide) (v := .ref (B 2)) rfl dX4_lies_82 lk30 ?_
          refine lv_aload_n hx hb dX4_lies_85 rfl (lv_at hl 1 rfl) ?_
          refine bk_g C i4 hw hbk 7 (by decide) (v := .ref (B 4)) rfl dX4_lies_86 lk36 ?_
          refine bd_cip (As := [.ref (B 4)]) (rest := []) C (v3_order _ _ _ _ _ hS (B 2) (B 4) (bk_in hbk (i := 2) (by omega)) (bk_in hbk (i := 4) (by omega))) (cwV 1 hts gX4_lies_X3_order rfl rfl rfl (by decide +kernel) ⟨Nat.le_of_ble_eq_true rfl, Nat.le_of_ble_eq_true rfl⟩) hsz hw (bd_recv C hw (bk_in hbk (i := 2) (by omega))) dX4_lies_89 rfl hl.1 rfl (Nat.le_of_ble_eq_true rfl) ⟨Nat.le_refl _, Nat.le_refl _⟩ (fun H locs hw => ?_)
          rw [f_2, f_4]
          refine lv_istore (lv' := [(4, .int (q_i3 (mu im + ra im) (mu jm + ra jm))), (3, .int (q_i3 (mu im - ra im) (mu jm - ra jm))), (0, .ref (a 0)), (1, .int (nI im)), (2, .int (nI jm))]) hx hb dX4_lies_92 hl (by decide) rfl (fun ls hl => ?_)
          refine lv_iload_n hx hb dX4_lies_94 rfl (lv_at hl 1 rfl) ?_
          refine lv_if_ne (tgt := 105) hx hb dX4_lies_95 (by decide) (fun hc95 => ?_) (fun hc95 => ?_)
          · have hq95 := mt q3_eq.mpr hc95
            refine lv_iload_n hx hb dX4_lies_105 rfl (lv_at hl 1 rfl) ?_
            refine lv_if_lt (tgt := 116) hx hb dX4_lies_106 (by decide) (fun hc106 => ?_) (fun hc106 => ?_)
            · have hq106 := q3_lt.mp hc106
              refine lv_iload_n hx hb dX4_lies_116 rfl (lv_at hl 1 rfl) ?_
              refine lv_if_gt (tgt := 129) hx hb dX4_lies_117 (by decide) (fun hc117 => ?_) (fun hc117 => ?_)
              · have hq117 := q3_gt.mp hc117
                refine lv_bipush (v := nI 6) hx hb dX4_lies_129 (by decide) ?_
                have hd : dk_lies (nI im) (nI jm) mu ra = (nI 6) := by unfold dk_lies; rw [if_pos ⟨hpl_im, hpl_jm⟩, hx_im, hx_jm]; unfold dk_liesv; (repeat' split) <;> first | rfl | (exfalso; omega)
                exact bd_iret C hr hlk hw dX4_lies_131 ⟨hd.symm, hbk, sg, hS, bk_ivm hiv hof hfi⟩
              · have hq117 := Int.not_lt.mp (fun q => hc117 (q3_gt.mpr q))
                refine lv_iload hx hb dX4_lies_120 (lv_at hl 0 rfl) ?_
                refine lv_if_lt (tgt := 129) hx hb dX4_lies_122 (by decide) (fun hc122 => ?_) (fun hc122 => ?_)
                · have hq122 := q3_lt.mp hc122
                  refine lv_bipush (v := nI 6) hx hb dX4_lies_129 (by decide) ?_
                  have hd : dk_lies (nI im) (nI jm) mu ra = (nI 6) := by unfold dk_lies; rw [if_pos ⟨hpl_im, hpl_jm⟩, hx_im, hx_jm]; unfold dk_liesv; (repeat' split) <;> first | rfl | (exfalso; omega)
                  exact bd_iret C hr hlk hw dX4_lies_131 ⟨hd.symm, hbk, sg, hS, bk_ivm hiv hof hfi⟩
                · have hq122 := Int.not_lt.mp (fun q => hc122 (q3_lt.mpr q))
                  refine lv_iconst (v := nI 5) hx hb dX4_lies_125 (by decide) ?_
                  refine lv_goto (tgt := 131) hx hb dX4_lies_126 (by decide) ?_
                  have hd : dk_lies (nI im) (nI jm) mu ra = (nI 5) := by unfold dk_lies; rw [if_pos ⟨hpl_im, hpl_jm⟩, hx_im, hx_jm]; unfold dk_liesv; (repeat' split) <;> first | rfl | (exfalso; omega)
                  exact bd_iret C hr hlk hw dX4_lies_131 ⟨hd.symm, hbk, sg, hS, bk_ivm hiv hof hfi⟩
            · have hq106 := Int.not_lt.mp (fun q => hc106 (q3_lt.mpr q))
              refine lv_iload hx hb dX4_lies_109 (lv_at hl 0 rfl) ?_
              refine lv_if_gt (tgt := 116) hx hb dX4_lies_111 (by decide) (fun hc111 => ?_) (fun hc111 => ?_)
              · have hq111 := q3_gt.mp hc111
                refine lv_iload_n hx hb dX4_lies_116 rfl (lv_at hl 1 rfl) ?_
                refine lv_if_gt (tgt := 129) hx hb dX4_lies_117 (by decide) (fun hc117 => ?_) (fun hc117 => ?_)
                · have hq117 := q3_gt.mp hc117
                  refine lv_bipush (v := nI 6) hx hb dX4_lies_129 (by decide) ?_
                  have hd : dk_lies (nI im) (nI jm) mu ra = (nI 6) := by unfold dk_lies; rw [if_pos ⟨hpl_im, hpl_jm⟩, hx_im, hx_jm]; unfold dk_liesv; (repeat' split) <;> first | rfl | (exfalso; omega)
                  exact bd_iret C hr hlk hw dX4_lies_131 ⟨hd.symm, hbk, sg, hS, bk_ivm hiv hof hfi⟩
                · have hq117 := Int.not_lt.mp (fun q => hc117 (q3_gt.mpr q))
                  refine lv_iload hx hb dX4_lies_120 (lv_at hl 0 rfl) ?_
                  refine lv_if_lt (tgt := 129) hx hb dX4_lies_122 (by decide) (fun hc122 => ?_) (fun hc122 => ?_)
                  · have hq122 := q3_lt.mp hc122
                    refine lv_bipush (v := nI 6) hx hb dX4_lies_129 (by decide) ?_
                    have hd : dk_lies (nI im) (nI jm) mu ra = (nI 6) := by unfold dk_lies; rw [if_pos ⟨hpl_im, hpl_jm⟩, hx_im, hx_jm]; unfold dk_liesv; (repeat' split) <;> first | rfl | (exfalso; omega)
                    exact bd_iret C hr hlk hw dX4_lies_131 ⟨hd.symm, hbk, sg, hS, bk_ivm hiv hof hfi⟩
                  · have hq122 := Int.not_lt.mp (fun q => hc122 (q3_lt.mpr q))
                    refine lv_iconst (v := nI 5) hx hb dX4_lies_125 (by decide) ?_
                    refine lv_goto (tgt := 131) hx hb dX4_lies_126 (by decide) ?_
                    have hd : dk_lies (nI im) (nI jm) mu ra = (nI 5) := by unfold dk_lies; rw [if_pos ⟨hpl_im, hpl_jm⟩, hx_im, hx_jm]; unfold dk_liesv; (repeat' split) <;> first | rfl | (exfalso; omega)
                    exact bd_iret C hr hlk hw dX4_lies_131 ⟨hd.symm, hbk, sg, hS, bk_ivm hiv hof hfi⟩
              · have hq111 := Int.not_lt.mp (fun q => hc111 (q3_gt.mpr q))
                refine lv_iconst (v := nI 4) hx hb dX4_lies_114 (by decide) ?_
                have hd : dk_lies (nI im) (nI jm) mu ra = (nI 4) := by unfold dk_lies; rw [if_pos ⟨hpl_im, hpl_jm⟩, hx_im, hx_jm]; unfold dk_liesv; (repeat' split) <;> first | rfl | (exfalso; omega)
                exact bd_iret C hr hlk hw dX4_lies_115 ⟨hd.symm, hbk, sg, hS, bk_ivm hiv hof hfi⟩
          · have hq95 := q3_eq.mp hc95
            refine lv_iload hx hb dX4_lies_98 (lv_at hl 0 rfl) ?_
            refine lv_if_ne (tgt := 105) hx hb dX4_lies_100 (by decide) (fun hc100 => ?_) (fun hc100 => ?_)
            · have hq100 := mt q3_eq.mpr hc100
              refine lv_iload_n hx hb dX4_lies_105 rfl (lv_at hl 1 rfl) ?_
              refine lv_if_lt (tgt := 116) hx hb dX4_lies_106 (by decide) (fun hc106 => ?_) (fun hc106 => ?_)
              · have hq106 := q3_lt.mp hc106
                refine lv_iload_n hx hb dX4_lies_116 rfl (lv_at hl 1 rfl) ?_
                refine lv_if_gt (tgt := 129) hx hb dX4_lies_117 (by decide) (fun hc117 => ?_) (fun hc117 => ?_)
                · have hq117 := q3_gt.mp hc117
                  refine lv_bipush (v := nI 6) hx hb dX4_lies_129 (by decide) ?_
                  have hd : dk_lies (nI im) (nI jm) mu ra = (nI 6) := by unfold dk_lies; rw [if_pos ⟨hpl_im, hpl_jm⟩, hx_im, hx_jm]; unfold dk_liesv; (repeat' split) <;> first | rfl | (exfalso; omega)
                  exact bd_iret C hr hlk hw dX4_lies_131 ⟨hd.symm, hbk, sg, hS, bk_ivm hiv hof hfi⟩
                · have hq117 := Int.not_lt.mp (fun q => hc117 (q3_gt.mpr q))
                  refine lv_iload hx hb dX4_lies_120 (lv_at hl 0 rfl) ?_
                  refine lv_if_lt (tgt := 129) hx hb dX4_lies_122 (by decide) (fun hc122 => ?_) (fun hc122 => ?_)
                  · have hq122 := q3_lt.mp hc122
                    refine lv_bipush (v := nI 6) hx hb dX4_lies_129 (by decide) ?_
                    have hd : dk_lies (nI im) (nI jm) mu ra = (nI 6) := by unfold dk_lies; rw [if_pos ⟨hpl_im, hpl_jm⟩, hx_im, hx_jm]; unfold dk_liesv; (repeat' split) <;> first | rfl | (exfalso; omega)
                    exact bd_iret C hr hlk hw dX4_lies_131 ⟨hd.symm, hbk, sg, hS, bk_ivm hiv hof hfi⟩
                  · have hq122 := Int.not_lt.mp (fun q => hc122 (q3_lt.mpr q))
                    refine lv_iconst (v := nI 5) hx hb dX4_lies_125 (by decide) ?_
                    refine lv_goto (tgt := 131) hx hb dX4_lies_126 (by decide) ?_
                    have hd : dk_lies (nI im) (nI jm) mu ra = (nI 5) := by unfold dk_lies; rw [if_pos ⟨hpl_im, hpl_jm⟩, hx_im, hx_jm]; unfold dk_liesv; (repeat' split) <;> first | rfl | (exfalso; omega)
                    exact bd_iret C hr hlk hw dX4_lies_131 ⟨hd.symm, hbk, sg, hS, bk_ivm hiv hof hfi⟩
              · have hq106 := Int.not_lt.mp (fun q => hc106 (q3_lt.mpr q))
                refine lv_iload hx hb dX4_lies_109 (lv_at hl 0 rfl) ?_
                refine lv_if_gt (tgt := 116) hx hb dX4_lies_111 (by decide) (fun hc111 => ?_) (fun hc111 => ?_)
                · have hq111 := q3_gt.mp hc111
                  refine lv_iload_n hx hb dX4_lies_116 rfl (lv_at hl 1 rfl) ?_
                  refine lv_if_gt (tgt := 129) hx hb dX4_lies_117 (by decide) (fun hc117 => ?_) (fun hc117 => ?_)
                  · have hq117 := q3_gt.mp hc117
                    refine lv_bipush (v := nI 6) hx hb dX4_lies_129 (by decide) ?_
                    have hd : dk_lies (nI im) (nI jm) mu ra = (nI 6) := by unfold dk_lies; rw [if_pos ⟨hpl_im, hpl_jm⟩, hx_im, hx_jm]; unfold dk_liesv; (repeat' split) <;> first | rfl | (exfalso; omega)
                    exact bd_iret C hr hlk hw dX4_lies_131 ⟨hd.symm, hbk, sg, hS, bk_ivm hiv hof hfi⟩
                  · have hq117 := Int.not_lt.mp (fun q => hc117 (q3_gt.mpr q))
                    refine lv_iload hx hb dX4_lies_120 (lv_at hl 0 rfl) ?_
                    refine lv_if_lt (tgt := 129) hx hb dX4_lies_122 (by decide) (fun hc122 => ?_) (fun hc122 => ?_)
                    · have hq122 := q3_lt.mp hc122
                      refine lv_bipush (v := nI 6) hx hb dX4_lies_129 (by decide) ?_
                      have hd : dk_lies (nI im) (nI jm) mu ra = (nI 6) := by unfold dk_lies; rw [if_pos ⟨hpl_im, hpl_jm⟩, hx_im, hx_jm]; unfold dk_liesv; (repeat' split) <;> first | rfl | (exfalso; omega)
                      exact bd_iret C hr hlk hw dX4_lies_131 ⟨hd.symm, hbk, sg, hS, bk_ivm hiv hof hfi⟩
                    · have hq122 := Int.not_lt.mp (fun q => hc122 (q3_lt.mpr q))
                      refine lv_iconst (v := nI 5) hx hb dX4_lies_125 (by decide) ?_
                      refine lv_goto (tgt := 131) hx hb dX4_lies_126 (by decide) ?_
                      have hd : dk_lies (nI im) (nI jm) mu ra = (nI 5) := by unfold dk_lies; rw [if_pos ⟨hpl_im, hpl_jm⟩, hx_im, hx_jm]; unfold dk_liesv; (repeat' split) <;> first | rfl | (exfalso; omega)
                      exact bd_iret C hr hlk hw dX4_lies_131 ⟨hd.symm, hbk, sg, hS, bk_ivm hiv hof hfi⟩
                · have hq111 := Int.not_lt.mp (fun q => hc111 (q3_gt.mpr q))
                  refine lv_iconst (v := nI 4) hx hb dX4_lies_114 (by decide) ?_
                  have hd : dk_lies (nI im) (nI jm) mu ra = (nI 4) := by unfold dk_lies; rw [if_pos ⟨hpl_im, hpl_jm⟩, hx_im, hx_jm]; unfold dk_liesv; (repeat' split) <;> first | rfl | (exfalso; omega)
                  exact bd_iret C hr hlk hw dX4_lies_115 ⟨hd.symm, hbk, sg, hS, bk_ivm hiv hof hfi⟩
            · have hq100 := q3_eq.mp hc100
              refine lv_iconst (v := nI 3) hx hb dX4_lies_103 (by decide) ?_
              have hd : dk_lies (nI im) (nI jm) mu ra = (nI 3) := by unfold dk_lies; rw [if_pos ⟨hpl_im, hpl_jm⟩, hx_im, hx_jm]; unfold dk_liesv; (repeat' split) <;> first | rfl | (exfalso; omega)
              exact bd_iret C hr hlk hw dX4_lies_104 ⟨hd.symm, hbk, sg, hS, bk_ivm hiv hof hfi⟩
        · have hq64 := Int.not_le.mp (fun q => hc64 (q3_le.mpr q))
          refine lv_iconst (v := nI 2) hx hb dX4_lies_67 (by decide) ?_
          have hd : dk_lies (nI im) (nI jm) mu ra = (nI 2) := by unfold dk_lies; rw [if_pos ⟨hpl_im, hpl_jm⟩, hx_im, hx_jm]; unfold dk_liesv; (repeat' split) <;> first | rfl | (exfalso; omega)
          exact bd_iret C hr hlk hw dX4_lies_68 ⟨hd.symm, hbk, sg, hS, bk_ivm hiv hof hfi⟩
      · have hq47 := Int.not_le.mp (fun q => hc47 (q3_ge.mpr q))
        refine lv_bipush (v := (-2)) hx hb dX4_lies_50 (by decide) ?_
        have hd : dk_lies (nI im) (nI jm) mu ra = (-2) := by unfold dk_lies; rw [if_pos ⟨hpl_im, hpl_jm⟩, hx_im, hx_jm]; unfold dk_liesv; (repeat' split) <;> first | rfl | (exfalso; omega)
        exact bd_iret C hr hlk hw dX4_lies_52 ⟨hd.symm, hbk, sg, hS, bk_ivm hiv hof hfi⟩
    · have hno := pl_f hc11
      refine lv_iconst (v := (-1)) hx hb dX4_lies_14 (by decide) ?_
      have hd : dk_lies (nI im) j mu ra = (-1) := if_neg (fun q => hno q.2)
      exact bd_iret C hr hlk hw dX4_lies_15 ⟨hd.symm, hbk, sg0, hS, bk_ivm hiv hof hfi⟩
set_option maxHeartbeats 4000000 in
set_option maxRecDepth 100000 in
/-- BallDesk.holds -/
theorem c4_holds (l : Launch) (K : Cxt) (E0 : Nat → va_E) (z0 : Nat → Wh) (sz : Nat) {P : Nat} {a B : Nat → Nat} (hbk : bk_at K E0 P a B) {sg0 : Nat → Int} (hS : sg_S K z0 sg0) {mu ra : Nat → Int} (hiv : bk_iv P B sg0 mu ra) (k : Int32) (x y : Int64)  : Met l yX4_holds wsX4_holds ({ frames := 7, cells := 0, slots := 0, locals := 240 }) (va_Pc [.ref (a 0), .int k, .long x, .long y] (bd_P K E0 z0 sz)) (va_Qi (bk_post K P a B (dk_holds P k x.toInt y.toInt mu ra, mu, ra)) (bd_B K) (bd_A K sz)) 0 0 (bd_A K sz) := by
  refine bd_ofW (cc := cX4_holds) (maxL := 6) (ret := (some .int)) (by decide) rfl (Nat.le_of_ble_eq_true rfl) ?_
  intro p e s m below meth c ls C hr hlk hsz hw hl
  have hx := C.1
  have hb := C.2.1
  have hown := C.2.2.2.1
  have hts := C.2.2.2.2.1
  have i4 : ∀ w ∈ wsX40, w ∈ wsX4_holds := by decide +kernel
  have lk18 : Cond.fieldLink RX4 18 "BallDesk" "places" "[LBallDesk$Ball;" ∈ wsX4_holds := by decide +kernel
  have lk39 : Cond.fieldLink RX4 39 "BallDesk" "step" "LBallDesk$Whole;" ∈ wsX4_holds := by decide +kernel
  have lk33 : Cond.fieldLink RX4 33 "BallDesk" "left" "LBallDesk$Whole;" ∈ wsX4_holds := by decide +kernel
  have lk27 : Cond.fieldLink RX4 27 "BallDesk" "low" "LBallDesk$Whole;" ∈ wsX4_holds := by decide +kernel
  have lk36 : Cond.fieldLink RX4 36 "BallDesk" "right" "LBallDesk$Whole;" ∈ wsX4_holds := by decide +kernel
  have lk30 : Cond.fieldLink RX4 30 "BallDesk" "high" "LBallDesk$Whole;" ∈ wsX4_holds := by decide +kernel
  have lk58 : Cond.fieldLink RX4 58 "BallDesk" "bits" "I" ∈ wsX4_holds := by decide +kernel
  obtain ⟨hP1, hP2⟩ := bk_P hbk
  have hl : lv_has ls 6 [(0, .ref (a 0)), (1, .int k), (2, .long x), (4, .long y)] := hl
  have hof : ∀ j, (j = 0 ∨ 8 ≤ j) → j < 32 → sg0 (B j) = sg0 (B j) := fun _ _ _ => rfl
  have hfi := hiv.2.1
  refine lv_iload_n hx hb dX4_holds_0 rfl (lv_at hl 1 rfl) ?_
  refine bd_sip (As := [.int k]) (rest := []) C (c4_isPlace _ _ _ _ _ k) (va_cwS 1 hts gX4_holds_X4_isPlace rfl rfl rfl (by decide +kernel) ⟨Nat.le_of_ble_eq_true rfl, Nat.le_of_ble_eq_true rfl⟩) hsz hw dX4_holds_1 rfl hl.1 rfl (Nat.le_of_ble_eq_true rfl) ⟨Nat.le_refl _, Nat.le_refl _⟩ (fun H locs hw => ?_)
  refine lv_if_eq (tgt := 14) hx hb dX4_holds_4 (by decide) (fun hc4 => ?_) (fun hc4 => ?_)
  · have hno := pl_f hc4
    refine lv_iconst (v := (-1)) hx hb dX4_holds_14 (by decide) ?_
    have hd : dk_holds P k x.toInt y.toInt mu ra = (-1) := if_neg (fun q => hno q.1)
    exact bd_iret C hr hlk hw dX4_holds_15 ⟨hd.symm, hbk, sg0, hS, bk_ivm hiv hof hfi⟩
  · have hpl_kn := pl_t hc4
    obtain ⟨kn, hkn, hk_kn, hx_kn⟩ := pl_x hpl_kn
    subst hk_kn
    refine lv_lload hx hb dX4_holds_7 (lv_at hl 3 rfl) ?_
    refine lv_lconst (v := lN 0) hx hb dX4_holds_9 rfl ?_
    refine bd_lcmp (v := (lg_cmp y (lN 0))) hx hb dX4_holds_10 (rfl) ?_
    refine lv_if_gt (tgt := 16) hx hb dX4_holds_11 (by decide) (fun hc11 => ?_) (fun hc11 => ?_)
    · rw [lg_q3] at hc11
      have hyp : 0 < y.toInt := q3_gt.mp hc11
      obtain ⟨hbm_kn, hb0_kn, hbr_kn⟩ := bk_b hP2 hiv hkn
      obtain ⟨he1, he2⟩ := e_b hbm_kn hbr_kn
      refine lv_aload_n hx hb dX4_holds_16 rfl (lv_at hl 0 rfl) ?_
      refine lv_aload_n hx hb dX4_holds_17 rfl (lv_at hl 0 rfl) ?_
      refine bk_g C i4 hw hbk 2 (by decide) (v := .ref (a 1)) rfl dX4_holds_18 lk18 ?_
      refine lv_iload_n hx hb dX4_holds_21 rfl (lv_at hl 1 rfl) ?_
      refine bk_ald C hw hbk hkn dX4_holds_22 ?_
      have fm_kn : sg0 (B (8 + kn)) = mu kn := (hof (8 + kn) (by omega) (by omega)).trans (hiv.2.2 kn hkn).1
      have fr_kn : sg0 (B (20 + kn)) = ra kn := (hof (20 + kn) (by omega) (by omega)).trans (hiv.2.2 kn hkn).2.1
      refine bd_cv (As := [.ref (a (3 + kn))]) (rest := []) C (c4_findEnds _ _ _ _ _ hbk hS kn hkn (by rw [fm_kn, fr_kn]; exact (Nat.lt_of_le_of_lt (Nat.add_le_add hbm_kn hbr_kn) (by decide +kernel)))) (cwV 1 hts gX4_holds_X4_findEnds rfl rfl rfl (by decide +kernel) ⟨Nat.le_of_ble_eq_true rfl, Nat.le_of_ble_eq_true rfl⟩) hsz hw (bk_recv C hw hbk) dX4_holds_23 rfl hl.1 rfl (Nat.le_of_ble_eq_true rfl) ⟨Nat.le_refl _, Nat.le_refl _⟩ (fun E1 z H locs hp hw => ?_)
      obtain ⟨hE9, sg, hS, hv0_, hv1_, hf9⟩ := hp
      rw [show E1 = E0 from hE9] at hw
      have fT0_ : sg (B 1) = (mu kn - ra kn) := hv0_.trans (by rw [fm_kn, fr_kn])
      have fT1_ : sg (B 2) = (mu kn + ra kn) := hv1_.trans (by rw [fm_kn, fr_kn])
      have f_1 := fT0_
      have f_2 := fT1_
      have hof : ∀ j, (j = 0 ∨ 8 ≤ j) → j < 32 → sg (B j) = sg0 (B j) := fun j h1 h2 => (hf9 (B j) (bk_ne hbk (i := j) (j := 1) (by omega) (by omega) (by omega)) (bk_ne hbk (i := j) (j := 2) (by omega) (by omega) (by omega))).trans (hof j h1 h2)
      have hfi : fn_iv (P + 64) (bk_A B) sg := fn_ivm hfi (hf9 (bk_A B 1) (bk_ne hbk (i := 31 + 1) (j := 1) (by decide) (by decide) (by decide)) (bk_ne hbk (i := 31 + 1) (j := 2) (by decide) (by decide) (by decide))) (hf9 (bk_A B 2) (bk_ne hbk (i := 31 + 2) (j := 1) (by decide) (by decide) (by decide)) (bk_ne hbk (i := 31 + 2) (j := 2) (by decide) (by decide) (by decide))) (hf9 (bk_A B 3) (bk_ne hbk (i := 31 + 3) (j := 1) (by decide) (by decide) (by decide)) (bk_ne hbk (i := 31 + 3) (j := 2) (by decide) (by decide) (by decide)))
      refine lv_aload_n hx hb dX4_holds_26 rfl (lv_at hl 0 rfl) ?_
      refine bk_g C i4 hw hbk 8 (by decide) (v := .ref (B 5)) rfl dX4_holds_27 lk39 ?_
      refine lv_lload hx hb dX4_holds_30 (lv_at hl 3 rfl) ?_
      refine sv_v (As := [.long y]) (rest := []) C (v3_become _ _ _ _ _ hS (B 5) y (bk_in hbk (i := 5) (by omega))) (cwV 1 hts gX4_holds_X3_become rfl rfl rfl (by decide +kernel) ⟨Nat.le_of_ble_eq_true rfl, Nat.le_of_ble_eq_true rfl⟩) hsz hw (bd_recv C hw (bk_in hbk (i := 5) (by omega))) dX4_holds_32 rfl hl.1 rfl (Nat.le_of_ble_eq_true rfl) ⟨Nat.le_refl _, Nat.le_refl _⟩ (fun z sg H locs hv9 hf9 hS hw => ?_)
      have fT9 : sg (B 5) = y.toInt := hv9.trans (by rfl)
      have f_1 : sg (B 1) = (mu kn - ra kn) := (hf9 (B 1) (bk_ne hbk (i := 1) (j := 5) (by omega) (by omega) (by omega))).trans f_1
      have f_2 : sg (B 2) = (mu kn + ra kn) := (hf9 (B 2) (bk_ne hbk (i := 2) (j := 5) (by omega) (by omega) (by omega))).trans f_2
      have f_5 := fT9
      have hof : ∀ j, (j = 0 ∨ 8 ≤ j) → j < 32 → sg (B j) = sg0 (B j) := fun j h1 h2 => (hf9 (B j) (bk_ne hbk (i := j) (j := 5) (by omega) (by omega) (by omega))).trans (hof j h1 h2)
      have hfi : fn_iv (P + 64) (bk_A B) sg := fn_ivm hfi (hf9 (bk_A B 1) (bk_ne hbk (i := 31 + 1) (j := 5) (by decide) (by decide) (by decide))) (hf9 (bk_A B 2) (bk_ne hbk (i := 31 + 2) (j := 5) (by decide) (by decide) (by decide))) (hf9 (bk_A B 3) (bk_ne hbk (i := 31 + 3) (j := 5) (by decide) (by decide) (by decide)))
      refine lv_aload_n hx hb dX4_holds_35 rfl (lv_at hl 0 rfl) ?_
      refine bk_g C i4 hw hbk 6 (by decide) (v := .ref (B 3)) rfl dX4_holds_36 lk33 ?_
      refine lv_aload_n hx hb dX4_holds_39 rfl (lv_at hl 0 rfl) ?_
      refine bk_g C i4 hw hbk 4 (by decide) (v := .ref (B 1)) rfl dX4_holds_40 lk27 ?_
      refine lv_aload_n hx hb dX4_holds_43 rfl (lv_at hl 0 rfl) ?_
      refine bk_g C i4 hw hbk 8 (by decide) (v := .ref (B 5)) rfl dX4_holds_44 lk39 ?_
      refine sv_v (As := [.ref (B 1), .ref (B 5)]) (rest := []) C (v3_product _ _ _ _ _ hS (B 3) (B 1) (B 5) 8 2 (bk_in hbk (i := 3) (by omega)) (bk_in hbk (i := 1) (by omega)) (bk_in hbk (i := 5) (by omega)) (bk_ne hbk (i := 1) (j := 3) (by omega) (by omega) (by omega)) (bk_ne hbk (i := 5) (j := 3) (by omega) (by omega) (by omega)) (by rw [f_1]; exact (Nat.lt_of_le_of_lt he1 (by decide +kernel))) (by rw [f_5]; exact (Nat.lt_of_le_of_lt (i64_b y) (by decide +kernel))) (by decide)) (cwV 2 hts gX4_holds_X3_product rfl rfl rfl (by decide +kernel) ⟨Nat.le_of_ble_eq_true rfl, Nat.le_of_ble_eq_true rfl⟩) hsz hw (bd_recv C hw (bk_in hbk (i := 3) (by omega))) dX4_holds_47 rfl hl.1 rfl (Nat.le_of_ble_eq_true rfl) ⟨Nat.le_refl _, Nat.le_refl _⟩ (fun z sg H locs hv9 hf9 hS hw => ?_)
      have fT9 : sg (B 3) = ((mu kn - ra kn) * y.toInt) := hv9.trans (by rw [f_1, f_5])
      have f_1 : sg (B 1) = (mu kn - ra kn) := (hf9 (B 1) (bk_ne hbk (i := 1) (j := 3) (by omega) (by omega) (by omega))).trans f_1
      have f_2 : sg (B 2) = (mu kn + ra kn) := (hf9 (B 2) (bk_ne hbk (i := 2) (j := 3) (by omega) (by omega) (by omega))).trans f_2
      have f_5 : sg (B 5) = y.toInt := (hf9 (B 5) (bk_ne hbk (i := 5) (j := 3) (by omega) (by omega) (by omega))).trans f_5
      have f_3 := fT9
      have hof : ∀ j, (j = 0 ∨ 8 ≤ j) → j < 32 → sg (B j) = sg0 (B j) := fun j h1 h2 => (hf9 (B j) (bk_ne hbk (i := j) (j := 3) (by omega) (by omega) (by omega))).trans (hof j h1 h2)
      have hfi : fn_iv (P + 64) (bk_A B) sg := fn_ivm hfi (hf9 (bk_A B 1) (bk_ne hbk (i := 31 + 1) (j := 3) (by decide) (by decide) (by decide))) (hf9 (bk_A B 2) (bk_ne hbk (i := 31 + 2) (j := 3) (by decide) (by decide) (by decide))) (hf9 (bk_A B 3) (bk_ne hbk (i := 31 + 3) (j := 3) (by decide) (by decide) (by decide)))
      refine lv_aload_n hx hb dX4_holds_50 rfl (lv_at hl 0 rfl) ?_
      refine bk_g C i4 hw hbk 7 (by decide) (v := .ref (B 4)) rfl dX4_holds_51 lk36 ?_
      refine lv_aload_n hx hb dX4_holds_54 rfl (lv_at hl 0 rfl) ?_
      refine bk_g C i4 hw hbk 5 (by decide) (v := .ref (B 2)) rfl dX4_holds_55 lk30 ?_
      refine lv_aload_n hx hb dX4_holds_58 rfl (lv_at hl 0 rfl) ?_
      refine bk_g C i4 hw hbk 8 (by decide) (v := .ref (B 5)) rfl dX4_holds_59 lk39 ?_
      refine sv_v (As := [.ref (B 2), .ref (B 5)]) (rest := []) C (v3_product _ _ _ _ _ hS (B 4) (B 2) (B 5) 8 2 (bk_in hbk (i := 4) (by omega)) (bk_in hbk (i := 2) (by omega)) (bk_in hbk (i := 5) (by omega)) (bk_ne hbk (i := 2) (j := 4) (by omega) (by omega) (by omega)) (bk_ne hbk (i := 5) (j := 4) (by omega) (by omega) (by omega)) (by rw [f_2]; exact (Nat.lt_of_le_of_lt he2 (by decide +kernel))) (by rw [f_5]; exact (Nat.lt_of_le_of_lt (i64_b y) (by decide +kernel))) (by decide)) (cwV 2 hts gX4_holds_X3_product rfl rfl rfl (by decide +kernel) ⟨Nat.le_of_ble_eq_true rfl, Nat.le_of_ble_eq_true rfl⟩) hsz hw (bd_recv C hw (bk_in hbk (i := 4) (by omega))) dX4_holds_62 rfl hl.1 rfl (Nat.le_of_ble_eq_true rfl) ⟨Nat.le_refl _, Nat.le_refl _⟩ (fun z sg H locs hv9 hf9 hS hw => ?_)
      have fT9 : sg (B 4) = ((mu kn + ra kn) * y.toInt) := hv9.trans (by rw [f_2, f_5])
      have f_1 : sg (B 1) = (mu kn - ra kn) := (hf9 (B 1) (bk_ne hbk (i := 1) (j := 4) (by omega) (by omega) (by omega))).trans f_1
      have f_2 : sg (B 2) = (mu kn + ra kn) := (hf9 (B 2) (bk_ne hbk (i := 2) (j := 4) (by omega) (by omega) (by omega))).trans f_2
      have f_5 : sg (B 5) = y.toInt := (hf9 (B 5) (bk_ne hbk (i := 5) (j := 4) (by omega) (by omega) (by omega))).trans f_5
      have f_3 : sg (B 3) = ((mu kn - ra kn) * y.toInt) := (hf9 (B 3) (bk_ne hbk (i := 3) (j := 4) (by omega) (by omega) (by omega))).trans f_3
      have f_4 := fT9
      have hof : ∀ j, (j = 0 ∨ 8 ≤ j) → j < 32 → sg (B j) = sg0 (B j) := fun j h1 h2 => (hf9 (B j) (bk_ne hbk (i := j) (j := 4) (by omega) (by omega) (by omega))).trans (hof j h1 h2)
      have hfi : fn_iv (P + 64) (bk_A B) sg := fn_ivm hfi (hf9 (bk_A B 1) (bk_ne hbk (i := 31 + 1) (j := 4) (by decide) (by decide) (by decide))) (hf9 (bk_A B 2) (bk_ne hbk (i := 31 + 2) (j := 4) (by decide) (by decide) (by decide))) (hf9 (bk_A B 3) (bk_ne hbk (i := 31 + 3) (j := 4) (by decide) (by decide) (by decide)))
      refine lv_aload_n hx hb dX4_holds_65 rfl (lv_at hl 0 rfl) ?_
      refine bk_g C i4 hw hbk 8 (by decide) (v := .ref (B 5)) rfl dX4_holds_66 lk39 ?_
      refine lv_lload_n hx hb dX4_holds_69 rfl (lv_at hl 2 rfl) ?_
      refine sv_v (As := [.long x]) (rest := []) C (v3_become _ _ _ _ _ hS (B 5) x (bk_in hbk (i := 5) (by omega))) (cwV 1 hts gX4_holds_X3_become rfl rfl rfl (by decide +kernel) ⟨Nat.le_of_ble_eq_true rfl, Nat.le_of_ble_eq_true rfl⟩) hsz hw (bd_recv C hw (bk_in hbk (i := 5) (by omega))) dX4_holds_70 rfl hl.1 rfl (Nat.le_of_ble_eq_true rfl) ⟨Nat.le_refl _, Nat.le_refl _⟩ (fun z sg H locs hv9 hf9 hS hw => ?_)
      have fT9 : sg (B 5) = x.toInt := hv9.trans (by rfl)
      have f_1 : sg (B 1) = (mu kn - ra kn) := (hf9 (B 1) (bk_ne hbk (i := 1) (j := 5) (by omega) (by omega) (by omega))).trans f_1
      have f_2 : sg (B 2) = (mu kn + ra kn) := (hf9 (B 2) (bk_ne hbk (i := 2) (j := 5) (by omega) (by omega) (by omega))).trans f_2
      have f_3 : sg (B 3) = ((mu kn - ra kn) * y.toInt) := (hf9 (B 3) (bk_ne hbk (i := 3) (j := 5) (by omega) (by omega) (by omega))).trans f_3
      have f_4 : sg (B 4) = ((mu kn + ra kn) * y.toInt) := (hf9 (B 4) (bk_ne hbk (i := 4) (j := 5) (by omega) (by omega) (by omega))).trans f_4
      have f_5 := fT9
      have hof : ∀ j, (j = 0 ∨ 8 ≤ j) → j < 32 → sg (B j) = sg0 (B j) := fun j h1 h2 => (hf9 (B j) (bk_ne hbk (i := j) (j := 5) (by omega) (by omega) (by omega))).trans (hof j h1 h2)
      have hfi : fn_iv (P + 64) (bk_A B) sg := fn_ivm hfi (hf9 (bk_A B 1) (bk_ne hbk (i := 31 + 1) (j := 5) (by decide) (by decide) (by decide))) (hf9 (bk_A B 2) (bk_ne hbk (i := 31 + 2) (j := 5) (by decide) (by decide) (by decide))) (hf9 (bk_A B 3) (bk_ne hbk (i := 31 + 3) (j := 5) (by decide) (by decide) (by decide)))
      refine lv_aload_n hx hb dX4_holds_73 rfl (lv_at hl 0 rfl) ?_
      refine bk_g C i4 hw hbk 8 (by decide) (v := .ref (B 5)) rfl dX4_holds_74 lk39 ?_
      refine lv_aload_n hx hb dX4_holds_77 rfl (lv_at hl 0 rfl) ?_
      refine bk_g C i4 hw hbk 0 (by decide) (v := .int (nI P)) rfl dX4_holds_78 lk58 ?_
      refine sv_v (As := [.int (nI P)]) (rest := []) C (v3_raise _ _ _ _ _ hS (B 5) P 2 (bk_in hbk (i := 5) (by omega)) (by omega) (by rw [f_5]; exact (Nat.lt_of_le_of_lt (i64_b x) (by decide +kernel))) (by omega)) (cwV 1 hts gX4_holds_X3_raise rfl rfl rfl (by decide +kernel) ⟨Nat.le_of_ble_eq_true rfl, Nat.le_of_ble_eq_true rfl⟩) hsz hw (bd_recv C hw (bk_in hbk (i := 5) (by omega))) dX4_holds_81 rfl hl.1 rfl (Nat.le_of_ble_eq_true rfl) ⟨Nat.le_refl _, Nat.le_refl _⟩ (fun z sg H locs hv9 hf9 hS hw => ?_)
      have fT9 : sg (B 5) = (x.toInt * dk_p P) := hv9.trans (by rw [f_5])
      have f_1 : sg (B 1) = (mu kn - ra kn) := (hf9 (B 1) (bk_ne hbk (i := 1) (j := 5) (by omega) (by omega) (by omega))).trans f_1
      have f_2 : sg (B 2) = (mu kn + ra kn) := (hf9 (B 2) (bk_ne hbk (i := 2) (j := 5) (by omega) (by omega) (by omega))).trans f_2
      have f_3 : sg (B 3) = ((mu kn - ra kn) * y.toInt) := (hf9 (B 3) (bk_ne hbk (i := 3) (j := 5) (by omega) (by omega) (by omega))).trans f_3
      have f_4 : sg (B 4) = ((mu kn + ra kn) * y.toInt) := (hf9 (B 4) (bk_ne hbk (i := 4) (j := 5) (by omega) (by omega) (by omega))).trans f_4
      have f_5 := fT9
      have hof : ∀ j, (j = 0 ∨ 8 ≤ j) → j < 32 → sg (B j) = sg0 (B j) := fun j h1 h2 => (hf9 (B j) (bk_ne hbk (i := j) (j := 5) (by omega) (by omega) (by omega))).trans (hof j h1 h2)
      have hfi : fn_iv (P + 64) (bk_A B) sg := fn_ivm hfi (hf9 (bk_A B 1) (bk_ne hbk (i := 31 + 1) (j := 5) (by decide) (by decide) (by decide))) (hf9 (bk_A B 2) (bk_ne hbk (i := 31 + 2) (j := 5) (by decide) (by decide) (by decide))) (hf9 (bk_A B 3) (bk_ne hbk (i := 31 + 3) (j := 5) (by decide) (by decide) (by decide)))
      refine lv_aload_n hx hb dX4_holds_84 rfl (lv_at hl 0 rfl) ?_
      refine bk_g C i4 hw hbk 6 (by decide) (v := .ref (B 3)) rfl dX4_holds_85 lk33 ?_
      refine lv_aload_n hx hb dX4_holds_88 rfl (lv_at hl 0 rfl) ?_
      refine bk_g C i4 hw hbk 8 (by decide) (v := .ref (B 5)) rfl dX4_holds_89 lk39 ?_
      refine bd_cip (As := [.ref (B 5)]) (rest := []) C (v3_order _ _ _ _ _ hS (B 3) (B 5) (bk_in hbk (i := 3) (by omega)) (bk_in hbk (i := 5) (by omega))) (cwV 1 hts gX4_holds_X3_order rfl rfl rfl (by decide +kernel) ⟨Nat.le_of_ble_eq_true rfl, Nat.le_of_ble_eq_true rfl⟩) hsz hw (bd_recv C hw (bk_in hbk (i := 3) (by omega))) dX4_holds_92 rfl hl.1 rfl (Nat.le_of_ble_eq_true rfl) ⟨Nat.le_refl _, Nat.le_refl _⟩ (fun H locs hw => ?_)
      rw [f_3, f_5]
      refine lv_if_gt (tgt := 116) hx hb dX4_holds_95 (by decide) (fun hc95 => ?_) (fun hc95 => ?_)
      · have hq95 := q3_gt.mp hc95
        refine lv_iconst (v := nI 0) hx hb dX4_holds_116 (by decide) ?_
        have hd : dk_holds P (nI kn) x.toInt y.toInt mu ra = (nI 0) := by unfold dk_holds; rw [if_pos ⟨hpl_kn, hyp⟩, hx_kn]; exact if_neg (fun q => absurd q.1 (Int.not_le.mpr hq95))
        exact bd_iret C hr hlk hw dX4_holds_117 ⟨hd.symm, hbk, sg, hS, bk_ivm hiv hof hfi⟩
      · have hq95 := Int.not_lt.mp (fun q => hc95 (q3_gt.mpr q))
        refine lv_aload_n hx hb dX4_holds_98 rfl (lv_at hl 0 rfl) ?_
        refine bk_g C i4 hw hbk 8 (by decide) (v := .ref (B 5)) rfl dX4_holds_99 lk39 ?_
        refine lv_aload_n hx hb dX4_holds_102 rfl (lv_at hl 0 rfl) ?_
        refine bk_g C i4 hw hbk 7 (by decide) (v := .ref (B 4)) rfl dX4_holds_103 lk36 ?_
        refine bd_cip (As := [.ref (B 4)]) (rest := []) C (v3_order _ _ _ _ _ hS (B 5) (B 4) (bk_in hbk (i := 5) (by omega)) (bk_in hbk (i := 4) (by omega))) (cwV 1 hts gX4_holds_X3_order rfl rfl rfl (by decide +kernel) ⟨Nat.le_of_ble_eq_true rfl, Nat.le_of_ble_eq_true rfl⟩) hsz hw (bd_recv C hw (bk_in hbk (i := 5) (by omega))) dX4_holds_106 rfl hl.1 rfl (Nat.le_of_ble_eq_true rfl) ⟨Nat.le_refl _, Nat.le_refl _⟩ (fun H locs hw => ?_)
        rw [f_5, f_4]
        refine lv_if_gt (tgt := 116) hx hb dX4_holds_109 (by decide) (fun hc109 => ?_) (fun hc109 => ?_)
        · have hq109 := q3_gt.mp hc109
          refine lv_iconst (v := nI 0) hx hb dX4_holds_116 (by decide) ?_
          have hd : dk_holds P (nI kn) x.toInt y.toInt mu ra = (nI 0) := by unfold dk_holds; rw [if_pos ⟨hpl_kn, hyp⟩, hx_kn]; exact if_neg (fun q => absurd q.2 (Int.not_le.mpr hq109))
          exact bd_iret C hr hlk hw dX4_holds_117 ⟨hd.symm, hbk, sg, hS, bk_ivm hiv hof hfi⟩
        · have hq109 := Int.not_lt.mp (fun q => hc109 (q3_gt.mpr q))
          refine lv_iconst (v := nI 1) hx hb dX4_holds_112 (by decide) ?_
          refine lv_goto (tgt := 117) hx hb dX4_holds_113 (by decide) ?_
          have hd : dk_holds P (nI kn) x.toInt y.toInt mu ra = (nI 1) := by unfold dk_holds; rw [if_pos ⟨hpl_kn, hyp⟩, hx_kn]; exact if_pos ⟨hq95, hq109⟩
          exact bd_iret C hr hlk hw dX4_holds_117 ⟨hd.symm, hbk, sg, hS, bk_ivm hiv hof hfi⟩
    · rw [lg_q3] at hc11
      have hno : ¬ 0 < y.toInt := fun q => hc11 (q3_gt.mpr q)
      refine lv_iconst (v := (-1)) hx hb dX4_holds_14 (by decide) ?_
      have hd : dk_holds P (nI kn) x.toInt y.toInt mu ra = (-1) := if_neg (fun q => hno q.2)
      exact bd_iret C hr hlk hw dX4_holds_15 ⟨hd.symm, hbk, sg0, hS, bk_ivm hiv hof hfi⟩
