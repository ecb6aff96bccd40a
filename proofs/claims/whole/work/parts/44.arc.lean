/-! Fine.halveArc, arcOf (laid by wip/gen/m_fine7.py) -/
theorem arc_flip {Q : Nat} {t : Int} (h : ((2 ^ Q : Nat) : Int) < t) : 0 ≤ ((2 ^ (2 * Q) : Nat) : Int) / t ∧ ((2 ^ (2 * Q) : Nat) : Int) / t ≤ ((2 ^ Q : Nat) : Int) := by
  have hp : 0 < 2 ^ Q := Nat.pow_pos (by decide)
  have ht : 0 < t := by omega
  have h1 : ((2 ^ (2 * Q) : Nat) : Int) / t * t ≤ ((2 ^ (2 * Q) : Nat) : Int) := Int.ediv_mul_le _ (by omega)
  have h2 : 0 ≤ ((2 ^ (2 * Q) : Nat) : Int) / t := Int.ediv_nonneg (Int.natCast_nonneg _) (by omega)
  refine ⟨h2, ?_⟩
  rw [sp_pw2, Int.natCast_mul] at *
  have h3 : (0 : Int) < ((2 ^ Q : Nat) : Int) := by omega
  generalize ((2 ^ Q : Nat) : Int) = D at *
  have h4 : D * D / t * D ≤ D * D / t * t := Int.mul_le_mul_of_nonneg_left (by omega) h2
  have h5 : D * D / t * D ≤ D * D := by omega
  exact Int.le_of_mul_le_mul_right h5 h3
set_option maxHeartbeats 4000000 in
set_option maxRecDepth 100000 in
/-- Fine.halveArc(x) -/
theorem f_halveArc (l : Launch) (K : Cxt) (E0 : Nat → va_E) (z0 : Nat → Wh) (sz : Nat) {fo Q dv rs bs : Nat} {A : Nat → Nat} (hfn : fn_at K E0 fo Q dv rs bs A) {sg0 : Nat → Int} (hS : sg_S K z0 sg0) (x : Nat) (hmx : x ∈ bd_N K) (hxA : ∀ i, 1 ≤ i ∧ i ≤ 10 → x ≠ A i) (h1v : sg0 (A 1) = ((2 ^ Q : Nat) : Int)) (hb0 : 0 ≤ sg0 x) (hb1 : sg0 x ≤ ((2 ^ Q : Nat) : Int)) : Met l yX2_halveArc wsX2_halveArc ({ frames := 5, cells := 0, slots := 0, locals := 170 }) (va_Pc [.ref fo, .ref x] (bd_P K E0 z0 sz)) (va_Qv (fun u => fn_at K u.1 fo Q dv rs bs A ∧ dv_fr dv rs bs E0 u.1 ∧ ∃ sg1 : Nat → Int, sg_S K u.2 sg1 ∧ sg1 x = sp_HV Q (sg0 x) ∧ ∀ a, a ≠ x → (∀ i, i ∈ ([6, 8, 9, 10] : List Nat) → a ≠ A i) → sg1 a = sg0 a) (bd_B K) (bd_A K sz)) 0 0 (bd_A K sz) := by
  refine bd_ofW (cc := cX2_halveArc) (maxL := 2) (ret := none) (by decide) rfl (Nat.le_of_ble_eq_true rfl) ?_
  intro p e s m below meth c ls C hr hlk hsz hw hl
  have hx := C.1
  have hb := C.2.1
  have hown := C.2.2.2.1
  have hts := C.2.2.2.2.1
  have i2 : ∀ w ∈ wsX20, w ∈ wsX2_halveArc := by decide +kernel
  have lk41 : Cond.fieldLink RX2 41 "BallDesk$Fine" "other" "LBallDesk$Whole;" ∈ wsX2_halveArc := by decide +kernel
  have lk35 : Cond.fieldLink RX2 35 "BallDesk$Fine" "term" "LBallDesk$Whole;" ∈ wsX2_halveArc := by decide +kernel
  have lk50 : Cond.fieldLink RX2 50 "BallDesk$Fine" "bits" "I" ∈ wsX2_halveArc := by decide +kernel
  have lk10 : Cond.fieldLink RX2 10 "BallDesk$Fine" "one" "LBallDesk$Whole;" ∈ wsX2_halveArc := by decide +kernel
  have lk19 : Cond.fieldLink RX2 19 "BallDesk$Fine" "division" "LBallDesk$Division;" ∈ wsX2_halveArc := by decide +kernel
  have hoe : dv_fr dv rs bs E0 E0 := dv_rf
  obtain ⟨hQ1, hQ2⟩ := fn_Q hfn
  have hl : lv_has ls 2 [(0, .ref fo), (1, .ref x)] := hl
  have hp256 : (2 : Nat) ^ Q ≤ 2 ^ 256 := Nat.pow_le_pow_right (by decide) hQ2
  have hp80 : (2 : Nat) ^ 80 ≤ 2 ^ Q := Nat.pow_le_pow_right (by decide) hQ1
  have hDp : (0 : Int) < ((2 ^ Q : Nat) : Int) := by omega
  have hp512 : (2 : Nat) ^ (2 * Q) ≤ 2 ^ 512 := Nat.pow_le_pow_right (by decide) (by omega)
  have hD2p : (0 : Int) ≤ ((2 ^ (2 * Q) : Nat) : Int) := Int.natCast_nonneg _
  have f_x : sg0 x = sg0 x := rfl
  have f_1 := h1v
  have hof : ∀ a, a ≠ x → (∀ i, i ∈ ([6, 8, 9, 10] : List Nat) → a ≠ A i) → sg0 a = sg0 a := fun _ _ _ => rfl
  have hxb : (sg0 x).natAbs ≤ 2 ^ 256 := by omega
  have hxx : (sg0 x * sg0 x).natAbs ≤ 2 ^ 512 := Nat.le_trans (mul_b hxb hxb) (by decide +kernel)
  have hrb := sp_ROOTb (sg0 x * sg0 x + ((2 ^ (2 * Q) : Nat) : Int))
  have hrg := sp_rtge (Q := Q) (t := sg0 x)
  have hxD : (sg0 x * ((2 ^ Q : Nat) : Int)).natAbs ≤ 2 ^ 512 := Nat.le_trans (mul_b hxb (show (((2 ^ Q : Nat) : Int) : Int).natAbs ≤ 2 ^ 256 by omega)) (by decide +kernel)
  refine lv_aload_n hx hb dX2_halveArc_0 rfl (lv_at hl 0 rfl) ?_
  refine fn_g C i2 hw hfn 9 (by decide) (v := .ref (A 8)) rfl dX2_halveArc_1 lk41 ?_
  refine lv_aload_n hx hb dX2_halveArc_4 rfl (lv_at hl 1 rfl) ?_
  refine lv_aload_n hx hb dX2_halveArc_5 rfl (lv_at hl 1 rfl) ?_
  refine sv_v (As := [.ref x, .ref x]) (rest := []) C (v3_product _ _ _ _ _ hS (A 8) x x 9 9 (fn_in hfn (i := 8) (by decide)) hmx hmx (hxA 8 (by decide)) (hxA 8 (by decide)) (by rw [f_x]; exact b9 (by omega)) (by rw [f_x]; exact b9 (by omega)) (by decide)) (cwV 2 hts gX2_halveArc_X3_product rfl rfl rfl (by decide +kernel) ⟨Nat.le_of_ble_eq_true rfl, Nat.le_of_ble_eq_true rfl⟩) hsz hw (bd_recv C hw (fn_in hfn (i := 8) (by decide))) dX2_halveArc_6 rfl hl.1 rfl (Nat.le_of_ble_eq_true rfl) ⟨Nat.le_refl _, Nat.le_refl _⟩ (fun z sg H locs hv9 hf9 hS hw => ?_)
  have fT9 : sg (A 8) = (sg0 x * sg0 x) := hv9.trans (by rw [f_x])
  have f_x : sg x = sg0 x := (hf9 x (hxA 8 (by decide))).trans f_x
  have f_1 : sg (A 1) = ((2 ^ Q : Nat) : Int) := (hf9 (A 1) (fn_ne hfn (i := 1) (j := 8) (by decide) (by decide) (by decide))).trans f_1
  have f_8 := fT9
  have hof : ∀ a, a ≠ x → (∀ i, i ∈ ([6, 8, 9, 10] : List Nat) → a ≠ A i) → sg a = sg0 a := fun a h1 h2 => (hf9 a (h2 8 (by decide))).trans (hof a h1 h2)
  refine lv_aload_n hx hb dX2_halveArc_9 rfl (lv_at hl 0 rfl) ?_
  refine fn_g C i2 hw hfn 7 (by decide) (v := .ref (A 6)) rfl dX2_halveArc_10 lk35 ?_
  refine lv_iconst (v := nI 2) hx hb dX2_halveArc_13 (by decide) ?_
  refine lv_aload_n hx hb dX2_halveArc_14 rfl (lv_at hl 0 rfl) ?_
  refine fn_g C i2 hw hfn 0 (by decide) (v := .int (nI Q)) rfl dX2_halveArc_15 lk50 ?_
  refine bd_imul (v := (nI (2 * Q))) hx hb dX2_halveArc_18 (pk_mul _ _) ?_
  refine sv_v (As := [.int (nI (2 * Q))]) (rest := []) C (v3_becomePower _ _ _ _ _ hS (A 6) (2 * Q) (fn_in hfn (i := 6) (by decide)) (by omega)) (cwV 1 hts gX2_halveArc_X3_becomePower rfl rfl rfl (by decide +kernel) ⟨Nat.le_of_ble_eq_true rfl, Nat.le_of_ble_eq_true rfl⟩) hsz hw (bd_recv C hw (fn_in hfn (i := 6) (by decide))) dX2_halveArc_19 rfl hl.1 rfl (Nat.le_of_ble_eq_true rfl) ⟨Nat.le_refl _, Nat.le_refl _⟩ (fun z sg H locs hv9 hf9 hS hw => ?_)
  have fT9 : sg (A 6) = ((2 ^ (2 * Q) : Nat) : Int) := hv9.trans (by rfl)
  have f_x : sg x = sg0 x := (hf9 x (hxA 6 (by decide))).trans f_x
  have f_1 : sg (A 1) = ((2 ^ Q : Nat) : Int) := (hf9 (A 1) (fn_ne hfn (i := 1) (j := 6) (by decide) (by decide) (by decide))).trans f_1
  have f_8 : sg (A 8) = (sg0 x * sg0 x) := (hf9 (A 8) (fn_ne hfn (i := 8) (j := 6) (by decide) (by decide) (by decide))).trans f_8
  have f_6 := fT9
  have hof : ∀ a, a ≠ x → (∀ i, i ∈ ([6, 8, 9, 10] : List Nat) → a ≠ A i) → sg a = sg0 a := fun a h1 h2 => (hf9 a (h2 6 (by decide))).trans (hof a h1 h2)
  refine lv_aload_n hx hb dX2_halveArc_22 rfl (lv_at hl 0 rfl) ?_
  refine fn_g C i2 hw hfn 9 (by decide) (v := .ref (A 8)) rfl dX2_halveArc_23 lk41 ?_
  refine lv_aload_n hx hb dX2_halveArc_26 rfl (lv_at hl 0 rfl) ?_
  refine fn_g C i2 hw hfn 9 (by decide) (v := .ref (A 8)) rfl dX2_halveArc_27 lk41 ?_
  refine lv_aload_n hx hb dX2_halveArc_30 rfl (lv_at hl 0 rfl) ?_
  refine fn_g C i2 hw hfn 7 (by decide) (v := .ref (A 6)) rfl dX2_halveArc_31 lk35 ?_
  refine sv_v (As := [.ref (A 8), .ref (A 6)]) (rest := []) C (v3_sum _ _ _ _ _ hS (A 8) (A 8) (A 6) (fn_in hfn (i := 8) (by decide)) (fn_in hfn (i := 8) (by decide)) (fn_in hfn (i := 6) (by decide)) (by rw [f_8, f_6]; exact b24 (by omega))) (cwV 2 hts gX2_halveArc_X3_sum rfl rfl rfl (by decide +kernel) ⟨Nat.le_of_ble_eq_true rfl, Nat.le_of_ble_eq_true rfl⟩) hsz hw (bd_recv C hw (fn_in hfn (i := 8) (by decide))) dX2_halveArc_34 rfl hl.1 rfl (Nat.le_of_ble_eq_true rfl) ⟨Nat.le_refl _, Nat.le_refl _⟩ (fun z sg H locs hv9 hf9 hS hw => ?_)
  have fT9 : sg (A 8) = (sg0 x * sg0 x + ((2 ^ (2 * Q) : Nat) : Int)) := hv9.trans (by rw [f_8, f_6])
  have f_x : sg x = sg0 x := (hf9 x (hxA 8 (by decide))).trans f_x
  have f_1 : sg (A 1) = ((2 ^ Q : Nat) : Int) := (hf9 (A 1) (fn_ne hfn (i := 1) (j := 8) (by decide) (by decide) (by decide))).trans f_1
  have f_6 : sg (A 6) = ((2 ^ (2 * Q) : Nat) : Int) := (hf9 (A 6) (fn_ne hfn (i := 6) (j := 8) (by decide) (by decide) (by decide))).trans f_6
  have f_8 := fT9
  have hof : ∀ a, a ≠ x → (∀ i, i ∈ ([6, 8, 9, 10] : List Nat) → a ≠ A i) → sg a = sg0 a := fun a h1 h2 => (hf9 a (h2 8 (by decide))).trans (hof a h1 h2)
  refine lv_aload_n hx hb dX2_halveArc_37 rfl (lv_at hl 0 rfl) ?_
  refine lv_aload_n hx hb dX2_halveArc_38 rfl (lv_at hl 0 rfl) ?_
  refine fn_g C i2 hw hfn 9 (by decide) (v := .ref (A 8)) rfl dX2_halveArc_39 lk41 ?_
  refine bd_cv (As := [.ref (A 8)]) (rest := []) C (f_squareRoot _ _ _ _ _ hfn hS (A 8) (fn_in hfn (i := 8) (by decide)) (fun i hi => fn_ne hfn (i := 8) (j := i) (by decide) (by omega) (by omega)) (by rw [f_8]; omega)) (cwV 1 hts gX2_halveArc_X2_squareRoot rfl rfl rfl (by decide +kernel) ⟨Nat.le_of_ble_eq_true rfl, Nat.le_of_ble_eq_true rfl⟩) hsz hw (fn_recv C hw hfn) dX2_halveArc_42 rfl hl.1 rfl (Nat.le_of_ble_eq_true rfl) ⟨Nat.le_refl _, Nat.le_refl _⟩ (fun E z H locs hp hw => ?_)
  obtain ⟨hfn, hfe9, sg, hS, hv9, hf9⟩ := hp
  have hoe := dv_tr hfe9 hoe
  have fT9 : sg (A 8) = (sp_ROOT (sg0 x * sg0 x + ((2 ^ (2 * Q) : Nat) : Int))) := hv9.trans (by rw [f_8])
  have f_x : sg x = sg0 x := (hf9 x (hxA 8 (by decide)) (la_c (hxA 9 (by decide)) (la_c (hxA 10 (by decide)) la_n))).trans f_x
  have f_1 : sg (A 1) = ((2 ^ Q : Nat) : Int) := (hf9 (A 1) (fn_ne hfn (i := 1) (j := 8) (by decide) (by decide) (by decide)) (la_c (fn_ne hfn (i := 1) (j := 9) (by decide) (by decide) (by decide)) (la_c (fn_ne hfn (i := 1) (j := 10) (by decide) (by decide) (by decide)) la_n))).trans f_1
  have f_6 : sg (A 6) = ((2 ^ (2 * Q) : Nat) : Int) := (hf9 (A 6) (fn_ne hfn (i := 6) (j := 8) (by decide) (by decide) (by decide)) (la_c (fn_ne hfn (i := 6) (j := 9) (by decide) (by decide) (by decide)) (la_c (fn_ne hfn (i := 6) (j := 10) (by decide) (by decide) (by decide)) la_n))).trans f_6
  have f_8 := fT9
  have hof : ∀ a, a ≠ x → (∀ i, i ∈ ([6, 8, 9, 10] : List Nat) → a ≠ A i) → sg a = sg0 a := fun a h1 h2 => (hf9 a (h2 8 (by decide)) (la_c (h2 9 (by decide)) (la_c (h2 10 (by decide)) la_n))).trans (hof a h1 h2)
  refine lv_aload_n hx hb dX2_halveArc_45 rfl (lv_at hl 0 rfl) ?_
  refine fn_g C i2 hw hfn 9 (by decide) (v := .ref (A 8)) rfl dX2_halveArc_46 lk41 ?_
  refine lv_aload_n hx hb dX2_halveArc_49 rfl (lv_at hl 0 rfl) ?_
  refine fn_g C i2 hw hfn 9 (by decide) (v := .ref (A 8)) rfl dX2_halveArc_50 lk41 ?_
  refine lv_aload_n hx hb dX2_halveArc_53 rfl (lv_at hl 0 rfl) ?_
  refine fn_g C i2 hw hfn 1 (by decide) (v := .ref (A 1)) rfl dX2_halveArc_54 lk10 ?_
  refine sv_v (As := [.ref (A 8), .ref (A 1)]) (rest := []) C (v3_sum _ _ _ _ _ hS (A 8) (A 8) (A 1) (fn_in hfn (i := 8) (by decide)) (fn_in hfn (i := 8) (by decide)) (fn_in hfn (i := 1) (by decide)) (by rw [f_8, f_1]; exact b24 (by omega))) (cwV 2 hts gX2_halveArc_X3_sum rfl rfl rfl (by decide +kernel) ⟨Nat.le_of_ble_eq_true rfl, Nat.le_of_ble_eq_true rfl⟩) hsz hw (bd_recv C hw (fn_in hfn (i := 8) (by decide))) dX2_halveArc_57 rfl hl.1 rfl (Nat.le_of_ble_eq_true rfl) ⟨Nat.le_refl _, Nat.le_refl _⟩ (fun z sg H locs hv9 hf9 hS hw => ?_)
  have fT9 : sg (A 8) = ((sp_ROOT (sg0 x * sg0 x + ((2 ^ (2 * Q) : Nat) : Int))) + ((2 ^ Q : Nat) : Int)) := hv9.trans (by rw [f_8, f_1])
  have f_x : sg x = sg0 x := (hf9 x (hxA 8 (by decide))).trans f_x
  have f_1 : sg (A 1) = ((2 ^ Q : Nat) : Int) := (hf9 (A 1) (fn_ne hfn (i := 1) (j := 8) (by decide) (by decide) (by decide))).trans f_1
  have f_6 : sg (A 6) = ((2 ^ (2 * Q) : Nat) : Int) := (hf9 (A 6) (fn_ne hfn (i := 6) (j := 8) (by decide) (by decide) (by decide))).trans f_6
  have f_8 := fT9
  have hof : ∀ a, a ≠ x → (∀ i, i ∈ ([6, 8, 9, 10] : List Nat) → a ≠ A i) → sg a = sg0 a := fun a h1 h2 => (hf9 a (h2 8 (by decide))).trans (hof a h1 h2)
  refine lv_aload_n hx hb dX2_halveArc_60 rfl (lv_at hl 1 rfl) ?_
  refine lv_aload_n hx hb dX2_halveArc_61 rfl (lv_at hl 0 rfl) ?_
  refine fn_g C i2 hw hfn 0 (by decide) (v := .int (nI Q)) rfl dX2_halveArc_62 lk50 ?_
  refine sv_v (As := [.int (nI Q)]) (rest := []) C (v3_raise _ _ _ _ _ hS x Q 9 hmx (by omega) (by rw [f_x]; exact b9 (by omega)) (by omega)) (cwV 1 hts gX2_halveArc_X3_raise rfl rfl rfl (by decide +kernel) ⟨Nat.le_of_ble_eq_true rfl, Nat.le_of_ble_eq_true rfl⟩) hsz hw (bd_recv C hw hmx) dX2_halveArc_65 rfl hl.1 rfl (Nat.le_of_ble_eq_true rfl) ⟨Nat.le_refl _, Nat.le_refl _⟩ (fun z sg H locs hv9 hf9 hS hw => ?_)
  have fT9 : sg x = (sg0 x * ((2 ^ Q : Nat) : Int)) := hv9.trans (by rw [f_x])
  have f_1 : sg (A 1) = ((2 ^ Q : Nat) : Int) := (hf9 (A 1) (hxA 1 (by decide)).symm).trans f_1
  have f_8 : sg (A 8) = ((sp_ROOT (sg0 x * sg0 x + ((2 ^ (2 * Q) : Nat) : Int))) + ((2 ^ Q : Nat) : Int)) := (hf9 (A 8) (hxA 8 (by decide)).symm).trans f_8
  have f_6 : sg (A 6) = ((2 ^ (2 * Q) : Nat) : Int) := (hf9 (A 6) (hxA 6 (by decide)).symm).trans f_6
  have f_x := fT9
  have hof : ∀ a, a ≠ x → (∀ i, i ∈ ([6, 8, 9, 10] : List Nat) → a ≠ A i) → sg a = sg0 a := fun a h1 h2 => (hf9 a h1).trans (hof a h1 h2)
  refine lv_aload_n hx hb dX2_halveArc_68 rfl (lv_at hl 0 rfl) ?_
  refine fn_g C i2 hw hfn 2 (by decide) (v := .ref dv) rfl dX2_halveArc_69 lk19 ?_
  refine lv_aload_n hx hb dX2_halveArc_72 rfl (lv_at hl 1 rfl) ?_
  refine lv_aload_n hx hb dX2_halveArc_73 rfl (lv_at hl 1 rfl) ?_
  refine lv_aload_n hx hb dX2_halveArc_74 rfl (lv_at hl 0 rfl) ?_
  refine fn_g C i2 hw hfn 9 (by decide) (v := .ref (A 8)) rfl dX2_halveArc_75 lk41 ?_
  refine sv_q (As := [.ref x, .ref x, .ref (A 8)]) (rest := []) C (v1_quotient _ _ _ _ _ hS dv rs bs x x (A 8) (fn_dv hfn) hmx hmx (fn_in hfn (i := 8) (by decide)) (by rw [f_8]; exact (by omega)) (by rw [f_x]; exact b24 (by omega))) (cwV 3 hts gX2_halveArc_X1_quotient rfl rfl rfl (by decide +kernel) ⟨Nat.le_of_ble_eq_true rfl, Nat.le_of_ble_eq_true rfl⟩) hsz hw (dv_recv2 C hw (fn_dv hfn)) dX2_halveArc_78 rfl hl.1 rfl (Nat.le_of_ble_eq_true rfl) ⟨Nat.le_refl _, Nat.le_refl _⟩ (fun E z sg H locs hd9 hfe9 hv9 hf9 hS hw => ?_)
  have hfn := fn_mv hfn hd9 hfe9
  have hoe := dv_tr hfe9 hoe
  have fT9 : sg x = (sp_HV Q (sg0 x)) := hv9.trans (by rw [f_x, f_8]; rfl)
  have f_1 : sg (A 1) = ((2 ^ Q : Nat) : Int) := (hf9 (A 1) (hxA 1 (by decide)).symm).trans f_1
  have f_8 : sg (A 8) = ((sp_ROOT (sg0 x * sg0 x + ((2 ^ (2 * Q) : Nat) : Int))) + ((2 ^ Q : Nat) : Int)) := (hf9 (A 8) (hxA 8 (by decide)).symm).trans f_8
  have f_6 : sg (A 6) = ((2 ^ (2 * Q) : Nat) : Int) := (hf9 (A 6) (hxA 6 (by decide)).symm).trans f_6
  have f_x := fT9
  have hof : ∀ a, a ≠ x → (∀ i, i ∈ ([6, 8, 9, 10] : List Nat) → a ≠ A i) → sg a = sg0 a := fun a h1 h2 => (hf9 a h1).trans (hof a h1 h2)
  refine lv_pop hx hb dX2_halveArc_81 rfl ?_
  exact bd_vret C hr hlk hw dX2_halveArc_82 ⟨hfn, hoe, sg, hS, f_x, hof⟩
set_option maxHeartbeats 4000000 in
set_option maxRecDepth 100000 in
/-- Fine.arcOf(x): ATAN -/
theorem f_arcOf (l : Launch) (K : Cxt) (E0 : Nat → va_E) (z0 : Nat → Wh) (sz : Nat) {fo Q dv rs bs : Nat} {A : Nat → Nat} (hfn : fn_at K E0 fo Q dv rs bs A) {sg0 : Nat → Int} (hS : sg_S K z0 sg0) (x : Nat) (hmx : x ∈ bd_N K) (hxA : ∀ i, 1 ≤ i ∧ i ≤ 10 → x ≠ A i) (hiv0 : fn_iv Q A sg0) (hb1 : (sg0 x).natAbs ≤ 2 ^ 310) : Met l yX2_arcOf wsX2_arcOf ({ frames := 6, cells := 0, slots := 0, locals := 200 }) (va_Pc [.ref fo, .ref x] (bd_P K E0 z0 sz)) (va_Qv (fun u => fn_at K u.1 fo Q dv rs bs A ∧ dv_fr dv rs bs E0 u.1 ∧ ∃ sg1 : Nat → Int, sg_S K u.2 sg1 ∧ fn_iv Q A sg1 ∧ sg1 x = sp_AT Q (sg0 x) ∧ ∀ a, a ≠ x → (∀ i, i ∈ ([2, 4, 5, 6, 7, 8, 9, 10] : List Nat) → a ≠ A i) → sg1 a = sg0 a) (bd_B K) (bd_A K sz)) 0 0 (bd_A K sz) := by
  refine bd_ofW (cc := cX2_arcOf) (maxL := 5) (ret := none) (by decide) rfl (Nat.le_of_ble_eq_true rfl) ?_
  intro p e s m below meth c ls C hr hlk hsz hw hl
  have hx := C.1
  have hb := C.2.1
  have hown := C.2.2.2.1
  have hts := C.2.2.2.2.1
  have i2 : ∀ w ∈ wsX20, w ∈ wsX2_arcOf := by decide +kernel
  have lk10 : Cond.fieldLink RX2 10 "BallDesk$Fine" "one" "LBallDesk$Whole;" ∈ wsX2_arcOf := by decide +kernel
  have lk41 : Cond.fieldLink RX2 41 "BallDesk$Fine" "other" "LBallDesk$Whole;" ∈ wsX2_arcOf := by decide +kernel
  have lk50 : Cond.fieldLink RX2 50 "BallDesk$Fine" "bits" "I" ∈ wsX2_arcOf := by decide +kernel
  have lk19 : Cond.fieldLink RX2 19 "BallDesk$Fine" "division" "LBallDesk$Division;" ∈ wsX2_arcOf := by decide +kernel
  have hoe : dv_fr dv rs bs E0 E0 := dv_rf
  obtain ⟨hQ1, hQ2⟩ := fn_Q hfn
  have hl : lv_has ls 5 [(0, .ref fo), (1, .ref x)] := hl
  have hp256 : (2 : Nat) ^ Q ≤ 2 ^ 256 := Nat.pow_le_pow_right (by decide) hQ2
  have hp80 : (2 : Nat) ^ 80 ≤ 2 ^ Q := Nat.pow_le_pow_right (by decide) hQ1
  have hDp : (0 : Int) < ((2 ^ Q : Nat) : Int) := by omega
  have hp512 : (2 : Nat) ^ (2 * Q) ≤ 2 ^ 512 := Nat.pow_le_pow_right (by decide) (by omega)
  have hD2p : (0 : Int) ≤ ((2 ^ (2 * Q) : Nat) : Int) := Int.natCast_nonneg _
  have f_x : sg0 x = sg0 x := rfl
  have f_1 := hiv0.1
  have f_2 : sg0 (A 2) = sg0 (A 2) := rfl
  have f_3 : sg0 (A 3) = sg0 (A 3) := rfl
  have hof : ∀ a, a ≠ x → (∀ i, i ∈ ([2, 4, 5, 6, 7, 8, 9, 10] : List Nat) → a ≠ A i) → sg0 a = sg0 a := fun _ _ _ => rfl
  obtain ⟨hPI1, hPI2⟩ := sp_PIb hQ1
  refine lv_aload_n hx hb dX2_arcOf_0 rfl (lv_at hl 1 rfl) ?_
  refine bd_cip (As := []) (rest := []) C (v3_sign _ _ _ _ _ hS x hmx) (cwV 0 hts gX2_arcOf_X3_sign rfl rfl rfl (by decide +kernel) ⟨Nat.le_of_ble_eq_true rfl, Nat.le_of_ble_eq_true rfl⟩) hsz hw (bd_recv C hw hmx) dX2_arcOf_1 rfl hl.1 rfl (Nat.le_of_ble_eq_true rfl) ⟨Nat.le_refl _, Nat.le_refl _⟩ (fun H locs hw => ?_)
  refine lv_if_ge (tgt := 11) hx hb dX2_arcOf_4 (by decide) (fun hc4 => ?_) (fun hc4 => ?_)
  · have hsn : ¬ sg0 x < 0 := Int.not_lt.mpr (q3_ge.mp hc4)
    refine lv_iconst (v := nI 0) hx hb dX2_arcOf_11 (by decide) ?_
    refine lv_istore_n (lv' := [(2, .int (nI 0)), (0, .ref fo), (1, .ref x)]) hx hb dX2_arcOf_12 rfl hl (by decide) rfl (fun ls hl => ?_)
    refine lv_aload_n hx hb dX2_arcOf_13 rfl (lv_at hl 2 rfl) ?_
    refine sv_v (As := []) (rest := []) C (v3_dropSign _ _ _ _ _ hS x hmx) (cwV 0 hts gX2_arcOf_X3_dropSign rfl rfl rfl (by decide +kernel) ⟨Nat.le_of_ble_eq_true rfl, Nat.le_of_ble_eq_true rfl⟩) hsz hw (bd_recv C hw hmx) dX2_arcOf_14 rfl hl.1 rfl (Nat.le_of_ble_eq_true rfl) ⟨Nat.le_refl _, Nat.le_refl _⟩ (fun z sg H locs hv9 hf9 hS hw => ?_)
    have fT9 : sg x = ((sg0 x).natAbs : Int) := hv9.trans (by rw [f_x])
    have f_1 : sg (A 1) = ((2 ^ Q : Nat) : Int) := (hf9 (A 1) (hxA 1 (by decide)).symm).trans f_1
    have f_2 : sg (A 2) = sg0 (A 2) := (hf9 (A 2) (hxA 2 (by decide)).symm).trans f_2
    have f_3 : sg (A 3) = sg0 (A 3) := (hf9 (A 3) (hxA 3 (by decide)).symm).trans f_3
    have f_x := fT9
    have hof : ∀ a, a ≠ x → (∀ i, i ∈ ([2, 4, 5, 6, 7, 8, 9, 10] : List Nat) → a ≠ A i) → sg a = sg0 a := fun a h1 h2 => (hf9 a h1).trans (hof a h1 h2)
    refine lv_aload_n hx hb dX2_arcOf_17 rfl (lv_at hl 2 rfl) ?_
    refine lv_aload_n hx hb dX2_arcOf_18 rfl (lv_at hl 1 rfl) ?_
    refine fn_g C i2 hw hfn 1 (by decide) (v := .ref (A 1)) rfl dX2_arcOf_19 lk10 ?_
    refine bd_cip (As := [.ref (A 1)]) (rest := []) C (v3_order _ _ _ _ _ hS x (A 1) hmx (fn_in hfn (i := 1) (by decide))) (cwV 1 hts gX2_arcOf_X3_order rfl rfl rfl (by decide +kernel) ⟨Nat.le_of_ble_eq_true rfl, Nat.le_of_ble_eq_true rfl⟩) hsz hw (bd_recv C hw hmx) dX2_arcOf_22 rfl hl.1 rfl (Nat.le_of_ble_eq_true rfl) ⟨Nat.le_refl _, Nat.le_refl _⟩ (fun H locs hw => ?_)
    rw [f_x, f_1]
    refine lv_if_le (tgt := 32) hx hb dX2_arcOf_25 (by decide) (fun hc25 => ?_) (fun hc25 => ?_)
    · have hst : ¬ ((2 ^ Q : Nat) : Int) < ((sg0 x).natAbs : Int) := Int.not_lt.mpr (q3_le.mp hc25)
      obtain ⟨T, hT, hT0, hTD⟩ : ∃ T : Int, T = ((sg0 x).natAbs : Int) ∧ 0 ≤ T ∧ T ≤ ((2 ^ Q : Nat) : Int) := ⟨_, rfl, by omega, by omega⟩
      rw [← hT] at f_x
      refine lv_iconst (v := nI 0) hx hb dX2_arcOf_32 (by decide) ?_
      refine lv_istore_n (lv' := [(3, .int (nI 0)), (2, .int (nI 0)), (0, .ref fo), (1, .ref x)]) hx hb dX2_arcOf_33 rfl hl (by decide) rfl (fun ls hl => ?_)
      refine lv_iload_n hx hb dX2_arcOf_34 rfl (lv_at hl 0 rfl) ?_
      refine bd_zeq (h1 := (by decide)) (tgt := 65) hx hb dX2_arcOf_35 (by decide) (fun hck => ?_) (fun hck => ?_)
      · refine lv_iconst (v := nI 0) hx hb dX2_arcOf_65 (by decide) ?_
        refine lv_istore (lv' := [(4, .int (nI 0)), (3, .int (nI 0)), (2, .int (nI 0)), (0, .ref fo), (1, .ref x)]) hx hb dX2_arcOf_66 hl (by decide) rfl (fun ls hl => ?_)
        refine lv_iload hx hb dX2_arcOf_68 (lv_at hl 0 rfl) ?_
        refine lv_iconst (v := nI 3) hx hb dX2_arcOf_70 (by decide) ?_
        refine bd_ige (h1 := (by decide)) (h2 := (by decide)) (tgt := 85) hx hb dX2_arcOf_71 (by decide) (fun hck => ?_) (fun hck => ?_)
        · exact absurd hck (by decide)
        · refine lv_aload_n hx hb dX2_arcOf_74 rfl (lv_at hl 3 rfl) ?_
          refine lv_aload_n hx hb dX2_arcOf_75 rfl (lv_at hl 4 rfl) ?_
          have hv1 := sp_HVb (Q := Q) (t := T) (by omega)
          refine bd_cv (As := [.ref x]) (rest := []) C (f_halveArc _ _ _ _ _ hfn hS x hmx hxA f_1 (by rw [f_x]; omega) (by rw [f_x]; omega)) (cwV 1 hts gX2_arcOf_X2_halveArc rfl rfl rfl (by decide +kernel) ⟨Nat.le_of_ble_eq_true rfl, Nat.le_of_ble_eq_true rfl⟩) hsz hw (fn_recv C hw hfn) dX2_arcOf_76 rfl hl.1 rfl (Nat.le_of_ble_eq_true rfl) ⟨Nat.le_refl _, Nat.le_refl _⟩ (fun E z H locs hp hw => ?_)
          obtain ⟨hfn, hfe9, sg, hS, hv9, hf9⟩ := hp
          have hoe := dv_tr hfe9 hoe
          have fT9 : sg x = (sp_HV Q T) := hv9.trans (by rw [f_x])
          have f_1 : sg (A 1) = ((2 ^ Q : Nat) : Int) := (hf9 (A 1) (hxA 1 (by decide)).symm (la_c (fn_ne hfn (i := 1) (j := 6) (by decide) (by decide) (by decide)) (la_c (fn_ne hfn (i := 1) (j := 8) (by decide) (by decide) (by decide)) (la_c (fn_ne hfn (i := 1) (j := 9) (by decide) (by decide) (by decide)) (la_c (fn_ne hfn (i := 1) (j := 10) (by decide) (by decide) (by decide)) la_n))))).trans f_1
          have f_2 : sg (A 2) = sg0 (A 2) := (hf9 (A 2) (hxA 2 (by decide)).symm (la_c (fn_ne hfn (i := 2) (j := 6) (by decide) (by decide) (by decide)) (la_c (fn_ne hfn (i := 2) (j := 8) (by decide) (by decide) (by decide)) (la_c (fn_ne hfn (i := 2) (j := 9) (by decide) (by decide) (by decide)) (la_c (fn_ne hfn (i := 2) (j := 10) (by decide) (by decide) (by decide)) la_n))))).trans f_2
          have f_3 : sg (A 3) = sg0 (A 3) := (hf9 (A 3) (hxA 3 (by decide)).symm (la_c (fn_ne hfn (i := 3) (j := 6) (by decide) (by decide) (by decide)) (la_c (fn_ne hfn (i := 3) (j := 8) (by decide) (by decide) (by decide)) (la_c (fn_ne hfn (i := 3) (j := 9) (by decide) (by decide) (by decide)) (la_c (fn_ne hfn (i := 3) (j := 10) (by decide) (by decide) (by decide)) la_n))))).trans f_3
          have f_x := fT9
          have hof : ∀ a, a ≠ x → (∀ i, i ∈ ([2, 4, 5, 6, 7, 8, 9, 10] : List Nat) → a ≠ A i) → sg a = sg0 a := fun a h1 h2 => (hf9 a h1 (la_c (h2 6 (by decide)) (la_c (h2 8 (by decide)) (la_c (h2 9 (by decide)) (la_c (h2 10 (by decide)) la_n))))).trans (hof a h1 h2)
          refine lv_iinc (v := (nI (0 + 1))) (lv' := [(4, .int (nI (0 + 1))), (3, .int (nI 0)), (2, .int (nI 0)), (0, .ref fo), (1, .ref x)]) hx hb dX2_arcOf_79 hl (k := 0) rfl (nI_1 _) (by decide) rfl (fun ls hl => ?_)
          refine lv_goto (tgt := 68) hx hb dX2_arcOf_82 (by decide) ?_
          refine lv_iload hx hb dX2_arcOf_68 (lv_at hl 0 rfl) ?_
          refine lv_iconst (v := nI 3) hx hb dX2_arcOf_70 (by decide) ?_
          refine bd_ige (h1 := (by decide)) (h2 := (by decide)) (tgt := 85) hx hb dX2_arcOf_71 (by decide) (fun hck => ?_) (fun hck => ?_)
          · exact absurd hck (by decide)
          · refine lv_aload_n hx hb dX2_arcOf_74 rfl (lv_at hl 3 rfl) ?_
            refine lv_aload_n hx hb dX2_arcOf_75 rfl (lv_at hl 4 rfl) ?_
            have hv2 := sp_HVb (Q := Q) (t := (sp_HV Q T)) (by omega)
            refine bd_cv (As := [.ref x]) (rest := []) C (f_halveArc _ _ _ _ _ hfn hS x hmx hxA f_1 (by rw [f_x]; omega) (by rw [f_x]; omega)) (cwV 1 hts gX2_arcOf_X2_halveArc rfl rfl rfl (by decide +kernel) ⟨Nat.le_of_ble_eq_true rfl, Nat.le_of_ble_eq_true rfl⟩) hsz hw (fn_recv C hw hfn) dX2_arcOf_76 rfl hl.1 rfl (Nat.le_of_ble_eq_true rfl) ⟨Nat.le_refl _, Nat.le_refl _⟩ (fun E z H locs hp hw => ?_)
            obtain ⟨hfn, hfe9, sg, hS, hv9, hf9⟩ := hp
            have hoe := dv_tr hfe9 hoe
            have fT9 : sg x = (sp_HV Q (sp_HV Q T)) := hv9.trans (by rw [f_x])
            have f_1 : sg (A 1) = ((2 ^ Q : Nat) : Int) := (hf9 (A 1) (hxA 1 (by decide)).symm (la_c (fn_ne hfn (i := 1) (j := 6) (by decide) (by decide) (by decide)) (la_c (fn_ne hfn (i := 1) (j := 8) (by decide) (by decide) (by decide)) (la_c (fn_ne hfn (i := 1) (j := 9) (by decide) (by decide) (by decide)) (la_c (fn_ne hfn (i := 1) (j := 10) (by decide) (by decide) (by decide)) la_n))))).trans f_1
            have f_2 : sg (A 2) = sg0 (A 2) := (hf9 (A 2) (hxA 2 (by decide)).symm (la_c (fn_ne hfn (i := 2) (j := 6) (by decide) (by decide) (by decide)) (la_c (fn_ne hfn (i := 2) (j := 8) (by decide) (by decide) (by decide)) (la_c (fn_ne hfn (i := 2) (j := 9) (by decide) (by decide) (by decide)) (la_c (fn_ne hfn (i := 2) (j := 10) (by decide) (by decide) (by decide)) la_n))))).trans f_2
            have f_3 : sg (A 3) = sg0 (A 3) := (hf9 (A 3) (hxA 3 (by decide)).symm (la_c (fn_ne hfn (i := 3) (j := 6) (by decide) (by decide) (by decide)) (la_c (fn_ne hfn (i := 3) (j := 8) (by decide) (by decide) (by decide)) (la_c (fn_ne hfn (i := 3) (j := 9) (by decide) (by decide) (by decide)) (la_c (fn_ne hfn (i := 3) (j := 10) (by decide) (by decide) (by decide)) la_n))))).trans f_3
            have f_x := fT9
            have hof : ∀ a, a ≠ x → (∀ i, i ∈ ([2, 4, 5, 6, 7, 8, 9, 10] : List Nat) → a ≠ A i) → sg a = sg0 a := fun a h1 h2 => (hf9 a h1 (la_c (h2 6 (by decide)) (la_c (h2 8 (by decide)) (la_c (h2 9 (by decide)) (la_c (h2 10 (by decide)) la_n))))).trans (hof a h1 h2)
            refine lv_iinc (v := (nI ((0 + 1) + 1))) (lv' := [(4, .int (nI ((0 + 1) + 1))), (3, .int (nI 0)), (2, .int (nI 0)), (0, .ref fo), (1, .ref x)]) hx hb dX2_arcOf_79 hl (k := 0) rfl (nI_1 _) (by decide) rfl (fun ls hl => ?_)
            refine lv_goto (tgt := 68) hx hb dX2_arcOf_82 (by decide) ?_
            refine lv_iload hx hb dX2_arcOf_68 (lv_at hl 0 rfl) ?_
            refine lv_iconst (v := nI 3) hx hb dX2_arcOf_70 (by decide) ?_
            refine bd_ige (h1 := (by decide)) (h2 := (by decide)) (tgt := 85) hx hb dX2_arcOf_71 (by decide) (fun hck => ?_) (fun hck => ?_)
            · exact absurd hck (by decide)
            · refine lv_aload_n hx hb dX2_arcOf_74 rfl (lv_at hl 3 rfl) ?_
              refine lv_aload_n hx hb dX2_arcOf_75 rfl (lv_at hl 4 rfl) ?_
              have hv3 := sp_HVb (Q := Q) (t := (sp_HV Q (sp_HV Q T))) (by omega)
              refine bd_cv (As := [.ref x]) (rest := []) C (f_halveArc _ _ _ _ _ hfn hS x hmx hxA f_1 (by rw [f_x]; omega) (by rw [f_x]; omega)) (cwV 1 hts gX2_arcOf_X2_halveArc rfl rfl rfl (by decide +kernel) ⟨Nat.le_of_ble_eq_true rfl, Nat.le_of_ble_eq_true rfl⟩) hsz hw (fn_recv C hw hfn) dX2_arcOf_76 rfl hl.1 rfl (Nat.le_of_ble_eq_true rfl) ⟨Nat.le_refl _, Nat.le_refl _⟩ (fun E z H locs hp hw => ?_)
              obtain ⟨hfn, hfe9, sg, hS, hv9, hf9⟩ := hp
              have hoe := dv_tr hfe9 hoe
              have fT9 : sg x = (sp_HV Q (sp_HV Q (sp_HV Q T))) := hv9.trans (by rw [f_x])
              have f_1 : sg (A 1) = ((2 ^ Q : Nat) : Int) := (hf9 (A 1) (hxA 1 (by decide)).symm (la_c (fn_ne hfn (i := 1) (j := 6) (by decide) (by decide) (by decide)) (la_c (fn_ne hfn (i := 1) (j := 8) (by decide) (by decide) (by decide)) (la_c (fn_ne hfn (i := 1) (j := 9) (by decide) (by decide) (by decide)) (la_c (fn_ne hfn (i := 1) (j := 10) (by decide) (by decide) (by decide)) la_n))))).trans f_1
              have f_2 : sg (A 2) = sg0 (A 2) := (hf9 (A 2) (hxA 2 (by decide)).symm (la_c (fn_ne hfn (i := 2) (j := 6) (by decide) (by decide) (by decide)) (la_c (fn_ne hfn (i := 2) (j := 8) (by decide) (by decide) (by decide)) (la_c (fn_ne hfn (i := 2) (j := 9) (by decide) (by decide) (by decide)) (la_c (fn_ne hfn (i := 2) (j := 10) (by decide) (by decide) (by decide)) la_n))))).trans f_2
              have f_3 : sg (A 3) = sg0 (A 3) := (hf9 (A 3) (hxA 3 (by decide)).symm (la_c (fn_ne hfn (i := 3) (j := 6) (by decide) (by decide) (by decide)) (la_c (fn_ne hfn (i := 3) (j := 8) (by decide) (by decide) (by decide)) (la_c (fn_ne hfn (i := 3) (j := 9) (by decide) (by decide) (by decide)) (la_c (fn_ne hfn (i := 3) (j := 10) (by decide) (by decide) (by decide)) la_n))))).trans f_3
              have f_x := fT9
              have hof : ∀ a, a ≠ x → (∀ i, i ∈ ([2, 4, 5, 6, 7, 8, 9, 10] : List Nat) → a ≠ A i) → sg a = sg0 a := fun a h1 h2 => (hf9 a h1 (la_c (h2 6 (by decide)) (la_c (h2 8 (by decide)) (la_c (h2 9 (by decide)) (la_c (h2 10 (by decide)) la_n))))).trans (hof a h1 h2)
              refine lv_iinc (v := (nI (((0 + 1) + 1) + 1))) (lv' := [(4, .int (nI (((0 + 1) + 1) + 1))), (3, .int (nI 0)), (2, .int (nI 0)), (0, .ref fo), (1, .ref x)]) hx hb dX2_arcOf_79 hl (k := 0) rfl (nI_1 _) (by decide) rfl (fun ls hl => ?_)
              refine lv_goto (tgt := 68) hx hb dX2_arcOf_82 (by decide) ?_
              refine lv_iload hx hb dX2_arcOf_68 (lv_at hl 0 rfl) ?_
              refine lv_iconst (v := nI 3) hx hb dX2_arcOf_70 (by decide) ?_
              refine bd_ige (h1 := (by decide)) (h2 := (by decide)) (tgt := 85) hx hb dX2_arcOf_71 (by decide) (fun hck => ?_) (fun hck => ?_)
              · refine lv_aload_n hx hb dX2_arcOf_85 rfl (lv_at hl 3 rfl) ?_
                refine lv_aload_n hx hb dX2_arcOf_86 rfl (lv_at hl 4 rfl) ?_
                refine lv_iconst (v := nI 1) hx hb dX2_arcOf_87 (by decide) ?_
                refine bd_cv (As := [.ref x, .int (nI 1)]) (rest := []) C (f_sumOfRow _ _ _ _ _ hfn hS x 1 hmx (fun i hi => hxA i (by omega)) (Or.inr rfl) (by rw [f_x]; exact (by omega))) (cwV 2 hts gX2_arcOf_X2_sumOfRow rfl rfl rfl (by decide +kernel) ⟨Nat.le_of_ble_eq_true rfl, Nat.le_of_ble_eq_true rfl⟩) hsz hw (fn_recv C hw hfn) dX2_arcOf_88 rfl hl.1 rfl (Nat.le_of_ble_eq_true rfl) ⟨Nat.le_refl _, Nat.le_refl _⟩ (fun E1 z H locs hp hw => ?_)
                obtain ⟨hE9, sg, hS, ⟨mR, hendmR, hv9⟩, hf9⟩ := hp
                rw [show E1 = E from hE9] at hw
                rw [f_x] at hendmR hv9
                have f_1 : sg (A 1) = ((2 ^ Q : Nat) : Int) := (hf9 (A 1) (hxA 1 (by decide)).symm (fun i hi => fn_ne hfn (i := 1) (j := i) (by decide) (by omega) (by omega))).trans f_1
                have f_2 : sg (A 2) = sg0 (A 2) := (hf9 (A 2) (hxA 2 (by decide)).symm (fun i hi => fn_ne hfn (i := 2) (j := i) (by decide) (by omega) (by omega))).trans f_2
                have f_3 : sg (A 3) = sg0 (A 3) := (hf9 (A 3) (hxA 3 (by decide)).symm (fun i hi => fn_ne hfn (i := 3) (j := i) (by decide) (by omega) (by omega))).trans f_3
                have f_x : sg x = (sp_row 1 (sp_pr ((2 ^ Q : Nat) : Int) ((sp_HV Q (sp_HV Q (sp_HV Q T))) * (sp_HV Q (sp_HV Q (sp_HV Q T))) / ((2 ^ Q : Nat) : Int)) (sp_HV Q (sp_HV Q (sp_HV Q T)))) mR) := hv9
                have hof : ∀ a, a ≠ x → (∀ i, i ∈ ([2, 4, 5, 6, 7, 8, 9, 10] : List Nat) → a ≠ A i) → sg a = sg0 a := fun a h1 h2 => (hf9 a h1 (fun i hi => h2 i (by rcases (show i = 4 ∨ i = 5 ∨ i = 6 ∨ i = 7 by omega) with rfl | rfl | rfl | rfl <;> decide))).trans (hof a h1 h2)
                have f_x : sg x = (sp_RW 1 ((2 ^ Q : Nat) : Int) (sp_HV Q (sp_HV Q (sp_HV Q T)))) := f_x.trans (sp_RWe ⟨mR, hendmR, rfl⟩)
                refine lv_aload_n hx hb dX2_arcOf_91 rfl (lv_at hl 4 rfl) ?_
                refine lv_iconst (v := nI 3) hx hb dX2_arcOf_92 (by decide) ?_
                have hRb := sp_RWb (al := 1) (D := ((2 ^ Q : Nat) : Int)) (w := (sp_HV Q (sp_HV Q (sp_HV Q T)))) hDp (by omega)
                refine sv_v (As := [.int (nI 3)]) (rest := []) C (v3_raise _ _ _ _ _ hS x 3 9 hmx (by omega) (by rw [f_x]; exact b9 (by omega)) (by decide)) (cwV 1 hts gX2_arcOf_X3_raise rfl rfl rfl (by decide +kernel) ⟨Nat.le_of_ble_eq_true rfl, Nat.le_of_ble_eq_true rfl⟩) hsz hw (bd_recv C hw hmx) dX2_arcOf_93 rfl hl.1 rfl (Nat.le_of_ble_eq_true rfl) ⟨Nat.le_refl _, Nat.le_refl _⟩ (fun z sg H locs hv9 hf9 hS hw => ?_)
                have fT9 : sg x = ((sp_RW 1 ((2 ^ Q : Nat) : Int) (sp_HV Q (sp_HV Q (sp_HV Q T)))) * ((2 ^ 3 : Nat) : Int)) := hv9.trans (by rw [f_x])
                have f_1 : sg (A 1) = ((2 ^ Q : Nat) : Int) := (hf9 (A 1) (hxA 1 (by decide)).symm).trans f_1
                have f_2 : sg (A 2) = sg0 (A 2) := (hf9 (A 2) (hxA 2 (by decide)).symm).trans f_2
                have f_3 : sg (A 3) = sg0 (A 3) := (hf9 (A 3) (hxA 3 (by decide)).symm).trans f_3
                have f_x := fT9
                have hof : ∀ a, a ≠ x → (∀ i, i ∈ ([2, 4, 5, 6, 7, 8, 9, 10] : List Nat) → a ≠ A i) → sg a = sg0 a := fun a h1 h2 => (hf9 a h1).trans (hof a h1 h2)
                refine lv_iload_n hx hb dX2_arcOf_96 rfl (lv_at hl 1 rfl) ?_
                refine bd_zeq (h1 := (by decide)) (tgt := 128) hx hb dX2_arcOf_97 (by decide) (fun hck => ?_) (fun hck => ?_)
                · refine lv_iload_n hx hb dX2_arcOf_128 rfl (lv_at hl 2 rfl) ?_
                  refine bd_zeq (h1 := (by decide)) (tgt := 136) hx hb dX2_arcOf_129 (by decide) (fun hck => ?_) (fun hck => ?_)
                  · exact bd_vret C hr hlk hw dX2_arcOf_136 ⟨hfn, hoe, sg, hS, fn_ivm hiv0 (f_1.trans hiv0.1.symm) f_2 f_3, (by rw [sp_AT, if_neg hsn, sp_AP, if_neg hst, f_x, hT]), hof⟩
                  · exact absurd hck (by decide)
                · exact absurd hck (by decide)
              · exact absurd hck (by decide)
      · exact absurd hck (by decide)
    · have hst : ((2 ^ Q : Nat) : Int) < ((sg0 x).natAbs : Int) := Int.not_le.mp (fun q => hc25 (q3_le.mpr q))
      refine lv_iconst (v := nI 1) hx hb dX2_arcOf_28 (by decide) ?_
      refine lv_goto (tgt := 33) hx hb dX2_arcOf_29 (by decide) ?_
      refine lv_istore_n (lv' := [(3, .int (nI 1)), (2, .int (nI 0)), (0, .ref fo), (1, .ref x)]) hx hb dX2_arcOf_33 rfl hl (by decide) rfl (fun ls hl => ?_)
      refine lv_iload_n hx hb dX2_arcOf_34 rfl (lv_at hl 0 rfl) ?_
      refine bd_zeq (h1 := (by decide)) (tgt := 65) hx hb dX2_arcOf_35 (by decide) (fun hck => ?_) (fun hck => ?_)
      · exact absurd hck (by decide)
      · refine lv_aload_n hx hb dX2_arcOf_38 rfl (lv_at hl 2 rfl) ?_
        refine fn_g C i2 hw hfn 9 (by decide) (v := .ref (A 8)) rfl dX2_arcOf_39 lk41 ?_
        refine lv_iconst (v := nI 2) hx hb dX2_arcOf_42 (by decide) ?_
        refine lv_aload_n hx hb dX2_arcOf_43 rfl (lv_at hl 2 rfl) ?_
        refine fn_g C i2 hw hfn 0 (by decide) (v := .int (nI Q)) rfl dX2_arcOf_44 lk50 ?_
        refine bd_imul (v := (nI (2 * Q))) hx hb dX2_arcOf_47 (pk_mul _ _) ?_
        refine sv_v (As := [.int (nI (2 * Q))]) (rest := []) C (v3_becomePower _ _ _ _ _ hS (A 8) (2 * Q) (fn_in hfn (i := 8) (by decide)) (by omega)) (cwV 1 hts gX2_arcOf_X3_becomePower rfl rfl rfl (by decide +kernel) ⟨Nat.le_of_ble_eq_true rfl, Nat.le_of_ble_eq_true rfl⟩) hsz hw (bd_recv C hw (fn_in hfn (i := 8) (by decide))) dX2_arcOf_48 rfl hl.1 rfl (Nat.le_of_ble_eq_true rfl) ⟨Nat.le_refl _, Nat.le_refl _⟩ (fun z sg H locs hv9 hf9 hS hw => ?_)
        have fT9 : sg (A 8) = ((2 ^ (2 * Q) : Nat) : Int) := hv9.trans (by rfl)
        have f_x : sg x = ((sg0 x).natAbs : Int) := (hf9 x (hxA 8 (by decide))).trans f_x
        have f_1 : sg (A 1) = ((2 ^ Q : Nat) : Int) := (hf9 (A 1) (fn_ne hfn (i := 1) (j := 8) (by decide) (by decide) (by decide))).trans f_1
        have f_2 : sg (A 2) = sg0 (A 2) := (hf9 (A 2) (fn_ne hfn (i := 2) (j := 8) (by decide) (by decide) (by decide))).trans f_2
        have f_3 : sg (A 3) = sg0 (A 3) := (hf9 (A 3) (fn_ne hfn (i := 3) (j := 8) (by decide) (by decide) (by decide))).trans f_3
        have f_8 := fT9
        have hof : ∀ a, a ≠ x → (∀ i, i ∈ ([2, 4, 5, 6, 7, 8, 9, 10] : List Nat) → a ≠ A i) → sg a = sg0 a := fun a h1 h2 => (hf9 a (h2 8 (by decide))).trans (hof a h1 h2)
        refine lv_aload_n hx hb dX2_arcOf_51 rfl (lv_at hl 2 rfl) ?_
        refine fn_g C i2 hw hfn 2 (by decide) (v := .ref dv) rfl dX2_arcOf_52 lk19 ?_
        refine lv_aload_n hx hb dX2_arcOf_55 rfl (lv_at hl 3 rfl) ?_
        refine lv_aload_n hx hb dX2_arcOf_56 rfl (lv_at hl 2 rfl) ?_
        refine fn_g C i2 hw hfn 9 (by decide) (v := .ref (A 8)) rfl dX2_arcOf_57 lk41 ?_
        refine lv_aload_n hx hb dX2_arcOf_60 rfl (lv_at hl 3 rfl) ?_
        have hT8 : 0 ≤ ((2 ^ (2 * Q) : Nat) : Int) / ((sg0 x).natAbs : Int) ∧ ((2 ^ (2 * Q) : Nat) : Int) / ((sg0 x).natAbs : Int) ≤ ((2 ^ Q : Nat) : Int) := arc_flip (Q := Q) hst
        obtain ⟨T, hT, hT0, hTD⟩ : ∃ T : Int, T = ((2 ^ (2 * Q) : Nat) : Int) / ((sg0 x).natAbs : Int) ∧ 0 ≤ T ∧ T ≤ ((2 ^ Q : Nat) : Int) := ⟨_, rfl, hT8.1, hT8.2⟩
        refine sv_q (As := [.ref x, .ref (A 8), .ref x]) (rest := []) C (v1_quotient _ _ _ _ _ hS dv rs bs x (A 8) x (fn_dv hfn) hmx (fn_in hfn (i := 8) (by decide)) hmx (by rw [f_x]; exact (by omega)) (by rw [f_8]; exact b24 (by omega))) (cwV 3 hts gX2_arcOf_X1_quotient rfl rfl rfl (by decide +kernel) ⟨Nat.le_of_ble_eq_true rfl, Nat.le_of_ble_eq_true rfl⟩) hsz hw (dv_recv2 C hw (fn_dv hfn)) dX2_arcOf_61 rfl hl.1 rfl (Nat.le_of_ble_eq_true rfl) ⟨Nat.le_refl _, Nat.le_refl _⟩ (fun E z sg H locs hd9 hfe9 hv9 hf9 hS hw => ?_)
        have hfn := fn_mv hfn hd9 hfe9
        have hoe := dv_tr hfe9 hoe
        have fT9 : sg x = T := hv9.trans (by rw [f_x, f_8, hT])
        have f_1 : sg (A 1) = ((2 ^ Q : Nat) : Int) := (hf9 (A 1) (hxA 1 (by decide)).symm).trans f_1
        have f_2 : sg (A 2) = sg0 (A 2) := (hf9 (A 2) (hxA 2 (by decide)).symm).trans f_2
        have f_3 : sg (A 3) = sg0 (A 3) := (hf9 (A 3) (hxA 3 (by decide)).symm).trans f_3
        have f_8 : sg (A 8) = ((2 ^ (2 * Q) : Nat) : Int) := (hf9 (A 8) (hxA 8 (by decide)).symm).trans f_8
        have f_x := fT9
        have hof : ∀ a, a ≠ x → (∀ i, i ∈ ([2, 4, 5, 6, 7, 8, 9, 10] : List Nat) → a ≠ A i) → sg a = sg0 a := fun a h1 h2 => (hf9 a h1).trans (hof a h1 h2)
        refine lv_pop hx hb dX2_arcOf_64 rfl ?_
        refine lv_iconst (v := nI 0) hx hb dX2_arcOf_65 (by decide) ?_
        refine lv_istore (lv' := [(4, .int (nI 0)), (3, .int (nI 1)), (2, .int (nI 0)), (0, .ref fo), (1, .ref x)]) hx hb dX2_arcOf_66 hl (by decide) rfl (fun ls hl => ?_)
        refine lv_iload hx hb dX2_arcOf_68 (lv_at hl 0 rfl) ?_
        refine lv_iconst (v := nI 3) hx hb dX2_arcOf_70 (by decide) ?_
        refine bd_ige (h1 := (by decide)) (h2 := (by decide)) (tgt := 85) hx hb dX2_arcOf_71 (by decide) (fun hck => ?_) (fun hck => ?_)
        · exact absurd hck (by decide)
        · refine lv_aload_n hx hb dX2_arcOf_74 rfl (lv_at hl 3 rfl) ?_
          refine lv_aload_n hx hb dX2_arcOf_75 rfl (lv_at hl 4 rfl) ?_
          have hv1 := sp_HVb (Q := Q) (t := T) (by omega)
          refine bd_cv (As := [.ref x]) (rest := []) C (f_halveArc _ _ _ _ _ hfn hS x hmx hxA f_1 (by rw [f_x]; omega) (by rw [f_x]; omega)) (cwV 1 hts gX2_arcOf_X2_halveArc rfl rfl rfl (by decide +kernel) ⟨Nat.le_of_ble_eq_true rfl, Nat.le_of_ble_eq_true rfl⟩) hsz hw (fn_recv C hw hfn) dX2_arcOf_76 rfl hl.1 rfl (Nat.le_of_ble_eq_true rfl) ⟨Nat.le_refl _, Nat.le_refl _⟩ (fun E z H locs hp hw => ?_)
          obtain ⟨hfn, hfe9, sg, hS, hv9, hf9⟩ := hp
          have hoe := dv_tr hfe9 hoe
          have fT9 : sg x = (sp_HV Q T) := hv9.trans (by rw [f_x])
          have f_1 : sg (A 1) = ((2 ^ Q : Nat) : Int) := (hf9 (A 1) (hxA 1 (by decide)).symm (la_c (fn_ne hfn (i := 1) (j := 6) (by decide) (by decide) (by decide)) (la_c (fn_ne hfn (i := 1) (j := 8) (by decide) (by decide) (by decide)) (la_c (fn_ne hfn (i := 1) (j := 9) (by decide) (by decide) (by decide)) (la_c (fn_ne hfn (i := 1) (j := 10) (by decide) (by decide) (by decide)) la_n))))).trans f_1
          have f_2 : sg (A 2) = sg0 (A 2) := (hf9 (A 2) (hxA 2 (by decide)).symm (la_c (fn_ne hfn (i := 2) (j := 6) (by decide) (by decide) (by decide)) (la_c (fn_ne hfn (i := 2) (j := 8) (by decide) (by decide) (by decide)) (la_c (fn_ne hfn (i := 2) (j := 9) (by decide) (by decide) (by decide)) (la_c (fn_ne hfn (i := 2) (j := 10) (by decide) (by decide) (by decide)) la_n))))).trans f_2
          have f_3 : sg (A 3) = sg0 (A 3) := (hf9 (A 3) (hxA 3 (by decide)).symm (la_c (fn_ne hfn (i := 3) (j := 6) (by decide) (by decide) (by decide)) (la_c (fn_ne hfn (i := 3) (j := 8) (by decide) (by decide) (by decide)) (la_c (fn_ne hfn (i := 3) (j := 9) (by decide) (by decide) (by decide)) (la_c (fn_ne hfn (i := 3) (j := 10) (by decide) (by decide) (by decide)) la_n))))).trans f_3
          have f_x := fT9
          have hof : ∀ a, a ≠ x → (∀ i, i ∈ ([2, 4, 5, 6, 7, 8, 9, 10] : List Nat) → a ≠ A i) → sg a = sg0 a := fun a h1 h2 => (hf9 a h1 (la_c (h2 6 (by decide)) (la_c (h2 8 (by decide)) (la_c (h2 9 (by decide)) (la_c (h2 10 (by decide)) la_n))))).trans (hof a h1 h2)
          refine lv_iinc (v := (nI (0 + 1))) (lv' := [(4, .int (nI (0 + 1))), (3, .int (nI 1)), (2, .int (nI 0)), (0, .ref fo), (1, .ref x)]) hx hb dX2_arcOf_79 hl (k := 0) rfl (nI_1 _) (by decide) rfl (fun ls hl => ?_)
          refine lv_goto (tgt := 68) hx hb dX2_arcOf_82 (by decide) ?_
          refine lv_iload hx hb dX2_arcOf_68 (lv_at hl 0 rfl) ?_
          refine lv_iconst (v := nI 3) hx hb dX2_arcOf_70 (by decide) ?_
          refine bd_ige (h1 := (by decide)) (h2 := (by decide)) (tgt := 85) hx hb dX2_arcOf_71 (by decide) (fun hck => ?_) (fun hck => ?_)
          · exact absurd hck (by decide)
          · refine lv_aload_n hx hb dX2_arcOf_74 rfl (lv_at hl 3 rfl) ?_
            refine lv_aload_n hx hb dX2_arcOf_75 rfl (lv_at hl 4 rfl) ?_
            have hv2 := sp_HVb (Q := Q) (t := (sp_HV Q T)) (by omega)
            refine bd_cv (As := [.ref x]) (rest := []) C (f_halveArc _ _ _ _ _ hfn hS x hmx hxA f_1 (by rw [f_x]; omega) (by rw [f_x]; omega)) (cwV 1 hts gX2_arcOf_X2_halveArc rfl rfl rfl (by decide +kernel) ⟨Nat.le_of_ble_eq_true rfl, Nat.le_of_ble_eq_true rfl⟩) hsz hw (fn_recv C hw hfn) dX2_arcOf_76 rfl hl.1 rfl (Nat.le_of_ble_eq_true rfl) ⟨Nat.le_refl _, Nat.le_refl _⟩ (fun E z H locs hp hw => ?_)
            obtain ⟨hfn, hfe9, sg, hS, hv9, hf9⟩ := hp
            have hoe := dv_tr hfe9 hoe
            have fT9 : sg x = (sp_HV Q (sp_HV Q T)) := hv9.trans (by rw [f_x])
            have f_1 : sg (A 1) = ((2 ^ Q : Nat) : Int) := (hf9 (A 1) (hxA 1 (by decide)).symm (la_c (fn_ne hfn (i := 1) (j := 6) (by decide) (by decide) (by decide)) (la_c (fn_ne hfn (i := 1) (j := 8) (by decide) (by decide) (by decide)) (la_c (fn_ne hfn (i := 1) (j := 9) (by decide) (by decide) (by decide)) (la_c (fn_ne hfn (i := 1) (j := 10) (by decide) (by decide) (by decide)) la_n))))).trans f_1
            have f_2 : sg (A 2) = sg0 (A 2) := (hf9 (A 2) (hxA 2 (by decide)).symm (la_c (fn_ne hfn (i := 2) (j := 6) (by decide) (by decide) (by decide)) (la_c (fn_ne hfn (i := 2) (j := 8) (by decide) (by decide) (by decide)) (la_c (fn_ne hfn (i := 2) (j := 9) (by decide) (by decide) (by decide)) (la_c (fn_ne hfn (i := 2) (j := 10) (by decide) (by decide) (by decide)) la_n))))).trans f_2
            have f_3 : sg (A 3) = sg0 (A 3) := (hf9 (A 3) (hxA 3 (by decide)).symm (la_c (fn_ne hfn (i := 3) (j := 6) (by decide) (by decide) (by decide)) (la_c (fn_ne hfn (i := 3) (j := 8) (by decide) (by decide) (by decide)) (la_c (fn_ne hfn (i := 3) (j := 9) (by decide) (by decide) (by decide)) (la_c (fn_ne hfn (i := 3) (j := 10) (by decide) (by decide) (by decide)) la_n))))).trans f_3
            have f_x := fT9
            have hof : ∀ a, a ≠ x → (∀ i, i ∈ ([2, 4, 5, 6, 7, 8, 9, 10] : List Nat) → a ≠ A i) → sg a = sg0 a := fun a h1 h2 => (hf9 a h1 (la_c (h2 6 (by decide)) (la_c (h2 8 (by decide)) (la_c (h2 9 (by decide)) (la_c (h2 10 (by decide)) la_n))))).trans (hof a h1 h2)
            refine lv_iinc (v := (nI ((0 + 1) + 1))) (lv' := [(4, .int (nI ((0 + 1) + 1))), (3, .int (nI 1)), (2, .int (nI 0)), (0, .ref fo), (1, .ref x)]) hx hb dX2_arcOf_79 hl (k := 0) rfl (nI_1 _) (by decide) rfl (fun ls hl => ?_)
            refine lv_goto (tgt := 68) hx hb dX2_arcOf_82 (by decide) ?_
            refine lv_iload hx hb dX2_arcOf_68 (lv_at hl 0 rfl) ?_
            refine lv_iconst (v := nI 3) hx hb dX2_arcOf_70 (by decide) ?_
            refine bd_ige (h1 := (by decide)) (h2 := (by decide)) (tgt := 85) hx hb dX2_arcOf_71 (by decide) (fun hck => ?_) (fun hck => ?_)
            · exact absurd hck (by decide)
            · refine lv_aload_n hx hb dX2_arcOf_74 rfl (lv_at hl 3 rfl) ?_
              refine lv_aload_n hx hb dX2_arcOf_75 rfl (lv_at hl 4 rfl) ?_
              have hv3 := sp_HVb (Q := Q) (t := (sp_HV Q (sp_HV Q T))) (by omega)
              refine bd_cv (As := [.ref x]) (rest := []) C (f_halveArc _ _ _ _ _ hfn hS x hmx hxA f_1 (by rw [f_x]; omega) (by rw [f_x]; omega)) (cwV 1 hts gX2_arcOf_X2_halveArc rfl rfl rfl (by decide +kernel) ⟨Nat.le_of_ble_eq_true rfl, Nat.le_of_ble_eq_true rfl⟩) hsz hw (fn_recv C hw hfn) dX2_arcOf_76 rfl hl.1 rfl (Nat.le_of_ble_eq_true rfl) ⟨Nat.le_refl _, Nat.le_refl _⟩ (fun E z H locs hp hw => ?_)
              obtain ⟨hfn, hfe9, sg, hS, hv9, hf9⟩ := hp
              have hoe := dv_tr hfe9 hoe
              have fT9 : sg x = (sp_HV Q (sp_HV Q (sp_HV Q T))) := hv9.trans (by rw [f_x])
              have f_1 : sg (A 1) = ((2 ^ Q : Nat) : Int) := (hf9 (A 1) (hxA 1 (by decide)).symm (la_c (fn_ne hfn (i := 1) (j := 6) (by decide) (by decide) (by decide)) (la_c (fn_ne hfn (i := 1) (j := 8) (by decide) (by decide) (by decide)) (la_c (fn_ne hfn (i := 1) (j := 9) (by decide) (by decide) (by decide)) (la_c (fn_ne hfn (i := 1) (j := 10) (by decide) (by decide) (by decide)) la_n))))).trans f_1
              have f_2 : sg (A 2) = sg0 (A 2) := (hf9 (A 2) (hxA 2 (by decide)).symm (la_c (fn_ne hfn (i := 2) (j := 6) (by decide) (by decide) (by decide)) (la_c (fn_ne hfn (i := 2) (j := 8) (by decide) (by decide) (by decide)) (la_c (fn_ne hfn (i := 2) (j := 9) (by decide) (by decide) (by decide)) (la_c (fn_ne hfn (i := 2) (j := 10) (by decide) (by decide) (by decide)) la_n))))).trans f_2
              have f_3 : sg (A 3) = sg0 (A 3) := (hf9 (A 3) (hxA 3 (by decide)).symm (la_c (fn_ne hfn (i := 3) (j := 6) (by decide) (by decide) (by decide)) (la_c (fn_ne hfn (i := 3) (j := 8) (by decide) (by decide) (by decide)) (la_c (fn_ne hfn (i := 3) (j := 9) (by decide) (by decide) (by decide)) (la_c (fn_ne hfn (i := 3) (j := 10) (by decide) (by decide) (by decide)) la_n))))).trans f_3
              have f_x := fT9
              have hof : ∀ a, a ≠ x → (∀ i, i ∈ ([2, 4, 5, 6, 7, 8, 9, 10] : List Nat) → a ≠ A i) → sg a = sg0 a := fun a h1 h2 => (hf9 a h1 (la_c (h2 6 (by decide)) (la_c (h2 8 (by decide)) (la_c (h2 9 (by decide)) (la_c (h2 10 (by decide)) la_n))))).trans (hof a h1 h2)
              refine lv_iinc (v := (nI (((0 + 1) + 1) + 1))) (lv' := [(4, .int (nI (((0 + 1) + 1) + 1))), (3, .int (nI 1)), (2, .int (nI 0)), (0, .ref fo), (1, .ref x)]) hx hb dX2_arcOf_79 hl (k := 0) rfl (nI_1 _) (by decide) rfl (fun ls hl => ?_)
              refine lv_goto (tgt := 68) hx hb dX2_arcOf_82 (by decide) ?_
              refine lv_iload hx hb dX2_arcOf_68 (lv_at hl 0 rfl) ?_
              refine lv_iconst (v := nI 3) hx hb dX2_arcOf_70 (by decide) ?_
              refine bd_ige (h1 := (by decide)) (h2 := (by decide)) (tgt := 85) hx hb dX2_arcOf_71 (by decide) (fun hck => ?_) (fun hck => ?_)
              · refine lv_aload_n hx hb dX2_arcOf_85 rfl (lv_at hl 3 rfl) ?_
                refine lv_aload_n hx hb dX2_arcOf_86 rfl (lv_at hl 4 rfl) ?_
                refine lv_iconst (v := nI 1) hx hb dX2_arcOf_87 (by decide) ?_
                refine bd_cv (As := [.ref x, .int (nI 1)]) (rest := []) C (f_sumOfRow _ _ _ _ _ hfn hS x 1 hmx (fun i hi => hxA i (by omega)) (Or.inr rfl) (by rw [f_x]; exact (by omega))) (cwV 2 hts gX2_arcOf_X2_sumOfRow rfl rfl rfl (by decide +kernel) ⟨Nat.le_of_ble_eq_true rfl, Nat.le_of_ble_eq_true rfl⟩) hsz hw (fn_recv C hw hfn) dX2_arcOf_88 rfl hl.1 rfl (Nat.le_of_ble_eq_true rfl) ⟨Nat.le_refl _, Nat.le_refl _⟩ (fun E1 z H locs hp hw => ?_)
                obtain ⟨hE9, sg, hS, ⟨mR, hendmR, hv9⟩, hf9⟩ := hp
                rw [show E1 = E from hE9] at hw
                rw [f_x] at hendmR hv9
                have f_1 : sg (A 1) = ((2 ^ Q : Nat) : Int) := (hf9 (A 1) (hxA 1 (by decide)).symm (fun i hi => fn_ne hfn (i := 1) (j := i) (by decide) (by omega) (by omega))).trans f_1
                have f_2 : sg (A 2) = sg0 (A 2) := (hf9 (A 2) (hxA 2 (by decide)).symm (fun i hi => fn_ne hfn (i := 2) (j := i) (by decide) (by omega) (by omega))).trans f_2
                have f_3 : sg (A 3) = sg0 (A 3) := (hf9 (A 3) (hxA 3 (by decide)).symm (fun i hi => fn_ne hfn (i := 3) (j := i) (by decide) (by omega) (by omega))).trans f_3
                have f_x : sg x = (sp_row 1 (sp_pr ((2 ^ Q : Nat) : Int) ((sp_HV Q (sp_HV Q (sp_HV Q T))) * (sp_HV Q (sp_HV Q (sp_HV Q T))) / ((2 ^ Q : Nat) : Int)) (sp_HV Q (sp_HV Q (sp_HV Q T)))) mR) := hv9
                have hof : ∀ a, a ≠ x → (∀ i, i ∈ ([2, 4, 5, 6, 7, 8, 9, 10] : List Nat) → a ≠ A i) → sg a = sg0 a := fun a h1 h2 => (hf9 a h1 (fun i hi => h2 i (by rcases (show i = 4 ∨ i = 5 ∨ i = 6 ∨ i = 7 by omega) with rfl | rfl | rfl | rfl <;> decide))).trans (hof a h1 h2)
                have f_x : sg x = (sp_RW 1 ((2 ^ Q : Nat) : Int) (sp_HV Q (sp_HV Q (sp_HV Q T)))) := f_x.trans (sp_RWe ⟨mR, hendmR, rfl⟩)
                refine lv_aload_n hx hb dX2_arcOf_91 rfl (lv_at hl 4 rfl) ?_
                refine lv_iconst (v := nI 3) hx hb dX2_arcOf_92 (by decide) ?_
                have hRb := sp_RWb (al := 1) (D := ((2 ^ Q : Nat) : Int)) (w := (sp_HV Q (sp_HV Q (sp_HV Q T)))) hDp (by omega)
                refine sv_v (As := [.int (nI 3)]) (rest := []) C (v3_raise _ _ _ _ _ hS x 3 9 hmx (by omega) (by rw [f_x]; exact b9 (by omega)) (by decide)) (cwV 1 hts gX2_arcOf_X3_raise rfl rfl rfl (by decide +kernel) ⟨Nat.le_of_ble_eq_true rfl, Nat.le_of_ble_eq_true rfl⟩) hsz hw (bd_recv C hw hmx) dX2_arcOf_93 rfl hl.1 rfl (Nat.le_of_ble_eq_true rfl) ⟨Nat.le_refl _, Nat.le_refl _⟩ (fun z sg H locs hv9 hf9 hS hw => ?_)
                have fT9 : sg x = ((sp_RW 1 ((2 ^ Q : Nat) : Int) (sp_HV Q (sp_HV Q (sp_HV Q T)))) * ((2 ^ 3 : Nat) : Int)) := hv9.trans (by rw [f_x])
                have f_1 : sg (A 1) = ((2 ^ Q : Nat) : Int) := (hf9 (A 1) (hxA 1 (by decide)).symm).trans f_1
                have f_2 : sg (A 2) = sg0 (A 2) := (hf9 (A 2) (hxA 2 (by decide)).symm).trans f_2
                have f_3 : sg (A 3) = sg0 (A 3) := (hf9 (A 3) (hxA 3 (by decide)).symm).trans f_3
                have f_x := fT9
                have hof : ∀ a, a ≠ x → (∀ i, i ∈ ([2, 4, 5, 6, 7, 8, 9, 10] : List Nat) → a ≠ A i) → sg a = sg0 a := fun a h1 h2 => (hf9 a h1).trans (hof a h1 h2)
                refine lv_iload_n hx hb dX2_arcOf_96 rfl (lv_at hl 1 rfl) ?_
                refine bd_zeq (h1 := (by decide)) (tgt := 128) hx hb dX2_arcOf_97 (by decide) (fun hck => ?_) (fun hck => ?_)
                · exact absurd hck (by decide)
                · refine lv_aload_n hx hb dX2_arcOf_100 rfl (lv_at hl 3 rfl) ?_
                  refine fn_g C i2 hw hfn 9 (by decide) (v := .ref (A 8)) rfl dX2_arcOf_101 lk41 ?_
                  refine lv_aload_n hx hb dX2_arcOf_104 rfl (lv_at hl 3 rfl) ?_
                  have hiv : fn_iv Q A sg := fn_ivm hiv0 (f_1.trans hiv0.1.symm) f_2 f_3
                  refine bd_cr (As := []) (rest := [.ref (A 8)]) C (f_halfTurn _ _ _ _ _ hfn hS hiv) (cwV 0 hts gX2_arcOf_X2_halfTurn rfl rfl rfl (by decide +kernel) ⟨Nat.le_of_ble_eq_true rfl, Nat.le_of_ble_eq_true rfl⟩) hsz hw (fn_recv C hw hfn) dX2_arcOf_105 rfl hl.1 rfl (Nat.le_of_ble_eq_true rfl) ⟨Nat.le_refl _, Nat.le_refl _⟩ (fun E1 z H locs hp hw => ?_)
                  obtain ⟨hE9, sg, hS, hiv, hv9, hf9⟩ := hp
                  rw [show E1 = E from hE9] at hw
                  have fT9 : sg (A 2) = (sp_PI Q) := hv9.trans (by rfl)
                  have f_x : sg x = ((sp_RW 1 ((2 ^ Q : Nat) : Int) (sp_HV Q (sp_HV Q (sp_HV Q T)))) * ((2 ^ 3 : Nat) : Int)) := (hf9 x (la_c (hxA 2 (by decide)) (la_c (hxA 4 (by decide)) (la_c (hxA 5 (by decide)) (la_c (hxA 6 (by decide)) (la_c (hxA 7 (by decide)) (la_c (hxA 8 (by decide)) la_n))))))).trans f_x
                  have f_1 : sg (A 1) = ((2 ^ Q : Nat) : Int) := (hf9 (A 1) (la_c (fn_ne hfn (i := 1) (j := 2) (by decide) (by decide) (by decide)) (la_c (fn_ne hfn (i := 1) (j := 4) (by decide) (by decide) (by decide)) (la_c (fn_ne hfn (i := 1) (j := 5) (by decide) (by decide) (by decide)) (la_c (fn_ne hfn (i := 1) (j := 6) (by decide) (by decide) (by decide)) (la_c (fn_ne hfn (i := 1) (j := 7) (by decide) (by decide) (by decide)) (la_c (fn_ne hfn (i := 1) (j := 8) (by decide) (by decide) (by decide)) la_n))))))).trans f_1
                  have f_3 : sg (A 3) = sg0 (A 3) := (hf9 (A 3) (la_c (fn_ne hfn (i := 3) (j := 2) (by decide) (by decide) (by decide)) (la_c (fn_ne hfn (i := 3) (j := 4) (by decide) (by decide) (by decide)) (la_c (fn_ne hfn (i := 3) (j := 5) (by decide) (by decide) (by decide)) (la_c (fn_ne hfn (i := 3) (j := 6) (by decide) (by decide) (by decide)) (la_c (fn_ne hfn (i := 3) (j := 7) (by decide) (by decide) (by decide)) (la_c (fn_ne hfn (i := 3) (j := 8) (by decide) (by decide) (by decide)) la_n))))))).trans f_3
                  have f_2 := fT9
                  have hof : ∀ a, a ≠ x → (∀ i, i ∈ ([2, 4, 5, 6, 7, 8, 9, 10] : List Nat) → a ≠ A i) → sg a = sg0 a := fun a h1 h2 => (hf9 a (la_c (h2 2 (by decide)) (la_c (h2 4 (by decide)) (la_c (h2 5 (by decide)) (la_c (h2 6 (by decide)) (la_c (h2 7 (by decide)) (la_c (h2 8 (by decide)) la_n))))))).trans (hof a h1 h2)
                  refine sv_v (As := [.ref (A 2)]) (rest := []) C (v3_become_ _ _ _ _ _ hS (A 8) (A 2) (fn_in hfn (i := 8) (by decide)) (fn_in hfn (i := 2) (by decide))) (cwV 1 hts gX2_arcOf_X3_become_ rfl rfl rfl (by decide +kernel) ⟨Nat.le_of_ble_eq_true rfl, Nat.le_of_ble_eq_true rfl⟩) hsz hw (bd_recv C hw (fn_in hfn (i := 8) (by decide))) dX2_arcOf_108 rfl hl.1 rfl (Nat.le_of_ble_eq_true rfl) ⟨Nat.le_refl _, Nat.le_refl _⟩ (fun z sg H locs hv9 hf9 hS hw => ?_)
                  have fT9 : sg (A 8) = (sp_PI Q) := hv9.trans (by exact f_2)
                  have f_x : sg x = ((sp_RW 1 ((2 ^ Q : Nat) : Int) (sp_HV Q (sp_HV Q (sp_HV Q T)))) * ((2 ^ 3 : Nat) : Int)) := (hf9 x (hxA 8 (by decide))).trans f_x
                  have f_1 : sg (A 1) = ((2 ^ Q : Nat) : Int) := (hf9 (A 1) (fn_ne hfn (i := 1) (j := 8) (by decide) (by decide) (by decide))).trans f_1
                  have f_2 : sg (A 2) = (sp_PI Q) := (hf9 (A 2) (fn_ne hfn (i := 2) (j := 8) (by decide) (by decide) (by decide))).trans f_2
                  have f_3 : sg (A 3) = sg0 (A 3) := (hf9 (A 3) (fn_ne hfn (i := 3) (j := 8) (by decide) (by decide) (by decide))).trans f_3
                  have f_8 := fT9
                  have hof : ∀ a, a ≠ x → (∀ i, i ∈ ([2, 4, 5, 6, 7, 8, 9, 10] : List Nat) → a ≠ A i) → sg a = sg0 a := fun a h1 h2 => (hf9 a (h2 8 (by decide))).trans (hof a h1 h2)
                  refine lv_aload_n hx hb dX2_arcOf_111 rfl (lv_at hl 3 rfl) ?_
                  refine fn_g C i2 hw hfn 9 (by decide) (v := .ref (A 8)) rfl dX2_arcOf_112 lk41 ?_
                  refine lv_iconst (v := nI 1) hx hb dX2_arcOf_115 (by decide) ?_
                  refine sv_v (As := [.int (nI 1)]) (rest := []) C (v3_lower _ _ _ _ _ hS (A 8) 1 (fn_in hfn (i := 8) (by decide)) (by omega) (by omega)) (cwV 1 hts gX2_arcOf_X3_lower rfl rfl rfl (by decide +kernel) ⟨Nat.le_of_ble_eq_true rfl, Nat.le_of_ble_eq_true rfl⟩) hsz hw (bd_recv C hw (fn_in hfn (i := 8) (by decide))) dX2_arcOf_116 rfl hl.1 rfl (Nat.le_of_ble_eq_true rfl) ⟨Nat.le_refl _, Nat.le_refl _⟩ (fun z sg H locs hv9 hf9 hS hw => ?_)
                  have fT9 : sg (A 8) = (sp_PI Q / ((2 ^ 1 : Nat) : Int)) := hv9.trans (by rw [f_8])
                  have f_x : sg x = ((sp_RW 1 ((2 ^ Q : Nat) : Int) (sp_HV Q (sp_HV Q (sp_HV Q T)))) * ((2 ^ 3 : Nat) : Int)) := (hf9 x (hxA 8 (by decide))).trans f_x
                  have f_1 : sg (A 1) = ((2 ^ Q : Nat) : Int) := (hf9 (A 1) (fn_ne hfn (i := 1) (j := 8) (by decide) (by decide) (by decide))).trans f_1
                  have f_2 : sg (A 2) = (sp_PI Q) := (hf9 (A 2) (fn_ne hfn (i := 2) (j := 8) (by decide) (by decide) (by decide))).trans f_2
                  have f_3 : sg (A 3) = sg0 (A 3) := (hf9 (A 3) (fn_ne hfn (i := 3) (j := 8) (by decide) (by decide) (by decide))).trans f_3
                  have f_8 := fT9
                  have hof : ∀ a, a ≠ x → (∀ i, i ∈ ([2, 4, 5, 6, 7, 8, 9, 10] : List Nat) → a ≠ A i) → sg a = sg0 a := fun a h1 h2 => (hf9 a (h2 8 (by decide))).trans (hof a h1 h2)
                  refine lv_aload_n hx hb dX2_arcOf_119 rfl (lv_at hl 4 rfl) ?_
                  refine lv_aload_n hx hb dX2_arcOf_120 rfl (lv_at hl 3 rfl) ?_
                  refine fn_g C i2 hw hfn 9 (by decide) (v := .ref (A 8)) rfl dX2_arcOf_121 lk41 ?_
                  refine lv_aload_n hx hb dX2_arcOf_124 rfl (lv_at hl 4 rfl) ?_
                  refine sv_v (As := [.ref (A 8), .ref x]) (rest := []) C (v3_difference _ _ _ _ _ hS x (A 8) x hmx (fn_in hfn (i := 8) (by decide)) hmx (by rw [f_8, f_x]; exact b24 (by omega))) (cwV 2 hts gX2_arcOf_X3_difference rfl rfl rfl (by decide +kernel) ⟨Nat.le_of_ble_eq_true rfl, Nat.le_of_ble_eq_true rfl⟩) hsz hw (bd_recv C hw hmx) dX2_arcOf_125 rfl hl.1 rfl (Nat.le_of_ble_eq_true rfl) ⟨Nat.le_refl _, Nat.le_refl _⟩ (fun z sg H locs hv9 hf9 hS hw => ?_)
                  have fT9 : sg x = (sp_PI Q / ((2 ^ 1 : Nat) : Int) - ((sp_RW 1 ((2 ^ Q : Nat) : Int) (sp_HV Q (sp_HV Q (sp_HV Q T)))) * ((2 ^ 3 : Nat) : Int))) := hv9.trans (by rw [f_8, f_x])
                  have f_1 : sg (A 1) = ((2 ^ Q : Nat) : Int) := (hf9 (A 1) (hxA 1 (by decide)).symm).trans f_1
                  have f_2 : sg (A 2) = (sp_PI Q) := (hf9 (A 2) (hxA 2 (by decide)).symm).trans f_2
                  have f_3 : sg (A 3) = sg0 (A 3) := (hf9 (A 3) (hxA 3 (by decide)).symm).trans f_3
                  have f_8 : sg (A 8) = (sp_PI Q / ((2 ^ 1 : Nat) : Int)) := (hf9 (A 8) (hxA 8 (by decide)).symm).trans f_8
                  have f_x := fT9
                  have hof : ∀ a, a ≠ x → (∀ i, i ∈ ([2, 4, 5, 6, 7, 8, 9, 10] : List Nat) → a ≠ A i) → sg a = sg0 a := fun a h1 h2 => (hf9 a h1).trans (hof a h1 h2)
                  refine lv_iload_n hx hb dX2_arcOf_128 rfl (lv_at hl 2 rfl) ?_
                  refine bd_zeq (h1 := (by decide)) (tgt := 136) hx hb dX2_arcOf_129 (by decide) (fun hck => ?_) (fun hck => ?_)
                  · exact bd_vret C hr hlk hw dX2_arcOf_136 ⟨hfn, hoe, sg, hS, ⟨f_1, Or.inr f_2, by rw [f_3]; exact hiv0.2.2⟩, (by rw [sp_AT, if_neg hsn, sp_AP, if_pos hst, f_x, hT]), hof⟩
                  · exact absurd hck (by decide)
              · exact absurd hck (by decide)
  · have hsn : sg0 x < 0 := Int.not_le.mp (fun q => hc4 (q3_ge.mpr q))
    refine lv_iconst (v := nI 1) hx hb dX2_arcOf_7 (by decide) ?_
    refine lv_goto (tgt := 12) hx hb dX2_arcOf_8 (by decide) ?_
    refine lv_istore_n (lv' := [(2, .int (nI 1)), (0, .ref fo), (1, .ref x)]) hx hb dX2_arcOf_12 rfl hl (by decide) rfl (fun ls hl => ?_)
    refine lv_aload_n hx hb dX2_arcOf_13 rfl (lv_at hl 2 rfl) ?_
    refine sv_v (As := []) (rest := []) C (v3_dropSign _ _ _ _ _ hS x hmx) (cwV 0 hts gX2_arcOf_X3_dropSign rfl rfl rfl (by decide +kernel) ⟨Nat.le_of_ble_eq_true rfl, Nat.le_of_ble_eq_true rfl⟩) hsz hw (bd_recv C hw hmx) dX2_arcOf_14 rfl hl.1 rfl (Nat.le_of_ble_eq_true rfl) ⟨Nat.le_refl _, Nat.le_refl _⟩ (fun z sg H locs hv9 hf9 hS hw => ?_)
    have fT9 : sg x = ((sg0 x).natAbs : Int) := hv9.trans (by rw [f_x])
    have f_1 : sg (A 1) = ((2 ^ Q : Nat) : Int) := (hf9 (A 1) (hxA 1 (by decide)).symm).trans f_1
    have f_2 : sg (A 2) = sg0 (A 2) := (hf9 (A 2) (hxA 2 (by decide)).symm).trans f_2
    have f_3 : sg (A 3) = sg0 (A 3) := (hf9 (A 3) (hxA 3 (by decide)).symm).trans f_3
    have f_x := fT9
    have hof : ∀ a, a ≠ x → (∀ i, i ∈ ([2, 4, 5, 6, 7, 8, 9, 10] : List Nat) → a ≠ A i) → sg a = sg0 a := fun a h1 h2 => (hf9 a h1).trans (hof a h1 h2)
    refine lv_aload_n hx hb dX2_arcOf_17 rfl (lv_at hl 2 rfl) ?_
    refine lv_aload_n hx hb dX2_arcOf_18 rfl (lv_at hl 1 rfl) ?_
    refine fn_g C i2 hw hfn 1 (by decide) (v := .ref (A 1)) rfl dX2_arcOf_19 lk10 ?_
    refine bd_cip (As := [.ref (A 1)]) (rest := []) C (v3_order _ _ _ _ _ hS x (A 1) hmx (fn_in hfn (i := 1) (by decide))) (cwV 1 hts gX2_arcOf_X3_order rfl rfl rfl (by decide +kernel) ⟨Nat.le_of_ble_eq_true rfl, Nat.le_of_ble_eq_true rfl⟩) hsz hw (bd_recv C hw hmx) dX2_arcOf_22 rfl hl.1 rfl (Nat.le_of_ble_eq_true rfl) ⟨Nat.le_refl _, Nat.le_refl _⟩ (fun H locs hw => ?_)
    rw [f_x, f_1]
    refine lv_if_le (tgt := 32) hx hb dX2_arcOf_25 (by decide) (fun hc25 => ?_) (fun hc25 => ?_)
    · have hst : ¬ ((2 ^ Q : Nat) : Int) < ((sg0 x).natAbs : Int) := Int.not_lt.mpr (q3_le.mp hc25)
      obtain ⟨T, hT, hT0, hTD⟩ : ∃ T : Int, T = ((sg0 x).natAbs : Int) ∧ 0 ≤ T ∧ T ≤ ((2 ^ Q : Nat) : Int) := ⟨_, rfl, by omega, by omega⟩
      rw [← hT] at f_x
      refine lv_iconst (v := nI 0) hx hb dX2_arcOf_32 (by decide) ?_
      refine lv_istore_n (lv' := [(3, .int (nI 0)), (2, .int (nI 1)), (0, .ref fo), (1, .ref x)]) hx hb dX2_arcOf_33 rfl hl (by decide) rfl (fun ls hl => ?_)
      refine lv_iload_n hx hb dX2_arcOf_34 rfl (lv_at hl 0 rfl) ?_
      refine bd_zeq (h1 := (by decide)) (tgt := 65) hx hb dX2_arcOf_35 (by decide) (fun hck => ?_) (fun hck => ?_)
      · refine lv_iconst (v := nI 0) hx hb dX2_arcOf_65 (by decide) ?_
        refine lv_istore (lv' := [(4, .int (nI 0)), (3, .int (nI 0)), (2, .int (nI 1)), (0, .ref fo), (1, .ref x)]) hx hb dX2_arcOf_66 hl (by decide) rfl (fun ls hl => ?_)
        refine lv_iload hx hb dX2_arcOf_68 (lv_at hl 0 rfl) ?_
        refine lv_iconst (v := nI 3) hx hb dX2_arcOf_70 (by decide) ?_
        refine bd_ige (h1 := (by decide)) (h2 := (by decide)) (tgt := 85) hx hb dX2_arcOf_71 (by decide) (fun hck => ?_) (fun hck => ?_)
        · exact absurd hck (by decide)
        · refine lv_aload_n hx hb dX2_arcOf_74 rfl (lv_at hl 3 rfl) ?_
          refine lv_aload_n hx hb dX2_arcOf_75 rfl (lv_at hl 4 rfl) ?_
          have hv1 := sp_HVb (Q := Q) (t := T) (by omega)
          refine bd_cv (As := [.ref x]) (rest := []) C (f_halveArc _ _ _ _ _ hfn hS x hmx hxA f_1 (by rw [f_x]; omega) (by rw [f_x]; omega)) (cwV 1 hts gX2_arcOf_X2_halveArc rfl rfl rfl (by decide +kernel) ⟨Nat.le_of_ble_eq_true rfl, Nat.le_of_ble_eq_true rfl⟩) hsz hw (fn_recv C hw hfn) dX2_arcOf_76 rfl hl.1 rfl (Nat.le_of_ble_eq_true rfl) ⟨Nat.le_refl _, Nat.le_refl _⟩ (fun E z H locs hp hw => ?_)
          obtain ⟨hfn, hfe9, sg, hS, hv9, hf9⟩ := hp
          have hoe := dv_tr hfe9 hoe
          have fT9 : sg x = (sp_HV Q T) := hv9.trans (by rw [f_x])
          have f_1 : sg (A 1) = ((2 ^ Q : Nat) : Int) := (hf9 (A 1) (hxA 1 (by decide)).symm (la_c (fn_ne hfn (i := 1) (j := 6) (by decide) (by decide) (by decide)) (la_c (fn_ne hfn (i := 1) (j := 8) (by decide) (by decide) (by decide)) (la_c (fn_ne hfn (i := 1) (j := 9) (by decide) (by decide) (by decide)) (la_c (fn_ne hfn (i := 1) (j := 10) (by decide) (by decide) (by decide)) la_n))))).trans f_1
          have f_2 : sg (A 2) = sg0 (A 2) := (hf9 (A 2) (hxA 2 (by decide)).symm (la_c (fn_ne hfn (i := 2) (j := 6) (by decide) (by decide) (by decide)) (la_c (fn_ne hfn (i := 2) (j := 8) (by decide) (by decide) (by decide)) (la_c (fn_ne hfn (i := 2) (j := 9) (by decide) (by decide) (by decide)) (la_c (fn_ne hfn (i := 2) (j := 10) (by decide) (by decide) (by decide)) la_n))))).trans f_2
          have f_3 : sg (A 3) = sg0 (A 3) := (hf9 (A 3) (hxA 3 (by decide)).symm (la_c (fn_ne hfn (i := 3) (j := 6) (by decide) (by decide) (by decide)) (la_c (fn_ne hfn (i := 3) (j := 8) (by decide) (by decide) (by decide)) (la_c (fn_ne hfn (i := 3) (j := 9) (by decide) (by decide) (by decide)) (la_c (fn_ne hfn (i := 3) (j := 10) (by decide) (by decide) (by decide)) la_n))))).trans f_3
          have f_x := fT9
          have hof : ∀ a, a ≠ x → (∀ i, i ∈ ([2, 4, 5, 6, 7, 8, 9, 10] : List Nat) → a ≠ A i) → sg a = sg0 a := fun a h1 h2 => (hf9 a h1 (la_c (h2 6 (by decide)) (la_c (h2 8 (by decide)) (la_c (h2 9 (by decide)) (la_c (h2 10 (by decide)) la_n))))).trans (hof a h1 h2)
          refine lv_iinc (v := (nI (0 + 1))) (lv' := [(4, .int (nI (0 + 1))), (3, .int (nI 0)), (2, .int (nI 1)), (0, .ref fo), (1, .ref x)]) hx hb dX2_arcOf_79 hl (k := 0) rfl (nI_1 _) (by decide) rfl (fun ls hl => ?_)
          refine lv_goto (tgt := 68) hx hb dX2_arcOf_82 (by decide) ?_
          refine lv_iload hx hb dX2_arcOf_68 (lv_at hl 0 rfl) ?_
          refine lv_iconst (v := nI 3) hx hb dX2_arcOf_70 (by decide) ?_
          refine bd_ige (h1 := (by decide)) (h2 := (by decide)) (tgt := 85) hx hb dX2_arcOf_71 (by decide) (fun hck => ?_) (fun hck => ?_)
          · exact absurd hck (by decide)
          · refine lv_aload_n hx hb dX2_arcOf_74 rfl (lv_at hl 3 rfl) ?_
            refine lv_aload_n hx hb dX2_arcOf_75 rfl (lv_at hl 4 rfl) ?_
            have hv2 := sp_HVb (Q := Q) (t := (sp_HV Q T)) (by omega)
            refine bd_cv (As := [.ref x]) (rest := []) C (f_halveArc _ _ _ _ _ hfn hS x hmx hxA f_1 (by rw [f_x]; omega) (by rw [f_x]; omega)) (cwV 1 hts gX2_arcOf_X2_halveArc rfl rfl rfl (by decide +kernel) ⟨Nat.le_of_ble_eq_true rfl, Nat.le_of_ble_eq_true rfl⟩) hsz hw (fn_recv C hw hfn) dX2_arcOf_76 rfl hl.1 rfl (Nat.le_of_ble_eq_true rfl) ⟨Nat.le_refl _, Nat.le_refl _⟩ (fun E z H locs hp hw => ?_)
            obtain ⟨hfn, hfe9, sg, hS, hv9, hf9⟩ := hp
            have hoe := dv_tr hfe9 hoe
            have fT9 : sg x = (sp_HV Q (sp_HV Q T)) := hv9.trans (by rw [f_x])
            have f_1 : sg (A 1) = ((2 ^ Q : Nat) : Int) := (hf9 (A 1) (hxA 1 (by decide)).symm (la_c (fn_ne hfn (i := 1) (j := 6) (by decide) (by decide) (by decide)) (la_c (fn_ne hfn (i := 1) (j := 8) (by decide) (by decide) (by decide)) (la_c (fn_ne hfn (i := 1) (j := 9) (by decide) (by decide) (by decide)) (la_c (fn_ne hfn (i := 1) (j := 10) (by decide) (by decide) (by decide)) la_n))))).trans f_1
            have f_2 : sg (A 2) = sg0 (A 2) := (hf9 (A 2) (hxA 2 (by decide)).symm (la_c (fn_ne hfn (i := 2) (j := 6) (by decide) (by decide) (by decide)) (la_c (fn_ne hfn (i := 2) (j := 8) (by decide) (by decide) (by decide)) (la_c (fn_ne hfn (i := 2) (j := 9) (by decide) (by decide) (by decide)) (la_c (fn_ne hfn (i := 2) (j := 10) (by decide) (by decide) (by decide)) la_n))))).trans f_2
            have f_3 : sg (A 3) = sg0 (A 3) := (hf9 (A 3) (hxA 3 (by decide)).symm (la_c (fn_ne hfn (i := 3) (j := 6) (by decide) (by decide) (by decide)) (la_c (fn_ne hfn (i := 3) (j := 8) (by decide) (by decide) (by decide)) (la_c (fn_ne hfn (i := 3) (j := 9) (by decide) (by decide) (by decide)) (la_c (fn_ne hfn (i := 3) (j := 10) (by decide) (by decide) (by decide)) la_n))))).trans f_3
            have f_x := fT9
            have hof : ∀ a, a ≠ x → (∀ i, i ∈ ([2, 4, 5, 6, 7, 8, 9, 10] : List Nat) → a ≠ A i) → sg a = sg0 a := fun a h1 h2 => (hf9 a h1 (la_c (h2 6 (by decide)) (la_c (h2 8 (by decide)) (la_c (h2 9 (by decide)) (la_c (h2 10 (by decide)) la_n))))).trans (hof a h1 h2)
            refine lv_iinc (v := (nI ((0 + 1) + 1))) (lv' := [(4, .int (nI ((0 + 1) + 1))), (3, .int (nI 0)), (2, .int (nI 1)), (0, .ref fo), (1, .ref x)]) hx hb dX2_arcOf_79 hl (k := 0) rfl (nI_1 _) (by decide) rfl (fun ls hl => ?_)
            refine lv_goto (tgt := 68) hx hb dX2_arcOf_82 (by decide) ?_
            refine lv_iload hx hb dX2_arcOf_68 (lv_at hl 0 rfl) ?_
            refine lv_iconst (v := nI 3) hx hb dX2_arcOf_70 (by decide) ?_
            refine bd_ige (h1 := (by decide)) (h2 := (by decide)) (tgt := 85) hx hb dX2_arcOf_71 (by decide) (fun hck => ?_) (fun hck => ?_)
            · exact absurd hck (by decide)
            · refine lv_aload_n hx hb dX2_arcOf_74 rfl (lv_at hl 3 rfl) ?_
              refine lv_aload_n hx hb dX2_arcOf_75 rfl (lv_at hl 4 rfl) ?_
              have hv3 := sp_HVb (Q := Q) (t := (sp_HV Q (sp_HV Q T))) (by omega)
              refine bd_cv (As := [.ref x]) (rest := []) C (f_halveArc _ _ _ _ _ hfn hS x hmx hxA f_1 (by rw [f_x]; omega) (by rw [f_x]; omega)) (cwV 1 hts gX2_arcOf_X2_halveArc rfl rfl rfl (by decide +kernel) ⟨Nat.le_of_ble_eq_true rfl, Nat.le_of_ble_eq_true rfl⟩) hsz hw (fn_recv C hw hfn) dX2_arcOf_76 rfl hl.1 rfl (Nat.le_of_ble_eq_true rfl) ⟨Nat.le_refl _, Nat.le_refl _⟩ (fun E z H locs hp hw => ?_)
              obtain ⟨hfn, hfe9, sg, hS, hv9, hf9⟩ := hp
              have hoe := dv_tr hfe9 hoe
              have fT9 : sg x = (sp_HV Q (sp_HV Q (sp_HV Q T))) := hv9.trans (by rw [f_x])
              have f_1 : sg (A 1) = ((2 ^ Q : Nat) : Int) := (hf9 (A 1) (hxA 1 (by decide)).symm (la_c (fn_ne hfn (i := 1) (j := 6) (by decide) (by decide) (by decide)) (la_c (fn_ne hfn (i := 1) (j := 8) (by decide) (by decide) (by decide)) (la_c (fn_ne hfn (i := 1) (j := 9) (by decide) (by decide) (by decide)) (la_c (fn_ne hfn (i := 1) (j := 10) (by decide) (by decide) (by decide)) la_n))))).trans f_1
              have f_2 : sg (A 2) = sg0 (A 2) := (hf9 (A 2) (hxA 2 (by decide)).symm (la_c (fn_ne hfn (i := 2) (j := 6) (by decide) (by decide) (by decide)) (la_c (fn_ne hfn (i := 2) (j := 8) (by decide) (by decide) (by decide)) (la_c (fn_ne hfn (i := 2) (j := 9) (by decide) (by decide) (by decide)) (la_c (fn_ne hfn (i := 2) (j := 10) (by decide) (by decide) (by decide)) la_n))))).trans f_2
              have f_3 : sg (A 3) = sg0 (A 3) := (hf9 (A 3) (hxA 3 (by decide)).symm (la_c (fn_ne hfn (i := 3) (j := 6) (by decide) (by decide) (by decide)) (la_c (fn_ne hfn (i := 3) (j := 8) (by decide) (by decide) (by decide)) (la_c (fn_ne hfn (i := 3) (j := 9) (by decide) (by decide) (by decide)) (la_c (fn_ne hfn (i := 3) (j := 10) (by decide) (by decide) (by decide)) la_n))))).trans f_3
              have f_x := fT9
              have hof : ∀ a, a ≠ x → (∀ i, i ∈ ([2, 4, 5, 6, 7, 8, 9, 10] : List Nat) → a ≠ A i) → sg a = sg0 a := fun a h1 h2 => (hf9 a h1 (la_c (h2 6 (by decide)) (la_c (h2 8 (by decide)) (la_c (h2 9 (by decide)) (la_c (h2 10 (by decide)) la_n))))).trans (hof a h1 h2)
              refine lv_iinc (v := (nI (((0 + 1) + 1) + 1))) (lv' := [(4, .int (nI (((0 + 1) + 1) + 1))), (3, .int (nI 0)), (2, .int (nI 1)), (0, .ref fo), (1, .ref x)]) hx hb dX2_arcOf_79 hl (k := 0) rfl (nI_1 _) (by decide) rfl (fun ls hl => ?_)
              refine lv_goto (tgt := 68) hx hb dX2_arcOf_82 (by decide) ?_
              refine lv_iload hx hb dX2_arcOf_68 (lv_at hl 0 rfl) ?_
              refine lv_iconst (v := nI 3) hx hb dX2_arcOf_70 (by decide) ?_
              refine bd_ige (h1 := (by decide)) (h2 := (by decide)) (tgt := 85) hx hb dX2_arcOf_71 (by decide) (fun hck => ?_) (fun hck => ?_)
              · refine lv_aload_n hx hb dX2_arcOf_85 rfl (lv_at hl 3 rfl) ?_
                refine lv_aload_n hx hb dX2_arcOf_86 rfl (lv_at hl 4 rfl) ?_
                refine lv_iconst (v := nI 1) hx hb dX2_arcOf_87 (by decide) ?_
                refine bd_cv (As := [.ref x, .int (nI 1)]) (rest := []) C (f_sumOfRow _ _ _ _ _ hfn hS x 1 hmx (fun i hi => hxA i (by omega)) (Or.inr rfl) (by rw [f_x]; exact (by omega))) (cwV 2 hts gX2_arcOf_X2_sumOfRow rfl rfl rfl (by decide +kernel) ⟨Nat.le_of_ble_eq_true rfl, Nat.le_of_ble_eq_true rfl⟩) hsz hw (fn_recv C hw hfn) dX2_arcOf_88 rfl hl.1 rfl (Nat.le_of_ble_eq_true rfl) ⟨Nat.le_refl _, Nat.le_refl _⟩ (fun E1 z H locs hp hw => ?_)
                obtain ⟨hE9, sg, hS, ⟨mR, hendmR, hv9⟩, hf9⟩ := hp
                rw [show E1 = E from hE9] at hw
                rw [f_x] at hendmR hv9
                have f_1 : sg (A 1) = ((2 ^ Q : Nat) : Int) := (hf9 (A 1) (hxA 1 (by decide)).symm (fun i hi => fn_ne hfn (i := 1) (j := i) (by decide) (by omega) (by omega))).trans f_1
                have f_2 : sg (A 2) = sg0 (A 2) := (hf9 (A 2) (hxA 2 (by decide)).symm (fun i hi => fn_ne hfn (i := 2) (j := i) (by decide) (by omega) (by omega))).trans f_2
                have f_3 : sg (A 3) = sg0 (A 3) := (hf9 (A 3) (hxA 3 (by decide)).symm (fun i hi => fn_ne hfn (i := 3) (j := i) (by decide) (by omega) (by omega))).trans f_3
                have f_x : sg x = (sp_row 1 (sp_pr ((2 ^ Q : Nat) : Int) ((sp_HV Q (sp_HV Q (sp_HV Q T))) * (sp_HV Q (sp_HV Q (sp_HV Q T))) / ((2 ^ Q : Nat) : Int)) (sp_HV Q (sp_HV Q (sp_HV Q T)))) mR) := hv9
                have hof : ∀ a, a ≠ x → (∀ i, i ∈ ([2, 4, 5, 6, 7, 8, 9, 10] : List Nat) → a ≠ A i) → sg a = sg0 a := fun a h1 h2 => (hf9 a h1 (fun i hi => h2 i (by rcases (show i = 4 ∨ i = 5 ∨ i = 6 ∨ i = 7 by omega) with rfl | rfl | rfl | rfl <;> decide))).trans (hof a h1 h2)
                have f_x : sg x = (sp_RW 1 ((2 ^ Q : Nat) : Int) (sp_HV Q (sp_HV Q (sp_HV Q T)))) := f_x.trans (sp_RWe ⟨mR, hendmR, rfl⟩)
                refine lv_aload_n hx hb dX2_arcOf_91 rfl (lv_at hl 4 rfl) ?_
                refine lv_iconst (v := nI 3) hx hb dX2_arcOf_92 (by decide) ?_
                have hRb := sp_RWb (al := 1) (D := ((2 ^ Q : Nat) : Int)) (w := (sp_HV Q (sp_HV Q (sp_HV Q T)))) hDp (by omega)
                refine sv_v (As := [.int (nI 3)]) (rest := []) C (v3_raise _ _ _ _ _ hS x 3 9 hmx (by omega) (by rw [f_x]; exact b9 (by omega)) (by decide)) (cwV 1 hts gX2_arcOf_X3_raise rfl rfl rfl (by decide +kernel) ⟨Nat.le_of_ble_eq_true rfl, Nat.le_of_ble_eq_true rfl⟩) hsz hw (bd_recv C hw hmx) dX2_arcOf_93 rfl hl.1 rfl (Nat.le_of_ble_eq_true rfl) ⟨Nat.le_refl _, Nat.le_refl _⟩ (fun z sg H locs hv9 hf9 hS hw => ?_)
                have fT9 : sg x = ((sp_RW 1 ((2 ^ Q : Nat) : Int) (sp_HV Q (sp_HV Q (sp_HV Q T)))) * ((2 ^ 3 : Nat) : Int)) := hv9.trans (by rw [f_x])
                have f_1 : sg (A 1) = ((2 ^ Q : Nat) : Int) := (hf9 (A 1) (hxA 1 (by decide)).symm).trans f_1
                have f_2 : sg (A 2) = sg0 (A 2) := (hf9 (A 2) (hxA 2 (by decide)).symm).trans f_2
                have f_3 : sg (A 3) = sg0 (A 3) := (hf9 (A 3) (hxA 3 (by decide)).symm).trans f_3
                have f_x := fT9
                have hof : ∀ a, a ≠ x → (∀ i, i ∈ ([2, 4, 5, 6, 7, 8, 9, 10] : List Nat) → a ≠ A i) → sg a = sg0 a := fun a h1 h2 => (hf9 a h1).trans (hof a h1 h2)
                refine lv_iload_n hx hb dX2_arcOf_96 rfl (lv_at hl 1 rfl) ?_
                refine bd_zeq (h1 := (by decide)) (tgt := 128) hx hb dX2_arcOf_97 (by decide) (fun hck => ?_) (fun hck => ?_)
                · refine lv_iload_n hx hb dX2_arcOf_128 rfl (lv_at hl 2 rfl) ?_
                  refine bd_zeq (h1 := (by decide)) (tgt := 136) hx hb dX2_arcOf_129 (by decide) (fun hck => ?_) (fun hck => ?_)
                  · exact absurd hck (by decide)
                  · refine lv_aload_n hx hb dX2_arcOf_132 rfl (lv_at hl 4 rfl) ?_
                    refine sv_v (As := []) (rest := []) C (v3_turn _ _ _ _ _ hS x hmx) (cwV 0 hts gX2_arcOf_X3_turn rfl rfl rfl (by decide +kernel) ⟨Nat.le_of_ble_eq_true rfl, Nat.le_of_ble_eq_true rfl⟩) hsz hw (bd_recv C hw hmx) dX2_arcOf_133 rfl hl.1 rfl (Nat.le_of_ble_eq_true rfl) ⟨Nat.le_refl _, Nat.le_refl _⟩ (fun z sg H locs hv9 hf9 hS hw => ?_)
                    have fT9 : sg x = (-((sp_RW 1 ((2 ^ Q : Nat) : Int) (sp_HV Q (sp_HV Q (sp_HV Q T)))) * ((2 ^ 3 : Nat) : Int))) := hv9.trans (by rw [f_x])
                    have f_1 : sg (A 1) = ((2 ^ Q : Nat) : Int) := (hf9 (A 1) (hxA 1 (by decide)).symm).trans f_1
                    have f_2 : sg (A 2) = sg0 (A 2) := (hf9 (A 2) (hxA 2 (by decide)).symm).trans f_2
                    have f_3 : sg (A 3) = sg0 (A 3) := (hf9 (A 3) (hxA 3 (by decide)).symm).trans f_3
                    have f_x := fT9
                    have hof : ∀ a, a ≠ x → (∀ i, i ∈ ([2, 4, 5, 6, 7, 8, 9, 10] : List Nat) → a ≠ A i) → sg a = sg0 a := fun a h1 h2 => (hf9 a h1).trans (hof a h1 h2)
                    exact bd_vret C hr hlk hw dX2_arcOf_136 ⟨hfn, hoe, sg, hS, fn_ivm hiv0 (f_1.trans hiv0.1.symm) f_2 f_3, (by rw [sp_AT, if_pos hsn, sp_AP, if_neg hst, f_x, hT]), hof⟩
                · exact absurd hck (by decide)
              · exact absurd hck (by decide)
      · exact absurd hck (by decide)
    · have hst : ((2 ^ Q : Nat) : Int) < ((sg0 x).natAbs : Int) := Int.not_le.mp (fun q => hc25 (q3_le.mpr q))
      refine lv_iconst (v := nI 1) hx hb dX2_arcOf_28 (by decide) ?_
      refine lv_goto (tgt := 33) hx hb dX2_arcOf_29 (by decide) ?_
      refine lv_istore_n (lv' := [(3, .int (nI 1)), (2, .int (nI 1)), (0, .ref fo), (1, .ref x)]) hx hb dX2_arcOf_33 rfl hl (by decide) rfl (fun ls hl => ?_)
      refine lv_iload_n hx hb dX2_arcOf_34 rfl (lv_at hl 0 rfl) ?_
      refine bd_zeq (h1 := (by decide)) (tgt := 65) hx hb dX2_arcOf_35 (by decide) (fun hck => ?_) (fun hck => ?_)
      · exact absurd hck (by decide)
      · refine lv_aload_n hx hb dX2_arcOf_38 rfl (lv_at hl 2 rfl) ?_
        refine fn_g C i2 hw hfn 9 (by decide) (v := .ref (A 8)) rfl dX2_arcOf_39 lk41 ?_
        refine lv_iconst (v := nI 2) hx hb dX2_arcOf_42 (by decide) ?_
        refine lv_aload_n hx hb dX2_arcOf_43 rfl (lv_at hl 2 rfl) ?_
        refine fn_g C i2 hw hfn 0 (by decide) (v := .int (nI Q)) rfl dX2_arcOf_44 lk50 ?_
        refine bd_imul (v := (nI (2 * Q))) hx hb dX2_arcOf_47 (pk_mul _ _) ?_
        refine sv_v (As := [.int (nI (2 * Q))]) (rest := []) C (v3_becomePower _ _ _ _ _ hS (A 8) (2 * Q) (fn_in hfn (i := 8) (by decide)) (by omega)) (cwV 1 hts gX2_arcOf_X3_becomePower rfl rfl rfl (by decide +kernel) ⟨Nat.le_of_ble_eq_true rfl, Nat.le_of_ble_eq_true rfl⟩) hsz hw (bd_recv C hw (fn_in hfn (i := 8) (by decide))) dX2_arcOf_48 rfl hl.1 rfl (Nat.le_of_ble_eq_true rfl) ⟨Nat.le_refl _, Nat.le_refl _⟩ (fun z sg H locs hv9 hf9 hS hw => ?_)
        have fT9 : sg (A 8) = ((2 ^ (2 * Q) : Nat) : Int) := hv9.trans (by rfl)
        have f_x : sg x = ((sg0 x).natAbs : Int) := (hf9 x (hxA 8 (by decide))).trans f_x
        have f_1 : sg (A 1) = ((2 ^ Q : Nat) : Int) := (hf9 (A 1) (fn_ne hfn (i := 1) (j := 8) (by decide) (by decide) (by decide))).trans f_1
        have f_2 : sg (A 2) = sg0 (A 2) := (hf9 (A 2) (fn_ne hfn (i := 2) (j := 8) (by decide) (by decide) (by decide))).trans f_2
        have f_3 : sg (A 3) = sg0 (A 3) := (hf9 (A 3) (fn_ne hfn (i := 3) (j := 8) (by decide) (by decide) (by decide))).trans f_3
        have f_8 := fT9
        have hof : ∀ a, a ≠ x → (∀ i, i ∈ ([2, 4, 5, 6, 7, 8, 9, 10] : List Nat) → a ≠ A i) → sg a = sg0 a := fun a h1 h2 => (hf9 a (h2 8 (by decide))).trans (hof a h1 h2)
        refine lv_aload_n hx hb dX2_arcOf_51 rfl (lv_at hl 2 rfl) ?_
        refine fn_g C i2 hw hfn 2 (by decide) (v := .ref dv) rfl dX2_arcOf_52 lk19 ?_
        refine lv_aload_n hx hb dX2_arcOf_55 rfl (lv_at hl 3 rfl) ?_
        refine lv_aload_n hx hb dX2_arcOf_56 rfl (lv_at hl 2 rfl) ?_
        refine fn_g C i2 hw hfn 9 (by decide) (v := .ref (A 8)) rfl dX2_arcOf_57 lk41 ?_
        refine lv_aload_n hx hb dX2_arcOf_60 rfl (lv_at hl 3 rfl) ?_
        have hT8 : 0 ≤ ((2 ^ (2 * Q) : Nat) : Int) / ((sg0 x).natAbs : Int) ∧ ((2 ^ (2 * Q) : Nat) : Int) / ((sg0 x).natAbs : Int) ≤ ((2 ^ Q : Nat) : Int) := arc_flip (Q := Q) hst
        obtain ⟨T, hT, hT0, hTD⟩ : ∃ T : Int, T = ((2 ^ (2 * Q) : Nat) : Int) / ((sg0 x).natAbs : Int) ∧ 0 ≤ T ∧ T ≤ ((2 ^ Q : Nat) : Int) := ⟨_, rfl, hT8.1, hT8.2⟩
        refine sv_q (As := [.ref x, .ref (A 8), .ref x]) (rest := []) C (v1_quotient _ _ _ _ _ hS dv rs bs x (A 8) x (fn_dv hfn) hmx (fn_in hfn (i := 8) (by decide)) hmx (by rw [f_x]; exact (by omega)) (by rw [f_8]; exact b24 (by omega))) (cwV 3 hts gX2_arcOf_X1_quotient rfl rfl rfl (by decide +kernel) ⟨Nat.le_of_ble_eq_true rfl, Nat.le_of_ble_eq_true rfl⟩) hsz hw (dv_recv2 C hw (fn_dv hfn)) dX2_arcOf_61 rfl hl.1 rfl (Nat.le_of_ble_eq_true rfl) ⟨Nat.le_refl _, Nat.le_refl _⟩ (fun E z sg H locs hd9 hfe9 hv9 hf9 hS hw => ?_)
        have hfn := fn_mv hfn hd9 hfe9
        have hoe := dv_tr hfe9 hoe
        have fT9 : sg x = T := hv9.trans (by rw [f_x, f_8, hT])
        have f_1 : sg (A 1) = ((2 ^ Q : Nat) : Int) := (hf9 (A 1) (hxA 1 (by decide)).symm).trans f_1
        have f_2 : sg (A 2) = sg0 (A 2) := (hf9 (A 2) (hxA 2 (by decide)).symm).trans f_2
        have f_3 : sg (A 3) = sg0 (A 3) := (hf9 (A 3) (hxA 3 (by decide)).symm).trans f_3
        have f_8 : sg (A 8) = ((2 ^ (2 * Q) : Nat) : Int) := (hf9 (A 8) (hxA 8 (by decide)).symm).trans f_8
        have f_x := fT9
        have hof : ∀ a, a ≠ x → (∀ i, i ∈ ([2, 4, 5, 6, 7, 8, 9, 10] : List Nat) → a ≠ A i) → sg a = sg0 a := fun a h1 h2 => (hf9 a h1).trans (hof a h1 h2)
        refine lv_pop hx hb dX2_arcOf_64 rfl ?_
        refine lv_iconst (v := nI 0) hx hb dX2_arcOf_65 (by decide) ?_
        refine lv_istore (lv' := [(4, .int (nI 0)), (3, .int (nI 1)), (2, .int (nI 1)), (0, .ref fo), (1, .ref x)]) hx hb dX2_arcOf_66 hl (by decide) rfl (fun ls hl => ?_)
        refine lv_iload hx hb dX2_arcOf_68 (lv_at hl 0 rfl) ?_
        refine lv_iconst (v := nI 3) hx hb dX2_arcOf_70 (by decide) ?_
        refine bd_ige (h1 := (by decide)) (h2 := (by decide)) (tgt := 85) hx hb dX2_arcOf_71 (by decide) (fun hck => ?_) (fun hck => ?_)
        · exact absurd hck (by decide)
        · refine lv_aload_n hx hb dX2_arcOf_74 rfl (lv_at hl 3 rfl) ?_
          refine lv_aload_n hx hb dX2_arcOf_75 rfl (lv_at hl 4 rfl) ?_
          have hv1 := sp_HVb (Q := Q) (t := T) (by omega)
          refine bd_cv (As := [.ref x]) (rest := []) C (f_halveArc _ _ _ _ _ hfn hS x hmx hxA f_1 (by rw [f_x]; omega) (by rw [f_x]; omega)) (cwV 1 hts gX2_arcOf_X2_halveArc rfl rfl rfl (by decide +kernel) ⟨Nat.le_of_ble_eq_true rfl, Nat.le_of_ble_eq_true rfl⟩) hsz hw (fn_recv C hw hfn) dX2_arcOf_76 rfl hl.1 rfl (Nat.le_of_ble_eq_true rfl) ⟨Nat.le_refl _, Nat.le_refl _⟩ (fun E z H locs hp hw => ?_)
          obtain ⟨hfn, hfe9, sg, hS, hv9, hf9⟩ := hp
          have hoe := dv_tr hfe9 hoe
          have fT9 : sg x = (sp_HV Q T) := hv9.trans (by rw [f_x])
          have f_1 : sg (A 1) = ((2 ^ Q : Nat) : Int) := (hf9 (A 1) (hxA 1 (by decide)).symm (la_c (fn_ne hfn (i := 1) (j := 6) (by decide) (by decide) (by decide)) (la_c (fn_ne hfn (i := 1) (j := 8) (by decide) (by decide) (by decide)) (la_c (fn_ne hfn (i := 1) (j := 9) (by decide) (by decide) (by decide)) (la_c (fn_ne hfn (i := 1) (j := 10) (by decide) (by decide) (by decide)) la_n))))).trans f_1
          have f_2 : sg (A 2) = sg0 (A 2) := (hf9 (A 2) (hxA 2 (by decide)).symm (la_c (fn_ne hfn (i := 2) (j := 6) (by decide) (by decide) (by decide)) (la_c (fn_ne hfn (i := 2) (j := 8) (by decide) (by decide) (by decide)) (la_c (fn_ne hfn (i := 2) (j := 9) (by decide) (by decide) (by decide)) (la_c (fn_ne hfn (i := 2) (j := 10) (by decide) (by decide) (by decide)) la_n))))).trans f_2
          have f_3 : sg (A 3) = sg0 (A 3) := (hf9 (A 3) (hxA 3 (by decide)).symm (la_c (fn_ne hfn (i := 3) (j := 6) (by decide) (by decide) (by decide)) (la_c (fn_ne hfn (i := 3) (j := 8) (by decide) (by decide) (by decide)) (la_c (fn_ne hfn (i := 3) (j := 9) (by decide) (by decide) (by decide)) (la_c (fn_ne hfn (i := 3) (j := 10) (by decide) (by decide) (by decide)) la_n))))).trans f_3
          have f_x := fT9
          have hof : ∀ a, a ≠ x → (∀ i, i ∈ ([2, 4, 5, 6, 7, 8, 9, 10] : List Nat) → a ≠ A i) → sg a = sg0 a := fun a h1 h2 => (hf9 a h1 (la_c (h2 6 (by decide)) (la_c (h2 8 (by decide)) (la_c (h2 9 (by decide)) (la_c (h2 10 (by decide)) la_n))))).trans (hof a h1 h2)
          refine lv_iinc (v := (nI (0 + 1))) (lv' := [(4, .int (nI (0 + 1))), (3, .int (nI 1)), (2, .int (nI 1)), (0, .ref fo), (1, .ref x)]) hx hb dX2_arcOf_79 hl (k := 0) rfl (nI_1 _) (by decide) rfl (fun ls hl => ?_)
          refine lv_goto (tgt := 68) hx hb dX2_arcOf_82 (by decide) ?_
          refine lv_iload hx hb dX2_arcOf_68 (lv_at hl 0 rfl) ?_
          refine lv_iconst (v := nI 3) hx hb dX2_arcOf_70 (by decide) ?_
          refine bd_ige (h1 := (by decide)) (h2 := (by decide)) (tgt := 85) hx hb dX2_arcOf_71 (by decide) (fun hck => ?_) (fun hck => ?_)
          · exact absurd hck (by decide)
          · refine lv_aload_n hx hb dX2_arcOf_74 rfl (lv_at hl 3 rfl) ?_
            refine lv_aload_n hx hb dX2_arcOf_75 rfl (lv_at hl 4 rfl) ?_
            have hv2 := sp_HVb (Q := Q) (t := (sp_HV Q T)) (by omega)
            refine bd_cv (As := [.ref x]) (rest := []) C (f_halveArc _ _ _ _ _ hfn hS x hmx hxA f_1 (by rw [f_x]; omega) (by rw [f_x]; omega)) (cwV 1 hts gX2_arcOf_X2_halveArc rfl rfl rfl (by decide +kernel) ⟨Nat.le_of_ble_eq_true rfl, Nat.le_of_ble_eq_true rfl⟩) hsz hw (fn_recv C hw hfn) dX2_arcOf_76 rfl hl.1 rfl (Nat.le_of_ble_eq_true rfl) ⟨Nat.le_refl _, Nat.le_refl _⟩ (fun E z H locs hp hw => ?_)
            obtain ⟨hfn, hfe9, sg, hS, hv9, hf9⟩ := hp
            have hoe := dv_tr hfe9 hoe
            have fT9 : sg x = (sp_HV Q (sp_HV Q T)) := hv9.trans (by rw [f_x])
            have f_1 : sg (A 1) = ((2 ^ Q : Nat) : Int) := (hf9 (A 1) (hxA 1 (by decide)).symm (la_c (fn_ne hfn (i := 1) (j := 6) (by decide) (by decide) (by decide)) (la_c (fn_ne hfn (i := 1) (j := 8) (by decide) (by decide) (by decide)) (la_c (fn_ne hfn (i := 1) (j := 9) (by decide) (by decide) (by decide)) (la_c (fn_ne hfn (i := 1) (j := 10) (by decide) (by decide) (by decide)) la_n))))).trans f_1
            have f_2 : sg (A 2) = sg0 (A 2) := (hf9 (A 2) (hxA 2 (by decide)).symm (la_c (fn_ne hfn (i := 2) (j := 6) (by decide) (by decide) (by decide)) (la_c (fn_ne hfn (i := 2) (j := 8) (by decide) (by decide) (by decide)) (la_c (fn_ne hfn (i := 2) (j := 9) (by decide) (by decide) (by decide)) (la_c (fn_ne hfn (i := 2) (j := 10) (by decide) (by decide) (by decide)) la_n))))).trans f_2
            have f_3 : sg (A 3) = sg0 (A 3) := (hf9 (A 3) (hxA 3 (by decide)).symm (la_c (fn_ne hfn (i := 3) (j := 6) (by decide) (by decide) (by decide)) (la_c (fn_ne hfn (i := 3) (j := 8) (by decide) (by decide) (by decide)) (la_c (fn_ne hfn (i := 3) (j := 9) (by decide) (by decide) (by decide)) (la_c (fn_ne hfn (i := 3) (j := 10) (by decide) (by decide) (by decide)) la_n))))).trans f_3
            have f_x := fT9
            have hof : ∀ a, a ≠ x → (∀ i, i ∈ ([2, 4, 5, 6, 7, 8, 9, 10] : List Nat) → a ≠ A i) → sg a = sg0 a := fun a h1 h2 => (hf9 a h1 (la_c (h2 6 (by decide)) (la_c (h2 8 (by decide)) (la_c (h2 9 (by decide)) (la_c (h2 10 (by decide)) la_n))))).trans (hof a h1 h2)
            refine lv_iinc (v := (nI ((0 + 1) + 1))) (lv' := [(4, .int (nI ((0 + 1) + 1))), (3, .int (nI 1)), (2, .int (nI 1)), (0, .ref fo), (1, .ref x)]) hx hb dX2_arcOf_79 hl (k := 0) rfl (nI_1 _) (by decide) rfl (fun ls hl => ?_)
            refine lv_goto (tgt := 68) hx hb dX2_arcOf_82 (by decide) ?_
            refine lv_iload hx hb dX2_arcOf_68 (lv_at hl 0 rfl) ?_
            refine lv_iconst (v := nI 3) hx hb dX2_arcOf_70 (by decide) ?_
            refine bd_ige (h1 := (by decide)) (h2 := (by decide)) (tgt := 85) hx hb dX2_arcOf_71 (by decide) (fun hck => ?_) (fun hck => ?_)
            · exact absurd hck (by decide)
            · refine lv_aload_n hx hb dX2_arcOf_74 rfl (lv_at hl 3 rfl) ?_
              refine lv_aload_n hx hb dX2_arcOf_75 rfl (lv_at hl 4 rfl) ?_
              have hv3 := sp_HVb (Q := Q) (t := (sp_HV Q (sp_HV Q T))) (by omega)
              refine bd_cv (As := [.ref x]) (rest := []) C (f_halveArc _ _ _ _ _ hfn hS x hmx hxA f_1 (by rw [f_x]; omega) (by rw [f_x]; omega)) (cwV 1 hts gX2_arcOf_X2_halveArc rfl rfl rfl (by decide +kernel) ⟨Nat.le_of_ble_eq_true rfl, Nat.le_of_ble_eq_true rfl⟩) hsz hw (fn_recv C hw hfn) dX2_arcOf_76 rfl hl.1 rfl (Nat.le_of_ble_eq_true rfl) ⟨Nat.le_refl _, Nat.le_refl _⟩ (fun E z H locs hp hw => ?_)
              obtain ⟨hfn, hfe9, sg, hS, hv9, hf9⟩ := hp
              have hoe := dv_tr hfe9 hoe
              have fT9 : sg x = (sp_HV Q (sp_HV Q (sp_HV Q T))) := hv9.trans (by rw [f_x])
              have f_1 : sg (A 1) = ((2 ^ Q : Nat) : Int) := (hf9 (A 1) (hxA 1 (by decide)).symm (la_c (fn_ne hfn (i := 1) (j := 6) (by decide) (by decide) (by decide)) (la_c (fn_ne hfn (i := 1) (j := 8) (by decide) (by decide) (by decide)) (la_c (fn_ne hfn (i := 1) (j := 9) (by decide) (by decide) (by decide)) (la_c (fn_ne hfn (i := 1) (j := 10) (by decide) (by decide) (by decide)) la_n))))).trans f_1
              have f_2 : sg (A 2) = sg0 (A 2) := (hf9 (A 2) (hxA 2 (by decide)).symm (la_c (fn_ne hfn (i := 2) (j := 6) (by decide) (by decide) (by decide)) (la_c (fn_ne hfn (i := 2) (j := 8) (by decide) (by decide) (by decide)) (la_c (fn_ne hfn (i := 2) (j := 9) (by decide) (by decide) (by decide)) (la_c (fn_ne hfn (i := 2) (j := 10) (by decide) (by decide) (by decide)) la_n))))).trans f_2
              have f_3 : sg (A 3) = sg0 (A 3) := (hf9 (A 3) (hxA 3 (by decide)).symm (la_c (fn_ne hfn (i := 3) (j := 6) (by decide) (by decide) (by decide)) (la_c (fn_ne hfn (i := 3) (j := 8) (by decide) (by decide) (by decide)) (la_c (fn_ne hfn (i := 3) (j := 9) (by decide) (by decide) (by decide)) (la_c (fn_ne hfn (i := 3) (j := 10) (by decide) (by decide) (by decide)) la_n))))).trans f_3
              have f_x := fT9
              have hof : ∀ a, a ≠ x → (∀ i, i ∈ ([2, 4, 5, 6, 7, 8, 9, 10] : List Nat) → a ≠ A i) → sg a = sg0 a := fun a h1 h2 => (hf9 a h1 (la_c (h2 6 (by decide)) (la_c (h2 8 (by decide)) (la_c (h2 9 (by decide)) (la_c (h2 10 (by decide)) la_n))))).trans (hof a h1 h2)
              refine lv_iinc (v := (nI (((0 + 1) + 1) + 1))) (lv' := [(4, .int (nI (((0 + 1) + 1) + 1))), (3, .int (nI 1)), (2, .int (nI 1)), (0, .ref fo), (1, .ref x)]) hx hb dX2_arcOf_79 hl (k := 0) rfl (nI_1 _) (by decide) rfl (fun ls hl => ?_)
              refine lv_goto (tgt := 68) hx hb dX2_arcOf_82 (by decide) ?_
              refine lv_iload hx hb dX2_arcOf_68 (lv_at hl 0 rfl) ?_
              refine lv_iconst (v := nI 3) hx hb dX2_arcOf_70 (by decide) ?_
              refine bd_ige (h1 := (by decide)) (h2 := (by decide)) (tgt := 85) hx hb dX2_arcOf_71 (by decide) (fun hck => ?_) (fun hck => ?_)
              · refine lv_aload_n hx hb dX2_arcOf_85 rfl (lv_at hl 3 rfl) ?_
                refine lv_aload_n hx hb dX2_arcOf_86 rfl (lv_at hl 4 rfl) ?_
                refine lv_iconst (v := nI 1) hx hb dX2_arcOf_87 (by decide) ?_
                refine bd_cv (As := [.ref x, .int (nI 1)]) (rest := []) C (f_sumOfRow _ _ _ _ _ hfn hS x 1 hmx (fun i hi => hxA i (by omega)) (Or.inr rfl) (by rw [f_x]; exact (by omega))) (cwV 2 hts gX2_arcOf_X2_sumOfRow rfl rfl rfl (by decide +kernel) ⟨Nat.le_of_ble_eq_true rfl, Nat.le_of_ble_eq_true rfl⟩) hsz hw (fn_recv C hw hfn) dX2_arcOf_88 rfl hl.1 rfl (Nat.le_of_ble_eq_true rfl) ⟨Nat.le_refl _, Nat.le_refl _⟩ (fun E1 z H locs hp hw => ?_)
                obtain ⟨hE9, sg, hS, ⟨mR, hendmR, hv9⟩, hf9⟩ := hp
                rw [show E1 = E from hE9] at hw
                rw [f_x] at hendmR hv9
                have f_1 : sg (A 1) = ((2 ^ Q : Nat) : Int) := (hf9 (A 1) (hxA 1 (by decide)).symm (fun i hi => fn_ne hfn (i := 1) (j := i) (by decide) (by omega) (by omega))).trans f_1
                have f_2 : sg (A 2) = sg0 (A 2) := (hf9 (A 2) (hxA 2 (by decide)).symm (fun i hi => fn_ne hfn (i := 2) (j := i) (by decide) (by omega) (by omega))).trans f_2
                have f_3 : sg (A 3) = sg0 (A 3) := (hf9 (A 3) (hxA 3 (by decide)).symm (fun i hi => fn_ne hfn (i := 3) (j := i) (by decide) (by omega) (by omega))).trans f_3
                have f_x : sg x = (sp_row 1 (sp_pr ((2 ^ Q : Nat) : Int) ((sp_HV Q (sp_HV Q (sp_HV Q T))) * (sp_HV Q (sp_HV Q (sp_HV Q T))) / ((2 ^ Q : Nat) : Int)) (sp_HV Q (sp_HV Q (sp_HV Q T)))) mR) := hv9
                have hof : ∀ a, a ≠ x → (∀ i, i ∈ ([2, 4, 5, 6, 7, 8, 9, 10] : List Nat) → a ≠ A i) → sg a = sg0 a := fun a h1 h2 => (hf9 a h1 (fun i hi => h2 i (by rcases (show i = 4 ∨ i = 5 ∨ i = 6 ∨ i = 7 by omega) with rfl | rfl | rfl | rfl <;> decide))).trans (hof a h1 h2)
                have f_x : sg x = (sp_RW 1 ((2 ^ Q : Nat) : Int) (sp_HV Q (sp_HV Q (sp_HV Q T)))) := f_x.trans (sp_RWe ⟨mR, hendmR, rfl⟩)
                refine lv_aload_n hx hb dX2_arcOf_91 rfl (lv_at hl 4 rfl) ?_
                refine lv_iconst (v := nI 3) hx hb dX2_arcOf_92 (by decide) ?_
                have hRb := sp_RWb (al := 1) (D := ((2 ^ Q : Nat) : Int)) (w := (sp_HV Q (sp_HV Q (sp_HV Q T)))) hDp (by omega)
                refine sv_v (As := [.int (nI 3)]) (rest := []) C (v3_raise _ _ _ _ _ hS x 3 9 hmx (by omega) (by rw [f_x]; exact b9 (by omega)) (by decide)) (cwV 1 hts gX2_arcOf_X3_raise rfl rfl rfl (by decide +kernel) ⟨Nat.le_of_ble_eq_true rfl, Nat.le_of_ble_eq_true rfl⟩) hsz hw (bd_recv C hw hmx) dX2_arcOf_93 rfl hl.1 rfl (Nat.le_of_ble_eq_true rfl) ⟨Nat.le_refl _, Nat.le_refl _⟩ (fun z sg H locs hv9 hf9 hS hw => ?_)
                have fT9 : sg x = ((sp_RW 1 ((2 ^ Q : Nat) : Int) (sp_HV Q (sp_HV Q (sp_HV Q T)))) * ((2 ^ 3 : Nat) : Int)) := hv9.trans (by rw [f_x])
                have f_1 : sg (A 1) = ((2 ^ Q : Nat) : Int) := (hf9 (A 1) (hxA 1 (by decide)).symm).trans f_1
                have f_2 : sg (A 2) = sg0 (A 2) := (hf9 (A 2) (hxA 2 (by decide)).symm).trans f_2
                have f_3 : sg (A 3) = sg0 (A 3) := (hf9 (A 3) (hxA 3 (by decide)).symm).trans f_3
                have f_x := fT9
                have hof : ∀ a, a ≠ x → (∀ i, i ∈ ([2, 4, 5, 6, 7, 8, 9, 10] : List Nat) → a ≠ A i) → sg a = sg0 a := fun a h1 h2 => (hf9 a h1).trans (hof a h1 h2)
                refine lv_iload_n hx hb dX2_arcOf_96 rfl (lv_at hl 1 rfl) ?_
                refine bd_zeq (h1 := (by decide)) (tgt := 128) hx hb dX2_arcOf_97 (by decide) (fun hck => ?_) (fun hck => ?_)
                · exact absurd hck (by decide)
                · refine lv_aload_n hx hb dX2_arcOf_100 rfl (lv_at hl 3 rfl) ?_
                  refine fn_g C i2 hw hfn 9 (by decide) (v := .ref (A 8)) rfl dX2_arcOf_101 lk41 ?_
                  refine lv_aload_n hx hb dX2_arcOf_104 rfl (lv_at hl 3 rfl) ?_
                  have hiv : fn_iv Q A sg := fn_ivm hiv0 (f_1.trans hiv0.1.symm) f_2 f_3
                  refine bd_cr (As := []) (rest := [.ref (A 8)]) C (f_halfTurn _ _ _ _ _ hfn hS hiv) (cwV 0 hts gX2_arcOf_X2_halfTurn rfl rfl rfl (by decide +kernel) ⟨Nat.le_of_ble_eq_true rfl, Nat.le_of_ble_eq_true rfl⟩) hsz hw (fn_recv C hw hfn) dX2_arcOf_105 rfl hl.1 rfl (Nat.le_of_ble_eq_true rfl) ⟨Nat.le_refl _, Nat.le_refl _⟩ (fun E1 z H locs hp hw => ?_)
                  obtain ⟨hE9, sg, hS, hiv, hv9, hf9⟩ := hp
                  rw [show E1 = E from hE9] at hw
                  have fT9 : sg (A 2) = (sp_PI Q) := hv9.trans (by rfl)
                  have f_x : sg x = ((sp_RW 1 ((2 ^ Q : Nat) : Int) (sp_HV Q (sp_HV Q (sp_HV Q T)))) * ((2 ^ 3 : Nat) : Int)) := (hf9 x (la_c (hxA 2 (by decide)) (la_c (hxA 4 (by decide)) (la_c (hxA 5 (by decide)) (la_c (hxA 6 (by decide)) (la_c (hxA 7 (by decide)) (la_c (hxA 8 (by decide)) la_n))))))).trans f_x
                  have f_1 : sg (A 1) = ((2 ^ Q : Nat) : Int) := (hf9 (A 1) (la_c (fn_ne hfn (i := 1) (j := 2) (by decide) (by decide) (by decide)) (la_c (fn_ne hfn (i := 1) (j := 4) (by decide) (by decide) (by decide)) (la_c (fn_ne hfn (i := 1) (j := 5) (by decide) (by decide) (by decide)) (la_c (fn_ne hfn (i := 1) (j := 6) (by decide) (by decide) (by decide)) (la_c (fn_ne hfn (i := 1) (j := 7) (by decide) (by decide) (by decide)) (la_c (fn_ne hfn (i := 1) (j := 8) (by decide) (by decide) (by decide)) la_n))))))).trans f_1
                  have f_3 : sg (A 3) = sg0 (A 3) := (hf9 (A 3) (la_c (fn_ne hfn (i := 3) (j := 2) (by decide) (by decide) (by decide)) (la_c (fn_ne hfn (i := 3) (j := 4) (by decide) (by decide) (by decide)) (la_c (fn_ne hfn (i := 3) (j := 5) (by decide) (by decide) (by decide)) (la_c (fn_ne hfn (i := 3) (j := 6) (by decide) (by decide) (by decide)) (la_c (fn_ne hfn (i := 3) (j := 7) (by decide) (by decide) (by decide)) (la_c (fn_ne hfn (i := 3) (j := 8) (by decide) (by decide) (by decide)) la_n))))))).trans f_3
                  have f_2 := fT9
                  have hof : ∀ a, a ≠ x → (∀ i, i ∈ ([2, 4, 5, 6, 7, 8, 9, 10] : List Nat) → a ≠ A i) → sg a = sg0 a := fun a h1 h2 => (hf9 a (la_c (h2 2 (by decide)) (la_c (h2 4 (by decide)) (la_c (h2 5 (by decide)) (la_c (h2 6 (by decide)) (la_c (h2 7 (by decide)) (la_c (h2 8 (by decide)) la_n))))))).trans (hof a h1 h2)
                  refine sv_v (As := [.ref (A 2)]) (rest := []) C (v3_become_ _ _ _ _ _ hS (A 8) (A 2) (fn_in hfn (i := 8) (by decide)) (fn_in hfn (i := 2) (by decide))) (cwV 1 hts gX2_arcOf_X3_become_ rfl rfl rfl (by decide +kernel) ⟨Nat.le_of_ble_eq_true rfl, Nat.le_of_ble_eq_true rfl⟩) hsz hw (bd_recv C hw (fn_in hfn (i := 8) (by decide))) dX2_arcOf_108 rfl hl.1 rfl (Nat.le_of_ble_eq_true rfl) ⟨Nat.le_refl _, Nat.le_refl _⟩ (fun z sg H locs hv9 hf9 hS hw => ?_)
                  have fT9 : sg (A 8) = (sp_PI Q) := hv9.trans (by exact f_2)
                  have f_x : sg x = ((sp_RW 1 ((2 ^ Q : Nat) : Int) (sp_HV Q (sp_HV Q (sp_HV Q T)))) * ((2 ^ 3 : Nat) : Int)) := (hf9 x (hxA 8 (by decide))).trans f_x
                  have f_1 : sg (A 1) = ((2 ^ Q : Nat) : Int) := (hf9 (A 1) (fn_ne hfn (i := 1) (j := 8) (by decide) (by decide) (by decide))).trans f_1
                  have f_2 : sg (A 2) = (sp_PI Q) := (hf9 (A 2) (fn_ne hfn (i := 2) (j := 8) (by decide) (by decide) (by decide))).trans f_2
                  have f_3 : sg (A 3) = sg0 (A 3) := (hf9 (A 3) (fn_ne hfn (i := 3) (j := 8) (by decide) (by decide) (by decide))).trans f_3
                  have f_8 := fT9
                  have hof : ∀ a, a ≠ x → (∀ i, i ∈ ([2, 4, 5, 6, 7, 8, 9, 10] : List Nat) → a ≠ A i) → sg a = sg0 a := fun a h1 h2 => (hf9 a (h2 8 (by decide))).trans (hof a h1 h2)
                  refine lv_aload_n hx hb dX2_arcOf_111 rfl (lv_at hl 3 rfl) ?_
                  refine fn_g C i2 hw hfn 9 (by decide) (v := .ref (A 8)) rfl dX2_arcOf_112 lk41 ?_
                  refine lv_iconst (v := nI 1) hx hb dX2_arcOf_115 (by decide) ?_
                  refine sv_v (As := [.int (nI 1)]) (rest := []) C (v3_lower _ _ _ _ _ hS (A 8) 1 (fn_in hfn (i := 8) (by decide)) (by omega) (by omega)) (cwV 1 hts gX2_arcOf_X3_lower rfl rfl rfl (by decide +kernel) ⟨Nat.le_of_ble_eq_true rfl, Nat.le_of_ble_eq_true rfl⟩) hsz hw (bd_recv C hw (fn_in hfn (i := 8) (by decide))) dX2_arcOf_116 rfl hl.1 rfl (Nat.le_of_ble_eq_true rfl) ⟨Nat.le_refl _, Nat.le_refl _⟩ (fun z sg H locs hv9 hf9 hS hw => ?_)
                  have fT9 : sg (A 8) = (sp_PI Q / ((2 ^ 1 : Nat) : Int)) := hv9.trans (by rw [f_8])
                  have f_x : sg x = ((sp_RW 1 ((2 ^ Q : Nat) : Int) (sp_HV Q (sp_HV Q (sp_HV Q T)))) * ((2 ^ 3 : Nat) : Int)) := (hf9 x (hxA 8 (by decide))).trans f_x
                  have f_1 : sg (A 1) = ((2 ^ Q : Nat) : Int) := (hf9 (A 1) (fn_ne hfn (i := 1) (j := 8) (by decide) (by decide) (by decide))).trans f_1
                  have f_2 : sg (A 2) = (sp_PI Q) := (hf9 (A 2) (fn_ne hfn (i := 2) (j := 8) (by decide) (by decide) (by decide))).trans f_2
                  have f_3 : sg (A 3) = sg0 (A 3) := (hf9 (A 3) (fn_ne hfn (i := 3) (j := 8) (by decide) (by decide) (by decide))).trans f_3
                  have f_8 := fT9
                  have hof : ∀ a, a ≠ x → (∀ i, i ∈ ([2, 4, 5, 6, 7, 8, 9, 10] : List Nat) → a ≠ A i) → sg a = sg0 a := fun a h1 h2 => (hf9 a (h2 8 (by decide))).trans (hof a h1 h2)
                  refine lv_aload_n hx hb dX2_arcOf_119 rfl (lv_at hl 4 rfl) ?_
                  refine lv_aload_n hx hb dX2_arcOf_120 rfl (lv_at hl 3 rfl) ?_
                  refine fn_g C i2 hw hfn 9 (by decide) (v := .ref (A 8)) rfl dX2_arcOf_121 lk41 ?_
                  refine lv_aload_n hx hb dX2_arcOf_124 rfl (lv_at hl 4 rfl) ?_
                  refine sv_v (As := [.ref (A 8), .ref x]) (rest := []) C (v3_difference _ _ _ _ _ hS x (A 8) x hmx (fn_in hfn (i := 8) (by decide)) hmx (by rw [f_8, f_x]; exact b24 (by omega))) (cwV 2 hts gX2_arcOf_X3_difference rfl rfl rfl (by decide +kernel) ⟨Nat.le_of_ble_eq_true rfl, Nat.le_of_ble_eq_true rfl⟩) hsz hw (bd_recv C hw hmx) dX2_arcOf_125 rfl hl.1 rfl (Nat.le_of_ble_eq_true rfl) ⟨Nat.le_refl _, Nat.le_refl _⟩ (fun z sg H locs hv9 hf9 hS hw => ?_)
                  have fT9 : sg x = (sp_PI Q / ((2 ^ 1 : Nat) : Int) - ((sp_RW 1 ((2 ^ Q : Nat) : Int) (sp_HV Q (sp_HV Q (sp_HV Q T)))) * ((2 ^ 3 : Nat) : Int))) := hv9.trans (by rw [f_8, f_x])
                  have f_1 : sg (A 1) = ((2 ^ Q : Nat) : Int) := (hf9 (A 1) (hxA 1 (by decide)).symm).trans f_1
                  have f_2 : sg (A 2) = (sp_PI Q) := (hf9 (A 2) (hxA 2 (by decide)).symm).trans f_2
                  have f_3 : sg (A 3) = sg0 (A 3) := (hf9 (A 3) (hxA 3 (by decide)).symm).trans f_3
                  have f_8 : sg (A 8) = (sp_PI Q / ((2 ^ 1 : Nat) : Int)) := (hf9 (A 8) (hxA 8 (by decide)).symm).trans f_8
                  have f_x := fT9
                  have hof : ∀ a, a ≠ x → (∀ i, i ∈ ([2, 4, 5, 6, 7, 8, 9, 10] : List Nat) → a ≠ A i) → sg a = sg0 a := fun a h1 h2 => (hf9 a h1).trans (hof a h1 h2)
                  refine lv_iload_n hx hb dX2_arcOf_128 rfl (lv_at hl 2 rfl) ?_
                  refine bd_zeq (h1 := (by decide)) (tgt := 136) hx hb dX2_arcOf_129 (by decide) (fun hck => ?_) (fun hck => ?_)
                  · exact absurd hck (by decide)
                  · refine lv_aload_n hx hb dX2_arcOf_132 rfl (lv_at hl 4 rfl) ?_
                    refine sv_v (As := []) (rest := []) C (v3_turn _ _ _ _ _ hS x hmx) (cwV 0 hts gX2_arcOf_X3_turn rfl rfl rfl (by decide +kernel) ⟨Nat.le_of_ble_eq_true rfl, Nat.le_of_ble_eq_true rfl⟩) hsz hw (bd_recv C hw hmx) dX2_arcOf_133 rfl hl.1 rfl (Nat.le_of_ble_eq_true rfl) ⟨Nat.le_refl _, Nat.le_refl _⟩ (fun z sg H locs hv9 hf9 hS hw => ?_)
                    have fT9 : sg x = (-(sp_PI Q / ((2 ^ 1 : Nat) : Int) - ((sp_RW 1 ((2 ^ Q : Nat) : Int) (sp_HV Q (sp_HV Q (sp_HV Q T)))) * ((2 ^ 3 : Nat) : Int)))) := hv9.trans (by rw [f_x])
                    have f_1 : sg (A 1) = ((2 ^ Q : Nat) : Int) := (hf9 (A 1) (hxA 1 (by decide)).symm).trans f_1
                    have f_2 : sg (A 2) = (sp_PI Q) := (hf9 (A 2) (hxA 2 (by decide)).symm).trans f_2
                    have f_3 : sg (A 3) = sg0 (A 3) := (hf9 (A 3) (hxA 3 (by decide)).symm).trans f_3
                    have f_8 : sg (A 8) = (sp_PI Q / ((2 ^ 1 : Nat) : Int)) := (hf9 (A 8) (hxA 8 (by decide)).symm).trans f_8
                    have f_x := fT9
                    have hof : ∀ a, a ≠ x → (∀ i, i ∈ ([2, 4, 5, 6, 7, 8, 9, 10] : List Nat) → a ≠ A i) → sg a = sg0 a := fun a h1 h2 => (hf9 a h1).trans (hof a h1 h2)
                    exact bd_vret C hr hlk hw dX2_arcOf_136 ⟨hfn, hoe, sg, hS, ⟨f_1, Or.inr f_2, by rw [f_3]; exact hiv0.2.2⟩, (by rw [sp_AT, if_pos hsn, sp_AP, if_pos hst, f_x, hT]), hof⟩
              · exact absurd hck (by decide)
