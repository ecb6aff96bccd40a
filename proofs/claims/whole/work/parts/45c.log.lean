/-! Fine.logarithm (laid by wip/gen/m_fine8.py) -/
set_option maxHeartbeats 4000000 in
set_option maxRecDepth 100000 in
/-- Fine.logarithm(x): LOG -/
theorem f_logarithm (l : Launch) (K : Cxt) (E0 : Nat → va_E) (z0 : Nat → Wh) (sz : Nat) {fo Q dv rs bs : Nat} {A : Nat → Nat} (hfn : fn_at K E0 fo Q dv rs bs A) {sg0 : Nat → Int} (hS : sg_S K z0 sg0) (x : Nat) (hmx : x ∈ bd_N K) (hxA : ∀ i, 1 ≤ i ∧ i ≤ 10 → x ≠ A i) (hiv0 : fn_iv Q A sg0) (hb0 : 0 < sg0 x) (hb1 : (sg0 x).natAbs < 2 ^ (Q + 50)) : Met l yX2_logarithm wsX2_logarithm ({ frames := 6, cells := 0, slots := 0, locals := 180 }) (va_Pc [.ref fo, .ref x] (bd_P K E0 z0 sz)) (va_Qv (fun u => fn_at K u.1 fo Q dv rs bs A ∧ dv_fr dv rs bs E0 u.1 ∧ ∃ sg1 : Nat → Int, sg_S K u.2 sg1 ∧ fn_iv Q A sg1 ∧ sg1 x = sp_LOG Q (sg0 x) ∧ ∀ a, a ≠ x → (∀ i, i ∈ ([3, 4, 5, 6, 7, 8] : List Nat) → a ≠ A i) → sg1 a = sg0 a) (bd_B K) (bd_A K sz)) 0 0 (bd_A K sz) := by
  refine bd_ofW (cc := cX2_logarithm) (maxL := 3) (ret := none) (by decide) rfl (Nat.le_of_ble_eq_true rfl) ?_
  intro p e s m below meth c ls C hr hlk hsz hw hl
  have hx := C.1
  have hb := C.2.1
  have hown := C.2.2.2.1
  have hts := C.2.2.2.2.1
  have i2 : ∀ w ∈ wsX20, w ∈ wsX2_logarithm := by decide +kernel
  have lk35 : Cond.fieldLink RX2 35 "BallDesk$Fine" "term" "LBallDesk$Whole;" ∈ wsX2_logarithm := by decide +kernel
  have lk50 : Cond.fieldLink RX2 50 "BallDesk$Fine" "bits" "I" ∈ wsX2_logarithm := by decide +kernel
  have lk41 : Cond.fieldLink RX2 41 "BallDesk$Fine" "other" "LBallDesk$Whole;" ∈ wsX2_logarithm := by decide +kernel
  have lk19 : Cond.fieldLink RX2 19 "BallDesk$Fine" "division" "LBallDesk$Division;" ∈ wsX2_logarithm := by decide +kernel
  have hoe : dv_fr dv rs bs E0 E0 := dv_rf
  obtain ⟨hQ1, hQ2⟩ := fn_Q hfn
  have hl : lv_has ls 3 [(0, .ref fo), (1, .ref x)] := hl
  have hp256 : (2 : Nat) ^ Q ≤ 2 ^ 256 := Nat.pow_le_pow_right (by decide) hQ2
  have hp80 : (2 : Nat) ^ 80 ≤ 2 ^ Q := Nat.pow_le_pow_right (by decide) hQ1
  have hDp : (0 : Int) < ((2 ^ Q : Nat) : Int) := by omega
  have hp512 : (2 : Nat) ^ (2 * Q) ≤ 2 ^ 512 := Nat.pow_le_pow_right (by decide) (by omega)
  have hD2p : (0 : Int) ≤ ((2 ^ (2 * Q) : Nat) : Int) := Int.natCast_nonneg _
  have f_x : sg0 x = sg0 x := rfl
  have f_1 := hiv0.1
  have f_2 : sg0 (A 2) = sg0 (A 2) := rfl
  have f_3 : sg0 (A 3) = sg0 (A 3) := rfl
  have hof : ∀ a, a ≠ x → (∀ i, i ∈ ([3, 4, 5, 6, 7, 8] : List Nat) → a ≠ A i) → sg0 a = sg0 a := fun _ _ _ => rfl
  have hx306 : (sg0 x).natAbs ≤ 2 ^ 306 := Nat.le_trans (Nat.le_of_lt hb1) (Nat.pow_le_pow_right (by decide) (by omega))
  obtain ⟨bb, aa, bp, hbb, hbl, hxbb, haa, hbp, haa0, hbp0, haab, hbpb, hw9⟩ := lg_pre hQ1 hQ2 hb0 hb1
  have hlb := sp_lgb hb0 hQ1
  obtain ⟨hs1, hs2, hs3, hs4⟩ := lg_s (D := ((2 ^ Q : Nat) : Int)) haa0 hbp0 haab hbpb hDp (by omega)
  obtain ⟨hs5, hs6, hs7⟩ := lg_r hQ1 hQ2 hbl hb0
  clear hb1 haab hbpb hp80
  have hkI : (nI bb - nI Q - nI 2).toInt = (bb : Int) - Q - 2 := kk_toInt (by omega) (by omega)
  have hx3 : (sg0 x).natAbs * (3 : Int).natAbs < 4294967296 ^ 24 := b24 (Nat.le_trans (Nat.mul_le_mul_right _ hx306) (by decide +kernel))
  clear hx306
  refine lv_aload_n hx hb dX2_logarithm_0 rfl (lv_at hl 0 rfl) ?_
  refine fn_g C i2 hw hfn 7 (by decide) (v := .ref (A 6)) rfl dX2_logarithm_1 lk35 ?_
  refine lv_aload_n hx hb dX2_logarithm_4 rfl (lv_at hl 1 rfl) ?_
  refine sv_v (As := [.ref x]) (rest := []) C (v3_become_ _ _ _ _ _ hS (A 6) x (fn_in hfn (i := 6) (by decide)) hmx) (cwV 1 hts gX2_logarithm_X3_become_ rfl rfl rfl (by decide +kernel) ⟨Nat.le_of_ble_eq_true rfl, Nat.le_of_ble_eq_true rfl⟩) hsz hw (bd_recv C hw (fn_in hfn (i := 6) (by decide))) dX2_logarithm_5 rfl hl.1 rfl (Nat.le_of_ble_eq_true rfl) ⟨Nat.le_refl _, Nat.le_refl _⟩ (fun z sg H locs hv9 hf9 hS hw => ?_)
  have fT9 : sg (A 6) = sg0 x := hv9.trans (by exact f_x)
  have f_x : sg x = sg0 x := (hf9 x (hxA 6 (by decide))).trans f_x
  have f_1 : sg (A 1) = ((2 ^ Q : Nat) : Int) := (hf9 (A 1) (fn_ne hfn (i := 1) (j := 6) (by decide) (by decide) (by decide))).trans f_1
  have f_2 : sg (A 2) = sg0 (A 2) := (hf9 (A 2) (fn_ne hfn (i := 2) (j := 6) (by decide) (by decide) (by decide))).trans f_2
  have f_3 : sg (A 3) = sg0 (A 3) := (hf9 (A 3) (fn_ne hfn (i := 3) (j := 6) (by decide) (by decide) (by decide))).trans f_3
  have f_6 := fT9
  have hof : ∀ a, a ≠ x → (∀ i, i ∈ ([3, 4, 5, 6, 7, 8] : List Nat) → a ≠ A i) → sg a = sg0 a := fun a h1 h2 => (hf9 a (h2 6 (by decide))).trans (hof a h1 h2)
  refine lv_aload_n hx hb dX2_logarithm_8 rfl (lv_at hl 0 rfl) ?_
  refine fn_g C i2 hw hfn 7 (by decide) (v := .ref (A 6)) rfl dX2_logarithm_9 lk35 ?_
  refine lv_iconst (v := nI 3) hx hb dX2_logarithm_12 (by decide) ?_
  refine sv_v (As := [.int (nI 3)]) (rest := []) C (v3_multiply _ _ _ _ _ hS (A 6) (nI 3) (fn_in hfn (i := 6) (by decide)) (by rw [f_6, show (nI 3).toInt = 3 from rfl]; exact hx3)) (cwV 1 hts gX2_logarithm_X3_multiply rfl rfl rfl (by decide +kernel) ⟨Nat.le_of_ble_eq_true rfl, Nat.le_of_ble_eq_true rfl⟩) hsz hw (bd_recv C hw (fn_in hfn (i := 6) (by decide))) dX2_logarithm_13 rfl hl.1 rfl (Nat.le_of_ble_eq_true rfl) ⟨Nat.le_refl _, Nat.le_refl _⟩ (fun z sg H locs hv9 hf9 hS hw => ?_)
  have fT9 : sg (A 6) = (sg0 x * 3) := hv9.trans (by rw [f_6]; rfl)
  have f_x : sg x = sg0 x := (hf9 x (hxA 6 (by decide))).trans f_x
  have f_1 : sg (A 1) = ((2 ^ Q : Nat) : Int) := (hf9 (A 1) (fn_ne hfn (i := 1) (j := 6) (by decide) (by decide) (by decide))).trans f_1
  have f_2 : sg (A 2) = sg0 (A 2) := (hf9 (A 2) (fn_ne hfn (i := 2) (j := 6) (by decide) (by decide) (by decide))).trans f_2
  have f_3 : sg (A 3) = sg0 (A 3) := (hf9 (A 3) (fn_ne hfn (i := 3) (j := 6) (by decide) (by decide) (by decide))).trans f_3
  have f_6 := fT9
  have hof : ∀ a, a ≠ x → (∀ i, i ∈ ([3, 4, 5, 6, 7, 8] : List Nat) → a ≠ A i) → sg a = sg0 a := fun a h1 h2 => (hf9 a (h2 6 (by decide))).trans (hof a h1 h2)
  refine lv_aload_n hx hb dX2_logarithm_16 rfl (lv_at hl 0 rfl) ?_
  refine fn_g C i2 hw hfn 7 (by decide) (v := .ref (A 6)) rfl dX2_logarithm_17 lk35 ?_
  refine bd_cip (As := []) (rest := []) C (v3_bits _ _ _ _ _ hS (A 6) (fn_in hfn (i := 6) (by decide))) (cwV 0 hts gX2_logarithm_X3_bits rfl rfl rfl (by decide +kernel) ⟨Nat.le_of_ble_eq_true rfl, Nat.le_of_ble_eq_true rfl⟩) hsz hw (bd_recv C hw (fn_in hfn (i := 6) (by decide))) dX2_logarithm_20 rfl hl.1 rfl (Nat.le_of_ble_eq_true rfl) ⟨Nat.le_refl _, Nat.le_refl _⟩ (fun H locs hw => ?_)
  rw [f_6, ← hbb]
  refine lv_aload_n hx hb dX2_logarithm_23 rfl (lv_at hl 0 rfl) ?_
  refine fn_g C i2 hw hfn 0 (by decide) (v := .int (nI Q)) rfl dX2_logarithm_24 lk50 ?_
  refine bd_isub (v := (nI bb - nI Q)) hx hb dX2_logarithm_27 (rfl) ?_
  refine lv_iconst (v := nI 2) hx hb dX2_logarithm_28 (by decide) ?_
  refine bd_isub (v := (nI bb - nI Q - nI 2)) hx hb dX2_logarithm_29 (rfl) ?_
  refine lv_istore_n (lv' := [(2, .int (nI bb - nI Q - nI 2)), (0, .ref fo), (1, .ref x)]) hx hb dX2_logarithm_30 rfl hl (by decide) rfl (fun ls hl => ?_)
  refine lv_aload_n hx hb dX2_logarithm_31 rfl (lv_at hl 2 rfl) ?_
  refine lv_iconst (v := nI 0) hx hb dX2_logarithm_32 (by decide) ?_
  refine lv_iload_n hx hb dX2_logarithm_33 rfl (lv_at hl 0 rfl) ?_
  refine bd_ineg (v := (-(nI bb - nI Q - nI 2))) hx hb dX2_logarithm_34 (rfl) ?_
  refine va_mmax hx hb (C.2.2.1.trans hl.1.symm) hown (hts (.methodLink RX2 61 Lib.Math.max.name) (by decide +kernel)) (hts (.static Lib.Math.max.name) (by decide +kernel)) (hts (.initialized "java/lang/Math") (by decide +kernel)) (hts (.code Lib.Math.max.name Lib.Math.max.code 2 (some .int)) (by decide +kernel)) (Nat.le_of_ble_eq_true rfl) (Nat.le_of_ble_eq_true rfl) (Nat.le_refl _) (Nat.le_refl _) dX2_logarithm_35 ?_
  rw [mx2 (by omega) (by omega)]
  refine sv_v (As := [.int (nI (Q + 2 - bb))]) (rest := []) C (v3_raise _ _ _ _ _ hS x (Q + 2 - bb) (bb / 32 + 1) hmx (by omega) (by rw [f_x]; exact b32 hxbb) (by omega)) (cwV 1 hts gX2_logarithm_X3_raise rfl rfl rfl (by decide +kernel) ⟨Nat.le_of_ble_eq_true rfl, Nat.le_of_ble_eq_true rfl⟩) hsz hw (bd_recv C hw hmx) dX2_logarithm_38 rfl hl.1 rfl (Nat.le_of_ble_eq_true rfl) ⟨Nat.le_refl _, Nat.le_refl _⟩ (fun z sg H locs hv9 hf9 hS hw => ?_)
  have fT9 : sg x = aa := hv9.trans (by rw [f_x, haa])
  have f_1 : sg (A 1) = ((2 ^ Q : Nat) : Int) := (hf9 (A 1) (hxA 1 (by decide)).symm).trans f_1
  have f_2 : sg (A 2) = sg0 (A 2) := (hf9 (A 2) (hxA 2 (by decide)).symm).trans f_2
  have f_3 : sg (A 3) = sg0 (A 3) := (hf9 (A 3) (hxA 3 (by decide)).symm).trans f_3
  have f_6 : sg (A 6) = (sg0 x * 3) := (hf9 (A 6) (hxA 6 (by decide)).symm).trans f_6
  have f_x := fT9
  have hof : ∀ a, a ≠ x → (∀ i, i ∈ ([3, 4, 5, 6, 7, 8] : List Nat) → a ≠ A i) → sg a = sg0 a := fun a h1 h2 => (hf9 a h1).trans (hof a h1 h2)
  refine lv_aload_n hx hb dX2_logarithm_41 rfl (lv_at hl 1 rfl) ?_
  refine fn_g C i2 hw hfn 7 (by decide) (v := .ref (A 6)) rfl dX2_logarithm_42 lk35 ?_
  refine lv_aload_n hx hb dX2_logarithm_45 rfl (lv_at hl 1 rfl) ?_
  refine fn_g C i2 hw hfn 0 (by decide) (v := .int (nI Q)) rfl dX2_logarithm_46 lk50 ?_
  refine lv_iconst (v := nI 0) hx hb dX2_logarithm_49 (by decide) ?_
  refine lv_iload_n hx hb dX2_logarithm_50 rfl (lv_at hl 0 rfl) ?_
  refine va_mmax hx hb (C.2.2.1.trans hl.1.symm) hown (hts (.methodLink RX2 61 Lib.Math.max.name) (by decide +kernel)) (hts (.static Lib.Math.max.name) (by decide +kernel)) (hts (.initialized "java/lang/Math") (by decide +kernel)) (hts (.code Lib.Math.max.name Lib.Math.max.code 2 (some .int)) (by decide +kernel)) (Nat.le_of_ble_eq_true rfl) (Nat.le_of_ble_eq_true rfl) (Nat.le_refl _) (Nat.le_refl _) dX2_logarithm_51 ?_
  rw [mx1 (by omega) (by omega)]
  refine bd_iadd (v := (nI (Q + (bb - (Q + 2))))) hx hb dX2_logarithm_54 (nI_add _ _) ?_
  refine sv_v (As := [.int (nI (Q + (bb - (Q + 2))))]) (rest := []) C (v3_becomePower _ _ _ _ _ hS (A 6) (Q + (bb - (Q + 2))) (fn_in hfn (i := 6) (by decide)) (by omega)) (cwV 1 hts gX2_logarithm_X3_becomePower rfl rfl rfl (by decide +kernel) ⟨Nat.le_of_ble_eq_true rfl, Nat.le_of_ble_eq_true rfl⟩) hsz hw (bd_recv C hw (fn_in hfn (i := 6) (by decide))) dX2_logarithm_55 rfl hl.1 rfl (Nat.le_of_ble_eq_true rfl) ⟨Nat.le_refl _, Nat.le_refl _⟩ (fun z sg H locs hv9 hf9 hS hw => ?_)
  have fT9 : sg (A 6) = bp := hv9.trans (by rw [hbp])
  have f_x : sg x = aa := (hf9 x (hxA 6 (by decide))).trans f_x
  have f_1 : sg (A 1) = ((2 ^ Q : Nat) : Int) := (hf9 (A 1) (fn_ne hfn (i := 1) (j := 6) (by decide) (by decide) (by decide))).trans f_1
  have f_2 : sg (A 2) = sg0 (A 2) := (hf9 (A 2) (fn_ne hfn (i := 2) (j := 6) (by decide) (by decide) (by decide))).trans f_2
  have f_3 : sg (A 3) = sg0 (A 3) := (hf9 (A 3) (fn_ne hfn (i := 3) (j := 6) (by decide) (by decide) (by decide))).trans f_3
  have f_6 := fT9
  have hof : ∀ a, a ≠ x → (∀ i, i ∈ ([3, 4, 5, 6, 7, 8] : List Nat) → a ≠ A i) → sg a = sg0 a := fun a h1 h2 => (hf9 a (h2 6 (by decide))).trans (hof a h1 h2)
  refine lv_aload_n hx hb dX2_logarithm_58 rfl (lv_at hl 1 rfl) ?_
  refine fn_g C i2 hw hfn 9 (by decide) (v := .ref (A 8)) rfl dX2_logarithm_59 lk41 ?_
  refine lv_aload_n hx hb dX2_logarithm_62 rfl (lv_at hl 2 rfl) ?_
  refine lv_aload_n hx hb dX2_logarithm_63 rfl (lv_at hl 1 rfl) ?_
  refine fn_g C i2 hw hfn 7 (by decide) (v := .ref (A 6)) rfl dX2_logarithm_64 lk35 ?_
  refine sv_v (As := [.ref x, .ref (A 6)]) (rest := []) C (v3_difference _ _ _ _ _ hS (A 8) x (A 6) (fn_in hfn (i := 8) (by decide)) hmx (fn_in hfn (i := 6) (by decide)) (by rw [f_x, f_6]; exact hs1)) (cwV 2 hts gX2_logarithm_X3_difference rfl rfl rfl (by decide +kernel) ⟨Nat.le_of_ble_eq_true rfl, Nat.le_of_ble_eq_true rfl⟩) hsz hw (bd_recv C hw (fn_in hfn (i := 8) (by decide))) dX2_logarithm_67 rfl hl.1 rfl (Nat.le_of_ble_eq_true rfl) ⟨Nat.le_refl _, Nat.le_refl _⟩ (fun z sg H locs hv9 hf9 hS hw => ?_)
  have fT9 : sg (A 8) = (aa - bp) := hv9.trans (by rw [f_x, f_6])
  have f_x : sg x = aa := (hf9 x (hxA 8 (by decide))).trans f_x
  have f_1 : sg (A 1) = ((2 ^ Q : Nat) : Int) := (hf9 (A 1) (fn_ne hfn (i := 1) (j := 8) (by decide) (by decide) (by decide))).trans f_1
  have f_2 : sg (A 2) = sg0 (A 2) := (hf9 (A 2) (fn_ne hfn (i := 2) (j := 8) (by decide) (by decide) (by decide))).trans f_2
  have f_3 : sg (A 3) = sg0 (A 3) := (hf9 (A 3) (fn_ne hfn (i := 3) (j := 8) (by decide) (by decide) (by decide))).trans f_3
  have f_6 : sg (A 6) = bp := (hf9 (A 6) (fn_ne hfn (i := 6) (j := 8) (by decide) (by decide) (by decide))).trans f_6
  have f_8 := fT9
  have hof : ∀ a, a ≠ x → (∀ i, i ∈ ([3, 4, 5, 6, 7, 8] : List Nat) → a ≠ A i) → sg a = sg0 a := fun a h1 h2 => (hf9 a (h2 8 (by decide))).trans (hof a h1 h2)
  refine lv_aload_n hx hb dX2_logarithm_70 rfl (lv_at hl 1 rfl) ?_
  refine fn_g C i2 hw hfn 9 (by decide) (v := .ref (A 8)) rfl dX2_logarithm_71 lk41 ?_
  refine lv_aload_n hx hb dX2_logarithm_74 rfl (lv_at hl 1 rfl) ?_
  refine fn_g C i2 hw hfn 0 (by decide) (v := .int (nI Q)) rfl dX2_logarithm_75 lk50 ?_
  refine sv_v (As := [.int (nI Q)]) (rest := []) C (v3_raise _ _ _ _ _ hS (A 8) Q 10 (fn_in hfn (i := 8) (by decide)) (by omega) (by rw [f_8]; exact hs2) (by omega)) (cwV 1 hts gX2_logarithm_X3_raise rfl rfl rfl (by decide +kernel) ⟨Nat.le_of_ble_eq_true rfl, Nat.le_of_ble_eq_true rfl⟩) hsz hw (bd_recv C hw (fn_in hfn (i := 8) (by decide))) dX2_logarithm_78 rfl hl.1 rfl (Nat.le_of_ble_eq_true rfl) ⟨Nat.le_refl _, Nat.le_refl _⟩ (fun z sg H locs hv9 hf9 hS hw => ?_)
  have fT9 : sg (A 8) = ((aa - bp) * ((2 ^ Q : Nat) : Int)) := hv9.trans (by rw [f_8])
  have f_x : sg x = aa := (hf9 x (hxA 8 (by decide))).trans f_x
  have f_1 : sg (A 1) = ((2 ^ Q : Nat) : Int) := (hf9 (A 1) (fn_ne hfn (i := 1) (j := 8) (by decide) (by decide) (by decide))).trans f_1
  have f_2 : sg (A 2) = sg0 (A 2) := (hf9 (A 2) (fn_ne hfn (i := 2) (j := 8) (by decide) (by decide) (by decide))).trans f_2
  have f_3 : sg (A 3) = sg0 (A 3) := (hf9 (A 3) (fn_ne hfn (i := 3) (j := 8) (by decide) (by decide) (by decide))).trans f_3
  have f_6 : sg (A 6) = bp := (hf9 (A 6) (fn_ne hfn (i := 6) (j := 8) (by decide) (by decide) (by decide))).trans f_6
  have f_8 := fT9
  have hof : ∀ a, a ≠ x → (∀ i, i ∈ ([3, 4, 5, 6, 7, 8] : List Nat) → a ≠ A i) → sg a = sg0 a := fun a h1 h2 => (hf9 a (h2 8 (by decide))).trans (hof a h1 h2)
  refine lv_aload_n hx hb dX2_logarithm_81 rfl (lv_at hl 2 rfl) ?_
  refine lv_aload_n hx hb dX2_logarithm_82 rfl (lv_at hl 2 rfl) ?_
  refine lv_aload_n hx hb dX2_logarithm_83 rfl (lv_at hl 1 rfl) ?_
  refine fn_g C i2 hw hfn 7 (by decide) (v := .ref (A 6)) rfl dX2_logarithm_84 lk35 ?_
  refine sv_v (As := [.ref x, .ref (A 6)]) (rest := []) C (v3_sum _ _ _ _ _ hS x x (A 6) hmx hmx (fn_in hfn (i := 6) (by decide)) (by rw [f_x, f_6]; exact hs1)) (cwV 2 hts gX2_logarithm_X3_sum rfl rfl rfl (by decide +kernel) ⟨Nat.le_of_ble_eq_true rfl, Nat.le_of_ble_eq_true rfl⟩) hsz hw (bd_recv C hw hmx) dX2_logarithm_87 rfl hl.1 rfl (Nat.le_of_ble_eq_true rfl) ⟨Nat.le_refl _, Nat.le_refl _⟩ (fun z sg H locs hv9 hf9 hS hw => ?_)
  have fT9 : sg x = (aa + bp) := hv9.trans (by rw [f_x, f_6])
  have f_1 : sg (A 1) = ((2 ^ Q : Nat) : Int) := (hf9 (A 1) (hxA 1 (by decide)).symm).trans f_1
  have f_2 : sg (A 2) = sg0 (A 2) := (hf9 (A 2) (hxA 2 (by decide)).symm).trans f_2
  have f_3 : sg (A 3) = sg0 (A 3) := (hf9 (A 3) (hxA 3 (by decide)).symm).trans f_3
  have f_6 : sg (A 6) = bp := (hf9 (A 6) (hxA 6 (by decide)).symm).trans f_6
  have f_8 : sg (A 8) = ((aa - bp) * ((2 ^ Q : Nat) : Int)) := (hf9 (A 8) (hxA 8 (by decide)).symm).trans f_8
  have f_x := fT9
  have hof : ∀ a, a ≠ x → (∀ i, i ∈ ([3, 4, 5, 6, 7, 8] : List Nat) → a ≠ A i) → sg a = sg0 a := fun a h1 h2 => (hf9 a h1).trans (hof a h1 h2)
  refine lv_aload_n hx hb dX2_logarithm_90 rfl (lv_at hl 1 rfl) ?_
  refine fn_g C i2 hw hfn 2 (by decide) (v := .ref dv) rfl dX2_logarithm_91 lk19 ?_
  refine lv_aload_n hx hb dX2_logarithm_94 rfl (lv_at hl 2 rfl) ?_
  refine lv_aload_n hx hb dX2_logarithm_95 rfl (lv_at hl 1 rfl) ?_
  refine fn_g C i2 hw hfn 9 (by decide) (v := .ref (A 8)) rfl dX2_logarithm_96 lk41 ?_
  refine lv_aload_n hx hb dX2_logarithm_99 rfl (lv_at hl 2 rfl) ?_
  refine sv_q (As := [.ref x, .ref (A 8), .ref x]) (rest := []) C (v1_quotient _ _ _ _ _ hS dv rs bs x (A 8) x (fn_dv hfn) hmx (fn_in hfn (i := 8) (by decide)) hmx (by rw [f_x]; exact hs3) (by rw [f_8]; exact hs4)) (cwV 3 hts gX2_logarithm_X1_quotient rfl rfl rfl (by decide +kernel) ⟨Nat.le_of_ble_eq_true rfl, Nat.le_of_ble_eq_true rfl⟩) hsz hw (dv_recv2 C hw (fn_dv hfn)) dX2_logarithm_100 rfl hl.1 rfl (Nat.le_of_ble_eq_true rfl) ⟨Nat.le_refl _, Nat.le_refl _⟩ (fun E z sg H locs hd9 hfe9 hv9 hf9 hS hw => ?_)
  have hfn := fn_mv hfn hd9 hfe9
  have hoe := dv_tr hfe9 hoe
  have fT9 : sg x = (sp_lgw Q (sg0 x)) := hv9.trans (by rw [f_x, f_8, hw9])
  have f_1 : sg (A 1) = ((2 ^ Q : Nat) : Int) := (hf9 (A 1) (hxA 1 (by decide)).symm).trans f_1
  have f_2 : sg (A 2) = sg0 (A 2) := (hf9 (A 2) (hxA 2 (by decide)).symm).trans f_2
  have f_3 : sg (A 3) = sg0 (A 3) := (hf9 (A 3) (hxA 3 (by decide)).symm).trans f_3
  have f_6 : sg (A 6) = bp := (hf9 (A 6) (hxA 6 (by decide)).symm).trans f_6
  have f_8 : sg (A 8) = ((aa - bp) * ((2 ^ Q : Nat) : Int)) := (hf9 (A 8) (hxA 8 (by decide)).symm).trans f_8
  have f_x := fT9
  have hof : ∀ a, a ≠ x → (∀ i, i ∈ ([3, 4, 5, 6, 7, 8] : List Nat) → a ≠ A i) → sg a = sg0 a := fun a h1 h2 => (hf9 a h1).trans (hof a h1 h2)
  refine lv_pop hx hb dX2_logarithm_103 rfl ?_
  refine lv_aload_n hx hb dX2_logarithm_104 rfl (lv_at hl 1 rfl) ?_
  refine lv_aload_n hx hb dX2_logarithm_105 rfl (lv_at hl 2 rfl) ?_
  refine lv_iconst (v := nI 0) hx hb dX2_logarithm_106 (by decide) ?_
  refine bd_cv (As := [.ref x, .int (nI 0)]) (rest := []) C (f_sumOfRow _ _ _ _ _ hfn hS x 0 hmx (fun i hi => hxA i (by omega)) (Or.inl rfl) (by rw [f_x]; exact hlb)) (cwV 2 hts gX2_logarithm_X2_sumOfRow rfl rfl rfl (by decide +kernel) ⟨Nat.le_of_ble_eq_true rfl, Nat.le_of_ble_eq_true rfl⟩) hsz hw (fn_recv C hw hfn) dX2_logarithm_107 rfl hl.1 rfl (Nat.le_of_ble_eq_true rfl) ⟨Nat.le_refl _, Nat.le_refl _⟩ (fun E1 z H locs hp hw => ?_)
  obtain ⟨hE9, sg, hS, ⟨mR, hendmR, hv9⟩, hf9⟩ := hp
  rw [show E1 = E from hE9] at hw
  rw [f_x] at hendmR hv9
  have f_1 : sg (A 1) = ((2 ^ Q : Nat) : Int) := (hf9 (A 1) (hxA 1 (by decide)).symm (fun i hi => fn_ne hfn (i := 1) (j := i) (by decide) (by omega) (by omega))).trans f_1
  have f_2 : sg (A 2) = sg0 (A 2) := (hf9 (A 2) (hxA 2 (by decide)).symm (fun i hi => fn_ne hfn (i := 2) (j := i) (by decide) (by omega) (by omega))).trans f_2
  have f_3 : sg (A 3) = sg0 (A 3) := (hf9 (A 3) (hxA 3 (by decide)).symm (fun i hi => fn_ne hfn (i := 3) (j := i) (by decide) (by omega) (by omega))).trans f_3
  have f_8 : sg (A 8) = ((aa - bp) * ((2 ^ Q : Nat) : Int)) := (hf9 (A 8) (hxA 8 (by decide)).symm (fun i hi => fn_ne hfn (i := 8) (j := i) (by decide) (by omega) (by omega))).trans f_8
  have f_x : sg x = (sp_row 0 (sp_pr ((2 ^ Q : Nat) : Int) ((sp_lgw Q (sg0 x)) * (sp_lgw Q (sg0 x)) / ((2 ^ Q : Nat) : Int)) (sp_lgw Q (sg0 x))) mR) := hv9
  have hof : ∀ a, a ≠ x → (∀ i, i ∈ ([3, 4, 5, 6, 7, 8] : List Nat) → a ≠ A i) → sg a = sg0 a := fun a h1 h2 => (hf9 a h1 (fun i hi => h2 i (by rcases (show i = 4 ∨ i = 5 ∨ i = 6 ∨ i = 7 by omega) with rfl | rfl | rfl | rfl <;> decide))).trans (hof a h1 h2)
  have f_x : sg x = (sp_RW 0 ((2 ^ Q : Nat) : Int) (sp_lgw Q (sg0 x))) := f_x.trans (sp_RWe ⟨mR, hendmR, rfl⟩)
  refine lv_aload_n hx hb dX2_logarithm_110 rfl (lv_at hl 2 rfl) ?_
  refine lv_iconst (v := nI 1) hx hb dX2_logarithm_111 (by decide) ?_
  refine sv_v (As := [.int (nI 1)]) (rest := []) C (v3_raise _ _ _ _ _ hS x 1 9 hmx (by omega) (by rw [f_x]; exact hs5) (by decide)) (cwV 1 hts gX2_logarithm_X3_raise rfl rfl rfl (by decide +kernel) ⟨Nat.le_of_ble_eq_true rfl, Nat.le_of_ble_eq_true rfl⟩) hsz hw (bd_recv C hw hmx) dX2_logarithm_112 rfl hl.1 rfl (Nat.le_of_ble_eq_true rfl) ⟨Nat.le_refl _, Nat.le_refl _⟩ (fun z sg H locs hv9 hf9 hS hw => ?_)
  have fT9 : sg x = ((sp_RW 0 ((2 ^ Q : Nat) : Int) (sp_lgw Q (sg0 x))) * 2) := hv9.trans (by rw [f_x]; rfl)
  have f_1 : sg (A 1) = ((2 ^ Q : Nat) : Int) := (hf9 (A 1) (hxA 1 (by decide)).symm).trans f_1
  have f_2 : sg (A 2) = sg0 (A 2) := (hf9 (A 2) (hxA 2 (by decide)).symm).trans f_2
  have f_3 : sg (A 3) = sg0 (A 3) := (hf9 (A 3) (hxA 3 (by decide)).symm).trans f_3
  have f_8 : sg (A 8) = ((aa - bp) * ((2 ^ Q : Nat) : Int)) := (hf9 (A 8) (hxA 8 (by decide)).symm).trans f_8
  have f_x := fT9
  have hof : ∀ a, a ≠ x → (∀ i, i ∈ ([3, 4, 5, 6, 7, 8] : List Nat) → a ≠ A i) → sg a = sg0 a := fun a h1 h2 => (hf9 a h1).trans (hof a h1 h2)
  refine lv_aload_n hx hb dX2_logarithm_115 rfl (lv_at hl 1 rfl) ?_
  refine fn_g C i2 hw hfn 9 (by decide) (v := .ref (A 8)) rfl dX2_logarithm_116 lk41 ?_
  refine lv_aload_n hx hb dX2_logarithm_119 rfl (lv_at hl 1 rfl) ?_
  have hiv : fn_iv Q A sg := fn_ivm hiv0 (f_1.trans hiv0.1.symm) f_2 f_3
  refine bd_cr (As := []) (rest := [.ref (A 8)]) C (f_logOfTwo _ _ _ _ _ hfn hS hiv) (cwV 0 hts gX2_logarithm_X2_logOfTwo rfl rfl rfl (by decide +kernel) ⟨Nat.le_of_ble_eq_true rfl, Nat.le_of_ble_eq_true rfl⟩) hsz hw (fn_recv C hw hfn) dX2_logarithm_120 rfl hl.1 rfl (Nat.le_of_ble_eq_true rfl) ⟨Nat.le_refl _, Nat.le_refl _⟩ (fun E1 z H locs hp hw => ?_)
  obtain ⟨hE9, sg, hS, hiv, hv9, hf9⟩ := hp
  rw [show E1 = E from hE9] at hw
  have fT9 : sg (A 3) = (sp_L2 Q) := hv9.trans (by rfl)
  have f_x : sg x = ((sp_RW 0 ((2 ^ Q : Nat) : Int) (sp_lgw Q (sg0 x))) * 2) := (hf9 x (la_c (hxA 3 (by decide)) (la_c (hxA 4 (by decide)) (la_c (hxA 5 (by decide)) (la_c (hxA 6 (by decide)) (la_c (hxA 7 (by decide)) la_n)))))).trans f_x
  have f_1 : sg (A 1) = ((2 ^ Q : Nat) : Int) := (hf9 (A 1) (la_c (fn_ne hfn (i := 1) (j := 3) (by decide) (by decide) (by decide)) (la_c (fn_ne hfn (i := 1) (j := 4) (by decide) (by decide) (by decide)) (la_c (fn_ne hfn (i := 1) (j := 5) (by decide) (by decide) (by decide)) (la_c (fn_ne hfn (i := 1) (j := 6) (by decide) (by decide) (by decide)) (la_c (fn_ne hfn (i := 1) (j := 7) (by decide) (by decide) (by decide)) la_n)))))).trans f_1
  have f_2 : sg (A 2) = sg0 (A 2) := (hf9 (A 2) (la_c (fn_ne hfn (i := 2) (j := 3) (by decide) (by decide) (by decide)) (la_c (fn_ne hfn (i := 2) (j := 4) (by decide) (by decide) (by decide)) (la_c (fn_ne hfn (i := 2) (j := 5) (by decide) (by decide) (by decide)) (la_c (fn_ne hfn (i := 2) (j := 6) (by decide) (by decide) (by decide)) (la_c (fn_ne hfn (i := 2) (j := 7) (by decide) (by decide) (by decide)) la_n)))))).trans f_2
  have f_8 : sg (A 8) = ((aa - bp) * ((2 ^ Q : Nat) : Int)) := (hf9 (A 8) (la_c (fn_ne hfn (i := 8) (j := 3) (by decide) (by decide) (by decide)) (la_c (fn_ne hfn (i := 8) (j := 4) (by decide) (by decide) (by decide)) (la_c (fn_ne hfn (i := 8) (j := 5) (by decide) (by decide) (by decide)) (la_c (fn_ne hfn (i := 8) (j := 6) (by decide) (by decide) (by decide)) (la_c (fn_ne hfn (i := 8) (j := 7) (by decide) (by decide) (by decide)) la_n)))))).trans f_8
  have f_3 := fT9
  have hof : ∀ a, a ≠ x → (∀ i, i ∈ ([3, 4, 5, 6, 7, 8] : List Nat) → a ≠ A i) → sg a = sg0 a := fun a h1 h2 => (hf9 a (la_c (h2 3 (by decide)) (la_c (h2 4 (by decide)) (la_c (h2 5 (by decide)) (la_c (h2 6 (by decide)) (la_c (h2 7 (by decide)) la_n)))))).trans (hof a h1 h2)
  refine sv_v (As := [.ref (A 3)]) (rest := []) C (v3_become_ _ _ _ _ _ hS (A 8) (A 3) (fn_in hfn (i := 8) (by decide)) (fn_in hfn (i := 3) (by decide))) (cwV 1 hts gX2_logarithm_X3_become_ rfl rfl rfl (by decide +kernel) ⟨Nat.le_of_ble_eq_true rfl, Nat.le_of_ble_eq_true rfl⟩) hsz hw (bd_recv C hw (fn_in hfn (i := 8) (by decide))) dX2_logarithm_123 rfl hl.1 rfl (Nat.le_of_ble_eq_true rfl) ⟨Nat.le_refl _, Nat.le_refl _⟩ (fun z sg H locs hv9 hf9 hS hw => ?_)
  have fT9 : sg (A 8) = (sp_L2 Q) := hv9.trans (by exact f_3)
  have f_x : sg x = ((sp_RW 0 ((2 ^ Q : Nat) : Int) (sp_lgw Q (sg0 x))) * 2) := (hf9 x (hxA 8 (by decide))).trans f_x
  have f_1 : sg (A 1) = ((2 ^ Q : Nat) : Int) := (hf9 (A 1) (fn_ne hfn (i := 1) (j := 8) (by decide) (by decide) (by decide))).trans f_1
  have f_2 : sg (A 2) = sg0 (A 2) := (hf9 (A 2) (fn_ne hfn (i := 2) (j := 8) (by decide) (by decide) (by decide))).trans f_2
  have f_3 : sg (A 3) = (sp_L2 Q) := (hf9 (A 3) (fn_ne hfn (i := 3) (j := 8) (by decide) (by decide) (by decide))).trans f_3
  have f_8 := fT9
  have hof : ∀ a, a ≠ x → (∀ i, i ∈ ([3, 4, 5, 6, 7, 8] : List Nat) → a ≠ A i) → sg a = sg0 a := fun a h1 h2 => (hf9 a (h2 8 (by decide))).trans (hof a h1 h2)
  refine lv_aload_n hx hb dX2_logarithm_126 rfl (lv_at hl 1 rfl) ?_
  refine fn_g C i2 hw hfn 9 (by decide) (v := .ref (A 8)) rfl dX2_logarithm_127 lk41 ?_
  refine lv_iload_n hx hb dX2_logarithm_130 rfl (lv_at hl 0 rfl) ?_
  refine sv_v (As := [.int (nI bb - nI Q - nI 2)]) (rest := []) C (v3_multiply _ _ _ _ _ hS (A 8) (nI bb - nI Q - nI 2) (fn_in hfn (i := 8) (by decide)) (by rw [f_8, hkI]; exact hs6)) (cwV 1 hts gX2_logarithm_X3_multiply rfl rfl rfl (by decide +kernel) ⟨Nat.le_of_ble_eq_true rfl, Nat.le_of_ble_eq_true rfl⟩) hsz hw (bd_recv C hw (fn_in hfn (i := 8) (by decide))) dX2_logarithm_131 rfl hl.1 rfl (Nat.le_of_ble_eq_true rfl) ⟨Nat.le_refl _, Nat.le_refl _⟩ (fun z sg H locs hv9 hf9 hS hw => ?_)
  have fT9 : sg (A 8) = (sp_L2 Q * ((bb : Int) - Q - 2)) := hv9.trans (by rw [f_8, hkI])
  have f_x : sg x = ((sp_RW 0 ((2 ^ Q : Nat) : Int) (sp_lgw Q (sg0 x))) * 2) := (hf9 x (hxA 8 (by decide))).trans f_x
  have f_1 : sg (A 1) = ((2 ^ Q : Nat) : Int) := (hf9 (A 1) (fn_ne hfn (i := 1) (j := 8) (by decide) (by decide) (by decide))).trans f_1
  have f_2 : sg (A 2) = sg0 (A 2) := (hf9 (A 2) (fn_ne hfn (i := 2) (j := 8) (by decide) (by decide) (by decide))).trans f_2
  have f_3 : sg (A 3) = (sp_L2 Q) := (hf9 (A 3) (fn_ne hfn (i := 3) (j := 8) (by decide) (by decide) (by decide))).trans f_3
  have f_8 := fT9
  have hof : ∀ a, a ≠ x → (∀ i, i ∈ ([3, 4, 5, 6, 7, 8] : List Nat) → a ≠ A i) → sg a = sg0 a := fun a h1 h2 => (hf9 a (h2 8 (by decide))).trans (hof a h1 h2)
  refine lv_aload_n hx hb dX2_logarithm_134 rfl (lv_at hl 2 rfl) ?_
  refine lv_aload_n hx hb dX2_logarithm_135 rfl (lv_at hl 2 rfl) ?_
  refine lv_aload_n hx hb dX2_logarithm_136 rfl (lv_at hl 1 rfl) ?_
  refine fn_g C i2 hw hfn 9 (by decide) (v := .ref (A 8)) rfl dX2_logarithm_137 lk41 ?_
  refine sv_v (As := [.ref x, .ref (A 8)]) (rest := []) C (v3_sum _ _ _ _ _ hS x x (A 8) hmx hmx (fn_in hfn (i := 8) (by decide)) (by rw [f_x, f_8]; exact hs7)) (cwV 2 hts gX2_logarithm_X3_sum rfl rfl rfl (by decide +kernel) ⟨Nat.le_of_ble_eq_true rfl, Nat.le_of_ble_eq_true rfl⟩) hsz hw (bd_recv C hw hmx) dX2_logarithm_140 rfl hl.1 rfl (Nat.le_of_ble_eq_true rfl) ⟨Nat.le_refl _, Nat.le_refl _⟩ (fun z sg H locs hv9 hf9 hS hw => ?_)
  have fT9 : sg x = ((sp_RW 0 ((2 ^ Q : Nat) : Int) (sp_lgw Q (sg0 x))) * 2 + sp_L2 Q * ((bb : Int) - Q - 2)) := hv9.trans (by rw [f_x, f_8])
  have f_1 : sg (A 1) = ((2 ^ Q : Nat) : Int) := (hf9 (A 1) (hxA 1 (by decide)).symm).trans f_1
  have f_2 : sg (A 2) = sg0 (A 2) := (hf9 (A 2) (hxA 2 (by decide)).symm).trans f_2
  have f_3 : sg (A 3) = (sp_L2 Q) := (hf9 (A 3) (hxA 3 (by decide)).symm).trans f_3
  have f_8 : sg (A 8) = (sp_L2 Q * ((bb : Int) - Q - 2)) := (hf9 (A 8) (hxA 8 (by decide)).symm).trans f_8
  have f_x := fT9
  have hof : ∀ a, a ≠ x → (∀ i, i ∈ ([3, 4, 5, 6, 7, 8] : List Nat) → a ≠ A i) → sg a = sg0 a := fun a h1 h2 => (hf9 a h1).trans (hof a h1 h2)
  exact bd_vret C hr hlk hw dX2_logarithm_143 ⟨hfn, hoe, sg, hS, ⟨f_1, by rw [f_2]; exact hiv0.2.1, Or.inr f_3⟩, by rw [f_x, hbb]; rfl, hof⟩
