/-! Fine.halfTurn, logOfTwo (laid by wip/gen/m_fine6.py) -/
set_option maxHeartbeats 4000000 in
set_option maxRecDepth 100000 in
/-- Fine.X2_halfTurn -/
theorem f_halfTurn (l : Launch) (K : Cxt) (E0 : Nat → va_E) (z0 : Nat → Wh) (sz : Nat) {fo Q dv rs bs : Nat} {A : Nat → Nat} (hfn : fn_at K E0 fo Q dv rs bs A) {sg0 : Nat → Int} (hS : sg_S K z0 sg0)  (hiv : fn_iv Q A sg0) : Met l yX2_halfTurn wsX2_halfTurn ({ frames := 5, cells := 0, slots := 0, locals := 150 }) (va_Pc [.ref fo] (bd_P K E0 z0 sz)) (va_Qr (fun u => u.1 = E0 ∧ ∃ sg1 : Nat → Int, sg_S K u.2 sg1 ∧ fn_iv Q A sg1 ∧ sg1 (A 2) = sp_PI Q ∧ ∀ a, (∀ i, i ∈ ([2, 4, 5, 6, 7, 8] : List Nat) → a ≠ A i) → sg1 a = sg0 a) (fun u a t => bd_B K u t ∧ a = A 2) (bd_A K sz)) 0 0 (bd_A K sz) := by
  refine bd_ofW (cc := cX2_halfTurn) (maxL := 1) (ret := (some (.object "BallDesk$Whole"))) (by decide) rfl (Nat.le_of_ble_eq_true rfl) ?_
  intro p e s m below meth c ls C hr hlk hsz hw hl
  have hx := C.1
  have hb := C.2.1
  have hown := C.2.2.2.1
  have hts := C.2.2.2.2.1
  have i2 : ∀ w ∈ wsX20, w ∈ wsX2_halfTurn := by decide +kernel
  have lk23 : Cond.fieldLink RX2 23 "BallDesk$Fine" "halfTurn" "LBallDesk$Whole;" ∈ wsX2_halfTurn := by decide +kernel
  have lk10 : Cond.fieldLink RX2 10 "BallDesk$Fine" "one" "LBallDesk$Whole;" ∈ wsX2_halfTurn := by decide +kernel
  have lk41 : Cond.fieldLink RX2 41 "BallDesk$Fine" "other" "LBallDesk$Whole;" ∈ wsX2_halfTurn := by decide +kernel
  have hoe : dv_fr dv rs bs E0 E0 := dv_rf
  obtain ⟨hQ1, hQ2⟩ := fn_Q hfn
  have hl : lv_has ls 1 [(0, .ref fo)] := hl
  have hp256 : (2 : Nat) ^ Q ≤ 2 ^ 256 := Nat.pow_le_pow_right (by decide) hQ2
  have hp80 : (2 : Nat) ^ 80 ≤ 2 ^ Q := Nat.pow_le_pow_right (by decide) hQ1
  have hDp : (0 : Int) < ((2 ^ Q : Nat) : Int) := by omega
  have f_1 := hiv.1
  have f_2 : sg0 (A 2) = sg0 (A 2) := rfl
  have f_3 : sg0 (A 3) = sg0 (A 3) := rfl
  have hof : ∀ a, (∀ i, i ∈ ([2, 4, 5, 6, 7, 8] : List Nat) → a ≠ A i) → sg0 a = sg0 a := fun _ _ => rfl
  refine lv_aload_n hx hb dX2_halfTurn_0 rfl (lv_at hl 0 rfl) ?_
  refine fn_g C i2 hw hfn 3 (by decide) (v := .ref (A 2)) rfl dX2_halfTurn_1 lk23 ?_
  refine bd_cip (As := []) (rest := []) C (v3_sign _ _ _ _ _ hS (A 2) (fn_in hfn (i := 2) (by decide))) (cwV 0 hts gX2_halfTurn_X3_sign rfl rfl rfl (by decide +kernel) ⟨Nat.le_of_ble_eq_true rfl, Nat.le_of_ble_eq_true rfl⟩) hsz hw (bd_recv C hw (fn_in hfn (i := 2) (by decide))) dX2_halfTurn_4 rfl hl.1 rfl (Nat.le_of_ble_eq_true rfl) ⟨Nat.le_refl _, Nat.le_refl _⟩ (fun H locs hw => ?_)
  refine lv_if_ne (tgt := 101) hx hb dX2_halfTurn_7 (by decide) (fun hc7 => ?_) (fun hc7 => ?_)
  · refine lv_aload_n hx hb dX2_halfTurn_101 rfl (lv_at hl 0 rfl) ?_
    refine fn_g C i2 hw hfn 3 (by decide) (v := .ref (A 2)) rfl dX2_halfTurn_102 lk23 ?_
    have hnz : sg0 (A 2) = sp_PI Q := hiv.2.1.elim (fun q => absurd (by rw [q]; rfl) hc7) id
    exact bd_aret C hr hlk hw dX2_halfTurn_105 ⟨rfl, sg0, hS, hiv, hnz, hof⟩
  · refine lv_aload_n hx hb dX2_halfTurn_10 rfl (lv_at hl 0 rfl) ?_
    refine fn_g C i2 hw hfn 3 (by decide) (v := .ref (A 2)) rfl dX2_halfTurn_11 lk23 ?_
    refine lv_aload_n hx hb dX2_halfTurn_14 rfl (lv_at hl 0 rfl) ?_
    refine fn_g C i2 hw hfn 1 (by decide) (v := .ref (A 1)) rfl dX2_halfTurn_15 lk10 ?_
    refine sv_v (As := [.ref (A 1)]) (rest := []) C (v3_become_ _ _ _ _ _ hS (A 2) (A 1) (fn_in hfn (i := 2) (by decide)) (fn_in hfn (i := 1) (by decide))) (cwV 1 hts gX2_halfTurn_X3_become_ rfl rfl rfl (by decide +kernel) ⟨Nat.le_of_ble_eq_true rfl, Nat.le_of_ble_eq_true rfl⟩) hsz hw (bd_recv C hw (fn_in hfn (i := 2) (by decide))) dX2_halfTurn_18 rfl hl.1 rfl (Nat.le_of_ble_eq_true rfl) ⟨Nat.le_refl _, Nat.le_refl _⟩ (fun z sg H locs hv9 hf9 hS hw => ?_)
    have fT9 : sg (A 2) = ((2 ^ Q : Nat) : Int) := hv9.trans (by exact f_1)
    have f_1 : sg (A 1) = ((2 ^ Q : Nat) : Int) := (hf9 (A 1) (fn_ne hfn (i := 1) (j := 2) (by decide) (by decide) (by decide))).trans f_1
    have f_3 : sg (A 3) = sg0 (A 3) := (hf9 (A 3) (fn_ne hfn (i := 3) (j := 2) (by decide) (by decide) (by decide))).trans f_3
    have f_2 := fT9
    have hof : ∀ a, (∀ i, i ∈ ([2, 4, 5, 6, 7, 8] : List Nat) → a ≠ A i) → sg a = sg0 a := fun a h2 => (hf9 a (h2 2 (by decide))).trans (hof a h2)
    refine lv_aload_n hx hb dX2_halfTurn_21 rfl (lv_at hl 0 rfl) ?_
    refine fn_g C i2 hw hfn 3 (by decide) (v := .ref (A 2)) rfl dX2_halfTurn_22 lk23 ?_
    refine lv_iconst (v := nI 5) hx hb dX2_halfTurn_25 (by decide) ?_
    refine sv_i (As := [.int (nI 5)]) (rest := []) C (v3_divide _ _ _ _ _ hS (A 2) 5 (fn_in hfn (i := 2) (by decide)) (by decide) (by decide) (by rw [f_2]; exact b24 (by omega))) (cwV 1 hts gX2_halfTurn_X3_divide rfl rfl rfl (by decide +kernel) ⟨Nat.le_of_ble_eq_true rfl, Nat.le_of_ble_eq_true rfl⟩) hsz hw (bd_recv C hw (fn_in hfn (i := 2) (by decide))) dX2_halfTurn_26 rfl hl.1 rfl (Nat.le_of_ble_eq_true rfl) ⟨Nat.le_refl _, Nat.le_refl _⟩ (fun z sg H locs hv9 hf9 hS hw => ?_)
    have fT9 : sg (A 2) = (((2 ^ Q : Nat) : Int) / 5) := hv9.trans (by rw [f_2]; rfl)
    have f_1 : sg (A 1) = ((2 ^ Q : Nat) : Int) := (hf9 (A 1) (fn_ne hfn (i := 1) (j := 2) (by decide) (by decide) (by decide))).trans f_1
    have f_3 : sg (A 3) = sg0 (A 3) := (hf9 (A 3) (fn_ne hfn (i := 3) (j := 2) (by decide) (by decide) (by decide))).trans f_3
    have f_2 := fT9
    have hof : ∀ a, (∀ i, i ∈ ([2, 4, 5, 6, 7, 8] : List Nat) → a ≠ A i) → sg a = sg0 a := fun a h2 => (hf9 a (h2 2 (by decide))).trans (hof a h2)
    refine lv_pop hx hb dX2_halfTurn_29 rfl ?_
    refine lv_aload_n hx hb dX2_halfTurn_30 rfl (lv_at hl 0 rfl) ?_
    refine lv_aload_n hx hb dX2_halfTurn_31 rfl (lv_at hl 0 rfl) ?_
    refine fn_g C i2 hw hfn 3 (by decide) (v := .ref (A 2)) rfl dX2_halfTurn_32 lk23 ?_
    refine lv_iconst (v := nI 1) hx hb dX2_halfTurn_35 (by decide) ?_
    refine bd_cv (As := [.ref (A 2), .int (nI 1)]) (rest := []) C (f_sumOfRow _ _ _ _ _ hfn hS (A 2) 1 (fn_in hfn (i := 2) (by decide)) (fun i hi => fn_ne hfn (i := 2) (j := i) (by decide) (by omega) (by omega)) (Or.inr rfl) (by rw [f_2]; exact (by omega))) (cwV 2 hts gX2_halfTurn_X2_sumOfRow rfl rfl rfl (by decide +kernel) ⟨Nat.le_of_ble_eq_true rfl, Nat.le_of_ble_eq_true rfl⟩) hsz hw (fn_recv C hw hfn) dX2_halfTurn_36 rfl hl.1 rfl (Nat.le_of_ble_eq_true rfl) ⟨Nat.le_refl _, Nat.le_refl _⟩ (fun E1 z H locs hp hw => ?_)
    obtain ⟨hE9, sg, hS, ⟨mR, hendmR, hv9⟩, hf9⟩ := hp
    rw [show E1 = E0 from hE9] at hw
    rw [f_2] at hendmR hv9
    have f_1 : sg (A 1) = ((2 ^ Q : Nat) : Int) := (hf9 (A 1) (fn_ne hfn (i := 1) (j := 2) (by decide) (by decide) (by decide)) (fun i hi => fn_ne hfn (i := 1) (j := i) (by decide) (by omega) (by omega))).trans f_1
    have f_3 : sg (A 3) = sg0 (A 3) := (hf9 (A 3) (fn_ne hfn (i := 3) (j := 2) (by decide) (by decide) (by decide)) (fun i hi => fn_ne hfn (i := 3) (j := i) (by decide) (by omega) (by omega))).trans f_3
    have f_2 : sg (A 2) = (sp_row 1 (sp_pr ((2 ^ Q : Nat) : Int) ((((2 ^ Q : Nat) : Int) / 5) * (((2 ^ Q : Nat) : Int) / 5) / ((2 ^ Q : Nat) : Int)) (((2 ^ Q : Nat) : Int) / 5)) mR) := hv9
    have hof : ∀ a, (∀ i, i ∈ ([2, 4, 5, 6, 7, 8] : List Nat) → a ≠ A i) → sg a = sg0 a := fun a h2 => (hf9 a (h2 2 (by decide)) (fun i hi => h2 i (by rcases (show i = 4 ∨ i = 5 ∨ i = 6 ∨ i = 7 by omega) with rfl | rfl | rfl | rfl <;> decide))).trans (hof a h2)
    have f_2 : sg (A 2) = (sp_RW 1 ((2 ^ Q : Nat) : Int) (((2 ^ Q : Nat) : Int) / 5)) := f_2.trans (sp_RWe ⟨mR, hendmR, rfl⟩)
    refine lv_aload_n hx hb dX2_halfTurn_39 rfl (lv_at hl 0 rfl) ?_
    refine fn_g C i2 hw hfn 3 (by decide) (v := .ref (A 2)) rfl dX2_halfTurn_40 lk23 ?_
    refine lv_iconst (v := nI 4) hx hb dX2_halfTurn_43 (by decide) ?_
    have hR5 := sp_RWb (al := 1) (D := ((2 ^ Q : Nat) : Int)) (w := ((2 ^ Q : Nat) : Int) / 5) hDp (by omega)
    refine sv_v (As := [.int (nI 4)]) (rest := []) C (v3_raise _ _ _ _ _ hS (A 2) 4 9 (fn_in hfn (i := 2) (by decide)) (by decide) (by rw [f_2]; exact b9 (by omega)) (by decide)) (cwV 1 hts gX2_halfTurn_X3_raise rfl rfl rfl (by decide +kernel) ⟨Nat.le_of_ble_eq_true rfl, Nat.le_of_ble_eq_true rfl⟩) hsz hw (bd_recv C hw (fn_in hfn (i := 2) (by decide))) dX2_halfTurn_44 rfl hl.1 rfl (Nat.le_of_ble_eq_true rfl) ⟨Nat.le_refl _, Nat.le_refl _⟩ (fun z sg H locs hv9 hf9 hS hw => ?_)
    have fT9 : sg (A 2) = ((sp_RW 1 ((2 ^ Q : Nat) : Int) (((2 ^ Q : Nat) : Int) / 5)) * 16) := hv9.trans (by rw [f_2]; rfl)
    have f_1 : sg (A 1) = ((2 ^ Q : Nat) : Int) := (hf9 (A 1) (fn_ne hfn (i := 1) (j := 2) (by decide) (by decide) (by decide))).trans f_1
    have f_3 : sg (A 3) = sg0 (A 3) := (hf9 (A 3) (fn_ne hfn (i := 3) (j := 2) (by decide) (by decide) (by decide))).trans f_3
    have f_2 := fT9
    have hof : ∀ a, (∀ i, i ∈ ([2, 4, 5, 6, 7, 8] : List Nat) → a ≠ A i) → sg a = sg0 a := fun a h2 => (hf9 a (h2 2 (by decide))).trans (hof a h2)
    refine lv_aload_n hx hb dX2_halfTurn_47 rfl (lv_at hl 0 rfl) ?_
    refine fn_g C i2 hw hfn 9 (by decide) (v := .ref (A 8)) rfl dX2_halfTurn_48 lk41 ?_
    refine lv_aload_n hx hb dX2_halfTurn_51 rfl (lv_at hl 0 rfl) ?_
    refine fn_g C i2 hw hfn 1 (by decide) (v := .ref (A 1)) rfl dX2_halfTurn_52 lk10 ?_
    refine sv_v (As := [.ref (A 1)]) (rest := []) C (v3_become_ _ _ _ _ _ hS (A 8) (A 1) (fn_in hfn (i := 8) (by decide)) (fn_in hfn (i := 1) (by decide))) (cwV 1 hts gX2_halfTurn_X3_become_ rfl rfl rfl (by decide +kernel) ⟨Nat.le_of_ble_eq_true rfl, Nat.le_of_ble_eq_true rfl⟩) hsz hw (bd_recv C hw (fn_in hfn (i := 8) (by decide))) dX2_halfTurn_55 rfl hl.1 rfl (Nat.le_of_ble_eq_true rfl) ⟨Nat.le_refl _, Nat.le_refl _⟩ (fun z sg H locs hv9 hf9 hS hw => ?_)
    have fT9 : sg (A 8) = ((2 ^ Q : Nat) : Int) := hv9.trans (by exact f_1)
    have f_1 : sg (A 1) = ((2 ^ Q : Nat) : Int) := (hf9 (A 1) (fn_ne hfn (i := 1) (j := 8) (by decide) (by decide) (by decide))).trans f_1
    have f_2 : sg (A 2) = ((sp_RW 1 ((2 ^ Q : Nat) : Int) (((2 ^ Q : Nat) : Int) / 5)) * 16) := (hf9 (A 2) (fn_ne hfn (i := 2) (j := 8) (by decide) (by decide) (by decide))).trans f_2
    have f_3 : sg (A 3) = sg0 (A 3) := (hf9 (A 3) (fn_ne hfn (i := 3) (j := 8) (by decide) (by decide) (by decide))).trans f_3
    have f_8 := fT9
    have hof : ∀ a, (∀ i, i ∈ ([2, 4, 5, 6, 7, 8] : List Nat) → a ≠ A i) → sg a = sg0 a := fun a h2 => (hf9 a (h2 8 (by decide))).trans (hof a h2)
    refine lv_aload_n hx hb dX2_halfTurn_58 rfl (lv_at hl 0 rfl) ?_
    refine fn_g C i2 hw hfn 9 (by decide) (v := .ref (A 8)) rfl dX2_halfTurn_59 lk41 ?_
    refine lv_sipush (v := nI 239) hx hb dX2_halfTurn_62 (by decide) ?_
    refine sv_i (As := [.int (nI 239)]) (rest := []) C (v3_divide _ _ _ _ _ hS (A 8) 239 (fn_in hfn (i := 8) (by decide)) (by decide) (by decide) (by rw [f_8]; exact b24 (by omega))) (cwV 1 hts gX2_halfTurn_X3_divide rfl rfl rfl (by decide +kernel) ⟨Nat.le_of_ble_eq_true rfl, Nat.le_of_ble_eq_true rfl⟩) hsz hw (bd_recv C hw (fn_in hfn (i := 8) (by decide))) dX2_halfTurn_65 rfl hl.1 rfl (Nat.le_of_ble_eq_true rfl) ⟨Nat.le_refl _, Nat.le_refl _⟩ (fun z sg H locs hv9 hf9 hS hw => ?_)
    have fT9 : sg (A 8) = (((2 ^ Q : Nat) : Int) / 239) := hv9.trans (by rw [f_8]; rfl)
    have f_1 : sg (A 1) = ((2 ^ Q : Nat) : Int) := (hf9 (A 1) (fn_ne hfn (i := 1) (j := 8) (by decide) (by decide) (by decide))).trans f_1
    have f_2 : sg (A 2) = ((sp_RW 1 ((2 ^ Q : Nat) : Int) (((2 ^ Q : Nat) : Int) / 5)) * 16) := (hf9 (A 2) (fn_ne hfn (i := 2) (j := 8) (by decide) (by decide) (by decide))).trans f_2
    have f_3 : sg (A 3) = sg0 (A 3) := (hf9 (A 3) (fn_ne hfn (i := 3) (j := 8) (by decide) (by decide) (by decide))).trans f_3
    have f_8 := fT9
    have hof : ∀ a, (∀ i, i ∈ ([2, 4, 5, 6, 7, 8] : List Nat) → a ≠ A i) → sg a = sg0 a := fun a h2 => (hf9 a (h2 8 (by decide))).trans (hof a h2)
    refine lv_pop hx hb dX2_halfTurn_68 rfl ?_
    refine lv_aload_n hx hb dX2_halfTurn_69 rfl (lv_at hl 0 rfl) ?_
    refine lv_aload_n hx hb dX2_halfTurn_70 rfl (lv_at hl 0 rfl) ?_
    refine fn_g C i2 hw hfn 9 (by decide) (v := .ref (A 8)) rfl dX2_halfTurn_71 lk41 ?_
    refine lv_iconst (v := nI 1) hx hb dX2_halfTurn_74 (by decide) ?_
    refine bd_cv (As := [.ref (A 8), .int (nI 1)]) (rest := []) C (f_sumOfRow _ _ _ _ _ hfn hS (A 8) 1 (fn_in hfn (i := 8) (by decide)) (fun i hi => fn_ne hfn (i := 8) (j := i) (by decide) (by omega) (by omega)) (Or.inr rfl) (by rw [f_8]; exact (by omega))) (cwV 2 hts gX2_halfTurn_X2_sumOfRow rfl rfl rfl (by decide +kernel) ⟨Nat.le_of_ble_eq_true rfl, Nat.le_of_ble_eq_true rfl⟩) hsz hw (fn_recv C hw hfn) dX2_halfTurn_75 rfl hl.1 rfl (Nat.le_of_ble_eq_true rfl) ⟨Nat.le_refl _, Nat.le_refl _⟩ (fun E1 z H locs hp hw => ?_)
    obtain ⟨hE9, sg, hS, ⟨mR, hendmR, hv9⟩, hf9⟩ := hp
    rw [show E1 = E0 from hE9] at hw
    rw [f_8] at hendmR hv9
    have f_1 : sg (A 1) = ((2 ^ Q : Nat) : Int) := (hf9 (A 1) (fn_ne hfn (i := 1) (j := 8) (by decide) (by decide) (by decide)) (fun i hi => fn_ne hfn (i := 1) (j := i) (by decide) (by omega) (by omega))).trans f_1
    have f_2 : sg (A 2) = ((sp_RW 1 ((2 ^ Q : Nat) : Int) (((2 ^ Q : Nat) : Int) / 5)) * 16) := (hf9 (A 2) (fn_ne hfn (i := 2) (j := 8) (by decide) (by decide) (by decide)) (fun i hi => fn_ne hfn (i := 2) (j := i) (by decide) (by omega) (by omega))).trans f_2
    have f_3 : sg (A 3) = sg0 (A 3) := (hf9 (A 3) (fn_ne hfn (i := 3) (j := 8) (by decide) (by decide) (by decide)) (fun i hi => fn_ne hfn (i := 3) (j := i) (by decide) (by omega) (by omega))).trans f_3
    have f_8 : sg (A 8) = (sp_row 1 (sp_pr ((2 ^ Q : Nat) : Int) ((((2 ^ Q : Nat) : Int) / 239) * (((2 ^ Q : Nat) : Int) / 239) / ((2 ^ Q : Nat) : Int)) (((2 ^ Q : Nat) : Int) / 239)) mR) := hv9
    have hof : ∀ a, (∀ i, i ∈ ([2, 4, 5, 6, 7, 8] : List Nat) → a ≠ A i) → sg a = sg0 a := fun a h2 => (hf9 a (h2 8 (by decide)) (fun i hi => h2 i (by rcases (show i = 4 ∨ i = 5 ∨ i = 6 ∨ i = 7 by omega) with rfl | rfl | rfl | rfl <;> decide))).trans (hof a h2)
    have f_8 : sg (A 8) = (sp_RW 1 ((2 ^ Q : Nat) : Int) (((2 ^ Q : Nat) : Int) / 239)) := f_8.trans (sp_RWe ⟨mR, hendmR, rfl⟩)
    refine lv_aload_n hx hb dX2_halfTurn_78 rfl (lv_at hl 0 rfl) ?_
    refine fn_g C i2 hw hfn 9 (by decide) (v := .ref (A 8)) rfl dX2_halfTurn_79 lk41 ?_
    refine lv_iconst (v := nI 2) hx hb dX2_halfTurn_82 (by decide) ?_
    have hR2 := sp_RWb (al := 1) (D := ((2 ^ Q : Nat) : Int)) (w := ((2 ^ Q : Nat) : Int) / 239) hDp (by omega)
    refine sv_v (As := [.int (nI 2)]) (rest := []) C (v3_raise _ _ _ _ _ hS (A 8) 2 9 (fn_in hfn (i := 8) (by decide)) (by decide) (by rw [f_8]; exact b9 (by omega)) (by decide)) (cwV 1 hts gX2_halfTurn_X3_raise rfl rfl rfl (by decide +kernel) ⟨Nat.le_of_ble_eq_true rfl, Nat.le_of_ble_eq_true rfl⟩) hsz hw (bd_recv C hw (fn_in hfn (i := 8) (by decide))) dX2_halfTurn_83 rfl hl.1 rfl (Nat.le_of_ble_eq_true rfl) ⟨Nat.le_refl _, Nat.le_refl _⟩ (fun z sg H locs hv9 hf9 hS hw => ?_)
    have fT9 : sg (A 8) = ((sp_RW 1 ((2 ^ Q : Nat) : Int) (((2 ^ Q : Nat) : Int) / 239)) * 4) := hv9.trans (by rw [f_8]; rfl)
    have f_1 : sg (A 1) = ((2 ^ Q : Nat) : Int) := (hf9 (A 1) (fn_ne hfn (i := 1) (j := 8) (by decide) (by decide) (by decide))).trans f_1
    have f_2 : sg (A 2) = ((sp_RW 1 ((2 ^ Q : Nat) : Int) (((2 ^ Q : Nat) : Int) / 5)) * 16) := (hf9 (A 2) (fn_ne hfn (i := 2) (j := 8) (by decide) (by decide) (by decide))).trans f_2
    have f_3 : sg (A 3) = sg0 (A 3) := (hf9 (A 3) (fn_ne hfn (i := 3) (j := 8) (by decide) (by decide) (by decide))).trans f_3
    have f_8 := fT9
    have hof : ∀ a, (∀ i, i ∈ ([2, 4, 5, 6, 7, 8] : List Nat) → a ≠ A i) → sg a = sg0 a := fun a h2 => (hf9 a (h2 8 (by decide))).trans (hof a h2)
    refine lv_aload_n hx hb dX2_halfTurn_86 rfl (lv_at hl 0 rfl) ?_
    refine fn_g C i2 hw hfn 3 (by decide) (v := .ref (A 2)) rfl dX2_halfTurn_87 lk23 ?_
    refine lv_aload_n hx hb dX2_halfTurn_90 rfl (lv_at hl 0 rfl) ?_
    refine fn_g C i2 hw hfn 3 (by decide) (v := .ref (A 2)) rfl dX2_halfTurn_91 lk23 ?_
    refine lv_aload_n hx hb dX2_halfTurn_94 rfl (lv_at hl 0 rfl) ?_
    refine fn_g C i2 hw hfn 9 (by decide) (v := .ref (A 8)) rfl dX2_halfTurn_95 lk41 ?_
    refine sv_v (As := [.ref (A 2), .ref (A 8)]) (rest := []) C (v3_difference _ _ _ _ _ hS (A 2) (A 2) (A 8) (fn_in hfn (i := 2) (by decide)) (fn_in hfn (i := 2) (by decide)) (fn_in hfn (i := 8) (by decide)) (by rw [f_2, f_8]; exact b24 (by omega))) (cwV 2 hts gX2_halfTurn_X3_difference rfl rfl rfl (by decide +kernel) ⟨Nat.le_of_ble_eq_true rfl, Nat.le_of_ble_eq_true rfl⟩) hsz hw (bd_recv C hw (fn_in hfn (i := 2) (by decide))) dX2_halfTurn_98 rfl hl.1 rfl (Nat.le_of_ble_eq_true rfl) ⟨Nat.le_refl _, Nat.le_refl _⟩ (fun z sg H locs hv9 hf9 hS hw => ?_)
    have fT9 : sg (A 2) = (sp_PI Q) := hv9.trans (by rw [f_2, f_8]; rfl)
    have f_1 : sg (A 1) = ((2 ^ Q : Nat) : Int) := (hf9 (A 1) (fn_ne hfn (i := 1) (j := 2) (by decide) (by decide) (by decide))).trans f_1
    have f_3 : sg (A 3) = sg0 (A 3) := (hf9 (A 3) (fn_ne hfn (i := 3) (j := 2) (by decide) (by decide) (by decide))).trans f_3
    have f_8 : sg (A 8) = ((sp_RW 1 ((2 ^ Q : Nat) : Int) (((2 ^ Q : Nat) : Int) / 239)) * 4) := (hf9 (A 8) (fn_ne hfn (i := 8) (j := 2) (by decide) (by decide) (by decide))).trans f_8
    have f_2 := fT9
    have hof : ∀ a, (∀ i, i ∈ ([2, 4, 5, 6, 7, 8] : List Nat) → a ≠ A i) → sg a = sg0 a := fun a h2 => (hf9 a (h2 2 (by decide))).trans (hof a h2)
    refine lv_aload_n hx hb dX2_halfTurn_101 rfl (lv_at hl 0 rfl) ?_
    refine fn_g C i2 hw hfn 3 (by decide) (v := .ref (A 2)) rfl dX2_halfTurn_102 lk23 ?_
    exact bd_aret C hr hlk hw dX2_halfTurn_105 ⟨rfl, sg, hS, ⟨f_1, Or.inr f_2, by rw [f_3]; exact hiv.2.2⟩, f_2, hof⟩
set_option maxHeartbeats 4000000 in
set_option maxRecDepth 100000 in
/-- Fine.X2_logOfTwo -/
theorem f_logOfTwo (l : Launch) (K : Cxt) (E0 : Nat → va_E) (z0 : Nat → Wh) (sz : Nat) {fo Q dv rs bs : Nat} {A : Nat → Nat} (hfn : fn_at K E0 fo Q dv rs bs A) {sg0 : Nat → Int} (hS : sg_S K z0 sg0)  (hiv : fn_iv Q A sg0) : Met l yX2_logOfTwo wsX2_logOfTwo ({ frames := 5, cells := 0, slots := 0, locals := 150 }) (va_Pc [.ref fo] (bd_P K E0 z0 sz)) (va_Qr (fun u => u.1 = E0 ∧ ∃ sg1 : Nat → Int, sg_S K u.2 sg1 ∧ fn_iv Q A sg1 ∧ sg1 (A 3) = sp_L2 Q ∧ ∀ a, (∀ i, i ∈ ([3, 4, 5, 6, 7] : List Nat) → a ≠ A i) → sg1 a = sg0 a) (fun u a t => bd_B K u t ∧ a = A 3) (bd_A K sz)) 0 0 (bd_A K sz) := by
  refine bd_ofW (cc := cX2_logOfTwo) (maxL := 1) (ret := (some (.object "BallDesk$Whole"))) (by decide) rfl (Nat.le_of_ble_eq_true rfl) ?_
  intro p e s m below meth c ls C hr hlk hsz hw hl
  have hx := C.1
  have hb := C.2.1
  have hown := C.2.2.2.1
  have hts := C.2.2.2.2.1
  have i2 : ∀ w ∈ wsX20, w ∈ wsX2_logOfTwo := by decide +kernel
  have lk26 : Cond.fieldLink RX2 26 "BallDesk$Fine" "logOfTwo" "LBallDesk$Whole;" ∈ wsX2_logOfTwo := by decide +kernel
  have lk10 : Cond.fieldLink RX2 10 "BallDesk$Fine" "one" "LBallDesk$Whole;" ∈ wsX2_logOfTwo := by decide +kernel
  have hoe : dv_fr dv rs bs E0 E0 := dv_rf
  obtain ⟨hQ1, hQ2⟩ := fn_Q hfn
  have hl : lv_has ls 1 [(0, .ref fo)] := hl
  have hp256 : (2 : Nat) ^ Q ≤ 2 ^ 256 := Nat.pow_le_pow_right (by decide) hQ2
  have hp80 : (2 : Nat) ^ 80 ≤ 2 ^ Q := Nat.pow_le_pow_right (by decide) hQ1
  have hDp : (0 : Int) < ((2 ^ Q : Nat) : Int) := by omega
  have f_1 := hiv.1
  have f_2 : sg0 (A 2) = sg0 (A 2) := rfl
  have f_3 : sg0 (A 3) = sg0 (A 3) := rfl
  have hof : ∀ a, (∀ i, i ∈ ([3, 4, 5, 6, 7] : List Nat) → a ≠ A i) → sg0 a = sg0 a := fun _ _ => rfl
  refine lv_aload_n hx hb dX2_logOfTwo_0 rfl (lv_at hl 0 rfl) ?_
  refine fn_g C i2 hw hfn 4 (by decide) (v := .ref (A 3)) rfl dX2_logOfTwo_1 lk26 ?_
  refine bd_cip (As := []) (rest := []) C (v3_sign _ _ _ _ _ hS (A 3) (fn_in hfn (i := 3) (by decide))) (cwV 0 hts gX2_logOfTwo_X3_sign rfl rfl rfl (by decide +kernel) ⟨Nat.le_of_ble_eq_true rfl, Nat.le_of_ble_eq_true rfl⟩) hsz hw (bd_recv C hw (fn_in hfn (i := 3) (by decide))) dX2_logOfTwo_4 rfl hl.1 rfl (Nat.le_of_ble_eq_true rfl) ⟨Nat.le_refl _, Nat.le_refl _⟩ (fun H locs hw => ?_)
  refine lv_if_ne (tgt := 47) hx hb dX2_logOfTwo_7 (by decide) (fun hc7 => ?_) (fun hc7 => ?_)
  · refine lv_aload_n hx hb dX2_logOfTwo_47 rfl (lv_at hl 0 rfl) ?_
    refine fn_g C i2 hw hfn 4 (by decide) (v := .ref (A 3)) rfl dX2_logOfTwo_48 lk26 ?_
    have hnz : sg0 (A 3) = sp_L2 Q := hiv.2.2.elim (fun q => absurd (by rw [q]; rfl) hc7) id
    exact bd_aret C hr hlk hw dX2_logOfTwo_51 ⟨rfl, sg0, hS, hiv, hnz, hof⟩
  · refine lv_aload_n hx hb dX2_logOfTwo_10 rfl (lv_at hl 0 rfl) ?_
    refine fn_g C i2 hw hfn 4 (by decide) (v := .ref (A 3)) rfl dX2_logOfTwo_11 lk26 ?_
    refine lv_aload_n hx hb dX2_logOfTwo_14 rfl (lv_at hl 0 rfl) ?_
    refine fn_g C i2 hw hfn 1 (by decide) (v := .ref (A 1)) rfl dX2_logOfTwo_15 lk10 ?_
    refine sv_v (As := [.ref (A 1)]) (rest := []) C (v3_become_ _ _ _ _ _ hS (A 3) (A 1) (fn_in hfn (i := 3) (by decide)) (fn_in hfn (i := 1) (by decide))) (cwV 1 hts gX2_logOfTwo_X3_become_ rfl rfl rfl (by decide +kernel) ⟨Nat.le_of_ble_eq_true rfl, Nat.le_of_ble_eq_true rfl⟩) hsz hw (bd_recv C hw (fn_in hfn (i := 3) (by decide))) dX2_logOfTwo_18 rfl hl.1 rfl (Nat.le_of_ble_eq_true rfl) ⟨Nat.le_refl _, Nat.le_refl _⟩ (fun z sg H locs hv9 hf9 hS hw => ?_)
    have fT9 : sg (A 3) = ((2 ^ Q : Nat) : Int) := hv9.trans (by exact f_1)
    have f_1 : sg (A 1) = ((2 ^ Q : Nat) : Int) := (hf9 (A 1) (fn_ne hfn (i := 1) (j := 3) (by decide) (by decide) (by decide))).trans f_1
    have f_2 : sg (A 2) = sg0 (A 2) := (hf9 (A 2) (fn_ne hfn (i := 2) (j := 3) (by decide) (by decide) (by decide))).trans f_2
    have f_3 := fT9
    have hof : ∀ a, (∀ i, i ∈ ([3, 4, 5, 6, 7] : List Nat) → a ≠ A i) → sg a = sg0 a := fun a h2 => (hf9 a (h2 3 (by decide))).trans (hof a h2)
    refine lv_aload_n hx hb dX2_logOfTwo_21 rfl (lv_at hl 0 rfl) ?_
    refine fn_g C i2 hw hfn 4 (by decide) (v := .ref (A 3)) rfl dX2_logOfTwo_22 lk26 ?_
    refine lv_iconst (v := nI 3) hx hb dX2_logOfTwo_25 (by decide) ?_
    refine sv_i (As := [.int (nI 3)]) (rest := []) C (v3_divide _ _ _ _ _ hS (A 3) 3 (fn_in hfn (i := 3) (by decide)) (by decide) (by decide) (by rw [f_3]; exact b24 (by omega))) (cwV 1 hts gX2_logOfTwo_X3_divide rfl rfl rfl (by decide +kernel) ⟨Nat.le_of_ble_eq_true rfl, Nat.le_of_ble_eq_true rfl⟩) hsz hw (bd_recv C hw (fn_in hfn (i := 3) (by decide))) dX2_logOfTwo_26 rfl hl.1 rfl (Nat.le_of_ble_eq_true rfl) ⟨Nat.le_refl _, Nat.le_refl _⟩ (fun z sg H locs hv9 hf9 hS hw => ?_)
    have fT9 : sg (A 3) = (((2 ^ Q : Nat) : Int) / 3) := hv9.trans (by rw [f_3]; rfl)
    have f_1 : sg (A 1) = ((2 ^ Q : Nat) : Int) := (hf9 (A 1) (fn_ne hfn (i := 1) (j := 3) (by decide) (by decide) (by decide))).trans f_1
    have f_2 : sg (A 2) = sg0 (A 2) := (hf9 (A 2) (fn_ne hfn (i := 2) (j := 3) (by decide) (by decide) (by decide))).trans f_2
    have f_3 := fT9
    have hof : ∀ a, (∀ i, i ∈ ([3, 4, 5, 6, 7] : List Nat) → a ≠ A i) → sg a = sg0 a := fun a h2 => (hf9 a (h2 3 (by decide))).trans (hof a h2)
    refine lv_pop hx hb dX2_logOfTwo_29 rfl ?_
    refine lv_aload_n hx hb dX2_logOfTwo_30 rfl (lv_at hl 0 rfl) ?_
    refine lv_aload_n hx hb dX2_logOfTwo_31 rfl (lv_at hl 0 rfl) ?_
    refine fn_g C i2 hw hfn 4 (by decide) (v := .ref (A 3)) rfl dX2_logOfTwo_32 lk26 ?_
    refine lv_iconst (v := nI 0) hx hb dX2_logOfTwo_35 (by decide) ?_
    refine bd_cv (As := [.ref (A 3), .int (nI 0)]) (rest := []) C (f_sumOfRow _ _ _ _ _ hfn hS (A 3) 0 (fn_in hfn (i := 3) (by decide)) (fun i hi => fn_ne hfn (i := 3) (j := i) (by decide) (by omega) (by omega)) (Or.inl rfl) (by rw [f_3]; exact (by omega))) (cwV 2 hts gX2_logOfTwo_X2_sumOfRow rfl rfl rfl (by decide +kernel) ⟨Nat.le_of_ble_eq_true rfl, Nat.le_of_ble_eq_true rfl⟩) hsz hw (fn_recv C hw hfn) dX2_logOfTwo_36 rfl hl.1 rfl (Nat.le_of_ble_eq_true rfl) ⟨Nat.le_refl _, Nat.le_refl _⟩ (fun E1 z H locs hp hw => ?_)
    obtain ⟨hE9, sg, hS, ⟨mR, hendmR, hv9⟩, hf9⟩ := hp
    rw [show E1 = E0 from hE9] at hw
    rw [f_3] at hendmR hv9
    have f_1 : sg (A 1) = ((2 ^ Q : Nat) : Int) := (hf9 (A 1) (fn_ne hfn (i := 1) (j := 3) (by decide) (by decide) (by decide)) (fun i hi => fn_ne hfn (i := 1) (j := i) (by decide) (by omega) (by omega))).trans f_1
    have f_2 : sg (A 2) = sg0 (A 2) := (hf9 (A 2) (fn_ne hfn (i := 2) (j := 3) (by decide) (by decide) (by decide)) (fun i hi => fn_ne hfn (i := 2) (j := i) (by decide) (by omega) (by omega))).trans f_2
    have f_3 : sg (A 3) = (sp_row 0 (sp_pr ((2 ^ Q : Nat) : Int) ((((2 ^ Q : Nat) : Int) / 3) * (((2 ^ Q : Nat) : Int) / 3) / ((2 ^ Q : Nat) : Int)) (((2 ^ Q : Nat) : Int) / 3)) mR) := hv9
    have hof : ∀ a, (∀ i, i ∈ ([3, 4, 5, 6, 7] : List Nat) → a ≠ A i) → sg a = sg0 a := fun a h2 => (hf9 a (h2 3 (by decide)) (fun i hi => h2 i (by rcases (show i = 4 ∨ i = 5 ∨ i = 6 ∨ i = 7 by omega) with rfl | rfl | rfl | rfl <;> decide))).trans (hof a h2)
    have f_3 : sg (A 3) = (sp_RW 0 ((2 ^ Q : Nat) : Int) (((2 ^ Q : Nat) : Int) / 3)) := f_3.trans (sp_RWe ⟨mR, hendmR, rfl⟩)
    refine lv_aload_n hx hb dX2_logOfTwo_39 rfl (lv_at hl 0 rfl) ?_
    refine fn_g C i2 hw hfn 4 (by decide) (v := .ref (A 3)) rfl dX2_logOfTwo_40 lk26 ?_
    refine lv_iconst (v := nI 1) hx hb dX2_logOfTwo_43 (by decide) ?_
    have hR3 := sp_RWb (al := 0) (D := ((2 ^ Q : Nat) : Int)) (w := ((2 ^ Q : Nat) : Int) / 3) hDp (by omega)
    refine sv_v (As := [.int (nI 1)]) (rest := []) C (v3_raise _ _ _ _ _ hS (A 3) 1 9 (fn_in hfn (i := 3) (by decide)) (by decide) (by rw [f_3]; exact b9 (by omega)) (by decide)) (cwV 1 hts gX2_logOfTwo_X3_raise rfl rfl rfl (by decide +kernel) ⟨Nat.le_of_ble_eq_true rfl, Nat.le_of_ble_eq_true rfl⟩) hsz hw (bd_recv C hw (fn_in hfn (i := 3) (by decide))) dX2_logOfTwo_44 rfl hl.1 rfl (Nat.le_of_ble_eq_true rfl) ⟨Nat.le_refl _, Nat.le_refl _⟩ (fun z sg H locs hv9 hf9 hS hw => ?_)
    have fT9 : sg (A 3) = (sp_L2 Q) := hv9.trans (by rw [f_3]; rfl)
    have f_1 : sg (A 1) = ((2 ^ Q : Nat) : Int) := (hf9 (A 1) (fn_ne hfn (i := 1) (j := 3) (by decide) (by decide) (by decide))).trans f_1
    have f_2 : sg (A 2) = sg0 (A 2) := (hf9 (A 2) (fn_ne hfn (i := 2) (j := 3) (by decide) (by decide) (by decide))).trans f_2
    have f_3 := fT9
    have hof : ∀ a, (∀ i, i ∈ ([3, 4, 5, 6, 7] : List Nat) → a ≠ A i) → sg a = sg0 a := fun a h2 => (hf9 a (h2 3 (by decide))).trans (hof a h2)
    refine lv_aload_n hx hb dX2_logOfTwo_47 rfl (lv_at hl 0 rfl) ?_
    refine fn_g C i2 hw hfn 4 (by decide) (v := .ref (A 3)) rfl dX2_logOfTwo_48 lk26 ?_
    exact bd_aret C hr hlk hw dX2_logOfTwo_51 ⟨rfl, sg, hS, ⟨f_1, by rw [f_2]; exact hiv.2.1, Or.inr f_3⟩, f_3, hof⟩
