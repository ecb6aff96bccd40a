/-! Fine.sineOf (laid by wip/gen/m_fine9.py) -/
theorem sn_ssb {Q : Nat} {ss : Int} (hQ : Q ≤ 256) (h0 : 0 ≤ ss) (h3 : ss ≤ 3 * ((2 ^ Q : Nat) : Int)) : ss.natAbs < 4294967296 ^ 9 := by
  have hp256 : (2 : Nat) ^ Q ≤ 2 ^ 256 := Nat.pow_le_pow_right (by decide) hQ
  exact b9 (by omega)
set_option maxHeartbeats 4000000 in
set_option maxRecDepth 100000 in
/-- Fine.sineOf(x): SIN -/
theorem f_sineOf (l : Launch) (K : Cxt) (E0 : Nat → va_E) (z0 : Nat → Wh) (sz : Nat) {fo Q dv rs bs : Nat} {A : Nat → Nat} (hfn : fn_at K E0 fo Q dv rs bs A) {sg0 : Nat → Int} (hS : sg_S K z0 sg0) (x : Nat) (hmx : x ∈ bd_N K) (hxA : ∀ i, 1 ≤ i ∧ i ≤ 10 → x ≠ A i) (hiv0 : fn_iv Q A sg0) (hb1 : (sg0 x).natAbs ≤ 2 ^ 280) : Met l yX2_sineOf wsX2_sineOf ({ frames := 6, cells := 0, slots := 0, locals := 180 }) (va_Pc [.ref fo, .ref x] (bd_P K E0 z0 sz)) (va_Qv (fun u => fn_at K u.1 fo Q dv rs bs A ∧ dv_fr dv rs bs E0 u.1 ∧ ∃ sg1 : Nat → Int, sg_S K u.2 sg1 ∧ fn_iv Q A sg1 ∧ sg1 x = sp_SIN Q (sg0 x) ∧ ∀ a, a ≠ x → (∀ i, i ∈ ([2, 4, 5, 6, 7, 8] : List Nat) → a ≠ A i) → sg1 a = sg0 a) (bd_B K) (bd_A K sz)) 0 0 (bd_A K sz) := by
  refine bd_ofW (cc := cX2_sineOf) (maxL := 5) (ret := none) (by decide) rfl (Nat.le_of_ble_eq_true rfl) ?_
  intro p e s m below meth c ls C hr hlk hsz hw hl
  have hx := C.1
  have hb := C.2.1
  have hown := C.2.2.2.1
  have hts := C.2.2.2.2.1
  have i2 : ∀ w ∈ wsX20, w ∈ wsX2_sineOf := by decide +kernel
  have lk35 : Cond.fieldLink RX2 35 "BallDesk$Fine" "term" "LBallDesk$Whole;" ∈ wsX2_sineOf := by decide +kernel
  have lk41 : Cond.fieldLink RX2 41 "BallDesk$Fine" "other" "LBallDesk$Whole;" ∈ wsX2_sineOf := by decide +kernel
  have lk19 : Cond.fieldLink RX2 19 "BallDesk$Fine" "division" "LBallDesk$Division;" ∈ wsX2_sineOf := by decide +kernel
  have lk38 : Cond.fieldLink RX2 38 "BallDesk$Fine" "wide" "LBallDesk$Whole;" ∈ wsX2_sineOf := by decide +kernel
  have lk29 : Cond.fieldLink RX2 29 "BallDesk$Fine" "part" "LBallDesk$Whole;" ∈ wsX2_sineOf := by decide +kernel
  have lk32 : Cond.fieldLink RX2 32 "BallDesk$Fine" "square" "LBallDesk$Whole;" ∈ wsX2_sineOf := by decide +kernel
  have hoe : dv_fr dv rs bs E0 E0 := dv_rf
  obtain ⟨hQ1, hQ2⟩ := fn_Q hfn
  have hl : lv_has ls 5 [(0, .ref fo), (1, .ref x)] := hl
  have hDp : (0 : Int) < ((2 ^ Q : Nat) : Int) := Int.natCast_pos.mpr (Nat.pow_pos (by decide))
  have f_x : sg0 x = sg0 x := rfl
  have f_1 := hiv0.1
  have f_2 : sg0 (A 2) = sg0 (A 2) := rfl
  have f_3 : sg0 (A 3) = sg0 (A 3) := rfl
  have hof : ∀ a, a ≠ x → (∀ i, i ∈ ([2, 4, 5, 6, 7, 8] : List Nat) → a ≠ A i) → sg0 a = sg0 a := fun _ _ _ => rfl
  obtain ⟨hs1, hs2, hs3, hs4, hs5, hs6, hs7, hyb, hss0, hss3⟩ := sn_pre hQ1 hQ2 hb1
  clear hb1
  have hSIN : ∀ v, sp_sn Q (sg0 x) v → v = sp_SIN Q (sg0 x) := fun v h => sp_SINe h
  unfold sp_sn at hSIN
  obtain ⟨yy, hyy⟩ : ∃ a, a = sn_y Q (sg0 x) := ⟨_, rfl⟩
  rw [← hyy] at hSIN hyb hss0 hss3
  obtain ⟨ss, hss⟩ : ∃ a, a = yy * yy / ((2 ^ Q : Nat) : Int) := ⟨_, rfl⟩
  rw [← hss] at hSIN hss0 hss3
  obtain ⟨nn, hnn⟩ : ∃ a, a = sn_n Q (sg0 x) := ⟨_, rfl⟩
  rw [← hnn] at hSIN hs4 hs6
  have hH := sn_pH (y := yy) hDp hss0 hss3
  obtain ⟨m0, hm0, hend⟩ := sn_ex hH (N := 258) hyb
  have hssb : ss.natAbs < 4294967296 ^ 9 := sn_ssb hQ2 hss0 hss3
  obtain ⟨od, hod⟩ : ∃ od : Nat, (nn.natAbs % 2 = 1 ∧ od = 1) ∨ (¬ nn.natAbs % 2 = 1 ∧ od = 0) := by
    by_cases h : nn.natAbs % 2 = 1
    · exact ⟨1, Or.inl ⟨h, rfl⟩⟩
    · exact ⟨0, Or.inr ⟨h, rfl⟩⟩
  refine lv_aload_n hx hb dX2_sineOf_0 rfl (lv_at hl 0 rfl) ?_
  refine bd_cr (As := []) (rest := []) C (f_halfTurn _ _ _ _ _ hfn hS hiv0) (cwV 0 hts gX2_sineOf_X2_halfTurn rfl rfl rfl (by decide +kernel) ⟨Nat.le_of_ble_eq_true rfl, Nat.le_of_ble_eq_true rfl⟩) hsz hw (fn_recv C hw hfn) dX2_sineOf_1 rfl hl.1 rfl (Nat.le_of_ble_eq_true rfl) ⟨Nat.le_refl _, Nat.le_refl _⟩ (fun E1 z H locs hp hw => ?_)
  obtain ⟨hE9, sg, hS, hiv, hv9, hf9⟩ := hp
  rw [show E1 = E0 from hE9] at hw
  have fT9 : sg (A 2) = (sp_PI Q) := hv9.trans (by rfl)
  have f_x : sg x = sg0 x := (hf9 x (la_c (hxA 2 (by decide)) (la_c (hxA 4 (by decide)) (la_c (hxA 5 (by decide)) (la_c (hxA 6 (by decide)) (la_c (hxA 7 (by decide)) (la_c (hxA 8 (by decide)) la_n))))))).trans f_x
  have f_1 : sg (A 1) = ((2 ^ Q : Nat) : Int) := (hf9 (A 1) (la_c (fn_ne hfn (i := 1) (j := 2) (by decide) (by decide) (by decide)) (la_c (fn_ne hfn (i := 1) (j := 4) (by decide) (by decide) (by decide)) (la_c (fn_ne hfn (i := 1) (j := 5) (by decide) (by decide) (by decide)) (la_c (fn_ne hfn (i := 1) (j := 6) (by decide) (by decide) (by decide)) (la_c (fn_ne hfn (i := 1) (j := 7) (by decide) (by decide) (by decide)) (la_c (fn_ne hfn (i := 1) (j := 8) (by decide) (by decide) (by decide)) la_n))))))).trans f_1
  have f_3 : sg (A 3) = sg0 (A 3) := (hf9 (A 3) (la_c (fn_ne hfn (i := 3) (j := 2) (by decide) (by decide) (by decide)) (la_c (fn_ne hfn (i := 3) (j := 4) (by decide) (by decide) (by decide)) (la_c (fn_ne hfn (i := 3) (j := 5) (by decide) (by decide) (by decide)) (la_c (fn_ne hfn (i := 3) (j := 6) (by decide) (by decide) (by decide)) (la_c (fn_ne hfn (i := 3) (j := 7) (by decide) (by decide) (by decide)) (la_c (fn_ne hfn (i := 3) (j := 8) (by decide) (by decide) (by decide)) la_n))))))).trans f_3
  have f_2 := fT9
  have hof : ∀ a, a ≠ x → (∀ i, i ∈ ([2, 4, 5, 6, 7, 8] : List Nat) → a ≠ A i) → sg a = sg0 a := fun a h1 h2 => (hf9 a (la_c (h2 2 (by decide)) (la_c (h2 4 (by decide)) (la_c (h2 5 (by decide)) (la_c (h2 6 (by decide)) (la_c (h2 7 (by decide)) (la_c (h2 8 (by decide)) la_n))))))).trans (hof a h1 h2)
  refine lv_astore_n (lv' := [(2, .ref (A 2)), (0, .ref fo), (1, .ref x)]) hx hb dX2_sineOf_4 rfl hl (by decide) rfl (fun ls hl => ?_)
  refine lv_aload_n hx hb dX2_sineOf_5 rfl (lv_at hl 1 rfl) ?_
  refine fn_g C i2 hw hfn 7 (by decide) (v := .ref (A 6)) rfl dX2_sineOf_6 lk35 ?_
  refine lv_aload_n hx hb dX2_sineOf_9 rfl (lv_at hl 2 rfl) ?_
  refine sv_v (As := [.ref x]) (rest := []) C (v3_become_ _ _ _ _ _ hS (A 6) x (fn_in hfn (i := 6) (by decide)) hmx) (cwV 1 hts gX2_sineOf_X3_become_ rfl rfl rfl (by decide +kernel) ⟨Nat.le_of_ble_eq_true rfl, Nat.le_of_ble_eq_true rfl⟩) hsz hw (bd_recv C hw (fn_in hfn (i := 6) (by decide))) dX2_sineOf_10 rfl hl.1 rfl (Nat.le_of_ble_eq_true rfl) ⟨Nat.le_refl _, Nat.le_refl _⟩ (fun z sg H locs hv9 hf9 hS hw => ?_)
  have fT9 : sg (A 6) = sg0 x := hv9.trans (by exact f_x)
  have f_x : sg x = sg0 x := (hf9 x (hxA 6 (by decide))).trans f_x
  have f_1 : sg (A 1) = ((2 ^ Q : Nat) : Int) := (hf9 (A 1) (fn_ne hfn (i := 1) (j := 6) (by decide) (by decide) (by decide))).trans f_1
  have f_2 : sg (A 2) = (sp_PI Q) := (hf9 (A 2) (fn_ne hfn (i := 2) (j := 6) (by decide) (by decide) (by decide))).trans f_2
  have f_3 : sg (A 3) = sg0 (A 3) := (hf9 (A 3) (fn_ne hfn (i := 3) (j := 6) (by decide) (by decide) (by decide))).trans f_3
  have f_6 := fT9
  have hof : ∀ a, a ≠ x → (∀ i, i ∈ ([2, 4, 5, 6, 7, 8] : List Nat) → a ≠ A i) → sg a = sg0 a := fun a h1 h2 => (hf9 a (h2 6 (by decide))).trans (hof a h1 h2)
  refine lv_aload_n hx hb dX2_sineOf_13 rfl (lv_at hl 1 rfl) ?_
  refine fn_g C i2 hw hfn 7 (by decide) (v := .ref (A 6)) rfl dX2_sineOf_14 lk35 ?_
  refine lv_iconst (v := nI 1) hx hb dX2_sineOf_17 (by decide) ?_
  refine sv_v (As := [.int (nI 1)]) (rest := []) C (v3_raise _ _ _ _ _ hS (A 6) 1 9 (fn_in hfn (i := 6) (by decide)) (by omega) (by rw [f_6]; exact hs7) (by decide)) (cwV 1 hts gX2_sineOf_X3_raise rfl rfl rfl (by decide +kernel) ⟨Nat.le_of_ble_eq_true rfl, Nat.le_of_ble_eq_true rfl⟩) hsz hw (bd_recv C hw (fn_in hfn (i := 6) (by decide))) dX2_sineOf_18 rfl hl.1 rfl (Nat.le_of_ble_eq_true rfl) ⟨Nat.le_refl _, Nat.le_refl _⟩ (fun z sg H locs hv9 hf9 hS hw => ?_)
  have fT9 : sg (A 6) = (sg0 x * 2) := hv9.trans (by rw [f_6]; rfl)
  have f_x : sg x = sg0 x := (hf9 x (hxA 6 (by decide))).trans f_x
  have f_1 : sg (A 1) = ((2 ^ Q : Nat) : Int) := (hf9 (A 1) (fn_ne hfn (i := 1) (j := 6) (by decide) (by decide) (by decide))).trans f_1
  have f_2 : sg (A 2) = (sp_PI Q) := (hf9 (A 2) (fn_ne hfn (i := 2) (j := 6) (by decide) (by decide) (by decide))).trans f_2
  have f_3 : sg (A 3) = sg0 (A 3) := (hf9 (A 3) (fn_ne hfn (i := 3) (j := 6) (by decide) (by decide) (by decide))).trans f_3
  have f_6 := fT9
  have hof : ∀ a, a ≠ x → (∀ i, i ∈ ([2, 4, 5, 6, 7, 8] : List Nat) → a ≠ A i) → sg a = sg0 a := fun a h1 h2 => (hf9 a (h2 6 (by decide))).trans (hof a h1 h2)
  refine lv_aload_n hx hb dX2_sineOf_21 rfl (lv_at hl 1 rfl) ?_
  refine fn_g C i2 hw hfn 7 (by decide) (v := .ref (A 6)) rfl dX2_sineOf_22 lk35 ?_
  refine lv_aload_n hx hb dX2_sineOf_25 rfl (lv_at hl 1 rfl) ?_
  refine fn_g C i2 hw hfn 7 (by decide) (v := .ref (A 6)) rfl dX2_sineOf_26 lk35 ?_
  refine lv_aload_n hx hb dX2_sineOf_29 rfl (lv_at hl 0 rfl) ?_
  refine sv_v (As := [.ref (A 6), .ref (A 2)]) (rest := []) C (v3_sum _ _ _ _ _ hS (A 6) (A 6) (A 2) (fn_in hfn (i := 6) (by decide)) (fn_in hfn (i := 6) (by decide)) (fn_in hfn (i := 2) (by decide)) (by rw [f_6, f_2]; exact hs1)) (cwV 2 hts gX2_sineOf_X3_sum rfl rfl rfl (by decide +kernel) ⟨Nat.le_of_ble_eq_true rfl, Nat.le_of_ble_eq_true rfl⟩) hsz hw (bd_recv C hw (fn_in hfn (i := 6) (by decide))) dX2_sineOf_30 rfl hl.1 rfl (Nat.le_of_ble_eq_true rfl) ⟨Nat.le_refl _, Nat.le_refl _⟩ (fun z sg H locs hv9 hf9 hS hw => ?_)
  have fT9 : sg (A 6) = (sg0 x * 2 + sp_PI Q) := hv9.trans (by rw [f_6, f_2])
  have f_x : sg x = sg0 x := (hf9 x (hxA 6 (by decide))).trans f_x
  have f_1 : sg (A 1) = ((2 ^ Q : Nat) : Int) := (hf9 (A 1) (fn_ne hfn (i := 1) (j := 6) (by decide) (by decide) (by decide))).trans f_1
  have f_2 : sg (A 2) = (sp_PI Q) := (hf9 (A 2) (fn_ne hfn (i := 2) (j := 6) (by decide) (by decide) (by decide))).trans f_2
  have f_3 : sg (A 3) = sg0 (A 3) := (hf9 (A 3) (fn_ne hfn (i := 3) (j := 6) (by decide) (by decide) (by decide))).trans f_3
  have f_6 := fT9
  have hof : ∀ a, a ≠ x → (∀ i, i ∈ ([2, 4, 5, 6, 7, 8] : List Nat) → a ≠ A i) → sg a = sg0 a := fun a h1 h2 => (hf9 a (h2 6 (by decide))).trans (hof a h1 h2)
  refine lv_aload_n hx hb dX2_sineOf_33 rfl (lv_at hl 1 rfl) ?_
  refine fn_g C i2 hw hfn 9 (by decide) (v := .ref (A 8)) rfl dX2_sineOf_34 lk41 ?_
  refine lv_aload_n hx hb dX2_sineOf_37 rfl (lv_at hl 0 rfl) ?_
  refine sv_v (As := [.ref (A 2)]) (rest := []) C (v3_become_ _ _ _ _ _ hS (A 8) (A 2) (fn_in hfn (i := 8) (by decide)) (fn_in hfn (i := 2) (by decide))) (cwV 1 hts gX2_sineOf_X3_become_ rfl rfl rfl (by decide +kernel) ⟨Nat.le_of_ble_eq_true rfl, Nat.le_of_ble_eq_true rfl⟩) hsz hw (bd_recv C hw (fn_in hfn (i := 8) (by decide))) dX2_sineOf_38 rfl hl.1 rfl (Nat.le_of_ble_eq_true rfl) ⟨Nat.le_refl _, Nat.le_refl _⟩ (fun z sg H locs hv9 hf9 hS hw => ?_)
  have fT9 : sg (A 8) = (sp_PI Q) := hv9.trans (by exact f_2)
  have f_x : sg x = sg0 x := (hf9 x (hxA 8 (by decide))).trans f_x
  have f_1 : sg (A 1) = ((2 ^ Q : Nat) : Int) := (hf9 (A 1) (fn_ne hfn (i := 1) (j := 8) (by decide) (by decide) (by decide))).trans f_1
  have f_2 : sg (A 2) = (sp_PI Q) := (hf9 (A 2) (fn_ne hfn (i := 2) (j := 8) (by decide) (by decide) (by decide))).trans f_2
  have f_3 : sg (A 3) = sg0 (A 3) := (hf9 (A 3) (fn_ne hfn (i := 3) (j := 8) (by decide) (by decide) (by decide))).trans f_3
  have f_6 : sg (A 6) = (sg0 x * 2 + sp_PI Q) := (hf9 (A 6) (fn_ne hfn (i := 6) (j := 8) (by decide) (by decide) (by decide))).trans f_6
  have f_8 := fT9
  have hof : ∀ a, a ≠ x → (∀ i, i ∈ ([2, 4, 5, 6, 7, 8] : List Nat) → a ≠ A i) → sg a = sg0 a := fun a h1 h2 => (hf9 a (h2 8 (by decide))).trans (hof a h1 h2)
  refine lv_aload_n hx hb dX2_sineOf_41 rfl (lv_at hl 1 rfl) ?_
  refine fn_g C i2 hw hfn 9 (by decide) (v := .ref (A 8)) rfl dX2_sineOf_42 lk41 ?_
  refine lv_iconst (v := nI 1) hx hb dX2_sineOf_45 (by decide) ?_
  refine sv_v (As := [.int (nI 1)]) (rest := []) C (v3_raise _ _ _ _ _ hS (A 8) 1 9 (fn_in hfn (i := 8) (by decide)) (by omega) (by rw [f_8]; exact hs5) (by decide)) (cwV 1 hts gX2_sineOf_X3_raise rfl rfl rfl (by decide +kernel) ⟨Nat.le_of_ble_eq_true rfl, Nat.le_of_ble_eq_true rfl⟩) hsz hw (bd_recv C hw (fn_in hfn (i := 8) (by decide))) dX2_sineOf_46 rfl hl.1 rfl (Nat.le_of_ble_eq_true rfl) ⟨Nat.le_refl _, Nat.le_refl _⟩ (fun z sg H locs hv9 hf9 hS hw => ?_)
  have fT9 : sg (A 8) = (sp_PI Q * 2) := hv9.trans (by rw [f_8]; rfl)
  have f_x : sg x = sg0 x := (hf9 x (hxA 8 (by decide))).trans f_x
  have f_1 : sg (A 1) = ((2 ^ Q : Nat) : Int) := (hf9 (A 1) (fn_ne hfn (i := 1) (j := 8) (by decide) (by decide) (by decide))).trans f_1
  have f_2 : sg (A 2) = (sp_PI Q) := (hf9 (A 2) (fn_ne hfn (i := 2) (j := 8) (by decide) (by decide) (by decide))).trans f_2
  have f_3 : sg (A 3) = sg0 (A 3) := (hf9 (A 3) (fn_ne hfn (i := 3) (j := 8) (by decide) (by decide) (by decide))).trans f_3
  have f_6 : sg (A 6) = (sg0 x * 2 + sp_PI Q) := (hf9 (A 6) (fn_ne hfn (i := 6) (j := 8) (by decide) (by decide) (by decide))).trans f_6
  have f_8 := fT9
  have hof : ∀ a, a ≠ x → (∀ i, i ∈ ([2, 4, 5, 6, 7, 8] : List Nat) → a ≠ A i) → sg a = sg0 a := fun a h1 h2 => (hf9 a (h2 8 (by decide))).trans (hof a h1 h2)
  refine lv_aload_n hx hb dX2_sineOf_49 rfl (lv_at hl 1 rfl) ?_
  refine fn_g C i2 hw hfn 2 (by decide) (v := .ref dv) rfl dX2_sineOf_50 lk19 ?_
  refine lv_aload_n hx hb dX2_sineOf_53 rfl (lv_at hl 1 rfl) ?_
  refine fn_g C i2 hw hfn 7 (by decide) (v := .ref (A 6)) rfl dX2_sineOf_54 lk35 ?_
  refine lv_aload_n hx hb dX2_sineOf_57 rfl (lv_at hl 1 rfl) ?_
  refine fn_g C i2 hw hfn 7 (by decide) (v := .ref (A 6)) rfl dX2_sineOf_58 lk35 ?_
  refine lv_aload_n hx hb dX2_sineOf_61 rfl (lv_at hl 1 rfl) ?_
  refine fn_g C i2 hw hfn 9 (by decide) (v := .ref (A 8)) rfl dX2_sineOf_62 lk41 ?_
  refine sv_q (As := [.ref (A 6), .ref (A 6), .ref (A 8)]) (rest := []) C (v1_quotient _ _ _ _ _ hS dv rs bs (A 6) (A 6) (A 8) (fn_dv hfn) (fn_in hfn (i := 6) (by decide)) (fn_in hfn (i := 6) (by decide)) (fn_in hfn (i := 8) (by decide)) (by rw [f_8]; exact hs2) (by rw [f_6]; exact hs3)) (cwV 3 hts gX2_sineOf_X1_quotient rfl rfl rfl (by decide +kernel) ⟨Nat.le_of_ble_eq_true rfl, Nat.le_of_ble_eq_true rfl⟩) hsz hw (dv_recv2 C hw (fn_dv hfn)) dX2_sineOf_65 rfl hl.1 rfl (Nat.le_of_ble_eq_true rfl) ⟨Nat.le_refl _, Nat.le_refl _⟩ (fun E z sg H locs hd9 hfe9 hv9 hf9 hS hw => ?_)
  have hfn := fn_mv hfn hd9 hfe9
  have hoe := dv_tr hfe9 hoe
  have fT9 : sg (A 6) = nn := hv9.trans (by rw [f_6, f_8, hnn]; rfl)
  have f_x : sg x = sg0 x := (hf9 x (hxA 6 (by decide))).trans f_x
  have f_1 : sg (A 1) = ((2 ^ Q : Nat) : Int) := (hf9 (A 1) (fn_ne hfn (i := 1) (j := 6) (by decide) (by decide) (by decide))).trans f_1
  have f_2 : sg (A 2) = (sp_PI Q) := (hf9 (A 2) (fn_ne hfn (i := 2) (j := 6) (by decide) (by decide) (by decide))).trans f_2
  have f_3 : sg (A 3) = sg0 (A 3) := (hf9 (A 3) (fn_ne hfn (i := 3) (j := 6) (by decide) (by decide) (by decide))).trans f_3
  have f_8 : sg (A 8) = (sp_PI Q * 2) := (hf9 (A 8) (fn_ne hfn (i := 8) (j := 6) (by decide) (by decide) (by decide))).trans f_8
  have f_6 := fT9
  have hof : ∀ a, a ≠ x → (∀ i, i ∈ ([2, 4, 5, 6, 7, 8] : List Nat) → a ≠ A i) → sg a = sg0 a := fun a h1 h2 => (hf9 a (h2 6 (by decide))).trans (hof a h1 h2)
  refine lv_pop hx hb dX2_sineOf_68 rfl ?_
  refine lv_aload_n hx hb dX2_sineOf_69 rfl (lv_at hl 1 rfl) ?_
  refine fn_g C i2 hw hfn 7 (by decide) (v := .ref (A 6)) rfl dX2_sineOf_70 lk35 ?_
  have hodv : (if nn.natAbs % 2 = 1 then (1 : Int32) else 0) = nI od := by
    rcases hod with ⟨h1, h2⟩ | ⟨h1, h2⟩
    · rw [if_pos h1, h2]; rfl
    · rw [if_neg h1, h2]; rfl
  refine bd_cip (As := []) (rest := []) C (v3_isOdd _ _ _ _ _ hS (A 6) (fn_in hfn (i := 6) (by decide))) (cwV 0 hts gX2_sineOf_X3_isOdd rfl rfl rfl (by decide +kernel) ⟨Nat.le_of_ble_eq_true rfl, Nat.le_of_ble_eq_true rfl⟩) hsz hw (bd_recv C hw (fn_in hfn (i := 6) (by decide))) dX2_sineOf_73 rfl hl.1 rfl (Nat.le_of_ble_eq_true rfl) ⟨Nat.le_refl _, Nat.le_refl _⟩ (fun H locs hw => ?_)
  rw [f_6, hodv]
  refine lv_istore_n (lv' := [(3, .int (nI od)), (2, .ref (A 2)), (0, .ref fo), (1, .ref x)]) hx hb dX2_sineOf_76 rfl hl (by decide) rfl (fun ls hl => ?_)
  refine lv_aload_n hx hb dX2_sineOf_77 rfl (lv_at hl 2 rfl) ?_
  refine fn_g C i2 hw hfn 8 (by decide) (v := .ref (A 7)) rfl dX2_sineOf_78 lk38 ?_
  refine lv_aload_n hx hb dX2_sineOf_81 rfl (lv_at hl 2 rfl) ?_
  refine fn_g C i2 hw hfn 7 (by decide) (v := .ref (A 6)) rfl dX2_sineOf_82 lk35 ?_
  refine lv_aload_n hx hb dX2_sineOf_85 rfl (lv_at hl 1 rfl) ?_
  refine sv_v (As := [.ref (A 6), .ref (A 2)]) (rest := []) C (v3_product _ _ _ _ _ hS (A 7) (A 6) (A 2) 9 9 (fn_in hfn (i := 7) (by decide)) (fn_in hfn (i := 6) (by decide)) (fn_in hfn (i := 2) (by decide)) (fn_ne hfn (i := 6) (j := 7) (by decide) (by decide) (by decide)) (fn_ne hfn (i := 2) (j := 7) (by decide) (by decide) (by decide)) (by rw [f_6]; exact hs4) (by rw [f_2]; exact hs5) (by decide)) (cwV 2 hts gX2_sineOf_X3_product rfl rfl rfl (by decide +kernel) ⟨Nat.le_of_ble_eq_true rfl, Nat.le_of_ble_eq_true rfl⟩) hsz hw (bd_recv C hw (fn_in hfn (i := 7) (by decide))) dX2_sineOf_86 rfl hl.1 rfl (Nat.le_of_ble_eq_true rfl) ⟨Nat.le_refl _, Nat.le_refl _⟩ (fun z sg H locs hv9 hf9 hS hw => ?_)
  have fT9 : sg (A 7) = (nn * sp_PI Q) := hv9.trans (by rw [f_6, f_2])
  have f_x : sg x = sg0 x := (hf9 x (hxA 7 (by decide))).trans f_x
  have f_1 : sg (A 1) = ((2 ^ Q : Nat) : Int) := (hf9 (A 1) (fn_ne hfn (i := 1) (j := 7) (by decide) (by decide) (by decide))).trans f_1
  have f_2 : sg (A 2) = (sp_PI Q) := (hf9 (A 2) (fn_ne hfn (i := 2) (j := 7) (by decide) (by decide) (by decide))).trans f_2
  have f_3 : sg (A 3) = sg0 (A 3) := (hf9 (A 3) (fn_ne hfn (i := 3) (j := 7) (by decide) (by decide) (by decide))).trans f_3
  have f_6 : sg (A 6) = nn := (hf9 (A 6) (fn_ne hfn (i := 6) (j := 7) (by decide) (by decide) (by decide))).trans f_6
  have f_8 : sg (A 8) = (sp_PI Q * 2) := (hf9 (A 8) (fn_ne hfn (i := 8) (j := 7) (by decide) (by decide) (by decide))).trans f_8
  have f_7 := fT9
  have hof : ∀ a, a ≠ x → (∀ i, i ∈ ([2, 4, 5, 6, 7, 8] : List Nat) → a ≠ A i) → sg a = sg0 a := fun a h1 h2 => (hf9 a (h2 7 (by decide))).trans (hof a h1 h2)
  refine lv_aload_n hx hb dX2_sineOf_89 rfl (lv_at hl 2 rfl) ?_
  refine fn_g C i2 hw hfn 5 (by decide) (v := .ref (A 4)) rfl dX2_sineOf_90 lk29 ?_
  refine lv_aload_n hx hb dX2_sineOf_93 rfl (lv_at hl 3 rfl) ?_
  refine lv_aload_n hx hb dX2_sineOf_94 rfl (lv_at hl 2 rfl) ?_
  refine fn_g C i2 hw hfn 8 (by decide) (v := .ref (A 7)) rfl dX2_sineOf_95 lk38 ?_
  refine sv_v (As := [.ref x, .ref (A 7)]) (rest := []) C (v3_difference _ _ _ _ _ hS (A 4) x (A 7) (fn_in hfn (i := 4) (by decide)) hmx (fn_in hfn (i := 7) (by decide)) (by rw [f_x, f_7]; exact hs6)) (cwV 2 hts gX2_sineOf_X3_difference rfl rfl rfl (by decide +kernel) ⟨Nat.le_of_ble_eq_true rfl, Nat.le_of_ble_eq_true rfl⟩) hsz hw (bd_recv C hw (fn_in hfn (i := 4) (by decide))) dX2_sineOf_98 rfl hl.1 rfl (Nat.le_of_ble_eq_true rfl) ⟨Nat.le_refl _, Nat.le_refl _⟩ (fun z sg H locs hv9 hf9 hS hw => ?_)
  have fT9 : sg (A 4) = yy := hv9.trans (by rw [f_x, f_7, hyy, hnn]; rfl)
  have f_x : sg x = sg0 x := (hf9 x (hxA 4 (by decide))).trans f_x
  have f_1 : sg (A 1) = ((2 ^ Q : Nat) : Int) := (hf9 (A 1) (fn_ne hfn (i := 1) (j := 4) (by decide) (by decide) (by decide))).trans f_1
  have f_2 : sg (A 2) = (sp_PI Q) := (hf9 (A 2) (fn_ne hfn (i := 2) (j := 4) (by decide) (by decide) (by decide))).trans f_2
  have f_3 : sg (A 3) = sg0 (A 3) := (hf9 (A 3) (fn_ne hfn (i := 3) (j := 4) (by decide) (by decide) (by decide))).trans f_3
  have f_6 : sg (A 6) = nn := (hf9 (A 6) (fn_ne hfn (i := 6) (j := 4) (by decide) (by decide) (by decide))).trans f_6
  have f_8 : sg (A 8) = (sp_PI Q * 2) := (hf9 (A 8) (fn_ne hfn (i := 8) (j := 4) (by decide) (by decide) (by decide))).trans f_8
  have f_7 : sg (A 7) = (nn * sp_PI Q) := (hf9 (A 7) (fn_ne hfn (i := 7) (j := 4) (by decide) (by decide) (by decide))).trans f_7
  have f_4 := fT9
  have hof : ∀ a, a ≠ x → (∀ i, i ∈ ([2, 4, 5, 6, 7, 8] : List Nat) → a ≠ A i) → sg a = sg0 a := fun a h1 h2 => (hf9 a (h2 4 (by decide))).trans (hof a h1 h2)
  refine lv_aload_n hx hb dX2_sineOf_101 rfl (lv_at hl 2 rfl) ?_
  refine fn_g C i2 hw hfn 6 (by decide) (v := .ref (A 5)) rfl dX2_sineOf_102 lk32 ?_
  refine lv_aload_n hx hb dX2_sineOf_105 rfl (lv_at hl 2 rfl) ?_
  refine fn_g C i2 hw hfn 5 (by decide) (v := .ref (A 4)) rfl dX2_sineOf_106 lk29 ?_
  refine sv_v (As := [.ref (A 4)]) (rest := []) C (v3_become_ _ _ _ _ _ hS (A 5) (A 4) (fn_in hfn (i := 5) (by decide)) (fn_in hfn (i := 4) (by decide))) (cwV 1 hts gX2_sineOf_X3_become_ rfl rfl rfl (by decide +kernel) ⟨Nat.le_of_ble_eq_true rfl, Nat.le_of_ble_eq_true rfl⟩) hsz hw (bd_recv C hw (fn_in hfn (i := 5) (by decide))) dX2_sineOf_109 rfl hl.1 rfl (Nat.le_of_ble_eq_true rfl) ⟨Nat.le_refl _, Nat.le_refl _⟩ (fun z sg H locs hv9 hf9 hS hw => ?_)
  have fT9 : sg (A 5) = yy := hv9.trans (by exact f_4)
  have f_x : sg x = sg0 x := (hf9 x (hxA 5 (by decide))).trans f_x
  have f_1 : sg (A 1) = ((2 ^ Q : Nat) : Int) := (hf9 (A 1) (fn_ne hfn (i := 1) (j := 5) (by decide) (by decide) (by decide))).trans f_1
  have f_2 : sg (A 2) = (sp_PI Q) := (hf9 (A 2) (fn_ne hfn (i := 2) (j := 5) (by decide) (by decide) (by decide))).trans f_2
  have f_3 : sg (A 3) = sg0 (A 3) := (hf9 (A 3) (fn_ne hfn (i := 3) (j := 5) (by decide) (by decide) (by decide))).trans f_3
  have f_6 : sg (A 6) = nn := (hf9 (A 6) (fn_ne hfn (i := 6) (j := 5) (by decide) (by decide) (by decide))).trans f_6
  have f_8 : sg (A 8) = (sp_PI Q * 2) := (hf9 (A 8) (fn_ne hfn (i := 8) (j := 5) (by decide) (by decide) (by decide))).trans f_8
  have f_7 : sg (A 7) = (nn * sp_PI Q) := (hf9 (A 7) (fn_ne hfn (i := 7) (j := 5) (by decide) (by decide) (by decide))).trans f_7
  have f_4 : sg (A 4) = yy := (hf9 (A 4) (fn_ne hfn (i := 4) (j := 5) (by decide) (by decide) (by decide))).trans f_4
  have f_5 := fT9
  have hof : ∀ a, a ≠ x → (∀ i, i ∈ ([2, 4, 5, 6, 7, 8] : List Nat) → a ≠ A i) → sg a = sg0 a := fun a h1 h2 => (hf9 a (h2 5 (by decide))).trans (hof a h1 h2)
  refine lv_aload_n hx hb dX2_sineOf_112 rfl (lv_at hl 2 rfl) ?_
  refine lv_aload_n hx hb dX2_sineOf_113 rfl (lv_at hl 2 rfl) ?_
  refine fn_g C i2 hw hfn 6 (by decide) (v := .ref (A 5)) rfl dX2_sineOf_114 lk32 ?_
  refine lv_aload_n hx hb dX2_sineOf_117 rfl (lv_at hl 2 rfl) ?_
  refine fn_g C i2 hw hfn 5 (by decide) (v := .ref (A 4)) rfl dX2_sineOf_118 lk29 ?_
  refine bd_cv (As := [.ref (A 5), .ref (A 4)]) (rest := []) C (f_scale _ _ _ _ _ hfn hS (A 5) (A 4) 9 9 (fn_in hfn (i := 5) (by decide)) (fn_in hfn (i := 4) (by decide)) (fn_ne hfn (i := 5) (j := 7) (by decide) (by decide) (by decide)) (fn_ne hfn (i := 4) (j := 7) (by decide) (by decide) (by decide)) (by rw [f_5]; exact b9 (Nat.le_trans hyb (by decide +kernel))) (by rw [f_4]; exact b9 (Nat.le_trans hyb (by decide +kernel))) (by decide)) (cwV 2 hts gX2_sineOf_X2_scale rfl rfl rfl (by decide +kernel) ⟨Nat.le_of_ble_eq_true rfl, Nat.le_of_ble_eq_true rfl⟩) hsz hw (fn_recv C hw hfn) dX2_sineOf_121 rfl hl.1 rfl (Nat.le_of_ble_eq_true rfl) ⟨Nat.le_refl _, Nat.le_refl _⟩ (fun E1 z H locs hp hw => ?_)
  obtain ⟨hE9, sg, hS, hv9, hf9⟩ := hp
  rw [show E1 = E from hE9] at hw
  have fT9 : sg (A 5) = ss := hv9.trans (by rw [f_5, f_4, hss])
  have f_x : sg x = sg0 x := (hf9 x (hxA 5 (by decide)) (hxA 7 (by decide))).trans f_x
  have f_1 : sg (A 1) = ((2 ^ Q : Nat) : Int) := (hf9 (A 1) (fn_ne hfn (i := 1) (j := 5) (by decide) (by decide) (by decide)) (fn_ne hfn (i := 1) (j := 7) (by decide) (by decide) (by decide))).trans f_1
  have f_2 : sg (A 2) = (sp_PI Q) := (hf9 (A 2) (fn_ne hfn (i := 2) (j := 5) (by decide) (by decide) (by decide)) (fn_ne hfn (i := 2) (j := 7) (by decide) (by decide) (by decide))).trans f_2
  have f_3 : sg (A 3) = sg0 (A 3) := (hf9 (A 3) (fn_ne hfn (i := 3) (j := 5) (by decide) (by decide) (by decide)) (fn_ne hfn (i := 3) (j := 7) (by decide) (by decide) (by decide))).trans f_3
  have f_6 : sg (A 6) = nn := (hf9 (A 6) (fn_ne hfn (i := 6) (j := 5) (by decide) (by decide) (by decide)) (fn_ne hfn (i := 6) (j := 7) (by decide) (by decide) (by decide))).trans f_6
  have f_8 : sg (A 8) = (sp_PI Q * 2) := (hf9 (A 8) (fn_ne hfn (i := 8) (j := 5) (by decide) (by decide) (by decide)) (fn_ne hfn (i := 8) (j := 7) (by decide) (by decide) (by decide))).trans f_8
  have f_4 : sg (A 4) = yy := (hf9 (A 4) (fn_ne hfn (i := 4) (j := 5) (by decide) (by decide) (by decide)) (fn_ne hfn (i := 4) (j := 7) (by decide) (by decide) (by decide))).trans f_4
  have f_5 := fT9
  have hof : ∀ a, a ≠ x → (∀ i, i ∈ ([2, 4, 5, 6, 7, 8] : List Nat) → a ≠ A i) → sg a = sg0 a := fun a h1 h2 => (hf9 a (h2 5 (by decide)) (h2 7 (by decide))).trans (hof a h1 h2)
  refine lv_aload_n hx hb dX2_sineOf_124 rfl (lv_at hl 3 rfl) ?_
  refine sv_v (As := []) (rest := []) C (v3_clear _ _ _ _ _ hS x hmx) (cwV 0 hts gX2_sineOf_X3_clear rfl rfl rfl (by decide +kernel) ⟨Nat.le_of_ble_eq_true rfl, Nat.le_of_ble_eq_true rfl⟩) hsz hw (bd_recv C hw hmx) dX2_sineOf_125 rfl hl.1 rfl (Nat.le_of_ble_eq_true rfl) ⟨Nat.le_refl _, Nat.le_refl _⟩ (fun z sg H locs hv9 hf9 hS hw => ?_)
  have fT9 : sg x = 0 := hv9.trans (by rfl)
  have f_1 : sg (A 1) = ((2 ^ Q : Nat) : Int) := (hf9 (A 1) (hxA 1 (by decide)).symm).trans f_1
  have f_2 : sg (A 2) = (sp_PI Q) := (hf9 (A 2) (hxA 2 (by decide)).symm).trans f_2
  have f_3 : sg (A 3) = sg0 (A 3) := (hf9 (A 3) (hxA 3 (by decide)).symm).trans f_3
  have f_6 : sg (A 6) = nn := (hf9 (A 6) (hxA 6 (by decide)).symm).trans f_6
  have f_8 : sg (A 8) = (sp_PI Q * 2) := (hf9 (A 8) (hxA 8 (by decide)).symm).trans f_8
  have f_4 : sg (A 4) = yy := (hf9 (A 4) (hxA 4 (by decide)).symm).trans f_4
  have f_5 : sg (A 5) = ss := (hf9 (A 5) (hxA 5 (by decide)).symm).trans f_5
  have f_x := fT9
  have hof : ∀ a, a ≠ x → (∀ i, i ∈ ([2, 4, 5, 6, 7, 8] : List Nat) → a ≠ A i) → sg a = sg0 a := fun a h1 h2 => (hf9 a h1).trans (hof a h1 h2)
  refine lv_iconst (v := nI 1) hx hb dX2_sineOf_128 (by decide) ?_
  refine lv_istore (lv' := [(4, .int (nI 1)), (3, .int (nI od)), (2, .ref (A 2)), (0, .ref fo), (1, .ref x)]) hx hb dX2_sineOf_129 hl (by decide) rfl (fun ls hl => ?_)
  suffices hloop : ∀ (d i : Nat) (z : Nat → Wh) (sg : Nat → Int) (ls : Array Slot) (H : Heap) (locs : List Loc), i + d = m0 → sg_S K z sg → sg (A 4) = ((sn_p ((2 ^ Q : Nat) : Int) ss yy) i) → sg (A 5) = ss → sg x = sp_sum (sn_p ((2 ^ Q : Nat) : Int) ss yy) i → sg (A 1) = ((2 ^ Q : Nat) : Int) → sg (A 2) = sp_PI Q → sg (A 3) = sg0 (A 3) → (∀ a, a ≠ x → (∀ i, i ∈ ([2, 4, 5, 6, 7, 8] : List Nat) → a ≠ A i) → sg a = sg0 a) → lv_has ls 5 [(4, .int (nI (i + 1))), (3, .int (nI od)), (2, .ref (A 2)), (0, .ref fo), (1, .ref x)] → bd_W K E z (bd_A K sz) s.heap H locs → W p l e (headSpec wsX2_sineOf ({ frames := 6, cells := 0, slots := 0, locals := 180 })).room s m [.ref fo, .ref x].toArray below meth c H locs 0 0 (MQ below (va_Qv (fun u => fn_at K u.1 fo Q dv rs bs A ∧ dv_fr dv rs bs E0 u.1 ∧ ∃ sg1 : Nat → Int, sg_S K u.2 sg1 ∧ fn_iv Q A sg1 ∧ sg1 x = sp_SIN Q (sg0 x) ∧ ∀ a, a ≠ x → (∀ i, i ∈ ([2, 4, 5, 6, 7, 8] : List Nat) → a ≠ A i) → sg1 a = sg0 a) (bd_B K) (bd_A K sz)) [.ref fo, .ref x].toArray s 0 0 (bd_A K sz)) (F0 m 131 ls []) from hloop m0 0 z sg ls H locs (by omega) hS f_4 f_5 f_x f_1 f_2 f_3 hof (lv_sub hl [0, 1, 2, 3, 4] rfl) hw
  clear hw hl ls hof hS f_4 f_5 f_x f_1 f_2 f_3
  intro d
  induction d using Nat.strongRecOn with
  | ind d ih =>
    intro i z sg ls H locs hid hS f_4 f_5 f_x f_1 f_2 f_3 hof hl hw
    have hpi : ((sn_p ((2 ^ Q : Nat) : Int) ss yy) i).natAbs ≤ 2 ^ 258 := Nat.le_trans (sn_le hH i) hyb
    have hsm : (sp_sum (sn_p ((2 ^ Q : Nat) : Int) ss yy) i).natAbs ≤ 2 ^ 300 := Nat.le_trans (sn_sum hH i) (Nat.le_trans (Nat.mul_le_mul (show i ≤ 1000 by omega) hyb) (by decide +kernel))
    have hsc : (((sn_p ((2 ^ Q : Nat) : Int) ss yy) i) * ss / ((2 ^ Q : Nat) : Int)).natAbs ≤ 3 * 2 ^ 258 := Nat.le_trans (sn_sc hDp hss0 hss3) (Nat.mul_le_mul_left 3 hpi)
    refine lv_iload hx hb dX2_sineOf_131 (lv_at hl 0 rfl) ?_
    refine lv_sipush (v := nI 10000) hx hb dX2_sineOf_133 (by decide) ?_
    refine bd_ige (h1 := (by omega)) (h2 := (by omega)) (tgt := 202) hx hb dX2_sineOf_136 (by decide) (fun hc136 => ?_) (fun hc136 => ?_)
    · exact absurd hc136 (by omega)
    · refine lv_aload_n hx hb dX2_sineOf_139 rfl (lv_at hl 3 rfl) ?_
      refine fn_g C i2 hw hfn 5 (by decide) (v := .ref (A 4)) rfl dX2_sineOf_140 lk29 ?_
      refine bd_cip (As := []) (rest := []) C (v3_sign _ _ _ _ _ hS (A 4) (fn_in hfn (i := 4) (by decide))) (cwV 0 hts gX2_sineOf_X3_sign rfl rfl rfl (by decide +kernel) ⟨Nat.le_of_ble_eq_true rfl, Nat.le_of_ble_eq_true rfl⟩) hsz hw (bd_recv C hw (fn_in hfn (i := 4) (by decide))) dX2_sineOf_143 rfl hl.1 rfl (Nat.le_of_ble_eq_true rfl) ⟨Nat.le_refl _, Nat.le_refl _⟩ (fun H locs hw => ?_)
      rw [f_4]
      refine lv_if_eq (tgt := 202) hx hb dX2_sineOf_146 (by decide) (fun hc146 => ?_) (fun hc146 => ?_)
      · have hz9 : ((sn_p ((2 ^ Q : Nat) : Int) ss yy) i) = 0 := q3_eq.mp hc146
        have him : i = m0 := by
          rcases Nat.lt_or_ge i m0 with q | q
          · exact absurd hz9 (hend.2 i q)
          · omega
        rw [him] at f_x
        refine lv_iload_n hx hb dX2_sineOf_202 rfl (lv_at hl 1 rfl) ?_
        refine bd_zeq (h1 := (by omega)) (tgt := 210) hx hb dX2_sineOf_203 (by decide) (fun hc203 => ?_) (fun hc203 => ?_)
        · exact bd_vret C hr hlk hw dX2_sineOf_210 ⟨hfn, hoe, sg, hS, ⟨f_1, Or.inr f_2, by rw [f_3]; exact hiv0.2.2⟩, hSIN _ ⟨m0, hend, by rw [if_neg (show ¬ nn.natAbs % 2 = 1 by omega), f_x]⟩, hof⟩
        · refine lv_aload_n hx hb dX2_sineOf_206 rfl (lv_at hl 4 rfl) ?_
          refine sv_v (As := []) (rest := []) C (v3_turn _ _ _ _ _ hS x hmx) (cwV 0 hts gX2_sineOf_X3_turn rfl rfl rfl (by decide +kernel) ⟨Nat.le_of_ble_eq_true rfl, Nat.le_of_ble_eq_true rfl⟩) hsz hw (bd_recv C hw hmx) dX2_sineOf_207 rfl hl.1 rfl (Nat.le_of_ble_eq_true rfl) ⟨Nat.le_refl _, Nat.le_refl _⟩ (fun z sg H locs hv9 hf9 hS hw => ?_)
          have fT9 : sg x = (-sp_sum (sn_p ((2 ^ Q : Nat) : Int) ss yy) m0) := hv9.trans (by rw [f_x])
          have f_4 : sg (A 4) = ((sn_p ((2 ^ Q : Nat) : Int) ss yy) i) := (hf9 (A 4) (hxA 4 (by decide)).symm).trans f_4
          have f_5 : sg (A 5) = ss := (hf9 (A 5) (hxA 5 (by decide)).symm).trans f_5
          have f_1 : sg (A 1) = ((2 ^ Q : Nat) : Int) := (hf9 (A 1) (hxA 1 (by decide)).symm).trans f_1
          have f_2 : sg (A 2) = (sp_PI Q) := (hf9 (A 2) (hxA 2 (by decide)).symm).trans f_2
          have f_3 : sg (A 3) = sg0 (A 3) := (hf9 (A 3) (hxA 3 (by decide)).symm).trans f_3
          have f_x := fT9
          have hof : ∀ a, a ≠ x → (∀ i, i ∈ ([2, 4, 5, 6, 7, 8] : List Nat) → a ≠ A i) → sg a = sg0 a := fun a h1 h2 => (hf9 a h1).trans (hof a h1 h2)
          exact bd_vret C hr hlk hw dX2_sineOf_210 ⟨hfn, hoe, sg, hS, ⟨f_1, Or.inr f_2, by rw [f_3]; exact hiv0.2.2⟩, hSIN _ ⟨m0, hend, by rw [if_pos (show nn.natAbs % 2 = 1 by omega), f_x]⟩, hof⟩
      · have hz9 : ¬ ((sn_p ((2 ^ Q : Nat) : Int) ss yy) i) = 0 := fun q => hc146 (q3_eq.mpr q)
        have him : i < m0 := by
          rcases Nat.lt_or_ge i m0 with q | q
          · exact q
          · rw [show i = m0 by omega] at hz9
            exact absurd hend.1 hz9
        obtain ⟨hdv0, hdv1⟩ := sn_dv (show i < 10000 by omega)
        refine lv_aload_n hx hb dX2_sineOf_149 rfl (lv_at hl 4 rfl) ?_
        refine lv_aload_n hx hb dX2_sineOf_150 rfl (lv_at hl 4 rfl) ?_
        refine lv_aload_n hx hb dX2_sineOf_151 rfl (lv_at hl 3 rfl) ?_
        refine fn_g C i2 hw hfn 5 (by decide) (v := .ref (A 4)) rfl dX2_sineOf_152 lk29 ?_
        refine sv_v (As := [.ref x, .ref (A 4)]) (rest := []) C (v3_sum _ _ _ _ _ hS x x (A 4) hmx hmx (fn_in hfn (i := 4) (by decide)) (by rw [f_x, f_4]; exact (Nat.lt_of_le_of_lt (Nat.add_le_add hsm hpi) (by decide +kernel)))) (cwV 2 hts gX2_sineOf_X3_sum rfl rfl rfl (by decide +kernel) ⟨Nat.le_of_ble_eq_true rfl, Nat.le_of_ble_eq_true rfl⟩) hsz hw (bd_recv C hw hmx) dX2_sineOf_155 rfl hl.1 rfl (Nat.le_of_ble_eq_true rfl) ⟨Nat.le_refl _, Nat.le_refl _⟩ (fun z sg H locs hv9 hf9 hS hw => ?_)
        have fT9 : sg x = (sp_sum (sn_p ((2 ^ Q : Nat) : Int) ss yy) (i + 1)) := hv9.trans (by rw [f_x, f_4]; rfl)
        have f_4 : sg (A 4) = ((sn_p ((2 ^ Q : Nat) : Int) ss yy) i) := (hf9 (A 4) (hxA 4 (by decide)).symm).trans f_4
        have f_5 : sg (A 5) = ss := (hf9 (A 5) (hxA 5 (by decide)).symm).trans f_5
        have f_1 : sg (A 1) = ((2 ^ Q : Nat) : Int) := (hf9 (A 1) (hxA 1 (by decide)).symm).trans f_1
        have f_2 : sg (A 2) = (sp_PI Q) := (hf9 (A 2) (hxA 2 (by decide)).symm).trans f_2
        have f_3 : sg (A 3) = sg0 (A 3) := (hf9 (A 3) (hxA 3 (by decide)).symm).trans f_3
        have f_x := fT9
        have hof : ∀ a, a ≠ x → (∀ i, i ∈ ([2, 4, 5, 6, 7, 8] : List Nat) → a ≠ A i) → sg a = sg0 a := fun a h1 h2 => (hf9 a h1).trans (hof a h1 h2)
        refine lv_aload_n hx hb dX2_sineOf_158 rfl (lv_at hl 3 rfl) ?_
        refine lv_aload_n hx hb dX2_sineOf_159 rfl (lv_at hl 3 rfl) ?_
        refine fn_g C i2 hw hfn 5 (by decide) (v := .ref (A 4)) rfl dX2_sineOf_160 lk29 ?_
        refine lv_aload_n hx hb dX2_sineOf_163 rfl (lv_at hl 3 rfl) ?_
        refine fn_g C i2 hw hfn 6 (by decide) (v := .ref (A 5)) rfl dX2_sineOf_164 lk32 ?_
        refine bd_cv (As := [.ref (A 4), .ref (A 5)]) (rest := []) C (f_scale _ _ _ _ _ hfn hS (A 4) (A 5) 9 9 (fn_in hfn (i := 4) (by decide)) (fn_in hfn (i := 5) (by decide)) (fn_ne hfn (i := 4) (j := 7) (by decide) (by decide) (by decide)) (fn_ne hfn (i := 5) (j := 7) (by decide) (by decide) (by decide)) (by rw [f_4]; exact b9 (Nat.le_trans hpi (by decide +kernel))) (by rw [f_5]; exact hssb) (by decide)) (cwV 2 hts gX2_sineOf_X2_scale rfl rfl rfl (by decide +kernel) ⟨Nat.le_of_ble_eq_true rfl, Nat.le_of_ble_eq_true rfl⟩) hsz hw (fn_recv C hw hfn) dX2_sineOf_167 rfl hl.1 rfl (Nat.le_of_ble_eq_true rfl) ⟨Nat.le_refl _, Nat.le_refl _⟩ (fun E1 z H locs hp hw => ?_)
        obtain ⟨hE9, sg, hS, hv9, hf9⟩ := hp
        rw [show E1 = E from hE9] at hw
        have fT9 : sg (A 4) = (((sn_p ((2 ^ Q : Nat) : Int) ss yy) i) * ss / ((2 ^ Q : Nat) : Int)) := hv9.trans (by rw [f_4, f_5])
        have f_5 : sg (A 5) = ss := (hf9 (A 5) (fn_ne hfn (i := 5) (j := 4) (by decide) (by decide) (by decide)) (fn_ne hfn (i := 5) (j := 7) (by decide) (by decide) (by decide))).trans f_5
        have f_x : sg x = (sp_sum (sn_p ((2 ^ Q : Nat) : Int) ss yy) (i + 1)) := (hf9 x (hxA 4 (by decide)) (hxA 7 (by decide))).trans f_x
        have f_1 : sg (A 1) = ((2 ^ Q : Nat) : Int) := (hf9 (A 1) (fn_ne hfn (i := 1) (j := 4) (by decide) (by decide) (by decide)) (fn_ne hfn (i := 1) (j := 7) (by decide) (by decide) (by decide))).trans f_1
        have f_2 : sg (A 2) = (sp_PI Q) := (hf9 (A 2) (fn_ne hfn (i := 2) (j := 4) (by decide) (by decide) (by decide)) (fn_ne hfn (i := 2) (j := 7) (by decide) (by decide) (by decide))).trans f_2
        have f_3 : sg (A 3) = sg0 (A 3) := (hf9 (A 3) (fn_ne hfn (i := 3) (j := 4) (by decide) (by decide) (by decide)) (fn_ne hfn (i := 3) (j := 7) (by decide) (by decide) (by decide))).trans f_3
        have f_4 := fT9
        have hof : ∀ a, a ≠ x → (∀ i, i ∈ ([2, 4, 5, 6, 7, 8] : List Nat) → a ≠ A i) → sg a = sg0 a := fun a h1 h2 => (hf9 a (h2 4 (by decide)) (h2 7 (by decide))).trans (hof a h1 h2)
        refine lv_aload_n hx hb dX2_sineOf_170 rfl (lv_at hl 3 rfl) ?_
        refine fn_g C i2 hw hfn 5 (by decide) (v := .ref (A 4)) rfl dX2_sineOf_171 lk29 ?_
        refine lv_iconst (v := nI 2) hx hb dX2_sineOf_174 (by decide) ?_
        refine lv_iload hx hb dX2_sineOf_175 (lv_at hl 0 rfl) ?_
        refine bd_imul (v := (nI (2 * (i + 1)))) hx hb dX2_sineOf_177 (pk_mul _ _) ?_
        refine lv_iconst (v := nI 2) hx hb dX2_sineOf_178 (by decide) ?_
        refine lv_iload hx hb dX2_sineOf_179 (lv_at hl 0 rfl) ?_
        refine bd_imul (v := (nI (2 * (i + 1)))) hx hb dX2_sineOf_181 (pk_mul _ _) ?_
        refine lv_iconst (v := nI 1) hx hb dX2_sineOf_182 (by decide) ?_
        refine bd_iadd (v := (nI ((2 * (i + 1)) + 1))) hx hb dX2_sineOf_183 (nI_add _ _) ?_
        refine bd_imul (v := (nI ((2 * (i + 1)) * ((2 * (i + 1)) + 1)))) hx hb dX2_sineOf_184 (pk_mul _ _) ?_
        refine sv_i (As := [.int (nI ((2 * (i + 1)) * ((2 * (i + 1)) + 1)))]) (rest := []) C (v3_divide _ _ _ _ _ hS (A 4) ((2 * (i + 1)) * ((2 * (i + 1)) + 1)) (fn_in hfn (i := 4) (by decide)) hdv0 hdv1 (by rw [f_4]; exact (Nat.lt_of_le_of_lt (Nat.add_le_add_right hsc 1) (by decide +kernel)))) (cwV 1 hts gX2_sineOf_X3_divide rfl rfl rfl (by decide +kernel) ⟨Nat.le_of_ble_eq_true rfl, Nat.le_of_ble_eq_true rfl⟩) hsz hw (bd_recv C hw (fn_in hfn (i := 4) (by decide))) dX2_sineOf_185 rfl hl.1 rfl (Nat.le_of_ble_eq_true rfl) ⟨Nat.le_refl _, Nat.le_refl _⟩ (fun z sg H locs hv9 hf9 hS hw => ?_)
        have fT9 : sg (A 4) = (((sn_p ((2 ^ Q : Nat) : Int) ss yy) i) * ss / ((2 ^ Q : Nat) : Int) / (((2 * (i + 1)) * ((2 * (i + 1)) + 1) : Nat) : Int)) := hv9.trans (by rw [f_4])
        have f_5 : sg (A 5) = ss := (hf9 (A 5) (fn_ne hfn (i := 5) (j := 4) (by decide) (by decide) (by decide))).trans f_5
        have f_x : sg x = (sp_sum (sn_p ((2 ^ Q : Nat) : Int) ss yy) (i + 1)) := (hf9 x (hxA 4 (by decide))).trans f_x
        have f_1 : sg (A 1) = ((2 ^ Q : Nat) : Int) := (hf9 (A 1) (fn_ne hfn (i := 1) (j := 4) (by decide) (by decide) (by decide))).trans f_1
        have f_2 : sg (A 2) = (sp_PI Q) := (hf9 (A 2) (fn_ne hfn (i := 2) (j := 4) (by decide) (by decide) (by decide))).trans f_2
        have f_3 : sg (A 3) = sg0 (A 3) := (hf9 (A 3) (fn_ne hfn (i := 3) (j := 4) (by decide) (by decide) (by decide))).trans f_3
        have f_4 := fT9
        have hof : ∀ a, a ≠ x → (∀ i, i ∈ ([2, 4, 5, 6, 7, 8] : List Nat) → a ≠ A i) → sg a = sg0 a := fun a h1 h2 => (hf9 a (h2 4 (by decide))).trans (hof a h1 h2)
        refine lv_pop hx hb dX2_sineOf_188 rfl ?_
        refine lv_aload_n hx hb dX2_sineOf_189 rfl (lv_at hl 3 rfl) ?_
        refine fn_g C i2 hw hfn 5 (by decide) (v := .ref (A 4)) rfl dX2_sineOf_190 lk29 ?_
        refine sv_v (As := []) (rest := []) C (v3_turn _ _ _ _ _ hS (A 4) (fn_in hfn (i := 4) (by decide))) (cwV 0 hts gX2_sineOf_X3_turn rfl rfl rfl (by decide +kernel) ⟨Nat.le_of_ble_eq_true rfl, Nat.le_of_ble_eq_true rfl⟩) hsz hw (bd_recv C hw (fn_in hfn (i := 4) (by decide))) dX2_sineOf_193 rfl hl.1 rfl (Nat.le_of_ble_eq_true rfl) ⟨Nat.le_refl _, Nat.le_refl _⟩ (fun z sg H locs hv9 hf9 hS hw => ?_)
        have fT9 : sg (A 4) = ((sn_p ((2 ^ Q : Nat) : Int) ss yy) (i + 1)) := hv9.trans (by rw [f_4]; rfl)
        have f_5 : sg (A 5) = ss := (hf9 (A 5) (fn_ne hfn (i := 5) (j := 4) (by decide) (by decide) (by decide))).trans f_5
        have f_x : sg x = (sp_sum (sn_p ((2 ^ Q : Nat) : Int) ss yy) (i + 1)) := (hf9 x (hxA 4 (by decide))).trans f_x
        have f_1 : sg (A 1) = ((2 ^ Q : Nat) : Int) := (hf9 (A 1) (fn_ne hfn (i := 1) (j := 4) (by decide) (by decide) (by decide))).trans f_1
        have f_2 : sg (A 2) = (sp_PI Q) := (hf9 (A 2) (fn_ne hfn (i := 2) (j := 4) (by decide) (by decide) (by decide))).trans f_2
        have f_3 : sg (A 3) = sg0 (A 3) := (hf9 (A 3) (fn_ne hfn (i := 3) (j := 4) (by decide) (by decide) (by decide))).trans f_3
        have f_4 := fT9
        have hof : ∀ a, a ≠ x → (∀ i, i ∈ ([2, 4, 5, 6, 7, 8] : List Nat) → a ≠ A i) → sg a = sg0 a := fun a h1 h2 => (hf9 a (h2 4 (by decide))).trans (hof a h1 h2)
        refine lv_iinc (v := (nI ((i + 1) + 1))) (lv' := [(4, .int (nI ((i + 1) + 1))), (3, .int (nI od)), (2, .ref (A 2)), (0, .ref fo), (1, .ref x)]) hx hb dX2_sineOf_196 hl (k := 0) rfl (nI_1 _) (by decide) rfl (fun ls hl => ?_)
        refine lv_goto (tgt := 131) hx hb dX2_sineOf_199 (by decide) ?_
        exact ih (d - 1) (by omega) (i + 1) z sg ls H locs (by omega) hS f_4 f_5 f_x f_1 f_2 f_3 hof (lv_sub hl [0, 1, 2, 3, 4] rfl) hw
