/-! Fine.scale (laid by wip/gen/m_fine1.py) -/
set_option maxHeartbeats 4000000 in
set_option maxRecDepth 100000 in
/-- Fine.scale(x, y): x becomes x y by 2^Q -/
theorem f_scale (l : Launch) (K : Cxt) (E0 : Nat → va_E) (z0 : Nat → Wh) (sz : Nat) {fo Q dv rs bs : Nat} {A : Nat → Nat} (hfn : fn_at K E0 fo Q dv rs bs A) {sg0 : Nat → Int} (hS : sg_S K z0 sg0) (x y i j : Nat) (hmx : x ∈ bd_N K) (hmy : y ∈ bd_N K) (hx7 : x ≠ A 7) (hy7 : y ≠ A 7) (hi : (sg0 x).natAbs < 4294967296 ^ i) (hj : (sg0 y).natAbs < 4294967296 ^ j) (hij : i + j ≤ 24) : Met l yX2_scale wsX2_scale ({ frames := 2, cells := 0, slots := 0, locals := 70 }) (va_Pc [.ref fo, .ref x, .ref y] (bd_P K E0 z0 sz)) (va_Qv (fun u => u.1 = E0 ∧ ∃ sg1 : Nat → Int, sg_S K u.2 sg1 ∧ sg1 x = sg0 x * sg0 y / ((2 ^ Q : Nat) : Int) ∧ ∀ a, a ≠ x → a ≠ A 7 → sg1 a = sg0 a) (bd_B K) (bd_A K sz)) 0 0 (bd_A K sz) := by
  refine bd_ofW (cc := cX2_scale) (maxL := 3) (ret := none) (by decide) rfl (Nat.le_of_ble_eq_true rfl) ?_
  intro p e s m below meth c ls C hr hlk hsz hw hl
  have hx := C.1
  have hb := C.2.1
  have hown := C.2.2.2.1
  have hts := C.2.2.2.2.1
  have i2 : ∀ w ∈ wsX20, w ∈ wsX2_scale := by decide +kernel
  have lk38 : Cond.fieldLink RX2 38 "BallDesk$Fine" "wide" "LBallDesk$Whole;" ∈ wsX2_scale := by decide +kernel
  have lk50 : Cond.fieldLink RX2 50 "BallDesk$Fine" "bits" "I" ∈ wsX2_scale := by decide +kernel
  have hoe : dv_fr dv rs bs E0 E0 := dv_rf
  obtain ⟨hQ1, hQ2⟩ := fn_Q hfn
  have hl : lv_has ls 3 [(0, .ref fo), (1, .ref x), (2, .ref y)] := hl
  refine lv_aload_n hx hb dX2_scale_0 rfl (lv_at hl 0 rfl) ?_
  refine fn_g C i2 hw hfn 8 (by decide) (v := .ref (A 7)) rfl dX2_scale_1 lk38 ?_
  refine lv_aload_n hx hb dX2_scale_4 rfl (lv_at hl 1 rfl) ?_
  refine lv_aload_n hx hb dX2_scale_5 rfl (lv_at hl 2 rfl) ?_
  refine sv_v (As := [.ref x, .ref y]) (rest := []) C (v3_product _ _ _ _ _ hS (A 7) x y i j (fn_in hfn (i := 7) (by decide)) hmx hmy hx7 hy7 hi hj hij) (cwV 2 hts gX2_scale_X3_product rfl rfl rfl (by decide +kernel) ⟨Nat.le_of_ble_eq_true rfl, Nat.le_of_ble_eq_true rfl⟩) hsz hw (bd_recv C hw (fn_in hfn (i := 7) (by decide))) dX2_scale_6 rfl hl.1 rfl (Nat.le_of_ble_eq_true rfl) ⟨Nat.le_refl _, Nat.le_refl _⟩ (fun z sg H locs hv9 hf9 hS hw => ?_)
  have fT9 : sg (A 7) = sg0 x * sg0 y := hv9.trans (by rfl)
  have f_7 := fT9
  refine lv_aload_n hx hb dX2_scale_9 rfl (lv_at hl 0 rfl) ?_
  refine fn_g C i2 hw hfn 8 (by decide) (v := .ref (A 7)) rfl dX2_scale_10 lk38 ?_
  refine lv_aload_n hx hb dX2_scale_13 rfl (lv_at hl 0 rfl) ?_
  refine fn_g C i2 hw hfn 0 (by decide) (v := .int (nI Q)) rfl dX2_scale_14 lk50 ?_
  have hfa := hf9
  refine sv_v (As := [.int (nI Q)]) (rest := []) C (v3_lower _ _ _ _ _ hS (A 7) Q (fn_in hfn (i := 7) (by decide)) (by omega) (by omega)) (cwV 1 hts gX2_scale_X3_lower rfl rfl rfl (by decide +kernel) ⟨Nat.le_of_ble_eq_true rfl, Nat.le_of_ble_eq_true rfl⟩) hsz hw (bd_recv C hw (fn_in hfn (i := 7) (by decide))) dX2_scale_17 rfl hl.1 rfl (Nat.le_of_ble_eq_true rfl) ⟨Nat.le_refl _, Nat.le_refl _⟩ (fun z sg H locs hv9 hf9 hS hw => ?_)
  have fT9 : sg (A 7) = sg0 x * sg0 y / ((2 ^ Q : Nat) : Int) := hv9.trans (by rw [f_7])
  have f_7 := fT9
  refine lv_aload_n hx hb dX2_scale_20 rfl (lv_at hl 1 rfl) ?_
  refine lv_aload_n hx hb dX2_scale_21 rfl (lv_at hl 0 rfl) ?_
  refine fn_g C i2 hw hfn 8 (by decide) (v := .ref (A 7)) rfl dX2_scale_22 lk38 ?_
  have hfb := hf9
  refine sv_v (As := [.ref (A 7)]) (rest := []) C (v3_become_ _ _ _ _ _ hS x (A 7) hmx (fn_in hfn (i := 7) (by decide))) (cwV 1 hts gX2_scale_X3_become_ rfl rfl rfl (by decide +kernel) ⟨Nat.le_of_ble_eq_true rfl, Nat.le_of_ble_eq_true rfl⟩) hsz hw (bd_recv C hw hmx) dX2_scale_25 rfl hl.1 rfl (Nat.le_of_ble_eq_true rfl) ⟨Nat.le_refl _, Nat.le_refl _⟩ (fun z sg H locs hv9 hf9 hS hw => ?_)
  have fT9 : sg x = sg0 x * sg0 y / ((2 ^ Q : Nat) : Int) := hv9.trans (by rw [f_7])
  have f_7 : sg (A 7) = sg0 x * sg0 y / ((2 ^ Q : Nat) : Int) := (hf9 (A 7) hx7.symm).trans f_7
  have f_x := fT9
  exact bd_vret C hr hlk hw dX2_scale_28 (⟨rfl, sg, hS, f_x, fun a h1 h2 => (hf9 a h1).trans ((hfb a h2).trans (hfa a h2))⟩)
