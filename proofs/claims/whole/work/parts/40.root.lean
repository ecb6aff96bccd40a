/-! Fine.squareRoot (laid by wip/gen/m_fine5.py) -/
set_option maxHeartbeats 4000000 in
set_option maxRecDepth 100000 in
/-- Fine.squareRoot(x): ROOT -/
theorem f_squareRoot (l : Launch) (K : Cxt) (E0 : Nat → va_E) (z0 : Nat → Wh) (sz : Nat) {fo Q dv rs bs : Nat} {A : Nat → Nat} (hfn : fn_at K E0 fo Q dv rs bs A) {sg0 : Nat → Int} (hS : sg_S K z0 sg0) (x : Nat) (hmx : x ∈ bd_N K) (hxA : ∀ i, 9 ≤ i ∧ i ≤ 10 → x ≠ A i) (hb1 : (sg0 x).natAbs < 2 ^ 700) : Met l yX2_squareRoot wsX2_squareRoot ({ frames := 4, cells := 0, slots := 0, locals := 140 }) (va_Pc [.ref fo, .ref x] (bd_P K E0 z0 sz)) (va_Qv (fun u => fn_at K u.1 fo Q dv rs bs A ∧ dv_fr dv rs bs E0 u.1 ∧ ∃ sg1 : Nat → Int, sg_S K u.2 sg1 ∧ sg1 x = sp_ROOT (sg0 x) ∧ ∀ a, a ≠ x → (∀ i, i ∈ ([9, 10] : List Nat) → a ≠ A i) → sg1 a = sg0 a) (bd_B K) (bd_A K sz)) 0 0 (bd_A K sz) := by
  refine bd_ofW (cc := cX2_squareRoot) (maxL := 3) (ret := none) (by decide) rfl (Nat.le_of_ble_eq_true rfl) ?_
  intro p e s m below meth c ls C hr hlk hsz hw hl
  have hx := C.1
  have hb := C.2.1
  have hown := C.2.2.2.1
  have hts := C.2.2.2.2.1
  have i2 : ∀ w ∈ wsX20, w ∈ wsX2_squareRoot := by decide +kernel
  have lk44 : Cond.fieldLink RX2 44 "BallDesk$Fine" "guess" "LBallDesk$Whole;" ∈ wsX2_squareRoot := by decide +kernel
  have lk19 : Cond.fieldLink RX2 19 "BallDesk$Fine" "division" "LBallDesk$Division;" ∈ wsX2_squareRoot := by decide +kernel
  have lk47 : Cond.fieldLink RX2 47 "BallDesk$Fine" "next" "LBallDesk$Whole;" ∈ wsX2_squareRoot := by decide +kernel
  have hoe : dv_fr dv rs bs E0 E0 := dv_rf
  obtain ⟨hQ1, hQ2⟩ := fn_Q hfn
  have hl : lv_has ls 3 [(0, .ref fo), (1, .ref x)] := hl
  have f_x : sg0 x = sg0 x := rfl
  have hof : ∀ a, a ≠ x → (∀ i, i ∈ ([9, 10] : List Nat) → a ≠ A i) → sg0 a = sg0 a := fun _ _ _ => rfl
  refine lv_aload_n hx hb dX2_squareRoot_0 rfl (lv_at hl 1 rfl) ?_
  refine bd_cip (As := []) (rest := []) C (v3_sign _ _ _ _ _ hS x hmx) (cwV 0 hts gX2_squareRoot_X3_sign rfl rfl rfl (by decide +kernel) ⟨Nat.le_of_ble_eq_true rfl, Nat.le_of_ble_eq_true rfl⟩) hsz hw (bd_recv C hw hmx) dX2_squareRoot_1 rfl hl.1 rfl (Nat.le_of_ble_eq_true rfl) ⟨Nat.le_refl _, Nat.le_refl _⟩ (fun H locs hw => ?_)
  refine lv_if_gt (tgt := 12) hx hb dX2_squareRoot_4 (by decide) (fun hc4 => ?_) (fun hc4 => ?_)
  · have hx0 : 0 < sg0 x := q3_gt.mp hc4
    obtain ⟨V, hV⟩ : ∃ V : Nat, sg0 x = (V : Int) := ⟨(sg0 x).toNat, by omega⟩
    have hVa : (sg0 x).natAbs = V := by omega
    obtain ⟨r, hr9, hrt⟩ := sp_ROOTx (sg0 x)
    rw [hV, Int.toNat_natCast] at hr9
    rw [hVa] at hb1
    have hVp : 0 < V := by omega
    have hbl := q_bl_le hb1
    have hr1 : 1 ≤ r := sp_root_le hr9 (by omega)
    have f_x : sg0 x = (V : Int) := hV
    refine lv_aload_n hx hb dX2_squareRoot_12 rfl (lv_at hl 0 rfl) ?_
    refine fn_g C i2 hw hfn 10 (by decide) (v := .ref (A 9)) rfl dX2_squareRoot_13 lk44 ?_
    refine lv_aload_n hx hb dX2_squareRoot_16 rfl (lv_at hl 1 rfl) ?_
    refine bd_cip (As := []) (rest := [.ref (A 9)]) C (v3_bits _ _ _ _ _ hS x hmx) (cwV 0 hts gX2_squareRoot_X3_bits rfl rfl rfl (by decide +kernel) ⟨Nat.le_of_ble_eq_true rfl, Nat.le_of_ble_eq_true rfl⟩) hsz hw (bd_recv C hw hmx) dX2_squareRoot_17 rfl hl.1 rfl (Nat.le_of_ble_eq_true rfl) ⟨Nat.le_refl _, Nat.le_refl _⟩ (fun H locs hw => ?_)
    rw [hVa]
    refine lv_iconst (v := nI 1) hx hb dX2_squareRoot_20 (by decide) ?_
    refine bd_iadd (v := (nI (q_bl V + 1))) hx hb dX2_squareRoot_21 (nI_add _ _) ?_
    refine lv_iconst (v := nI 2) hx hb dX2_squareRoot_22 (by decide) ?_
    refine bd_idiv (v := (nI ((q_bl V + 1) / 2))) hx hb dX2_squareRoot_23 (by decide +kernel) (pk_div (by omega) (by decide) (by decide)) ?_
    refine sv_v (As := [.int (nI ((q_bl V + 1) / 2))]) (rest := []) C (v3_becomePower _ _ _ _ _ hS (A 9) ((q_bl V + 1) / 2) (fn_in hfn (i := 9) (by decide)) (by omega)) (cwV 1 hts gX2_squareRoot_X3_becomePower rfl rfl rfl (by decide +kernel) ⟨Nat.le_of_ble_eq_true rfl, Nat.le_of_ble_eq_true rfl⟩) hsz hw (bd_recv C hw (fn_in hfn (i := 9) (by decide))) dX2_squareRoot_24 rfl hl.1 rfl (Nat.le_of_ble_eq_true rfl) ⟨Nat.le_refl _, Nat.le_refl _⟩ (fun z sg H locs hv9 hf9 hS hw => ?_)
    have fT9 : sg (A 9) = ((2 ^ ((q_bl V + 1) / 2) : Nat) : Int) := hv9.trans (by rfl)
    have f_x : sg x = (V : Int) := (hf9 x (hxA 9 (by decide))).trans f_x
    have f_9 := fT9
    have hof : ∀ a, a ≠ x → (∀ i, i ∈ ([9, 10] : List Nat) → a ≠ A i) → sg a = sg0 a := fun a h1 h2 => (hf9 a (h2 9 (by decide))).trans (hof a h1 h2)
    refine lv_iconst (v := nI 0) hx hb dX2_squareRoot_27 (by decide) ?_
    refine lv_istore_n (lv' := [(2, .int (nI 0)), (0, .ref fo), (1, .ref x)]) hx hb dX2_squareRoot_28 rfl hl (by decide) rfl (fun ls hl => ?_)
    have hg350 : 2 ^ ((q_bl V + 1) / 2) ≤ 2 ^ 351 := Nat.pow_le_pow_right (by decide) (by omega)
    have hgp : 0 < 2 ^ ((q_bl V + 1) / 2) := Nat.pow_pos (by decide)
    suffices hloop : ∀ (d n G : Nat) (E : Nat → va_E) (z : Nat → Wh) (sg : Nat → Int) (ls : Array Slot) (H : Heap) (locs : List Loc), fn_at K E fo Q dv rs bs A → dv_fr dv rs bs E0 E → n + d ≤ 400 → r ≤ G → 0 < G → G ≤ 2 ^ 351 → 2 * (G - r) ≤ 2 ^ d → sg_S K z sg → sg x = (V : Int) → sg (A 9) = (G : Int) → (∀ a, a ≠ x → (∀ i, i ∈ ([9, 10] : List Nat) → a ≠ A i) → sg a = sg0 a) → lv_has ls 3 [(2, .int (nI n)), (0, .ref fo), (1, .ref x)] → bd_W K E z (bd_A K sz) s.heap H locs → W p l e (headSpec wsX2_squareRoot ({ frames := 4, cells := 0, slots := 0, locals := 140 })).room s m [.ref fo, .ref x].toArray below meth c H locs 0 0 (MQ below (va_Qv (fun u => fn_at K u.1 fo Q dv rs bs A ∧ dv_fr dv rs bs E0 u.1 ∧ ∃ sg1 : Nat → Int, sg_S K u.2 sg1 ∧ sg1 x = sp_ROOT (sg0 x) ∧ ∀ a, a ≠ x → (∀ i, i ∈ ([9, 10] : List Nat) → a ≠ A i) → sg1 a = sg0 a) (bd_B K) (bd_A K sz)) [.ref fo, .ref x].toArray s 0 0 (bd_A K sz)) (F0 m 29 ls []) from hloop 352 0 _ E0 z sg ls H locs hfn hoe (by omega) (sp_first hr9) hgp hg350 (Nat.le_trans (Nat.mul_le_mul_left 2 (Nat.le_trans (Nat.sub_le _ _) hg350)) (by decide +kernel)) hS f_x f_9 hof (lv_sub hl [0, 1, 2] rfl) hw
    clear hw hl ls hof hS f_x f_9 hfn hoe
    intro d
    induction d using Nat.strongRecOn with
    | ind d ih =>
      intro n G E z sg ls H locs hfn hoe hnd hrG hG0 hGb hGd hS f_x f_9 hof hl hw
      obtain ⟨hn1, hn2, hn3, hn4⟩ := sp_newton hr9 hrG hG0
      have hVG : V / G ≤ V := Nat.div_le_self _ _
      have hV7 : V + 2 ^ 351 ≤ 2 ^ 700 + 2 ^ 351 := by omega
      refine lv_iload_n hx hb dX2_squareRoot_29 rfl (lv_at hl 0 rfl) ?_
      refine lv_sipush (v := nI 10000) hx hb dX2_squareRoot_30 (by decide) ?_
      refine bd_ige (h1 := (by omega)) (h2 := (by omega)) (tgt := 110) hx hb dX2_squareRoot_33 (by decide) (fun hc33 => ?_) (fun hc33 => ?_)
      · exact absurd hc33 (by omega)
      · refine lv_aload_n hx hb dX2_squareRoot_36 rfl (lv_at hl 1 rfl) ?_
        refine fn_g C i2 hw hfn 2 (by decide) (v := .ref dv) rfl dX2_squareRoot_37 lk19 ?_
        refine lv_aload_n hx hb dX2_squareRoot_40 rfl (lv_at hl 1 rfl) ?_
        refine fn_g C i2 hw hfn 11 (by decide) (v := .ref (A 10)) rfl dX2_squareRoot_41 lk47 ?_
        refine lv_aload_n hx hb dX2_squareRoot_44 rfl (lv_at hl 2 rfl) ?_
        refine lv_aload_n hx hb dX2_squareRoot_45 rfl (lv_at hl 1 rfl) ?_
        refine fn_g C i2 hw hfn 10 (by decide) (v := .ref (A 9)) rfl dX2_squareRoot_46 lk44 ?_
        refine sv_q (As := [.ref (A 10), .ref x, .ref (A 9)]) (rest := []) C (v1_quotient _ _ _ _ _ hS dv rs bs (A 10) x (A 9) (fn_dv hfn) (fn_in hfn (i := 10) (by decide)) hmx (fn_in hfn (i := 9) (by decide)) (by rw [f_9]; omega) (by rw [f_x]; exact b24 (by omega))) (cwV 3 hts gX2_squareRoot_X1_quotient rfl rfl rfl (by decide +kernel) ⟨Nat.le_of_ble_eq_true rfl, Nat.le_of_ble_eq_true rfl⟩) hsz hw (dv_recv2 C hw (fn_dv hfn)) dX2_squareRoot_49 rfl hl.1 rfl (Nat.le_of_ble_eq_true rfl) ⟨Nat.le_refl _, Nat.le_refl _⟩ (fun E z sg H locs hd9 hfe9 hv9 hf9 hS hw => ?_)
        have hfn := fn_mv hfn hd9 hfe9
        have hoe := dv_tr hfe9 hoe
        have fT9 : sg (A 10) = ((V / G : Nat) : Int) := hv9.trans (by rw [f_x, f_9, Int.natCast_ediv])
        have f_x : sg x = (V : Int) := (hf9 x (hxA 10 (by decide))).trans f_x
        have f_9 : sg (A 9) = (G : Int) := (hf9 (A 9) (fn_ne hfn (i := 9) (j := 10) (by decide) (by decide) (by decide))).trans f_9
        have f_10 := fT9
        have hof : ∀ a, a ≠ x → (∀ i, i ∈ ([9, 10] : List Nat) → a ≠ A i) → sg a = sg0 a := fun a h1 h2 => (hf9 a (h2 10 (by decide))).trans (hof a h1 h2)
        refine lv_pop hx hb dX2_squareRoot_52 rfl ?_
        refine lv_aload_n hx hb dX2_squareRoot_53 rfl (lv_at hl 1 rfl) ?_
        refine fn_g C i2 hw hfn 11 (by decide) (v := .ref (A 10)) rfl dX2_squareRoot_54 lk47 ?_
        refine lv_aload_n hx hb dX2_squareRoot_57 rfl (lv_at hl 1 rfl) ?_
        refine fn_g C i2 hw hfn 11 (by decide) (v := .ref (A 10)) rfl dX2_squareRoot_58 lk47 ?_
        refine lv_aload_n hx hb dX2_squareRoot_61 rfl (lv_at hl 1 rfl) ?_
        refine fn_g C i2 hw hfn 10 (by decide) (v := .ref (A 9)) rfl dX2_squareRoot_62 lk44 ?_
        refine sv_v (As := [.ref (A 10), .ref (A 9)]) (rest := []) C (v3_sum _ _ _ _ _ hS (A 10) (A 10) (A 9) (fn_in hfn (i := 10) (by decide)) (fn_in hfn (i := 10) (by decide)) (fn_in hfn (i := 9) (by decide)) (by rw [f_10, f_9]; exact Nat.lt_of_le_of_lt (show _ ≤ 2 ^ 700 + 2 ^ 351 by omega) (by decide +kernel))) (cwV 2 hts gX2_squareRoot_X3_sum rfl rfl rfl (by decide +kernel) ⟨Nat.le_of_ble_eq_true rfl, Nat.le_of_ble_eq_true rfl⟩) hsz hw (bd_recv C hw (fn_in hfn (i := 10) (by decide))) dX2_squareRoot_65 rfl hl.1 rfl (Nat.le_of_ble_eq_true rfl) ⟨Nat.le_refl _, Nat.le_refl _⟩ (fun z sg H locs hv9 hf9 hS hw => ?_)
        have fT9 : sg (A 10) = ((V / G + G : Nat) : Int) := hv9.trans (by rw [f_10, f_9, Int.natCast_add])
        have f_x : sg x = (V : Int) := (hf9 x (hxA 10 (by decide))).trans f_x
        have f_9 : sg (A 9) = (G : Int) := (hf9 (A 9) (fn_ne hfn (i := 9) (j := 10) (by decide) (by decide) (by decide))).trans f_9
        have f_10 := fT9
        have hof : ∀ a, a ≠ x → (∀ i, i ∈ ([9, 10] : List Nat) → a ≠ A i) → sg a = sg0 a := fun a h1 h2 => (hf9 a (h2 10 (by decide))).trans (hof a h1 h2)
        refine lv_aload_n hx hb dX2_squareRoot_68 rfl (lv_at hl 1 rfl) ?_
        refine fn_g C i2 hw hfn 11 (by decide) (v := .ref (A 10)) rfl dX2_squareRoot_69 lk47 ?_
        refine lv_iconst (v := nI 1) hx hb dX2_squareRoot_72 (by decide) ?_
        refine sv_v (As := [.int (nI 1)]) (rest := []) C (v3_lower _ _ _ _ _ hS (A 10) 1 (fn_in hfn (i := 10) (by decide)) (by omega) (by omega)) (cwV 1 hts gX2_squareRoot_X3_lower rfl rfl rfl (by decide +kernel) ⟨Nat.le_of_ble_eq_true rfl, Nat.le_of_ble_eq_true rfl⟩) hsz hw (bd_recv C hw (fn_in hfn (i := 10) (by decide))) dX2_squareRoot_73 rfl hl.1 rfl (Nat.le_of_ble_eq_true rfl) ⟨Nat.le_refl _, Nat.le_refl _⟩ (fun z sg H locs hv9 hf9 hS hw => ?_)
        have fT9 : sg (A 10) = (((V / G + G) / 2 : Nat) : Int) := hv9.trans (by rw [f_10, Int.natCast_ediv])
        have f_x : sg x = (V : Int) := (hf9 x (hxA 10 (by decide))).trans f_x
        have f_9 : sg (A 9) = (G : Int) := (hf9 (A 9) (fn_ne hfn (i := 9) (j := 10) (by decide) (by decide) (by decide))).trans f_9
        have f_10 := fT9
        have hof : ∀ a, a ≠ x → (∀ i, i ∈ ([9, 10] : List Nat) → a ≠ A i) → sg a = sg0 a := fun a h1 h2 => (hf9 a (h2 10 (by decide))).trans (hof a h1 h2)
        refine lv_aload_n hx hb dX2_squareRoot_76 rfl (lv_at hl 1 rfl) ?_
        refine fn_g C i2 hw hfn 11 (by decide) (v := .ref (A 10)) rfl dX2_squareRoot_77 lk47 ?_
        refine lv_aload_n hx hb dX2_squareRoot_80 rfl (lv_at hl 1 rfl) ?_
        refine fn_g C i2 hw hfn 10 (by decide) (v := .ref (A 9)) rfl dX2_squareRoot_81 lk44 ?_
        refine bd_cip (As := [.ref (A 9)]) (rest := []) C (v3_order _ _ _ _ _ hS (A 10) (A 9) (fn_in hfn (i := 10) (by decide)) (fn_in hfn (i := 9) (by decide))) (cwV 1 hts gX2_squareRoot_X3_order rfl rfl rfl (by decide +kernel) ⟨Nat.le_of_ble_eq_true rfl, Nat.le_of_ble_eq_true rfl⟩) hsz hw (bd_recv C hw (fn_in hfn (i := 10) (by decide))) dX2_squareRoot_84 rfl hl.1 rfl (Nat.le_of_ble_eq_true rfl) ⟨Nat.le_refl _, Nat.le_refl _⟩ (fun H locs hw => ?_)
        rw [f_10, f_9]
        refine lv_if_lt (tgt := 93) hx hb dX2_squareRoot_87 (by decide) (fun hc87 => ?_) (fun hc87 => ?_)
        · have hlt : (V / G + G) / 2 < G := by have := q3_lt.mp hc87; omega
          have hhv := sp_halves hr9 hrG hG0 hGd hlt
          refine lv_aload_n hx hb dX2_squareRoot_93 rfl (lv_at hl 1 rfl) ?_
          refine fn_g C i2 hw hfn 10 (by decide) (v := .ref (A 9)) rfl dX2_squareRoot_94 lk44 ?_
          refine lv_aload_n hx hb dX2_squareRoot_97 rfl (lv_at hl 1 rfl) ?_
          refine fn_g C i2 hw hfn 11 (by decide) (v := .ref (A 10)) rfl dX2_squareRoot_98 lk47 ?_
          refine sv_v (As := [.ref (A 10)]) (rest := []) C (v3_become_ _ _ _ _ _ hS (A 9) (A 10) (fn_in hfn (i := 9) (by decide)) (fn_in hfn (i := 10) (by decide))) (cwV 1 hts gX2_squareRoot_X3_become_ rfl rfl rfl (by decide +kernel) ⟨Nat.le_of_ble_eq_true rfl, Nat.le_of_ble_eq_true rfl⟩) hsz hw (bd_recv C hw (fn_in hfn (i := 9) (by decide))) dX2_squareRoot_101 rfl hl.1 rfl (Nat.le_of_ble_eq_true rfl) ⟨Nat.le_refl _, Nat.le_refl _⟩ (fun z sg H locs hv9 hf9 hS hw => ?_)
          have fT9 : sg (A 9) = (((V / G + G) / 2 : Nat) : Int) := hv9.trans (by exact f_10)
          have f_x : sg x = (V : Int) := (hf9 x (hxA 9 (by decide))).trans f_x
          have f_10 : sg (A 10) = (((V / G + G) / 2 : Nat) : Int) := (hf9 (A 10) (fn_ne hfn (i := 10) (j := 9) (by decide) (by decide) (by decide))).trans f_10
          have f_9 := fT9
          have hof : ∀ a, a ≠ x → (∀ i, i ∈ ([9, 10] : List Nat) → a ≠ A i) → sg a = sg0 a := fun a h1 h2 => (hf9 a (h2 9 (by decide))).trans (hof a h1 h2)
          refine lv_iinc (v := (nI (n + 1))) (lv' := [(2, .int (nI (n + 1))), (0, .ref fo), (1, .ref x)]) hx hb dX2_squareRoot_104 hl (k := 0) rfl (nI_1 _) (by decide) rfl (fun ls hl => ?_)
          refine lv_goto (tgt := 29) hx hb dX2_squareRoot_107 (by decide) ?_
          exact ih (d - 1) (by omega) (n + 1) ((V / G + G) / 2) E z sg ls H locs hfn hoe (by omega) hn1 (by omega) (by omega) hhv.2 hS f_x f_9 hof (lv_sub hl [0, 1, 2] rfl) hw
        · have hGr : G = r := hn2 (by have := Int.not_lt.mp (fun q => hc87 (q3_lt.mpr q)); omega)
          refine lv_goto (tgt := 110) hx hb dX2_squareRoot_90 (by decide) ?_
          refine lv_aload_n hx hb dX2_squareRoot_110 rfl (lv_at hl 2 rfl) ?_
          refine lv_aload_n hx hb dX2_squareRoot_111 rfl (lv_at hl 1 rfl) ?_
          refine fn_g C i2 hw hfn 10 (by decide) (v := .ref (A 9)) rfl dX2_squareRoot_112 lk44 ?_
          refine sv_v (As := [.ref (A 9)]) (rest := []) C (v3_become_ _ _ _ _ _ hS x (A 9) hmx (fn_in hfn (i := 9) (by decide))) (cwV 1 hts gX2_squareRoot_X3_become_ rfl rfl rfl (by decide +kernel) ⟨Nat.le_of_ble_eq_true rfl, Nat.le_of_ble_eq_true rfl⟩) hsz hw (bd_recv C hw hmx) dX2_squareRoot_115 rfl hl.1 rfl (Nat.le_of_ble_eq_true rfl) ⟨Nat.le_refl _, Nat.le_refl _⟩ (fun z sg H locs hv9 hf9 hS hw => ?_)
          have fT9 : sg x = (G : Int) := hv9.trans (by exact f_9)
          have f_9 : sg (A 9) = (G : Int) := (hf9 (A 9) (hxA 9 (by decide)).symm).trans f_9
          have f_10 : sg (A 10) = (((V / G + G) / 2 : Nat) : Int) := (hf9 (A 10) (hxA 10 (by decide)).symm).trans f_10
          have f_x := fT9
          have hof : ∀ a, a ≠ x → (∀ i, i ∈ ([9, 10] : List Nat) → a ≠ A i) → sg a = sg0 a := fun a h1 h2 => (hf9 a h1).trans (hof a h1 h2)
          exact bd_vret C hr hlk hw dX2_squareRoot_118 ⟨hfn, hoe, sg, hS, f_x.trans (by rw [hrt, hGr]), hof⟩
  · refine lv_aload_n hx hb dX2_squareRoot_7 rfl (lv_at hl 1 rfl) ?_
    refine sv_v (As := []) (rest := []) C (v3_clear _ _ _ _ _ hS x hmx) (cwV 0 hts gX2_squareRoot_X3_clear rfl rfl rfl (by decide +kernel) ⟨Nat.le_of_ble_eq_true rfl, Nat.le_of_ble_eq_true rfl⟩) hsz hw (bd_recv C hw hmx) dX2_squareRoot_8 rfl hl.1 rfl (Nat.le_of_ble_eq_true rfl) ⟨Nat.le_refl _, Nat.le_refl _⟩ (fun z sg H locs hv9 hf9 hS hw => ?_)
    have fT9 : sg x = 0 := hv9.trans (by rfl)
    have f_x := fT9
    have hof : ∀ a, a ≠ x → (∀ i, i ∈ ([9, 10] : List Nat) → a ≠ A i) → sg a = sg0 a := fun a h1 h2 => (hf9 a h1).trans (hof a h1 h2)
    have hx0 : sg0 x ≤ 0 := Int.not_lt.mp (fun q => hc4 (q3_gt.mpr q))
    exact bd_vret C hr hlk hw dX2_squareRoot_11 ⟨hfn, hoe, sg, hS, f_x.trans (sp_ROOT0 hx0).symm, hof⟩
