/-! Fine.exponential (laid by wip/gen/m_fine4.py) -/
set_option maxHeartbeats 4000000 in
set_option maxRecDepth 100000 in
/-- Fine.exponential(x): EXP -/
theorem f_exponential (l : Launch) (K : Cxt) (E0 : Nat → va_E) (z0 : Nat → Wh) (sz : Nat) {fo Q dv rs bs : Nat} {A : Nat → Nat} (hfn : fn_at K E0 fo Q dv rs bs A) {sg0 : Nat → Int} (hS : sg_S K z0 sg0) (x : Nat) (hmx : x ∈ bd_N K) (hxA : ∀ i, 1 ≤ i ∧ i ≤ 10 → x ≠ A i) (h1v : sg0 (A 1) = ((2 ^ Q : Nat) : Int)) (hb1 : (sg0 x).natAbs ≤ 2 ^ (Q + 4)) : Met l yX2_exponential wsX2_exponential ({ frames := 4, cells := 0, slots := 0, locals := 120 }) (va_Pc [.ref fo, .ref x] (bd_P K E0 z0 sz)) (va_Qv (fun u => u.1 = E0 ∧ ∃ sg1 : Nat → Int, sg_S K u.2 sg1 ∧ (∃ m, sp_end (sp_ep ((2 ^ Q : Nat) : Int) (sg0 x / ((2 ^ (q_bl (sg0 x).natAbs - (Q - 8)) : Nat) : Int))) m ∧ sg1 x = sp_sqr ((2 ^ Q : Nat) : Int) (sp_sum (sp_ep ((2 ^ Q : Nat) : Int) (sg0 x / ((2 ^ (q_bl (sg0 x).natAbs - (Q - 8)) : Nat) : Int))) m) (q_bl (sg0 x).natAbs - (Q - 8))) ∧ ∀ a, a ≠ x → (∀ i, i ∈ ([4, 7, 8] : List Nat) → a ≠ A i) → sg1 a = sg0 a) (bd_B K) (bd_A K sz)) 0 0 (bd_A K sz) := by
  refine bd_ofW (cc := cX2_exponential) (maxL := 4) (ret := none) (by decide) rfl (Nat.le_of_ble_eq_true rfl) ?_
  intro p e s m below meth c ls C hr hlk hsz hw hl
  have hx := C.1
  have hb := C.2.1
  have hown := C.2.2.2.1
  have hts := C.2.2.2.2.1
  have i2 : ∀ w ∈ wsX20, w ∈ wsX2_exponential := by decide +kernel
  have lk50 : Cond.fieldLink RX2 50 "BallDesk$Fine" "bits" "I" ∈ wsX2_exponential := by decide +kernel
  have lk41 : Cond.fieldLink RX2 41 "BallDesk$Fine" "other" "LBallDesk$Whole;" ∈ wsX2_exponential := by decide +kernel
  have lk29 : Cond.fieldLink RX2 29 "BallDesk$Fine" "part" "LBallDesk$Whole;" ∈ wsX2_exponential := by decide +kernel
  have lk10 : Cond.fieldLink RX2 10 "BallDesk$Fine" "one" "LBallDesk$Whole;" ∈ wsX2_exponential := by decide +kernel
  have hoe : dv_fr dv rs bs E0 E0 := dv_rf
  obtain ⟨hQ1, hQ2⟩ := fn_Q hfn
  have hl : lv_has ls 4 [(0, .ref fo), (1, .ref x)] := hl
  have hp256 : (2 : Nat) ^ Q ≤ 2 ^ 256 := Nat.pow_le_pow_right (by decide) hQ2
  have hp80 : (2 : Nat) ^ 80 ≤ 2 ^ Q := Nat.pow_le_pow_right (by decide) hQ1
  have hDp : (0 : Int) < ((2 ^ Q : Nat) : Int) := by omega
  have hbl : q_bl (sg0 x).natAbs ≤ Q + 5 := by
    unfold q_bl
    split
    · omega
    · rename_i h
      have h9 := (Nat.log2_lt h).mpr (show (sg0 x).natAbs < 2 ^ (Q + 5) from Nat.lt_of_le_of_lt hb1 (Nat.pow_lt_pow_right (by decide) (by omega)))
      omega
  have hcut := sp_cut (t := sg0 x) (Q := Q) (by omega)
  have hpw : 2 ^ (Q - 8) * 256 = 2 ^ Q := by rw [show (256 : Nat) = 2 ^ 8 by decide, ← Nat.pow_add]; congr 1; omega
  have hx260 : (sg0 x).natAbs ≤ 2 ^ 260 := Nat.le_trans hb1 (Nat.pow_le_pow_right (by decide) (by omega))
  obtain ⟨yy, hyy⟩ : ∃ y, y = (sg0 x / ((2 ^ (q_bl (sg0 x).natAbs - (Q - 8)) : Nat) : Int)) := ⟨_, rfl⟩
  obtain ⟨ns, hns⟩ : ∃ y, y = (q_bl (sg0 x).natAbs - (Q - 8)) := ⟨_, rfl⟩
  rw [← hyy] at hcut ⊢
  rw [← hns] at hyy ⊢
  have hns13 : ns ≤ 13 := by omega
  have hy4 : 4 * (yy.natAbs : Int) ≤ ((2 ^ Q : Nat) : Int) := by omega
  have hy256 : 256 * (yy.natAbs : Int) ≤ ((2 ^ Q : Nat) : Int) := by omega
  have hyb : yy.natAbs ≤ 2 ^ 256 := by omega
  have hH := sp_epH hDp hy4
  obtain ⟨m0, hm0, hend⟩ := sp_ex hH (N := 257) (show (((2 ^ Q : Nat) : Int) : Int).natAbs < 2 ^ 257 from Nat.lt_of_le_of_lt (show (((2 ^ Q : Nat) : Int) : Int).natAbs ≤ 2 ^ 256 by omega) (by decide +kernel))
  have hmp : 0 < m0 := by
    rcases Nat.eq_zero_or_pos m0 with q | q
    · rw [q] at hend
      rcases hend.1 with r | r
      · have : ((2 ^ Q : Nat) : Int) = 0 := r
        omega
      · have : ((2 ^ Q : Nat) : Int) = -1 := r
        omega
    · exact q
  have f_x : sg0 x = sg0 x := rfl
  have f_1 := h1v
  have hof : ∀ a, a ≠ x → (∀ i, i ∈ ([4, 7, 8] : List Nat) → a ≠ A i) → sg0 a = sg0 a := fun _ _ _ => rfl
  refine lv_iconst (v := nI 0) hx hb dX2_exponential_0 (by decide) ?_
  refine lv_aload_n hx hb dX2_exponential_1 rfl (lv_at hl 1 rfl) ?_
  refine bd_cip (As := []) (rest := [.int (nI 0)]) C (v3_bits _ _ _ _ _ hS x hmx) (cwV 0 hts gX2_exponential_X3_bits rfl rfl rfl (by decide +kernel) ⟨Nat.le_of_ble_eq_true rfl, Nat.le_of_ble_eq_true rfl⟩) hsz hw (bd_recv C hw hmx) dX2_exponential_2 rfl hl.1 rfl (Nat.le_of_ble_eq_true rfl) ⟨Nat.le_refl _, Nat.le_refl _⟩ (fun H locs hw => ?_)
  refine lv_aload_n hx hb dX2_exponential_5 rfl (lv_at hl 0 rfl) ?_
  refine fn_g C i2 hw hfn 0 (by decide) (v := .int (nI Q)) rfl dX2_exponential_6 lk50 ?_
  refine lv_bipush (v := nI 8) hx hb dX2_exponential_9 (by decide) ?_
  refine bd_isub (v := (nI (Q - 8))) hx hb dX2_exponential_11 (pk_sub (by omega)) ?_
  refine bd_isub (v := (nI (q_bl (sg0 x).natAbs) - nI (Q - 8))) hx hb dX2_exponential_12 (rfl) ?_
  refine va_mmax hx hb (C.2.2.1.trans hl.1.symm) hown (hts (.methodLink RX2 61 Lib.Math.max.name) (by decide +kernel)) (hts (.static Lib.Math.max.name) (by decide +kernel)) (hts (.initialized "java/lang/Math") (by decide +kernel)) (hts (.code Lib.Math.max.name Lib.Math.max.code 2 (some .int)) (by decide +kernel)) (Nat.le_of_ble_eq_true rfl) (Nat.le_of_ble_eq_true rfl) (Nat.le_refl _) (Nat.le_refl _) dX2_exponential_13 ?_
  rw [bd_maxs (by omega) (by omega), ← hns]
  refine lv_istore_n (lv' := [(2, .int (nI ns)), (0, .ref fo), (1, .ref x)]) hx hb dX2_exponential_16 rfl hl (by decide) rfl (fun ls hl => ?_)
  refine lv_aload_n hx hb dX2_exponential_17 rfl (lv_at hl 1 rfl) ?_
  refine fn_g C i2 hw hfn 9 (by decide) (v := .ref (A 8)) rfl dX2_exponential_18 lk41 ?_
  refine lv_aload_n hx hb dX2_exponential_21 rfl (lv_at hl 2 rfl) ?_
  refine sv_v (As := [.ref x]) (rest := []) C (v3_become_ _ _ _ _ _ hS (A 8) x (fn_in hfn (i := 8) (by decide)) hmx) (cwV 1 hts gX2_exponential_X3_become_ rfl rfl rfl (by decide +kernel) ⟨Nat.le_of_ble_eq_true rfl, Nat.le_of_ble_eq_true rfl⟩) hsz hw (bd_recv C hw (fn_in hfn (i := 8) (by decide))) dX2_exponential_22 rfl hl.1 rfl (Nat.le_of_ble_eq_true rfl) ⟨Nat.le_refl _, Nat.le_refl _⟩ (fun z sg H locs hv9 hf9 hS hw => ?_)
  have fT9 : sg (A 8) = sg0 x := hv9.trans (by exact f_x)
  have f_x : sg x = sg0 x := (hf9 x (hxA 8 (by decide))).trans f_x
  have f_1 : sg (A 1) = ((2 ^ Q : Nat) : Int) := (hf9 (A 1) (fn_ne hfn (i := 1) (j := 8) (by decide) (by decide) (by decide))).trans f_1
  have f_8 := fT9
  have hof : ∀ a, a ≠ x → (∀ i, i ∈ ([4, 7, 8] : List Nat) → a ≠ A i) → sg a = sg0 a := fun a h1 h2 => (hf9 a (h2 8 (by decide))).trans (hof a h1 h2)
  refine lv_aload_n hx hb dX2_exponential_25 rfl (lv_at hl 1 rfl) ?_
  refine fn_g C i2 hw hfn 9 (by decide) (v := .ref (A 8)) rfl dX2_exponential_26 lk41 ?_
  refine lv_iload_n hx hb dX2_exponential_29 rfl (lv_at hl 0 rfl) ?_
  refine sv_v (As := [.int (nI ns)]) (rest := []) C (v3_lowerZ _ _ _ _ _ hS (A 8) ns (fn_in hfn (i := 8) (by decide)) (by omega)) (cwV 1 hts gX2_exponential_X3_lower rfl rfl rfl (by decide +kernel) ⟨Nat.le_of_ble_eq_true rfl, Nat.le_of_ble_eq_true rfl⟩) hsz hw (bd_recv C hw (fn_in hfn (i := 8) (by decide))) dX2_exponential_30 rfl hl.1 rfl (Nat.le_of_ble_eq_true rfl) ⟨Nat.le_refl _, Nat.le_refl _⟩ (fun z sg H locs hv9 hf9 hS hw => ?_)
  have fT9 : sg (A 8) = yy := hv9.trans (by rw [f_8, hyy])
  have f_x : sg x = sg0 x := (hf9 x (hxA 8 (by decide))).trans f_x
  have f_1 : sg (A 1) = ((2 ^ Q : Nat) : Int) := (hf9 (A 1) (fn_ne hfn (i := 1) (j := 8) (by decide) (by decide) (by decide))).trans f_1
  have f_8 := fT9
  have hof : ∀ a, a ≠ x → (∀ i, i ∈ ([4, 7, 8] : List Nat) → a ≠ A i) → sg a = sg0 a := fun a h1 h2 => (hf9 a (h2 8 (by decide))).trans (hof a h1 h2)
  refine lv_aload_n hx hb dX2_exponential_33 rfl (lv_at hl 1 rfl) ?_
  refine fn_g C i2 hw hfn 5 (by decide) (v := .ref (A 4)) rfl dX2_exponential_34 lk29 ?_
  refine lv_aload_n hx hb dX2_exponential_37 rfl (lv_at hl 1 rfl) ?_
  refine fn_g C i2 hw hfn 1 (by decide) (v := .ref (A 1)) rfl dX2_exponential_38 lk10 ?_
  refine sv_v (As := [.ref (A 1)]) (rest := []) C (v3_become_ _ _ _ _ _ hS (A 4) (A 1) (fn_in hfn (i := 4) (by decide)) (fn_in hfn (i := 1) (by decide))) (cwV 1 hts gX2_exponential_X3_become_ rfl rfl rfl (by decide +kernel) ⟨Nat.le_of_ble_eq_true rfl, Nat.le_of_ble_eq_true rfl⟩) hsz hw (bd_recv C hw (fn_in hfn (i := 4) (by decide))) dX2_exponential_41 rfl hl.1 rfl (Nat.le_of_ble_eq_true rfl) ⟨Nat.le_refl _, Nat.le_refl _⟩ (fun z sg H locs hv9 hf9 hS hw => ?_)
  have fT9 : sg (A 4) = ((2 ^ Q : Nat) : Int) := hv9.trans (by exact f_1)
  have f_x : sg x = sg0 x := (hf9 x (hxA 4 (by decide))).trans f_x
  have f_1 : sg (A 1) = ((2 ^ Q : Nat) : Int) := (hf9 (A 1) (fn_ne hfn (i := 1) (j := 4) (by decide) (by decide) (by decide))).trans f_1
  have f_8 : sg (A 8) = yy := (hf9 (A 8) (fn_ne hfn (i := 8) (j := 4) (by decide) (by decide) (by decide))).trans f_8
  have f_4 := fT9
  have hof : ∀ a, a ≠ x → (∀ i, i ∈ ([4, 7, 8] : List Nat) → a ≠ A i) → sg a = sg0 a := fun a h1 h2 => (hf9 a (h2 4 (by decide))).trans (hof a h1 h2)
  refine lv_aload_n hx hb dX2_exponential_44 rfl (lv_at hl 2 rfl) ?_
  refine lv_aload_n hx hb dX2_exponential_45 rfl (lv_at hl 1 rfl) ?_
  refine fn_g C i2 hw hfn 1 (by decide) (v := .ref (A 1)) rfl dX2_exponential_46 lk10 ?_
  refine sv_v (As := [.ref (A 1)]) (rest := []) C (v3_become_ _ _ _ _ _ hS x (A 1) hmx (fn_in hfn (i := 1) (by decide))) (cwV 1 hts gX2_exponential_X3_become_ rfl rfl rfl (by decide +kernel) ⟨Nat.le_of_ble_eq_true rfl, Nat.le_of_ble_eq_true rfl⟩) hsz hw (bd_recv C hw hmx) dX2_exponential_49 rfl hl.1 rfl (Nat.le_of_ble_eq_true rfl) ⟨Nat.le_refl _, Nat.le_refl _⟩ (fun z sg H locs hv9 hf9 hS hw => ?_)
  have fT9 : sg x = ((2 ^ Q : Nat) : Int) := hv9.trans (by exact f_1)
  have f_1 : sg (A 1) = ((2 ^ Q : Nat) : Int) := (hf9 (A 1) (hxA 1 (by decide)).symm).trans f_1
  have f_8 : sg (A 8) = yy := (hf9 (A 8) (hxA 8 (by decide)).symm).trans f_8
  have f_4 : sg (A 4) = ((2 ^ Q : Nat) : Int) := (hf9 (A 4) (hxA 4 (by decide)).symm).trans f_4
  have f_x := fT9
  have hof : ∀ a, a ≠ x → (∀ i, i ∈ ([4, 7, 8] : List Nat) → a ≠ A i) → sg a = sg0 a := fun a h1 h2 => (hf9 a h1).trans (hof a h1 h2)
  refine lv_iconst (v := nI 1) hx hb dX2_exponential_52 (by decide) ?_
  refine lv_istore_n (lv' := [(3, .int (nI 1)), (2, .int (nI ns)), (0, .ref fo), (1, .ref x)]) hx hb dX2_exponential_53 rfl hl (by decide) rfl (fun ls hl => ?_)
  suffices hloop : ∀ (d j : Nat) (z : Nat → Wh) (sg : Nat → Int) (ls : Array Slot) (H : Heap) (locs : List Loc), j + 1 + d = m0 → sg_S K z sg → sg (A 4) = ((sp_ep ((2 ^ Q : Nat) : Int) yy) j) → sg (A 8) = yy → sg x = sp_sum (sp_ep ((2 ^ Q : Nat) : Int) yy) (j + 1) → (∀ a, a ≠ x → (∀ i, i ∈ ([4, 7, 8] : List Nat) → a ≠ A i) → sg a = sg0 a) → lv_has ls 4 [(3, .int (nI (j + 1))), (2, .int (nI ns)), (0, .ref fo), (1, .ref x)] → bd_W K E0 z (bd_A K sz) s.heap H locs → W p l e (headSpec wsX2_exponential ({ frames := 4, cells := 0, slots := 0, locals := 120 })).room s m [.ref fo, .ref x].toArray below meth c H locs 0 0 (MQ below (va_Qv (fun u => u.1 = E0 ∧ ∃ sg1 : Nat → Int, sg_S K u.2 sg1 ∧ (∃ m, sp_end (sp_ep ((2 ^ Q : Nat) : Int) yy) m ∧ sg1 x = sp_sqr ((2 ^ Q : Nat) : Int) (sp_sum (sp_ep ((2 ^ Q : Nat) : Int) yy) m) ns) ∧ ∀ a, a ≠ x → (∀ i, i ∈ ([4, 7, 8] : List Nat) → a ≠ A i) → sg1 a = sg0 a) (bd_B K) (bd_A K sz)) [.ref fo, .ref x].toArray s 0 0 (bd_A K sz)) (F0 m 54 ls []) from hloop (m0 - 1) 0 z sg ls H locs (by omega) hS f_4 f_8 (f_x.trans (Int.zero_add _).symm) hof (lv_sub hl [0, 1, 2, 3] rfl) hw
  clear hw hl ls hof hS f_4 f_8 f_x f_1
  intro d
  induction d using Nat.strongRecOn with
  | ind d ih =>
    intro j z sg ls H locs hjd hS f_4 f_8 f_x hof hl hw
    have hun : ∀ i, i < j + 1 → ¬ sp_sp ((sp_ep ((2 ^ Q : Nat) : Int) yy) i) := fun i hi => hend.2 i (by omega)
    have hD256 : ((sp_ep ((2 ^ Q : Nat) : Int) yy) 0).natAbs ≤ 2 ^ 256 := by show (((2 ^ Q : Nat) : Int) : Int).natAbs ≤ _; omega
    have hpj : ((sp_ep ((2 ^ Q : Nat) : Int) yy) j).natAbs ≤ 2 ^ 257 := Nat.le_trans (sp_le hH (fun i hi => hun i (by omega))) (Nat.le_trans (Nat.add_le_add_right hD256 1) (by decide +kernel))
    have hpj1 : ((sp_ep ((2 ^ Q : Nat) : Int) yy) (j + 1)).natAbs ≤ 2 ^ 257 := Nat.le_trans (sp_le hH hun) (Nat.le_trans (Nat.add_le_add_right hD256 1) (by decide +kernel))
    have hsum : (sp_sum (sp_ep ((2 ^ Q : Nat) : Int) yy) (j + 1)).natAbs ≤ 2 ^ 257 := Nat.le_trans (sp_suml _ _) (Nat.le_trans (sp_abl hH hun) (Nat.le_trans (Nat.mul_le_mul_left 2 hD256) (by decide +kernel)))
    have hsc : (((sp_ep ((2 ^ Q : Nat) : Int) yy) j) * yy / ((2 ^ Q : Nat) : Int)).natAbs ≤ 2 ^ 257 := by
      rcases sp_mulq (p := ((sp_ep ((2 ^ Q : Nat) : Int) yy) j)) hDp hy4 with q | q
      · rcases q with q | q <;> rw [q] <;> decide +kernel
      · omega
    refine lv_iload_n hx hb dX2_exponential_54 rfl (lv_at hl 0 rfl) ?_
    refine lv_sipush (v := nI 10000) hx hb dX2_exponential_55 (by decide) ?_
    refine bd_ige (h1 := (by omega)) (h2 := (by omega)) (tgt := 110) hx hb dX2_exponential_58 (by decide) (fun hc58 => ?_) (fun hc58 => ?_)
    · exact absurd hc58 (by omega)
    · refine lv_aload_n hx hb dX2_exponential_61 rfl (lv_at hl 2 rfl) ?_
      refine lv_aload_n hx hb dX2_exponential_62 rfl (lv_at hl 2 rfl) ?_
      refine fn_g C i2 hw hfn 5 (by decide) (v := .ref (A 4)) rfl dX2_exponential_63 lk29 ?_
      refine lv_aload_n hx hb dX2_exponential_66 rfl (lv_at hl 2 rfl) ?_
      refine fn_g C i2 hw hfn 9 (by decide) (v := .ref (A 8)) rfl dX2_exponential_67 lk41 ?_
      refine bd_cv (As := [.ref (A 4), .ref (A 8)]) (rest := []) C (f_scale _ _ _ _ _ hfn hS (A 4) (A 8) 9 9 (fn_in hfn (i := 4) (by decide)) (fn_in hfn (i := 8) (by decide)) (fn_ne hfn (i := 4) (j := 7) (by decide) (by decide) (by decide)) (fn_ne hfn (i := 8) (j := 7) (by decide) (by decide) (by decide)) (by rw [f_4]; exact b9 (Nat.le_trans hpj (by decide +kernel))) (by rw [f_8]; exact b9 (Nat.le_trans hyb (by decide +kernel))) (by decide)) (cwV 2 hts gX2_exponential_X2_scale rfl rfl rfl (by decide +kernel) ⟨Nat.le_of_ble_eq_true rfl, Nat.le_of_ble_eq_true rfl⟩) hsz hw (fn_recv C hw hfn) dX2_exponential_70 rfl hl.1 rfl (Nat.le_of_ble_eq_true rfl) ⟨Nat.le_refl _, Nat.le_refl _⟩ (fun E1 z H locs hp hw => ?_)
      obtain ⟨hE9, sg, hS, hv9, hf9⟩ := hp
      rw [show E1 = E0 from hE9] at hw
      have fT9 : sg (A 4) = (((sp_ep ((2 ^ Q : Nat) : Int) yy) j) * yy / ((2 ^ Q : Nat) : Int)) := hv9.trans (by rw [f_4, f_8])
      have f_8 : sg (A 8) = yy := (hf9 (A 8) (fn_ne hfn (i := 8) (j := 4) (by decide) (by decide) (by decide)) (fn_ne hfn (i := 8) (j := 7) (by decide) (by decide) (by decide))).trans f_8
      have f_x : sg x = (sp_sum (sp_ep ((2 ^ Q : Nat) : Int) yy) (j + 1)) := (hf9 x (hxA 4 (by decide)) (hxA 7 (by decide))).trans f_x
      have f_4 := fT9
      have hof : ∀ a, a ≠ x → (∀ i, i ∈ ([4, 7, 8] : List Nat) → a ≠ A i) → sg a = sg0 a := fun a h1 h2 => (hf9 a (h2 4 (by decide)) (h2 7 (by decide))).trans (hof a h1 h2)
      refine lv_aload_n hx hb dX2_exponential_73 rfl (lv_at hl 2 rfl) ?_
      refine fn_g C i2 hw hfn 5 (by decide) (v := .ref (A 4)) rfl dX2_exponential_74 lk29 ?_
      refine lv_iload_n hx hb dX2_exponential_77 rfl (lv_at hl 0 rfl) ?_
      refine sv_i (As := [.int (nI (j + 1))]) (rest := []) C (v3_divide _ _ _ _ _ hS (A 4) (j + 1) (fn_in hfn (i := 4) (by decide)) (by omega) (by omega) (by rw [f_4]; exact b24 (Nat.le_trans (Nat.add_le_add_right hsc 1) (by decide +kernel)))) (cwV 1 hts gX2_exponential_X3_divide rfl rfl rfl (by decide +kernel) ⟨Nat.le_of_ble_eq_true rfl, Nat.le_of_ble_eq_true rfl⟩) hsz hw (bd_recv C hw (fn_in hfn (i := 4) (by decide))) dX2_exponential_78 rfl hl.1 rfl (Nat.le_of_ble_eq_true rfl) ⟨Nat.le_refl _, Nat.le_refl _⟩ (fun z sg H locs hv9 hf9 hS hw => ?_)
      have fT9 : sg (A 4) = ((sp_ep ((2 ^ Q : Nat) : Int) yy) (j + 1)) := hv9.trans (by rw [f_4]; rfl)
      have f_8 : sg (A 8) = yy := (hf9 (A 8) (fn_ne hfn (i := 8) (j := 4) (by decide) (by decide) (by decide))).trans f_8
      have f_x : sg x = (sp_sum (sp_ep ((2 ^ Q : Nat) : Int) yy) (j + 1)) := (hf9 x (hxA 4 (by decide))).trans f_x
      have f_4 := fT9
      have hof : ∀ a, a ≠ x → (∀ i, i ∈ ([4, 7, 8] : List Nat) → a ≠ A i) → sg a = sg0 a := fun a h1 h2 => (hf9 a (h2 4 (by decide))).trans (hof a h1 h2)
      refine lv_pop hx hb dX2_exponential_81 rfl ?_
      refine lv_aload_n hx hb dX2_exponential_82 rfl (lv_at hl 2 rfl) ?_
      refine fn_g C i2 hw hfn 5 (by decide) (v := .ref (A 4)) rfl dX2_exponential_83 lk29 ?_
      refine bd_cip (As := []) (rest := []) C (v3_isSpent _ _ _ _ _ hS (A 4) (fn_in hfn (i := 4) (by decide))) (cwV 0 hts gX2_exponential_X3_isSpent rfl rfl rfl (by decide +kernel) ⟨Nat.le_of_ble_eq_true rfl, Nat.le_of_ble_eq_true rfl⟩) hsz hw (bd_recv C hw (fn_in hfn (i := 4) (by decide))) dX2_exponential_86 rfl hl.1 rfl (Nat.le_of_ble_eq_true rfl) ⟨Nat.le_refl _, Nat.le_refl _⟩ (fun H locs hw => ?_)
      rw [f_4]
      refine lv_if_eq (tgt := 95) hx hb dX2_exponential_89 (by decide) (fun hc => ?_) (fun hc => ?_)
      · have hsp : ¬ sp_sp ((sp_ep ((2 ^ Q : Nat) : Int) yy) (j + 1)) := fun q => by
          rw [if_pos (show ((sp_ep ((2 ^ Q : Nat) : Int) yy) (j + 1)) = 0 ∨ ((sp_ep ((2 ^ Q : Nat) : Int) yy) (j + 1)) = -1 from q)] at hc
          exact absurd hc (by decide +kernel)
        have hjm : j + 1 < m0 := by
          rcases Nat.lt_or_ge (j + 1) m0 with q | q
          · exact q
          · rw [show j + 1 = m0 by omega] at hsp
            exact absurd hend.1 hsp
        refine lv_aload_n hx hb dX2_exponential_95 rfl (lv_at hl 3 rfl) ?_
        refine lv_aload_n hx hb dX2_exponential_96 rfl (lv_at hl 3 rfl) ?_
        refine lv_aload_n hx hb dX2_exponential_97 rfl (lv_at hl 2 rfl) ?_
        refine fn_g C i2 hw hfn 5 (by decide) (v := .ref (A 4)) rfl dX2_exponential_98 lk29 ?_
        refine sv_v (As := [.ref x, .ref (A 4)]) (rest := []) C (v3_sum _ _ _ _ _ hS x x (A 4) hmx hmx (fn_in hfn (i := 4) (by decide)) (by rw [f_x, f_4]; exact b24 (Nat.le_trans (Nat.add_le_add hsum hpj1) (by decide +kernel)))) (cwV 2 hts gX2_exponential_X3_sum rfl rfl rfl (by decide +kernel) ⟨Nat.le_of_ble_eq_true rfl, Nat.le_of_ble_eq_true rfl⟩) hsz hw (bd_recv C hw hmx) dX2_exponential_101 rfl hl.1 rfl (Nat.le_of_ble_eq_true rfl) ⟨Nat.le_refl _, Nat.le_refl _⟩ (fun z sg H locs hv9 hf9 hS hw => ?_)
        have fT9 : sg x = (sp_sum (sp_ep ((2 ^ Q : Nat) : Int) yy) (j + 1 + 1)) := hv9.trans (by rw [f_x, f_4]; rfl)
        have f_4 : sg (A 4) = ((sp_ep ((2 ^ Q : Nat) : Int) yy) (j + 1)) := (hf9 (A 4) (hxA 4 (by decide)).symm).trans f_4
        have f_8 : sg (A 8) = yy := (hf9 (A 8) (hxA 8 (by decide)).symm).trans f_8
        have f_x := fT9
        have hof : ∀ a, a ≠ x → (∀ i, i ∈ ([4, 7, 8] : List Nat) → a ≠ A i) → sg a = sg0 a := fun a h1 h2 => (hf9 a h1).trans (hof a h1 h2)
        refine lv_iinc (v := (nI ((j + 1) + 1))) (lv' := [(3, .int (nI ((j + 1) + 1))), (2, .int (nI ns)), (0, .ref fo), (1, .ref x)]) hx hb dX2_exponential_104 hl (k := 0) rfl (nI_1 _) (by decide) rfl (fun ls hl => ?_)
        refine lv_goto (tgt := 54) hx hb dX2_exponential_107 (by decide) ?_
        exact ih (d - 1) (by omega) (j + 1) z sg ls H locs (by omega) hS f_4 f_8 f_x hof (lv_sub hl [0, 1, 2, 3] rfl) hw
      · have hsp : sp_sp ((sp_ep ((2 ^ Q : Nat) : Int) yy) (j + 1)) := by
          rcases Classical.em (((sp_ep ((2 ^ Q : Nat) : Int) yy) (j + 1)) = 0 ∨ ((sp_ep ((2 ^ Q : Nat) : Int) yy) (j + 1)) = -1) with q | q
          · exact q
          · rw [if_neg q] at hc
            exact absurd rfl hc
        have hjm : j + 1 = m0 := by
          rcases Nat.lt_or_ge (j + 1) m0 with q | q
          · exact absurd hsp (hend.2 _ q)
          · omega
        rw [hjm] at f_x
        refine lv_goto (tgt := 110) hx hb dX2_exponential_92 (by decide) ?_
        refine lv_iconst (v := nI 0) hx hb dX2_exponential_110 (by decide) ?_
        refine lv_istore_n (lv' := [(3, .int (nI 0)), (2, .int (nI ns)), (0, .ref fo), (1, .ref x)]) hx hb dX2_exponential_111 rfl hl (by decide) rfl (fun ls hl => ?_)
        have hnear := sp_near hH hmp hend.2
        have hp1 := sp_p1 (D := ((2 ^ Q : Nat) : Int)) (y := yy) (by omega) hy256
        have hne0 : (sp_ep ((2 ^ Q : Nat) : Int) yy) 0 = ((2 ^ Q : Nat) : Int) := rfl
        rw [hne0] at hnear
        have hS0 : 0 ≤ (sp_sum (sp_ep ((2 ^ Q : Nat) : Int) yy) m0) := by omega
        have hSb : (sp_sum (sp_ep ((2 ^ Q : Nat) : Int) yy) m0) * 65536 ≤ ((2 ^ Q : Nat) : Int) * 66560 := by omega
        have hsq := sp_sqrb hDp hS0 hSb
        suffices hloop : ∀ (d i : Nat) (z : Nat → Wh) (sg : Nat → Int) (ls : Array Slot) (H : Heap) (locs : List Loc), i + d = ns → sg_S K z sg → sg x = sp_sqr ((2 ^ Q : Nat) : Int) (sp_sum (sp_ep ((2 ^ Q : Nat) : Int) yy) m0) i → (∀ a, a ≠ x → (∀ i, i ∈ ([4, 7, 8] : List Nat) → a ≠ A i) → sg a = sg0 a) → lv_has ls 4 [(3, .int (nI i)), (2, .int (nI ns)), (0, .ref fo), (1, .ref x)] → bd_W K E0 z (bd_A K sz) s.heap H locs → W p l e (headSpec wsX2_exponential ({ frames := 4, cells := 0, slots := 0, locals := 120 })).room s m [.ref fo, .ref x].toArray below meth c H locs 0 0 (MQ below (va_Qv (fun u => u.1 = E0 ∧ ∃ sg1 : Nat → Int, sg_S K u.2 sg1 ∧ (∃ m, sp_end (sp_ep ((2 ^ Q : Nat) : Int) yy) m ∧ sg1 x = sp_sqr ((2 ^ Q : Nat) : Int) (sp_sum (sp_ep ((2 ^ Q : Nat) : Int) yy) m) ns) ∧ ∀ a, a ≠ x → (∀ i, i ∈ ([4, 7, 8] : List Nat) → a ≠ A i) → sg1 a = sg0 a) (bd_B K) (bd_A K sz)) [.ref fo, .ref x].toArray s 0 0 (bd_A K sz)) (F0 m 112 ls []) from hloop ns 0 z sg ls H locs (by omega) hS f_x hof (lv_sub hl [0, 1, 2, 3] rfl) hw
        clear hw hl ls hof hS f_4 f_8 f_x
        intro d
        induction d using Nat.strongRecOn with
        | ind d ih2 =>
          intro i z sg ls H locs hid hS f_x hof hl hw
          refine lv_iload_n hx hb dX2_exponential_112 rfl (lv_at hl 0 rfl) ?_
          refine lv_iload_n hx hb dX2_exponential_113 rfl (lv_at hl 1 rfl) ?_
          refine bd_ige (h1 := (by omega)) (h2 := (by omega)) (tgt := 129) hx hb dX2_exponential_114 (by decide) (fun hc114 => ?_) (fun hc114 => ?_)
          · have hin : i = ns := by omega
            rw [hin] at f_x
            exact bd_vret C hr hlk hw dX2_exponential_129 ⟨rfl, sg, hS, ⟨m0, hend, f_x⟩, hof⟩
          · have hbf := sp_bf11 i (by omega)
            have hsi := hsq i
            have hsb : (sp_sqr ((2 ^ Q : Nat) : Int) (sp_sum (sp_ep ((2 ^ Q : Nat) : Int) yy) m0) i).natAbs < 4294967296 ^ 11 := by
              have h1 : ((2 ^ Q : Nat) : Int) * (sp_bf i : Int) ≤ ((2 ^ 256 * 2 ^ 110 : Nat) : Int) := by
                rw [← Int.natCast_mul]
                have := Nat.mul_le_mul hp256 hbf
                omega
              have h2 : (2 : Nat) ^ 256 * 2 ^ 110 < 4294967296 ^ 11 * 65536 := by decide +kernel
              omega
            refine lv_aload_n hx hb dX2_exponential_117 rfl (lv_at hl 2 rfl) ?_
            refine lv_aload_n hx hb dX2_exponential_118 rfl (lv_at hl 3 rfl) ?_
            refine lv_aload_n hx hb dX2_exponential_119 rfl (lv_at hl 3 rfl) ?_
            refine bd_cv (As := [.ref x, .ref x]) (rest := []) C (f_scale _ _ _ _ _ hfn hS x x 11 11 hmx hmx (hxA 7 (by decide)) (hxA 7 (by decide)) (by rw [f_x]; exact hsb) (by rw [f_x]; exact hsb) (by decide)) (cwV 2 hts gX2_exponential_X2_scale rfl rfl rfl (by decide +kernel) ⟨Nat.le_of_ble_eq_true rfl, Nat.le_of_ble_eq_true rfl⟩) hsz hw (fn_recv C hw hfn) dX2_exponential_120 rfl hl.1 rfl (Nat.le_of_ble_eq_true rfl) ⟨Nat.le_refl _, Nat.le_refl _⟩ (fun E1 z H locs hp hw => ?_)
            obtain ⟨hE9, sg, hS, hv9, hf9⟩ := hp
            rw [show E1 = E0 from hE9] at hw
            have fT9 : sg x = (sp_sqr ((2 ^ Q : Nat) : Int) (sp_sum (sp_ep ((2 ^ Q : Nat) : Int) yy) m0) (i + 1)) := hv9.trans (by rw [f_x]; rfl)
            have f_x := fT9
            have hof : ∀ a, a ≠ x → (∀ i, i ∈ ([4, 7, 8] : List Nat) → a ≠ A i) → sg a = sg0 a := fun a h1 h2 => (hf9 a h1 (h2 7 (by decide))).trans (hof a h1 h2)
            refine lv_iinc (v := (nI (i + 1))) (lv' := [(3, .int (nI (i + 1))), (2, .int (nI ns)), (0, .ref fo), (1, .ref x)]) hx hb dX2_exponential_123 hl (k := 0) rfl (nI_1 _) (by decide) rfl (fun ls hl => ?_)
            refine lv_goto (tgt := 112) hx hb dX2_exponential_126 (by decide) ?_
            exact ih2 (d - 1) (by omega) (i + 1) z sg ls H locs (by omega) hS f_x hof (lv_sub hl [0, 1, 2, 3] rfl) hw
