/-! Fine.sumOfRow (laid by wip/gen/m_fine2.py) -/
set_option maxHeartbeats 4000000 in
set_option maxRecDepth 100000 in
/-- Fine.sumOfRow(x, al): HYPER, or ARC where al is 1 -/
theorem f_sumOfRow (l : Launch) (K : Cxt) (E0 : Nat → va_E) (z0 : Nat → Wh) (sz : Nat) {fo Q dv rs bs : Nat} {A : Nat → Nat} (hfn : fn_at K E0 fo Q dv rs bs A) {sg0 : Nat → Int} (hS : sg_S K z0 sg0) (x al : Nat) (hmx : x ∈ bd_N K) (hxA : ∀ i, 4 ≤ i ∧ i ≤ 7 → x ≠ A i) (hal : al = 0 ∨ al = 1) (hb1 : 2 * ((sg0 x).natAbs : Int) ≤ ((2 ^ Q : Nat) : Int)) : Met l yX2_sumOfRow wsX2_sumOfRow ({ frames := 4, cells := 0, slots := 0, locals := 120 }) (va_Pc [.ref fo, .ref x, .int (nI al)] (bd_P K E0 z0 sz)) (va_Qv (fun u => u.1 = E0 ∧ ∃ sg1 : Nat → Int, sg_S K u.2 sg1 ∧ (∃ m, sp_end (sp_pr ((2 ^ Q : Nat) : Int) (sg0 x * sg0 x / ((2 ^ Q : Nat) : Int)) (sg0 x)) m ∧ sg1 x = sp_row al (sp_pr ((2 ^ Q : Nat) : Int) (sg0 x * sg0 x / ((2 ^ Q : Nat) : Int)) (sg0 x)) m) ∧ ∀ a, a ≠ x → (∀ i, 4 ≤ i ∧ i ≤ 7 → a ≠ A i) → sg1 a = sg0 a) (bd_B K) (bd_A K sz)) 0 0 (bd_A K sz) := by
  refine bd_ofW (cc := cX2_sumOfRow) (maxL := 4) (ret := none) (by decide) rfl (Nat.le_of_ble_eq_true rfl) ?_
  intro p e s m below meth c ls C hr hlk hsz hw hl
  have hx := C.1
  have hb := C.2.1
  have hown := C.2.2.2.1
  have hts := C.2.2.2.2.1
  have i2 : ∀ w ∈ wsX20, w ∈ wsX2_sumOfRow := by decide +kernel
  have lk29 : Cond.fieldLink RX2 29 "BallDesk$Fine" "part" "LBallDesk$Whole;" ∈ wsX2_sumOfRow := by decide +kernel
  have lk32 : Cond.fieldLink RX2 32 "BallDesk$Fine" "square" "LBallDesk$Whole;" ∈ wsX2_sumOfRow := by decide +kernel
  have lk35 : Cond.fieldLink RX2 35 "BallDesk$Fine" "term" "LBallDesk$Whole;" ∈ wsX2_sumOfRow := by decide +kernel
  have hoe : dv_fr dv rs bs E0 E0 := dv_rf
  obtain ⟨hQ1, hQ2⟩ := fn_Q hfn
  have hl : lv_has ls 4 [(0, .ref fo), (1, .ref x), (2, .int (nI al))] := hl
  have hp256 : (2 : Nat) ^ Q ≤ 2 ^ 256 := Nat.pow_le_pow_right (by decide) hQ2
  have hDp : (0 : Int) < ((2 ^ Q : Nat) : Int) := by
    have : 0 < 2 ^ Q := Nat.pow_pos (by decide)
    omega
  have hx256 : (sg0 x).natAbs ≤ 2 ^ 256 := by omega
  obtain ⟨hsq0, hsq4⟩ := sp_sq hDp hb1
  have hsqb : (sg0 x * sg0 x / ((2 ^ Q : Nat) : Int)).natAbs ≤ 2 ^ 256 := by omega
  have hH := sp_prH (w := sg0 x) hDp hsq0 hsq4
  obtain ⟨m0, hm0, hend⟩ := sp_ex hH (N := 257) (show (sg0 x).natAbs < 2 ^ 257 from Nat.lt_of_le_of_lt hx256 (by decide +kernel))
  have f_x : sg0 x = sg0 x := rfl
  have hof : ∀ a, a ≠ x → (∀ i, 4 ≤ i ∧ i ≤ 7 → a ≠ A i) → sg0 a = sg0 a := fun _ _ _ => rfl
  refine lv_aload_n hx hb dX2_sumOfRow_0 rfl (lv_at hl 0 rfl) ?_
  refine fn_g C i2 hw hfn 5 (by decide) (v := .ref (A 4)) rfl dX2_sumOfRow_1 lk29 ?_
  refine lv_aload_n hx hb dX2_sumOfRow_4 rfl (lv_at hl 1 rfl) ?_
  refine sv_v (As := [.ref x]) (rest := []) C (v3_become_ _ _ _ _ _ hS (A 4) x (fn_in hfn (i := 4) (by decide)) hmx) (cwV 1 hts gX2_sumOfRow_X3_become_ rfl rfl rfl (by decide +kernel) ⟨Nat.le_of_ble_eq_true rfl, Nat.le_of_ble_eq_true rfl⟩) hsz hw (bd_recv C hw (fn_in hfn (i := 4) (by decide))) dX2_sumOfRow_5 rfl hl.1 rfl (Nat.le_of_ble_eq_true rfl) ⟨Nat.le_refl _, Nat.le_refl _⟩ (fun z sg H locs hv9 hf9 hS hw => ?_)
  have fT9 : sg (A 4) = sg0 x := hv9.trans (by exact f_x)
  have f_x : sg x = sg0 x := (hf9 x (hxA 4 (by decide))).trans f_x
  have f_4 := fT9
  have hof : ∀ a, a ≠ x → (∀ i, 4 ≤ i ∧ i ≤ 7 → a ≠ A i) → sg a = sg0 a := fun a h1 h2 => (hf9 a (h2 4 (by decide))).trans (hof a h1 h2)
  refine lv_aload_n hx hb dX2_sumOfRow_8 rfl (lv_at hl 0 rfl) ?_
  refine fn_g C i2 hw hfn 6 (by decide) (v := .ref (A 5)) rfl dX2_sumOfRow_9 lk32 ?_
  refine lv_aload_n hx hb dX2_sumOfRow_12 rfl (lv_at hl 1 rfl) ?_
  refine sv_v (As := [.ref x]) (rest := []) C (v3_become_ _ _ _ _ _ hS (A 5) x (fn_in hfn (i := 5) (by decide)) hmx) (cwV 1 hts gX2_sumOfRow_X3_become_ rfl rfl rfl (by decide +kernel) ⟨Nat.le_of_ble_eq_true rfl, Nat.le_of_ble_eq_true rfl⟩) hsz hw (bd_recv C hw (fn_in hfn (i := 5) (by decide))) dX2_sumOfRow_13 rfl hl.1 rfl (Nat.le_of_ble_eq_true rfl) ⟨Nat.le_refl _, Nat.le_refl _⟩ (fun z sg H locs hv9 hf9 hS hw => ?_)
  have fT9 : sg (A 5) = sg0 x := hv9.trans (by exact f_x)
  have f_x : sg x = sg0 x := (hf9 x (hxA 5 (by decide))).trans f_x
  have f_4 : sg (A 4) = sg0 x := (hf9 (A 4) (fn_ne hfn (i := 4) (j := 5) (by decide) (by decide) (by decide))).trans f_4
  have f_5 := fT9
  have hof : ∀ a, a ≠ x → (∀ i, 4 ≤ i ∧ i ≤ 7 → a ≠ A i) → sg a = sg0 a := fun a h1 h2 => (hf9 a (h2 5 (by decide))).trans (hof a h1 h2)
  refine lv_aload_n hx hb dX2_sumOfRow_16 rfl (lv_at hl 0 rfl) ?_
  refine lv_aload_n hx hb dX2_sumOfRow_17 rfl (lv_at hl 0 rfl) ?_
  refine fn_g C i2 hw hfn 6 (by decide) (v := .ref (A 5)) rfl dX2_sumOfRow_18 lk32 ?_
  refine lv_aload_n hx hb dX2_sumOfRow_21 rfl (lv_at hl 1 rfl) ?_
  refine bd_cv (As := [.ref (A 5), .ref x]) (rest := []) C (f_scale _ _ _ _ _ hfn hS (A 5) x 9 9 (fn_in hfn (i := 5) (by decide)) hmx (fn_ne hfn (i := 5) (j := 7) (by decide) (by decide) (by decide)) (hxA 7 (by decide)) (by rw [f_5]; exact b9 (Nat.le_trans hx256 (by decide +kernel))) (by rw [f_x]; exact b9 (Nat.le_trans hx256 (by decide +kernel))) (by decide)) (cwV 2 hts gX2_sumOfRow_X2_scale rfl rfl rfl (by decide +kernel) ⟨Nat.le_of_ble_eq_true rfl, Nat.le_of_ble_eq_true rfl⟩) hsz hw (fn_recv C hw hfn) dX2_sumOfRow_22 rfl hl.1 rfl (Nat.le_of_ble_eq_true rfl) ⟨Nat.le_refl _, Nat.le_refl _⟩ (fun E1 z H locs hp hw => ?_)
  obtain ⟨hE9, sg, hS, hv9, hf9⟩ := hp
  rw [show E1 = E0 from hE9] at hw
  have fT9 : sg (A 5) = (sg0 x * sg0 x / ((2 ^ Q : Nat) : Int)) := hv9.trans (by rw [f_5, f_x])
  have f_x : sg x = sg0 x := (hf9 x (hxA 5 (by decide)) (hxA 7 (by decide))).trans f_x
  have f_4 : sg (A 4) = sg0 x := (hf9 (A 4) (fn_ne hfn (i := 4) (j := 5) (by decide) (by decide) (by decide)) (fn_ne hfn (i := 4) (j := 7) (by decide) (by decide) (by decide))).trans f_4
  have f_5 := fT9
  have hof : ∀ a, a ≠ x → (∀ i, 4 ≤ i ∧ i ≤ 7 → a ≠ A i) → sg a = sg0 a := fun a h1 h2 => (hf9 a (h2 5 (by decide)) (h2 7 (by decide))).trans (hof a h1 h2)
  refine lv_aload_n hx hb dX2_sumOfRow_25 rfl (lv_at hl 1 rfl) ?_
  refine sv_v (As := []) (rest := []) C (v3_clear _ _ _ _ _ hS x hmx) (cwV 0 hts gX2_sumOfRow_X3_clear rfl rfl rfl (by decide +kernel) ⟨Nat.le_of_ble_eq_true rfl, Nat.le_of_ble_eq_true rfl⟩) hsz hw (bd_recv C hw hmx) dX2_sumOfRow_26 rfl hl.1 rfl (Nat.le_of_ble_eq_true rfl) ⟨Nat.le_refl _, Nat.le_refl _⟩ (fun z sg H locs hv9 hf9 hS hw => ?_)
  have fT9 : sg x = 0 := hv9.trans (by rfl)
  have f_4 : sg (A 4) = sg0 x := (hf9 (A 4) (hxA 4 (by decide)).symm).trans f_4
  have f_5 : sg (A 5) = (sg0 x * sg0 x / ((2 ^ Q : Nat) : Int)) := (hf9 (A 5) (hxA 5 (by decide)).symm).trans f_5
  have f_x := fT9
  have hof : ∀ a, a ≠ x → (∀ i, 4 ≤ i ∧ i ≤ 7 → a ≠ A i) → sg a = sg0 a := fun a h1 h2 => (hf9 a h1).trans (hof a h1 h2)
  refine lv_iconst (v := nI 0) hx hb dX2_sumOfRow_29 (by decide) ?_
  refine lv_istore_n (lv' := [(3, .int (nI 0)), (0, .ref fo), (1, .ref x), (2, .int (nI al))]) hx hb dX2_sumOfRow_30 rfl hl (by decide) rfl (fun ls hl => ?_)
  suffices hloop : ∀ (d j : Nat) (z : Nat → Wh) (sg : Nat → Int) (ls : Array Slot) (H : Heap) (locs : List Loc), j + d = m0 → sg_S K z sg → sg (A 4) = ((sp_pr ((2 ^ Q : Nat) : Int) (sg0 x * sg0 x / ((2 ^ Q : Nat) : Int)) (sg0 x)) j) → sg (A 5) = (sg0 x * sg0 x / ((2 ^ Q : Nat) : Int)) → sg x = sp_row al (sp_pr ((2 ^ Q : Nat) : Int) (sg0 x * sg0 x / ((2 ^ Q : Nat) : Int)) (sg0 x)) j → (∀ a, a ≠ x → (∀ i, 4 ≤ i ∧ i ≤ 7 → a ≠ A i) → sg a = sg0 a) → lv_has ls 4 [(3, .int (nI j)), (0, .ref fo), (1, .ref x), (2, .int (nI al))] → bd_W K E0 z (bd_A K sz) s.heap H locs → W p l e (headSpec wsX2_sumOfRow ({ frames := 4, cells := 0, slots := 0, locals := 120 })).room s m [.ref fo, .ref x, .int (nI al)].toArray below meth c H locs 0 0 (MQ below (va_Qv (fun u => u.1 = E0 ∧ ∃ sg1 : Nat → Int, sg_S K u.2 sg1 ∧ (∃ m, sp_end (sp_pr ((2 ^ Q : Nat) : Int) (sg0 x * sg0 x / ((2 ^ Q : Nat) : Int)) (sg0 x)) m ∧ sg1 x = sp_row al (sp_pr ((2 ^ Q : Nat) : Int) (sg0 x * sg0 x / ((2 ^ Q : Nat) : Int)) (sg0 x)) m) ∧ ∀ a, a ≠ x → (∀ i, 4 ≤ i ∧ i ≤ 7 → a ≠ A i) → sg1 a = sg0 a) (bd_B K) (bd_A K sz)) [.ref fo, .ref x, .int (nI al)].toArray s 0 0 (bd_A K sz)) (F0 m 31 ls []) from hloop m0 0 z sg ls H locs (by omega) hS f_4 f_5 f_x hof (lv_sub hl [0, 1, 2, 3] rfl) hw
  clear hw hl ls hof hS f_4 f_5 f_x
  intro d
  induction d using Nat.strongRecOn with
  | ind d ih =>
    intro j z sg ls H locs hjd hS f_4 f_5 f_x hof hl hw
    have hun : ∀ i, i < j → ¬ sp_sp ((sp_pr ((2 ^ Q : Nat) : Int) (sg0 x * sg0 x / ((2 ^ Q : Nat) : Int)) (sg0 x)) i) := fun i hi => hend.2 i (by omega)
    have hpj : ((sp_pr ((2 ^ Q : Nat) : Int) (sg0 x * sg0 x / ((2 ^ Q : Nat) : Int)) (sg0 x)) j).natAbs ≤ 2 ^ 257 := Nat.le_trans (sp_le hH hun) (Nat.le_trans (Nat.add_le_add_right hx256 1) (by decide +kernel))
    have hrow : (sp_row al (sp_pr ((2 ^ Q : Nat) : Int) (sg0 x * sg0 x / ((2 ^ Q : Nat) : Int)) (sg0 x)) j).natAbs ≤ 2 ^ 257 := Nat.le_trans (sp_rowl al _ j) (Nat.le_trans (sp_abl hH hun) (Nat.le_trans (Nat.mul_le_mul_left 2 hx256) (by decide +kernel)))
    refine lv_iload_n hx hb dX2_sumOfRow_31 rfl (lv_at hl 0 rfl) ?_
    refine lv_sipush (v := nI 10000) hx hb dX2_sumOfRow_32 (by decide) ?_
    refine bd_ige (h1 := (by omega)) (h2 := (by omega)) (tgt := 122) hx hb dX2_sumOfRow_35 (by decide) (fun hc35 => ?_) (fun hc35 => ?_)
    · exact absurd hc35 (by omega)
    · refine lv_aload_n hx hb dX2_sumOfRow_38 rfl (lv_at hl 1 rfl) ?_
      refine fn_g C i2 hw hfn 5 (by decide) (v := .ref (A 4)) rfl dX2_sumOfRow_39 lk29 ?_
      refine bd_cip (As := []) (rest := []) C (v3_isSpent _ _ _ _ _ hS (A 4) (fn_in hfn (i := 4) (by decide))) (cwV 0 hts gX2_sumOfRow_X3_isSpent rfl rfl rfl (by decide +kernel) ⟨Nat.le_of_ble_eq_true rfl, Nat.le_of_ble_eq_true rfl⟩) hsz hw (bd_recv C hw (fn_in hfn (i := 4) (by decide))) dX2_sumOfRow_42 rfl hl.1 rfl (Nat.le_of_ble_eq_true rfl) ⟨Nat.le_refl _, Nat.le_refl _⟩ (fun H locs hw => ?_)
      rw [f_4]
      refine lv_if_ne (tgt := 122) hx hb dX2_sumOfRow_45 (by decide) (fun hc => ?_) (fun hc => ?_)
      · have hsp : sp_sp ((sp_pr ((2 ^ Q : Nat) : Int) (sg0 x * sg0 x / ((2 ^ Q : Nat) : Int)) (sg0 x)) j) := by
          rcases Classical.em (((sp_pr ((2 ^ Q : Nat) : Int) (sg0 x * sg0 x / ((2 ^ Q : Nat) : Int)) (sg0 x)) j) = 0 ∨ ((sp_pr ((2 ^ Q : Nat) : Int) (sg0 x * sg0 x / ((2 ^ Q : Nat) : Int)) (sg0 x)) j) = -1) with q | q
          · exact q
          · rw [if_neg q] at hc
            exact absurd rfl hc
        have hm : j = m0 := by
          rcases Nat.lt_or_ge j m0 with q | q
          · exact absurd hsp (hend.2 j q)
          · omega
        rw [hm] at f_x
        exact bd_vret C hr hlk hw dX2_sumOfRow_122 ⟨rfl, sg, hS, ⟨m0, hend, f_x⟩, hof⟩
      · have hsp : ¬ sp_sp ((sp_pr ((2 ^ Q : Nat) : Int) (sg0 x * sg0 x / ((2 ^ Q : Nat) : Int)) (sg0 x)) j) := fun q => by
          rw [if_pos (show ((sp_pr ((2 ^ Q : Nat) : Int) (sg0 x * sg0 x / ((2 ^ Q : Nat) : Int)) (sg0 x)) j) = 0 ∨ ((sp_pr ((2 ^ Q : Nat) : Int) (sg0 x * sg0 x / ((2 ^ Q : Nat) : Int)) (sg0 x)) j) = -1 from q)] at hc
          exact absurd hc (by decide +kernel)
        have hjm : j < m0 := by
          rcases Nat.lt_or_ge j m0 with q | q
          · exact q
          · rw [show j = m0 by omega] at hsp
            exact absurd hend.1 hsp
        refine lv_aload_n hx hb dX2_sumOfRow_48 rfl (lv_at hl 1 rfl) ?_
        refine fn_g C i2 hw hfn 7 (by decide) (v := .ref (A 6)) rfl dX2_sumOfRow_49 lk35 ?_
        refine lv_aload_n hx hb dX2_sumOfRow_52 rfl (lv_at hl 1 rfl) ?_
        refine fn_g C i2 hw hfn 5 (by decide) (v := .ref (A 4)) rfl dX2_sumOfRow_53 lk29 ?_
        refine sv_v (As := [.ref (A 4)]) (rest := []) C (v3_become_ _ _ _ _ _ hS (A 6) (A 4) (fn_in hfn (i := 6) (by decide)) (fn_in hfn (i := 4) (by decide))) (cwV 1 hts gX2_sumOfRow_X3_become_ rfl rfl rfl (by decide +kernel) ⟨Nat.le_of_ble_eq_true rfl, Nat.le_of_ble_eq_true rfl⟩) hsz hw (bd_recv C hw (fn_in hfn (i := 6) (by decide))) dX2_sumOfRow_56 rfl hl.1 rfl (Nat.le_of_ble_eq_true rfl) ⟨Nat.le_refl _, Nat.le_refl _⟩ (fun z sg H locs hv9 hf9 hS hw => ?_)
        have fT9 : sg (A 6) = ((sp_pr ((2 ^ Q : Nat) : Int) (sg0 x * sg0 x / ((2 ^ Q : Nat) : Int)) (sg0 x)) j) := hv9.trans (by exact f_4)
        have f_4 : sg (A 4) = ((sp_pr ((2 ^ Q : Nat) : Int) (sg0 x * sg0 x / ((2 ^ Q : Nat) : Int)) (sg0 x)) j) := (hf9 (A 4) (fn_ne hfn (i := 4) (j := 6) (by decide) (by decide) (by decide))).trans f_4
        have f_5 : sg (A 5) = (sg0 x * sg0 x / ((2 ^ Q : Nat) : Int)) := (hf9 (A 5) (fn_ne hfn (i := 5) (j := 6) (by decide) (by decide) (by decide))).trans f_5
        have f_x : sg x = (sp_row al (sp_pr ((2 ^ Q : Nat) : Int) (sg0 x * sg0 x / ((2 ^ Q : Nat) : Int)) (sg0 x)) j) := (hf9 x (hxA 6 (by decide))).trans f_x
        have f_6 := fT9
        have hof : ∀ a, a ≠ x → (∀ i, 4 ≤ i ∧ i ≤ 7 → a ≠ A i) → sg a = sg0 a := fun a h1 h2 => (hf9 a (h2 6 (by decide))).trans (hof a h1 h2)
        refine lv_aload_n hx hb dX2_sumOfRow_59 rfl (lv_at hl 1 rfl) ?_
        refine fn_g C i2 hw hfn 7 (by decide) (v := .ref (A 6)) rfl dX2_sumOfRow_60 lk35 ?_
        refine lv_iconst (v := nI 2) hx hb dX2_sumOfRow_63 (by decide) ?_
        refine lv_iload_n hx hb dX2_sumOfRow_64 rfl (lv_at hl 0 rfl) ?_
        refine bd_imul (v := (nI (2 * j))) hx hb dX2_sumOfRow_65 (pk_mul _ _) ?_
        refine lv_iconst (v := nI 1) hx hb dX2_sumOfRow_66 (by decide) ?_
        refine bd_iadd (v := (nI (2 * j + 1))) hx hb dX2_sumOfRow_67 (nI_add _ _) ?_
        refine sv_i (As := [.int (nI (2 * j + 1))]) (rest := []) C (v3_divide _ _ _ _ _ hS (A 6) (2 * j + 1) (fn_in hfn (i := 6) (by decide)) (by omega) (by omega) (by rw [f_6]; exact b24 (Nat.le_trans (Nat.add_le_add_right hpj 1) (by decide +kernel)))) (cwV 1 hts gX2_sumOfRow_X3_divide rfl rfl rfl (by decide +kernel) ⟨Nat.le_of_ble_eq_true rfl, Nat.le_of_ble_eq_true rfl⟩) hsz hw (bd_recv C hw (fn_in hfn (i := 6) (by decide))) dX2_sumOfRow_68 rfl hl.1 rfl (Nat.le_of_ble_eq_true rfl) ⟨Nat.le_refl _, Nat.le_refl _⟩ (fun z sg H locs hv9 hf9 hS hw => ?_)
        have fT9 : sg (A 6) = (((sp_pr ((2 ^ Q : Nat) : Int) (sg0 x * sg0 x / ((2 ^ Q : Nat) : Int)) (sg0 x)) j) / ((2 * j + 1 : Nat) : Int)) := hv9.trans (by rw [f_6])
        have f_4 : sg (A 4) = ((sp_pr ((2 ^ Q : Nat) : Int) (sg0 x * sg0 x / ((2 ^ Q : Nat) : Int)) (sg0 x)) j) := (hf9 (A 4) (fn_ne hfn (i := 4) (j := 6) (by decide) (by decide) (by decide))).trans f_4
        have f_5 : sg (A 5) = (sg0 x * sg0 x / ((2 ^ Q : Nat) : Int)) := (hf9 (A 5) (fn_ne hfn (i := 5) (j := 6) (by decide) (by decide) (by decide))).trans f_5
        have f_x : sg x = (sp_row al (sp_pr ((2 ^ Q : Nat) : Int) (sg0 x * sg0 x / ((2 ^ Q : Nat) : Int)) (sg0 x)) j) := (hf9 x (hxA 6 (by decide))).trans f_x
        have f_6 := fT9
        have hof : ∀ a, a ≠ x → (∀ i, 4 ≤ i ∧ i ≤ 7 → a ≠ A i) → sg a = sg0 a := fun a h1 h2 => (hf9 a (h2 6 (by decide))).trans (hof a h1 h2)
        have htm : (((sp_pr ((2 ^ Q : Nat) : Int) (sg0 x * sg0 x / ((2 ^ Q : Nat) : Int)) (sg0 x)) j) / ((2 * j + 1 : Nat) : Int)).natAbs ≤ 2 ^ 257 := Nat.le_trans (fl_abs (by omega)) hpj
        refine lv_pop hx hb dX2_sumOfRow_71 rfl ?_
        refine lv_iload_n hx hb dX2_sumOfRow_72 rfl (lv_at hl 3 rfl) ?_
        refine bd_zeq (h1 := (by omega)) (tgt := 95) hx hb dX2_sumOfRow_73 (by decide) (fun hc73 => ?_) (fun hc73 => ?_)
        · refine lv_aload_n hx hb dX2_sumOfRow_95 rfl (lv_at hl 2 rfl) ?_
          refine lv_aload_n hx hb dX2_sumOfRow_96 rfl (lv_at hl 2 rfl) ?_
          refine lv_aload_n hx hb dX2_sumOfRow_97 rfl (lv_at hl 1 rfl) ?_
          refine fn_g C i2 hw hfn 7 (by decide) (v := .ref (A 6)) rfl dX2_sumOfRow_98 lk35 ?_
          refine sv_v (As := [.ref x, .ref (A 6)]) (rest := []) C (v3_sum _ _ _ _ _ hS x x (A 6) hmx hmx (fn_in hfn (i := 6) (by decide)) (by rw [f_x, f_6]; exact b24 (Nat.le_trans (Nat.add_le_add hrow htm) (by decide +kernel)))) (cwV 2 hts gX2_sumOfRow_X3_sum rfl rfl rfl (by decide +kernel) ⟨Nat.le_of_ble_eq_true rfl, Nat.le_of_ble_eq_true rfl⟩) hsz hw (bd_recv C hw hmx) dX2_sumOfRow_101 rfl hl.1 rfl (Nat.le_of_ble_eq_true rfl) ⟨Nat.le_refl _, Nat.le_refl _⟩ (fun z sg H locs hv9 hf9 hS hw => ?_)
          have fT9 : sg x = (sp_row al (sp_pr ((2 ^ Q : Nat) : Int) (sg0 x * sg0 x / ((2 ^ Q : Nat) : Int)) (sg0 x)) (j + 1)) := hv9.trans (by rw [f_x, f_6]; exact (if_neg (fun q => absurd q.1 (by omega))).symm)
          have f_4 : sg (A 4) = ((sp_pr ((2 ^ Q : Nat) : Int) (sg0 x * sg0 x / ((2 ^ Q : Nat) : Int)) (sg0 x)) j) := (hf9 (A 4) (hxA 4 (by decide)).symm).trans f_4
          have f_5 : sg (A 5) = (sg0 x * sg0 x / ((2 ^ Q : Nat) : Int)) := (hf9 (A 5) (hxA 5 (by decide)).symm).trans f_5
          have f_6 : sg (A 6) = (((sp_pr ((2 ^ Q : Nat) : Int) (sg0 x * sg0 x / ((2 ^ Q : Nat) : Int)) (sg0 x)) j) / ((2 * j + 1 : Nat) : Int)) := (hf9 (A 6) (hxA 6 (by decide)).symm).trans f_6
          have f_x := fT9
          have hof : ∀ a, a ≠ x → (∀ i, 4 ≤ i ∧ i ≤ 7 → a ≠ A i) → sg a = sg0 a := fun a h1 h2 => (hf9 a h1).trans (hof a h1 h2)
          refine lv_aload_n hx hb dX2_sumOfRow_104 rfl (lv_at hl 1 rfl) ?_
          refine lv_aload_n hx hb dX2_sumOfRow_105 rfl (lv_at hl 1 rfl) ?_
          refine fn_g C i2 hw hfn 5 (by decide) (v := .ref (A 4)) rfl dX2_sumOfRow_106 lk29 ?_
          refine lv_aload_n hx hb dX2_sumOfRow_109 rfl (lv_at hl 1 rfl) ?_
          refine fn_g C i2 hw hfn 6 (by decide) (v := .ref (A 5)) rfl dX2_sumOfRow_110 lk32 ?_
          refine bd_cv (As := [.ref (A 4), .ref (A 5)]) (rest := []) C (f_scale _ _ _ _ _ hfn hS (A 4) (A 5) 9 9 (fn_in hfn (i := 4) (by decide)) (fn_in hfn (i := 5) (by decide)) (fn_ne hfn (i := 4) (j := 7) (by decide) (by decide) (by decide)) (fn_ne hfn (i := 5) (j := 7) (by decide) (by decide) (by decide)) (by rw [f_4]; exact b9 (Nat.le_trans hpj (by decide +kernel))) (by rw [f_5]; exact b9 (Nat.le_trans hsqb (by decide +kernel))) (by decide)) (cwV 2 hts gX2_sumOfRow_X2_scale rfl rfl rfl (by decide +kernel) ⟨Nat.le_of_ble_eq_true rfl, Nat.le_of_ble_eq_true rfl⟩) hsz hw (fn_recv C hw hfn) dX2_sumOfRow_113 rfl hl.1 rfl (Nat.le_of_ble_eq_true rfl) ⟨Nat.le_refl _, Nat.le_refl _⟩ (fun E1 z H locs hp hw => ?_)
          obtain ⟨hE9, sg, hS, hv9, hf9⟩ := hp
          rw [show E1 = E0 from hE9] at hw
          have fT9 : sg (A 4) = ((sp_pr ((2 ^ Q : Nat) : Int) (sg0 x * sg0 x / ((2 ^ Q : Nat) : Int)) (sg0 x)) (j + 1)) := hv9.trans (by rw [f_4, f_5]; rfl)
          have f_5 : sg (A 5) = (sg0 x * sg0 x / ((2 ^ Q : Nat) : Int)) := (hf9 (A 5) (fn_ne hfn (i := 5) (j := 4) (by decide) (by decide) (by decide)) (fn_ne hfn (i := 5) (j := 7) (by decide) (by decide) (by decide))).trans f_5
          have f_x : sg x = (sp_row al (sp_pr ((2 ^ Q : Nat) : Int) (sg0 x * sg0 x / ((2 ^ Q : Nat) : Int)) (sg0 x)) (j + 1)) := (hf9 x (hxA 4 (by decide)) (hxA 7 (by decide))).trans f_x
          have f_6 : sg (A 6) = (((sp_pr ((2 ^ Q : Nat) : Int) (sg0 x * sg0 x / ((2 ^ Q : Nat) : Int)) (sg0 x)) j) / ((2 * j + 1 : Nat) : Int)) := (hf9 (A 6) (fn_ne hfn (i := 6) (j := 4) (by decide) (by decide) (by decide)) (fn_ne hfn (i := 6) (j := 7) (by decide) (by decide) (by decide))).trans f_6
          have f_4 := fT9
          have hof : ∀ a, a ≠ x → (∀ i, 4 ≤ i ∧ i ≤ 7 → a ≠ A i) → sg a = sg0 a := fun a h1 h2 => (hf9 a (h2 4 (by decide)) (h2 7 (by decide))).trans (hof a h1 h2)
          refine lv_iinc (v := (nI (j + 1))) (lv' := [(3, .int (nI (j + 1))), (0, .ref fo), (1, .ref x), (2, .int (nI al))]) hx hb dX2_sumOfRow_116 hl (k := 0) rfl (nI_1 _) (by decide) rfl (fun ls hl => ?_)
          refine lv_goto (tgt := 31) hx hb dX2_sumOfRow_119 (by decide) ?_
          exact ih (d - 1) (by omega) (j + 1) z sg ls H locs (by omega) hS f_4 f_5 f_x hof (lv_sub hl [0, 1, 2, 3] rfl) hw
        · refine lv_iload_n hx hb dX2_sumOfRow_76 rfl (lv_at hl 0 rfl) ?_
          refine lv_iconst (v := nI 2) hx hb dX2_sumOfRow_77 (by decide) ?_
          refine bd_irem (v := (nI (j % 2))) hx hb dX2_sumOfRow_78 (by decide +kernel) (pk_rem (by omega) (by decide) (by decide)) ?_
          refine lv_iconst (v := nI 1) hx hb dX2_sumOfRow_79 (by decide) ?_
          refine bd_ine (h1 := (by omega)) (h2 := (by omega)) (tgt := 95) hx hb dX2_sumOfRow_80 (by decide) (fun hc80 => ?_) (fun hc80 => ?_)
          · refine lv_aload_n hx hb dX2_sumOfRow_95 rfl (lv_at hl 2 rfl) ?_
            refine lv_aload_n hx hb dX2_sumOfRow_96 rfl (lv_at hl 2 rfl) ?_
            refine lv_aload_n hx hb dX2_sumOfRow_97 rfl (lv_at hl 1 rfl) ?_
            refine fn_g C i2 hw hfn 7 (by decide) (v := .ref (A 6)) rfl dX2_sumOfRow_98 lk35 ?_
            refine sv_v (As := [.ref x, .ref (A 6)]) (rest := []) C (v3_sum _ _ _ _ _ hS x x (A 6) hmx hmx (fn_in hfn (i := 6) (by decide)) (by rw [f_x, f_6]; exact b24 (Nat.le_trans (Nat.add_le_add hrow htm) (by decide +kernel)))) (cwV 2 hts gX2_sumOfRow_X3_sum rfl rfl rfl (by decide +kernel) ⟨Nat.le_of_ble_eq_true rfl, Nat.le_of_ble_eq_true rfl⟩) hsz hw (bd_recv C hw hmx) dX2_sumOfRow_101 rfl hl.1 rfl (Nat.le_of_ble_eq_true rfl) ⟨Nat.le_refl _, Nat.le_refl _⟩ (fun z sg H locs hv9 hf9 hS hw => ?_)
            have fT9 : sg x = (sp_row al (sp_pr ((2 ^ Q : Nat) : Int) (sg0 x * sg0 x / ((2 ^ Q : Nat) : Int)) (sg0 x)) (j + 1)) := hv9.trans (by rw [f_x, f_6]; exact (if_neg (fun q => hc80 q.2)).symm)
            have f_4 : sg (A 4) = ((sp_pr ((2 ^ Q : Nat) : Int) (sg0 x * sg0 x / ((2 ^ Q : Nat) : Int)) (sg0 x)) j) := (hf9 (A 4) (hxA 4 (by decide)).symm).trans f_4
            have f_5 : sg (A 5) = (sg0 x * sg0 x / ((2 ^ Q : Nat) : Int)) := (hf9 (A 5) (hxA 5 (by decide)).symm).trans f_5
            have f_6 : sg (A 6) = (((sp_pr ((2 ^ Q : Nat) : Int) (sg0 x * sg0 x / ((2 ^ Q : Nat) : Int)) (sg0 x)) j) / ((2 * j + 1 : Nat) : Int)) := (hf9 (A 6) (hxA 6 (by decide)).symm).trans f_6
            have f_x := fT9
            have hof : ∀ a, a ≠ x → (∀ i, 4 ≤ i ∧ i ≤ 7 → a ≠ A i) → sg a = sg0 a := fun a h1 h2 => (hf9 a h1).trans (hof a h1 h2)
            refine lv_aload_n hx hb dX2_sumOfRow_104 rfl (lv_at hl 1 rfl) ?_
            refine lv_aload_n hx hb dX2_sumOfRow_105 rfl (lv_at hl 1 rfl) ?_
            refine fn_g C i2 hw hfn 5 (by decide) (v := .ref (A 4)) rfl dX2_sumOfRow_106 lk29 ?_
            refine lv_aload_n hx hb dX2_sumOfRow_109 rfl (lv_at hl 1 rfl) ?_
            refine fn_g C i2 hw hfn 6 (by decide) (v := .ref (A 5)) rfl dX2_sumOfRow_110 lk32 ?_
            refine bd_cv (As := [.ref (A 4), .ref (A 5)]) (rest := []) C (f_scale _ _ _ _ _ hfn hS (A 4) (A 5) 9 9 (fn_in hfn (i := 4) (by decide)) (fn_in hfn (i := 5) (by decide)) (fn_ne hfn (i := 4) (j := 7) (by decide) (by decide) (by decide)) (fn_ne hfn (i := 5) (j := 7) (by decide) (by decide) (by decide)) (by rw [f_4]; exact b9 (Nat.le_trans hpj (by decide +kernel))) (by rw [f_5]; exact b9 (Nat.le_trans hsqb (by decide +kernel))) (by decide)) (cwV 2 hts gX2_sumOfRow_X2_scale rfl rfl rfl (by decide +kernel) ⟨Nat.le_of_ble_eq_true rfl, Nat.le_of_ble_eq_true rfl⟩) hsz hw (fn_recv C hw hfn) dX2_sumOfRow_113 rfl hl.1 rfl (Nat.le_of_ble_eq_true rfl) ⟨Nat.le_refl _, Nat.le_refl _⟩ (fun E1 z H locs hp hw => ?_)
            obtain ⟨hE9, sg, hS, hv9, hf9⟩ := hp
            rw [show E1 = E0 from hE9] at hw
            have fT9 : sg (A 4) = ((sp_pr ((2 ^ Q : Nat) : Int) (sg0 x * sg0 x / ((2 ^ Q : Nat) : Int)) (sg0 x)) (j + 1)) := hv9.trans (by rw [f_4, f_5]; rfl)
            have f_5 : sg (A 5) = (sg0 x * sg0 x / ((2 ^ Q : Nat) : Int)) := (hf9 (A 5) (fn_ne hfn (i := 5) (j := 4) (by decide) (by decide) (by decide)) (fn_ne hfn (i := 5) (j := 7) (by decide) (by decide) (by decide))).trans f_5
            have f_x : sg x = (sp_row al (sp_pr ((2 ^ Q : Nat) : Int) (sg0 x * sg0 x / ((2 ^ Q : Nat) : Int)) (sg0 x)) (j + 1)) := (hf9 x (hxA 4 (by decide)) (hxA 7 (by decide))).trans f_x
            have f_6 : sg (A 6) = (((sp_pr ((2 ^ Q : Nat) : Int) (sg0 x * sg0 x / ((2 ^ Q : Nat) : Int)) (sg0 x)) j) / ((2 * j + 1 : Nat) : Int)) := (hf9 (A 6) (fn_ne hfn (i := 6) (j := 4) (by decide) (by decide) (by decide)) (fn_ne hfn (i := 6) (j := 7) (by decide) (by decide) (by decide))).trans f_6
            have f_4 := fT9
            have hof : ∀ a, a ≠ x → (∀ i, 4 ≤ i ∧ i ≤ 7 → a ≠ A i) → sg a = sg0 a := fun a h1 h2 => (hf9 a (h2 4 (by decide)) (h2 7 (by decide))).trans (hof a h1 h2)
            refine lv_iinc (v := (nI (j + 1))) (lv' := [(3, .int (nI (j + 1))), (0, .ref fo), (1, .ref x), (2, .int (nI al))]) hx hb dX2_sumOfRow_116 hl (k := 0) rfl (nI_1 _) (by decide) rfl (fun ls hl => ?_)
            refine lv_goto (tgt := 31) hx hb dX2_sumOfRow_119 (by decide) ?_
            exact ih (d - 1) (by omega) (j + 1) z sg ls H locs (by omega) hS f_4 f_5 f_x hof (lv_sub hl [0, 1, 2, 3] rfl) hw
          · refine lv_aload_n hx hb dX2_sumOfRow_83 rfl (lv_at hl 2 rfl) ?_
            refine lv_aload_n hx hb dX2_sumOfRow_84 rfl (lv_at hl 2 rfl) ?_
            refine lv_aload_n hx hb dX2_sumOfRow_85 rfl (lv_at hl 1 rfl) ?_
            refine fn_g C i2 hw hfn 7 (by decide) (v := .ref (A 6)) rfl dX2_sumOfRow_86 lk35 ?_
            refine sv_v (As := [.ref x, .ref (A 6)]) (rest := []) C (v3_difference _ _ _ _ _ hS x x (A 6) hmx hmx (fn_in hfn (i := 6) (by decide)) (by rw [f_x, f_6]; exact b24 (Nat.le_trans (Nat.add_le_add hrow htm) (by decide +kernel)))) (cwV 2 hts gX2_sumOfRow_X3_difference rfl rfl rfl (by decide +kernel) ⟨Nat.le_of_ble_eq_true rfl, Nat.le_of_ble_eq_true rfl⟩) hsz hw (bd_recv C hw hmx) dX2_sumOfRow_89 rfl hl.1 rfl (Nat.le_of_ble_eq_true rfl) ⟨Nat.le_refl _, Nat.le_refl _⟩ (fun z sg H locs hv9 hf9 hS hw => ?_)
            have fT9 : sg x = (sp_row al (sp_pr ((2 ^ Q : Nat) : Int) (sg0 x * sg0 x / ((2 ^ Q : Nat) : Int)) (sg0 x)) (j + 1)) := hv9.trans (by rw [f_x, f_6]; exact (if_pos ⟨by omega, hc80⟩).symm)
            have f_4 : sg (A 4) = ((sp_pr ((2 ^ Q : Nat) : Int) (sg0 x * sg0 x / ((2 ^ Q : Nat) : Int)) (sg0 x)) j) := (hf9 (A 4) (hxA 4 (by decide)).symm).trans f_4
            have f_5 : sg (A 5) = (sg0 x * sg0 x / ((2 ^ Q : Nat) : Int)) := (hf9 (A 5) (hxA 5 (by decide)).symm).trans f_5
            have f_6 : sg (A 6) = (((sp_pr ((2 ^ Q : Nat) : Int) (sg0 x * sg0 x / ((2 ^ Q : Nat) : Int)) (sg0 x)) j) / ((2 * j + 1 : Nat) : Int)) := (hf9 (A 6) (hxA 6 (by decide)).symm).trans f_6
            have f_x := fT9
            have hof : ∀ a, a ≠ x → (∀ i, 4 ≤ i ∧ i ≤ 7 → a ≠ A i) → sg a = sg0 a := fun a h1 h2 => (hf9 a h1).trans (hof a h1 h2)
            refine lv_goto (tgt := 104) hx hb dX2_sumOfRow_92 (by decide) ?_
            refine lv_aload_n hx hb dX2_sumOfRow_104 rfl (lv_at hl 1 rfl) ?_
            refine lv_aload_n hx hb dX2_sumOfRow_105 rfl (lv_at hl 1 rfl) ?_
            refine fn_g C i2 hw hfn 5 (by decide) (v := .ref (A 4)) rfl dX2_sumOfRow_106 lk29 ?_
            refine lv_aload_n hx hb dX2_sumOfRow_109 rfl (lv_at hl 1 rfl) ?_
            refine fn_g C i2 hw hfn 6 (by decide) (v := .ref (A 5)) rfl dX2_sumOfRow_110 lk32 ?_
            refine bd_cv (As := [.ref (A 4), .ref (A 5)]) (rest := []) C (f_scale _ _ _ _ _ hfn hS (A 4) (A 5) 9 9 (fn_in hfn (i := 4) (by decide)) (fn_in hfn (i := 5) (by decide)) (fn_ne hfn (i := 4) (j := 7) (by decide) (by decide) (by decide)) (fn_ne hfn (i := 5) (j := 7) (by decide) (by decide) (by decide)) (by rw [f_4]; exact b9 (Nat.le_trans hpj (by decide +kernel))) (by rw [f_5]; exact b9 (Nat.le_trans hsqb (by decide +kernel))) (by decide)) (cwV 2 hts gX2_sumOfRow_X2_scale rfl rfl rfl (by decide +kernel) ⟨Nat.le_of_ble_eq_true rfl, Nat.le_of_ble_eq_true rfl⟩) hsz hw (fn_recv C hw hfn) dX2_sumOfRow_113 rfl hl.1 rfl (Nat.le_of_ble_eq_true rfl) ⟨Nat.le_refl _, Nat.le_refl _⟩ (fun E1 z H locs hp hw => ?_)
            obtain ⟨hE9, sg, hS, hv9, hf9⟩ := hp
            rw [show E1 = E0 from hE9] at hw
            have fT9 : sg (A 4) = ((sp_pr ((2 ^ Q : Nat) : Int) (sg0 x * sg0 x / ((2 ^ Q : Nat) : Int)) (sg0 x)) (j + 1)) := hv9.trans (by rw [f_4, f_5]; rfl)
            have f_5 : sg (A 5) = (sg0 x * sg0 x / ((2 ^ Q : Nat) : Int)) := (hf9 (A 5) (fn_ne hfn (i := 5) (j := 4) (by decide) (by decide) (by decide)) (fn_ne hfn (i := 5) (j := 7) (by decide) (by decide) (by decide))).trans f_5
            have f_x : sg x = (sp_row al (sp_pr ((2 ^ Q : Nat) : Int) (sg0 x * sg0 x / ((2 ^ Q : Nat) : Int)) (sg0 x)) (j + 1)) := (hf9 x (hxA 4 (by decide)) (hxA 7 (by decide))).trans f_x
            have f_6 : sg (A 6) = (((sp_pr ((2 ^ Q : Nat) : Int) (sg0 x * sg0 x / ((2 ^ Q : Nat) : Int)) (sg0 x)) j) / ((2 * j + 1 : Nat) : Int)) := (hf9 (A 6) (fn_ne hfn (i := 6) (j := 4) (by decide) (by decide) (by decide)) (fn_ne hfn (i := 6) (j := 7) (by decide) (by decide) (by decide))).trans f_6
            have f_4 := fT9
            have hof : ∀ a, a ≠ x → (∀ i, 4 ≤ i ∧ i ≤ 7 → a ≠ A i) → sg a = sg0 a := fun a h1 h2 => (hf9 a (h2 4 (by decide)) (h2 7 (by decide))).trans (hof a h1 h2)
            refine lv_iinc (v := (nI (j + 1))) (lv' := [(3, .int (nI (j + 1))), (0, .ref fo), (1, .ref x), (2, .int (nI al))]) hx hb dX2_sumOfRow_116 hl (k := 0) rfl (nI_1 _) (by decide) rfl (fun ls hl => ?_)
            refine lv_goto (tgt := 31) hx hb dX2_sumOfRow_119 (by decide) ?_
            exact ih (d - 1) (by omega) (j + 1) z sg ls H locs (by omega) hS f_4 f_5 f_x hof (lv_sub hl [0, 1, 2, 3] rfl) hw
