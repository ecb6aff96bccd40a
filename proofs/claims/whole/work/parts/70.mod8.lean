/-! the model: row, fineExp (laid by wip/gen/m_mod8.py) -/
theorem sp_if1 {v : Int} (h : ¬ (if v = 0 ∨ v = -1 then (1 : Int32) else 0) = 0) : sp_sp v := by
  rcases Classical.em (v = 0 ∨ v = -1) with q | q
  · exact q
  · rw [if_neg q] at h
    exact absurd rfl h
theorem sp_if0 {v : Int} (h : (if v = 0 ∨ v = -1 then (1 : Int32) else 0) = 0) : ¬ sp_sp v := fun q => by
  rw [if_pos (show v = 0 ∨ v = -1 from q)] at h
  exact absurd h (by decide)
set_option maxHeartbeats 4000000 in
set_option maxRecDepth 100000 in
/-- row -/
theorem v5_row (l : Launch) (K : Cxt) (E0 : Nat → va_E) (z0 : Nat → Wh) (sz : Nat) {mo : Nat → Nat} {th : Int32} {P : Nat} {rg0 : Nat → Int} (hv : md_v K E0 mo th P rg0) (t x al : Nat) (ht60 : t < 60 ∧ t ≠ 32 ∧ (t < 35 ∨ 39 < t)) (hx60 : x < 60 ∧ x ≠ 32 ∧ (x < 35 ∨ 39 < x)) (hal : al = 0 ∨ al = 1) (hb1 : 2 * ((rg0 x).natAbs : Int) ≤ ((2 ^ (P + 64) : Nat) : Int)) : Met l yX5_row wsX5_row ({ frames := 6, cells := 0, slots := 0, locals := 200 }) (va_Pc [.ref (mo 0), .int (nI t), .int (nI x), .int (nI al)] (bd_P K E0 z0 sz)) (va_Qv (fun u => ∃ rg : Nat → Int, md_v K u.1 mo th P rg ∧ rg t = sp_RW al ((2 ^ (P + 64) : Nat) : Int) (rg0 x) ∧ ∀ j, j ≠ t ∧ j ≠ 32 ∧ (j < 35 ∨ 39 < j) → rg j = rg0 j) (bd_B K) (bd_A K sz)) 0 0 (bd_A K sz) := by
  refine bd_ofW (cc := cX5_row) (maxL := 5) (ret := none) (by decide) rfl (Nat.le_of_ble_eq_true rfl) ?_
  intro p e s m below meth c ls C hr hlk hsz hw hl
  have hx := C.1
  have hb := C.2.1
  have hown := C.2.2.2.1
  have hts := C.2.2.2.2.1
  have i5 : ∀ w ∈ wsX50, w ∈ wsX5_row := by decide +kernel
  have lk27 : Cond.fieldLink RX5 27 "BallDeskModel" "fine" "I" ∈ wsX5_row := by decide +kernel
  have hl : lv_has ls 5 [(0, .ref (mo 0)), (1, .int (nI t)), (2, .int (nI x)), (3, .int (nI al))] := hl
  obtain ⟨hP1, hP2⟩ := mv_P hv
  have hp256 : (2 : Nat) ^ (P + 64) ≤ 2 ^ 256 := Nat.pow_le_pow_right (by decide) (by omega)
  have hp80 : (2 : Nat) ^ 80 ≤ 2 ^ (P + 64) := Nat.pow_le_pow_right (by decide) (by omega)
  have hDp : (0 : Int) < ((2 ^ (P + 64) : Nat) : Int) := by omega
  have hx256 : (rg0 x).natAbs ≤ 2 ^ 256 := by omega
  obtain ⟨hsq0, hsq4⟩ := sp_sq hDp hb1
  have hsqb : (rg0 x * rg0 x / ((2 ^ (P + 64) : Nat) : Int)).natAbs ≤ 2 ^ 256 := by omega
  have hH := sp_prH (w := rg0 x) hDp hsq0 hsq4
  obtain ⟨m0, hm0, hend⟩ := sp_ex hH (N := 257) (show (rg0 x).natAbs < 2 ^ 257 from Nat.lt_of_le_of_lt hx256 (by decide +kernel))
  have f_x : rg0 x = rg0 x := rfl
  have hof : ∀ j, j ≠ t ∧ j ≠ 32 ∧ (j < 35 ∨ 39 < j) → rg0 j = rg0 j := fun _ _ => rfl
  refine lv_aload_n hx hb dX5_row_0 rfl (lv_at hl 0 rfl) ?_
  refine lv_bipush (v := nI 35) hx hb dX5_row_1 (by decide) ?_
  refine lv_iload_n hx hb dX5_row_3 rfl (lv_at hl 2 rfl) ?_
  refine lv_iload_n hx hb dX5_row_4 rfl (lv_at hl 2 rfl) ?_
  refine bd_cv (As := [.int (nI 35), .int (nI x), .int (nI x)]) (rest := []) C (v5_product _ _ _ _ _ hv 35 x x (by omega) (by omega) (by omega) (by rw [f_x]; exact (b34 (Nat.le_trans (mul_b hx256 hx256) (by decide +kernel))))) (cwV 3 hts gX5_row_X5_product rfl rfl rfl (by decide +kernel) ⟨Nat.le_of_ble_eq_true rfl, Nat.le_of_ble_eq_true rfl⟩) hsz hw (mv_recv C hw hv) dX5_row_5 rfl hl.1 rfl (Nat.le_of_ble_eq_true rfl) ⟨Nat.le_refl _, Nat.le_refl _⟩ (fun E z H locs hp hw => ?_)
  obtain ⟨rg, hv, hv0_, hf9⟩ := hp
  have fT0_ : rg 35 = (rg0 x * rg0 x) := hv0_.trans (by rw [f_x])
  have f_x : rg x = rg0 x := (hf9 x (by omega)).trans f_x
  have f_35 := fT0_
  have hof : ∀ j, j ≠ t ∧ j ≠ 32 ∧ (j < 35 ∨ 39 < j) → rg j = rg0 j := fun j hj => (hf9 j (by omega)).trans (hof j hj)
  refine lv_aload_n hx hb dX5_row_8 rfl (lv_at hl 0 rfl) ?_
  refine lv_bipush (v := nI 35) hx hb dX5_row_9 (by decide) ?_
  refine lv_bipush (v := nI 35) hx hb dX5_row_11 (by decide) ?_
  refine lv_aload_n hx hb dX5_row_13 rfl (lv_at hl 0 rfl) ?_
  refine mv_g C i5 hw hv 2 (by decide) (v := .int (nI (P + 64))) rfl dX5_row_14 lk27 ?_
  refine bd_cv (As := [.int (nI 35), .int (nI 35), .int (nI (P + 64))]) (rest := []) C (v5_down _ _ _ _ _ hv 35 35 (P + 64) (by omega) (by omega) (by omega) (by omega)) (cwV 3 hts gX5_row_X5_down rfl rfl rfl (by decide +kernel) ⟨Nat.le_of_ble_eq_true rfl, Nat.le_of_ble_eq_true rfl⟩) hsz hw (mv_recv C hw hv) dX5_row_17 rfl hl.1 rfl (Nat.le_of_ble_eq_true rfl) ⟨Nat.le_refl _, Nat.le_refl _⟩ (fun E z H locs hp hw => ?_)
  obtain ⟨rg, hv, hv0_, hf9⟩ := hp
  have fT0_ : rg 35 = (rg0 x * rg0 x / ((2 ^ (P + 64) : Nat) : Int)) := hv0_.trans (by rw [f_35])
  have f_x : rg x = rg0 x := (hf9 x (by omega) (by omega)).trans f_x
  have f_35 := fT0_
  have hof : ∀ j, j ≠ t ∧ j ≠ 32 ∧ (j < 35 ∨ 39 < j) → rg j = rg0 j := fun j hj => (hf9 j (by omega) (by omega)).trans (hof j hj)
  refine lv_aload_n hx hb dX5_row_20 rfl (lv_at hl 0 rfl) ?_
  refine lv_bipush (v := nI 36) hx hb dX5_row_21 (by decide) ?_
  refine lv_iload_n hx hb dX5_row_23 rfl (lv_at hl 2 rfl) ?_
  refine bd_cv (As := [.int (nI 36), .int (nI x)]) (rest := []) C (v5_copy _ _ _ _ _ hv 36 x (by omega) (by omega)) (cwV 2 hts gX5_row_X5_copy rfl rfl rfl (by decide +kernel) ⟨Nat.le_of_ble_eq_true rfl, Nat.le_of_ble_eq_true rfl⟩) hsz hw (mv_recv C hw hv) dX5_row_24 rfl hl.1 rfl (Nat.le_of_ble_eq_true rfl) ⟨Nat.le_refl _, Nat.le_refl _⟩ (fun E z H locs hp hw => ?_)
  obtain ⟨rg, hv, hv0_, hf9⟩ := hp
  have fT0_ : rg 36 = rg0 x := hv0_.trans (by rw [f_x])
  have f_x : rg x = rg0 x := (hf9 x (by omega)).trans f_x
  have f_35 : rg 35 = (rg0 x * rg0 x / ((2 ^ (P + 64) : Nat) : Int)) := (hf9 35 (by omega)).trans f_35
  have f_36 := fT0_
  have hof : ∀ j, j ≠ t ∧ j ≠ 32 ∧ (j < 35 ∨ 39 < j) → rg j = rg0 j := fun j hj => (hf9 j (by omega)).trans (hof j hj)
  refine lv_aload_n hx hb dX5_row_27 rfl (lv_at hl 0 rfl) ?_
  refine lv_bipush (v := nI 37) hx hb dX5_row_28 (by decide) ?_
  refine bd_cv (As := [.int (nI 37)]) (rest := []) C (v5_none _ _ _ _ _ hv 37 (by omega)) (cwV 1 hts gX5_row_X5_none rfl rfl rfl (by decide +kernel) ⟨Nat.le_of_ble_eq_true rfl, Nat.le_of_ble_eq_true rfl⟩) hsz hw (mv_recv C hw hv) dX5_row_30 rfl hl.1 rfl (Nat.le_of_ble_eq_true rfl) ⟨Nat.le_refl _, Nat.le_refl _⟩ (fun E z H locs hp hw => ?_)
  obtain ⟨rg, hv, hv0_, hf9⟩ := hp
  have fT0_ : rg 37 = 0 := hv0_.trans (by rfl)
  have f_x : rg x = rg0 x := (hf9 x (by omega)).trans f_x
  have f_35 : rg 35 = (rg0 x * rg0 x / ((2 ^ (P + 64) : Nat) : Int)) := (hf9 35 (by omega)).trans f_35
  have f_36 : rg 36 = rg0 x := (hf9 36 (by omega)).trans f_36
  have f_37 := fT0_
  have hof : ∀ j, j ≠ t ∧ j ≠ 32 ∧ (j < 35 ∨ 39 < j) → rg j = rg0 j := fun j hj => (hf9 j (by omega)).trans (hof j hj)
  refine lv_iconst (v := nI 0) hx hb dX5_row_33 (by decide) ?_
  refine lv_istore (lv' := [(4, .int (nI 0)), (0, .ref (mo 0)), (1, .int (nI t)), (2, .int (nI x)), (3, .int (nI al))]) hx hb dX5_row_34 hl (by decide) rfl (fun ls hl => ?_)
  suffices hloop : ∀ (d9 j : Nat) (E : Nat → va_E) (z : Nat → Wh) (rg : Nat → Int) (ls : Array Slot) (H : Heap) (locs : List Loc), j + d9 = m0 → md_v K E mo th P rg → (rg 35 = (rg0 x * rg0 x / ((2 ^ (P + 64) : Nat) : Int))) → (rg 36 = ((sp_pr ((2 ^ (P + 64) : Nat) : Int) (rg0 x * rg0 x / ((2 ^ (P + 64) : Nat) : Int)) (rg0 x)) j)) → (rg 37 = (sp_row al (sp_pr ((2 ^ (P + 64) : Nat) : Int) (rg0 x * rg0 x / ((2 ^ (P + 64) : Nat) : Int)) (rg0 x)) j)) → (∀ j, j ≠ t ∧ j ≠ 32 ∧ (j < 35 ∨ 39 < j) → rg j = rg0 j) → lv_has ls 5 [(4, .int (nI j)), (0, .ref (mo 0)), (1, .int (nI t)), (3, .int (nI al))] → bd_W K E z (bd_A K sz) s.heap H locs → W p l e (headSpec wsX5_row ({ frames := 6, cells := 0, slots := 0, locals := 200 })).room s m [.ref (mo 0), .int (nI t), .int (nI x), .int (nI al)].toArray below meth c H locs 0 0 (MQ below (va_Qv (fun u => ∃ rg : Nat → Int, md_v K u.1 mo th P rg ∧ rg t = sp_RW al ((2 ^ (P + 64) : Nat) : Int) (rg0 x) ∧ ∀ j, j ≠ t ∧ j ≠ 32 ∧ (j < 35 ∨ 39 < j) → rg j = rg0 j) (bd_B K) (bd_A K sz)) [.ref (mo 0), .int (nI t), .int (nI x), .int (nI al)].toArray s 0 0 (bd_A K sz)) (F0 m 36 ls []) from hloop m0 0 E z rg ls _ _ (by omega) hv f_35 f_36 f_37  hof (lv_sub hl [0, 1, 2, 4] rfl) hw
  clear hw hl ls hv hof f_x f_35 f_36 f_37 
  intro d9
  induction d9 using Nat.strongRecOn with
  | ind d9 ih =>
    intro j E z rg ls H locs hjd9 hv f_35 f_36 f_37  hof hl hw
    have hun : ∀ i, i < j → ¬ sp_sp ((sp_pr ((2 ^ (P + 64) : Nat) : Int) (rg0 x * rg0 x / ((2 ^ (P + 64) : Nat) : Int)) (rg0 x)) i) := fun i hi => hend.2 i (by omega)
    have hpj : ((sp_pr ((2 ^ (P + 64) : Nat) : Int) (rg0 x * rg0 x / ((2 ^ (P + 64) : Nat) : Int)) (rg0 x)) j).natAbs ≤ 2 ^ 257 := Nat.le_trans (sp_le hH hun) (Nat.le_trans (Nat.add_le_add_right hx256 1) (by decide +kernel))
    have hrow : (sp_row al (sp_pr ((2 ^ (P + 64) : Nat) : Int) (rg0 x * rg0 x / ((2 ^ (P + 64) : Nat) : Int)) (rg0 x)) j).natAbs ≤ 2 ^ 257 := Nat.le_trans (sp_rowl al _ j) (Nat.le_trans (sp_abl hH hun) (Nat.le_trans (Nat.mul_le_mul_left 2 hx256) (by decide +kernel)))
    refine lv_aload_n hx hb dX5_row_36 rfl (lv_at hl 1 rfl) ?_
    refine lv_bipush (v := nI 36) hx hb dX5_row_37 (by decide) ?_
    refine bd_cip (As := [.int (nI 36)]) (rest := []) C (v5_isEnd _ _ _ _ _ hv 36 (by omega)) (cwV 1 hts gX5_row_X5_isEnd rfl rfl rfl (by decide +kernel) ⟨Nat.le_of_ble_eq_true rfl, Nat.le_of_ble_eq_true rfl⟩) hsz hw (mv_recv C hw hv) dX5_row_39 rfl hl.1 rfl (Nat.le_of_ble_eq_true rfl) ⟨Nat.le_refl _, Nat.le_refl _⟩ (fun H locs hw => ?_)
    rw [f_36]
    refine lv_if_ne (tgt := 114) hx hb dX5_row_42 (by decide) (fun hc42 => ?_) (fun hc42 => ?_)
    · have hsp : sp_sp ((sp_pr ((2 ^ (P + 64) : Nat) : Int) (rg0 x * rg0 x / ((2 ^ (P + 64) : Nat) : Int)) (rg0 x)) j) := sp_if1 hc42
      have hm : j = m0 := (Nat.lt_or_ge j m0).elim (fun q => absurd hsp (hend.2 j q)) (fun q => by omega)
      rw [hm] at f_37
      refine lv_aload_n hx hb dX5_row_114 rfl (lv_at hl 1 rfl) ?_
      refine lv_iload_n hx hb dX5_row_115 rfl (lv_at hl 2 rfl) ?_
      refine lv_bipush (v := nI 37) hx hb dX5_row_116 (by decide) ?_
      refine bd_cv (As := [.int (nI t), .int (nI 37)]) (rest := []) C (v5_copy _ _ _ _ _ hv t 37 (by omega) (by omega)) (cwV 2 hts gX5_row_X5_copy rfl rfl rfl (by decide +kernel) ⟨Nat.le_of_ble_eq_true rfl, Nat.le_of_ble_eq_true rfl⟩) hsz hw (mv_recv C hw hv) dX5_row_118 rfl hl.1 rfl (Nat.le_of_ble_eq_true rfl) ⟨Nat.le_refl _, Nat.le_refl _⟩ (fun E z H locs hp hw => ?_)
      obtain ⟨rg, hv, hv0_, hf9⟩ := hp
      have fT0_ : rg t = (sp_row al (sp_pr ((2 ^ (P + 64) : Nat) : Int) (rg0 x * rg0 x / ((2 ^ (P + 64) : Nat) : Int)) (rg0 x)) m0) := hv0_.trans (by rw [f_37])
      have f_35 : rg 35 = (rg0 x * rg0 x / ((2 ^ (P + 64) : Nat) : Int)) := (hf9 35 (by omega)).trans f_35
      have f_36 : rg 36 = ((sp_pr ((2 ^ (P + 64) : Nat) : Int) (rg0 x * rg0 x / ((2 ^ (P + 64) : Nat) : Int)) (rg0 x)) j) := (hf9 36 (by omega)).trans f_36
      have f_37 : rg 37 = (sp_row al (sp_pr ((2 ^ (P + 64) : Nat) : Int) (rg0 x * rg0 x / ((2 ^ (P + 64) : Nat) : Int)) (rg0 x)) m0) := (hf9 37 (by omega)).trans f_37
      have f_t := fT0_
      have hof : ∀ j, j ≠ t ∧ j ≠ 32 ∧ (j < 35 ∨ 39 < j) → rg j = rg0 j := fun j hj => (hf9 j (by omega)).trans (hof j hj)
      exact bd_vret C hr hlk hw dX5_row_121 (⟨rg, hv, f_t.trans (sp_RWe ⟨m0, hend, rfl⟩), hof⟩)
    · have hsp : ¬ sp_sp ((sp_pr ((2 ^ (P + 64) : Nat) : Int) (rg0 x * rg0 x / ((2 ^ (P + 64) : Nat) : Int)) (rg0 x)) j) := sp_if0 hc42
      have hjm : j < m0 := (Nat.lt_or_ge j m0).elim id (fun q => absurd (show sp_sp ((sp_pr ((2 ^ (P + 64) : Nat) : Int) (rg0 x * rg0 x / ((2 ^ (P + 64) : Nat) : Int)) (rg0 x)) j) by rw [show j = m0 by omega]; exact hend.1) hsp)
      have htm : (((sp_pr ((2 ^ (P + 64) : Nat) : Int) (rg0 x * rg0 x / ((2 ^ (P + 64) : Nat) : Int)) (rg0 x)) j) / ((2 * j + 1 : Nat) : Int)).natAbs ≤ 2 ^ 257 := Nat.le_trans (fl_abs (by omega)) hpj
      refine lv_aload_n hx hb dX5_row_45 rfl (lv_at hl 1 rfl) ?_
      refine lv_bipush (v := nI 38) hx hb dX5_row_46 (by decide) ?_
      refine lv_bipush (v := nI 36) hx hb dX5_row_48 (by decide) ?_
      refine lv_iconst (v := nI 2) hx hb dX5_row_50 (by decide) ?_
      refine lv_iload hx hb dX5_row_51 (lv_at hl 0 rfl) ?_
      refine bd_imul (v := (nI (2 * j))) hx hb dX5_row_53 (nI_mul _ _) ?_
      refine lv_iconst (v := nI 1) hx hb dX5_row_54 (by decide) ?_
      refine bd_iadd (v := nI ((2 * j) + 1)) hx hb dX5_row_55 (nI_add _ _) ?_
      refine bd_cv (As := [.int (nI 38), .int (nI 36), .int (nI ((2 * j) + 1))]) (rest := []) C (v5_divideSmall _ _ _ _ _ hv 38 36 (2 * j + 1) (by omega) (by omega) (by omega) (by omega) (by omega)) (cwV 3 hts gX5_row_X5_divideSmall rfl rfl rfl (by decide +kernel) ⟨Nat.le_of_ble_eq_true rfl, Nat.le_of_ble_eq_true rfl⟩) hsz hw (mv_recv C hw hv) dX5_row_56 rfl hl.1 rfl (Nat.le_of_ble_eq_true rfl) ⟨Nat.le_refl _, Nat.le_refl _⟩ (fun E z H locs hp hw => ?_)
      obtain ⟨rg, hv, hv0_, hf9⟩ := hp
      have fT0_ : rg 38 = (((sp_pr ((2 ^ (P + 64) : Nat) : Int) (rg0 x * rg0 x / ((2 ^ (P + 64) : Nat) : Int)) (rg0 x)) j) / ((2 * j + 1 : Nat) : Int)) := hv0_.trans (by rw [f_36])
      have f_35 : rg 35 = (rg0 x * rg0 x / ((2 ^ (P + 64) : Nat) : Int)) := (hf9 35 (by omega) (by omega)).trans f_35
      have f_36 : rg 36 = ((sp_pr ((2 ^ (P + 64) : Nat) : Int) (rg0 x * rg0 x / ((2 ^ (P + 64) : Nat) : Int)) (rg0 x)) j) := (hf9 36 (by omega) (by omega)).trans f_36
      have f_37 : rg 37 = (sp_row al (sp_pr ((2 ^ (P + 64) : Nat) : Int) (rg0 x * rg0 x / ((2 ^ (P + 64) : Nat) : Int)) (rg0 x)) j) := (hf9 37 (by omega) (by omega)).trans f_37
      have f_38 := fT0_
      have hof : ∀ j, j ≠ t ∧ j ≠ 32 ∧ (j < 35 ∨ 39 < j) → rg j = rg0 j := fun j hj => (hf9 j (by omega) (by omega)).trans (hof j hj)
      refine lv_aload_n hx hb dX5_row_59 rfl (lv_at hl 1 rfl) ?_
      refine lv_bipush (v := nI 37) hx hb dX5_row_60 (by decide) ?_
      refine lv_bipush (v := nI 37) hx hb dX5_row_62 (by decide) ?_
      refine lv_bipush (v := nI 38) hx hb dX5_row_64 (by decide) ?_
      refine lv_iload_n hx hb dX5_row_66 rfl (lv_at hl 3 rfl) ?_
      refine bd_zeq (h1 := (by omega)) (tgt := 82) hx hb dX5_row_67 (by decide) (fun hc67 => ?_) (fun hc67 => ?_)
      · refine lv_iconst (v := nI 1) hx hb dX5_row_82 (by decide) ?_
        refine bd_cv (As := [.int (nI 37), .int (nI 37), .int (nI 38), .int (nI 1)]) (rest := []) C (v5_sum _ _ _ _ _ hv 37 37 38 1 (by omega) (by omega) (by omega) (Or.inl rfl) (by rw [f_37, f_38, sm_p]; exact b34 (Nat.le_trans (add_b hrow htm) (by decide +kernel)))) (cwV 4 hts gX5_row_X5_sum rfl rfl rfl (by decide +kernel) ⟨Nat.le_of_ble_eq_true rfl, Nat.le_of_ble_eq_true rfl⟩) hsz hw (mv_recv C hw hv) dX5_row_83 rfl hl.1 rfl (Nat.le_of_ble_eq_true rfl) ⟨Nat.le_refl _, Nat.le_refl _⟩ (fun E z H locs hp hw => ?_)
        obtain ⟨rg, hv, hv0_, hf9⟩ := hp
        have fT0_ : rg 37 = (sp_row al (sp_pr ((2 ^ (P + 64) : Nat) : Int) (rg0 x * rg0 x / ((2 ^ (P + 64) : Nat) : Int)) (rg0 x)) (j + 1)) := hv0_.trans (by rw [f_37, f_38]; exact (sm_p _ _).trans (if_neg (fun q => absurd q.1 (by omega))).symm)
        have f_35 : rg 35 = (rg0 x * rg0 x / ((2 ^ (P + 64) : Nat) : Int)) := (hf9 35 (by omega)).trans f_35
        have f_36 : rg 36 = ((sp_pr ((2 ^ (P + 64) : Nat) : Int) (rg0 x * rg0 x / ((2 ^ (P + 64) : Nat) : Int)) (rg0 x)) j) := (hf9 36 (by omega)).trans f_36
        have f_38 : rg 38 = (((sp_pr ((2 ^ (P + 64) : Nat) : Int) (rg0 x * rg0 x / ((2 ^ (P + 64) : Nat) : Int)) (rg0 x)) j) / ((2 * j + 1 : Nat) : Int)) := (hf9 38 (by omega)).trans f_38
        have f_37 := fT0_
        have hof : ∀ j, j ≠ t ∧ j ≠ 32 ∧ (j < 35 ∨ 39 < j) → rg j = rg0 j := fun j hj => (hf9 j (by omega)).trans (hof j hj)
        refine lv_aload_n hx hb dX5_row_86 rfl (lv_at hl 1 rfl) ?_
        refine lv_bipush (v := nI 39) hx hb dX5_row_87 (by decide) ?_
        refine lv_bipush (v := nI 36) hx hb dX5_row_89 (by decide) ?_
        refine lv_bipush (v := nI 35) hx hb dX5_row_91 (by decide) ?_
        refine bd_cv (As := [.int (nI 39), .int (nI 36), .int (nI 35)]) (rest := []) C (v5_product _ _ _ _ _ hv 39 36 35 (by omega) (by omega) (by omega) (by rw [f_36, f_35]; exact (b34 (Nat.le_trans (mul_b hpj hsqb) (by decide +kernel))))) (cwV 3 hts gX5_row_X5_product rfl rfl rfl (by decide +kernel) ⟨Nat.le_of_ble_eq_true rfl, Nat.le_of_ble_eq_true rfl⟩) hsz hw (mv_recv C hw hv) dX5_row_93 rfl hl.1 rfl (Nat.le_of_ble_eq_true rfl) ⟨Nat.le_refl _, Nat.le_refl _⟩ (fun E z H locs hp hw => ?_)
        obtain ⟨rg, hv, hv0_, hf9⟩ := hp
        have fT0_ : rg 39 = (((sp_pr ((2 ^ (P + 64) : Nat) : Int) (rg0 x * rg0 x / ((2 ^ (P + 64) : Nat) : Int)) (rg0 x)) j) * (rg0 x * rg0 x / ((2 ^ (P + 64) : Nat) : Int))) := hv0_.trans (by rw [f_36, f_35])
        have f_35 : rg 35 = (rg0 x * rg0 x / ((2 ^ (P + 64) : Nat) : Int)) := (hf9 35 (by omega)).trans f_35
        have f_36 : rg 36 = ((sp_pr ((2 ^ (P + 64) : Nat) : Int) (rg0 x * rg0 x / ((2 ^ (P + 64) : Nat) : Int)) (rg0 x)) j) := (hf9 36 (by omega)).trans f_36
        have f_38 : rg 38 = (((sp_pr ((2 ^ (P + 64) : Nat) : Int) (rg0 x * rg0 x / ((2 ^ (P + 64) : Nat) : Int)) (rg0 x)) j) / ((2 * j + 1 : Nat) : Int)) := (hf9 38 (by omega)).trans f_38
        have f_37 : rg 37 = (sp_row al (sp_pr ((2 ^ (P + 64) : Nat) : Int) (rg0 x * rg0 x / ((2 ^ (P + 64) : Nat) : Int)) (rg0 x)) (j + 1)) := (hf9 37 (by omega)).trans f_37
        have f_39 := fT0_
        have hof : ∀ j, j ≠ t ∧ j ≠ 32 ∧ (j < 35 ∨ 39 < j) → rg j = rg0 j := fun j hj => (hf9 j (by omega)).trans (hof j hj)
        refine lv_aload_n hx hb dX5_row_96 rfl (lv_at hl 1 rfl) ?_
        refine lv_bipush (v := nI 36) hx hb dX5_row_97 (by decide) ?_
        refine lv_bipush (v := nI 39) hx hb dX5_row_99 (by decide) ?_
        refine lv_aload_n hx hb dX5_row_101 rfl (lv_at hl 1 rfl) ?_
        refine mv_g C i5 hw hv 2 (by decide) (v := .int (nI (P + 64))) rfl dX5_row_102 lk27 ?_
        refine bd_cv (As := [.int (nI 36), .int (nI 39), .int (nI (P + 64))]) (rest := []) C (v5_down _ _ _ _ _ hv 36 39 (P + 64) (by omega) (by omega) (by omega) (by omega)) (cwV 3 hts gX5_row_X5_down rfl rfl rfl (by decide +kernel) ⟨Nat.le_of_ble_eq_true rfl, Nat.le_of_ble_eq_true rfl⟩) hsz hw (mv_recv C hw hv) dX5_row_105 rfl hl.1 rfl (Nat.le_of_ble_eq_true rfl) ⟨Nat.le_refl _, Nat.le_refl _⟩ (fun E z H locs hp hw => ?_)
        obtain ⟨rg, hv, hv0_, hf9⟩ := hp
        have fT0_ : rg 36 = ((sp_pr ((2 ^ (P + 64) : Nat) : Int) (rg0 x * rg0 x / ((2 ^ (P + 64) : Nat) : Int)) (rg0 x)) (j + 1)) := hv0_.trans (by rw [f_39]; rfl)
        have f_35 : rg 35 = (rg0 x * rg0 x / ((2 ^ (P + 64) : Nat) : Int)) := (hf9 35 (by omega) (by omega)).trans f_35
        have f_38 : rg 38 = (((sp_pr ((2 ^ (P + 64) : Nat) : Int) (rg0 x * rg0 x / ((2 ^ (P + 64) : Nat) : Int)) (rg0 x)) j) / ((2 * j + 1 : Nat) : Int)) := (hf9 38 (by omega) (by omega)).trans f_38
        have f_37 : rg 37 = (sp_row al (sp_pr ((2 ^ (P + 64) : Nat) : Int) (rg0 x * rg0 x / ((2 ^ (P + 64) : Nat) : Int)) (rg0 x)) (j + 1)) := (hf9 37 (by omega) (by omega)).trans f_37
        have f_39 : rg 39 = (((sp_pr ((2 ^ (P + 64) : Nat) : Int) (rg0 x * rg0 x / ((2 ^ (P + 64) : Nat) : Int)) (rg0 x)) j) * (rg0 x * rg0 x / ((2 ^ (P + 64) : Nat) : Int))) := (hf9 39 (by omega) (by omega)).trans f_39
        have f_36 := fT0_
        have hof : ∀ j, j ≠ t ∧ j ≠ 32 ∧ (j < 35 ∨ 39 < j) → rg j = rg0 j := fun j hj => (hf9 j (by omega) (by omega)).trans (hof j hj)
        refine lv_iinc (v := (nI (j + 1))) (lv' := [(4, .int (nI (j + 1))), (0, .ref (mo 0)), (1, .int (nI t)), (3, .int (nI al))]) hx hb dX5_row_108 hl (k := 0) rfl (nI_1 _) (by decide) rfl (fun ls hl => ?_)
        refine lv_goto (tgt := 36) hx hb dX5_row_111 (by decide) ?_
        exact ih (d9 - 1) (by omega) (j + 1) E z rg ls H locs (by omega) hv f_35 f_36 f_37  hof (lv_sub hl [0, 1, 2, 3] rfl) hw
      · refine lv_iload hx hb dX5_row_70 (lv_at hl 0 rfl) ?_
        refine lv_iconst (v := nI 2) hx hb dX5_row_72 (by decide) ?_
        refine bd_irem (v := (nI (j % 2))) hx hb dX5_row_73 (by decide) (pk_rem (by omega) (by decide) (by decide)) ?_
        refine lv_iconst (v := nI 1) hx hb dX5_row_74 (by decide) ?_
        refine bd_ine (h1 := (by omega)) (h2 := (by omega)) (tgt := 82) hx hb dX5_row_75 (by decide) (fun hc75 => ?_) (fun hc75 => ?_)
        · refine lv_iconst (v := nI 1) hx hb dX5_row_82 (by decide) ?_
          refine bd_cv (As := [.int (nI 37), .int (nI 37), .int (nI 38), .int (nI 1)]) (rest := []) C (v5_sum _ _ _ _ _ hv 37 37 38 1 (by omega) (by omega) (by omega) (Or.inl rfl) (by rw [f_37, f_38, sm_p]; exact b34 (Nat.le_trans (add_b hrow htm) (by decide +kernel)))) (cwV 4 hts gX5_row_X5_sum rfl rfl rfl (by decide +kernel) ⟨Nat.le_of_ble_eq_true rfl, Nat.le_of_ble_eq_true rfl⟩) hsz hw (mv_recv C hw hv) dX5_row_83 rfl hl.1 rfl (Nat.le_of_ble_eq_true rfl) ⟨Nat.le_refl _, Nat.le_refl _⟩ (fun E z H locs hp hw => ?_)
          obtain ⟨rg, hv, hv0_, hf9⟩ := hp
          have fT0_ : rg 37 = (sp_row al (sp_pr ((2 ^ (P + 64) : Nat) : Int) (rg0 x * rg0 x / ((2 ^ (P + 64) : Nat) : Int)) (rg0 x)) (j + 1)) := hv0_.trans (by rw [f_37, f_38]; exact (sm_p _ _).trans (if_neg (fun q => hc75 q.2)).symm)
          have f_35 : rg 35 = (rg0 x * rg0 x / ((2 ^ (P + 64) : Nat) : Int)) := (hf9 35 (by omega)).trans f_35
          have f_36 : rg 36 = ((sp_pr ((2 ^ (P + 64) : Nat) : Int) (rg0 x * rg0 x / ((2 ^ (P + 64) : Nat) : Int)) (rg0 x)) j) := (hf9 36 (by omega)).trans f_36
          have f_38 : rg 38 = (((sp_pr ((2 ^ (P + 64) : Nat) : Int) (rg0 x * rg0 x / ((2 ^ (P + 64) : Nat) : Int)) (rg0 x)) j) / ((2 * j + 1 : Nat) : Int)) := (hf9 38 (by omega)).trans f_38
          have f_37 := fT0_
          have hof : ∀ j, j ≠ t ∧ j ≠ 32 ∧ (j < 35 ∨ 39 < j) → rg j = rg0 j := fun j hj => (hf9 j (by omega)).trans (hof j hj)
          refine lv_aload_n hx hb dX5_row_86 rfl (lv_at hl 1 rfl) ?_
          refine lv_bipush (v := nI 39) hx hb dX5_row_87 (by decide) ?_
          refine lv_bipush (v := nI 36) hx hb dX5_row_89 (by decide) ?_
          refine lv_bipush (v := nI 35) hx hb dX5_row_91 (by decide) ?_
          refine bd_cv (As := [.int (nI 39), .int (nI 36), .int (nI 35)]) (rest := []) C (v5_product _ _ _ _ _ hv 39 36 35 (by omega) (by omega) (by omega) (by rw [f_36, f_35]; exact (b34 (Nat.le_trans (mul_b hpj hsqb) (by decide +kernel))))) (cwV 3 hts gX5_row_X5_product rfl rfl rfl (by decide +kernel) ⟨Nat.le_of_ble_eq_true rfl, Nat.le_of_ble_eq_true rfl⟩) hsz hw (mv_recv C hw hv) dX5_row_93 rfl hl.1 rfl (Nat.le_of_ble_eq_true rfl) ⟨Nat.le_refl _, Nat.le_refl _⟩ (fun E z H locs hp hw => ?_)
          obtain ⟨rg, hv, hv0_, hf9⟩ := hp
          have fT0_ : rg 39 = (((sp_pr ((2 ^ (P + 64) : Nat) : Int) (rg0 x * rg0 x / ((2 ^ (P + 64) : Nat) : Int)) (rg0 x)) j) * (rg0 x * rg0 x / ((2 ^ (P + 64) : Nat) : Int))) := hv0_.trans (by rw [f_36, f_35])
          have f_35 : rg 35 = (rg0 x * rg0 x / ((2 ^ (P + 64) : Nat) : Int)) := (hf9 35 (by omega)).trans f_35
          have f_36 : rg 36 = ((sp_pr ((2 ^ (P + 64) : Nat) : Int) (rg0 x * rg0 x / ((2 ^ (P + 64) : Nat) : Int)) (rg0 x)) j) := (hf9 36 (by omega)).trans f_36
          have f_38 : rg 38 = (((sp_pr ((2 ^ (P + 64) : Nat) : Int) (rg0 x * rg0 x / ((2 ^ (P + 64) : Nat) : Int)) (rg0 x)) j) / ((2 * j + 1 : Nat) : Int)) := (hf9 38 (by omega)).trans f_38
          have f_37 : rg 37 = (sp_row al (sp_pr ((2 ^ (P + 64) : Nat) : Int) (rg0 x * rg0 x / ((2 ^ (P + 64) : Nat) : Int)) (rg0 x)) (j + 1)) := (hf9 37 (by omega)).trans f_37
          have f_39 := fT0_
          have hof : ∀ j, j ≠ t ∧ j ≠ 32 ∧ (j < 35 ∨ 39 < j) → rg j = rg0 j := fun j hj => (hf9 j (by omega)).trans (hof j hj)
          refine lv_aload_n hx hb dX5_row_96 rfl (lv_at hl 1 rfl) ?_
          refine lv_bipush (v := nI 36) hx hb dX5_row_97 (by decide) ?_
          refine lv_bipush (v := nI 39) hx hb dX5_row_99 (by decide) ?_
          refine lv_aload_n hx hb dX5_row_101 rfl (lv_at hl 1 rfl) ?_
          refine mv_g C i5 hw hv 2 (by decide) (v := .int (nI (P + 64))) rfl dX5_row_102 lk27 ?_
          refine bd_cv (As := [.int (nI 36), .int (nI 39), .int (nI (P + 64))]) (rest := []) C (v5_down _ _ _ _ _ hv 36 39 (P + 64) (by omega) (by omega) (by omega) (by omega)) (cwV 3 hts gX5_row_X5_down rfl rfl rfl (by decide +kernel) ⟨Nat.le_of_ble_eq_true rfl, Nat.le_of_ble_eq_true rfl⟩) hsz hw (mv_recv C hw hv) dX5_row_105 rfl hl.1 rfl (Nat.le_of_ble_eq_true rfl) ⟨Nat.le_refl _, Nat.le_refl _⟩ (fun E z H locs hp hw => ?_)
          obtain ⟨rg, hv, hv0_, hf9⟩ := hp
          have fT0_ : rg 36 = ((sp_pr ((2 ^ (P + 64) : Nat) : Int) (rg0 x * rg0 x / ((2 ^ (P + 64) : Nat) : Int)) (rg0 x)) (j + 1)) := hv0_.trans (by rw [f_39]; rfl)
          have f_35 : rg 35 = (rg0 x * rg0 x / ((2 ^ (P + 64) : Nat) : Int)) := (hf9 35 (by omega) (by omega)).trans f_35
          have f_38 : rg 38 = (((sp_pr ((2 ^ (P + 64) : Nat) : Int) (rg0 x * rg0 x / ((2 ^ (P + 64) : Nat) : Int)) (rg0 x)) j) / ((2 * j + 1 : Nat) : Int)) := (hf9 38 (by omega) (by omega)).trans f_38
          have f_37 : rg 37 = (sp_row al (sp_pr ((2 ^ (P + 64) : Nat) : Int) (rg0 x * rg0 x / ((2 ^ (P + 64) : Nat) : Int)) (rg0 x)) (j + 1)) := (hf9 37 (by omega) (by omega)).trans f_37
          have f_39 : rg 39 = (((sp_pr ((2 ^ (P + 64) : Nat) : Int) (rg0 x * rg0 x / ((2 ^ (P + 64) : Nat) : Int)) (rg0 x)) j) * (rg0 x * rg0 x / ((2 ^ (P + 64) : Nat) : Int))) := (hf9 39 (by omega) (by omega)).trans f_39
          have f_36 := fT0_
          have hof : ∀ j, j ≠ t ∧ j ≠ 32 ∧ (j < 35 ∨ 39 < j) → rg j = rg0 j := fun j hj => (hf9 j (by omega) (by omega)).trans (hof j hj)
          refine lv_iinc (v := (nI (j + 1))) (lv' := [(4, .int (nI (j + 1))), (0, .ref (mo 0)), (1, .int (nI t)), (3, .int (nI al))]) hx hb dX5_row_108 hl (k := 0) rfl (nI_1 _) (by decide) rfl (fun ls hl => ?_)
          refine lv_goto (tgt := 36) hx hb dX5_row_111 (by decide) ?_
          exact ih (d9 - 1) (by omega) (j + 1) E z rg ls H locs (by omega) hv f_35 f_36 f_37  hof (lv_sub hl [0, 1, 2, 3] rfl) hw
        · refine lv_iconst (v := (-1)) hx hb dX5_row_78 (by decide) ?_
          refine lv_goto (tgt := 83) hx hb dX5_row_79 (by decide) ?_
          refine bd_cv (As := [.int (nI 37), .int (nI 37), .int (nI 38), .int (-1)]) (rest := []) C (v5_sum _ _ _ _ _ hv 37 37 38 (-1) (by omega) (by omega) (by omega) (Or.inr rfl) (by rw [f_37, f_38, sm_m]; exact b34 (Nat.le_trans (sub_b hrow htm) (by decide +kernel)))) (cwV 4 hts gX5_row_X5_sum rfl rfl rfl (by decide +kernel) ⟨Nat.le_of_ble_eq_true rfl, Nat.le_of_ble_eq_true rfl⟩) hsz hw (mv_recv C hw hv) dX5_row_83 rfl hl.1 rfl (Nat.le_of_ble_eq_true rfl) ⟨Nat.le_refl _, Nat.le_refl _⟩ (fun E z H locs hp hw => ?_)
          obtain ⟨rg, hv, hv0_, hf9⟩ := hp
          have fT0_ : rg 37 = (sp_row al (sp_pr ((2 ^ (P + 64) : Nat) : Int) (rg0 x * rg0 x / ((2 ^ (P + 64) : Nat) : Int)) (rg0 x)) (j + 1)) := hv0_.trans (by rw [f_37, f_38]; exact (sm_m _ _).trans (if_pos ⟨by omega, hc75⟩).symm)
          have f_35 : rg 35 = (rg0 x * rg0 x / ((2 ^ (P + 64) : Nat) : Int)) := (hf9 35 (by omega)).trans f_35
          have f_36 : rg 36 = ((sp_pr ((2 ^ (P + 64) : Nat) : Int) (rg0 x * rg0 x / ((2 ^ (P + 64) : Nat) : Int)) (rg0 x)) j) := (hf9 36 (by omega)).trans f_36
          have f_38 : rg 38 = (((sp_pr ((2 ^ (P + 64) : Nat) : Int) (rg0 x * rg0 x / ((2 ^ (P + 64) : Nat) : Int)) (rg0 x)) j) / ((2 * j + 1 : Nat) : Int)) := (hf9 38 (by omega)).trans f_38
          have f_37 := fT0_
          have hof : ∀ j, j ≠ t ∧ j ≠ 32 ∧ (j < 35 ∨ 39 < j) → rg j = rg0 j := fun j hj => (hf9 j (by omega)).trans (hof j hj)
          refine lv_aload_n hx hb dX5_row_86 rfl (lv_at hl 1 rfl) ?_
          refine lv_bipush (v := nI 39) hx hb dX5_row_87 (by decide) ?_
          refine lv_bipush (v := nI 36) hx hb dX5_row_89 (by decide) ?_
          refine lv_bipush (v := nI 35) hx hb dX5_row_91 (by decide) ?_
          refine bd_cv (As := [.int (nI 39), .int (nI 36), .int (nI 35)]) (rest := []) C (v5_product _ _ _ _ _ hv 39 36 35 (by omega) (by omega) (by omega) (by rw [f_36, f_35]; exact (b34 (Nat.le_trans (mul_b hpj hsqb) (by decide +kernel))))) (cwV 3 hts gX5_row_X5_product rfl rfl rfl (by decide +kernel) ⟨Nat.le_of_ble_eq_true rfl, Nat.le_of_ble_eq_true rfl⟩) hsz hw (mv_recv C hw hv) dX5_row_93 rfl hl.1 rfl (Nat.le_of_ble_eq_true rfl) ⟨Nat.le_refl _, Nat.le_refl _⟩ (fun E z H locs hp hw => ?_)
          obtain ⟨rg, hv, hv0_, hf9⟩ := hp
          have fT0_ : rg 39 = (((sp_pr ((2 ^ (P + 64) : Nat) : Int) (rg0 x * rg0 x / ((2 ^ (P + 64) : Nat) : Int)) (rg0 x)) j) * (rg0 x * rg0 x / ((2 ^ (P + 64) : Nat) : Int))) := hv0_.trans (by rw [f_36, f_35])
          have f_35 : rg 35 = (rg0 x * rg0 x / ((2 ^ (P + 64) : Nat) : Int)) := (hf9 35 (by omega)).trans f_35
          have f_36 : rg 36 = ((sp_pr ((2 ^ (P + 64) : Nat) : Int) (rg0 x * rg0 x / ((2 ^ (P + 64) : Nat) : Int)) (rg0 x)) j) := (hf9 36 (by omega)).trans f_36
          have f_38 : rg 38 = (((sp_pr ((2 ^ (P + 64) : Nat) : Int) (rg0 x * rg0 x / ((2 ^ (P + 64) : Nat) : Int)) (rg0 x)) j) / ((2 * j + 1 : Nat) : Int)) := (hf9 38 (by omega)).trans f_38
          have f_37 : rg 37 = (sp_row al (sp_pr ((2 ^ (P + 64) : Nat) : Int) (rg0 x * rg0 x / ((2 ^ (P + 64) : Nat) : Int)) (rg0 x)) (j + 1)) := (hf9 37 (by omega)).trans f_37
          have f_39 := fT0_
          have hof : ∀ j, j ≠ t ∧ j ≠ 32 ∧ (j < 35 ∨ 39 < j) → rg j = rg0 j := fun j hj => (hf9 j (by omega)).trans (hof j hj)
          refine lv_aload_n hx hb dX5_row_96 rfl (lv_at hl 1 rfl) ?_
          refine lv_bipush (v := nI 36) hx hb dX5_row_97 (by decide) ?_
          refine lv_bipush (v := nI 39) hx hb dX5_row_99 (by decide) ?_
          refine lv_aload_n hx hb dX5_row_101 rfl (lv_at hl 1 rfl) ?_
          refine mv_g C i5 hw hv 2 (by decide) (v := .int (nI (P + 64))) rfl dX5_row_102 lk27 ?_
          refine bd_cv (As := [.int (nI 36), .int (nI 39), .int (nI (P + 64))]) (rest := []) C (v5_down _ _ _ _ _ hv 36 39 (P + 64) (by omega) (by omega) (by omega) (by omega)) (cwV 3 hts gX5_row_X5_down rfl rfl rfl (by decide +kernel) ⟨Nat.le_of_ble_eq_true rfl, Nat.le_of_ble_eq_true rfl⟩) hsz hw (mv_recv C hw hv) dX5_row_105 rfl hl.1 rfl (Nat.le_of_ble_eq_true rfl) ⟨Nat.le_refl _, Nat.le_refl _⟩ (fun E z H locs hp hw => ?_)
          obtain ⟨rg, hv, hv0_, hf9⟩ := hp
          have fT0_ : rg 36 = ((sp_pr ((2 ^ (P + 64) : Nat) : Int) (rg0 x * rg0 x / ((2 ^ (P + 64) : Nat) : Int)) (rg0 x)) (j + 1)) := hv0_.trans (by rw [f_39]; rfl)
          have f_35 : rg 35 = (rg0 x * rg0 x / ((2 ^ (P + 64) : Nat) : Int)) := (hf9 35 (by omega) (by omega)).trans f_35
          have f_38 : rg 38 = (((sp_pr ((2 ^ (P + 64) : Nat) : Int) (rg0 x * rg0 x / ((2 ^ (P + 64) : Nat) : Int)) (rg0 x)) j) / ((2 * j + 1 : Nat) : Int)) := (hf9 38 (by omega) (by omega)).trans f_38
          have f_37 : rg 37 = (sp_row al (sp_pr ((2 ^ (P + 64) : Nat) : Int) (rg0 x * rg0 x / ((2 ^ (P + 64) : Nat) : Int)) (rg0 x)) (j + 1)) := (hf9 37 (by omega) (by omega)).trans f_37
          have f_39 : rg 39 = (((sp_pr ((2 ^ (P + 64) : Nat) : Int) (rg0 x * rg0 x / ((2 ^ (P + 64) : Nat) : Int)) (rg0 x)) j) * (rg0 x * rg0 x / ((2 ^ (P + 64) : Nat) : Int))) := (hf9 39 (by omega) (by omega)).trans f_39
          have f_36 := fT0_
          have hof : ∀ j, j ≠ t ∧ j ≠ 32 ∧ (j < 35 ∨ 39 < j) → rg j = rg0 j := fun j hj => (hf9 j (by omega) (by omega)).trans (hof j hj)
          refine lv_iinc (v := (nI (j + 1))) (lv' := [(4, .int (nI (j + 1))), (0, .ref (mo 0)), (1, .int (nI t)), (3, .int (nI al))]) hx hb dX5_row_108 hl (k := 0) rfl (nI_1 _) (by decide) rfl (fun ls hl => ?_)
          refine lv_goto (tgt := 36) hx hb dX5_row_111 (by decide) ?_
          exact ih (d9 - 1) (by omega) (j + 1) E z rg ls H locs (by omega) hv f_35 f_36 f_37  hof (lv_sub hl [0, 1, 2, 3] rfl) hw
set_option maxHeartbeats 4000000 in
set_option maxRecDepth 100000 in
/-- fineExp -/
theorem v5_fineExp (l : Launch) (K : Cxt) (E0 : Nat → va_E) (z0 : Nat → Wh) (sz : Nat) {mo : Nat → Nat} {th : Int32} {P : Nat} {rg0 : Nat → Int} (hv : md_v K E0 mo th P rg0) (t x : Nat) (ht60 : t < 60 ∧ t ≠ 32 ∧ (t < 35 ∨ 39 < t)) (hx60 : x < 60 ∧ x ≠ 32 ∧ (x < 35 ∨ 39 < x)) (hf_27 : rg0 27 = ((2 ^ (P + 64) : Nat) : Int)) (hb1 : (rg0 x).natAbs ≤ 2 ^ (P + 64 + 4)) : Met l yX5_fineExp wsX5_fineExp ({ frames := 6, cells := 0, slots := 0, locals := 200 }) (va_Pc [.ref (mo 0), .int (nI t), .int (nI x)] (bd_P K E0 z0 sz)) (va_Qv (fun u => ∃ rg : Nat → Int, md_v K u.1 mo th P rg ∧ rg t = sp_EXP (P + 64) (rg0 x) ∧ ∀ j, j ≠ t ∧ j ≠ 32 ∧ (j < 35 ∨ 39 < j) → rg j = rg0 j) (bd_B K) (bd_A K sz)) 0 0 (bd_A K sz) := by
  refine bd_ofW (cc := cX5_fineExp) (maxL := 5) (ret := none) (by decide) rfl (Nat.le_of_ble_eq_true rfl) ?_
  intro p e s m below meth c ls C hr hlk hsz hw hl
  have hx := C.1
  have hb := C.2.1
  have hown := C.2.2.2.1
  have hts := C.2.2.2.2.1
  have i5 : ∀ w ∈ wsX50, w ∈ wsX5_fineExp := by decide +kernel
  have lk27 : Cond.fieldLink RX5 27 "BallDeskModel" "fine" "I" ∈ wsX5_fineExp := by decide +kernel
  have hl : lv_has ls 5 [(0, .ref (mo 0)), (1, .int (nI t)), (2, .int (nI x))] := hl
  obtain ⟨hP1, hP2⟩ := mv_P hv
  have hp256 : (2 : Nat) ^ (P + 64) ≤ 2 ^ 256 := Nat.pow_le_pow_right (by decide) (by omega)
  have hp80 : (2 : Nat) ^ 80 ≤ 2 ^ (P + 64) := Nat.pow_le_pow_right (by decide) (by omega)
  have hDp : (0 : Int) < ((2 ^ (P + 64) : Nat) : Int) := by omega
  have hbl : q_bl (rg0 x).natAbs ≤ P + 64 + 5 := by
    unfold q_bl
    split
    · omega
    · rename_i h
      have h9 := (Nat.log2_lt h).mpr (show (rg0 x).natAbs < 2 ^ (P + 64 + 5) from Nat.lt_of_le_of_lt hb1 (Nat.pow_lt_pow_right (by decide) (by omega)))
      omega
  have hcut := sp_cut (t := rg0 x) (Q := P + 64) (by omega)
  have hpw : 2 ^ (P + 64 - 8) * 256 = 2 ^ (P + 64) := by rw [show (256 : Nat) = 2 ^ 8 by decide, ← Nat.pow_add]; congr 1
  obtain ⟨yy, hyy⟩ : ∃ y, y = (rg0 x / ((2 ^ (q_bl (rg0 x).natAbs - (P + 64 - 8)) : Nat) : Int)) := ⟨_, rfl⟩
  obtain ⟨ns, hns⟩ : ∃ y, y = (q_bl (rg0 x).natAbs - (P + 64 - 8)) := ⟨_, rfl⟩
  rw [← hyy] at hcut
  rw [← hns] at hyy
  have hns13 : ns ≤ 13 := by omega
  have hy4 : 4 * (yy.natAbs : Int) ≤ ((2 ^ (P + 64) : Nat) : Int) := by omega
  have hy256 : 256 * (yy.natAbs : Int) ≤ ((2 ^ (P + 64) : Nat) : Int) := by omega
  have hyb : yy.natAbs ≤ 2 ^ 256 := by omega
  have hH := sp_epH hDp hy4
  obtain ⟨m0, hm0, hend⟩ := sp_ex hH (N := 257) (show (((2 ^ (P + 64) : Nat) : Int) : Int).natAbs < 2 ^ 257 from Nat.lt_of_le_of_lt (show (((2 ^ (P + 64) : Nat) : Int) : Int).natAbs ≤ 2 ^ 256 by omega) (by decide +kernel))
  have hmp : 0 < m0 := by
    rcases Nat.eq_zero_or_pos m0 with q | q
    · rw [q] at hend
      rcases hend.1 with r | r
      · have : ((2 ^ (P + 64) : Nat) : Int) = 0 := r
        omega
      · have : ((2 ^ (P + 64) : Nat) : Int) = -1 := r
        omega
    · exact q
  have hxp : sp_xp (P + 64) (rg0 x) (sp_sqr ((2 ^ (P + 64) : Nat) : Int) (sp_sum (sp_ep ((2 ^ (P + 64) : Nat) : Int) yy) m0) ns) := by unfold sp_xp; rw [← hns, ← hyy]; exact ⟨m0, hend, rfl⟩
  have f_x : rg0 x = rg0 x := rfl
  have f_27 : rg0 27 = ((2 ^ (P + 64) : Nat) : Int) := hf_27
  have hof : ∀ j, j ≠ t ∧ j ≠ 32 ∧ (j < 35 ∨ 39 < j) → rg0 j = rg0 j := fun _ _ => rfl
  refine lv_aload_n hx hb dX5_fineExp_0 rfl (lv_at hl 0 rfl) ?_
  refine lv_iload_n hx hb dX5_fineExp_1 rfl (lv_at hl 2 rfl) ?_
  refine bd_cip (As := [.int (nI x)]) (rest := []) C (v5_bits _ _ _ _ _ hv x (by omega)) (cwV 1 hts gX5_fineExp_X5_bits rfl rfl rfl (by decide +kernel) ⟨Nat.le_of_ble_eq_true rfl, Nat.le_of_ble_eq_true rfl⟩) hsz hw (mv_recv C hw hv) dX5_fineExp_2 rfl hl.1 rfl (Nat.le_of_ble_eq_true rfl) ⟨Nat.le_refl _, Nat.le_refl _⟩ (fun H locs hw => ?_)
  rw [f_x]
  refine lv_aload_n hx hb dX5_fineExp_5 rfl (lv_at hl 0 rfl) ?_
  refine mv_g C i5 hw hv 2 (by decide) (v := .int (nI (P + 64))) rfl dX5_fineExp_6 lk27 ?_
  refine lv_bipush (v := nI 8) hx hb dX5_fineExp_9 (by decide) ?_
  refine bd_isub (v := (nI (P + 64 - 8))) hx hb dX5_fineExp_11 (pk_sub (by omega)) ?_
  refine bd_ile (h1 := (nI_blt hv (by omega))) (h2 := (by omega)) (tgt := 31) hx hb dX5_fineExp_12 (by decide) (fun hc12 => ?_) (fun hc12 => ?_)
  · refine lv_iconst (v := nI ns) hx hb dX5_fineExp_31 (by rw [show ns = 0 by omega]; decide) ?_
    refine lv_istore_n (lv' := [(3, .int (nI ns)), (0, .ref (mo 0)), (1, .int (nI t)), (2, .int (nI x))]) hx hb dX5_fineExp_32 rfl hl (by decide) rfl (fun ls hl => ?_)
    refine lv_aload_n hx hb dX5_fineExp_33 rfl (lv_at hl 1 rfl) ?_
    refine lv_bipush (v := nI 35) hx hb dX5_fineExp_34 (by decide) ?_
    refine lv_iload_n hx hb dX5_fineExp_36 rfl (lv_at hl 3 rfl) ?_
    refine lv_iload_n hx hb dX5_fineExp_37 rfl (lv_at hl 0 rfl) ?_
    refine bd_cv (As := [.int (nI 35), .int (nI x), .int (nI ns)]) (rest := []) C (v5_down _ _ _ _ _ hv 35 x ns (by omega) (by omega) (by omega) (by omega)) (cwV 3 hts gX5_fineExp_X5_down rfl rfl rfl (by decide +kernel) ⟨Nat.le_of_ble_eq_true rfl, Nat.le_of_ble_eq_true rfl⟩) hsz hw (mv_recv C hw hv) dX5_fineExp_38 rfl hl.1 rfl (Nat.le_of_ble_eq_true rfl) ⟨Nat.le_refl _, Nat.le_refl _⟩ (fun E z H locs hp hw => ?_)
    obtain ⟨rg, hv, hv0_, hf9⟩ := hp
    have fT0_ : rg 35 = yy := hv0_.trans (by rw [f_x]; exact hyy.symm)
    have f_x : rg x = rg0 x := (hf9 x (by omega) (by omega)).trans f_x
    have f_27 : rg 27 = ((2 ^ (P + 64) : Nat) : Int) := (hf9 27 (by omega) (by omega)).trans f_27
    have f_35 := fT0_
    have hof : ∀ j, j ≠ t ∧ j ≠ 32 ∧ (j < 35 ∨ 39 < j) → rg j = rg0 j := fun j hj => (hf9 j (by omega) (by omega)).trans (hof j hj)
    refine lv_aload_n hx hb dX5_fineExp_41 rfl (lv_at hl 1 rfl) ?_
    refine lv_bipush (v := nI 36) hx hb dX5_fineExp_42 (by decide) ?_
    refine lv_bipush (v := nI 27) hx hb dX5_fineExp_44 (by decide) ?_
    refine bd_cv (As := [.int (nI 36), .int (nI 27)]) (rest := []) C (v5_copy _ _ _ _ _ hv 36 27 (by omega) (by omega)) (cwV 2 hts gX5_fineExp_X5_copy rfl rfl rfl (by decide +kernel) ⟨Nat.le_of_ble_eq_true rfl, Nat.le_of_ble_eq_true rfl⟩) hsz hw (mv_recv C hw hv) dX5_fineExp_46 rfl hl.1 rfl (Nat.le_of_ble_eq_true rfl) ⟨Nat.le_refl _, Nat.le_refl _⟩ (fun E z H locs hp hw => ?_)
    obtain ⟨rg, hv, hv0_, hf9⟩ := hp
    have fT0_ : rg 36 = ((2 ^ (P + 64) : Nat) : Int) := hv0_.trans (by rw [f_27])
    have f_x : rg x = rg0 x := (hf9 x (by omega)).trans f_x
    have f_27 : rg 27 = ((2 ^ (P + 64) : Nat) : Int) := (hf9 27 (by omega)).trans f_27
    have f_35 : rg 35 = yy := (hf9 35 (by omega)).trans f_35
    have f_36 := fT0_
    have hof : ∀ j, j ≠ t ∧ j ≠ 32 ∧ (j < 35 ∨ 39 < j) → rg j = rg0 j := fun j hj => (hf9 j (by omega)).trans (hof j hj)
    refine lv_aload_n hx hb dX5_fineExp_49 rfl (lv_at hl 1 rfl) ?_
    refine lv_bipush (v := nI 37) hx hb dX5_fineExp_50 (by decide) ?_
    refine bd_cv (As := [.int (nI 37)]) (rest := []) C (v5_none _ _ _ _ _ hv 37 (by omega)) (cwV 1 hts gX5_fineExp_X5_none rfl rfl rfl (by decide +kernel) ⟨Nat.le_of_ble_eq_true rfl, Nat.le_of_ble_eq_true rfl⟩) hsz hw (mv_recv C hw hv) dX5_fineExp_52 rfl hl.1 rfl (Nat.le_of_ble_eq_true rfl) ⟨Nat.le_refl _, Nat.le_refl _⟩ (fun E z H locs hp hw => ?_)
    obtain ⟨rg, hv, hv0_, hf9⟩ := hp
    have fT0_ : rg 37 = 0 := hv0_.trans (by rfl)
    have f_x : rg x = rg0 x := (hf9 x (by omega)).trans f_x
    have f_27 : rg 27 = ((2 ^ (P + 64) : Nat) : Int) := (hf9 27 (by omega)).trans f_27
    have f_35 : rg 35 = yy := (hf9 35 (by omega)).trans f_35
    have f_36 : rg 36 = ((2 ^ (P + 64) : Nat) : Int) := (hf9 36 (by omega)).trans f_36
    have f_37 := fT0_
    have hof : ∀ j, j ≠ t ∧ j ≠ 32 ∧ (j < 35 ∨ 39 < j) → rg j = rg0 j := fun j hj => (hf9 j (by omega)).trans (hof j hj)
    refine lv_iconst (v := nI 1) hx hb dX5_fineExp_55 (by decide) ?_
    refine lv_istore (lv' := [(4, .int (nI 1)), (3, .int (nI ns)), (0, .ref (mo 0)), (1, .int (nI t)), (2, .int (nI x))]) hx hb dX5_fineExp_56 hl (by decide) rfl (fun ls hl => ?_)
    suffices hloop : ∀ (d9 j : Nat) (E : Nat → va_E) (z : Nat → Wh) (rg : Nat → Int) (ls : Array Slot) (H : Heap) (locs : List Loc), j + d9 = m0 → md_v K E mo th P rg → (rg 35 = yy) → (rg 36 = ((sp_ep ((2 ^ (P + 64) : Nat) : Int) yy) j)) → (rg 37 = (sp_sum (sp_ep ((2 ^ (P + 64) : Nat) : Int) yy) j)) → (∀ j, j ≠ t ∧ j ≠ 32 ∧ (j < 35 ∨ 39 < j) → rg j = rg0 j) → lv_has ls 5 [(4, .int (nI (j + 1))), (3, .int (nI ns)), (0, .ref (mo 0)), (1, .int (nI t))] → bd_W K E z (bd_A K sz) s.heap H locs → W p l e (headSpec wsX5_fineExp ({ frames := 6, cells := 0, slots := 0, locals := 200 })).room s m [.ref (mo 0), .int (nI t), .int (nI x)].toArray below meth c H locs 0 0 (MQ below (va_Qv (fun u => ∃ rg : Nat → Int, md_v K u.1 mo th P rg ∧ rg t = sp_EXP (P + 64) (rg0 x) ∧ ∀ j, j ≠ t ∧ j ≠ 32 ∧ (j < 35 ∨ 39 < j) → rg j = rg0 j) (bd_B K) (bd_A K sz)) [.ref (mo 0), .int (nI t), .int (nI x)].toArray s 0 0 (bd_A K sz)) (F0 m 58 ls []) from hloop m0 0 E z rg ls _ _ (by omega) hv f_35 f_36 f_37  hof (lv_sub hl [0, 1, 2, 3] rfl) hw
    clear hw hl ls hv hof f_x f_27 f_35 f_36 f_37 
    intro d9
    induction d9 using Nat.strongRecOn with
    | ind d9 ih =>
      intro j E z rg ls H locs hjd9 hv f_35 f_36 f_37  hof hl hw
      have hun : ∀ i, i < j → ¬ sp_sp ((sp_ep ((2 ^ (P + 64) : Nat) : Int) yy) i) := fun i hi => hend.2 i (by omega)
      have hD256 : ((sp_ep ((2 ^ (P + 64) : Nat) : Int) yy) 0).natAbs ≤ 2 ^ 256 := by show (((2 ^ (P + 64) : Nat) : Int) : Int).natAbs ≤ _; omega
      have hpj : ((sp_ep ((2 ^ (P + 64) : Nat) : Int) yy) j).natAbs ≤ 2 ^ 257 := Nat.le_trans (sp_le hH hun) (Nat.le_trans (Nat.add_le_add_right hD256 1) (by decide +kernel))
      have hsum : (sp_sum (sp_ep ((2 ^ (P + 64) : Nat) : Int) yy) j).natAbs ≤ 2 ^ 257 := Nat.le_trans (sp_suml _ _) (Nat.le_trans (sp_abl hH hun) (Nat.le_trans (Nat.mul_le_mul_left 2 hD256) (by decide +kernel)))
      refine lv_aload_n hx hb dX5_fineExp_58 rfl (lv_at hl 2 rfl) ?_
      refine lv_bipush (v := nI 36) hx hb dX5_fineExp_59 (by decide) ?_
      refine bd_cip (As := [.int (nI 36)]) (rest := []) C (v5_isEnd _ _ _ _ _ hv 36 (by omega)) (cwV 1 hts gX5_fineExp_X5_isEnd rfl rfl rfl (by decide +kernel) ⟨Nat.le_of_ble_eq_true rfl, Nat.le_of_ble_eq_true rfl⟩) hsz hw (mv_recv C hw hv) dX5_fineExp_61 rfl hl.1 rfl (Nat.le_of_ble_eq_true rfl) ⟨Nat.le_refl _, Nat.le_refl _⟩ (fun H locs hw => ?_)
      rw [f_36]
      refine lv_if_ne (tgt := 115) hx hb dX5_fineExp_64 (by decide) (fun hc64 => ?_) (fun hc64 => ?_)
      · have hsp : sp_sp ((sp_ep ((2 ^ (P + 64) : Nat) : Int) yy) j) := sp_if1 hc64
        have hm : j = m0 := (Nat.lt_or_ge j m0).elim (fun q => absurd hsp (hend.2 j q)) (fun q => by omega)
        rw [hm] at f_37
        refine lv_iconst (v := nI 0) hx hb dX5_fineExp_115 (by decide) ?_
        refine lv_istore (lv' := [(4, .int (nI 0)), (3, .int (nI ns)), (0, .ref (mo 0)), (1, .int (nI t))]) hx hb dX5_fineExp_116 hl (by decide) rfl (fun ls hl => ?_)
        have hnear := sp_near hH hmp hend.2
        have hp1 := sp_p1 (D := ((2 ^ (P + 64) : Nat) : Int)) (y := yy) (by omega) hy256
        have hne0 : (sp_ep ((2 ^ (P + 64) : Nat) : Int) yy) 0 = ((2 ^ (P + 64) : Nat) : Int) := rfl
        rw [hne0] at hnear
        have hS0 : 0 ≤ (sp_sum (sp_ep ((2 ^ (P + 64) : Nat) : Int) yy) m0) := by omega
        have hSb : (sp_sum (sp_ep ((2 ^ (P + 64) : Nat) : Int) yy) m0) * 65536 ≤ ((2 ^ (P + 64) : Nat) : Int) * 66560 := by omega
        have hsq := sp_sqrb hDp hS0 hSb
        suffices hloop : ∀ (d8 i : Nat) (E : Nat → va_E) (z : Nat → Wh) (rg : Nat → Int) (ls : Array Slot) (H : Heap) (locs : List Loc), i + d8 = ns → md_v K E mo th P rg → (rg 37 = (sp_sqr ((2 ^ (P + 64) : Nat) : Int) (sp_sum (sp_ep ((2 ^ (P + 64) : Nat) : Int) yy) m0) i)) → (∀ j, j ≠ t ∧ j ≠ 32 ∧ (j < 35 ∨ 39 < j) → rg j = rg0 j) → lv_has ls 5 [(4, .int (nI i)), (3, .int (nI ns)), (0, .ref (mo 0)), (1, .int (nI t))] → bd_W K E z (bd_A K sz) s.heap H locs → W p l e (headSpec wsX5_fineExp ({ frames := 6, cells := 0, slots := 0, locals := 200 })).room s m [.ref (mo 0), .int (nI t), .int (nI x)].toArray below meth c H locs 0 0 (MQ below (va_Qv (fun u => ∃ rg : Nat → Int, md_v K u.1 mo th P rg ∧ rg t = sp_EXP (P + 64) (rg0 x) ∧ ∀ j, j ≠ t ∧ j ≠ 32 ∧ (j < 35 ∨ 39 < j) → rg j = rg0 j) (bd_B K) (bd_A K sz)) [.ref (mo 0), .int (nI t), .int (nI x)].toArray s 0 0 (bd_A K sz)) (F0 m 118 ls []) from hloop ns 0 E z rg ls _ _ (by omega) hv f_37  hof (lv_sub hl [0, 1, 2, 3] rfl) hw
        clear hw hl ls hv hof f_35 f_36 f_37 
        intro d8
        induction d8 using Nat.strongRecOn with
        | ind d8 ih2 =>
          intro i E z rg ls H locs hjd8 hv f_37  hof hl hw
          refine lv_iload hx hb dX5_fineExp_118 (lv_at hl 0 rfl) ?_
          refine lv_iload_n hx hb dX5_fineExp_120 rfl (lv_at hl 1 rfl) ?_
          refine bd_ige (h1 := (by omega)) (h2 := (by omega)) (tgt := 152) hx hb dX5_fineExp_121 (by decide) (fun hc121 => ?_) (fun hc121 => ?_)
          · have hin : i = ns := by omega
            rw [hin] at f_37
            refine lv_aload_n hx hb dX5_fineExp_152 rfl (lv_at hl 2 rfl) ?_
            refine lv_iload_n hx hb dX5_fineExp_153 rfl (lv_at hl 3 rfl) ?_
            refine lv_bipush (v := nI 37) hx hb dX5_fineExp_154 (by decide) ?_
            refine bd_cv (As := [.int (nI t), .int (nI 37)]) (rest := []) C (v5_copy _ _ _ _ _ hv t 37 (by omega) (by omega)) (cwV 2 hts gX5_fineExp_X5_copy rfl rfl rfl (by decide +kernel) ⟨Nat.le_of_ble_eq_true rfl, Nat.le_of_ble_eq_true rfl⟩) hsz hw (mv_recv C hw hv) dX5_fineExp_156 rfl hl.1 rfl (Nat.le_of_ble_eq_true rfl) ⟨Nat.le_refl _, Nat.le_refl _⟩ (fun E z H locs hp hw => ?_)
            obtain ⟨rg, hv, hv0_, hf9⟩ := hp
            have fT0_ : rg t = (sp_sqr ((2 ^ (P + 64) : Nat) : Int) (sp_sum (sp_ep ((2 ^ (P + 64) : Nat) : Int) yy) m0) ns) := hv0_.trans (by rw [f_37])
            have f_37 : rg 37 = (sp_sqr ((2 ^ (P + 64) : Nat) : Int) (sp_sum (sp_ep ((2 ^ (P + 64) : Nat) : Int) yy) m0) ns) := (hf9 37 (by omega)).trans f_37
            have f_t := fT0_
            have hof : ∀ j, j ≠ t ∧ j ≠ 32 ∧ (j < 35 ∨ 39 < j) → rg j = rg0 j := fun j hj => (hf9 j (by omega)).trans (hof j hj)
            exact bd_vret C hr hlk hw dX5_fineExp_159 (⟨rg, hv, f_t.trans (sp_EXPe hxp), hof⟩)
          · have hbf := sp_bf11 i (by omega)
            have hsi := hsq i
            have hsb : (sp_sqr ((2 ^ (P + 64) : Nat) : Int) (sp_sum (sp_ep ((2 ^ (P + 64) : Nat) : Int) yy) m0) i).natAbs ≤ 2 ^ 352 := by
              have h1 : ((2 ^ (P + 64) : Nat) : Int) * (sp_bf i : Int) ≤ ((2 ^ 256 * 2 ^ 110 : Nat) : Int) := by
                rw [← Int.natCast_mul]
                have := Nat.mul_le_mul hp256 hbf
                omega
              have h2 : (2 : Nat) ^ 256 * 2 ^ 110 < 2 ^ 352 * 65536 := by decide +kernel
              omega
            refine lv_aload_n hx hb dX5_fineExp_124 rfl (lv_at hl 2 rfl) ?_
            refine lv_bipush (v := nI 38) hx hb dX5_fineExp_125 (by decide) ?_
            refine lv_bipush (v := nI 37) hx hb dX5_fineExp_127 (by decide) ?_
            refine lv_bipush (v := nI 37) hx hb dX5_fineExp_129 (by decide) ?_
            refine bd_cv (As := [.int (nI 38), .int (nI 37), .int (nI 37)]) (rest := []) C (v5_product _ _ _ _ _ hv 38 37 37 (by omega) (by omega) (by omega) (by rw [f_37]; exact (b34 (Nat.le_trans (mul_b hsb hsb) (by decide +kernel))))) (cwV 3 hts gX5_fineExp_X5_product rfl rfl rfl (by decide +kernel) ⟨Nat.le_of_ble_eq_true rfl, Nat.le_of_ble_eq_true rfl⟩) hsz hw (mv_recv C hw hv) dX5_fineExp_131 rfl hl.1 rfl (Nat.le_of_ble_eq_true rfl) ⟨Nat.le_refl _, Nat.le_refl _⟩ (fun E z H locs hp hw => ?_)
            obtain ⟨rg, hv, hv0_, hf9⟩ := hp
            have fT0_ : rg 38 = (sp_sqr ((2 ^ (P + 64) : Nat) : Int) (sp_sum (sp_ep ((2 ^ (P + 64) : Nat) : Int) yy) m0) i * sp_sqr ((2 ^ (P + 64) : Nat) : Int) (sp_sum (sp_ep ((2 ^ (P + 64) : Nat) : Int) yy) m0) i) := hv0_.trans (by rw [f_37])
            have f_37 : rg 37 = (sp_sqr ((2 ^ (P + 64) : Nat) : Int) (sp_sum (sp_ep ((2 ^ (P + 64) : Nat) : Int) yy) m0) i) := (hf9 37 (by omega)).trans f_37
            have f_38 := fT0_
            have hof : ∀ j, j ≠ t ∧ j ≠ 32 ∧ (j < 35 ∨ 39 < j) → rg j = rg0 j := fun j hj => (hf9 j (by omega)).trans (hof j hj)
            refine lv_aload_n hx hb dX5_fineExp_134 rfl (lv_at hl 2 rfl) ?_
            refine lv_bipush (v := nI 37) hx hb dX5_fineExp_135 (by decide) ?_
            refine lv_bipush (v := nI 38) hx hb dX5_fineExp_137 (by decide) ?_
            refine lv_aload_n hx hb dX5_fineExp_139 rfl (lv_at hl 2 rfl) ?_
            refine mv_g C i5 hw hv 2 (by decide) (v := .int (nI (P + 64))) rfl dX5_fineExp_140 lk27 ?_
            refine bd_cv (As := [.int (nI 37), .int (nI 38), .int (nI (P + 64))]) (rest := []) C (v5_down _ _ _ _ _ hv 37 38 (P + 64) (by omega) (by omega) (by omega) (by omega)) (cwV 3 hts gX5_fineExp_X5_down rfl rfl rfl (by decide +kernel) ⟨Nat.le_of_ble_eq_true rfl, Nat.le_of_ble_eq_true rfl⟩) hsz hw (mv_recv C hw hv) dX5_fineExp_143 rfl hl.1 rfl (Nat.le_of_ble_eq_true rfl) ⟨Nat.le_refl _, Nat.le_refl _⟩ (fun E z H locs hp hw => ?_)
            obtain ⟨rg, hv, hv0_, hf9⟩ := hp
            have fT0_ : rg 37 = (sp_sqr ((2 ^ (P + 64) : Nat) : Int) (sp_sum (sp_ep ((2 ^ (P + 64) : Nat) : Int) yy) m0) (i + 1)) := hv0_.trans (by rw [f_38]; rfl)
            have f_38 : rg 38 = (sp_sqr ((2 ^ (P + 64) : Nat) : Int) (sp_sum (sp_ep ((2 ^ (P + 64) : Nat) : Int) yy) m0) i * sp_sqr ((2 ^ (P + 64) : Nat) : Int) (sp_sum (sp_ep ((2 ^ (P + 64) : Nat) : Int) yy) m0) i) := (hf9 38 (by omega) (by omega)).trans f_38
            have f_37 := fT0_
            have hof : ∀ j, j ≠ t ∧ j ≠ 32 ∧ (j < 35 ∨ 39 < j) → rg j = rg0 j := fun j hj => (hf9 j (by omega) (by omega)).trans (hof j hj)
            refine lv_iinc (v := (nI (i + 1))) (lv' := [(4, .int (nI (i + 1))), (3, .int (nI ns)), (0, .ref (mo 0)), (1, .int (nI t))]) hx hb dX5_fineExp_146 hl (k := 0) rfl (nI_1 _) (by decide) rfl (fun ls hl => ?_)
            refine lv_goto (tgt := 118) hx hb dX5_fineExp_149 (by decide) ?_
            exact ih2 (d8 - 1) (by omega) (i + 1) E z rg ls H locs (by omega) hv f_37  hof (lv_sub hl [0, 1, 2, 3] rfl) hw
      · have hsp : ¬ sp_sp ((sp_ep ((2 ^ (P + 64) : Nat) : Int) yy) j) := sp_if0 hc64
        have hjm : j < m0 := (Nat.lt_or_ge j m0).elim id (fun q => absurd (show sp_sp ((sp_ep ((2 ^ (P + 64) : Nat) : Int) yy) j) by rw [show j = m0 by omega]; exact hend.1) hsp)
        refine lv_aload_n hx hb dX5_fineExp_67 rfl (lv_at hl 2 rfl) ?_
        refine lv_bipush (v := nI 37) hx hb dX5_fineExp_68 (by decide) ?_
        refine lv_bipush (v := nI 37) hx hb dX5_fineExp_70 (by decide) ?_
        refine lv_bipush (v := nI 36) hx hb dX5_fineExp_72 (by decide) ?_
        refine bd_cv (As := [.int (nI 37), .int (nI 37), .int (nI 36)]) (rest := []) C (v5_plus _ _ _ _ _ hv 37 37 36 (by omega) (by omega) (by omega) (by rw [f_37, f_36]; exact (b34 (Nat.le_trans (add_b hsum hpj) (by decide +kernel))))) (cwV 3 hts gX5_fineExp_X5_plus rfl rfl rfl (by decide +kernel) ⟨Nat.le_of_ble_eq_true rfl, Nat.le_of_ble_eq_true rfl⟩) hsz hw (mv_recv C hw hv) dX5_fineExp_74 rfl hl.1 rfl (Nat.le_of_ble_eq_true rfl) ⟨Nat.le_refl _, Nat.le_refl _⟩ (fun E z H locs hp hw => ?_)
        obtain ⟨rg, hv, hv0_, hf9⟩ := hp
        have fT0_ : rg 37 = (sp_sum (sp_ep ((2 ^ (P + 64) : Nat) : Int) yy) (j + 1)) := hv0_.trans (by rw [f_37, f_36]; rfl)
        have f_35 : rg 35 = yy := (hf9 35 (by omega)).trans f_35
        have f_36 : rg 36 = ((sp_ep ((2 ^ (P + 64) : Nat) : Int) yy) j) := (hf9 36 (by omega)).trans f_36
        have f_37 := fT0_
        have hof : ∀ j, j ≠ t ∧ j ≠ 32 ∧ (j < 35 ∨ 39 < j) → rg j = rg0 j := fun j hj => (hf9 j (by omega)).trans (hof j hj)
        refine lv_aload_n hx hb dX5_fineExp_77 rfl (lv_at hl 2 rfl) ?_
        refine lv_bipush (v := nI 38) hx hb dX5_fineExp_78 (by decide) ?_
        refine lv_bipush (v := nI 36) hx hb dX5_fineExp_80 (by decide) ?_
        refine lv_bipush (v := nI 35) hx hb dX5_fineExp_82 (by decide) ?_
        refine bd_cv (As := [.int (nI 38), .int (nI 36), .int (nI 35)]) (rest := []) C (v5_product _ _ _ _ _ hv 38 36 35 (by omega) (by omega) (by omega) (by rw [f_36, f_35]; exact (b34 (Nat.le_trans (mul_b hpj hyb) (by decide +kernel))))) (cwV 3 hts gX5_fineExp_X5_product rfl rfl rfl (by decide +kernel) ⟨Nat.le_of_ble_eq_true rfl, Nat.le_of_ble_eq_true rfl⟩) hsz hw (mv_recv C hw hv) dX5_fineExp_84 rfl hl.1 rfl (Nat.le_of_ble_eq_true rfl) ⟨Nat.le_refl _, Nat.le_refl _⟩ (fun E z H locs hp hw => ?_)
        obtain ⟨rg, hv, hv0_, hf9⟩ := hp
        have fT0_ : rg 38 = (((sp_ep ((2 ^ (P + 64) : Nat) : Int) yy) j) * yy) := hv0_.trans (by rw [f_36, f_35])
        have f_35 : rg 35 = yy := (hf9 35 (by omega)).trans f_35
        have f_36 : rg 36 = ((sp_ep ((2 ^ (P + 64) : Nat) : Int) yy) j) := (hf9 36 (by omega)).trans f_36
        have f_37 : rg 37 = (sp_sum (sp_ep ((2 ^ (P + 64) : Nat) : Int) yy) (j + 1)) := (hf9 37 (by omega)).trans f_37
        have f_38 := fT0_
        have hof : ∀ j, j ≠ t ∧ j ≠ 32 ∧ (j < 35 ∨ 39 < j) → rg j = rg0 j := fun j hj => (hf9 j (by omega)).trans (hof j hj)
        refine lv_aload_n hx hb dX5_fineExp_87 rfl (lv_at hl 2 rfl) ?_
        refine lv_bipush (v := nI 38) hx hb dX5_fineExp_88 (by decide) ?_
        refine lv_bipush (v := nI 38) hx hb dX5_fineExp_90 (by decide) ?_
        refine lv_aload_n hx hb dX5_fineExp_92 rfl (lv_at hl 2 rfl) ?_
        refine mv_g C i5 hw hv 2 (by decide) (v := .int (nI (P + 64))) rfl dX5_fineExp_93 lk27 ?_
        refine bd_cv (As := [.int (nI 38), .int (nI 38), .int (nI (P + 64))]) (rest := []) C (v5_down _ _ _ _ _ hv 38 38 (P + 64) (by omega) (by omega) (by omega) (by omega)) (cwV 3 hts gX5_fineExp_X5_down rfl rfl rfl (by decide +kernel) ⟨Nat.le_of_ble_eq_true rfl, Nat.le_of_ble_eq_true rfl⟩) hsz hw (mv_recv C hw hv) dX5_fineExp_96 rfl hl.1 rfl (Nat.le_of_ble_eq_true rfl) ⟨Nat.le_refl _, Nat.le_refl _⟩ (fun E z H locs hp hw => ?_)
        obtain ⟨rg, hv, hv0_, hf9⟩ := hp
        have fT0_ : rg 38 = (((sp_ep ((2 ^ (P + 64) : Nat) : Int) yy) j) * yy / ((2 ^ (P + 64) : Nat) : Int)) := hv0_.trans (by rw [f_38])
        have f_35 : rg 35 = yy := (hf9 35 (by omega) (by omega)).trans f_35
        have f_36 : rg 36 = ((sp_ep ((2 ^ (P + 64) : Nat) : Int) yy) j) := (hf9 36 (by omega) (by omega)).trans f_36
        have f_37 : rg 37 = (sp_sum (sp_ep ((2 ^ (P + 64) : Nat) : Int) yy) (j + 1)) := (hf9 37 (by omega) (by omega)).trans f_37
        have f_38 := fT0_
        have hof : ∀ j, j ≠ t ∧ j ≠ 32 ∧ (j < 35 ∨ 39 < j) → rg j = rg0 j := fun j hj => (hf9 j (by omega) (by omega)).trans (hof j hj)
        refine lv_aload_n hx hb dX5_fineExp_99 rfl (lv_at hl 2 rfl) ?_
        refine lv_bipush (v := nI 36) hx hb dX5_fineExp_100 (by decide) ?_
        refine lv_bipush (v := nI 38) hx hb dX5_fineExp_102 (by decide) ?_
        refine lv_iload hx hb dX5_fineExp_104 (lv_at hl 0 rfl) ?_
        refine bd_cv (As := [.int (nI 36), .int (nI 38), .int (nI (j + 1))]) (rest := []) C (v5_divideSmall _ _ _ _ _ hv 36 38 (j + 1) (by omega) (by omega) (by omega) (by omega) (by omega)) (cwV 3 hts gX5_fineExp_X5_divideSmall rfl rfl rfl (by decide +kernel) ⟨Nat.le_of_ble_eq_true rfl, Nat.le_of_ble_eq_true rfl⟩) hsz hw (mv_recv C hw hv) dX5_fineExp_106 rfl hl.1 rfl (Nat.le_of_ble_eq_true rfl) ⟨Nat.le_refl _, Nat.le_refl _⟩ (fun E z H locs hp hw => ?_)
        obtain ⟨rg, hv, hv0_, hf9⟩ := hp
        have fT0_ : rg 36 = ((sp_ep ((2 ^ (P + 64) : Nat) : Int) yy) (j + 1)) := hv0_.trans (by rw [f_38]; rfl)
        have f_35 : rg 35 = yy := (hf9 35 (by omega) (by omega)).trans f_35
        have f_37 : rg 37 = (sp_sum (sp_ep ((2 ^ (P + 64) : Nat) : Int) yy) (j + 1)) := (hf9 37 (by omega) (by omega)).trans f_37
        have f_38 : rg 38 = (((sp_ep ((2 ^ (P + 64) : Nat) : Int) yy) j) * yy / ((2 ^ (P + 64) : Nat) : Int)) := (hf9 38 (by omega) (by omega)).trans f_38
        have f_36 := fT0_
        have hof : ∀ j, j ≠ t ∧ j ≠ 32 ∧ (j < 35 ∨ 39 < j) → rg j = rg0 j := fun j hj => (hf9 j (by omega) (by omega)).trans (hof j hj)
        refine lv_iinc (v := (nI ((j + 1) + 1))) (lv' := [(4, .int (nI ((j + 1) + 1))), (3, .int (nI ns)), (0, .ref (mo 0)), (1, .int (nI t))]) hx hb dX5_fineExp_109 hl (k := 0) rfl (nI_1 _) (by decide) rfl (fun ls hl => ?_)
        refine lv_goto (tgt := 58) hx hb dX5_fineExp_112 (by decide) ?_
        exact ih (d9 - 1) (by omega) (j + 1) E z rg ls H locs (by omega) hv f_35 f_36 f_37  hof (lv_sub hl [0, 1, 2, 3] rfl) hw
  · refine lv_aload_n hx hb dX5_fineExp_15 rfl (lv_at hl 0 rfl) ?_
    refine lv_iload_n hx hb dX5_fineExp_16 rfl (lv_at hl 2 rfl) ?_
    refine bd_cip (As := [.int (nI x)]) (rest := []) C (v5_bits _ _ _ _ _ hv x (by omega)) (cwV 1 hts gX5_fineExp_X5_bits rfl rfl rfl (by decide +kernel) ⟨Nat.le_of_ble_eq_true rfl, Nat.le_of_ble_eq_true rfl⟩) hsz hw (mv_recv C hw hv) dX5_fineExp_17 rfl hl.1 rfl (Nat.le_of_ble_eq_true rfl) ⟨Nat.le_refl _, Nat.le_refl _⟩ (fun H locs hw => ?_)
    rw [f_x]
    refine lv_aload_n hx hb dX5_fineExp_20 rfl (lv_at hl 0 rfl) ?_
    refine mv_g C i5 hw hv 2 (by decide) (v := .int (nI (P + 64))) rfl dX5_fineExp_21 lk27 ?_
    refine bd_isub (v := (iZ ((q_bl (rg0 x).natAbs : Int) - ((P + 64 : Nat) : Int)))) hx hb dX5_fineExp_24 (iZ_sub _ _) ?_
    refine lv_bipush (v := nI 8) hx hb dX5_fineExp_25 (by decide) ?_
    have h27 : (q_bl (rg0 x).natAbs : Int) - ((P + 64 : Nat) : Int) + 8 = (ns : Int) := by omega
    refine bd_iadd (v := nI ns) hx hb dX5_fineExp_27 (by rw [show nI 8 = iZ 8 from rfl, iZ_add, h27, iZ_nat]) ?_
    refine lv_goto (tgt := 32) hx hb dX5_fineExp_28 (by decide) ?_
    refine lv_istore_n (lv' := [(3, .int (nI ns)), (0, .ref (mo 0)), (1, .int (nI t)), (2, .int (nI x))]) hx hb dX5_fineExp_32 rfl hl (by decide) rfl (fun ls hl => ?_)
    refine lv_aload_n hx hb dX5_fineExp_33 rfl (lv_at hl 1 rfl) ?_
    refine lv_bipush (v := nI 35) hx hb dX5_fineExp_34 (by decide) ?_
    refine lv_iload_n hx hb dX5_fineExp_36 rfl (lv_at hl 3 rfl) ?_
    refine lv_iload_n hx hb dX5_fineExp_37 rfl (lv_at hl 0 rfl) ?_
    refine bd_cv (As := [.int (nI 35), .int (nI x), .int (nI ns)]) (rest := []) C (v5_down _ _ _ _ _ hv 35 x ns (by omega) (by omega) (by omega) (by omega)) (cwV 3 hts gX5_fineExp_X5_down rfl rfl rfl (by decide +kernel) ⟨Nat.le_of_ble_eq_true rfl, Nat.le_of_ble_eq_true rfl⟩) hsz hw (mv_recv C hw hv) dX5_fineExp_38 rfl hl.1 rfl (Nat.le_of_ble_eq_true rfl) ⟨Nat.le_refl _, Nat.le_refl _⟩ (fun E z H locs hp hw => ?_)
    obtain ⟨rg, hv, hv0_, hf9⟩ := hp
    have fT0_ : rg 35 = yy := hv0_.trans (by rw [f_x]; exact hyy.symm)
    have f_x : rg x = rg0 x := (hf9 x (by omega) (by omega)).trans f_x
    have f_27 : rg 27 = ((2 ^ (P + 64) : Nat) : Int) := (hf9 27 (by omega) (by omega)).trans f_27
    have f_35 := fT0_
    have hof : ∀ j, j ≠ t ∧ j ≠ 32 ∧ (j < 35 ∨ 39 < j) → rg j = rg0 j := fun j hj => (hf9 j (by omega) (by omega)).trans (hof j hj)
    refine lv_aload_n hx hb dX5_fineExp_41 rfl (lv_at hl 1 rfl) ?_
    refine lv_bipush (v := nI 36) hx hb dX5_fineExp_42 (by decide) ?_
    refine lv_bipush (v := nI 27) hx hb dX5_fineExp_44 (by decide) ?_
    refine bd_cv (As := [.int (nI 36), .int (nI 27)]) (rest := []) C (v5_copy _ _ _ _ _ hv 36 27 (by omega) (by omega)) (cwV 2 hts gX5_fineExp_X5_copy rfl rfl rfl (by decide +kernel) ⟨Nat.le_of_ble_eq_true rfl, Nat.le_of_ble_eq_true rfl⟩) hsz hw (mv_recv C hw hv) dX5_fineExp_46 rfl hl.1 rfl (Nat.le_of_ble_eq_true rfl) ⟨Nat.le_refl _, Nat.le_refl _⟩ (fun E z H locs hp hw => ?_)
    obtain ⟨rg, hv, hv0_, hf9⟩ := hp
    have fT0_ : rg 36 = ((2 ^ (P + 64) : Nat) : Int) := hv0_.trans (by rw [f_27])
    have f_x : rg x = rg0 x := (hf9 x (by omega)).trans f_x
    have f_27 : rg 27 = ((2 ^ (P + 64) : Nat) : Int) := (hf9 27 (by omega)).trans f_27
    have f_35 : rg 35 = yy := (hf9 35 (by omega)).trans f_35
    have f_36 := fT0_
    have hof : ∀ j, j ≠ t ∧ j ≠ 32 ∧ (j < 35 ∨ 39 < j) → rg j = rg0 j := fun j hj => (hf9 j (by omega)).trans (hof j hj)
    refine lv_aload_n hx hb dX5_fineExp_49 rfl (lv_at hl 1 rfl) ?_
    refine lv_bipush (v := nI 37) hx hb dX5_fineExp_50 (by decide) ?_
    refine bd_cv (As := [.int (nI 37)]) (rest := []) C (v5_none _ _ _ _ _ hv 37 (by omega)) (cwV 1 hts gX5_fineExp_X5_none rfl rfl rfl (by decide +kernel) ⟨Nat.le_of_ble_eq_true rfl, Nat.le_of_ble_eq_true rfl⟩) hsz hw (mv_recv C hw hv) dX5_fineExp_52 rfl hl.1 rfl (Nat.le_of_ble_eq_true rfl) ⟨Nat.le_refl _, Nat.le_refl _⟩ (fun E z H locs hp hw => ?_)
    obtain ⟨rg, hv, hv0_, hf9⟩ := hp
    have fT0_ : rg 37 = 0 := hv0_.trans (by rfl)
    have f_x : rg x = rg0 x := (hf9 x (by omega)).trans f_x
    have f_27 : rg 27 = ((2 ^ (P + 64) : Nat) : Int) := (hf9 27 (by omega)).trans f_27
    have f_35 : rg 35 = yy := (hf9 35 (by omega)).trans f_35
    have f_36 : rg 36 = ((2 ^ (P + 64) : Nat) : Int) := (hf9 36 (by omega)).trans f_36
    have f_37 := fT0_
    have hof : ∀ j, j ≠ t ∧ j ≠ 32 ∧ (j < 35 ∨ 39 < j) → rg j = rg0 j := fun j hj => (hf9 j (by omega)).trans (hof j hj)
    refine lv_iconst (v := nI 1) hx hb dX5_fineExp_55 (by decide) ?_
    refine lv_istore (lv' := [(4, .int (nI 1)), (3, .int (nI ns)), (0, .ref (mo 0)), (1, .int (nI t)), (2, .int (nI x))]) hx hb dX5_fineExp_56 hl (by decide) rfl (fun ls hl => ?_)
    suffices hloop : ∀ (d9 j : Nat) (E : Nat → va_E) (z : Nat → Wh) (rg : Nat → Int) (ls : Array Slot) (H : Heap) (locs : List Loc), j + d9 = m0 → md_v K E mo th P rg → (rg 35 = yy) → (rg 36 = ((sp_ep ((2 ^ (P + 64) : Nat) : Int) yy) j)) → (rg 37 = (sp_sum (sp_ep ((2 ^ (P + 64) : Nat) : Int) yy) j)) → (∀ j, j ≠ t ∧ j ≠ 32 ∧ (j < 35 ∨ 39 < j) → rg j = rg0 j) → lv_has ls 5 [(4, .int (nI (j + 1))), (3, .int (nI ns)), (0, .ref (mo 0)), (1, .int (nI t))] → bd_W K E z (bd_A K sz) s.heap H locs → W p l e (headSpec wsX5_fineExp ({ frames := 6, cells := 0, slots := 0, locals := 200 })).room s m [.ref (mo 0), .int (nI t), .int (nI x)].toArray below meth c H locs 0 0 (MQ below (va_Qv (fun u => ∃ rg : Nat → Int, md_v K u.1 mo th P rg ∧ rg t = sp_EXP (P + 64) (rg0 x) ∧ ∀ j, j ≠ t ∧ j ≠ 32 ∧ (j < 35 ∨ 39 < j) → rg j = rg0 j) (bd_B K) (bd_A K sz)) [.ref (mo 0), .int (nI t), .int (nI x)].toArray s 0 0 (bd_A K sz)) (F0 m 58 ls []) from hloop m0 0 E z rg ls _ _ (by omega) hv f_35 f_36 f_37  hof (lv_sub hl [0, 1, 2, 3] rfl) hw
    clear hw hl ls hv hof f_x f_27 f_35 f_36 f_37 
    intro d9
    induction d9 using Nat.strongRecOn with
    | ind d9 ih =>
      intro j E z rg ls H locs hjd9 hv f_35 f_36 f_37  hof hl hw
      have hun : ∀ i, i < j → ¬ sp_sp ((sp_ep ((2 ^ (P + 64) : Nat) : Int) yy) i) := fun i hi => hend.2 i (by omega)
      have hD256 : ((sp_ep ((2 ^ (P + 64) : Nat) : Int) yy) 0).natAbs ≤ 2 ^ 256 := by show (((2 ^ (P + 64) : Nat) : Int) : Int).natAbs ≤ _; omega
      have hpj : ((sp_ep ((2 ^ (P + 64) : Nat) : Int) yy) j).natAbs ≤ 2 ^ 257 := Nat.le_trans (sp_le hH hun) (Nat.le_trans (Nat.add_le_add_right hD256 1) (by decide +kernel))
      have hsum : (sp_sum (sp_ep ((2 ^ (P + 64) : Nat) : Int) yy) j).natAbs ≤ 2 ^ 257 := Nat.le_trans (sp_suml _ _) (Nat.le_trans (sp_abl hH hun) (Nat.le_trans (Nat.mul_le_mul_left 2 hD256) (by decide +kernel)))
      refine lv_aload_n hx hb dX5_fineExp_58 rfl (lv_at hl 2 rfl) ?_
      refine lv_bipush (v := nI 36) hx hb dX5_fineExp_59 (by decide) ?_
      refine bd_cip (As := [.int (nI 36)]) (rest := []) C (v5_isEnd _ _ _ _ _ hv 36 (by omega)) (cwV 1 hts gX5_fineExp_X5_isEnd rfl rfl rfl (by decide +kernel) ⟨Nat.le_of_ble_eq_true rfl, Nat.le_of_ble_eq_true rfl⟩) hsz hw (mv_recv C hw hv) dX5_fineExp_61 rfl hl.1 rfl (Nat.le_of_ble_eq_true rfl) ⟨Nat.le_refl _, Nat.le_refl _⟩ (fun H locs hw => ?_)
      rw [f_36]
      refine lv_if_ne (tgt := 115) hx hb dX5_fineExp_64 (by decide) (fun hc64 => ?_) (fun hc64 => ?_)
      · have hsp : sp_sp ((sp_ep ((2 ^ (P + 64) : Nat) : Int) yy) j) := sp_if1 hc64
        have hm : j = m0 := (Nat.lt_or_ge j m0).elim (fun q => absurd hsp (hend.2 j q)) (fun q => by omega)
        rw [hm] at f_37
        refine lv_iconst (v := nI 0) hx hb dX5_fineExp_115 (by decide) ?_
        refine lv_istore (lv' := [(4, .int (nI 0)), (3, .int (nI ns)), (0, .ref (mo 0)), (1, .int (nI t))]) hx hb dX5_fineExp_116 hl (by decide) rfl (fun ls hl => ?_)
        have hnear := sp_near hH hmp hend.2
        have hp1 := sp_p1 (D := ((2 ^ (P + 64) : Nat) : Int)) (y := yy) (by omega) hy256
        have hne0 : (sp_ep ((2 ^ (P + 64) : Nat) : Int) yy) 0 = ((2 ^ (P + 64) : Nat) : Int) := rfl
        rw [hne0] at hnear
        have hS0 : 0 ≤ (sp_sum (sp_ep ((2 ^ (P + 64) : Nat) : Int) yy) m0) := by omega
        have hSb : (sp_sum (sp_ep ((2 ^ (P + 64) : Nat) : Int) yy) m0) * 65536 ≤ ((2 ^ (P + 64) : Nat) : Int) * 66560 := by omega
        have hsq := sp_sqrb hDp hS0 hSb
        suffices hloop : ∀ (d8 i : Nat) (E : Nat → va_E) (z : Nat → Wh) (rg : Nat → Int) (ls : Array Slot) (H : Heap) (locs : List Loc), i + d8 = ns → md_v K E mo th P rg → (rg 37 = (sp_sqr ((2 ^ (P + 64) : Nat) : Int) (sp_sum (sp_ep ((2 ^ (P + 64) : Nat) : Int) yy) m0) i)) → (∀ j, j ≠ t ∧ j ≠ 32 ∧ (j < 35 ∨ 39 < j) → rg j = rg0 j) → lv_has ls 5 [(4, .int (nI i)), (3, .int (nI ns)), (0, .ref (mo 0)), (1, .int (nI t))] → bd_W K E z (bd_A K sz) s.heap H locs → W p l e (headSpec wsX5_fineExp ({ frames := 6, cells := 0, slots := 0, locals := 200 })).room s m [.ref (mo 0), .int (nI t), .int (nI x)].toArray below meth c H locs 0 0 (MQ below (va_Qv (fun u => ∃ rg : Nat → Int, md_v K u.1 mo th P rg ∧ rg t = sp_EXP (P + 64) (rg0 x) ∧ ∀ j, j ≠ t ∧ j ≠ 32 ∧ (j < 35 ∨ 39 < j) → rg j = rg0 j) (bd_B K) (bd_A K sz)) [.ref (mo 0), .int (nI t), .int (nI x)].toArray s 0 0 (bd_A K sz)) (F0 m 118 ls []) from hloop ns 0 E z rg ls _ _ (by omega) hv f_37  hof (lv_sub hl [0, 1, 2, 3] rfl) hw
        clear hw hl ls hv hof f_35 f_36 f_37 
        intro d8
        induction d8 using Nat.strongRecOn with
        | ind d8 ih2 =>
          intro i E z rg ls H locs hjd8 hv f_37  hof hl hw
          refine lv_iload hx hb dX5_fineExp_118 (lv_at hl 0 rfl) ?_
          refine lv_iload_n hx hb dX5_fineExp_120 rfl (lv_at hl 1 rfl) ?_
          refine bd_ige (h1 := (by omega)) (h2 := (by omega)) (tgt := 152) hx hb dX5_fineExp_121 (by decide) (fun hc121 => ?_) (fun hc121 => ?_)
          · have hin : i = ns := by omega
            rw [hin] at f_37
            refine lv_aload_n hx hb dX5_fineExp_152 rfl (lv_at hl 2 rfl) ?_
            refine lv_iload_n hx hb dX5_fineExp_153 rfl (lv_at hl 3 rfl) ?_
            refine lv_bipush (v := nI 37) hx hb dX5_fineExp_154 (by decide) ?_
            refine bd_cv (As := [.int (nI t), .int (nI 37)]) (rest := []) C (v5_copy _ _ _ _ _ hv t 37 (by omega) (by omega)) (cwV 2 hts gX5_fineExp_X5_copy rfl rfl rfl (by decide +kernel) ⟨Nat.le_of_ble_eq_true rfl, Nat.le_of_ble_eq_true rfl⟩) hsz hw (mv_recv C hw hv) dX5_fineExp_156 rfl hl.1 rfl (Nat.le_of_ble_eq_true rfl) ⟨Nat.le_refl _, Nat.le_refl _⟩ (fun E z H locs hp hw => ?_)
            obtain ⟨rg, hv, hv0_, hf9⟩ := hp
            have fT0_ : rg t = (sp_sqr ((2 ^ (P + 64) : Nat) : Int) (sp_sum (sp_ep ((2 ^ (P + 64) : Nat) : Int) yy) m0) ns) := hv0_.trans (by rw [f_37])
            have f_37 : rg 37 = (sp_sqr ((2 ^ (P + 64) : Nat) : Int) (sp_sum (sp_ep ((2 ^ (P + 64) : Nat) : Int) yy) m0) ns) := (hf9 37 (by omega)).trans f_37
            have f_t := fT0_
            have hof : ∀ j, j ≠ t ∧ j ≠ 32 ∧ (j < 35 ∨ 39 < j) → rg j = rg0 j := fun j hj => (hf9 j (by omega)).trans (hof j hj)
            exact bd_vret C hr hlk hw dX5_fineExp_159 (⟨rg, hv, f_t.trans (sp_EXPe hxp), hof⟩)
          · have hbf := sp_bf11 i (by omega)
            have hsi := hsq i
            have hsb : (sp_sqr ((2 ^ (P + 64) : Nat) : Int) (sp_sum (sp_ep ((2 ^ (P + 64) : Nat) : Int) yy) m0) i).natAbs ≤ 2 ^ 352 := by
              have h1 : ((2 ^ (P + 64) : Nat) : Int) * (sp_bf i : Int) ≤ ((2 ^ 256 * 2 ^ 110 : Nat) : Int) := by
                rw [← Int.natCast_mul]
                have := Nat.mul_le_mul hp256 hbf
                omega
              have h2 : (2 : Nat) ^ 256 * 2 ^ 110 < 2 ^ 352 * 65536 := by decide +kernel
              omega
            refine lv_aload_n hx hb dX5_fineExp_124 rfl (lv_at hl 2 rfl) ?_
            refine lv_bipush (v := nI 38) hx hb dX5_fineExp_125 (by decide) ?_
            refine lv_bipush (v := nI 37) hx hb dX5_fineExp_127 (by decide) ?_
            refine lv_bipush (v := nI 37) hx hb dX5_fineExp_129 (by decide) ?_
            refine bd_cv (As := [.int (nI 38), .int (nI 37), .int (nI 37)]) (rest := []) C (v5_product _ _ _ _ _ hv 38 37 37 (by omega) (by omega) (by omega) (by rw [f_37]; exact (b34 (Nat.le_trans (mul_b hsb hsb) (by decide +kernel))))) (cwV 3 hts gX5_fineExp_X5_product rfl rfl rfl (by decide +kernel) ⟨Nat.le_of_ble_eq_true rfl, Nat.le_of_ble_eq_true rfl⟩) hsz hw (mv_recv C hw hv) dX5_fineExp_131 rfl hl.1 rfl (Nat.le_of_ble_eq_true rfl) ⟨Nat.le_refl _, Nat.le_refl _⟩ (fun E z H locs hp hw => ?_)
            obtain ⟨rg, hv, hv0_, hf9⟩ := hp
            have fT0_ : rg 38 = (sp_sqr ((2 ^ (P + 64) : Nat) : Int) (sp_sum (sp_ep ((2 ^ (P + 64) : Nat) : Int) yy) m0) i * sp_sqr ((2 ^ (P + 64) : Nat) : Int) (sp_sum (sp_ep ((2 ^ (P + 64) : Nat) : Int) yy) m0) i) := hv0_.trans (by rw [f_37])
            have f_37 : rg 37 = (sp_sqr ((2 ^ (P + 64) : Nat) : Int) (sp_sum (sp_ep ((2 ^ (P + 64) : Nat) : Int) yy) m0) i) := (hf9 37 (by omega)).trans f_37
            have f_38 := fT0_
            have hof : ∀ j, j ≠ t ∧ j ≠ 32 ∧ (j < 35 ∨ 39 < j) → rg j = rg0 j := fun j hj => (hf9 j (by omega)).trans (hof j hj)
            refine lv_aload_n hx hb dX5_fineExp_134 rfl (lv_at hl 2 rfl) ?_
            refine lv_bipush (v := nI 37) hx hb dX5_fineExp_135 (by decide) ?_
            refine lv_bipush (v := nI 38) hx hb dX5_fineExp_137 (by decide) ?_
            refine lv_aload_n hx hb dX5_fineExp_139 rfl (lv_at hl 2 rfl) ?_
            refine mv_g C i5 hw hv 2 (by decide) (v := .int (nI (P + 64))) rfl dX5_fineExp_140 lk27 ?_
            refine bd_cv (As := [.int (nI 37), .int (nI 38), .int (nI (P + 64))]) (rest := []) C (v5_down _ _ _ _ _ hv 37 38 (P + 64) (by omega) (by omega) (by omega) (by omega)) (cwV 3 hts gX5_fineExp_X5_down rfl rfl rfl (by decide +kernel) ⟨Nat.le_of_ble_eq_true rfl, Nat.le_of_ble_eq_true rfl⟩) hsz hw (mv_recv C hw hv) dX5_fineExp_143 rfl hl.1 rfl (Nat.le_of_ble_eq_true rfl) ⟨Nat.le_refl _, Nat.le_refl _⟩ (fun E z H locs hp hw => ?_)
            obtain ⟨rg, hv, hv0_, hf9⟩ := hp
            have fT0_ : rg 37 = (sp_sqr ((2 ^ (P + 64) : Nat) : Int) (sp_sum (sp_ep ((2 ^ (P + 64) : Nat) : Int) yy) m0) (i + 1)) := hv0_.trans (by rw [f_38]; rfl)
            have f_38 : rg 38 = (sp_sqr ((2 ^ (P + 64) : Nat) : Int) (sp_sum (sp_ep ((2 ^ (P + 64) : Nat) : Int) yy) m0) i * sp_sqr ((2 ^ (P + 64) : Nat) : Int) (sp_sum (sp_ep ((2 ^ (P + 64) : Nat) : Int) yy) m0) i) := (hf9 38 (by omega) (by omega)).trans f_38
            have f_37 := fT0_
            have hof : ∀ j, j ≠ t ∧ j ≠ 32 ∧ (j < 35 ∨ 39 < j) → rg j = rg0 j := fun j hj => (hf9 j (by omega) (by omega)).trans (hof j hj)
            refine lv_iinc (v := (nI (i + 1))) (lv' := [(4, .int (nI (i + 1))), (3, .int (nI ns)), (0, .ref (mo 0)), (1, .int (nI t))]) hx hb dX5_fineExp_146 hl (k := 0) rfl (nI_1 _) (by decide) rfl (fun ls hl => ?_)
            refine lv_goto (tgt := 118) hx hb dX5_fineExp_149 (by decide) ?_
            exact ih2 (d8 - 1) (by omega) (i + 1) E z rg ls H locs (by omega) hv f_37  hof (lv_sub hl [0, 1, 2, 3] rfl) hw
      · have hsp : ¬ sp_sp ((sp_ep ((2 ^ (P + 64) : Nat) : Int) yy) j) := sp_if0 hc64
        have hjm : j < m0 := (Nat.lt_or_ge j m0).elim id (fun q => absurd (show sp_sp ((sp_ep ((2 ^ (P + 64) : Nat) : Int) yy) j) by rw [show j = m0 by omega]; exact hend.1) hsp)
        refine lv_aload_n hx hb dX5_fineExp_67 rfl (lv_at hl 2 rfl) ?_
        refine lv_bipush (v := nI 37) hx hb dX5_fineExp_68 (by decide) ?_
        refine lv_bipush (v := nI 37) hx hb dX5_fineExp_70 (by decide) ?_
        refine lv_bipush (v := nI 36) hx hb dX5_fineExp_72 (by decide) ?_
        refine bd_cv (As := [.int (nI 37), .int (nI 37), .int (nI 36)]) (rest := []) C (v5_plus _ _ _ _ _ hv 37 37 36 (by omega) (by omega) (by omega) (by rw [f_37, f_36]; exact (b34 (Nat.le_trans (add_b hsum hpj) (by decide +kernel))))) (cwV 3 hts gX5_fineExp_X5_plus rfl rfl rfl (by decide +kernel) ⟨Nat.le_of_ble_eq_true rfl, Nat.le_of_ble_eq_true rfl⟩) hsz hw (mv_recv C hw hv) dX5_fineExp_74 rfl hl.1 rfl (Nat.le_of_ble_eq_true rfl) ⟨Nat.le_refl _, Nat.le_refl _⟩ (fun E z H locs hp hw => ?_)
        obtain ⟨rg, hv, hv0_, hf9⟩ := hp
        have fT0_ : rg 37 = (sp_sum (sp_ep ((2 ^ (P + 64) : Nat) : Int) yy) (j + 1)) := hv0_.trans (by rw [f_37, f_36]; rfl)
        have f_35 : rg 35 = yy := (hf9 35 (by omega)).trans f_35
        have f_36 : rg 36 = ((sp_ep ((2 ^ (P + 64) : Nat) : Int) yy) j) := (hf9 36 (by omega)).trans f_36
        have f_37 := fT0_
        have hof : ∀ j, j ≠ t ∧ j ≠ 32 ∧ (j < 35 ∨ 39 < j) → rg j = rg0 j := fun j hj => (hf9 j (by omega)).trans (hof j hj)
        refine lv_aload_n hx hb dX5_fineExp_77 rfl (lv_at hl 2 rfl) ?_
        refine lv_bipush (v := nI 38) hx hb dX5_fineExp_78 (by decide) ?_
        refine lv_bipush (v := nI 36) hx hb dX5_fineExp_80 (by decide) ?_
        refine lv_bipush (v := nI 35) hx hb dX5_fineExp_82 (by decide) ?_
        refine bd_cv (As := [.int (nI 38), .int (nI 36), .int (nI 35)]) (rest := []) C (v5_product _ _ _ _ _ hv 38 36 35 (by omega) (by omega) (by omega) (by rw [f_36, f_35]; exact (b34 (Nat.le_trans (mul_b hpj hyb) (by decide +kernel))))) (cwV 3 hts gX5_fineExp_X5_product rfl rfl rfl (by decide +kernel) ⟨Nat.le_of_ble_eq_true rfl, Nat.le_of_ble_eq_true rfl⟩) hsz hw (mv_recv C hw hv) dX5_fineExp_84 rfl hl.1 rfl (Nat.le_of_ble_eq_true rfl) ⟨Nat.le_refl _, Nat.le_refl _⟩ (fun E z H locs hp hw => ?_)
        obtain ⟨rg, hv, hv0_, hf9⟩ := hp
        have fT0_ : rg 38 = (((sp_ep ((2 ^ (P + 64) : Nat) : Int) yy) j) * yy) := hv0_.trans (by rw [f_36, f_35])
        have f_35 : rg 35 = yy := (hf9 35 (by omega)).trans f_35
        have f_36 : rg 36 = ((sp_ep ((2 ^ (P + 64) : Nat) : Int) yy) j) := (hf9 36 (by omega)).trans f_36
        have f_37 : rg 37 = (sp_sum (sp_ep ((2 ^ (P + 64) : Nat) : Int) yy) (j + 1)) := (hf9 37 (by omega)).trans f_37
        have f_38 := fT0_
        have hof : ∀ j, j ≠ t ∧ j ≠ 32 ∧ (j < 35 ∨ 39 < j) → rg j = rg0 j := fun j hj => (hf9 j (by omega)).trans (hof j hj)
        refine lv_aload_n hx hb dX5_fineExp_87 rfl (lv_at hl 2 rfl) ?_
        refine lv_bipush (v := nI 38) hx hb dX5_fineExp_88 (by decide) ?_
        refine lv_bipush (v := nI 38) hx hb dX5_fineExp_90 (by decide) ?_
        refine lv_aload_n hx hb dX5_fineExp_92 rfl (lv_at hl 2 rfl) ?_
        refine mv_g C i5 hw hv 2 (by decide) (v := .int (nI (P + 64))) rfl dX5_fineExp_93 lk27 ?_
        refine bd_cv (As := [.int (nI 38), .int (nI 38), .int (nI (P + 64))]) (rest := []) C (v5_down _ _ _ _ _ hv 38 38 (P + 64) (by omega) (by omega) (by omega) (by omega)) (cwV 3 hts gX5_fineExp_X5_down rfl rfl rfl (by decide +kernel) ⟨Nat.le_of_ble_eq_true rfl, Nat.le_of_ble_eq_true rfl⟩) hsz hw (mv_recv C hw hv) dX5_fineExp_96 rfl hl.1 rfl (Nat.le_of_ble_eq_true rfl) ⟨Nat.le_refl _, Nat.le_refl _⟩ (fun E z H locs hp hw => ?_)
        obtain ⟨rg, hv, hv0_, hf9⟩ := hp
        have fT0_ : rg 38 = (((sp_ep ((2 ^ (P + 64) : Nat) : Int) yy) j) * yy / ((2 ^ (P + 64) : Nat) : Int)) := hv0_.trans (by rw [f_38])
        have f_35 : rg 35 = yy := (hf9 35 (by omega) (by omega)).trans f_35
        have f_36 : rg 36 = ((sp_ep ((2 ^ (P + 64) : Nat) : Int) yy) j) := (hf9 36 (by omega) (by omega)).trans f_36
        have f_37 : rg 37 = (sp_sum (sp_ep ((2 ^ (P + 64) : Nat) : Int) yy) (j + 1)) := (hf9 37 (by omega) (by omega)).trans f_37
        have f_38 := fT0_
        have hof : ∀ j, j ≠ t ∧ j ≠ 32 ∧ (j < 35 ∨ 39 < j) → rg j = rg0 j := fun j hj => (hf9 j (by omega) (by omega)).trans (hof j hj)
        refine lv_aload_n hx hb dX5_fineExp_99 rfl (lv_at hl 2 rfl) ?_
        refine lv_bipush (v := nI 36) hx hb dX5_fineExp_100 (by decide) ?_
        refine lv_bipush (v := nI 38) hx hb dX5_fineExp_102 (by decide) ?_
        refine lv_iload hx hb dX5_fineExp_104 (lv_at hl 0 rfl) ?_
        refine bd_cv (As := [.int (nI 36), .int (nI 38), .int (nI (j + 1))]) (rest := []) C (v5_divideSmall _ _ _ _ _ hv 36 38 (j + 1) (by omega) (by omega) (by omega) (by omega) (by omega)) (cwV 3 hts gX5_fineExp_X5_divideSmall rfl rfl rfl (by decide +kernel) ⟨Nat.le_of_ble_eq_true rfl, Nat.le_of_ble_eq_true rfl⟩) hsz hw (mv_recv C hw hv) dX5_fineExp_106 rfl hl.1 rfl (Nat.le_of_ble_eq_true rfl) ⟨Nat.le_refl _, Nat.le_refl _⟩ (fun E z H locs hp hw => ?_)
        obtain ⟨rg, hv, hv0_, hf9⟩ := hp
        have fT0_ : rg 36 = ((sp_ep ((2 ^ (P + 64) : Nat) : Int) yy) (j + 1)) := hv0_.trans (by rw [f_38]; rfl)
        have f_35 : rg 35 = yy := (hf9 35 (by omega) (by omega)).trans f_35
        have f_37 : rg 37 = (sp_sum (sp_ep ((2 ^ (P + 64) : Nat) : Int) yy) (j + 1)) := (hf9 37 (by omega) (by omega)).trans f_37
        have f_38 : rg 38 = (((sp_ep ((2 ^ (P + 64) : Nat) : Int) yy) j) * yy / ((2 ^ (P + 64) : Nat) : Int)) := (hf9 38 (by omega) (by omega)).trans f_38
        have f_36 := fT0_
        have hof : ∀ j, j ≠ t ∧ j ≠ 32 ∧ (j < 35 ∨ 39 < j) → rg j = rg0 j := fun j hj => (hf9 j (by omega) (by omega)).trans (hof j hj)
        refine lv_iinc (v := (nI ((j + 1) + 1))) (lv' := [(4, .int (nI ((j + 1) + 1))), (3, .int (nI ns)), (0, .ref (mo 0)), (1, .int (nI t))]) hx hb dX5_fineExp_109 hl (k := 0) rfl (nI_1 _) (by decide) rfl (fun ls hl => ?_)
        refine lv_goto (tgt := 58) hx hb dX5_fineExp_112 (by decide) ?_
        exact ih (d9 - 1) (by omega) (j + 1) E z rg ls H locs (by omega) hv f_35 f_36 f_37  hof (lv_sub hl [0, 1, 2, 3] rfl) hw
