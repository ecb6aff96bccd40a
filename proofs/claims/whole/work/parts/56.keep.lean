/-! BallDesk: keep, keepEnds (laid by wip/gen/m_desk3.py) -/
theorem bk_ivk {K : Cxt} {E : Nat → va_E} {P : Nat} {a B : Nat → Nat} {sg sg1 : Nat → Int} {mu ra : Nat → Int} {k : Nat} {M R : Int} (hbk : bk_at K E P a B) (h : bk_iv P B sg mu ra) (hk : k < 12) (h1 : sg1 (B (8 + k)) = M) (h2 : sg1 (B (20 + k)) = R) (hf : ∀ b, b ≠ B (8 + k) → b ≠ B (20 + k) → sg1 b = sg b) (hco : M.natAbs ≤ 2 ^ (P + 48) ∧ 0 ≤ R ∧ R.natAbs ≤ 2 ^ (P + 48)) : bk_iv P B sg1 (va_up mu k M) (va_up ra k R) := by
  obtain ⟨g1, g2, g3⟩ := h
  have fr : ∀ j, j < 42 → j ≠ 8 + k → j ≠ 20 + k → sg1 (B j) = sg (B j) := fun j h0 n1 n2 => hf _ (bk_ne hbk h0 (by omega) n1) (bk_ne hbk h0 (by omega) n2)
  refine ⟨(fr 0 (by omega) (by omega) (by omega)).trans g1, fn_ivm g2 (fr (31 + 1) (by omega) (by omega) (by omega)) (fr (31 + 2) (by omega) (by omega) (by omega)) (fr (31 + 3) (by omega) (by omega) (by omega)), fun i hi => ?_⟩
  by_cases q : i = k
  · subst q
    rw [va_up_self, va_up_self]
    exact ⟨h1, h2, hco⟩
  · rw [va_up_ne _ _ q, va_up_ne _ _ q]
    obtain ⟨a1, a2, a3⟩ := g3 i hi
    exact ⟨(fr (8 + i) (by omega) (by omega) (by omega)).trans a1, (fr (20 + i) (by omega) (by omega) (by omega)).trans a2, a3⟩
set_option maxHeartbeats 4000000 in
set_option maxRecDepth 100000 in
/-- BallDesk.keep -/
theorem c4_keep (l : Launch) (K : Cxt) (E0 : Nat → va_E) (z0 : Nat → Wh) (sz : Nat) {P : Nat} {a B : Nat → Nat} (hbk : bk_at K E0 P a B) {sg0 : Nat → Int} (hS : sg_S K z0 sg0) {mu ra : Nat → Int} (hiv : bk_iv P B sg0 mu ra) (k : Nat) (hk : k < 12) : Met l yX4_keep wsX4_keep ({ frames := 3, cells := 0, slots := 0, locals := 110 }) (va_Pc [.ref (a 0), .int (nI k)] (bd_P K E0 z0 sz)) (va_Qi (bk_post K P a B (dk_keep P k (sg0 (B 6)) (sg0 (B 7)) mu ra)) (bd_B K) (bd_A K sz)) 0 0 (bd_A K sz) := by
  refine bd_ofW (cc := cX4_keep) (maxL := 2) (ret := (some .int)) (by decide) rfl (Nat.le_of_ble_eq_true rfl) ?_
  intro p e s m below meth c ls C hr hlk hsz hw hl
  have hx := C.1
  have hb := C.2.1
  have hown := C.2.2.2.1
  have hts := C.2.2.2.2.1
  have i4 : ∀ w ∈ wsX40, w ∈ wsX4_keep := by decide +kernel
  have lk23 : Cond.fieldLink RX4 23 "BallDesk" "made" "LBallDesk$Ball;" ∈ wsX4_keep := by decide +kernel
  have lk10 : Cond.fieldLink RX4 10 "BallDesk" "limit" "LBallDesk$Whole;" ∈ wsX4_keep := by decide +kernel
  have lk18 : Cond.fieldLink RX4 18 "BallDesk" "places" "[LBallDesk$Ball;" ∈ wsX4_keep := by decide +kernel
  obtain ⟨hP1, hP2⟩ := bk_P hbk
  have hl : lv_has ls 2 [(0, .ref (a 0)), (1, .int (nI k))] := hl
  have hof : ∀ j, (j = 0 ∨ 8 ≤ j) → j < 32 → sg0 (B j) = sg0 (B j) := fun _ _ _ => rfl
  have hfi := hiv.2.1
  have hlim : (sg0 (B 0)).natAbs = 2 ^ (P + 48) := by rw [hiv.1]; exact Int.natAbs_natCast _
  refine lv_aload_n hx hb dX4_keep_0 rfl (lv_at hl 0 rfl) ?_
  refine bk_g C i4 hw hbk 3 (by decide) (v := .ref (a 2)) rfl dX4_keep_1 lk23 ?_
  refine lv_aload_n hx hb dX4_keep_4 rfl (lv_at hl 0 rfl) ?_
  refine bk_g C i4 hw hbk 1 (by decide) (v := .ref (B 0)) rfl dX4_keep_5 lk10 ?_
  refine bd_cip (As := [.ref (B 0)]) (rest := []) C (c0_isWithin _ _ _ _ _ hS (a 2) (B 6) (B 7) (B 0) (bk_made hbk) (bk_in hbk (i := 6) (by omega)) (bk_in hbk (i := 7) (by omega)) (bk_in hbk (i := 0) (by omega))) (cwV 1 hts gX4_keep_X0_isWithin rfl rfl rfl (by decide +kernel) ⟨Nat.le_of_ble_eq_true rfl, Nat.le_of_ble_eq_true rfl⟩) hsz hw (bl_recv C hw (bk_made hbk)) dX4_keep_8 rfl hl.1 rfl (Nat.le_of_ble_eq_true rfl) ⟨Nat.le_refl _, Nat.le_refl _⟩ (fun H locs hw => ?_)
  rw [hlim]
  refine lv_if_ne (tgt := 16) hx hb dX4_keep_11 (by decide) (fun hc11 => ?_) (fun hc11 => ?_)
  · have hco : (sg0 (B 6)).natAbs ≤ 2 ^ (P + 48) ∧ 0 ≤ sg0 (B 7) ∧ (sg0 (B 7)).natAbs ≤ 2 ^ (P + 48) := by
      rcases Classical.em ((sg0 (B 6)).natAbs ≤ 2 ^ (P + 48) ∧ 0 ≤ sg0 (B 7) ∧ (sg0 (B 7)).natAbs ≤ 2 ^ (P + 48)) with q | q
      · exact q
      · rw [if_neg q] at hc11
        exact absurd rfl hc11
    refine lv_aload_n hx hb dX4_keep_16 rfl (lv_at hl 0 rfl) ?_
    refine bk_g C i4 hw hbk 2 (by decide) (v := .ref (a 1)) rfl dX4_keep_17 lk18 ?_
    refine lv_iload_n hx hb dX4_keep_20 rfl (lv_at hl 1 rfl) ?_
    refine bk_ald C hw hbk hk dX4_keep_21 ?_
    refine lv_aload_n hx hb dX4_keep_22 rfl (lv_at hl 0 rfl) ?_
    refine bk_g C i4 hw hbk 3 (by decide) (v := .ref (a 2)) rfl dX4_keep_23 lk23 ?_
    refine bd_cv (As := [.ref (a 2)]) (rest := []) C (c0_become _ _ _ _ _ hS (a (3 + k)) (B (8 + k)) (B (20 + k)) (a 2) (B 6) (B 7) (bk_pl hbk hk) (bk_made hbk) (bk_in hbk (i := (8 + k)) (by omega)) (bk_in hbk (i := (20 + k)) (by omega)) (bk_in hbk (i := 6) (by omega)) (bk_in hbk (i := 7) (by omega)) (bk_ne hbk (i := 7) (j := (8 + k)) (by omega) (by omega) (by omega)) (bk_ne hbk (i := (8 + k)) (j := (20 + k)) (by omega) (by omega) (by omega))) (cwV 1 hts gX4_keep_X0_become rfl rfl rfl (by decide +kernel) ⟨Nat.le_of_ble_eq_true rfl, Nat.le_of_ble_eq_true rfl⟩) hsz hw (bl_recv C hw (bk_pl hbk hk)) dX4_keep_26 rfl hl.1 rfl (Nat.le_of_ble_eq_true rfl) ⟨Nat.le_refl _, Nat.le_refl _⟩ (fun E1 z H locs hp hw => ?_)
    obtain ⟨hE9, sg, hS, hv1, hv2, hf9⟩ := hp
    rw [show E1 = E0 from hE9] at hw
    refine lv_iconst (v := nI 1) hx hb dX4_keep_29 (by decide) ?_
    have hd9 : dk_keep P k (sg0 (B 6)) (sg0 (B 7)) mu ra = (1, va_up mu k (sg0 (B 6)), va_up ra k (sg0 (B 7))) := if_pos hco
    exact bd_iret C hr hlk hw dX4_keep_30 (by rw [hd9]; exact ⟨rfl, hbk, sg, hS, bk_ivk hbk hiv hk hv1 hv2 hf9 hco⟩)
  · have hco : ¬ ((sg0 (B 6)).natAbs ≤ 2 ^ (P + 48) ∧ 0 ≤ sg0 (B 7) ∧ (sg0 (B 7)).natAbs ≤ 2 ^ (P + 48)) := fun q => by
      rw [if_pos q] at hc11
      exact absurd hc11 (by decide +kernel)
    refine lv_iconst (v := (-1)) hx hb dX4_keep_14 (by decide) ?_
    have hd9 : dk_keep P k (sg0 (B 6)) (sg0 (B 7)) mu ra = (-1, mu, ra) := if_neg hco
    exact bd_iret C hr hlk hw dX4_keep_15 (by rw [hd9]; exact ⟨rfl, hbk, sg0, hS, hiv⟩)
set_option maxHeartbeats 4000000 in
set_option maxRecDepth 100000 in
/-- BallDesk.keepEnds -/
theorem c4_keepEnds (l : Launch) (K : Cxt) (E0 : Nat → va_E) (z0 : Nat → Wh) (sz : Nat) {P : Nat} {a B : Nat → Nat} (hbk : bk_at K E0 P a B) {sg0 : Nat → Int} (hS : sg_S K z0 sg0) {mu ra : Nat → Int} (hiv : bk_iv P B sg0 mu ra) (k : Nat) (hk : k < 12) (hb1 : (sg0 (B 1)).natAbs ≤ 2 ^ 700) (hb2 : (sg0 (B 2)).natAbs ≤ 2 ^ 700) : Met l yX4_keepEnds wsX4_keepEnds ({ frames := 4, cells := 0, slots := 0, locals := 150 }) (va_Pc [.ref (a 0), .int (nI k)] (bd_P K E0 z0 sz)) (va_Qi (bk_post K P a B (dk_ends P k (sg0 (B 1)) (sg0 (B 2)) mu ra)) (bd_B K) (bd_A K sz)) 0 0 (bd_A K sz) := by
  refine bd_ofW (cc := cX4_keepEnds) (maxL := 2) (ret := (some .int)) (by decide) rfl (Nat.le_of_ble_eq_true rfl) ?_
  intro p e s m below meth c ls C hr hlk hsz hw hl
  have hx := C.1
  have hb := C.2.1
  have hown := C.2.2.2.1
  have hts := C.2.2.2.2.1
  have i4 : ∀ w ∈ wsX40, w ∈ wsX4_keepEnds := by decide +kernel
  have ib0 : ∀ w ∈ wsX00, w ∈ wsX4_keepEnds := by decide +kernel
  have lk23 : Cond.fieldLink RX4 23 "BallDesk" "made" "LBallDesk$Ball;" ∈ wsX4_keepEnds := by decide +kernel
  have lk85 : Cond.fieldLink RX4 85 "BallDesk$Ball" "middle" "LBallDesk$Whole;" ∈ wsX4_keepEnds := by decide +kernel
  have lk27 : Cond.fieldLink RX4 27 "BallDesk" "low" "LBallDesk$Whole;" ∈ wsX4_keepEnds := by decide +kernel
  have lk30 : Cond.fieldLink RX4 30 "BallDesk" "high" "LBallDesk$Whole;" ∈ wsX4_keepEnds := by decide +kernel
  have lk92 : Cond.fieldLink RX4 92 "BallDesk$Ball" "radius" "LBallDesk$Whole;" ∈ wsX4_keepEnds := by decide +kernel
  obtain ⟨hP1, hP2⟩ := bk_P hbk
  have hl : lv_has ls 2 [(0, .ref (a 0)), (1, .int (nI k))] := hl
  have hof : ∀ j, (j = 0 ∨ 8 ≤ j) → j < 32 → sg0 (B j) = sg0 (B j) := fun _ _ _ => rfl
  have hfi := hiv.2.1
  have f_1 : sg0 (B 1) = sg0 (B 1) := rfl
  have f_2 : sg0 (B 2) = sg0 (B 2) := rfl
  have hs1 : (sg0 (B 1)).natAbs + (sg0 (B 2)).natAbs < 4294967296 ^ 24 := Nat.lt_of_le_of_lt (Nat.add_le_add hb1 hb2) (by decide +kernel)
  have hs2 : (sg0 (B 2)).natAbs + ((sg0 (B 1) + sg0 (B 2)) / ((2 ^ 1 : Nat) : Int)).natAbs < 4294967296 ^ 24 := Nat.lt_of_le_of_lt (Nat.add_le_add hb2 (Nat.le_trans (fl_abs (by decide)) (Nat.le_trans (Int.natAbs_add_le _ _) (Nat.add_le_add hb1 hb2)))) (by decide +kernel)
  have hd9 : dk_ends P k (sg0 (B 1)) (sg0 (B 2)) mu ra = dk_keep P k ((sg0 (B 1) + sg0 (B 2)) / ((2 ^ 1 : Nat) : Int)) (sg0 (B 2) - ((sg0 (B 1) + sg0 (B 2)) / ((2 ^ 1 : Nat) : Int))) mu ra := rfl
  clear hb1 hb2
  refine lv_aload_n hx hb dX4_keepEnds_0 rfl (lv_at hl 0 rfl) ?_
  refine bk_g C i4 hw hbk 3 (by decide) (v := .ref (a 2)) rfl dX4_keepEnds_1 lk23 ?_
  refine bl_gm C ib0 hw (bk_made hbk) dX4_keepEnds_4 lk85 ?_
  refine lv_aload_n hx hb dX4_keepEnds_7 rfl (lv_at hl 0 rfl) ?_
  refine bk_g C i4 hw hbk 4 (by decide) (v := .ref (B 1)) rfl dX4_keepEnds_8 lk27 ?_
  refine lv_aload_n hx hb dX4_keepEnds_11 rfl (lv_at hl 0 rfl) ?_
  refine bk_g C i4 hw hbk 5 (by decide) (v := .ref (B 2)) rfl dX4_keepEnds_12 lk30 ?_
  refine sv_v (As := [.ref (B 1), .ref (B 2)]) (rest := []) C (v3_sum _ _ _ _ _ hS (B 6) (B 1) (B 2) (bk_in hbk (i := 6) (by omega)) (bk_in hbk (i := 1) (by omega)) (bk_in hbk (i := 2) (by omega)) (by rw [f_1, f_2]; exact hs1)) (cwV 2 hts gX4_keepEnds_X3_sum rfl rfl rfl (by decide +kernel) ⟨Nat.le_of_ble_eq_true rfl, Nat.le_of_ble_eq_true rfl⟩) hsz hw (bd_recv C hw (bk_in hbk (i := 6) (by omega))) dX4_keepEnds_15 rfl hl.1 rfl (Nat.le_of_ble_eq_true rfl) ⟨Nat.le_refl _, Nat.le_refl _⟩ (fun z sg H locs hv9 hf9 hS hw => ?_)
  have fT9 : sg (B 6) = (sg0 (B 1) + sg0 (B 2)) := hv9.trans (by rw [f_1, f_2])
  have f_1 : sg (B 1) = sg0 (B 1) := (hf9 (B 1) (bk_ne hbk (i := 1) (j := 6) (by omega) (by omega) (by omega))).trans f_1
  have f_2 : sg (B 2) = sg0 (B 2) := (hf9 (B 2) (bk_ne hbk (i := 2) (j := 6) (by omega) (by omega) (by omega))).trans f_2
  have f_6 := fT9
  have hof : ∀ j, (j = 0 ∨ 8 ≤ j) → j < 32 → sg (B j) = sg0 (B j) := fun j h1 h2 => (hf9 (B j) (bk_ne hbk (i := j) (j := 6) (by omega) (by omega) (by omega))).trans (hof j h1 h2)
  have hfi : fn_iv (P + 64) (bk_A B) sg := fn_ivm hfi (hf9 (bk_A B 1) (bk_ne hbk (i := 31 + 1) (j := 6) (by decide) (by decide) (by decide))) (hf9 (bk_A B 2) (bk_ne hbk (i := 31 + 2) (j := 6) (by decide) (by decide) (by decide))) (hf9 (bk_A B 3) (bk_ne hbk (i := 31 + 3) (j := 6) (by decide) (by decide) (by decide)))
  refine lv_aload_n hx hb dX4_keepEnds_18 rfl (lv_at hl 0 rfl) ?_
  refine bk_g C i4 hw hbk 3 (by decide) (v := .ref (a 2)) rfl dX4_keepEnds_19 lk23 ?_
  refine bl_gm C ib0 hw (bk_made hbk) dX4_keepEnds_22 lk85 ?_
  refine lv_iconst (v := nI 1) hx hb dX4_keepEnds_25 (by decide) ?_
  refine sv_v (As := [.int (nI 1)]) (rest := []) C (v3_lower _ _ _ _ _ hS (B 6) 1 (bk_in hbk (i := 6) (by omega)) (by omega) (by omega)) (cwV 1 hts gX4_keepEnds_X3_lower rfl rfl rfl (by decide +kernel) ⟨Nat.le_of_ble_eq_true rfl, Nat.le_of_ble_eq_true rfl⟩) hsz hw (bd_recv C hw (bk_in hbk (i := 6) (by omega))) dX4_keepEnds_26 rfl hl.1 rfl (Nat.le_of_ble_eq_true rfl) ⟨Nat.le_refl _, Nat.le_refl _⟩ (fun z sg H locs hv9 hf9 hS hw => ?_)
  have fT9 : sg (B 6) = ((sg0 (B 1) + sg0 (B 2)) / ((2 ^ 1 : Nat) : Int)) := hv9.trans (by rw [f_6])
  have f_1 : sg (B 1) = sg0 (B 1) := (hf9 (B 1) (bk_ne hbk (i := 1) (j := 6) (by omega) (by omega) (by omega))).trans f_1
  have f_2 : sg (B 2) = sg0 (B 2) := (hf9 (B 2) (bk_ne hbk (i := 2) (j := 6) (by omega) (by omega) (by omega))).trans f_2
  have f_6 := fT9
  have hof : ∀ j, (j = 0 ∨ 8 ≤ j) → j < 32 → sg (B j) = sg0 (B j) := fun j h1 h2 => (hf9 (B j) (bk_ne hbk (i := j) (j := 6) (by omega) (by omega) (by omega))).trans (hof j h1 h2)
  have hfi : fn_iv (P + 64) (bk_A B) sg := fn_ivm hfi (hf9 (bk_A B 1) (bk_ne hbk (i := 31 + 1) (j := 6) (by decide) (by decide) (by decide))) (hf9 (bk_A B 2) (bk_ne hbk (i := 31 + 2) (j := 6) (by decide) (by decide) (by decide))) (hf9 (bk_A B 3) (bk_ne hbk (i := 31 + 3) (j := 6) (by decide) (by decide) (by decide)))
  refine lv_aload_n hx hb dX4_keepEnds_29 rfl (lv_at hl 0 rfl) ?_
  refine bk_g C i4 hw hbk 3 (by decide) (v := .ref (a 2)) rfl dX4_keepEnds_30 lk23 ?_
  refine bl_gr C ib0 hw (bk_made hbk) dX4_keepEnds_33 lk92 ?_
  refine lv_aload_n hx hb dX4_keepEnds_36 rfl (lv_at hl 0 rfl) ?_
  refine bk_g C i4 hw hbk 5 (by decide) (v := .ref (B 2)) rfl dX4_keepEnds_37 lk30 ?_
  refine lv_aload_n hx hb dX4_keepEnds_40 rfl (lv_at hl 0 rfl) ?_
  refine bk_g C i4 hw hbk 3 (by decide) (v := .ref (a 2)) rfl dX4_keepEnds_41 lk23 ?_
  refine bl_gm C ib0 hw (bk_made hbk) dX4_keepEnds_44 lk85 ?_
  refine sv_v (As := [.ref (B 2), .ref (B 6)]) (rest := []) C (v3_difference _ _ _ _ _ hS (B 7) (B 2) (B 6) (bk_in hbk (i := 7) (by omega)) (bk_in hbk (i := 2) (by omega)) (bk_in hbk (i := 6) (by omega)) (by rw [f_2, f_6]; exact hs2)) (cwV 2 hts gX4_keepEnds_X3_difference rfl rfl rfl (by decide +kernel) ⟨Nat.le_of_ble_eq_true rfl, Nat.le_of_ble_eq_true rfl⟩) hsz hw (bd_recv C hw (bk_in hbk (i := 7) (by omega))) dX4_keepEnds_47 rfl hl.1 rfl (Nat.le_of_ble_eq_true rfl) ⟨Nat.le_refl _, Nat.le_refl _⟩ (fun z sg H locs hv9 hf9 hS hw => ?_)
  have fT9 : sg (B 7) = (sg0 (B 2) - ((sg0 (B 1) + sg0 (B 2)) / ((2 ^ 1 : Nat) : Int))) := hv9.trans (by rw [f_2, f_6])
  have f_1 : sg (B 1) = sg0 (B 1) := (hf9 (B 1) (bk_ne hbk (i := 1) (j := 7) (by omega) (by omega) (by omega))).trans f_1
  have f_2 : sg (B 2) = sg0 (B 2) := (hf9 (B 2) (bk_ne hbk (i := 2) (j := 7) (by omega) (by omega) (by omega))).trans f_2
  have f_6 : sg (B 6) = ((sg0 (B 1) + sg0 (B 2)) / ((2 ^ 1 : Nat) : Int)) := (hf9 (B 6) (bk_ne hbk (i := 6) (j := 7) (by omega) (by omega) (by omega))).trans f_6
  have f_7 := fT9
  have hof : ∀ j, (j = 0 ∨ 8 ≤ j) → j < 32 → sg (B j) = sg0 (B j) := fun j h1 h2 => (hf9 (B j) (bk_ne hbk (i := j) (j := 7) (by omega) (by omega) (by omega))).trans (hof j h1 h2)
  have hfi : fn_iv (P + 64) (bk_A B) sg := fn_ivm hfi (hf9 (bk_A B 1) (bk_ne hbk (i := 31 + 1) (j := 7) (by decide) (by decide) (by decide))) (hf9 (bk_A B 2) (bk_ne hbk (i := 31 + 2) (j := 7) (by decide) (by decide) (by decide))) (hf9 (bk_A B 3) (bk_ne hbk (i := 31 + 3) (j := 7) (by decide) (by decide) (by decide)))
  refine lv_aload_n hx hb dX4_keepEnds_50 rfl (lv_at hl 0 rfl) ?_
  refine lv_iload_n hx hb dX4_keepEnds_51 rfl (lv_at hl 1 rfl) ?_
  refine bd_ci (As := [.int (nI k)]) (rest := []) C (c4_keep _ _ _ _ _ hbk hS (bk_ivm hiv hof hfi) k hk) (cwV 1 hts gX4_keepEnds_X4_keep rfl rfl rfl (by decide +kernel) ⟨Nat.le_of_ble_eq_true rfl, Nat.le_of_ble_eq_true rfl⟩) hsz hw (bk_recv C hw hbk) dX4_keepEnds_52 rfl hl.1 rfl (Nat.le_of_ble_eq_true rfl) ⟨Nat.le_refl _, Nat.le_refl _⟩ (fun r9 E9 z H locs hp hw => ?_)
  rw [f_6, f_7] at hp
  exact bd_iret C hr hlk hw dX4_keepEnds_55 (by rw [hd9]; exact hp)
