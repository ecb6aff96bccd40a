/-! the model: are, set, sums, add, take, times, over (laid by wip/gen/m_mod11.py) -/
theorem fz_b {a d : Int} (h : 0 < d) : (a / d).natAbs ≤ a.natAbs := by
  have := fl_abs (a := a) (d := d.toNat) (by omega)
  rw [Int.toNat_of_nonneg (Int.le_of_lt h)] at this
  exact this
theorem em_0 {x y : Int} (h : x / y * y = x) : x % y = 0 := by
  have h1 := Int.emod_add_mul_ediv x y
  rw [Int.mul_comm] at h1
  omega
theorem ab_m {x r : Int} (h : 0 ≤ r) : (x.natAbs : Int) * r = ((x * r).natAbs : Int) := by
  rw [Int.natAbs_mul, Int.natCast_mul, Int.natAbs_of_nonneg h]
theorem ov_lt {x r : Int} (h : 0 ≤ r) (h2 : r.natAbs < x.natAbs) : r < (x.natAbs : Int) := by omega
theorem ov_nlt {x r : Int} (h : 0 ≤ r) (h2 : x.natAbs ≤ r.natAbs) : ¬ r < (x.natAbs : Int) := by omega
theorem ov_pos {a r : Int} (h : 0 ≤ r) (h2 : r < a) : 0 < a * (a - r) := Int.mul_pos (by omega) (by omega)
theorem sg_gt {x : Int} (h : 0 < q_sg x) : 0 < x := by
  rcases sg3 x with ⟨a, b⟩ | ⟨a, b⟩ | ⟨a, b⟩
  · rw [b] at h; exact absurd h (by decide)
  · rw [b] at h; exact absurd h (by decide)
  · exact a
theorem sg_ngt {x : Int} (h : ¬ 0 < q_sg x) : x ≤ 0 := by
  rcases sg3 x with ⟨a, b⟩ | ⟨a, b⟩ | ⟨a, b⟩
  · omega
  · omega
  · rw [b] at h; exact absurd (by decide) h
theorem hq11_0 { j : Nat} (hj : j < 24 ∨ (26 ≤ j ∧ j ≤ 28)) : j ≠ 29 := by omega
theorem hq11_1 { j : Nat} (hj : j < 24 ∨ (26 ≤ j ∧ j ≤ 28)) : j ≠ 30 := by omega
theorem hq11_2 { j : Nat} (hj : j < 24 ∨ (26 ≤ j ∧ j ≤ 28)) : j ≠ 33 := by omega
theorem hq11_3 { j : Nat} (hj : j < 24 ∨ (26 ≤ j ∧ j ≤ 28)) : j ≠ 32 := by omega
theorem hq11_4 { j : Nat} (hj : j < 24 ∨ (26 ≤ j ∧ j ≤ 28)) : j ≠ 31 := by omega
theorem hq11_5 { j : Nat} (hj : j < 24 ∨ (26 ≤ j ∧ j ≤ 28)) : j ≠ 34 := by omega
theorem hq11_6 { j : Nat} (hj : j < 24 ∨ (26 ≤ j ∧ j ≤ 28)) : j ≠ 35 := by omega
def are_i (k i j : Int32) : Int32 := if dk_pl k ∧ dk_pl i ∧ dk_pl j then 1 else 0
theorem are_f {k i j : Int32} (h : are_i k i j = 0) : ¬ (dk_pl k ∧ dk_pl i ∧ dk_pl j) := fun q => by
  unfold are_i at h
  rw [if_pos q] at h
  exact absurd h (by decide +kernel)
theorem are_t {k i j : Int32} (h : ¬ are_i k i j = 0) : dk_pl k ∧ dk_pl i ∧ dk_pl j := by
  unfold are_i at h
  rcases Classical.em (dk_pl k ∧ dk_pl i ∧ dk_pl j) with q | q
  · exact q
  · rw [if_neg q] at h
    exact absurd rfl h
set_option maxHeartbeats 4000000 in
set_option maxRecDepth 100000 in
/-- BallDeskModel.isPlace -/
theorem c5_isPlace (l : Launch) (K : Cxt) (E0 : Nat → va_E) (z0 : Nat → Wh) (sz : Nat) (k : Int32) : Met l yX5_isPlace wsX5_isPlace ({ frames := 0, cells := 0, slots := 0, locals := 0 }) (va_Pc [.int k] (bd_P K E0 z0 sz)) (va_Qi (fun r u => r = pl_i k ∧ u = (E0, z0)) (bd_B K) (bd_A K sz)) 0 0 (bd_A K sz) := by
  refine bd_ofW (cc := cX5_isPlace) (maxL := 1) (ret := (some .boolean)) (by decide) rfl (Nat.le_of_ble_eq_true rfl) ?_
  intro p e s m below meth c ls C hr hlk hsz hw hl
  have hx := C.1
  have hb := C.2.1
  have hown := C.2.2.2.1
  have hts := C.2.2.2.2.1
  have hl : lv_has ls 1 [(0, .int k)] := hl
  refine lv_iload_n hx hb dX5_isPlace_0 rfl (lv_at hl 0 rfl) ?_
  refine lv_if_lt (tgt := 14) hx hb dX5_isPlace_1 (by decide) (fun hc1 => ?_) (fun hc1 => ?_)
  · have hno : ¬ dk_pl k := fun q => absurd q.1 (by have h0 := Int32.lt_iff_toInt_lt.mp hc1; rw [i0] at h0; omega)
    refine lv_iconst (v := nI 0) hx hb dX5_isPlace_14 (by decide) ?_
    exact bd_zret C hr hlk hw dX5_isPlace_15 (Or.inl rfl) ⟨(if_neg hno).symm, rfl⟩
  · have hge : 0 ≤ k.toInt := by have h0 : ¬ k.toInt < (0 : Int32).toInt := fun q => hc1 (Int32.lt_iff_toInt_lt.mpr q); rw [i0] at h0; omega
    refine lv_iload_n hx hb dX5_isPlace_4 rfl (lv_at hl 0 rfl) ?_
    refine lv_bipush (v := nI 12) hx hb dX5_isPlace_5 (by decide) ?_
    refine lv_icmp_ge (tgt := 14) hx hb dX5_isPlace_7 (by decide) (fun hc7 => ?_) (fun hc7 => ?_)
    · have hno : ¬ dk_pl k := fun q => absurd q.2 (by have h0 := Int32.le_iff_toInt_le.mp hc7; rw [nI_toInt (by decide)] at h0; omega)
      refine lv_iconst (v := nI 0) hx hb dX5_isPlace_14 (by decide) ?_
      exact bd_zret C hr hlk hw dX5_isPlace_15 (Or.inl rfl) ⟨(if_neg hno).symm, rfl⟩
    · have hyes : dk_pl k := ⟨hge, by have h0 : ¬ (nI 12).toInt ≤ k.toInt := fun q => hc7 (Int32.le_iff_toInt_le.mpr q); rw [nI_toInt (by decide)] at h0; omega⟩
      refine lv_iconst (v := nI 1) hx hb dX5_isPlace_10 (by decide) ?_
      refine lv_goto (tgt := 15) hx hb dX5_isPlace_11 (by decide) ?_
      exact bd_zret C hr hlk hw dX5_isPlace_15 (Or.inr rfl) ⟨(if_pos hyes).symm, rfl⟩
set_option maxHeartbeats 4000000 in
theorem c5_are (l : Launch) (K : Cxt) (E0 : Nat → va_E) (z0 : Nat → Wh) (sz : Nat) (k i j : Int32) : Met l yX5_are wsX5_are ({ frames := 1, cells := 0, slots := 0, locals := 30 }) (va_Pc [.int k, .int i, .int j] (bd_P K E0 z0 sz)) (va_Qi (fun r u => r = are_i k i j ∧ u = (E0, z0)) (bd_B K) (bd_A K sz)) 0 0 (bd_A K sz) := by
  refine bd_ofW (cc := cX5_are) (maxL := 3) (ret := (some .boolean)) (by decide) rfl (Nat.le_of_ble_eq_true rfl) ?_
  intro p e s m below meth c ls C hr hlk hsz hw hl
  have hx := C.1
  have hb := C.2.1
  have hown := C.2.2.2.1
  have hts := C.2.2.2.2.1
  have hl : lv_has ls 3 [(0, .int k), (1, .int i), (2, .int j)] := hl
  refine lv_iload_n hx hb dX5_are_0 rfl (lv_at hl 0 rfl) ?_
  refine bd_sip (As := [.int k]) (rest := []) C (c5_isPlace _ _ _ _ _ k) (va_cwS 1 hts gX5_are_X5_isPlace rfl rfl rfl (by decide +kernel) ⟨Nat.le_of_ble_eq_true rfl, Nat.le_of_ble_eq_true rfl⟩) hsz hw dX5_are_1 rfl hl.1 rfl (Nat.le_of_ble_eq_true rfl) ⟨Nat.le_refl _, Nat.le_refl _⟩ (fun H locs hw => ?_)
  refine lv_if_eq (tgt := 25) hx hb dX5_are_4 (by decide) (fun hc4 => ?_) (fun hc4 => ?_)
  · have hno := pl_f hc4
    refine lv_iconst (v := nI 0) hx hb dX5_are_25 (by decide) ?_
    exact bd_zret C hr hlk hw dX5_are_26 (Or.inl rfl) ⟨(if_neg (fun q => hno q.1)).symm, rfl⟩
  · have hp_k := pl_t hc4
    refine lv_iload_n hx hb dX5_are_7 rfl (lv_at hl 1 rfl) ?_
    refine bd_sip (As := [.int i]) (rest := []) C (c5_isPlace _ _ _ _ _ i) (va_cwS 1 hts gX5_are_X5_isPlace rfl rfl rfl (by decide +kernel) ⟨Nat.le_of_ble_eq_true rfl, Nat.le_of_ble_eq_true rfl⟩) hsz hw dX5_are_8 rfl hl.1 rfl (Nat.le_of_ble_eq_true rfl) ⟨Nat.le_refl _, Nat.le_refl _⟩ (fun H locs hw => ?_)
    refine lv_if_eq (tgt := 25) hx hb dX5_are_11 (by decide) (fun hc11 => ?_) (fun hc11 => ?_)
    · have hno := pl_f hc11
      refine lv_iconst (v := nI 0) hx hb dX5_are_25 (by decide) ?_
      exact bd_zret C hr hlk hw dX5_are_26 (Or.inl rfl) ⟨(if_neg (fun q => hno q.2.1)).symm, rfl⟩
    · have hp_i := pl_t hc11
      refine lv_iload_n hx hb dX5_are_14 rfl (lv_at hl 2 rfl) ?_
      refine bd_sip (As := [.int j]) (rest := []) C (c5_isPlace _ _ _ _ _ j) (va_cwS 1 hts gX5_are_X5_isPlace rfl rfl rfl (by decide +kernel) ⟨Nat.le_of_ble_eq_true rfl, Nat.le_of_ble_eq_true rfl⟩) hsz hw dX5_are_15 rfl hl.1 rfl (Nat.le_of_ble_eq_true rfl) ⟨Nat.le_refl _, Nat.le_refl _⟩ (fun H locs hw => ?_)
      refine lv_if_eq (tgt := 25) hx hb dX5_are_18 (by decide) (fun hc18 => ?_) (fun hc18 => ?_)
      · have hno := pl_f hc18
        refine lv_iconst (v := nI 0) hx hb dX5_are_25 (by decide) ?_
        exact bd_zret C hr hlk hw dX5_are_26 (Or.inl rfl) ⟨(if_neg (fun q => hno q.2.2)).symm, rfl⟩
      · have hp_j := pl_t hc18
        refine lv_iconst (v := nI 1) hx hb dX5_are_21 (by decide) ?_
        refine lv_goto (tgt := 26) hx hb dX5_are_22 (by decide) ?_
        exact bd_zret C hr hlk hw dX5_are_26 (Or.inr rfl) ⟨(if_pos ⟨hp_k, hp_i, hp_j⟩).symm, rfl⟩
set_option maxHeartbeats 4000000 in
set_option maxRecDepth 100000 in
/-- set -/
theorem v5_set (l : Launch) (K : Cxt) (E0 : Nat → va_E) (z0 : Nat → Wh) (sz : Nat) {mo : Nat → Nat} {th : Int32} {P : Nat} {rg0 : Nat → Int} (hv : md_v K E0 mo th P rg0) {mu ra : Nat → Int} (hiv : md_iv P rg0 mu ra) (k : Int32) (x y : Int64)  : Met l yX5_set wsX5_set ({ frames := 8, cells := 0, slots := 0, locals := 280 }) (va_Pc [.ref (mo 0), .int k, .long x, .long y] (bd_P K E0 z0 sz)) (va_Qi (md_post K mo P (dk_set P k x.toInt y.toInt mu ra)) (bd_B K) (bd_A K sz)) 0 0 (bd_A K sz) := by
  refine bd_ofW (cc := cX5_set) (maxL := 6) (ret := (some .int)) (by decide) rfl (Nat.le_of_ble_eq_true rfl) ?_
  intro p e s m below meth c ls C hr hlk hsz hw hl
  have hx := C.1
  have hb := C.2.1
  have hown := C.2.2.2.1
  have hts := C.2.2.2.2.1
  have i5 : ∀ w ∈ wsX50, w ∈ wsX5_set := by decide +kernel
  have lk48 : Cond.fieldLink RX5 48 "BallDeskModel" "thrown" "I" ∈ wsX5_set := by decide +kernel
  have lk23 : Cond.fieldLink RX5 23 "BallDeskModel" "places" "I" ∈ wsX5_set := by decide +kernel
  have hl : lv_has ls 6 [(0, .ref (mo 0)), (1, .int k), (2, .long x), (4, .long y)] := hl
  obtain ⟨hP1, hP2⟩ := mv_P hv
  have hp192 : (2 : Nat) ^ P ≤ 2 ^ 192 := Nat.pow_le_pow_right (by decide) hP2
  have hP816 : P < 816 := by omega
  have hP64 : P + 64 < 816 := by omega
  have hP128 : 2 * (P + 64) < 816 := by omega
  have hof : ∀ j, j < 24 ∨ (26 ≤ j ∧ j ≤ 28) → rg0 j = rg0 j := fun _ _ => rfl
  refine lv_aload_n hx hb dX5_set_0 rfl (lv_at hl 0 rfl) ?_
  refine lv_iconst (v := nI 0) hx hb dX5_set_1 (by decide) ?_
  refine mv_pt C i5 hw hv dX5_set_2 lk48 (fun E H locs hv hw => ?_)
  refine lv_iload_n hx hb dX5_set_5 rfl (lv_at hl 1 rfl) ?_
  refine bd_sip (As := [.int k]) (rest := []) C (c5_isPlace _ _ _ _ _ k) (va_cwS 1 hts gX5_set_X5_isPlace rfl rfl rfl (by decide +kernel) ⟨Nat.le_of_ble_eq_true rfl, Nat.le_of_ble_eq_true rfl⟩) hsz hw dX5_set_6 rfl hl.1 rfl (Nat.le_of_ble_eq_true rfl) ⟨Nat.le_refl _, Nat.le_refl _⟩ (fun H locs hw => ?_)
  refine lv_if_eq (tgt := 19) hx hb dX5_set_9 (by decide) (fun hc9 => ?_) (fun hc9 => ?_)
  · have hno := pl_f hc9
    refine lv_iconst (v := (-1)) hx hb dX5_set_19 (by decide) ?_
    have hd9 : dk_set P k x.toInt y.toInt mu ra = (-1, mu, ra) := if_neg (fun q => hno q.1)
    exact bd_iret C hr hlk hw dX5_set_20 (by rw [hd9]; exact ⟨rfl, _, _, hv, md_ivm hiv hof⟩)
  · have hpl_kn := pl_t hc9
    obtain ⟨kn, hkn, hk_kn, hx_kn⟩ := pl_x hpl_kn
    subst hk_kn
    refine lv_lload hx hb dX5_set_12 (lv_at hl 3 rfl) ?_
    refine lv_lconst (v := lN 0) hx hb dX5_set_14 rfl ?_
    refine bd_lcmp (v := (lg_cmp y (lN 0))) hx hb dX5_set_15 (rfl) ?_
    refine lv_if_gt (tgt := 21) hx hb dX5_set_16 (by decide) (fun hc16 => ?_) (fun hc16 => ?_)
    · rw [lg_q3] at hc16
      have hyp : 0 < y.toInt := q3_gt.mp hc16
      have hxb := mul_b (i64_b x) (pP_b hP2)
      have hMb := Nat.le_trans (fz_b (a := (x.toInt * dk_p P)) (d := y.toInt) hyp) hxb
      have hyb := i64_b y
      change hid _ at hxb hMb hyb
      refine lv_aload_n hx hb dX5_set_21 rfl (lv_at hl 0 rfl) ?_
      refine lv_bipush (v := nI 29) hx hb dX5_set_22 (by decide) ?_
      refine lv_lload_n hx hb dX5_set_24 rfl (lv_at hl 2 rfl) ?_
      refine bd_cv (As := [.int (nI 29), .long x]) (rest := []) C (v5_put _ _ _ _ _ hv 29 x (by decide)) (cwV 2 hts gX5_set_X5_put rfl rfl rfl (by decide +kernel) ⟨Nat.le_of_ble_eq_true rfl, Nat.le_of_ble_eq_true rfl⟩) hsz hw (mv_recv C hw hv) dX5_set_25 rfl hl.1 rfl (Nat.le_of_ble_eq_true rfl) ⟨Nat.le_refl _, Nat.le_refl _⟩ (fun E z H locs hp hw => ?_)
      obtain ⟨rg, hv, hv0_, hf9⟩ := hp
      have fT0_ : rg 29 = x.toInt := hv0_.trans (by rfl)
      have f_29 := fT0_
      have hof : ∀ j, j < 24 ∨ (26 ≤ j ∧ j ≤ 28) → rg j = rg0 j := fun j hj => (hf9 j (hq11_0 hj)).trans (hof j hj)
      refine lv_aload_n hx hb dX5_set_28 rfl (lv_at hl 0 rfl) ?_
      refine lv_bipush (v := nI 29) hx hb dX5_set_29 (by decide) ?_
      refine lv_bipush (v := nI 29) hx hb dX5_set_31 (by decide) ?_
      refine lv_aload_n hx hb dX5_set_33 rfl (lv_at hl 0 rfl) ?_
      refine mv_g C i5 hw hv 1 (by decide) (v := .int (nI P)) rfl dX5_set_34 lk23 ?_
      refine bd_cv (As := [.int (nI 29), .int (nI 29), .int (nI P)]) (rest := []) C (v5_up _ _ _ _ _ hv 29 29 P (by decide) (by decide) hP816 (by rw [f_29]; exact (b34 (Nat.le_trans (Nat.mul_le_mul (i64_b x) hp192) (by decide +kernel))))) (cwV 3 hts gX5_set_X5_up rfl rfl rfl (by decide +kernel) ⟨Nat.le_of_ble_eq_true rfl, Nat.le_of_ble_eq_true rfl⟩) hsz hw (mv_recv C hw hv) dX5_set_37 rfl hl.1 rfl (Nat.le_of_ble_eq_true rfl) ⟨Nat.le_refl _, Nat.le_refl _⟩ (fun E z H locs hp hw => ?_)
      obtain ⟨rg, hv, hv0_, hf9⟩ := hp
      have fT0_ : rg 29 = (x.toInt * dk_p P) := hv0_.trans (by rw [f_29])
      have f_29 := fT0_
      have hof : ∀ j, j < 24 ∨ (26 ≤ j ∧ j ≤ 28) → rg j = rg0 j := fun j hj => (hf9 j (hq11_0 hj)).trans (hof j hj)
      refine lv_aload_n hx hb dX5_set_40 rfl (lv_at hl 0 rfl) ?_
      refine lv_bipush (v := nI 30) hx hb dX5_set_41 (by decide) ?_
      refine lv_lload hx hb dX5_set_43 (lv_at hl 3 rfl) ?_
      refine bd_cv (As := [.int (nI 30), .long y]) (rest := []) C (v5_put _ _ _ _ _ hv 30 y (by decide)) (cwV 2 hts gX5_set_X5_put rfl rfl rfl (by decide +kernel) ⟨Nat.le_of_ble_eq_true rfl, Nat.le_of_ble_eq_true rfl⟩) hsz hw (mv_recv C hw hv) dX5_set_45 rfl hl.1 rfl (Nat.le_of_ble_eq_true rfl) ⟨Nat.le_refl _, Nat.le_refl _⟩ (fun E z H locs hp hw => ?_)
      obtain ⟨rg, hv, hv0_, hf9⟩ := hp
      have fT0_ : rg 30 = y.toInt := hv0_.trans (by rfl)
      have f_29 : rg 29 = (x.toInt * dk_p P) := (hf9 29 (by decide)).trans f_29
      have f_30 := fT0_
      have hof : ∀ j, j < 24 ∨ (26 ≤ j ∧ j ≤ 28) → rg j = rg0 j := fun j hj => (hf9 j (hq11_1 hj)).trans (hof j hj)
      refine lv_aload_n hx hb dX5_set_48 rfl (lv_at hl 0 rfl) ?_
      refine lv_bipush (v := nI 33) hx hb dX5_set_49 (by decide) ?_
      refine lv_bipush (v := nI 29) hx hb dX5_set_51 (by decide) ?_
      refine lv_bipush (v := nI 30) hx hb dX5_set_53 (by decide) ?_
      refine bd_cv (As := [.int (nI 33), .int (nI 29), .int (nI 30)]) (rest := []) C (v5_divide _ _ _ _ _ hv 33 29 30 (by decide) (by decide) (by decide) (by decide) (by decide) (by decide) (by rw [f_30]; exact hyp) (by rw [f_30]; exact (Nat.le_trans (Nat.mul_le_mul_left 2 hyb) (by decide +kernel)))) (cwV 3 hts gX5_set_X5_divide rfl rfl rfl (by decide +kernel) ⟨Nat.le_of_ble_eq_true rfl, Nat.le_of_ble_eq_true rfl⟩) hsz hw (mv_recv C hw hv) dX5_set_55 rfl hl.1 rfl (Nat.le_of_ble_eq_true rfl) ⟨Nat.le_refl _, Nat.le_refl _⟩ (fun E z H locs hp hw => ?_)
      obtain ⟨rg, hv, hv0_, hf9⟩ := hp
      have fT0_ : rg 33 = ((x.toInt * dk_p P) / y.toInt) := hv0_.trans (by rw [f_29, f_30])
      have f_29 : rg 29 = (x.toInt * dk_p P) := (hf9 29 (by decide) (by decide)).trans f_29
      have f_30 : rg 30 = y.toInt := (hf9 30 (by decide) (by decide)).trans f_30
      have f_33 := fT0_
      have hof : ∀ j, j < 24 ∨ (26 ≤ j ∧ j ≤ 28) → rg j = rg0 j := fun j hj => (hf9 j (hq11_2 hj) (hq11_3 hj)).trans (hof j hj)
      refine lv_aload_n hx hb dX5_set_58 rfl (lv_at hl 0 rfl) ?_
      refine lv_bipush (v := nI 31) hx hb dX5_set_59 (by decide) ?_
      refine lv_bipush (v := nI 33) hx hb dX5_set_61 (by decide) ?_
      refine lv_bipush (v := nI 30) hx hb dX5_set_63 (by decide) ?_
      refine bd_cv (As := [.int (nI 31), .int (nI 33), .int (nI 30)]) (rest := []) C (v5_product _ _ _ _ _ hv 31 33 30 (by decide) (by decide) (by decide) (by rw [f_33, f_30]; exact (b34 (Nat.le_trans (mul_b hMb hyb) (by decide +kernel))))) (cwV 3 hts gX5_set_X5_product rfl rfl rfl (by decide +kernel) ⟨Nat.le_of_ble_eq_true rfl, Nat.le_of_ble_eq_true rfl⟩) hsz hw (mv_recv C hw hv) dX5_set_65 rfl hl.1 rfl (Nat.le_of_ble_eq_true rfl) ⟨Nat.le_refl _, Nat.le_refl _⟩ (fun E z H locs hp hw => ?_)
      obtain ⟨rg, hv, hv0_, hf9⟩ := hp
      have fT0_ : rg 31 = ((x.toInt * dk_p P) / y.toInt * y.toInt) := hv0_.trans (by rw [f_33, f_30])
      have f_29 : rg 29 = (x.toInt * dk_p P) := (hf9 29 (by decide)).trans f_29
      have f_30 : rg 30 = y.toInt := (hf9 30 (by decide)).trans f_30
      have f_33 : rg 33 = ((x.toInt * dk_p P) / y.toInt) := (hf9 33 (by decide)).trans f_33
      have f_31 := fT0_
      have hof : ∀ j, j < 24 ∨ (26 ≤ j ∧ j ≤ 28) → rg j = rg0 j := fun j hj => (hf9 j (hq11_4 hj)).trans (hof j hj)
      refine lv_aload_n hx hb dX5_set_68 rfl (lv_at hl 0 rfl) ?_
      refine lv_bipush (v := nI 34) hx hb dX5_set_69 (by decide) ?_
      refine lv_aload_n hx hb dX5_set_71 rfl (lv_at hl 0 rfl) ?_
      refine lv_bipush (v := nI 31) hx hb dX5_set_72 (by decide) ?_
      refine lv_bipush (v := nI 29) hx hb dX5_set_74 (by decide) ?_
      refine bd_cip (As := [.int (nI 31), .int (nI 29)]) (rest := [.int (nI 34), .ref (mo 0)]) C (v5_compare _ _ _ _ _ hv 31 29 (by omega) (by omega)) (cwV 2 hts gX5_set_X5_compare rfl rfl rfl (by decide +kernel) ⟨Nat.le_of_ble_eq_true rfl, Nat.le_of_ble_eq_true rfl⟩) hsz hw (mv_recv C hw hv) dX5_set_76 rfl hl.1 rfl (Nat.le_of_ble_eq_true rfl) ⟨Nat.le_refl _, Nat.le_refl _⟩ (fun H locs hw => ?_)
      rw [f_31, f_29]
      refine lv_if_ne (tgt := 86) hx hb dX5_set_79 (by decide) (fun hc79 => ?_) (fun hc79 => ?_)
      · have hq79 : ¬ (x.toInt * dk_p P) / y.toInt * y.toInt = (x.toInt * dk_p P) := mt q3_eq.mpr hc79
        have hd : dk_set P (nI kn) x.toInt y.toInt mu ra = dk_keep P kn ((x.toInt * dk_p P) / y.toInt) 1 mu ra := by unfold dk_set; rw [if_pos ⟨hpl_kn, hyp⟩, hx_kn, if_neg (fun q => hq79 (Int.ediv_mul_cancel_of_emod_eq_zero q))]
        refine lv_lconst (v := lN 1) hx hb dX5_set_86 rfl ?_
        refine bd_cv (As := [.int (nI 34), .long (lN 1)]) (rest := []) C (v5_put _ _ _ _ _ hv 34 (lN 1) (by decide)) (cwV 2 hts gX5_set_X5_put rfl rfl rfl (by decide +kernel) ⟨Nat.le_of_ble_eq_true rfl, Nat.le_of_ble_eq_true rfl⟩) hsz hw (mv_recv C hw hv) dX5_set_87 rfl hl.1 rfl (Nat.le_of_ble_eq_true rfl) ⟨Nat.le_refl _, Nat.le_refl _⟩ (fun E z H locs hp hw => ?_)
        obtain ⟨rg, hv, hv0_, hf9⟩ := hp
        have fT0_ : rg 34 = 1 := hv0_.trans (by rfl)
        have f_29 : rg 29 = (x.toInt * dk_p P) := (hf9 29 (by decide)).trans f_29
        have f_30 : rg 30 = y.toInt := (hf9 30 (by decide)).trans f_30
        have f_33 : rg 33 = ((x.toInt * dk_p P) / y.toInt) := (hf9 33 (by decide)).trans f_33
        have f_31 : rg 31 = ((x.toInt * dk_p P) / y.toInt * y.toInt) := (hf9 31 (by decide)).trans f_31
        have f_34 := fT0_
        have hof : ∀ j, j < 24 ∨ (26 ≤ j ∧ j ≤ 28) → rg j = rg0 j := fun j hj => (hf9 j (hq11_5 hj)).trans (hof j hj)
        refine lv_aload_n hx hb dX5_set_90 rfl (lv_at hl 0 rfl) ?_
        refine lv_iload_n hx hb dX5_set_91 rfl (lv_at hl 1 rfl) ?_
        refine bd_ci (As := [.int (nI kn)]) (rest := []) C (v5_keep _ _ _ _ _ hv (md_ivm hiv hof) kn hkn) (cwV 1 hts gX5_set_X5_keep rfl rfl rfl (by decide +kernel) ⟨Nat.le_of_ble_eq_true rfl, Nat.le_of_ble_eq_true rfl⟩) hsz hw (mv_recv C hw hv) dX5_set_92 rfl hl.1 rfl (Nat.le_of_ble_eq_true rfl) ⟨Nat.le_refl _, Nat.le_refl _⟩ (fun r9 E9 z H locs hp hw => ?_)
        rw [f_33, f_34] at hp
        exact bd_iret C hr hlk hw dX5_set_95 (by rw [hd]; exact hp)
      · have hq79 : (x.toInt * dk_p P) / y.toInt * y.toInt = (x.toInt * dk_p P) := q3_eq.mp hc79
        have hd : dk_set P (nI kn) x.toInt y.toInt mu ra = dk_keep P kn ((x.toInt * dk_p P) / y.toInt) 0 mu ra := by unfold dk_set; rw [if_pos ⟨hpl_kn, hyp⟩, hx_kn, if_pos (em_0 hq79)]
        refine lv_lconst (v := lN 0) hx hb dX5_set_82 rfl ?_
        refine lv_goto (tgt := 87) hx hb dX5_set_83 (by decide) ?_
        refine bd_cv (As := [.int (nI 34), .long (lN 0)]) (rest := []) C (v5_put _ _ _ _ _ hv 34 (lN 0) (by decide)) (cwV 2 hts gX5_set_X5_put rfl rfl rfl (by decide +kernel) ⟨Nat.le_of_ble_eq_true rfl, Nat.le_of_ble_eq_true rfl⟩) hsz hw (mv_recv C hw hv) dX5_set_87 rfl hl.1 rfl (Nat.le_of_ble_eq_true rfl) ⟨Nat.le_refl _, Nat.le_refl _⟩ (fun E z H locs hp hw => ?_)
        obtain ⟨rg, hv, hv0_, hf9⟩ := hp
        have fT0_ : rg 34 = 0 := hv0_.trans (by rfl)
        have f_29 : rg 29 = (x.toInt * dk_p P) := (hf9 29 (by decide)).trans f_29
        have f_30 : rg 30 = y.toInt := (hf9 30 (by decide)).trans f_30
        have f_33 : rg 33 = ((x.toInt * dk_p P) / y.toInt) := (hf9 33 (by decide)).trans f_33
        have f_31 : rg 31 = ((x.toInt * dk_p P) / y.toInt * y.toInt) := (hf9 31 (by decide)).trans f_31
        have f_34 := fT0_
        have hof : ∀ j, j < 24 ∨ (26 ≤ j ∧ j ≤ 28) → rg j = rg0 j := fun j hj => (hf9 j (hq11_5 hj)).trans (hof j hj)
        refine lv_aload_n hx hb dX5_set_90 rfl (lv_at hl 0 rfl) ?_
        refine lv_iload_n hx hb dX5_set_91 rfl (lv_at hl 1 rfl) ?_
        refine bd_ci (As := [.int (nI kn)]) (rest := []) C (v5_keep _ _ _ _ _ hv (md_ivm hiv hof) kn hkn) (cwV 1 hts gX5_set_X5_keep rfl rfl rfl (by decide +kernel) ⟨Nat.le_of_ble_eq_true rfl, Nat.le_of_ble_eq_true rfl⟩) hsz hw (mv_recv C hw hv) dX5_set_92 rfl hl.1 rfl (Nat.le_of_ble_eq_true rfl) ⟨Nat.le_refl _, Nat.le_refl _⟩ (fun r9 E9 z H locs hp hw => ?_)
        rw [f_33, f_34] at hp
        exact bd_iret C hr hlk hw dX5_set_95 (by rw [hd]; exact hp)
    · rw [lg_q3] at hc16
      have hno : ¬ 0 < y.toInt := fun q => hc16 (q3_gt.mpr q)
      refine lv_iconst (v := (-1)) hx hb dX5_set_19 (by decide) ?_
      have hd9 : dk_set P (nI kn) x.toInt y.toInt mu ra = (-1, mu, ra) := if_neg (fun q => hno q.2)
      exact bd_iret C hr hlk hw dX5_set_20 (by rw [hd9]; exact ⟨rfl, _, _, hv, md_ivm hiv hof⟩)
def dk_sumsg (P : Nat) (k i j sg : Int32) (mu ra : Nat → Int) : dk_T := if dk_pl k ∧ dk_pl i ∧ dk_pl j then dk_keep P (dk_ix k) (mu (dk_ix i) + sg.toInt * mu (dk_ix j)) (ra (dk_ix i) + ra (dk_ix j)) mu ra else (-1, mu, ra)
set_option maxHeartbeats 4000000 in
set_option maxRecDepth 100000 in
/-- sums -/
theorem v5_sums (l : Launch) (K : Cxt) (E0 : Nat → va_E) (z0 : Nat → Wh) (sz : Nat) {mo : Nat → Nat} {th : Int32} {P : Nat} {rg0 : Nat → Int} (hv : md_v K E0 mo th P rg0) {mu ra : Nat → Int} (hiv : md_iv P rg0 mu ra) (k i j sg : Int32) (hsg : sg = 1 ∨ sg = -1)  : Met l yX5_sums wsX5_sums ({ frames := 4, cells := 0, slots := 0, locals := 140 }) (va_Pc [.ref (mo 0), .int k, .int i, .int j, .int sg] (bd_P K E0 z0 sz)) (va_Qi (md_post K mo P (dk_sumsg P k i j sg mu ra)) (bd_B K) (bd_A K sz)) 0 0 (bd_A K sz) := by
  refine bd_ofW (cc := cX5_sums) (maxL := 5) (ret := (some .int)) (by decide) rfl (Nat.le_of_ble_eq_true rfl) ?_
  intro p e s m below meth c ls C hr hlk hsz hw hl
  have hx := C.1
  have hb := C.2.1
  have hown := C.2.2.2.1
  have hts := C.2.2.2.2.1
  have i5 : ∀ w ∈ wsX50, w ∈ wsX5_sums := by decide +kernel
  have lk48 : Cond.fieldLink RX5 48 "BallDeskModel" "thrown" "I" ∈ wsX5_sums := by decide +kernel
  have hl : lv_has ls 5 [(0, .ref (mo 0)), (1, .int k), (2, .int i), (3, .int j), (4, .int sg)] := hl
  obtain ⟨hP1, hP2⟩ := mv_P hv
  have hp192 : (2 : Nat) ^ P ≤ 2 ^ 192 := Nat.pow_le_pow_right (by decide) hP2
  have hP816 : P < 816 := by omega
  have hP64 : P + 64 < 816 := by omega
  have hP128 : 2 * (P + 64) < 816 := by omega
  have hof : ∀ j, j < 24 ∨ (26 ≤ j ∧ j ≤ 28) → rg0 j = rg0 j := fun _ _ => rfl
  refine lv_aload_n hx hb dX5_sums_0 rfl (lv_at hl 0 rfl) ?_
  refine lv_iconst (v := nI 0) hx hb dX5_sums_1 (by decide) ?_
  refine mv_pt C i5 hw hv dX5_sums_2 lk48 (fun E H locs hv hw => ?_)
  refine lv_iload_n hx hb dX5_sums_5 rfl (lv_at hl 1 rfl) ?_
  refine lv_iload_n hx hb dX5_sums_6 rfl (lv_at hl 2 rfl) ?_
  refine lv_iload_n hx hb dX5_sums_7 rfl (lv_at hl 3 rfl) ?_
  refine bd_sip (As := [.int k, .int i, .int j]) (rest := []) C (c5_are _ _ _ _ _ k i j) (va_cwS 3 hts gX5_sums_X5_are rfl rfl rfl (by decide +kernel) ⟨Nat.le_of_ble_eq_true rfl, Nat.le_of_ble_eq_true rfl⟩) hsz hw dX5_sums_8 rfl hl.1 rfl (Nat.le_of_ble_eq_true rfl) ⟨Nat.le_refl _, Nat.le_refl _⟩ (fun H locs hw => ?_)
  refine lv_if_ne (tgt := 16) hx hb dX5_sums_11 (by decide) (fun hc11 => ?_) (fun hc11 => ?_)
  · obtain ⟨hpl_kn, hpl_im, hpl_jm⟩ := are_t hc11
    obtain ⟨kn, hkn, hk_kn, hx_kn⟩ := pl_x hpl_kn
    subst hk_kn
    obtain ⟨im, him, hk_im, hx_im⟩ := pl_x hpl_im
    subst hk_im
    obtain ⟨hbm_im, hb0_im, hbr_im⟩ := md_b hP2 hiv him
    have f_im : rg0 im = mu im := (hof im (by omega)).trans (hiv.2.2.2 im him).1
    have f_12im : rg0 (12 + im) = ra im := (hof (12 + im) (by omega)).trans (hiv.2.2.2 im him).2.1
    change hid _ at hbm_im hbr_im
    obtain ⟨jm, hjm, hk_jm, hx_jm⟩ := pl_x hpl_jm
    subst hk_jm
    obtain ⟨hbm_jm, hb0_jm, hbr_jm⟩ := md_b hP2 hiv hjm
    have f_jm : rg0 jm = mu jm := (hof jm (by omega)).trans (hiv.2.2.2 jm hjm).1
    have f_12jm : rg0 (12 + jm) = ra jm := (hof (12 + jm) (by omega)).trans (hiv.2.2.2 jm hjm).2.1
    change hid _ at hbm_jm hbr_jm
    have hd : dk_sumsg P (nI kn) (nI im) (nI jm) sg mu ra = dk_keep P kn (mu im + sg.toInt * mu jm) (ra im + ra jm) mu ra := by unfold dk_sumsg; rw [if_pos ⟨hpl_kn, hpl_im, hpl_jm⟩, hx_kn, hx_im, hx_jm]
    refine lv_aload_n hx hb dX5_sums_16 rfl (lv_at hl 0 rfl) ?_
    refine lv_bipush (v := nI 33) hx hb dX5_sums_17 (by decide) ?_
    refine lv_iload_n hx hb dX5_sums_19 rfl (lv_at hl 2 rfl) ?_
    refine lv_iload_n hx hb dX5_sums_20 rfl (lv_at hl 3 rfl) ?_
    refine lv_iload hx hb dX5_sums_21 (lv_at hl 4 rfl) ?_
    refine bd_cv (As := [.int (nI 33), .int (nI im), .int (nI jm), .int sg]) (rest := []) C (v5_sum _ _ _ _ _ hv 33 im jm sg (by decide) (by omega) (by omega) hsg (by rw [f_im, f_jm]; exact (b34 (Nat.le_trans (add_b hbm_im (Nat.le_trans (Nat.le_of_eq (sm_y (mu jm) hsg).2) hbm_jm)) (by decide +kernel))))) (cwV 4 hts gX5_sums_X5_sum rfl rfl rfl (by decide +kernel) ⟨Nat.le_of_ble_eq_true rfl, Nat.le_of_ble_eq_true rfl⟩) hsz hw (mv_recv C hw hv) dX5_sums_23 rfl hl.1 rfl (Nat.le_of_ble_eq_true rfl) ⟨Nat.le_refl _, Nat.le_refl _⟩ (fun E z H locs hp hw => ?_)
    obtain ⟨rg, hv, hv0_, hf9⟩ := hp
    have fT0_ : rg 33 = (mu im + sg.toInt * mu jm) := hv0_.trans (by rw [f_im, f_jm])
    have f_im : rg im = mu im := (hf9 im (by omega)).trans f_im
    have f_12im : rg (12 + im) = ra im := (hf9 (12 + im) (by omega)).trans f_12im
    have f_jm : rg jm = mu jm := (hf9 jm (by omega)).trans f_jm
    have f_12jm : rg (12 + jm) = ra jm := (hf9 (12 + jm) (by omega)).trans f_12jm
    have f_33 := fT0_
    have hof : ∀ j, j < 24 ∨ (26 ≤ j ∧ j ≤ 28) → rg j = rg0 j := fun j hj => (hf9 j (hq11_2 hj)).trans (hof j hj)
    refine lv_aload_n hx hb dX5_sums_26 rfl (lv_at hl 0 rfl) ?_
    refine lv_bipush (v := nI 34) hx hb dX5_sums_27 (by decide) ?_
    refine lv_bipush (v := nI 12) hx hb dX5_sums_29 (by decide) ?_
    refine lv_iload_n hx hb dX5_sums_31 rfl (lv_at hl 2 rfl) ?_
    refine bd_iadd (v := nI (12 + im)) hx hb dX5_sums_32 (nI_add _ _) ?_
    refine lv_bipush (v := nI 12) hx hb dX5_sums_33 (by decide) ?_
    refine lv_iload_n hx hb dX5_sums_35 rfl (lv_at hl 3 rfl) ?_
    refine bd_iadd (v := nI (12 + jm)) hx hb dX5_sums_36 (nI_add _ _) ?_
    refine bd_cv (As := [.int (nI 34), .int (nI (12 + im)), .int (nI (12 + jm))]) (rest := []) C (v5_plus _ _ _ _ _ hv 34 (12 + im) (12 + jm) (by decide) (by omega) (by omega) (by rw [f_12im, f_12jm]; exact (b34 (Nat.le_trans (add_b hbr_im hbr_jm) (by decide +kernel))))) (cwV 3 hts gX5_sums_X5_plus rfl rfl rfl (by decide +kernel) ⟨Nat.le_of_ble_eq_true rfl, Nat.le_of_ble_eq_true rfl⟩) hsz hw (mv_recv C hw hv) dX5_sums_37 rfl hl.1 rfl (Nat.le_of_ble_eq_true rfl) ⟨Nat.le_refl _, Nat.le_refl _⟩ (fun E z H locs hp hw => ?_)
    obtain ⟨rg, hv, hv0_, hf9⟩ := hp
    have fT0_ : rg 34 = (ra im + ra jm) := hv0_.trans (by rw [f_12im, f_12jm])
    have f_im : rg im = mu im := (hf9 im (by omega)).trans f_im
    have f_12im : rg (12 + im) = ra im := (hf9 (12 + im) (by omega)).trans f_12im
    have f_jm : rg jm = mu jm := (hf9 jm (by omega)).trans f_jm
    have f_12jm : rg (12 + jm) = ra jm := (hf9 (12 + jm) (by omega)).trans f_12jm
    have f_33 : rg 33 = (mu im + sg.toInt * mu jm) := (hf9 33 (by decide)).trans f_33
    have f_34 := fT0_
    have hof : ∀ j, j < 24 ∨ (26 ≤ j ∧ j ≤ 28) → rg j = rg0 j := fun j hj => (hf9 j (hq11_5 hj)).trans (hof j hj)
    refine lv_aload_n hx hb dX5_sums_40 rfl (lv_at hl 0 rfl) ?_
    refine lv_iload_n hx hb dX5_sums_41 rfl (lv_at hl 1 rfl) ?_
    refine bd_ci (As := [.int (nI kn)]) (rest := []) C (v5_keep _ _ _ _ _ hv (md_ivm hiv hof) kn hkn) (cwV 1 hts gX5_sums_X5_keep rfl rfl rfl (by decide +kernel) ⟨Nat.le_of_ble_eq_true rfl, Nat.le_of_ble_eq_true rfl⟩) hsz hw (mv_recv C hw hv) dX5_sums_42 rfl hl.1 rfl (Nat.le_of_ble_eq_true rfl) ⟨Nat.le_refl _, Nat.le_refl _⟩ (fun r9 E9 z H locs hp hw => ?_)
    rw [f_33, f_34] at hp
    exact bd_iret C hr hlk hw dX5_sums_45 (by rw [hd]; exact hp)
  · have hno := are_f hc11
    refine lv_iconst (v := (-1)) hx hb dX5_sums_14 (by decide) ?_
    have hd9 : dk_sumsg P k i j sg mu ra = (-1, mu, ra) := if_neg (hno)
    exact bd_iret C hr hlk hw dX5_sums_15 (by rw [hd9]; exact ⟨rfl, _, _, hv, md_ivm hiv hof⟩)
set_option maxHeartbeats 4000000 in
set_option maxRecDepth 100000 in
/-- add -/
theorem v5_add (l : Launch) (K : Cxt) (E0 : Nat → va_E) (z0 : Nat → Wh) (sz : Nat) {mo : Nat → Nat} {th : Int32} {P : Nat} {rg0 : Nat → Int} (hv : md_v K E0 mo th P rg0) {mu ra : Nat → Int} (hiv : md_iv P rg0 mu ra) (k i j : Int32)  : Met l yX5_add wsX5_add ({ frames := 5, cells := 0, slots := 0, locals := 180 }) (va_Pc [.ref (mo 0), .int k, .int i, .int j] (bd_P K E0 z0 sz)) (va_Qi (md_post K mo P (dk_add P k i j mu ra)) (bd_B K) (bd_A K sz)) 0 0 (bd_A K sz) := by
  refine bd_ofW (cc := cX5_add) (maxL := 4) (ret := (some .int)) (by decide) rfl (Nat.le_of_ble_eq_true rfl) ?_
  intro p e s m below meth c ls C hr hlk hsz hw hl
  have hx := C.1
  have hb := C.2.1
  have hown := C.2.2.2.1
  have hts := C.2.2.2.2.1
  have hl : lv_has ls 4 [(0, .ref (mo 0)), (1, .int k), (2, .int i), (3, .int j)] := hl
  obtain ⟨hP1, hP2⟩ := mv_P hv
  have hp192 : (2 : Nat) ^ P ≤ 2 ^ 192 := Nat.pow_le_pow_right (by decide) hP2
  have hP816 : P < 816 := by omega
  have hP64 : P + 64 < 816 := by omega
  have hP128 : 2 * (P + 64) < 816 := by omega
  have hof : ∀ j, j < 24 ∨ (26 ≤ j ∧ j ≤ 28) → rg0 j = rg0 j := fun _ _ => rfl
  refine lv_aload_n hx hb dX5_add_0 rfl (lv_at hl 0 rfl) ?_
  refine lv_iload_n hx hb dX5_add_1 rfl (lv_at hl 1 rfl) ?_
  refine lv_iload_n hx hb dX5_add_2 rfl (lv_at hl 2 rfl) ?_
  refine lv_iload_n hx hb dX5_add_3 rfl (lv_at hl 3 rfl) ?_
  refine lv_iconst (v := nI 1) hx hb dX5_add_4 (by decide) ?_
  refine bd_ci (As := [.int k, .int i, .int j, .int 1]) (rest := []) C (v5_sums _ _ _ _ _ hv hiv k i j 1 (by decide)) (cwV 4 hts gX5_add_X5_sums rfl rfl rfl (by decide +kernel) ⟨Nat.le_of_ble_eq_true rfl, Nat.le_of_ble_eq_true rfl⟩) hsz hw (mv_recv C hw hv) dX5_add_5 rfl hl.1 rfl (Nat.le_of_ble_eq_true rfl) ⟨Nat.le_refl _, Nat.le_refl _⟩ (fun r9 E9 z H locs hp hw => ?_)
  have hd : dk_sumsg P k i j 1 mu ra = dk_add P k i j mu ra := by unfold dk_sumsg dk_add; rw [sm_p]
  exact bd_iret C hr hlk hw dX5_add_8 (by rw [← hd]; exact hp)
set_option maxHeartbeats 4000000 in
set_option maxRecDepth 100000 in
/-- take -/
theorem v5_take (l : Launch) (K : Cxt) (E0 : Nat → va_E) (z0 : Nat → Wh) (sz : Nat) {mo : Nat → Nat} {th : Int32} {P : Nat} {rg0 : Nat → Int} (hv : md_v K E0 mo th P rg0) {mu ra : Nat → Int} (hiv : md_iv P rg0 mu ra) (k i j : Int32)  : Met l yX5_take wsX5_take ({ frames := 5, cells := 0, slots := 0, locals := 180 }) (va_Pc [.ref (mo 0), .int k, .int i, .int j] (bd_P K E0 z0 sz)) (va_Qi (md_post K mo P (dk_take P k i j mu ra)) (bd_B K) (bd_A K sz)) 0 0 (bd_A K sz) := by
  refine bd_ofW (cc := cX5_take) (maxL := 4) (ret := (some .int)) (by decide) rfl (Nat.le_of_ble_eq_true rfl) ?_
  intro p e s m below meth c ls C hr hlk hsz hw hl
  have hx := C.1
  have hb := C.2.1
  have hown := C.2.2.2.1
  have hts := C.2.2.2.2.1
  have hl : lv_has ls 4 [(0, .ref (mo 0)), (1, .int k), (2, .int i), (3, .int j)] := hl
  obtain ⟨hP1, hP2⟩ := mv_P hv
  have hp192 : (2 : Nat) ^ P ≤ 2 ^ 192 := Nat.pow_le_pow_right (by decide) hP2
  have hP816 : P < 816 := by omega
  have hP64 : P + 64 < 816 := by omega
  have hP128 : 2 * (P + 64) < 816 := by omega
  have hof : ∀ j, j < 24 ∨ (26 ≤ j ∧ j ≤ 28) → rg0 j = rg0 j := fun _ _ => rfl
  refine lv_aload_n hx hb dX5_take_0 rfl (lv_at hl 0 rfl) ?_
  refine lv_iload_n hx hb dX5_take_1 rfl (lv_at hl 1 rfl) ?_
  refine lv_iload_n hx hb dX5_take_2 rfl (lv_at hl 2 rfl) ?_
  refine lv_iload_n hx hb dX5_take_3 rfl (lv_at hl 3 rfl) ?_
  refine lv_iconst (v := (-1)) hx hb dX5_take_4 (by decide) ?_
  refine bd_ci (As := [.int k, .int i, .int j, .int (-1)]) (rest := []) C (v5_sums _ _ _ _ _ hv hiv k i j (-1) (by decide)) (cwV 4 hts gX5_take_X5_sums rfl rfl rfl (by decide +kernel) ⟨Nat.le_of_ble_eq_true rfl, Nat.le_of_ble_eq_true rfl⟩) hsz hw (mv_recv C hw hv) dX5_take_5 rfl hl.1 rfl (Nat.le_of_ble_eq_true rfl) ⟨Nat.le_refl _, Nat.le_refl _⟩ (fun r9 E9 z H locs hp hw => ?_)
  have hd : dk_sumsg P k i j (-1) mu ra = dk_take P k i j mu ra := by unfold dk_sumsg dk_take; rw [sm_m]
  exact bd_iret C hr hlk hw dX5_take_8 (by rw [← hd]; exact hp)
set_option maxHeartbeats 4000000 in
set_option maxRecDepth 100000 in
/-- times -/
theorem v5_times (l : Launch) (K : Cxt) (E0 : Nat → va_E) (z0 : Nat → Wh) (sz : Nat) {mo : Nat → Nat} {th : Int32} {P : Nat} {rg0 : Nat → Int} (hv : md_v K E0 mo th P rg0) {mu ra : Nat → Int} (hiv : md_iv P rg0 mu ra) (k i j : Int32)  : Met l yX5_times wsX5_times ({ frames := 8, cells := 0, slots := 0, locals := 280 }) (va_Pc [.ref (mo 0), .int k, .int i, .int j] (bd_P K E0 z0 sz)) (va_Qi (md_post K mo P (dk_times P k i j mu ra)) (bd_B K) (bd_A K sz)) 0 0 (bd_A K sz) := by
  refine bd_ofW (cc := cX5_times) (maxL := 4) (ret := (some .int)) (by decide) rfl (Nat.le_of_ble_eq_true rfl) ?_
  intro p e s m below meth c ls C hr hlk hsz hw hl
  have hx := C.1
  have hb := C.2.1
  have hown := C.2.2.2.1
  have hts := C.2.2.2.2.1
  have i5 : ∀ w ∈ wsX50, w ∈ wsX5_times := by decide +kernel
  have lk48 : Cond.fieldLink RX5 48 "BallDeskModel" "thrown" "I" ∈ wsX5_times := by decide +kernel
  have lk23 : Cond.fieldLink RX5 23 "BallDeskModel" "places" "I" ∈ wsX5_times := by decide +kernel
  have hl : lv_has ls 4 [(0, .ref (mo 0)), (1, .int k), (2, .int i), (3, .int j)] := hl
  obtain ⟨hP1, hP2⟩ := mv_P hv
  have hp192 : (2 : Nat) ^ P ≤ 2 ^ 192 := Nat.pow_le_pow_right (by decide) hP2
  have hP816 : P < 816 := by omega
  have hP64 : P + 64 < 816 := by omega
  have hP128 : 2 * (P + 64) < 816 := by omega
  have hof : ∀ j, j < 24 ∨ (26 ≤ j ∧ j ≤ 28) → rg0 j = rg0 j := fun _ _ => rfl
  refine lv_aload_n hx hb dX5_times_0 rfl (lv_at hl 0 rfl) ?_
  refine lv_iconst (v := nI 0) hx hb dX5_times_1 (by decide) ?_
  refine mv_pt C i5 hw hv dX5_times_2 lk48 (fun E H locs hv hw => ?_)
  refine lv_iload_n hx hb dX5_times_5 rfl (lv_at hl 1 rfl) ?_
  refine lv_iload_n hx hb dX5_times_6 rfl (lv_at hl 2 rfl) ?_
  refine lv_iload_n hx hb dX5_times_7 rfl (lv_at hl 3 rfl) ?_
  refine bd_sip (As := [.int k, .int i, .int j]) (rest := []) C (c5_are _ _ _ _ _ k i j) (va_cwS 3 hts gX5_times_X5_are rfl rfl rfl (by decide +kernel) ⟨Nat.le_of_ble_eq_true rfl, Nat.le_of_ble_eq_true rfl⟩) hsz hw dX5_times_8 rfl hl.1 rfl (Nat.le_of_ble_eq_true rfl) ⟨Nat.le_refl _, Nat.le_refl _⟩ (fun H locs hw => ?_)
  refine lv_if_ne (tgt := 16) hx hb dX5_times_11 (by decide) (fun hc11 => ?_) (fun hc11 => ?_)
  · obtain ⟨hpl_kn, hpl_im, hpl_jm⟩ := are_t hc11
    obtain ⟨kn, hkn, hk_kn, hx_kn⟩ := pl_x hpl_kn
    subst hk_kn
    obtain ⟨im, him, hk_im, hx_im⟩ := pl_x hpl_im
    subst hk_im
    obtain ⟨hbm_im, hb0_im, hbr_im⟩ := md_b hP2 hiv him
    have f_im : rg0 im = mu im := (hof im (by omega)).trans (hiv.2.2.2 im him).1
    have f_12im : rg0 (12 + im) = ra im := (hof (12 + im) (by omega)).trans (hiv.2.2.2 im him).2.1
    change hid _ at hbm_im hbr_im
    obtain ⟨jm, hjm, hk_jm, hx_jm⟩ := pl_x hpl_jm
    subst hk_jm
    obtain ⟨hbm_jm, hb0_jm, hbr_jm⟩ := md_b hP2 hiv hjm
    have f_jm : rg0 jm = mu jm := (hof jm (by omega)).trans (hiv.2.2.2 jm hjm).1
    have f_12jm : rg0 (12 + jm) = ra jm := (hof (12 + jm) (by omega)).trans (hiv.2.2.2 jm hjm).2.1
    change hid _ at hbm_jm hbr_jm
    have hd : dk_times P (nI kn) (nI im) (nI jm) mu ra = dk_keep P kn (mu im * mu jm / dk_p P) (dk_timesR P (mu im) (ra im) (mu jm) (ra jm)) mu ra := by unfold dk_times; rw [if_pos ⟨hpl_kn, hpl_im, hpl_jm⟩, hx_kn, hx_im, hx_jm]
    have hmm := mul_b hbm_im hbm_jm
    have h1 : ((mu im * ra jm).natAbs : Int).natAbs ≤ 2 ^ 480 := by rw [Int.natAbs_natCast]; exact Nat.le_trans (mul_b hbm_im hbr_jm) (by decide +kernel)
    have h2 : ((mu jm * ra im).natAbs : Int).natAbs ≤ 2 ^ 480 := by rw [Int.natAbs_natCast]; exact Nat.le_trans (mul_b hbm_jm hbr_im) (by decide +kernel)
    have h3 : (ra im * ra jm).natAbs ≤ 2 ^ 480 := Nat.le_trans (mul_b hbr_im hbr_jm) (by decide +kernel)
    have h4 := add_b h1 h2
    have h5 := add_b h4 h3
    change hid _ at hmm h1 h2 h3 h4 h5
    refine lv_aload_n hx hb dX5_times_16 rfl (lv_at hl 0 rfl) ?_
    refine lv_bipush (v := nI 29) hx hb dX5_times_17 (by decide) ?_
    refine lv_iload_n hx hb dX5_times_19 rfl (lv_at hl 2 rfl) ?_
    refine lv_iload_n hx hb dX5_times_20 rfl (lv_at hl 3 rfl) ?_
    refine bd_cv (As := [.int (nI 29), .int (nI im), .int (nI jm)]) (rest := []) C (v5_product _ _ _ _ _ hv 29 im jm (by decide) (by omega) (by omega) (by rw [f_im, f_jm]; exact (b34 (Nat.le_trans hmm (by decide +kernel))))) (cwV 3 hts gX5_times_X5_product rfl rfl rfl (by decide +kernel) ⟨Nat.le_of_ble_eq_true rfl, Nat.le_of_ble_eq_true rfl⟩) hsz hw (mv_recv C hw hv) dX5_times_21 rfl hl.1 rfl (Nat.le_of_ble_eq_true rfl) ⟨Nat.le_refl _, Nat.le_refl _⟩ (fun E z H locs hp hw => ?_)
    obtain ⟨rg, hv, hv0_, hf9⟩ := hp
    have fT0_ : rg 29 = (mu im * mu jm) := hv0_.trans (by rw [f_im, f_jm])
    have f_im : rg im = mu im := (hf9 im (by omega)).trans f_im
    have f_12im : rg (12 + im) = ra im := (hf9 (12 + im) (by omega)).trans f_12im
    have f_jm : rg jm = mu jm := (hf9 jm (by omega)).trans f_jm
    have f_12jm : rg (12 + jm) = ra jm := (hf9 (12 + jm) (by omega)).trans f_12jm
    have f_29 := fT0_
    have hof : ∀ j, j < 24 ∨ (26 ≤ j ∧ j ≤ 28) → rg j = rg0 j := fun j hj => (hf9 j (hq11_0 hj)).trans (hof j hj)
    refine lv_aload_n hx hb dX5_times_24 rfl (lv_at hl 0 rfl) ?_
    refine lv_bipush (v := nI 33) hx hb dX5_times_25 (by decide) ?_
    refine lv_bipush (v := nI 29) hx hb dX5_times_27 (by decide) ?_
    refine lv_aload_n hx hb dX5_times_29 rfl (lv_at hl 0 rfl) ?_
    refine mv_g C i5 hw hv 1 (by decide) (v := .int (nI P)) rfl dX5_times_30 lk23 ?_
    refine bd_cv (As := [.int (nI 33), .int (nI 29), .int (nI P)]) (rest := []) C (v5_down _ _ _ _ _ hv 33 29 P (by decide) (by decide) (by decide) hP816) (cwV 3 hts gX5_times_X5_down rfl rfl rfl (by decide +kernel) ⟨Nat.le_of_ble_eq_true rfl, Nat.le_of_ble_eq_true rfl⟩) hsz hw (mv_recv C hw hv) dX5_times_33 rfl hl.1 rfl (Nat.le_of_ble_eq_true rfl) ⟨Nat.le_refl _, Nat.le_refl _⟩ (fun E z H locs hp hw => ?_)
    obtain ⟨rg, hv, hv0_, hf9⟩ := hp
    have fT0_ : rg 33 = (mu im * mu jm / dk_p P) := hv0_.trans (by rw [f_29])
    have f_im : rg im = mu im := (hf9 im (by omega) (by omega)).trans f_im
    have f_12im : rg (12 + im) = ra im := (hf9 (12 + im) (by omega) (by omega)).trans f_12im
    have f_jm : rg jm = mu jm := (hf9 jm (by omega) (by omega)).trans f_jm
    have f_12jm : rg (12 + jm) = ra jm := (hf9 (12 + jm) (by omega) (by omega)).trans f_12jm
    have f_29 : rg 29 = (mu im * mu jm) := (hf9 29 (by decide) (by decide)).trans f_29
    have f_33 := fT0_
    have hof : ∀ j, j < 24 ∨ (26 ≤ j ∧ j ≤ 28) → rg j = rg0 j := fun j hj => (hf9 j (hq11_2 hj) (hq11_3 hj)).trans (hof j hj)
    refine lv_aload_n hx hb dX5_times_36 rfl (lv_at hl 0 rfl) ?_
    refine lv_bipush (v := nI 29) hx hb dX5_times_37 (by decide) ?_
    refine lv_iload_n hx hb dX5_times_39 rfl (lv_at hl 2 rfl) ?_
    refine bd_cv (As := [.int (nI 29), .int (nI im)]) (rest := []) C (v5_size _ _ _ _ _ hv 29 im (by decide) (by omega) (by omega)) (cwV 2 hts gX5_times_X5_size rfl rfl rfl (by decide +kernel) ⟨Nat.le_of_ble_eq_true rfl, Nat.le_of_ble_eq_true rfl⟩) hsz hw (mv_recv C hw hv) dX5_times_40 rfl hl.1 rfl (Nat.le_of_ble_eq_true rfl) ⟨Nat.le_refl _, Nat.le_refl _⟩ (fun E z H locs hp hw => ?_)
    obtain ⟨rg, hv, hv0_, hf9⟩ := hp
    have fT0_ : rg 29 = ((mu im).natAbs : Int) := hv0_.trans (by rw [f_im])
    have f_im : rg im = mu im := (hf9 im (by omega)).trans f_im
    have f_12im : rg (12 + im) = ra im := (hf9 (12 + im) (by omega)).trans f_12im
    have f_jm : rg jm = mu jm := (hf9 jm (by omega)).trans f_jm
    have f_12jm : rg (12 + jm) = ra jm := (hf9 (12 + jm) (by omega)).trans f_12jm
    have f_33 : rg 33 = (mu im * mu jm / dk_p P) := (hf9 33 (by decide)).trans f_33
    have f_29 := fT0_
    have hof : ∀ j, j < 24 ∨ (26 ≤ j ∧ j ≤ 28) → rg j = rg0 j := fun j hj => (hf9 j (hq11_0 hj)).trans (hof j hj)
    refine lv_aload_n hx hb dX5_times_43 rfl (lv_at hl 0 rfl) ?_
    refine lv_bipush (v := nI 29) hx hb dX5_times_44 (by decide) ?_
    refine lv_bipush (v := nI 29) hx hb dX5_times_46 (by decide) ?_
    refine lv_bipush (v := nI 12) hx hb dX5_times_48 (by decide) ?_
    refine lv_iload_n hx hb dX5_times_50 rfl (lv_at hl 3 rfl) ?_
    refine bd_iadd (v := nI (12 + jm)) hx hb dX5_times_51 (nI_add _ _) ?_
    refine bd_cv (As := [.int (nI 29), .int (nI 29), .int (nI (12 + jm))]) (rest := []) C (v5_product _ _ _ _ _ hv 29 29 (12 + jm) (by decide) (by decide) (by omega) (by rw [f_29, f_12jm]; exact (b34 (by rw [ab_m hb0_jm]; exact Nat.le_trans h1 (by decide +kernel))))) (cwV 3 hts gX5_times_X5_product rfl rfl rfl (by decide +kernel) ⟨Nat.le_of_ble_eq_true rfl, Nat.le_of_ble_eq_true rfl⟩) hsz hw (mv_recv C hw hv) dX5_times_52 rfl hl.1 rfl (Nat.le_of_ble_eq_true rfl) ⟨Nat.le_refl _, Nat.le_refl _⟩ (fun E z H locs hp hw => ?_)
    obtain ⟨rg, hv, hv0_, hf9⟩ := hp
    have fT0_ : rg 29 = ((mu im * ra jm).natAbs : Int) := hv0_.trans (by rw [f_29, f_12jm]; exact ab_m hb0_jm)
    have f_im : rg im = mu im := (hf9 im (by omega)).trans f_im
    have f_12im : rg (12 + im) = ra im := (hf9 (12 + im) (by omega)).trans f_12im
    have f_jm : rg jm = mu jm := (hf9 jm (by omega)).trans f_jm
    have f_12jm : rg (12 + jm) = ra jm := (hf9 (12 + jm) (by omega)).trans f_12jm
    have f_33 : rg 33 = (mu im * mu jm / dk_p P) := (hf9 33 (by decide)).trans f_33
    have f_29 := fT0_
    have hof : ∀ j, j < 24 ∨ (26 ≤ j ∧ j ≤ 28) → rg j = rg0 j := fun j hj => (hf9 j (hq11_0 hj)).trans (hof j hj)
    refine lv_aload_n hx hb dX5_times_55 rfl (lv_at hl 0 rfl) ?_
    refine lv_bipush (v := nI 30) hx hb dX5_times_56 (by decide) ?_
    refine lv_iload_n hx hb dX5_times_58 rfl (lv_at hl 3 rfl) ?_
    refine bd_cv (As := [.int (nI 30), .int (nI jm)]) (rest := []) C (v5_size _ _ _ _ _ hv 30 jm (by decide) (by omega) (by omega)) (cwV 2 hts gX5_times_X5_size rfl rfl rfl (by decide +kernel) ⟨Nat.le_of_ble_eq_true rfl, Nat.le_of_ble_eq_true rfl⟩) hsz hw (mv_recv C hw hv) dX5_times_59 rfl hl.1 rfl (Nat.le_of_ble_eq_true rfl) ⟨Nat.le_refl _, Nat.le_refl _⟩ (fun E z H locs hp hw => ?_)
    obtain ⟨rg, hv, hv0_, hf9⟩ := hp
    have fT0_ : rg 30 = ((mu jm).natAbs : Int) := hv0_.trans (by rw [f_jm])
    have f_im : rg im = mu im := (hf9 im (by omega)).trans f_im
    have f_12im : rg (12 + im) = ra im := (hf9 (12 + im) (by omega)).trans f_12im
    have f_jm : rg jm = mu jm := (hf9 jm (by omega)).trans f_jm
    have f_12jm : rg (12 + jm) = ra jm := (hf9 (12 + jm) (by omega)).trans f_12jm
    have f_33 : rg 33 = (mu im * mu jm / dk_p P) := (hf9 33 (by decide)).trans f_33
    have f_29 : rg 29 = ((mu im * ra jm).natAbs : Int) := (hf9 29 (by decide)).trans f_29
    have f_30 := fT0_
    have hof : ∀ j, j < 24 ∨ (26 ≤ j ∧ j ≤ 28) → rg j = rg0 j := fun j hj => (hf9 j (hq11_1 hj)).trans (hof j hj)
    refine lv_aload_n hx hb dX5_times_62 rfl (lv_at hl 0 rfl) ?_
    refine lv_bipush (v := nI 30) hx hb dX5_times_63 (by decide) ?_
    refine lv_bipush (v := nI 30) hx hb dX5_times_65 (by decide) ?_
    refine lv_bipush (v := nI 12) hx hb dX5_times_67 (by decide) ?_
    refine lv_iload_n hx hb dX5_times_69 rfl (lv_at hl 2 rfl) ?_
    refine bd_iadd (v := nI (12 + im)) hx hb dX5_times_70 (nI_add _ _) ?_
    refine bd_cv (As := [.int (nI 30), .int (nI 30), .int (nI (12 + im))]) (rest := []) C (v5_product _ _ _ _ _ hv 30 30 (12 + im) (by decide) (by decide) (by omega) (by rw [f_30, f_12im]; exact (b34 (by rw [ab_m hb0_im]; exact Nat.le_trans h2 (by decide +kernel))))) (cwV 3 hts gX5_times_X5_product rfl rfl rfl (by decide +kernel) ⟨Nat.le_of_ble_eq_true rfl, Nat.le_of_ble_eq_true rfl⟩) hsz hw (mv_recv C hw hv) dX5_times_71 rfl hl.1 rfl (Nat.le_of_ble_eq_true rfl) ⟨Nat.le_refl _, Nat.le_refl _⟩ (fun E z H locs hp hw => ?_)
    obtain ⟨rg, hv, hv0_, hf9⟩ := hp
    have fT0_ : rg 30 = ((mu jm * ra im).natAbs : Int) := hv0_.trans (by rw [f_30, f_12im]; exact ab_m hb0_im)
    have f_im : rg im = mu im := (hf9 im (by omega)).trans f_im
    have f_12im : rg (12 + im) = ra im := (hf9 (12 + im) (by omega)).trans f_12im
    have f_jm : rg jm = mu jm := (hf9 jm (by omega)).trans f_jm
    have f_12jm : rg (12 + jm) = ra jm := (hf9 (12 + jm) (by omega)).trans f_12jm
    have f_33 : rg 33 = (mu im * mu jm / dk_p P) := (hf9 33 (by decide)).trans f_33
    have f_29 : rg 29 = ((mu im * ra jm).natAbs : Int) := (hf9 29 (by decide)).trans f_29
    have f_30 := fT0_
    have hof : ∀ j, j < 24 ∨ (26 ≤ j ∧ j ≤ 28) → rg j = rg0 j := fun j hj => (hf9 j (hq11_1 hj)).trans (hof j hj)
    refine lv_aload_n hx hb dX5_times_74 rfl (lv_at hl 0 rfl) ?_
    refine lv_bipush (v := nI 29) hx hb dX5_times_75 (by decide) ?_
    refine lv_bipush (v := nI 29) hx hb dX5_times_77 (by decide) ?_
    refine lv_bipush (v := nI 30) hx hb dX5_times_79 (by decide) ?_
    refine bd_cv (As := [.int (nI 29), .int (nI 29), .int (nI 30)]) (rest := []) C (v5_plus _ _ _ _ _ hv 29 29 30 (by decide) (by decide) (by decide) (by rw [f_29, f_30]; exact (b34 (Nat.le_trans h4 (by decide +kernel))))) (cwV 3 hts gX5_times_X5_plus rfl rfl rfl (by decide +kernel) ⟨Nat.le_of_ble_eq_true rfl, Nat.le_of_ble_eq_true rfl⟩) hsz hw (mv_recv C hw hv) dX5_times_81 rfl hl.1 rfl (Nat.le_of_ble_eq_true rfl) ⟨Nat.le_refl _, Nat.le_refl _⟩ (fun E z H locs hp hw => ?_)
    obtain ⟨rg, hv, hv0_, hf9⟩ := hp
    have fT0_ : rg 29 = (((mu im * ra jm).natAbs : Int) + ((mu jm * ra im).natAbs : Int)) := hv0_.trans (by rw [f_29, f_30])
    have f_im : rg im = mu im := (hf9 im (by omega)).trans f_im
    have f_12im : rg (12 + im) = ra im := (hf9 (12 + im) (by omega)).trans f_12im
    have f_jm : rg jm = mu jm := (hf9 jm (by omega)).trans f_jm
    have f_12jm : rg (12 + jm) = ra jm := (hf9 (12 + jm) (by omega)).trans f_12jm
    have f_33 : rg 33 = (mu im * mu jm / dk_p P) := (hf9 33 (by decide)).trans f_33
    have f_30 : rg 30 = ((mu jm * ra im).natAbs : Int) := (hf9 30 (by decide)).trans f_30
    have f_29 := fT0_
    have hof : ∀ j, j < 24 ∨ (26 ≤ j ∧ j ≤ 28) → rg j = rg0 j := fun j hj => (hf9 j (hq11_0 hj)).trans (hof j hj)
    refine lv_aload_n hx hb dX5_times_84 rfl (lv_at hl 0 rfl) ?_
    refine lv_bipush (v := nI 30) hx hb dX5_times_85 (by decide) ?_
    refine lv_bipush (v := nI 12) hx hb dX5_times_87 (by decide) ?_
    refine lv_iload_n hx hb dX5_times_89 rfl (lv_at hl 2 rfl) ?_
    refine bd_iadd (v := nI (12 + im)) hx hb dX5_times_90 (nI_add _ _) ?_
    refine lv_bipush (v := nI 12) hx hb dX5_times_91 (by decide) ?_
    refine lv_iload_n hx hb dX5_times_93 rfl (lv_at hl 3 rfl) ?_
    refine bd_iadd (v := nI (12 + jm)) hx hb dX5_times_94 (nI_add _ _) ?_
    refine bd_cv (As := [.int (nI 30), .int (nI (12 + im)), .int (nI (12 + jm))]) (rest := []) C (v5_product _ _ _ _ _ hv 30 (12 + im) (12 + jm) (by decide) (by omega) (by omega) (by rw [f_12im, f_12jm]; exact (b34 (Nat.le_trans h3 (by decide +kernel))))) (cwV 3 hts gX5_times_X5_product rfl rfl rfl (by decide +kernel) ⟨Nat.le_of_ble_eq_true rfl, Nat.le_of_ble_eq_true rfl⟩) hsz hw (mv_recv C hw hv) dX5_times_95 rfl hl.1 rfl (Nat.le_of_ble_eq_true rfl) ⟨Nat.le_refl _, Nat.le_refl _⟩ (fun E z H locs hp hw => ?_)
    obtain ⟨rg, hv, hv0_, hf9⟩ := hp
    have fT0_ : rg 30 = (ra im * ra jm) := hv0_.trans (by rw [f_12im, f_12jm])
    have f_im : rg im = mu im := (hf9 im (by omega)).trans f_im
    have f_12im : rg (12 + im) = ra im := (hf9 (12 + im) (by omega)).trans f_12im
    have f_jm : rg jm = mu jm := (hf9 jm (by omega)).trans f_jm
    have f_12jm : rg (12 + jm) = ra jm := (hf9 (12 + jm) (by omega)).trans f_12jm
    have f_33 : rg 33 = (mu im * mu jm / dk_p P) := (hf9 33 (by decide)).trans f_33
    have f_29 : rg 29 = (((mu im * ra jm).natAbs : Int) + ((mu jm * ra im).natAbs : Int)) := (hf9 29 (by decide)).trans f_29
    have f_30 := fT0_
    have hof : ∀ j, j < 24 ∨ (26 ≤ j ∧ j ≤ 28) → rg j = rg0 j := fun j hj => (hf9 j (hq11_1 hj)).trans (hof j hj)
    refine lv_aload_n hx hb dX5_times_98 rfl (lv_at hl 0 rfl) ?_
    refine lv_bipush (v := nI 29) hx hb dX5_times_99 (by decide) ?_
    refine lv_bipush (v := nI 29) hx hb dX5_times_101 (by decide) ?_
    refine lv_bipush (v := nI 30) hx hb dX5_times_103 (by decide) ?_
    refine bd_cv (As := [.int (nI 29), .int (nI 29), .int (nI 30)]) (rest := []) C (v5_plus _ _ _ _ _ hv 29 29 30 (by decide) (by decide) (by decide) (by rw [f_29, f_30]; exact (b34 (Nat.le_trans h5 (by decide +kernel))))) (cwV 3 hts gX5_times_X5_plus rfl rfl rfl (by decide +kernel) ⟨Nat.le_of_ble_eq_true rfl, Nat.le_of_ble_eq_true rfl⟩) hsz hw (mv_recv C hw hv) dX5_times_105 rfl hl.1 rfl (Nat.le_of_ble_eq_true rfl) ⟨Nat.le_refl _, Nat.le_refl _⟩ (fun E z H locs hp hw => ?_)
    obtain ⟨rg, hv, hv0_, hf9⟩ := hp
    have fT0_ : rg 29 = (((mu im * ra jm).natAbs : Int) + ((mu jm * ra im).natAbs : Int) + ra im * ra jm) := hv0_.trans (by rw [f_29, f_30])
    have f_im : rg im = mu im := (hf9 im (by omega)).trans f_im
    have f_12im : rg (12 + im) = ra im := (hf9 (12 + im) (by omega)).trans f_12im
    have f_jm : rg jm = mu jm := (hf9 jm (by omega)).trans f_jm
    have f_12jm : rg (12 + jm) = ra jm := (hf9 (12 + jm) (by omega)).trans f_12jm
    have f_33 : rg 33 = (mu im * mu jm / dk_p P) := (hf9 33 (by decide)).trans f_33
    have f_30 : rg 30 = (ra im * ra jm) := (hf9 30 (by decide)).trans f_30
    have f_29 := fT0_
    have hof : ∀ j, j < 24 ∨ (26 ≤ j ∧ j ≤ 28) → rg j = rg0 j := fun j hj => (hf9 j (hq11_0 hj)).trans (hof j hj)
    refine lv_aload_n hx hb dX5_times_108 rfl (lv_at hl 0 rfl) ?_
    refine lv_bipush (v := nI 30) hx hb dX5_times_109 (by decide) ?_
    refine lv_aload_n hx hb dX5_times_111 rfl (lv_at hl 0 rfl) ?_
    refine mv_g C i5 hw hv 1 (by decide) (v := .int (nI P)) rfl dX5_times_112 lk23 ?_
    refine bd_cv (As := [.int (nI 30), .int (nI P)]) (rest := []) C (v5_power _ _ _ _ _ hv 30 P (by decide) hP816) (cwV 2 hts gX5_times_X5_power rfl rfl rfl (by decide +kernel) ⟨Nat.le_of_ble_eq_true rfl, Nat.le_of_ble_eq_true rfl⟩) hsz hw (mv_recv C hw hv) dX5_times_115 rfl hl.1 rfl (Nat.le_of_ble_eq_true rfl) ⟨Nat.le_refl _, Nat.le_refl _⟩ (fun E z H locs hp hw => ?_)
    obtain ⟨rg, hv, hv0_, hf9⟩ := hp
    have fT0_ : rg 30 = ((2 ^ P : Nat) : Int) := hv0_.trans (by rfl)
    have f_im : rg im = mu im := (hf9 im (by omega)).trans f_im
    have f_12im : rg (12 + im) = ra im := (hf9 (12 + im) (by omega)).trans f_12im
    have f_jm : rg jm = mu jm := (hf9 jm (by omega)).trans f_jm
    have f_12jm : rg (12 + jm) = ra jm := (hf9 (12 + jm) (by omega)).trans f_12jm
    have f_33 : rg 33 = (mu im * mu jm / dk_p P) := (hf9 33 (by decide)).trans f_33
    have f_29 : rg 29 = (((mu im * ra jm).natAbs : Int) + ((mu jm * ra im).natAbs : Int) + ra im * ra jm) := (hf9 29 (by decide)).trans f_29
    have f_30 := fT0_
    have hof : ∀ j, j < 24 ∨ (26 ≤ j ∧ j ≤ 28) → rg j = rg0 j := fun j hj => (hf9 j (hq11_1 hj)).trans (hof j hj)
    refine lv_aload_n hx hb dX5_times_118 rfl (lv_at hl 0 rfl) ?_
    refine lv_bipush (v := nI 34) hx hb dX5_times_119 (by decide) ?_
    refine lv_bipush (v := nI 29) hx hb dX5_times_121 (by decide) ?_
    refine lv_bipush (v := nI 30) hx hb dX5_times_123 (by decide) ?_
    refine bd_cv (As := [.int (nI 34), .int (nI 29), .int (nI 30)]) (rest := []) C (v5_divideUp _ _ _ _ _ hv 34 29 30 (by decide) (by decide) (by decide) (by decide) (by decide) (by decide) (by decide) (by decide) (by decide) (by rw [f_30]; exact (Int.natCast_pos.mpr (Nat.pow_pos (by decide)))) (by rw [f_30]; exact (by rw [Int.natAbs_natCast]; exact Nat.le_trans (Nat.mul_le_mul_left 2 hp192) (by decide +kernel)))) (cwV 3 hts gX5_times_X5_divideUp rfl rfl rfl (by decide +kernel) ⟨Nat.le_of_ble_eq_true rfl, Nat.le_of_ble_eq_true rfl⟩) hsz hw (mv_recv C hw hv) dX5_times_125 rfl hl.1 rfl (Nat.le_of_ble_eq_true rfl) ⟨Nat.le_refl _, Nat.le_refl _⟩ (fun E z H locs hp hw => ?_)
    obtain ⟨rg, hv, hv0_, hf9⟩ := hp
    have fT0_ : rg 34 = (-(-(((mu im * ra jm).natAbs : Int) + ((mu jm * ra im).natAbs : Int) + ra im * ra jm) / dk_p P)) := hv0_.trans (by rw [f_29, f_30])
    have f_im : rg im = mu im := (hf9 im (by omega) (by omega)).trans f_im
    have f_12im : rg (12 + im) = ra im := (hf9 (12 + im) (by omega) (by omega)).trans f_12im
    have f_jm : rg jm = mu jm := (hf9 jm (by omega) (by omega)).trans f_jm
    have f_12jm : rg (12 + jm) = ra jm := (hf9 (12 + jm) (by omega) (by omega)).trans f_12jm
    have f_33 : rg 33 = (mu im * mu jm / dk_p P) := (hf9 33 (by decide) (by decide)).trans f_33
    have f_29 : rg 29 = (((mu im * ra jm).natAbs : Int) + ((mu jm * ra im).natAbs : Int) + ra im * ra jm) := (hf9 29 (by decide) (by decide)).trans f_29
    have f_30 : rg 30 = ((2 ^ P : Nat) : Int) := (hf9 30 (by decide) (by decide)).trans f_30
    have f_34 := fT0_
    have hof : ∀ j, j < 24 ∨ (26 ≤ j ∧ j ≤ 28) → rg j = rg0 j := fun j hj => (hf9 j (hq11_5 hj) (hq11_3 hj)).trans (hof j hj)
    refine lv_aload_n hx hb dX5_times_128 rfl (lv_at hl 0 rfl) ?_
    refine lv_bipush (v := nI 34) hx hb dX5_times_129 (by decide) ?_
    refine lv_iconst (v := nI 1) hx hb dX5_times_131 (by decide) ?_
    refine bd_cv (As := [.int (nI 34), .int (nI 1)]) (rest := []) C (v5_addSmall _ _ _ _ _ hv 34 (nI 1) (by decide) (by decide) (by rw [f_34]; exact (b34 (Nat.le_trans (add_b (neg_b (Nat.le_trans (fl_abs (Nat.pow_pos (by decide))) (neg_b h5))) (show (nI 1).toInt.natAbs ≤ 1 by decide)) (by decide +kernel))))) (cwV 2 hts gX5_times_X5_addSmall rfl rfl rfl (by decide +kernel) ⟨Nat.le_of_ble_eq_true rfl, Nat.le_of_ble_eq_true rfl⟩) hsz hw (mv_recv C hw hv) dX5_times_132 rfl hl.1 rfl (Nat.le_of_ble_eq_true rfl) ⟨Nat.le_refl _, Nat.le_refl _⟩ (fun E z H locs hp hw => ?_)
    obtain ⟨rg, hv, hv0_, hf9⟩ := hp
    have fT0_ : rg 34 = (dk_timesR P (mu im) (ra im) (mu jm) (ra jm)) := hv0_.trans (by rw [f_34]; rfl)
    have f_im : rg im = mu im := (hf9 im (by omega) (by omega)).trans f_im
    have f_12im : rg (12 + im) = ra im := (hf9 (12 + im) (by omega) (by omega)).trans f_12im
    have f_jm : rg jm = mu jm := (hf9 jm (by omega) (by omega)).trans f_jm
    have f_12jm : rg (12 + jm) = ra jm := (hf9 (12 + jm) (by omega) (by omega)).trans f_12jm
    have f_33 : rg 33 = (mu im * mu jm / dk_p P) := (hf9 33 (by decide) (by decide)).trans f_33
    have f_29 : rg 29 = (((mu im * ra jm).natAbs : Int) + ((mu jm * ra im).natAbs : Int) + ra im * ra jm) := (hf9 29 (by decide) (by decide)).trans f_29
    have f_30 : rg 30 = ((2 ^ P : Nat) : Int) := (hf9 30 (by decide) (by decide)).trans f_30
    have f_34 := fT0_
    have hof : ∀ j, j < 24 ∨ (26 ≤ j ∧ j ≤ 28) → rg j = rg0 j := fun j hj => (hf9 j (hq11_5 hj) (hq11_3 hj)).trans (hof j hj)
    refine lv_aload_n hx hb dX5_times_135 rfl (lv_at hl 0 rfl) ?_
    refine lv_iload_n hx hb dX5_times_136 rfl (lv_at hl 1 rfl) ?_
    refine bd_ci (As := [.int (nI kn)]) (rest := []) C (v5_keep _ _ _ _ _ hv (md_ivm hiv hof) kn hkn) (cwV 1 hts gX5_times_X5_keep rfl rfl rfl (by decide +kernel) ⟨Nat.le_of_ble_eq_true rfl, Nat.le_of_ble_eq_true rfl⟩) hsz hw (mv_recv C hw hv) dX5_times_137 rfl hl.1 rfl (Nat.le_of_ble_eq_true rfl) ⟨Nat.le_refl _, Nat.le_refl _⟩ (fun r9 E9 z H locs hp hw => ?_)
    rw [f_33, f_34] at hp
    exact bd_iret C hr hlk hw dX5_times_140 (by rw [hd]; exact hp)
  · have hno := are_f hc11
    refine lv_iconst (v := (-1)) hx hb dX5_times_14 (by decide) ?_
    have hd9 : dk_times P k i j mu ra = (-1, mu, ra) := if_neg (hno)
    exact bd_iret C hr hlk hw dX5_times_15 (by rw [hd9]; exact ⟨rfl, _, _, hv, md_ivm hiv hof⟩)
set_option maxHeartbeats 4000000 in
set_option maxRecDepth 100000 in
/-- over -/
theorem v5_over (l : Launch) (K : Cxt) (E0 : Nat → va_E) (z0 : Nat → Wh) (sz : Nat) {mo : Nat → Nat} {th : Int32} {P : Nat} {rg0 : Nat → Int} (hv : md_v K E0 mo th P rg0) {mu ra : Nat → Int} (hiv : md_iv P rg0 mu ra) (k i j : Int32)  : Met l yX5_over wsX5_over ({ frames := 8, cells := 0, slots := 0, locals := 280 }) (va_Pc [.ref (mo 0), .int k, .int i, .int j] (bd_P K E0 z0 sz)) (va_Qi (md_post K mo P (dk_over P k i j mu ra)) (bd_B K) (bd_A K sz)) 0 0 (bd_A K sz) := by
  refine bd_ofW (cc := cX5_over) (maxL := 4) (ret := (some .int)) (by decide) rfl (Nat.le_of_ble_eq_true rfl) ?_
  intro p e s m below meth c ls C hr hlk hsz hw hl
  have hx := C.1
  have hb := C.2.1
  have hown := C.2.2.2.1
  have hts := C.2.2.2.2.1
  have i5 : ∀ w ∈ wsX50, w ∈ wsX5_over := by decide +kernel
  have lk48 : Cond.fieldLink RX5 48 "BallDeskModel" "thrown" "I" ∈ wsX5_over := by decide +kernel
  have lk23 : Cond.fieldLink RX5 23 "BallDeskModel" "places" "I" ∈ wsX5_over := by decide +kernel
  have lk13 : Cond.fieldLink RX5 13 "BallDeskModel" "signs" "[I" ∈ wsX5_over := by decide +kernel
  have hl : lv_has ls 4 [(0, .ref (mo 0)), (1, .int k), (2, .int i), (3, .int j)] := hl
  obtain ⟨hP1, hP2⟩ := mv_P hv
  have hp192 : (2 : Nat) ^ P ≤ 2 ^ 192 := Nat.pow_le_pow_right (by decide) hP2
  have hP816 : P < 816 := by omega
  have hP64 : P + 64 < 816 := by omega
  have hP128 : 2 * (P + 64) < 816 := by omega
  have hof : ∀ j, j < 24 ∨ (26 ≤ j ∧ j ≤ 28) → rg0 j = rg0 j := fun _ _ => rfl
  refine lv_aload_n hx hb dX5_over_0 rfl (lv_at hl 0 rfl) ?_
  refine lv_iconst (v := nI 0) hx hb dX5_over_1 (by decide) ?_
  refine mv_pt C i5 hw hv dX5_over_2 lk48 (fun E H locs hv hw => ?_)
  refine lv_iload_n hx hb dX5_over_5 rfl (lv_at hl 1 rfl) ?_
  refine lv_iload_n hx hb dX5_over_6 rfl (lv_at hl 2 rfl) ?_
  refine lv_iload_n hx hb dX5_over_7 rfl (lv_at hl 3 rfl) ?_
  refine bd_sip (As := [.int k, .int i, .int j]) (rest := []) C (c5_are _ _ _ _ _ k i j) (va_cwS 3 hts gX5_over_X5_are rfl rfl rfl (by decide +kernel) ⟨Nat.le_of_ble_eq_true rfl, Nat.le_of_ble_eq_true rfl⟩) hsz hw dX5_over_8 rfl hl.1 rfl (Nat.le_of_ble_eq_true rfl) ⟨Nat.le_refl _, Nat.le_refl _⟩ (fun H locs hw => ?_)
  refine lv_if_eq (tgt := 26) hx hb dX5_over_11 (by decide) (fun hc11 => ?_) (fun hc11 => ?_)
  · have hno := are_f hc11
    refine lv_iconst (v := (-1)) hx hb dX5_over_26 (by decide) ?_
    have hd9 : dk_over P k i j mu ra = (-1, mu, ra) := if_neg (fun q => hno q.1)
    exact bd_iret C hr hlk hw dX5_over_27 (by rw [hd9]; exact ⟨rfl, _, _, hv, md_ivm hiv hof⟩)
  · obtain ⟨hpl_kn, hpl_im, hpl_jm⟩ := are_t hc11
    obtain ⟨kn, hkn, hk_kn, hx_kn⟩ := pl_x hpl_kn
    subst hk_kn
    obtain ⟨im, him, hk_im, hx_im⟩ := pl_x hpl_im
    subst hk_im
    obtain ⟨hbm_im, hb0_im, hbr_im⟩ := md_b hP2 hiv him
    have f_im : rg0 im = mu im := (hof im (by omega)).trans (hiv.2.2.2 im him).1
    have f_12im : rg0 (12 + im) = ra im := (hof (12 + im) (by omega)).trans (hiv.2.2.2 im him).2.1
    change hid _ at hbm_im hbr_im
    obtain ⟨jm, hjm, hk_jm, hx_jm⟩ := pl_x hpl_jm
    subst hk_jm
    obtain ⟨hbm_jm, hb0_jm, hbr_jm⟩ := md_b hP2 hiv hjm
    have f_jm : rg0 jm = mu jm := (hof jm (by omega)).trans (hiv.2.2.2 jm hjm).1
    have f_12jm : rg0 (12 + jm) = ra jm := (hof (12 + jm) (by omega)).trans (hiv.2.2.2 jm hjm).2.1
    change hid _ at hbm_jm hbr_jm
    refine lv_aload_n hx hb dX5_over_14 rfl (lv_at hl 0 rfl) ?_
    refine lv_iload_n hx hb dX5_over_15 rfl (lv_at hl 3 rfl) ?_
    refine lv_bipush (v := nI 12) hx hb dX5_over_16 (by decide) ?_
    refine lv_iload_n hx hb dX5_over_18 rfl (lv_at hl 3 rfl) ?_
    refine bd_iadd (v := nI (12 + jm)) hx hb dX5_over_19 (nI_add _ _) ?_
    refine bd_cip (As := [.int (nI jm), .int (nI (12 + jm))]) (rest := []) C (v5_sizes _ _ _ _ _ hv jm (12 + jm) (by omega) (by omega)) (cwV 2 hts gX5_over_X5_sizes rfl rfl rfl (by decide +kernel) ⟨Nat.le_of_ble_eq_true rfl, Nat.le_of_ble_eq_true rfl⟩) hsz hw (mv_recv C hw hv) dX5_over_20 rfl hl.1 rfl (Nat.le_of_ble_eq_true rfl) ⟨Nat.le_refl _, Nat.le_refl _⟩ (fun H locs hw => ?_)
    rw [f_jm, f_12jm]
    refine lv_if_gt (tgt := 28) hx hb dX5_over_23 (by decide) (fun hc23 => ?_) (fun hc23 => ?_)
    · have hq23 := q_c3_pos.mp hc23
      have hlt : ra jm < ((mu jm).natAbs : Int) := ov_lt hb0_jm hq23
      have hd : dk_over P (nI kn) (nI im) (nI jm) mu ra = dk_keep P kn (dk_overM P (mu im) (mu jm)) (dk_overR P (mu im) (ra im) (mu jm) (ra jm)) mu ra := by unfold dk_over; rw [if_pos ⟨⟨hpl_kn, hpl_im, hpl_jm⟩, by rw [hx_jm]; exact hlt⟩, hx_kn, hx_im, hx_jm]
      have hA2 : ((mu jm).natAbs : Int).natAbs ≤ 2 ^ 240 := by rw [Int.natAbs_natCast]; exact hbm_jm
      have h1 : ((mu im * ra jm).natAbs : Int).natAbs ≤ 2 ^ 480 := by rw [Int.natAbs_natCast]; exact Nat.le_trans (mul_b hbm_im hbr_jm) (by decide +kernel)
      have h2 : (((mu jm).natAbs : Int) * ra im).natAbs ≤ 2 ^ 480 := Nat.le_trans (mul_b hA2 hbr_im) (by decide +kernel)
      have h4 := add_b h1 h2
      have h5 := mul_b h4 (pP_b hP2)
      have h6 := sub_b hA2 hbr_jm
      have h7 := mul_b hA2 h6
      have hDp : 0 < (((mu jm).natAbs : Int) * (((mu jm).natAbs : Int) - ra jm)) := ov_pos hb0_jm hlt
      have hA0 : 0 < ((mu jm).natAbs : Int) := Int.lt_of_le_of_lt hb0_jm hlt
      change hid _ at hA2 h1 h2 h4 h5 h6 h7 hq23
      refine lv_aload_n hx hb dX5_over_28 rfl (lv_at hl 0 rfl) ?_
      refine lv_bipush (v := nI 35) hx hb dX5_over_29 (by decide) ?_
      refine lv_iload_n hx hb dX5_over_31 rfl (lv_at hl 3 rfl) ?_
      refine bd_cv (As := [.int (nI 35), .int (nI jm)]) (rest := []) C (v5_size _ _ _ _ _ hv 35 jm (by decide) (by omega) (by omega)) (cwV 2 hts gX5_over_X5_size rfl rfl rfl (by decide +kernel) ⟨Nat.le_of_ble_eq_true rfl, Nat.le_of_ble_eq_true rfl⟩) hsz hw (mv_recv C hw hv) dX5_over_32 rfl hl.1 rfl (Nat.le_of_ble_eq_true rfl) ⟨Nat.le_refl _, Nat.le_refl _⟩ (fun E z H locs hp hw => ?_)
      obtain ⟨rg, hv, hv0_, hf9⟩ := hp
      have fT0_ : rg 35 = ((mu jm).natAbs : Int) := hv0_.trans (by rw [f_jm])
      have f_im : rg im = mu im := (hf9 im (by omega)).trans f_im
      have f_12im : rg (12 + im) = ra im := (hf9 (12 + im) (by omega)).trans f_12im
      have f_jm : rg jm = mu jm := (hf9 jm (by omega)).trans f_jm
      have f_12jm : rg (12 + jm) = ra jm := (hf9 (12 + jm) (by omega)).trans f_12jm
      have f_35 := fT0_
      have hof : ∀ j, j < 24 ∨ (26 ≤ j ∧ j ≤ 28) → rg j = rg0 j := fun j hj => (hf9 j (hq11_6 hj)).trans (hof j hj)
      refine lv_aload_n hx hb dX5_over_35 rfl (lv_at hl 0 rfl) ?_
      refine lv_bipush (v := nI 29) hx hb dX5_over_36 (by decide) ?_
      refine lv_iload_n hx hb dX5_over_38 rfl (lv_at hl 2 rfl) ?_
      refine lv_aload_n hx hb dX5_over_39 rfl (lv_at hl 0 rfl) ?_
      refine mv_g C i5 hw hv 1 (by decide) (v := .int (nI P)) rfl dX5_over_40 lk23 ?_
      refine bd_cv (As := [.int (nI 29), .int (nI im), .int (nI P)]) (rest := []) C (v5_up _ _ _ _ _ hv 29 im P (by decide) (by omega) hP816 (by rw [f_im]; exact (b34 (Nat.le_trans (Nat.mul_le_mul hbm_im hp192) (by decide +kernel))))) (cwV 3 hts gX5_over_X5_up rfl rfl rfl (by decide +kernel) ⟨Nat.le_of_ble_eq_true rfl, Nat.le_of_ble_eq_true rfl⟩) hsz hw (mv_recv C hw hv) dX5_over_43 rfl hl.1 rfl (Nat.le_of_ble_eq_true rfl) ⟨Nat.le_refl _, Nat.le_refl _⟩ (fun E z H locs hp hw => ?_)
      obtain ⟨rg, hv, hv0_, hf9⟩ := hp
      have fT0_ : rg 29 = (mu im * dk_p P) := hv0_.trans (by rw [f_im])
      have f_im : rg im = mu im := (hf9 im (by omega)).trans f_im
      have f_12im : rg (12 + im) = ra im := (hf9 (12 + im) (by omega)).trans f_12im
      have f_jm : rg jm = mu jm := (hf9 jm (by omega)).trans f_jm
      have f_12jm : rg (12 + jm) = ra jm := (hf9 (12 + jm) (by omega)).trans f_12jm
      have f_35 : rg 35 = ((mu jm).natAbs : Int) := (hf9 35 (by decide)).trans f_35
      have f_29 := fT0_
      have hof : ∀ j, j < 24 ∨ (26 ≤ j ∧ j ≤ 28) → rg j = rg0 j := fun j hj => (hf9 j (hq11_0 hj)).trans (hof j hj)
      refine lv_aload_n hx hb dX5_over_46 rfl (lv_at hl 0 rfl) ?_
      refine mv_g C i5 hw hv 4 (by decide) (v := .ref (mo 2)) rfl dX5_over_47 lk13 ?_
      refine lv_bipush (v := nI 29) hx hb dX5_over_50 (by decide) ?_
      refine lv_aload_n hx hb dX5_over_52 rfl (lv_at hl 0 rfl) ?_
      refine mv_g C i5 hw hv 4 (by decide) (v := .ref (mo 2)) rfl dX5_over_53 lk13 ?_
      refine lv_iload_n hx hb dX5_over_56 rfl (lv_at hl 3 rfl) ?_
      refine mv_ld2 C hw hv (r := jm) dX5_over_57 (by omega) ?_
      rw [f_jm]
      refine lv_if_ge (tgt := 72) hx hb dX5_over_58 (by decide) (fun hc58 => ?_) (fun hc58 => ?_)
      · have hsn : ¬ mu jm < 0 := Int.not_lt.mpr (sg_ge hc58)
        refine lv_aload_n hx hb dX5_over_72 rfl (lv_at hl 0 rfl) ?_
        refine mv_g C i5 hw hv 4 (by decide) (v := .ref (mo 2)) rfl dX5_over_73 lk13 ?_
        refine lv_bipush (v := nI 29) hx hb dX5_over_76 (by decide) ?_
        refine mv_ld2 C hw hv (r := 29) dX5_over_78 (by omega) ?_
        rw [f_29]
        refine mv_st2 C hw hv (r := 29) ((mu im * dk_p P)) (by rw [f_29]) (rfl) dX5_over_79 (by omega) (fun E rg H locs hv hv0_ hf9 hw => ?_)
        have fT0_ : rg 29 = (mu im * dk_p P) := hv0_.trans (by rfl)
        have f_im : rg im = mu im := (hf9 im (by omega)).trans f_im
        have f_12im : rg (12 + im) = ra im := (hf9 (12 + im) (by omega)).trans f_12im
        have f_jm : rg jm = mu jm := (hf9 jm (by omega)).trans f_jm
        have f_12jm : rg (12 + jm) = ra jm := (hf9 (12 + jm) (by omega)).trans f_12jm
        have f_35 : rg 35 = ((mu jm).natAbs : Int) := (hf9 35 (by decide)).trans f_35
        have f_29 := fT0_
        have hof : ∀ j, j < 24 ∨ (26 ≤ j ∧ j ≤ 28) → rg j = rg0 j := fun j hj => (hf9 j (hq11_0 hj)).trans (hof j hj)
        refine lv_aload_n hx hb dX5_over_80 rfl (lv_at hl 0 rfl) ?_
        refine lv_bipush (v := nI 33) hx hb dX5_over_81 (by decide) ?_
        refine lv_bipush (v := nI 29) hx hb dX5_over_83 (by decide) ?_
        refine lv_bipush (v := nI 35) hx hb dX5_over_85 (by decide) ?_
        refine bd_cv (As := [.int (nI 33), .int (nI 29), .int (nI 35)]) (rest := []) C (v5_divide _ _ _ _ _ hv 33 29 35 (by decide) (by decide) (by decide) (by decide) (by decide) (by decide) (by rw [f_35]; exact hA0) (by rw [f_35]; exact (Nat.le_trans (Nat.mul_le_mul_left 2 hA2) (by decide +kernel)))) (cwV 3 hts gX5_over_X5_divide rfl rfl rfl (by decide +kernel) ⟨Nat.le_of_ble_eq_true rfl, Nat.le_of_ble_eq_true rfl⟩) hsz hw (mv_recv C hw hv) dX5_over_87 rfl hl.1 rfl (Nat.le_of_ble_eq_true rfl) ⟨Nat.le_refl _, Nat.le_refl _⟩ (fun E z H locs hp hw => ?_)
        obtain ⟨rg, hv, hv0_, hf9⟩ := hp
        have fT0_ : rg 33 = (dk_overM P (mu im) (mu jm)) := hv0_.trans (by rw [f_29, f_35]; unfold dk_overM; rw [if_neg hsn])
        have f_im : rg im = mu im := (hf9 im (by omega) (by omega)).trans f_im
        have f_12im : rg (12 + im) = ra im := (hf9 (12 + im) (by omega) (by omega)).trans f_12im
        have f_jm : rg jm = mu jm := (hf9 jm (by omega) (by omega)).trans f_jm
        have f_12jm : rg (12 + jm) = ra jm := (hf9 (12 + jm) (by omega) (by omega)).trans f_12jm
        have f_35 : rg 35 = ((mu jm).natAbs : Int) := (hf9 35 (by decide) (by decide)).trans f_35
        have f_29 : rg 29 = (mu im * dk_p P) := (hf9 29 (by decide) (by decide)).trans f_29
        have f_33 := fT0_
        have hof : ∀ j, j < 24 ∨ (26 ≤ j ∧ j ≤ 28) → rg j = rg0 j := fun j hj => (hf9 j (hq11_2 hj) (hq11_3 hj)).trans (hof j hj)
        refine lv_aload_n hx hb dX5_over_90 rfl (lv_at hl 0 rfl) ?_
        refine lv_bipush (v := nI 29) hx hb dX5_over_91 (by decide) ?_
        refine lv_iload_n hx hb dX5_over_93 rfl (lv_at hl 2 rfl) ?_
        refine bd_cv (As := [.int (nI 29), .int (nI im)]) (rest := []) C (v5_size _ _ _ _ _ hv 29 im (by decide) (by omega) (by omega)) (cwV 2 hts gX5_over_X5_size rfl rfl rfl (by decide +kernel) ⟨Nat.le_of_ble_eq_true rfl, Nat.le_of_ble_eq_true rfl⟩) hsz hw (mv_recv C hw hv) dX5_over_94 rfl hl.1 rfl (Nat.le_of_ble_eq_true rfl) ⟨Nat.le_refl _, Nat.le_refl _⟩ (fun E z H locs hp hw => ?_)
        obtain ⟨rg, hv, hv0_, hf9⟩ := hp
        have fT0_ : rg 29 = ((mu im).natAbs : Int) := hv0_.trans (by rw [f_im])
        have f_im : rg im = mu im := (hf9 im (by omega)).trans f_im
        have f_12im : rg (12 + im) = ra im := (hf9 (12 + im) (by omega)).trans f_12im
        have f_jm : rg jm = mu jm := (hf9 jm (by omega)).trans f_jm
        have f_12jm : rg (12 + jm) = ra jm := (hf9 (12 + jm) (by omega)).trans f_12jm
        have f_35 : rg 35 = ((mu jm).natAbs : Int) := (hf9 35 (by decide)).trans f_35
        have f_33 : rg 33 = (dk_overM P (mu im) (mu jm)) := (hf9 33 (by decide)).trans f_33
        have f_29 := fT0_
        have hof : ∀ j, j < 24 ∨ (26 ≤ j ∧ j ≤ 28) → rg j = rg0 j := fun j hj => (hf9 j (hq11_0 hj)).trans (hof j hj)
        refine lv_aload_n hx hb dX5_over_97 rfl (lv_at hl 0 rfl) ?_
        refine lv_bipush (v := nI 29) hx hb dX5_over_98 (by decide) ?_
        refine lv_bipush (v := nI 29) hx hb dX5_over_100 (by decide) ?_
        refine lv_bipush (v := nI 12) hx hb dX5_over_102 (by decide) ?_
        refine lv_iload_n hx hb dX5_over_104 rfl (lv_at hl 3 rfl) ?_
        refine bd_iadd (v := nI (12 + jm)) hx hb dX5_over_105 (nI_add _ _) ?_
        refine bd_cv (As := [.int (nI 29), .int (nI 29), .int (nI (12 + jm))]) (rest := []) C (v5_product _ _ _ _ _ hv 29 29 (12 + jm) (by decide) (by decide) (by omega) (by rw [f_29, f_12jm]; exact (b34 (by rw [ab_m hb0_jm]; exact Nat.le_trans h1 (by decide +kernel))))) (cwV 3 hts gX5_over_X5_product rfl rfl rfl (by decide +kernel) ⟨Nat.le_of_ble_eq_true rfl, Nat.le_of_ble_eq_true rfl⟩) hsz hw (mv_recv C hw hv) dX5_over_106 rfl hl.1 rfl (Nat.le_of_ble_eq_true rfl) ⟨Nat.le_refl _, Nat.le_refl _⟩ (fun E z H locs hp hw => ?_)
        obtain ⟨rg, hv, hv0_, hf9⟩ := hp
        have fT0_ : rg 29 = ((mu im * ra jm).natAbs : Int) := hv0_.trans (by rw [f_29, f_12jm]; exact ab_m hb0_jm)
        have f_im : rg im = mu im := (hf9 im (by omega)).trans f_im
        have f_12im : rg (12 + im) = ra im := (hf9 (12 + im) (by omega)).trans f_12im
        have f_jm : rg jm = mu jm := (hf9 jm (by omega)).trans f_jm
        have f_12jm : rg (12 + jm) = ra jm := (hf9 (12 + jm) (by omega)).trans f_12jm
        have f_35 : rg 35 = ((mu jm).natAbs : Int) := (hf9 35 (by decide)).trans f_35
        have f_33 : rg 33 = (dk_overM P (mu im) (mu jm)) := (hf9 33 (by decide)).trans f_33
        have f_29 := fT0_
        have hof : ∀ j, j < 24 ∨ (26 ≤ j ∧ j ≤ 28) → rg j = rg0 j := fun j hj => (hf9 j (hq11_0 hj)).trans (hof j hj)
        refine lv_aload_n hx hb dX5_over_109 rfl (lv_at hl 0 rfl) ?_
        refine lv_bipush (v := nI 30) hx hb dX5_over_110 (by decide) ?_
        refine lv_bipush (v := nI 35) hx hb dX5_over_112 (by decide) ?_
        refine lv_bipush (v := nI 12) hx hb dX5_over_114 (by decide) ?_
        refine lv_iload_n hx hb dX5_over_116 rfl (lv_at hl 2 rfl) ?_
        refine bd_iadd (v := nI (12 + im)) hx hb dX5_over_117 (nI_add _ _) ?_
        refine bd_cv (As := [.int (nI 30), .int (nI 35), .int (nI (12 + im))]) (rest := []) C (v5_product _ _ _ _ _ hv 30 35 (12 + im) (by decide) (by decide) (by omega) (by rw [f_35, f_12im]; exact (b34 (Nat.le_trans h2 (by decide +kernel))))) (cwV 3 hts gX5_over_X5_product rfl rfl rfl (by decide +kernel) ⟨Nat.le_of_ble_eq_true rfl, Nat.le_of_ble_eq_true rfl⟩) hsz hw (mv_recv C hw hv) dX5_over_118 rfl hl.1 rfl (Nat.le_of_ble_eq_true rfl) ⟨Nat.le_refl _, Nat.le_refl _⟩ (fun E z H locs hp hw => ?_)
        obtain ⟨rg, hv, hv0_, hf9⟩ := hp
        have fT0_ : rg 30 = (((mu jm).natAbs : Int) * ra im) := hv0_.trans (by rw [f_35, f_12im])
        have f_im : rg im = mu im := (hf9 im (by omega)).trans f_im
        have f_12im : rg (12 + im) = ra im := (hf9 (12 + im) (by omega)).trans f_12im
        have f_jm : rg jm = mu jm := (hf9 jm (by omega)).trans f_jm
        have f_12jm : rg (12 + jm) = ra jm := (hf9 (12 + jm) (by omega)).trans f_12jm
        have f_35 : rg 35 = ((mu jm).natAbs : Int) := (hf9 35 (by decide)).trans f_35
        have f_33 : rg 33 = (dk_overM P (mu im) (mu jm)) := (hf9 33 (by decide)).trans f_33
        have f_29 : rg 29 = ((mu im * ra jm).natAbs : Int) := (hf9 29 (by decide)).trans f_29
        have f_30 := fT0_
        have hof : ∀ j, j < 24 ∨ (26 ≤ j ∧ j ≤ 28) → rg j = rg0 j := fun j hj => (hf9 j (hq11_1 hj)).trans (hof j hj)
        refine lv_aload_n hx hb dX5_over_121 rfl (lv_at hl 0 rfl) ?_
        refine lv_bipush (v := nI 29) hx hb dX5_over_122 (by decide) ?_
        refine lv_bipush (v := nI 29) hx hb dX5_over_124 (by decide) ?_
        refine lv_bipush (v := nI 30) hx hb dX5_over_126 (by decide) ?_
        refine bd_cv (As := [.int (nI 29), .int (nI 29), .int (nI 30)]) (rest := []) C (v5_plus _ _ _ _ _ hv 29 29 30 (by decide) (by decide) (by decide) (by rw [f_29, f_30]; exact (b34 (Nat.le_trans h4 (by decide +kernel))))) (cwV 3 hts gX5_over_X5_plus rfl rfl rfl (by decide +kernel) ⟨Nat.le_of_ble_eq_true rfl, Nat.le_of_ble_eq_true rfl⟩) hsz hw (mv_recv C hw hv) dX5_over_128 rfl hl.1 rfl (Nat.le_of_ble_eq_true rfl) ⟨Nat.le_refl _, Nat.le_refl _⟩ (fun E z H locs hp hw => ?_)
        obtain ⟨rg, hv, hv0_, hf9⟩ := hp
        have fT0_ : rg 29 = (((mu im * ra jm).natAbs : Int) + ((mu jm).natAbs : Int) * ra im) := hv0_.trans (by rw [f_29, f_30])
        have f_im : rg im = mu im := (hf9 im (by omega)).trans f_im
        have f_12im : rg (12 + im) = ra im := (hf9 (12 + im) (by omega)).trans f_12im
        have f_jm : rg jm = mu jm := (hf9 jm (by omega)).trans f_jm
        have f_12jm : rg (12 + jm) = ra jm := (hf9 (12 + jm) (by omega)).trans f_12jm
        have f_35 : rg 35 = ((mu jm).natAbs : Int) := (hf9 35 (by decide)).trans f_35
        have f_33 : rg 33 = (dk_overM P (mu im) (mu jm)) := (hf9 33 (by decide)).trans f_33
        have f_30 : rg 30 = (((mu jm).natAbs : Int) * ra im) := (hf9 30 (by decide)).trans f_30
        have f_29 := fT0_
        have hof : ∀ j, j < 24 ∨ (26 ≤ j ∧ j ≤ 28) → rg j = rg0 j := fun j hj => (hf9 j (hq11_0 hj)).trans (hof j hj)
        refine lv_aload_n hx hb dX5_over_131 rfl (lv_at hl 0 rfl) ?_
        refine lv_bipush (v := nI 29) hx hb dX5_over_132 (by decide) ?_
        refine lv_bipush (v := nI 29) hx hb dX5_over_134 (by decide) ?_
        refine lv_aload_n hx hb dX5_over_136 rfl (lv_at hl 0 rfl) ?_
        refine mv_g C i5 hw hv 1 (by decide) (v := .int (nI P)) rfl dX5_over_137 lk23 ?_
        refine bd_cv (As := [.int (nI 29), .int (nI 29), .int (nI P)]) (rest := []) C (v5_up _ _ _ _ _ hv 29 29 P (by decide) (by decide) hP816 (by rw [f_29]; exact (b34 (Nat.le_trans (Nat.mul_le_mul h4 hp192) (by decide +kernel))))) (cwV 3 hts gX5_over_X5_up rfl rfl rfl (by decide +kernel) ⟨Nat.le_of_ble_eq_true rfl, Nat.le_of_ble_eq_true rfl⟩) hsz hw (mv_recv C hw hv) dX5_over_140 rfl hl.1 rfl (Nat.le_of_ble_eq_true rfl) ⟨Nat.le_refl _, Nat.le_refl _⟩ (fun E z H locs hp hw => ?_)
        obtain ⟨rg, hv, hv0_, hf9⟩ := hp
        have fT0_ : rg 29 = ((((mu im * ra jm).natAbs : Int) + ((mu jm).natAbs : Int) * ra im) * dk_p P) := hv0_.trans (by rw [f_29])
        have f_im : rg im = mu im := (hf9 im (by omega)).trans f_im
        have f_12im : rg (12 + im) = ra im := (hf9 (12 + im) (by omega)).trans f_12im
        have f_jm : rg jm = mu jm := (hf9 jm (by omega)).trans f_jm
        have f_12jm : rg (12 + jm) = ra jm := (hf9 (12 + jm) (by omega)).trans f_12jm
        have f_35 : rg 35 = ((mu jm).natAbs : Int) := (hf9 35 (by decide)).trans f_35
        have f_33 : rg 33 = (dk_overM P (mu im) (mu jm)) := (hf9 33 (by decide)).trans f_33
        have f_30 : rg 30 = (((mu jm).natAbs : Int) * ra im) := (hf9 30 (by decide)).trans f_30
        have f_29 := fT0_
        have hof : ∀ j, j < 24 ∨ (26 ≤ j ∧ j ≤ 28) → rg j = rg0 j := fun j hj => (hf9 j (hq11_0 hj)).trans (hof j hj)
        refine lv_aload_n hx hb dX5_over_143 rfl (lv_at hl 0 rfl) ?_
        refine lv_bipush (v := nI 30) hx hb dX5_over_144 (by decide) ?_
        refine lv_bipush (v := nI 35) hx hb dX5_over_146 (by decide) ?_
        refine lv_bipush (v := nI 12) hx hb dX5_over_148 (by decide) ?_
        refine lv_iload_n hx hb dX5_over_150 rfl (lv_at hl 3 rfl) ?_
        refine bd_iadd (v := nI (12 + jm)) hx hb dX5_over_151 (nI_add _ _) ?_
        refine bd_cv (As := [.int (nI 30), .int (nI 35), .int (nI (12 + jm))]) (rest := []) C (v5_minus _ _ _ _ _ hv 30 35 (12 + jm) (by decide) (by decide) (by omega) (by rw [f_35, f_12jm]; exact (b34 (Nat.le_trans h6 (by decide +kernel))))) (cwV 3 hts gX5_over_X5_minus rfl rfl rfl (by decide +kernel) ⟨Nat.le_of_ble_eq_true rfl, Nat.le_of_ble_eq_true rfl⟩) hsz hw (mv_recv C hw hv) dX5_over_152 rfl hl.1 rfl (Nat.le_of_ble_eq_true rfl) ⟨Nat.le_refl _, Nat.le_refl _⟩ (fun E z H locs hp hw => ?_)
        obtain ⟨rg, hv, hv0_, hf9⟩ := hp
        have fT0_ : rg 30 = (((mu jm).natAbs : Int) - ra jm) := hv0_.trans (by rw [f_35, f_12jm])
        have f_im : rg im = mu im := (hf9 im (by omega)).trans f_im
        have f_12im : rg (12 + im) = ra im := (hf9 (12 + im) (by omega)).trans f_12im
        have f_jm : rg jm = mu jm := (hf9 jm (by omega)).trans f_jm
        have f_12jm : rg (12 + jm) = ra jm := (hf9 (12 + jm) (by omega)).trans f_12jm
        have f_35 : rg 35 = ((mu jm).natAbs : Int) := (hf9 35 (by decide)).trans f_35
        have f_33 : rg 33 = (dk_overM P (mu im) (mu jm)) := (hf9 33 (by decide)).trans f_33
        have f_29 : rg 29 = ((((mu im * ra jm).natAbs : Int) + ((mu jm).natAbs : Int) * ra im) * dk_p P) := (hf9 29 (by decide)).trans f_29
        have f_30 := fT0_
        have hof : ∀ j, j < 24 ∨ (26 ≤ j ∧ j ≤ 28) → rg j = rg0 j := fun j hj => (hf9 j (hq11_1 hj)).trans (hof j hj)
        refine lv_aload_n hx hb dX5_over_155 rfl (lv_at hl 0 rfl) ?_
        refine lv_bipush (v := nI 30) hx hb dX5_over_156 (by decide) ?_
        refine lv_bipush (v := nI 30) hx hb dX5_over_158 (by decide) ?_
        refine lv_bipush (v := nI 35) hx hb dX5_over_160 (by decide) ?_
        refine bd_cv (As := [.int (nI 30), .int (nI 30), .int (nI 35)]) (rest := []) C (v5_product _ _ _ _ _ hv 30 30 35 (by decide) (by decide) (by decide) (by rw [f_30, f_35]; exact (b34 (by rw [Int.mul_comm]; exact Nat.le_trans h7 (by decide +kernel))))) (cwV 3 hts gX5_over_X5_product rfl rfl rfl (by decide +kernel) ⟨Nat.le_of_ble_eq_true rfl, Nat.le_of_ble_eq_true rfl⟩) hsz hw (mv_recv C hw hv) dX5_over_162 rfl hl.1 rfl (Nat.le_of_ble_eq_true rfl) ⟨Nat.le_refl _, Nat.le_refl _⟩ (fun E z H locs hp hw => ?_)
        obtain ⟨rg, hv, hv0_, hf9⟩ := hp
        have fT0_ : rg 30 = (((mu jm).natAbs : Int) * (((mu jm).natAbs : Int) - ra jm)) := hv0_.trans (by rw [f_30, f_35]; exact Int.mul_comm _ _)
        have f_im : rg im = mu im := (hf9 im (by omega)).trans f_im
        have f_12im : rg (12 + im) = ra im := (hf9 (12 + im) (by omega)).trans f_12im
        have f_jm : rg jm = mu jm := (hf9 jm (by omega)).trans f_jm
        have f_12jm : rg (12 + jm) = ra jm := (hf9 (12 + jm) (by omega)).trans f_12jm
        have f_35 : rg 35 = ((mu jm).natAbs : Int) := (hf9 35 (by decide)).trans f_35
        have f_33 : rg 33 = (dk_overM P (mu im) (mu jm)) := (hf9 33 (by decide)).trans f_33
        have f_29 : rg 29 = ((((mu im * ra jm).natAbs : Int) + ((mu jm).natAbs : Int) * ra im) * dk_p P) := (hf9 29 (by decide)).trans f_29
        have f_30 := fT0_
        have hof : ∀ j, j < 24 ∨ (26 ≤ j ∧ j ≤ 28) → rg j = rg0 j := fun j hj => (hf9 j (hq11_1 hj)).trans (hof j hj)
        refine lv_aload_n hx hb dX5_over_165 rfl (lv_at hl 0 rfl) ?_
        refine lv_bipush (v := nI 34) hx hb dX5_over_166 (by decide) ?_
        refine lv_bipush (v := nI 29) hx hb dX5_over_168 (by decide) ?_
        refine lv_bipush (v := nI 30) hx hb dX5_over_170 (by decide) ?_
        refine bd_cv (As := [.int (nI 34), .int (nI 29), .int (nI 30)]) (rest := []) C (v5_divideUp _ _ _ _ _ hv 34 29 30 (by decide) (by decide) (by decide) (by decide) (by decide) (by decide) (by decide) (by decide) (by decide) (by rw [f_30]; exact hDp) (by rw [f_30]; exact (Nat.le_trans (Nat.mul_le_mul_left 2 h7) (by decide +kernel)))) (cwV 3 hts gX5_over_X5_divideUp rfl rfl rfl (by decide +kernel) ⟨Nat.le_of_ble_eq_true rfl, Nat.le_of_ble_eq_true rfl⟩) hsz hw (mv_recv C hw hv) dX5_over_172 rfl hl.1 rfl (Nat.le_of_ble_eq_true rfl) ⟨Nat.le_refl _, Nat.le_refl _⟩ (fun E z H locs hp hw => ?_)
        obtain ⟨rg, hv, hv0_, hf9⟩ := hp
        have fT0_ : rg 34 = (-(-((((mu im * ra jm).natAbs : Int) + ((mu jm).natAbs : Int) * ra im) * dk_p P) / (((mu jm).natAbs : Int) * (((mu jm).natAbs : Int) - ra jm)))) := hv0_.trans (by rw [f_29, f_30])
        have f_im : rg im = mu im := (hf9 im (by omega) (by omega)).trans f_im
        have f_12im : rg (12 + im) = ra im := (hf9 (12 + im) (by omega) (by omega)).trans f_12im
        have f_jm : rg jm = mu jm := (hf9 jm (by omega) (by omega)).trans f_jm
        have f_12jm : rg (12 + jm) = ra jm := (hf9 (12 + jm) (by omega) (by omega)).trans f_12jm
        have f_35 : rg 35 = ((mu jm).natAbs : Int) := (hf9 35 (by decide) (by decide)).trans f_35
        have f_33 : rg 33 = (dk_overM P (mu im) (mu jm)) := (hf9 33 (by decide) (by decide)).trans f_33
        have f_29 : rg 29 = ((((mu im * ra jm).natAbs : Int) + ((mu jm).natAbs : Int) * ra im) * dk_p P) := (hf9 29 (by decide) (by decide)).trans f_29
        have f_30 : rg 30 = (((mu jm).natAbs : Int) * (((mu jm).natAbs : Int) - ra jm)) := (hf9 30 (by decide) (by decide)).trans f_30
        have f_34 := fT0_
        have hof : ∀ j, j < 24 ∨ (26 ≤ j ∧ j ≤ 28) → rg j = rg0 j := fun j hj => (hf9 j (hq11_5 hj) (hq11_3 hj)).trans (hof j hj)
        refine lv_aload_n hx hb dX5_over_175 rfl (lv_at hl 0 rfl) ?_
        refine lv_bipush (v := nI 34) hx hb dX5_over_176 (by decide) ?_
        refine lv_iconst (v := nI 1) hx hb dX5_over_178 (by decide) ?_
        refine bd_cv (As := [.int (nI 34), .int (nI 1)]) (rest := []) C (v5_addSmall _ _ _ _ _ hv 34 (nI 1) (by decide) (by decide) (by rw [f_34]; exact (b34 (Nat.le_trans (add_b (neg_b (Nat.le_trans (fz_b hDp) (neg_b h5))) (show (nI 1).toInt.natAbs ≤ 1 by decide)) (by decide +kernel))))) (cwV 2 hts gX5_over_X5_addSmall rfl rfl rfl (by decide +kernel) ⟨Nat.le_of_ble_eq_true rfl, Nat.le_of_ble_eq_true rfl⟩) hsz hw (mv_recv C hw hv) dX5_over_179 rfl hl.1 rfl (Nat.le_of_ble_eq_true rfl) ⟨Nat.le_refl _, Nat.le_refl _⟩ (fun E z H locs hp hw => ?_)
        obtain ⟨rg, hv, hv0_, hf9⟩ := hp
        have fT0_ : rg 34 = (dk_overR P (mu im) (ra im) (mu jm) (ra jm)) := hv0_.trans (by rw [f_34]; rfl)
        have f_im : rg im = mu im := (hf9 im (by omega) (by omega)).trans f_im
        have f_12im : rg (12 + im) = ra im := (hf9 (12 + im) (by omega) (by omega)).trans f_12im
        have f_jm : rg jm = mu jm := (hf9 jm (by omega) (by omega)).trans f_jm
        have f_12jm : rg (12 + jm) = ra jm := (hf9 (12 + jm) (by omega) (by omega)).trans f_12jm
        have f_35 : rg 35 = ((mu jm).natAbs : Int) := (hf9 35 (by decide) (by decide)).trans f_35
        have f_33 : rg 33 = (dk_overM P (mu im) (mu jm)) := (hf9 33 (by decide) (by decide)).trans f_33
        have f_29 : rg 29 = ((((mu im * ra jm).natAbs : Int) + ((mu jm).natAbs : Int) * ra im) * dk_p P) := (hf9 29 (by decide) (by decide)).trans f_29
        have f_30 : rg 30 = (((mu jm).natAbs : Int) * (((mu jm).natAbs : Int) - ra jm)) := (hf9 30 (by decide) (by decide)).trans f_30
        have f_34 := fT0_
        have hof : ∀ j, j < 24 ∨ (26 ≤ j ∧ j ≤ 28) → rg j = rg0 j := fun j hj => (hf9 j (hq11_5 hj) (hq11_3 hj)).trans (hof j hj)
        refine lv_aload_n hx hb dX5_over_182 rfl (lv_at hl 0 rfl) ?_
        refine lv_iload_n hx hb dX5_over_183 rfl (lv_at hl 1 rfl) ?_
        refine bd_ci (As := [.int (nI kn)]) (rest := []) C (v5_keep _ _ _ _ _ hv (md_ivm hiv hof) kn hkn) (cwV 1 hts gX5_over_X5_keep rfl rfl rfl (by decide +kernel) ⟨Nat.le_of_ble_eq_true rfl, Nat.le_of_ble_eq_true rfl⟩) hsz hw (mv_recv C hw hv) dX5_over_184 rfl hl.1 rfl (Nat.le_of_ble_eq_true rfl) ⟨Nat.le_refl _, Nat.le_refl _⟩ (fun r9 E9 z H locs hp hw => ?_)
        rw [f_33, f_34] at hp
        exact bd_iret C hr hlk hw dX5_over_187 (by rw [hd]; exact hp)
      · have hsn : mu jm < 0 := sg_nge hc58
        refine lv_aload_n hx hb dX5_over_61 rfl (lv_at hl 0 rfl) ?_
        refine mv_g C i5 hw hv 4 (by decide) (v := .ref (mo 2)) rfl dX5_over_62 lk13 ?_
        refine lv_bipush (v := nI 29) hx hb dX5_over_65 (by decide) ?_
        refine mv_ld2 C hw hv (r := 29) dX5_over_67 (by omega) ?_
        rw [f_29]
        refine bd_ineg (v := -(q_sg (mu im * dk_p P))) hx hb dX5_over_68 rfl ?_
        refine lv_goto (tgt := 79) hx hb dX5_over_69 (by decide) ?_
        refine mv_st2 C hw hv (r := 29) (-(mu im * dk_p P)) (by rw [f_29, Int.natAbs_neg]) (sg_neg _) dX5_over_79 (by omega) (fun E rg H locs hv hv0_ hf9 hw => ?_)
        have fT0_ : rg 29 = -(mu im * dk_p P) := hv0_.trans (by rfl)
        have f_im : rg im = mu im := (hf9 im (by omega)).trans f_im
        have f_12im : rg (12 + im) = ra im := (hf9 (12 + im) (by omega)).trans f_12im
        have f_jm : rg jm = mu jm := (hf9 jm (by omega)).trans f_jm
        have f_12jm : rg (12 + jm) = ra jm := (hf9 (12 + jm) (by omega)).trans f_12jm
        have f_35 : rg 35 = ((mu jm).natAbs : Int) := (hf9 35 (by decide)).trans f_35
        have f_29 := fT0_
        have hof : ∀ j, j < 24 ∨ (26 ≤ j ∧ j ≤ 28) → rg j = rg0 j := fun j hj => (hf9 j (hq11_0 hj)).trans (hof j hj)
        refine lv_aload_n hx hb dX5_over_80 rfl (lv_at hl 0 rfl) ?_
        refine lv_bipush (v := nI 33) hx hb dX5_over_81 (by decide) ?_
        refine lv_bipush (v := nI 29) hx hb dX5_over_83 (by decide) ?_
        refine lv_bipush (v := nI 35) hx hb dX5_over_85 (by decide) ?_
        refine bd_cv (As := [.int (nI 33), .int (nI 29), .int (nI 35)]) (rest := []) C (v5_divide _ _ _ _ _ hv 33 29 35 (by decide) (by decide) (by decide) (by decide) (by decide) (by decide) (by rw [f_35]; exact hA0) (by rw [f_35]; exact (Nat.le_trans (Nat.mul_le_mul_left 2 hA2) (by decide +kernel)))) (cwV 3 hts gX5_over_X5_divide rfl rfl rfl (by decide +kernel) ⟨Nat.le_of_ble_eq_true rfl, Nat.le_of_ble_eq_true rfl⟩) hsz hw (mv_recv C hw hv) dX5_over_87 rfl hl.1 rfl (Nat.le_of_ble_eq_true rfl) ⟨Nat.le_refl _, Nat.le_refl _⟩ (fun E z H locs hp hw => ?_)
        obtain ⟨rg, hv, hv0_, hf9⟩ := hp
        have fT0_ : rg 33 = (dk_overM P (mu im) (mu jm)) := hv0_.trans (by rw [f_29, f_35]; unfold dk_overM; rw [if_pos hsn, Int.neg_mul])
        have f_im : rg im = mu im := (hf9 im (by omega) (by omega)).trans f_im
        have f_12im : rg (12 + im) = ra im := (hf9 (12 + im) (by omega) (by omega)).trans f_12im
        have f_jm : rg jm = mu jm := (hf9 jm (by omega) (by omega)).trans f_jm
        have f_12jm : rg (12 + jm) = ra jm := (hf9 (12 + jm) (by omega) (by omega)).trans f_12jm
        have f_35 : rg 35 = ((mu jm).natAbs : Int) := (hf9 35 (by decide) (by decide)).trans f_35
        have f_29 : rg 29 = -(mu im * dk_p P) := (hf9 29 (by decide) (by decide)).trans f_29
        have f_33 := fT0_
        have hof : ∀ j, j < 24 ∨ (26 ≤ j ∧ j ≤ 28) → rg j = rg0 j := fun j hj => (hf9 j (hq11_2 hj) (hq11_3 hj)).trans (hof j hj)
        refine lv_aload_n hx hb dX5_over_90 rfl (lv_at hl 0 rfl) ?_
        refine lv_bipush (v := nI 29) hx hb dX5_over_91 (by decide) ?_
        refine lv_iload_n hx hb dX5_over_93 rfl (lv_at hl 2 rfl) ?_
        refine bd_cv (As := [.int (nI 29), .int (nI im)]) (rest := []) C (v5_size _ _ _ _ _ hv 29 im (by decide) (by omega) (by omega)) (cwV 2 hts gX5_over_X5_size rfl rfl rfl (by decide +kernel) ⟨Nat.le_of_ble_eq_true rfl, Nat.le_of_ble_eq_true rfl⟩) hsz hw (mv_recv C hw hv) dX5_over_94 rfl hl.1 rfl (Nat.le_of_ble_eq_true rfl) ⟨Nat.le_refl _, Nat.le_refl _⟩ (fun E z H locs hp hw => ?_)
        obtain ⟨rg, hv, hv0_, hf9⟩ := hp
        have fT0_ : rg 29 = ((mu im).natAbs : Int) := hv0_.trans (by rw [f_im])
        have f_im : rg im = mu im := (hf9 im (by omega)).trans f_im
        have f_12im : rg (12 + im) = ra im := (hf9 (12 + im) (by omega)).trans f_12im
        have f_jm : rg jm = mu jm := (hf9 jm (by omega)).trans f_jm
        have f_12jm : rg (12 + jm) = ra jm := (hf9 (12 + jm) (by omega)).trans f_12jm
        have f_35 : rg 35 = ((mu jm).natAbs : Int) := (hf9 35 (by decide)).trans f_35
        have f_33 : rg 33 = (dk_overM P (mu im) (mu jm)) := (hf9 33 (by decide)).trans f_33
        have f_29 := fT0_
        have hof : ∀ j, j < 24 ∨ (26 ≤ j ∧ j ≤ 28) → rg j = rg0 j := fun j hj => (hf9 j (hq11_0 hj)).trans (hof j hj)
        refine lv_aload_n hx hb dX5_over_97 rfl (lv_at hl 0 rfl) ?_
        refine lv_bipush (v := nI 29) hx hb dX5_over_98 (by decide) ?_
        refine lv_bipush (v := nI 29) hx hb dX5_over_100 (by decide) ?_
        refine lv_bipush (v := nI 12) hx hb dX5_over_102 (by decide) ?_
        refine lv_iload_n hx hb dX5_over_104 rfl (lv_at hl 3 rfl) ?_
        refine bd_iadd (v := nI (12 + jm)) hx hb dX5_over_105 (nI_add _ _) ?_
        refine bd_cv (As := [.int (nI 29), .int (nI 29), .int (nI (12 + jm))]) (rest := []) C (v5_product _ _ _ _ _ hv 29 29 (12 + jm) (by decide) (by decide) (by omega) (by rw [f_29, f_12jm]; exact (b34 (by rw [ab_m hb0_jm]; exact Nat.le_trans h1 (by decide +kernel))))) (cwV 3 hts gX5_over_X5_product rfl rfl rfl (by decide +kernel) ⟨Nat.le_of_ble_eq_true rfl, Nat.le_of_ble_eq_true rfl⟩) hsz hw (mv_recv C hw hv) dX5_over_106 rfl hl.1 rfl (Nat.le_of_ble_eq_true rfl) ⟨Nat.le_refl _, Nat.le_refl _⟩ (fun E z H locs hp hw => ?_)
        obtain ⟨rg, hv, hv0_, hf9⟩ := hp
        have fT0_ : rg 29 = ((mu im * ra jm).natAbs : Int) := hv0_.trans (by rw [f_29, f_12jm]; exact ab_m hb0_jm)
        have f_im : rg im = mu im := (hf9 im (by omega)).trans f_im
        have f_12im : rg (12 + im) = ra im := (hf9 (12 + im) (by omega)).trans f_12im
        have f_jm : rg jm = mu jm := (hf9 jm (by omega)).trans f_jm
        have f_12jm : rg (12 + jm) = ra jm := (hf9 (12 + jm) (by omega)).trans f_12jm
        have f_35 : rg 35 = ((mu jm).natAbs : Int) := (hf9 35 (by decide)).trans f_35
        have f_33 : rg 33 = (dk_overM P (mu im) (mu jm)) := (hf9 33 (by decide)).trans f_33
        have f_29 := fT0_
        have hof : ∀ j, j < 24 ∨ (26 ≤ j ∧ j ≤ 28) → rg j = rg0 j := fun j hj => (hf9 j (hq11_0 hj)).trans (hof j hj)
        refine lv_aload_n hx hb dX5_over_109 rfl (lv_at hl 0 rfl) ?_
        refine lv_bipush (v := nI 30) hx hb dX5_over_110 (by decide) ?_
        refine lv_bipush (v := nI 35) hx hb dX5_over_112 (by decide) ?_
        refine lv_bipush (v := nI 12) hx hb dX5_over_114 (by decide) ?_
        refine lv_iload_n hx hb dX5_over_116 rfl (lv_at hl 2 rfl) ?_
        refine bd_iadd (v := nI (12 + im)) hx hb dX5_over_117 (nI_add _ _) ?_
        refine bd_cv (As := [.int (nI 30), .int (nI 35), .int (nI (12 + im))]) (rest := []) C (v5_product _ _ _ _ _ hv 30 35 (12 + im) (by decide) (by decide) (by omega) (by rw [f_35, f_12im]; exact (b34 (Nat.le_trans h2 (by decide +kernel))))) (cwV 3 hts gX5_over_X5_product rfl rfl rfl (by decide +kernel) ⟨Nat.le_of_ble_eq_true rfl, Nat.le_of_ble_eq_true rfl⟩) hsz hw (mv_recv C hw hv) dX5_over_118 rfl hl.1 rfl (Nat.le_of_ble_eq_true rfl) ⟨Nat.le_refl _, Nat.le_refl _⟩ (fun E z H locs hp hw => ?_)
        obtain ⟨rg, hv, hv0_, hf9⟩ := hp
        have fT0_ : rg 30 = (((mu jm).natAbs : Int) * ra im) := hv0_.trans (by rw [f_35, f_12im])
        have f_im : rg im = mu im := (hf9 im (by omega)).trans f_im
        have f_12im : rg (12 + im) = ra im := (hf9 (12 + im) (by omega)).trans f_12im
        have f_jm : rg jm = mu jm := (hf9 jm (by omega)).trans f_jm
        have f_12jm : rg (12 + jm) = ra jm := (hf9 (12 + jm) (by omega)).trans f_12jm
        have f_35 : rg 35 = ((mu jm).natAbs : Int) := (hf9 35 (by decide)).trans f_35
        have f_33 : rg 33 = (dk_overM P (mu im) (mu jm)) := (hf9 33 (by decide)).trans f_33
        have f_29 : rg 29 = ((mu im * ra jm).natAbs : Int) := (hf9 29 (by decide)).trans f_29
        have f_30 := fT0_
        have hof : ∀ j, j < 24 ∨ (26 ≤ j ∧ j ≤ 28) → rg j = rg0 j := fun j hj => (hf9 j (hq11_1 hj)).trans (hof j hj)
        refine lv_aload_n hx hb dX5_over_121 rfl (lv_at hl 0 rfl) ?_
        refine lv_bipush (v := nI 29) hx hb dX5_over_122 (by decide) ?_
        refine lv_bipush (v := nI 29) hx hb dX5_over_124 (by decide) ?_
        refine lv_bipush (v := nI 30) hx hb dX5_over_126 (by decide) ?_
        refine bd_cv (As := [.int (nI 29), .int (nI 29), .int (nI 30)]) (rest := []) C (v5_plus _ _ _ _ _ hv 29 29 30 (by decide) (by decide) (by decide) (by rw [f_29, f_30]; exact (b34 (Nat.le_trans h4 (by decide +kernel))))) (cwV 3 hts gX5_over_X5_plus rfl rfl rfl (by decide +kernel) ⟨Nat.le_of_ble_eq_true rfl, Nat.le_of_ble_eq_true rfl⟩) hsz hw (mv_recv C hw hv) dX5_over_128 rfl hl.1 rfl (Nat.le_of_ble_eq_true rfl) ⟨Nat.le_refl _, Nat.le_refl _⟩ (fun E z H locs hp hw => ?_)
        obtain ⟨rg, hv, hv0_, hf9⟩ := hp
        have fT0_ : rg 29 = (((mu im * ra jm).natAbs : Int) + ((mu jm).natAbs : Int) * ra im) := hv0_.trans (by rw [f_29, f_30])
        have f_im : rg im = mu im := (hf9 im (by omega)).trans f_im
        have f_12im : rg (12 + im) = ra im := (hf9 (12 + im) (by omega)).trans f_12im
        have f_jm : rg jm = mu jm := (hf9 jm (by omega)).trans f_jm
        have f_12jm : rg (12 + jm) = ra jm := (hf9 (12 + jm) (by omega)).trans f_12jm
        have f_35 : rg 35 = ((mu jm).natAbs : Int) := (hf9 35 (by decide)).trans f_35
        have f_33 : rg 33 = (dk_overM P (mu im) (mu jm)) := (hf9 33 (by decide)).trans f_33
        have f_30 : rg 30 = (((mu jm).natAbs : Int) * ra im) := (hf9 30 (by decide)).trans f_30
        have f_29 := fT0_
        have hof : ∀ j, j < 24 ∨ (26 ≤ j ∧ j ≤ 28) → rg j = rg0 j := fun j hj => (hf9 j (hq11_0 hj)).trans (hof j hj)
        refine lv_aload_n hx hb dX5_over_131 rfl (lv_at hl 0 rfl) ?_
        refine lv_bipush (v := nI 29) hx hb dX5_over_132 (by decide) ?_
        refine lv_bipush (v := nI 29) hx hb dX5_over_134 (by decide) ?_
        refine lv_aload_n hx hb dX5_over_136 rfl (lv_at hl 0 rfl) ?_
        refine mv_g C i5 hw hv 1 (by decide) (v := .int (nI P)) rfl dX5_over_137 lk23 ?_
        refine bd_cv (As := [.int (nI 29), .int (nI 29), .int (nI P)]) (rest := []) C (v5_up _ _ _ _ _ hv 29 29 P (by decide) (by decide) hP816 (by rw [f_29]; exact (b34 (Nat.le_trans (Nat.mul_le_mul h4 hp192) (by decide +kernel))))) (cwV 3 hts gX5_over_X5_up rfl rfl rfl (by decide +kernel) ⟨Nat.le_of_ble_eq_true rfl, Nat.le_of_ble_eq_true rfl⟩) hsz hw (mv_recv C hw hv) dX5_over_140 rfl hl.1 rfl (Nat.le_of_ble_eq_true rfl) ⟨Nat.le_refl _, Nat.le_refl _⟩ (fun E z H locs hp hw => ?_)
        obtain ⟨rg, hv, hv0_, hf9⟩ := hp
        have fT0_ : rg 29 = ((((mu im * ra jm).natAbs : Int) + ((mu jm).natAbs : Int) * ra im) * dk_p P) := hv0_.trans (by rw [f_29])
        have f_im : rg im = mu im := (hf9 im (by omega)).trans f_im
        have f_12im : rg (12 + im) = ra im := (hf9 (12 + im) (by omega)).trans f_12im
        have f_jm : rg jm = mu jm := (hf9 jm (by omega)).trans f_jm
        have f_12jm : rg (12 + jm) = ra jm := (hf9 (12 + jm) (by omega)).trans f_12jm
        have f_35 : rg 35 = ((mu jm).natAbs : Int) := (hf9 35 (by decide)).trans f_35
        have f_33 : rg 33 = (dk_overM P (mu im) (mu jm)) := (hf9 33 (by decide)).trans f_33
        have f_30 : rg 30 = (((mu jm).natAbs : Int) * ra im) := (hf9 30 (by decide)).trans f_30
        have f_29 := fT0_
        have hof : ∀ j, j < 24 ∨ (26 ≤ j ∧ j ≤ 28) → rg j = rg0 j := fun j hj => (hf9 j (hq11_0 hj)).trans (hof j hj)
        refine lv_aload_n hx hb dX5_over_143 rfl (lv_at hl 0 rfl) ?_
        refine lv_bipush (v := nI 30) hx hb dX5_over_144 (by decide) ?_
        refine lv_bipush (v := nI 35) hx hb dX5_over_146 (by decide) ?_
        refine lv_bipush (v := nI 12) hx hb dX5_over_148 (by decide) ?_
        refine lv_iload_n hx hb dX5_over_150 rfl (lv_at hl 3 rfl) ?_
        refine bd_iadd (v := nI (12 + jm)) hx hb dX5_over_151 (nI_add _ _) ?_
        refine bd_cv (As := [.int (nI 30), .int (nI 35), .int (nI (12 + jm))]) (rest := []) C (v5_minus _ _ _ _ _ hv 30 35 (12 + jm) (by decide) (by decide) (by omega) (by rw [f_35, f_12jm]; exact (b34 (Nat.le_trans h6 (by decide +kernel))))) (cwV 3 hts gX5_over_X5_minus rfl rfl rfl (by decide +kernel) ⟨Nat.le_of_ble_eq_true rfl, Nat.le_of_ble_eq_true rfl⟩) hsz hw (mv_recv C hw hv) dX5_over_152 rfl hl.1 rfl (Nat.le_of_ble_eq_true rfl) ⟨Nat.le_refl _, Nat.le_refl _⟩ (fun E z H locs hp hw => ?_)
        obtain ⟨rg, hv, hv0_, hf9⟩ := hp
        have fT0_ : rg 30 = (((mu jm).natAbs : Int) - ra jm) := hv0_.trans (by rw [f_35, f_12jm])
        have f_im : rg im = mu im := (hf9 im (by omega)).trans f_im
        have f_12im : rg (12 + im) = ra im := (hf9 (12 + im) (by omega)).trans f_12im
        have f_jm : rg jm = mu jm := (hf9 jm (by omega)).trans f_jm
        have f_12jm : rg (12 + jm) = ra jm := (hf9 (12 + jm) (by omega)).trans f_12jm
        have f_35 : rg 35 = ((mu jm).natAbs : Int) := (hf9 35 (by decide)).trans f_35
        have f_33 : rg 33 = (dk_overM P (mu im) (mu jm)) := (hf9 33 (by decide)).trans f_33
        have f_29 : rg 29 = ((((mu im * ra jm).natAbs : Int) + ((mu jm).natAbs : Int) * ra im) * dk_p P) := (hf9 29 (by decide)).trans f_29
        have f_30 := fT0_
        have hof : ∀ j, j < 24 ∨ (26 ≤ j ∧ j ≤ 28) → rg j = rg0 j := fun j hj => (hf9 j (hq11_1 hj)).trans (hof j hj)
        refine lv_aload_n hx hb dX5_over_155 rfl (lv_at hl 0 rfl) ?_
        refine lv_bipush (v := nI 30) hx hb dX5_over_156 (by decide) ?_
        refine lv_bipush (v := nI 30) hx hb dX5_over_158 (by decide) ?_
        refine lv_bipush (v := nI 35) hx hb dX5_over_160 (by decide) ?_
        refine bd_cv (As := [.int (nI 30), .int (nI 30), .int (nI 35)]) (rest := []) C (v5_product _ _ _ _ _ hv 30 30 35 (by decide) (by decide) (by decide) (by rw [f_30, f_35]; exact (b34 (by rw [Int.mul_comm]; exact Nat.le_trans h7 (by decide +kernel))))) (cwV 3 hts gX5_over_X5_product rfl rfl rfl (by decide +kernel) ⟨Nat.le_of_ble_eq_true rfl, Nat.le_of_ble_eq_true rfl⟩) hsz hw (mv_recv C hw hv) dX5_over_162 rfl hl.1 rfl (Nat.le_of_ble_eq_true rfl) ⟨Nat.le_refl _, Nat.le_refl _⟩ (fun E z H locs hp hw => ?_)
        obtain ⟨rg, hv, hv0_, hf9⟩ := hp
        have fT0_ : rg 30 = (((mu jm).natAbs : Int) * (((mu jm).natAbs : Int) - ra jm)) := hv0_.trans (by rw [f_30, f_35]; exact Int.mul_comm _ _)
        have f_im : rg im = mu im := (hf9 im (by omega)).trans f_im
        have f_12im : rg (12 + im) = ra im := (hf9 (12 + im) (by omega)).trans f_12im
        have f_jm : rg jm = mu jm := (hf9 jm (by omega)).trans f_jm
        have f_12jm : rg (12 + jm) = ra jm := (hf9 (12 + jm) (by omega)).trans f_12jm
        have f_35 : rg 35 = ((mu jm).natAbs : Int) := (hf9 35 (by decide)).trans f_35
        have f_33 : rg 33 = (dk_overM P (mu im) (mu jm)) := (hf9 33 (by decide)).trans f_33
        have f_29 : rg 29 = ((((mu im * ra jm).natAbs : Int) + ((mu jm).natAbs : Int) * ra im) * dk_p P) := (hf9 29 (by decide)).trans f_29
        have f_30 := fT0_
        have hof : ∀ j, j < 24 ∨ (26 ≤ j ∧ j ≤ 28) → rg j = rg0 j := fun j hj => (hf9 j (hq11_1 hj)).trans (hof j hj)
        refine lv_aload_n hx hb dX5_over_165 rfl (lv_at hl 0 rfl) ?_
        refine lv_bipush (v := nI 34) hx hb dX5_over_166 (by decide) ?_
        refine lv_bipush (v := nI 29) hx hb dX5_over_168 (by decide) ?_
        refine lv_bipush (v := nI 30) hx hb dX5_over_170 (by decide) ?_
        refine bd_cv (As := [.int (nI 34), .int (nI 29), .int (nI 30)]) (rest := []) C (v5_divideUp _ _ _ _ _ hv 34 29 30 (by decide) (by decide) (by decide) (by decide) (by decide) (by decide) (by decide) (by decide) (by decide) (by rw [f_30]; exact hDp) (by rw [f_30]; exact (Nat.le_trans (Nat.mul_le_mul_left 2 h7) (by decide +kernel)))) (cwV 3 hts gX5_over_X5_divideUp rfl rfl rfl (by decide +kernel) ⟨Nat.le_of_ble_eq_true rfl, Nat.le_of_ble_eq_true rfl⟩) hsz hw (mv_recv C hw hv) dX5_over_172 rfl hl.1 rfl (Nat.le_of_ble_eq_true rfl) ⟨Nat.le_refl _, Nat.le_refl _⟩ (fun E z H locs hp hw => ?_)
        obtain ⟨rg, hv, hv0_, hf9⟩ := hp
        have fT0_ : rg 34 = (-(-((((mu im * ra jm).natAbs : Int) + ((mu jm).natAbs : Int) * ra im) * dk_p P) / (((mu jm).natAbs : Int) * (((mu jm).natAbs : Int) - ra jm)))) := hv0_.trans (by rw [f_29, f_30])
        have f_im : rg im = mu im := (hf9 im (by omega) (by omega)).trans f_im
        have f_12im : rg (12 + im) = ra im := (hf9 (12 + im) (by omega) (by omega)).trans f_12im
        have f_jm : rg jm = mu jm := (hf9 jm (by omega) (by omega)).trans f_jm
        have f_12jm : rg (12 + jm) = ra jm := (hf9 (12 + jm) (by omega) (by omega)).trans f_12jm
        have f_35 : rg 35 = ((mu jm).natAbs : Int) := (hf9 35 (by decide) (by decide)).trans f_35
        have f_33 : rg 33 = (dk_overM P (mu im) (mu jm)) := (hf9 33 (by decide) (by decide)).trans f_33
        have f_29 : rg 29 = ((((mu im * ra jm).natAbs : Int) + ((mu jm).natAbs : Int) * ra im) * dk_p P) := (hf9 29 (by decide) (by decide)).trans f_29
        have f_30 : rg 30 = (((mu jm).natAbs : Int) * (((mu jm).natAbs : Int) - ra jm)) := (hf9 30 (by decide) (by decide)).trans f_30
        have f_34 := fT0_
        have hof : ∀ j, j < 24 ∨ (26 ≤ j ∧ j ≤ 28) → rg j = rg0 j := fun j hj => (hf9 j (hq11_5 hj) (hq11_3 hj)).trans (hof j hj)
        refine lv_aload_n hx hb dX5_over_175 rfl (lv_at hl 0 rfl) ?_
        refine lv_bipush (v := nI 34) hx hb dX5_over_176 (by decide) ?_
        refine lv_iconst (v := nI 1) hx hb dX5_over_178 (by decide) ?_
        refine bd_cv (As := [.int (nI 34), .int (nI 1)]) (rest := []) C (v5_addSmall _ _ _ _ _ hv 34 (nI 1) (by decide) (by decide) (by rw [f_34]; exact (b34 (Nat.le_trans (add_b (neg_b (Nat.le_trans (fz_b hDp) (neg_b h5))) (show (nI 1).toInt.natAbs ≤ 1 by decide)) (by decide +kernel))))) (cwV 2 hts gX5_over_X5_addSmall rfl rfl rfl (by decide +kernel) ⟨Nat.le_of_ble_eq_true rfl, Nat.le_of_ble_eq_true rfl⟩) hsz hw (mv_recv C hw hv) dX5_over_179 rfl hl.1 rfl (Nat.le_of_ble_eq_true rfl) ⟨Nat.le_refl _, Nat.le_refl _⟩ (fun E z H locs hp hw => ?_)
        obtain ⟨rg, hv, hv0_, hf9⟩ := hp
        have fT0_ : rg 34 = (dk_overR P (mu im) (ra im) (mu jm) (ra jm)) := hv0_.trans (by rw [f_34]; rfl)
        have f_im : rg im = mu im := (hf9 im (by omega) (by omega)).trans f_im
        have f_12im : rg (12 + im) = ra im := (hf9 (12 + im) (by omega) (by omega)).trans f_12im
        have f_jm : rg jm = mu jm := (hf9 jm (by omega) (by omega)).trans f_jm
        have f_12jm : rg (12 + jm) = ra jm := (hf9 (12 + jm) (by omega) (by omega)).trans f_12jm
        have f_35 : rg 35 = ((mu jm).natAbs : Int) := (hf9 35 (by decide) (by decide)).trans f_35
        have f_33 : rg 33 = (dk_overM P (mu im) (mu jm)) := (hf9 33 (by decide) (by decide)).trans f_33
        have f_29 : rg 29 = ((((mu im * ra jm).natAbs : Int) + ((mu jm).natAbs : Int) * ra im) * dk_p P) := (hf9 29 (by decide) (by decide)).trans f_29
        have f_30 : rg 30 = (((mu jm).natAbs : Int) * (((mu jm).natAbs : Int) - ra jm)) := (hf9 30 (by decide) (by decide)).trans f_30
        have f_34 := fT0_
        have hof : ∀ j, j < 24 ∨ (26 ≤ j ∧ j ≤ 28) → rg j = rg0 j := fun j hj => (hf9 j (hq11_5 hj) (hq11_3 hj)).trans (hof j hj)
        refine lv_aload_n hx hb dX5_over_182 rfl (lv_at hl 0 rfl) ?_
        refine lv_iload_n hx hb dX5_over_183 rfl (lv_at hl 1 rfl) ?_
        refine bd_ci (As := [.int (nI kn)]) (rest := []) C (v5_keep _ _ _ _ _ hv (md_ivm hiv hof) kn hkn) (cwV 1 hts gX5_over_X5_keep rfl rfl rfl (by decide +kernel) ⟨Nat.le_of_ble_eq_true rfl, Nat.le_of_ble_eq_true rfl⟩) hsz hw (mv_recv C hw hv) dX5_over_184 rfl hl.1 rfl (Nat.le_of_ble_eq_true rfl) ⟨Nat.le_refl _, Nat.le_refl _⟩ (fun r9 E9 z H locs hp hw => ?_)
        rw [f_33, f_34] at hp
        exact bd_iret C hr hlk hw dX5_over_187 (by rw [hd]; exact hp)
    · have hq23 := Nat.not_lt.mp (fun q => hc23 (q_c3_pos.mpr q))
      have hnlt : ¬ ra jm < ((mu jm).natAbs : Int) := ov_nlt hb0_jm hq23
      refine lv_iconst (v := (-1)) hx hb dX5_over_26 (by decide) ?_
      have hd9 : dk_over P (nI kn) (nI im) (nI jm) mu ra = (-1, mu, ra) := if_neg (fun q => absurd q.2 (by rw [hx_jm]; exact hnlt))
      exact bd_iret C hr hlk hw dX5_over_27 (by rw [hd9]; exact ⟨rfl, _, _, hv, md_ivm hiv hof⟩)
