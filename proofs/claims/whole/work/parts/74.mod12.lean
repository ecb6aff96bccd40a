/-! the model: root, exp, log, arc, sine, pi, widen, join (laid by wip/gen/m_mod12.py) -/
theorem q_c3_le {a b : Nat} (h : q_c3 a b ≤ 0) : a ≤ b := by
  rcases Nat.lt_or_ge b a with q | q
  · rw [q_c3_gt q] at h
    exact absurd h (by decide)
  · exact q
theorem q_c3_nle {a b : Nat} (h : ¬ q_c3 a b ≤ 0) : b < a := by
  rcases Nat.lt_or_ge b a with q | q
  · exact q
  · exfalso
    apply h
    rcases Nat.eq_or_lt_of_le q with r | r
    · rw [q_c3_eq r]; decide
    · rw [q_c3_lt r]; decide
theorem p16 (P : Nat) : ((2 ^ (P + 4) : Nat) : Int) = 16 * dk_p P := by
  rw [Nat.pow_add, Int.natCast_mul, Int.mul_comm]
  rfl
theorem ex_h1 {P : Nat} {x : Int} (h : x.natAbs ≤ (((2 ^ (P + 4) : Nat) : Int)).natAbs) : x ≤ 16 * dk_p P := by
  rw [← p16, Int.natAbs_natCast] at *
  omega
theorem ex_h2 {P : Nat} {x : Int} (h : x ≤ 0) : x ≤ 16 * dk_p P := Int.le_trans h (by rw [← p16]; exact Int.natCast_nonneg _)
theorem ex_h3 {P : Nat} {x : Int} (h : (((2 ^ (P + 4) : Nat) : Int)).natAbs < x.natAbs) (h0 : 0 < x) : ¬ x ≤ 16 * dk_p P := by
  rw [← p16]
  rw [Int.natAbs_natCast] at h
  omega
theorem ex_l1 {P : Nat} {x : Int} (h : x.natAbs ≤ (((2 ^ (P + 4) : Nat) : Int)).natAbs) : -(16 * dk_p P) ≤ x := by
  rw [← p16, Int.natAbs_natCast] at *
  omega
theorem ex_l2 {P : Nat} {x : Int} (h : 0 ≤ x) : -(16 * dk_p P) ≤ x := Int.le_trans (by rw [← p16]; have := Int.natCast_nonneg (2 ^ (P + 4)); omega) h
theorem ex_l3 {P : Nat} {x : Int} (h : (((2 ^ (P + 4) : Nat) : Int)).natAbs < x.natAbs) (h0 : x < 0) : ¬ -(16 * dk_p P) ≤ x := by
  rw [← p16]
  rw [Int.natAbs_natCast] at h
  omega
theorem jn_h {x y : Int} (h : x ≤ y) : (if x < y then y else x) = y := by
  by_cases q : x < y
  · rw [if_pos q]
  · rw [if_neg q]
    omega
/-- the lesser of two, where they may be alike -/
theorem jn_l {x y : Int} (h : ¬ x < y) : (if y < x then y else x) = y := by
  by_cases q : y < x
  · rw [if_pos q]
  · rw [if_neg q]
    omega
theorem hq12_0 { j : Nat} (hj : j < 24 ∨ (26 ≤ j ∧ j ≤ 28)) : j ≠ 24 ∧ j ≠ 25 := by omega
theorem hq12_1 { j : Nat} (hj : j < 24 ∨ (26 ≤ j ∧ j ≤ 28)) : j ≠ 24 := by omega
theorem hq12_2 { j : Nat} (hj : j < 24 ∨ (26 ≤ j ∧ j ≤ 28)) : j ≠ 25 := by omega
theorem hq12_3 { j : Nat} (hj : j < 24 ∨ (26 ≤ j ∧ j ≤ 28)) : j ≠ 35 ∧ j ≠ 29 ∧ j ≠ 30 := by omega
theorem hq12_4 { j : Nat} (hj : j < 24 ∨ (26 ≤ j ∧ j ≤ 28)) : j ≠ 36 ∧ j ≠ 29 ∧ j ≠ 30 := by omega
theorem hq12_5 { j : Nat} (hj : j < 24 ∨ (26 ≤ j ∧ j ≤ 28)) : j ≠ 36 := by omega
theorem hq12_6 { j : Nat} (hj : j < 24 ∨ (26 ≤ j ∧ j ≤ 28)) : j ≠ 32 := by omega
theorem hq12_7 { j : Nat} (hj : j < 24 ∨ (26 ≤ j ∧ j ≤ 28)) : j ≠ 29 := by omega
theorem hq12_8 { j : Nat} (hj : j < 24 ∨ (26 ≤ j ∧ j ≤ 28)) : j ≠ 24 ∧ j ≠ 32 ∧ (j < 35 ∨ 39 < j) := by omega
theorem hq12_9 { j : Nat} (hj : j < 24 ∨ (26 ≤ j ∧ j ≤ 28)) : j ≠ 25 ∧ j ≠ 32 ∧ (j < 35 ∨ 39 < j) := by omega
theorem hq12_10 { j : Nat} (hj : j < 24 ∨ (26 ≤ j ∧ j ≤ 28)) : j ≠ 24 ∧ j ≠ 32 ∧ (j < 35 ∨ 39 < j) ∧ (j < 45 ∨ 50 < j) := by omega
theorem hq12_11 { j : Nat} (hj : j < 24 ∨ (26 ≤ j ∧ j ≤ 28)) : j ≠ 25 ∧ j ≠ 32 ∧ (j < 35 ∨ 39 < j) ∧ (j < 45 ∨ 50 < j) := by omega
theorem hq12_12 { j : Nat} (hj : j < 24 ∨ (26 ≤ j ∧ j ≤ 28)) : j ≠ 24 ∧ j ≠ 29 ∧ j ≠ 30 ∧ j ≠ 32 ∧ (j < 35 ∨ 39 < j) ∧ (j < 52 ∨ 54 < j) := by omega
theorem hq12_13 { j : Nat} (hj : j < 24 ∨ (26 ≤ j ∧ j ≤ 28)) : j ≠ 25 ∧ j ≠ 29 ∧ j ≠ 30 ∧ j ≠ 32 ∧ (j < 35 ∨ 39 < j) ∧ (j < 52 ∨ 54 < j) := by omega
theorem hq12_14 { j : Nat} (hj : j < 24 ∨ (26 ≤ j ∧ j ≤ 28)) : j ≠ 33 ∧ j ≠ 32 ∧ (j < 52 ∨ 57 < j) := by omega
theorem hq12_15 { j : Nat} (hj : j < 24 ∨ (26 ≤ j ∧ j ≤ 28)) : j ≠ 33 := by omega
theorem hq12_16 { j : Nat} (hj : j < 24 ∨ (26 ≤ j ∧ j ≤ 28)) : j ≠ 34 := by omega
theorem hq12_17 { j : Nat} (hj : j < 24 ∨ (26 ≤ j ∧ j ≤ 28)) : j ≠ 35 := by omega
set_option maxHeartbeats 4000000 in
set_option maxRecDepth 100000 in
/-- root -/
theorem v5_root (l : Launch) (K : Cxt) (E0 : Nat → va_E) (z0 : Nat → Wh) (sz : Nat) {mo : Nat → Nat} {th : Int32} {P : Nat} {rg0 : Nat → Int} (hv : md_v K E0 mo th P rg0) {mu ra : Nat → Int} (hiv : md_iv P rg0 mu ra) (k i : Int32)  : Met l yX5_root wsX5_root ({ frames := 8, cells := 0, slots := 0, locals := 280 }) (va_Pc [.ref (mo 0), .int k, .int i] (bd_P K E0 z0 sz)) (va_Qi (md_post K mo P (dk_root P k i mu ra)) (bd_B K) (bd_A K sz)) 0 0 (bd_A K sz) := by
  refine bd_ofW (cc := cX5_root) (maxL := 3) (ret := (some .int)) (by decide) rfl (Nat.le_of_ble_eq_true rfl) ?_
  intro p e s m below meth c ls C hr hlk hsz hw hl
  have hx := C.1
  have hb := C.2.1
  have hown := C.2.2.2.1
  have hts := C.2.2.2.2.1
  have i5 : ∀ w ∈ wsX50, w ∈ wsX5_root := by decide +kernel
  have lk48 : Cond.fieldLink RX5 48 "BallDeskModel" "thrown" "I" ∈ wsX5_root := by decide +kernel
  have lk13 : Cond.fieldLink RX5 13 "BallDeskModel" "signs" "[I" ∈ wsX5_root := by decide +kernel
  have lk23 : Cond.fieldLink RX5 23 "BallDeskModel" "places" "I" ∈ wsX5_root := by decide +kernel
  have hl : lv_has ls 3 [(0, .ref (mo 0)), (1, .int k), (2, .int i)] := hl
  obtain ⟨hP1, hP2⟩ := mv_P hv
  have hp192 : (2 : Nat) ^ P ≤ 2 ^ 192 := Nat.pow_le_pow_right (by decide) hP2
  have hP816 : P < 816 := by omega
  have hP64 : P + 64 < 816 := by omega
  have hP128 : 2 * (P + 64) < 816 := by omega
  have hof : ∀ j, j < 24 ∨ (26 ≤ j ∧ j ≤ 28) → rg0 j = rg0 j := fun _ _ => rfl
  refine lv_aload_n hx hb dX5_root_0 rfl (lv_at hl 0 rfl) ?_
  refine lv_iconst (v := nI 0) hx hb dX5_root_1 (by decide) ?_
  refine mv_pt C i5 hw hv dX5_root_2 lk48 (fun E H locs hv hw => ?_)
  refine lv_iload_n hx hb dX5_root_5 rfl (lv_at hl 1 rfl) ?_
  refine bd_sip (As := [.int k]) (rest := []) C (c5_isPlace _ _ _ _ _ k) (va_cwS 1 hts gX5_root_X5_isPlace rfl rfl rfl (by decide +kernel) ⟨Nat.le_of_ble_eq_true rfl, Nat.le_of_ble_eq_true rfl⟩) hsz hw dX5_root_6 rfl hl.1 rfl (Nat.le_of_ble_eq_true rfl) ⟨Nat.le_refl _, Nat.le_refl _⟩ (fun H locs hw => ?_)
  refine lv_if_eq (tgt := 19) hx hb dX5_root_9 (by decide) (fun hc9 => ?_) (fun hc9 => ?_)
  · have hno := pl_f hc9
    refine lv_iconst (v := (-1)) hx hb dX5_root_19 (by decide) ?_
    have hd9 : dk_root P k i mu ra = (-1, mu, ra) := if_neg (fun q => hno q.1.1)
    exact bd_iret C hr hlk hw dX5_root_20 (by rw [hd9]; exact ⟨rfl, _, _, hv, md_ivm hiv hof⟩)
  · have hpl_kn := pl_t hc9
    obtain ⟨kn, hkn, hk_kn, hx_kn⟩ := pl_x hpl_kn
    subst hk_kn
    refine lv_iload_n hx hb dX5_root_12 rfl (lv_at hl 2 rfl) ?_
    refine bd_sip (As := [.int i]) (rest := []) C (c5_isPlace _ _ _ _ _ i) (va_cwS 1 hts gX5_root_X5_isPlace rfl rfl rfl (by decide +kernel) ⟨Nat.le_of_ble_eq_true rfl, Nat.le_of_ble_eq_true rfl⟩) hsz hw dX5_root_13 rfl hl.1 rfl (Nat.le_of_ble_eq_true rfl) ⟨Nat.le_refl _, Nat.le_refl _⟩ (fun H locs hw => ?_)
    refine lv_if_ne (tgt := 21) hx hb dX5_root_16 (by decide) (fun hc16 => ?_) (fun hc16 => ?_)
    · have hpl_im := pl_t hc16
      obtain ⟨im, him, hk_im, hx_im⟩ := pl_x hpl_im
      subst hk_im
      obtain ⟨hbm_im, hb0_im, hbr_im⟩ := md_b hP2 hiv him
      have f_im : rg0 im = mu im := (hof im (by omega)).trans (hiv.2.2.2 im him).1
      have f_12im : rg0 (12 + im) = ra im := (hof (12 + im) (by omega)).trans (hiv.2.2.2 im him).2.1
      change hid _ at hbm_im hbr_im
      obtain ⟨he1, he2⟩ := e_b hbm_im hbr_im
      change hid _ at he1 he2
      refine lv_aload_n hx hb dX5_root_21 rfl (lv_at hl 0 rfl) ?_
      refine lv_iload_n hx hb dX5_root_22 rfl (lv_at hl 2 rfl) ?_
      refine bd_cv (As := [.int (nI im)]) (rest := []) C (v5_ends _ _ _ _ _ hv im him (by rw [f_im]; exact hbm_im) (by rw [f_12im]; exact hbr_im)) (cwV 1 hts gX5_root_X5_ends rfl rfl rfl (by decide +kernel) ⟨Nat.le_of_ble_eq_true rfl, Nat.le_of_ble_eq_true rfl⟩) hsz hw (mv_recv C hw hv) dX5_root_23 rfl hl.1 rfl (Nat.le_of_ble_eq_true rfl) ⟨Nat.le_refl _, Nat.le_refl _⟩ (fun E z H locs hp hw => ?_)
      obtain ⟨rg, hv, hv0_, hv1_, hf9⟩ := hp
      have fT0_ : rg 24 = (mu im - ra im) := hv0_.trans (by rw [f_im, f_12im])
      have fT1_ : rg 25 = (mu im + ra im) := hv1_.trans (by rw [f_im, f_12im])
      have f_im : rg im = mu im := (hf9 im (by omega)).trans f_im
      have f_12im : rg (12 + im) = ra im := (hf9 (12 + im) (by omega)).trans f_12im
      have f_24 := fT0_
      have f_25 := fT1_
      have hof : ∀ j, j < 24 ∨ (26 ≤ j ∧ j ≤ 28) → rg j = rg0 j := fun j hj => (hf9 j (hq12_0 hj)).trans (hof j hj)
      refine lv_aload_n hx hb dX5_root_26 rfl (lv_at hl 0 rfl) ?_
      refine mv_g C i5 hw hv 4 (by decide) (v := .ref (mo 2)) rfl dX5_root_27 lk13 ?_
      refine lv_bipush (v := nI 24) hx hb dX5_root_30 (by decide) ?_
      refine mv_ld2 C hw hv (r := 24) dX5_root_32 (by omega) ?_
      rw [f_24]
      refine lv_if_ge (tgt := 38) hx hb dX5_root_33 (by decide) (fun hc33 => ?_) (fun hc33 => ?_)
      · have hq33 := sg_ge hc33
        have hd : dk_root P (nI kn) (nI im) mu ra = dk_ends P kn (sp_ROOT ((mu im - ra im) * dk_p P)) ((sp_ROOT ((mu im + ra im) * dk_p P)) + 1) mu ra := by unfold dk_root; rw [if_pos ⟨⟨hpl_kn, hpl_im⟩, by rw [hx_im]; exact hq33⟩, hx_kn, hx_im]
        have hz1 : 0 ≤ (mu im - ra im) * dk_p P := Int.mul_nonneg hq33 (Int.natCast_nonneg _)
        have hz2 : 0 ≤ (mu im + ra im) * dk_p P := Int.mul_nonneg (by omega) (Int.natCast_nonneg _)
        refine lv_aload_n hx hb dX5_root_38 rfl (lv_at hl 0 rfl) ?_
        refine lv_bipush (v := nI 24) hx hb dX5_root_39 (by decide) ?_
        refine lv_bipush (v := nI 24) hx hb dX5_root_41 (by decide) ?_
        refine lv_aload_n hx hb dX5_root_43 rfl (lv_at hl 0 rfl) ?_
        refine mv_g C i5 hw hv 1 (by decide) (v := .int (nI P)) rfl dX5_root_44 lk23 ?_
        refine bd_cv (As := [.int (nI 24), .int (nI 24), .int (nI P)]) (rest := []) C (v5_up _ _ _ _ _ hv 24 24 P (by decide) (by decide) hP816 (by rw [f_24]; exact (b34 (Nat.le_trans (Nat.mul_le_mul he1 hp192) (by decide +kernel))))) (cwV 3 hts gX5_root_X5_up rfl rfl rfl (by decide +kernel) ⟨Nat.le_of_ble_eq_true rfl, Nat.le_of_ble_eq_true rfl⟩) hsz hw (mv_recv C hw hv) dX5_root_47 rfl hl.1 rfl (Nat.le_of_ble_eq_true rfl) ⟨Nat.le_refl _, Nat.le_refl _⟩ (fun E z H locs hp hw => ?_)
        obtain ⟨rg, hv, hv0_, hf9⟩ := hp
        have fT0_ : rg 24 = ((mu im - ra im) * dk_p P) := hv0_.trans (by rw [f_24])
        have f_im : rg im = mu im := (hf9 im (by omega)).trans f_im
        have f_12im : rg (12 + im) = ra im := (hf9 (12 + im) (by omega)).trans f_12im
        have f_25 : rg 25 = (mu im + ra im) := (hf9 25 (by decide)).trans f_25
        have f_24 := fT0_
        have hof : ∀ j, j < 24 ∨ (26 ≤ j ∧ j ≤ 28) → rg j = rg0 j := fun j hj => (hf9 j (hq12_1 hj)).trans (hof j hj)
        refine lv_aload_n hx hb dX5_root_50 rfl (lv_at hl 0 rfl) ?_
        refine lv_bipush (v := nI 25) hx hb dX5_root_51 (by decide) ?_
        refine lv_bipush (v := nI 25) hx hb dX5_root_53 (by decide) ?_
        refine lv_aload_n hx hb dX5_root_55 rfl (lv_at hl 0 rfl) ?_
        refine mv_g C i5 hw hv 1 (by decide) (v := .int (nI P)) rfl dX5_root_56 lk23 ?_
        refine bd_cv (As := [.int (nI 25), .int (nI 25), .int (nI P)]) (rest := []) C (v5_up _ _ _ _ _ hv 25 25 P (by decide) (by decide) hP816 (by rw [f_25]; exact (b34 (Nat.le_trans (Nat.mul_le_mul he2 hp192) (by decide +kernel))))) (cwV 3 hts gX5_root_X5_up rfl rfl rfl (by decide +kernel) ⟨Nat.le_of_ble_eq_true rfl, Nat.le_of_ble_eq_true rfl⟩) hsz hw (mv_recv C hw hv) dX5_root_59 rfl hl.1 rfl (Nat.le_of_ble_eq_true rfl) ⟨Nat.le_refl _, Nat.le_refl _⟩ (fun E z H locs hp hw => ?_)
        obtain ⟨rg, hv, hv0_, hf9⟩ := hp
        have fT0_ : rg 25 = ((mu im + ra im) * dk_p P) := hv0_.trans (by rw [f_25])
        have f_im : rg im = mu im := (hf9 im (by omega)).trans f_im
        have f_12im : rg (12 + im) = ra im := (hf9 (12 + im) (by omega)).trans f_12im
        have f_24 : rg 24 = ((mu im - ra im) * dk_p P) := (hf9 24 (by decide)).trans f_24
        have f_25 := fT0_
        have hof : ∀ j, j < 24 ∨ (26 ≤ j ∧ j ≤ 28) → rg j = rg0 j := fun j hj => (hf9 j (hq12_2 hj)).trans (hof j hj)
        refine lv_aload_n hx hb dX5_root_62 rfl (lv_at hl 0 rfl) ?_
        refine lv_bipush (v := nI 35) hx hb dX5_root_63 (by decide) ?_
        refine lv_bipush (v := nI 24) hx hb dX5_root_65 (by decide) ?_
        refine bd_cv (As := [.int (nI 35), .int (nI 24)]) (rest := []) C (v5_squareRoot _ _ _ _ _ hv 35 24 (by decide) (by decide) (by decide) (by rw [f_24]; exact hz1) (by rw [f_24]; exact (Nat.le_trans (mul_b he1 (pP_b hP2)) (by decide +kernel)))) (cwV 2 hts gX5_root_X5_squareRoot rfl rfl rfl (by decide +kernel) ⟨Nat.le_of_ble_eq_true rfl, Nat.le_of_ble_eq_true rfl⟩) hsz hw (mv_recv C hw hv) dX5_root_67 rfl hl.1 rfl (Nat.le_of_ble_eq_true rfl) ⟨Nat.le_refl _, Nat.le_refl _⟩ (fun E z H locs hp hw => ?_)
        obtain ⟨rg, hv, hv0_, hf9⟩ := hp
        have fT0_ : rg 35 = (sp_ROOT ((mu im - ra im) * dk_p P)) := hv0_.trans (by rw [f_24])
        have f_im : rg im = mu im := (hf9 im (by omega)).trans f_im
        have f_12im : rg (12 + im) = ra im := (hf9 (12 + im) (by omega)).trans f_12im
        have f_24 : rg 24 = ((mu im - ra im) * dk_p P) := (hf9 24 (by decide)).trans f_24
        have f_25 : rg 25 = ((mu im + ra im) * dk_p P) := (hf9 25 (by decide)).trans f_25
        have f_35 := fT0_
        have hof : ∀ j, j < 24 ∨ (26 ≤ j ∧ j ≤ 28) → rg j = rg0 j := fun j hj => (hf9 j (hq12_3 hj)).trans (hof j hj)
        refine lv_aload_n hx hb dX5_root_70 rfl (lv_at hl 0 rfl) ?_
        refine lv_bipush (v := nI 36) hx hb dX5_root_71 (by decide) ?_
        refine lv_bipush (v := nI 25) hx hb dX5_root_73 (by decide) ?_
        refine bd_cv (As := [.int (nI 36), .int (nI 25)]) (rest := []) C (v5_squareRoot _ _ _ _ _ hv 36 25 (by decide) (by decide) (by decide) (by rw [f_25]; exact hz2) (by rw [f_25]; exact (Nat.le_trans (mul_b he2 (pP_b hP2)) (by decide +kernel)))) (cwV 2 hts gX5_root_X5_squareRoot rfl rfl rfl (by decide +kernel) ⟨Nat.le_of_ble_eq_true rfl, Nat.le_of_ble_eq_true rfl⟩) hsz hw (mv_recv C hw hv) dX5_root_75 rfl hl.1 rfl (Nat.le_of_ble_eq_true rfl) ⟨Nat.le_refl _, Nat.le_refl _⟩ (fun E z H locs hp hw => ?_)
        obtain ⟨rg, hv, hv0_, hf9⟩ := hp
        have fT0_ : rg 36 = (sp_ROOT ((mu im + ra im) * dk_p P)) := hv0_.trans (by rw [f_25])
        have f_im : rg im = mu im := (hf9 im (by omega)).trans f_im
        have f_12im : rg (12 + im) = ra im := (hf9 (12 + im) (by omega)).trans f_12im
        have f_24 : rg 24 = ((mu im - ra im) * dk_p P) := (hf9 24 (by decide)).trans f_24
        have f_25 : rg 25 = ((mu im + ra im) * dk_p P) := (hf9 25 (by decide)).trans f_25
        have f_35 : rg 35 = (sp_ROOT ((mu im - ra im) * dk_p P)) := (hf9 35 (by decide)).trans f_35
        have f_36 := fT0_
        have hof : ∀ j, j < 24 ∨ (26 ≤ j ∧ j ≤ 28) → rg j = rg0 j := fun j hj => (hf9 j (hq12_4 hj)).trans (hof j hj)
        refine lv_aload_n hx hb dX5_root_78 rfl (lv_at hl 0 rfl) ?_
        refine lv_bipush (v := nI 36) hx hb dX5_root_79 (by decide) ?_
        refine lv_iconst (v := nI 1) hx hb dX5_root_81 (by decide) ?_
        refine bd_cv (As := [.int (nI 36), .int (nI 1)]) (rest := []) C (v5_addSmall _ _ _ _ _ hv 36 (nI 1) (by decide) (by decide) (by rw [f_36]; exact (b34 (Nat.le_trans (add_b (Nat.le_trans (sp_ROOTb _) (mul_b he2 (pP_b hP2))) (show (nI 1).toInt.natAbs ≤ 1 by decide)) (by decide +kernel))))) (cwV 2 hts gX5_root_X5_addSmall rfl rfl rfl (by decide +kernel) ⟨Nat.le_of_ble_eq_true rfl, Nat.le_of_ble_eq_true rfl⟩) hsz hw (mv_recv C hw hv) dX5_root_82 rfl hl.1 rfl (Nat.le_of_ble_eq_true rfl) ⟨Nat.le_refl _, Nat.le_refl _⟩ (fun E z H locs hp hw => ?_)
        obtain ⟨rg, hv, hv0_, hf9⟩ := hp
        have fT0_ : rg 36 = ((sp_ROOT ((mu im + ra im) * dk_p P)) + 1) := hv0_.trans (by rw [f_36]; rfl)
        have f_im : rg im = mu im := (hf9 im (by omega) (by omega)).trans f_im
        have f_12im : rg (12 + im) = ra im := (hf9 (12 + im) (by omega) (by omega)).trans f_12im
        have f_24 : rg 24 = ((mu im - ra im) * dk_p P) := (hf9 24 (by decide) (by decide)).trans f_24
        have f_25 : rg 25 = ((mu im + ra im) * dk_p P) := (hf9 25 (by decide) (by decide)).trans f_25
        have f_35 : rg 35 = (sp_ROOT ((mu im - ra im) * dk_p P)) := (hf9 35 (by decide) (by decide)).trans f_35
        have f_36 := fT0_
        have hof : ∀ j, j < 24 ∨ (26 ≤ j ∧ j ≤ 28) → rg j = rg0 j := fun j hj => (hf9 j (hq12_5 hj) (hq12_6 hj)).trans (hof j hj)
        refine lv_aload_n hx hb dX5_root_85 rfl (lv_at hl 0 rfl) ?_
        refine lv_iload_n hx hb dX5_root_86 rfl (lv_at hl 1 rfl) ?_
        refine lv_bipush (v := nI 35) hx hb dX5_root_87 (by decide) ?_
        refine lv_bipush (v := nI 36) hx hb dX5_root_89 (by decide) ?_
        refine bd_ci (As := [.int (nI kn), .int (nI 35), .int (nI 36)]) (rest := []) C (v5_keepEnds _ _ _ _ _ hv (md_ivm hiv hof) kn 35 36 hkn (by decide) (by decide) (by rw [f_35]; exact (Nat.le_trans (sp_ROOTb _) (Nat.le_trans (mul_b he1 (pP_b hP2)) (by decide +kernel)))) (by rw [f_36]; exact (Nat.le_trans (add_b (Nat.le_trans (sp_ROOTb _) (mul_b he2 (pP_b hP2))) (Nat.le_refl (1 : Int).natAbs)) (by decide +kernel)))) (cwV 3 hts gX5_root_X5_keepEnds rfl rfl rfl (by decide +kernel) ⟨Nat.le_of_ble_eq_true rfl, Nat.le_of_ble_eq_true rfl⟩) hsz hw (mv_recv C hw hv) dX5_root_91 rfl hl.1 rfl (Nat.le_of_ble_eq_true rfl) ⟨Nat.le_refl _, Nat.le_refl _⟩ (fun r9 E9 z H locs hp hw => ?_)
        rw [f_35, f_36] at hp
        exact bd_iret C hr hlk hw dX5_root_94 (by rw [hd]; exact hp)
      · have hq33 := sg_nge hc33
        refine lv_iconst (v := (-1)) hx hb dX5_root_36 (by decide) ?_
        have hd9 : dk_root P (nI kn) (nI im) mu ra = (-1, mu, ra) := if_neg (fun q => absurd q.2 (by rw [hx_im]; exact Int.not_le.mpr hq33))
        exact bd_iret C hr hlk hw dX5_root_37 (by rw [hd9]; exact ⟨rfl, _, _, hv, md_ivm hiv hof⟩)
    · have hno := pl_f hc16
      refine lv_iconst (v := (-1)) hx hb dX5_root_19 (by decide) ?_
      have hd9 : dk_root P (nI kn) i mu ra = (-1, mu, ra) := if_neg (fun q => hno q.1.2)
      exact bd_iret C hr hlk hw dX5_root_20 (by rw [hd9]; exact ⟨rfl, _, _, hv, md_ivm hiv hof⟩)
set_option maxHeartbeats 4000000 in
set_option maxRecDepth 100000 in
/-- exp -/
theorem v5_exp (l : Launch) (K : Cxt) (E0 : Nat → va_E) (z0 : Nat → Wh) (sz : Nat) {mo : Nat → Nat} {th : Int32} {P : Nat} {rg0 : Nat → Int} (hv : md_v K E0 mo th P rg0) {mu ra : Nat → Int} (hiv : md_iv P rg0 mu ra) (k i : Int32)  : Met l yX5_exp wsX5_exp ({ frames := 8, cells := 0, slots := 0, locals := 280 }) (va_Pc [.ref (mo 0), .int k, .int i] (bd_P K E0 z0 sz)) (va_Qi (md_post K mo P (dk_exp P k i mu ra)) (bd_B K) (bd_A K sz)) 0 0 (bd_A K sz) := by
  refine bd_ofW (cc := cX5_exp) (maxL := 3) (ret := (some .int)) (by decide) rfl (Nat.le_of_ble_eq_true rfl) ?_
  intro p e s m below meth c ls C hr hlk hsz hw hl
  have hx := C.1
  have hb := C.2.1
  have hown := C.2.2.2.1
  have hts := C.2.2.2.2.1
  have i5 : ∀ w ∈ wsX50, w ∈ wsX5_exp := by decide +kernel
  have lk48 : Cond.fieldLink RX5 48 "BallDeskModel" "thrown" "I" ∈ wsX5_exp := by decide +kernel
  have lk23 : Cond.fieldLink RX5 23 "BallDeskModel" "places" "I" ∈ wsX5_exp := by decide +kernel
  have lk13 : Cond.fieldLink RX5 13 "BallDeskModel" "signs" "[I" ∈ wsX5_exp := by decide +kernel
  have hl : lv_has ls 3 [(0, .ref (mo 0)), (1, .int k), (2, .int i)] := hl
  obtain ⟨hP1, hP2⟩ := mv_P hv
  have hp192 : (2 : Nat) ^ P ≤ 2 ^ 192 := Nat.pow_le_pow_right (by decide) hP2
  have hP816 : P < 816 := by omega
  have hP64 : P + 64 < 816 := by omega
  have hP128 : 2 * (P + 64) < 816 := by omega
  have hof : ∀ j, j < 24 ∨ (26 ≤ j ∧ j ≤ 28) → rg0 j = rg0 j := fun _ _ => rfl
  refine lv_aload_n hx hb dX5_exp_0 rfl (lv_at hl 0 rfl) ?_
  refine lv_iconst (v := nI 0) hx hb dX5_exp_1 (by decide) ?_
  refine mv_pt C i5 hw hv dX5_exp_2 lk48 (fun E H locs hv hw => ?_)
  refine lv_iload_n hx hb dX5_exp_5 rfl (lv_at hl 1 rfl) ?_
  refine bd_sip (As := [.int k]) (rest := []) C (c5_isPlace _ _ _ _ _ k) (va_cwS 1 hts gX5_exp_X5_isPlace rfl rfl rfl (by decide +kernel) ⟨Nat.le_of_ble_eq_true rfl, Nat.le_of_ble_eq_true rfl⟩) hsz hw dX5_exp_6 rfl hl.1 rfl (Nat.le_of_ble_eq_true rfl) ⟨Nat.le_refl _, Nat.le_refl _⟩ (fun H locs hw => ?_)
  refine lv_if_eq (tgt := 19) hx hb dX5_exp_9 (by decide) (fun hc9 => ?_) (fun hc9 => ?_)
  · have hno := pl_f hc9
    refine lv_iconst (v := (-1)) hx hb dX5_exp_19 (by decide) ?_
    have hd9 : dk_exp P k i mu ra = (-1, mu, ra) := if_neg (fun q => hno q.1.1)
    exact bd_iret C hr hlk hw dX5_exp_20 (by rw [hd9]; exact ⟨rfl, _, _, hv, md_ivm hiv hof⟩)
  · have hpl_kn := pl_t hc9
    obtain ⟨kn, hkn, hk_kn, hx_kn⟩ := pl_x hpl_kn
    subst hk_kn
    refine lv_iload_n hx hb dX5_exp_12 rfl (lv_at hl 2 rfl) ?_
    refine bd_sip (As := [.int i]) (rest := []) C (c5_isPlace _ _ _ _ _ i) (va_cwS 1 hts gX5_exp_X5_isPlace rfl rfl rfl (by decide +kernel) ⟨Nat.le_of_ble_eq_true rfl, Nat.le_of_ble_eq_true rfl⟩) hsz hw dX5_exp_13 rfl hl.1 rfl (Nat.le_of_ble_eq_true rfl) ⟨Nat.le_refl _, Nat.le_refl _⟩ (fun H locs hw => ?_)
    refine lv_if_ne (tgt := 21) hx hb dX5_exp_16 (by decide) (fun hc16 => ?_) (fun hc16 => ?_)
    · have hpl_im := pl_t hc16
      obtain ⟨im, him, hk_im, hx_im⟩ := pl_x hpl_im
      subst hk_im
      obtain ⟨hbm_im, hb0_im, hbr_im⟩ := md_b hP2 hiv him
      have f_im : rg0 im = mu im := (hof im (by omega)).trans (hiv.2.2.2 im him).1
      have f_12im : rg0 (12 + im) = ra im := (hof (12 + im) (by omega)).trans (hiv.2.2.2 im him).2.1
      change hid _ at hbm_im hbr_im
      obtain ⟨he1, he2⟩ := e_b hbm_im hbr_im
      change hid _ at he1 he2
      refine lv_aload_n hx hb dX5_exp_21 rfl (lv_at hl 0 rfl) ?_
      refine lv_iload_n hx hb dX5_exp_22 rfl (lv_at hl 2 rfl) ?_
      refine bd_cv (As := [.int (nI im)]) (rest := []) C (v5_ends _ _ _ _ _ hv im him (by rw [f_im]; exact hbm_im) (by rw [f_12im]; exact hbr_im)) (cwV 1 hts gX5_exp_X5_ends rfl rfl rfl (by decide +kernel) ⟨Nat.le_of_ble_eq_true rfl, Nat.le_of_ble_eq_true rfl⟩) hsz hw (mv_recv C hw hv) dX5_exp_23 rfl hl.1 rfl (Nat.le_of_ble_eq_true rfl) ⟨Nat.le_refl _, Nat.le_refl _⟩ (fun E z H locs hp hw => ?_)
      obtain ⟨rg, hv, hv0_, hv1_, hf9⟩ := hp
      have fT0_ : rg 24 = (mu im - ra im) := hv0_.trans (by rw [f_im, f_12im])
      have fT1_ : rg 25 = (mu im + ra im) := hv1_.trans (by rw [f_im, f_12im])
      have f_im : rg im = mu im := (hf9 im (by omega)).trans f_im
      have f_12im : rg (12 + im) = ra im := (hf9 (12 + im) (by omega)).trans f_12im
      have f_24 := fT0_
      have f_25 := fT1_
      have hof : ∀ j, j < 24 ∨ (26 ≤ j ∧ j ≤ 28) → rg j = rg0 j := fun j hj => (hf9 j (hq12_0 hj)).trans (hof j hj)
      refine lv_aload_n hx hb dX5_exp_26 rfl (lv_at hl 0 rfl) ?_
      refine lv_bipush (v := nI 29) hx hb dX5_exp_27 (by decide) ?_
      refine lv_aload_n hx hb dX5_exp_29 rfl (lv_at hl 0 rfl) ?_
      refine mv_g C i5 hw hv 1 (by decide) (v := .int (nI P)) rfl dX5_exp_30 lk23 ?_
      refine lv_iconst (v := nI 4) hx hb dX5_exp_33 (by decide) ?_
      refine bd_iadd (v := (nI (P + 4))) hx hb dX5_exp_34 (nI_add _ _) ?_
      refine bd_cv (As := [.int (nI 29), .int (nI (P + 4))]) (rest := []) C (v5_power _ _ _ _ _ hv 29 (P + 4) (by decide) (by omega)) (cwV 2 hts gX5_exp_X5_power rfl rfl rfl (by decide +kernel) ⟨Nat.le_of_ble_eq_true rfl, Nat.le_of_ble_eq_true rfl⟩) hsz hw (mv_recv C hw hv) dX5_exp_35 rfl hl.1 rfl (Nat.le_of_ble_eq_true rfl) ⟨Nat.le_refl _, Nat.le_refl _⟩ (fun E z H locs hp hw => ?_)
      obtain ⟨rg, hv, hv0_, hf9⟩ := hp
      have fT0_ : rg 29 = ((2 ^ (P + 4) : Nat) : Int) := hv0_.trans (by rfl)
      have f_im : rg im = mu im := (hf9 im (by omega)).trans f_im
      have f_12im : rg (12 + im) = ra im := (hf9 (12 + im) (by omega)).trans f_12im
      have f_24 : rg 24 = (mu im - ra im) := (hf9 24 (by decide)).trans f_24
      have f_25 : rg 25 = (mu im + ra im) := (hf9 25 (by decide)).trans f_25
      have f_29 := fT0_
      have hof : ∀ j, j < 24 ∨ (26 ≤ j ∧ j ≤ 28) → rg j = rg0 j := fun j hj => (hf9 j (hq12_7 hj)).trans (hof j hj)
      suffices hj82 : ∀ (E : Nat → va_E) (z : Nat → Wh) (rg : Nat → Int) (ls : Array Slot) (H : Heap) (locs : List Loc), -(16 * dk_p P) ≤ (mu im - ra im) → (mu im + ra im) ≤ 16 * dk_p P → md_v K E mo (nI 0) P rg → rg 24 = (mu im - ra im) → rg 25 = (mu im + ra im) → (∀ j, j < 24 ∨ (26 ≤ j ∧ j ≤ 28) → rg j = rg0 j) → lv_has ls 3 [(0, .ref (mo 0)), (1, .int (nI kn))] → bd_W K E z (bd_A K sz) s.heap H locs → W p l e (headSpec wsX5_exp ({ frames := 8, cells := 0, slots := 0, locals := 280 })).room s m [.ref (mo 0), .int (nI kn), .int (nI im)].toArray below meth c H locs 0 0 (MQ below (va_Qi (md_post K mo P (dk_exp P (nI kn) (nI im) mu ra)) (bd_B K) (bd_A K sz)) [.ref (mo 0), .int (nI kn), .int (nI im)].toArray s 0 0 (bd_A K sz)) (F0 m 82 ls []) by
        refine lv_aload_n hx hb dX5_exp_38 rfl (lv_at hl 0 rfl) ?_
        refine lv_bipush (v := nI 25) hx hb dX5_exp_39 (by decide) ?_
        refine lv_bipush (v := nI 29) hx hb dX5_exp_41 (by decide) ?_
        refine bd_cip (As := [.int (nI 25), .int (nI 29)]) (rest := []) C (v5_sizes _ _ _ _ _ hv 25 29 (by omega) (by omega)) (cwV 2 hts gX5_exp_X5_sizes rfl rfl rfl (by decide +kernel) ⟨Nat.le_of_ble_eq_true rfl, Nat.le_of_ble_eq_true rfl⟩) hsz hw (mv_recv C hw hv) dX5_exp_43 rfl hl.1 rfl (Nat.le_of_ble_eq_true rfl) ⟨Nat.le_refl _, Nat.le_refl _⟩ (fun H locs hw => ?_)
        rw [f_25, f_29]
        refine lv_if_le (tgt := 59) hx hb dX5_exp_46 (by decide) (fun hc46 => ?_) (fun hc46 => ?_)
        · have hq46 := q_c3_le hc46
          refine lv_aload_n hx hb dX5_exp_59 rfl (lv_at hl 0 rfl) ?_
          refine lv_bipush (v := nI 24) hx hb dX5_exp_60 (by decide) ?_
          refine lv_bipush (v := nI 29) hx hb dX5_exp_62 (by decide) ?_
          refine bd_cip (As := [.int (nI 24), .int (nI 29)]) (rest := []) C (v5_sizes _ _ _ _ _ hv 24 29 (by omega) (by omega)) (cwV 2 hts gX5_exp_X5_sizes rfl rfl rfl (by decide +kernel) ⟨Nat.le_of_ble_eq_true rfl, Nat.le_of_ble_eq_true rfl⟩) hsz hw (mv_recv C hw hv) dX5_exp_64 rfl hl.1 rfl (Nat.le_of_ble_eq_true rfl) ⟨Nat.le_refl _, Nat.le_refl _⟩ (fun H locs hw => ?_)
          rw [f_24, f_29]
          refine lv_if_le (tgt := 82) hx hb dX5_exp_67 (by decide) (fun hc67 => ?_) (fun hc67 => ?_)
          · have hq67 := q_c3_le hc67
            exact hj82 E z rg ls _ _ (ex_l1 hq67) (ex_h1 hq46) hv f_24 f_25 hof (lv_sub hl [0, 1] rfl) hw
          · have hq67 := q_c3_nle hc67
            refine lv_aload_n hx hb dX5_exp_70 rfl (lv_at hl 0 rfl) ?_
            refine mv_g C i5 hw hv 4 (by decide) (v := .ref (mo 2)) rfl dX5_exp_71 lk13 ?_
            refine lv_bipush (v := nI 24) hx hb dX5_exp_74 (by decide) ?_
            refine mv_ld2 C hw hv (r := 24) dX5_exp_76 (by omega) ?_
            rw [f_24]
            refine lv_if_ge (tgt := 82) hx hb dX5_exp_77 (by decide) (fun hc77 => ?_) (fun hc77 => ?_)
            · have hq77 := sg_ge hc77
              exact hj82 E z rg ls _ _ (ex_l2 hq77) (ex_h1 hq46) hv f_24 f_25 hof (lv_sub hl [0, 1] rfl) hw
            · have hq77 := sg_nge hc77
              refine lv_iconst (v := (-1)) hx hb dX5_exp_80 (by decide) ?_
              have hd9 : dk_exp P (nI kn) (nI im) mu ra = (-1, mu, ra) := if_neg (fun q => absurd q.2.1 (by rw [hx_im]; exact ex_l3 hq67 hq77))
              exact bd_iret C hr hlk hw dX5_exp_81 (by rw [hd9]; exact ⟨rfl, _, _, hv, md_ivm hiv hof⟩)
        · have hq46 := q_c3_nle hc46
          refine lv_aload_n hx hb dX5_exp_49 rfl (lv_at hl 0 rfl) ?_
          refine mv_g C i5 hw hv 4 (by decide) (v := .ref (mo 2)) rfl dX5_exp_50 lk13 ?_
          refine lv_bipush (v := nI 25) hx hb dX5_exp_53 (by decide) ?_
          refine mv_ld2 C hw hv (r := 25) dX5_exp_55 (by omega) ?_
          rw [f_25]
          refine lv_if_gt (tgt := 80) hx hb dX5_exp_56 (by decide) (fun hc56 => ?_) (fun hc56 => ?_)
          · have hq56 := sg_gt hc56
            refine lv_iconst (v := (-1)) hx hb dX5_exp_80 (by decide) ?_
            have hd9 : dk_exp P (nI kn) (nI im) mu ra = (-1, mu, ra) := if_neg (fun q => absurd q.2.2 (by rw [hx_im]; exact ex_h3 hq46 hq56))
            exact bd_iret C hr hlk hw dX5_exp_81 (by rw [hd9]; exact ⟨rfl, _, _, hv, md_ivm hiv hof⟩)
          · have hq56 := sg_ngt hc56
            refine lv_aload_n hx hb dX5_exp_59 rfl (lv_at hl 0 rfl) ?_
            refine lv_bipush (v := nI 24) hx hb dX5_exp_60 (by decide) ?_
            refine lv_bipush (v := nI 29) hx hb dX5_exp_62 (by decide) ?_
            refine bd_cip (As := [.int (nI 24), .int (nI 29)]) (rest := []) C (v5_sizes _ _ _ _ _ hv 24 29 (by omega) (by omega)) (cwV 2 hts gX5_exp_X5_sizes rfl rfl rfl (by decide +kernel) ⟨Nat.le_of_ble_eq_true rfl, Nat.le_of_ble_eq_true rfl⟩) hsz hw (mv_recv C hw hv) dX5_exp_64 rfl hl.1 rfl (Nat.le_of_ble_eq_true rfl) ⟨Nat.le_refl _, Nat.le_refl _⟩ (fun H locs hw => ?_)
            rw [f_24, f_29]
            refine lv_if_le (tgt := 82) hx hb dX5_exp_67 (by decide) (fun hc67 => ?_) (fun hc67 => ?_)
            · have hq67 := q_c3_le hc67
              exact hj82 E z rg ls _ _ (ex_l1 hq67) (ex_h2 hq56) hv f_24 f_25 hof (lv_sub hl [0, 1] rfl) hw
            · have hq67 := q_c3_nle hc67
              refine lv_aload_n hx hb dX5_exp_70 rfl (lv_at hl 0 rfl) ?_
              refine mv_g C i5 hw hv 4 (by decide) (v := .ref (mo 2)) rfl dX5_exp_71 lk13 ?_
              refine lv_bipush (v := nI 24) hx hb dX5_exp_74 (by decide) ?_
              refine mv_ld2 C hw hv (r := 24) dX5_exp_76 (by omega) ?_
              rw [f_24]
              refine lv_if_ge (tgt := 82) hx hb dX5_exp_77 (by decide) (fun hc77 => ?_) (fun hc77 => ?_)
              · have hq77 := sg_ge hc77
                exact hj82 E z rg ls _ _ (ex_l2 hq77) (ex_h2 hq56) hv f_24 f_25 hof (lv_sub hl [0, 1] rfl) hw
              · have hq77 := sg_nge hc77
                refine lv_iconst (v := (-1)) hx hb dX5_exp_80 (by decide) ?_
                have hd9 : dk_exp P (nI kn) (nI im) mu ra = (-1, mu, ra) := if_neg (fun q => absurd q.2.1 (by rw [hx_im]; exact ex_l3 hq67 hq77))
                exact bd_iret C hr hlk hw dX5_exp_81 (by rw [hd9]; exact ⟨rfl, _, _, hv, md_ivm hiv hof⟩)
      clear hw hl hv f_24 f_25 f_29 hof
      intro E z rg ls H locs hq1 hq2 hv f_24 f_25 hof hl hw
      have hx1 : ((mu im - ra im) * dk_p 64).natAbs ≤ 2 ^ (P + 64 + 4) := ex_b (by omega) (by omega)
      have hx2 : ((mu im + ra im) * dk_p 64).natAbs ≤ 2 ^ (P + 64 + 4) := ex_b (by omega) (by omega)
      have hg1 := sp_EXPb (Q := P + 64) (by omega) (by omega) hx1
      have hg2 := sp_EXPb (Q := P + 64) (by omega) (by omega) hx2
      change hid _ at hx1 hx2 hg1 hg2
      have f_27 : rg 27 = dk_p (P + 64) := (hof 27 (by omega)).trans hiv.2.1
      refine lv_aload_n hx hb dX5_exp_82 rfl (lv_at hl 0 rfl) ?_
      refine lv_bipush (v := nI 24) hx hb dX5_exp_83 (by decide) ?_
      refine lv_bipush (v := nI 24) hx hb dX5_exp_85 (by decide) ?_
      refine lv_bipush (v := nI 64) hx hb dX5_exp_87 (by decide) ?_
      refine bd_cv (As := [.int (nI 24), .int (nI 24), .int (nI 64)]) (rest := []) C (v5_up _ _ _ _ _ hv 24 24 64 (by decide) (by decide) (by decide) (by rw [f_24]; exact (b34 (Nat.le_trans (Nat.mul_le_mul_right _ he1) (by decide +kernel))))) (cwV 3 hts gX5_exp_X5_up rfl rfl rfl (by decide +kernel) ⟨Nat.le_of_ble_eq_true rfl, Nat.le_of_ble_eq_true rfl⟩) hsz hw (mv_recv C hw hv) dX5_exp_89 rfl hl.1 rfl (Nat.le_of_ble_eq_true rfl) ⟨Nat.le_refl _, Nat.le_refl _⟩ (fun E z H locs hp hw => ?_)
      obtain ⟨rg, hv, hv0_, hf9⟩ := hp
      have fT0_ : rg 24 = ((mu im - ra im) * dk_p 64) := hv0_.trans (by rw [f_24])
      have f_25 : rg 25 = (mu im + ra im) := (hf9 25 (by decide)).trans f_25
      have f_27 : rg 27 = dk_p (P + 64) := (hf9 27 (by decide)).trans f_27
      have f_24 := fT0_
      have hof : ∀ j, j < 24 ∨ (26 ≤ j ∧ j ≤ 28) → rg j = rg0 j := fun j hj => (hf9 j (hq12_1 hj)).trans (hof j hj)
      refine lv_aload_n hx hb dX5_exp_92 rfl (lv_at hl 0 rfl) ?_
      refine lv_bipush (v := nI 25) hx hb dX5_exp_93 (by decide) ?_
      refine lv_bipush (v := nI 25) hx hb dX5_exp_95 (by decide) ?_
      refine lv_bipush (v := nI 64) hx hb dX5_exp_97 (by decide) ?_
      refine bd_cv (As := [.int (nI 25), .int (nI 25), .int (nI 64)]) (rest := []) C (v5_up _ _ _ _ _ hv 25 25 64 (by decide) (by decide) (by decide) (by rw [f_25]; exact (b34 (Nat.le_trans (Nat.mul_le_mul_right _ he2) (by decide +kernel))))) (cwV 3 hts gX5_exp_X5_up rfl rfl rfl (by decide +kernel) ⟨Nat.le_of_ble_eq_true rfl, Nat.le_of_ble_eq_true rfl⟩) hsz hw (mv_recv C hw hv) dX5_exp_99 rfl hl.1 rfl (Nat.le_of_ble_eq_true rfl) ⟨Nat.le_refl _, Nat.le_refl _⟩ (fun E z H locs hp hw => ?_)
      obtain ⟨rg, hv, hv0_, hf9⟩ := hp
      have fT0_ : rg 25 = ((mu im + ra im) * dk_p 64) := hv0_.trans (by rw [f_25])
      have f_27 : rg 27 = dk_p (P + 64) := (hf9 27 (by decide)).trans f_27
      have f_24 : rg 24 = ((mu im - ra im) * dk_p 64) := (hf9 24 (by decide)).trans f_24
      have f_25 := fT0_
      have hof : ∀ j, j < 24 ∨ (26 ≤ j ∧ j ≤ 28) → rg j = rg0 j := fun j hj => (hf9 j (hq12_2 hj)).trans (hof j hj)
      refine lv_aload_n hx hb dX5_exp_102 rfl (lv_at hl 0 rfl) ?_
      refine lv_bipush (v := nI 24) hx hb dX5_exp_103 (by decide) ?_
      refine lv_bipush (v := nI 24) hx hb dX5_exp_105 (by decide) ?_
      refine bd_cv (As := [.int (nI 24), .int (nI 24)]) (rest := []) C (v5_fineExp _ _ _ _ _ hv 24 24 (by decide) (by decide) f_27 (by rw [f_24]; exact hx1)) (cwV 2 hts gX5_exp_X5_fineExp rfl rfl rfl (by decide +kernel) ⟨Nat.le_of_ble_eq_true rfl, Nat.le_of_ble_eq_true rfl⟩) hsz hw (mv_recv C hw hv) dX5_exp_107 rfl hl.1 rfl (Nat.le_of_ble_eq_true rfl) ⟨Nat.le_refl _, Nat.le_refl _⟩ (fun E z H locs hp hw => ?_)
      obtain ⟨rg, hv, hv0_, hf9⟩ := hp
      have fT0_ : rg 24 = (sp_EXP (P + 64) ((mu im - ra im) * dk_p 64)) := hv0_.trans (by rw [f_24])
      have f_27 : rg 27 = dk_p (P + 64) := (hf9 27 (by decide)).trans f_27
      have f_25 : rg 25 = ((mu im + ra im) * dk_p 64) := (hf9 25 (by decide)).trans f_25
      have f_24 := fT0_
      have hof : ∀ j, j < 24 ∨ (26 ≤ j ∧ j ≤ 28) → rg j = rg0 j := fun j hj => (hf9 j (hq12_8 hj)).trans (hof j hj)
      refine lv_aload_n hx hb dX5_exp_110 rfl (lv_at hl 0 rfl) ?_
      refine lv_bipush (v := nI 25) hx hb dX5_exp_111 (by decide) ?_
      refine lv_bipush (v := nI 25) hx hb dX5_exp_113 (by decide) ?_
      refine bd_cv (As := [.int (nI 25), .int (nI 25)]) (rest := []) C (v5_fineExp _ _ _ _ _ hv 25 25 (by decide) (by decide) f_27 (by rw [f_25]; exact hx2)) (cwV 2 hts gX5_exp_X5_fineExp rfl rfl rfl (by decide +kernel) ⟨Nat.le_of_ble_eq_true rfl, Nat.le_of_ble_eq_true rfl⟩) hsz hw (mv_recv C hw hv) dX5_exp_115 rfl hl.1 rfl (Nat.le_of_ble_eq_true rfl) ⟨Nat.le_refl _, Nat.le_refl _⟩ (fun E z H locs hp hw => ?_)
      obtain ⟨rg, hv, hv0_, hf9⟩ := hp
      have fT0_ : rg 25 = (sp_EXP (P + 64) ((mu im + ra im) * dk_p 64)) := hv0_.trans (by rw [f_25])
      have f_27 : rg 27 = dk_p (P + 64) := (hf9 27 (by decide)).trans f_27
      have f_24 : rg 24 = (sp_EXP (P + 64) ((mu im - ra im) * dk_p 64)) := (hf9 24 (by decide)).trans f_24
      have f_25 := fT0_
      have hof : ∀ j, j < 24 ∨ (26 ≤ j ∧ j ≤ 28) → rg j = rg0 j := fun j hj => (hf9 j (hq12_9 hj)).trans (hof j hj)
      refine lv_aload_n hx hb dX5_exp_118 rfl (lv_at hl 0 rfl) ?_
      refine lv_bipush (v := nI 24) hx hb dX5_exp_119 (by decide) ?_
      refine lv_iconst (v := (-1)) hx hb dX5_exp_121 (by decide) ?_
      refine bd_cv (As := [.int (nI 24), .int (-1)]) (rest := []) C (v5_coarse _ _ _ _ _ hv 24 (-1) (by decide) (by decide) (by rw [f_24]; exact (Nat.le_trans hg1 (by decide +kernel)))) (cwV 2 hts gX5_exp_X5_coarse rfl rfl rfl (by decide +kernel) ⟨Nat.le_of_ble_eq_true rfl, Nat.le_of_ble_eq_true rfl⟩) hsz hw (mv_recv C hw hv) dX5_exp_122 rfl hl.1 rfl (Nat.le_of_ble_eq_true rfl) ⟨Nat.le_refl _, Nat.le_refl _⟩ (fun E z H locs hp hw => ?_)
      obtain ⟨rg, hv, hv0_, hf9⟩ := hp
      have fT0_ : rg 24 = (dk_cl (sp_EXP (P + 64) ((mu im - ra im) * dk_p 64))) := hv0_.trans (by rw [f_24]; rfl)
      have f_27 : rg 27 = dk_p (P + 64) := (hf9 27 (by decide) (by decide)).trans f_27
      have f_25 : rg 25 = (sp_EXP (P + 64) ((mu im + ra im) * dk_p 64)) := (hf9 25 (by decide) (by decide)).trans f_25
      have f_24 := fT0_
      have hof : ∀ j, j < 24 ∨ (26 ≤ j ∧ j ≤ 28) → rg j = rg0 j := fun j hj => (hf9 j (hq12_1 hj) (hq12_6 hj)).trans (hof j hj)
      refine lv_aload_n hx hb dX5_exp_125 rfl (lv_at hl 0 rfl) ?_
      refine lv_bipush (v := nI 25) hx hb dX5_exp_126 (by decide) ?_
      refine lv_iconst (v := nI 2) hx hb dX5_exp_128 (by decide) ?_
      refine bd_cv (As := [.int (nI 25), .int (nI 2)]) (rest := []) C (v5_coarse _ _ _ _ _ hv 25 (nI 2) (by decide) (by decide) (by rw [f_25]; exact (Nat.le_trans hg2 (by decide +kernel)))) (cwV 2 hts gX5_exp_X5_coarse rfl rfl rfl (by decide +kernel) ⟨Nat.le_of_ble_eq_true rfl, Nat.le_of_ble_eq_true rfl⟩) hsz hw (mv_recv C hw hv) dX5_exp_129 rfl hl.1 rfl (Nat.le_of_ble_eq_true rfl) ⟨Nat.le_refl _, Nat.le_refl _⟩ (fun E z H locs hp hw => ?_)
      obtain ⟨rg, hv, hv0_, hf9⟩ := hp
      have fT0_ : rg 25 = (dk_ch (sp_EXP (P + 64) ((mu im + ra im) * dk_p 64))) := hv0_.trans (by rw [f_25]; rfl)
      have f_27 : rg 27 = dk_p (P + 64) := (hf9 27 (by decide) (by decide)).trans f_27
      have f_24 : rg 24 = (dk_cl (sp_EXP (P + 64) ((mu im - ra im) * dk_p 64))) := (hf9 24 (by decide) (by decide)).trans f_24
      have f_25 := fT0_
      have hof : ∀ j, j < 24 ∨ (26 ≤ j ∧ j ≤ 28) → rg j = rg0 j := fun j hj => (hf9 j (hq12_2 hj) (hq12_6 hj)).trans (hof j hj)
      refine lv_aload_n hx hb dX5_exp_132 rfl (lv_at hl 0 rfl) ?_
      refine mv_g C i5 hw hv 4 (by decide) (v := .ref (mo 2)) rfl dX5_exp_133 lk13 ?_
      refine lv_bipush (v := nI 24) hx hb dX5_exp_136 (by decide) ?_
      refine mv_ld2 C hw hv (r := 24) dX5_exp_138 (by omega) ?_
      rw [f_24]
      refine lv_if_ge (tgt := 148) hx hb dX5_exp_139 (by decide) (fun hc139 => ?_) (fun hc139 => ?_)
      · have hq139 := sg_ge hc139
        have hd : dk_exp P (nI kn) (nI im) mu ra = dk_ends P kn (dk_cl (sp_EXP (P + 64) ((mu im - ra im) * dk_p 64))) (dk_ch (sp_EXP (P + 64) ((mu im + ra im) * dk_p 64))) mu ra := by unfold dk_exp; rw [if_pos ⟨⟨hpl_kn, hpl_im⟩, by rw [hx_im]; exact hq1, by rw [hx_im]; exact hq2⟩, hx_kn, hx_im, if_neg (Int.not_lt.mpr hq139)]
        refine lv_aload_n hx hb dX5_exp_148 rfl (lv_at hl 0 rfl) ?_
        refine lv_iload_n hx hb dX5_exp_149 rfl (lv_at hl 1 rfl) ?_
        refine lv_bipush (v := nI 24) hx hb dX5_exp_150 (by decide) ?_
        refine lv_bipush (v := nI 25) hx hb dX5_exp_152 (by decide) ?_
        refine bd_ci (As := [.int (nI kn), .int (nI 24), .int (nI 25)]) (rest := []) C (v5_keepEnds _ _ _ _ _ hv (md_ivm hiv hof) kn 24 25 hkn (by decide) (by decide) (by rw [f_24]; exact clb hg1) (by rw [f_25]; exact chb hg2)) (cwV 3 hts gX5_exp_X5_keepEnds rfl rfl rfl (by decide +kernel) ⟨Nat.le_of_ble_eq_true rfl, Nat.le_of_ble_eq_true rfl⟩) hsz hw (mv_recv C hw hv) dX5_exp_154 rfl hl.1 rfl (Nat.le_of_ble_eq_true rfl) ⟨Nat.le_refl _, Nat.le_refl _⟩ (fun r9 E9 z H locs hp hw => ?_)
        rw [f_24, f_25] at hp
        exact bd_iret C hr hlk hw dX5_exp_157 (by rw [hd]; exact hp)
      · have hq139 := sg_nge hc139
        have hd : dk_exp P (nI kn) (nI im) mu ra = dk_ends P kn 0 (dk_ch (sp_EXP (P + 64) ((mu im + ra im) * dk_p 64))) mu ra := by unfold dk_exp; rw [if_pos ⟨⟨hpl_kn, hpl_im⟩, by rw [hx_im]; exact hq1, by rw [hx_im]; exact hq2⟩, hx_kn, hx_im, if_pos hq139]
        refine lv_aload_n hx hb dX5_exp_142 rfl (lv_at hl 0 rfl) ?_
        refine lv_bipush (v := nI 24) hx hb dX5_exp_143 (by decide) ?_
        refine bd_cv (As := [.int (nI 24)]) (rest := []) C (v5_none _ _ _ _ _ hv 24 (by decide)) (cwV 1 hts gX5_exp_X5_none rfl rfl rfl (by decide +kernel) ⟨Nat.le_of_ble_eq_true rfl, Nat.le_of_ble_eq_true rfl⟩) hsz hw (mv_recv C hw hv) dX5_exp_145 rfl hl.1 rfl (Nat.le_of_ble_eq_true rfl) ⟨Nat.le_refl _, Nat.le_refl _⟩ (fun E z H locs hp hw => ?_)
        obtain ⟨rg, hv, hv0_, hf9⟩ := hp
        have fT0_ : rg 24 = 0 := hv0_.trans (by rfl)
        have f_27 : rg 27 = dk_p (P + 64) := (hf9 27 (by decide)).trans f_27
        have f_25 : rg 25 = (dk_ch (sp_EXP (P + 64) ((mu im + ra im) * dk_p 64))) := (hf9 25 (by decide)).trans f_25
        have f_24 := fT0_
        have hof : ∀ j, j < 24 ∨ (26 ≤ j ∧ j ≤ 28) → rg j = rg0 j := fun j hj => (hf9 j (hq12_1 hj)).trans (hof j hj)
        refine lv_aload_n hx hb dX5_exp_148 rfl (lv_at hl 0 rfl) ?_
        refine lv_iload_n hx hb dX5_exp_149 rfl (lv_at hl 1 rfl) ?_
        refine lv_bipush (v := nI 24) hx hb dX5_exp_150 (by decide) ?_
        refine lv_bipush (v := nI 25) hx hb dX5_exp_152 (by decide) ?_
        refine bd_ci (As := [.int (nI kn), .int (nI 24), .int (nI 25)]) (rest := []) C (v5_keepEnds _ _ _ _ _ hv (md_ivm hiv hof) kn 24 25 hkn (by decide) (by decide) (by rw [f_24]; exact (Nat.zero_le _)) (by rw [f_25]; exact chb hg2)) (cwV 3 hts gX5_exp_X5_keepEnds rfl rfl rfl (by decide +kernel) ⟨Nat.le_of_ble_eq_true rfl, Nat.le_of_ble_eq_true rfl⟩) hsz hw (mv_recv C hw hv) dX5_exp_154 rfl hl.1 rfl (Nat.le_of_ble_eq_true rfl) ⟨Nat.le_refl _, Nat.le_refl _⟩ (fun r9 E9 z H locs hp hw => ?_)
        rw [f_24, f_25] at hp
        exact bd_iret C hr hlk hw dX5_exp_157 (by rw [hd]; exact hp)
    · have hno := pl_f hc16
      refine lv_iconst (v := (-1)) hx hb dX5_exp_19 (by decide) ?_
      have hd9 : dk_exp P (nI kn) i mu ra = (-1, mu, ra) := if_neg (fun q => hno q.1.2)
      exact bd_iret C hr hlk hw dX5_exp_20 (by rw [hd9]; exact ⟨rfl, _, _, hv, md_ivm hiv hof⟩)
set_option maxHeartbeats 4000000 in
set_option maxRecDepth 100000 in
/-- log -/
theorem v5_log (l : Launch) (K : Cxt) (E0 : Nat → va_E) (z0 : Nat → Wh) (sz : Nat) {mo : Nat → Nat} {th : Int32} {P : Nat} {rg0 : Nat → Int} (hv : md_v K E0 mo th P rg0) {mu ra : Nat → Int} (hiv : md_iv P rg0 mu ra) (k i : Int32)  : Met l yX5_log wsX5_log ({ frames := 8, cells := 0, slots := 0, locals := 280 }) (va_Pc [.ref (mo 0), .int k, .int i] (bd_P K E0 z0 sz)) (va_Qi (md_post K mo P (dk_log P k i mu ra)) (bd_B K) (bd_A K sz)) 0 0 (bd_A K sz) := by
  refine bd_ofW (cc := cX5_log) (maxL := 3) (ret := (some .int)) (by decide) rfl (Nat.le_of_ble_eq_true rfl) ?_
  intro p e s m below meth c ls C hr hlk hsz hw hl
  have hx := C.1
  have hb := C.2.1
  have hown := C.2.2.2.1
  have hts := C.2.2.2.2.1
  have i5 : ∀ w ∈ wsX50, w ∈ wsX5_log := by decide +kernel
  have lk48 : Cond.fieldLink RX5 48 "BallDeskModel" "thrown" "I" ∈ wsX5_log := by decide +kernel
  have lk13 : Cond.fieldLink RX5 13 "BallDeskModel" "signs" "[I" ∈ wsX5_log := by decide +kernel
  have hl : lv_has ls 3 [(0, .ref (mo 0)), (1, .int k), (2, .int i)] := hl
  obtain ⟨hP1, hP2⟩ := mv_P hv
  have hp192 : (2 : Nat) ^ P ≤ 2 ^ 192 := Nat.pow_le_pow_right (by decide) hP2
  have hP816 : P < 816 := by omega
  have hP64 : P + 64 < 816 := by omega
  have hP128 : 2 * (P + 64) < 816 := by omega
  have hof : ∀ j, j < 24 ∨ (26 ≤ j ∧ j ≤ 28) → rg0 j = rg0 j := fun _ _ => rfl
  refine lv_aload_n hx hb dX5_log_0 rfl (lv_at hl 0 rfl) ?_
  refine lv_iconst (v := nI 0) hx hb dX5_log_1 (by decide) ?_
  refine mv_pt C i5 hw hv dX5_log_2 lk48 (fun E H locs hv hw => ?_)
  refine lv_iload_n hx hb dX5_log_5 rfl (lv_at hl 1 rfl) ?_
  refine bd_sip (As := [.int k]) (rest := []) C (c5_isPlace _ _ _ _ _ k) (va_cwS 1 hts gX5_log_X5_isPlace rfl rfl rfl (by decide +kernel) ⟨Nat.le_of_ble_eq_true rfl, Nat.le_of_ble_eq_true rfl⟩) hsz hw dX5_log_6 rfl hl.1 rfl (Nat.le_of_ble_eq_true rfl) ⟨Nat.le_refl _, Nat.le_refl _⟩ (fun H locs hw => ?_)
  refine lv_if_eq (tgt := 19) hx hb dX5_log_9 (by decide) (fun hc9 => ?_) (fun hc9 => ?_)
  · have hno := pl_f hc9
    refine lv_iconst (v := (-1)) hx hb dX5_log_19 (by decide) ?_
    have hd9 : dk_log P k i mu ra = (-1, mu, ra) := if_neg (fun q => hno q.1.1)
    exact bd_iret C hr hlk hw dX5_log_20 (by rw [hd9]; exact ⟨rfl, _, _, hv, md_ivm hiv hof⟩)
  · have hpl_kn := pl_t hc9
    obtain ⟨kn, hkn, hk_kn, hx_kn⟩ := pl_x hpl_kn
    subst hk_kn
    refine lv_iload_n hx hb dX5_log_12 rfl (lv_at hl 2 rfl) ?_
    refine bd_sip (As := [.int i]) (rest := []) C (c5_isPlace _ _ _ _ _ i) (va_cwS 1 hts gX5_log_X5_isPlace rfl rfl rfl (by decide +kernel) ⟨Nat.le_of_ble_eq_true rfl, Nat.le_of_ble_eq_true rfl⟩) hsz hw dX5_log_13 rfl hl.1 rfl (Nat.le_of_ble_eq_true rfl) ⟨Nat.le_refl _, Nat.le_refl _⟩ (fun H locs hw => ?_)
    refine lv_if_ne (tgt := 21) hx hb dX5_log_16 (by decide) (fun hc16 => ?_) (fun hc16 => ?_)
    · have hpl_im := pl_t hc16
      obtain ⟨im, him, hk_im, hx_im⟩ := pl_x hpl_im
      subst hk_im
      obtain ⟨hbm_im, hb0_im, hbr_im⟩ := md_b hP2 hiv him
      have f_im : rg0 im = mu im := (hof im (by omega)).trans (hiv.2.2.2 im him).1
      have f_12im : rg0 (12 + im) = ra im := (hof (12 + im) (by omega)).trans (hiv.2.2.2 im him).2.1
      change hid _ at hbm_im hbr_im
      obtain ⟨he1, he2⟩ := e_b hbm_im hbr_im
      change hid _ at he1 he2
      refine lv_aload_n hx hb dX5_log_21 rfl (lv_at hl 0 rfl) ?_
      refine lv_iload_n hx hb dX5_log_22 rfl (lv_at hl 2 rfl) ?_
      refine bd_cv (As := [.int (nI im)]) (rest := []) C (v5_ends _ _ _ _ _ hv im him (by rw [f_im]; exact hbm_im) (by rw [f_12im]; exact hbr_im)) (cwV 1 hts gX5_log_X5_ends rfl rfl rfl (by decide +kernel) ⟨Nat.le_of_ble_eq_true rfl, Nat.le_of_ble_eq_true rfl⟩) hsz hw (mv_recv C hw hv) dX5_log_23 rfl hl.1 rfl (Nat.le_of_ble_eq_true rfl) ⟨Nat.le_refl _, Nat.le_refl _⟩ (fun E z H locs hp hw => ?_)
      obtain ⟨rg, hv, hv0_, hv1_, hf9⟩ := hp
      have fT0_ : rg 24 = (mu im - ra im) := hv0_.trans (by rw [f_im, f_12im])
      have fT1_ : rg 25 = (mu im + ra im) := hv1_.trans (by rw [f_im, f_12im])
      have f_im : rg im = mu im := (hf9 im (by omega)).trans f_im
      have f_12im : rg (12 + im) = ra im := (hf9 (12 + im) (by omega)).trans f_12im
      have f_24 := fT0_
      have f_25 := fT1_
      have hof : ∀ j, j < 24 ∨ (26 ≤ j ∧ j ≤ 28) → rg j = rg0 j := fun j hj => (hf9 j (hq12_0 hj)).trans (hof j hj)
      refine lv_aload_n hx hb dX5_log_26 rfl (lv_at hl 0 rfl) ?_
      refine mv_g C i5 hw hv 4 (by decide) (v := .ref (mo 2)) rfl dX5_log_27 lk13 ?_
      refine lv_bipush (v := nI 24) hx hb dX5_log_30 (by decide) ?_
      refine mv_ld2 C hw hv (r := 24) dX5_log_32 (by omega) ?_
      rw [f_24]
      refine lv_if_gt (tgt := 38) hx hb dX5_log_33 (by decide) (fun hc33 => ?_) (fun hc33 => ?_)
      · have hq33 := sg_gt hc33
        have hd : dk_log P (nI kn) (nI im) mu ra = dk_ends P kn (dk_cl (sp_LOG (P + 64) ((mu im - ra im) * dk_p 64))) (dk_ch (sp_LOG (P + 64) ((mu im + ra im) * dk_p 64))) mu ra := by unfold dk_log; rw [if_pos ⟨⟨hpl_kn, hpl_im⟩, by rw [hx_im]; exact hq33⟩, hx_kn, hx_im]
        have hlx := (hiv.2.2.2 im him).2.2
        obtain ⟨hx1, hx2, hx3, hx4⟩ := lg_e (P := P) hlx.1 hlx.2.1 hlx.2.2 hq33
        have hg1 := sp_LOGb (Q := P + 64) (by omega) (by omega) hx1 hx3
        have hg2 := sp_LOGb (Q := P + 64) (by omega) (by omega) hx2 hx4
        clear hlx
        change hid _ at hx3 hx4 hg1 hg2
        have f_27 : rg 27 = dk_p (P + 64) := (hof 27 (by omega)).trans hiv.2.1
        refine lv_aload_n hx hb dX5_log_38 rfl (lv_at hl 0 rfl) ?_
        refine lv_bipush (v := nI 24) hx hb dX5_log_39 (by decide) ?_
        refine lv_bipush (v := nI 24) hx hb dX5_log_41 (by decide) ?_
        refine lv_bipush (v := nI 64) hx hb dX5_log_43 (by decide) ?_
        refine bd_cv (As := [.int (nI 24), .int (nI 24), .int (nI 64)]) (rest := []) C (v5_up _ _ _ _ _ hv 24 24 64 (by decide) (by decide) (by decide) (by rw [f_24]; exact (b34 (Nat.le_trans (Nat.mul_le_mul_right _ he1) (by decide +kernel))))) (cwV 3 hts gX5_log_X5_up rfl rfl rfl (by decide +kernel) ⟨Nat.le_of_ble_eq_true rfl, Nat.le_of_ble_eq_true rfl⟩) hsz hw (mv_recv C hw hv) dX5_log_45 rfl hl.1 rfl (Nat.le_of_ble_eq_true rfl) ⟨Nat.le_refl _, Nat.le_refl _⟩ (fun E z H locs hp hw => ?_)
        obtain ⟨rg, hv, hv0_, hf9⟩ := hp
        have fT0_ : rg 24 = ((mu im - ra im) * dk_p 64) := hv0_.trans (by rw [f_24])
        have f_im : rg im = mu im := (hf9 im (by omega)).trans f_im
        have f_12im : rg (12 + im) = ra im := (hf9 (12 + im) (by omega)).trans f_12im
        have f_25 : rg 25 = (mu im + ra im) := (hf9 25 (by decide)).trans f_25
        have f_27 : rg 27 = dk_p (P + 64) := (hf9 27 (by decide)).trans f_27
        have f_24 := fT0_
        have hof : ∀ j, j < 24 ∨ (26 ≤ j ∧ j ≤ 28) → rg j = rg0 j := fun j hj => (hf9 j (hq12_1 hj)).trans (hof j hj)
        refine lv_aload_n hx hb dX5_log_48 rfl (lv_at hl 0 rfl) ?_
        refine lv_bipush (v := nI 25) hx hb dX5_log_49 (by decide) ?_
        refine lv_bipush (v := nI 25) hx hb dX5_log_51 (by decide) ?_
        refine lv_bipush (v := nI 64) hx hb dX5_log_53 (by decide) ?_
        refine bd_cv (As := [.int (nI 25), .int (nI 25), .int (nI 64)]) (rest := []) C (v5_up _ _ _ _ _ hv 25 25 64 (by decide) (by decide) (by decide) (by rw [f_25]; exact (b34 (Nat.le_trans (Nat.mul_le_mul_right _ he2) (by decide +kernel))))) (cwV 3 hts gX5_log_X5_up rfl rfl rfl (by decide +kernel) ⟨Nat.le_of_ble_eq_true rfl, Nat.le_of_ble_eq_true rfl⟩) hsz hw (mv_recv C hw hv) dX5_log_55 rfl hl.1 rfl (Nat.le_of_ble_eq_true rfl) ⟨Nat.le_refl _, Nat.le_refl _⟩ (fun E z H locs hp hw => ?_)
        obtain ⟨rg, hv, hv0_, hf9⟩ := hp
        have fT0_ : rg 25 = ((mu im + ra im) * dk_p 64) := hv0_.trans (by rw [f_25])
        have f_im : rg im = mu im := (hf9 im (by omega)).trans f_im
        have f_12im : rg (12 + im) = ra im := (hf9 (12 + im) (by omega)).trans f_12im
        have f_27 : rg 27 = dk_p (P + 64) := (hf9 27 (by decide)).trans f_27
        have f_24 : rg 24 = ((mu im - ra im) * dk_p 64) := (hf9 24 (by decide)).trans f_24
        have f_25 := fT0_
        have hof : ∀ j, j < 24 ∨ (26 ≤ j ∧ j ≤ 28) → rg j = rg0 j := fun j hj => (hf9 j (hq12_2 hj)).trans (hof j hj)
        refine lv_aload_n hx hb dX5_log_58 rfl (lv_at hl 0 rfl) ?_
        refine lv_bipush (v := nI 24) hx hb dX5_log_59 (by decide) ?_
        refine lv_bipush (v := nI 24) hx hb dX5_log_61 (by decide) ?_
        refine bd_cv (As := [.int (nI 24), .int (nI 24)]) (rest := []) C (v5_fineLog _ _ _ _ _ hv 24 24 (by decide) (by decide) f_27 (by rw [f_24]; exact hx1) (by rw [f_24]; exact hx3)) (cwV 2 hts gX5_log_X5_fineLog rfl rfl rfl (by decide +kernel) ⟨Nat.le_of_ble_eq_true rfl, Nat.le_of_ble_eq_true rfl⟩) hsz hw (mv_recv C hw hv) dX5_log_63 rfl hl.1 rfl (Nat.le_of_ble_eq_true rfl) ⟨Nat.le_refl _, Nat.le_refl _⟩ (fun E z H locs hp hw => ?_)
        obtain ⟨rg, hv, hv0_, hf9⟩ := hp
        have fT0_ : rg 24 = (sp_LOG (P + 64) ((mu im - ra im) * dk_p 64)) := hv0_.trans (by rw [f_24])
        have f_im : rg im = mu im := (hf9 im (by omega)).trans f_im
        have f_12im : rg (12 + im) = ra im := (hf9 (12 + im) (by omega)).trans f_12im
        have f_27 : rg 27 = dk_p (P + 64) := (hf9 27 (by decide)).trans f_27
        have f_25 : rg 25 = ((mu im + ra im) * dk_p 64) := (hf9 25 (by decide)).trans f_25
        have f_24 := fT0_
        have hof : ∀ j, j < 24 ∨ (26 ≤ j ∧ j ≤ 28) → rg j = rg0 j := fun j hj => (hf9 j (hq12_10 hj)).trans (hof j hj)
        refine lv_aload_n hx hb dX5_log_66 rfl (lv_at hl 0 rfl) ?_
        refine lv_bipush (v := nI 25) hx hb dX5_log_67 (by decide) ?_
        refine lv_bipush (v := nI 25) hx hb dX5_log_69 (by decide) ?_
        refine bd_cv (As := [.int (nI 25), .int (nI 25)]) (rest := []) C (v5_fineLog _ _ _ _ _ hv 25 25 (by decide) (by decide) f_27 (by rw [f_25]; exact hx2) (by rw [f_25]; exact hx4)) (cwV 2 hts gX5_log_X5_fineLog rfl rfl rfl (by decide +kernel) ⟨Nat.le_of_ble_eq_true rfl, Nat.le_of_ble_eq_true rfl⟩) hsz hw (mv_recv C hw hv) dX5_log_71 rfl hl.1 rfl (Nat.le_of_ble_eq_true rfl) ⟨Nat.le_refl _, Nat.le_refl _⟩ (fun E z H locs hp hw => ?_)
        obtain ⟨rg, hv, hv0_, hf9⟩ := hp
        have fT0_ : rg 25 = (sp_LOG (P + 64) ((mu im + ra im) * dk_p 64)) := hv0_.trans (by rw [f_25])
        have f_im : rg im = mu im := (hf9 im (by omega)).trans f_im
        have f_12im : rg (12 + im) = ra im := (hf9 (12 + im) (by omega)).trans f_12im
        have f_27 : rg 27 = dk_p (P + 64) := (hf9 27 (by decide)).trans f_27
        have f_24 : rg 24 = (sp_LOG (P + 64) ((mu im - ra im) * dk_p 64)) := (hf9 24 (by decide)).trans f_24
        have f_25 := fT0_
        have hof : ∀ j, j < 24 ∨ (26 ≤ j ∧ j ≤ 28) → rg j = rg0 j := fun j hj => (hf9 j (hq12_11 hj)).trans (hof j hj)
        refine lv_aload_n hx hb dX5_log_74 rfl (lv_at hl 0 rfl) ?_
        refine lv_bipush (v := nI 24) hx hb dX5_log_75 (by decide) ?_
        refine lv_iconst (v := (-1)) hx hb dX5_log_77 (by decide) ?_
        refine bd_cv (As := [.int (nI 24), .int (-1)]) (rest := []) C (v5_coarse _ _ _ _ _ hv 24 (-1) (by decide) (by decide) (by rw [f_24]; exact (Nat.le_trans hg1 (by decide +kernel)))) (cwV 2 hts gX5_log_X5_coarse rfl rfl rfl (by decide +kernel) ⟨Nat.le_of_ble_eq_true rfl, Nat.le_of_ble_eq_true rfl⟩) hsz hw (mv_recv C hw hv) dX5_log_78 rfl hl.1 rfl (Nat.le_of_ble_eq_true rfl) ⟨Nat.le_refl _, Nat.le_refl _⟩ (fun E z H locs hp hw => ?_)
        obtain ⟨rg, hv, hv0_, hf9⟩ := hp
        have fT0_ : rg 24 = (dk_cl (sp_LOG (P + 64) ((mu im - ra im) * dk_p 64))) := hv0_.trans (by rw [f_24]; rfl)
        have f_im : rg im = mu im := (hf9 im (by omega) (by omega)).trans f_im
        have f_12im : rg (12 + im) = ra im := (hf9 (12 + im) (by omega) (by omega)).trans f_12im
        have f_27 : rg 27 = dk_p (P + 64) := (hf9 27 (by decide) (by decide)).trans f_27
        have f_25 : rg 25 = (sp_LOG (P + 64) ((mu im + ra im) * dk_p 64)) := (hf9 25 (by decide) (by decide)).trans f_25
        have f_24 := fT0_
        have hof : ∀ j, j < 24 ∨ (26 ≤ j ∧ j ≤ 28) → rg j = rg0 j := fun j hj => (hf9 j (hq12_1 hj) (hq12_6 hj)).trans (hof j hj)
        refine lv_aload_n hx hb dX5_log_81 rfl (lv_at hl 0 rfl) ?_
        refine lv_bipush (v := nI 25) hx hb dX5_log_82 (by decide) ?_
        refine lv_iconst (v := nI 2) hx hb dX5_log_84 (by decide) ?_
        refine bd_cv (As := [.int (nI 25), .int (nI 2)]) (rest := []) C (v5_coarse _ _ _ _ _ hv 25 (nI 2) (by decide) (by decide) (by rw [f_25]; exact (Nat.le_trans hg2 (by decide +kernel)))) (cwV 2 hts gX5_log_X5_coarse rfl rfl rfl (by decide +kernel) ⟨Nat.le_of_ble_eq_true rfl, Nat.le_of_ble_eq_true rfl⟩) hsz hw (mv_recv C hw hv) dX5_log_85 rfl hl.1 rfl (Nat.le_of_ble_eq_true rfl) ⟨Nat.le_refl _, Nat.le_refl _⟩ (fun E z H locs hp hw => ?_)
        obtain ⟨rg, hv, hv0_, hf9⟩ := hp
        have fT0_ : rg 25 = (dk_ch (sp_LOG (P + 64) ((mu im + ra im) * dk_p 64))) := hv0_.trans (by rw [f_25]; rfl)
        have f_im : rg im = mu im := (hf9 im (by omega) (by omega)).trans f_im
        have f_12im : rg (12 + im) = ra im := (hf9 (12 + im) (by omega) (by omega)).trans f_12im
        have f_27 : rg 27 = dk_p (P + 64) := (hf9 27 (by decide) (by decide)).trans f_27
        have f_24 : rg 24 = (dk_cl (sp_LOG (P + 64) ((mu im - ra im) * dk_p 64))) := (hf9 24 (by decide) (by decide)).trans f_24
        have f_25 := fT0_
        have hof : ∀ j, j < 24 ∨ (26 ≤ j ∧ j ≤ 28) → rg j = rg0 j := fun j hj => (hf9 j (hq12_2 hj) (hq12_6 hj)).trans (hof j hj)
        refine lv_aload_n hx hb dX5_log_88 rfl (lv_at hl 0 rfl) ?_
        refine lv_iload_n hx hb dX5_log_89 rfl (lv_at hl 1 rfl) ?_
        refine lv_bipush (v := nI 24) hx hb dX5_log_90 (by decide) ?_
        refine lv_bipush (v := nI 25) hx hb dX5_log_92 (by decide) ?_
        refine bd_ci (As := [.int (nI kn), .int (nI 24), .int (nI 25)]) (rest := []) C (v5_keepEnds _ _ _ _ _ hv (md_ivm hiv hof) kn 24 25 hkn (by decide) (by decide) (by rw [f_24]; exact clb hg1) (by rw [f_25]; exact chb hg2)) (cwV 3 hts gX5_log_X5_keepEnds rfl rfl rfl (by decide +kernel) ⟨Nat.le_of_ble_eq_true rfl, Nat.le_of_ble_eq_true rfl⟩) hsz hw (mv_recv C hw hv) dX5_log_94 rfl hl.1 rfl (Nat.le_of_ble_eq_true rfl) ⟨Nat.le_refl _, Nat.le_refl _⟩ (fun r9 E9 z H locs hp hw => ?_)
        rw [f_24, f_25] at hp
        exact bd_iret C hr hlk hw dX5_log_97 (by rw [hd]; exact hp)
      · have hq33 := sg_ngt hc33
        refine lv_iconst (v := (-1)) hx hb dX5_log_36 (by decide) ?_
        have hd9 : dk_log P (nI kn) (nI im) mu ra = (-1, mu, ra) := if_neg (fun q => absurd q.2 (by rw [hx_im]; exact Int.not_lt.mpr hq33))
        exact bd_iret C hr hlk hw dX5_log_37 (by rw [hd9]; exact ⟨rfl, _, _, hv, md_ivm hiv hof⟩)
    · have hno := pl_f hc16
      refine lv_iconst (v := (-1)) hx hb dX5_log_19 (by decide) ?_
      have hd9 : dk_log P (nI kn) i mu ra = (-1, mu, ra) := if_neg (fun q => hno q.1.2)
      exact bd_iret C hr hlk hw dX5_log_20 (by rw [hd9]; exact ⟨rfl, _, _, hv, md_ivm hiv hof⟩)
set_option maxHeartbeats 4000000 in
set_option maxRecDepth 100000 in
/-- arc -/
theorem v5_arc (l : Launch) (K : Cxt) (E0 : Nat → va_E) (z0 : Nat → Wh) (sz : Nat) {mo : Nat → Nat} {th : Int32} {P : Nat} {rg0 : Nat → Int} (hv : md_v K E0 mo th P rg0) {mu ra : Nat → Int} (hiv : md_iv P rg0 mu ra) (k i : Int32)  : Met l yX5_arc wsX5_arc ({ frames := 8, cells := 0, slots := 0, locals := 280 }) (va_Pc [.ref (mo 0), .int k, .int i] (bd_P K E0 z0 sz)) (va_Qi (md_post K mo P (dk_arc P k i mu ra)) (bd_B K) (bd_A K sz)) 0 0 (bd_A K sz) := by
  refine bd_ofW (cc := cX5_arc) (maxL := 3) (ret := (some .int)) (by decide) rfl (Nat.le_of_ble_eq_true rfl) ?_
  intro p e s m below meth c ls C hr hlk hsz hw hl
  have hx := C.1
  have hb := C.2.1
  have hown := C.2.2.2.1
  have hts := C.2.2.2.2.1
  have i5 : ∀ w ∈ wsX50, w ∈ wsX5_arc := by decide +kernel
  have lk48 : Cond.fieldLink RX5 48 "BallDeskModel" "thrown" "I" ∈ wsX5_arc := by decide +kernel
  have hl : lv_has ls 3 [(0, .ref (mo 0)), (1, .int k), (2, .int i)] := hl
  obtain ⟨hP1, hP2⟩ := mv_P hv
  have hp192 : (2 : Nat) ^ P ≤ 2 ^ 192 := Nat.pow_le_pow_right (by decide) hP2
  have hP816 : P < 816 := by omega
  have hP64 : P + 64 < 816 := by omega
  have hP128 : 2 * (P + 64) < 816 := by omega
  have hof : ∀ j, j < 24 ∨ (26 ≤ j ∧ j ≤ 28) → rg0 j = rg0 j := fun _ _ => rfl
  refine lv_aload_n hx hb dX5_arc_0 rfl (lv_at hl 0 rfl) ?_
  refine lv_iconst (v := nI 0) hx hb dX5_arc_1 (by decide) ?_
  refine mv_pt C i5 hw hv dX5_arc_2 lk48 (fun E H locs hv hw => ?_)
  refine lv_iload_n hx hb dX5_arc_5 rfl (lv_at hl 1 rfl) ?_
  refine bd_sip (As := [.int k]) (rest := []) C (c5_isPlace _ _ _ _ _ k) (va_cwS 1 hts gX5_arc_X5_isPlace rfl rfl rfl (by decide +kernel) ⟨Nat.le_of_ble_eq_true rfl, Nat.le_of_ble_eq_true rfl⟩) hsz hw dX5_arc_6 rfl hl.1 rfl (Nat.le_of_ble_eq_true rfl) ⟨Nat.le_refl _, Nat.le_refl _⟩ (fun H locs hw => ?_)
  refine lv_if_eq (tgt := 19) hx hb dX5_arc_9 (by decide) (fun hc9 => ?_) (fun hc9 => ?_)
  · have hno := pl_f hc9
    refine lv_iconst (v := (-1)) hx hb dX5_arc_19 (by decide) ?_
    have hd9 : dk_arc P k i mu ra = (-1, mu, ra) := if_neg (fun q => hno q.1)
    exact bd_iret C hr hlk hw dX5_arc_20 (by rw [hd9]; exact ⟨rfl, _, _, hv, md_ivm hiv hof⟩)
  · have hpl_kn := pl_t hc9
    obtain ⟨kn, hkn, hk_kn, hx_kn⟩ := pl_x hpl_kn
    subst hk_kn
    refine lv_iload_n hx hb dX5_arc_12 rfl (lv_at hl 2 rfl) ?_
    refine bd_sip (As := [.int i]) (rest := []) C (c5_isPlace _ _ _ _ _ i) (va_cwS 1 hts gX5_arc_X5_isPlace rfl rfl rfl (by decide +kernel) ⟨Nat.le_of_ble_eq_true rfl, Nat.le_of_ble_eq_true rfl⟩) hsz hw dX5_arc_13 rfl hl.1 rfl (Nat.le_of_ble_eq_true rfl) ⟨Nat.le_refl _, Nat.le_refl _⟩ (fun H locs hw => ?_)
    refine lv_if_ne (tgt := 21) hx hb dX5_arc_16 (by decide) (fun hc16 => ?_) (fun hc16 => ?_)
    · have hpl_im := pl_t hc16
      obtain ⟨im, him, hk_im, hx_im⟩ := pl_x hpl_im
      subst hk_im
      obtain ⟨hbm_im, hb0_im, hbr_im⟩ := md_b hP2 hiv him
      have f_im : rg0 im = mu im := (hof im (by omega)).trans (hiv.2.2.2 im him).1
      have f_12im : rg0 (12 + im) = ra im := (hof (12 + im) (by omega)).trans (hiv.2.2.2 im him).2.1
      change hid _ at hbm_im hbr_im
      obtain ⟨he1, he2⟩ := e_b hbm_im hbr_im
      change hid _ at he1 he2
      have hd : dk_arc P (nI kn) (nI im) mu ra = dk_ends P kn (dk_cl (sp_AT (P + 64) ((mu im - ra im) * dk_p 64))) (dk_ch (sp_AT (P + 64) ((mu im + ra im) * dk_p 64))) mu ra := by unfold dk_arc; rw [if_pos ⟨hpl_kn, hpl_im⟩, hx_kn, hx_im]
      have hg1 := sp_ATb (Q := P + 64) ((mu im - ra im) * dk_p 64) (by omega) (by omega)
      have hg2 := sp_ATb (Q := P + 64) ((mu im + ra im) * dk_p 64) (by omega) (by omega)
      change hid _ at hg1 hg2
      have f_26 : rg0 26 = (sp_PI (P + 64)) := (hof 26 (by omega)).trans hiv.1
      have f_27 : rg0 27 = dk_p (P + 64) := (hof 27 (by omega)).trans hiv.2.1
      refine lv_aload_n hx hb dX5_arc_21 rfl (lv_at hl 0 rfl) ?_
      refine lv_iload_n hx hb dX5_arc_22 rfl (lv_at hl 2 rfl) ?_
      refine bd_cv (As := [.int (nI im)]) (rest := []) C (v5_ends _ _ _ _ _ hv im him (by rw [f_im]; exact hbm_im) (by rw [f_12im]; exact hbr_im)) (cwV 1 hts gX5_arc_X5_ends rfl rfl rfl (by decide +kernel) ⟨Nat.le_of_ble_eq_true rfl, Nat.le_of_ble_eq_true rfl⟩) hsz hw (mv_recv C hw hv) dX5_arc_23 rfl hl.1 rfl (Nat.le_of_ble_eq_true rfl) ⟨Nat.le_refl _, Nat.le_refl _⟩ (fun E z H locs hp hw => ?_)
      obtain ⟨rg, hv, hv0_, hv1_, hf9⟩ := hp
      have fT0_ : rg 24 = (mu im - ra im) := hv0_.trans (by rw [f_im, f_12im])
      have fT1_ : rg 25 = (mu im + ra im) := hv1_.trans (by rw [f_im, f_12im])
      have f_im : rg im = mu im := (hf9 im (by omega)).trans f_im
      have f_12im : rg (12 + im) = ra im := (hf9 (12 + im) (by omega)).trans f_12im
      have f_26 : rg 26 = (sp_PI (P + 64)) := (hf9 26 (by decide)).trans f_26
      have f_27 : rg 27 = dk_p (P + 64) := (hf9 27 (by decide)).trans f_27
      have f_24 := fT0_
      have f_25 := fT1_
      have hof : ∀ j, j < 24 ∨ (26 ≤ j ∧ j ≤ 28) → rg j = rg0 j := fun j hj => (hf9 j (hq12_0 hj)).trans (hof j hj)
      refine lv_aload_n hx hb dX5_arc_26 rfl (lv_at hl 0 rfl) ?_
      refine lv_bipush (v := nI 24) hx hb dX5_arc_27 (by decide) ?_
      refine lv_bipush (v := nI 24) hx hb dX5_arc_29 (by decide) ?_
      refine lv_bipush (v := nI 64) hx hb dX5_arc_31 (by decide) ?_
      refine bd_cv (As := [.int (nI 24), .int (nI 24), .int (nI 64)]) (rest := []) C (v5_up _ _ _ _ _ hv 24 24 64 (by decide) (by decide) (by decide) (by rw [f_24]; exact (b34 (Nat.le_trans (Nat.mul_le_mul_right _ he1) (by decide +kernel))))) (cwV 3 hts gX5_arc_X5_up rfl rfl rfl (by decide +kernel) ⟨Nat.le_of_ble_eq_true rfl, Nat.le_of_ble_eq_true rfl⟩) hsz hw (mv_recv C hw hv) dX5_arc_33 rfl hl.1 rfl (Nat.le_of_ble_eq_true rfl) ⟨Nat.le_refl _, Nat.le_refl _⟩ (fun E z H locs hp hw => ?_)
      obtain ⟨rg, hv, hv0_, hf9⟩ := hp
      have fT0_ : rg 24 = ((mu im - ra im) * dk_p 64) := hv0_.trans (by rw [f_24])
      have f_im : rg im = mu im := (hf9 im (by omega)).trans f_im
      have f_12im : rg (12 + im) = ra im := (hf9 (12 + im) (by omega)).trans f_12im
      have f_26 : rg 26 = (sp_PI (P + 64)) := (hf9 26 (by decide)).trans f_26
      have f_27 : rg 27 = dk_p (P + 64) := (hf9 27 (by decide)).trans f_27
      have f_25 : rg 25 = (mu im + ra im) := (hf9 25 (by decide)).trans f_25
      have f_24 := fT0_
      have hof : ∀ j, j < 24 ∨ (26 ≤ j ∧ j ≤ 28) → rg j = rg0 j := fun j hj => (hf9 j (hq12_1 hj)).trans (hof j hj)
      refine lv_aload_n hx hb dX5_arc_36 rfl (lv_at hl 0 rfl) ?_
      refine lv_bipush (v := nI 25) hx hb dX5_arc_37 (by decide) ?_
      refine lv_bipush (v := nI 25) hx hb dX5_arc_39 (by decide) ?_
      refine lv_bipush (v := nI 64) hx hb dX5_arc_41 (by decide) ?_
      refine bd_cv (As := [.int (nI 25), .int (nI 25), .int (nI 64)]) (rest := []) C (v5_up _ _ _ _ _ hv 25 25 64 (by decide) (by decide) (by decide) (by rw [f_25]; exact (b34 (Nat.le_trans (Nat.mul_le_mul_right _ he2) (by decide +kernel))))) (cwV 3 hts gX5_arc_X5_up rfl rfl rfl (by decide +kernel) ⟨Nat.le_of_ble_eq_true rfl, Nat.le_of_ble_eq_true rfl⟩) hsz hw (mv_recv C hw hv) dX5_arc_43 rfl hl.1 rfl (Nat.le_of_ble_eq_true rfl) ⟨Nat.le_refl _, Nat.le_refl _⟩ (fun E z H locs hp hw => ?_)
      obtain ⟨rg, hv, hv0_, hf9⟩ := hp
      have fT0_ : rg 25 = ((mu im + ra im) * dk_p 64) := hv0_.trans (by rw [f_25])
      have f_im : rg im = mu im := (hf9 im (by omega)).trans f_im
      have f_12im : rg (12 + im) = ra im := (hf9 (12 + im) (by omega)).trans f_12im
      have f_26 : rg 26 = (sp_PI (P + 64)) := (hf9 26 (by decide)).trans f_26
      have f_27 : rg 27 = dk_p (P + 64) := (hf9 27 (by decide)).trans f_27
      have f_24 : rg 24 = ((mu im - ra im) * dk_p 64) := (hf9 24 (by decide)).trans f_24
      have f_25 := fT0_
      have hof : ∀ j, j < 24 ∨ (26 ≤ j ∧ j ≤ 28) → rg j = rg0 j := fun j hj => (hf9 j (hq12_2 hj)).trans (hof j hj)
      refine lv_aload_n hx hb dX5_arc_46 rfl (lv_at hl 0 rfl) ?_
      refine lv_bipush (v := nI 24) hx hb dX5_arc_47 (by decide) ?_
      refine lv_bipush (v := nI 24) hx hb dX5_arc_49 (by decide) ?_
      refine bd_cv (As := [.int (nI 24), .int (nI 24)]) (rest := []) C (v5_fineArc _ _ _ _ _ hv 24 24 (by decide) (by decide) f_27 f_26 (by rw [f_24]; exact (Nat.le_trans (mul_b he1 (Nat.le_of_eq (Int.natAbs_natCast _))) (by decide +kernel)))) (cwV 2 hts gX5_arc_X5_fineArc rfl rfl rfl (by decide +kernel) ⟨Nat.le_of_ble_eq_true rfl, Nat.le_of_ble_eq_true rfl⟩) hsz hw (mv_recv C hw hv) dX5_arc_51 rfl hl.1 rfl (Nat.le_of_ble_eq_true rfl) ⟨Nat.le_refl _, Nat.le_refl _⟩ (fun E z H locs hp hw => ?_)
      obtain ⟨rg, hv, hv0_, hf9⟩ := hp
      have fT0_ : rg 24 = (sp_AT (P + 64) ((mu im - ra im) * dk_p 64)) := hv0_.trans (by rw [f_24])
      have f_im : rg im = mu im := (hf9 im (by omega)).trans f_im
      have f_12im : rg (12 + im) = ra im := (hf9 (12 + im) (by omega)).trans f_12im
      have f_26 : rg 26 = (sp_PI (P + 64)) := (hf9 26 (by decide)).trans f_26
      have f_27 : rg 27 = dk_p (P + 64) := (hf9 27 (by decide)).trans f_27
      have f_25 : rg 25 = ((mu im + ra im) * dk_p 64) := (hf9 25 (by decide)).trans f_25
      have f_24 := fT0_
      have hof : ∀ j, j < 24 ∨ (26 ≤ j ∧ j ≤ 28) → rg j = rg0 j := fun j hj => (hf9 j (hq12_12 hj)).trans (hof j hj)
      refine lv_aload_n hx hb dX5_arc_54 rfl (lv_at hl 0 rfl) ?_
      refine lv_bipush (v := nI 25) hx hb dX5_arc_55 (by decide) ?_
      refine lv_bipush (v := nI 25) hx hb dX5_arc_57 (by decide) ?_
      refine bd_cv (As := [.int (nI 25), .int (nI 25)]) (rest := []) C (v5_fineArc _ _ _ _ _ hv 25 25 (by decide) (by decide) f_27 f_26 (by rw [f_25]; exact (Nat.le_trans (mul_b he2 (Nat.le_of_eq (Int.natAbs_natCast _))) (by decide +kernel)))) (cwV 2 hts gX5_arc_X5_fineArc rfl rfl rfl (by decide +kernel) ⟨Nat.le_of_ble_eq_true rfl, Nat.le_of_ble_eq_true rfl⟩) hsz hw (mv_recv C hw hv) dX5_arc_59 rfl hl.1 rfl (Nat.le_of_ble_eq_true rfl) ⟨Nat.le_refl _, Nat.le_refl _⟩ (fun E z H locs hp hw => ?_)
      obtain ⟨rg, hv, hv0_, hf9⟩ := hp
      have fT0_ : rg 25 = (sp_AT (P + 64) ((mu im + ra im) * dk_p 64)) := hv0_.trans (by rw [f_25])
      have f_im : rg im = mu im := (hf9 im (by omega)).trans f_im
      have f_12im : rg (12 + im) = ra im := (hf9 (12 + im) (by omega)).trans f_12im
      have f_26 : rg 26 = (sp_PI (P + 64)) := (hf9 26 (by decide)).trans f_26
      have f_27 : rg 27 = dk_p (P + 64) := (hf9 27 (by decide)).trans f_27
      have f_24 : rg 24 = (sp_AT (P + 64) ((mu im - ra im) * dk_p 64)) := (hf9 24 (by decide)).trans f_24
      have f_25 := fT0_
      have hof : ∀ j, j < 24 ∨ (26 ≤ j ∧ j ≤ 28) → rg j = rg0 j := fun j hj => (hf9 j (hq12_13 hj)).trans (hof j hj)
      refine lv_aload_n hx hb dX5_arc_62 rfl (lv_at hl 0 rfl) ?_
      refine lv_bipush (v := nI 24) hx hb dX5_arc_63 (by decide) ?_
      refine lv_iconst (v := (-1)) hx hb dX5_arc_65 (by decide) ?_
      refine bd_cv (As := [.int (nI 24), .int (-1)]) (rest := []) C (v5_coarse _ _ _ _ _ hv 24 (-1) (by decide) (by decide) (by rw [f_24]; exact (Nat.le_trans hg1 (by decide +kernel)))) (cwV 2 hts gX5_arc_X5_coarse rfl rfl rfl (by decide +kernel) ⟨Nat.le_of_ble_eq_true rfl, Nat.le_of_ble_eq_true rfl⟩) hsz hw (mv_recv C hw hv) dX5_arc_66 rfl hl.1 rfl (Nat.le_of_ble_eq_true rfl) ⟨Nat.le_refl _, Nat.le_refl _⟩ (fun E z H locs hp hw => ?_)
      obtain ⟨rg, hv, hv0_, hf9⟩ := hp
      have fT0_ : rg 24 = (dk_cl (sp_AT (P + 64) ((mu im - ra im) * dk_p 64))) := hv0_.trans (by rw [f_24]; rfl)
      have f_im : rg im = mu im := (hf9 im (by omega) (by omega)).trans f_im
      have f_12im : rg (12 + im) = ra im := (hf9 (12 + im) (by omega) (by omega)).trans f_12im
      have f_26 : rg 26 = (sp_PI (P + 64)) := (hf9 26 (by decide) (by decide)).trans f_26
      have f_27 : rg 27 = dk_p (P + 64) := (hf9 27 (by decide) (by decide)).trans f_27
      have f_25 : rg 25 = (sp_AT (P + 64) ((mu im + ra im) * dk_p 64)) := (hf9 25 (by decide) (by decide)).trans f_25
      have f_24 := fT0_
      have hof : ∀ j, j < 24 ∨ (26 ≤ j ∧ j ≤ 28) → rg j = rg0 j := fun j hj => (hf9 j (hq12_1 hj) (hq12_6 hj)).trans (hof j hj)
      refine lv_aload_n hx hb dX5_arc_69 rfl (lv_at hl 0 rfl) ?_
      refine lv_bipush (v := nI 25) hx hb dX5_arc_70 (by decide) ?_
      refine lv_iconst (v := nI 2) hx hb dX5_arc_72 (by decide) ?_
      refine bd_cv (As := [.int (nI 25), .int (nI 2)]) (rest := []) C (v5_coarse _ _ _ _ _ hv 25 (nI 2) (by decide) (by decide) (by rw [f_25]; exact (Nat.le_trans hg2 (by decide +kernel)))) (cwV 2 hts gX5_arc_X5_coarse rfl rfl rfl (by decide +kernel) ⟨Nat.le_of_ble_eq_true rfl, Nat.le_of_ble_eq_true rfl⟩) hsz hw (mv_recv C hw hv) dX5_arc_73 rfl hl.1 rfl (Nat.le_of_ble_eq_true rfl) ⟨Nat.le_refl _, Nat.le_refl _⟩ (fun E z H locs hp hw => ?_)
      obtain ⟨rg, hv, hv0_, hf9⟩ := hp
      have fT0_ : rg 25 = (dk_ch (sp_AT (P + 64) ((mu im + ra im) * dk_p 64))) := hv0_.trans (by rw [f_25]; rfl)
      have f_im : rg im = mu im := (hf9 im (by omega) (by omega)).trans f_im
      have f_12im : rg (12 + im) = ra im := (hf9 (12 + im) (by omega) (by omega)).trans f_12im
      have f_26 : rg 26 = (sp_PI (P + 64)) := (hf9 26 (by decide) (by decide)).trans f_26
      have f_27 : rg 27 = dk_p (P + 64) := (hf9 27 (by decide) (by decide)).trans f_27
      have f_24 : rg 24 = (dk_cl (sp_AT (P + 64) ((mu im - ra im) * dk_p 64))) := (hf9 24 (by decide) (by decide)).trans f_24
      have f_25 := fT0_
      have hof : ∀ j, j < 24 ∨ (26 ≤ j ∧ j ≤ 28) → rg j = rg0 j := fun j hj => (hf9 j (hq12_2 hj) (hq12_6 hj)).trans (hof j hj)
      refine lv_aload_n hx hb dX5_arc_76 rfl (lv_at hl 0 rfl) ?_
      refine lv_iload_n hx hb dX5_arc_77 rfl (lv_at hl 1 rfl) ?_
      refine lv_bipush (v := nI 24) hx hb dX5_arc_78 (by decide) ?_
      refine lv_bipush (v := nI 25) hx hb dX5_arc_80 (by decide) ?_
      refine bd_ci (As := [.int (nI kn), .int (nI 24), .int (nI 25)]) (rest := []) C (v5_keepEnds _ _ _ _ _ hv (md_ivm hiv hof) kn 24 25 hkn (by decide) (by decide) (by rw [f_24]; exact clb hg1) (by rw [f_25]; exact chb hg2)) (cwV 3 hts gX5_arc_X5_keepEnds rfl rfl rfl (by decide +kernel) ⟨Nat.le_of_ble_eq_true rfl, Nat.le_of_ble_eq_true rfl⟩) hsz hw (mv_recv C hw hv) dX5_arc_82 rfl hl.1 rfl (Nat.le_of_ble_eq_true rfl) ⟨Nat.le_refl _, Nat.le_refl _⟩ (fun r9 E9 z H locs hp hw => ?_)
      rw [f_24, f_25] at hp
      exact bd_iret C hr hlk hw dX5_arc_85 (by rw [hd]; exact hp)
    · have hno := pl_f hc16
      refine lv_iconst (v := (-1)) hx hb dX5_arc_19 (by decide) ?_
      have hd9 : dk_arc P (nI kn) i mu ra = (-1, mu, ra) := if_neg (fun q => hno q.2)
      exact bd_iret C hr hlk hw dX5_arc_20 (by rw [hd9]; exact ⟨rfl, _, _, hv, md_ivm hiv hof⟩)
set_option maxHeartbeats 4000000 in
set_option maxRecDepth 100000 in
/-- sine -/
theorem v5_sine (l : Launch) (K : Cxt) (E0 : Nat → va_E) (z0 : Nat → Wh) (sz : Nat) {mo : Nat → Nat} {th : Int32} {P : Nat} {rg0 : Nat → Int} (hv : md_v K E0 mo th P rg0) {mu ra : Nat → Int} (hiv : md_iv P rg0 mu ra) (k i : Int32) (cn : Nat) (co : Bool) (hco : (cn = 1 ∧ co = true) ∨ (cn = 0 ∧ co = false))  : Met l yX5_sine wsX5_sine ({ frames := 8, cells := 0, slots := 0, locals := 280 }) (va_Pc [.ref (mo 0), .int k, .int i, .int (nI cn)] (bd_P K E0 z0 sz)) (va_Qi (md_post K mo P (dk_sine P k i co mu ra)) (bd_B K) (bd_A K sz)) 0 0 (bd_A K sz) := by
  refine bd_ofW (cc := cX5_sine) (maxL := 4) (ret := (some .int)) (by decide) rfl (Nat.le_of_ble_eq_true rfl) ?_
  intro p e s m below meth c ls C hr hlk hsz hw hl
  have hx := C.1
  have hb := C.2.1
  have hown := C.2.2.2.1
  have hts := C.2.2.2.2.1
  have i5 : ∀ w ∈ wsX50, w ∈ wsX5_sine := by decide +kernel
  have lk48 : Cond.fieldLink RX5 48 "BallDeskModel" "thrown" "I" ∈ wsX5_sine := by decide +kernel
  have lk23 : Cond.fieldLink RX5 23 "BallDeskModel" "places" "I" ∈ wsX5_sine := by decide +kernel
  have hl : lv_has ls 4 [(0, .ref (mo 0)), (1, .int k), (2, .int i), (3, .int (nI cn))] := hl
  obtain ⟨hP1, hP2⟩ := mv_P hv
  have hp192 : (2 : Nat) ^ P ≤ 2 ^ 192 := Nat.pow_le_pow_right (by decide) hP2
  have hP816 : P < 816 := by omega
  have hP64 : P + 64 < 816 := by omega
  have hP128 : 2 * (P + 64) < 816 := by omega
  have hof : ∀ j, j < 24 ∨ (26 ≤ j ∧ j ≤ 28) → rg0 j = rg0 j := fun _ _ => rfl
  refine lv_aload_n hx hb dX5_sine_0 rfl (lv_at hl 0 rfl) ?_
  refine lv_iconst (v := nI 0) hx hb dX5_sine_1 (by decide) ?_
  refine mv_pt C i5 hw hv dX5_sine_2 lk48 (fun E H locs hv hw => ?_)
  refine lv_iload_n hx hb dX5_sine_5 rfl (lv_at hl 1 rfl) ?_
  refine bd_sip (As := [.int k]) (rest := []) C (c5_isPlace _ _ _ _ _ k) (va_cwS 1 hts gX5_sine_X5_isPlace rfl rfl rfl (by decide +kernel) ⟨Nat.le_of_ble_eq_true rfl, Nat.le_of_ble_eq_true rfl⟩) hsz hw dX5_sine_6 rfl hl.1 rfl (Nat.le_of_ble_eq_true rfl) ⟨Nat.le_refl _, Nat.le_refl _⟩ (fun H locs hw => ?_)
  refine lv_if_eq (tgt := 19) hx hb dX5_sine_9 (by decide) (fun hc9 => ?_) (fun hc9 => ?_)
  · have hno := pl_f hc9
    refine lv_iconst (v := (-1)) hx hb dX5_sine_19 (by decide) ?_
    have hd9 : dk_sine P k i co mu ra = (-1, mu, ra) := if_neg (fun q => hno q.1.1)
    exact bd_iret C hr hlk hw dX5_sine_20 (by rw [hd9]; exact ⟨rfl, _, _, hv, md_ivm hiv hof⟩)
  · have hpl_kn := pl_t hc9
    obtain ⟨kn, hkn, hk_kn, hx_kn⟩ := pl_x hpl_kn
    subst hk_kn
    refine lv_iload_n hx hb dX5_sine_12 rfl (lv_at hl 2 rfl) ?_
    refine bd_sip (As := [.int i]) (rest := []) C (c5_isPlace _ _ _ _ _ i) (va_cwS 1 hts gX5_sine_X5_isPlace rfl rfl rfl (by decide +kernel) ⟨Nat.le_of_ble_eq_true rfl, Nat.le_of_ble_eq_true rfl⟩) hsz hw dX5_sine_13 rfl hl.1 rfl (Nat.le_of_ble_eq_true rfl) ⟨Nat.le_refl _, Nat.le_refl _⟩ (fun H locs hw => ?_)
    refine lv_if_ne (tgt := 21) hx hb dX5_sine_16 (by decide) (fun hc16 => ?_) (fun hc16 => ?_)
    · have hpl_im := pl_t hc16
      obtain ⟨im, him, hk_im, hx_im⟩ := pl_x hpl_im
      subst hk_im
      obtain ⟨hbm_im, hb0_im, hbr_im⟩ := md_b hP2 hiv him
      have f_im : rg0 im = mu im := (hof im (by omega)).trans (hiv.2.2.2 im him).1
      have f_12im : rg0 (12 + im) = ra im := (hof (12 + im) (by omega)).trans (hiv.2.2.2 im him).2.1
      change hid _ at hbm_im hbr_im
      refine lv_aload_n hx hb dX5_sine_21 rfl (lv_at hl 0 rfl) ?_
      refine lv_bipush (v := nI 29) hx hb dX5_sine_22 (by decide) ?_
      refine lv_aload_n hx hb dX5_sine_24 rfl (lv_at hl 0 rfl) ?_
      refine mv_g C i5 hw hv 1 (by decide) (v := .int (nI P)) rfl dX5_sine_25 lk23 ?_
      refine lv_bipush (v := nI 20) hx hb dX5_sine_28 (by decide) ?_
      refine bd_iadd (v := (nI (P + 20))) hx hb dX5_sine_30 (nI_add _ _) ?_
      refine bd_cv (As := [.int (nI 29), .int (nI (P + 20))]) (rest := []) C (v5_power _ _ _ _ _ hv 29 (P + 20) (by decide) (by omega)) (cwV 2 hts gX5_sine_X5_power rfl rfl rfl (by decide +kernel) ⟨Nat.le_of_ble_eq_true rfl, Nat.le_of_ble_eq_true rfl⟩) hsz hw (mv_recv C hw hv) dX5_sine_31 rfl hl.1 rfl (Nat.le_of_ble_eq_true rfl) ⟨Nat.le_refl _, Nat.le_refl _⟩ (fun E z H locs hp hw => ?_)
      obtain ⟨rg, hv, hv0_, hf9⟩ := hp
      have fT0_ : rg 29 = ((2 ^ (P + 20) : Nat) : Int) := hv0_.trans (by rfl)
      have f_im : rg im = mu im := (hf9 im (by omega)).trans f_im
      have f_12im : rg (12 + im) = ra im := (hf9 (12 + im) (by omega)).trans f_12im
      have f_29 := fT0_
      have hof : ∀ j, j < 24 ∨ (26 ≤ j ∧ j ≤ 28) → rg j = rg0 j := fun j hj => (hf9 j (hq12_7 hj)).trans (hof j hj)
      refine lv_aload_n hx hb dX5_sine_34 rfl (lv_at hl 0 rfl) ?_
      refine lv_iload_n hx hb dX5_sine_35 rfl (lv_at hl 2 rfl) ?_
      refine lv_bipush (v := nI 29) hx hb dX5_sine_36 (by decide) ?_
      refine bd_cip (As := [.int (nI im), .int (nI 29)]) (rest := []) C (v5_sizes _ _ _ _ _ hv im 29 (by omega) (by omega)) (cwV 2 hts gX5_sine_X5_sizes rfl rfl rfl (by decide +kernel) ⟨Nat.le_of_ble_eq_true rfl, Nat.le_of_ble_eq_true rfl⟩) hsz hw (mv_recv C hw hv) dX5_sine_38 rfl hl.1 rfl (Nat.le_of_ble_eq_true rfl) ⟨Nat.le_refl _, Nat.le_refl _⟩ (fun H locs hw => ?_)
      rw [f_im, f_29]
      refine lv_if_le (tgt := 46) hx hb dX5_sine_41 (by decide) (fun hc41 => ?_) (fun hc41 => ?_)
      · have hle : (mu im).natAbs ≤ 2 ^ (P + 20) := by have := q_c3_le hc41; rw [Int.natAbs_natCast] at this; exact this
        obtain ⟨hsa, hsb, hsc, hsd⟩ := si_b hP1 hP2 hle
        change hid _ at hle hsa hsb hsc hsd
        have f_26 : rg 26 = (sp_PI (P + 64)) := (hof 26 (by omega)).trans hiv.1
        refine lv_aload_n hx hb dX5_sine_46 rfl (lv_at hl 0 rfl) ?_
        refine lv_bipush (v := nI 24) hx hb dX5_sine_47 (by decide) ?_
        refine lv_iload_n hx hb dX5_sine_49 rfl (lv_at hl 2 rfl) ?_
        refine lv_bipush (v := nI 64) hx hb dX5_sine_50 (by decide) ?_
        refine bd_cv (As := [.int (nI 24), .int (nI im), .int (nI 64)]) (rest := []) C (v5_up _ _ _ _ _ hv 24 im 64 (by decide) (by omega) (by decide) (by rw [f_im]; exact (b34 (Nat.le_trans (Nat.mul_le_mul_right _ hbm_im) (by decide +kernel))))) (cwV 3 hts gX5_sine_X5_up rfl rfl rfl (by decide +kernel) ⟨Nat.le_of_ble_eq_true rfl, Nat.le_of_ble_eq_true rfl⟩) hsz hw (mv_recv C hw hv) dX5_sine_52 rfl hl.1 rfl (Nat.le_of_ble_eq_true rfl) ⟨Nat.le_refl _, Nat.le_refl _⟩ (fun E z H locs hp hw => ?_)
        obtain ⟨rg, hv, hv0_, hf9⟩ := hp
        have fT0_ : rg 24 = (mu im * dk_p 64) := hv0_.trans (by rw [f_im])
        have f_im : rg im = mu im := (hf9 im (by omega)).trans f_im
        have f_12im : rg (12 + im) = ra im := (hf9 (12 + im) (by omega)).trans f_12im
        have f_29 : rg 29 = ((2 ^ (P + 20) : Nat) : Int) := (hf9 29 (by decide)).trans f_29
        have f_26 : rg 26 = (sp_PI (P + 64)) := (hf9 26 (by decide)).trans f_26
        have f_24 := fT0_
        have hof : ∀ j, j < 24 ∨ (26 ≤ j ∧ j ≤ 28) → rg j = rg0 j := fun j hj => (hf9 j (hq12_1 hj)).trans (hof j hj)
        refine lv_iload_n hx hb dX5_sine_55 rfl (lv_at hl 3 rfl) ?_
        refine bd_zeq (h1 := (by rcases hco with ⟨q1, q2⟩ | ⟨q1, q2⟩ <;> omega)) (tgt := 78) hx hb dX5_sine_56 (by decide) (fun hc56 => ?_) (fun hc56 => ?_)
        · refine lv_aload_n hx hb dX5_sine_78 rfl (lv_at hl 0 rfl) ?_
          refine lv_bipush (v := nI 33) hx hb dX5_sine_79 (by decide) ?_
          refine lv_bipush (v := nI 24) hx hb dX5_sine_81 (by decide) ?_
          have hg1 := sp_SINb (Q := P + 64) (by omega) (by omega) hsa
          change hid _ at hg1
          have hd : dk_sine P (nI kn) (nI im) co mu ra = dk_keep P kn (sp_SIN (P + 64) (mu im * dk_p 64) / dk_p 64) (ra im + 2) mu ra := by
            have hco2 : co = false := by rcases hco with ⟨q1, q2⟩ | ⟨q1, q2⟩ <;> first | exact q2 | (exfalso; omega)
            unfold dk_sine
            rw [if_pos ⟨⟨hpl_kn, hpl_im⟩, by rw [hx_im]; exact hle⟩, hx_kn, hx_im, hco2]
            rfl
          refine bd_cv (As := [.int (nI 33), .int (nI 24)]) (rest := []) C (v5_fineSine _ _ _ _ _ hv 33 24 (by decide) (by decide) f_26 (by rw [f_24]; exact hsa)) (cwV 2 hts gX5_sine_X5_fineSine rfl rfl rfl (by decide +kernel) ⟨Nat.le_of_ble_eq_true rfl, Nat.le_of_ble_eq_true rfl⟩) hsz hw (mv_recv C hw hv) dX5_sine_83 rfl hl.1 rfl (Nat.le_of_ble_eq_true rfl) ⟨Nat.le_refl _, Nat.le_refl _⟩ (fun E z H locs hp hw => ?_)
          obtain ⟨rg, hv, hv0_, hf9⟩ := hp
          have fT0_ : rg 33 = (sp_SIN (P + 64) (mu im * dk_p 64)) := hv0_.trans (by rw [f_24])
          have f_im : rg im = mu im := (hf9 im (by omega)).trans f_im
          have f_12im : rg (12 + im) = ra im := (hf9 (12 + im) (by omega)).trans f_12im
          have f_29 : rg 29 = ((2 ^ (P + 20) : Nat) : Int) := (hf9 29 (by decide)).trans f_29
          have f_26 : rg 26 = (sp_PI (P + 64)) := (hf9 26 (by decide)).trans f_26
          have f_24 : rg 24 = (mu im * dk_p 64) := (hf9 24 (by decide)).trans f_24
          have f_33 := fT0_
          have hof : ∀ j, j < 24 ∨ (26 ≤ j ∧ j ≤ 28) → rg j = rg0 j := fun j hj => (hf9 j (hq12_14 hj)).trans (hof j hj)
          refine lv_aload_n hx hb dX5_sine_86 rfl (lv_at hl 0 rfl) ?_
          refine lv_bipush (v := nI 33) hx hb dX5_sine_87 (by decide) ?_
          refine lv_bipush (v := nI 33) hx hb dX5_sine_89 (by decide) ?_
          refine lv_bipush (v := nI 64) hx hb dX5_sine_91 (by decide) ?_
          refine bd_cv (As := [.int (nI 33), .int (nI 33), .int (nI 64)]) (rest := []) C (v5_down _ _ _ _ _ hv 33 33 64 (by decide) (by decide) (by decide) (by decide)) (cwV 3 hts gX5_sine_X5_down rfl rfl rfl (by decide +kernel) ⟨Nat.le_of_ble_eq_true rfl, Nat.le_of_ble_eq_true rfl⟩) hsz hw (mv_recv C hw hv) dX5_sine_93 rfl hl.1 rfl (Nat.le_of_ble_eq_true rfl) ⟨Nat.le_refl _, Nat.le_refl _⟩ (fun E z H locs hp hw => ?_)
          obtain ⟨rg, hv, hv0_, hf9⟩ := hp
          have fT0_ : rg 33 = (sp_SIN (P + 64) (mu im * dk_p 64) / dk_p 64) := hv0_.trans (by rw [f_33])
          have f_im : rg im = mu im := (hf9 im (by omega) (by omega)).trans f_im
          have f_12im : rg (12 + im) = ra im := (hf9 (12 + im) (by omega) (by omega)).trans f_12im
          have f_29 : rg 29 = ((2 ^ (P + 20) : Nat) : Int) := (hf9 29 (by decide) (by decide)).trans f_29
          have f_26 : rg 26 = (sp_PI (P + 64)) := (hf9 26 (by decide) (by decide)).trans f_26
          have f_24 : rg 24 = (mu im * dk_p 64) := (hf9 24 (by decide) (by decide)).trans f_24
          have f_33 := fT0_
          have hof : ∀ j, j < 24 ∨ (26 ≤ j ∧ j ≤ 28) → rg j = rg0 j := fun j hj => (hf9 j (hq12_15 hj) (hq12_6 hj)).trans (hof j hj)
          refine lv_aload_n hx hb dX5_sine_96 rfl (lv_at hl 0 rfl) ?_
          refine lv_bipush (v := nI 34) hx hb dX5_sine_97 (by decide) ?_
          refine lv_bipush (v := nI 12) hx hb dX5_sine_99 (by decide) ?_
          refine lv_iload_n hx hb dX5_sine_101 rfl (lv_at hl 2 rfl) ?_
          refine bd_iadd (v := nI (12 + im)) hx hb dX5_sine_102 (nI_add _ _) ?_
          refine bd_cv (As := [.int (nI 34), .int (nI (12 + im))]) (rest := []) C (v5_copy _ _ _ _ _ hv 34 (12 + im) (by decide) (by omega)) (cwV 2 hts gX5_sine_X5_copy rfl rfl rfl (by decide +kernel) ⟨Nat.le_of_ble_eq_true rfl, Nat.le_of_ble_eq_true rfl⟩) hsz hw (mv_recv C hw hv) dX5_sine_103 rfl hl.1 rfl (Nat.le_of_ble_eq_true rfl) ⟨Nat.le_refl _, Nat.le_refl _⟩ (fun E z H locs hp hw => ?_)
          obtain ⟨rg, hv, hv0_, hf9⟩ := hp
          have fT0_ : rg 34 = ra im := hv0_.trans (by rw [f_12im])
          have f_im : rg im = mu im := (hf9 im (by omega)).trans f_im
          have f_12im : rg (12 + im) = ra im := (hf9 (12 + im) (by omega)).trans f_12im
          have f_29 : rg 29 = ((2 ^ (P + 20) : Nat) : Int) := (hf9 29 (by decide)).trans f_29
          have f_26 : rg 26 = (sp_PI (P + 64)) := (hf9 26 (by decide)).trans f_26
          have f_24 : rg 24 = (mu im * dk_p 64) := (hf9 24 (by decide)).trans f_24
          have f_33 : rg 33 = (sp_SIN (P + 64) (mu im * dk_p 64) / dk_p 64) := (hf9 33 (by decide)).trans f_33
          have f_34 := fT0_
          have hof : ∀ j, j < 24 ∨ (26 ≤ j ∧ j ≤ 28) → rg j = rg0 j := fun j hj => (hf9 j (hq12_16 hj)).trans (hof j hj)
          refine lv_aload_n hx hb dX5_sine_106 rfl (lv_at hl 0 rfl) ?_
          refine lv_bipush (v := nI 34) hx hb dX5_sine_107 (by decide) ?_
          refine lv_iconst (v := nI 2) hx hb dX5_sine_109 (by decide) ?_
          refine bd_cv (As := [.int (nI 34), .int (nI 2)]) (rest := []) C (v5_addSmall _ _ _ _ _ hv 34 (nI 2) (by decide) (by decide) (by rw [f_34]; exact (b34 (Nat.le_trans (add_b hbr_im (show (nI 2).toInt.natAbs ≤ 2 by decide)) (by decide +kernel))))) (cwV 2 hts gX5_sine_X5_addSmall rfl rfl rfl (by decide +kernel) ⟨Nat.le_of_ble_eq_true rfl, Nat.le_of_ble_eq_true rfl⟩) hsz hw (mv_recv C hw hv) dX5_sine_110 rfl hl.1 rfl (Nat.le_of_ble_eq_true rfl) ⟨Nat.le_refl _, Nat.le_refl _⟩ (fun E z H locs hp hw => ?_)
          obtain ⟨rg, hv, hv0_, hf9⟩ := hp
          have fT0_ : rg 34 = (ra im + 2) := hv0_.trans (by rw [f_34]; rfl)
          have f_im : rg im = mu im := (hf9 im (by omega) (by omega)).trans f_im
          have f_12im : rg (12 + im) = ra im := (hf9 (12 + im) (by omega) (by omega)).trans f_12im
          have f_29 : rg 29 = ((2 ^ (P + 20) : Nat) : Int) := (hf9 29 (by decide) (by decide)).trans f_29
          have f_26 : rg 26 = (sp_PI (P + 64)) := (hf9 26 (by decide) (by decide)).trans f_26
          have f_24 : rg 24 = (mu im * dk_p 64) := (hf9 24 (by decide) (by decide)).trans f_24
          have f_33 : rg 33 = (sp_SIN (P + 64) (mu im * dk_p 64) / dk_p 64) := (hf9 33 (by decide) (by decide)).trans f_33
          have f_34 := fT0_
          have hof : ∀ j, j < 24 ∨ (26 ≤ j ∧ j ≤ 28) → rg j = rg0 j := fun j hj => (hf9 j (hq12_16 hj) (hq12_6 hj)).trans (hof j hj)
          refine lv_aload_n hx hb dX5_sine_113 rfl (lv_at hl 0 rfl) ?_
          refine lv_iload_n hx hb dX5_sine_114 rfl (lv_at hl 1 rfl) ?_
          refine bd_ci (As := [.int (nI kn)]) (rest := []) C (v5_keep _ _ _ _ _ hv (md_ivm hiv hof) kn hkn) (cwV 1 hts gX5_sine_X5_keep rfl rfl rfl (by decide +kernel) ⟨Nat.le_of_ble_eq_true rfl, Nat.le_of_ble_eq_true rfl⟩) hsz hw (mv_recv C hw hv) dX5_sine_115 rfl hl.1 rfl (Nat.le_of_ble_eq_true rfl) ⟨Nat.le_refl _, Nat.le_refl _⟩ (fun r9 E9 z H locs hp hw => ?_)
          rw [f_33, f_34] at hp
          exact bd_iret C hr hlk hw dX5_sine_118 (by rw [hd]; exact hp)
        · refine lv_aload_n hx hb dX5_sine_59 rfl (lv_at hl 0 rfl) ?_
          refine lv_bipush (v := nI 25) hx hb dX5_sine_60 (by decide) ?_
          refine lv_bipush (v := nI 26) hx hb dX5_sine_62 (by decide) ?_
          refine lv_iconst (v := nI 1) hx hb dX5_sine_64 (by decide) ?_
          refine bd_cv (As := [.int (nI 25), .int (nI 26), .int (nI 1)]) (rest := []) C (v5_down _ _ _ _ _ hv 25 26 1 (by decide) (by decide) (by decide) (by decide)) (cwV 3 hts gX5_sine_X5_down rfl rfl rfl (by decide +kernel) ⟨Nat.le_of_ble_eq_true rfl, Nat.le_of_ble_eq_true rfl⟩) hsz hw (mv_recv C hw hv) dX5_sine_65 rfl hl.1 rfl (Nat.le_of_ble_eq_true rfl) ⟨Nat.le_refl _, Nat.le_refl _⟩ (fun E z H locs hp hw => ?_)
          obtain ⟨rg, hv, hv0_, hf9⟩ := hp
          have fT0_ : rg 25 = (sp_PI (P + 64) / dk_p 1) := hv0_.trans (by rw [f_26])
          have f_im : rg im = mu im := (hf9 im (by omega) (by omega)).trans f_im
          have f_12im : rg (12 + im) = ra im := (hf9 (12 + im) (by omega) (by omega)).trans f_12im
          have f_29 : rg 29 = ((2 ^ (P + 20) : Nat) : Int) := (hf9 29 (by decide) (by decide)).trans f_29
          have f_26 : rg 26 = (sp_PI (P + 64)) := (hf9 26 (by decide) (by decide)).trans f_26
          have f_24 : rg 24 = (mu im * dk_p 64) := (hf9 24 (by decide) (by decide)).trans f_24
          have f_25 := fT0_
          have hof : ∀ j, j < 24 ∨ (26 ≤ j ∧ j ≤ 28) → rg j = rg0 j := fun j hj => (hf9 j (hq12_2 hj) (hq12_6 hj)).trans (hof j hj)
          refine lv_aload_n hx hb dX5_sine_68 rfl (lv_at hl 0 rfl) ?_
          refine lv_bipush (v := nI 24) hx hb dX5_sine_69 (by decide) ?_
          refine lv_bipush (v := nI 24) hx hb dX5_sine_71 (by decide) ?_
          refine lv_bipush (v := nI 25) hx hb dX5_sine_73 (by decide) ?_
          refine bd_cv (As := [.int (nI 24), .int (nI 24), .int (nI 25)]) (rest := []) C (v5_plus _ _ _ _ _ hv 24 24 25 (by decide) (by decide) (by decide) (by rw [f_24, f_25]; exact (b34 (Nat.le_trans (add_b (Nat.le_trans hsa (Nat.le_refl _)) hsd) (by decide +kernel))))) (cwV 3 hts gX5_sine_X5_plus rfl rfl rfl (by decide +kernel) ⟨Nat.le_of_ble_eq_true rfl, Nat.le_of_ble_eq_true rfl⟩) hsz hw (mv_recv C hw hv) dX5_sine_75 rfl hl.1 rfl (Nat.le_of_ble_eq_true rfl) ⟨Nat.le_refl _, Nat.le_refl _⟩ (fun E z H locs hp hw => ?_)
          obtain ⟨rg, hv, hv0_, hf9⟩ := hp
          have fT0_ : rg 24 = (mu im * dk_p 64 + (sp_PI (P + 64) / dk_p 1)) := hv0_.trans (by rw [f_24, f_25])
          have f_im : rg im = mu im := (hf9 im (by omega)).trans f_im
          have f_12im : rg (12 + im) = ra im := (hf9 (12 + im) (by omega)).trans f_12im
          have f_29 : rg 29 = ((2 ^ (P + 20) : Nat) : Int) := (hf9 29 (by decide)).trans f_29
          have f_26 : rg 26 = (sp_PI (P + 64)) := (hf9 26 (by decide)).trans f_26
          have f_25 : rg 25 = (sp_PI (P + 64) / dk_p 1) := (hf9 25 (by decide)).trans f_25
          have f_24 := fT0_
          have hof : ∀ j, j < 24 ∨ (26 ≤ j ∧ j ≤ 28) → rg j = rg0 j := fun j hj => (hf9 j (hq12_1 hj)).trans (hof j hj)
          refine lv_aload_n hx hb dX5_sine_78 rfl (lv_at hl 0 rfl) ?_
          refine lv_bipush (v := nI 33) hx hb dX5_sine_79 (by decide) ?_
          refine lv_bipush (v := nI 24) hx hb dX5_sine_81 (by decide) ?_
          have hg1 := sp_SINb (Q := P + 64) (by omega) (by omega) hsb
          change hid _ at hg1
          have hd : dk_sine P (nI kn) (nI im) co mu ra = dk_keep P kn (sp_SIN (P + 64) (mu im * dk_p 64 + (sp_PI (P + 64) / dk_p 1)) / dk_p 64) (ra im + 2) mu ra := by
            have hco2 : co = true := by rcases hco with ⟨q1, q2⟩ | ⟨q1, q2⟩ <;> first | exact q2 | (exfalso; omega)
            unfold dk_sine
            rw [if_pos ⟨⟨hpl_kn, hpl_im⟩, by rw [hx_im]; exact hle⟩, hx_kn, hx_im, hco2]
            rfl
          refine bd_cv (As := [.int (nI 33), .int (nI 24)]) (rest := []) C (v5_fineSine _ _ _ _ _ hv 33 24 (by decide) (by decide) f_26 (by rw [f_24]; exact hsb)) (cwV 2 hts gX5_sine_X5_fineSine rfl rfl rfl (by decide +kernel) ⟨Nat.le_of_ble_eq_true rfl, Nat.le_of_ble_eq_true rfl⟩) hsz hw (mv_recv C hw hv) dX5_sine_83 rfl hl.1 rfl (Nat.le_of_ble_eq_true rfl) ⟨Nat.le_refl _, Nat.le_refl _⟩ (fun E z H locs hp hw => ?_)
          obtain ⟨rg, hv, hv0_, hf9⟩ := hp
          have fT0_ : rg 33 = (sp_SIN (P + 64) (mu im * dk_p 64 + (sp_PI (P + 64) / dk_p 1))) := hv0_.trans (by rw [f_24])
          have f_im : rg im = mu im := (hf9 im (by omega)).trans f_im
          have f_12im : rg (12 + im) = ra im := (hf9 (12 + im) (by omega)).trans f_12im
          have f_29 : rg 29 = ((2 ^ (P + 20) : Nat) : Int) := (hf9 29 (by decide)).trans f_29
          have f_26 : rg 26 = (sp_PI (P + 64)) := (hf9 26 (by decide)).trans f_26
          have f_25 : rg 25 = (sp_PI (P + 64) / dk_p 1) := (hf9 25 (by decide)).trans f_25
          have f_24 : rg 24 = (mu im * dk_p 64 + (sp_PI (P + 64) / dk_p 1)) := (hf9 24 (by decide)).trans f_24
          have f_33 := fT0_
          have hof : ∀ j, j < 24 ∨ (26 ≤ j ∧ j ≤ 28) → rg j = rg0 j := fun j hj => (hf9 j (hq12_14 hj)).trans (hof j hj)
          refine lv_aload_n hx hb dX5_sine_86 rfl (lv_at hl 0 rfl) ?_
          refine lv_bipush (v := nI 33) hx hb dX5_sine_87 (by decide) ?_
          refine lv_bipush (v := nI 33) hx hb dX5_sine_89 (by decide) ?_
          refine lv_bipush (v := nI 64) hx hb dX5_sine_91 (by decide) ?_
          refine bd_cv (As := [.int (nI 33), .int (nI 33), .int (nI 64)]) (rest := []) C (v5_down _ _ _ _ _ hv 33 33 64 (by decide) (by decide) (by decide) (by decide)) (cwV 3 hts gX5_sine_X5_down rfl rfl rfl (by decide +kernel) ⟨Nat.le_of_ble_eq_true rfl, Nat.le_of_ble_eq_true rfl⟩) hsz hw (mv_recv C hw hv) dX5_sine_93 rfl hl.1 rfl (Nat.le_of_ble_eq_true rfl) ⟨Nat.le_refl _, Nat.le_refl _⟩ (fun E z H locs hp hw => ?_)
          obtain ⟨rg, hv, hv0_, hf9⟩ := hp
          have fT0_ : rg 33 = (sp_SIN (P + 64) (mu im * dk_p 64 + (sp_PI (P + 64) / dk_p 1)) / dk_p 64) := hv0_.trans (by rw [f_33])
          have f_im : rg im = mu im := (hf9 im (by omega) (by omega)).trans f_im
          have f_12im : rg (12 + im) = ra im := (hf9 (12 + im) (by omega) (by omega)).trans f_12im
          have f_29 : rg 29 = ((2 ^ (P + 20) : Nat) : Int) := (hf9 29 (by decide) (by decide)).trans f_29
          have f_26 : rg 26 = (sp_PI (P + 64)) := (hf9 26 (by decide) (by decide)).trans f_26
          have f_25 : rg 25 = (sp_PI (P + 64) / dk_p 1) := (hf9 25 (by decide) (by decide)).trans f_25
          have f_24 : rg 24 = (mu im * dk_p 64 + (sp_PI (P + 64) / dk_p 1)) := (hf9 24 (by decide) (by decide)).trans f_24
          have f_33 := fT0_
          have hof : ∀ j, j < 24 ∨ (26 ≤ j ∧ j ≤ 28) → rg j = rg0 j := fun j hj => (hf9 j (hq12_15 hj) (hq12_6 hj)).trans (hof j hj)
          refine lv_aload_n hx hb dX5_sine_96 rfl (lv_at hl 0 rfl) ?_
          refine lv_bipush (v := nI 34) hx hb dX5_sine_97 (by decide) ?_
          refine lv_bipush (v := nI 12) hx hb dX5_sine_99 (by decide) ?_
          refine lv_iload_n hx hb dX5_sine_101 rfl (lv_at hl 2 rfl) ?_
          refine bd_iadd (v := nI (12 + im)) hx hb dX5_sine_102 (nI_add _ _) ?_
          refine bd_cv (As := [.int (nI 34), .int (nI (12 + im))]) (rest := []) C (v5_copy _ _ _ _ _ hv 34 (12 + im) (by decide) (by omega)) (cwV 2 hts gX5_sine_X5_copy rfl rfl rfl (by decide +kernel) ⟨Nat.le_of_ble_eq_true rfl, Nat.le_of_ble_eq_true rfl⟩) hsz hw (mv_recv C hw hv) dX5_sine_103 rfl hl.1 rfl (Nat.le_of_ble_eq_true rfl) ⟨Nat.le_refl _, Nat.le_refl _⟩ (fun E z H locs hp hw => ?_)
          obtain ⟨rg, hv, hv0_, hf9⟩ := hp
          have fT0_ : rg 34 = ra im := hv0_.trans (by rw [f_12im])
          have f_im : rg im = mu im := (hf9 im (by omega)).trans f_im
          have f_12im : rg (12 + im) = ra im := (hf9 (12 + im) (by omega)).trans f_12im
          have f_29 : rg 29 = ((2 ^ (P + 20) : Nat) : Int) := (hf9 29 (by decide)).trans f_29
          have f_26 : rg 26 = (sp_PI (P + 64)) := (hf9 26 (by decide)).trans f_26
          have f_25 : rg 25 = (sp_PI (P + 64) / dk_p 1) := (hf9 25 (by decide)).trans f_25
          have f_24 : rg 24 = (mu im * dk_p 64 + (sp_PI (P + 64) / dk_p 1)) := (hf9 24 (by decide)).trans f_24
          have f_33 : rg 33 = (sp_SIN (P + 64) (mu im * dk_p 64 + (sp_PI (P + 64) / dk_p 1)) / dk_p 64) := (hf9 33 (by decide)).trans f_33
          have f_34 := fT0_
          have hof : ∀ j, j < 24 ∨ (26 ≤ j ∧ j ≤ 28) → rg j = rg0 j := fun j hj => (hf9 j (hq12_16 hj)).trans (hof j hj)
          refine lv_aload_n hx hb dX5_sine_106 rfl (lv_at hl 0 rfl) ?_
          refine lv_bipush (v := nI 34) hx hb dX5_sine_107 (by decide) ?_
          refine lv_iconst (v := nI 2) hx hb dX5_sine_109 (by decide) ?_
          refine bd_cv (As := [.int (nI 34), .int (nI 2)]) (rest := []) C (v5_addSmall _ _ _ _ _ hv 34 (nI 2) (by decide) (by decide) (by rw [f_34]; exact (b34 (Nat.le_trans (add_b hbr_im (show (nI 2).toInt.natAbs ≤ 2 by decide)) (by decide +kernel))))) (cwV 2 hts gX5_sine_X5_addSmall rfl rfl rfl (by decide +kernel) ⟨Nat.le_of_ble_eq_true rfl, Nat.le_of_ble_eq_true rfl⟩) hsz hw (mv_recv C hw hv) dX5_sine_110 rfl hl.1 rfl (Nat.le_of_ble_eq_true rfl) ⟨Nat.le_refl _, Nat.le_refl _⟩ (fun E z H locs hp hw => ?_)
          obtain ⟨rg, hv, hv0_, hf9⟩ := hp
          have fT0_ : rg 34 = (ra im + 2) := hv0_.trans (by rw [f_34]; rfl)
          have f_im : rg im = mu im := (hf9 im (by omega) (by omega)).trans f_im
          have f_12im : rg (12 + im) = ra im := (hf9 (12 + im) (by omega) (by omega)).trans f_12im
          have f_29 : rg 29 = ((2 ^ (P + 20) : Nat) : Int) := (hf9 29 (by decide) (by decide)).trans f_29
          have f_26 : rg 26 = (sp_PI (P + 64)) := (hf9 26 (by decide) (by decide)).trans f_26
          have f_25 : rg 25 = (sp_PI (P + 64) / dk_p 1) := (hf9 25 (by decide) (by decide)).trans f_25
          have f_24 : rg 24 = (mu im * dk_p 64 + (sp_PI (P + 64) / dk_p 1)) := (hf9 24 (by decide) (by decide)).trans f_24
          have f_33 : rg 33 = (sp_SIN (P + 64) (mu im * dk_p 64 + (sp_PI (P + 64) / dk_p 1)) / dk_p 64) := (hf9 33 (by decide) (by decide)).trans f_33
          have f_34 := fT0_
          have hof : ∀ j, j < 24 ∨ (26 ≤ j ∧ j ≤ 28) → rg j = rg0 j := fun j hj => (hf9 j (hq12_16 hj) (hq12_6 hj)).trans (hof j hj)
          refine lv_aload_n hx hb dX5_sine_113 rfl (lv_at hl 0 rfl) ?_
          refine lv_iload_n hx hb dX5_sine_114 rfl (lv_at hl 1 rfl) ?_
          refine bd_ci (As := [.int (nI kn)]) (rest := []) C (v5_keep _ _ _ _ _ hv (md_ivm hiv hof) kn hkn) (cwV 1 hts gX5_sine_X5_keep rfl rfl rfl (by decide +kernel) ⟨Nat.le_of_ble_eq_true rfl, Nat.le_of_ble_eq_true rfl⟩) hsz hw (mv_recv C hw hv) dX5_sine_115 rfl hl.1 rfl (Nat.le_of_ble_eq_true rfl) ⟨Nat.le_refl _, Nat.le_refl _⟩ (fun r9 E9 z H locs hp hw => ?_)
          rw [f_33, f_34] at hp
          exact bd_iret C hr hlk hw dX5_sine_118 (by rw [hd]; exact hp)
      · have hnle : ¬ (mu im).natAbs ≤ 2 ^ (P + 20) := by have := q_c3_nle hc41; rw [Int.natAbs_natCast] at this; omega
        refine lv_iconst (v := (-1)) hx hb dX5_sine_44 (by decide) ?_
        have hd9 : dk_sine P (nI kn) (nI im) co mu ra = (-1, mu, ra) := if_neg (fun q => hnle (by have h9 := q.2; rw [hx_im] at h9; exact h9))
        exact bd_iret C hr hlk hw dX5_sine_45 (by rw [hd9]; exact ⟨rfl, _, _, hv, md_ivm hiv hof⟩)
    · have hno := pl_f hc16
      refine lv_iconst (v := (-1)) hx hb dX5_sine_19 (by decide) ?_
      have hd9 : dk_sine P (nI kn) i co mu ra = (-1, mu, ra) := if_neg (fun q => hno q.1.2)
      exact bd_iret C hr hlk hw dX5_sine_20 (by rw [hd9]; exact ⟨rfl, _, _, hv, md_ivm hiv hof⟩)
set_option maxHeartbeats 4000000 in
set_option maxRecDepth 100000 in
/-- pi -/
theorem v5_pi (l : Launch) (K : Cxt) (E0 : Nat → va_E) (z0 : Nat → Wh) (sz : Nat) {mo : Nat → Nat} {th : Int32} {P : Nat} {rg0 : Nat → Int} (hv : md_v K E0 mo th P rg0) {mu ra : Nat → Int} (hiv : md_iv P rg0 mu ra) (k : Int32)  : Met l yX5_pi wsX5_pi ({ frames := 8, cells := 0, slots := 0, locals := 280 }) (va_Pc [.ref (mo 0), .int k] (bd_P K E0 z0 sz)) (va_Qi (md_post K mo P (dk_pi P k mu ra)) (bd_B K) (bd_A K sz)) 0 0 (bd_A K sz) := by
  refine bd_ofW (cc := cX5_pi) (maxL := 2) (ret := (some .int)) (by decide) rfl (Nat.le_of_ble_eq_true rfl) ?_
  intro p e s m below meth c ls C hr hlk hsz hw hl
  have hx := C.1
  have hb := C.2.1
  have hown := C.2.2.2.1
  have hts := C.2.2.2.2.1
  have i5 : ∀ w ∈ wsX50, w ∈ wsX5_pi := by decide +kernel
  have lk48 : Cond.fieldLink RX5 48 "BallDeskModel" "thrown" "I" ∈ wsX5_pi := by decide +kernel
  have lk152 : Cond.constantLong RX5 152 (2) ∈ wsX5_pi := by decide +kernel
  have hl : lv_has ls 2 [(0, .ref (mo 0)), (1, .int k)] := hl
  obtain ⟨hP1, hP2⟩ := mv_P hv
  have hp192 : (2 : Nat) ^ P ≤ 2 ^ 192 := Nat.pow_le_pow_right (by decide) hP2
  have hP816 : P < 816 := by omega
  have hP64 : P + 64 < 816 := by omega
  have hP128 : 2 * (P + 64) < 816 := by omega
  have hof : ∀ j, j < 24 ∨ (26 ≤ j ∧ j ≤ 28) → rg0 j = rg0 j := fun _ _ => rfl
  refine lv_aload_n hx hb dX5_pi_0 rfl (lv_at hl 0 rfl) ?_
  refine lv_iconst (v := nI 0) hx hb dX5_pi_1 (by decide) ?_
  refine mv_pt C i5 hw hv dX5_pi_2 lk48 (fun E H locs hv hw => ?_)
  refine lv_iload_n hx hb dX5_pi_5 rfl (lv_at hl 1 rfl) ?_
  refine bd_sip (As := [.int k]) (rest := []) C (c5_isPlace _ _ _ _ _ k) (va_cwS 1 hts gX5_pi_X5_isPlace rfl rfl rfl (by decide +kernel) ⟨Nat.le_of_ble_eq_true rfl, Nat.le_of_ble_eq_true rfl⟩) hsz hw dX5_pi_6 rfl hl.1 rfl (Nat.le_of_ble_eq_true rfl) ⟨Nat.le_refl _, Nat.le_refl _⟩ (fun H locs hw => ?_)
  refine lv_if_ne (tgt := 14) hx hb dX5_pi_9 (by decide) (fun hc9 => ?_) (fun hc9 => ?_)
  · have hpl_kn := pl_t hc9
    obtain ⟨kn, hkn, hk_kn, hx_kn⟩ := pl_x hpl_kn
    subst hk_kn
    have hd : dk_pi P (nI kn) mu ra = dk_keep P kn (sp_PI (P + 64) / dk_p 64) 2 mu ra := by unfold dk_pi; rw [if_pos hpl_kn, hx_kn]
    have f_26 : rg0 26 = (sp_PI (P + 64)) := (hof 26 (by omega)).trans hiv.1
    refine lv_aload_n hx hb dX5_pi_14 rfl (lv_at hl 0 rfl) ?_
    refine lv_bipush (v := nI 33) hx hb dX5_pi_15 (by decide) ?_
    refine lv_bipush (v := nI 26) hx hb dX5_pi_17 (by decide) ?_
    refine lv_bipush (v := nI 64) hx hb dX5_pi_19 (by decide) ?_
    refine bd_cv (As := [.int (nI 33), .int (nI 26), .int (nI 64)]) (rest := []) C (v5_down _ _ _ _ _ hv 33 26 64 (by decide) (by decide) (by decide) (by decide)) (cwV 3 hts gX5_pi_X5_down rfl rfl rfl (by decide +kernel) ⟨Nat.le_of_ble_eq_true rfl, Nat.le_of_ble_eq_true rfl⟩) hsz hw (mv_recv C hw hv) dX5_pi_21 rfl hl.1 rfl (Nat.le_of_ble_eq_true rfl) ⟨Nat.le_refl _, Nat.le_refl _⟩ (fun E z H locs hp hw => ?_)
    obtain ⟨rg, hv, hv0_, hf9⟩ := hp
    have fT0_ : rg 33 = (sp_PI (P + 64) / dk_p 64) := hv0_.trans (by rw [f_26])
    have f_26 : rg 26 = (sp_PI (P + 64)) := (hf9 26 (by decide) (by decide)).trans f_26
    have f_33 := fT0_
    have hof : ∀ j, j < 24 ∨ (26 ≤ j ∧ j ≤ 28) → rg j = rg0 j := fun j hj => (hf9 j (hq12_15 hj) (hq12_6 hj)).trans (hof j hj)
    refine lv_aload_n hx hb dX5_pi_24 rfl (lv_at hl 0 rfl) ?_
    refine lv_bipush (v := nI 34) hx hb dX5_pi_25 (by decide) ?_
    refine lv_ldc2 (v := 2) hx hb hown (hts _ lk152) dX5_pi_27 ?_
    refine bd_cv (As := [.int (nI 34), .long 2]) (rest := []) C (v5_put _ _ _ _ _ hv 34 2 (by decide)) (cwV 2 hts gX5_pi_X5_put rfl rfl rfl (by decide +kernel) ⟨Nat.le_of_ble_eq_true rfl, Nat.le_of_ble_eq_true rfl⟩) hsz hw (mv_recv C hw hv) dX5_pi_30 rfl hl.1 rfl (Nat.le_of_ble_eq_true rfl) ⟨Nat.le_refl _, Nat.le_refl _⟩ (fun E z H locs hp hw => ?_)
    obtain ⟨rg, hv, hv0_, hf9⟩ := hp
    have fT0_ : rg 34 = 2 := hv0_.trans (by rfl)
    have f_26 : rg 26 = (sp_PI (P + 64)) := (hf9 26 (by decide)).trans f_26
    have f_33 : rg 33 = (sp_PI (P + 64) / dk_p 64) := (hf9 33 (by decide)).trans f_33
    have f_34 := fT0_
    have hof : ∀ j, j < 24 ∨ (26 ≤ j ∧ j ≤ 28) → rg j = rg0 j := fun j hj => (hf9 j (hq12_16 hj)).trans (hof j hj)
    refine lv_aload_n hx hb dX5_pi_33 rfl (lv_at hl 0 rfl) ?_
    refine lv_iload_n hx hb dX5_pi_34 rfl (lv_at hl 1 rfl) ?_
    refine bd_ci (As := [.int (nI kn)]) (rest := []) C (v5_keep _ _ _ _ _ hv (md_ivm hiv hof) kn hkn) (cwV 1 hts gX5_pi_X5_keep rfl rfl rfl (by decide +kernel) ⟨Nat.le_of_ble_eq_true rfl, Nat.le_of_ble_eq_true rfl⟩) hsz hw (mv_recv C hw hv) dX5_pi_35 rfl hl.1 rfl (Nat.le_of_ble_eq_true rfl) ⟨Nat.le_refl _, Nat.le_refl _⟩ (fun r9 E9 z H locs hp hw => ?_)
    rw [f_33, f_34] at hp
    exact bd_iret C hr hlk hw dX5_pi_38 (by rw [hd]; exact hp)
  · have hno := pl_f hc9
    refine lv_iconst (v := (-1)) hx hb dX5_pi_12 (by decide) ?_
    have hd9 : dk_pi P k mu ra = (-1, mu, ra) := if_neg (hno)
    exact bd_iret C hr hlk hw dX5_pi_13 (by rw [hd9]; exact ⟨rfl, _, _, hv, md_ivm hiv hof⟩)
set_option maxHeartbeats 4000000 in
set_option maxRecDepth 100000 in
/-- widen -/
theorem v5_widen (l : Launch) (K : Cxt) (E0 : Nat → va_E) (z0 : Nat → Wh) (sz : Nat) {mo : Nat → Nat} {th : Int32} {P : Nat} {rg0 : Nat → Int} (hv : md_v K E0 mo th P rg0) {mu ra : Nat → Int} (hiv : md_iv P rg0 mu ra) (k : Int32) (x : Int64)  : Met l yX5_widen wsX5_widen ({ frames := 8, cells := 0, slots := 0, locals := 280 }) (va_Pc [.ref (mo 0), .int k, .long x] (bd_P K E0 z0 sz)) (va_Qi (md_post K mo P (dk_widen P k x.toInt mu ra)) (bd_B K) (bd_A K sz)) 0 0 (bd_A K sz) := by
  refine bd_ofW (cc := cX5_widen) (maxL := 4) (ret := (some .int)) (by decide) rfl (Nat.le_of_ble_eq_true rfl) ?_
  intro p e s m below meth c ls C hr hlk hsz hw hl
  have hx := C.1
  have hb := C.2.1
  have hown := C.2.2.2.1
  have hts := C.2.2.2.2.1
  have i5 : ∀ w ∈ wsX50, w ∈ wsX5_widen := by decide +kernel
  have lk48 : Cond.fieldLink RX5 48 "BallDeskModel" "thrown" "I" ∈ wsX5_widen := by decide +kernel
  have hl : lv_has ls 4 [(0, .ref (mo 0)), (1, .int k), (2, .long x)] := hl
  obtain ⟨hP1, hP2⟩ := mv_P hv
  have hp192 : (2 : Nat) ^ P ≤ 2 ^ 192 := Nat.pow_le_pow_right (by decide) hP2
  have hP816 : P < 816 := by omega
  have hP64 : P + 64 < 816 := by omega
  have hP128 : 2 * (P + 64) < 816 := by omega
  have hof : ∀ j, j < 24 ∨ (26 ≤ j ∧ j ≤ 28) → rg0 j = rg0 j := fun _ _ => rfl
  refine lv_aload_n hx hb dX5_widen_0 rfl (lv_at hl 0 rfl) ?_
  refine lv_iconst (v := nI 0) hx hb dX5_widen_1 (by decide) ?_
  refine mv_pt C i5 hw hv dX5_widen_2 lk48 (fun E H locs hv hw => ?_)
  refine lv_iload_n hx hb dX5_widen_5 rfl (lv_at hl 1 rfl) ?_
  refine bd_sip (As := [.int k]) (rest := []) C (c5_isPlace _ _ _ _ _ k) (va_cwS 1 hts gX5_widen_X5_isPlace rfl rfl rfl (by decide +kernel) ⟨Nat.le_of_ble_eq_true rfl, Nat.le_of_ble_eq_true rfl⟩) hsz hw dX5_widen_6 rfl hl.1 rfl (Nat.le_of_ble_eq_true rfl) ⟨Nat.le_refl _, Nat.le_refl _⟩ (fun H locs hw => ?_)
  refine lv_if_eq (tgt := 18) hx hb dX5_widen_9 (by decide) (fun hc9 => ?_) (fun hc9 => ?_)
  · have hno := pl_f hc9
    refine lv_iconst (v := (-1)) hx hb dX5_widen_18 (by decide) ?_
    have hd9 : dk_widen P k x.toInt mu ra = (-1, mu, ra) := if_neg (fun q => hno q.1)
    exact bd_iret C hr hlk hw dX5_widen_19 (by rw [hd9]; exact ⟨rfl, _, _, hv, md_ivm hiv hof⟩)
  · have hpl_kn := pl_t hc9
    obtain ⟨kn, hkn, hk_kn, hx_kn⟩ := pl_x hpl_kn
    subst hk_kn
    obtain ⟨hbm_kn, hb0_kn, hbr_kn⟩ := md_b hP2 hiv hkn
    have f_kn : rg0 kn = mu kn := (hof kn (by omega)).trans (hiv.2.2.2 kn hkn).1
    have f_12kn : rg0 (12 + kn) = ra kn := (hof (12 + kn) (by omega)).trans (hiv.2.2.2 kn hkn).2.1
    change hid _ at hbm_kn hbr_kn
    refine lv_lload_n hx hb dX5_widen_12 rfl (lv_at hl 2 rfl) ?_
    refine lv_lconst (v := lN 0) hx hb dX5_widen_13 rfl ?_
    refine bd_lcmp (v := (lg_cmp x (lN 0))) hx hb dX5_widen_14 (rfl) ?_
    refine lv_if_ge (tgt := 20) hx hb dX5_widen_15 (by decide) (fun hc15 => ?_) (fun hc15 => ?_)
    · rw [lg_q3] at hc15
      have hyp : 0 ≤ x.toInt := q3_ge.mp hc15
      have hd : dk_widen P (nI kn) x.toInt mu ra = dk_keep P kn (mu kn) (ra kn + x.toInt) mu ra := by unfold dk_widen; rw [if_pos ⟨hpl_kn, hyp⟩, hx_kn]
      refine lv_aload_n hx hb dX5_widen_20 rfl (lv_at hl 0 rfl) ?_
      refine lv_bipush (v := nI 33) hx hb dX5_widen_21 (by decide) ?_
      refine lv_iload_n hx hb dX5_widen_23 rfl (lv_at hl 1 rfl) ?_
      refine bd_cv (As := [.int (nI 33), .int (nI kn)]) (rest := []) C (v5_copy _ _ _ _ _ hv 33 kn (by decide) (by omega)) (cwV 2 hts gX5_widen_X5_copy rfl rfl rfl (by decide +kernel) ⟨Nat.le_of_ble_eq_true rfl, Nat.le_of_ble_eq_true rfl⟩) hsz hw (mv_recv C hw hv) dX5_widen_24 rfl hl.1 rfl (Nat.le_of_ble_eq_true rfl) ⟨Nat.le_refl _, Nat.le_refl _⟩ (fun E z H locs hp hw => ?_)
      obtain ⟨rg, hv, hv0_, hf9⟩ := hp
      have fT0_ : rg 33 = mu kn := hv0_.trans (by rw [f_kn])
      have f_kn : rg kn = mu kn := (hf9 kn (by omega)).trans f_kn
      have f_12kn : rg (12 + kn) = ra kn := (hf9 (12 + kn) (by omega)).trans f_12kn
      have f_33 := fT0_
      have hof : ∀ j, j < 24 ∨ (26 ≤ j ∧ j ≤ 28) → rg j = rg0 j := fun j hj => (hf9 j (hq12_15 hj)).trans (hof j hj)
      refine lv_aload_n hx hb dX5_widen_27 rfl (lv_at hl 0 rfl) ?_
      refine lv_bipush (v := nI 29) hx hb dX5_widen_28 (by decide) ?_
      refine lv_lload_n hx hb dX5_widen_30 rfl (lv_at hl 2 rfl) ?_
      refine bd_cv (As := [.int (nI 29), .long x]) (rest := []) C (v5_put _ _ _ _ _ hv 29 x (by decide)) (cwV 2 hts gX5_widen_X5_put rfl rfl rfl (by decide +kernel) ⟨Nat.le_of_ble_eq_true rfl, Nat.le_of_ble_eq_true rfl⟩) hsz hw (mv_recv C hw hv) dX5_widen_31 rfl hl.1 rfl (Nat.le_of_ble_eq_true rfl) ⟨Nat.le_refl _, Nat.le_refl _⟩ (fun E z H locs hp hw => ?_)
      obtain ⟨rg, hv, hv0_, hf9⟩ := hp
      have fT0_ : rg 29 = x.toInt := hv0_.trans (by rfl)
      have f_kn : rg kn = mu kn := (hf9 kn (by omega)).trans f_kn
      have f_12kn : rg (12 + kn) = ra kn := (hf9 (12 + kn) (by omega)).trans f_12kn
      have f_33 : rg 33 = mu kn := (hf9 33 (by decide)).trans f_33
      have f_29 := fT0_
      have hof : ∀ j, j < 24 ∨ (26 ≤ j ∧ j ≤ 28) → rg j = rg0 j := fun j hj => (hf9 j (hq12_7 hj)).trans (hof j hj)
      refine lv_aload_n hx hb dX5_widen_34 rfl (lv_at hl 0 rfl) ?_
      refine lv_bipush (v := nI 34) hx hb dX5_widen_35 (by decide) ?_
      refine lv_bipush (v := nI 12) hx hb dX5_widen_37 (by decide) ?_
      refine lv_iload_n hx hb dX5_widen_39 rfl (lv_at hl 1 rfl) ?_
      refine bd_iadd (v := nI (12 + kn)) hx hb dX5_widen_40 (nI_add _ _) ?_
      refine lv_bipush (v := nI 29) hx hb dX5_widen_41 (by decide) ?_
      refine bd_cv (As := [.int (nI 34), .int (nI (12 + kn)), .int (nI 29)]) (rest := []) C (v5_plus _ _ _ _ _ hv 34 (12 + kn) 29 (by decide) (by omega) (by decide) (by rw [f_12kn, f_29]; exact (b34 (Nat.le_trans (add_b hbr_kn (i64_b x)) (by decide +kernel))))) (cwV 3 hts gX5_widen_X5_plus rfl rfl rfl (by decide +kernel) ⟨Nat.le_of_ble_eq_true rfl, Nat.le_of_ble_eq_true rfl⟩) hsz hw (mv_recv C hw hv) dX5_widen_43 rfl hl.1 rfl (Nat.le_of_ble_eq_true rfl) ⟨Nat.le_refl _, Nat.le_refl _⟩ (fun E z H locs hp hw => ?_)
      obtain ⟨rg, hv, hv0_, hf9⟩ := hp
      have fT0_ : rg 34 = (ra kn + x.toInt) := hv0_.trans (by rw [f_12kn, f_29])
      have f_kn : rg kn = mu kn := (hf9 kn (by omega)).trans f_kn
      have f_12kn : rg (12 + kn) = ra kn := (hf9 (12 + kn) (by omega)).trans f_12kn
      have f_33 : rg 33 = mu kn := (hf9 33 (by decide)).trans f_33
      have f_29 : rg 29 = x.toInt := (hf9 29 (by decide)).trans f_29
      have f_34 := fT0_
      have hof : ∀ j, j < 24 ∨ (26 ≤ j ∧ j ≤ 28) → rg j = rg0 j := fun j hj => (hf9 j (hq12_16 hj)).trans (hof j hj)
      refine lv_aload_n hx hb dX5_widen_46 rfl (lv_at hl 0 rfl) ?_
      refine lv_iload_n hx hb dX5_widen_47 rfl (lv_at hl 1 rfl) ?_
      refine bd_ci (As := [.int (nI kn)]) (rest := []) C (v5_keep _ _ _ _ _ hv (md_ivm hiv hof) kn hkn) (cwV 1 hts gX5_widen_X5_keep rfl rfl rfl (by decide +kernel) ⟨Nat.le_of_ble_eq_true rfl, Nat.le_of_ble_eq_true rfl⟩) hsz hw (mv_recv C hw hv) dX5_widen_48 rfl hl.1 rfl (Nat.le_of_ble_eq_true rfl) ⟨Nat.le_refl _, Nat.le_refl _⟩ (fun r9 E9 z H locs hp hw => ?_)
      rw [f_33, f_34] at hp
      exact bd_iret C hr hlk hw dX5_widen_51 (by rw [hd]; exact hp)
    · rw [lg_q3] at hc15
      have hno : ¬ 0 ≤ x.toInt := fun q => hc15 (q3_ge.mpr q)
      refine lv_iconst (v := (-1)) hx hb dX5_widen_18 (by decide) ?_
      have hd9 : dk_widen P (nI kn) x.toInt mu ra = (-1, mu, ra) := if_neg (fun q => hno q.2)
      exact bd_iret C hr hlk hw dX5_widen_19 (by rw [hd9]; exact ⟨rfl, _, _, hv, md_ivm hiv hof⟩)
set_option maxHeartbeats 4000000 in
set_option maxRecDepth 100000 in
/-- join -/
theorem v5_join (l : Launch) (K : Cxt) (E0 : Nat → va_E) (z0 : Nat → Wh) (sz : Nat) {mo : Nat → Nat} {th : Int32} {P : Nat} {rg0 : Nat → Int} (hv : md_v K E0 mo th P rg0) {mu ra : Nat → Int} (hiv : md_iv P rg0 mu ra) (k i j : Int32)  : Met l yX5_join wsX5_join ({ frames := 8, cells := 0, slots := 0, locals := 280 }) (va_Pc [.ref (mo 0), .int k, .int i, .int j] (bd_P K E0 z0 sz)) (va_Qi (md_post K mo P (dk_join P k i j mu ra)) (bd_B K) (bd_A K sz)) 0 0 (bd_A K sz) := by
  refine bd_ofW (cc := cX5_join) (maxL := 4) (ret := (some .int)) (by decide) rfl (Nat.le_of_ble_eq_true rfl) ?_
  intro p e s m below meth c ls C hr hlk hsz hw hl
  have hx := C.1
  have hb := C.2.1
  have hown := C.2.2.2.1
  have hts := C.2.2.2.2.1
  have i5 : ∀ w ∈ wsX50, w ∈ wsX5_join := by decide +kernel
  have lk48 : Cond.fieldLink RX5 48 "BallDeskModel" "thrown" "I" ∈ wsX5_join := by decide +kernel
  have hl : lv_has ls 4 [(0, .ref (mo 0)), (1, .int k), (2, .int i), (3, .int j)] := hl
  obtain ⟨hP1, hP2⟩ := mv_P hv
  have hp192 : (2 : Nat) ^ P ≤ 2 ^ 192 := Nat.pow_le_pow_right (by decide) hP2
  have hP816 : P < 816 := by omega
  have hP64 : P + 64 < 816 := by omega
  have hP128 : 2 * (P + 64) < 816 := by omega
  have hof : ∀ j, j < 24 ∨ (26 ≤ j ∧ j ≤ 28) → rg0 j = rg0 j := fun _ _ => rfl
  refine lv_aload_n hx hb dX5_join_0 rfl (lv_at hl 0 rfl) ?_
  refine lv_iconst (v := nI 0) hx hb dX5_join_1 (by decide) ?_
  refine mv_pt C i5 hw hv dX5_join_2 lk48 (fun E H locs hv hw => ?_)
  refine lv_iload_n hx hb dX5_join_5 rfl (lv_at hl 1 rfl) ?_
  refine lv_iload_n hx hb dX5_join_6 rfl (lv_at hl 2 rfl) ?_
  refine lv_iload_n hx hb dX5_join_7 rfl (lv_at hl 3 rfl) ?_
  refine bd_sip (As := [.int k, .int i, .int j]) (rest := []) C (c5_are _ _ _ _ _ k i j) (va_cwS 3 hts gX5_join_X5_are rfl rfl rfl (by decide +kernel) ⟨Nat.le_of_ble_eq_true rfl, Nat.le_of_ble_eq_true rfl⟩) hsz hw dX5_join_8 rfl hl.1 rfl (Nat.le_of_ble_eq_true rfl) ⟨Nat.le_refl _, Nat.le_refl _⟩ (fun H locs hw => ?_)
  refine lv_if_ne (tgt := 16) hx hb dX5_join_11 (by decide) (fun hc11 => ?_) (fun hc11 => ?_)
  · obtain ⟨hpl_kn, hpl_im, hpl_jm⟩ := are_t hc11
    obtain ⟨kn, hkn, hk_kn, hx_kn⟩ := pl_x hpl_kn
    subst hk_kn
    obtain ⟨im, him, hk_im, hx_im⟩ := pl_x hpl_im
    subst hk_im
    obtain ⟨hbm_im, hb0_im, hbr_im⟩ := md_b hP2 hiv him
    have f_im : rg0 im = mu im := (hof im (by omega)).trans (hiv.2.2.2 im him).1
    have f_12im : rg0 (12 + im) = ra im := (hof (12 + im) (by omega)).trans (hiv.2.2.2 im him).2.1
    change hid _ at hbm_im hbr_im
    obtain ⟨jm, hjm, hk_jm, hx_jm⟩ := pl_x hpl_jm
    subst hk_jm
    obtain ⟨hbm_jm, hb0_jm, hbr_jm⟩ := md_b hP2 hiv hjm
    have f_jm : rg0 jm = mu jm := (hof jm (by omega)).trans (hiv.2.2.2 jm hjm).1
    have f_12jm : rg0 (12 + jm) = ra jm := (hof (12 + jm) (by omega)).trans (hiv.2.2.2 jm hjm).2.1
    change hid _ at hbm_jm hbr_jm
    obtain ⟨he1, he2⟩ := e_b hbm_im hbr_im
    change hid _ at he1 he2
    obtain ⟨hf1, hf2⟩ := e_b hbm_jm hbr_jm
    change hid _ at hf1 hf2
    refine lv_aload_n hx hb dX5_join_16 rfl (lv_at hl 0 rfl) ?_
    refine lv_iload_n hx hb dX5_join_17 rfl (lv_at hl 2 rfl) ?_
    refine bd_cv (As := [.int (nI im)]) (rest := []) C (v5_ends _ _ _ _ _ hv im him (by rw [f_im]; exact hbm_im) (by rw [f_12im]; exact hbr_im)) (cwV 1 hts gX5_join_X5_ends rfl rfl rfl (by decide +kernel) ⟨Nat.le_of_ble_eq_true rfl, Nat.le_of_ble_eq_true rfl⟩) hsz hw (mv_recv C hw hv) dX5_join_18 rfl hl.1 rfl (Nat.le_of_ble_eq_true rfl) ⟨Nat.le_refl _, Nat.le_refl _⟩ (fun E z H locs hp hw => ?_)
    obtain ⟨rg, hv, hv0_, hv1_, hf9⟩ := hp
    have fT0_ : rg 24 = (mu im - ra im) := hv0_.trans (by rw [f_im, f_12im])
    have fT1_ : rg 25 = (mu im + ra im) := hv1_.trans (by rw [f_im, f_12im])
    have f_im : rg im = mu im := (hf9 im (by omega)).trans f_im
    have f_12im : rg (12 + im) = ra im := (hf9 (12 + im) (by omega)).trans f_12im
    have f_jm : rg jm = mu jm := (hf9 jm (by omega)).trans f_jm
    have f_12jm : rg (12 + jm) = ra jm := (hf9 (12 + jm) (by omega)).trans f_12jm
    have f_24 := fT0_
    have f_25 := fT1_
    have hof : ∀ j, j < 24 ∨ (26 ≤ j ∧ j ≤ 28) → rg j = rg0 j := fun j hj => (hf9 j (hq12_0 hj)).trans (hof j hj)
    refine lv_aload_n hx hb dX5_join_21 rfl (lv_at hl 0 rfl) ?_
    refine lv_bipush (v := nI 35) hx hb dX5_join_22 (by decide) ?_
    refine lv_bipush (v := nI 24) hx hb dX5_join_24 (by decide) ?_
    refine bd_cv (As := [.int (nI 35), .int (nI 24)]) (rest := []) C (v5_copy _ _ _ _ _ hv 35 24 (by decide) (by decide)) (cwV 2 hts gX5_join_X5_copy rfl rfl rfl (by decide +kernel) ⟨Nat.le_of_ble_eq_true rfl, Nat.le_of_ble_eq_true rfl⟩) hsz hw (mv_recv C hw hv) dX5_join_26 rfl hl.1 rfl (Nat.le_of_ble_eq_true rfl) ⟨Nat.le_refl _, Nat.le_refl _⟩ (fun E z H locs hp hw => ?_)
    obtain ⟨rg, hv, hv0_, hf9⟩ := hp
    have fT0_ : rg 35 = (mu im - ra im) := hv0_.trans (by rw [f_24])
    have f_im : rg im = mu im := (hf9 im (by omega)).trans f_im
    have f_12im : rg (12 + im) = ra im := (hf9 (12 + im) (by omega)).trans f_12im
    have f_jm : rg jm = mu jm := (hf9 jm (by omega)).trans f_jm
    have f_12jm : rg (12 + jm) = ra jm := (hf9 (12 + jm) (by omega)).trans f_12jm
    have f_24 : rg 24 = (mu im - ra im) := (hf9 24 (by decide)).trans f_24
    have f_25 : rg 25 = (mu im + ra im) := (hf9 25 (by decide)).trans f_25
    have f_35 := fT0_
    have hof : ∀ j, j < 24 ∨ (26 ≤ j ∧ j ≤ 28) → rg j = rg0 j := fun j hj => (hf9 j (hq12_17 hj)).trans (hof j hj)
    refine lv_aload_n hx hb dX5_join_29 rfl (lv_at hl 0 rfl) ?_
    refine lv_bipush (v := nI 36) hx hb dX5_join_30 (by decide) ?_
    refine lv_bipush (v := nI 25) hx hb dX5_join_32 (by decide) ?_
    refine bd_cv (As := [.int (nI 36), .int (nI 25)]) (rest := []) C (v5_copy _ _ _ _ _ hv 36 25 (by decide) (by decide)) (cwV 2 hts gX5_join_X5_copy rfl rfl rfl (by decide +kernel) ⟨Nat.le_of_ble_eq_true rfl, Nat.le_of_ble_eq_true rfl⟩) hsz hw (mv_recv C hw hv) dX5_join_34 rfl hl.1 rfl (Nat.le_of_ble_eq_true rfl) ⟨Nat.le_refl _, Nat.le_refl _⟩ (fun E z H locs hp hw => ?_)
    obtain ⟨rg, hv, hv0_, hf9⟩ := hp
    have fT0_ : rg 36 = (mu im + ra im) := hv0_.trans (by rw [f_25])
    have f_im : rg im = mu im := (hf9 im (by omega)).trans f_im
    have f_12im : rg (12 + im) = ra im := (hf9 (12 + im) (by omega)).trans f_12im
    have f_jm : rg jm = mu jm := (hf9 jm (by omega)).trans f_jm
    have f_12jm : rg (12 + jm) = ra jm := (hf9 (12 + jm) (by omega)).trans f_12jm
    have f_24 : rg 24 = (mu im - ra im) := (hf9 24 (by decide)).trans f_24
    have f_25 : rg 25 = (mu im + ra im) := (hf9 25 (by decide)).trans f_25
    have f_35 : rg 35 = (mu im - ra im) := (hf9 35 (by decide)).trans f_35
    have f_36 := fT0_
    have hof : ∀ j, j < 24 ∨ (26 ≤ j ∧ j ≤ 28) → rg j = rg0 j := fun j hj => (hf9 j (hq12_5 hj)).trans (hof j hj)
    refine lv_aload_n hx hb dX5_join_37 rfl (lv_at hl 0 rfl) ?_
    refine lv_iload_n hx hb dX5_join_38 rfl (lv_at hl 3 rfl) ?_
    refine bd_cv (As := [.int (nI jm)]) (rest := []) C (v5_ends _ _ _ _ _ hv jm hjm (by rw [f_jm]; exact hbm_jm) (by rw [f_12jm]; exact hbr_jm)) (cwV 1 hts gX5_join_X5_ends rfl rfl rfl (by decide +kernel) ⟨Nat.le_of_ble_eq_true rfl, Nat.le_of_ble_eq_true rfl⟩) hsz hw (mv_recv C hw hv) dX5_join_39 rfl hl.1 rfl (Nat.le_of_ble_eq_true rfl) ⟨Nat.le_refl _, Nat.le_refl _⟩ (fun E z H locs hp hw => ?_)
    obtain ⟨rg, hv, hv0_, hv1_, hf9⟩ := hp
    have fT0_ : rg 24 = (mu jm - ra jm) := hv0_.trans (by rw [f_jm, f_12jm])
    have fT1_ : rg 25 = (mu jm + ra jm) := hv1_.trans (by rw [f_jm, f_12jm])
    have f_im : rg im = mu im := (hf9 im (by omega)).trans f_im
    have f_12im : rg (12 + im) = ra im := (hf9 (12 + im) (by omega)).trans f_12im
    have f_jm : rg jm = mu jm := (hf9 jm (by omega)).trans f_jm
    have f_12jm : rg (12 + jm) = ra jm := (hf9 (12 + jm) (by omega)).trans f_12jm
    have f_35 : rg 35 = (mu im - ra im) := (hf9 35 (by decide)).trans f_35
    have f_36 : rg 36 = (mu im + ra im) := (hf9 36 (by decide)).trans f_36
    have f_24 := fT0_
    have f_25 := fT1_
    have hof : ∀ j, j < 24 ∨ (26 ≤ j ∧ j ≤ 28) → rg j = rg0 j := fun j hj => (hf9 j (hq12_0 hj)).trans (hof j hj)
    refine lv_aload_n hx hb dX5_join_42 rfl (lv_at hl 0 rfl) ?_
    refine lv_iload_n hx hb dX5_join_43 rfl (lv_at hl 1 rfl) ?_
    refine lv_aload_n hx hb dX5_join_44 rfl (lv_at hl 0 rfl) ?_
    refine lv_bipush (v := nI 35) hx hb dX5_join_45 (by decide) ?_
    refine lv_bipush (v := nI 24) hx hb dX5_join_47 (by decide) ?_
    refine bd_cip (As := [.int (nI 35), .int (nI 24)]) (rest := [.int (nI kn), .ref (mo 0)]) C (v5_compare _ _ _ _ _ hv 35 24 (by omega) (by omega)) (cwV 2 hts gX5_join_X5_compare rfl rfl rfl (by decide +kernel) ⟨Nat.le_of_ble_eq_true rfl, Nat.le_of_ble_eq_true rfl⟩) hsz hw (mv_recv C hw hv) dX5_join_49 rfl hl.1 rfl (Nat.le_of_ble_eq_true rfl) ⟨Nat.le_refl _, Nat.le_refl _⟩ (fun H locs hw => ?_)
    rw [f_35, f_24]
    refine lv_if_ge (tgt := 60) hx hb dX5_join_52 (by decide) (fun hc52 => ?_) (fun hc52 => ?_)
    · have hq52 := q3_ge.mp hc52
      refine lv_bipush (v := nI 24) hx hb dX5_join_60 (by decide) ?_
      refine lv_aload_n hx hb dX5_join_62 rfl (lv_at hl 0 rfl) ?_
      refine lv_bipush (v := nI 36) hx hb dX5_join_63 (by decide) ?_
      refine lv_bipush (v := nI 25) hx hb dX5_join_65 (by decide) ?_
      refine bd_cip (As := [.int (nI 36), .int (nI 25)]) (rest := [.int (nI 24), .int (nI kn), .ref (mo 0)]) C (v5_compare _ _ _ _ _ hv 36 25 (by omega) (by omega)) (cwV 2 hts gX5_join_X5_compare rfl rfl rfl (by decide +kernel) ⟨Nat.le_of_ble_eq_true rfl, Nat.le_of_ble_eq_true rfl⟩) hsz hw (mv_recv C hw hv) dX5_join_67 rfl hl.1 rfl (Nat.le_of_ble_eq_true rfl) ⟨Nat.le_refl _, Nat.le_refl _⟩ (fun H locs hw => ?_)
      rw [f_36, f_25]
      refine lv_if_le (tgt := 78) hx hb dX5_join_70 (by decide) (fun hc70 => ?_) (fun hc70 => ?_)
      · have hq70 := q3_le.mp hc70
        refine lv_bipush (v := nI 25) hx hb dX5_join_78 (by decide) ?_
        have hd : dk_join P (nI kn) (nI im) (nI jm) mu ra = dk_ends P kn (mu jm - ra jm) (mu jm + ra jm) mu ra := by unfold dk_join; rw [if_pos ⟨hpl_kn, hpl_im, hpl_jm⟩, hx_kn, hx_im, hx_jm, jn_l (Int.not_lt.mpr hq52), jn_h hq70]
        refine bd_ci (As := [.int (nI kn), .int (nI 24), .int (nI 25)]) (rest := []) C (v5_keepEnds _ _ _ _ _ hv (md_ivm hiv hof) kn 24 25 hkn (by decide) (by decide) (by rw [f_24]; exact (Nat.le_trans hf1 (by decide +kernel))) (by rw [f_25]; exact (Nat.le_trans hf2 (by decide +kernel)))) (cwV 3 hts gX5_join_X5_keepEnds rfl rfl rfl (by decide +kernel) ⟨Nat.le_of_ble_eq_true rfl, Nat.le_of_ble_eq_true rfl⟩) hsz hw (mv_recv C hw hv) dX5_join_80 rfl hl.1 rfl (Nat.le_of_ble_eq_true rfl) ⟨Nat.le_refl _, Nat.le_refl _⟩ (fun r9 E9 z H locs hp hw => ?_)
        rw [f_24, f_25] at hp
        exact bd_iret C hr hlk hw dX5_join_83 (by rw [hd]; exact hp)
      · have hq70 : (mu jm + ra jm) < (mu im + ra im) := Int.not_le.mp (fun q => hc70 (q3_le.mpr q))
        refine lv_bipush (v := nI 36) hx hb dX5_join_73 (by decide) ?_
        refine lv_goto (tgt := 80) hx hb dX5_join_75 (by decide) ?_
        have hd : dk_join P (nI kn) (nI im) (nI jm) mu ra = dk_ends P kn (mu jm - ra jm) (mu im + ra im) mu ra := by unfold dk_join; rw [if_pos ⟨hpl_kn, hpl_im, hpl_jm⟩, hx_kn, hx_im, hx_jm, jn_l (Int.not_lt.mpr hq52), if_neg (Int.not_lt.mpr (Int.le_of_lt hq70))]
        refine bd_ci (As := [.int (nI kn), .int (nI 24), .int (nI 36)]) (rest := []) C (v5_keepEnds _ _ _ _ _ hv (md_ivm hiv hof) kn 24 36 hkn (by decide) (by decide) (by rw [f_24]; exact (Nat.le_trans hf1 (by decide +kernel))) (by rw [f_36]; exact (Nat.le_trans he2 (by decide +kernel)))) (cwV 3 hts gX5_join_X5_keepEnds rfl rfl rfl (by decide +kernel) ⟨Nat.le_of_ble_eq_true rfl, Nat.le_of_ble_eq_true rfl⟩) hsz hw (mv_recv C hw hv) dX5_join_80 rfl hl.1 rfl (Nat.le_of_ble_eq_true rfl) ⟨Nat.le_refl _, Nat.le_refl _⟩ (fun r9 E9 z H locs hp hw => ?_)
        rw [f_24, f_36] at hp
        exact bd_iret C hr hlk hw dX5_join_83 (by rw [hd]; exact hp)
    · have hq52 : (mu im - ra im) < (mu jm - ra jm) := Int.not_le.mp (fun q => hc52 (q3_ge.mpr q))
      refine lv_bipush (v := nI 35) hx hb dX5_join_55 (by decide) ?_
      refine lv_goto (tgt := 62) hx hb dX5_join_57 (by decide) ?_
      refine lv_aload_n hx hb dX5_join_62 rfl (lv_at hl 0 rfl) ?_
      refine lv_bipush (v := nI 36) hx hb dX5_join_63 (by decide) ?_
      refine lv_bipush (v := nI 25) hx hb dX5_join_65 (by decide) ?_
      refine bd_cip (As := [.int (nI 36), .int (nI 25)]) (rest := [.int (nI 35), .int (nI kn), .ref (mo 0)]) C (v5_compare _ _ _ _ _ hv 36 25 (by omega) (by omega)) (cwV 2 hts gX5_join_X5_compare rfl rfl rfl (by decide +kernel) ⟨Nat.le_of_ble_eq_true rfl, Nat.le_of_ble_eq_true rfl⟩) hsz hw (mv_recv C hw hv) dX5_join_67 rfl hl.1 rfl (Nat.le_of_ble_eq_true rfl) ⟨Nat.le_refl _, Nat.le_refl _⟩ (fun H locs hw => ?_)
      rw [f_36, f_25]
      refine lv_if_le (tgt := 78) hx hb dX5_join_70 (by decide) (fun hc70 => ?_) (fun hc70 => ?_)
      · have hq70 := q3_le.mp hc70
        refine lv_bipush (v := nI 25) hx hb dX5_join_78 (by decide) ?_
        have hd : dk_join P (nI kn) (nI im) (nI jm) mu ra = dk_ends P kn (mu im - ra im) (mu jm + ra jm) mu ra := by unfold dk_join; rw [if_pos ⟨hpl_kn, hpl_im, hpl_jm⟩, hx_kn, hx_im, hx_jm, if_neg (Int.not_lt.mpr (Int.le_of_lt hq52)), jn_h hq70]
        refine bd_ci (As := [.int (nI kn), .int (nI 35), .int (nI 25)]) (rest := []) C (v5_keepEnds _ _ _ _ _ hv (md_ivm hiv hof) kn 35 25 hkn (by decide) (by decide) (by rw [f_35]; exact (Nat.le_trans he1 (by decide +kernel))) (by rw [f_25]; exact (Nat.le_trans hf2 (by decide +kernel)))) (cwV 3 hts gX5_join_X5_keepEnds rfl rfl rfl (by decide +kernel) ⟨Nat.le_of_ble_eq_true rfl, Nat.le_of_ble_eq_true rfl⟩) hsz hw (mv_recv C hw hv) dX5_join_80 rfl hl.1 rfl (Nat.le_of_ble_eq_true rfl) ⟨Nat.le_refl _, Nat.le_refl _⟩ (fun r9 E9 z H locs hp hw => ?_)
        rw [f_35, f_25] at hp
        exact bd_iret C hr hlk hw dX5_join_83 (by rw [hd]; exact hp)
      · have hq70 : (mu jm + ra jm) < (mu im + ra im) := Int.not_le.mp (fun q => hc70 (q3_le.mpr q))
        refine lv_bipush (v := nI 36) hx hb dX5_join_73 (by decide) ?_
        refine lv_goto (tgt := 80) hx hb dX5_join_75 (by decide) ?_
        have hd : dk_join P (nI kn) (nI im) (nI jm) mu ra = dk_ends P kn (mu im - ra im) (mu im + ra im) mu ra := by unfold dk_join; rw [if_pos ⟨hpl_kn, hpl_im, hpl_jm⟩, hx_kn, hx_im, hx_jm, if_neg (Int.not_lt.mpr (Int.le_of_lt hq52)), if_neg (Int.not_lt.mpr (Int.le_of_lt hq70))]
        refine bd_ci (As := [.int (nI kn), .int (nI 35), .int (nI 36)]) (rest := []) C (v5_keepEnds _ _ _ _ _ hv (md_ivm hiv hof) kn 35 36 hkn (by decide) (by decide) (by rw [f_35]; exact (Nat.le_trans he1 (by decide +kernel))) (by rw [f_36]; exact (Nat.le_trans he2 (by decide +kernel)))) (cwV 3 hts gX5_join_X5_keepEnds rfl rfl rfl (by decide +kernel) ⟨Nat.le_of_ble_eq_true rfl, Nat.le_of_ble_eq_true rfl⟩) hsz hw (mv_recv C hw hv) dX5_join_80 rfl hl.1 rfl (Nat.le_of_ble_eq_true rfl) ⟨Nat.le_refl _, Nat.le_refl _⟩ (fun r9 E9 z H locs hp hw => ?_)
        rw [f_35, f_36] at hp
        exact bd_iret C hr hlk hw dX5_join_83 (by rw [hd]; exact hp)
  · have hno := are_f hc11
    refine lv_iconst (v := (-1)) hx hb dX5_join_14 (by decide) ?_
    have hd9 : dk_join P k i j mu ra = (-1, mu, ra) := if_neg (hno)
    exact bd_iret C hr hlk hw dX5_join_15 (by rw [hd9]; exact ⟨rfl, _, _, hv, md_ivm hiv hof⟩)
