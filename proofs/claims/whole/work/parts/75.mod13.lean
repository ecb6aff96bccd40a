/-! the model: lies, holds, tens, digit, sure, count, thrown (laid by wip/gen/m_mod13.py) -/
theorem tn_b {x : Int} {t : Nat} (h : x.natAbs ≤ 2 ^ 240) (ht : t ≤ 60) : (x * ((10 ^ t : Nat) : Int) * (nI 10).toInt).natAbs ≤ 2 ^ 815 := by
  rw [n10]
  exact Nat.le_trans (mul_b (mul_b h (show (((10 ^ t : Nat) : Int)).natAbs ≤ 2 ^ 200 by rw [Int.natAbs_natCast]; exact p10_b ht)) (Nat.le_refl (10 : Int).natAbs)) (by decide +kernel)
theorem tn_b2 {x : Int} {t : Nat} (h : x.natAbs ≤ 2 ^ 241) (ht : t ≤ 60) : (x * ((10 ^ t : Nat) : Int) * (nI 10).toInt).natAbs ≤ 2 ^ 815 := by
  rw [n10]
  exact Nat.le_trans (mul_b (mul_b h (show (((10 ^ t : Nat) : Int)).natAbs ≤ 2 ^ 200 by rw [Int.natAbs_natCast]; exact p10_b ht)) (Nat.le_refl (10 : Int).natAbs)) (by decide +kernel)
theorem dg_v1 {M P t : Nat} (h : M ≤ 2 ^ 240) (ht : t ≤ 60) : M * 10 ^ t / 2 ^ P ≤ 2 ^ 500 := Nat.le_trans (Nat.div_le_self _ _) (Nat.le_trans (Nat.mul_le_mul h (p10_b ht)) (by decide +kernel))
theorem dg_v2 {M P t : Nat} (h : M ≤ 2 ^ 240) : M / 2 ^ P / 10 ^ t ≤ 2 ^ 500 := Nat.le_trans (Nat.div_le_self _ _) (Nat.le_trans (Nat.div_le_self _ _) (Nat.le_trans h (by decide +kernel)))
theorem dg_b1 {V : Nat} (h : V ≤ 2 ^ 500) : (((V / 10 : Nat) : Int) * (nI 10).toInt).natAbs ≤ 2 ^ 815 := by
  rw [n10]
  exact Nat.le_trans (mul_b (show (((V / 10 : Nat) : Int)).natAbs ≤ 2 ^ 500 by rw [Int.natAbs_natCast]; exact Nat.le_trans (Nat.div_le_self _ _) h) (Nat.le_refl (10 : Int).natAbs)) (by decide +kernel)
theorem dg_b2 {V : Nat} (h : V ≤ 2 ^ 500) : ((V : Int) - ((V / 10 * 10 : Nat) : Int)).natAbs ≤ 2 ^ 815 := Nat.le_trans (show _ ≤ V by omega) (Nat.le_trans h (by decide +kernel))
theorem dg_f0 {f : Nat → Nat} {v : Nat} (hf : ∀ j, j < 34 → f j < 16777216) (h : h_s f 34 = v) (hv : v < 16777216) : f 0 = v := by
  have h0 := h_dig hf (k := 0) (by decide)
  rw [Nat.pow_zero, Nat.div_one, h, Nat.mod_eq_of_lt hv] at h0
  exact h0.symm
theorem ly_0 {l1 h1 l2 h2 : Int} (hq74 : l2 ≤ h1) (hq88 : l1 ≤ h2) (hq94 : ¬ l1 = l2) (hq105 : l1 < l2) (hq118 : l2 < l1) : dk_liesv l1 h1 l2 h2 = (nI 6) := by unfold dk_liesv; (repeat' split) <;> first | rfl | (exfalso; omega)
theorem ly_1 {l1 h1 l2 h2 : Int} (hq74 : l2 ≤ h1) (hq88 : l1 ≤ h2) (hq94 : ¬ l1 = l2) (hq105 : l1 < l2) (hq118 : l1 ≤ l2) (hq123 : h1 < h2) : dk_liesv l1 h1 l2 h2 = (nI 6) := by unfold dk_liesv; (repeat' split) <;> first | rfl | (exfalso; omega)
theorem ly_2 {l1 h1 l2 h2 : Int} (hq74 : l2 ≤ h1) (hq88 : l1 ≤ h2) (hq94 : ¬ l1 = l2) (hq105 : l1 < l2) (hq118 : l1 ≤ l2) (hq123 : h2 ≤ h1) : dk_liesv l1 h1 l2 h2 = (nI 5) := by unfold dk_liesv; (repeat' split) <;> first | rfl | (exfalso; omega)
theorem ly_3 {l1 h1 l2 h2 : Int} (hq74 : l2 ≤ h1) (hq88 : l1 ≤ h2) (hq94 : ¬ l1 = l2) (hq105 : l2 ≤ l1) (hq110 : h2 < h1) (hq118 : l2 < l1) : dk_liesv l1 h1 l2 h2 = (nI 6) := by unfold dk_liesv; (repeat' split) <;> first | rfl | (exfalso; omega)
theorem ly_4 {l1 h1 l2 h2 : Int} (hq74 : l2 ≤ h1) (hq88 : l1 ≤ h2) (hq94 : ¬ l1 = l2) (hq105 : l2 ≤ l1) (hq110 : h2 < h1) (hq118 : l1 ≤ l2) (hq123 : h1 < h2) : dk_liesv l1 h1 l2 h2 = (nI 6) := by unfold dk_liesv; (repeat' split) <;> first | rfl | (exfalso; omega)
theorem ly_5 {l1 h1 l2 h2 : Int} (hq74 : l2 ≤ h1) (hq88 : l1 ≤ h2) (hq94 : ¬ l1 = l2) (hq105 : l2 ≤ l1) (hq110 : h2 < h1) (hq118 : l1 ≤ l2) (hq123 : h2 ≤ h1) : dk_liesv l1 h1 l2 h2 = (nI 5) := by unfold dk_liesv; (repeat' split) <;> first | rfl | (exfalso; omega)
theorem ly_6 {l1 h1 l2 h2 : Int} (hq74 : l2 ≤ h1) (hq88 : l1 ≤ h2) (hq94 : ¬ l1 = l2) (hq105 : l2 ≤ l1) (hq110 : h1 ≤ h2) : dk_liesv l1 h1 l2 h2 = (nI 4) := by unfold dk_liesv; (repeat' split) <;> first | rfl | (exfalso; omega)
theorem ly_7 {l1 h1 l2 h2 : Int} (hq74 : l2 ≤ h1) (hq88 : l1 ≤ h2) (hq94 : l1 = l2) (hq99 : ¬ h1 = h2) (hq105 : l1 < l2) (hq118 : l2 < l1) : dk_liesv l1 h1 l2 h2 = (nI 6) := by unfold dk_liesv; (repeat' split) <;> first | rfl | (exfalso; omega)
theorem ly_8 {l1 h1 l2 h2 : Int} (hq74 : l2 ≤ h1) (hq88 : l1 ≤ h2) (hq94 : l1 = l2) (hq99 : ¬ h1 = h2) (hq105 : l1 < l2) (hq118 : l1 ≤ l2) (hq123 : h1 < h2) : dk_liesv l1 h1 l2 h2 = (nI 6) := by unfold dk_liesv; (repeat' split) <;> first | rfl | (exfalso; omega)
theorem ly_9 {l1 h1 l2 h2 : Int} (hq74 : l2 ≤ h1) (hq88 : l1 ≤ h2) (hq94 : l1 = l2) (hq99 : ¬ h1 = h2) (hq105 : l1 < l2) (hq118 : l1 ≤ l2) (hq123 : h2 ≤ h1) : dk_liesv l1 h1 l2 h2 = (nI 5) := by unfold dk_liesv; (repeat' split) <;> first | rfl | (exfalso; omega)
theorem ly_10 {l1 h1 l2 h2 : Int} (hq74 : l2 ≤ h1) (hq88 : l1 ≤ h2) (hq94 : l1 = l2) (hq99 : ¬ h1 = h2) (hq105 : l2 ≤ l1) (hq110 : h2 < h1) (hq118 : l2 < l1) : dk_liesv l1 h1 l2 h2 = (nI 6) := by unfold dk_liesv; (repeat' split) <;> first | rfl | (exfalso; omega)
theorem ly_11 {l1 h1 l2 h2 : Int} (hq74 : l2 ≤ h1) (hq88 : l1 ≤ h2) (hq94 : l1 = l2) (hq99 : ¬ h1 = h2) (hq105 : l2 ≤ l1) (hq110 : h2 < h1) (hq118 : l1 ≤ l2) (hq123 : h1 < h2) : dk_liesv l1 h1 l2 h2 = (nI 6) := by unfold dk_liesv; (repeat' split) <;> first | rfl | (exfalso; omega)
theorem ly_12 {l1 h1 l2 h2 : Int} (hq74 : l2 ≤ h1) (hq88 : l1 ≤ h2) (hq94 : l1 = l2) (hq99 : ¬ h1 = h2) (hq105 : l2 ≤ l1) (hq110 : h2 < h1) (hq118 : l1 ≤ l2) (hq123 : h2 ≤ h1) : dk_liesv l1 h1 l2 h2 = (nI 5) := by unfold dk_liesv; (repeat' split) <;> first | rfl | (exfalso; omega)
theorem ly_13 {l1 h1 l2 h2 : Int} (hq74 : l2 ≤ h1) (hq88 : l1 ≤ h2) (hq94 : l1 = l2) (hq99 : ¬ h1 = h2) (hq105 : l2 ≤ l1) (hq110 : h1 ≤ h2) : dk_liesv l1 h1 l2 h2 = (nI 4) := by unfold dk_liesv; (repeat' split) <;> first | rfl | (exfalso; omega)
theorem ly_14 {l1 h1 l2 h2 : Int} (hq74 : l2 ≤ h1) (hq88 : l1 ≤ h2) (hq94 : l1 = l2) (hq99 : h1 = h2) : dk_liesv l1 h1 l2 h2 = (nI 3) := by unfold dk_liesv; (repeat' split) <;> first | rfl | (exfalso; omega)
theorem ly_15 {l1 h1 l2 h2 : Int} (hq74 : l2 ≤ h1) (hq88 : h2 < l1) : dk_liesv l1 h1 l2 h2 = (nI 2) := by unfold dk_liesv; (repeat' split) <;> first | rfl | (exfalso; omega)
theorem ly_16 {l1 h1 l2 h2 : Int} (hq74 : h1 < l2) : dk_liesv l1 h1 l2 h2 = (-2) := by unfold dk_liesv; (repeat' split) <;> first | rfl | (exfalso; omega)
theorem hq13_0 { j : Nat} (hj : j < 24 ∨ (26 ≤ j ∧ j ≤ 28)) : j ≠ 24 ∧ j ≠ 25 := by omega
theorem hq13_1 { j : Nat} (hj : j < 24 ∨ (26 ≤ j ∧ j ≤ 28)) : j ≠ 35 := by omega
theorem hq13_2 { j : Nat} (hj : j < 24 ∨ (26 ≤ j ∧ j ≤ 28)) : j ≠ 36 := by omega
theorem hq13_3 { j : Nat} (hj : j < 24 ∨ (26 ≤ j ∧ j ≤ 28)) : j ≠ 29 := by omega
theorem hq13_4 { j : Nat} (hj : j < 24 ∨ (26 ≤ j ∧ j ≤ 28)) : j ≠ 30 := by omega
theorem hq13_5 { j : Nat} (hj : j < 24 ∨ (26 ≤ j ∧ j ≤ 28)) : j ≠ 24 := by omega
theorem hq13_6 { j : Nat} (hj : j < 24 ∨ (26 ≤ j ∧ j ≤ 28)) : j ≠ 25 := by omega
theorem hq13_7 {t j : Nat} (hj : j ≠ t ∧ j ≠ 32) : j ≠ t := by omega
theorem hq13_8 {t j : Nat} (hj : j ≠ t ∧ j ≠ 32) : j ≠ 32 := by omega
theorem hq13_9 { j : Nat} (hj : j < 24 ∨ (26 ≤ j ∧ j ≤ 28)) : j ≠ 29 ∧ j ≠ 32 := by omega
theorem hq13_10 { j : Nat} (hj : j < 24 ∨ (26 ≤ j ∧ j ≤ 28)) : j ≠ 32 := by omega
set_option maxHeartbeats 4000000 in
set_option maxRecDepth 100000 in
/-- lies -/
theorem v5_lies (l : Launch) (K : Cxt) (E0 : Nat → va_E) (z0 : Nat → Wh) (sz : Nat) {mo : Nat → Nat} {th : Int32} {P : Nat} {rg0 : Nat → Int} (hv : md_v K E0 mo th P rg0) {mu ra : Nat → Int} (hiv : md_iv P rg0 mu ra) (i j : Int32)  : Met l yX5_lies wsX5_lies ({ frames := 8, cells := 0, slots := 0, locals := 280 }) (va_Pc [.ref (mo 0), .int i, .int j] (bd_P K E0 z0 sz)) (va_Qi (md_post K mo P (dk_lies i j mu ra, mu, ra)) (bd_B K) (bd_A K sz)) 0 0 (bd_A K sz) := by
  refine bd_ofW (cc := cX5_lies) (maxL := 5) (ret := (some .int)) (by decide) rfl (Nat.le_of_ble_eq_true rfl) ?_
  intro p e s m below meth c ls C hr hlk hsz hw hl
  have hx := C.1
  have hb := C.2.1
  have hown := C.2.2.2.1
  have hts := C.2.2.2.2.1
  have i5 : ∀ w ∈ wsX50, w ∈ wsX5_lies := by decide +kernel
  have lk48 : Cond.fieldLink RX5 48 "BallDeskModel" "thrown" "I" ∈ wsX5_lies := by decide +kernel
  have hl : lv_has ls 5 [(0, .ref (mo 0)), (1, .int i), (2, .int j)] := hl
  obtain ⟨hP1, hP2⟩ := mv_P hv
  have hp192 : (2 : Nat) ^ P ≤ 2 ^ 192 := Nat.pow_le_pow_right (by decide) hP2
  have hP816 : P < 816 := by omega
  have hP64 : P + 64 < 816 := by omega
  have hP128 : 2 * (P + 64) < 816 := by omega
  have hof : ∀ j, j < 24 ∨ (26 ≤ j ∧ j ≤ 28) → rg0 j = rg0 j := fun _ _ => rfl
  refine lv_aload_n hx hb dX5_lies_0 rfl (lv_at hl 0 rfl) ?_
  refine lv_iconst (v := nI 0) hx hb dX5_lies_1 (by decide) ?_
  refine mv_pt C i5 hw hv dX5_lies_2 lk48 (fun E H locs hv hw => ?_)
  refine lv_iload_n hx hb dX5_lies_5 rfl (lv_at hl 1 rfl) ?_
  refine bd_sip (As := [.int i]) (rest := []) C (c5_isPlace _ _ _ _ _ i) (va_cwS 1 hts gX5_lies_X5_isPlace rfl rfl rfl (by decide +kernel) ⟨Nat.le_of_ble_eq_true rfl, Nat.le_of_ble_eq_true rfl⟩) hsz hw dX5_lies_6 rfl hl.1 rfl (Nat.le_of_ble_eq_true rfl) ⟨Nat.le_refl _, Nat.le_refl _⟩ (fun H locs hw => ?_)
  refine lv_if_eq (tgt := 19) hx hb dX5_lies_9 (by decide) (fun hc9 => ?_) (fun hc9 => ?_)
  · have hno := pl_f hc9
    refine lv_iconst (v := (-1)) hx hb dX5_lies_19 (by decide) ?_
    have hd : dk_lies i j mu ra = (-1) := if_neg (fun q => hno q.1)
    exact bd_iret C hr hlk hw dX5_lies_20 ⟨hd.symm, _, _, hv, md_ivm hiv hof⟩
  · have hpl_im := pl_t hc9
    obtain ⟨im, him, hk_im, hx_im⟩ := pl_x hpl_im
    subst hk_im
    obtain ⟨hbm_im, hb0_im, hbr_im⟩ := md_b hP2 hiv him
    have f_im : rg0 im = mu im := (hof im (by omega)).trans (hiv.2.2.2 im him).1
    have f_12im : rg0 (12 + im) = ra im := (hof (12 + im) (by omega)).trans (hiv.2.2.2 im him).2.1
    change hid _ at hbm_im hbr_im
    refine lv_iload_n hx hb dX5_lies_12 rfl (lv_at hl 2 rfl) ?_
    refine bd_sip (As := [.int j]) (rest := []) C (c5_isPlace _ _ _ _ _ j) (va_cwS 1 hts gX5_lies_X5_isPlace rfl rfl rfl (by decide +kernel) ⟨Nat.le_of_ble_eq_true rfl, Nat.le_of_ble_eq_true rfl⟩) hsz hw dX5_lies_13 rfl hl.1 rfl (Nat.le_of_ble_eq_true rfl) ⟨Nat.le_refl _, Nat.le_refl _⟩ (fun H locs hw => ?_)
    refine lv_if_ne (tgt := 21) hx hb dX5_lies_16 (by decide) (fun hc16 => ?_) (fun hc16 => ?_)
    · have hpl_jm := pl_t hc16
      obtain ⟨jm, hjm, hk_jm, hx_jm⟩ := pl_x hpl_jm
      subst hk_jm
      obtain ⟨hbm_jm, hb0_jm, hbr_jm⟩ := md_b hP2 hiv hjm
      have f_jm : rg0 jm = mu jm := (hof jm (by omega)).trans (hiv.2.2.2 jm hjm).1
      have f_12jm : rg0 (12 + jm) = ra jm := (hof (12 + jm) (by omega)).trans (hiv.2.2.2 jm hjm).2.1
      change hid _ at hbm_jm hbr_jm
      obtain ⟨he1, he2⟩ := e_b hbm_im hbr_im
      change hid _ at he1 he2
      obtain ⟨hf1, hf2⟩ := e_b hbm_jm hbr_jm
      change hid _ at hf1 hf2
      refine lv_aload_n hx hb dX5_lies_21 rfl (lv_at hl 0 rfl) ?_
      refine lv_iload_n hx hb dX5_lies_22 rfl (lv_at hl 1 rfl) ?_
      refine bd_cv (As := [.int (nI im)]) (rest := []) C (v5_ends _ _ _ _ _ hv im him (by rw [f_im]; exact hbm_im) (by rw [f_12im]; exact hbr_im)) (cwV 1 hts gX5_lies_X5_ends rfl rfl rfl (by decide +kernel) ⟨Nat.le_of_ble_eq_true rfl, Nat.le_of_ble_eq_true rfl⟩) hsz hw (mv_recv C hw hv) dX5_lies_23 rfl hl.1 rfl (Nat.le_of_ble_eq_true rfl) ⟨Nat.le_refl _, Nat.le_refl _⟩ (fun E z H locs hp hw => ?_)
      obtain ⟨rg, hv, hv0_, hv1_, hf9⟩ := hp
      have fT0_ : rg 24 = (mu im - ra im) := hv0_.trans (by rw [f_im, f_12im])
      have fT1_ : rg 25 = (mu im + ra im) := hv1_.trans (by rw [f_im, f_12im])
      have f_im : rg im = mu im := (hf9 im (by omega)).trans f_im
      have f_12im : rg (12 + im) = ra im := (hf9 (12 + im) (by omega)).trans f_12im
      have f_jm : rg jm = mu jm := (hf9 jm (by omega)).trans f_jm
      have f_12jm : rg (12 + jm) = ra jm := (hf9 (12 + jm) (by omega)).trans f_12jm
      have f_24 := fT0_
      have f_25 := fT1_
      have hof : ∀ j, j < 24 ∨ (26 ≤ j ∧ j ≤ 28) → rg j = rg0 j := fun j hj => (hf9 j (hq13_0 hj)).trans (hof j hj)
      refine lv_aload_n hx hb dX5_lies_26 rfl (lv_at hl 0 rfl) ?_
      refine lv_bipush (v := nI 35) hx hb dX5_lies_27 (by decide) ?_
      refine lv_bipush (v := nI 24) hx hb dX5_lies_29 (by decide) ?_
      refine bd_cv (As := [.int (nI 35), .int (nI 24)]) (rest := []) C (v5_copy _ _ _ _ _ hv 35 24 (by decide) (by decide)) (cwV 2 hts gX5_lies_X5_copy rfl rfl rfl (by decide +kernel) ⟨Nat.le_of_ble_eq_true rfl, Nat.le_of_ble_eq_true rfl⟩) hsz hw (mv_recv C hw hv) dX5_lies_31 rfl hl.1 rfl (Nat.le_of_ble_eq_true rfl) ⟨Nat.le_refl _, Nat.le_refl _⟩ (fun E z H locs hp hw => ?_)
      obtain ⟨rg, hv, hv0_, hf9⟩ := hp
      have fT0_ : rg 35 = (mu im - ra im) := hv0_.trans (by rw [f_24])
      have f_im : rg im = mu im := (hf9 im (by omega)).trans f_im
      have f_12im : rg (12 + im) = ra im := (hf9 (12 + im) (by omega)).trans f_12im
      have f_jm : rg jm = mu jm := (hf9 jm (by omega)).trans f_jm
      have f_12jm : rg (12 + jm) = ra jm := (hf9 (12 + jm) (by omega)).trans f_12jm
      have f_24 : rg 24 = (mu im - ra im) := (hf9 24 (by decide)).trans f_24
      have f_25 : rg 25 = (mu im + ra im) := (hf9 25 (by decide)).trans f_25
      have f_35 := fT0_
      have hof : ∀ j, j < 24 ∨ (26 ≤ j ∧ j ≤ 28) → rg j = rg0 j := fun j hj => (hf9 j (hq13_1 hj)).trans (hof j hj)
      refine lv_aload_n hx hb dX5_lies_34 rfl (lv_at hl 0 rfl) ?_
      refine lv_bipush (v := nI 36) hx hb dX5_lies_35 (by decide) ?_
      refine lv_bipush (v := nI 25) hx hb dX5_lies_37 (by decide) ?_
      refine bd_cv (As := [.int (nI 36), .int (nI 25)]) (rest := []) C (v5_copy _ _ _ _ _ hv 36 25 (by decide) (by decide)) (cwV 2 hts gX5_lies_X5_copy rfl rfl rfl (by decide +kernel) ⟨Nat.le_of_ble_eq_true rfl, Nat.le_of_ble_eq_true rfl⟩) hsz hw (mv_recv C hw hv) dX5_lies_39 rfl hl.1 rfl (Nat.le_of_ble_eq_true rfl) ⟨Nat.le_refl _, Nat.le_refl _⟩ (fun E z H locs hp hw => ?_)
      obtain ⟨rg, hv, hv0_, hf9⟩ := hp
      have fT0_ : rg 36 = (mu im + ra im) := hv0_.trans (by rw [f_25])
      have f_im : rg im = mu im := (hf9 im (by omega)).trans f_im
      have f_12im : rg (12 + im) = ra im := (hf9 (12 + im) (by omega)).trans f_12im
      have f_jm : rg jm = mu jm := (hf9 jm (by omega)).trans f_jm
      have f_12jm : rg (12 + jm) = ra jm := (hf9 (12 + jm) (by omega)).trans f_12jm
      have f_24 : rg 24 = (mu im - ra im) := (hf9 24 (by decide)).trans f_24
      have f_25 : rg 25 = (mu im + ra im) := (hf9 25 (by decide)).trans f_25
      have f_35 : rg 35 = (mu im - ra im) := (hf9 35 (by decide)).trans f_35
      have f_36 := fT0_
      have hof : ∀ j, j < 24 ∨ (26 ≤ j ∧ j ≤ 28) → rg j = rg0 j := fun j hj => (hf9 j (hq13_2 hj)).trans (hof j hj)
      refine lv_aload_n hx hb dX5_lies_42 rfl (lv_at hl 0 rfl) ?_
      refine lv_iload_n hx hb dX5_lies_43 rfl (lv_at hl 2 rfl) ?_
      refine bd_cv (As := [.int (nI jm)]) (rest := []) C (v5_ends _ _ _ _ _ hv jm hjm (by rw [f_jm]; exact hbm_jm) (by rw [f_12jm]; exact hbr_jm)) (cwV 1 hts gX5_lies_X5_ends rfl rfl rfl (by decide +kernel) ⟨Nat.le_of_ble_eq_true rfl, Nat.le_of_ble_eq_true rfl⟩) hsz hw (mv_recv C hw hv) dX5_lies_44 rfl hl.1 rfl (Nat.le_of_ble_eq_true rfl) ⟨Nat.le_refl _, Nat.le_refl _⟩ (fun E z H locs hp hw => ?_)
      obtain ⟨rg, hv, hv0_, hv1_, hf9⟩ := hp
      have fT0_ : rg 24 = (mu jm - ra jm) := hv0_.trans (by rw [f_jm, f_12jm])
      have fT1_ : rg 25 = (mu jm + ra jm) := hv1_.trans (by rw [f_jm, f_12jm])
      have f_im : rg im = mu im := (hf9 im (by omega)).trans f_im
      have f_12im : rg (12 + im) = ra im := (hf9 (12 + im) (by omega)).trans f_12im
      have f_jm : rg jm = mu jm := (hf9 jm (by omega)).trans f_jm
      have f_12jm : rg (12 + jm) = ra jm := (hf9 (12 + jm) (by omega)).trans f_12jm
      have f_35 : rg 35 = (mu im - ra im) := (hf9 35 (by decide)).trans f_35
      have f_36 : rg 36 = (mu im + ra im) := (hf9 36 (by decide)).trans f_36
      have f_24 := fT0_
      have f_25 := fT1_
      have hof : ∀ j, j < 24 ∨ (26 ≤ j ∧ j ≤ 28) → rg j = rg0 j := fun j hj => (hf9 j (hq13_0 hj)).trans (hof j hj)
      refine lv_aload_n hx hb dX5_lies_47 rfl (lv_at hl 0 rfl) ?_
      refine lv_bipush (v := nI 35) hx hb dX5_lies_48 (by decide) ?_
      refine lv_bipush (v := nI 24) hx hb dX5_lies_50 (by decide) ?_
      refine bd_cip (As := [.int (nI 35), .int (nI 24)]) (rest := []) C (v5_compare _ _ _ _ _ hv 35 24 (by omega) (by omega)) (cwV 2 hts gX5_lies_X5_compare rfl rfl rfl (by decide +kernel) ⟨Nat.le_of_ble_eq_true rfl, Nat.le_of_ble_eq_true rfl⟩) hsz hw (mv_recv C hw hv) dX5_lies_52 rfl hl.1 rfl (Nat.le_of_ble_eq_true rfl) ⟨Nat.le_refl _, Nat.le_refl _⟩ (fun H locs hw => ?_)
      rw [f_35, f_24]
      refine lv_istore_n (lv' := [(3, .int (q_i3 (mu im - ra im) (mu jm - ra jm))), (0, .ref (mo 0)), (1, .int (nI im)), (2, .int (nI jm))]) hx hb dX5_lies_55 rfl hl (by decide) rfl (fun ls hl => ?_)
      refine lv_aload_n hx hb dX5_lies_56 rfl (lv_at hl 1 rfl) ?_
      refine lv_bipush (v := nI 36) hx hb dX5_lies_57 (by decide) ?_
      refine lv_bipush (v := nI 25) hx hb dX5_lies_59 (by decide) ?_
      refine bd_cip (As := [.int (nI 36), .int (nI 25)]) (rest := []) C (v5_compare _ _ _ _ _ hv 36 25 (by omega) (by omega)) (cwV 2 hts gX5_lies_X5_compare rfl rfl rfl (by decide +kernel) ⟨Nat.le_of_ble_eq_true rfl, Nat.le_of_ble_eq_true rfl⟩) hsz hw (mv_recv C hw hv) dX5_lies_61 rfl hl.1 rfl (Nat.le_of_ble_eq_true rfl) ⟨Nat.le_refl _, Nat.le_refl _⟩ (fun H locs hw => ?_)
      rw [f_36, f_25]
      refine lv_istore (lv' := [(4, .int (q_i3 (mu im + ra im) (mu jm + ra jm))), (3, .int (q_i3 (mu im - ra im) (mu jm - ra jm))), (0, .ref (mo 0)), (1, .int (nI im)), (2, .int (nI jm))]) hx hb dX5_lies_64 hl (by decide) rfl (fun ls hl => ?_)
      refine lv_aload_n hx hb dX5_lies_66 rfl (lv_at hl 2 rfl) ?_
      refine lv_bipush (v := nI 36) hx hb dX5_lies_67 (by decide) ?_
      refine lv_bipush (v := nI 24) hx hb dX5_lies_69 (by decide) ?_
      refine bd_cip (As := [.int (nI 36), .int (nI 24)]) (rest := []) C (v5_compare _ _ _ _ _ hv 36 24 (by omega) (by omega)) (cwV 2 hts gX5_lies_X5_compare rfl rfl rfl (by decide +kernel) ⟨Nat.le_of_ble_eq_true rfl, Nat.le_of_ble_eq_true rfl⟩) hsz hw (mv_recv C hw hv) dX5_lies_71 rfl hl.1 rfl (Nat.le_of_ble_eq_true rfl) ⟨Nat.le_refl _, Nat.le_refl _⟩ (fun H locs hw => ?_)
      rw [f_36, f_24]
      refine lv_if_ge (tgt := 80) hx hb dX5_lies_74 (by decide) (fun hc74 => ?_) (fun hc74 => ?_)
      · have hq74 := q3_ge.mp hc74
        refine lv_aload_n hx hb dX5_lies_80 rfl (lv_at hl 2 rfl) ?_
        refine lv_bipush (v := nI 35) hx hb dX5_lies_81 (by decide) ?_
        refine lv_bipush (v := nI 25) hx hb dX5_lies_83 (by decide) ?_
        refine bd_cip (As := [.int (nI 35), .int (nI 25)]) (rest := []) C (v5_compare _ _ _ _ _ hv 35 25 (by omega) (by omega)) (cwV 2 hts gX5_lies_X5_compare rfl rfl rfl (by decide +kernel) ⟨Nat.le_of_ble_eq_true rfl, Nat.le_of_ble_eq_true rfl⟩) hsz hw (mv_recv C hw hv) dX5_lies_85 rfl hl.1 rfl (Nat.le_of_ble_eq_true rfl) ⟨Nat.le_refl _, Nat.le_refl _⟩ (fun H locs hw => ?_)
        rw [f_35, f_25]
        refine lv_if_le (tgt := 93) hx hb dX5_lies_88 (by decide) (fun hc88 => ?_) (fun hc88 => ?_)
        · have hq88 := q3_le.mp hc88
          refine lv_iload_n hx hb dX5_lies_93 rfl (lv_at hl 1 rfl) ?_
          refine lv_if_ne (tgt := 104) hx hb dX5_lies_94 (by decide) (fun hc94 => ?_) (fun hc94 => ?_)
          · have hq94 := mt q3_eq.mpr hc94
            refine lv_iload_n hx hb dX5_lies_104 rfl (lv_at hl 1 rfl) ?_
            refine lv_if_lt (tgt := 117) hx hb dX5_lies_105 (by decide) (fun hc105 => ?_) (fun hc105 => ?_)
            · have hq105 := q3_lt.mp hc105
              refine lv_iload_n hx hb dX5_lies_117 rfl (lv_at hl 1 rfl) ?_
              refine lv_if_gt (tgt := 130) hx hb dX5_lies_118 (by decide) (fun hc118 => ?_) (fun hc118 => ?_)
              · have hq118 := q3_gt.mp hc118
                refine lv_bipush (v := nI 6) hx hb dX5_lies_130 (by decide) ?_
                have hd : dk_lies (nI im) (nI jm) mu ra = (nI 6) := by unfold dk_lies; rw [if_pos ⟨hpl_im, hpl_jm⟩, hx_im, hx_jm]; exact ly_0 hq74 hq88 hq94 hq105 hq118
                exact bd_iret C hr hlk hw dX5_lies_132 ⟨hd.symm, _, _, hv, md_ivm hiv hof⟩
              · have hq118 := Int.not_lt.mp (fun q => hc118 (q3_gt.mpr q))
                refine lv_iload hx hb dX5_lies_121 (lv_at hl 0 rfl) ?_
                refine lv_if_lt (tgt := 130) hx hb dX5_lies_123 (by decide) (fun hc123 => ?_) (fun hc123 => ?_)
                · have hq123 := q3_lt.mp hc123
                  refine lv_bipush (v := nI 6) hx hb dX5_lies_130 (by decide) ?_
                  have hd : dk_lies (nI im) (nI jm) mu ra = (nI 6) := by unfold dk_lies; rw [if_pos ⟨hpl_im, hpl_jm⟩, hx_im, hx_jm]; exact ly_1 hq74 hq88 hq94 hq105 hq118 hq123
                  exact bd_iret C hr hlk hw dX5_lies_132 ⟨hd.symm, _, _, hv, md_ivm hiv hof⟩
                · have hq123 := Int.not_lt.mp (fun q => hc123 (q3_lt.mpr q))
                  refine lv_iconst (v := nI 5) hx hb dX5_lies_126 (by decide) ?_
                  refine lv_goto (tgt := 132) hx hb dX5_lies_127 (by decide) ?_
                  have hd : dk_lies (nI im) (nI jm) mu ra = (nI 5) := by unfold dk_lies; rw [if_pos ⟨hpl_im, hpl_jm⟩, hx_im, hx_jm]; exact ly_2 hq74 hq88 hq94 hq105 hq118 hq123
                  exact bd_iret C hr hlk hw dX5_lies_132 ⟨hd.symm, _, _, hv, md_ivm hiv hof⟩
            · have hq105 := Int.not_lt.mp (fun q => hc105 (q3_lt.mpr q))
              refine lv_iload hx hb dX5_lies_108 (lv_at hl 0 rfl) ?_
              refine lv_if_gt (tgt := 117) hx hb dX5_lies_110 (by decide) (fun hc110 => ?_) (fun hc110 => ?_)
              · have hq110 := q3_gt.mp hc110
                refine lv_iload_n hx hb dX5_lies_117 rfl (lv_at hl 1 rfl) ?_
                refine lv_if_gt (tgt := 130) hx hb dX5_lies_118 (by decide) (fun hc118 => ?_) (fun hc118 => ?_)
                · have hq118 := q3_gt.mp hc118
                  refine lv_bipush (v := nI 6) hx hb dX5_lies_130 (by decide) ?_
                  have hd : dk_lies (nI im) (nI jm) mu ra = (nI 6) := by unfold dk_lies; rw [if_pos ⟨hpl_im, hpl_jm⟩, hx_im, hx_jm]; exact ly_3 hq74 hq88 hq94 hq105 hq110 hq118
                  exact bd_iret C hr hlk hw dX5_lies_132 ⟨hd.symm, _, _, hv, md_ivm hiv hof⟩
                · have hq118 := Int.not_lt.mp (fun q => hc118 (q3_gt.mpr q))
                  refine lv_iload hx hb dX5_lies_121 (lv_at hl 0 rfl) ?_
                  refine lv_if_lt (tgt := 130) hx hb dX5_lies_123 (by decide) (fun hc123 => ?_) (fun hc123 => ?_)
                  · have hq123 := q3_lt.mp hc123
                    refine lv_bipush (v := nI 6) hx hb dX5_lies_130 (by decide) ?_
                    have hd : dk_lies (nI im) (nI jm) mu ra = (nI 6) := by unfold dk_lies; rw [if_pos ⟨hpl_im, hpl_jm⟩, hx_im, hx_jm]; exact ly_4 hq74 hq88 hq94 hq105 hq110 hq118 hq123
                    exact bd_iret C hr hlk hw dX5_lies_132 ⟨hd.symm, _, _, hv, md_ivm hiv hof⟩
                  · have hq123 := Int.not_lt.mp (fun q => hc123 (q3_lt.mpr q))
                    refine lv_iconst (v := nI 5) hx hb dX5_lies_126 (by decide) ?_
                    refine lv_goto (tgt := 132) hx hb dX5_lies_127 (by decide) ?_
                    have hd : dk_lies (nI im) (nI jm) mu ra = (nI 5) := by unfold dk_lies; rw [if_pos ⟨hpl_im, hpl_jm⟩, hx_im, hx_jm]; exact ly_5 hq74 hq88 hq94 hq105 hq110 hq118 hq123
                    exact bd_iret C hr hlk hw dX5_lies_132 ⟨hd.symm, _, _, hv, md_ivm hiv hof⟩
              · have hq110 := Int.not_lt.mp (fun q => hc110 (q3_gt.mpr q))
                refine lv_iconst (v := nI 4) hx hb dX5_lies_113 (by decide) ?_
                refine lv_goto (tgt := 132) hx hb dX5_lies_114 (by decide) ?_
                have hd : dk_lies (nI im) (nI jm) mu ra = (nI 4) := by unfold dk_lies; rw [if_pos ⟨hpl_im, hpl_jm⟩, hx_im, hx_jm]; exact ly_6 hq74 hq88 hq94 hq105 hq110
                exact bd_iret C hr hlk hw dX5_lies_132 ⟨hd.symm, _, _, hv, md_ivm hiv hof⟩
          · have hq94 := q3_eq.mp hc94
            refine lv_iload hx hb dX5_lies_97 (lv_at hl 0 rfl) ?_
            refine lv_if_ne (tgt := 104) hx hb dX5_lies_99 (by decide) (fun hc99 => ?_) (fun hc99 => ?_)
            · have hq99 := mt q3_eq.mpr hc99
              refine lv_iload_n hx hb dX5_lies_104 rfl (lv_at hl 1 rfl) ?_
              refine lv_if_lt (tgt := 117) hx hb dX5_lies_105 (by decide) (fun hc105 => ?_) (fun hc105 => ?_)
              · have hq105 := q3_lt.mp hc105
                refine lv_iload_n hx hb dX5_lies_117 rfl (lv_at hl 1 rfl) ?_
                refine lv_if_gt (tgt := 130) hx hb dX5_lies_118 (by decide) (fun hc118 => ?_) (fun hc118 => ?_)
                · have hq118 := q3_gt.mp hc118
                  refine lv_bipush (v := nI 6) hx hb dX5_lies_130 (by decide) ?_
                  have hd : dk_lies (nI im) (nI jm) mu ra = (nI 6) := by unfold dk_lies; rw [if_pos ⟨hpl_im, hpl_jm⟩, hx_im, hx_jm]; exact ly_7 hq74 hq88 hq94 hq99 hq105 hq118
                  exact bd_iret C hr hlk hw dX5_lies_132 ⟨hd.symm, _, _, hv, md_ivm hiv hof⟩
                · have hq118 := Int.not_lt.mp (fun q => hc118 (q3_gt.mpr q))
                  refine lv_iload hx hb dX5_lies_121 (lv_at hl 0 rfl) ?_
                  refine lv_if_lt (tgt := 130) hx hb dX5_lies_123 (by decide) (fun hc123 => ?_) (fun hc123 => ?_)
                  · have hq123 := q3_lt.mp hc123
                    refine lv_bipush (v := nI 6) hx hb dX5_lies_130 (by decide) ?_
                    have hd : dk_lies (nI im) (nI jm) mu ra = (nI 6) := by unfold dk_lies; rw [if_pos ⟨hpl_im, hpl_jm⟩, hx_im, hx_jm]; exact ly_8 hq74 hq88 hq94 hq99 hq105 hq118 hq123
                    exact bd_iret C hr hlk hw dX5_lies_132 ⟨hd.symm, _, _, hv, md_ivm hiv hof⟩
                  · have hq123 := Int.not_lt.mp (fun q => hc123 (q3_lt.mpr q))
                    refine lv_iconst (v := nI 5) hx hb dX5_lies_126 (by decide) ?_
                    refine lv_goto (tgt := 132) hx hb dX5_lies_127 (by decide) ?_
                    have hd : dk_lies (nI im) (nI jm) mu ra = (nI 5) := by unfold dk_lies; rw [if_pos ⟨hpl_im, hpl_jm⟩, hx_im, hx_jm]; exact ly_9 hq74 hq88 hq94 hq99 hq105 hq118 hq123
                    exact bd_iret C hr hlk hw dX5_lies_132 ⟨hd.symm, _, _, hv, md_ivm hiv hof⟩
              · have hq105 := Int.not_lt.mp (fun q => hc105 (q3_lt.mpr q))
                refine lv_iload hx hb dX5_lies_108 (lv_at hl 0 rfl) ?_
                refine lv_if_gt (tgt := 117) hx hb dX5_lies_110 (by decide) (fun hc110 => ?_) (fun hc110 => ?_)
                · have hq110 := q3_gt.mp hc110
                  refine lv_iload_n hx hb dX5_lies_117 rfl (lv_at hl 1 rfl) ?_
                  refine lv_if_gt (tgt := 130) hx hb dX5_lies_118 (by decide) (fun hc118 => ?_) (fun hc118 => ?_)
                  · have hq118 := q3_gt.mp hc118
                    refine lv_bipush (v := nI 6) hx hb dX5_lies_130 (by decide) ?_
                    have hd : dk_lies (nI im) (nI jm) mu ra = (nI 6) := by unfold dk_lies; rw [if_pos ⟨hpl_im, hpl_jm⟩, hx_im, hx_jm]; exact ly_10 hq74 hq88 hq94 hq99 hq105 hq110 hq118
                    exact bd_iret C hr hlk hw dX5_lies_132 ⟨hd.symm, _, _, hv, md_ivm hiv hof⟩
                  · have hq118 := Int.not_lt.mp (fun q => hc118 (q3_gt.mpr q))
                    refine lv_iload hx hb dX5_lies_121 (lv_at hl 0 rfl) ?_
                    refine lv_if_lt (tgt := 130) hx hb dX5_lies_123 (by decide) (fun hc123 => ?_) (fun hc123 => ?_)
                    · have hq123 := q3_lt.mp hc123
                      refine lv_bipush (v := nI 6) hx hb dX5_lies_130 (by decide) ?_
                      have hd : dk_lies (nI im) (nI jm) mu ra = (nI 6) := by unfold dk_lies; rw [if_pos ⟨hpl_im, hpl_jm⟩, hx_im, hx_jm]; exact ly_11 hq74 hq88 hq94 hq99 hq105 hq110 hq118 hq123
                      exact bd_iret C hr hlk hw dX5_lies_132 ⟨hd.symm, _, _, hv, md_ivm hiv hof⟩
                    · have hq123 := Int.not_lt.mp (fun q => hc123 (q3_lt.mpr q))
                      refine lv_iconst (v := nI 5) hx hb dX5_lies_126 (by decide) ?_
                      refine lv_goto (tgt := 132) hx hb dX5_lies_127 (by decide) ?_
                      have hd : dk_lies (nI im) (nI jm) mu ra = (nI 5) := by unfold dk_lies; rw [if_pos ⟨hpl_im, hpl_jm⟩, hx_im, hx_jm]; exact ly_12 hq74 hq88 hq94 hq99 hq105 hq110 hq118 hq123
                      exact bd_iret C hr hlk hw dX5_lies_132 ⟨hd.symm, _, _, hv, md_ivm hiv hof⟩
                · have hq110 := Int.not_lt.mp (fun q => hc110 (q3_gt.mpr q))
                  refine lv_iconst (v := nI 4) hx hb dX5_lies_113 (by decide) ?_
                  refine lv_goto (tgt := 132) hx hb dX5_lies_114 (by decide) ?_
                  have hd : dk_lies (nI im) (nI jm) mu ra = (nI 4) := by unfold dk_lies; rw [if_pos ⟨hpl_im, hpl_jm⟩, hx_im, hx_jm]; exact ly_13 hq74 hq88 hq94 hq99 hq105 hq110
                  exact bd_iret C hr hlk hw dX5_lies_132 ⟨hd.symm, _, _, hv, md_ivm hiv hof⟩
            · have hq99 := q3_eq.mp hc99
              refine lv_iconst (v := nI 3) hx hb dX5_lies_102 (by decide) ?_
              have hd : dk_lies (nI im) (nI jm) mu ra = (nI 3) := by unfold dk_lies; rw [if_pos ⟨hpl_im, hpl_jm⟩, hx_im, hx_jm]; exact ly_14 hq74 hq88 hq94 hq99
              exact bd_iret C hr hlk hw dX5_lies_103 ⟨hd.symm, _, _, hv, md_ivm hiv hof⟩
        · have hq88 := Int.not_le.mp (fun q => hc88 (q3_le.mpr q))
          refine lv_iconst (v := nI 2) hx hb dX5_lies_91 (by decide) ?_
          have hd : dk_lies (nI im) (nI jm) mu ra = (nI 2) := by unfold dk_lies; rw [if_pos ⟨hpl_im, hpl_jm⟩, hx_im, hx_jm]; exact ly_15 hq74 hq88
          exact bd_iret C hr hlk hw dX5_lies_92 ⟨hd.symm, _, _, hv, md_ivm hiv hof⟩
      · have hq74 := Int.not_le.mp (fun q => hc74 (q3_ge.mpr q))
        refine lv_bipush (v := (-2)) hx hb dX5_lies_77 (by decide) ?_
        have hd : dk_lies (nI im) (nI jm) mu ra = (-2) := by unfold dk_lies; rw [if_pos ⟨hpl_im, hpl_jm⟩, hx_im, hx_jm]; exact ly_16 hq74
        exact bd_iret C hr hlk hw dX5_lies_79 ⟨hd.symm, _, _, hv, md_ivm hiv hof⟩
    · have hno := pl_f hc16
      refine lv_iconst (v := (-1)) hx hb dX5_lies_19 (by decide) ?_
      have hd : dk_lies (nI im) j mu ra = (-1) := if_neg (fun q => hno q.2)
      exact bd_iret C hr hlk hw dX5_lies_20 ⟨hd.symm, _, _, hv, md_ivm hiv hof⟩
set_option maxHeartbeats 4000000 in
set_option maxRecDepth 100000 in
/-- holds -/
theorem v5_holds (l : Launch) (K : Cxt) (E0 : Nat → va_E) (z0 : Nat → Wh) (sz : Nat) {mo : Nat → Nat} {th : Int32} {P : Nat} {rg0 : Nat → Int} (hv : md_v K E0 mo th P rg0) {mu ra : Nat → Int} (hiv : md_iv P rg0 mu ra) (k : Int32) (x y : Int64)  : Met l yX5_holds wsX5_holds ({ frames := 8, cells := 0, slots := 0, locals := 280 }) (va_Pc [.ref (mo 0), .int k, .long x, .long y] (bd_P K E0 z0 sz)) (va_Qi (md_post K mo P (dk_holds P k x.toInt y.toInt mu ra, mu, ra)) (bd_B K) (bd_A K sz)) 0 0 (bd_A K sz) := by
  refine bd_ofW (cc := cX5_holds) (maxL := 6) (ret := (some .int)) (by decide) rfl (Nat.le_of_ble_eq_true rfl) ?_
  intro p e s m below meth c ls C hr hlk hsz hw hl
  have hx := C.1
  have hb := C.2.1
  have hown := C.2.2.2.1
  have hts := C.2.2.2.2.1
  have i5 : ∀ w ∈ wsX50, w ∈ wsX5_holds := by decide +kernel
  have lk48 : Cond.fieldLink RX5 48 "BallDeskModel" "thrown" "I" ∈ wsX5_holds := by decide +kernel
  have lk23 : Cond.fieldLink RX5 23 "BallDeskModel" "places" "I" ∈ wsX5_holds := by decide +kernel
  have hl : lv_has ls 6 [(0, .ref (mo 0)), (1, .int k), (2, .long x), (4, .long y)] := hl
  obtain ⟨hP1, hP2⟩ := mv_P hv
  have hp192 : (2 : Nat) ^ P ≤ 2 ^ 192 := Nat.pow_le_pow_right (by decide) hP2
  have hP816 : P < 816 := by omega
  have hP64 : P + 64 < 816 := by omega
  have hP128 : 2 * (P + 64) < 816 := by omega
  have hof : ∀ j, j < 24 ∨ (26 ≤ j ∧ j ≤ 28) → rg0 j = rg0 j := fun _ _ => rfl
  refine lv_aload_n hx hb dX5_holds_0 rfl (lv_at hl 0 rfl) ?_
  refine lv_iconst (v := nI 0) hx hb dX5_holds_1 (by decide) ?_
  refine mv_pt C i5 hw hv dX5_holds_2 lk48 (fun E H locs hv hw => ?_)
  refine lv_iload_n hx hb dX5_holds_5 rfl (lv_at hl 1 rfl) ?_
  refine bd_sip (As := [.int k]) (rest := []) C (c5_isPlace _ _ _ _ _ k) (va_cwS 1 hts gX5_holds_X5_isPlace rfl rfl rfl (by decide +kernel) ⟨Nat.le_of_ble_eq_true rfl, Nat.le_of_ble_eq_true rfl⟩) hsz hw dX5_holds_6 rfl hl.1 rfl (Nat.le_of_ble_eq_true rfl) ⟨Nat.le_refl _, Nat.le_refl _⟩ (fun H locs hw => ?_)
  refine lv_if_eq (tgt := 19) hx hb dX5_holds_9 (by decide) (fun hc9 => ?_) (fun hc9 => ?_)
  · have hno := pl_f hc9
    refine lv_iconst (v := (-1)) hx hb dX5_holds_19 (by decide) ?_
    have hd : dk_holds P k x.toInt y.toInt mu ra = (-1) := if_neg (fun q => hno q.1)
    exact bd_iret C hr hlk hw dX5_holds_20 ⟨hd.symm, _, _, hv, md_ivm hiv hof⟩
  · have hpl_kn := pl_t hc9
    obtain ⟨kn, hkn, hk_kn, hx_kn⟩ := pl_x hpl_kn
    subst hk_kn
    obtain ⟨hbm_kn, hb0_kn, hbr_kn⟩ := md_b hP2 hiv hkn
    have f_kn : rg0 kn = mu kn := (hof kn (by omega)).trans (hiv.2.2.2 kn hkn).1
    have f_12kn : rg0 (12 + kn) = ra kn := (hof (12 + kn) (by omega)).trans (hiv.2.2.2 kn hkn).2.1
    change hid _ at hbm_kn hbr_kn
    refine lv_lload hx hb dX5_holds_12 (lv_at hl 3 rfl) ?_
    refine lv_lconst (v := lN 0) hx hb dX5_holds_14 rfl ?_
    refine bd_lcmp (v := (lg_cmp y (lN 0))) hx hb dX5_holds_15 (rfl) ?_
    refine lv_if_gt (tgt := 21) hx hb dX5_holds_16 (by decide) (fun hc16 => ?_) (fun hc16 => ?_)
    · rw [lg_q3] at hc16
      have hyp : 0 < y.toInt := q3_gt.mp hc16
      obtain ⟨he1, he2⟩ := e_b hbm_kn hbr_kn
      change hid _ at he1 he2
      refine lv_aload_n hx hb dX5_holds_21 rfl (lv_at hl 0 rfl) ?_
      refine lv_iload_n hx hb dX5_holds_22 rfl (lv_at hl 1 rfl) ?_
      refine bd_cv (As := [.int (nI kn)]) (rest := []) C (v5_ends _ _ _ _ _ hv kn hkn (by rw [f_kn]; exact hbm_kn) (by rw [f_12kn]; exact hbr_kn)) (cwV 1 hts gX5_holds_X5_ends rfl rfl rfl (by decide +kernel) ⟨Nat.le_of_ble_eq_true rfl, Nat.le_of_ble_eq_true rfl⟩) hsz hw (mv_recv C hw hv) dX5_holds_23 rfl hl.1 rfl (Nat.le_of_ble_eq_true rfl) ⟨Nat.le_refl _, Nat.le_refl _⟩ (fun E z H locs hp hw => ?_)
      obtain ⟨rg, hv, hv0_, hv1_, hf9⟩ := hp
      have fT0_ : rg 24 = (mu kn - ra kn) := hv0_.trans (by rw [f_kn, f_12kn])
      have fT1_ : rg 25 = (mu kn + ra kn) := hv1_.trans (by rw [f_kn, f_12kn])
      have f_kn : rg kn = mu kn := (hf9 kn (by omega)).trans f_kn
      have f_12kn : rg (12 + kn) = ra kn := (hf9 (12 + kn) (by omega)).trans f_12kn
      have f_24 := fT0_
      have f_25 := fT1_
      have hof : ∀ j, j < 24 ∨ (26 ≤ j ∧ j ≤ 28) → rg j = rg0 j := fun j hj => (hf9 j (hq13_0 hj)).trans (hof j hj)
      refine lv_aload_n hx hb dX5_holds_26 rfl (lv_at hl 0 rfl) ?_
      refine lv_bipush (v := nI 29) hx hb dX5_holds_27 (by decide) ?_
      refine lv_lload_n hx hb dX5_holds_29 rfl (lv_at hl 2 rfl) ?_
      refine bd_cv (As := [.int (nI 29), .long x]) (rest := []) C (v5_put _ _ _ _ _ hv 29 x (by decide)) (cwV 2 hts gX5_holds_X5_put rfl rfl rfl (by decide +kernel) ⟨Nat.le_of_ble_eq_true rfl, Nat.le_of_ble_eq_true rfl⟩) hsz hw (mv_recv C hw hv) dX5_holds_30 rfl hl.1 rfl (Nat.le_of_ble_eq_true rfl) ⟨Nat.le_refl _, Nat.le_refl _⟩ (fun E z H locs hp hw => ?_)
      obtain ⟨rg, hv, hv0_, hf9⟩ := hp
      have fT0_ : rg 29 = x.toInt := hv0_.trans (by rfl)
      have f_kn : rg kn = mu kn := (hf9 kn (by omega)).trans f_kn
      have f_12kn : rg (12 + kn) = ra kn := (hf9 (12 + kn) (by omega)).trans f_12kn
      have f_24 : rg 24 = (mu kn - ra kn) := (hf9 24 (by decide)).trans f_24
      have f_25 : rg 25 = (mu kn + ra kn) := (hf9 25 (by decide)).trans f_25
      have f_29 := fT0_
      have hof : ∀ j, j < 24 ∨ (26 ≤ j ∧ j ≤ 28) → rg j = rg0 j := fun j hj => (hf9 j (hq13_3 hj)).trans (hof j hj)
      refine lv_aload_n hx hb dX5_holds_33 rfl (lv_at hl 0 rfl) ?_
      refine lv_bipush (v := nI 29) hx hb dX5_holds_34 (by decide) ?_
      refine lv_bipush (v := nI 29) hx hb dX5_holds_36 (by decide) ?_
      refine lv_aload_n hx hb dX5_holds_38 rfl (lv_at hl 0 rfl) ?_
      refine mv_g C i5 hw hv 1 (by decide) (v := .int (nI P)) rfl dX5_holds_39 lk23 ?_
      refine bd_cv (As := [.int (nI 29), .int (nI 29), .int (nI P)]) (rest := []) C (v5_up _ _ _ _ _ hv 29 29 P (by decide) (by decide) hP816 (by rw [f_29]; exact (b34 (Nat.le_trans (Nat.mul_le_mul (i64_b x) hp192) (by decide +kernel))))) (cwV 3 hts gX5_holds_X5_up rfl rfl rfl (by decide +kernel) ⟨Nat.le_of_ble_eq_true rfl, Nat.le_of_ble_eq_true rfl⟩) hsz hw (mv_recv C hw hv) dX5_holds_42 rfl hl.1 rfl (Nat.le_of_ble_eq_true rfl) ⟨Nat.le_refl _, Nat.le_refl _⟩ (fun E z H locs hp hw => ?_)
      obtain ⟨rg, hv, hv0_, hf9⟩ := hp
      have fT0_ : rg 29 = (x.toInt * dk_p P) := hv0_.trans (by rw [f_29])
      have f_kn : rg kn = mu kn := (hf9 kn (by omega)).trans f_kn
      have f_12kn : rg (12 + kn) = ra kn := (hf9 (12 + kn) (by omega)).trans f_12kn
      have f_24 : rg 24 = (mu kn - ra kn) := (hf9 24 (by decide)).trans f_24
      have f_25 : rg 25 = (mu kn + ra kn) := (hf9 25 (by decide)).trans f_25
      have f_29 := fT0_
      have hof : ∀ j, j < 24 ∨ (26 ≤ j ∧ j ≤ 28) → rg j = rg0 j := fun j hj => (hf9 j (hq13_3 hj)).trans (hof j hj)
      refine lv_aload_n hx hb dX5_holds_45 rfl (lv_at hl 0 rfl) ?_
      refine lv_bipush (v := nI 30) hx hb dX5_holds_46 (by decide) ?_
      refine lv_lload hx hb dX5_holds_48 (lv_at hl 3 rfl) ?_
      refine bd_cv (As := [.int (nI 30), .long y]) (rest := []) C (v5_put _ _ _ _ _ hv 30 y (by decide)) (cwV 2 hts gX5_holds_X5_put rfl rfl rfl (by decide +kernel) ⟨Nat.le_of_ble_eq_true rfl, Nat.le_of_ble_eq_true rfl⟩) hsz hw (mv_recv C hw hv) dX5_holds_50 rfl hl.1 rfl (Nat.le_of_ble_eq_true rfl) ⟨Nat.le_refl _, Nat.le_refl _⟩ (fun E z H locs hp hw => ?_)
      obtain ⟨rg, hv, hv0_, hf9⟩ := hp
      have fT0_ : rg 30 = y.toInt := hv0_.trans (by rfl)
      have f_kn : rg kn = mu kn := (hf9 kn (by omega)).trans f_kn
      have f_12kn : rg (12 + kn) = ra kn := (hf9 (12 + kn) (by omega)).trans f_12kn
      have f_24 : rg 24 = (mu kn - ra kn) := (hf9 24 (by decide)).trans f_24
      have f_25 : rg 25 = (mu kn + ra kn) := (hf9 25 (by decide)).trans f_25
      have f_29 : rg 29 = (x.toInt * dk_p P) := (hf9 29 (by decide)).trans f_29
      have f_30 := fT0_
      have hof : ∀ j, j < 24 ∨ (26 ≤ j ∧ j ≤ 28) → rg j = rg0 j := fun j hj => (hf9 j (hq13_4 hj)).trans (hof j hj)
      refine lv_aload_n hx hb dX5_holds_53 rfl (lv_at hl 0 rfl) ?_
      refine lv_bipush (v := nI 24) hx hb dX5_holds_54 (by decide) ?_
      refine lv_bipush (v := nI 24) hx hb dX5_holds_56 (by decide) ?_
      refine lv_bipush (v := nI 30) hx hb dX5_holds_58 (by decide) ?_
      refine bd_cv (As := [.int (nI 24), .int (nI 24), .int (nI 30)]) (rest := []) C (v5_product _ _ _ _ _ hv 24 24 30 (by decide) (by decide) (by decide) (by rw [f_24, f_30]; exact (b34 (Nat.le_trans (mul_b he1 (i64_b y)) (by decide +kernel))))) (cwV 3 hts gX5_holds_X5_product rfl rfl rfl (by decide +kernel) ⟨Nat.le_of_ble_eq_true rfl, Nat.le_of_ble_eq_true rfl⟩) hsz hw (mv_recv C hw hv) dX5_holds_60 rfl hl.1 rfl (Nat.le_of_ble_eq_true rfl) ⟨Nat.le_refl _, Nat.le_refl _⟩ (fun E z H locs hp hw => ?_)
      obtain ⟨rg, hv, hv0_, hf9⟩ := hp
      have fT0_ : rg 24 = ((mu kn - ra kn) * y.toInt) := hv0_.trans (by rw [f_24, f_30])
      have f_kn : rg kn = mu kn := (hf9 kn (by omega)).trans f_kn
      have f_12kn : rg (12 + kn) = ra kn := (hf9 (12 + kn) (by omega)).trans f_12kn
      have f_25 : rg 25 = (mu kn + ra kn) := (hf9 25 (by decide)).trans f_25
      have f_29 : rg 29 = (x.toInt * dk_p P) := (hf9 29 (by decide)).trans f_29
      have f_30 : rg 30 = y.toInt := (hf9 30 (by decide)).trans f_30
      have f_24 := fT0_
      have hof : ∀ j, j < 24 ∨ (26 ≤ j ∧ j ≤ 28) → rg j = rg0 j := fun j hj => (hf9 j (hq13_5 hj)).trans (hof j hj)
      refine lv_aload_n hx hb dX5_holds_63 rfl (lv_at hl 0 rfl) ?_
      refine lv_bipush (v := nI 25) hx hb dX5_holds_64 (by decide) ?_
      refine lv_bipush (v := nI 25) hx hb dX5_holds_66 (by decide) ?_
      refine lv_bipush (v := nI 30) hx hb dX5_holds_68 (by decide) ?_
      refine bd_cv (As := [.int (nI 25), .int (nI 25), .int (nI 30)]) (rest := []) C (v5_product _ _ _ _ _ hv 25 25 30 (by decide) (by decide) (by decide) (by rw [f_25, f_30]; exact (b34 (Nat.le_trans (mul_b he2 (i64_b y)) (by decide +kernel))))) (cwV 3 hts gX5_holds_X5_product rfl rfl rfl (by decide +kernel) ⟨Nat.le_of_ble_eq_true rfl, Nat.le_of_ble_eq_true rfl⟩) hsz hw (mv_recv C hw hv) dX5_holds_70 rfl hl.1 rfl (Nat.le_of_ble_eq_true rfl) ⟨Nat.le_refl _, Nat.le_refl _⟩ (fun E z H locs hp hw => ?_)
      obtain ⟨rg, hv, hv0_, hf9⟩ := hp
      have fT0_ : rg 25 = ((mu kn + ra kn) * y.toInt) := hv0_.trans (by rw [f_25, f_30])
      have f_kn : rg kn = mu kn := (hf9 kn (by omega)).trans f_kn
      have f_12kn : rg (12 + kn) = ra kn := (hf9 (12 + kn) (by omega)).trans f_12kn
      have f_29 : rg 29 = (x.toInt * dk_p P) := (hf9 29 (by decide)).trans f_29
      have f_30 : rg 30 = y.toInt := (hf9 30 (by decide)).trans f_30
      have f_24 : rg 24 = ((mu kn - ra kn) * y.toInt) := (hf9 24 (by decide)).trans f_24
      have f_25 := fT0_
      have hof : ∀ j, j < 24 ∨ (26 ≤ j ∧ j ≤ 28) → rg j = rg0 j := fun j hj => (hf9 j (hq13_6 hj)).trans (hof j hj)
      refine lv_aload_n hx hb dX5_holds_73 rfl (lv_at hl 0 rfl) ?_
      refine lv_bipush (v := nI 24) hx hb dX5_holds_74 (by decide) ?_
      refine lv_bipush (v := nI 29) hx hb dX5_holds_76 (by decide) ?_
      refine bd_cip (As := [.int (nI 24), .int (nI 29)]) (rest := []) C (v5_compare _ _ _ _ _ hv 24 29 (by omega) (by omega)) (cwV 2 hts gX5_holds_X5_compare rfl rfl rfl (by decide +kernel) ⟨Nat.le_of_ble_eq_true rfl, Nat.le_of_ble_eq_true rfl⟩) hsz hw (mv_recv C hw hv) dX5_holds_78 rfl hl.1 rfl (Nat.le_of_ble_eq_true rfl) ⟨Nat.le_refl _, Nat.le_refl _⟩ (fun H locs hw => ?_)
      rw [f_24, f_29]
      refine lv_if_gt (tgt := 99) hx hb dX5_holds_81 (by decide) (fun hc81 => ?_) (fun hc81 => ?_)
      · have hq81 := q3_gt.mp hc81
        refine lv_iconst (v := nI 0) hx hb dX5_holds_99 (by decide) ?_
        have hd : dk_holds P (nI kn) x.toInt y.toInt mu ra = (nI 0) := by unfold dk_holds; rw [if_pos ⟨hpl_kn, hyp⟩, hx_kn]; exact if_neg (fun q => absurd q.1 (Int.not_le.mpr hq81))
        exact bd_iret C hr hlk hw dX5_holds_100 ⟨hd.symm, _, _, hv, md_ivm hiv hof⟩
      · have hq81 := Int.not_lt.mp (fun q => hc81 (q3_gt.mpr q))
        refine lv_aload_n hx hb dX5_holds_84 rfl (lv_at hl 0 rfl) ?_
        refine lv_bipush (v := nI 29) hx hb dX5_holds_85 (by decide) ?_
        refine lv_bipush (v := nI 25) hx hb dX5_holds_87 (by decide) ?_
        refine bd_cip (As := [.int (nI 29), .int (nI 25)]) (rest := []) C (v5_compare _ _ _ _ _ hv 29 25 (by omega) (by omega)) (cwV 2 hts gX5_holds_X5_compare rfl rfl rfl (by decide +kernel) ⟨Nat.le_of_ble_eq_true rfl, Nat.le_of_ble_eq_true rfl⟩) hsz hw (mv_recv C hw hv) dX5_holds_89 rfl hl.1 rfl (Nat.le_of_ble_eq_true rfl) ⟨Nat.le_refl _, Nat.le_refl _⟩ (fun H locs hw => ?_)
        rw [f_29, f_25]
        refine lv_if_gt (tgt := 99) hx hb dX5_holds_92 (by decide) (fun hc92 => ?_) (fun hc92 => ?_)
        · have hq92 := q3_gt.mp hc92
          refine lv_iconst (v := nI 0) hx hb dX5_holds_99 (by decide) ?_
          have hd : dk_holds P (nI kn) x.toInt y.toInt mu ra = (nI 0) := by unfold dk_holds; rw [if_pos ⟨hpl_kn, hyp⟩, hx_kn]; exact if_neg (fun q => absurd q.2 (Int.not_le.mpr hq92))
          exact bd_iret C hr hlk hw dX5_holds_100 ⟨hd.symm, _, _, hv, md_ivm hiv hof⟩
        · have hq92 := Int.not_lt.mp (fun q => hc92 (q3_gt.mpr q))
          refine lv_iconst (v := nI 1) hx hb dX5_holds_95 (by decide) ?_
          refine lv_goto (tgt := 100) hx hb dX5_holds_96 (by decide) ?_
          have hd : dk_holds P (nI kn) x.toInt y.toInt mu ra = (nI 1) := by unfold dk_holds; rw [if_pos ⟨hpl_kn, hyp⟩, hx_kn]; exact if_pos ⟨hq81, hq92⟩
          exact bd_iret C hr hlk hw dX5_holds_100 ⟨hd.symm, _, _, hv, md_ivm hiv hof⟩
    · rw [lg_q3] at hc16
      have hno : ¬ 0 < y.toInt := fun q => hc16 (q3_gt.mpr q)
      refine lv_iconst (v := (-1)) hx hb dX5_holds_19 (by decide) ?_
      have hd : dk_holds P (nI kn) x.toInt y.toInt mu ra = (-1) := if_neg (fun q => hno q.2)
      exact bd_iret C hr hlk hw dX5_holds_20 ⟨hd.symm, _, _, hv, md_ivm hiv hof⟩
set_option maxHeartbeats 4000000 in
set_option maxRecDepth 100000 in
/-- tens -/
theorem v5_tens (l : Launch) (K : Cxt) (E0 : Nat → va_E) (z0 : Nat → Wh) (sz : Nat) {mo : Nat → Nat} {th : Int32} {P : Nat} {rg0 : Nat → Int} (hv : md_v K E0 mo th P rg0) (t dn : Nat) (ht60 : t < 60 ∧ t ≠ 32) (hdn : dn ≤ 60) (hb1 : (rg0 t).natAbs ≤ 2 ^ 240) : Met l yX5_tens wsX5_tens ({ frames := 3, cells := 0, slots := 0, locals := 100 }) (va_Pc [.ref (mo 0), .int (nI t), .int (nI dn)] (bd_P K E0 z0 sz)) (va_Qv (fun u => ∃ rg : Nat → Int, md_v K u.1 mo th P rg ∧ rg t = (rg0 t * ((10 ^ dn : Nat) : Int)) ∧ ∀ j, j ≠ t ∧ j ≠ 32 → rg j = rg0 j) (bd_B K) (bd_A K sz)) 0 0 (bd_A K sz) := by
  refine bd_ofW (cc := cX5_tens) (maxL := 4) (ret := none) (by decide) rfl (Nat.le_of_ble_eq_true rfl) ?_
  intro p e s m below meth c ls C hr hlk hsz hw hl
  have hx := C.1
  have hb := C.2.1
  have hown := C.2.2.2.1
  have hts := C.2.2.2.2.1
  have hl : lv_has ls 4 [(0, .ref (mo 0)), (1, .int (nI t)), (2, .int (nI dn))] := hl
  obtain ⟨hP1, hP2⟩ := mv_P hv
  change hid _ at hb1
  have hP64 : P + 64 < 816 := by omega
  have hP128 : 2 * (P + 64) < 816 := by omega
  have f_t : rg0 t = rg0 t := rfl
  have hof : ∀ j, j ≠ t ∧ j ≠ 32 → rg0 j = rg0 j := fun _ _ => rfl
  refine lv_iconst (v := nI 0) hx hb dX5_tens_0 (by decide) ?_
  refine lv_istore_n (lv' := [(3, .int (nI 0)), (0, .ref (mo 0)), (1, .int (nI t)), (2, .int (nI dn))]) hx hb dX5_tens_1 rfl hl (by decide) rfl (fun ls hl => ?_)
  suffices hloop : ∀ (d9 i : Nat) (E : Nat → va_E) (z : Nat → Wh) (rg : Nat → Int) (ls : Array Slot) (H : Heap) (locs : List Loc), i + d9 = dn → md_v K E mo th P rg → (rg t = (rg0 t * ((10 ^ i : Nat) : Int))) → (∀ j, j ≠ t ∧ j ≠ 32 → rg j = rg0 j) → lv_has ls 4 [(3, .int (nI i)), (0, .ref (mo 0)), (1, .int (nI t)), (2, .int (nI dn))] → bd_W K E z (bd_A K sz) s.heap H locs → W p l e (headSpec wsX5_tens ({ frames := 3, cells := 0, slots := 0, locals := 100 })).room s m [.ref (mo 0), .int (nI t), .int (nI dn)].toArray below meth c H locs 0 0 (MQ below (va_Qv (fun u => ∃ rg : Nat → Int, md_v K u.1 mo th P rg ∧ rg t = (rg0 t * ((10 ^ dn : Nat) : Int)) ∧ ∀ j, j ≠ t ∧ j ≠ 32 → rg j = rg0 j) (bd_B K) (bd_A K sz)) [.ref (mo 0), .int (nI t), .int (nI dn)].toArray s 0 0 (bd_A K sz)) (F0 m 2 ls []) from hloop dn 0 E0 z0 rg0 ls _ _ (by omega) hv (f_t.trans su_0)  hof (lv_sub hl [0, 1, 2, 3] rfl) hw
  clear hw hl ls hv hof f_t 
  intro d9
  induction d9 using Nat.strongRecOn with
  | ind d9 ih =>
    intro i E z rg ls H locs hjd9 hv f_t  hof hl hw
    refine lv_iload_n hx hb dX5_tens_2 rfl (lv_at hl 0 rfl) ?_
    refine lv_iload_n hx hb dX5_tens_3 rfl (lv_at hl 3 rfl) ?_
    refine bd_ige (h1 := (by omega)) (h2 := (by omega)) (tgt := 21) hx hb dX5_tens_4 (by decide) (fun hc4 => ?_) (fun hc4 => ?_)
    · have hin : i = dn := by omega
      rw [hin] at f_t
      exact bd_vret C hr hlk hw dX5_tens_21 (⟨rg, hv, f_t, hof⟩)
    · refine lv_aload_n hx hb dX5_tens_7 rfl (lv_at hl 1 rfl) ?_
      refine lv_iload_n hx hb dX5_tens_8 rfl (lv_at hl 2 rfl) ?_
      refine lv_iload_n hx hb dX5_tens_9 rfl (lv_at hl 2 rfl) ?_
      refine lv_bipush (v := nI 10) hx hb dX5_tens_10 (by decide) ?_
      refine bd_cv (As := [.int (nI t), .int (nI t), .int (nI 10)]) (rest := []) C (v5_timesSmall _ _ _ _ _ hv t t (nI 10) (by omega) (by omega) (by omega) (by rw [f_t]; exact (b34 (tn_b hb1 (by omega))))) (cwV 3 hts gX5_tens_X5_timesSmall rfl rfl rfl (by decide +kernel) ⟨Nat.le_of_ble_eq_true rfl, Nat.le_of_ble_eq_true rfl⟩) hsz hw (mv_recv C hw hv) dX5_tens_12 rfl hl.1 rfl (Nat.le_of_ble_eq_true rfl) ⟨Nat.le_refl _, Nat.le_refl _⟩ (fun E z H locs hp hw => ?_)
      obtain ⟨rg, hv, hv0_, hf9⟩ := hp
      have fT0_ : rg t = (rg0 t * ((10 ^ (i + 1) : Nat) : Int)) := hv0_.trans (by rw [f_t]; exact su_m)
      have f_t := fT0_
      have hof : ∀ j, j ≠ t ∧ j ≠ 32 → rg j = rg0 j := fun j hj => (hf9 j (hq13_7 hj) (hq13_8 hj)).trans (hof j hj)
      refine lv_iinc (v := (nI (i + 1))) (lv' := [(3, .int (nI (i + 1))), (0, .ref (mo 0)), (1, .int (nI t)), (2, .int (nI dn))]) hx hb dX5_tens_15 hl (k := 0) rfl (nI_1 _) (by decide) rfl (fun ls hl => ?_)
      refine lv_goto (tgt := 2) hx hb dX5_tens_18 (by decide) ?_
      exact ih (d9 - 1) (by omega) (i + 1) E z rg ls H locs (by omega) hv f_t  hof (lv_sub hl [0, 1, 2, 3] rfl) hw
set_option maxHeartbeats 4000000 in
set_option maxRecDepth 100000 in
/-- tens(t, d), d not above 0 -/
theorem v5_tensN (l : Launch) (K : Cxt) (E0 : Nat → va_E) (z0 : Nat → Wh) (sz : Nat) {mo : Nat → Nat} {th : Int32} {P : Nat} {rg0 : Nat → Int} (hv : md_v K E0 mo th P rg0) (t dm : Nat) (hdm : dm ≤ 14) : Met l yX5_tens wsX5_tens ({ frames := 3, cells := 0, slots := 0, locals := 100 }) (va_Pc [.ref (mo 0), .int (nI t), .int (-(nI dm))] (bd_P K E0 z0 sz)) (va_Qv (fun u => u.1 = E0) (bd_B K) (bd_A K sz)) 0 0 (bd_A K sz) := by
  refine bd_ofW (cc := cX5_tens) (maxL := 4) (ret := none) (by decide) rfl (Nat.le_of_ble_eq_true rfl) ?_
  intro p e s m below meth c ls C hr hlk hsz hw hl
  have hx := C.1
  have hb := C.2.1
  have hown := C.2.2.2.1
  have hts := C.2.2.2.2.1
  have hl : lv_has ls 4 [(0, .ref (mo 0)), (1, .int (nI t)), (2, .int (-(nI dm)))] := hl
  obtain ⟨hP1, hP2⟩ := mv_P hv
  refine lv_iconst (v := nI 0) hx hb dX5_tens_0 (by decide) ?_
  refine lv_istore_n (lv' := [(3, .int (nI 0)), (0, .ref (mo 0)), (1, .int (nI t)), (2, .int (-(nI dm)))]) hx hb dX5_tens_1 rfl hl (by decide) rfl (fun ls hl => ?_)
  refine lv_iload_n hx hb dX5_tens_2 rfl (lv_at hl 0 rfl) ?_
  refine lv_iload_n hx hb dX5_tens_3 rfl (lv_at hl 3 rfl) ?_
  refine lv_icmp_ge (tgt := 21) hx hb dX5_tens_4 (by decide) (fun hc4 => ?_) (fun hc4 => ?_)
  · exact bd_vret C hr hlk hw dX5_tens_21 (rfl)
  · exact absurd (ng_le0 (by omega)) hc4
set_option maxHeartbeats 4000000 in
set_option maxRecDepth 100000 in
/-- digit -/
theorem v5_digit (l : Launch) (K : Cxt) (E0 : Nat → va_E) (z0 : Nat → Wh) (sz : Nat) {mo : Nat → Nat} {th : Int32} {P : Nat} {rg0 : Nat → Int} (hv : md_v K E0 mo th P rg0) {mu ra : Nat → Int} (hiv : md_iv P rg0 mu ra) (k d : Int32)  : Met l yX5_digit wsX5_digit ({ frames := 8, cells := 0, slots := 0, locals := 280 }) (va_Pc [.ref (mo 0), .int k, .int d] (bd_P K E0 z0 sz)) (va_Qi (md_post K mo P (dk_digit P k d mu, mu, ra)) (bd_B K) (bd_A K sz)) 0 0 (bd_A K sz) := by
  refine bd_ofW (cc := cX5_digit) (maxL := 4) (ret := (some .int)) (by decide) rfl (Nat.le_of_ble_eq_true rfl) ?_
  intro p e s m below meth c ls C hr hlk hsz hw hl
  have hx := C.1
  have hb := C.2.1
  have hown := C.2.2.2.1
  have hts := C.2.2.2.2.1
  have i5 : ∀ w ∈ wsX50, w ∈ wsX5_digit := by decide +kernel
  have lk48 : Cond.fieldLink RX5 48 "BallDeskModel" "thrown" "I" ∈ wsX5_digit := by decide +kernel
  have lk23 : Cond.fieldLink RX5 23 "BallDeskModel" "places" "I" ∈ wsX5_digit := by decide +kernel
  have hl : lv_has ls 4 [(0, .ref (mo 0)), (1, .int k), (2, .int d)] := hl
  obtain ⟨hP1, hP2⟩ := mv_P hv
  have hp192 : (2 : Nat) ^ P ≤ 2 ^ 192 := Nat.pow_le_pow_right (by decide) hP2
  have hP816 : P < 816 := by omega
  have hP64 : P + 64 < 816 := by omega
  have hP128 : 2 * (P + 64) < 816 := by omega
  have hof : ∀ j, j < 24 ∨ (26 ≤ j ∧ j ≤ 28) → rg0 j = rg0 j := fun _ _ => rfl
  refine lv_aload_n hx hb dX5_digit_0 rfl (lv_at hl 0 rfl) ?_
  refine lv_iconst (v := nI 0) hx hb dX5_digit_1 (by decide) ?_
  refine mv_pt C i5 hw hv dX5_digit_2 lk48 (fun E H locs hv hw => ?_)
  refine lv_iload_n hx hb dX5_digit_5 rfl (lv_at hl 1 rfl) ?_
  refine bd_sip (As := [.int k]) (rest := []) C (c5_isPlace _ _ _ _ _ k) (va_cwS 1 hts gX5_digit_X5_isPlace rfl rfl rfl (by decide +kernel) ⟨Nat.le_of_ble_eq_true rfl, Nat.le_of_ble_eq_true rfl⟩) hsz hw dX5_digit_6 rfl hl.1 rfl (Nat.le_of_ble_eq_true rfl) ⟨Nat.le_refl _, Nat.le_refl _⟩ (fun H locs hw => ?_)
  refine lv_if_eq (tgt := 24) hx hb dX5_digit_9 (by decide) (fun hc9 => ?_) (fun hc9 => ?_)
  · have hno := pl_f hc9
    refine lv_iconst (v := (-1)) hx hb dX5_digit_24 (by decide) ?_
    have hd : dk_digit P k d mu = (-1) := if_neg (fun q => hno q.1)
    exact bd_iret C hr hlk hw dX5_digit_25 ⟨hd.symm, _, _, hv, md_ivm hiv hof⟩
  · have hpl_kn := pl_t hc9
    obtain ⟨kn, hkn, hk_kn, hx_kn⟩ := pl_x hpl_kn
    subst hk_kn
    obtain ⟨hbm_kn, hb0_kn, hbr_kn⟩ := md_b hP2 hiv hkn
    have f_kn : rg0 kn = mu kn := (hof kn (by omega)).trans (hiv.2.2.2 kn hkn).1
    have f_12kn : rg0 (12 + kn) = ra kn := (hof (12 + kn) (by omega)).trans (hiv.2.2.2 kn hkn).2.1
    change hid _ at hbm_kn hbr_kn
    refine lv_iload_n hx hb dX5_digit_12 rfl (lv_at hl 2 rfl) ?_
    refine lv_bipush (v := (-14)) hx hb dX5_digit_13 (by decide) ?_
    refine lv_icmp_lt (tgt := 24) hx hb dX5_digit_15 (by decide) (fun hc15 => ?_) (fun hc15 => ?_)
    · have hno : ¬ -14 ≤ d.toInt := Int.not_le.mpr (Int32.lt_iff_toInt_lt.mp hc15)
      refine lv_iconst (v := (-1)) hx hb dX5_digit_24 (by decide) ?_
      have hd : dk_digit P (nI kn) d mu = (-1) := if_neg (fun q => hno q.2.1)
      exact bd_iret C hr hlk hw dX5_digit_25 ⟨hd.symm, _, _, hv, md_ivm hiv hof⟩
    · have hd14 : -14 ≤ d.toInt := Int.not_lt.mp (fun q => hc15 (Int32.lt_iff_toInt_lt.mpr q))
      refine lv_iload_n hx hb dX5_digit_18 rfl (lv_at hl 2 rfl) ?_
      refine lv_bipush (v := nI 60) hx hb dX5_digit_19 (by decide) ?_
      refine lv_icmp_le (tgt := 26) hx hb dX5_digit_21 (by decide) (fun hc21 => ?_) (fun hc21 => ?_)
      · have hd60 : d.toInt ≤ 60 := Int32.le_iff_toInt_le.mp hc21
        rcases dg_cs hd14 hd60 with ⟨dn, hdn, hde⟩ | ⟨dm, hdm1, hdm2, hde⟩
        · subst hde
          refine lv_aload_n hx hb dX5_digit_26 rfl (lv_at hl 0 rfl) ?_
          refine lv_bipush (v := nI 29) hx hb dX5_digit_27 (by decide) ?_
          refine lv_iload_n hx hb dX5_digit_29 rfl (lv_at hl 1 rfl) ?_
          refine bd_cv (As := [.int (nI 29), .int (nI kn)]) (rest := []) C (v5_size _ _ _ _ _ hv 29 kn (by decide) (by omega) (by omega)) (cwV 2 hts gX5_digit_X5_size rfl rfl rfl (by decide +kernel) ⟨Nat.le_of_ble_eq_true rfl, Nat.le_of_ble_eq_true rfl⟩) hsz hw (mv_recv C hw hv) dX5_digit_30 rfl hl.1 rfl (Nat.le_of_ble_eq_true rfl) ⟨Nat.le_refl _, Nat.le_refl _⟩ (fun E z H locs hp hw => ?_)
          obtain ⟨rg, hv, hv0_, hf9⟩ := hp
          have fT0_ : rg 29 = ((mu kn).natAbs : Int) := hv0_.trans (by rw [f_kn])
          have f_kn : rg kn = mu kn := (hf9 kn (by omega)).trans f_kn
          have f_12kn : rg (12 + kn) = ra kn := (hf9 (12 + kn) (by omega)).trans f_12kn
          have f_29 := fT0_
          have hof : ∀ j, j < 24 ∨ (26 ≤ j ∧ j ≤ 28) → rg j = rg0 j := fun j hj => (hf9 j (hq13_3 hj)).trans (hof j hj)
          refine lv_aload_n hx hb dX5_digit_33 rfl (lv_at hl 0 rfl) ?_
          refine lv_bipush (v := nI 29) hx hb dX5_digit_34 (by decide) ?_
          refine lv_iload_n hx hb dX5_digit_36 rfl (lv_at hl 2 rfl) ?_
          refine bd_cv (As := [.int (nI 29), .int (nI dn)]) (rest := []) C (v5_tens _ _ _ _ _ hv 29 dn (by decide) hdn (by rw [f_29, Int.natAbs_natCast]; exact hbm_kn)) (cwV 2 hts gX5_digit_X5_tens rfl rfl rfl (by decide +kernel) ⟨Nat.le_of_ble_eq_true rfl, Nat.le_of_ble_eq_true rfl⟩) hsz hw (mv_recv C hw hv) dX5_digit_37 rfl hl.1 rfl (Nat.le_of_ble_eq_true rfl) ⟨Nat.le_refl _, Nat.le_refl _⟩ (fun E z H locs hp hw => ?_)
          obtain ⟨rg, hv, hv0_, hf9⟩ := hp
          have fT0_ : rg 29 = (((mu kn).natAbs * 10 ^ dn : Nat) : Int) := hv0_.trans (by rw [f_29, ← Int.natCast_mul])
          have f_kn : rg kn = mu kn := (hf9 kn (by omega)).trans f_kn
          have f_12kn : rg (12 + kn) = ra kn := (hf9 (12 + kn) (by omega)).trans f_12kn
          have f_29 := fT0_
          have hof : ∀ j, j < 24 ∨ (26 ≤ j ∧ j ≤ 28) → rg j = rg0 j := fun j hj => (hf9 j (hq13_9 hj)).trans (hof j hj)
          refine lv_aload_n hx hb dX5_digit_40 rfl (lv_at hl 0 rfl) ?_
          refine lv_bipush (v := nI 29) hx hb dX5_digit_41 (by decide) ?_
          refine lv_bipush (v := nI 29) hx hb dX5_digit_43 (by decide) ?_
          refine lv_aload_n hx hb dX5_digit_45 rfl (lv_at hl 0 rfl) ?_
          refine mv_g C i5 hw hv 1 (by decide) (v := .int (nI P)) rfl dX5_digit_46 lk23 ?_
          refine bd_cv (As := [.int (nI 29), .int (nI 29), .int (nI P)]) (rest := []) C (v5_down _ _ _ _ _ hv 29 29 P (by decide) (by decide) (by decide) hP816) (cwV 3 hts gX5_digit_X5_down rfl rfl rfl (by decide +kernel) ⟨Nat.le_of_ble_eq_true rfl, Nat.le_of_ble_eq_true rfl⟩) hsz hw (mv_recv C hw hv) dX5_digit_49 rfl hl.1 rfl (Nat.le_of_ble_eq_true rfl) ⟨Nat.le_refl _, Nat.le_refl _⟩ (fun E z H locs hp hw => ?_)
          obtain ⟨rg, hv, hv0_, hf9⟩ := hp
          have fT0_ : rg 29 = (((mu kn).natAbs * 10 ^ dn / 2 ^ P : Nat) : Int) := hv0_.trans (by rw [f_29]; rfl)
          have f_kn : rg kn = mu kn := (hf9 kn (by omega) (by omega)).trans f_kn
          have f_12kn : rg (12 + kn) = ra kn := (hf9 (12 + kn) (by omega) (by omega)).trans f_12kn
          have f_29 := fT0_
          have hof : ∀ j, j < 24 ∨ (26 ≤ j ∧ j ≤ 28) → rg j = rg0 j := fun j hj => (hf9 j (hq13_3 hj) (hq13_10 hj)).trans (hof j hj)
          refine lv_iconst (v := nI 0) hx hb dX5_digit_52 (by decide) ?_
          refine lv_istore_n (lv' := [(3, .int (nI 0)), (0, .ref (mo 0)), (1, .int (nI kn)), (2, .int (nI dn))]) hx hb dX5_digit_53 rfl hl (by decide) rfl (fun ls hl => ?_)
          refine lv_iload_n hx hb dX5_digit_54 rfl (lv_at hl 0 rfl) ?_
          refine lv_iload_n hx hb dX5_digit_55 rfl (lv_at hl 3 rfl) ?_
          refine bd_ile (h1 := by omega) (h2 := by omega) (tgt := 75) hx hb dX5_digit_56 (by decide) (fun hc56 => ?_) (fun hc56 => ?_)
          · refine lv_aload_n hx hb dX5_digit_75 rfl (lv_at hl 1 rfl) ?_
            refine lv_bipush (v := nI 30) hx hb dX5_digit_76 (by decide) ?_
            refine lv_bipush (v := nI 29) hx hb dX5_digit_78 (by decide) ?_
            refine lv_bipush (v := nI 10) hx hb dX5_digit_80 (by decide) ?_
            obtain ⟨V9, hV9_⟩ : ∃ y, y = (mu kn).natAbs * 10 ^ dn / 2 ^ P := ⟨_, rfl⟩
            rw [← hV9_] at f_29
            have hVb : V9 ≤ 2 ^ 500 := by rw [hV9_]; exact dg_v1 hbm_kn (by omega)
            change hid _ at hVb
            refine bd_cv (As := [.int (nI 30), .int (nI 29), .int (nI 10)]) (rest := []) C (v5_divideSmall _ _ _ _ _ hv 30 29 10 (by decide) (by decide) (by decide) (by decide) (by decide)) (cwV 3 hts gX5_digit_X5_divideSmall rfl rfl rfl (by decide +kernel) ⟨Nat.le_of_ble_eq_true rfl, Nat.le_of_ble_eq_true rfl⟩) hsz hw (mv_recv C hw hv) dX5_digit_82 rfl hl.1 rfl (Nat.le_of_ble_eq_true rfl) ⟨Nat.le_refl _, Nat.le_refl _⟩ (fun E z H locs hp hw => ?_)
            obtain ⟨rg, hv, hv0_, hf9⟩ := hp
            have fT0_ : rg 30 = ((V9 / 10 : Nat) : Int) := hv0_.trans (by rw [f_29]; exact (Int.natCast_ediv _ _).symm)
            have f_29 : rg 29 = (V9 : Int) := (hf9 29 (by decide) (by decide)).trans f_29
            have f_30 := fT0_
            have hof : ∀ j, j < 24 ∨ (26 ≤ j ∧ j ≤ 28) → rg j = rg0 j := fun j hj => (hf9 j (hq13_4 hj) (hq13_10 hj)).trans (hof j hj)
            refine lv_aload_n hx hb dX5_digit_85 rfl (lv_at hl 1 rfl) ?_
            refine lv_bipush (v := nI 30) hx hb dX5_digit_86 (by decide) ?_
            refine lv_bipush (v := nI 30) hx hb dX5_digit_88 (by decide) ?_
            refine lv_bipush (v := nI 10) hx hb dX5_digit_90 (by decide) ?_
            refine bd_cv (As := [.int (nI 30), .int (nI 30), .int (nI 10)]) (rest := []) C (v5_timesSmall _ _ _ _ _ hv 30 30 (nI 10) (by decide) (by decide) (by decide) (by rw [f_30]; exact (b34 (dg_b1 hVb)))) (cwV 3 hts gX5_digit_X5_timesSmall rfl rfl rfl (by decide +kernel) ⟨Nat.le_of_ble_eq_true rfl, Nat.le_of_ble_eq_true rfl⟩) hsz hw (mv_recv C hw hv) dX5_digit_92 rfl hl.1 rfl (Nat.le_of_ble_eq_true rfl) ⟨Nat.le_refl _, Nat.le_refl _⟩ (fun E z H locs hp hw => ?_)
            obtain ⟨rg, hv, hv0_, hf9⟩ := hp
            have fT0_ : rg 30 = ((V9 / 10 * 10 : Nat) : Int) := hv0_.trans (by rw [f_30]; rw [n10, Int.natCast_mul]; rfl)
            have f_29 : rg 29 = (V9 : Int) := (hf9 29 (by decide) (by decide)).trans f_29
            have f_30 := fT0_
            have hof : ∀ j, j < 24 ∨ (26 ≤ j ∧ j ≤ 28) → rg j = rg0 j := fun j hj => (hf9 j (hq13_4 hj) (hq13_10 hj)).trans (hof j hj)
            refine lv_aload_n hx hb dX5_digit_95 rfl (lv_at hl 1 rfl) ?_
            refine lv_bipush (v := nI 29) hx hb dX5_digit_96 (by decide) ?_
            refine lv_bipush (v := nI 29) hx hb dX5_digit_98 (by decide) ?_
            refine lv_bipush (v := nI 30) hx hb dX5_digit_100 (by decide) ?_
            refine bd_cv (As := [.int (nI 29), .int (nI 29), .int (nI 30)]) (rest := []) C (v5_minus _ _ _ _ _ hv 29 29 30 (by decide) (by decide) (by decide) (by rw [f_29, f_30]; exact (b34 (dg_b2 hVb)))) (cwV 3 hts gX5_digit_X5_minus rfl rfl rfl (by decide +kernel) ⟨Nat.le_of_ble_eq_true rfl, Nat.le_of_ble_eq_true rfl⟩) hsz hw (mv_recv C hw hv) dX5_digit_102 rfl hl.1 rfl (Nat.le_of_ble_eq_true rfl) ⟨Nat.le_refl _, Nat.le_refl _⟩ (fun E z H locs hp hw => ?_)
            obtain ⟨rg, hv, hv0_, hf9⟩ := hp
            have fT0_ : rg 29 = ((V9 % 10 : Nat) : Int) := hv0_.trans (by rw [f_29, f_30]; omega)
            have f_30 : rg 30 = ((V9 / 10 * 10 : Nat) : Int) := (hf9 30 (by decide)).trans f_30
            have f_29 := fT0_
            have hof : ∀ j, j < 24 ∨ (26 ≤ j ∧ j ≤ 28) → rg j = rg0 j := fun j hj => (hf9 j (hq13_3 hj)).trans (hof j hj)
            refine lv_aload_n hx hb dX5_digit_105 rfl (lv_at hl 1 rfl) ?_
            refine lv_bipush (v := nI 29) hx hb dX5_digit_106 (by decide) ?_
            refine lv_iconst (v := nI 0) hx hb dX5_digit_108 (by decide) ?_
            have hvc := hv
            obtain ⟨F9, G9, S9, R9_, hm, hrg⟩ := hvc
            obtain ⟨hF9, hVv, -⟩ := hrg 29 (by decide)
            rw [f_29, Int.natAbs_natCast] at hVv
            have h09 : F9 29 0 = V9 % 10 := dg_f0 hF9 hVv (by omega)
            refine bd_cip (As := [.int (nI 29), .int (nI 0)]) (rest := []) C (m5_at _ _ _ _ _ hm 29 0 (by omega) (by omega)) (cwV 2 hts gX5_digit_X5_at rfl rfl rfl (by decide +kernel) ⟨Nat.le_of_ble_eq_true rfl, Nat.le_of_ble_eq_true rfl⟩) hsz hw (md_recv C hw hm) dX5_digit_109 rfl hl.1 rfl (Nat.le_of_ble_eq_true rfl) ⟨Nat.le_refl _, Nat.le_refl _⟩ (fun H locs hw => ?_)
            rw [h09, hV9_]
            have hd : dk_digit P (nI kn) (nI dn) mu = (nI (((mu kn).natAbs * 10 ^ dn / 2 ^ P) % 10)) := dg_va hpl_kn hx_kn hdn
            exact bd_iret C hr hlk hw dX5_digit_112 ⟨hd.symm, _, _, hv, md_ivm hiv hof⟩
          · exact absurd hc56 (by omega)
        · subst hde
          refine lv_aload_n hx hb dX5_digit_26 rfl (lv_at hl 0 rfl) ?_
          refine lv_bipush (v := nI 29) hx hb dX5_digit_27 (by decide) ?_
          refine lv_iload_n hx hb dX5_digit_29 rfl (lv_at hl 1 rfl) ?_
          refine bd_cv (As := [.int (nI 29), .int (nI kn)]) (rest := []) C (v5_size _ _ _ _ _ hv 29 kn (by decide) (by omega) (by omega)) (cwV 2 hts gX5_digit_X5_size rfl rfl rfl (by decide +kernel) ⟨Nat.le_of_ble_eq_true rfl, Nat.le_of_ble_eq_true rfl⟩) hsz hw (mv_recv C hw hv) dX5_digit_30 rfl hl.1 rfl (Nat.le_of_ble_eq_true rfl) ⟨Nat.le_refl _, Nat.le_refl _⟩ (fun E z H locs hp hw => ?_)
          obtain ⟨rg, hv, hv0_, hf9⟩ := hp
          have fT0_ : rg 29 = ((mu kn).natAbs : Int) := hv0_.trans (by rw [f_kn])
          have f_kn : rg kn = mu kn := (hf9 kn (by omega)).trans f_kn
          have f_12kn : rg (12 + kn) = ra kn := (hf9 (12 + kn) (by omega)).trans f_12kn
          have f_29 := fT0_
          have hof : ∀ j, j < 24 ∨ (26 ≤ j ∧ j ≤ 28) → rg j = rg0 j := fun j hj => (hf9 j (hq13_3 hj)).trans (hof j hj)
          refine lv_aload_n hx hb dX5_digit_33 rfl (lv_at hl 0 rfl) ?_
          refine lv_bipush (v := nI 29) hx hb dX5_digit_34 (by decide) ?_
          refine lv_iload_n hx hb dX5_digit_36 rfl (lv_at hl 2 rfl) ?_
          refine bd_cv (As := [.int (nI 29), .int (-(nI dm))]) (rest := []) C (v5_tensN _ _ _ _ _ hv 29 dm hdm2) (cwV 2 hts gX5_digit_X5_tens rfl rfl rfl (by decide +kernel) ⟨Nat.le_of_ble_eq_true rfl, Nat.le_of_ble_eq_true rfl⟩) hsz hw (mv_recv C hw hv) dX5_digit_37 rfl hl.1 rfl (Nat.le_of_ble_eq_true rfl) ⟨Nat.le_refl _, Nat.le_refl _⟩ (fun E1 z H locs hp hw => ?_)
          rw [show E1 = E from hp] at hw
          refine lv_aload_n hx hb dX5_digit_40 rfl (lv_at hl 0 rfl) ?_
          refine lv_bipush (v := nI 29) hx hb dX5_digit_41 (by decide) ?_
          refine lv_bipush (v := nI 29) hx hb dX5_digit_43 (by decide) ?_
          refine lv_aload_n hx hb dX5_digit_45 rfl (lv_at hl 0 rfl) ?_
          refine mv_g C i5 hw hv 1 (by decide) (v := .int (nI P)) rfl dX5_digit_46 lk23 ?_
          refine bd_cv (As := [.int (nI 29), .int (nI 29), .int (nI P)]) (rest := []) C (v5_down _ _ _ _ _ hv 29 29 P (by decide) (by decide) (by decide) hP816) (cwV 3 hts gX5_digit_X5_down rfl rfl rfl (by decide +kernel) ⟨Nat.le_of_ble_eq_true rfl, Nat.le_of_ble_eq_true rfl⟩) hsz hw (mv_recv C hw hv) dX5_digit_49 rfl hl.1 rfl (Nat.le_of_ble_eq_true rfl) ⟨Nat.le_refl _, Nat.le_refl _⟩ (fun E z H locs hp hw => ?_)
          obtain ⟨rg, hv, hv0_, hf9⟩ := hp
          have fT0_ : rg 29 = (((mu kn).natAbs / 2 ^ P : Nat) : Int) := hv0_.trans (by rw [f_29]; rfl)
          have f_kn : rg kn = mu kn := (hf9 kn (by omega) (by omega)).trans f_kn
          have f_12kn : rg (12 + kn) = ra kn := (hf9 (12 + kn) (by omega) (by omega)).trans f_12kn
          have f_29 := fT0_
          have hof : ∀ j, j < 24 ∨ (26 ≤ j ∧ j ≤ 28) → rg j = rg0 j := fun j hj => (hf9 j (hq13_3 hj) (hq13_10 hj)).trans (hof j hj)
          refine lv_iconst (v := -(nI 0)) hx hb dX5_digit_52 (by decide) ?_
          refine lv_istore_n (lv' := [(3, .int (-(nI 0))), (0, .ref (mo 0)), (1, .int (nI kn)), (2, .int (-(nI dm)))]) hx hb dX5_digit_53 rfl hl (by decide) rfl (fun ls hl => ?_)
          suffices hloop : ∀ (d9 i : Nat) (E : Nat → va_E) (z : Nat → Wh) (rg : Nat → Int) (ls : Array Slot) (H : Heap) (locs : List Loc), i + d9 = dm → md_v K E mo (nI 0) P rg → (rg 29 = (((mu kn).natAbs / 2 ^ P / 10 ^ i : Nat) : Int)) → (∀ j, j < 24 ∨ (26 ≤ j ∧ j ≤ 28) → rg j = rg0 j) → lv_has ls 4 [(3, .int (-(nI i))), (0, .ref (mo 0)), (1, .int (nI kn)), (2, .int (-(nI dm)))] → bd_W K E z (bd_A K sz) s.heap H locs → W p l e (headSpec wsX5_digit ({ frames := 8, cells := 0, slots := 0, locals := 280 })).room s m [.ref (mo 0), .int (nI kn), .int (-(nI dm))].toArray below meth c H locs 0 0 (MQ below (va_Qi (md_post K mo P (dk_digit P (nI kn) (-(nI dm)) mu, mu, ra)) (bd_B K) (bd_A K sz)) [.ref (mo 0), .int (nI kn), .int (-(nI dm))].toArray s 0 0 (bd_A K sz)) (F0 m 54 ls []) from hloop dm 0 E z rg ls _ _ (by omega) hv (f_29.trans dg_1)  hof (lv_sub hl [0, 1, 2, 3] rfl) hw
          clear hw hl ls hv hof f_29 
          intro d9
          induction d9 using Nat.strongRecOn with
          | ind d9 ih =>
            intro i E z rg ls H locs hjd9 hv f_29  hof hl hw
            refine lv_iload_n hx hb dX5_digit_54 rfl (lv_at hl 0 rfl) ?_
            refine lv_iload_n hx hb dX5_digit_55 rfl (lv_at hl 3 rfl) ?_
            refine lv_icmp_le (tgt := 75) hx hb dX5_digit_56 (by decide) (fun hc56 => ?_) (fun hc56 => ?_)
            · have htd : i = dm := by have := ng_le (by omega) (by omega) hc56; omega
              refine lv_aload_n hx hb dX5_digit_75 rfl (lv_at hl 1 rfl) ?_
              refine lv_bipush (v := nI 30) hx hb dX5_digit_76 (by decide) ?_
              refine lv_bipush (v := nI 29) hx hb dX5_digit_78 (by decide) ?_
              refine lv_bipush (v := nI 10) hx hb dX5_digit_80 (by decide) ?_
              obtain ⟨V9, hV9_⟩ : ∃ y, y = (mu kn).natAbs / 2 ^ P / 10 ^ i := ⟨_, rfl⟩
              rw [← hV9_] at f_29
              have hVb : V9 ≤ 2 ^ 500 := by rw [hV9_]; exact dg_v2 hbm_kn
              change hid _ at hVb
              refine bd_cv (As := [.int (nI 30), .int (nI 29), .int (nI 10)]) (rest := []) C (v5_divideSmall _ _ _ _ _ hv 30 29 10 (by decide) (by decide) (by decide) (by decide) (by decide)) (cwV 3 hts gX5_digit_X5_divideSmall rfl rfl rfl (by decide +kernel) ⟨Nat.le_of_ble_eq_true rfl, Nat.le_of_ble_eq_true rfl⟩) hsz hw (mv_recv C hw hv) dX5_digit_82 rfl hl.1 rfl (Nat.le_of_ble_eq_true rfl) ⟨Nat.le_refl _, Nat.le_refl _⟩ (fun E z H locs hp hw => ?_)
              obtain ⟨rg, hv, hv0_, hf9⟩ := hp
              have fT0_ : rg 30 = ((V9 / 10 : Nat) : Int) := hv0_.trans (by rw [f_29]; exact (Int.natCast_ediv _ _).symm)
              have f_29 : rg 29 = (V9 : Int) := (hf9 29 (by decide) (by decide)).trans f_29
              have f_30 := fT0_
              have hof : ∀ j, j < 24 ∨ (26 ≤ j ∧ j ≤ 28) → rg j = rg0 j := fun j hj => (hf9 j (hq13_4 hj) (hq13_10 hj)).trans (hof j hj)
              refine lv_aload_n hx hb dX5_digit_85 rfl (lv_at hl 1 rfl) ?_
              refine lv_bipush (v := nI 30) hx hb dX5_digit_86 (by decide) ?_
              refine lv_bipush (v := nI 30) hx hb dX5_digit_88 (by decide) ?_
              refine lv_bipush (v := nI 10) hx hb dX5_digit_90 (by decide) ?_
              refine bd_cv (As := [.int (nI 30), .int (nI 30), .int (nI 10)]) (rest := []) C (v5_timesSmall _ _ _ _ _ hv 30 30 (nI 10) (by decide) (by decide) (by decide) (by rw [f_30]; exact (b34 (dg_b1 hVb)))) (cwV 3 hts gX5_digit_X5_timesSmall rfl rfl rfl (by decide +kernel) ⟨Nat.le_of_ble_eq_true rfl, Nat.le_of_ble_eq_true rfl⟩) hsz hw (mv_recv C hw hv) dX5_digit_92 rfl hl.1 rfl (Nat.le_of_ble_eq_true rfl) ⟨Nat.le_refl _, Nat.le_refl _⟩ (fun E z H locs hp hw => ?_)
              obtain ⟨rg, hv, hv0_, hf9⟩ := hp
              have fT0_ : rg 30 = ((V9 / 10 * 10 : Nat) : Int) := hv0_.trans (by rw [f_30]; rw [n10, Int.natCast_mul]; rfl)
              have f_29 : rg 29 = (V9 : Int) := (hf9 29 (by decide) (by decide)).trans f_29
              have f_30 := fT0_
              have hof : ∀ j, j < 24 ∨ (26 ≤ j ∧ j ≤ 28) → rg j = rg0 j := fun j hj => (hf9 j (hq13_4 hj) (hq13_10 hj)).trans (hof j hj)
              refine lv_aload_n hx hb dX5_digit_95 rfl (lv_at hl 1 rfl) ?_
              refine lv_bipush (v := nI 29) hx hb dX5_digit_96 (by decide) ?_
              refine lv_bipush (v := nI 29) hx hb dX5_digit_98 (by decide) ?_
              refine lv_bipush (v := nI 30) hx hb dX5_digit_100 (by decide) ?_
              refine bd_cv (As := [.int (nI 29), .int (nI 29), .int (nI 30)]) (rest := []) C (v5_minus _ _ _ _ _ hv 29 29 30 (by decide) (by decide) (by decide) (by rw [f_29, f_30]; exact (b34 (dg_b2 hVb)))) (cwV 3 hts gX5_digit_X5_minus rfl rfl rfl (by decide +kernel) ⟨Nat.le_of_ble_eq_true rfl, Nat.le_of_ble_eq_true rfl⟩) hsz hw (mv_recv C hw hv) dX5_digit_102 rfl hl.1 rfl (Nat.le_of_ble_eq_true rfl) ⟨Nat.le_refl _, Nat.le_refl _⟩ (fun E z H locs hp hw => ?_)
              obtain ⟨rg, hv, hv0_, hf9⟩ := hp
              have fT0_ : rg 29 = ((V9 % 10 : Nat) : Int) := hv0_.trans (by rw [f_29, f_30]; omega)
              have f_30 : rg 30 = ((V9 / 10 * 10 : Nat) : Int) := (hf9 30 (by decide)).trans f_30
              have f_29 := fT0_
              have hof : ∀ j, j < 24 ∨ (26 ≤ j ∧ j ≤ 28) → rg j = rg0 j := fun j hj => (hf9 j (hq13_3 hj)).trans (hof j hj)
              refine lv_aload_n hx hb dX5_digit_105 rfl (lv_at hl 1 rfl) ?_
              refine lv_bipush (v := nI 29) hx hb dX5_digit_106 (by decide) ?_
              refine lv_iconst (v := nI 0) hx hb dX5_digit_108 (by decide) ?_
              have hvc := hv
              obtain ⟨F9, G9, S9, R9_, hm, hrg⟩ := hvc
              obtain ⟨hF9, hVv, -⟩ := hrg 29 (by decide)
              rw [f_29, Int.natAbs_natCast] at hVv
              have h09 : F9 29 0 = V9 % 10 := dg_f0 hF9 hVv (by omega)
              refine bd_cip (As := [.int (nI 29), .int (nI 0)]) (rest := []) C (m5_at _ _ _ _ _ hm 29 0 (by omega) (by omega)) (cwV 2 hts gX5_digit_X5_at rfl rfl rfl (by decide +kernel) ⟨Nat.le_of_ble_eq_true rfl, Nat.le_of_ble_eq_true rfl⟩) hsz hw (md_recv C hw hm) dX5_digit_109 rfl hl.1 rfl (Nat.le_of_ble_eq_true rfl) ⟨Nat.le_refl _, Nat.le_refl _⟩ (fun H locs hw => ?_)
              rw [h09, hV9_]
              have hd : dk_digit P (nI kn) (-(nI dm)) mu = (nI (((mu kn).natAbs / 2 ^ P / 10 ^ i) % 10)) := by rw [htd]; exact dg_vb hpl_kn hx_kn hdm1 hdm2
              exact bd_iret C hr hlk hw dX5_digit_112 ⟨hd.symm, _, _, hv, md_ivm hiv hof⟩
            · have htd : i < dm := by have := ng_nle (by omega) (by omega) hc56; omega
              refine lv_aload_n hx hb dX5_digit_59 rfl (lv_at hl 1 rfl) ?_
              refine lv_bipush (v := nI 29) hx hb dX5_digit_60 (by decide) ?_
              refine lv_bipush (v := nI 29) hx hb dX5_digit_62 (by decide) ?_
              refine lv_bipush (v := nI 10) hx hb dX5_digit_64 (by decide) ?_
              refine bd_cv (As := [.int (nI 29), .int (nI 29), .int (nI 10)]) (rest := []) C (v5_divideSmall _ _ _ _ _ hv 29 29 10 (by decide) (by decide) (by decide) (by decide) (by decide)) (cwV 3 hts gX5_digit_X5_divideSmall rfl rfl rfl (by decide +kernel) ⟨Nat.le_of_ble_eq_true rfl, Nat.le_of_ble_eq_true rfl⟩) hsz hw (mv_recv C hw hv) dX5_digit_66 rfl hl.1 rfl (Nat.le_of_ble_eq_true rfl) ⟨Nat.le_refl _, Nat.le_refl _⟩ (fun E z H locs hp hw => ?_)
              obtain ⟨rg, hv, hv0_, hf9⟩ := hp
              have fT0_ : rg 29 = (((mu kn).natAbs / 2 ^ P / 10 ^ (i + 1) : Nat) : Int) := hv0_.trans (by rw [f_29]; exact dg_d)
              have f_29 := fT0_
              have hof : ∀ j, j < 24 ∨ (26 ≤ j ∧ j ≤ 28) → rg j = rg0 j := fun j hj => (hf9 j (hq13_3 hj) (hq13_10 hj)).trans (hof j hj)
              refine lv_iinc (v := -(nI (i + 1))) (lv' := [(3, .int (-(nI (i + 1)))), (0, .ref (mo 0)), (1, .int (nI kn)), (2, .int (-(nI dm)))]) hx hb dX5_digit_69 hl (k := 0) rfl (ng_1 i) (by decide) rfl (fun ls hl => ?_)
              refine lv_goto (tgt := 54) hx hb dX5_digit_72 (by decide) ?_
              exact ih (d9 - 1) (by omega) (i + 1) E z rg ls H locs (by omega) hv f_29  hof (lv_sub hl [0, 1, 2, 3] rfl) hw
      · have hno : ¬ d.toInt ≤ 60 := fun q => hc21 (Int32.le_iff_toInt_le.mpr q)
        refine lv_iconst (v := (-1)) hx hb dX5_digit_24 (by decide) ?_
        have hd : dk_digit P (nI kn) d mu = (-1) := if_neg (fun q => hno q.2.2)
        exact bd_iret C hr hlk hw dX5_digit_25 ⟨hd.symm, _, _, hv, md_ivm hiv hof⟩
set_option maxHeartbeats 4000000 in
set_option maxRecDepth 100000 in
/-- sure -/
theorem v5_sure (l : Launch) (K : Cxt) (E0 : Nat → va_E) (z0 : Nat → Wh) (sz : Nat) {mo : Nat → Nat} {th : Int32} {P : Nat} {rg0 : Nat → Int} (hv : md_v K E0 mo th P rg0) {mu ra : Nat → Int} (hiv : md_iv P rg0 mu ra) (k : Int32)  : Met l yX5_sure wsX5_sure ({ frames := 8, cells := 0, slots := 0, locals := 280 }) (va_Pc [.ref (mo 0), .int k] (bd_P K E0 z0 sz)) (va_Qi (md_post K mo P (dk_sure P k mu ra, mu, ra)) (bd_B K) (bd_A K sz)) 0 0 (bd_A K sz) := by
  refine bd_ofW (cc := cX5_sure) (maxL := 5) (ret := (some .int)) (by decide) rfl (Nat.le_of_ble_eq_true rfl) ?_
  intro p e s m below meth c ls C hr hlk hsz hw hl
  have hx := C.1
  have hb := C.2.1
  have hown := C.2.2.2.1
  have hts := C.2.2.2.2.1
  have i5 : ∀ w ∈ wsX50, w ∈ wsX5_sure := by decide +kernel
  have lk48 : Cond.fieldLink RX5 48 "BallDeskModel" "thrown" "I" ∈ wsX5_sure := by decide +kernel
  have lk23 : Cond.fieldLink RX5 23 "BallDeskModel" "places" "I" ∈ wsX5_sure := by decide +kernel
  have hl : lv_has ls 5 [(0, .ref (mo 0)), (1, .int k)] := hl
  obtain ⟨hP1, hP2⟩ := mv_P hv
  have hp192 : (2 : Nat) ^ P ≤ 2 ^ 192 := Nat.pow_le_pow_right (by decide) hP2
  have hP816 : P < 816 := by omega
  have hP64 : P + 64 < 816 := by omega
  have hP128 : 2 * (P + 64) < 816 := by omega
  have hof : ∀ j, j < 24 ∨ (26 ≤ j ∧ j ≤ 28) → rg0 j = rg0 j := fun _ _ => rfl
  refine lv_aload_n hx hb dX5_sure_0 rfl (lv_at hl 0 rfl) ?_
  refine lv_iconst (v := nI 0) hx hb dX5_sure_1 (by decide) ?_
  refine mv_pt C i5 hw hv dX5_sure_2 lk48 (fun E H locs hv hw => ?_)
  refine lv_iload_n hx hb dX5_sure_5 rfl (lv_at hl 1 rfl) ?_
  refine bd_sip (As := [.int k]) (rest := []) C (c5_isPlace _ _ _ _ _ k) (va_cwS 1 hts gX5_sure_X5_isPlace rfl rfl rfl (by decide +kernel) ⟨Nat.le_of_ble_eq_true rfl, Nat.le_of_ble_eq_true rfl⟩) hsz hw dX5_sure_6 rfl hl.1 rfl (Nat.le_of_ble_eq_true rfl) ⟨Nat.le_refl _, Nat.le_refl _⟩ (fun H locs hw => ?_)
  refine lv_if_ne (tgt := 15) hx hb dX5_sure_9 (by decide) (fun hc9 => ?_) (fun hc9 => ?_)
  · have hpl_kn := pl_t hc9
    obtain ⟨kn, hkn, hk_kn, hx_kn⟩ := pl_x hpl_kn
    subst hk_kn
    obtain ⟨hbm_kn, hb0_kn, hbr_kn⟩ := md_b hP2 hiv hkn
    have f_kn : rg0 kn = mu kn := (hof kn (by omega)).trans (hiv.2.2.2 kn hkn).1
    have f_12kn : rg0 (12 + kn) = ra kn := (hof (12 + kn) (by omega)).trans (hiv.2.2.2 kn hkn).2.1
    change hid _ at hbm_kn hbr_kn
    obtain ⟨he1, he2⟩ := e_b hbm_kn hbr_kn
    change hid _ at he1 he2
    refine lv_aload_n hx hb dX5_sure_15 rfl (lv_at hl 0 rfl) ?_
    refine lv_iload_n hx hb dX5_sure_16 rfl (lv_at hl 1 rfl) ?_
    refine bd_cv (As := [.int (nI kn)]) (rest := []) C (v5_ends _ _ _ _ _ hv kn hkn (by rw [f_kn]; exact hbm_kn) (by rw [f_12kn]; exact hbr_kn)) (cwV 1 hts gX5_sure_X5_ends rfl rfl rfl (by decide +kernel) ⟨Nat.le_of_ble_eq_true rfl, Nat.le_of_ble_eq_true rfl⟩) hsz hw (mv_recv C hw hv) dX5_sure_17 rfl hl.1 rfl (Nat.le_of_ble_eq_true rfl) ⟨Nat.le_refl _, Nat.le_refl _⟩ (fun E z H locs hp hw => ?_)
    obtain ⟨rg, hv, hv0_, hv1_, hf9⟩ := hp
    have fT0_ : rg 24 = (mu kn - ra kn) := hv0_.trans (by rw [f_kn, f_12kn])
    have fT1_ : rg 25 = (mu kn + ra kn) := hv1_.trans (by rw [f_kn, f_12kn])
    have f_kn : rg kn = mu kn := (hf9 kn (by omega)).trans f_kn
    have f_12kn : rg (12 + kn) = ra kn := (hf9 (12 + kn) (by omega)).trans f_12kn
    have f_24 := fT0_
    have f_25 := fT1_
    have hof : ∀ j, j < 24 ∨ (26 ≤ j ∧ j ≤ 28) → rg j = rg0 j := fun j hj => (hf9 j (hq13_0 hj)).trans (hof j hj)
    refine lv_iconst (v := nI 0 - nI 1) hx hb dX5_sure_20 (by decide) ?_
    refine lv_istore_n (lv' := [(2, .int (nI 0 - nI 1)), (0, .ref (mo 0)), (1, .int (nI kn))]) hx hb dX5_sure_21 rfl hl (by decide) rfl (fun ls hl => ?_)
    refine lv_iconst (v := nI 1) hx hb dX5_sure_22 (by decide) ?_
    refine lv_istore_n (lv' := [(3, .int (nI 1)), (2, .int (nI 0 - nI 1)), (0, .ref (mo 0)), (1, .int (nI kn))]) hx hb dX5_sure_23 rfl hl (by decide) rfl (fun ls hl => ?_)
    refine lv_iconst (v := nI 0) hx hb dX5_sure_24 (by decide) ?_
    refine lv_istore (lv' := [(4, .int (nI 0)), (3, .int (nI 1)), (2, .int (nI 0 - nI 1)), (0, .ref (mo 0)), (1, .int (nI kn))]) hx hb dX5_sure_25 hl (by decide) rfl (fun ls hl => ?_)
    suffices hloop : ∀ (d9 i : Nat) (E : Nat → va_E) (z : Nat → Wh) (rg : Nat → Int) (ls : Array Slot) (H : Heap) (locs : List Loc), i + d9 = 61 → md_v K E mo (nI 0) P rg → (rg 24 = ((mu kn - ra kn) * ((10 ^ i : Nat) : Int))) → (rg 25 = ((mu kn + ra kn) * ((10 ^ i : Nat) : Int))) → (∀ q, q < i → dk_ag P (mu kn - ra kn) (mu kn + ra kn) q) → (∀ j, j < 24 ∨ (26 ≤ j ∧ j ≤ 28) → rg j = rg0 j) → lv_has ls 5 [(4, .int (nI i)), (3, .int (nI 1)), (2, .int (nI i - nI 1)), (0, .ref (mo 0)), (1, .int (nI kn))] → bd_W K E z (bd_A K sz) s.heap H locs → W p l e (headSpec wsX5_sure ({ frames := 8, cells := 0, slots := 0, locals := 280 })).room s m [.ref (mo 0), .int (nI kn)].toArray below meth c H locs 0 0 (MQ below (va_Qi (md_post K mo P (dk_sure P (nI kn) mu ra, mu, ra)) (bd_B K) (bd_A K sz)) [.ref (mo 0), .int (nI kn)].toArray s 0 0 (bd_A K sz)) (F0 m 27 ls []) from hloop 61 0 E z rg ls _ _ (by omega) hv (f_24.trans su_0) (f_25.trans su_0) (fun q hq => absurd hq (by omega)) hof (lv_sub hl [0, 1, 2, 3, 4] rfl) hw
    clear hw hl ls hv hof f_24 f_25 
    intro d9
    induction d9 using Nat.strongRecOn with
    | ind d9 ih =>
      intro i E z rg ls H locs hjd9 hv f_24 f_25 hag hof hl hw
      refine lv_iload hx hb dX5_sure_27 (lv_at hl 0 rfl) ?_
      refine lv_bipush (v := nI 61) hx hb dX5_sure_29 (by decide) ?_
      refine bd_ige (h1 := by omega) (h2 := by omega) (tgt := 116) hx hb dX5_sure_31 (by decide) (fun hc31 => ?_) (fun hc31 => ?_)
      · have hi61 : i = 61 := by omega
        refine lv_iload_n hx hb dX5_sure_116 rfl (lv_at hl 2 rfl) ?_
        have hd : dk_sure P (nI kn) mu ra = (nI i - nI 1) := dk_sureq hpl_kn hx_kn ⟨i, by omega, hag, fun q => absurd q (by omega), rfl⟩
        exact bd_iret C hr hlk hw dX5_sure_117 ⟨hd.symm, _, _, hv, md_ivm hiv hof⟩
      · refine lv_iload_n hx hb dX5_sure_34 rfl (lv_at hl 1 rfl) ?_
        refine bd_zeq (h1 := by decide) (tgt := 116) hx hb dX5_sure_35 (by decide) (fun hc35 => ?_) (fun hc35 => ?_)
        · exact absurd hc35 (by decide)
        · refine lv_aload_n hx hb dX5_sure_38 rfl (lv_at hl 3 rfl) ?_
          refine lv_bipush (v := nI 29) hx hb dX5_sure_39 (by decide) ?_
          refine lv_bipush (v := nI 24) hx hb dX5_sure_41 (by decide) ?_
          refine lv_aload_n hx hb dX5_sure_43 rfl (lv_at hl 3 rfl) ?_
          refine mv_g C i5 hw hv 1 (by decide) (v := .int (nI P)) rfl dX5_sure_44 lk23 ?_
          refine bd_cv (As := [.int (nI 29), .int (nI 24), .int (nI P)]) (rest := []) C (v5_down _ _ _ _ _ hv 29 24 P (by decide) (by decide) (by decide) hP816) (cwV 3 hts gX5_sure_X5_down rfl rfl rfl (by decide +kernel) ⟨Nat.le_of_ble_eq_true rfl, Nat.le_of_ble_eq_true rfl⟩) hsz hw (mv_recv C hw hv) dX5_sure_47 rfl hl.1 rfl (Nat.le_of_ble_eq_true rfl) ⟨Nat.le_refl _, Nat.le_refl _⟩ (fun E z H locs hp hw => ?_)
          obtain ⟨rg, hv, hv0_, hf9⟩ := hp
          have fT0_ : rg 29 = (((mu kn - ra kn) * ((10 ^ i : Nat) : Int)) / dk_p P) := hv0_.trans (by rw [f_24])
          have f_24 : rg 24 = ((mu kn - ra kn) * ((10 ^ i : Nat) : Int)) := (hf9 24 (by decide) (by decide)).trans f_24
          have f_25 : rg 25 = ((mu kn + ra kn) * ((10 ^ i : Nat) : Int)) := (hf9 25 (by decide) (by decide)).trans f_25
          have f_29 := fT0_
          have hof : ∀ j, j < 24 ∨ (26 ≤ j ∧ j ≤ 28) → rg j = rg0 j := fun j hj => (hf9 j (hq13_3 hj) (hq13_10 hj)).trans (hof j hj)
          refine lv_aload_n hx hb dX5_sure_50 rfl (lv_at hl 3 rfl) ?_
          refine lv_bipush (v := nI 30) hx hb dX5_sure_51 (by decide) ?_
          refine lv_bipush (v := nI 25) hx hb dX5_sure_53 (by decide) ?_
          refine lv_aload_n hx hb dX5_sure_55 rfl (lv_at hl 3 rfl) ?_
          refine mv_g C i5 hw hv 1 (by decide) (v := .int (nI P)) rfl dX5_sure_56 lk23 ?_
          refine bd_cv (As := [.int (nI 30), .int (nI 25), .int (nI P)]) (rest := []) C (v5_down _ _ _ _ _ hv 30 25 P (by decide) (by decide) (by decide) hP816) (cwV 3 hts gX5_sure_X5_down rfl rfl rfl (by decide +kernel) ⟨Nat.le_of_ble_eq_true rfl, Nat.le_of_ble_eq_true rfl⟩) hsz hw (mv_recv C hw hv) dX5_sure_59 rfl hl.1 rfl (Nat.le_of_ble_eq_true rfl) ⟨Nat.le_refl _, Nat.le_refl _⟩ (fun E z H locs hp hw => ?_)
          obtain ⟨rg, hv, hv0_, hf9⟩ := hp
          have fT0_ : rg 30 = (((mu kn + ra kn) * ((10 ^ i : Nat) : Int)) / dk_p P) := hv0_.trans (by rw [f_25])
          have f_24 : rg 24 = ((mu kn - ra kn) * ((10 ^ i : Nat) : Int)) := (hf9 24 (by decide) (by decide)).trans f_24
          have f_25 : rg 25 = ((mu kn + ra kn) * ((10 ^ i : Nat) : Int)) := (hf9 25 (by decide) (by decide)).trans f_25
          have f_29 : rg 29 = (((mu kn - ra kn) * ((10 ^ i : Nat) : Int)) / dk_p P) := (hf9 29 (by decide) (by decide)).trans f_29
          have f_30 := fT0_
          have hof : ∀ j, j < 24 ∨ (26 ≤ j ∧ j ≤ 28) → rg j = rg0 j := fun j hj => (hf9 j (hq13_4 hj) (hq13_10 hj)).trans (hof j hj)
          refine lv_aload_n hx hb dX5_sure_62 rfl (lv_at hl 3 rfl) ?_
          refine lv_bipush (v := nI 29) hx hb dX5_sure_63 (by decide) ?_
          refine lv_bipush (v := nI 30) hx hb dX5_sure_65 (by decide) ?_
          refine bd_cip (As := [.int (nI 29), .int (nI 30)]) (rest := []) C (v5_compare _ _ _ _ _ hv 29 30 (by omega) (by omega)) (cwV 2 hts gX5_sure_X5_compare rfl rfl rfl (by decide +kernel) ⟨Nat.le_of_ble_eq_true rfl, Nat.le_of_ble_eq_true rfl⟩) hsz hw (mv_recv C hw hv) dX5_sure_67 rfl hl.1 rfl (Nat.le_of_ble_eq_true rfl) ⟨Nat.le_refl _, Nat.le_refl _⟩ (fun H locs hw => ?_)
          rw [f_29, f_30]
          refine lv_if_ne (tgt := 77) hx hb dX5_sure_70 (by decide) (fun hc70 => ?_) (fun hc70 => ?_)
          · have hq70 := mt q3_eq.mpr hc70
            refine lv_iconst (v := nI 0) hx hb dX5_sure_77 (by decide) ?_
            refine lv_istore_n (lv' := [(3, .int (nI 0)), (4, .int (nI i)), (2, .int (nI i - nI 1)), (0, .ref (mo 0)), (1, .int (nI kn))]) hx hb dX5_sure_78 rfl hl (by decide) rfl (fun ls hl => ?_)
            refine lv_iload_n hx hb dX5_sure_79 rfl (lv_at hl 0 rfl) ?_
            refine bd_zeq (h1 := by decide) (tgt := 88) hx hb dX5_sure_80 (by decide) (fun hc80 => ?_) (fun hc80 => ?_)
            · refine lv_iload_n hx hb dX5_sure_88 rfl (lv_at hl 2 rfl) ?_
              refine lv_istore_n (lv' := [(2, .int (nI i - nI 1)), (3, .int (nI 0)), (4, .int (nI i)), (0, .ref (mo 0)), (1, .int (nI kn))]) hx hb dX5_sure_89 rfl hl (by decide) rfl (fun ls hl => ?_)
              refine lv_aload_n hx hb dX5_sure_90 rfl (lv_at hl 3 rfl) ?_
              refine lv_bipush (v := nI 24) hx hb dX5_sure_91 (by decide) ?_
              refine lv_bipush (v := nI 24) hx hb dX5_sure_93 (by decide) ?_
              refine lv_bipush (v := nI 10) hx hb dX5_sure_95 (by decide) ?_
              refine bd_cv (As := [.int (nI 24), .int (nI 24), .int (nI 10)]) (rest := []) C (v5_timesSmall _ _ _ _ _ hv 24 24 (nI 10) (by decide) (by decide) (by decide) (by rw [f_24]; exact (b34 (tn_b2 he1 (by omega))))) (cwV 3 hts gX5_sure_X5_timesSmall rfl rfl rfl (by decide +kernel) ⟨Nat.le_of_ble_eq_true rfl, Nat.le_of_ble_eq_true rfl⟩) hsz hw (mv_recv C hw hv) dX5_sure_97 rfl hl.1 rfl (Nat.le_of_ble_eq_true rfl) ⟨Nat.le_refl _, Nat.le_refl _⟩ (fun E z H locs hp hw => ?_)
              obtain ⟨rg, hv, hv0_, hf9⟩ := hp
              have fT0_ : rg 24 = ((mu kn - ra kn) * ((10 ^ (i + 1) : Nat) : Int)) := hv0_.trans (by rw [f_24]; exact su_m)
              have f_25 : rg 25 = ((mu kn + ra kn) * ((10 ^ i : Nat) : Int)) := (hf9 25 (by decide) (by decide)).trans f_25
              have f_29 : rg 29 = (((mu kn - ra kn) * ((10 ^ i : Nat) : Int)) / dk_p P) := (hf9 29 (by decide) (by decide)).trans f_29
              have f_30 : rg 30 = (((mu kn + ra kn) * ((10 ^ i : Nat) : Int)) / dk_p P) := (hf9 30 (by decide) (by decide)).trans f_30
              have f_24 := fT0_
              have hof : ∀ j, j < 24 ∨ (26 ≤ j ∧ j ≤ 28) → rg j = rg0 j := fun j hj => (hf9 j (hq13_5 hj) (hq13_10 hj)).trans (hof j hj)
              refine lv_aload_n hx hb dX5_sure_100 rfl (lv_at hl 3 rfl) ?_
              refine lv_bipush (v := nI 25) hx hb dX5_sure_101 (by decide) ?_
              refine lv_bipush (v := nI 25) hx hb dX5_sure_103 (by decide) ?_
              refine lv_bipush (v := nI 10) hx hb dX5_sure_105 (by decide) ?_
              refine bd_cv (As := [.int (nI 25), .int (nI 25), .int (nI 10)]) (rest := []) C (v5_timesSmall _ _ _ _ _ hv 25 25 (nI 10) (by decide) (by decide) (by decide) (by rw [f_25]; exact (b34 (tn_b2 he2 (by omega))))) (cwV 3 hts gX5_sure_X5_timesSmall rfl rfl rfl (by decide +kernel) ⟨Nat.le_of_ble_eq_true rfl, Nat.le_of_ble_eq_true rfl⟩) hsz hw (mv_recv C hw hv) dX5_sure_107 rfl hl.1 rfl (Nat.le_of_ble_eq_true rfl) ⟨Nat.le_refl _, Nat.le_refl _⟩ (fun E z H locs hp hw => ?_)
              obtain ⟨rg, hv, hv0_, hf9⟩ := hp
              have fT0_ : rg 25 = ((mu kn + ra kn) * ((10 ^ (i + 1) : Nat) : Int)) := hv0_.trans (by rw [f_25]; exact su_m)
              have f_29 : rg 29 = (((mu kn - ra kn) * ((10 ^ i : Nat) : Int)) / dk_p P) := (hf9 29 (by decide) (by decide)).trans f_29
              have f_30 : rg 30 = (((mu kn + ra kn) * ((10 ^ i : Nat) : Int)) / dk_p P) := (hf9 30 (by decide) (by decide)).trans f_30
              have f_24 : rg 24 = ((mu kn - ra kn) * ((10 ^ (i + 1) : Nat) : Int)) := (hf9 24 (by decide) (by decide)).trans f_24
              have f_25 := fT0_
              have hof : ∀ j, j < 24 ∨ (26 ≤ j ∧ j ≤ 28) → rg j = rg0 j := fun j hj => (hf9 j (hq13_6 hj) (hq13_10 hj)).trans (hof j hj)
              refine lv_iinc (v := (nI (i + 1))) (lv' := [(4, .int (nI (i + 1))), (2, .int (nI i - nI 1)), (3, .int (nI 0)), (0, .ref (mo 0)), (1, .int (nI kn))]) hx hb dX5_sure_110 hl (k := 2) rfl (nI_1 _) (by decide) rfl (fun ls hl => ?_)
              refine lv_goto (tgt := 27) hx hb dX5_sure_113 (by decide) ?_
              refine lv_iload hx hb dX5_sure_27 (lv_at hl 0 rfl) ?_
              refine lv_bipush (v := nI 61) hx hb dX5_sure_29 (by decide) ?_
              refine bd_ige (h1 := by omega) (h2 := by omega) (tgt := 116) hx hb dX5_sure_31 (by decide) (fun hc31 => ?_) (fun hc31 => ?_)
              · refine lv_iload_n hx hb dX5_sure_116 rfl (lv_at hl 1 rfl) ?_
                have hd : dk_sure P (nI kn) mu ra = (nI i - nI 1) := dk_sureq hpl_kn hx_kn ⟨i, by omega, hag, fun _ q => hq70 q, rfl⟩
                exact bd_iret C hr hlk hw dX5_sure_117 ⟨hd.symm, _, _, hv, md_ivm hiv hof⟩
              · refine lv_iload_n hx hb dX5_sure_34 rfl (lv_at hl 2 rfl) ?_
                refine bd_zeq (h1 := by decide) (tgt := 116) hx hb dX5_sure_35 (by decide) (fun hc35 => ?_) (fun hc35 => ?_)
                · refine lv_iload_n hx hb dX5_sure_116 rfl (lv_at hl 1 rfl) ?_
                  have hd : dk_sure P (nI kn) mu ra = (nI i - nI 1) := dk_sureq hpl_kn hx_kn ⟨i, by omega, hag, fun _ q => hq70 q, rfl⟩
                  exact bd_iret C hr hlk hw dX5_sure_117 ⟨hd.symm, _, _, hv, md_ivm hiv hof⟩
                · exact absurd hc35 (by decide)
            · exact absurd hc80 (by decide)
          · have hq70 := q3_eq.mp hc70
            refine lv_iconst (v := nI 1) hx hb dX5_sure_73 (by decide) ?_
            refine lv_goto (tgt := 78) hx hb dX5_sure_74 (by decide) ?_
            refine lv_istore_n (lv' := [(3, .int (nI 1)), (4, .int (nI i)), (2, .int (nI i - nI 1)), (0, .ref (mo 0)), (1, .int (nI kn))]) hx hb dX5_sure_78 rfl hl (by decide) rfl (fun ls hl => ?_)
            refine lv_iload_n hx hb dX5_sure_79 rfl (lv_at hl 0 rfl) ?_
            refine bd_zeq (h1 := by decide) (tgt := 88) hx hb dX5_sure_80 (by decide) (fun hc80 => ?_) (fun hc80 => ?_)
            · exact absurd hc80 (by decide)
            · refine lv_iload hx hb dX5_sure_83 (lv_at hl 1 rfl) ?_
              refine lv_goto (tgt := 89) hx hb dX5_sure_85 (by decide) ?_
              refine lv_istore_n (lv' := [(2, .int (nI i)), (3, .int (nI 1)), (4, .int (nI i)), (0, .ref (mo 0)), (1, .int (nI kn))]) hx hb dX5_sure_89 rfl hl (by decide) rfl (fun ls hl => ?_)
              refine lv_aload_n hx hb dX5_sure_90 rfl (lv_at hl 3 rfl) ?_
              refine lv_bipush (v := nI 24) hx hb dX5_sure_91 (by decide) ?_
              refine lv_bipush (v := nI 24) hx hb dX5_sure_93 (by decide) ?_
              refine lv_bipush (v := nI 10) hx hb dX5_sure_95 (by decide) ?_
              refine bd_cv (As := [.int (nI 24), .int (nI 24), .int (nI 10)]) (rest := []) C (v5_timesSmall _ _ _ _ _ hv 24 24 (nI 10) (by decide) (by decide) (by decide) (by rw [f_24]; exact (b34 (tn_b2 he1 (by omega))))) (cwV 3 hts gX5_sure_X5_timesSmall rfl rfl rfl (by decide +kernel) ⟨Nat.le_of_ble_eq_true rfl, Nat.le_of_ble_eq_true rfl⟩) hsz hw (mv_recv C hw hv) dX5_sure_97 rfl hl.1 rfl (Nat.le_of_ble_eq_true rfl) ⟨Nat.le_refl _, Nat.le_refl _⟩ (fun E z H locs hp hw => ?_)
              obtain ⟨rg, hv, hv0_, hf9⟩ := hp
              have fT0_ : rg 24 = ((mu kn - ra kn) * ((10 ^ (i + 1) : Nat) : Int)) := hv0_.trans (by rw [f_24]; exact su_m)
              have f_25 : rg 25 = ((mu kn + ra kn) * ((10 ^ i : Nat) : Int)) := (hf9 25 (by decide) (by decide)).trans f_25
              have f_29 : rg 29 = (((mu kn - ra kn) * ((10 ^ i : Nat) : Int)) / dk_p P) := (hf9 29 (by decide) (by decide)).trans f_29
              have f_30 : rg 30 = (((mu kn + ra kn) * ((10 ^ i : Nat) : Int)) / dk_p P) := (hf9 30 (by decide) (by decide)).trans f_30
              have f_24 := fT0_
              have hof : ∀ j, j < 24 ∨ (26 ≤ j ∧ j ≤ 28) → rg j = rg0 j := fun j hj => (hf9 j (hq13_5 hj) (hq13_10 hj)).trans (hof j hj)
              refine lv_aload_n hx hb dX5_sure_100 rfl (lv_at hl 3 rfl) ?_
              refine lv_bipush (v := nI 25) hx hb dX5_sure_101 (by decide) ?_
              refine lv_bipush (v := nI 25) hx hb dX5_sure_103 (by decide) ?_
              refine lv_bipush (v := nI 10) hx hb dX5_sure_105 (by decide) ?_
              refine bd_cv (As := [.int (nI 25), .int (nI 25), .int (nI 10)]) (rest := []) C (v5_timesSmall _ _ _ _ _ hv 25 25 (nI 10) (by decide) (by decide) (by decide) (by rw [f_25]; exact (b34 (tn_b2 he2 (by omega))))) (cwV 3 hts gX5_sure_X5_timesSmall rfl rfl rfl (by decide +kernel) ⟨Nat.le_of_ble_eq_true rfl, Nat.le_of_ble_eq_true rfl⟩) hsz hw (mv_recv C hw hv) dX5_sure_107 rfl hl.1 rfl (Nat.le_of_ble_eq_true rfl) ⟨Nat.le_refl _, Nat.le_refl _⟩ (fun E z H locs hp hw => ?_)
              obtain ⟨rg, hv, hv0_, hf9⟩ := hp
              have fT0_ : rg 25 = ((mu kn + ra kn) * ((10 ^ (i + 1) : Nat) : Int)) := hv0_.trans (by rw [f_25]; exact su_m)
              have f_29 : rg 29 = (((mu kn - ra kn) * ((10 ^ i : Nat) : Int)) / dk_p P) := (hf9 29 (by decide) (by decide)).trans f_29
              have f_30 : rg 30 = (((mu kn + ra kn) * ((10 ^ i : Nat) : Int)) / dk_p P) := (hf9 30 (by decide) (by decide)).trans f_30
              have f_24 : rg 24 = ((mu kn - ra kn) * ((10 ^ (i + 1) : Nat) : Int)) := (hf9 24 (by decide) (by decide)).trans f_24
              have f_25 := fT0_
              have hof : ∀ j, j < 24 ∨ (26 ≤ j ∧ j ≤ 28) → rg j = rg0 j := fun j hj => (hf9 j (hq13_6 hj) (hq13_10 hj)).trans (hof j hj)
              refine lv_iinc (v := (nI (i + 1))) (lv' := [(4, .int (nI (i + 1))), (2, .int (nI i)), (3, .int (nI 1)), (0, .ref (mo 0)), (1, .int (nI kn))]) hx hb dX5_sure_110 hl (k := 2) rfl (nI_1 _) (by decide) rfl (fun ls hl => ?_)
              refine lv_goto (tgt := 27) hx hb dX5_sure_113 (by decide) ?_
              rw [← nI_p1 i] at hl
              exact ih (d9 - 1) (by omega) (i + 1) E z rg ls H locs (by omega) hv f_24 f_25 (su_s hag hq70) hof (lv_sub hl [0, 2, 1, 3, 4] rfl) hw
  · have hno := pl_f hc9
    refine lv_bipush (v := (-2)) hx hb dX5_sure_12 (by decide) ?_
    have hd : dk_sure P k mu ra = (-2) := if_neg hno
    exact bd_iret C hr hlk hw dX5_sure_14 ⟨hd.symm, _, _, hv, md_ivm hiv hof⟩
set_option maxHeartbeats 4000000 in
set_option maxRecDepth 100000 in
/-- count -/
theorem v5_count (l : Launch) (K : Cxt) (E0 : Nat → va_E) (z0 : Nat → Wh) (sz : Nat) {mo : Nat → Nat} {th : Int32} {P : Nat} {rg0 : Nat → Int} (hv : md_v K E0 mo th P rg0) {mu ra : Nat → Int} (hiv : md_iv P rg0 mu ra) (k : Int32)  : Met l yX5_count wsX5_count ({ frames := 8, cells := 0, slots := 0, locals := 280 }) (va_Pc [.ref (mo 0), .int k] (bd_P K E0 z0 sz)) (va_Qi (md_post K mo P (dk_count P k mu ra, mu, ra)) (bd_B K) (bd_A K sz)) 0 0 (bd_A K sz) := by
  refine bd_ofW (cc := cX5_count) (maxL := 5) (ret := (some .int)) (by decide) rfl (Nat.le_of_ble_eq_true rfl) ?_
  intro p e s m below meth c ls C hr hlk hsz hw hl
  have hx := C.1
  have hb := C.2.1
  have hown := C.2.2.2.1
  have hts := C.2.2.2.2.1
  have i5 : ∀ w ∈ wsX50, w ∈ wsX5_count := by decide +kernel
  have lk48 : Cond.fieldLink RX5 48 "BallDeskModel" "thrown" "I" ∈ wsX5_count := by decide +kernel
  have lk23 : Cond.fieldLink RX5 23 "BallDeskModel" "places" "I" ∈ wsX5_count := by decide +kernel
  have hl : lv_has ls 5 [(0, .ref (mo 0)), (1, .int k)] := hl
  obtain ⟨hP1, hP2⟩ := mv_P hv
  have hp192 : (2 : Nat) ^ P ≤ 2 ^ 192 := Nat.pow_le_pow_right (by decide) hP2
  have hP816 : P < 816 := by omega
  have hP64 : P + 64 < 816 := by omega
  have hP128 : 2 * (P + 64) < 816 := by omega
  have hof : ∀ j, j < 24 ∨ (26 ≤ j ∧ j ≤ 28) → rg0 j = rg0 j := fun _ _ => rfl
  refine lv_aload_n hx hb dX5_count_0 rfl (lv_at hl 0 rfl) ?_
  refine lv_iconst (v := nI 0) hx hb dX5_count_1 (by decide) ?_
  refine mv_pt C i5 hw hv dX5_count_2 lk48 (fun E H locs hv hw => ?_)
  refine lv_iload_n hx hb dX5_count_5 rfl (lv_at hl 1 rfl) ?_
  refine lv_if_ne (tgt := 14) hx hb dX5_count_6 (by decide) (fun hc6 => ?_) (fun hc6 => ?_)
  · have hk0 : ¬ k = 0 := hc6
    refine lv_iload_n hx hb dX5_count_14 rfl (lv_at hl 1 rfl) ?_
    refine lv_iconst (v := nI 1) hx hb dX5_count_15 (by decide) ?_
    refine lv_icmp_eq (tgt := 26) hx hb dX5_count_16 (by decide) (fun hc16 => ?_) (fun hc16 => ?_)
    · subst hc16
      refine lv_iconst (v := nI 0) hx hb dX5_count_26 (by decide) ?_
      refine lv_istore_n (lv' := [(2, .int (nI 0)), (0, .ref (mo 0)), (1, .int (nI 1))]) hx hb dX5_count_27 rfl hl (by decide) rfl (fun ls hl => ?_)
      refine lv_iconst (v := nI 0) hx hb dX5_count_28 (by decide) ?_
      refine lv_istore_n (lv' := [(3, .int (nI 0)), (2, .int (nI 0)), (0, .ref (mo 0)), (1, .int (nI 1))]) hx hb dX5_count_29 rfl hl (by decide) rfl (fun ls hl => ?_)
      suffices hloop : ∀ (d9 n9 : Nat) (ls : Array Slot) (H : Heap) (locs : List Loc), n9 + d9 = 12 → lv_has ls 5 [(2, .int (nI (dk_mx P mu n9))), (3, .int (nI n9)), (0, .ref (mo 0)), (1, .int (nI 1))] → bd_W K E z0 (bd_A K sz) s.heap H locs → W p l e (headSpec wsX5_count ({ frames := 8, cells := 0, slots := 0, locals := 280 })).room s m [.ref (mo 0), .int (nI 1)].toArray below meth c H locs 0 0 (MQ below (va_Qi (md_post K mo P (dk_count P (nI 1) mu ra, mu, ra)) (bd_B K) (bd_A K sz)) [.ref (mo 0), .int (nI 1)].toArray s 0 0 (bd_A K sz)) (F0 m 30 ls []) from hloop 12 0 ls _ _ (by omega) (lv_sub hl [1, 0, 2, 3] rfl) hw
      clear hw hl ls
      intro d9
      induction d9 using Nat.strongRecOn with
      | ind d9 ih =>
        intro n9 ls H locs hjd hl hw
        refine lv_iload_n hx hb dX5_count_30 rfl (lv_at hl 1 rfl) ?_
        refine lv_bipush (v := nI 12) hx hb dX5_count_31 (by decide) ?_
        refine bd_ige (h1 := by omega) (h2 := by omega) (tgt := 74) hx hb dX5_count_33 (by decide) (fun hc33 => ?_) (fun hc33 => ?_)
        · have hn12 : n9 = 12 := by omega
          rw [hn12] at hl
          refine lv_iload_n hx hb dX5_count_74 rfl (lv_at hl 0 rfl) ?_
          have hd : dk_count P (nI 1) mu ra = (nI (dk_mx P mu 12)) := rfl
          exact bd_iret C hr hlk hw dX5_count_75 ⟨hd.symm, _, _, hv, md_ivm hiv hof⟩
        · have hn9 : n9 < 12 := hc33
          have f_n9 : rg0 n9 = mu n9 := (hiv.2.2.2 n9 hn9).1
          have hmx9 := mx_b (P := P) (f := mu) 12 (fun j hj => (md_b hP2 hiv hj).1) n9 (by omega)
          have hbl9 := mx_q (md_b hP2 hiv hn9).1
          refine lv_aload_n hx hb dX5_count_36 rfl (lv_at hl 2 rfl) ?_
          refine lv_iload_n hx hb dX5_count_37 rfl (lv_at hl 3 rfl) ?_
          refine lv_iconst (v := nI 1) hx hb dX5_count_38 (by decide) ?_
          refine bd_ine (h1 := by omega) (h2 := by omega) (tgt := 46) hx hb dX5_count_39 (by decide) (fun hc39 => ?_) (fun hc39 => ?_)
          · exact absurd rfl hc39
          · refine lv_iload_n hx hb dX5_count_42 rfl (lv_at hl 1 rfl) ?_
            refine lv_goto (tgt := 50) hx hb dX5_count_43 (by decide) ?_
            refine bd_cip (As := [.int (nI n9)]) (rest := []) C (v5_bits _ _ _ _ _ hv n9 (by omega)) (cwV 1 hts gX5_count_X5_bits rfl rfl rfl (by decide +kernel) ⟨Nat.le_of_ble_eq_true rfl, Nat.le_of_ble_eq_true rfl⟩) hsz hw (mv_recv C hw hv) dX5_count_50 rfl hl.1 rfl (Nat.le_of_ble_eq_true rfl) ⟨Nat.le_refl _, Nat.le_refl _⟩ (fun H locs hw => ?_)
            rw [f_n9]
            refine lv_istore (lv' := [(4, .int (nI (q_bl (mu n9).natAbs))), (2, .int (nI (dk_mx P mu n9))), (3, .int (nI n9)), (0, .ref (mo 0)), (1, .int (nI 1))]) hx hb dX5_count_53 hl (by decide) rfl (fun ls hl => ?_)
            refine lv_iload hx hb dX5_count_55 (lv_at hl 0 rfl) ?_
            refine lv_iload_n hx hb dX5_count_57 rfl (lv_at hl 1 rfl) ?_
            refine bd_ile (h1 := (by omega)) (h2 := (by omega)) (tgt := 66) hx hb dX5_count_58 (by decide) (fun hc58 => ?_) (fun hc58 => ?_)
            · refine lv_iload_n hx hb dX5_count_66 rfl (lv_at hl 1 rfl) ?_
              refine lv_istore_n (lv' := [(2, .int (nI (dk_mx P mu n9))), (4, .int (nI (q_bl (mu n9).natAbs))), (3, .int (nI n9)), (0, .ref (mo 0)), (1, .int (nI 1))]) hx hb dX5_count_67 rfl hl (by decide) rfl (fun ls hl => ?_)
              refine lv_iinc (v := (nI (n9 + 1))) (lv' := [(3, .int (nI (n9 + 1))), (2, .int (nI (dk_mx P mu n9))), (4, .int (nI (q_bl (mu n9).natAbs))), (0, .ref (mo 0)), (1, .int (nI 1))]) hx hb dX5_count_68 hl (k := 2) rfl (nI_1 _) (by decide) rfl (fun ls hl => ?_)
              refine lv_goto (tgt := 30) hx hb dX5_count_71 (by decide) ?_
              rw [show dk_mx P mu n9 = dk_mx P mu (n9 + 1) from (Nat.max_eq_left hc58).symm] at hl
              exact ih (d9 - 1) (by omega) (n9 + 1) ls H locs (by omega) (lv_sub hl [1, 0, 3, 4] rfl) hw
            · refine lv_iload hx hb dX5_count_61 (lv_at hl 0 rfl) ?_
              refine lv_goto (tgt := 67) hx hb dX5_count_63 (by decide) ?_
              refine lv_istore_n (lv' := [(2, .int (nI (q_bl (mu n9).natAbs))), (4, .int (nI (q_bl (mu n9).natAbs))), (3, .int (nI n9)), (0, .ref (mo 0)), (1, .int (nI 1))]) hx hb dX5_count_67 rfl hl (by decide) rfl (fun ls hl => ?_)
              refine lv_iinc (v := (nI (n9 + 1))) (lv' := [(3, .int (nI (n9 + 1))), (2, .int (nI (q_bl (mu n9).natAbs))), (4, .int (nI (q_bl (mu n9).natAbs))), (0, .ref (mo 0)), (1, .int (nI 1))]) hx hb dX5_count_68 hl (k := 2) rfl (nI_1 _) (by decide) rfl (fun ls hl => ?_)
              refine lv_goto (tgt := 30) hx hb dX5_count_71 (by decide) ?_
              rw [show q_bl (mu n9).natAbs = dk_mx P mu (n9 + 1) from (Nat.max_eq_right (Nat.le_of_lt hc58)).symm] at hl
              exact ih (d9 - 1) (by omega) (n9 + 1) ls H locs (by omega) (lv_sub hl [1, 0, 3, 4] rfl) hw
    · refine lv_iload_n hx hb dX5_count_19 rfl (lv_at hl 1 rfl) ?_
      refine lv_iconst (v := nI 2) hx hb dX5_count_20 (by decide) ?_
      refine lv_icmp_eq (tgt := 26) hx hb dX5_count_21 (by decide) (fun hc21 => ?_) (fun hc21 => ?_)
      · subst hc21
        refine lv_iconst (v := nI 0) hx hb dX5_count_26 (by decide) ?_
        refine lv_istore_n (lv' := [(2, .int (nI 0)), (0, .ref (mo 0)), (1, .int (nI 2))]) hx hb dX5_count_27 rfl hl (by decide) rfl (fun ls hl => ?_)
        refine lv_iconst (v := nI 0) hx hb dX5_count_28 (by decide) ?_
        refine lv_istore_n (lv' := [(3, .int (nI 0)), (2, .int (nI 0)), (0, .ref (mo 0)), (1, .int (nI 2))]) hx hb dX5_count_29 rfl hl (by decide) rfl (fun ls hl => ?_)
        suffices hloop : ∀ (d9 n9 : Nat) (ls : Array Slot) (H : Heap) (locs : List Loc), n9 + d9 = 12 → lv_has ls 5 [(2, .int (nI (dk_mx P ra n9))), (3, .int (nI n9)), (0, .ref (mo 0)), (1, .int (nI 2))] → bd_W K E z0 (bd_A K sz) s.heap H locs → W p l e (headSpec wsX5_count ({ frames := 8, cells := 0, slots := 0, locals := 280 })).room s m [.ref (mo 0), .int (nI 2)].toArray below meth c H locs 0 0 (MQ below (va_Qi (md_post K mo P (dk_count P (nI 2) mu ra, mu, ra)) (bd_B K) (bd_A K sz)) [.ref (mo 0), .int (nI 2)].toArray s 0 0 (bd_A K sz)) (F0 m 30 ls []) from hloop 12 0 ls _ _ (by omega) (lv_sub hl [1, 0, 2, 3] rfl) hw
        clear hw hl ls
        intro d9
        induction d9 using Nat.strongRecOn with
        | ind d9 ih =>
          intro n9 ls H locs hjd hl hw
          refine lv_iload_n hx hb dX5_count_30 rfl (lv_at hl 1 rfl) ?_
          refine lv_bipush (v := nI 12) hx hb dX5_count_31 (by decide) ?_
          refine bd_ige (h1 := by omega) (h2 := by omega) (tgt := 74) hx hb dX5_count_33 (by decide) (fun hc33 => ?_) (fun hc33 => ?_)
          · have hn12 : n9 = 12 := by omega
            rw [hn12] at hl
            refine lv_iload_n hx hb dX5_count_74 rfl (lv_at hl 0 rfl) ?_
            have hd : dk_count P (nI 2) mu ra = (nI (dk_mx P ra 12)) := rfl
            exact bd_iret C hr hlk hw dX5_count_75 ⟨hd.symm, _, _, hv, md_ivm hiv hof⟩
          · have hn9 : n9 < 12 := hc33
            have f_12n9 : rg0 (12 + n9) = ra n9 := (hiv.2.2.2 n9 hn9).2.1
            have hmx9 := mx_b (P := P) (f := ra) 12 (fun j hj => (md_b hP2 hiv hj).2.2) n9 (by omega)
            have hbl9 := mx_q (md_b hP2 hiv hn9).2.2
            refine lv_aload_n hx hb dX5_count_36 rfl (lv_at hl 2 rfl) ?_
            refine lv_iload_n hx hb dX5_count_37 rfl (lv_at hl 3 rfl) ?_
            refine lv_iconst (v := nI 1) hx hb dX5_count_38 (by decide) ?_
            refine bd_ine (h1 := by omega) (h2 := by omega) (tgt := 46) hx hb dX5_count_39 (by decide) (fun hc39 => ?_) (fun hc39 => ?_)
            · refine lv_bipush (v := nI 12) hx hb dX5_count_46 (by decide) ?_
              refine lv_iload_n hx hb dX5_count_48 rfl (lv_at hl 1 rfl) ?_
              refine bd_iadd (v := nI (12 + n9)) hx hb dX5_count_49 (nI_add _ _) ?_
              refine bd_cip (As := [.int (nI (12 + n9))]) (rest := []) C (v5_bits _ _ _ _ _ hv (12 + n9) (by omega)) (cwV 1 hts gX5_count_X5_bits rfl rfl rfl (by decide +kernel) ⟨Nat.le_of_ble_eq_true rfl, Nat.le_of_ble_eq_true rfl⟩) hsz hw (mv_recv C hw hv) dX5_count_50 rfl hl.1 rfl (Nat.le_of_ble_eq_true rfl) ⟨Nat.le_refl _, Nat.le_refl _⟩ (fun H locs hw => ?_)
              rw [f_12n9]
              refine lv_istore (lv' := [(4, .int (nI (q_bl (ra n9).natAbs))), (2, .int (nI (dk_mx P ra n9))), (3, .int (nI n9)), (0, .ref (mo 0)), (1, .int (nI 2))]) hx hb dX5_count_53 hl (by decide) rfl (fun ls hl => ?_)
              refine lv_iload hx hb dX5_count_55 (lv_at hl 0 rfl) ?_
              refine lv_iload_n hx hb dX5_count_57 rfl (lv_at hl 1 rfl) ?_
              refine bd_ile (h1 := (by omega)) (h2 := (by omega)) (tgt := 66) hx hb dX5_count_58 (by decide) (fun hc58 => ?_) (fun hc58 => ?_)
              · refine lv_iload_n hx hb dX5_count_66 rfl (lv_at hl 1 rfl) ?_
                refine lv_istore_n (lv' := [(2, .int (nI (dk_mx P ra n9))), (4, .int (nI (q_bl (ra n9).natAbs))), (3, .int (nI n9)), (0, .ref (mo 0)), (1, .int (nI 2))]) hx hb dX5_count_67 rfl hl (by decide) rfl (fun ls hl => ?_)
                refine lv_iinc (v := (nI (n9 + 1))) (lv' := [(3, .int (nI (n9 + 1))), (2, .int (nI (dk_mx P ra n9))), (4, .int (nI (q_bl (ra n9).natAbs))), (0, .ref (mo 0)), (1, .int (nI 2))]) hx hb dX5_count_68 hl (k := 2) rfl (nI_1 _) (by decide) rfl (fun ls hl => ?_)
                refine lv_goto (tgt := 30) hx hb dX5_count_71 (by decide) ?_
                rw [show dk_mx P ra n9 = dk_mx P ra (n9 + 1) from (Nat.max_eq_left hc58).symm] at hl
                exact ih (d9 - 1) (by omega) (n9 + 1) ls H locs (by omega) (lv_sub hl [1, 0, 3, 4] rfl) hw
              · refine lv_iload hx hb dX5_count_61 (lv_at hl 0 rfl) ?_
                refine lv_goto (tgt := 67) hx hb dX5_count_63 (by decide) ?_
                refine lv_istore_n (lv' := [(2, .int (nI (q_bl (ra n9).natAbs))), (4, .int (nI (q_bl (ra n9).natAbs))), (3, .int (nI n9)), (0, .ref (mo 0)), (1, .int (nI 2))]) hx hb dX5_count_67 rfl hl (by decide) rfl (fun ls hl => ?_)
                refine lv_iinc (v := (nI (n9 + 1))) (lv' := [(3, .int (nI (n9 + 1))), (2, .int (nI (q_bl (ra n9).natAbs))), (4, .int (nI (q_bl (ra n9).natAbs))), (0, .ref (mo 0)), (1, .int (nI 2))]) hx hb dX5_count_68 hl (k := 2) rfl (nI_1 _) (by decide) rfl (fun ls hl => ?_)
                refine lv_goto (tgt := 30) hx hb dX5_count_71 (by decide) ?_
                rw [show q_bl (ra n9).natAbs = dk_mx P ra (n9 + 1) from (Nat.max_eq_right (Nat.le_of_lt hc58)).symm] at hl
                exact ih (d9 - 1) (by omega) (n9 + 1) ls H locs (by omega) (lv_sub hl [1, 0, 3, 4] rfl) hw
            · exact absurd hc39 (by decide)
      · refine lv_iconst (v := (-1)) hx hb dX5_count_24 (by decide) ?_
        have hd : dk_count P k mu ra = (-1) := by unfold dk_count; rw [if_neg hk0, if_neg (show ¬ k = 1 from hc16), if_neg (show ¬ k = 2 from hc21)]
        exact bd_iret C hr hlk hw dX5_count_25 ⟨hd.symm, _, _, hv, md_ivm hiv hof⟩
  · have hk0 : k = 0 := hc6
    refine lv_aload_n hx hb dX5_count_9 rfl (lv_at hl 0 rfl) ?_
    refine mv_g C i5 hw hv 1 (by decide) (v := .int (nI P)) rfl dX5_count_10 lk23 ?_
    have hd : dk_count P k mu ra = (nI P) := if_pos hk0
    exact bd_iret C hr hlk hw dX5_count_13 ⟨hd.symm, _, _, hv, md_ivm hiv hof⟩
set_option maxHeartbeats 4000000 in
set_option maxRecDepth 100000 in
/-- thrown() -/
theorem v5_thrown (l : Launch) (K : Cxt) (E0 : Nat → va_E) (z0 : Nat → Wh) (sz : Nat) {mo : Nat → Nat} {th : Int32} {P : Nat} {rg0 : Nat → Int} (hv : md_v K E0 mo th P rg0)   : Met l yX5_thrown wsX5_thrown ({ frames := 0, cells := 0, slots := 0, locals := 0 }) (va_Pc [.ref (mo 0)] (bd_P K E0 z0 sz)) (va_Qi (fun v u => v = th ∧ u = (E0, z0)) (bd_B K) (bd_A K sz)) 0 0 (bd_A K sz) := by
  refine bd_ofW (cc := cX5_thrown) (maxL := 1) (ret := (some .int)) (by decide) rfl (Nat.le_of_ble_eq_true rfl) ?_
  intro p e s m below meth c ls C hr hlk hsz hw hl
  have hx := C.1
  have hb := C.2.1
  have hown := C.2.2.2.1
  have hts := C.2.2.2.2.1
  have i5 : ∀ w ∈ wsX50, w ∈ wsX5_thrown := by decide +kernel
  have lk48 : Cond.fieldLink RX5 48 "BallDeskModel" "thrown" "I" ∈ wsX5_thrown := by decide +kernel
  have hl : lv_has ls 1 [(0, .ref (mo 0))] := hl
  obtain ⟨hP1, hP2⟩ := mv_P hv
  refine lv_aload_n hx hb dX5_thrown_0 rfl (lv_at hl 0 rfl) ?_
  refine mv_g C i5 hw hv 0 (by decide) (v := .int th) rfl dX5_thrown_1 lk48 ?_
  exact bd_iret C hr hlk hw dX5_thrown_4 (⟨rfl, rfl⟩)
