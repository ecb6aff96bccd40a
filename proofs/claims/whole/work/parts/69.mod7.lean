/-! the model: by values; divideUp, isEnd, size, ends, keep, keepEnds, coarse (laid by wip/gen/m_mod7.py) -/
theorem b34 {x : Nat} (h : x ≤ 2 ^ 815) : x < 16777216 ^ 34 := Nat.lt_of_le_of_lt h (by decide +kernel)
/-- copy and none by values -/
theorem v5_copy (l : Launch) (K : Cxt) (E0 : Nat → va_E) (z0 : Nat → Wh) (sz : Nat) {mo : Nat → Nat} {th : Int32} {P : Nat} {rg0 : Nat → Int} (hv : md_v K E0 mo th P rg0) (t r : Nat) (ht60 : t < 60) (hr60 : r < 60) : Met l yX5_copy wsX5_copy ({ frames := 0, cells := 0, slots := 0, locals := 0 }) (va_Pc [.ref (mo 0), .int (nI t), .int (nI r)] (bd_P K E0 z0 sz)) (va_Qv (mv_q K mo th P rg0 t (rg0 r)) (bd_B K) (bd_A K sz)) 0 0 (bd_A K sz) := by
  obtain ⟨F, G, S, R, hm, hi⟩ := hv
  exact bd_mv (m5_copy l K E0 z0 sz hm t r ht60 hr60) (fun u q => by
    obtain ⟨f1, hf, hm1⟩ := q
    obtain ⟨a, b, d⟩ := hi r hr60
    exact mv_end (z := u.2) hm1 hi (fun k hk => by rw [hf k hk]; exact a k hk) (by rw [h_cg hf]; exact b) d)
theorem v5_none (l : Launch) (K : Cxt) (E0 : Nat → va_E) (z0 : Nat → Wh) (sz : Nat) {mo : Nat → Nat} {th : Int32} {P : Nat} {rg0 : Nat → Int} (hv : md_v K E0 mo th P rg0) (r : Nat) (hr60 : r < 60) : Met l yX5_none wsX5_none ({ frames := 0, cells := 0, slots := 0, locals := 0 }) (va_Pc [.ref (mo 0), .int (nI r)] (bd_P K E0 z0 sz)) (va_Qv (mv_q K mo th P rg0 r 0) (bd_B K) (bd_A K sz)) 0 0 (bd_A K sz) := by
  obtain ⟨F, G, S, R, hm, hi⟩ := hv
  exact bd_mv (m5_none l K E0 z0 sz hm r hr60) (fun u q => by
    obtain ⟨f1, hf, hm1⟩ := q
    exact mv_end (z := u.2) (v := 0) hm1 hi (fun k hk => by rw [hf k hk]; decide) (h_z.mpr hf) rfl)
theorem sg_neg (x : Int) : -(q_sg x) = q_sg (-x) := by
  rcases sg3 x with ⟨a, b⟩ | ⟨a, b⟩ | ⟨a, b⟩ <;> rcases sg3 (-x) with ⟨a2, b2⟩ | ⟨a2, b2⟩ | ⟨a2, b2⟩ <;> first | (exfalso; omega) | (rw [b, b2] <;> decide)
theorem sg_abs (x : Int) : (if x = 0 then (0 : Int32) else 1) = q_sg (x.natAbs : Int) := by
  rcases sg3 (x.natAbs : Int) with ⟨a, b⟩ | ⟨a, b⟩ | ⟨a, b⟩
  · exfalso; omega
  · rw [b, if_pos (by omega)]
  · rw [b, if_neg (by omega)]
theorem bl_1 {x : Nat} : q_bl x = 1 ↔ x = 1 := by
  constructor
  · intro h
    rcases Nat.eq_zero_or_pos x with q | q
    · rw [q] at h
      exact absurd h (by decide)
    · obtain ⟨a, b, d⟩ := bl_sp (x := x) (by omega)
      rw [h] at a b
      omega
  · intro h
    rw [h]
    decide +kernel
/-- the model at rest -/
def md_iv (P : Nat) (rg : Nat → Int) (mu ra : Nat → Int) : Prop := rg 26 = sp_PI (P + 64) ∧ rg 27 = dk_p (P + 64) ∧ rg 28 = dk_p (P + 48) ∧ ∀ k, k < 12 → rg k = mu k ∧ rg (12 + k) = ra k ∧ (mu k).natAbs ≤ 2 ^ (P + 48) ∧ 0 ≤ ra k ∧ (ra k).natAbs ≤ 2 ^ (P + 48)
theorem md_ivm {P : Nat} {rg rg1 : Nat → Int} {mu ra : Nat → Int} (h : md_iv P rg mu ra) (ho : ∀ j, (j < 24 ∨ (26 ≤ j ∧ j ≤ 28)) → rg1 j = rg j) : md_iv P rg1 mu ra := by
  obtain ⟨h1, h2, h3, h4⟩ := h
  refine ⟨(ho 26 (by omega)).trans h1, (ho 27 (by omega)).trans h2, (ho 28 (by omega)).trans h3, fun k hk => ?_⟩
  obtain ⟨a, b, d⟩ := h4 k hk
  exact ⟨(ho k (by omega)).trans a, (ho (12 + k) (by omega)).trans b, d⟩
theorem md_b {P : Nat} {rg : Nat → Int} {mu ra : Nat → Int} (hP : P ≤ 192) (h : md_iv P rg mu ra) {k : Nat} (hk : k < 12) : (mu k).natAbs ≤ 2 ^ 240 ∧ 0 ≤ ra k ∧ (ra k).natAbs ≤ 2 ^ 240 := by
  obtain ⟨-, -, a3, a4, a5⟩ := h.2.2.2 k hk
  have : (2 : Nat) ^ (P + 48) ≤ 2 ^ 240 := Nat.pow_le_pow_right (by decide) (by omega)
  exact ⟨Nat.le_trans a3 this, a4, Nat.le_trans a5 this⟩
def md_post (K : Cxt) (mo : Nat → Nat) (P : Nat) (t : dk_T) (r : Int32) (u : bd_U) : Prop := r = t.1 ∧ ∃ (th : Int32) (rg : Nat → Int), md_v K u.1 mo th P rg ∧ md_iv P rg t.2.1 t.2.2
theorem md_ivk {P : Nat} {rg : Nat → Int} {mu ra : Nat → Int} (h : md_iv P rg mu ra) {k : Nat} (hk : k < 12) {M R : Int} (h1 : M.natAbs ≤ 2 ^ (P + 48)) (h2 : 0 ≤ R) (h3 : R.natAbs ≤ 2 ^ (P + 48)) {rg1 : Nat → Int} (hm : rg1 k = M) (hr : rg1 (12 + k) = R) (ho : ∀ j, j ≠ k → j ≠ 12 + k → rg1 j = rg j) : md_iv P rg1 (va_up mu k M) (va_up ra k R) := by
  obtain ⟨g1, g2, g3, g4⟩ := h
  refine ⟨(ho 26 (by omega) (by omega)).trans g1, (ho 27 (by omega) (by omega)).trans g2, (ho 28 (by omega) (by omega)).trans g3, fun j hj => ?_⟩
  by_cases q : j = k
  · subst q
    rw [va_up_self, va_up_self]
    exact ⟨hm, hr, h1, h2, h3⟩
  · rw [va_up_ne _ _ q, va_up_ne _ _ q]
    obtain ⟨a, b, d⟩ := g4 j hj
    exact ⟨(ho j q (by omega)).trans a, (ho (12 + j) (by omega) (by omega)).trans b, d⟩
theorem nI_blt {K : Cxt} {E : Nat → va_E} {mo : Nat → Nat} {th : Int32} {P : Nat} {rg : Nat → Int} (hv : md_v K E mo th P rg) {r : Nat} (hr : r < 60) : q_bl (rg r).natAbs < 2 ^ 31 := by
  obtain ⟨F, G, S, R, hm, hi⟩ := hv
  obtain ⟨a, b, d⟩ := hi r hr
  have := q_bl_le2 (h_lt a)
  rw [b] at this
  omega
theorem sub_b {x y : Int} {a b : Nat} (hx : x.natAbs ≤ a) (hy : y.natAbs ≤ b) : (x - y).natAbs ≤ a + b := by omega
theorem i32_b (v : Int32) : v.toInt.natAbs ≤ 2 ^ 31 := by
  have h1 := Int32.le_toInt v
  have h2 := Int32.toInt_lt v
  omega
set_option maxHeartbeats 4000000 in
set_option maxRecDepth 100000 in
/-- divideUp -/
theorem v5_divideUp (l : Launch) (K : Cxt) (E0 : Nat → va_E) (z0 : Nat → Wh) (sz : Nat) {mo : Nat → Nat} {th : Int32} {P : Nat} {rg0 : Nat → Int} (hv : md_v K E0 mo th P rg0) (t ra rb : Nat) (ht60 : t < 60) (ha60 : ra < 60) (hb60 : rb < 60) (hta : t ≠ ra) (htb : t ≠ rb) (hab : ra ≠ rb) (ht32 : t ≠ 32) (ha32 : ra ≠ 32) (hb32 : rb ≠ 32) (hb0 : 0 < rg0 rb) (hb2 : 2 * (rg0 rb).natAbs ≤ 16777216 ^ 34) : Met l yX5_divideUp wsX5_divideUp ({ frames := 6, cells := 0, slots := 0, locals := 200 }) (va_Pc [.ref (mo 0), .int (nI t), .int (nI ra), .int (nI rb)] (bd_P K E0 z0 sz)) (va_Qv (fun u => ∃ rg : Nat → Int, md_v K u.1 mo th P rg ∧ rg t = -(-(rg0 ra) / rg0 rb) ∧ ∀ j, j ≠ t → j ≠ 32 → rg j = rg0 j) (bd_B K) (bd_A K sz)) 0 0 (bd_A K sz) := by
  refine bd_ofW (cc := cX5_divideUp) (maxL := 4) (ret := none) (by decide) rfl (Nat.le_of_ble_eq_true rfl) ?_
  intro p e s m below meth c ls C hr hlk hsz hw hl
  have hx := C.1
  have hb := C.2.1
  have hown := C.2.2.2.1
  have hts := C.2.2.2.2.1
  have i5 : ∀ w ∈ wsX50, w ∈ wsX5_divideUp := by decide +kernel
  have lk13 : Cond.fieldLink RX5 13 "BallDeskModel" "signs" "[I" ∈ wsX5_divideUp := by decide +kernel
  have hl : lv_has ls 4 [(0, .ref (mo 0)), (1, .int (nI t)), (2, .int (nI ra)), (3, .int (nI rb))] := hl
  obtain ⟨hP1, hP2⟩ := mv_P hv
  have f_ra : rg0 ra = rg0 ra := rfl
  have f_rb : rg0 rb = rg0 rb := rfl
  have hof : ∀ j, j ≠ t ∧ j ≠ 32 ∧ j ≠ ra → rg0 j = rg0 j := fun _ _ => rfl
  refine lv_aload_n hx hb dX5_divideUp_0 rfl (lv_at hl 0 rfl) ?_
  refine mv_g C i5 hw hv 4 (by decide) (v := .ref (mo 2)) rfl dX5_divideUp_1 lk13 ?_
  refine lv_iload_n hx hb dX5_divideUp_4 rfl (lv_at hl 2 rfl) ?_
  refine lv_aload_n hx hb dX5_divideUp_5 rfl (lv_at hl 0 rfl) ?_
  refine mv_g C i5 hw hv 4 (by decide) (v := .ref (mo 2)) rfl dX5_divideUp_6 lk13 ?_
  refine lv_iload_n hx hb dX5_divideUp_9 rfl (lv_at hl 2 rfl) ?_
  refine mv_ld2 C hw hv (r := ra) dX5_divideUp_10 (by omega) ?_
  rw [f_ra]
  refine bd_ineg (v := (-(q_sg (rg0 ra)))) hx hb dX5_divideUp_11 (rfl) ?_
  refine mv_st2 C hw hv (r := ra) (-(rg0 ra)) (by rw [f_ra]; omega) (sg_neg _) dX5_divideUp_12 (by omega) (fun E rg H locs hv hv0_ hf9 hw => ?_)
  have fT0_ : rg ra = -(rg0 ra) := hv0_.trans (by rfl)
  have f_rb : rg rb = rg0 rb := (hf9 rb (by omega)).trans f_rb
  have f_ra := fT0_
  have hof : ∀ j, j ≠ t ∧ j ≠ 32 ∧ j ≠ ra → rg j = rg0 j := fun j hj => (hf9 j (by omega)).trans (hof j hj)
  refine lv_aload_n hx hb dX5_divideUp_13 rfl (lv_at hl 0 rfl) ?_
  refine lv_iload_n hx hb dX5_divideUp_14 rfl (lv_at hl 1 rfl) ?_
  refine lv_iload_n hx hb dX5_divideUp_15 rfl (lv_at hl 2 rfl) ?_
  refine lv_iload_n hx hb dX5_divideUp_16 rfl (lv_at hl 3 rfl) ?_
  refine bd_cv (As := [.int (nI t), .int (nI ra), .int (nI rb)]) (rest := []) C (v5_divide _ _ _ _ _ hv t ra rb (by omega) (by omega) (by omega) (by omega) (by omega) (by omega) (by rw [f_rb]; exact hb0) (by rw [f_rb]; exact hb2)) (cwV 3 hts gX5_divideUp_X5_divide rfl rfl rfl (by decide +kernel) ⟨Nat.le_of_ble_eq_true rfl, Nat.le_of_ble_eq_true rfl⟩) hsz hw (mv_recv C hw hv) dX5_divideUp_17 rfl hl.1 rfl (Nat.le_of_ble_eq_true rfl) ⟨Nat.le_refl _, Nat.le_refl _⟩ (fun E z H locs hp hw => ?_)
  obtain ⟨rg, hv, hv0_, hf9⟩ := hp
  have fT0_ : rg t = (-(rg0 ra) / rg0 rb) := hv0_.trans (by rw [f_ra, f_rb])
  have f_rb : rg rb = rg0 rb := (hf9 rb (by omega) (by omega)).trans f_rb
  have f_ra : rg ra = -(rg0 ra) := (hf9 ra (by omega) (by omega)).trans f_ra
  have f_t := fT0_
  have hof : ∀ j, j ≠ t ∧ j ≠ 32 ∧ j ≠ ra → rg j = rg0 j := fun j hj => (hf9 j (by omega) (by omega)).trans (hof j hj)
  refine lv_aload_n hx hb dX5_divideUp_20 rfl (lv_at hl 0 rfl) ?_
  refine mv_g C i5 hw hv 4 (by decide) (v := .ref (mo 2)) rfl dX5_divideUp_21 lk13 ?_
  refine lv_iload_n hx hb dX5_divideUp_24 rfl (lv_at hl 2 rfl) ?_
  refine lv_aload_n hx hb dX5_divideUp_25 rfl (lv_at hl 0 rfl) ?_
  refine mv_g C i5 hw hv 4 (by decide) (v := .ref (mo 2)) rfl dX5_divideUp_26 lk13 ?_
  refine lv_iload_n hx hb dX5_divideUp_29 rfl (lv_at hl 2 rfl) ?_
  refine mv_ld2 C hw hv (r := ra) dX5_divideUp_30 (by omega) ?_
  rw [f_ra]
  refine bd_ineg (v := (-(q_sg (-(rg0 ra))))) hx hb dX5_divideUp_31 (rfl) ?_
  refine mv_st2 C hw hv (r := ra) (rg0 ra) (by rw [f_ra]; omega) (by rw [sg_neg, Int.neg_neg]) dX5_divideUp_32 (by omega) (fun E rg H locs hv hv0_ hf9 hw => ?_)
  have fT0_ : rg ra = rg0 ra := hv0_.trans (by rfl)
  have f_rb : rg rb = rg0 rb := (hf9 rb (by omega)).trans f_rb
  have f_t : rg t = (-(rg0 ra) / rg0 rb) := (hf9 t (by omega)).trans f_t
  have f_ra := fT0_
  have hof : ∀ j, j ≠ t ∧ j ≠ 32 ∧ j ≠ ra → rg j = rg0 j := fun j hj => (hf9 j (by omega)).trans (hof j hj)
  refine lv_aload_n hx hb dX5_divideUp_33 rfl (lv_at hl 0 rfl) ?_
  refine mv_g C i5 hw hv 4 (by decide) (v := .ref (mo 2)) rfl dX5_divideUp_34 lk13 ?_
  refine lv_iload_n hx hb dX5_divideUp_37 rfl (lv_at hl 1 rfl) ?_
  refine lv_aload_n hx hb dX5_divideUp_38 rfl (lv_at hl 0 rfl) ?_
  refine mv_g C i5 hw hv 4 (by decide) (v := .ref (mo 2)) rfl dX5_divideUp_39 lk13 ?_
  refine lv_iload_n hx hb dX5_divideUp_42 rfl (lv_at hl 1 rfl) ?_
  refine mv_ld2 C hw hv (r := t) dX5_divideUp_43 (by omega) ?_
  rw [f_t]
  refine bd_ineg (v := (-(q_sg (-(rg0 ra) / rg0 rb)))) hx hb dX5_divideUp_44 (rfl) ?_
  refine mv_st2 C hw hv (r := t) (-(-(rg0 ra) / rg0 rb)) (by rw [f_t]; omega) (sg_neg _) dX5_divideUp_45 (by omega) (fun E rg H locs hv hv0_ hf9 hw => ?_)
  have fT0_ : rg t = -(-(rg0 ra) / rg0 rb) := hv0_.trans (by rfl)
  have f_rb : rg rb = rg0 rb := (hf9 rb (by omega)).trans f_rb
  have f_ra : rg ra = rg0 ra := (hf9 ra (by omega)).trans f_ra
  have f_t := fT0_
  have hof : ∀ j, j ≠ t ∧ j ≠ 32 ∧ j ≠ ra → rg j = rg0 j := fun j hj => (hf9 j (by omega)).trans (hof j hj)
  exact bd_vret C hr hlk hw dX5_divideUp_46 (⟨rg, hv, f_t, fun j h1 h2 => (Classical.em (j = ra)).elim (fun q => by rw [q]; exact f_ra) (fun q => hof j ⟨h1, h2, q⟩)⟩)
set_option maxHeartbeats 4000000 in
set_option maxRecDepth 100000 in
/-- isEnd -/
theorem v5_isEnd (l : Launch) (K : Cxt) (E0 : Nat → va_E) (z0 : Nat → Wh) (sz : Nat) {mo : Nat → Nat} {th : Int32} {P : Nat} {rg0 : Nat → Int} (hv : md_v K E0 mo th P rg0) (r : Nat) (hr60 : r < 60) : Met l yX5_isEnd wsX5_isEnd ({ frames := 2, cells := 0, slots := 0, locals := 60 }) (va_Pc [.ref (mo 0), .int (nI r)] (bd_P K E0 z0 sz)) (va_Qi (fun v u => v = (if rg0 r = 0 ∨ rg0 r = -1 then 1 else 0) ∧ u = (E0, z0)) (bd_B K) (bd_A K sz)) 0 0 (bd_A K sz) := by
  refine bd_ofW (cc := cX5_isEnd) (maxL := 2) (ret := (some .boolean)) (by decide) rfl (Nat.le_of_ble_eq_true rfl) ?_
  intro p e s m below meth c ls C hr hlk hsz hw hl
  have hx := C.1
  have hb := C.2.1
  have hown := C.2.2.2.1
  have hts := C.2.2.2.2.1
  have i5 : ∀ w ∈ wsX50, w ∈ wsX5_isEnd := by decide +kernel
  have lk13 : Cond.fieldLink RX5 13 "BallDeskModel" "signs" "[I" ∈ wsX5_isEnd := by decide +kernel
  have hl : lv_has ls 2 [(0, .ref (mo 0)), (1, .int (nI r))] := hl
  obtain ⟨hP1, hP2⟩ := mv_P hv
  have f_r : rg0 r = rg0 r := rfl
  refine lv_aload_n hx hb dX5_isEnd_0 rfl (lv_at hl 0 rfl) ?_
  refine mv_g C i5 hw hv 4 (by decide) (v := .ref (mo 2)) rfl dX5_isEnd_1 lk13 ?_
  refine lv_iload_n hx hb dX5_isEnd_4 rfl (lv_at hl 1 rfl) ?_
  refine mv_ld2 C hw hv (r := r) dX5_isEnd_5 (by omega) ?_
  rw [f_r]
  refine lv_if_eq (tgt := 27) hx hb dX5_isEnd_6 (by decide) (fun hc6 => ?_) (fun hc6 => ?_)
  · refine lv_iconst (v := nI 1) hx hb dX5_isEnd_27 (by decide) ?_
    refine lv_goto (tgt := 32) hx hb dX5_isEnd_28 (by decide) ?_
    exact bd_zret C hr hlk hw dX5_isEnd_32 (by first | exact Or.inl rfl | exact Or.inr rfl) ⟨by rw [if_pos (Or.inl (sg_0 hc6))] <;> rfl, rfl⟩
  · have h0 : rg0 r ≠ 0 := fun q => hc6 (by rw [q]; rfl)
    refine lv_aload_n hx hb dX5_isEnd_9 rfl (lv_at hl 0 rfl) ?_
    refine mv_g C i5 hw hv 4 (by decide) (v := .ref (mo 2)) rfl dX5_isEnd_10 lk13 ?_
    refine lv_iload_n hx hb dX5_isEnd_13 rfl (lv_at hl 1 rfl) ?_
    refine mv_ld2 C hw hv (r := r) dX5_isEnd_14 (by omega) ?_
    rw [f_r]
    refine lv_if_ge (tgt := 31) hx hb dX5_isEnd_15 (by decide) (fun hc15 => ?_) (fun hc15 => ?_)
    · have h1 := sg_ge hc15
      refine lv_iconst (v := nI 0) hx hb dX5_isEnd_31 (by decide) ?_
      exact bd_zret C hr hlk hw dX5_isEnd_32 (by first | exact Or.inl rfl | exact Or.inr rfl) ⟨by rw [if_neg (fun q => by omega)] <;> rfl, rfl⟩
    · have h1 := sg_nge hc15
      refine lv_aload_n hx hb dX5_isEnd_18 rfl (lv_at hl 0 rfl) ?_
      refine lv_iload_n hx hb dX5_isEnd_19 rfl (lv_at hl 1 rfl) ?_
      refine bd_cip (As := [.int (nI r)]) (rest := []) C (v5_bits _ _ _ _ _ hv r (by omega)) (cwV 1 hts gX5_isEnd_X5_bits rfl rfl rfl (by decide +kernel) ⟨Nat.le_of_ble_eq_true rfl, Nat.le_of_ble_eq_true rfl⟩) hsz hw (mv_recv C hw hv) dX5_isEnd_20 rfl hl.1 rfl (Nat.le_of_ble_eq_true rfl) ⟨Nat.le_refl _, Nat.le_refl _⟩ (fun H locs hw => ?_)
      rw [f_r]
      refine lv_iconst (v := nI 1) hx hb dX5_isEnd_23 (by decide) ?_
      refine bd_ine (h1 := (nI_blt hv hr60)) (h2 := (by decide)) (tgt := 31) hx hb dX5_isEnd_24 (by decide) (fun hc24 => ?_) (fun hc24 => ?_)
      · refine lv_iconst (v := nI 0) hx hb dX5_isEnd_31 (by decide) ?_
        exact bd_zret C hr hlk hw dX5_isEnd_32 (by first | exact Or.inl rfl | exact Or.inr rfl) ⟨by rw [if_neg (fun q => hc24 (bl_1.mpr (by omega)))] <;> rfl, rfl⟩
      · refine lv_iconst (v := nI 1) hx hb dX5_isEnd_27 (by decide) ?_
        refine lv_goto (tgt := 32) hx hb dX5_isEnd_28 (by decide) ?_
        exact bd_zret C hr hlk hw dX5_isEnd_32 (by first | exact Or.inl rfl | exact Or.inr rfl) ⟨by rw [if_pos (Or.inr (by have := bl_1.mp hc24; omega))] <;> rfl, rfl⟩
set_option maxHeartbeats 4000000 in
set_option maxRecDepth 100000 in
/-- size -/
theorem v5_size (l : Launch) (K : Cxt) (E0 : Nat → va_E) (z0 : Nat → Wh) (sz : Nat) {mo : Nat → Nat} {th : Int32} {P : Nat} {rg0 : Nat → Int} (hv : md_v K E0 mo th P rg0) (t ra : Nat) (ht60 : t < 60) (ha60 : ra < 60) (hta : t ≠ ra) : Met l yX5_size wsX5_size ({ frames := 1, cells := 0, slots := 0, locals := 30 }) (va_Pc [.ref (mo 0), .int (nI t), .int (nI ra)] (bd_P K E0 z0 sz)) (va_Qv (mv_q K mo th P rg0 t ((rg0 ra).natAbs : Int)) (bd_B K) (bd_A K sz)) 0 0 (bd_A K sz) := by
  refine bd_ofW (cc := cX5_size) (maxL := 3) (ret := none) (by decide) rfl (Nat.le_of_ble_eq_true rfl) ?_
  intro p e s m below meth c ls C hr hlk hsz hw hl
  have hx := C.1
  have hb := C.2.1
  have hown := C.2.2.2.1
  have hts := C.2.2.2.2.1
  have i5 : ∀ w ∈ wsX50, w ∈ wsX5_size := by decide +kernel
  have lk13 : Cond.fieldLink RX5 13 "BallDeskModel" "signs" "[I" ∈ wsX5_size := by decide +kernel
  have hl : lv_has ls 3 [(0, .ref (mo 0)), (1, .int (nI t)), (2, .int (nI ra))] := hl
  obtain ⟨hP1, hP2⟩ := mv_P hv
  have f_ra : rg0 ra = rg0 ra := rfl
  have hof : ∀ j, j ≠ t → rg0 j = rg0 j := fun _ _ => rfl
  refine lv_aload_n hx hb dX5_size_0 rfl (lv_at hl 0 rfl) ?_
  refine lv_iload_n hx hb dX5_size_1 rfl (lv_at hl 1 rfl) ?_
  refine lv_iload_n hx hb dX5_size_2 rfl (lv_at hl 2 rfl) ?_
  refine bd_cv (As := [.int (nI t), .int (nI ra)]) (rest := []) C (v5_copy _ _ _ _ _ hv t ra (by omega) (by omega)) (cwV 2 hts gX5_size_X5_copy rfl rfl rfl (by decide +kernel) ⟨Nat.le_of_ble_eq_true rfl, Nat.le_of_ble_eq_true rfl⟩) hsz hw (mv_recv C hw hv) dX5_size_3 rfl hl.1 rfl (Nat.le_of_ble_eq_true rfl) ⟨Nat.le_refl _, Nat.le_refl _⟩ (fun E z H locs hp hw => ?_)
  obtain ⟨rg, hv, hv0_, hf9⟩ := hp
  have fT0_ : rg t = rg0 ra := hv0_.trans (by rw [f_ra])
  have f_ra : rg ra = rg0 ra := (hf9 ra (by omega)).trans f_ra
  have f_t := fT0_
  have hof : ∀ j, j ≠ t → rg j = rg0 j := fun j hj => (hf9 j (by omega)).trans (hof j hj)
  refine lv_aload_n hx hb dX5_size_6 rfl (lv_at hl 0 rfl) ?_
  refine mv_g C i5 hw hv 4 (by decide) (v := .ref (mo 2)) rfl dX5_size_7 lk13 ?_
  refine lv_iload_n hx hb dX5_size_10 rfl (lv_at hl 1 rfl) ?_
  refine lv_aload_n hx hb dX5_size_11 rfl (lv_at hl 0 rfl) ?_
  refine mv_g C i5 hw hv 4 (by decide) (v := .ref (mo 2)) rfl dX5_size_12 lk13 ?_
  refine lv_iload_n hx hb dX5_size_15 rfl (lv_at hl 2 rfl) ?_
  refine mv_ld2 C hw hv (r := ra) dX5_size_16 (by omega) ?_
  rw [f_ra]
  refine lv_if_ne (tgt := 24) hx hb dX5_size_17 (by decide) (fun hc17 => ?_) (fun hc17 => ?_)
  · refine lv_iconst (v := nI 1) hx hb dX5_size_24 (by decide) ?_
    refine mv_st2 C hw hv (r := t) (((rg0 ra).natAbs : Int)) (by rw [f_t]; omega) (by rw [← sg_abs]; rw [if_neg (fun q => hc17 (by rw [q]; rfl))] <;> rfl) dX5_size_25 (by omega) (fun E rg H locs hv hv0_ hf9 hw => ?_)
    have fT0_ : rg t = ((rg0 ra).natAbs : Int) := hv0_.trans (by rfl)
    have f_ra : rg ra = rg0 ra := (hf9 ra (by omega)).trans f_ra
    have f_t := fT0_
    have hof : ∀ j, j ≠ t → rg j = rg0 j := fun j hj => (hf9 j (by omega)).trans (hof j hj)
    exact bd_vret C hr hlk hw dX5_size_26 (⟨rg, hv, f_t, fun j h1 => hof j h1⟩)
  · refine lv_iconst (v := nI 0) hx hb dX5_size_20 (by decide) ?_
    refine lv_goto (tgt := 25) hx hb dX5_size_21 (by decide) ?_
    refine mv_st2 C hw hv (r := t) (((rg0 ra).natAbs : Int)) (by rw [f_t]; omega) (by rw [← sg_abs]; rw [if_pos (sg_0 hc17)] <;> rfl) dX5_size_25 (by omega) (fun E rg H locs hv hv0_ hf9 hw => ?_)
    have fT0_ : rg t = ((rg0 ra).natAbs : Int) := hv0_.trans (by rfl)
    have f_ra : rg ra = rg0 ra := (hf9 ra (by omega)).trans f_ra
    have f_t := fT0_
    have hof : ∀ j, j ≠ t → rg j = rg0 j := fun j hj => (hf9 j (by omega)).trans (hof j hj)
    exact bd_vret C hr hlk hw dX5_size_26 (⟨rg, hv, f_t, fun j h1 => hof j h1⟩)
set_option maxHeartbeats 4000000 in
set_option maxRecDepth 100000 in
/-- ends -/
theorem v5_ends (l : Launch) (K : Cxt) (E0 : Nat → va_E) (z0 : Nat → Wh) (sz : Nat) {mo : Nat → Nat} {th : Int32} {P : Nat} {rg0 : Nat → Int} (hv : md_v K E0 mo th P rg0) (k : Nat) (hk12 : k < 12) (hmb : (rg0 k).natAbs ≤ 2 ^ 240) (hrb : (rg0 (12 + k)).natAbs ≤ 2 ^ 240) : Met l yX5_ends wsX5_ends ({ frames := 4, cells := 0, slots := 0, locals := 130 }) (va_Pc [.ref (mo 0), .int (nI k)] (bd_P K E0 z0 sz)) (va_Qv (fun u => ∃ rg : Nat → Int, md_v K u.1 mo th P rg ∧ rg 24 = rg0 k - rg0 (12 + k) ∧ rg 25 = rg0 k + rg0 (12 + k) ∧ ∀ j, j ≠ 24 ∧ j ≠ 25 → rg j = rg0 j) (bd_B K) (bd_A K sz)) 0 0 (bd_A K sz) := by
  refine bd_ofW (cc := cX5_ends) (maxL := 2) (ret := none) (by decide) rfl (Nat.le_of_ble_eq_true rfl) ?_
  intro p e s m below meth c ls C hr hlk hsz hw hl
  have hx := C.1
  have hb := C.2.1
  have hown := C.2.2.2.1
  have hts := C.2.2.2.2.1
  have hl : lv_has ls 2 [(0, .ref (mo 0)), (1, .int (nI k))] := hl
  obtain ⟨hP1, hP2⟩ := mv_P hv
  obtain ⟨he1, he2⟩ := e_b hmb hrb
  have f_k : rg0 k = rg0 k := rfl
  have f_12k : rg0 (12 + k) = rg0 (12 + k) := rfl
  have hof : ∀ j, j ≠ 24 ∧ j ≠ 25 → rg0 j = rg0 j := fun _ _ => rfl
  refine lv_aload_n hx hb dX5_ends_0 rfl (lv_at hl 0 rfl) ?_
  refine lv_bipush (v := nI 24) hx hb dX5_ends_1 (by decide) ?_
  refine lv_iload_n hx hb dX5_ends_3 rfl (lv_at hl 1 rfl) ?_
  refine lv_bipush (v := nI 12) hx hb dX5_ends_4 (by decide) ?_
  refine lv_iload_n hx hb dX5_ends_6 rfl (lv_at hl 1 rfl) ?_
  refine bd_iadd (v := nI (12 + k)) hx hb dX5_ends_7 (nI_add _ _) ?_
  refine bd_cv (As := [.int (nI 24), .int (nI k), .int (nI (12 + k))]) (rest := []) C (v5_minus _ _ _ _ _ hv 24 k (12 + k) (by omega) (by omega) (by omega) (by rw [f_k, f_12k]; exact (b34 (Nat.le_trans he1 (by decide +kernel))))) (cwV 3 hts gX5_ends_X5_minus rfl rfl rfl (by decide +kernel) ⟨Nat.le_of_ble_eq_true rfl, Nat.le_of_ble_eq_true rfl⟩) hsz hw (mv_recv C hw hv) dX5_ends_8 rfl hl.1 rfl (Nat.le_of_ble_eq_true rfl) ⟨Nat.le_refl _, Nat.le_refl _⟩ (fun E z H locs hp hw => ?_)
  obtain ⟨rg, hv, hv0_, hf9⟩ := hp
  have fT0_ : rg 24 = (rg0 k - rg0 (12 + k)) := hv0_.trans (by rw [f_k, f_12k])
  have f_k : rg k = rg0 k := (hf9 k (by omega)).trans f_k
  have f_12k : rg (12 + k) = rg0 (12 + k) := (hf9 (12 + k) (by omega)).trans f_12k
  have f_24 := fT0_
  have hof : ∀ j, j ≠ 24 ∧ j ≠ 25 → rg j = rg0 j := fun j hj => (hf9 j (by omega)).trans (hof j hj)
  refine lv_aload_n hx hb dX5_ends_11 rfl (lv_at hl 0 rfl) ?_
  refine lv_bipush (v := nI 25) hx hb dX5_ends_12 (by decide) ?_
  refine lv_iload_n hx hb dX5_ends_14 rfl (lv_at hl 1 rfl) ?_
  refine lv_bipush (v := nI 12) hx hb dX5_ends_15 (by decide) ?_
  refine lv_iload_n hx hb dX5_ends_17 rfl (lv_at hl 1 rfl) ?_
  refine bd_iadd (v := nI (12 + k)) hx hb dX5_ends_18 (nI_add _ _) ?_
  refine bd_cv (As := [.int (nI 25), .int (nI k), .int (nI (12 + k))]) (rest := []) C (v5_plus _ _ _ _ _ hv 25 k (12 + k) (by omega) (by omega) (by omega) (by rw [f_k, f_12k]; exact (b34 (Nat.le_trans he2 (by decide +kernel))))) (cwV 3 hts gX5_ends_X5_plus rfl rfl rfl (by decide +kernel) ⟨Nat.le_of_ble_eq_true rfl, Nat.le_of_ble_eq_true rfl⟩) hsz hw (mv_recv C hw hv) dX5_ends_19 rfl hl.1 rfl (Nat.le_of_ble_eq_true rfl) ⟨Nat.le_refl _, Nat.le_refl _⟩ (fun E z H locs hp hw => ?_)
  obtain ⟨rg, hv, hv0_, hf9⟩ := hp
  have fT0_ : rg 25 = (rg0 k + rg0 (12 + k)) := hv0_.trans (by rw [f_k, f_12k])
  have f_k : rg k = rg0 k := (hf9 k (by omega)).trans f_k
  have f_12k : rg (12 + k) = rg0 (12 + k) := (hf9 (12 + k) (by omega)).trans f_12k
  have f_24 : rg 24 = (rg0 k - rg0 (12 + k)) := (hf9 24 (by omega)).trans f_24
  have f_25 := fT0_
  have hof : ∀ j, j ≠ 24 ∧ j ≠ 25 → rg j = rg0 j := fun j hj => (hf9 j (by omega)).trans (hof j hj)
  exact bd_vret C hr hlk hw dX5_ends_22 ⟨rg, hv, f_24, f_25, hof⟩
set_option maxHeartbeats 4000000 in
set_option maxRecDepth 100000 in
/-- keep -/
theorem v5_keep (l : Launch) (K : Cxt) (E0 : Nat → va_E) (z0 : Nat → Wh) (sz : Nat) {mo : Nat → Nat} {th : Int32} {P : Nat} {rg0 : Nat → Int} (hv : md_v K E0 mo th P rg0) {mu ra : Nat → Int} (hiv : md_iv P rg0 mu ra) (k : Nat) (hk12 : k < 12) : Met l yX5_keep wsX5_keep ({ frames := 2, cells := 0, slots := 0, locals := 60 }) (va_Pc [.ref (mo 0), .int (nI k)] (bd_P K E0 z0 sz)) (va_Qi (md_post K mo P (dk_keep P k (rg0 33) (rg0 34) mu ra)) (bd_B K) (bd_A K sz)) 0 0 (bd_A K sz) := by
  refine bd_ofW (cc := cX5_keep) (maxL := 2) (ret := (some .int)) (by decide) rfl (Nat.le_of_ble_eq_true rfl) ?_
  intro p e s m below meth c ls C hr hlk hsz hw hl
  have hx := C.1
  have hb := C.2.1
  have hown := C.2.2.2.1
  have hts := C.2.2.2.2.1
  have i5 : ∀ w ∈ wsX50, w ∈ wsX5_keep := by decide +kernel
  have lk13 : Cond.fieldLink RX5 13 "BallDeskModel" "signs" "[I" ∈ wsX5_keep := by decide +kernel
  have hl : lv_has ls 2 [(0, .ref (mo 0)), (1, .int (nI k))] := hl
  obtain ⟨hP1, hP2⟩ := mv_P hv
  have hf_28 := hiv.2.2.1
  have f_33 : rg0 33 = rg0 33 := rfl
  have f_34 : rg0 34 = rg0 34 := rfl
  have f_28 : rg0 28 = dk_p (P + 48) := hf_28
  have hof : ∀ j, j ≠ k ∧ j ≠ 12 + k → rg0 j = rg0 j := fun _ _ => rfl
  refine lv_aload_n hx hb dX5_keep_0 rfl (lv_at hl 0 rfl) ?_
  refine lv_bipush (v := nI 33) hx hb dX5_keep_1 (by decide) ?_
  refine lv_bipush (v := nI 28) hx hb dX5_keep_3 (by decide) ?_
  refine bd_cip (As := [.int (nI 33), .int (nI 28)]) (rest := []) C (v5_sizes _ _ _ _ _ hv 33 28 (by omega) (by omega)) (cwV 2 hts gX5_keep_X5_sizes rfl rfl rfl (by decide +kernel) ⟨Nat.le_of_ble_eq_true rfl, Nat.le_of_ble_eq_true rfl⟩) hsz hw (mv_recv C hw hv) dX5_keep_5 rfl hl.1 rfl (Nat.le_of_ble_eq_true rfl) ⟨Nat.le_refl _, Nat.le_refl _⟩ (fun H locs hw => ?_)
  rw [f_33, f_28]
  refine lv_if_gt (tgt := 32) hx hb dX5_keep_8 (by decide) (fun hc8 => ?_) (fun hc8 => ?_)
  · have hq8 := q_c3_pos.mp hc8
    rw [Int.natAbs_natCast] at hq8
    refine lv_iconst (v := (-1)) hx hb dX5_keep_32 (by decide) ?_
    exact bd_iret C hr hlk hw dX5_keep_33 (by unfold dk_keep; rw [if_neg (fun q => absurd q.1 (by omega))]; exact ⟨rfl, th, rg0, hv, hiv⟩)
  · have hq8 := Nat.not_lt.mp (fun q => hc8 (q_c3_pos.mpr q))
    rw [Int.natAbs_natCast] at hq8
    refine lv_aload_n hx hb dX5_keep_11 rfl (lv_at hl 0 rfl) ?_
    refine lv_bipush (v := nI 34) hx hb dX5_keep_12 (by decide) ?_
    refine lv_bipush (v := nI 28) hx hb dX5_keep_14 (by decide) ?_
    refine bd_cip (As := [.int (nI 34), .int (nI 28)]) (rest := []) C (v5_sizes _ _ _ _ _ hv 34 28 (by omega) (by omega)) (cwV 2 hts gX5_keep_X5_sizes rfl rfl rfl (by decide +kernel) ⟨Nat.le_of_ble_eq_true rfl, Nat.le_of_ble_eq_true rfl⟩) hsz hw (mv_recv C hw hv) dX5_keep_16 rfl hl.1 rfl (Nat.le_of_ble_eq_true rfl) ⟨Nat.le_refl _, Nat.le_refl _⟩ (fun H locs hw => ?_)
    rw [f_34, f_28]
    refine lv_if_gt (tgt := 32) hx hb dX5_keep_19 (by decide) (fun hc19 => ?_) (fun hc19 => ?_)
    · have hq19 := q_c3_pos.mp hc19
      rw [Int.natAbs_natCast] at hq19
      refine lv_iconst (v := (-1)) hx hb dX5_keep_32 (by decide) ?_
      exact bd_iret C hr hlk hw dX5_keep_33 (by unfold dk_keep; rw [if_neg (fun q => absurd q.2.2 (by omega))]; exact ⟨rfl, th, rg0, hv, hiv⟩)
    · have hq19 := Nat.not_lt.mp (fun q => hc19 (q_c3_pos.mpr q))
      rw [Int.natAbs_natCast] at hq19
      refine lv_aload_n hx hb dX5_keep_22 rfl (lv_at hl 0 rfl) ?_
      refine mv_g C i5 hw hv 4 (by decide) (v := .ref (mo 2)) rfl dX5_keep_23 lk13 ?_
      refine lv_bipush (v := nI 34) hx hb dX5_keep_26 (by decide) ?_
      refine mv_ld2 C hw hv (r := 34) dX5_keep_28 (by omega) ?_
      rw [f_34]
      refine lv_if_ge (tgt := 34) hx hb dX5_keep_29 (by decide) (fun hc29 => ?_) (fun hc29 => ?_)
      · have hq29 := sg_ge hc29
        refine lv_aload_n hx hb dX5_keep_34 rfl (lv_at hl 0 rfl) ?_
        refine lv_iload_n hx hb dX5_keep_35 rfl (lv_at hl 1 rfl) ?_
        refine lv_bipush (v := nI 33) hx hb dX5_keep_36 (by decide) ?_
        refine bd_cv (As := [.int (nI k), .int (nI 33)]) (rest := []) C (v5_copy _ _ _ _ _ hv k 33 (by omega) (by omega)) (cwV 2 hts gX5_keep_X5_copy rfl rfl rfl (by decide +kernel) ⟨Nat.le_of_ble_eq_true rfl, Nat.le_of_ble_eq_true rfl⟩) hsz hw (mv_recv C hw hv) dX5_keep_38 rfl hl.1 rfl (Nat.le_of_ble_eq_true rfl) ⟨Nat.le_refl _, Nat.le_refl _⟩ (fun E z H locs hp hw => ?_)
        obtain ⟨rg, hv, hv0_, hf9⟩ := hp
        have fT0_ : rg k = rg0 33 := hv0_.trans (by rw [f_33])
        have f_33 : rg 33 = rg0 33 := (hf9 33 (by omega)).trans f_33
        have f_34 : rg 34 = rg0 34 := (hf9 34 (by omega)).trans f_34
        have f_28 : rg 28 = dk_p (P + 48) := (hf9 28 (by omega)).trans f_28
        have f_k := fT0_
        have hof : ∀ j, j ≠ k ∧ j ≠ 12 + k → rg j = rg0 j := fun j hj => (hf9 j (by omega)).trans (hof j hj)
        refine lv_aload_n hx hb dX5_keep_41 rfl (lv_at hl 0 rfl) ?_
        refine lv_bipush (v := nI 12) hx hb dX5_keep_42 (by decide) ?_
        refine lv_iload_n hx hb dX5_keep_44 rfl (lv_at hl 1 rfl) ?_
        refine bd_iadd (v := nI (12 + k)) hx hb dX5_keep_45 (nI_add _ _) ?_
        refine lv_bipush (v := nI 34) hx hb dX5_keep_46 (by decide) ?_
        refine bd_cv (As := [.int (nI (12 + k)), .int (nI 34)]) (rest := []) C (v5_copy _ _ _ _ _ hv (12 + k) 34 (by omega) (by omega)) (cwV 2 hts gX5_keep_X5_copy rfl rfl rfl (by decide +kernel) ⟨Nat.le_of_ble_eq_true rfl, Nat.le_of_ble_eq_true rfl⟩) hsz hw (mv_recv C hw hv) dX5_keep_48 rfl hl.1 rfl (Nat.le_of_ble_eq_true rfl) ⟨Nat.le_refl _, Nat.le_refl _⟩ (fun E z H locs hp hw => ?_)
        obtain ⟨rg, hv, hv0_, hf9⟩ := hp
        have fT0_ : rg (12 + k) = rg0 34 := hv0_.trans (by rw [f_34])
        have f_33 : rg 33 = rg0 33 := (hf9 33 (by omega)).trans f_33
        have f_34 : rg 34 = rg0 34 := (hf9 34 (by omega)).trans f_34
        have f_28 : rg 28 = dk_p (P + 48) := (hf9 28 (by omega)).trans f_28
        have f_k : rg k = rg0 33 := (hf9 k (by omega)).trans f_k
        have f_12k := fT0_
        have hof : ∀ j, j ≠ k ∧ j ≠ 12 + k → rg j = rg0 j := fun j hj => (hf9 j (by omega)).trans (hof j hj)
        refine lv_iconst (v := nI 1) hx hb dX5_keep_51 (by decide) ?_
        exact bd_iret C hr hlk hw dX5_keep_52 (by unfold dk_keep; rw [if_pos ⟨hq8, hq29, hq19⟩]; exact ⟨rfl, th, rg, hv, md_ivk hiv hk12 hq8 hq29 hq19 f_k f_12k (fun j h1 h2 => hof j ⟨h1, h2⟩)⟩)
      · have hq29 := sg_nge hc29
        refine lv_iconst (v := (-1)) hx hb dX5_keep_32 (by decide) ?_
        exact bd_iret C hr hlk hw dX5_keep_33 (by unfold dk_keep; rw [if_neg (fun q => absurd q.2.1 (by omega))]; exact ⟨rfl, th, rg0, hv, hiv⟩)
set_option maxHeartbeats 4000000 in
set_option maxRecDepth 100000 in
/-- keepEnds -/
theorem v5_keepEnds (l : Launch) (K : Cxt) (E0 : Nat → va_E) (z0 : Nat → Wh) (sz : Nat) {mo : Nat → Nat} {th : Int32} {P : Nat} {rg0 : Nat → Int} (hv : md_v K E0 mo th P rg0) {mu ra : Nat → Int} (hiv : md_iv P rg0 mu ra) (k lo hi : Nat) (hk12 : k < 12) (hlo : lo < 60 ∧ lo ≠ 32 ∧ lo ≠ 33 ∧ lo ≠ 34) (hhi : hi < 60 ∧ hi ≠ 32 ∧ hi ≠ 33 ∧ hi ≠ 34) (hb1 : (rg0 lo).natAbs ≤ 2 ^ 700) (hb2 : (rg0 hi).natAbs ≤ 2 ^ 700) : Met l yX5_keepEnds wsX5_keepEnds ({ frames := 6, cells := 0, slots := 0, locals := 200 }) (va_Pc [.ref (mo 0), .int (nI k), .int (nI lo), .int (nI hi)] (bd_P K E0 z0 sz)) (va_Qi (md_post K mo P (dk_ends P k (rg0 lo) (rg0 hi) mu ra)) (bd_B K) (bd_A K sz)) 0 0 (bd_A K sz) := by
  refine bd_ofW (cc := cX5_keepEnds) (maxL := 4) (ret := (some .int)) (by decide) rfl (Nat.le_of_ble_eq_true rfl) ?_
  intro p e s m below meth c ls C hr hlk hsz hw hl
  have hx := C.1
  have hb := C.2.1
  have hown := C.2.2.2.1
  have hts := C.2.2.2.2.1
  have hl : lv_has ls 4 [(0, .ref (mo 0)), (1, .int (nI k)), (2, .int (nI lo)), (3, .int (nI hi))] := hl
  obtain ⟨hP1, hP2⟩ := mv_P hv
  have hs9 := add_b hb1 hb2
  have hd9 := Nat.le_trans (fl_abs (a := rg0 lo + rg0 hi) (d := 2 ^ 1) (by decide)) hs9
  have f_lo : rg0 lo = rg0 lo := rfl
  have f_hi : rg0 hi = rg0 hi := rfl
  have hof : ∀ j, j ≠ 32 ∧ j ≠ 33 ∧ j ≠ 34 → rg0 j = rg0 j := fun _ _ => rfl
  refine lv_aload_n hx hb dX5_keepEnds_0 rfl (lv_at hl 0 rfl) ?_
  refine lv_bipush (v := nI 33) hx hb dX5_keepEnds_1 (by decide) ?_
  refine lv_iload_n hx hb dX5_keepEnds_3 rfl (lv_at hl 2 rfl) ?_
  refine lv_iload_n hx hb dX5_keepEnds_4 rfl (lv_at hl 3 rfl) ?_
  refine bd_cv (As := [.int (nI 33), .int (nI lo), .int (nI hi)]) (rest := []) C (v5_plus _ _ _ _ _ hv 33 lo hi (by omega) (by omega) (by omega) (by rw [f_lo, f_hi]; exact (b34 (Nat.le_trans hs9 (by decide +kernel))))) (cwV 3 hts gX5_keepEnds_X5_plus rfl rfl rfl (by decide +kernel) ⟨Nat.le_of_ble_eq_true rfl, Nat.le_of_ble_eq_true rfl⟩) hsz hw (mv_recv C hw hv) dX5_keepEnds_5 rfl hl.1 rfl (Nat.le_of_ble_eq_true rfl) ⟨Nat.le_refl _, Nat.le_refl _⟩ (fun E z H locs hp hw => ?_)
  obtain ⟨rg, hv, hv0_, hf9⟩ := hp
  have fT0_ : rg 33 = (rg0 lo + rg0 hi) := hv0_.trans (by rw [f_lo, f_hi])
  have f_lo : rg lo = rg0 lo := (hf9 lo (by omega)).trans f_lo
  have f_hi : rg hi = rg0 hi := (hf9 hi (by omega)).trans f_hi
  have f_33 := fT0_
  have hof : ∀ j, j ≠ 32 ∧ j ≠ 33 ∧ j ≠ 34 → rg j = rg0 j := fun j hj => (hf9 j (by omega)).trans (hof j hj)
  refine lv_aload_n hx hb dX5_keepEnds_8 rfl (lv_at hl 0 rfl) ?_
  refine lv_bipush (v := nI 33) hx hb dX5_keepEnds_9 (by decide) ?_
  refine lv_bipush (v := nI 33) hx hb dX5_keepEnds_11 (by decide) ?_
  refine lv_iconst (v := nI 1) hx hb dX5_keepEnds_13 (by decide) ?_
  refine bd_cv (As := [.int (nI 33), .int (nI 33), .int (nI 1)]) (rest := []) C (v5_down _ _ _ _ _ hv 33 33 1 (by omega) (by omega) (by omega) (by omega)) (cwV 3 hts gX5_keepEnds_X5_down rfl rfl rfl (by decide +kernel) ⟨Nat.le_of_ble_eq_true rfl, Nat.le_of_ble_eq_true rfl⟩) hsz hw (mv_recv C hw hv) dX5_keepEnds_14 rfl hl.1 rfl (Nat.le_of_ble_eq_true rfl) ⟨Nat.le_refl _, Nat.le_refl _⟩ (fun E z H locs hp hw => ?_)
  obtain ⟨rg, hv, hv0_, hf9⟩ := hp
  have fT0_ : rg 33 = ((rg0 lo + rg0 hi) / ((2 ^ 1 : Nat) : Int)) := hv0_.trans (by rw [f_33])
  have f_lo : rg lo = rg0 lo := (hf9 lo (by omega) (by omega)).trans f_lo
  have f_hi : rg hi = rg0 hi := (hf9 hi (by omega) (by omega)).trans f_hi
  have f_33 := fT0_
  have hof : ∀ j, j ≠ 32 ∧ j ≠ 33 ∧ j ≠ 34 → rg j = rg0 j := fun j hj => (hf9 j (by omega) (by omega)).trans (hof j hj)
  refine lv_aload_n hx hb dX5_keepEnds_17 rfl (lv_at hl 0 rfl) ?_
  refine lv_bipush (v := nI 34) hx hb dX5_keepEnds_18 (by decide) ?_
  refine lv_iload_n hx hb dX5_keepEnds_20 rfl (lv_at hl 3 rfl) ?_
  refine lv_bipush (v := nI 33) hx hb dX5_keepEnds_21 (by decide) ?_
  refine bd_cv (As := [.int (nI 34), .int (nI hi), .int (nI 33)]) (rest := []) C (v5_minus _ _ _ _ _ hv 34 hi 33 (by omega) (by omega) (by omega) (by rw [f_hi, f_33]; exact (b34 (Nat.le_trans (sub_b hb2 hd9) (by decide +kernel))))) (cwV 3 hts gX5_keepEnds_X5_minus rfl rfl rfl (by decide +kernel) ⟨Nat.le_of_ble_eq_true rfl, Nat.le_of_ble_eq_true rfl⟩) hsz hw (mv_recv C hw hv) dX5_keepEnds_23 rfl hl.1 rfl (Nat.le_of_ble_eq_true rfl) ⟨Nat.le_refl _, Nat.le_refl _⟩ (fun E z H locs hp hw => ?_)
  obtain ⟨rg, hv, hv0_, hf9⟩ := hp
  have fT0_ : rg 34 = (rg0 hi - ((rg0 lo + rg0 hi) / ((2 ^ 1 : Nat) : Int))) := hv0_.trans (by rw [f_hi, f_33])
  have f_lo : rg lo = rg0 lo := (hf9 lo (by omega)).trans f_lo
  have f_hi : rg hi = rg0 hi := (hf9 hi (by omega)).trans f_hi
  have f_33 : rg 33 = ((rg0 lo + rg0 hi) / ((2 ^ 1 : Nat) : Int)) := (hf9 33 (by omega)).trans f_33
  have f_34 := fT0_
  have hof : ∀ j, j ≠ 32 ∧ j ≠ 33 ∧ j ≠ 34 → rg j = rg0 j := fun j hj => (hf9 j (by omega)).trans (hof j hj)
  refine lv_aload_n hx hb dX5_keepEnds_26 rfl (lv_at hl 0 rfl) ?_
  refine lv_iload_n hx hb dX5_keepEnds_27 rfl (lv_at hl 1 rfl) ?_
  refine bd_ci (As := [.int (nI k)]) (rest := []) C (v5_keep _ _ _ _ _ hv (md_ivm hiv (fun j hj => hof j (by omega))) k hk12) (cwV 1 hts gX5_keepEnds_X5_keep rfl rfl rfl (by decide +kernel) ⟨Nat.le_of_ble_eq_true rfl, Nat.le_of_ble_eq_true rfl⟩) hsz hw (mv_recv C hw hv) dX5_keepEnds_28 rfl hl.1 rfl (Nat.le_of_ble_eq_true rfl) ⟨Nat.le_refl _, Nat.le_refl _⟩ (fun r9 E9 z H locs hp hw => ?_)
  rw [f_33, f_34] at hp
  exact bd_iret C hr hlk hw dX5_keepEnds_31 hp
set_option maxHeartbeats 4000000 in
set_option maxRecDepth 100000 in
/-- coarse -/
theorem v5_coarse (l : Launch) (K : Cxt) (E0 : Nat → va_E) (z0 : Nat → Wh) (sz : Nat) {mo : Nat → Nat} {th : Int32} {P : Nat} {rg0 : Nat → Int} (hv : md_v K E0 mo th P rg0) (t : Nat) (v : Int32) (ht60 : t < 60) (ht32 : t ≠ 32) (hb1 : (rg0 t).natAbs ≤ 2 ^ 800) : Met l yX5_coarse wsX5_coarse ({ frames := 6, cells := 0, slots := 0, locals := 200 }) (va_Pc [.ref (mo 0), .int (nI t), .int v] (bd_P K E0 z0 sz)) (va_Qv (fun u => ∃ rg : Nat → Int, md_v K u.1 mo th P rg ∧ rg t = rg0 t / dk_p 64 + v.toInt ∧ ∀ j, j ≠ t → j ≠ 32 → rg j = rg0 j) (bd_B K) (bd_A K sz)) 0 0 (bd_A K sz) := by
  refine bd_ofW (cc := cX5_coarse) (maxL := 3) (ret := none) (by decide) rfl (Nat.le_of_ble_eq_true rfl) ?_
  intro p e s m below meth c ls C hr hlk hsz hw hl
  have hx := C.1
  have hb := C.2.1
  have hown := C.2.2.2.1
  have hts := C.2.2.2.2.1
  have hl : lv_has ls 3 [(0, .ref (mo 0)), (1, .int (nI t)), (2, .int v)] := hl
  obtain ⟨hP1, hP2⟩ := mv_P hv
  have hd9 := add_b (Nat.le_trans (fl_abs (a := rg0 t) (d := 2 ^ 64) (by decide)) hb1) (i32_b v)
  have f_t : rg0 t = rg0 t := rfl
  have hof : ∀ j, j ≠ t ∧ j ≠ 32 → rg0 j = rg0 j := fun _ _ => rfl
  refine lv_aload_n hx hb dX5_coarse_0 rfl (lv_at hl 0 rfl) ?_
  refine lv_iload_n hx hb dX5_coarse_1 rfl (lv_at hl 1 rfl) ?_
  refine lv_iload_n hx hb dX5_coarse_2 rfl (lv_at hl 1 rfl) ?_
  refine lv_bipush (v := nI 64) hx hb dX5_coarse_3 (by decide) ?_
  refine bd_cv (As := [.int (nI t), .int (nI t), .int (nI 64)]) (rest := []) C (v5_down _ _ _ _ _ hv t t 64 (by omega) (by omega) (by omega) (by omega)) (cwV 3 hts gX5_coarse_X5_down rfl rfl rfl (by decide +kernel) ⟨Nat.le_of_ble_eq_true rfl, Nat.le_of_ble_eq_true rfl⟩) hsz hw (mv_recv C hw hv) dX5_coarse_5 rfl hl.1 rfl (Nat.le_of_ble_eq_true rfl) ⟨Nat.le_refl _, Nat.le_refl _⟩ (fun E z H locs hp hw => ?_)
  obtain ⟨rg, hv, hv0_, hf9⟩ := hp
  have fT0_ : rg t = (rg0 t / dk_p 64) := hv0_.trans (by rw [f_t])
  have f_t := fT0_
  have hof : ∀ j, j ≠ t ∧ j ≠ 32 → rg j = rg0 j := fun j hj => (hf9 j (by omega) (by omega)).trans (hof j hj)
  refine lv_aload_n hx hb dX5_coarse_8 rfl (lv_at hl 0 rfl) ?_
  refine lv_iload_n hx hb dX5_coarse_9 rfl (lv_at hl 1 rfl) ?_
  refine lv_iload_n hx hb dX5_coarse_10 rfl (lv_at hl 2 rfl) ?_
  refine bd_cv (As := [.int (nI t), .int v]) (rest := []) C (v5_addSmall _ _ _ _ _ hv t v (by omega) (by omega) (by rw [f_t]; exact (b34 (Nat.le_trans hd9 (by decide +kernel))))) (cwV 2 hts gX5_coarse_X5_addSmall rfl rfl rfl (by decide +kernel) ⟨Nat.le_of_ble_eq_true rfl, Nat.le_of_ble_eq_true rfl⟩) hsz hw (mv_recv C hw hv) dX5_coarse_11 rfl hl.1 rfl (Nat.le_of_ble_eq_true rfl) ⟨Nat.le_refl _, Nat.le_refl _⟩ (fun E z H locs hp hw => ?_)
  obtain ⟨rg, hv, hv0_, hf9⟩ := hp
  have fT0_ : rg t = (rg0 t / dk_p 64 + v.toInt) := hv0_.trans (by rw [f_t])
  have f_t := fT0_
  have hof : ∀ j, j ≠ t ∧ j ≠ 32 → rg j = rg0 j := fun j hj => (hf9 j (by omega) (by omega)).trans (hof j hj)
  exact bd_vret C hr hlk hw dX5_coarse_14 (⟨rg, hv, f_t, fun j h1 h2 => hof j ⟨h1, h2⟩⟩)
