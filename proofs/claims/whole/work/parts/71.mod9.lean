/-! the model: squareRoot (laid by wip/gen/m_mod9.py) -/
theorem nI_blt2 {K : Cxt} {E : Nat → va_E} {mo : Nat → Nat} {th : Int32} {P : Nat} {rg : Nat → Int} (hv : md_v K E mo th P rg) {r : Nat} (hr : r < 60) : q_bl (rg r).natAbs ≤ 816 := by
  obtain ⟨F, G, S, R, hm, hi⟩ := hv
  obtain ⟨a, b, d⟩ := hi r hr
  have := q_bl_le2 (h_lt a)
  rw [b] at this
  omega
theorem p4 (k : Nat) : (4 : Nat) ^ k = 2 ^ (2 * k) := by rw [show (4 : Nat) = 2 ^ 2 by decide, ← Nat.pow_mul]
theorem rt_0 (V : Nat) : V / 4 ^ ((q_bl V + 1) / 2) = 0 := by
  apply Nat.div_eq_of_lt
  rcases Nat.eq_zero_or_pos V with q | q
  · rw [q]; exact Nat.pow_pos (by decide)
  · rw [p4]
    exact Nat.lt_of_lt_of_le (bl_sp (x := V) (by omega)).2.1 (Nat.pow_le_pow_right (by decide) (by omega))
theorem rt_bl {V : Nat} (h : V ≤ 2 ^ 800) : q_bl V ≤ 801 := by
  rcases Nat.eq_zero_or_pos V with q | q
  · rw [q]; decide
  · obtain ⟨a, b, d⟩ := bl_sp (x := V) (by omega)
    have h2 := (Nat.pow_le_pow_iff_right (show 1 < 2 by decide)).mp (Nat.le_trans a h)
    omega
theorem rt_two (V j : Nat) : V / 2 ^ (2 * j + 1) % 2 * 2 ^ 1 + V / 2 ^ (2 * j) % 2 = V / 4 ^ j % 4 := by
  rw [p4, Nat.pow_succ, ← Nat.div_div_eq_div_mul]
  omega
theorem rt_p {V j : Nat} : 4 * (V / 4 ^ (j + 1)) + V / 4 ^ j % 4 = V / 4 ^ j := by
  rw [Nat.pow_succ, ← Nat.div_div_eq_div_mul]
  omega
theorem rt_rb {p r M : Nat} (h : sp_root p r) (hp : p ≤ M) : r ≤ M := by
  have h1 := h.1
  rcases Nat.eq_zero_or_pos r with q | q
  · omega
  · have := Nat.mul_le_mul_left r q
    omega
theorem rt_st0 {p r rm two : Nat} (h : sp_root p r) (h2 : p = r * r + rm) (ht : two < 4) (hf : 4 * rm + two < 4 * r + 1) : sp_root (4 * p + two) (2 * r) ∧ 4 * p + two = 2 * r * (2 * r) + (4 * rm + two) := by
  have e1 : 2 * r * (2 * r) = 4 * (r * r) := by rw [Nat.mul_assoc, Nat.mul_left_comm r 2 r, ← Nat.mul_assoc]
  have e2 : (2 * r + 1) * (2 * r + 1) = 2 * r * (2 * r) + 4 * r + 1 := by rw [Nat.add_mul, Nat.mul_add]; omega
  refine ⟨⟨by omega, by rw [e2]; omega⟩, by omega⟩
theorem rt_st1 {p r rm two : Nat} (h : sp_root p r) (h2 : p = r * r + rm) (ht : two < 4) (hf : 4 * r + 1 ≤ 4 * rm + two) : sp_root (4 * p + two) (2 * r + 1) ∧ 4 * p + two = (2 * r + 1) * (2 * r + 1) + (4 * rm + two - (4 * r + 1)) := by
  have e1 : 2 * r * (2 * r) = 4 * (r * r) := by rw [Nat.mul_assoc, Nat.mul_left_comm r 2 r, ← Nat.mul_assoc]
  have e2 : (2 * r + 1) * (2 * r + 1) = 2 * r * (2 * r) + 4 * r + 1 := by rw [Nat.add_mul, Nat.mul_add]; omega
  have e3 : (2 * r + 1 + 1) * (2 * r + 1 + 1) = 4 * ((r + 1) * (r + 1)) := by
    rw [show 2 * r + 1 + 1 = 2 * (r + 1) by omega, Nat.mul_assoc, Nat.mul_left_comm (r + 1) 2 (r + 1), ← Nat.mul_assoc]
  have h3 := h.2
  refine ⟨⟨by rw [e2]; omega, by rw [e3]; omega⟩, by rw [e2]; omega⟩
theorem or_lo {f : Nat → Nat} (hf : ∀ j, j < 34 → f j < 16777216) {k y : Nat} (hd : h_s f 34 % 2 ^ k = 0) (hy : y < 2 ^ k) (hk : k ≤ 24 := by decide) : h_s (va_up f 0 (f 0 ||| y)) 34 = h_s f 34 + y ∧ ∀ j, j < 34 → va_up f 0 (f 0 ||| y) j < 16777216 := by
  have h0 := h_dig hf (k := 0) (by decide)
  rw [Nat.pow_zero, Nat.div_one] at h0
  have hd0 : f 0 % 2 ^ k = 0 := by
    rw [← h0, Nat.mod_mod_of_dvd _ (by rw [show (16777216 : Nat) = 2 ^ 24 by decide]; exact Nat.pow_dvd_pow 2 hk)]
    exact hd
  have e : f 0 ||| y = f 0 + y := by
    have h1 := Nat.div_add_mod (f 0) (2 ^ k)
    rw [hd0, Nat.add_zero, Nat.mul_comm] at h1
    rw [← h1]
    exact i_ora hy
  refine ⟨?_, up_b9 hf ?_⟩
  · rw [e, h_ua (by decide), Nat.pow_zero, Nat.mul_one]
  · rw [show (16777216 : Nat) = 2 ^ 24 by decide]
    exact Nat.or_lt_two_pow (by have := hf 0 (by decide); omega) (Nat.lt_of_lt_of_le hy (Nat.pow_le_pow_right (by decide) hk))
theorem sg_pn {n : Nat} (h : ((n : Nat) : Int) ≠ 0) : q_sg (n : Int) = 1 := by
  rcases sg3 (n : Int) with ⟨a, b⟩ | ⟨a, b⟩ | ⟨a, b⟩
  · exfalso; omega
  · exact absurd a h
  · exact b
set_option maxHeartbeats 4000000 in
set_option maxRecDepth 100000 in
/-- squareRoot -/
theorem v5_squareRoot (l : Launch) (K : Cxt) (E0 : Nat → va_E) (z0 : Nat → Wh) (sz : Nat) {mo : Nat → Nat} {th : Int32} {P : Nat} {rg0 : Nat → Int} (hv : md_v K E0 mo th P rg0) (t ra : Nat) (ht60 : t < 60 ∧ t ≠ 29 ∧ t ≠ 30) (ha60 : ra < 60 ∧ ra ≠ 29 ∧ ra ≠ 30) (hta : t ≠ ra) (h0 : 0 ≤ rg0 ra) (hb1 : (rg0 ra).natAbs ≤ 2 ^ 800) : Met l yX5_squareRoot wsX5_squareRoot ({ frames := 4, cells := 0, slots := 0, locals := 140 }) (va_Pc [.ref (mo 0), .int (nI t), .int (nI ra)] (bd_P K E0 z0 sz)) (va_Qv (fun u => ∃ rg : Nat → Int, md_v K u.1 mo th P rg ∧ rg t = sp_ROOT (rg0 ra) ∧ ∀ j, j ≠ t ∧ j ≠ 29 ∧ j ≠ 30 → rg j = rg0 j) (bd_B K) (bd_A K sz)) 0 0 (bd_A K sz) := by
  refine bd_ofW (cc := cX5_squareRoot) (maxL := 7) (ret := none) (by decide) rfl (Nat.le_of_ble_eq_true rfl) ?_
  intro p e s m below meth c ls C hr hlk hsz hw hl
  have hx := C.1
  have hb := C.2.1
  have hown := C.2.2.2.1
  have hts := C.2.2.2.2.1
  have i5 : ∀ w ∈ wsX50, w ∈ wsX5_squareRoot := by decide +kernel
  have lk7 : Cond.fieldLink RX5 7 "BallDeskModel" "limbs" "[I" ∈ wsX5_squareRoot := by decide +kernel
  have lk13 : Cond.fieldLink RX5 13 "BallDeskModel" "signs" "[I" ∈ wsX5_squareRoot := by decide +kernel
  have hl : lv_has ls 7 [(0, .ref (mo 0)), (1, .int (nI t)), (2, .int (nI ra))] := hl
  obtain ⟨hP1, hP2⟩ := mv_P hv
  have f_ra : rg0 ra = rg0 ra := rfl
  have hof : ∀ j, j ≠ t ∧ j ≠ 29 ∧ j ≠ 30 → rg0 j = rg0 j := fun _ _ => rfl
  refine lv_aload_n hx hb dX5_squareRoot_0 rfl (lv_at hl 0 rfl) ?_
  refine lv_iload_n hx hb dX5_squareRoot_1 rfl (lv_at hl 2 rfl) ?_
  refine bd_cip (As := [.int (nI ra)]) (rest := []) C (v5_bits _ _ _ _ _ hv ra (by omega)) (cwV 1 hts gX5_squareRoot_X5_bits rfl rfl rfl (by decide +kernel) ⟨Nat.le_of_ble_eq_true rfl, Nat.le_of_ble_eq_true rfl⟩) hsz hw (mv_recv C hw hv) dX5_squareRoot_2 rfl hl.1 rfl (Nat.le_of_ble_eq_true rfl) ⟨Nat.le_refl _, Nat.le_refl _⟩ (fun H locs hw => ?_)
  rw [f_ra]
  refine lv_iconst (v := nI 1) hx hb dX5_squareRoot_5 (by decide) ?_
  refine bd_iadd (v := nI ((q_bl (rg0 ra).natAbs) + 1)) hx hb dX5_squareRoot_6 (nI_add _ _) ?_
  refine lv_iconst (v := nI 2) hx hb dX5_squareRoot_7 (by decide) ?_
  refine bd_idiv (v := (nI ((q_bl (rg0 ra).natAbs + 1) / 2))) hx hb dX5_squareRoot_8 (by decide) (pk_div (by have := nI_blt2 hv ha60.1; omega) (by decide) (by decide)) ?_
  refine lv_istore_n (lv' := [(3, .int (nI ((q_bl (rg0 ra).natAbs + 1) / 2))), (0, .ref (mo 0)), (1, .int (nI t)), (2, .int (nI ra))]) hx hb dX5_squareRoot_9 rfl hl (by decide) rfl (fun ls hl => ?_)
  refine lv_aload_n hx hb dX5_squareRoot_10 rfl (lv_at hl 1 rfl) ?_
  refine lv_bipush (v := nI 29) hx hb dX5_squareRoot_11 (by decide) ?_
  refine bd_cv (As := [.int (nI 29)]) (rest := []) C (v5_none _ _ _ _ _ hv 29 (by omega)) (cwV 1 hts gX5_squareRoot_X5_none rfl rfl rfl (by decide +kernel) ⟨Nat.le_of_ble_eq_true rfl, Nat.le_of_ble_eq_true rfl⟩) hsz hw (mv_recv C hw hv) dX5_squareRoot_13 rfl hl.1 rfl (Nat.le_of_ble_eq_true rfl) ⟨Nat.le_refl _, Nat.le_refl _⟩ (fun E z H locs hp hw => ?_)
  obtain ⟨rg, hv, hv0_, hf9⟩ := hp
  have fT0_ : rg 29 = 0 := hv0_.trans (by rfl)
  have f_ra : rg ra = rg0 ra := (hf9 ra (by omega)).trans f_ra
  have f_29 := fT0_
  have hof : ∀ j, j ≠ t ∧ j ≠ 29 ∧ j ≠ 30 → rg j = rg0 j := fun j hj => (hf9 j (by omega)).trans (hof j hj)
  refine lv_aload_n hx hb dX5_squareRoot_16 rfl (lv_at hl 1 rfl) ?_
  refine lv_iload_n hx hb dX5_squareRoot_17 rfl (lv_at hl 2 rfl) ?_
  refine bd_cv (As := [.int (nI t)]) (rest := []) C (v5_none _ _ _ _ _ hv t (by omega)) (cwV 1 hts gX5_squareRoot_X5_none rfl rfl rfl (by decide +kernel) ⟨Nat.le_of_ble_eq_true rfl, Nat.le_of_ble_eq_true rfl⟩) hsz hw (mv_recv C hw hv) dX5_squareRoot_18 rfl hl.1 rfl (Nat.le_of_ble_eq_true rfl) ⟨Nat.le_refl _, Nat.le_refl _⟩ (fun E z H locs hp hw => ?_)
  obtain ⟨rg, hv, hv0_, hf9⟩ := hp
  have fT0_ : rg t = 0 := hv0_.trans (by rfl)
  have f_ra : rg ra = rg0 ra := (hf9 ra (by omega)).trans f_ra
  have f_29 : rg 29 = 0 := (hf9 29 (by omega)).trans f_29
  have f_t := fT0_
  have hof : ∀ j, j ≠ t ∧ j ≠ 29 ∧ j ≠ 30 → rg j = rg0 j := fun j hj => (hf9 j (by omega)).trans (hof j hj)
  refine lv_iload_n hx hb dX5_squareRoot_21 rfl (lv_at hl 0 rfl) ?_
  refine lv_iconst (v := nI 1) hx hb dX5_squareRoot_22 (by decide) ?_
  refine bd_isub (v := (nI ((q_bl (rg0 ra).natAbs + 1) / 2) - nI 1)) hx hb dX5_squareRoot_23 (rfl) ?_
  refine lv_istore (lv' := [(4, .int (nI ((q_bl (rg0 ra).natAbs + 1) / 2) - nI 1)), (3, .int (nI ((q_bl (rg0 ra).natAbs + 1) / 2))), (0, .ref (mo 0)), (1, .int (nI t)), (2, .int (nI ra))]) hx hb dX5_squareRoot_24 hl (by decide) rfl (fun ls hl => ?_)
  have hn4 : (rg0 ra).natAbs / 4 ^ ((q_bl (rg0 ra).natAbs + 1) / 2) = 0 := rt_0 _
  have hbl8 : q_bl (rg0 ra).natAbs ≤ 801 := rt_bl hb1
  suffices hloop : ∀ (k r rm : Nat) (E : Nat → va_E) (z : Nat → Wh) (rg : Nat → Int) (ls : Array Slot) (H : Heap) (locs : List Loc), k ≤ 401 → md_v K E mo th P rg → rg 29 = (rm : Int) → rg t = (r : Int) → rg ra = rg0 ra → (sp_root ((rg0 ra).natAbs / 4 ^ k) r ∧ (rg0 ra).natAbs / 4 ^ k = r * r + rm) → (∀ j, j ≠ t ∧ j ≠ 29 ∧ j ≠ 30 → rg j = rg0 j) → lv_has ls 7 [(4, .int (nI k - nI 1)), (0, .ref (mo 0)), (1, .int (nI t)), (2, .int (nI ra))] → bd_W K E z (bd_A K sz) s.heap H locs → W p l e (headSpec wsX5_squareRoot ({ frames := 4, cells := 0, slots := 0, locals := 140 })).room s m [.ref (mo 0), .int (nI t), .int (nI ra)].toArray below meth c H locs 0 0 (MQ below (va_Qv (fun u => ∃ rg : Nat → Int, md_v K u.1 mo th P rg ∧ rg t = sp_ROOT (rg0 ra) ∧ ∀ j, j ≠ t ∧ j ≠ 29 ∧ j ≠ 30 → rg j = rg0 j) (bd_B K) (bd_A K sz)) [.ref (mo 0), .int (nI t), .int (nI ra)].toArray s 0 0 (bd_A K sz)) (F0 m 26 ls []) from hloop ((q_bl (rg0 ra).natAbs + 1) / 2) 0 0 E z rg ls _ _ (by omega) hv f_29 f_t f_ra (by rw [hn4]; exact ⟨⟨by decide, by decide⟩, by decide⟩) hof (lv_sub hl [0, 2, 3, 4] rfl) hw
  clear hw hl ls hv f_29 f_t f_ra hof hn4
  intro k
  induction k using Nat.strongRecOn with
  | ind k ih =>
    intro r rm E z rg ls H locs hk hv f_29 f_t f_ra hst hof hl hw
    obtain ⟨hs1, hs2⟩ := hst
    rcases k with _ | j
    · rw [Nat.pow_zero, Nat.div_one] at hs1
      refine lv_iload hx hb dX5_squareRoot_26 (lv_at hl 0 rfl) ?_
      refine lv_if_lt (tgt := 215) hx hb dX5_squareRoot_28 (by decide) (fun hc28 => ?_) (fun hc28 => ?_)
      · exact bd_vret C hr hlk hw dX5_squareRoot_215 ⟨rg, hv, f_t.trans (sp_ROOTe (v := rg0 ra) (by rw [show (rg0 ra).toNat = (rg0 ra).natAbs by omega]; exact hs1)), hof⟩
      · exact absurd (by decide) hc28
    · rw [nI_p1] at hl
      have hvc := hv
      obtain ⟨F9, G9, S9, R9_, hm, hrg⟩ := hvc
      obtain ⟨hF9, hV9, -⟩ := hrg ra ha60.1
      rw [f_ra] at hV9
      have hb1_ := dv_bit (f := F9 ra) (j := 2 * j + 1) hF9 (by omega)
      have hb0_ := dv_bit (f := F9 ra) (j := 2 * j) hF9 (by omega)
      obtain ⟨two, htw⟩ : ∃ two, two = (rg0 ra).natAbs / 4 ^ j % 4 := ⟨_, rfl⟩
      have htwo : F9 ra ((2 * j + 1) / 24) / 2 ^ ((2 * j + 1) % 24) % 2 * 2 ^ 1 + F9 ra (2 * j / 24) / 2 ^ (2 * j % 24) % 2 = two := by rw [hb1_, hb0_, hV9, htw]; exact rt_two _ _
      have htw4 : two < 4 := by omega
      have hstep := rt_p (V := (rg0 ra).natAbs) (j := j)
      rw [← htw] at hstep
      have hpb : (rg0 ra).natAbs / 4 ^ (j + 1) ≤ 2 ^ 800 := Nat.le_trans (Nat.div_le_self _ _) hb1
      have hrb : r ≤ 2 ^ 800 := rt_rb hs1 hpb
      have hmb : rm ≤ 2 ^ 800 := by omega
      refine lv_iload hx hb dX5_squareRoot_26 (lv_at hl 0 rfl) ?_
      refine bd_zlt (h1 := (by omega)) (tgt := 215) hx hb dX5_squareRoot_28 (by decide) ?_
      refine lv_aload_n hx hb dX5_squareRoot_31 rfl (lv_at hl 1 rfl) ?_
      refine lv_iload_n hx hb dX5_squareRoot_32 rfl (lv_at hl 3 rfl) ?_
      refine lv_iconst (v := nI 2) hx hb dX5_squareRoot_33 (by decide) ?_
      refine lv_iload hx hb dX5_squareRoot_34 (lv_at hl 0 rfl) ?_
      refine bd_imul (v := (nI (2 * j))) hx hb dX5_squareRoot_36 (nI_mul _ _) ?_
      refine lv_iconst (v := nI 1) hx hb dX5_squareRoot_37 (by decide) ?_
      refine bd_iadd (v := nI ((2 * j) + 1)) hx hb dX5_squareRoot_38 (nI_add _ _) ?_
      refine lv_bipush (v := nI 24) hx hb dX5_squareRoot_39 (by decide) ?_
      refine bd_idiv (v := (nI ((2 * j + 1) / 24))) hx hb dX5_squareRoot_41 (by decide) (pk_div (by omega) (by decide) (by decide)) ?_
      refine bd_cip (As := [.int (nI ra), .int (nI ((2 * j + 1) / 24))]) (rest := []) C (m5_at _ _ _ _ _ hm ra ((2 * j + 1) / 24) (by omega) (by omega)) (cwV 2 hts gX5_squareRoot_X5_at rfl rfl rfl (by decide +kernel) ⟨Nat.le_of_ble_eq_true rfl, Nat.le_of_ble_eq_true rfl⟩) hsz hw (md_recv C hw hm) dX5_squareRoot_42 rfl hl.1 rfl (Nat.le_of_ble_eq_true rfl) ⟨Nat.le_refl _, Nat.le_refl _⟩ (fun H locs hw => ?_)
      refine lv_iconst (v := nI 2) hx hb dX5_squareRoot_45 (by decide) ?_
      refine lv_iload hx hb dX5_squareRoot_46 (lv_at hl 0 rfl) ?_
      refine bd_imul (v := (nI (2 * j))) hx hb dX5_squareRoot_48 (nI_mul _ _) ?_
      refine lv_iconst (v := nI 1) hx hb dX5_squareRoot_49 (by decide) ?_
      refine bd_iadd (v := nI ((2 * j) + 1)) hx hb dX5_squareRoot_50 (nI_add _ _) ?_
      refine lv_bipush (v := nI 24) hx hb dX5_squareRoot_51 (by decide) ?_
      refine bd_irem (v := (nI ((2 * j + 1) % 24))) hx hb dX5_squareRoot_53 (by decide) (pk_rem (by omega) (by decide) (by decide)) ?_
      refine bd_ishr (v := (nI (F9 ra ((2 * j + 1) / 24) / 2 ^ ((2 * j + 1) % 24)))) hx hb dX5_squareRoot_54 (i_shn (Nat.lt_of_lt_of_le (hF9 _ (by omega)) (by decide)) (by omega)) ?_
      refine lv_iconst (v := nI 1) hx hb dX5_squareRoot_55 (by decide) ?_
      refine bd_iand (v := (nI (F9 ra ((2 * j + 1) / 24) / 2 ^ ((2 * j + 1) % 24) % 2))) hx hb dX5_squareRoot_56 (i_b1 (Nat.lt_of_le_of_lt (Nat.div_le_self _ _) (Nat.lt_of_lt_of_le (hF9 _ (by omega)) (by decide)))) ?_
      refine lv_iconst (v := nI 1) hx hb dX5_squareRoot_57 (by decide) ?_
      refine bd_ishl (v := (nI (F9 ra ((2 * j + 1) / 24) / 2 ^ ((2 * j + 1) % 24) % 2 * 2 ^ 1))) hx hb dX5_squareRoot_58 (i_shl _ (by decide)) ?_
      refine lv_aload_n hx hb dX5_squareRoot_59 rfl (lv_at hl 1 rfl) ?_
      refine lv_iload_n hx hb dX5_squareRoot_60 rfl (lv_at hl 3 rfl) ?_
      refine lv_iconst (v := nI 2) hx hb dX5_squareRoot_61 (by decide) ?_
      refine lv_iload hx hb dX5_squareRoot_62 (lv_at hl 0 rfl) ?_
      refine bd_imul (v := (nI (2 * j))) hx hb dX5_squareRoot_64 (nI_mul _ _) ?_
      refine lv_bipush (v := nI 24) hx hb dX5_squareRoot_65 (by decide) ?_
      refine bd_idiv (v := (nI (2 * j / 24))) hx hb dX5_squareRoot_67 (by decide) (pk_div (by omega) (by decide) (by decide)) ?_
      refine bd_cip (As := [.int (nI ra), .int (nI (2 * j / 24))]) (rest := [.int (nI (F9 ra ((2 * j + 1) / 24) / 2 ^ ((2 * j + 1) % 24) % 2 * 2 ^ 1))]) C (m5_at _ _ _ _ _ hm ra (2 * j / 24) (by omega) (by omega)) (cwV 2 hts gX5_squareRoot_X5_at rfl rfl rfl (by decide +kernel) ⟨Nat.le_of_ble_eq_true rfl, Nat.le_of_ble_eq_true rfl⟩) hsz hw (md_recv C hw hm) dX5_squareRoot_68 rfl hl.1 rfl (Nat.le_of_ble_eq_true rfl) ⟨Nat.le_refl _, Nat.le_refl _⟩ (fun H locs hw => ?_)
      refine lv_iconst (v := nI 2) hx hb dX5_squareRoot_71 (by decide) ?_
      refine lv_iload hx hb dX5_squareRoot_72 (lv_at hl 0 rfl) ?_
      refine bd_imul (v := (nI (2 * j))) hx hb dX5_squareRoot_74 (nI_mul _ _) ?_
      refine lv_bipush (v := nI 24) hx hb dX5_squareRoot_75 (by decide) ?_
      refine bd_irem (v := (nI (2 * j % 24))) hx hb dX5_squareRoot_77 (by decide) (pk_rem (by omega) (by decide) (by decide)) ?_
      refine bd_ishr (v := (nI (F9 ra (2 * j / 24) / 2 ^ (2 * j % 24)))) hx hb dX5_squareRoot_78 (i_shn (Nat.lt_of_lt_of_le (hF9 _ (by omega)) (by decide)) (by omega)) ?_
      refine lv_iconst (v := nI 1) hx hb dX5_squareRoot_79 (by decide) ?_
      refine bd_iand (v := (nI (F9 ra (2 * j / 24) / 2 ^ (2 * j % 24) % 2))) hx hb dX5_squareRoot_80 (i_b1 (Nat.lt_of_le_of_lt (Nat.div_le_self _ _) (Nat.lt_of_lt_of_le (hF9 _ (by omega)) (by decide)))) ?_
      refine bd_ior (v := (nI two)) hx hb dX5_squareRoot_81 (by rw [i_or (by omega) (by omega), i_ora (by omega)]; exact congrArg nI htwo) ?_
      refine lv_istore (lv' := [(5, .int (nI two)), (4, .int (nI j)), (0, .ref (mo 0)), (1, .int (nI t)), (2, .int (nI ra))]) hx hb dX5_squareRoot_82 hl (by decide) rfl (fun ls hl => ?_)
      refine lv_aload_n hx hb dX5_squareRoot_84 rfl (lv_at hl 2 rfl) ?_
      refine lv_bipush (v := nI 29) hx hb dX5_squareRoot_85 (by decide) ?_
      refine lv_bipush (v := nI 29) hx hb dX5_squareRoot_87 (by decide) ?_
      refine lv_iconst (v := nI 2) hx hb dX5_squareRoot_89 (by decide) ?_
      refine bd_cv (As := [.int (nI 29), .int (nI 29), .int (nI 2)]) (rest := []) C (v5_up _ _ _ _ _ hv 29 29 2 (by omega) (by omega) (by omega) (by rw [f_29]; exact (b34 (Nat.le_trans (show (rm : Int).natAbs * 2 ^ 2 ≤ 2 ^ 802 by omega) (by decide +kernel))))) (cwV 3 hts gX5_squareRoot_X5_up rfl rfl rfl (by decide +kernel) ⟨Nat.le_of_ble_eq_true rfl, Nat.le_of_ble_eq_true rfl⟩) hsz hw (mv_recv C hw hv) dX5_squareRoot_90 rfl hl.1 rfl (Nat.le_of_ble_eq_true rfl) ⟨Nat.le_refl _, Nat.le_refl _⟩ (fun E z H locs hp hw => ?_)
      obtain ⟨rg, hv, hv0_, hf9⟩ := hp
      have fT0_ : rg 29 = ((4 * rm : Nat) : Int) := hv0_.trans (by rw [f_29]; omega)
      have f_t : rg t = (r : Int) := (hf9 t (by omega)).trans f_t
      have f_ra : rg ra = rg0 ra := (hf9 ra (by omega)).trans f_ra
      have f_29 := fT0_
      have hof : ∀ j, j ≠ t ∧ j ≠ 29 ∧ j ≠ 30 → rg j = rg0 j := fun j hj => (hf9 j (by omega)).trans (hof j hj)
      refine lv_aload_n hx hb dX5_squareRoot_93 rfl (lv_at hl 2 rfl) ?_
      have hvc := hv
      obtain ⟨F9, G9, S9, R9_, hm, hrg⟩ := hvc
      obtain ⟨hF9, hV9, hG9⟩ := hrg 29 (by omega)
      rw [f_29] at hV9
      have hg0 := hF9 0 (by decide)
      refine md_g C i5 hw hm 3 (by decide) (v := .ref (mo 1)) rfl dX5_squareRoot_94 lk7 ?_
      refine lv_sipush (v := nI 986) hx hb dX5_squareRoot_97 (by decide) ?_
      refine lv_dup2_11 hx hb dX5_squareRoot_100 rfl rfl ?_
      refine md_ld1 C hw hm (r := 29) (k := 0) dX5_squareRoot_101 (by omega) (by decide) ?_
      refine lv_iload hx hb dX5_squareRoot_102 (lv_at hl 0 rfl) ?_
      refine bd_ior (v := (nI (F9 29 0 ||| two))) hx hb dX5_squareRoot_104 (i_or (Nat.lt_of_lt_of_le hg0 (by decide)) (by omega)) ?_
      refine md_st1 C hw hm (r := 29) (k := 0) (x := (F9 29 0 ||| two)) dX5_squareRoot_105 (by omega) (by decide) (fun E H locs hm hw => ?_)
      refine lv_aload_n hx hb dX5_squareRoot_106 rfl (lv_at hl 2 rfl) ?_
      refine lv_bipush (v := nI 29) hx hb dX5_squareRoot_107 (by decide) ?_
      refine lv_iconst (v := nI 1) hx hb dX5_squareRoot_109 (by decide) ?_
      obtain ⟨hsv, hbv⟩ := or_lo (f := F9 29) hF9 (k := 2) (y := two) (by rw [hV9]; omega) (by omega)
      rw [hV9] at hsv
      refine bd_cv (As := [.int (nI 29), .int (nI 1)]) (rest := []) C (m5_settle _ _ _ _ _ hm 29 (nI 1) (by omega) (by rw [va_up_self]; exact hbv)) (cwV 2 hts gX5_squareRoot_X5_settle rfl rfl rfl (by decide +kernel) ⟨Nat.le_of_ble_eq_true rfl, Nat.le_of_ble_eq_true rfl⟩) hsz hw (md_recv C hw hm) dX5_squareRoot_110 rfl hl.1 rfl (Nat.le_of_ble_eq_true rfl) ⟨Nat.le_refl _, Nat.le_refl _⟩ (fun E z H locs hp hw => ?_)
      have hm := hp
      rw [va_up_self] at hm
      obtain ⟨rg1, hv, hv0_, hf9⟩ := mv_end (z := z) (v := ((4 * rm + two : Nat) : Int)) hm hrg hbv (by rw [hsv, Int.natAbs_natCast]; omega) (sg_if (by rw [hsv, Int.natAbs_natCast]; omega) (fun q => (sg_pn q).symm))
      clear hm
      have f_t : rg1 t = (r : Int) := (hf9 t (by omega)).trans f_t
      have f_ra : rg1 ra = rg0 ra := (hf9 ra (by omega)).trans f_ra
      have f_29 := hv0_
      have hof : ∀ j, j ≠ t ∧ j ≠ 29 ∧ j ≠ 30 → rg1 j = rg0 j := fun j hj => (hf9 j (by omega)).trans (hof j hj)
      obtain ⟨rg, hrge⟩ : ∃ rg, rg = rg1 := ⟨_, rfl⟩
      rw [← hrge] at hv hof f_t f_ra f_29
      refine lv_aload_n hx hb dX5_squareRoot_113 rfl (lv_at hl 2 rfl) ?_
      refine lv_bipush (v := nI 30) hx hb dX5_squareRoot_114 (by decide) ?_
      refine lv_iload_n hx hb dX5_squareRoot_116 rfl (lv_at hl 3 rfl) ?_
      refine lv_iconst (v := nI 2) hx hb dX5_squareRoot_117 (by decide) ?_
      refine bd_cv (As := [.int (nI 30), .int (nI t), .int (nI 2)]) (rest := []) C (v5_up _ _ _ _ _ hv 30 t 2 (by omega) (by omega) (by omega) (by rw [f_t]; exact (b34 (Nat.le_trans (show (r : Int).natAbs * 2 ^ 2 ≤ 2 ^ 802 by omega) (by decide +kernel))))) (cwV 3 hts gX5_squareRoot_X5_up rfl rfl rfl (by decide +kernel) ⟨Nat.le_of_ble_eq_true rfl, Nat.le_of_ble_eq_true rfl⟩) hsz hw (mv_recv C hw hv) dX5_squareRoot_118 rfl hl.1 rfl (Nat.le_of_ble_eq_true rfl) ⟨Nat.le_refl _, Nat.le_refl _⟩ (fun E z H locs hp hw => ?_)
      obtain ⟨rg, hv, hv0_, hf9⟩ := hp
      have fT0_ : rg 30 = ((4 * r : Nat) : Int) := hv0_.trans (by rw [f_t]; omega)
      have f_t : rg t = (r : Int) := (hf9 t (by omega)).trans f_t
      have f_ra : rg ra = rg0 ra := (hf9 ra (by omega)).trans f_ra
      have f_29 : rg 29 = ((4 * rm + two : Nat) : Int) := (hf9 29 (by omega)).trans f_29
      have f_30 := fT0_
      have hof : ∀ j, j ≠ t ∧ j ≠ 29 ∧ j ≠ 30 → rg j = rg0 j := fun j hj => (hf9 j (by omega)).trans (hof j hj)
      refine lv_aload_n hx hb dX5_squareRoot_121 rfl (lv_at hl 2 rfl) ?_
      have hvc := hv
      obtain ⟨F9, G9, S9, R9_, hm, hrg⟩ := hvc
      obtain ⟨hF9, hV9, hG9⟩ := hrg 30 (by omega)
      rw [f_30] at hV9
      have hg0 := hF9 0 (by decide)
      refine md_g C i5 hw hm 3 (by decide) (v := .ref (mo 1)) rfl dX5_squareRoot_122 lk7 ?_
      refine lv_sipush (v := nI 1020) hx hb dX5_squareRoot_125 (by decide) ?_
      refine lv_dup2_11 hx hb dX5_squareRoot_128 rfl rfl ?_
      refine md_ld1 C hw hm (r := 30) (k := 0) dX5_squareRoot_129 (by omega) (by decide) ?_
      refine lv_iconst (v := nI 1) hx hb dX5_squareRoot_130 (by decide) ?_
      refine bd_ior (v := (nI (F9 30 0 ||| 1))) hx hb dX5_squareRoot_131 (i_or (Nat.lt_of_lt_of_le hg0 (by decide)) (by decide)) ?_
      refine md_st1 C hw hm (r := 30) (k := 0) (x := (F9 30 0 ||| 1)) dX5_squareRoot_132 (by omega) (by decide) (fun E H locs hm hw => ?_)
      refine lv_aload_n hx hb dX5_squareRoot_133 rfl (lv_at hl 2 rfl) ?_
      refine md_g C i5 hw hm 4 (by decide) (v := .ref (mo 2)) rfl dX5_squareRoot_134 lk13 ?_
      refine lv_bipush (v := nI 30) hx hb dX5_squareRoot_137 (by decide) ?_
      refine lv_iconst (v := nI 1) hx hb dX5_squareRoot_139 (by decide) ?_
      obtain ⟨hsv, hbv⟩ := or_lo (f := F9 30) hF9 (k := 2) (y := 1) (by rw [hV9]; omega) (by decide)
      rw [hV9] at hsv
      refine md_st2 C hw hm (r := 30) (x := 1) dX5_squareRoot_140 (by decide) (fun E H locs hm hw => ?_)
      obtain ⟨rg1, hv, hv0_, hf9⟩ := mv_end (z := z) (v := ((4 * r + 1 : Nat) : Int)) hm hrg hbv (by rw [hsv, Int.natAbs_natCast]; omega) (sg_pn (by omega)).symm
      clear hm
      have f_t : rg1 t = (r : Int) := (hf9 t (by omega)).trans f_t
      have f_ra : rg1 ra = rg0 ra := (hf9 ra (by omega)).trans f_ra
      have f_29 : rg1 29 = ((4 * rm + two : Nat) : Int) := (hf9 29 (by omega)).trans f_29
      have f_30 := hv0_
      have hof : ∀ j, j ≠ t ∧ j ≠ 29 ∧ j ≠ 30 → rg1 j = rg0 j := fun j hj => (hf9 j (by omega)).trans (hof j hj)
      obtain ⟨rg, hrge⟩ : ∃ rg, rg = rg1 := ⟨_, rfl⟩
      rw [← hrge] at hv hof f_t f_ra f_29 f_30
      refine lv_aload_n hx hb dX5_squareRoot_141 rfl (lv_at hl 2 rfl) ?_
      refine lv_bipush (v := nI 29) hx hb dX5_squareRoot_142 (by decide) ?_
      refine lv_bipush (v := nI 30) hx hb dX5_squareRoot_144 (by decide) ?_
      refine bd_cip (As := [.int (nI 29), .int (nI 30)]) (rest := []) C (v5_compare _ _ _ _ _ hv 29 30 (by omega) (by omega)) (cwV 2 hts gX5_squareRoot_X5_compare rfl rfl rfl (by decide +kernel) ⟨Nat.le_of_ble_eq_true rfl, Nat.le_of_ble_eq_true rfl⟩) hsz hw (mv_recv C hw hv) dX5_squareRoot_146 rfl hl.1 rfl (Nat.le_of_ble_eq_true rfl) ⟨Nat.le_refl _, Nat.le_refl _⟩ (fun H locs hw => ?_)
      rw [f_29, f_30]
      refine lv_if_lt (tgt := 156) hx hb dX5_squareRoot_149 (by decide) (fun hc149 => ?_) (fun hc149 => ?_)
      · have hfit := q3_lt.mp hc149
        have hst := rt_st0 hs1 hs2 htw4 (by omega)
        refine lv_iconst (v := nI 0) hx hb dX5_squareRoot_156 (by decide) ?_
        refine lv_istore (lv' := [(6, .int (nI 0)), (5, .int (nI two)), (4, .int (nI j)), (0, .ref (mo 0)), (1, .int (nI t)), (2, .int (nI ra))]) hx hb dX5_squareRoot_157 hl (by decide) rfl (fun ls hl => ?_)
        refine lv_iload hx hb dX5_squareRoot_159 (lv_at hl 0 rfl) ?_
        refine bd_zeq (h1 := by decide) (tgt := 174) hx hb dX5_squareRoot_161 (by decide) (fun hc161 => ?_) (fun hc161 => ?_)
        · refine lv_aload_n hx hb dX5_squareRoot_174 rfl (lv_at hl 3 rfl) ?_
          refine lv_iload_n hx hb dX5_squareRoot_175 rfl (lv_at hl 4 rfl) ?_
          refine lv_iload_n hx hb dX5_squareRoot_176 rfl (lv_at hl 4 rfl) ?_
          refine lv_iconst (v := nI 1) hx hb dX5_squareRoot_177 (by decide) ?_
          refine bd_cv (As := [.int (nI t), .int (nI t), .int (nI 1)]) (rest := []) C (v5_up _ _ _ _ _ hv t t 1 (by omega) (by omega) (by omega) (by rw [f_t]; exact (b34 (Nat.le_trans (show (r : Int).natAbs * 2 ^ 1 ≤ 2 ^ 802 by omega) (by decide +kernel))))) (cwV 3 hts gX5_squareRoot_X5_up rfl rfl rfl (by decide +kernel) ⟨Nat.le_of_ble_eq_true rfl, Nat.le_of_ble_eq_true rfl⟩) hsz hw (mv_recv C hw hv) dX5_squareRoot_178 rfl hl.1 rfl (Nat.le_of_ble_eq_true rfl) ⟨Nat.le_refl _, Nat.le_refl _⟩ (fun E z H locs hp hw => ?_)
          obtain ⟨rg, hv, hv0_, hf9⟩ := hp
          have fT0_ : rg t = ((2 * r : Nat) : Int) := hv0_.trans (by rw [f_t]; omega)
          have f_ra : rg ra = rg0 ra := (hf9 ra (by omega)).trans f_ra
          have f_29 : rg 29 = ((4 * rm + two : Nat) : Int) := (hf9 29 (by omega)).trans f_29
          have f_30 : rg 30 = ((4 * r + 1 : Nat) : Int) := (hf9 30 (by omega)).trans f_30
          have f_t := fT0_
          have hof : ∀ j, j ≠ t ∧ j ≠ 29 ∧ j ≠ 30 → rg j = rg0 j := fun j hj => (hf9 j (by omega)).trans (hof j hj)
          refine lv_aload_n hx hb dX5_squareRoot_181 rfl (lv_at hl 3 rfl) ?_
          have hvc := hv
          obtain ⟨F9, G9, S9, R9_, hm, hrg⟩ := hvc
          obtain ⟨hF9, hV9, hG9⟩ := hrg t (by omega)
          rw [f_t] at hV9
          have hg0 := hF9 0 (by decide)
          refine md_g C i5 hw hm 3 (by decide) (v := .ref (mo 1)) rfl dX5_squareRoot_182 lk7 ?_
          refine lv_bipush (v := nI 34) hx hb dX5_squareRoot_185 (by decide) ?_
          refine lv_iload_n hx hb dX5_squareRoot_187 rfl (lv_at hl 4 rfl) ?_
          refine bd_imul (v := nI (34 * t)) hx hb dX5_squareRoot_188 (nI_mul _ _) ?_
          refine lv_dup2_11 hx hb dX5_squareRoot_189 rfl rfl ?_
          refine md_ld1 C hw hm (r := t) (k := 0) dX5_squareRoot_190 (by omega) (by decide) ?_
          refine lv_iload hx hb dX5_squareRoot_191 (lv_at hl 0 rfl) ?_
          refine bd_zeq (h1 := by decide) (tgt := 200) hx hb dX5_squareRoot_193 (by decide) (fun hc193 => ?_) (fun hc193 => ?_)
          · refine lv_iconst (v := nI 0) hx hb dX5_squareRoot_200 (by decide) ?_
            refine bd_ior (v := nI (F9 t 0 ||| 0)) hx hb dX5_squareRoot_201 (i_or (Nat.lt_of_lt_of_le hg0 (by decide)) (by decide)) ?_
            refine md_st1 C hw hm (r := t) (k := 0) (x := (F9 t 0 ||| 0)) dX5_squareRoot_202 (by omega) (by decide) (fun E H locs hm hw => ?_)
            refine lv_aload_n hx hb dX5_squareRoot_203 rfl (lv_at hl 3 rfl) ?_
            refine lv_iload_n hx hb dX5_squareRoot_204 rfl (lv_at hl 4 rfl) ?_
            refine lv_iconst (v := nI 1) hx hb dX5_squareRoot_205 (by decide) ?_
            obtain ⟨hsv, hbv⟩ := or_lo (f := F9 t) hF9 (k := 1) (y := 0) (by rw [hV9]; omega) (by decide)
            rw [hV9] at hsv
            refine bd_cv (As := [.int (nI t), .int (nI 1)]) (rest := []) C (m5_settle _ _ _ _ _ hm t (nI 1) (by omega) (by rw [va_up_self]; exact hbv)) (cwV 2 hts gX5_squareRoot_X5_settle rfl rfl rfl (by decide +kernel) ⟨Nat.le_of_ble_eq_true rfl, Nat.le_of_ble_eq_true rfl⟩) hsz hw (md_recv C hw hm) dX5_squareRoot_206 rfl hl.1 rfl (Nat.le_of_ble_eq_true rfl) ⟨Nat.le_refl _, Nat.le_refl _⟩ (fun E z H locs hp hw => ?_)
            have hm := hp
            rw [va_up_self] at hm
            obtain ⟨rg1, hv, hv0_, hf9⟩ := mv_end (z := z) (v := ((2 * r + 0 : Nat) : Int)) hm hrg hbv (by rw [hsv, Int.natAbs_natCast]; omega) (sg_if (by rw [hsv, Int.natAbs_natCast]; omega) (fun q => (sg_pn q).symm))
            clear hm
            have f_ra : rg1 ra = rg0 ra := (hf9 ra (by omega)).trans f_ra
            have f_29 : rg1 29 = ((4 * rm + two : Nat) : Int) := (hf9 29 (by omega)).trans f_29
            have f_30 : rg1 30 = ((4 * r + 1 : Nat) : Int) := (hf9 30 (by omega)).trans f_30
            have f_t := hv0_
            have hof : ∀ j, j ≠ t ∧ j ≠ 29 ∧ j ≠ 30 → rg1 j = rg0 j := fun j hj => (hf9 j (by omega)).trans (hof j hj)
            obtain ⟨rg, hrge⟩ : ∃ rg, rg = rg1 := ⟨_, rfl⟩
            rw [← hrge] at hv hof f_ra f_29 f_30 f_t
            rw [Nat.add_zero] at f_t
            rw [hstep] at hst
            refine lv_iinc (v := (nI j - nI 1)) (lv' := [(4, .int (nI j - nI 1)), (6, .int (nI 0)), (5, .int (nI two)), (0, .ref (mo 0)), (1, .int (nI t)), (2, .int (nI ra))]) hx hb dX5_squareRoot_209 hl (k := 2) rfl (bd_dec _) (by decide) rfl (fun ls hl => ?_)
            refine lv_goto (tgt := 26) hx hb dX5_squareRoot_212 (by decide) ?_
            exact ih j (by omega) (2 * r) (4 * rm + two) E z rg ls H locs (by omega) hv f_29 f_t f_ra hst hof (lv_sub hl [0, 3, 4, 5] rfl) hw
          · exact absurd hc193 (by decide)
        · exact absurd hc161 (by decide)
      · have hfit := Int.not_lt.mp (fun q => hc149 (q3_lt.mpr q))
        have hst := rt_st1 hs1 hs2 htw4 (by omega)
        refine lv_iconst (v := nI 1) hx hb dX5_squareRoot_152 (by decide) ?_
        refine lv_goto (tgt := 157) hx hb dX5_squareRoot_153 (by decide) ?_
        refine lv_istore (lv' := [(6, .int (nI 1)), (5, .int (nI two)), (4, .int (nI j)), (0, .ref (mo 0)), (1, .int (nI t)), (2, .int (nI ra))]) hx hb dX5_squareRoot_157 hl (by decide) rfl (fun ls hl => ?_)
        refine lv_iload hx hb dX5_squareRoot_159 (lv_at hl 0 rfl) ?_
        refine bd_zeq (h1 := by decide) (tgt := 174) hx hb dX5_squareRoot_161 (by decide) (fun hc161 => ?_) (fun hc161 => ?_)
        · exact absurd hc161 (by decide)
        · refine lv_aload_n hx hb dX5_squareRoot_164 rfl (lv_at hl 3 rfl) ?_
          refine lv_bipush (v := nI 29) hx hb dX5_squareRoot_165 (by decide) ?_
          refine lv_bipush (v := nI 29) hx hb dX5_squareRoot_167 (by decide) ?_
          refine lv_bipush (v := nI 30) hx hb dX5_squareRoot_169 (by decide) ?_
          refine bd_cv (As := [.int (nI 29), .int (nI 29), .int (nI 30)]) (rest := []) C (v5_minus _ _ _ _ _ hv 29 29 30 (by omega) (by omega) (by omega) (by rw [f_29, f_30]; exact (b34 (Nat.le_trans (sub_b (Nat.le_of_eq (Int.natAbs_natCast _)) (Nat.le_of_eq (Int.natAbs_natCast _))) (Nat.le_trans (show 4 * rm + two + (4 * r + 1) ≤ 2 ^ 804 by omega) (by decide +kernel)))))) (cwV 3 hts gX5_squareRoot_X5_minus rfl rfl rfl (by decide +kernel) ⟨Nat.le_of_ble_eq_true rfl, Nat.le_of_ble_eq_true rfl⟩) hsz hw (mv_recv C hw hv) dX5_squareRoot_171 rfl hl.1 rfl (Nat.le_of_ble_eq_true rfl) ⟨Nat.le_refl _, Nat.le_refl _⟩ (fun E z H locs hp hw => ?_)
          obtain ⟨rg, hv, hv0_, hf9⟩ := hp
          have fT0_ : rg 29 = ((4 * rm + two - (4 * r + 1) : Nat) : Int) := hv0_.trans (by rw [f_29, f_30]; omega)
          have f_t : rg t = (r : Int) := (hf9 t (by omega)).trans f_t
          have f_ra : rg ra = rg0 ra := (hf9 ra (by omega)).trans f_ra
          have f_30 : rg 30 = ((4 * r + 1 : Nat) : Int) := (hf9 30 (by omega)).trans f_30
          have f_29 := fT0_
          have hof : ∀ j, j ≠ t ∧ j ≠ 29 ∧ j ≠ 30 → rg j = rg0 j := fun j hj => (hf9 j (by omega)).trans (hof j hj)
          refine lv_aload_n hx hb dX5_squareRoot_174 rfl (lv_at hl 3 rfl) ?_
          refine lv_iload_n hx hb dX5_squareRoot_175 rfl (lv_at hl 4 rfl) ?_
          refine lv_iload_n hx hb dX5_squareRoot_176 rfl (lv_at hl 4 rfl) ?_
          refine lv_iconst (v := nI 1) hx hb dX5_squareRoot_177 (by decide) ?_
          refine bd_cv (As := [.int (nI t), .int (nI t), .int (nI 1)]) (rest := []) C (v5_up _ _ _ _ _ hv t t 1 (by omega) (by omega) (by omega) (by rw [f_t]; exact (b34 (Nat.le_trans (show (r : Int).natAbs * 2 ^ 1 ≤ 2 ^ 802 by omega) (by decide +kernel))))) (cwV 3 hts gX5_squareRoot_X5_up rfl rfl rfl (by decide +kernel) ⟨Nat.le_of_ble_eq_true rfl, Nat.le_of_ble_eq_true rfl⟩) hsz hw (mv_recv C hw hv) dX5_squareRoot_178 rfl hl.1 rfl (Nat.le_of_ble_eq_true rfl) ⟨Nat.le_refl _, Nat.le_refl _⟩ (fun E z H locs hp hw => ?_)
          obtain ⟨rg, hv, hv0_, hf9⟩ := hp
          have fT0_ : rg t = ((2 * r : Nat) : Int) := hv0_.trans (by rw [f_t]; omega)
          have f_ra : rg ra = rg0 ra := (hf9 ra (by omega)).trans f_ra
          have f_30 : rg 30 = ((4 * r + 1 : Nat) : Int) := (hf9 30 (by omega)).trans f_30
          have f_29 : rg 29 = ((4 * rm + two - (4 * r + 1) : Nat) : Int) := (hf9 29 (by omega)).trans f_29
          have f_t := fT0_
          have hof : ∀ j, j ≠ t ∧ j ≠ 29 ∧ j ≠ 30 → rg j = rg0 j := fun j hj => (hf9 j (by omega)).trans (hof j hj)
          refine lv_aload_n hx hb dX5_squareRoot_181 rfl (lv_at hl 3 rfl) ?_
          have hvc := hv
          obtain ⟨F9, G9, S9, R9_, hm, hrg⟩ := hvc
          obtain ⟨hF9, hV9, hG9⟩ := hrg t (by omega)
          rw [f_t] at hV9
          have hg0 := hF9 0 (by decide)
          refine md_g C i5 hw hm 3 (by decide) (v := .ref (mo 1)) rfl dX5_squareRoot_182 lk7 ?_
          refine lv_bipush (v := nI 34) hx hb dX5_squareRoot_185 (by decide) ?_
          refine lv_iload_n hx hb dX5_squareRoot_187 rfl (lv_at hl 4 rfl) ?_
          refine bd_imul (v := nI (34 * t)) hx hb dX5_squareRoot_188 (nI_mul _ _) ?_
          refine lv_dup2_11 hx hb dX5_squareRoot_189 rfl rfl ?_
          refine md_ld1 C hw hm (r := t) (k := 0) dX5_squareRoot_190 (by omega) (by decide) ?_
          refine lv_iload hx hb dX5_squareRoot_191 (lv_at hl 0 rfl) ?_
          refine bd_zeq (h1 := by decide) (tgt := 200) hx hb dX5_squareRoot_193 (by decide) (fun hc193 => ?_) (fun hc193 => ?_)
          · exact absurd hc193 (by decide)
          · refine lv_iconst (v := nI 1) hx hb dX5_squareRoot_196 (by decide) ?_
            refine lv_goto (tgt := 201) hx hb dX5_squareRoot_197 (by decide) ?_
            refine bd_ior (v := nI (F9 t 0 ||| 1)) hx hb dX5_squareRoot_201 (i_or (Nat.lt_of_lt_of_le hg0 (by decide)) (by decide)) ?_
            refine md_st1 C hw hm (r := t) (k := 0) (x := (F9 t 0 ||| 1)) dX5_squareRoot_202 (by omega) (by decide) (fun E H locs hm hw => ?_)
            refine lv_aload_n hx hb dX5_squareRoot_203 rfl (lv_at hl 3 rfl) ?_
            refine lv_iload_n hx hb dX5_squareRoot_204 rfl (lv_at hl 4 rfl) ?_
            refine lv_iconst (v := nI 1) hx hb dX5_squareRoot_205 (by decide) ?_
            obtain ⟨hsv, hbv⟩ := or_lo (f := F9 t) hF9 (k := 1) (y := 1) (by rw [hV9]; omega) (by decide)
            rw [hV9] at hsv
            refine bd_cv (As := [.int (nI t), .int (nI 1)]) (rest := []) C (m5_settle _ _ _ _ _ hm t (nI 1) (by omega) (by rw [va_up_self]; exact hbv)) (cwV 2 hts gX5_squareRoot_X5_settle rfl rfl rfl (by decide +kernel) ⟨Nat.le_of_ble_eq_true rfl, Nat.le_of_ble_eq_true rfl⟩) hsz hw (md_recv C hw hm) dX5_squareRoot_206 rfl hl.1 rfl (Nat.le_of_ble_eq_true rfl) ⟨Nat.le_refl _, Nat.le_refl _⟩ (fun E z H locs hp hw => ?_)
            have hm := hp
            rw [va_up_self] at hm
            obtain ⟨rg1, hv, hv0_, hf9⟩ := mv_end (z := z) (v := ((2 * r + 1 : Nat) : Int)) hm hrg hbv (by rw [hsv, Int.natAbs_natCast]; omega) (sg_if (by rw [hsv, Int.natAbs_natCast]; omega) (fun q => (sg_pn q).symm))
            clear hm
            have f_ra : rg1 ra = rg0 ra := (hf9 ra (by omega)).trans f_ra
            have f_30 : rg1 30 = ((4 * r + 1 : Nat) : Int) := (hf9 30 (by omega)).trans f_30
            have f_29 : rg1 29 = ((4 * rm + two - (4 * r + 1) : Nat) : Int) := (hf9 29 (by omega)).trans f_29
            have f_t := hv0_
            have hof : ∀ j, j ≠ t ∧ j ≠ 29 ∧ j ≠ 30 → rg1 j = rg0 j := fun j hj => (hf9 j (by omega)).trans (hof j hj)
            obtain ⟨rg, hrge⟩ : ∃ rg, rg = rg1 := ⟨_, rfl⟩
            rw [← hrge] at hv hof f_ra f_30 f_29 f_t
            rw [hstep] at hst
            refine lv_iinc (v := (nI j - nI 1)) (lv' := [(4, .int (nI j - nI 1)), (6, .int (nI 1)), (5, .int (nI two)), (0, .ref (mo 0)), (1, .int (nI t)), (2, .int (nI ra))]) hx hb dX5_squareRoot_209 hl (k := 2) rfl (bd_dec _) (by decide) rfl (fun ls hl => ?_)
            refine lv_goto (tgt := 26) hx hb dX5_squareRoot_212 (by decide) ?_
            exact ih j (by omega) (2 * r + 1) (4 * rm + two - (4 * r + 1)) E z rg ls H locs (by omega) hv f_29 f_t f_ra hst hof (lv_sub hl [0, 3, 4, 5] rfl) hw
