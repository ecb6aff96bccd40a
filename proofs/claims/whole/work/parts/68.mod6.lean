/-! the model: divide (laid by wip/gen/m_mod6.py) -/
theorem q_bl_le2 {x : Nat} (h : x < 16777216 ^ 34) : q_bl x ≤ 816 := by
  rcases Nat.eq_zero_or_pos x with q | q
  · rw [q]; decide
  · obtain ⟨a, b, d⟩ := bl_sp (x := x) (by omega)
    rw [hP] at h
    have h1 : 2 ^ (q_bl x - 1) < 2 ^ (24 * 34) := Nat.lt_of_le_of_lt a h
    have h2 := (Nat.pow_lt_pow_iff_right (show 1 < 2 by decide)).mp h1
    omega
theorem bl_z (x : Nat) : x / 2 ^ q_bl x = 0 := by
  rcases Nat.eq_zero_or_pos x with q | q
  · rw [q, Nat.zero_div]
  · exact Nat.div_eq_of_lt (bl_sp (x := x) (by omega)).2.1
theorem dv_0 {f f0 R : Nat → Nat} {b : Nat} (hf : ∀ j, j < 34 → f j < 16777216) (h0 : ∀ j, j < 34 → f0 j = 0) (hR : ∀ j, j < 34 → R j = 0) : (∀ m, m < 34 → f0 m = h_s f 34 / 2 ^ q_bl (h_s f 34) / b * 2 ^ q_bl (h_s f 34) / 16777216 ^ m % 16777216) ∧ h_s R 34 = h_s f 34 / 2 ^ q_bl (h_s f 34) % b ∧ ∀ m, m < 34 → R m < 16777216 := by
  rw [bl_z, Nat.zero_div, Nat.zero_mul, Nat.zero_mod]
  exact ⟨fun m hm => by rw [h0 m hm, Nat.zero_div], h_z.mpr hR, fun m hm => by rw [hR m hm]; decide⟩
theorem dv_bit {f : Nat → Nat} {j : Nat} (hf : ∀ k, k < 34 → f k < 16777216) (hj : j < 816) : f (j / 24) / 2 ^ (j % 24) % 2 = h_s f 34 / 2 ^ j % 2 := by
  rw [← h_dig hf (k := j / 24) (by omega)]
  have e : ∀ x : Nat, x % 2 = (x.testBit 0).toNat := fun x => by rw [Nat.testBit_zero]; by_cases h : x % 2 = 1 <;> simp [h] <;> omega
  rw [e, e, Nat.testBit_div_two_pow, Nat.testBit_div_two_pow, tb_d, Nat.zero_add, Nat.zero_add]
  simp only [show j % 24 < 24 from Nat.mod_lt _ (by decide), decide_true, Bool.true_and]
  congr 2
  omega
theorem up_b9 {f : Nat → Nat} {i x : Nat} (h : ∀ m, m < 34 → f m < 16777216) (hx : x < 16777216) : ∀ m, m < 34 → va_up f i x m < 16777216 := fun m hm => by
  by_cases q : m = i
  · rw [q, va_up_self]; exact hx
  · rw [va_up_ne _ _ q]; exact h m hm
theorem dv_sh {R1 R2 : Nat → Nat} {i cy d : Nat} (h : h_s R2 i + cy * 16777216 ^ i = 2 * h_s R1 i + d) (he : R2 i = R1 i) : h_s (va_up R2 i ((R2 i * 2 ^ 1 + cy) % 16777216)) (i + 1) + (R2 i * 2 ^ 1 + cy) / 16777216 * 16777216 ^ (i + 1) = 2 * h_s R1 (i + 1) + d := by
  rw [h_up]
  show _ = 2 * (h_s R1 i + R1 i * 16777216 ^ i) + d
  rw [show (16777216 : Nat) ^ (i + 1) = 16777216 ^ i * 16777216 from Nat.pow_succ _ _, ← he]
  have e := Nat.div_add_mod (R2 i * 2 ^ 1 + cy) 16777216
  have e2 : (R2 i * 2 ^ 1 + cy) / 16777216 * (16777216 ^ i * 16777216) + (R2 i * 2 ^ 1 + cy) % 16777216 * 16777216 ^ i = (R2 i * 2 ^ 1 + cy) * 16777216 ^ i := by
    rw [Nat.mul_comm (16777216 ^ i), ← Nat.mul_assoc, ← Nat.add_mul, Nat.mul_comm _ 16777216, e]
  rw [Nat.add_mul] at e2
  have e3 : R2 i * 2 ^ 1 * 16777216 ^ i = 2 * (R2 i * 16777216 ^ i) := by rw [Nat.mul_comm (R2 i), Nat.mul_assoc]
  omega
theorem dv_n {X j b r cy M : Nat} (h1 : r < M) (hb : 0 < b) (hb2 : 2 * b ≤ M) (h : r + cy * M = 2 * (X / 2 ^ (j + 1) % b) + X / 2 ^ j % 2) : cy = 0 ∧ r = 2 * (X / 2 ^ (j + 1) % b) + X / 2 ^ j % 2 := by
  have h3 := Nat.mod_lt (X / 2 ^ (j + 1)) hb
  have h4 : X / 2 ^ j % 2 < 2 := Nat.mod_lt _ (by decide)
  rcases Nat.eq_zero_or_pos cy with q | q
  · rw [q] at h; exact ⟨q, by omega⟩
  · have := Nat.mul_le_mul_right M q
    omega
theorem dv_step (X j : Nat) : X / 2 ^ j = 2 * (X / 2 ^ (j + 1)) + X / 2 ^ j % 2 := by
  have : X / 2 ^ (j + 1) = X / 2 ^ j / 2 := by rw [Nat.pow_succ, Nat.div_div_eq_div_mul]
  rw [this]
  omega
theorem dv_qr {Y q r b : Nat} (h : Y = b * q + r) (hr : r < b) : Y / b = q ∧ Y % b = r := by
  rw [h, Nat.mul_add_div (by omega), Nat.mul_add_mod, Nat.div_eq_of_lt hr, Nat.mod_eq_of_lt hr]
  exact ⟨rfl, rfl⟩
theorem dv_lt {X j b N : Nat} (hN : N = 2 * (X / 2 ^ (j + 1) % b) + X / 2 ^ j % 2) (h : N < b) : X / 2 ^ (j + 1) / b * 2 ^ (j + 1) = X / 2 ^ j / b * 2 ^ j ∧ N = X / 2 ^ j % b := by
  have e := Nat.div_add_mod (X / 2 ^ (j + 1)) b
  have s := dv_step X j
  have h1 : X / 2 ^ j = b * (2 * (X / 2 ^ (j + 1) / b)) + N := by
    have : b * (2 * (X / 2 ^ (j + 1) / b)) = 2 * (b * (X / 2 ^ (j + 1) / b)) := by rw [← Nat.mul_assoc, Nat.mul_comm b 2, Nat.mul_assoc]
    omega
  obtain ⟨a, d⟩ := dv_qr h1 h
  refine ⟨?_, d.symm⟩
  rw [a]
  generalize X / 2 ^ (j + 1) / b = q
  rw [Nat.pow_succ, Nat.mul_comm (2 ^ j), ← Nat.mul_assoc, Nat.mul_comm 2]
theorem dv_ge {X j b N : Nat} (hb : 0 < b) (hN : N = 2 * (X / 2 ^ (j + 1) % b) + X / 2 ^ j % 2) (h : b ≤ N) : X / 2 ^ j / b * 2 ^ j = X / 2 ^ (j + 1) / b * 2 ^ (j + 1) + 2 ^ j ∧ N - b = X / 2 ^ j % b := by
  have e := Nat.div_add_mod (X / 2 ^ (j + 1)) b
  have h3 := Nat.mod_lt (X / 2 ^ (j + 1)) hb
  have s := dv_step X j
  have h1 : X / 2 ^ j = b * (2 * (X / 2 ^ (j + 1) / b) + 1) + (N - b) := by
    have : b * (2 * (X / 2 ^ (j + 1) / b) + 1) = 2 * (b * (X / 2 ^ (j + 1) / b)) + b := by rw [Nat.mul_add, Nat.mul_one, ← Nat.mul_assoc, Nat.mul_comm b 2, Nat.mul_assoc]
    omega
  obtain ⟨a, d⟩ := dv_qr h1 (by omega)
  exact ⟨by rw [a, Nat.pow_succ, Nat.add_mul, Nat.one_mul, Nat.mul_comm (2 ^ j), ← Nat.mul_assoc, Nat.mul_comm 2], d.symm⟩
theorem tb_p (j i : Nat) : (2 ^ j).testBit i = decide (j = i) := Nat.testBit_two_pow
theorem dv_or {f1 : Nat → Nat} {Z q j : Nat} (hX : ∀ m, m < 34 → f1 m = q * 2 ^ (j + 1) / 16777216 ^ m % 16777216) (hj : j < 816) (h : Z = q * 2 ^ (j + 1) + 2 ^ j) : ∀ m, m < 34 → va_up f1 (j / 24) (f1 (j / 24) ||| 2 ^ (j % 24)) m = Z / 16777216 ^ m % 16777216 := by
  intro m hm
  rw [h, ← i_ora (Nat.pow_lt_pow_right (by decide) (Nat.lt_succ_self j))]
  by_cases e : m = j / 24
  · rw [e, va_up_self, hX _ (by omega)]
    apply Nat.eq_of_testBit_eq
    intro i
    rw [Nat.testBit_or, tb_d, tb_d, Nat.testBit_or, tb_p, tb_p]
    by_cases h1 : i < 24
    · simp only [h1, decide_true, Bool.true_and]
      congr 2
      exact propext ⟨fun q => by omega, fun q => by omega⟩
    · simp only [h1, decide_false, Bool.false_and, Bool.false_or]
      exact decide_eq_false (by omega)
  · rw [va_up_ne _ _ e, hX m hm]
    apply Nat.eq_of_testBit_eq
    intro i
    rw [tb_d, tb_d, Nat.testBit_or, tb_p]
    by_cases h1 : i < 24
    · rw [show decide (j = 24 * m + i) = false from decide_eq_false (by omega), Bool.or_false]
    · simp only [h1, decide_false, Bool.false_and]
theorem c3_nl {a b : Nat} (h : b ≤ a) : ¬ q_c3 a b < 0 := by
  rcases Nat.eq_or_lt_of_le h with q | q
  · rw [q_c3_eq q.symm]; decide
  · rw [q_c3_gt q]; decide
set_option maxHeartbeats 4000000 in
set_option maxRecDepth 100000 in
/-- divide(t, a, b) -/
theorem v5_divide (l : Launch) (K : Cxt) (E0 : Nat → va_E) (z0 : Nat → Wh) (sz : Nat) {mo : Nat → Nat} {th : Int32} {P : Nat} {rg0 : Nat → Int} (hv : md_v K E0 mo th P rg0) (t ra rb : Nat) (ht60 : t < 60) (ha60 : ra < 60) (hb60 : rb < 60) (hta : t ≠ ra) (htb : t ≠ rb) (ht32 : t ≠ 32) (hb0 : 0 < rg0 rb) (hb2 : 2 * (rg0 rb).natAbs ≤ 16777216 ^ 34) : Met l yX5_divide wsX5_divide ({ frames := 5, cells := 0, slots := 0, locals := 160 }) (va_Pc [.ref (mo 0), .int (nI t), .int (nI ra), .int (nI rb)] (bd_P K E0 z0 sz)) (va_Qv (fun u => ∃ rg : Nat → Int, md_v K u.1 mo th P rg ∧ rg t = rg0 ra / rg0 rb ∧ ∀ j, j ≠ t → j ≠ 32 → rg j = rg0 j) (bd_B K) (bd_A K sz)) 0 0 (bd_A K sz) := by
  refine bd_ofW (cc := cX5_divide) (maxL := 11) (ret := none) (by decide) rfl (Nat.le_of_ble_eq_true rfl) ?_
  intro p e s m below meth c ls C hr hlk hsz hw hl
  have hx := C.1
  have hb := C.2.1
  have hown := C.2.2.2.1
  have hts := C.2.2.2.2.1
  have i5 : ∀ w ∈ wsX50, w ∈ wsX5_divide := by decide +kernel
  have lk13 : Cond.fieldLink RX5 13 "BallDeskModel" "signs" "[I" ∈ wsX5_divide := by decide +kernel
  have lk20 : Cond.fieldLink RX5 20 "BallDeskModel" "rest" "[I" ∈ wsX5_divide := by decide +kernel
  have lk7 : Cond.fieldLink RX5 7 "BallDeskModel" "limbs" "[I" ∈ wsX5_divide := by decide +kernel
  have lk70 : Cond.constant RX5 70 (16777215) ∈ wsX5_divide := by decide +kernel
  have hl : lv_has ls 11 [(0, .ref (mo 0)), (1, .int (nI t)), (2, .int (nI ra)), (3, .int (nI rb))] := hl
  obtain ⟨Fo, Go, So, Ro, hm, hrg⟩ := hv
  obtain ⟨hP1, hP2⟩ := md_P hm
  obtain ⟨hFa, hva, hga⟩ := hrg ra ha60
  obtain ⟨hFb, hvb, hgb⟩ := hrg rb hb60
  have hfit : (rg0 ra).natAbs < 16777216 ^ 34 := by rw [← hva]; exact h_lt hFa
  have hbp : 0 < h_s (Fo rb) 34 := by omega
  have hb2 : 2 * h_s (Fo rb) 34 ≤ 16777216 ^ 34 := by rw [hvb]; exact hb2
  have hAb : q_bl (h_s (Fo ra) 34) ≤ 816 := q_bl_le2 (h_lt hFa)
  refine lv_aload_n hx hb dX5_divide_0 rfl (lv_at hl 0 rfl) ?_
  refine lv_iload_n hx hb dX5_divide_1 rfl (lv_at hl 2 rfl) ?_
  refine bd_cip (As := [.int (nI ra)]) (rest := []) C (m5_bits _ _ _ _ _ hm ra ha60 hFa) (cwV 1 hts gX5_divide_X5_bits rfl rfl rfl (by decide +kernel) ⟨Nat.le_of_ble_eq_true rfl, Nat.le_of_ble_eq_true rfl⟩) hsz hw (md_recv C hw hm) dX5_divide_2 rfl hl.1 rfl (Nat.le_of_ble_eq_true rfl) ⟨Nat.le_refl _, Nat.le_refl _⟩ (fun H locs hw => ?_)
  refine lv_istore (lv' := [(4, .int (nI (q_bl (h_s (Fo ra) 34)))), (0, .ref (mo 0)), (1, .int (nI t)), (2, .int (nI ra)), (3, .int (nI rb))]) hx hb dX5_divide_5 hl (by decide) rfl (fun ls hl => ?_)
  refine lv_aload_n hx hb dX5_divide_7 rfl (lv_at hl 1 rfl) ?_
  refine lv_iload_n hx hb dX5_divide_8 rfl (lv_at hl 2 rfl) ?_
  refine bd_cv (As := [.int (nI t)]) (rest := []) C (m5_none _ _ _ _ _ hm t (by omega)) (cwV 1 hts gX5_divide_X5_none rfl rfl rfl (by decide +kernel) ⟨Nat.le_of_ble_eq_true rfl, Nat.le_of_ble_eq_true rfl⟩) hsz hw (md_recv C hw hm) dX5_divide_9 rfl hl.1 rfl (Nat.le_of_ble_eq_true rfl) ⟨Nat.le_refl _, Nat.le_refl _⟩ (fun E z H locs hp hw => ?_)
  obtain ⟨f0, hf0, hm⟩ := hp
  refine lv_iconst (v := nI 0) hx hb dX5_divide_12 (by decide) ?_
  refine lv_istore (lv' := [(5, .int (nI 0)), (4, .int (nI (q_bl (h_s (Fo ra) 34)))), (0, .ref (mo 0)), (1, .int (nI t)), (2, .int (nI ra)), (3, .int (nI rb))]) hx hb dX5_divide_13 hl (by decide) rfl (fun ls hl => ?_)
  suffices hloop : ∀ (d9 i : Nat) (R1 : Nat → Nat) (E : Nat → va_E) (ls : Array Slot) (H : Heap) (locs : List Loc), i + d9 = 36 → md_at K E mo th P (va_up Fo t f0) (va_up Go t 0) So R1 → (∀ j, j < i → R1 j = 0) → lv_has ls 11 [(5, .int (nI i)), (4, .int (nI (q_bl (h_s (Fo ra) 34)))), (0, .ref (mo 0)), (1, .int (nI t)), (2, .int (nI ra)), (3, .int (nI rb))] → bd_W K E z (bd_A K sz) s.heap H locs → W p l e (headSpec wsX5_divide ({ frames := 5, cells := 0, slots := 0, locals := 160 })).room s m [.ref (mo 0), .int (nI t), .int (nI ra), .int (nI rb)].toArray below meth c H locs 0 0 (MQ below (va_Qv (fun u => ∃ rg : Nat → Int, md_v K u.1 mo th P rg ∧ rg t = rg0 ra / rg0 rb ∧ ∀ j, j ≠ t → j ≠ 32 → rg j = rg0 j) (bd_B K) (bd_A K sz)) [.ref (mo 0), .int (nI t), .int (nI ra), .int (nI rb)].toArray s 0 0 (bd_A K sz)) (F0 m 15 ls []) from hloop 36 0 Ro E ls _ _ (by omega) hm (fun j hj => absurd hj (by omega)) (lv_sub hl [0, 1, 2, 3, 4, 5] rfl) hw
  clear hw hl ls hm 
  intro d9
  induction d9 using Nat.strongRecOn with
  | ind d9 ih =>
    intro i R1 E ls H locs hjd9 hm hf hl hw
    refine lv_iload hx hb dX5_divide_15 (lv_at hl 0 rfl) ?_
    refine lv_bipush (v := nI 36) hx hb dX5_divide_17 (by decide) ?_
    refine bd_ige (h1 := (by omega)) (h2 := (by omega)) (tgt := 36) hx hb dX5_divide_19 (by decide) (fun hc19 => ?_) (fun hc19 => ?_)
    · refine lv_iload hx hb dX5_divide_36 (lv_at hl 1 rfl) ?_
      refine lv_iconst (v := nI 1) hx hb dX5_divide_38 (by decide) ?_
      refine bd_isub (v := (nI (q_bl (h_s (Fo ra) 34)) - nI 1)) hx hb dX5_divide_39 (rfl) ?_
      refine lv_istore (lv' := [(5, .int (nI (q_bl (h_s (Fo ra) 34)) - nI 1)), (4, .int (nI (q_bl (h_s (Fo ra) 34)))), (0, .ref (mo 0)), (1, .int (nI t)), (2, .int (nI ra)), (3, .int (nI rb))]) hx hb dX5_divide_40 hl (by decide) rfl (fun ls hl => ?_)
      have hk0 := dv_0 (f := Fo ra) (f0 := f0) (R := R1) (b := h_s (Fo rb) 34) hFa hf0 (fun j hj => hf j (by omega))
      suffices hloop : ∀ (k : Nat) (f1 R1 : Nat → Nat) (E : Nat → va_E) (ls : Array Slot) (H : Heap) (locs : List Loc), k ≤ 816 → md_at K E mo th P (va_up Fo t f1) (va_up Go t 0) So R1 → (∀ m, m < 34 → f1 m = h_s (Fo ra) 34 / 2 ^ k / h_s (Fo rb) 34 * 2 ^ k / 16777216 ^ m % 16777216) → (h_s R1 34 = h_s (Fo ra) 34 / 2 ^ k % h_s (Fo rb) 34) → (∀ m, m < 34 → R1 m < 16777216) → lv_has ls 11 [(5, .int (nI k - nI 1)), (0, .ref (mo 0)), (1, .int (nI t)), (2, .int (nI ra)), (3, .int (nI rb))] → bd_W K E z (bd_A K sz) s.heap H locs → W p l e (headSpec wsX5_divide ({ frames := 5, cells := 0, slots := 0, locals := 160 })).room s m [.ref (mo 0), .int (nI t), .int (nI ra), .int (nI rb)].toArray below meth c H locs 0 0 (MQ below (va_Qv (fun u => ∃ rg : Nat → Int, md_v K u.1 mo th P rg ∧ rg t = rg0 ra / rg0 rb ∧ ∀ j, j ≠ t → j ≠ 32 → rg j = rg0 j) (bd_B K) (bd_A K sz)) [.ref (mo 0), .int (nI t), .int (nI ra), .int (nI rb)].toArray s 0 0 (bd_A K sz)) (F0 m 42 ls []) from hloop (q_bl (h_s (Fo ra) 34)) f0 R1 E ls _ _ hAb hm hk0.1 hk0.2.1 hk0.2.2 (lv_sub hl [0, 2, 3, 4, 5] rfl) hw
      clear hw hl ls hm ih hf hk0
      intro k
      induction k using Nat.strongRecOn with
      | ind k ih2 =>
        intro f1 R1 E ls H locs hk816 hm hX hR hR1 hl hw
        rcases k with _ | j
        · rw [Nat.pow_zero, Nat.div_one] at hR
          have hX : ∀ m, m < 34 → f1 m = h_s (Fo ra) 34 / h_s (Fo rb) 34 / 16777216 ^ m % 16777216 := fun m hm9 => by rw [hX m hm9, Nat.pow_zero, Nat.div_one, Nat.mul_one]
          refine lv_iload hx hb dX5_divide_42 (lv_at hl 0 rfl) ?_
          refine lv_if_lt (tgt := 254) hx hb dX5_divide_44 (by decide) (fun hc44 => ?_) (fun hc44 => ?_)
          · refine lv_iconst (v := nI 0) hx hb dX5_divide_254 (by decide) ?_
            refine lv_istore (lv' := [(5, .int (nI 0)), (0, .ref (mo 0)), (1, .int (nI t)), (2, .int (nI ra)), (3, .int (nI rb))]) hx hb dX5_divide_255 hl (by decide) rfl (fun ls hl => ?_)
            refine lv_iconst (v := nI 0) hx hb dX5_divide_257 (by decide) ?_
            refine lv_istore (lv' := [(6, .int (nI 0)), (5, .int (nI 0)), (0, .ref (mo 0)), (1, .int (nI t)), (2, .int (nI ra)), (3, .int (nI rb))]) hx hb dX5_divide_258 hl (by decide) rfl (fun ls hl => ?_)
            suffices hloop : ∀ (d6 i : Nat) (q : Nat) (E : Nat → va_E) (ls : Array Slot) (H : Heap) (locs : List Loc), i + d6 = 34 → md_at K E mo th P (va_up Fo t f1) (va_up Go t 0) So R1 → (q ≤ 1) → ((q = 0 ∧ ∀ j, j < i → R1 j = 0) ∨ (q = 1 ∧ ∃ j, j < i ∧ R1 j ≠ 0)) → lv_has ls 11 [(6, .int (nI i)), (5, .int (nI q)), (0, .ref (mo 0)), (1, .int (nI t)), (2, .int (nI ra)), (3, .int (nI rb))] → bd_W K E z (bd_A K sz) s.heap H locs → W p l e (headSpec wsX5_divide ({ frames := 5, cells := 0, slots := 0, locals := 160 })).room s m [.ref (mo 0), .int (nI t), .int (nI ra), .int (nI rb)].toArray below meth c H locs 0 0 (MQ below (va_Qv (fun u => ∃ rg : Nat → Int, md_v K u.1 mo th P rg ∧ rg t = rg0 ra / rg0 rb ∧ ∀ j, j ≠ t → j ≠ 32 → rg j = rg0 j) (bd_B K) (bd_A K sz)) [.ref (mo 0), .int (nI t), .int (nI ra), .int (nI rb)].toArray s 0 0 (bd_A K sz)) (F0 m 260 ls []) from hloop 34 0 0 E ls _ _ (by omega) hm (by decide) (Or.inl ⟨rfl, fun j hj => absurd hj (by omega)⟩) (lv_sub hl [0, 1, 2, 3, 4, 5] rfl) hw
            clear hw hl ls hm 
            intro d6
            induction d6 using Nat.strongRecOn with
            | ind d6 ih6 =>
              intro i q E ls H locs hjd6 hm hq1 hq hl hw
              refine lv_iload hx hb dX5_divide_260 (lv_at hl 0 rfl) ?_
              refine lv_bipush (v := nI 34) hx hb dX5_divide_262 (by decide) ?_
              refine bd_ige (h1 := (by omega)) (h2 := (by omega)) (tgt := 295) hx hb dX5_divide_264 (by decide) (fun hc264 => ?_) (fun hc264 => ?_)
              · have hs1 : h_s f1 34 = (sv (rg0 ra) ((rg0 ra).natAbs / h_s (Fo rb) 34)).natAbs := by
                  rw [sv_abs, ← hva]
                  exact h_ofd hX (Nat.lt_of_le_of_lt (Nat.div_le_self _ _) (h_lt hFa))
                have hb1 : ∀ m, m < 34 → f1 m < 16777216 := fun m hm9 => by rw [hX m hm9]; exact Nat.mod_lt _ (by decide)
                refine lv_aload_n hx hb dX5_divide_295 rfl (lv_at hl 2 rfl) ?_
                refine lv_iload_n hx hb dX5_divide_296 rfl (lv_at hl 3 rfl) ?_
                refine lv_aload_n hx hb dX5_divide_297 rfl (lv_at hl 2 rfl) ?_
                refine md_g C i5 hw hm 4 (by decide) (v := .ref (mo 2)) rfl dX5_divide_298 lk13 ?_
                refine lv_iload_n hx hb dX5_divide_301 rfl (lv_at hl 4 rfl) ?_
                refine md_ld2 C hw hm dX5_divide_302 (by omega) ?_
                rw [va_up_ne Go 0 (show ra ≠ t from fun q => hta q.symm)]
                refine bd_cv (As := [.int (nI t), .int (Go ra)]) (rest := []) C (m5_settle _ _ _ _ _ hm t (Go ra) (by omega) (by rw [va_up_self]; exact hb1)) (cwV 2 hts gX5_divide_X5_settle rfl rfl rfl (by decide +kernel) ⟨Nat.le_of_ble_eq_true rfl, Nat.le_of_ble_eq_true rfl⟩) hsz hw (md_recv C hw hm) dX5_divide_303 rfl hl.1 rfl (Nat.le_of_ble_eq_true rfl) ⟨Nat.le_refl _, Nat.le_refl _⟩ (fun E z H locs hp hw => ?_)
                have hm := hp
                rw [va_up2] at hm
                rw [va_up_self] at hm
                obtain ⟨rg1, hv, hv9, hf9⟩ := mv_end (z := z) hm hrg hb1 hs1 (sg_if hs1 (by rw [hga]; exact sv_sg (fun h0 => by rw [h0]; exact Nat.zero_div _)))
                have hbe : rg0 rb = (h_s (Fo rb) 34 : Int) := by rw [hvb]; exact (Int.natAbs_of_nonneg (Int.le_of_lt hb0)).symm
                refine lv_aload_n hx hb dX5_divide_306 rfl (lv_at hl 2 rfl) ?_
                refine mv_g C i5 hw hv 4 (by decide) (v := .ref (mo 2)) rfl dX5_divide_307 lk13 ?_
                refine lv_iload_n hx hb dX5_divide_310 rfl (lv_at hl 4 rfl) ?_
                refine mv_ld2 C hw hv (r := ra) dX5_divide_311 ha60 ?_
                rw [hf9 ra (fun q => hta q.symm)]
                refine lv_if_ge (tgt := 326) hx hb dX5_divide_312 (by decide) (fun hc312 => ?_) (fun hc312 => ?_)
                · have hx9 : 0 ≤ rg0 ra := sg_ge hc312
                  exact bd_vret C hr hlk hw dX5_divide_326 ⟨rg1, hv, hv9.trans (by rw [hbe]; exact fl_1 hx9), fun j h1 h2 => hf9 j h1⟩
                · have hx9 : rg0 ra < 0 := sg_nge hc312
                  refine lv_iload hx hb dX5_divide_315 (lv_at hl 1 rfl) ?_
                  refine bd_zeq (h1 := (by omega)) (tgt := 326) hx hb dX5_divide_317 (by decide) (fun hc317 => ?_) (fun hc317 => ?_)
                  · have hlf : (rg0 ra).natAbs % h_s (Fo rb) 34 = 0 := by rw [← hva, ← hR]; exact h_z.mpr (hq.elim (fun g j hj => g.2 j (by omega)) (fun g => absurd g.1 (by omega)))
                    exact bd_vret C hr hlk hw dX5_divide_326 ⟨rg1, hv, hv9.trans (by rw [hbe]; exact fl_2 hbp hx9 hlf), fun j h1 h2 => hf9 j h1⟩
                  · have hlf : ¬ (rg0 ra).natAbs % h_s (Fo rb) 34 = 0 := by rw [← hva, ← hR]; exact fun hh => hq.elim (fun g => absurd g.1 (by omega)) (fun g => g.2.elim (fun j hj => hj.2 (h_z.mp hh j (by omega))))
                    refine lv_aload_n hx hb dX5_divide_320 rfl (lv_at hl 2 rfl) ?_
                    refine lv_iload_n hx hb dX5_divide_321 rfl (lv_at hl 3 rfl) ?_
                    refine lv_iconst (v := (-1)) hx hb dX5_divide_322 (by decide) ?_
                    refine bd_cv (As := [.int (nI t), .int (-1)]) (rest := []) C (v5_addSmall _ _ _ _ _ hv t (-1) ht60 ht32 (by rw [hv9]; exact fl_b hx9 hfit hbp hlf)) (cwV 2 hts gX5_divide_X5_addSmall rfl rfl rfl (by decide +kernel) ⟨Nat.le_of_ble_eq_true rfl, Nat.le_of_ble_eq_true rfl⟩) hsz hw (mv_recv C hw hv) dX5_divide_323 rfl hl.1 rfl (Nat.le_of_ble_eq_true rfl) ⟨Nat.le_refl _, Nat.le_refl _⟩ (fun E z H locs hp hw => ?_)
                    obtain ⟨rg2, hv2, hv8, hf8⟩ := hp
                    exact bd_vret C hr hlk hw dX5_divide_326 ⟨rg2, hv2, by rw [hv8, hv9, hbe]; exact fl_3 hbp hx9 hlf, fun j h1 h2 => (hf8 j h1 h2).trans (hf9 j h1)⟩
              · refine lv_iload hx hb dX5_divide_267 (lv_at hl 1 rfl) ?_
                refine bd_zne (h1 := (by omega)) (tgt := 282) hx hb dX5_divide_269 (by decide) (fun hc269 => ?_) (fun hc269 => ?_)
                · refine lv_iconst (v := nI 1) hx hb dX5_divide_282 (by decide) ?_
                  refine lv_goto (tgt := 287) hx hb dX5_divide_283 (by decide) ?_
                  refine lv_istore (lv' := [(5, .int (nI 1)), (6, .int (nI i)), (0, .ref (mo 0)), (1, .int (nI t)), (2, .int (nI ra)), (3, .int (nI rb))]) hx hb dX5_divide_287 hl (by decide) rfl (fun ls hl => ?_)
                  refine lv_iinc (v := (nI (i + 1))) (lv' := [(6, .int (nI (i + 1))), (5, .int (nI 1)), (0, .ref (mo 0)), (1, .int (nI t)), (2, .int (nI ra)), (3, .int (nI rb))]) hx hb dX5_divide_289 hl (k := 1) rfl (nI_1 _) (by decide) rfl (fun ls hl => ?_)
                  refine lv_goto (tgt := 260) hx hb dX5_divide_292 (by decide) ?_
                  exact ih6 (d6 - 1) (by omega) (i + 1) 1 E ls H locs (by omega) hm (by decide) (Or.inr ⟨rfl, hq.elim (fun h => absurd h.1 (by omega)) (fun h => h.2.elim (fun j hj => ⟨j, by omega, hj.2⟩))⟩) (lv_sub hl [0, 1, 2, 3, 4, 5] rfl) hw
                · refine lv_aload_n hx hb dX5_divide_272 rfl (lv_at hl 2 rfl) ?_
                  refine md_g C i5 hw hm 6 (by decide) (v := .ref (mo 4)) rfl dX5_divide_273 lk20 ?_
                  refine lv_iload hx hb dX5_divide_276 (lv_at hl 0 rfl) ?_
                  refine md_ld4 C hw hm dX5_divide_278 (by omega) ?_
                  refine bd_zeq (h1 := (Nat.lt_of_lt_of_le (hR1 i (by omega)) (by decide))) (tgt := 286) hx hb dX5_divide_279 (by decide) (fun hc279 => ?_) (fun hc279 => ?_)
                  · refine lv_iconst (v := nI 0) hx hb dX5_divide_286 (by decide) ?_
                    refine lv_istore (lv' := [(5, .int (nI 0)), (6, .int (nI i)), (0, .ref (mo 0)), (1, .int (nI t)), (2, .int (nI ra)), (3, .int (nI rb))]) hx hb dX5_divide_287 hl (by decide) rfl (fun ls hl => ?_)
                    refine lv_iinc (v := (nI (i + 1))) (lv' := [(6, .int (nI (i + 1))), (5, .int (nI 0)), (0, .ref (mo 0)), (1, .int (nI t)), (2, .int (nI ra)), (3, .int (nI rb))]) hx hb dX5_divide_289 hl (k := 1) rfl (nI_1 _) (by decide) rfl (fun ls hl => ?_)
                    refine lv_goto (tgt := 260) hx hb dX5_divide_292 (by decide) ?_
                    exact ih6 (d6 - 1) (by omega) (i + 1) 0 E ls H locs (by omega) hm (by decide) (Or.inl ⟨rfl, fun j hj => (Nat.lt_or_ge j i).elim (fun h => hq.elim (fun g => g.2 j h) (fun g => absurd g.1 (by omega))) (fun h => by rw [show j = i by omega]; exact hc279)⟩) (lv_sub hl [0, 1, 2, 3, 4, 5] rfl) hw
                  · refine lv_iconst (v := nI 1) hx hb dX5_divide_282 (by decide) ?_
                    refine lv_goto (tgt := 287) hx hb dX5_divide_283 (by decide) ?_
                    refine lv_istore (lv' := [(5, .int (nI 1)), (6, .int (nI i)), (0, .ref (mo 0)), (1, .int (nI t)), (2, .int (nI ra)), (3, .int (nI rb))]) hx hb dX5_divide_287 hl (by decide) rfl (fun ls hl => ?_)
                    refine lv_iinc (v := (nI (i + 1))) (lv' := [(6, .int (nI (i + 1))), (5, .int (nI 1)), (0, .ref (mo 0)), (1, .int (nI t)), (2, .int (nI ra)), (3, .int (nI rb))]) hx hb dX5_divide_289 hl (k := 1) rfl (nI_1 _) (by decide) rfl (fun ls hl => ?_)
                    refine lv_goto (tgt := 260) hx hb dX5_divide_292 (by decide) ?_
                    exact ih6 (d6 - 1) (by omega) (i + 1) 1 E ls H locs (by omega) hm (by decide) (Or.inr ⟨rfl, i, by omega, by omega⟩) (lv_sub hl [0, 1, 2, 3, 4, 5] rfl) hw
          · exact absurd (by decide) hc44
        · rw [nI_p1] at hl
          have hrB : h_s (Fo ra) 34 / 2 ^ (j + 1) % h_s (Fo rb) 34 < h_s (Fo rb) 34 := Nat.mod_lt _ hbp
          have hbit := dv_bit (f := Fo ra) (j := j) hFa (by omega)
          refine lv_iload hx hb dX5_divide_42 (lv_at hl 0 rfl) ?_
          refine bd_zlt (h1 := (by omega)) (tgt := 254) hx hb dX5_divide_44 (by decide) ?_
          refine lv_aload_n hx hb dX5_divide_47 rfl (lv_at hl 1 rfl) ?_
          refine lv_iload_n hx hb dX5_divide_48 rfl (lv_at hl 3 rfl) ?_
          refine lv_iload hx hb dX5_divide_49 (lv_at hl 0 rfl) ?_
          refine lv_bipush (v := nI 24) hx hb dX5_divide_51 (by decide) ?_
          refine bd_idiv (v := (nI (j / 24))) hx hb dX5_divide_53 (by decide) (pk_div (by omega) (by decide) (by decide)) ?_
          refine bd_cip (As := [.int (nI ra), .int (nI (j / 24))]) (rest := []) C (m5_at _ _ _ _ _ hm ra (j / 24) (by omega) (by omega)) (cwV 2 hts gX5_divide_X5_at rfl rfl rfl (by decide +kernel) ⟨Nat.le_of_ble_eq_true rfl, Nat.le_of_ble_eq_true rfl⟩) hsz hw (md_recv C hw hm) dX5_divide_54 rfl hl.1 rfl (Nat.le_of_ble_eq_true rfl) ⟨Nat.le_refl _, Nat.le_refl _⟩ (fun H locs hw => ?_)
          rw [va_up_ne Fo f1 (show ra ≠ t from fun q => hta q.symm)]
          refine lv_iload hx hb dX5_divide_57 (lv_at hl 0 rfl) ?_
          refine lv_bipush (v := nI 24) hx hb dX5_divide_59 (by decide) ?_
          refine bd_irem (v := (nI (j % 24))) hx hb dX5_divide_61 (by decide) (pk_rem (by omega) (by decide) (by decide)) ?_
          refine bd_ishr (v := (nI (Fo ra (j / 24) / 2 ^ (j % 24)))) hx hb dX5_divide_62 (i_shn (Nat.lt_of_lt_of_le (hFa _ (by omega)) (by decide)) (by omega)) ?_
          refine lv_iconst (v := nI 1) hx hb dX5_divide_63 (by decide) ?_
          refine bd_iand (v := (nI (Fo ra (j / 24) / 2 ^ (j % 24) % 2))) hx hb dX5_divide_64 (i_b1 (Nat.lt_of_le_of_lt (Nat.div_le_self _ _) (Nat.lt_of_lt_of_le (hFa _ (by omega)) (by decide)))) ?_
          refine lv_istore (lv' := [(6, .int (nI (Fo ra (j / 24) / 2 ^ (j % 24) % 2))), (5, .int (nI j)), (0, .ref (mo 0)), (1, .int (nI t)), (2, .int (nI ra)), (3, .int (nI rb))]) hx hb dX5_divide_65 hl (by decide) rfl (fun ls hl => ?_)
          refine lv_iconst (v := nI 0) hx hb dX5_divide_67 (by decide) ?_
          refine lv_istore (lv' := [(7, .int (nI 0)), (6, .int (nI (Fo ra (j / 24) / 2 ^ (j % 24) % 2))), (5, .int (nI j)), (0, .ref (mo 0)), (1, .int (nI t)), (2, .int (nI ra)), (3, .int (nI rb))]) hx hb dX5_divide_68 hl (by decide) rfl (fun ls hl => ?_)
          suffices hloop : ∀ (d8 i : Nat) (R2 : Nat → Nat) (cy : Nat) (E : Nat → va_E) (ls : Array Slot) (H : Heap) (locs : List Loc), i + d8 = 34 → md_at K E mo th P (va_up Fo t f1) (va_up Go t 0) So R2 → (∀ m, m < 34 → R2 m < 16777216) → (∀ m, i ≤ m → R2 m = R1 m) → (cy ≤ 1) → (h_s R2 i + cy * 16777216 ^ i = 2 * h_s R1 i + (Fo ra (j / 24) / 2 ^ (j % 24) % 2)) → lv_has ls 11 [(7, .int (nI i)), (6, .int (nI cy)), (5, .int (nI j)), (0, .ref (mo 0)), (1, .int (nI t)), (2, .int (nI ra)), (3, .int (nI rb))] → bd_W K E z (bd_A K sz) s.heap H locs → W p l e (headSpec wsX5_divide ({ frames := 5, cells := 0, slots := 0, locals := 160 })).room s m [.ref (mo 0), .int (nI t), .int (nI ra), .int (nI rb)].toArray below meth c H locs 0 0 (MQ below (va_Qv (fun u => ∃ rg : Nat → Int, md_v K u.1 mo th P rg ∧ rg t = rg0 ra / rg0 rb ∧ ∀ j, j ≠ t → j ≠ 32 → rg j = rg0 j) (bd_B K) (bd_A K sz)) [.ref (mo 0), .int (nI t), .int (nI ra), .int (nI rb)].toArray s 0 0 (bd_A K sz)) (F0 m 70 ls []) from hloop 34 0 R1 (Fo ra (j / 24) / 2 ^ (j % 24) % 2) E ls _ _ (by omega) hm hR1 (fun _ _ => rfl) (by omega) (by simp [h_s]) (lv_sub hl [0, 1, 2, 3, 4, 5, 6] rfl) hw
          clear hw hl ls hm 
          intro d8
          induction d8 using Nat.strongRecOn with
          | ind d8 ih3 =>
            intro i R2 cy E ls H locs hjd8 hm hR2 hRg hcy hcs hl hw
            refine lv_iload hx hb dX5_divide_70 (lv_at hl 0 rfl) ?_
            refine lv_bipush (v := nI 34) hx hb dX5_divide_72 (by decide) ?_
            refine bd_ige (h1 := (by omega)) (h2 := (by omega)) (tgt := 116) hx hb dX5_divide_74 (by decide) (fun hc74 => ?_) (fun hc74 => ?_)
            · have hi34 : i = 34 := by omega
              rw [hi34, hR, hbit] at hcs
              obtain ⟨hcy0, hN⟩ := dv_n (X := h_s (Fo ra) 34) (j := j) (h_lt hR2) hbp hb2 hcs
              refine lv_bipush (v := nI 33) hx hb dX5_divide_116 (by decide) ?_
              refine lv_istore (lv' := [(7, .int (nI 33)), (6, .int (nI cy)), (5, .int (nI j)), (0, .ref (mo 0)), (1, .int (nI t)), (2, .int (nI ra)), (3, .int (nI rb))]) hx hb dX5_divide_118 hl (by decide) rfl (fun ls hl => ?_)
              suffices hloop : ∀ (k : Nat) (ls : Array Slot) (H : Heap) (locs : List Loc), k < 34 → (∀ m, k < m → m < 34 → R2 m = Fo rb m) → lv_has ls 11 [(7, .int (nI k)), (5, .int (nI j)), (0, .ref (mo 0)), (1, .int (nI t)), (2, .int (nI ra)), (3, .int (nI rb))] → bd_W K E z (bd_A K sz) s.heap H locs → W p l e (headSpec wsX5_divide ({ frames := 5, cells := 0, slots := 0, locals := 160 })).room s m [.ref (mo 0), .int (nI t), .int (nI ra), .int (nI rb)].toArray below meth c H locs 0 0 (MQ below (va_Qv (fun u => ∃ rg : Nat → Int, md_v K u.1 mo th P rg ∧ rg t = rg0 ra / rg0 rb ∧ ∀ j, j ≠ t → j ≠ 32 → rg j = rg0 j) (bd_B K) (bd_A K sz)) [.ref (mo 0), .int (nI t), .int (nI ra), .int (nI rb)].toArray s 0 0 (bd_A K sz)) (F0 m 120 ls []) from hloop 33 ls _ _ (by omega) (fun m h1 h2 => absurd h1 (by omega)) (lv_sub hl [0, 2, 3, 4, 5, 6] rfl) hw
              clear hw hl ls
              intro k
              induction k using Nat.strongRecOn with
              | ind k ih4 =>
                intro ls H locs hk heq hl hw
                refine lv_iload hx hb dX5_divide_120 (lv_at hl 0 rfl) ?_
                refine bd_zle (h1 := (by omega)) (tgt := 148) hx hb dX5_divide_122 (by decide) (fun hc122 => ?_) (fun hc122 => ?_)
                · have h3 := c3_top hR2 hFb hk heq (Or.inl hc122)
                  refine lv_aload_n hx hb dX5_divide_148 rfl (lv_at hl 2 rfl) ?_
                  refine md_g C i5 hw hm 6 (by decide) (v := .ref (mo 4)) rfl dX5_divide_149 lk20 ?_
                  refine lv_iload hx hb dX5_divide_152 (lv_at hl 0 rfl) ?_
                  refine md_ld4 C hw hm dX5_divide_154 (by omega) ?_
                  refine lv_aload_n hx hb dX5_divide_155 rfl (lv_at hl 2 rfl) ?_
                  refine lv_iload_n hx hb dX5_divide_156 rfl (lv_at hl 5 rfl) ?_
                  refine lv_iload hx hb dX5_divide_157 (lv_at hl 0 rfl) ?_
                  refine bd_cip (As := [.int (nI rb), .int (nI k)]) (rest := [.int (nI (R2 k))]) C (m5_at _ _ _ _ _ hm rb k (by omega) (by omega)) (cwV 2 hts gX5_divide_X5_at rfl rfl rfl (by decide +kernel) ⟨Nat.le_of_ble_eq_true rfl, Nat.le_of_ble_eq_true rfl⟩) hsz hw (md_recv C hw hm) dX5_divide_159 rfl hl.1 rfl (Nat.le_of_ble_eq_true rfl) ⟨Nat.le_refl _, Nat.le_refl _⟩ (fun H locs hw => ?_)
                  rw [va_up_ne Fo f1 (show rb ≠ t from fun q => htb q.symm)]
                  refine bd_ilt (h1 := (Nat.lt_of_lt_of_le (hR2 k (by omega)) (by decide))) (h2 := (Nat.lt_of_lt_of_le (hFb k (by omega)) (by decide))) (tgt := 248) hx hb dX5_divide_162 (by decide) (fun hc162 => ?_) (fun hc162 => ?_)
                  · have hlt9 : h_s R2 34 < h_s (Fo rb) 34 := q_c3_l (by rw [h3, q_c3_lt hc162]; decide)
                    obtain ⟨hq1, hq2⟩ := dv_lt (X := h_s (Fo ra) 34) (j := j) (b := h_s (Fo rb) 34) hN hlt9
                    refine lv_iinc (v := (nI j - nI 1)) (lv' := [(5, .int (nI j - nI 1)), (7, .int (nI k)), (0, .ref (mo 0)), (1, .int (nI t)), (2, .int (nI ra)), (3, .int (nI rb))]) hx hb dX5_divide_248 hl (k := 1) rfl (bd_dec _) (by decide) rfl (fun ls hl => ?_)
                    refine lv_goto (tgt := 42) hx hb dX5_divide_251 (by decide) ?_
                    exact ih2 j (by omega) _ _ E ls H locs (by omega) hm (fun m hm9 => by rw [hX m hm9, hq1]) hq2 hR2 (lv_sub hl [0, 2, 3, 4, 5] rfl) hw
                  · have hge9 : h_s (Fo rb) 34 ≤ h_s R2 34 := q_c3_ge (by rw [h3]; exact c3_nl hc162)
                    obtain ⟨hq1, hq2⟩ := dv_ge (X := h_s (Fo ra) 34) (j := j) (b := h_s (Fo rb) 34) hbp hN hge9
                    have hf24 : f1 (j / 24) < 16777216 := by rw [hX _ (by omega)]; exact Nat.mod_lt _ (by decide)
                    have hp24 : 2 ^ (j % 24) < 16777216 := Nat.lt_of_lt_of_le (Nat.pow_lt_pow_right (by decide) (Nat.mod_lt j (by decide : 24 > 0))) (by decide)
                    refine lv_iconst (v := nI 0) hx hb dX5_divide_165 (by decide) ?_
                    refine lv_istore (lv' := [(8, .int (nI 0)), (7, .int (nI k)), (5, .int (nI j)), (0, .ref (mo 0)), (1, .int (nI t)), (2, .int (nI ra)), (3, .int (nI rb))]) hx hb dX5_divide_166 hl (by decide) rfl (fun ls hl => ?_)
                    refine lv_iconst (v := nI 0) hx hb dX5_divide_168 (by decide) ?_
                    refine lv_istore (lv' := [(9, .int (nI 0)), (8, .int (nI 0)), (7, .int (nI k)), (5, .int (nI j)), (0, .ref (mo 0)), (1, .int (nI t)), (2, .int (nI ra)), (3, .int (nI rb))]) hx hb dX5_divide_169 hl (by decide) rfl (fun ls hl => ?_)
                    suffices hloop : ∀ (d7 i : Nat) (R3 : Nat → Nat) (cz : Int) (E : Nat → va_E) (ls : Array Slot) (H : Heap) (locs : List Loc), i + d7 = 34 → md_at K E mo th P (va_up Fo t f1) (va_up Go t 0) So R3 → (∀ m, m < 34 → R3 m < 16777216) → (∀ m, i ≤ m → R3 m = R2 m) → (-1 ≤ cz ∧ cz ≤ 1) → ((h_s R3 i : Int) + cz * ((16777216 ^ i : Nat) : Int) = (h_s R2 i : Int) + (-1) * (h_s (Fo rb) i : Int)) → lv_has ls 11 [(9, .int (nI i)), (8, .int (iZ cz)), (5, .int (nI j)), (0, .ref (mo 0)), (1, .int (nI t)), (2, .int (nI ra)), (3, .int (nI rb))] → bd_W K E z (bd_A K sz) s.heap H locs → W p l e (headSpec wsX5_divide ({ frames := 5, cells := 0, slots := 0, locals := 160 })).room s m [.ref (mo 0), .int (nI t), .int (nI ra), .int (nI rb)].toArray below meth c H locs 0 0 (MQ below (va_Qv (fun u => ∃ rg : Nat → Int, md_v K u.1 mo th P rg ∧ rg t = rg0 ra / rg0 rb ∧ ∀ j, j ≠ t → j ≠ 32 → rg j = rg0 j) (bd_B K) (bd_A K sz)) [.ref (mo 0), .int (nI t), .int (nI ra), .int (nI rb)].toArray s 0 0 (bd_A K sz)) (F0 m 171 ls []) from hloop 34 0 R2 0 E ls _ _ (by omega) hm hR2 (fun _ _ => rfl) (by omega) (by simp [h_s]) (lv_sub hl [0, 1, 3, 4, 5, 6, 7] rfl) hw
                    clear hw hl ls hm 
                    intro d7
                    induction d7 using Nat.strongRecOn with
                    | ind d7 ih5 =>
                      intro i R3 cz E ls H locs hjd7 hm hR3 hRg3 hcz hsum hl hw
                      refine lv_iload hx hb dX5_divide_171 (lv_at hl 0 rfl) ?_
                      refine lv_bipush (v := nI 34) hx hb dX5_divide_173 (by decide) ?_
                      refine bd_ige (h1 := (by omega)) (h2 := (by omega)) (tgt := 223) hx hb dX5_divide_175 (by decide) (fun hc175 => ?_) (fun hc175 => ?_)
                      · have hi34b : i = 34 := by omega
                        rw [hi34b] at hsum
                        have hR3v : h_s R3 34 = h_s R2 34 - h_s (Fo rb) 34 := sm_end hcz (h_lt hR3) (Nat.lt_of_le_of_lt (Nat.sub_le _ _) (h_lt hR2)) hsum (by omega)
                        refine lv_aload_n hx hb dX5_divide_223 rfl (lv_at hl 3 rfl) ?_
                        refine md_g C i5 hw hm 3 (by decide) (v := .ref (mo 1)) rfl dX5_divide_224 lk7 ?_
                        refine lv_bipush (v := nI 34) hx hb dX5_divide_227 (by decide) ?_
                        refine lv_iload_n hx hb dX5_divide_229 rfl (lv_at hl 4 rfl) ?_
                        refine bd_imul (v := nI (34 * t)) hx hb dX5_divide_230 (nI_mul _ _) ?_
                        refine lv_iload hx hb dX5_divide_231 (lv_at hl 2 rfl) ?_
                        refine lv_bipush (v := nI 24) hx hb dX5_divide_233 (by decide) ?_
                        refine bd_idiv (v := (nI (j / 24))) hx hb dX5_divide_235 (by decide) (pk_div (by omega) (by decide) (by decide)) ?_
                        refine bd_iadd (v := nI (34 * t + j / 24)) hx hb dX5_divide_236 (nI_add _ _) ?_
                        refine lv_dup2_11 hx hb dX5_divide_237 rfl rfl ?_
                        refine md_ld1 C hw hm (r := t) (k := j / 24) dX5_divide_238 (by omega) (by omega) ?_
                        rw [va_up_self]
                        refine lv_iconst (v := nI 1) hx hb dX5_divide_239 (by decide) ?_
                        refine lv_iload hx hb dX5_divide_240 (lv_at hl 2 rfl) ?_
                        refine lv_bipush (v := nI 24) hx hb dX5_divide_242 (by decide) ?_
                        refine bd_irem (v := (nI (j % 24))) hx hb dX5_divide_244 (by decide) (pk_rem (by omega) (by decide) (by decide)) ?_
                        refine bd_ishl (v := (nI (2 ^ (j % 24)))) hx hb dX5_divide_245 ((i_shl 1 (by omega)).trans (congrArg nI (Nat.one_mul _))) ?_
                        refine bd_ior (v := (nI (f1 (j / 24) ||| 2 ^ (j % 24)))) hx hb dX5_divide_246 (i_or (Nat.lt_of_lt_of_le hf24 (by decide)) (Nat.lt_of_lt_of_le hp24 (by decide))) ?_
                        refine md_st1u C hw (r := t) (k := j / 24) (x := f1 (j / 24) ||| 2 ^ (j % 24)) hm dX5_divide_247 (by omega) (by omega) (fun E H locs hm hw => ?_)
                        refine lv_iinc (v := (nI j - nI 1)) (lv' := [(5, .int (nI j - nI 1)), (9, .int (nI i)), (8, .int (iZ cz)), (0, .ref (mo 0)), (1, .int (nI t)), (2, .int (nI ra)), (3, .int (nI rb))]) hx hb dX5_divide_248 hl (k := 2) rfl (bd_dec _) (by decide) rfl (fun ls hl => ?_)
                        refine lv_goto (tgt := 42) hx hb dX5_divide_251 (by decide) ?_
                        exact ih2 j (by omega) _ _ E ls H locs (by omega) hm (dv_or hX (by omega) hq1) (hR3v.trans hq2) hR3 (lv_sub hl [0, 3, 4, 5, 6] rfl) hw
                      · have hx1 := hR3 i (by omega)
                        have hx2 := hFb i (by omega)
                        refine lv_aload_n hx hb dX5_divide_178 rfl (lv_at hl 3 rfl) ?_
                        refine md_g C i5 hw hm 6 (by decide) (v := .ref (mo 4)) rfl dX5_divide_179 lk20 ?_
                        refine lv_iload hx hb dX5_divide_182 (lv_at hl 0 rfl) ?_
                        refine md_ld4 C hw hm dX5_divide_184 (by omega) ?_
                        refine lv_aload_n hx hb dX5_divide_185 rfl (lv_at hl 3 rfl) ?_
                        refine lv_iload_n hx hb dX5_divide_186 rfl (lv_at hl 6 rfl) ?_
                        refine lv_iload hx hb dX5_divide_187 (lv_at hl 0 rfl) ?_
                        refine bd_cip (As := [.int (nI rb), .int (nI i)]) (rest := [.int (nI (R3 i))]) C (m5_at _ _ _ _ _ hm rb i (by omega) (by omega)) (cwV 2 hts gX5_divide_X5_at rfl rfl rfl (by decide +kernel) ⟨Nat.le_of_ble_eq_true rfl, Nat.le_of_ble_eq_true rfl⟩) hsz hw (md_recv C hw hm) dX5_divide_189 rfl hl.1 rfl (Nat.le_of_ble_eq_true rfl) ⟨Nat.le_refl _, Nat.le_refl _⟩ (fun H locs hw => ?_)
                        rw [va_up_ne Fo f1 (show rb ≠ t from fun q => htb q.symm)]
                        refine bd_isub (v := (iZ ((R3 i : Int) - (Fo rb i : Int)))) hx hb dX5_divide_192 (iZ_sub _ _) ?_
                        refine lv_iload hx hb dX5_divide_193 (lv_at hl 1 rfl) ?_
                        refine bd_iadd (v := (iZ ((R3 i : Int) - (Fo rb i : Int) + cz))) hx hb dX5_divide_195 (iZ_add _ _) ?_
                        refine lv_istore (lv' := [(10, .int (iZ ((R3 i : Int) - (Fo rb i : Int) + cz))), (9, .int (nI i)), (8, .int (iZ cz)), (5, .int (nI j)), (0, .ref (mo 0)), (1, .int (nI t)), (2, .int (nI ra)), (3, .int (nI rb))]) hx hb dX5_divide_196 hl (by decide) rfl (fun ls hl => ?_)
                        refine lv_aload_n hx hb dX5_divide_198 rfl (lv_at hl 4 rfl) ?_
                        refine md_g C i5 hw hm 6 (by decide) (v := .ref (mo 4)) rfl dX5_divide_199 lk20 ?_
                        refine lv_iload hx hb dX5_divide_202 (lv_at hl 1 rfl) ?_
                        refine lv_iload hx hb dX5_divide_204 (lv_at hl 0 rfl) ?_
                        refine lv_ldc (v := nI 16777215) hx hb hown (hts _ lk70) dX5_divide_206 ?_
                        refine bd_iand (v := (nI (((R3 i : Int) - (Fo rb i : Int) + cz) % 16777216).toNat)) hx hb dX5_divide_208 (i_msZ _) ?_
                        refine md_st4 C hw hm (r := i) (x := ((((R3 i : Int) - (Fo rb i : Int) + cz) % 16777216).toNat)) dX5_divide_209 (by omega) (fun E H locs hm hw => ?_)
                        refine lv_iload hx hb dX5_divide_210 (lv_at hl 0 rfl) ?_
                        refine lv_bipush (v := nI 24) hx hb dX5_divide_212 (by decide) ?_
                        refine bd_ishr (v := (iZ (((R3 i : Int) - (Fo rb i : Int) + cz) / 16777216))) hx hb dX5_divide_214 (i_sh24 (by omega) (by omega)) ?_
                        refine lv_istore (lv' := [(8, .int (iZ (((R3 i : Int) - (Fo rb i : Int) + cz) / 16777216))), (10, .int (iZ ((R3 i : Int) - (Fo rb i : Int) + cz))), (9, .int (nI i)), (5, .int (nI j)), (0, .ref (mo 0)), (1, .int (nI t)), (2, .int (nI ra)), (3, .int (nI rb))]) hx hb dX5_divide_215 hl (by decide) rfl (fun ls hl => ?_)
                        refine lv_iinc (v := (nI (i + 1))) (lv' := [(9, .int (nI (i + 1))), (8, .int (iZ (((R3 i : Int) - (Fo rb i : Int) + cz) / 16777216))), (10, .int (iZ ((R3 i : Int) - (Fo rb i : Int) + cz))), (5, .int (nI j)), (0, .ref (mo 0)), (1, .int (nI t)), (2, .int (nI ra)), (3, .int (nI rb))]) hx hb dX5_divide_217 hl (k := 2) rfl (nI_1 _) (by decide) rfl (fun ls hl => ?_)
                        refine lv_goto (tgt := 171) hx hb dX5_divide_220 (by decide) ?_
                        exact ih5 (d7 - 1) (by omega) (i + 1) _ (((R3 i : Int) - (Fo rb i : Int) + cz) / 16777216) E ls H locs (by omega) hm (up_b9 hR3 (by omega)) (up_g hRg3) (by omega) (sm_st (V := ((R3 i : Int) - (Fo rb i : Int) + cz)) hsum (by rw [← hRg3 i (Nat.le_refl _)]; omega)) (lv_sub hl [0, 1, 3, 4, 5, 6, 7] rfl) hw
                · refine lv_aload_n hx hb dX5_divide_125 rfl (lv_at hl 2 rfl) ?_
                  refine md_g C i5 hw hm 6 (by decide) (v := .ref (mo 4)) rfl dX5_divide_126 lk20 ?_
                  refine lv_iload hx hb dX5_divide_129 (lv_at hl 0 rfl) ?_
                  refine md_ld4 C hw hm dX5_divide_131 (by omega) ?_
                  refine lv_aload_n hx hb dX5_divide_132 rfl (lv_at hl 2 rfl) ?_
                  refine lv_iload_n hx hb dX5_divide_133 rfl (lv_at hl 5 rfl) ?_
                  refine lv_iload hx hb dX5_divide_134 (lv_at hl 0 rfl) ?_
                  refine bd_cip (As := [.int (nI rb), .int (nI k)]) (rest := [.int (nI (R2 k))]) C (m5_at _ _ _ _ _ hm rb k (by omega) (by omega)) (cwV 2 hts gX5_divide_X5_at rfl rfl rfl (by decide +kernel) ⟨Nat.le_of_ble_eq_true rfl, Nat.le_of_ble_eq_true rfl⟩) hsz hw (md_recv C hw hm) dX5_divide_136 rfl hl.1 rfl (Nat.le_of_ble_eq_true rfl) ⟨Nat.le_refl _, Nat.le_refl _⟩ (fun H locs hw => ?_)
                  rw [va_up_ne Fo f1 (show rb ≠ t from fun q => htb q.symm)]
                  refine bd_ine (h1 := (Nat.lt_of_lt_of_le (hR2 k (by omega)) (by decide))) (h2 := (Nat.lt_of_lt_of_le (hFb k (by omega)) (by decide))) (tgt := 148) hx hb dX5_divide_139 (by decide) (fun hc139 => ?_) (fun hc139 => ?_)
                  · have h3 := c3_top hR2 hFb hk heq (Or.inr hc139)
                    refine lv_aload_n hx hb dX5_divide_148 rfl (lv_at hl 2 rfl) ?_
                    refine md_g C i5 hw hm 6 (by decide) (v := .ref (mo 4)) rfl dX5_divide_149 lk20 ?_
                    refine lv_iload hx hb dX5_divide_152 (lv_at hl 0 rfl) ?_
                    refine md_ld4 C hw hm dX5_divide_154 (by omega) ?_
                    refine lv_aload_n hx hb dX5_divide_155 rfl (lv_at hl 2 rfl) ?_
                    refine lv_iload_n hx hb dX5_divide_156 rfl (lv_at hl 5 rfl) ?_
                    refine lv_iload hx hb dX5_divide_157 (lv_at hl 0 rfl) ?_
                    refine bd_cip (As := [.int (nI rb), .int (nI k)]) (rest := [.int (nI (R2 k))]) C (m5_at _ _ _ _ _ hm rb k (by omega) (by omega)) (cwV 2 hts gX5_divide_X5_at rfl rfl rfl (by decide +kernel) ⟨Nat.le_of_ble_eq_true rfl, Nat.le_of_ble_eq_true rfl⟩) hsz hw (md_recv C hw hm) dX5_divide_159 rfl hl.1 rfl (Nat.le_of_ble_eq_true rfl) ⟨Nat.le_refl _, Nat.le_refl _⟩ (fun H locs hw => ?_)
                    rw [va_up_ne Fo f1 (show rb ≠ t from fun q => htb q.symm)]
                    refine bd_ilt (h1 := (Nat.lt_of_lt_of_le (hR2 k (by omega)) (by decide))) (h2 := (Nat.lt_of_lt_of_le (hFb k (by omega)) (by decide))) (tgt := 248) hx hb dX5_divide_162 (by decide) (fun hc162 => ?_) (fun hc162 => ?_)
                    · have hlt9 : h_s R2 34 < h_s (Fo rb) 34 := q_c3_l (by rw [h3, q_c3_lt hc162]; decide)
                      obtain ⟨hq1, hq2⟩ := dv_lt (X := h_s (Fo ra) 34) (j := j) (b := h_s (Fo rb) 34) hN hlt9
                      refine lv_iinc (v := (nI j - nI 1)) (lv' := [(5, .int (nI j - nI 1)), (7, .int (nI k)), (0, .ref (mo 0)), (1, .int (nI t)), (2, .int (nI ra)), (3, .int (nI rb))]) hx hb dX5_divide_248 hl (k := 1) rfl (bd_dec _) (by decide) rfl (fun ls hl => ?_)
                      refine lv_goto (tgt := 42) hx hb dX5_divide_251 (by decide) ?_
                      exact ih2 j (by omega) _ _ E ls H locs (by omega) hm (fun m hm9 => by rw [hX m hm9, hq1]) hq2 hR2 (lv_sub hl [0, 2, 3, 4, 5] rfl) hw
                    · have hge9 : h_s (Fo rb) 34 ≤ h_s R2 34 := q_c3_ge (by rw [h3]; exact c3_nl hc162)
                      obtain ⟨hq1, hq2⟩ := dv_ge (X := h_s (Fo ra) 34) (j := j) (b := h_s (Fo rb) 34) hbp hN hge9
                      have hf24 : f1 (j / 24) < 16777216 := by rw [hX _ (by omega)]; exact Nat.mod_lt _ (by decide)
                      have hp24 : 2 ^ (j % 24) < 16777216 := Nat.lt_of_lt_of_le (Nat.pow_lt_pow_right (by decide) (Nat.mod_lt j (by decide : 24 > 0))) (by decide)
                      refine lv_iconst (v := nI 0) hx hb dX5_divide_165 (by decide) ?_
                      refine lv_istore (lv' := [(8, .int (nI 0)), (7, .int (nI k)), (5, .int (nI j)), (0, .ref (mo 0)), (1, .int (nI t)), (2, .int (nI ra)), (3, .int (nI rb))]) hx hb dX5_divide_166 hl (by decide) rfl (fun ls hl => ?_)
                      refine lv_iconst (v := nI 0) hx hb dX5_divide_168 (by decide) ?_
                      refine lv_istore (lv' := [(9, .int (nI 0)), (8, .int (nI 0)), (7, .int (nI k)), (5, .int (nI j)), (0, .ref (mo 0)), (1, .int (nI t)), (2, .int (nI ra)), (3, .int (nI rb))]) hx hb dX5_divide_169 hl (by decide) rfl (fun ls hl => ?_)
                      suffices hloop : ∀ (d7 i : Nat) (R3 : Nat → Nat) (cz : Int) (E : Nat → va_E) (ls : Array Slot) (H : Heap) (locs : List Loc), i + d7 = 34 → md_at K E mo th P (va_up Fo t f1) (va_up Go t 0) So R3 → (∀ m, m < 34 → R3 m < 16777216) → (∀ m, i ≤ m → R3 m = R2 m) → (-1 ≤ cz ∧ cz ≤ 1) → ((h_s R3 i : Int) + cz * ((16777216 ^ i : Nat) : Int) = (h_s R2 i : Int) + (-1) * (h_s (Fo rb) i : Int)) → lv_has ls 11 [(9, .int (nI i)), (8, .int (iZ cz)), (5, .int (nI j)), (0, .ref (mo 0)), (1, .int (nI t)), (2, .int (nI ra)), (3, .int (nI rb))] → bd_W K E z (bd_A K sz) s.heap H locs → W p l e (headSpec wsX5_divide ({ frames := 5, cells := 0, slots := 0, locals := 160 })).room s m [.ref (mo 0), .int (nI t), .int (nI ra), .int (nI rb)].toArray below meth c H locs 0 0 (MQ below (va_Qv (fun u => ∃ rg : Nat → Int, md_v K u.1 mo th P rg ∧ rg t = rg0 ra / rg0 rb ∧ ∀ j, j ≠ t → j ≠ 32 → rg j = rg0 j) (bd_B K) (bd_A K sz)) [.ref (mo 0), .int (nI t), .int (nI ra), .int (nI rb)].toArray s 0 0 (bd_A K sz)) (F0 m 171 ls []) from hloop 34 0 R2 0 E ls _ _ (by omega) hm hR2 (fun _ _ => rfl) (by omega) (by simp [h_s]) (lv_sub hl [0, 1, 3, 4, 5, 6, 7] rfl) hw
                      clear hw hl ls hm 
                      intro d7
                      induction d7 using Nat.strongRecOn with
                      | ind d7 ih5 =>
                        intro i R3 cz E ls H locs hjd7 hm hR3 hRg3 hcz hsum hl hw
                        refine lv_iload hx hb dX5_divide_171 (lv_at hl 0 rfl) ?_
                        refine lv_bipush (v := nI 34) hx hb dX5_divide_173 (by decide) ?_
                        refine bd_ige (h1 := (by omega)) (h2 := (by omega)) (tgt := 223) hx hb dX5_divide_175 (by decide) (fun hc175 => ?_) (fun hc175 => ?_)
                        · have hi34b : i = 34 := by omega
                          rw [hi34b] at hsum
                          have hR3v : h_s R3 34 = h_s R2 34 - h_s (Fo rb) 34 := sm_end hcz (h_lt hR3) (Nat.lt_of_le_of_lt (Nat.sub_le _ _) (h_lt hR2)) hsum (by omega)
                          refine lv_aload_n hx hb dX5_divide_223 rfl (lv_at hl 3 rfl) ?_
                          refine md_g C i5 hw hm 3 (by decide) (v := .ref (mo 1)) rfl dX5_divide_224 lk7 ?_
                          refine lv_bipush (v := nI 34) hx hb dX5_divide_227 (by decide) ?_
                          refine lv_iload_n hx hb dX5_divide_229 rfl (lv_at hl 4 rfl) ?_
                          refine bd_imul (v := nI (34 * t)) hx hb dX5_divide_230 (nI_mul _ _) ?_
                          refine lv_iload hx hb dX5_divide_231 (lv_at hl 2 rfl) ?_
                          refine lv_bipush (v := nI 24) hx hb dX5_divide_233 (by decide) ?_
                          refine bd_idiv (v := (nI (j / 24))) hx hb dX5_divide_235 (by decide) (pk_div (by omega) (by decide) (by decide)) ?_
                          refine bd_iadd (v := nI (34 * t + j / 24)) hx hb dX5_divide_236 (nI_add _ _) ?_
                          refine lv_dup2_11 hx hb dX5_divide_237 rfl rfl ?_
                          refine md_ld1 C hw hm (r := t) (k := j / 24) dX5_divide_238 (by omega) (by omega) ?_
                          rw [va_up_self]
                          refine lv_iconst (v := nI 1) hx hb dX5_divide_239 (by decide) ?_
                          refine lv_iload hx hb dX5_divide_240 (lv_at hl 2 rfl) ?_
                          refine lv_bipush (v := nI 24) hx hb dX5_divide_242 (by decide) ?_
                          refine bd_irem (v := (nI (j % 24))) hx hb dX5_divide_244 (by decide) (pk_rem (by omega) (by decide) (by decide)) ?_
                          refine bd_ishl (v := (nI (2 ^ (j % 24)))) hx hb dX5_divide_245 ((i_shl 1 (by omega)).trans (congrArg nI (Nat.one_mul _))) ?_
                          refine bd_ior (v := (nI (f1 (j / 24) ||| 2 ^ (j % 24)))) hx hb dX5_divide_246 (i_or (Nat.lt_of_lt_of_le hf24 (by decide)) (Nat.lt_of_lt_of_le hp24 (by decide))) ?_
                          refine md_st1u C hw (r := t) (k := j / 24) (x := f1 (j / 24) ||| 2 ^ (j % 24)) hm dX5_divide_247 (by omega) (by omega) (fun E H locs hm hw => ?_)
                          refine lv_iinc (v := (nI j - nI 1)) (lv' := [(5, .int (nI j - nI 1)), (9, .int (nI i)), (8, .int (iZ cz)), (0, .ref (mo 0)), (1, .int (nI t)), (2, .int (nI ra)), (3, .int (nI rb))]) hx hb dX5_divide_248 hl (k := 2) rfl (bd_dec _) (by decide) rfl (fun ls hl => ?_)
                          refine lv_goto (tgt := 42) hx hb dX5_divide_251 (by decide) ?_
                          exact ih2 j (by omega) _ _ E ls H locs (by omega) hm (dv_or hX (by omega) hq1) (hR3v.trans hq2) hR3 (lv_sub hl [0, 3, 4, 5, 6] rfl) hw
                        · have hx1 := hR3 i (by omega)
                          have hx2 := hFb i (by omega)
                          refine lv_aload_n hx hb dX5_divide_178 rfl (lv_at hl 3 rfl) ?_
                          refine md_g C i5 hw hm 6 (by decide) (v := .ref (mo 4)) rfl dX5_divide_179 lk20 ?_
                          refine lv_iload hx hb dX5_divide_182 (lv_at hl 0 rfl) ?_
                          refine md_ld4 C hw hm dX5_divide_184 (by omega) ?_
                          refine lv_aload_n hx hb dX5_divide_185 rfl (lv_at hl 3 rfl) ?_
                          refine lv_iload_n hx hb dX5_divide_186 rfl (lv_at hl 6 rfl) ?_
                          refine lv_iload hx hb dX5_divide_187 (lv_at hl 0 rfl) ?_
                          refine bd_cip (As := [.int (nI rb), .int (nI i)]) (rest := [.int (nI (R3 i))]) C (m5_at _ _ _ _ _ hm rb i (by omega) (by omega)) (cwV 2 hts gX5_divide_X5_at rfl rfl rfl (by decide +kernel) ⟨Nat.le_of_ble_eq_true rfl, Nat.le_of_ble_eq_true rfl⟩) hsz hw (md_recv C hw hm) dX5_divide_189 rfl hl.1 rfl (Nat.le_of_ble_eq_true rfl) ⟨Nat.le_refl _, Nat.le_refl _⟩ (fun H locs hw => ?_)
                          rw [va_up_ne Fo f1 (show rb ≠ t from fun q => htb q.symm)]
                          refine bd_isub (v := (iZ ((R3 i : Int) - (Fo rb i : Int)))) hx hb dX5_divide_192 (iZ_sub _ _) ?_
                          refine lv_iload hx hb dX5_divide_193 (lv_at hl 1 rfl) ?_
                          refine bd_iadd (v := (iZ ((R3 i : Int) - (Fo rb i : Int) + cz))) hx hb dX5_divide_195 (iZ_add _ _) ?_
                          refine lv_istore (lv' := [(10, .int (iZ ((R3 i : Int) - (Fo rb i : Int) + cz))), (9, .int (nI i)), (8, .int (iZ cz)), (5, .int (nI j)), (0, .ref (mo 0)), (1, .int (nI t)), (2, .int (nI ra)), (3, .int (nI rb))]) hx hb dX5_divide_196 hl (by decide) rfl (fun ls hl => ?_)
                          refine lv_aload_n hx hb dX5_divide_198 rfl (lv_at hl 4 rfl) ?_
                          refine md_g C i5 hw hm 6 (by decide) (v := .ref (mo 4)) rfl dX5_divide_199 lk20 ?_
                          refine lv_iload hx hb dX5_divide_202 (lv_at hl 1 rfl) ?_
                          refine lv_iload hx hb dX5_divide_204 (lv_at hl 0 rfl) ?_
                          refine lv_ldc (v := nI 16777215) hx hb hown (hts _ lk70) dX5_divide_206 ?_
                          refine bd_iand (v := (nI (((R3 i : Int) - (Fo rb i : Int) + cz) % 16777216).toNat)) hx hb dX5_divide_208 (i_msZ _) ?_
                          refine md_st4 C hw hm (r := i) (x := ((((R3 i : Int) - (Fo rb i : Int) + cz) % 16777216).toNat)) dX5_divide_209 (by omega) (fun E H locs hm hw => ?_)
                          refine lv_iload hx hb dX5_divide_210 (lv_at hl 0 rfl) ?_
                          refine lv_bipush (v := nI 24) hx hb dX5_divide_212 (by decide) ?_
                          refine bd_ishr (v := (iZ (((R3 i : Int) - (Fo rb i : Int) + cz) / 16777216))) hx hb dX5_divide_214 (i_sh24 (by omega) (by omega)) ?_
                          refine lv_istore (lv' := [(8, .int (iZ (((R3 i : Int) - (Fo rb i : Int) + cz) / 16777216))), (10, .int (iZ ((R3 i : Int) - (Fo rb i : Int) + cz))), (9, .int (nI i)), (5, .int (nI j)), (0, .ref (mo 0)), (1, .int (nI t)), (2, .int (nI ra)), (3, .int (nI rb))]) hx hb dX5_divide_215 hl (by decide) rfl (fun ls hl => ?_)
                          refine lv_iinc (v := (nI (i + 1))) (lv' := [(9, .int (nI (i + 1))), (8, .int (iZ (((R3 i : Int) - (Fo rb i : Int) + cz) / 16777216))), (10, .int (iZ ((R3 i : Int) - (Fo rb i : Int) + cz))), (5, .int (nI j)), (0, .ref (mo 0)), (1, .int (nI t)), (2, .int (nI ra)), (3, .int (nI rb))]) hx hb dX5_divide_217 hl (k := 2) rfl (nI_1 _) (by decide) rfl (fun ls hl => ?_)
                          refine lv_goto (tgt := 171) hx hb dX5_divide_220 (by decide) ?_
                          exact ih5 (d7 - 1) (by omega) (i + 1) _ (((R3 i : Int) - (Fo rb i : Int) + cz) / 16777216) E ls H locs (by omega) hm (up_b9 hR3 (by omega)) (up_g hRg3) (by omega) (sm_st (V := ((R3 i : Int) - (Fo rb i : Int) + cz)) hsum (by rw [← hRg3 i (Nat.le_refl _)]; omega)) (lv_sub hl [0, 1, 3, 4, 5, 6, 7] rfl) hw
                  · refine lv_iinc (v := (nI (k - 1))) (lv' := [(7, .int (nI (k - 1))), (5, .int (nI j)), (0, .ref (mo 0)), (1, .int (nI t)), (2, .int (nI ra)), (3, .int (nI rb))]) hx hb dX5_divide_142 hl (k := 0) rfl ((bd_dec _).trans (bd_sub1 hc122)) (by decide) rfl (fun ls hl => ?_)
                    refine lv_goto (tgt := 120) hx hb dX5_divide_145 (by decide) ?_
                    exact ih4 (k - 1) (by omega) ls H locs (by omega) (fun m h1 h2 => (Nat.lt_or_ge k m).elim (fun q => heq m q h2) (fun q => by rw [show m = k by omega]; exact hc139)) (lv_sub hl [0, 1, 2, 3, 4, 5] rfl) hw
            · have hRb := hR2 i (by omega)
              have hRe := hRg i (Nat.le_refl _)
              refine lv_aload_n hx hb dX5_divide_77 rfl (lv_at hl 3 rfl) ?_
              refine md_g C i5 hw hm 6 (by decide) (v := .ref (mo 4)) rfl dX5_divide_78 lk20 ?_
              refine lv_iload hx hb dX5_divide_81 (lv_at hl 0 rfl) ?_
              refine md_ld4 C hw hm dX5_divide_83 (by omega) ?_
              refine lv_iconst (v := nI 1) hx hb dX5_divide_84 (by decide) ?_
              refine bd_ishl (v := (nI (R2 i * 2 ^ 1))) hx hb dX5_divide_85 (i_shl _ (by decide)) ?_
              refine lv_iload hx hb dX5_divide_86 (lv_at hl 1 rfl) ?_
              refine bd_ior (v := (nI (R2 i * 2 ^ 1 + cy))) hx hb dX5_divide_88 ((i_or (by omega) (by omega)).trans (congrArg nI (i_ora (by omega)))) ?_
              refine lv_istore (lv' := [(8, .int (nI (R2 i * 2 ^ 1 + cy))), (7, .int (nI i)), (6, .int (nI cy)), (5, .int (nI j)), (0, .ref (mo 0)), (1, .int (nI t)), (2, .int (nI ra)), (3, .int (nI rb))]) hx hb dX5_divide_89 hl (by decide) rfl (fun ls hl => ?_)
              refine lv_aload_n hx hb dX5_divide_91 rfl (lv_at hl 4 rfl) ?_
              refine md_g C i5 hw hm 6 (by decide) (v := .ref (mo 4)) rfl dX5_divide_92 lk20 ?_
              refine lv_iload hx hb dX5_divide_95 (lv_at hl 1 rfl) ?_
              refine lv_iload hx hb dX5_divide_97 (lv_at hl 0 rfl) ?_
              refine lv_ldc (v := nI 16777215) hx hb hown (hts _ lk70) dX5_divide_99 ?_
              refine bd_iand (v := (nI ((R2 i * 2 ^ 1 + cy) % 16777216))) hx hb dX5_divide_101 (i_ms (by omega)) ?_
              refine md_st4 C hw hm (r := i) (x := ((R2 i * 2 ^ 1 + cy) % 16777216)) dX5_divide_102 (by omega) (fun E H locs hm hw => ?_)
              refine lv_iload hx hb dX5_divide_103 (lv_at hl 0 rfl) ?_
              refine lv_bipush (v := nI 24) hx hb dX5_divide_105 (by decide) ?_
              refine bd_ishr (v := (nI ((R2 i * 2 ^ 1 + cy) / 16777216))) hx hb dX5_divide_107 (i_shn (k := 24) (by omega) (by decide)) ?_
              refine lv_istore (lv' := [(6, .int (nI ((R2 i * 2 ^ 1 + cy) / 16777216))), (8, .int (nI (R2 i * 2 ^ 1 + cy))), (7, .int (nI i)), (5, .int (nI j)), (0, .ref (mo 0)), (1, .int (nI t)), (2, .int (nI ra)), (3, .int (nI rb))]) hx hb dX5_divide_108 hl (by decide) rfl (fun ls hl => ?_)
              refine lv_iinc (v := (nI (i + 1))) (lv' := [(7, .int (nI (i + 1))), (6, .int (nI ((R2 i * 2 ^ 1 + cy) / 16777216))), (8, .int (nI (R2 i * 2 ^ 1 + cy))), (5, .int (nI j)), (0, .ref (mo 0)), (1, .int (nI t)), (2, .int (nI ra)), (3, .int (nI rb))]) hx hb dX5_divide_110 hl (k := 2) rfl (nI_1 _) (by decide) rfl (fun ls hl => ?_)
              refine lv_goto (tgt := 70) hx hb dX5_divide_113 (by decide) ?_
              exact ih3 (d8 - 1) (by omega) (i + 1) _ _ E ls H locs (by omega) hm (up_b9 hR2 (Nat.mod_lt _ (by decide))) (up_g hRg) (by omega) (dv_sh hcs hRe) (lv_sub hl [0, 1, 3, 4, 5, 6, 7] rfl) hw
    · refine lv_aload_n hx hb dX5_divide_22 rfl (lv_at hl 2 rfl) ?_
      refine md_g C i5 hw hm 6 (by decide) (v := .ref (mo 4)) rfl dX5_divide_23 lk20 ?_
      refine lv_iload hx hb dX5_divide_26 (lv_at hl 0 rfl) ?_
      refine lv_iconst (v := nI 0) hx hb dX5_divide_28 (by decide) ?_
      refine md_st4 C hw hm (r := i) (x := 0) dX5_divide_29 (by omega) (fun E H locs hm hw => ?_)
      refine lv_iinc (v := (nI (i + 1))) (lv' := [(5, .int (nI (i + 1))), (4, .int (nI (q_bl (h_s (Fo ra) 34)))), (0, .ref (mo 0)), (1, .int (nI t)), (2, .int (nI ra)), (3, .int (nI rb))]) hx hb dX5_divide_30 hl (k := 0) rfl (nI_1 _) (by decide) rfl (fun ls hl => ?_)
      refine lv_goto (tgt := 15) hx hb dX5_divide_33 (by decide) ?_
      exact ih (d9 - 1) (by omega) (i + 1) _ E ls H locs (by omega) hm (up_s (T := fun _ y => y = 0) hf rfl) (lv_sub hl [0, 1, 2, 3, 4, 5] rfl) hw
