/-! the model's shifts and small division: numbers -/
theorem tb_d (X j i : Nat) : (X / 16777216 ^ j % 16777216).testBit i = (decide (i < 24) && X.testBit (24 * j + i)) := by
  rw [hP, show (16777216 : Nat) = 2 ^ 24 by decide, Nat.testBit_mod_two_pow, Nat.testBit_div_two_pow]
  rw [Nat.add_comm]
theorem tb_m (x k i : Nat) : (x * 2 ^ k).testBit i = (decide (k ≤ i) && x.testBit (i - k)) := by
  rw [Nat.mul_comm, Nat.testBit_two_pow_mul]
theorem i_msN (x : Nat) : nI x &&& nI 16777215 = nI (x % 16777216) := by
  have := i_msZ (x : Int)
  rw [iZ_nat] at this
  rw [this]
  congr 1
theorem i_m2 {a m : Nat} (ha : a < 2 ^ 32) (hm : m < 32) : nI a &&& nI (2 ^ m - 1) = nI (a % 2 ^ m) := by
  have h1 : 2 ^ m < 2 ^ 32 := Nat.pow_lt_pow_right (by decide) hm
  rw [i_and ha (by omega), Nat.and_two_pow_sub_one_eq_mod]
theorem iZ_s1 (a : Int) : iZ a - nI 1 = iZ (a - 1) := (Int32.ofInt_sub a 1).symm
theorem iz_lt {v : Int} (h1 : -2147483648 ≤ v) (h2 : v < 2147483648) : iZ v < 0 ↔ v < 0 := by
  rw [Int32.lt_iff_toInt_lt, iZ_toInt h1 h2]
  exact Iff.rfl
/-- a limb of A * 2^n -/
theorem up_c {A n j : Nat} (h : n / 24 + 1 ≤ j) : (A / 16777216 ^ (j - n / 24) % 16777216 * 2 ^ (n % 24)) % 16777216 ||| (A / 16777216 ^ (j - n / 24 - 1) % 16777216) / 2 ^ (24 - n % 24) = A * 2 ^ n / 16777216 ^ j % 16777216 := by
  apply Nat.eq_of_testBit_eq
  intro i
  rw [Nat.testBit_or, tb_d, show (16777216 : Nat) = 2 ^ 24 by decide, Nat.testBit_mod_two_pow, tb_m, Nat.testBit_div_two_pow, ← show (16777216 : Nat) = 2 ^ 24 by decide, tb_d, tb_d, tb_m]
  by_cases h1 : i < 24
  · by_cases h2 : n % 24 ≤ i
    · simp only [h1, h2, decide_true, Bool.true_and, show ¬ i + (24 - n % 24) < 24 by omega, decide_false, Bool.false_and, Bool.or_false, show i - n % 24 < 24 by omega, show n ≤ 24 * j + i by omega]
      congr 1
      omega
    · simp only [h1, h2, decide_true, Bool.true_and, show i + (24 - n % 24) < 24 by omega, decide_false, Bool.false_and, Bool.false_or, show n ≤ 24 * j + i by omega]
      congr 1
      omega
  · simp only [h1, decide_false, Bool.false_and, show ¬ i + (24 - n % 24) < 24 by omega, Bool.or_false]
theorem up_b {A n j : Nat} (h : j = n / 24) : (A / 16777216 ^ (j - n / 24) % 16777216 * 2 ^ (n % 24)) % 16777216 ||| 0 = A * 2 ^ n / 16777216 ^ j % 16777216 := by
  apply Nat.eq_of_testBit_eq
  intro i
  rw [Nat.testBit_or, tb_d, show (16777216 : Nat) = 2 ^ 24 by decide, Nat.testBit_mod_two_pow, tb_m, ← show (16777216 : Nat) = 2 ^ 24 by decide, tb_d, tb_m, Nat.zero_testBit, Bool.or_false]
  by_cases h1 : i < 24
  · by_cases h2 : n % 24 ≤ i
    · simp only [h1, h2, decide_true, Bool.true_and, show i - n % 24 < 24 by omega, show n ≤ 24 * j + i by omega]
      congr 1
      omega
    · simp only [h1, h2, decide_true, Bool.true_and, decide_false, Bool.false_and, show ¬ n ≤ 24 * j + i by omega]
  · simp only [h1, decide_false, Bool.false_and]
theorem up_z {A n j : Nat} (h : j < n / 24) : 0 ||| 0 = A * 2 ^ n / 16777216 ^ j % 16777216 := by
  apply Nat.eq_of_testBit_eq
  intro i
  rw [tb_d, tb_m, show (0 : Nat) ||| 0 = 0 from rfl, Nat.zero_testBit]
  by_cases h1 : i < 24
  · simp only [show ¬ n ≤ 24 * j + i by omega, decide_false, Bool.false_and, Bool.and_false]
  · simp only [h1, decide_false, Bool.false_and]
/-- a limb of A / 2^n -/
theorem dn_c {A n i : Nat} : (A / 16777216 ^ (i + n / 24) % 16777216) / 2 ^ (n % 24) ||| (A / 16777216 ^ (i + n / 24 + 1) % 16777216 * 2 ^ (24 - n % 24)) % 16777216 = A / 2 ^ n / 16777216 ^ i % 16777216 := by
  apply Nat.eq_of_testBit_eq
  intro b
  rw [Nat.testBit_or, tb_d, Nat.testBit_div_two_pow, Nat.testBit_div_two_pow, tb_d, show (16777216 : Nat) = 2 ^ 24 by decide, Nat.testBit_mod_two_pow, tb_m, ← show (16777216 : Nat) = 2 ^ 24 by decide, tb_d]
  by_cases h1 : b < 24
  · by_cases h2 : b + n % 24 < 24
    · simp only [h1, h2, decide_true, Bool.true_and, show ¬ 24 - n % 24 ≤ b by omega, decide_false, Bool.false_and, Bool.or_false]
      congr 1
      omega
    · simp only [h1, h2, decide_true, Bool.true_and, show 24 - n % 24 ≤ b by omega, decide_false, Bool.false_and, Bool.false_or, show b - (24 - n % 24) < 24 by omega]
      congr 1
      omega
  · simp only [h1, decide_false, Bool.false_and, show ¬ b + n % 24 < 24 by omega, Bool.or_false]
theorem h_hi {f : Nat → Nat} {m : Nat} (hf : ∀ j, j < 34 → f j < 16777216) (h : 34 ≤ m) : h_s f 34 / 16777216 ^ m % 16777216 = 0 := by
  rw [Nat.div_eq_of_lt (Nat.lt_of_lt_of_le (h_lt hf) (Nat.pow_le_pow_right (by decide) h))]
theorem dn_z {f : Nat → Nat} {n : Nat} (hf : ∀ j, j < 34 → f j < 16777216) (hn : n < 816) : h_s f 34 % 2 ^ n = 0 ↔ (∀ j, j < n / 24 → f j = 0) ∧ f (n / 24) % 2 ^ (n % 24) = 0 := by
  have e1 : 2 ^ n = 16777216 ^ (n / 24) * 2 ^ (n % 24) := by
    rw [hP, ← Nat.pow_add]
    congr 1
    omega
  have e2 : h_s f 34 % 16777216 ^ (n / 24) = h_s f (n / 24) := by
    rw [← h_of]
    exact h_cg (fun k hk => h_dig hf (by omega))
  have e3 : h_s f 34 / 16777216 ^ (n / 24) % 2 ^ (n % 24) = f (n / 24) % 2 ^ (n % 24) := by
    have hd := h_dig hf (k := n / 24) (by omega)
    rw [← hd, Nat.mod_mod_of_dvd]
    rw [show (16777216 : Nat) = 2 ^ 24 by decide]
    exact Nat.pow_dvd_pow 2 (by omega)
  rw [e1, Nat.mod_mul, e2, e3]
  have hB := hBp (n / 24)
  constructor
  · intro h
    have h1 : h_s f (n / 24) = 0 := by omega
    have h2 : 16777216 ^ (n / 24) * (f (n / 24) % 2 ^ (n % 24)) = 0 := by omega
    refine ⟨h_z.mp h1, ?_⟩
    rcases Nat.mul_eq_zero.mp h2 with q | q
    · omega
    · exact q
  · intro h
    rw [h_z.mpr h.1, h.2]
    rfl
def sv (x : Int) (m : Nat) : Int := if x < 0 then -(m : Int) else (m : Int)
theorem sv_abs (x : Int) (m : Nat) : (sv x m).natAbs = m := by
  unfold sv
  split <;> omega
theorem sv_sg {x : Int} {m : Nat} (hm : x = 0 → m = 0) : sv x m ≠ 0 → q_sg x = q_sg (sv x m) := by
  intro h
  unfold sv at h ⊢
  rcases sg3 x with ⟨a, b⟩ | ⟨a, b⟩ | ⟨a, b⟩
  · rw [if_pos a] at h ⊢
    rcases sg3 (-(m : Int)) with ⟨c, d⟩ | ⟨c, d⟩ | ⟨c, d⟩
    · rw [b, d]
    · exact absurd c h
    · exfalso; omega
  · rw [if_neg (by omega), hm a] at h
    exact absurd rfl h
  · rw [if_neg (by omega)] at h ⊢
    rcases sg3 (m : Int) with ⟨c, d⟩ | ⟨c, d⟩ | ⟨c, d⟩
    · exfalso; omega
    · exact absurd c h
    · rw [b, d]
theorem fl_1 {x : Int} {D : Nat} (h : 0 ≤ x) : sv x (x.natAbs / D) = x / (D : Int) := by
  unfold sv
  rw [if_neg (by omega), Int.natCast_ediv, show ((x.natAbs : Nat) : Int) = x by omega]
theorem fl_23 {x : Int} {D : Nat} (hD : 0 < D) (h : x < 0) : sv x (x.natAbs / D) + (if x.natAbs % D = 0 then 0 else -1) = x / (D : Int) := by
  unfold sv
  rw [if_pos h]
  have e := Nat.div_add_mod x.natAbs D
  have hm := Nat.mod_lt x.natAbs hD
  generalize x.natAbs / D = q at *
  generalize hr : x.natAbs % D = r at *
  have e2 : (D : Int) * (q : Int) + (r : Int) = -x := by
    rw [← Int.natCast_mul, ← Int.natCast_add, e]
    omega
  have hD' : (0 : Int) < D := by omega
  by_cases h0 : r = 0
  · rw [if_pos h0]
    apply Int.le_antisymm
    · exact Int.le_ediv_of_mul_le hD' (by rw [Int.add_zero, Int.neg_mul, Int.mul_comm]; omega)
    · exact Int.lt_add_one_iff.mp (Int.ediv_lt_of_lt_mul hD' (by rw [Int.add_zero, Int.add_mul, Int.neg_mul, Int.mul_comm, Int.one_mul]; omega))
  · rw [if_neg h0]
    apply Int.le_antisymm
    · exact Int.le_ediv_of_mul_le hD' (by rw [Int.add_mul, Int.neg_mul, Int.mul_comm]; omega)
    · exact Int.lt_add_one_iff.mp (Int.ediv_lt_of_lt_mul hD' (by rw [show -(q : Int) + -1 + 1 = -(q : Int) by omega, Int.neg_mul, Int.mul_comm]; omega))
theorem fl_2 {x : Int} {D : Nat} (hD : 0 < D) (h : x < 0) (h0 : x.natAbs % D = 0) : sv x (x.natAbs / D) = x / (D : Int) := by
  have := fl_23 hD h
  rw [if_pos h0, Int.add_zero] at this
  exact this
theorem fl_3 {x : Int} {D : Nat} (hD : 0 < D) (h : x < 0) (h0 : ¬ x.natAbs % D = 0) : sv x (x.natAbs / D) + -1 = x / (D : Int) := by
  have := fl_23 hD h
  rw [if_neg h0] at this
  exact this
/-- a limb of A / b, by what is left -/
theorem ds_st {A b j : Nat} (hb : 0 < b) : (A / 16777216 ^ (j + 1) % b * 16777216 + A / 16777216 ^ j % 16777216) / b = A / b / 16777216 ^ j % 16777216 ∧ (A / 16777216 ^ (j + 1) % b * 16777216 + A / 16777216 ^ j % 16777216) % b = A / 16777216 ^ j % b := by
  have e1 : A / 16777216 ^ (j + 1) = A / 16777216 ^ j / 16777216 := by rw [Nat.pow_succ, Nat.div_div_eq_div_mul]
  have e2 : A / b / 16777216 ^ j = A / 16777216 ^ j / b := by rw [Nat.div_div_eq_div_mul, Nat.div_div_eq_div_mul, Nat.mul_comm]
  rw [e1, e2]
  generalize A / 16777216 ^ j = X
  have e3 : X = b * (16777216 * (X / 16777216 / b)) + (X / 16777216 % b * 16777216 + X % 16777216) := by
    have h1 := Nat.div_add_mod X 16777216
    have h2 := Nat.div_add_mod (X / 16777216) b
    have h3 : 16777216 * (b * (X / 16777216 / b)) = b * (16777216 * (X / 16777216 / b)) := by rw [← Nat.mul_assoc, Nat.mul_comm 16777216 b, Nat.mul_assoc]
    omega
  have hlt : (X / 16777216 % b * 16777216 + X % 16777216) / b < 16777216 := by
    apply Nat.div_lt_of_lt_mul
    have h1 := Nat.mod_lt (X / 16777216) hb
    have h2 : (X / 16777216 % b + 1) * 16777216 ≤ b * 16777216 := Nat.mul_le_mul_right _ h1
    omega
  constructor
  · conv => rhs; rw [e3, Nat.mul_add_div hb, Nat.mul_add_mod, Nat.mod_eq_of_lt hlt]
  · conv => rhs; rw [e3, Nat.mul_add_mod]
theorem up_dn {f1 : Nat → Nat} {g : Nat → Nat} {j x : Nat} (h : ∀ m, j + 1 ≤ m → m < 34 → f1 m = g m) (hx : x = g j) : ∀ m, j ≤ m → m < 34 → va_up f1 j x m = g m := fun m h1 h2 => by
  rcases Nat.eq_or_lt_of_le h1 with q | q
  · rw [← q, va_up_self]
    exact hx
  · rw [va_up_ne _ _ (by omega)]
    exact h m q h2
theorem sg_p2 (x : Int) (n : Nat) : q_sg x = q_sg (x * ((2 ^ n : Nat) : Int)) := by
  rw [← sg_mul, show q_sg ((2 ^ n : Nat) : Int) = 1 from (by rcases sg3 ((2 ^ n : Nat) : Int) with ⟨c, d⟩ | ⟨c, d⟩ | ⟨c, d⟩ <;> first | exact d | (exfalso; have := Nat.pow_pos (n := n) (show 0 < 2 by decide); omega)), Int32.mul_one]
theorem sg_ge {x : Int} (h : 0 ≤ q_sg x) : 0 ≤ x := by
  rcases sg3 x with ⟨a, b⟩ | ⟨a, b⟩ | ⟨a, b⟩
  · rw [b] at h
    exact absurd h (by decide)
  · omega
  · omega
theorem sg_nge {x : Int} (h : ¬ 0 ≤ q_sg x) : x < 0 := by
  rcases sg3 x with ⟨a, b⟩ | ⟨a, b⟩ | ⟨a, b⟩
  · exact a
  · rw [b] at h
    exact absurd (by decide) h
  · rw [b] at h
    exact absurd (by decide) h
theorem dn_0 (x y : Nat) : x ||| 0 = x ||| y * 2 ^ (24 - 0) % 16777216 := by
  rw [show y * 2 ^ (24 - 0) = y * 16777216 from rfl, Nat.mul_mod_left]
theorem fl_b {x : Int} {D : Nat} (h : x < 0) (hx : x.natAbs < 16777216 ^ 34) (hD : 0 < D) (h0 : ¬ x.natAbs % D = 0) : (sv x (x.natAbs / D) + (-1 : Int32).toInt).natAbs < 16777216 ^ 34 := by
  have hD1 : D ≠ 1 := fun q => h0 (by rw [q, Nat.mod_one])
  have h1 : x.natAbs / D < x.natAbs := Nat.div_lt_self (by omega) (by omega)
  unfold sv
  rw [if_pos h, show (-1 : Int32).toInt = -1 by decide]
  generalize x.natAbs / D = y at *
  generalize 16777216 ^ 34 = M at *
  omega
theorem ds_0 {f : Nat → Nat} {b : Nat} (hf : ∀ j, j < 34 → f j < 16777216) : h_s f 34 / 16777216 ^ 34 % b = 0 := by
  rw [Nat.div_eq_of_lt (h_lt hf), Nat.zero_mod]
/-! the model: up, down, divideSmall (laid by wip/gen/m_mod5.py) -/
set_option maxHeartbeats 4000000 in
set_option maxRecDepth 100000 in
/-- up(t, a, n) -/
theorem v5_up (l : Launch) (K : Cxt) (E0 : Nat → va_E) (z0 : Nat → Wh) (sz : Nat) {mo : Nat → Nat} {th : Int32} {P : Nat} {rg0 : Nat → Int} (hv : md_v K E0 mo th P rg0) (t ra n : Nat) (ht60 : t < 60) (ha60 : ra < 60) (hn : n < 816) (hfit : (rg0 ra).natAbs * 2 ^ n < 16777216 ^ 34) : Met l yX5_up wsX5_up ({ frames := 1, cells := 0, slots := 0, locals := 30 }) (va_Pc [.ref (mo 0), .int (nI t), .int (nI ra), .int (nI n)] (bd_P K E0 z0 sz)) (va_Qv (mv_q K mo th P rg0 t (rg0 ra * ((2 ^ n : Nat) : Int))) (bd_B K) (bd_A K sz)) 0 0 (bd_A K sz) := by
  refine bd_ofW (cc := cX5_up) (maxL := 10) (ret := none) (by decide) rfl (Nat.le_of_ble_eq_true rfl) ?_
  intro p e s m below meth c ls C hr hlk hsz hw hl
  have hx := C.1
  have hb := C.2.1
  have hown := C.2.2.2.1
  have hts := C.2.2.2.2.1
  have i5 : ∀ w ∈ wsX50, w ∈ wsX5_up := by decide +kernel
  have lk13 : Cond.fieldLink RX5 13 "BallDeskModel" "signs" "[I" ∈ wsX5_up := by decide +kernel
  have lk7 : Cond.fieldLink RX5 7 "BallDeskModel" "limbs" "[I" ∈ wsX5_up := by decide +kernel
  have lk70 : Cond.constant RX5 70 (16777215) ∈ wsX5_up := by decide +kernel
  have hl : lv_has ls 10 [(0, .ref (mo 0)), (1, .int (nI t)), (2, .int (nI ra)), (3, .int (nI n))] := hl
  obtain ⟨Fo, Go, So, Ro, hm, hrg⟩ := hv
  obtain ⟨hP1, hP2⟩ := md_P hm
  obtain ⟨hFa, hva, hga⟩ := hrg ra ha60
  rw [← hva] at hfit
  refine lv_iload_n hx hb dX5_up_0 rfl (lv_at hl 3 rfl) ?_
  refine lv_bipush (v := nI 24) hx hb dX5_up_1 (by decide) ?_
  refine bd_idiv (v := (nI (n / 24))) hx hb dX5_up_3 (by decide) (pk_div (by omega) (by decide) (by decide)) ?_
  refine lv_istore (lv' := [(4, .int (nI (n / 24))), (0, .ref (mo 0)), (1, .int (nI t)), (2, .int (nI ra)), (3, .int (nI n))]) hx hb dX5_up_4 hl (by decide) rfl (fun ls hl => ?_)
  refine lv_iload_n hx hb dX5_up_6 rfl (lv_at hl 4 rfl) ?_
  refine lv_bipush (v := nI 24) hx hb dX5_up_7 (by decide) ?_
  refine bd_irem (v := (nI (n % 24))) hx hb dX5_up_9 (by decide) (pk_rem (by omega) (by decide) (by decide)) ?_
  refine lv_istore (lv' := [(5, .int (nI (n % 24))), (4, .int (nI (n / 24))), (0, .ref (mo 0)), (1, .int (nI t)), (2, .int (nI ra)), (3, .int (nI n))]) hx hb dX5_up_10 hl (by decide) rfl (fun ls hl => ?_)
  refine lv_aload_n hx hb dX5_up_12 rfl (lv_at hl 2 rfl) ?_
  refine md_g C i5 hw hm 4 (by decide) (v := .ref (mo 2)) rfl dX5_up_13 lk13 ?_
  refine lv_iload_n hx hb dX5_up_16 rfl (lv_at hl 4 rfl) ?_
  refine md_ld2 C hw hm dX5_up_17 (by omega) ?_
  refine lv_istore (lv' := [(6, .int (Go ra)), (5, .int (nI (n % 24))), (4, .int (nI (n / 24))), (0, .ref (mo 0)), (1, .int (nI t)), (2, .int (nI ra)), (3, .int (nI n))]) hx hb dX5_up_18 hl (by decide) rfl (fun ls hl => ?_)
  refine lv_bipush (v := nI 33) hx hb dX5_up_20 (by decide) ?_
  refine lv_istore (lv' := [(7, .int (nI 33)), (6, .int (Go ra)), (5, .int (nI (n % 24))), (4, .int (nI (n / 24))), (0, .ref (mo 0)), (1, .int (nI t)), (2, .int (nI ra)), (3, .int (nI n))]) hx hb dX5_up_22 hl (by decide) rfl (fun ls hl => ?_)
  suffices hloop : ∀ (k : Nat) (f1 : Nat → Nat) (E : Nat → va_E) (ls : Array Slot) (H : Heap) (locs : List Loc), k ≤ 34 → md_at K E mo th P (va_up Fo t f1) Go So Ro → (∀ m, k ≤ m → m < 34 → f1 m = h_s (Fo ra) 34 * 2 ^ n / 16777216 ^ m % 16777216) → (∀ m, m < k → f1 m = Fo t m) → lv_has ls 10 [(7, .int (nI k - nI 1)), (4, .int (nI (n / 24))), (5, .int (nI (n % 24))), (6, .int (Go ra)), (0, .ref (mo 0)), (1, .int (nI t)), (2, .int (nI ra))] → bd_W K E z0 (bd_A K sz) s.heap H locs → W p l e (headSpec wsX5_up ({ frames := 1, cells := 0, slots := 0, locals := 30 })).room s m [.ref (mo 0), .int (nI t), .int (nI ra), .int (nI n)].toArray below meth c H locs 0 0 (MQ below (va_Qv (mv_q K mo th P rg0 t (rg0 ra * ((2 ^ n : Nat) : Int))) (bd_B K) (bd_A K sz)) [.ref (mo 0), .int (nI t), .int (nI ra), .int (nI n)].toArray s 0 0 (bd_A K sz)) (F0 m 24 ls []) from hloop 34 (Fo t) E0 ls _ _ (by omega) (by rw [va_upi]; exact hm) (fun m h1 h2 => absurd h1 (by omega)) (fun _ _ => rfl) (lv_sub hl [0, 3, 2, 1, 4, 5, 6] rfl) hw
  clear hw hl ls hm 
  intro k
  induction k using Nat.strongRecOn with
  | ind k ih =>
    intro f1 E ls H locs hk34 hm hD hg hl hw
    rcases k with _ | j
    · skip
      refine lv_iload hx hb dX5_up_24 (lv_at hl 0 rfl) ?_
      refine lv_if_lt (tgt := 121) hx hb dX5_up_26 (by decide) (fun hc26 => ?_) (fun hc26 => ?_)
      · refine lv_aload_n hx hb dX5_up_121 rfl (lv_at hl 4 rfl) ?_
        refine md_g C i5 hw hm 4 (by decide) (v := .ref (mo 2)) rfl dX5_up_122 lk13 ?_
        refine lv_iload_n hx hb dX5_up_125 rfl (lv_at hl 5 rfl) ?_
        refine lv_iload hx hb dX5_up_126 (lv_at hl 3 rfl) ?_
        refine md_st2 C hw hm (r := t) (x := (Go ra)) dX5_up_128 (by omega) (fun E H locs hm hw => ?_)
        have hs1 : h_s f1 34 = (rg0 ra * ((2 ^ n : Nat) : Int)).natAbs := by
          rw [Int.natAbs_mul, Int.natAbs_natCast, ← hva]
          exact h_ofd (fun m hm9 => hD m (Nat.zero_le _) hm9) hfit
        have hb1 : ∀ m, m < 34 → f1 m < 16777216 := fun m hm9 => by rw [hD m (Nat.zero_le _) hm9]; exact Nat.mod_lt _ (by decide)
        exact bd_vret C hr hlk hw dX5_up_129 (mv_end hm hrg hb1 hs1 (by rw [hga]; exact sg_p2 _ _))
      · exact absurd (by decide) hc26
    · rw [nI_p1] at hl
      refine lv_iload hx hb dX5_up_24 (lv_at hl 0 rfl) ?_
      refine bd_zlt (h1 := (by omega)) (tgt := 121) hx hb dX5_up_26 (by decide) ?_
      refine lv_iload hx hb dX5_up_29 (lv_at hl 0 rfl) ?_
      refine lv_iload hx hb dX5_up_31 (lv_at hl 1 rfl) ?_
      refine bd_isub (v := (iZ ((j : Int) - ((n / 24 : Nat) : Int)))) hx hb dX5_up_33 (iZ_sub _ _) ?_
      refine lv_if_lt (tgt := 56) hx hb dX5_up_34 (by decide) (fun hc34 => ?_) (fun hc34 => ?_)
      · have hjb : j < n / 24 := by have := (iz_lt (by omega) (by omega)).mp hc34; omega
        refine lv_iconst (v := nI 0) hx hb dX5_up_56 (by decide) ?_
        refine lv_istore (lv' := [(8, .int (nI 0)), (7, .int (nI j)), (4, .int (nI (n / 24))), (5, .int (nI (n % 24))), (6, .int (Go ra)), (0, .ref (mo 0)), (1, .int (nI t)), (2, .int (nI ra))]) hx hb dX5_up_57 hl (by decide) rfl (fun ls hl => ?_)
        refine lv_iload hx hb dX5_up_59 (lv_at hl 1 rfl) ?_
        refine lv_iload hx hb dX5_up_61 (lv_at hl 2 rfl) ?_
        refine bd_isub (v := (iZ ((j : Int) - ((n / 24 : Nat) : Int)))) hx hb dX5_up_63 (iZ_sub _ _) ?_
        refine lv_iconst (v := nI 1) hx hb dX5_up_64 (by decide) ?_
        refine bd_isub (v := (iZ ((j : Int) - ((n / 24 : Nat) : Int) - 1))) hx hb dX5_up_65 (iZ_s1 _) ?_
        refine lv_if_lt (tgt := 95) hx hb dX5_up_66 (by decide) (fun hc66 => ?_) (fun hc66 => ?_)
        · refine lv_iconst (v := nI 0) hx hb dX5_up_95 (by decide) ?_
          refine lv_istore (lv' := [(9, .int (nI 0)), (8, .int (nI 0)), (7, .int (nI j)), (4, .int (nI (n / 24))), (5, .int (nI (n % 24))), (6, .int (Go ra)), (0, .ref (mo 0)), (1, .int (nI t)), (2, .int (nI ra))]) hx hb dX5_up_96 hl (by decide) rfl (fun ls hl => ?_)
          refine lv_aload_n hx hb dX5_up_98 rfl (lv_at hl 6 rfl) ?_
          refine md_g C i5 hw hm 3 (by decide) (v := .ref (mo 1)) rfl dX5_up_99 lk7 ?_
          refine lv_bipush (v := nI 34) hx hb dX5_up_102 (by decide) ?_
          refine lv_iload_n hx hb dX5_up_104 rfl (lv_at hl 7 rfl) ?_
          refine bd_imul (v := nI (34 * t)) hx hb dX5_up_105 (nI_mul _ _) ?_
          refine lv_iload hx hb dX5_up_106 (lv_at hl 2 rfl) ?_
          refine bd_iadd (v := nI (34 * t + j)) hx hb dX5_up_108 (nI_add _ _) ?_
          refine lv_iload hx hb dX5_up_109 (lv_at hl 1 rfl) ?_
          refine lv_iload hx hb dX5_up_111 (lv_at hl 0 rfl) ?_
          refine bd_ior (v := nI (0 ||| 0)) hx hb dX5_up_113 (i_or (by decide) (by decide)) ?_
          refine md_st1u C hw (r := t) (k := j) (x := (0 ||| 0)) hm dX5_up_114 (by omega) (by omega) (fun E H locs hm hw => ?_)
          refine lv_iinc (v := (nI j - nI 1)) (lv' := [(7, .int (nI j - nI 1)), (9, .int (nI 0)), (8, .int (nI 0)), (4, .int (nI (n / 24))), (5, .int (nI (n % 24))), (6, .int (Go ra)), (0, .ref (mo 0)), (1, .int (nI t)), (2, .int (nI ra))]) hx hb dX5_up_115 hl (k := 2) rfl (bd_dec _) (by decide) rfl (fun ls hl => ?_)
          refine lv_goto (tgt := 24) hx hb dX5_up_118 (by decide) ?_
          exact ih j (by omega) _ E ls H locs (by omega) hm (fun m h1 h2 => up_dn hD ((up_z hjb)) m h1 h2) (fun m hm9 => by rw [va_up_ne _ _ (by omega)]; exact hg m (by omega)) (lv_sub hl [0, 3, 4, 5, 6, 7, 8] rfl) hw
        · exact absurd ((iz_lt (v := (j : Int) - ((n / 24 : Nat) : Int) - 1) (by omega) (by omega)).mpr (by omega)) hc66
      · have hjb : n / 24 ≤ j := by have := mt (iz_lt (by omega) (by omega)).mpr hc34; omega
        refine lv_aload_n hx hb dX5_up_37 rfl (lv_at hl 4 rfl) ?_
        refine lv_iload_n hx hb dX5_up_38 rfl (lv_at hl 6 rfl) ?_
        refine lv_iload hx hb dX5_up_39 (lv_at hl 0 rfl) ?_
        refine lv_iload hx hb dX5_up_41 (lv_at hl 1 rfl) ?_
        refine bd_isub (v := (nI (j - n / 24))) hx hb dX5_up_43 (pk_sub (by omega)) ?_
        refine bd_cip (As := [.int (nI ra), .int (nI (j - n / 24))]) (rest := []) C (m5_at _ _ _ _ _ hm ra (j - n / 24) (by omega) (by omega)) (cwV 2 hts gX5_up_X5_at rfl rfl rfl (by decide +kernel) ⟨Nat.le_of_ble_eq_true rfl, Nat.le_of_ble_eq_true rfl⟩) hsz hw (md_recv C hw hm) dX5_up_44 rfl hl.1 rfl (Nat.le_of_ble_eq_true rfl) ⟨Nat.le_refl _, Nat.le_refl _⟩ (fun H locs hw => ?_)
        rw [rd_k (F := Fo) (r := t) (a := ra) (k := j - n / 24) (fun q => by rw [q]; exact hg _ (by omega))]
        refine lv_iload hx hb dX5_up_47 (lv_at hl 2 rfl) ?_
        refine bd_ishl (v := (nI (Fo ra (j - n / 24) * 2 ^ (n % 24)))) hx hb dX5_up_49 (i_shl _ (by omega)) ?_
        refine lv_ldc (v := nI 16777215) hx hb hown (hts _ lk70) dX5_up_50 ?_
        refine bd_iand (v := (nI (Fo ra (j - n / 24) * 2 ^ (n % 24) % 16777216))) hx hb dX5_up_52 (i_msN _) ?_
        refine lv_goto (tgt := 57) hx hb dX5_up_53 (by decide) ?_
        refine lv_istore (lv' := [(8, .int (nI (Fo ra (j - n / 24) * 2 ^ (n % 24) % 16777216))), (7, .int (nI j)), (4, .int (nI (n / 24))), (5, .int (nI (n % 24))), (6, .int (Go ra)), (0, .ref (mo 0)), (1, .int (nI t)), (2, .int (nI ra))]) hx hb dX5_up_57 hl (by decide) rfl (fun ls hl => ?_)
        refine lv_iload hx hb dX5_up_59 (lv_at hl 1 rfl) ?_
        refine lv_iload hx hb dX5_up_61 (lv_at hl 2 rfl) ?_
        refine bd_isub (v := (iZ ((j : Int) - ((n / 24 : Nat) : Int)))) hx hb dX5_up_63 (iZ_sub _ _) ?_
        refine lv_iconst (v := nI 1) hx hb dX5_up_64 (by decide) ?_
        refine bd_isub (v := (iZ ((j : Int) - ((n / 24 : Nat) : Int) - 1))) hx hb dX5_up_65 (iZ_s1 _) ?_
        refine lv_if_lt (tgt := 95) hx hb dX5_up_66 (by decide) (fun hc66 => ?_) (fun hc66 => ?_)
        · have hjb2 : j = n / 24 := by have := (iz_lt (v := (j : Int) - ((n / 24 : Nat) : Int) - 1) (by omega) (by omega)).mp hc66; omega
          refine lv_iconst (v := nI 0) hx hb dX5_up_95 (by decide) ?_
          refine lv_istore (lv' := [(9, .int (nI 0)), (8, .int (nI (Fo ra (j - n / 24) * 2 ^ (n % 24) % 16777216))), (7, .int (nI j)), (4, .int (nI (n / 24))), (5, .int (nI (n % 24))), (6, .int (Go ra)), (0, .ref (mo 0)), (1, .int (nI t)), (2, .int (nI ra))]) hx hb dX5_up_96 hl (by decide) rfl (fun ls hl => ?_)
          refine lv_aload_n hx hb dX5_up_98 rfl (lv_at hl 6 rfl) ?_
          refine md_g C i5 hw hm 3 (by decide) (v := .ref (mo 1)) rfl dX5_up_99 lk7 ?_
          refine lv_bipush (v := nI 34) hx hb dX5_up_102 (by decide) ?_
          refine lv_iload_n hx hb dX5_up_104 rfl (lv_at hl 7 rfl) ?_
          refine bd_imul (v := nI (34 * t)) hx hb dX5_up_105 (nI_mul _ _) ?_
          refine lv_iload hx hb dX5_up_106 (lv_at hl 2 rfl) ?_
          refine bd_iadd (v := nI (34 * t + j)) hx hb dX5_up_108 (nI_add _ _) ?_
          refine lv_iload hx hb dX5_up_109 (lv_at hl 1 rfl) ?_
          refine lv_iload hx hb dX5_up_111 (lv_at hl 0 rfl) ?_
          refine bd_ior (v := nI ((Fo ra (j - n / 24) * 2 ^ (n % 24) % 16777216) ||| 0)) hx hb dX5_up_113 (i_or (Nat.lt_of_lt_of_le (Nat.mod_lt _ (by decide)) (by decide)) (by decide)) ?_
          refine md_st1u C hw (r := t) (k := j) (x := ((Fo ra (j - n / 24) * 2 ^ (n % 24) % 16777216) ||| 0)) hm dX5_up_114 (by omega) (by omega) (fun E H locs hm hw => ?_)
          refine lv_iinc (v := (nI j - nI 1)) (lv' := [(7, .int (nI j - nI 1)), (9, .int (nI 0)), (8, .int (nI (Fo ra (j - n / 24) * 2 ^ (n % 24) % 16777216))), (4, .int (nI (n / 24))), (5, .int (nI (n % 24))), (6, .int (Go ra)), (0, .ref (mo 0)), (1, .int (nI t)), (2, .int (nI ra))]) hx hb dX5_up_115 hl (k := 2) rfl (bd_dec _) (by decide) rfl (fun ls hl => ?_)
          refine lv_goto (tgt := 24) hx hb dX5_up_118 (by decide) ?_
          exact ih j (by omega) _ E ls H locs (by omega) hm (fun m h1 h2 => up_dn hD ((by rw [← h_dig hFa (k := j - n / 24) (by omega)]; exact up_b hjb2)) m h1 h2) (fun m hm9 => by rw [va_up_ne _ _ (by omega)]; exact hg m (by omega)) (lv_sub hl [0, 3, 4, 5, 6, 7, 8] rfl) hw
        · have hjb2 : n / 24 + 1 ≤ j := by have := mt (iz_lt (v := (j : Int) - ((n / 24 : Nat) : Int) - 1) (by omega) (by omega)).mpr hc66; omega
          refine lv_iload hx hb dX5_up_69 (lv_at hl 3 rfl) ?_
          refine bd_zle (h1 := (by omega)) (tgt := 95) hx hb dX5_up_71 (by decide) (fun hc71 => ?_) (fun hc71 => ?_)
          · refine lv_iconst (v := nI 0) hx hb dX5_up_95 (by decide) ?_
            refine lv_istore (lv' := [(9, .int (nI 0)), (8, .int (nI (Fo ra (j - n / 24) * 2 ^ (n % 24) % 16777216))), (7, .int (nI j)), (4, .int (nI (n / 24))), (5, .int (nI (n % 24))), (6, .int (Go ra)), (0, .ref (mo 0)), (1, .int (nI t)), (2, .int (nI ra))]) hx hb dX5_up_96 hl (by decide) rfl (fun ls hl => ?_)
            refine lv_aload_n hx hb dX5_up_98 rfl (lv_at hl 6 rfl) ?_
            refine md_g C i5 hw hm 3 (by decide) (v := .ref (mo 1)) rfl dX5_up_99 lk7 ?_
            refine lv_bipush (v := nI 34) hx hb dX5_up_102 (by decide) ?_
            refine lv_iload_n hx hb dX5_up_104 rfl (lv_at hl 7 rfl) ?_
            refine bd_imul (v := nI (34 * t)) hx hb dX5_up_105 (nI_mul _ _) ?_
            refine lv_iload hx hb dX5_up_106 (lv_at hl 2 rfl) ?_
            refine bd_iadd (v := nI (34 * t + j)) hx hb dX5_up_108 (nI_add _ _) ?_
            refine lv_iload hx hb dX5_up_109 (lv_at hl 1 rfl) ?_
            refine lv_iload hx hb dX5_up_111 (lv_at hl 0 rfl) ?_
            refine bd_ior (v := nI ((Fo ra (j - n / 24) * 2 ^ (n % 24) % 16777216) ||| 0)) hx hb dX5_up_113 (i_or (Nat.lt_of_lt_of_le (Nat.mod_lt _ (by decide)) (by decide)) (by decide)) ?_
            refine md_st1u C hw (r := t) (k := j) (x := ((Fo ra (j - n / 24) * 2 ^ (n % 24) % 16777216) ||| 0)) hm dX5_up_114 (by omega) (by omega) (fun E H locs hm hw => ?_)
            refine lv_iinc (v := (nI j - nI 1)) (lv' := [(7, .int (nI j - nI 1)), (9, .int (nI 0)), (8, .int (nI (Fo ra (j - n / 24) * 2 ^ (n % 24) % 16777216))), (4, .int (nI (n / 24))), (5, .int (nI (n % 24))), (6, .int (Go ra)), (0, .ref (mo 0)), (1, .int (nI t)), (2, .int (nI ra))]) hx hb dX5_up_115 hl (k := 2) rfl (bd_dec _) (by decide) rfl (fun ls hl => ?_)
            refine lv_goto (tgt := 24) hx hb dX5_up_118 (by decide) ?_
            exact ih j (by omega) _ E ls H locs (by omega) hm (fun m h1 h2 => up_dn hD ((by have h9 := up_c (A := h_s (Fo ra) 34) hjb2; rw [h_dig hFa (by omega), h_dig hFa (by omega), hc71, Nat.div_eq_of_lt (hFa (j - n / 24 - 1) (by omega))] at h9; rw [hc71]; exact h9)) m h1 h2) (fun m hm9 => by rw [va_up_ne _ _ (by omega)]; exact hg m (by omega)) (lv_sub hl [0, 3, 4, 5, 6, 7, 8] rfl) hw
          · refine lv_aload_n hx hb dX5_up_74 rfl (lv_at hl 5 rfl) ?_
            refine lv_iload_n hx hb dX5_up_75 rfl (lv_at hl 7 rfl) ?_
            refine lv_iload hx hb dX5_up_76 (lv_at hl 1 rfl) ?_
            refine lv_iload hx hb dX5_up_78 (lv_at hl 2 rfl) ?_
            refine bd_isub (v := (nI (j - n / 24))) hx hb dX5_up_80 (pk_sub (by omega)) ?_
            refine lv_iconst (v := nI 1) hx hb dX5_up_81 (by decide) ?_
            refine bd_isub (v := (nI (j - n / 24 - 1))) hx hb dX5_up_82 (pk_sub (by omega)) ?_
            refine bd_cip (As := [.int (nI ra), .int (nI (j - n / 24 - 1))]) (rest := []) C (m5_at _ _ _ _ _ hm ra (j - n / 24 - 1) (by omega) (by omega)) (cwV 2 hts gX5_up_X5_at rfl rfl rfl (by decide +kernel) ⟨Nat.le_of_ble_eq_true rfl, Nat.le_of_ble_eq_true rfl⟩) hsz hw (md_recv C hw hm) dX5_up_83 rfl hl.1 rfl (Nat.le_of_ble_eq_true rfl) ⟨Nat.le_refl _, Nat.le_refl _⟩ (fun H locs hw => ?_)
            rw [rd_k (F := Fo) (r := t) (a := ra) (k := j - n / 24 - 1) (fun q => by rw [q]; exact hg _ (by omega))]
            refine lv_bipush (v := nI 24) hx hb dX5_up_86 (by decide) ?_
            refine lv_iload hx hb dX5_up_88 (lv_at hl 3 rfl) ?_
            refine bd_isub (v := (nI (24 - n % 24))) hx hb dX5_up_90 (pk_sub (by omega)) ?_
            refine bd_ishr (v := (nI (Fo ra (j - n / 24 - 1) / 2 ^ (24 - n % 24)))) hx hb dX5_up_91 (i_shn (Nat.lt_of_lt_of_le (hFa _ (by omega)) (by decide)) (by omega)) ?_
            refine lv_goto (tgt := 96) hx hb dX5_up_92 (by decide) ?_
            refine lv_istore (lv' := [(9, .int (nI (Fo ra (j - n / 24 - 1) / 2 ^ (24 - n % 24)))), (8, .int (nI (Fo ra (j - n / 24) * 2 ^ (n % 24) % 16777216))), (7, .int (nI j)), (4, .int (nI (n / 24))), (5, .int (nI (n % 24))), (6, .int (Go ra)), (0, .ref (mo 0)), (1, .int (nI t)), (2, .int (nI ra))]) hx hb dX5_up_96 hl (by decide) rfl (fun ls hl => ?_)
            refine lv_aload_n hx hb dX5_up_98 rfl (lv_at hl 6 rfl) ?_
            refine md_g C i5 hw hm 3 (by decide) (v := .ref (mo 1)) rfl dX5_up_99 lk7 ?_
            refine lv_bipush (v := nI 34) hx hb dX5_up_102 (by decide) ?_
            refine lv_iload_n hx hb dX5_up_104 rfl (lv_at hl 7 rfl) ?_
            refine bd_imul (v := nI (34 * t)) hx hb dX5_up_105 (nI_mul _ _) ?_
            refine lv_iload hx hb dX5_up_106 (lv_at hl 2 rfl) ?_
            refine bd_iadd (v := nI (34 * t + j)) hx hb dX5_up_108 (nI_add _ _) ?_
            refine lv_iload hx hb dX5_up_109 (lv_at hl 1 rfl) ?_
            refine lv_iload hx hb dX5_up_111 (lv_at hl 0 rfl) ?_
            refine bd_ior (v := nI ((Fo ra (j - n / 24) * 2 ^ (n % 24) % 16777216) ||| (Fo ra (j - n / 24 - 1) / 2 ^ (24 - n % 24)))) hx hb dX5_up_113 (i_or (Nat.lt_of_lt_of_le (Nat.mod_lt _ (by decide)) (by decide)) (Nat.lt_of_le_of_lt (Nat.div_le_self _ _) (Nat.lt_of_lt_of_le (hFa _ (by omega)) (by decide)))) ?_
            refine md_st1u C hw (r := t) (k := j) (x := ((Fo ra (j - n / 24) * 2 ^ (n % 24) % 16777216) ||| (Fo ra (j - n / 24 - 1) / 2 ^ (24 - n % 24)))) hm dX5_up_114 (by omega) (by omega) (fun E H locs hm hw => ?_)
            refine lv_iinc (v := (nI j - nI 1)) (lv' := [(7, .int (nI j - nI 1)), (9, .int (nI (Fo ra (j - n / 24 - 1) / 2 ^ (24 - n % 24)))), (8, .int (nI (Fo ra (j - n / 24) * 2 ^ (n % 24) % 16777216))), (4, .int (nI (n / 24))), (5, .int (nI (n % 24))), (6, .int (Go ra)), (0, .ref (mo 0)), (1, .int (nI t)), (2, .int (nI ra))]) hx hb dX5_up_115 hl (k := 2) rfl (bd_dec _) (by decide) rfl (fun ls hl => ?_)
            refine lv_goto (tgt := 24) hx hb dX5_up_118 (by decide) ?_
            exact ih j (by omega) _ E ls H locs (by omega) hm (fun m h1 h2 => up_dn hD ((by have h9 := up_c (A := h_s (Fo ra) 34) hjb2; rw [h_dig hFa (by omega), h_dig hFa (by omega)] at h9; exact h9)) m h1 h2) (fun m hm9 => by rw [va_up_ne _ _ (by omega)]; exact hg m (by omega)) (lv_sub hl [0, 3, 4, 5, 6, 7, 8] rfl) hw
set_option maxHeartbeats 4000000 in
set_option maxRecDepth 100000 in
/-- down(t, a, n) -/
theorem v5_down (l : Launch) (K : Cxt) (E0 : Nat → va_E) (z0 : Nat → Wh) (sz : Nat) {mo : Nat → Nat} {th : Int32} {P : Nat} {rg0 : Nat → Int} (hv : md_v K E0 mo th P rg0) (t ra n : Nat) (ht60 : t < 60) (ha60 : ra < 60) (ht32 : t ≠ 32) (hn : n < 816) : Met l yX5_down wsX5_down ({ frames := 5, cells := 0, slots := 0, locals := 160 }) (va_Pc [.ref (mo 0), .int (nI t), .int (nI ra), .int (nI n)] (bd_P K E0 z0 sz)) (va_Qv (fun u => ∃ rg : Nat → Int, md_v K u.1 mo th P rg ∧ rg t = rg0 ra / ((2 ^ n : Nat) : Int) ∧ ∀ j, j ≠ t → j ≠ 32 → rg j = rg0 j) (bd_B K) (bd_A K sz)) 0 0 (bd_A K sz) := by
  refine bd_ofW (cc := cX5_down) (maxL := 11) (ret := none) (by decide) rfl (Nat.le_of_ble_eq_true rfl) ?_
  intro p e s m below meth c ls C hr hlk hsz hw hl
  have hx := C.1
  have hb := C.2.1
  have hown := C.2.2.2.1
  have hts := C.2.2.2.2.1
  have i5 : ∀ w ∈ wsX50, w ∈ wsX5_down := by decide +kernel
  have lk13 : Cond.fieldLink RX5 13 "BallDeskModel" "signs" "[I" ∈ wsX5_down := by decide +kernel
  have lk7 : Cond.fieldLink RX5 7 "BallDeskModel" "limbs" "[I" ∈ wsX5_down := by decide +kernel
  have lk70 : Cond.constant RX5 70 (16777215) ∈ wsX5_down := by decide +kernel
  have hl : lv_has ls 11 [(0, .ref (mo 0)), (1, .int (nI t)), (2, .int (nI ra)), (3, .int (nI n))] := hl
  obtain ⟨Fo, Go, So, Ro, hm, hrg⟩ := hv
  obtain ⟨hP1, hP2⟩ := md_P hm
  obtain ⟨hFa, hva, hga⟩ := hrg ra ha60
  have hfit : (rg0 ra).natAbs < 16777216 ^ 34 := by rw [← hva]; exact h_lt hFa
  refine lv_iload_n hx hb dX5_down_0 rfl (lv_at hl 3 rfl) ?_
  refine lv_bipush (v := nI 24) hx hb dX5_down_1 (by decide) ?_
  refine bd_idiv (v := (nI (n / 24))) hx hb dX5_down_3 (by decide) (pk_div (by omega) (by decide) (by decide)) ?_
  refine lv_istore (lv' := [(4, .int (nI (n / 24))), (0, .ref (mo 0)), (1, .int (nI t)), (2, .int (nI ra)), (3, .int (nI n))]) hx hb dX5_down_4 hl (by decide) rfl (fun ls hl => ?_)
  refine lv_iload_n hx hb dX5_down_6 rfl (lv_at hl 4 rfl) ?_
  refine lv_bipush (v := nI 24) hx hb dX5_down_7 (by decide) ?_
  refine bd_irem (v := (nI (n % 24))) hx hb dX5_down_9 (by decide) (pk_rem (by omega) (by decide) (by decide)) ?_
  refine lv_istore (lv' := [(5, .int (nI (n % 24))), (4, .int (nI (n / 24))), (0, .ref (mo 0)), (1, .int (nI t)), (2, .int (nI ra)), (3, .int (nI n))]) hx hb dX5_down_10 hl (by decide) rfl (fun ls hl => ?_)
  refine lv_aload_n hx hb dX5_down_12 rfl (lv_at hl 2 rfl) ?_
  refine md_g C i5 hw hm 4 (by decide) (v := .ref (mo 2)) rfl dX5_down_13 lk13 ?_
  refine lv_iload_n hx hb dX5_down_16 rfl (lv_at hl 4 rfl) ?_
  refine md_ld2 C hw hm dX5_down_17 (by omega) ?_
  refine lv_istore (lv' := [(6, .int (Go ra)), (5, .int (nI (n % 24))), (4, .int (nI (n / 24))), (0, .ref (mo 0)), (1, .int (nI t)), (2, .int (nI ra)), (3, .int (nI n))]) hx hb dX5_down_18 hl (by decide) rfl (fun ls hl => ?_)
  refine lv_iconst (v := nI 0) hx hb dX5_down_20 (by decide) ?_
  refine lv_istore (lv' := [(7, .int (nI 0)), (6, .int (Go ra)), (5, .int (nI (n % 24))), (4, .int (nI (n / 24))), (0, .ref (mo 0)), (1, .int (nI t)), (2, .int (nI ra)), (3, .int (nI n))]) hx hb dX5_down_21 hl (by decide) rfl (fun ls hl => ?_)
  refine lv_iconst (v := nI 0) hx hb dX5_down_23 (by decide) ?_
  refine lv_istore (lv' := [(8, .int (nI 0)), (7, .int (nI 0)), (6, .int (Go ra)), (5, .int (nI (n % 24))), (4, .int (nI (n / 24))), (0, .ref (mo 0)), (1, .int (nI t)), (2, .int (nI ra)), (3, .int (nI n))]) hx hb dX5_down_24 hl (by decide) rfl (fun ls hl => ?_)
  suffices hloop : ∀ (d9 i : Nat) (q : Nat) (E : Nat → va_E) (ls : Array Slot) (H : Heap) (locs : List Loc), i + d9 = n / 24 → md_at K E mo th P Fo Go So Ro → (q ≤ 1) → ((q = 0 ∧ ∀ j, j < i → Fo ra j = 0) ∨ (q = 1 ∧ ∃ j, j < i ∧ Fo ra j ≠ 0)) → lv_has ls 11 [(8, .int (nI i)), (7, .int (nI q)), (4, .int (nI (n / 24))), (5, .int (nI (n % 24))), (6, .int (Go ra)), (0, .ref (mo 0)), (1, .int (nI t)), (2, .int (nI ra))] → bd_W K E z0 (bd_A K sz) s.heap H locs → W p l e (headSpec wsX5_down ({ frames := 5, cells := 0, slots := 0, locals := 160 })).room s m [.ref (mo 0), .int (nI t), .int (nI ra), .int (nI n)].toArray below meth c H locs 0 0 (MQ below (va_Qv (fun u => ∃ rg : Nat → Int, md_v K u.1 mo th P rg ∧ rg t = rg0 ra / ((2 ^ n : Nat) : Int) ∧ ∀ j, j ≠ t → j ≠ 32 → rg j = rg0 j) (bd_B K) (bd_A K sz)) [.ref (mo 0), .int (nI t), .int (nI ra), .int (nI n)].toArray s 0 0 (bd_A K sz)) (F0 m 26 ls []) from hloop (n / 24) 0 0 E0 ls _ _ (by omega) hm (by decide) (Or.inl ⟨rfl, fun j hj => absurd hj (by omega)⟩) (lv_sub hl [0, 1, 4, 3, 2, 5, 6, 7] rfl) hw
  clear hw hl ls hm 
  intro d9
  induction d9 using Nat.strongRecOn with
  | ind d9 ih =>
    intro i q E ls H locs hjd9 hm hq1 hq hl hw
    refine lv_iload hx hb dX5_down_26 (lv_at hl 0 rfl) ?_
    refine lv_iload hx hb dX5_down_28 (lv_at hl 2 rfl) ?_
    refine bd_ige (h1 := (by omega)) (h2 := (by omega)) (tgt := 68) hx hb dX5_down_30 (by decide) (fun hc30 => ?_) (fun hc30 => ?_)
    · refine lv_iload hx hb dX5_down_68 (lv_at hl 1 rfl) ?_
      refine bd_zne (h1 := (by omega)) (tgt := 97) hx hb dX5_down_70 (by decide) (fun hc70 => ?_) (fun hc70 => ?_)
      · have hlf : h_s (Fo ra) 34 % 2 ^ n ≠ 0 := fun h => hq.elim (fun g => absurd g.1 (by omega)) (fun g => g.2.elim (fun j hj => hj.2 (((dn_z hFa hn).mp h).1 j (by omega))))
        refine lv_iconst (v := nI 1) hx hb dX5_down_97 (by decide) ?_
        refine lv_goto (tgt := 102) hx hb dX5_down_98 (by decide) ?_
        refine lv_istore (lv' := [(7, .int (nI 1)), (8, .int (nI i)), (4, .int (nI (n / 24))), (5, .int (nI (n % 24))), (6, .int (Go ra)), (0, .ref (mo 0)), (1, .int (nI t)), (2, .int (nI ra))]) hx hb dX5_down_102 hl (by decide) rfl (fun ls hl => ?_)
        refine lv_iconst (v := nI 0) hx hb dX5_down_104 (by decide) ?_
        refine lv_istore (lv' := [(8, .int (nI 0)), (7, .int (nI 1)), (4, .int (nI (n / 24))), (5, .int (nI (n % 24))), (6, .int (Go ra)), (0, .ref (mo 0)), (1, .int (nI t)), (2, .int (nI ra))]) hx hb dX5_down_105 hl (by decide) rfl (fun ls hl => ?_)
        suffices hloop : ∀ (d9 i : Nat) (f1 : Nat → Nat) (E : Nat → va_E) (ls : Array Slot) (H : Heap) (locs : List Loc), i + d9 = 34 → md_at K E mo th P (va_up Fo t f1) Go So Ro → (∀ j, j < i → f1 j = h_s (Fo ra) 34 / 2 ^ n / 16777216 ^ j % 16777216) → (∀ j, i ≤ j → f1 j = Fo t j) → lv_has ls 11 [(8, .int (nI i)), (7, .int (nI 1)), (4, .int (nI (n / 24))), (5, .int (nI (n % 24))), (6, .int (Go ra)), (0, .ref (mo 0)), (1, .int (nI t)), (2, .int (nI ra))] → bd_W K E z0 (bd_A K sz) s.heap H locs → W p l e (headSpec wsX5_down ({ frames := 5, cells := 0, slots := 0, locals := 160 })).room s m [.ref (mo 0), .int (nI t), .int (nI ra), .int (nI n)].toArray below meth c H locs 0 0 (MQ below (va_Qv (fun u => ∃ rg : Nat → Int, md_v K u.1 mo th P rg ∧ rg t = rg0 ra / ((2 ^ n : Nat) : Int) ∧ ∀ j, j ≠ t → j ≠ 32 → rg j = rg0 j) (bd_B K) (bd_A K sz)) [.ref (mo 0), .int (nI t), .int (nI ra), .int (nI n)].toArray s 0 0 (bd_A K sz)) (F0 m 107 ls []) from hloop 34 0 (Fo t) E ls _ _ (by omega) (by rw [va_upi]; exact hm) (fun j hj => absurd hj (by omega)) (fun _ _ => rfl) (lv_sub hl [0, 1, 2, 3, 4, 5, 6, 7] rfl) hw
        clear hw hl ls hm ih
        intro d9
        induction d9 using Nat.strongRecOn with
        | ind d9 ih2 =>
          intro i f1 E ls H locs hjd9 hm hD hg hl hw
          refine lv_iload hx hb dX5_down_107 (lv_at hl 0 rfl) ?_
          refine lv_bipush (v := nI 34) hx hb dX5_down_109 (by decide) ?_
          refine bd_ige (h1 := (by omega)) (h2 := (by omega)) (tgt := 210) hx hb dX5_down_111 (by decide) (fun hc111 => ?_) (fun hc111 => ?_)
          · have hi34 : i = 34 := by omega
            rw [hi34] at hD
            have hs1 : h_s f1 34 = (sv (rg0 ra) ((rg0 ra).natAbs / 2 ^ n)).natAbs := by
              rw [sv_abs, ← hva]
              exact h_ofd hD (Nat.lt_of_le_of_lt (Nat.div_le_self _ _) (h_lt hFa))
            have hb1 : ∀ m, m < 34 → f1 m < 16777216 := fun m hm9 => by rw [hD m hm9]; exact Nat.mod_lt _ (by decide)
            refine lv_aload_n hx hb dX5_down_210 rfl (lv_at hl 5 rfl) ?_
            refine lv_iload_n hx hb dX5_down_211 rfl (lv_at hl 6 rfl) ?_
            refine lv_iload hx hb dX5_down_212 (lv_at hl 4 rfl) ?_
            refine bd_cv (As := [.int (nI t), .int (Go ra)]) (rest := []) C (m5_settle _ _ _ _ _ hm t (Go ra) (by omega) (by rw [va_up_self]; exact hb1)) (cwV 2 hts gX5_down_X5_settle rfl rfl rfl (by decide +kernel) ⟨Nat.le_of_ble_eq_true rfl, Nat.le_of_ble_eq_true rfl⟩) hsz hw (md_recv C hw hm) dX5_down_214 rfl hl.1 rfl (Nat.le_of_ble_eq_true rfl) ⟨Nat.le_refl _, Nat.le_refl _⟩ (fun E z H locs hp hw => ?_)
            have hm := hp
            rw [va_up_self] at hm
            obtain ⟨rg1, hv, hv9, hf9⟩ := mv_end (z := z) hm hrg hb1 hs1 (sg_if hs1 (by rw [hga]; exact sv_sg (fun h0 => by rw [h0]; exact Nat.zero_div _)))
            rw [hva] at hlf
            refine lv_iload hx hb dX5_down_217 (lv_at hl 4 rfl) ?_
            refine lv_if_ge (tgt := 233) hx hb dX5_down_219 (by decide) (fun hc219 => ?_) (fun hc219 => ?_)
            · have hx9 : 0 ≤ rg0 ra := sg_ge (by rw [← hga]; exact hc219)
              exact bd_vret C hr hlk hw dX5_down_233 ⟨rg1, hv, hv9.trans (fl_1 hx9), fun j h1 h2 => hf9 j h1⟩
            · have hx9 : rg0 ra < 0 := sg_nge (by rw [← hga]; exact hc219)
              refine lv_iload hx hb dX5_down_222 (lv_at hl 1 rfl) ?_
              refine bd_zeq (h1 := by decide) (tgt := 233) hx hb dX5_down_224 (by decide) (fun hc224 => ?_) (fun hc224 => ?_)
              · exact absurd hc224 (by decide)
              · refine lv_aload_n hx hb dX5_down_227 rfl (lv_at hl 5 rfl) ?_
                refine lv_iload_n hx hb dX5_down_228 rfl (lv_at hl 6 rfl) ?_
                refine lv_iconst (v := (-1)) hx hb dX5_down_229 (by decide) ?_
                refine bd_cv (As := [.int (nI t), .int (-1)]) (rest := []) C (v5_addSmall _ _ _ _ _ hv t (-1) ht60 ht32 (by rw [hv9]; exact fl_b hx9 hfit (Nat.pow_pos (by decide)) hlf)) (cwV 2 hts gX5_down_X5_addSmall rfl rfl rfl (by decide +kernel) ⟨Nat.le_of_ble_eq_true rfl, Nat.le_of_ble_eq_true rfl⟩) hsz hw (mv_recv C hw hv) dX5_down_230 rfl hl.1 rfl (Nat.le_of_ble_eq_true rfl) ⟨Nat.le_refl _, Nat.le_refl _⟩ (fun E z H locs hp hw => ?_)
                obtain ⟨rg2, hv2, hv8, hf8⟩ := hp
                exact bd_vret C hr hlk hw dX5_down_233 ⟨rg2, hv2, by rw [hv8, hv9]; exact fl_3 (Nat.pow_pos (by decide)) hx9 hlf, fun j h1 h2 => (hf8 j h1 h2).trans (hf9 j h1)⟩
          · refine lv_iload hx hb dX5_down_114 (lv_at hl 0 rfl) ?_
            refine lv_iload hx hb dX5_down_116 (lv_at hl 2 rfl) ?_
            refine bd_iadd (v := nI (i + (n / 24))) hx hb dX5_down_118 (nI_add _ _) ?_
            refine lv_bipush (v := nI 34) hx hb dX5_down_119 (by decide) ?_
            refine bd_ige (h1 := (by omega)) (h2 := (by omega)) (tgt := 140) hx hb dX5_down_121 (by decide) (fun hc121 => ?_) (fun hc121 => ?_)
            · refine lv_iconst (v := nI 0) hx hb dX5_down_140 (by decide) ?_
              refine lv_istore (lv' := [(9, .int (nI 0)), (8, .int (nI i)), (7, .int (nI 1)), (4, .int (nI (n / 24))), (5, .int (nI (n % 24))), (6, .int (Go ra)), (0, .ref (mo 0)), (1, .int (nI t)), (2, .int (nI ra))]) hx hb dX5_down_141 hl (by decide) rfl (fun ls hl => ?_)
              refine lv_iload hx hb dX5_down_143 (lv_at hl 1 rfl) ?_
              refine lv_iload hx hb dX5_down_145 (lv_at hl 3 rfl) ?_
              refine bd_iadd (v := nI (i + (n / 24))) hx hb dX5_down_147 (nI_add _ _) ?_
              refine lv_iconst (v := nI 1) hx hb dX5_down_148 (by decide) ?_
              refine bd_iadd (v := nI ((i + (n / 24)) + 1)) hx hb dX5_down_149 (nI_add _ _) ?_
              refine lv_bipush (v := nI 34) hx hb dX5_down_150 (by decide) ?_
              refine bd_ige (h1 := by omega) (h2 := by omega) (tgt := 184) hx hb dX5_down_152 (by decide) (fun hc152 => ?_) (fun hc152 => ?_)
              · refine lv_iconst (v := nI 0) hx hb dX5_down_184 (by decide) ?_
                refine lv_istore (lv' := [(10, .int (nI 0)), (9, .int (nI 0)), (8, .int (nI i)), (7, .int (nI 1)), (4, .int (nI (n / 24))), (5, .int (nI (n % 24))), (6, .int (Go ra)), (0, .ref (mo 0)), (1, .int (nI t)), (2, .int (nI ra))]) hx hb dX5_down_185 hl (by decide) rfl (fun ls hl => ?_)
                refine lv_aload_n hx hb dX5_down_187 rfl (lv_at hl 7 rfl) ?_
                refine md_g C i5 hw hm 3 (by decide) (v := .ref (mo 1)) rfl dX5_down_188 lk7 ?_
                refine lv_bipush (v := nI 34) hx hb dX5_down_191 (by decide) ?_
                refine lv_iload_n hx hb dX5_down_193 rfl (lv_at hl 8 rfl) ?_
                refine bd_imul (v := nI (34 * t)) hx hb dX5_down_194 (nI_mul _ _) ?_
                refine lv_iload hx hb dX5_down_195 (lv_at hl 2 rfl) ?_
                refine bd_iadd (v := nI (34 * t + i)) hx hb dX5_down_197 (nI_add _ _) ?_
                refine lv_iload hx hb dX5_down_198 (lv_at hl 1 rfl) ?_
                refine lv_iload hx hb dX5_down_200 (lv_at hl 0 rfl) ?_
                refine bd_ior (v := nI (0 ||| 0)) hx hb dX5_down_202 (i_or (by decide) (by decide)) ?_
                refine md_st1u C hw (r := t) (k := i) (x := (0 ||| 0)) hm dX5_down_203 (by omega) (by omega) (fun E H locs hm hw => ?_)
                refine lv_iinc (v := (nI (i + 1))) (lv' := [(8, .int (nI (i + 1))), (10, .int (nI 0)), (9, .int (nI 0)), (7, .int (nI 1)), (4, .int (nI (n / 24))), (5, .int (nI (n % 24))), (6, .int (Go ra)), (0, .ref (mo 0)), (1, .int (nI t)), (2, .int (nI ra))]) hx hb dX5_down_204 hl (k := 2) rfl (nI_1 _) (by decide) rfl (fun ls hl => ?_)
                refine lv_goto (tgt := 107) hx hb dX5_down_207 (by decide) ?_
                exact ih2 (d9 - 1) (by omega) (i + 1) _ E ls H locs (by omega) hm (up_s (T := fun j y => y = h_s (Fo ra) 34 / 2 ^ n / 16777216 ^ j % 16777216) hD (by have h9 := dn_c (A := h_s (Fo ra) 34) (n := n) (i := i); rw [h_hi hFa (by omega), h_hi hFa (by omega), Nat.zero_div, Nat.zero_mul] at h9; exact h9)) (up_g hg) (lv_sub hl [0, 3, 4, 5, 6, 7, 8, 9] rfl) hw
              · exact absurd hc152 (by omega)
            · refine lv_aload_n hx hb dX5_down_124 rfl (lv_at hl 5 rfl) ?_
              refine lv_iload_n hx hb dX5_down_125 rfl (lv_at hl 7 rfl) ?_
              refine lv_iload hx hb dX5_down_126 (lv_at hl 0 rfl) ?_
              refine lv_iload hx hb dX5_down_128 (lv_at hl 2 rfl) ?_
              refine bd_iadd (v := nI (i + (n / 24))) hx hb dX5_down_130 (nI_add _ _) ?_
              refine bd_cip (As := [.int (nI ra), .int (nI (i + (n / 24)))]) (rest := []) C (m5_at _ _ _ _ _ hm ra (i + (n / 24)) (by omega) (by omega)) (cwV 2 hts gX5_down_X5_at rfl rfl rfl (by decide +kernel) ⟨Nat.le_of_ble_eq_true rfl, Nat.le_of_ble_eq_true rfl⟩) hsz hw (md_recv C hw hm) dX5_down_131 rfl hl.1 rfl (Nat.le_of_ble_eq_true rfl) ⟨Nat.le_refl _, Nat.le_refl _⟩ (fun H locs hw => ?_)
              rw [rd_k (F := Fo) (r := t) (a := ra) (k := i + n / 24) (fun q => by rw [q]; exact hg _ (by omega))]
              refine lv_iload hx hb dX5_down_134 (lv_at hl 3 rfl) ?_
              refine bd_ishr (v := (nI (Fo ra (i + n / 24) / 2 ^ (n % 24)))) hx hb dX5_down_136 (i_shn (Nat.lt_of_lt_of_le (hFa _ (by omega)) (by decide)) (by omega)) ?_
              refine lv_goto (tgt := 141) hx hb dX5_down_137 (by decide) ?_
              refine lv_istore (lv' := [(9, .int (nI (Fo ra (i + n / 24) / 2 ^ (n % 24)))), (8, .int (nI i)), (7, .int (nI 1)), (4, .int (nI (n / 24))), (5, .int (nI (n % 24))), (6, .int (Go ra)), (0, .ref (mo 0)), (1, .int (nI t)), (2, .int (nI ra))]) hx hb dX5_down_141 hl (by decide) rfl (fun ls hl => ?_)
              refine lv_iload hx hb dX5_down_143 (lv_at hl 1 rfl) ?_
              refine lv_iload hx hb dX5_down_145 (lv_at hl 3 rfl) ?_
              refine bd_iadd (v := nI (i + (n / 24))) hx hb dX5_down_147 (nI_add _ _) ?_
              refine lv_iconst (v := nI 1) hx hb dX5_down_148 (by decide) ?_
              refine bd_iadd (v := nI ((i + (n / 24)) + 1)) hx hb dX5_down_149 (nI_add _ _) ?_
              refine lv_bipush (v := nI 34) hx hb dX5_down_150 (by decide) ?_
              refine bd_ige (h1 := by omega) (h2 := by omega) (tgt := 184) hx hb dX5_down_152 (by decide) (fun hc152 => ?_) (fun hc152 => ?_)
              · refine lv_iconst (v := nI 0) hx hb dX5_down_184 (by decide) ?_
                refine lv_istore (lv' := [(10, .int (nI 0)), (9, .int (nI (Fo ra (i + n / 24) / 2 ^ (n % 24)))), (8, .int (nI i)), (7, .int (nI 1)), (4, .int (nI (n / 24))), (5, .int (nI (n % 24))), (6, .int (Go ra)), (0, .ref (mo 0)), (1, .int (nI t)), (2, .int (nI ra))]) hx hb dX5_down_185 hl (by decide) rfl (fun ls hl => ?_)
                refine lv_aload_n hx hb dX5_down_187 rfl (lv_at hl 7 rfl) ?_
                refine md_g C i5 hw hm 3 (by decide) (v := .ref (mo 1)) rfl dX5_down_188 lk7 ?_
                refine lv_bipush (v := nI 34) hx hb dX5_down_191 (by decide) ?_
                refine lv_iload_n hx hb dX5_down_193 rfl (lv_at hl 8 rfl) ?_
                refine bd_imul (v := nI (34 * t)) hx hb dX5_down_194 (nI_mul _ _) ?_
                refine lv_iload hx hb dX5_down_195 (lv_at hl 2 rfl) ?_
                refine bd_iadd (v := nI (34 * t + i)) hx hb dX5_down_197 (nI_add _ _) ?_
                refine lv_iload hx hb dX5_down_198 (lv_at hl 1 rfl) ?_
                refine lv_iload hx hb dX5_down_200 (lv_at hl 0 rfl) ?_
                refine bd_ior (v := nI ((Fo ra (i + n / 24) / 2 ^ (n % 24)) ||| 0)) hx hb dX5_down_202 (i_or (Nat.lt_of_le_of_lt (Nat.div_le_self _ _) (Nat.lt_of_lt_of_le (hFa _ (by omega)) (by decide))) (by decide)) ?_
                refine md_st1u C hw (r := t) (k := i) (x := ((Fo ra (i + n / 24) / 2 ^ (n % 24)) ||| 0)) hm dX5_down_203 (by omega) (by omega) (fun E H locs hm hw => ?_)
                refine lv_iinc (v := (nI (i + 1))) (lv' := [(8, .int (nI (i + 1))), (10, .int (nI 0)), (9, .int (nI (Fo ra (i + n / 24) / 2 ^ (n % 24)))), (7, .int (nI 1)), (4, .int (nI (n / 24))), (5, .int (nI (n % 24))), (6, .int (Go ra)), (0, .ref (mo 0)), (1, .int (nI t)), (2, .int (nI ra))]) hx hb dX5_down_204 hl (k := 2) rfl (nI_1 _) (by decide) rfl (fun ls hl => ?_)
                refine lv_goto (tgt := 107) hx hb dX5_down_207 (by decide) ?_
                exact ih2 (d9 - 1) (by omega) (i + 1) _ E ls H locs (by omega) hm (up_s (T := fun j y => y = h_s (Fo ra) 34 / 2 ^ n / 16777216 ^ j % 16777216) hD (by have h9 := dn_c (A := h_s (Fo ra) 34) (n := n) (i := i); rw [h_dig hFa (by omega), h_hi hFa (by omega), Nat.zero_mul] at h9; exact h9)) (up_g hg) (lv_sub hl [0, 3, 4, 5, 6, 7, 8, 9] rfl) hw
              · refine lv_iload hx hb dX5_down_155 (lv_at hl 4 rfl) ?_
                refine bd_zle (h1 := (by omega)) (tgt := 184) hx hb dX5_down_157 (by decide) (fun hc157 => ?_) (fun hc157 => ?_)
                · refine lv_iconst (v := nI 0) hx hb dX5_down_184 (by decide) ?_
                  refine lv_istore (lv' := [(10, .int (nI 0)), (9, .int (nI (Fo ra (i + n / 24) / 2 ^ (n % 24)))), (8, .int (nI i)), (7, .int (nI 1)), (4, .int (nI (n / 24))), (5, .int (nI (n % 24))), (6, .int (Go ra)), (0, .ref (mo 0)), (1, .int (nI t)), (2, .int (nI ra))]) hx hb dX5_down_185 hl (by decide) rfl (fun ls hl => ?_)
                  refine lv_aload_n hx hb dX5_down_187 rfl (lv_at hl 7 rfl) ?_
                  refine md_g C i5 hw hm 3 (by decide) (v := .ref (mo 1)) rfl dX5_down_188 lk7 ?_
                  refine lv_bipush (v := nI 34) hx hb dX5_down_191 (by decide) ?_
                  refine lv_iload_n hx hb dX5_down_193 rfl (lv_at hl 8 rfl) ?_
                  refine bd_imul (v := nI (34 * t)) hx hb dX5_down_194 (nI_mul _ _) ?_
                  refine lv_iload hx hb dX5_down_195 (lv_at hl 2 rfl) ?_
                  refine bd_iadd (v := nI (34 * t + i)) hx hb dX5_down_197 (nI_add _ _) ?_
                  refine lv_iload hx hb dX5_down_198 (lv_at hl 1 rfl) ?_
                  refine lv_iload hx hb dX5_down_200 (lv_at hl 0 rfl) ?_
                  refine bd_ior (v := nI ((Fo ra (i + n / 24) / 2 ^ (n % 24)) ||| 0)) hx hb dX5_down_202 (i_or (Nat.lt_of_le_of_lt (Nat.div_le_self _ _) (Nat.lt_of_lt_of_le (hFa _ (by omega)) (by decide))) (by decide)) ?_
                  refine md_st1u C hw (r := t) (k := i) (x := ((Fo ra (i + n / 24) / 2 ^ (n % 24)) ||| 0)) hm dX5_down_203 (by omega) (by omega) (fun E H locs hm hw => ?_)
                  refine lv_iinc (v := (nI (i + 1))) (lv' := [(8, .int (nI (i + 1))), (10, .int (nI 0)), (9, .int (nI (Fo ra (i + n / 24) / 2 ^ (n % 24)))), (7, .int (nI 1)), (4, .int (nI (n / 24))), (5, .int (nI (n % 24))), (6, .int (Go ra)), (0, .ref (mo 0)), (1, .int (nI t)), (2, .int (nI ra))]) hx hb dX5_down_204 hl (k := 2) rfl (nI_1 _) (by decide) rfl (fun ls hl => ?_)
                  refine lv_goto (tgt := 107) hx hb dX5_down_207 (by decide) ?_
                  exact ih2 (d9 - 1) (by omega) (i + 1) _ E ls H locs (by omega) hm (up_s (T := fun j y => y = h_s (Fo ra) 34 / 2 ^ n / 16777216 ^ j % 16777216) hD (by have h9 := dn_c (A := h_s (Fo ra) 34) (n := n) (i := i); rw [h_dig hFa (by omega), h_dig hFa (by omega), hc157] at h9; rw [hc157]; exact h9.symm ▸ (dn_0 _ _))) (up_g hg) (lv_sub hl [0, 3, 4, 5, 6, 7, 8, 9] rfl) hw
                · refine lv_aload_n hx hb dX5_down_160 rfl (lv_at hl 6 rfl) ?_
                  refine lv_iload_n hx hb dX5_down_161 rfl (lv_at hl 8 rfl) ?_
                  refine lv_iload hx hb dX5_down_162 (lv_at hl 1 rfl) ?_
                  refine lv_iload hx hb dX5_down_164 (lv_at hl 3 rfl) ?_
                  refine bd_iadd (v := nI (i + (n / 24))) hx hb dX5_down_166 (nI_add _ _) ?_
                  refine lv_iconst (v := nI 1) hx hb dX5_down_167 (by decide) ?_
                  refine bd_iadd (v := nI ((i + (n / 24)) + 1)) hx hb dX5_down_168 (nI_add _ _) ?_
                  refine bd_cip (As := [.int (nI ra), .int (nI ((i + (n / 24)) + 1))]) (rest := []) C (m5_at _ _ _ _ _ hm ra ((i + (n / 24)) + 1) (by omega) (by omega)) (cwV 2 hts gX5_down_X5_at rfl rfl rfl (by decide +kernel) ⟨Nat.le_of_ble_eq_true rfl, Nat.le_of_ble_eq_true rfl⟩) hsz hw (md_recv C hw hm) dX5_down_169 rfl hl.1 rfl (Nat.le_of_ble_eq_true rfl) ⟨Nat.le_refl _, Nat.le_refl _⟩ (fun H locs hw => ?_)
                  rw [rd_k (F := Fo) (r := t) (a := ra) (k := i + n / 24 + 1) (fun q => by rw [q]; exact hg _ (by omega))]
                  refine lv_bipush (v := nI 24) hx hb dX5_down_172 (by decide) ?_
                  refine lv_iload hx hb dX5_down_174 (lv_at hl 4 rfl) ?_
                  refine bd_isub (v := (nI (24 - n % 24))) hx hb dX5_down_176 (pk_sub (by omega)) ?_
                  refine bd_ishl (v := (nI (Fo ra (i + n / 24 + 1) * 2 ^ (24 - n % 24)))) hx hb dX5_down_177 (i_shl _ (by omega)) ?_
                  refine lv_ldc (v := nI 16777215) hx hb hown (hts _ lk70) dX5_down_178 ?_
                  refine bd_iand (v := (nI (Fo ra (i + n / 24 + 1) * 2 ^ (24 - n % 24) % 16777216))) hx hb dX5_down_180 (i_msN _) ?_
                  refine lv_goto (tgt := 185) hx hb dX5_down_181 (by decide) ?_
                  refine lv_istore (lv' := [(10, .int (nI (Fo ra (i + n / 24 + 1) * 2 ^ (24 - n % 24) % 16777216))), (9, .int (nI (Fo ra (i + n / 24) / 2 ^ (n % 24)))), (8, .int (nI i)), (7, .int (nI 1)), (4, .int (nI (n / 24))), (5, .int (nI (n % 24))), (6, .int (Go ra)), (0, .ref (mo 0)), (1, .int (nI t)), (2, .int (nI ra))]) hx hb dX5_down_185 hl (by decide) rfl (fun ls hl => ?_)
                  refine lv_aload_n hx hb dX5_down_187 rfl (lv_at hl 7 rfl) ?_
                  refine md_g C i5 hw hm 3 (by decide) (v := .ref (mo 1)) rfl dX5_down_188 lk7 ?_
                  refine lv_bipush (v := nI 34) hx hb dX5_down_191 (by decide) ?_
                  refine lv_iload_n hx hb dX5_down_193 rfl (lv_at hl 8 rfl) ?_
                  refine bd_imul (v := nI (34 * t)) hx hb dX5_down_194 (nI_mul _ _) ?_
                  refine lv_iload hx hb dX5_down_195 (lv_at hl 2 rfl) ?_
                  refine bd_iadd (v := nI (34 * t + i)) hx hb dX5_down_197 (nI_add _ _) ?_
                  refine lv_iload hx hb dX5_down_198 (lv_at hl 1 rfl) ?_
                  refine lv_iload hx hb dX5_down_200 (lv_at hl 0 rfl) ?_
                  refine bd_ior (v := nI ((Fo ra (i + n / 24) / 2 ^ (n % 24)) ||| (Fo ra (i + n / 24 + 1) * 2 ^ (24 - n % 24) % 16777216))) hx hb dX5_down_202 (i_or (Nat.lt_of_le_of_lt (Nat.div_le_self _ _) (Nat.lt_of_lt_of_le (hFa _ (by omega)) (by decide))) (Nat.lt_of_lt_of_le (Nat.mod_lt _ (by decide)) (by decide))) ?_
                  refine md_st1u C hw (r := t) (k := i) (x := ((Fo ra (i + n / 24) / 2 ^ (n % 24)) ||| (Fo ra (i + n / 24 + 1) * 2 ^ (24 - n % 24) % 16777216))) hm dX5_down_203 (by omega) (by omega) (fun E H locs hm hw => ?_)
                  refine lv_iinc (v := (nI (i + 1))) (lv' := [(8, .int (nI (i + 1))), (10, .int (nI (Fo ra (i + n / 24 + 1) * 2 ^ (24 - n % 24) % 16777216))), (9, .int (nI (Fo ra (i + n / 24) / 2 ^ (n % 24)))), (7, .int (nI 1)), (4, .int (nI (n / 24))), (5, .int (nI (n % 24))), (6, .int (Go ra)), (0, .ref (mo 0)), (1, .int (nI t)), (2, .int (nI ra))]) hx hb dX5_down_204 hl (k := 2) rfl (nI_1 _) (by decide) rfl (fun ls hl => ?_)
                  refine lv_goto (tgt := 107) hx hb dX5_down_207 (by decide) ?_
                  exact ih2 (d9 - 1) (by omega) (i + 1) _ E ls H locs (by omega) hm (up_s (T := fun j y => y = h_s (Fo ra) 34 / 2 ^ n / 16777216 ^ j % 16777216) hD (by have h9 := dn_c (A := h_s (Fo ra) 34) (n := n) (i := i); rw [h_dig hFa (by omega), h_dig hFa (by omega)] at h9; exact h9)) (up_g hg) (lv_sub hl [0, 3, 4, 5, 6, 7, 8, 9] rfl) hw
      · refine lv_iload hx hb dX5_down_73 (lv_at hl 2 rfl) ?_
        refine lv_bipush (v := nI 34) hx hb dX5_down_75 (by decide) ?_
        refine bd_ige (h1 := (by omega)) (h2 := (by omega)) (tgt := 101) hx hb dX5_down_77 (by decide) (fun hc77 => ?_) (fun hc77 => ?_)
        · exact absurd hc77 (by omega)
        · refine lv_aload_n hx hb dX5_down_80 rfl (lv_at hl 5 rfl) ?_
          refine lv_iload_n hx hb dX5_down_81 rfl (lv_at hl 7 rfl) ?_
          refine lv_iload hx hb dX5_down_82 (lv_at hl 2 rfl) ?_
          refine bd_cip (As := [.int (nI ra), .int (nI (n / 24))]) (rest := []) C (m5_at _ _ _ _ _ hm ra (n / 24) (by omega) (by omega)) (cwV 2 hts gX5_down_X5_at rfl rfl rfl (by decide +kernel) ⟨Nat.le_of_ble_eq_true rfl, Nat.le_of_ble_eq_true rfl⟩) hsz hw (md_recv C hw hm) dX5_down_84 rfl hl.1 rfl (Nat.le_of_ble_eq_true rfl) ⟨Nat.le_refl _, Nat.le_refl _⟩ (fun H locs hw => ?_)
          refine lv_iconst (v := nI 1) hx hb dX5_down_87 (by decide) ?_
          refine lv_iload hx hb dX5_down_88 (lv_at hl 3 rfl) ?_
          refine bd_ishl (v := (nI (2 ^ (n % 24)))) hx hb dX5_down_90 ((i_shl 1 (by omega)).trans (congrArg nI (Nat.one_mul _))) ?_
          refine lv_iconst (v := nI 1) hx hb dX5_down_91 (by decide) ?_
          refine bd_isub (v := (nI (2 ^ (n % 24) - 1))) hx hb dX5_down_92 (pk_sub (Nat.pow_pos (by decide))) ?_
          refine bd_iand (v := (nI (Fo ra (n / 24) % 2 ^ (n % 24)))) hx hb dX5_down_93 (i_m2 (Nat.lt_of_lt_of_le (hFa _ (by omega)) (by decide)) (by omega)) ?_
          refine bd_zeq (h1 := (Nat.lt_of_le_of_lt (Nat.mod_le _ _) (Nat.lt_of_lt_of_le (hFa _ (by omega)) (by decide)))) (tgt := 101) hx hb dX5_down_94 (by decide) (fun hc94 => ?_) (fun hc94 => ?_)
          · have hlf : h_s (Fo ra) 34 % 2 ^ n = 0 := (dn_z hFa hn).mpr ⟨hq.elim (fun g j hj => g.2 j (by omega)) (fun g => absurd g.1 (by omega)), hc94⟩
            refine lv_iconst (v := nI 0) hx hb dX5_down_101 (by decide) ?_
            refine lv_istore (lv' := [(7, .int (nI 0)), (8, .int (nI i)), (4, .int (nI (n / 24))), (5, .int (nI (n % 24))), (6, .int (Go ra)), (0, .ref (mo 0)), (1, .int (nI t)), (2, .int (nI ra))]) hx hb dX5_down_102 hl (by decide) rfl (fun ls hl => ?_)
            refine lv_iconst (v := nI 0) hx hb dX5_down_104 (by decide) ?_
            refine lv_istore (lv' := [(8, .int (nI 0)), (7, .int (nI 0)), (4, .int (nI (n / 24))), (5, .int (nI (n % 24))), (6, .int (Go ra)), (0, .ref (mo 0)), (1, .int (nI t)), (2, .int (nI ra))]) hx hb dX5_down_105 hl (by decide) rfl (fun ls hl => ?_)
            suffices hloop : ∀ (d9 i : Nat) (f1 : Nat → Nat) (E : Nat → va_E) (ls : Array Slot) (H : Heap) (locs : List Loc), i + d9 = 34 → md_at K E mo th P (va_up Fo t f1) Go So Ro → (∀ j, j < i → f1 j = h_s (Fo ra) 34 / 2 ^ n / 16777216 ^ j % 16777216) → (∀ j, i ≤ j → f1 j = Fo t j) → lv_has ls 11 [(8, .int (nI i)), (7, .int (nI 0)), (4, .int (nI (n / 24))), (5, .int (nI (n % 24))), (6, .int (Go ra)), (0, .ref (mo 0)), (1, .int (nI t)), (2, .int (nI ra))] → bd_W K E z0 (bd_A K sz) s.heap H locs → W p l e (headSpec wsX5_down ({ frames := 5, cells := 0, slots := 0, locals := 160 })).room s m [.ref (mo 0), .int (nI t), .int (nI ra), .int (nI n)].toArray below meth c H locs 0 0 (MQ below (va_Qv (fun u => ∃ rg : Nat → Int, md_v K u.1 mo th P rg ∧ rg t = rg0 ra / ((2 ^ n : Nat) : Int) ∧ ∀ j, j ≠ t → j ≠ 32 → rg j = rg0 j) (bd_B K) (bd_A K sz)) [.ref (mo 0), .int (nI t), .int (nI ra), .int (nI n)].toArray s 0 0 (bd_A K sz)) (F0 m 107 ls []) from hloop 34 0 (Fo t) E ls _ _ (by omega) (by rw [va_upi]; exact hm) (fun j hj => absurd hj (by omega)) (fun _ _ => rfl) (lv_sub hl [0, 1, 2, 3, 4, 5, 6, 7] rfl) hw
            clear hw hl ls hm ih
            intro d9
            induction d9 using Nat.strongRecOn with
            | ind d9 ih2 =>
              intro i f1 E ls H locs hjd9 hm hD hg hl hw
              refine lv_iload hx hb dX5_down_107 (lv_at hl 0 rfl) ?_
              refine lv_bipush (v := nI 34) hx hb dX5_down_109 (by decide) ?_
              refine bd_ige (h1 := (by omega)) (h2 := (by omega)) (tgt := 210) hx hb dX5_down_111 (by decide) (fun hc111 => ?_) (fun hc111 => ?_)
              · have hi34 : i = 34 := by omega
                rw [hi34] at hD
                have hs1 : h_s f1 34 = (sv (rg0 ra) ((rg0 ra).natAbs / 2 ^ n)).natAbs := by
                  rw [sv_abs, ← hva]
                  exact h_ofd hD (Nat.lt_of_le_of_lt (Nat.div_le_self _ _) (h_lt hFa))
                have hb1 : ∀ m, m < 34 → f1 m < 16777216 := fun m hm9 => by rw [hD m hm9]; exact Nat.mod_lt _ (by decide)
                refine lv_aload_n hx hb dX5_down_210 rfl (lv_at hl 5 rfl) ?_
                refine lv_iload_n hx hb dX5_down_211 rfl (lv_at hl 6 rfl) ?_
                refine lv_iload hx hb dX5_down_212 (lv_at hl 4 rfl) ?_
                refine bd_cv (As := [.int (nI t), .int (Go ra)]) (rest := []) C (m5_settle _ _ _ _ _ hm t (Go ra) (by omega) (by rw [va_up_self]; exact hb1)) (cwV 2 hts gX5_down_X5_settle rfl rfl rfl (by decide +kernel) ⟨Nat.le_of_ble_eq_true rfl, Nat.le_of_ble_eq_true rfl⟩) hsz hw (md_recv C hw hm) dX5_down_214 rfl hl.1 rfl (Nat.le_of_ble_eq_true rfl) ⟨Nat.le_refl _, Nat.le_refl _⟩ (fun E z H locs hp hw => ?_)
                have hm := hp
                rw [va_up_self] at hm
                obtain ⟨rg1, hv, hv9, hf9⟩ := mv_end (z := z) hm hrg hb1 hs1 (sg_if hs1 (by rw [hga]; exact sv_sg (fun h0 => by rw [h0]; exact Nat.zero_div _)))
                rw [hva] at hlf
                refine lv_iload hx hb dX5_down_217 (lv_at hl 4 rfl) ?_
                refine lv_if_ge (tgt := 233) hx hb dX5_down_219 (by decide) (fun hc219 => ?_) (fun hc219 => ?_)
                · have hx9 : 0 ≤ rg0 ra := sg_ge (by rw [← hga]; exact hc219)
                  exact bd_vret C hr hlk hw dX5_down_233 ⟨rg1, hv, hv9.trans (fl_1 hx9), fun j h1 h2 => hf9 j h1⟩
                · have hx9 : rg0 ra < 0 := sg_nge (by rw [← hga]; exact hc219)
                  refine lv_iload hx hb dX5_down_222 (lv_at hl 1 rfl) ?_
                  refine bd_zeq (h1 := by decide) (tgt := 233) hx hb dX5_down_224 (by decide) (fun hc224 => ?_) (fun hc224 => ?_)
                  · exact bd_vret C hr hlk hw dX5_down_233 ⟨rg1, hv, hv9.trans (fl_2 (Nat.pow_pos (by decide)) hx9 hlf), fun j h1 h2 => hf9 j h1⟩
                  · exact absurd hc224 (by decide)
              · refine lv_iload hx hb dX5_down_114 (lv_at hl 0 rfl) ?_
                refine lv_iload hx hb dX5_down_116 (lv_at hl 2 rfl) ?_
                refine bd_iadd (v := nI (i + (n / 24))) hx hb dX5_down_118 (nI_add _ _) ?_
                refine lv_bipush (v := nI 34) hx hb dX5_down_119 (by decide) ?_
                refine bd_ige (h1 := (by omega)) (h2 := (by omega)) (tgt := 140) hx hb dX5_down_121 (by decide) (fun hc121 => ?_) (fun hc121 => ?_)
                · refine lv_iconst (v := nI 0) hx hb dX5_down_140 (by decide) ?_
                  refine lv_istore (lv' := [(9, .int (nI 0)), (8, .int (nI i)), (7, .int (nI 0)), (4, .int (nI (n / 24))), (5, .int (nI (n % 24))), (6, .int (Go ra)), (0, .ref (mo 0)), (1, .int (nI t)), (2, .int (nI ra))]) hx hb dX5_down_141 hl (by decide) rfl (fun ls hl => ?_)
                  refine lv_iload hx hb dX5_down_143 (lv_at hl 1 rfl) ?_
                  refine lv_iload hx hb dX5_down_145 (lv_at hl 3 rfl) ?_
                  refine bd_iadd (v := nI (i + (n / 24))) hx hb dX5_down_147 (nI_add _ _) ?_
                  refine lv_iconst (v := nI 1) hx hb dX5_down_148 (by decide) ?_
                  refine bd_iadd (v := nI ((i + (n / 24)) + 1)) hx hb dX5_down_149 (nI_add _ _) ?_
                  refine lv_bipush (v := nI 34) hx hb dX5_down_150 (by decide) ?_
                  refine bd_ige (h1 := by omega) (h2 := by omega) (tgt := 184) hx hb dX5_down_152 (by decide) (fun hc152 => ?_) (fun hc152 => ?_)
                  · refine lv_iconst (v := nI 0) hx hb dX5_down_184 (by decide) ?_
                    refine lv_istore (lv' := [(10, .int (nI 0)), (9, .int (nI 0)), (8, .int (nI i)), (7, .int (nI 0)), (4, .int (nI (n / 24))), (5, .int (nI (n % 24))), (6, .int (Go ra)), (0, .ref (mo 0)), (1, .int (nI t)), (2, .int (nI ra))]) hx hb dX5_down_185 hl (by decide) rfl (fun ls hl => ?_)
                    refine lv_aload_n hx hb dX5_down_187 rfl (lv_at hl 7 rfl) ?_
                    refine md_g C i5 hw hm 3 (by decide) (v := .ref (mo 1)) rfl dX5_down_188 lk7 ?_
                    refine lv_bipush (v := nI 34) hx hb dX5_down_191 (by decide) ?_
                    refine lv_iload_n hx hb dX5_down_193 rfl (lv_at hl 8 rfl) ?_
                    refine bd_imul (v := nI (34 * t)) hx hb dX5_down_194 (nI_mul _ _) ?_
                    refine lv_iload hx hb dX5_down_195 (lv_at hl 2 rfl) ?_
                    refine bd_iadd (v := nI (34 * t + i)) hx hb dX5_down_197 (nI_add _ _) ?_
                    refine lv_iload hx hb dX5_down_198 (lv_at hl 1 rfl) ?_
                    refine lv_iload hx hb dX5_down_200 (lv_at hl 0 rfl) ?_
                    refine bd_ior (v := nI (0 ||| 0)) hx hb dX5_down_202 (i_or (by decide) (by decide)) ?_
                    refine md_st1u C hw (r := t) (k := i) (x := (0 ||| 0)) hm dX5_down_203 (by omega) (by omega) (fun E H locs hm hw => ?_)
                    refine lv_iinc (v := (nI (i + 1))) (lv' := [(8, .int (nI (i + 1))), (10, .int (nI 0)), (9, .int (nI 0)), (7, .int (nI 0)), (4, .int (nI (n / 24))), (5, .int (nI (n % 24))), (6, .int (Go ra)), (0, .ref (mo 0)), (1, .int (nI t)), (2, .int (nI ra))]) hx hb dX5_down_204 hl (k := 2) rfl (nI_1 _) (by decide) rfl (fun ls hl => ?_)
                    refine lv_goto (tgt := 107) hx hb dX5_down_207 (by decide) ?_
                    exact ih2 (d9 - 1) (by omega) (i + 1) _ E ls H locs (by omega) hm (up_s (T := fun j y => y = h_s (Fo ra) 34 / 2 ^ n / 16777216 ^ j % 16777216) hD (by have h9 := dn_c (A := h_s (Fo ra) 34) (n := n) (i := i); rw [h_hi hFa (by omega), h_hi hFa (by omega), Nat.zero_div, Nat.zero_mul] at h9; exact h9)) (up_g hg) (lv_sub hl [0, 3, 4, 5, 6, 7, 8, 9] rfl) hw
                  · exact absurd hc152 (by omega)
                · refine lv_aload_n hx hb dX5_down_124 rfl (lv_at hl 5 rfl) ?_
                  refine lv_iload_n hx hb dX5_down_125 rfl (lv_at hl 7 rfl) ?_
                  refine lv_iload hx hb dX5_down_126 (lv_at hl 0 rfl) ?_
                  refine lv_iload hx hb dX5_down_128 (lv_at hl 2 rfl) ?_
                  refine bd_iadd (v := nI (i + (n / 24))) hx hb dX5_down_130 (nI_add _ _) ?_
                  refine bd_cip (As := [.int (nI ra), .int (nI (i + (n / 24)))]) (rest := []) C (m5_at _ _ _ _ _ hm ra (i + (n / 24)) (by omega) (by omega)) (cwV 2 hts gX5_down_X5_at rfl rfl rfl (by decide +kernel) ⟨Nat.le_of_ble_eq_true rfl, Nat.le_of_ble_eq_true rfl⟩) hsz hw (md_recv C hw hm) dX5_down_131 rfl hl.1 rfl (Nat.le_of_ble_eq_true rfl) ⟨Nat.le_refl _, Nat.le_refl _⟩ (fun H locs hw => ?_)
                  rw [rd_k (F := Fo) (r := t) (a := ra) (k := i + n / 24) (fun q => by rw [q]; exact hg _ (by omega))]
                  refine lv_iload hx hb dX5_down_134 (lv_at hl 3 rfl) ?_
                  refine bd_ishr (v := (nI (Fo ra (i + n / 24) / 2 ^ (n % 24)))) hx hb dX5_down_136 (i_shn (Nat.lt_of_lt_of_le (hFa _ (by omega)) (by decide)) (by omega)) ?_
                  refine lv_goto (tgt := 141) hx hb dX5_down_137 (by decide) ?_
                  refine lv_istore (lv' := [(9, .int (nI (Fo ra (i + n / 24) / 2 ^ (n % 24)))), (8, .int (nI i)), (7, .int (nI 0)), (4, .int (nI (n / 24))), (5, .int (nI (n % 24))), (6, .int (Go ra)), (0, .ref (mo 0)), (1, .int (nI t)), (2, .int (nI ra))]) hx hb dX5_down_141 hl (by decide) rfl (fun ls hl => ?_)
                  refine lv_iload hx hb dX5_down_143 (lv_at hl 1 rfl) ?_
                  refine lv_iload hx hb dX5_down_145 (lv_at hl 3 rfl) ?_
                  refine bd_iadd (v := nI (i + (n / 24))) hx hb dX5_down_147 (nI_add _ _) ?_
                  refine lv_iconst (v := nI 1) hx hb dX5_down_148 (by decide) ?_
                  refine bd_iadd (v := nI ((i + (n / 24)) + 1)) hx hb dX5_down_149 (nI_add _ _) ?_
                  refine lv_bipush (v := nI 34) hx hb dX5_down_150 (by decide) ?_
                  refine bd_ige (h1 := by omega) (h2 := by omega) (tgt := 184) hx hb dX5_down_152 (by decide) (fun hc152 => ?_) (fun hc152 => ?_)
                  · refine lv_iconst (v := nI 0) hx hb dX5_down_184 (by decide) ?_
                    refine lv_istore (lv' := [(10, .int (nI 0)), (9, .int (nI (Fo ra (i + n / 24) / 2 ^ (n % 24)))), (8, .int (nI i)), (7, .int (nI 0)), (4, .int (nI (n / 24))), (5, .int (nI (n % 24))), (6, .int (Go ra)), (0, .ref (mo 0)), (1, .int (nI t)), (2, .int (nI ra))]) hx hb dX5_down_185 hl (by decide) rfl (fun ls hl => ?_)
                    refine lv_aload_n hx hb dX5_down_187 rfl (lv_at hl 7 rfl) ?_
                    refine md_g C i5 hw hm 3 (by decide) (v := .ref (mo 1)) rfl dX5_down_188 lk7 ?_
                    refine lv_bipush (v := nI 34) hx hb dX5_down_191 (by decide) ?_
                    refine lv_iload_n hx hb dX5_down_193 rfl (lv_at hl 8 rfl) ?_
                    refine bd_imul (v := nI (34 * t)) hx hb dX5_down_194 (nI_mul _ _) ?_
                    refine lv_iload hx hb dX5_down_195 (lv_at hl 2 rfl) ?_
                    refine bd_iadd (v := nI (34 * t + i)) hx hb dX5_down_197 (nI_add _ _) ?_
                    refine lv_iload hx hb dX5_down_198 (lv_at hl 1 rfl) ?_
                    refine lv_iload hx hb dX5_down_200 (lv_at hl 0 rfl) ?_
                    refine bd_ior (v := nI ((Fo ra (i + n / 24) / 2 ^ (n % 24)) ||| 0)) hx hb dX5_down_202 (i_or (Nat.lt_of_le_of_lt (Nat.div_le_self _ _) (Nat.lt_of_lt_of_le (hFa _ (by omega)) (by decide))) (by decide)) ?_
                    refine md_st1u C hw (r := t) (k := i) (x := ((Fo ra (i + n / 24) / 2 ^ (n % 24)) ||| 0)) hm dX5_down_203 (by omega) (by omega) (fun E H locs hm hw => ?_)
                    refine lv_iinc (v := (nI (i + 1))) (lv' := [(8, .int (nI (i + 1))), (10, .int (nI 0)), (9, .int (nI (Fo ra (i + n / 24) / 2 ^ (n % 24)))), (7, .int (nI 0)), (4, .int (nI (n / 24))), (5, .int (nI (n % 24))), (6, .int (Go ra)), (0, .ref (mo 0)), (1, .int (nI t)), (2, .int (nI ra))]) hx hb dX5_down_204 hl (k := 2) rfl (nI_1 _) (by decide) rfl (fun ls hl => ?_)
                    refine lv_goto (tgt := 107) hx hb dX5_down_207 (by decide) ?_
                    exact ih2 (d9 - 1) (by omega) (i + 1) _ E ls H locs (by omega) hm (up_s (T := fun j y => y = h_s (Fo ra) 34 / 2 ^ n / 16777216 ^ j % 16777216) hD (by have h9 := dn_c (A := h_s (Fo ra) 34) (n := n) (i := i); rw [h_dig hFa (by omega), h_hi hFa (by omega), Nat.zero_mul] at h9; exact h9)) (up_g hg) (lv_sub hl [0, 3, 4, 5, 6, 7, 8, 9] rfl) hw
                  · refine lv_iload hx hb dX5_down_155 (lv_at hl 4 rfl) ?_
                    refine bd_zle (h1 := (by omega)) (tgt := 184) hx hb dX5_down_157 (by decide) (fun hc157 => ?_) (fun hc157 => ?_)
                    · refine lv_iconst (v := nI 0) hx hb dX5_down_184 (by decide) ?_
                      refine lv_istore (lv' := [(10, .int (nI 0)), (9, .int (nI (Fo ra (i + n / 24) / 2 ^ (n % 24)))), (8, .int (nI i)), (7, .int (nI 0)), (4, .int (nI (n / 24))), (5, .int (nI (n % 24))), (6, .int (Go ra)), (0, .ref (mo 0)), (1, .int (nI t)), (2, .int (nI ra))]) hx hb dX5_down_185 hl (by decide) rfl (fun ls hl => ?_)
                      refine lv_aload_n hx hb dX5_down_187 rfl (lv_at hl 7 rfl) ?_
                      refine md_g C i5 hw hm 3 (by decide) (v := .ref (mo 1)) rfl dX5_down_188 lk7 ?_
                      refine lv_bipush (v := nI 34) hx hb dX5_down_191 (by decide) ?_
                      refine lv_iload_n hx hb dX5_down_193 rfl (lv_at hl 8 rfl) ?_
                      refine bd_imul (v := nI (34 * t)) hx hb dX5_down_194 (nI_mul _ _) ?_
                      refine lv_iload hx hb dX5_down_195 (lv_at hl 2 rfl) ?_
                      refine bd_iadd (v := nI (34 * t + i)) hx hb dX5_down_197 (nI_add _ _) ?_
                      refine lv_iload hx hb dX5_down_198 (lv_at hl 1 rfl) ?_
                      refine lv_iload hx hb dX5_down_200 (lv_at hl 0 rfl) ?_
                      refine bd_ior (v := nI ((Fo ra (i + n / 24) / 2 ^ (n % 24)) ||| 0)) hx hb dX5_down_202 (i_or (Nat.lt_of_le_of_lt (Nat.div_le_self _ _) (Nat.lt_of_lt_of_le (hFa _ (by omega)) (by decide))) (by decide)) ?_
                      refine md_st1u C hw (r := t) (k := i) (x := ((Fo ra (i + n / 24) / 2 ^ (n % 24)) ||| 0)) hm dX5_down_203 (by omega) (by omega) (fun E H locs hm hw => ?_)
                      refine lv_iinc (v := (nI (i + 1))) (lv' := [(8, .int (nI (i + 1))), (10, .int (nI 0)), (9, .int (nI (Fo ra (i + n / 24) / 2 ^ (n % 24)))), (7, .int (nI 0)), (4, .int (nI (n / 24))), (5, .int (nI (n % 24))), (6, .int (Go ra)), (0, .ref (mo 0)), (1, .int (nI t)), (2, .int (nI ra))]) hx hb dX5_down_204 hl (k := 2) rfl (nI_1 _) (by decide) rfl (fun ls hl => ?_)
                      refine lv_goto (tgt := 107) hx hb dX5_down_207 (by decide) ?_
                      exact ih2 (d9 - 1) (by omega) (i + 1) _ E ls H locs (by omega) hm (up_s (T := fun j y => y = h_s (Fo ra) 34 / 2 ^ n / 16777216 ^ j % 16777216) hD (by have h9 := dn_c (A := h_s (Fo ra) 34) (n := n) (i := i); rw [h_dig hFa (by omega), h_dig hFa (by omega), hc157] at h9; rw [hc157]; exact h9.symm ▸ (dn_0 _ _))) (up_g hg) (lv_sub hl [0, 3, 4, 5, 6, 7, 8, 9] rfl) hw
                    · refine lv_aload_n hx hb dX5_down_160 rfl (lv_at hl 6 rfl) ?_
                      refine lv_iload_n hx hb dX5_down_161 rfl (lv_at hl 8 rfl) ?_
                      refine lv_iload hx hb dX5_down_162 (lv_at hl 1 rfl) ?_
                      refine lv_iload hx hb dX5_down_164 (lv_at hl 3 rfl) ?_
                      refine bd_iadd (v := nI (i + (n / 24))) hx hb dX5_down_166 (nI_add _ _) ?_
                      refine lv_iconst (v := nI 1) hx hb dX5_down_167 (by decide) ?_
                      refine bd_iadd (v := nI ((i + (n / 24)) + 1)) hx hb dX5_down_168 (nI_add _ _) ?_
                      refine bd_cip (As := [.int (nI ra), .int (nI ((i + (n / 24)) + 1))]) (rest := []) C (m5_at _ _ _ _ _ hm ra ((i + (n / 24)) + 1) (by omega) (by omega)) (cwV 2 hts gX5_down_X5_at rfl rfl rfl (by decide +kernel) ⟨Nat.le_of_ble_eq_true rfl, Nat.le_of_ble_eq_true rfl⟩) hsz hw (md_recv C hw hm) dX5_down_169 rfl hl.1 rfl (Nat.le_of_ble_eq_true rfl) ⟨Nat.le_refl _, Nat.le_refl _⟩ (fun H locs hw => ?_)
                      rw [rd_k (F := Fo) (r := t) (a := ra) (k := i + n / 24 + 1) (fun q => by rw [q]; exact hg _ (by omega))]
                      refine lv_bipush (v := nI 24) hx hb dX5_down_172 (by decide) ?_
                      refine lv_iload hx hb dX5_down_174 (lv_at hl 4 rfl) ?_
                      refine bd_isub (v := (nI (24 - n % 24))) hx hb dX5_down_176 (pk_sub (by omega)) ?_
                      refine bd_ishl (v := (nI (Fo ra (i + n / 24 + 1) * 2 ^ (24 - n % 24)))) hx hb dX5_down_177 (i_shl _ (by omega)) ?_
                      refine lv_ldc (v := nI 16777215) hx hb hown (hts _ lk70) dX5_down_178 ?_
                      refine bd_iand (v := (nI (Fo ra (i + n / 24 + 1) * 2 ^ (24 - n % 24) % 16777216))) hx hb dX5_down_180 (i_msN _) ?_
                      refine lv_goto (tgt := 185) hx hb dX5_down_181 (by decide) ?_
                      refine lv_istore (lv' := [(10, .int (nI (Fo ra (i + n / 24 + 1) * 2 ^ (24 - n % 24) % 16777216))), (9, .int (nI (Fo ra (i + n / 24) / 2 ^ (n % 24)))), (8, .int (nI i)), (7, .int (nI 0)), (4, .int (nI (n / 24))), (5, .int (nI (n % 24))), (6, .int (Go ra)), (0, .ref (mo 0)), (1, .int (nI t)), (2, .int (nI ra))]) hx hb dX5_down_185 hl (by decide) rfl (fun ls hl => ?_)
                      refine lv_aload_n hx hb dX5_down_187 rfl (lv_at hl 7 rfl) ?_
                      refine md_g C i5 hw hm 3 (by decide) (v := .ref (mo 1)) rfl dX5_down_188 lk7 ?_
                      refine lv_bipush (v := nI 34) hx hb dX5_down_191 (by decide) ?_
                      refine lv_iload_n hx hb dX5_down_193 rfl (lv_at hl 8 rfl) ?_
                      refine bd_imul (v := nI (34 * t)) hx hb dX5_down_194 (nI_mul _ _) ?_
                      refine lv_iload hx hb dX5_down_195 (lv_at hl 2 rfl) ?_
                      refine bd_iadd (v := nI (34 * t + i)) hx hb dX5_down_197 (nI_add _ _) ?_
                      refine lv_iload hx hb dX5_down_198 (lv_at hl 1 rfl) ?_
                      refine lv_iload hx hb dX5_down_200 (lv_at hl 0 rfl) ?_
                      refine bd_ior (v := nI ((Fo ra (i + n / 24) / 2 ^ (n % 24)) ||| (Fo ra (i + n / 24 + 1) * 2 ^ (24 - n % 24) % 16777216))) hx hb dX5_down_202 (i_or (Nat.lt_of_le_of_lt (Nat.div_le_self _ _) (Nat.lt_of_lt_of_le (hFa _ (by omega)) (by decide))) (Nat.lt_of_lt_of_le (Nat.mod_lt _ (by decide)) (by decide))) ?_
                      refine md_st1u C hw (r := t) (k := i) (x := ((Fo ra (i + n / 24) / 2 ^ (n % 24)) ||| (Fo ra (i + n / 24 + 1) * 2 ^ (24 - n % 24) % 16777216))) hm dX5_down_203 (by omega) (by omega) (fun E H locs hm hw => ?_)
                      refine lv_iinc (v := (nI (i + 1))) (lv' := [(8, .int (nI (i + 1))), (10, .int (nI (Fo ra (i + n / 24 + 1) * 2 ^ (24 - n % 24) % 16777216))), (9, .int (nI (Fo ra (i + n / 24) / 2 ^ (n % 24)))), (7, .int (nI 0)), (4, .int (nI (n / 24))), (5, .int (nI (n % 24))), (6, .int (Go ra)), (0, .ref (mo 0)), (1, .int (nI t)), (2, .int (nI ra))]) hx hb dX5_down_204 hl (k := 2) rfl (nI_1 _) (by decide) rfl (fun ls hl => ?_)
                      refine lv_goto (tgt := 107) hx hb dX5_down_207 (by decide) ?_
                      exact ih2 (d9 - 1) (by omega) (i + 1) _ E ls H locs (by omega) hm (up_s (T := fun j y => y = h_s (Fo ra) 34 / 2 ^ n / 16777216 ^ j % 16777216) hD (by have h9 := dn_c (A := h_s (Fo ra) 34) (n := n) (i := i); rw [h_dig hFa (by omega), h_dig hFa (by omega)] at h9; exact h9)) (up_g hg) (lv_sub hl [0, 3, 4, 5, 6, 7, 8, 9] rfl) hw
          · have hlf : h_s (Fo ra) 34 % 2 ^ n ≠ 0 := fun h => absurd ((dn_z hFa hn).mp h).2 (by omega)
            refine lv_iconst (v := nI 1) hx hb dX5_down_97 (by decide) ?_
            refine lv_goto (tgt := 102) hx hb dX5_down_98 (by decide) ?_
            refine lv_istore (lv' := [(7, .int (nI 1)), (8, .int (nI i)), (4, .int (nI (n / 24))), (5, .int (nI (n % 24))), (6, .int (Go ra)), (0, .ref (mo 0)), (1, .int (nI t)), (2, .int (nI ra))]) hx hb dX5_down_102 hl (by decide) rfl (fun ls hl => ?_)
            refine lv_iconst (v := nI 0) hx hb dX5_down_104 (by decide) ?_
            refine lv_istore (lv' := [(8, .int (nI 0)), (7, .int (nI 1)), (4, .int (nI (n / 24))), (5, .int (nI (n % 24))), (6, .int (Go ra)), (0, .ref (mo 0)), (1, .int (nI t)), (2, .int (nI ra))]) hx hb dX5_down_105 hl (by decide) rfl (fun ls hl => ?_)
            suffices hloop : ∀ (d9 i : Nat) (f1 : Nat → Nat) (E : Nat → va_E) (ls : Array Slot) (H : Heap) (locs : List Loc), i + d9 = 34 → md_at K E mo th P (va_up Fo t f1) Go So Ro → (∀ j, j < i → f1 j = h_s (Fo ra) 34 / 2 ^ n / 16777216 ^ j % 16777216) → (∀ j, i ≤ j → f1 j = Fo t j) → lv_has ls 11 [(8, .int (nI i)), (7, .int (nI 1)), (4, .int (nI (n / 24))), (5, .int (nI (n % 24))), (6, .int (Go ra)), (0, .ref (mo 0)), (1, .int (nI t)), (2, .int (nI ra))] → bd_W K E z0 (bd_A K sz) s.heap H locs → W p l e (headSpec wsX5_down ({ frames := 5, cells := 0, slots := 0, locals := 160 })).room s m [.ref (mo 0), .int (nI t), .int (nI ra), .int (nI n)].toArray below meth c H locs 0 0 (MQ below (va_Qv (fun u => ∃ rg : Nat → Int, md_v K u.1 mo th P rg ∧ rg t = rg0 ra / ((2 ^ n : Nat) : Int) ∧ ∀ j, j ≠ t → j ≠ 32 → rg j = rg0 j) (bd_B K) (bd_A K sz)) [.ref (mo 0), .int (nI t), .int (nI ra), .int (nI n)].toArray s 0 0 (bd_A K sz)) (F0 m 107 ls []) from hloop 34 0 (Fo t) E ls _ _ (by omega) (by rw [va_upi]; exact hm) (fun j hj => absurd hj (by omega)) (fun _ _ => rfl) (lv_sub hl [0, 1, 2, 3, 4, 5, 6, 7] rfl) hw
            clear hw hl ls hm ih
            intro d9
            induction d9 using Nat.strongRecOn with
            | ind d9 ih2 =>
              intro i f1 E ls H locs hjd9 hm hD hg hl hw
              refine lv_iload hx hb dX5_down_107 (lv_at hl 0 rfl) ?_
              refine lv_bipush (v := nI 34) hx hb dX5_down_109 (by decide) ?_
              refine bd_ige (h1 := (by omega)) (h2 := (by omega)) (tgt := 210) hx hb dX5_down_111 (by decide) (fun hc111 => ?_) (fun hc111 => ?_)
              · have hi34 : i = 34 := by omega
                rw [hi34] at hD
                have hs1 : h_s f1 34 = (sv (rg0 ra) ((rg0 ra).natAbs / 2 ^ n)).natAbs := by
                  rw [sv_abs, ← hva]
                  exact h_ofd hD (Nat.lt_of_le_of_lt (Nat.div_le_self _ _) (h_lt hFa))
                have hb1 : ∀ m, m < 34 → f1 m < 16777216 := fun m hm9 => by rw [hD m hm9]; exact Nat.mod_lt _ (by decide)
                refine lv_aload_n hx hb dX5_down_210 rfl (lv_at hl 5 rfl) ?_
                refine lv_iload_n hx hb dX5_down_211 rfl (lv_at hl 6 rfl) ?_
                refine lv_iload hx hb dX5_down_212 (lv_at hl 4 rfl) ?_
                refine bd_cv (As := [.int (nI t), .int (Go ra)]) (rest := []) C (m5_settle _ _ _ _ _ hm t (Go ra) (by omega) (by rw [va_up_self]; exact hb1)) (cwV 2 hts gX5_down_X5_settle rfl rfl rfl (by decide +kernel) ⟨Nat.le_of_ble_eq_true rfl, Nat.le_of_ble_eq_true rfl⟩) hsz hw (md_recv C hw hm) dX5_down_214 rfl hl.1 rfl (Nat.le_of_ble_eq_true rfl) ⟨Nat.le_refl _, Nat.le_refl _⟩ (fun E z H locs hp hw => ?_)
                have hm := hp
                rw [va_up_self] at hm
                obtain ⟨rg1, hv, hv9, hf9⟩ := mv_end (z := z) hm hrg hb1 hs1 (sg_if hs1 (by rw [hga]; exact sv_sg (fun h0 => by rw [h0]; exact Nat.zero_div _)))
                rw [hva] at hlf
                refine lv_iload hx hb dX5_down_217 (lv_at hl 4 rfl) ?_
                refine lv_if_ge (tgt := 233) hx hb dX5_down_219 (by decide) (fun hc219 => ?_) (fun hc219 => ?_)
                · have hx9 : 0 ≤ rg0 ra := sg_ge (by rw [← hga]; exact hc219)
                  exact bd_vret C hr hlk hw dX5_down_233 ⟨rg1, hv, hv9.trans (fl_1 hx9), fun j h1 h2 => hf9 j h1⟩
                · have hx9 : rg0 ra < 0 := sg_nge (by rw [← hga]; exact hc219)
                  refine lv_iload hx hb dX5_down_222 (lv_at hl 1 rfl) ?_
                  refine bd_zeq (h1 := by decide) (tgt := 233) hx hb dX5_down_224 (by decide) (fun hc224 => ?_) (fun hc224 => ?_)
                  · exact absurd hc224 (by decide)
                  · refine lv_aload_n hx hb dX5_down_227 rfl (lv_at hl 5 rfl) ?_
                    refine lv_iload_n hx hb dX5_down_228 rfl (lv_at hl 6 rfl) ?_
                    refine lv_iconst (v := (-1)) hx hb dX5_down_229 (by decide) ?_
                    refine bd_cv (As := [.int (nI t), .int (-1)]) (rest := []) C (v5_addSmall _ _ _ _ _ hv t (-1) ht60 ht32 (by rw [hv9]; exact fl_b hx9 hfit (Nat.pow_pos (by decide)) hlf)) (cwV 2 hts gX5_down_X5_addSmall rfl rfl rfl (by decide +kernel) ⟨Nat.le_of_ble_eq_true rfl, Nat.le_of_ble_eq_true rfl⟩) hsz hw (mv_recv C hw hv) dX5_down_230 rfl hl.1 rfl (Nat.le_of_ble_eq_true rfl) ⟨Nat.le_refl _, Nat.le_refl _⟩ (fun E z H locs hp hw => ?_)
                    obtain ⟨rg2, hv2, hv8, hf8⟩ := hp
                    exact bd_vret C hr hlk hw dX5_down_233 ⟨rg2, hv2, by rw [hv8, hv9]; exact fl_3 (Nat.pow_pos (by decide)) hx9 hlf, fun j h1 h2 => (hf8 j h1 h2).trans (hf9 j h1)⟩
              · refine lv_iload hx hb dX5_down_114 (lv_at hl 0 rfl) ?_
                refine lv_iload hx hb dX5_down_116 (lv_at hl 2 rfl) ?_
                refine bd_iadd (v := nI (i + (n / 24))) hx hb dX5_down_118 (nI_add _ _) ?_
                refine lv_bipush (v := nI 34) hx hb dX5_down_119 (by decide) ?_
                refine bd_ige (h1 := (by omega)) (h2 := (by omega)) (tgt := 140) hx hb dX5_down_121 (by decide) (fun hc121 => ?_) (fun hc121 => ?_)
                · refine lv_iconst (v := nI 0) hx hb dX5_down_140 (by decide) ?_
                  refine lv_istore (lv' := [(9, .int (nI 0)), (8, .int (nI i)), (7, .int (nI 1)), (4, .int (nI (n / 24))), (5, .int (nI (n % 24))), (6, .int (Go ra)), (0, .ref (mo 0)), (1, .int (nI t)), (2, .int (nI ra))]) hx hb dX5_down_141 hl (by decide) rfl (fun ls hl => ?_)
                  refine lv_iload hx hb dX5_down_143 (lv_at hl 1 rfl) ?_
                  refine lv_iload hx hb dX5_down_145 (lv_at hl 3 rfl) ?_
                  refine bd_iadd (v := nI (i + (n / 24))) hx hb dX5_down_147 (nI_add _ _) ?_
                  refine lv_iconst (v := nI 1) hx hb dX5_down_148 (by decide) ?_
                  refine bd_iadd (v := nI ((i + (n / 24)) + 1)) hx hb dX5_down_149 (nI_add _ _) ?_
                  refine lv_bipush (v := nI 34) hx hb dX5_down_150 (by decide) ?_
                  refine bd_ige (h1 := by omega) (h2 := by omega) (tgt := 184) hx hb dX5_down_152 (by decide) (fun hc152 => ?_) (fun hc152 => ?_)
                  · refine lv_iconst (v := nI 0) hx hb dX5_down_184 (by decide) ?_
                    refine lv_istore (lv' := [(10, .int (nI 0)), (9, .int (nI 0)), (8, .int (nI i)), (7, .int (nI 1)), (4, .int (nI (n / 24))), (5, .int (nI (n % 24))), (6, .int (Go ra)), (0, .ref (mo 0)), (1, .int (nI t)), (2, .int (nI ra))]) hx hb dX5_down_185 hl (by decide) rfl (fun ls hl => ?_)
                    refine lv_aload_n hx hb dX5_down_187 rfl (lv_at hl 7 rfl) ?_
                    refine md_g C i5 hw hm 3 (by decide) (v := .ref (mo 1)) rfl dX5_down_188 lk7 ?_
                    refine lv_bipush (v := nI 34) hx hb dX5_down_191 (by decide) ?_
                    refine lv_iload_n hx hb dX5_down_193 rfl (lv_at hl 8 rfl) ?_
                    refine bd_imul (v := nI (34 * t)) hx hb dX5_down_194 (nI_mul _ _) ?_
                    refine lv_iload hx hb dX5_down_195 (lv_at hl 2 rfl) ?_
                    refine bd_iadd (v := nI (34 * t + i)) hx hb dX5_down_197 (nI_add _ _) ?_
                    refine lv_iload hx hb dX5_down_198 (lv_at hl 1 rfl) ?_
                    refine lv_iload hx hb dX5_down_200 (lv_at hl 0 rfl) ?_
                    refine bd_ior (v := nI (0 ||| 0)) hx hb dX5_down_202 (i_or (by decide) (by decide)) ?_
                    refine md_st1u C hw (r := t) (k := i) (x := (0 ||| 0)) hm dX5_down_203 (by omega) (by omega) (fun E H locs hm hw => ?_)
                    refine lv_iinc (v := (nI (i + 1))) (lv' := [(8, .int (nI (i + 1))), (10, .int (nI 0)), (9, .int (nI 0)), (7, .int (nI 1)), (4, .int (nI (n / 24))), (5, .int (nI (n % 24))), (6, .int (Go ra)), (0, .ref (mo 0)), (1, .int (nI t)), (2, .int (nI ra))]) hx hb dX5_down_204 hl (k := 2) rfl (nI_1 _) (by decide) rfl (fun ls hl => ?_)
                    refine lv_goto (tgt := 107) hx hb dX5_down_207 (by decide) ?_
                    exact ih2 (d9 - 1) (by omega) (i + 1) _ E ls H locs (by omega) hm (up_s (T := fun j y => y = h_s (Fo ra) 34 / 2 ^ n / 16777216 ^ j % 16777216) hD (by have h9 := dn_c (A := h_s (Fo ra) 34) (n := n) (i := i); rw [h_hi hFa (by omega), h_hi hFa (by omega), Nat.zero_div, Nat.zero_mul] at h9; exact h9)) (up_g hg) (lv_sub hl [0, 3, 4, 5, 6, 7, 8, 9] rfl) hw
                  · exact absurd hc152 (by omega)
                · refine lv_aload_n hx hb dX5_down_124 rfl (lv_at hl 5 rfl) ?_
                  refine lv_iload_n hx hb dX5_down_125 rfl (lv_at hl 7 rfl) ?_
                  refine lv_iload hx hb dX5_down_126 (lv_at hl 0 rfl) ?_
                  refine lv_iload hx hb dX5_down_128 (lv_at hl 2 rfl) ?_
                  refine bd_iadd (v := nI (i + (n / 24))) hx hb dX5_down_130 (nI_add _ _) ?_
                  refine bd_cip (As := [.int (nI ra), .int (nI (i + (n / 24)))]) (rest := []) C (m5_at _ _ _ _ _ hm ra (i + (n / 24)) (by omega) (by omega)) (cwV 2 hts gX5_down_X5_at rfl rfl rfl (by decide +kernel) ⟨Nat.le_of_ble_eq_true rfl, Nat.le_of_ble_eq_true rfl⟩) hsz hw (md_recv C hw hm) dX5_down_131 rfl hl.1 rfl (Nat.le_of_ble_eq_true rfl) ⟨Nat.le_refl _, Nat.le_refl _⟩ (fun H locs hw => ?_)
                  rw [rd_k (F := Fo) (r := t) (a := ra) (k := i + n / 24) (fun q => by rw [q]; exact hg _ (by omega))]
                  refine lv_iload hx hb dX5_down_134 (lv_at hl 3 rfl) ?_
                  refine bd_ishr (v := (nI (Fo ra (i + n / 24) / 2 ^ (n % 24)))) hx hb dX5_down_136 (i_shn (Nat.lt_of_lt_of_le (hFa _ (by omega)) (by decide)) (by omega)) ?_
                  refine lv_goto (tgt := 141) hx hb dX5_down_137 (by decide) ?_
                  refine lv_istore (lv' := [(9, .int (nI (Fo ra (i + n / 24) / 2 ^ (n % 24)))), (8, .int (nI i)), (7, .int (nI 1)), (4, .int (nI (n / 24))), (5, .int (nI (n % 24))), (6, .int (Go ra)), (0, .ref (mo 0)), (1, .int (nI t)), (2, .int (nI ra))]) hx hb dX5_down_141 hl (by decide) rfl (fun ls hl => ?_)
                  refine lv_iload hx hb dX5_down_143 (lv_at hl 1 rfl) ?_
                  refine lv_iload hx hb dX5_down_145 (lv_at hl 3 rfl) ?_
                  refine bd_iadd (v := nI (i + (n / 24))) hx hb dX5_down_147 (nI_add _ _) ?_
                  refine lv_iconst (v := nI 1) hx hb dX5_down_148 (by decide) ?_
                  refine bd_iadd (v := nI ((i + (n / 24)) + 1)) hx hb dX5_down_149 (nI_add _ _) ?_
                  refine lv_bipush (v := nI 34) hx hb dX5_down_150 (by decide) ?_
                  refine bd_ige (h1 := by omega) (h2 := by omega) (tgt := 184) hx hb dX5_down_152 (by decide) (fun hc152 => ?_) (fun hc152 => ?_)
                  · refine lv_iconst (v := nI 0) hx hb dX5_down_184 (by decide) ?_
                    refine lv_istore (lv' := [(10, .int (nI 0)), (9, .int (nI (Fo ra (i + n / 24) / 2 ^ (n % 24)))), (8, .int (nI i)), (7, .int (nI 1)), (4, .int (nI (n / 24))), (5, .int (nI (n % 24))), (6, .int (Go ra)), (0, .ref (mo 0)), (1, .int (nI t)), (2, .int (nI ra))]) hx hb dX5_down_185 hl (by decide) rfl (fun ls hl => ?_)
                    refine lv_aload_n hx hb dX5_down_187 rfl (lv_at hl 7 rfl) ?_
                    refine md_g C i5 hw hm 3 (by decide) (v := .ref (mo 1)) rfl dX5_down_188 lk7 ?_
                    refine lv_bipush (v := nI 34) hx hb dX5_down_191 (by decide) ?_
                    refine lv_iload_n hx hb dX5_down_193 rfl (lv_at hl 8 rfl) ?_
                    refine bd_imul (v := nI (34 * t)) hx hb dX5_down_194 (nI_mul _ _) ?_
                    refine lv_iload hx hb dX5_down_195 (lv_at hl 2 rfl) ?_
                    refine bd_iadd (v := nI (34 * t + i)) hx hb dX5_down_197 (nI_add _ _) ?_
                    refine lv_iload hx hb dX5_down_198 (lv_at hl 1 rfl) ?_
                    refine lv_iload hx hb dX5_down_200 (lv_at hl 0 rfl) ?_
                    refine bd_ior (v := nI ((Fo ra (i + n / 24) / 2 ^ (n % 24)) ||| 0)) hx hb dX5_down_202 (i_or (Nat.lt_of_le_of_lt (Nat.div_le_self _ _) (Nat.lt_of_lt_of_le (hFa _ (by omega)) (by decide))) (by decide)) ?_
                    refine md_st1u C hw (r := t) (k := i) (x := ((Fo ra (i + n / 24) / 2 ^ (n % 24)) ||| 0)) hm dX5_down_203 (by omega) (by omega) (fun E H locs hm hw => ?_)
                    refine lv_iinc (v := (nI (i + 1))) (lv' := [(8, .int (nI (i + 1))), (10, .int (nI 0)), (9, .int (nI (Fo ra (i + n / 24) / 2 ^ (n % 24)))), (7, .int (nI 1)), (4, .int (nI (n / 24))), (5, .int (nI (n % 24))), (6, .int (Go ra)), (0, .ref (mo 0)), (1, .int (nI t)), (2, .int (nI ra))]) hx hb dX5_down_204 hl (k := 2) rfl (nI_1 _) (by decide) rfl (fun ls hl => ?_)
                    refine lv_goto (tgt := 107) hx hb dX5_down_207 (by decide) ?_
                    exact ih2 (d9 - 1) (by omega) (i + 1) _ E ls H locs (by omega) hm (up_s (T := fun j y => y = h_s (Fo ra) 34 / 2 ^ n / 16777216 ^ j % 16777216) hD (by have h9 := dn_c (A := h_s (Fo ra) 34) (n := n) (i := i); rw [h_dig hFa (by omega), h_hi hFa (by omega), Nat.zero_mul] at h9; exact h9)) (up_g hg) (lv_sub hl [0, 3, 4, 5, 6, 7, 8, 9] rfl) hw
                  · refine lv_iload hx hb dX5_down_155 (lv_at hl 4 rfl) ?_
                    refine bd_zle (h1 := (by omega)) (tgt := 184) hx hb dX5_down_157 (by decide) (fun hc157 => ?_) (fun hc157 => ?_)
                    · refine lv_iconst (v := nI 0) hx hb dX5_down_184 (by decide) ?_
                      refine lv_istore (lv' := [(10, .int (nI 0)), (9, .int (nI (Fo ra (i + n / 24) / 2 ^ (n % 24)))), (8, .int (nI i)), (7, .int (nI 1)), (4, .int (nI (n / 24))), (5, .int (nI (n % 24))), (6, .int (Go ra)), (0, .ref (mo 0)), (1, .int (nI t)), (2, .int (nI ra))]) hx hb dX5_down_185 hl (by decide) rfl (fun ls hl => ?_)
                      refine lv_aload_n hx hb dX5_down_187 rfl (lv_at hl 7 rfl) ?_
                      refine md_g C i5 hw hm 3 (by decide) (v := .ref (mo 1)) rfl dX5_down_188 lk7 ?_
                      refine lv_bipush (v := nI 34) hx hb dX5_down_191 (by decide) ?_
                      refine lv_iload_n hx hb dX5_down_193 rfl (lv_at hl 8 rfl) ?_
                      refine bd_imul (v := nI (34 * t)) hx hb dX5_down_194 (nI_mul _ _) ?_
                      refine lv_iload hx hb dX5_down_195 (lv_at hl 2 rfl) ?_
                      refine bd_iadd (v := nI (34 * t + i)) hx hb dX5_down_197 (nI_add _ _) ?_
                      refine lv_iload hx hb dX5_down_198 (lv_at hl 1 rfl) ?_
                      refine lv_iload hx hb dX5_down_200 (lv_at hl 0 rfl) ?_
                      refine bd_ior (v := nI ((Fo ra (i + n / 24) / 2 ^ (n % 24)) ||| 0)) hx hb dX5_down_202 (i_or (Nat.lt_of_le_of_lt (Nat.div_le_self _ _) (Nat.lt_of_lt_of_le (hFa _ (by omega)) (by decide))) (by decide)) ?_
                      refine md_st1u C hw (r := t) (k := i) (x := ((Fo ra (i + n / 24) / 2 ^ (n % 24)) ||| 0)) hm dX5_down_203 (by omega) (by omega) (fun E H locs hm hw => ?_)
                      refine lv_iinc (v := (nI (i + 1))) (lv' := [(8, .int (nI (i + 1))), (10, .int (nI 0)), (9, .int (nI (Fo ra (i + n / 24) / 2 ^ (n % 24)))), (7, .int (nI 1)), (4, .int (nI (n / 24))), (5, .int (nI (n % 24))), (6, .int (Go ra)), (0, .ref (mo 0)), (1, .int (nI t)), (2, .int (nI ra))]) hx hb dX5_down_204 hl (k := 2) rfl (nI_1 _) (by decide) rfl (fun ls hl => ?_)
                      refine lv_goto (tgt := 107) hx hb dX5_down_207 (by decide) ?_
                      exact ih2 (d9 - 1) (by omega) (i + 1) _ E ls H locs (by omega) hm (up_s (T := fun j y => y = h_s (Fo ra) 34 / 2 ^ n / 16777216 ^ j % 16777216) hD (by have h9 := dn_c (A := h_s (Fo ra) 34) (n := n) (i := i); rw [h_dig hFa (by omega), h_dig hFa (by omega), hc157] at h9; rw [hc157]; exact h9.symm ▸ (dn_0 _ _))) (up_g hg) (lv_sub hl [0, 3, 4, 5, 6, 7, 8, 9] rfl) hw
                    · refine lv_aload_n hx hb dX5_down_160 rfl (lv_at hl 6 rfl) ?_
                      refine lv_iload_n hx hb dX5_down_161 rfl (lv_at hl 8 rfl) ?_
                      refine lv_iload hx hb dX5_down_162 (lv_at hl 1 rfl) ?_
                      refine lv_iload hx hb dX5_down_164 (lv_at hl 3 rfl) ?_
                      refine bd_iadd (v := nI (i + (n / 24))) hx hb dX5_down_166 (nI_add _ _) ?_
                      refine lv_iconst (v := nI 1) hx hb dX5_down_167 (by decide) ?_
                      refine bd_iadd (v := nI ((i + (n / 24)) + 1)) hx hb dX5_down_168 (nI_add _ _) ?_
                      refine bd_cip (As := [.int (nI ra), .int (nI ((i + (n / 24)) + 1))]) (rest := []) C (m5_at _ _ _ _ _ hm ra ((i + (n / 24)) + 1) (by omega) (by omega)) (cwV 2 hts gX5_down_X5_at rfl rfl rfl (by decide +kernel) ⟨Nat.le_of_ble_eq_true rfl, Nat.le_of_ble_eq_true rfl⟩) hsz hw (md_recv C hw hm) dX5_down_169 rfl hl.1 rfl (Nat.le_of_ble_eq_true rfl) ⟨Nat.le_refl _, Nat.le_refl _⟩ (fun H locs hw => ?_)
                      rw [rd_k (F := Fo) (r := t) (a := ra) (k := i + n / 24 + 1) (fun q => by rw [q]; exact hg _ (by omega))]
                      refine lv_bipush (v := nI 24) hx hb dX5_down_172 (by decide) ?_
                      refine lv_iload hx hb dX5_down_174 (lv_at hl 4 rfl) ?_
                      refine bd_isub (v := (nI (24 - n % 24))) hx hb dX5_down_176 (pk_sub (by omega)) ?_
                      refine bd_ishl (v := (nI (Fo ra (i + n / 24 + 1) * 2 ^ (24 - n % 24)))) hx hb dX5_down_177 (i_shl _ (by omega)) ?_
                      refine lv_ldc (v := nI 16777215) hx hb hown (hts _ lk70) dX5_down_178 ?_
                      refine bd_iand (v := (nI (Fo ra (i + n / 24 + 1) * 2 ^ (24 - n % 24) % 16777216))) hx hb dX5_down_180 (i_msN _) ?_
                      refine lv_goto (tgt := 185) hx hb dX5_down_181 (by decide) ?_
                      refine lv_istore (lv' := [(10, .int (nI (Fo ra (i + n / 24 + 1) * 2 ^ (24 - n % 24) % 16777216))), (9, .int (nI (Fo ra (i + n / 24) / 2 ^ (n % 24)))), (8, .int (nI i)), (7, .int (nI 1)), (4, .int (nI (n / 24))), (5, .int (nI (n % 24))), (6, .int (Go ra)), (0, .ref (mo 0)), (1, .int (nI t)), (2, .int (nI ra))]) hx hb dX5_down_185 hl (by decide) rfl (fun ls hl => ?_)
                      refine lv_aload_n hx hb dX5_down_187 rfl (lv_at hl 7 rfl) ?_
                      refine md_g C i5 hw hm 3 (by decide) (v := .ref (mo 1)) rfl dX5_down_188 lk7 ?_
                      refine lv_bipush (v := nI 34) hx hb dX5_down_191 (by decide) ?_
                      refine lv_iload_n hx hb dX5_down_193 rfl (lv_at hl 8 rfl) ?_
                      refine bd_imul (v := nI (34 * t)) hx hb dX5_down_194 (nI_mul _ _) ?_
                      refine lv_iload hx hb dX5_down_195 (lv_at hl 2 rfl) ?_
                      refine bd_iadd (v := nI (34 * t + i)) hx hb dX5_down_197 (nI_add _ _) ?_
                      refine lv_iload hx hb dX5_down_198 (lv_at hl 1 rfl) ?_
                      refine lv_iload hx hb dX5_down_200 (lv_at hl 0 rfl) ?_
                      refine bd_ior (v := nI ((Fo ra (i + n / 24) / 2 ^ (n % 24)) ||| (Fo ra (i + n / 24 + 1) * 2 ^ (24 - n % 24) % 16777216))) hx hb dX5_down_202 (i_or (Nat.lt_of_le_of_lt (Nat.div_le_self _ _) (Nat.lt_of_lt_of_le (hFa _ (by omega)) (by decide))) (Nat.lt_of_lt_of_le (Nat.mod_lt _ (by decide)) (by decide))) ?_
                      refine md_st1u C hw (r := t) (k := i) (x := ((Fo ra (i + n / 24) / 2 ^ (n % 24)) ||| (Fo ra (i + n / 24 + 1) * 2 ^ (24 - n % 24) % 16777216))) hm dX5_down_203 (by omega) (by omega) (fun E H locs hm hw => ?_)
                      refine lv_iinc (v := (nI (i + 1))) (lv' := [(8, .int (nI (i + 1))), (10, .int (nI (Fo ra (i + n / 24 + 1) * 2 ^ (24 - n % 24) % 16777216))), (9, .int (nI (Fo ra (i + n / 24) / 2 ^ (n % 24)))), (7, .int (nI 1)), (4, .int (nI (n / 24))), (5, .int (nI (n % 24))), (6, .int (Go ra)), (0, .ref (mo 0)), (1, .int (nI t)), (2, .int (nI ra))]) hx hb dX5_down_204 hl (k := 2) rfl (nI_1 _) (by decide) rfl (fun ls hl => ?_)
                      refine lv_goto (tgt := 107) hx hb dX5_down_207 (by decide) ?_
                      exact ih2 (d9 - 1) (by omega) (i + 1) _ E ls H locs (by omega) hm (up_s (T := fun j y => y = h_s (Fo ra) 34 / 2 ^ n / 16777216 ^ j % 16777216) hD (by have h9 := dn_c (A := h_s (Fo ra) 34) (n := n) (i := i); rw [h_dig hFa (by omega), h_dig hFa (by omega)] at h9; exact h9)) (up_g hg) (lv_sub hl [0, 3, 4, 5, 6, 7, 8, 9] rfl) hw
    · refine lv_iload hx hb dX5_down_33 (lv_at hl 0 rfl) ?_
      refine lv_bipush (v := nI 34) hx hb dX5_down_35 (by decide) ?_
      refine bd_ige (h1 := (by omega)) (h2 := (by omega)) (tgt := 68) hx hb dX5_down_37 (by decide) (fun hc37 => ?_) (fun hc37 => ?_)
      · exact absurd hc37 (by omega)
      · refine lv_iload hx hb dX5_down_40 (lv_at hl 1 rfl) ?_
        refine bd_zne (h1 := (by omega)) (tgt := 55) hx hb dX5_down_42 (by decide) (fun hc42 => ?_) (fun hc42 => ?_)
        · refine lv_iconst (v := nI 1) hx hb dX5_down_55 (by decide) ?_
          refine lv_goto (tgt := 60) hx hb dX5_down_56 (by decide) ?_
          refine lv_istore (lv' := [(7, .int (nI 1)), (8, .int (nI i)), (4, .int (nI (n / 24))), (5, .int (nI (n % 24))), (6, .int (Go ra)), (0, .ref (mo 0)), (1, .int (nI t)), (2, .int (nI ra))]) hx hb dX5_down_60 hl (by decide) rfl (fun ls hl => ?_)
          refine lv_iinc (v := (nI (i + 1))) (lv' := [(8, .int (nI (i + 1))), (7, .int (nI 1)), (4, .int (nI (n / 24))), (5, .int (nI (n % 24))), (6, .int (Go ra)), (0, .ref (mo 0)), (1, .int (nI t)), (2, .int (nI ra))]) hx hb dX5_down_62 hl (k := 1) rfl (nI_1 _) (by decide) rfl (fun ls hl => ?_)
          refine lv_goto (tgt := 26) hx hb dX5_down_65 (by decide) ?_
          exact ih (d9 - 1) (by omega) (i + 1) 1 E ls H locs (by omega) hm (by decide) (Or.inr ⟨rfl, hq.elim (fun h => absurd h.1 (by omega)) (fun h => h.2.elim (fun j hj => ⟨j, by omega, hj.2⟩))⟩) (lv_sub hl [0, 1, 2, 3, 4, 5, 6, 7] rfl) hw
        · refine lv_aload_n hx hb dX5_down_45 rfl (lv_at hl 5 rfl) ?_
          refine lv_iload_n hx hb dX5_down_46 rfl (lv_at hl 7 rfl) ?_
          refine lv_iload hx hb dX5_down_47 (lv_at hl 0 rfl) ?_
          refine bd_cip (As := [.int (nI ra), .int (nI i)]) (rest := []) C (m5_at _ _ _ _ _ hm ra i (by omega) (by omega)) (cwV 2 hts gX5_down_X5_at rfl rfl rfl (by decide +kernel) ⟨Nat.le_of_ble_eq_true rfl, Nat.le_of_ble_eq_true rfl⟩) hsz hw (md_recv C hw hm) dX5_down_49 rfl hl.1 rfl (Nat.le_of_ble_eq_true rfl) ⟨Nat.le_refl _, Nat.le_refl _⟩ (fun H locs hw => ?_)
          refine bd_zeq (h1 := (Nat.lt_of_lt_of_le (hFa i (by omega)) (by decide))) (tgt := 59) hx hb dX5_down_52 (by decide) (fun hc52 => ?_) (fun hc52 => ?_)
          · refine lv_iconst (v := nI 0) hx hb dX5_down_59 (by decide) ?_
            refine lv_istore (lv' := [(7, .int (nI 0)), (8, .int (nI i)), (4, .int (nI (n / 24))), (5, .int (nI (n % 24))), (6, .int (Go ra)), (0, .ref (mo 0)), (1, .int (nI t)), (2, .int (nI ra))]) hx hb dX5_down_60 hl (by decide) rfl (fun ls hl => ?_)
            refine lv_iinc (v := (nI (i + 1))) (lv' := [(8, .int (nI (i + 1))), (7, .int (nI 0)), (4, .int (nI (n / 24))), (5, .int (nI (n % 24))), (6, .int (Go ra)), (0, .ref (mo 0)), (1, .int (nI t)), (2, .int (nI ra))]) hx hb dX5_down_62 hl (k := 1) rfl (nI_1 _) (by decide) rfl (fun ls hl => ?_)
            refine lv_goto (tgt := 26) hx hb dX5_down_65 (by decide) ?_
            exact ih (d9 - 1) (by omega) (i + 1) 0 E ls H locs (by omega) hm (by decide) (Or.inl ⟨rfl, fun j hj => (Nat.lt_or_ge j i).elim (fun h => hq.elim (fun g => g.2 j h) (fun g => absurd g.1 (by omega))) (fun h => by rw [show j = i by omega]; exact hc52)⟩) (lv_sub hl [0, 1, 2, 3, 4, 5, 6, 7] rfl) hw
          · refine lv_iconst (v := nI 1) hx hb dX5_down_55 (by decide) ?_
            refine lv_goto (tgt := 60) hx hb dX5_down_56 (by decide) ?_
            refine lv_istore (lv' := [(7, .int (nI 1)), (8, .int (nI i)), (4, .int (nI (n / 24))), (5, .int (nI (n % 24))), (6, .int (Go ra)), (0, .ref (mo 0)), (1, .int (nI t)), (2, .int (nI ra))]) hx hb dX5_down_60 hl (by decide) rfl (fun ls hl => ?_)
            refine lv_iinc (v := (nI (i + 1))) (lv' := [(8, .int (nI (i + 1))), (7, .int (nI 1)), (4, .int (nI (n / 24))), (5, .int (nI (n % 24))), (6, .int (Go ra)), (0, .ref (mo 0)), (1, .int (nI t)), (2, .int (nI ra))]) hx hb dX5_down_62 hl (k := 1) rfl (nI_1 _) (by decide) rfl (fun ls hl => ?_)
            refine lv_goto (tgt := 26) hx hb dX5_down_65 (by decide) ?_
            exact ih (d9 - 1) (by omega) (i + 1) 1 E ls H locs (by omega) hm (by decide) (Or.inr ⟨rfl, i, by omega, by omega⟩) (lv_sub hl [0, 1, 2, 3, 4, 5, 6, 7] rfl) hw
set_option maxHeartbeats 4000000 in
set_option maxRecDepth 100000 in
/-- divideSmall(t, a, b) -/
theorem v5_divideSmall (l : Launch) (K : Cxt) (E0 : Nat → va_E) (z0 : Nat → Wh) (sz : Nat) {mo : Nat → Nat} {th : Int32} {P : Nat} {rg0 : Nat → Int} (hv : md_v K E0 mo th P rg0) (t ra b : Nat) (ht60 : t < 60) (ha60 : ra < 60) (ht32 : t ≠ 32) (hb0 : 0 < b) (hb31 : b < 2 ^ 31) : Met l yX5_divideSmall wsX5_divideSmall ({ frames := 5, cells := 0, slots := 0, locals := 160 }) (va_Pc [.ref (mo 0), .int (nI t), .int (nI ra), .int (nI b)] (bd_P K E0 z0 sz)) (va_Qv (fun u => ∃ rg : Nat → Int, md_v K u.1 mo th P rg ∧ rg t = rg0 ra / (b : Int) ∧ ∀ j, j ≠ t → j ≠ 32 → rg j = rg0 j) (bd_B K) (bd_A K sz)) 0 0 (bd_A K sz) := by
  refine bd_ofW (cc := cX5_divideSmall) (maxL := 8) (ret := none) (by decide) rfl (Nat.le_of_ble_eq_true rfl) ?_
  intro p e s m below meth c ls C hr hlk hsz hw hl
  have hx := C.1
  have hb := C.2.1
  have hown := C.2.2.2.1
  have hts := C.2.2.2.2.1
  have i5 : ∀ w ∈ wsX50, w ∈ wsX5_divideSmall := by decide +kernel
  have lk13 : Cond.fieldLink RX5 13 "BallDeskModel" "signs" "[I" ∈ wsX5_divideSmall := by decide +kernel
  have lk7 : Cond.fieldLink RX5 7 "BallDeskModel" "limbs" "[I" ∈ wsX5_divideSmall := by decide +kernel
  have hl : lv_has ls 8 [(0, .ref (mo 0)), (1, .int (nI t)), (2, .int (nI ra)), (3, .int (nI b))] := hl
  obtain ⟨Fo, Go, So, Ro, hm, hrg⟩ := hv
  obtain ⟨hP1, hP2⟩ := md_P hm
  obtain ⟨hFa, hva, hga⟩ := hrg ra ha60
  have hfit : (rg0 ra).natAbs < 16777216 ^ 34 := by rw [← hva]; exact h_lt hFa
  refine lv_aload_n hx hb dX5_divideSmall_0 rfl (lv_at hl 0 rfl) ?_
  refine md_g C i5 hw hm 4 (by decide) (v := .ref (mo 2)) rfl dX5_divideSmall_1 lk13 ?_
  refine lv_iload_n hx hb dX5_divideSmall_4 rfl (lv_at hl 2 rfl) ?_
  refine md_ld2 C hw hm dX5_divideSmall_5 (by omega) ?_
  refine lv_istore (lv' := [(4, .int (Go ra)), (0, .ref (mo 0)), (1, .int (nI t)), (2, .int (nI ra)), (3, .int (nI b))]) hx hb dX5_divideSmall_6 hl (by decide) rfl (fun ls hl => ?_)
  refine lv_lconst (v := lN 0) hx hb dX5_divideSmall_8 rfl ?_
  refine lv_lstore (lv' := [(5, .long (lN 0)), (4, .int (Go ra)), (0, .ref (mo 0)), (1, .int (nI t)), (2, .int (nI ra)), (3, .int (nI b))]) hx hb dX5_divideSmall_9 hl (by decide) rfl (fun ls hl => ?_)
  refine lv_bipush (v := nI 33) hx hb dX5_divideSmall_11 (by decide) ?_
  refine lv_istore (lv' := [(7, .int (nI 33)), (5, .long (lN 0)), (4, .int (Go ra)), (0, .ref (mo 0)), (1, .int (nI t)), (2, .int (nI ra)), (3, .int (nI b))]) hx hb dX5_divideSmall_13 hl (by decide) rfl (fun ls hl => ?_)
  suffices hloop : ∀ (k : Nat) (f1 : Nat → Nat) (E : Nat → va_E) (ls : Array Slot) (H : Heap) (locs : List Loc), k ≤ 34 → md_at K E mo th P (va_up Fo t f1) Go So Ro → (∀ m, k ≤ m → m < 34 → f1 m = h_s (Fo ra) 34 / b / 16777216 ^ m % 16777216) → (∀ m, m < k → f1 m = Fo t m) → lv_has ls 8 [(7, .int (nI k - nI 1)), (5, .long (lN (h_s (Fo ra) 34 / 16777216 ^ k % b))), (4, .int (Go ra)), (0, .ref (mo 0)), (1, .int (nI t)), (2, .int (nI ra)), (3, .int (nI b))] → bd_W K E z0 (bd_A K sz) s.heap H locs → W p l e (headSpec wsX5_divideSmall ({ frames := 5, cells := 0, slots := 0, locals := 160 })).room s m [.ref (mo 0), .int (nI t), .int (nI ra), .int (nI b)].toArray below meth c H locs 0 0 (MQ below (va_Qv (fun u => ∃ rg : Nat → Int, md_v K u.1 mo th P rg ∧ rg t = rg0 ra / (b : Int) ∧ ∀ j, j ≠ t → j ≠ 32 → rg j = rg0 j) (bd_B K) (bd_A K sz)) [.ref (mo 0), .int (nI t), .int (nI ra), .int (nI b)].toArray s 0 0 (bd_A K sz)) (F0 m 15 ls []) from hloop 34 (Fo t) E0 ls _ _ (by omega) (by rw [va_upi]; exact hm) (fun m h1 h2 => absurd h1 (by omega)) (fun _ _ => rfl) (by rw [ds_0 hFa]; exact (lv_sub hl [0, 1, 2, 3, 4, 5, 6] rfl)) hw
  clear hw hl ls hm 
  intro k
  induction k using Nat.strongRecOn with
  | ind k ih =>
    intro f1 E ls H locs hk34 hm hD hg hl hw
    rcases k with _ | j
    · skip
      refine lv_iload hx hb dX5_divideSmall_15 (lv_at hl 0 rfl) ?_
      refine lv_if_lt (tgt := 67) hx hb dX5_divideSmall_17 (by decide) (fun hc17 => ?_) (fun hc17 => ?_)
      · refine lv_aload_n hx hb dX5_divideSmall_67 rfl (lv_at hl 3 rfl) ?_
        refine lv_iload_n hx hb dX5_divideSmall_68 rfl (lv_at hl 4 rfl) ?_
        refine lv_iload hx hb dX5_divideSmall_69 (lv_at hl 2 rfl) ?_
        have hs1 : h_s f1 34 = (sv (rg0 ra) ((rg0 ra).natAbs / b)).natAbs := by
          rw [sv_abs, ← hva]
          exact h_ofd (fun m hm9 => hD m (Nat.zero_le _) hm9) (Nat.lt_of_le_of_lt (Nat.div_le_self _ _) (h_lt hFa))
        have hb1 : ∀ m, m < 34 → f1 m < 16777216 := fun m hm9 => by rw [hD m (Nat.zero_le _) hm9]; exact Nat.mod_lt _ (by decide)
        refine bd_cv (As := [.int (nI t), .int (Go ra)]) (rest := []) C (m5_settle _ _ _ _ _ hm t (Go ra) (by omega) (by rw [va_up_self]; exact hb1)) (cwV 2 hts gX5_divideSmall_X5_settle rfl rfl rfl (by decide +kernel) ⟨Nat.le_of_ble_eq_true rfl, Nat.le_of_ble_eq_true rfl⟩) hsz hw (md_recv C hw hm) dX5_divideSmall_71 rfl hl.1 rfl (Nat.le_of_ble_eq_true rfl) ⟨Nat.le_refl _, Nat.le_refl _⟩ (fun E z H locs hp hw => ?_)
        have hm := hp
        rw [va_up_self] at hm
        obtain ⟨rg1, hv, hv9, hf9⟩ := mv_end (z := z) hm hrg hb1 hs1 (sg_if hs1 (by rw [hga]; exact sv_sg (fun h0 => by rw [h0]; exact Nat.zero_div _)))
        refine lv_iload hx hb dX5_divideSmall_74 (lv_at hl 2 rfl) ?_
        refine lv_if_ge (tgt := 92) hx hb dX5_divideSmall_76 (by decide) (fun hc76 => ?_) (fun hc76 => ?_)
        · have hx9 : 0 ≤ rg0 ra := sg_ge (by rw [← hga]; exact hc76)
          exact bd_vret C hr hlk hw dX5_divideSmall_92 ⟨rg1, hv, hv9.trans (fl_1 hx9), fun j h1 h2 => hf9 j h1⟩
        · have hx9 : rg0 ra < 0 := sg_nge (by rw [← hga]; exact hc76)
          refine lv_lload hx hb dX5_divideSmall_79 (lv_at hl 1 rfl) ?_
          refine lv_lconst (v := lN 0) hx hb dX5_divideSmall_81 rfl ?_
          refine bd_lle (h1 := Nat.lt_of_lt_of_le (Nat.mod_lt _ hb0) (by omega)) (h2 := by decide) (tgt := 92) hx hb dX5_divideSmall_82 dX5_divideSmall_83 (by decide) (fun hc82 => ?_) (fun hc82 => ?_)
          · have hlf : (rg0 ra).natAbs % b = 0 := by rw [Nat.pow_zero, Nat.div_one, hva] at hc82; omega
            exact bd_vret C hr hlk hw dX5_divideSmall_92 ⟨rg1, hv, hv9.trans (fl_2 hb0 hx9 hlf), fun j h1 h2 => hf9 j h1⟩
          · have hlf : ¬ (rg0 ra).natAbs % b = 0 := by rw [Nat.pow_zero, Nat.div_one, hva] at hc82; omega
            refine lv_aload_n hx hb dX5_divideSmall_86 rfl (lv_at hl 3 rfl) ?_
            refine lv_iload_n hx hb dX5_divideSmall_87 rfl (lv_at hl 4 rfl) ?_
            refine lv_iconst (v := (-1)) hx hb dX5_divideSmall_88 (by decide) ?_
            refine bd_cv (As := [.int (nI t), .int (-1)]) (rest := []) C (v5_addSmall _ _ _ _ _ hv t (-1) ht60 ht32 (by rw [hv9]; exact fl_b hx9 hfit hb0 hlf)) (cwV 2 hts gX5_divideSmall_X5_addSmall rfl rfl rfl (by decide +kernel) ⟨Nat.le_of_ble_eq_true rfl, Nat.le_of_ble_eq_true rfl⟩) hsz hw (mv_recv C hw hv) dX5_divideSmall_89 rfl hl.1 rfl (Nat.le_of_ble_eq_true rfl) ⟨Nat.le_refl _, Nat.le_refl _⟩ (fun E z H locs hp hw => ?_)
            obtain ⟨rg2, hv2, hv8, hf8⟩ := hp
            exact bd_vret C hr hlk hw dX5_divideSmall_92 ⟨rg2, hv2, by rw [hv8, hv9]; exact fl_3 hb0 hx9 hlf, fun j h1 h2 => (hf8 j h1 h2).trans (hf9 j h1)⟩
      · exact absurd (by decide) hc17
    · rw [nI_p1] at hl
      have hlb : h_s (Fo ra) 34 / 16777216 ^ (j + 1) % b < b := Nat.mod_lt _ hb0
      have hxj := hFa j (by omega)
      have hst := ds_st (A := h_s (Fo ra) 34) (j := j) hb0
      rw [h_dig hFa (k := j) (by omega)] at hst
      refine lv_iload hx hb dX5_divideSmall_15 (lv_at hl 0 rfl) ?_
      refine bd_zlt (h1 := (by omega)) (tgt := 67) hx hb dX5_divideSmall_17 (by decide) ?_
      refine lv_lload hx hb dX5_divideSmall_20 (lv_at hl 1 rfl) ?_
      refine lv_bipush (v := nI 24) hx hb dX5_divideSmall_22 (by decide) ?_
      refine bd_lshl (v := (lN (h_s (Fo ra) 34 / 16777216 ^ (j + 1) % b * 16777216))) hx hb dX5_divideSmall_24 (wb_shl _ (k := 24) (by decide)) ?_
      refine lv_aload_n hx hb dX5_divideSmall_25 rfl (lv_at hl 3 rfl) ?_
      refine lv_iload_n hx hb dX5_divideSmall_26 rfl (lv_at hl 5 rfl) ?_
      refine lv_iload hx hb dX5_divideSmall_27 (lv_at hl 0 rfl) ?_
      refine bd_cip (As := [.int (nI ra), .int (nI j)]) (rest := [.long (lN (h_s (Fo ra) 34 / 16777216 ^ (j + 1) % b * 16777216))]) C (m5_at _ _ _ _ _ hm ra j (by omega) (by omega)) (cwV 2 hts gX5_divideSmall_X5_at rfl rfl rfl (by decide +kernel) ⟨Nat.le_of_ble_eq_true rfl, Nat.le_of_ble_eq_true rfl⟩) hsz hw (md_recv C hw hm) dX5_divideSmall_29 rfl hl.1 rfl (Nat.le_of_ble_eq_true rfl) ⟨Nat.le_refl _, Nat.le_refl _⟩ (fun H locs hw => ?_)
      rw [rd_k (F := Fo) (r := t) (a := ra) (k := j) (fun q => by rw [q]; exact hg _ (by omega))]
      refine bd_i2l (v := (lN (Fo ra j))) hx hb dX5_divideSmall_32 (nI_l (Nat.lt_of_lt_of_le (hFa j (by omega)) (by decide))) ?_
      refine bd_lor (v := (lN (h_s (Fo ra) 34 / 16777216 ^ (j + 1) % b * 16777216 + Fo ra j))) hx hb dX5_divideSmall_33 (g_or (k := 24) (by decide) (hFa j (by omega)) (by omega)) ?_
      refine lv_lstore (lv' := [(5, .long (lN (h_s (Fo ra) 34 / 16777216 ^ (j + 1) % b * 16777216 + Fo ra j))), (7, .int (nI j)), (4, .int (Go ra)), (0, .ref (mo 0)), (1, .int (nI t)), (2, .int (nI ra)), (3, .int (nI b))]) hx hb dX5_divideSmall_34 hl (by decide) rfl (fun ls hl => ?_)
      refine lv_aload_n hx hb dX5_divideSmall_36 rfl (lv_at hl 3 rfl) ?_
      refine md_g C i5 hw hm 3 (by decide) (v := .ref (mo 1)) rfl dX5_divideSmall_37 lk7 ?_
      refine lv_bipush (v := nI 34) hx hb dX5_divideSmall_40 (by decide) ?_
      refine lv_iload_n hx hb dX5_divideSmall_42 rfl (lv_at hl 4 rfl) ?_
      refine bd_imul (v := nI (34 * t)) hx hb dX5_divideSmall_43 (nI_mul _ _) ?_
      refine lv_iload hx hb dX5_divideSmall_44 (lv_at hl 1 rfl) ?_
      refine bd_iadd (v := nI (34 * t + j)) hx hb dX5_divideSmall_46 (nI_add _ _) ?_
      refine lv_lload hx hb dX5_divideSmall_47 (lv_at hl 0 rfl) ?_
      refine lv_iload_n hx hb dX5_divideSmall_49 rfl (lv_at hl 6 rfl) ?_
      refine bd_i2l (v := (lN b)) hx hb dX5_divideSmall_50 (nI_l hb31) ?_
      refine bd_ldiv (v := (lN ((h_s (Fo ra) 34 / 16777216 ^ (j + 1) % b * 16777216 + Fo ra j) / b))) hx hb dX5_divideSmall_51 (lN_ne0 hb0 (by omega)) (pk_lDiv (by omega) hb0 (by omega)) ?_
      refine bd_l2i (v := (nI ((h_s (Fo ra) 34 / 16777216 ^ (j + 1) % b * 16777216 + Fo ra j) / b))) hx hb dX5_divideSmall_52 (l_2i _) ?_
      refine md_st1u C hw (r := t) (k := j) (x := ((h_s (Fo ra) 34 / 16777216 ^ (j + 1) % b * 16777216 + Fo ra j) / b)) hm dX5_divideSmall_53 (by omega) (by omega) (fun E H locs hm hw => ?_)
      refine lv_lload hx hb dX5_divideSmall_54 (lv_at hl 0 rfl) ?_
      refine lv_iload_n hx hb dX5_divideSmall_56 rfl (lv_at hl 6 rfl) ?_
      refine bd_i2l (v := (lN b)) hx hb dX5_divideSmall_57 (nI_l hb31) ?_
      refine bd_lrem (v := (lN ((h_s (Fo ra) 34 / 16777216 ^ (j + 1) % b * 16777216 + Fo ra j) % b))) hx hb dX5_divideSmall_58 (lN_ne0 hb0 (by omega)) (pk_lRem (by omega) hb0 (by omega)) ?_
      refine lv_lstore (lv' := [(5, .long (lN ((h_s (Fo ra) 34 / 16777216 ^ (j + 1) % b * 16777216 + Fo ra j) % b))), (7, .int (nI j)), (4, .int (Go ra)), (0, .ref (mo 0)), (1, .int (nI t)), (2, .int (nI ra)), (3, .int (nI b))]) hx hb dX5_divideSmall_59 hl (by decide) rfl (fun ls hl => ?_)
      refine lv_iinc (v := (nI j - nI 1)) (lv' := [(7, .int (nI j - nI 1)), (5, .long (lN ((h_s (Fo ra) 34 / 16777216 ^ (j + 1) % b * 16777216 + Fo ra j) % b))), (4, .int (Go ra)), (0, .ref (mo 0)), (1, .int (nI t)), (2, .int (nI ra)), (3, .int (nI b))]) hx hb dX5_divideSmall_61 hl (k := 1) rfl (bd_dec _) (by decide) rfl (fun ls hl => ?_)
      refine lv_goto (tgt := 15) hx hb dX5_divideSmall_64 (by decide) ?_
      exact ih j (by omega) _ E ls H locs (by omega) hm (fun m h1 h2 => up_dn hD hst.1 m h1 h2) (fun m hm9 => by rw [va_up_ne _ _ (by omega)]; exact hg m (by omega)) (by rw [← hst.2]; exact lv_sub hl [0, 1, 2, 3, 4, 5, 6] rfl) hw
