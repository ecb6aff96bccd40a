/-! LONG DIVISION, pure -/
theorem kn_1 {q V W u v M : Nat} (h : q * V ≤ W) (hW : W < (u + 1) * M) (hV : v * M ≤ V) : q * v ≤ u := by
  have h1 : q * (v * M) ≤ q * V := Nat.mul_le_mul_left q hV
  rw [← Nat.mul_assoc] at h1
  have h2 : q * v * M < (u + 1) * M := by omega
  have := Nat.lt_of_mul_lt_mul_right h2
  omega
theorem kn_2 {g q V W u v M : Nat} (h : g * v ≤ u) (hW : u * M ≤ W) (hV : V ≤ (v + 1) * M) (hg : g * M ≤ 2 * V) (hq : W < (q + 1) * V) : g ≤ q + 2 := by
  rcases Nat.lt_or_ge (q + 2) g with r | r
  · exfalso
    have h1 : (q + 3) * V ≤ g * V := Nat.mul_le_mul_right V r
    have h2 : g * V ≤ g * ((v + 1) * M) := Nat.mul_le_mul_left g hV
    have h3 : g * ((v + 1) * M) = g * v * M + g * M := by rw [Nat.add_mul, Nat.one_mul, Nat.mul_add, Nat.mul_assoc]
    have h4 : g * v * M ≤ u * M := Nat.mul_le_mul_right M h
    rw [Nat.add_mul] at h1 hq
    omega
  · exact r
theorem kn_3 {g q V W t U M : Nat} (h : g * t ≤ U) (hW : U * M ≤ W) (hV : V ≤ (t + 1) * M) (hg : g * M ≤ V) (hq : W < (q + 1) * V) : g ≤ q + 1 := by
  rcases Nat.lt_or_ge (q + 1) g with r | r
  · exfalso
    have h1 : (q + 2) * V ≤ g * V := Nat.mul_le_mul_right V r
    have h2 : g * V ≤ g * ((t + 1) * M) := Nat.mul_le_mul_left g hV
    have h3 : g * ((t + 1) * M) = g * t * M + g * M := by rw [Nat.add_mul, Nat.one_mul, Nat.mul_add, Nat.mul_assoc]
    have h4 : g * t * M ≤ U * M := Nat.mul_le_mul_right M h
    rw [Nat.add_mul] at h1 hq
    omega
  · exact r
theorem kn_4 {g q V W t U M : Nat} (h : U < g * t) (hW : W < (U + 1) * M) (hV : t * M ≤ V) (hq : q * V ≤ W) : q < g := by
  rcases Nat.lt_or_ge q g with r | r
  · exact r
  · exfalso
    have h1 : g * V ≤ q * V := Nat.mul_le_mul_right V r
    have h2 : g * (t * M) ≤ g * V := Nat.mul_le_mul_left g hV
    rw [← Nat.mul_assoc] at h2
    have h3 : (U + 1) * M ≤ g * t * M := Nat.mul_le_mul_right M h
    omega
/-- the limbs on top of a number -/
theorem kn_top1 {f : Nat → Nat} {k : Nat} (hf : q_ok f (k + 1)) : q_s f (k + 1) = f k * 4294967296 ^ k + q_s f k ∧ q_s f k < 4294967296 ^ k := ⟨by show q_s f k + f k * _ = _; omega, q_lt (q_ok_le hf (by omega))⟩
theorem kn_top2 {f : Nat → Nat} {k : Nat} (hf : q_ok f (k + 2)) : q_s f (k + 2) = (f (k + 1) * 4294967296 + f k) * 4294967296 ^ k + q_s f k ∧ q_s f k < 4294967296 ^ k := by
  refine ⟨?_, q_lt (q_ok_le hf (by omega))⟩
  show q_s f k + f k * _ + f (k + 1) * 4294967296 ^ (k + 1) = _
  rw [q_ps, Nat.add_mul, Nat.mul_comm (4294967296 ^ k) 4294967296, ← Nat.mul_assoc]
  omega
theorem kn_top3 {f : Nat → Nat} {k : Nat} (hf : q_ok f (k + 3)) : q_s f (k + 3) = ((f (k + 2) * 4294967296 + f (k + 1)) * 4294967296 + f k) * 4294967296 ^ k + q_s f k ∧ q_s f k < 4294967296 ^ k := by
  refine ⟨?_, q_lt (q_ok_le hf (by omega))⟩
  have h1 := (kn_top2 (f := f) (k := k + 1) hf).1
  rw [show k + 1 + 2 = k + 3 by omega, show k + 1 + 1 = k + 2 by omega] at h1
  obtain ⟨A, hA⟩ : ∃ A, A = f (k + 2) * 4294967296 + f (k + 1) := ⟨_, rfl⟩
  rw [← hA] at h1 ⊢
  rw [h1]
  show _ + (q_s f k + f k * _) = _
  rw [q_ps, Nat.add_mul, Nat.mul_comm (4294967296 ^ k) 4294967296, ← Nat.mul_assoc]
  omega
/-- a step of guess times divisor taken away -/
theorem q_msub {r x y : Nat → Nat} {i c c' g : Nat} (h : q_s r i + g * q_s y i = q_s x i + c * 4294967296 ^ i) (hr : r i + (g * y i + c) = x i + c' * 4294967296) : q_s r (i + 1) + g * q_s y (i + 1) = q_s x (i + 1) + c' * 4294967296 ^ (i + 1) := by
  show q_s r i + r i * _ + g * (q_s y i + y i * _) = (q_s x i + x i * _) + _
  rw [q_ps, Nat.mul_add]
  have h2 : (r i + (g * y i + c)) * 4294967296 ^ i = (x i + c' * 4294967296) * 4294967296 ^ i := by rw [hr]
  rw [Nat.add_mul, Nat.add_mul, Nat.add_mul] at h2
  rw [show c' * (4294967296 ^ i * 4294967296) = c' * 4294967296 * 4294967296 ^ i by rw [Nat.mul_assoc, Nat.mul_comm (4294967296 ^ i)], ← Nat.mul_assoc g]
  omega
/-- two longs of 32 bits, one less the other -/
theorem bd_lsub2 (a b : Nat) (ha : a < 4294967296) (hb : b < 4294967296) : lN a - lN b = lN (if a < b then a + 18446744073709551616 - b else a - b) := by
  have h := bd_lsubN a b 0 ha hb (by decide)
  rw [show lN 0 = 0 by decide +kernel, Int64.sub_zero, Nat.add_zero] at h
  exact h
theorem bd_lsub2m {a b : Nat} (ha : a < 4294967296) (hb : b < 4294967296) : (if a < b then a + 18446744073709551616 - b else a - b) % 4294967296 = (if a < b then a + 4294967296 - b else a - b) := by
  split <;> omega
theorem bd_lsub2s {a b : Nat} (ha : a < 4294967296) (hb : b < 4294967296) : lN (if a < b then a + 18446744073709551616 - b else a - b) < 0 ↔ a < b := by
  rw [bd_lt0 (by split <;> omega)]
  split <;> omega
/-- unsigned order by the least long added -/
theorem bd_uo {a b : Nat} (ha : a < 2 ^ 64) (hb : b < 2 ^ 64) : lg_cmp (lN a + (-9223372036854775808)) (lN b + (-9223372036854775808)) = q_c3 a b := by
  have hi : ∀ u : Nat, u < 2 ^ 64 → (lN u + (-9223372036854775808)).toInt = (u : Int) - 2 ^ 63 := by
    intro u hu
    have h1 : (-9223372036854775808 : Int64) = lN 9223372036854775808 := by decide +kernel
    rw [h1, lN_add]
    show (lN (u + 9223372036854775808)).toBitVec.toInt = _
    rw [wb_tb, BitVec.toInt_ofNat']
    simp only [Int.bmod_def]
    split <;> omega
  have h1 := hi a ha
  have h2 := hi b hb
  unfold lg_cmp
  rcases Nat.lt_trichotomy a b with q | q | q
  · rw [q_c3_lt q, if_neg (by rw [gt_iff_lt, Int64.lt_iff_toInt_lt, h1, h2]; omega), if_neg (fun e => by have := congrArg Int64.toInt e; rw [h1, h2] at this; omega)]
  · subst q
    rw [q_c3_eq rfl, if_neg (by rw [gt_iff_lt, Int64.lt_iff_toInt_lt]; omega), if_pos rfl]
  · rw [q_c3_gt q, if_pos (by rw [gt_iff_lt, Int64.lt_iff_toInt_lt, h1, h2]; omega)]
/-- the halved division of a long without sign -/
theorem kn_half {u v : Nat} (hv : 0 < v) : u - u / 2 / v * 2 * v = u % v + (if u % v + v ≤ u - u / 2 / v * 2 * v then v else 0) ∧ u / 2 / v * 2 * v ≤ u ∧ u - u / 2 / v * 2 * v < 2 * v := by
  have h1 := Nat.div_add_mod (u / 2) v
  have h2 := Nat.mod_lt (u / 2) hv
  have h3 : u / 2 / v * 2 * v = 2 * (v * (u / 2 / v)) := by
    rw [Nat.mul_comm (u / 2 / v) 2, Nat.mul_assoc, Nat.mul_comm (u / 2 / v) v]
  have h4 : u - u / 2 / v * 2 * v < 2 * v := by omega
  have h5 : u / 2 / v * 2 * v ≤ u := by omega
  refine ⟨?_, h5, h4⟩
  have h6 : u % v = (u - u / 2 / v * 2 * v) % v := by
    conv => lhs; rw [show u = (u - u / 2 / v * 2 * v) + v * (u / 2 / v * 2) by rw [Nat.mul_comm v]; omega]
    rw [Nat.add_mul_mod_self_left]
  generalize u - u / 2 / v * 2 * v = x at h4 h6 ⊢
  rw [h6]
  rcases Nat.lt_or_ge x v with r | r
  · rw [Nat.mod_eq_of_lt r, if_neg (by omega)]
    rfl
  · have h7 : x % v = x - v := by rw [Nat.mod_eq_sub_mod r, Nat.mod_eq_of_lt (by omega)]
    rw [h7, if_pos (by omega)]
    omega
theorem q_modB {a b k : Nat} (ha : a < 4294967296 ^ k) : (a + b * 4294967296 ^ k) % 4294967296 ^ (k + 1) = a + b % 4294967296 * 4294967296 ^ k := by
  rw [q_ps, Nat.mod_mul, Nat.add_mul_mod_self_right, Nat.mod_eq_of_lt ha, Nat.add_mul_div_right _ _ (q_pos k), Nat.div_eq_of_lt ha, Nat.zero_add, Nat.mul_comm (4294967296 ^ k)]
