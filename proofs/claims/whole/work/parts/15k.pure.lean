/-! MULTIPLY AND DIVIDE BY AN INT, pure -/
theorem q_absI (x : Int32) : (if 0 < x.toInt64 then x.toInt64 else -x.toInt64) = lN x.toInt.natAbs := by
  obtain ⟨h1, h2, -⟩ := q_abs (x := x.toInt64)
  rw [Int32.toInt_toInt64] at h1 h2
  by_cases h : 0 < x.toInt64
  · rw [if_pos h]
    exact h2 (fun q => Int64.lt_irrefl (Int64.lt_trans h q))
  · rw [if_neg h]
    by_cases q : x.toInt64 < 0
    · exact h1 q
    · have h3 : x.toInt64 = 0 := by
        rcases Decidable.em (x.toInt64 = 0) with r | r
        · exact r
        · rcases Int64.lt_or_lt_of_ne r with r | r
          · exact absurd r q
          · exact absurd r h
      have h4 := h2 q
      rw [← h4, h3]
      decide +kernel
theorem bd_mls {g : Int32} {k : Nat} (hx : (g = 0 ∧ k = 0) ∨ ((g = 1 ∨ g = -1) ∧ 0 < k)) (b : Int) : ((g * q_sg b = 1 ∨ g * q_sg b = -1) ∨ k * b.natAbs = 0) ∧ (g * q_sg b).toInt * ((k * b.natAbs : Nat) : Int) = g.toInt * (k : Int) * b := by
  have hb := q_sgv b
  have hs : q_sg b = 0 ∨ q_sg b = 1 ∨ q_sg b = -1 := by
    unfold q_sg
    split
    · exact Or.inr (Or.inr rfl)
    · split
      · exact Or.inl rfl
      · exact Or.inr (Or.inl rfl)
  have e : (g * q_sg b).toInt = g.toInt * (q_sg b).toInt := by
    rcases hx with ⟨h1, hx⟩ | ⟨h1 | h1, hx⟩ <;> rcases hs with h2 | h2 | h2 <;> rw [h1, h2] <;> decide +kernel
  refine ⟨?_, ?_⟩
  · rcases hx with ⟨h1, hx⟩ | ⟨h1, hx⟩
    · right
      rw [hx, Nat.zero_mul]
    · rcases hb.2 with h2 | h2
      · left
        rcases h1 with h1 | h1 <;> rcases h2 with h2 | h2 <;> rw [h1, h2] <;> decide +kernel
      · right
        rw [h2, Nat.mul_zero]
  · rw [e, Int.natCast_mul]
    have h3 : g.toInt * (k : Int) * b = g.toInt * (k : Int) * ((q_sg b).toInt * (b.natAbs : Int)) := by rw [hb.1]
    rw [h3]
    simp only [Int.mul_assoc, Int.mul_left_comm, Int.mul_comm]
theorem q_mu64 {a P cy : Nat} (ha : a < 4294967296) (hP : P ≤ 2147483648) (hc : cy < 4294967296) : a * P + cy < 2 ^ 64 ∧ (a * P + cy) / 4294967296 < 4294967296 := by
  have h1 : a * P ≤ 4294967295 * 2147483648 := Nat.mul_le_mul (by omega) hP
  omega
theorem lN_ne0 {b : Nat} (h0 : 0 < b) (h : b < 2 ^ 63) : ¬ lN b = 0 := fun q => by
  have h1 : lN b = lN 0 := q.trans (by decide +kernel)
  have := (pk_lEQ h (by decide)).mp h1
  omega
theorem q_dvu {r b a : Nat} (hr : r < b) (ha : a < 4294967296) : r * 4294967296 + a < b * 4294967296 := by
  have h1 := Nat.mul_le_mul_right 4294967296 (show r + 1 ≤ b from hr)
  omega
theorem q_dvk {f : Nat → Nat} {n k : Nat} (hk : 0 < k) (hkn : k ≤ n) : q_s (fun j => f (k - 1 + j)) (n - (k - 1)) = f (k - 1) + 4294967296 * q_s (fun j => f (k + j)) (n - k) := by
  obtain ⟨i, rfl⟩ : ∃ i, k = i + 1 := ⟨k - 1, by omega⟩
  rw [Nat.add_sub_cancel, show n - i = (n - (i + 1)) + 1 by omega, q_hd]
  show f (i + 0) + _ = _
  rw [Nat.add_zero]
  congr 2
  exact q_cg (fun j _ => by show f (i + (1 + j)) = f (i + 1 + j); congr 1; omega)
/-- floors -/
theorem fl_pos {a b q r : Nat} (h : a = b * q + r) (hr : r < b) : ((a : Nat) : Int) / (b : Int) = (q : Int) := by
  rw [← Int.natCast_ediv, h, Nat.mul_add_div (by omega), Nat.div_eq_of_lt hr, Nat.add_zero]
theorem fl_neg0 {a b q : Nat} (h : a = b * q) (hb : 0 < b) : (-((a : Nat) : Int)) / (b : Int) = -(q : Int) := by
  rw [h, Int.natCast_mul, ← Int.mul_neg]
  exact Int.mul_ediv_cancel_left _ (by omega)
theorem fl_neg {a b q r : Nat} (h : a = b * q + r) (hr : r < b) (h0 : 0 < r) : (-((a : Nat) : Int)) / (b : Int) = -((q + 1 : Nat) : Int) := by
  have hb : (0 : Int) < b := by omega
  have h1 : -((a : Nat) : Int) = (b - r : Int) + (b : Int) * (-((q + 1 : Nat) : Int)) := by
    rw [h]
    simp only [Int.natCast_add, Int.natCast_mul, Int.mul_neg, Int.mul_add]
    omega
  rw [h1, Int.add_mul_ediv_left _ _ (by omega), Int.ediv_eq_zero_of_lt (by omega) (by omega), Int.zero_add]
