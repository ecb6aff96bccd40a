/-! small helps: lists of numbers, sizes -/
theorem la_n {P : Nat → Prop} : ∀ k, k ∈ ([] : List Nat) → P k := fun _ h => absurd h List.not_mem_nil
theorem la_c {P : Nat → Prop} {a : Nat} {l : List Nat} (h : P a) (t : ∀ k, k ∈ l → P k) : ∀ k, k ∈ a :: l → P k := fun k hk => by
  rcases List.mem_cons.mp hk with q | q
  · rw [q]
    exact h
  · exact t k q
theorem sp_ROOTb (v : Int) : (sp_ROOT v).natAbs ≤ v.natAbs := by
  obtain ⟨k, h1, h2⟩ := sp_ROOTx v
  rw [h2]
  have h3 := h1.1
  rcases Nat.eq_zero_or_pos k with q | q
  · rw [q]
    exact Nat.zero_le _
  · have := Nat.mul_le_mul_left k (show 1 ≤ k from q)
    omega
theorem b32 {v n : Nat} (h : v < 2 ^ n) : v < 4294967296 ^ (n / 32 + 1) := by
  rw [show 4294967296 = 2 ^ 32 from rfl, ← Nat.pow_mul]
  exact Nat.lt_of_lt_of_le h (Nat.pow_le_pow_right (by decide) (by omega))
theorem mul_b {a b : Int} {x y : Nat} (h1 : a.natAbs ≤ x) (h2 : b.natAbs ≤ y) : (a * b).natAbs ≤ x * y := by
  rw [Int.natAbs_mul]
  exact Nat.mul_le_mul h1 h2
