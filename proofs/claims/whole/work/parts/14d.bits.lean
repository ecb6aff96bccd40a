/-! BITS of a number, pure -/
/-- how many bits a number has -/
def q_bl (k : Nat) : Nat := if k = 0 then 0 else Nat.log2 k + 1
theorem q_B (n : Nat) : 4294967296 ^ n = 2 ^ (32 * n) := by
  rw [show (4294967296 : Nat) = 2 ^ 32 by decide, ← Nat.pow_mul]
theorem q_bl_top {f : Nat → Nat} {n : Nat} (h0 : 0 < n) (hf : q_ok f n) (ht : bd_tp n f) : q_bl (q_s f n) = 32 * (n - 1) + (Nat.log2 (f (n - 1)) + 1) := by
  obtain ⟨k, rfl⟩ : ∃ k, n = k + 1 := ⟨n - 1, by omega⟩
  have ht1 := ht h0
  rw [Nat.add_sub_cancel] at ht1 ⊢
  have h1 := q_lt (q_ok_le hf (show k ≤ k + 1 by omega))
  have h2 : q_s f (k + 1) = q_s f k + f k * 4294967296 ^ k := rfl
  have hp := q_pos k
  obtain ⟨a1, a2⟩ := (Nat.log2_eq_iff ht1).mp rfl
  have h3 : 2 ^ (f k).log2 * 4294967296 ^ k ≤ f k * 4294967296 ^ k := Nat.mul_le_mul_right _ a1
  have h4 : (f k + 1) * 4294967296 ^ k ≤ 2 ^ ((f k).log2 + 1) * 4294967296 ^ k := Nat.mul_le_mul_right _ a2
  rw [Nat.add_mul, Nat.one_mul] at h4
  rw [q_B, ← Nat.pow_add] at h3 h4
  rw [q_B] at h1 h2 hp
  have hq : 2 ^ 0 ≤ 2 ^ ((f k).log2 + 32 * k) := Nat.pow_le_pow_right (by decide) (Nat.zero_le _)
  have hne : q_s f (k + 1) ≠ 0 := by omega
  unfold q_bl
  rw [if_neg hne]
  have h5 : (q_s f (k + 1)).log2 = (f k).log2 + 32 * k := by
    refine (Nat.log2_eq_iff hne).mpr ⟨by omega, ?_⟩
    rw [show (f k).log2 + 32 * k + 1 = (f k).log2 + 1 + 32 * k by omega]
    omega
  rw [h5]
  omega
theorem q_log32 {u : Nat} (h0 : 0 < u) (h : u < 4294967296) : Nat.log2 u ≤ 31 := by
  have h1 := (Nat.log2_lt (by omega)).mpr (show u < 2 ^ 32 from h)
  omega
theorem q_log31 {u : Nat} (h0 : 2 ^ 31 ≤ u) (h : u < 4294967296) : Nat.log2 u = 31 := (Nat.log2_eq_iff (by omega)).mpr ⟨h0, h⟩
theorem q_neg31 {u : Nat} (h0 : 2 ^ 31 ≤ u) (h : u < 4294967296) : nI u < 0 := by
  rw [Int32.lt_iff_toInt_lt]
  have h1 : (nI u).toInt = (u : Int) - 2 ^ 32 := by
    show (nI u).toBitVec.toInt = _
    rw [show (nI u).toBitVec = BitVec.ofNat 32 u from rfl, BitVec.toInt_ofNat']
    simp only [Int.bmod_def]
    split <;> omega
  rw [h1, i0]
  omega
theorem q_par {f : Nat → Nat} {n : Nat} (hf : q_ok f n) : q_at n f 0 % 2 = q_s f n % 2 := by
  unfold q_at
  cases n with
  | zero =>
    rw [if_neg (by omega)]
    rfl
  | succ k =>
    rw [if_pos (by omega), q_hd]
    show f 0 % 2 = _
    omega
theorem q_abs {x : Int64} : (x < 0 → -x = lN x.toInt.natAbs) ∧ (¬ x < 0 → x = lN x.toInt.natAbs) ∧ x.toInt.natAbs ≤ 2 ^ 63 := by
  obtain ⟨u, hu, rfl⟩ := wb_of x
  have hi : (lN u).toInt = if u < 2 ^ 63 then (u : Int) else (u : Int) - 2 ^ 64 := by
    show (lN u).toBitVec.toInt = _
    rw [wb_tb, BitVec.toInt_ofNat']
    simp only [Int.bmod_def]
    split <;> split <;> omega
  refine ⟨fun h => ?_, fun h => ?_, ?_⟩
  · have h1 := (bd_lt0 hu).mp h
    rw [hi, if_neg (by omega)]
    have h6 : -(lN u) = lN (2 ^ 64 - u) := by
      have h7 : lN (2 ^ 64 - u) + lN u = 0 := by
        rw [lN_add, show 2 ^ 64 - u + u = 2 ^ 64 by omega]
        decide +kernel
      have h8 := congrArg (· + -(lN u)) h7
      simp only [Int64.add_assoc, Int64.add_right_neg, Int64.add_zero, Int64.zero_add] at h8
      exact h8.symm
    rw [h6]
    exact congrArg lN (by omega)
  · have h1 : ¬ 2 ^ 63 ≤ u := fun q => h ((bd_lt0 hu).mpr q)
    rw [hi, if_pos (by omega)]
    exact congrArg lN (by omega)
  · rw [hi]
    split <;> omega
theorem q_sgv (v : Int) : (q_sg v).toInt * (v.natAbs : Int) = v ∧ ((q_sg v = 1 ∨ q_sg v = -1) ∨ v.natAbs = 0) := by
  unfold q_sg
  by_cases h : v < 0
  · rw [if_pos h, im1]
    exact ⟨by omega, Or.inl (Or.inr rfl)⟩
  · rw [if_neg h]
    by_cases h2 : v = 0
    · rw [if_pos h2, i0]
      exact ⟨by omega, Or.inr (by omega)⟩
    · rw [if_neg h2, i1]
      exact ⟨by omega, Or.inl (Or.inl rfl)⟩
theorem q_pw (n : Nat) : 2 ^ (n % 32) * 4294967296 ^ (n / 32) = 2 ^ n := by
  rw [q_B, ← Nat.pow_add]
  congr 1
  omega
