/-! PRODUCTS AND QUOTIENTS BY ONE LIMB, pure -/
theorem q_ups {f : Nat → Nat} {k v : Nat} : ∀ {n : Nat}, k < n → q_s (va_up f k v) n + f k * 4294967296 ^ k = q_s f n + v * 4294967296 ^ k
  | n + 1, h => by
    show q_s (va_up f k v) n + va_up f k v n * 4294967296 ^ n + _ = q_s f n + f n * 4294967296 ^ n + _
    by_cases q : k = n
    · subst q
      rw [va_up_self, q_cg (f := f) (fun j hj => va_up_ne f v (by omega))]
      omega
    · rw [va_up_ne f v (fun e => q e.symm)]
      have := q_ups (f := f) (v := v) (n := n) (show k < n by omega)
      omega
/-- one step of a product: digit j of the second one, with what is carried -/
theorem q_prod1 {f y : Nat → Nat} {n i j a c V : Nat} (hij : i + j < n) (h : q_s f n + c * 4294967296 ^ (i + j) = V + a * q_s y j * 4294967296 ^ i) : q_s (va_up f (i + j) ((a * y j + f (i + j) + c) % 4294967296)) n + (a * y j + f (i + j) + c) / 4294967296 * 4294967296 ^ (i + (j + 1)) = V + a * q_s y (j + 1) * 4294967296 ^ i := by
  have h1 := q_ups (f := f) (v := (a * y j + f (i + j) + c) % 4294967296) hij
  generalize hu : a * y j + f (i + j) + c = u at h1 ⊢
  show _ + _ = V + a * (q_s y j + y j * 4294967296 ^ j) * 4294967296 ^ i
  have h2 : u / 4294967296 * 4294967296 ^ (i + (j + 1)) + u % 4294967296 * 4294967296 ^ (i + j) = u * 4294967296 ^ (i + j) := by
    rw [show i + (j + 1) = (i + j) + 1 by omega, q_ps, Nat.mul_comm (4294967296 ^ (i + j)) 4294967296, ← Nat.mul_assoc, ← Nat.add_mul]
    congr 1
    omega
  have h3 : u * 4294967296 ^ (i + j) = a * y j * 4294967296 ^ (i + j) + f (i + j) * 4294967296 ^ (i + j) + c * 4294967296 ^ (i + j) := by
    rw [← hu, Nat.add_mul, Nat.add_mul]
  have h4 : a * (q_s y j + y j * 4294967296 ^ j) * 4294967296 ^ i = a * q_s y j * 4294967296 ^ i + a * y j * 4294967296 ^ (i + j) := by
    rw [Nat.mul_add, Nat.add_mul, Nat.pow_add, Nat.mul_comm (4294967296 ^ i) (4294967296 ^ j)]
    congr 1
    rw [Nat.mul_assoc, Nat.mul_assoc, Nat.mul_assoc]
  rw [h4]
  omega
theorem q_prod2 {f x y : Nat → Nat} {n i k c : Nat} (hik : i + k < n) (h0 : f (i + k) = 0) (h : q_s f n + c * 4294967296 ^ (i + k) = q_s x i * q_s y k + x i * q_s y k * 4294967296 ^ i) : q_s (va_up f (i + k) c) n = q_s x (i + 1) * q_s y k := by
  have h1 := q_ups (f := f) (v := c) hik
  rw [h0, Nat.zero_mul, Nat.add_zero] at h1
  rw [h1, h]
  show _ = (q_s x i + x i * 4294967296 ^ i) * q_s y k
  rw [Nat.add_mul, Nat.mul_right_comm (x i)]
theorem q_pr64 {a b c d : Nat} (ha : a < 4294967296) (hb : b < 4294967296) (hc : c < 4294967296) (hd : d < 4294967296) : a * b + c + d < 2 ^ 64 := by
  have h1 : a * b ≤ 4294967295 * 4294967295 := Nat.mul_le_mul (by omega) (by omega)
  omega
theorem q_prc {a b c d : Nat} (ha : a < 4294967296) (hb : b < 4294967296) (hc : c < 4294967296) (hd : d < 4294967296) : (a * b + c + d) / 4294967296 < 4294967296 := by
  have h1 := q_pr64 ha hb hc hd
  omega
theorem bd_sz {n k : Nat} {f : Nat → Nat} (ht : bd_tp n f) (h : q_s f n < 4294967296 ^ k) : n ≤ k := by
  rcases Nat.lt_or_ge k n with q | q
  · have h1 := q_tple (by omega) ht
    have h2 : 4294967296 ^ k ≤ 4294967296 ^ (n - 1) := Nat.pow_le_pow_right (by decide) (by omega)
    omega
  · exact q
/-- signs of a product -/
theorem bd_prs {n k : Nat} {gx gy : Int32} {f t : Nat → Nat} (hx : (gx = 0 ∧ q_s f n = 0) ∨ ((gx = 1 ∨ gx = -1) ∧ 0 < q_s f n)) (hy : (gy = 0 ∧ q_s t k = 0) ∨ ((gy = 1 ∨ gy = -1) ∧ 0 < q_s t k)) {r : Nat} (hr : r = q_s f n * q_s t k) : ((gx * gy = 1 ∨ gx * gy = -1) ∨ r = 0) ∧ (gx * gy).toInt * (r : Int) = (gx.toInt * (q_s f n : Int)) * (gy.toInt * (q_s t k : Int)) := by
  have e : (gx * gy).toInt = gx.toInt * gy.toInt := by
    rcases hx with ⟨h1, hx⟩ | ⟨h1 | h1, hx⟩ <;> rcases hy with ⟨h2, hy⟩ | ⟨h2 | h2, hy⟩ <;> rw [h1, h2] <;> decide +kernel
  refine ⟨?_, ?_⟩
  · rcases hx with ⟨h1, hx⟩ | ⟨h1, hx⟩
    · right
      rw [hr, hx, Nat.zero_mul]
    · rcases hy with ⟨h2, hy⟩ | ⟨h2, hy⟩
      · right
        rw [hr, hy, Nat.mul_zero]
      · left
        rcases h1 with h1 | h1 <;> rcases h2 with h2 | h2 <;> rw [h1, h2] <;> decide +kernel
  · rw [e, hr, Int.natCast_mul]
    simp only [Int.mul_assoc, Int.mul_left_comm, Int.mul_comm]
/-- division by one limb, a digit more -/
theorem q_dv1 {T Q r b a : Nat} (h : T = b * Q + r) : a + 4294967296 * T = b * ((r * 4294967296 + a) / b + 4294967296 * Q) + (r * 4294967296 + a) % b := by
  have h1 := Nat.div_add_mod (r * 4294967296 + a) b
  rw [Nat.mul_add, Nat.mul_left_comm b 4294967296 Q, h]
  omega
theorem q_hd {f : Nat → Nat} (n : Nat) : q_s f (n + 1) = f 0 + 4294967296 * q_s (fun j => f (1 + j)) n := by
  rw [Nat.add_comm n 1, q_sp 1 n]
  simp [q_s]
