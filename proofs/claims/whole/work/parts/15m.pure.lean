/-! SHIFTS, pure -/
/-- a limb of the number times 2^s -/
def q_rs (n : Nat) (f : Nat → Nat) (s : Nat) (k : Int) : Nat := (q_at n f k * 2 ^ s + q_at n f (k - 1) / 2 ^ (32 - s)) % 4294967296
theorem q_at_lt {n : Nat} {f : Nat → Nat} (hf : q_r f) (hn : n ≤ 24) (k : Int) : q_at n f k < 4294967296 := by
  unfold q_at
  split
  · exact hf _ (by omega)
  · decide
theorem q_at_pd {n : Nat} {f : Nat → Nat} (j : Nat) : q_at n f (j : Int) = q_pd n f j := by
  unfold q_at q_pd
  by_cases h : j < n
  · rw [if_pos (by omega), if_pos h]
    rfl
  · rw [if_neg (by omega), if_neg h]
theorem q_at_neg {n : Nat} {f : Nat → Nat} {k : Int} (h : k < 0) : q_at n f k = 0 := by
  unfold q_at
  rw [if_neg (by omega)]
theorem q_at_cg {n m : Nat} {f t : Nat → Nat} {k : Int} (h : ∀ j, j < m → t j = f j) (hk : k < m) : q_at n t k = q_at n f k := by
  unfold q_at
  split
  · exact h _ (by omega)
  · rfl
theorem q_ps32 {s : Nat} (h : s ≤ 32) : 2 ^ s * 2 ^ (32 - s) = 4294967296 := by
  rw [← Nat.pow_add, show s + (32 - s) = 32 by omega]
theorem q_up32 {a s : Nat} (h : s ≤ 32) : a * 2 ^ s / 4294967296 = a / 2 ^ (32 - s) := by
  rw [← q_ps32 h, ← Nat.div_div_eq_div_mul, Nat.mul_div_cancel _ (Nat.pow_pos (by decide))]
theorem q_lo32 {a s : Nat} (h : s ≤ 32) (ha : a < 4294967296) : a / 2 ^ (32 - s) < 2 ^ s := by
  apply Nat.div_lt_of_lt_mul
  rw [Nat.mul_comm, q_ps32 h]
  exact ha
theorem q_cy32 {a c s : Nat} (h : s ≤ 32) (hc : c < 2 ^ s) : (a * 2 ^ s + c) / 4294967296 = a / 2 ^ (32 - s) := by
  rw [← q_ps32 h, ← Nat.div_div_eq_div_mul, Nat.mul_comm a, Nat.mul_add_div (Nat.pow_pos (by decide)), Nat.div_eq_of_lt hc, Nat.add_zero]
theorem q_rs_s {n : Nat} {f : Nat → Nat} {s : Nat} (hf : q_r f) (hn : n ≤ 24) (hs : s ≤ 32) : ∀ i : Nat, q_s (fun j => q_rs n f s (j : Int)) i + q_at n f ((i : Int) - 1) / 2 ^ (32 - s) * 4294967296 ^ i = q_s (q_pd n f) i * 2 ^ s
  | 0 => by
    rw [q_at_neg (by omega)]
    simp [q_s]
  | i + 1 => by
    refine q_mul1 (q_rs_s hf hn hs i) ?_
    show q_rs n f s (i : Int) + _ = q_pd n f i * 2 ^ s + _
    unfold q_rs
    rw [show (((i + 1 : Nat) : Int) - 1) = (i : Int) by omega, q_at_pd i]
    have h1 := q_lo32 hs (q_at_lt hf hn ((i : Int) - 1))
    have h2 := q_cy32 (a := q_pd n f i) hs h1
    generalize q_at n f ((i : Int) - 1) / 2 ^ (32 - s) = c at h1 h2 ⊢
    rw [← h2]
    omega
/-- times 2^t: rows of limbs below 0 are 0 -/
theorem q_raise {n : Nat} {f r : Nat → Nat} {t : Nat} (hf : q_r f) (hn : n ≤ 24) (hr : ∀ j, j < n + t / 32 + 1 → r j = q_rs n f (t % 32) ((j : Int) - ((t / 32 : Nat) : Int))) : q_s r (n + t / 32 + 1) = q_s f n * 2 ^ t := by
  rw [show n + t / 32 + 1 = t / 32 + (n + 1) by omega, q_sp (t / 32) (n + 1)]
  have h0 : q_s r (t / 32) = 0 := q_zz (fun j hj => by
    rw [hr j (by omega)]
    unfold q_rs
    rw [q_at_neg (by omega), q_at_neg (by omega)]
    simp)
  have h1 : q_s (fun j => r (t / 32 + j)) (n + 1) = q_s f n * 2 ^ (t % 32) := by
    have h2 := q_rs_s (s := t % 32) hf hn (by omega) (n + 1)
    rw [show (((n + 1 : Nat) : Int) - 1) = (n : Int) by omega, q_at_pd n, q_pd_out (Nat.le_refl n), Nat.zero_div, Nat.zero_mul, Nat.add_zero, q_pd_s (by omega)] at h2
    rw [← h2]
    exact q_cg (fun j hj => by
      show r (t / 32 + j) = q_rs n f (t % 32) (j : Int)
      rw [hr _ (by omega)]
      congr 1
      omega)
  rw [h0, h1, Nat.zero_add, Nat.mul_left_comm, ← q_pw t]
  congr 1
  rw [Nat.mul_comm]
/-- the limbs from L on, and within a limb from s on -/
theorem q_dvp {f : Nat → Nat} {n t : Nat} (hf : q_ok f n) : q_s f n / 2 ^ t = q_s (fun j => f (t / 32 + j)) (n - t / 32) / 2 ^ (t % 32) := by
  rcases Nat.lt_or_ge (t / 32) n with h | h
  · have h1 : q_s f n = q_s f (t / 32 + (n - t / 32)) := by congr 1; omega
    rw [h1, ← q_pw t, Nat.mul_comm, ← Nat.div_div_eq_div_mul, q_div _ _ (q_ok_le hf (by omega))]
  · rw [show n - t / 32 = 0 by omega]
    have h1 := q_lt hf
    have h2 : 4294967296 ^ n ≤ 4294967296 ^ (t / 32) := Nat.pow_le_pow_right (by decide) h
    have h3 : 4294967296 ^ (t / 32) ≤ 2 ^ t := by
      rw [q_B]
      exact Nat.pow_le_pow_right (by decide) (by omega)
    rw [Nat.div_eq_of_lt (by omega)]
    show 0 = 0 / _
    rw [Nat.zero_div]
theorem q_low1 {a c T p q : Nat} (hp : 0 < p) (hq : 0 < q) (hB : p * q = 4294967296) (ha : a < 4294967296) (hT : T % p = c % p) : (a / p + c * q) % 4294967296 + 4294967296 * (T / p) = (a + 4294967296 * T) / p := by
  have h1 : (a + 4294967296 * T) / p = a / p + q * T := by
    rw [← hB, Nat.mul_assoc, Nat.add_mul_div_left _ _ hp]
  have h2 : q * T = 4294967296 * (T / p) + q * (T % p) := by
    have h3 := Nat.div_add_mod T p
    have h4 : q * (p * (T / p) + T % p) = 4294967296 * (T / p) + q * (T % p) := by
      rw [Nat.mul_add, ← Nat.mul_assoc, Nat.mul_comm q p, hB]
    rw [h3] at h4
    exact h4
  have h5 : c * q = c % p * q + 4294967296 * (c / p) := by
    have h3 := Nat.div_add_mod c p
    have h4 : (p * (c / p) + c % p) * q = c % p * q + 4294967296 * (c / p) := by
      rw [Nat.add_mul, Nat.mul_right_comm, hB]
      omega
    rw [h3] at h4
    exact h4
  have h6 : a / p < q := Nat.div_lt_of_lt_mul (by rw [hB]; exact ha)
  have h7 : (c % p + 1) * q ≤ p * q := Nat.mul_le_mul_right q (Nat.mod_lt c hp)
  rw [Nat.add_mul, Nat.one_mul, hB] at h7
  have h8 : (a / p + c * q) % 4294967296 = a / p + c % p * q := by
    rw [h5, ← Nat.add_assoc, Nat.add_mul_mod_self_left, Nat.mod_eq_of_lt (by omega)]
  rw [h8, h1, h2, hT, Nat.mul_comm q (c % p)]
  omega
theorem q_lower {s : Nat} (hs : s < 32) : ∀ (n : Nat) (f r : Nat → Nat), q_ok f n → (∀ j, j < n → r j = (f j / 2 ^ s + q_pd n f (j + 1) * 2 ^ (32 - s)) % 4294967296) → q_s r n = q_s f n / 2 ^ s
  | 0, f, r, _, _ => by simp [q_s]
  | n + 1, f, r, hf, hr => by
    have hp : 0 < 2 ^ s := Nat.pow_pos (by decide)
    have hq : 0 < 2 ^ (32 - s) := Nat.pow_pos (by decide)
    have hB := q_ps32 (s := s) (by omega)
    have ih := q_lower hs n (fun j => f (1 + j)) (fun j => r (1 + j)) (fun j hj => hf _ (by omega)) (fun j hj => by
      show r (1 + j) = _
      rw [hr (1 + j) (by omega)]
      have h1 : q_pd (n + 1) f (1 + j + 1) = q_pd n (fun j => f (1 + j)) (j + 1) := by
        unfold q_pd
        by_cases h : j + 1 < n
        · rw [if_pos (by omega), if_pos h]
          exact congrArg f (by omega)
        · rw [if_neg (by omega), if_neg h]
      rw [h1])
    rw [q_hd, q_hd, ih, hr 0 (by omega)]
    refine q_low1 hp hq hB (hf 0 (by omega)) ?_
    cases n with
    | zero => rw [q_pd_out (by omega)]; rfl
    | succ k =>
      rw [q_hd, q_pd_in (by omega), ← hB, Nat.mul_assoc, Nat.add_mul_mod_self_left]
theorem q_nz {f : Nat → Nat} : ∀ {n j : Nat}, j < n → f j ≠ 0 → 0 < q_s f n
  | n + 1, j, h, h0 => by
    show 0 < q_s f n + f n * _
    by_cases q : j = n
    · subst q
      have := Nat.mul_pos (Nat.pos_of_ne_zero h0) (q_pos j)
      omega
    · have := q_nz (n := n) (show j < n by omega) h0
      omega
theorem q_hb1 {f : Nat → Nat} {n t : Nat} (hf : q_ok f n) (h : t / 32 < n) : q_s f n % 2 ^ t = q_s f (t / 32) + 4294967296 ^ (t / 32) * (f (t / 32) % 2 ^ (t % 32)) := by
  have h1 : q_s f n = q_s f (t / 32 + ((n - t / 32 - 1) + 1)) := by congr 1; omega
  have hB := q_ps32 (s := t % 32) (by omega)
  rw [h1, ← q_pw t, Nat.mul_comm (2 ^ (t % 32)), Nat.mod_mul, q_mod _ _ (q_ok_le hf (by omega)), q_div _ _ (q_ok_le hf (by omega)), q_hd]
  show _ + _ * ((f (t / 32 + 0) + _) % _) = _
  rw [Nat.add_zero, ← hB, Nat.mul_assoc, Nat.add_mul_mod_self_left]
theorem q_hb2 {f : Nat → Nat} {n t : Nat} (hf : q_ok f n) (h : n ≤ t / 32) : q_s f n % 2 ^ t = q_s f n := by
  have h1 := q_lt hf
  have h2 : 4294967296 ^ n ≤ 4294967296 ^ (t / 32) := Nat.pow_le_pow_right (by decide) h
  have h3 : 4294967296 ^ (t / 32) ≤ 2 ^ t := by
    rw [q_B]
    exact Nat.pow_le_pow_right (by decide) (by omega)
  exact Nat.mod_eq_of_lt (by omega)
theorem bd_maxs {n k : Nat} (hn : n < 2 ^ 30) (hk : k < 2 ^ 30) : (if nI 0 < nI n - nI k then nI n - nI k else nI 0) = nI (n - k) := by
  by_cases h : k < n
  · rw [pk_sub (by omega), if_pos ((nI_ltI (by decide) (by omega)).mpr (by omega))]
  · have h1 : n - k = 0 := by omega
    rw [h1]
    by_cases q : k = n
    · subst q
      rw [pk_sub (Nat.le_refl _), Nat.sub_self, if_neg (by decide +kernel)]
    · rw [if_neg]
      intro h2
      have h3 := pk_sneg (a := n) (b := k) hk (by omega)
      rw [nI_0] at h2
      exact Int32.lt_irrefl (Int32.lt_trans h2 h3)
theorem bd_ofI (j : Nat) : Int32.ofInt (j : Int) = nI j := by
  unfold nI
  exact Int32.ofInt_eq_ofNat
theorem bd_ofI_sub (k : Int) (j : Nat) : Int32.ofInt k - nI j = Int32.ofInt (k - j) := by
  rw [← bd_ofI, ← Int32.ofInt_sub]
theorem bd_ofI_neg {k : Int} (h1 : -1000 ≤ k) (h2 : k < 0) : Int32.ofInt k < 0 := by
  rw [Int32.lt_iff_toInt_lt, Int32.toInt_ofInt_of_le (by omega) (by omega)]
  exact h2
