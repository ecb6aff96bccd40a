/-! LIMBS: numbers by their digits to the base 2^32, pure -/
/-- the number whose digits, lowest first, are g 0 .. g (n - 1) -/
def q_s (g : Nat → Nat) : Nat → Nat
  | 0 => 0
  | n + 1 => q_s g n + g n * 4294967296 ^ n
def q_ok (g : Nat → Nat) (n : Nat) : Prop := ∀ j, j < n → g j < 4294967296
theorem q_pos (n : Nat) : 0 < 4294967296 ^ n := Nat.pow_pos (by decide)
theorem q_ps (n : Nat) : 4294967296 ^ (n + 1) = 4294967296 ^ n * 4294967296 := by rw [Nat.pow_succ]
theorem q_ok_le {g : Nat → Nat} {n k : Nat} (h : q_ok g n) (hk : k ≤ n) : q_ok g k := fun j hj => h j (Nat.lt_of_lt_of_le hj hk)
theorem q_cg {g f : Nat → Nat} : ∀ {n : Nat}, (∀ j, j < n → g j = f j) → q_s g n = q_s f n
  | 0, _ => rfl
  | n + 1, h => by
    show q_s g n + g n * _ = q_s f n + f n * _
    rw [q_cg (n := n) (fun j hj => h j (by omega)), h n (by omega)]
theorem q_lt {g : Nat → Nat} : ∀ {n : Nat}, q_ok g n → q_s g n < 4294967296 ^ n
  | 0, _ => by simp [q_s]
  | n + 1, h => by
    have h1 := q_lt (n := n) (q_ok_le h (by omega))
    have h2 : g n + 1 ≤ 4294967296 := h n (by omega)
    have h3 := Nat.mul_le_mul_right (4294967296 ^ n) h2
    show q_s g n + g n * 4294967296 ^ n < _
    rw [q_ps]
    rw [Nat.add_mul, Nat.one_mul] at h3
    rw [Nat.mul_comm (4294967296 ^ n)]
    omega
theorem q_top {g : Nat → Nat} {n : Nat} (h : 0 < g n) : 4294967296 ^ n ≤ q_s g (n + 1) := by
  show _ ≤ q_s g n + g n * 4294967296 ^ n
  have := Nat.mul_le_mul_right (4294967296 ^ n) h
  rw [Nat.succ_mul, Nat.zero_mul, Nat.zero_add] at this
  omega
/-- zero digits on top add nothing -/
theorem q_z {g : Nat → Nat} {n : Nat} : ∀ {k : Nat}, (∀ j, n ≤ j → j < n + k → g j = 0) → q_s g (n + k) = q_s g n
  | 0, _ => rfl
  | k + 1, h => by
    show q_s g (n + k) + g (n + k) * _ = _
    rw [h (n + k) (by omega) (by omega), Nat.zero_mul, Nat.add_zero]
    exact q_z (fun j h1 h2 => h j h1 (by omega))
/-- the lower k digits and the rest -/
theorem q_sp {g : Nat → Nat} (k : Nat) : ∀ (n : Nat), q_s g (k + n) = q_s g k + 4294967296 ^ k * q_s (fun j => g (k + j)) n
  | 0 => by simp [q_s]
  | n + 1 => by
    show q_s g (k + n) + g (k + n) * 4294967296 ^ (k + n) = _ + _ * (q_s (fun j => g (k + j)) n + g (k + n) * 4294967296 ^ n)
    rw [q_sp k n, Nat.mul_add, Nat.pow_add]
    rw [Nat.mul_left_comm (4294967296 ^ k) (g (k + n))]
    omega
theorem q_mod {g : Nat → Nat} (k n : Nat) (h : q_ok g k) : q_s g (k + n) % 4294967296 ^ k = q_s g k := by
  rw [q_sp, Nat.add_mul_mod_self_left, Nat.mod_eq_of_lt (q_lt h)]
theorem q_div {g : Nat → Nat} (k n : Nat) (h : q_ok g k) : q_s g (k + n) / 4294967296 ^ k = q_s (fun j => g (k + j)) n := by
  rw [q_sp, Nat.add_mul_div_left _ _ (q_pos k), Nat.div_eq_of_lt (q_lt h), Nat.zero_add]
/-- a digit, out of the number -/
theorem q_dig {g : Nat → Nat} {n j : Nat} (h : q_ok g n) (hj : j < n) : g j = q_s g n / 4294967296 ^ j % 4294967296 := by
  obtain ⟨r, rfl⟩ : ∃ r, n = j + (1 + r) := ⟨n - j - 1, by omega⟩
  rw [q_div j (1 + r) (q_ok_le h (by omega)), q_sp 1 r]
  simp only [q_s, Nat.pow_zero, Nat.mul_one, Nat.zero_add, Nat.pow_one, Nat.add_mul_mod_self_left]
  exact (Nat.mod_eq_of_lt (h j (by omega))).symm
/-- what is the same from digit k on and less at k - 1 is less -/
theorem q_cmp {g f : Nat → Nat} {n k : Nat} (hg : q_ok g n) (hf : q_ok f n) (hk : k < n) (he : ∀ j, k < j → j < n → g j = f j) (h : g k < f k) : q_s g n < q_s f n := by
  obtain ⟨r, rfl⟩ : ∃ r, n = (k + 1) + r := ⟨n - (k + 1), by omega⟩
  rw [q_sp (k + 1) r, q_sp (k + 1) r, q_cg (g := fun j => g (k + 1 + j)) (f := fun j => f (k + 1 + j)) (fun j hj => he _ (by omega) (by omega))]
  have h1 := q_lt (n := k) (q_ok_le hg (by omega))
  have h2 := Nat.mul_le_mul_right (4294967296 ^ k) h
  rw [Nat.succ_mul] at h2
  have : q_s g (k + 1) < q_s f (k + 1) := by
    show q_s g k + g k * _ < q_s f k + f k * _
    omega
  omega
/-- a sum, digit by digit, with what is carried -/
theorem q_add {r x y : Nat → Nat} {i c c' : Nat} (h : q_s r i + c * 4294967296 ^ i = q_s x i + q_s y i) (hr : r i + c' * 4294967296 = x i + y i + c) : q_s r (i + 1) + c' * 4294967296 ^ (i + 1) = q_s x (i + 1) + q_s y (i + 1) := by
  show q_s r i + r i * _ + _ = (q_s x i + x i * _) + (q_s y i + y i * _)
  rw [q_ps]
  have h2 : (r i + c' * 4294967296) * 4294967296 ^ i = (x i + y i + c) * 4294967296 ^ i := by rw [hr]
  rw [Nat.add_mul, Nat.add_mul, Nat.add_mul] at h2
  rw [show c' * (4294967296 ^ i * 4294967296) = c' * 4294967296 * 4294967296 ^ i by rw [Nat.mul_assoc, Nat.mul_comm (4294967296 ^ i)]]
  omega
/-- a difference, digit by digit, with what is borrowed -/
theorem q_sub {r x y : Nat → Nat} {i c c' : Nat} (h : q_s r i + q_s y i = q_s x i + c * 4294967296 ^ i) (hr : r i + y i + c = x i + c' * 4294967296) : q_s r (i + 1) + q_s y (i + 1) = q_s x (i + 1) + c' * 4294967296 ^ (i + 1) := by
  show q_s r i + r i * _ + (q_s y i + y i * _) = (q_s x i + x i * _) + _
  rw [q_ps]
  have h2 : (r i + y i + c) * 4294967296 ^ i = (x i + c' * 4294967296) * 4294967296 ^ i := by rw [hr]
  rw [Nat.add_mul, Nat.add_mul, Nat.add_mul] at h2
  rw [show c' * (4294967296 ^ i * 4294967296) = c' * 4294967296 * 4294967296 ^ i by rw [Nat.mul_assoc, Nat.mul_comm (4294967296 ^ i)]]
  omega
/-- times a number of one digit, with what is carried -/
theorem q_mul1 {r x : Nat → Nat} {i c c' b : Nat} (h : q_s r i + c * 4294967296 ^ i = q_s x i * b) (hr : r i + c' * 4294967296 = x i * b + c) : q_s r (i + 1) + c' * 4294967296 ^ (i + 1) = q_s x (i + 1) * b := by
  show q_s r i + r i * _ + _ = (q_s x i + x i * _) * b
  rw [q_ps]
  have h2 : (r i + c' * 4294967296) * 4294967296 ^ i = (x i * b + c) * 4294967296 ^ i := by rw [hr]
  rw [Nat.add_mul, Nat.add_mul] at h2
  rw [show c' * (4294967296 ^ i * 4294967296) = c' * 4294967296 * 4294967296 ^ i by rw [Nat.mul_assoc, Nat.mul_comm (4294967296 ^ i)]]
  rw [Nat.add_mul, show x i * 4294967296 ^ i * b = x i * b * 4294967296 ^ i by rw [Nat.mul_assoc, Nat.mul_comm (4294967296 ^ i), Nat.mul_assoc]]
  omega
/-- how many digits are left when the zeros on top are dropped -/
def q_tr (f : Nat → Nat) : Nat → Nat
  | 0 => 0
  | n + 1 => if f n = 0 then q_tr f n else n + 1
theorem q_tr_le (f : Nat → Nat) : ∀ n, q_tr f n ≤ n
  | 0 => Nat.le_refl 0
  | n + 1 => by
    unfold q_tr
    split
    · exact Nat.le_succ_of_le (q_tr_le f n)
    · exact Nat.le_refl _
theorem q_tr_val (f : Nat → Nat) : ∀ n, q_s f (q_tr f n) = q_s f n
  | 0 => rfl
  | n + 1 => by
    unfold q_tr
    split
    · rename_i h
      rw [q_tr_val f n]
      show _ = q_s f n + f n * _
      rw [h, Nat.zero_mul, Nat.add_zero]
    · rfl
theorem q_tr_top (f : Nat → Nat) : ∀ n, 0 < q_tr f n → f (q_tr f n - 1) ≠ 0
  | 0, h => absurd h (Nat.lt_irrefl 0)
  | n + 1, h => by
    unfold q_tr at h ⊢
    split at h
    · rename_i h2
      rw [if_pos h2]
      exact q_tr_top f n h
    · rename_i h2
      rw [if_neg h2]
      exact h2
theorem q_tr_step {f : Nat → Nat} {k : Nat} (h : 0 < k) (h0 : f (k - 1) = 0) : q_tr f k = q_tr f (k - 1) := by
  obtain ⟨j, rfl⟩ : ∃ j, k = j + 1 := ⟨k - 1, by omega⟩
  rw [Nat.add_sub_cancel] at h0 ⊢
  show (if f j = 0 then _ else _) = _
  rw [if_pos h0]
theorem q_tr_stop {f : Nat → Nat} {k : Nat} (h : 0 < k) (h0 : f (k - 1) ≠ 0) : q_tr f k = k := by
  obtain ⟨j, rfl⟩ : ∃ j, k = j + 1 := ⟨k - 1, by omega⟩
  rw [Nat.add_sub_cancel] at h0
  show (if f j = 0 then _ else _) = _
  rw [if_neg h0]
/-- rows: all that stands in one is a limb -/
def q_r (f : Nat → Nat) : Prop := ∀ j, j < 24 → f j < 4294967296
theorem q_r_up {f : Nat → Nat} {i v : Nat} (h : q_r f) (hv : v < 4294967296) : q_r (va_up f i v) := fun j hj => by
  unfold va_up
  split
  · exact hv
  · exact h j hj
/-- what is read at a place that need not be one -/
def q_at (n : Nat) (f : Nat → Nat) (k : Int) : Nat := if 0 ≤ k ∧ k < n then f k.toNat else 0
