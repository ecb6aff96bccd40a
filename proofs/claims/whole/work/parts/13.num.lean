/-! NUMBERS: what a number's cells stand for -/
def bd_tp (n : Nat) (f : Nat → Nat) : Prop := 0 < n → f (n - 1) ≠ 0
theorem q_r_ok {f : Nat → Nat} {n : Nat} (h : q_r f) (hn : n ≤ 24) : q_ok f n := fun j hj => h j (by omega)
theorem q_r63 {f : Nat → Nat} {j : Nat} (h : q_r f) (hj : j < 24) : f j < 2 ^ 63 := Nat.lt_trans (h j hj) (by decide)
theorem q_tple {n : Nat} {f : Nat → Nat} (h : 0 < n) (ht : bd_tp n f) : 4294967296 ^ (n - 1) ≤ q_s f n := by
  obtain ⟨k, rfl⟩ : ∃ k, n = k + 1 := ⟨n - 1, by omega⟩
  have h1 := ht h
  rw [Nat.add_sub_cancel] at h1 ⊢
  exact q_top (Nat.pos_of_ne_zero h1)
theorem q_szlt {f g : Nat → Nat} {n k : Nat} (hf : q_ok f n) (hn : n < k) (ht : bd_tp k g) : q_s f n < q_s g k := by
  have h1 := q_lt hf
  have h2 := q_tple (by omega) ht
  have h3 : 4294967296 ^ n ≤ 4294967296 ^ (k - 1) := Nat.pow_le_pow_right (by decide) (by omega)
  omega
theorem q_c3_lt {a b : Nat} (h : a < b) : q_c3 a b = -1 := if_pos h
theorem q_c3_eq {a b : Nat} (h : a = b) : q_c3 a b = 0 := by
  unfold q_c3
  rw [if_neg (by omega), if_pos h]
theorem q_c3_gt {a b : Nat} (h : b < a) : q_c3 a b = 1 := by
  unfold q_c3
  rw [if_neg (by omega), if_neg (by omega)]
theorem q_c3_sz {f g : Nat → Nat} {n k : Nat} (hf : q_ok f n) (hg : q_ok g k) (htf : bd_tp n f) (htg : bd_tp k g) (hn : n < 2 ^ 31) (hk : k < 2 ^ 31) (hne : n ≠ k) : (if nI n < nI k then (-1 : Int32) else if nI n = nI k then 0 else 1) = q_c3 (q_s f n) (q_s g k) := by
  rcases Nat.lt_or_gt_of_ne hne with q | q
  · rw [if_pos ((nI_ltI hn hk).mpr q), q_c3_lt (q_szlt hf q htg)]
  · rw [if_neg (fun h => by have := (nI_ltI hn hk).mp h; omega), if_neg (fun h => hne ((nI_eq hn hk).mp h)), q_c3_gt (q_szlt hg q htf)]
theorem q_c3_top {f g : Nat → Nat} {n k : Nat} (hf : q_ok f n) (hg : q_ok g n) (hk : k < n) (he : ∀ j, k < j → j < n → f j = g j) (hne : f k ≠ g k) : q_c3 (f k) (g k) = q_c3 (q_s f n) (q_s g n) := by
  rcases Nat.lt_or_gt_of_ne hne with q | q
  · rw [q_c3_lt q, q_c3_lt (q_cmp hf hg hk he q)]
  · rw [q_c3_gt q, q_c3_gt (q_cmp hg hf hk (fun j h1 h2 => (he j h1 h2).symm) q)]
/-- a number in order: limbs, no zero on top, the sign -/
def bd_ok (w : Wh) : Prop := w.1 ≤ 24 ∧ q_r w.2.2 ∧ bd_tp w.1 w.2.2 ∧ (w.1 = 0 ∧ w.2.1 = 0 ∨ 0 < w.1 ∧ (w.2.1 = 1 ∨ w.2.1 = -1))
/-- without its sign -/
def bd_m (w : Wh) : Nat := q_s w.2.2 w.1
/-- with it -/
def bd_v (w : Wh) : Int := w.2.1.toInt * (bd_m w : Int)
theorem bd_at_in {n : Nat} {f : Nat → Nat} {j : Nat} (h : j < n) : q_at n f (j : Int) = f j := by
  unfold q_at
  rw [if_pos (by omega)]
  rfl
