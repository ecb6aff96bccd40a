/-! ORDERS AS BRANCHES; THE DOCUMENT'S FUNCTIONS, pure -/
theorem q3_t (a b : Int) : (q_i3 a b = -1 ∧ a < b) ∨ (q_i3 a b = 0 ∧ a = b) ∨ (q_i3 a b = 1 ∧ b < a) := by
  unfold q_i3
  by_cases h : a < b
  · exact Or.inl ⟨if_pos h, h⟩
  · rw [if_neg h]
    by_cases h2 : a = b
    · exact Or.inr (Or.inl ⟨if_pos h2, h2⟩)
    · exact Or.inr (Or.inr ⟨if_neg h2, by omega⟩)
theorem q3_lt {a b : Int} : q_i3 a b < 0 ↔ a < b := by
  rcases q3_t a b with ⟨h, q⟩ | ⟨h, q⟩ | ⟨h, q⟩ <;> rw [h] <;> constructor <;> intro r <;> first | exact q | (exfalso; revert r; decide +kernel) | (exfalso; omega) | decide +kernel
theorem q3_le {a b : Int} : q_i3 a b ≤ 0 ↔ a ≤ b := by
  rcases q3_t a b with ⟨h, q⟩ | ⟨h, q⟩ | ⟨h, q⟩ <;> rw [h] <;> constructor <;> intro r <;> first | (exfalso; revert r; decide +kernel) | omega | decide +kernel
theorem q3_gt {a b : Int} : 0 < q_i3 a b ↔ b < a := by
  rcases q3_t a b with ⟨h, q⟩ | ⟨h, q⟩ | ⟨h, q⟩ <;> rw [h] <;> constructor <;> intro r <;> first | exact q | (exfalso; revert r; decide +kernel) | (exfalso; omega) | decide +kernel
theorem q3_ge {a b : Int} : 0 ≤ q_i3 a b ↔ b ≤ a := by
  rcases q3_t a b with ⟨h, q⟩ | ⟨h, q⟩ | ⟨h, q⟩ <;> rw [h] <;> constructor <;> intro r <;> first | (exfalso; revert r; decide +kernel) | omega | decide +kernel
theorem q3_eq {a b : Int} : q_i3 a b = 0 ↔ a = b := by
  rcases q3_t a b with ⟨h, q⟩ | ⟨h, q⟩ | ⟨h, q⟩ <;> rw [h] <;> constructor <;> intro r <;> first | exact q | (exfalso; revert r; decide +kernel) | (exfalso; omega) | decide +kernel
theorem q3_sg (v : Int) : q_sg v = q_i3 v 0 := rfl
theorem q3_c (a b : Nat) : q_c3 a b = q_i3 a b := by
  unfold q_c3 q_i3
  by_cases h : a < b
  · rw [if_pos h, if_pos (show (a : Int) < b by omega)]
  · rw [if_neg h, if_neg (show ¬ (a : Int) < b by omega)]
    by_cases h2 : a = b
    · rw [if_pos h2, if_pos (show (a : Int) = b by omega)]
    · rw [if_neg h2, if_neg (show ¬ (a : Int) = b by omega)]
theorem ep_eq {P : Int → Prop} {v : Int} (h : P v) (u : ∀ a b, P a → P b → a = b) : v = Classical.epsilon P := u _ _ h (Classical.epsilon_spec ⟨v, h⟩)
/-- HYPER and ARC -/
def sp_rw (al : Nat) (D w v : Int) : Prop := ∃ m, sp_end (sp_pr D (w * w / D) w) m ∧ v = sp_row al (sp_pr D (w * w / D) w) m
noncomputable def sp_RW (al : Nat) (D w : Int) : Int := Classical.epsilon (sp_rw al D w)
theorem sp_RWe {al : Nat} {D w v : Int} (h : sp_rw al D w v) : v = sp_RW al D w := ep_eq h (fun a b ⟨m, h1, h2⟩ ⟨k, h3, h4⟩ => by rw [h2, h4, sp_uniq h1 h3])
/-- EXP -/
def sp_xp (Q : Nat) (t v : Int) : Prop := ∃ m, sp_end (sp_ep ((2 ^ Q : Nat) : Int) (t / ((2 ^ (q_bl t.natAbs - (Q - 8)) : Nat) : Int))) m ∧ v = sp_sqr ((2 ^ Q : Nat) : Int) (sp_sum (sp_ep ((2 ^ Q : Nat) : Int) (t / ((2 ^ (q_bl t.natAbs - (Q - 8)) : Nat) : Int))) m) (q_bl t.natAbs - (Q - 8))
noncomputable def sp_EXP (Q : Nat) (t : Int) : Int := Classical.epsilon (sp_xp Q t)
theorem sp_EXPe {Q : Nat} {t v : Int} (h : sp_xp Q t v) : v = sp_EXP Q t := ep_eq h (fun a b ⟨m, h1, h2⟩ ⟨k, h3, h4⟩ => by rw [h2, h4, sp_uniq h1 h3])
/-- ROOT (0 for a number below 0) -/
noncomputable def sp_ROOT (v : Int) : Int := Classical.epsilon (fun r : Int => ∃ k : Nat, sp_root v.toNat k ∧ r = (k : Int))
theorem sp_ROOTe {v : Int} {k : Nat} (h : sp_root v.toNat k) : (k : Int) = sp_ROOT v := ep_eq (P := fun r : Int => ∃ k : Nat, sp_root v.toNat k ∧ r = (k : Int)) ⟨k, h, rfl⟩ (fun a b ⟨m, h1, h2⟩ ⟨k, h3, h4⟩ => by rw [h2, h4, sp_root_uniq h1 h3])
theorem sp_ROOTx (v : Int) : ∃ k : Nat, sp_root v.toNat k ∧ sp_ROOT v = (k : Int) := by
  obtain ⟨k, hk⟩ := sp_root_ex v.toNat
  exact ⟨k, hk, (sp_ROOTe hk).symm⟩
theorem sp_ROOT0 {v : Int} (h : v ≤ 0) : sp_ROOT v = 0 := by
  refine (sp_ROOTe (k := 0) ?_).symm
  rw [show v.toNat = 0 by omega]
  exact ⟨by decide, by decide⟩
/-- Newton's next guess has half the error -/
theorem sp_halves {v r g d : Nat} (h : sp_root v r) (hg : r ≤ g) (h0 : 0 < g) (hd : 2 * (g - r) ≤ 2 ^ d) (hn : (v / g + g) / 2 < g) : 0 < d ∧ 2 * ((v / g + g) / 2 - r) ≤ 2 ^ (d - 1) := by
  obtain ⟨n1, n2, n3, n4⟩ := sp_newton h hg h0
  have hrg : r < g := by omega
  have h3 := n3 hrg
  obtain ⟨x, hx⟩ : ∃ x, x = (v / g + g) / 2 := ⟨_, rfl⟩
  rw [← hx] at n1 n2 n3 n4 h3 hn ⊢
  rcases Nat.eq_zero_or_pos d with q | q
  · rw [q] at hd
    exfalso
    have : (2 : Nat) ^ 0 = 1 := rfl
    omega
  · refine ⟨q, ?_⟩
    obtain ⟨k, rfl⟩ : ∃ k, d = k + 1 := ⟨d - 1, by omega⟩
    rw [Nat.add_sub_cancel]
    rcases Nat.eq_zero_or_pos k with a | a
    · subst a
      have : (2 : Nat) ^ (0 + 1) = 2 := rfl
      have h4 := n4 (by omega)
      omega
    · obtain ⟨j, rfl⟩ : ∃ j, k = j + 1 := ⟨k - 1, by omega⟩
      rw [Nat.pow_succ, Nat.pow_succ] at hd
      rw [Nat.pow_succ]
      omega
/-- the first guess lies above the root -/
theorem sp_first {v r : Nat} (h : sp_root v r) : r ≤ 2 ^ ((q_bl v + 1) / 2) := by
  have hb : v < 2 ^ q_bl v := by
    unfold q_bl
    split
    · rename_i h
      rw [h]
      decide
    · exact Nat.lt_log2_self
  have h1 : v < 2 ^ ((q_bl v + 1) / 2) * 2 ^ ((q_bl v + 1) / 2) := by
    rw [← Nat.pow_add]
    exact Nat.lt_of_lt_of_le hb (Nat.pow_le_pow_right (by decide) (by omega))
  have h2 := h.1
  generalize 2 ^ ((q_bl v + 1) / 2) = g at h1
  rcases Nat.lt_or_ge g r with q | q
  · have := Nat.mul_le_mul (Nat.le_of_lt q) (Nat.le_of_lt q)
    omega
  · exact q
theorem q_bl_le {v n : Nat} (h : v < 2 ^ n) : q_bl v ≤ n := by
  unfold q_bl
  split
  · omega
  · rename_i h0
    have := (Nat.log2_lt h0).mpr h
    omega
theorem q_bl_lt (v : Nat) : v < 2 ^ q_bl v := by
  unfold q_bl
  split
  · rename_i h
    rw [h]
    decide
  · exact Nat.lt_log2_self
theorem q_bl_ge {v : Nat} (h : 0 < v) : 0 < q_bl v ∧ 2 ^ (q_bl v - 1) ≤ v := by
  unfold q_bl
  rw [if_neg (by omega)]
  refine ⟨by omega, ?_⟩
  rw [Nat.add_sub_cancel]
  exact Nat.log2_self_le (by omega)
