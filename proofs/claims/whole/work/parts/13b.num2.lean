/-! NUMBERS, with their signs -/
/-- these cells are this number -/
def bd_n (w : Wh) (v : Int) : Prop := bd_ok w ∧ bd_v w = v
theorem bd_fin {f : Nat → Nat} {n : Nat} {g : Int32} {v : Int} (hf : q_r f) (hn : n ≤ 24) (hg : (g = 1 ∨ g = -1) ∨ q_s f n = 0) (hv : g.toInt * (q_s f n : Int) = v) : bd_n (q_tr f n, (if q_tr f n = 0 then 0 else g), f) v := by
  have h1 := q_tr_le f n
  have h2 := q_tr_val f n
  have h3 := q_tr_top f n
  refine ⟨⟨Nat.le_trans h1 hn, hf, h3, ?_⟩, ?_⟩
  · rcases Nat.eq_zero_or_pos (q_tr f n) with q | q
    · exact Or.inl ⟨q, if_pos q⟩
    · refine Or.inr ⟨q, ?_⟩
      show (if q_tr f n = 0 then (0 : Int32) else g) = 1 ∨ (if q_tr f n = 0 then (0 : Int32) else g) = -1
      rw [if_neg (by omega)]
      rcases hg with hg | hg
      · exact hg
      · have h4 := q_tple q h3
        have h5 := q_pos (q_tr f n - 1)
        omega
  · show (if q_tr f n = 0 then (0 : Int32) else g).toInt * ((q_s f (q_tr f n) : Nat) : Int) = v
    rw [h2]
    rcases Nat.eq_zero_or_pos (q_tr f n) with q | q
    · rw [q] at h2
      have h6 : q_s f n = 0 := h2.symm
      rw [← hv, h6]
      simp
    · rw [if_neg (by omega), hv]
theorem bd_ok_m {n : Nat} {g : Int32} {f : Nat → Nat} (h : bd_ok (n, g, f)) : (g = 0 ∧ q_s f n = 0) ∨ ((g = 1 ∨ g = -1) ∧ 0 < q_s f n) := by
  obtain ⟨h1, h2, h3, h4⟩ := h
  rcases h4 with ⟨q, r⟩ | ⟨q, r⟩
  · left
    refine ⟨r, ?_⟩
    have q : n = 0 := q
    rw [q]
    rfl
  · right
    refine ⟨r, ?_⟩
    have h5 := q_tple q h3
    have h6 := q_pos (n - 1)
    exact Nat.lt_of_lt_of_le h6 h5
theorem i1 : (1 : Int32).toInt = 1 := rfl
theorem i0 : (0 : Int32).toInt = 0 := rfl
theorem im1 : (-1 : Int32).toInt = -1 := rfl
/-- a sum of two whose signs aren't against each other -/
theorem bd_un1 {n k : Nat} {gx gs : Int32} {f t : Nat → Nat} (hx : (gx = 0 ∧ q_s f n = 0) ∨ ((gx = 1 ∨ gx = -1) ∧ 0 < q_s f n)) (hy : (gs = 0 ∧ q_s t k = 0) ∨ ((gs = 1 ∨ gs = -1) ∧ 0 < q_s t k)) (hs : ¬ gx * gs < 0) {r : Nat} (hr : r = q_s f n + q_s t k) :
    (((if gx = 0 then gs else gx) = 1 ∨ (if gx = 0 then gs else gx) = -1) ∨ r = 0) ∧ (if gx = 0 then gs else gx).toInt * (r : Int) = gx.toInt * (q_s f n : Int) + gs.toInt * (q_s t k : Int) := by
  rcases hx with ⟨h1, hx⟩ | ⟨h1, hx⟩
  · rw [if_pos h1, h1, i0]
    refine ⟨?_, ?_⟩
    · rcases hy with ⟨h2, hy⟩ | ⟨h2, hy⟩
      · right
        omega
      · left
        exact h2
    · rw [hr, hx, Nat.zero_add, Int.zero_mul, Int.zero_add]
  · have h3 : ¬ gx = 0 := by rcases h1 with h1 | h1 <;> rw [h1] <;> decide +kernel
    rw [if_neg h3]
    refine ⟨Or.inl h1, ?_⟩
    rcases h1 with h1 | h1 <;> rcases hy with ⟨h2, hy⟩ | ⟨h2 | h2, hy⟩ <;> rw [h1, h2] at hs <;> rw [h1, h2] <;>
      first
      | exact absurd (by decide +kernel) hs
      | (simp only [i0, i1, im1]; omega)
/-- signs against each other -/
theorem bd_un2 {n k : Nat} {gx gs : Int32} {f t : Nat → Nat} (hx : (gx = 0 ∧ q_s f n = 0) ∨ ((gx = 1 ∨ gx = -1) ∧ 0 < q_s f n)) (hy : (gs = 0 ∧ q_s t k = 0) ∨ ((gs = 1 ∨ gs = -1) ∧ 0 < q_s t k)) (hs : gx * gs < 0) : (gx = 1 ∧ gs = -1) ∨ (gx = -1 ∧ gs = 1) := by
  rcases hx with ⟨rfl, hx⟩ | ⟨rfl | rfl, hx⟩ <;> rcases hy with ⟨rfl, hy⟩ | ⟨rfl | rfl, hy⟩ <;>
    first
    | (exfalso; revert hs; decide +kernel)
    | exact Or.inl ⟨rfl, rfl⟩
    | exact Or.inr ⟨rfl, rfl⟩
theorem q_c3_ge {a b : Nat} (h : ¬ q_c3 a b < 0) : b ≤ a := by
  rcases Nat.lt_or_ge a b with q | q
  · rw [q_c3_lt q] at h
    exact absurd (by decide +kernel) h
  · exact q
theorem q_c3_l {a b : Nat} (h : q_c3 a b < 0) : a < b := by
  rcases Nat.lt_or_ge a b with q | q
  · exact q
  · rcases Nat.eq_or_lt_of_le q with q | q
    · rw [q_c3_eq q.symm] at h
      exact absurd h (by decide +kernel)
    · rw [q_c3_gt q] at h
      exact absurd h (by decide +kernel)
theorem q_szle {f g : Nat → Nat} {n k : Nat} (hg : q_ok g k) (ht : bd_tp n f) (h : q_s f n ≤ q_s g k) : n ≤ k := by
  rcases Nat.lt_or_ge k n with q | q
  · have := q_szlt hg q ht
    omega
  · exact q
