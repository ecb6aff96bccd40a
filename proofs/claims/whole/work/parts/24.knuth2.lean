/-! LONG DIVISION, pure, more -/
theorem q_subc {g y cy x : Nat} (hg : g < 4294967296) (hy : y < 4294967296) (hc : cy < 4294967296) (hx : x < 4294967296) : g * y + cy < 2 ^ 64 ∧ (g * y + cy) / 4294967296 + (if x < (g * y + cy) % 4294967296 then 1 else 0) < 4294967296 ∧ (if x < (g * y + cy) % 4294967296 then x + 4294967296 - (g * y + cy) % 4294967296 else x - (g * y + cy) % 4294967296) + (g * y + cy) = x + ((g * y + cy) / 4294967296 + (if x < (g * y + cy) % 4294967296 then 1 else 0)) * 4294967296 := by
  have h1 : g * y ≤ 4294967295 * 4294967295 := Nat.mul_le_mul (by omega) (by omega)
  generalize g * y = P at h1 ⊢
  split <;> omega
theorem q_dfb {a b : Nat} (ha : a < 4294967296) (hb : b < 4294967296) : (if a < b then a + 4294967296 - b else a - b) < 4294967296 ∧ (if a < b then a + 4294967296 - b else a - b) + b = a + (if a < b then 1 else 0) * 4294967296 := by
  split <;> omega
theorem q_c3_pos {a b : Nat} : 0 < q_c3 a b ↔ b < a := by
  rcases Nat.lt_trichotomy a b with q | q | q
  · rw [q_c3_lt q]
    exact ⟨fun h => absurd h (by decide +kernel), fun h => by omega⟩
  · rw [q_c3_eq q]
    exact ⟨fun h => absurd h (by decide +kernel), fun h => by omega⟩
  · rw [q_c3_gt q]
    exact ⟨fun _ => q, fun _ => by decide +kernel⟩
/-- what the guess is held against: quotient q of W by V, one limb and two limbs on top -/
theorem kn_first {W V q u1 u2 v1 M lo lv g l : Nat} (hq1 : q * V ≤ W) (hq2 : W < (q + 1) * V) (hW : W = (u1 * 4294967296 + u2) * M + lo) (hlo : lo < M) (hV : V = v1 * M + lv) (hlv : lv < M) (hv1 : 2147483648 ≤ v1) (hg : g * v1 + l = u1 * 4294967296 + u2) (hgB : g < 4294967296) : (l < v1 → q ≤ g) ∧ g ≤ q + 2 := by
  have h1 : W < (u1 * 4294967296 + u2 + 1) * M := by rw [hW, Nat.add_mul (u1 * 4294967296 + u2) 1, Nat.one_mul]; omega
  have h2 : v1 * M ≤ V := by omega
  have h3 := kn_1 hq1 h1 h2
  refine ⟨fun hl => ?_, ?_⟩
  · rcases Nat.lt_or_ge g q with r | r
    · exfalso
      have h4 : (g + 1) * v1 ≤ q * v1 := Nat.mul_le_mul_right v1 r
      rw [Nat.add_mul, Nat.one_mul] at h4
      omega
    · exact r
  · refine kn_2 (u := u1 * 4294967296 + u2) (v := v1) (M := M) (by omega) (by omega) (by rw [Nat.add_mul, Nat.one_mul]; omega) ?_ hq2
    have h5 : g * M ≤ 4294967296 * M := Nat.mul_le_mul_right M (by omega)
    have h6 : 2147483648 * M ≤ v1 * M := Nat.mul_le_mul_right M hv1
    omega
/-- a limb on top that isn't below the divisor's is just it -/
theorem kn_same {W V u1 u2 v1 M lo lv : Nat} (hW : W = (u1 * 4294967296 + u2) * M + lo) (hV : V = v1 * M + lv) (hlv : lv < M) (hWV : W < 4294967296 * V) : u1 ≤ v1 := by
  rcases Nat.lt_or_ge v1 u1 with r | r
  · exfalso
    have h1 : ((v1 + 1) * 4294967296) * M ≤ (u1 * 4294967296 + u2) * M := Nat.mul_le_mul_right M (by omega)
    have h2 : V ≤ (v1 + 1) * M := by rw [Nat.add_mul, Nat.one_mul]; omega
    have h3 : 4294967296 * V ≤ 4294967296 * ((v1 + 1) * M) := Nat.mul_le_mul_left _ h2
    rw [Nat.mul_comm (v1 + 1) 4294967296, Nat.mul_assoc] at h1
    omega
  · exact r
/-- the test with the third limb: passed, the guess is at most one too great -/
theorem kn_pass {W V q u v1 v2 u3 M lo lv g l : Nat} (hq2 : W < (q + 1) * V) (hW : W = (u * 4294967296 + u3) * M + lo) (hV : V = (v1 * 4294967296 + v2) * M + lv) (hlv : lv < M) (hv1 : 0 < v1) (hg : g * v1 + l = u) (hgB : g < 4294967296) (ht : g * v2 ≤ l * 4294967296 + u3) : g ≤ q + 1 := by
  refine kn_3 (t := v1 * 4294967296 + v2) (U := u * 4294967296 + u3) (M := M) ?_ (by omega) (by rw [Nat.add_mul (v1 * 4294967296 + v2) 1, Nat.one_mul]; omega) ?_ hq2
  · rw [← hg, Nat.mul_add, Nat.add_mul, ← Nat.mul_assoc]
    omega
  · have h1 : g * M ≤ 4294967296 * M := Nat.mul_le_mul_right M (by omega)
    have h2 : 1 * 4294967296 * M ≤ (v1 * 4294967296 + v2) * M := Nat.mul_le_mul_right M (by omega)
    omega
theorem kn_fail {W V q u v1 v2 u3 M lo lv g l : Nat} (hq1 : q * V ≤ W) (hW : W = (u * 4294967296 + u3) * M + lo) (hlo : lo < M) (hV : V = (v1 * 4294967296 + v2) * M + lv) (hg : g * v1 + l = u) (ht : l * 4294967296 + u3 < g * v2) : q < g := by
  refine kn_4 (t := v1 * 4294967296 + v2) (U := u * 4294967296 + u3) (M := M) ?_ (by rw [Nat.add_mul (u * 4294967296 + u3) 1, Nat.one_mul]; omega) (by omega) hq1
  have h1 : g * (v1 * 4294967296 + v2) = g * v1 * 4294967296 + g * v2 := by rw [Nat.mul_add, ← Nat.mul_assoc]
  have h2 : (g * v1 + l) * 4294967296 = g * v1 * 4294967296 + l * 4294967296 := Nat.add_mul _ _ _
  rw [← hg, h1, h2, Nat.add_assoc]
  exact Nat.add_lt_add_left ht _
