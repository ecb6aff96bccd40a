/-! SIN: what its numbers are, pure -/
theorem fl_absI {a d : Int} (hd : 0 < d) : (a / d).natAbs ≤ a.natAbs := by
  obtain ⟨k, rfl⟩ : ∃ k : Nat, d = (k : Int) := ⟨d.toNat, by omega⟩
  exact fl_abs (by omega)
theorem sn_pre {Q : Nat} {t : Int} (hQ1 : 80 ≤ Q) (hQ2 : Q ≤ 256) (hb1 : t.natAbs ≤ 2 ^ 280) : (t * 2).natAbs + (sp_PI Q).natAbs < 4294967296 ^ 24 ∧ 0 < sp_PI Q * 2 ∧ (t * 2 + sp_PI Q).natAbs + 1 < 4294967296 ^ 24 ∧ (sn_n Q t).natAbs < 4294967296 ^ 9 ∧ (sp_PI Q).natAbs < 4294967296 ^ 9 ∧ t.natAbs + (sn_n Q t * sp_PI Q).natAbs < 4294967296 ^ 24 ∧ t.natAbs < 4294967296 ^ 9 ∧ (sn_y Q t).natAbs ≤ 2 ^ 258 ∧ (0 ≤ sn_y Q t * sn_y Q t / ((2 ^ Q : Nat) : Int) ∧ sn_y Q t * sn_y Q t / ((2 ^ Q : Nat) : Int) ≤ 3 * ((2 ^ Q : Nat) : Int)) := by
  have hp256 : (2 : Nat) ^ Q ≤ 2 ^ 256 := Nat.pow_le_pow_right (by decide) hQ2
  have hp80 : (2 : Nat) ^ 80 ≤ 2 ^ Q := Nat.pow_le_pow_right (by decide) hQ1
  obtain ⟨h1, h2⟩ := sp_PIb hQ1
  have hP : (sp_PI Q).natAbs ≤ 2 ^ 258 := by omega
  have hP0 : 0 < sp_PI Q * 2 := by omega
  have hy := sn_yb t hQ1
  have hsb := sn_sb (y := sn_y Q t) (D := ((2 ^ Q : Nat) : Int)) (by omega) hy h2
  have hyb : (sn_y Q t).natAbs ≤ 2 ^ 258 := by omega
  clear hy h1 h2 hp80 hp256
  have ht2 : (t * 2 + sp_PI Q).natAbs ≤ 2 ^ 282 := by omega
  have hn : (sn_n Q t).natAbs ≤ 2 ^ 282 := Nat.le_trans (fl_absI hP0) ht2
  have hnP := mul_b hn hP
  refine ⟨b24 (by omega), hP0, b24 (by omega), Nat.lt_of_le_of_lt hn (by decide +kernel), Nat.lt_of_le_of_lt hP (by decide +kernel), ?_, Nat.lt_of_le_of_lt hb1 (by decide +kernel), hyb, hsb⟩
  exact Nat.lt_of_le_of_lt (Nat.add_le_add hb1 hnP) (by decide +kernel)
theorem sn_dv {i : Nat} (h : i < 10000) : 0 < 2 * (i + 1) * (2 * (i + 1) + 1) ∧ 2 * (i + 1) * (2 * (i + 1) + 1) < 2 ^ 31 :=
  ⟨Nat.mul_pos (by omega) (by omega), Nat.lt_of_le_of_lt (Nat.mul_le_mul (show 2 * (i + 1) ≤ 20000 by omega) (show 2 * (i + 1) + 1 ≤ 20001 by omega)) (by decide)⟩
theorem sn_sc {p s D : Int} (hD : 0 < D) (hs0 : 0 ≤ s) (hs : s ≤ 3 * D) : (p * s / D).natAbs ≤ 3 * p.natAbs := by
  rcases Int.lt_or_le p 0 with q | q
  · have c1 : p * (3 * D) ≤ p * s := Int.mul_le_mul_of_nonpos_left (by omega) hs
    have c2 : p * s ≤ 0 := Int.mul_nonpos_of_nonpos_of_nonneg (by omega) hs0
    have c3 : 3 * p ≤ p * s / D := by
      refine Int.le_ediv_of_mul_le hD ?_
      rw [Int.mul_comm 3 p, Int.mul_assoc]
      exact c1
    have a1 : p * s / D * D ≤ p * s := Int.ediv_mul_le _ (by omega)
    have c4 : p * s / D ≤ 0 := by
      have : p * s / D * D ≤ 0 * D := by omega
      exact Int.le_of_mul_le_mul_right this hD
    omega
  · have c1 : p * s ≤ p * (3 * D) := Int.mul_le_mul_of_nonneg_left hs q
    have c2 : 0 ≤ p * s := Int.mul_nonneg q hs0
    have a1 : p * s / D * D ≤ p * s := Int.ediv_mul_le _ (by omega)
    have c3 : p * s / D ≤ 3 * p := by
      have : p * s / D * D ≤ (3 * p) * D := by
        rw [Int.mul_comm 3 p, Int.mul_assoc]
        omega
      exact Int.le_of_mul_le_mul_right this hD
    have c4 : 0 ≤ p * s / D := Int.ediv_nonneg c2 (by omega)
    omega
