/-! LOG: what its numbers are, pure -/
theorem lg_pre {Q : Nat} {t : Int} (hQ1 : 80 ≤ Q) (hQ2 : Q ≤ 256) (hb0 : 0 < t) (hb1 : t.natAbs < 2 ^ (Q + 50)) : ∃ (bb : Nat) (aa bp : Int), bb = q_bl (t * 3).natAbs ∧ bb ≤ Q + 52 ∧ t.natAbs < 2 ^ bb ∧ aa = t * ((2 ^ (Q + 2 - bb) : Nat) : Int) ∧ bp = ((2 ^ (Q + (bb - (Q + 2))) : Nat) : Int) ∧ 0 < aa ∧ 0 < bp ∧ aa.natAbs ≤ 2 ^ 309 ∧ bp.natAbs ≤ 2 ^ 308 ∧ sp_lgw Q t = (aa - bp) * ((2 ^ Q : Nat) : Int) / (aa + bp) := by
  have hpw : (2 : Nat) ^ (Q + 52) = 2 ^ (Q + 50) * 4 := by rw [show Q + 52 = Q + 50 + 2 by omega, Nat.pow_add _ _ 2]
  have h3 : (t * 3).natAbs = t.natAbs * 3 := by omega
  have hbl := q_bl_le (show (t * 3).natAbs < 2 ^ (Q + 52) by rw [h3, hpw]; omega)
  obtain ⟨hln1, hln2⟩ := sp_lgn (Q := Q) hb0
  have hbt := q_bl_lt (t * 3).natAbs
  have hw : sp_lgw Q t = (t * ((2 ^ (Q + 2 - q_bl (t * 3).natAbs) : Nat) : Int) - ((2 ^ (Q + (q_bl (t * 3).natAbs - (Q + 2))) : Nat) : Int)) * ((2 ^ Q : Nat) : Int) / (t * ((2 ^ (Q + 2 - q_bl (t * 3).natAbs) : Nat) : Int) + ((2 ^ (Q + (q_bl (t * 3).natAbs - (Q + 2))) : Nat) : Int)) := rfl
  rw [h3] at *
  obtain ⟨bb, hbb⟩ : ∃ b, b = q_bl (t.natAbs * 3) := ⟨_, rfl⟩
  rw [← hbb] at hbl hln1 hln2 hbt hw
  have hq308 : (2 : Nat) ^ (Q + (bb - (Q + 2))) ≤ 2 ^ 308 := Nat.pow_le_pow_right (by decide) (by omega)
  have hqp : 0 < (2 : Nat) ^ (Q + (bb - (Q + 2))) := Nat.pow_pos (by decide)
  have hbp : (0 : Int) < ((2 ^ (Q + (bb - (Q + 2))) : Nat) : Int) ∧ ((2 ^ (Q + (bb - (Q + 2))) : Nat) : Int).natAbs ≤ 2 ^ 308 := by
    generalize 2 ^ (Q + (bb - (Q + 2))) = y at *
    omega
  clear hpw hb1
  have hx9 : t.natAbs < 2 ^ bb := by
    generalize 2 ^ bb = y at *
    omega
  refine ⟨bb, _, _, hbb, by omega, hx9, rfl, rfl, ?_, hbp.1, ?_, hbp.2, hw⟩
  · generalize t * ((2 ^ (Q + 2 - bb) : Nat) : Int) = x at *
    generalize ((2 ^ (Q + (bb - (Q + 2))) : Nat) : Int) = y at *
    omega
  · generalize t * ((2 ^ (Q + 2 - bb) : Nat) : Int) = x at *
    generalize ((2 ^ (Q + (bb - (Q + 2))) : Nat) : Int) = y at *
    omega
theorem lg_s {aa bp D : Int} (h1 : 0 < aa) (h2 : 0 < bp) (h3 : aa.natAbs ≤ 2 ^ 309) (h4 : bp.natAbs ≤ 2 ^ 308) (h5 : 0 < D) (h6 : D ≤ 2 ^ 256) : aa.natAbs + bp.natAbs < 4294967296 ^ 24 ∧ (aa - bp).natAbs < 4294967296 ^ 10 ∧ 0 < aa + bp ∧ ((aa - bp) * D).natAbs + 1 < 4294967296 ^ 24 := by
  have h7 : (aa - bp).natAbs ≤ 2 ^ 310 := by omega
  have h8 : D.natAbs ≤ 2 ^ 256 := by omega
  refine ⟨b24 (by omega), Nat.lt_of_le_of_lt h7 (by decide +kernel), by omega, ?_⟩
  exact Nat.lt_of_le_of_lt (Nat.add_le_add_right (mul_b h7 h8) 1) (by decide +kernel)
theorem lg_r {Q bb : Nat} {t : Int} (hQ1 : 80 ≤ Q) (hQ2 : Q ≤ 256) (hbb : bb ≤ Q + 52) (ht : 0 < t) : (sp_RW 0 ((2 ^ Q : Nat) : Int) (sp_lgw Q t)).natAbs < 4294967296 ^ 9 ∧ (sp_L2 Q).natAbs * ((bb : Int) - Q - 2).natAbs < 4294967296 ^ 24 ∧ (sp_RW 0 ((2 ^ Q : Nat) : Int) (sp_lgw Q t) * 2).natAbs + (sp_L2 Q * ((bb : Int) - Q - 2)).natAbs < 4294967296 ^ 24 := by
  have hp256 : (2 : Nat) ^ Q ≤ 2 ^ 256 := Nat.pow_le_pow_right (by decide) hQ2
  have hp80 : (2 : Nat) ^ 80 ≤ 2 ^ Q := Nat.pow_le_pow_right (by decide) hQ1
  have hlb := sp_lgb ht hQ1
  have hw : (sp_lgw Q t).natAbs ≤ 2 ^ 256 := by omega
  have hRb := Nat.le_trans (sp_RWb (al := 0) (by omega) hlb) (Nat.mul_le_mul_left 2 hw)
  have hR3 : (sp_RW 0 ((2 ^ Q : Nat) : Int) (((2 ^ Q : Nat) : Int) / 3)).natAbs ≤ 2 * 2 ^ 256 := Nat.le_trans (sp_RWb (al := 0) (by omega) (by omega)) (Nat.mul_le_mul_left 2 (by omega))
  have hL2 : (sp_L2 Q).natAbs ≤ 2 ^ 258 := by
    unfold sp_L2
    rw [Int.natAbs_mul]
    exact Nat.le_trans (Nat.mul_le_mul_right _ hR3) (by decide +kernel)
  clear hlb hw hR3
  have hk : ((bb : Int) - Q - 2).natAbs ≤ 1000 := by omega
  refine ⟨b9 (Nat.le_trans hRb (by decide +kernel)), b24 (Nat.le_trans (Nat.mul_le_mul hL2 hk) (by decide +kernel)), b24 ?_⟩
  refine Nat.le_trans (Nat.add_le_add (mul_b hRb (Nat.le_refl (2 : Int).natAbs)) (mul_b hL2 hk)) (by decide +kernel)
