/-! sizes of what the document's functions give; long compares -/
theorem lg_q3 (x y : Int64) : lg_cmp x y = q_i3 x.toInt y.toInt := by
  unfold lg_cmp q_i3
  by_cases h : x > y
  · have h1 := Int64.lt_iff_toInt_lt.mp h
    rw [if_pos h, if_neg (by omega), if_neg (by omega)]
  · have h1 : ¬ y.toInt < x.toInt := fun q => h (Int64.lt_iff_toInt_lt.mpr q)
    rw [if_neg h]
    by_cases h2 : x = y
    · rw [if_pos h2, h2, if_neg (by omega), if_pos rfl]
    · have h3 : ¬ x.toInt = y.toInt := fun q => h2 (Int64.toInt_inj.mp q)
      rw [if_neg h2, if_pos (by omega)]
theorem sp_EXPb {Q : Nat} {t : Int} (hQ1 : 80 ≤ Q) (hQ2 : Q ≤ 256) (hb1 : t.natAbs ≤ 2 ^ (Q + 4)) : (sp_EXP Q t).natAbs ≤ 2 ^ 500 := by
  have hp256 : (2 : Nat) ^ Q ≤ 2 ^ 256 := Nat.pow_le_pow_right (by decide) hQ2
  have hp80 : (2 : Nat) ^ 80 ≤ 2 ^ Q := Nat.pow_le_pow_right (by decide) hQ1
  have hDp : (0 : Int) < ((2 ^ Q : Nat) : Int) := by omega
  have hbl : q_bl t.natAbs ≤ Q + 5 := q_bl_le (Nat.lt_of_le_of_lt hb1 (Nat.pow_lt_pow_right (by decide) (by omega)))
  have hcut := sp_cut (t := t) (Q := Q) (by omega)
  have hpw : 2 ^ (Q - 8) * 256 = 2 ^ Q := by rw [show (256 : Nat) = 2 ^ 8 by decide, ← Nat.pow_add]; congr 1; omega
  have hE : ∀ v, sp_xp Q t v → v = sp_EXP Q t := fun v h => sp_EXPe h
  unfold sp_xp at hE
  obtain ⟨yy, hyy⟩ : ∃ y, y = t / ((2 ^ (q_bl t.natAbs - (Q - 8)) : Nat) : Int) := ⟨_, rfl⟩
  obtain ⟨ns, hns⟩ : ∃ y, y = q_bl t.natAbs - (Q - 8) := ⟨_, rfl⟩
  rw [← hyy, ← hns] at hE
  rw [← hyy] at hcut
  have hns13 : ns ≤ 13 := by omega
  clear hyy hns hb1
  have hy4 : 4 * (yy.natAbs : Int) ≤ ((2 ^ Q : Nat) : Int) := by omega
  have hy256 : 256 * (yy.natAbs : Int) ≤ ((2 ^ Q : Nat) : Int) := by omega
  have hH := sp_epH hDp hy4
  obtain ⟨m0, hm0, hend⟩ := sp_ex hH (N := 257) (show (((2 ^ Q : Nat) : Int)).natAbs < 2 ^ 257 from Nat.lt_of_le_of_lt (show (((2 ^ Q : Nat) : Int)).natAbs ≤ 2 ^ 256 by omega) (by decide +kernel))
  have hmp : 0 < m0 := by
    rcases Nat.eq_zero_or_pos m0 with q | q
    · rw [q] at hend
      rcases hend.1 with r | r
      · have : ((2 ^ Q : Nat) : Int) = 0 := r
        omega
      · have : ((2 ^ Q : Nat) : Int) = -1 := r
        omega
    · exact q
  have hnear := sp_near hH hmp hend.2
  have hp1 := sp_p1 (D := ((2 ^ Q : Nat) : Int)) (y := yy) (by omega) hy256
  have hne0 : sp_ep ((2 ^ Q : Nat) : Int) yy 0 = ((2 ^ Q : Nat) : Int) := rfl
  rw [hne0] at hnear
  have hS0 : 0 ≤ sp_sum (sp_ep ((2 ^ Q : Nat) : Int) yy) m0 := by omega
  have hSb : sp_sum (sp_ep ((2 ^ Q : Nat) : Int) yy) m0 * 65536 ≤ ((2 ^ Q : Nat) : Int) * 66560 := by omega
  have hsq := sp_sqrb hDp hS0 hSb ns
  rw [← hE _ ⟨m0, hend, rfl⟩]
  have hbf := sp_bf12 ns (by omega)
  have h1 : ((2 ^ Q : Nat) : Int) * (sp_bf ns : Int) ≤ ((2 ^ 256 * 2 ^ 200 : Nat) : Int) := by
    rw [← Int.natCast_mul]
    have := Nat.mul_le_mul hp256 hbf
    omega
  have h2 : (2 : Nat) ^ 256 * 2 ^ 140 ≤ 2 ^ 400 := by decide +kernel
  omega
theorem sp_LOGb {Q : Nat} {t : Int} (hQ1 : 80 ≤ Q) (hQ2 : Q ≤ 256) (ht : 0 < t) (hb1 : t.natAbs < 2 ^ (Q + 50)) : (sp_LOG Q t).natAbs ≤ 2 ^ 500 := by
  obtain ⟨bb, aa, bp, hbb, hbl, -⟩ := lg_pre hQ1 hQ2 ht hb1
  have hp256 : (2 : Nat) ^ Q ≤ 2 ^ 256 := Nat.pow_le_pow_right (by decide) hQ2
  have hp80 : (2 : Nat) ^ 80 ≤ 2 ^ Q := Nat.pow_le_pow_right (by decide) hQ1
  have hlb := sp_lgb ht hQ1
  have hw : (sp_lgw Q t).natAbs ≤ 2 ^ 256 := by omega
  have hRb := Nat.le_trans (sp_RWb (al := 0) (by omega) hlb) (Nat.mul_le_mul_left 2 hw)
  have hR3 : (sp_RW 0 ((2 ^ Q : Nat) : Int) (((2 ^ Q : Nat) : Int) / 3)).natAbs ≤ 2 * 2 ^ 256 := Nat.le_trans (sp_RWb (al := 0) (by omega) (by omega)) (Nat.mul_le_mul_left 2 (by omega))
  have hL2 : (sp_L2 Q).natAbs ≤ 2 ^ 258 := by
    unfold sp_L2
    rw [Int.natAbs_mul]
    exact Nat.le_trans (Nat.mul_le_mul_right _ hR3) (by decide +kernel)
  clear hlb hw hR3
  have hk : ((bb : Int) - Q - 2).natAbs ≤ 1000 := by omega
  unfold sp_LOG
  rw [← hbb]
  exact Nat.le_trans (add_b (mul_b hRb (Nat.le_refl (2 : Int).natAbs)) (mul_b hL2 hk)) (by decide +kernel)
theorem sp_HV3 {Q : Nat} {T : Int} (h0 : 0 ≤ T) (h1 : T ≤ ((2 ^ Q : Nat) : Int)) : (sp_RW 1 ((2 ^ Q : Nat) : Int) (sp_HV Q (sp_HV Q (sp_HV Q T)))).natAbs ≤ 2 ^ Q := by
  have a1 := sp_HVb (Q := Q) h0
  have a2 := sp_HVb (Q := Q) a1.1
  have a3 := sp_HVb (Q := Q) a2.1
  have hp : 0 < 2 ^ Q := Nat.pow_pos (by decide)
  have a4 := sp_RWb (al := 1) (D := ((2 ^ Q : Nat) : Int)) (w := sp_HV Q (sp_HV Q (sp_HV Q T))) (by omega) (by omega)
  omega
theorem sp_ATb {Q : Nat} (t : Int) (hQ1 : 80 ≤ Q) (hQ2 : Q ≤ 256) : (sp_AT Q t).natAbs ≤ 2 ^ 500 := by
  have hp256 : (2 : Nat) ^ Q ≤ 2 ^ 256 := Nat.pow_le_pow_right (by decide) hQ2
  have hp80 : (2 : Nat) ^ 80 ≤ 2 ^ Q := Nat.pow_le_pow_right (by decide) hQ1
  obtain ⟨h1, h2⟩ := sp_PIb hQ1
  have h3 : ∀ x : Int, 0 ≤ x → (sp_AP Q x).natAbs ≤ 2 ^ 500 := fun x hx => by
    unfold sp_AP
    by_cases h : ((2 ^ Q : Nat) : Int) < x
    · rw [if_pos h]
      obtain ⟨f1, f2⟩ := arc_flip h
      have a1 := sp_HV3 f1 f2
      generalize sp_RW 1 ((2 ^ Q : Nat) : Int) (sp_HV Q (sp_HV Q (sp_HV Q (((2 ^ (2 * Q) : Nat) : Int) / x)))) = r at *
      clear f1 f2 h
      omega
    · rw [if_neg h]
      have a1 := sp_HV3 (Q := Q) hx (by omega)
      generalize sp_RW 1 ((2 ^ Q : Nat) : Int) (sp_HV Q (sp_HV Q (sp_HV Q x))) = r at *
      clear h
      omega
  unfold sp_AT
  have h4 := h3 (t.natAbs : Int) (by omega)
  split
  · exact neg_b h4
  · exact h4
theorem sp_SINb {Q : Nat} {t : Int} (hQ1 : 80 ≤ Q) (hQ2 : Q ≤ 256) (hb1 : t.natAbs ≤ 2 ^ 280) : (sp_SIN Q t).natAbs ≤ 2 ^ 500 := by
  obtain ⟨-, -, -, -, -, -, -, hyb, hss0, hss3⟩ := sn_pre hQ1 hQ2 hb1
  have hDp : (0 : Int) < ((2 ^ Q : Nat) : Int) := Int.natCast_pos.mpr (Nat.pow_pos (by decide))
  have hSIN : ∀ v, sp_sn Q t v → v = sp_SIN Q t := fun v h => sp_SINe h
  have hH := sn_pH (y := sn_y Q t) hDp hss0 hss3
  obtain ⟨m0, hm0, hend⟩ := sn_ex hH (N := 258) hyb
  rw [← hSIN _ ⟨m0, hend, rfl⟩]
  have h1 := Nat.le_trans (sn_sum hH m0) (Nat.le_trans (Nat.mul_le_mul (show m0 ≤ 1000 by omega) hyb) (show 1000 * 2 ^ 258 ≤ 2 ^ 500 by decide +kernel))
  split
  · exact neg_b h1
  · exact h1
