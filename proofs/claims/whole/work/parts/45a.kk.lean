/-! ints of differences -/
theorem i_ss (x y z : Int32) : x - y - z = x - (y + z) := by rw [Int32.sub_eq_add_neg x (y + z), Int32.neg_add, Int32.sub_eq_add_neg (x - y) z, Int32.sub_eq_add_neg x y, Int32.sub_eq_add_neg (-y) z, Int32.add_assoc]
theorem kk_eq (a q : Nat) : nI a - nI q - nI 2 = nI a - nI (q + 2) := (i_ss _ _ _).trans (congrArg (nI a - ·) (nI_add q 2))
theorem mx1 {a q : Nat} (ha : a < 2 ^ 20) (hq : q < 2 ^ 20) : (if nI 0 < nI a - nI q - nI 2 then nI a - nI q - nI 2 else nI 0) = nI (a - (q + 2)) := by
  rw [kk_eq]
  exact bd_maxs (by omega) (by omega)
theorem mx2 {a q : Nat} (ha : a < 2 ^ 20) (hq : q < 2 ^ 20) : (if nI 0 < -(nI a - nI q - nI 2) then -(nI a - nI q - nI 2) else nI 0) = nI (q + 2 - a) := by
  rw [kk_eq, Int32.neg_sub]
  exact bd_maxs (by omega) (by omega)
theorem kk_toInt {a q : Nat} (ha : a < 2 ^ 20) (hq : q < 2 ^ 20) : (nI a - nI q - nI 2).toInt = (a : Int) - q - 2 := by
  rw [kk_eq]
  rcases Nat.lt_or_ge a (q + 2) with h | h
  · rw [← Int32.neg_sub, pk_sub (by omega), Int32.toInt_neg, nI_toInt (by omega)]
    rw [Int.bmod_eq_of_le (by omega) (by omega)]
    omega
  · rw [pk_sub h, nI_toInt (by omega)]
    omega
