/-! SIGNS AND LEADING ZEROS, pure -/
section BDX2
variable {p : Program} {l : Launch} {e : Env} {R : Room} {s : State} {m : MethodId} {args : Array Value} {below : List Frame} {meth : Method} {c : Code} {H : Heap} {locs : List Loc} {cells slots : Nat} {Q : State → Prop}
variable {cc : ByteArray} {pc : Nat} {ls : Array Slot} {rest : List Value}
theorem bd_ishr {x y v : Int32} (hx : p.tables.exec = Jvm.exec) (hb : c.code = cc) (hd : decode cc pc = .ok (.ishr, 1)) (hv : x >>> (y &&& 31) = v) (kk : W p l e R s m args below meth c H locs cells slots Q (F0 m (pc + 1) ls (.int v :: rest))) : W p l e R s m args below meth c H locs cells slots Q (F0 m pc ls (.int y :: .int x :: rest)) := by
  subst hv
  exact lv_ishr hx hb hd kk
theorem bd_iushr {x y v : Int32} (hx : p.tables.exec = Jvm.exec) (hb : c.code = cc) (hd : decode cc pc = .ok (.iushr, 1)) (hv : (x.toUInt32 >>> (y.toUInt32 &&& Int32.toUInt32 31)).toInt32 = v) (kk : W p l e R s m args below meth c H locs cells slots Q (F0 m (pc + 1) ls (.int v :: rest))) : W p l e R s m args below meth c H locs cells slots Q (F0 m pc ls (.int y :: .int x :: rest)) := lv_iushr hx hb hd hv kk
theorem bd_lshr {x v : Int64} {y : Int32} (hx : p.tables.exec = Jvm.exec) (hb : c.code = cc) (hd : decode cc pc = .ok (.lshr, 1)) (hv : x >>> (y.toInt64 &&& 63) = v) (kk : W p l e R s m args below meth c H locs cells slots Q (F0 m (pc + 1) ls (.long v :: rest))) : W p l e R s m args below meth c H locs cells slots Q (F0 m pc ls (.int y :: .long x :: rest)) := lv_lshr hx hb hd hv kk
end BDX2
/-- 1, 0, -1 -/
def q_sg (v : Int) : Int32 := if v < 0 then -1 else if v = 0 then 0 else 1
theorem i32_eq {x y : Int32} (h : x.toInt = y.toInt) : x = y := Int32.toInt_inj.mp h
theorem i32_or0 (x : Int32) : (0 : Int32) ||| x = x := by
  apply Int32.toBitVec_inj.mp
  rw [Int32.toBitVec_or]
  simp
theorem i32_orm (x : Int32) : (-1 : Int32) ||| x = -1 := by
  apply Int32.toBitVec_inj.mp
  rw [Int32.toBitVec_or]
  exact BitVec.allOnes_or
theorem sg_i (x : Int32) : (x >>> (nI 31 &&& 31)) ||| (((-x).toUInt32 >>> ((nI 31).toUInt32 &&& Int32.toUInt32 31)).toInt32) = q_sg x.toInt := by
  have h1 := pk_shr x (nI 31 &&& 31) 31 (by decide +kernel)
  have h2 := pk_ushr (-x) (nI 31) 31 (by decide +kernel)
  have hb := Int32.toInt_lt x
  have ha := Int32.le_toInt x
  rw [Int.shiftRight_eq_div_pow] at h1
  unfold q_sg
  by_cases h3 : x.toInt < 0
  · rw [if_pos h3]
    have h4 : x >>> (nI 31 &&& 31) = -1 := i32_eq (by rw [h1, im1]; omega)
    rw [h4, i32_orm]
  · have h4 : x >>> (nI 31 &&& 31) = 0 := i32_eq (by rw [h1, i0]; omega)
    rw [h4, i32_or0, if_neg h3]
    by_cases h5 : x.toInt = 0
    · rw [if_pos h5, show x = 0 from i32_eq (by rw [h5, i0])]
      decide +kernel
    · rw [if_neg h5]
      have h6 : (-x).toBitVec.toNat = 2 ^ 32 - x.toBitVec.toNat := by
        rw [Int32.toBitVec_neg, BitVec.toNat_neg]
        have h7 : x.toBitVec.toNat < 2 ^ 32 := x.toBitVec.isLt
        have h8 : x.toBitVec.toNat ≠ 0 := fun q => h5 (by
          have : x.toBitVec = 0#32 := BitVec.eq_of_toNat_eq (by rw [q]; rfl)
          rw [show x = 0 from Int32.toBitVec_inj.mp this]
          rfl)
        rw [Nat.mod_eq_of_lt (by omega)]
      have h7 : x.toBitVec.toNat < 2 ^ 31 := by
        have h8 : x.toInt = x.toBitVec.toInt := rfl
        rw [BitVec.toInt_eq_toNat_cond] at h8
        split at h8 <;> omega
      apply Int32.toBitVec_inj.mp
      apply BitVec.eq_of_toNat_eq
      rw [h2, h6]
      show _ = 1
      have h9 : x.toBitVec.toNat ≤ 2 ^ 31 := by omega
      have h8 : x.toBitVec.toNat ≠ 0 := fun q => h5 (by
          have : x.toBitVec = 0#32 := BitVec.eq_of_toNat_eq (by rw [q]; rfl)
          rw [show x = 0 from Int32.toBitVec_inj.mp this]
          rfl)
      omega
theorem i64_eq {x y : Int64} (h : x.toInt = y.toInt) : x = y := Int64.toInt_inj.mp h
theorem i64_or0 (x : Int64) : (0 : Int64) ||| x = x := by
  apply Int64.toBitVec_inj.mp
  rw [Int64.toBitVec_or]
  simp
theorem i64_orm (x : Int64) : (-1 : Int64) ||| x = -1 := by
  apply Int64.toBitVec_inj.mp
  rw [Int64.toBitVec_or]
  exact BitVec.allOnes_or
theorem sg_l (x : Int64) : ((x >>> ((nI 63).toInt64 &&& 63)) ||| (((-x).toUInt64 >>> ((nI 63).toInt64.toUInt64 &&& Int64.toUInt64 63)).toInt64)).toInt32 = q_sg x.toInt := by
  obtain ⟨u, hu, rfl⟩ := wb_of x
  have hi : (lN u).toInt = if u < 2 ^ 63 then (u : Int) else (u : Int) - 2 ^ 64 := by
    show (lN u).toBitVec.toInt = _
    rw [wb_tb, BitVec.toInt_ofNat']
    simp only [Int.bmod_def]
    split <;> split <;> omega
  have h1 : (lN u >>> ((nI 63).toInt64 &&& 63)).toInt = (lN u).toInt >>> 63 := by
    show ((lN u).toBitVec.sshiftRight (((nI 63).toInt64 &&& 63).toBitVec.smod 64).toNat).toInt = _
    rw [show (((nI 63).toInt64 &&& 63).toBitVec.smod 64).toNat = 63 by decide +kernel, BitVec.toInt_sshiftRight]
    rfl
  rw [Int.shiftRight_eq_div_pow, hi] at h1
  rw [hi]
  unfold q_sg
  by_cases h3 : u < 2 ^ 63
  · rw [if_pos h3] at h1 ⊢
    have h4 : lN u >>> ((nI 63).toInt64 &&& 63) = 0 := i64_eq (by rw [h1]; show _ = (0 : Int); omega)
    rw [h4, i64_or0, if_neg (by omega)]
    by_cases h5 : u = 0
    · subst h5
      decide +kernel
    · rw [if_neg (by omega)]
      have h6 : -(lN u) = lN (2 ^ 64 - u) := by
        have h7 : lN (2 ^ 64 - u) + lN u = 0 := by
          rw [lN_add, show 2 ^ 64 - u + u = 2 ^ 64 by omega]
          decide +kernel
        have h8 := congrArg (· + -(lN u)) h7
        simp only [Int64.add_assoc, Int64.add_right_neg, Int64.add_zero, Int64.zero_add] at h8
        exact h8.symm
      rw [h6, wb_shr (by omega) (by decide), show (2 ^ 64 - u) / 2 ^ 63 = 1 by omega]
      decide +kernel
  · rw [if_neg h3] at h1 ⊢
    have h4 : lN u >>> ((nI 63).toInt64 &&& 63) = -1 := i64_eq (by rw [h1]; show _ = (-1 : Int); omega)
    rw [h4, i64_orm, if_pos (by omega)]
    decide +kernel
theorem q_log {u k x : Nat} (hx : x = u / 2 ^ k) (h1 : 1 ≤ x) (h4 : x < 4) : Nat.log2 u = k + x / 2 := by
  have hp : 0 < 2 ^ k := Nat.pow_pos (by decide)
  have h2 : x * 2 ^ k ≤ u := by rw [hx]; exact Nat.div_mul_le_self u _
  have h3 : u < (x + 1) * 2 ^ k := by rw [hx, Nat.mul_comm]; exact Nat.lt_mul_div_succ u hp
  have hu : u ≠ 0 := fun q => by
    have := Nat.le_mul_of_pos_left (2 ^ k) h1
    omega
  apply (Nat.log2_eq_iff hu).mpr
  rcases (show x = 1 ∨ x = 2 ∨ x = 3 by omega) with rfl | rfl | rfl
  · rw [show k + 1 / 2 = k by omega, Nat.pow_succ]
    omega
  · rw [show k + 2 / 2 = k + 1 by omega, Nat.pow_succ, Nat.pow_succ]
    omega
  · rw [show k + 3 / 2 = k + 1 by omega, Nat.pow_succ, Nat.pow_succ]
    omega
