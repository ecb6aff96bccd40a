/-! LONGS that may be below 0 -/
theorem bd_lsubN (a b c : Nat) (ha : a < 4294967296) (hb : b < 4294967296) (hc : c ≤ 1) : lN a - lN b - lN c = lN (if a < b + c then a + 18446744073709551616 - (b + c) else a - (b + c)) := by
  have h1 : lN a = lN (a + 18446744073709551616) := by
    rw [wb_mod a, wb_mod (a + 18446744073709551616)]
    exact congrArg lN (by omega)
  rw [h1, lN_sub (by omega), lN_sub (by omega), wb_mod (a + 18446744073709551616 - b - c)]
  refine congrArg lN ?_
  split <;> omega
theorem bd_lt0 {u : Nat} (h : u < 2 ^ 64) : lN u < 0 ↔ 2 ^ 63 ≤ u := by
  rw [Int64.lt_iff_toInt_lt]
  have h1 : (lN u).toInt = if u < 2 ^ 63 then (u : Int) else (u : Int) - 2 ^ 64 := by
    show (lN u).toBitVec.toInt = _
    rw [wb_tb, BitVec.toInt_ofNat']
    simp only [Int.bmod_def]
    split <;> split <;> omega
  rw [h1]
  show _ < (0 : Int64).toInt ↔ _
  rw [show (0 : Int64).toInt = 0 from rfl]
  split <;> omega
section BDS
variable {p : Program} {l : Launch} {e : Env} {R : Room} {s : State} {m : MethodId} {args : Array Value} {below : List Frame} {meth : Method} {c : Code} {H : Heap} {locs : List Loc} {cells slots : Nat} {Q : State → Prop}
variable {cc : ByteArray} {pc : Nat} {ls : Array Slot} {rest : List Value} {off : Int} {tgt : Nat}
theorem bd_lsg {x : Int64} (hx : p.tables.exec = Jvm.exec) (hb : c.code = cc) (hd : decode cc pc = .ok (.lcmp, 1)) (hd2 : decode cc (pc + 1) = .ok (.ifCond .ge off, 3)) (ht : ((pc + 1 : Nat) : Int) + off = (tgt : Int)) (kt : ¬ x < 0 → W p l e R s m args below meth c H locs cells slots Q (F0 m tgt ls rest)) (kf : x < 0 → W p l e R s m args below meth c H locs cells slots Q (F0 m (pc + 1 + 3) ls rest)) : W p l e R s m args below meth c H locs cells slots Q (F0 m pc ls (.long (lN 0) :: .long x :: rest)) := by
  have h0 : lN 0 = 0 := by decide +kernel
  refine bd_lcmp hx hb hd rfl (lv_if_ge hx hb hd2 ht (fun h => kt ?_) (fun h => kf ?_))
  · intro q
    rw [h0] at h
    have h1 : lg_cmp x 0 = -1 := by
      unfold lg_cmp
      rw [if_neg (fun w => Int64.lt_irrefl (Int64.lt_trans w q)), if_neg (fun w => by rw [w] at q; exact Int64.lt_irrefl q)]
    rw [h1] at h
    exact absurd h (by decide +kernel)
  · rw [h0] at h
    unfold lg_cmp at h
    split at h
    · exact absurd (show (0 : Int32) ≤ 1 by decide +kernel) h
    · split at h
      · exact absurd (show (0 : Int32) ≤ 0 by decide +kernel) h
      · rename_i h1 h2
        rcases Int64.lt_or_lt_of_ne h2 with q | q
        · exact q
        · exact absurd q h1
end BDS
/-- the long that a difference of limbs is -/
def q_du (x y : Nat → Nat) (i : Nat) : Nat := if x i < y i + q_br x y i then x i + 18446744073709551616 - (y i + q_br x y i) else x i - (y i + q_br x y i)
theorem q_du_lt {x y : Nat → Nat} (hx : ∀ j, x j < 4294967296) (i : Nat) : q_du x y i < 2 ^ 64 := by
  have := hx i
  unfold q_du
  split <;> omega
theorem q_du_df {x y : Nat → Nat} (hx : ∀ j, x j < 4294967296) (hy : ∀ j, y j < 4294967296) (i : Nat) : q_du x y i % 4294967296 = q_df x y i := by
  have h1 := hx i
  have h2 := hy i
  have h3 := q_br_le x y i
  unfold q_du q_df
  split <;> omega
theorem q_du_br {x y : Nat → Nat} (hx : ∀ j, x j < 4294967296) (hy : ∀ j, y j < 4294967296) (i : Nat) : 2 ^ 63 ≤ q_du x y i ↔ q_br x y (i + 1) = 1 := by
  have h1 := hx i
  have h2 := hy i
  have h3 := q_br_le x y i
  show _ ↔ (if x i < y i + q_br x y i then 1 else 0) = 1
  unfold q_du
  split <;> omega
theorem q_br_0 {x y : Nat → Nat} {i : Nat} (h : ¬ q_br x y i = 1) : q_br x y i = 0 := by
  have := q_br_le x y i
  omega
