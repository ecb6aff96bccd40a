/-! BRANCHES over numbers that are known to be no negative ones -/
theorem nz_le {a : Nat} (h : a < 2 ^ 31) : nI a ≤ 0 ↔ a = 0 := by
  rw [← nI_0, nI_leI h (by decide)]
  omega
theorem nz_lt {a : Nat} (h : a < 2 ^ 31) : nI a < 0 ↔ False := by
  rw [← nI_0, nI_ltI h (by decide)]
  simp
theorem nz_gt {a : Nat} (h : a < 2 ^ 31) : 0 < nI a ↔ 0 < a := by
  rw [← nI_0, nI_ltI (by decide) h]
theorem nz_ge {a : Nat} (h : a < 2 ^ 31) : 0 ≤ nI a ↔ True := by
  rw [← nI_0, nI_leI (by decide) h]
  simp
theorem nz_eq {a : Nat} (h : a < 2 ^ 31) : nI a = 0 ↔ a = 0 := by
  rw [← nI_0, nI_eq h (by decide)]
section BDB
variable {p : Program} {l : Launch} {e : Env} {R : Room} {s : State} {m : MethodId} {args : Array Value} {below : List Frame} {meth : Method} {c : Code} {H : Heap} {locs : List Loc} {cells slots : Nat} {Q : State → Prop}
variable {cc : ByteArray} {pc : Nat} {ls : Array Slot} {rest : List Value} {a b : Nat} {off : Int} {tgt : Nat}
theorem bd_ige (h1 : a < 2 ^ 31) (h2 : b < 2 ^ 31) (hx : p.tables.exec = Jvm.exec) (hb : c.code = cc) (hd : decode cc pc = .ok (.if_icmp .ge off, 3)) (ht : (pc : Int) + off = (tgt : Int)) (kt : b ≤ a → W p l e R s m args below meth c H locs cells slots Q (F0 m tgt ls rest)) (kf : a < b → W p l e R s m args below meth c H locs cells slots Q (F0 m (pc + 3) ls rest)) : W p l e R s m args below meth c H locs cells slots Q (F0 m pc ls (.int (nI b) :: .int (nI a) :: rest)) :=
  lv_icmp_ge hx hb hd ht (fun h => kt ((nI_leI h2 h1).mp h)) (fun h => kf (Nat.not_le.mp (fun q => h ((nI_leI h2 h1).mpr q))))
theorem bd_ilt (h1 : a < 2 ^ 31) (h2 : b < 2 ^ 31) (hx : p.tables.exec = Jvm.exec) (hb : c.code = cc) (hd : decode cc pc = .ok (.if_icmp .lt off, 3)) (ht : (pc : Int) + off = (tgt : Int)) (kt : a < b → W p l e R s m args below meth c H locs cells slots Q (F0 m tgt ls rest)) (kf : b ≤ a → W p l e R s m args below meth c H locs cells slots Q (F0 m (pc + 3) ls rest)) : W p l e R s m args below meth c H locs cells slots Q (F0 m pc ls (.int (nI b) :: .int (nI a) :: rest)) :=
  lv_icmp_lt hx hb hd ht (fun h => kt ((nI_ltI h1 h2).mp h)) (fun h => kf (Nat.not_lt.mp (fun q => h ((nI_ltI h1 h2).mpr q))))
theorem bd_igt (h1 : a < 2 ^ 31) (h2 : b < 2 ^ 31) (hx : p.tables.exec = Jvm.exec) (hb : c.code = cc) (hd : decode cc pc = .ok (.if_icmp .gt off, 3)) (ht : (pc : Int) + off = (tgt : Int)) (kt : b < a → W p l e R s m args below meth c H locs cells slots Q (F0 m tgt ls rest)) (kf : a ≤ b → W p l e R s m args below meth c H locs cells slots Q (F0 m (pc + 3) ls rest)) : W p l e R s m args below meth c H locs cells slots Q (F0 m pc ls (.int (nI b) :: .int (nI a) :: rest)) :=
  lv_icmp_gt hx hb hd ht (fun h => kt ((nI_ltI h2 h1).mp h)) (fun h => kf (Nat.not_lt.mp (fun q => h ((nI_ltI h2 h1).mpr q))))
theorem bd_ile (h1 : a < 2 ^ 31) (h2 : b < 2 ^ 31) (hx : p.tables.exec = Jvm.exec) (hb : c.code = cc) (hd : decode cc pc = .ok (.if_icmp .le off, 3)) (ht : (pc : Int) + off = (tgt : Int)) (kt : a ≤ b → W p l e R s m args below meth c H locs cells slots Q (F0 m tgt ls rest)) (kf : b < a → W p l e R s m args below meth c H locs cells slots Q (F0 m (pc + 3) ls rest)) : W p l e R s m args below meth c H locs cells slots Q (F0 m pc ls (.int (nI b) :: .int (nI a) :: rest)) :=
  lv_icmp_le hx hb hd ht (fun h => kt ((nI_leI h1 h2).mp h)) (fun h => kf (Nat.not_le.mp (fun q => h ((nI_leI h1 h2).mpr q))))
theorem bd_ieq (h1 : a < 2 ^ 31) (h2 : b < 2 ^ 31) (hx : p.tables.exec = Jvm.exec) (hb : c.code = cc) (hd : decode cc pc = .ok (.if_icmp .eq off, 3)) (ht : (pc : Int) + off = (tgt : Int)) (kt : a = b → W p l e R s m args below meth c H locs cells slots Q (F0 m tgt ls rest)) (kf : a ≠ b → W p l e R s m args below meth c H locs cells slots Q (F0 m (pc + 3) ls rest)) : W p l e R s m args below meth c H locs cells slots Q (F0 m pc ls (.int (nI b) :: .int (nI a) :: rest)) :=
  lv_icmp_eq hx hb hd ht (fun h => kt ((nI_eq h1 h2).mp h)) (fun h => kf (fun q => h ((nI_eq h1 h2).mpr q)))
theorem bd_ine (h1 : a < 2 ^ 31) (h2 : b < 2 ^ 31) (hx : p.tables.exec = Jvm.exec) (hb : c.code = cc) (hd : decode cc pc = .ok (.if_icmp .ne off, 3)) (ht : (pc : Int) + off = (tgt : Int)) (kt : a ≠ b → W p l e R s m args below meth c H locs cells slots Q (F0 m tgt ls rest)) (kf : a = b → W p l e R s m args below meth c H locs cells slots Q (F0 m (pc + 3) ls rest)) : W p l e R s m args below meth c H locs cells slots Q (F0 m pc ls (.int (nI b) :: .int (nI a) :: rest)) :=
  lv_icmp_ne hx hb hd ht (fun h => kt (fun q => h ((nI_eq h1 h2).mpr q))) (fun h => kf ((nI_eq h1 h2).mp h))
theorem bd_zle (h1 : a < 2 ^ 31) (hx : p.tables.exec = Jvm.exec) (hb : c.code = cc) (hd : decode cc pc = .ok (.ifCond .le off, 3)) (ht : (pc : Int) + off = (tgt : Int)) (kt : a = 0 → W p l e R s m args below meth c H locs cells slots Q (F0 m tgt ls rest)) (kf : 0 < a → W p l e R s m args below meth c H locs cells slots Q (F0 m (pc + 3) ls rest)) : W p l e R s m args below meth c H locs cells slots Q (F0 m pc ls (.int (nI a) :: rest)) :=
  lv_if_le hx hb hd ht (fun h => kt ((nz_le h1).mp h)) (fun h => kf (Nat.pos_of_ne_zero (fun q => h ((nz_le h1).mpr q))))
theorem bd_zgt (h1 : a < 2 ^ 31) (hx : p.tables.exec = Jvm.exec) (hb : c.code = cc) (hd : decode cc pc = .ok (.ifCond .gt off, 3)) (ht : (pc : Int) + off = (tgt : Int)) (kt : 0 < a → W p l e R s m args below meth c H locs cells slots Q (F0 m tgt ls rest)) (kf : a = 0 → W p l e R s m args below meth c H locs cells slots Q (F0 m (pc + 3) ls rest)) : W p l e R s m args below meth c H locs cells slots Q (F0 m pc ls (.int (nI a) :: rest)) :=
  lv_if_gt hx hb hd ht (fun h => kt ((nz_gt h1).mp h)) (fun h => kf (Nat.eq_zero_of_not_pos (fun q => h ((nz_gt h1).mpr q))))
theorem bd_zeq (h1 : a < 2 ^ 31) (hx : p.tables.exec = Jvm.exec) (hb : c.code = cc) (hd : decode cc pc = .ok (.ifCond .eq off, 3)) (ht : (pc : Int) + off = (tgt : Int)) (kt : a = 0 → W p l e R s m args below meth c H locs cells slots Q (F0 m tgt ls rest)) (kf : 0 < a → W p l e R s m args below meth c H locs cells slots Q (F0 m (pc + 3) ls rest)) : W p l e R s m args below meth c H locs cells slots Q (F0 m pc ls (.int (nI a) :: rest)) :=
  lv_if_eq hx hb hd ht (fun h => kt ((nz_eq h1).mp h)) (fun h => kf (Nat.pos_of_ne_zero (fun q => h ((nz_eq h1).mpr q))))
theorem bd_zne (h1 : a < 2 ^ 31) (hx : p.tables.exec = Jvm.exec) (hb : c.code = cc) (hd : decode cc pc = .ok (.ifCond .ne off, 3)) (ht : (pc : Int) + off = (tgt : Int)) (kt : 0 < a → W p l e R s m args below meth c H locs cells slots Q (F0 m tgt ls rest)) (kf : a = 0 → W p l e R s m args below meth c H locs cells slots Q (F0 m (pc + 3) ls rest)) : W p l e R s m args below meth c H locs cells slots Q (F0 m pc ls (.int (nI a) :: rest)) :=
  lv_if_ne hx hb hd ht (fun h => kt (Nat.pos_of_ne_zero (fun q => h ((nz_eq h1).mpr q)))) (fun h => kf ((nz_eq h1).mp h))
theorem bd_zlt (h1 : a < 2 ^ 31) (hx : p.tables.exec = Jvm.exec) (hb : c.code = cc) (hd : decode cc pc = .ok (.ifCond .lt off, 3)) (ht : (pc : Int) + off = (tgt : Int)) (kf : W p l e R s m args below meth c H locs cells slots Q (F0 m (pc + 3) ls rest)) : W p l e R s m args below meth c H locs cells slots Q (F0 m pc ls (.int (nI a) :: rest)) :=
  lv_if_lt hx hb hd ht (fun h => ((nz_lt h1).mp h).elim) (fun _ => kf)
theorem bd_zge (h1 : a < 2 ^ 31) (hx : p.tables.exec = Jvm.exec) (hb : c.code = cc) (hd : decode cc pc = .ok (.ifCond .ge off, 3)) (ht : (pc : Int) + off = (tgt : Int)) (kt : W p l e R s m args below meth c H locs cells slots Q (F0 m tgt ls rest)) : W p l e R s m args below meth c H locs cells slots Q (F0 m pc ls (.int (nI a) :: rest)) :=
  lv_if_ge hx hb hd ht (fun _ => kt) (fun h => (h ((nz_ge h1).mpr trivial)).elim)
theorem bd_leq (h1 : a < 2 ^ 63) (h2 : b < 2 ^ 63) (hx : p.tables.exec = Jvm.exec) (hb : c.code = cc) (hd : decode cc pc = .ok (.lcmp, 1)) (hd2 : decode cc (pc + 1) = .ok (.ifCond .eq off, 3)) (ht : ((pc + 1 : Nat) : Int) + off = (tgt : Int)) (kt : a = b → W p l e R s m args below meth c H locs cells slots Q (F0 m tgt ls rest)) (kf : a ≠ b → W p l e R s m args below meth c H locs cells slots Q (F0 m (pc + 1 + 3) ls rest)) : W p l e R s m args below meth c H locs cells slots Q (F0 m pc ls (.long (lN b) :: .long (lN a) :: rest)) := by
  have hc := bd_cmpN h1 h2
  have d1 : ¬ (1 : Int32) < 0 ∧ ¬ (1 : Int32) ≤ 0 ∧ ¬ (1 : Int32) = 0 ∧ (-1 : Int32) < 0 ∧ ¬ (-1 : Int32) = 0 ∧ ¬ (0 : Int32) < 0 ∧ ¬ (0 : Int32) ≤ -1 ∧ (-1 : Int32) ≤ 0 ∧ (0 : Int32) ≤ 0 ∧ (0 : Int32) < 1 ∧ (0 : Int32) ≤ 1 ∧ ¬ (0 : Int32) < -1 := by decide +kernel
  refine bd_lcmp hx hb hd rfl (lv_if_eq hx hb hd2 ht (fun h => kt ?_) (fun h => kf ?_))
  · rcases Nat.lt_trichotomy a b with q | q | q
    · rw [hc, if_neg (by omega), if_neg (by omega)] at h
      first | omega | (exfalso; revert h; decide +kernel)
    · rw [hc, if_neg (by omega), if_pos q] at h
      first | omega | (exfalso; revert h; decide +kernel)
    · rw [hc, if_pos q] at h
      first | omega | (exfalso; revert h; decide +kernel)
  · rcases Nat.lt_trichotomy a b with q | q | q
    · rw [hc, if_neg (by omega), if_neg (by omega)] at h
      first | omega | (exfalso; revert h; decide +kernel)
    · rw [hc, if_neg (by omega), if_pos q] at h
      first | omega | (exfalso; revert h; decide +kernel)
    · rw [hc, if_pos q] at h
      first | omega | (exfalso; revert h; decide +kernel)
theorem bd_lne (h1 : a < 2 ^ 63) (h2 : b < 2 ^ 63) (hx : p.tables.exec = Jvm.exec) (hb : c.code = cc) (hd : decode cc pc = .ok (.lcmp, 1)) (hd2 : decode cc (pc + 1) = .ok (.ifCond .ne off, 3)) (ht : ((pc + 1 : Nat) : Int) + off = (tgt : Int)) (kt : a ≠ b → W p l e R s m args below meth c H locs cells slots Q (F0 m tgt ls rest)) (kf : a = b → W p l e R s m args below meth c H locs cells slots Q (F0 m (pc + 1 + 3) ls rest)) : W p l e R s m args below meth c H locs cells slots Q (F0 m pc ls (.long (lN b) :: .long (lN a) :: rest)) := by
  have hc := bd_cmpN h1 h2
  have d1 : ¬ (1 : Int32) < 0 ∧ ¬ (1 : Int32) ≤ 0 ∧ ¬ (1 : Int32) = 0 ∧ (-1 : Int32) < 0 ∧ ¬ (-1 : Int32) = 0 ∧ ¬ (0 : Int32) < 0 ∧ ¬ (0 : Int32) ≤ -1 ∧ (-1 : Int32) ≤ 0 ∧ (0 : Int32) ≤ 0 ∧ (0 : Int32) < 1 ∧ (0 : Int32) ≤ 1 ∧ ¬ (0 : Int32) < -1 := by decide +kernel
  refine bd_lcmp hx hb hd rfl (lv_if_ne hx hb hd2 ht (fun h => kt ?_) (fun h => kf ?_))
  · rcases Nat.lt_trichotomy a b with q | q | q
    · rw [hc, if_neg (by omega), if_neg (by omega)] at h
      first | omega | (exfalso; revert h; decide +kernel)
    · rw [hc, if_neg (by omega), if_pos q] at h
      first | omega | (exfalso; revert h; decide +kernel)
    · rw [hc, if_pos q] at h
      first | omega | (exfalso; revert h; decide +kernel)
  · rcases Nat.lt_trichotomy a b with q | q | q
    · rw [hc, if_neg (by omega), if_neg (by omega)] at h
      first | omega | (exfalso; revert h; decide +kernel)
    · rw [hc, if_neg (by omega), if_pos q] at h
      first | omega | (exfalso; revert h; decide +kernel)
    · rw [hc, if_pos q] at h
      first | omega | (exfalso; revert h; decide +kernel)
theorem bd_llt (h1 : a < 2 ^ 63) (h2 : b < 2 ^ 63) (hx : p.tables.exec = Jvm.exec) (hb : c.code = cc) (hd : decode cc pc = .ok (.lcmp, 1)) (hd2 : decode cc (pc + 1) = .ok (.ifCond .lt off, 3)) (ht : ((pc + 1 : Nat) : Int) + off = (tgt : Int)) (kt : a < b → W p l e R s m args below meth c H locs cells slots Q (F0 m tgt ls rest)) (kf : b ≤ a → W p l e R s m args below meth c H locs cells slots Q (F0 m (pc + 1 + 3) ls rest)) : W p l e R s m args below meth c H locs cells slots Q (F0 m pc ls (.long (lN b) :: .long (lN a) :: rest)) := by
  have hc := bd_cmpN h1 h2
  have d1 : ¬ (1 : Int32) < 0 ∧ ¬ (1 : Int32) ≤ 0 ∧ ¬ (1 : Int32) = 0 ∧ (-1 : Int32) < 0 ∧ ¬ (-1 : Int32) = 0 ∧ ¬ (0 : Int32) < 0 ∧ ¬ (0 : Int32) ≤ -1 ∧ (-1 : Int32) ≤ 0 ∧ (0 : Int32) ≤ 0 ∧ (0 : Int32) < 1 ∧ (0 : Int32) ≤ 1 ∧ ¬ (0 : Int32) < -1 := by decide +kernel
  refine bd_lcmp hx hb hd rfl (lv_if_lt hx hb hd2 ht (fun h => kt ?_) (fun h => kf ?_))
  · rcases Nat.lt_trichotomy a b with q | q | q
    · rw [hc, if_neg (by omega), if_neg (by omega)] at h
      first | omega | (exfalso; revert h; decide +kernel)
    · rw [hc, if_neg (by omega), if_pos q] at h
      first | omega | (exfalso; revert h; decide +kernel)
    · rw [hc, if_pos q] at h
      first | omega | (exfalso; revert h; decide +kernel)
  · rcases Nat.lt_trichotomy a b with q | q | q
    · rw [hc, if_neg (by omega), if_neg (by omega)] at h
      first | omega | (exfalso; revert h; decide +kernel)
    · rw [hc, if_neg (by omega), if_pos q] at h
      first | omega | (exfalso; revert h; decide +kernel)
    · rw [hc, if_pos q] at h
      first | omega | (exfalso; revert h; decide +kernel)
theorem bd_lge (h1 : a < 2 ^ 63) (h2 : b < 2 ^ 63) (hx : p.tables.exec = Jvm.exec) (hb : c.code = cc) (hd : decode cc pc = .ok (.lcmp, 1)) (hd2 : decode cc (pc + 1) = .ok (.ifCond .ge off, 3)) (ht : ((pc + 1 : Nat) : Int) + off = (tgt : Int)) (kt : b ≤ a → W p l e R s m args below meth c H locs cells slots Q (F0 m tgt ls rest)) (kf : a < b → W p l e R s m args below meth c H locs cells slots Q (F0 m (pc + 1 + 3) ls rest)) : W p l e R s m args below meth c H locs cells slots Q (F0 m pc ls (.long (lN b) :: .long (lN a) :: rest)) := by
  have hc := bd_cmpN h1 h2
  have d1 : ¬ (1 : Int32) < 0 ∧ ¬ (1 : Int32) ≤ 0 ∧ ¬ (1 : Int32) = 0 ∧ (-1 : Int32) < 0 ∧ ¬ (-1 : Int32) = 0 ∧ ¬ (0 : Int32) < 0 ∧ ¬ (0 : Int32) ≤ -1 ∧ (-1 : Int32) ≤ 0 ∧ (0 : Int32) ≤ 0 ∧ (0 : Int32) < 1 ∧ (0 : Int32) ≤ 1 ∧ ¬ (0 : Int32) < -1 := by decide +kernel
  refine bd_lcmp hx hb hd rfl (lv_if_ge hx hb hd2 ht (fun h => kt ?_) (fun h => kf ?_))
  · rcases Nat.lt_trichotomy a b with q | q | q
    · rw [hc, if_neg (by omega), if_neg (by omega)] at h
      first | omega | (exfalso; revert h; decide +kernel)
    · rw [hc, if_neg (by omega), if_pos q] at h
      first | omega | (exfalso; revert h; decide +kernel)
    · rw [hc, if_pos q] at h
      first | omega | (exfalso; revert h; decide +kernel)
  · rcases Nat.lt_trichotomy a b with q | q | q
    · rw [hc, if_neg (by omega), if_neg (by omega)] at h
      first | omega | (exfalso; revert h; decide +kernel)
    · rw [hc, if_neg (by omega), if_pos q] at h
      first | omega | (exfalso; revert h; decide +kernel)
    · rw [hc, if_pos q] at h
      first | omega | (exfalso; revert h; decide +kernel)
theorem bd_lgt (h1 : a < 2 ^ 63) (h2 : b < 2 ^ 63) (hx : p.tables.exec = Jvm.exec) (hb : c.code = cc) (hd : decode cc pc = .ok (.lcmp, 1)) (hd2 : decode cc (pc + 1) = .ok (.ifCond .gt off, 3)) (ht : ((pc + 1 : Nat) : Int) + off = (tgt : Int)) (kt : b < a → W p l e R s m args below meth c H locs cells slots Q (F0 m tgt ls rest)) (kf : a ≤ b → W p l e R s m args below meth c H locs cells slots Q (F0 m (pc + 1 + 3) ls rest)) : W p l e R s m args below meth c H locs cells slots Q (F0 m pc ls (.long (lN b) :: .long (lN a) :: rest)) := by
  have hc := bd_cmpN h1 h2
  have d1 : ¬ (1 : Int32) < 0 ∧ ¬ (1 : Int32) ≤ 0 ∧ ¬ (1 : Int32) = 0 ∧ (-1 : Int32) < 0 ∧ ¬ (-1 : Int32) = 0 ∧ ¬ (0 : Int32) < 0 ∧ ¬ (0 : Int32) ≤ -1 ∧ (-1 : Int32) ≤ 0 ∧ (0 : Int32) ≤ 0 ∧ (0 : Int32) < 1 ∧ (0 : Int32) ≤ 1 ∧ ¬ (0 : Int32) < -1 := by decide +kernel
  refine bd_lcmp hx hb hd rfl (lv_if_gt hx hb hd2 ht (fun h => kt ?_) (fun h => kf ?_))
  · rcases Nat.lt_trichotomy a b with q | q | q
    · rw [hc, if_neg (by omega), if_neg (by omega)] at h
      first | omega | (exfalso; revert h; decide +kernel)
    · rw [hc, if_neg (by omega), if_pos q] at h
      first | omega | (exfalso; revert h; decide +kernel)
    · rw [hc, if_pos q] at h
      first | omega | (exfalso; revert h; decide +kernel)
  · rcases Nat.lt_trichotomy a b with q | q | q
    · rw [hc, if_neg (by omega), if_neg (by omega)] at h
      first | omega | (exfalso; revert h; decide +kernel)
    · rw [hc, if_neg (by omega), if_pos q] at h
      first | omega | (exfalso; revert h; decide +kernel)
    · rw [hc, if_pos q] at h
      first | omega | (exfalso; revert h; decide +kernel)
theorem bd_lle (h1 : a < 2 ^ 63) (h2 : b < 2 ^ 63) (hx : p.tables.exec = Jvm.exec) (hb : c.code = cc) (hd : decode cc pc = .ok (.lcmp, 1)) (hd2 : decode cc (pc + 1) = .ok (.ifCond .le off, 3)) (ht : ((pc + 1 : Nat) : Int) + off = (tgt : Int)) (kt : a ≤ b → W p l e R s m args below meth c H locs cells slots Q (F0 m tgt ls rest)) (kf : b < a → W p l e R s m args below meth c H locs cells slots Q (F0 m (pc + 1 + 3) ls rest)) : W p l e R s m args below meth c H locs cells slots Q (F0 m pc ls (.long (lN b) :: .long (lN a) :: rest)) := by
  have hc := bd_cmpN h1 h2
  have d1 : ¬ (1 : Int32) < 0 ∧ ¬ (1 : Int32) ≤ 0 ∧ ¬ (1 : Int32) = 0 ∧ (-1 : Int32) < 0 ∧ ¬ (-1 : Int32) = 0 ∧ ¬ (0 : Int32) < 0 ∧ ¬ (0 : Int32) ≤ -1 ∧ (-1 : Int32) ≤ 0 ∧ (0 : Int32) ≤ 0 ∧ (0 : Int32) < 1 ∧ (0 : Int32) ≤ 1 ∧ ¬ (0 : Int32) < -1 := by decide +kernel
  refine bd_lcmp hx hb hd rfl (lv_if_le hx hb hd2 ht (fun h => kt ?_) (fun h => kf ?_))
  · rcases Nat.lt_trichotomy a b with q | q | q
    · rw [hc, if_neg (by omega), if_neg (by omega)] at h
      first | omega | (exfalso; revert h; decide +kernel)
    · rw [hc, if_neg (by omega), if_pos q] at h
      first | omega | (exfalso; revert h; decide +kernel)
    · rw [hc, if_pos q] at h
      first | omega | (exfalso; revert h; decide +kernel)
  · rcases Nat.lt_trichotomy a b with q | q | q
    · rw [hc, if_neg (by omega), if_neg (by omega)] at h
      first | omega | (exfalso; revert h; decide +kernel)
    · rw [hc, if_neg (by omega), if_pos q] at h
      first | omega | (exfalso; revert h; decide +kernel)
    · rw [hc, if_pos q] at h
      first | omega | (exfalso; revert h; decide +kernel)
end BDB
