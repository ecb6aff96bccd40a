/-! CALLS of what changes nothing -/
/-- how two lie: -1, 0, 1 -/
def q_c3 (a b : Nat) : Int32 := if a < b then -1 else if a = b then 0 else 1
def q_i3 (a b : Int) : Int32 := if a < b then -1 else if a = b then 0 else 1
section BDP
variable {p : Program} {l : Launch} {e : Env} {R : Room} {s : State} {m : MethodId} {args : Array Value} {below : List Frame} {meth : Method} {c : Code} {H : Heap} {locs : List Loc} {cells slots : Nat} {Q : State → Prop}
variable {cc : ByteArray} {pc nL sz : Nat} {ls : Array Slot} {rest : List Value} {K : Cxt} {E : Nat → va_E} {z : Nat → Wh} {Ts : List Cond} {own : String}
variable {y : MethodName} {ws : List Cond} {rm : Room} {bytes : ByteArray} {maxL n ix b : Nat} {ret : Option FieldType} {As st0 : List Value} {Cn : String}
theorem bd_cip {v : Int32} (C : bd_C p s m args c cc nL Ts own K) (hM : Met l y ws rm (va_Pc (.ref b :: As) (bd_P K E z H.size)) (va_Qi (fun r u => r = v ∧ u = (E, z)) (bd_B K) (bd_A K H.size)) 0 0 (bd_A K H.size)) (cw : CallW R s args own Cn ix y bytes maxL ret ws rm 0 0 n) (hsz : s.heap.size = sz) (hw : bd_W K E z (bd_A K sz) s.heap H locs) (hrv : ∃ cell : Cell, H[b]? = some cell ∧ cell.vm.isStatics = false ∧ s.vm.findClass Cn = some cell.cls) (hd : decode cc pc = .ok (.invokevirtual ix, 3)) (hn : As.length = n) (hls : ls.size = nL) (hst : st0 = As.reverse ++ .ref b :: rest) (hr8 : (rest.map fun v => v.category).sum ≤ 8) (hc : cells ≤ R.cells ∧ slots ≤ R.slots)
    (kk : ∀ (H1 : Heap) (locs1 : List Loc), bd_W K E z (bd_A K sz) s.heap H1 locs1 → W p l e R s m args below meth c H1 locs1 cells slots Q (F0 m (pc + 3) ls (.int v :: rest))) : W p l e R s m args below meth c H locs cells slots Q (F0 m pc ls st0) := by
  refine bd_ci C hM cw hsz hw hrv hd hn hls hst hr8 hc (fun r E1 z1 H1 locs1 hp hw1 => ?_)
  obtain ⟨rfl, h2⟩ := hp
  cases h2
  exact kk H1 locs1 hw1
theorem bd_sip {v : Int32} (C : bd_C p s m args c cc nL Ts own K) (hM : Met l y ws rm (va_Pc As (bd_P K E z H.size)) (va_Qi (fun r u => r = v ∧ u = (E, z)) (bd_B K) (bd_A K H.size)) 0 0 (bd_A K H.size)) (cw : CallB R s args own ix y bytes maxL ret ws rm 0 0 n ∧ (Cond.static y).before args s = true) (hsz : s.heap.size = sz) (hw : bd_W K E z (bd_A K sz) s.heap H locs) (hd : decode cc pc = .ok (.invokestatic ix, 3)) (hn : As.length = n) (hls : ls.size = nL) (hst : st0 = As.reverse ++ rest) (hr8 : (rest.map fun v => v.category).sum ≤ 8) (hc : cells ≤ R.cells ∧ slots ≤ R.slots)
    (kk : ∀ (H1 : Heap) (locs1 : List Loc), bd_W K E z (bd_A K sz) s.heap H1 locs1 → W p l e R s m args below meth c H1 locs1 cells slots Q (F0 m (pc + 3) ls (.int v :: rest))) : W p l e R s m args below meth c H locs cells slots Q (F0 m pc ls st0) := by
  refine bd_si C hM cw hsz hw hd hn hls hst hr8 hc (fun r E1 z1 H1 locs1 hp hw1 => ?_)
  obtain ⟨rfl, h2⟩ := hp
  cases h2
  exact kk H1 locs1 hw1
theorem bd_clp {v : Int64} (C : bd_C p s m args c cc nL Ts own K) (hM : Met l y ws rm (va_Pc (.ref b :: As) (bd_P K E z H.size)) (va_Ql (fun r u => r = v ∧ u = (E, z)) (bd_B K) (bd_A K H.size)) 0 0 (bd_A K H.size)) (cw : CallW R s args own Cn ix y bytes maxL ret ws rm 0 0 n) (hsz : s.heap.size = sz) (hw : bd_W K E z (bd_A K sz) s.heap H locs) (hrv : ∃ cell : Cell, H[b]? = some cell ∧ cell.vm.isStatics = false ∧ s.vm.findClass Cn = some cell.cls) (hd : decode cc pc = .ok (.invokevirtual ix, 3)) (hn : As.length = n) (hls : ls.size = nL) (hst : st0 = As.reverse ++ .ref b :: rest) (hr8 : (rest.map fun v => v.category).sum ≤ 8) (hc : cells ≤ R.cells ∧ slots ≤ R.slots)
    (kk : ∀ (H1 : Heap) (locs1 : List Loc), bd_W K E z (bd_A K sz) s.heap H1 locs1 → W p l e R s m args below meth c H1 locs1 cells slots Q (F0 m (pc + 3) ls (.long v :: rest))) : W p l e R s m args below meth c H locs cells slots Q (F0 m pc ls st0) := by
  refine bd_cl C hM cw hsz hw hrv hd hn hls hst hr8 hc (fun r E1 z1 H1 locs1 hp hw1 => ?_)
  obtain ⟨rfl, h2⟩ := hp
  cases h2
  exact kk H1 locs1 hw1
theorem bd_slp {v : Int64} (C : bd_C p s m args c cc nL Ts own K) (hM : Met l y ws rm (va_Pc As (bd_P K E z H.size)) (va_Ql (fun r u => r = v ∧ u = (E, z)) (bd_B K) (bd_A K H.size)) 0 0 (bd_A K H.size)) (cw : CallB R s args own ix y bytes maxL ret ws rm 0 0 n ∧ (Cond.static y).before args s = true) (hsz : s.heap.size = sz) (hw : bd_W K E z (bd_A K sz) s.heap H locs) (hd : decode cc pc = .ok (.invokestatic ix, 3)) (hn : As.length = n) (hls : ls.size = nL) (hst : st0 = As.reverse ++ rest) (hr8 : (rest.map fun v => v.category).sum ≤ 8) (hc : cells ≤ R.cells ∧ slots ≤ R.slots)
    (kk : ∀ (H1 : Heap) (locs1 : List Loc), bd_W K E z (bd_A K sz) s.heap H1 locs1 → W p l e R s m args below meth c H1 locs1 cells slots Q (F0 m (pc + 3) ls (.long v :: rest))) : W p l e R s m args below meth c H locs cells slots Q (F0 m pc ls st0) := by
  refine bd_sl C hM cw hsz hw hd hn hls hst hr8 hc (fun r E1 z1 H1 locs1 hp hw1 => ?_)
  obtain ⟨rfl, h2⟩ := hp
  cases h2
  exact kk H1 locs1 hw1
end BDP
/-- a local that counts down: nI k - nI 1 -/
theorem bd_dec (k : Nat) : nI k + Int32.ofInt (-1) = nI k - nI 1 := by
  rw [Int32.sub_eq_add_neg]
  rfl
theorem bd_neg1 : nI 0 - nI 1 = (-1 : Int32) := by decide +kernel
theorem bd_dlt0 {k : Nat} (h : k < 2 ^ 31) : nI k - nI 1 < 0 ↔ k = 0 := by
  constructor
  · intro h1
    rcases Nat.eq_zero_or_pos k with q | q
    · exact q
    · rw [bd_sub1 q, nz_lt (by omega)] at h1
      exact h1.elim
  · rintro rfl
    decide +kernel
section BDQ
variable {p : Program} {l : Launch} {e : Env} {R : Room} {s : State} {m : MethodId} {args : Array Value} {below : List Frame} {meth : Method} {c : Code} {H : Heap} {locs : List Loc} {cells slots : Nat} {Q : State → Prop}
variable {cc : ByteArray} {pc : Nat} {ls : Array Slot} {rest : List Value} {k : Nat} {off : Int} {tgt : Nat}
theorem bd_dlt (h1 : k < 2 ^ 31) (hx : p.tables.exec = Jvm.exec) (hb : c.code = cc) (hd : decode cc pc = .ok (.ifCond .lt off, 3)) (ht : (pc : Int) + off = (tgt : Int)) (kt : k = 0 → W p l e R s m args below meth c H locs cells slots Q (F0 m tgt ls rest)) (kf : 0 < k → W p l e R s m args below meth c H locs cells slots Q (F0 m (pc + 3) ls rest)) : W p l e R s m args below meth c H locs cells slots Q (F0 m pc ls (.int (nI k - nI 1) :: rest)) :=
  lv_if_lt hx hb hd ht (fun h => kt ((bd_dlt0 h1).mp h)) (fun h => kf (Nat.pos_of_ne_zero (fun q => h ((bd_dlt0 h1).mpr q))))
end BDQ
