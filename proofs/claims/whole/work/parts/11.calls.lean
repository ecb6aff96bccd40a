/-! HEADS, ENDS AND CALLS over the class's world -/
abbrev bd_U : Type := (Nat → va_E) × (Nat → Wh)
theorem bd_ofW {l : Launch} {y : MethodName} {ws ws' : List Cond} {rm : Room} {Qc : Array Value → State → Outcome → State → Prop} {mc ms : Nat} {cc : ByteArray} {maxL sz : Nat} {ret : Option FieldType} {av : List Value} {K : Cxt} {E : Nat → va_E} {z : Nat → Wh} (hy : plainName y.cls = true) (hw : ws = Cond.code y cc maxL ret :: ws') (hn : (lg_sl av).length ≤ maxL)
    (body : ∀ (p : Program) (e : Env) (s : State) (m : MethodId) (below : List Frame) (meth : Method) (c : Code) (ls : Array Slot), bd_C p s m av.toArray c cc maxL ws y.cls K → meth.sig.returnType = ret → meth.locks = false → s.heap.size = sz → bd_W K E z (bd_A K sz) s.heap s.heap [] → lv_has ls maxL (lv_args 0 av) →
      W p l e (headSpec ws rm).room s m av.toArray below meth c s.heap [] 0 0 (MQ below Qc av.toArray s mc ms (bd_A K sz)) (F0 m 0 ls [])) : Met l y ws rm (va_Pc av (bd_P K E z sz)) Qc mc ms (bd_A K sz) := by
  refine Met.ofW (cc := cc) (maxL := maxL) (ret := ret) hy hw ?_
  intro p e s m args below meth c s₁ B hml hv
  obtain ⟨rfl, hsz, hP, hK, hD, hyy, hNs⟩ := hv
  rw [lg_entry_eq]
  exact body p e s m below meth c _ ⟨B.exec, B.bytes, hml, findClass_of_methodNamed B.named, atoms_spec (ws := ws) B.pre, hK, hyy, hNs⟩ B.returns B.notSynchronized hsz ⟨hP, ⟨hD.1, fun k q h => bd_inL h⟩, va_S.rf⟩ (lv_entry av hn)
section BDE
variable {p : Program} {l : Launch} {e : Env} {R : Room} {s : State} {m : MethodId} {args : Array Value} {below : List Frame} {meth : Method} {c : Code} {H : Heap} {locs : List Loc} {cells slots : Nat} {Q : State → Prop}
variable {cc : ByteArray} {pc nL sz : Nat} {ls : Array Slot} {rest : List Value} {K : Cxt} {E : Nat → va_E} {z : Nat → Wh} {Ts : List Cond} {own : String}
theorem bd_vret {post : bd_U → Prop} (C : bd_C p s m args c cc nL Ts own K) (hr : meth.sig.returnType = none) (hlk : meth.locks = false) (hw : bd_W K E z (bd_A K sz) s.heap H locs) (hd : decode cc pc = .ok (.return_, 1)) (hp : post (E, z)) :
    W p l e R s m args below meth c H locs cells slots (MQ below (va_Qv post (bd_B K) (bd_A K sz)) args s cells slots (bd_A K sz)) (F0 m pc ls []) := by
  obtain ⟨hx, hb, -, hown, hts, hK, hy, hNs⟩ := C
  exact W.vret hx hb hr (fun t ht hW => ⟨⟨(E, z), rfl, hp, by rw [ht]; exact hw.1, va_K.moved hW.alike hK, ⟨hw.2.1.1, fun _ _ _ => trivial⟩⟩, hw.2.2.F ht⟩) hw.2.2.2.2 hd (hlocks := hlk)
theorem bd_iret {post : Int32 → bd_U → Prop} {v : Int32} (C : bd_C p s m args c cc nL Ts own K) (hr : meth.sig.returnType = some .int) (hlk : meth.locks = false) (hw : bd_W K E z (bd_A K sz) s.heap H locs) (hd : decode cc pc = .ok (.ireturn, 1)) (hp : post v (E, z)) :
    W p l e R s m args below meth c H locs cells slots (MQ below (va_Qi post (bd_B K) (bd_A K sz)) args s cells slots (bd_A K sz)) (F0 m pc ls [.int v]) := by
  obtain ⟨hx, hb, -, hown, hts, hK, hy, hNs⟩ := C
  exact W.iret hx hb hr (fun t ht hW => ⟨⟨v, (E, z), rfl, hp, by rw [ht]; exact hw.1, va_K.moved hW.alike hK, ⟨hw.2.1.1, fun _ _ _ => trivial⟩⟩, hw.2.2.F ht⟩) hw.2.2.2.2 hd (hlocks := hlk)
theorem bd_zret {post : Int32 → bd_U → Prop} {v : Int32} (C : bd_C p s m args c cc nL Ts own K) (hr : meth.sig.returnType = some .boolean) (hlk : meth.locks = false) (hw : bd_W K E z (bd_A K sz) s.heap H locs) (hd : decode cc pc = .ok (.ireturn, 1)) (hv : v = 0 ∨ v = 1) (hp : post v (E, z)) :
    W p l e R s m args below meth c H locs cells slots (MQ below (va_Qi post (bd_B K) (bd_A K sz)) args s cells slots (bd_A K sz)) (F0 m pc ls [.int v]) := by
  obtain ⟨hx, hb, -, hown, hts, hK, hy, hNs⟩ := C
  have hn : narrow .boolean (.int v) = .int v := by rcases hv with rfl | rfl <;> decide +kernel
  exact W.zret hx hb hr hn (fun t ht hW => ⟨⟨v, (E, z), rfl, hp, by rw [ht]; exact hw.1, va_K.moved hW.alike hK, ⟨hw.2.1.1, fun _ _ _ => trivial⟩⟩, hw.2.2.F ht⟩) hw.2.2.2.2 hd (hlocks := hlk)
theorem bd_lret {post : Int64 → bd_U → Prop} {v : Int64} (C : bd_C p s m args c cc nL Ts own K) (hr : meth.sig.returnType = some .long) (hlk : meth.locks = false) (hw : bd_W K E z (bd_A K sz) s.heap H locs) (hd : decode cc pc = .ok (.lreturn, 1)) (hp : post v (E, z)) :
    W p l e R s m args below meth c H locs cells slots (MQ below (va_Ql post (bd_B K) (bd_A K sz)) args s cells slots (bd_A K sz)) (F0 m pc ls [.long v]) := by
  obtain ⟨hx, hb, -, hown, hts, hK, hy, hNs⟩ := C
  exact W.lret hx hb hr (fun t ht hW => ⟨⟨v, (E, z), rfl, hp, by rw [ht]; exact hw.1, va_K.moved hW.alike hK, ⟨hw.2.1.1, fun _ _ _ => trivial⟩⟩, hw.2.2.F ht⟩) hw.2.2.2.2 hd (hlocks := hlk)
variable {y : MethodName} {ws : List Cond} {rm : Room} {bytes : ByteArray} {maxL n ix b : Nat} {ret : Option FieldType} {As st0 : List Value} {Cn : String}
theorem bd_cv {post : bd_U → Prop} (C : bd_C p s m args c cc nL Ts own K) (hM : Met l y ws rm (va_Pc (.ref b :: As) (bd_P K E z H.size)) (va_Qv post (bd_B K) (bd_A K H.size)) 0 0 (bd_A K H.size)) (cw : CallW R s args own Cn ix y bytes maxL ret ws rm 0 0 n) (hsz : s.heap.size = sz) (hw : bd_W K E z (bd_A K sz) s.heap H locs) (hrv : ∃ cell : Cell, H[b]? = some cell ∧ cell.vm.isStatics = false ∧ s.vm.findClass Cn = some cell.cls) (hd : decode cc pc = .ok (.invokevirtual ix, 3)) (hn : As.length = n) (hls : ls.size = nL) (hst : st0 = As.reverse ++ .ref b :: rest) (hr8 : (rest.map fun v => v.category).sum ≤ 8) (hc : cells ≤ R.cells ∧ slots ≤ R.slots)
    (kk : ∀ (E1 : Nat → va_E) (z1 : Nat → Wh) (H1 : Heap) (locs1 : List Loc), post (E1, z1) → bd_W K E1 z1 (bd_A K sz) s.heap H1 locs1 → W p l e R s m args below meth c H1 locs1 cells slots Q (F0 m (pc + 3) ls rest)) : W p l e R s m args below meth c H locs cells slots Q (F0 m pc ls st0) := by
  obtain ⟨hx, hb, hml, hown, hts, hK, hy, hNs⟩ := C
  refine va_callv (va_runV (As := As) (rest := rest) (b := b) ⟨hx, hb, hml, hown, hts⟩ hM cw ⟨bd_blind, hrv, fun U hU hW => ⟨rfl, by rw [hU], by rw [hU]; exact hw.1, va_K.moved hW.alike hK, ⟨hw.2.1.1, fun _ _ _ => trivial⟩, hy, hNs.warm hW⟩⟩ rfl hn hls hst (lv_room hr8) hd hc) hw.2.2 ?_ ?_ ?_
  · intro q hq h
    rcases h with h | h
    · exact Or.inl h
    · exact absurd hq (Nat.not_lt.mpr h)
  · intro q h
    rcases h with h | h
    · exact Or.inl h
    · exact Or.inr (by have := hw.2.2.1; omega)
  · intro u t H1 locs1 ht hvm hp hB hz hk hS
    obtain ⟨h1, h2, h3⟩ := hB
    rw [ht] at h1
    exact kk u.1 u.2 H1 locs1 hp ⟨h1, ⟨h3.1, fun k q h => bd_inL h⟩, hS⟩
theorem bd_sv {post : bd_U → Prop} (C : bd_C p s m args c cc nL Ts own K) (hM : Met l y ws rm (va_Pc As (bd_P K E z H.size)) (va_Qv post (bd_B K) (bd_A K H.size)) 0 0 (bd_A K H.size)) (cw : CallB R s args own ix y bytes maxL ret ws rm 0 0 n ∧ (Cond.static y).before args s = true) (hsz : s.heap.size = sz) (hw : bd_W K E z (bd_A K sz) s.heap H locs) (hd : decode cc pc = .ok (.invokestatic ix, 3)) (hn : As.length = n) (hls : ls.size = nL) (hst : st0 = As.reverse ++ rest) (hr8 : (rest.map fun v => v.category).sum ≤ 8) (hc : cells ≤ R.cells ∧ slots ≤ R.slots)
    (kk : ∀ (E1 : Nat → va_E) (z1 : Nat → Wh) (H1 : Heap) (locs1 : List Loc), post (E1, z1) → bd_W K E1 z1 (bd_A K sz) s.heap H1 locs1 → W p l e R s m args below meth c H1 locs1 cells slots Q (F0 m (pc + 3) ls rest)) : W p l e R s m args below meth c H locs cells slots Q (F0 m pc ls st0) := by
  obtain ⟨hx, hb, hml, hown, hts, hK, hy, hNs⟩ := C
  refine va_callv (va_runS (As := As) (rest := rest) ⟨hx, hb, hml, hown, hts⟩ hM cw ⟨bd_blind, fun U hU hW => ⟨rfl, by rw [hU], by rw [hU]; exact hw.1, va_K.moved hW.alike hK, ⟨hw.2.1.1, fun _ _ _ => trivial⟩, hy, hNs.warm hW⟩⟩ rfl hn hls hst (lv_room hr8) hd hc) hw.2.2 ?_ ?_ ?_
  · intro q hq h
    rcases h with h | h
    · exact Or.inl h
    · exact absurd hq (Nat.not_lt.mpr h)
  · intro q h
    rcases h with h | h
    · exact Or.inl h
    · exact Or.inr (by have := hw.2.2.1; omega)
  · intro u t H1 locs1 ht hvm hp hB hz hk hS
    obtain ⟨h1, h2, h3⟩ := hB
    rw [ht] at h1
    exact kk u.1 u.2 H1 locs1 hp ⟨h1, ⟨h3.1, fun k q h => bd_inL h⟩, hS⟩
theorem bd_ci {post : Int32 → bd_U → Prop} (C : bd_C p s m args c cc nL Ts own K) (hM : Met l y ws rm (va_Pc (.ref b :: As) (bd_P K E z H.size)) (va_Qi post (bd_B K) (bd_A K H.size)) 0 0 (bd_A K H.size)) (cw : CallW R s args own Cn ix y bytes maxL ret ws rm 0 0 n) (hsz : s.heap.size = sz) (hw : bd_W K E z (bd_A K sz) s.heap H locs) (hrv : ∃ cell : Cell, H[b]? = some cell ∧ cell.vm.isStatics = false ∧ s.vm.findClass Cn = some cell.cls) (hd : decode cc pc = .ok (.invokevirtual ix, 3)) (hn : As.length = n) (hls : ls.size = nL) (hst : st0 = As.reverse ++ .ref b :: rest) (hr8 : (rest.map fun v => v.category).sum ≤ 8) (hc : cells ≤ R.cells ∧ slots ≤ R.slots)
    (kk : ∀ (r : Int32) (E1 : Nat → va_E) (z1 : Nat → Wh) (H1 : Heap) (locs1 : List Loc), post r (E1, z1) → bd_W K E1 z1 (bd_A K sz) s.heap H1 locs1 → W p l e R s m args below meth c H1 locs1 cells slots Q (F0 m (pc + 3) ls (.int r :: rest))) : W p l e R s m args below meth c H locs cells slots Q (F0 m pc ls st0) := by
  obtain ⟨hx, hb, hml, hown, hts, hK, hy, hNs⟩ := C
  refine va_calli (va_runV (As := As) (rest := rest) (b := b) ⟨hx, hb, hml, hown, hts⟩ hM cw ⟨bd_blind, hrv, fun U hU hW => ⟨rfl, by rw [hU], by rw [hU]; exact hw.1, va_K.moved hW.alike hK, ⟨hw.2.1.1, fun _ _ _ => trivial⟩, hy, hNs.warm hW⟩⟩ rfl hn hls hst (lv_room hr8) hd hc) hw.2.2 ?_ ?_ ?_
  · intro q hq h
    rcases h with h | h
    · exact Or.inl h
    · exact absurd hq (Nat.not_lt.mpr h)
  · intro q h
    rcases h with h | h
    · exact Or.inl h
    · exact Or.inr (by have := hw.2.2.1; omega)
  · intro r u t H1 locs1 ht hvm hp hB hz hk hS
    obtain ⟨h1, h2, h3⟩ := hB
    rw [ht] at h1
    exact kk r u.1 u.2 H1 locs1 hp ⟨h1, ⟨h3.1, fun k q h => bd_inL h⟩, hS⟩
theorem bd_si {post : Int32 → bd_U → Prop} (C : bd_C p s m args c cc nL Ts own K) (hM : Met l y ws rm (va_Pc As (bd_P K E z H.size)) (va_Qi post (bd_B K) (bd_A K H.size)) 0 0 (bd_A K H.size)) (cw : CallB R s args own ix y bytes maxL ret ws rm 0 0 n ∧ (Cond.static y).before args s = true) (hsz : s.heap.size = sz) (hw : bd_W K E z (bd_A K sz) s.heap H locs) (hd : decode cc pc = .ok (.invokestatic ix, 3)) (hn : As.length = n) (hls : ls.size = nL) (hst : st0 = As.reverse ++ rest) (hr8 : (rest.map fun v => v.category).sum ≤ 8) (hc : cells ≤ R.cells ∧ slots ≤ R.slots)
    (kk : ∀ (r : Int32) (E1 : Nat → va_E) (z1 : Nat → Wh) (H1 : Heap) (locs1 : List Loc), post r (E1, z1) → bd_W K E1 z1 (bd_A K sz) s.heap H1 locs1 → W p l e R s m args below meth c H1 locs1 cells slots Q (F0 m (pc + 3) ls (.int r :: rest))) : W p l e R s m args below meth c H locs cells slots Q (F0 m pc ls st0) := by
  obtain ⟨hx, hb, hml, hown, hts, hK, hy, hNs⟩ := C
  refine va_calli (va_runS (As := As) (rest := rest) ⟨hx, hb, hml, hown, hts⟩ hM cw ⟨bd_blind, fun U hU hW => ⟨rfl, by rw [hU], by rw [hU]; exact hw.1, va_K.moved hW.alike hK, ⟨hw.2.1.1, fun _ _ _ => trivial⟩, hy, hNs.warm hW⟩⟩ rfl hn hls hst (lv_room hr8) hd hc) hw.2.2 ?_ ?_ ?_
  · intro q hq h
    rcases h with h | h
    · exact Or.inl h
    · exact absurd hq (Nat.not_lt.mpr h)
  · intro q h
    rcases h with h | h
    · exact Or.inl h
    · exact Or.inr (by have := hw.2.2.1; omega)
  · intro r u t H1 locs1 ht hvm hp hB hz hk hS
    obtain ⟨h1, h2, h3⟩ := hB
    rw [ht] at h1
    exact kk r u.1 u.2 H1 locs1 hp ⟨h1, ⟨h3.1, fun k q h => bd_inL h⟩, hS⟩
theorem bd_cl {post : Int64 → bd_U → Prop} (C : bd_C p s m args c cc nL Ts own K) (hM : Met l y ws rm (va_Pc (.ref b :: As) (bd_P K E z H.size)) (va_Ql post (bd_B K) (bd_A K H.size)) 0 0 (bd_A K H.size)) (cw : CallW R s args own Cn ix y bytes maxL ret ws rm 0 0 n) (hsz : s.heap.size = sz) (hw : bd_W K E z (bd_A K sz) s.heap H locs) (hrv : ∃ cell : Cell, H[b]? = some cell ∧ cell.vm.isStatics = false ∧ s.vm.findClass Cn = some cell.cls) (hd : decode cc pc = .ok (.invokevirtual ix, 3)) (hn : As.length = n) (hls : ls.size = nL) (hst : st0 = As.reverse ++ .ref b :: rest) (hr8 : (rest.map fun v => v.category).sum ≤ 8) (hc : cells ≤ R.cells ∧ slots ≤ R.slots)
    (kk : ∀ (r : Int64) (E1 : Nat → va_E) (z1 : Nat → Wh) (H1 : Heap) (locs1 : List Loc), post r (E1, z1) → bd_W K E1 z1 (bd_A K sz) s.heap H1 locs1 → W p l e R s m args below meth c H1 locs1 cells slots Q (F0 m (pc + 3) ls (.long r :: rest))) : W p l e R s m args below meth c H locs cells slots Q (F0 m pc ls st0) := by
  obtain ⟨hx, hb, hml, hown, hts, hK, hy, hNs⟩ := C
  refine va_calll (va_runV (As := As) (rest := rest) (b := b) ⟨hx, hb, hml, hown, hts⟩ hM cw ⟨bd_blind, hrv, fun U hU hW => ⟨rfl, by rw [hU], by rw [hU]; exact hw.1, va_K.moved hW.alike hK, ⟨hw.2.1.1, fun _ _ _ => trivial⟩, hy, hNs.warm hW⟩⟩ rfl hn hls hst (lv_room hr8) hd hc) hw.2.2 ?_ ?_ ?_
  · intro q hq h
    rcases h with h | h
    · exact Or.inl h
    · exact absurd hq (Nat.not_lt.mpr h)
  · intro q h
    rcases h with h | h
    · exact Or.inl h
    · exact Or.inr (by have := hw.2.2.1; omega)
  · intro r u t H1 locs1 ht hvm hp hB hz hk hS
    obtain ⟨h1, h2, h3⟩ := hB
    rw [ht] at h1
    exact kk r u.1 u.2 H1 locs1 hp ⟨h1, ⟨h3.1, fun k q h => bd_inL h⟩, hS⟩
theorem bd_sl {post : Int64 → bd_U → Prop} (C : bd_C p s m args c cc nL Ts own K) (hM : Met l y ws rm (va_Pc As (bd_P K E z H.size)) (va_Ql post (bd_B K) (bd_A K H.size)) 0 0 (bd_A K H.size)) (cw : CallB R s args own ix y bytes maxL ret ws rm 0 0 n ∧ (Cond.static y).before args s = true) (hsz : s.heap.size = sz) (hw : bd_W K E z (bd_A K sz) s.heap H locs) (hd : decode cc pc = .ok (.invokestatic ix, 3)) (hn : As.length = n) (hls : ls.size = nL) (hst : st0 = As.reverse ++ rest) (hr8 : (rest.map fun v => v.category).sum ≤ 8) (hc : cells ≤ R.cells ∧ slots ≤ R.slots)
    (kk : ∀ (r : Int64) (E1 : Nat → va_E) (z1 : Nat → Wh) (H1 : Heap) (locs1 : List Loc), post r (E1, z1) → bd_W K E1 z1 (bd_A K sz) s.heap H1 locs1 → W p l e R s m args below meth c H1 locs1 cells slots Q (F0 m (pc + 3) ls (.long r :: rest))) : W p l e R s m args below meth c H locs cells slots Q (F0 m pc ls st0) := by
  obtain ⟨hx, hb, hml, hown, hts, hK, hy, hNs⟩ := C
  refine va_calll (va_runS (As := As) (rest := rest) ⟨hx, hb, hml, hown, hts⟩ hM cw ⟨bd_blind, fun U hU hW => ⟨rfl, by rw [hU], by rw [hU]; exact hw.1, va_K.moved hW.alike hK, ⟨hw.2.1.1, fun _ _ _ => trivial⟩, hy, hNs.warm hW⟩⟩ rfl hn hls hst (lv_room hr8) hd hc) hw.2.2 ?_ ?_ ?_
  · intro q hq h
    rcases h with h | h
    · exact Or.inl h
    · exact absurd hq (Nat.not_lt.mpr h)
  · intro q h
    rcases h with h | h
    · exact Or.inl h
    · exact Or.inr (by have := hw.2.2.1; omega)
  · intro r u t H1 locs1 ht hvm hp hB hz hk hS
    obtain ⟨h1, h2, h3⟩ := hB
    rw [ht] at h1
    exact kk r u.1 u.2 H1 locs1 hp ⟨h1, ⟨h3.1, fun k q h => bd_inL h⟩, hS⟩
end BDE
