/-! WORLDS THAT GROW: a pool L of cells, f what lies in each; for constructors -/
abbrev np_T : Type := ClassId × ClassId × ClassId
abbrev np_t (T : np_T) : List (ClassId × FieldType) := [(T.1, .int), (T.2.1, .long), (T.2.2, .object "BallDesk$Ball")]
abbrev np_U : Type := List Nat × (Nat → va_E)
def np_W (D : va_G) (L : List Nat) (f : Nat → va_E) (A : Nat → Prop) (H0 H : Heap) (locs : List Loc) : Prop := va_P D vwCl (va_pl L f) H ∧ va_D A (va_pl L f) ∧ va_S A H0 H locs
def np_A (L : List Nat) (sz : Nat) : Nat → Prop := fun q => q ∈ L ∨ sz ≤ q
def np_P (D : va_G) (T : np_T) (L : List Nat) (f : Nat → va_E) (sz : Nat) (U : State) : Prop := U.heap.size = sz ∧ va_P D vwCl (va_pl L f) U.heap ∧ va_K D vwCl (np_t T) U ∧ va_D (fun _ => True) (va_pl L f) ∧ bd_Ns U
def np_B (D : va_G) (T : np_T) (L : List Nat) (sz : Nat) (u : np_U) (t : State) : Prop := va_P D vwCl (va_pl u.1 u.2) t.heap ∧ va_K D vwCl (np_t T) t ∧ va_D (np_A L sz) (va_pl u.1 u.2)
def np_C (p : Program) (s : State) (m : MethodId) (args : Array Value) (meth : Method) (c : Code) (cc : ByteArray) (nL : Nat) (Ts : List Cond) (own : String) (D : va_G) (T : np_T) : Prop :=
  p.tables.exec = Jvm.exec ∧ c.code = cc ∧ c.maxLocals = nL ∧ s.vm.findClass own = some m.cls ∧ (∀ w ∈ Ts, w.before args s = true) ∧ va_K D vwCl (np_t T) s ∧ bd_Ns s ∧ meth.name = "<init>"
theorem np_inL {L : List Nat} {f : Nat → va_E} {sz k : Nat} {q : Nat × va_E} (h : (va_pl L f)[k]? = some q) : np_A L sz q.1 := by
  left
  have h1 : q ∈ va_pl L f := List.mem_of_getElem? h
  obtain ⟨a, ha, rfl⟩ := List.mem_map.mp h1
  exact ha
theorem np_blind {D : va_G} {T : np_T} {L : List Nat} {f : Nat → va_E} {sz : Nat} {av : List Value} : FrameBlind (va_Pc av (np_P D T L f sz)) := fun a U g mk q => by
  obtain ⟨q0, q1, qP, qK, qD, qn⟩ := q
  exact ⟨q0, q1, qP, va_K.moved (u := U) (U := U.calling g mk a) (Vm.Alike.refl U.vm) qK, qD, fun w hw => va_Nw.same (u := U) (U := U.calling g mk a) (bd_nlt w hw) rfl (qn w hw)⟩
theorem np_ofW {l : Launch} {y : MethodName} {ws ws' : List Cond} {rm : Room} {Qc : Array Value → State → Outcome → State → Prop} {mc ms : Nat} {cc : ByteArray} {maxL sz : Nat} {av : List Value} {D : va_G} {T : np_T} {L : List Nat} {f : Nat → va_E} (hy : plainName y.cls = true) (hyn : y.name = "<init>") (hw : ws = Cond.code y cc maxL none :: ws') (hn : (lg_sl av).length ≤ maxL)
    (body : ∀ (p : Program) (e : Env) (s : State) (m : MethodId) (below : List Frame) (meth : Method) (c : Code) (ls : Array Slot), np_C p s m av.toArray meth c cc maxL ws y.cls D T → meth.sig.returnType = none → meth.locks = false → s.heap.size = sz → np_W D L f (np_A L sz) s.heap s.heap [] → lv_has ls maxL (lv_args 0 av) →
      W p l e (headSpec ws rm).room s m av.toArray below meth c s.heap [] 0 0 (MQ below Qc av.toArray s mc ms (np_A L sz)) (F0 m 0 ls [])) : Met l y ws rm (va_Pc av (np_P D T L f sz)) Qc mc ms (np_A L sz) := by
  refine Met.ofW (cc := cc) (maxL := maxL) (ret := none) hy hw ?_
  intro p e s m args below meth c s₁ B hml hv
  obtain ⟨rfl, hsz, hP, hK, hD, hNs⟩ := hv
  rw [lg_entry_eq]
  exact body p e s m below meth c _ ⟨B.exec, B.bytes, hml, findClass_of_methodNamed B.named, atoms_spec (ws := ws) B.pre, hK, hNs, ((name_of_methodNamed B.named B.method).1).trans hyn⟩ B.returns B.notSynchronized hsz ⟨hP, ⟨hD.1, fun k q h => np_inL h⟩, va_S.rf⟩ (lv_entry av hn)
section NPR
variable {p : Program} {l : Launch} {e : Env} {R : Room} {s : State} {m : MethodId} {args : Array Value} {below : List Frame} {meth : Method} {c : Code} {H : Heap} {locs : List Loc} {cells slots : Nat} {Q : State → Prop}
variable {cc : ByteArray} {pc nL sz : Nat} {ls : Array Slot} {rest : List Value} {D : va_G} {T : np_T} {L L0 : List Nat} {f : Nat → va_E} {Ts : List Cond} {own : String}
theorem np_vret {post : np_U → Prop} (C : np_C p s m args meth c cc nL Ts own D T) (hr : meth.sig.returnType = none) (hlk : meth.locks = false) (hw : np_W D L f (np_A L0 sz) s.heap H locs) (hd : decode cc pc = .ok (.return_, 1)) (hp : post (L, f)) :
    W p l e R s m args below meth c H locs cells slots (MQ below (va_Qv post (np_B D T L0 sz) (np_A L0 sz)) args s cells slots (np_A L0 sz)) (F0 m pc ls []) := by
  obtain ⟨hx, hb, -, hown, hts, hK, hNs, hin⟩ := C
  exact W.vret hx hb hr (fun t ht hW => ⟨⟨(L, f), rfl, hp, by rw [ht]; exact hw.1, va_K.moved hW.alike hK, hw.2.1⟩, hw.2.2.F ht⟩) hw.2.2.2.2 hd (hlocks := hlk)
theorem np_new {C0 : String} {T0 : u_T} {N ci index : Nat} (C : np_C p s m args meth c cc nL Ts own D T) (hi : ∀ w ∈ u_ws C0 T0 N, w ∈ Ts) (ty : Nat → FieldType) (hty : ∀ k, k < N → parseFieldDescriptor (T0 k).2.2.1 = some (ty k)) (hcl : Cond.classLink own index C0 ∈ Ts) (hinst : Cond.instantiable C0 N ∈ Ts) (hini : Cond.initialized C0 ∈ Ts) (hsz : s.heap.size = sz) (hw : np_W D L f (np_A L0 sz) s.heap H locs) (hc : vwCl[ci]? = some (C0, T0, N)) {fs : List Value} (hfs : ∀ j, j < N → defaultValue (ty j) = vp_V fs j) (hcells : cells + 1 ≤ R.cells) (hslots : slots + N ≤ R.slots) (hd : decode cc pc = .ok (.new index, 3))
    (kk : ∀ (q : Nat) (H1 : Heap), q ∉ L → np_W D (L ++ [q]) (va_up f q (.inr (ci, fs))) (np_A L0 sz) s.heap H1 locs → W p l e R s m args below meth c H1 locs (cells + 1) (slots + N) Q (F0 m (pc + 3) ls (.ref q :: rest))) : W p l e R s m args below meth c H locs cells slots Q (F0 m pc ls rest) := by
  obtain ⟨hx, hb, -, hown, hts, hK, hNs, hin⟩ := C
  refine va_new hx hb hts hi ty hty hown (hts _ hcl) (hts _ hinst) (hts _ hini) hK hw.1 hw.2.1 hw.2.2 (fun q hq => Or.inr (by rw [← hsz]; exact hq)) hc hfs hcells hslots hd (fun q H1 h1 h2 h3 => ?_)
  have hq : q ∉ L := va_pl_fresh2 (X := []) h2
  rw [va_pl_push hq] at h1 h2
  exact kk q H1 hq ⟨h1, h2, h3⟩
theorem np_newl {N' : Nat} {n : Int32} (C : np_C p s m args meth c cc nL Ts own D T) (harr : Cond.arrayClass (newarray.typeOf .long) ∈ Ts) (hsz : s.heap.size = sz) (hw : np_W D L f (np_A L0 sz) s.heap H locs) (hn : ¬ n < 0) (hN : n.toNatClampNeg = N') (hbytes : N' * 8 ≤ 536870912) (hcells : cells + 1 ≤ R.cells) (hslots : slots + N' ≤ R.slots) (hd : decode cc pc = .ok (.newarray .long, 2))
    (kk : ∀ (q : Nat) (H1 : Heap), q ∉ L → np_W D (L ++ [q]) (va_up f q (.inl (T.2.1, N', .inr (.inl (fun _ => lN 0))))) (np_A L0 sz) s.heap H1 locs → W p l e R s m args below meth c H1 locs (cells + 1) (slots + N') Q (F0 m (pc + 2) ls (.ref q :: rest))) : W p l e R s m args below meth c H locs cells slots Q (F0 m pc ls (.int n :: rest)) := by
  obtain ⟨hx, hb, -, hown, hts, hK, hNs, hin⟩ := C
  refine va_newa (ty := .long) (a0 := (N', .inr (.inl (fun _ => lN 0)))) hx hb (hts _ harr) rfl hK hw.1 hw.2.1 hw.2.2 (fun q hq => Or.inr (by rw [← hsz]; exact hq)) (fun _ => rfl) hn hN hbytes hcells hslots hd (fun q cA H1 hK1 h1 h2 h3 => ?_)
  have hA : cA = T.2.1 := by
    have e1 : s.vm.findClass ("[" ++ (FieldType.long).toString) = some cA := (hK1.2 3 _ rfl).2
    have e2 : s.vm.findClass ("[" ++ (FieldType.long).toString) = some T.2.1 := (hK.2 1 _ rfl).2
    exact Option.some.inj (e1.symm.trans e2)
  have hq : q ∉ L := va_pl_fresh2 (X := []) h2
  rw [va_pl_push hq, hA] at h1 h2
  exact kk q H1 hq ⟨h1, h2, h3⟩
theorem np_newi {N' : Nat} {n : Int32} (C : np_C p s m args meth c cc nL Ts own D T) (harr : Cond.arrayClass (newarray.typeOf .int) ∈ Ts) (hsz : s.heap.size = sz) (hw : np_W D L f (np_A L0 sz) s.heap H locs) (hn : ¬ n < 0) (hN : n.toNatClampNeg = N') (hbytes : N' * 4 ≤ 536870912) (hcells : cells + 1 ≤ R.cells) (hslots : slots + N' ≤ R.slots) (hd : decode cc pc = .ok (.newarray .int, 2))
    (kk : ∀ (q : Nat) (H1 : Heap), q ∉ L → np_W D (L ++ [q]) (va_up f q (.inl (T.1, N', .inl (fun _ => nI 0)))) (np_A L0 sz) s.heap H1 locs → W p l e R s m args below meth c H1 locs (cells + 1) (slots + N') Q (F0 m (pc + 2) ls (.ref q :: rest))) : W p l e R s m args below meth c H locs cells slots Q (F0 m pc ls (.int n :: rest)) := by
  obtain ⟨hx, hb, -, hown, hts, hK, hNs, hin⟩ := C
  refine va_newa (ty := .int) (a0 := (N', .inl (fun _ => nI 0))) hx hb (hts _ harr) rfl hK hw.1 hw.2.1 hw.2.2 (fun q hq => Or.inr (by rw [← hsz]; exact hq)) (fun _ => rfl) hn hN hbytes hcells hslots hd (fun q cA H1 hK1 h1 h2 h3 => ?_)
  have hA : cA = T.1 := by
    have e1 : s.vm.findClass ("[" ++ (FieldType.int).toString) = some cA := (hK1.2 3 _ rfl).2
    have e2 : s.vm.findClass ("[" ++ (FieldType.int).toString) = some T.1 := (hK.2 0 _ rfl).2
    exact Option.some.inj (e1.symm.trans e2)
  have hq : q ∉ L := va_pl_fresh2 (X := []) h2
  rw [va_pl_push hq, hA] at h1 h2
  exact kk q H1 hq ⟨h1, h2, h3⟩
theorem np_putF {C0 : String} {T0 : u_T} {N ci index a : Nat} (C : np_C p s m args meth c cc nL Ts own D T) (hi : ∀ w ∈ u_ws C0 T0 N, w ∈ Ts) (ty0 : Nat → FieldType) (hty : ∀ k, k < N → parseFieldDescriptor (T0 k).2.2.1 = some (ty0 k)) (hnm : ∀ a, a < N → ∀ b, b < N → a ≠ b → (T0 a).2.1 ≠ (T0 b).2.1) (hw : np_W D L f (np_A L0 sz) s.heap H locs) (ha : a ∈ L) {fs : List Value} (hf : f a = .inr (ci, fs)) (hc : vwCl[ci]? = some (C0, T0, N)) (k : Nat) (hk : k < N) (hlink : Cond.fieldLink own index C0 (T0 k).2.1 (T0 k).2.2.1 ∈ Ts) (hcls : (T0 k).1 = C0) (hfin : (T0 k).2.2.2 = true) (hdecl : C0 = own) {ty : FieldType} {v : Value} (hdsc : parseFieldDescriptor (T0 k).2.2.1 = some ty) (hn : narrow ty v = v) (hfit : fits ty v = true) (hl : k < fs.length) (hd : decode cc pc = .ok (.putfield index, 3))
    (kk : ∀ (H1 : Heap) (locs1 : List Loc), np_W D L (va_up f a (.inr (ci, fs.set k v))) (np_A L0 sz) s.heap H1 locs1 → W p l e R s m args below meth c H1 locs1 cells slots Q (F0 m (pc + 3) ls rest)) : W p l e R s m args below meth c H locs cells slots Q (F0 m pc ls (v :: .ref a :: rest)) := by
  obtain ⟨hx, hb, -, hown, hts, hK, hNs, hin⟩ := C
  obtain ⟨q0, hq0⟩ := va_pl_get (X := []) (f := f) ha
  have hq := hq0
  rw [hf] at hq
  refine va_putF (D := D) (ref := C0) hx hb hts hi ty0 hty hnm hown hK hw.1 hw.2.1 hw.2.2 q0 hq hc k hk (hts _ hlink) (fun _ h => by rw [hcls] at h; exact h) hfin hin (hcls.trans hdecl) hdsc hn hfit hl hd (fun H1 locs1 h1 h2 h3 => kk H1 locs1 ?_)
  have h4 : (va_pl L f).set q0 (a, .inr (ci, fs.set k v)) = va_pl L (va_up f a (.inr (ci, fs.set k v))) := va_pl_set (X := []) hw.2.1 ha hq0
  rw [h4] at h1 h2
  exact ⟨h1, h2, h3⟩
variable {y : MethodName} {ws : List Cond} {rm : Room} {bytes : ByteArray} {maxL n ix b mc ms : Nat} {As st0 : List Value} {host : String}
theorem np_call {post : np_U → Prop} (C : np_C p s m args meth c cc nL Ts own D T) (hM : Met l y ws rm (va_Pc (.ref b :: As) (np_P D T L f H.size)) (va_Qv post (np_B D T L H.size) (np_A L H.size)) mc ms (np_A L H.size)) (cw : va_CN R s args own ix y host bytes maxL none ws rm mc ms n ∧ y.name = "<init>" ∧ (Cond.instanceMethod y).before args s = true) (hsz : s.heap.size = sz) (hw : np_W D L f (np_A L0 sz) s.heap H locs) (hd : decode cc pc = .ok (.invokespecial ix, 3)) (hn : As.length = n) (hls : ls.size = nL) (hst : st0 = As.reverse ++ .ref b :: rest) (hr8 : (rest.map fun v => v.category).sum ≤ 8) (hc : cells + mc ≤ R.cells ∧ slots + ms ≤ R.slots)
    (kk : ∀ (L1 : List Nat) (f1 : Nat → va_E) (H1 : Heap) (locs1 : List Loc), post (L1, f1) → np_W D L1 f1 (np_A L0 sz) s.heap H1 locs1 → W p l e R s m args below meth c H1 locs1 (cells + mc) (slots + ms) Q (F0 m (pc + 3) ls rest)) : W p l e R s m args below meth c H locs cells slots Q (F0 m pc ls st0) := by
  obtain ⟨hx, hb, hml, hown, hts, hK, hNs, hin⟩ := C
  have hfr : ∀ q, np_A L H.size q → np_A L0 sz q := fun q h => by
    rcases h with h | h
    · obtain ⟨k, hk⟩ := va_pl_get (X := []) (f := f) h
      exact hw.2.1.2 k _ hk
    · exact Or.inr (by have := hw.2.2.1; omega)
  refine va_callv (va_runIN (As := As) (rest := rest) (b := b) ⟨hx, hb, hml, hown, hts⟩ hM cw ⟨np_blind, fun U hU hW => ⟨rfl, by rw [hU], by rw [hU]; exact hw.1, va_K.moved hW.alike hK, ⟨hw.2.1.1, fun _ _ _ => trivial⟩, hNs.warm hW⟩⟩ rfl hn hls hst (lv_room hr8) hd hc) hw.2.2 (fun q _ h => hfr q h) hfr (fun u t H1 locs1 ht hvm hp hB hz hk hS => ?_)
  obtain ⟨h1, h2, h3⟩ := hB
  rw [ht] at h1
  exact kk u.1 u.2 H1 locs1 hp ⟨h1, ⟨h3.1, fun k q h => hfr _ (h3.2 k q h)⟩, hS⟩
end NPR
