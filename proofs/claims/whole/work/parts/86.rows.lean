/-! rows for the desk's constructor -/
section NPQ
variable {p : Program} {l : Launch} {e : Env} {R : Room} {s : State} {m : MethodId} {args : Array Value} {below : List Frame} {meth : Method} {c : Code} {H : Heap} {locs : List Loc} {cells slots : Nat} {Q : State → Prop}
variable {cc : ByteArray} {pc nL sz : Nat} {ls : Array Slot} {rest : List Value} {D : va_G} {T : np_T} {L0 L : List Nat} {f : Nat → va_E} {Ts : List Cond} {own : String} {ix : Nat}
theorem np_newq {N' : Nat} {n : Int32} (C : np_C p s m args meth c cc nL Ts own D T) (hcl : Cond.classLink own ix "BallDesk$Ball" ∈ Ts) (hov : va_AO "BallDesk$Ball" s) (hsz : s.heap.size = sz) (hw : np_W D L f (np_A L0 sz) s.heap H locs) (hn : ¬ n < 0) (hN : n.toNatClampNeg = N') (hbytes : N' * 4 ≤ 536870912) (hcells : cells + 1 ≤ R.cells) (hslots : slots + N' ≤ R.slots) (hd : decode cc pc = .ok (.anewarray ix, 3))
    (kk : ∀ (q : Nat) (H1 : Heap), q ∉ L → np_W D (L ++ [q]) (va_up f q (.inl (T.2.2, N', .inr (.inr (.inr (.inr (fun _ => none))))))) (np_A L0 sz) s.heap H1 locs → W p l e R s m args below meth c H1 locs (cells + 1) (slots + N') Q (F0 m (pc + 3) ls (.ref q :: rest))) : W p l e R s m args below meth c H locs cells slots Q (F0 m pc ls (.int n :: rest)) := by
  obtain ⟨hx, hb, -, hown, hts, hK, hNs, hin⟩ := C
  refine va_newq hx hb hown (hts _ hcl) hov hK hw.1 hw.2.1 hw.2.2 (fun q hq => Or.inr (by rw [← hsz]; exact hq)) hn hN hbytes hcells hslots hd (fun q cA H1 hK1 h1 h2 h3 => ?_)
  have hA : cA = T.2.2 := by
    obtain ⟨k1, c1, -, -, -, e1⟩ := (hK1.2 3 _ rfl).2
    obtain ⟨k2, c2, -, -, -, e2⟩ := (hK.2 2 _ rfl).2
    exact Option.some.inj (e1.symm.trans e2)
  have hq : q ∉ L := va_pl_fresh2 (X := []) h2
  rw [va_pl_push hq, hA] at h1 h2
  exact kk q H1 hq ⟨h1, h2, h3⟩
theorem np_ast {i a v N' : Nat} {g : Nat → Option Nat} {vs : List Value} (C : np_C p s m args meth c cc nL Ts own D T) (hw : np_W D L f (np_A L0 sz) s.heap H locs) (ha : a ∈ L) (hf : f a = .inl (T.2.2, N', .inr (.inr (.inr (.inr g))))) (hv : v ∈ L) (hfv : f v = .inr (0, vs)) (hin : i < N') (hN : N' < 2 ^ 31) (hd : decode cc pc = .ok (.aastore, 1))
    (kk : ∀ (H1 : Heap) (locs1 : List Loc), np_W D L (va_up f a (.inl (T.2.2, N', .inr (.inr (.inr (.inr (va_up g i (some v)))))))) (np_A L0 sz) s.heap H1 locs1 → W p l e R s m args below meth c H1 locs1 cells slots Q (F0 m (pc + 1) ls rest)) : W p l e R s m args below meth c H locs cells slots Q (F0 m pc ls (.ref v :: .int (nI i) :: .ref a :: rest)) := by
  obtain ⟨hx, hb, -, hown, hts, hK, hNs, hin2⟩ := C
  obtain ⟨q0, hq0⟩ := va_pl_get (X := []) (f := f) ha
  obtain ⟨q1, hq1⟩ := va_pl_get (X := []) (f := f) hv
  have hq := hq0
  rw [hf] at hq
  rw [hfv] at hq1
  have h9 := va_astq (m := m) (args := args) (l := l) (e := e) (R := R) (below := below) (meth := meth) (cells := cells) (slots := slots) (Q := Q) (ls := ls) (rest := rest) (r := (RX0, TX0, 2)) hx hb hK hw.1 hw.2.1 hw.2.2 q0 2 q1 0 hq rfl hq1 rfl (vp_in_nI (n := i) hin hN) hd
  rw [nI_clamp (by omega)] at h9
  refine h9 (fun H1 locs1 h1 h2 h3 => kk H1 locs1 ?_)
  have h4 : (va_pl L f).set q0 (a, .inl (T.2.2, N', .inr (.inr (.inr (.inr (va_up g i (some v))))))) = va_pl L (va_up f a (.inl (T.2.2, N', .inr (.inr (.inr (.inr (va_up g i (some v)))))))) := va_pl_set (X := []) hw.2.1 ha hq0
  rw [h4] at h1 h2
  exact ⟨h1, h2, h3⟩
variable {y : MethodName} {ws : List Cond} {rm : Room} {bytes : ByteArray} {maxL n b mc ms : Nat} {As st0 : List Value}
theorem np_callI {post : np_U → Prop} (C : np_C p s m args meth c cc nL Ts own D T) (hM : Met l y ws rm (va_Pc (.ref b :: As) (np_P D T L f H.size)) (va_Qv post (np_B D T L H.size) (np_A L H.size)) mc ms (np_A L H.size)) (cw : CallB R s args own ix y bytes maxL none ws rm mc ms n ∧ y.name = "<init>" ∧ (Cond.instanceMethod y).before args s = true) (hsz : s.heap.size = sz) (hw : np_W D L f (np_A L0 sz) s.heap H locs) (hd : decode cc pc = .ok (.invokespecial ix, 3)) (hn : As.length = n) (hls : ls.size = nL) (hst : st0 = As.reverse ++ .ref b :: rest) (hr8 : (rest.map fun v => v.category).sum ≤ 8) (hc : cells + mc ≤ R.cells ∧ slots + ms ≤ R.slots)
    (kk : ∀ (L1 : List Nat) (f1 : Nat → va_E) (H1 : Heap) (locs1 : List Loc), post (L1, f1) → np_W D L1 f1 (np_A L0 sz) s.heap H1 locs1 → W p l e R s m args below meth c H1 locs1 (cells + mc) (slots + ms) Q (F0 m (pc + 3) ls rest)) : W p l e R s m args below meth c H locs cells slots Q (F0 m pc ls st0) := by
  obtain ⟨hx, hb, hml, hown, hts, hK, hNs, hin⟩ := C
  have hfr : ∀ q, np_A L H.size q → np_A L0 sz q := fun q h => by
    rcases h with h | h
    · obtain ⟨k, hk⟩ := va_pl_get (X := []) (f := f) h
      exact hw.2.1.2 k _ hk
    · exact Or.inr (by have := hw.2.2.1; omega)
  refine va_callv (va_runI (As := As) (rest := rest) (b := b) ⟨hx, hb, hml, hown, hts⟩ hM cw ⟨np_blind, fun U hU hW => ⟨rfl, by rw [hU], by rw [hU]; exact hw.1, va_K.moved hW.alike hK, ⟨hw.2.1.1, fun _ _ _ => trivial⟩, hNs.warm hW⟩⟩ rfl hn hls hst (lv_room hr8) hd hc) hw.2.2 (fun q _ h => hfr q h) hfr (fun u t H1 locs1 ht hvm hp hB hz hk hS => ?_)
  obtain ⟨h1, h2, h3⟩ := hB
  rw [ht] at h1
  exact kk u.1 u.2 H1 locs1 hp ⟨h1, ⟨h3.1, fun k q h => hfr _ (h3.2 k q h)⟩, hS⟩
end NPQ
/-- the constructor's head where the array class is told of -/
theorem np_ofW4 {l : Launch} {y : MethodName} {ws ws' : List Cond} {rm : Room} {Qc : Array Value → State → Outcome → State → Prop} {mc ms : Nat} {cc : ByteArray} {maxL sz : Nat} {av : List Value} {D : va_G} {T : np_T} {L : List Nat} {f : Nat → va_E} (hy : plainName y.cls = true) (hyn : y.name = "<init>") (hw : ws = Cond.code y cc maxL none :: ws') (hn : (lg_sl av).length ≤ maxL)
    (body : ∀ (p : Program) (e : Env) (s : State) (m : MethodId) (below : List Frame) (meth : Method) (c : Code) (ls : Array Slot), np_C p s m av.toArray meth c cc maxL ws y.cls D T → va_AO "BallDesk$Ball" s → meth.sig.returnType = none → meth.locks = false → s.heap.size = sz → np_W D L f (np_A L sz) s.heap s.heap [] → lv_has ls maxL (lv_args 0 av) →
      W p l e (headSpec ws rm).room s m av.toArray below meth c s.heap [] 0 0 (MQ below Qc av.toArray s mc ms (np_A L sz)) (F0 m 0 ls [])) : Met l y ws rm (va_Pc av (fun U => np_P D T L f sz U ∧ va_AO "BallDesk$Ball" U)) Qc mc ms (np_A L sz) := by
  refine Met.ofW (cc := cc) (maxL := maxL) (ret := none) hy hw ?_
  intro p e s m args below meth c s₁ B hml hv
  obtain ⟨rfl, ⟨hsz, hP, hK, hD, hNs⟩, hao⟩ := hv
  rw [lg_entry_eq]
  exact body p e s m below meth c _ ⟨B.exec, B.bytes, hml, findClass_of_methodNamed B.named, atoms_spec (ws := ws) B.pre, hK, hNs, ((name_of_methodNamed B.named B.method).1).trans hyn⟩ hao B.returns B.notSynchronized hsz ⟨hP, ⟨hD.1, fun k q h => np_inL h⟩, va_S.rf⟩ (lv_entry av hn)
/-- the bits that a desk works with -/
def dk_bits (b : Int32) : Nat := if b.toInt < 16 then 16 else if 192 < b.toInt then 192 else b.toInt.toNat
theorem dk_bitsb (b : Int32) : 16 ≤ dk_bits b ∧ dk_bits b ≤ 192 := by
  unfold dk_bits
  split
  · decide
  · split
    · decide
    · omega
theorem dk_bitsc (b : Int32) : (if nI 16 < (if b < nI 192 then b else nI 192) then (if b < nI 192 then b else nI 192) else nI 16) = nI (dk_bits b) := by
  have e16 : (nI 16).toInt = 16 := rfl
  have e192 : (nI 192).toInt = 192 := rfl
  apply Int32.toInt_inj.mp
  have hb := dk_bitsb b
  rw [nI_toInt (show dk_bits b < 2 ^ 31 by omega)]
  by_cases h1 : b < nI 192
  · have h2 := Int32.lt_iff_toInt_lt.mp h1
    rw [if_pos h1]
    by_cases h3 : nI 16 < b
    · have h4 := Int32.lt_iff_toInt_lt.mp h3
      rw [if_pos h3]
      unfold dk_bits
      rw [if_neg (by omega), if_neg (by omega)]
      omega
    · have h4 : ¬ (nI 16).toInt < b.toInt := fun q => h3 (Int32.lt_iff_toInt_lt.mpr q)
      rw [if_neg h3, e16]
      unfold dk_bits
      split
      · rfl
      · rw [if_neg (by omega)]
        omega
  · have h2 : ¬ b.toInt < (nI 192).toInt := fun q => h1 (Int32.lt_iff_toInt_lt.mpr q)
    rw [if_neg h1, if_pos (by decide), e192]
    unfold dk_bits
    rw [if_neg (by omega)]
    split
    · rfl
    · omega
