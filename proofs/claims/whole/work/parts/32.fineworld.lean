/-! THE FINE NUMBERS' WORLD: the object (its bits, its numbers A 1 .. A 10, its division) -/
def fn_l (Q dv : Nat) (A : Nat → Nat) : List Value := [.int (nI Q), .ref (A 1), .ref dv, .ref (A 2), .ref (A 3), .ref (A 4), .ref (A 5), .ref (A 6), .ref (A 7), .ref (A 8), .ref (A 9), .ref (A 10)]
def fn_at (K : Cxt) (E : Nat → va_E) (fo Q dv rs bs : Nat) (A : Nat → Nat) : Prop :=
  fo ∈ bd_L K ∧ bd_o K fo ∧ (fo ≠ dv ∧ fo ≠ rs ∧ fo ≠ bs) ∧ E fo = .inr (2, fn_l Q dv A) ∧ (∀ i, 1 ≤ i ∧ i ≤ 10 → A i ∈ bd_N K) ∧ (∀ i j, 1 ≤ i ∧ i ≤ 10 → 1 ≤ j ∧ j ≤ 10 → A i = A j → i = j) ∧ (80 ≤ Q ∧ Q ≤ 256) ∧ dv_ok K E dv rs bs
theorem fn_ne {K : Cxt} {E : Nat → va_E} {fo Q dv rs bs : Nat} {A : Nat → Nat} (h : fn_at K E fo Q dv rs bs A) {i j : Nat} (hi : 1 ≤ i ∧ i ≤ 10) (hj : 1 ≤ j ∧ j ≤ 10) (hij : i ≠ j) : A i ≠ A j := fun q => hij (h.2.2.2.2.2.1 i j hi hj q)
theorem fn_in {K : Cxt} {E : Nat → va_E} {fo Q dv rs bs : Nat} {A : Nat → Nat} (h : fn_at K E fo Q dv rs bs A) {i : Nat} (hi : 1 ≤ i ∧ i ≤ 10) : A i ∈ bd_N K := h.2.2.2.2.1 i hi
theorem fn_Q {K : Cxt} {E : Nat → va_E} {fo Q dv rs bs : Nat} {A : Nat → Nat} (h : fn_at K E fo Q dv rs bs A) : 80 ≤ Q ∧ Q ≤ 256 := h.2.2.2.2.2.2.1
theorem fn_dv {K : Cxt} {E : Nat → va_E} {fo Q dv rs bs : Nat} {A : Nat → Nat} (h : fn_at K E fo Q dv rs bs A) : dv_ok K E dv rs bs := h.2.2.2.2.2.2.2
theorem fn_mv {K : Cxt} {E E1 : Nat → va_E} {fo Q dv rs bs : Nat} {A : Nat → Nat} (h : fn_at K E fo Q dv rs bs A) (hd : dv_ok K E1 dv rs bs) (hf : dv_fr dv rs bs E E1) : fn_at K E1 fo Q dv rs bs A := by
  obtain ⟨h1, h2, h3, h4, h5, h6, h7, h8⟩ := h
  exact ⟨h1, h2, h3, by rw [hf fo h3.1 h3.2.1 h3.2.2]; exact h4, h5, h6, h7, hd⟩
section FNR
variable {p : Program} {l : Launch} {e : Env} {R : Room} {s : State} {m : MethodId} {args : Array Value} {below : List Frame} {meth : Method} {c : Code} {H : Heap} {locs : List Loc} {cells slots : Nat} {Q0 : State → Prop}
variable {cc : ByteArray} {pc nL : Nat} {ls : Array Slot} {rest : List Value} {K : Cxt} {E : Nat → va_E} {z : Nat → Wh} {Ar : Nat → Prop} {Ts : List Cond} {H0 : Heap} {own : String} {fo Q dv rs bs ix : Nat} {A : Nat → Nat}
theorem fn_g (C : bd_C p s m args c cc nL Ts own K) (hi : ∀ w ∈ wsX20, w ∈ Ts) (hw : bd_W K E z Ar H0 H locs) (hfn : fn_at K E fo Q dv rs bs A) (k : Nat) (hk : k < 12) {v : Value} (hv : (fn_l Q dv A)[k]? = some v) (hd : decode cc pc = .ok (.getfield ix, 3)) (hl : Cond.fieldLink own ix "BallDesk$Fine" (TX2 k).2.1 (TX2 k).2.2.1 ∈ Ts)
    (kk : W p l e R s m args below meth c H locs cells slots Q0 (F0 m (pc + 3) ls (v :: rest))) : W p l e R s m args below meth c H locs cells slots Q0 (F0 m pc ls (.ref fo :: rest)) := by
  obtain ⟨hx, hb, -, hown, hts, hK, hy, hNs⟩ := C
  obtain ⟨q0, hq⟩ := va_pl_get (X := []) (f := bd_e K E z) hfn.1
  rw [bd_e0 hfn.2.1, hfn.2.2.2.1] at hq
  have hT : (TX2 k).1 = "BallDesk$Fine" := by
    rcases (show k = 0 ∨ k = 1 ∨ k = 2 ∨ k = 3 ∨ k = 4 ∨ k = 5 ∨ k = 6 ∨ k = 7 ∨ k = 8 ∨ k = 9 ∨ k = 10 ∨ k = 11 by omega) with rfl | rfl | rfl | rfl | rfl | rfl | rfl | rfl | rfl | rfl | rfl | rfl <;> rfl
  exact va_get (D := bd_D K) (C := RX2) (T := TX2) (N := 12) (ci := 2) (v := v) hx hb hts hi hown hK hw.1 q0 hq rfl k hk (hts _ hl) (fun _ h => by rw [hT] at h; exact h) hv hd kk
theorem fn_recv (C : bd_C p s m args c cc nL Ts own K) (hw : bd_W K E z Ar H0 H locs) (hfn : fn_at K E fo Q dv rs bs A) : ∃ cell : Cell, H[fo]? = some cell ∧ cell.vm.isStatics = false ∧ s.vm.findClass RX2 = some cell.cls := by
  obtain ⟨hx, hb, -, hown, hts, hK, hy, hNs⟩ := C
  obtain ⟨q0, hq⟩ := va_pl_get (X := []) (f := bd_e K E z) hfn.1
  rw [bd_e0 hfn.2.1, hfn.2.2.2.1] at hq
  exact va_recv hK hw.1 (ci := 2) (q0 := q0) rfl hq
theorem dv_recv2 (C : bd_C p s m args c cc nL Ts own K) (hw : bd_W K E z Ar H0 H locs) (hdv : dv_ok K E dv rs bs) : ∃ cell : Cell, H[dv]? = some cell ∧ cell.vm.isStatics = false ∧ s.vm.findClass RX1 = some cell.cls := by
  obtain ⟨ln, fl, F, G, hd, -, -⟩ := hdv
  exact dv_recv C hw hd
end FNR
section SVR
variable {p : Program} {l : Launch} {e : Env} {R : Room} {s : State} {m : MethodId} {args : Array Value} {below : List Frame} {meth : Method} {c : Code} {H : Heap} {locs : List Loc} {cells slots : Nat} {Q : State → Prop}
variable {cc : ByteArray} {pc nL sz : Nat} {ls : Array Slot} {rest : List Value} {K : Cxt} {E : Nat → va_E} {z : Nat → Wh} {Ts : List Cond} {own : String}
variable {y : MethodName} {ws : List Cond} {rm : Room} {bytes : ByteArray} {maxL n ix b h : Nat} {ret : Option FieldType} {As st0 : List Value} {Cn : String} {sg : Nat → Int} {v : Int}
/-- a call that gives one number a value -/
theorem sv_v (C : bd_C p s m args c cc nL Ts own K) (hM : Met l y ws rm (va_Pc (.ref b :: As) (bd_P K E z H.size)) (va_Qv (fun u => u.1 = E ∧ sg_S K u.2 (va_up sg h v)) (bd_B K) (bd_A K H.size)) 0 0 (bd_A K H.size)) (cw : CallW R s args own Cn ix y bytes maxL ret ws rm 0 0 n) (hsz : s.heap.size = sz) (hw : bd_W K E z (bd_A K sz) s.heap H locs) (hrv : ∃ cell : Cell, H[b]? = some cell ∧ cell.vm.isStatics = false ∧ s.vm.findClass Cn = some cell.cls) (hd : decode cc pc = .ok (.invokevirtual ix, 3)) (hn : As.length = n) (hls : ls.size = nL) (hst : st0 = As.reverse ++ .ref b :: rest) (hr8 : (rest.map fun v => v.category).sum ≤ 8) (hc : cells ≤ R.cells ∧ slots ≤ R.slots)
    (kk : ∀ (z1 : Nat → Wh) (sg1 : Nat → Int) (H1 : Heap) (locs1 : List Loc), sg1 h = v → (∀ a, a ≠ h → sg1 a = sg a) → sg_S K z1 sg1 → bd_W K E z1 (bd_A K sz) s.heap H1 locs1 → W p l e R s m args below meth c H1 locs1 cells slots Q (F0 m (pc + 3) ls rest)) : W p l e R s m args below meth c H locs cells slots Q (F0 m pc ls st0) :=
  bd_cv C hM cw hsz hw hrv hd hn hls hst hr8 hc (fun E1 z1 H1 locs1 hp hw1 => by
    obtain ⟨hE, hS⟩ := hp
    rw [show E1 = E from hE] at hw1
    exact kk z1 _ H1 locs1 (va_up_self _ _ _) (fun a ha => va_up_ne _ _ ha) hS hw1)
theorem sv_i {r : Int32} (C : bd_C p s m args c cc nL Ts own K) (hM : Met l y ws rm (va_Pc (.ref b :: As) (bd_P K E z H.size)) (va_Qi (fun r1 u => r1 = r ∧ u.1 = E ∧ sg_S K u.2 (va_up sg h v)) (bd_B K) (bd_A K H.size)) 0 0 (bd_A K H.size)) (cw : CallW R s args own Cn ix y bytes maxL ret ws rm 0 0 n) (hsz : s.heap.size = sz) (hw : bd_W K E z (bd_A K sz) s.heap H locs) (hrv : ∃ cell : Cell, H[b]? = some cell ∧ cell.vm.isStatics = false ∧ s.vm.findClass Cn = some cell.cls) (hd : decode cc pc = .ok (.invokevirtual ix, 3)) (hn : As.length = n) (hls : ls.size = nL) (hst : st0 = As.reverse ++ .ref b :: rest) (hr8 : (rest.map fun v => v.category).sum ≤ 8) (hc : cells ≤ R.cells ∧ slots ≤ R.slots)
    (kk : ∀ (z1 : Nat → Wh) (sg1 : Nat → Int) (H1 : Heap) (locs1 : List Loc), sg1 h = v → (∀ a, a ≠ h → sg1 a = sg a) → sg_S K z1 sg1 → bd_W K E z1 (bd_A K sz) s.heap H1 locs1 → W p l e R s m args below meth c H1 locs1 cells slots Q (F0 m (pc + 3) ls (.int r :: rest))) : W p l e R s m args below meth c H locs cells slots Q (F0 m pc ls st0) :=
  bd_ci C hM cw hsz hw hrv hd hn hls hst hr8 hc (fun r1 E1 z1 H1 locs1 hp hw1 => by
    obtain ⟨hr, hE, hS⟩ := hp
    subst hr
    rw [show E1 = E from hE] at hw1
    exact kk z1 _ H1 locs1 (va_up_self _ _ _) (fun a ha => va_up_ne _ _ ha) hS hw1)
theorem sv_q {r : Int32} {dv rs bs : Nat} (C : bd_C p s m args c cc nL Ts own K) (hM : Met l y ws rm (va_Pc (.ref b :: As) (bd_P K E z H.size)) (va_Qi (fun r1 u => r1 = r ∧ dv_ok K u.1 dv rs bs ∧ dv_fr dv rs bs E u.1 ∧ sg_S K u.2 (va_up sg h v)) (bd_B K) (bd_A K H.size)) 0 0 (bd_A K H.size)) (cw : CallW R s args own Cn ix y bytes maxL ret ws rm 0 0 n) (hsz : s.heap.size = sz) (hw : bd_W K E z (bd_A K sz) s.heap H locs) (hrv : ∃ cell : Cell, H[b]? = some cell ∧ cell.vm.isStatics = false ∧ s.vm.findClass Cn = some cell.cls) (hd : decode cc pc = .ok (.invokevirtual ix, 3)) (hn : As.length = n) (hls : ls.size = nL) (hst : st0 = As.reverse ++ .ref b :: rest) (hr8 : (rest.map fun v => v.category).sum ≤ 8) (hc : cells ≤ R.cells ∧ slots ≤ R.slots)
    (kk : ∀ (E1 : Nat → va_E) (z1 : Nat → Wh) (sg1 : Nat → Int) (H1 : Heap) (locs1 : List Loc), dv_ok K E1 dv rs bs → dv_fr dv rs bs E E1 → sg1 h = v → (∀ a, a ≠ h → sg1 a = sg a) → sg_S K z1 sg1 → bd_W K E1 z1 (bd_A K sz) s.heap H1 locs1 → W p l e R s m args below meth c H1 locs1 cells slots Q (F0 m (pc + 3) ls (.int r :: rest))) : W p l e R s m args below meth c H locs cells slots Q (F0 m pc ls st0) :=
  bd_ci C hM cw hsz hw hrv hd hn hls hst hr8 hc (fun r1 E1 z1 H1 locs1 hp hw1 => by
    obtain ⟨hr, hd1, hf1, hS⟩ := hp
    subst hr
    exact kk E1 z1 _ H1 locs1 hd1 hf1 (va_up_self _ _ _) (fun a ha => va_up_ne _ _ ha) hS hw1)
end SVR
