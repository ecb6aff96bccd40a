/-! the law: its rows -/
def lw_kp (K : Cxt) (H H1 : Heap) : Prop := H.size ≤ H1.size ∧ ∀ q : Nat, q < H.size → q ∉ bd_L K → H1[q]? = H[q]?
section LWR
variable {p : Program} {l : Launch} {e : Env} {R : Room} {s : State} {m : MethodId} {args : Array Value} {below : List Frame} {meth : Method} {c : Code} {H : Heap} {locs : List Loc} {cells slots : Nat} {Q : State → Prop}
variable {cc : ByteArray} {pc nL sz : Nat} {ls : Array Slot} {rest : List Value} {K : Cxt} {E : Nat → va_E} {z : Nat → Wh} {Ts : List Cond} {own : String} {A : Nat → Prop}
variable {y : MethodName} {ws : List Cond} {rm : Room} {bytes : ByteArray} {maxL n ix b : Nat} {ret : Option FieldType} {As st0 : List Value} {Cn : String}
theorem lw_fr (hA : ∀ q, s.heap.size ≤ q → A q) (hw : bd_W K E z A s.heap H locs) : ∀ q, bd_A K H.size q → A q := fun q h => by
  rcases h with h | h
  · obtain ⟨k, hk⟩ := va_pl_get (X := []) (f := bd_e K E z) h
    exact hw.2.1.2 k _ hk
  · exact hA q (Nat.le_trans hw.2.2.1 h)
theorem lw_kp_of {H1 : Heap} (hz : H.size ≤ H1.size) (hk : ∀ q : Nat, q < H.size → ¬ bd_A K H.size q → H1[q]? = H[q]?) : lw_kp K H H1 := ⟨hz, fun q h1 h2 => hk q h1 (fun h => by
  rcases h with h | h
  · exact h2 h
  · omega)⟩
theorem lw_ci {post : Int32 → bd_U → Prop} (C : bd_C p s m args c cc nL Ts own K) (hA : ∀ q, s.heap.size ≤ q → A q) (hM : Met l y ws rm (va_Pc (.ref b :: As) (bd_P K E z H.size)) (va_Qi post (bd_B K) (bd_A K H.size)) 0 0 (bd_A K H.size)) (cw : CallW R s args own Cn ix y bytes maxL ret ws rm 0 0 n) (hw : bd_W K E z A s.heap H locs) (hrv : ∃ cell : Cell, H[b]? = some cell ∧ cell.vm.isStatics = false ∧ s.vm.findClass Cn = some cell.cls) (hd : decode cc pc = .ok (.invokevirtual ix, 3)) (hn : As.length = n) (hls : ls.size = nL) (hst : st0 = As.reverse ++ .ref b :: rest) (hr8 : (rest.map fun v => v.category).sum ≤ 8) (hc : cells ≤ R.cells ∧ slots ≤ R.slots)
    (kk : ∀ (r : Int32) (E1 : Nat → va_E) (z1 : Nat → Wh) (H1 : Heap) (locs1 : List Loc), post r (E1, z1) → bd_W K E1 z1 A s.heap H1 locs1 → lw_kp K H H1 → W p l e R s m args below meth c H1 locs1 cells slots Q (F0 m (pc + 3) ls (.int r :: rest))) : W p l e R s m args below meth c H locs cells slots Q (F0 m pc ls st0) := by
  obtain ⟨hx, hb, hml, hown, hts, hK, hy, hNs⟩ := C
  refine va_calli (va_runV (As := As) (rest := rest) (b := b) ⟨hx, hb, hml, hown, hts⟩ hM cw ⟨bd_blind, hrv, fun U hU hW => ⟨rfl, by rw [hU], by rw [hU]; exact hw.1, va_K.moved hW.alike hK, ⟨hw.2.1.1, fun _ _ _ => trivial⟩, hy, hNs.warm hW⟩⟩ rfl hn hls hst (lv_room hr8) hd hc) hw.2.2 (fun q _ h => lw_fr hA hw q h) (lw_fr hA hw) (fun r u t H1 locs1 ht hvm hp hB hz hk hS => ?_)
  obtain ⟨h1, h2, h3⟩ := hB
  rw [ht] at h1
  exact kk r u.1 u.2 H1 locs1 hp ⟨h1, pl_D hw.2.1, hS⟩ (lw_kp_of hz hk)
theorem lw_cl {post : Int64 → bd_U → Prop} (C : bd_C p s m args c cc nL Ts own K) (hA : ∀ q, s.heap.size ≤ q → A q) (hM : Met l y ws rm (va_Pc (.ref b :: As) (bd_P K E z H.size)) (va_Ql post (bd_B K) (bd_A K H.size)) 0 0 (bd_A K H.size)) (cw : CallW R s args own Cn ix y bytes maxL ret ws rm 0 0 n) (hw : bd_W K E z A s.heap H locs) (hrv : ∃ cell : Cell, H[b]? = some cell ∧ cell.vm.isStatics = false ∧ s.vm.findClass Cn = some cell.cls) (hd : decode cc pc = .ok (.invokevirtual ix, 3)) (hn : As.length = n) (hls : ls.size = nL) (hst : st0 = As.reverse ++ .ref b :: rest) (hr8 : (rest.map fun v => v.category).sum ≤ 8) (hc : cells ≤ R.cells ∧ slots ≤ R.slots)
    (kk : ∀ (r : Int64) (E1 : Nat → va_E) (z1 : Nat → Wh) (H1 : Heap) (locs1 : List Loc), post r (E1, z1) → bd_W K E1 z1 A s.heap H1 locs1 → lw_kp K H H1 → W p l e R s m args below meth c H1 locs1 cells slots Q (F0 m (pc + 3) ls (.long r :: rest))) : W p l e R s m args below meth c H locs cells slots Q (F0 m pc ls st0) := by
  obtain ⟨hx, hb, hml, hown, hts, hK, hy, hNs⟩ := C
  refine va_calll (va_runV (As := As) (rest := rest) (b := b) ⟨hx, hb, hml, hown, hts⟩ hM cw ⟨bd_blind, hrv, fun U hU hW => ⟨rfl, by rw [hU], by rw [hU]; exact hw.1, va_K.moved hW.alike hK, ⟨hw.2.1.1, fun _ _ _ => trivial⟩, hy, hNs.warm hW⟩⟩ rfl hn hls hst (lv_room hr8) hd hc) hw.2.2 (fun q _ h => lw_fr hA hw q h) (lw_fr hA hw) (fun r u t H1 locs1 ht hvm hp hB hz hk hS => ?_)
  obtain ⟨h1, h2, h3⟩ := hB
  rw [ht] at h1
  exact kk r u.1 u.2 H1 locs1 hp ⟨h1, pl_D hw.2.1, hS⟩ (lw_kp_of hz hk)
theorem lw_keep {K2 : Cxt} {E2 : Nat → va_E} {z2 : Nat → Wh} {H1 : Heap} {locs1 : List Loc} (hw : bd_W K2 E2 z2 A s.heap H locs) (hk : lw_kp K H H1) (hd : ∀ q, q ∈ bd_L K2 → q ∉ bd_L K) (hS : va_S A s.heap H1 locs1) : bd_W K2 E2 z2 A s.heap H1 locs1 := by
  refine ⟨hw.1.kept (fun k q hq => hk.2 _ ((hw.1 k q hq).lt) (hd _ ?_)), hw.2.1, hS⟩
  exact List.mem_of_getElem? (pl_k hq).1
theorem lw_keepo {D : va_G} {o : Nat} {x : va_E} {H1 : Heap} (ho : va_P D vwCl [(o, x)] H) (hk : lw_kp K H H1) (hn : o ∉ bd_L K) : va_P D vwCl [(o, x)] H1 := by
  refine ho.kept (fun k q hq => ?_)
  have hz : k < 1 := (List.getElem?_eq_some_iff.mp hq).1
  rw [show k = 0 by omega] at hq
  cases hq
  exact hk.2 _ ((ho 0 _ rfl).lt) hn
/-- script[i + k] -/
theorem lw_rd {L i k : Nat} {k9 : Int} {xs : Nat → Int32} (hx : p.tables.exec = Jvm.exec) (hb : c.code = cc) (hX : va_X b L xs s s.heap) (hbl : b < s.heap.size) (hbA : ¬ A b) (hS : va_S A s.heap H locs) (h0 : ls[0]? = some (.val (.ref b))) (h4 : ls[4]? = some (.val (.int (nI i)))) (hk : i + k < L) (hL : L ≤ 3073) (hv : Int32.ofInt k9 = nI k) (d0 : decode cc pc = .ok (.aload_n 0, 1)) (d1 : decode cc (pc + 1) = .ok (.iload 4, 2)) (d2 : decode cc (pc + 1 + 2) = .ok (.iconst k9, 1)) (d3 : decode cc (pc + 1 + 2 + 1) = .ok (.iadd, 1)) (d4 : decode cc (pc + 1 + 2 + 1 + 1) = .ok (.iaload, 1))
    (kk : W p l e R s m args below meth c H locs cells slots Q (F0 m (pc + 1 + 2 + 1 + 1 + 1) ls (.int (xs (i + k)) :: rest))) : W p l e R s m args below meth c H locs cells slots Q (F0 m pc ls rest) := by
  refine lv_aload_n hx hb d0 rfl h0 ?_
  refine lv_iload hx hb d1 h4 ?_
  refine lv_iconst (v := nI k) hx hb d2 hv ?_
  refine bd_iadd (v := nI (i + k)) hx hb d3 (nI_add _ _) ?_
  refine va_sld hx hb hX hbl hbA hS (vp_in_nI (n := i + k) hk (by omega)) d4 ?_
  rw [nI_clamp (by omega)]
  exact kk
/-- a long out of two ints -/
def lw_j (x y : Int32) : Int64 := x.toInt64 <<< ((nI 32).toInt64 &&& 63) ||| (y.toInt64 &&& 4294967295)
theorem lw_rdL {L i k : Nat} {k9 k8 : Int} {xs : Nat → Int32} (hx : p.tables.exec = Jvm.exec) (hb : c.code = cc) (hown : s.vm.findClass own = some m.cls) (hcst : (Cond.constantLong own 27 4294967295).before args s = true) (hX : va_X b L xs s s.heap) (hbl : b < s.heap.size) (hbA : ¬ A b) (hS : va_S A s.heap H locs) (h0 : ls[0]? = some (.val (.ref b))) (h4 : ls[4]? = some (.val (.int (nI i)))) (hk : i + k + 1 < L) (hL : L ≤ 3073) (hv : Int32.ofInt k9 = nI k) (hv8 : Int32.ofInt k8 = nI (k + 1)) (d0 : decode cc pc = .ok (.aload_n 0, 1)) (d1 : decode cc (pc + 1) = .ok (.iload 4, 2)) (d2 : decode cc (pc + 1 + 2) = .ok (.iconst k9, 1)) (d3 : decode cc (pc + 1 + 2 + 1) = .ok (.iadd, 1)) (d4 : decode cc (pc + 1 + 2 + 1 + 1) = .ok (.iaload, 1))
    (d6 : decode cc (pc + 6) = .ok (.i2l, 1)) (d7 : decode cc (pc + 7) = .ok (.bipush 32, 2)) (d9 : decode cc (pc + 9) = .ok (.lshl, 1)) (d10 : decode cc (pc + 10) = .ok (.aload_n 0, 1)) (d11 : decode cc (pc + 10 + 1) = .ok (.iload 4, 2)) (d13 : decode cc (pc + 10 + 1 + 2) = .ok (.iconst k8, 1)) (d14 : decode cc (pc + 10 + 1 + 2 + 1) = .ok (.iadd, 1)) (d15 : decode cc (pc + 10 + 1 + 2 + 1 + 1) = .ok (.iaload, 1)) (d16 : decode cc (pc + 16) = .ok (.i2l, 1)) (d17 : decode cc (pc + 17) = .ok (.ldc2_w 27, 3)) (d20 : decode cc (pc + 20) = .ok (.land, 1)) (d21 : decode cc (pc + 21) = .ok (.lor, 1))
    (kk : W p l e R s m args below meth c H locs cells slots Q (F0 m (pc + 22) ls (.long (lw_j (xs (i + k)) (xs (i + (k + 1)))) :: rest))) : W p l e R s m args below meth c H locs cells slots Q (F0 m pc ls rest) := by
  refine lw_rd hx hb hX hbl hbA hS h0 h4 (by omega) hL hv d0 d1 d2 d3 d4 ?_
  refine bd_i2l hx hb d6 rfl ?_
  refine lv_bipush (v := nI 32) hx hb d7 (by decide) ?_
  refine lv_lshl hx hb d9 rfl ?_
  refine lw_rd (pc := pc + 10) hx hb hX hbl hbA hS h0 h4 (by omega) hL hv8 d10 d11 d13 d14 d15 ?_
  refine bd_i2l hx hb d16 rfl ?_
  refine lv_ldc2 (own := own) (v := 4294967295) hx hb hown hcst d17 ?_
  refine lv_land hx hb d20 ?_
  exact lv_lor hx hb d21 kk
end LWR
/-- what stays in the law -/
def lw_X (p : Program) (s : State) (m : MethodId) (c : Code) (b L : Nat) (xs : Nat → Int32) (K1 K2 : Cxt) (o : Nat) : Prop := bd_C p s m #[Value.ref b] c cL_law 8 wsL_law RL K1 ∧ bd_C p s m #[Value.ref b] c cL_law 8 wsL_law RL K2 ∧ va_X b L xs s s.heap ∧ b < s.heap.size ∧ L ≤ 3073 ∧ (∀ q, q ∈ bd_L K1 → q ∉ bd_L K2) ∧ o ∉ bd_L K1 ∧ o ∉ bd_L K2 ∧ s.heap.size ≤ o
abbrev lw_Af (s : State) : Nat → Prop := fun q => s.heap.size ≤ q
/-- both sides hold the same numbers -/
def lw_I (K1 K2 : Cxt) (P : Nat) (a B mo : Nat → Nat) (o : Nat) (s : State) (mu ra : Nat → Int) (H : Heap) (locs : List Loc) : Prop := ∃ (E1 : Nat → va_E) (z1 : Nat → Wh) (sg : Nat → Int) (E2 : Nat → va_E) (z2 : Nat → Wh) (th : Int32) (rg : Nat → Int) (ov : Nat → Int64), bk_at K1 E1 P a B ∧ sg_S K1 z1 sg ∧ bk_iv P B sg mu ra ∧ md_v K2 E2 mo th P rg ∧ md_iv P rg mu ra ∧ bd_W K1 E1 z1 (lw_Af s) s.heap H locs ∧ bd_W K2 E2 z2 (lw_Af s) s.heap H locs ∧ va_P (bd_D K1) vwCl (lq_o K1 o ov) H
abbrev lw_lv (b : Nat) (a mo : Nat → Nat) (o i : Nat) : List (Nat × Value) := [(0, .ref b), (1, .ref (a 0)), (2, .ref (mo 0)), (3, .ref o), (4, .int (nI i))]
/-- the loop goes on -/
def lw_N (p : Program) (l : Launch) (e : Env) (s : State) (m : MethodId) (below : List Frame) (meth : Method) (c : Code) (b : Nat) (K1 K2 : Cxt) (P : Nat) (a B mo : Nat → Nat) (o i cells slots : Nat) (Q : State → Prop) : Prop := ∀ (mu ra : Nat → Int) (H : Heap) (locs : List Loc) (ls : Array Slot), lw_I K1 K2 P a B mo o s mu ra H locs → lv_has ls 8 (lw_lv b a mo o i) → W p l e room_1 s m #[Value.ref b] below meth c H locs (cells + 1) (slots + 6) Q (F0 m 1121 ls [])
theorem lw_fin {K1 K2 : Cxt} {P : Nat} {a B mo : Nat → Nat} {o : Nat} {s : State} {t : dk_T} {H : Heap} {locs : List Loc} {r1 r2 : Int32} {E1 : Nat → va_E} {z1 : Nat → Wh} {E2 : Nat → va_E} {z2 : Nat → Wh} {ov : Nat → Int64} (hp1 : bk_post K1 P a B t r1 (E1, z1)) (hp2 : md_post K2 mo P t r2 (E2, z2)) (hw1 : bd_W K1 E1 z1 (lw_Af s) s.heap H locs) (hw2 : bd_W K2 E2 z2 (lw_Af s) s.heap H locs) (ho : va_P (bd_D K1) vwCl (lq_o K1 o ov) H) : r1 = r2 ∧ lw_I K1 K2 P a B mo o s t.2.1 t.2.2 H locs := by
  obtain ⟨e1, h1, sg, h2, h3⟩ := hp1
  obtain ⟨e2, th, rg, h4, h5⟩ := hp2
  exact ⟨e1.trans e2.symm, E1, z1, sg, E2, z2, th, rg, ov, h1, h2, h3, h4, h5, hw1, hw2, ho⟩
