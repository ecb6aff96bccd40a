/-! the law: its start -/
theorem lw_Xblind {b L : Nat} {xs : Nat → Int32} {sz : Nat} {av : List Value} : FrameBlind (va_Pc av (lw_Xp b L xs sz)) := fun a U g mk q => by
  obtain ⟨q0, q1, q2, q3⟩ := q
  exact ⟨q0, q1, va_X.moved (u := U) (U := U.calling g mk a) (Vm.Alike.refl U.vm) q2, q3⟩
theorem np_blind4 {D : va_G} {T : np_T} {L : List Nat} {f : Nat → va_E} {sz : Nat} {av : List Value} : FrameBlind (va_Pc av (fun U => np_P D T L f sz U ∧ va_AO "BallDesk$Ball" U)) := fun a U g mk q => by
  obtain ⟨q0, ⟨q1, qP, qK, qD, qn⟩, q2⟩ := q
  exact ⟨q0, ⟨q1, qP, va_K.moved (u := U) (U := U.calling g mk a) (Vm.Alike.refl U.vm) qK, qD, fun w hw => va_Nw.same (u := U) (U := U.calling g mk a) (bd_nlt w hw) rfl (qn w hw)⟩, va_AO.moved (u := U) (U := U.calling g mk a) (Vm.Alike.refl U.vm) q2⟩
section LWM
variable {p : Program} {l : Launch} {e : Env} {s : State} {m : MethodId} {below : List Frame} {meth : Method} {c : Code} {H : Heap} {locs : List Loc} {cells slots : Nat} {Q : State → Prop}
variable {pc b L : Nat} {xs : Nat → Int32} {ls : Array Slot} {D : va_G} {T : np_T} {W0 : va_W} {C0 : String} {T0 : u_T} {N ci i7 i9 k mc ms maxL : Nat} {fs : List Value} {y : MethodName} {ws : List Cond} {rm : Room} {bytes : ByteArray}
/-- new X(cell(script, 0)) -/
theorem lw_make {X : (Nat → Nat) → (Nat → va_E) → Prop} {PX : (Nat → Nat) → (Nat → va_E) → Nat → State → Prop} (hPX : ∀ ad f sz U, np_P D T (ix_L ad 1) f sz U → va_AO "BallDesk$Ball" U → PX ad f sz U) (hbd : ∀ ad f sz av, FrameBlind (va_Pc av (PX ad f sz)))
    (hM : ∀ (ad : Nat → Nat) (f : Nat → va_E) (sz : Nat), f (ad 0) = .inr (ci, fs) → Met l y ws rm (va_Pc [.ref (ad 0), .int (lw_c0 L xs)] (PX ad f sz)) (va_Qv (ix_q 1 k 0 ad f X) (np_B D T (ix_L ad 1) sz) (np_A (ix_L ad 1) sz)) mc ms (np_A (ix_L ad 1) sz))
    (hx : p.tables.exec = Jvm.exec) (hb : c.code = cL_law) (hml : c.maxLocals = 8) (hown : s.vm.findClass RL = some m.cls) (hts : ∀ w ∈ wsL_law, w.before #[Value.ref b] s = true) (hX : va_X b L xs s s.heap) (hbl : b < s.heap.size) (hL : L ≤ 3073) (hK : va_K D vwCl (np_t T) s) (hNs : bd_Ns s) (hAO : va_AO "BallDesk$Ball" s)
    (hi : ∀ w ∈ u_ws C0 T0 N, w ∈ wsL_law) (ty : Nat → FieldType) (hty : ∀ k, k < N → parseFieldDescriptor (T0 k).2.2.1 = some (ty k)) (hcl : Cond.classLink RL i7 C0 ∈ wsL_law) (hinst : Cond.instantiable C0 N ∈ wsL_law) (hini : Cond.initialized C0 ∈ wsL_law) (hc : vwCl[ci]? = some (C0, T0, N)) (hfs : ∀ j, j < N → defaultValue (ty j) = vp_V fs j)
    (cw : CallB room_1 s #[Value.ref b] RL i9 y bytes maxL none ws rm mc ms 1 ∧ y.name = "<init>" ∧ (Cond.instanceMethod y).before #[Value.ref b] s = true) (hls : ls.size = 8) (h0 : ls[0]? = some (.val (.ref b))) (hcc : cells + 1 + mc ≤ room_1.cells ∧ slots + N + ms ≤ room_1.slots)
    (hP0 : va_P D vwCl W0 H) (hD0 : va_D (lw_Af s) W0) (hS0 : va_S (lw_Af s) s.heap H locs)
    (hd0 : decode cL_law pc = .ok (.new i7, 3)) (hd1 : decode cL_law (pc + 3) = .ok (.dup, 1)) (hd2 : decode cL_law (pc + 3 + 1) = .ok (.aload_n 0, 1)) (hd3 : decode cL_law (pc + 3 + 1 + 1) = .ok (.iconst 0, 1)) (hd4 : decode cL_law (pc + 3 + 1 + 1 + 1) = .ok (.invokestatic 15, 3)) (hd5 : decode cL_law (pc + 3 + 1 + 1 + 1 + 3) = .ok (.invokespecial i9, 3))
    (kk : ∀ (ad1 : Nat → Nat) (f1 : Nat → va_E) (H1 : Heap) (locs1 : List Loc), X ad1 f1 → va_P D vwCl W0 H1 → va_P D vwCl (va_pl (ix_L ad1 (1 + k)) f1) H1 → va_D (lw_Af s) (va_pl (ix_L ad1 (1 + k)) f1) → (∀ q, q ∈ ix_L ad1 (1 + k) → ∀ (j : Nat) (x : Nat × va_E), W0[j]? = some x → x.1 ≠ q) → va_S (lw_Af s) s.heap H1 locs1 →
      W p l e room_1 s m #[Value.ref b] below meth c H1 locs1 (cells + 1 + mc) (slots + N + ms) Q (F0 m (pc + 12) ls [.ref (ad1 0)])) : W p l e room_1 s m #[Value.ref b] below meth c H locs cells slots Q (F0 m pc ls []) := by
  have hbA : ¬ lw_Af s b := Nat.not_le.mpr hbl
  refine va_new hx hb hts hi ty hty hown (hts _ hcl) (hts _ hinst) (hts _ hini) hK hP0 hD0 hS0 (fun _ h => h) hc hfs (by omega) (by omega) hd0 (fun q H1 h1 h2 h3 => ?_)
  have hqw : (W0 ++ ([(q, .inr (ci, fs))] : va_W))[W0.length]? = some (q, (.inr (ci, fs) : va_E)) := by
    rw [List.getElem?_append_right (Nat.le_refl _), Nat.sub_self]
    rfl
  have hqA : s.heap.size ≤ q := h2.2 W0.length _ hqw
  have hne : ∀ (j : Nat) (x : Nat × va_E), W0[j]? = some x → x.1 ≠ q := fun j x hj he => by
    have hlt : j < W0.length := (List.getElem?_eq_some_iff.mp hj).1
    have := h2.1 j W0.length x _ (by rw [List.getElem?_append_left hlt]; exact hj) hqw he
    omega
  refine lv_dup hx hb hd1 rfl ?_
  refine lv_aload_n hx hb hd2 rfl h0 ?_
  refine lv_iconst (v := nI 0) hx hb hd3 (by decide) ?_
  have hbH : va_X b L xs s H1 := hX.kept (h3.2.1 b hbl hbA)
  refine va_calli (va_runS (As := [.ref b, .int (nI 0)]) (rest := [.ref q, .ref q]) ⟨hx, hb, hml, hown, hts⟩ (lw_cell l b L xs H1.size hL) (va_cwS 2 hts gL_law_L_cell rfl rfl rfl (by decide +kernel) ⟨Nat.le_of_ble_eq_true rfl, Nat.le_of_ble_eq_true rfl⟩) ⟨lw_Xblind, fun U hU hW => ⟨rfl, by rw [hU], by rw [hU]; exact va_X.moved hW.alike hbH, by rw [hU]; exact Nat.lt_of_lt_of_le hbl h3.1⟩⟩ rfl rfl hls rfl (lv_room (Nat.le_of_ble_eq_true rfl)) hd4 ⟨by omega, by omega⟩) h3 (fun q h1 h2 => absurd h1 (Nat.not_lt.mpr h2)) (fun q h => Nat.le_trans h3.1 h) (fun r u t H2 locs2 ht hvm hp hB hz hk hS2 => ?_)
  have hp : r = lw_c0 L xs := hp
  subst hp
  have hP2 : va_P D vwCl (W0 ++ ([(q, .inr (ci, fs))] : va_W)) H2 := h1.kept (fun k x hx => hk _ (h1 k x hx).lt (Nat.not_le.mpr (h1 k x hx).lt))
  have hPq : va_P D vwCl (va_pl (ix_L (fun _ => q) 1) (fun _ => .inr (ci, fs))) H2 := by
    have h9 := lq_r hP2
    exact h9
  have hDq : va_D (lw_Af s) (va_pl (ix_L (fun _ => q) 1) (fun _ => .inr (ci, fs))) := by
    have h9 := lq_dr h2
    exact h9
  have hfr : ∀ q', np_A (ix_L (fun _ => q) 1) H2.size q' → lw_Af s q' := fun q' h => by
    rcases h with h | h
    · obtain ⟨i, -, rfl⟩ := ix_of h
      exact hqA
    · exact Nat.le_trans hS2.1 h
  have hW2 : va_P D vwCl W0 H2 := lq_l hP2
  refine va_callv (va_runI (As := [.int (lw_c0 L xs)]) (rest := [.ref q]) (b := q) ⟨hx, hb, hml, hown, hts⟩ (hM (fun _ => q) (fun _ => .inr (ci, fs)) H2.size rfl) cw ⟨hbd _ _ _ _, fun U hU hW => ⟨rfl, hPX _ _ _ U ⟨by rw [hU], by rw [hU]; exact hPq, va_K.moved hW.alike hK, ⟨hDq.1, fun _ _ _ => trivial⟩, hNs.warm hW⟩ (va_AO.moved hW.alike hAO)⟩⟩ rfl rfl hls rfl (lv_room (Nat.le_of_ble_eq_true rfl)) hd5 ⟨by omega, by omega⟩) hS2 (fun q' _ h => hfr q' h) hfr (fun u t H3 locs3 ht hvm hp hB hz hk hS3 => ?_)
  obtain ⟨ad1, he, hL1, -, hX1⟩ := hp
  obtain ⟨g1, -, g3⟩ := hB
  rw [ht, hL1] at g1
  rw [hL1] at g3
  have e0 : ad1 0 = q := he 0 (by decide)
  have hna : ∀ (j : Nat) (x : Nat × va_E), W0[j]? = some x → ¬ np_A (ix_L (fun _ => q) 1) H2.size x.1 := fun j x hj h => by
    rcases h with h | h
    · obtain ⟨i, -, h⟩ := ix_of h
      exact hne j x hj h.symm
    · exact Nat.not_le.mpr (hW2 j x hj).lt h
  have hk3 := kk ad1 u.2 H3 locs3 hX1 (hW2.kept (fun j x hj => hk _ (hW2 j x hj).lt (hna j x hj))) g1 ⟨g3.1, fun j x hj => hfr _ (g3.2 j x hj)⟩ (fun q' hq' j x hj hxe => by
    obtain ⟨i, hi⟩ := va_pl_get (X := []) (f := u.2) hq'
    exact hna j x hj (by rw [hxe]; exact g3.2 i _ hi)) hS3
  rw [e0] at hk3
  exact hk3
end LWM
set_option maxHeartbeats 4000000 in
set_option maxRecDepth 100000 in
/-- from the entry, for every script of at most 3073 ints, the law comes to its end with true -/
theorem whole_start {p : Program} {e : Env} {s : State} {m : MethodId} {below : List Frame} {meth : Method} {c : Code} (l : Launch) (htr : l.stackTraces = false) {b L : Nat} {xs : Nat → Int32} (hL : L ≤ 3073) (C0 : lw_At p s m meth c b L xs) : W p l e room_1 s m #[Value.ref b] below meth c s.heap [] 0 0 (lw_Z below #[Value.ref b] s) (entryFrame m ([Value.ref b] : List Value).toArray 8) := by
  obtain ⟨D, T, sa, hK, hNs, hAO, hLB, hst, hZ1, hZ2⟩ := lw_s0 C0
  obtain ⟨hx, hb, hr, hml, hown, hts0, hX, hbl, hlocks, hgv⟩ := C0
  have hts : ∀ w ∈ wsL_law, w.before #[Value.ref b] s = true := fun w h => hts0 w (wsL_law_in w h)
  have hPb := dk_bitsb (lw_c0 L xs)
  have hl := lv_entry [.ref b] (n := 8) (Nat.le_of_ble_eq_true rfl)
  rw [lg_entry_eq]
  generalize (lg_sl ([.ref b]) ++ List.replicate (8 - (lg_sl ([.ref b])).length) Slot.unset).toArray = ls at hl ⊢
  have hl : lv_has ls 8 [(0, .ref b)] := hl
  refine lw_make (W0 := []) (D := D) (T := T) (X := ix_X4 T (dk_bits (lw_c0 L xs)) 1 0) (PX := fun ad f sz U => np_P D T (ix_L ad 1) f sz U ∧ va_AO "BallDesk$Ball" U) (C0 := RX4) (T0 := TX4) (N := 11) (ci := 4) (fs := [.int 0, .null, .null, .null, .null, .null, .null, .null, .null, .null, .null]) (k := 105) (fun _ _ _ _ h1 h2 => ⟨h1, h2⟩) (fun _ _ _ _ => np_blind4) (fun ad f sz hf => i4_init l D T 1 ad f sz 0 (lw_c0 L xs) (by decide) hf) hx hb hml hown hts hX hbl hL hK hNs hAO inlX4 tyX4 tyX4_ok (by decide +kernel) (by decide +kernel) (by decide +kernel) rfl (fun j hj => by rcases (show j = 0 ∨ j = 1 ∨ j = 2 ∨ j = 3 ∨ j = 4 ∨ j = 5 ∨ j = 6 ∨ j = 7 ∨ j = 8 ∨ j = 9 ∨ j = 10 by omega) with rfl | rfl | rfl | rfl | rfl | rfl | rfl | rfl | rfl | rfl | rfl <;> rfl) (cwI 1 hts gL_law_X4_init rfl rfl rfl (hts (.initialized RX4) (by decide +kernel)) (hts (.methodLink RL 21 yX4_init) (by decide +kernel)) (hts (.instanceMethod yX4_init) (by decide +kernel)) rfl (by decide +kernel) ⟨Nat.le_of_ble_eq_true rfl, Nat.le_of_ble_eq_true rfl⟩) hl.1 (lv_at hl 0 rfl) ⟨Nat.le_of_ble_eq_true rfl, Nat.le_of_ble_eq_true rfl⟩ (fun k q h => by simp at h) ⟨fun i j p q h => by simp at h, fun k q h => by simp at h⟩ va_S.rf dL_law_0 dL_law_3 dL_law_4 dL_law_5 dL_law_6 dL_law_9 (fun ad1 f1 H locs hX4 _ hP hD _ hS => ?_)
  obtain ⟨K1, E1, z1, a, B, sg, hD1, hT1, hL1, ha0, hy1, hbk, hsg, hiv, hP1, hDD⟩ := bk_start hPb hP hD hX4
  refine lv_astore_n (i := 1) (lv' := [(1, .ref (ad1 0)), (0, .ref b)]) hx hb dL_law_12 rfl hl (by decide) rfl (fun ls hl => ?_)
  refine lw_make (W0 := va_pl (bd_L K1) (bd_e K1 E1 z1)) (D := D) (T := T) (X := ix_X5 D T (dk_bits (lw_c0 L xs))) (PX := fun ad f sz U => np_P D T (ix_L ad 1) f sz U) (C0 := RX5) (T0 := TX5) (N := 7) (ci := 5) (fs := [.int 0, .int 0, .int 0, .null, .null, .null, .null]) (k := 4) (fun _ _ _ _ h1 _ => h1) (fun _ _ _ _ => np_blind) (fun ad f sz hf => i5_init l D T ad f sz (lw_c0 L xs) hf) hx hb hml hown hts hX hbl hL hK hNs hAO inlX5 tyX5 tyX5_ok (by decide +kernel) (by decide +kernel) (by decide +kernel) rfl (fun j hj => by rcases (show j = 0 ∨ j = 1 ∨ j = 2 ∨ j = 3 ∨ j = 4 ∨ j = 5 ∨ j = 6 by omega) with rfl | rfl | rfl | rfl | rfl | rfl | rfl <;> rfl) (cwI 1 hts gL_law_X5_init rfl rfl rfl (hts (.initialized RX5) (by decide +kernel)) (hts (.methodLink RL 26 yX5_init) (by decide +kernel)) (hts (.instanceMethod yX5_init) (by decide +kernel)) rfl (by decide +kernel) ⟨Nat.le_of_ble_eq_true rfl, Nat.le_of_ble_eq_true rfl⟩) hl.1 (lv_at hl 1 rfl) ⟨Nat.le_of_ble_eq_true rfl, Nat.le_of_ble_eq_true rfl⟩ hP1 hDD hS dL_law_13 dL_law_16 dL_law_17 dL_law_18 dL_law_19 dL_law_22 (fun ad2 f2 H2 locs2 hX5 hW1 hP2 hD2 hdis hS2 => ?_)
  obtain ⟨rg, hv, hiv2⟩ := hX5
  refine lv_astore_n (i := 2) (lv' := [(2, .ref (ad2 0)), (1, .ref (ad1 0)), (0, .ref b)]) hx hb dL_law_25 rfl hl (by decide) rfl (fun ls hl => ?_)
  refine lv_iconst (v := 1) hx hb dL_law_26 (by decide) ?_
  refine va_newaK (atype := .long) (N := 1) (h := H2.size) hx hb (hts (.arrayClass .long) (by decide +kernel)) rfl dL_law_27 rfl (by decide) (by decide) (by decide) (Nat.le_of_ble_eq_true rfl) (Nat.le_of_ble_eq_true rfl) rfl (fun H3 cA e1 e2 e3 e4 e5 => ?_)
  have hA : cA = T.2.1 := by
    have q1 : s.vm.findClass ("[" ++ (FieldType.long).toString) = some cA := e5
    have q2 : s.vm.findClass ("[" ++ (FieldType.long).toString) = some T.2.1 := (hK.2 1 _ rfl).2
    exact Option.some.inj (q1.symm.trans q2)
  subst hA
  have hS3 : va_S (lw_Af s) s.heap H3 locs2 := ⟨by have := hS2.1; omega, fun q h1 h2 => (e3 q (Nat.lt_of_lt_of_le h1 hS2.1)).trans (hS2.2.1 q h1 h2), hS2.2.2⟩
  have hw1 : bd_W K1 E1 z1 (lw_Af s) s.heap H3 locs2 := ⟨by rw [hD1]; exact hW1.kept (fun k q hq => e3 _ (hW1 k q hq).lt), hDD, hS3⟩
  have hw2 : bd_W (np_K0 D T (ix_L ad2 5)) f2 (fun _ => (0, 0, fun _ => 0)) (lw_Af s) s.heap H3 locs2 := by
    unfold bd_W
    rw [np_e0]
    exact ⟨hP2.kept (fun k q hq => e3 _ (hP2 k q hq).lt), hD2, hS3⟩
  have ho : va_P (bd_D K1) vwCl (lq_o K1 H2.size (fun _ => lN 0)) H3 := by
    intro k q hq
    have hz : k < 1 := (List.getElem?_eq_some_iff.mp hq).1
    rw [show k = 0 by omega] at hq
    cases hq
    show H3[H2.size]? = some (vp_cell _ _)
    have hJ : bd_J K1 = T.2.1 := by
      show K1.2.1.2.1 = T.2.1
      rw [hT1]
    rw [hJ]
    exact e1
  have hn1 : H2.size ∉ bd_L K1 := fun h => by
    obtain ⟨k, hk⟩ := va_pl_get (X := []) (f := bd_e K1 E1 z1) h
    exact Nat.lt_irrefl _ (hW1 k _ hk).lt
  have hn2 : H2.size ∉ ix_L ad2 5 := fun h => by
    obtain ⟨k, hk⟩ := va_pl_get (X := []) (f := f2) h
    exact Nat.lt_irrefl _ (hP2 k _ hk).lt
  have hd12 : ∀ q, q ∈ bd_L K1 → q ∉ ix_L ad2 5 := fun q h1 h2 => by
    obtain ⟨k, hk⟩ := va_pl_get (X := []) (f := bd_e K1 E1 z1) h1
    exact hdis q h2 k _ hk rfl
  refine W.eq (g2 := F0 m 29 ls [.ref H2.size]) rfl ?_
  refine lv_astore_n (i := 3) (lv' := [(3, .ref H2.size), (2, .ref (ad2 0)), (1, .ref (ad1 0)), (0, .ref b)]) hx hb dL_law_29 rfl hl (by decide) rfl (fun ls hl => ?_)
  refine lv_iconst (v := nI 1) hx hb dL_law_30 (by decide) ?_
  refine lv_istore (lv' := [(4, .int (nI 1)), (3, .ref H2.size), (2, .ref (ad2 0)), (1, .ref (ad1 0)), (0, .ref b)]) hx hb dL_law_31 hl (by decide) rfl (fun ls hl => ?_)
  have hl : lv_has ls 8 (lw_lv b a ad2 H2.size 1) := by
    unfold lw_lv
    rw [ha0]
    exact lv_sub hl [4, 3, 2, 1, 0] rfl
  have hK1 : va_K (bd_D K1) vwCl (bd_t K1) s := by
    unfold bd_t bd_I bd_J bd_O
    rw [hD1, hT1]
    exact hK
  exact lw_loop (K1 := K1) (K2 := np_K0 D T (ix_L ad2 5)) (P := dk_bits (lw_c0 L xs)) (a := a) (B := B) (mo := ad2) (o := H2.size) (xs := xs) ⟨htr, hLB, hst, hZ1, hZ2⟩ ⟨⟨hx, hb, hml, hown, hts, hK1, hy1, hNs⟩, ⟨hx, hb, hml, hown, hts, hK, fun b h => absurd h List.not_mem_nil, hNs⟩, hX, hbl, hL, hd12, hn1, hn2, hS2.1⟩ hr hlocks 512 1 _ _ (fun _ => 0) (fun _ => 0) H3 locs2 ls (by omega) (by decide) (by decide) (Nat.le_of_ble_eq_true rfl) (Nat.le_of_ble_eq_true rfl) ⟨E1, z1, sg, f2, _, nI 0, rg, (fun _ => lN 0), hbk, hsg, hiv, hv, hiv2, hw1, hw2, ho⟩ hl
